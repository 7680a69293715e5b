section
/-! THE SMALL MACHINE IS SOUND: what it says a method does, the machine does. -/
theorem swt_some {x : Int32} {d : Nat} {f : Nat → Option MO} {r : MO} : ∀ (l : List (Int32 × Nat)), swt x d l f = some r → (∃ (k : Nat) (q : Int32 × Nat), l[k]? = some q ∧ x = q.1 ∧ f q.2 = some r) ∨ ((∀ (k : Nat) (q : Int32 × Nat), l[k]? = some q → x ≠ q.1) ∧ f d = some r)
  | [], h => Or.inr ⟨fun k q hq => by simp at hq, h⟩
  | q :: l, h => by
    unfold swt at h
    by_cases e : x = q.1
    · rw [if_pos e] at h
      exact Or.inl ⟨0, q, rfl, e, h⟩
    · rw [if_neg e] at h
      rcases swt_some l h with ⟨k, q', h1, h2, h3⟩ | ⟨h1, h2⟩
      · exact Or.inl ⟨k + 1, q', h1, h2, h3⟩
      · refine Or.inr ⟨fun k q' hq => ?_, h2⟩
        cases k with
        | zero => cases hq; exact e
        | succ k => exact h1 k q' hq
theorem swB_get {pc : Nat} : ∀ (v : Int) (os : List Int) (l : List (Int32 × Nat)), swB pc v os l = true → os.length = l.length ∧ ∀ (k : Nat) (q : Int32 × Nat), l[k]? = some q → ∃ o, os[k]? = some o ∧ q.1.toInt = v + k ∧ (pc : Int) + o = (q.2 : Int)
  | v, [], [], _ => ⟨rfl, fun k q h => by simp at h⟩
  | v, [], q :: l, h => by cases h
  | v, o :: os, [], h => by cases h
  | v, o :: os, q :: l, h => by
    simp only [swB, Bool.and_eq_true, decide_eq_true_eq] at h
    obtain ⟨h1, h2⟩ := swB_get (v + 1) os l h.2
    refine ⟨by simp [h1], fun k q' hq => ?_⟩
    cases k with
    | zero => cases hq; exact ⟨o, rfl, by rw [h.1.1]; simp, h.1.2⟩
    | succ k =>
      obtain ⟨o', a1, a2, a3⟩ := h2 k q' hq
      exact ⟨o', a1, by rw [a2]; push_cast; omega, a3⟩
theorem swL_off {pc : Nat} {x : Int32} {dd : Int} {d : Nat} {f : Nat → Option MO} {r : MO} (hd : (pc : Int) + dd = (d : Int)) : ∀ (ps : List (Int × Int)) (l : List (Int32 × Nat)), swL pc ps l = true → swt x d l f = some r → ∃ t, f t = some r ∧ (pc : Int) + Op.lookupswitch.offset ps dd x.toInt = (t : Int)
  | [], [], _, h => ⟨d, h, hd⟩
  | [], q :: l, h, _ => by cases h
  | o :: os, [], h, _ => by cases h
  | (oa, ob) :: os, q :: l, h, h2 => by
    simp only [swL, Bool.and_eq_true, decide_eq_true_eq] at h
    unfold swt at h2
    by_cases e : x = q.1
    · rw [if_pos e] at h2
      exact ⟨q.2, h2, by rw [Op.lookupswitch.offset_cons, if_pos (by rw [e, h.1.1])]; exact h.1.2⟩
    · rw [if_neg e] at h2
      obtain ⟨t, a1, a2⟩ := swL_off hd os l h.2 h2
      refine ⟨t, a1, ?_⟩
      rw [Op.lookupswitch.offset_cons, if_neg (fun hz => e (Int32.toInt_inj.mp (by rw [h.1.1]; exact hz.symm)))]
      exact a2
theorem psh_some {rk : Nat} {v : MO} {r : List MV} {f : List MV → MH → Option MO} {x : MO} (h : psh rk v r f = some x) : f (v.1.toList ++ r) v.2 = some x := by
  obtain ⟨v1, v2⟩ := v
  unfold psh at h
  split at h
  · obtain ⟨y, hy, h⟩ := bnd_some h
    match v1, hy with
    | none, _ => exact h
  · obtain ⟨y, hy, h⟩ := bnd_some h
    match v1, hy with
    | some (Sum.inl z), hy => cases hy; exact h
  · obtain ⟨y, hy, h⟩ := bnd_some h
    match v1, hy with
    | some (Sum.inr (Sum.inr z)), hy => cases hy; exact h
def rkOk (rk : Nat) (ret : Option FieldType) : Prop := (rk = 0 ∧ ret = none) ∨ (rk = 1 ∧ ret = some .int) ∨ (rk = 2 ∧ ret = some .boolean) ∨ (rk = 3 ∧ ∃ n, ret = some (.object n))
theorem rng {x : Int32} {lo hi : Int} {n : Nat} (h : hi + 1 = lo + n) (hno : ∀ k, k < n → x.toInt ≠ lo + k) : x.toInt < lo ∨ hi < x.toInt := by
  rcases Int.lt_or_le x.toInt lo with q | q
  · exact Or.inl q
  · rcases Int.lt_or_le hi x.toInt with q2 | q2
    · exact Or.inr q2
    · exact absurd (by omega : x.toInt = lo + ((x.toInt - lo).toNat : Nat)) (hno (x.toInt - lo).toNat (by omega))
section SND
variable {p : Program} {l : Launch} {e : Env} {R : Room} {s : State} {m : MethodId} {args : Array Value} {below : List Frame} {meth : Method} {c : Code}
variable {cc : ByteArray} {D : va_G} {cy : Nat → ClassId} {base : Nat} {z0 w0 nL FR LC : Nat} {u' : MH} {rr : Option MV} {T : MT} {own : String} {ini : Bool} {fi : List (Nat × Nat × Bool)} {ci : List (Nat × INF)} {ret : Option FieldType}
def Gd (p : Program) (l : Launch) (e : Env) (R : Room) (s : State) (m : MethodId) (args : Array Value) (below : List Frame) (meth : Method) (c : Code) (D : va_G) (cy : Nat → ClassId) (base z0 w0 nL : Nat) (u' : MH) (rr : Option MV) (pc : Nat) (lo : MLs) (o : List MV) (u : MH) : Prop :=
  (sz u ≤ sz u' ∧ sl u ≤ sl u') ∧ ∀ (H : Heap) (locs : List Loc) (ls : Array Slot) (cells slots : Nat), HR D cy base u H → va_S (fun q => base ≤ q) s.heap H locs → LR base ls nL lo → z0 + cells = sz u → w0 + slots = sl u →
    W p l e R s m args below meth c H locs cells slots (MQ below (mQ D cy base u' rr) args s (sz u' - z0) (sl u' - w0) (fun q => base ≤ q)) (F0 m pc ls (o.map (mval base)))
def Cx (p : Program) (R : Room) (s : State) (m : MethodId) (args : Array Value) (meth : Method) (c : Code) (cc : ByteArray) (D : va_G) (cy : Nat → ClassId) (z0 w0 nL FR LC : Nat) (u' : MH) (T : MT) (own : String) (ini : Bool) (fi : List (Nat × Nat × Bool)) (ci : List (Nat × INF)) (ret : Option FieldType) : Prop :=
  p.tables.exec = Jvm.exec ∧ c.code = cc ∧ c.maxLocals = nL ∧ s.vm.findClass own = some m.cls ∧ (∀ w ∈ lw_good, w.before args s = true) ∧ va_K D mcl (mty cy) s ∧ NW s ∧ meth.locks = false ∧ meth.sig.returnType = ret ∧ rkOk T.2.2.2.2 ret ∧ (ini = true → meth.name = "<init>") ∧ (R.frames = FR ∧ R.locals = LC ∧ R.cells = sz u' - z0 ∧ R.slots = sl u' - w0) ∧ all2 (fChk own) T.2.2.1 fi = true ∧ all2 (cChk own FR LC) T.2.2.2.1 ci = true ∧ SdAll T.2.2.2.1 ci
theorem fld_ok (C : Cx p R s m args meth c cc D cy z0 w0 nL FR LC u' T own ini fi ci ret) {i : Nat} {g : Nat × Nat × Nat} (h : lk i T.2.2.1 = some g) : g.1 ≤ 10 ∧ g.2.1 < nfl g.1 ∧ ftc (tyc g.1 g.2.1) = g.2.2 ∧ FLk own i g.1 g.2.1 s args ∧ ∃ f, lk i fi = some f ∧ (f.2 = false → (Cond.fieldLink own i (RXc g.1) (TXc g.1 g.2.1).2.1 (TXc g.1 g.2.1).2.2.1).before args s = true) := by
  obtain ⟨hx, hb, hml, hown, hts, hK, hN, hlk, hrt, hrk, hini, hR, hF, hC, hA⟩ := C
  obtain ⟨f, hf, hchk⟩ := all2_lk _ _ hF (fun x y hxy => by
    simp only [fChk, Bool.and_eq_true] at hxy
    exact Nat.eq_of_beq_eq_true hxy.1.1.1.1) h
  simp only [fChk, Bool.and_eq_true] at hchk
  obtain ⟨⟨⟨⟨-, h1⟩, h2⟩, h3⟩, h4⟩ := hchk
  have hnest : f.2 = true → (Cond.fieldLinkNest own i (RXc g.1) (TXc g.1 g.2.1).2.1 (TXc g.1 g.2.1).2.2.1 "NameKeeper").before args s = true := fun hf2 => by
    rw [hf2] at h4
    exact va_Nw.use rfl (hN.1 _ (nAt_in h4))
  have hpl : f.2 = false → (Cond.fieldLink own i (RXc g.1) (TXc g.1 g.2.1).2.1 (TXc g.1 g.2.1).2.2.1).before args s = true := fun hf2 => by
    rw [hf2] at h4
    exact hts _ (wAt_in h4)
  refine ⟨Nat.le_of_ble_eq_true h1, Nat.le_of_ble_eq_true h2, Nat.eq_of_beq_eq_true h3, ?_, f, hf, hpl⟩
  cases hf2 : f.2 with
  | true => exact Or.inr (hnest hf2)
  | false => exact Or.inl (hpl hf2)
/-- a call of a method that is proved -/
theorem cal_ok (C : Cx p R s m args meth c cc D cy z0 w0 nL FR LC u' T own ini fi ci ret) {i : Nat} {g : CE} (h : lk i T.2.2.2.1 = some g) : ∃ f : INF, lk i ci = some f ∧ ((f.2.2.2.2.2.2.1 = 5 ∧ g.2.1 = 98 ∧ (Cond.methodLink own i Lib.objectInit).before args s = true ∧ (Cond.instanceMethod Lib.objectInit).before args s = true ∧ (Cond.code Lib.objectInit ⟨#[0xb1]⟩ 1 none).before args s = true ∧ 1 ≤ FR ∧ 20 ≤ LC)
    ∨ (f.2.2.2.2.2.2.1 = 6 ∧ g.2.1 = 97 ∧ (Cond.methodLink own i arraycopyName).before args s = true ∧ (Cond.native arraycopyName).before args s = true ∧ (Cond.static arraycopyName).before args s = true ∧ (Cond.initialized "java/lang/System").before args s = true ∧ 1 ≤ FR ∧ 8 + (nativeFrameWords "java/lang/System" "arraycopy" 5 + 11) ≤ LC)
    ∨ (f.2.2.2.2.2.2.1 = 7 ∧ g.2.1 = 96 ∧ (Cond.methodLink own i Lib.Math.max.name).before args s = true ∧ (Cond.static Lib.Math.max.name).before args s = true ∧ (Cond.initialized "java/lang/Math").before args s = true ∧ (Cond.code Lib.Math.max.name Lib.Math.max.code 2 (some .int)).before args s = true ∧ 1 ≤ FR ∧ 21 ≤ LC)
    ∨ (f.2.2.2.2.2.2.1 = 8 ∧ g.2.1 = 95 ∧ (Cond.methodLink own i Lib.Math.min.name).before args s = true ∧ (Cond.static Lib.Math.min.name).before args s = true ∧ (Cond.initialized "java/lang/Math").before args s = true ∧ (Cond.code Lib.Math.min.name Lib.Math.min.code 2 (some .int)).before args s = true ∧ 1 ≤ FR ∧ 21 ≤ LC)
    ∨ ((f.2.2.2.2.2.2.1 ≠ 5 ∧ f.2.2.2.2.2.2.1 ≠ 6 ∧ f.2.2.2.2.2.2.1 ≠ 7 ∧ f.2.2.2.2.2.2.1 ≠ 8) ∧ Sd f.1 f.2.1 f.2.2.1 f.2.2.2.1 f.2.2.2.2.1 f.2.2.2.2.2.1 g.2.2.2 ∧ ((Cond.methodLink own i f.1).before args s = true ∨ va_Nw (.methodLinkNest own i f.1 "NameKeeper") s) ∧ Cond.code f.1 f.2.1 f.2.2.1 f.2.2.2.1 ∈ lw_good ∧ (Cond.initialized f.1.cls).before args s = true ∧ (f.1.cls ≠ "java/lang/invoke/MethodHandle" ∧ f.1.cls ≠ "java/lang/invoke/VarHandle") ∧ (∀ sig, parseMethodDescriptor f.1.desc = some sig → g.1 = sig.parameters.length) ∧ f.2.2.2.2.1 + 1 ≤ FR ∧ 8 + (f.2.2.1 + 11) + f.2.2.2.2.2.1 ≤ LC
      ∧ ((f.2.2.2.2.2.2.1 % 10 = 0 ∧ g.2.1 = 99 ∧ (Cond.static f.1).before args s = true) ∨ (f.2.2.2.2.2.2.1 % 10 = 1 ∧ g.2.1 ≤ 10 ∧ (Cond.instanceMethod f.1).before args s = true ∧ (Cond.selects (RXc g.2.1) f.1 f.1).before args s = true) ∨ (f.2.2.2.2.2.2.1 % 10 ≠ 0 ∧ f.2.2.2.2.2.2.1 % 10 ≠ 1 ∧ g.2.1 ≤ 10 ∧ (Cond.instanceMethod f.1).before args s = true ∧ f.1.name = "<init>" ∧ f.2.2.2.1 = none)))) := by
  obtain ⟨hx, hb, hml, hown, hts, hK, hN, hlk, hrt, hrk, hini, hR, hF, hC, hA⟩ := C
  obtain ⟨f, hf, hchk, hsd⟩ := SdAll_lk _ _ hA hC h
  refine ⟨f, hf, ?_⟩
  simp only [cChk, Bool.and_eq_true] at hchk
  have h2 := hchk.2
  split at h2
  · rename_i hkd
    simp only [Bool.and_eq_true] at h2
    obtain ⟨⟨⟨⟨⟨a1, a2⟩, a3⟩, a4⟩, a5⟩, a6⟩ := h2
    exact Or.inl ⟨hkd, Nat.eq_of_beq_eq_true a1, hts _ (wAt_in a2), hts _ (wAt_in a3), hts _ (wAt_in a4), Nat.le_of_ble_eq_true a5, Nat.le_of_ble_eq_true a6⟩
  · rename_i hkd
    simp only [Bool.and_eq_true] at h2
    obtain ⟨⟨⟨⟨⟨⟨a1, a2⟩, a3⟩, a4⟩, a5⟩, a6⟩, a7⟩ := h2
    exact Or.inr (Or.inl ⟨hkd, Nat.eq_of_beq_eq_true a1, hts _ (wAt_in a2), hts _ (wAt_in a3), hts _ (wAt_in a4), hts _ (wAt_in a5), Nat.le_of_ble_eq_true a6, Nat.le_of_ble_eq_true a7⟩)
  · rename_i hkd
    simp only [Bool.and_eq_true] at h2
    obtain ⟨⟨⟨⟨⟨⟨a1, a2⟩, a3⟩, a4⟩, a5⟩, a6⟩, a7⟩ := h2
    exact Or.inr (Or.inr (Or.inl ⟨hkd, Nat.eq_of_beq_eq_true a1, hts _ (wAt_in a2), hts _ (wAt_in a3), hts _ (wAt_in a4), hts _ (wAt_in a5), Nat.le_of_ble_eq_true a6, Nat.le_of_ble_eq_true a7⟩))
  · rename_i hkd
    simp only [Bool.and_eq_true] at h2
    obtain ⟨⟨⟨⟨⟨⟨a1, a2⟩, a3⟩, a4⟩, a5⟩, a6⟩, a7⟩ := h2
    exact Or.inr (Or.inr (Or.inr (Or.inl ⟨hkd, Nat.eq_of_beq_eq_true a1, hts _ (wAt_in a2), hts _ (wAt_in a3), hts _ (wAt_in a4), hts _ (wAt_in a5), Nat.le_of_ble_eq_true a6, Nat.le_of_ble_eq_true a7⟩)))
  · rename_i hk5 hk6 hk7 hk8
    simp only [Bool.and_eq_true, decide_eq_true_eq] at h2
    obtain ⟨⟨⟨⟨⟨⟨a1, a2⟩, a3⟩, a4⟩, a5⟩, a6⟩, a7⟩ := h2
    have hlink : (Cond.methodLink own i f.1).before args s = true ∨ va_Nw (.methodLinkNest own i f.1 "NameKeeper") s := by
      cases hb2 : Nat.ble 10 f.2.2.2.2.2.2.1 with
      | true => rw [hb2] at a1; exact Or.inr (hN.1 _ (nAt_in a1))
      | false => rw [hb2] at a1; exact Or.inl (hts _ (wAt_in a1))
    have hpar : ∀ sig, parseMethodDescriptor f.1.desc = some sig → g.1 = sig.parameters.length := fun sig hs => by
      have h3 := a4.2.2
      rw [hs] at h3
      exact (Option.some.inj h3).symm
    have hlast : (f.2.2.2.2.2.2.1 % 10 = 0 ∧ g.2.1 = 99 ∧ (Cond.static f.1).before args s = true) ∨ (f.2.2.2.2.2.2.1 % 10 = 1 ∧ g.2.1 ≤ 10 ∧ (Cond.instanceMethod f.1).before args s = true ∧ (Cond.selects (RXc g.2.1) f.1 f.1).before args s = true) ∨ (f.2.2.2.2.2.2.1 % 10 ≠ 0 ∧ f.2.2.2.2.2.2.1 % 10 ≠ 1 ∧ g.2.1 ≤ 10 ∧ (Cond.instanceMethod f.1).before args s = true ∧ f.1.name = "<init>" ∧ f.2.2.2.1 = none) := by
      split at a7
      · rename_i hk0
        simp only [Bool.and_eq_true] at a7
        exact Or.inl ⟨hk0, Nat.eq_of_beq_eq_true a7.1, hts _ (wAt_in a7.2)⟩
      · rename_i hk0
        simp only [Bool.and_eq_true] at a7
        exact Or.inr (Or.inl ⟨hk0, Nat.le_of_ble_eq_true a7.1.1, hts _ (wAt_in a7.1.2), hts _ (wAt_in a7.2)⟩)
      · rename_i hk0 hk1
        simp only [Bool.and_eq_true, decide_eq_true_eq] at a7
        exact Or.inr (Or.inr ⟨hk0, hk1, Nat.le_of_ble_eq_true a7.1.1.1, hts _ (wAt_in a7.1.1.2), a7.1.2, a7.2⟩)
    have hg : ¬ (95 ≤ g.2.1 ∧ g.2.1 ≤ 98) := by rcases hlast with h | h | h <;> omega
    rcases hsd with h | h
    · exact absurd h hg
    · exact Or.inr (Or.inr (Or.inr (Or.inr ⟨⟨hk5, hk6, hk7, hk8⟩, h, hlink, wAt_in a2, hts _ (wAt_in a3), ⟨a4.1, a4.2.1⟩, hpar, Nat.le_of_ble_eq_true a5, Nat.le_of_ble_eq_true a6, hlast⟩)))

set_option maxHeartbeats 8000000 in
theorem stI_snd (C : Cx p R s m args meth c cc D cy z0 w0 nL FR LC u' T own ini fi ci ret) {k : MK} (hk : ∀ (pc : Nat) (lo : MLs) (o : List MV) (u : MH), k pc lo o u = some (rr, u') → Gd p l e R s m args below meth c D cy base z0 w0 nL u' rr pc lo o u) {pc : Nat} {q : EN} (hd : dcB cc pc q = true) (hq : enB own nL ini T fi ci pc q = true) {lo : MLs} {o : List MV} {u : MH} (h : stI T k q lo o u = some (rr, u')) : Gd p l e R s m args below meth c D cy base z0 w0 nL u' rr pc lo o u := by
  have C0 := C
  obtain ⟨hx, hb, hml, hown, hts, hK, hN, hlocks, hrt, hrk, hini, ⟨hR1, hR2, hR3, hR4⟩, hF, hC, hA⟩ := C
  obtain ⟨hd0, hd1⟩ := dcB_ok hd
  obtain ⟨i, nx, tg, cv, cl, sw⟩ := q
  cases i
  case iconst v =>
    obtain ⟨hdg, hnx⟩ := hd1 rfl
    have hnx : nx = pc + 1 := hnx
    subst hnx
    dsimp only [stI] at h
    have hq := of_decide_eq_true hq
    have g := hk _ _ _ _ h
    refine ⟨g.1, fun H locs ls cells slots hH hS hl hz hw => ?_⟩
    exact lv_iconst hx hb hdg hq (g.2 H locs ls cells slots hH hS hl hz hw)
  case bipush v =>
    obtain ⟨hdg, hnx⟩ := hd1 rfl
    have hnx : nx = pc + 2 := hnx
    subst hnx
    dsimp only [stI] at h
    have hq := of_decide_eq_true hq
    have g := hk _ _ _ _ h
    refine ⟨g.1, fun H locs ls cells slots hH hS hl hz hw => ?_⟩
    exact lv_bipush hx hb hdg hq (g.2 H locs ls cells slots hH hS hl hz hw)
  case sipush v =>
    obtain ⟨hdg, hnx⟩ := hd1 rfl
    have hnx : nx = pc + 3 := hnx
    subst hnx
    dsimp only [stI] at h
    have hq := of_decide_eq_true hq
    have g := hk _ _ _ _ h
    refine ⟨g.1, fun H locs ls cells slots hH hS hl hz hw => ?_⟩
    exact lv_sipush hx hb hdg hq (g.2 H locs ls cells slots hH hS hl hz hw)
  case ldc v =>
    obtain ⟨hdg, hnx⟩ := hd1 rfl
    have hnx : nx = pc + 2 := hnx
    subst hnx
    dsimp only [stI] at h
    have g := hk _ _ _ _ h
    refine ⟨g.1, fun H locs ls cells slots hH hS hl hz hw => ?_⟩
    exact lv_ldc hx hb hown (hts _ (wIn_in hq)) hdg (g.2 H locs ls cells slots hH hS hl hz hw)
  case lconst v =>
    obtain ⟨hdg, hnx⟩ := hd1 rfl
    have hnx : nx = pc + 1 := hnx
    subst hnx
    dsimp only [stI] at h
    have hq := of_decide_eq_true hq
    have g := hk _ _ _ _ h
    refine ⟨g.1, fun H locs ls cells slots hH hS hl hz hw => ?_⟩
    exact lv_lconst hx hb hdg hq (g.2 H locs ls cells slots hH hS hl hz hw)
  case ldc2_w v =>
    obtain ⟨hdg, hnx⟩ := hd1 rfl
    have hnx : nx = pc + 3 := hnx
    subst hnx
    dsimp only [stI] at h
    have g := hk _ _ _ _ h
    refine ⟨g.1, fun H locs ls cells slots hH hS hl hz hw => ?_⟩
    exact lv_ldc2 hx hb hown (hts _ (wIn_in hq)) hdg (g.2 H locs ls cells slots hH hS hl hz hw)
  case aconst_null =>
    obtain ⟨hdg, hnx⟩ := hd1 rfl
    have hnx : nx = pc + 1 := hnx
    subst hnx
    dsimp only [stI] at h
    have g := hk _ _ _ _ h
    refine ⟨g.1, fun H locs ls cells slots hH hS hl hz hw => ?_⟩
    exact lv_null hx hb hdg (g.2 H locs ls cells slots hH hS hl hz hw)
  case iload j =>
    obtain ⟨hdg, hnx⟩ := hd1 rfl
    have hnx : nx = pc + 2 := hnx
    subst hnx
    dsimp only [stI] at h
    obtain ⟨x, hj, h⟩ := lI_some h
    have g := hk _ _ _ _ h
    refine ⟨g.1, fun H locs ls cells slots hH hS hl hz hw => ?_⟩
    exact lv_iload hx hb hdg (hl.at hj) (g.2 H locs ls cells slots hH hS hl hz hw)
  case iload_n j =>
    obtain ⟨hdg, hnx⟩ := hd1 rfl
    have hnx : nx = pc + 1 := hnx
    subst hnx
    dsimp only [stI] at h
    obtain ⟨x, hj, h⟩ := lI_some h
    have g := hk _ _ _ _ h
    refine ⟨g.1, fun H locs ls cells slots hH hS hl hz hw => ?_⟩
    exact lv_iload_n hx hb hdg rfl (hl.at hj) (g.2 H locs ls cells slots hH hS hl hz hw)
  case lload j =>
    obtain ⟨hdg, hnx⟩ := hd1 rfl
    have hnx : nx = pc + 2 := hnx
    subst hnx
    dsimp only [stI] at h
    obtain ⟨x, hj, h⟩ := lL_some h
    have g := hk _ _ _ _ h
    refine ⟨g.1, fun H locs ls cells slots hH hS hl hz hw => ?_⟩
    exact lv_lload hx hb hdg (hl.at hj) (g.2 H locs ls cells slots hH hS hl hz hw)
  case lload_n j =>
    obtain ⟨hdg, hnx⟩ := hd1 rfl
    have hnx : nx = pc + 1 := hnx
    subst hnx
    dsimp only [stI] at h
    obtain ⟨x, hj, h⟩ := lL_some h
    have g := hk _ _ _ _ h
    refine ⟨g.1, fun H locs ls cells slots hH hS hl hz hw => ?_⟩
    exact lv_lload_n hx hb hdg rfl (hl.at hj) (g.2 H locs ls cells slots hH hS hl hz hw)
  case aload j =>
    obtain ⟨hdg, hnx⟩ := hd1 rfl
    have hnx : nx = pc + 2 := hnx
    subst hnx
    dsimp only [stI] at h
    obtain ⟨x, hj, h⟩ := lR_some h
    have g := hk _ _ _ _ h
    refine ⟨g.1, fun H locs ls cells slots hH hS hl hz hw => ?_⟩
    cases x with
    | none => exact lv_aloadN hx hb hdg (hl.at hj) (g.2 H locs ls cells slots hH hS hl hz hw)
    | some x => exact lv_aload hx hb hdg (hl.at hj) (g.2 H locs ls cells slots hH hS hl hz hw)
  case aload_n j =>
    obtain ⟨hdg, hnx⟩ := hd1 rfl
    have hnx : nx = pc + 1 := hnx
    subst hnx
    dsimp only [stI] at h
    obtain ⟨x, hj, h⟩ := lR_some h
    have g := hk _ _ _ _ h
    refine ⟨g.1, fun H locs ls cells slots hH hS hl hz hw => ?_⟩
    cases x with
    | none => exact lv_aload_nN hx hb hdg rfl (hl.at hj) (g.2 H locs ls cells slots hH hS hl hz hw)
    | some x => exact lv_aload_n hx hb hdg rfl (hl.at hj) (g.2 H locs ls cells slots hH hS hl hz hw)
  case istore j =>
    obtain ⟨hdg, hnx⟩ := hd1 rfl
    have hnx : nx = pc + 2 := hnx
    subst hnx
    dsimp only [stI] at h
    obtain ⟨x, r, eo, h1⟩ := pI_some h; clear h; subst eo; have h := h1; clear h1
    have g := hk _ _ _ _ h
    refine ⟨g.1, fun H locs ls cells slots hH hS hl hz hw => ?_⟩
    exact lv_istore hx hb hdg hl (Nat.le_of_ble_eq_true hq) rfl (fun ls1 hl1 => g.2 H locs ls1 cells slots hH hS (LR.set rfl hl1) hz hw)
  case istore_n j =>
    obtain ⟨hdg, hnx⟩ := hd1 rfl
    have hnx : nx = pc + 1 := hnx
    subst hnx
    dsimp only [stI] at h
    obtain ⟨x, r, eo, h1⟩ := pI_some h; clear h; subst eo; have h := h1; clear h1
    have g := hk _ _ _ _ h
    refine ⟨g.1, fun H locs ls cells slots hH hS hl hz hw => ?_⟩
    exact lv_istore_n hx hb hdg rfl hl (Nat.le_of_ble_eq_true hq) rfl (fun ls1 hl1 => g.2 H locs ls1 cells slots hH hS (LR.set rfl hl1) hz hw)
  case astore j =>
    obtain ⟨hdg, hnx⟩ := hd1 rfl
    have hnx : nx = pc + 2 := hnx
    subst hnx
    dsimp only [stI] at h
    obtain ⟨x, r, eo, h1⟩ := pR_some h; clear h; subst eo; have h := h1; clear h1
    have g := hk _ _ _ _ h
    refine ⟨g.1, fun H locs ls cells slots hH hS hl hz hw => ?_⟩
    cases x with
    | none => exact lv_astoreN hx hb hdg hl (Nat.le_of_ble_eq_true hq) rfl (fun ls1 hl1 => g.2 H locs ls1 cells slots hH hS (LR.set rfl hl1) hz hw)
    | some x => exact lv_astore hx hb hdg hl (Nat.le_of_ble_eq_true hq) rfl (fun ls1 hl1 => g.2 H locs ls1 cells slots hH hS (LR.set rfl hl1) hz hw)
  case astore_n j =>
    obtain ⟨hdg, hnx⟩ := hd1 rfl
    have hnx : nx = pc + 1 := hnx
    subst hnx
    dsimp only [stI] at h
    obtain ⟨x, r, eo, h1⟩ := pR_some h; clear h; subst eo; have h := h1; clear h1
    have g := hk _ _ _ _ h
    refine ⟨g.1, fun H locs ls cells slots hH hS hl hz hw => ?_⟩
    cases x with
    | none => exact lv_astore_nN hx hb hdg rfl hl (Nat.le_of_ble_eq_true hq) rfl (fun ls1 hl1 => g.2 H locs ls1 cells slots hH hS (LR.set rfl hl1) hz hw)
    | some x => exact lv_astore_n hx hb hdg rfl hl (Nat.le_of_ble_eq_true hq) rfl (fun ls1 hl1 => g.2 H locs ls1 cells slots hH hS (LR.set rfl hl1) hz hw)
  case iinc j n =>
    obtain ⟨hdg, hnx⟩ := hd1 rfl
    have hnx : nx = pc + 3 := hnx
    subst hnx
    dsimp only [stI] at h
    simp only [enB, Bool.and_eq_true, decide_eq_true_eq] at hq
    obtain ⟨x, hj, h⟩ := lI_some h
    have g := hk _ _ _ _ h
    refine ⟨g.1, fun H locs ls cells slots hH hS hl hz hw => ?_⟩
    obtain ⟨kk, hkk⟩ := List.getElem?_of_mem ((lva_mem (base := base) lo 0).mpr ⟨j, _, hj, rfl⟩)
    rw [Nat.zero_add] at hkk
    exact lv_iinc hx hb hdg hl hkk (by rw [hq.1]) (Nat.le_of_ble_eq_true hq.2) rfl (fun ls1 hl1 => g.2 H locs ls1 cells slots hH hS (LR.set rfl hl1) hz hw)
  case dup =>
    obtain ⟨hdg, hnx⟩ := hd1 rfl
    have hnx : nx = pc + 1 := hnx
    subst hnx
    dsimp only [stI] at h
    obtain ⟨v, r, eo, hv, h1⟩ := pC_some h; clear h; subst eo; have h := h1; clear h1
    have g := hk _ _ _ _ h
    refine ⟨g.1, fun H locs ls cells slots hH hS hl hz hw => ?_⟩
    exact lv_dup hx hb hdg (cat_mval hv) (g.2 H locs ls cells slots hH hS hl hz hw)
  case pop =>
    obtain ⟨hdg, hnx⟩ := hd1 rfl
    have hnx : nx = pc + 1 := hnx
    subst hnx
    dsimp only [stI] at h
    obtain ⟨v, r, eo, hv, h1⟩ := pC_some h; clear h; subst eo; have h := h1; clear h1
    have g := hk _ _ _ _ h
    refine ⟨g.1, fun H locs ls cells slots hH hS hl hz hw => ?_⟩
    exact lv_pop hx hb hdg (cat_mval hv) (g.2 H locs ls cells slots hH hS hl hz hw)
  case dup2 =>
    obtain ⟨hdg, hnx⟩ := hd1 rfl
    have hnx : nx = pc + 1 := hnx
    subst hnx
    dsimp only [stI] at h
    obtain ⟨v, r, eo, hv, h1⟩ := pC_some h; clear h; subst eo; have h := h1; clear h1
    obtain ⟨w, r, eo, hw2, h1⟩ := pC_some h; clear h; subst eo; have h := h1; clear h1
    have g := hk _ _ _ _ h
    refine ⟨g.1, fun H locs ls cells slots hH hS hl hz hw => ?_⟩
    exact lv_dup2_11 hx hb hdg (cat_mval hv) (cat_mval hw2) (g.2 H locs ls cells slots hH hS hl hz hw)
  case iadd =>
    obtain ⟨hdg, hnx⟩ := hd1 rfl
    have hnx : nx = pc + 1 := hnx
    subst hnx
    dsimp only [stI] at h
    obtain ⟨y, r, eo, h1⟩ := pI_some h; clear h; subst eo; have h := h1; clear h1
    obtain ⟨x, r, eo, h1⟩ := pI_some h; clear h; subst eo; have h := h1; clear h1
    have g := hk _ _ _ _ h
    refine ⟨g.1, fun H locs ls cells slots hH hS hl hz hw => ?_⟩
    exact lv_iadd hx hb hdg (g.2 H locs ls cells slots hH hS hl hz hw)
  case isub =>
    obtain ⟨hdg, hnx⟩ := hd1 rfl
    have hnx : nx = pc + 1 := hnx
    subst hnx
    dsimp only [stI] at h
    obtain ⟨y, r, eo, h1⟩ := pI_some h; clear h; subst eo; have h := h1; clear h1
    obtain ⟨x, r, eo, h1⟩ := pI_some h; clear h; subst eo; have h := h1; clear h1
    have g := hk _ _ _ _ h
    refine ⟨g.1, fun H locs ls cells slots hH hS hl hz hw => ?_⟩
    exact lv_isub hx hb hdg (g.2 H locs ls cells slots hH hS hl hz hw)
  case imul =>
    obtain ⟨hdg, hnx⟩ := hd1 rfl
    have hnx : nx = pc + 1 := hnx
    subst hnx
    dsimp only [stI] at h
    obtain ⟨y, r, eo, h1⟩ := pI_some h; clear h; subst eo; have h := h1; clear h1
    obtain ⟨x, r, eo, h1⟩ := pI_some h; clear h; subst eo; have h := h1; clear h1
    have g := hk _ _ _ _ h
    refine ⟨g.1, fun H locs ls cells slots hH hS hl hz hw => ?_⟩
    exact lv_imul hx hb hdg (g.2 H locs ls cells slots hH hS hl hz hw)
  case iand =>
    obtain ⟨hdg, hnx⟩ := hd1 rfl
    have hnx : nx = pc + 1 := hnx
    subst hnx
    dsimp only [stI] at h
    obtain ⟨y, r, eo, h1⟩ := pI_some h; clear h; subst eo; have h := h1; clear h1
    obtain ⟨x, r, eo, h1⟩ := pI_some h; clear h; subst eo; have h := h1; clear h1
    have g := hk _ _ _ _ h
    refine ⟨g.1, fun H locs ls cells slots hH hS hl hz hw => ?_⟩
    exact lv_iand hx hb hdg (g.2 H locs ls cells slots hH hS hl hz hw)
  case ior =>
    obtain ⟨hdg, hnx⟩ := hd1 rfl
    have hnx : nx = pc + 1 := hnx
    subst hnx
    dsimp only [stI] at h
    obtain ⟨y, r, eo, h1⟩ := pI_some h; clear h; subst eo; have h := h1; clear h1
    obtain ⟨x, r, eo, h1⟩ := pI_some h; clear h; subst eo; have h := h1; clear h1
    have g := hk _ _ _ _ h
    refine ⟨g.1, fun H locs ls cells slots hH hS hl hz hw => ?_⟩
    exact lv_ior hx hb hdg (g.2 H locs ls cells slots hH hS hl hz hw)
  case ishl =>
    obtain ⟨hdg, hnx⟩ := hd1 rfl
    have hnx : nx = pc + 1 := hnx
    subst hnx
    dsimp only [stI] at h
    obtain ⟨y, r, eo, h1⟩ := pI_some h; clear h; subst eo; have h := h1; clear h1
    obtain ⟨x, r, eo, h1⟩ := pI_some h; clear h; subst eo; have h := h1; clear h1
    have g := hk _ _ _ _ h
    refine ⟨g.1, fun H locs ls cells slots hH hS hl hz hw => ?_⟩
    exact lv_ishl hx hb hdg (g.2 H locs ls cells slots hH hS hl hz hw)
  case ishr =>
    obtain ⟨hdg, hnx⟩ := hd1 rfl
    have hnx : nx = pc + 1 := hnx
    subst hnx
    dsimp only [stI] at h
    obtain ⟨y, r, eo, h1⟩ := pI_some h; clear h; subst eo; have h := h1; clear h1
    obtain ⟨x, r, eo, h1⟩ := pI_some h; clear h; subst eo; have h := h1; clear h1
    have g := hk _ _ _ _ h
    refine ⟨g.1, fun H locs ls cells slots hH hS hl hz hw => ?_⟩
    exact lv_ishr hx hb hdg (g.2 H locs ls cells slots hH hS hl hz hw)
  case iushr =>
    obtain ⟨hdg, hnx⟩ := hd1 rfl
    have hnx : nx = pc + 1 := hnx
    subst hnx
    dsimp only [stI] at h
    obtain ⟨y, r, eo, h1⟩ := pI_some h; clear h; subst eo; have h := h1; clear h1
    obtain ⟨x, r, eo, h1⟩ := pI_some h; clear h; subst eo; have h := h1; clear h1
    have g := hk _ _ _ _ h
    refine ⟨g.1, fun H locs ls cells slots hH hS hl hz hw => ?_⟩
    exact lv_iushr hx hb hdg rfl (g.2 H locs ls cells slots hH hS hl hz hw)
  case idiv =>
    obtain ⟨hdg, hnx⟩ := hd1 rfl
    have hnx : nx = pc + 1 := hnx
    subst hnx
    dsimp only [stI] at h
    obtain ⟨y, r, eo, h1⟩ := pI_some h; clear h; subst eo; have h := h1; clear h1
    obtain ⟨x, r, eo, h1⟩ := pI_some h; clear h; subst eo; have h := h1; clear h1
    by_cases hy : y = 0
    · rw [if_pos hy] at h; cases h
    rw [if_neg hy] at h
    have g := hk _ _ _ _ h
    refine ⟨g.1, fun H locs ls cells slots hH hS hl hz hw => ?_⟩
    exact lv_idiv hx hb hdg hy (g.2 H locs ls cells slots hH hS hl hz hw)
  case irem =>
    obtain ⟨hdg, hnx⟩ := hd1 rfl
    have hnx : nx = pc + 1 := hnx
    subst hnx
    dsimp only [stI] at h
    obtain ⟨y, r, eo, h1⟩ := pI_some h; clear h; subst eo; have h := h1; clear h1
    obtain ⟨x, r, eo, h1⟩ := pI_some h; clear h; subst eo; have h := h1; clear h1
    by_cases hy : y = 0
    · rw [if_pos hy] at h; cases h
    rw [if_neg hy] at h
    have g := hk _ _ _ _ h
    refine ⟨g.1, fun H locs ls cells slots hH hS hl hz hw => ?_⟩
    exact lv_irem hx hb hdg hy (g.2 H locs ls cells slots hH hS hl hz hw)
  case ladd =>
    obtain ⟨hdg, hnx⟩ := hd1 rfl
    have hnx : nx = pc + 1 := hnx
    subst hnx
    dsimp only [stI] at h
    obtain ⟨y, r, eo, h1⟩ := pL_some h; clear h; subst eo; have h := h1; clear h1
    obtain ⟨x, r, eo, h1⟩ := pL_some h; clear h; subst eo; have h := h1; clear h1
    have g := hk _ _ _ _ h
    refine ⟨g.1, fun H locs ls cells slots hH hS hl hz hw => ?_⟩
    exact lv_ladd hx hb hdg (g.2 H locs ls cells slots hH hS hl hz hw)
  case lmul =>
    obtain ⟨hdg, hnx⟩ := hd1 rfl
    have hnx : nx = pc + 1 := hnx
    subst hnx
    dsimp only [stI] at h
    obtain ⟨y, r, eo, h1⟩ := pL_some h; clear h; subst eo; have h := h1; clear h1
    obtain ⟨x, r, eo, h1⟩ := pL_some h; clear h; subst eo; have h := h1; clear h1
    have g := hk _ _ _ _ h
    refine ⟨g.1, fun H locs ls cells slots hH hS hl hz hw => ?_⟩
    exact lv_lmul hx hb hdg (g.2 H locs ls cells slots hH hS hl hz hw)
  case land =>
    obtain ⟨hdg, hnx⟩ := hd1 rfl
    have hnx : nx = pc + 1 := hnx
    subst hnx
    dsimp only [stI] at h
    obtain ⟨y, r, eo, h1⟩ := pL_some h; clear h; subst eo; have h := h1; clear h1
    obtain ⟨x, r, eo, h1⟩ := pL_some h; clear h; subst eo; have h := h1; clear h1
    have g := hk _ _ _ _ h
    refine ⟨g.1, fun H locs ls cells slots hH hS hl hz hw => ?_⟩
    exact lv_land hx hb hdg (g.2 H locs ls cells slots hH hS hl hz hw)
  case ldiv =>
    obtain ⟨hdg, hnx⟩ := hd1 rfl
    have hnx : nx = pc + 1 := hnx
    subst hnx
    dsimp only [stI] at h
    obtain ⟨y, r, eo, h1⟩ := pL_some h; clear h; subst eo; have h := h1; clear h1
    obtain ⟨x, r, eo, h1⟩ := pL_some h; clear h; subst eo; have h := h1; clear h1
    by_cases hy : y = 0
    · rw [if_pos hy] at h; cases h
    rw [if_neg hy] at h
    have g := hk _ _ _ _ h
    refine ⟨g.1, fun H locs ls cells slots hH hS hl hz hw => ?_⟩
    exact lv_ldiv hx hb hdg hy (g.2 H locs ls cells slots hH hS hl hz hw)
  case lrem =>
    obtain ⟨hdg, hnx⟩ := hd1 rfl
    have hnx : nx = pc + 1 := hnx
    subst hnx
    dsimp only [stI] at h
    obtain ⟨y, r, eo, h1⟩ := pL_some h; clear h; subst eo; have h := h1; clear h1
    obtain ⟨x, r, eo, h1⟩ := pL_some h; clear h; subst eo; have h := h1; clear h1
    by_cases hy : y = 0
    · rw [if_pos hy] at h; cases h
    rw [if_neg hy] at h
    have g := hk _ _ _ _ h
    refine ⟨g.1, fun H locs ls cells slots hH hS hl hz hw => ?_⟩
    exact lv_lrem hx hb hdg hy (g.2 H locs ls cells slots hH hS hl hz hw)
  case i2l =>
    obtain ⟨hdg, hnx⟩ := hd1 rfl
    have hnx : nx = pc + 1 := hnx
    subst hnx
    dsimp only [stI] at h
    obtain ⟨x, r, eo, h1⟩ := pI_some h; clear h; subst eo; have h := h1; clear h1
    have g := hk _ _ _ _ h
    refine ⟨g.1, fun H locs ls cells slots hH hS hl hz hw => ?_⟩
    exact lv_i2l hx hb hdg rfl (g.2 H locs ls cells slots hH hS hl hz hw)
  case l2i =>
    obtain ⟨hdg, hnx⟩ := hd1 rfl
    have hnx : nx = pc + 1 := hnx
    subst hnx
    dsimp only [stI] at h
    obtain ⟨x, r, eo, h1⟩ := pL_some h; clear h; subst eo; have h := h1; clear h1
    have g := hk _ _ _ _ h
    refine ⟨g.1, fun H locs ls cells slots hH hS hl hz hw => ?_⟩
    exact lv_l2i hx hb hdg rfl (g.2 H locs ls cells slots hH hS hl hz hw)
  case lcmp =>
    obtain ⟨hdg, hnx⟩ := hd1 rfl
    have hnx : nx = pc + 1 := hnx
    subst hnx
    dsimp only [stI] at h
    obtain ⟨y, r, eo, h1⟩ := pL_some h; clear h; subst eo; have h := h1; clear h1
    obtain ⟨x, r, eo, h1⟩ := pL_some h; clear h; subst eo; have h := h1; clear h1
    have g := hk _ _ _ _ h
    refine ⟨g.1, fun H locs ls cells slots hH hS hl hz hw => ?_⟩
    exact W.lcmp hx hb hdg (g.2 H locs ls cells slots hH hS hl hz hw)
  case ifCond co off =>
    obtain ⟨hdg, hnx⟩ := hd1 rfl
    have hnx : nx = pc + 3 := hnx
    subst hnx
    dsimp only [stI] at h
    have ht := of_decide_eq_true hq
    obtain ⟨x, r, eo, h1⟩ := pI_some h; clear h; subst eo; have h := h1; clear h1
    cases co
    case eq =>
      by_cases hc : x = 0
      · have h2 : k tg lo r u = some (rr, u') := by simpa [c2, hc] using h
        have g := hk _ _ _ _ h2
        exact ⟨g.1, fun H locs ls cells slots hH hS hl hz hw => lv_if_eq hx hb hdg ht (fun _ => (g.2 H locs ls cells slots hH hS hl hz hw)) (fun z => absurd hc z)⟩
      · have h2 : k (pc + 3) lo r u = some (rr, u') := by simpa [c2, hc] using h
        have g := hk _ _ _ _ h2
        exact ⟨g.1, fun H locs ls cells slots hH hS hl hz hw => lv_if_eq hx hb hdg ht (fun z => absurd z hc) (fun _ => (g.2 H locs ls cells slots hH hS hl hz hw))⟩
    case ne =>
      by_cases hc : x = 0
      · have h2 : k (pc + 3) lo r u = some (rr, u') := by simpa [c2, hc] using h
        have g := hk _ _ _ _ h2
        exact ⟨g.1, fun H locs ls cells slots hH hS hl hz hw => lv_if_ne hx hb hdg ht (fun z => absurd hc z) (fun _ => (g.2 H locs ls cells slots hH hS hl hz hw))⟩
      · have h2 : k tg lo r u = some (rr, u') := by simpa [c2, hc] using h
        have g := hk _ _ _ _ h2
        exact ⟨g.1, fun H locs ls cells slots hH hS hl hz hw => lv_if_ne hx hb hdg ht (fun _ => (g.2 H locs ls cells slots hH hS hl hz hw)) (fun z => absurd z hc)⟩
    case lt =>
      by_cases hc : x < 0
      · have h2 : k tg lo r u = some (rr, u') := by simpa [c2, hc] using h
        have g := hk _ _ _ _ h2
        exact ⟨g.1, fun H locs ls cells slots hH hS hl hz hw => lv_if_lt hx hb hdg ht (fun _ => (g.2 H locs ls cells slots hH hS hl hz hw)) (fun z => absurd hc z)⟩
      · have h2 : k (pc + 3) lo r u = some (rr, u') := by simpa [c2, hc] using h
        have g := hk _ _ _ _ h2
        exact ⟨g.1, fun H locs ls cells slots hH hS hl hz hw => lv_if_lt hx hb hdg ht (fun z => absurd z hc) (fun _ => (g.2 H locs ls cells slots hH hS hl hz hw))⟩
    case ge =>
      by_cases hc : 0 ≤ x
      · have h2 : k tg lo r u = some (rr, u') := by simpa [c2, hc] using h
        have g := hk _ _ _ _ h2
        exact ⟨g.1, fun H locs ls cells slots hH hS hl hz hw => lv_if_ge hx hb hdg ht (fun _ => (g.2 H locs ls cells slots hH hS hl hz hw)) (fun z => absurd hc z)⟩
      · have h2 : k (pc + 3) lo r u = some (rr, u') := by simpa [c2, hc] using h
        have g := hk _ _ _ _ h2
        exact ⟨g.1, fun H locs ls cells slots hH hS hl hz hw => lv_if_ge hx hb hdg ht (fun z => absurd z hc) (fun _ => (g.2 H locs ls cells slots hH hS hl hz hw))⟩
    case gt =>
      by_cases hc : 0 < x
      · have h2 : k tg lo r u = some (rr, u') := by simpa [c2, hc] using h
        have g := hk _ _ _ _ h2
        exact ⟨g.1, fun H locs ls cells slots hH hS hl hz hw => lv_if_gt hx hb hdg ht (fun _ => (g.2 H locs ls cells slots hH hS hl hz hw)) (fun z => absurd hc z)⟩
      · have h2 : k (pc + 3) lo r u = some (rr, u') := by simpa [c2, hc] using h
        have g := hk _ _ _ _ h2
        exact ⟨g.1, fun H locs ls cells slots hH hS hl hz hw => lv_if_gt hx hb hdg ht (fun z => absurd z hc) (fun _ => (g.2 H locs ls cells slots hH hS hl hz hw))⟩
    case le =>
      by_cases hc : x ≤ 0
      · have h2 : k tg lo r u = some (rr, u') := by simpa [c2, hc] using h
        have g := hk _ _ _ _ h2
        exact ⟨g.1, fun H locs ls cells slots hH hS hl hz hw => lv_if_le hx hb hdg ht (fun _ => (g.2 H locs ls cells slots hH hS hl hz hw)) (fun z => absurd hc z)⟩
      · have h2 : k (pc + 3) lo r u = some (rr, u') := by simpa [c2, hc] using h
        have g := hk _ _ _ _ h2
        exact ⟨g.1, fun H locs ls cells slots hH hS hl hz hw => lv_if_le hx hb hdg ht (fun z => absurd z hc) (fun _ => (g.2 H locs ls cells slots hH hS hl hz hw))⟩
  case if_icmp co off =>
    obtain ⟨hdg, hnx⟩ := hd1 rfl
    have hnx : nx = pc + 3 := hnx
    subst hnx
    dsimp only [stI] at h
    have ht := of_decide_eq_true hq
    obtain ⟨y, r, eo, h1⟩ := pI_some h; clear h; subst eo; have h := h1; clear h1
    obtain ⟨x, r, eo, h1⟩ := pI_some h; clear h; subst eo; have h := h1; clear h1
    cases co
    case eq =>
      by_cases hc : x = y
      · have h2 : k tg lo r u = some (rr, u') := by simpa [c2, hc] using h
        have g := hk _ _ _ _ h2
        exact ⟨g.1, fun H locs ls cells slots hH hS hl hz hw => lv_icmp_eq hx hb hdg ht (fun _ => (g.2 H locs ls cells slots hH hS hl hz hw)) (fun z => absurd hc z)⟩
      · have h2 : k (pc + 3) lo r u = some (rr, u') := by simpa [c2, hc] using h
        have g := hk _ _ _ _ h2
        exact ⟨g.1, fun H locs ls cells slots hH hS hl hz hw => lv_icmp_eq hx hb hdg ht (fun z => absurd z hc) (fun _ => (g.2 H locs ls cells slots hH hS hl hz hw))⟩
    case ne =>
      by_cases hc : x = y
      · have h2 : k (pc + 3) lo r u = some (rr, u') := by simpa [c2, hc] using h
        have g := hk _ _ _ _ h2
        exact ⟨g.1, fun H locs ls cells slots hH hS hl hz hw => lv_icmp_ne hx hb hdg ht (fun z => absurd hc z) (fun _ => (g.2 H locs ls cells slots hH hS hl hz hw))⟩
      · have h2 : k tg lo r u = some (rr, u') := by simpa [c2, hc] using h
        have g := hk _ _ _ _ h2
        exact ⟨g.1, fun H locs ls cells slots hH hS hl hz hw => lv_icmp_ne hx hb hdg ht (fun _ => (g.2 H locs ls cells slots hH hS hl hz hw)) (fun z => absurd z hc)⟩
    case lt =>
      by_cases hc : x < y
      · have h2 : k tg lo r u = some (rr, u') := by simpa [c2, hc] using h
        have g := hk _ _ _ _ h2
        exact ⟨g.1, fun H locs ls cells slots hH hS hl hz hw => lv_icmp_lt hx hb hdg ht (fun _ => (g.2 H locs ls cells slots hH hS hl hz hw)) (fun z => absurd hc z)⟩
      · have h2 : k (pc + 3) lo r u = some (rr, u') := by simpa [c2, hc] using h
        have g := hk _ _ _ _ h2
        exact ⟨g.1, fun H locs ls cells slots hH hS hl hz hw => lv_icmp_lt hx hb hdg ht (fun z => absurd z hc) (fun _ => (g.2 H locs ls cells slots hH hS hl hz hw))⟩
    case ge =>
      by_cases hc : y ≤ x
      · have h2 : k tg lo r u = some (rr, u') := by simpa [c2, hc] using h
        have g := hk _ _ _ _ h2
        exact ⟨g.1, fun H locs ls cells slots hH hS hl hz hw => lv_icmp_ge hx hb hdg ht (fun _ => (g.2 H locs ls cells slots hH hS hl hz hw)) (fun z => absurd hc z)⟩
      · have h2 : k (pc + 3) lo r u = some (rr, u') := by simpa [c2, hc] using h
        have g := hk _ _ _ _ h2
        exact ⟨g.1, fun H locs ls cells slots hH hS hl hz hw => lv_icmp_ge hx hb hdg ht (fun z => absurd z hc) (fun _ => (g.2 H locs ls cells slots hH hS hl hz hw))⟩
    case gt =>
      by_cases hc : y < x
      · have h2 : k tg lo r u = some (rr, u') := by simpa [c2, hc] using h
        have g := hk _ _ _ _ h2
        exact ⟨g.1, fun H locs ls cells slots hH hS hl hz hw => lv_icmp_gt hx hb hdg ht (fun _ => (g.2 H locs ls cells slots hH hS hl hz hw)) (fun z => absurd hc z)⟩
      · have h2 : k (pc + 3) lo r u = some (rr, u') := by simpa [c2, hc] using h
        have g := hk _ _ _ _ h2
        exact ⟨g.1, fun H locs ls cells slots hH hS hl hz hw => lv_icmp_gt hx hb hdg ht (fun z => absurd z hc) (fun _ => (g.2 H locs ls cells slots hH hS hl hz hw))⟩
    case le =>
      by_cases hc : x ≤ y
      · have h2 : k tg lo r u = some (rr, u') := by simpa [c2, hc] using h
        have g := hk _ _ _ _ h2
        exact ⟨g.1, fun H locs ls cells slots hH hS hl hz hw => lv_icmp_le hx hb hdg ht (fun _ => (g.2 H locs ls cells slots hH hS hl hz hw)) (fun z => absurd hc z)⟩
      · have h2 : k (pc + 3) lo r u = some (rr, u') := by simpa [c2, hc] using h
        have g := hk _ _ _ _ h2
        exact ⟨g.1, fun H locs ls cells slots hH hS hl hz hw => lv_icmp_le hx hb hdg ht (fun z => absurd z hc) (fun _ => (g.2 H locs ls cells slots hH hS hl hz hw))⟩
  case ifnull off =>
    obtain ⟨hdg, hnx⟩ := hd1 rfl
    have hnx : nx = pc + 3 := hnx
    subst hnx
    dsimp only [stI] at h
    have ht := of_decide_eq_true hq
    obtain ⟨x, r, eo, h1⟩ := pR_some h; clear h; subst eo; have h := h1; clear h1
    cases x with
    | none =>
      have g := hk _ _ _ _ h
      exact ⟨g.1, fun H locs ls cells slots hH hS hl hz hw => lv_ifnullN hx hb hdg ht (g.2 H locs ls cells slots hH hS hl hz hw)⟩
    | some x =>
      have g := hk _ _ _ _ h
      exact ⟨g.1, fun H locs ls cells slots hH hS hl hz hw => lv_ifnull hx hb hdg (g.2 H locs ls cells slots hH hS hl hz hw)⟩
  case ifnonnull off =>
    obtain ⟨hdg, hnx⟩ := hd1 rfl
    have hnx : nx = pc + 3 := hnx
    subst hnx
    dsimp only [stI] at h
    have ht := of_decide_eq_true hq
    obtain ⟨x, r, eo, h1⟩ := pR_some h; clear h; subst eo; have h := h1; clear h1
    cases x with
    | none =>
      have g := hk _ _ _ _ h
      exact ⟨g.1, fun H locs ls cells slots hH hS hl hz hw => lv_ifnonnullN hx hb hdg (g.2 H locs ls cells slots hH hS hl hz hw)⟩
    | some x =>
      have g := hk _ _ _ _ h
      exact ⟨g.1, fun H locs ls cells slots hH hS hl hz hw => lv_ifnonnull hx hb hdg ht (g.2 H locs ls cells slots hH hS hl hz hw)⟩
  case goto off =>
    obtain ⟨hdg, hnx⟩ := hd1 rfl
    have hnx : nx = pc + 3 := hnx
    subst hnx
    dsimp only [stI] at h
    have ht := of_decide_eq_true hq
    have g := hk _ _ _ _ h
    refine ⟨g.1, fun H locs ls cells slots hH hS hl hz hw => ?_⟩
    exact lv_goto hx hb hdg ht (g.2 H locs ls cells slots hH hS hl hz hw)
  case tableswitch d lw hi os =>
    obtain ⟨len, hdg⟩ := hd0
    simp only [enB, Bool.and_eq_true, decide_eq_true_eq, hiB] at hq
    obtain ⟨⟨q1, q2⟩, q3⟩ := hq
    obtain ⟨hlen, hget⟩ := swB_get _ _ _ q2
    obtain ⟨x, r, eo, h1⟩ := pI_some h; clear h; subst eo; have h := h1; clear h1
    rcases swt_some _ h with ⟨kk, g0, a1, a2, a3⟩ | ⟨a1, a2⟩
    · obtain ⟨oo, b1, b2, b3⟩ := hget kk g0 a1
      have g := hk _ _ _ _ a3
      have hkl : kk < os.toList.length := (List.getElem?_eq_some_iff.mp b1).1
      have hxi : x.toInt = lw + kk := by rw [a2]; exact b2
      refine ⟨g.1, fun H locs ls cells slots hH hS hl hz hw => lv_tableIn hx hb hdg (by omega) (by omega) (off := oo) ?_ b3 (g.2 H locs ls cells slots hH hS hl hz hw)⟩
      rw [show (x.toInt - lw).toNat = kk by omega, ← Array.getElem?_toList]
      exact b1
    · have g := hk _ _ _ _ a2
      refine ⟨g.1, fun H locs ls cells slots hH hS hl hz hw => lv_tableOut hx hb hdg (rng q3 (fun kk hkk hxk => ?_)) q1 (g.2 H locs ls cells slots hH hS hl hz hw)⟩
      rw [hlen] at hkk
      obtain ⟨oo, b1, b2, b3⟩ := hget kk _ (List.getElem?_eq_getElem hkk)
      exact a1 kk _ (List.getElem?_eq_getElem hkk) (Int32.toInt_inj.mp (by rw [hxk, b2]))
  case lookupswitch d ps =>
    obtain ⟨len, hdg⟩ := hd0
    simp only [enB, Bool.and_eq_true, decide_eq_true_eq] at hq
    obtain ⟨⟨q1, q2⟩, q3⟩ := hq
    obtain ⟨x, r, eo, h1⟩ := pI_some h; clear h; subst eo; have h := h1; clear h1
    obtain ⟨tt, b1, b2⟩ := swL_off q1 _ _ q2 h
    have g := hk _ _ _ _ b1
    exact ⟨g.1, fun H locs ls cells slots hH hS hl hz hw => lv_lookup hx hb hdg q3 rfl b2 (g.2 H locs ls cells slots hH hS hl hz hw)⟩
  case getfield i =>
    obtain ⟨hdg, hnx⟩ := hd1 rfl
    have hnx : nx = pc + 3 := hnx
    subst hnx
    dsimp only [stI] at h
    obtain ⟨gf, hg, h⟩ := bnd_some h
    obtain ⟨f1, f2, f3, f4, -⟩ := fld_ok C0 hg
    obtain ⟨b, r, eo, h1⟩ := pR_some h; clear h; subst eo; have h := h1; clear h1
    obtain ⟨a, eo, h1⟩ := bnd_some h; clear h; subst eo; have h := h1; clear h1
    obtain ⟨gc, gk, gt⟩ := gf
    have key : ∀ v : MV, mval base v = mfv base u a gk (ftc (tyc gc gk)) → kd u a = gc → k (pc + 3) lo (v :: r) u = some (rr, u') → Gd p l e R s m args below meth c D cy base z0 w0 nL u' rr pc lo (Sum.inr (Sum.inr (some a)) :: r) u := by
      intro v hv hkd h
      have g := hk _ _ _ _ h
      refine ⟨g.1, fun H locs ls cells slots hH hS hl hz hw => hr_get fw_all hx hb hts hown hK hH hkd f1 f2 f4 hdg ?_⟩
      rw [← hv]
      exact (g.2 H locs ls cells slots hH hS hl hz hw)
    have f3 : ftc (tyc gc gk) = gt := f3
    unfold fgt at h
    split at h
    · rename_i ht
      have ht : gt = 0 := ht
      obtain ⟨v, hv, h⟩ := bnd_some h
      unfold fI at hv
      split at hv
      · rename_i hkd
        cases hv
        exact key _ (by rw [f3, ht]; rfl) hkd h
      · cases hv
    · rename_i ht
      have ht : gt = 1 := ht
      obtain ⟨v, hv, h⟩ := bnd_some h
      unfold fZ at hv
      split at hv
      · rename_i hkd
        cases hv
        exact key _ (by rw [f3, ht]; rfl) hkd h
      · cases hv
    · rename_i ht
      have ht : gt = 2 := ht
      obtain ⟨v, hv, h⟩ := bnd_some h
      unfold fL at hv
      split at hv
      · rename_i hkd
        cases hv
        exact key _ (by rw [f3, ht]; rfl) hkd h
      · cases hv
    · rename_i h0 h1 h2
      have ht : gt = 3 := by
        have h0 : gt ≠ 0 := h0
        have h1 : gt ≠ 1 := h1
        have h2 : gt ≠ 2 := h2
        rw [← f3] at h0 h1 h2 ⊢
        revert h0 h1 h2
        cases tyc gc gk <;> simp [ftc]
      obtain ⟨v, hv, h⟩ := bnd_some h
      unfold fR at hv
      split at hv
      · rename_i hkd
        cases hv
        exact key _ (by rw [f3, ht]; rfl) hkd h
      · cases hv
  case putfield i =>
    obtain ⟨hdg, hnx⟩ := hd1 rfl
    have hnx : nx = pc + 3 := hnx
    subst hnx
    dsimp only [stI] at h
    obtain ⟨gf, hg, h⟩ := bnd_some h
    obtain ⟨f1, f2, f3, f4, ff, f5, f6⟩ := fld_ok C0 hg
    obtain ⟨gc, gk, gt⟩ := gf
    have f3 : ftc (tyc gc gk) = gt := f3
    have hfin : (TXc gc gk).2.2.2 = false ∨ (meth.name = "<init>" ∧ RXc gc = own ∧ (Cond.fieldLink own i (RXc gc) (TXc gc gk).2.1 (TXc gc gk).2.2.1).before args s = true) := by
      simp only [enB, hg, f5] at hq
      simp only [Bool.or_eq_true, Bool.not_eq_true', Bool.and_eq_true, decide_eq_true_eq] at hq
      rcases hq with hq | hq
      · exact Or.inl hq
      · exact Or.inr ⟨hini hq.1.1, hq.1.2, f6 hq.2⟩
    have hokt := okT_all gc f1 gk f2
    unfold fpt at h
    split at h
    · rename_i ht
      have ht : gt = 0 := ht
      obtain ⟨v, r, eo, h1⟩ := pI_some h; clear h; subst eo; have h := h1; clear h1
      obtain ⟨b, r, eo, h1⟩ := pR_some h; clear h; subst eo; have h := h1; clear h1
      obtain ⟨a, eo, h1⟩ := bnd_some h; clear h; subst eo; have h := h1; clear h1
      obtain ⟨t, hv, h⟩ := bnd_some h
      unfold wI at hv
      split at hv
      · rename_i hkd
        cases hv
        have hty : tyc gc gk = .int := by rw [ht] at f3; revert f3 hokt; cases tyc gc gk <;> simp [ftc, okT]
        have g := hk _ _ _ _ h
        refine ⟨g.1, fun H locs ls cells slots hH hS hl hz hw => hr_put fw_all hx hb hts hown hK hH hS hkd f1 f2 f4 hfin (v := .int v) (by rw [hty]; rfl) (by rw [hty]; rfl) (u' := sI u a gk v) rfl rfl ?_ ?_ (fun x hxa => mcell_same rfl (up2_ne _ _ _ _ hxa) rfl rfl) hdg (fun H1 locs1 hH1 hS1 => g.2 H1 locs1 ls cells slots hH1 hS1 hl hz hw)⟩
        · rw [hty]; simp [mfv, ftc, up2]
        · intro j hj t; unfold mfv; simp [up2, hj]
      · cases hv
    · rename_i ht
      have ht : gt = 1 := ht
      obtain ⟨v, r, eo, h1⟩ := pI_some h; clear h; subst eo; have h := h1; clear h1
      obtain ⟨b, r, eo, h1⟩ := pR_some h; clear h; subst eo; have h := h1; clear h1
      obtain ⟨a, eo, h1⟩ := bnd_some h; clear h; subst eo; have h := h1; clear h1
      obtain ⟨t, hv, h⟩ := bnd_some h
      unfold wZ at hv
      split at hv
      · rename_i hkd
        cases hv
        have hty : tyc gc gk = .boolean := by rw [ht] at f3; revert f3 hokt; cases tyc gc gk <;> simp [ftc, okT]
        have g := hk _ _ _ _ h
        refine ⟨g.1, fun H locs ls cells slots hH hS hl hz hw => hr_put fw_all hx hb hts hown hK hH hS hkd.1 f1 f2 f4 hfin (v := .int v) (by rw [hty]; rcases hkd.2 with hv | hv <;> rw [hv] <;> rfl) (by rw [hty]; rcases hkd.2 with hv | hv <;> rw [hv] <;> rfl) (u' := sI u a gk v) rfl rfl ?_ ?_ (fun x hxa => mcell_same rfl (up2_ne _ _ _ _ hxa) rfl rfl) hdg (fun H1 locs1 hH1 hS1 => g.2 H1 locs1 ls cells slots hH1 hS1 hl hz hw)⟩
        · rw [hty]; rcases hkd.2 with hv | hv <;> rw [hv] <;> simp [mfv, ftc, up2, bz]
        · intro j hj t; unfold mfv; simp [up2, hj]
      · cases hv
    · rename_i ht
      have ht : gt = 2 := ht
      obtain ⟨v, r, eo, h1⟩ := pL_some h; clear h; subst eo; have h := h1; clear h1
      obtain ⟨b, r, eo, h1⟩ := pR_some h; clear h; subst eo; have h := h1; clear h1
      obtain ⟨a, eo, h1⟩ := bnd_some h; clear h; subst eo; have h := h1; clear h1
      obtain ⟨t, hv, h⟩ := bnd_some h
      unfold wL at hv
      split at hv
      · rename_i hkd
        cases hv
        have hty : tyc gc gk = .long := by rw [ht] at f3; revert f3 hokt; cases tyc gc gk <;> simp [ftc, okT]
        have g := hk _ _ _ _ h
        refine ⟨g.1, fun H locs ls cells slots hH hS hl hz hw => hr_put fw_all hx hb hts hown hK hH hS hkd f1 f2 f4 hfin (v := .long v) (by rw [hty]; rfl) (by rw [hty]; rfl) (u' := sL u a gk v) rfl rfl ?_ ?_ (fun x hxa => mcell_same rfl rfl (up2_ne _ _ _ _ hxa) rfl) hdg (fun H1 locs1 hH1 hS1 => g.2 H1 locs1 ls cells slots hH1 hS1 hl hz hw)⟩
        · rw [hty]; simp [mfv, ftc, up2]
        · intro j hj t; unfold mfv; simp [up2, hj]
      · cases hv
    · rename_i h0 h1 h2
      have hty : (∃ n, tyc gc gk = .object n) ∨ ∃ n, tyc gc gk = .array n := by
        have h0 : gt ≠ 0 := h0
        have h1 : gt ≠ 1 := h1
        have h2 : gt ≠ 2 := h2
        rw [← f3] at h0 h1 h2
        revert h0 h1 h2 hokt
        cases tyc gc gk <;> simp [ftc, okT]
      have hft : ftc (tyc gc gk) = 3 := by rcases hty with ⟨n, hn⟩ | ⟨n, hn⟩ <;> rw [hn] <;> rfl
      obtain ⟨v, r, eo, h1⟩ := pR_some h; clear h; subst eo; have h := h1; clear h1
      obtain ⟨b, r, eo, h1⟩ := pR_some h; clear h; subst eo; have h := h1; clear h1
      obtain ⟨a, eo, h1⟩ := bnd_some h; clear h; subst eo; have h := h1; clear h1
      obtain ⟨t, hv, h⟩ := bnd_some h
      unfold wR at hv
      split at hv
      · rename_i hkd
        cases hv
        have g := hk _ _ _ _ h
        refine ⟨g.1, fun H locs ls cells slots hH hS hl hz hw => hr_put fw_all hx hb hts hown hK hH hS hkd f1 f2 f4 hfin (v := va_rf (v.map (fun a => base + a))) ?_ ?_ (u' := sR u a gk v) rfl rfl ?_ ?_ (fun x hxa => mcell_same rfl rfl rfl (up2_ne _ _ _ _ hxa)) hdg (fun H1 locs1 hH1 hS1 => g.2 H1 locs1 ls cells slots hH1 hS1 hl hz hw)⟩
        · rcases hty with ⟨n, hn⟩ | ⟨n, hn⟩ <;> rw [hn] <;> cases v <;> rfl
        · rcases hty with ⟨n, hn⟩ | ⟨n, hn⟩ <;> rw [hn] <;> cases v <;> rfl
        · rw [hft]; simp [mfv, up2]
        · intro j hj t; unfold mfv; simp [up2, hj]
      · cases hv
  case arraylength =>
    obtain ⟨hdg, hnx⟩ := hd1 rfl
    have hnx : nx = pc + 1 := hnx
    subst hnx
    dsimp only [stI] at h
    obtain ⟨b, r, eo, h1⟩ := pR_some h; clear h; subst eo; have h := h1; clear h1
    obtain ⟨a, eo, h1⟩ := bnd_some h; clear h; subst eo; have h := h1; clear h1
    obtain ⟨n, hn, h⟩ := bnd_some h
    unfold aln at hn
    split at hn
    · rename_i hkd
      cases hn
      have g := hk _ _ _ _ h
      exact ⟨g.1, fun H locs ls cells slots hH hS hl hz hw => hr_len hx hb hK hH hkd.1 hkd.2 hdg (g.2 H locs ls cells slots hH hS hl hz hw)⟩
    · cases hn
  case iaload =>
    obtain ⟨hdg, hnx⟩ := hd1 rfl
    have hnx : nx = pc + 1 := hnx
    subst hnx
    dsimp only [stI] at h
    obtain ⟨j, r, eo, h1⟩ := pI_some h; clear h; subst eo; have h := h1; clear h1
    obtain ⟨b, r, eo, h1⟩ := pR_some h; clear h; subst eo; have h := h1; clear h1
    obtain ⟨a, eo, h1⟩ := bnd_some h; clear h; subst eo; have h := h1; clear h1
    obtain ⟨n, hn, h⟩ := bnd_some h
    unfold ld at hn
    split at hn
    · rename_i hkd
      cases hn
      have g := hk _ _ _ _ h
      exact ⟨g.1, fun H locs ls cells slots hH hS hl hz hw => hr_iald hx hb hK hH hkd.1 hkd.2 hdg (g.2 H locs ls cells slots hH hS hl hz hw)⟩
    · cases hn
  case baload =>
    obtain ⟨hdg, hnx⟩ := hd1 rfl
    have hnx : nx = pc + 1 := hnx
    subst hnx
    dsimp only [stI] at h
    obtain ⟨j, r, eo, h1⟩ := pI_some h; clear h; subst eo; have h := h1; clear h1
    obtain ⟨b, r, eo, h1⟩ := pR_some h; clear h; subst eo; have h := h1; clear h1
    obtain ⟨a, eo, h1⟩ := bnd_some h; clear h; subst eo; have h := h1; clear h1
    obtain ⟨n, hn, h⟩ := bnd_some h
    unfold ld at hn
    split at hn
    · rename_i hkd
      cases hn
      have g := hk _ _ _ _ h
      exact ⟨g.1, fun H locs ls cells slots hH hS hl hz hw => hr_zald hx hb hK hH hkd.1 hkd.2 hdg (g.2 H locs ls cells slots hH hS hl hz hw)⟩
    · cases hn
  case aaload =>
    obtain ⟨hdg, hnx⟩ := hd1 rfl
    have hnx : nx = pc + 1 := hnx
    subst hnx
    dsimp only [stI] at h
    obtain ⟨j, r, eo, h1⟩ := pI_some h; clear h; subst eo; have h := h1; clear h1
    obtain ⟨b, r, eo, h1⟩ := pR_some h; clear h; subst eo; have h := h1; clear h1
    obtain ⟨a, eo, h1⟩ := bnd_some h; clear h; subst eo; have h := h1; clear h1
    obtain ⟨n, hn, h⟩ := bnd_some h
    unfold ldR at hn
    split at hn
    · rename_i hkd
      cases hn
      have g := hk _ _ _ _ h
      exact ⟨g.1, fun H locs ls cells slots hH hS hl hz hw => hr_aald hx hb hK hH hkd.1.1 hkd.1.2 hkd.2 hdg (g.2 H locs ls cells slots hH hS hl hz hw)⟩
    · cases hn
  case iastore =>
    obtain ⟨hdg, hnx⟩ := hd1 rfl
    have hnx : nx = pc + 1 := hnx
    subst hnx
    dsimp only [stI] at h
    obtain ⟨v, r, eo, h1⟩ := pI_some h; clear h; subst eo; have h := h1; clear h1
    obtain ⟨j, r, eo, h1⟩ := pI_some h; clear h; subst eo; have h := h1; clear h1
    obtain ⟨b, r, eo, h1⟩ := pR_some h; clear h; subst eo; have h := h1; clear h1
    obtain ⟨a, eo, h1⟩ := bnd_some h; clear h; subst eo; have h := h1; clear h1
    obtain ⟨t, hn, h⟩ := bnd_some h
    unfold st at hn
    split at hn
    · rename_i hkd
      cases hn
      have g := hk _ _ _ _ h
      exact ⟨g.1, fun H locs ls cells slots hH hS hl hz hw => hr_iast hx hb hK hH hS hkd.1 hkd.2 hdg (fun H1 locs1 hH1 hS1 => g.2 H1 locs1 ls cells slots hH1 hS1 hl hz hw)⟩
    · cases hn
  case bastore =>
    obtain ⟨hdg, hnx⟩ := hd1 rfl
    have hnx : nx = pc + 1 := hnx
    subst hnx
    dsimp only [stI] at h
    obtain ⟨v, r, eo, h1⟩ := pI_some h; clear h; subst eo; have h := h1; clear h1
    obtain ⟨j, r, eo, h1⟩ := pI_some h; clear h; subst eo; have h := h1; clear h1
    obtain ⟨b, r, eo, h1⟩ := pR_some h; clear h; subst eo; have h := h1; clear h1
    obtain ⟨a, eo, h1⟩ := bnd_some h; clear h; subst eo; have h := h1; clear h1
    obtain ⟨t, hn, h⟩ := bnd_some h
    unfold st at hn
    split at hn
    · rename_i hkd
      cases hn
      have g := hk _ _ _ _ h
      exact ⟨g.1, fun H locs ls cells slots hH hS hl hz hw => hr_zast hx hb hK hH hS hkd.1 hkd.2 hdg (fun H1 locs1 hH1 hS1 => g.2 H1 locs1 ls cells slots hH1 hS1 hl hz hw)⟩
    · cases hn
  case aastore =>
    obtain ⟨hdg, hnx⟩ := hd1 rfl
    have hnx : nx = pc + 1 := hnx
    subst hnx
    dsimp only [stI] at h
    obtain ⟨v, r, eo, h1⟩ := pR_some h; clear h; subst eo; have h := h1; clear h1
    obtain ⟨j, r, eo, h1⟩ := pI_some h; clear h; subst eo; have h := h1; clear h1
    obtain ⟨b, r, eo, h1⟩ := pR_some h; clear h; subst eo; have h := h1; clear h1
    obtain ⟨a, eo, h1⟩ := bnd_some h; clear h; subst eo; have h := h1; clear h1
    obtain ⟨t, hn, h⟩ := bnd_some h
    unfold stR at hn
    split at hn
    · rename_i hkd
      cases hn
      have g := hk _ _ _ _ h
      exact ⟨g.1, fun H locs ls cells slots hH hS hl hz hw => hr_aast hx hb hK hH hS hkd.1.1 hkd.1.2 hkd.2.1 hkd.2.2 hdg (fun H1 locs1 hH1 hS1 => g.2 H1 locs1 ls cells slots hH1 hS1 hl hz hw)⟩
    · cases hn
  case new i =>
    obtain ⟨hdg, hnx⟩ := hd1 rfl
    have hnx : nx = pc + 3 := hnx
    subst hnx
    dsimp only [stI] at h
    simp only [enB, Bool.and_eq_true] at hq
    obtain ⟨⟨⟨q1, q2⟩, q3⟩, q4⟩ := hq
    have g := hk _ _ _ _ h
    have g1 : sz u + 1 ≤ sz u' ∧ sl u + nfl tg ≤ sl u' := g.1
    refine ⟨⟨by omega, by omega⟩, fun H locs ls cells slots hH hS hl hz hw => hr_new fw_all hx hb hts hown hK hH hS (Nat.le_of_ble_eq_true q1) (hts _ (wIn_in q2)) (hts _ (wIn_in q3)) (hts _ (wIn_in q4)) (by rw [hR3]; omega) (by rw [hR4]; omega) hdg (fun H1 hH1 hS1 => g.2 H1 locs ls (cells + 1) (slots + nfl tg) hH1 hS1 hl ?_ ?_)⟩
    · show z0 + (cells + 1) = sz u + 1; omega
    · show w0 + (slots + nfl tg) = sl u + nfl tg; omega
  case newarray t =>
    obtain ⟨hdg, hnx⟩ := hd1 rfl
    have hnx : nx = pc + 2 := hnx
    subst hnx
    dsimp only [stI] at h
    obtain ⟨n, r, eo, h1⟩ := pI_some h; clear h; subst eo; have h := h1; clear h1
    obtain ⟨v, hv, h⟩ := bnd_some h
    unfold nw at hv
    split at hv
    · rename_i hn
      cases hv
      have g := hk _ _ _ _ h
      have g1 : sz u + 1 ≤ sz u' ∧ sl u + n.toNatClampNeg ≤ sl u' := g.1
      have go : ∀ (H : Heap) (locs : List Loc) (ls : Array Slot) (cells slots : Nat), LR base ls nL lo → z0 + cells = sz u → w0 + slots = sl u → ∀ H1 : Heap, HR D cy base (al u tg n.toNatClampNeg) H1 → va_S (fun q => base ≤ q) s.heap H1 locs → W p l e R s m args below meth c H1 locs (cells + 1) (slots + n.toNatClampNeg) (MQ below (mQ D cy base u' rr) args s (sz u' - z0) (sl u' - w0) (fun q => base ≤ q)) (F0 m (pc + 2) ls (.ref (base + sz u) :: r.map (mval base))) := by
        intro H locs ls cells slots hl hz hw H1 hH1 hS1
        refine g.2 H1 locs ls (cells + 1) (slots + n.toNatClampNeg) hH1 hS1 hl ?_ ?_
        · show z0 + (cells + 1) = sz u + 1; omega
        · show w0 + (slots + n.toNatClampNeg) = sl u + n.toNatClampNeg; omega
      refine ⟨⟨by omega, by omega⟩, fun H locs ls cells slots hH hS hl hz hw => ?_⟩
      cases t <;> first | (cases hq; done) | skip
      · simp only [enB, Bool.and_eq_true] at hq
        have e := Nat.eq_of_beq_eq_true hq.1
        subst e
        exact hr_newa hx hb hK hH hS (atype := .boolean) (hts _ (wIn_in hq.2)) (d := 12) (t0 := 1) rfl (by omega) (by omega) rfl rfl (fun C h => by cases h) hn.1 (by show n.toNatClampNeg * 1 ≤ _; omega) (by rw [hR3]; omega) (by rw [hR4]; omega) hdg (go H locs ls cells slots hl hz hw)
      · simp only [enB, Bool.and_eq_true] at hq
        have e := Nat.eq_of_beq_eq_true hq.1
        subst e
        exact hr_newa hx hb hK hH hS (atype := .int) (hts _ (wIn_in hq.2)) (d := 11) (t0 := 0) rfl (by omega) (by omega) rfl rfl (fun C h => by cases h) hn.1 (by show n.toNatClampNeg * 4 ≤ _; omega) (by rw [hR3]; omega) (by rw [hR4]; omega) hdg (go H locs ls cells slots hl hz hw)
    · cases hv
  case anewarray i =>
    obtain ⟨hdg, hnx⟩ := hd1 rfl
    have hnx : nx = pc + 3 := hnx
    subst hnx
    dsimp only [stI] at h
    obtain ⟨n, r, eo, h1⟩ := pI_some h; clear h; subst eo; have h := h1; clear h1
    obtain ⟨v, hv, h⟩ := bnd_some h
    unfold nw at hv
    split at hv
    · rename_i hn
      cases hv
      have g := hk _ _ _ _ h
      have g1 : sz u + 1 ≤ sz u' ∧ sl u + n.toNatClampNeg ≤ sl u' := g.1
      refine ⟨⟨by omega, by omega⟩, fun H locs ls cells slots hH hS hl hz hw => ?_⟩
      have go : ∀ H1 : Heap, HR D cy base (al u tg n.toNatClampNeg) H1 → va_S (fun q => base ≤ q) s.heap H1 locs → W p l e R s m args below meth c H1 locs (cells + 1) (slots + n.toNatClampNeg) (MQ below (mQ D cy base u' rr) args s (sz u' - z0) (sl u' - w0) (fun q => base ≤ q)) (F0 m (pc + 3) ls (.ref (base + sz u) :: r.map (mval base))) := by
        intro H1 hH1 hS1
        refine g.2 H1 locs ls (cells + 1) (slots + n.toNatClampNeg) hH1 hS1 hl ?_ ?_
        · show z0 + (cells + 1) = sz u + 1; omega
        · show w0 + (slots + n.toNatClampNeg) = sl u + n.toNatClampNeg; omega
      simp only [enB, Bool.or_eq_true, Bool.and_eq_true] at hq
      rcases hq with (hq | hq) | hq
      · have e := Nat.eq_of_beq_eq_true hq.1
        subst e
        exact hr_anew hx hb hown hK hH hS (d := 13) (t0 := 2) (hts _ (wIn_in hq.2)) hN.2.1 (by omega) (by omega) rfl hn.1 (by omega) (by rw [hR3]; omega) (by rw [hR4]; omega) hdg go
      · have e := Nat.eq_of_beq_eq_true hq.1
        subst e
        exact hr_anew hx hb hown hK hH hS (d := 14) (t0 := 3) (hts _ (wIn_in hq.2)) hN.2.2.1 (by omega) (by omega) rfl hn.1 (by omega) (by rw [hR3]; omega) (by rw [hR4]; omega) hdg go
      · have e := Nat.eq_of_beq_eq_true hq.1
        subst e
        exact hr_anew hx hb hown hK hH hS (d := 15) (t0 := 4) (hts _ (wIn_in hq.2)) hN.2.2.2.1 (by omega) (by omega) rfl hn.1 (by omega) (by rw [hR3]; omega) (by rw [hR4]; omega) hdg go
    · cases hv
  case multianewarray i d =>
    obtain ⟨hdg, hnx⟩ := hd1 rfl
    have hnx : nx = pc + 4 := hnx
    subst hnx
    dsimp only [stI] at h
    simp only [enB, Bool.and_eq_true] at hq
    have e := Nat.eq_of_beq_eq_true hq.1.1
    subst e
    obtain ⟨k2, r, eo, h1⟩ := pI_some h; clear h; subst eo; have h := h1; clear h1
    obtain ⟨n, r, eo, h1⟩ := pI_some h; clear h; subst eo; have h := h1; clear h1
    by_cases hc : (¬ k2 < 0 ∧ k2.toNatClampNeg ≤ 1000) ∧ ¬ n < 0 ∧ n.toNatClampNeg ≤ 1000
    · rw [if_pos hc] at h
      have g := hk _ _ _ _ h
      have g1 : sz u + 1 + n.toNatClampNeg ≤ sz u' ∧ sl u + n.toNatClampNeg + n.toNatClampNeg * k2.toNatClampNeg ≤ sl u' := g.1
      refine ⟨⟨by omega, by omega⟩, fun H locs ls cells slots hH hS hl hz hw => hr_mna hx hb hown (hts _ (wIn_in hq.1.2)) hN.2.2.2.2 (hts _ (wIn_in hq.2)) hK hH hS hc.2.1 hc.1.1 hc.2.2 hc.1.2 (by rw [hR3]; omega) (by rw [hR4]; omega) hdg (fun H1 hH1 hS1 => g.2 H1 locs ls _ _ hH1 hS1 hl ?_ ?_)⟩
      · show z0 + (cells + 1 + n.toNatClampNeg) = sz u + 1 + n.toNatClampNeg; omega
      · show w0 + (slots + n.toNatClampNeg + n.toNatClampNeg * k2.toNatClampNeg) = sl u + n.toNatClampNeg + n.toNatClampNeg * k2.toNatClampNeg; omega
    · rw [if_neg hc] at h; cases h
  case invokevirtual i =>
    obtain ⟨hdg, hnx⟩ := hd1 rfl
    have hnx : nx = pc + 3 := hnx
    subst hnx
    dsimp only [stI] at h
    obtain ⟨g, hg, h⟩ := bnd_some h
    obtain ⟨f, hf, hcs⟩ := cal_ok C0 hg
    simp only [enB, hf] at hq
    have hq := Nat.eq_of_beq_eq_true hq
    rcases hcs with ⟨h5, -⟩ | ⟨h6, -⟩ | ⟨h6, -⟩ | ⟨h6, -⟩ | ⟨⟨hne5, hne6, hne7, hne8⟩, sd, hlink, hcode, hinit, hcls, hpar, hfr, hlc, hkind⟩
    · rw [h5] at hq; cases hq
    · rw [h6] at hq; cases hq
    · rw [h6] at hq; cases hq
    · rw [h6] at hq; cases hq
    rcases hkind with ⟨h0, -⟩ | ⟨-, hrc, hinst, hsel⟩ | ⟨-, h1, -⟩
    · rw [h0] at hq; cases hq
    rotate_left
    · exact absurd hq h1
    obtain ⟨t, r, eo, hlen, h1⟩ := pN_some _ _ _ h; clear h; subst eo; have h := h1; clear h1
    rw [List.append_nil] at h
    obtain ⟨b, r, eo, h1⟩ := pR_some h; clear h; subst eo; have h := h1; clear h1
    obtain ⟨a, eo, h1⟩ := bnd_some h; clear h; subst eo; have h := h1; clear h1
    obtain ⟨hfew, h⟩ := few_some h
    by_cases hkd : kd u a = g.2.1
    rotate_left
    · rw [if_neg hkd] at h; cases h
    rw [if_pos hkd] at h
    obtain ⟨v, hv, h⟩ := bnd_some h
    have hkd0 : kd u a = g.2.1 := hkd
    obtain ⟨rv, u1⟩ := v
    have h := psh_some h
    have g2 := hk _ _ _ _ h
    obtain ⟨mono, hmet⟩ := sd _ _ _ _ hv
    have g21 : sz u1 ≤ sz u' ∧ sl u1 ≤ sl u' := g2.1
    refine ⟨⟨Nat.le_trans mono.1 g21.1, Nat.le_trans mono.2 g21.2⟩, fun H locs ls cells slots hH hS hl hz hw => ?_⟩
    obtain ⟨r', hr', cellB, c1, c2', c3, -⟩ := hH.obj hkd0 hrc
    have hcat := cats base r
    have hfit : cells + (sz u1 - sz u) ≤ R.cells ∧ slots + (sl u1 - sl u) ≤ R.slots := by rw [hR3, hR4]; omega
    have hpay := pay_in hts (ws := Cond.code f.1 f.2.1 f.2.2.1 f.2.2.2.1 :: lw_good) (fun w hw => by
      rcases List.mem_cons.mp hw with h | h
      · rw [h]; exact lw_goodIn _ hcode
      · exact lw_goodIn _ h)
    have hst : (t ++ Sum.inr (Sum.inr (some a)) :: r).map (mval base) = (t.reverse.map (mval base)).reverse ++ .ref (base + a) :: r.map (mval base) := by
      rw [List.map_append, List.map_reverse, List.reverse_reverse]; rfl
    have hn : (t.reverse.map (mval base)).length = g.1 := by rw [List.length_map, List.length_reverse, hlen]
    have hp : PreV s H (RXc g.2.1) (base + a) (mP D cy base u (mR (some a) :: t.reverse)) (t.reverse.map (mval base)) :=
      ⟨mP_blind _ _ _ _ _, ⟨cellB, c1, by rw [c3]; rfl, by rw [c2']; exact (hK.1 g.2.1 _ (mcl_at g.2.1 hrc)).2.1⟩, fun U hU hW => ⟨rfl, by rw [hU]; exact hH, va_K.moved hW.alike hK, hN.warm hW⟩⟩
    rcases hlink with hl1 | hl1
    · exact mm_call (va_runV (C := RXc g.2.1) (b := base + a) (As := t.reverse.map (mval base)) (rest := r.map (mval base)) ⟨hx, hb, hml, hown, hts⟩ (hmet l D cy base) ⟨⟨rfl, rfl, by rw [hR1]; exact hfr, by rw [hR2]; exact hlc, hpay, List.mem_cons_self, hts _ hcode, hinit, hcls, hpar, hl1⟩, hinst, hsel⟩ hp rfl hn hl.1 hst (by show 2 * 0 + _ ≤ 8; omega) hdg hfit) hS (fun H1 locs1 hH1 hS1 => by
      have := g2.2 H1 locs1 ls (cells + (sz u1 - sz u)) (slots + (sl u1 - sl u)) hH1 hS1 hl (by show _ = sz u1; omega) (by show _ = sl u1; omega)
      rw [List.map_append] at this
      cases rv <;> exact this)
    · exact mm_call (va_runVN (C := RXc g.2.1) (b := base + a) (As := t.reverse.map (mval base)) (rest := r.map (mval base)) ⟨hx, hb, hml, hown, hts⟩ (hmet l D cy base) ⟨⟨⟨rfl, rfl, by rw [hR1]; exact hfr, by rw [hR2]; exact hlc, hpay, List.mem_cons_self⟩, hts _ hcode, hinit, hcls, hpar, va_Nw.use rfl hl1⟩, hinst, hsel⟩ hp rfl hn hl.1 hst (by show 2 * 0 + _ ≤ 8; omega) hdg hfit) hS (fun H1 locs1 hH1 hS1 => by
      have := g2.2 H1 locs1 ls (cells + (sz u1 - sz u)) (slots + (sl u1 - sl u)) hH1 hS1 hl (by show _ = sz u1; omega) (by show _ = sl u1; omega)
      rw [List.map_append] at this
      cases rv <;> exact this)
  case invokespecial i =>
    obtain ⟨hdg, hnx⟩ := hd1 rfl
    have hnx : nx = pc + 3 := hnx
    subst hnx
    dsimp only [stI] at h
    obtain ⟨g, hg, h⟩ := bnd_some h
    obtain ⟨f, hf, hcs⟩ := cal_ok C0 hg
    simp only [enB, hf] at hq
    rcases hcs with ⟨h5, h98, o1, o2, o3, o4, o5⟩ | ⟨h6, -⟩ | ⟨h6, -⟩ | ⟨h6, -⟩ | ⟨⟨hne5, hne6, hne7, hne8⟩, sd, hlink, hcode, hinit, hcls, hpar, hfr, hlc, hkind⟩
    · rw [h98] at h
      obtain ⟨b, r, eo, h1⟩ := pR_some h; clear h; subst eo; have h := h1; clear h1
      obtain ⟨a, eo, h1⟩ := bnd_some h; clear h; subst eo; have h := h1; clear h1
      obtain ⟨hfew, h⟩ := few_some h
      have g2 := hk _ _ _ _ h
      have hcat := cats base r
      exact ⟨g2.1, fun H locs ls cells slots hH hS hl hz hw => W.objInit hx hb hown o1 o2 o3 rfl (by rw [hml]; exact hl.1) rfl hdg (by rw [hR1]; exact o4) (by rw [hR2]; show 2 * 0 + _ + 12 ≤ _; omega) (g2.2 H locs ls cells slots hH hS hl hz hw)⟩
    · rw [h6] at hq; cases hq
    · rw [h6] at hq; cases hq
    · rw [h6] at hq; cases hq
    rcases hkind with ⟨h0, -⟩ | ⟨h1, -⟩ | ⟨-, -, hrc, hinst, hnm, hrn⟩
    · rw [Bool.or_eq_true] at hq
      rcases hq with hq | hq
      · have := Nat.eq_of_beq_eq_true hq; omega
      · have := Nat.eq_of_beq_eq_true hq; omega
    · rw [Bool.or_eq_true] at hq
      rcases hq with hq | hq
      · have := Nat.eq_of_beq_eq_true hq; omega
      · have := Nat.eq_of_beq_eq_true hq; omega
    have h98 : Nat.beq g.2.1 98 = false := by
      cases hb9 : Nat.beq g.2.1 98 with
      | false => rfl
      | true => have := Nat.eq_of_beq_eq_true hb9; omega
    rw [h98] at h
    obtain ⟨t, r, eo, hlen, h1⟩ := pN_some _ _ _ h; clear h; subst eo; have h := h1; clear h1
    rw [List.append_nil] at h
    obtain ⟨b, r, eo, h1⟩ := pR_some h; clear h; subst eo; have h := h1; clear h1
    obtain ⟨a, eo, h1⟩ := bnd_some h; clear h; subst eo; have h := h1; clear h1
    obtain ⟨hfew, h⟩ := few_some h
    by_cases hkd : kd u a = g.2.1
    rotate_left
    · rw [if_neg hkd] at h; cases h
    rw [if_pos hkd] at h
    obtain ⟨v, hv, h⟩ := bnd_some h
    have hkd0 : kd u a = g.2.1 := hkd
    obtain ⟨rv, u1⟩ := v
    have h := psh_some h
    have g2 := hk _ _ _ _ h
    obtain ⟨mono, hmet⟩ := sd _ _ _ _ hv
    have g21 : sz u1 ≤ sz u' ∧ sl u1 ≤ sl u' := g2.1
    refine ⟨⟨Nat.le_trans mono.1 g21.1, Nat.le_trans mono.2 g21.2⟩, fun H locs ls cells slots hH hS hl hz hw => ?_⟩
    obtain ⟨r', hr', cellB, c1, c2', c3, -⟩ := hH.obj hkd0 hrc
    have hcat := cats base r
    have hfit : cells + (sz u1 - sz u) ≤ R.cells ∧ slots + (sl u1 - sl u) ≤ R.slots := by rw [hR3, hR4]; omega
    have hpay := pay_in hts (ws := Cond.code f.1 f.2.1 f.2.2.1 f.2.2.2.1 :: lw_good) (fun w hw => by
      rcases List.mem_cons.mp hw with h | h
      · rw [h]; exact lw_goodIn _ hcode
      · exact lw_goodIn _ h)
    have hst : (t ++ Sum.inr (Sum.inr (some a)) :: r).map (mval base) = (t.reverse.map (mval base)).reverse ++ .ref (base + a) :: r.map (mval base) := by
      rw [List.map_append, List.map_reverse, List.reverse_reverse]; rfl
    have hn : (t.reverse.map (mval base)).length = g.1 := by rw [List.length_map, List.length_reverse, hlen]
    have hp : PreS s H (mP D cy base u (mR (some a) :: t.reverse)) (.ref (base + a) :: t.reverse.map (mval base)) :=
      ⟨mP_blind _ _ _ _ _, fun U hU hW => ⟨rfl, by rw [hU]; exact hH, va_K.moved hW.alike hK, hN.warm hW⟩⟩
    rw [hrn] at hmet hcode hpay
    rcases hlink with hl1 | hl1
    · exact mm_call (va_runI (b := base + a) (As := t.reverse.map (mval base)) (rest := r.map (mval base)) ⟨hx, hb, hml, hown, hts⟩ (hmet l D cy base) ⟨⟨rfl, rfl, by rw [hR1]; exact hfr, by rw [hR2]; exact hlc, hpay, List.mem_cons_self, hts _ hcode, hinit, hcls, hpar, hl1⟩, hnm, hinst⟩ hp rfl hn hl.1 hst (by show 2 * 0 + _ ≤ 8; omega) hdg hfit) hS (fun H1 locs1 hH1 hS1 => by
      have := g2.2 H1 locs1 ls (cells + (sz u1 - sz u)) (slots + (sl u1 - sl u)) hH1 hS1 hl (by show _ = sz u1; omega) (by show _ = sl u1; omega)
      rw [List.map_append] at this
      cases rv <;> exact this)
    · exact mm_call (va_runIN (b := base + a) (As := t.reverse.map (mval base)) (rest := r.map (mval base)) ⟨hx, hb, hml, hown, hts⟩ (hmet l D cy base) ⟨⟨⟨rfl, rfl, by rw [hR1]; exact hfr, by rw [hR2]; exact hlc, hpay, List.mem_cons_self⟩, hts _ hcode, hinit, hcls, hpar, va_Nw.use rfl hl1⟩, hnm, hinst⟩ hp rfl hn hl.1 hst (by show 2 * 0 + _ ≤ 8; omega) hdg hfit) hS (fun H1 locs1 hH1 hS1 => by
      have := g2.2 H1 locs1 ls (cells + (sz u1 - sz u)) (slots + (sl u1 - sl u)) hH1 hS1 hl (by show _ = sz u1; omega) (by show _ = sl u1; omega)
      rw [List.map_append] at this
      cases rv <;> exact this)
  case invokestatic i =>
    obtain ⟨hdg, hnx⟩ := hd1 rfl
    have hnx : nx = pc + 3 := hnx
    subst hnx
    dsimp only [stI] at h
    obtain ⟨g, hg, h⟩ := bnd_some h
    obtain ⟨f, hf, hcs⟩ := cal_ok C0 hg
    simp only [enB, hf] at hq
    rcases hcs with ⟨h5, -⟩ | ⟨h6, h97, o1, o2, o3, o4, o5, o6⟩ | ⟨h7, h96, o1, o2, o3, o4, o5, o6⟩ | ⟨h8, h95, o1, o2, o3, o4, o5, o6⟩ | ⟨⟨hne5, hne6, hne7, hne8⟩, sd, hlink, hcode, hinit, hcls, hpar, hfr, hlc, hkind⟩
    · rw [h5] at hq; cases hq
    · rw [h97] at h
      obtain ⟨n, r, eo, h1⟩ := pI_some h; clear h; subst eo; have h := h1; clear h1
      obtain ⟨dp, r, eo, h1⟩ := pI_some h; clear h; subst eo; have h := h1; clear h1
      obtain ⟨b, r, eo, h1⟩ := pR_some h; clear h; subst eo; have h := h1; clear h1
      obtain ⟨sp, r, eo, h1⟩ := pI_some h; clear h; subst eo; have h := h1; clear h1
      obtain ⟨a, r, eo, h1⟩ := pR_some h; clear h; subst eo; have h := h1; clear h1
      obtain ⟨a, eo, h1⟩ := bnd_some h; clear h; subst eo; have h := h1; clear h1
      obtain ⟨b, eo, h1⟩ := bnd_some h; clear h; subst eo; have h := h1; clear h1
      obtain ⟨hfew, h⟩ := few_some h
      obtain ⟨t, hv, h⟩ := bnd_some h
      unfold cpy at hv
      split at hv
      · rename_i hcp
        cases hv
        have g2 := hk _ _ _ _ h
        have hcat := cats base r
        exact ⟨g2.1, fun H locs ls cells slots hH hS hl hz hw => hr_copy hx hb (by rw [hml]; exact hl.1.symm) hown o1 o2 o3 o4 hK hH hS hcp.1 hcp.2.1 hcp.2.2.1 hcp.2.2.2.1 hcp.2.2.2.2.1 hcp.2.2.2.2.2.1 hcp.2.2.2.2.2.2.1 (by rw [hR1]; exact o5) (by rw [hR2]; omega) hdg (fun H1 locs1 hH1 hS1 => g2.2 H1 locs1 ls cells slots hH1 hS1 hl hz hw)⟩
      · cases hv
    · rw [h96] at h
      obtain ⟨y, r, eo, h1⟩ := pI_some h; clear h; subst eo; have h := h1; clear h1
      obtain ⟨x, r, eo, h1⟩ := pI_some h; clear h; subst eo; have h := h1; clear h1
      obtain ⟨hfew, h⟩ := few_some h
      have g2 := hk _ _ _ _ h
      have g21 : sz u ≤ sz u' ∧ sl u ≤ sl u' := g2.1
      have hcat := cats base r
      exact ⟨g2.1, fun H locs ls cells slots hH hS hl hz hw => va_mmax hx hb (by rw [hml]; exact hl.1.symm) hown o1 o2 o3 o4 (by rw [hR1]; exact o5) (by rw [hR2]; omega) (by rw [hR3]; omega) (by rw [hR4]; omega) hdg (g2.2 H locs ls cells slots hH hS hl hz hw)⟩
    · rw [h95] at h
      obtain ⟨y, r, eo, h1⟩ := pI_some h; clear h; subst eo; have h := h1; clear h1
      obtain ⟨x, r, eo, h1⟩ := pI_some h; clear h; subst eo; have h := h1; clear h1
      obtain ⟨hfew, h⟩ := few_some h
      have g2 := hk _ _ _ _ h
      have g21 : sz u ≤ sz u' ∧ sl u ≤ sl u' := g2.1
      have hcat := cats base r
      exact ⟨g2.1, fun H locs ls cells slots hH hS hl hz hw => va_mmin hx hb (by rw [hml]; exact hl.1.symm) hown o1 o2 o3 o4 (by rw [hR1]; exact o5) (by rw [hR2]; omega) (by rw [hR3]; omega) (by rw [hR4]; omega) hdg (g2.2 H locs ls cells slots hH hS hl hz hw)⟩
    rcases hkind with ⟨-, hrc, hstat⟩ | ⟨h1, -⟩ | ⟨h0, h1, -⟩
    rotate_left
    · simp only [Bool.or_eq_true] at hq
      rcases hq with ((hq | hq) | hq) | hq
      · have := Nat.eq_of_beq_eq_true hq; omega
      · have := Nat.eq_of_beq_eq_true hq; omega
      · have := Nat.eq_of_beq_eq_true hq; omega
      · have := Nat.eq_of_beq_eq_true hq; omega
    · simp only [Bool.or_eq_true] at hq
      rcases hq with ((hq | hq) | hq) | hq
      · have := Nat.eq_of_beq_eq_true hq; omega
      · have := Nat.eq_of_beq_eq_true hq; omega
      · have := Nat.eq_of_beq_eq_true hq; omega
      · have := Nat.eq_of_beq_eq_true hq; omega
    have h97 : Nat.beq g.2.1 97 = false := by rw [hrc]; rfl
    have h96 : Nat.beq g.2.1 96 = false := by rw [hrc]; rfl
    have h95 : Nat.beq g.2.1 95 = false := by rw [hrc]; rfl
    rw [h97, h96, h95] at h
    obtain ⟨t, r, eo, hlen, h1⟩ := pN_some _ _ _ h; clear h; subst eo; have h := h1; clear h1
    rw [List.append_nil] at h
    obtain ⟨hfew, h⟩ := few_some h
    obtain ⟨v, hv, h⟩ := bnd_some h
    obtain ⟨rv, u1⟩ := v
    have h := psh_some h
    have g2 := hk _ _ _ _ h
    obtain ⟨mono, hmet⟩ := sd _ _ _ _ hv
    have g21 : sz u1 ≤ sz u' ∧ sl u1 ≤ sl u' := g2.1
    refine ⟨⟨Nat.le_trans mono.1 g21.1, Nat.le_trans mono.2 g21.2⟩, fun H locs ls cells slots hH hS hl hz hw => ?_⟩
    have hcat := cats base r
    have hfit : cells + (sz u1 - sz u) ≤ R.cells ∧ slots + (sl u1 - sl u) ≤ R.slots := by rw [hR3, hR4]; omega
    have hpay := pay_in hts (ws := Cond.code f.1 f.2.1 f.2.2.1 f.2.2.2.1 :: lw_good) (fun w hw => by
      rcases List.mem_cons.mp hw with h | h
      · rw [h]; exact lw_goodIn _ hcode
      · exact lw_goodIn _ h)
    have hst : (t ++ r).map (mval base) = (t.reverse.map (mval base)).reverse ++ r.map (mval base) := by
      rw [List.map_append, List.map_reverse, List.reverse_reverse]
    have hn : (t.reverse.map (mval base)).length = g.1 := by rw [List.length_map, List.length_reverse, hlen]
    have hp : PreS s H (mP D cy base u t.reverse) (t.reverse.map (mval base)) :=
      ⟨mP_blind _ _ _ _ _, fun U hU hW => ⟨rfl, by rw [hU]; exact hH, va_K.moved hW.alike hK, hN.warm hW⟩⟩
    rcases hlink with hl1 | hl1
    · exact mm_call (va_runS (As := t.reverse.map (mval base)) (rest := r.map (mval base)) ⟨hx, hb, hml, hown, hts⟩ (hmet l D cy base) ⟨⟨rfl, rfl, by rw [hR1]; exact hfr, by rw [hR2]; exact hlc, hpay, List.mem_cons_self, hts _ hcode, hinit, hcls, hpar, hl1⟩, hstat⟩ hp rfl hn hl.1 hst (by show 2 * 0 + _ ≤ 8; omega) hdg hfit) hS (fun H1 locs1 hH1 hS1 => by
      have := g2.2 H1 locs1 ls (cells + (sz u1 - sz u)) (slots + (sl u1 - sl u)) hH1 hS1 hl (by show _ = sz u1; omega) (by show _ = sl u1; omega)
      rw [List.map_append] at this
      cases rv <;> exact this)
    · exact mm_call (va_runSN (As := t.reverse.map (mval base)) (rest := r.map (mval base)) ⟨hx, hb, hml, hown, hts⟩ (hmet l D cy base) ⟨⟨⟨rfl, rfl, by rw [hR1]; exact hfr, by rw [hR2]; exact hlc, hpay, List.mem_cons_self⟩, hts _ hcode, hinit, hcls, hpar, va_Nw.use rfl hl1⟩, hstat, trivial⟩ hp rfl hn hl.1 hst (by show 2 * 0 + _ ≤ 8; omega) hdg hfit) hS (fun H1 locs1 hH1 hS1 => by
      have := g2.2 H1 locs1 ls (cells + (sz u1 - sz u)) (slots + (sl u1 - sl u)) hH1 hS1 hl (by show _ = sz u1; omega) (by show _ = sl u1; omega)
      rw [List.map_append] at this
      cases rv <;> exact this)
  case ireturn =>
    obtain ⟨hdg, hnx⟩ := hd1 rfl
    have hnx : nx = pc + 1 := hnx
    subst hnx
    dsimp only [stI] at h
    obtain ⟨x, r, eo, h1⟩ := pI_some h; clear h; subst eo; have h := h1; clear h1
    unfold rtI at h
    split at h
    · split at h
      · rename_i hr1
        cases h
        rcases hrk with hk0 | hk1 | hk2 | hk3
        · have := hk0.1; omega
        · refine ⟨⟨Nat.le_refl _, Nat.le_refl _⟩, fun H locs ls cells slots hH hS hl hz hw => ?_⟩
          rw [show sz u' - z0 = cells by omega, show sl u' - w0 = slots by omega]
          exact W.iret hx hb (hrt.trans hk1.2) (fun t ht hW => ⟨⟨rfl, by rw [ht]; exact hH⟩, by rw [ht]; exact hS.1, fun q h1 h2 => by rw [ht]; exact hS.2.1 q h1 h2⟩) hS.2.2 hdg hlocks
        · have := hk2.1; omega
        · have := hk3.1; omega
      · rename_i hr2
        split at h
        · rename_i h01
          cases h
          rcases hrk with hk0 | hk1 | hk2 | hk3
          · have := hk0.1; omega
          · have := hk1.1; omega
          · refine ⟨⟨Nat.le_refl _, Nat.le_refl _⟩, fun H locs ls cells slots hH hS hl hz hw => ?_⟩
            rw [show sz u' - z0 = cells by omega, show sl u' - w0 = slots by omega]
            exact W.zret hx hb (hrt.trans hk2.2) (by rcases h01 with h | h <;> rw [h] <;> rfl) (fun t ht hW => ⟨⟨rfl, by rw [ht]; exact hH⟩, by rw [ht]; exact hS.1, fun q h1 h2 => by rw [ht]; exact hS.2.1 q h1 h2⟩) hS.2.2 hdg hlocks
          · have := hk3.1; omega
        · cases h
      · cases h
    · cases h
  case areturn =>
    obtain ⟨hdg, hnx⟩ := hd1 rfl
    have hnx : nx = pc + 1 := hnx
    subst hnx
    dsimp only [stI] at h
    obtain ⟨x, r, eo, h1⟩ := pR_some h; clear h; subst eo; have h := h1; clear h1
    unfold rtR at h
    split at h
    · split at h
      · rename_i hr1
        cases h
        rcases hrk with hk0 | hk1 | hk2 | hk3
        · have := hk0.1; omega
        · have := hk1.1; omega
        · have := hk2.1; omega
        · obtain ⟨-, n, hn⟩ := hk3
          refine ⟨⟨Nat.le_refl _, Nat.le_refl _⟩, fun H locs ls cells slots hH hS hl hz hw => ?_⟩
          rw [show sz u' - z0 = cells by omega, show sl u' - w0 = slots by omega]
          exact W.aret hx hb (hrt.trans hn) (Or.inl ⟨n, rfl⟩) (va_rf_or _) (fun t ht hW => ⟨⟨rfl, by rw [ht]; exact hH⟩, by rw [ht]; exact hS.1, fun q h1 h2 => by rw [ht]; exact hS.2.1 q h1 h2⟩) hS.2.2 hdg hlocks
      · cases h
    · cases h
  case return_ =>
    obtain ⟨hdg, hnx⟩ := hd1 rfl
    have hnx : nx = pc + 1 := hnx
    subst hnx
    dsimp only [stI] at h
    unfold rtV at h
    split at h
    · split at h
      · rename_i hr1
        cases h
        rcases hrk with hk0 | hk1 | hk2 | hk3
        · refine ⟨⟨Nat.le_refl _, Nat.le_refl _⟩, fun H locs ls cells slots hH hS hl hz hw => ?_⟩
          rw [show sz u' - z0 = cells by omega, show sl u' - w0 = slots by omega]
          exact W.vret hx hb (hrt.trans hk0.2) (fun t ht hW => ⟨⟨rfl, by rw [ht]; exact hH⟩, by rw [ht]; exact hS.1, fun q h1 h2 => by rw [ht]; exact hS.2.1 q h1 h2⟩) hS.2.2 hdg hlocks
        · have := hk1.1; omega
        · have := hk2.1; omega
        · have := hk3.1; omega
      · cases h
    · cases h
  all_goals (cases h; done)
end SND
end
section
/-! A walk makes no cell go; a method by its table keeps its contract. -/
theorem le2_rf (u : MH) : le2 u u := ⟨Nat.le_refl _, Nat.le_refl _⟩
def Mn (u : MH) (F : MK → Option MO) : Prop := ∀ (k : MK) (r : Option MV) (u' : MH), (∀ pc lo o t r u', k pc lo o t = some (r, u') → le2 t u') → F k = some (r, u') → le2 u u'
theorem mn_no {u : MH} : Mn u (fun _ => none) := fun k r u' _ h => by cases h
theorem mn_k {u t : MH} {pc : Nat} {lo : MLs} {o : List MV} (h : le2 u t) : Mn u (fun k => k pc lo o t) := fun k r u' hk h2 => ⟨Nat.le_trans h.1 (hk _ _ _ _ _ _ h2).1, Nat.le_trans h.2 (hk _ _ _ _ _ _ h2).2⟩
theorem mn_rt {u : MH} {v : Option MV} : Mn u (fun _ => some (v, u)) := fun k r u' _ h => by cases h; exact le2_rf _
theorem mn_ite {u : MH} {c : Prop} [h : Decidable c] {F G : MK → Option MO} (hF : c → Mn u F) (hG : ¬ c → Mn u G) : Mn u (fun k => if c then F k else G k) := by
  by_cases hc : c
  · simp only [hc, if_true]; exact hF hc
  · simp only [hc, if_false]; exact hG hc
theorem mn_cond {u : MH} {b : Bool} {F G : MK → Option MO} (hF : b = true → Mn u F) (hG : b = false → Mn u G) : Mn u (fun k => cond b (F k) (G k)) := by
  cases b
  · exact hG rfl
  · exact hF rfl
theorem mn_bind {u : MH} {α : Type} {x : Option α} {F : α → MK → Option MO} (h : ∀ a, x = some a → Mn u (F a)) : Mn u (fun k => x.bind fun a => F a k) := by
  cases x with
  | none => exact mn_no
  | some a => exact h a rfl
theorem mn_pI {u : MH} {o : List MV} {F : Int32 → List MV → MK → Option MO} (h : ∀ x r, Mn u (F x r)) : Mn u (fun k => pI o fun x r => F x r k) := by
  unfold pI
  split
  · exact h _ _
  · exact mn_no
theorem mn_pL {u : MH} {o : List MV} {F : Int64 → List MV → MK → Option MO} (h : ∀ x r, Mn u (F x r)) : Mn u (fun k => pL o fun x r => F x r k) := by
  unfold pL
  split
  · exact h _ _
  · exact mn_no
theorem mn_pR {u : MH} {o : List MV} {F : Option Nat → List MV → MK → Option MO} (h : ∀ x r, Mn u (F x r)) : Mn u (fun k => pR o fun x r => F x r k) := by
  unfold pR
  split
  · exact h _ _
  · exact mn_no
theorem mn_pC {u : MH} {o : List MV} {F : MV → List MV → MK → Option MO} (h : ∀ x r, Mn u (F x r)) : Mn u (fun k => pC o fun x r => F x r k) := by
  unfold pC
  split
  · exact h _ _
  · exact h _ _
  · exact mn_no
theorem mn_pN {u : MH} {n : Nat} : ∀ {acc o : List MV} {F : List MV → List MV → MK → Option MO} (_ : ∀ x r, Mn u (F x r)), Mn u (fun k => pN n acc o fun x r => F x r k) := by
  induction n with
  | zero => intro acc o F h; exact h _ _
  | succ n ih =>
    intro acc o F h
    cases o with
    | nil => exact mn_no
    | cons v r => exact ih h
theorem mn_lI {u : MH} {lo : MLs} {j : Nat} {F : Int32 → MK → Option MO} (h : ∀ x, Mn u (F x)) : Mn u (fun k => lI lo j fun x => F x k) := by
  unfold lI
  split
  · exact h _
  · exact mn_no
theorem mn_lL {u : MH} {lo : MLs} {j : Nat} {F : Int64 → MK → Option MO} (h : ∀ x, Mn u (F x)) : Mn u (fun k => lL lo j fun x => F x k) := by
  unfold lL
  split
  · exact h _
  · exact mn_no
theorem mn_lR {u : MH} {lo : MLs} {j : Nat} {F : Option Nat → MK → Option MO} (h : ∀ x, Mn u (F x)) : Mn u (fun k => lR lo j fun x => F x k) := by
  unfold lR
  split
  · exact h _
  · exact mn_no
theorem mn_swt {u : MH} {x : Int32} {d : Nat} {l : List (Int32 × Nat)} {F : Nat → MK → Option MO} (h : ∀ x, Mn u (F x)) : Mn u (fun k => swt x d l fun x => F x k) := by
  induction l with
  | nil => exact h _
  | cons q l ih => exact mn_ite (c := x = q.1) (fun _ => h q.2) (fun _ => ih)
theorem mn_psh {u : MH} {rk : Nat} {v : MO} {r : List MV} {F : List MV → MH → MK → Option MO} (h : ∀ x, Mn u (F x v.2)) : Mn u (fun k => psh rk v r fun x r => F x r k) := by
  unfold psh
  split
  · exact mn_bind fun _ _ => h _
  · exact mn_bind fun _ _ => h _
  · exact mn_bind fun _ _ => h _
theorem mn_few {u : MH} {r : List MV} {F : MK → Option MO} (h : Mn u F) : Mn u (fun k => few r (F k)) := mn_cond (fun _ => h) (fun _ => mn_no)
theorem mn_c2 {u : MH} {c : Jvm.ClassFile.Cond} {x y : Int32} {F G : MK → Option MO} (hF : Mn u F) (hG : Mn u G) : Mn u (fun k => c2 c x y (F k) (G k)) := by
  cases c
  · exact mn_ite (fun _ => hF) (fun _ => hG)
  · exact mn_ite (fun _ => hG) (fun _ => hF)
  · exact mn_ite (fun _ => hF) (fun _ => hG)
  · exact mn_ite (fun _ => hF) (fun _ => hG)
  · exact mn_ite (fun _ => hF) (fun _ => hG)
  · exact mn_ite (fun _ => hF) (fun _ => hG)
theorem mn_cR {u : MH} {r : Option Nat} {F G : MK → Option MO} (hF : Mn u F) (hG : Mn u G) : Mn u (fun k => cR r (F k) (G k)) := by
  cases r
  · exact hF
  · exact hG
theorem mn_fgt {u : MH} {q : Nat × Nat × Nat} {a : Nat} {F : MV → MK → Option MO} (h : ∀ x, Mn u (F x)) : Mn u (fun k => fgt u q a fun x => F x k) := by
  unfold fgt
  split
  · exact mn_bind fun _ _ => h _
  · exact mn_bind fun _ _ => h _
  · exact mn_bind fun _ _ => h _
  · exact mn_bind fun _ _ => h _
theorem wI_le {u t : MH} {c a k : Nat} {v : Int32} (h : wI u c a k v = some t) : le2 u t := by
  unfold wI at h; split at h <;> cases h; exact le2_rf u
theorem wZ_le {u t : MH} {c a k : Nat} {v : Int32} (h : wZ u c a k v = some t) : le2 u t := by
  unfold wZ at h; split at h <;> cases h; exact le2_rf u
theorem wL_le {u t : MH} {c a k : Nat} {v : Int64} (h : wL u c a k v = some t) : le2 u t := by
  unfold wL at h; split at h <;> cases h; exact le2_rf u
theorem wR_le {u t : MH} {c a k : Nat} {v : Option Nat} (h : wR u c a k v = some t) : le2 u t := by
  unfold wR at h; split at h <;> cases h; exact le2_rf u
theorem st_le {u t : MH} {d a : Nat} {j v : Int32} (h : st u d a j v = some t) : le2 u t := by
  unfold st at h; split at h <;> cases h; exact le2_rf u
theorem stR_le {u t : MH} {a : Nat} {j : Int32} {v : Option Nat} (h : stR u a j v = some t) : le2 u t := by
  unfold stR at h; split at h <;> cases h; exact le2_rf u
theorem cpy_le {u t : MH} {a b : Nat} {sp dp n : Int32} (h : cpy u a sp b dp n = some t) : le2 u t := by
  unfold cpy at h; split at h <;> cases h; exact le2_rf u
theorem al_le (u : MH) (d n : Nat) : le2 u (al u d n) := ⟨Nat.le_add_right _ 1, Nat.le_add_right _ n⟩
theorem alM_le (u : MH) (n w : Nat) : le2 u (alM u n w) := ⟨by show sz u ≤ sz u + 1 + n; omega, by show sl u ≤ sl u + n + n * w; omega⟩
theorem nw_le {u t : MH} {d : Nat} {n : Int32} (h : nw u d n = some t) : le2 u t := by
  unfold nw at h; split at h <;> cases h; exact al_le _ _ _
theorem mn_fpt {u : MH} {q : Nat × Nat × Nat} {o : List MV} {F : List MV → MH → MK → Option MO} (h : ∀ x t, le2 u t → Mn u (F x t)) : Mn u (fun k => fpt u q o fun x r => F x r k) := by
  unfold fpt
  split
  · exact mn_pI fun _ _ => mn_pR fun _ _ => mn_bind fun _ _ => mn_bind fun _ ht => h _ _ (wI_le ht)
  · exact mn_pI fun _ _ => mn_pR fun _ _ => mn_bind fun _ _ => mn_bind fun _ ht => h _ _ (wZ_le ht)
  · exact mn_pL fun _ _ => mn_pR fun _ _ => mn_bind fun _ _ => mn_bind fun _ ht => h _ _ (wL_le ht)
  · exact mn_pR fun _ _ => mn_pR fun _ _ => mn_bind fun _ _ => mn_bind fun _ ht => h _ _ (wR_le ht)
theorem mn_rtI {u : MH} {rk : Nat} {x : Int32} {r : List MV} : Mn u (fun _ => rtI rk x r u) := by
  unfold rtI
  split
  · split
    · exact mn_rt
    · exact mn_ite (fun _ => mn_rt) (fun _ => mn_no)
    · exact mn_no
  · exact mn_no
theorem mn_rtR {u : MH} {rk : Nat} {x : Option Nat} {r : List MV} : Mn u (fun _ => rtR rk x r u) := by
  unfold rtR
  split
  · split
    · exact mn_rt
    · exact mn_no
  · exact mn_no
theorem mn_rtV {u : MH} {rk : Nat} {r : List MV} : Mn u (fun _ => rtV rk r u) := by
  unfold rtV
  split
  · split
    · exact mn_rt
    · exact mn_no
  · exact mn_no
/-- every method that is called lets no cell go -/
def CMn (T : MT) : Prop := ∀ (i : Nat) (g : CE), lk i T.2.2.2.1 = some g → ∀ as u v, g.2.2.2 as u = some v → le2 u v.2
set_option maxHeartbeats 4000000 in
theorem mn_stI {T : MT} (hT : CMn T) (q : EN) (lo : MLs) (o : List MV) (u : MH) : Mn u (fun k => stI T k q lo o u) := by
  obtain ⟨i, nx, tg, cv, cl, sw⟩ := q
  cases i
  case invokevirtual i =>
    dsimp only [stI]
    exact mn_bind fun g hg => mn_pN fun _ _ => mn_pR fun _ _ => mn_bind fun a _ => mn_few (mn_ite (fun hk => mn_bind fun v hv => mn_psh fun _ => mn_k (hT i g hg _ _ _ hv)) fun _ => mn_no)
  case invokespecial i =>
    dsimp only [stI]
    exact mn_bind fun g hg => mn_cond (fun _ => mn_pR fun _ _ => mn_bind fun _ _ => mn_few (mn_k (le2_rf u))) (fun _ => mn_pN fun _ _ => mn_pR fun _ _ => mn_bind fun a _ => mn_few (mn_ite (fun hk => mn_bind fun v hv => mn_psh fun _ => mn_k (hT i g hg _ _ _ hv)) fun _ => mn_no))
  case invokestatic i =>
    dsimp only [stI]
    exact mn_bind fun g hg => mn_cond (fun _ => mn_pI fun _ _ => mn_pI fun _ _ => mn_pR fun _ _ => mn_pI fun _ _ => mn_pR fun _ _ => mn_bind fun _ _ => mn_bind fun _ _ => mn_few (mn_bind fun t ht => mn_k (cpy_le ht))) (fun _ => mn_cond (fun _ => mn_pI fun _ _ => mn_pI fun _ _ => mn_few (mn_k (le2_rf u))) (fun _ => mn_cond (fun _ => mn_pI fun _ _ => mn_pI fun _ _ => mn_few (mn_k (le2_rf u))) (fun _ => mn_pN fun _ _ => mn_few (mn_bind fun v hv => mn_psh fun _ => mn_k (hT i g hg _ _ _ hv)))))
  case putfield i =>
    dsimp only [stI]
    exact mn_bind fun g hg => mn_fpt fun _ _ ht => mn_k ht
  case iastore =>
    dsimp only [stI]
    exact mn_pI fun _ _ => mn_pI fun _ _ => mn_pR fun _ _ => mn_bind fun _ _ => mn_bind fun t ht => mn_k (st_le ht)
  case bastore =>
    dsimp only [stI]
    exact mn_pI fun _ _ => mn_pI fun _ _ => mn_pR fun _ _ => mn_bind fun _ _ => mn_bind fun t ht => mn_k (st_le ht)
  case aastore =>
    dsimp only [stI]
    exact mn_pR fun _ _ => mn_pI fun _ _ => mn_pR fun _ _ => mn_bind fun _ _ => mn_bind fun t ht => mn_k (stR_le ht)
  case new i => exact mn_k (al_le u _ _)
  case newarray i =>
    dsimp only [stI]
    exact mn_pI fun _ _ => mn_bind fun t ht => mn_k (nw_le ht)
  case anewarray i =>
    dsimp only [stI]
    exact mn_pI fun _ _ => mn_bind fun t ht => mn_k (nw_le ht)
  case multianewarray i d =>
    dsimp only [stI]
    exact mn_pI fun _ _ => mn_pI fun _ _ => mn_ite (fun _ => mn_k (alM_le u _ _)) fun _ => mn_no
  case ireturn => dsimp only [stI]; exact mn_pI fun _ _ => mn_rtI
  case areturn => dsimp only [stI]; exact mn_pR fun _ _ => mn_rtR
  case return_ => dsimp only [stI]; exact mn_rtV
  all_goals
    dsimp only [stI]
    repeat' (first
      | exact mn_no
      | exact mn_k (le2_rf u)
      | (refine mn_pI fun _ _ => ?_)
      | (refine mn_pL fun _ _ => ?_)
      | (refine mn_pR fun _ _ => ?_)
      | (refine mn_pC fun _ _ => ?_)
      | (refine mn_lI fun _ => ?_)
      | (refine mn_lL fun _ => ?_)
      | (refine mn_lR fun _ => ?_)
      | (refine mn_swt fun _ => ?_)
      | (refine mn_fgt fun _ => ?_)
      | (refine mn_c2 ?_ ?_)
      | (refine mn_cR ?_ ?_)
      | (refine mn_bind fun _ _ => ?_)
      | (refine mn_ite (fun _ => ?_) (fun _ => ?_)))
theorem exec_le {T : MT} (hT : CMn T) : ∀ (n pc : Nat) (lo : MLs) (o : List MV) (u : MH) (r : Option MV) (u' : MH), exec T n pc lo o u = some (r, u') → le2 u u' := by
  intro n
  induction n with
  | zero => intro pc lo o u r u' h; cases h
  | succ n ih =>
    intro pc lo o u r u' h
    have h : (lk pc T.1).bind (fun q => stI T (fun pc lo o s => exec T n pc (cutAt T pc lo) o s) q lo o u) = some (r, u') := h
    obtain ⟨q, hq, h⟩ := bnd_some h
    exact mn_stI hT q lo o u _ r u' (fun pc lo o t r u' h => ih _ _ _ _ _ _ h) h
theorem Ev_le {T : MT} (hT : CMn T) {pc : Nat} {lo : MLs} {o : List MV} {u : MH} {r : Option MV} {u' : MH} (h : Ev T pc lo o u = some (r, u')) : le2 u u' := by
  obtain ⟨n, hn⟩ := Ev_ex h
  exact exec_le hT n _ _ _ _ _ _ hn
section METH
variable {p : Program} {l : Launch} {e : Env} {R : Room} {s : State} {m : MethodId} {args : Array Value} {below : List Frame} {meth : Method} {c : Code}
variable {cc : ByteArray} {D : va_G} {cy : Nat → ClassId} {base : Nat} {z0 w0 nL FR LC : Nat} {u' : MH} {rr : Option MV} {T : MT} {own : String} {ini : Bool} {fi : List (Nat × Nat × Bool)} {ci : List (Nat × INF)} {ret : Option FieldType}
theorem exec_snd (C : Cx p R s m args meth c cc D cy z0 w0 nL FR LC u' T own ini fi ci ret) (hcode : T.1.all (fun q => dcB cc q.1 q.2 && enB own nL ini T fi ci q.1 q.2) = true) : ∀ (n pc : Nat) (lo : MLs) (o : List MV) (u : MH), exec T n pc lo o u = some (rr, u') → Gd p l e R s m args below meth c D cy base z0 w0 nL u' rr pc lo o u := by
  intro n
  induction n with
  | zero => intro pc lo o u h; cases h
  | succ n ih =>
    intro pc lo o u h
    have h : (lk pc T.1).bind (fun q => stI T (fun pc lo o s => exec T n pc (cutAt T pc lo) o s) q lo o u) = some (rr, u') := h
    obtain ⟨q, hq, h⟩ := bnd_some h
    have hm := List.all_eq_true.mp hcode _ (lk_mem _ hq)
    simp only [Bool.and_eq_true] at hm
    refine stI_snd C (k := fun pc lo o s => exec T n pc (cutAt T pc lo) o s) (fun pc lo o u h => ?_) hm.1 hm.2 h
    have g := ih _ _ _ _ h
    exact ⟨g.1, fun H locs ls cells slots hH hS hl hz hw => g.2 H locs ls cells slots hH hS (hl.cut T pc) hz hw⟩
end METH
/-- A METHOD BY ITS TABLE: what the kernel has looked through, and the contracts of those that it calls, give its own. -/
theorem sd_of {y : MethodName} {cc : ByteArray} {nL : Nat} {ret : Option FieldType} {fr lc : Nat} {T : MT} {own : String} {ini : Bool} {fi : List (Nat × Nat × Bool)} {ci : List (Nat × INF)} (hy : plainName y.cls = true) (hyo : y.cls = own) (hini : ini = true → y.name = "<init>") (hrk : rkOk T.2.2.2.2 ret) (htab : tabB own cc nL ini fr lc T fi ci = true) (hA : SdAll T.2.2.2.1 ci) : Sd y cc nL ret fr lc (runT T nL) := by
  intro as u u' r h
  unfold runT at h
  cases hfit : Nat.ble (lay as).length nL with
  | false => rw [hfit] at h; cases h
  | true =>
  rw [hfit] at h
  have hfit := Nat.le_of_ble_eq_true hfit
  obtain ⟨n, hn⟩ := Ev_ex h
  have hM : CMn T := fun i g hg => SdAll_mn _ _ hA hg
  have hle := exec_le hM n _ _ _ _ _ _ hn
  refine ⟨hle, fun l D cy base => ?_⟩
  refine Met.ofW (cc := cc) (maxL := nL) (ret := ret) hy rfl ?_
  intro p e s m args below meth c s₁ B hml hv
  obtain ⟨rfl, hH, hK, hNW⟩ := hv
  have hts := atoms_spec (ws := .code y cc nL ret :: lw_good) B.pre
  simp only [tabB, Bool.and_eq_true] at htab
  have C : Cx p (headSpec (.code y cc nL ret :: lw_good) { frames := fr, cells := sz u' - sz u, slots := sl u' - sl u, locals := lc }).room s m (as.map (mval base)).toArray meth c cc D cy (sz u) (sl u) nL fr lc u' T own ini fi ci ret :=
    ⟨B.exec, B.bytes, hml, by rw [← hyo]; exact findClass_of_methodNamed B.named, fun w hw => hts w (List.mem_cons_of_mem _ hw), hK, hNW, B.notSynchronized, B.returns, hrk, fun hi => ((name_of_methodNamed B.named B.method).1).trans (hini hi), ⟨rfl, rfl, rfl, rfl⟩, htab.1.2, htab.2, hA⟩
  have g := exec_snd (l := l) (e := e) (below := below) (base := base) C htab.1.1 n 0 _ [] u hn
  have hfit2 : (lg_sl (as.map (mval base))).length ≤ nL := by rw [lay_len]; exact hfit
  have hl := lv_entry (as.map (mval base)) (n := nL) hfit2
  rw [lg_entry_eq]
  generalize (lg_sl (as.map (mval base)) ++ List.replicate (nL - (lg_sl (as.map (mval base))).length) Slot.unset).toArray = ls at hl ⊢
  exact g.2 s.heap [] ls 0 0 hH va_S.rf ⟨hl.1, hl.2.1, fun q hq => hl.2.2 q (lay_args base as 0 _ q hq)⟩ (Nat.add_zero _) (Nat.add_zero _)
end
section
/-! Short words for a table's rows. -/
abbrev e0 (i : Jvm.ClassFile.Instr) (n : Nat) : EN := (i, n, 0, 0, 0, [])
abbrev eJ (i : Jvm.ClassFile.Instr) (n t : Nat) : EN := (i, n, t, 0, 0, [])
abbrev eC (i : Jvm.ClassFile.Instr) (n : Nat) (v : Int32) : EN := (i, n, 0, v, 0, [])
abbrev eL (i : Jvm.ClassFile.Instr) (n : Nat) (v : Int64) : EN := (i, n, 0, 0, v, [])
abbrev eS (i : Jvm.ClassFile.Instr) (t : Nat) (l : List (Int32 × Nat)) : EN := (i, 0, t, 0, 0, l)
end
