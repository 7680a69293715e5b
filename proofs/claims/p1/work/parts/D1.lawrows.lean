/-! The law's own walk: rows over the small machine's heap. -/
abbrev LT : Type := Program × Launch × Env × State × MethodId × List Frame × Method × Code × va_G × (Nat → ClassId) × Nat
/-- what holds all along the law -/
def LX (X : LT) (L : Nat) (xs : Nat → Int32) : Prop :=
  match X with
  | (p, _, _, s, m, _, meth, c, D, cy, b) => p.tables.exec = Jvm.exec ∧ c.code = code ∧ meth.sig.returnType = ret ∧ c.maxLocals = 4 ∧ s.vm.findClass R_law = some m.cls ∧ (∀ w ∈ lw_good, w.before #[Value.ref b] s = true) ∧ va_X b L xs s s.heap ∧ b < s.heap.size ∧ meth.locks = false ∧ va_K D mcl (mty cy) s ∧ NW s ∧ L ≤ 3072
/-- at pc, with st on the stack, the heap u, the count i: the law comes to its end -/
def Gl (X : LT) (i pc : Nat) (st : List Value) (u : MH) : Prop :=
  match X with
  | (p, l, e, s, m, below, meth, c, D, cy, b) => ∀ (H : Heap) (locs : List Loc) (ls : Array Slot), HR D cy s.heap.size u H → va_S (fun q => s.heap.size ≤ q) s.heap H locs → lv_has ls 4 [(0, .ref b), (1, .ref (s.heap.size + 0)), (2, .ref (s.heap.size + 188)), (3, .int (nI i))] → W p l e room_1 s m #[Value.ref b] below meth c H locs (sz u) (sl u) (lw_Z below #[Value.ref b] s) (F0 m pc ls st)
def bs (X : LT) : Nat := X.2.2.2.1.heap.size
theorem gl_x {X : LT} {L : Nat} {xs : Nat → Int32} (C : LX X L xs) {i pc : Nat} {st : List Value} {u : MH} (d0 : decode code pc = .ok (.aload_n 1, 1)) (h : Gl X i (pc + 1) (.ref (bs X + 0) :: st) u) : Gl X i pc st u := by
  obtain ⟨p, l, e, s, m, below, meth, c, D, cy, b⟩ := X
  obtain ⟨hx, hb, hr, hml, hown, hts, hX, hbl, hlocks, hK, hN, hL⟩ := C
  intro H locs ls hH hS hl
  exact lv_aload_n hx hb d0 rfl (lv_at hl 1 rfl) (h H locs ls hH hS hl)
theorem gl_m {X : LT} {L : Nat} {xs : Nat → Int32} (C : LX X L xs) {i pc : Nat} {st : List Value} {u : MH} (d0 : decode code pc = .ok (.aload_n 2, 1)) (h : Gl X i (pc + 1) (.ref (bs X + 188) :: st) u) : Gl X i pc st u := by
  obtain ⟨p, l, e, s, m, below, meth, c, D, cy, b⟩ := X
  obtain ⟨hx, hb, hr, hml, hown, hts, hX, hbl, hlocks, hK, hN, hL⟩ := C
  intro H locs ls hH hS hl
  exact lv_aload_n hx hb d0 rfl (lv_at hl 2 rfl) (h H locs ls hH hS hl)
theorem gl_arg {X : LT} {L : Nat} {xs : Nat → Int32} (C : LX X L xs) {i pc : Nat} {st : List Value} {u : MH} {k : Nat} {ki : Int} (hk : i + k < L) (hki : Int32.ofInt ki = nI k) (d0 : decode code pc = .ok (.aload_n 0, 1)) (d1 : decode code (pc + 1) = .ok (.iload_n 3, 1)) (d2 : decode code (pc + 2) = .ok (.iconst ki, 1)) (d3 : decode code (pc + 3) = .ok (.iadd, 1)) (d4 : decode code (pc + 4) = .ok (.iaload, 1)) (h : Gl X i (pc + 5) (.int (xs (i + k)) :: st) u) : Gl X i pc st u := by
  obtain ⟨p, l, e, s, m, below, meth, c, D, cy, b⟩ := X
  obtain ⟨hx, hb, hr, hml, hown, hts, hX, hbl, hlocks, hK, hN, hL⟩ := C
  intro H locs ls hH hS hl
  have hbA : ¬ (fun q : Nat => s.heap.size ≤ q) b := Nat.not_le.mpr hbl
  refine lv_aload_n hx hb d0 rfl (lv_at hl 0 rfl) ?_
  refine lv_iload_n hx hb d1 rfl (lv_at hl 3 rfl) ?_
  refine lv_iconst (v := nI k) hx hb d2 hki ?_
  refine lv_iadd hx hb d3 ?_
  rw [nI_add]
  refine va_sld hx hb hX hbl hbA hS (vp_in_nI hk (by omega)) d4 ?_
  rw [nI_clamp (by omega)]
  exact h H locs ls hH hS hl
/-- script[i + k] != 0 -/
theorem gl_flag {X : LT} {L : Nat} {xs : Nat → Int32} (C : LX X L xs) {i pc : Nat} {st : List Value} {u : MH} {k : Nat} {ki o1 o2 : Int} (hk : i + k < L) (hki : Int32.ofInt ki = nI k) (d0 : decode code pc = .ok (.aload_n 0, 1)) (d1 : decode code (pc + 1) = .ok (.iload_n 3, 1)) (d2 : decode code (pc + 2) = .ok (.iconst ki, 1)) (d3 : decode code (pc + 3) = .ok (.iadd, 1)) (d4 : decode code (pc + 4) = .ok (.iaload, 1)) (d5 : decode code (pc + 5) = .ok (.ifCond .eq o1, 3)) (t1 : ((pc + 5 : Nat) : Int) + o1 = ((pc + 12 : Nat) : Int)) (d8 : decode code (pc + 8) = .ok (.iconst 1, 1)) (d9 : decode code (pc + 9) = .ok (.goto o2, 3)) (t2 : ((pc + 9 : Nat) : Int) + o2 = ((pc + 13 : Nat) : Int)) (d12 : decode code (pc + 12) = .ok (.iconst 0, 1)) (h : Gl X i (pc + 13) (.int (if xs (i + k) = 0 then 0 else 1) :: st) u) : Gl X i pc st u := by
  refine gl_arg C hk hki d0 d1 d2 d3 d4 ?_
  obtain ⟨p, l, e, s, m, below, meth, c, D, cy, b⟩ := X
  obtain ⟨hx, hb, hr, hml, hown, hts, hX, hbl, hlocks, hK, hN, hL⟩ := C
  intro H locs ls hH hS hl
  refine lv_if_eq (tgt := pc + 12) hx hb d5 t1 (fun z => ?_) (fun z => ?_)
  · refine lv_iconst (v := 0) hx hb d12 (by decide) ?_
    have := h H locs ls hH hS hl
    rw [if_pos z] at this
    exact this
  · refine lv_iconst (v := 1) hx hb d8 (by decide) ?_
    refine lv_goto (tgt := pc + 13) hx hb d9 t2 ?_
    have := h H locs ls hH hS hl
    rw [if_neg z] at this
    exact this
theorem gl_eq {X : LT} {L : Nat} {xs : Nat → Int32} (C : LX X L xs) {i pc tg : Nat} {st : List Value} {u : MH} {v w : Int32} {o : Int} (ee : v = w) (d0 : decode code pc = .ok (.if_icmp .eq o, 3)) (t0 : (pc : Int) + o = (tg : Int)) (h : Gl X i tg st u) : Gl X i pc (.int w :: .int v :: st) u := by
  obtain ⟨p, l, e, s, m, below, meth, c, D, cy, b⟩ := X
  obtain ⟨hx, hb, hr, hml, hown, hts, hX, hbl, hlocks, hK, hN, hL⟩ := C
  intro H locs ls hH hS hl
  exact lv_icmp_eq (tgt := tg) hx hb d0 t0 (fun _ => h H locs ls hH hS hl) (fun z => absurd ee z)
theorem gl_pop {X : LT} {L : Nat} {xs : Nat → Int32} (C : LX X L xs) {i pc : Nat} {st : List Value} {u : MH} {v : Int32} (d0 : decode code pc = .ok (.pop, 1)) (h : Gl X i (pc + 1) st u) : Gl X i pc (.int v :: st) u := by
  obtain ⟨p, l, e, s, m, below, meth, c, D, cy, b⟩ := X
  obtain ⟨hx, hb, hr, hml, hown, hts, hX, hbl, hlocks, hK, hN, hL⟩ := C
  intro H locs ls hH hS hl
  exact lv_pop hx hb d0 rfl (h H locs ls hH hS hl)
theorem gl_goto {X : LT} {L : Nat} {xs : Nat → Int32} (C : LX X L xs) {i pc tg : Nat} {st : List Value} {u : MH} {o : Int} (d0 : decode code pc = .ok (.goto o, 3)) (t0 : (pc : Int) + o = (tg : Int)) (h : Gl X i tg st u) : Gl X i pc st u := by
  obtain ⟨p, l, e, s, m, below, meth, c, D, cy, b⟩ := X
  obtain ⟨hx, hb, hr, hml, hown, hts, hX, hbl, hlocks, hK, hN, hL⟩ := C
  intro H locs ls hH hS hl
  exact lv_goto (tgt := tg) hx hb d0 t0 (h H locs ls hH hS hl)
/-- what the tables say of a call of the law -/
def lcB (idx : Nat) (y : MethodName) (cc : ByteArray) (nL : Nat) (rt : Option FieldType) (fr lc ci n : Nat) (ws : List Nat) : Bool :=
  wAt (ws.getD 0 0) (.methodLink R_law idx y) && wAt (ws.getD 1 0) (.code y cc nL rt) && wAt (ws.getD 2 0) (.initialized y.cls)
    && decide (y.cls ≠ "java/lang/invoke/MethodHandle" ∧ y.cls ≠ "java/lang/invoke/VarHandle" ∧ (parseMethodDescriptor y.desc).map (fun d => d.parameters.length) = some n)
    && Nat.ble (fr + 1) 14 && Nat.ble (8 + (nL + 11) + lc) 552 && Nat.ble ci 10 && wAt (ws.getD 3 0) (.instanceMethod y) && wAt (ws.getD 4 0) (.selects (RXc ci) y y)
theorem gl_call {X : LT} {L : Nat} {xs : Nat → Int32} (C : LX X L xs) {i pc : Nat} {idx nL fr lc ci n : Nat} {y : MethodName} {cc : ByteArray} {rt : Option FieldType} {M : MF} {ws : List Nat} (S : Sd y cc nL rt fr lc M) (hc : lcB idx y cc nL rt fr lc ci n ws = true) {a : Nat} {as : List MV} {u u1 : MH} {v : Int32} (hM : M (mR (some a) :: as) u = some (some (mI v), u1)) (hkd : kd u a = ci) (hz : sz u1 ≤ 600000) (hw : sl u1 ≤ 7302250) (hn : as.length = n) {rest stk : List Value} (hst : stk = (as.map (mval (bs X))).reverse ++ .ref (bs X + a) :: rest) (hrest : rest = [] ∨ ∃ x, rest = [.int x]) (d0 : decode code pc = .ok (.invokevirtual idx, 3)) (h : Gl X i (pc + 3) (.int v :: rest) u1) : Gl X i pc stk u := by
  obtain ⟨p, l, e, s, m, below, meth, c, D, cy, b⟩ := X
  obtain ⟨hx, hb, hr, hml, hown, hts, hX, hbl, hlocks, hK, hN, hL⟩ := C
  intro H locs ls hH hS hl
  simp only [lcB, Bool.and_eq_true, decide_eq_true_eq] at hc
  obtain ⟨⟨⟨⟨⟨⟨⟨⟨a1, a2⟩, a3⟩, a4⟩, a5⟩, a6⟩, a7⟩, a8⟩, a9⟩ := hc
  have hrc := Nat.le_of_ble_eq_true a7
  have hcode := wAt_in a2
  obtain ⟨mono, hmet⟩ := S _ _ _ _ hM
  obtain ⟨r', hr', cellB, c1, c2', c3, -⟩ := hH.obj hkd hrc
  have hcat : (rest.map fun v => v.category).sum ≤ 8 := by
    rcases hrest with z | ⟨x, z⟩
    · rw [z]; exact Nat.zero_le _
    · rw [z]; exact Nat.le_of_ble_eq_true rfl
  have hfit : sz u + (sz u1 - sz u) ≤ room_1.cells ∧ sl u + (sl u1 - sl u) ≤ room_1.slots := by
    show _ ≤ 600000 ∧ _ ≤ 7302250
    omega
  have hpay := pay_in hts (ws := Cond.code y cc nL rt :: lw_good) (fun w hw => by
    rcases List.mem_cons.mp hw with h | h
    · rw [h]; exact lw_goodIn _ hcode
    · exact lw_goodIn _ h)
  have hpar : ∀ sig, parseMethodDescriptor y.desc = some sig → n = sig.parameters.length := fun sig hs => by
    have h3 := a4.2.2
    rw [hs] at h3
    exact (Option.some.inj h3).symm
  have hn2 : (as.map (mval s.heap.size)).length = n := by rw [List.length_map, hn]
  have hp : PreV s H (RXc ci) (s.heap.size + a) (mP D cy s.heap.size u (mR (some a) :: as)) (as.map (mval s.heap.size)) :=
    ⟨mP_blind _ _ _ _ _, ⟨cellB, c1, by rw [c3]; rfl, by rw [c2']; exact (hK.1 ci _ (mcl_at ci hrc)).2.1⟩, fun U hU hW => ⟨rfl, by rw [hU]; exact hH, va_K.moved hW.alike hK, hN.warm hW⟩⟩
  exact mm_call (va_runV (C := RXc ci) (b := s.heap.size + a) (As := as.map (mval s.heap.size)) (rest := rest) ⟨hx, hb, hml, hown, hts⟩ (hmet l D cy s.heap.size) ⟨⟨rfl, rfl, Nat.le_of_ble_eq_true a5, Nat.le_of_ble_eq_true a6, hpay, List.mem_cons_self, hts _ hcode, hts _ (wAt_in a3), ⟨a4.1, a4.2.1⟩, hpar, hts _ (wAt_in a1)⟩, hts _ (wAt_in a8), hts _ (wAt_in a9)⟩ hp rfl hn2 hl.1 hst (by show 2 * 0 + _ ≤ 8; omega) d0 hfit) hS (fun H1 locs1 hH1 hS1 => by
    have := h H1 locs1 ls hH1 hS1 hl
    rw [show sz u + (sz u1 - sz u) = sz u1 by omega, show sl u + (sl u1 - sl u) = sl u1 by omega]
    exact this)
/-- the loop's end and its switch -/
theorem gl_head {X : LT} {L : Nat} {xs : Nat → Int32} (C : LX X L xs) {i pc tg : Nat} {u : MH} {o : Int} (hi : i ≤ 6144) (d0 : decode code pc = .ok (.iload_n 3, 1)) (d1 : decode code (pc + 1) = .ok (.aload_n 0, 1)) (d2 : decode code (pc + 2) = .ok (.arraylength, 1)) (d3 : decode code (pc + 3) = .ok (.bipush 6, 2)) (d5 : decode code (pc + 5) = .ok (.isub, 1)) (d6 : decode code (pc + 6) = .ok (.if_icmp .gt o, 3)) (t0 : ((pc + 6 : Nat) : Int) + o = (tg : Int)) (he : L < i + 6 → Gl X i tg [] u) (hn : i + 6 ≤ L → Gl X i (pc + 9) [] u) : Gl X i pc [] u := by
  obtain ⟨p, l, e, s, m, below, meth, c, D, cy, b⟩ := X
  obtain ⟨hx, hb, hr, hml, hown, hts, hX, hbl, hlocks, hK, hN, hL⟩ := C
  intro H locs ls hH hS hl
  have hbA : ¬ (fun q : Nat => s.heap.size ≤ q) b := Nat.not_le.mpr hbl
  refine lv_iload_n hx hb d0 rfl (lv_at hl 3 rfl) ?_
  refine lv_aload_n hx hb d1 rfl (lv_at hl 0 rfl) ?_
  refine va_slen hx hb hX hbl hbA hS d2 ?_
  refine lv_bipush (v := 6) hx hb d3 (by decide) ?_
  refine lv_isub hx hb d5 ?_
  have tv : (Int32.ofNat L - 6 : Int32).toInt = (L : Int) - 6 := by
    have e1 : (Int32.ofNat L).toInt = (L : Int) := nI_toInt (n := L) (by omega)
    rw [Int32.toInt_sub, e1, show (6 : Int32).toInt = 6 from rfl]
    exact Int.bmod_eq_of_le (by omega) (by omega)
  have iv : (nI i).toInt = (i : Int) := nI_toInt (by omega)
  refine lv_icmp_gt (tgt := tg) hx hb d6 t0 (fun z => ?_) (fun z => ?_)
  · refine he ?_ H locs ls hH hS hl
    rw [Int32.lt_iff_toInt_lt, tv, iv] at z
    omega
  · refine hn ?_ H locs ls hH hS hl
    rw [Int32.lt_iff_toInt_lt, tv, iv] at z
    omega
theorem gl_end {X : LT} {L : Nat} {xs : Nat → Int32} (C : LX X L xs) {i pc : Nat} {u : MH} (d0 : decode code pc = .ok (.iconst 1, 1)) (d1 : decode code (pc + 1) = .ok (.ireturn, 1)) (hz : sz u ≤ 600000) (hw : sl u ≤ 7302250) : Gl X i pc [] u := by
  obtain ⟨p, l, e, s, m, below, meth, c, D, cy, b⟩ := X
  obtain ⟨hx, hb, hr, hml, hown, hts, hX, hbl, hlocks, hK, hN, hL⟩ := C
  intro H locs ls hH hS hl
  refine lv_iconst (v := 1) hx hb d0 (by decide) ?_
  refine va_forget (fun q hq => hS.2.2 q hq) ?_
  refine W.widen (k := 600000) (n := 7302250) hz hw ?_
  exact lw_ret hx hb hr hlocks d1
theorem gl_next {X : LT} {L : Nat} {xs : Nat → Int32} (C : LX X L xs) {i pc tg : Nat} {u : MH} {o : Int} (d0 : decode code pc = .ok (.iinc 3 6, 3)) (d3 : decode code (pc + 3) = .ok (.goto o, 3)) (t0 : ((pc + 3 : Nat) : Int) + o = (tg : Int)) (h : Gl X (i + 6) tg [] u) : Gl X i pc [] u := by
  obtain ⟨p, l, e, s, m, below, meth, c, D, cy, b⟩ := X
  obtain ⟨hx, hb, hr, hml, hown, hts, hX, hbl, hlocks, hK, hN, hL⟩ := C
  intro H locs ls hH hS hl
  refine lv_iinc (v := nI (i + 6)) (lv' := [(3, .int (nI (i + 6))), (0, .ref b), (1, .ref (s.heap.size + 0)), (2, .ref (s.heap.size + 188))]) hx hb d0 hl (k := 3) rfl (by rw [← nI_add]; rfl) (by decide) rfl (fun ls hl => ?_)
  refine lv_goto (tgt := tg) hx hb d3 t0 ?_
  exact h H locs ls hH hS (lv_sub hl [1, 2, 3, 0] rfl)
/-- which call -/
theorem gl_switch {X : LT} {L : Nat} {xs : Nat → Int32} (C : LX X L xs) {i pc : Nat} {u : MH} {dflt : Int} {offs : Array Int} {len df : Nat} {tg : Nat → Nat} (hi : i + 6 ≤ L) (d0 : decode code pc = .ok (.aload_n 0, 1)) (d1 : decode code (pc + 1) = .ok (.iload_n 3, 1)) (d2 : decode code (pc + 2) = .ok (.iaload, 1)) (d3 : decode code (pc + 3) = .ok (.bipush 63, 2)) (d5 : decode code (pc + 5) = .ok (.iand, 1)) (d6 : decode code (pc + 6) = .ok (.tableswitch dflt 0 39 offs, len)) (tD : ((pc + 6 : Nat) : Int) + dflt = (df : Int)) (tO : ∀ k, k < 40 → offs[k]? = some (((tg k : Nat) : Int) - ((pc + 6 : Nat) : Int))) (hd : Gl X i df [] u) (hc : ∀ k, k < 40 → Gl X i (tg k) [] u) : Gl X i pc [] u := by
  obtain ⟨p, l, e, s, m, below, meth, c, D, cy, b⟩ := X
  obtain ⟨hx, hb, hr, hml, hown, hts, hX, hbl, hlocks, hK, hN, hL⟩ := C
  intro H locs ls hH hS hl
  have hbA : ¬ (fun q : Nat => s.heap.size ≤ q) b := Nat.not_le.mpr hbl
  refine lv_aload_n hx hb d0 rfl (lv_at hl 0 rfl) ?_
  refine lv_iload_n hx hb d1 rfl (lv_at hl 3 rfl) ?_
  refine va_sld hx hb hX hbl hbA hS (vp_in_nI (show i < L by omega) (by omega)) d2 ?_
  refine lv_bipush (v := 63) hx hb d3 (by decide) ?_
  refine lv_iand hx hb d5 ?_
  refine lv_topi (fun y _ => ?_)
  by_cases z : y.toInt < 0 ∨ 39 < y.toInt
  · exact lv_tableOut (tgt := df) hx hb d6 z tD (hd H locs ls hH hS hl)
  · have k40 : y.toInt.toNat < 40 := by omega
    exact lv_tableIn (tgt := tg y.toInt.toNat) hx hb d6 (fun w => z (Or.inl w)) (fun w => z (Or.inr w)) (by rw [Int.sub_zero]; exact tO _ k40) (by omega) (hc _ k40 H locs ls hH hS hl)
