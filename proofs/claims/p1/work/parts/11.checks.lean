/-! What a method's table must pass, by the kernel. -/
/-- of a method that is called: its name, code, locals, answer, frames, words of locals, how (0 static, 1 virtual, 2 a constructor, 10 more: through the nest; 5 Object's constructor, 6 arraycopy), the places of its words -/
abbrev INF : Type := MethodName × ByteArray × Nat × Option FieldType × Nat × Nat × Nat × List Nat
def wAt (i : Nat) (w : Cond) : Bool := decide (lw_tbl[i]? = some w) && goodWord w
def nAt (i : Nat) (w : Cond) : Bool := decide (tables_1[i]? = some w) && isNestW w
theorem wAt_in {i : Nat} {w : Cond} (h : wAt i w = true) : w ∈ lw_good := by
  simp only [wAt, Bool.and_eq_true, decide_eq_true_eq] at h
  exact List.mem_filter.mpr ⟨List.mem_of_getElem? h.1, h.2⟩
theorem nAt_in {i : Nat} {w : Cond} (h : nAt i w = true) : w ∈ lw_nest := by
  simp only [nAt, Bool.and_eq_true, decide_eq_true_eq] at h
  exact List.mem_filter.mpr ⟨List.mem_of_getElem? h.1, h.2⟩
def wIn (w : Cond) : Bool := decide (w ∈ lw_tbl) && goodWord w
theorem wIn_in {w : Cond} (h : wIn w = true) : w ∈ lw_good := by
  simp only [wIn, Bool.and_eq_true, decide_eq_true_eq] at h
  exact List.mem_filter.mpr ⟨h.1, h.2⟩
def all2 {α β : Type} (f : α → β → Bool) : List α → List β → Bool
  | [], [] => true
  | a :: l, b :: m => f a b && all2 f l m
  | _, _ => false
theorem all2_lk {α β : Type} {f : Nat × α → Nat × β → Bool} {i : Nat} {a : α} : ∀ (l : List (Nat × α)) (m : List (Nat × β)), all2 f l m = true → (∀ x y, f x y = true → x.1 = y.1) → lk i l = some a → ∃ b, lk i m = some b ∧ f (i, a) (i, b) = true
  | [], _, _, _, h => by cases h
  | q :: l, [], h, _, _ => by cases h
  | q :: l, b :: m, h, hk, hl => by
    simp only [all2, Bool.and_eq_true] at h
    have hq := hk q b h.1
    unfold lk at hl ⊢
    cases hb : Nat.beq i q.1 with
    | true =>
      rw [hb] at hl
      have e : i = q.1 := Nat.eq_of_beq_eq_true hb
      have : q.2 = a := Option.some.inj hl
      rw [← hq, hb]
      refine ⟨b.2, rfl, ?_⟩
      have e1 : (i, a) = q := by rw [e, ← this]
      have e2 : (i, b.2) = b := by rw [e, hq]
      rw [e1, e2]
      exact h.1
    | false =>
      rw [hb] at hl
      rw [← hq, hb]
      exact all2_lk l m h.2 hk hl
def cChk (own : String) (FR LC : Nat) (q : Nat × CE) (i : Nat × INF) : Bool :=
  Nat.beq q.1 i.1 && (match i.2.2.2.2.2.2.2.1 with
    | 5 => Nat.beq q.2.2.1 98 && wAt (i.2.2.2.2.2.2.2.2.getD 0 0) (.methodLink own q.1 Lib.objectInit) && wAt (i.2.2.2.2.2.2.2.2.getD 1 0) (.instanceMethod Lib.objectInit) && wAt (i.2.2.2.2.2.2.2.2.getD 2 0) (.code Lib.objectInit ⟨#[0xb1]⟩ 1 none) && Nat.ble 1 FR && Nat.ble 20 LC
    | 6 => Nat.beq q.2.2.1 97 && wAt (i.2.2.2.2.2.2.2.2.getD 0 0) (.methodLink own q.1 arraycopyName) && wAt (i.2.2.2.2.2.2.2.2.getD 1 0) (.native arraycopyName) && wAt (i.2.2.2.2.2.2.2.2.getD 2 0) (.static arraycopyName) && wAt (i.2.2.2.2.2.2.2.2.getD 3 0) (.initialized "java/lang/System") && Nat.ble 1 FR && Nat.ble (8 + (nativeFrameWords "java/lang/System" "arraycopy" 5 + 11)) LC
    | 7 => Nat.beq q.2.2.1 96 && wAt (i.2.2.2.2.2.2.2.2.getD 0 0) (.methodLink own q.1 Lib.Math.max.name) && wAt (i.2.2.2.2.2.2.2.2.getD 1 0) (.static Lib.Math.max.name) && wAt (i.2.2.2.2.2.2.2.2.getD 2 0) (.initialized "java/lang/Math") && wAt (i.2.2.2.2.2.2.2.2.getD 3 0) (.code Lib.Math.max.name Lib.Math.max.code 2 (some .int)) && Nat.ble 1 FR && Nat.ble 21 LC
    | 8 => Nat.beq q.2.2.1 95 && wAt (i.2.2.2.2.2.2.2.2.getD 0 0) (.methodLink own q.1 Lib.Math.min.name) && wAt (i.2.2.2.2.2.2.2.2.getD 1 0) (.static Lib.Math.min.name) && wAt (i.2.2.2.2.2.2.2.2.getD 2 0) (.initialized "java/lang/Math") && wAt (i.2.2.2.2.2.2.2.2.getD 3 0) (.code Lib.Math.min.name Lib.Math.min.code 2 (some .int)) && Nat.ble 1 FR && Nat.ble 21 LC
    | k => cond (Nat.ble 10 k) (nAt (i.2.2.2.2.2.2.2.2.getD 0 0) (.methodLinkNest own q.1 i.2.1 "NameKeeper")) (wAt (i.2.2.2.2.2.2.2.2.getD 0 0) (.methodLink own q.1 i.2.1))
      && wAt (i.2.2.2.2.2.2.2.2.getD 1 0) (.code i.2.1 i.2.2.1 i.2.2.2.1 i.2.2.2.2.1) && wAt (i.2.2.2.2.2.2.2.2.getD 2 0) (.initialized i.2.1.cls)
      && decide (i.2.1.cls ≠ "java/lang/invoke/MethodHandle" ∧ i.2.1.cls ≠ "java/lang/invoke/VarHandle" ∧ (parseMethodDescriptor i.2.1.desc).map (fun d => d.parameters.length) = some q.2.1)
      && Nat.ble (i.2.2.2.2.2.1 + 1) FR && Nat.ble (8 + (i.2.2.2.1 + 11) + i.2.2.2.2.2.2.1) LC
      && (match k % 10 with
        | 0 => Nat.beq q.2.2.1 99 && wAt (i.2.2.2.2.2.2.2.2.getD 3 0) (.static i.2.1)
        | 1 => Nat.ble q.2.2.1 10 && wAt (i.2.2.2.2.2.2.2.2.getD 3 0) (.instanceMethod i.2.1) && wAt (i.2.2.2.2.2.2.2.2.getD 4 0) (.selects (RXc q.2.2.1) i.2.1 i.2.1)
        | _ => Nat.ble q.2.2.1 10 && wAt (i.2.2.2.2.2.2.2.2.getD 3 0) (.instanceMethod i.2.1) && decide (i.2.1.name = "<init>") && decide (i.2.2.2.2.1 = none)))
def fChk (own : String) (q : Nat × Nat × Nat × Nat) (i : Nat × Nat × Bool) : Bool :=
  Nat.beq q.1 i.1 && Nat.ble q.2.1 10 && Nat.blt q.2.2.1 (nfl q.2.1) && Nat.beq (ftc (tyc q.2.1 q.2.2.1)) q.2.2.2
    && cond i.2.2 (nAt i.2.1 (.fieldLinkNest own q.1 (RXc q.2.1) (TXc q.2.1 q.2.2.1).2.1 (TXc q.2.1 q.2.2.1).2.2.1 "NameKeeper")) (wAt i.2.1 (.fieldLink own q.1 (RXc q.2.1) (TXc q.2.1 q.2.2.1).2.1 (TXc q.2.1 q.2.2.1).2.2.1))
def iln (i : Jvm.ClassFile.Instr) : Nat := match i with
  | .bipush _ => 2 | .sipush _ => 3 | .ldc _ => 2 | .ldc2_w _ => 3 | .iload _ => 2 | .lload _ => 2 | .aload _ => 2 | .istore _ => 2 | .astore _ => 2 | .iinc _ _ => 3
  | .ifCond _ _ => 3 | .if_icmp _ _ => 3 | .ifnull _ => 3 | .ifnonnull _ => 3 | .goto _ => 3 | .getfield _ => 3 | .putfield _ => 3 | .new _ => 3 | .newarray _ => 2 | .anewarray _ => 3 | .multianewarray _ _ => 4
  | .invokevirtual _ => 3 | .invokespecial _ => 3 | .invokestatic _ => 3 | _ => 1
/-- the cases of a switch over lo, lo + 1 .. in their order -/
def swB (pc : Nat) : Int → List Int → List (Int32 × Nat) → Bool
  | _, [], [] => true
  | v, o :: os, q :: l => decide (q.1.toInt = v) && decide ((pc : Int) + o = (q.2 : Int)) && swB pc (v + 1) os l
  | _, _, _ => false
/-- the cases of a switch by pairs, in their order -/
def swL (pc : Nat) : List (Int × Int) → List (Int32 × Nat) → Bool
  | [], [] => true
  | o :: os, q :: l => decide (q.1.toInt = o.1) && decide ((pc : Int) + o.2 = (q.2 : Int)) && swL pc os l
  | _, _ => false
def hiB (lo hi : Int) (n : Nat) : Bool := decide (hi + 1 = lo + n)
def enB (own : String) (nL : Nat) (ini : Bool) (T : MT) (fi : List (Nat × Nat × Bool)) (ci : List (Nat × INF)) (pc : Nat) (q : EN) : Bool := match q.1 with
  | .iconst n => decide (Int32.ofInt n = q.2.2.2.1)
  | .bipush n => decide ((Int8.ofInt n).toInt32 = q.2.2.2.1)
  | .sipush n => decide ((Int16.ofInt n).toInt32 = q.2.2.2.1)
  | .ldc i => wIn (.constant own i q.2.2.2.1)
  | .lconst n => decide (Int64.ofNat (n : Nat) = q.2.2.2.2.1)
  | .ldc2_w i => wIn (.constantLong own i q.2.2.2.2.1)
  | .istore j => Nat.blt j nL
  | .istore_n j => Nat.blt j.val nL
  | .astore j => Nat.blt j nL
  | .astore_n j => Nat.blt j.val nL
  | .iinc j n => decide (Int32.ofInt n = q.2.2.2.1) && Nat.blt j nL
  | .ifCond _ off => decide ((pc : Int) + off = (q.2.2.1 : Int))
  | .if_icmp _ off => decide ((pc : Int) + off = (q.2.2.1 : Int))
  | .ifnull off => decide ((pc : Int) + off = (q.2.2.1 : Int))
  | .ifnonnull off => decide ((pc : Int) + off = (q.2.2.1 : Int))
  | .goto off => decide ((pc : Int) + off = (q.2.2.1 : Int))
  | .tableswitch d lo hi os => decide ((pc : Int) + d = (q.2.2.1 : Int)) && swB pc lo os.toList q.2.2.2.2.2 && hiB lo hi os.toList.length
  | .lookupswitch d ps => decide ((pc : Int) + d = (q.2.2.1 : Int)) && swL pc ps.toList q.2.2.2.2.2 && (ps.toList.zip (ps.toList.drop 1)).all (fun (a, next) => a.1 < next.1)
  | .putfield i => match lk i T.2.2.1, lk i fi with
    | some g, some f => !(TXc g.1 g.2.1).2.2.2 || (ini && decide (RXc g.1 = own) && !f.2)
    | _, _ => false
  | .new i => Nat.ble q.2.2.1 10 && wIn (.classLink own i (RXc q.2.2.1)) && wIn (.instantiable (RXc q.2.2.1) (nfl q.2.2.1)) && wIn (.initialized (RXc q.2.2.1))
  | .newarray t => match t with
    | .int => Nat.beq q.2.2.1 11 && wIn (.arrayClass .int)
    | .boolean => Nat.beq q.2.2.1 12 && wIn (.arrayClass .boolean)
    | _ => false
  | .anewarray i => (Nat.beq q.2.2.1 13 && wIn (.classLink own i RX4)) || (Nat.beq q.2.2.1 14 && wIn (.classLink own i RX7)) || (Nat.beq q.2.2.1 15 && wIn (.classLink own i RX8))
  | .multianewarray i d => Nat.beq d 2 && wIn (.classLink own i ("[" ++ (FieldType.array .int).toString)) && wIn (.arrayClass .int)
  | .invokevirtual i => match lk i ci with
    | some f => Nat.beq (f.2.2.2.2.2.2.1 % 10) 1
    | none => false
  | .invokespecial i => match lk i ci with
    | some f => Nat.beq (f.2.2.2.2.2.2.1 % 10) 2 || Nat.beq f.2.2.2.2.2.2.1 5
    | none => false
  | .invokestatic i => match lk i ci with
    | some f => Nat.beq (f.2.2.2.2.2.2.1 % 10) 0 || Nat.beq f.2.2.2.2.2.2.1 6 || Nat.beq f.2.2.2.2.2.2.1 7 || Nat.beq f.2.2.2.2.2.2.1 8
    | none => false
  | _ => true
def isSw (i : Jvm.ClassFile.Instr) : Bool := match i with
  | .tableswitch _ _ _ _ => true
  | .lookupswitch _ _ => true
  | _ => false
def dcB (cc : ByteArray) (pc : Nat) (q : EN) : Bool := match decode cc pc with
  | .ok (i, n) => decide (i = q.1) && (isSw q.1 || (Nat.beq n (iln q.1) && Nat.beq q.2.1 (pc + n)))
  | _ => false
/-- code, fields, calls of a method's table -/
def tabB (own : String) (cc : ByteArray) (nL : Nat) (ini : Bool) (FR LC : Nat) (T : MT) (fi : List (Nat × Nat × Bool)) (ci : List (Nat × INF)) : Bool :=
  T.1.all (fun q => dcB cc q.1 q.2 && enB own nL ini T fi ci q.1 q.2) && all2 (fChk own) T.2.2.1 fi && all2 (cChk own FR LC) T.2.2.2.1 ci
theorem lk_mem {α : Type} {i : Nat} {a : α} : ∀ (l : List (Nat × α)), lk i l = some a → (i, a) ∈ l
  | [], h => by cases h
  | q :: l, h => by
    unfold lk at h
    cases hb : Nat.beq i q.1 with
    | true =>
      rw [hb] at h
      have e : i = q.1 := Nat.eq_of_beq_eq_true hb
      have : q.2 = a := Option.some.inj h
      rw [e, ← this]
      exact List.mem_cons_self
    | false =>
      rw [hb] at h
      exact List.mem_cons_of_mem _ (lk_mem l h)
theorem dcB_ok {cc : ByteArray} {pc : Nat} {q : EN} (h : dcB cc pc q = true) : (∃ n, decode cc pc = .ok (q.1, n)) ∧ (isSw q.1 = false → decode cc pc = .ok (q.1, iln q.1) ∧ q.2.1 = pc + iln q.1) := by
  unfold dcB at h
  split at h
  · rename_i i n hd
    simp only [Bool.and_eq_true, decide_eq_true_eq, Bool.or_eq_true] at h
    obtain ⟨h1, h2⟩ := h
    subst h1
    refine ⟨⟨n, hd⟩, fun hs => ?_⟩
    rcases h2 with h2 | ⟨h2, h3⟩
    · rw [hs] at h2; cases h2
    · have e1 := Nat.eq_of_beq_eq_true h2
      have e2 := Nat.eq_of_beq_eq_true h3
      rw [e1] at hd e2
      exact ⟨hd, e2⟩
  · cases h
/-- cells and slots don't get fewer -/
def le2 (u t : MH) : Prop := sz u ≤ sz t ∧ sl u ≤ sl t
/-- those that are called keep what the table says of them -/
def SdAll : List (Nat × CE) → List (Nat × INF) → Prop
  | [], [] => True
  | q :: c, i :: n => (((95 ≤ q.2.2.1 ∧ q.2.2.1 ≤ 98) ∨ Sd i.2.1 i.2.2.1 i.2.2.2.1 i.2.2.2.2.1 i.2.2.2.2.2.1 i.2.2.2.2.2.2.1 q.2.2.2.2) ∧ ∀ as u v, q.2.2.2.2 as u = some v → le2 u v.2) ∧ SdAll c n
  | _, _ => False
theorem SdAll_lk {own : String} {FR LC i : Nat} {g : CE} : ∀ (c : List (Nat × CE)) (n : List (Nat × INF)), SdAll c n → all2 (cChk own FR LC) c n = true → lk i c = some g → ∃ f, lk i n = some f ∧ cChk own FR LC (i, g) (i, f) = true ∧ ((95 ≤ g.2.1 ∧ g.2.1 ≤ 98) ∨ Sd f.1 f.2.1 f.2.2.1 f.2.2.2.1 f.2.2.2.2.1 f.2.2.2.2.2.1 g.2.2.2)
  | [], _, _, _, h => by cases h
  | q :: c, [], h, _, _ => h.elim
  | q :: c, b :: n, h, h2, hl => by
    simp only [all2, Bool.and_eq_true] at h2
    have hk : q.1 = b.1 := by
      have := h2.1
      simp only [cChk, Bool.and_eq_true] at this
      exact Nat.eq_of_beq_eq_true this.1
    unfold lk at hl ⊢
    cases hb : Nat.beq i q.1 with
    | true =>
      rw [hb] at hl
      have e : i = q.1 := Nat.eq_of_beq_eq_true hb
      have : q.2 = g := Option.some.inj hl
      rw [← hk, hb]
      have e1 : (i, g) = q := by rw [e, ← this]
      have e2 : (i, b.2) = b := by rw [e, hk]
      refine ⟨b.2, rfl, ?_, ?_⟩
      · rw [e1, e2]; exact h2.1
      · rw [← this]; exact h.1.1
    | false =>
      rw [hb] at hl
      rw [← hk, hb]
      exact SdAll_lk c n h.2 h2.2 hl
theorem SdAll_mn {i : Nat} {g : CE} : ∀ (c : List (Nat × CE)) (n : List (Nat × INF)), SdAll c n → lk i c = some g → ∀ as u v, g.2.2.2 as u = some v → le2 u v.2
  | [], _, _, h => by cases h
  | q :: c, [], h, _ => h.elim
  | q :: c, b :: n, h, hl => by
    unfold lk at hl
    cases hb : Nat.beq i q.1 with
    | true =>
      rw [hb] at hl
      have : q.2 = g := Option.some.inj hl
      rw [← this]
      exact h.1.2
    | false =>
      rw [hb] at hl
      exact SdAll_mn c n h.2 hl
theorem sd_in {y : MethodName} {cc : ByteArray} {nL : Nat} {ret : Option FieldType} {fr lc rc : Nat} {M : MF} (S : Sd y cc nL ret fr lc M) : ((95 ≤ rc ∧ rc ≤ 98) ∨ Sd y cc nL ret fr lc M) ∧ ∀ as u v, M as u = some v → le2 u v.2 := ⟨Or.inr S, fun as u v h => (S as u v.2 v.1 h).1⟩
theorem sd_97 {P : Prop} : ((95 ≤ 97 ∧ 97 ≤ 98) ∨ P) ∧ ∀ (as : List MV) (u : MH) (v : MO), (fun _ _ => none : MF) as u = some v → le2 u v.2 := ⟨Or.inl (by decide), fun as u v h => by cases h⟩
theorem sd_98 {P : Prop} : ((95 ≤ 98 ∧ 98 ≤ 98) ∨ P) ∧ ∀ (as : List MV) (u : MH) (v : MO), (fun _ _ => none : MF) as u = some v → le2 u v.2 := ⟨Or.inl (by decide), fun as u v h => by cases h⟩
theorem sd_96 {P : Prop} : ((95 ≤ 96 ∧ 96 ≤ 98) ∨ P) ∧ ∀ (as : List MV) (u : MH) (v : MO), (fun _ _ => none : MF) as u = some v → le2 u v.2 := ⟨Or.inl (by decide), fun as u v h => by cases h⟩
theorem sd_95 {P : Prop} : ((95 ≤ 95 ∧ 95 ≤ 98) ∨ P) ∧ ∀ (as : List MV) (u : MH) (v : MO), (fun _ _ => none : MF) as u = some v → le2 u v.2 := ⟨Or.inl (by decide), fun as u v h => by cases h⟩
