/-! Plain calls, on both sides. -/
def Pair (I : MI) (J : MJ) (T B0 : Nat) (f g : MH → Option MO) : Prop := ∃ v s1 I2 J2, f (I, J) = some (some (mI v), s1) ∧ g s1 = some (some (mI v), (I2, J2)) ∧ St I2 J2 (T + 10001) B0
theorem St.mono {I : MI} {J : MJ} {T T' B0 : Nat} (h : St I J T B0) (hT : T ≤ T') (h30 : T' ≤ 1000000000) : St I J T' B0 :=
  h.sm h.2.1 h.2.2.1 h.2.2.2.1 h.2.2.2.2.1 h.2.2.2.2.2.1 h.2.2.2.2.2.2.2.1 h.2.2.2.2.2.2.2.2.1 (fun _ _ _ _ _ _ _ => rfl) rfl (fun _ => ⟨rfl, rfl⟩) (fun _ _ => rfl) (fun _ _ => rfl) (fun _ _ => rfl) rfl hT h30
/-- a question that changes nothing -/
theorem Pair.ask {I : MI} {J : MJ} {T B0 : Nat} (h : St I J T B0) (h30 : T + 10001 ≤ 1000000000) {f g : MH → Option MO} {v w : Int32} (a : f (I, J) = some (some (mI v), (I, J))) (b : g (I, J) = some (some (mI w), (I, J))) (e : v = w) : Pair I J T B0 f g := by
  subst e
  exact ⟨v, _, I, J, a, b, h.mono (by omega) h30⟩
/-- both go through; the answers may differ -/
def Pairw (I : MI) (J : MJ) (T B0 : Nat) (f g : MH → Option MO) : Prop := ∃ v w s1 I2 J2, f (I, J) = some (some (mI v), s1) ∧ g s1 = some (some (mI w), (I2, J2)) ∧ St I2 J2 (T + 10001) B0
theorem Pair.w {I : MI} {J : MJ} {T B0 : Nat} {f g : MH → Option MO} (h : Pair I J T B0 f g) : Pairw I J T B0 f g := by
  obtain ⟨v, s1, I2, J2, a, b, c⟩ := h
  exact ⟨v, v, s1, I2, J2, a, b, c⟩
theorem P_fault {I : MI} {J : MJ} {T B0 : Nat} (h : St I J T B0) (h30 : T + 10001 ≤ 1000000000) (x : Int32) (e1 : I 9 1 = I 188 6) (e2 : I 9 2 = I 188 7) : Pair I J T B0 (M_X9_fault [mR (some 0), mI x]) (M_X10_fault [mR (some 188), mI x]) := by
  refine Pair.ask h h30 (u_fault h.1.1 I x) (w_fault h.1.2 I x) ?_
  rw [e1, e2]
theorem P_faultw {I : MI} {J : MJ} {T B0 : Nat} (h : St I J T B0) (h30 : T + 10001 ≤ 1000000000) (x : Int32) : Pairw I J T B0 (M_X9_fault [mR (some 0), mI x]) (M_X10_fault [mR (some 188), mI x]) :=
  ⟨_, _, _, I, J, u_fault h.1.1 I x, w_fault h.1.2 I x, h.mono (by omega) h30⟩
theorem lt6 {x : Int32} (h0 : ¬ x < 0) (h : ¬ (6 : Int32) ≤ x) : ix x < 6 := by
  rcases Nat.lt_or_ge (ix x) 6 with z | z
  · exact z
  · exact absurd (by rw [nI_ix h0]; exact nI_le (a := 6) z (ix_lt x)) h
theorem five {x : Int32} : (5 : Int32) < x ↔ (6 : Int32) ≤ x := by
  rw [Int32.lt_iff_toInt_lt, Int32.le_iff_toInt_le]
  have a : (5 : Int32).toInt = 5 := rfl
  have b : (6 : Int32).toInt = 6 := rfl
  omega
theorem three {x : Int32} : (3 : Int32) < x ↔ (4 : Int32) ≤ x := by
  rw [Int32.lt_iff_toInt_lt, Int32.le_iff_toInt_le]
  have a : (3 : Int32).toInt = 3 := rfl
  have b : (4 : Int32).toInt = 4 := rfl
  omega
theorem lt4 {x : Int32} (h0 : ¬ x < 0) (h : ¬ (4 : Int32) ≤ x) : ix x < 4 := by
  rcases Nat.lt_or_ge (ix x) 4 with z | z
  · exact z
  · exact absurd (by rw [nI_ix h0]; exact nI_le (a := 4) z (ix_lt x)) h
theorem P_status {I : MI} {J : MJ} {T B0 : Nat} (h : St I J T B0) (h30 : T + 10001 ≤ 1000000000) (x : Int32) : Pair I J T B0 (M_X9_status [mR (some 0), mI x]) (M_X10_status [mR (some 188), mI x]) := by
  refine Pair.ask h h30 (u_status h.1.1 I x) (w_status h.1.2 I x) ?_
  by_cases a : x < 0
  · rw [if_pos a, if_pos a]
  · rw [if_neg a, if_neg a]
    by_cases b : (6 : Int32) ≤ x
    · rw [if_pos b, if_pos (five.mpr b)]
    · rw [if_neg b, if_neg (fun z => b (five.mp z))]
      exact h.2.2.2.1 _ (lt6 a b)
theorem P_result {I : MI} {J : MJ} {T B0 : Nat} (h : St I J T B0) (h30 : T + 10001 ≤ 1000000000) (x : Int32) : Pair I J T B0 (M_X9_result [mR (some 0), mI x]) (M_X10_result [mR (some 188), mI x]) := by
  refine Pair.ask h h30 (u_result h.1.1 I x) (w_result h.1.2 I x) ?_
  have s5 := h.2.2.2.2.2.1
  rw [← s5.1]
  by_cases z : bz (I 0 14) = 0
  · rw [if_pos z, if_pos z]
  · rw [if_neg z, if_neg z]
    by_cases a : x < 0
    · rw [if_pos a, if_pos a]
    · rw [if_neg a, if_neg a]
      by_cases b : (4 : Int32) ≤ x
      · rw [if_pos b, if_pos (three.mpr b)]
      · rw [if_neg b, if_neg (fun z => b (three.mp z))]
        exact s5.2 z _ (lt4 a b)
theorem w_octet {J : MJ} (h : RefL J) (I : MI) {o : Nat} (ho : I 188 25 = nI o) (o300 : o ≤ 300) (x : Int32) : M_X10_octet [mR (some 188), mI x] (I, J) = some (some (mI (if x < 0 then -1 else if nI o ≤ x then -1 else I 197 (ix x))), (I, J)) := by
  rw [E_X10_octet]
  simp only [h.fi, ho, Option.bind_some, fR_ok 24 h.k, h.r24]
  by_cases a : x < 0
  · simp [a]
  · simp only [if_neg a]
    by_cases b : nI o ≤ x
    · simp [b]
    · rw [if_neg b, if_neg b]
      have : ix x < o := by
        rcases Nat.lt_or_ge (ix x) o with z | z
        · exact z
        · exact absurd (by rw [nI_ix a]; exact nI_le z (ix_lt x)) b
      rw [ld_ok _ h.s24 (by rw [nI_ix a]; exact inb_nI (by omega) (by decide))]
      rfl
theorem P_octet {I : MI} {J : MJ} {T B0 : Nat} (h : St I J T B0) (h30 : T + 10001 ≤ 1000000000) (x : Int32) : Pair I J T B0 (M_X9_octet [mR (some 0), mI x]) (M_X10_octet [mR (some 188), mI x]) := by
  obtain ⟨o, o1, o2, o3, o4⟩ := h.2.2.2.2.1
  refine Pair.ask h h30 (u_octet h.1.1 I x) (w_octet h.1.2 I o3 o1 x) ?_
  rw [o2]
  by_cases a : x < 0
  · rw [if_pos a, if_pos a]
  · rw [if_neg a, if_neg a]
    by_cases b : nI o ≤ x
    · rw [if_pos b, if_pos b]
    · have : ix x < o := by
        rcases Nat.lt_or_ge (ix x) o with z | z
        · exact z
        · exact absurd (by rw [nI_ix a]; exact nI_le z (ix_lt x)) b
      rw [if_neg b, if_neg b, if_neg, o4 _ this]
      intro z
      rw [nI_ix a] at z
      exact nI_ge (b := 300) (show ix x < 300 by omega) (by decide) z
theorem P_handle {I : MI} {J : MJ} {T B0 : Nat} (h : St I J T B0) (h30 : T + 10001 ≤ 1000000000) (x : Int32) : Pair I J T B0 (M_X9_handle [mR (some 0), mI x]) (M_X10_handle [mR (some 188), mI x]) := by
  refine Pair.ask h h30 (u_handle h.1.1 I x) (w_handle h.1.2 I x) ?_
  unfold q_X8_handleAt
  by_cases a : x < 0
  · rw [if_pos a, if_pos a]; split <;> rfl
  · rw [if_neg a, if_neg a]
    by_cases b : (6 : Int32) ≤ x
    · rw [if_pos b, if_pos (five.mpr b)]; split <;> rfl
    · rw [if_neg b, if_neg (fun z => b (five.mp z))]
      have l6 := lt6 a b
      rcases h.2.2.2.2.2.2.2.2.2 with ⟨vol, ad, p, q, _, h2, ⟨nn, t, _, _, r⟩, _⟩ | ⟨_, h2, ⟨_, _, _, _, _, g6, _⟩, _⟩
      · rw [if_neg h2, r.B.ha _ l6]
      · rw [if_pos h2]
        exact g6 _ l6
