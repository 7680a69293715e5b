/-! Bytes fed, on both sides. -/
theorem byt_bv (v : BitVec 32) (k : Nat) (hk : k ≤ 24) : (v >>> k) &&& 255#32 = (v.sshiftRight k) &&& 255#32 := by
  apply BitVec.eq_of_getLsbD_eq
  intro i hi
  rw [BitVec.getLsbD_and, BitVec.getLsbD_and]
  by_cases z : i < 8
  · congr 1
    rw [BitVec.getLsbD_ushiftRight, BitVec.getLsbD_sshiftRight]
    have : k + i < 32 := by omega
    simp [hi, this]
  · have : (255#32).getLsbD i = false := by
      have : i = 8 ∨ i = 9 ∨ i = 10 ∨ i = 11 ∨ i = 12 ∨ i = 13 ∨ i = 14 ∨ i = 15 ∨ i = 16 ∨ i = 17 ∨ i = 18 ∨ i = 19 ∨ i = 20 ∨ i = 21 ∨ i = 22 ∨ i = 23 ∨ i = 24 ∨ i = 25 ∨ i = 26 ∨ i = 27 ∨ i = 28 ∨ i = 29 ∨ i = 30 ∨ i = 31 := by omega
      rcases this with h | h | h | h | h | h | h | h | h | h | h | h | h | h | h | h | h | h | h | h | h | h | h | h <;> subst h <;> decide
    rw [this, Bool.and_false, Bool.and_false]
theorem byt (x : Int32) {j : Nat} (hj : j < 4) : (((Int32.toUInt32 x >>> (Int32.toUInt32 (nI (24 - 8 * j)) &&& Int32.toUInt32 31)).toInt32) &&& 255) = (x >>> ((8 * (3 - nI j)) &&& 31)) &&& 255 := by
  have jc : j = 0 ∨ j = 1 ∨ j = 2 ∨ j = 3 := by omega
  apply Int32.toBitVec_inj.1
  rcases jc with z | z | z | z <;> subst z
  · exact byt_bv x.toBitVec 24 (by decide)
  · exact byt_bv x.toBitVec 16 (by decide)
  · exact byt_bv x.toBitVec 8 (by decide)
  · exact byt_bv x.toBitVec 0 (by decide)
theorem byt_b (v : Int32) : ∃ b, b < 256 ∧ v &&& 255 = nI b := by
  refine ⟨v.toBitVec.toNat % 256, by omega, ?_⟩
  apply Int32.toBitVec_inj.1
  show v.toBitVec &&& 255#32 = BitVec.ofNat 32 (v.toBitVec.toNat % 256)
  apply BitVec.eq_of_toNat_eq
  rw [BitVec.toNat_and, show (255#32).toNat = 2 ^ 8 - 1 from rfl, Nat.and_two_pow_sub_one_eq_mod, BitVec.toNat_ofNat]
  omega
def arg5 (a b c d e : Int32) (k : Nat) : Int32 := if k < 4 then a else if k < 8 then b else if k < 12 then c else if k < 16 then d else e
def feQ (a b c d e : Int32) (k : Nat) (Q : RouV) : RouV := adw (arg5 a b c d e k) (nI (24 - 8 * (k % 4))) Q
theorem fed_itr (Q : RouV) (a b c d e : Int32) : fedQ Q a b c d e = itr (feQ a b c d e) 0 20 Q := rfl
theorem adw_in {Q : RouV} {n : Nat} (h : Q 0 1 = nI n) (hn : n < 400) (x s : Int32) : adw x s Q = uv (uv Q 1 n (((Int32.toUInt32 x >>> (Int32.toUInt32 s &&& Int32.toUInt32 31)).toInt32) &&& 255)) 0 1 (nI (n + 1)) := by
  unfold adw
  rw [h, if_neg (nI_pos (by omega)), if_neg (show ¬ (400 : Int32) ≤ nI n from nI_ge (b := 400) hn (by decide)), ix_nI (by omega), nI_1]
theorem w_feed_s {J : MJ} (h : RefL J) (Y : MI) (a b c d e : Int32) {n k : Nat} (hn : Y 188 1 = nI n) (n4 : n < 400) (hk : k < 20) : Ev T_X10_feed 22 [some (mR (some 188)), some (mI a), some (mI b), some (mI c), some (mI d), some (mI e), some (mI (nI k)), none] [] (Y, J) = Ev T_X10_feed 22 [some (mR (some 188)), some (mI a), some (mI b), some (mI c), some (mI d), some (mI e), some (mI (nI (k + 1))), none] [] (up2 (up2 Y 189 n ((arg5 a b c d e k >>> ((8 * (3 - nI (k % 4))) &&& 31)) &&& 255)) 188 1 (nI (n + 1)), J) := by
  have k4 : nI k - nI k / 4 * 4 = nI (k % 4) := by
    have : k = 0 ∨ k = 1 ∨ k = 2 ∨ k = 3 ∨ k = 4 ∨ k = 5 ∨ k = 6 ∨ k = 7 ∨ k = 8 ∨ k = 9 ∨ k = 10 ∨ k = 11 ∨ k = 12 ∨ k = 13 ∨ k = 14 ∨ k = 15 ∨ k = 16 ∨ k = 17 ∨ k = 18 ∨ k = 19 := by omega
    rcases this with h | h | h | h | h | h | h | h | h | h | h | h | h | h | h | h | h | h | h | h <;> subst h <;> decide
  have s9 : ∀ v, st (Y, J) 11 189 (nI n) v = some (up2 Y 189 n v, J) := fun v => by
    rw [st_ok _ _ h.s0 (inb_nI (by omega) (by decide)), show (nI n).toNatClampNeg = n from ix_nI (by omega)]
  have l1 : ∀ v, up2 Y 189 n v 188 1 = nI n := fun v => by rw [up2_o _ _ _ (by decide)]; exact hn
  have n40 : ¬ (4 : Int32) = 0 := by decide
  rw [E_X10_feed_22, if_neg (show ¬ (20 : Int32) ≤ nI k from nI_ge (b := 20) hk (by decide))]
  unfold arg5
  by_cases a4 : k < 4
  · rw [if_neg (show ¬ (4 : Int32) ≤ nI k from nI_ge (b := 4) a4 (by decide)), if_pos a4]
    simp only [h.f0, h.fi, hn, Option.bind_some, if_neg n40, s9, k4, l1, nI_1, h.wi]
  · rw [if_pos (show (4 : Int32) ≤ nI k from nI_le (a := 4) (by omega) (by omega)), if_neg a4]
    by_cases a8 : k < 8
    · rw [if_neg (show ¬ (8 : Int32) ≤ nI k from nI_ge (b := 8) a8 (by decide)), if_pos a8]
      simp only [h.f0, h.fi, hn, Option.bind_some, if_neg n40, s9, k4, l1, nI_1, h.wi]
    · rw [if_pos (show (8 : Int32) ≤ nI k from nI_le (a := 8) (by omega) (by omega)), if_neg a8]
      by_cases a12 : k < 12
      · rw [if_neg (show ¬ (12 : Int32) ≤ nI k from nI_ge (b := 12) a12 (by decide)), if_pos a12]
        simp only [h.f0, h.fi, hn, Option.bind_some, if_neg n40, s9, k4, l1, nI_1, h.wi]
      · rw [if_pos (show (12 : Int32) ≤ nI k from nI_le (a := 12) (by omega) (by omega)), if_neg a12]
        by_cases a16 : k < 16
        · rw [if_neg (show ¬ (16 : Int32) ≤ nI k from nI_ge (b := 16) a16 (by decide)), if_pos a16]
          simp only [h.f0, h.fi, hn, Option.bind_some, if_neg n40, s9, k4, l1, nI_1, h.wi]
        · rw [if_pos (show (16 : Int32) ≤ nI k from nI_le (a := 16) (by omega) (by omega)), if_neg a16]
          simp only [h.f0, h.fi, hn, Option.bind_some, if_neg n40, s9, k4, l1, nI_1, h.wi]
theorem feed_loop {J : MJ} (h : RefL J) (a b c d e : Int32) : ∀ (m k : Nat) (Q : RouV) (Y : MI) (n : Nat), k + m = 20 → Tap Q n → n + m ≤ 400 → Y 188 1 = nI n → (∀ j, j < n → Y 189 j = Q 1 j) → ∃ Y', Ev T_X10_feed 22 [some (mR (some 188)), some (mI a), some (mI b), some (mI c), some (mI d), some (mI e), some (mI (nI k)), none] [] (Y, J) = some (some (mI (nI (n + m))), (Y', J)) ∧ Tap (itr (feQ a b c d e) k m Q) (n + m) ∧ Y' 188 1 = nI (n + m) ∧ (∀ j, j < n + m → Y' 189 j = itr (feQ a b c d e) k m Q 1 j) ∧ (∀ x, x ≠ 188 → x ≠ 189 → Y' x = Y x) ∧ (∀ j, j ≠ 1 → Y' 188 j = Y 188 j)
  | 0, k, Q, Y, n, hk, t, hn, y1, y9 => by
    refine ⟨Y, ?_, t, y1, y9, fun _ _ _ => rfl, fun _ _ => rfl⟩
    have : k = 20 := by omega
    subst this
    rw [E_X10_feed_22, if_pos (show (20 : Int32) ≤ nI 20 by decide)]
    simp only [h.fi, y1, Option.bind_some]
    rfl
  | m + 1, k, Q, Y, n, hk, t, hn, y1, y9 => by
    have q1 : feQ a b c d e k Q = uv (uv Q 1 n ((arg5 a b c d e k >>> ((8 * (3 - nI (k % 4))) &&& 31)) &&& 255)) 0 1 (nI (n + 1)) := by
      unfold feQ
      rw [adw_in t.2.1 (by omega), byt _ (by omega)]
    have st := w_feed_s h Y a b c d e y1 (show n < 400 by omega) (show k < 20 by omega)
    generalize (arg5 a b c d e k >>> ((8 * (3 - nI (k % 4))) &&& 31)) = w at q1 st
    obtain ⟨bb, b1, b2⟩ := byt_b w
    have r1 : ∀ j, feQ a b c d e k Q 1 j = if j = n then w &&& 255 else Q 1 j := fun j => by rw [q1]; simp [uv]
    have r0 : feQ a b c d e k Q 0 1 = nI (n + 1) := by rw [q1]; simp [uv]
    obtain ⟨Y', z1, z2, z3, z4, z5, z6⟩ := feed_loop h a b c d e m (k + 1) (feQ a b c d e k Q) (up2 (up2 Y 189 n (w &&& 255)) 188 1 (nI (n + 1))) (n + 1) (by omega) ⟨by omega, r0, fun j hj => by
      rw [r1]
      by_cases z : j = n
      · rw [if_pos z]; exact ⟨bb, b1, b2⟩
      · rw [if_neg z]; exact t.2.2 j (by omega)⟩ (by omega) (up2_s _ _ _ _) (fun j hj => by
      rw [up2_o _ _ _ (by decide), r1]
      by_cases z : j = n
      · rw [if_pos z, z, up2_s]
      · rw [if_neg z, up2_k _ _ _ z]; exact y9 j (by omega))
    have en : n + 1 + m = n + (m + 1) := by omega
    rw [en] at z1 z2 z3 z4
    refine ⟨Y', ?_, z2, z3, z4, fun x a b => ?_, fun j hj => ?_⟩
    · rw [st]; exact z1
    · rw [z5 x a b, up2_o _ _ _ a, up2_o _ _ _ b]
    · rw [z6 j hj, up2_k _ _ _ hj, up2_o _ _ _ (by decide)]
theorem P_feed {I : MI} {J : MJ} {T B0 : Nat} (h : St I J T B0) (h30 : T + 10001 ≤ 1000000000) (a b c d e : Int32) : Pair I J T B0 (M_X9_feed [mR (some 0), mI a, mI b, mI c, mI d, mI e]) (M_X10_feed [mR (some 188), mI a, mI b, mI c, mI d, mI e]) := by
  obtain ⟨n, t1, t2, t3⟩ := h.2.1
  have n4 := t1.1
  have rl := h.1.2
  have uE := u_feed h.1.1 I a b c d e
  have q01 : vw 2 I 7 0 1 = nI n := t1.2.1
  have e20 : nI n + 20 = nI (n + 20) := nI_add n 20
  unfold q_X5_hasSpace at uE
  rw [q01, e20] at uE
  by_cases sp : n + 20 ≤ 400
  · rw [if_neg (show ¬ (400 : Int32) < nI (n + 20) from nI_nlt (a := 400) sp (by decide)), if_neg i10, fed_itr] at uE
    have o : ∀ (Q : RouV) y, y < 7 ∨ 9 ≤ y → pt I 7 Q y = I y := fun Q y hy => pt_out (by omega)
    obtain ⟨Y', z1, z2, z3, z4, z5, z6⟩ := feed_loop rl a b c d e 20 0 (vw 2 I 7) (pt I 7 (itr (feQ a b c d e) 0 20 (vw 2 I 7))) n (by omega) t1 sp (by rw [o _ 188 (by omega)]; exact t2) (fun j hj => by rw [o _ 189 (by omega)]; exact t3 j hj)
    generalize itr (feQ a b c d e) 0 20 (vw 2 I 7) = Q at uE z1 z2 z4 z5 z6
    rw [z2.2.1] at uE
    have o2 : ∀ y, y ≠ 7 → y ≠ 8 → y ≠ 188 → y ≠ 189 → Y' y = I y := fun y p q r s => by rw [z5 y r s, o _ y (by omega)]
    have k2 : ∀ k, k ≠ 1 → Y' 188 k = I 188 k := fun k p => by rw [z6 k p, o _ 188 (by omega)]
    have wQ : vw 2 Y' 7 = Q := by
      rw [vw_fr (I := pt I 7 Q) (fun y _ _ => z5 y (by omega) (by omega)), vw_pt]
    obtain ⟨L, s7⟩ := h.2.2.2.2.2.2.2.1
    refine ⟨nI (n + 20), _, Y', J, uE, ?_, ?_⟩
    · rw [E_X10_feed]
      simp only [rl.fi, o _ 188 (show 188 < 7 ∨ 9 ≤ 188 by omega), t2, e20, Option.bind_some]
      rw [if_pos (show nI (n + 20) ≤ 400 from nI_le (b := 400) sp (by decide))]
      exact z1
    · refine h.sm ⟨n + 20, by rw [wQ]; exact z2, z3, fun k hk => ?_⟩ (h.2.2.1.fr (o2 _ (by decide) (by decide) (by decide) (by decide)) (k2 _ (by decide)) (k2 _ (by decide))) (h.2.2.2.1.fr (o2 _ (by decide) (by decide) (by decide) (by decide)) (o2 _ (by decide) (by decide) (by decide) (by decide))) (h.2.2.2.2.1.fr (by rw [o2 0 (by decide) (by decide) (by decide) (by decide)]) (o2 _ (by decide) (by decide) (by decide) (by decide)) (k2 _ (by decide)) (o2 _ (by decide) (by decide) (by decide) (by decide))) (h.2.2.2.2.2.1.fr (by rw [o2 0 (by decide) (by decide) (by decide) (by decide)]) (o2 _ (by decide) (by decide) (by decide) (by decide)) (k2 _ (by decide)) (o2 _ (by decide) (by decide) (by decide) (by decide))) ⟨L, s7.fr (by rw [o2 69 (by decide) (by decide) (by decide) (by decide)]) (by rw [o2 69 (by decide) (by decide) (by decide) (by decide)]) (fun y _ _ => o2 y (by omega) (by omega) (by omega) (by omega)) (k2 _ (by decide)) (k2 _ (by decide)) (o2 _ (by decide) (by decide) (by decide) (by decide)) (o2 _ (by decide) (by decide) (by decide) (by decide))⟩ (h.2.2.2.2.2.2.2.2.1.fr (k2 _ (by decide)) (k2 _ (by decide))) (fun y a _ _ _ _ _ => o2 y (by omega) (by omega) (by omega) (by omega)) (o2 _ (by decide) (by decide) (by decide) (by decide)) (fun _ => ⟨by rw [o2 69 (by decide) (by decide) (by decide) (by decide)], by rw [o2 69 (by decide) (by decide) (by decide) (by decide)]⟩) (fun y a => o2 y (by omega) (by omega) (by omega) (by omega)) (fun k q => k2 k (by omega)) (fun k _ => by rw [o2 194 (by decide) (by decide) (by decide) (by decide)]) (o2 _ (by decide) (by decide) (by decide) (by decide)) (by omega) h30
      rw [z4 k hk, ← wQ]
      rfl
  · rw [if_pos (show (400 : Int32) < nI (n + 20) from nI_lt (a := 400) (by omega) (by omega)), if_pos rfl] at uE
    refine ⟨-1, _, _, J, uE, ?_, h.refuse h30 (k := 0) (by decide)⟩
    rw [E_X10_feed]
    simp only [rl.fi, rfz_o _ _ (show 188 ≠ 186 by decide), t2, e20, Option.bind_some]
    rw [if_neg (show ¬ nI (n + 20) ≤ 400 from nI_ge (a := 400) (by omega) (by omega))]
    simp only [rl.kt, if_true, w_refuses rl _ (show (0 : Int32) = nI 0 from rfl) (by decide), Option.bind_some, asI_I]
