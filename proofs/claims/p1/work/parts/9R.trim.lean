/-! The room, trimming, on both sides. -/
theorem vw_up {N : Nat} (I : MI) (a : Nat) (k : Fin N) (j : Nat) (v : Int32) : vw N (up2 I (a + k.val) j v) a = uv (vw N I a) k j v := by
  funext k' j'
  show up2 I (a + k.val) j v (a + k'.val) j' = if k' = k ∧ j' = j then v else I (a + k'.val) j'
  unfold up2
  by_cases q : k' = k ∧ j' = j
  · rw [if_pos q, if_pos ⟨by rw [q.1], q.2⟩]
  · rw [if_neg q, if_neg]
    rintro ⟨z1, z2⟩
    exact q ⟨Fin.ext (by omega), z2⟩
theorem Told.h6 {I : MI} {nn vol t T : Nat} (i : Inv (vw 6 I 1) (vw 12 I 17) (vw 1 I 29) (wks I 31) nn vol t T (fun _ => 0)) : ¬ I 1 6 ≤ 0 := by
  have := i.N.vs
  have v := i.N.v3
  show ¬ vw 6 I 1 0 6 ≤ 0
  rw [this]
  exact nI_nle v.1 (by omega)
/-- refused at once, without a path -/
theorem Pair.no {I : MI} {J : MJ} {T B0 : Nat} (h : St I J T B0) (h30 : T + 10001 ≤ 1000000000) {k : Nat} (hk : k < 6) {v : Int32} {f g : MH → Option MO} (hf : f (I, J) = some (some (mI v), (rfz I k, J))) (hg : g (rfz I k, J) = some (some (mI v), (rfR (rfz I k) k, J))) : Pair I J T B0 f g := ⟨v, _, _, J, hf, hg, h.refuse h30 hk⟩
theorem le100 {x : Int32} : ¬ (100 : Int32) < x ↔ x ≤ 100 := by
  rw [Int32.not_lt]
theorem P_trim {I : MI} {J : MJ} {T B0 : Nat} (h : St I J T B0) (h30 : T + 10001 ≤ 1000000000) (x : Int32) : Pair I J T B0 (M_X9_trim [mR (some 0), mI x]) (M_X10_trim [mR (some 188), mI x]) := by
  have refs : ∀ Y : MI, RefL J → (bz (Y 188 13) = 0 ∨ x < 1 ∨ ¬ x ≤ 100) → M_X10_trim [mR (some 188), mI x] (Y, J) = some (some (mI (-1)), (rfR Y 2, J)) := fun Y rl hc => by
    rw [E_X10_trim]
    simp only [rl.fz, Option.bind_some, rl.kt, if_true, w_refuses rl Y (show (2 : Int32) = nI 2 from rfl) (by decide), asI_I, w_isIn x 1 100 _ (show (1 : Int64) = Int32.toInt64 1 from rfl) (show (100 : Int64) = Int32.toInt64 100 from rfl)]
    by_cases z : bz (Y 188 13) = 0
    · rw [if_pos z]
    · rw [if_neg z]
      by_cases a : x < 1
      · simp [a]
      · rw [if_neg a, if_pos (Classical.byContradiction (fun y => hc.elim z (fun w => w.elim a (fun v => v (le100.mp y)))))]
        simp
  rcases h.2.2.2.2.2.2.2.2.2 with td | u
  · by_cases hc : x < 1 ∨ ¬ x ≤ 100
    · refine Pair.no h h30 (k := 2) (by decide) (u_trim_no h.1.1 I x (Or.inr hc)) (refs _ h.1.2 (Or.inr hc))
    · have b1 : ¬ x < 1 := fun z => hc (Or.inl z)
      have b2 : x ≤ 100 := Classical.byContradiction (fun z => hc (Or.inr z))
      have xn : x = nI (ix x) := nI_ix (fun z => b1 (Int32.lt_trans z (by decide)))
      have x100 : ix x ≤ 100 := by
        rw [xn] at b2
        exact (nI_leI (b := 100) (ix_lt x) (by decide)).mp b2
      obtain ⟨vol, nn, t, X, J1, hv, i, c, r, k1, kl, rl, ⟨e1, e2, e3, e4, _⟩, xo, j6, _, rest⟩ := act_pre0 h h30 td
      have uE := u_trim h.1.1 I x (Told.h6 i) b1 b2 k1 kl
      rw [e2] at uE
      have ts : ∀ y, o_X1_trimSome (vw 12 I 17) x = (lp_X1_shrink_12 (-1) y (ix x) 0 (vw 12 I 17) 0 14 - vw 12 I 17 0 14, lp_X1_shrink_12 (-1) y (ix x) 0 (vw 12 I 17)) := fun y => trim_same x _ y (ix x) 0 (vw 12 I 17)
      unfold q_X1_trimSome gV_X1_trimSome at uE
      rw [ts 0] at uE
      have uE : M_X9_trim [mR (some 0), mI x] (I, J) = some (some (mI (lp_X1_shrink_12 (-1) 0 (ix x) 0 (vw 12 I 17) 0 14 - vw 12 I 17 0 14)), (pt X 17 (lp_X1_shrink_12 (-1) 0 (ix x) 0 (vw 12 I 17)), J1)) := uE
      obtain ⟨Z, z1, ⟨zD, z20, z21, zl, z190, _, _, z13⟩, zo, zk, fin⟩ := rest (pt X 17 (lp_X1_shrink_12 (-1) 0 (ix x) 0 (vw 12 I 17))) (fun y a _ _ => pt_out (by omega)) (by rw [pt_out (by decide), xo 0 (by decide) (by decide)])
      obtain ⟨D', G', k', s1, s2, s3, s4, s5, s6, s7, s8⟩ := r.trims i rl Z (by rw [z20]; exact Or.inl ⟨rfl, fun _ => rfl⟩) (Z 195) (Z 188 22) (-1) 0 x (by omega) (fun _ _ _ => rfl)
      rw [← zD, rF_id] at s1
      generalize hV' : lp_X1_shrink_12 (-1) 0 (ix x) 0 (vw 12 I 17) = V' at uE z1 zl s2 s3 s4 s5 s6 s7 s8
      have cc : CntI V' := c.sub (fun f hf q => by
        rcases s4.2.2 f hf with z | z
        · exact absurd z q
        · rw [z] at q; exact q) (s4.1 9 (by decide) (by decide) (by decide))
      have kI1 : ∀ y, y < 188 → y < 17 ∨ 29 ≤ y → Z y = X y := fun y a b => by rw [zl y a]; exact pt_out (by omega)
      refine ⟨_, _, rF Z D' G' (Z 188 22), J1, uE, ?_, ?_⟩
      · rw [E_X10_trim]
        have i1 : ∀ y, 188 ≤ y → y < 208 → pt X 17 V' y = I y := fun y a b => by rw [pt_out (by omega), xo y (by omega) (by omega)]
        have t13 : ¬ bz (pt X 17 V' 188 13) = 0 := by
          rw [zk 13 (by decide) (by decide)] at z13
          rw [i1 188 (by decide) (by decide)]
          exact z13
        simp only [rl.fz, Option.bind_some, rl.kt, if_true, if_neg t13, asI_I, w_isIn x 1 100 _ (show (1 : Int64) = Int32.toInt64 1 from rfl) (show (100 : Int64) = Int32.toInt64 100 from rfl), if_neg b1, if_neg (le100.mpr b2), if_neg i10, z1, asV_n, s1]
        have : V' 0 14 - vw 12 I 17 0 14 = nI k' := by
          rw [s6, Int32.add_comm]
          exact Int32.add_sub_cancel _ _
        rw [this]
      · refine fin _ J1 (fun y a b _ d e _ _ _ => rF_o _ _ _ _ a d e) (fun k _ a _ => rF_k _ _ _ _ a) ?_ ?_ ?_ ?_ rfl
        · refine h.2.2.2.1.fr ?_ ?_
          · rw [rF_o _ _ _ _ (by decide) (by decide) (by decide), kI1 186 (by decide) (by decide), xo 186 (by decide) (by decide)]
          · rw [rF_o _ _ _ _ (by decide) (by decide) (by decide), z190]
        · refine h.2.2.2.2.2.1.fr ?_ ?_ ?_ ?_
          · rw [rF_o _ _ _ _ (by decide) (by decide) (by decide), kI1 0 (by decide) (by decide), xo 0 (by decide) (by decide)]
          · rw [rF_o _ _ _ _ (by decide) (by decide) (by decide), kI1 187 (by decide) (by decide), xo 187 (by decide) (by decide)]
          · rw [rF_k _ _ _ _ (by decide), zk 32 (by decide) (by decide)]
          · rw [rF_o _ _ _ _ (by decide) (by decide) (by decide), zo 201 (by decide) (by decide), pt_out (by decide), xo 201 (by decide) (by decide)]
        · refine Wd.mk (s3.T (show T ≤ T + 10001 by omega) h30) cc s2 ?_ ?_ ?_ (fun k hk => ?_) (rF_D _ _ _ _)
          · rw [vw_r _ _ _ _ (by decide), ← e1]
            exact vw_fr (fun y _ _ => kI1 y (by omega) (by omega))
          · rw [vw_r _ _ _ _ (by decide), vw_fr (I := pt X 17 V') (fun y _ _ => zl y (by omega)), vw_pt]
          · rw [vw_r _ _ _ _ (by decide), ← e3]
            exact vw_fr (fun y _ _ => kI1 y (by omega) (by omega))
          · rw [wks_fr (I := I) (fun y a b => by rw [rF_o _ _ _ _ (by omega) (by omega) (by omega), kI1 y (by omega) (by omega), e4 y a (by omega)]) hk]
            exact WkEq.refl _
        · exact j6
  · exact Pair.no h h30 (k := 2) (by decide) (u_trim_no h.1.1 I x (Or.inl (by rw [u.2.2.1.2.1]; exact Int32.le_refl _))) (refs _ h.1.2 (Or.inl (by rw [rfz_o _ _ (by decide)]; exact u.2.1)))
