/-! What would be given up next: the pair. -/
theorem P_victim {I : MI} {J : MJ} {T B0 : Nat} (h : St I J T B0) (h30 : T + 10001 ≤ 1000000000) (x : Int32) : Pair I J T B0 (M_X9_victim [mR (some 0), mI x]) (M_X10_victim [mR (some 188), mI x]) := by
  have rl := h.1.2
  have uE := u_victim h.1.1 I x
  rcases h.2.2.2.2.2.2.2.2.2 with ⟨vol, ad, p, q, hv, td, ⟨nn, t, i, c, r⟩, hs⟩ | u
  · have h6 : ¬ I 1 6 ≤ 0 := Told.h6 i
    by_cases hx : (-1 : Int32) ≤ x
    · rw [if_neg (fun z => z.elim h6 (fun y => y hx))] at uE
      unfold vicO at uE
      have vc := VEq.copy (vw 12 I 17) (vw 12 I 55)
      generalize gV_X1_copyFrom (vw 12 I 17) (vw 12 I 55) = Vc at uE vc
      have wr : ∀ k, k < 4 → WkEq (wks I 31 k) (wks I 31 k) := fun k _ => WkEq.refl _
      have ic := i.cg (UEq.refl _) vc (fun _ _ => rfl) wr
      have rc := r.cg i.N.n60 (UEq.refl _) vc (fun _ _ => rfl) wr (fun _ _ => rfl)
      have ncl : nc Vc ≤ 64 := cnt_le _ 64 0
      generalize hV : (lp_victim x 64 0 Vc).2 = V' at uE
      have oT : ∀ y, y < 55 ∨ 67 ≤ y → pt I 55 V' y = I y := fun y a => pt_out (by omega)
      have pa := w_putsAside rl (pt I 55 V')
      have ao : ∀ y, y ≠ 196 → itr (rcp 194 196) 0 1853 (pt I 55 V') y = pt I 55 V' y := fun y a => rcp_o 1853 0 _ a
      have a6 : ∀ j, j < 1853 → itr (rcp 194 196) 0 1853 (pt I 55 V') 196 j = I 194 j := fun j hj => by rw [rcp_at (by decide) 1853 0 _ j, if_pos (by omega), oT _ (by omega)]
      generalize itr (rcp 194 196) 0 1853 (pt I 55 V') = Y2 at pa ao a6
      have y94 : Y2 194 = I 194 := by rw [ao 194 (by decide), oT _ (by omega)]
      have s8 := h.2.2.2.2.2.2.2.2.1
      have y20 : Y2 188 20 = -1 := by rw [ao 188 (by decide), oT _ (by omega)]; exact s8.1
      obtain ⟨G', lf⟩ := rc.leastFree ic rl Y2 (Or.inl ⟨y20, fun _ => rfl⟩) (Y2 195) (Y2 188 22) (-1) (fun _ _ _ => rfl)
      have id : rF Y2 (I 194) (Y2 195) (Y2 188 22) = Y2 := by rw [← y94]; exact rF_id _
      rw [id] at lf
      obtain ⟨D3, G3, e3⟩ := victim_loop rl Y2 y20 (Y2 188 22) x 64 0 Vc (I 194) G' (by omega) rc ic ncl
      have bo : ∀ y, y ≠ 194 → itr (rcp 196 194) 0 1853 (rF Y2 D3 G3 (Y2 188 22)) y = rF Y2 D3 G3 (Y2 188 22) y := fun y a => rcp_o 1853 0 _ a
      have b4 : ∀ j, j < 1853 → itr (rcp 196 194) 0 1853 (rF Y2 D3 G3 (Y2 188 22)) 194 j = I 194 j := fun j hj => by
        rw [rcp_at (by decide) 1853 0 _ j, if_pos (by omega), rF_o _ _ _ _ (by decide) (by decide) (by decide), a6 j hj]
      generalize itr (rcp 196 194) 0 1853 (rF Y2 D3 G3 (Y2 188 22)) = Y3 at e3 bo b4
      have o2 : ∀ y, (y < 55 ∨ 67 ≤ y) → y ≠ 188 → y ≠ 194 → y ≠ 195 → y ≠ 196 → Y3 y = I y := fun y h55 h188 h194 h195 h196 => by
        rw [bo y h194, rF_o _ _ _ _ h188 h194 h195, ao y h196, oT y h55]
      have k2 : ∀ k, k ≠ 22 → Y3 188 k = I 188 k := fun k h22 => by
        rw [bo 188 (by decide), rF_k _ _ _ _ h22, ao 188 (by decide), oT _ (by omega)]
      have f13 : ¬ bz (pt I 55 V' 188 13) = 0 := by rw [oT _ (by omega)]; exact td
      obtain ⟨L, s7⟩ := h.2.2.2.2.2.2.2.1
      obtain ⟨n, t1, t2, t3⟩ := h.2.1
      refine ⟨_, _, Y3, J, uE, ?_, ?_⟩
      · rw [E_X10_victim]
        simp only [rl.fz, Option.bind_some, if_neg f13, if_pos hx, rl.kt, if_true, pa, asV_n, lf, asI_I]
        exact e3
      · refine h.sm ⟨n, ?_, by rw [k2 1 (by decide)]; exact t2, fun k hk => by rw [o2 189 (by decide) (by decide) (by decide) (by decide) (by decide), o2 8 (by decide) (by decide) (by decide) (by decide) (by decide)]; exact t3 k hk⟩ (h.2.2.1.fr (o2 _ (by decide) (by decide) (by decide) (by decide) (by decide)) (k2 _ (by decide)) (k2 _ (by decide))) (h.2.2.2.1.fr (o2 _ (by decide) (by decide) (by decide) (by decide) (by decide)) (o2 _ (by decide) (by decide) (by decide) (by decide) (by decide))) (h.2.2.2.2.1.fr (by rw [o2 0 (by decide) (by decide) (by decide) (by decide) (by decide)]) (o2 _ (by decide) (by decide) (by decide) (by decide) (by decide)) (k2 _ (by decide)) (o2 _ (by decide) (by decide) (by decide) (by decide) (by decide))) (h.2.2.2.2.2.1.fr (by rw [o2 0 (by decide) (by decide) (by decide) (by decide) (by decide)]) (o2 _ (by decide) (by decide) (by decide) (by decide) (by decide)) (k2 _ (by decide)) (o2 _ (by decide) (by decide) (by decide) (by decide) (by decide))) ⟨L, s7.fr (by rw [o2 69 (by decide) (by decide) (by decide) (by decide) (by decide)]) (by rw [o2 69 (by decide) (by decide) (by decide) (by decide) (by decide)]) (fun y _ _ => o2 y (by omega) (by omega) (by omega) (by omega) (by omega)) (k2 _ (by decide)) (k2 _ (by decide)) (o2 _ (by decide) (by decide) (by decide) (by decide) (by decide)) (o2 _ (by decide) (by decide) (by decide) (by decide) (by decide))⟩ (s8.fr (k2 _ (by decide)) (k2 _ (by decide))) (fun y a b _ _ _ _ => o2 y (by omega) (by omega) (by omega) (by omega) (by omega)) (o2 _ (by decide) (by decide) (by decide) (by decide) (by decide)) (fun _ => ⟨by rw [o2 69 (by decide) (by decide) (by decide) (by decide) (by decide)], by rw [o2 69 (by decide) (by decide) (by decide) (by decide) (by decide)]⟩) (fun y a => o2 y (by omega) (by omega) (by omega) (by omega) (by omega)) (fun k q => k2 k (by omega)) (fun k hk => b4 k hk) (o2 _ (by decide) (by decide) (by decide) (by decide) (by decide)) (by omega) h30
        have : vw 2 Y3 7 = vw 2 I 7 := vw_fr (fun y _ _ => o2 y (by omega) (by omega) (by omega) (by omega) (by omega))
        rw [this]
        exact t1
    · rw [if_pos (Or.inr hx)] at uE
      refine Pair.ask h h30 uE (w := -1) ?_ rfl
      rw [E_X10_victim]
      simp only [rl.fz, Option.bind_some, if_neg td, if_neg hx]
  · rw [if_pos (Or.inl (by rw [u.2.2.1.2.1]; exact Int32.le_refl _))] at uE
    refine Pair.ask h h30 uE (w := -1) ?_ rfl
    rw [E_X10_victim]
    simp only [rl.fz, Option.bind_some, if_pos u.2.1]
