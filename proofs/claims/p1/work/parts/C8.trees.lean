/-! TREES told: both sides alike, but for the FAULT's number. -/
def tsX (Y : MI) (T : Nat) : MI := up2 (up2 Y 188 3 (nI T)) 188 1 0
theorem tsX_o (Y : MI) (T : Nat) {x : Nat} (h : x ≠ 188) : tsX Y T x = Y x := by
  unfold tsX
  rw [up2_o _ _ _ h, up2_o _ _ _ h]
theorem tsX_k (Y : MI) (T : Nat) {k : Nat} (h1 : k ≠ 1) (h3 : k ≠ 3) : tsX Y T 188 k = Y 188 k := by
  unfold tsX
  rw [up2_k _ _ _ h1, up2_k _ _ _ h3]
theorem tsX_1 (Y : MI) (T : Nat) : tsX Y T 188 1 = 0 := up2_s _ _ _ _
theorem tsX_3 (Y : MI) (T : Nat) : tsX Y T 188 3 = nI T := by
  unfold tsX
  rw [up2_k _ _ _ (by decide), up2_s]
theorem T55_sk {I : MI} {Q : RouV} {T : Nat} (t : RTap I Q T) {J : MJ} (h : RefL J) (g m v : Int32) (S : RowV) {p s : Nat} (hs : Sk Q T p s) : T55 (vF I (nI s) 0 g m v S, J) = T55 (vF I (nI p) 0 g m v S, J) := by
  unfold T55
  rw [E_X10_trees_55, E_X10_trees_55]
  simp only [h.fi, vF_4, Option.bind_some, if_true, h.kt, w_look0 t h 0 g m v S hs, w_look0 t h 0 g m v S hs.self]
theorem w_trees0 {Y : MI} {Q : RouV} {T : Nat} {J : MJ} (h : RefL J) (y1 : Y 188 1 = nI T) (t : RTap (tsX Y T) Q T) {s : Nat} (hs : Sk Q T 0 s) : M_X10_trees [mR (some 188)] (Y, J) = if q_X5_at Q (nI s) = -1 then T55 (vF (tsX Y T) (nI s) 1 (nI T) (nI 0) (nI 0) (Y 191), J) else T55 (vF (tsX Y T) (nI s) 0 (-1) (nI 0) (nI 0) (Y 191), J) := by
  have hv : up2 (up2 (up2 (up2 (up2 (tsX Y T) 188 2 0) 188 4 0) 188 5 (-1)) 188 10 0) 188 12 0 = vF (tsX Y T) (nI 0) 0 (-1) (nI 0) (nI 0) (Y 191) := by
    have e : tsX Y T = vF (tsX Y T) (tsX Y T 188 2) (tsX Y T 188 4) (tsX Y T 188 5) (tsX Y T 188 10) (tsX Y T 188 12) (Y 191) := by
      funext a j
      unfold vF
      by_cases z : a = 191
      · rw [if_pos z, z, tsX_o _ _ (by decide)]
      · rw [if_neg z]
        by_cases w : a = 188
        · rw [if_pos w, w]
          by_cases c2 : j = 2
          · rw [if_pos c2, c2]
          · rw [if_neg c2]
            by_cases c4 : j = 4
            · rw [if_pos c4, c4]
            · rw [if_neg c4]
              by_cases c5 : j = 5
              · rw [if_pos c5, c5]
              · rw [if_neg c5]
                by_cases c10 : j = 10
                · rw [if_pos c10, c10]
                · rw [if_neg c10]
                  by_cases c12 : j = 12
                  · rw [if_pos c12, c12]
                  · rw [if_neg c12]
        · rw [if_neg w]
    rw [e, vF_s2, vF_s4, vF_s5, vF_s10, vF_s12, ← e]
    rfl
  unfold T55
  rw [E_X10_trees]
  simp only [h.fi, y1, Option.bind_some, h.wi]
  rw [show up2 (up2 Y 188 3 (nI T)) 188 1 0 = tsX Y T from rfl, hv]
  simp only [h.kt, if_true, w_look0 t h 0 (-1) (nI 0) (nI 0) (Y 191) hs, Option.bind_some, asI_I, h.fi, vF_3, tsX_3, w_fail0 h, asV_n]
theorem DI.nil (U : NodV) (S : RowV) : DI (gU_X2_clear U) S 0 0 := by
  unfold gU_X2_clear
  refine ⟨⟨?_, by decide, ?_, by decide⟩, fun k hk => by omega, fun k hk => by omega, fun v hv => by omega, fun k j hk => by omega, fun z => by omega, fun k hk => by omega⟩
  · simp [uv]; rfl
  · simp [uv]; rfl
theorem trees_both {Y : MI} {Q : RouV} {T : Nat} {J : MJ} (h : RefL J) (y1 : Y 188 1 = nI T) (t : RTap (tsX Y T) Q T) (E : OneV) (U : NodV) : Fin55 (tsX Y T) J (o_X3_readTrees E Q U) (M_X10_trees [mR (some 188)] (Y, J)) := by
  have T4 := t.1.1
  obtain ⟨s, hs⟩ := Sk.ex Q (Nat.zero_le T)
  have s2 := hs.2.1
  have eo : EO (uv (uv (uv (uv (uv (uv E 0 1 0) 0 2 (-1)) 0 3 0) 0 4 0) 0 5 (-1)) 0 6 0) 0 := ⟨by simp [uv], by simp [uv]; rfl, by simp [uv]; rfl, by simp [uv]; rfl⟩
  have di := DI.nil U (Y 191)
  have oe : o_X3_readTrees E Q U = RTl Q 801 0 1 (uv (uv (uv (uv (uv (uv E 0 1 0) 0 2 (-1)) 0 3 0) 0 4 0) 0 5 (-1)) 0 6 0) (gU_X2_clear U) := rfl
  rw [oe, w_trees0 h y1 t hs]
  generalize (uv (uv (uv (uv (uv (uv E 0 1 0) 0 2 (-1)) 0 3 0) 0 4 0) 0 5 (-1)) 0 6 0) = E0 at eo
  generalize gU_X2_clear U = U0 at di
  by_cases sT : s = T
  · have c : q_X5_at Q (nI s) = -1 := t.1.out (by omega) (by omega)
    rw [if_pos c, T55_bad h _ _ 1 _ _ _ _ i10]
    refine Or.inl ⟨_, _, _, _, _, _, rfl, ?_⟩
    have u0 : U0 0 6 = 0 := di.1.2.2.1
    have q1 : q_X3_readOutside (uv E0 0 3 (nI s)) U0 (-1) = 0 := by
      unfold q_X3_readOutside
      rw [if_pos rfl, if_pos u0]
      exact if_pos rfl
    have q2 : gE_X3_readOutside (uv E0 0 3 (nI s)) U0 (-1) = gE_X3_fail (uv E0 0 3 (nI s)) 1 (nI s) := by
      unfold gE_X3_readOutside
      rw [if_pos rfl, if_pos u0, uv_s]
      exact if_pos rfl
    rw [lp_out t.1 hs 800 0 E0 U0 eo.2.1 eo.2.2.2, c, q1, q2]
    exact lp_fail _ _ _ _ _ _ _ i10
  · have lt : s < T := by omega
    have hc : ¬ q_X5_at Q (nI s) = -1 := by
      obtain ⟨b, b1, b2⟩ := t.1.2.2 s lt
      rw [t.1.in lt, b2]
      exact nI_m1 (by omega)
    rw [if_neg hc, T55_sk t h _ _ _ _ hs]
    exact trees_out t h T 0 (by omega) (by omega) 801 0 E0 U0 (Y 191) 0 0 (-1) (by omega) eo di (Or.inr ⟨s, hs, lt⟩)
theorem fF_o (Y : MI) {x : Nat} (h : x ≠ 188) : fF Y x = Y x := by
  unfold fF
  rw [up2_o _ _ _ h, up2_o _ _ _ h]
theorem fF_k (Y : MI) {k : Nat} (h6 : k ≠ 6) (h7 : k ≠ 7) : fF Y 188 k = Y 188 k := by
  unfold fF
  rw [up2_k _ _ _ h7, up2_k _ _ _ h6]
theorem trI_o (I : MI) {x : Nat} (h : x < 7 ∨ x = 8 ∨ 16 ≤ x) : trI I x = I x := by
  unfold trI
  rw [clr_o _ (by omega), pt_out (by omega), pt_out (by omega)]
theorem trI_7 (I : MI) : trI I 7 1 = 0 := clr_7 _
theorem trI_d (I : MI) : vw 6 (trI I) 10 = gU_X3_readTrees (vw 1 I 9) (vw 2 I 7) (vw 6 I 10) := by
  unfold trI
  rw [vw_fr (I := pt (pt I 9 (gE_X3_readTrees (vw 1 I 9) (vw 2 I 7) (vw 6 I 10))) 10 (gU_X3_readTrees (vw 1 I 9) (vw 2 I 7) (vw 6 I 10))) (fun x a b => clr_o _ (by omega)), vw_pt]
theorem sw_out {X : MI} {n2 n m g w : Nat} {x : Nat} (hn : x < n ∨ n + 6 ≤ x) (hm : x < m ∨ m + 12 ≤ x) (hg : x ≠ g) (hw : x < w ∨ w + 24 ≤ x) : h_X8_startWith X n2 n m g w x = X x := by
  have itr_out : ∀ (q k : Nat) (X : MI) {x : Nat}, (x < w ∨ w + 24 ≤ x) → k + q ≤ 4 → itr (fun k I => up2 I (w + 6 * k) 5 0) k q X x = X x := by
    intro q
    induction q with
    | zero => intro k X x _ _; rfl
    | succ q ih =>
      intro k X x hx hk
      show itr (fun k I => up2 I (w + 6 * k) 5 0) (k + 1) q (up2 X (w + 6 * k) 5 0) x = X x
      rw [ih (k + 1) _ hx (by omega), up2_o _ _ _ (by omega)]
  unfold h_X8_startWith
  rw [itr_out 4 0 _ hw (by decide)]
  funext y
  show (if x = g ∧ y < 6 then _ else _) = _
  rw [if_neg (fun z => hg z.1), pt_out hm, pt_out hn]
theorem P_trees {I : MI} {J : MJ} {T B0 : Nat} (h : St I J T B0) (h30 : T + 10001 ≤ 1000000000) : Pair I J T B0 (M_X9_trees [mR (some 0)]) (M_X10_trees [mR (some 188)]) := by
  obtain ⟨n, t1, t2, t3⟩ := h.2.1
  have n4 := t1.1
  have rl := h.1.2
  have uE := u_trees h.1.1 I
  have tq : trQ I = (o_X3_readTrees (vw 1 I 9) (vw 2 I 7) (vw 6 I 10)).1 := rfl
  by_cases z : trQ I = 0
  · rw [if_pos z] at uE
    have yo : ∀ x, (x < 7 ∨ x = 8 ∨ 16 ≤ x) → x ≠ 186 → rfz (trI I) 1 x = I x := fun x a b => by rw [rfz_o _ _ b, trI_o I a]
    have y7 : rfz (trI I) 1 7 1 = 0 := by rw [rfz_o _ _ (by decide)]; exact trI_7 I
    have y186 : ∀ j, rfz (trI I) 1 186 j = if j = 1 then I 186 1 + 1 else I 186 j := fun j => by
      unfold rfz
      rw [up2_r, trI_o I (by omega)]
    generalize rfz (trI I) 1 = Y at uE yo y7 y186
    have t : RTap (tsX Y n) (vw 2 I 7) n := ⟨t1, tsX_3 Y n, fun k hk => by
      rw [tsX_o _ _ (by decide), yo 189 (by omega) (by decide), t3 k hk]
      rfl⟩
    rcases trees_both rl (by rw [yo 188 (by omega) (by decide)]; exact t2) t (vw 1 I 9) (vw 6 I 10) with ⟨p, b, g, m, v, S, e, _⟩ | ⟨_, _, _, _, _, _, q, _⟩
    · refine ⟨-1, _, _, J, uE, e, ?_⟩
      have zo : ∀ x, x ≠ 188 → x ≠ 190 → x ≠ 191 → rfR (fF (vF (tsX Y n) p b g m v S)) 1 x = Y x := fun x a b c => by
        rw [rfR_o _ _ b, fF_o _ a, vF_o _ _ _ _ _ _ _ a c, tsX_o _ _ a]
      have zk : ∀ k, k ≠ 1 → k ≠ 2 → k ≠ 3 → k ≠ 4 → k ≠ 5 → k ≠ 6 → k ≠ 7 → k ≠ 10 → k ≠ 12 → rfR (fF (vF (tsX Y n) p b g m v S)) 1 188 k = I 188 k := fun k k1 k2 k3 k4 k5 k6 k7 k10 k12 => by
        rw [rfR_o _ _ (by decide), fF_k _ k6 k7, vF_k _ _ _ _ _ _ _ k2 k4 k5 k10 k12, tsX_k _ _ k1 k3, yo 188 (by omega) (by decide)]
      have z1 : rfR (fF (vF (tsX Y n) p b g m v S)) 1 188 1 = 0 := by
        rw [rfR_o _ _ (by decide), fF_k _ (by decide) (by decide), vF_k _ _ _ _ _ _ _ (by decide) (by decide) (by decide) (by decide) (by decide), tsX_1]
      have z190 : ∀ j, rfR (fF (vF (tsX Y n) p b g m v S)) 1 190 j = if j = 1 then I 190 1 + 1 else I 190 j := fun j => by
        unfold rfR
        rw [up2_r, fF_o _ (by decide), vF_o _ _ _ _ _ _ _ (by decide) (by decide), tsX_o _ _ (by decide), yo 190 (by omega) (by decide)]
      generalize rfR (fF (vF (tsX Y n) p b g m v S)) 1 = Z at zo zk z1 z190
      have o : ∀ x, (x < 7 ∨ x = 8 ∨ 16 ≤ x) → x ≠ 186 → x ≠ 188 → x ≠ 190 → x ≠ 191 → Z x = I x := fun x a b c d e => by rw [zo x c d e, yo x a b]
      obtain ⟨L, s7⟩ := h.2.2.2.2.2.2.2.1
      refine h.sm (S1.emp (by rw [zo 7 (by decide) (by decide) (by decide)]; exact y7) z1) trivial (h.2.2.2.1.ref (k := 1) (fun j => by rw [zo 186 (by decide) (by decide) (by decide)]; exact y186 j) z190 (by decide)) (h.2.2.2.2.1.fr (by rw [o 0 (by decide) (by decide) (by decide) (by decide) (by decide)]) (o _ (by decide) (by decide) (by decide) (by decide) (by decide)) (zk _ (by decide) (by decide) (by decide) (by decide) (by decide) (by decide) (by decide) (by decide) (by decide)) (o _ (by decide) (by decide) (by decide) (by decide) (by decide))) (h.2.2.2.2.2.1.fr (by rw [o 0 (by decide) (by decide) (by decide) (by decide) (by decide)]) (o _ (by decide) (by decide) (by decide) (by decide) (by decide)) (zk _ (by decide) (by decide) (by decide) (by decide) (by decide) (by decide) (by decide) (by decide) (by decide)) (o _ (by decide) (by decide) (by decide) (by decide) (by decide))) ⟨L, s7.fr (by rw [o 69 (by decide) (by decide) (by decide) (by decide) (by decide)]) (by rw [o 69 (by decide) (by decide) (by decide) (by decide) (by decide)]) (fun y _ _ => o y (by omega) (by omega) (by omega) (by omega) (by omega)) (zk _ (by decide) (by decide) (by decide) (by decide) (by decide) (by decide) (by decide) (by decide) (by decide)) (zk _ (by decide) (by decide) (by decide) (by decide) (by decide) (by decide) (by decide) (by decide) (by decide)) (o _ (by decide) (by decide) (by decide) (by decide) (by decide)) (o _ (by decide) (by decide) (by decide) (by decide) (by decide))⟩ (h.2.2.2.2.2.2.2.2.1.fr (zk _ (by decide) (by decide) (by decide) (by decide) (by decide) (by decide) (by decide) (by decide) (by decide)) (zk _ (by decide) (by decide) (by decide) (by decide) (by decide) (by decide) (by decide) (by decide) (by decide))) (fun y a _ _ _ _ _ => o y (by omega) (by omega) (by omega) (by omega) (by omega)) (o _ (by decide) (by decide) (by decide) (by decide) (by decide)) (fun _ => ⟨by rw [o 69 (by decide) (by decide) (by decide) (by decide) (by decide)], by rw [o 69 (by decide) (by decide) (by decide) (by decide) (by decide)]⟩) (fun y a => o y (by omega) (by omega) (by omega) (by omega) (by omega)) (fun k q => zk k (by omega) (by omega) (by omega) (by omega) (by omega) (by omega) (by omega) (by omega) (by omega)) (fun k _ => by rw [o 194 (by decide) (by decide) (by decide) (by decide) (by decide)]) (o _ (by decide) (by decide) (by decide) (by decide) (by decide)) (by omega) h30
    · rw [← tq, z] at q
      exact absurd q.symm i10
  · rw [if_neg z] at uE
    have yo : ∀ x, (x = 8 ∨ 55 ≤ x) → x ≠ 67 → x ≠ 69 → trW (trI I) x = I x := fun x a b c => by
      unfold trW
      rw [up2_o _ _ _ (by omega), up2_o _ _ _ c, up2_o _ _ _ c, up2_o _ _ _ b, sw_out (by omega) (by omega) (by omega) (by omega), trI_o I (by omega)]
    have y0 : ∀ k, k ≠ 14 → trW (trI I) 0 k = I 0 k := fun k a => by
      unfold trW
      rw [up2_k _ _ _ a, up2_o _ _ _ (by decide), up2_o _ _ _ (by decide), up2_o _ _ _ (by decide), sw_out (by omega) (by omega) (by omega) (by omega), trI_o I (by omega)]
    have y014 : trW (trI I) 0 14 = 0 := up2_s _ _ _ _
    have y7 : trW (trI I) 7 1 = 0 := by
      unfold trW
      rw [up2_o _ _ _ (by decide), up2_o _ _ _ (by decide), up2_o _ _ _ (by decide), up2_o _ _ _ (by decide), sw_out (by omega) (by omega) (by omega) (by omega)]
      exact trI_7 I
    have y67 : trW (trI I) 67 1 = I 67 1 ∧ trW (trI I) 67 2 = 0 := by
      unfold trW
      constructor
      · rw [up2_o _ _ _ (by decide), up2_o _ _ _ (by decide), up2_o _ _ _ (by decide), up2_k _ _ _ (by decide), sw_out (by omega) (by omega) (by omega) (by omega), trI_o I (by omega)]
      · rw [up2_o _ _ _ (by decide), up2_o _ _ _ (by decide), up2_o _ _ _ (by decide), up2_s]
    have y69 : trW (trI I) 69 1 = 0 ∧ trW (trI I) 69 2 = -1 := by
      unfold trW
      constructor
      · rw [up2_o _ _ _ (by decide), up2_k _ _ _ (by decide), up2_s]
      · rw [up2_o _ _ _ (by decide), up2_s]
    have yw : ∀ x, 1 ≤ x → x < 55 → trW (trI I) x = h_X8_startWith (trI I) 10 1 17 29 31 x := fun x a b => by
      unfold trW
      rw [up2_o _ _ _ (by omega), up2_o _ _ _ (by omega), up2_o _ _ _ (by omega), up2_o _ _ _ (by omega)]
    generalize trW (trI I) = Y at uE yo y0 y014 y7 y67 y69 yw
    have t : RTap (tsX Y n) (vw 2 I 7) n := ⟨t1, tsX_3 Y n, fun k hk => by
      rw [tsX_o _ _ (by decide), yo 189 (by omega) (by decide) (by decide), t3 k hk]
      rfl⟩
    rcases trees_both rl (by rw [yo 188 (by omega) (by decide) (by decide)]; exact t2) t (vw 1 I 9) (vw 6 I 10) with ⟨_, _, _, _, _, _, _, q⟩ | ⟨p, g, N, V, S, e, _, V1, hD⟩
    · rw [← tq] at q
      exact absurd q z
    · have s8 := h.2.2.2.2.2.2.2.2.1
      have N40 := hD.1.2.1
      have fk : ∀ k, k ≠ 1 → k ≠ 2 → k ≠ 3 → k ≠ 4 → k ≠ 5 → k ≠ 6 → k ≠ 7 → k ≠ 10 → k ≠ 12 → fF (vF (tsX Y n) p 0 g (nI N) (nI V) S) 188 k = I 188 k := fun k k1 k2 k3 k4 k5 k6 k7 k10 k12 => by
        rw [fF_k _ k6 k7, vF_k _ _ _ _ _ _ _ k2 k4 k5 k10 k12, tsX_k _ _ k1 k3, yo 188 (by omega) (by decide) (by decide)]
      have f1 : fF (vF (tsX Y n) p 0 g (nI N) (nI V) S) 188 1 = 0 := by
        rw [fF_k _ (by decide) (by decide), vF_k _ _ _ _ _ _ _ (by decide) (by decide) (by decide) (by decide) (by decide), tsX_1]
      have f10 : fF (vF (tsX Y n) p 0 g (nI N) (nI V) S) 188 10 = nI N := by rw [fF_k _ (by decide) (by decide), vF_10]
      have f12 : fF (vF (tsX Y n) p 0 g (nI N) (nI V) S) 188 12 = nI V := by rw [fF_k _ (by decide) (by decide), vF_12]
      have f191 : fF (vF (tsX Y n) p 0 g (nI N) (nI V) S) 191 = S := by rw [fF_o _ (by decide), vF_S]
      have fo : ∀ x, x ≠ 188 → x ≠ 191 → fF (vF (tsX Y n) p 0 g (nI N) (nI V) S) x = Y x := fun x a b => by rw [fF_o _ a, vF_o _ _ _ _ _ _ _ a b, tsX_o _ _ a]
      generalize fF (vF (tsX Y n) p 0 g (nI N) (nI V) S) = F at e fk f1 f10 f12 f191 fo
      obtain ⟨Z, w1, w2, w3, w4, w5, w6, w7, w8, w9, w10⟩ := w_stands rl F f10 N40 f12 (by rw [fk 21 (by decide) (by decide) (by decide) (by decide) (by decide) (by decide) (by decide) (by decide) (by decide)]; exact s8.2)
      rw [f191] at w2
      have eZ : Stnd (F, J) = some (some (mI (nI V)), (Z, J)) := by
        unfold Stnd
        rw [w1]
        simp only [Option.bind_some, asV_n, rl.fi, w5]
      have hD' : DI (vw 6 (trI I) 10) S N V := by
        rw [trI_d]
        exact hD
      have uv6 : Y 1 6 = nI V := by
        have uc := (UEq.copy (vw 6 (trI I) 10) (vw 6 (trI I) 1)).2.1
        rw [yw 1 (by decide) (by decide)]
        have : h_X8_startWith (trI I) 10 1 17 29 31 1 6 = gU_X2_copyFrom (vw 6 (trI I) 10) (vw 6 (trI I) 1) 0 6 := by
          rfl
        rw [this, uc]
        exact hD'.1.2.2.1
      rw [uv6] at uE
      refine ⟨nI V, _, Z, J, uE, e.trans eZ, ?_⟩
      have zo : ∀ x, x ≠ 188 → x ≠ 191 → x ≠ 194 → Z x = Y x := fun x a b c => by rw [w3 x a c, fo x a b]
      have o : ∀ x, (x = 8 ∨ 55 ≤ x) → x ≠ 67 → x ≠ 69 → x ≠ 188 → x ≠ 191 → x ≠ 194 → Z x = I x := fun x a b c d e f => by rw [zo x d e f, yo x a b c]
      have zk : ∀ k, k = 20 ∨ k = 21 ∨ k = 25 ∨ k = 29 ∨ k = 31 → Z 188 k = I 188 k := fun k hk => by rw [w4 k (by omega) (by omega) (by omega) (by omega) (by omega) (by omega), fk k (by omega) (by omega) (by omega) (by omega) (by omega) (by omega) (by omega) (by omega) (by omega)]
      have wd : Wd Z 1 17 29 31 (Z 194) V (T + 10001) := by
        refine (Wd.new (I := trI I) (n2 := 10) (n := 1) (m := 17) (g := 29) (w := 31) hD' V1 w2 (by decide) (by decide) (by decide) (show 1 ≤ T + 10001 by omega) h30).fr (fun x a b => ?_) (fun x a b => ?_) ?_ (fun x a b => ?_) (fun _ _ => rfl)
        · rw [zo x (by omega) (by omega) (by omega), yw x (by omega) (by omega)]
        · rw [zo x (by omega) (by omega) (by omega), yw x (by omega) (by omega)]
        · rw [zo 29 (by decide) (by decide) (by decide), yw 29 (by decide) (by decide)]
        · rw [zo x (by omega) (by omega) (by omega), yw x (by omega) (by omega)]
      have hh : ∃ ad q, (I 67 1 = nI q ∧ q < 20) ∧ I 188 29 = nI q ∧ KSl J ad ∧ Rm J ad B0 := by
        rcases h.2.2.2.2.2.2.2.2.2 with ⟨vol, ad, q, r, _, _, _, hs⟩ | ⟨_, _, _, _, ad, q, hs⟩
        · exact ⟨ad, q, ⟨hs.1.1, hs.1.2.1⟩, hs.2.1.2, hs.2.2.1, hs.2.2.2.1⟩
        · exact ⟨ad, q, ⟨hs.1.1, hs.1.2.1⟩, hs.2.1.2, hs.2.2.1, hs.2.2.2.1⟩
      obtain ⟨ad, q, ⟨g1, g2⟩, g3, g4, g5⟩ := hh
      refine ⟨h.1, S1.emp (by rw [zo 7 (by decide) (by decide) (by decide)]; exact y7) (by rw [w4 1 (by decide) (by decide) (by decide) (by decide) (by decide) (by decide)]; exact f1), trivial, h.2.2.2.1.fr (o _ (by decide) (by decide) (by decide) (by decide) (by decide) (by decide)) (o _ (by decide) (by decide) (by decide) (by decide) (by decide) (by decide)), h.2.2.2.2.1.fr (by rw [zo 0 (by decide) (by decide) (by decide), y0 11 (by decide)]) (o _ (by decide) (by decide) (by decide) (by decide) (by decide) (by decide)) (zk _ (by decide)) (o _ (by decide) (by decide) (by decide) (by decide) (by decide) (by decide)), ⟨by rw [zo 0 (by decide) (by decide) (by decide), y014, w8], fun w => absurd (by rw [zo 0 (by decide) (by decide) (by decide), y014]; rfl) w⟩, h.2.2.2.2.2.2.1, ⟨0, by rw [zo 69 (by decide) (by decide) (by decide)]; exact y69.1, by decide, w9, by rw [zo 69 (by decide) (by decide) (by decide), y69.2, w10], fun p hp => by omega⟩, s8.fr (zk _ (by decide)) (zk _ (by decide)), Or.inl ⟨V, ad, q, 0, w5, by rw [w6]; decide, wd, ⟨⟨by rw [zo 67 (by decide) (by decide) (by decide), y67.1]; exact g1, g2, by rw [zo 67 (by decide) (by decide) (by decide)]; exact y67.2, by decide⟩, ⟨w7, by rw [zk 29 (by decide)]; exact g3⟩, g4, g5, fun j hj => by omega⟩⟩⟩
