/-! A walk that begins anew, on both sides. -/
theorem w_sweeps {J : MJ} (h : RefL J) (I : MI) (D G : RowV) (c : Int32) (h1 : CHd D) (h2 : CHw D) (h3 : CEd D) (hb : I 188 20 = -1) : ∃ G', M_X10_sweeps [mR (some 188)] (rF I D G c, J) = some (none, (rF I (itr (swD G') 0 128 D) G' c, J)) ∧ ∀ e, e < 128 → G' e = nI (eF D e + hF D e) := by
  obtain ⟨G', g1, g2⟩ := w_counts h I D G c h1 h2 h3 (Or.inl hb)
  refine ⟨G', ?_, fun e he => ?_⟩
  · rw [E_X10_sweeps]
    simp only [h.kt, if_true, g1, Option.bind_some, asV_n]
    have s1 := loop_all (fun k D => Ev T_X10_sweeps 6 [some (mR (some 188)), some (mI (nI k))] [] (rF I D G' c, J)) (swD G') 128 D (fun k D hk => by
      try dsimp only
      rw [E_X10_sweeps_6, if_neg (show ¬ (128 : Int32) ≤ nI k from nI_ge hk (by decide))]
      simp only [h.kt, if_true, w_its h _ 0 (show (0 : Int32) = nI 0 from rfl) hk (by decide), w_its h _ 8 (show (8 : Int32) = nI 8 from rfl) hk (by decide), Option.bind_some, asI_I, rF_D, rF_G, nI_1, h.f19, h.f18, h.ldG _ rfl hk, w_entryAt _ k 0 (show (0 : Int32) = nI 0 from rfl), h.stD _ _ rfl (show 701 + 9 * k + 0 < 1853 by omega), rF_sD]
      unfold swD
      by_cases a : D (701 + 9 * k + 0) = 1
      · rw [if_pos a]
        by_cases b : D (701 + 9 * k + 8) = 1
        · rw [if_pos b]
          by_cases d : G' k = 0
          · rw [if_pos d, if_pos ⟨a, b, d⟩]
          · rw [if_neg d, if_neg (fun z => d z.2.2)]
        · rw [if_neg b, if_neg (fun z => b z.2.1)]
      · rw [if_neg a, if_neg (fun z => a z.1)])
    try dsimp only at s1
    rw [show (nI 0) = 0 from rfl] at s1
    rw [s1, E_X10_sweeps_6, if_pos (show (128 : Int32) ≤ nI 128 by decide)]
  · rw [g2 e he, hb, if_neg (fun z => nI_m1 (show e < 2 ^ 31 by omega) z.symm), Nat.add_zero]
theorem Rel.sweeps2 {U : NodV} {V V' : MemV} {H : OneV} {W : WkV} {D D2 : RowV} {n vol t T k : Nat} {x : Nat → Nat} (r : Rel none U V H W D n) (i : Inv U V H W n vol t T x) (k4 : k < 4) {J : MJ} (h : RefL J) (I : MI) (hb : I 188 20 = -1) (G : RowV) (c : Int32) (kk : ∀ q : Fin 12, q ≠ 0 → q ≠ 1 → q ≠ 5 → q ≠ 11 → V' q = V q) (k0 : V' 0 11 = V 0 11 ∧ V' 0 12 = V 0 12 ∧ V' 0 13 = V 0 13 ∧ V' 0 14 = V 0 14) (k1 : ∀ f, f < 64 → V' 1 f = if V 1 f = 2 ∧ hc V H W f = 0 then 0 else V 1 f) (w0 : bz ((W k).1 0 5) = 0) (hD : ∀ j, j < 17 + 96 * k ∨ 17 + 96 * k + 96 ≤ j → D2 j = D j) (h2 : D2 (17 + 96 * k + 0) = 0 ∨ D2 (17 + 96 * k + 1) = 0) : ∃ D' D2' G', M_X10_sweeps [mR (some 188)] (rF I D2 G c, J) = some (none, (rF I D2' G' c, J)) ∧ Rel none U V' H W D' n ∧ (∀ j, j < 17 + 96 * k ∨ 17 + 96 * k + 96 ≤ j → D2' j = D' j) ∧ ∀ j, 17 + 96 * k ≤ j → j < 17 + 96 * k + 96 → D2' j = D2 j := by
  obtain ⟨D', G1, s1, r1⟩ := r.sweeps i h I hb G c kk k0 k1
  obtain ⟨c1, c2, c3⟩ := r.ch i
  obtain ⟨Ga, a1, a2⟩ := w_sweeps h I D G c c1 c2 c3 hb
  have eD : itr (swD Ga) 0 128 D = D' := by
    have e0 := a1.symm.trans s1
    have e1 : rF I (itr (swD Ga) 0 128 D) Ga c = rF I D' G1 c := by
      injection e0 with e0
      injection e0 with _ e0
      injection e0
    have := congrFun e1 194
    rw [rF_D, rF_D] at this
    exact this
  have d1 : CHd D2 := fun j hj => by rw [hD (11 + j) (by omega)]; exact c1 j hj
  have d2 : CHw D2 := fun w hw q0 q1 => by
    by_cases z : w = k
    · subst z
      exact absurd h2 (fun y => y.elim q0 q1)
    · rw [hD (17 + 96 * w + 0) (by omega)] at q0
      rw [hD (17 + 96 * w + 1) (by omega)] at q1
      obtain ⟨m, m1, m2, m3⟩ := c2 w hw q0 q1
      exact ⟨m, m1, by rw [hD (17 + 96 * w + 5) (by omega)]; exact m2, fun j hj => by rw [hD (17 + 96 * w + (18 + 3 * j)) (by omega)]; exact m3 j hj⟩
  have d3 : CEd D2 := fun j hj q => by
    rw [hD _ (by omega)] at q
    rw [hD _ (by omega)]
    exact c3 j hj q
  obtain ⟨Gb, g1, g2⟩ := w_sweeps h I D2 G c d1 d2 d3 hb
  have gg : ∀ e, e < 128 → Gb e = Ga e := fun e he => by
    rw [a2 e he, g2 e he]
    have ee : eF D2 e = eF D e := by
      unfold eF
      have c0 : cnt (fun j => decide (¬ D2 (701 + 9 * j + 0) = 0 ∧ D2 (701 + 9 * j + 1) = nI e)) 0 128 = cnt (fun j => decide (¬ D (701 + 9 * j + 0) = 0 ∧ D (701 + 9 * j + 1) = nI e)) 0 128 := cnt_cong (fun j _ hj => by rw [hD _ (by omega), hD _ (by omega)])
      rw [c0, hD _ (by omega), hD _ (by omega)]
    have hh : hF D2 e = hF D e := by
      unfold hF
      have c0 : cnt (fun j => decide (D2 (11 + j) = nI e)) 0 6 = cnt (fun j => decide (D (11 + j) = nI e)) 0 6 := cnt_cong (fun j _ hj => by rw [hD (11 + j) (by omega)])
      have s0 : sm (fun w => wF D2 w e) 0 4 = sm (fun w => wF D w e) 0 4 := sm_cong (fun w _ hw => by
        show wF D2 w e = wF D w e
        unfold wF
        by_cases z : w = k
        · subst z
          rw [if_pos h2, if_pos (Or.inl (by rw [(r.K w k4).ws]; exact w0))]
        · rw [hD (17 + 96 * w + 0) (by omega), hD (17 + 96 * w + 1) (by omega), hD (17 + 96 * w + 5) (by omega)]
          by_cases y : D (17 + 96 * w + 0) = 0 ∨ D (17 + 96 * w + 1) = 0
          · rw [if_pos y, if_pos y]
          · rw [if_neg y, if_neg y]
            obtain ⟨m, m1, m2, _⟩ := c2 w (by omega) (fun q => y (Or.inl q)) (fun q => y (Or.inr q))
            rw [m2, ix_nI (by omega)]
            exact cnt_cong (fun j _ hj => by rw [hD (17 + 96 * w + (18 + 3 * j)) (by omega)]))
      rw [c0, s0]
    rw [ee, hh]
  refine ⟨D', _, Gb, g1, r1, fun j hj => ?_, fun j p q => itr_sw Gb 128 0 D2 j (fun e _ b => by omega)⟩
  rw [← eD]
  by_cases z : ∃ e, e < 128 ∧ j = 701 + 9 * e + 0
  · obtain ⟨e, e1, e2⟩ := z
    subst e2
    rw [itr_sw_at Gb 128 0 D2 e (Nat.zero_le _) (by omega), itr_sw_at Ga 128 0 D e (Nat.zero_le _) (by omega), gg e e1, hD _ (by omega), hD _ (by omega)]
  · rw [itr_sw Gb 128 0 D2 j (fun e _ b y => z ⟨e, by omega, y⟩), itr_sw Ga 128 0 D j (fun e _ b y => z ⟨e, by omega, y⟩), hD j hj]
theorem Rel.set1 {U : NodV} {V : MemV} {H : OneV} {W W' : WkV} {D : RowV} {n k : Nat} (r : Rel (some k) U V H W D n) {K K' : OneV} {P : RouV} {B : TriV} (wk : W k = (K, P, B)) {v : Int32} (w1 : ∀ j, j ≠ k → W' j = W j) (wk' : W' k = (K', P, B)) (kj : ∀ j, j ≠ 6 → K' 0 j = K 0 j) (k6 : bz (K' 0 6) = v) : Rel (some k) U V H W' (sD D (17 + 96 * k + 1) v) n := by
  obtain ⟨k4, m, tl, t1, t2, t3, t4, t5, t6, t7⟩ := r.T k rfl
  obtain ⟨c1, c2, c3, c4⟩ := r.K k k4
  rw [wk] at c1 c2 c3 c4 t1 t2
  have o : ∀ j, j ≠ 17 + 96 * k + 1 → sD D (17 + 96 * k + 1) v j = D j := fun j q => sD_n _ _ q
  have k5 : bz (K' 0 5) = bz (K 0 5) := by rw [kj 5 (by decide)]
  refine r.wch k4 (Or.inr rfl) (r.B.dd (fun j q => o j (by omega)) (fun _ _ _ _ => rfl) ⟨rfl, rfl, rfl, rfl⟩) (fun j _ _ q => o j (by omega)) w1 ?_ ⟨m, tl, ?_, ?_, t3, t4, t5, ?_, fun j hj => ?_⟩
  · rw [wk']
    refine ⟨?_, fun q => ?_, fun q j hj h2 => ?_, fun q j hj h2 => ?_⟩
    · show sD D (17 + 96 * k + 1) v (17 + 96 * k + 0) = bz (K' 0 5)
      rw [o _ (by omega), k5]; exact c1
    · have q : ¬ bz (K' 0 5) = 0 := q
      rw [k5] at q
      obtain ⟨a1, a2, a3, a4⟩ := c2 q
      show sD D (17 + 96 * k + 1) v (17 + 96 * k + 1) = bz (K' 0 6) ∧ sD D (17 + 96 * k + 1) v (17 + 96 * k + 2) = K' 0 7 ∧ sD D (17 + 96 * k + 1) v (17 + 96 * k + 3) = K' 0 8 ∧ sD D (17 + 96 * k + 1) v (17 + 96 * k + 4) = P 0 1
      rw [sD_s, k6, o _ (by omega), o _ (by omega), o _ (by omega), kj 7 (by decide), kj 8 (by decide)]
      exact ⟨rfl, a2, a3, a4⟩
    · have q : ¬ bz (K' 0 5) = 0 := q
      rw [k5] at q
      rw [o _ (by omega)]
      exact c3 q j hj h2
    · have q : ¬ bz (K' 0 5) = 0 := q
      rw [k5] at q
      have h2 : j < ix (K' 0 4) := h2
      rw [kj 4 (by decide)] at h2
      rw [o _ (by omega), o _ (by omega), o _ (by omega)]
      exact c4 q j hj h2
  · rw [wk']
    show ¬ bz (K' 0 5) = 0
    rw [k5]; exact t1
  · rw [wk']
    exact (kj 4 (by decide)).trans t2
  · rw [o _ (by omega)]; exact t6
  · rw [o _ (by omega), o _ (by omega), o _ (by omega)]; exact t7 j hj
theorem Rel.restart {U : NodV} {V : MemV} {H : OneV} {W : WkV} {D : RowV} {n vol t T k : Nat} (r : Rel none U V H W D n) (i : Inv U V H W n vol t T (fun _ => 0)) (C : CntI V) {J : MJ} (h : RefL J) (I : MI) (hb : I 188 20 = -1) (hw21 : I 188 21 = -1) (G : RowV) (c : Int32) (k4 : k < 4) {K : OneV} {P : RouV} {B : TriV} {m d l rr : Nat} (wk : W k = (K, P, B)) (uw : ¬ bz (K 0 5) = 0) (wi : WkI V t T (K, P, B) m d l rr) (r2 : rr ≤ 2) (tT : t + 1 ≤ T) : ∃ D' G' c' ro, M_X10_restarts [mR (some 188), mI (nI k)] (rF I D G c, J) = some (none, (rF I D' G' c', J)) ∧ Rel (some k) U (tz (gV_X7_goToRoot (uv (uv K 0 7 (K 0 7 + 1)) 0 6 1) B (gV_X7_letGo K B V))) H (wkS W k (gK_X7_goToRoot (uv (uv K 0 7 (K 0 7 + 1)) 0 6 1) B (gV_X7_letGo K B V), P, gB_X7_goToRoot (uv (uv K 0 7 (K 0 7 + 1)) 0 6 1) B (gV_X7_letGo K B V))) D' n ∧ Inv U (gV_X7_goToRoot (uv (uv K 0 7 (K 0 7 + 1)) 0 6 1) B (gV_X7_letGo K B V)) H (wkS W k (gK_X7_goToRoot (uv (uv K 0 7 (K 0 7 + 1)) 0 6 1) B (gV_X7_letGo K B V), P, gB_X7_goToRoot (uv (uv K 0 7 (K 0 7 + 1)) 0 6 1) B (gV_X7_letGo K B V))) n vol (t + 1) T (fun _ => 0) ∧ CntI (gV_X7_goToRoot (uv (uv K 0 7 (K 0 7 + 1)) 0 6 1) B (gV_X7_letGo K B V)) ∧ WkI (gV_X7_goToRoot (uv (uv K 0 7 (K 0 7 + 1)) 0 6 1) B (gV_X7_letGo K B V)) (t + 1) T (gK_X7_goToRoot (uv (uv K 0 7 (K 0 7 + 1)) 0 6 1) B (gV_X7_letGo K B V), P, gB_X7_goToRoot (uv (uv K 0 7 (K 0 7 + 1)) 0 6 1) B (gV_X7_letGo K B V)) 1 0 l (rr + 1) ∧ gB_X7_goToRoot (uv (uv K 0 7 (K 0 7 + 1)) 0 6 1) B (gV_X7_letGo K B V) 0 0 = nI ro ∧ At (gV_X7_goToRoot (uv (uv K 0 7 (K 0 7 + 1)) 0 6 1) B (gV_X7_letGo K B V)) ro ∧ gK_X7_goToRoot (uv (uv K 0 7 (K 0 7 + 1)) 0 6 1) B (gV_X7_letGo K B V) 0 5 = K 0 5 := by
  have n60 := i.N.n60
  have e7 : K 0 7 = nI rr := wi.r
  have el : P 0 1 = nI l := wi.l
  have l12 := wi.l12
  have w1 : ∀ (x : OneV × RouV × TriV) j, j ≠ k → wkS W k x j = W j := fun x j q => wkS_n W x q
  have w0 : bz ((wkS W k (uv K 0 5 0, P, B) k).1 0 5) = 0 := by
    rw [wkS_s]
    show bz (uv K 0 5 0 0 5) = 0
    rw [uv_s]
    rfl
  have rf := r.wsub n60 k4 (w1 (uv K 0 5 0, P, B)) w0
  have i1 := i.wsub k4 (w1 (uv K 0 5 0, P, B)) w0
  obtain ⟨i2, v1, kV⟩ := i.stop k4 (by rw [wk]; exact uw) (w1 (uv K 0 5 0, P, B)) w0
  have rk := r.K k k4
  rw [wk] at rk i2 v1 kV
  obtain ⟨c1, c2, c3, c4⟩ := rk
  obtain ⟨u1, u2, u3, u4⟩ := c2 uw
  have i2 : Inv U (gV_X7_letGo K B V) H (wkS W k (uv K 0 5 0, P, B)) n vol t T (fun _ => 0) := i2
  have v1 : ∀ f, f < 64 → gV_X7_letGo K B V 1 f = if V 1 f = 2 ∧ hc V H (wkS W k (uv K 0 5 0, P, B)) f = 0 then 0 else V 1 f := v1
  have kV : ∀ q : Fin 12, q ≠ 1 → q ≠ 5 → gV_X7_letGo K B V q = V q := kV
  unfold gV_X7_goToRoot gK_X7_goToRoot gB_X7_goToRoot
  have C1 : CntI (gV_X7_letGo K B V) := C.sub (fun f hf q => by
    rw [v1 f hf] at q
    by_cases z : V 1 f = 2 ∧ hc V H (wkS W k (uv K 0 5 0, P, B)) f = 0
    · rw [if_pos z] at q; exact absurd rfl q
    · rw [if_neg z] at q; exact q) (kV 9 (by decide) (by decide))
  generalize gV_X7_letGo K B V = V1 at i2 v1 kV C1 ⊢
  have e71 : K 0 7 + 1 = nI (rr + 1) := by rw [e7, nI_1]
  rw [e71]
  -- the row: light, its way forgotten
  have oa : ∀ j, j ≠ 17 + 96 * k + 1 → j ≠ 17 + 96 * k + 5 → sD (sD D (17 + 96 * k + 1) 0) (17 + 96 * k + 5) 0 j = D j := fun j a b => by rw [sD_n _ _ b, sD_n _ _ a]
  have oa1 : sD (sD D (17 + 96 * k + 1) 0) (17 + 96 * k + 5) 0 (17 + 96 * k + 1) = 0 := by rw [sD_n _ _ (by omega), sD_s]
  obtain ⟨D', D2, G', s1, r3, od, id⟩ := rf.sweeps2 i1 k4 h I hb G c (V' := V1) (D2 := sD (sD D (17 + 96 * k + 1) 0) (17 + 96 * k + 5) 0) (fun q _ p1 p5 _ => kV q p1 p5) ⟨by rw [kV 0 (by decide) (by decide)], by rw [kV 0 (by decide) (by decide)], by rw [kV 0 (by decide) (by decide)], by rw [kV 0 (by decide) (by decide)]⟩ v1 w0 (fun j hj => by rw [oa j (by omega) (by omega), sD_n _ _ (by omega)]) (Or.inr oa1)
  have d22 : D2 (17 + 96 * k + 2) = nI rr := by rw [id _ (by omega) (by omega), oa _ (by omega) (by omega), u2]; exact e7
  -- it begins anew
  generalize hK2 : uv (uv (uv (uv K 0 7 (nI (rr + 1))) 0 6 1) 0 4 0) 0 8 0 = K2
  have k24 : K2 0 4 = nI 0 := by rw [← hK2]; rfl
  have k28 : K2 0 8 = nI 0 := by rw [← hK2]; rfl
  have k27 : K2 0 7 = nI (rr + 1) := by rw [← hK2]; rfl
  have k25 : K2 0 5 = K 0 5 := by rw [← hK2]; rfl
  have k26 : K2 0 6 = 1 := by rw [← hK2]; rfl
  have k3j : ∀ j, j ≠ 6 → uv K2 0 6 0 0 j = K2 0 j := fun j q => uv_n _ _ _ _ _ _ (fun w => q w.2)
  have k36 : uv K2 0 6 0 0 6 = 0 := uv_s _ _ _ _
  have uw2 : ¬ bz (K2 0 5) = 0 := by rw [k25]; exact uw
  have oc : ∀ j, j ≠ 17 + 96 * k + 2 → j ≠ 17 + 96 * k + 5 → j ≠ 17 + 96 * k + 3 → sD (sD (sD D2 (17 + 96 * k + 2) (nI (rr + 1))) (17 + 96 * k + 5) 0) (17 + 96 * k + 3) 0 j = D2 j := fun j a b d => by rw [sD_n _ _ d, sD_n _ _ b, sD_n _ _ a]
  have ocd : ∀ j, j < 17 + 96 * k ∨ 17 + 96 * k + 96 ≤ j → sD (sD (sD D2 (17 + 96 * k + 2) (nI (rr + 1))) (17 + 96 * k + 5) 0) (17 + 96 * k + 3) 0 j = D' j := fun j q => by rw [oc j (by omega) (by omega) (by omega), od j q]
  have oci : ∀ f, f < 96 → f ≠ 1 → f ≠ 5 → f ≠ 2 → f ≠ 3 → sD (sD (sD D2 (17 + 96 * k + 2) (nI (rr + 1))) (17 + 96 * k + 5) 0) (17 + 96 * k + 3) 0 (17 + 96 * k + f) = D (17 + 96 * k + f) := fun f hf a b d e => by rw [oc _ (by omega) (by omega) (by omega), id _ (by omega) (by omega), oa _ (by omega) (by omega)]
  have r4 : Rel (some k) U (tz V1) H (wkS W k (uv K2 0 6 0, P, B)) (sD (sD (sD D2 (17 + 96 * k + 2) (nI (rr + 1))) (17 + 96 * k + 5) 0) (17 + 96 * k + 3) 0) n := by
    refine r3.wch k4 (Or.inl rfl) (r3.tzi.B.dd (fun j q => ocd j (by omega)) (fun _ _ _ _ => rfl) ⟨rfl, rfl, rfl, rfl⟩) (fun j _ _ q => ocd j q) (fun j q => by rw [w1 _ j q, w1 _ j q]) ?_ ⟨0, 0, ?_, ?_, tz_16 _, by omega, by omega, ?_, fun j hj => by omega⟩
    · rw [wkS_s]
      refine ⟨?_, fun _ => ⟨?_, ?_, ?_, ?_⟩, fun _ j hj h2 => ?_, fun _ j hj h2 => ?_⟩
      · show _ = bz (uv K2 0 6 0 0 5)
        rw [oci 0 (by omega) (by omega) (by omega) (by omega) (by omega), k3j 5 (by decide), k25]; exact c1
      · show _ = bz (uv K2 0 6 0 0 6)
        rw [oc _ (by omega) (by omega) (by omega), id _ (by omega) (by omega), oa1, k36]; rfl
      · show _ = uv K2 0 6 0 0 7
        rw [sD_n _ _ (by omega), sD_n _ _ (by omega), sD_s, k3j 7 (by decide), k27]
      · show _ = uv K2 0 6 0 0 8
        rw [sD_s, k3j 8 (by decide), k28]; rfl
      · show _ = P 0 1
        rw [oci 4 (by omega) (by omega) (by omega) (by omega) (by omega)]; exact u4
      · rw [oci (6 + j) (by omega) (by omega) (by omega) (by omega) (by omega)]
        exact c3 uw j hj h2
      · have h2 : j < ix (uv K2 0 6 0 0 4) := h2
        rw [k3j 4 (by decide), k24, show ix (nI 0) = 0 from rfl] at h2
        omega
    · rw [wkS_s]
      show ¬ bz (uv K2 0 6 0 0 5) = 0
      rw [k3j 5 (by decide)]; exact uw2
    · rw [wkS_s]; exact (k3j 4 (by decide)).trans k24
    · rw [sD_n _ _ (by omega), sD_s]; rfl
  obtain ⟨ro, hr, ra⟩ := i2.M.root0 i2.N
  obtain ⟨D5, bw, r5⟩ := r4.begW n60 h I hw21 G' c (by rw [wkS_s]; exact (k3j 4 (by decide)).trans k24) hr ra
  obtain ⟨i3, c16, c11, ca, cr1, cr9⟩ := i2.ctr hr ra tT
  have r6 := r5.set1 (W' := wkS W k (K2, P, B)) (wkS_s _ _ _) (fun j q => by rw [w1 _ j q, w1 _ j q]) (wkS_s _ _ _) (fun j q => (k3j j q).symm) (show bz (K2 0 6) = 1 by rw [k26]; rfl)
  have o := tkt_all (m := 0) (tl := 1) (K := K2) (B := B) (by omega) (by omega) k24 c16 (fun j hj => by
    have : j = 0 := by omega
    subst this
    exact ⟨ro, c11, ca⟩)
  generalize gK_X7_takeTrail K2 B (gV_X1_comeToRoot V1) = K' at o ⊢
  generalize gB_X7_takeTrail K2 B (gV_X1_comeToRoot V1) = B' at o ⊢
  generalize gV_X7_takeTrail K2 B (gV_X1_comeToRoot V1) = V' at o ⊢
  have kv : ∀ r : Fin 12, r ≠ 5 → V' r = gV_X1_comeToRoot V1 r := o.2.2.2.2.1
  obtain ⟨i4, wi4, b0⟩ := i3.wnew (W' := wkS W k (K', P, B')) k4 w0 (fun j q => by rw [w1 _ j q, w1 _ j q]) (wkS_s _ _ _) l12 (by omega : rr + 1 ≤ 3) k24 k28 el k27 uw2 c11 ca o
  rw [wkS_s] at wi4
  refine ⟨sD D5 (17 + 96 * k + 1) 1, G', nI ro, ro, ?_, r6.tk (wkS_s _ _ _) (fun j q => by rw [w1 _ j q, w1 _ j q]) (wkS_s _ _ _) k24 c16 (by omega) (by omega) o, i4, C1.fr ((kv 1 (by decide)).trans cr1) ((kv 9 (by decide)).trans cr9), wi4, b0, ⟨ca.1, by rw [kv 1 (by decide)]; exact ca.2.1, by rw [kv 4 (by decide)]; exact ca.2.2⟩, (o.2.1 5 (by decide)).trans k25⟩
  rw [E_X10_restarts]
  simp only [h.f18, Option.bind_some, w_walkerAt _ k 1 (show (1 : Int32) = nI 1 from rfl), w_walkerAt _ k 5 (show (5 : Int32) = nI 5 from rfl), w_walkerAt _ k 2 (show (2 : Int32) = nI 2 from rfl), asI_I, h.stD _ _ (show nI (17 + 96 * k + 1) = nI (17 + 96 * k + 1) from rfl) (show 17 + 96 * k + 1 < 1853 by omega), h.stD _ _ (show nI (17 + 96 * k + 5) = nI (17 + 96 * k + 5) from rfl) (show 17 + 96 * k + 5 < 1853 by omega), h.stD _ _ (show nI (17 + 96 * k + 2) = nI (17 + 96 * k + 2) from rfl) (show 17 + 96 * k + 2 < 1853 by omega), h.ldD _ (show nI (17 + 96 * k + 2) = nI (17 + 96 * k + 2) from rfl) (show 17 + 96 * k + 2 < 1853 by omega), rF_sD, rF_D, h.kt, if_true, s1, asV_n, d22, nI_1, bw]
