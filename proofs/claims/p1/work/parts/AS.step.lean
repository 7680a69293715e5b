/-! A walker's step: how it ends; the pair. -/
def ovI (I : MI) (r0 r1 r2 r3 : Int32) : MI := up2 (up2 (up2 (up2 (up2 I 188 32 1) 201 0 r0) 201 1 r1) 201 2 r2) 201 3 r3
theorem ovI_o (I : MI) (r0 r1 r2 r3 : Int32) {x : Nat} (h1 : x ≠ 188) (h2 : x ≠ 201) : ovI I r0 r1 r2 r3 x = I x := by
  unfold ovI
  rw [up2_o _ _ _ h2, up2_o _ _ _ h2, up2_o _ _ _ h2, up2_o _ _ _ h2, up2_o _ _ _ h1]
theorem ovI_k (I : MI) (r0 r1 r2 r3 : Int32) {k : Nat} (h : k ≠ 32) : ovI I r0 r1 r2 r3 188 k = I 188 k := by
  unfold ovI
  rw [up2_o _ _ _ (by decide), up2_o _ _ _ (by decide), up2_o _ _ _ (by decide), up2_o _ _ _ (by decide), up2_k _ _ _ h]
theorem ovI_32 (I : MI) (r0 r1 r2 r3 : Int32) : ovI I r0 r1 r2 r3 188 32 = 1 := by
  unfold ovI
  rw [up2_o _ _ _ (by decide), up2_o _ _ _ (by decide), up2_o _ _ _ (by decide), up2_o _ _ _ (by decide), up2_s]
theorem ovI_r (I : MI) (r0 r1 r2 r3 : Int32) : ovI I r0 r1 r2 r3 201 0 = r0 ∧ ovI I r0 r1 r2 r3 201 1 = r1 ∧ ovI I r0 r1 r2 r3 201 2 = r2 ∧ ovI I r0 r1 r2 r3 201 3 = r3 := by
  unfold ovI
  refine ⟨?_, ?_, ?_, up2_s _ _ _ _⟩
  · rw [up2_k _ _ _ (by decide), up2_k _ _ _ (by decide), up2_k _ _ _ (by decide), up2_s]
  · rw [up2_k _ _ _ (by decide), up2_k _ _ _ (by decide), up2_s]
  · rw [up2_k _ _ _ (by decide), up2_s]
theorem w_isOver {J : MJ} (h : RefL J) (I : MI) (D G : RowV) (c : Int32) {k mm : Nat} (k4 : k < 4) (m1 : 1 ≤ mm) (m25 : mm ≤ 25) (d5 : D (17 + 96 * k + 5) = nI mm) {how r0 r1 : Int32} (hr : (how = 0 ∧ ∃ a, a < 128 ∧ D (17 + 96 * k + (18 + 3 * (mm - 1))) = nI a ∧ D (701 + 9 * a + 3) = r0 ∧ r1 = nI a) ∨ (¬ how = 0 ∧ r0 = how ∧ r1 = -1)) {D' G' : RowV} (sw : M_X10_sweeps [mR (some 188)] (rF (ovI I r0 r1 (D (17 + 96 * k + 2)) (D (17 + 96 * k + 1))) (sD D (17 + 96 * k + 0) 0) G c, J) = some (none, (rF (ovI I r0 r1 (D (17 + 96 * k + 2)) (D (17 + 96 * k + 1))) D' G' c, J))) : M_X10_isOver [mR (some 188), mI (nI k), mI how] (rF I D G c, J) = some (some (mI (if how = 0 then 1 else how)), (rF (ovI I r0 r1 (D (17 + 96 * k + 2)) (D (17 + 96 * k + 1))) D' G' c, J)) := by
  have nh : ∀ f, f < 96 → ∀ (z : Int32) (X : MI), z = nI f → M_X10_walkerHas [mR (some 188), mI (nI k), mI z] (X, J) = some (some (mI (X 194 (17 + 96 * k + f))), (X, J)) := fun f hf z X hz => w_walkerHas h X f hz k4 hf
  have wz : ∀ X : MI, wZ (X, J) 10 188 32 1 = some (up2 X 188 32 1, J) := fun X => wZ_ok 32 1 h.k (Or.inr rfl)
  have r32 : ∀ (I : MI) (D G : RowV) (c v : Int32), up2 (rF I D G c) 188 32 v = rF (up2 I 188 32 v) D G c := fun I D G c v => rF_so I D G c v (by decide) (by decide) (by decide)
  have s01 : ∀ (I : MI) (D G : RowV) (c v : Int32) (j : Nat), up2 (rF I D G c) 201 j v = rF (up2 I 201 j v) D G c := fun I D G c v j => rF_so I D G c v (by decide) (by decide) (by omega)
  have st0 : ∀ (X : MI) (v : Int32), st (X, J) 11 201 0 v = some (up2 X 201 0 v, J) := fun X v => st_ok 0 v h.s33 (by decide)
  have st1 : ∀ (X : MI) (v : Int32), st (X, J) 11 201 1 v = some (up2 X 201 1 v, J) := fun X v => st_ok 1 v h.s33 (by decide)
  have st2 : ∀ (X : MI) (v : Int32), st (X, J) 11 201 2 v = some (up2 X 201 2 v, J) := fun X v => st_ok 2 v h.s33 (by decide)
  have st3 : ∀ (X : MI) (v : Int32), st (X, J) 11 201 3 v = some (up2 X 201 3 v, J) := fun X v => st_ok 3 v h.s33 (by decide)
  have f33 : ∀ X : MI, fR (X, J) 10 188 33 = some (some 201) := fun X => by rw [fR_ok 33 h.k, h.r33]
  have e0 : rF (up2 (up2 (up2 (up2 (up2 I 188 32 1) 201 0 r0) 201 1 r1) 201 2 (D (17 + 96 * k + 2))) 201 3 (D (17 + 96 * k + 1))) (sD D (17 + 96 * k + 0) 0) G c = rF (ovI I r0 r1 (D (17 + 96 * k + 2)) (D (17 + 96 * k + 1))) (sD D (17 + 96 * k + 0) 0) G c := rfl
  rw [E_X10_isOver]
  rcases hr with ⟨h0, a, a1, a2, a3, a4⟩ | ⟨h0, a1, a2⟩
  · subst h0 a4
    simp only [h.kt, if_true, nh 5 (by decide) 5 _ rfl, nh (18 + 3 * (mm - 1)) (by omega) _ _ (m1_18 m1), Option.bind_some, asI_I, rF_D, d5, a2, wz, r32, f33, w_its h _ 3 (show (3 : Int32) = nI 3 from rfl) a1 (by decide), a3, st0, st1, st2, st3, s01, nh 2 (by decide) 2 _ rfl, nh 1 (by decide) 1 _ rfl, h.f18, w_walkerAt _ k 0 (show (0 : Int32) = nI 0 from rfl), h.stD _ _ (show nI (17 + 96 * k + 0) = nI (17 + 96 * k + 0) from rfl) (show 17 + 96 * k + 0 < 1853 by omega), rF_sD, e0, sw, asV_n]
  · subst a1 a2
    simp only [h.kt, if_true, nh 5 (by decide) 5 _ rfl, nh (18 + 3 * (mm - 1)) (by omega) _ _ (m1_18 m1), Option.bind_some, asI_I, rF_D, d5, wz, r32, f33, if_neg h0, st0, st1, st2, st3, s01, nh 2 (by decide) 2 _ rfl, nh 1 (by decide) 1 _ rfl, h.f18, w_walkerAt _ k 0 (show (0 : Int32) = nI 0 from rfl), h.stD _ _ (show nI (17 + 96 * k + 0) = nI (17 + 96 * k + 0) from rfl) (show 17 + 96 * k + 0 < 1853 by omega), rF_sD, e0, sw, asV_n]
/-- what a step does ahead of going on: the same road on both sides -/
theorem step_core {I : MI} {J1 : MJ} {T nn vol t k : Nat} {U : NodV} {V : MemV} {H : OneV} {W : WkV} (rl : RefL J1) (i : Inv U V H W nn vol t (T + 10001) (fun _ => 0)) (tT : t ≤ T) (C : CntI V) (r : Rel none U V H W (I 194) nn) (k4 : k < 4) {K : OneV} {P : RouV} {B : TriV} (wk : W k = (K, P, B)) (uw : ¬ bz (K 0 5) = 0) : ∃ l rr K0, rr ≤ 3 ∧ K0 0 5 = K 0 5 ∧ ∀ (I1 Z : MI), M_X10_isWalker [mR (some 188), mI (nI k)] (I1, J1) = some (some (mI 1), (I1, J1)) → M_X10_keeps [mR (some 188)] (I1, J1) = some (none, (Z, J1)) → Z 188 20 = -1 → Z 188 21 = -1 → Z 194 = I 194 → Gon U H W nn vol (T + 10001) k P l rr K0 Z J1 (o_X7_goOn 12 K P B U V) (T + 10001) (M_X10_step [mR (some 188), mI (nI k)] (I1, J1)) := by
  obtain ⟨m, d, l, rr, r3, wi⟩ := i.W k k4 (by rw [wk]; exact uw)
  rw [wk] at wi
  obtain ⟨r2, r22, r23⟩ := r.R2 k k4 (by rw [wk]; exact uw) (fun z => by cases z)
  rw [wk] at r23
  have rr2 : rr = r2 := (nI_eq (by omega) (by omega)).mp (wi.r.symm.trans r23)
  subst rr2
  have b1 := wi.md
  have b2 := wi.dl
  have b3 := wi.l12
  have b4 := wi.m1
  have e4 : K 0 4 = nI m := wi.m
  have e7 : K 0 7 = nI rr := wi.r
  have el : P 0 1 = nI l := wi.l
  have w1 : ∀ (x : OneV × RouV × TriV) j, j ≠ k → wkS W k x j = W j := fun x j q => wkS_n W x q
  have lt3 : ∀ q, q ≤ 2 → nI q < (3 : Int32) := fun q hq => nI_lt (b := 3) (by omega) (by decide)
  have pre : ∀ (I1 Z : MI), M_X10_isWalker [mR (some 188), mI (nI k)] (I1, J1) = some (some (mI 1), (I1, J1)) → M_X10_keeps [mR (some 188)] (I1, J1) = some (none, (Z, J1)) → Z 194 = I 194 → M_X10_isWayOther [mR (some 188), mI (nI k)] (Z, J1) = some (some (mI (q_X7_isChanged K B V)), (Z, J1)) := fun I1 Z _ _ zD => by
    have := w_wayOther r rl Z (Z 195) (Z 188 22) k4 wk uw wi
    rw [← zD, rF_id] at this
    exact this
  by_cases ch : q_X7_isChanged K B V = 0
  · have al := chg_no i.Z.T30 wi ch
    obtain ⟨a, a1, a2⟩ := al (m - 1) (by omega)
    have lw := last_q7 (B := B) e4 b4 (by omega)
    have nr3 : ¬ rr = 3 := by omega
    by_cases hv : bz (K 0 6) = 0 ∧ ¬ q_X7_lacksNext 12 K P B V = 0
    · -- it turns heavy
      obtain ⟨i2, wi2, kv⟩ := i.heavy (W' := wkS W k (uv K 0 6 1, P, B)) k4 wk wi hv.1 uw al (w1 _) (wkS_s _ _ _)
      have r4 := r.heavy k4 wk e4 (by omega) uw (w1 _) (wkS_s W k (uv K 0 6 1, P, B)) kv
      have kj : ∀ j, j ≠ 6 → uv K 0 6 1 0 j = K 0 j := fun j q => uv_n _ _ _ _ _ _ (fun w => q w.2)
      have oo : o_X7_goOn 12 K P B U V = lp_X7_goOn_89 12 P U 1 (ix 1) 0 (nI a) (uv K 0 6 1) B (gV_X7_holdAll (uv K 0 6 1) B V) := by
        unfold o_X7_goOn
        rw [if_pos ch, if_pos hv.1, if_neg hv.2, if_pos (by rw [e7]; exact lt3 rr r22), last_q7 (B := B) ((kj 4 (by decide)).trans e4) b4 (by omega), a1]
      refine ⟨l, rr, uv K 0 6 1, by omega, kj 5 (by decide), fun I1 Z g1 g2 z20 z21 zD => ?_⟩
      have g := step_loop (W0 := W) rl Z z20 z21 (P := P) (x2 := 1) (at1 := 0) (by rw [if_neg nr3]) (K0 := uv K 0 6 1) 1 0 _ _ (Z 195) (Z 188 22) _ _ m d t a r4 i2 (C.fr (kv 1 (by decide)) (kv 9 (by decide))) wi2 (by rw [kj 5 (by decide)]; exact uw) ⟨rfl, rfl, rfl⟩ a1 ⟨a2.1, by rw [kv 1 (by decide)]; exact a2.2.1, by rw [kv 4 (by decide)]; exact a2.2.2⟩ (by omega) (fun z => absurd z nr3) (fun _ => Nat.le_refl _)
      have tu := r.turns rl Z (Z 195) (Z 188 22) k4 wk uw wi a1 a2
      rw [if_pos hv] at tu
      have id : rF Z (I 194) (Z 195) (Z 188 22) = Z := by rw [← zD]; exact rF_id _
      rw [id] at tu
      rw [oo]
      have ev : M_X10_step [mR (some 188), mI (nI k)] (I1, J1) = Ev T_X10_step 60 [some (mR (some 188)), some (mI (nI k)), some (mI 0), some (mI 0), some (mI 1)] [] (rF Z (sD (I 194) (17 + 96 * k + 1) 1) (Z 195) (Z 188 22), J1) := by
        have rk := r.K k k4
        rw [wk] at rk
        have h2 : sD (I 194) (17 + 96 * k + 1) 1 (17 + 96 * k + 2) = nI rr := by rw [sD_n _ _ (by omega), (rk.un uw).2.1]; exact e7
        have n3 : ¬ nI rr = 3 := fun z => nr3 ((nI_eq (b := 3) (by omega) (by decide)).mp z)
        rw [E_X10_step]
        simp only [rl.kt, if_true, g1, Option.bind_some, asI_I, if_neg i10, g2, asV_n, pre I1 Z g1 g2 zD, ch, tu, w_walkerHas rl _ 2 (show (2 : Int32) = nI 2 from rfl) k4 (by decide), rF_D, h2, if_neg n3]
      rw [ev]
      obtain ⟨x1, x2, x3, x4, x5, x6, x7, y1, y2⟩ := g
      exact ⟨x1, x2, x3, x4, x5, x6, x7, by omega, y2⟩
    · -- it stays as it is
      have oo : o_X7_goOn 12 K P B U V = lp_X7_goOn_89 12 P U 1 (ix 1) 0 (nI a) K B V := by
        unfold o_X7_goOn
        rw [if_pos ch, lw, a1]
        by_cases hv0 : bz (K 0 6) = 0
        · have ln : q_X7_lacksNext 12 K P B V = 0 := by
            by_cases z : q_X7_lacksNext 12 K P B V = 0
            · exact z
            · exact absurd ⟨hv0, z⟩ hv
          rw [if_pos hv0, if_pos ln, if_pos (by rw [e7]; exact lt3 rr r22)]
        · rw [if_neg hv0, if_pos (by rw [e7]; exact lt3 rr r22)]
      have ws : wkS W k (K, P, B) = W := wkS_id W k wk
      have r4 := r.mid k4 (by rw [wk]; exact uw) (by rw [wk]; exact e4) (by omega : m ≤ 25)
      refine ⟨l, rr, K, by omega, rfl, fun I1 Z g1 g2 z20 z21 zD => ?_⟩
      have g := step_loop (W0 := W) rl Z z20 z21 (P := P) (x2 := 1) (at1 := 0) (by rw [if_neg nr3]) (K0 := K) 1 0 V (I 194) (Z 195) (Z 188 22) K B m d t a (by rw [ws]; exact r4) (by rw [ws]; exact i) C wi uw ⟨rfl, rfl, rfl⟩ a1 a2 (by omega) (fun z => absurd z nr3) (fun _ => Nat.le_refl _)
      have tu := r.turns rl Z (Z 195) (Z 188 22) k4 wk uw wi a1 a2
      rw [if_neg hv] at tu
      have id : rF Z (I 194) (Z 195) (Z 188 22) = Z := by rw [← zD]; exact rF_id _
      rw [id] at tu g
      rw [oo]
      have ev : M_X10_step [mR (some 188), mI (nI k)] (I1, J1) = Ev T_X10_step 60 [some (mR (some 188)), some (mI (nI k)), some (mI 0), some (mI 0), some (mI 1)] [] (Z, J1) := by
        have rk := r.K k k4
        rw [wk] at rk
        have h2 : Z 194 (17 + 96 * k + 2) = nI rr := by rw [zD, (rk.un uw).2.1]; exact e7
        have n3 : ¬ nI rr = 3 := fun z => nr3 ((nI_eq (b := 3) (by omega) (by decide)).mp z)
        rw [E_X10_step]
        simp only [rl.kt, if_true, g1, Option.bind_some, asI_I, if_neg i10, g2, asV_n, pre I1 Z g1 g2 zD, ch, tu, w_walkerHas rl _ 2 (show (2 : Int32) = nI 2 from rfl) k4 (by decide), h2, if_neg n3]
      rw [ev]
      obtain ⟨x1, x2, x3, x4, x5, x6, x7, y1, y2⟩ := g
      exact ⟨x1, x2, x3, x4, x5, x6, x7, by omega, y2⟩
  · -- it begins anew
    have rs := fun (Z : MI) (z20 : Z 188 20 = -1) (z21 : Z 188 21 = -1) => r.restart i C rl Z z20 z21 (Z 195) (Z 188 22) k4 wk uw wi r22 (by omega)
    unfold o_X7_goOn
    rw [if_neg ch]
    generalize gK_X7_goToRoot (uv (uv K 0 7 ((K 0 7) + 1)) 0 6 1) B (gV_X7_letGo K B V) = K1 at rs ⊢
    generalize gB_X7_goToRoot (uv (uv K 0 7 ((K 0 7) + 1)) 0 6 1) B (gV_X7_letGo K B V) = B1 at rs ⊢
    generalize gV_X7_goToRoot (uv (uv K 0 7 ((K 0 7) + 1)) 0 6 1) B (gV_X7_letGo K B V) = V1 at rs ⊢
    obtain ⟨D0, G0, c0, ro, _, _, i2, C2, wi2, last, ra, k5⟩ := rs (fun a j => if a = 188 then -1 else 0) rfl rfl
    refine ⟨l, rr + 1, K1, by omega, k5, fun I1 Z g1 g2 z20 z21 zD => ?_⟩
    obtain ⟨D1, G1, c1, ro1, s1, r4, _, _, _, last1, _, _⟩ := rs Z z20 z21
    have id : rF Z (I 194) (Z 195) (Z 188 22) = Z := by rw [← zD]; exact rF_id _
    rw [id] at s1
    have e71 : K1 0 7 = nI (rr + 1) := wi2.r
    have e41 : K1 0 4 = nI 1 := wi2.m
    rw [last_q7 (B := B1) e41 (by omega) (by omega), show (1 : Nat) - 1 = 0 from rfl, last]
    have rk := r4.K k k4
    rw [wkS_s] at rk
    have u5 : ¬ bz (K1 0 5) = 0 := by rw [k5]; exact uw
    have h2 : D1 (17 + 96 * k + 2) = nI (rr + 1) := (rk.un u5).2.1.trans e71
    have evp : ∀ y : Int32, (y = if rr + 1 = 3 then 1 else 0) → M_X10_step [mR (some 188), mI (nI k)] (I1, J1) = Ev T_X10_step 60 [some (mR (some 188)), some (mI (nI k)), some (mI y), some (mI 0), some (mI 1)] [] (rF Z D1 G1 c1, J1) := fun y hy => by
      rw [E_X10_step]
      simp only [rl.kt, if_true, g1, Option.bind_some, asI_I, if_neg i10, g2, asV_n, pre I1 Z g1 g2 zD, if_neg ch, s1, w_walkerHas rl _ 2 (show (2 : Int32) = nI 2 from rfl) k4 (by decide), rF_D, h2]
      by_cases z : rr + 1 = 3
      · rw [if_pos z] at hy
        rw [z, if_pos (show nI 3 = 3 from rfl), hy]
      · rw [if_neg z] at hy
        rw [if_neg (show ¬ nI (rr + 1) = (3 : Int32) from fun w => z ((nI_eq (b := 3) (by omega) (by decide)).mp w)), hy]
    by_cases z : rr + 1 = 3
    · rw [if_neg (show ¬ K1 0 7 < 3 by rw [e71, z]; decide), el, ix_nI (by omega)]
      have g := step_loop (W0 := W) rl Z z20 z21 (P := P) (x2 := nI l) (at1 := 1) (by rw [if_pos z]) (K0 := K1) l 0 V1 D1 G1 c1 K1 B1 1 0 (t + 1) ro r4 i2 C2 wi2 u5 ⟨rfl, rfl, rfl⟩ last ra (by omega) (fun _ => by omega) (fun w => absurd z w)
      rw [if_neg (fun w => w.2 z)] at g
      rw [evp 1 (by rw [if_pos z])]
      obtain ⟨x1, x2, x3, x4, x5, x6, x7, y1, y2⟩ := g
      exact ⟨x1, x2, x3, x4, x5, x6, x7, by omega, y2⟩
    · rw [if_pos (show K1 0 7 < 3 by rw [e71]; exact lt3 _ (by omega))]
      have g := step_loop (W0 := W) rl Z z20 z21 (P := P) (x2 := 1) (at1 := 0) (by rw [if_neg z]) (K0 := K1) 1 0 V1 D1 G1 c1 K1 B1 1 0 (t + 1) ro r4 i2 C2 wi2 u5 ⟨rfl, rfl, rfl⟩ last ra (by omega) (fun w => absurd w z) (fun _ => Nat.le_refl _)
      rw [if_neg (fun w => by omega)] at g
      rw [evp 0 (by rw [if_neg z])]
      obtain ⟨x1, x2, x3, x4, x5, x6, x7, y1, y2⟩ := g
      exact ⟨x1, x2, x3, x4, x5, x6, x7, by omega, y2⟩
