/-! Something renamed, on both sides. -/
theorem Rel.q5 {U : NodV} {V V' : MemV} {H : OneV} {W : WkV} {D : RowV} {n : Nat} (r : Rel none U V H W D n) (kk : ∀ q : Fin 12, q ≠ 5 → V' q = V q) : Rel none U V' H W D n := by
  have b := r.B
  have k0 := kk 0 (by decide)
  have k1 := kk 1 (by decide)
  have k2 := kk 2 (by decide)
  have k3 := kk 3 (by decide)
  have k4 := kk 4 (by decide)
  have k6 := kk 6 (by decide)
  have k7 := kk 7 (by decide)
  have k8 := kk 8 (by decide)
  have k9 := kk 9 (by decide)
  have k10 := kk 10 (by decide)
  refine r.fr ⟨by rw [k0]; exact b.tk, by rw [k0]; exact b.lo, by rw [k0]; exact b.tr, by rw [k0]; exact b.rm, b.ev, by rw [k9]; exact b.rt, by rw [k10]; exact b.ov, b.ha, b.nd, by rw [k1]; exact b.th, fun e he q => ?_⟩ (fun _ _ _ => rfl) (fun k z => by cases z)
  rw [k1] at q
  rw [k1, k2, k3, k4, k6, k7, k8, cov_fr k10]
  exact b.en e he q
theorem vol_q {U : NodV} {n vol : Nat} (hN : NodI U n vol) {k : Nat} (hk : k < n) : q_X2_volumeOf U (nI k) = U 1 k := by
  have n60 := hN.n60
  unfold q_X2_volumeOf
  rw [if_neg (nI_pos (by omega)), if_neg (show ¬ (60 : Int32) ≤ nI k from nI_ge (b := 60) (by omega) (by decide)), hN.ev, if_neg (nI_ge hk (by omega)), ix_nI (by omega)]
theorem nodeOf_q {V : MemV} {e : Nat} (e64 : e < 64) (e1 : ¬ V 1 e = 0) : q_X1_nodeOf V (nI e) = V 4 e := by
  unfold q_X1_nodeOf
  rw [Inv.isE e64 e1, if_neg i10, ix_nI (by omega)]
/-- what holds of a world that is beside a row -/
def Goo (U : NodV) (V : MemV) (H : OneV) (W : WkV) (D : RowV) (n vol t T : Nat) : Prop := Rel none U V H W D n ∧ Inv U V H W n vol t T (fun _ => 0) ∧ CntI V
theorem Goo.rel {U : NodV} {V : MemV} {H : OneV} {W : WkV} {D : RowV} {n vol t T a : Nat} (r : Rel none U V H W D n) (i : Inv U V H W n vol t T (dlx (fun _ => 0) a)) (C : CntI V) {T' : Nat} (a64 : a < 64) (a1 : V 1 a = 1) (hT : T ≤ T') (h30 : T' ≤ 1000000000) : Goo U (gV_X1_release V (nI a)) H W D n vol t T' ∧ ∀ q : Fin 12, q ≠ 5 → gV_X1_release V (nI a) q = V q := by
  obtain ⟨i2, r1⟩ := i.release a64 (by rw [a1]; exact i10)
  have kk : ∀ q : Fin 12, q ≠ 5 → gV_X1_release V (nI a) q = V q := fun q hq => by
    by_cases z : q = 1
    · subst z
      funext f
      rw [r1, if_neg]
      rintro ⟨_, w, _⟩
      rw [a1] at w
      exact absurd w (by decide)
    · exact re_k V (nI a) q z hq
  exact ⟨⟨r.q5 kk, i2.T hT h30, C.fr (kk 1 (by decide)) (kk 9 (by decide))⟩, kk⟩
def rnV2 (P2 : RouV) (U : NodV) (V1 : MemV) (a : Nat) : MemV := gV_X1_walk 12 P2 U (gV_X1_hold V1 (nI a)) ((P2 0 1) - 1)
def rnF (P2 : RouV) (U : NodV) (V1 : MemV) (a : Nat) : Int32 := q_X1_walk 12 P2 U (gV_X1_hold V1 (nI a)) ((P2 0 1) - 1)
def rnQ (O : OneV) (P2 : RouV) (U : NodV) (V1 : MemV) (a : Nat) : Int32 := if q_X8_canTake O U (rnV2 P2 U V1 a) (rnF P2 U V1 a) (nI a) = 0 then -1 else if q_X8_gapIn 12 O P2 U (rnV2 P2 U V1 a) (rnF P2 U V1 a) = -1 then -1 else nI a
def rnU (O : OneV) (P2 : RouV) (U : NodV) (V1 : MemV) (a : Nat) : NodV := if q_X8_canTake O U (rnV2 P2 U V1 a) (rnF P2 U V1 a) (nI a) = 0 then U else if q_X8_gapIn 12 O P2 U (rnV2 P2 U V1 a) (rnF P2 U V1 a) = -1 then U else gU_X2_move U (q_X1_nodeOf (gV_X1_drop (gV_X1_release (gV_X8_gapIn 12 O P2 U (rnV2 P2 U V1 a) (rnF P2 U V1 a)) (nI a)) (q_X8_gapIn 12 O P2 U (rnV2 P2 U V1 a) (rnF P2 U V1 a))) (nI a)) (q_X1_nodeOf (gV_X1_drop (gV_X1_release (gV_X8_gapIn 12 O P2 U (rnV2 P2 U V1 a) (rnF P2 U V1 a)) (nI a)) (q_X8_gapIn 12 O P2 U (rnV2 P2 U V1 a) (rnF P2 U V1 a))) (rnF P2 U V1 a)) (q_X4_last 12 P2)
def rnV (O : OneV) (P2 : RouV) (U : NodV) (V1 : MemV) (a : Nat) : MemV := if q_X8_canTake O U (rnV2 P2 U V1 a) (rnF P2 U V1 a) (nI a) = 0 then gV_X1_release (rnV2 P2 U V1 a) (nI a) else if q_X8_gapIn 12 O P2 U (rnV2 P2 U V1 a) (rnF P2 U V1 a) = -1 then gV_X1_release (gV_X8_gapIn 12 O P2 U (rnV2 P2 U V1 a) (rnF P2 U V1 a)) (nI a) else gV_X1_move (gV_X1_drop (gV_X1_release (gV_X8_gapIn 12 O P2 U (rnV2 P2 U V1 a) (rnF P2 U V1 a)) (nI a)) (q_X8_gapIn 12 O P2 U (rnV2 P2 U V1 a) (rnF P2 U V1 a))) (nI a) (rnF P2 U V1 a) (q_X4_last 12 P2)
theorem Rel.renamed {U : NodV} {V1 : MemV} {H : OneV} {W : WkV} {D1 : RowV} {n vol t T a l2 : Nat} (r : Rel none U V1 H W D1 n) (i : Inv U V1 H W n vol t T (fun _ => 0)) (C : CntI V1) {J : MJ} (h : RefL J) (Z : MI) (z20 : Z 188 20 = nI a) (z21 : Z 188 21 = -1) (G : RowV) (at' : At V1 a) (a2 : ¬ V1 2 a = -1) {P2 : RouV} (pth : Pth P2 (Z 193) l2) (l12 : l2 ≤ 12) (z17 : Z 188 17 = nI l2) (tT : t + 27 ≤ T) (h30 : T + 1 ≤ 1000000000) (O : OneV) : ∃ y D' G' c' t', M_X10_isRenamed [mR (some 188), mI (nI a)] (rF Z D1 G (nI a), J) = some (some (mI y), (rF Z D' G' c', J)) ∧ (y = 1 ∧ rnQ O P2 U V1 a = nI a ∨ y = 0 ∧ rnQ O P2 U V1 a = -1) ∧ Goo (rnU O P2 U V1 a) (rnV O P2 U V1 a) H W D' n vol t' (T + 1) := by
  have hN := i.N
  have n60 := hN.n60
  have a64 := at'.1
  have a0 : ¬ V1 1 a = 0 := by rw [at'.2.1]; exact i10
  have ho := ho_k V1 (nI a)
  have ih := i.hold a64 a0 (by decide)
  have rh : Rel none U (gV_X1_hold V1 (nI a)) H W D1 n := r.q5 ho
  have Ch : CntI (gV_X1_hold V1 (nI a)) := C.fr (ho 1 (by decide)) (ho 9 (by decide))
  have dx : ∀ e, dlx (fun _ => 0) a e = if e = a then 1 else 0 := fun e => by unfold dlx; rw [Nat.zero_add]
  have hx : ∀ e, e < 64 → ¬ dlx (fun _ => 0) a e = 0 → ¬ gV_X1_hold V1 (nI a) 4 e = -1 := fun e _ q => by
    rw [dx] at q
    by_cases z : e = a
    · rw [ho 4 (by decide), z]; exact at'.2.2
    · rw [if_neg z] at q; exact absurd rfl q
  have hb : HB (Z 188 20) (dlx (fun _ => 0) a) := Or.inr ⟨a, a64, z20, dx⟩
  obtain ⟨D2, G2, c2, y2, t2, w1, w2, w3, w4, w5⟩ := rh.isPlace ih Ch hx h Z hb z21 G (nI a) (s1 := 193) h.s16 (by decide) (L := 12) pth l12 (by decide) (by omega) (by omega)
  have fold2 : gV_X1_walk 12 P2 U (gV_X1_hold V1 (nI a)) ((P2 0 1) - 1) = rnV2 P2 U V1 a := rfl
  have foldF : q_X1_walk 12 P2 U (gV_X1_hold V1 (nI a)) ((P2 0 1) - 1) = rnF P2 U V1 a := rfl
  rw [fold2] at w2 w5
  rw [foldF] at w5
  unfold rnQ rnU rnV
  generalize rnV2 P2 U V1 a = V2 at w2 w5
  generalize rnF P2 U V1 a = F at w5
  have xa : ¬ dlx (fun _ => 0) a a = 0 := by rw [dx, if_pos rfl]; decide
  have sta := w2.2.2.2.2.2.2.2 a a64 (by rw [ho 1 (by decide)]; exact a0) xa
  have v2a1 : V2 1 a = 1 := by rw [sta.1, ho 1 (by decide)]; exact at'.2.1
  have v2a0 : ¬ V2 1 a = 0 := by rw [v2a1]; exact i10
  obtain ⟨ka, kan, kae, ka4⟩ := i.M.nk hN at'
  have v2a4 : V2 4 a = nI ka := by rw [sta.2.2.2.1, ho 4 (by decide)]; exact kae
  have v2a2 : V2 2 a = V1 2 a := by rw [sta.2.1, ho 2 (by decide)]
  have aA2 : At V2 a := ⟨a64, v2a1, by rw [v2a4]; exact nI_m1 (by omega)⟩
  have go2 := Goo.rel w2.1 w2.2.1 w2.2.2.1 a64 v2a1 (show T ≤ T + 1 by omega) h30
  have z17' : ∀ D G c, rF Z D G c 188 17 = nI l2 := fun D G c => by rw [rF_k _ _ _ _ (by decide)]; exact z17
  have neg1 : ¬ (-1 : Int32) = nI a := fun z => nI_m1 (show a < 2 ^ 31 by omega) z.symm
  rcases w5 with ⟨y1, l0, f, cf, qf, fA, fo, foF, nm, la⟩ | ⟨y0, bad⟩
  · subst y1 cf qf
    have f64 := fA.1
    have f0 : ¬ V2 1 f = 0 := by rw [fA.2.1]; exact i10
    obtain ⟨kf, kfn, kfe, kf2⟩ := hN.fo fo
    have lm : nI l2 - 1 = nI (l2 - 1) := nI_sub (b := 1) (by omega)
    have ls : ∀ D G c, ld (rF Z D G c, J) 11 193 (nI (l2 - 1)) = some (Z 193 (l2 - 1)) := fun D G c => by
      rw [ldx h.s16 (show l2 - 1 < 64 by omega) (by decide) rfl, rF_o _ _ _ _ (by decide) (by decide) (by decide)]
    have bf := w2.1.B.en f f64 f0
    have ba := w2.1.B.en a a64 v2a0
    have df : D2 (701 + 9 * f + 3) = nI kf := by rw [bf.2.2.1, kfe]
    have da : D2 (701 + 9 * a + 3) = nI ka := by rw [ba.2.2.1, v2a4]
    have vf : D2 (401 + 5 * kf + 0) = U 1 kf := (w2.1.B.nd kf kfn).1
    have va : D2 (401 + 5 * ka + 0) = U 1 ka := (w2.1.B.nd ka kan).1
    obtain ⟨d, hd⟩ := hN.rk
    obtain ⟨yb, yb01, b1, b2, b3⟩ := within_loop hN w2.2.1.M h (rF Z D2 G2 (nI f)) (fun g g64 g0 => by rw [rF_D]; exact (w2.1.B.en g g64 g0).1) hd a64 v2a1 v2a4 kan 64 f kf 0 fA kfe kfn (by have := rkc_le d n kf; omega)
    have ct : q_X8_canTake O U V2 (nI f) (nI a) = if U 1 ka = U 1 kf then (if yb = 0 then 1 else 0) else 0 := by
      have iw : q_X1_isWithin V2 (nI f) (nI a) = yb := b1
      unfold q_X8_canTake
      rw [if_neg foF, nodeOf_q a64 v2a0, nodeOf_q f64 f0, v2a4, kfe, vol_q hN kan, vol_q hN kfn, iw]
    rw [E_X10_isRenamed]
    simp only [h.f16, h.fi, z17', Option.bind_some, h.kt, if_true, w1, asI_I, if_neg i10, lm, ls, rF_c, w_its h _ 3 (show (3 : Int32) = nI 3 from rfl) (show f < 128 by omega) (by decide), w_its h _ 3 (show (3 : Int32) = nI 3 from rfl) (show a < 128 by omega) (by decide), rF_D, df, da, w_nodeHas h _ 0 (show (0 : Int32) = nI 0 from rfl) (show kf < 60 by omega) (by decide), w_nodeHas h _ 0 (show (0 : Int32) = nI 0 from rfl) (show ka < 60 by omega) (by decide), vf, va, E_X10_isBelow, b2]
    by_cases vv : U 1 kf = U 1 ka
    · rw [if_pos vv]
      rw [if_pos vv.symm] at ct
      by_cases wb : yb = 0
      · rw [if_pos wb]
        rw [if_pos wb] at ct
        have sub := b3 wb
        rw [ct, if_neg i10, if_neg i10, if_neg i10]
        have lpos : 0 < q_X4_last 12 P2 := by rw [la]; exact nm.gt.1
        obtain ⟨D3, G3, e, k1, k2, e64, k3, k4, k5, k6, k7, k8, k9⟩ := w2.1.childOf w2.2.1 w2.2.2.1 (w2.hx ih hx) h Z hb z21 G2 (nI f) (fun k z => by cases z) f64 fA.2.1 fo nm (by omega)
        have foldG : gV_X8_gapIn 12 O P2 U V2 (nI f) = gV_X1_reach U V2 (nI f) (P2 1 (l2 - 1)) := by
          unfold gV_X8_gapIn
          rw [if_pos lpos, la]
          split <;> rfl
        have gq : q_X8_gapIn 12 O P2 U V2 (nI f) = if gV_X1_reach U V2 (nI f) (P2 1 (l2 - 1)) 4 e = -1 then nI e else -1 := by
          unfold q_X8_gapIn
          rw [if_pos lpos, la, k2]
          have isA : q_X1_isAbsence (gV_X1_reach U V2 (nI f) (P2 1 (l2 - 1))) (nI e) = if gV_X1_reach U V2 (nI f) (P2 1 (l2 - 1)) 4 e = -1 then 1 else 0 := by
            unfold q_X1_isAbsence
            rw [Inv.isE e64 (by rw [k4]; exact i10), if_neg i10, ix_nI (by omega)]
          rw [isA]
          by_cases z : gV_X1_reach U V2 (nI f) (P2 1 (l2 - 1)) 4 e = -1
          · rw [if_pos z, if_pos z, if_neg i10]
          · rw [if_neg z, if_neg z, if_pos rfl]
        rw [foldG, gq]
        generalize gV_X1_reach U V2 (nI f) (P2 1 (l2 - 1)) = V3 at k3 k4 k5 k6 k7 k8 k9
        have sta3 := k3.2.2.2.2.2.2.2 a a64 v2a0 xa
        have v3a1 : V3 1 a = 1 := by rw [sta3.1, v2a1]
        have v3a4 : V3 4 a = nI ka := by rw [sta3.2.2.2.1, v2a4]
        have v3a2 : V3 2 a = V1 2 a := by rw [sta3.2.1, v2a2]
        obtain ⟨go3, kr⟩ := Goo.rel k3.1 k3.2.1 k3.2.2.1 a64 v3a1 (show T ≤ T + 1 by omega) h30
        have be := k3.1.B.en e e64 (by rw [k4]; exact i10)
        simp only [k1, Option.bind_some, asI_I, h.kt, if_true, w_its h _ 3 (show (3 : Int32) = nI 3 from rfl) (show e < 128 by omega) (by decide), rF_D, be.2.2.1]
        by_cases em : V3 4 e = -1
        · have nem : ¬ nI e = -1 := nI_m1 (by omega)
          rw [if_pos em, if_pos em, if_neg nem, if_neg nem, if_neg nem]
          have ea : e ≠ a := fun z => by rw [z, v3a4] at em; exact nI_m1 (show ka < 2 ^ 31 by omega) em
          have fe : f ≠ e := fun z => by rw [← z, k8, kfe] at em; exact nI_m1 (show kf < 2 ^ 31 by omega) em
          -- the gap is given up
          have i3 := (k3.2.1.release a64 (by rw [v3a1]; exact i10)).1
          have e1r : gV_X1_release V3 (nI a) 1 e = 1 := by rw [kr 1 (by decide)]; exact k4
          have i4 := i3.drop e64 e1r (by rw [kr 2 (by decide), k5]; exact nI_m1 (by omega)) (i3.ab e64 (by rw [kr 4 (by decide)]; exact em)) rfl
          have r4 := go3.1.drp n60 e64
          have c4 : CntI (gV_X1_drop (gV_X1_release V3 (nI a)) (nI e)) := go3.2.2.sub (fun g _ q => by
            rw [dr_1 _ e64] at q
            by_cases z : g = e
            · rw [if_pos z] at q; exact absurd rfl q
            · rw [if_neg z] at q; exact q) (dr_k _ _ 9 (by decide) (by decide))
          have d1 : ∀ j, gV_X1_drop (gV_X1_release V3 (nI a)) (nI e) 1 j = if j = e then 0 else V3 1 j := fun j => by rw [dr_1 _ e64, kr 1 (by decide)]
          have dk : ∀ q : Fin 12, q ≠ 1 → q ≠ 5 → gV_X1_drop (gV_X1_release V3 (nI a)) (nI e) q = V3 q := fun q q1 q5 => by rw [dr_k _ _ q q1 q5, kr q q5]
          generalize gV_X1_drop (gV_X1_release V3 (nI a)) (nI e) = V4 at i4 r4 c4 d1 dk
          have v4a1 : V4 1 a = 1 := by rw [d1, if_neg (fun z => ea z.symm)]; exact v3a1
          have v4f1 : V4 1 f = 1 := by rw [d1, if_neg fe]; exact k9
          have v4a0 : ¬ V4 1 a = 0 := by rw [v4a1]; exact i10
          have v4f0 : ¬ V4 1 f = 0 := by rw [v4f1]; exact i10
          have v4a4 : V4 4 a = nI ka := by rw [dk 4 (by decide) (by decide)]; exact v3a4
          have v4f4 : V4 4 f = nI kf := by rw [dk 4 (by decide) (by decide), k8, kfe]
          obtain ⟨p, _, p64, p2, p1, _, p4, _⟩ := i4.M.up hN a64 v4a1 (by rw [dk 2 (by decide) (by decide), v3a2]; exact a2) v4a4 kan
          have fd : q_X2_find U (nI kf) (P2 1 (l2 - 1)) = -1 := by rw [← kfe, ← k7]; exact em
          have ng : ∀ g, g < 64 → V4 1 g = 1 → V4 2 g = nI f → ¬ V4 3 g = P2 1 (l2 - 1) := fun g g64 g1 g2 g3 => by
            rw [d1] at g1
            by_cases z : g = e
            · rw [if_pos z] at g1; exact absurd g1 (by decide)
            · rw [if_neg z] at g1
              rw [dk 2 (by decide) (by decide)] at g2
              rw [dk 3 (by decide) (by decide)] at g3
              exact z (k3.2.1.M.sb g e g64 e64 g1 k4 (by rw [g2]; exact nI_m1 (by omega)) (by rw [g2, k5]) (by rw [g3, k6]))
          have mU : gU_X2_move U (nI ka) (nI kf) (P2 1 (l2 - 1)) = uv (uv U 2 ka (nI kf)) 3 ka (P2 1 (l2 - 1)) := by
            unfold gU_X2_move
            rw [hN.ex kan, if_neg ka4, if_neg i10, hN.fo' kfn kf2, if_neg i10, ix_nI (by omega)]
          have mV : gV_X1_move V4 (nI a) (nI f) (P2 1 (l2 - 1)) = gV_X1_release (gV_X1_hold (uv (uv (uv V4 2 a (nI f)) 3 a (P2 1 (l2 - 1))) 6 a (V4 6 a + 1)) (nI f)) (nI p) := by
            unfold gV_X1_move
            rw [Inv.isE a64 v4a0, if_neg i10, Inv.isE f64 v4f0, if_neg i10, ix_nI (by omega), p2]
          rw [nodeOf_q a64 v4a0, nodeOf_q f64 v4f0, v4a4, v4f4, la, mU, mV]
          have u2 : ∀ k, uv (uv U 2 ka (nI kf)) 3 ka (P2 1 (l2 - 1)) 2 k = if k = ka then nI kf else U 2 k := fun k => by simp [uv]
          have u3 : ∀ k, uv (uv U 2 ka (nI kf)) 3 ka (P2 1 (l2 - 1)) 3 k = if k = ka then P2 1 (l2 - 1) else U 3 k := fun k => by simp [uv]
          have uk : ∀ q : Fin 6, q ≠ 2 → q ≠ 3 → uv (uv U 2 ka (nI kf)) 3 ka (P2 1 (l2 - 1)) q = U q := fun q q2 q3 => by rw [uv_k _ _ _ _ _ q3, uv_k _ _ _ _ _ q2]
          generalize uv (uv U 2 ka (nI kf)) 3 ka (P2 1 (l2 - 1)) = U' at u2 u3 uk
          have hk := ho_k (uv (uv (uv V4 2 a (nI f)) 3 a (P2 1 (l2 - 1))) 6 a (V4 6 a + 1)) (nI f)
          have m2 : ∀ j, gV_X1_hold (uv (uv (uv V4 2 a (nI f)) 3 a (P2 1 (l2 - 1))) 6 a (V4 6 a + 1)) (nI f) 2 j = if j = a then nI f else V4 2 j := fun j => by rw [hk 2 (by decide)]; simp [uv]
          have m3 : ∀ j, gV_X1_hold (uv (uv (uv V4 2 a (nI f)) 3 a (P2 1 (l2 - 1))) 6 a (V4 6 a + 1)) (nI f) 3 j = if j = a then P2 1 (l2 - 1) else V4 3 j := fun j => by rw [hk 3 (by decide)]; simp [uv]
          have m6 : ∀ j, gV_X1_hold (uv (uv (uv V4 2 a (nI f)) 3 a (P2 1 (l2 - 1))) 6 a (V4 6 a + 1)) (nI f) 6 j = if j = a then V4 6 a + 1 else V4 6 j := fun j => by rw [hk 6 (by decide)]; simp [uv]
          have m5 : ∀ j, gV_X1_hold (uv (uv (uv V4 2 a (nI f)) 3 a (P2 1 (l2 - 1))) 6 a (V4 6 a + 1)) (nI f) 5 j = if j = f then V4 5 f + 1 else V4 5 j := fun j => by
            rw [ho_5 _ f64, uv_k _ _ _ _ _ (by decide), uv_k _ _ _ _ _ (by decide), uv_k _ _ _ _ _ (by decide)]
          have mk : ∀ q : Fin 12, q ≠ 2 → q ≠ 3 → q ≠ 5 → q ≠ 6 → gV_X1_hold (uv (uv (uv V4 2 a (nI f)) 3 a (P2 1 (l2 - 1))) 6 a (V4 6 a + 1)) (nI f) q = V4 q := fun q q2 q3 q5 q6 => by rw [hk q q5, uv_k _ _ _ _ _ q6, uv_k _ _ _ _ _ q3, uv_k _ _ _ _ _ q2]
          generalize gV_X1_hold (uv (uv (uv V4 2 a (nI f)) 3 a (P2 1 (l2 - 1))) 6 a (V4 6 a + 1)) (nI f) = V5 at m2 m3 m5 m6 mk
          have i5 := i4.move h30 a64 v4a1 p2 p64 v4a4 kan ⟨f64, v4f1, by rw [v4f4]; exact nI_m1 (by omega)⟩ v4f4 kfn kf2 vv sub (i32_gt_ne nm.gt.1).2.2.1 fd ng u2 u3 uk m2 m3 m5 m6 mk
          have r5 := r4.move n60 a64 v4a0 kan nm u2 u3 uk m2 m3 m6 mk
          have c5 : CntI V5 := c4.fr (mk 1 (by decide) (by decide) (by decide) (by decide)) (mk 9 (by decide) (by decide) (by decide) (by decide))
          have p5 : V5 1 p = 1 := by rw [mk 1 (by decide) (by decide) (by decide) (by decide)]; exact p1
          have go5 := Goo.rel r5 i5 c5 p64 p5 (Nat.le_refl _) h30
          have b3a := (k3.1.B.en a a64 (by rw [v3a1]; exact i10)).2.2.1
          have b3f := (k3.1.B.en f f64 (by rw [k9]; exact i10)).2.2.1
          rw [v3a4] at b3a
          rw [k8, kfe] at b3f
          refine ⟨1, mvD (sD D3 (701 + 9 * e + 0) 0) a ka (nI f) (nI kf) (Z 193 (l2 - 1)), G3, nI f, t2 + 1, ?_, Or.inl ⟨rfl, rfl⟩, go5.1⟩
          simp only [h.f18, Option.bind_some, w_entryAt _ e 0 (show (0 : Int32) = nI 0 from rfl), asI_I, h.stD _ _ (show nI (701 + 9 * e + 0) = nI (701 + 9 * e + 0) from rfl) (show 701 + 9 * e + 0 < 1853 by omega), rF_sD, h.kt, if_true, w_its h _ 3 (show (3 : Int32) = nI 3 from rfl) (show a < 128 by omega) (by decide), w_its h _ 3 (show (3 : Int32) = nI 3 from rfl) (show f < 128 by omega) (by decide), rF_D, sD_n _ _ (show 701 + 9 * a + 3 ≠ 701 + 9 * e + 0 by omega), sD_n _ _ (show 701 + 9 * f + 3 ≠ 701 + 9 * e + 0 by omega), b3a, b3f, w_nodeAt _ ka 2 (show (2 : Int32) = nI 2 from rfl), w_nodeAt _ ka 3 (show (3 : Int32) = nI 3 from rfl), h.fi, rF_c, h.stD _ _ (show nI (401 + 5 * ka + 2) = nI (401 + 5 * ka + 2) from rfl) (show 401 + 5 * ka + 2 < 1853 by omega), h.stD _ _ (show nI (401 + 5 * ka + 3) = nI (401 + 5 * ka + 3) from rfl) (show 401 + 5 * ka + 3 < 1853 by omega), sD_n _ _ (show 701 + 9 * a + 3 ≠ 401 + 5 * ka + 2 by omega), w_entryAt _ a 1 (show (1 : Int32) = nI 1 from rfl), w_entryAt _ a 2 (show (2 : Int32) = nI 2 from rfl), w_entryAt _ a 4 (show (4 : Int32) = nI 4 from rfl), h.stD _ _ (show nI (701 + 9 * a + 1) = nI (701 + 9 * a + 1) from rfl) (show 701 + 9 * a + 1 < 1853 by omega), h.stD _ _ (show nI (701 + 9 * a + 2) = nI (701 + 9 * a + 2) from rfl) (show 701 + 9 * a + 2 < 1853 by omega), h.stD _ _ (show nI (701 + 9 * a + 4) = nI (701 + 9 * a + 4) from rfl) (show 701 + 9 * a + 4 < 1853 by omega), h.ldD _ (show nI (701 + 9 * a + 4) = nI (701 + 9 * a + 4) from rfl) (show 701 + 9 * a + 4 < 1853 by omega), sD_n _ _ (show 701 + 9 * a + 4 ≠ 701 + 9 * e + 0 by omega), sD_n _ _ (show 701 + 9 * a + 4 ≠ 401 + 5 * ka + 2 by omega), sD_n _ _ (show 701 + 9 * a + 4 ≠ 401 + 5 * ka + 3 by omega), sD_n _ _ (show 701 + 9 * a + 4 ≠ 701 + 9 * a + 1 by omega), sD_n _ _ (show 701 + 9 * a + 4 ≠ 701 + 9 * a + 2 by omega)]
          unfold mvD
          rw [sD_n _ _ (show 701 + 9 * a + 4 ≠ 701 + 9 * e + 0 by omega)]
          simp
        · rw [if_neg em, if_neg em, if_pos rfl, if_pos rfl, if_pos rfl]
          exact ⟨0, D3, G3, nI f, t2 + 1, by simp, Or.inr ⟨rfl, rfl⟩, go3⟩
      · have yb1 : yb = 1 := yb01.resolve_left wb
        rw [if_neg wb]
        rw [if_neg wb] at ct
        rw [ct, if_pos rfl, if_pos rfl, if_pos rfl]
        exact ⟨0, D2, G2, nI f, t2, by simp, Or.inr ⟨rfl, rfl⟩, go2.1⟩
    · rw [if_neg vv]
      rw [if_neg (fun z => vv z.symm)] at ct
      rw [ct, if_pos rfl, if_pos rfl, if_pos rfl]
      exact ⟨0, D2, G2, nI f, t2, by simp, Or.inr ⟨rfl, rfl⟩, go2.1⟩
  · subst y0
    have res : M_X10_isRenamed [mR (some 188), mI (nI a)] (rF Z D1 G (nI a), J) = some (some (mI 0), (rF Z D2 G2 c2, J)) := by
      rw [E_X10_isRenamed]
      simp only [h.f16, h.fi, z17', Option.bind_some, h.kt, if_true, w1, asI_I]
      simp
    by_cases ct : q_X8_canTake O U V2 F (nI a) = 0
    · rw [if_pos ct, if_pos ct, if_pos ct]
      exact ⟨0, D2, G2, c2, t2, res, Or.inr ⟨rfl, rfl⟩, go2.1⟩
    · have nf : ¬ q_X1_isFolder U V2 F = 0 := fun z => ct (by unfold q_X8_canTake; rw [if_pos z])
      have nl := bad.resolve_left nf
      have gq : q_X8_gapIn 12 O P2 U V2 F = -1 := by unfold q_X8_gapIn; rw [if_neg nl]
      have gv : gV_X8_gapIn 12 O P2 U V2 F = V2 := by unfold gV_X8_gapIn; rw [if_neg nl]
      rw [if_neg ct, if_neg ct, if_neg ct, gq, gv, if_pos rfl, if_pos rfl, if_pos rfl]
      exact ⟨0, D2, G2, c2, t2, res, Or.inr ⟨rfl, rfl⟩, go2.1⟩
