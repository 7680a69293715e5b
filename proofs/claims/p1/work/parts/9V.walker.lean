/-! Questions about walkers; what there is. -/
theorem w_isWalker {I : MI} {J : MJ} (h : RefL J) {U : NodV} {V : MemV} {H : OneV} {n : Nat} (td : ¬ bz (I 188 13) = 0) (r : Rel none U V H (wks I 31) (I 194) n) (Y : MI) (e188 : Y 188 13 = I 188 13) (e194 : Y 194 = I 194) (x : Int32) : (q_X8_walkerAt I 31 x = none ∧ M_X10_isWalker [mR (some 188), mI x] (Y, J) = some (some (mI 0), (Y, J))) ∨ ∃ k, k < 4 ∧ x = nI k ∧ q_X8_walkerAt I 31 x = some (31 + 6 * k) ∧ ¬ bz ((wks I 31 k).1 0 5) = 0 ∧ M_X10_isWalker [mR (some 188), mI x] (Y, J) = some (some (mI 1), (Y, J)) := by
  have td' : ¬ bz (Y 188 13) = 0 := by rw [e188]; exact td
  rw [E_X10_isWalker]
  simp only [h.fz, Option.bind_some, if_neg td', w_isIn x 0 3 _ (show (0 : Int64) = Int32.toInt64 0 from rfl) (show (3 : Int64) = Int32.toInt64 3 from rfl), asI_I]
  unfold q_X8_walkerAt
  by_cases a : x < 0
  · left
    simp [a]
  · by_cases b : (4 : Int32) ≤ x
    · left
      rw [if_neg a, if_pos b, if_neg a, if_pos (three.mpr b)]
      simp
    · have k4 := lt4 a b
      have xn : x = nI (ix x) := nI_ix a
      have ws := (r.K (ix x) k4).ws
      have wd : M_X10_walkerHas [mR (some 188), mI x, mI 0] (Y, J) = some (some (mI (bz ((wks I 31 (ix x)).1 0 5))), (Y, J)) := by
        have := w_walkerHas h Y 0 (show (0 : Int32) = nI 0 from rfl) k4 (by decide)
        rw [← xn, e194, ws] at this
        exact this
      have wzq : wz I 31 (ix x) = bz ((wks I 31 (ix x)).1 0 5) := rfl
      rw [if_neg a, if_neg b, wzq, if_neg a, if_neg (fun z => b (three.mp z)), if_neg i10]
      simp only [h.kt, if_true, wd, Option.bind_some, asI_I]
      by_cases z : bz ((wks I 31 (ix x)).1 0 5) = 0
      · left
        rw [if_pos z, z]
        simp
      · right
        refine ⟨ix x, k4, xn, by rw [if_neg z], z, ?_⟩
        rw [(bz_or _).resolve_left z]
        simp
theorem P_walker {I : MI} {J : MJ} {T B0 : Nat} (h : St I J T B0) (h30 : T + 10001 ≤ 1000000000) (x y : Int32) : Pair I J T B0 (M_X9_walker [mR (some 0), mI x, mI y]) (M_X10_walker [mR (some 188), mI x, mI y]) := by
  rcases h.2.2.2.2.2.2.2.2.2 with ⟨vol, ad, p, q, _, td, ⟨nn, t, i, _, r⟩, _⟩ | u
  · rcases w_isWalker h.1.2 td r I rfl rfl x with ⟨a1, a2⟩ | ⟨k, k4, xk, a1, a3, a2⟩
    · refine Pair.ask h h30 (u_walker h.1.1 I x y) (w := -1) ?_ ?_
      · rw [E_X10_walker]
        simp [h.1.2.kt, a2, asI]
      · unfold tlw
        rw [a1]
    · subst xk
      obtain ⟨m, d, l, rr, _, hw⟩ := i.W k k4 a3
      have b1 := hw.md
      have b2 := hw.dl
      have b3 := hw.l12
      have b4 := hw.m1
      have un := (r.K k k4).un a3
      have wM := r.M k k4 a3 (fun z => by cases z)
      have nh : ∀ f, f < 96 → ∀ z : Int32, z = nI f → M_X10_walkerHas [mR (some 188), mI (nI k), mI z] (I, J) = some (some (mI (I 194 (17 + 96 * k + f))), (I, J)) := fun f hf z hz => w_walkerHas h.1.2 I f hz k4 hf
      have lw : q_X7_lastOfWay (wks I 31 k).1 (wks I 31 k).2.2 = (wks I 31 k).2.2 0 (m - 1) := by
        unfold q_X7_lastOfWay
        rw [hw.m, if_neg (nI_nle (by omega) (by omega)), if_neg (show ¬ (25 : Int32) < nI m from nI_nlt (a := 25) (by omega) (by omega)), show nI m - 1 = nI (m - 1) from nI_sub (b := 1) (by omega), ix_nI (by omega)]
      have wy := (r.K k k4).wy a3 (m - 1) (by omega) (by rw [hw.m, ix_nI (by omega)]; omega)
      refine Pair.ask h h30 (u_walker h.1.1 I (nI k) y) (w := q_X7_tell 12 (wks I 31 k).1 (wks I 31 k).2.1 (wks I 31 k).2.2 y) ?_ ?_
      · rw [E_X10_walker]
        have e5 : (18 : Int32) + 3 * (nI m - 1) = nI (18 + 3 * (m - 1)) := by
          rw [show nI m - 1 = nI (m - 1) from nI_sub (b := 1) (by omega), show (18 : Int32) = nI 18 from rfl, show (3 : Int32) = nI 3 from rfl, nI_mul, nI_add]
        simp only [h.1.2.kt, if_true, a2, Option.bind_some, asI_I, if_neg i10, nh 1 (by decide) 1 rfl, nh 2 (by decide) 2 rfl, nh 3 (by decide) 3 rfl, nh 4 (by decide) 4 rfl, nh 5 (by decide) 5 rfl, un.1, un.2.1, un.2.2.1, un.2.2.2, wM, hw.m, nh (18 + 3 * (m - 1)) (by omega) _ e5, wy.1]
        unfold q_X7_tell
        rw [lw, hw.m]
        have bb : (if bz ((wks I 31 k).1 0 6) = 0 then (0 : Int32) else 1) = bz ((wks I 31 k).1 0 6) := by
          rcases bz_or ((wks I 31 k).1 0 6) with z | z
          · rw [if_pos z, z]
          · rw [z, if_neg i10]
        rw [bb]
        by_cases y0 : y = 0
        · simp [y0]
        · by_cases y1 : y = 1
          · simp [y1]
          · by_cases y2 : y = 2
            · simp [y2]
            · by_cases y3 : y = 3
              · simp [y3]
              · by_cases y4 : y = 4
                · simp [y4]
                · by_cases y5 : y = 5
                  · simp [y5]
                  · simp [y0, y1, y2, y3, y4, y5]
      · unfold tlw
        rw [a1]
        rfl
  · refine Pair.ask h h30 (u_walker h.1.1 I x y) (w := -1) ?_ ?_
    · rw [E_X10_walker, E_X10_isWalker]
      simp [h.1.2.kt, h.1.2.fz, u.2.1, asI]
    · unfold tlw q_X8_walkerAt
      by_cases a : x < 0
      · rw [if_pos a]
      · rw [if_neg a]
        by_cases b : (4 : Int32) ≤ x
        · rw [if_pos b]
        · rw [if_neg b, if_pos (show wz I 31 (ix x) = 0 from u.2.2.1.2.2.2.2.2.2 _ (lt4 a b))]
theorem w_walkerMany {J : MJ} (h : RefL J) (I : MI) (hb : ∀ k, k < 4 → I 194 (17 + 96 * k + 0) = 0 ∨ I 194 (17 + 96 * k + 0) = 1) : M_X10_walkerMany [mR (some 188)] (I, J) = some (some (mI (nI (cnt (fun k => decide (¬ I 194 (17 + 96 * k + 0) = 0)) 0 4))), (I, J)) := by
  rw [show M_X10_walkerMany [mR (some 188)] (I, J) = Ev T_X10_walkerMany 4 [some (mR (some 188)), some (mI 0), some (mI 0)] [] (I, J) from E_X10_walkerMany 188 (I, J)]
  have step := loop_cnt (fun k c => Ev T_X10_walkerMany 4 [some (mR (some 188)), some (mI (nI c)), some (mI (nI k))] [] (I, J)) (fun k => decide (¬ I 194 (17 + 96 * k + 0) = 0)) 4 (fun k c hk => by
    try dsimp only
    rw [E_X10_walkerMany_4, if_neg (show ¬ (4 : Int32) ≤ nI k from nI_ge hk (by decide))]
    simp only [h.kt, if_true, w_walkerHas h I 0 (show (0 : Int32) = nI 0 from rfl) hk (by decide), Option.bind_some, asI_I, nI_1]
    rcases hb k hk with z | z
    · rw [z]
      simp
    · rw [z]
      simp [nI_1]) 4 0 0 (by omega)
  try dsimp only at step
  rw [show (nI 0) = 0 from rfl] at step
  rw [step, E_X10_walkerMany_4, if_pos (show (4 : Int32) ≤ nI 4 by decide), Nat.zero_add]
theorem w_mounted {J : MJ} (h : RefL J) (I : MI) (V : MemV) (hv : ∀ v, v < 3 → I 194 (5 + v) = V 9 v) : M_X10_mounted [mR (some 188)] (I, J) = some (some (mI (q_X1_mountedBits V)), (I, J)) := by
  rw [E_X10_mounted]
  unfold q_X1_mountedBits o_X1_mountedBits
  have go : ∀ (nn k : Nat) (x : Int32), k + nn = 3 → Ev T_X10_mounted 4 [some (mR (some 188)), some (mI x), some (mI (nI k))] [] (I, J) = some (some (mI (lp_X1_mountedBits_4 V nn k x)), (I, J)) := by
    intro nn
    induction nn with
    | zero =>
      intro k x hk
      have : k = 3 := by omega
      subst this
      rw [E_X10_mounted_4, if_pos (show (3 : Int32) ≤ nI 3 by decide)]
      rfl
    | succ nn ih =>
      intro k x hk
      have e5 : (5 : Int32) + nI k = nI (5 + k) := nI_add 5 k
      rw [E_X10_mounted_4, if_neg (show ¬ (3 : Int32) ≤ nI k from nI_ge (b := 3) (by omega) (by decide))]
      simp only [h.f18, Option.bind_some, h.ldD _ e5 (show 5 + k < 1853 by omega), hv k (by omega), nI_1]
      unfold lp_X1_mountedBits_4
      by_cases z : V 9 k = -1
      · rw [if_pos z, if_pos z, Int32.or_zero]
        exact ih (k + 1) x (by omega)
      · rw [if_neg z, if_neg z]
        exact ih (k + 1) _ (by omega)
  exact go 3 0 0 (by omega)
/-- entries of a sort, counted by the reference -/
def ewB (V : MemV) (what : Int32) (k : Nat) : Bool := if V 1 k = 0 then false else if what = 3 then decide (V 4 k = -1) else if what = 4 then decide (V 1 k = 1 ∧ V 5 k = 0 ∧ ¬ V 2 k = -1) else decide (V 1 k = 2)
theorem Rel.entriesWith {U : NodV} {V : MemV} {H : OneV} {W : WkV} {D : RowV} {n vol t T : Nat} (r : Rel none U V H W D n) (i : Inv U V H W n vol t T (fun _ => 0)) {J : MJ} (h : RefL J) (I : MI) (hb : I 188 20 = -1) (G : RowV) (c : Int32) (x : Int32) : ∃ G', M_X10_entriesWith [mR (some 188), mI x] (rF I D G c, J) = some (some (mI (nI (cnt (ewB V x) 0 64))), (rF I D G' c, J)) := by
  obtain ⟨G', g1, g2⟩ := r.counts i h I (Or.inl ⟨hb, fun _ => rfl⟩) G c
  refine ⟨G', ?_⟩
  rw [E_X10_entriesWith]
  simp only [h.kt, if_true, g1, Option.bind_some, asV_n]
  have step := loop_cnt (fun k c' => Ev T_X10_entriesWith 8 [some (mR (some 188)), some (mI x), some (mI (nI c')), some (mI (nI k))] [] (rF I D G' c, J)) (fun k => decide (k < 64) && ewB V x k) 128 (fun k c' hk => by
    try dsimp only
    rw [E_X10_entriesWith_8, if_neg (show ¬ (128 : Int32) ≤ nI k from nI_ge hk (by decide))]
    simp only [h.kt, if_true, w_its h _ 0 (show (0 : Int32) = nI 0 from rfl) hk (by decide), w_its h _ 3 (show (3 : Int32) = nI 3 from rfl) hk (by decide), w_its h _ 8 (show (8 : Int32) = nI 8 from rfl) hk (by decide), w_isRootB h, h.f19, h.ldG _ rfl hk, Option.bind_some, asI_I, rF_D, rF_G, nI_1, w_flag]
    by_cases l : k < 64 ∧ ¬ V 1 k = 0
    · have en := r.B.en k l.1 l.2
      rw [r.B.th1 l.1 l.2, if_neg i10, en.2.2.1, en.2.2.2.2.2.2.2]
      unfold ewB
      rw [if_neg l.2]
      by_cases x3 : x = 3
      · subst x3
        by_cases z : V 4 k = -1
        · simp [z, l.1, nI_1]
        · simp [z]
      · rw [if_neg x3, if_neg x3]
        by_cases x4 : x = 4
        · subst x4
          have p0 : pnd none V W k = 0 := rfl
          have hL := (i.L k l.1).2.2 l.2
          have hL1 : nI (hc V H W k) = V 5 k := by
            have := hL.1
            rw [Nat.add_zero] at this
            exact this.symm
          rw [g2 k l.1 l.2, p0, Nat.add_zero, hL1]
          rcases i.M.st k l.1 with s | s | s
          · exact absurd s l.2
          · by_cases v5 : V 5 k = 0
            · by_cases v2 : V 2 k = -1
              · obtain ⟨v, v3, v4⟩ := i.M.ro k l.1 s v2
                rw [(r.eqr (nI k)).mpr ⟨v, v3, v4⟩]
                simp [s, v5, v2]
              · have nr : ¬ rtB D (nI k) = true := by
                  rw [r.eqr]
                  rintro ⟨v, v3, v4⟩
                  rcases i.M.rt v v3 with ⟨y, _⟩ | ⟨_, f, q64, y1, y2, y3, _⟩
                  · rw [y] at v4
                    exact nI_m1 (show k < 2 ^ 31 by omega) v4.symm
                  · have : f = k := (nI_eq (by omega) (by omega)).mp (y1.symm.trans v4)
                    rw [this] at y3
                    exact v2 y3
                simp [s, v5, v2, nr, l.1, nI_1]
            · simp [s, v5]
          · have v5 : ¬ V 5 k = 0 := fun z => by
              have := (i.hz l.1 l.2).mp z
              have := hL.2 s
              omega
            simp [s, v5]
        · rw [if_neg x4, if_neg x4]
          by_cases z : V 1 k = 2
          · simp [z, l.1, nI_1]
          · simp [z]
    · have th0 : D (701 + 9 * k + 0) = 0 := by rw [r.B.th k hk, if_neg l]
      rw [th0, if_pos rfl]
      by_cases k64 : k < 64
      · have : V 1 k = 0 := Classical.byContradiction (fun z => l ⟨k64, z⟩)
        simp [ewB, this]
      · simp [k64]) 128 0 0 (by omega)
  try dsimp only at step
  rw [show (nI 0) = 0 from rfl] at step
  rw [step, E_X10_entriesWith_8, if_pos (show (128 : Int32) ≤ nI 128 by decide), Nat.zero_add]
  have e : cnt (fun k => decide (k < 64) && ewB V x k) 0 128 = cnt (ewB V x) 0 64 := by
    rw [show (128 : Nat) = 64 + 64 from rfl, cnt_add, cnt_zero (k := 0 + 64) (fun k h1 h2 => by
      rw [decide_eq_false (show ¬ k < 64 by omega), Bool.false_and]), Nat.add_zero]
    exact cnt_cong (fun k _ hk => by rw [decide_eq_true (show k < 64 by omega), Bool.true_and])
  rw [e]
theorem Rel.manyAll {U : NodV} {V : MemV} {H : OneV} {W : WkV} {D : RowV} {n : Nat} (r : Rel none U V H W D n) : cnt (emB D (decide (¬ (1 : Int32) = 0))) 0 128 = c_X1_howMany V := by
  unfold c_X1_howMany
  rw [show (128 : Nat) = 64 + 64 from rfl, cnt_add, cnt_zero (k := 0 + 64) (fun k h1 h2 => by
    unfold emB thQ
    rw [r.B.th0 (by omega) (fun z => by omega)]
    simp), Nat.add_zero]
  refine cnt_cong (fun k _ hk => ?_)
  unfold emB thQ
  by_cases z : V 1 k = 0
  · rw [r.B.th0 (by omega) (fun _ => z)]
    simp [z]
  · rw [r.B.th1 (by omega) z]
    simp [z]
theorem isE_k {V : MemV} {k : Nat} (hk : k < 64) : q_X1_isEntry V (nI k) = if V 1 k = 0 then 0 else 1 := by
  unfold q_X1_isEntry
  rw [if_neg (n64 hk).1, if_neg (n64 hk).2.2, ix64 hk]
theorem ew_3 (V : MemV) : q_X1_absences V = nI (cnt (ewB V 3) 0 64) := by
  have e : c_X1_absences V = cnt (ewB V 3) 0 64 := by
    unfold c_X1_absences
    refine cnt_cong (fun k _ hk => ?_)
    unfold q_X1_isAbsence ewB
    rw [isE_k (by omega), ix64 (by omega)]
    by_cases z : V 1 k = 0
    · simp [z]
    · by_cases y : V 4 k = -1
      · simp [z, y]
      · simp [z, y]
  show nI (c_X1_absences V) = _
  rw [e]
theorem ew_4 (V : MemV) : q_X1_freeOnes V = nI (cnt (ewB V 4) 0 64) := by
  have e : c_X1_freeOnes V = cnt (ewB V 4) 0 64 := by
    unfold c_X1_freeOnes
    refine cnt_cong (fun k _ hk => ?_)
    unfold ewB
    by_cases z : V 1 k = 0
    · simp [z]
    · by_cases o : V 1 k = 1
      · by_cases y : V 5 k = 0
        · by_cases w : V 2 k = -1
          · simp [o, y, w]
          · simp [o, y, w]
        · simp [o, y]
      · simp [o, z]
  show nI (c_X1_freeOnes V) = _
  rw [e]
theorem ew_15 (V : MemV) : q_X1_goneOnes V = nI (cnt (ewB V 15) 0 64) := by
  have e : c_X1_goneOnes V = cnt (ewB V 15) 0 64 := by
    unfold c_X1_goneOnes
    refine cnt_cong (fun k _ hk => ?_)
    unfold q_X1_isGone ewB
    rw [isE_k (by omega), ix64 (by omega)]
    by_cases z : V 1 k = 0
    · simp [z]
    · by_cases y : V 1 k = 2
      · simp [y]
      · simp [z, y]
  show nI (c_X1_goneOnes V) = _
  rw [e]
theorem P_has {I : MI} {J : MJ} {T B0 : Nat} (h : St I J T B0) (h30 : T + 10001 ≤ 1000000000) (x : Int32) : Pair I J T B0 (M_X9_has [mR (some 0), mI x]) (M_X10_has [mR (some 188), mI x]) := by
  have rl := h.1.2
  obtain ⟨L, s7⟩ := h.2.2.2.2.2.2.2.1
  by_cases ou : x < 0 ∨ 15 < x
  · refine Pair.ask h h30 (u_has h.1.1 I x) (w := -1) ?_ ?_
    · rw [E_X10_has, w_isIn x 0 15 _ (show (0 : Int64) = Int32.toInt64 0 from rfl) (show (15 : Int64) = Int32.toInt64 15 from rfl)]
      have : (if x < 0 then (0 : Int32) else if 15 < x then 0 else 1) = 0 := by
        rcases ou with z | z
        · rw [if_pos z]
        · rw [if_pos z]; split <;> rfl
      simp only [Option.bind_some, asI_I, this, if_true]
    · have ne : ∀ j : Int32, ¬ j < 0 → ¬ 15 < j → ¬ x = j := fun j a b z => by
        subst z
        exact ou.elim a b
      unfold hasQ
      rw [if_neg (ne 0 (by decide) (by decide)), if_neg (ne 1 (by decide) (by decide)), if_neg (ne 2 (by decide) (by decide)), if_neg (ne 3 (by decide) (by decide)), if_neg (ne 4 (by decide) (by decide)), if_neg (ne 5 (by decide) (by decide)), if_neg (ne 6 (by decide) (by decide)), if_neg (ne 7 (by decide) (by decide)), if_neg (ne 8 (by decide) (by decide)), if_neg (ne 9 (by decide) (by decide)), if_neg (ne 10 (by decide) (by decide)), if_neg (ne 11 (by decide) (by decide)), if_neg (ne 12 (by decide) (by decide)), if_neg (ne 13 (by decide) (by decide)), if_neg (ne 14 (by decide) (by decide)), if_neg (ne 15 (by decide) (by decide))]
  · have a : ¬ x < 0 := fun z => ou (Or.inl z)
    have b : ¬ 15 < x := fun z => ou (Or.inr z)
    have xn : x = nI (ix x) := nI_ix a
    have x15 : ix x ≤ 15 := by
      rcases Nat.lt_or_ge 15 (ix x) with z | z
      · exact absurd (by rw [xn]; exact nI_lt (a := 15) z (ix_lt x)) b
      · exact z
    have isin : (if x < 0 then (0 : Int32) else if 15 < x then 0 else 1) = 1 := by rw [if_neg a, if_neg b]
    have cases16 : x = 0 ∨ x = 1 ∨ x = 2 ∨ x = 3 ∨ x = 4 ∨ x = 5 ∨ x = 6 ∨ x = 7 ∨ x = 8 ∨ x = 9 ∨ x = 10 ∨ x = 11 ∨ x = 12 ∨ x = 13 ∨ x = 14 ∨ x = 15 := by
      rw [xn]
      have : ∀ j, j ≤ 15 → nI j = 0 ∨ nI j = 1 ∨ nI j = 2 ∨ nI j = 3 ∨ nI j = 4 ∨ nI j = 5 ∨ nI j = 6 ∨ nI j = 7 ∨ nI j = 8 ∨ nI j = 9 ∨ nI j = 10 ∨ nI j = 11 ∨ nI j = 12 ∨ nI j = 13 ∨ nI j = 14 ∨ nI j = 15 := by decide
      exact this _ x15
    rcases h.2.2.2.2.2.2.2.2.2 with ⟨vol, ad, p, q, hv, td, ⟨nn, t, i, _, r⟩, hs⟩ | u
    · have s8 := h.2.2.2.2.2.2.2.2.1
      have em := w_entryMany rl I 1
      rw [r.manyAll] at em
      have hm : cnt (fun k => decide (¬ I 194 (11 + k) = -1)) 0 6 = c_X8_handlesOpen (vw 1 I 16) (vw 1 I 29) := cnt_cong (fun k _ hk => by
        rw [r.B.ha k (by omega)]
        by_cases z : vw 1 I 29 0 k = -1
        · simp [z]
        · simp [z])
      have wm : cnt (fun k => decide (¬ I 194 (17 + 96 * k + 0) = 0)) 0 4 = cnt (fun k => decide (¬ wz I 31 k = 0)) 0 4 := cnt_cong (fun k _ hk => by
        rw [(r.K k (by omega)).ws]
        rfl)
      have wmm := w_walkerMany rl I (fun k hk => by rw [(r.K k hk).ws]; exact bz_or _)
      rw [wm] at wmm
      have hmm := w_handleMany rl I
      rw [hm] at hmm
      have mo := w_mounted rl I (vw 12 I 17) r.B.rt
      have nm := w_nodeMany rl i.N r (-1)
      rw [if_pos rfl] at nm
      have i16 : I 1 6 = I 188 11 := (show vw 6 I 1 0 6 = nI vol from i.N.vs).trans hv.symm
      have ask : ∀ w, M_X10_has [mR (some 188), mI x] (I, J) = some (some (mI w), (I, J)) → hasQ I x = w → Pair I J T B0 (M_X9_has [mR (some 0), mI x]) (M_X10_has [mR (some 188), mI x]) := fun w e1 e2 => Pair.ask h h30 (u_has h.1.1 I x) e1 e2
      have askG : ∀ w G', M_X10_has [mR (some 188), mI x] (I, J) = some (some (mI w), (rF I (I 194) G' (I 188 22), J)) → hasQ I x = w → Pair I J T B0 (M_X9_has [mR (some 0), mI x]) (M_X10_has [mR (some 188), mI x]) := fun w G' e1 e2 => ⟨_, _, _, J, u_has h.1.1 I x, by rw [e2]; exact e1, h.rf h30 (fun _ _ => rfl)⟩
      have ew : ∀ y, ∃ G', M_X10_entriesWith [mR (some 188), mI y] (I, J) = some (some (mI (nI (cnt (ewB (vw 12 I 17) y) 0 64))), (rF I (I 194) G' (I 188 22), J)) := fun y => by
        have := r.entriesWith i rl I s8.1 (I 195) (I 188 22) y
        rw [rF_id] at this
        exact this
      have eh := E_X10_has 188 x (I, J)
      rw [w_isIn x 0 15 _ (show (0 : Int64) = Int32.toInt64 0 from rfl) (show (15 : Int64) = Int32.toInt64 15 from rfl)] at eh
      simp only [Option.bind_some, asI_I, isin, if_neg i10, rl.fz, if_neg td, rl.kt, if_true, rl.fi, rl.f18, rl.ldD _ (show (3 : Int32) = nI 3 from rfl) (show 3 < 1853 by decide), rl.ldD _ (show (0 : Int32) = nI 0 from rfl) (show 0 < 1853 by decide), rl.ldD _ (show (1 : Int32) = nI 1 from rfl) (show 1 < 1853 by decide), rl.ldD _ (show (2 : Int32) = nI 2 from rfl) (show 2 < 1853 by decide), hmm, wmm, mo, nm, em] at eh
      rcases cases16 with z | z | z | z | z | z | z | z | z | z | z | z | z | z | z | z
      · subst z; exact ask (I 188 11) (by rw [eh]; simp) (by simp [hasQ]; exact i16)
      · subst z; exact ask (q_X2_howMany (vw 6 I 1)) (by rw [eh]; simp) (by simp [hasQ])
      · subst z; exact ask (nI (c_X1_howMany (vw 12 I 17))) (by rw [eh]; simp) (by simp [hasQ]; rfl)
      · subst z
        obtain ⟨G', g⟩ := ew 3
        exact askG (nI (cnt (ewB (vw 12 I 17) 3) 0 64)) G' (by rw [eh]; simp [g, asI]) (by simp [hasQ]; exact ew_3 _)
      · subst z
        obtain ⟨G', g⟩ := ew 4
        exact askG (nI (cnt (ewB (vw 12 I 17) 4) 0 64)) G' (by rw [eh]; simp [g, asI]) (by simp [hasQ]; exact ew_4 _)
      · subst z; exact ask (I 194 3) (by rw [eh]; simp) (by simp [hasQ]; exact r.B.rm.symm)
      · subst z; exact ask (I 194 0) (by rw [eh]; simp) (by simp [hasQ]; exact r.B.tk.symm)
      · subst z; exact ask (I 194 1) (by rw [eh]; simp) (by simp [hasQ]; exact r.B.lo.symm)
      · subst z; exact ask (I 194 2) (by rw [eh]; simp) (by simp [hasQ]; exact r.B.tr.symm)
      · subst z; exact ask (nI (c_X8_handlesOpen (vw 1 I 16) (vw 1 I 29))) (by rw [eh]; simp) (by simp [hasQ]; rfl)
      · subst z; exact ask (q_X8_walkersUnderWay I 31) (by rw [eh]; simp [q_X8_walkersUnderWay]) (by simp [hasQ])
      · subst z; exact ask (q_X1_mountedBits (vw 12 I 17)) (by rw [eh]; simp) (by simp [hasQ])
      · subst z; exact ask (I 188 36) (by rw [eh]; simp) (by simp [hasQ]; exact s7.1.trans s7.2.2.1.symm)
      · subst z; exact ask (I 188 37) (by rw [eh]; simp) (by simp [hasQ]; exact s7.2.2.2.1)
      · subst z; exact ask (I 188 28) (by rw [eh]; simp) (by simp [hasQ]; exact hs.1.2.2.1.trans hs.2.1.1.symm)
      · subst z
        obtain ⟨G', g⟩ := ew 15
        exact askG (nI (cnt (ewB (vw 12 I 17) 15) 0 64)) G' (by rw [eh]; simp [g, asI]) (by simp [hasQ]; exact ew_15 _)
    · refine Pair.ask h h30 (u_has h.1.1 I x) (w := if x = 13 then -1 else 0) ?_ ?_
      · rw [E_X10_has, w_isIn x 0 15 _ (show (0 : Int64) = Int32.toInt64 0 from rfl) (show (15 : Int64) = Int32.toInt64 15 from rfl)]
        simp only [Option.bind_some, asI_I, isin, if_neg i10, rl.fz, u.2.1, if_true]
        split <;> rfl
      · obtain ⟨u1, u2, ⟨g1, g2, g3, g4, g5, g6, g7⟩, u4, ad, p, u5⟩ := u
        have zc : ∀ P : Nat → Bool, (∀ k, k < 64 → P k = false) → nI (cnt P 0 64) = 0 := fun P hP => by
          rw [cnt_zero (fun k _ hk => hP k (by omega))]; rfl
        have e5 : vw 6 I 1 0 5 = 0 := g1
        have v1 : ∀ k, k < 64 → vw 12 I 17 1 k = 0 := g3
        have hist := u5.1.2.2.1
        rcases cases16 with z | z | z | z | z | z | z | z | z | z | z | z | z | z | z | z
        · subst z; simp [hasQ]; exact g2
        · subst z
          simp [hasQ]
          unfold q_X2_howMany evN
          rw [e5]
          rfl
        · subst z; simp [hasQ]; exact zc _ (fun k hk => by rw [if_pos (v1 k hk)])
        · subst z; simp [hasQ]; rw [ew_3]; exact zc _ (fun k hk => by unfold ewB; rw [if_pos (v1 k hk)])
        · subst z; simp [hasQ]; rw [ew_4]; exact zc _ (fun k hk => by unfold ewB; rw [if_pos (v1 k hk)])
        · subst z; simp [hasQ]; exact g5.1
        · subst z; simp [hasQ]; exact g5.2.1
        · subst z; simp [hasQ]; exact g5.2.2.1
        · subst z; simp [hasQ]; exact g5.2.2.2
        · subst z
          simp [hasQ]
          show nI (cnt _ 0 6) = 0
          rw [cnt_zero (fun k _ hk => by rw [if_pos (show vw 1 I 29 0 k = -1 from g6 k (by omega))])]
          rfl
        · subst z
          simp [hasQ]
          show nI (cnt _ 0 4) = 0
          rw [cnt_zero (fun k _ hk => by
            have : wz I 31 k = 0 := g7 k (by omega)
            rw [this]; decide)]
          rfl
        · subst z
          simp [hasQ]
          have m0 : vw 12 I 17 9 0 = -1 := (g4 0 (by decide)).1
          have m1 : vw 12 I 17 9 1 = -1 := (g4 1 (by decide)).1
          have m2 : vw 12 I 17 9 2 = -1 := (g4 2 (by decide)).1
          show lp_X1_mountedBits_4 (vw 12 I 17) 3 0 0 = 0
          simp [lp_X1_mountedBits_4, m0, m1, m2]
        · subst z; simp [hasQ]; exact u4.1
        · subst z; simp [hasQ]; exact u4.2
        · subst z; simp [hasQ]; exact hist
        · subst z; simp [hasQ]; rw [ew_15]; exact zc _ (fun k hk => by unfold ewB; rw [if_pos (v1 k hk)])
