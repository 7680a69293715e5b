/-! Questions about nodes, entries, walkers. -/
theorem St.rf {I : MI} {J : MJ} {T B0 : Nat} {D G : RowV} {c : Int32} (h : St I J T B0) (h30 : T + 10001 ≤ 1000000000) (hD : ∀ k, k < 1853 → D k = I 194 k) : St (rF I D G c) J (T + 10001) B0 := by
  have o : ∀ x, x ≠ 188 → x ≠ 194 → x ≠ 195 → rF I D G c x = I x := fun x a b d => rF_o _ _ _ _ a b d
  have k : ∀ j, j ≠ 22 → rF I D G c 188 j = I 188 j := fun j a => rF_k _ _ _ _ a
  obtain ⟨L, s7⟩ := h.2.2.2.2.2.2.2.1
  refine h.sm (h.2.1.fr (o _ (by decide) (by decide) (by decide)) (o _ (by decide) (by decide) (by decide)) (k _ (by decide)) (o _ (by decide) (by decide) (by decide))) (h.2.2.1.fr (o _ (by decide) (by decide) (by decide)) (k _ (by decide)) (k _ (by decide))) (h.2.2.2.1.fr (o _ (by decide) (by decide) (by decide)) (o _ (by decide) (by decide) (by decide))) (h.2.2.2.2.1.fr (by rw [o 0 (by decide) (by decide) (by decide)]) (o _ (by decide) (by decide) (by decide)) (k _ (by decide)) (o _ (by decide) (by decide) (by decide))) (h.2.2.2.2.2.1.fr (by rw [o 0 (by decide) (by decide) (by decide)]) (o _ (by decide) (by decide) (by decide)) (k _ (by decide)) (o _ (by decide) (by decide) (by decide))) ⟨L, s7.fr (by rw [o 69 (by decide) (by decide) (by decide)]) (by rw [o 69 (by decide) (by decide) (by decide)]) (fun y _ _ => o y (by omega) (by omega) (by omega)) (k _ (by decide)) (k _ (by decide)) (o _ (by decide) (by decide) (by decide)) (o _ (by decide) (by decide) (by decide))⟩ (h.2.2.2.2.2.2.2.2.1.fr (k _ (by decide)) (k _ (by decide))) (fun y a _ _ _ _ _ => o y (by omega) (by omega) (by omega)) (o _ (by decide) (by decide) (by decide)) (fun _ => ⟨by rw [o 69 (by decide) (by decide) (by decide)], by rw [o 69 (by decide) (by decide) (by decide)]⟩) (fun y a => o y (by omega) (by omega) (by omega)) (fun j q => k j (by omega)) (fun j hj => by rw [rF_D]; exact hD j hj) (o _ (by decide) (by decide) (by decide)) (by omega) h30
theorem lt60 {x : Int32} {n : Nat} (h0 : ¬ x < 0) (hn : n ≤ 60) (h : ¬ nI n ≤ x) : ix x < n := by
  rcases Nat.lt_or_ge (ix x) n with z | z
  · exact z
  · exact absurd (by rw [nI_ix h0]; exact nI_le z (ix_lt x)) h
theorem w_isNode {I : MI} {J : MJ} (h : RefL J) {U : NodV} {V : MemV} {H : OneV} {W : WkV} {n vol : Nat} (td : ¬ bz (I 188 13) = 0) (hN : NodI U n vol) (r : Rel none U V H W (I 194) n) (x : Int32) : M_X10_isNode [mR (some 188), mI x] (I, J) = some (some (mI (q_X2_exists U x)), (I, J)) ∧ (¬ q_X2_exists U x = 0 → x = nI (ix x) ∧ ix x < n ∧ ¬ U 4 (ix x) = 0) := by
  have n60 := hN.n60
  have ev : I 194 4 = nI n := r.B.ev.trans hN.ev
  have key : q_X2_exists U x = if x < 0 then 0 else if nI n ≤ x then 0 else if U 4 (ix x) = 0 then 0 else 1 := by
    unfold q_X2_exists
    rw [hN.ev]
    by_cases a : x < 0
    · rw [if_pos a, if_pos a]
    · rw [if_neg a, if_neg a]
      by_cases b : nI n ≤ x
      · rw [if_pos b]
        split <;> rfl
      · rw [if_neg b, if_neg]
        intro z
        have := lt60 a n60 b
        rw [nI_ix a] at z
        exact nI_ge (b := 60) (show ix x < 60 by omega) (by decide) z
  have lst : nI n - 1 < x ↔ nI n ≤ x ∨ (n = 0 ∧ ¬ x < 0) := by
    rw [Int32.lt_iff_toInt_lt, Int32.le_iff_toInt_le, Int32.lt_iff_toInt_lt, Int32.toInt_sub, nI_toInt (by omega)]
    have e1 : (1 : Int32).toInt = 1 := rfl
    have e0 : (0 : Int32).toInt = 0 := rfl
    rw [e1, e0, Int.bmod_eq_of_le (by omega) (by omega)]
    omega
  constructor
  · rw [E_X10_isNode]
    simp only [h.fz, Option.bind_some, if_neg td, h.f18, h.ldD _ (show (4 : Int32) = nI 4 from rfl) (show 4 < 1853 by decide), ev, w_isIn x 0 (nI n - 1) _ (show (0 : Int64) = Int32.toInt64 0 from rfl) rfl, asI_I]
    rw [key]
    by_cases a : x < 0
    · simp [a]
    · rw [if_neg a, if_neg a]
      by_cases b : nI n ≤ x
      · rw [if_pos (lst.mpr (Or.inl b)), if_pos b]
        simp
      · have lt := lt60 a n60 b
        rw [if_neg (fun z => (lst.mp z).elim b (fun w => by omega)), if_neg b, if_neg i10]
        have xn : x = nI (ix x) := nI_ix a
        have nd := r.B.nd (ix x) lt
        rw [xn]
        simp only [h.kt, if_true, w_nodeHas h I 4 (show (4 : Int32) = nI 4 from rfl) (show ix x < 60 by omega) (by decide), Option.bind_some, asI_I, nd.2.2.2.1]
        rw [ix_nI (ix_lt x)]
        by_cases z : U 4 (ix x) = 0
        · simp [z]
        · simp [z]
  · intro q
    rw [key] at q
    by_cases a : x < 0
    · rw [if_pos a] at q; exact absurd rfl q
    · rw [if_neg a] at q
      by_cases b : nI n ≤ x
      · rw [if_pos b] at q; exact absurd rfl q
      · rw [if_neg b] at q
        refine ⟨nI_ix a, lt60 a n60 b, fun z => ?_⟩
        rw [if_pos z] at q
        exact q rfl
theorem w_isEntry {I : MI} {J : MJ} (h : RefL J) {U : NodV} {V : MemV} {H : OneV} {W : WkV} {n : Nat} (td : ¬ bz (I 188 13) = 0) (r : Rel none U V H W (I 194) n) (x : Int32) : M_X10_isEntry [mR (some 188), mI x] (I, J) = some (some (mI (q_X1_isEntry V x)), (I, J)) ∧ (¬ q_X1_isEntry V x = 0 → x = nI (ix x) ∧ ix x < 64 ∧ ¬ V 1 (ix x) = 0) := by
  have lst : (127 : Int32) < x ↔ (128 : Int32) ≤ x := by
    rw [Int32.lt_iff_toInt_lt, Int32.le_iff_toInt_le]
    have a : (127 : Int32).toInt = 127 := rfl
    have b : (128 : Int32).toInt = 128 := rfl
    omega
  have l64 : ¬ x < 0 → ¬ (64 : Int32) ≤ x → ix x < 64 := fun a b => by
    rcases Nat.lt_or_ge (ix x) 64 with z | z
    · exact z
    · exact absurd (by rw [nI_ix a]; exact nI_le (a := 64) z (ix_lt x)) b
  constructor
  · rw [E_X10_isEntry]
    simp only [h.fz, Option.bind_some, if_neg td, w_isIn x 0 127 _ (show (0 : Int64) = Int32.toInt64 0 from rfl) (show (127 : Int64) = Int32.toInt64 127 from rfl), asI_I]
    unfold q_X1_isEntry
    by_cases a : x < 0
    · simp [a]
    · rw [if_neg a, if_neg a]
      by_cases b : (128 : Int32) ≤ x
      · rw [if_pos (lst.mpr b), if_pos (Int32.le_trans (by decide) b)]
        simp
      · have xn : x = nI (ix x) := nI_ix a
        have l128 : ix x < 128 := by
          rcases Nat.lt_or_ge (ix x) 128 with z | z
          · exact z
          · exact absurd (by rw [xn]; exact nI_le (a := 128) z (ix_lt x)) b
        rw [if_neg (fun z => b (lst.mp z)), if_neg i10]
        have w : M_X10_its [mR (some 188), mI x, mI 0] (I, J) = some (some (mI (I 194 (701 + 9 * ix x + 0))), (I, J)) := by
          rw [xn]
          have := w_its h I 0 (show (0 : Int32) = nI 0 from rfl) l128 (by decide)
          rw [ix_nI (ix_lt x)]
          exact this
        simp only [h.kt, if_true, w, Option.bind_some, asI_I]
        by_cases c : (64 : Int32) ≤ x
        · have : ¬ ix x < 64 := fun z => nI_ge (b := 64) z (by decide) (by rw [xn] at c; exact c)
          rw [r.B.th0 l128 (fun z => absurd z this), if_pos c]
          simp
        · rw [if_neg c]
          by_cases z : V 1 (ix x) = 0
          · rw [r.B.th0 l128 (fun _ => z), if_pos z]
            simp
          · rw [r.B.th1 (l64 a c) z, if_neg z]
            simp
  · intro q
    unfold q_X1_isEntry at q
    by_cases a : x < 0
    · rw [if_pos a] at q; exact absurd rfl q
    · rw [if_neg a] at q
      by_cases b : (64 : Int32) ≤ x
      · rw [if_pos b] at q; exact absurd rfl q
      · rw [if_neg b] at q
        refine ⟨nI_ix a, l64 a b, fun z => ?_⟩
        rw [if_pos z] at q
        exact q rfl
theorem w_nodeMany {I : MI} {J : MJ} (h : RefL J) {U : NodV} {V : MemV} {H : OneV} {W : WkV} {n vol : Nat} (hN : NodI U n vol) (r : Rel none U V H W (I 194) n) (x : Int32) : M_X10_nodeMany [mR (some 188), mI x] (I, J) = some (some (mI (if x = -1 then q_X2_howMany U else q_X2_howManyIn U x)), (I, J)) := by
  have n60 := hN.n60
  have ev : I 194 4 = nI n := r.B.ev.trans hN.ev
  rw [E_X10_nodeMany]
  have step := loop_cnt (fun k c => Ev T_X10_nodeMany 4 [some (mR (some 188)), some (mI x), some (mI (nI c)), some (mI (nI k))] [] (I, J)) (fun k => if x = -1 then decide (¬ U 4 k = 0) else decide (¬ U 4 k = 0 ∧ U 2 k = x)) n (fun k c hk => by
    try dsimp only
    have nd := r.B.nd k hk
    rw [E_X10_nodeMany_4]
    simp only [h.f18, Option.bind_some, h.ldD _ (show (4 : Int32) = nI 4 from rfl) (show 4 < 1853 by decide), ev]
    rw [if_neg (nI_ge hk (by omega))]
    simp only [h.kt, if_true, w_nodeHas h I 4 (show (4 : Int32) = nI 4 from rfl) (show k < 60 by omega) (by decide), w_nodeHas h I 2 (show (2 : Int32) = nI 2 from rfl) (show k < 60 by omega) (by decide), Option.bind_some, asI_I, nI_1, nd.2.1, nd.2.2.2.1]
    by_cases a : U 4 k = 0
    · simp [a]
    · by_cases b : x = -1
      · simp [a, b]
      · by_cases d : U 2 k = x
        · simp [a, b, d]
        · simp [a, b, d]) n 0 0 (by omega)
  try dsimp only at step
  rw [show (nI 0) = 0 from rfl] at step
  rw [step, E_X10_nodeMany_4]
  simp only [h.f18, Option.bind_some, h.ldD _ (show (4 : Int32) = nI 4 from rfl) (show 4 < 1853 by decide), ev]
  rw [if_pos (Int32.le_refl _), Nat.zero_add]
  unfold q_X2_howMany q_X2_howManyIn
  rw [hN.evn]
  by_cases b : x = -1
  · simp [b]
  · simp [b]
theorem P_node {I : MI} {J : MJ} {T B0 : Nat} (h : St I J T B0) (h30 : T + 10001 ≤ 1000000000) (x y : Int32) : Pair I J T B0 (M_X9_node [mR (some 0), mI x, mI y]) (M_X10_node [mR (some 188), mI x, mI y]) := by
  rcases h.2.2.2.2.2.2.2.2.2 with ⟨vol, ad, p, q, _, td, ⟨nn, t, i, _, r⟩, _⟩ | u
  · have wn := w_isNode h.1.2 td i.N r x
    refine Pair.ask h h30 (u_node h.1.1 I x y) (w := q_X2_tell (vw 6 I 1) x y) ?_ rfl
    rw [E_X10_node]
    simp only [h.1.2.kt, if_true, wn.1, Option.bind_some, asI_I]
    unfold q_X2_tell
    by_cases a : q_X2_exists (vw 6 I 1) x = 0
    · rw [if_pos a, if_pos a]
    · obtain ⟨b1, b2, b3⟩ := wn.2 a
      have n60 := i.N.n60
      have nd := r.B.nd (ix x) b2
      have nh : ∀ f, f < 5 → ∀ z : Int32, z = nI f → M_X10_nodeHas [mR (some 188), mI x, mI z] (I, J) = some (some (mI (I 194 (401 + 5 * ix x + f))), (I, J)) := fun f hf z hz => by
        have := w_nodeHas h.1.2 I f hz (show ix x < 60 by omega) hf
        rw [← b1] at this
        exact this
      have nx : ¬ x = -1 := by rw [b1]; exact nI_m1 (ix_lt x)
      rw [if_neg a, if_neg a]
      simp only [nh 0 (by decide) 0 rfl, nh 1 (by decide) 1 rfl, nh 2 (by decide) 2 rfl, w_nodeMany h.1.2 i.N r x, if_neg nx, Option.bind_some, asI_I, nd.1, nd.2.1, nd.2.2.2.2 b3]
      by_cases y0 : y = 0
      · simp [y0]
      · by_cases y1 : y = 1
        · simp [y1]
        · by_cases y2 : y = 2
          · simp [y2]
          · by_cases y3 : y = 3
            · simp [y3]
            · simp [y0, y1, y2, y3]
  · refine Pair.ask h h30 (u_node h.1.1 I x y) (w := -1) ?_ ?_
    · rw [E_X10_node, E_X10_isNode]
      simp [h.1.2.kt, h.1.2.fz, u.2.1, asI]
    · unfold q_X2_tell q_X2_exists
      rw [if_pos]
      have e5 : vw 6 I 1 0 5 = 0 := u.2.2.1.1
      rw [e5]
      by_cases a : x < 0
      · rw [if_pos a]
      · rw [if_neg a]
        by_cases b : (60 : Int32) ≤ x
        · rw [if_pos b]
        · rw [if_neg b, if_pos (Int32.not_lt.mp a)]
theorem P_entry {I : MI} {J : MJ} {T B0 : Nat} (h : St I J T B0) (h30 : T + 10001 ≤ 1000000000) (x y : Int32) : Pair I J T B0 (M_X9_entry [mR (some 0), mI x, mI y]) (M_X10_entry [mR (some 188), mI x, mI y]) := by
  rcases h.2.2.2.2.2.2.2.2.2 with ⟨vol, ad, p, q, _, td, ⟨nn, t, i, _, r⟩, _⟩ | u
  · have wn := w_isEntry h.1.2 td r x
    by_cases a : q_X1_isEntry (vw 12 I 17) x = 0
    · refine Pair.ask h h30 (u_entry h.1.1 I x y) (w := -1) ?_ ?_
      · rw [E_X10_entry]
        simp only [h.1.2.kt, if_true, wn.1, Option.bind_some, asI_I, if_pos a]
      · unfold q_X1_tell
        rw [if_pos a]
    · obtain ⟨b1, b2, b3⟩ := wn.2 a
      have en := r.B.en (ix x) b2 b3
      have nh : ∀ f, f < 9 → ∀ z : Int32, z = nI f → M_X10_its [mR (some 188), mI x, mI z] (I, J) = some (some (mI (I 194 (701 + 9 * ix x + f))), (I, J)) := fun f hf z hz => by
        have := w_its h.1.2 I f hz (show ix x < 128 by omega) hf
        rw [← b1] at this
        exact this
      by_cases y2 : y = 2
      · have s8 := h.2.2.2.2.2.2.2.2.1
        obtain ⟨G', g1, g2⟩ := r.counts i h.1.2 I (Or.inl ⟨s8.1, fun _ => rfl⟩) (I 195) (I 188 22)
        rw [rF_id] at g1
        refine ⟨_, _, rF I (I 194) G' (I 188 22), J, u_entry h.1.1 I x y, ?_, h.rf h30 (fun _ _ => rfl)⟩
        rw [E_X10_entry]
        have e : q_X1_tell (vw 12 I 17) x y = vw 12 I 17 5 (ix x) := by
          unfold q_X1_tell
          subst y2
          rw [if_neg a, if_neg (by decide), if_neg (by decide), if_pos rfl]
        have e5 : vw 12 I 17 5 (ix x) = G' (ix x) := by
          have p0 : pnd none (vw 12 I 17) (wks I 31) (ix x) = 0 := rfl
          rw [g2 (ix x) b2 b3, ((i.L (ix x) b2).2.2 b3).1, p0, Nat.add_zero]
        subst y2
        simp only [h.1.2.kt, if_true, wn.1, Option.bind_some, asI_I, if_neg a, if_neg (show ¬ (2 : Int32) = 0 by decide), if_neg (show ¬ (2 : Int32) = 1 by decide), g1, asV_n, h.1.2.f19, h.1.2.ldG _ b1 (show ix x < 128 by omega), rF_G]
        rw [e, e5]
      · refine Pair.ask h h30 (u_entry h.1.1 I x y) (w := q_X1_tell (vw 12 I 17) x y) ?_ rfl
        rw [E_X10_entry]
        unfold q_X1_tell
        have cv : q_X1_coveringVolume (vw 12 I 17) (nI (ix x)) = q_X1_coveringVolume (vw 12 I 17) x := by rw [← b1]
        simp only [h.1.2.kt, if_true, wn.1, Option.bind_some, asI_I, if_neg a, if_neg y2, nh 1 (by decide) 1 rfl, nh 3 (by decide) 3 rfl, nh 4 (by decide) 4 rfl, nh 5 (by decide) 5 rfl, nh 6 (by decide) 6 rfl, nh 7 (by decide) 7 rfl, nh 8 (by decide) 8 rfl, en.1, en.2.2.1, en.2.2.2.1, en.2.2.2.2.1, en.2.2.2.2.2.1, en.2.2.2.2.2.2.1, en.2.2.2.2.2.2.2, cv]
        by_cases y0 : y = 0
        · simp [y0]
        · by_cases y1 : y = 1
          · simp [y1]
          · by_cases y3 : y = 3
            · simp [y3]
            · by_cases y4 : y = 4
              · simp [y4]
              · by_cases y5 : y = 5
                · simp [y5]
                · by_cases y6 : y = 6
                  · simp [y6]
                  · by_cases y7 : y = 7
                    · simp [y7]
                    · simp [y0, y1, y3, y4, y5, y6, y7]
  · refine Pair.ask h h30 (u_entry h.1.1 I x y) (w := -1) ?_ ?_
    · rw [E_X10_entry, E_X10_isEntry]
      simp [h.1.2.kt, h.1.2.fz, u.2.1, asI]
    · unfold q_X1_tell q_X1_isEntry
      rw [if_pos]
      by_cases a : x < 0
      · rw [if_pos a]
      · rw [if_neg a]
        by_cases b : (64 : Int32) ≤ x
        · rw [if_pos b]
        · rw [if_neg b, if_pos]
          refine u.2.2.1.2.2.1 (ix x) ?_
          rcases Nat.lt_or_ge (ix x) 64 with z | z
          · exact z
          · exact absurd (by rw [nI_ix a]; exact nI_le (a := 64) z (ix_lt x)) b
