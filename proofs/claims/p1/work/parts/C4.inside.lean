/-! A VOLUME read, on both sides. -/
def EI (E : OneV) (p d f : Nat) : Prop := E 0 1 = 0 ∧ E 0 3 = nI p ∧ E 0 4 = nI d ∧ E 0 5 = nI f ∧ ¬ bz (E 0 6) = 0
def EO (E : OneV) (p : Nat) : Prop := E 0 1 = 0 ∧ E 0 3 = nI p ∧ E 0 4 = nI 0 ∧ bz (E 0 6) = 0
/-- how a VOLUME's reading ends: with a fault on both sides, or behind the semicolon -/
def Ends (I : MI) (J : MJ) (Q : RouV) (T : Nat) (L : Int32 × OneV × NodV) (R : Option MO) (p v : Nat) : Prop := ∃ p' b g' n' v' S', R = some (none, (vF I p' b g' n' v' S', J)) ∧ ((¬ b = 0 ∧ L.1 = 0) ∨ ∃ P N nn' k' E' U', b = 0 ∧ p' = nI P ∧ n' = nI N ∧ v' = nI (v + 1) ∧ p < P ∧ P ≤ T ∧ 2 * (T - P) + 1 ≤ nn' ∧ L = RTl Q nn' k' 1 E' U' ∧ EO E' P ∧ DI U' S' N (v + 1))
theorem Ends.up {I : MI} {J : MJ} {Q : RouV} {T : Nat} {L L' : Int32 × OneV × NodV} {R R' : Option MO} {p p' v : Nat} (h : Ends I J Q T L R p' v) (hL : L' = L) (hR : R' = R) (hp : p ≤ p') : Ends I J Q T L' R' p v := by
  subst hL hR
  obtain ⟨a, b, g, n, w, S, e, z⟩ := h
  refine ⟨a, b, g, n, w, S, e, ?_⟩
  rcases z with z | ⟨P, N, nn', k', E', U', z1, z2, z3, z4, z5, z6⟩
  · exact Or.inl z
  · exact Or.inr ⟨P, N, nn', k', E', U', z1, z2, z3, z4, by omega, z6⟩
theorem Ends.bad {I : MI} {J : MJ} {Q : RouV} {T : Nat} {L : Int32 × OneV × NodV} {R : Option MO} {p v : Nat} {p' b g' n' v' : Int32} {S' : RowV} (e : R = some (none, (vF I p' b g' n' v' S', J))) (hb : ¬ b = 0) (hL : L.1 = 0) : Ends I J Q T L R p v := ⟨p', b, g', n', v', S', e, Or.inl ⟨hb, hL⟩⟩
theorem vol_in {I : MI} {Q : RouV} {T : Nat} (t : RTap I Q T) {J : MJ} (h : RefL J) : ∀ (r p : Nat), T - p ≤ r → p ≤ T → ∀ (nn k : Nat) (E : OneV) (U : NodV) (S : RowV) (n v d f pr : Nat) (g x4 : Int32), 2 * (T - p) ≤ nn → 1 ≤ nn → EI E p d f → DI U S n (v + 1) → f < n → U 4 f = 2 → U 1 f = nI v → Ch U d f → d ≤ 8 → pr ≤ p → (∀ k, pr ≤ k → k < p → Bk (Q 1 k)) → (x4 = -1 ∨ p = T ∨ (¬ Bk (Q 1 p) ∧ ¬ Q 1 p = 123)) → Ends I J Q T (RTl Q nn k 1 E U) (V13 (nI f) (nI d) x4 (vF I (nI pr) 0 g (nI n) (nI v) S, J)) p v := by
  have T4 := t.1.1
  intro r
  induction r with
  | zero =>
    intro p hr hp nn k E U S n v d f pr g x4 hnn h1 hE hD hf ff fv hch hd hpr hbl hx
    have pT : p = T := by omega
    obtain ⟨nn, rfl⟩ : ∃ q, nn = q + 1 := ⟨nn - 1, by omega⟩
    obtain ⟨e1, e3, e4, e5, e6⟩ := hE
    have hs : Sk Q T p p := ⟨Nat.le_refl _, hp, fun k a b => by omega, Or.inl pT⟩
    have hs' := hs.back hpr hbl
    have c : q_X5_at Q (nI p) = -1 := t.1.out (by omega) (by omega)
    have hl : q_X9_isLetter (q_X5_at Q (nI p)) = 0 := by rw [c]; decide
    obtain ⟨q1, q2⟩ := in_no (E := uv E 0 3 (nI p)) (Q := Q) (U := U) hl (fun z => by rw [c] at z; exact absurd z (by decide)) (fun z => by rw [c] at z; exact absurd z (by decide))
    refine Ends.bad (V13_no t h g (nI n) (nI v) S hs' (nI f) (nI d) x4 hl (fun z => by rw [c] at z; exact absurd z (by decide)) (fun z => by rw [c] at z; exact absurd z (by decide)) (fun z => by rw [c] at z; exact absurd z (by decide))) i10 ?_
    rw [lp_in t.1 hs nn k E U e3 e6, q1, q2]
    exact lp_fail _ _ _ _ _ _ _ i10
  | succ r ih =>
    intro p hr hp nn k E U S n v d f pr g x4 hnn h1 hE hD hf ff fv hch hd hpr hbl hx
    obtain ⟨nn, rfl⟩ : ∃ q, nn = q + 1 := ⟨nn - 1, by omega⟩
    obtain ⟨e1, e3, e4, e5, e6⟩ := hE
    have n40 := hD.1.2.1
    obtain ⟨s, hs⟩ := Sk.ex Q hp
    have hs' := hs.back hpr hbl
    have s1 := hs.1
    have s2 := hs.2.1
    have lp := lp_in t.1 hs nn k E U e3 e6
    have u3 : uv E 0 3 (nI s) 0 3 = nI s := uv_s _ _ _ _
    have u4 : uv E 0 3 (nI s) 0 4 = nI d := by rw [uv_n _ _ _ _ _ _ (by decide)]; exact e4
    have u5 : uv E 0 3 (nI s) 0 5 = nI f := by rw [uv_n _ _ _ _ _ _ (by decide)]; exact e5
    have u1 : uv E 0 3 (nI s) 0 1 = 0 := by rw [uv_n _ _ _ _ _ _ (by decide)]; exact e1
    have u6 : ¬ bz (uv E 0 3 (nI s) 0 6) = 0 := by rw [uv_n _ _ _ _ _ _ (by decide)]; exact e6
    have no : q_X9_isLetter (q_X5_at Q (nI s)) = 0 → (q_X5_at Q (nI s) = 125 → d = 0) → (q_X5_at Q (nI s) = 59 → ¬ d = 0) → Ends I J Q T (RTl Q (nn + 1) k 1 E U) (V13 (nI f) (nI d) x4 (vF I (nI pr) 0 g (nI n) (nI v) S, J)) p v := by
      intro hl h2 h3
      have hd0 : ¬ d = 0 → ¬ nI d = 0 := fun z w => z ((nI_eq (b := 0) (by omega) (by decide)).mp w)
      obtain ⟨q1, q2⟩ := in_no (E := uv E 0 3 (nI s)) (Q := Q) (U := U) hl (fun z => by rw [u4, h2 z]; decide) (fun z => by rw [u4]; exact hd0 (h3 z))
      refine Ends.bad (V13_no t h g (nI n) (nI v) S hs' (nI f) (nI d) x4 hl (fun z => ?_) (fun z => by rw [h2 z]; decide) (fun z => hd0 (h3 z))) i10 ?_
      · rcases hx with y | y
        · exact y
        · exfalso
          have sp : s = p := hs.uniq (y.elim Or.inl (fun w => Or.inr w.1))
          subst sp
          rcases y with w | ⟨_, w⟩
          · rw [t.1.out (by omega) (by omega)] at z
            exact absurd z (by decide)
          · by_cases wT : s = T
            · rw [t.1.out (by omega) (by omega)] at z
              exact absurd z (by decide)
            · rw [t.1.in (by omega)] at z
              exact w z
      · rw [lp, q1, q2]
        exact lp_fail _ _ _ _ _ _ _ i10
    by_cases sT : s = T
    · have c : q_X5_at Q (nI s) = -1 := t.1.out (by omega) (by omega)
      exact no (by rw [c]; decide) (fun z => by rw [c] at z; exact absurd z (by decide)) (fun z => by rw [c] at z; exact absurd z (by decide))
    · have lt : s < T := by omega
      have cin : q_X5_at Q (nI s) = Q 1 s := t.1.in lt
      by_cases c59 : q_X5_at Q (nI s) = 59
      · by_cases d0 : d = 0
        · subst d0
          obtain ⟨q1, q2, q3⟩ := in_semi (E := uv E 0 3 (nI s)) (Q := Q) (U := U) u4
          rw [c59, q1, q2, q3, u3, nI_1] at lp
          refine ⟨_, 0, _, _, _, _, V13_semi t h g (nI n) (nI v) S hs' (nI f) x4 c59, Or.inr ⟨s + 1, n, nn, k + 1, _, U, rfl, rfl, rfl, nI_1 v, by omega, by omega, by omega, lp, ⟨?_, ?_, ?_, ?_⟩, hD⟩⟩
          · rw [uv_n _ _ _ _ _ _ (by decide), uv_n _ _ _ _ _ _ (by decide)]; exact u1
          · exact uv_s _ _ _ _
          · rw [uv_n _ _ _ _ _ _ (by decide), uv_n _ _ _ _ _ _ (by decide)]; exact u4
          · rw [uv_n _ _ _ _ _ _ (by decide), uv_s]; rfl
        · exact no (by rw [c59]; decide) (fun z => by rw [c59] at z; exact absurd z (by decide)) (fun _ => d0)
      · by_cases c125 : q_X5_at Q (nI s) = 125
        · by_cases d0 : d = 0
          · exact no (by rw [c125]; decide) (fun _ => d0) (fun z => absurd z c59)
          · obtain ⟨d, rfl⟩ : ∃ q, d = q + 1 := ⟨d - 1, by omega⟩
            obtain ⟨pp, pp1, pp2, pp3⟩ := hch
            obtain ⟨q1, q2, q3⟩ := in_close (E := uv E 0 3 (nI s)) (Q := Q) (U := U) (by rw [u4]; exact nI_ge (a := 0) (by omega) (by omega))
            have par : q_X2_parentOf U (nI f) = nI pp := by
              unfold q_X2_parentOf
              rw [hD.ex hf, if_neg i10, ix_nI (by omega), pp2]
            rw [c125, q1, q2, q3, u3, u4, u5, par, nI_1, nI_p] at lp
            have cl := V13_close t h g (nI n) (nI v) S (f := f) (d := d + 1) hs' x4 c125 (by omega) (by omega) (by omega)
            rw [(hD.2.1 f hf).2.1, pp2, show d + 1 - 1 = d from rfl] at cl
            obtain ⟨z1, _, _, z4, z5, _⟩ : U 2 f = nI pp ∧ True ∧ True ∧ U 4 pp = 2 ∧ U 1 pp = U 1 f ∧ True := by
              rcases hD.2.2.1 f hf with ⟨y, _⟩ | ⟨q, q1, q2, q3, q4, _⟩
              · exact absurd (pp2.symm.trans y) (nI_m1 (by omega))
              · have : pp = q := (nI_eq (by omega) (by omega)).mp (pp2.symm.trans q2)
                subst this
                exact ⟨q2, trivial, trivial, q3, q4, trivial⟩
            refine (ih (s + 1) (by omega) (by omega) nn (k + 1) _ U S n v d pp (s + 1) g (-1) (by omega) (by omega) ⟨?_, ?_, ?_, ?_, ?_⟩ hD (by omega) z4 (by rw [z5]; exact fv) pp3 (by omega) (Nat.le_refl _) (fun k a b => by omega) (Or.inl rfl)).up lp cl (by omega)
            · simp [uv]; exact e1
            · exact uv_s _ _ _ _
            · simp [uv]
            · simp [uv]
            · simp [uv]; exact e6
        · by_cases let1 : q_X9_isLetter (q_X5_at Q (nI s)) = 0
          · exact no let1 (fun z => absurd z c125) (fun z => absurd z c59)
          · have let1' : q_X9_isLetter (q_X5_at Q (nI s)) = 1 := by
              rw [cin] at let1 ⊢
              rcases t.1.lt lt with ⟨q1, _⟩ | ⟨q1, _⟩
              · exact q1
              · exact absurd q1 let1
            have lt0 : Lt (Q 1 s) := by
              rcases t.1.lt lt with ⟨_, q1⟩ | ⟨q1, _⟩
              · exact q1
              · rw [cin] at let1; exact absurd q1 let1
            obtain ⟨q1, q2, q3⟩ := in_item (E := uv E 0 3 (nI s)) (Q := Q) (U := U) let1'
            rw [q1, q2, q3] at lp
            rcases Nat.lt_or_ge n 40 with nl | nl
            · have oi : o_X3_readItem (uv E 0 3 (nI s)) Q U = lp_X3_readItem Q U (nI s) 4 (uv E 0 3 (nI s)) := by
                unfold o_X3_readItem
                rw [hD.1.1, if_pos (show nI n < 40 from nI_lt (b := 40) nl (by decide)), u3]
              rw [oi] at lp
              obtain ⟨e, ee1, ee2, ee3, ee4⟩ := ex_first (fun k => ¬ Lt (Q 1 k)) s T s2
              have lts : ∀ k, s ≤ k → k < e → Lt (Q 1 k) := fun k a b => Classical.not_not.mp (ee3 k a b)
              have se : s < e := by
                rcases Nat.eq_or_lt_of_le ee1 with y | y
                · subst y
                  rcases ee4 with w | w
                  · omega
                  · exact absurd lt0 w
                · exact y
              obtain ⟨L, rfl⟩ : ∃ q, e = s + q := ⟨e - s, by omega⟩
              have ltj : ∀ j, j < L → Lt (Q 1 (s + j)) := fun j hj => lts (s + j) (by omega) (by omega)
              rcases Nat.lt_or_ge 4 L with l5 | l4
              · obtain ⟨E', z⟩ := item_long t.1 U (nI s) (s := s) (by omega) (fun j hj => ltj j (by omega)) 4 0 (uv E 0 3 (nI s)) (by omega) u3
                rw [z] at lp
                refine Ends.bad (V13_long t h g (nI v) S hs' nl (nI f) (nI d) x4 (by omega) (fun j hj => ltj j (by omega))) i10 ?_
                rw [lp]
                exact lp_fail _ _ _ _ _ _ _ i10
              · have nm := nb_all t.1 ee2 ltj (by omega) l4
                have rn := V13_name t h g (nI v) S hs' nl (nI f) (nI d) x4 (by omega) l4 ee2 ltj ee4
                rw [item_go t.1 U (nI s) ee2 ltj ee4 4 0 (uv E 0 3 (nI s)) (Nat.zero_le _) (by omega) u3] at lp
                have E2 : uv (uv E 0 3 (nI s)) 0 3 (nI (s + L)) = uv E 0 3 (nI (s + L)) := by
                  funext a b
                  unfold uv
                  split <;> simp_all
                rw [E2] at lp
                have w3 : uv E 0 3 (nI (s + L)) 0 3 = nI (s + L) := uv_s _ _ _ _
                have w5 : uv E 0 3 (nI (s + L)) 0 5 = nI f := by rw [uv_n _ _ _ _ _ _ (by decide)]; exact e5
                have nle : q_X9_isLetter (q_X5_at Q (nI (s + L))) = 0 := by
                  by_cases z : s + L = T
                  · rw [t.1.out (by omega) (by omega)]; decide
                  · rcases t.1.lt (show s + L < T by omega) with ⟨_, y⟩ | ⟨y, _⟩
                    · exact absurd y (ee4.resolve_left z)
                    · rw [t.1.in (by omega)]; exact y
                obtain ⟨s', hs2⟩ := Sk.ex Q ee2
                have sk2 := skip_q t.1 hs2 w3
                have E3 : uv (uv E 0 3 (nI (s + L))) 0 3 (nI s') = uv E 0 3 (nI s') := by
                  funext a b
                  unfold uv
                  split <;> simp_all
                rw [E3] at sk2
                unfold e_X3_readItem at lp
                rw [w3, w5, if_pos nle, sk2] at lp
                generalize q_X9_nameBetween Q (nI s) (nI (s + L)) = nx at nm lp
                generalize rnm (Q 1) s L = ny at nm rn
                have v3 : uv E 0 3 (nI s') 0 3 = nI s' := uv_s _ _ _ _
                have v4 : uv E 0 3 (nI s') 0 4 = nI d := by rw [uv_n _ _ _ _ _ _ (by decide)]; exact e4
                rw [v3] at lp
                rcases hD.find hf nm with ⟨fd, tw⟩ | ⟨fd, tw⟩
                · rw [if_pos fd] at lp
                  obtain ⟨an, aD, ao, a1, a2⟩ := hD.add nl hf ff fv nm fd
                  rw [w_drafts h I _ g (nI v) S nl (nI f) ny (nI s) (nI_m1 (by omega)) tw] at rn
                  simp only [Option.bind_some, asI_I] at rn
                  rw [an] at lp
                  generalize gU_X2_addIn U (nI f) nx 1 = U1 at lp aD ao a1 a2
                  have chf : Ch U1 d f := Ch.cg (n := n) (fun k hk => (ao k hk).2.1) d f hf hch
                  by_cases br : q_X5_at Q (nI s') = 123
                  · rw [if_pos br] at lp
                    have s'T : s' < T := by
                      rcases Nat.eq_or_lt_of_le hs2.2.1 with y | y
                      · rw [t.1.out (by omega) (by have := hs2.2.1; omega)] at br
                        exact absurd br (by decide)
                      · exact y
                    have ss := hs2.1
                    rcases Nat.lt_or_ge d 8 with d8 | d8
                    · have of1 : q_X3_openFolder (uv E 0 3 (nI s')) U1 (nI n) = 1 := by
                        unfold q_X3_openFolder
                        rw [v4, if_pos (show nI d < 8 from nI_lt (b := 8) d8 (by decide))]
                      have of2 : gE_X3_openFolder (uv E 0 3 (nI s')) U1 (nI n) = uv (uv (uv (uv E 0 3 (nI s')) 0 5 (nI n)) 0 4 (nI (d + 1))) 0 3 (nI (s' + 1)) := by
                        unfold gE_X3_openFolder
                        rw [v4, if_pos (show nI d < 8 from nI_lt (b := 8) d8 (by decide)), v3, nI_1, nI_1]
                      have of3 : gU_X3_openFolder (uv E 0 3 (nI s')) U1 (nI n) = gU_X2_becomeFolder U1 (nI n) := by
                        unfold gU_X3_openFolder
                        rw [v4, if_pos (show nI d < 8 from nI_lt (b := 8) d8 (by decide))]
                      rw [of1, of2, of3, if_neg i10] at lp
                      obtain ⟨fD, fo, f4⟩ := aD.fold (show n < n + 1 by omega)
                      rw [V13_open t h g (nI (n + 1)) (nI v) _ hs2 (nI f) br nl d8] at rn
                      dsimp only at lp
                      refine (ih (s' + 1) (by omega) (by omega) nn (k + 1) _ _ _ (n + 1) v (d + 1) n (s' + 1) g (-1) (by omega) (by omega) ⟨?_, ?_, ?_, ?_, ?_⟩ fD (by omega) f4 (by rw [(fo n).1]; exact a1) ⟨f, hf, by rw [(fo n).2]; exact a2, Ch.cg (n := n + 1) (fun k _ => (fo k).2) d f (by omega) chf⟩ (by omega) (Nat.le_refl _) (fun k a b => by omega) (Or.inl rfl)).up lp rn (by omega)
                      · simp [uv]; exact e1
                      · exact uv_s _ _ _ _
                      · simp [uv]
                      · simp [uv]
                      · simp [uv]; exact e6
                    · have dd : d = 8 := by omega
                      subst dd
                      have of1 : q_X3_openFolder (uv E 0 3 (nI s')) U1 (nI n) = 0 := by
                        unfold q_X3_openFolder
                        rw [v4, if_neg (show ¬ nI 8 < 8 by decide)]
                        rfl
                      have of2 : gE_X3_openFolder (uv E 0 3 (nI s')) U1 (nI n) = gE_X3_fail (uv E 0 3 (nI s')) 5 (nI s') := by
                        unfold gE_X3_openFolder
                        rw [v4, if_neg (show ¬ nI 8 < 8 by decide), v3]
                      rw [of1, of2, if_pos rfl] at lp
                      obtain ⟨S', z⟩ := V13_open8 t h g (nI (n + 1)) (nI v) (dS S n (nI v) 0 (nI f) ny) hs2 (nI f) br nl
                      refine Ends.bad (rn.trans z) (by decide) ?_
                      rw [lp]
                      exact lp_fail _ _ _ _ _ _ _ (by decide)
                  · rw [if_neg br] at lp
                    have ss := hs2.1
                    have sT2 := hs2.2.1
                    dsimp only at lp
                    refine (ih s' (by omega) hs2.2.1 nn (k + 1) _ U1 _ (n + 1) v d f (s + L) g (nI n) (by omega) (by omega) ⟨?_, ?_, ?_, ?_, ?_⟩ aD (by omega) (by rw [(ao f hf).2.2]; exact ff) (by rw [(ao f hf).1]; exact fv) chf hd hs2.1 hs2.2.2.1 ?_).up lp rn (by omega)
                    · rw [uv_n _ _ _ _ _ _ (by decide)]; exact e1
                    · exact v3
                    · exact v4
                    · rw [uv_n _ _ _ _ _ _ (by decide)]; exact e5
                    · rw [uv_n _ _ _ _ _ _ (by decide)]; exact e6
                    · by_cases y : s' = T
                      · exact Or.inr (Or.inl y)
                      · rw [t.1.in (by omega)] at br
                        exact Or.inr (Or.inr ⟨hs2.2.2.2.resolve_left y, br⟩)
                · rw [if_neg fd] at lp
                  obtain ⟨b', g', hb, z⟩ := w_drafts_two h I (nI (s + L)) g (nI v) S nl (nI f) ny (nI s) (nI_m1 (by omega)) tw
                  rw [z] at rn
                  simp only [Option.bind_some, asI_I] at rn
                  rw [V13_bad h I _ b' g' _ _ _ hb] at rn
                  refine Ends.bad rn hb ?_
                  rw [lp]
                  exact lp_fail _ _ _ _ _ _ _ (by decide)
            · have nn40 : n = 40 := by omega
              subst nn40
              have oi : o_X3_readItem (uv E 0 3 (nI s)) Q U = (0, gE_X3_fail (uv E 0 3 (nI s)) 5 (nI s), U) := by
                unfold o_X3_readItem
                rw [hD.1.1, if_neg (show ¬ nI 40 < 40 by decide), u3]
                rfl
              rw [oi] at lp
              refine Ends.bad (V13_full t h g (nI v) S hs' (nI f) (nI d) x4 let1') (by decide) ?_
              rw [lp]
              exact lp_fail _ _ _ _ _ _ _ (by decide)
