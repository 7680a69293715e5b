section
/-! What is below an entry by a name, on both sides. -/
theorem clr_o (I : MI) {x : Nat} (h : x ≠ 7) : clr I x = I x := by
  unfold clr
  by_cases z : x = 8
  · subst z
    funext j
    simp [pt, gQ_X5_clear, uv, vw]
  · rw [pt_out (by omega)]
theorem clr_7 (I : MI) : clr I 7 1 = 0 := by
  unfold clr
  simp [pt, gQ_X5_clear, uv]
theorem w_child_bad {J : MJ} (h : RefL J) (Z : MI) (x y z : Int32) : Ev T_X10_child 22 [some (mR (some 188)), some (mI x), some (mI y), some (mI 0), some (mI z)] [] (Z, J) = some (some (mI (-1)), (Z, J)) := by
  rw [E_X10_child_22]
  simp only [h.fi, Option.bind_some, if_true, ite_self]
theorem w_child_loop {J : MJ} (h : RefL J) (Z : MI) (x : Int32) {Q : RouV} {n : Nat} (t : Tap Q n) (z3 : Z 188 3 = nI n) (z9 : ∀ k, k < n → Z 189 k = Q 1 k) (n4 : n ≤ 4) : ∀ (nn k : Nat), k + nn = n → (∀ j, j < k → Lt (Q 1 j)) → Ev T_X10_child 22 [some (mR (some 188)), some (mI x), some (mI (rnm (Q 1) 0 k)), some (mI 1), some (mI (nI k))] [] (Z, J) = some (some (mI (-1)), (Z, J)) ∧ (∃ j, j < n ∧ ¬ Lt (Q 1 j)) ∨ Ev T_X10_child 22 [some (mR (some 188)), some (mI x), some (mI (rnm (Q 1) 0 k)), some (mI 1), some (mI (nI k))] [] (Z, J) = Ev T_X10_child 22 [some (mR (some 188)), some (mI x), some (mI (rnm (Q 1) 0 n)), some (mI 1), some (mI (nI n))] [] (Z, J) ∧ ∀ j, j < n → Lt (Q 1 j)
  | 0, k, hk, hl => by
    have : k = n := by omega
    subst this
    exact Or.inr ⟨rfl, hl⟩
  | nn + 1, k, hk, hl => by
    have ld' : ld (Z, J) 11 189 (nI k) = some (Q 1 k) := by
      rw [ld_ok _ h.s0 (inb_nI (by omega) (by decide)), show (nI k).toNatClampNeg = k from ix_nI (by omega), ← z9 k (by omega)]
    have st : Ev T_X10_child 22 [some (mR (some 188)), some (mI x), some (mI (rnm (Q 1) 0 k)), some (mI 1), some (mI (nI k))] [] (Z, J) = Ev T_X10_child 22 [some (mR (some 188)), some (mI x), some (mI (rnm (Q 1) 0 (k + 1))), some (mI (q_X9_isLetter (Q 1 k))), some (mI (nI (k + 1)))] [] (Z, J) := by
      rw [E_X10_child_22]
      simp only [h.fi, Option.bind_some, z3, if_neg (show ¬ nI n ≤ nI k from nI_ge (show k < n by omega) (by omega)), if_neg i10, h.f0, ld', w_isLetter, asI_I, nI_1]
      show _ = Ev T_X10_child 22 [some (mR (some 188)), some (mI x), some (mI (27 * rnm (Q 1) 0 k + Q 1 (0 + k) - 97 + 1)), some (mI (q_X9_isLetter (Q 1 k))), some (mI (nI (k + 1)))] [] (Z, J)
      rw [Nat.zero_add]
    rw [st]
    rcases t.lt (show k < n by omega) with ⟨a, b⟩ | ⟨a, b⟩
    · rw [a]
      exact w_child_loop h Z x t z3 z9 n4 nn (k + 1) (by omega) (fun j hj => by
        by_cases z : j = k
        · rw [z]; exact b
        · exact hl j (by omega))
    · rw [a, w_child_bad h]
      exact Or.inl ⟨rfl, k, by omega, b⟩
theorem P_child {I : MI} {J : MJ} {T B0 : Nat} (h : St I J T B0) (h30 : T + 10001 ≤ 1000000000) (x : Int32) : Pair I J T B0 (M_X9_child [mR (some 0), mI x]) (M_X10_child [mR (some 188), mI x]) := by
  obtain ⟨n, t1, t2, t3⟩ := h.2.1
  have T4 := t1.1
  have hl : I 7 1 = nI n := t1.2.1
  have rl := h.1.2
  have uE := u_child h.1.1 I x
  rw [hl] at uE
  have zo : ∀ y, y ≠ 7 → y ≠ 188 → bgP (clr I) n y = I y := fun y a b => by rw [bgP_o _ _ b, clr_o _ a]
  have zk : ∀ k, k ≠ 1 → k ≠ 2 → k ≠ 3 → bgP (clr I) n 188 k = I 188 k := fun k a b c => by rw [bgP_k _ _ a b c, clr_o _ (by decide)]
  have st2 : St (bgP (clr I) n) J (T + 10001) B0 := by
    refine h.tk h30 (h.2.2.2.1.fr (zo 186 (by decide) (by decide)) (zo 190 (by decide) (by decide))) (fun y a _ _ b _ _ _ _ _ => zo y a b) (fun k a b c _ _ _ => zk k a b c) ?_ (bgP_3 _ _).2.1
    rw [bgP_o _ _ (by decide)]
    exact clr_7 I
  have run : M_X10_child [mR (some 188), mI x] (clr I, J) = Ev T_X10_child 22 [some (mR (some 188)), some (mI x), some (mI 0), some (mI (if nI n < 1 then 0 else if 4 < nI n then 0 else 1)), some (mI 0)] [] (bgP (clr I) n, J) := by
    rw [E_X10_child]
    simp only [rl.kt, if_true, w_beginsPaths rl (clr I) (show clr I 188 1 = nI n by rw [clr_o _ (by decide)]; exact t2), Option.bind_some, asV_n, rl.fi, (bgP_3 (clr I) n).1, w_isIn (nI n) 1 4 _ (show (1 : Int64) = Int32.toInt64 1 from rfl) (show (4 : Int64) = Int32.toInt64 4 from rfl), asI_I]
  have bad : q_X9_nameBetween (vw 2 I 7) 0 (nI n) = 0 → M_X10_child [mR (some 188), mI x] (clr I, J) = some (some (mI (-1)), (bgP (clr I) n, J)) → Pair I J T B0 (M_X9_child [mR (some 0), mI x]) (M_X10_child [mR (some 188), mI x]) := fun q r => by
    rw [if_pos q] at uE
    exact ⟨-1, _, _, J, uE, r, st2⟩
  have none' := fun hn => nb_none t1 (p := 0) (n := n) (by omega) hn
  rw [Nat.zero_add] at none'
  by_cases n0 : n = 0
  · refine bad (none' (Or.inl n0)) ?_
    rw [run, n0, if_pos (show nI 0 < 1 by decide), w_child_bad rl]
  · by_cases n4 : 4 < n
    · refine bad (none' (Or.inr (Or.inl n4))) ?_
      rw [run, if_neg (show ¬ nI n < 1 from nI_nlt (b := 1) (by omega) (by omega)), if_pos (show 4 < nI n from nI_lt (a := 4) n4 (by omega)), w_child_bad rl]
    · rw [if_neg (show ¬ nI n < 1 from nI_nlt (b := 1) (by omega) (by omega)), if_neg (show ¬ 4 < nI n from nI_nlt (a := 4) (b := n) (by omega) (by omega))] at run
      have z9 : ∀ k, k < n → bgP (clr I) n 189 k = vw 2 I 7 1 k := fun k hk => by
        rw [zo 189 (by decide) (by decide)]
        exact t3 k hk
      rcases w_child_loop rl (bgP (clr I) n) x t1 (bgP_3 (clr I) n).1 z9 (by omega) n 0 (by omega) (fun j hj => by omega) with ⟨w1, j, j1, j2⟩ | ⟨w1, w2⟩
      · refine bad (none' (Or.inr (Or.inr ⟨j, j1, by rw [Nat.zero_add]; exact j2⟩))) ?_
        rw [run]
        exact w1
      · have nm := nb_all t1 (p := 0) (n := n) (by omega) (fun j hj => by rw [Nat.zero_add]; exact w2 j hj) (by omega) (by omega)
        rw [Nat.zero_add] at nm
        have nz : ¬ q_X9_nameBetween (vw 2 I 7) 0 (nI n) = 0 := fun z => by
          have : (0 : Int32) < q_X9_nameBetween (vw 2 I 7) 0 (nI n) := nm.gt.1
          rw [z] at this
          exact absurd this (by decide)
        rw [if_neg nz] at uE
        have nm' : Nm (q_X9_nameBetween (vw 2 I 7) 0 (nI n)) (rnm (vw 2 I 7 1) 0 n) := nm
        generalize q_X9_nameBetween (vw 2 I 7) 0 (nI n) = name at uE nm'
        have run2 : M_X10_child [mR (some 188), mI x] (clr I, J) = Ev T_X10_child 22 [some (mR (some 188)), some (mI x), some (mI (rnm (vw 2 I 7 1) 0 n)), some (mI 1), some (mI (nI n))] [] (bgP (clr I) n, J) := run.trans w1
        refine ⟨_, _, _, J, uE, ?_, st2⟩
        rw [run2, E_X10_child_22]
        simp only [rl.fi, Option.bind_some, (bgP_3 (clr I) n).1, if_pos (Int32.le_refl (nI n)), if_neg i10, rl.kt, if_true]
        rcases h.2.2.2.2.2.2.2.2.2 with ⟨vol, ad, p, q, _, td, ⟨nn, t, i, _, r⟩, _⟩ | u
        · have wn := w_isEntry (I := bgP (clr I) n) rl (by rw [zk 13 (by decide) (by decide) (by decide)]; exact td) (by rw [zo 194 (by decide) (by decide)]; exact r) x
          have ch := w_childHere rl (bgP (clr I) n) x (rnm (vw 2 I 7 1) 0 n)
          rw [zo 194 (by decide) (by decide), r.eqc x nm'] at ch
          simp only [wn.1, Option.bind_some, asI_I, ch, rl.kt, if_true]
          unfold q_X1_find
          by_cases a : q_X1_isEntry (vw 12 I 17) x = 0
          · rw [if_pos a, if_pos a]
          · rw [if_neg a, if_neg a]
            rfl
        · have un : q_X1_find (vw 12 I 17) x name = -1 := by
            unfold q_X1_find q_X1_isEntry
            rw [if_pos]
            by_cases a : x < 0
            · rw [if_pos a]
            · rw [if_neg a]
              by_cases b : (64 : Int32) ≤ x
              · rw [if_pos b]
              · rw [if_neg b, if_pos]
                refine u.2.2.1.2.2.1 (ix x) ?_
                rcases Nat.lt_or_ge (ix x) 64 with z | z
                · exact z
                · exact absurd (by rw [nI_ix a]; exact nI_le (a := 64) z (ix_lt x)) b
          have ie : M_X10_isEntry [mR (some 188), mI x] (bgP (clr I) n, J) = some (some (mI 0), (bgP (clr I) n, J)) := by
            have u13 : bz (bgP (clr I) n 188 13) = 0 := by rw [zk 13 (by decide) (by decide) (by decide)]; exact u.2.1
            rw [E_X10_isEntry]
            simp [rl.fz, u13]
          simp only [ie, Option.bind_some, asI_I, if_true, un]
end
section
/-! Letters of a name, on both sides. -/
theorem nI_div27 {a : Nat} (h : a < 2 ^ 31) : nI a / 27 = nI (a / 27) := by
  apply Int32.toInt_inj.mp
  rw [Int32.toInt_div, nI_toInt h, nI_toInt (by omega), show (27 : Int32).toInt = 27 from rfl]
  have e : (a : Int).tdiv 27 = ((a / 27 : Nat) : Int) := by
    rw [Int.tdiv_eq_ediv_of_nonneg (by omega)]
    omega
  rw [e]
  apply Int.bmod_eq_of_le
  · omega
  · omega
theorem nI_and31 (a : Nat) : nI a &&& 31 = nI (a % 32) := by
  have e : nI a &&& nI 31 = nI (a &&& 31) := by
    apply Int32.toBitVec_inj.1
    show BitVec.ofNat 32 a &&& BitVec.ofNat 32 31 = BitVec.ofNat 32 (a &&& 31)
    apply BitVec.eq_of_getLsbD_eq
    intro i hi
    simp [hi]
  rw [show (31 : Int32) = nI 31 from rfl, e, show (31 : Nat) = 2 ^ 5 - 1 from rfl, Nat.and_two_pow_sub_one_eq_mod]
theorem nI_shr {a : Nat} (h : a < 2 ^ 31) (s : Int32) (k : Nat) (hs : s.toBitVec.smod 32 = BitVec.ofNat 32 k) (hk : k < 32) : nI a >>> s = nI (a / 2 ^ k) := by
  apply Int32.toInt_inj.mp
  have : a / 2 ^ k ≤ a := Nat.div_le_self _ _
  rw [nI_toInt (by omega)]
  have e : (nI a >>> s).toInt = (nI a).toInt >>> k := by
    rw [← Int32.toInt_toBitVec, Int32.toBitVec_shiftRight, hs, BitVec.toInt_sshiftRight', Int32.toInt_toBitVec]
    simp [Nat.mod_eq_of_lt (show k < 4294967296 by omega)]
  rw [e, nI_toInt h, Int.shiftRight_eq_div_pow]
  norm_cast
def dg (a b c d j : Nat) : Nat := if j = 0 then a else if j = 1 then b else if j = 2 then c else d
theorem let_c {a b c d : Nat} (h : NmL a b c d) {j : Nat} (hj : j < 4) : q_X9_letterOf (nI (pck a b c d)) (nI j) = nI (dg a b c d j) := by
  have pl := (pck_lt h).2
  obtain ⟨h1, h2, h3, h4, h5, _, _⟩ := h
  have : j = 0 ∨ j = 1 ∨ j = 2 ∨ j = 3 := by omega
  unfold q_X9_letterOf
  rcases this with z | z | z | z <;> subst z
  · rw [nI_shr (by omega) _ 0 (by decide) (by decide), nI_and31]
    congr 1
    unfold pck dg
    rw [if_pos rfl]
    omega
  · rw [nI_shr (by omega) _ 5 (by decide) (by decide), nI_and31]
    congr 1
    unfold pck dg
    rw [if_neg (by decide), if_pos rfl]
    omega
  · rw [nI_shr (by omega) _ 10 (by decide) (by decide), nI_and31]
    congr 1
    unfold pck dg
    rw [if_neg (by decide), if_neg (by decide), if_pos rfl]
    omega
  · rw [nI_shr (by omega) _ 15 (by decide) (by decide), nI_and31]
    congr 1
    unfold pck dg
    rw [if_neg (by decide), if_neg (by decide), if_neg (by decide)]
    omega
theorem ls_s {l y : Nat} (y0 : 0 < y) (hy : y < 2 ^ 31) (s : MH) : Ev T_X10_lettersOf 4 [none, some (mI (nI l)), some (mI (nI y))] [] s = Ev T_X10_lettersOf 4 [none, some (mI (nI (l + 1))), some (mI (nI (y / 27)))] [] s := by
  rw [E_X10_lettersOf_4, if_neg (nI_nle y0 hy), if_neg (by decide), nI_div27 hy, nI_1]
theorem ls_e {l : Nat} (s : MH) : Ev T_X10_lettersOf 4 [none, some (mI (nI l)), some (mI (nI 0))] [] s = some (some (mI (nI l)), s) := by
  rw [E_X10_lettersOf_4, if_pos (show nI 0 ≤ 0 by decide)]
theorem lo_s {k len y q : Nat} (h : k < q) (hq : q < 100) (hy : y < 2 ^ 31) (s : MH) : Ev T_X10_letterOf 12 [none, some (mI (nI k)), some (mI (nI len)), some (mI (nI y)), some (mI (nI q))] [] s = Ev T_X10_letterOf 12 [none, some (mI (nI k)), some (mI (nI len)), some (mI (nI (y / 27))), some (mI (nI (q - 1)))] [] s := by
  rw [E_X10_letterOf_12, if_neg (nI_ge h (by omega)), if_neg (by decide), nI_div27 hy, show nI q + (-1) = nI (q - 1) by
    rw [← nI_sub (a := q) (b := 1) (by omega)]
    exact (Int32.sub_eq_add_neg _ _).symm]
theorem lo_e {k len y q : Nat} (h : q ≤ k) (hl : len ≤ k) (hk : k < 100) (s : MH) : Ev T_X10_letterOf 12 [none, some (mI (nI k)), some (mI (nI len)), some (mI (nI y)), some (mI (nI q))] [] s = some (some (mI (nI 0)), s) := by
  rw [E_X10_letterOf_12, if_pos (nI_le h (by omega)), if_pos (nI_le hl (by omega))]
  rfl
theorem lo_d {k len y q : Nat} (h : q ≤ k) (hl : k < len) (hk : len < 100) (hy : y < 2 ^ 31) (s : MH) : Ev T_X10_letterOf 12 [none, some (mI (nI k)), some (mI (nI len)), some (mI (nI y)), some (mI (nI q))] [] s = some (some (mI (nI (y % 27))), s) := by
  rw [E_X10_letterOf_12, if_pos (nI_le h (by omega)), if_neg (nI_ge hl (by omega)), if_neg (by decide), nI_div27 hy, show (27 : Int32) = nI 27 from rfl, nI_mul, nI_sub (by omega)]
  have : y - y / 27 * 27 = y % 27 := by omega
  rw [this]
theorem w_lettersOf {a b c d : Nat} (h : NmL a b c d) (s : MH) : ∃ len, M_X10_lettersOf [mI (nI (b27 a b c d))] s = some (some (mI (nI len)), s) ∧ len = if b = 0 then 1 else if c = 0 then 2 else if d = 0 then 3 else 4 := by
  obtain ⟨h1, h2, h3, h4, h5, h6, h7⟩ := h
  refine ⟨_, ?_, rfl⟩
  rw [E_X10_lettersOf, show (0 : Int32) = nI 0 from rfl]
  unfold b27
  by_cases zb : b = 0
  · rw [if_pos zb, if_pos zb, ls_s (by omega) (by omega), show a / 27 = 0 by omega, ls_e]
  · rw [if_neg zb, if_neg zb]
    by_cases zc : c = 0
    · rw [if_pos zc, if_pos zc, ls_s (by omega) (by omega), show (27 * a + b) / 27 = a by omega, ls_s (by omega) (by omega), show a / 27 = 0 by omega, ls_e]
    · rw [if_neg zc, if_neg zc]
      by_cases zd : d = 0
      · rw [if_pos zd, if_pos zd, ls_s (by omega) (by omega), show (729 * a + 27 * b + c) / 27 = 27 * a + b by omega, ls_s (by omega) (by omega), show (27 * a + b) / 27 = a by omega, ls_s (by omega) (by omega), show a / 27 = 0 by omega, ls_e]
      · rw [if_neg zd, if_neg zd, ls_s (by omega) (by omega), show (19683 * a + 729 * b + 27 * c + d) / 27 = 729 * a + 27 * b + c by omega, ls_s (by omega) (by omega), show (729 * a + 27 * b + c) / 27 = 27 * a + b by omega, ls_s (by omega) (by omega), show (27 * a + b) / 27 = a by omega, ls_s (by omega) (by omega), show a / 27 = 0 by omega, ls_e]
theorem w_letterNm {a b c d : Nat} (h : NmL a b c d) {j : Nat} (hj : j < 4) (s : MH) : M_X10_letterOf [mI (nI (b27 a b c d)), mI (nI j)] s = some (some (mI (nI (dg a b c d j))), s) := by
  obtain ⟨len, e1, e2⟩ := w_lettersOf h s
  obtain ⟨h1, h2, h3, h4, h5, h6, h7⟩ := h
  rw [E_X10_letterOf, e1]
  simp only [Option.bind_some, asI_I]
  have l1 : 1 ≤ len := by rw [e2]; split; · omega
                          split; · omega
                          split <;> omega
  rw [show nI len - 1 = nI (len - 1) from nI_sub (b := 1) l1]
  have jc : j = 0 ∨ j = 1 ∨ j = 2 ∨ j = 3 := by omega
  unfold b27
  by_cases zb : b = 0
  · have zc := h6 zb
    have zd := h7 zc
    rw [if_pos zb] at e2 ⊢
    subst e2 zb zc zd
    rcases jc with z | z | z | z <;> subst z
    · rw [lo_d (by omega) (by omega) (by omega) (by omega), show a % 27 = a by omega]; rfl
    · rw [lo_e (by omega) (by omega) (by omega)]; rfl
    · rw [lo_e (by omega) (by omega) (by omega)]; rfl
    · rw [lo_e (by omega) (by omega) (by omega)]; rfl
  · rw [if_neg zb] at e2 ⊢
    by_cases zc : c = 0
    · have zd := h7 zc
      rw [if_pos zc] at e2 ⊢
      subst e2 zc zd
      rcases jc with z | z | z | z <;> subst z
      · rw [lo_s (by omega) (by omega) (by omega), lo_d (by omega) (by omega) (by omega) (by omega), show (27 * a + b) / 27 % 27 = a by omega]; rfl
      · rw [lo_d (by omega) (by omega) (by omega) (by omega), show (27 * a + b) % 27 = b by omega]; rfl
      · rw [lo_e (by omega) (by omega) (by omega)]; rfl
      · rw [lo_e (by omega) (by omega) (by omega)]; rfl
    · rw [if_neg zc] at e2 ⊢
      by_cases zd : d = 0
      · rw [if_pos zd] at e2 ⊢
        subst e2 zd
        rcases jc with z | z | z | z <;> subst z
        · rw [lo_s (by omega) (by omega) (by omega), lo_s (by omega) (by omega) (by omega), lo_d (by omega) (by omega) (by omega) (by omega), show (729 * a + 27 * b + c) / 27 / 27 % 27 = a by omega]; rfl
        · rw [lo_s (by omega) (by omega) (by omega), lo_d (by omega) (by omega) (by omega) (by omega), show (729 * a + 27 * b + c) / 27 % 27 = b by omega]; rfl
        · rw [lo_d (by omega) (by omega) (by omega) (by omega), show (729 * a + 27 * b + c) % 27 = c by omega]; rfl
        · rw [lo_e (by omega) (by omega) (by omega)]; rfl
      · rw [if_neg zd] at e2 ⊢
        subst e2
        rcases jc with z | z | z | z <;> subst z
        · rw [lo_s (by omega) (by omega) (by omega), lo_s (by omega) (by omega) (by omega), lo_s (by omega) (by omega) (by omega), lo_d (by omega) (by omega) (by omega) (by omega), show (19683 * a + 729 * b + 27 * c + d) / 27 / 27 / 27 % 27 = a by omega]; rfl
        · rw [lo_s (by omega) (by omega) (by omega), lo_s (by omega) (by omega) (by omega), lo_d (by omega) (by omega) (by omega) (by omega), show (19683 * a + 729 * b + 27 * c + d) / 27 / 27 % 27 = b by omega]; rfl
        · rw [lo_s (by omega) (by omega) (by omega), lo_d (by omega) (by omega) (by omega) (by omega), show (19683 * a + 729 * b + 27 * c + d) / 27 % 27 = c by omega]; rfl
        · rw [lo_d (by omega) (by omega) (by omega) (by omega), show (19683 * a + 729 * b + 27 * c + d) % 27 = d by omega]; rfl
theorem w_letterOf {x y : Int32} (h : NmZ x y) {j : Nat} (hj : j < 4) (s : MH) : M_X10_letterOf [mI y, mI (nI j)] s = some (some (mI (q_X9_letterOf x (nI j))), s) := by
  rcases h with ⟨a, b, c, d, h, hx, hy⟩ | ⟨hx, hy⟩
  · rw [hx, hy, w_letterNm h hj, let_c h hj]
  · rw [hx, hy, E_X10_letterOf, E_X10_lettersOf, show Ev T_X10_lettersOf 4 [none, some (mI 0), some (mI 0)] [] s = some (some (mI (nI 0)), s) from ls_e s]
    simp only [Option.bind_some, asI_I]
    have jc : j = 0 ∨ j = 1 ∨ j = 2 ∨ j = 3 := by omega
    rw [E_X10_letterOf_12]
    rcases jc with z | z | z | z <;> subst z <;> rw [if_pos (by decide), if_pos (by decide)] <;> rfl
end
section
/-! The letters told, on both sides. -/
theorem P_letter {I : MI} {J : MJ} {T B0 : Nat} (h : St I J T B0) (h30 : T + 10001 ≤ 1000000000) (x y k : Int32) : Pair I J T B0 (M_X9_letter [mR (some 0), mI x, mI y, mI k]) (M_X10_letter [mR (some 188), mI x, mI y, mI k]) := by
  have rl := h.1.2
  have lst : (3 : Int32) < k ↔ ¬ k < 4 := by
    rw [Int32.lt_iff_toInt_lt, Int32.lt_iff_toInt_lt]
    have a : (3 : Int32).toInt = 3 := rfl
    have b : (4 : Int32).toInt = 4 := rfl
    omega
  have isin := w_isIn k 0 3 (I, J) (show (0 : Int64) = Int32.toInt64 0 from rfl) (show (3 : Int64) = Int32.toInt64 3 from rfl)
  by_cases hk : k < 0 ∨ ¬ k < 4
  · refine Pair.ask h h30 (u_letter h.1.1 I x y k) (w := -1) ?_ ?_
    · have z : (if k < 0 then (0 : Int32) else if 3 < k then 0 else 1) = 0 := by
        rcases hk with q | q
        · rw [if_pos q]
        · rw [if_pos (lst.mpr q), ite_self]
      rw [E_X10_letter, isin, z]
      simp only [Option.bind_some, asI_I, if_true]
    · unfold letQ
      rcases hk with q | q
      · rw [if_pos q, ite_self]
      · rw [if_neg q, ite_self, ite_self]
  · have k0 : ¬ k < 0 := fun z => hk (Or.inl z)
    have k4 : k < 4 := by
      rcases Decidable.em (k < 4) with z | z
      · exact z
      · exact absurd (Or.inr z) hk
    have kn : k = nI (ix k) := nI_ix k0
    have kl : ix k < 4 := by
      rcases Nat.lt_or_ge (ix k) 4 with z | z
      · exact z
      · exact absurd k4 (by rw [kn]; exact nI_nlt (b := 4) z (ix_lt k))
    have z1 : (if k < 0 then (0 : Int32) else if 3 < k then 0 else 1) = 1 := by rw [if_neg k0, if_neg (fun z => lst.mp z k4)]
    rw [z1] at isin
    rcases h.2.2.2.2.2.2.2.2.2 with ⟨vol, ad, p, q, _, td, ⟨nn, t, i, _, r⟩, _⟩ | u
    · have n60 := i.N.n60
      have we := w_isEntry rl td r y
      have wn := w_isNode rl td i.N r y
      by_cases hx : x = 0
      · by_cases a : q_X2_exists (vw 6 I 1) y = 0
        · refine Pair.ask h h30 (u_letter h.1.1 I x y k) (w := -1) ?_ ?_
          · rw [E_X10_letter, isin]
            simp only [Option.bind_some, asI_I, if_neg i10, if_pos hx, rl.kt, if_true, wn.1, if_pos a]
          · unfold letQ
            rw [if_pos hx, if_pos a]
        · obtain ⟨b1, b2, b3⟩ := wn.2 a
          have nm := (r.B.nd (ix y) b2).2.2.1
          have nh : M_X10_nodeHas [mR (some 188), mI y, mI 3] (I, J) = some (some (mI (I 194 (401 + 5 * ix y + 3))), (I, J)) := by
            have := w_nodeHas rl I 3 (show (3 : Int32) = nI 3 from rfl) (show ix y < 60 by omega) (by decide)
            rw [← b1] at this
            exact this
          have lo := w_letterOf nm kl (I, J)
          rw [← kn] at lo
          refine Pair.ask h h30 (u_letter h.1.1 I x y k) (w := q_X9_letterOf (vw 6 I 1 3 (ix y)) k) ?_ ?_
          · rw [E_X10_letter, isin]
            simp only [Option.bind_some, asI_I, if_neg i10, if_pos hx, rl.kt, if_true, wn.1, if_neg a, nh, lo]
          · unfold letQ q_X2_nameOf
            rw [if_pos hx, if_pos hx, if_neg a, if_neg k0, if_pos k4, if_neg a]
      · by_cases a : q_X1_isEntry (vw 12 I 17) y = 0
        · refine Pair.ask h h30 (u_letter h.1.1 I x y k) (w := -1) ?_ ?_
          · rw [E_X10_letter, isin]
            simp only [Option.bind_some, asI_I, if_neg i10, if_neg hx, rl.kt, if_true, we.1, if_pos a]
          · unfold letQ
            rw [if_neg hx, if_pos a]
        · obtain ⟨b1, b2, b3⟩ := we.2 a
          have nm := (r.B.en (ix y) b2 b3).2.1
          have nh : M_X10_its [mR (some 188), mI y, mI 2] (I, J) = some (some (mI (I 194 (701 + 9 * ix y + 2))), (I, J)) := by
            have := w_its rl I 2 (show (2 : Int32) = nI 2 from rfl) (show ix y < 128 by omega) (by decide)
            rw [← b1] at this
            exact this
          have lo := w_letterOf nm kl (I, J)
          rw [← kn] at lo
          refine Pair.ask h h30 (u_letter h.1.1 I x y k) (w := q_X9_letterOf (vw 12 I 17 3 (ix y)) k) ?_ ?_
          · rw [E_X10_letter, isin]
            simp only [Option.bind_some, asI_I, if_neg i10, if_neg hx, rl.kt, if_true, we.1, if_neg a, nh, lo]
          · unfold letQ q_X1_nameOf
            rw [if_neg hx, if_neg hx, if_neg a, if_neg k0, if_pos k4, if_neg a]
    · refine Pair.ask h h30 (u_letter h.1.1 I x y k) (w := -1) ?_ ?_
      · rw [E_X10_letter, isin]
        by_cases hx : x = 0
        · simp [hx, rl.kt, E_X10_isNode, rl.fz, u.2.1, asI]
        · simp [hx, rl.kt, E_X10_isEntry, rl.fz, u.2.1, asI]
      · unfold letQ
        rw [if_pos]
        by_cases hx : x = 0
        · rw [if_pos hx]
          unfold q_X2_exists
          by_cases a : y < 0
          · rw [if_pos a]
          · rw [if_neg a]
            have ev0 : vw 6 I 1 0 5 = 0 := u.2.2.1.1
            rw [ev0]
            simp [Int32.not_lt.mp a]
        · rw [if_neg hx]
          unfold q_X1_isEntry
          by_cases a : y < 0
          · rw [if_pos a]
          · rw [if_neg a]
            by_cases b : (64 : Int32) ≤ y
            · rw [if_pos b]
            · rw [if_neg b, if_pos]
              refine u.2.2.1.2.2.1 (ix y) ?_
              rcases Nat.lt_or_ge (ix y) 64 with z | z
              · exact z
              · exact absurd (by rw [nI_ix a]; exact nI_le (a := 64) z (ix_lt y)) b
end
section
/-! Bytes fed, on both sides. -/
theorem byt_bv (v : BitVec 32) (k : Nat) (hk : k ≤ 24) : (v >>> k) &&& 255#32 = (v.sshiftRight k) &&& 255#32 := by
  apply BitVec.eq_of_getLsbD_eq
  intro i hi
  rw [BitVec.getLsbD_and, BitVec.getLsbD_and]
  by_cases z : i < 8
  · congr 1
    rw [BitVec.getLsbD_ushiftRight, BitVec.getLsbD_sshiftRight]
    have : k + i < 32 := by omega
    simp [hi, this]
  · have : (255#32).getLsbD i = false := by
      have : i = 8 ∨ i = 9 ∨ i = 10 ∨ i = 11 ∨ i = 12 ∨ i = 13 ∨ i = 14 ∨ i = 15 ∨ i = 16 ∨ i = 17 ∨ i = 18 ∨ i = 19 ∨ i = 20 ∨ i = 21 ∨ i = 22 ∨ i = 23 ∨ i = 24 ∨ i = 25 ∨ i = 26 ∨ i = 27 ∨ i = 28 ∨ i = 29 ∨ i = 30 ∨ i = 31 := by omega
      rcases this with h | h | h | h | h | h | h | h | h | h | h | h | h | h | h | h | h | h | h | h | h | h | h | h <;> subst h <;> decide
    rw [this, Bool.and_false, Bool.and_false]
theorem byt (x : Int32) {j : Nat} (hj : j < 4) : (((Int32.toUInt32 x >>> (Int32.toUInt32 (nI (24 - 8 * j)) &&& Int32.toUInt32 31)).toInt32) &&& 255) = (x >>> ((8 * (3 - nI j)) &&& 31)) &&& 255 := by
  have jc : j = 0 ∨ j = 1 ∨ j = 2 ∨ j = 3 := by omega
  apply Int32.toBitVec_inj.1
  rcases jc with z | z | z | z <;> subst z
  · exact byt_bv x.toBitVec 24 (by decide)
  · exact byt_bv x.toBitVec 16 (by decide)
  · exact byt_bv x.toBitVec 8 (by decide)
  · exact byt_bv x.toBitVec 0 (by decide)
theorem byt_b (v : Int32) : ∃ b, b < 256 ∧ v &&& 255 = nI b := by
  refine ⟨v.toBitVec.toNat % 256, by omega, ?_⟩
  apply Int32.toBitVec_inj.1
  show v.toBitVec &&& 255#32 = BitVec.ofNat 32 (v.toBitVec.toNat % 256)
  apply BitVec.eq_of_toNat_eq
  rw [BitVec.toNat_and, show (255#32).toNat = 2 ^ 8 - 1 from rfl, Nat.and_two_pow_sub_one_eq_mod, BitVec.toNat_ofNat]
  omega
def arg5 (a b c d e : Int32) (k : Nat) : Int32 := if k < 4 then a else if k < 8 then b else if k < 12 then c else if k < 16 then d else e
def feQ (a b c d e : Int32) (k : Nat) (Q : RouV) : RouV := adw (arg5 a b c d e k) (nI (24 - 8 * (k % 4))) Q
theorem fed_itr (Q : RouV) (a b c d e : Int32) : fedQ Q a b c d e = itr (feQ a b c d e) 0 20 Q := rfl
theorem adw_in {Q : RouV} {n : Nat} (h : Q 0 1 = nI n) (hn : n < 400) (x s : Int32) : adw x s Q = uv (uv Q 1 n (((Int32.toUInt32 x >>> (Int32.toUInt32 s &&& Int32.toUInt32 31)).toInt32) &&& 255)) 0 1 (nI (n + 1)) := by
  unfold adw
  rw [h, if_neg (nI_pos (by omega)), if_neg (show ¬ (400 : Int32) ≤ nI n from nI_ge (b := 400) hn (by decide)), ix_nI (by omega), nI_1]
theorem w_feed_s {J : MJ} (h : RefL J) (Y : MI) (a b c d e : Int32) {n k : Nat} (hn : Y 188 1 = nI n) (n4 : n < 400) (hk : k < 20) : Ev T_X10_feed 22 [some (mR (some 188)), some (mI a), some (mI b), some (mI c), some (mI d), some (mI e), some (mI (nI k)), none] [] (Y, J) = Ev T_X10_feed 22 [some (mR (some 188)), some (mI a), some (mI b), some (mI c), some (mI d), some (mI e), some (mI (nI (k + 1))), none] [] (up2 (up2 Y 189 n ((arg5 a b c d e k >>> ((8 * (3 - nI (k % 4))) &&& 31)) &&& 255)) 188 1 (nI (n + 1)), J) := by
  have k4 : nI k - nI k / 4 * 4 = nI (k % 4) := by
    have : k = 0 ∨ k = 1 ∨ k = 2 ∨ k = 3 ∨ k = 4 ∨ k = 5 ∨ k = 6 ∨ k = 7 ∨ k = 8 ∨ k = 9 ∨ k = 10 ∨ k = 11 ∨ k = 12 ∨ k = 13 ∨ k = 14 ∨ k = 15 ∨ k = 16 ∨ k = 17 ∨ k = 18 ∨ k = 19 := by omega
    rcases this with h | h | h | h | h | h | h | h | h | h | h | h | h | h | h | h | h | h | h | h <;> subst h <;> decide
  have s9 : ∀ v, st (Y, J) 11 189 (nI n) v = some (up2 Y 189 n v, J) := fun v => by
    rw [st_ok _ _ h.s0 (inb_nI (by omega) (by decide)), show (nI n).toNatClampNeg = n from ix_nI (by omega)]
  have l1 : ∀ v, up2 Y 189 n v 188 1 = nI n := fun v => by rw [up2_o _ _ _ (by decide)]; exact hn
  have n40 : ¬ (4 : Int32) = 0 := by decide
  rw [E_X10_feed_22, if_neg (show ¬ (20 : Int32) ≤ nI k from nI_ge (b := 20) hk (by decide))]
  unfold arg5
  by_cases a4 : k < 4
  · rw [if_neg (show ¬ (4 : Int32) ≤ nI k from nI_ge (b := 4) a4 (by decide)), if_pos a4]
    simp only [h.f0, h.fi, hn, Option.bind_some, if_neg n40, s9, k4, l1, nI_1, h.wi]
  · rw [if_pos (show (4 : Int32) ≤ nI k from nI_le (a := 4) (by omega) (by omega)), if_neg a4]
    by_cases a8 : k < 8
    · rw [if_neg (show ¬ (8 : Int32) ≤ nI k from nI_ge (b := 8) a8 (by decide)), if_pos a8]
      simp only [h.f0, h.fi, hn, Option.bind_some, if_neg n40, s9, k4, l1, nI_1, h.wi]
    · rw [if_pos (show (8 : Int32) ≤ nI k from nI_le (a := 8) (by omega) (by omega)), if_neg a8]
      by_cases a12 : k < 12
      · rw [if_neg (show ¬ (12 : Int32) ≤ nI k from nI_ge (b := 12) a12 (by decide)), if_pos a12]
        simp only [h.f0, h.fi, hn, Option.bind_some, if_neg n40, s9, k4, l1, nI_1, h.wi]
      · rw [if_pos (show (12 : Int32) ≤ nI k from nI_le (a := 12) (by omega) (by omega)), if_neg a12]
        by_cases a16 : k < 16
        · rw [if_neg (show ¬ (16 : Int32) ≤ nI k from nI_ge (b := 16) a16 (by decide)), if_pos a16]
          simp only [h.f0, h.fi, hn, Option.bind_some, if_neg n40, s9, k4, l1, nI_1, h.wi]
        · rw [if_pos (show (16 : Int32) ≤ nI k from nI_le (a := 16) (by omega) (by omega)), if_neg a16]
          simp only [h.f0, h.fi, hn, Option.bind_some, if_neg n40, s9, k4, l1, nI_1, h.wi]
theorem feed_loop {J : MJ} (h : RefL J) (a b c d e : Int32) : ∀ (m k : Nat) (Q : RouV) (Y : MI) (n : Nat), k + m = 20 → Tap Q n → n + m ≤ 400 → Y 188 1 = nI n → (∀ j, j < n → Y 189 j = Q 1 j) → ∃ Y', Ev T_X10_feed 22 [some (mR (some 188)), some (mI a), some (mI b), some (mI c), some (mI d), some (mI e), some (mI (nI k)), none] [] (Y, J) = some (some (mI (nI (n + m))), (Y', J)) ∧ Tap (itr (feQ a b c d e) k m Q) (n + m) ∧ Y' 188 1 = nI (n + m) ∧ (∀ j, j < n + m → Y' 189 j = itr (feQ a b c d e) k m Q 1 j) ∧ (∀ x, x ≠ 188 → x ≠ 189 → Y' x = Y x) ∧ (∀ j, j ≠ 1 → Y' 188 j = Y 188 j)
  | 0, k, Q, Y, n, hk, t, hn, y1, y9 => by
    refine ⟨Y, ?_, t, y1, y9, fun _ _ _ => rfl, fun _ _ => rfl⟩
    have : k = 20 := by omega
    subst this
    rw [E_X10_feed_22, if_pos (show (20 : Int32) ≤ nI 20 by decide)]
    simp only [h.fi, y1, Option.bind_some]
    rfl
  | m + 1, k, Q, Y, n, hk, t, hn, y1, y9 => by
    have q1 : feQ a b c d e k Q = uv (uv Q 1 n ((arg5 a b c d e k >>> ((8 * (3 - nI (k % 4))) &&& 31)) &&& 255)) 0 1 (nI (n + 1)) := by
      unfold feQ
      rw [adw_in t.2.1 (by omega), byt _ (by omega)]
    have st := w_feed_s h Y a b c d e y1 (show n < 400 by omega) (show k < 20 by omega)
    generalize (arg5 a b c d e k >>> ((8 * (3 - nI (k % 4))) &&& 31)) = w at q1 st
    obtain ⟨bb, b1, b2⟩ := byt_b w
    have r1 : ∀ j, feQ a b c d e k Q 1 j = if j = n then w &&& 255 else Q 1 j := fun j => by rw [q1]; simp [uv]
    have r0 : feQ a b c d e k Q 0 1 = nI (n + 1) := by rw [q1]; simp [uv]
    obtain ⟨Y', z1, z2, z3, z4, z5, z6⟩ := feed_loop h a b c d e m (k + 1) (feQ a b c d e k Q) (up2 (up2 Y 189 n (w &&& 255)) 188 1 (nI (n + 1))) (n + 1) (by omega) ⟨by omega, r0, fun j hj => by
      rw [r1]
      by_cases z : j = n
      · rw [if_pos z]; exact ⟨bb, b1, b2⟩
      · rw [if_neg z]; exact t.2.2 j (by omega)⟩ (by omega) (up2_s _ _ _ _) (fun j hj => by
      rw [up2_o _ _ _ (by decide), r1]
      by_cases z : j = n
      · rw [if_pos z, z, up2_s]
      · rw [if_neg z, up2_k _ _ _ z]; exact y9 j (by omega))
    have en : n + 1 + m = n + (m + 1) := by omega
    rw [en] at z1 z2 z3 z4
    refine ⟨Y', ?_, z2, z3, z4, fun x a b => ?_, fun j hj => ?_⟩
    · rw [st]; exact z1
    · rw [z5 x a b, up2_o _ _ _ a, up2_o _ _ _ b]
    · rw [z6 j hj, up2_k _ _ _ hj, up2_o _ _ _ (by decide)]
theorem P_feed {I : MI} {J : MJ} {T B0 : Nat} (h : St I J T B0) (h30 : T + 10001 ≤ 1000000000) (a b c d e : Int32) : Pair I J T B0 (M_X9_feed [mR (some 0), mI a, mI b, mI c, mI d, mI e]) (M_X10_feed [mR (some 188), mI a, mI b, mI c, mI d, mI e]) := by
  obtain ⟨n, t1, t2, t3⟩ := h.2.1
  have n4 := t1.1
  have rl := h.1.2
  have uE := u_feed h.1.1 I a b c d e
  have q01 : vw 2 I 7 0 1 = nI n := t1.2.1
  have e20 : nI n + 20 = nI (n + 20) := nI_add n 20
  unfold q_X5_hasSpace at uE
  rw [q01, e20] at uE
  by_cases sp : n + 20 ≤ 400
  · rw [if_neg (show ¬ (400 : Int32) < nI (n + 20) from nI_nlt (a := 400) sp (by decide)), if_neg i10, fed_itr] at uE
    have o : ∀ (Q : RouV) y, y < 7 ∨ 9 ≤ y → pt I 7 Q y = I y := fun Q y hy => pt_out (by omega)
    obtain ⟨Y', z1, z2, z3, z4, z5, z6⟩ := feed_loop rl a b c d e 20 0 (vw 2 I 7) (pt I 7 (itr (feQ a b c d e) 0 20 (vw 2 I 7))) n (by omega) t1 sp (by rw [o _ 188 (by omega)]; exact t2) (fun j hj => by rw [o _ 189 (by omega)]; exact t3 j hj)
    generalize itr (feQ a b c d e) 0 20 (vw 2 I 7) = Q at uE z1 z2 z4 z5 z6
    rw [z2.2.1] at uE
    have o2 : ∀ y, y ≠ 7 → y ≠ 8 → y ≠ 188 → y ≠ 189 → Y' y = I y := fun y p q r s => by rw [z5 y r s, o _ y (by omega)]
    have k2 : ∀ k, k ≠ 1 → Y' 188 k = I 188 k := fun k p => by rw [z6 k p, o _ 188 (by omega)]
    have wQ : vw 2 Y' 7 = Q := by
      rw [vw_fr (I := pt I 7 Q) (fun y _ _ => z5 y (by omega) (by omega)), vw_pt]
    obtain ⟨L, s7⟩ := h.2.2.2.2.2.2.2.1
    refine ⟨nI (n + 20), _, Y', J, uE, ?_, ?_⟩
    · rw [E_X10_feed]
      simp only [rl.fi, o _ 188 (show 188 < 7 ∨ 9 ≤ 188 by omega), t2, e20, Option.bind_some]
      rw [if_pos (show nI (n + 20) ≤ 400 from nI_le (b := 400) sp (by decide))]
      exact z1
    · refine h.sm ⟨n + 20, by rw [wQ]; exact z2, z3, fun k hk => ?_⟩ (h.2.2.1.fr (o2 _ (by decide) (by decide) (by decide) (by decide)) (k2 _ (by decide)) (k2 _ (by decide))) (h.2.2.2.1.fr (o2 _ (by decide) (by decide) (by decide) (by decide)) (o2 _ (by decide) (by decide) (by decide) (by decide))) (h.2.2.2.2.1.fr (by rw [o2 0 (by decide) (by decide) (by decide) (by decide)]) (o2 _ (by decide) (by decide) (by decide) (by decide)) (k2 _ (by decide)) (o2 _ (by decide) (by decide) (by decide) (by decide))) (h.2.2.2.2.2.1.fr (by rw [o2 0 (by decide) (by decide) (by decide) (by decide)]) (o2 _ (by decide) (by decide) (by decide) (by decide)) (k2 _ (by decide)) (o2 _ (by decide) (by decide) (by decide) (by decide))) ⟨L, s7.fr (by rw [o2 69 (by decide) (by decide) (by decide) (by decide)]) (by rw [o2 69 (by decide) (by decide) (by decide) (by decide)]) (fun y _ _ => o2 y (by omega) (by omega) (by omega) (by omega)) (k2 _ (by decide)) (k2 _ (by decide)) (o2 _ (by decide) (by decide) (by decide) (by decide)) (o2 _ (by decide) (by decide) (by decide) (by decide))⟩ (h.2.2.2.2.2.2.2.2.1.fr (k2 _ (by decide)) (k2 _ (by decide))) (fun y a _ _ _ _ _ => o2 y (by omega) (by omega) (by omega) (by omega)) (o2 _ (by decide) (by decide) (by decide) (by decide)) (fun _ => ⟨by rw [o2 69 (by decide) (by decide) (by decide) (by decide)], by rw [o2 69 (by decide) (by decide) (by decide) (by decide)]⟩) (fun y a => o2 y (by omega) (by omega) (by omega) (by omega)) (fun k q => k2 k (by omega)) (fun k _ => by rw [o2 194 (by decide) (by decide) (by decide) (by decide)]) (o2 _ (by decide) (by decide) (by decide) (by decide)) (by omega) h30
      rw [z4 k hk, ← wQ]
      rfl
  · rw [if_pos (show (400 : Int32) < nI (n + 20) from nI_lt (a := 400) (by omega) (by omega)), if_pos rfl] at uE
    refine ⟨-1, _, _, J, uE, ?_, h.refuse h30 (k := 0) (by decide)⟩
    rw [E_X10_feed]
    simp only [rl.fi, rfz_o _ _ (show 188 ≠ 186 by decide), t2, e20, Option.bind_some]
    rw [if_neg (show ¬ nI (n + 20) ≤ 400 from nI_ge (a := 400) (by omega) (by omega))]
    simp only [rl.kt, if_true, w_refuses rl _ (show (0 : Int32) = nI 0 from rfl) (by decide), Option.bind_some, asI_I]
end
section
/-! A walker that stops lets go: what holds stays. -/
theorem Inv.wsub {U : NodV} {V : MemV} {H : OneV} {W W' : WkV} {n vol t T : Nat} (i : Inv U V H W n vol t T (fun _ => 0)) {k : Nat} (hk : k < 4) (w1 : ∀ j, j ≠ k → W' j = W j) (w0 : bz ((W' k).1 0 5) = 0) : Inv U V H W' n vol t T (fun f => hcK (W k) f) := by
  have hz : ∀ f, hcK (W' k) f = 0 := fun f => by
    unfold hcK
    rw [if_pos (Or.inl w0)]
  have hh : ∀ f, hc V H W' f + hcK (W k) f = hc V H W f := fun f => by
    have s := sm_one (a := fun j => hcK (W j) f) (a' := fun j => hcK (W' j) f) (e := k) (n := 4) (k := 0) (Nat.zero_le _) (by omega) (fun j _ _ z => by
      show hcK (W' j) f = hcK (W j) f
      rw [w1 j z])
    have s' : hcW W' f + hcK (W k) f = hcW W f + hcK (W' k) f := s
    rw [hz f] at s'
    unfold hc
    omega
  refine i.h5 (fun _ _ _ => rfl) ⟨rfl, rfl, rfl⟩ (fun f hf => ?_) i.H (fun j hj q => ?_)
  · obtain ⟨l1, l2, l3⟩ := i.L f hf
    have e := hh f
    refine ⟨fun z => ?_, ?_, fun z => ?_⟩
    · have := i.un hf z
      show hcK (W k) f = 0
      omega
    · show hcK (W k) f ≤ 100
      unfold hcK
      by_cases z : bz ((W k).1 0 5) = 0 ∨ bz ((W k).1 0 6) = 0
      · rw [if_pos z]; omega
      · rw [if_neg z]
        obtain ⟨m, d, l, r, hr, hw⟩ := i.W k hk (fun y => z (Or.inl y))
        have := hw.md
        have := hw.dl
        have := hw.l12
        rw [hw.m, ix_nI (by omega)]
        have := cnt_le (fun j => decide ((W k).2.2 0 j = nI f)) m 0
        omega
    · obtain ⟨m1, m2⟩ := l3 z
      simp only [Nat.add_zero] at m1 m2
      show V 5 f = nI (hc V H W' f + hcK (W k) f) ∧ (V 1 f = 2 → 0 < hc V H W' f + hcK (W k) f)
      rw [e]
      exact ⟨m1, m2⟩
  · have jk : j ≠ k := fun z => q (by rw [z]; exact w0)
    rw [w1 j jk] at q ⊢
    exact i.W j hj q
theorem Inv.xcg {U : NodV} {V : MemV} {H : OneV} {W : WkV} {n vol t T : Nat} {x y : Nat → Nat} (i : Inv U V H W n vol t T x) (h : ∀ f, f < 64 → y f = x f) : Inv U V H W n vol t T y := by
  refine ⟨i.N, i.M, i.Z, fun f hf => ?_, i.H, i.W⟩
  rw [h f hf]
  exact i.L f hf
theorem hc_rel {U : NodV} {V V' : MemV} {H : OneV} {W : WkV} {n vol t T : Nat} {x : Nat → Nat} (i : Inv U V H W n vol t T x) {e : Nat} (c : Prop) [Decidable c] (v1 : ∀ f, V' 1 f = if f = e ∧ V 1 e = 2 ∧ c then 0 else V 1 f) (e64 : e < 64) (v2 : V' 2 = V 2) (v10 : V' 10 = V 10) {f : Nat} (hf : f < 64) : hc V' H W f = hc V H W f := by
  have c1 : hcC V' f = hcC V f := cnt_cong (fun j _ _ => by
    rw [v1, v2]
    by_cases z : j = e ∧ V 1 e = 2 ∧ c
    · have q : ¬ V 2 j = nI f := by
        rw [z.1, (i.M.go e e64 z.2.1).1]
        exact fun y => nI_m1 (show f < 2 ^ 31 by omega) y.symm
      simp [q]
    · rw [if_neg z])
  unfold hc
  rw [c1, show hcV V' f = hcV V f by unfold hcV; rw [v10]]
theorem letGo_loop {U : NodV} {H : OneV} {W : WkV} {n vol t T : Nat} {K : OneV} {B : TriV} {m : Nat} (hv : ¬ bz (K 0 6) = 0) (hm : K 0 4 = nI m) (m25 : m ≤ 25) (hw : ∀ j, j < m → ∃ e, e < 64 ∧ B 0 j = nI e) : ∀ (nn k : Nat) (V : MemV), k + nn = 25 → k ≤ m → Inv U V H W n vol t T (fun f => cnt (fun j => decide (B 0 j = nI f)) k (m - k)) → Inv U (lp_X7_letGo_2 K B nn k V) H W n vol t T (fun _ => 0) ∧ (∀ f, f < 64 → lp_X7_letGo_2 K B nn k V 1 f = if V 1 f = 2 ∧ hc V H W f = 0 then 0 else V 1 f) ∧ ∀ q : Fin 12, q ≠ 1 → q ≠ 5 → lp_X7_letGo_2 K B nn k V q = V q := by
  intro nn
  induction nn with
  | zero =>
    intro k V hk km i
    have : k = m := by omega
    subst this
    have e : lp_X7_letGo_2 K B 0 k V = V := by
      show (if (bz (K 0 6)) = 0 then (V) else (if (K 0 4) ≤ (nI k) then (V) else (V))) = V
      rw [if_neg hv, ite_self]
    have i0 : Inv U V H W n vol t T (fun _ => 0) := by
      have : (fun f => cnt (fun j => decide (B 0 j = nI f)) k (k - k)) = fun _ => 0 := by
        funext f
        rw [Nat.sub_self]
        rfl
      rw [this] at i
      exact i
    rw [e]
    refine ⟨i0, fun f hf => ?_, fun _ _ _ => rfl⟩
    rw [if_neg]
    rintro ⟨y1, y2⟩
    have := ((i0.L f hf).2.2 (by rw [y1]; exact i20)).2 y1
    simp only [Nat.add_zero] at this
    omega
  | succ nn ih =>
    intro k V hk km i
    have st : lp_X7_letGo_2 K B (nn + 1) k V = (if (bz (K 0 6)) = 0 then (V) else (if (K 0 4) ≤ (nI k) then (V) else lp_X7_letGo_2 K B nn (k + 1) (gV_X1_release V (B 0 k)))) := rfl
    by_cases z : k = m
    · subst z
      have i0 : Inv U V H W n vol t T (fun _ => 0) := by
        have : (fun f => cnt (fun j => decide (B 0 j = nI f)) k (k - k)) = fun _ => 0 := by
          funext f
          rw [Nat.sub_self]
          rfl
        rw [this] at i
        exact i
      rw [st, if_neg hv, hm, if_pos (Int32.le_refl _)]
      refine ⟨i0, fun f hf => ?_, fun _ _ _ => rfl⟩
      rw [if_neg]
      rintro ⟨y1, y2⟩
      have := ((i0.L f hf).2.2 (by rw [y1]; exact i20)).2 y1
      simp only [Nat.add_zero] at this
      omega
    · obtain ⟨e, e64, ee⟩ := hw k (by omega)
      rw [st, if_neg hv, hm, if_neg (nI_ge (show k < m by omega) (by omega)), ee]
      have xe : ∀ f, f < 64 → dlx (fun f => cnt (fun j => decide (B 0 j = nI f)) (k + 1) (m - (k + 1))) e f = cnt (fun j => decide (B 0 j = nI f)) k (m - k) := by
        intro f hf
        have mk : m - k = (m - (k + 1)) + 1 := by omega
        rw [mk]
        show cnt (fun j => decide (B 0 j = nI f)) (k + 1) (m - (k + 1)) + (if f = e then 1 else 0) = (if decide (B 0 k = nI f) = true then 1 else 0) + cnt (fun j => decide (B 0 j = nI f)) (k + 1) (m - (k + 1))
        have c2 : (if decide (B 0 k = nI f) = true then 1 else 0) = if f = e then 1 else 0 := by
          rw [ee]
          by_cases y : f = e
          · rw [if_pos y, if_pos (by rw [y]; simp)]
          · rw [if_neg y, if_neg]
            simp only [decide_eq_true_eq]
            exact fun w => y ((nI_eq (by omega) (by omega)).mp w).symm
        rw [c2]
        exact Nat.add_comm _ _
      have i := i.xcg xe
      have e1 : ¬ V 1 e = 0 := fun y => by
        have := (i.L e e64).1 y
        unfold dlx at this
        rw [if_pos rfl] at this
        omega
      obtain ⟨i1, v1⟩ := i.release e64 e1
      obtain ⟨j1, j2, j3⟩ := ih (k + 1) (gV_X1_release V (nI e)) (by omega) (by omega) i1
      have hcc := fun {f} hf => hc_rel i (H := H) (hc V H W e + cnt (fun j => decide (B 0 j = nI e)) (k + 1) (m - (k + 1)) = 0) v1 e64 (re_k _ _ _ (by decide) (by decide)) (re_k _ _ _ (by decide) (by decide)) (f := f) hf
      refine ⟨j1, fun f hf => ?_, fun q q1 q5 => by rw [j3 q q1 q5, re_k _ _ _ q1 q5]⟩
      rw [j2 f hf, hcc hf, v1 f]
      by_cases y : f = e ∧ V 1 e = 2 ∧ hc V H W e + cnt (fun j => decide (B 0 j = nI e)) (k + 1) (m - (k + 1)) = 0
      · rw [if_pos y, if_neg (fun w => absurd w.1 (by decide)), if_pos ⟨by rw [y.1]; exact y.2.1, by rw [y.1]; omega⟩]
      · rw [if_neg y]
end
section
/-! A walker that quits, on both sides. -/
theorem Inv.stop {U : NodV} {V : MemV} {H : OneV} {W W' : WkV} {n vol t T : Nat} (i : Inv U V H W n vol t T (fun _ => 0)) {k : Nat} (hk : k < 4) (uw : ¬ bz ((W k).1 0 5) = 0) (w1 : ∀ j, j ≠ k → W' j = W j) (w0 : bz ((W' k).1 0 5) = 0) : Inv U (gV_X7_letGo (W k).1 (W k).2.2 V) H W' n vol t T (fun _ => 0) ∧ (∀ f, f < 64 → gV_X7_letGo (W k).1 (W k).2.2 V 1 f = if V 1 f = 2 ∧ hc V H W' f = 0 then 0 else V 1 f) ∧ ∀ q : Fin 12, q ≠ 1 → q ≠ 5 → gV_X7_letGo (W k).1 (W k).2.2 V q = V q := by
  have i1 := i.wsub hk w1 w0
  show Inv U (lp_X7_letGo_2 (W k).1 (W k).2.2 25 0 V) H W' n vol t T (fun _ => 0) ∧ (∀ f, f < 64 → lp_X7_letGo_2 (W k).1 (W k).2.2 25 0 V 1 f = if V 1 f = 2 ∧ hc V H W' f = 0 then 0 else V 1 f) ∧ ∀ q : Fin 12, q ≠ 1 → q ≠ 5 → lp_X7_letGo_2 (W k).1 (W k).2.2 25 0 V q = V q
  by_cases hv : bz ((W k).1 0 6) = 0
  · have i0 : Inv U V H W' n vol t T (fun _ => 0) := i1.xcg (fun f _ => by
      show 0 = hcK (W k) f
      unfold hcK
      rw [if_pos (Or.inr hv)])
    have e : lp_X7_letGo_2 (W k).1 (W k).2.2 25 0 V = V := if_pos hv
    rw [e]
    refine ⟨i0, fun f hf => ?_, fun _ _ _ => rfl⟩
    rw [if_neg]
    rintro ⟨y1, y2⟩
    have := ((i0.L f hf).2.2 (by rw [y1]; exact i20)).2 y1
    simp only [Nat.add_zero] at this
    omega
  · obtain ⟨m, d, l, r, hr, hw⟩ := i.W k hk uw
    have q1 := hw.md
    have q2 := hw.dl
    have q3 := hw.l12
    refine letGo_loop hv hw.m (by omega) (fun j hj => ?_) 25 0 V (by omega) (by omega) (i1.xcg (fun f _ => ?_))
    · obtain ⟨e, e64, g1, _⟩ := (hw.wy j hj).ex
      exact ⟨e, e64, g1⟩
    · show cnt (fun j => decide ((W k).2.2 0 j = nI f)) 0 (m - 0) = hcK (W k) f
      unfold hcK
      rw [if_neg (fun z => z.elim uw hv), hw.m, ix_nI (by omega)]
      rfl
theorem Rel.wsub {U : NodV} {V : MemV} {H : OneV} {W W' : WkV} {D : RowV} {n : Nat} (r : Rel none U V H W D n) (n60 : n ≤ 60) {k : Nat} (hk : k < 4) (w1 : ∀ j, j ≠ k → W' j = W j) (w0 : bz ((W' k).1 0 5) = 0) : Rel none U V H W' (sD D (17 + 96 * k + 0) 0) n := by
  have o : ∀ j, j ≠ 17 + 96 * k + 0 → sD D (17 + 96 * k + 0) 0 j = D j := fun j q => sD_n _ _ q
  have b := r.B
  refine ⟨⟨?_, ?_, ?_, ?_, ?_, ?_, ?_, ?_, ?_, ?_, ?_⟩, ?_, ?_, fun k z => by cases z⟩
  · rw [o _ (by omega)]; exact b.tk
  · rw [o _ (by omega)]; exact b.lo
  · rw [o _ (by omega)]; exact b.tr
  · rw [o _ (by omega)]; exact b.rm
  · rw [o _ (by omega)]; exact b.ev
  · intro v hv
    rw [o _ (by omega)]; exact b.rt v hv
  · intro v hv
    rw [o _ (by omega)]; exact b.ov v hv
  · intro j hj
    rw [o _ (by omega)]; exact b.ha j hj
  · intro j hj
    rw [o _ (by omega), o _ (by omega), o _ (by omega), o _ (by omega), o _ (by omega)]; exact b.nd j hj
  · intro f hf
    rw [o _ (by omega)]; exact b.th f hf
  · intro f hf q
    rw [o _ (by omega), o _ (by omega), o _ (by omega), o _ (by omega), o _ (by omega), o _ (by omega), o _ (by omega), o _ (by omega)]; exact b.en f hf q
  · intro j hj
    by_cases z : j = k
    · subst z
      exact ⟨by rw [sD_s, w0], fun q => absurd w0 q, fun q => absurd w0 q, fun q => absurd w0 q⟩
    · rw [w1 j z]
      obtain ⟨c1, c2, c3, c4⟩ := r.K j hj
      refine ⟨by rw [o _ (by omega)]; exact c1, fun q => ?_, fun q i hi h2 => ?_, fun q i hi h2 => ?_⟩
      · rw [o _ (by omega), o _ (by omega), o _ (by omega), o _ (by omega)]; exact c2 q
      · rw [o _ (by omega)]; exact c3 q i hi h2
      · rw [o _ (by omega), o _ (by omega), o _ (by omega)]; exact c4 q i hi h2
  · intro j hj q q2
    have z : j ≠ k := fun z => q (by rw [z]; exact w0)
    rw [w1 j z] at q ⊢
    exact ⟨by rw [o _ (by omega)]; exact r.M j hj q q2, r.R2 j hj q q2⟩
theorem P_quit {I : MI} {J : MJ} {T B0 : Nat} (h : St I J T B0) (h30 : T + 10001 ≤ 1000000000) (x : Int32) : Pair I J T B0 (M_X9_quit [mR (some 0), mI x]) (M_X10_quit [mR (some 188), mI x]) := by
  have refs : ∀ Y : MI, M_X10_isWalker [mR (some 188), mI x] (Y, J) = some (some (mI 0), (Y, J)) → M_X10_quit [mR (some 188), mI x] (Y, J) = some (some (mI 0), (rfR Y 5, J)) := fun Y hc => by
    rw [E_X10_quit]
    simp only [h.1.2.kt, if_true, hc, Option.bind_some, asI_I, w_isRefused h.1.2 Y (show (5 : Int32) = nI 5 from rfl) (by decide)]
    simp
  rcases h.2.2.2.2.2.2.2.2.2 with td | u
  · have td' := td
    obtain ⟨vol0, ad, p, q, _, td13, ⟨nn0, tt0, _, _, r0⟩, _⟩ := td'
    rcases w_isWalker h.1.2 td13 r0 (rfz I 5) (by rw [rfz_o _ _ (by decide)]) (by rw [rfz_o _ _ (by decide)]) x with ⟨a1, a2⟩ | ⟨k, k4, xk, a1, a3, _⟩
    · exact Pair.no h h30 (k := 5) (by decide) (u_quit_no h.1.1 I x a1) (refs _ a2)
    · obtain ⟨vol, nn, t, X, J1, hv, i, c, r, k1, kl, rl, ⟨e1, e2, e3, e4, _⟩, xo, j6, _, rest⟩ := act_pre0 h h30 td
      have uE := u_quit h.1.1 I x a1 k4 k1 kl
      have vK : vw 1 X (31 + 6 * k) = (wks I 31 k).1 := vw_fr (fun y p q => e4 y (by omega) (by omega))
      have vB : vw 3 X (31 + 6 * k + 3) = (wks I 31 k).2.2 := vw_fr (fun y p q => e4 y (by omega) (by omega))
      have sE : stpI X (31 + 6 * k) = pt (pt X (31 + 6 * k) (uv (uv (wks I 31 k).1 0 5 0) 0 4 0)) 17 (gV_X7_letGo (wks I 31 k).1 (wks I 31 k).2.2 (vw 12 I 17)) := by
        unfold stpI gK_X7_stop gV_X7_stop
        rw [vK, vB, e2]
      rw [sE] at uE
      have w1 : ∀ j, j ≠ k → (fun j => if j = k then (uv (uv (wks I 31 k).1 0 5 0) 0 4 0, (wks I 31 k).2.1, (wks I 31 k).2.2) else wks I 31 j : WkV) j = wks I 31 j := fun j z => if_neg z
      have w0 : bz (((fun j => if j = k then (uv (uv (wks I 31 k).1 0 5 0) 0 4 0, (wks I 31 k).2.1, (wks I 31 k).2.2) else wks I 31 j : WkV) k).1 0 5) = 0 := by
        show bz ((if k = k then (uv (uv (wks I 31 k).1 0 5 0) 0 4 0, (wks I 31 k).2.1, (wks I 31 k).2.2) else wks I 31 k).1 0 5) = 0
        rw [if_pos rfl]
        simp [uv, bz]
      have wk : (fun j => if j = k then (uv (uv (wks I 31 k).1 0 5 0) 0 4 0, (wks I 31 k).2.1, (wks I 31 k).2.2) else wks I 31 j : WkV) k = (uv (uv (wks I 31 k).1 0 5 0) 0 4 0, (wks I 31 k).2.1, (wks I 31 k).2.2) := if_pos rfl
      generalize (fun j => if j = k then (uv (uv (wks I 31 k).1 0 5 0) 0 4 0, (wks I 31 k).2.1, (wks I 31 k).2.2) else wks I 31 j : WkV) = W' at w1 w0 wk
      have ip := i.T (show T ≤ T + 10001 by omega) h30
      obtain ⟨i2, v1, kV⟩ := ip.stop k4 a3 w1 w0
      have i1 := ip.wsub k4 w1 w0
      have r1 := r.wsub i.N.n60 k4 w1 w0
      generalize gV_X7_letGo (wks I 31 k).1 (wks I 31 k).2.2 (vw 12 I 17) = V' at uE i2 v1 kV
      generalize hK' : uv (uv (wks I 31 k).1 0 5 0) 0 4 0 = K' at uE wk
      have oX : ∀ y, y < 17 ∨ (29 ≤ y ∧ y ≠ 31 + 6 * k) → pt (pt X (31 + 6 * k) K') 17 V' y = X y := fun y q => by rw [pt_out (by omega), pt_out (by omega)]
      obtain ⟨Z, z1, zf, zo, zk, fin⟩ := rest (pt (pt X (31 + 6 * k) K') 17 V') (fun y q _ _ => oX y (by omega)) (by rw [oX 0 (by omega), xo 0 (by decide) (by decide)])
      have lo : ∀ y, 188 ≤ y → y < 208 → pt (pt X (31 + 6 * k) K') 17 V' y = I y := fun y p q => by rw [oX y (by omega), xo y (by omega) (by omega)]
      obtain ⟨D', G', s1, s2⟩ := r1.sweeps i1 rl Z zf.2.1 (Z 195) (Z 188 22) (V' := V') (fun q _ p1 p5 _ => kV q p1 p5) ⟨by rw [kV 0 (by decide) (by decide)], by rw [kV 0 (by decide) (by decide)], by rw [kV 0 (by decide) (by decide)], by rw [kV 0 (by decide) (by decide)]⟩ v1
      have isw : M_X10_isWalker [mR (some 188), mI x] (pt (pt X (31 + 6 * k) K') 17 V', J1) = some (some (mI 1), (pt (pt X (31 + 6 * k) K') 17 V', J1)) := by
        rcases w_isWalker rl td13 r0 (pt (pt X (31 + 6 * k) K') 17 V') (by rw [lo 188 (by decide) (by decide)]) (lo 194 (by decide) (by decide)) x with ⟨b1, _⟩ | ⟨_, _, _, _, _, b2⟩
        · rw [a1] at b1; cases b1
        · exact b2
      refine ⟨1, _, rF Z D' G' (Z 188 22), J1, uE, ?_, ?_⟩
      · rw [E_X10_quit]
        have wa := fun s => w_walkerAt s k 0 (show (0 : Int32) = nI 0 from rfl)
        rw [← xk] at wa
        simp only [rl.kt, if_true, isw, Option.bind_some, asI_I, if_neg i10, z1, asV_n, rl.f18, wa, rl.stD _ _ (show nI (17 + 96 * k + 0) = nI (17 + 96 * k + 0) from rfl) (show 17 + 96 * k + 0 < 1853 by omega)]
        have eD : up2 Z 194 (17 + 96 * k + 0) 0 = rF Z (sD (I 194) (17 + 96 * k + 0) 0) (Z 195) (Z 188 22) := by
          have := rF_sD Z (Z 194) (Z 195) (Z 188 22) (17 + 96 * k + 0) 0
          rw [rF_id, zf.1] at this
          exact this
        rw [eD, s1]
        simp [asV]
      · refine fin0 fin zf zk (by rw [zo 201 (by decide) (by decide), lo 201 (by decide) (by decide)]) h.2.2.2.1 h.2.2.2.2.2.1 j6 (by rw [oX 186 (by omega), xo 186 (by decide) (by decide)]) (by rw [oX 0 (by omega), xo 0 (by decide) (by decide)]) (by rw [oX 187 (by omega), xo 187 (by decide) (by decide)]) ⟨?_, vw_pt _ _ _, ?_, fun j hj => ?_⟩ i2 (c.sub (fun f hf q => ?_) (kV 9 (by decide) (by decide))) s2
        · rw [← e1]; exact vw_fr (fun y _ _ => oX y (by omega))
        · rw [← e3]; exact vw_fr (fun y _ _ => oX y (by omega))
        · by_cases z : j = k
          · subst z
            rw [wk]
            have x1 : vw 1 (pt (pt X (31 + 6 * j) K') 17 V') (31 + 6 * j) = K' := by
              rw [vw_out _ _ (by omega), vw_pt]
            have x2 : vw 2 (pt (pt X (31 + 6 * j) K') 17 V') (31 + 6 * j + 1) = (wks I 31 j).2.1 := vw_fr (fun y p q => by rw [oX y (by omega), e4 y (by omega) (by omega)])
            have x3 : vw 3 (pt (pt X (31 + 6 * j) K') 17 V') (31 + 6 * j + 3) = (wks I 31 j).2.2 := vw_fr (fun y p q => by rw [oX y (by omega), e4 y (by omega) (by omega)])
            show WkEq (vw 1 (pt (pt X (31 + 6 * j) K') 17 V') (31 + 6 * j), vw 2 (pt (pt X (31 + 6 * j) K') 17 V') (31 + 6 * j + 1), vw 3 (pt (pt X (31 + 6 * j) K') 17 V') (31 + 6 * j + 3)) _
            rw [x1, x2, x3]
            exact WkEq.refl _
          · rw [w1 j z]
            have x1 : vw 1 (pt (pt X (31 + 6 * k) K') 17 V') (31 + 6 * j) = (wks I 31 j).1 := vw_fr (fun y p q => by rw [oX y (by omega), e4 y (by omega) (by omega)])
            have x2 : vw 2 (pt (pt X (31 + 6 * k) K') 17 V') (31 + 6 * j + 1) = (wks I 31 j).2.1 := vw_fr (fun y p q => by rw [oX y (by omega), e4 y (by omega) (by omega)])
            have x3 : vw 3 (pt (pt X (31 + 6 * k) K') 17 V') (31 + 6 * j + 3) = (wks I 31 j).2.2 := vw_fr (fun y p q => by rw [oX y (by omega), e4 y (by omega) (by omega)])
            show WkEq (vw 1 (pt (pt X (31 + 6 * k) K') 17 V') (31 + 6 * j), vw 2 (pt (pt X (31 + 6 * k) K') 17 V') (31 + 6 * j + 1), vw 3 (pt (pt X (31 + 6 * k) K') 17 V') (31 + 6 * j + 3)) _
            rw [x1, x2, x3]
            exact WkEq.refl _
        · rw [v1 f hf] at q
          by_cases y : vw 12 I 17 1 f = 2 ∧ hc (vw 12 I 17) (vw 1 I 29) W' f = 0
          · rw [if_pos y] at q; exact absurd rfl q
          · rw [if_neg y] at q; exact q
  · have wn : q_X8_walkerAt I 31 x = none := by
      unfold q_X8_walkerAt
      by_cases a : x < 0
      · rw [if_pos a]
      · rw [if_neg a]
        by_cases b : (4 : Int32) ≤ x
        · rw [if_pos b]
        · rw [if_neg b, if_pos]
          have l4 : ix x < 4 := by
            rcases Nat.lt_or_ge (ix x) 4 with z | z
            · exact z
            · exact absurd (by rw [nI_ix a]; exact nI_le (a := 4) z (ix_lt x)) b
          exact u.2.2.1.2.2.2.2.2.2 (ix x) l4
    refine Pair.no h h30 (k := 5) (by decide) (u_quit_no h.1.1 I x wn) (refs _ ?_)
    have u13 : bz (rfz I 5 188 13) = 0 := by rw [rfz_o _ _ (by decide)]; exact u.2.1
    rw [E_X10_isWalker]
    simp [h.1.2.fz, u13]
end
section
/-! A row put aside, and taken back. -/
def rcp (a b : Nat) (k : Nat) (I : MI) : MI := up2 I b k (I a k)
theorem rcp_o {a b : Nat} : ∀ (n k : Nat) (I : MI) {x : Nat}, x ≠ b → itr (rcp a b) k n I x = I x
  | 0, k, I, x, h => rfl
  | n + 1, k, I, x, h => by
    show itr (rcp a b) (k + 1) n (rcp a b k I) x = I x
    rw [rcp_o n (k + 1) _ h]
    exact up2_o _ _ _ h
theorem rcp_at {a b : Nat} (hab : a ≠ b) : ∀ (n k : Nat) (I : MI) (j : Nat), itr (rcp a b) k n I b j = if k ≤ j ∧ j < k + n then I a j else I b j
  | 0, k, I, j => by
    rw [if_neg (by omega)]
    rfl
  | n + 1, k, I, j => by
    show itr (rcp a b) (k + 1) n (rcp a b k I) b j = _
    rw [rcp_at hab n (k + 1)]
    have o : rcp a b k I a = I a := up2_o _ _ _ hab
    rw [o]
    by_cases z : j = k
    · rw [z, if_neg (by omega), if_pos (by omega)]
      exact up2_s _ _ _ _
    · have : rcp a b k I b j = I b j := up2_k _ _ _ z
      rw [this]
      by_cases w : k + 1 ≤ j ∧ j < k + 1 + n
      · rw [if_pos w, if_pos (by omega)]
      · rw [if_neg w, if_neg (by omega)]
theorem w_putsAside {J : MJ} (h : RefL J) (I : MI) : M_X10_putsAside [mR (some 188)] (I, J) = some (none, (itr (rcp 194 196) 0 1853 I, J)) := by
  rw [E_X10_putsAside]
  have s1 := loop_all (fun k I => Ev T_X10_putsAside 2 [some (mR (some 188)), some (mI (nI k))] [] (I, J)) (rcp 194 196) 1853 I (fun k I hk => by
    try dsimp only
    rw [E_X10_putsAside_2, if_neg (show ¬ (1853 : Int32) ≤ nI k from nI_ge (b := 1853) hk (by decide))]
    have sv : ∀ v, st (I, J) 11 196 (nI k) v = some (up2 I 196 k v, J) := fun v => by
      rw [st_ok _ _ h.s23 (inb_nI (by omega) (by decide)), show (nI k).toNatClampNeg = k from ix_nI (by omega)]
    simp only [h.f23, h.f18, Option.bind_some, h.ldD _ rfl hk, sv, nI_1]
    rfl)
  try dsimp only at s1
  rw [show (nI 0) = 0 from rfl] at s1
  rw [s1, E_X10_putsAside_2, if_pos (show (1853 : Int32) ≤ nI 1853 by decide)]
theorem w_takesBack {J : MJ} (h : RefL J) (I : MI) : M_X10_takesBack [mR (some 188)] (I, J) = some (none, (itr (rcp 196 194) 0 1853 I, J)) := by
  rw [E_X10_takesBack]
  have s1 := loop_all (fun k I => Ev T_X10_takesBack 2 [some (mR (some 188)), some (mI (nI k))] [] (I, J)) (rcp 196 194) 1853 I (fun k I hk => by
    try dsimp only
    rw [E_X10_takesBack_2, if_neg (show ¬ (1853 : Int32) ≤ nI k from nI_ge (b := 1853) hk (by decide))]
    have lv : ld (I, J) 11 196 (nI k) = some (I 196 k) := by
      rw [ld_ok _ h.s23 (inb_nI (by omega) (by decide)), show (nI k).toNatClampNeg = k from ix_nI (by omega)]
    simp only [h.f23, h.f18, Option.bind_some, h.stD _ _ rfl hk, lv, nI_1]
    rfl)
  try dsimp only at s1
  rw [show (nI 0) = 0 from rfl] at s1
  rw [s1, E_X10_takesBack_2, if_pos (show (1853 : Int32) ≤ nI 1853 by decide)]
end
section
/-! What a path needs, on both sides. -/
theorem P_needs {I : MI} {J : MJ} {T B0 : Nat} (h : St I J T B0) (h30 : T + 10001 ≤ 1000000000) : Pair I J T B0 (M_X9_needs [mR (some 0)]) (M_X10_needs [mR (some 188)]) := by
  obtain ⟨n, t1, t2, t3⟩ := h.2.1
  have T4 := t1.1
  have rl := h.1.2
  have uE := u_needs h.1.1 I T4 t1.2.1
  have no : ∀ y p' l' S', ¬ (rowO I n).1 = 1 → M_X10_isPath [mR (some 188)] (tkn I n, J) = some (some (mI y), (pF (bgP (tkn I n) n) (nI p') (nI l') S', J)) → (y = 0 ∨ bz (I 188 13) = 0) → Pair I J T B0 (M_X9_needs [mR (some 0)]) (M_X10_needs [mR (some 188)]) := by
    intro y p' l' S' hn g1 hc
    rw [if_neg hn] at uE
    have f13 : pF (bgP (tkn I n) n) (nI p') (nI l') S' 188 13 = I 188 13 := by rw [pF_k _ _ _ _ (by decide) (by decide), bgP_k _ _ (by decide) (by decide) (by decide), tkn_o _ _ (by decide) (by decide)]
    refine ⟨-1, _, pF (bgP (tkn I n) n) (nI p') (nI l') S', J, uE, ?_, ?_⟩
    · rw [E_X10_needs]
      simp only [rl.kt, if_true, g1, Option.bind_some, asI_I, rl.fz, f13]
      by_cases z : y = 0
      · rw [if_pos z]
      · rw [if_neg z, if_pos (hc.resolve_left z)]
    · have o : ∀ x, x ≠ 7 → (x < 158 ∨ 183 ≤ x) → x ≠ 188 → x ≠ 192 → pF (bgP (tkn I n) n) (nI p') (nI l') S' x = I x := fun x a b c d => by rw [pF_o _ _ _ _ c d, bgP_o _ _ c, tkn_o _ _ a b]
      refine h.tk h30 (h.2.2.2.1.fr (o 186 (by decide) (by decide) (by decide) (by decide)) (o 190 (by decide) (by decide) (by decide) (by decide))) (fun x a b _ c _ d _ _ _ => o x a b c d) (fun k a b c d _ _ => ?_) ?_ ?_
      · rw [pF_k _ _ _ _ b d, bgP_k _ _ a b c, tkn_o _ _ (by decide) (by decide)]
      · rw [pF_o _ _ _ _ (by decide) (by decide), bgP_o _ _ (by decide)]; exact tkn_7 I n
      · rw [pF_k _ _ _ _ (by decide) (by decide)]; exact (bgP_3 _ _).2.1
  obtain ⟨y0, p0, l0, S0, g0, how0⟩ := path1 (Y := tkn I n) rl t1 (by rw [tkn_o _ _ (by decide) (by decide)]; exact t2) (fun k hk => by rw [tkn_o _ _ (by decide) (by decide)]; exact t3 k hk)
  rcases h.2.2.2.2.2.2.2.2.2 with ⟨vol, ad, p, q, hv, td, ⟨nn, t, i, c, r⟩, hs⟩ | u
  · have h6 : ¬ I 1 6 ≤ 0 := Told.h6 i
    rcases how0 h6 with ⟨hy, _⟩ | ⟨hn, y00⟩
    · rw [if_pos hy] at uE
      have e1 : vw 6 (tkn I n) 1 = vw 6 I 1 := vw_fr (fun x _ _ => tkn_o I n (by omega) (by omega))
      have e2 : vw 12 (tkn I n) 17 = vw 12 I 17 := vw_fr (fun x _ _ => tkn_o I n (by omega) (by omega))
      have e17 : tkn I n 17 13 = I 17 13 := by rw [tkn_o _ _ (by decide) (by decide)]
      unfold tryV at uE
      rw [e1, e2, e17] at uE
      generalize hV' : gV_X1_walk 12 (vw 2 (tkn I n) 158) (vw 6 I 1) (gV_X1_copyFrom (vw 12 I 17) (vw 12 (tkn I n) 55)) (tkn I n 158 1) = V' at uE
      have oT : ∀ x, x < 55 ∨ 67 ≤ x → pt (tkn I n) 55 V' x = tkn I n x := fun x a => pt_out (by omega)
      obtain ⟨y, p', l', S', g1, how⟩ := path1 (Y := pt (tkn I n) 55 V') rl t1 (by rw [oT _ (by omega), tkn_o _ _ (by decide) (by decide)]; exact t2) (fun k hk => by rw [oT _ (by omega), tkn_o _ _ (by decide) (by decide)]; exact t3 k hk)
      rcases how h6 with ⟨_, y1, l12, pth⟩ | ⟨z, _⟩
      · subst y1
        have eP : vw 2 (tkn I n) 158 = vw 2 (rowO I n).2 158 := vw_fr (fun x _ _ => tkn_r I n (by omega) (by omega))
        rw [← eP] at pth
        have l158 : tkn I n 158 1 = nI l' := pth.1
        have vc := VEq.copy (vw 12 I 17) (vw 12 (tkn I n) 55)
        generalize gV_X1_copyFrom (vw 12 I 17) (vw 12 (tkn I n) 55) = Vc at hV' vc
        have wr : ∀ k, k < 4 → WkEq (wks I 31 k) (wks I 31 k) := fun k _ => WkEq.refl _
        have ic := ((i.T (show T ≤ T + 10001 by omega) h30).cg (UEq.refl _) vc (fun _ _ => rfl) wr)
        have rc := r.cg i.N.n60 (UEq.refl _) vc (fun _ _ => rfl) wr (fun _ _ => rfl)
        have cc := c.cg vc
        have tT := i.Z.tT
        have yo : ∀ x, x ≠ 188 → x ≠ 192 → pF (bgP (pt (tkn I n) 55 V') n) (nI p') (nI l') S' x = pt (tkn I n) 55 V' x := fun x a b => by rw [pF_o _ _ _ _ a b, bgP_o _ _ a]
        have yk : ∀ k, k ≠ 1 → k ≠ 2 → k ≠ 3 → k ≠ 15 → pF (bgP (pt (tkn I n) 55 V') n) (nI p') (nI l') S' 188 k = I 188 k := fun k a b d e => by rw [pF_k _ _ _ _ b e, bgP_k _ _ a b d, oT _ (by omega), tkn_o _ _ (by decide) (by decide)]
        have y15 : pF (bgP (pt (tkn I n) 55 V') n) (nI p') (nI l') S' 188 15 = nI l' := pF_15 _ _ _ _
        have yS : pF (bgP (pt (tkn I n) 55 V') n) (nI p') (nI l') S' 192 = S' := pF_S _ _ _ _
        have y11 : pF (bgP (pt (tkn I n) 55 V') n) (nI p') (nI l') S' 188 1 = 0 := by rw [pF_k _ _ _ _ (by decide) (by decide)]; exact (bgP_3 _ _).2.1
        generalize hY : pF (bgP (pt (tkn I n) 55 V') n) (nI p') (nI l') S' = Y1 at g1 yo yk y15 yS y11
        have pa := w_putsAside rl Y1
        have ao : ∀ x, x ≠ 196 → itr (rcp 194 196) 0 1853 Y1 x = Y1 x := fun x a => rcp_o 1853 0 Y1 a
        have a6 : ∀ j, j < 1853 → itr (rcp 194 196) 0 1853 Y1 196 j = Y1 194 j := fun j hj => by rw [rcp_at (by decide) 1853 0 Y1 j, if_pos (by omega)]
        generalize itr (rcp 194 196) 0 1853 Y1 = Y2 at pa ao a6
        have y94 : Y2 194 = I 194 := by rw [ao 194 (by decide), yo 194 (by decide) (by decide), oT _ (by omega), tkn_o _ _ (by decide) (by decide)]
        have s8 := h.2.2.2.2.2.2.2.2.1
        have y20 : Y2 188 20 = -1 := by rw [ao 188 (by decide), yk 20 (by decide) (by decide) (by decide) (by decide)]; exact s8.1
        have y21 : Y2 188 21 = -1 := by rw [ao 188 (by decide), yk 21 (by decide) (by decide) (by decide) (by decide)]; exact s8.2
        have y2S : Y2 192 = S' := by rw [ao 192 (by decide), yS]
        obtain ⟨D', G', c', how', t', w1, w2, w3, w4, w5⟩ := rc.walks ic cc (fun e _ z => absurd rfl z) rl Y2 (by rw [y20]; exact Or.inl ⟨rfl, fun _ => rfl⟩) y21 (Y2 195) (Y2 188 22) rl.s14 (by decide) (P := vw 2 (tkn I n) 158) (lp := l') (m := l') (L := 12) pth.1 (Nat.le_refl _) l12 (by decide) (by omega) (fun k hk => by rw [y2S]; exact pth.2 k hk) (tkn I n 158 1) (by rw [l158, ix_nI (by omega)]) (by omega)
        rw [← y94, rF_id] at w1
        rw [hV'] at w2
        have tb := w_takesBack rl (rF Y2 D' G' c')
        have bo : ∀ x, x ≠ 194 → itr (rcp 196 194) 0 1853 (rF Y2 D' G' c') x = rF Y2 D' G' c' x := fun x a => rcp_o 1853 0 _ a
        have b4 : ∀ j, j < 1853 → itr (rcp 196 194) 0 1853 (rF Y2 D' G' c') 194 j = I 194 j := fun j hj => by
          rw [rcp_at (by decide) 1853 0 _ j, if_pos (by omega), rF_o _ _ _ _ (by decide) (by decide) (by decide), a6 j hj, yo 194 (by decide) (by decide), oT _ (by omega), tkn_o _ _ (by decide) (by decide)]
        generalize itr (rcp 196 194) 0 1853 (rF Y2 D' G' c') = Y3 at tb bo b4
        have o2 : ∀ x, x ≠ 7 → (x < 55 ∨ 67 ≤ x) → (x < 158 ∨ 183 ≤ x) → x ≠ 188 → x ≠ 192 → x ≠ 194 → x ≠ 195 → x ≠ 196 → Y3 x = I x := fun x h7 h55 h158 h188 h192 h194 h195 h196 => by
          rw [bo x h194, rF_o _ _ _ _ h188 h194 h195, ao x h196, yo x h188 h192, oT x h55, tkn_o _ _ h7 h158]
        have k2 : ∀ k, k ≠ 1 → k ≠ 2 → k ≠ 3 → k ≠ 15 → k ≠ 22 → Y3 188 k = I 188 k := fun k h1 h2 h3 h15 h22 => by
          rw [bo 188 (by decide), rF_k _ _ _ _ h22, ao 188 (by decide), yk k h1 h2 h3 h15]
        have f13 : ¬ bz (Y1 188 13) = 0 := by rw [yk 13 (by decide) (by decide) (by decide) (by decide)]; exact td
        have ld196 : ld (rF Y2 D' G' c', J) 11 196 1 = some (I 194 1) := by
          rw [ld_ok _ rl.s23 (by decide), rF_o _ _ _ _ (by decide) (by decide) (by decide), a6 _ (by decide), yo 194 (by decide) (by decide), oT _ (by omega), tkn_o _ _ (by decide) (by decide)]
          rfl
        obtain ⟨L, s7⟩ := h.2.2.2.2.2.2.2.1
        refine ⟨_, _, Y3, J, uE, ?_, ?_⟩
        · rw [E_X10_needs]
          simp only [rl.kt, if_true, g1, Option.bind_some, asI_I, if_neg i10, rl.fz, if_neg f13, pa, asV_n, rl.f14, rl.fi, show Y2 188 15 = nI l' by rw [ao 188 (by decide)]; exact y15, w1, rl.f18, rl.ldD _ (show (1 : Int32) = nI 1 from rfl) (show 1 < 1853 by decide), rF_D, rl.f23, ld196, tb, w2.1.B.lo, r.B.lo]
          rfl
        · refine h.sm ⟨0, ⟨by omega, ?_, fun k hk => by omega⟩, ?_, fun k hk => by omega⟩ (h.2.2.1.fr (o2 _ (by decide) (by decide) (by decide) (by decide) (by decide) (by decide) (by decide) (by decide)) (k2 _ (by decide) (by decide) (by decide) (by decide) (by decide)) (k2 _ (by decide) (by decide) (by decide) (by decide) (by decide))) (h.2.2.2.1.fr (o2 _ (by decide) (by decide) (by decide) (by decide) (by decide) (by decide) (by decide) (by decide)) (o2 _ (by decide) (by decide) (by decide) (by decide) (by decide) (by decide) (by decide) (by decide))) (h.2.2.2.2.1.fr (by rw [o2 0 (by decide) (by decide) (by decide) (by decide) (by decide) (by decide) (by decide) (by decide)]) (o2 _ (by decide) (by decide) (by decide) (by decide) (by decide) (by decide) (by decide) (by decide)) (k2 _ (by decide) (by decide) (by decide) (by decide) (by decide)) (o2 _ (by decide) (by decide) (by decide) (by decide) (by decide) (by decide) (by decide) (by decide))) (h.2.2.2.2.2.1.fr (by rw [o2 0 (by decide) (by decide) (by decide) (by decide) (by decide) (by decide) (by decide) (by decide)]) (o2 _ (by decide) (by decide) (by decide) (by decide) (by decide) (by decide) (by decide) (by decide)) (k2 _ (by decide) (by decide) (by decide) (by decide) (by decide)) (o2 _ (by decide) (by decide) (by decide) (by decide) (by decide) (by decide) (by decide) (by decide))) ⟨L, s7.fr (by rw [o2 69 (by decide) (by decide) (by decide) (by decide) (by decide) (by decide) (by decide) (by decide)]) (by rw [o2 69 (by decide) (by decide) (by decide) (by decide) (by decide) (by decide) (by decide) (by decide)]) (fun y _ _ => o2 y (by omega) (by omega) (by omega) (by omega) (by omega) (by omega) (by omega) (by omega)) (k2 _ (by decide) (by decide) (by decide) (by decide) (by decide)) (k2 _ (by decide) (by decide) (by decide) (by decide) (by decide)) (o2 _ (by decide) (by decide) (by decide) (by decide) (by decide) (by decide) (by decide) (by decide)) (o2 _ (by decide) (by decide) (by decide) (by decide) (by decide) (by decide) (by decide) (by decide))⟩ (s8.fr (k2 _ (by decide) (by decide) (by decide) (by decide) (by decide)) (k2 _ (by decide) (by decide) (by decide) (by decide) (by decide))) (fun y a b _ _ _ _ => o2 y (by omega) (by omega) (by omega) (by omega) (by omega) (by omega) (by omega) (by omega)) (o2 _ (by decide) (by decide) (by decide) (by decide) (by decide) (by decide) (by decide) (by decide)) (fun _ => ⟨by rw [o2 69 (by decide) (by decide) (by decide) (by decide) (by decide) (by decide) (by decide) (by decide)], by rw [o2 69 (by decide) (by decide) (by decide) (by decide) (by decide) (by decide) (by decide) (by decide)]⟩) (fun y a => o2 y (by omega) (by omega) (by omega) (by omega) (by omega) (by omega) (by omega) (by omega)) (fun k q => k2 k (by omega) (by omega) (by omega) (by omega) (by omega)) (fun k hk => b4 k hk) (o2 _ (by decide) (by decide) (by decide) (by decide) (by decide) (by decide) (by decide) (by decide)) (by omega) h30
          · show Y3 (7 + 0) 1 = nI 0
            rw [bo _ (by decide), rF_o _ _ _ _ (by decide) (by decide) (by decide), ao _ (by decide), yo _ (by decide) (by decide), oT _ (by omega)]
            exact tkn_7 I n
          · rw [bo _ (by decide), rF_k _ _ _ _ (by decide), ao _ (by decide)]
            exact y11
      · exact absurd hy z
    · exact no y0 p0 l0 S0 hn g0 (Or.inl y00)
  · refine no y0 p0 l0 S0 ?_ g0 (Or.inr u.2.1)
    unfold rowO
    rw [if_pos (by rw [u.2.2.1.2.1]; exact Int32.le_refl _)]
    exact (by decide : ¬ (-1 : Int32) = 1)
end
section
/-! What would be given up next, on both sides. -/
theorem Rel.drp {U : NodV} {V : MemV} {H : OneV} {W : WkV} {D : RowV} {n : Nat} (r : Rel none U V H W D n) (n60 : n ≤ 60) {e : Nat} (he : e < 64) : Rel none U (gV_X1_drop V (nI e)) H W (sD D (701 + 9 * e + 0) 0) n := by
  have o : ∀ i, i ≠ 701 + 9 * e + 0 → sD D (701 + 9 * e + 0) 0 i = D i := fun i h2 => sD_n _ _ h2
  have k := dr_k V (nI e)
  have b := r.B
  refine r.fr ⟨?_, ?_, ?_, ?_, ?_, ?_, ?_, ?_, ?_, ?_, ?_⟩ (fun i h1 h2 => o i (by omega)) (fun k z => by cases z)
  · rw [o 0 (by omega), k 0 (by decide) (by decide)]; exact b.tk
  · rw [o 1 (by omega), k 0 (by decide) (by decide)]; exact b.lo
  · rw [o 2 (by omega), k 0 (by decide) (by decide)]; exact b.tr
  · rw [o 3 (by omega), k 0 (by decide) (by decide)]; exact b.rm
  · rw [o 4 (by omega)]; exact b.ev
  · intro v hv
    rw [o _ (by omega), k 9 (by decide) (by decide)]; exact b.rt v hv
  · intro v hv
    rw [o _ (by omega), k 10 (by decide) (by decide)]; exact b.ov v hv
  · intro v hv
    rw [o _ (by omega)]; exact b.ha v hv
  · intro j hj
    rw [o _ (by omega), o _ (by omega), o _ (by omega), o _ (by omega), o _ (by omega)]
    exact b.nd j hj
  · intro f hf
    rw [dr_1 V he]
    by_cases q : f = e
    · subst q
      rw [if_pos rfl, if_neg (fun z => z.2 rfl), sD_s]
    · rw [if_neg q, o _ (by omega)]
      exact b.th f hf
  · intro f hf q
    rw [dr_1 V he] at q
    by_cases z : f = e
    · rw [if_pos z] at q
      exact absurd rfl q
    · rw [if_neg z] at q
      rw [dr_1 V he, if_neg z, o _ (by omega), o _ (by omega), o _ (by omega), o _ (by omega), o _ (by omega), o _ (by omega), o _ (by omega), o _ (by omega), k 2 (by decide) (by decide), k 3 (by decide) (by decide), k 4 (by decide) (by decide), k 6 (by decide) (by decide), k 7 (by decide) (by decide), k 8 (by decide) (by decide), cov_fr (k 10 (by decide) (by decide))]
      exact b.en f hf q
theorem nc_dr {V : MemV} {e : Nat} (he : e < 64) (h : ¬ V 1 e = 0) : nc (gV_X1_drop V (nI e)) + 1 = nc V := by
  have c := cnt_one (P := fun k => decide (¬ V 1 k = 0)) (P' := fun k => decide (¬ gV_X1_drop V (nI e) 1 k = 0)) (e := e) (n := 64) (k := 0) (Nat.zero_le _) (by omega) (fun j _ _ q => by rw [dr_1 V he, if_neg q])
  rw [dr_1 V he, if_pos rfl, if_pos (show decide (¬ V 1 e = 0) = true by simpa using h)] at c
  unfold nc
  simpa using c
theorem Inv.nc1 {U : NodV} {V : MemV} {H : OneV} {W : WkV} {n vol t T : Nat} {x : Nat → Nat} (i : Inv U V H W n vol t T x) : 0 < nc V := by
  obtain ⟨r0, r1, r2⟩ := i.M.r0
  rcases i.M.rt 0 (by omega) with ⟨q, _⟩ | ⟨_, r', r64, q2, q3, _⟩
  · rw [q] at r2
    exact absurd r2.symm (nI_m1 (by omega))
  · unfold nc
    refine cnt_pos (i := r') (Nat.zero_le _) (by omega) ?_
    simp only [decide_eq_true_eq]
    rw [q3]
    exact i10
theorem victim_loop {U : NodV} {H : OneV} {W : WkV} {n vol t T : Nat} {J : MJ} (h : RefL J) (I : MI) (hb : I 188 20 = -1) (c : Int32) (k : Int32) (nn : Nat) : ∀ (g : Nat) (V : MemV) (D G : RowV), g + nn = 64 → Rel none U V H W D n → Inv U V H W n vol t T (fun _ => 0) → nc V ≤ nn → ∃ D' G', Ev T_X10_victim 29 [some (mR (some 188)), some (mI k), some (mI (nI g)), some (mI (-1)), some (mI (q_X1_longestUnused V (-1)))] [] (rF I D G c, J) = some (some (mI (lp_victim k nn (nI g) V).1), (itr (rcp 196 194) 0 1853 (rF I D' G' c), J)) := by
  induction nn with
  | zero =>
    intro g V D G hg r i hn
    have := i.nc1
    omega
  | succ nn ih =>
    intro g V D G hg r i hn
    have tb := w_takesBack h (rF I D G c)
    generalize hX : itr (rcp 196 194) 0 1853 (rF I D G c) = X at tb
    have st : lp_victim k (nn + 1) (nI g) V = if q_X1_longestUnused V (-1) = -1 then (if k = -1 then nI g else -1, V) else if nI g = k then (q_X1_longestUnused V (-1), V) else lp_victim k nn (nI g + 1) (gV_X1_drop V (q_X1_longestUnused V (-1))) := rfl
    rw [st, E_X10_victim_29]
    rcases lu_q V (-1) with ⟨q, _⟩ | ⟨e, e64, q, fr⟩
    · refine ⟨D, G, ?_⟩
      rw [hX, q, if_pos rfl, if_pos rfl]
      simp only [h.kt, if_true, tb, Option.bind_some, asV_n]
      by_cases z : k = -1
      · simp only [if_pos z]
      · simp only [if_neg z]
    · have em : ¬ nI e = -1 := nI_m1 (by omega)
      rw [q, if_neg em, if_neg em]
      have s0 : ¬ V 1 e = 0 := by rw [fr.1]; exact i10
      by_cases z : nI g = k
      · refine ⟨D, G, ?_⟩
        have km : ¬ k = -1 := by rw [← z]; exact nI_m1 (by omega)
        rw [hX, if_pos z, if_pos z]
        simp only [h.kt, if_true, tb, Option.bind_some, asV_n, if_neg km]
      · rw [if_neg z, if_neg z]
        have hz := (i.hz e64 s0).mp fr.2.1
        have i2 := i.drop e64 fr.1 fr.2.2.1 hz.1 hz.2
        have r2 := r.drp i.N.n60 e64
        have nd := nc_dr e64 s0
        obtain ⟨G', lf⟩ := r2.leastFree i2 h I (Or.inl ⟨hb, fun _ => rfl⟩) G c (-1) (fun _ _ _ => rfl)
        obtain ⟨D3, G3, e3⟩ := ih (g + 1) (gV_X1_drop V (nI e)) (sD D (701 + 9 * e + 0) 0) G' (by omega) r2 i2 (by omega)
        refine ⟨D3, G3, ?_⟩
        simp only [h.f18, Option.bind_some, w_entryAt _ e 0 (show (0 : Int32) = nI 0 from rfl), asI_I, h.stD _ _ (show nI (701 + 9 * e + 0) = nI (701 + 9 * e + 0) from rfl) (show 701 + 9 * e + 0 < 1853 by omega), rF_sD, h.kt, if_true, lf, nI_1]
        exact e3
end
section
/-! What would be given up next: the pair. -/
theorem P_victim {I : MI} {J : MJ} {T B0 : Nat} (h : St I J T B0) (h30 : T + 10001 ≤ 1000000000) (x : Int32) : Pair I J T B0 (M_X9_victim [mR (some 0), mI x]) (M_X10_victim [mR (some 188), mI x]) := by
  have rl := h.1.2
  have uE := u_victim h.1.1 I x
  rcases h.2.2.2.2.2.2.2.2.2 with ⟨vol, ad, p, q, hv, td, ⟨nn, t, i, c, r⟩, hs⟩ | u
  · have h6 : ¬ I 1 6 ≤ 0 := Told.h6 i
    by_cases hx : (-1 : Int32) ≤ x
    · rw [if_neg (fun z => z.elim h6 (fun y => y hx))] at uE
      unfold vicO at uE
      have vc := VEq.copy (vw 12 I 17) (vw 12 I 55)
      generalize gV_X1_copyFrom (vw 12 I 17) (vw 12 I 55) = Vc at uE vc
      have wr : ∀ k, k < 4 → WkEq (wks I 31 k) (wks I 31 k) := fun k _ => WkEq.refl _
      have ic := i.cg (UEq.refl _) vc (fun _ _ => rfl) wr
      have rc := r.cg i.N.n60 (UEq.refl _) vc (fun _ _ => rfl) wr (fun _ _ => rfl)
      have ncl : nc Vc ≤ 64 := cnt_le _ 64 0
      generalize hV : (lp_victim x 64 0 Vc).2 = V' at uE
      have oT : ∀ y, y < 55 ∨ 67 ≤ y → pt I 55 V' y = I y := fun y a => pt_out (by omega)
      have pa := w_putsAside rl (pt I 55 V')
      have ao : ∀ y, y ≠ 196 → itr (rcp 194 196) 0 1853 (pt I 55 V') y = pt I 55 V' y := fun y a => rcp_o 1853 0 _ a
      have a6 : ∀ j, j < 1853 → itr (rcp 194 196) 0 1853 (pt I 55 V') 196 j = I 194 j := fun j hj => by rw [rcp_at (by decide) 1853 0 _ j, if_pos (by omega), oT _ (by omega)]
      generalize itr (rcp 194 196) 0 1853 (pt I 55 V') = Y2 at pa ao a6
      have y94 : Y2 194 = I 194 := by rw [ao 194 (by decide), oT _ (by omega)]
      have s8 := h.2.2.2.2.2.2.2.2.1
      have y20 : Y2 188 20 = -1 := by rw [ao 188 (by decide), oT _ (by omega)]; exact s8.1
      obtain ⟨G', lf⟩ := rc.leastFree ic rl Y2 (Or.inl ⟨y20, fun _ => rfl⟩) (Y2 195) (Y2 188 22) (-1) (fun _ _ _ => rfl)
      have id : rF Y2 (I 194) (Y2 195) (Y2 188 22) = Y2 := by rw [← y94]; exact rF_id _
      rw [id] at lf
      obtain ⟨D3, G3, e3⟩ := victim_loop rl Y2 y20 (Y2 188 22) x 64 0 Vc (I 194) G' (by omega) rc ic ncl
      have bo : ∀ y, y ≠ 194 → itr (rcp 196 194) 0 1853 (rF Y2 D3 G3 (Y2 188 22)) y = rF Y2 D3 G3 (Y2 188 22) y := fun y a => rcp_o 1853 0 _ a
      have b4 : ∀ j, j < 1853 → itr (rcp 196 194) 0 1853 (rF Y2 D3 G3 (Y2 188 22)) 194 j = I 194 j := fun j hj => by
        rw [rcp_at (by decide) 1853 0 _ j, if_pos (by omega), rF_o _ _ _ _ (by decide) (by decide) (by decide), a6 j hj]
      generalize itr (rcp 196 194) 0 1853 (rF Y2 D3 G3 (Y2 188 22)) = Y3 at e3 bo b4
      have o2 : ∀ y, (y < 55 ∨ 67 ≤ y) → y ≠ 188 → y ≠ 194 → y ≠ 195 → y ≠ 196 → Y3 y = I y := fun y h55 h188 h194 h195 h196 => by
        rw [bo y h194, rF_o _ _ _ _ h188 h194 h195, ao y h196, oT y h55]
      have k2 : ∀ k, k ≠ 22 → Y3 188 k = I 188 k := fun k h22 => by
        rw [bo 188 (by decide), rF_k _ _ _ _ h22, ao 188 (by decide), oT _ (by omega)]
      have f13 : ¬ bz (pt I 55 V' 188 13) = 0 := by rw [oT _ (by omega)]; exact td
      obtain ⟨L, s7⟩ := h.2.2.2.2.2.2.2.1
      obtain ⟨n, t1, t2, t3⟩ := h.2.1
      refine ⟨_, _, Y3, J, uE, ?_, ?_⟩
      · rw [E_X10_victim]
        simp only [rl.fz, Option.bind_some, if_neg f13, if_pos hx, rl.kt, if_true, pa, asV_n, lf, asI_I]
        exact e3
      · refine h.sm ⟨n, ?_, by rw [k2 1 (by decide)]; exact t2, fun k hk => by rw [o2 189 (by decide) (by decide) (by decide) (by decide) (by decide), o2 8 (by decide) (by decide) (by decide) (by decide) (by decide)]; exact t3 k hk⟩ (h.2.2.1.fr (o2 _ (by decide) (by decide) (by decide) (by decide) (by decide)) (k2 _ (by decide)) (k2 _ (by decide))) (h.2.2.2.1.fr (o2 _ (by decide) (by decide) (by decide) (by decide) (by decide)) (o2 _ (by decide) (by decide) (by decide) (by decide) (by decide))) (h.2.2.2.2.1.fr (by rw [o2 0 (by decide) (by decide) (by decide) (by decide) (by decide)]) (o2 _ (by decide) (by decide) (by decide) (by decide) (by decide)) (k2 _ (by decide)) (o2 _ (by decide) (by decide) (by decide) (by decide) (by decide))) (h.2.2.2.2.2.1.fr (by rw [o2 0 (by decide) (by decide) (by decide) (by decide) (by decide)]) (o2 _ (by decide) (by decide) (by decide) (by decide) (by decide)) (k2 _ (by decide)) (o2 _ (by decide) (by decide) (by decide) (by decide) (by decide))) ⟨L, s7.fr (by rw [o2 69 (by decide) (by decide) (by decide) (by decide) (by decide)]) (by rw [o2 69 (by decide) (by decide) (by decide) (by decide) (by decide)]) (fun y _ _ => o2 y (by omega) (by omega) (by omega) (by omega) (by omega)) (k2 _ (by decide)) (k2 _ (by decide)) (o2 _ (by decide) (by decide) (by decide) (by decide) (by decide)) (o2 _ (by decide) (by decide) (by decide) (by decide) (by decide))⟩ (s8.fr (k2 _ (by decide)) (k2 _ (by decide))) (fun y a b _ _ _ _ => o2 y (by omega) (by omega) (by omega) (by omega) (by omega)) (o2 _ (by decide) (by decide) (by decide) (by decide) (by decide)) (fun _ => ⟨by rw [o2 69 (by decide) (by decide) (by decide) (by decide) (by decide)], by rw [o2 69 (by decide) (by decide) (by decide) (by decide) (by decide)]⟩) (fun y a => o2 y (by omega) (by omega) (by omega) (by omega) (by omega)) (fun k q => k2 k (by omega)) (fun k hk => b4 k hk) (o2 _ (by decide) (by decide) (by decide) (by decide) (by decide)) (by omega) h30
        have : vw 2 Y3 7 = vw 2 I 7 := vw_fr (fun y _ _ => o2 y (by omega) (by omega) (by omega) (by omega) (by omega))
        rw [this]
        exact t1
    · rw [if_pos (Or.inr hx)] at uE
      refine Pair.ask h h30 uE (w := -1) ?_ rfl
      rw [E_X10_victim]
      simp only [rl.fz, Option.bind_some, if_neg td, if_neg hx]
  · rw [if_pos (Or.inl (by rw [u.2.2.1.2.1]; exact Int32.le_refl _))] at uE
    refine Pair.ask h h30 uE (w := -1) ?_ rfl
    rw [E_X10_victim]
    simp only [rl.fz, Option.bind_some, if_pos u.2.1]
end
section
/-! The first state. -/
theorem St.first {I : MI} {J : MJ} {B0 : Nat} (kl : KL J) (rl : RefL J) (hi : ∀ x, x < 188 → I x = ini x) (h188 : I 188 = fun y => if y = 7 ∨ y = 20 ∨ y = 21 ∨ y = 37 then -1 else 0) (hr : ∀ x, 189 ≤ x → x < 208 → I x = fun _ => 0) (j0 : J.1 0 15 = 1) (j1 : J.1 188 31 = 1) (ks : KSl J (fun _ => none)) (rm : Rm J (fun _ => none) B0) : St I J 0 B0 := by
  have k0 : ∀ k, k ≠ 7 → k ≠ 20 → k ≠ 21 → k ≠ 37 → I 188 k = 0 := fun k a b c d => by
    rw [h188]
    exact if_neg (by omega)
  have kn : ∀ x k, x < 188 → ini x k = I x k := fun x k hx => by rw [hi x hx]
  have z : ∀ x k, x < 188 → ini x k = 0 → I x k = 0 := fun x k hx e => by rw [← kn x k hx]; exact e
  have m : ∀ x k, x < 188 → ini x k = -1 → I x k = -1 := fun x k hx e => by rw [← kn x k hx]; exact e
  refine ⟨⟨kl, rl⟩, ⟨0, ⟨by omega, z 7 1 (by decide) rfl, fun k hk => by omega⟩, k0 1 (by decide) (by decide) (by decide) (by decide), fun k hk => by omega⟩, trivial, fun k hk => ?_, ⟨0, by omega, z 0 11 (by decide) rfl, k0 25 (by decide) (by decide) (by decide) (by decide), fun k hk => by omega⟩, ⟨?_, fun q => absurd ?_ q⟩, ⟨by rw [j0, j1], 1, by decide, by rw [j0]; rfl⟩, ⟨0, z 69 1 (by decide) rfl, by omega, k0 36 (by decide) (by decide) (by decide) (by decide), ?_, fun p hp => by omega⟩, ⟨?_, ?_⟩, Or.inr ⟨k0 11 (by decide) (by decide) (by decide) (by decide), ?_, ⟨z 1 5 (by decide) rfl, z 1 6 (by decide) rfl, fun e he => ?_, fun v hv => ⟨?_, ?_⟩, ⟨z 17 11 (by decide) rfl, z 17 12 (by decide) rfl, z 17 13 (by decide) rfl, z 17 14 (by decide) rfl⟩, fun k hk => ?_, fun k hk => ?_⟩, ⟨z 69 1 (by decide) rfl, m 69 2 (by decide) rfl⟩, fun _ => none, 0, ⟨z 67 1 (by decide) rfl, by decide, z 67 2 (by decide) rfl, by decide⟩, ⟨k0 28 (by decide) (by decide) (by decide) (by decide), k0 29 (by decide) (by decide) (by decide) (by decide)⟩, ks, rm, fun j hj => by omega⟩⟩
  · rw [z 186 k (by decide) rfl, hr 190 (by decide) (by decide)]
  · rw [z 0 14 (by decide) rfl, k0 32 (by decide) (by decide) (by decide) (by decide)]
  · rw [z 0 14 (by decide) rfl]; rfl
  · rw [m 69 2 (by decide) rfl, h188]; rfl
  · rw [h188]; rfl
  · rw [h188]; rfl
  · rw [k0 13 (by decide) (by decide) (by decide) (by decide)]; rfl
  · exact z 18 e (by decide) (by unfold ini iniM; simp)
  · exact m 26 v (by decide) (by unfold ini iniM; simp [hv])
  · exact m 27 v (by decide) (by unfold ini iniM; simp [hv])
  · exact m 29 k (by decide) (by unfold ini; simp [hk])
  · have : I (31 + 6 * k) 5 = 0 := z (31 + 6 * k) 5 (by omega) (by
      have : k = 0 ∨ k = 1 ∨ k = 2 ∨ k = 3 := by omega
      rcases this with e | e | e | e <;> subst e <;> rfl)
    rw [this]; rfl
theorem St.first' {I : MI} {J : MJ} (kl : KL J) (rl : RefL J) (hi : ∀ x, x < 188 → I x = ini x) (h188 : I 188 = fun y => if y = 7 ∨ y = 20 ∨ y = 21 ∨ y = 37 then -1 else 0) (hr : ∀ x, 189 ≤ x → x < 208 → I x = fun _ => 0) (j0 : J.1 0 15 = 1) (j1 : J.1 188 31 = 1) (hk : ∀ k, jR J 68 k = none) (hC : jC J = 208) : St I J 0 (jB J) := by
  refine St.first kl rl hi h188 hr j0 j1 ⟨fun s _ => Or.inl ⟨rfl, hk s⟩, fun s s' a a' _ _ _ q => by cases q⟩ ?_
  have c0 : cnt (fun s => ((fun _ => none : Nat → Option Nat) s).isSome) 0 20 = 0 := cnt_zero (fun _ _ _ => rfl)
  unfold Rm
  rw [c0, Nat.mul_zero, Nat.add_zero]
  exact ⟨hC, (Nat.add_zero _).symm⟩
end
