/-! A path written, on both sides. -/
/-- the class's heap while it writes -/
def cF (I : MI) (o : Int32) (B : RowV) : MI := fun a j => if a = 185 then B j else if a = 0 ∧ j = 11 then o else I a j
/-- the reference's heap while it writes -/
def oF (Y : MI) (o : Int32) (C : RowV) : MI := fun a j => if a = 197 then C j else if a = 188 ∧ j = 25 then o else Y a j
theorem cF_B (I : MI) (o : Int32) (B : RowV) : cF I o B 185 = B := by
  funext j
  unfold cF
  rw [if_pos rfl]
theorem cF_c (I : MI) (o : Int32) (B : RowV) : cF I o B 0 11 = o := by
  unfold cF
  rw [if_neg (by decide), if_pos ⟨rfl, rfl⟩]
theorem cF_k (I : MI) (o : Int32) (B : RowV) {k : Nat} (h : k ≠ 11) : cF I o B 0 k = I 0 k := by
  unfold cF
  rw [if_neg (by decide), if_neg (fun q => h q.2)]
theorem cF_o (I : MI) (o : Int32) (B : RowV) {a : Nat} (h1 : a ≠ 0) (h2 : a ≠ 185) : cF I o B a = I a := by
  funext j
  unfold cF
  rw [if_neg h2, if_neg (fun q => h1 q.1)]
theorem cF_w (I : MI) (B : RowV) {o : Nat} (ho : o < 300) (x : Int32) : wrb (cF I (nI o) B) x = cF I (nI (o + 1)) (sD B o x) := by
  unfold wrb
  rw [cF_c, if_neg (nI_pos (by omega)), if_neg (show ¬ (300 : Int32) ≤ nI o from nI_ge (b := 300) ho (by decide)), ix_nI (by omega), nI_1]
  funext a j
  unfold up2 cF sD
  by_cases h : a = 0 ∧ j = 11
  · rw [if_pos h, if_neg (by omega), if_pos h]
  · rw [if_neg h]
    by_cases h2 : a = 185
    · subst h2
      simp
    · simp [h2, h]
theorem oF_C (Y : MI) (o : Int32) (C : RowV) : oF Y o C 197 = C := by
  funext j
  unfold oF
  rw [if_pos rfl]
theorem oF_c (Y : MI) (o : Int32) (C : RowV) : oF Y o C 188 25 = o := by
  unfold oF
  rw [if_neg (by decide), if_pos ⟨rfl, rfl⟩]
theorem oF_k (Y : MI) (o : Int32) (C : RowV) {k : Nat} (h : k ≠ 25) : oF Y o C 188 k = Y 188 k := by
  unfold oF
  rw [if_neg (by decide), if_neg (fun q => h q.2)]
theorem oF_o (Y : MI) (o : Int32) (C : RowV) {a : Nat} (h1 : a ≠ 188) (h2 : a ≠ 197) : oF Y o C a = Y a := by
  funext j
  unfold oF
  rw [if_neg h2, if_neg (fun q => h1 q.1)]
theorem oF_s (Y : MI) (o : Int32) (C : RowV) (i : Nat) (v : Int32) : up2 (oF Y o C) 197 i v = oF Y o (sD C i v) := by
  funext a j
  unfold up2 oF sD
  by_cases h : a = 197
  · subst h
    simp
  · simp [h]
theorem oF_sc (Y : MI) (o : Int32) (C : RowV) (v : Int32) : up2 (oF Y o C) 188 25 v = oF Y v C := by
  funext a j
  unfold up2 oF
  by_cases h : a = 188 ∧ j = 25
  · rw [if_pos h, if_neg (by omega), if_pos h]
  · simp [h]
theorem oF_id (Y : MI) : oF Y (Y 188 25) (Y 197) = Y := by
  funext a j
  unfold oF
  by_cases h : a = 197
  · rw [if_pos h, h]
  · rw [if_neg h]
    by_cases h3 : a = 188 ∧ j = 25
    · rw [if_pos h3, h3.1, h3.2]
    · rw [if_neg h3]
theorem RefL.f24 {J : MJ} (h : RefL J) (I : MI) : fR (I, J) 10 188 24 = some (some 197) := by rw [fR_ok 24 h.k, h.r24]
theorem w_writes {J : MJ} (h : RefL J) (Y : MI) (C : RowV) {o : Nat} (ho : o < 300) (x : Int32) : M_X10_writes [mR (some 188), mI x] (oF Y (nI o) C, J) = some (none, (oF Y (nI (o + 1)) (sD C o x), J)) := by
  rw [E_X10_writes]
  simp only [h.f24, h.fi, oF_c, Option.bind_some, stx h.s24 ho (by decide) rfl, oF_s, h.wi, oF_sc, nI_1]
/-- both have written the same -/
def Agr (B C : RowV) (o : Nat) : Prop := ∀ j, j < o → B j = C j
theorem Agr.w {B C : RowV} {o : Nat} (h : Agr B C o) (x : Int32) : Agr (sD B o x) (sD C o x) (o + 1) := by
  intro j hj
  by_cases z : j = o
  · rw [z, sD_s, sD_s]
  · rw [sD_n _ _ z, sD_n _ _ z]
    exact h j (by omega)
theorem name_loop {J : MJ} (h : RefL J) (I Y : MI) {a b c d len kx : Nat} (nl : NmL a b c d) (hlen : len = if b = 0 then 1 else if c = 0 then 2 else if d = 0 then 3 else 4) (k64 : kx < 64) (hk : Y 198 kx = nI (b27 a b c d)) : ∀ (m j o : Nat) (B C : RowV), j + m = 4 → o + m ≤ 300 → Agr B C o → ∃ o' B' C', itr (wrl (nI (pck a b c d))) j m (cF I (nI o) B) = cF I (nI o') B' ∧ o' ≤ o + m ∧ Agr B' C' o' ∧ Ev T_X10_path 150 [some (mR (some 188)), none, none, none, some (mI (nI kx)), some (mI (nI (min j len)))] [] (oF Y (nI o) C, J) = Ev T_X10_path 136 [some (mR (some 188)), none, none, none, some (mI (nI kx + (-1))), none] [] (oF Y (nI o') C', J) := by
  have l4 : len ≤ 4 := by rw [hlen]; split; omega; split; omega; split <;> omega
  have nl' := nl
  obtain ⟨n1, n2, n3, n4, n5, n6, n7⟩ := nl
  have ld198 : ∀ o C, ld (oF Y o C, J) 11 198 (nI kx) = some (nI (b27 a b c d)) := fun o C => by
    rw [ldx h.s26 k64 (by decide) rfl, oF_o _ _ _ (by decide) (by decide), hk]
  have lts : ∀ s, M_X10_lettersOf [mI (nI (b27 a b c d))] s = some (some (mI (nI len)), s) := fun s => by
    obtain ⟨len', w1, w2⟩ := w_lettersOf nl' s
    rw [w1, w2, hlen]
  intro m
  induction m with
  | zero =>
    intro j o B C hj ho ag
    refine ⟨o, B, C, rfl, by omega, ag, ?_⟩
    rw [show min j len = len by omega, E_X10_path_150]
    simp only [h.f26, Option.bind_some, ld198, lts, asI_I, if_pos (Int32.le_refl (nI len))]
  | succ m ih =>
    intro j o B C hj ho ag
    have e : itr (wrl (nI (pck a b c d))) j (m + 1) (cF I (nI o) B) = itr (wrl (nI (pck a b c d))) (j + 1) m (wrl (nI (pck a b c d)) j (cF I (nI o) B)) := rfl
    rw [e]
    have lq := let_c nl' (show j < 4 by omega)
    by_cases jl : j < len
    · have dg1 : 1 ≤ dg a b c d j ∧ dg a b c d j ≤ 26 := by
        rw [hlen] at jl
        unfold dg
        rcases (show j = 0 ∨ j = 1 ∨ j = 2 ∨ j = 3 by omega) with z | z | z | z
        · subst z; rw [if_pos rfl]; omega
        · subst z
          rw [if_neg (by decide), if_pos rfl]
          by_cases b0 : b = 0
          · rw [if_pos b0] at jl; omega
          · omega
        · subst z
          rw [if_neg (by decide), if_neg (by decide), if_pos rfl]
          by_cases b0 : b = 0
          · rw [if_pos b0] at jl; omega
          · rw [if_neg b0] at jl
            by_cases c0 : c = 0
            · rw [if_pos c0] at jl; omega
            · omega
        · subst z
          rw [if_neg (by decide), if_neg (by decide), if_neg (by decide)]
          by_cases b0 : b = 0
          · rw [if_pos b0] at jl; omega
          · rw [if_neg b0] at jl
            by_cases c0 : c = 0
            · rw [if_pos c0] at jl; omega
            · rw [if_neg c0] at jl
              by_cases d0 : d = 0
              · rw [if_pos d0] at jl; omega
              · omega
      have w : wrl (nI (pck a b c d)) j (cF I (nI o) B) = cF I (nI (o + 1)) (sD B o (nI (96 + dg a b c d j))) := by
        unfold wrl
        rw [lq, if_neg (nI_nle (show 0 < dg a b c d j by omega) (by omega)), cF_w I B (by omega)]
        congr 2
        rw [show (97 : Int32) = nI 97 from rfl, nI_add, show (1 : Int32) = nI 1 from rfl, nI_sub (by omega)]
        congr 1
        omega
      rw [w]
      obtain ⟨o', B', C', g1, g2, g3, g4⟩ := ih (j + 1) (o + 1) _ _ (by omega) (by omega) (ag.w (nI (96 + dg a b c d j)))
      refine ⟨o', B', C', g1, by omega, g3, ?_⟩
      rw [← g4, show min j len = j by omega, show min (j + 1) len = j + 1 by omega, E_X10_path_150]
      simp only [h.f26, Option.bind_some, ld198, lts, asI_I, if_neg (nI_ge jl (by omega)), w_letterNm nl' (show j < 4 by omega), h.kt, if_true, show (96 : Int32) + nI (dg a b c d j) = nI (96 + dg a b c d j) from nI_add 96 _, w_writes h Y C (show o < 300 by omega), asV_n, nI_1]
    · have dg0 : dg a b c d j = 0 := by
        rw [hlen] at jl
        unfold dg
        rcases (show j = 0 ∨ j = 1 ∨ j = 2 ∨ j = 3 by omega) with z | z | z | z
        · subst z
          exfalso
          apply jl
          split
          · omega
          · split
            · omega
            · split <;> omega
        · subst z
          rw [if_neg (by decide), if_pos rfl]
          by_cases b0 : b = 0
          · exact b0
          · exfalso
            apply jl
            rw [if_neg b0]
            split
            · omega
            · split <;> omega
        · subst z
          rw [if_neg (by decide), if_neg (by decide), if_pos rfl]
          by_cases c0 : c = 0
          · exact c0
          · exfalso
            apply jl
            rw [if_neg (fun q => c0 (n6 q)), if_neg c0]
            split <;> omega
        · subst z
          rw [if_neg (by decide), if_neg (by decide), if_neg (by decide)]
          by_cases d0 : d = 0
          · exact d0
          · exfalso
            apply jl
            rw [if_neg (fun q => d0 (n7 (n6 q))), if_neg (fun q => d0 (n7 q)), if_neg d0]
            omega
      have w : wrl (nI (pck a b c d)) j (cF I (nI o) B) = cF I (nI o) B := by
        unfold wrl
        rw [lq, dg0, if_pos (show nI 0 ≤ 0 by decide)]
      rw [w]
      obtain ⟨o', B', C', g1, g2, g3, g4⟩ := ih (j + 1) o B C (by omega) (by omega) ag
      refine ⟨o', B', C', g1, by omega, g3, ?_⟩
      rw [← g4, show min j len = len by omega, show min (j + 1) len = len by omega]
theorem write_loop {J : MJ} (h : RefL J) (I Y : MI) {l : Nat} (l60 : l ≤ 60) {R : RouV} {N : RowV} (hR : vw 2 I 183 = R) (hR1 : R 0 1 = nI l) (hn : ∀ j, j < l → Nm (R 1 j) (N (l - 1 - j))) (yN : Y 198 = N) : ∀ (m j o : Nat) (B C : RowV), j + m = l → o + 5 * m ≤ 300 → Agr B C o → ∃ o' B' C', itr (fun k I => wrs 183 60 k I) j m (cF I (nI o) B) = cF I (nI o') B' ∧ o' ≤ o + 5 * m ∧ Agr B' C' o' ∧ Ev T_X10_path 136 [some (mR (some 188)), none, none, none, some (mI (nI m - 1)), none] [] (oF Y (nI o) C, J) = some (some (mI (nI o')), (oF Y (nI o') C', J)) := by
  intro m
  induction m with
  | zero =>
    intro j o B C hj ho ag
    refine ⟨o, B, C, rfl, by omega, ag, ?_⟩
    rw [E_X10_path_136, if_pos (show nI 0 - 1 < 0 by decide)]
    simp only [h.fi, oF_c, Option.bind_some]
  | succ m ih =>
    intro j o B C hj ho ag
    have e : itr (fun k I => wrs 183 60 k I) j (m + 1) (cF I (nI o) B) = itr (fun k I => wrs 183 60 k I) (j + 1) m (wrs 183 60 j (cF I (nI o) B)) := rfl
    obtain ⟨a, b, c, d, nl, x1, x2⟩ := hn j (by omega)
    have em : nI (m + 1) - 1 = nI m := nI_sub (b := 1) (by omega)
    have w1 : wrs 183 60 j (cF I (nI o) B) = itr (wrl (nI (pck a b c d))) 0 4 (cF I (nI (o + 1)) (sD B o 47)) := by
      unfold wrs wrn
      rw [cF_w I B (by omega)]
      have v : vw 2 (cF I (nI (o + 1)) (sD B o 47)) 183 = R := by
        rw [← hR]
        exact vw_fr (fun x a b => cF_o _ _ _ (by omega) (by omega))
      rw [v, stepAt_k hR1 (by omega) l60 (by decide), x1]
    obtain ⟨o1, B1, C1, g1, g2, g3, g4⟩ := name_loop h I Y nl rfl (show m < 64 by omega) (by rw [yN, show m = l - 1 - j by omega]; exact x2) 4 0 (o + 1) (sD B o 47) (sD C o 47) rfl (by omega) (ag.w 47)
    obtain ⟨o', B', C', q1, q2, q3, q4⟩ := ih (j + 1) o1 B1 C1 (by omega) (by omega) g3
    refine ⟨o', B', C', by rw [e, w1, g1]; exact q1, by omega, q3, ?_⟩
    have es : nI m + (-1) = nI m - 1 := by
      apply Int32.toInt_inj.mp
      rw [Int32.toInt_sub, Int32.toInt_add]
      rfl
    rw [em, E_X10_path_136, if_neg (nI_pos (by omega))]
    simp only [h.kt, if_true, w_writes h Y C (show o < 300 by omega), Option.bind_some, asV_n]
    rw [show min 0 _ = 0 from Nat.zero_min _, show (nI 0) = 0 from rfl] at g4
    rw [g4, es]
    exact q4
