/-! A trace told, on both sides. -/
theorem RefL.f34 {J : MJ} (h : RefL J) (I : MI) : fR (I, J) 10 188 34 = some (some 202) := by rw [fR_ok 34 h.k, h.r34]
theorem RefL.f35 {J : MJ} (h : RefL J) (I : MI) : fR (I, J) 10 188 35 = some (some 203) := by rw [fR_ok 35 h.k, h.r35]
theorem RefL.f39 {J : MJ} (h : RefL J) (I : MI) : fR (I, J) 10 188 39 = some (some 204) := by rw [fR_ok 39 h.k, h.r39]
theorem RefL.f40 {J : MJ} (h : RefL J) (I : MI) : fR (I, J) 10 188 40 = some (some 205) := by rw [fR_ok 40 h.k, h.r40]
theorem ldx {I : MI} {J : MJ} {d a n k : Nat} (h : jS J a = (d, n)) (hk : k < n) (hn : n < 2 ^ 31) {x : Int32} (hx : x = nI k) : ld (I, J) d a x = some (I a k) := by
  subst hx
  rw [ld_ok _ h (inb_nI hk hn), show (nI k).toNatClampNeg = k from ix_nI (by omega)]
theorem stx {I : MI} {J : MJ} {d a n k : Nat} (h : jS J a = (d, n)) (hk : k < n) (hn : n < 2 ^ 31) {x : Int32} (hx : x = nI k) (v : Int32) : st (I, J) d a x v = some (up2 I a k v, J) := by
  subst hx
  rw [st_ok _ _ h (inb_nI hk hn), show (nI k).toNatClampNeg = k from ix_nI (by omega)]
/-- the reference's heap while a trace is read: draftTrace is c, draftSteps A, draftLong L -/
def tB (Y : MI) (c : Int32) (A L : RowV) : MI := fun a j => if a = 204 then A j else if a = 205 then L j else if a = 188 ∧ j = 38 then c else Y a j
theorem tB_A (Y : MI) (c : Int32) (A L : RowV) : tB Y c A L 204 = A := by
  funext j
  unfold tB
  rw [if_pos rfl]
theorem tB_L (Y : MI) (c : Int32) (A L : RowV) : tB Y c A L 205 = L := by
  funext j
  unfold tB
  rw [if_neg (by decide), if_pos rfl]
theorem tB_c (Y : MI) (c : Int32) (A L : RowV) : tB Y c A L 188 38 = c := by
  unfold tB
  rw [if_neg (by decide), if_neg (by decide), if_pos ⟨rfl, rfl⟩]
theorem tB_k (Y : MI) (c : Int32) (A L : RowV) {k : Nat} (h : k ≠ 38) : tB Y c A L 188 k = Y 188 k := by
  unfold tB
  rw [if_neg (by decide), if_neg (by decide), if_neg (fun q => h q.2)]
theorem tB_o (Y : MI) (c : Int32) (A L : RowV) {a : Nat} (h1 : a ≠ 188) (h2 : a ≠ 204) (h3 : a ≠ 205) : tB Y c A L a = Y a := by
  funext j
  unfold tB
  rw [if_neg h2, if_neg h3, if_neg (fun q => h1 q.1)]
theorem tB_sA (Y : MI) (c : Int32) (A L S : RowV) (p m : Int32) (i : Nat) (v : Int32) : up2 (pF (tB Y c A L) p m S) 204 i v = pF (tB Y c (sD A i v) L) p m S := by
  funext a j
  unfold up2 pF tB sD
  by_cases h : a = 204
  · subst h
    simp
  · simp [h]
theorem tB_sL (Y : MI) (c : Int32) (A L S : RowV) (p m : Int32) (i : Nat) (v : Int32) : up2 (pF (tB Y c A L) p m S) 205 i v = pF (tB Y c A (sD L i v)) p m S := by
  funext a j
  unfold up2 pF tB sD
  by_cases h : a = 205
  · subst h
    simp
  · simp [h]
theorem tB_sc (Y : MI) (c : Int32) (A L S : RowV) (p m : Int32) (v : Int32) : up2 (pF (tB Y c A L) p m S) 188 38 v = pF (tB Y v A L) p m S := by
  funext a j
  unfold up2 pF tB
  by_cases h : a = 188 ∧ j = 38
  · rw [if_pos h, if_neg (by omega), if_neg (by omega), if_neg (by omega), if_neg (by omega), if_neg (by omega), if_pos h]
  · simp [h]
theorem tB_id (Y : MI) : tB Y (Y 188 38) (Y 204) (Y 205) = Y := by
  funext a j
  unfold tB
  by_cases h : a = 204
  · rw [if_pos h, h]
  · rw [if_neg h]
    by_cases h2 : a = 205
    · rw [if_pos h2, h2]
    · rw [if_neg h2]
      by_cases h3 : a = 188 ∧ j = 38
      · rw [if_pos h3, h3.1, h3.2]
      · rw [if_neg h3]
theorem itr_sD (b : Nat) (g : Nat → Int32) : ∀ (n k : Nat) (A : RowV) (j : Nat), itr (fun k A => sD A (b + k) (g k)) k n A j = if b + k ≤ j ∧ j < b + k + n then g (j - b) else A j
  | 0, k, A, j => by
    rw [if_neg (by omega)]
    rfl
  | n + 1, k, A, j => by
    show itr (fun k A => sD A (b + k) (g k)) (k + 1) n (sD A (b + k) (g k)) j = _
    rw [itr_sD b g n (k + 1)]
    by_cases z : j = b + k
    · rw [if_neg (by omega), if_pos (by omega), z, sD_s, show b + k - b = k by omega]
    · by_cases w : b + k ≤ j ∧ j < b + k + (n + 1)
      · rw [if_pos (by omega), if_pos w]
      · rw [if_neg (by omega), if_neg w, sD_n _ _ z]
theorem rr_ne {a b : Nat} (ha : a < 12) (hb : b < 12) (h : a ≠ b) : rr 158 a + 2 ≤ rr 158 b ∨ rr 158 b + 2 ≤ rr 158 a := by
  unfold rr
  split <;> split <;> omega
/-- what has been told so far -/
def Trs (X : MI) (A L : RowV) (c : Nat) : Prop := ∀ k, k < c → ∃ l, l ≤ 12 ∧ L k = nI l ∧ Pth (vw 2 X (rr 158 k)) (fun j => A (12 * k + j)) l
theorem trace_loop {Y : MI} {Q : RouV} {T : Nat} {J : MJ} (h : RefL J) (t : Tap Q T) (y3 : Y 188 3 = nI T) (y9 : ∀ k, k < T → Y 189 k = Q 1 k) : ∀ (f fr c : Nat) (A L : RowV) (m : Int32) (S : RowV) (X : MI), fr + f = T + 1 → 1 ≤ f → c ≤ 12 → Trs X A L c → ∃ y p' m' S' A' L' c', Ev T_X10_isTrace 11 [some (mR (some 188)), some (mI 1), none] [] (pF (tB Y (nI c) A L) (nI fr) m S, J) = some (some (mI y), (pF (tB Y (nI c') A' L') (nI p') m' S', J)) ∧ c' ≤ 12 ∧ ((y = 1 ∧ (lpRow T Q f fr c fr X).1 = nI c' ∧ Trs (lpRow T Q f fr c fr X).2 A' L' c') ∨ (y = 0 ∧ (lpRow T Q f fr c fr X).1 = -1)) := by
  have T4 := t.1
  intro f
  induction f using Nat.strongRecOn with
  | ind f ih =>
    intro fr c A L m S X hf f1 hc tr
    have rt : ∀ c A L, RTap (tB Y c A L) Q T := fun c A L => ⟨t, by rw [tB_k _ _ _ _ (by decide)]; exact y3, fun k hk => by rw [tB_o _ _ _ _ (by decide) (by decide) (by decide)]; exact y9 k hk⟩
    obtain ⟨to, o1, o2, o3, o4⟩ := ex_first (fun k => Q 1 k = 32) fr T (by omega)
    have o5 : to = T ∨ (to < T ∧ Q 1 to = 32) := by
      rcases Nat.eq_or_lt_of_le o2 with z | z
      · exact Or.inl z
      · exact Or.inr ⟨z, o4.resolve_left (by omega)⟩
    have scan := lpRow_scan t o2 (to - fr) f fr c fr X (by omega) (by omega) o3
    rw [show f - (to - fr) = (T - to) + 1 by omega] at scan
    rw [E_X10_isTrace_11, if_neg i10]
    have g38 : ∀ c A L p m S, pF (tB Y c A L) p m S 188 38 = c := fun c A L p m S => by rw [pF_k _ _ _ _ (by decide) (by decide)]; exact tB_c _ _ _ _
    have g3 : ∀ c A L p m S, pF (tB Y c A L) p m S 188 3 = nI T := fun c A L p m S => by rw [pF_k _ _ _ _ (by decide) (by decide), tB_k _ _ _ _ (by decide)]; exact y3
    simp only [h.fi, g38, Option.bind_some]
    by_cases c12 : c = 12
    · subst c12
      rw [if_pos (show nI 12 = 12 from rfl)]
      refine ⟨0, fr, m, S, A, L, 12, by simp, Nat.le_refl _, Or.inr ⟨rfl, ?_⟩⟩
      rw [scan, lpRow, if_neg, if_pos (by omega)]
      rintro ⟨z1, z2⟩
      rcases o5 with y | ⟨y1, y2⟩
      · omega
      · rw [t.in y1] at z2
        exact z2 y2
    · have c11 : c < 12 := by omega
      rw [if_neg (show ¬ nI c = 12 from fun z => c12 ((nI_eq (b := 12) (by omega) (by decide)).mp z))]
      have en := lpRow_end t o5 (T - to) fr c X c11
      obtain ⟨y, p', l', S', w1, w2, w3⟩ := w_isPathHere (rt (nI c) A L) h o1 o2 o4 o3 m S (vw 2 X (rr 158 c))
      simp only [h.kt, if_true, w1, Option.bind_some, asI_I]
      -- the copies
      have cp : ∀ l, l ≤ 12 → Ev T_X10_isTrace 35 [some (mR (some 188)), none, some (mI 0)] [] (pF (tB Y (nI c) A L) (nI p') (nI l) S', J) = Ev T_X10_isTrace 35 [some (mR (some 188)), none, some (mI (nI l))] [] (pF (tB Y (nI c) (itr (fun k A => sD A (12 * c + k) (S' k)) 0 l A) L) (nI p') (nI l) S', J) := fun l hl => by
        have s1 := loop_all (fun k A => Ev T_X10_isTrace 35 [some (mR (some 188)), none, some (mI (nI k))] [] (pF (tB Y (nI c) A L) (nI p') (nI l) S', J)) (fun k A => sD A (12 * c + k) (S' k)) l A (fun k A hk => by
          try dsimp only
          rw [E_X10_isTrace_35]
          have e12 : (12 : Int32) * nI c + nI k = nI (12 * c + k) := by rw [show (12 : Int32) = nI 12 from rfl, nI_mul, nI_add]
          simp only [h.fi, pF_15, Option.bind_some, if_neg (nI_ge hk (by omega)), h.f39, h.f14, g38, ldx h.s14 (show k < 64 by omega) (by decide) rfl, stx h.s39 (show 12 * c + k < 144 by omega) (by decide) e12, pF_S, tB_sA, nI_1])
        try dsimp only at s1
        rw [show (nI 0) = 0 from rfl] at s1
        exact s1
      have after : ∀ l, l ≤ 12 → ∀ A2, Ev T_X10_isTrace 35 [some (mR (some 188)), none, some (mI (nI l))] [] (pF (tB Y (nI c) A2 L) (nI p') (nI l) S', J) = if nI T ≤ nI p' then Ev T_X10_isTrace 11 [some (mR (some 188)), some (mI 0), none] [] (pF (tB Y (nI (c + 1)) A2 (sD L c (nI l))) (nI p') (nI l) S', J) else (ld (pF (tB Y (nI (c + 1)) A2 (sD L c (nI l))) (nI p') (nI l) S', J) 11 189 (nI p')).bind fun v15 => if v15 = 32 then Ev T_X10_isTrace 11 [some (mR (some 188)), some (mI 1), none] [] (pF (tB Y (nI (c + 1)) A2 (sD L c (nI l))) (nI (p' + 1)) (nI l) S', J) else Ev T_X10_isTrace 11 [some (mR (some 188)), some (mI 0), none] [] (pF (tB Y (nI (c + 1)) A2 (sD L c (nI l))) (nI p') (nI l) S', J) := fun l hl A2 => by
        rw [E_X10_isTrace_35]
        simp only [h.fi, pF_15, Option.bind_some, if_pos (Int32.le_refl (nI l)), h.f40, g38, stx h.s40 (show c < 12 by omega) (by decide) rfl, tB_sL, h.wi, tB_sc, pF_2, g3, h.f0, nI_1, if_true, if_neg i10, pF_s2]
      have stop : ∀ c2 A2 L2 m2, Ev T_X10_isTrace 11 [some (mR (some 188)), some (mI 0), none] [] (pF (tB Y c2 A2 L2) (nI p') m2 S', J) = some (some (mI (if nI p' = nI T then 1 else 0)), (pF (tB Y c2 A2 L2) (nI p') m2 S', J)) := fun c2 A2 L2 m2 => by
        rw [E_X10_isTrace_11]
        simp only [if_true, h.fi, pF_2, g3, Option.bind_some]
        by_cases z : nI p' = nI T
        · simp [z]
        · simp [z]
      rcases w3 with ⟨q1, q2, q3, q4, q5⟩ | ⟨q1, q2⟩
      · subst q2 q3
        rw [if_neg i10, cp l' q4, after l' q4]
        rw [scan, en, q1, if_neg i10]
        generalize hX' : pt X (rr 158 c) (gP_X4_readFrom 12 Q (vw 2 X (rr 158 c)) (nI fr) (nI p')) = X'
        generalize hA' : itr (fun k A => sD A (12 * c + k) (S' k)) 0 l' A = A'
        have a' : ∀ j, A' j = if 12 * c ≤ j ∧ j < 12 * c + l' then S' (j - 12 * c) else A j := fun j => by
          rw [← hA', itr_sD]
          simp only [Nat.add_zero]
        have tr' : Trs X' A' (sD L c (nI l')) (c + 1) := by
          intro k hk
          by_cases z : k = c
          · subst z
            refine ⟨l', q4, sD_s _ _ _, ?_⟩
            rw [← hX', vw_pt]
            refine ⟨q5.1, fun j hj => ?_⟩
            have := q5.2 j hj
            show NmS _ (A' (12 * k + j))
            rw [a', if_pos (by omega), show 12 * k + j - 12 * k = j by omega]
            exact this
          · obtain ⟨l, l1, l2, l3⟩ := tr k (by omega)
            refine ⟨l, l1, by rw [sD_n _ _ z]; exact l2, ?_⟩
            rw [← hX', vw_out _ _ (rr_ne (show k < 12 by omega) c11 z)]
            refine ⟨l3.1, fun j hj => ?_⟩
            show NmS _ (A' (12 * k + j))
            rw [a', if_neg (by omega)]
            exact l3.2 j hj
        rcases o5 with e | ⟨e1, e2⟩
        · subst e
          rw [if_pos (Int32.le_refl _), stop, if_pos rfl]
          refine ⟨1, _, _, _, _, _, c + 1, rfl, by omega, Or.inl ⟨rfl, ?_, ?_⟩⟩
          · rw [Nat.sub_self]; rfl
          · rw [Nat.sub_self]; exact tr'
        · rw [if_neg (nI_ge e1 (by omega)), (rt _ _ _).ld h _ _ S' e1 rfl, Option.bind_some, e2, if_pos rfl]
          exact ih (T - p') (by omega) (p' + 1) (c + 1) A' (sD L c (nI l')) (nI l') S' X' (by omega) (by omega) (by omega) tr'
      · have r0 : (lpRow T Q f fr c fr X).1 = -1 := by
          rw [scan, en, q1, if_pos rfl]
        rw [r0]
        rcases q2 with z | ⟨z1, z2, z3⟩
        · rw [if_pos z]
          exact ⟨0, p', nI l', S', A, L, c, by simp, hc, Or.inr ⟨rfl, rfl⟩⟩
        · subst z1
          rw [if_neg i10]
          rw [cp l' z3.2, after l' z3.2, if_neg (nI_ge z2 (by omega)), (rt _ _ _).ld h _ _ S' z2 rfl, Option.bind_some, if_neg z3.1, stop, if_neg (fun z => by have := (nI_eq (by omega) (by omega)).mp z; omega)]
          exact ⟨0, p', nI l', S', _, _, c + 1, rfl, by omega, Or.inr ⟨rfl, rfl⟩⟩
theorem w_isTrace {I Y : MI} {J : MJ} {T : Nat} (h : RefL J) (t : Tap (vw 2 I 7) T) (e1 : Y 188 1 = nI T) (e2 : ∀ k, k < T → Y 189 k = I 8 k) : ∃ y p' m' S' A' L' c', M_X10_isTrace [mR (some 188)] (Y, J) = some (some (mI y), (pF (tB (bgP Y T) (nI c') A' L') (nI p') m' S', J)) ∧ c' ≤ 12 ∧ (¬ I 1 6 ≤ 0 → ((y = 1 ∧ (rowO I T).1 = nI c' ∧ Trs (rowO I T).2 A' L' c') ∨ (y = 0 ∧ (rowO I T).1 = -1))) := by
  have := trace_loop (Y := bgP Y T) h t (bgP_3 Y T).1 (fun k hk => by rw [bgP_o _ _ (by decide)]; exact e2 k hk) (T + 1) 0 0 (bgP Y T 204) (bgP Y T 205) (bgP Y T 188 15) (bgP Y T 192) I (by omega) (by omega) (by omega) (fun k hk => by omega)
  obtain ⟨y, p', m', S', A', L', c', g1, g2, g3⟩ := this
  refine ⟨y, p', m', S', A', L', c', ?_, g2, fun q => ?_⟩
  · rw [E_X10_isTrace]
    simp only [h.kt, if_true, w_beginsPaths h Y e1, Option.bind_some, asV_n, h.wi]
    have e : up2 (bgP Y T) 188 38 0 = pF (tB (bgP Y T) (nI 0) (bgP Y T 204) (bgP Y T 205)) (nI 0) (bgP Y T 188 15) (bgP Y T 192) := by
      have z := tB_sc (bgP Y T) (bgP Y T 188 38) (bgP Y T 204) (bgP Y T 205) (bgP Y T 192) 0 (bgP Y T 188 15) 0
      rw [tB_id, pF_bg] at z
      exact z
    rw [e]
    exact g1
  · unfold rowO
    rw [if_neg q]
    exact g3
