section
/-! Ranks of nodes; an entry moved. -/
theorem cnt_lt {P P' : Nat → Bool} {n : Nat} (h : ∀ i, i < n → P i = true → P' i = true) {j : Nat} (hj : j < n) (h1 : P j = false) (h2 : P' j = true) : cnt P 0 n < cnt P' 0 n := by
  have c := cnt_one (P := P) (P' := fun i => if i = j then true else P i) (e := j) (n := n) (k := 0) (Nat.zero_le _) (by omega) (fun i _ _ q => by rw [if_neg q])
  have m : cnt (fun i => if i = j then true else P i) 0 n ≤ cnt P' 0 n := cnt_mono (fun i _ hi q => by
    by_cases z : i = j
    · rw [z]; exact h2
    · rw [if_neg z] at q; exact h i (by omega) q)
  rw [if_neg (show ¬ P j = true by rw [h1]; decide), if_pos (show (if j = j then true else P j) = true by rw [if_pos rfl])] at c
  omega
/-- how many nodes lie deeper -/
def rkc (μ : Nat → Nat) (n k : Nat) : Nat := cnt (fun j => decide (μ j < μ k)) 0 n
theorem rkc_lt {μ : Nat → Nat} {n p k : Nat} (hp : p < n) (h : μ p < μ k) : rkc μ n p < rkc μ n k :=
  cnt_lt (fun i _ q => by simp only [decide_eq_true_eq] at q ⊢; omega) hp (by simp) (by simpa using h)
theorem rkc_le (μ : Nat → Nat) (n k : Nat) : rkc μ n k ≤ n := cnt_le _ _ _
def upn (U : NodV) : Nat → Int32 → Int32
  | 0, x => x
  | m + 1, x => upn U m (if x = -1 then -1 else U 2 (ix x))
theorem upn_m1 (U : NodV) : ∀ m, upn U m (-1) = -1
  | 0 => rfl
  | m + 1 => by
    show upn U m (if (-1 : Int32) = -1 then -1 else U 2 (ix (-1))) = -1
    rw [if_pos rfl]
    exact upn_m1 U m
theorem upn_s (U : NodV) {k : Nat} (hk : k < 2 ^ 31) (m : Nat) : upn U (m + 1) (nI k) = upn U m (U 2 k) := by
  show upn U m (if nI k = -1 then -1 else U 2 (ix (nI k))) = _
  rw [if_neg (nI_m1 hk), ix_nI hk]
/-- whether one entry is below another, on both sides -/
theorem within_loop {U : NodV} {V : MemV} {n vol : Nat} (hN : NodI U n vol) (hM : MemI U V n vol) {J : MJ} (h : RefL J) (Y : MI) (en : ∀ g, g < 64 → ¬ V 1 g = 0 → Y 194 (701 + 9 * g + 1) = V 2 g) {d : Nat → Nat} (hd : ∀ k p, k < n → p < n → ¬ U 4 k = 0 → U 2 k = nI p → d p < d k) {e ke : Nat} (e64 : e < 64) (e1 : V 1 e = 1) (e4 : V 4 e = nI ke) (ken : ke < n) : ∀ (f g k kk : Nat), At V g → V 4 g = nI k → k < n → rkc d n k < f → ∃ y, (y = 0 ∨ y = 1) ∧ lp_X1_isWithin_5 V (nI e) f kk (nI g) = y ∧ Ev T_X10_isBelow 2 [some (mR (some 188)), none, some (mI (nI e)), some (mI (nI g))] [] (Y, J) = some (some (mI y), (Y, J)) ∧ (y = 0 → ∀ m, ¬ upn U m (nI k) = nI ke) := by
  have n60 := hN.n60
  intro f
  induction f with
  | zero => intro g k kk _ _ _ hr; omega
  | succ f ih =>
    intro g k kk hg g4 kn hr
    have g64 := hg.1
    have g0 : ¬ V 1 g = 0 := by rw [hg.2.1]; exact i10
    have e0 : ¬ V 1 e = 0 := by rw [e1]; exact i10
    have st : lp_X1_isWithin_5 V (nI e) (f + 1) kk (nI g) = if nI g = nI e then 1 else lp_X1_isWithin_5 V (nI e) f (kk + 1) (V 2 g) := by
      show (if (q_X1_isEntry V (nI g)) = 0 then (0) else (if nI g = nI e then (1) else lp_X1_isWithin_5 V (nI e) f (kk + 1) (V 2 (ix (nI g))))) = _
      rw [Inv.isE g64 g0, if_neg i10, ix_nI (by omega)]
    rw [st, E_X10_isBelow_2, if_neg (nI_m1 (show g < 2 ^ 31 by omega))]
    simp only [h.kt, if_true, w_its h _ 1 (show (1 : Int32) = nI 1 from rfl) (show g < 128 by omega) (by decide), Option.bind_some, asI_I, en g g64 g0]
    by_cases z : nI g = nI e
    · rw [if_pos z, if_pos z]
      refine ⟨1, Or.inr rfl, rfl, by simp, fun q => absurd q i10⟩
    · rw [if_neg z, if_neg z]
      have ge : g ≠ e := fun q => z (by rw [q])
      have kke : ¬ nI k = nI ke := fun q => ge (hM.nd g e g64 e64 g0 e0 hg.2.2 (by rw [g4, e4, q]))
      by_cases rt : V 2 g = -1
      · rw [rt]
        obtain ⟨v, r, _, _, _, r1, r2, _, _, r5, _⟩ := hM.rn hN g64 hg.2.1 rt
        have rk : r = k := (nI_eq (by omega) (by omega)).mp (r2.symm.trans g4)
        subst rk
        refine ⟨0, Or.inl rfl, ?_, ?_, fun _ m => ?_⟩
        · cases f with
          | zero => rfl
          | succ f =>
            show (if (q_X1_isEntry V (-1)) = 0 then (0) else _) = _
            rw [if_pos]
            unfold q_X1_isEntry
            rw [if_pos (by decide)]
        · rw [E_X10_isBelow_2, if_pos rfl]
          simp
        · cases m with
          | zero => exact kke
          | succ m =>
            rw [upn_s U (by omega), r5, upn_m1]
            exact fun q => nI_m1 (show ke < 2 ^ 31 by omega) q.symm
      · obtain ⟨p, kp, p64, p2, p1, kpn, kp4, u2, _, u4, _⟩ := hM.up hN g64 hg.2.1 rt g4 kn
        have dd := hd k kp kn kpn u4 u2
        have := rkc_lt (n := n) kpn dd
        obtain ⟨y, y1, y2, y3, y4⟩ := ih p kp (kk + 1) ⟨p64, p1, by rw [kp4]; exact nI_m1 (by omega)⟩ kp4 kpn (by omega)
        rw [p2]
        refine ⟨y, y1, y2, y3, fun q m => ?_⟩
        cases m with
        | zero => exact kke
        | succ m =>
          rw [upn_s U (by omega), u2]
          exact y4 q m
theorem isF_cg {U U' : NodV} (h0 : U' 0 = U 0) (h4 : U' 4 = U 4) (y : Int32) : q_X2_isFolder U' y = q_X2_isFolder U y := by
  unfold q_X2_isFolder q_X2_exists
  rw [h0, h4]
theorem NodI.move {U U' : NodV} {n vol : Nat} (hN : NodI U n vol) {ke kf kp : Nat} {nm : Int32} (ken : ke < n) (ke4 : ¬ U 4 ke = 0) (ke2 : U 2 ke = nI kp) (kpn : kp < n) (kfn : kf < n) (kf2 : U 4 kf = 2) (vv : U 1 kf = U 1 ke) (sub : ∀ m, ¬ upn U m (nI kf) = nI ke) (nz : ¬ nm = 0) (fd : q_X2_find U (nI kf) nm = -1) (u2 : ∀ k, U' 2 k = if k = ke then nI kf else U 2 k) (u3 : ∀ k, U' 3 k = if k = ke then nm else U 3 k) (uk : ∀ q : Fin 6, q ≠ 2 → q ≠ 3 → U' q = U q) : NodI U' n vol := by
  have n60 := hN.n60
  have u0 := uk 0 (by decide) (by decide)
  have u1 := uk 1 (by decide) (by decide)
  have u4 := uk 4 (by decide) (by decide)
  have u5 := uk 5 (by decide) (by decide)
  have no : ∀ k, k < n → ¬ U 4 k = 0 → U 2 k = nI kf → ¬ U 3 k = nm := by
    rcases hN.fd (nI kf) nm with ⟨_, z⟩ | ⟨k, k1, k2, _⟩
    · exact z
    · rw [fd] at k2
      exact absurd k2.symm (nI_m1 (by omega))
  refine ⟨by rw [u0]; exact hN.ev, n60, by rw [u0]; exact hN.vs, hN.v3, by rw [u1]; exact hN.vol, by rw [u4]; exact hN.kd, fun k hk q => ?_, fun v hv => ?_, fun k hk q1 q2 => ?_, fun k j hk hj q1 q2 q3 q4 q5 => ?_, ?_, by rw [u5]; exact hN.r00, fun k hk q => ?_⟩
  · rw [u2] at q
    by_cases z : k = ke
    · rw [if_pos z] at q
      exact absurd q (nI_m1 (by omega))
    · rw [if_neg z] at q
      rw [u1, u5]
      exact hN.rt k hk q
  · obtain ⟨r, r1, r2, r3, r4, r5⟩ := hN.rts v hv
    refine ⟨r, r1, by rw [u5]; exact r2, by rw [u4]; exact r3, ?_, by rw [u1]; exact r5⟩
    rw [u2, if_neg]
    · exact r4
    · intro z
      rw [z, ke2] at r4
      exact nI_m1 (by omega) r4
  · rw [u4] at q1
    rw [u2] at q2 ⊢
    rw [u1]
    by_cases z : k = ke
    · rw [if_pos z]
      exact ⟨kf, kfn, rfl, by rw [u4]; exact kf2, by rw [z]; exact vv⟩
    · rw [if_neg z] at q2 ⊢
      obtain ⟨p, p1, p2, p3, p4⟩ := hN.par k hk q1 q2
      exact ⟨p, p1, p2, by rw [u4]; exact p3, p4⟩
  · rw [u4] at q1 q2
    rw [u2] at q3
    rw [u2, u2] at q4
    rw [u3, u3] at q5
    by_cases z : k = ke
    · by_cases w : j = ke
      · rw [z, w]
      · rw [if_pos z, if_neg w] at q4 q5
        exact absurd q5.symm (no j hj q2 q4.symm)
    · by_cases w : j = ke
      · rw [if_neg z, if_pos w] at q4 q5
        exact absurd q5 (no k hk q1 q4)
      · rw [if_neg z] at q3
        rw [if_neg z, if_neg w] at q4 q5
        exact hN.uq k j hk hj q1 q2 q3 q4 q5
  · obtain ⟨d, hd⟩ := hN.rk
    refine ⟨fun k => @ite Nat (∃ m, upn U m (nI k) = nI ke) (Classical.propDecidable _) (d k + d kf + 1) (d k), fun k a hk ha q1 q2 => ?_⟩
    show @ite Nat (∃ m, upn U m (nI a) = nI ke) (Classical.propDecidable _) (d a + d kf + 1) (d a) < @ite Nat (∃ m, upn U m (nI k) = nI ke) (Classical.propDecidable _) (d k + d kf + 1) (d k)
    rw [u4] at q1
    rw [u2] at q2
    by_cases z : k = ke
    · rw [if_pos z] at q2
      have af : a = kf := (nI_eq (by omega) (by omega)).mp q2.symm
      subst af
      rw [if_neg (fun ⟨m, q⟩ => sub m q), if_pos ⟨0, by rw [z]; rfl⟩]
      omega
    · rw [if_neg z] at q2
      have dd := hd k a hk ha q1 q2
      have iff : (∃ m, upn U m (nI a) = nI ke) ↔ ∃ m, upn U m (nI k) = nI ke := by
        constructor
        · rintro ⟨m, q⟩
          exact ⟨m + 1, by rw [upn_s U (by omega), q2]; exact q⟩
        · rintro ⟨m, q⟩
          cases m with
          | zero => exact absurd ((nI_eq (by omega) (by omega)).mp q) z
          | succ m =>
            rw [upn_s U (by omega), q2] at q
            exact ⟨m, q⟩
      by_cases w : ∃ m, upn U m (nI a) = nI ke
      · rw [if_pos w, if_pos (iff.mp w)]
        omega
      · rw [if_neg w, if_neg (fun q => w (iff.mpr q))]
        exact dd
  · rw [u2] at q
    rw [u3]
    by_cases z : k = ke
    · rw [if_pos z]; exact nz
    · rw [if_neg z] at q ⊢
      exact hN.nn k hk q
theorem Inv.move {U U' : NodV} {V V' : MemV} {H : OneV} {W : WkV} {n vol t T : Nat} (i : Inv U V H W n vol t T (fun _ => 0)) (h30 : T + 1 ≤ 1000000000) {e p f ke kf : Nat} {nm : Int32} (e64 : e < 64) (e1 : V 1 e = 1) (e2 : V 2 e = nI p) (p64 : p < 64) (e4 : V 4 e = nI ke) (ken : ke < n) (fA : At V f) (f4 : V 4 f = nI kf) (kfn : kf < n) (kf2 : U 4 kf = 2) (vv : U 1 kf = U 1 ke) (sub : ∀ m, ¬ upn U m (nI kf) = nI ke) (nz : ¬ nm = 0) (fd : q_X2_find U (nI kf) nm = -1) (ng : ∀ g, g < 64 → V 1 g = 1 → V 2 g = nI f → ¬ V 3 g = nm) (u2 : ∀ k, U' 2 k = if k = ke then nI kf else U 2 k) (u3 : ∀ k, U' 3 k = if k = ke then nm else U 3 k) (uk : ∀ q : Fin 6, q ≠ 2 → q ≠ 3 → U' q = U q) (a2 : ∀ j, V' 2 j = if j = e then nI f else V 2 j) (a3 : ∀ j, V' 3 j = if j = e then nm else V 3 j) (a5 : ∀ j, V' 5 j = if j = f then V 5 f + 1 else V 5 j) (a6 : ∀ j, V' 6 j = if j = e then V 6 e + 1 else V 6 j) (kk : ∀ q : Fin 12, q ≠ 2 → q ≠ 3 → q ≠ 5 → q ≠ 6 → V' q = V q) : Inv U' V' H W n vol t (T + 1) (dlx (fun _ => 0) p) := by
  have hN := i.N
  have hM := i.M
  have n60 := hN.n60
  have f64 := fA.1
  have e0 : ¬ V 1 e = 0 := by rw [e1]; exact i10
  obtain ⟨p', kp, _, p2, p1, kpn, kp4, ke2, ke3, ke4, kp2⟩ := hM.up hN e64 e1 (by rw [e2]; exact nI_m1 (by omega)) e4 ken
  have pp : p' = p := (nI_eq (by omega) (by omega)).mp (p2.symm.trans e2)
  subst pp
  have hN' : NodI U' n vol := hN.move ken ke4 ke2 kpn kfn kf2 vv sub nz fd u2 u3 uk
  have u0 := uk 0 (by decide) (by decide)
  have u1 := uk 1 (by decide) (by decide)
  have u4 := uk 4 (by decide) (by decide)
  have u5 := uk 5 (by decide) (by decide)
  have fo' := fun y => isF_cg u0 u4 y
  have c0 := kk 0 (by decide) (by decide) (by decide) (by decide)
  have c1 := kk 1 (by decide) (by decide) (by decide) (by decide)
  have c4 := kk 4 (by decide) (by decide) (by decide) (by decide)
  have c8 := kk 8 (by decide) (by decide) (by decide) (by decide)
  have c9 := kk 9 (by decide) (by decide) (by decide) (by decide)
  have c10 := kk 10 (by decide) (by decide) (by decide) (by decide)
  have fm : ¬ nI f = -1 := nI_m1 (by omega)
  have re : ∀ g, V 2 g = -1 → g ≠ e := fun g q z => by
    rw [z, e2] at q
    exact nI_m1 (show p' < 2 ^ 31 by omega) q
  have fde : ∀ x y, ¬ x = -1 → ¬ (x = nI kf ∧ y = nm) → ¬ q_X2_find U x y = nI ke → q_X2_find U' x y = q_X2_find U x y := fun x y hx hne hk => by
    rcases hN.fd x y with ⟨z, no⟩ | ⟨j, j1, j2, j3, j4, j5⟩
    · rcases hN'.fd x y with ⟨z', _⟩ | ⟨j', j1', j2', j3', j4', j5'⟩
      · rw [z, z']
      · rw [u4] at j3'
        rw [u2] at j4'
        rw [u3] at j5'
        by_cases w : j' = ke
        · rw [if_pos w] at j4' j5'
          exact absurd ⟨j4'.symm, j5'.symm⟩ hne
        · rw [if_neg w] at j4' j5'
          exact absurd j5' (no j' j1' j3' j4')
    · have jk : j ≠ ke := fun w => hk (by rw [j2, w])
      have q2 : U' 2 j = x := by rw [u2, if_neg jk]; exact j4
      have q3 : U' 3 j = y := by rw [u3, if_neg jk]; exact j5
      rcases hN'.fd x y with ⟨_, no'⟩ | ⟨j', j1', j2', j3', j4', j5'⟩
      · exact absurd q3 (no' j j1 (by rw [u4]; exact j3) q2)
      · have : j = j' := hN'.uq j j' j1 j1' (by rw [u4]; exact j3) j3' (by rw [q2]; exact hx) (by rw [q2, j4']) (by rw [q3, j5'])
        rw [j2', j2, this]
  have fdk : q_X2_find U' (nI kf) nm = nI ke := by
    have q2 : U' 2 ke = nI kf := by rw [u2, if_pos rfl]
    have q3 : U' 3 ke = nm := by rw [u3, if_pos rfl]
    rcases hN'.fd (nI kf) nm with ⟨_, no'⟩ | ⟨j', j1', j2', j3', j4', j5'⟩
    · exact absurd q3 (no' ke ken (by rw [u4]; exact ke4) q2)
    · have : ke = j' := hN'.uq ke j' ken j1' (by rw [u4]; exact ke4) j3' (by rw [q2]; exact nI_m1 (by omega)) (by rw [q2, j4']) (by rw [q3, j5'])
      rw [j2', this]
  have hcc : ∀ g, g < 64 → hc V' H W g + (if g = p' then 1 else 0) = hc V H W g + (if g = f then 1 else 0) := by
    intro g hg
    have q := cnt_one (P := fun j => decide (¬ V 1 j = 0 ∧ V 2 j = nI g)) (P' := fun j => decide (¬ V' 1 j = 0 ∧ V' 2 j = nI g)) (e := e) (n := 64) (k := 0) (Nat.zero_le _) (by omega) (fun j _ _ z => by rw [c1, a2, if_neg z])
    have q1 : (if decide (¬ V 1 e = 0 ∧ V 2 e = nI g) = true then 1 else 0) = if g = p' then 1 else 0 := by
      rw [e2]
      by_cases z : g = p'
      · rw [if_pos z, if_pos]; simp [e0, z]
      · have : ¬ nI p' = nI g := fun w => z ((nI_eq (by omega) (by omega)).mp w).symm
        rw [if_neg z, if_neg]; simp [this]
    have q2 : (if decide (¬ V' 1 e = 0 ∧ V' 2 e = nI g) = true then 1 else 0) = if g = f then 1 else 0 := by
      rw [c1, a2, if_pos rfl]
      by_cases z : g = f
      · rw [if_pos z, if_pos]; simp [e0, z]
      · have : ¬ nI f = nI g := fun w => z ((nI_eq (by omega) (by omega)).mp w).symm
        rw [if_neg z, if_neg]; simp [this]
    rw [q1, q2] at q
    have v10 : hcV V' g = hcV V g := by unfold hcV; rw [c10]
    unfold hc
    rw [v10]
    unfold hcC
    omega
  refine ⟨hN', ⟨?_, ?_, ?_, ?_, ?_, ?_, ?_, ?_, ?_, ?_, ?_, ?_⟩, ⟨?_, by have := i.Z.tT; omega, h30, ?_, ?_, ?_⟩, ?_, ?_, ?_⟩
  · rw [c1]; exact hM.st
  · rw [c9]; exact hM.r0
  · rw [c10]; exact hM.o0
  · intro v hv
    rw [c9, c10, c1, c4, u5]
    rcases hM.rt v hv with q | ⟨q1, r, r64, q2, q3, q4, q5⟩
    · exact Or.inl q
    · exact Or.inr ⟨q1, r, r64, q2, q3, by rw [a2, if_neg (re r q4)]; exact q4, q5⟩
  · intro v h1 hv
    rw [c9, c10, c1, c4]
    intro q
    obtain ⟨o, o64, w1, w2, w3, w4⟩ := hM.ov v h1 hv q
    refine ⟨o, o64, w1, w2, ?_, by rw [fo']; exact w4⟩
    rw [a2]
    by_cases z : o = e
    · rw [if_pos z]; exact fm
    · rw [if_neg z]; exact w3
  · rw [c10]; exact hM.oi
  · rw [c10, c4, u1]; exact hM.vr
  · intro g hg q1 q2
    rw [c1] at q1
    rw [a2] at q2
    rw [c9]
    by_cases z : g = e
    · rw [if_pos z] at q2; exact absurd q2 fm
    · rw [if_neg z] at q2; exact hM.ro g hg q1 q2
  · intro g hg q1 q2
    rw [c1] at q1
    rw [a2] at q2
    rw [a2, c1, c4, a3]
    by_cases z : g = e
    · rw [if_pos z, if_pos z]
      refine ⟨f, f64, rfl, fA.2.1, ?_, ?_⟩
      · rw [fo', f4, hN.fo' kfn kf2]; exact i10
      · rw [z, e4, f4, fdk]
    · rw [if_neg z] at q2 ⊢
      rw [if_neg z]
      obtain ⟨a, y1, y2, y3, y4, y5⟩ := hM.ch g hg q1 q2
      refine ⟨a, y1, y2, y3, by rw [fo']; exact y4, ?_⟩
      obtain ⟨ka, ka1, ka2, _⟩ := hN.fo y4
      rw [fde _ _ (by rw [ka2]; exact nI_m1 (by omega)), y5]
      · rintro ⟨w1, w2⟩
        have : a = f := hM.nd a f y1 f64 (by rw [y3]; exact i10) (by rw [fA.2.1]; exact i10) (by rw [ka2]; exact nI_m1 (by omega)) (by rw [w1, f4])
        exact ng g hg q1 (by rw [y2, this]) w2
      · intro w
        rw [← y5] at w
        exact z (hM.nd g e hg e64 (by rw [q1]; exact i10) e0 (by rw [w]; exact nI_m1 (by omega)) (by rw [w, e4]))
  · intro g hg q1
    rw [c1] at q1
    have ge : g ≠ e := fun z => by
      rw [z, e1] at q1
      exact absurd q1 (by decide)
    rw [a2, if_neg ge, c4, u4]
    exact hM.go g hg q1
  · intro a b ha hb q1 q2 q3 q4 q5
    rw [c1] at q1 q2
    rw [a2] at q3
    rw [a2, a2] at q4
    rw [a3, a3] at q5
    by_cases z : a = e
    · by_cases w : b = e
      · rw [z, w]
      · rw [if_pos z, if_neg w] at q4 q5
        exact absurd q5.symm (ng b hb q2 q4.symm)
    · by_cases w : b = e
      · rw [if_neg z, if_pos w] at q4 q5
        exact absurd q5 (ng a ha q1 q4)
      · rw [if_neg z] at q3
        rw [if_neg z, if_neg w] at q4 q5
        exact hM.sb a b ha hb q1 q2 q3 q4 q5
  · rw [c1, c4]; exact hM.nd
  · rw [c0]; exact i.Z.tk
  · rw [c1, c8]; exact i.Z.bi
  · intro g hg q
    rw [c1] at q
    rw [a6]
    obtain ⟨c, d1, d2⟩ := i.Z.co g hg q
    by_cases z : g = e
    · rw [if_pos z, ← z, d1, nI_1]
      exact ⟨c + 1, rfl, by omega⟩
    · rw [if_neg z]
      exact ⟨c, d1, by omega⟩
  · exact ⟨by rw [c0]; exact i.Z.li, i.Z.tri.le (by rw [c0]) (fun k _ q => by rw [c1] at q; exact q) (Nat.le_refl _)⟩
  · intro g hg
    have hL := i.L g hg
    have hq := hcc g hg
    have dz : dlx (fun _ => 0) p' g = if g = p' then 1 else 0 := by unfold dlx; rw [Nat.zero_add]
    rw [c1, a5, dz]
    refine ⟨fun q => ?_, ?_, fun q => ⟨?_, fun w => ?_⟩⟩
    · rw [if_neg]
      intro z
      rw [z, p1] at q
      exact i10 q
    · split <;> omega
    · rw [hq]
      have v5 := (hL.2.2 q).1
      rw [Nat.add_zero] at v5
      by_cases z : g = f
      · rw [if_pos z, if_pos z, ← z, v5, nI_1]
      · rw [if_neg z, if_neg z, v5, Nat.add_zero]
    · rw [hq]
      have := (hL.2.2 q).2 w
      omega
  · intro k hk'
    rw [c1, c4]
    exact i.H k hk'
  · intro k hk' q
    obtain ⟨m, d, l, r, hr, hw⟩ := i.W k hk' q
    refine ⟨m, d, l, r, hr, hw.m, hw.d, hw.l, hw.r, hw.m1, hw.md, hw.dl, hw.l12, hw.r3, fun j hj => ?_⟩
    obtain ⟨g, g64, g1, ⟨b1, d1, g2, g3, g4, g5, g6⟩, g7⟩ := (hw.wy j hj).ex
    refine ⟨g, g64, g1, ⟨b1, d1, g2, g3, g4, by omega, ?_⟩, ?_⟩
    · intro q1 q2
      rw [c1] at q1
      rw [c8] at q2
      obtain ⟨cc, y1, y2, y3, y4⟩ := g6 q1 q2
      rw [a6, c1, c4]
      by_cases z : g = e
      · subst z
        rw [if_pos rfl, y1, nI_1]
        exact ⟨cc + 1, rfl, by omega, by omega, fun w => by omega⟩
      · rw [if_neg z]
        exact ⟨cc, y1, y2, by omega, y4⟩
    · rw [c1, c4]
      exact g7
def mvD (D : RowV) (e ke : Nat) (xf xk ym : Int32) : RowV := sD (sD (sD (sD (sD D (401 + 5 * ke + 2) xk) (401 + 5 * ke + 3) ym) (701 + 9 * e + 1) xf) (701 + 9 * e + 2) ym) (701 + 9 * e + 4) (D (701 + 9 * e + 4) + 1)
theorem Rel.move {U U' : NodV} {V V' : MemV} {H : OneV} {W : WkV} {D : RowV} {n : Nat} (r : Rel none U V H W D n) (n60 : n ≤ 60) {e ke : Nat} {xf xk nm ym : Int32} (e64 : e < 64) (e1 : ¬ V 1 e = 0) (ken : ke < n) (hn : Nm nm ym) (u2 : ∀ k, U' 2 k = if k = ke then xk else U 2 k) (u3 : ∀ k, U' 3 k = if k = ke then nm else U 3 k) (uk : ∀ q : Fin 6, q ≠ 2 → q ≠ 3 → U' q = U q) (a2 : ∀ j, V' 2 j = if j = e then xf else V 2 j) (a3 : ∀ j, V' 3 j = if j = e then nm else V 3 j) (a6 : ∀ j, V' 6 j = if j = e then V 6 e + 1 else V 6 j) (kk : ∀ q : Fin 12, q ≠ 2 → q ≠ 3 → q ≠ 5 → q ≠ 6 → V' q = V q) : Rel none U' V' H W (mvD D e ke xf xk ym) n := by
  have b := r.B
  have o : ∀ {j}, j ≠ 401 + 5 * ke + 2 → j ≠ 401 + 5 * ke + 3 → j ≠ 701 + 9 * e + 1 → j ≠ 701 + 9 * e + 2 → j ≠ 701 + 9 * e + 4 → mvD D e ke xf xk ym j = D j := fun {j} h1 h2 h3 h4 h5 => by
    unfold mvD
    rw [sD_n _ _ h5, sD_n _ _ h4, sD_n _ _ h3, sD_n _ _ h2, sD_n _ _ h1]
  have d1 : mvD D e ke xf xk ym (401 + 5 * ke + 2) = xk := by
    unfold mvD
    rw [sD_n _ _ (by omega), sD_n _ _ (by omega), sD_n _ _ (by omega), sD_n _ _ (by omega), sD_s]
  have d2 : mvD D e ke xf xk ym (401 + 5 * ke + 3) = ym := by
    unfold mvD
    rw [sD_n _ _ (by omega), sD_n _ _ (by omega), sD_n _ _ (by omega), sD_s]
  have d3 : mvD D e ke xf xk ym (701 + 9 * e + 1) = xf := by
    unfold mvD
    rw [sD_n _ _ (by omega), sD_n _ _ (by omega), sD_s]
  have d4 : mvD D e ke xf xk ym (701 + 9 * e + 2) = ym := by
    unfold mvD
    rw [sD_n _ _ (by omega), sD_s]
  have d5 : mvD D e ke xf xk ym (701 + 9 * e + 4) = D (701 + 9 * e + 4) + 1 := by
    unfold mvD
    rw [sD_s]
  generalize mvD D e ke xf xk ym = D' at o d1 d2 d3 d4 d5
  have c0 := kk 0 (by decide) (by decide) (by decide) (by decide)
  have c1 := kk 1 (by decide) (by decide) (by decide) (by decide)
  refine r.fr ⟨?_, ?_, ?_, ?_, ?_, ?_, ?_, ?_, ?_, ?_, ?_⟩ (fun j h1 h2 => o (by omega) (by omega) (by omega) (by omega) (by omega)) (fun k z => by cases z)
  · rw [o (by omega) (by omega) (by omega) (by omega) (by omega), c0]; exact b.tk
  · rw [o (by omega) (by omega) (by omega) (by omega) (by omega), c0]; exact b.lo
  · rw [o (by omega) (by omega) (by omega) (by omega) (by omega), c0]; exact b.tr
  · rw [o (by omega) (by omega) (by omega) (by omega) (by omega), c0]; exact b.rm
  · rw [o (by omega) (by omega) (by omega) (by omega) (by omega), uk 0 (by decide) (by decide)]; exact b.ev
  · intro v hv
    rw [o (by omega) (by omega) (by omega) (by omega) (by omega), kk 9 (by decide) (by decide) (by decide) (by decide)]; exact b.rt v hv
  · intro v hv
    rw [o (by omega) (by omega) (by omega) (by omega) (by omega), kk 10 (by decide) (by decide) (by decide) (by decide)]; exact b.ov v hv
  · intro k hk
    rw [o (by omega) (by omega) (by omega) (by omega) (by omega)]; exact b.ha k hk
  · intro k hk
    have nd := b.nd k hk
    rw [u2, u3, uk 1 (by decide) (by decide), uk 4 (by decide) (by decide), o (j := 401 + 5 * k + 0) (by omega) (by omega) (by omega) (by omega) (by omega), o (j := 401 + 5 * k + 1) (by omega) (by omega) (by omega) (by omega) (by omega), o (j := 401 + 5 * k + 4) (by omega) (by omega) (by omega) (by omega) (by omega)]
    by_cases z : k = ke
    · subst z
      rw [d1, d2, if_pos rfl, if_pos rfl]
      exact ⟨nd.1, rfl, Or.inl hn, nd.2.2.2⟩
    · rw [if_neg z, if_neg z, o (by omega) (by omega) (by omega) (by omega) (by omega), o (by omega) (by omega) (by omega) (by omega) (by omega)]
      exact nd
  · intro f hf
    rw [o (by omega) (by omega) (by omega) (by omega) (by omega), c1]
    exact b.th f hf
  · intro f hf q
    rw [c1] at q
    have en := b.en f hf q
    rw [o (j := 701 + 9 * f + 3) (by omega) (by omega) (by omega) (by omega) (by omega), o (j := 701 + 9 * f + 5) (by omega) (by omega) (by omega) (by omega) (by omega), o (j := 701 + 9 * f + 6) (by omega) (by omega) (by omega) (by omega) (by omega), o (j := 701 + 9 * f + 7) (by omega) (by omega) (by omega) (by omega) (by omega), o (j := 701 + 9 * f + 8) (by omega) (by omega) (by omega) (by omega) (by omega), c1, kk 4 (by decide) (by decide) (by decide) (by decide), kk 7 (by decide) (by decide) (by decide) (by decide), kk 8 (by decide) (by decide) (by decide) (by decide), cov_fr (kk 10 (by decide) (by decide) (by decide) (by decide)), a2, a3, a6]
    by_cases z : f = e
    · subst z
      rw [d3, d4, d5, if_pos rfl, if_pos rfl, if_pos rfl, en.2.2.2.1]
      exact ⟨rfl, Or.inl hn, en.2.2.1, rfl, en.2.2.2.2⟩
    · rw [if_neg z, if_neg z, if_neg z, o (by omega) (by omega) (by omega) (by omega) (by omega), o (by omega) (by omega) (by omega) (by omega) (by omega), o (by omega) (by omega) (by omega) (by omega) (by omega)]
      exact en
end
section
/-! Two paths off the tape, on both sides. -/
def wB (Y : MI) (c : Int32) (R : RowV) : MI := fun a j => if a = 193 then R j else if a = 188 ∧ j = 17 then c else Y a j
theorem wB_R (Y : MI) (c : Int32) (R : RowV) : wB Y c R 193 = R := by
  funext j
  unfold wB
  rw [if_pos rfl]
theorem wB_c (Y : MI) (c : Int32) (R : RowV) : wB Y c R 188 17 = c := by
  unfold wB
  rw [if_neg (by decide), if_pos ⟨rfl, rfl⟩]
theorem wB_k (Y : MI) (c : Int32) (R : RowV) {k : Nat} (h : k ≠ 17) : wB Y c R 188 k = Y 188 k := by
  unfold wB
  rw [if_neg (by decide), if_neg (fun q => h q.2)]
theorem wB_o (Y : MI) (c : Int32) (R : RowV) {a : Nat} (h1 : a ≠ 188) (h2 : a ≠ 193) : wB Y c R a = Y a := by
  funext j
  unfold wB
  rw [if_neg h2, if_neg (fun q => h1 q.1)]
theorem wB_sR (Y : MI) (c : Int32) (R S : RowV) (p m : Int32) (i : Nat) (v : Int32) : up2 (pF (wB Y c R) p m S) 193 i v = pF (wB Y c (sD R i v)) p m S := by
  funext a j
  unfold up2 pF wB sD
  by_cases h : a = 193
  · subst h
    simp
  · simp [h]
theorem wB_sc (Y : MI) (c : Int32) (R S : RowV) (p m : Int32) (v : Int32) : up2 (pF (wB Y c R) p m S) 188 17 v = pF (wB Y v R) p m S := by
  funext a j
  unfold up2 pF wB
  by_cases h : a = 188 ∧ j = 17
  · rw [if_pos h, if_neg (by omega), if_neg (by omega), if_neg (by omega), if_neg (by omega), if_pos h]
  · simp [h]
theorem wB_id (Y : MI) : wB Y (Y 188 17) (Y 193) = Y := by
  funext a j
  unfold wB
  by_cases h : a = 193
  · rw [if_pos h, h]
  · rw [if_neg h]
    by_cases h3 : a = 188 ∧ j = 17
    · rw [if_pos h3, h3.1, h3.2]
    · rw [if_neg h3]
def swp (k : Nat) (s : RowV × RowV) : RowV × RowV := (sD s.1 k (s.2 k), sD s.2 k (s.1 k))
theorem swp_at : ∀ (n k : Nat) (s : RowV × RowV) (j : Nat), (itr swp k n s).1 j = (if k ≤ j ∧ j < k + n then s.2 j else s.1 j) ∧ (itr swp k n s).2 j = if k ≤ j ∧ j < k + n then s.1 j else s.2 j
  | 0, k, s, j => by
    rw [if_neg (by omega), if_neg (by omega)]
    exact ⟨rfl, rfl⟩
  | n + 1, k, s, j => by
    have e : itr swp k (n + 1) s = itr swp (k + 1) n (swp k s) := rfl
    obtain ⟨h1, h2⟩ := swp_at n (k + 1) (swp k s) j
    rw [e, h1, h2]
    have s1 : (swp k s).1 j = if j = k then s.2 k else s.1 j := rfl
    have s2 : (swp k s).2 j = if j = k then s.1 k else s.2 j := rfl
    rw [s1, s2]
    by_cases z : j = k
    · subst z
      have n1 : ¬ (j + 1 ≤ j ∧ j < j + 1 + n) := by omega
      have n2 : j ≤ j ∧ j < j + (n + 1) := by omega
      rw [if_pos rfl, if_pos rfl, if_neg n1, if_neg n1, if_pos n2, if_pos n2]
      exact ⟨rfl, rfl⟩
    · rw [if_neg z, if_neg z]
      by_cases w : k + 1 ≤ j ∧ j < k + 1 + n
      · rw [if_pos w, if_pos w, if_pos (by omega), if_pos (by omega)]
        exact ⟨rfl, rfl⟩
      · rw [if_neg w, if_neg w, if_neg (by omega), if_neg (by omega)]
        exact ⟨rfl, rfl⟩
/-- the reference's two paths laid out -/
theorem two_end {Y : MI} {J : MJ} (h : RefL J) (c : Int32) (R S : RowV) (p m : Int32) : ∃ R' S', Ev T_X10_areTwoPaths 106 [some (mR (some 188)), some (mI 0), none] [] (pF (wB Y c R) p m S, J) = some (some (mI 1), (pF (wB Y m R') p c S', J)) ∧ (∀ j, j < 12 → S' j = R j) ∧ ∀ j, j < 12 → R' j = S j := by
  have s1 := loop_all (fun k (s : RowV × RowV) => Ev T_X10_areTwoPaths 106 [some (mR (some 188)), some (mI (nI k)), none] [] (pF (wB Y c s.2) p m s.1, J)) swp 12 (S, R) (fun k s hk => by
    try dsimp only
    rw [E_X10_areTwoPaths_106, if_neg (show ¬ (12 : Int32) ≤ nI k from nI_ge (b := 12) hk (by decide))]
    have r193 : ∀ S', pF (wB Y c s.2) p m S' 193 = s.2 := fun S' => by rw [pF_o _ _ _ _ (by decide) (by decide), wB_R]
    simp only [h.f14, h.f16, Option.bind_some, ldx h.s14 (show k < 64 by omega) (by decide) rfl, ldx h.s16 (show k < 64 by omega) (by decide) rfl, stx h.s14 (show k < 64 by omega) (by decide) rfl, stx h.s16 (show k < 64 by omega) (by decide) rfl, pF_S, r193, pF_sS, wB_sR, nI_1]
    rfl)
  try dsimp only at s1
  rw [show (nI 0) = 0 from rfl] at s1
  refine ⟨(itr swp 0 12 (S, R)).2, (itr swp 0 12 (S, R)).1, ?_, fun j hj => ?_, fun j hj => ?_⟩
  · rw [s1, E_X10_areTwoPaths_106, if_pos (show (12 : Int32) ≤ nI 12 by decide)]
    generalize itr swp 0 12 (S, R) = s
    have f17 : ∀ R S m, pF (wB Y c R) p m S 188 17 = c := fun R S m => by rw [pF_k _ _ _ _ (by decide) (by decide), wB_c]
    simp only [h.fi, pF_15, f17, Option.bind_some, h.wi, pF_s15, wB_sc]
    simp
  · rw [(swp_at 12 0 (S, R) j).1, if_pos (by omega)]
  · rw [(swp_at 12 0 (S, R) j).2, if_pos (by omega)]
theorem path2 {I Y : MI} {J : MJ} {T : Nat} (h : RefL J) (t : Tap (vw 2 I 7) T) (e1 : Y 188 1 = nI T) (e2 : ∀ k, k < T → Y 189 k = I 8 k) : ∃ y Y', M_X10_areTwoPaths [mR (some 188)] (Y, J) = some (some (mI y), (Y', J)) ∧ (∀ x, x ≠ 188 → x ≠ 192 → x ≠ 193 → Y' x = Y x) ∧ (∀ k, k ≠ 1 → k ≠ 2 → k ≠ 3 → k ≠ 15 → k ≠ 17 → Y' 188 k = Y 188 k) ∧ Y' 188 1 = 0 ∧ (¬ I 1 6 ≤ 0 → ((rowO I T).1 = 2 ∧ y = 1 ∧ ∃ l l2, l ≤ 12 ∧ l2 ≤ 12 ∧ Y' 188 15 = nI l ∧ Y' 188 17 = nI l2 ∧ Pth (vw 2 (rowO I T).2 158) (Y' 192) l ∧ Pth (vw 2 (rowO I T).2 160) (Y' 193) l2) ∨ (¬ (rowO I T).1 = 2 ∧ y = 0)) := by
  have T4 := t.1
  have rt : RTap (bgP Y T) (vw 2 I 7) T := ⟨t, (bgP_3 Y T).1, fun k hk => by rw [bgP_o _ _ (by decide)]; exact e2 k hk⟩
  have rt2 : ∀ c R, RTap (wB (bgP Y T) c R) (vw 2 I 7) T := fun c R => ⟨t, by rw [wB_k _ _ _ (by decide)]; exact (bgP_3 Y T).1, fun k hk => by rw [wB_o _ _ _ (by decide) (by decide), bgP_o _ _ (by decide)]; exact e2 k hk⟩
  have fr1 : ∀ p m S, (∀ x, x ≠ 188 → x ≠ 192 → x ≠ 193 → pF (bgP Y T) p m S x = Y x) ∧ (∀ k, k ≠ 1 → k ≠ 2 → k ≠ 3 → k ≠ 15 → k ≠ 17 → pF (bgP Y T) p m S 188 k = Y 188 k) ∧ pF (bgP Y T) p m S 188 1 = 0 := fun p m S => ⟨fun x a b _ => by rw [pF_o _ _ _ _ a b, bgP_o _ _ a], fun k a b c d _ => by rw [pF_k _ _ _ _ b d, bgP_k _ _ a b c], by rw [pF_k _ _ _ _ (by decide) (by decide)]; exact (bgP_3 _ _).2.1⟩
  have fr2 : ∀ c R p m S, (∀ x, x ≠ 188 → x ≠ 192 → x ≠ 193 → pF (wB (bgP Y T) c R) p m S x = Y x) ∧ (∀ k, k ≠ 1 → k ≠ 2 → k ≠ 3 → k ≠ 15 → k ≠ 17 → pF (wB (bgP Y T) c R) p m S 188 k = Y 188 k) ∧ pF (wB (bgP Y T) c R) p m S 188 1 = 0 := fun c R p m S => ⟨fun x a b d => by rw [pF_o _ _ _ _ a b, wB_o _ _ _ a d, bgP_o _ _ a], fun k a b c d e => by rw [pF_k _ _ _ _ b d, wB_k _ _ _ e, bgP_k _ _ a b c], by rw [pF_k _ _ _ _ (by decide) (by decide), wB_k _ _ _ (by decide)]; exact (bgP_3 _ _).2.1⟩
  obtain ⟨to, o1, o2, o3, o4⟩ := ex_first (fun k => vw 2 I 7 1 k = 32) 0 T (Nat.zero_le _)
  have o5 : to = T ∨ (to < T ∧ vw 2 I 7 1 to = 32) := by
    rcases Nat.eq_or_lt_of_le o2 with z | z
    · exact Or.inl z
    · exact Or.inr ⟨z, o4.resolve_left (by omega)⟩
  obtain ⟨y, p', l', S', g1, g2, g3⟩ := w_isPathHere rt h (Nat.zero_le to) o2 o4 o3 (bgP Y T 188 15) (bgP Y T 192) (vw 2 I 158)
  have z0 : nI 0 = 0 := rfl
  rw [z0, pF_bg] at g1
  have g3' : ∀ p m S, pF (bgP Y T) p m S 188 3 = nI T := fun p m S => by rw [pF_k _ _ _ _ (by decide) (by decide)]; exact (bgP_3 Y T).1
  have row : ¬ I 1 6 ≤ 0 → rowO I T = if q_X4_readFrom 12 (vw 2 I 7) (vw 2 I 158) (nI 0) (nI to) = 0 then (-1, pt I 158 (gP_X4_readFrom 12 (vw 2 I 7) (vw 2 I 158) (nI 0) (nI to))) else lpRow T (vw 2 I 7) (T - to) (to + 1) 1 (to + 1) (pt I 158 (gP_X4_readFrom 12 (vw 2 I 7) (vw 2 I 158) (nI 0) (nI to))) := by
    intro q
    unfold rowO
    rw [if_neg q, lpRow_scan t o2 to (T + 1) 0 0 0 I (by omega) (by omega) (fun k a b => o3 k a b), show T + 1 - to = (T - to) + 1 by omega, lpRow_end t o5 _ _ _ _ (by decide)]
    rfl
  -- the reference's first part
  have st1 : M_X10_areTwoPaths [mR (some 188)] (Y, J) = if y = 0 then some (some (mI 0), (pF (bgP Y T) (nI p') (nI l') S', J)) else if nI p' = nI T then some (some (mI 0), (pF (bgP Y T) (nI p') (nI l') S', J)) else (ld (pF (bgP Y T) (nI p') (nI l') S', J) 11 189 (nI p')).bind fun v8 => if v8 = 32 then Ev T_X10_areTwoPaths 58 [some (mR (some 188)), some (mI 0), none] [] (pF (wB (bgP Y T) (nI l') (bgP Y T 193)) (nI (p' + 1)) (nI l') S', J) else some (some (mI 0), (pF (bgP Y T) (nI p') (nI l') S', J)) := by
    rw [E_X10_areTwoPaths]
    have eq : up2 (pF (bgP Y T) (nI (p' + 1)) (nI l') S') 188 17 (nI l') = pF (wB (bgP Y T) (nI l') (bgP Y T 193)) (nI (p' + 1)) (nI l') S' := by
      have z := wB_sc (bgP Y T) (bgP Y T 188 17) (bgP Y T 193) S' (nI (p' + 1)) (nI l') (nI l')
      rw [wB_id] at z
      exact z
    simp only [h.kt, if_true, w_beginsPaths h Y e1, Option.bind_some, asV_n, g1, asI_I, h.fi, pF_2, g3', h.f0, h.wi, pF_s2, pF_15, nI_1, eq]
    simp
  rcases g3 with ⟨c1, c2, c3, c4, c5⟩ | ⟨c1, c2⟩
  · subst c2 c3
    rw [if_neg i10] at st1
    rcases o5 with e | ⟨e, eb⟩
    · subst e
      rw [if_pos rfl] at st1
      refine ⟨0, _, st1, (fr1 _ _ _).1, (fr1 _ _ _).2.1, (fr1 _ _ _).2.2, fun q => Or.inr ⟨?_, rfl⟩⟩
      rw [row q, c1, if_neg i10, Nat.sub_self]
      exact (by decide : ¬ nI 1 = 2)
    · rw [if_neg (fun w => absurd ((nI_eq (by omega) (by omega)).mp w) (by omega)), rt.ld h _ _ S' e rfl, Option.bind_some, eb, if_pos rfl] at st1
      -- the copies
      have cp := loop_all (fun k R => Ev T_X10_areTwoPaths 58 [some (mR (some 188)), some (mI (nI k)), none] [] (pF (wB (bgP Y T) (nI l') R) (nI (p' + 1)) (nI l') S', J)) (fun k R => sD R (0 + k) (S' k)) l' (bgP Y T 193) (fun k R hk => by
        try dsimp only
        rw [E_X10_areTwoPaths_58]
        simp only [h.fi, pF_15, Option.bind_some, if_neg (nI_ge hk (by omega)), h.f14, h.f16, ldx h.s14 (show k < 64 by omega) (by decide) rfl, stx h.s16 (show k < 64 by omega) (by decide) rfl, pF_S, wB_sR, nI_1, Nat.zero_add])
      try dsimp only at cp
      rw [z0] at cp
      rw [cp] at st1
      generalize hR : itr (fun k R => sD R (0 + k) (S' k)) 0 l' (bgP Y T 193) = R1 at st1
      have r1 : ∀ j, j < l' → R1 j = S' j := fun j hj => by
        rw [← hR, itr_sD, if_pos (by omega)]
        rfl
      obtain ⟨to2, q1, q2, q3, q4⟩ := ex_first (fun k => vw 2 I 7 1 k = 32) (p' + 1) T (by omega)
      have q5 : to2 = T ∨ (to2 < T ∧ vw 2 I 7 1 to2 = 32) := by
        rcases Nat.eq_or_lt_of_le q2 with z | z
        · exact Or.inl z
        · exact Or.inr ⟨z, q4.resolve_left (by omega)⟩
      generalize hP1 : pt I 158 (gP_X4_readFrom 12 (vw 2 I 7) (vw 2 I 158) (nI 0) (nI p')) = X1 at row
      have row2 : ¬ I 1 6 ≤ 0 → rowO I T = if q_X4_readFrom 12 (vw 2 I 7) (vw 2 X1 160) (nI (p' + 1)) (nI to2) = 0 then (-1, pt X1 160 (gP_X4_readFrom 12 (vw 2 I 7) (vw 2 X1 160) (nI (p' + 1)) (nI to2))) else lpRow T (vw 2 I 7) (T - to2) (to2 + 1) 2 (to2 + 1) (pt X1 160 (gP_X4_readFrom 12 (vw 2 I 7) (vw 2 X1 160) (nI (p' + 1)) (nI to2))) := by
        intro q
        rw [row q, c1, if_neg i10, lpRow_scan t q2 (to2 - (p' + 1)) (T - p') (p' + 1) 1 (p' + 1) _ (by omega) (by omega) (fun k a b => q3 k a b), show T - p' - (to2 - (p' + 1)) = (T - to2) + 1 by omega, lpRow_end t q5 _ _ _ _ (by decide)]
        rfl
      obtain ⟨y2, p2, l2, S2, k1, k2, k3⟩ := w_isPathHere (rt2 (nI l') R1) h q1 q2 q4 q3 (nI l') S' (vw 2 X1 160)
      have st2 : Ev T_X10_areTwoPaths 58 [some (mR (some 188)), some (mI (nI l')), none] [] (pF (wB (bgP Y T) (nI l') R1) (nI (p' + 1)) (nI l') S', J) = if y2 = 0 then some (some (mI 0), (pF (wB (bgP Y T) (nI l') R1) (nI p2) (nI l2) S2, J)) else if nI p2 = nI T then Ev T_X10_areTwoPaths 106 [some (mR (some 188)), some (mI 0), none] [] (pF (wB (bgP Y T) (nI l') R1) (nI p2) (nI l2) S2, J) else some (some (mI 0), (pF (wB (bgP Y T) (nI l') R1) (nI p2) (nI l2) S2, J)) := by
        have g3'' : ∀ p m S, pF (wB (bgP Y T) (nI l') R1) p m S 188 3 = nI T := fun p m S => by rw [pF_k _ _ _ _ (by decide) (by decide)]; exact (rt2 _ _).2.1
        rw [E_X10_areTwoPaths_58]
        simp only [h.fi, pF_15, Option.bind_some, if_pos (Int32.le_refl (nI l')), h.kt, if_true, k1, asI_I, pF_2, g3'']
        simp
      rw [st2] at st1
      have no : ∀ p m S, ¬ (¬ I 1 6 ≤ 0 ∧ (rowO I T).1 = 2) → M_X10_areTwoPaths [mR (some 188)] (Y, J) = some (some (mI 0), (pF (wB (bgP Y T) (nI l') R1) p m S, J)) → ∃ y Y', M_X10_areTwoPaths [mR (some 188)] (Y, J) = some (some (mI y), (Y', J)) ∧ (∀ x, x ≠ 188 → x ≠ 192 → x ≠ 193 → Y' x = Y x) ∧ (∀ k, k ≠ 1 → k ≠ 2 → k ≠ 3 → k ≠ 15 → k ≠ 17 → Y' 188 k = Y 188 k) ∧ Y' 188 1 = 0 ∧ (¬ I 1 6 ≤ 0 → ((rowO I T).1 = 2 ∧ y = 1 ∧ ∃ l l2, l ≤ 12 ∧ l2 ≤ 12 ∧ Y' 188 15 = nI l ∧ Y' 188 17 = nI l2 ∧ Pth (vw 2 (rowO I T).2 158) (Y' 192) l ∧ Pth (vw 2 (rowO I T).2 160) (Y' 193) l2) ∨ (¬ (rowO I T).1 = 2 ∧ y = 0)) := fun p m S hn e => ⟨0, _, e, (fr2 _ _ _ _ _).1, (fr2 _ _ _ _ _).2.1, (fr2 _ _ _ _ _).2.2, fun q => Or.inr ⟨fun w => hn ⟨q, w⟩, rfl⟩⟩
      rcases k3 with ⟨d1, d2, d3, d4, d5⟩ | ⟨d1, d2⟩
      · subst d2 d3
        rw [if_neg i10] at st1
        rcases q5 with e' | ⟨e', eb'⟩
        · subst e'
          rw [if_pos rfl] at st1
          obtain ⟨R', S'', w1, w2, w3⟩ := two_end (Y := bgP Y p2) h (nI l') R1 S2 (nI p2) (nI l2)
          rw [w1] at st1
          refine ⟨1, _, st1, (fr2 _ _ _ _ _).1, (fr2 _ _ _ _ _).2.1, (fr2 _ _ _ _ _).2.2, fun q => Or.inl ?_⟩
          rw [row2 q, d1, if_neg i10, Nat.sub_self]
          refine ⟨rfl, rfl, l', l2, c4, d4, pF_15 _ _ _ _, by rw [pF_k _ _ _ _ (by decide) (by decide), wB_c], ?_, ?_⟩
          · show Pth (vw 2 (pt X1 160 _) 158) _ l'
            rw [vw_out _ _ (by decide), ← hP1, vw_pt, pF_S]
            refine ⟨c5.1, fun k hk => ?_⟩
            rw [w2 k (by omega), r1 k hk]
            exact c5.2 k hk
          · show Pth (vw 2 (pt X1 160 _) 160) _ l2
            rw [vw_pt, pF_o _ _ _ _ (by decide) (by decide), wB_R]
            refine ⟨d5.1, fun k hk => ?_⟩
            rw [w3 k (by omega)]
            exact d5.2 k hk
        · rw [if_neg (fun w => absurd ((nI_eq (by omega) (by omega)).mp w) (by omega))] at st1
          refine no _ _ _ ?_ st1
          rintro ⟨q, z⟩
          rw [row2 q, d1, if_neg i10] at z
          obtain ⟨to3, a1, a2, a3, a4⟩ := ex_first (fun k => vw 2 I 7 1 k = 32) (p2 + 1) T (by omega)
          rw [lpRow_scan t a2 (to3 - (p2 + 1)) (T - p2) (p2 + 1) 2 (p2 + 1) _ (by omega) (by omega) (fun k a b => a3 k a b), show T - p2 - (to3 - (p2 + 1)) = (T - to3) + 1 by omega, lpRow_end t (by rcases a4 with z | z; exact Or.inl z; rcases Nat.eq_or_lt_of_le a2 with w | w; exact Or.inl w; exact Or.inr ⟨w, z⟩) _ _ _ _ (by decide)] at z
          split at z
          · exact absurd (show (-1 : Int32) = 2 from z) (by decide)
          · generalize pt (pt X1 160 _) (rr 158 2) _ = X3 at z
            rcases lpRow_ge T (vw 2 I 7) (T - to3) (to3 + 1) (2 + 1) (to3 + 1) X3 (by decide) with y | ⟨c', c1', c2', c3'⟩
            · rw [y] at z
              exact absurd z (by decide)
            · rw [c3'] at z
              have : c' = 2 := (nI_eq (b := 2) (by omega) (by decide)).mp z
              omega
      · have nr : ¬ (¬ I 1 6 ≤ 0 ∧ (rowO I T).1 = 2) := by
          rintro ⟨q, z⟩
          rw [row2 q, d1, if_pos rfl] at z
          exact absurd (show (-1 : Int32) = 2 from z) (by decide)
        rcases d2 with z | ⟨z1, z2, z3⟩
        · rw [if_pos z] at st1
          exact no _ _ _ nr st1
        · rw [if_neg (by rw [z1]; exact i10), if_neg (fun w => absurd ((nI_eq (by omega) (by omega)).mp w) (by omega))] at st1
          exact no _ _ _ nr st1
  · have nr : ¬ I 1 6 ≤ 0 → ¬ (rowO I T).1 = 2 := fun q => by
      rw [row q, c1, if_pos rfl]
      exact (by decide : ¬ (-1 : Int32) = 2)
    rcases c2 with z | ⟨z1, z2, z3⟩
    · rw [if_pos z] at st1
      exact ⟨0, _, st1, (fr1 _ _ _).1, (fr1 _ _ _).2.1, (fr1 _ _ _).2.2, fun q => Or.inr ⟨nr q, rfl⟩⟩
    · rw [if_neg (by rw [z1]; exact i10), if_neg (fun w => absurd ((nI_eq (by omega) (by omega)).mp w) (by omega)), rt.ld h _ _ S' z2 rfl, Option.bind_some, if_neg z3.1] at st1
      exact ⟨0, _, st1, (fr1 _ _ _).1, (fr1 _ _ _).2.1, (fr1 _ _ _).2.2, fun q => Or.inr ⟨nr q, rfl⟩⟩
/-- what a renaming begins with -/
theorem act_pre2 {I : MI} {J : MJ} {T B0 n : Nat} (h : St I J T B0) (h30 : T + 10001 ≤ 1000000000) (td : Told I J T B0) (t1 : Tap (vw 2 I 7) n) (t2 : I 188 1 = nI n) (t3 : ∀ k, k < n → I 189 k = I 8 k) (hy : (rowO I n).1 = 2) : ∃ vol nn t X J1, I 188 11 = nI vol ∧ Inv (vw 6 I 1) (vw 12 I 17) (vw 1 I 29) (wks I 31) nn vol t T (fun _ => 0) ∧ CntI (vw 12 I 17) ∧ Rel none (vw 6 I 1) (vw 12 I 17) (vw 1 I 29) (wks I 31) (I 194) nn ∧ M_X0_keep [mR (some 67), mR (some 16)] (tkn I n, J) = some (none, (X, J1)) ∧ KL J1 ∧ RefL J1 ∧ WF I X ∧ X 186 = I 186 ∧ ∀ I1, (∀ x, (7 ≤ x ∧ x < 17) ∨ 55 ≤ x ∨ x = 0 → x ≠ 186 → I1 x = X x) → ∃ Z Y1 l' l2, M_X10_areTwoPaths [mR (some 188)] (I1, J1) = some (some (mI 1), (Y1, J1)) ∧ ¬ bz (Y1 188 13) = 0 ∧ M_X10_keeps [mR (some 188)] (Y1, J1) = some (none, (Z, J1)) ∧ l' ≤ 12 ∧ Pth (vw 2 X 158) (Z 192) l' ∧ Z 188 15 = nI l' ∧ l2 ≤ 12 ∧ Pth (vw 2 X 160) (Z 193) l2 ∧ Z 188 17 = nI l2 ∧ Z 194 = I 194 ∧ Z 188 20 = -1 ∧ Z 188 21 = -1 ∧ (∀ x, x < 188 → Z x = I1 x) ∧ Z 190 = I 190 ∧ ∀ I2, (∀ x, x ≠ 188 → x ≠ 190 → x ≠ 194 → x ≠ 195 → I2 x = Z x) → (∀ k, k ≠ 22 → I2 188 k = Z 188 k) → S3 I2 → Wd I2 1 17 29 31 (I2 194) vol (T + 10001) → St I2 J1 (T + 10001) B0 := by
  obtain ⟨vol, p, q, nn, t, X, J1, hv, htd, ⟨hp, p20, hq, q20⟩, h6, i, c, r, k1, kf, e1, e2, e3, e4, e5, e5', e16⟩ := td.pre (n := n) h h30
  have xo := kf.2.2.2.1
  refine ⟨vol, nn, t, X, J1, hv, i, c, r, k1, kf.1, kf.2.1, ⟨e1, e2, e3, e4, e16⟩, by rw [xo 186 (by decide) (by decide), tkn_o _ _ (by decide) (by decide)], fun I1 x1 => ?_⟩
  have lowX : ∀ x, 188 ≤ x → x < 208 → I1 x = I x := fun x a b => by rw [x1 x (by omega) (by omega), xo x (by omega) (by omega), tkn_o _ _ (by omega) (by omega)]
  obtain ⟨y, Y1, g1, g2, g3, g4, g5⟩ := path2 (I := I) (Y := I1) kf.2.1 t1 (by rw [lowX 188 (by decide) (by decide)]; exact t2) (fun k hk => by rw [lowX 189 (by decide) (by decide)]; exact t3 k hk)
  rcases g5 h6 with ⟨_, y1, l, l2, l12, l212, f15, f17, pth, pth2⟩ | ⟨z, _⟩
  · subst y1
    have eP : ∀ a, 158 ≤ a → a + 2 ≤ 183 → vw 2 (rowO I n).2 a = vw 2 (tkn I n) a := fun a ha hb => (vw_fr (fun x _ _ => tkn_r I n (by omega) (by omega))).symm
    rw [eP 158 (by decide) (by decide), ← e5] at pth
    rw [eP 160 (by decide) (by decide), ← e5'] at pth2
    have hk := w_keeps (J := J1) kf.2.1 Y1 (p := p) (q := q) (by rw [g3 29 (by decide) (by decide) (by decide) (by decide) (by decide), lowX 188 (by decide) (by decide)]; exact hp) p20 (by rw [g3 28 (by decide) (by decide) (by decide) (by decide) (by decide), lowX 188 (by decide) (by decide)]; exact hq) q20
    have zo := fun x a b => kpR_o Y1 ((p + 1) % 20) (min (q + 1) 20) (x := x) a b
    have zk := fun k a b => kpR_k Y1 ((p + 1) % 20) (min (q + 1) 20) (k := k) a b
    have za := kpR_a Y1 ((p + 1) % 20) (min (q + 1) 20)
    have zz := kpR_29 Y1 ((p + 1) % 20) (min (q + 1) 20)
    generalize hZ : kpR Y1 ((p + 1) % 20) (min (q + 1) 20) = Z at hk zo zk za zz
    have yk : ∀ k, k ≠ 1 → k ≠ 2 → k ≠ 3 → k ≠ 15 → k ≠ 17 → Y1 188 k = I 188 k := fun k a b c d e => by rw [g3 k a b c d e, lowX 188 (by decide) (by decide)]
    have zf : ∀ k, k ≠ 1 → k ≠ 2 → k ≠ 3 → k ≠ 15 → k ≠ 17 → k ≠ 28 → k ≠ 29 → Z 188 k = I 188 k := fun k a b c d e f g => by rw [zk k f g, yk k a b c d e]
    have s8 := h.2.2.2.2.2.2.2.2.1
    have y94 : Y1 194 = I 194 := by rw [g2 194 (by decide) (by decide) (by decide), lowX 194 (by decide) (by decide)]
    refine ⟨Z, Y1, l, l2, g1, ?_, hk, l12, ?_, ?_, l212, ?_, ?_, ?_, ?_, ?_, fun x hx => ?_, ?_, fun I2 a b s3 w => ?_⟩
    · rw [yk 13 (by decide) (by decide) (by decide) (by decide) (by decide)]; exact htd
    · rw [zo 192 (by decide) (by decide)]; exact pth
    · rw [zk 15 (by decide) (by decide)]; exact f15
    · rw [zo 193 (by decide) (by decide)]; exact pth2
    · rw [zk 17 (by decide) (by decide)]; exact f17
    · rw [zo 194 (by decide) (by decide)]; exact y94
    · rw [zf 20 (by decide) (by decide) (by decide) (by decide) (by decide) (by decide) (by decide)]; exact s8.1
    · rw [zf 21 (by decide) (by decide) (by decide) (by decide) (by decide) (by decide) (by decide)]; exact s8.2
    · rw [zo x (by omega) (by omega), g2 x (by omega) (by omega) (by omega)]
    · rw [zo 190 (by decide) (by decide), g2 190 (by decide) (by decide) (by decide), lowX 190 (by decide) (by decide)]
    · have low : ∀ x, (8 ≤ x ∧ x < 17) ∨ (55 ≤ x ∧ x < 158) ∨ (183 ≤ x ∧ x < 208) ∨ x = 0 → x ≠ 67 → x ≠ 186 → x ≠ 188 → x ≠ 190 → x ≠ 192 → x ≠ 193 → x ≠ 194 → x ≠ 195 → x ≠ 199 → I2 x = I x := fun x h1 h2 h3 h4 h5 h6 h7 h8 h9 h10 => by
        rw [a x h4 h5 h8 h9, zo x h4 h10, g2 x h4 h6 h7, x1 x (by omega) h3, xo x (by omega) h2, tkn_o _ _ (by omega) (by omega)]
      have fld : ∀ k, k ≠ 1 → k ≠ 2 → k ≠ 3 → k ≠ 15 → k ≠ 17 → k ≠ 22 → k ≠ 28 → k ≠ 29 → I2 188 k = I 188 k := fun k a1 a2 a3 a4 a5 a6 a7 a8 => by rw [b k a6, zf k a1 a2 a3 a4 a5 a7 a8]
      have e199 : I2 199 = Z 199 := a 199 (by decide) (by decide) (by decide) (by decide)
      refine h.act h30 hv htd kf (tkn_o _ _ (by decide) (by decide)) (S1.emp ?_ ?_) s3 ⟨low 9 (by omega) (by decide) (by decide) (by decide) (by decide) (by decide) (by decide) (by decide) (by decide) (by decide), low 69 (by omega) (by decide) (by decide) (by decide) (by decide) (by decide) (by decide) (by decide) (by decide) (by decide), fun x a b => low x (by omega) (by omega) (by omega) (by omega) (by omega) (by omega) (by omega) (by omega) (by omega) (by omega), low 202 (by omega) (by decide) (by decide) (by decide) (by decide) (by decide) (by decide) (by decide) (by decide) (by decide), low 203 (by omega) (by decide) (by decide) (by decide) (by decide) (by decide) (by decide) (by decide) (by decide) (by decide), fun k a => fld k (by omega) (by omega) (by omega) (by omega) (by omega) (by omega) (by omega) (by omega)⟩ (h.2.2.2.2.1.fr (by rw [low 0 (by omega) (by decide) (by decide) (by decide) (by decide) (by decide) (by decide) (by decide) (by decide) (by decide)]) (low 185 (by omega) (by decide) (by decide) (by decide) (by decide) (by decide) (by decide) (by decide) (by decide) (by decide)) (fld 25 (by decide) (by decide) (by decide) (by decide) (by decide) (by decide) (by decide) (by decide)) (low 197 (by omega) (by decide) (by decide) (by decide) (by decide) (by decide) (by decide) (by decide) (by decide) (by decide))) (h.2.2.2.2.2.1.fr (by rw [low 0 (by omega) (by decide) (by decide) (by decide) (by decide) (by decide) (by decide) (by decide) (by decide) (by decide)]) (low 187 (by omega) (by decide) (by decide) (by decide) (by decide) (by decide) (by decide) (by decide) (by decide) (by decide)) (fld 32 (by decide) (by decide) (by decide) (by decide) (by decide) (by decide) (by decide) (by decide)) (low 201 (by omega) (by decide) (by decide) (by decide) (by decide) (by decide) (by decide) (by decide) (by decide) (by decide))) w ?_ ?_ ?_ ?_ ?_ ?_
      · rw [a 7 (by decide) (by decide) (by decide) (by decide), zo 7 (by decide) (by decide), g2 7 (by decide) (by decide) (by decide), x1 7 (by omega) (by decide), xo 7 (by decide) (by decide)]
        exact tkn_7 I n
      · rw [b 1 (by decide), zk 1 (by decide) (by decide)]; exact g4
      · rw [a 67 (by decide) (by decide) (by decide) (by decide), zo 67 (by decide) (by decide), g2 67 (by decide) (by decide) (by decide), x1 67 (by omega) (by decide)]
      · intro y hy
        rw [a y (by omega) (by omega) (by omega) (by omega), zo y (by omega) (by omega), g2 y (by omega) (by omega) (by omega), x1 y (by omega) (by omega)]
      · rw [b 28 (by decide)]; exact zz.2
      · rw [b 29 (by decide)]; exact zz.1
      · intro k hk
        rw [e199, za.1 k hk, y94]
      · intro s k _ hs hk
        rw [e199, za.2 s k hs hk, g2 199 (by decide) (by decide) (by decide), lowX 199 (by decide) (by decide)]
  · exact absurd hy z
end
section
/-! Something renamed, on both sides. -/
theorem Rel.q5 {U : NodV} {V V' : MemV} {H : OneV} {W : WkV} {D : RowV} {n : Nat} (r : Rel none U V H W D n) (kk : ∀ q : Fin 12, q ≠ 5 → V' q = V q) : Rel none U V' H W D n := by
  have b := r.B
  have k0 := kk 0 (by decide)
  have k1 := kk 1 (by decide)
  have k2 := kk 2 (by decide)
  have k3 := kk 3 (by decide)
  have k4 := kk 4 (by decide)
  have k6 := kk 6 (by decide)
  have k7 := kk 7 (by decide)
  have k8 := kk 8 (by decide)
  have k9 := kk 9 (by decide)
  have k10 := kk 10 (by decide)
  refine r.fr ⟨by rw [k0]; exact b.tk, by rw [k0]; exact b.lo, by rw [k0]; exact b.tr, by rw [k0]; exact b.rm, b.ev, by rw [k9]; exact b.rt, by rw [k10]; exact b.ov, b.ha, b.nd, by rw [k1]; exact b.th, fun e he q => ?_⟩ (fun _ _ _ => rfl) (fun k z => by cases z)
  rw [k1] at q
  rw [k1, k2, k3, k4, k6, k7, k8, cov_fr k10]
  exact b.en e he q
theorem vol_q {U : NodV} {n vol : Nat} (hN : NodI U n vol) {k : Nat} (hk : k < n) : q_X2_volumeOf U (nI k) = U 1 k := by
  have n60 := hN.n60
  unfold q_X2_volumeOf
  rw [if_neg (nI_pos (by omega)), if_neg (show ¬ (60 : Int32) ≤ nI k from nI_ge (b := 60) (by omega) (by decide)), hN.ev, if_neg (nI_ge hk (by omega)), ix_nI (by omega)]
theorem nodeOf_q {V : MemV} {e : Nat} (e64 : e < 64) (e1 : ¬ V 1 e = 0) : q_X1_nodeOf V (nI e) = V 4 e := by
  unfold q_X1_nodeOf
  rw [Inv.isE e64 e1, if_neg i10, ix_nI (by omega)]
/-- what holds of a world that is beside a row -/
def Goo (U : NodV) (V : MemV) (H : OneV) (W : WkV) (D : RowV) (n vol t T : Nat) : Prop := Rel none U V H W D n ∧ Inv U V H W n vol t T (fun _ => 0) ∧ CntI V
theorem Goo.rel {U : NodV} {V : MemV} {H : OneV} {W : WkV} {D : RowV} {n vol t T a : Nat} (r : Rel none U V H W D n) (i : Inv U V H W n vol t T (dlx (fun _ => 0) a)) (C : CntI V) {T' : Nat} (a64 : a < 64) (a1 : V 1 a = 1) (hT : T ≤ T') (h30 : T' ≤ 1000000000) : Goo U (gV_X1_release V (nI a)) H W D n vol t T' ∧ ∀ q : Fin 12, q ≠ 5 → gV_X1_release V (nI a) q = V q := by
  obtain ⟨i2, r1⟩ := i.release a64 (by rw [a1]; exact i10)
  have kk : ∀ q : Fin 12, q ≠ 5 → gV_X1_release V (nI a) q = V q := fun q hq => by
    by_cases z : q = 1
    · subst z
      funext f
      rw [r1, if_neg]
      rintro ⟨_, w, _⟩
      rw [a1] at w
      exact absurd w (by decide)
    · exact re_k V (nI a) q z hq
  exact ⟨⟨r.q5 kk, i2.T hT h30, C.fr (kk 1 (by decide)) (kk 9 (by decide))⟩, kk⟩
def rnV2 (P2 : RouV) (U : NodV) (V1 : MemV) (a : Nat) : MemV := gV_X1_walk 12 P2 U (gV_X1_hold V1 (nI a)) ((P2 0 1) - 1)
def rnF (P2 : RouV) (U : NodV) (V1 : MemV) (a : Nat) : Int32 := q_X1_walk 12 P2 U (gV_X1_hold V1 (nI a)) ((P2 0 1) - 1)
def rnQ (O : OneV) (P2 : RouV) (U : NodV) (V1 : MemV) (a : Nat) : Int32 := if q_X8_canTake O U (rnV2 P2 U V1 a) (rnF P2 U V1 a) (nI a) = 0 then -1 else if q_X8_gapIn 12 O P2 U (rnV2 P2 U V1 a) (rnF P2 U V1 a) = -1 then -1 else nI a
def rnU (O : OneV) (P2 : RouV) (U : NodV) (V1 : MemV) (a : Nat) : NodV := if q_X8_canTake O U (rnV2 P2 U V1 a) (rnF P2 U V1 a) (nI a) = 0 then U else if q_X8_gapIn 12 O P2 U (rnV2 P2 U V1 a) (rnF P2 U V1 a) = -1 then U else gU_X2_move U (q_X1_nodeOf (gV_X1_drop (gV_X1_release (gV_X8_gapIn 12 O P2 U (rnV2 P2 U V1 a) (rnF P2 U V1 a)) (nI a)) (q_X8_gapIn 12 O P2 U (rnV2 P2 U V1 a) (rnF P2 U V1 a))) (nI a)) (q_X1_nodeOf (gV_X1_drop (gV_X1_release (gV_X8_gapIn 12 O P2 U (rnV2 P2 U V1 a) (rnF P2 U V1 a)) (nI a)) (q_X8_gapIn 12 O P2 U (rnV2 P2 U V1 a) (rnF P2 U V1 a))) (rnF P2 U V1 a)) (q_X4_last 12 P2)
def rnV (O : OneV) (P2 : RouV) (U : NodV) (V1 : MemV) (a : Nat) : MemV := if q_X8_canTake O U (rnV2 P2 U V1 a) (rnF P2 U V1 a) (nI a) = 0 then gV_X1_release (rnV2 P2 U V1 a) (nI a) else if q_X8_gapIn 12 O P2 U (rnV2 P2 U V1 a) (rnF P2 U V1 a) = -1 then gV_X1_release (gV_X8_gapIn 12 O P2 U (rnV2 P2 U V1 a) (rnF P2 U V1 a)) (nI a) else gV_X1_move (gV_X1_drop (gV_X1_release (gV_X8_gapIn 12 O P2 U (rnV2 P2 U V1 a) (rnF P2 U V1 a)) (nI a)) (q_X8_gapIn 12 O P2 U (rnV2 P2 U V1 a) (rnF P2 U V1 a))) (nI a) (rnF P2 U V1 a) (q_X4_last 12 P2)
theorem Rel.renamed {U : NodV} {V1 : MemV} {H : OneV} {W : WkV} {D1 : RowV} {n vol t T a l2 : Nat} (r : Rel none U V1 H W D1 n) (i : Inv U V1 H W n vol t T (fun _ => 0)) (C : CntI V1) {J : MJ} (h : RefL J) (Z : MI) (z20 : Z 188 20 = nI a) (z21 : Z 188 21 = -1) (G : RowV) (at' : At V1 a) (a2 : ¬ V1 2 a = -1) {P2 : RouV} (pth : Pth P2 (Z 193) l2) (l12 : l2 ≤ 12) (z17 : Z 188 17 = nI l2) (tT : t + 27 ≤ T) (h30 : T + 1 ≤ 1000000000) (O : OneV) : ∃ y D' G' c' t', M_X10_isRenamed [mR (some 188), mI (nI a)] (rF Z D1 G (nI a), J) = some (some (mI y), (rF Z D' G' c', J)) ∧ (y = 1 ∧ rnQ O P2 U V1 a = nI a ∨ y = 0 ∧ rnQ O P2 U V1 a = -1) ∧ Goo (rnU O P2 U V1 a) (rnV O P2 U V1 a) H W D' n vol t' (T + 1) := by
  have hN := i.N
  have n60 := hN.n60
  have a64 := at'.1
  have a0 : ¬ V1 1 a = 0 := by rw [at'.2.1]; exact i10
  have ho := ho_k V1 (nI a)
  have ih := i.hold a64 a0 (by decide)
  have rh : Rel none U (gV_X1_hold V1 (nI a)) H W D1 n := r.q5 ho
  have Ch : CntI (gV_X1_hold V1 (nI a)) := C.fr (ho 1 (by decide)) (ho 9 (by decide))
  have dx : ∀ e, dlx (fun _ => 0) a e = if e = a then 1 else 0 := fun e => by unfold dlx; rw [Nat.zero_add]
  have hx : ∀ e, e < 64 → ¬ dlx (fun _ => 0) a e = 0 → ¬ gV_X1_hold V1 (nI a) 4 e = -1 := fun e _ q => by
    rw [dx] at q
    by_cases z : e = a
    · rw [ho 4 (by decide), z]; exact at'.2.2
    · rw [if_neg z] at q; exact absurd rfl q
  have hb : HB (Z 188 20) (dlx (fun _ => 0) a) := Or.inr ⟨a, a64, z20, dx⟩
  obtain ⟨D2, G2, c2, y2, t2, w1, w2, w3, w4, w5⟩ := rh.isPlace ih Ch hx h Z hb z21 G (nI a) (s1 := 193) h.s16 (by decide) (L := 12) pth l12 (by decide) (by omega) (by omega)
  have fold2 : gV_X1_walk 12 P2 U (gV_X1_hold V1 (nI a)) ((P2 0 1) - 1) = rnV2 P2 U V1 a := rfl
  have foldF : q_X1_walk 12 P2 U (gV_X1_hold V1 (nI a)) ((P2 0 1) - 1) = rnF P2 U V1 a := rfl
  rw [fold2] at w2 w5
  rw [foldF] at w5
  unfold rnQ rnU rnV
  generalize rnV2 P2 U V1 a = V2 at w2 w5
  generalize rnF P2 U V1 a = F at w5
  have xa : ¬ dlx (fun _ => 0) a a = 0 := by rw [dx, if_pos rfl]; decide
  have sta := w2.2.2.2.2.2.2.2 a a64 (by rw [ho 1 (by decide)]; exact a0) xa
  have v2a1 : V2 1 a = 1 := by rw [sta.1, ho 1 (by decide)]; exact at'.2.1
  have v2a0 : ¬ V2 1 a = 0 := by rw [v2a1]; exact i10
  obtain ⟨ka, kan, kae, ka4⟩ := i.M.nk hN at'
  have v2a4 : V2 4 a = nI ka := by rw [sta.2.2.2.1, ho 4 (by decide)]; exact kae
  have v2a2 : V2 2 a = V1 2 a := by rw [sta.2.1, ho 2 (by decide)]
  have aA2 : At V2 a := ⟨a64, v2a1, by rw [v2a4]; exact nI_m1 (by omega)⟩
  have go2 := Goo.rel w2.1 w2.2.1 w2.2.2.1 a64 v2a1 (show T ≤ T + 1 by omega) h30
  have z17' : ∀ D G c, rF Z D G c 188 17 = nI l2 := fun D G c => by rw [rF_k _ _ _ _ (by decide)]; exact z17
  have neg1 : ¬ (-1 : Int32) = nI a := fun z => nI_m1 (show a < 2 ^ 31 by omega) z.symm
  rcases w5 with ⟨y1, l0, f, cf, qf, fA, fo, foF, nm, la⟩ | ⟨y0, bad⟩
  · subst y1 cf qf
    have f64 := fA.1
    have f0 : ¬ V2 1 f = 0 := by rw [fA.2.1]; exact i10
    obtain ⟨kf, kfn, kfe, kf2⟩ := hN.fo fo
    have lm : nI l2 - 1 = nI (l2 - 1) := nI_sub (b := 1) (by omega)
    have ls : ∀ D G c, ld (rF Z D G c, J) 11 193 (nI (l2 - 1)) = some (Z 193 (l2 - 1)) := fun D G c => by
      rw [ldx h.s16 (show l2 - 1 < 64 by omega) (by decide) rfl, rF_o _ _ _ _ (by decide) (by decide) (by decide)]
    have bf := w2.1.B.en f f64 f0
    have ba := w2.1.B.en a a64 v2a0
    have df : D2 (701 + 9 * f + 3) = nI kf := by rw [bf.2.2.1, kfe]
    have da : D2 (701 + 9 * a + 3) = nI ka := by rw [ba.2.2.1, v2a4]
    have vf : D2 (401 + 5 * kf + 0) = U 1 kf := (w2.1.B.nd kf kfn).1
    have va : D2 (401 + 5 * ka + 0) = U 1 ka := (w2.1.B.nd ka kan).1
    obtain ⟨d, hd⟩ := hN.rk
    obtain ⟨yb, yb01, b1, b2, b3⟩ := within_loop hN w2.2.1.M h (rF Z D2 G2 (nI f)) (fun g g64 g0 => by rw [rF_D]; exact (w2.1.B.en g g64 g0).1) hd a64 v2a1 v2a4 kan 64 f kf 0 fA kfe kfn (by have := rkc_le d n kf; omega)
    have ct : q_X8_canTake O U V2 (nI f) (nI a) = if U 1 ka = U 1 kf then (if yb = 0 then 1 else 0) else 0 := by
      have iw : q_X1_isWithin V2 (nI f) (nI a) = yb := b1
      unfold q_X8_canTake
      rw [if_neg foF, nodeOf_q a64 v2a0, nodeOf_q f64 f0, v2a4, kfe, vol_q hN kan, vol_q hN kfn, iw]
    rw [E_X10_isRenamed]
    simp only [h.f16, h.fi, z17', Option.bind_some, h.kt, if_true, w1, asI_I, if_neg i10, lm, ls, rF_c, w_its h _ 3 (show (3 : Int32) = nI 3 from rfl) (show f < 128 by omega) (by decide), w_its h _ 3 (show (3 : Int32) = nI 3 from rfl) (show a < 128 by omega) (by decide), rF_D, df, da, w_nodeHas h _ 0 (show (0 : Int32) = nI 0 from rfl) (show kf < 60 by omega) (by decide), w_nodeHas h _ 0 (show (0 : Int32) = nI 0 from rfl) (show ka < 60 by omega) (by decide), vf, va, E_X10_isBelow, b2]
    by_cases vv : U 1 kf = U 1 ka
    · rw [if_pos vv]
      rw [if_pos vv.symm] at ct
      by_cases wb : yb = 0
      · rw [if_pos wb]
        rw [if_pos wb] at ct
        have sub := b3 wb
        rw [ct, if_neg i10, if_neg i10, if_neg i10]
        have lpos : 0 < q_X4_last 12 P2 := by rw [la]; exact nm.gt.1
        obtain ⟨D3, G3, e, k1, k2, e64, k3, k4, k5, k6, k7, k8, k9⟩ := w2.1.childOf w2.2.1 w2.2.2.1 (w2.hx ih hx) h Z hb z21 G2 (nI f) (fun k z => by cases z) f64 fA.2.1 fo nm (by omega)
        have foldG : gV_X8_gapIn 12 O P2 U V2 (nI f) = gV_X1_reach U V2 (nI f) (P2 1 (l2 - 1)) := by
          unfold gV_X8_gapIn
          rw [if_pos lpos, la]
          split <;> rfl
        have gq : q_X8_gapIn 12 O P2 U V2 (nI f) = if gV_X1_reach U V2 (nI f) (P2 1 (l2 - 1)) 4 e = -1 then nI e else -1 := by
          unfold q_X8_gapIn
          rw [if_pos lpos, la, k2]
          have isA : q_X1_isAbsence (gV_X1_reach U V2 (nI f) (P2 1 (l2 - 1))) (nI e) = if gV_X1_reach U V2 (nI f) (P2 1 (l2 - 1)) 4 e = -1 then 1 else 0 := by
            unfold q_X1_isAbsence
            rw [Inv.isE e64 (by rw [k4]; exact i10), if_neg i10, ix_nI (by omega)]
          rw [isA]
          by_cases z : gV_X1_reach U V2 (nI f) (P2 1 (l2 - 1)) 4 e = -1
          · rw [if_pos z, if_pos z, if_neg i10]
          · rw [if_neg z, if_neg z, if_pos rfl]
        rw [foldG, gq]
        generalize gV_X1_reach U V2 (nI f) (P2 1 (l2 - 1)) = V3 at k3 k4 k5 k6 k7 k8 k9
        have sta3 := k3.2.2.2.2.2.2.2 a a64 v2a0 xa
        have v3a1 : V3 1 a = 1 := by rw [sta3.1, v2a1]
        have v3a4 : V3 4 a = nI ka := by rw [sta3.2.2.2.1, v2a4]
        have v3a2 : V3 2 a = V1 2 a := by rw [sta3.2.1, v2a2]
        obtain ⟨go3, kr⟩ := Goo.rel k3.1 k3.2.1 k3.2.2.1 a64 v3a1 (show T ≤ T + 1 by omega) h30
        have be := k3.1.B.en e e64 (by rw [k4]; exact i10)
        simp only [k1, Option.bind_some, asI_I, h.kt, if_true, w_its h _ 3 (show (3 : Int32) = nI 3 from rfl) (show e < 128 by omega) (by decide), rF_D, be.2.2.1]
        by_cases em : V3 4 e = -1
        · have nem : ¬ nI e = -1 := nI_m1 (by omega)
          rw [if_pos em, if_pos em, if_neg nem, if_neg nem, if_neg nem]
          have ea : e ≠ a := fun z => by rw [z, v3a4] at em; exact nI_m1 (show ka < 2 ^ 31 by omega) em
          have fe : f ≠ e := fun z => by rw [← z, k8, kfe] at em; exact nI_m1 (show kf < 2 ^ 31 by omega) em
          -- the gap is given up
          have i3 := (k3.2.1.release a64 (by rw [v3a1]; exact i10)).1
          have e1r : gV_X1_release V3 (nI a) 1 e = 1 := by rw [kr 1 (by decide)]; exact k4
          have i4 := i3.drop e64 e1r (by rw [kr 2 (by decide), k5]; exact nI_m1 (by omega)) (i3.ab e64 (by rw [kr 4 (by decide)]; exact em)) rfl
          have r4 := go3.1.drp n60 e64
          have c4 : CntI (gV_X1_drop (gV_X1_release V3 (nI a)) (nI e)) := go3.2.2.sub (fun g _ q => by
            rw [dr_1 _ e64] at q
            by_cases z : g = e
            · rw [if_pos z] at q; exact absurd rfl q
            · rw [if_neg z] at q; exact q) (dr_k _ _ 9 (by decide) (by decide))
          have d1 : ∀ j, gV_X1_drop (gV_X1_release V3 (nI a)) (nI e) 1 j = if j = e then 0 else V3 1 j := fun j => by rw [dr_1 _ e64, kr 1 (by decide)]
          have dk : ∀ q : Fin 12, q ≠ 1 → q ≠ 5 → gV_X1_drop (gV_X1_release V3 (nI a)) (nI e) q = V3 q := fun q q1 q5 => by rw [dr_k _ _ q q1 q5, kr q q5]
          generalize gV_X1_drop (gV_X1_release V3 (nI a)) (nI e) = V4 at i4 r4 c4 d1 dk
          have v4a1 : V4 1 a = 1 := by rw [d1, if_neg (fun z => ea z.symm)]; exact v3a1
          have v4f1 : V4 1 f = 1 := by rw [d1, if_neg fe]; exact k9
          have v4a0 : ¬ V4 1 a = 0 := by rw [v4a1]; exact i10
          have v4f0 : ¬ V4 1 f = 0 := by rw [v4f1]; exact i10
          have v4a4 : V4 4 a = nI ka := by rw [dk 4 (by decide) (by decide)]; exact v3a4
          have v4f4 : V4 4 f = nI kf := by rw [dk 4 (by decide) (by decide), k8, kfe]
          obtain ⟨p, _, p64, p2, p1, _, p4, _⟩ := i4.M.up hN a64 v4a1 (by rw [dk 2 (by decide) (by decide), v3a2]; exact a2) v4a4 kan
          have fd : q_X2_find U (nI kf) (P2 1 (l2 - 1)) = -1 := by rw [← kfe, ← k7]; exact em
          have ng : ∀ g, g < 64 → V4 1 g = 1 → V4 2 g = nI f → ¬ V4 3 g = P2 1 (l2 - 1) := fun g g64 g1 g2 g3 => by
            rw [d1] at g1
            by_cases z : g = e
            · rw [if_pos z] at g1; exact absurd g1 (by decide)
            · rw [if_neg z] at g1
              rw [dk 2 (by decide) (by decide)] at g2
              rw [dk 3 (by decide) (by decide)] at g3
              exact z (k3.2.1.M.sb g e g64 e64 g1 k4 (by rw [g2]; exact nI_m1 (by omega)) (by rw [g2, k5]) (by rw [g3, k6]))
          have mU : gU_X2_move U (nI ka) (nI kf) (P2 1 (l2 - 1)) = uv (uv U 2 ka (nI kf)) 3 ka (P2 1 (l2 - 1)) := by
            unfold gU_X2_move
            rw [hN.ex kan, if_neg ka4, if_neg i10, hN.fo' kfn kf2, if_neg i10, ix_nI (by omega)]
          have mV : gV_X1_move V4 (nI a) (nI f) (P2 1 (l2 - 1)) = gV_X1_release (gV_X1_hold (uv (uv (uv V4 2 a (nI f)) 3 a (P2 1 (l2 - 1))) 6 a (V4 6 a + 1)) (nI f)) (nI p) := by
            unfold gV_X1_move
            rw [Inv.isE a64 v4a0, if_neg i10, Inv.isE f64 v4f0, if_neg i10, ix_nI (by omega), p2]
          rw [nodeOf_q a64 v4a0, nodeOf_q f64 v4f0, v4a4, v4f4, la, mU, mV]
          have u2 : ∀ k, uv (uv U 2 ka (nI kf)) 3 ka (P2 1 (l2 - 1)) 2 k = if k = ka then nI kf else U 2 k := fun k => by simp [uv]
          have u3 : ∀ k, uv (uv U 2 ka (nI kf)) 3 ka (P2 1 (l2 - 1)) 3 k = if k = ka then P2 1 (l2 - 1) else U 3 k := fun k => by simp [uv]
          have uk : ∀ q : Fin 6, q ≠ 2 → q ≠ 3 → uv (uv U 2 ka (nI kf)) 3 ka (P2 1 (l2 - 1)) q = U q := fun q q2 q3 => by rw [uv_k _ _ _ _ _ q3, uv_k _ _ _ _ _ q2]
          generalize uv (uv U 2 ka (nI kf)) 3 ka (P2 1 (l2 - 1)) = U' at u2 u3 uk
          have hk := ho_k (uv (uv (uv V4 2 a (nI f)) 3 a (P2 1 (l2 - 1))) 6 a (V4 6 a + 1)) (nI f)
          have m2 : ∀ j, gV_X1_hold (uv (uv (uv V4 2 a (nI f)) 3 a (P2 1 (l2 - 1))) 6 a (V4 6 a + 1)) (nI f) 2 j = if j = a then nI f else V4 2 j := fun j => by rw [hk 2 (by decide)]; simp [uv]
          have m3 : ∀ j, gV_X1_hold (uv (uv (uv V4 2 a (nI f)) 3 a (P2 1 (l2 - 1))) 6 a (V4 6 a + 1)) (nI f) 3 j = if j = a then P2 1 (l2 - 1) else V4 3 j := fun j => by rw [hk 3 (by decide)]; simp [uv]
          have m6 : ∀ j, gV_X1_hold (uv (uv (uv V4 2 a (nI f)) 3 a (P2 1 (l2 - 1))) 6 a (V4 6 a + 1)) (nI f) 6 j = if j = a then V4 6 a + 1 else V4 6 j := fun j => by rw [hk 6 (by decide)]; simp [uv]
          have m5 : ∀ j, gV_X1_hold (uv (uv (uv V4 2 a (nI f)) 3 a (P2 1 (l2 - 1))) 6 a (V4 6 a + 1)) (nI f) 5 j = if j = f then V4 5 f + 1 else V4 5 j := fun j => by
            rw [ho_5 _ f64, uv_k _ _ _ _ _ (by decide), uv_k _ _ _ _ _ (by decide), uv_k _ _ _ _ _ (by decide)]
          have mk : ∀ q : Fin 12, q ≠ 2 → q ≠ 3 → q ≠ 5 → q ≠ 6 → gV_X1_hold (uv (uv (uv V4 2 a (nI f)) 3 a (P2 1 (l2 - 1))) 6 a (V4 6 a + 1)) (nI f) q = V4 q := fun q q2 q3 q5 q6 => by rw [hk q q5, uv_k _ _ _ _ _ q6, uv_k _ _ _ _ _ q3, uv_k _ _ _ _ _ q2]
          generalize gV_X1_hold (uv (uv (uv V4 2 a (nI f)) 3 a (P2 1 (l2 - 1))) 6 a (V4 6 a + 1)) (nI f) = V5 at m2 m3 m5 m6 mk
          have i5 := i4.move h30 a64 v4a1 p2 p64 v4a4 kan ⟨f64, v4f1, by rw [v4f4]; exact nI_m1 (by omega)⟩ v4f4 kfn kf2 vv sub (i32_gt_ne nm.gt.1).2.2.1 fd ng u2 u3 uk m2 m3 m5 m6 mk
          have r5 := r4.move n60 a64 v4a0 kan nm u2 u3 uk m2 m3 m6 mk
          have c5 : CntI V5 := c4.fr (mk 1 (by decide) (by decide) (by decide) (by decide)) (mk 9 (by decide) (by decide) (by decide) (by decide))
          have p5 : V5 1 p = 1 := by rw [mk 1 (by decide) (by decide) (by decide) (by decide)]; exact p1
          have go5 := Goo.rel r5 i5 c5 p64 p5 (Nat.le_refl _) h30
          have b3a := (k3.1.B.en a a64 (by rw [v3a1]; exact i10)).2.2.1
          have b3f := (k3.1.B.en f f64 (by rw [k9]; exact i10)).2.2.1
          rw [v3a4] at b3a
          rw [k8, kfe] at b3f
          refine ⟨1, mvD (sD D3 (701 + 9 * e + 0) 0) a ka (nI f) (nI kf) (Z 193 (l2 - 1)), G3, nI f, t2 + 1, ?_, Or.inl ⟨rfl, rfl⟩, go5.1⟩
          simp only [h.f18, Option.bind_some, w_entryAt _ e 0 (show (0 : Int32) = nI 0 from rfl), asI_I, h.stD _ _ (show nI (701 + 9 * e + 0) = nI (701 + 9 * e + 0) from rfl) (show 701 + 9 * e + 0 < 1853 by omega), rF_sD, h.kt, if_true, w_its h _ 3 (show (3 : Int32) = nI 3 from rfl) (show a < 128 by omega) (by decide), w_its h _ 3 (show (3 : Int32) = nI 3 from rfl) (show f < 128 by omega) (by decide), rF_D, sD_n _ _ (show 701 + 9 * a + 3 ≠ 701 + 9 * e + 0 by omega), sD_n _ _ (show 701 + 9 * f + 3 ≠ 701 + 9 * e + 0 by omega), b3a, b3f, w_nodeAt _ ka 2 (show (2 : Int32) = nI 2 from rfl), w_nodeAt _ ka 3 (show (3 : Int32) = nI 3 from rfl), h.fi, rF_c, h.stD _ _ (show nI (401 + 5 * ka + 2) = nI (401 + 5 * ka + 2) from rfl) (show 401 + 5 * ka + 2 < 1853 by omega), h.stD _ _ (show nI (401 + 5 * ka + 3) = nI (401 + 5 * ka + 3) from rfl) (show 401 + 5 * ka + 3 < 1853 by omega), sD_n _ _ (show 701 + 9 * a + 3 ≠ 401 + 5 * ka + 2 by omega), w_entryAt _ a 1 (show (1 : Int32) = nI 1 from rfl), w_entryAt _ a 2 (show (2 : Int32) = nI 2 from rfl), w_entryAt _ a 4 (show (4 : Int32) = nI 4 from rfl), h.stD _ _ (show nI (701 + 9 * a + 1) = nI (701 + 9 * a + 1) from rfl) (show 701 + 9 * a + 1 < 1853 by omega), h.stD _ _ (show nI (701 + 9 * a + 2) = nI (701 + 9 * a + 2) from rfl) (show 701 + 9 * a + 2 < 1853 by omega), h.stD _ _ (show nI (701 + 9 * a + 4) = nI (701 + 9 * a + 4) from rfl) (show 701 + 9 * a + 4 < 1853 by omega), h.ldD _ (show nI (701 + 9 * a + 4) = nI (701 + 9 * a + 4) from rfl) (show 701 + 9 * a + 4 < 1853 by omega), sD_n _ _ (show 701 + 9 * a + 4 ≠ 701 + 9 * e + 0 by omega), sD_n _ _ (show 701 + 9 * a + 4 ≠ 401 + 5 * ka + 2 by omega), sD_n _ _ (show 701 + 9 * a + 4 ≠ 401 + 5 * ka + 3 by omega), sD_n _ _ (show 701 + 9 * a + 4 ≠ 701 + 9 * a + 1 by omega), sD_n _ _ (show 701 + 9 * a + 4 ≠ 701 + 9 * a + 2 by omega)]
          unfold mvD
          rw [sD_n _ _ (show 701 + 9 * a + 4 ≠ 701 + 9 * e + 0 by omega)]
          simp
        · rw [if_neg em, if_neg em, if_pos rfl, if_pos rfl, if_pos rfl]
          exact ⟨0, D3, G3, nI f, t2 + 1, by simp, Or.inr ⟨rfl, rfl⟩, go3⟩
      · have yb1 : yb = 1 := yb01.resolve_left wb
        rw [if_neg wb]
        rw [if_neg wb] at ct
        rw [ct, if_pos rfl, if_pos rfl, if_pos rfl]
        exact ⟨0, D2, G2, nI f, t2, by simp, Or.inr ⟨rfl, rfl⟩, go2.1⟩
    · rw [if_neg vv]
      rw [if_neg (fun z => vv z.symm)] at ct
      rw [ct, if_pos rfl, if_pos rfl, if_pos rfl]
      exact ⟨0, D2, G2, nI f, t2, by simp, Or.inr ⟨rfl, rfl⟩, go2.1⟩
  · subst y0
    have res : M_X10_isRenamed [mR (some 188), mI (nI a)] (rF Z D1 G (nI a), J) = some (some (mI 0), (rF Z D2 G2 c2, J)) := by
      rw [E_X10_isRenamed]
      simp only [h.f16, h.fi, z17', Option.bind_some, h.kt, if_true, w1, asI_I]
      simp
    by_cases ct : q_X8_canTake O U V2 F (nI a) = 0
    · rw [if_pos ct, if_pos ct, if_pos ct]
      exact ⟨0, D2, G2, c2, t2, res, Or.inr ⟨rfl, rfl⟩, go2.1⟩
    · have nf : ¬ q_X1_isFolder U V2 F = 0 := fun z => ct (by unfold q_X8_canTake; rw [if_pos z])
      have nl := bad.resolve_left nf
      have gq : q_X8_gapIn 12 O P2 U V2 F = -1 := by unfold q_X8_gapIn; rw [if_neg nl]
      have gv : gV_X8_gapIn 12 O P2 U V2 F = V2 := by unfold gV_X8_gapIn; rw [if_neg nl]
      rw [if_neg ct, if_neg ct, if_neg ct, gq, gv, if_pos rfl, if_pos rfl, if_pos rfl]
      exact ⟨0, D2, G2, c2, t2, res, Or.inr ⟨rfl, rfl⟩, go2.1⟩
end
section
/-! Something renamed, on both sides: the act. -/
theorem fin2r {I I1 Z : MI} {J1 : MJ} {T B0 vol nn t k : Nat} {U : NodV} {V : MemV} {H : OneV} {W : WkV} {D' G' : RowV} {c' : Int32} (fin : ∀ I2, (∀ x, x ≠ 188 → x ≠ 190 → x ≠ 194 → x ≠ 195 → I2 x = Z x) → (∀ k, k ≠ 22 → I2 188 k = Z 188 k) → S3 I2 → Wd I2 1 17 29 31 (I2 194) vol (T + 10001) → St I2 J1 (T + 10001) B0) (zl : ∀ x, x < 188 → Z x = I1 x) (z190 : Z 190 = I 190) (s3 : S3 I) (hk : k < 6) (i186 : ∀ j, I1 186 j = if j = k then I 186 k + 1 else I 186 j) (w : Win I1 U V H W) (i : Inv U V H W nn vol t (T + 10001) (fun _ => 0)) (c : CntI V) (r : Rel none U V H W D' nn) : St (rfR (rF Z D' G' c') k) J1 (T + 10001) B0 := by
  have w2 := w.z zl
  have o : ∀ x, x ≠ 190 → rfR (rF Z D' G' c') k x = rF Z D' G' c' x := fun x a => rfR_o _ _ a
  refine fin _ (fun x a b d e => by rw [o x b, rF_o _ _ _ _ a d e]) (fun k a => by rw [o 188 (by decide), rF_k _ _ _ _ a]) (s3.ref (k := k) (fun j => ?_) (fun j => ?_) hk) (Wd.mk i c r ?_ ?_ ?_ (fun k hk => ?_) (by rw [o 194 (by decide), rF_D]))
  · rw [o 186 (by decide), rF_o _ _ _ _ (by decide) (by decide) (by decide), zl 186 (by decide)]; exact i186 j
  · unfold rfR
    rw [up2_r, rF_o _ _ _ _ (by decide) (by decide) (by decide), z190]
  · rw [vw_fr (I := rF Z D' G' c') (fun x _ _ => o x (by omega)), vw_r _ _ _ _ (by decide)]; exact w2.1
  · rw [vw_fr (I := rF Z D' G' c') (fun x _ _ => o x (by omega)), vw_r _ _ _ _ (by decide)]; exact w2.2.1
  · rw [vw_fr (I := rF Z D' G' c') (fun x _ _ => o x (by omega)), vw_r _ _ _ _ (by decide)]; exact w2.2.2.1
  · rw [wks_fr (I := rF Z D' G' c') (fun x _ _ => o x (by omega)) hk, wks_fr (I := Z) (fun x _ _ => rF_o _ _ _ _ (by omega) (by omega) (by omega)) hk]; exact w2.2.2.2 k hk
theorem P_rename {I : MI} {J : MJ} {T B0 : Nat} (h : St I J T B0) (h30 : T + 10001 ≤ 1000000000) : Pair I J T B0 (M_X9_rename [mR (some 0)]) (M_X10_rename [mR (some 188)]) := by
  obtain ⟨n, t1, t2, t3⟩ := h.2.1
  have T4 := t1.1
  by_cases hy : (rowO I n).1 = 2
  · rcases h.2.2.2.2.2.2.2.2.2 with td | u
    · obtain ⟨vol, nn, t, X, J1, hv, i, c, r, k1, kl, rl, wf, x186, rest⟩ := act_pre2 (n := n) h h30 td t1 t2 t3 hy
      have e1 := wf.1
      have e2 := wf.2.1
      have n60 := i.N.n60
      have uE := u_rename h.1.1 I T4 t1.2.1 hy k1 kl
      unfold q_X8_renameTo gU_X8_renameTo gV_X8_renameTo at uE
      rw [e1, e2] at uE
      have ip := i.T (show T ≤ T + 10000 by omega) (by omega)
      have tT := i.Z.tT
      have plain : ∀ (Z : MI) (l' : Nat), Pth (vw 2 X 158) (Z 192) l' → l' ≤ 12 → Z 188 20 = -1 → Z 188 21 = -1 → Z 194 = I 194 → ∃ D' G' c' y t', M_X10_isPlain [mR (some 188), mR (some 192), mI (nI l')] (Z, J1) = some (some (mI y), (rF Z D' G' c', J1)) ∧ Stq none (vw 6 I 1) (vw 12 I 17) (gV_X1_walk 12 (vw 2 X 158) (vw 6 I 1) (vw 12 I 17) (vw 2 X 158 0 1)) (vw 1 I 29) (wks I 31) D' nn vol t' (T + 10000) 0 (fun _ => 0) ∧ t' ≤ t + 25 ∧ Pla (gV_X1_walk 12 (vw 2 X 158) (vw 6 I 1) (vw 12 I 17) (vw 2 X 158 0 1)) (q_X1_walk 12 (vw 2 X 158) (vw 6 I 1) (vw 12 I 17) (vw 2 X 158 0 1)) y c' := by
        intro Z l' pth l12 z20 z21 zD
        obtain ⟨D', G', c', y, t', w1, w2, w3, w4, w5⟩ := r.isPlain ip c (fun e _ z => absurd rfl z) rl Z (by rw [z20]; exact Or.inl ⟨rfl, fun _ => rfl⟩) z21 (Z 195) (Z 188 22) rl.s14 (by decide) (L := 12) pth l12 (by decide) (by omega) (by omega)
        rw [← zD, rF_id] at w1
        exact ⟨D', G', c', y, t', w1, w2, by omega, w5⟩
      generalize q_X1_walk 12 (vw 2 X 158) (vw 6 I 1) (vw 12 I 17) (vw 2 X 158 0 1) = Q at uE plain
      generalize gV_X1_walk 12 (vw 2 X 158) (vw 6 I 1) (vw 12 I 17) (vw 2 X 158 0 1) = V1 at uE plain
      obtain ⟨Z0, Y0, l0, l20, _, _, _, b0, p0, _, b20, p20, z017, d0, z020, z021, _⟩ := rest X (fun _ _ _ => rfl)
      obtain ⟨D0, G0, c0, y0, t0, _, s0, tl0, w0⟩ := plain Z0 l0 p0 b0 z020 z021 d0
      rcases w0 with ⟨_, a', _, qa, at', cc, v2, vc⟩ | ⟨y00, bad⟩
      · subst qa
        have a64 := at'.1
        rw [if_neg cc, if_neg cc, if_neg cc] at uE
        have qE : (if (q_X8_canTake (vw 1 X 16) (vw 6 I 1) (gV_X1_walk 12 (vw 2 X 160) (vw 6 I 1) (gV_X1_hold V1 (nI a')) ((vw 2 X 160 0 1) - 1)) (q_X1_walk 12 (vw 2 X 160) (vw 6 I 1) (gV_X1_hold V1 (nI a')) ((vw 2 X 160 0 1) - 1)) (nI a')) = 0 then (-1) else (if (q_X8_gapIn 12 (vw 1 X 16) (vw 2 X 160) (vw 6 I 1) (gV_X1_walk 12 (vw 2 X 160) (vw 6 I 1) (gV_X1_hold V1 (nI a')) ((vw 2 X 160 0 1) - 1)) (q_X1_walk 12 (vw 2 X 160) (vw 6 I 1) (gV_X1_hold V1 (nI a')) ((vw 2 X 160 0 1) - 1))) = ((-1)) then (-1) else nI a')) = rnQ (vw 1 X 16) (vw 2 X 160) (vw 6 I 1) V1 a' := rfl
        have uE2 : M_X9_rename [mR (some 0)] (I, J) = if 0 ≤ rnQ (vw 1 X 16) (vw 2 X 160) (vw 6 I 1) V1 a' then some (some (mI (rnQ (vw 1 X 16) (vw 2 X 160) (vw 6 I 1) V1 a')), (pt (pt X 1 (rnU (vw 1 X 16) (vw 2 X 160) (vw 6 I 1) V1 a')) 17 (rnV (vw 1 X 16) (vw 2 X 160) (vw 6 I 1) V1 a'), J1)) else some (some (mI (-1)), (rfz (pt (pt X 1 (rnU (vw 1 X 16) (vw 2 X 160) (vw 6 I 1) V1 a')) 17 (rnV (vw 1 X 16) (vw 2 X 160) (vw 6 I 1) V1 a')) 3, J1)) := uE
        clear uE qE
        -- the reference behind its first walk
        have ref1 : ∀ (I1 Y1 Z : MI) (l' l2 : Nat) (D' G' : RowV) (t1 : Nat), M_X10_areTwoPaths [mR (some 188)] (I1, J1) = some (some (mI 1), (Y1, J1)) → ¬ bz (Y1 188 13) = 0 → M_X10_keeps [mR (some 188)] (Y1, J1) = some (none, (Z, J1)) → Z 188 15 = nI l' → Z 188 17 = nI l2 → Z 188 20 = -1 → Z 188 21 = -1 → l2 ≤ 12 → Pth (vw 2 X 160) (Z 193) l2 → M_X10_isPlain [mR (some 188), mR (some 192), mI (nI l')] (Z, J1) = some (some (mI 1), (rF Z D' G' (nI a'), J1)) → Stq none (vw 6 I 1) (vw 12 I 17) V1 (vw 1 I 29) (wks I 31) D' nn vol t1 (T + 10000) 0 (fun _ => 0) → t1 ≤ t + 25 → ∃ (y : Int32) (D5 G5 : RowV) (c5 : Int32) (t5 : Nat), M_X10_rename [mR (some 188)] (I1, J1) = (if y = 0 then some (some (mI (-1)), (rfR (rF Z D5 G5 c5) 3, J1)) else some (some (mI (nI a')), (rF Z D5 G5 c5, J1))) ∧ (y = 1 ∧ rnQ (vw 1 X 16) (vw 2 X 160) (vw 6 I 1) V1 a' = nI a' ∨ y = 0 ∧ rnQ (vw 1 X 16) (vw 2 X 160) (vw 6 I 1) V1 a' = -1) ∧ Goo (rnU (vw 1 X 16) (vw 2 X 160) (vw 6 I 1) V1 a') (rnV (vw 1 X 16) (vw 2 X 160) (vw 6 I 1) V1 a') (vw 1 I 29) (wks I 31) D5 nn vol t5 (T + 10001) := by
          intro I1 Y1 Z l' l2 D' G' t1 g1 g2 g4 z15 z17 z20 z21 l212 pth2 g6 st1 ht1
          obtain ⟨y, D5, G5, c5, t5, m1, m2, m3⟩ := st1.1.renamed st1.2.1 st1.2.2.1 rl (up2 Z 188 20 (nI a')) (up2_s _ _ _ _) (by rw [up2_k _ _ _ (by decide)]; exact z21) G' at' v2 (P2 := vw 2 X 160) (l2 := l2) (by rw [up2_o _ _ _ (by decide)]; exact pth2) l212 (by rw [up2_k _ _ _ (by decide)]; exact z17) (by omega) h30 (vw 1 X 16)
          refine ⟨y, D5, G5, c5, t5, ?_, m2, m3⟩
          have s1 : up2 (rF Z D' G' (nI a')) 188 20 (nI a') = rF (up2 Z 188 20 (nI a')) D' G' (nI a') := rF_so _ _ _ _ _ (by decide) (by decide) (by decide)
          have s2 : up2 (rF (up2 Z 188 20 (nI a')) D5 G5 c5) 188 20 (-1) = rF Z D5 G5 c5 := by
            rw [rF_so _ _ _ _ _ (by decide) (by decide) (by decide)]
            congr 1
            funext x j
            unfold up2
            by_cases q : x = 188 ∧ j = 20
            · rw [if_pos q, q.1, q.2, z20]
            · rw [if_neg q, if_neg q]
          rw [E_X10_rename]
          simp only [rl.kt, if_true, g1, Option.bind_some, asI_I, if_neg i10, rl.fz, if_neg g2, g4, asV_n, rl.f14, rl.fi, z15, g6, rF_c, rl.wi, s1, m1, s2, w_refuses rl _ (show (3 : Int32) = nI 3 from rfl) (by decide)]
        have dec : rnQ (vw 1 X 16) (vw 2 X 160) (vw 6 I 1) V1 a' = nI a' ∨ rnQ (vw 1 X 16) (vw 2 X 160) (vw 6 I 1) V1 a' = -1 := by
          unfold rnQ
          split
          · exact Or.inr rfl
          · split
            · exact Or.inr rfl
            · exact Or.inl rfl
        generalize rnQ (vw 1 X 16) (vw 2 X 160) (vw 6 I 1) V1 a' = R at uE2 ref1 dec
        generalize rnU (vw 1 X 16) (vw 2 X 160) (vw 6 I 1) V1 a' = Uf at uE2 ref1
        generalize rnV (vw 1 X 16) (vw 2 X 160) (vw 6 I 1) V1 a' = Vf at uE2 ref1
        rcases dec with d | d
        · rw [d, if_pos (nI_pos' (show a' < 2 ^ 31 by omega))] at uE2
          obtain ⟨Z, Y1, l', l2, g1, g2, g4, l12, pth, z15, l212, pth2, z17, zD, z20, z21, zl, z190, fin⟩ := rest (pt (pt X 1 Uf) 17 Vf) (fun y q _ => o17 _ _ _ (by omega))
          obtain ⟨D', G', c', y, t', w1, w2, w3, w5⟩ := plain Z l' pth l12 z20 z21 zD
          rcases w5 with ⟨y1, b', cb, qb, _⟩ | ⟨_, bad⟩
          · have bb : c' = nI a' := by rw [cb, ← qb]
            subst y1 bb
            obtain ⟨y5, D5, G5, c5, t5, m1, m2, m3⟩ := ref1 _ _ _ _ _ _ _ _ g1 g2 g4 z15 z17 z20 z21 l212 pth2 w1 w2 w3
            rcases m2 with ⟨m2, _⟩ | ⟨_, m2⟩
            · rw [m2, if_neg i10] at m1
              have w2' := (win17 wf Uf Vf).z zl
              refine ⟨nI a', _, _, J1, uE2, m1, fin _ (fun x a _ d e => rF_o _ _ _ _ a d e) (fun k a => rF_k _ _ _ _ a) (h.2.2.2.1.fr ?_ ?_) (Wd.mk m3.2.1 m3.2.2 m3.1 ?_ ?_ ?_ (fun k hk => ?_) (rF_D _ _ _ _))⟩
              · rw [rF_o _ _ _ _ (by decide) (by decide) (by decide), zl 186 (by decide), o17 _ _ _ (by decide)]; exact x186
              · rw [rF_o _ _ _ _ (by decide) (by decide) (by decide), z190]
              · rw [vw_r _ _ _ _ (by decide)]; exact w2'.1
              · rw [vw_r _ _ _ _ (by decide)]; exact w2'.2.1
              · rw [vw_r _ _ _ _ (by decide)]; exact w2'.2.2.1
              · rw [wks_fr (I := Z) (fun x _ _ => rF_o _ _ _ _ (by omega) (by omega) (by omega)) hk]; exact w2'.2.2.2 k hk
            · rw [d] at m2
              exact absurd m2 (nI_m1 (by omega))
          · exact absurd bad cc
        · rw [d, if_neg (show ¬ (0 : Int32) ≤ -1 by decide)] at uE2
          obtain ⟨Z, Y1, l', l2, g1, g2, g4, l12, pth, z15, l212, pth2, z17, zD, z20, z21, zl, z190, fin⟩ := rest (rfz (pt (pt X 1 Uf) 17 Vf) 3) (fun y q q2 => o17r _ _ _ _ (by omega) q2)
          obtain ⟨D', G', c', y, t', w1, w2, w3, w5⟩ := plain Z l' pth l12 z20 z21 zD
          rcases w5 with ⟨y1, b', cb, qb, _⟩ | ⟨_, bad⟩
          · have bb : c' = nI a' := by rw [cb, ← qb]
            subst y1 bb
            obtain ⟨y5, D5, G5, c5, t5, m1, m2, m3⟩ := ref1 _ _ _ _ _ _ _ _ g1 g2 g4 z15 z17 z20 z21 l212 pth2 w1 w2 w3
            rcases m2 with ⟨_, m2⟩ | ⟨m2, _⟩
            · rw [d] at m2
              exact absurd m2.symm (nI_m1 (by omega))
            · rw [m2, if_pos rfl] at m1
              exact ⟨-1, _, _, J1, uE2, m1, fin2r (k := 3) fin zl z190 h.2.2.2.1 (by decide) (r17 x186 _ _ 3) (win17r wf _ _ 3) m3.2.1 m3.2.2 m3.1⟩
          · exact absurd bad cc
      · rw [if_pos bad, if_pos bad, if_pos bad, if_neg (show ¬ (0 : Int32) ≤ -1 by decide)] at uE
        obtain ⟨Z, Y1, l', l2, g1, g2, g4, l12, pth, z15, l212, pth2, z17, zD, z20, z21, zl, z190, fin⟩ := rest (rfz (pt (pt X 1 (vw 6 I 1)) 17 V1) 3) (fun y q q2 => o17r _ _ _ _ (by omega) q2)
        obtain ⟨D', G', c', y, t', w1, w2, w3, w5⟩ := plain Z l' pth l12 z20 z21 zD
        have yz : y = 0 := by
          rcases w5 with ⟨_, b', _, _, _, cc, _⟩ | ⟨z, _⟩
          · exact absurd bad cc
          · exact z
        subst yz
        refine ⟨-1, _, rfR (rF Z D' G' c') 3, J1, uE, ?_, fin2r (k := 3) fin zl z190 h.2.2.2.1 (by decide) (r17 x186 _ _ 3) (win17r wf _ _ 3) (w2.2.1.T (show T + 10000 ≤ T + 10001 by omega) h30) w2.2.2.1 w2.1⟩
        rw [E_X10_rename]
        simp only [rl.kt, if_true, g1, Option.bind_some, asI_I, if_neg i10, rl.fz, if_neg g2, g4, asV_n, rl.f14, rl.fi, z15, w1, w_refuses rl _ (show (3 : Int32) = nI 3 from rfl) (by decide)]
    · refine absurd hy ?_
      unfold rowO
      rw [if_pos (by rw [u.2.2.1.2.1]; exact Int32.le_refl _)]
      exact (by decide : ¬ (-1 : Int32) = 2)
  · have uE := u_rename_no h.1.1 I T4 t1.2.1 hy
    have rl := h.1.2
    have o : ∀ x, x ≠ 7 → (x < 158 ∨ 183 ≤ x) → x ≠ 186 → rfz (tkn I n) 3 x = I x := fun x p q r => by rw [rfz_o _ _ r, tkn_o _ _ p q]
    obtain ⟨y, Y1, g1, g2, g3, g4, g5⟩ := path2 (I := I) (Y := rfz (tkn I n) 3) rl t1 (by rw [o 188 (by decide) (by decide) (by decide)]; exact t2) (fun k hk => by rw [o 189 (by decide) (by decide) (by decide)]; exact t3 k hk)
    have rf := w_refuses rl Y1 (k := 3) (x := 3) rfl (by decide)
    have res : M_X10_rename [mR (some 188)] (rfz (tkn I n) 3, J) = some (some (mI (-1)), (rfR Y1 3, J)) := by
      rw [E_X10_rename]
      simp only [rl.kt, if_true, g1, Option.bind_some, asI_I, rl.fz, rf]
      by_cases z : y = 0
      · rw [if_pos z]
      · rw [if_neg z]
        have : bz (Y1 188 13) = 0 := by
          rw [g3 13 (by decide) (by decide) (by decide) (by decide) (by decide), o 188 (by decide) (by decide) (by decide)]
          rcases h.2.2.2.2.2.2.2.2.2 with ⟨vol, ad, p, q, hv, td, ⟨nn, t, i, c, r⟩, hs⟩ | u
          · rcases g5 (Told.h6 i) with ⟨q1, _⟩ | ⟨_, q1⟩
            · exact absurd q1 hy
            · exact absurd q1 z
          · exact u.2.1
        rw [if_pos this]
    refine ⟨-1, _, _, J, uE, res, ?_⟩
    have ro : ∀ x, x ≠ 190 → rfR Y1 3 x = Y1 x := fun x a => rfR_o _ _ a
    refine h.tk h30 (h.2.2.2.1.rf (by decide) (g2 186 (by decide) (by decide) (by decide)) (by rw [g2 190 (by decide) (by decide) (by decide), o 190 (by decide) (by decide) (by decide)])) (fun x a b c d e f g i j => ?_) (fun k a b c d e f => ?_) ?_ ?_
    · rw [ro x e, g2 x d f g, o x a b c]
    · rw [ro 188 (by decide), g3 k a b c d e, o 188 (by decide) (by decide) (by decide)]
    · rw [ro 7 (by decide), g2 7 (by decide) (by decide) (by decide), rfz_o _ _ (by decide)]
      exact tkn_7 I n
    · rw [ro 188 (by decide)]
      exact g4
end
section
/-! The way up from a node, on both sides. -/
theorem ex_bound (d : Nat → Nat) : ∀ n : Nat, ∃ M, ∀ k, k < n → d k < M
  | 0 => ⟨0, fun k hk => by omega⟩
  | n + 1 => by
    obtain ⟨M, hM⟩ := ex_bound d n
    refine ⟨max M (d n + 1), fun k hk => ?_⟩
    rcases Nat.lt_or_ge k n with z | z
    · have := hM k z
      omega
    · have : k = n := by omega
      subst this
      omega
/-- a rank that grows downwards, over mounts, too -/
theorem ex_rank {U : NodV} {V : MemV} {n vol : Nat} (hN : NodI U n vol) (hM : MemI U V n vol) : ∃ μ : Nat → Nat, (∀ k p, k < n → p < n → ¬ U 4 k = 0 → U 2 k = nI p → μ p < μ k) ∧ ∀ k v o ko, k < n → 1 ≤ v → v < 3 → U 1 k = nI v → o < 64 → V 10 v = nI o → V 4 o = nI ko → ko < n → μ ko < μ k := by
  have n60 := hN.n60
  have v3 := hN.v3
  obtain ⟨d, hd⟩ := hN.rk
  obtain ⟨ρ, hρ⟩ := hM.vr
  obtain ⟨M, hM'⟩ := ex_bound d n
  refine ⟨fun k => ρ (ix (U 1 k)) * M + d k, fun k p hk hp q1 q2 => ?_, fun k v o ko hk v1 v3' uk o64 ho h4 kon => ?_⟩
  · obtain ⟨p', p1, p2, _, p4⟩ := hN.par k hk q1 (by rw [q2]; exact nI_m1 (by omega))
    have : p' = p := (nI_eq (by omega) (by omega)).mp (p2.symm.trans q2)
    subst this
    show ρ (ix (U 1 p')) * M + d p' < ρ (ix (U 1 k)) * M + d k
    rw [p4]
    exact Nat.add_lt_add_left (hd k p' hk hp q1 q2) _
  · obtain ⟨u, u1, u2⟩ := hN.vol ko kon
    have r := hρ v o ko u v1 v3' o64 ho h4 kon u2 (by omega)
    show ρ (ix (U 1 ko)) * M + d ko < ρ (ix (U 1 k)) * M + d k
    rw [u2, uk, ix_nI (by omega), ix_nI (by omega)]
    have a1 := hM' ko kon
    have a2 : (ρ u + 1) * M ≤ ρ v * M := Nat.mul_le_mul_right M r
    rw [Nat.succ_mul] at a2
    omega
theorem par_q {U : NodV} {n vol : Nat} (hN : NodI U n vol) {k : Nat} (hk : k < n) (h4 : ¬ U 4 k = 0) : q_X2_parentOf U (nI k) = U 2 k := by
  have n60 := hN.n60
  unfold q_X2_parentOf
  rw [hN.ex hk, if_neg h4, if_neg i10, ix_nI (by omega)]
theorem nam_q {U : NodV} {n vol : Nat} (hN : NodI U n vol) {k : Nat} (hk : k < n) (h4 : ¬ U 4 k = 0) : q_X2_nameOf U (nI k) = U 3 k := by
  have n60 := hN.n60
  unfold q_X2_nameOf
  rw [hN.ex hk, if_neg h4, if_neg i10, ix_nI (by omega)]
theorem cvb_q (V : MemV) {v : Nat} (hv : v < 3) : q_X1_coveredBy V (nI v) = V 10 v := by
  unfold q_X1_coveredBy
  rw [if_neg (nI_pos (by omega)), if_neg (show ¬ (3 : Int32) ≤ nI v from nI_ge (b := 3) hv (by decide)), ix_nI (by omega)]
theorem turn_loop {L : Nat} (hL : L < 1000) : ∀ (f a b : Nat) (P : RouV), a ≤ L → b < L → b - a ≤ f → lp_X4_turnAround L f (nI a) (nI b) P 0 = P 0 ∧ ∀ j, lp_X4_turnAround L f (nI a) (nI b) P 1 j = if a ≤ j ∧ j ≤ b then P 1 (a + b - j) else P 1 j := by
  have done : ∀ (a b : Nat) (P : RouV), b ≤ a → ∀ j, P 1 j = if a ≤ j ∧ j ≤ b then P 1 (a + b - j) else P 1 j := fun a b P h j => by
    by_cases z : a ≤ j ∧ j ≤ b
    · rw [if_pos z, show a + b - j = j by omega]
    · rw [if_neg z]
  intro f
  induction f with
  | zero =>
    intro a b P ha hb hf
    exact ⟨rfl, done a b P (by omega)⟩
  | succ f ih =>
    intro a b P ha hb hf
    have st : lp_X4_turnAround L (f + 1) (nI a) (nI b) P = if nI b ≤ nI a then P else if (nI L) ≤ nI b then P else lp_X4_turnAround L f (nI a + 1) (nI b + (-1)) (uv (uv P 1 (ix (nI a)) (P 1 (ix (nI b)))) 1 (ix (nI b)) (P 1 (ix (nI a)))) := rfl
    by_cases ab : b ≤ a
    · rw [st, if_pos (nI_le ab (by omega))]
      exact ⟨rfl, done a b P ab⟩
    · have e : nI b + (-1) = nI (b - 1) := by
        have : nI b = nI (b - 1) + 1 := by rw [nI_1, show b - 1 + 1 = b by omega]
        rw [this, Int32.add_assoc, show (1 : Int32) + (-1) = 0 by decide, Int32.add_zero]
      rw [st, if_neg (nI_ge (show a < b by omega) (by omega)), if_neg (nI_ge hb (by omega)), ix_nI (by omega), ix_nI (by omega), nI_1, e]
      obtain ⟨g1, g2⟩ := ih (a + 1) (b - 1) (uv (uv P 1 a (P 1 b)) 1 b (P 1 a)) (by omega) (by omega) (by omega)
      refine ⟨by rw [g1, uv_k _ _ _ _ _ (by decide), uv_k _ _ _ _ _ (by decide)], fun j => ?_⟩
      have p2 : ∀ j, uv (uv P 1 a (P 1 b)) 1 b (P 1 a) 1 j = if j = b then P 1 a else if j = a then P 1 b else P 1 j := fun j => by rw [uv_at, uv_at]
      rw [g2, p2, p2]
      by_cases c1 : a + 1 ≤ j ∧ j ≤ b - 1
      · rw [if_pos c1, if_neg (show ¬ a + 1 + (b - 1) - j = b by omega), if_neg (show ¬ a + 1 + (b - 1) - j = a by omega), if_pos (show a ≤ j ∧ j ≤ b by omega), show a + 1 + (b - 1) - j = a + b - j by omega]
      · rw [if_neg c1]
        by_cases c2 : j = b
        · rw [if_pos c2, if_pos (show a ≤ j ∧ j ≤ b by omega), show a + b - j = a by omega]
        · rw [if_neg c2]
          by_cases c3 : j = a
          · rw [if_pos c3, if_pos (show a ≤ j ∧ j ≤ b by omega), show a + b - j = b by omega]
          · rw [if_neg c3, if_neg (show ¬ (a ≤ j ∧ j ≤ b) by omega)]
theorem turn_q {P : RouV} {l : Nat} (hp : P 0 1 = nI l) (hl : l ≤ 60) : gP_X4_turnAround 60 P 0 1 = nI l ∧ ∀ j, j < l → gP_X4_turnAround 60 P 1 j = P 1 (l - 1 - j) := by
  unfold gP_X4_turnAround
  rw [hp]
  cases l with
  | zero =>
    have e : ((nI 0 - 1 : Int32).toInt).toNat = 0 := by decide
    rw [e]
    exact ⟨hp, fun j hj => by omega⟩
  | succ l =>
    have e : nI (l + 1) - 1 = nI l := nI_sub (b := 1) (by omega)
    rw [e, nI_toInt (by omega), Int.toNat_natCast]
    obtain ⟨g1, g2⟩ := turn_loop (L := 60) (by decide) l 0 l P (by omega) (by omega) (by omega)
    rw [show (nI 0) = 0 from rfl] at g1 g2
    refine ⟨by rw [g1]; exact hp, fun j hj => ?_⟩
    rw [g2, if_pos (by omega), show 0 + l - j = l + 1 - 1 - j by omega]
/-- the reference's heap with its row of names -/
def nF (Y : MI) (N : RowV) : MI := fun a j => if a = 198 then N j else Y a j
theorem nF_N (Y : MI) (N : RowV) : nF Y N 198 = N := by
  funext j
  unfold nF
  rw [if_pos rfl]
theorem nF_o (Y : MI) (N : RowV) {a : Nat} (h : a ≠ 198) : nF Y N a = Y a := by
  funext j
  unfold nF
  rw [if_neg h]
theorem nF_s (Y : MI) (N : RowV) (i : Nat) (v : Int32) : up2 (nF Y N) 198 i v = nF Y (sD N i v) := by
  funext a j
  unfold up2 nF sD
  by_cases h : a = 198
  · subst h
    simp
  · simp [h]
theorem nF_id (Y : MI) : nF Y (Y 198) = Y := by
  funext a j
  unfold nF
  by_cases h : a = 198
  · rw [if_pos h, h]
  · rw [if_neg h]
theorem RefL.f26 {J : MJ} (h : RefL J) (I : MI) : fR (I, J) 10 188 26 = some (some 198) := by rw [fR_ok 26 h.k, h.r26]
/-- the class: at the root of all -/
theorem ro_end {U : NodV} {V : MemV} {n vol : Nat} (hN : NodI U n vol) (hM : MemI U V n vol) (O : OneV) {k : Nat} (kn : k < n) (k4 : ¬ U 4 k = 0) (k2 : U 2 k = -1) (kv : U 1 k = nI 0) (f kk : Nat) (P : RouV) : lp_X8_routeTo_9 60 O U V (f + 2) kk (nI k) P = gP_X4_turnAround 60 P := by
  have n60 := hN.n60
  have e1 : lp_X8_routeTo_9 60 O U V (f + 2) kk (nI k) P = lp_X8_routeTo_9 60 O U V (f + 1) (kk + 1) (-1) P := by
    show (if (q_X2_exists U (nI k)) = 0 then _ else (if (q_X2_parentOf U (nI k)) = ((-1)) then lp_X8_routeTo_9 60 O U V (f + 1) (kk + 1) (q_X1_nodeOf V (q_X1_coveredBy V (q_X2_volumeOf U (nI k)))) P else _)) = _
    rw [hN.ex kn, if_neg k4, if_neg i10, par_q hN kn k4, if_pos k2, vol_q hN kn, kv, cvb_q V (by decide), hM.o0]
    congr 1
  rw [e1]
  show (if (q_X2_exists U (-1)) = 0 then _ else _) = _
  rw [if_pos]
  unfold q_X2_exists
  rw [if_pos (by decide)]
/-- over a mount -/
theorem ro_up {U : NodV} {V : MemV} {n vol : Nat} (hN : NodI U n vol) (O : OneV) {k v o : Nat} (kn : k < n) (k4 : ¬ U 4 k = 0) (k2 : U 2 k = -1) (kv : U 1 k = nI v) (v3 : v < 3) (o64 : o < 64) (o1 : ¬ V 1 o = 0) (ho : V 10 v = nI o) (f kk : Nat) (P : RouV) : lp_X8_routeTo_9 60 O U V (f + 1) kk (nI k) P = lp_X8_routeTo_9 60 O U V f (kk + 1) (V 4 o) P := by
  show (if (q_X2_exists U (nI k)) = 0 then _ else (if (q_X2_parentOf U (nI k)) = ((-1)) then lp_X8_routeTo_9 60 O U V f (kk + 1) (q_X1_nodeOf V (q_X1_coveredBy V (q_X2_volumeOf U (nI k)))) P else _)) = _
  rw [hN.ex kn, if_neg k4, if_neg i10, par_q hN kn k4, if_pos k2, vol_q hN kn, kv, cvb_q V v3, ho, nodeOf_q o64 o1]
/-- a name -/
theorem ro_push {U : NodV} {V : MemV} {n vol : Nat} (hN : NodI U n vol) (O : OneV) {k : Nat} (kn : k < n) (k4 : ¬ U 4 k = 0) (k2 : ¬ U 2 k = -1) (f kk : Nat) (P : RouV) : lp_X8_routeTo_9 60 O U V (f + 1) kk (nI k) P = lp_X8_routeTo_9 60 O U V f (kk + 1) (U 2 k) (gP_X4_push 60 P (U 3 k)) := by
  show (if (q_X2_exists U (nI k)) = 0 then _ else (if (q_X2_parentOf U (nI k)) = ((-1)) then _ else lp_X8_routeTo_9 60 O U V f (kk + 1) (q_X2_parentOf U (nI k)) (gP_X4_push 60 P (q_X2_nameOf U (nI k))))) = _
  rw [hN.ex kn, if_neg k4, if_neg i10, par_q hN kn k4, if_neg k2, nam_q hN kn k4]
theorem Nmz.of {x y : Int32} (h : NmZ x y) (h0 : ¬ x = 0) : Nm x y := h.resolve_right (fun z => h0 z.1)
theorem pushN {P : RouV} {N : RowV} {l : Nat} (hp : P 0 1 = nI l) (hl : l < 60) (hn : ∀ j, j < l → Nm (P 1 j) (N j)) {x y : Int32} (hx : Nm x y) : gP_X4_push 60 P x 0 1 = nI (l + 1) ∧ ∀ j, j < l + 1 → Nm (gP_X4_push 60 P x 1 j) (sD N l y j) := by
  rw [push_g hp hl (by decide)]
  refine ⟨uv_s _ _ _ _, fun j hj => ?_⟩
  rw [uv_k _ _ _ _ _ (by decide), uv_at]
  by_cases z : j = l
  · rw [if_pos z, z, sD_s]; exact hx
  · rw [if_neg z, sD_n _ _ z]; exact hn j (by omega)
/-- the way up: by nodes -/
theorem route_loop {U : NodV} {V : MemV} {H : OneV} {W : WkV} {n vol t T : Nat} {x : Nat → Nat} (i : Inv U V H W n vol t T x) {μ : Nat → Nat} (m1 : ∀ k p, k < n → p < n → ¬ U 4 k = 0 → U 2 k = nI p → μ p < μ k) (m2 : ∀ k v o ko, k < n → 1 ≤ v → v < 3 → U 1 k = nI v → o < 64 → V 10 v = nI o → V 4 o = nI ko → ko < n → μ ko < μ k) {J : MJ} (h : RefL J) (Y : MI) (r : Rel none U V H W (Y 194) n) (O : OneV) : ∀ (f k l fuel kk : Nat) (P : RouV) (N : RowV) (v : Nat), k < n → ¬ U 4 k = 0 → U 1 k = nI v → v < 3 → ¬ V 9 v = -1 → rkc μ n k < f → l + rkc μ n k ≤ 60 → rkc μ n k + 2 ≤ fuel → P 0 1 = nI l → (∀ j, j < l → Nm (P 1 j) (N j)) → ∃ l' P' N', lp_X8_routeTo_9 60 O U V fuel kk (nI k) P = gP_X4_turnAround 60 P' ∧ P' 0 1 = nI l' ∧ l' ≤ 60 ∧ (∀ j, j < l' → Nm (P' 1 j) (N' j)) ∧ Ev T_X10_laysPath 4 [some (mR (some 188)), none, some (mI (nI l)), some (mI (nI k)), none] [] (nF Y N, J) = Ev T_X10_laysPath 81 [some (mR (some 188)), none, some (mI (nI l')), none, some (mI 0)] [] (nF Y N', J) := by
  have hN := i.N
  have n60 := hN.n60
  have y94 : ∀ N, nF Y N 194 = Y 194 := fun N => nF_o Y N (by decide)
  have nh : ∀ (N : RowV) (k fi : Nat) (z : Int32), z = nI fi → k < n → fi < 5 → M_X10_nodeHas [mR (some 188), mI (nI k), mI z] (nF Y N, J) = some (some (mI (Y 194 (401 + 5 * k + fi))), (nF Y N, J)) := fun N k fi z hz hk hf => by
    rw [w_nodeHas h _ fi hz (by omega) hf, y94]
  intro f
  induction f with
  | zero => intro k l fuel kk P N v _ _ _ _ _ hr; omega
  | succ f ih =>
    intro k l fuel kk P N v kn k4 kv v3 m9 hr hl hf hp hn
    have nd := r.B.nd k kn
    by_cases k2 : U 2 k = -1
    · by_cases v0 : v = 0
      · subst v0
        refine ⟨l, P, N, ?_, hp, by omega, hn, ?_⟩
        · rw [show fuel = (fuel - 2) + 2 by omega]
          exact ro_end hN i.M O kn k4 k2 kv _ _ _
        · rw [E_X10_laysPath_4]
          simp only [h.kt, if_true, nh N k 2 2 rfl kn (by decide), nh N k 0 0 rfl kn (by decide), Option.bind_some, asI_I, nd.2.1, k2, nd.1, kv, show nI 0 = 0 from rfl]
      · obtain ⟨o, o64, ho, o1, o2, o4⟩ := i.M.ov v (by omega) v3 m9
        obtain ⟨ko, kon, ko4, ko2⟩ := hN.fo o4
        obtain ⟨p, kp, _, _, _, kpn, _, u2, u3, u4, _⟩ := i.M.up hN o64 o1 o2 ko4 kon
        obtain ⟨u, uv', hu⟩ := hN.vol ko kon
        have v3' := hN.v3
        have oA : At V o := ⟨o64, o1, by rw [ko4]; exact nI_m1 (by omega)⟩
        have mu := i.mnt oA ko4 kon hu (by omega)
        have rk := rkc_lt (n := n) kon (m2 k v o ko kn (by omega) v3 kv o64 ho ko4 kon)
        obtain ⟨l', P', N', g1, g2, g3, g4, g5⟩ := ih ko l (fuel - 1) (kk + 1) P N u kon u4 hu (by omega) mu (by omega) (by omega) (by omega) hp hn
        refine ⟨l', P', N', ?_, g2, g3, g4, ?_⟩
        · rw [← g1, show fuel = (fuel - 1) + 1 by omega, ro_up hN O kn k4 k2 kv v3 o64 (by rw [o1]; exact i10) ho, ko4]
          rfl
        · rw [← g5]
          have vn0 : ¬ nI v = 0 := fun z => v0 ((nI_eq (by omega) (by omega)).mp (z.trans nI_0.symm))
          have ndo := r.B.nd ko kon
          have en := r.B.en o o64 (by rw [o1]; exact i10)
          have e8 : (8 : Int32) + nI v = nI (8 + v) := nI_add 8 v
          have km : ¬ nI kp = -1 := nI_m1 (by omega)
          have it : M_X10_its [mR (some 188), mI (nI o), mI 3] (nF Y N, J) = some (some (mI (nI ko)), (nF Y N, J)) := by
            rw [w_its h _ 3 (show (3 : Int32) = nI 3 from rfl) (show o < 128 by omega) (by decide), y94, en.2.2.1, ko4]
          rw [E_X10_laysPath_4, E_X10_laysPath_4]
          simp only [h.kt, if_true, nh N k 2 2 rfl kn (by decide), nh N k 0 0 rfl kn (by decide), nh N ko 2 2 rfl kon (by decide), Option.bind_some, asI_I, nd.2.1, k2, nd.1, kv, if_neg vn0, ndo.2.1, u2, if_neg km, h.f18, h.ldD _ e8 (show 8 + v < 1853 by omega), y94, r.B.ov v v3, ho, it]
    · obtain ⟨p, pn, p2, _, p4⟩ := hN.par k kn k4 k2
      have rk := rkc_lt (n := n) pn (m1 k p kn pn k4 p2)
      have nm : Nm (U 3 k) (Y 194 (401 + 5 * k + 3)) := Nmz.of nd.2.2.1 (hN.nn k kn k2)
      obtain ⟨a1, a2⟩ := pushN hp (by omega) hn nm
      obtain ⟨pp, _, pp2, pp4, _⟩ := hN.par k kn k4 k2
      have ppe : pp = p := (nI_eq (by omega) (by omega)).mp (pp2.symm.trans p2)
      subst ppe
      obtain ⟨l', P', N', g1, g2, g3, g4, g5⟩ := ih pp (l + 1) (fuel - 1) (kk + 1) (gP_X4_push 60 P (U 3 k)) (sD N l (Y 194 (401 + 5 * k + 3))) v pn (by rw [pp4]; decide) (by rw [p4]; exact kv) v3 m9 (by omega) (by omega) (by omega) a1 a2
      refine ⟨l', P', N', ?_, g2, g3, g4, ?_⟩
      · rw [← g1, show fuel = (fuel - 1) + 1 by omega, ro_push hN O kn k4 k2, p2]
        rfl
      · rw [← g5]
        have km : ¬ nI pp = -1 := nI_m1 (by omega)
        rw [E_X10_laysPath_4]
        simp only [h.kt, if_true, nh N k 2 2 rfl kn (by decide), nh N k 3 3 rfl kn (by decide), Option.bind_some, asI_I, nd.2.1, p2, if_neg km, h.f26, stx h.s26 (show l < 64 by omega) (by decide) rfl, nF_s, nh _ k 2 2 rfl kn (by decide), nI_1]
/-- the way up: by entries -/
theorem path_up {U : NodV} {V : MemV} {H : OneV} {W : WkV} {n vol t T : Nat} {x : Nat → Nat} (i : Inv U V H W n vol t T x) {μ : Nat → Nat} (m1 : ∀ k p, k < n → p < n → ¬ U 4 k = 0 → U 2 k = nI p → μ p < μ k) (m2 : ∀ k v o ko, k < n → 1 ≤ v → v < 3 → U 1 k = nI v → o < 64 → V 10 v = nI o → V 4 o = nI ko → ko < n → μ ko < μ k) {J : MJ} (h : RefL J) (Y : MI) (r : Rel none U V H W (Y 194) n) (O : OneV) {e0 : Nat} (h0 : V 9 0 = nI e0) (e064 : e0 < 64) : ∀ (f e k l fuel kk : Nat) (P : RouV) (N : RowV), At V e → V 4 e = nI k → k < n → rkc μ n k < f → l + rkc μ n k ≤ 60 → rkc μ n k + 2 ≤ fuel → P 0 1 = nI l → (∀ j, j < l → Nm (P 1 j) (N j)) → ∃ l' P' N', lp_X8_routeTo_9 60 O U V fuel kk (nI k) P = gP_X4_turnAround 60 P' ∧ P' 0 1 = nI l' ∧ l' ≤ 60 ∧ (∀ j, j < l' → Nm (P' 1 j) (N' j)) ∧ Ev T_X10_path 64 [some (mR (some 188)), none, some (mI (nI e)), some (mI (nI l)), none, none] [] (nF Y N, J) = Ev T_X10_path 64 [some (mR (some 188)), none, some (mI (nI e0)), some (mI (nI l')), none, none] [] (nF Y N', J) := by
  have hN := i.N
  have hM := i.M
  have n60 := hN.n60
  have y94 : ∀ N, nF Y N 194 = Y 194 := fun N => nF_o Y N (by decide)
  have rq : ∀ (e : Nat), e < 64 → (∀ v, v < 3 → ¬ V 9 v = nI e) → rootQ (Y 194) (nI e) = none := fun e he hv => fst_no (fun v _ hv3 => by
    rw [r.B.rt v (by omega)]
    simpa using hv v (by omega))
  have its' : ∀ (N : RowV) (e fi : Nat) (z : Int32), z = nI fi → e < 64 → fi < 9 → M_X10_its [mR (some 188), mI (nI e), mI z] (nF Y N, J) = some (some (mI (Y 194 (701 + 9 * e + fi))), (nF Y N, J)) := fun N e fi z hz he hf => by
    rw [w_its h _ fi hz (by omega) hf, y94]
  have r9 : ∀ v w e, v < 3 → w < 3 → e < 64 → V 9 v = nI e → V 9 w = nI e → v = w := fun v w e hv hw he q1 q2 => by
    rcases hM.rt v hv with ⟨z, _⟩ | ⟨vv, r', a1, a2, a3, a4, a5⟩
    · rw [z] at q1; exact absurd q1.symm (nI_m1 (by omega))
    rcases hM.rt w hw with ⟨z, _⟩ | ⟨ww, r'', b1, b2, b3, b4, b5⟩
    · rw [z] at q2; exact absurd q2.symm (nI_m1 (by omega))
    have x1 : r' = e := (nI_eq (by omega) (by omega)).mp (a2.symm.trans q1)
    have x2 : r'' = e := (nI_eq (by omega) (by omega)).mp (b2.symm.trans q2)
    subst x1
    subst x2
    obtain ⟨s, s1, s2, _, _, s5⟩ := hN.rts v vv
    obtain ⟨s', s1', s2', _, _, s5'⟩ := hN.rts w ww
    have : s = s' := (nI_eq (by omega) (by omega)).mp (s2.symm.trans (a5.symm.trans (b5.trans s2')))
    subst this
    exact (nI_eq (by omega) (by omega)).mp (s5.symm.trans s5')
  -- a step by a name
  have step : ∀ (N : RowV) (e l p : Nat), e < 64 → ¬ V 1 e = 0 → (∀ v, v < 3 → ¬ V 9 v = nI e) → V 2 e = nI p → l < 64 → Ev T_X10_path 64 [some (mR (some 188)), none, some (mI (nI e)), some (mI (nI l)), none, none] [] (nF Y N, J) = Ev T_X10_path 64 [some (mR (some 188)), none, some (mI (nI p)), some (mI (nI (l + 1))), none, none] [] (nF Y (sD N l (Y 194 (701 + 9 * e + 2))), J) := fun N e l p e64 e1 nr e2 l64 => by
    rw [E_X10_path_64]
    have no1 : ¬ (-1 : Int32) = 0 := by decide
    simp only [h.kt, if_true, w_rootOf h, y94, rq e e64 nr, oI, Option.bind_some, asI_I, if_neg no1, h.f26, its' N e 2 2 rfl e64 (by decide), stx h.s26 l64 (by decide) rfl, nF_s, its' _ e 1 1 rfl e64 (by decide), (r.B.en e e64 e1).1, e2, nI_1]
  intro f
  induction f with
  | zero => intro e k l fuel kk P N _ _ _ hr; omega
  | succ f ih =>
    intro e k l fuel kk P N eA e4 kn hr hl hf hp hn
    have e64 := eA.1
    have e0' : ¬ V 1 e = 0 := by rw [eA.2.1]; exact i10
    by_cases e2 : V 2 e = -1
    · obtain ⟨v, rn, vv, v3, hv9, rnn, rn4, _, rk4, rk2, rkv⟩ := hM.rn hN e64 eA.2.1 e2
      have rk' : rn = k := (nI_eq (by omega) (by omega)).mp (rn4.symm.trans e4)
      subst rk'
      have k4 : ¬ U 4 rn = 0 := by rw [rk4]; decide
      by_cases v0 : v = 0
      · subst v0
        have ee : e = e0 := (nI_eq (by omega) (by omega)).mp (hv9.symm.trans h0)
        subst ee
        refine ⟨l, P, N, ?_, hp, by omega, hn, rfl⟩
        rw [show fuel = (fuel - 2) + 2 by omega]
        exact ro_end hN hM O kn k4 rk2 rkv _ _ _
      · have m9 : ¬ V 9 v = -1 := by rw [hv9]; exact nI_m1 (by omega)
        obtain ⟨o, o64, ho, o1, o2, o4⟩ := hM.ov v (by omega) v3 m9
        obtain ⟨ko, kon, ko4, ko2⟩ := hN.fo o4
        have oA : At V o := ⟨o64, o1, by rw [ko4]; exact nI_m1 (by omega)⟩
        have o0 : ¬ V 1 o = 0 := by rw [o1]; exact i10
        have rk := rkc_lt (n := n) kon (m2 rn v o ko kn (by omega) v3 rkv o64 ho ko4 kon)
        obtain ⟨l', P', N', g1, g2, g3, g4, g5⟩ := ih o ko l (fuel - 1) (kk + 1) P N oA ko4 kon (by omega) (by omega) (by omega) hp hn
        refine ⟨l', P', N', ?_, g2, g3, g4, ?_⟩
        · rw [← g1, show fuel = (fuel - 1) + 1 by omega, ro_up hN O kn k4 rk2 rkv v3 o64 o0 ho, ko4]
          rfl
        · obtain ⟨p, p64, p2, _⟩ := hM.ch o o64 o1 o2
          have onr : ∀ w, w < 3 → ¬ V 9 w = nI o := fun w hw q => by
            rcases hM.rt w hw with ⟨z, _⟩ | ⟨_, r', a1, a2, _, a4, _⟩
            · rw [z] at q; exact nI_m1 (show o < 2 ^ 31 by omega) q.symm
            · have : r' = o := (nI_eq (by omega) (by omega)).mp (a2.symm.trans q)
              rw [this] at a4
              exact o2 a4
          rw [← g5, step N o l p o64 o0 onr p2 (by omega)]
          have vn0 : ¬ nI v = 0 := fun z => v0 ((nI_eq (by omega) (by omega)).mp (z.trans nI_0.symm))
          have vnm : ¬ nI v = -1 := nI_m1 (by omega)
          have e8 : (8 : Int32) + nI v = nI (8 + v) := nI_add 8 v
          have rqv : rootQ (Y 194) (nI e) = some v := fst_is (Nat.zero_le _) (by omega) (by rw [r.B.rt v v3]; simpa using hv9) (fun w _ hw => by
            rw [r.B.rt w (by omega)]
            simp only [decide_eq_false_iff_not]
            intro q
            have := r9 w v e (by omega) v3 e64 q hv9
            omega)
          rw [E_X10_path_64]
          simp only [h.kt, if_true, w_rootOf h, y94, rqv, oI, Option.bind_some, asI_I, if_neg vn0, if_neg vnm, h.f18, h.ldD _ e8 (show 8 + v < 1853 by omega), r.B.ov v v3, ho, h.f26, its' N o 2 2 rfl o64 (by decide), stx h.s26 (show l < 64 by omega) (by decide) rfl, nF_s, its' _ o 1 1 rfl o64 (by decide), (r.B.en o o64 o0).1, p2, nI_1]
    · obtain ⟨p, kp, p64, p2, p1, kpn, kp4, u2, u3, u4, _⟩ := hM.up hN e64 eA.2.1 e2 e4 kn
      have rk := rkc_lt (n := n) kpn (m1 k kp kn kpn u4 u2)
      have k2 : ¬ U 2 k = -1 := by rw [u2]; exact nI_m1 (by omega)
      have en := r.B.en e e64 e0'
      have nm : Nm (U 3 k) (Y 194 (701 + 9 * e + 2)) := by
        rw [u3]
        exact Nmz.of en.2.1 (by rw [← u3]; exact hN.nn k kn k2)
      obtain ⟨a1, a2⟩ := pushN hp (by omega) hn nm
      obtain ⟨l', P', N', g1, g2, g3, g4, g5⟩ := ih p kp (l + 1) (fuel - 1) (kk + 1) (gP_X4_push 60 P (U 3 k)) (sD N l (Y 194 (701 + 9 * e + 2))) ⟨p64, p1, by rw [kp4]; exact nI_m1 (by omega)⟩ kp4 kpn (by omega) (by omega) (by omega) a1 a2
      refine ⟨l', P', N', ?_, g2, g3, g4, ?_⟩
      · rw [← g1, show fuel = (fuel - 1) + 1 by omega, ro_push hN O kn u4 k2, u2]
        rfl
      · have enr : ∀ w, w < 3 → ¬ V 9 w = nI e := fun w hw q => by
          rcases hM.rt w hw with ⟨z, _⟩ | ⟨_, r', a1, a2, _, a4, _⟩
          · rw [z] at q; exact nI_m1 (show e < 2 ^ 31 by omega) q.symm
          · have : r' = e := (nI_eq (by omega) (by omega)).mp (a2.symm.trans q)
            rw [this] at a4
            exact e2 a4
        rw [← g5, step N e l p e64 e0' enr p2 (by omega)]
end
section
/-! A path written, on both sides. -/
/-- the class's heap while it writes -/
def cF (I : MI) (o : Int32) (B : RowV) : MI := fun a j => if a = 185 then B j else if a = 0 ∧ j = 11 then o else I a j
/-- the reference's heap while it writes -/
def oF (Y : MI) (o : Int32) (C : RowV) : MI := fun a j => if a = 197 then C j else if a = 188 ∧ j = 25 then o else Y a j
theorem cF_B (I : MI) (o : Int32) (B : RowV) : cF I o B 185 = B := by
  funext j
  unfold cF
  rw [if_pos rfl]
theorem cF_c (I : MI) (o : Int32) (B : RowV) : cF I o B 0 11 = o := by
  unfold cF
  rw [if_neg (by decide), if_pos ⟨rfl, rfl⟩]
theorem cF_k (I : MI) (o : Int32) (B : RowV) {k : Nat} (h : k ≠ 11) : cF I o B 0 k = I 0 k := by
  unfold cF
  rw [if_neg (by decide), if_neg (fun q => h q.2)]
theorem cF_o (I : MI) (o : Int32) (B : RowV) {a : Nat} (h1 : a ≠ 0) (h2 : a ≠ 185) : cF I o B a = I a := by
  funext j
  unfold cF
  rw [if_neg h2, if_neg (fun q => h1 q.1)]
theorem cF_w (I : MI) (B : RowV) {o : Nat} (ho : o < 300) (x : Int32) : wrb (cF I (nI o) B) x = cF I (nI (o + 1)) (sD B o x) := by
  unfold wrb
  rw [cF_c, if_neg (nI_pos (by omega)), if_neg (show ¬ (300 : Int32) ≤ nI o from nI_ge (b := 300) ho (by decide)), ix_nI (by omega), nI_1]
  funext a j
  unfold up2 cF sD
  by_cases h : a = 0 ∧ j = 11
  · rw [if_pos h, if_neg (by omega), if_pos h]
  · rw [if_neg h]
    by_cases h2 : a = 185
    · subst h2
      simp
    · simp [h2, h]
theorem oF_C (Y : MI) (o : Int32) (C : RowV) : oF Y o C 197 = C := by
  funext j
  unfold oF
  rw [if_pos rfl]
theorem oF_c (Y : MI) (o : Int32) (C : RowV) : oF Y o C 188 25 = o := by
  unfold oF
  rw [if_neg (by decide), if_pos ⟨rfl, rfl⟩]
theorem oF_k (Y : MI) (o : Int32) (C : RowV) {k : Nat} (h : k ≠ 25) : oF Y o C 188 k = Y 188 k := by
  unfold oF
  rw [if_neg (by decide), if_neg (fun q => h q.2)]
theorem oF_o (Y : MI) (o : Int32) (C : RowV) {a : Nat} (h1 : a ≠ 188) (h2 : a ≠ 197) : oF Y o C a = Y a := by
  funext j
  unfold oF
  rw [if_neg h2, if_neg (fun q => h1 q.1)]
theorem oF_s (Y : MI) (o : Int32) (C : RowV) (i : Nat) (v : Int32) : up2 (oF Y o C) 197 i v = oF Y o (sD C i v) := by
  funext a j
  unfold up2 oF sD
  by_cases h : a = 197
  · subst h
    simp
  · simp [h]
theorem oF_sc (Y : MI) (o : Int32) (C : RowV) (v : Int32) : up2 (oF Y o C) 188 25 v = oF Y v C := by
  funext a j
  unfold up2 oF
  by_cases h : a = 188 ∧ j = 25
  · rw [if_pos h, if_neg (by omega), if_pos h]
  · simp [h]
theorem oF_id (Y : MI) : oF Y (Y 188 25) (Y 197) = Y := by
  funext a j
  unfold oF
  by_cases h : a = 197
  · rw [if_pos h, h]
  · rw [if_neg h]
    by_cases h3 : a = 188 ∧ j = 25
    · rw [if_pos h3, h3.1, h3.2]
    · rw [if_neg h3]
theorem RefL.f24 {J : MJ} (h : RefL J) (I : MI) : fR (I, J) 10 188 24 = some (some 197) := by rw [fR_ok 24 h.k, h.r24]
theorem w_writes {J : MJ} (h : RefL J) (Y : MI) (C : RowV) {o : Nat} (ho : o < 300) (x : Int32) : M_X10_writes [mR (some 188), mI x] (oF Y (nI o) C, J) = some (none, (oF Y (nI (o + 1)) (sD C o x), J)) := by
  rw [E_X10_writes]
  simp only [h.f24, h.fi, oF_c, Option.bind_some, stx h.s24 ho (by decide) rfl, oF_s, h.wi, oF_sc, nI_1]
/-- both have written the same -/
def Agr (B C : RowV) (o : Nat) : Prop := ∀ j, j < o → B j = C j
theorem Agr.w {B C : RowV} {o : Nat} (h : Agr B C o) (x : Int32) : Agr (sD B o x) (sD C o x) (o + 1) := by
  intro j hj
  by_cases z : j = o
  · rw [z, sD_s, sD_s]
  · rw [sD_n _ _ z, sD_n _ _ z]
    exact h j (by omega)
theorem name_loop {J : MJ} (h : RefL J) (I Y : MI) {a b c d len kx : Nat} (nl : NmL a b c d) (hlen : len = if b = 0 then 1 else if c = 0 then 2 else if d = 0 then 3 else 4) (k64 : kx < 64) (hk : Y 198 kx = nI (b27 a b c d)) : ∀ (m j o : Nat) (B C : RowV), j + m = 4 → o + m ≤ 300 → Agr B C o → ∃ o' B' C', itr (wrl (nI (pck a b c d))) j m (cF I (nI o) B) = cF I (nI o') B' ∧ o' ≤ o + m ∧ Agr B' C' o' ∧ Ev T_X10_path 150 [some (mR (some 188)), none, none, none, some (mI (nI kx)), some (mI (nI (min j len)))] [] (oF Y (nI o) C, J) = Ev T_X10_path 136 [some (mR (some 188)), none, none, none, some (mI (nI kx + (-1))), none] [] (oF Y (nI o') C', J) := by
  have l4 : len ≤ 4 := by rw [hlen]; split; omega; split; omega; split <;> omega
  have nl' := nl
  obtain ⟨n1, n2, n3, n4, n5, n6, n7⟩ := nl
  have ld198 : ∀ o C, ld (oF Y o C, J) 11 198 (nI kx) = some (nI (b27 a b c d)) := fun o C => by
    rw [ldx h.s26 k64 (by decide) rfl, oF_o _ _ _ (by decide) (by decide), hk]
  have lts : ∀ s, M_X10_lettersOf [mI (nI (b27 a b c d))] s = some (some (mI (nI len)), s) := fun s => by
    obtain ⟨len', w1, w2⟩ := w_lettersOf nl' s
    rw [w1, w2, hlen]
  intro m
  induction m with
  | zero =>
    intro j o B C hj ho ag
    refine ⟨o, B, C, rfl, by omega, ag, ?_⟩
    rw [show min j len = len by omega, E_X10_path_150]
    simp only [h.f26, Option.bind_some, ld198, lts, asI_I, if_pos (Int32.le_refl (nI len))]
  | succ m ih =>
    intro j o B C hj ho ag
    have e : itr (wrl (nI (pck a b c d))) j (m + 1) (cF I (nI o) B) = itr (wrl (nI (pck a b c d))) (j + 1) m (wrl (nI (pck a b c d)) j (cF I (nI o) B)) := rfl
    rw [e]
    have lq := let_c nl' (show j < 4 by omega)
    by_cases jl : j < len
    · have dg1 : 1 ≤ dg a b c d j ∧ dg a b c d j ≤ 26 := by
        rw [hlen] at jl
        unfold dg
        rcases (show j = 0 ∨ j = 1 ∨ j = 2 ∨ j = 3 by omega) with z | z | z | z
        · subst z; rw [if_pos rfl]; omega
        · subst z
          rw [if_neg (by decide), if_pos rfl]
          by_cases b0 : b = 0
          · rw [if_pos b0] at jl; omega
          · omega
        · subst z
          rw [if_neg (by decide), if_neg (by decide), if_pos rfl]
          by_cases b0 : b = 0
          · rw [if_pos b0] at jl; omega
          · rw [if_neg b0] at jl
            by_cases c0 : c = 0
            · rw [if_pos c0] at jl; omega
            · omega
        · subst z
          rw [if_neg (by decide), if_neg (by decide), if_neg (by decide)]
          by_cases b0 : b = 0
          · rw [if_pos b0] at jl; omega
          · rw [if_neg b0] at jl
            by_cases c0 : c = 0
            · rw [if_pos c0] at jl; omega
            · rw [if_neg c0] at jl
              by_cases d0 : d = 0
              · rw [if_pos d0] at jl; omega
              · omega
      have w : wrl (nI (pck a b c d)) j (cF I (nI o) B) = cF I (nI (o + 1)) (sD B o (nI (96 + dg a b c d j))) := by
        unfold wrl
        rw [lq, if_neg (nI_nle (show 0 < dg a b c d j by omega) (by omega)), cF_w I B (by omega)]
        congr 2
        rw [show (97 : Int32) = nI 97 from rfl, nI_add, show (1 : Int32) = nI 1 from rfl, nI_sub (by omega)]
        congr 1
        omega
      rw [w]
      obtain ⟨o', B', C', g1, g2, g3, g4⟩ := ih (j + 1) (o + 1) _ _ (by omega) (by omega) (ag.w (nI (96 + dg a b c d j)))
      refine ⟨o', B', C', g1, by omega, g3, ?_⟩
      rw [← g4, show min j len = j by omega, show min (j + 1) len = j + 1 by omega, E_X10_path_150]
      simp only [h.f26, Option.bind_some, ld198, lts, asI_I, if_neg (nI_ge jl (by omega)), w_letterNm nl' (show j < 4 by omega), h.kt, if_true, show (96 : Int32) + nI (dg a b c d j) = nI (96 + dg a b c d j) from nI_add 96 _, w_writes h Y C (show o < 300 by omega), asV_n, nI_1]
    · have dg0 : dg a b c d j = 0 := by
        rw [hlen] at jl
        unfold dg
        rcases (show j = 0 ∨ j = 1 ∨ j = 2 ∨ j = 3 by omega) with z | z | z | z
        · subst z
          exfalso
          apply jl
          split
          · omega
          · split
            · omega
            · split <;> omega
        · subst z
          rw [if_neg (by decide), if_pos rfl]
          by_cases b0 : b = 0
          · exact b0
          · exfalso
            apply jl
            rw [if_neg b0]
            split
            · omega
            · split <;> omega
        · subst z
          rw [if_neg (by decide), if_neg (by decide), if_pos rfl]
          by_cases c0 : c = 0
          · exact c0
          · exfalso
            apply jl
            rw [if_neg (fun q => c0 (n6 q)), if_neg c0]
            split <;> omega
        · subst z
          rw [if_neg (by decide), if_neg (by decide), if_neg (by decide)]
          by_cases d0 : d = 0
          · exact d0
          · exfalso
            apply jl
            rw [if_neg (fun q => d0 (n7 (n6 q))), if_neg (fun q => d0 (n7 q)), if_neg d0]
            omega
      have w : wrl (nI (pck a b c d)) j (cF I (nI o) B) = cF I (nI o) B := by
        unfold wrl
        rw [lq, dg0, if_pos (show nI 0 ≤ 0 by decide)]
      rw [w]
      obtain ⟨o', B', C', g1, g2, g3, g4⟩ := ih (j + 1) o B C (by omega) (by omega) ag
      refine ⟨o', B', C', g1, by omega, g3, ?_⟩
      rw [← g4, show min j len = len by omega, show min (j + 1) len = len by omega]
theorem write_loop {J : MJ} (h : RefL J) (I Y : MI) {l : Nat} (l60 : l ≤ 60) {R : RouV} {N : RowV} (hR : vw 2 I 183 = R) (hR1 : R 0 1 = nI l) (hn : ∀ j, j < l → Nm (R 1 j) (N (l - 1 - j))) (yN : Y 198 = N) : ∀ (m j o : Nat) (B C : RowV), j + m = l → o + 5 * m ≤ 300 → Agr B C o → ∃ o' B' C', itr (fun k I => wrs 183 60 k I) j m (cF I (nI o) B) = cF I (nI o') B' ∧ o' ≤ o + 5 * m ∧ Agr B' C' o' ∧ Ev T_X10_path 136 [some (mR (some 188)), none, none, none, some (mI (nI m - 1)), none] [] (oF Y (nI o) C, J) = some (some (mI (nI o')), (oF Y (nI o') C', J)) := by
  intro m
  induction m with
  | zero =>
    intro j o B C hj ho ag
    refine ⟨o, B, C, rfl, by omega, ag, ?_⟩
    rw [E_X10_path_136, if_pos (show nI 0 - 1 < 0 by decide)]
    simp only [h.fi, oF_c, Option.bind_some]
  | succ m ih =>
    intro j o B C hj ho ag
    have e : itr (fun k I => wrs 183 60 k I) j (m + 1) (cF I (nI o) B) = itr (fun k I => wrs 183 60 k I) (j + 1) m (wrs 183 60 j (cF I (nI o) B)) := rfl
    obtain ⟨a, b, c, d, nl, x1, x2⟩ := hn j (by omega)
    have em : nI (m + 1) - 1 = nI m := nI_sub (b := 1) (by omega)
    have w1 : wrs 183 60 j (cF I (nI o) B) = itr (wrl (nI (pck a b c d))) 0 4 (cF I (nI (o + 1)) (sD B o 47)) := by
      unfold wrs wrn
      rw [cF_w I B (by omega)]
      have v : vw 2 (cF I (nI (o + 1)) (sD B o 47)) 183 = R := by
        rw [← hR]
        exact vw_fr (fun x a b => cF_o _ _ _ (by omega) (by omega))
      rw [v, stepAt_k hR1 (by omega) l60 (by decide), x1]
    obtain ⟨o1, B1, C1, g1, g2, g3, g4⟩ := name_loop h I Y nl rfl (show m < 64 by omega) (by rw [yN, show m = l - 1 - j by omega]; exact x2) 4 0 (o + 1) (sD B o 47) (sD C o 47) rfl (by omega) (ag.w 47)
    obtain ⟨o', B', C', q1, q2, q3, q4⟩ := ih (j + 1) o1 B1 C1 (by omega) (by omega) g3
    refine ⟨o', B', C', by rw [e, w1, g1]; exact q1, by omega, q3, ?_⟩
    have es : nI m + (-1) = nI m - 1 := by
      apply Int32.toInt_inj.mp
      rw [Int32.toInt_sub, Int32.toInt_add]
      rfl
    rw [em, E_X10_path_136, if_neg (nI_pos (by omega))]
    simp only [h.kt, if_true, w_writes h Y C (show o < 300 by omega), Option.bind_some, asV_n]
    rw [show min 0 _ = 0 from Nat.zero_min _, show (nI 0) = 0 from rfl] at g4
    rw [g4, es]
    exact q4
end
section
/-! The path of a handle, on both sides. -/
/-- what a written path leaves -/
theorem St.pth {I I' : MI} {J : MJ} {T B0 : Nat} (h : St I J T B0) (h30 : T + 10001 ≤ 1000000000) (s4 : S4 I') (o : ∀ x, x ≠ 0 → x ≠ 183 → x ≠ 184 → x ≠ 185 → x ≠ 188 → x ≠ 197 → x ≠ 198 → I' x = I x) (k0 : ∀ j, j ≠ 11 → I' 0 j = I 0 j) (k : ∀ j, j ≠ 25 → I' 188 j = I 188 j) : St I' J (T + 10001) B0 := by
  have oo : ∀ {x}, x < 183 ∨ 186 ≤ x → x ≠ 0 → x ≠ 188 → x ≠ 197 → x ≠ 198 → I' x = I x := fun {x} a b c d e => o x b (by omega) (by omega) (by omega) c d e
  obtain ⟨L, s7⟩ := h.2.2.2.2.2.2.2.1
  exact h.sm (h.2.1.fr (oo (by decide) (by decide) (by decide) (by decide) (by decide)) (oo (by decide) (by decide) (by decide) (by decide) (by decide)) (k 1 (by decide)) (oo (by decide) (by decide) (by decide) (by decide) (by decide))) (h.2.2.1.fr (oo (by decide) (by decide) (by decide) (by decide) (by decide)) (k 6 (by decide)) (k 7 (by decide))) (h.2.2.2.1.fr (oo (by decide) (by decide) (by decide) (by decide) (by decide)) (oo (by decide) (by decide) (by decide) (by decide) (by decide))) s4 (h.2.2.2.2.2.1.fr (k0 14 (by decide)) (oo (by decide) (by decide) (by decide) (by decide) (by decide)) (k 32 (by decide)) (oo (by decide) (by decide) (by decide) (by decide) (by decide))) ⟨L, s7.fr (by rw [oo (x := 69) (by decide) (by decide) (by decide) (by decide) (by decide)]) (by rw [oo (x := 69) (by decide) (by decide) (by decide) (by decide) (by decide)]) (fun x a b => oo (by omega) (by omega) (by omega) (by omega) (by omega)) (k 36 (by decide)) (k 37 (by decide)) (oo (by decide) (by decide) (by decide) (by decide) (by decide)) (oo (by decide) (by decide) (by decide) (by decide) (by decide))⟩ (h.2.2.2.2.2.2.2.2.1.fr (k 20 (by decide)) (k 21 (by decide))) (fun x a _ _ b _ _ => oo (by omega) b (by omega) (by omega) (by omega)) (oo (by decide) (by decide) (by decide) (by decide) (by decide)) (fun _ => ⟨by rw [oo (x := 69) (by decide) (by decide) (by decide) (by decide) (by decide)], by rw [oo (x := 69) (by decide) (by decide) (by decide) (by decide) (by decide)]⟩) (fun x a => oo (by omega) (by omega) (by omega) (by omega) (by omega)) (fun j a => k j (by omega)) (fun j _ => by rw [oo (x := 194) (by decide) (by decide) (by decide) (by decide) (by decide)]) (oo (by decide) (by decide) (by decide) (by decide) (by decide)) (by omega) h30
theorem pthR_0 (I : MI) {e : Int32} (hx : q_X2_exists (vw 6 I 1) (q_X1_nodeOf (vw 12 I 17) e) = 0) : pthR I e 0 1 = nI 0 := by
  unfold pthR
  have e1 : gP_X8_routeTo 60 (vw 1 I 16) (vw 2 I 183) (vw 6 I 1) (vw 12 I 17) (q_X1_nodeOf (vw 12 I 17) e) = gP_X4_turnAround 60 (gP_X4_clear 60 (vw 2 I 183)) := by
    show (if (q_X2_exists (vw 6 I 1) (q_X1_nodeOf (vw 12 I 17) e)) = 0 then _ else _) = _
    rw [if_pos hx]
  rw [e1]
  exact (turn_q (l := 0) (by unfold gP_X4_clear; rw [uv_s]; rfl) (by decide)).1
theorem P_path {I : MI} {J : MJ} {T B0 : Nat} (h : St I J T B0) (h30 : T + 10001 ≤ 1000000000) (x : Int32) : Pair I J T B0 (M_X9_path [mR (some 0), mI x]) (M_X10_path [mR (some 188), mI x]) := by
  have rl := h.1.2
  have ex1 : q_X2_exists (vw 6 I 1) (-1) = 0 := by
    unfold q_X2_exists
    rw [if_pos (by decide)]
  have nm1 : q_X1_nodeOf (vw 12 I 17) (-1) = -1 := by
    unfold q_X1_nodeOf q_X1_isEntry
    rw [if_pos (show (-1 : Int32) < 0 by decide), if_pos rfl]
  have none' : q_X8_handleAt (vw 1 I 16) (vw 1 I 29) x = -1 → M_X9_path [mR (some 0), mI x] (I, J) = some (some (mI (-1)), (I, J)) := fun q => by
    rw [u_path h.1.1 I x (n := 0) (by rw [q]; exact pthR_0 I (by rw [nm1]; exact ex1)) (by decide), if_pos q]
  rcases h.2.2.2.2.2.2.2.2.2 with ⟨vol, ad, p, q, hv, td, ⟨nn, t, i, c, r⟩, hs⟩ | u
  · have inr : M_X10_isIn [mL (Int32.toInt64 x), mL 0, mL 5] = fun s => some (some (mI (if x < 0 then 0 else if 5 < x then 0 else 1)), s) := by
      funext s
      exact w_isIn x 0 5 s rfl rfl
    by_cases a : x < 0
    · refine Pair.ask h h30 (none' (by unfold q_X8_handleAt; rw [if_pos a])) (w := -1) ?_ rfl
      rw [E_X10_path]
      simp only [rl.fz, Option.bind_some, if_neg td, inr, asI_I, if_pos a, if_true]
    by_cases b : (6 : Int32) ≤ x
    · refine Pair.ask h h30 (none' (by unfold q_X8_handleAt; rw [if_neg a, if_pos b])) (w := -1) ?_ rfl
      rw [E_X10_path]
      simp only [rl.fz, Option.bind_some, if_neg td, inr, asI_I, if_neg a, if_pos (five.mpr b), if_true]
    have l6 := lt6 a b
    have hx : x = nI (ix x) := nI_ix a
    generalize hk : ix x = k at l6 hx
    subst hx
    have hA : q_X8_handleAt (vw 1 I 16) (vw 1 I 29) (nI k) = vw 1 I 29 0 k := by
      unfold q_X8_handleAt
      rw [if_neg a, if_neg b, ix_nI (by omega)]
    have e11 : (11 : Int32) + nI k = nI (11 + k) := nI_add 11 k
    have d11 : I 194 (11 + k) = vw 1 I 29 0 k := r.B.ha k l6
    rcases i.H k l6 with z | ⟨e, e64, z1, z2, z3⟩
    · refine Pair.ask h h30 (none' (by rw [hA]; exact z)) (w := -1) ?_ rfl
      rw [E_X10_path]
      simp only [rl.fz, Option.bind_some, if_neg td, inr, asI_I, if_neg a, if_neg (fun z => b (five.mp z)), if_neg i10, rl.f18, rl.ldD _ e11 (show 11 + k < 1853 by omega), d11, z, if_true]
    · have en := r.B.en e e64 z2
      have gq : q_X1_isGone (vw 12 I 17) (nI e) = if vw 12 I 17 1 e = 2 then 1 else 0 := by
        unfold q_X1_isGone
        rw [Inv.isE e64 z2, if_neg i10, ix_nI (by omega)]
      have em : ¬ nI e = -1 := nI_m1 (by omega)
      rcases i.M.st e e64 with s | s | s
      · exact absurd s z2
      · -- an entry that is there
        have eA : At (vw 12 I 17) e := ⟨e64, s, z3⟩
        have ng : ¬ (1 : Int32) = 2 := by decide
        rw [s, if_neg ng] at gq
        obtain ⟨kn', knn, ke, k4⟩ := i.M.nk i.N eA
        obtain ⟨μ, m1, m2⟩ := ex_rank i.N i.M
        obtain ⟨e0, e064, h0⟩ := i.M.r0
        have n60 := i.N.n60
        have no := nodeOf_q (V := vw 12 I 17) e64 z2
        -- the class's route first
        have rk := rkc_le μ nn kn'
        obtain ⟨l, P', N0, g1, g2, g3, g4, _⟩ := path_up i m1 m2 rl I r (vw 1 I 16) h0 e064 61 e kn' 0 120 0 (gP_X4_clear 60 (vw 2 I 183)) (I 198) eA ke knn (by omega) (by omega) (by omega) (by unfold gP_X4_clear; rw [uv_s]; rfl) (fun j hj => by omega)
        have pR : pthR I (nI e) = gP_X4_turnAround 60 P' := by
          unfold pthR
          rw [no, ke]
          exact g1
        obtain ⟨t1, t2⟩ := turn_q g2 g3
        have uE := u_path h.1.1 I (nI k) (n := l) (by rw [hA, z1, pR]; exact t1) (by omega)
        rw [hA, z1, if_neg em, gq, if_pos rfl, pR] at uE
        -- the heaps
        have st0 : pt (up2 I 0 11 0) 183 (gP_X4_turnAround 60 P') = cF (pt I 183 (gP_X4_turnAround 60 P')) (nI 0) (I 185) := by
          funext a j
          unfold cF
          by_cases y : a = 185
          · rw [if_pos y, y, pt_out (by omega), up2_o _ _ _ (by decide)]
          · rw [if_neg y]
            by_cases w : a = 0 ∧ j = 11
            · rw [if_pos w, w.1, w.2, pt_out (by omega), up2_s]
              rfl
            · rw [if_neg w]
              unfold pt
              split
              · rfl
              · unfold up2
                rw [if_neg w]
        -- both write, at any heap of the reference's that has the names
        have run : ∀ (Y : MI) (N : RowV), Y 198 = N → (∀ j, j < l → Nm (P' 1 j) (N j)) → ∃ o' B' C', wrr (pt (up2 I 0 11 0) 183 (gP_X4_turnAround 60 P')) 183 60 l = cF (pt I 183 (gP_X4_turnAround 60 P')) (nI o') B' ∧ o' ≤ 300 ∧ Agr B' C' o' ∧ (Ev T_X10_path 136 [some (mR (some 188)), none, none, none, some (mI (nI l - 1)), none] [] (if l = 0 then oF Y (nI 1) (sD (Y 197) 0 47) else oF Y (nI 0) (Y 197), J) = some (some (mI (nI o')), (oF Y (nI o') C', J))) := by
          intro Y N yN hn
          have hn' : ∀ j, j < l → Nm (gP_X4_turnAround 60 P' 1 j) (N (l - 1 - j)) := fun j hj => by
            rw [t2 j hj]
            exact hn _ (by omega)
          have ag0 : Agr (I 185) (Y 197) 0 := fun j hj => by omega
          by_cases l0 : l = 0
          · obtain ⟨o', B', C', q1, q2, q3, q4⟩ := write_loop rl (pt I 183 (gP_X4_turnAround 60 P')) Y g3 (vw_pt _ _ _) t1 hn' yN l 0 1 (sD (I 185) 0 47) (sD (Y 197) 0 47) (by omega) (by omega) (ag0.w 47)
            refine ⟨o', B', C', ?_, by omega, q3, by rw [if_pos l0]; exact q4⟩
            unfold wrr
            rw [if_pos l0, st0, cF_w _ _ (by decide)]
            exact q1
          · obtain ⟨o', B', C', q1, q2, q3, q4⟩ := write_loop rl (pt I 183 (gP_X4_turnAround 60 P')) Y g3 (vw_pt _ _ _) t1 hn' yN l 0 0 (I 185) (Y 197) (by omega) (by omega) ag0
            refine ⟨o', B', C', ?_, by omega, q3, by rw [if_neg l0]; exact q4⟩
            unfold wrr
            rw [if_neg l0, st0]
            exact q1
        -- the class's end
        obtain ⟨o1, B1, _, c1, c2, _, _⟩ := run (nF I N0) N0 (nF_N _ _) g4
        have c1' := c1
        rw [c1] at uE
        -- the reference, where the class has ended
        have xo : ∀ y, y ≠ 0 → y ≠ 183 → y ≠ 184 → y ≠ 185 → cF (pt I 183 (gP_X4_turnAround 60 P')) (nI o1) B1 y = I y := fun y q1 q2 q3 q4 => by rw [cF_o _ _ _ q1 q4, pt_out (by omega)]
        have x0 : ∀ j, j ≠ 11 → cF (pt I 183 (gP_X4_turnAround 60 P')) (nI o1) B1 0 j = I 0 j := fun j hj => by rw [cF_k _ _ _ hj, pt_out (by omega)]
        have x11 : cF (pt I 183 (gP_X4_turnAround 60 P')) (nI o1) B1 0 11 = nI o1 := cF_c _ _ _
        have x185 : cF (pt I 183 (gP_X4_turnAround 60 P')) (nI o1) B1 185 = B1 := cF_B _ _ _
        rw [x11] at uE
        generalize cF (pt I 183 (gP_X4_turnAround 60 P')) (nI o1) B1 = X1 at uE xo x0 x11 x185 c1'
        have y94 : up2 X1 188 25 0 194 = I 194 := by rw [up2_o _ _ _ (by decide), xo _ (by decide) (by decide) (by decide) (by decide)]
        obtain ⟨l2, P2, N2, a1, a2, a3, a4, a5⟩ := path_up i m1 m2 rl (up2 X1 188 25 0) (by rw [y94]; exact r) (vw 1 I 16) h0 e064 61 e kn' 0 120 0 (gP_X4_clear 60 (vw 2 I 183)) (up2 X1 188 25 0 198) eA ke knn (by omega) (by omega) (by omega) (by unfold gP_X4_clear; rw [uv_s]; rfl) (fun j hj => by omega)
        rw [nF_id] at a5
        obtain ⟨t3, t4⟩ := turn_q a2 a3
        have tt : gP_X4_turnAround 60 P2 = gP_X4_turnAround 60 P' := a1.symm.trans g1
        have ll : l2 = l := (nI_eq (by omega) (by omega)).mp (t3.symm.trans (by rw [tt]; exact t1))
        subst ll
        obtain ⟨o', B', C', d1, d2, d3, d4⟩ := run (nF (up2 X1 188 25 0) N2) N2 (nF_N _ _) (fun j hj => by
          have w1 := t2 (l2 - 1 - j) (by omega)
          have w2 := t4 (l2 - 1 - j) (by omega)
          rw [tt] at w2
          rw [show l2 - 1 - (l2 - 1 - j) = j by omega] at w1 w2
          rw [← w1, w2]
          exact a4 j hj)
        have same : X1 = cF (pt I 183 (gP_X4_turnAround 60 P')) (nI o') B' := c1'.symm.trans d1
        have oo : o1 = o' := (nI_eq (by omega) (by omega)).mp (x11.symm.trans (by rw [same]; exact cF_c _ _ _))
        have bb : B1 = B' := by rw [← x185, same]; exact cF_B _ _ _
        subst oo bb
        have f25 : nF (up2 X1 188 25 0) N2 188 25 = nI 0 := by rw [nF_o _ _ (by decide), up2_s]; rfl
        have z97 : nF (up2 X1 188 25 0) N2 = oF (nF (up2 X1 188 25 0) N2) (nI 0) (nF (up2 X1 188 25 0) N2 197) := by
          have := oF_id (nF (up2 X1 188 25 0) N2)
          rw [f25] at this
          exact this.symm
        have rq0 : rootQ (I 194) (nI e0) = some 0 := fst_is (Nat.zero_le _) (by omega) (by rw [r.B.rt 0 (by decide)]; simpa using h0) (fun w _ hw => by omega)
        have n94 : nF (up2 X1 188 25 0) N2 194 = I 194 := by rw [nF_o _ _ (by decide), y94]
        have fin : Ev T_X10_path 64 [some (mR (some 188)), none, some (mI (nI e0)), some (mI (nI l2)), none, none] [] (nF (up2 X1 188 25 0) N2, J) = some (some (mI (nI o1)), (oF (nF (up2 X1 188 25 0) N2) (nI o1) C', J)) := by
          rw [E_X10_path_64]
          simp only [rl.kt, if_true, w_rootOf rl, n94, rq0, oI, Option.bind_some, asI_I, show nI 0 = 0 from rfl]
          by_cases l0 : l2 = 0
          · rw [if_pos l0] at d4
            rw [if_pos (show nI l2 = 0 by rw [l0]; rfl)]
            have ww := w_writes rl (nF (up2 X1 188 25 0) N2) (nF (up2 X1 188 25 0) N2 197) (o := 0) (by decide) 47
            rw [← z97] at ww
            rw [ww]
            simp only [Option.bind_some, asV_n]
            exact d4
          · rw [if_neg l0] at d4
            rw [if_neg (fun z => l0 ((nI_eq (by omega) (by omega)).mp (z.trans nI_0.symm)))]
            rw [← z97] at d4
            exact d4
        refine ⟨nI o1, (X1, J), oF (nF (up2 X1 188 25 0) N2) (nI o1) C', J, uE, ?_, h.pth h30 ?_ (fun y q0 q1 q2 q3 q4 q5 q6 => ?_) (fun j hj => ?_) (fun j hj => ?_)⟩
        · have td' : ¬ bz (X1 188 13) = 0 := by rw [xo 188 (by decide) (by decide) (by decide) (by decide)]; exact td
          have x94 : X1 194 = I 194 := xo _ (by decide) (by decide) (by decide) (by decide)
          have d8 : ¬ I 194 (701 + 9 * e + 8) = 1 := by rw [en.2.2.2.2.2.2.2, s, if_neg ng]; decide
          rw [E_X10_path]
          simp only [rl.fz, Option.bind_some, if_neg td', inr, asI_I, if_neg a, if_neg (fun z => b (five.mp z)), if_neg i10, rl.f18, rl.ldD _ e11 (show 11 + k < 1853 by omega), x94, d11, z1, if_neg em, rl.wi, rl.kt, if_true, w_its rl _ 8 (show (8 : Int32) = nI 8 from rfl) (show e < 128 by omega) (by decide), y94, if_neg d8]
          rw [show (nI 0) = 0 from rfl] at a5
          rw [a5]
          exact fin
        · refine ⟨o1, d2, ?_, ?_, fun j hj => ?_⟩
          · rw [oF_o _ _ _ (by decide) (by decide), nF_o _ _ (by decide), up2_o _ _ _ (by decide)]; exact x11
          · exact oF_c _ _ _
          · rw [oF_C, oF_o _ _ _ (by decide) (by decide), nF_o _ _ (by decide), up2_o _ _ _ (by decide), x185]
            exact d3 j hj
        · rw [oF_o _ _ _ q4 q5, nF_o _ _ q6, up2_o _ _ _ q4, xo y q0 q1 q2 q3]
        · rw [oF_o _ _ _ (by decide) (by decide), nF_o _ _ (by decide), up2_o _ _ _ (by decide), x0 j hj]
        · rw [oF_k _ _ _ hj, nF_o _ _ (by decide), up2_k _ _ _ hj, xo 188 (by decide) (by decide) (by decide) (by decide)]
      · -- one that is gone
        have ng : ¬ (1 : Int32) = 0 := i10
        rw [s, if_pos rfl] at gq
        obtain ⟨_, kg, kgn, kg4, ku⟩ := i.M.go e e64 s
        have uE := u_path h.1.1 I (nI k) (n := 0) (by
          rw [hA, z1]
          refine pthR_0 I ?_
          rw [nodeOf_q e64 z2, kg4, i.N.ex kgn, if_pos ku]) (by decide)
        rw [hA, z1, if_neg em, gq, if_neg ng] at uE
        refine ⟨0, _, up2 (up2 I 0 11 0) 188 25 0, J, uE, ?_, h.pth h30 ?_ (fun y a _ _ _ b _ _ => by rw [up2_o _ _ _ b, up2_o _ _ _ a]) (fun j hj => by rw [up2_o _ _ _ (by decide), up2_k _ _ _ hj]) (fun j hj => by rw [up2_k _ _ _ hj, up2_o _ _ _ (by decide)])⟩
        · have o194 : up2 I 0 11 0 194 = I 194 := up2_o _ _ _ (by decide)
          have o194' : up2 (up2 I 0 11 0) 188 25 0 194 = I 194 := by rw [up2_o _ _ _ (by decide), o194]
          have d8 : I 194 (701 + 9 * e + 8) = 1 := by rw [en.2.2.2.2.2.2.2, s, if_pos rfl]
          have td' : ¬ bz (up2 I 0 11 0 188 13) = 0 := by rw [up2_o _ _ _ (by decide)]; exact td
          rw [E_X10_path]
          simp only [rl.fz, Option.bind_some, if_neg td', inr, asI_I, if_neg a, if_neg (fun z => b (five.mp z)), if_neg i10, rl.f18, rl.ldD _ e11 (show 11 + k < 1853 by omega), o194, d11, z1, if_neg em, rl.wi, rl.kt, if_true, w_its rl _ 8 (show (8 : Int32) = nI 8 from rfl) (show e < 128 by omega) (by decide), o194', d8]
        · refine ⟨0, by omega, ?_, ?_, fun k hk => by omega⟩
          · rw [up2_o _ _ _ (by decide), up2_s]; rfl
          · rw [up2_s]; rfl
  · have hm : q_X8_handleAt (vw 1 I 16) (vw 1 I 29) x = -1 := by
      unfold q_X8_handleAt
      by_cases a : x < 0
      · rw [if_pos a]
      · rw [if_neg a]
        by_cases b : (6 : Int32) ≤ x
        · rw [if_pos b]
        · rw [if_neg b]
          exact u.2.2.1.2.2.2.2.2.1 _ (lt6 a b)
    refine Pair.ask h h30 (none' hm) (w := -1) ?_ rfl
    rw [E_X10_path]
    simp only [rl.fz, Option.bind_some, u.2.1, if_true]
end
