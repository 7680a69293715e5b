/-! Ranks of nodes; an entry moved. -/
theorem cnt_lt {P P' : Nat → Bool} {n : Nat} (h : ∀ i, i < n → P i = true → P' i = true) {j : Nat} (hj : j < n) (h1 : P j = false) (h2 : P' j = true) : cnt P 0 n < cnt P' 0 n := by
  have c := cnt_one (P := P) (P' := fun i => if i = j then true else P i) (e := j) (n := n) (k := 0) (Nat.zero_le _) (by omega) (fun i _ _ q => by rw [if_neg q])
  have m : cnt (fun i => if i = j then true else P i) 0 n ≤ cnt P' 0 n := cnt_mono (fun i _ hi q => by
    by_cases z : i = j
    · rw [z]; exact h2
    · rw [if_neg z] at q; exact h i (by omega) q)
  rw [if_neg (show ¬ P j = true by rw [h1]; decide), if_pos (show (if j = j then true else P j) = true by rw [if_pos rfl])] at c
  omega
/-- how many nodes lie deeper -/
def rkc (μ : Nat → Nat) (n k : Nat) : Nat := cnt (fun j => decide (μ j < μ k)) 0 n
theorem rkc_lt {μ : Nat → Nat} {n p k : Nat} (hp : p < n) (h : μ p < μ k) : rkc μ n p < rkc μ n k :=
  cnt_lt (fun i _ q => by simp only [decide_eq_true_eq] at q ⊢; omega) hp (by simp) (by simpa using h)
theorem rkc_le (μ : Nat → Nat) (n k : Nat) : rkc μ n k ≤ n := cnt_le _ _ _
def upn (U : NodV) : Nat → Int32 → Int32
  | 0, x => x
  | m + 1, x => upn U m (if x = -1 then -1 else U 2 (ix x))
theorem upn_m1 (U : NodV) : ∀ m, upn U m (-1) = -1
  | 0 => rfl
  | m + 1 => by
    show upn U m (if (-1 : Int32) = -1 then -1 else U 2 (ix (-1))) = -1
    rw [if_pos rfl]
    exact upn_m1 U m
theorem upn_s (U : NodV) {k : Nat} (hk : k < 2 ^ 31) (m : Nat) : upn U (m + 1) (nI k) = upn U m (U 2 k) := by
  show upn U m (if nI k = -1 then -1 else U 2 (ix (nI k))) = _
  rw [if_neg (nI_m1 hk), ix_nI hk]
/-- whether one entry is below another, on both sides -/
theorem within_loop {U : NodV} {V : MemV} {n vol : Nat} (hN : NodI U n vol) (hM : MemI U V n vol) {J : MJ} (h : RefL J) (Y : MI) (en : ∀ g, g < 64 → ¬ V 1 g = 0 → Y 194 (701 + 9 * g + 1) = V 2 g) {d : Nat → Nat} (hd : ∀ k p, k < n → p < n → ¬ U 4 k = 0 → U 2 k = nI p → d p < d k) {e ke : Nat} (e64 : e < 64) (e1 : V 1 e = 1) (e4 : V 4 e = nI ke) (ken : ke < n) : ∀ (f g k kk : Nat), At V g → V 4 g = nI k → k < n → rkc d n k < f → ∃ y, (y = 0 ∨ y = 1) ∧ lp_X1_isWithin_5 V (nI e) f kk (nI g) = y ∧ Ev T_X10_isBelow 2 [some (mR (some 188)), none, some (mI (nI e)), some (mI (nI g))] [] (Y, J) = some (some (mI y), (Y, J)) ∧ (y = 0 → ∀ m, ¬ upn U m (nI k) = nI ke) := by
  have n60 := hN.n60
  intro f
  induction f with
  | zero => intro g k kk _ _ _ hr; omega
  | succ f ih =>
    intro g k kk hg g4 kn hr
    have g64 := hg.1
    have g0 : ¬ V 1 g = 0 := by rw [hg.2.1]; exact i10
    have e0 : ¬ V 1 e = 0 := by rw [e1]; exact i10
    have st : lp_X1_isWithin_5 V (nI e) (f + 1) kk (nI g) = if nI g = nI e then 1 else lp_X1_isWithin_5 V (nI e) f (kk + 1) (V 2 g) := by
      show (if (q_X1_isEntry V (nI g)) = 0 then (0) else (if nI g = nI e then (1) else lp_X1_isWithin_5 V (nI e) f (kk + 1) (V 2 (ix (nI g))))) = _
      rw [Inv.isE g64 g0, if_neg i10, ix_nI (by omega)]
    rw [st, E_X10_isBelow_2, if_neg (nI_m1 (show g < 2 ^ 31 by omega))]
    simp only [h.kt, if_true, w_its h _ 1 (show (1 : Int32) = nI 1 from rfl) (show g < 128 by omega) (by decide), Option.bind_some, asI_I, en g g64 g0]
    by_cases z : nI g = nI e
    · rw [if_pos z, if_pos z]
      refine ⟨1, Or.inr rfl, rfl, by simp, fun q => absurd q i10⟩
    · rw [if_neg z, if_neg z]
      have ge : g ≠ e := fun q => z (by rw [q])
      have kke : ¬ nI k = nI ke := fun q => ge (hM.nd g e g64 e64 g0 e0 hg.2.2 (by rw [g4, e4, q]))
      by_cases rt : V 2 g = -1
      · rw [rt]
        obtain ⟨v, r, _, _, _, r1, r2, _, _, r5, _⟩ := hM.rn hN g64 hg.2.1 rt
        have rk : r = k := (nI_eq (by omega) (by omega)).mp (r2.symm.trans g4)
        subst rk
        refine ⟨0, Or.inl rfl, ?_, ?_, fun _ m => ?_⟩
        · cases f with
          | zero => rfl
          | succ f =>
            show (if (q_X1_isEntry V (-1)) = 0 then (0) else _) = _
            rw [if_pos]
            unfold q_X1_isEntry
            rw [if_pos (by decide)]
        · rw [E_X10_isBelow_2, if_pos rfl]
          simp
        · cases m with
          | zero => exact kke
          | succ m =>
            rw [upn_s U (by omega), r5, upn_m1]
            exact fun q => nI_m1 (show ke < 2 ^ 31 by omega) q.symm
      · obtain ⟨p, kp, p64, p2, p1, kpn, kp4, u2, _, u4, _⟩ := hM.up hN g64 hg.2.1 rt g4 kn
        have dd := hd k kp kn kpn u4 u2
        have := rkc_lt (n := n) kpn dd
        obtain ⟨y, y1, y2, y3, y4⟩ := ih p kp (kk + 1) ⟨p64, p1, by rw [kp4]; exact nI_m1 (by omega)⟩ kp4 kpn (by omega)
        rw [p2]
        refine ⟨y, y1, y2, y3, fun q m => ?_⟩
        cases m with
        | zero => exact kke
        | succ m =>
          rw [upn_s U (by omega), u2]
          exact y4 q m
theorem isF_cg {U U' : NodV} (h0 : U' 0 = U 0) (h4 : U' 4 = U 4) (y : Int32) : q_X2_isFolder U' y = q_X2_isFolder U y := by
  unfold q_X2_isFolder q_X2_exists
  rw [h0, h4]
theorem NodI.move {U U' : NodV} {n vol : Nat} (hN : NodI U n vol) {ke kf kp : Nat} {nm : Int32} (ken : ke < n) (ke4 : ¬ U 4 ke = 0) (ke2 : U 2 ke = nI kp) (kpn : kp < n) (kfn : kf < n) (kf2 : U 4 kf = 2) (vv : U 1 kf = U 1 ke) (sub : ∀ m, ¬ upn U m (nI kf) = nI ke) (nz : ¬ nm = 0) (fd : q_X2_find U (nI kf) nm = -1) (u2 : ∀ k, U' 2 k = if k = ke then nI kf else U 2 k) (u3 : ∀ k, U' 3 k = if k = ke then nm else U 3 k) (uk : ∀ q : Fin 6, q ≠ 2 → q ≠ 3 → U' q = U q) : NodI U' n vol := by
  have n60 := hN.n60
  have u0 := uk 0 (by decide) (by decide)
  have u1 := uk 1 (by decide) (by decide)
  have u4 := uk 4 (by decide) (by decide)
  have u5 := uk 5 (by decide) (by decide)
  have no : ∀ k, k < n → ¬ U 4 k = 0 → U 2 k = nI kf → ¬ U 3 k = nm := by
    rcases hN.fd (nI kf) nm with ⟨_, z⟩ | ⟨k, k1, k2, _⟩
    · exact z
    · rw [fd] at k2
      exact absurd k2.symm (nI_m1 (by omega))
  refine ⟨by rw [u0]; exact hN.ev, n60, by rw [u0]; exact hN.vs, hN.v3, by rw [u1]; exact hN.vol, by rw [u4]; exact hN.kd, fun k hk q => ?_, fun v hv => ?_, fun k hk q1 q2 => ?_, fun k j hk hj q1 q2 q3 q4 q5 => ?_, ?_, by rw [u5]; exact hN.r00, fun k hk q => ?_⟩
  · rw [u2] at q
    by_cases z : k = ke
    · rw [if_pos z] at q
      exact absurd q (nI_m1 (by omega))
    · rw [if_neg z] at q
      rw [u1, u5]
      exact hN.rt k hk q
  · obtain ⟨r, r1, r2, r3, r4, r5⟩ := hN.rts v hv
    refine ⟨r, r1, by rw [u5]; exact r2, by rw [u4]; exact r3, ?_, by rw [u1]; exact r5⟩
    rw [u2, if_neg]
    · exact r4
    · intro z
      rw [z, ke2] at r4
      exact nI_m1 (by omega) r4
  · rw [u4] at q1
    rw [u2] at q2 ⊢
    rw [u1]
    by_cases z : k = ke
    · rw [if_pos z]
      exact ⟨kf, kfn, rfl, by rw [u4]; exact kf2, by rw [z]; exact vv⟩
    · rw [if_neg z] at q2 ⊢
      obtain ⟨p, p1, p2, p3, p4⟩ := hN.par k hk q1 q2
      exact ⟨p, p1, p2, by rw [u4]; exact p3, p4⟩
  · rw [u4] at q1 q2
    rw [u2] at q3
    rw [u2, u2] at q4
    rw [u3, u3] at q5
    by_cases z : k = ke
    · by_cases w : j = ke
      · rw [z, w]
      · rw [if_pos z, if_neg w] at q4 q5
        exact absurd q5.symm (no j hj q2 q4.symm)
    · by_cases w : j = ke
      · rw [if_neg z, if_pos w] at q4 q5
        exact absurd q5 (no k hk q1 q4)
      · rw [if_neg z] at q3
        rw [if_neg z, if_neg w] at q4 q5
        exact hN.uq k j hk hj q1 q2 q3 q4 q5
  · obtain ⟨d, hd⟩ := hN.rk
    refine ⟨fun k => @ite Nat (∃ m, upn U m (nI k) = nI ke) (Classical.propDecidable _) (d k + d kf + 1) (d k), fun k a hk ha q1 q2 => ?_⟩
    show @ite Nat (∃ m, upn U m (nI a) = nI ke) (Classical.propDecidable _) (d a + d kf + 1) (d a) < @ite Nat (∃ m, upn U m (nI k) = nI ke) (Classical.propDecidable _) (d k + d kf + 1) (d k)
    rw [u4] at q1
    rw [u2] at q2
    by_cases z : k = ke
    · rw [if_pos z] at q2
      have af : a = kf := (nI_eq (by omega) (by omega)).mp q2.symm
      subst af
      rw [if_neg (fun ⟨m, q⟩ => sub m q), if_pos ⟨0, by rw [z]; rfl⟩]
      omega
    · rw [if_neg z] at q2
      have dd := hd k a hk ha q1 q2
      have iff : (∃ m, upn U m (nI a) = nI ke) ↔ ∃ m, upn U m (nI k) = nI ke := by
        constructor
        · rintro ⟨m, q⟩
          exact ⟨m + 1, by rw [upn_s U (by omega), q2]; exact q⟩
        · rintro ⟨m, q⟩
          cases m with
          | zero => exact absurd ((nI_eq (by omega) (by omega)).mp q) z
          | succ m =>
            rw [upn_s U (by omega), q2] at q
            exact ⟨m, q⟩
      by_cases w : ∃ m, upn U m (nI a) = nI ke
      · rw [if_pos w, if_pos (iff.mp w)]
        omega
      · rw [if_neg w, if_neg (fun q => w (iff.mpr q))]
        exact dd
  · rw [u2] at q
    rw [u3]
    by_cases z : k = ke
    · rw [if_pos z]; exact nz
    · rw [if_neg z] at q ⊢
      exact hN.nn k hk q
theorem Inv.move {U U' : NodV} {V V' : MemV} {H : OneV} {W : WkV} {n vol t T : Nat} (i : Inv U V H W n vol t T (fun _ => 0)) (h30 : T + 1 ≤ 1000000000) {e p f ke kf : Nat} {nm : Int32} (e64 : e < 64) (e1 : V 1 e = 1) (e2 : V 2 e = nI p) (p64 : p < 64) (e4 : V 4 e = nI ke) (ken : ke < n) (fA : At V f) (f4 : V 4 f = nI kf) (kfn : kf < n) (kf2 : U 4 kf = 2) (vv : U 1 kf = U 1 ke) (sub : ∀ m, ¬ upn U m (nI kf) = nI ke) (nz : ¬ nm = 0) (fd : q_X2_find U (nI kf) nm = -1) (ng : ∀ g, g < 64 → V 1 g = 1 → V 2 g = nI f → ¬ V 3 g = nm) (u2 : ∀ k, U' 2 k = if k = ke then nI kf else U 2 k) (u3 : ∀ k, U' 3 k = if k = ke then nm else U 3 k) (uk : ∀ q : Fin 6, q ≠ 2 → q ≠ 3 → U' q = U q) (a2 : ∀ j, V' 2 j = if j = e then nI f else V 2 j) (a3 : ∀ j, V' 3 j = if j = e then nm else V 3 j) (a5 : ∀ j, V' 5 j = if j = f then V 5 f + 1 else V 5 j) (a6 : ∀ j, V' 6 j = if j = e then V 6 e + 1 else V 6 j) (kk : ∀ q : Fin 12, q ≠ 2 → q ≠ 3 → q ≠ 5 → q ≠ 6 → V' q = V q) : Inv U' V' H W n vol t (T + 1) (dlx (fun _ => 0) p) := by
  have hN := i.N
  have hM := i.M
  have n60 := hN.n60
  have f64 := fA.1
  have e0 : ¬ V 1 e = 0 := by rw [e1]; exact i10
  obtain ⟨p', kp, _, p2, p1, kpn, kp4, ke2, ke3, ke4, kp2⟩ := hM.up hN e64 e1 (by rw [e2]; exact nI_m1 (by omega)) e4 ken
  have pp : p' = p := (nI_eq (by omega) (by omega)).mp (p2.symm.trans e2)
  subst pp
  have hN' : NodI U' n vol := hN.move ken ke4 ke2 kpn kfn kf2 vv sub nz fd u2 u3 uk
  have u0 := uk 0 (by decide) (by decide)
  have u1 := uk 1 (by decide) (by decide)
  have u4 := uk 4 (by decide) (by decide)
  have u5 := uk 5 (by decide) (by decide)
  have fo' := fun y => isF_cg u0 u4 y
  have c0 := kk 0 (by decide) (by decide) (by decide) (by decide)
  have c1 := kk 1 (by decide) (by decide) (by decide) (by decide)
  have c4 := kk 4 (by decide) (by decide) (by decide) (by decide)
  have c8 := kk 8 (by decide) (by decide) (by decide) (by decide)
  have c9 := kk 9 (by decide) (by decide) (by decide) (by decide)
  have c10 := kk 10 (by decide) (by decide) (by decide) (by decide)
  have fm : ¬ nI f = -1 := nI_m1 (by omega)
  have re : ∀ g, V 2 g = -1 → g ≠ e := fun g q z => by
    rw [z, e2] at q
    exact nI_m1 (show p' < 2 ^ 31 by omega) q
  have fde : ∀ x y, ¬ x = -1 → ¬ (x = nI kf ∧ y = nm) → ¬ q_X2_find U x y = nI ke → q_X2_find U' x y = q_X2_find U x y := fun x y hx hne hk => by
    rcases hN.fd x y with ⟨z, no⟩ | ⟨j, j1, j2, j3, j4, j5⟩
    · rcases hN'.fd x y with ⟨z', _⟩ | ⟨j', j1', j2', j3', j4', j5'⟩
      · rw [z, z']
      · rw [u4] at j3'
        rw [u2] at j4'
        rw [u3] at j5'
        by_cases w : j' = ke
        · rw [if_pos w] at j4' j5'
          exact absurd ⟨j4'.symm, j5'.symm⟩ hne
        · rw [if_neg w] at j4' j5'
          exact absurd j5' (no j' j1' j3' j4')
    · have jk : j ≠ ke := fun w => hk (by rw [j2, w])
      have q2 : U' 2 j = x := by rw [u2, if_neg jk]; exact j4
      have q3 : U' 3 j = y := by rw [u3, if_neg jk]; exact j5
      rcases hN'.fd x y with ⟨_, no'⟩ | ⟨j', j1', j2', j3', j4', j5'⟩
      · exact absurd q3 (no' j j1 (by rw [u4]; exact j3) q2)
      · have : j = j' := hN'.uq j j' j1 j1' (by rw [u4]; exact j3) j3' (by rw [q2]; exact hx) (by rw [q2, j4']) (by rw [q3, j5'])
        rw [j2', j2, this]
  have fdk : q_X2_find U' (nI kf) nm = nI ke := by
    have q2 : U' 2 ke = nI kf := by rw [u2, if_pos rfl]
    have q3 : U' 3 ke = nm := by rw [u3, if_pos rfl]
    rcases hN'.fd (nI kf) nm with ⟨_, no'⟩ | ⟨j', j1', j2', j3', j4', j5'⟩
    · exact absurd q3 (no' ke ken (by rw [u4]; exact ke4) q2)
    · have : ke = j' := hN'.uq ke j' ken j1' (by rw [u4]; exact ke4) j3' (by rw [q2]; exact nI_m1 (by omega)) (by rw [q2, j4']) (by rw [q3, j5'])
      rw [j2', this]
  have hcc : ∀ g, g < 64 → hc V' H W g + (if g = p' then 1 else 0) = hc V H W g + (if g = f then 1 else 0) := by
    intro g hg
    have q := cnt_one (P := fun j => decide (¬ V 1 j = 0 ∧ V 2 j = nI g)) (P' := fun j => decide (¬ V' 1 j = 0 ∧ V' 2 j = nI g)) (e := e) (n := 64) (k := 0) (Nat.zero_le _) (by omega) (fun j _ _ z => by rw [c1, a2, if_neg z])
    have q1 : (if decide (¬ V 1 e = 0 ∧ V 2 e = nI g) = true then 1 else 0) = if g = p' then 1 else 0 := by
      rw [e2]
      by_cases z : g = p'
      · rw [if_pos z, if_pos]; simp [e0, z]
      · have : ¬ nI p' = nI g := fun w => z ((nI_eq (by omega) (by omega)).mp w).symm
        rw [if_neg z, if_neg]; simp [this]
    have q2 : (if decide (¬ V' 1 e = 0 ∧ V' 2 e = nI g) = true then 1 else 0) = if g = f then 1 else 0 := by
      rw [c1, a2, if_pos rfl]
      by_cases z : g = f
      · rw [if_pos z, if_pos]; simp [e0, z]
      · have : ¬ nI f = nI g := fun w => z ((nI_eq (by omega) (by omega)).mp w).symm
        rw [if_neg z, if_neg]; simp [this]
    rw [q1, q2] at q
    have v10 : hcV V' g = hcV V g := by unfold hcV; rw [c10]
    unfold hc
    rw [v10]
    unfold hcC
    omega
  refine ⟨hN', ⟨?_, ?_, ?_, ?_, ?_, ?_, ?_, ?_, ?_, ?_, ?_, ?_⟩, ⟨?_, by have := i.Z.tT; omega, h30, ?_, ?_, ?_⟩, ?_, ?_, ?_⟩
  · rw [c1]; exact hM.st
  · rw [c9]; exact hM.r0
  · rw [c10]; exact hM.o0
  · intro v hv
    rw [c9, c10, c1, c4, u5]
    rcases hM.rt v hv with q | ⟨q1, r, r64, q2, q3, q4, q5⟩
    · exact Or.inl q
    · exact Or.inr ⟨q1, r, r64, q2, q3, by rw [a2, if_neg (re r q4)]; exact q4, q5⟩
  · intro v h1 hv
    rw [c9, c10, c1, c4]
    intro q
    obtain ⟨o, o64, w1, w2, w3, w4⟩ := hM.ov v h1 hv q
    refine ⟨o, o64, w1, w2, ?_, by rw [fo']; exact w4⟩
    rw [a2]
    by_cases z : o = e
    · rw [if_pos z]; exact fm
    · rw [if_neg z]; exact w3
  · rw [c10]; exact hM.oi
  · rw [c10, c4, u1]; exact hM.vr
  · intro g hg q1 q2
    rw [c1] at q1
    rw [a2] at q2
    rw [c9]
    by_cases z : g = e
    · rw [if_pos z] at q2; exact absurd q2 fm
    · rw [if_neg z] at q2; exact hM.ro g hg q1 q2
  · intro g hg q1 q2
    rw [c1] at q1
    rw [a2] at q2
    rw [a2, c1, c4, a3]
    by_cases z : g = e
    · rw [if_pos z, if_pos z]
      refine ⟨f, f64, rfl, fA.2.1, ?_, ?_⟩
      · rw [fo', f4, hN.fo' kfn kf2]; exact i10
      · rw [z, e4, f4, fdk]
    · rw [if_neg z] at q2 ⊢
      rw [if_neg z]
      obtain ⟨a, y1, y2, y3, y4, y5⟩ := hM.ch g hg q1 q2
      refine ⟨a, y1, y2, y3, by rw [fo']; exact y4, ?_⟩
      obtain ⟨ka, ka1, ka2, _⟩ := hN.fo y4
      rw [fde _ _ (by rw [ka2]; exact nI_m1 (by omega)), y5]
      · rintro ⟨w1, w2⟩
        have : a = f := hM.nd a f y1 f64 (by rw [y3]; exact i10) (by rw [fA.2.1]; exact i10) (by rw [ka2]; exact nI_m1 (by omega)) (by rw [w1, f4])
        exact ng g hg q1 (by rw [y2, this]) w2
      · intro w
        rw [← y5] at w
        exact z (hM.nd g e hg e64 (by rw [q1]; exact i10) e0 (by rw [w]; exact nI_m1 (by omega)) (by rw [w, e4]))
  · intro g hg q1
    rw [c1] at q1
    have ge : g ≠ e := fun z => by
      rw [z, e1] at q1
      exact absurd q1 (by decide)
    rw [a2, if_neg ge, c4, u4]
    exact hM.go g hg q1
  · intro a b ha hb q1 q2 q3 q4 q5
    rw [c1] at q1 q2
    rw [a2] at q3
    rw [a2, a2] at q4
    rw [a3, a3] at q5
    by_cases z : a = e
    · by_cases w : b = e
      · rw [z, w]
      · rw [if_pos z, if_neg w] at q4 q5
        exact absurd q5.symm (ng b hb q2 q4.symm)
    · by_cases w : b = e
      · rw [if_neg z, if_pos w] at q4 q5
        exact absurd q5 (ng a ha q1 q4)
      · rw [if_neg z] at q3
        rw [if_neg z, if_neg w] at q4 q5
        exact hM.sb a b ha hb q1 q2 q3 q4 q5
  · rw [c1, c4]; exact hM.nd
  · rw [c0]; exact i.Z.tk
  · rw [c1, c8]; exact i.Z.bi
  · intro g hg q
    rw [c1] at q
    rw [a6]
    obtain ⟨c, d1, d2⟩ := i.Z.co g hg q
    by_cases z : g = e
    · rw [if_pos z, ← z, d1, nI_1]
      exact ⟨c + 1, rfl, by omega⟩
    · rw [if_neg z]
      exact ⟨c, d1, by omega⟩
  · exact ⟨by rw [c0]; exact i.Z.li, i.Z.tri.le (by rw [c0]) (fun k _ q => by rw [c1] at q; exact q) (Nat.le_refl _)⟩
  · intro g hg
    have hL := i.L g hg
    have hq := hcc g hg
    have dz : dlx (fun _ => 0) p' g = if g = p' then 1 else 0 := by unfold dlx; rw [Nat.zero_add]
    rw [c1, a5, dz]
    refine ⟨fun q => ?_, ?_, fun q => ⟨?_, fun w => ?_⟩⟩
    · rw [if_neg]
      intro z
      rw [z, p1] at q
      exact i10 q
    · split <;> omega
    · rw [hq]
      have v5 := (hL.2.2 q).1
      rw [Nat.add_zero] at v5
      by_cases z : g = f
      · rw [if_pos z, if_pos z, ← z, v5, nI_1]
      · rw [if_neg z, if_neg z, v5, Nat.add_zero]
    · rw [hq]
      have := (hL.2.2 q).2 w
      omega
  · intro k hk'
    rw [c1, c4]
    exact i.H k hk'
  · intro k hk' q
    obtain ⟨m, d, l, r, hr, hw⟩ := i.W k hk' q
    refine ⟨m, d, l, r, hr, hw.m, hw.d, hw.l, hw.r, hw.m1, hw.md, hw.dl, hw.l12, hw.r3, fun j hj => ?_⟩
    obtain ⟨g, g64, g1, ⟨b1, d1, g2, g3, g4, g5, g6⟩, g7⟩ := (hw.wy j hj).ex
    refine ⟨g, g64, g1, ⟨b1, d1, g2, g3, g4, by omega, ?_⟩, ?_⟩
    · intro q1 q2
      rw [c1] at q1
      rw [c8] at q2
      obtain ⟨cc, y1, y2, y3, y4⟩ := g6 q1 q2
      rw [a6, c1, c4]
      by_cases z : g = e
      · subst z
        rw [if_pos rfl, y1, nI_1]
        exact ⟨cc + 1, rfl, by omega, by omega, fun w => by omega⟩
      · rw [if_neg z]
        exact ⟨cc, y1, y2, by omega, y4⟩
    · rw [c1, c4]
      exact g7
def mvD (D : RowV) (e ke : Nat) (xf xk ym : Int32) : RowV := sD (sD (sD (sD (sD D (401 + 5 * ke + 2) xk) (401 + 5 * ke + 3) ym) (701 + 9 * e + 1) xf) (701 + 9 * e + 2) ym) (701 + 9 * e + 4) (D (701 + 9 * e + 4) + 1)
theorem Rel.move {U U' : NodV} {V V' : MemV} {H : OneV} {W : WkV} {D : RowV} {n : Nat} (r : Rel none U V H W D n) (n60 : n ≤ 60) {e ke : Nat} {xf xk nm ym : Int32} (e64 : e < 64) (e1 : ¬ V 1 e = 0) (ken : ke < n) (hn : Nm nm ym) (u2 : ∀ k, U' 2 k = if k = ke then xk else U 2 k) (u3 : ∀ k, U' 3 k = if k = ke then nm else U 3 k) (uk : ∀ q : Fin 6, q ≠ 2 → q ≠ 3 → U' q = U q) (a2 : ∀ j, V' 2 j = if j = e then xf else V 2 j) (a3 : ∀ j, V' 3 j = if j = e then nm else V 3 j) (a6 : ∀ j, V' 6 j = if j = e then V 6 e + 1 else V 6 j) (kk : ∀ q : Fin 12, q ≠ 2 → q ≠ 3 → q ≠ 5 → q ≠ 6 → V' q = V q) : Rel none U' V' H W (mvD D e ke xf xk ym) n := by
  have b := r.B
  have o : ∀ {j}, j ≠ 401 + 5 * ke + 2 → j ≠ 401 + 5 * ke + 3 → j ≠ 701 + 9 * e + 1 → j ≠ 701 + 9 * e + 2 → j ≠ 701 + 9 * e + 4 → mvD D e ke xf xk ym j = D j := fun {j} h1 h2 h3 h4 h5 => by
    unfold mvD
    rw [sD_n _ _ h5, sD_n _ _ h4, sD_n _ _ h3, sD_n _ _ h2, sD_n _ _ h1]
  have d1 : mvD D e ke xf xk ym (401 + 5 * ke + 2) = xk := by
    unfold mvD
    rw [sD_n _ _ (by omega), sD_n _ _ (by omega), sD_n _ _ (by omega), sD_n _ _ (by omega), sD_s]
  have d2 : mvD D e ke xf xk ym (401 + 5 * ke + 3) = ym := by
    unfold mvD
    rw [sD_n _ _ (by omega), sD_n _ _ (by omega), sD_n _ _ (by omega), sD_s]
  have d3 : mvD D e ke xf xk ym (701 + 9 * e + 1) = xf := by
    unfold mvD
    rw [sD_n _ _ (by omega), sD_n _ _ (by omega), sD_s]
  have d4 : mvD D e ke xf xk ym (701 + 9 * e + 2) = ym := by
    unfold mvD
    rw [sD_n _ _ (by omega), sD_s]
  have d5 : mvD D e ke xf xk ym (701 + 9 * e + 4) = D (701 + 9 * e + 4) + 1 := by
    unfold mvD
    rw [sD_s]
  generalize mvD D e ke xf xk ym = D' at o d1 d2 d3 d4 d5
  have c0 := kk 0 (by decide) (by decide) (by decide) (by decide)
  have c1 := kk 1 (by decide) (by decide) (by decide) (by decide)
  refine r.fr ⟨?_, ?_, ?_, ?_, ?_, ?_, ?_, ?_, ?_, ?_, ?_⟩ (fun j h1 h2 => o (by omega) (by omega) (by omega) (by omega) (by omega)) (fun k z => by cases z)
  · rw [o (by omega) (by omega) (by omega) (by omega) (by omega), c0]; exact b.tk
  · rw [o (by omega) (by omega) (by omega) (by omega) (by omega), c0]; exact b.lo
  · rw [o (by omega) (by omega) (by omega) (by omega) (by omega), c0]; exact b.tr
  · rw [o (by omega) (by omega) (by omega) (by omega) (by omega), c0]; exact b.rm
  · rw [o (by omega) (by omega) (by omega) (by omega) (by omega), uk 0 (by decide) (by decide)]; exact b.ev
  · intro v hv
    rw [o (by omega) (by omega) (by omega) (by omega) (by omega), kk 9 (by decide) (by decide) (by decide) (by decide)]; exact b.rt v hv
  · intro v hv
    rw [o (by omega) (by omega) (by omega) (by omega) (by omega), kk 10 (by decide) (by decide) (by decide) (by decide)]; exact b.ov v hv
  · intro k hk
    rw [o (by omega) (by omega) (by omega) (by omega) (by omega)]; exact b.ha k hk
  · intro k hk
    have nd := b.nd k hk
    rw [u2, u3, uk 1 (by decide) (by decide), uk 4 (by decide) (by decide), o (j := 401 + 5 * k + 0) (by omega) (by omega) (by omega) (by omega) (by omega), o (j := 401 + 5 * k + 1) (by omega) (by omega) (by omega) (by omega) (by omega), o (j := 401 + 5 * k + 4) (by omega) (by omega) (by omega) (by omega) (by omega)]
    by_cases z : k = ke
    · subst z
      rw [d1, d2, if_pos rfl, if_pos rfl]
      exact ⟨nd.1, rfl, Or.inl hn, nd.2.2.2⟩
    · rw [if_neg z, if_neg z, o (by omega) (by omega) (by omega) (by omega) (by omega), o (by omega) (by omega) (by omega) (by omega) (by omega)]
      exact nd
  · intro f hf
    rw [o (by omega) (by omega) (by omega) (by omega) (by omega), c1]
    exact b.th f hf
  · intro f hf q
    rw [c1] at q
    have en := b.en f hf q
    rw [o (j := 701 + 9 * f + 3) (by omega) (by omega) (by omega) (by omega) (by omega), o (j := 701 + 9 * f + 5) (by omega) (by omega) (by omega) (by omega) (by omega), o (j := 701 + 9 * f + 6) (by omega) (by omega) (by omega) (by omega) (by omega), o (j := 701 + 9 * f + 7) (by omega) (by omega) (by omega) (by omega) (by omega), o (j := 701 + 9 * f + 8) (by omega) (by omega) (by omega) (by omega) (by omega), c1, kk 4 (by decide) (by decide) (by decide) (by decide), kk 7 (by decide) (by decide) (by decide) (by decide), kk 8 (by decide) (by decide) (by decide) (by decide), cov_fr (kk 10 (by decide) (by decide) (by decide) (by decide)), a2, a3, a6]
    by_cases z : f = e
    · subst z
      rw [d3, d4, d5, if_pos rfl, if_pos rfl, if_pos rfl, en.2.2.2.1]
      exact ⟨rfl, Or.inl hn, en.2.2.1, rfl, en.2.2.2.2⟩
    · rw [if_neg z, if_neg z, if_neg z, o (by omega) (by omega) (by omega) (by omega) (by omega), o (by omega) (by omega) (by omega) (by omega) (by omega), o (by omega) (by omega) (by omega) (by omega) (by omega)]
      exact en
