/-! The way up from a node, on both sides. -/
theorem ex_bound (d : Nat → Nat) : ∀ n : Nat, ∃ M, ∀ k, k < n → d k < M
  | 0 => ⟨0, fun k hk => by omega⟩
  | n + 1 => by
    obtain ⟨M, hM⟩ := ex_bound d n
    refine ⟨max M (d n + 1), fun k hk => ?_⟩
    rcases Nat.lt_or_ge k n with z | z
    · have := hM k z
      omega
    · have : k = n := by omega
      subst this
      omega
/-- a rank that grows downwards, over mounts, too -/
theorem ex_rank {U : NodV} {V : MemV} {n vol : Nat} (hN : NodI U n vol) (hM : MemI U V n vol) : ∃ μ : Nat → Nat, (∀ k p, k < n → p < n → ¬ U 4 k = 0 → U 2 k = nI p → μ p < μ k) ∧ ∀ k v o ko, k < n → 1 ≤ v → v < 3 → U 1 k = nI v → o < 64 → V 10 v = nI o → V 4 o = nI ko → ko < n → μ ko < μ k := by
  have n60 := hN.n60
  have v3 := hN.v3
  obtain ⟨d, hd⟩ := hN.rk
  obtain ⟨ρ, hρ⟩ := hM.vr
  obtain ⟨M, hM'⟩ := ex_bound d n
  refine ⟨fun k => ρ (ix (U 1 k)) * M + d k, fun k p hk hp q1 q2 => ?_, fun k v o ko hk v1 v3' uk o64 ho h4 kon => ?_⟩
  · obtain ⟨p', p1, p2, _, p4⟩ := hN.par k hk q1 (by rw [q2]; exact nI_m1 (by omega))
    have : p' = p := (nI_eq (by omega) (by omega)).mp (p2.symm.trans q2)
    subst this
    show ρ (ix (U 1 p')) * M + d p' < ρ (ix (U 1 k)) * M + d k
    rw [p4]
    exact Nat.add_lt_add_left (hd k p' hk hp q1 q2) _
  · obtain ⟨u, u1, u2⟩ := hN.vol ko kon
    have r := hρ v o ko u v1 v3' o64 ho h4 kon u2 (by omega)
    show ρ (ix (U 1 ko)) * M + d ko < ρ (ix (U 1 k)) * M + d k
    rw [u2, uk, ix_nI (by omega), ix_nI (by omega)]
    have a1 := hM' ko kon
    have a2 : (ρ u + 1) * M ≤ ρ v * M := Nat.mul_le_mul_right M r
    rw [Nat.succ_mul] at a2
    omega
theorem par_q {U : NodV} {n vol : Nat} (hN : NodI U n vol) {k : Nat} (hk : k < n) (h4 : ¬ U 4 k = 0) : q_X2_parentOf U (nI k) = U 2 k := by
  have n60 := hN.n60
  unfold q_X2_parentOf
  rw [hN.ex hk, if_neg h4, if_neg i10, ix_nI (by omega)]
theorem nam_q {U : NodV} {n vol : Nat} (hN : NodI U n vol) {k : Nat} (hk : k < n) (h4 : ¬ U 4 k = 0) : q_X2_nameOf U (nI k) = U 3 k := by
  have n60 := hN.n60
  unfold q_X2_nameOf
  rw [hN.ex hk, if_neg h4, if_neg i10, ix_nI (by omega)]
theorem cvb_q (V : MemV) {v : Nat} (hv : v < 3) : q_X1_coveredBy V (nI v) = V 10 v := by
  unfold q_X1_coveredBy
  rw [if_neg (nI_pos (by omega)), if_neg (show ¬ (3 : Int32) ≤ nI v from nI_ge (b := 3) hv (by decide)), ix_nI (by omega)]
theorem turn_loop {L : Nat} (hL : L < 1000) : ∀ (f a b : Nat) (P : RouV), a ≤ L → b < L → b - a ≤ f → lp_X4_turnAround L f (nI a) (nI b) P 0 = P 0 ∧ ∀ j, lp_X4_turnAround L f (nI a) (nI b) P 1 j = if a ≤ j ∧ j ≤ b then P 1 (a + b - j) else P 1 j := by
  have done : ∀ (a b : Nat) (P : RouV), b ≤ a → ∀ j, P 1 j = if a ≤ j ∧ j ≤ b then P 1 (a + b - j) else P 1 j := fun a b P h j => by
    by_cases z : a ≤ j ∧ j ≤ b
    · rw [if_pos z, show a + b - j = j by omega]
    · rw [if_neg z]
  intro f
  induction f with
  | zero =>
    intro a b P ha hb hf
    exact ⟨rfl, done a b P (by omega)⟩
  | succ f ih =>
    intro a b P ha hb hf
    have st : lp_X4_turnAround L (f + 1) (nI a) (nI b) P = if nI b ≤ nI a then P else if (nI L) ≤ nI b then P else lp_X4_turnAround L f (nI a + 1) (nI b + (-1)) (uv (uv P 1 (ix (nI a)) (P 1 (ix (nI b)))) 1 (ix (nI b)) (P 1 (ix (nI a)))) := rfl
    by_cases ab : b ≤ a
    · rw [st, if_pos (nI_le ab (by omega))]
      exact ⟨rfl, done a b P ab⟩
    · have e : nI b + (-1) = nI (b - 1) := by
        have : nI b = nI (b - 1) + 1 := by rw [nI_1, show b - 1 + 1 = b by omega]
        rw [this, Int32.add_assoc, show (1 : Int32) + (-1) = 0 by decide, Int32.add_zero]
      rw [st, if_neg (nI_ge (show a < b by omega) (by omega)), if_neg (nI_ge hb (by omega)), ix_nI (by omega), ix_nI (by omega), nI_1, e]
      obtain ⟨g1, g2⟩ := ih (a + 1) (b - 1) (uv (uv P 1 a (P 1 b)) 1 b (P 1 a)) (by omega) (by omega) (by omega)
      refine ⟨by rw [g1, uv_k _ _ _ _ _ (by decide), uv_k _ _ _ _ _ (by decide)], fun j => ?_⟩
      have p2 : ∀ j, uv (uv P 1 a (P 1 b)) 1 b (P 1 a) 1 j = if j = b then P 1 a else if j = a then P 1 b else P 1 j := fun j => by rw [uv_at, uv_at]
      rw [g2, p2, p2]
      by_cases c1 : a + 1 ≤ j ∧ j ≤ b - 1
      · rw [if_pos c1, if_neg (show ¬ a + 1 + (b - 1) - j = b by omega), if_neg (show ¬ a + 1 + (b - 1) - j = a by omega), if_pos (show a ≤ j ∧ j ≤ b by omega), show a + 1 + (b - 1) - j = a + b - j by omega]
      · rw [if_neg c1]
        by_cases c2 : j = b
        · rw [if_pos c2, if_pos (show a ≤ j ∧ j ≤ b by omega), show a + b - j = a by omega]
        · rw [if_neg c2]
          by_cases c3 : j = a
          · rw [if_pos c3, if_pos (show a ≤ j ∧ j ≤ b by omega), show a + b - j = b by omega]
          · rw [if_neg c3, if_neg (show ¬ (a ≤ j ∧ j ≤ b) by omega)]
theorem turn_q {P : RouV} {l : Nat} (hp : P 0 1 = nI l) (hl : l ≤ 60) : gP_X4_turnAround 60 P 0 1 = nI l ∧ ∀ j, j < l → gP_X4_turnAround 60 P 1 j = P 1 (l - 1 - j) := by
  unfold gP_X4_turnAround
  rw [hp]
  cases l with
  | zero =>
    have e : ((nI 0 - 1 : Int32).toInt).toNat = 0 := by decide
    rw [e]
    exact ⟨hp, fun j hj => by omega⟩
  | succ l =>
    have e : nI (l + 1) - 1 = nI l := nI_sub (b := 1) (by omega)
    rw [e, nI_toInt (by omega), Int.toNat_natCast]
    obtain ⟨g1, g2⟩ := turn_loop (L := 60) (by decide) l 0 l P (by omega) (by omega) (by omega)
    rw [show (nI 0) = 0 from rfl] at g1 g2
    refine ⟨by rw [g1]; exact hp, fun j hj => ?_⟩
    rw [g2, if_pos (by omega), show 0 + l - j = l + 1 - 1 - j by omega]
/-- the reference's heap with its row of names -/
def nF (Y : MI) (N : RowV) : MI := fun a j => if a = 198 then N j else Y a j
theorem nF_N (Y : MI) (N : RowV) : nF Y N 198 = N := by
  funext j
  unfold nF
  rw [if_pos rfl]
theorem nF_o (Y : MI) (N : RowV) {a : Nat} (h : a ≠ 198) : nF Y N a = Y a := by
  funext j
  unfold nF
  rw [if_neg h]
theorem nF_s (Y : MI) (N : RowV) (i : Nat) (v : Int32) : up2 (nF Y N) 198 i v = nF Y (sD N i v) := by
  funext a j
  unfold up2 nF sD
  by_cases h : a = 198
  · subst h
    simp
  · simp [h]
theorem nF_id (Y : MI) : nF Y (Y 198) = Y := by
  funext a j
  unfold nF
  by_cases h : a = 198
  · rw [if_pos h, h]
  · rw [if_neg h]
theorem RefL.f26 {J : MJ} (h : RefL J) (I : MI) : fR (I, J) 10 188 26 = some (some 198) := by rw [fR_ok 26 h.k, h.r26]
/-- the class: at the root of all -/
theorem ro_end {U : NodV} {V : MemV} {n vol : Nat} (hN : NodI U n vol) (hM : MemI U V n vol) (O : OneV) {k : Nat} (kn : k < n) (k4 : ¬ U 4 k = 0) (k2 : U 2 k = -1) (kv : U 1 k = nI 0) (f kk : Nat) (P : RouV) : lp_X8_routeTo_9 60 O U V (f + 2) kk (nI k) P = gP_X4_turnAround 60 P := by
  have n60 := hN.n60
  have e1 : lp_X8_routeTo_9 60 O U V (f + 2) kk (nI k) P = lp_X8_routeTo_9 60 O U V (f + 1) (kk + 1) (-1) P := by
    show (if (q_X2_exists U (nI k)) = 0 then _ else (if (q_X2_parentOf U (nI k)) = ((-1)) then lp_X8_routeTo_9 60 O U V (f + 1) (kk + 1) (q_X1_nodeOf V (q_X1_coveredBy V (q_X2_volumeOf U (nI k)))) P else _)) = _
    rw [hN.ex kn, if_neg k4, if_neg i10, par_q hN kn k4, if_pos k2, vol_q hN kn, kv, cvb_q V (by decide), hM.o0]
    congr 1
  rw [e1]
  show (if (q_X2_exists U (-1)) = 0 then _ else _) = _
  rw [if_pos]
  unfold q_X2_exists
  rw [if_pos (by decide)]
/-- over a mount -/
theorem ro_up {U : NodV} {V : MemV} {n vol : Nat} (hN : NodI U n vol) (O : OneV) {k v o : Nat} (kn : k < n) (k4 : ¬ U 4 k = 0) (k2 : U 2 k = -1) (kv : U 1 k = nI v) (v3 : v < 3) (o64 : o < 64) (o1 : ¬ V 1 o = 0) (ho : V 10 v = nI o) (f kk : Nat) (P : RouV) : lp_X8_routeTo_9 60 O U V (f + 1) kk (nI k) P = lp_X8_routeTo_9 60 O U V f (kk + 1) (V 4 o) P := by
  show (if (q_X2_exists U (nI k)) = 0 then _ else (if (q_X2_parentOf U (nI k)) = ((-1)) then lp_X8_routeTo_9 60 O U V f (kk + 1) (q_X1_nodeOf V (q_X1_coveredBy V (q_X2_volumeOf U (nI k)))) P else _)) = _
  rw [hN.ex kn, if_neg k4, if_neg i10, par_q hN kn k4, if_pos k2, vol_q hN kn, kv, cvb_q V v3, ho, nodeOf_q o64 o1]
/-- a name -/
theorem ro_push {U : NodV} {V : MemV} {n vol : Nat} (hN : NodI U n vol) (O : OneV) {k : Nat} (kn : k < n) (k4 : ¬ U 4 k = 0) (k2 : ¬ U 2 k = -1) (f kk : Nat) (P : RouV) : lp_X8_routeTo_9 60 O U V (f + 1) kk (nI k) P = lp_X8_routeTo_9 60 O U V f (kk + 1) (U 2 k) (gP_X4_push 60 P (U 3 k)) := by
  show (if (q_X2_exists U (nI k)) = 0 then _ else (if (q_X2_parentOf U (nI k)) = ((-1)) then _ else lp_X8_routeTo_9 60 O U V f (kk + 1) (q_X2_parentOf U (nI k)) (gP_X4_push 60 P (q_X2_nameOf U (nI k))))) = _
  rw [hN.ex kn, if_neg k4, if_neg i10, par_q hN kn k4, if_neg k2, nam_q hN kn k4]
theorem Nmz.of {x y : Int32} (h : NmZ x y) (h0 : ¬ x = 0) : Nm x y := h.resolve_right (fun z => h0 z.1)
theorem pushN {P : RouV} {N : RowV} {l : Nat} (hp : P 0 1 = nI l) (hl : l < 60) (hn : ∀ j, j < l → Nm (P 1 j) (N j)) {x y : Int32} (hx : Nm x y) : gP_X4_push 60 P x 0 1 = nI (l + 1) ∧ ∀ j, j < l + 1 → Nm (gP_X4_push 60 P x 1 j) (sD N l y j) := by
  rw [push_g hp hl (by decide)]
  refine ⟨uv_s _ _ _ _, fun j hj => ?_⟩
  rw [uv_k _ _ _ _ _ (by decide), uv_at]
  by_cases z : j = l
  · rw [if_pos z, z, sD_s]; exact hx
  · rw [if_neg z, sD_n _ _ z]; exact hn j (by omega)
/-- the way up: by nodes -/
theorem route_loop {U : NodV} {V : MemV} {H : OneV} {W : WkV} {n vol t T : Nat} {x : Nat → Nat} (i : Inv U V H W n vol t T x) {μ : Nat → Nat} (m1 : ∀ k p, k < n → p < n → ¬ U 4 k = 0 → U 2 k = nI p → μ p < μ k) (m2 : ∀ k v o ko, k < n → 1 ≤ v → v < 3 → U 1 k = nI v → o < 64 → V 10 v = nI o → V 4 o = nI ko → ko < n → μ ko < μ k) {J : MJ} (h : RefL J) (Y : MI) (r : Rel none U V H W (Y 194) n) (O : OneV) : ∀ (f k l fuel kk : Nat) (P : RouV) (N : RowV) (v : Nat), k < n → ¬ U 4 k = 0 → U 1 k = nI v → v < 3 → ¬ V 9 v = -1 → rkc μ n k < f → l + rkc μ n k ≤ 60 → rkc μ n k + 2 ≤ fuel → P 0 1 = nI l → (∀ j, j < l → Nm (P 1 j) (N j)) → ∃ l' P' N', lp_X8_routeTo_9 60 O U V fuel kk (nI k) P = gP_X4_turnAround 60 P' ∧ P' 0 1 = nI l' ∧ l' ≤ 60 ∧ (∀ j, j < l' → Nm (P' 1 j) (N' j)) ∧ Ev T_X10_laysPath 4 [some (mR (some 188)), none, some (mI (nI l)), some (mI (nI k)), none] [] (nF Y N, J) = Ev T_X10_laysPath 81 [some (mR (some 188)), none, some (mI (nI l')), none, some (mI 0)] [] (nF Y N', J) := by
  have hN := i.N
  have n60 := hN.n60
  have y94 : ∀ N, nF Y N 194 = Y 194 := fun N => nF_o Y N (by decide)
  have nh : ∀ (N : RowV) (k fi : Nat) (z : Int32), z = nI fi → k < n → fi < 5 → M_X10_nodeHas [mR (some 188), mI (nI k), mI z] (nF Y N, J) = some (some (mI (Y 194 (401 + 5 * k + fi))), (nF Y N, J)) := fun N k fi z hz hk hf => by
    rw [w_nodeHas h _ fi hz (by omega) hf, y94]
  intro f
  induction f with
  | zero => intro k l fuel kk P N v _ _ _ _ _ hr; omega
  | succ f ih =>
    intro k l fuel kk P N v kn k4 kv v3 m9 hr hl hf hp hn
    have nd := r.B.nd k kn
    by_cases k2 : U 2 k = -1
    · by_cases v0 : v = 0
      · subst v0
        refine ⟨l, P, N, ?_, hp, by omega, hn, ?_⟩
        · rw [show fuel = (fuel - 2) + 2 by omega]
          exact ro_end hN i.M O kn k4 k2 kv _ _ _
        · rw [E_X10_laysPath_4]
          simp only [h.kt, if_true, nh N k 2 2 rfl kn (by decide), nh N k 0 0 rfl kn (by decide), Option.bind_some, asI_I, nd.2.1, k2, nd.1, kv, show nI 0 = 0 from rfl]
      · obtain ⟨o, o64, ho, o1, o2, o4⟩ := i.M.ov v (by omega) v3 m9
        obtain ⟨ko, kon, ko4, ko2⟩ := hN.fo o4
        obtain ⟨p, kp, _, _, _, kpn, _, u2, u3, u4, _⟩ := i.M.up hN o64 o1 o2 ko4 kon
        obtain ⟨u, uv', hu⟩ := hN.vol ko kon
        have v3' := hN.v3
        have oA : At V o := ⟨o64, o1, by rw [ko4]; exact nI_m1 (by omega)⟩
        have mu := i.mnt oA ko4 kon hu (by omega)
        have rk := rkc_lt (n := n) kon (m2 k v o ko kn (by omega) v3 kv o64 ho ko4 kon)
        obtain ⟨l', P', N', g1, g2, g3, g4, g5⟩ := ih ko l (fuel - 1) (kk + 1) P N u kon u4 hu (by omega) mu (by omega) (by omega) (by omega) hp hn
        refine ⟨l', P', N', ?_, g2, g3, g4, ?_⟩
        · rw [← g1, show fuel = (fuel - 1) + 1 by omega, ro_up hN O kn k4 k2 kv v3 o64 (by rw [o1]; exact i10) ho, ko4]
          rfl
        · rw [← g5]
          have vn0 : ¬ nI v = 0 := fun z => v0 ((nI_eq (by omega) (by omega)).mp (z.trans nI_0.symm))
          have ndo := r.B.nd ko kon
          have en := r.B.en o o64 (by rw [o1]; exact i10)
          have e8 : (8 : Int32) + nI v = nI (8 + v) := nI_add 8 v
          have km : ¬ nI kp = -1 := nI_m1 (by omega)
          have it : M_X10_its [mR (some 188), mI (nI o), mI 3] (nF Y N, J) = some (some (mI (nI ko)), (nF Y N, J)) := by
            rw [w_its h _ 3 (show (3 : Int32) = nI 3 from rfl) (show o < 128 by omega) (by decide), y94, en.2.2.1, ko4]
          rw [E_X10_laysPath_4, E_X10_laysPath_4]
          simp only [h.kt, if_true, nh N k 2 2 rfl kn (by decide), nh N k 0 0 rfl kn (by decide), nh N ko 2 2 rfl kon (by decide), Option.bind_some, asI_I, nd.2.1, k2, nd.1, kv, if_neg vn0, ndo.2.1, u2, if_neg km, h.f18, h.ldD _ e8 (show 8 + v < 1853 by omega), y94, r.B.ov v v3, ho, it]
    · obtain ⟨p, pn, p2, _, p4⟩ := hN.par k kn k4 k2
      have rk := rkc_lt (n := n) pn (m1 k p kn pn k4 p2)
      have nm : Nm (U 3 k) (Y 194 (401 + 5 * k + 3)) := Nmz.of nd.2.2.1 (hN.nn k kn k2)
      obtain ⟨a1, a2⟩ := pushN hp (by omega) hn nm
      obtain ⟨pp, _, pp2, pp4, _⟩ := hN.par k kn k4 k2
      have ppe : pp = p := (nI_eq (by omega) (by omega)).mp (pp2.symm.trans p2)
      subst ppe
      obtain ⟨l', P', N', g1, g2, g3, g4, g5⟩ := ih pp (l + 1) (fuel - 1) (kk + 1) (gP_X4_push 60 P (U 3 k)) (sD N l (Y 194 (401 + 5 * k + 3))) v pn (by rw [pp4]; decide) (by rw [p4]; exact kv) v3 m9 (by omega) (by omega) (by omega) a1 a2
      refine ⟨l', P', N', ?_, g2, g3, g4, ?_⟩
      · rw [← g1, show fuel = (fuel - 1) + 1 by omega, ro_push hN O kn k4 k2, p2]
        rfl
      · rw [← g5]
        have km : ¬ nI pp = -1 := nI_m1 (by omega)
        rw [E_X10_laysPath_4]
        simp only [h.kt, if_true, nh N k 2 2 rfl kn (by decide), nh N k 3 3 rfl kn (by decide), Option.bind_some, asI_I, nd.2.1, p2, if_neg km, h.f26, stx h.s26 (show l < 64 by omega) (by decide) rfl, nF_s, nh _ k 2 2 rfl kn (by decide), nI_1]
/-- the way up: by entries -/
theorem path_up {U : NodV} {V : MemV} {H : OneV} {W : WkV} {n vol t T : Nat} {x : Nat → Nat} (i : Inv U V H W n vol t T x) {μ : Nat → Nat} (m1 : ∀ k p, k < n → p < n → ¬ U 4 k = 0 → U 2 k = nI p → μ p < μ k) (m2 : ∀ k v o ko, k < n → 1 ≤ v → v < 3 → U 1 k = nI v → o < 64 → V 10 v = nI o → V 4 o = nI ko → ko < n → μ ko < μ k) {J : MJ} (h : RefL J) (Y : MI) (r : Rel none U V H W (Y 194) n) (O : OneV) {e0 : Nat} (h0 : V 9 0 = nI e0) (e064 : e0 < 64) : ∀ (f e k l fuel kk : Nat) (P : RouV) (N : RowV), At V e → V 4 e = nI k → k < n → rkc μ n k < f → l + rkc μ n k ≤ 60 → rkc μ n k + 2 ≤ fuel → P 0 1 = nI l → (∀ j, j < l → Nm (P 1 j) (N j)) → ∃ l' P' N', lp_X8_routeTo_9 60 O U V fuel kk (nI k) P = gP_X4_turnAround 60 P' ∧ P' 0 1 = nI l' ∧ l' ≤ 60 ∧ (∀ j, j < l' → Nm (P' 1 j) (N' j)) ∧ Ev T_X10_path 64 [some (mR (some 188)), none, some (mI (nI e)), some (mI (nI l)), none, none] [] (nF Y N, J) = Ev T_X10_path 64 [some (mR (some 188)), none, some (mI (nI e0)), some (mI (nI l')), none, none] [] (nF Y N', J) := by
  have hN := i.N
  have hM := i.M
  have n60 := hN.n60
  have y94 : ∀ N, nF Y N 194 = Y 194 := fun N => nF_o Y N (by decide)
  have rq : ∀ (e : Nat), e < 64 → (∀ v, v < 3 → ¬ V 9 v = nI e) → rootQ (Y 194) (nI e) = none := fun e he hv => fst_no (fun v _ hv3 => by
    rw [r.B.rt v (by omega)]
    simpa using hv v (by omega))
  have its' : ∀ (N : RowV) (e fi : Nat) (z : Int32), z = nI fi → e < 64 → fi < 9 → M_X10_its [mR (some 188), mI (nI e), mI z] (nF Y N, J) = some (some (mI (Y 194 (701 + 9 * e + fi))), (nF Y N, J)) := fun N e fi z hz he hf => by
    rw [w_its h _ fi hz (by omega) hf, y94]
  have r9 : ∀ v w e, v < 3 → w < 3 → e < 64 → V 9 v = nI e → V 9 w = nI e → v = w := fun v w e hv hw he q1 q2 => by
    rcases hM.rt v hv with ⟨z, _⟩ | ⟨vv, r', a1, a2, a3, a4, a5⟩
    · rw [z] at q1; exact absurd q1.symm (nI_m1 (by omega))
    rcases hM.rt w hw with ⟨z, _⟩ | ⟨ww, r'', b1, b2, b3, b4, b5⟩
    · rw [z] at q2; exact absurd q2.symm (nI_m1 (by omega))
    have x1 : r' = e := (nI_eq (by omega) (by omega)).mp (a2.symm.trans q1)
    have x2 : r'' = e := (nI_eq (by omega) (by omega)).mp (b2.symm.trans q2)
    subst x1
    subst x2
    obtain ⟨s, s1, s2, _, _, s5⟩ := hN.rts v vv
    obtain ⟨s', s1', s2', _, _, s5'⟩ := hN.rts w ww
    have : s = s' := (nI_eq (by omega) (by omega)).mp (s2.symm.trans (a5.symm.trans (b5.trans s2')))
    subst this
    exact (nI_eq (by omega) (by omega)).mp (s5.symm.trans s5')
  -- a step by a name
  have step : ∀ (N : RowV) (e l p : Nat), e < 64 → ¬ V 1 e = 0 → (∀ v, v < 3 → ¬ V 9 v = nI e) → V 2 e = nI p → l < 64 → Ev T_X10_path 64 [some (mR (some 188)), none, some (mI (nI e)), some (mI (nI l)), none, none] [] (nF Y N, J) = Ev T_X10_path 64 [some (mR (some 188)), none, some (mI (nI p)), some (mI (nI (l + 1))), none, none] [] (nF Y (sD N l (Y 194 (701 + 9 * e + 2))), J) := fun N e l p e64 e1 nr e2 l64 => by
    rw [E_X10_path_64]
    have no1 : ¬ (-1 : Int32) = 0 := by decide
    simp only [h.kt, if_true, w_rootOf h, y94, rq e e64 nr, oI, Option.bind_some, asI_I, if_neg no1, h.f26, its' N e 2 2 rfl e64 (by decide), stx h.s26 l64 (by decide) rfl, nF_s, its' _ e 1 1 rfl e64 (by decide), (r.B.en e e64 e1).1, e2, nI_1]
  intro f
  induction f with
  | zero => intro e k l fuel kk P N _ _ _ hr; omega
  | succ f ih =>
    intro e k l fuel kk P N eA e4 kn hr hl hf hp hn
    have e64 := eA.1
    have e0' : ¬ V 1 e = 0 := by rw [eA.2.1]; exact i10
    by_cases e2 : V 2 e = -1
    · obtain ⟨v, rn, vv, v3, hv9, rnn, rn4, _, rk4, rk2, rkv⟩ := hM.rn hN e64 eA.2.1 e2
      have rk' : rn = k := (nI_eq (by omega) (by omega)).mp (rn4.symm.trans e4)
      subst rk'
      have k4 : ¬ U 4 rn = 0 := by rw [rk4]; decide
      by_cases v0 : v = 0
      · subst v0
        have ee : e = e0 := (nI_eq (by omega) (by omega)).mp (hv9.symm.trans h0)
        subst ee
        refine ⟨l, P, N, ?_, hp, by omega, hn, rfl⟩
        rw [show fuel = (fuel - 2) + 2 by omega]
        exact ro_end hN hM O kn k4 rk2 rkv _ _ _
      · have m9 : ¬ V 9 v = -1 := by rw [hv9]; exact nI_m1 (by omega)
        obtain ⟨o, o64, ho, o1, o2, o4⟩ := hM.ov v (by omega) v3 m9
        obtain ⟨ko, kon, ko4, ko2⟩ := hN.fo o4
        have oA : At V o := ⟨o64, o1, by rw [ko4]; exact nI_m1 (by omega)⟩
        have o0 : ¬ V 1 o = 0 := by rw [o1]; exact i10
        have rk := rkc_lt (n := n) kon (m2 rn v o ko kn (by omega) v3 rkv o64 ho ko4 kon)
        obtain ⟨l', P', N', g1, g2, g3, g4, g5⟩ := ih o ko l (fuel - 1) (kk + 1) P N oA ko4 kon (by omega) (by omega) (by omega) hp hn
        refine ⟨l', P', N', ?_, g2, g3, g4, ?_⟩
        · rw [← g1, show fuel = (fuel - 1) + 1 by omega, ro_up hN O kn k4 rk2 rkv v3 o64 o0 ho, ko4]
          rfl
        · obtain ⟨p, p64, p2, _⟩ := hM.ch o o64 o1 o2
          have onr : ∀ w, w < 3 → ¬ V 9 w = nI o := fun w hw q => by
            rcases hM.rt w hw with ⟨z, _⟩ | ⟨_, r', a1, a2, _, a4, _⟩
            · rw [z] at q; exact nI_m1 (show o < 2 ^ 31 by omega) q.symm
            · have : r' = o := (nI_eq (by omega) (by omega)).mp (a2.symm.trans q)
              rw [this] at a4
              exact o2 a4
          rw [← g5, step N o l p o64 o0 onr p2 (by omega)]
          have vn0 : ¬ nI v = 0 := fun z => v0 ((nI_eq (by omega) (by omega)).mp (z.trans nI_0.symm))
          have vnm : ¬ nI v = -1 := nI_m1 (by omega)
          have e8 : (8 : Int32) + nI v = nI (8 + v) := nI_add 8 v
          have rqv : rootQ (Y 194) (nI e) = some v := fst_is (Nat.zero_le _) (by omega) (by rw [r.B.rt v v3]; simpa using hv9) (fun w _ hw => by
            rw [r.B.rt w (by omega)]
            simp only [decide_eq_false_iff_not]
            intro q
            have := r9 w v e (by omega) v3 e64 q hv9
            omega)
          rw [E_X10_path_64]
          simp only [h.kt, if_true, w_rootOf h, y94, rqv, oI, Option.bind_some, asI_I, if_neg vn0, if_neg vnm, h.f18, h.ldD _ e8 (show 8 + v < 1853 by omega), r.B.ov v v3, ho, h.f26, its' N o 2 2 rfl o64 (by decide), stx h.s26 (show l < 64 by omega) (by decide) rfl, nF_s, its' _ o 1 1 rfl o64 (by decide), (r.B.en o o64 o0).1, p2, nI_1]
    · obtain ⟨p, kp, p64, p2, p1, kpn, kp4, u2, u3, u4, _⟩ := hM.up hN e64 eA.2.1 e2 e4 kn
      have rk := rkc_lt (n := n) kpn (m1 k kp kn kpn u4 u2)
      have k2 : ¬ U 2 k = -1 := by rw [u2]; exact nI_m1 (by omega)
      have en := r.B.en e e64 e0'
      have nm : Nm (U 3 k) (Y 194 (701 + 9 * e + 2)) := by
        rw [u3]
        exact Nmz.of en.2.1 (by rw [← u3]; exact hN.nn k kn k2)
      obtain ⟨a1, a2⟩ := pushN hp (by omega) hn nm
      obtain ⟨l', P', N', g1, g2, g3, g4, g5⟩ := ih p kp (l + 1) (fuel - 1) (kk + 1) (gP_X4_push 60 P (U 3 k)) (sD N l (Y 194 (701 + 9 * e + 2))) ⟨p64, p1, by rw [kp4]; exact nI_m1 (by omega)⟩ kp4 kpn (by omega) (by omega) (by omega) a1 a2
      refine ⟨l', P', N', ?_, g2, g3, g4, ?_⟩
      · rw [← g1, show fuel = (fuel - 1) + 1 by omega, ro_push hN O kn u4 k2, u2]
        rfl
      · have enr : ∀ w, w < 3 → ¬ V 9 w = nI e := fun w hw q => by
          rcases hM.rt w hw with ⟨z, _⟩ | ⟨_, r', a1, a2, _, a4, _⟩
          · rw [z] at q; exact nI_m1 (show e < 2 ^ 31 by omega) q.symm
          · have : r' = e := (nI_eq (by omega) (by omega)).mp (a2.symm.trans q)
            rw [this] at a4
            exact e2 a4
        rw [← g5, step N e l p e64 e0' enr p2 (by omega)]
