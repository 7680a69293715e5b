section
/-! A volume unmounted: the class's side. -/
def vl (U : NodV) (V : MemV) (e : Nat) : Int32 := U 1 (ix (if V 4 e = -1 then V 4 (ix (V 2 e)) else V 4 e))
def ofB (U : NodV) (V : MemV) (x : Int32) (e : Nat) : Bool := decide (¬ V 1 e = 0 ∧ vl U V e = x)
theorem ofB_t {U : NodV} {V : MemV} {x : Int32} {e : Nat} : ofB U V x e = true ↔ ¬ V 1 e = 0 ∧ vl U V e = x := by
  unfold ofB
  simp
theorem Inv.nod {U : NodV} {V : MemV} {n vol : Nat} (hN : NodI U n vol) (hM : MemI U V n vol) {e : Nat} (he : e < 64) (h1 : ¬ V 1 e = 0) (h4 : ¬ V 4 e = -1) : ∃ k, k < n ∧ V 4 e = nI k := by
  rcases hM.st e he with z | z | z
  · exact absurd z h1
  · obtain ⟨k, a, b, _⟩ := hM.nk hN ⟨he, z, h4⟩
    exact ⟨k, a, b⟩
  · obtain ⟨_, k, a, b, _⟩ := hM.go e he z
    exact ⟨k, a, b⟩
theorem Inv.absp {U : NodV} {V : MemV} {n vol : Nat} (hN : NodI U n vol) (hM : MemI U V n vol) {e : Nat} (he : e < 64) (h1 : ¬ V 1 e = 0) (h4 : V 4 e = -1) : ∃ p kp, p < 64 ∧ V 2 e = nI p ∧ V 1 p = 1 ∧ kp < n ∧ V 4 p = nI kp ∧ U 4 kp = 2 := by
  have n60 := hN.n60
  rcases hM.st e he with z | z | z
  · exact absurd z h1
  · have h2 : ¬ V 2 e = -1 := fun y => by
      obtain ⟨v, r, _, _, _, a, b, _⟩ := hM.rn hN he z y
      rw [h4] at b
      exact nI_m1 (show r < 2 ^ 31 by omega) b.symm
    obtain ⟨p, p1, p2, p3, p4, _⟩ := hM.ch e he z h2
    obtain ⟨kp, k1, k2, k3⟩ := hN.fo p4
    exact ⟨p, kp, p1, p2, p3, k1, k2, k3⟩
  · obtain ⟨_, k, a, b, _⟩ := hM.go e he z
    rw [h4] at b
    exact absurd b.symm (nI_m1 (by omega))
theorem volOf_k {U : NodV} {n vol k : Nat} (hN : NodI U n vol) (hk : k < n) : q_X2_volumeOf U (nI k) = U 1 k := by
  have n60 := hN.n60
  unfold q_X2_volumeOf
  rw [if_neg (nI_pos (show k < 2 ^ 31 by omega)), if_neg (show ¬ (60 : Int32) ≤ nI k from nI_ge (b := 60) (by omega) (by decide)), hN.ev, if_neg (nI_ge hk (by omega)), ix_nI (by omega)]
/-- of which volume an entry is: the same of a memory whose parents are there still -/
theorem isOf_q {U : NodV} {V Vk : MemV} {n vol : Nat} (hN : NodI U n vol) (hM : MemI U V n vol) {e : Nat} (he : e < 64) (h1 : Vk 1 e = V 1 e) (k4 : Vk 4 = V 4) (k2 : Vk 2 = V 2) (hp : V 4 e = -1 → ∀ p, p < 64 → V 2 e = nI p → Vk 1 p = V 1 p) (x : Int32) : q_X1_isOf U Vk (nI e) x = if ofB U V x e = true then 1 else 0 := by
  have n60 := hN.n60
  unfold q_X1_isOf
  rw [isE_k he, h1, ix64 he, k4, k2]
  by_cases z : V 1 e = 0
  · have : ¬ ofB U V x e = true := fun y => (ofB_t.mp y).1 z
    rw [if_pos z, if_pos rfl, if_neg this]
  · rw [if_neg z, if_neg i10]
    by_cases a : V 4 e = -1
    · obtain ⟨p, kp, p1, p2, p3, k1, kk, _⟩ := Inv.absp hN hM he z a
      have vq : vl U V e = U 1 kp := by
        unfold vl
        rw [if_pos a, p2, ix64 p1, kk, ix_nI (by omega)]
      have nq : q_X1_nodeOf Vk (V 2 e) = nI kp := by
        unfold q_X1_nodeOf
        rw [p2, isE_k p1, hp a p p1 p2, p3, if_neg i10, if_neg i10, ix64 p1, k4, kk]
      rw [if_pos a, nq, volOf_k hN k1]
      by_cases y : U 1 kp = x
      · rw [if_pos y, if_pos (ofB_t.mpr ⟨z, vq.trans y⟩)]
      · rw [if_neg y, if_neg (fun w => y (vq.symm.trans (ofB_t.mp w).2))]
    · obtain ⟨k, k1, kk⟩ := Inv.nod hN hM he z a
      have vq : vl U V e = U 1 k := by
        unfold vl
        rw [if_neg a, kk, ix_nI (by omega)]
      rw [if_neg a, kk, volOf_k hN k1]
      by_cases y : U 1 k = x
      · rw [if_pos y, if_pos (ofB_t.mpr ⟨z, vq.trans y⟩)]
      · rw [if_neg y, if_neg (fun w => y (vq.symm.trans (ofB_t.mp w).2))]
/-- a child is of its parent's volume -/
theorem vl_par {U : NodV} {V : MemV} {n vol : Nat} (hN : NodI U n vol) (hM : MemI U V n vol) {e p : Nat} (he : e < 64) (h1 : V 1 e = 1) (p64 : p < 64) (h2 : V 2 e = nI p) : vl U V e = vl U V p ∧ V 1 p = 1 := by
  have n60 := hN.n60
  obtain ⟨p', a1, a2, a3, a4, a5⟩ := hM.ch e he h1 (by rw [h2]; exact nI_m1 (by omega))
  have pp : p' = p := (nI_eq (by omega) (by omega)).mp (a2.symm.trans h2)
  subst pp
  obtain ⟨kp, k1, k2, k3⟩ := hN.fo a4
  have np : ¬ V 4 p' = -1 := by rw [k2]; exact nI_m1 (by omega)
  refine ⟨?_, a3⟩
  unfold vl
  rw [if_neg np]
  by_cases a : V 4 e = -1
  · rw [if_pos a, h2, ix64 p64]
  · rw [if_neg a]
    rcases hN.fd (V 4 p') (V 3 e) with ⟨z, _⟩ | ⟨k, j1, j2, j3, j4, _⟩
    · rw [z] at a5
      exact absurd a5 a
    · rw [j2] at a5
      rw [k2] at j4
      obtain ⟨q, b1, b2, b3, b4⟩ := hN.par k j1 j3 (by rw [j4]; exact nI_m1 (by omega))
      have : q = kp := (nI_eq (by omega) (by omega)).mp (b2.symm.trans j4)
      subst this
      rw [a5, k2, ix_nI (by omega), ix_nI (by omega), b4]
/-- of V the entries S are gone, and only below entries of the volume something is held otherwise -/
def Dp (U : NodV) (V : MemV) (x : Int32) (S : Nat → Prop) (Vk : MemV) : Prop := (∀ r : Fin 12, r ≠ 1 → r ≠ 5 → Vk r = V r) ∧ (∀ e, e < 64 → (S e → Vk 1 e = 0) ∧ (¬ S e → Vk 1 e = V 1 e)) ∧ ∀ f, f < 64 → ¬ ofB U V x f = true → Vk 5 f = V 5 f
theorem Dp.drop {U : NodV} {V Vk : MemV} {x : Int32} {S S' : Nat → Prop} {n vol : Nat} (hN : NodI U n vol) (hM : MemI U V n vol) (d : Dp U V x S Vk) {e : Nat} (he : e < 64) (ho : ofB U V x e = true) (g1 : V 1 e = 1) (hs : ∀ f, S' f ↔ S f ∨ f = e) : Dp U V x S' (gV_X1_drop Vk (nI e)) := by
  obtain ⟨d1, d2, d3⟩ := d
  have kk := dr_k Vk (nI e)
  have v2 : Vk 2 = V 2 := d1 2 (by decide) (by decide)
  refine ⟨fun r a b => by rw [kk r a b, d1 r a b], fun f hf => ?_, fun f hf q => ?_⟩
  · rw [dr_1 Vk he]
    refine ⟨fun s => ?_, fun s => ?_⟩
    · by_cases z : f = e
      · rw [if_pos z]
      · rw [if_neg z]
        exact (d2 f hf).1 (((hs f).mp s).resolve_right z)
    · rw [if_neg (fun z => s ((hs f).mpr (Or.inr z)))]
      exact (d2 f hf).2 (fun z => s ((hs f).mpr (Or.inl z)))
  · by_cases r : V 2 e = -1
    · rw [dr_5r Vk he (by rw [v2]; exact r)]
      exact d3 f hf q
    · obtain ⟨p, p1, p2, p3, _⟩ := hM.ch e he g1 r
      have vp := (vl_par hN hM he g1 p1 p2).1
      have fp : f ≠ p := fun z => q (by
        rw [z]
        exact ofB_t.mpr ⟨by rw [p3]; exact i10, vp.symm.trans (ofB_t.mp ho).2⟩)
      rw [dr_5 Vk he (by rw [v2]; exact p2) p1, if_neg fp]
      exact d3 f hf q
theorem unm18 {U : NodV} {V : MemV} {x x2 : Int32} {n vol : Nat} (hN : NodI U n vol) (hM : MemI U V n vol) (g : ∀ e, e < 64 → ofB U V x e = true → V 1 e = 1) : ∀ (nn k : Nat) (Vk : MemV), k + nn = 64 → Dp U V x (fun e => e < k ∧ V 4 e = -1 ∧ ofB U V x e = true) Vk → ∃ Vf, lp_X1_dropVolume_18 U x x2 nn k Vk = lp_X1_dropVolume_54 U x x2 64 0 Vf ∧ Dp U V x (fun e => e < 64 ∧ V 4 e = -1 ∧ ofB U V x e = true) Vf := by
  intro nn
  induction nn with
  | zero =>
    intro k Vk hk d
    have : k = 64 := by omega
    subst this
    exact ⟨Vk, rfl, d⟩
  | succ nn ih =>
    intro k Vk hk d
    have k64 : k < 64 := by omega
    have st : lp_X1_dropVolume_18 U x x2 (nn + 1) k Vk = (if (q_X1_isAbsence Vk (nI k)) = 0 then lp_X1_dropVolume_18 U x x2 nn (k + 1) Vk else (if (q_X1_isOf U Vk (nI k) x) = 0 then lp_X1_dropVolume_18 U x x2 nn (k + 1) Vk else lp_X1_dropVolume_18 U x x2 nn (k + 1) (gV_X1_drop Vk (nI k)))) := rfl
    have v1 : Vk 1 k = V 1 k := (d.2.1 k k64).2 (fun z => by omega)
    have v4 := d.1 4 (by decide) (by decide)
    have v2 := d.1 2 (by decide) (by decide)
    have skip : ¬ (V 4 k = -1 ∧ ofB U V x k = true) → Dp U V x (fun e => e < k + 1 ∧ V 4 e = -1 ∧ ofB U V x e = true) Vk := fun q => by
      refine ⟨d.1, fun e he => ⟨fun s => ?_, fun s => ?_⟩, d.2.2⟩
      · by_cases z : e = k
        · subst z
          exact absurd s.2 q
        · exact (d.2.1 e he).1 ⟨by omega, s.2⟩
      · exact (d.2.1 e he).2 (fun w => s ⟨by omega, w.2⟩)
    have ab : q_X1_isAbsence Vk (nI k) = if V 1 k = 0 then 0 else if V 4 k = -1 then 1 else 0 := by
      unfold q_X1_isAbsence
      rw [isE_k k64, v1, ix64 k64, v4]
      by_cases z : V 1 k = 0
      · rw [if_pos z, if_pos rfl, if_pos z]
      · rw [if_neg z, if_neg i10, if_neg z]
    rw [st, ab]
    by_cases z : V 1 k = 0
    · rw [if_pos z, if_pos rfl]
      exact ih (k + 1) Vk (by omega) (skip (fun w => (ofB_t.mp w.2).1 z))
    · rw [if_neg z]
      by_cases a : V 4 k = -1
      · rw [if_pos a, if_neg i10, isOf_q hN hM k64 v1 v4 v2 (fun _ p p1 p2 => (d.2.1 p p1).2 (fun w => by
          obtain ⟨p', kp, b1, b2, _, b4, b5, _⟩ := Inv.absp hN hM k64 z a
          have : p' = p := (nI_eq (by omega) (by omega)).mp (b2.symm.trans p2)
          subst this
          rw [b5] at w
          have := hN.n60
          exact nI_m1 (show kp < 2 ^ 31 by omega) w.2.1)) x]
        by_cases o : ofB U V x k = true
        · rw [if_pos o, if_neg i10]
          exact ih (k + 1) _ (by omega) (d.drop hN hM k64 o (g k k64 o) (fun f => ⟨fun s => by
            by_cases y : f = k
            · exact Or.inr y
            · exact Or.inl ⟨by omega, s.2⟩, fun s => by
            rcases s with s | s
            · exact ⟨by omega, s.2⟩
            · subst s
              exact ⟨by omega, a, o⟩⟩))
        · rw [if_neg o, if_pos rfl]
          exact ih (k + 1) Vk (by omega) (skip (fun w => o w.2))
      · rw [if_neg a, if_pos rfl]
        exact ih (k + 1) Vk (by omega) (skip (fun w => a w.1))
theorem unm54 {U : NodV} {V : MemV} {x x2 : Int32} {n vol : Nat} (hN : NodI U n vol) (hM : MemI U V n vol) (g : ∀ e, e < 64 → ofB U V x e = true → V 1 e = 1) : ∀ (nn k : Nat) (Vk : MemV), k + nn = 64 → Dp U V x (fun e => ofB U V x e = true ∧ (V 4 e = -1 ∨ e < k)) Vk → ∃ Vf, lp_X1_dropVolume_54 U x x2 nn k Vk = lp_X1_dropVolume_54 U x x2 0 64 Vf ∧ Dp U V x (fun e => ofB U V x e = true) Vf := by
  intro nn
  induction nn with
  | zero =>
    intro k Vk hk d
    have : k = 64 := by omega
    subst this
    refine ⟨Vk, rfl, d.1, fun e he => ⟨fun s => (d.2.1 e he).1 ⟨s, Or.inr he⟩, fun s => (d.2.1 e he).2 (fun w => s w.1)⟩, d.2.2⟩
  | succ nn ih =>
    intro k Vk hk d
    have k64 : k < 64 := by omega
    have st : lp_X1_dropVolume_54 U x x2 (nn + 1) k Vk = (if (q_X1_isOf U Vk (nI k) x) = 0 then lp_X1_dropVolume_54 U x x2 nn (k + 1) Vk else lp_X1_dropVolume_54 U x x2 nn (k + 1) (gV_X1_drop Vk (nI k))) := rfl
    have v4 := d.1 4 (by decide) (by decide)
    have v2 := d.1 2 (by decide) (by decide)
    have skip : (ofB U V x k = true → V 4 k = -1) → Dp U V x (fun e => ofB U V x e = true ∧ (V 4 e = -1 ∨ e < k + 1)) Vk := fun q => by
      refine ⟨d.1, fun e he => ⟨fun s => ?_, fun s => ?_⟩, d.2.2⟩
      · by_cases z : e = k
        · subst z
          exact (d.2.1 e he).1 ⟨s.1, Or.inl (q s.1)⟩
        · exact (d.2.1 e he).1 ⟨s.1, s.2.imp id (fun y => by omega)⟩
      · exact (d.2.1 e he).2 (fun w => s ⟨w.1, w.2.imp id (fun y => by omega)⟩)
    rw [st]
    by_cases dead : ofB U V x k = true ∧ V 4 k = -1
    · have v0 : Vk 1 k = 0 := (d.2.1 k k64).1 ⟨dead.1, Or.inl dead.2⟩
      have q0 : q_X1_isOf U Vk (nI k) x = 0 := by
        unfold q_X1_isOf
        rw [isE_k k64, if_pos v0, if_pos rfl]
      rw [q0, if_pos rfl]
      exact ih (k + 1) Vk (by omega) (skip (fun _ => dead.2))
    · have v1 : Vk 1 k = V 1 k := (d.2.1 k k64).2 (fun w => dead ⟨w.1, w.2.resolve_right (by omega)⟩)
      by_cases z0 : V 1 k = 0
      · have q0 : q_X1_isOf U Vk (nI k) x = 0 := by
          unfold q_X1_isOf
          rw [isE_k k64, v1, if_pos z0, if_pos rfl]
        rw [q0, if_pos rfl]
        exact ih (k + 1) Vk (by omega) (skip (fun w => absurd z0 (ofB_t.mp w).1))
      · rw [isOf_q hN hM k64 v1 v4 v2 (fun a p p1 p2 => by
          have nk : ¬ ofB U V x k = true := fun w => dead ⟨w, a⟩
          obtain ⟨p', kp, b1, b2, b3, b4, b5, _⟩ := Inv.absp hN hM k64 z0 a
          have : p' = p := (nI_eq (by omega) (by omega)).mp (b2.symm.trans p2)
          subst this
          refine (d.2.1 p' p1).2 (fun w => nk (ofB_t.mpr ⟨z0, ?_⟩))
          have k1 : V 1 k = 1 := by
            rcases hM.st k k64 with y | y | y
            · exact absurd y z0
            · exact y
            · obtain ⟨_, kk, c1, c2, _⟩ := hM.go k k64 y
              rw [a] at c2
              have := hN.n60
              exact absurd c2.symm (nI_m1 (by omega))
          rw [(vl_par hN hM k64 k1 p1 b2).1]
          exact (ofB_t.mp w.1).2) x]
        by_cases o : ofB U V x k = true
        · rw [if_pos o, if_neg i10]
          exact ih (k + 1) _ (by omega) (d.drop hN hM k64 o (g k k64 o) (fun f => ⟨fun s => by
            by_cases y : f = k
            · exact Or.inr y
            · exact Or.inl ⟨s.1, s.2.imp id (fun w => by omega)⟩, fun s => by
            rcases s with s | s
            · exact ⟨s.1, s.2.imp id (fun w => by omega)⟩
            · subst s
              exact ⟨o, Or.inr (by omega)⟩⟩))
        · rw [if_neg o, if_pos rfl]
          exact ih (k + 1) Vk (by omega) (skip (fun w => absurd w o))
/-- the memory behind it, row by row -/
def UnV (U : NodV) (V : MemV) (v o : Nat) (V' : MemV) : Prop := (∀ r : Fin 12, r ≠ 1 → r ≠ 5 → r ≠ 6 → r ≠ 9 → r ≠ 10 → V' r = V r) ∧ (∀ e, e < 64 → (ofB U V (nI v) e = true → V' 1 e = 0) ∧ (¬ ofB U V (nI v) e = true → V' 1 e = V 1 e)) ∧ (∀ f, f < 64 → ¬ ofB U V (nI v) f = true → V' 5 f = if f = o then V 5 o - 1 else V 5 f) ∧ (∀ j, V' 6 j = if j = o then V 6 o + 1 else V 6 j) ∧ (∀ j, V' 9 j = if j = v then -1 else V 9 j) ∧ (∀ j, V' 10 j = if j = v then -1 else V 10 j)
theorem unm_rows {U : NodV} {V : MemV} {n vol v o : Nat} (hN : NodI U n vol) (hM : MemI U V n vol) (v3 : v < 3) (g : ∀ e, e < 64 → ofB U V (nI v) e = true → V 1 e = 1) (ho : V 10 v = nI o) (o64 : o < 64) (o1 : V 1 o = 1) (no : ¬ ofB U V (nI v) o = true) : UnV U V v o (gV_X1_dropVolume U V (nI v)) ∧ q_X1_dropVolume U V (nI v) = q_X1_howMany V - q_X1_howMany (gV_X1_dropVolume U V (nI v)) := by
  obtain ⟨Va, a1, a2⟩ := unm18 (x2 := q_X1_howMany V) hN hM g 64 0 V rfl ⟨fun _ _ _ => rfl, fun e _ => ⟨fun s => by omega, fun _ => rfl⟩, fun _ _ _ => rfl⟩
  obtain ⟨Vb, b1, b2, b3, b4⟩ := unm54 (x2 := q_X1_howMany V) hN hM g 64 0 Va rfl ⟨a2.1, fun e he => ⟨fun s => (a2.2.1 e he).1 ⟨he, s.2.resolve_right (by omega), s.1⟩, fun s => (a2.2.1 e he).2 (fun w => s ⟨w.2.2, Or.inl w.2.1⟩)⟩, a2.2.2⟩
  have oE : o_X1_dropVolume U V (nI v) = lp_X1_dropVolume_54 U (nI v) (q_X1_howMany V) 0 64 Vb := by
    unfold o_X1_dropVolume
    rw [if_neg (nI_pos (show v < 2 ^ 31 by omega)), if_pos (show nI v < 3 from nI_lt (b := 3) v3 (by decide)), a1, b1]
  have ixv : ix (nI v) = v := ix_nI (by omega)
  have ix10 : Vb 10 v = nI o := by rw [b2 10 (by decide) (by decide)]; exact ho
  have bo : Vb 1 o = 1 := by rw [(b3 o o64).2 no]; exact o1
  generalize hC : uv (uv Vb 9 v (-1)) 10 v (-1) = Vc
  have c1 : ∀ r : Fin 12, r ≠ 9 → r ≠ 10 → Vc r = Vb r := fun r p q => by rw [← hC, uv_k _ _ _ _ _ q, uv_k _ _ _ _ _ p]
  have c9 : ∀ j, Vc 9 j = if j = v then -1 else Vb 9 j := fun j => by rw [← hC, uv_k _ _ _ _ _ (by decide), uv_at]
  have c10 : ∀ j, Vc 10 j = if j = v then -1 else Vb 10 j := fun j => by rw [← hC, uv_at, uv_k _ _ _ _ _ (by decide)]
  have isE : q_X1_isEntry Vc (nI o) = 1 := Inv.isE o64 (by rw [c1 1 (by decide) (by decide), bo]; exact i10)
  have lE : lp_X1_dropVolume_54 U (nI v) (q_X1_howMany V) 0 64 Vb = (q_X1_howMany V - q_X1_howMany (gV_X1_release (uv Vc 6 o (Vb 6 o + 1)) (nI o)), gV_X1_release (uv Vc 6 o (Vb 6 o + 1)) (nI o)) := by
    show (if (q_X1_isEntry (uv (uv Vb 9 (ix (nI v)) ((-1))) 10 (ix (nI v)) ((-1))) (Vb 10 (ix (nI v)))) = 0 then (q_X1_howMany V - (q_X1_howMany (uv (uv Vb 9 (ix (nI v)) ((-1))) 10 (ix (nI v)) ((-1)))), uv (uv Vb 9 (ix (nI v)) ((-1))) 10 (ix (nI v)) ((-1))) else (q_X1_howMany V - (q_X1_howMany (gV_X1_release (uv (uv (uv Vb 9 (ix (nI v)) ((-1))) 10 (ix (nI v)) ((-1))) 6 (ix (Vb 10 (ix (nI v)))) ((Vb 6 (ix (Vb 10 (ix (nI v))))) + 1)) (Vb 10 (ix (nI v))))), gV_X1_release (uv (uv (uv Vb 9 (ix (nI v)) ((-1))) 10 (ix (nI v)) ((-1))) 6 (ix (Vb 10 (ix (nI v)))) ((Vb 6 (ix (Vb 10 (ix (nI v))))) + 1)) (Vb 10 (ix (nI v))))) = _
    rw [ixv, ix10, hC, isE, if_neg i10, ix64 o64]
  have qE : q_X1_dropVolume U V (nI v) = q_X1_howMany V - q_X1_howMany (gV_X1_dropVolume U V (nI v)) := by
    unfold q_X1_dropVolume gV_X1_dropVolume
    rw [oE, lE]
  refine ⟨?_, qE⟩
  have gE : gV_X1_dropVolume U V (nI v) = gV_X1_release (uv Vc 6 o (Vb 6 o + 1)) (nI o) := by
    unfold gV_X1_dropVolume
    rw [oE, lE]
  rw [gE]
  have u6 : ∀ r : Fin 12, r ≠ 6 → uv Vc 6 o (Vb 6 o + 1) r = Vc r := fun r q => uv_k _ _ _ _ _ q
  have rk := re_k (uv Vc 6 o (Vb 6 o + 1)) (nI o)
  refine ⟨fun r p1 p5 p6 p9 p10 => by rw [rk r p1 p5, u6 r p6, c1 r p9 p10, b2 r p1 p5], fun e he => ?_, fun f hf q => ?_, fun j => ?_, fun j => ?_, fun j => ?_⟩
  · have e1 : gV_X1_release (uv Vc 6 o (Vb 6 o + 1)) (nI o) 1 e = Vb 1 e := by
      rw [re_1 _ o64, u6 1 (by decide), c1 1 (by decide) (by decide), bo, if_neg (fun w => i12 w.2.1)]
    rw [e1]
    exact b3 e he
  · rw [re_5 _ o64, u6 5 (by decide), c1 5 (by decide) (by decide), b4 o o64 no, b4 f hf q]
  · rw [rk 6 (by decide) (by decide), uv_at, c1 6 (by decide) (by decide), b2 6 (by decide) (by decide)]
  · rw [rk 9 (by decide) (by decide), u6 9 (by decide), c9, b2 9 (by decide) (by decide)]
  · rw [rk 10 (by decide) (by decide), u6 10 (by decide), c10, b2 10 (by decide) (by decide)]
end
section
/-! A volume unmounted: what holds stays; the row of the reference. -/
theorem unm_pre {U : NodV} {V : MemV} {H : OneV} {W : WkV} {n vol t T v o : Nat} (i : Inv U V H W n vol t T (fun _ => 0)) (v3 : v < 3) (nb : ∀ e, e < 64 → ofB U V (nI v) e = true → hcV V e + (hcH H e + hcW W e) = 0) (ho : V 10 v = nI o) (o64 : o < 64) : (∀ e, e < 64 → ofB U V (nI v) e = true → V 1 e = 1) ∧ V 1 o = 1 ∧ ¬ ofB U V (nI v) o = true := by
  refine ⟨fun e he q => ?_, (i.M.ok v3 o64 ho).2.2.1, fun q => ?_⟩
  · have q1 := (ofB_t.mp q).1
    rcases i.M.st e he with z | z | z
    · exact absurd z q1
    · exact z
    · have l := ((i.L e he).2.2 q1).2 z
      have z0 := nb e he q
      have c0 : hcC V e = 0 := cnt_zero (fun k _ hk => by
        simp only [decide_eq_false_iff_not]
        rintro ⟨y1, y2⟩
        rcases i.M.st k (by omega) with s | s | s
        · exact y1 s
        · have := (vl_par i.N i.M (show k < 64 by omega) s he y2).2
          rw [z] at this
          exact absurd this (by decide)
        · rw [(i.M.go k (by omega) s).1] at y2
          exact nI_m1 (show e < 2 ^ 31 by omega) y2.symm)
      simp only [Nat.add_zero] at l
      unfold hc at l
      omega
  · have z0 := nb o o64 q
    have : 0 < hcV V o := cnt_pos (i := v) (Nat.zero_le _) (by omega) (by simp [ho])
    omega
theorem Inv.unm {U : NodV} {V V' : MemV} {H : OneV} {W : WkV} {n vol t T v o : Nat} (i : Inv U V H W n vol t T (fun _ => 0)) (h30 : T + 1 ≤ 1000000000) (v1 : 1 ≤ v) (v3 : v < 3) (m9 : ¬ V 9 v = -1) (nb : ∀ e, e < 64 → ofB U V (nI v) e = true → hcV V e + (hcH H e + hcW W e) = 0) (ho : V 10 v = nI o) (o64 : o < 64) (u : UnV U V v o V') : Inv U V' H W n vol t (T + 1) (fun _ => 0) := by
  have hN := i.N
  have hM := i.M
  have n60 := hN.n60
  obtain ⟨g, o1, no⟩ := unm_pre i v3 nb ho o64
  obtain ⟨kk, a1, a5, a6, a9, a10⟩ := u
  have c2 := kk 2 (by decide) (by decide) (by decide) (by decide) (by decide)
  have c3 := kk 3 (by decide) (by decide) (by decide) (by decide) (by decide)
  have c4 := kk 4 (by decide) (by decide) (by decide) (by decide) (by decide)
  have c8 := kk 8 (by decide) (by decide) (by decide) (by decide) (by decide)
  have c0 := kk 0 (by decide) (by decide) (by decide) (by decide) (by decide)
  -- what is there still
  have back : ∀ {e y}, e < 64 → ¬ y = (0 : Int32) → V' 1 e = y → V 1 e = y ∧ ¬ ofB U V (nI v) e = true := fun {e y} he hy q => by
    by_cases z : ofB U V (nI v) e = true
    · rw [(a1 e he).1 z] at q
      exact absurd q.symm hy
    · rw [(a1 e he).2 z] at q
      exact ⟨q, z⟩
  have back0 : ∀ {e}, e < 64 → ¬ V' 1 e = 0 → ¬ V 1 e = 0 ∧ ¬ ofB U V (nI v) e = true := fun {e} he q => by
    by_cases z : ofB U V (nI v) e = true
    · exact absurd ((a1 e he).1 z) q
    · rw [(a1 e he).2 z] at q
      exact ⟨q, z⟩
  have stay : ∀ {e}, e < 64 → ¬ ofB U V (nI v) e = true → V' 1 e = V 1 e := fun {e} he q => (a1 e he).2 q
  -- a root of another volume
  have rvl : ∀ {f w r : Nat}, f < 64 → V 1 f = 1 → V 4 f = nI r → r < n → U 1 r = nI w → vl U V f = nI w := fun {f w r} hf h1 h4 hr hw => by
    unfold vl
    rw [h4, if_neg (nI_m1 (by omega)), ix_nI (by omega)]
    exact hw
  have cvs : ∀ w f, w < 3 → f < 64 → V 10 w = nI f → ¬ ofB U V (nI v) f = true := fun w f hw hf q z => by
    have z0 := nb f hf z
    have : 0 < hcV V f := cnt_pos (i := w) (Nat.zero_le _) (by omega) (by simp [q])
    omega
  have kid : ∀ {e p : Nat}, e < 64 → V 1 e = 1 → p < 64 → V 2 e = nI p → ¬ ofB U V (nI v) e = true → ¬ ofB U V (nI v) p = true := fun {e p} he h1 hp h2 q z => by
    have := vl_par hN hM he h1 hp h2
    exact q (ofB_t.mpr ⟨by rw [h1]; exact i10, this.1.trans (ofB_t.mp z).2⟩)
  refine ⟨hN, ⟨?_, ?_, ?_, ?_, ?_, ?_, ?_, ?_, ?_, ?_, ?_, ?_⟩, ⟨?_, by have := i.Z.tT; omega, h30, ?_, ?_, ?_⟩, ?_, ?_, ?_⟩
  · intro e he
    by_cases z : ofB U V (nI v) e = true
    · exact Or.inl ((a1 e he).1 z)
    · rw [(a1 e he).2 z]; exact hM.st e he
  · rw [a9, if_neg (by omega)]; exact hM.r0
  · rw [a10, if_neg (by omega)]; exact hM.o0
  · intro w hw
    rw [a9, a10]
    by_cases z : w = v
    · rw [if_pos z, if_pos z]; exact Or.inl ⟨rfl, rfl⟩
    · rw [if_neg z, if_neg z]
      rcases hM.rt w hw with y | ⟨y1, r, y2, y3, y4, y5, y6⟩
      · exact Or.inl y
      · obtain ⟨v', rn, q1, q2, q3, q4, q5, q6, q7, q8, q9⟩ := hM.rn hN y2 y4 y5
        obtain ⟨rn', s1, s2, s3, s4, s5⟩ := hN.rts w y1
        have e2 : rn = rn' := (nI_eq (by omega) (by omega)).mp (q5.symm.trans (y6.trans s2))
        subst e2
        have nr : ¬ ofB U V (nI v) r = true := fun x => by
          have := rvl y2 y4 q5 q4 s5
          have := (ofB_t.mp x).2.symm.trans this
          exact z ((nI_eq (by omega) (by omega)).mp this).symm
        exact Or.inr ⟨y1, r, y2, y3, by rw [stay y2 nr]; exact y4, by rw [c2]; exact y5, by rw [c4]; exact y6⟩
  · intro w w1 hw q
    rw [a9] at q
    by_cases z : w = v
    · rw [if_pos z] at q; exact absurd rfl q
    · rw [if_neg z] at q
      obtain ⟨f, f1, f2, f3, f4, f5⟩ := hM.ov w w1 hw q
      have nf := cvs w f hw f1 f2
      exact ⟨f, f1, by rw [a10, if_neg z]; exact f2, by rw [stay f1 nf]; exact f3, by rw [c2]; exact f4, by rw [c4]; exact f5⟩
  · intro w w' hw hw' q1 q2
    rw [a10] at q1 q2
    rw [a10] at q2
    by_cases z : w = v
    · rw [if_pos z] at q1; exact absurd rfl q1
    · rw [if_neg z] at q1 q2
      by_cases z' : w' = v
      · rw [if_pos z'] at q2; exact absurd q2 q1
      · rw [if_neg z'] at q2
        exact hM.oi w w' hw hw' q1 q2
  · obtain ⟨ρ, hρ⟩ := hM.vr
    refine ⟨ρ, fun w f k u w1 hw hf q1 q2 => ?_⟩
    rw [a10] at q1
    rw [c4] at q2
    by_cases z : w = v
    · rw [if_pos z] at q1
      exact absurd q1.symm (nI_m1 (by omega))
    · rw [if_neg z] at q1
      exact hρ w f k u w1 hw hf q1 q2
  · intro e he q1 q2
    obtain ⟨h1, hn⟩ := back he i10 q1
    rw [c2] at q2
    obtain ⟨w, w3, hw⟩ := hM.ro e he h1 q2
    refine ⟨w, w3, ?_⟩
    rw [a9, if_neg (fun z => ?_)]
    · exact hw
    · subst z
      obtain ⟨v', rn, p1, p2, p3, p4, p5, p6, p7, p8, p9⟩ := hM.rn hN he h1 q2
      rcases hM.rt w w3 with ⟨y, _⟩ | ⟨y1, r, y2, y3, y4, y5, y6⟩
      · exact m9 y
      · have : r = e := (nI_eq (by omega) (by omega)).mp (y3.symm.trans hw)
        subst this
        obtain ⟨rn', s1, s2, s3, s4, s5⟩ := hN.rts w y1
        exact hn (ofB_t.mpr ⟨by rw [h1]; exact i10, rvl he h1 (y6.trans s2) s1 s5⟩)
  · intro e he q1 q2
    obtain ⟨h1, hn⟩ := back he i10 q1
    rw [c2] at q2
    obtain ⟨p, p1, p2, p3, p4, p5⟩ := hM.ch e he h1 q2
    have np := kid he h1 p1 p2 hn
    exact ⟨p, p1, by rw [c2]; exact p2, by rw [stay p1 np]; exact p3, by rw [c4]; exact p4, by rw [c4, c3]; exact p5⟩
  · intro e he q1
    obtain ⟨h1, hn⟩ := back he i20 q1
    rw [c2, c4]
    exact hM.go e he h1
  · intro e f he hf q1 q2
    rw [c2, c3]
    exact hM.sb e f he hf (back he i10 q1).1 (back hf i10 q2).1
  · intro e f he hf q1 q2
    rw [c4]
    exact hM.nd e f he hf (back0 he q1).1 (back0 hf q2).1
  · rw [c0]; exact i.Z.tk
  · intro e he q
    rw [c8]
    exact i.Z.bi e he (back0 he q).1
  · intro e he q
    obtain ⟨c, d1, d2⟩ := i.Z.co e he (back0 he q).1
    rw [a6]
    by_cases z : e = o
    · rw [if_pos z, ← z, d1]
      exact ⟨c + 1, nI_1 c, by omega⟩
    · rw [if_neg z]
      exact ⟨c, d1, by omega⟩
  · exact ⟨by rw [c0]; exact i.Z.li, i.Z.tri.le (by rw [c0]) (fun k hk q => (back0 hk q).1) (Nat.le_refl _)⟩
  · have hcc : ∀ f, f < 64 → ¬ ofB U V (nI v) f = true → hc V' H W f + (if f = o then 1 else 0) = hc V H W f := by
      intro f hf q
      have c1 : hcC V' f = hcC V f := cnt_cong (fun j _ hj => by
        rw [c2]
        by_cases z : ofB U V (nI v) j = true
        · have j1 := g j (by omega) z
          have : ¬ V 2 j = nI f := fun y => q (by
            have := vl_par hN hM (show j < 64 by omega) j1 hf y
            exact ofB_t.mpr ⟨by rw [this.2]; exact i10, this.1.symm.trans (ofB_t.mp z).2⟩)
          simp [this]
        · rw [(a1 j (by omega)).2 z])
      have c2' : hcV V' f + (if f = o then 1 else 0) = hcV V f := by
        have := cnt_one (P := fun w => decide (V 10 w = nI f)) (P' := fun w => decide (V' 10 w = nI f)) (e := v) (n := 3) (k := 0) (Nat.zero_le _) (by omega) (fun w _ _ y => by
          show decide (V' 10 w = nI f) = decide (V 10 w = nI f)
          rw [a10, if_neg y])
        have p0 : (if decide (V' 10 v = nI f) = true then 1 else 0) = 0 := by
          rw [a10, if_pos rfl, if_neg]
          simp only [decide_eq_true_eq]
          exact fun y => nI_m1 (show f < 2 ^ 31 by omega) y.symm
        have p1 : (if decide (V 10 v = nI f) = true then 1 else 0) = if f = o then 1 else 0 := by
          rw [ho]
          by_cases y : f = o
          · rw [if_pos y, y]; simp
          · rw [if_neg y, if_neg]
            simp only [decide_eq_true_eq]
            exact fun w => y ((nI_eq (by omega) (by omega)).mp w).symm
        have this : hcV V' f + (if decide (V 10 v = nI f) = true then 1 else 0) = hcV V f + (if decide (V' 10 v = nI f) = true then 1 else 0) := this
        rw [p0, p1] at this
        exact this
      unfold hc
      rw [c1]
      omega
    intro f hf
    refine ⟨fun _ => rfl, Nat.zero_le _, fun q => ?_⟩
    obtain ⟨q1, q2⟩ := back0 hf q
    obtain ⟨m1, m2⟩ := (i.L f hf).2.2 q1
    simp only [Nat.add_zero] at m1 m2 ⊢
    have e := hcc f hf q2
    rw [a5 f hf q2, stay hf q2]
    by_cases z : f = o
    · rw [if_pos z] at e ⊢
      rw [← z, m1, ← e]
      refine ⟨by rw [show nI (hc V' H W f + 1) - 1 = nI (hc V' H W f + 1 - 1) from nI_sub (b := 1) (by omega), Nat.add_sub_cancel], fun y => ?_⟩
      rw [z, o1] at y
      exact absurd y (by decide)
    · rw [if_neg z] at e ⊢
      rw [Nat.add_zero] at e
      rw [e]
      exact ⟨m1, m2⟩
  · intro k hk
    rcases i.H k hk with z | ⟨e, e1, e2, e3, e4⟩
    · exact Or.inl z
    · have ne : ¬ ofB U V (nI v) e = true := fun z => by
        have z0 := nb e e1 z
        have : 0 < hcH H e := cnt_pos (i := k) (Nat.zero_le _) (by omega) (by simp [e2])
        omega
      exact Or.inr ⟨e, e1, e2, by rw [stay e1 ne]; exact e3, by rw [c4]; exact e4⟩
  · intro k hk q
    obtain ⟨m, d, l, r, hr, hw⟩ := i.W k hk q
    refine ⟨m, d, l, r, hr, hw.m, hw.d, hw.l, hw.r, hw.m1, hw.md, hw.dl, hw.l12, hw.r3, fun j hj => ?_⟩
    obtain ⟨e, e64, be, ⟨bb, cc, g1, g2, g3, g4, g5⟩, g6⟩ := (hw.wy j hj).ex
    refine ⟨e, e64, be, ⟨bb, cc, g1, g2, g3, by omega, fun y1 y2 => ?_⟩, fun y => ?_⟩
    · obtain ⟨y3, y4⟩ := back0 e64 y1
      rw [c8] at y2
      obtain ⟨c2, k1, k2, k3, k4⟩ := g5 y3 y2
      rw [a6, c4, stay e64 y4]
      by_cases z : e = o
      · rw [if_pos z, ← z, k1]
        exact ⟨c2 + 1, nI_1 c2, by omega, by omega, fun w => by omega⟩
      · rw [if_neg z]
        exact ⟨c2, k1, k2, by omega, k4⟩
    · obtain ⟨g7, g8⟩ := g6 y
      have ne : ¬ ofB U V (nI v) e = true := fun z => by
        have z0 := nb e e64 z
        have hk0 : 0 < hcK (W k) e := by
          unfold hcK
          rw [if_neg (fun w => w.elim q y), hw.m, ix_nI (by have := hw.md; have := hw.dl; have := hw.l12; omega)]
          exact cnt_pos (i := j) (Nat.zero_le _) (by omega) (by simp [be])
        have : hcW W e = 0 := by omega
        have := sm_z this k (Nat.zero_le _) (by omega)
        omega
      exact ⟨by rw [stay e64 ne]; exact g7, by rw [c4]; exact g8⟩
theorem CntI.unm {U : NodV} {V V' : MemV} {H : OneV} {W : WkV} {n vol t T v o : Nat} (C : CntI V) (i : Inv U V H W n vol t T (fun _ => 0)) (v1 : 1 ≤ v) (v3 : v < 3) (m9 : ¬ V 9 v = -1) (u : UnV U V v o V') : CntI V' := by
  obtain ⟨kk, a1, a5, a6, a9, a10⟩ := u
  have hN := i.N
  have n60 := hN.n60
  rcases i.M.rt v v3 with ⟨y, _⟩ | ⟨y1, r, y2, y3, y4, y5, y6⟩
  · exact absurd y m9
  · obtain ⟨rn, s1, s2, s3, s4, s5⟩ := hN.rts v y1
    have ro : ofB U V (nI v) r = true := ofB_t.mpr ⟨by rw [y4]; exact i10, by
      unfold vl
      rw [y6, s2, if_neg (nI_m1 (by omega)), ix_nI (by omega)]
      exact s5⟩
    unfold CntI at C ⊢
    have p1 : cnt (fun k => decide (¬ V' 1 k = 0)) 0 64 + 1 ≤ cnt (fun k => decide (¬ V 1 k = 0)) 0 64 := by
      have m := cnt_mono (P := fun k => decide (¬ V' 1 k = 0)) (P' := fun k => if k = r then false else decide (¬ V 1 k = 0)) (n := 64) (k := 0) (fun k _ hk q => by
        simp only [decide_eq_true_eq] at q
        by_cases z : k = r
        · subst z
          exact absurd ((a1 k y2).1 ro) q
        · show (if k = r then false else decide (¬ V 1 k = 0)) = true
          rw [if_neg z]
          by_cases w : ofB U V (nI v) k = true
          · exact absurd ((a1 k (by omega)).1 w) q
          · rw [(a1 k (by omega)).2 w] at q
            simp [q])
      have one := cnt_one (P := fun k => decide (¬ V 1 k = 0)) (P' := fun k => if k = r then false else decide (¬ V 1 k = 0)) (e := r) (n := 64) (k := 0) (Nat.zero_le _) (by omega) (fun k _ _ z => if_neg z)
      have q1 : (if decide (¬ V 1 r = 0) = true then 1 else 0) = 1 := by rw [y4]; rfl
      have q2 : (if (if r = r then false else decide (¬ V 1 r = 0)) = true then 1 else 0) = 0 := by rw [if_pos rfl]; rfl
      rw [q1, q2] at one
      omega
    have p2 : cnt (fun w => decide (¬ V' 9 w = -1)) 1 2 + 1 = cnt (fun w => decide (¬ V 9 w = -1)) 1 2 := by
      have one := cnt_one (P := fun w => decide (¬ V 9 w = -1)) (P' := fun w => decide (¬ V' 9 w = -1)) (e := v) (n := 2) (k := 1) v1 (by omega) (fun w _ _ z => by
        show decide (¬ V' 9 w = -1) = decide (¬ V 9 w = -1)
        rw [a9, if_neg z])
      have q1 : (if decide (¬ V 9 v = -1) = true then 1 else 0) = 1 := by rw [if_pos (by simp [m9])]
      have q2 : (if decide (¬ V' 9 v = -1) = true then 1 else 0) = 0 := by
        rw [a9, if_pos rfl]
        rfl
      rw [q1, q2] at one
      omega
    omega
theorem Rel.unm {U : NodV} {V V' : MemV} {H : OneV} {W : WkV} {D D' : RowV} {n vol t T v o : Nat} (r : Rel none U V H W D n) (i : Inv U V H W n vol t T (fun _ => 0)) (v3 : v < 3) (ho : V 10 v = nI o) (o64 : o < 64) (u : UnV U V v o V') (dh : ∀ e, e < 128 → D' (701 + 9 * e + 0) = if e < 64 ∧ ofB U V (nI v) e = true then 0 else D (701 + 9 * e + 0)) (d7 : D' (701 + 9 * o + 7) = -1) (d4 : D' (701 + 9 * o + 4) = D (701 + 9 * o + 4) + 1) (d5 : D' (5 + v) = -1) (d8 : D' (8 + v) = -1) (dd : ∀ j, j ≠ 5 + v → j ≠ 8 + v → j ≠ 701 + 9 * o + 7 → j ≠ 701 + 9 * o + 4 → (∀ e, e < 128 → j ≠ 701 + 9 * e + 0) → D' j = D j) : Rel none U V' H W D' n := by
  obtain ⟨kk, a1, a5, a6, a9, a10⟩ := u
  have n60 := i.N.n60
  have c2 := kk 2 (by decide) (by decide) (by decide) (by decide) (by decide)
  have c3 := kk 3 (by decide) (by decide) (by decide) (by decide) (by decide)
  have c4 := kk 4 (by decide) (by decide) (by decide) (by decide) (by decide)
  have c7 := kk 7 (by decide) (by decide) (by decide) (by decide) (by decide)
  have c8 := kk 8 (by decide) (by decide) (by decide) (by decide) (by decide)
  have c0 := kk 0 (by decide) (by decide) (by decide) (by decide) (by decide)
  have b := r.B
  refine r.fr ⟨?_, ?_, ?_, ?_, ?_, ?_, ?_, ?_, ?_, ?_, ?_⟩ (fun j h1 h2 => dd j (by omega) (by omega) (by omega) (by omega) (fun e _ => by omega)) (fun k z => by cases z)
  · rw [dd _ (by omega) (by omega) (by omega) (by omega) (fun e _ => by omega), c0]; exact b.tk
  · rw [dd _ (by omega) (by omega) (by omega) (by omega) (fun e _ => by omega), c0]; exact b.lo
  · rw [dd _ (by omega) (by omega) (by omega) (by omega) (fun e _ => by omega), c0]; exact b.tr
  · rw [dd _ (by omega) (by omega) (by omega) (by omega) (fun e _ => by omega), c0]; exact b.rm
  · rw [dd _ (by omega) (by omega) (by omega) (by omega) (fun e _ => by omega)]; exact b.ev
  · intro w hw
    rw [a9]
    by_cases z : w = v
    · rw [if_pos z, z]; exact d5
    · rw [if_neg z, dd _ (by omega) (by omega) (by omega) (by omega) (fun e _ => by omega)]; exact b.rt w hw
  · intro w hw
    rw [a10]
    by_cases z : w = v
    · rw [if_pos z, z]; exact d8
    · rw [if_neg z, dd _ (by omega) (by omega) (by omega) (by omega) (fun e _ => by omega)]; exact b.ov w hw
  · intro j hj
    rw [dd _ (by omega) (by omega) (by omega) (by omega) (fun e _ => by omega)]; exact b.ha j hj
  · intro j hj
    rw [dd _ (by omega) (by omega) (by omega) (by omega) (fun e _ => by omega), dd _ (by omega) (by omega) (by omega) (by omega) (fun e _ => by omega), dd _ (by omega) (by omega) (by omega) (by omega) (fun e _ => by omega), dd _ (by omega) (by omega) (by omega) (by omega) (fun e _ => by omega), dd _ (by omega) (by omega) (by omega) (by omega) (fun e _ => by omega)]
    exact b.nd j hj
  · intro f hf
    rw [dh f hf, b.th f hf]
    by_cases c : f < 64
    · by_cases z : ofB U V (nI v) f = true
      · rw [if_pos ⟨c, z⟩, if_neg (fun w => w.2 ((a1 f c).1 z))]
      · rw [if_neg (fun w => z w.2), (a1 f c).2 z]
    · rw [if_neg (fun w => c w.1), if_neg (fun w => c w.1), if_neg (fun w => c w.1)]
  · intro f hf q
    have nf : ¬ ofB U V (nI v) f = true := fun z => q ((a1 f hf).1 z)
    have f0 : ¬ V 1 f = 0 := by rw [← (a1 f hf).2 nf]; exact q
    obtain ⟨e1, e2, e3, e4, e5, e6, e7, e8⟩ := b.en f hf f0
    have x : ∀ j, j = 1 ∨ j = 2 ∨ j = 3 ∨ j = 5 ∨ j = 6 ∨ j = 8 → D' (701 + 9 * f + j) = D (701 + 9 * f + j) := fun j hj => dd _ (by omega) (by omega) (by omega) (by omega) (fun e _ => by omega)
    rw [x 1 (by omega), x 2 (by omega), x 3 (by omega), x 5 (by omega), x 6 (by omega), x 8 (by omega), c2, c3, c4, c7, c8, a6, (a1 f hf).2 nf]
    refine ⟨e1, e2, e3, ?_, e5, e6, ?_, e8⟩
    · by_cases z : f = o
      · rw [if_pos z, z, d4, ← z, e4]
      · rw [if_neg z, dd _ (by omega) (by omega) (by omega) (by omega) (fun e _ => by omega)]; exact e4
    · have ne : ¬ nI f = -1 := nI_m1 (by omega)
      have cq : ∀ V0 : MemV, q_X1_coveringVolume V0 (nI f) = oI (fst? (fun w => decide (V0 10 w = nI f)) 0 3) := fun V0 => by
        unfold q_X1_coveringVolume ql_X1_coveringVolume
        have : f_X1_coveringVolume V0 (nI f) = fst? (fun w => decide (V0 10 w = nI f)) 0 3 := by
          unfold f_X1_coveringVolume
          refine fst_cong (fun k _ _ => ?_)
          rw [if_neg ne]
          by_cases z : V0 10 k = nI f
          · simp [z]
          · simp [z]
        rw [this]
      by_cases z : f = o
      · rw [z, d7, ← z, cq V', fst_no (fun w _ hw => ?_)]
        · rfl
        · simp only [decide_eq_false_iff_not]
          rw [a10]
          by_cases y : w = v
          · rw [if_pos y]
            exact fun s => ne s.symm
          · rw [if_neg y]
            intro s
            exact y (i.M.oi w v (by omega) v3 (by rw [s]; exact ne) (s.trans (by rw [z]; exact ho.symm)))
      · rw [dd _ (by omega) (by omega) (by omega) (by omega) (fun e _ => by omega), e7, cq V, cq V']
        congr 1
        refine fst_cong (fun w _ hw => ?_)
        rw [a10]
        by_cases y : w = v
        · have n1 : ¬ V 10 w = nI f := fun s => by
            rw [y, ho] at s
            exact z ((nI_eq (by omega) (by omega)).mp s).symm
          have n2 : ¬ (-1 : Int32) = nI f := fun s => ne s.symm
          rw [if_pos y]
          simp [n1, n2]
        · rw [if_neg y]
end
section
/-! A volume unmounted: in use, on both sides; the reference's loops. -/
def OkC (x : Nat) : Prop := x ≠ 7 ∧ (x < 55 ∨ 67 ≤ x) ∧ (x < 70 ∨ 134 ≤ x) ∧ (x < 158 ∨ 183 ≤ x) ∧ x ≠ 183 ∧ x ≠ 184 ∧ x ≠ 186 ∧ x ≠ 188 ∧ x ≠ 190 ∧ x ≠ 192 ∧ x ≠ 193 ∧ x ≠ 194 ∧ x ≠ 195 ∧ x ≠ 196 ∧ x ≠ 198 ∧ x ≠ 200 ∧ x ≠ 204 ∧ x ≠ 205 ∧ x ≠ 206 ∧ x ≠ 207
def OkK (j : Nat) : Prop := j ≠ 1 ∧ j ≠ 2 ∧ j ≠ 3 ∧ j ≠ 15 ∧ j ≠ 17 ∧ j ≠ 22 ∧ j ≠ 38
/-- a call that changes nothing that is shown but what was fed, what was refused -/
theorem St.qq {I I' : MI} {J : MJ} {T B0 : Nat} (h : St I J T B0) (h30 : T + 10001 ≤ 1000000000) (s1 : S1 I') (s3 : S3 I') (o : ∀ x, OkC x → I' x = I x) (k : ∀ j, OkK j → I' 188 j = I 188 j) (d : ∀ j, j < 1853 → I' 194 j = I 194 j) : St I' J (T + 10001) B0 := by
  obtain ⟨L, s7⟩ := h.2.2.2.2.2.2.2.1
  have O : ∀ x, (x ≠ 7 ∧ (x < 55 ∨ 67 ≤ x) ∧ (x < 70 ∨ 134 ≤ x) ∧ (x < 158 ∨ 183 ≤ x) ∧ x ≠ 183 ∧ x ≠ 184 ∧ x ≠ 186 ∧ x ≠ 188 ∧ x ≠ 190 ∧ x ≠ 192 ∧ x ≠ 193 ∧ x ≠ 194 ∧ x ≠ 195 ∧ x ≠ 196 ∧ x ≠ 198 ∧ x ≠ 200 ∧ x ≠ 204 ∧ x ≠ 205 ∧ x ≠ 206 ∧ x ≠ 207) → I' x = I x := o
  have K : ∀ j, (j ≠ 1 ∧ j ≠ 2 ∧ j ≠ 3 ∧ j ≠ 15 ∧ j ≠ 17 ∧ j ≠ 22 ∧ j ≠ 38) → I' 188 j = I 188 j := k
  exact h.sm s1 (h.2.2.1.fr (O _ (by omega)) (K _ (by omega)) (K _ (by omega))) s3 (h.2.2.2.2.1.fr (by rw [O 0 (by omega)]) (O _ (by omega)) (K _ (by omega)) (O _ (by omega))) (h.2.2.2.2.2.1.fr (by rw [O 0 (by omega)]) (O _ (by omega)) (K _ (by omega)) (O _ (by omega))) ⟨L, s7.fr (by rw [O 69 (by omega)]) (by rw [O 69 (by omega)]) (fun x _ _ => O x (by omega)) (K _ (by omega)) (K _ (by omega)) (O _ (by omega)) (O _ (by omega))⟩ (h.2.2.2.2.2.2.2.2.1.fr (K _ (by omega)) (K _ (by omega))) (fun x a _ _ _ _ _ => O x (by omega)) (O _ (by omega)) (fun _ => ⟨by rw [O 69 (by omega)], by rw [O 69 (by omega)]⟩) (fun x a => O x (by omega)) (fun j q => K j (by omega)) d (O _ (by omega)) (by omega) h30
theorem w_volumeOf {U : NodV} {V : MemV} {H : OneV} {W : WkV} {D : RowV} {n vol : Nat} (r : Rel none U V H W D n) (hN : NodI U n vol) (hM : MemI U V n vol) {J : MJ} (h : RefL J) (I : MI) (G : RowV) (c : Int32) {e : Nat} (he : e < 64) (h1 : ¬ V 1 e = 0) : M_X10_volumeOf [mR (some 188), mI (nI e)] (rF I D G c, J) = some (some (mI (vl U V e)), (rF I D G c, J)) := by
  have n60 := hN.n60
  have en := r.B.en e he h1
  rw [E_X10_volumeOf]
  simp only [h.kt, if_true, w_its h _ 3 (show (3 : Int32) = nI 3 from rfl) (show e < 128 by omega) (by decide), w_its h _ 1 (show (1 : Int32) = nI 1 from rfl) (show e < 128 by omega) (by decide), Option.bind_some, asI_I, rF_D, en.2.2.1, en.1]
  unfold vl
  by_cases a : V 4 e = -1
  · obtain ⟨p, kp, p1, p2, p3, k1, kk, _⟩ := Inv.absp hN hM he h1 a
    have ep := r.B.en p p1 (by rw [p3]; exact i10)
    rw [if_pos a, if_pos a, p2, ix64 p1, kk, ix_nI (by omega)]
    simp only [h.kt, if_true, w_its h _ 3 (show (3 : Int32) = nI 3 from rfl) (show p < 128 by omega) (by decide), Option.bind_some, asI_I, rF_D, ep.2.2.1, kk, w_nodeHas h _ 0 (show (0 : Int32) = nI 0 from rfl) (show kp < 60 by omega) (by decide), (r.B.nd kp k1).1]
  · obtain ⟨k, k1, kk⟩ := Inv.nod hN hM he h1 a
    rw [if_neg a, if_neg a, kk, ix_nI (by omega)]
    simp only [h.kt, if_true, w_nodeHas h _ 0 (show (0 : Int32) = nI 0 from rfl) (show k < 60 by omega) (by decide), Option.bind_some, asI_I, rF_D, (r.B.nd k k1).1]
theorem cov_q {V : MemV} {f : Nat} (hf : f < 64) : q_X1_coveringVolume V (nI f) = oI (fst? (fun w => decide (V 10 w = nI f)) 0 3) := by
  unfold q_X1_coveringVolume ql_X1_coveringVolume
  have ne : ¬ nI f = -1 := nI_m1 (by omega)
  have : f_X1_coveringVolume V (nI f) = fst? (fun w => decide (V 10 w = nI f)) 0 3 := by
    unfold f_X1_coveringVolume
    refine fst_cong (fun k _ _ => ?_)
    rw [if_neg ne]
    by_cases z : V 10 k = nI f
    · simp [z]
    · simp [z]
  rw [this]
theorem cov_hcV {V : MemV} {f : Nat} (hf : f < 64) : q_X1_coveringVolume V (nI f) = -1 ↔ hcV V f = 0 := by
  rw [cov_q hf]
  unfold hcV
  cases q : fst? (fun w => decide (V 10 w = nI f)) 0 3 with
  | none =>
    have := fst_none q
    exact ⟨fun _ => cnt_zero (fun i a b => this i a b), fun _ => rfl⟩
  | some v =>
    obtain ⟨_, v3, v4, _⟩ := fst_some q
    constructor
    · intro z
      exact absurd z (nI_m1 (show v < 2 ^ 31 by omega))
    · intro z
      have := cnt_z z v (Nat.zero_le _) v3
      rw [v4] at this
      cases this
/-- in use, said once -/
def useB (U : NodV) (V : MemV) (H : OneV) (W : WkV) (x : Int32) (e : Nat) : Bool := decide (e < 64) && (ofB U V x e && decide (0 < hcV V e + (hcH H e + hcW W e)))
theorem useB_t {U : NodV} {V : MemV} {H : OneV} {W : WkV} {x : Int32} {e : Nat} : useB U V H W x e = true ↔ e < 64 ∧ ofB U V x e = true ∧ 0 < hcV V e + (hcH H e + hcW W e) := by
  unfold useB
  simp
theorem busy_q {U : NodV} {V : MemV} {H : OneV} {W : WkV} {n vol t T : Nat} (i : Inv U V H W n vol t T (fun _ => 0)) (x : Int32) : q_X1_isBusy U V x = match fst? (useB U V H W x) 0 64 with
    | some _ => 1
    | none => 0 := by
  have e : f_X1_isBusy U V x = fst? (useB U V H W x) 0 64 := by
    unfold f_X1_isBusy
    refine fst_cong (fun k _ hk => ?_)
    have k64 : k < 64 := by omega
    rw [isOf_q i.N i.M k64 rfl rfl rfl (fun _ _ _ _ => rfl) x]
    by_cases o : ofB U V x k = true
    · rw [if_pos o, if_neg i10]
      obtain ⟨l1, _⟩ := (i.L k k64).2.2 (ofB_t.mp o).1
      simp only [Nat.add_zero] at l1
      have hb : q_X1_heldBelow V (nI k) = nI (hcC V k) := by
        have cc : c_X1_heldBelow V (nI k) = hcC V k := by
          unfold c_X1_heldBelow hcC
          refine cnt_cong (fun j _ _ => ?_)
          by_cases a : V 1 j = 0
          · simp [a]
          · by_cases b : V 2 j = nI k
            · simp [a, b]
            · simp [a, b]
        unfold q_X1_heldBelow ql_X1_heldBelow
        rw [cc]
      have le := i.hle k
      have hs : hc V H W k = hcC V k + hcV V k + (hcH H k + hcW W k) := rfl
      rw [l1, hb]
      by_cases z : 0 < hcV V k + (hcH H k + hcW W k)
      · have : ¬ nI (hc V H W k) ≤ nI (hcC V k) := nI_ge (by omega) (by omega)
        rw [if_neg this, useB_t.mpr ⟨k64, o, z⟩]
      · have : nI (hc V H W k) ≤ nI (hcC V k) := nI_le (by omega) (by omega)
        rw [if_pos this]
        cases q : useB U V H W x k with
        | false => rfl
        | true => exact absurd (useB_t.mp q).2.2 z
    · rw [if_neg o, if_pos rfl]
      cases q : useB U V H W x k with
      | false => rfl
      | true => exact absurd (useB_t.mp q).2.1 o
  unfold q_X1_isBusy ql_X1_isBusy
  rw [e]
  cases fst? (useB U V H W x) 0 64 <;> rfl
theorem w_isInUse {U : NodV} {V : MemV} {H : OneV} {W : WkV} {D : RowV} {n vol t T : Nat} (r : Rel none U V H W D n) (i : Inv U V H W n vol t T (fun _ => 0)) {J : MJ} (h : RefL J) (I : MI) (G : RowV) (c : Int32) (x : Int32) : ∃ G', M_X10_isInUse [mR (some 188), mI x] (rF I D G c, J) = some (some (mI (q_X1_isBusy U V x)), (rF I D G' c, J)) := by
  obtain ⟨c1, c2, c3⟩ := r.ch i
  have s1 := loop_all (fun k G => Ev T_X10_isInUse 2 [some (mR (some 188)), some (mI x), some (mI (nI k))] [] (rF I D G c, J)) (fun k G => sD G k 0) 128 G (fun k G hk => by
    try dsimp only
    rw [E_X10_isInUse_2, if_neg (show ¬ (128 : Int32) ≤ nI k from nI_ge hk (by decide))]
    simp only [h.f19, Option.bind_some, h.stG _ _ rfl hk, rF_sG, nI_1])
  try dsimp only at s1
  rw [show (nI 0) = 0 from rfl] at s1
  have g0 : ∀ e, e < 128 → itr (fun k G => sD G k 0) 0 128 G e = 0 := fun e he => by rw [itr_sD0, if_pos (by omega)]
  generalize itr (fun k G => sD G k 0) 0 128 G = G0 at s1 g0
  obtain ⟨G', g1, g2⟩ := w_countsHands h I D G0 c c1 c2
  have gv : ∀ e, e < 64 → ¬ V 1 e = 0 → G' e = nI (hcH H e + hcW W e) := fun e he q => by
    rw [g2 e (by omega), g0 e (by omega), r.eqh i e, show pnd none V W e = 0 from rfl]
    exact Int32.zero_add _
  refine ⟨G', ?_⟩
  rw [E_X10_isInUse, s1, E_X10_isInUse_2, if_pos (show (128 : Int32) ≤ nI 128 by decide)]
  simp only [h.kt, if_true, g1, Option.bind_some, asV_n]
  have fl := loop_find (fun k => Ev T_X10_isInUse 28 [some (mR (some 188)), some (mI x), some (mI (nI k))] [] (rF I D G' c, J)) (useB U V H W x) (fun _ => some (some (mI 1), (rF I D G' c, J))) 128 (fun k hk => by
    try dsimp only
    rw [E_X10_isInUse_28, if_neg (show ¬ (128 : Int32) ≤ nI k from nI_ge hk (by decide))]
    simp only [h.kt, if_true, w_its h _ 0 (show (0 : Int32) = nI 0 from rfl) hk (by decide), w_its h _ 7 (show (7 : Int32) = nI 7 from rfl) hk (by decide), Option.bind_some, asI_I, rF_D, nI_1, h.f19, h.ldG _ rfl hk, rF_G]
    by_cases l : k < 64 ∧ ¬ V 1 k = 0
    · obtain ⟨k64, v1⟩ := l
      have en := r.B.en k k64 v1
      have le := i.hle k
      have b0 : hcH H k + hcW W k ≤ 200 := by unfold hc at le; omega
      rw [r.B.th1 k64 v1, if_pos rfl, gv k k64 v1, en.2.2.2.2.2.2.1]
      simp only [w_volumeOf r i.N i.M h I G' c k64 v1, Option.bind_some, asI_I]
      by_cases o : vl U V k = x
      · have ob : ofB U V x k = true := ofB_t.mpr ⟨v1, o⟩
        by_cases z : 0 < hcH H k + hcW W k
        · have : (0 : Int32) < nI (hcH H k + hcW W k) := by rw [← nI_0]; exact nI_lt z (by omega)
          rw [if_pos this, if_pos o, if_pos (useB_t.mpr ⟨k64, ob, by omega⟩)]
          simp
        · have z0 : hcH H k + hcW W k = 0 := by omega
          have : ¬ (0 : Int32) < nI (hcH H k + hcW W k) := by rw [z0]; decide
          rw [if_neg this]
          by_cases cv : q_X1_coveringVolume V (nI k) = -1
          · have := (cov_hcV k64).mp cv
            rw [if_pos cv, if_neg (fun w => by have := (useB_t.mp w).2.2; omega)]
          · have : ¬ hcV V k = 0 := fun w => cv ((cov_hcV k64).mpr w)
            rw [if_neg cv, if_pos o, if_pos (useB_t.mpr ⟨k64, ob, by omega⟩)]
            simp
      · have nb : ¬ useB U V H W x k = true := fun w => o (ofB_t.mp (useB_t.mp w).2.1).2
        rw [if_neg nb]
        by_cases z : (0 : Int32) < nI (hcH H k + hcW W k)
        · rw [if_pos z, if_neg o]
        · rw [if_neg z]
          by_cases cv : q_X1_coveringVolume V (nI k) = -1
          · rw [if_pos cv]
          · rw [if_neg cv, if_neg o]
    · have nb : ¬ useB U V H W x k = true := fun w => l ⟨(useB_t.mp w).1, (ofB_t.mp (useB_t.mp w).2.1).1⟩
      rw [r.B.th k hk, if_neg l, if_neg i01, if_neg nb]) 128 0 rfl
  try dsimp only at fl
  rw [show (nI 0) = 0 from rfl] at fl
  rw [fl, busy_q i x]
  have fe : fst? (useB U V H W x) 0 128 = fst? (useB U V H W x) 0 64 := fst_ext (n := 64) (m := 64) (fun k a _ => by
    cases q : useB U V H W x k with
    | false => rfl
    | true => have := (useB_t.mp q).1; omega)
  rw [fe]
  cases fst? (useB U V H W x) 0 64 with
  | some k => rfl
  | none =>
    show Ev T_X10_isInUse 28 [some (mR (some 188)), some (mI x), some (mI (nI 128))] [] (rF I D G' c, J) = _
    rw [E_X10_isInUse_28, if_pos (show (128 : Int32) ≤ nI 128 by decide)]
    simp
theorem itr_pr {b : Nat → Bool} : ∀ (n k : Nat) (A : RowV) (c : Nat), (∀ j, (itr (fun k (a : RowV × Nat) => (sD a.1 k (if b k = true then 1 else 0), a.2 + if b k = true then 1 else 0)) k n (A, c)).1 j = if k ≤ j ∧ j < k + n then (if b j = true then 1 else 0) else A j) ∧ (itr (fun k (a : RowV × Nat) => (sD a.1 k (if b k = true then 1 else 0), a.2 + if b k = true then 1 else 0)) k n (A, c)).2 = c + cnt b k n
  | 0, k, A, c => ⟨fun j => by
      show A j = _
      rw [if_neg (by omega)], rfl⟩
  | n + 1, k, A, c => by
    obtain ⟨i1, i2⟩ := itr_pr (b := b) n (k + 1) (sD A k (if b k = true then 1 else 0)) (c + if b k = true then 1 else 0)
    refine ⟨fun j => ?_, ?_⟩
    · show (itr _ (k + 1) n (sD A k (if b k = true then 1 else 0), c + if b k = true then 1 else 0)).1 j = _
      rw [i1]
      unfold sD
      by_cases z : j = k
      · subst z
        rw [if_neg (show ¬ (j + 1 ≤ j ∧ j < j + 1 + n) by omega), if_pos rfl, if_pos (show j ≤ j ∧ j < j + (n + 1) by omega)]
      · by_cases y : k + 1 ≤ j ∧ j < k + 1 + n
        · rw [if_pos y, if_pos (show k ≤ j ∧ j < k + (n + 1) by omega)]
        · rw [if_neg y, if_neg z, if_neg (show ¬ (k ≤ j ∧ j < k + (n + 1)) by omega)]
    · show (itr _ (k + 1) n (sD A k (if b k = true then 1 else 0), c + if b k = true then 1 else 0)).2 = _
      rw [i2]
      show _ = c + ((if b k = true then 1 else 0) + cnt b (k + 1) n)
      omega
/-- the entries of A are gone -/
def gnD (A : RowV) (k : Nat) (D : RowV) : RowV := if A k = 0 then D else sD D (701 + 9 * k + 0) 0
theorem itr_gn (A : RowV) : ∀ (n k : Nat) (D : RowV) (j : Nat), (∀ i, k ≤ i → i < k + n → j ≠ 701 + 9 * i + 0) → itr (gnD A) k n D j = D j
  | 0, k, D, j, _ => rfl
  | n + 1, k, D, j, h => by
    show itr (gnD A) (k + 1) n (gnD A k D) j = D j
    rw [itr_gn A n (k + 1) _ j (fun i a b => h i (by omega) (by omega))]
    unfold gnD
    by_cases z : A k = 0
    · rw [if_pos z]
    · rw [if_neg z, sD_n _ _ (h k (Nat.le_refl _) (by omega))]
theorem itr_gn_at (A : RowV) : ∀ (n k : Nat) (D : RowV) (i : Nat), k ≤ i → i < k + n → itr (gnD A) k n D (701 + 9 * i + 0) = if A i = 0 then D (701 + 9 * i + 0) else 0
  | 0, k, D, i, h1, h2 => by omega
  | n + 1, k, D, i, h1, h2 => by
    show itr (gnD A) (k + 1) n (gnD A k D) (701 + 9 * i + 0) = _
    by_cases z : i = k
    · subst z
      rw [itr_gn A n (i + 1) _ _ (fun j a b => by omega)]
      unfold gnD
      by_cases y : A i = 0
      · rw [if_pos y, if_pos y]
      · rw [if_neg y, if_neg y, sD_s]
    · rw [itr_gn_at A n (k + 1) _ i (by omega) (by omega)]
      have : gnD A k D (701 + 9 * i + 0) = D (701 + 9 * i + 0) := by
        unfold gnD
        by_cases y : A k = 0
        · rw [if_pos y]
        · rw [if_neg y, sD_n _ _ (by omega)]
      rw [this]
end
section
/-! A volume unmounted: the pair. -/
theorem kpR_rF (I1 : MI) (G : RowV) (p q : Nat) : kpR (rF I1 (I1 194) G (I1 188 22)) p q = rF (kpR I1 p q) (I1 194) G (I1 188 22) := by
  funext x
  by_cases x199 : x = 199
  · subst x199
    rw [rF_o _ _ _ _ (by decide) (by decide) (by decide)]
    unfold kpR
    rw [rw1_s, rw1_s, rF_D, rF_o _ _ _ _ (by decide) (by decide) (by decide)]
  · by_cases x188 : x = 188
    · subst x188
      funext j
      by_cases j28 : j = 28
      · subst j28
        rw [(kpR_29 _ _ _).2, rF_k _ _ _ _ (by decide), (kpR_29 _ _ _).2]
      · by_cases j29 : j = 29
        · subst j29
          rw [(kpR_29 _ _ _).1, rF_k _ _ _ _ (by decide), (kpR_29 _ _ _).1]
        · rw [kpR_k _ _ _ j28 j29]
          by_cases j22 : j = 22
          · subst j22
            rw [rF_c, rF_c]
          · rw [rF_k _ _ _ _ j22, rF_k _ _ _ _ j22, kpR_k _ _ _ j28 j29]
    · rw [kpR_o _ _ _ x188 x199]
      by_cases x194 : x = 194
      · subst x194
        rw [rF_D, rF_D]
      · by_cases x195 : x = 195
        · subst x195
          rw [rF_G, rF_G]
        · rw [rF_o _ _ _ _ x188 x194 x195, rF_o _ _ _ _ x188 x194 x195, kpR_o _ _ _ x188 x199]
/-- an act without a path, with rows besides -/
theorem fin0g {I I1 Z Z2 : MI} {J1 J2 : MJ} {T B0 vol nn t : Nat} {U : NodV} {V : MemV} {H : OneV} {W : WkV} {D' G' : RowV} {c' : Int32} (fin : ∀ I2 J2, (∀ x, x ≠ 188 → x ≠ 190 → x ≠ 192 → x ≠ 194 → x ≠ 195 → x ≠ 198 → x ≠ 201 → x ≠ 200 → I2 x = Z x) → (∀ k, k ≠ 15 → k ≠ 22 → k ≠ 32 → I2 188 k = Z 188 k) → S3 I2 → S5 I2 → Wd I2 1 17 29 31 (I2 194) vol (T + 10001) → S6 J2 → J2.2 = J1.2 → St I2 J2 (T + 10001) B0) (zf : ZF I I1 Z) (zk : ∀ k, k ≠ 28 → k ≠ 29 → Z 188 k = I 188 k) (z201 : Z 201 = I 201) (s3 : S3 I) (s5 : S5 I) (s6 : S6 J2) (j2 : J2.2 = J1.2) (i186 : I1 186 = I 186) (i0 : I1 0 14 = I 0 14) (i187 : I1 187 = I 187) (hz : ∀ x, x ≠ 188 → x ≠ 192 → x ≠ 198 → x ≠ 200 → Z2 x = Z x) (hk : ∀ k, k ≠ 15 → Z2 188 k = Z 188 k) (w : Win I1 U V H W) (i : Inv U V H W nn vol t (T + 10001) (fun _ => 0)) (c : CntI V) (r : Rel none U V H W D' nn) : St (rF Z2 D' G' c') J2 (T + 10001) B0 := by
  obtain ⟨zD, z20, z21, zl, z190, _⟩ := zf
  have w2 := w.z zl
  have e : ∀ x, x ≠ 188 → x ≠ 192 → x ≠ 194 → x ≠ 195 → x ≠ 198 → x ≠ 200 → rF Z2 D' G' c' x = Z x := fun x a b d f g p => by rw [rF_o _ _ _ _ a d f, hz x a b g p]
  refine fin _ J2 (fun x a _ b d f g _ p => e x a b d f g p) (fun k a b _ => by rw [rF_k _ _ _ _ b, hk k a]) (s3.fr ?_ ?_) (s5.fr ?_ ?_ ?_ ?_) (Wd.mk i c r ?_ ?_ ?_ (fun k hk => ?_) (rF_D _ _ _ _)) s6 j2
  · rw [e _ (by decide) (by decide) (by decide) (by decide) (by decide) (by decide), zl 186 (by decide)]; exact i186
  · rw [e _ (by decide) (by decide) (by decide) (by decide) (by decide) (by decide), z190]
  · rw [e _ (by decide) (by decide) (by decide) (by decide) (by decide) (by decide), zl 0 (by decide)]; exact i0
  · rw [e _ (by decide) (by decide) (by decide) (by decide) (by decide) (by decide), zl 187 (by decide)]; exact i187
  · rw [rF_k _ _ _ _ (by decide), hk 32 (by decide), zk 32 (by decide) (by decide)]
  · rw [e _ (by decide) (by decide) (by decide) (by decide) (by decide) (by decide)]; exact z201
  · rw [vw_fr (I := Z) (fun x _ _ => e x (by omega) (by omega) (by omega) (by omega) (by omega) (by omega))]; exact w2.1
  · rw [vw_fr (I := Z) (fun x _ _ => e x (by omega) (by omega) (by omega) (by omega) (by omega) (by omega))]; exact w2.2.1
  · rw [vw_fr (I := Z) (fun x _ _ => e x (by omega) (by omega) (by omega) (by omega) (by omega) (by omega))]; exact w2.2.2.1
  · rw [wks_fr (I := Z) (fun x _ _ => e x (by omega) (by omega) (by omega) (by omega) (by omega) (by omega)) hk]; exact w2.2.2.2 k hk
/-- the reference's loops -/
theorem w_unm57 {U : NodV} {V : MemV} {H : OneV} {W : WkV} {D : RowV} {n vol t T v o : Nat} (r : Rel none U V H W D n) (i : Inv U V H W n vol t T (fun _ => 0)) {J : MJ} (h : RefL J) (Z : MI) (G : RowV) (c : Int32) (v3 : v < 3) (o64 : o < 64) : ∃ A D', Ev T_X10_unmount 57 [some (mR (some 188)), some (mI (nI v)), some (mI (nI o)), some (mI 0), some (mI 0)] [] (rF Z D G c, J) = some (some (mI (nI (cnt (ofB U V (nI v)) 0 64))), (rF (rw1 Z 200 A) D' G c, J)) ∧ (∀ e, e < 128 → D' (701 + 9 * e + 0) = if e < 64 ∧ ofB U V (nI v) e = true then 0 else D (701 + 9 * e + 0)) ∧ D' (701 + 9 * o + 7) = -1 ∧ D' (701 + 9 * o + 4) = D (701 + 9 * o + 4) + 1 ∧ D' (5 + v) = -1 ∧ D' (8 + v) = -1 ∧ ∀ j, j ≠ 5 + v → j ≠ 8 + v → j ≠ 701 + 9 * o + 7 → j ≠ 701 + 9 * o + 4 → (∀ e, e < 128 → j ≠ 701 + 9 * e + 0) → D' j = D j := by
  have f30 : ∀ X : MI, fR (X, J) 10 188 30 = some (some 200) := fun X => by rw [fR_ok 30 h.k, h.r30]
  have st2 : ∀ (X : MI) (k : Nat) (y : Int32), k < 128 → st (X, J) 12 200 (nI k) y = some (up2 X 200 k y, J) := fun X k y hk => by
    rw [st_ok _ _ h.s30 (inb_nI hk (by decide)), show (nI k).toNatClampNeg = k from ix_nI (by omega)]
  have ld2 : ∀ (X : MI) (k : Nat), k < 128 → ld (X, J) 12 200 (nI k) = some (X 200 k) := fun X k hk => by
    rw [ld_ok _ h.s30 (inb_nI hk (by decide)), show (nI k).toNatClampNeg = k from ix_nI (by omega)]
  have u2 : ∀ (A D G : RowV) (c : Int32) (k : Nat) (y : Int32), up2 (rF (rw1 Z 200 A) D G c) 200 k y = rF (rw1 Z 200 (sD A k y)) D G c := fun A D G c k y => by
    rw [rF_so _ _ _ _ _ (by decide) (by decide) (by omega), rw1_st]
  have r2 : ∀ (A D G : RowV) (c : Int32), rF (rw1 Z 200 A) D G c 200 = A := fun A D G c => by rw [rF_o _ _ _ _ (by decide) (by decide) (by decide), rw1_s]
  have nb1 : vp_nar .boolean 1 = 1 := rfl
  have nb0 : vp_nar .boolean 0 = 0 := rfl
  have s57 := loop_all (fun k (a : RowV × Nat) => Ev T_X10_unmount 57 [some (mR (some 188)), some (mI (nI v)), some (mI (nI o)), some (mI (nI a.2)), some (mI (nI k))] [] (rF (rw1 Z 200 a.1) D G c, J)) (fun k (a : RowV × Nat) => (sD a.1 k (if (decide (k < 64) && ofB U V (nI v) k) = true then 1 else 0), a.2 + if (decide (k < 64) && ofB U V (nI v) k) = true then 1 else 0)) 128 (Z 200, 0) (fun k a hk => by
    obtain ⟨A, m⟩ := a
    try dsimp only
    rw [E_X10_unmount_57, if_neg (show ¬ (128 : Int32) ≤ nI k from nI_ge hk (by decide))]
    simp only [h.kt, if_true, w_its h _ 0 (show (0 : Int32) = nI 0 from rfl) hk (by decide), Option.bind_some, asI_I, rF_D, f30, st2 _ k _ hk, ld2 _ k hk, u2, r2, w_flag, nI_1, nb1, nb0, sD_s]
    by_cases l : k < 64 ∧ ¬ V 1 k = 0
    · obtain ⟨k64, v1⟩ := l
      rw [r.B.th1 k64 v1, if_pos rfl]
      simp only [w_volumeOf r i.N i.M h _ G c k64 v1, Option.bind_some, asI_I]
      by_cases ob : vl U V k = nI v
      · have bt : (decide (k < 64) && ofB U V (nI v) k) = true := by
          rw [ofB_t.mpr ⟨v1, ob⟩]
          simp [k64]
        rw [if_pos ob, if_pos bt, if_pos bt]
        simp only [Option.bind_some, st2 _ k _ hk, u2, f30, ld2 _ k hk, r2, sD_s, if_neg i10, nI_1]
      · have bt : ¬ (decide (k < 64) && ofB U V (nI v) k) = true := fun w => by
          simp only [Bool.and_eq_true] at w
          exact ob (ofB_t.mp w.2).2
        rw [if_neg ob, if_neg bt, if_neg bt]
        simp only [Option.bind_some, st2 _ k _ hk, u2, f30, ld2 _ k hk, r2, sD_s, if_true]
        rw [Nat.add_zero m, show nI m + 0 = nI m from Int32.add_zero _]
    · have bt : ¬ (decide (k < 64) && ofB U V (nI v) k) = true := fun w => by
        simp only [Bool.and_eq_true, decide_eq_true_eq] at w
        exact l ⟨w.1, (ofB_t.mp w.2).1⟩
      rw [r.B.th k hk, if_neg l, if_neg i01, if_neg bt, if_neg bt, Nat.add_zero m])
  try dsimp only at s57
  rw [rw1_id, show (nI 0) = 0 from rfl] at s57
  obtain ⟨p1, p2⟩ := itr_pr (b := fun k => decide (k < 64) && ofB U V (nI v) k) 128 0 (Z 200) 0
  generalize itr (fun k (a : RowV × Nat) => (sD a.1 k (if (decide (k < 64) && ofB U V (nI v) k) = true then (1 : Int32) else 0), a.2 + if (decide (k < 64) && ofB U V (nI v) k) = true then 1 else 0)) 0 128 (Z 200, 0) = AA at s57 p1 p2
  obtain ⟨A, N⟩ := AA
  have p1 : ∀ j, A j = if 0 ≤ j ∧ j < 0 + 128 then (if (decide (j < 64) && ofB U V (nI v) j) = true then 1 else 0) else Z 200 j := p1
  have p2 : N = 0 + cnt (fun k => decide (k < 64) && ofB U V (nI v) k) 0 128 := p2
  have s57 : Ev T_X10_unmount 57 [some (mR (some 188)), some (mI (nI v)), some (mI (nI o)), some (mI 0), some (mI 0)] [] (rF Z D G c, J) = Ev T_X10_unmount 57 [some (mR (some 188)), some (mI (nI v)), some (mI (nI o)), some (mI (nI N)), some (mI (nI 128))] [] (rF (rw1 Z 200 A) D G c, J) := s57
  have nN : N = cnt (ofB U V (nI v)) 0 64 := by
    rw [p2, Nat.zero_add, show (128 : Nat) = 64 + 64 from rfl, cnt_add, cnt_zero (k := 0 + 64) (fun k a b => by
      have : ¬ k < 64 := by omega
      simp [this]), Nat.add_zero]
    exact cnt_cong (fun k _ hk => by
      have : k < 64 := by omega
      simp [this])
  have s131 := loop_all (fun k D => Ev T_X10_unmount 131 [some (mR (some 188)), some (mI (nI v)), some (mI (nI o)), some (mI (nI N)), some (mI (nI k))] [] (rF (rw1 Z 200 A) D G c, J)) (gnD A) 128 D (fun k D hk => by
    try dsimp only
    rw [E_X10_unmount_131, if_neg (show ¬ (128 : Int32) ≤ nI k from nI_ge hk (by decide))]
    simp only [f30, Option.bind_some, ld2 _ k hk, r2, h.f18, w_entryAt _ k 0 (show (0 : Int32) = nI 0 from rfl), asI_I, h.stD _ _ rfl (show 701 + 9 * k + 0 < 1853 by omega), rF_sD, nI_1]
    unfold gnD
    by_cases z : A k = 0
    · rw [if_pos z, if_pos z]
    · rw [if_neg z, if_neg z])
  try dsimp only at s131
  rw [show (nI 0) = 0 from rfl] at s131
  have d1 := fun j hj => itr_gn A 128 0 D j hj
  have d2 := fun e (he : e < 128) => itr_gn_at A 128 0 D e (Nat.zero_le _) (by omega)
  generalize itr (gnD A) 0 128 D = D1 at s131 d1 d2
  have e5 : (5 : Int32) + nI v = nI (5 + v) := nI_add 5 v
  have e8 : (8 : Int32) + nI v = nI (8 + v) := nI_add 8 v
  refine ⟨A, sD (sD (sD (sD D1 (701 + 9 * o + 7) (-1)) (701 + 9 * o + 4) (D1 (701 + 9 * o + 4) + 1)) (5 + v) (-1)) (8 + v) (-1), ?_, fun e he => ?_, ?_, ?_, ?_, sD_s _ _ _, fun j h1 h2 h3 h4 h5 => ?_⟩
  · rw [s57, E_X10_unmount_57, if_pos (show (128 : Int32) ≤ nI 128 by decide), s131, E_X10_unmount_131, if_pos (show (128 : Int32) ≤ nI 128 by decide), ← nN]
    simp only [h.f18, Option.bind_some, w_entryAt _ o 7 (show (7 : Int32) = nI 7 from rfl), w_entryAt _ o 4 (show (4 : Int32) = nI 4 from rfl), asI_I, h.stD _ _ (show nI (701 + 9 * o + 7) = nI (701 + 9 * o + 7) from rfl) (show 701 + 9 * o + 7 < 1853 by omega), h.stD _ _ (show nI (701 + 9 * o + 4) = nI (701 + 9 * o + 4) from rfl) (show 701 + 9 * o + 4 < 1853 by omega), h.ldD _ (show nI (701 + 9 * o + 4) = nI (701 + 9 * o + 4) from rfl) (show 701 + 9 * o + 4 < 1853 by omega), rF_sD, rF_D, h.stD _ _ e5 (show 5 + v < 1853 by omega), h.stD _ _ e8 (show 8 + v < 1853 by omega), sD_n D1 (-1 : Int32) (show 701 + 9 * o + 4 ≠ 701 + 9 * o + 7 by omega)]
  · rw [sD_n _ _ (by omega), sD_n _ _ (by omega), sD_n _ _ (by omega), sD_n _ _ (by omega), d2 e he, p1, if_pos (show 0 ≤ e ∧ e < 0 + 128 by omega)]
    by_cases z : e < 64 ∧ ofB U V (nI v) e = true
    · have bt : (decide (e < 64) && ofB U V (nI v) e) = true := by
        rw [z.2]
        simp [z.1]
      rw [if_pos z, if_pos bt, if_neg i10]
    · have bt : ¬ (decide (e < 64) && ofB U V (nI v) e) = true := fun w => by
        simp only [Bool.and_eq_true, decide_eq_true_eq] at w
        exact z w
      rw [if_neg z, if_neg bt, if_pos rfl]
  · rw [sD_n _ _ (by omega), sD_n _ _ (by omega), sD_n _ _ (by omega), sD_s]
  · rw [sD_n _ _ (by omega), sD_n _ _ (by omega), sD_s, d1 _ (fun e _ _ => by omega)]
  · rw [sD_n _ _ (by omega), sD_s]
  · rw [sD_n _ _ h2, sD_n _ _ h1, sD_n _ _ h4, sD_n _ _ h3, d1 j (fun e _ he => h5 e (by omega))]
end
section
/-! A volume unmounted: the pair. -/
theorem P_unmount {I : MI} {J : MJ} {T B0 : Nat} (h : St I J T B0) (h30 : T + 10001 ≤ 1000000000) (x : Int32) : Pair I J T B0 (M_X9_unmount [mR (some 0), mI x]) (M_X10_unmount [mR (some 188), mI x]) := by
  rcases h.2.2.2.2.2.2.2.2.2 with td | u
  · have td' := td
    obtain ⟨vol0, ad, p, q, hv0, td13, _, hs⟩ := td'
    obtain ⟨vol, nn, t, X, J1, hv, i, c, r, k1, kl, rl, wf, xo, j6, _, rest⟩ := act_pre0 h h30 td
    have e1 := wf.1
    have e2 := wf.2.1
    have e3 := wf.2.2.1
    have e4 := wf.2.2.2.1
    have n60 := i.N.n60
    have vol3 := i.N.v3
    have refs : ∀ (Y : MI), Y 188 13 = I 188 13 → Y 188 11 = I 188 11 → Y 194 = I 194 → (x = 0 ∨ q_X2_hasVolume (vw 6 I 1) x = 0 ∨ ∃ v, v < 3 ∧ x = nI v ∧ I 194 (5 + v) = -1) → M_X10_unmount [mR (some 188), mI x] (Y, J) = some (some (mI (-1)), (rfR Y 3, J)) := fun Y y13 y11 y94 hc => by
      have iv := w_isVolume h.1.2 Y (by rw [y13]; exact td13) (by rw [y11]; exact hv) vol3.1 vol3.2 i.N.vs x
      rw [E_X10_unmount]
      simp only [h.1.2.kt, if_true, iv, Option.bind_some, asI_I, w_refuses h.1.2 Y (show (3 : Int32) = nI 3 from rfl) (by decide)]
      by_cases a : q_X2_hasVolume (vw 6 I 1) x = 0
      · rw [if_pos a]
      · rw [if_neg a]
        by_cases b : x = 0
        · rw [if_pos b]
        · rw [if_neg b]
          obtain ⟨v, v3, xv, dv⟩ := (hc.resolve_left b).resolve_left a
          subst xv
          have e5 : (5 : Int32) + nI v = nI (5 + v) := nI_add 5 v
          simp only [h.1.2.f18, Option.bind_some, h.1.2.ldD _ e5 (show 5 + v < 1853 by omega), y94, dv, if_true]
    have no : (x = 0 ∨ q_X1_isMounted (vw 12 I 17) x = 0) → (x = 0 ∨ q_X2_hasVolume (vw 6 I 1) x = 0 ∨ ∃ v, v < 3 ∧ x = nI v ∧ I 194 (5 + v) = -1) → Pair I J T B0 (M_X9_unmount [mR (some 0), mI x]) (M_X10_unmount [mR (some 188), mI x]) := fun a b =>
      Pair.no h h30 (k := 3) (by decide) (u_unmount_no h.1.1 I x (a.imp id Or.inl)) (refs _ (by rw [rfz_o _ _ (by decide)]) (by rw [rfz_o _ _ (by decide)]) (rfz_o _ _ (by decide)) b)
    by_cases x0 : x = 0
    · exact no (Or.inl x0) (Or.inl x0)
    · by_cases mt : q_X1_isMounted (vw 12 I 17) x = 0
      · refine no (Or.inr mt) (Or.inr ?_)
        by_cases hvol : q_X2_hasVolume (vw 6 I 1) x = 0
        · exact Or.inl hvol
        · right
          unfold q_X2_hasVolume at hvol
          unfold q_X1_isMounted at mt
          by_cases a : x < 0
          · rw [if_pos a] at hvol; exact absurd rfl hvol
          · rw [if_neg a] at hvol mt
            by_cases b : (3 : Int32) ≤ x
            · rw [if_pos b] at hvol; exact absurd rfl hvol
            · rw [if_neg b] at mt
              have l3 : ix x < 3 := by
                rcases Nat.lt_or_ge (ix x) 3 with z | z
                · exact z
                · exact absurd (by rw [nI_ix a]; exact nI_le (a := 3) z (ix_lt x)) b
              by_cases d : vw 12 I 17 9 (ix x) = -1
              · exact ⟨ix x, l3, nI_ix a, (r.B.rt _ l3).trans d⟩
              · rw [if_neg d] at mt; exact absurd mt (by decide)
      · -- it is mounted
        have xn : ¬ x < 0 := fun z => mt (by unfold q_X1_isMounted; rw [if_pos z])
        have xv : x = nI (ix x) := nI_ix xn
        have xl := ix_lt x
        generalize ix x = v at xv xl
        subst xv
        have v3 : v < 3 := by
          rcases Nat.lt_or_ge v 3 with z | z
          · exact z
          · refine absurd ?_ mt
            unfold q_X1_isMounted
            rw [if_neg xn, if_pos (show (3 : Int32) ≤ nI v from nI_le (a := 3) z (by omega))]
        have m9 : ¬ vw 12 I 17 9 v = -1 := fun z => mt (by
          unfold q_X1_isMounted
          rw [if_neg xn, if_neg (show ¬ (3 : Int32) ≤ nI v from nI_ge (b := 3) v3 (by decide)), ix_nI (by omega), if_pos z])
        have v1 : 1 ≤ v := by
          rcases Nat.eq_zero_or_pos v with z | z
          · exact absurd (by rw [z]; rfl) x0
          · exact z
        have vv : v < vol := by
          rcases i.M.rt v v3 with ⟨z, _⟩ | ⟨z, _⟩
          · exact absurd z m9
          · exact z
        have hvol : ¬ q_X2_hasVolume (vw 6 I 1) (nI v) = 0 := by
          unfold q_X2_hasVolume
          rw [if_neg xn, if_neg (show ¬ (3 : Int32) ≤ nI v from nI_ge (b := 3) v3 (by decide)), i.N.vs, if_neg (nI_ge vv (by omega))]
          exact i10
        have e5 : (5 : Int32) + nI v = nI (5 + v) := nI_add 5 v
        have e8 : (8 : Int32) + nI v = nI (8 + v) := nI_add 8 v
        have d5 : ¬ I 194 (5 + v) = -1 := by rw [r.B.rt v v3]; exact m9
        by_cases bz' : q_X1_isBusy (vw 6 I 1) (vw 12 I 17) (nI v) = 0
        · -- it goes
          obtain ⟨o, o64, ho, _, _, _⟩ := i.M.ov v v1 v3 m9
          have nb : ∀ e, e < 64 → ofB (vw 6 I 1) (vw 12 I 17) (nI v) e = true → hcV (vw 12 I 17) e + (hcH (vw 1 I 29) e + hcW (wks I 31) e) = 0 := fun e he w => by
            rw [busy_q i (nI v)] at bz'
            cases qf : fst? (useB (vw 6 I 1) (vw 12 I 17) (vw 1 I 29) (wks I 31) (nI v)) 0 64 with
            | some k => rw [qf] at bz'; exact absurd bz' i10
            | none =>
              have := fst_none qf e (Nat.zero_le _) (by omega)
              rcases Nat.eq_zero_or_pos (hcV (vw 12 I 17) e + (hcH (vw 1 I 29) e + hcW (wks I 31) e)) with y | y
              · exact y
              · rw [useB_t.mpr ⟨he, w, y⟩] at this
                cases this
          obtain ⟨g, o1, no'⟩ := unm_pre i v3 nb ho o64
          obtain ⟨uv', qd⟩ := unm_rows i.N i.M v3 g ho o64 o1 no'
          have uE := u_unmount h.1.1 I (nI v) x0 mt bz' k1 kl
          rw [e1, e2] at uE
          have ip := i.T (show T ≤ T + 10000 by omega) (by omega)
          have i2 := ip.unm (by omega) v1 v3 m9 nb ho o64 uv'
          have c2 := c.unm i v1 v3 m9 uv'
          have r2 := fun D' a b d e f g => r.unm (D' := D') i v3 ho o64 uv' a b d e f g
          have hm : q_X1_howMany (vw 12 I 17) - q_X1_howMany (gV_X1_dropVolume (vw 6 I 1) (vw 12 I 17) (nI v)) = nI (cnt (ofB (vw 6 I 1) (vw 12 I 17) (nI v)) 0 64) := by
            have sp : c_X1_howMany (vw 12 I 17) = c_X1_howMany (gV_X1_dropVolume (vw 6 I 1) (vw 12 I 17) (nI v)) + cnt (ofB (vw 6 I 1) (vw 12 I 17) (nI v)) 0 64 := by
              unfold c_X1_howMany
              refine cnt_split (fun k _ hk => ?_)
              have a1 := uv'.2.1 k (by omega)
              by_cases w : ofB (vw 6 I 1) (vw 12 I 17) (nI v) k = true
              · have := (ofB_t.mp w).1
                rw [a1.1 w, w]
                simp [this]
              · rw [a1.2 w, if_neg w, Nat.add_zero]
            show nI (c_X1_howMany (vw 12 I 17)) - nI (c_X1_howMany (gV_X1_dropVolume (vw 6 I 1) (vw 12 I 17) (nI v))) = _
            rw [nI_sub (by omega), sp, Nat.add_sub_cancel_left]
          rw [qd, hm] at uE
          clear uv' qd hm
          generalize gV_X1_dropVolume (vw 6 I 1) (vw 12 I 17) (nI v) = V' at uE i2 c2 r2
          have oX : ∀ y, y < 17 ∨ 29 ≤ y → pt X 17 V' y = X y := fun y w => pt_out (by omega)
          generalize hI1 : pt X 17 V' = I1 at uE oX
          have v17 : vw 12 I1 17 = V' := by rw [← hI1]; exact vw_pt _ _ _
          obtain ⟨Z, z1, zf, zo, zk, fin⟩ := rest I1 (fun y w _ _ => oX y (by omega)) (by rw [oX 0 (by omega), xo 0 (by decide) (by decide)])
          have lo : ∀ y, 188 ≤ y → y < 208 → I1 y = I y := fun y p q => by rw [oX y (by omega), xo y (by omega) (by omega)]
          obtain ⟨G', iu⟩ := w_isInUse r i rl I1 (I1 195) (I1 188 22) (nI v)
          have id1 : rF I1 (I 194) (I1 195) (I1 188 22) = I1 := by rw [← lo 194 (by decide) (by decide)]; exact rF_id _
          rw [id1, bz'] at iu
          have p28 : I 188 28 = nI q := hs.2.1.1
          have p29 : I 188 29 = nI p := hs.2.1.2
          have kz := w_keeps rl I1 (p := p) (q := q) (by rw [lo 188 (by decide) (by decide)]; exact p29) hs.1.2.1 (by rw [lo 188 (by decide) (by decide)]; exact p28) hs.1.2.2.2
          have zE : Z = kpR I1 ((p + 1) % 20) (min (q + 1) 20) := by
            have := z1.symm.trans kz
            injection this with w
            injection w with _ w
            injection w
          have kz2 : M_X10_keeps [mR (some 188)] (rF I1 (I 194) G' (I1 188 22), J1) = some (none, (rF Z (I 194) G' (I1 188 22), J1)) := by
            have := w_keeps rl (rF I1 (I 194) G' (I1 188 22)) (p := p) (q := q) (by rw [rF_k _ _ _ _ (by decide), lo 188 (by decide) (by decide)]; exact p29) hs.1.2.1 (by rw [rF_k _ _ _ _ (by decide), lo 188 (by decide) (by decide)]; exact p28) hs.1.2.2.2
            rw [this, ← lo 194 (by decide) (by decide), kpR_rF, ← zE]
          obtain ⟨A, D', ev, dh, d7, d4, dd5, dd8, dd⟩ := w_unm57 r i rl Z G' (I1 188 22) v3 o64
          have r3 := r2 D' dh d7 d4 dd5 dd8 dd
          refine ⟨_, _, rF (rw1 Z 200 A) D' G' (I1 188 22), J1, uE, ?_, fin0g fin zf zk (by rw [zo 201 (by decide) (by decide), lo 201 (by decide) (by decide)]) h.2.2.2.1 h.2.2.2.2.2.1 j6 rfl (by rw [oX 186 (by omega), xo 186 (by decide) (by decide)]) (by rw [oX 0 (by omega), xo 0 (by decide) (by decide)]) (by rw [oX 187 (by omega), xo 187 (by decide) (by decide)]) (fun y _ _ _ w => rw1_n _ _ w) (fun k _ => by rw [rw1_n _ _ (by decide)]) ⟨?_, v17, ?_, fun j hj => ?_⟩ i2 c2 r3⟩
          · have iv := w_isVolume rl I1 (by rw [lo 188 (by decide) (by decide)]; exact td13) (by rw [lo 188 (by decide) (by decide)]; exact hv) vol3.1 vol3.2 i.N.vs (nI v)
            have d8 : I 194 (8 + v) = nI o := (r.B.ov v v3).trans ho
            rw [E_X10_unmount]
            simp only [rl.kt, if_true, iv, Option.bind_some, asI_I, if_neg hvol, if_neg x0, rl.f18, rl.ldD _ e5 (show 5 + v < 1853 by omega), lo 194 (by decide) (by decide), if_neg d5, iu, kz2, asV_n, rl.ldD _ e8 (show 8 + v < 1853 by omega), rF_D, d8, ev]
          · rw [← e1]; exact vw_fr (fun y _ _ => oX y (by omega))
          · rw [← e3]; exact vw_fr (fun y _ _ => oX y (by omega))
          · rw [wks_fr (I := I) (fun y p q => by rw [oX y (by omega), e4 y p (by omega)]) hj]; exact WkEq.refl _
        · -- it is in use
          have y94 : rfz I 3 194 = I 194 := rfz_o _ _ (by decide)
          have y188 : rfz I 3 188 = I 188 := rfz_o _ _ (by decide)
          obtain ⟨G', iu⟩ := w_isInUse r i h.1.2 (rfz I 3) (rfz I 3 195) (rfz I 3 188 22) (nI v)
          have id1 : rF (rfz I 3) (I 194) (rfz I 3 195) (rfz I 3 188 22) = rfz I 3 := by rw [← y94]; exact rF_id _
          rw [id1] at iu
          have iv := w_isVolume h.1.2 (rfz I 3) (by rw [y188]; exact td13) (by rw [y188]; exact hv) vol3.1 vol3.2 i.N.vs (nI v)
          refine ⟨-1, _, rfR (rF (rfz I 3) (I 194) G' (rfz I 3 188 22)) 3, J, u_unmount_no h.1.1 I (nI v) (Or.inr (Or.inr bz')), ?_, ?_⟩
          · rw [E_X10_unmount]
            simp only [h.1.2.kt, if_true, iv, Option.bind_some, asI_I, if_neg hvol, if_neg x0, h.1.2.f18, h.1.2.ldD _ e5 (show 5 + v < 1853 by omega), y94, if_neg d5, iu, if_neg bz', w_refuses h.1.2 _ (show (3 : Int32) = nI 3 from rfl) (by decide)]
          · have oo : ∀ y, y ≠ 190 → y ≠ 188 → y ≠ 194 → y ≠ 195 → y ≠ 186 → rfR (rF (rfz I 3) (I 194) G' (rfz I 3 188 22)) 3 y = I y := fun y a b d e f => by rw [rfR_o _ _ a, rF_o _ _ _ _ b d e, rfz_o _ _ f]
            have kk : ∀ j, rfR (rF (rfz I 3) (I 194) G' (rfz I 3 188 22)) 3 188 j = I 188 j := fun j => by
              rw [rfR_o _ _ (by decide)]
              by_cases z : j = 22
              · rw [z, rF_c, y188]
              · rw [rF_k _ _ _ _ z, y188]
            obtain ⟨n, t1, t2, t3⟩ := h.2.1
            refine h.qq h30 ⟨n, ?_, by rw [kk]; exact t2, fun k hk => by rw [oo 189 (by decide) (by decide) (by decide) (by decide) (by decide), oo 8 (by decide) (by decide) (by decide) (by decide) (by decide)]; exact t3 k hk⟩ (h.2.2.2.1.ref (k := 3) (fun j => ?_) (fun j => ?_) (by decide)) (fun y w => ?_) (fun j _ => kk j) (fun j _ => by rw [rfR_o _ _ (by decide), rF_D])
            · rw [vw_fr (I := I) (fun y _ _ => oo y (by omega) (by omega) (by omega) (by omega) (by omega))]; exact t1
            · rw [rfR_o _ _ (by decide), rF_o _ _ _ _ (by decide) (by decide) (by decide)]
              exact up2_r I 186 3 _ j
            · have := up2_r (rF (rfz I 3) (I 194) G' (rfz I 3 188 22)) 190 3 (rF (rfz I 3) (I 194) G' (rfz I 3 188 22) 190 3 + 1) j
              rw [rF_o _ _ _ _ (by decide) (by decide) (by decide), rfz_o _ _ (show (190 : Nat) ≠ 186 by decide)] at this
              exact this
            · unfold OkC at w
              exact oo y (by omega) (by omega) (by omega) (by omega) (by omega)
  · have m0 : x = 0 ∨ q_X1_isMounted (vw 12 I 17) x = 0 := by
      right
      unfold q_X1_isMounted
      by_cases a : x < 0
      · rw [if_pos a]
      · rw [if_neg a]
        by_cases b : (3 : Int32) ≤ x
        · rw [if_pos b]
        · rw [if_neg b]
          have l3 : ix x < 3 := by
            rcases Nat.lt_or_ge (ix x) 3 with z | z
            · exact z
            · exact absurd (by rw [nI_ix a]; exact nI_le (a := 3) z (ix_lt x)) b
          have : vw 12 I 17 9 (ix x) = -1 := (u.2.2.1.2.2.2.1 (ix x) l3).1
          rw [if_pos this]
    refine Pair.no h h30 (k := 3) (by decide) (u_unmount_no h.1.1 I x (m0.imp id Or.inl)) ?_
    have z13 : bz (rfz I 3 188 13) = 0 := by rw [rfz_o _ _ (by decide)]; exact u.2.1
    have iv : M_X10_isVolume [mR (some 188), mI x] (rfz I 3, J) = some (some (mI 0), (rfz I 3, J)) := by
      rw [E_X10_isVolume]
      simp only [h.1.2.fz, Option.bind_some, z13, if_true]
      simp
    rw [E_X10_unmount]
    simp only [h.1.2.kt, if_true, iv, Option.bind_some, asI_I, w_refuses h.1.2 _ (show (3 : Int32) = nI 3 from rfl) (by decide)]
end
section
/-! Where a path comes to: the walk of entries beside the walk of nodes. -/
theorem reach_4 {U : NodV} {V : MemV} (C : CntI V) (x nm : Int32) {f : Nat} (h1 : ¬ V 1 f = 0) : gV_X1_reach U V x nm 4 f = V 4 f := by
  unfold gV_X1_reach
  by_cases a : q_X1_find V x nm = -1
  · rw [if_pos a]
    obtain ⟨e, lu⟩ := lu_ex C.le
    have e0 := (lu_some lu).2.1
    have fe : f ≠ e := fun z => h1 (by rw [z]; exact e0)
    have a4 : ∀ x3, gV_X1_add V x nm x3 4 f = V 4 f := fun x3 => by rw [ad_4 lu, if_neg fe]
    by_cases b : q_X1_add V x nm (q_X2_find U (q_X1_nodeOf V x) nm) = -1
    · rw [if_pos b]
      exact a4 _
    · rw [if_neg b]
      have ts : ∀ B b, Tsm B (gV_X1_shrink B b) := fun B b => shrink_tsm _ _ _ _ B
      rw [(ts _ _).1 4 (by decide) (by decide) (by decide), uv_k _ _ _ _ _ (by decide)]
      exact a4 _
  · rw [if_neg a, cT_k _ _ _ (by decide) (by decide) (by decide)]
theorem up_4 (V : MemV) (x : Int32) : gV_X1_stepUp V x 4 = V 4 := by
  have c : ∀ (B : MemV) (y : Int32), gV_X1_comeTo B y 4 = B 4 := fun B y => cT_k _ _ _ (by decide) (by decide) (by decide)
  unfold gV_X1_stepUp
  split
  · rfl
  · split
    · split
      · rfl
      · split
        · rfl
        · exact c _ _
    · split
      · exact c _ _
      · split
        · exact c _ _
        · rw [c, c]
theorem step_4 {U : NodV} {V : MemV} (C : CntI V) (x s : Int32) {f : Nat} (h1 : ¬ V 1 f = 0) : gV_X1_stepFrom U V x s 4 f = V 4 f := by
  have t4 : ∀ f, uv V 0 16 0 4 f = V 4 f := fun f => by rw [uv_k _ _ _ _ _ (by decide)]
  have r4 : gV_X1_reach U (uv V 0 16 0) x s 4 f = V 4 f := by
    rw [reach_4 (V := uv V 0 16 0) C.tzi x s (by rw [uv_k _ _ _ _ _ (by decide)]; exact h1), t4]
  unfold gV_X1_stepFrom
  split
  · exact t4 f
  · split
    · rw [up_4]; exact t4 f
    · split
      · exact t4 f
      · split
        · exact r4
        · split
          · exact r4
          · split
            · exact r4
            · split
              · rw [cT_k _ _ _ (by decide) (by decide) (by decide)]; exact r4
              · exact r4
def Wnd (V0 V : MemV) : Prop := V 9 = V0 9 ∧ V 10 = V0 10 ∧ ∀ v o, v < 3 → o < 64 → V0 10 v = nI o → V 4 o = V0 4 o
/-- the volume over a node -/
theorem w_volumeOver {U : NodV} {V0 : MemV} {H : OneV} {W : WkV} {n vol t T : Nat} {J : MJ} (h : RefL J) (Y : MI) (r0 : Rel none U V0 H W (Y 194) n) (i0 : Inv U V0 H W n vol t T (fun _ => 0)) (y11 : Y 188 11 = nI vol) (x : Int32) : M_X10_volumeOver [mR (some 188), mI x] (Y, J) = some (some (mI (oI (fst? (fun v => decide (¬ V0 9 v = -1 ∧ V0 4 (ix (V0 10 v)) = x)) 1 (vol - 1)))), (Y, J)) := by
  have v3 := i0.N.v3
  have loop : ∀ (nn k : Nat), 1 ≤ k → k + nn = vol → Ev T_X10_volumeOver 2 [some (mR (some 188)), some (mI x), some (mI (nI k))] [] (Y, J) = some (some (mI (oI (fst? (fun v => decide (¬ V0 9 v = -1 ∧ V0 4 (ix (V0 10 v)) = x)) k nn))), (Y, J)) := by
    intro nn
    induction nn with
    | zero =>
      intro k k1 hk
      rw [E_X10_volumeOver_2]
      simp only [h.fi, y11, Option.bind_some, if_pos (nI_le (show vol ≤ k by omega) (by omega))]
      rfl
    | succ nn ih =>
      intro k k1 hk
      rw [E_X10_volumeOver_2]
      have e5 : (5 : Int32) + nI k = nI (5 + k) := nI_add 5 k
      have e8 : (8 : Int32) + nI k = nI (8 + k) := nI_add 8 k
      simp only [h.fi, y11, Option.bind_some, if_neg (nI_ge (show k < vol by omega) (by omega)), h.f18, h.ldD _ e5 (show 5 + k < 1853 by omega), h.ldD _ e8 (show 8 + k < 1853 by omega), r0.B.rt k (by omega), r0.B.ov k (by omega), nI_1, h.kt, if_true]
      have st : fst? (fun v => decide (¬ V0 9 v = -1 ∧ V0 4 (ix (V0 10 v)) = x)) k (nn + 1) = if decide (¬ V0 9 k = -1 ∧ V0 4 (ix (V0 10 k)) = x) = true then some k else fst? (fun v => decide (¬ V0 9 v = -1 ∧ V0 4 (ix (V0 10 v)) = x)) (k + 1) nn := rfl
      rw [st]
      by_cases m9 : V0 9 k = -1
      · rw [if_pos m9, if_neg (by simp [m9])]
        exact ih (k + 1) (by omega) (by omega)
      · obtain ⟨o, o64, ho, o1, _, _⟩ := i0.M.ov k (by omega) (by omega) m9
        rw [if_neg m9, ho, ix64 o64]
        simp only [w_its h _ 3 (show (3 : Int32) = nI 3 from rfl) (show o < 128 by omega) (by decide), Option.bind_some, asI_I, (r0.B.en o o64 (by rw [o1]; exact i10)).2.2.1]
        by_cases z : V0 4 o = x
        · rw [if_pos z, if_pos (by simp [m9, z])]
          rfl
        · rw [if_neg z, if_neg (by simp [z])]
          exact ih (k + 1) (by omega) (by omega)
  rw [E_X10_volumeOver]
  exact loop (vol - 1) 1 (Nat.le_refl _) (by omega)
/-- an entry's node is in its parent's -/
theorem MemI.up {U : NodV} {V : MemV} {n vol : Nat} (hM : MemI U V n vol) (hN : NodI U n vol) {e k : Nat} (he : e < 64) (h1 : V 1 e = 1) (h2 : ¬ V 2 e = -1) (h4 : V 4 e = nI k) (kn : k < n) : ∃ p kp, p < 64 ∧ V 2 e = nI p ∧ V 1 p = 1 ∧ kp < n ∧ V 4 p = nI kp ∧ U 2 k = nI kp ∧ U 3 k = V 3 e ∧ ¬ U 4 k = 0 ∧ U 4 kp = 2 := by
  have n60 := hN.n60
  obtain ⟨p, p1, p2, p3, p4, p5⟩ := hM.ch e he h1 h2
  obtain ⟨kp, k1, k2, k3⟩ := hN.fo p4
  rcases hN.fd (V 4 p) (V 3 e) with ⟨z, _⟩ | ⟨j, j1, j2, j3, j4, j5⟩
  · rw [z, h4] at p5
    exact absurd p5 (nI_m1 (by omega))
  · have jk : j = k := (nI_eq (by omega) (by omega)).mp (j2.symm.trans (p5.symm.trans h4))
    subst jk
    exact ⟨p, kp, p1, p2, p3, k1, k2, j4.trans k2, j5, j3, k3⟩
theorem where_step {U : NodV} {V0 V : MemV} {H : OneV} {W : WkV} {D' : RowV} {n vol t t0 T T0 : Nat} {J : MJ} (h : RefL J) (Y : MI) (r0 : Rel none U V0 H W (Y 194) n) (i0 : Inv U V0 H W n vol t0 T0 (fun _ => 0)) (y11 : Y 188 11 = nI vol) (r : Rel none U V H W D' n) (i : Inv U V H W n vol t T (fun _ => 0)) (C : CntI V) (w : Wnd V0 V) {a k : Nat} (ha : At V a) (hk : V 4 a = nI k) (kn : k < n) {s y : Int32} (hs : NmS s y) (tT : t + 2 ≤ T) : ∃ rr, M_X10_nodeBy [mR (some 188), mI (nI k), mI y] (Y, J) = some (some (mI rr), (Y, J)) ∧ ((∃ a' k', q_X1_stepFrom U V (nI a) s = nI a' ∧ At (gV_X1_stepFrom U V (nI a) s) a' ∧ gV_X1_stepFrom U V (nI a) s 4 a' = nI k' ∧ k' < n ∧ rr = nI k') ∨ (q_X1_stepFrom U V (nI a) s = rr ∧ (rr = -2 ∨ rr = -3))) ∧ ∃ D'' t', Rel none U (gV_X1_stepFrom U V (nI a) s) H W D'' n ∧ Inv U (gV_X1_stepFrom U V (nI a) s) H W n vol t' T (fun _ => 0) ∧ CntI (gV_X1_stepFrom U V (nI a) s) ∧ Wnd V0 (gV_X1_stepFrom U V (nI a) s) ∧ t' ≤ t + 2 := by
  have n60 := i.N.n60
  have v3 := i.N.v3
  have hN := i.N
  -- the reference walks beside it, for what holds
  obtain ⟨D1, G1, c1, how, t', tl, _, s2, s3, s4, s5⟩ := r.tzi.steps0 i C (fun e _ q => absurd rfl q) h (fun _ _ => -1) (Or.inl ⟨rfl, fun _ => rfl⟩) rfl (fun _ => 0) (TlI.none _ _ _) ha hs tT
  obtain ⟨q1, q2, q3, q4, q9, q10, q11, _⟩ := s2
  have w' : Wnd V0 (gV_X1_stepFrom U V (nI a) s) := ⟨q9.trans w.1, q10.trans w.2.1, fun v o hv ho q => by
    have o1 : V 1 o = 1 := (i.M.ok hv ho (by rw [w.2.1]; exact q)).2.2.1
    rw [step_4 C _ _ (by rw [o1]; exact i10)]
    exact w.2.2 v o hv ho q⟩
  have tail : ∃ D'' t', Rel none U (gV_X1_stepFrom U V (nI a) s) H W D'' n ∧ Inv U (gV_X1_stepFrom U V (nI a) s) H W n vol t' T (fun _ => 0) ∧ CntI (gV_X1_stepFrom U V (nI a) s) ∧ Wnd V0 (gV_X1_stepFrom U V (nI a) s) ∧ t' ≤ t + 2 := ⟨D1, t', q1, q2, q3, w', s4⟩
  obtain ⟨k', kn', hk', kne⟩ := i.M.nk i.N ha
  have kne : ¬ U 4 k = 0 := by
    have : k' = k := (nI_eq (by omega) (by omega)).mp (hk'.symm.trans hk)
    rw [← this]; exact kne
  have nd := r0.B.nd k kn
  have nh : ∀ f, f < 5 → ∀ z : Int32, z = nI f → M_X10_nodeHas [mR (some 188), mI (nI k), mI z] (Y, J) = some (some (mI (Y 194 (401 + 5 * k + f))), (Y, J)) := fun f hf z hz => w_nodeHas h Y f hz (by omega) hf
  have a64 := ha.1
  have a0 : ¬ V 1 a = 0 := by rw [ha.2.1]; exact i10
  have e0 : uv V 0 16 0 = tz V := rfl
  rcases hs with hn | ⟨s1, y1⟩ | ⟨s1, y1⟩
  · -- a name
    obtain ⟨g1, g2⟩ := hn.gt
    have isq : q_X1_isFolder U (tz V) (nI a) = if U 4 k = 2 then 1 else 0 := by
      rw [isF_q a64 (by rw [tz_k V 1 (by decide)]; exact a0), tz_k V 4 (by decide), hk, fo_nI hN kn]
      by_cases z : U 4 k = 2
      · rw [if_pos z, if_neg i10]
      · rw [if_neg z, if_pos rfl]
    rw [E_X10_nodeBy, if_neg (i32_gt_ne g2).1, if_neg (i32_gt_ne g2).2.1]
    simp only [h.kt, if_true, nh 1 (by decide) 1 rfl, Option.bind_some, asI_I, nd.2.2.2.2 kne]
    by_cases fo : U 4 k = 2
    · rw [if_pos fo] at isq ⊢
      rw [if_neg i10]
      have ev : Y 194 4 = nI n := r0.B.ev.trans hN.ev
      have pf : ¬ q_X2_isFolder U (tz V 4 a) = 0 := by rw [tz_k V 4 (by decide), hk, fo_nI hN kn, if_pos fo]; exact i10
      obtain ⟨D2, G2, e, _, c2, e64, c3, c4, c5, c6, c7, c8, c9⟩ := r.tzi.childOf i.tzi C.tzi (fun e _ q => absurd rfl q) h (fun _ _ => -1) (Or.inl ⟨rfl, fun _ => rfl⟩) rfl (fun _ => 0) 0 (TlI.none _ _ _) a64 ha.tzi.2.1 pf hn (by omega)
      have qe : q_X1_stepFrom U V (nI a) s = if gV_X1_reach U (tz V) (nI a) s 4 e = -1 then -2 else if q_X1_coveringVolume (gV_X1_reach U (tz V) (nI a) s) (nI e) < 0 then nI e else if q_X1_coveringVolume (gV_X1_reach U (tz V) (nI a) s) (nI e) < 3 then gV_X1_comeTo (gV_X1_reach U (tz V) (nI a) s) (gV_X1_reach U (tz V) (nI a) s 9 (ix (q_X1_coveringVolume (gV_X1_reach U (tz V) (nI a) s) (nI e)))) 9 (ix (q_X1_coveringVolume (gV_X1_reach U (tz V) (nI a) s) (nI e))) else nI e := by
        unfold q_X1_stepFrom
        rw [e0, if_neg (i32_gt_ne g1).1, if_neg (i32_gt_ne g1).2.1, isq, if_neg i10, c2, Inv.isE e64 (by rw [c4]; exact i10), if_neg i10, ix64 e64]
      have ge : gV_X1_stepFrom U V (nI a) s = if gV_X1_reach U (tz V) (nI a) s 4 e = -1 then gV_X1_reach U (tz V) (nI a) s else if q_X1_coveringVolume (gV_X1_reach U (tz V) (nI a) s) (nI e) < 0 then gV_X1_reach U (tz V) (nI a) s else if q_X1_coveringVolume (gV_X1_reach U (tz V) (nI a) s) (nI e) < 3 then gV_X1_comeTo (gV_X1_reach U (tz V) (nI a) s) (gV_X1_reach U (tz V) (nI a) s 9 (ix (q_X1_coveringVolume (gV_X1_reach U (tz V) (nI a) s) (nI e)))) else gV_X1_reach U (tz V) (nI a) s := by
        unfold gV_X1_stepFrom
        rw [e0, if_neg (i32_gt_ne g1).1, if_neg (i32_gt_ne g1).2.1, isq, if_neg i10, c2, Inv.isE e64 (by rw [c4]; exact i10), if_neg i10, ix64 e64]
      simp only [w_nodeIn h Y ev n60, r0.eqn hN (nI k) hn, Option.bind_some, asI_I]
      have f4 : q_X2_find U (nI k) s = gV_X1_reach U (tz V) (nI a) s 4 e := by rw [c7, tz_k V 4 (by decide), hk]
      rw [f4]
      obtain ⟨d1, d2, d3, d4, d9, d10, d11, _⟩ := c3
      have o4 : ∀ v o, v < 3 → o < 64 → V0 10 v = nI o → gV_X1_reach U (tz V) (nI a) s 4 o = V0 4 o := fun v o hv ho q => by
        have o1 : V 1 o = 1 := (i.M.ok hv ho (by rw [w.2.1]; exact q)).2.2.1
        rw [reach_4 C.tzi _ _ (by rw [tz_k V 1 (by decide), o1]; exact i10), tz_k V 4 (by decide)]
        exact w.2.2 v o hv ho q
      have r9 : gV_X1_reach U (tz V) (nI a) s 9 = V0 9 := by rw [d9, tz_k V 9 (by decide)]; exact w.1
      have r10 : gV_X1_reach U (tz V) (nI a) s 10 = V0 10 := by rw [d10, tz_k V 10 (by decide)]; exact w.2.1
      generalize gV_X1_reach U (tz V) (nI a) s = V1 at qe ge d2 c4 c5 c6 c7 c8 c9 o4 r9 r10 f4 ⊢
      by_cases ab : V1 4 e = -1
      · rw [if_pos ab] at qe
        rw [if_pos ab]
        exact ⟨-2, rfl, Or.inr ⟨qe, Or.inl rfl⟩, tail⟩
      · rw [if_neg ab] at qe ge
        rw [if_neg ab]
        obtain ⟨ke, k1, k2⟩ := Inv.nod d2.N d2.M e64 (by rw [c4]; exact i10) ab
        simp only [h.kt, if_true, w_volumeOver h Y r0 i0 y11, Option.bind_some, asI_I, k2]
        have ce := cov_q (V := V1) e64
        have eqv : ∀ v, v < 3 → (V1 10 v = nI e ↔ 1 ≤ v ∧ v < vol ∧ ¬ V0 9 v = -1 ∧ V0 4 (ix (V0 10 v)) = nI ke) := fun v hv => by
          rw [r10]
          constructor
          · intro z
            obtain ⟨z1, z2, _⟩ := i0.M.ok hv e64 z
            refine ⟨z1, ?_, z2, ?_⟩
            · rcases i0.M.rt v hv with ⟨y, _⟩ | ⟨y, _⟩
              · exact absurd y z2
              · exact y
            · rw [z, ix64 e64, ← o4 v e hv e64 z]
              exact k2
          · rintro ⟨z1, z2, z3, z4⟩
            obtain ⟨o, o64, ho, o1, _, _⟩ := i0.M.ov v z1 hv z3
            rw [ho, ix64 o64, ← o4 v o hv o64 ho] at z4
            have o1' : V1 1 o = 1 := (d2.M.ok hv o64 (by rw [r10]; exact ho)).2.2.1
            have := d2.M.nd o e o64 e64 (by rw [o1']; exact i10) (by rw [c4]; exact i10) (by rw [z4]; exact nI_m1 (by omega)) (by rw [z4, k2])
            rw [ho, this]
        cases qf : fst? (fun w => decide (V1 10 w = nI e)) 0 3 with
        | none =>
          have fn := fst_none qf
          have rn : fst? (fun v => decide (¬ V0 9 v = -1 ∧ V0 4 (ix (V0 10 v)) = nI ke)) 1 (vol - 1) = none := fst_no (fun v a b => by
            have := fn v (Nat.zero_le _) (by omega)
            simp only [decide_eq_false_iff_not] at this ⊢
            exact fun z => this ((eqv v (by omega)).mpr ⟨a, by omega, z⟩))
          rw [qf] at ce
          rw [ce, if_pos (show oI none < 0 by decide)] at qe ge
          rw [rn, if_pos (show oI none = -1 from rfl)]
          refine ⟨nI ke, rfl, Or.inl ⟨e, ke, qe, ?_, ?_, k1, rfl⟩, tail⟩
          · rw [ge]; exact ⟨e64, c4, ab⟩
          · rw [ge]; exact k2
        | some v =>
          obtain ⟨_, v3', v4, vmin⟩ := fst_some qf
          have v3' : v < 3 := by omega
          have v4 : V1 10 v = nI e := by simpa using v4
          obtain ⟨z1, z2, z3, z4⟩ := (eqv v v3').mp v4
          have rs : fst? (fun v => decide (¬ V0 9 v = -1 ∧ V0 4 (ix (V0 10 v)) = nI ke)) 1 (vol - 1) = some v := fst_is z1 (by omega) (by simp [z3, z4]) (fun j a b => by
            have := vmin j (Nat.zero_le _) b
            simp only [decide_eq_false_iff_not] at this ⊢
            exact fun z => this ((eqv j (by omega)).mpr ⟨a, by omega, z⟩))
          rw [qf] at ce
          have ov : oI (some v) = nI v := rfl
          rw [ov] at ce
          rcases d2.M.rt v v3' with ⟨y, _⟩ | ⟨_, ro, ro64, ro9, ro1, ro2, ro4⟩
          · rw [r9] at y; exact absurd y z3
          rw [ce, if_neg (nI_pos (show v < 2 ^ 31 by omega)), if_pos (show nI v < 3 from nI_lt (b := 3) v3' (by decide)), ix_nI (by omega), ro9] at qe ge
          rw [cT_k _ _ _ (by decide) (by decide) (by decide), ro9] at qe
          obtain ⟨rn, s1, s2, s3, s4, s5⟩ := hN.rts v z2
          have roA : At V1 ro := ⟨ro64, ro1, by rw [ro4, s2]; exact nI_m1 (by omega)⟩
          rw [rs, ov, if_neg (nI_m1 (show v < 2 ^ 31 by omega))]
          have e5 : (5 : Int32) + nI v = nI (5 + v) := nI_add 5 v
          have d5 : Y 194 (5 + v) = nI ro := by rw [r0.B.rt v v3', ← r9]; exact ro9
          have r01 : V0 1 ro = 1 ∧ V0 4 ro = U 5 v := by
            rcases i0.M.rt v v3' with ⟨y, _⟩ | ⟨_, r', a1, a2, a3, _, a5⟩
            · exact absurd y z3
            · have : r' = ro := (nI_eq (by omega) (by omega)).mp (a2.symm.trans (by rw [← r9]; exact ro9))
              subst this
              exact ⟨a3, a5⟩
          have en := r0.B.en ro ro64 (by rw [r01.1]; exact i10)
          simp only [h.f18, Option.bind_some, h.ldD _ e5 (show 5 + v < 1853 by omega), d5, h.kt, if_true, w_its h _ 3 (show (3 : Int32) = nI 3 from rfl) (show ro < 128 by omega) (by decide), asI_I, en.2.2.1, r01.2, s2]
          refine ⟨nI rn, rfl, Or.inl ⟨ro, rn, qe, ?_, ?_, s1, rfl⟩, tail⟩
          · rw [ge]; exact roA.come _
          · rw [ge, cT_k _ _ _ (by decide) (by decide) (by decide), ro4]; exact s2
    · rw [if_neg fo] at isq ⊢
      rw [if_pos rfl]
      have qe : q_X1_stepFrom U V (nI a) s = -3 := by
        unfold q_X1_stepFrom
        rw [e0, if_neg (i32_gt_ne g1).1, if_neg (i32_gt_ne g1).2.1, isq, if_pos rfl]
      exact ⟨-3, rfl, Or.inr ⟨qe, Or.inr rfl⟩, tail⟩
  · subst s1 y1
    have ge : gV_X1_stepFrom U V (nI a) (-1) = tz V := if_pos rfl
    refine ⟨nI k, by rw [E_X10_nodeBy, if_pos rfl], Or.inl ⟨a, k, if_pos rfl, ?_, ?_, kn, rfl⟩, tail⟩
    · rw [ge]; exact ha.tzi
    · rw [ge, tz_k V 4 (by decide)]; exact hk
  · subst s1 y1
    have m2 : ¬ (-2 : Int32) = -1 := by decide
    have qe : q_X1_stepFrom U V (nI a) (-2) = q_X1_stepUp (tz V) (nI a) := by
      unfold q_X1_stepFrom
      rw [if_neg m2, if_pos rfl, e0]
    have ge : gV_X1_stepFrom U V (nI a) (-2) = gV_X1_stepUp (tz V) (nI a) := by
      unfold gV_X1_stepFrom
      rw [if_neg m2, if_pos rfl, e0]
    have rv := (r.tzi.rv a64).2
    have rq := r.rQ (a := a)
    rw [E_X10_nodeBy, if_neg m2, if_pos rfl]
    simp only [h.kt, if_true, E_X10_nodeUp, nh 2 (by decide) 2 rfl, nh 0 (by decide) 0 rfl, Option.bind_some, asI_I, nd.2.1, nd.1]
    have t1 : tz V 1 = V 1 := tz_k V 1 (by decide)
    have t2 : tz V 2 = V 2 := tz_k V 2 (by decide)
    have t4 : tz V 4 = V 4 := tz_k V 4 (by decide)
    cases qr : rootQ D' (nI a) with
    | none =>
      rw [qr] at rv rq
      have v2 : ¬ V 2 a = -1 := fun z => by
        obtain ⟨v, v3', hv⟩ := i.M.ro a a64 ha.2.1 z
        exact rq.2 rfl v v3' hv
      obtain ⟨p, kp, p64, p2, p1, kp1, kp4, u2, _, _, _⟩ := i.M.up hN a64 ha.2.1 v2 hk kn
      have pE : q_X1_isEntry (tz V) (nI p) = 1 := Inv.isE p64 (by rw [t1, p1]; exact i10)
      have aE : q_X1_isEntry (tz V) (nI a) = 1 := Inv.isE a64 (by rw [t1]; exact a0)
      have q' : q_X1_stepUp (tz V) (nI a) = nI p := by
        unfold q_X1_stepUp
        rw [rv, if_neg (show ¬ oI none = 0 by decide), if_pos (show oI none = -1 from rfl), aE, if_neg i10, ix64 a64, t2, p2, pE, if_neg i10, cT_k _ _ _ (by decide) (by decide) (by decide), t2, p2]
      have g' : gV_X1_stepUp (tz V) (nI a) = gV_X1_comeTo (tz V) (nI p) := by
        unfold gV_X1_stepUp
        rw [rv, if_neg (show ¬ oI none = 0 by decide), if_pos (show oI none = -1 from rfl), aE, if_neg i10, ix64 a64, t2, p2, pE, if_neg i10]
      rw [u2, if_neg (nI_m1 (show kp < 2 ^ 31 by omega))]
      have pA : At V p := ⟨p64, p1, by rw [kp4]; exact nI_m1 (by omega)⟩
      refine ⟨nI kp, rfl, Or.inl ⟨p, kp, qe.trans q', ?_, ?_, kp1, rfl⟩, tail⟩
      · rw [ge, g']; exact pA.tzi.come _
      · rw [ge, g', cT_k _ _ _ (by decide) (by decide) (by decide), t4]; exact kp4
    | some v =>
      rw [qr] at rv rq
      obtain ⟨v3', hv⟩ := rq.1 v rfl
      have m9 : ¬ V 9 v = -1 := by rw [hv]; exact nI_m1 (by omega)
      rcases i.M.rt v v3' with ⟨y, _⟩ | ⟨vv, ro, ro64, ro9, ro1, ro2, ro4⟩
      · exact absurd y m9
      have ra : ro = a := (nI_eq (by omega) (by omega)).mp (ro9.symm.trans hv)
      subst ra
      obtain ⟨rn, s1, s2, s3, s4, s5⟩ := hN.rts v vv
      have kr : rn = k := (nI_eq (by omega) (by omega)).mp (s2.symm.trans (ro4.symm.trans hk))
      subst kr
      have ov : oI (some v) = nI v := rfl
      rw [ov] at rv
      rw [s4, if_pos rfl, s5]
      by_cases v0 : v = 0
      · subst v0
        have q' : q_X1_stepUp (tz V) (nI ro) = nI ro := by
          unfold q_X1_stepUp
          rw [rv, if_pos (show nI 0 = 0 from rfl)]
        have g' : gV_X1_stepUp (tz V) (nI ro) = tz V := by
          unfold gV_X1_stepUp
          rw [rv, if_pos (show nI 0 = 0 from rfl)]
        rw [if_pos (show nI 0 = 0 from rfl)]
        refine ⟨nI rn, rfl, Or.inl ⟨ro, rn, qe.trans q', ?_, ?_, kn, rfl⟩, tail⟩
        · rw [ge, g']; exact ha.tzi
        · rw [ge, g', t4]; exact hk
      · have vn0 : ¬ nI v = 0 := fun z => v0 ((nI_eq (by omega) (by omega)).mp (z.trans nI_0.symm))
        obtain ⟨o, o64, ho, o1, o2, o4⟩ := i.M.ov v (by omega) v3' m9
        obtain ⟨ko, ko1, ko2, ko3⟩ := hN.fo o4
        obtain ⟨p, kp, p64, p2, p1, kp1, kp4, u2, _, _, _⟩ := i.M.up hN o64 o1 o2 ko2 ko1
        have cb : q_X1_coveredBy (tz V) (nI v) = nI o := by
          unfold q_X1_coveredBy
          rw [if_neg (nI_pos (show v < 2 ^ 31 by omega)), if_neg (show ¬ (3 : Int32) ≤ nI v from nI_ge (b := 3) v3' (by decide)), ix_nI (by omega), tz_k V 10 (by decide), ho]
        have c1 : ∀ B y, gV_X1_comeTo B y 1 = B 1 := fun B y => cT_k _ _ _ (by decide) (by decide) (by decide)
        have c2 : ∀ B y, gV_X1_comeTo B y 2 = B 2 := fun B y => cT_k _ _ _ (by decide) (by decide) (by decide)
        have c4 : ∀ B y, gV_X1_comeTo B y 4 = B 4 := fun B y => cT_k _ _ _ (by decide) (by decide) (by decide)
        have oE : q_X1_isEntry (gV_X1_comeTo (tz V) (nI o)) (nI o) = 1 := Inv.isE o64 (by rw [c1, t1, o1]; exact i10)
        have pE : q_X1_isEntry (gV_X1_comeTo (tz V) (nI o)) (nI p) = 1 := Inv.isE p64 (by rw [c1, t1, p1]; exact i10)
        have q' : q_X1_stepUp (tz V) (nI ro) = nI p := by
          unfold q_X1_stepUp
          rw [rv, if_neg vn0, if_neg (nI_m1 (show v < 2 ^ 31 by omega)), cb, oE, if_neg i10, ix64 o64, c2, t2, p2, pE, if_neg i10, c2, c2, t2, p2]
        have g' : gV_X1_stepUp (tz V) (nI ro) = gV_X1_comeTo (gV_X1_comeTo (tz V) (nI o)) (nI p) := by
          unfold gV_X1_stepUp
          rw [rv, if_neg vn0, if_neg (nI_m1 (show v < 2 ^ 31 by omega)), cb, oE, if_neg i10, ix64 o64, c2, t2, p2, pE, if_neg i10]
        have e8 : (8 : Int32) + nI v = nI (8 + v) := nI_add 8 v
        have ho0 : V0 10 v = nI o := by rw [← w.2.1]; exact ho
        have d8 : Y 194 (8 + v) = nI o := (r0.B.ov v v3').trans ho0
        have o01 : V0 1 o = 1 := (i0.M.ok v3' o64 ho0).2.2.1
        have en := r0.B.en o o64 (by rw [o01]; exact i10)
        have n4 : V0 4 o = nI ko := (w.2.2 v o v3' o64 ho0).symm.trans ko2
        rw [if_neg vn0]
        simp only [h.f18, Option.bind_some, h.ldD _ e8 (show 8 + v < 1853 by omega), d8, h.kt, if_true, w_its h _ 3 (show (3 : Int32) = nI 3 from rfl) (show o < 128 by omega) (by decide), asI_I, en.2.2.1, n4, w_nodeHas h Y 2 (show (2 : Int32) = nI 2 from rfl) (show ko < 60 by omega) (by decide), (r0.B.nd ko ko1).2.1, u2]
        have pA : At V p := ⟨p64, p1, by rw [kp4]; exact nI_m1 (by omega)⟩
        refine ⟨nI kp, rfl, Or.inl ⟨p, kp, qe.trans q', ?_, ?_, kp1, rfl⟩, tail⟩
        · rw [ge, g']; exact (pA.tzi.come _).come _
        · rw [ge, g', c4, c4, t4]; exact kp4
end
section
/-! Where a path comes to: the pair. -/
theorem where_loop {U : NodV} {V0 : MemV} {H : OneV} {W : WkV} {n vol t0 T T0 l : Nat} {J : MJ} (h : RefL J) (Y : MI) (r0 : Rel none U V0 H W (Y 194) n) (i0 : Inv U V0 H W n vol t0 T0 (fun _ => 0)) (y11 : Y 188 11 = nI vol) (y15 : Y 188 15 = nI l) (l12 : l ≤ 12) {P : RouV} (hp : P 0 1 = nI l) (hst : ∀ k, k < l → NmS (P 1 k) (Y 192 k)) (x2 : Int32) : ∀ (nn j : Nat) (V : MemV) (D' : RowV) (t a k : Nat), j + nn = l → Rel none U V H W D' n → Inv U V H W n vol t T (fun _ => 0) → CntI V → Wnd V0 V → At V a → V 4 a = nI k → k < n → t + 2 * nn ≤ T → ∃ rr, Ev T_X10_where 20 [some (mR (some 188)), some (mI (nI k)), some (mI (nI j))] [] (Y, J) = some (some (mI rr), (Y, J)) ∧ ((∃ a' k', (lp_X1_walk_8 12 P U x2 nn j (nI a) V).1 = nI a' ∧ At (lp_X1_walk_8 12 P U x2 nn j (nI a) V).2 a' ∧ (lp_X1_walk_8 12 P U x2 nn j (nI a) V).2 4 a' = nI k' ∧ rr = nI k') ∨ ((lp_X1_walk_8 12 P U x2 nn j (nI a) V).1 = rr ∧ (rr = -2 ∨ rr = -3))) := by
  intro nn
  induction nn with
  | zero =>
    intro j V D' t a k hj r i C w ha hk kn tT
    refine ⟨nI k, ?_, Or.inl ⟨a, k, rfl, ha, hk, rfl⟩⟩
    rw [E_X10_where_20]
    simp only [h.fi, y15, Option.bind_some, if_pos (nI_le (show l ≤ j by omega) (by omega))]
  | succ nn ih =>
    intro j V D' t a k hj r i C w ha hk kn tT
    have n60 := i.N.n60
    have hs := hst j (by omega)
    obtain ⟨rr, e1, e2, D2, t2, r2, i2, C2, w2, tt⟩ := where_step h Y r0 i0 y11 r i C w ha hk kn hs (by omega)
    have sa : q_X4_stepAt 12 P (nI j) = P 1 j := stepAt_k hp (by omega) (by omega) (by decide)
    have lp : lp_X1_walk_8 12 P U x2 (nn + 1) j (nI a) V = lp_X1_walk_8 12 P U x2 nn (j + 1) (q_X1_stepFrom U V (nI a) (P 1 j)) (gV_X1_stepFrom U V (nI a) (P 1 j)) := by
      show (if (nI a) < 0 then ((nI a), V) else _) = _
      rw [if_neg (nI_pos (show a < 2 ^ 31 by have := ha.1; omega)), sa]
    have l192 : ld (Y, J) 11 192 (nI j) = some (Y 192 j) := by
      rw [ld_ok _ h.s14 (inb_nI (show j < 64 by omega) (by decide)), show (nI j).toNatClampNeg = j from ix_nI (by omega)]
    have ev : Ev T_X10_where 20 [some (mR (some 188)), some (mI (nI k)), some (mI (nI j))] [] (Y, J) = Ev T_X10_where 20 [some (mR (some 188)), some (mI rr), some (mI (nI (j + 1)))] [] (Y, J) := by
      rw [E_X10_where_20]
      simp only [h.fi, y15, Option.bind_some, if_neg (nI_ge (show j < l by omega) (by omega)), if_neg (nI_pos (show k < 2 ^ 31 by omega)), h.f14, l192, h.kt, if_true, e1, asI_I, nI_1]
    rw [ev, lp]
    rcases e2 with ⟨a', k', qa, at', v4, kn', ra⟩ | ⟨qr, hr⟩
    · rw [qa, ra]
      exact ih (j + 1) _ D2 t2 a' k' (by omega) r2 i2 C2 w2 at' v4 kn' (by omega)
    · rw [qr]
      have neg : rr < 0 := by rcases hr with z | z <;> rw [z] <;> decide
      have lz : lp_X1_walk_8 12 P U x2 nn (j + 1) rr (gV_X1_stepFrom U V (nI a) (P 1 j)) = (rr, gV_X1_stepFrom U V (nI a) (P 1 j)) := by
        cases nn with
        | zero => rfl
        | succ nn => exact if_pos neg
      rw [lz]
      refine ⟨rr, ?_, Or.inr ⟨rfl, hr⟩⟩
      rw [E_X10_where_20]
      simp only [h.fi, y15, Option.bind_some]
      by_cases z : nI l ≤ nI (j + 1)
      · rw [if_pos z]
      · rw [if_neg z, if_pos neg]
theorem P_where {I : MI} {J : MJ} {T B0 : Nat} (h : St I J T B0) (h30 : T + 10001 ≤ 1000000000) : Pair I J T B0 (M_X9_where [mR (some 0)]) (M_X10_where [mR (some 188)]) := by
  obtain ⟨n, t1, t2, t3⟩ := h.2.1
  have T4 := t1.1
  have rl := h.1.2
  have uE := u_where h.1.1 I T4 t1.2.1
  have no : ∀ y p' l' S', ¬ (rowO I n).1 = 1 → M_X10_isPath [mR (some 188)] (tkn I n, J) = some (some (mI y), (pF (bgP (tkn I n) n) (nI p') (nI l') S', J)) → (y = 0 ∨ bz (I 188 13) = 0) → Pair I J T B0 (M_X9_where [mR (some 0)]) (M_X10_where [mR (some 188)]) := by
    intro y p' l' S' hn g1 hc
    rw [if_neg hn] at uE
    have f13 : pF (bgP (tkn I n) n) (nI p') (nI l') S' 188 13 = I 188 13 := by rw [pF_k _ _ _ _ (by decide) (by decide), bgP_k _ _ (by decide) (by decide) (by decide), tkn_o _ _ (by decide) (by decide)]
    refine ⟨-1, _, pF (bgP (tkn I n) n) (nI p') (nI l') S', J, uE, ?_, ?_⟩
    · rw [E_X10_where]
      simp only [rl.kt, if_true, g1, Option.bind_some, asI_I, rl.fz, f13]
      by_cases z : y = 0
      · rw [if_pos z]
      · rw [if_neg z, if_pos (hc.resolve_left z)]
    · have o : ∀ x, x ≠ 7 → (x < 158 ∨ 183 ≤ x) → x ≠ 188 → x ≠ 192 → pF (bgP (tkn I n) n) (nI p') (nI l') S' x = I x := fun x a b c d => by rw [pF_o _ _ _ _ c d, bgP_o _ _ c, tkn_o _ _ a b]
      refine h.tk h30 (h.2.2.2.1.fr (o 186 (by decide) (by decide) (by decide) (by decide)) (o 190 (by decide) (by decide) (by decide) (by decide))) (fun x a b _ c _ d _ _ _ => o x a b c d) (fun k a b c d _ _ => ?_) ?_ ?_
      · rw [pF_k _ _ _ _ b d, bgP_k _ _ a b c, tkn_o _ _ (by decide) (by decide)]
      · rw [pF_o _ _ _ _ (by decide) (by decide), bgP_o _ _ (by decide)]; exact tkn_7 I n
      · rw [pF_k _ _ _ _ (by decide) (by decide)]; exact (bgP_3 _ _).2.1
  obtain ⟨y0, p0, l0, S0, g0, how0⟩ := path1 (Y := tkn I n) rl t1 (by rw [tkn_o _ _ (by decide) (by decide)]; exact t2) (fun k hk => by rw [tkn_o _ _ (by decide) (by decide)]; exact t3 k hk)
  rcases h.2.2.2.2.2.2.2.2.2 with ⟨vol, ad, p, q, hv, td, ⟨nn, t, i, c, r⟩, hs⟩ | u
  · have h6 : ¬ I 1 6 ≤ 0 := Told.h6 i
    rcases how0 h6 with ⟨hy, _⟩ | ⟨hn, y00⟩
    · rw [if_pos hy] at uE
      have e1 : vw 6 (tkn I n) 1 = vw 6 I 1 := vw_fr (fun x _ _ => tkn_o I n (by omega) (by omega))
      have e2 : vw 12 (tkn I n) 17 = vw 12 I 17 := vw_fr (fun x _ _ => tkn_o I n (by omega) (by omega))
      unfold tryV tryQ at uE
      rw [e1, e2] at uE
      have vc := VEq.copy (vw 12 I 17) (vw 12 (tkn I n) 55)
      generalize gV_X1_copyFrom (vw 12 I 17) (vw 12 (tkn I n) 55) = Vc at uE vc
      generalize hV' : gV_X1_walk 12 (vw 2 (tkn I n) 158) (vw 6 I 1) Vc (tkn I n 158 1) = V' at uE
      generalize hQ : q_X1_walk 12 (vw 2 (tkn I n) 158) (vw 6 I 1) Vc (tkn I n 158 1) = Q at uE
      have oT : ∀ x, x < 55 ∨ 67 ≤ x → pt (tkn I n) 55 V' x = tkn I n x := fun x a => pt_out (by omega)
      obtain ⟨y, p', l', S', g1, how⟩ := path1 (Y := pt (tkn I n) 55 V') rl t1 (by rw [oT _ (by omega), tkn_o _ _ (by decide) (by decide)]; exact t2) (fun k hk => by rw [oT _ (by omega), tkn_o _ _ (by decide) (by decide)]; exact t3 k hk)
      rcases how h6 with ⟨_, y1, l12, pth⟩ | ⟨z, _⟩
      · subst y1
        have eP : vw 2 (tkn I n) 158 = vw 2 (rowO I n).2 158 := vw_fr (fun x _ _ => tkn_r I n (by omega) (by omega))
        rw [← eP] at pth
        have l158 : tkn I n 158 1 = nI l' := pth.1
        have wr : ∀ k, k < 4 → WkEq (wks I 31 k) (wks I 31 k) := fun k _ => WkEq.refl _
        have ic := ((i.T (show T ≤ T + 10001 by omega) h30).cg (UEq.refl _) vc (fun _ _ => rfl) wr)
        have rc := r.cg i.N.n60 (UEq.refl _) vc (fun _ _ => rfl) wr (fun _ _ => rfl)
        have cc := c.cg vc
        have tT := i.Z.tT
        have yo : ∀ x, x ≠ 188 → x ≠ 192 → pF (bgP (pt (tkn I n) 55 V') n) (nI p') (nI l') S' x = pt (tkn I n) 55 V' x := fun x a b => by rw [pF_o _ _ _ _ a b, bgP_o _ _ a]
        have yk : ∀ k, k ≠ 1 → k ≠ 2 → k ≠ 3 → k ≠ 15 → pF (bgP (pt (tkn I n) 55 V') n) (nI p') (nI l') S' 188 k = I 188 k := fun k a b d e => by rw [pF_k _ _ _ _ b e, bgP_k _ _ a b d, oT _ (by omega), tkn_o _ _ (by decide) (by decide)]
        have y15 : pF (bgP (pt (tkn I n) 55 V') n) (nI p') (nI l') S' 188 15 = nI l' := pF_15 _ _ _ _
        have yS : pF (bgP (pt (tkn I n) 55 V') n) (nI p') (nI l') S' 192 = S' := pF_S _ _ _ _
        have y11' : pF (bgP (pt (tkn I n) 55 V') n) (nI p') (nI l') S' 188 1 = 0 := by rw [pF_k _ _ _ _ (by decide) (by decide)]; exact (bgP_3 _ _).2.1
        generalize hY : pF (bgP (pt (tkn I n) 55 V') n) (nI p') (nI l') S' = Y1 at g1 yo yk y15 yS y11'
        have y94 : Y1 194 = I 194 := by rw [yo 194 (by decide) (by decide), oT _ (by omega), tkn_o _ _ (by decide) (by decide)]
        have f13 : ¬ bz (Y1 188 13) = 0 := by rw [yk 13 (by decide) (by decide) (by decide) (by decide)]; exact td
        have f11 : Y1 188 11 = nI vol := by rw [yk 11 (by decide) (by decide) (by decide) (by decide)]; exact hv
        -- from the root on
        obtain ⟨ro, hr, ra⟩ := ic.M.root0 ic.N
        obtain ⟨i1, c16, c11, ca, cr1, cr9⟩ := ic.ctr hr ra (by omega)
        obtain ⟨D3, w3, r3, _, _⟩ := rc.tzi.come i.N.n60 rl (fun _ _ => -1) rfl (fun _ => 0) 0 (tl := 0) (TlI.none _ _ _) (by decide) ra.1 (by rw [tz_k _ 1 (by decide), ra.2.1]; exact i10)
        have ge : gV_X1_comeToRoot Vc = gV_X1_comeTo (tz Vc) (nI ro) := by
          unfold gV_X1_comeToRoot
          rw [hr]
          rfl
        rw [← ge] at r3
        have k4 : ∀ f, gV_X1_comeToRoot Vc 4 f = Vc 4 f := fun f => by rw [ge, cT_k _ _ _ (by decide) (by decide) (by decide), tz_k _ 4 (by decide)]
        have k10 : gV_X1_comeToRoot Vc 10 = Vc 10 := by rw [ge, cT_k _ _ _ (by decide) (by decide) (by decide), tz_k _ 10 (by decide)]
        obtain ⟨rn, s1, s2, s3, s4, s5⟩ := i.N.rts 0 (by have := i.N.v3; omega)
        have ro4 : Vc 4 ro = nI rn := by
          rcases ic.M.rt 0 (by decide) with ⟨z, _⟩ | ⟨_, r', a1, a2, a3, a4, a5⟩
          · rw [hr] at z
            exact absurd z (nI_m1 (by have := ra.1; omega))
          · have : r' = ro := (nI_eq (by omega) (by have := ra.1; omega)).mp (a2.symm.trans hr)
            subst this
            rw [a5]; exact s2
        have rc0 : Rel none (vw 6 I 1) Vc (vw 1 I 29) (wks I 31) (Y1 194) nn := by rw [y94]; exact rc
        have cq : q_X1_comeToRoot Vc = nI ro := by
          show gV_X1_comeToRoot Vc 9 0 = nI ro
          rw [cr9]; exact hr
        have rn0 : rn = 0 := (nI_eq (by have := i.N.n60; omega) (by omega)).mp (s2.symm.trans i.N.r00)
        obtain ⟨rr, ev, alt⟩ := where_loop (T := T + 10001) rl Y1 rc0 ic f11 y15 l12 (P := vw 2 (tkn I n) 158) pth.1 (fun k hk => by rw [yS]; exact pth.2 k hk) (tkn I n 158 1) l' 0 _ D3 (t + 1) ro rn (by omega) r3 i1 (cc.fr cr1 cr9) ⟨cr9, k10, fun v o _ _ _ => k4 o⟩ ca (by rw [k4]; exact ro4) s1 (by omega)
        have wE : o_X1_walk 12 (vw 2 (tkn I n) 158) (vw 6 I 1) Vc (tkn I n 158 1) = lp_X1_walk_8 12 (vw 2 (tkn I n) 158) (vw 6 I 1) (tkn I n 158 1) l' 0 (nI ro) (gV_X1_comeToRoot Vc) := by
          unfold o_X1_walk
          rw [cq, show ix (tkn I n 158 1) = l' by rw [l158, ix_nI (by omega)]]
        have hV'' : (lp_X1_walk_8 12 (vw 2 (tkn I n) 158) (vw 6 I 1) (tkn I n 158 1) l' 0 (nI ro) (gV_X1_comeToRoot Vc)).2 = V' := by rw [← wE]; exact hV'
        have hQ'' : (lp_X1_walk_8 12 (vw 2 (tkn I n) 158) (vw 6 I 1) (tkn I n 158 1) l' 0 (nI ro) (gV_X1_comeToRoot Vc)).1 = Q := by rw [← wE]; exact hQ
        rw [hV'', hQ''] at alt
        have ans : (if 0 ≤ Q then q_X1_nodeOf V' Q else Q) = rr := by
          rcases alt with ⟨a', k', qa, at', v4, ra'⟩ | ⟨qr, hr'⟩
          · rw [qa, if_pos (nI_pos' (show a' < 2 ^ 31 by have := at'.1; omega)), ra']
            unfold q_X1_nodeOf
            rw [Inv.isE at'.1 (by rw [at'.2.1]; exact i10), if_neg i10, ix64 at'.1, v4]
          · rw [qr, if_neg (by rcases hr' with z | z <;> rw [z] <;> decide)]
        rw [ans] at uE
        rw [rn0] at ev
        refine ⟨rr, _, Y1, J, uE, ?_, ?_⟩
        · rw [E_X10_where]
          simp only [rl.kt, if_true, g1, Option.bind_some, asI_I, if_neg i10, rl.fz, if_neg f13]
          exact ev
        · have o2 : ∀ x, x ≠ 7 → (x < 55 ∨ 67 ≤ x) → (x < 158 ∨ 183 ≤ x) → x ≠ 188 → x ≠ 192 → Y1 x = I x := fun x h7 h55 h158 h188 h192 => by rw [yo x h188 h192, oT x h55, tkn_o _ _ h7 h158]
          refine h.qq h30 (S1.emp ?_ y11') (h.2.2.2.1.fr (o2 _ (by decide) (by decide) (by decide) (by decide) (by decide)) (o2 _ (by decide) (by decide) (by decide) (by decide) (by decide))) (fun x w => ?_) (fun j w => ?_) (fun j _ => by rw [y94])
          · rw [yo 7 (by decide) (by decide), oT 7 (by omega)]
            exact tkn_7 I n
          · unfold OkC at w
            exact o2 x (by omega) (by omega) (by omega) (by omega) (by omega)
          · unfold OkK at w
            exact yk j (by omega) (by omega) (by omega) (by omega)
      · exact absurd hy z
    · exact no y0 p0 l0 S0 hn g0 (Or.inl y00)
  · refine no y0 p0 l0 S0 ?_ g0 (Or.inr u.2.1)
    unfold rowO
    rw [if_pos (by rw [u.2.2.1.2.1]; exact Int32.le_refl _)]
    exact (by decide : ¬ (-1 : Int32) = 1)
end
section
/-! A trace told, on both sides. -/
theorem RefL.f34 {J : MJ} (h : RefL J) (I : MI) : fR (I, J) 10 188 34 = some (some 202) := by rw [fR_ok 34 h.k, h.r34]
theorem RefL.f35 {J : MJ} (h : RefL J) (I : MI) : fR (I, J) 10 188 35 = some (some 203) := by rw [fR_ok 35 h.k, h.r35]
theorem RefL.f39 {J : MJ} (h : RefL J) (I : MI) : fR (I, J) 10 188 39 = some (some 204) := by rw [fR_ok 39 h.k, h.r39]
theorem RefL.f40 {J : MJ} (h : RefL J) (I : MI) : fR (I, J) 10 188 40 = some (some 205) := by rw [fR_ok 40 h.k, h.r40]
theorem ldx {I : MI} {J : MJ} {d a n k : Nat} (h : jS J a = (d, n)) (hk : k < n) (hn : n < 2 ^ 31) {x : Int32} (hx : x = nI k) : ld (I, J) d a x = some (I a k) := by
  subst hx
  rw [ld_ok _ h (inb_nI hk hn), show (nI k).toNatClampNeg = k from ix_nI (by omega)]
theorem stx {I : MI} {J : MJ} {d a n k : Nat} (h : jS J a = (d, n)) (hk : k < n) (hn : n < 2 ^ 31) {x : Int32} (hx : x = nI k) (v : Int32) : st (I, J) d a x v = some (up2 I a k v, J) := by
  subst hx
  rw [st_ok _ _ h (inb_nI hk hn), show (nI k).toNatClampNeg = k from ix_nI (by omega)]
/-- the reference's heap while a trace is read: draftTrace is c, draftSteps A, draftLong L -/
def tB (Y : MI) (c : Int32) (A L : RowV) : MI := fun a j => if a = 204 then A j else if a = 205 then L j else if a = 188 ∧ j = 38 then c else Y a j
theorem tB_A (Y : MI) (c : Int32) (A L : RowV) : tB Y c A L 204 = A := by
  funext j
  unfold tB
  rw [if_pos rfl]
theorem tB_L (Y : MI) (c : Int32) (A L : RowV) : tB Y c A L 205 = L := by
  funext j
  unfold tB
  rw [if_neg (by decide), if_pos rfl]
theorem tB_c (Y : MI) (c : Int32) (A L : RowV) : tB Y c A L 188 38 = c := by
  unfold tB
  rw [if_neg (by decide), if_neg (by decide), if_pos ⟨rfl, rfl⟩]
theorem tB_k (Y : MI) (c : Int32) (A L : RowV) {k : Nat} (h : k ≠ 38) : tB Y c A L 188 k = Y 188 k := by
  unfold tB
  rw [if_neg (by decide), if_neg (by decide), if_neg (fun q => h q.2)]
theorem tB_o (Y : MI) (c : Int32) (A L : RowV) {a : Nat} (h1 : a ≠ 188) (h2 : a ≠ 204) (h3 : a ≠ 205) : tB Y c A L a = Y a := by
  funext j
  unfold tB
  rw [if_neg h2, if_neg h3, if_neg (fun q => h1 q.1)]
theorem tB_sA (Y : MI) (c : Int32) (A L S : RowV) (p m : Int32) (i : Nat) (v : Int32) : up2 (pF (tB Y c A L) p m S) 204 i v = pF (tB Y c (sD A i v) L) p m S := by
  funext a j
  unfold up2 pF tB sD
  by_cases h : a = 204
  · subst h
    simp
  · simp [h]
theorem tB_sL (Y : MI) (c : Int32) (A L S : RowV) (p m : Int32) (i : Nat) (v : Int32) : up2 (pF (tB Y c A L) p m S) 205 i v = pF (tB Y c A (sD L i v)) p m S := by
  funext a j
  unfold up2 pF tB sD
  by_cases h : a = 205
  · subst h
    simp
  · simp [h]
theorem tB_sc (Y : MI) (c : Int32) (A L S : RowV) (p m : Int32) (v : Int32) : up2 (pF (tB Y c A L) p m S) 188 38 v = pF (tB Y v A L) p m S := by
  funext a j
  unfold up2 pF tB
  by_cases h : a = 188 ∧ j = 38
  · rw [if_pos h, if_neg (by omega), if_neg (by omega), if_neg (by omega), if_neg (by omega), if_neg (by omega), if_pos h]
  · simp [h]
theorem tB_id (Y : MI) : tB Y (Y 188 38) (Y 204) (Y 205) = Y := by
  funext a j
  unfold tB
  by_cases h : a = 204
  · rw [if_pos h, h]
  · rw [if_neg h]
    by_cases h2 : a = 205
    · rw [if_pos h2, h2]
    · rw [if_neg h2]
      by_cases h3 : a = 188 ∧ j = 38
      · rw [if_pos h3, h3.1, h3.2]
      · rw [if_neg h3]
theorem itr_sD (b : Nat) (g : Nat → Int32) : ∀ (n k : Nat) (A : RowV) (j : Nat), itr (fun k A => sD A (b + k) (g k)) k n A j = if b + k ≤ j ∧ j < b + k + n then g (j - b) else A j
  | 0, k, A, j => by
    rw [if_neg (by omega)]
    rfl
  | n + 1, k, A, j => by
    show itr (fun k A => sD A (b + k) (g k)) (k + 1) n (sD A (b + k) (g k)) j = _
    rw [itr_sD b g n (k + 1)]
    by_cases z : j = b + k
    · rw [if_neg (by omega), if_pos (by omega), z, sD_s, show b + k - b = k by omega]
    · by_cases w : b + k ≤ j ∧ j < b + k + (n + 1)
      · rw [if_pos (by omega), if_pos w]
      · rw [if_neg (by omega), if_neg w, sD_n _ _ z]
theorem rr_ne {a b : Nat} (ha : a < 12) (hb : b < 12) (h : a ≠ b) : rr 158 a + 2 ≤ rr 158 b ∨ rr 158 b + 2 ≤ rr 158 a := by
  unfold rr
  split <;> split <;> omega
/-- what has been told so far -/
def Trs (X : MI) (A L : RowV) (c : Nat) : Prop := ∀ k, k < c → ∃ l, l ≤ 12 ∧ L k = nI l ∧ Pth (vw 2 X (rr 158 k)) (fun j => A (12 * k + j)) l
theorem trace_loop {Y : MI} {Q : RouV} {T : Nat} {J : MJ} (h : RefL J) (t : Tap Q T) (y3 : Y 188 3 = nI T) (y9 : ∀ k, k < T → Y 189 k = Q 1 k) : ∀ (f fr c : Nat) (A L : RowV) (m : Int32) (S : RowV) (X : MI), fr + f = T + 1 → 1 ≤ f → c ≤ 12 → Trs X A L c → ∃ y p' m' S' A' L' c', Ev T_X10_isTrace 11 [some (mR (some 188)), some (mI 1), none] [] (pF (tB Y (nI c) A L) (nI fr) m S, J) = some (some (mI y), (pF (tB Y (nI c') A' L') (nI p') m' S', J)) ∧ c' ≤ 12 ∧ ((y = 1 ∧ (lpRow T Q f fr c fr X).1 = nI c' ∧ Trs (lpRow T Q f fr c fr X).2 A' L' c') ∨ (y = 0 ∧ (lpRow T Q f fr c fr X).1 = -1)) := by
  have T4 := t.1
  intro f
  induction f using Nat.strongRecOn with
  | ind f ih =>
    intro fr c A L m S X hf f1 hc tr
    have rt : ∀ c A L, RTap (tB Y c A L) Q T := fun c A L => ⟨t, by rw [tB_k _ _ _ _ (by decide)]; exact y3, fun k hk => by rw [tB_o _ _ _ _ (by decide) (by decide) (by decide)]; exact y9 k hk⟩
    obtain ⟨to, o1, o2, o3, o4⟩ := ex_first (fun k => Q 1 k = 32) fr T (by omega)
    have o5 : to = T ∨ (to < T ∧ Q 1 to = 32) := by
      rcases Nat.eq_or_lt_of_le o2 with z | z
      · exact Or.inl z
      · exact Or.inr ⟨z, o4.resolve_left (by omega)⟩
    have scan := lpRow_scan t o2 (to - fr) f fr c fr X (by omega) (by omega) o3
    rw [show f - (to - fr) = (T - to) + 1 by omega] at scan
    rw [E_X10_isTrace_11, if_neg i10]
    have g38 : ∀ c A L p m S, pF (tB Y c A L) p m S 188 38 = c := fun c A L p m S => by rw [pF_k _ _ _ _ (by decide) (by decide)]; exact tB_c _ _ _ _
    have g3 : ∀ c A L p m S, pF (tB Y c A L) p m S 188 3 = nI T := fun c A L p m S => by rw [pF_k _ _ _ _ (by decide) (by decide), tB_k _ _ _ _ (by decide)]; exact y3
    simp only [h.fi, g38, Option.bind_some]
    by_cases c12 : c = 12
    · subst c12
      rw [if_pos (show nI 12 = 12 from rfl)]
      refine ⟨0, fr, m, S, A, L, 12, by simp, Nat.le_refl _, Or.inr ⟨rfl, ?_⟩⟩
      rw [scan, lpRow, if_neg, if_pos (by omega)]
      rintro ⟨z1, z2⟩
      rcases o5 with y | ⟨y1, y2⟩
      · omega
      · rw [t.in y1] at z2
        exact z2 y2
    · have c11 : c < 12 := by omega
      rw [if_neg (show ¬ nI c = 12 from fun z => c12 ((nI_eq (b := 12) (by omega) (by decide)).mp z))]
      have en := lpRow_end t o5 (T - to) fr c X c11
      obtain ⟨y, p', l', S', w1, w2, w3⟩ := w_isPathHere (rt (nI c) A L) h o1 o2 o4 o3 m S (vw 2 X (rr 158 c))
      simp only [h.kt, if_true, w1, Option.bind_some, asI_I]
      -- the copies
      have cp : ∀ l, l ≤ 12 → Ev T_X10_isTrace 35 [some (mR (some 188)), none, some (mI 0)] [] (pF (tB Y (nI c) A L) (nI p') (nI l) S', J) = Ev T_X10_isTrace 35 [some (mR (some 188)), none, some (mI (nI l))] [] (pF (tB Y (nI c) (itr (fun k A => sD A (12 * c + k) (S' k)) 0 l A) L) (nI p') (nI l) S', J) := fun l hl => by
        have s1 := loop_all (fun k A => Ev T_X10_isTrace 35 [some (mR (some 188)), none, some (mI (nI k))] [] (pF (tB Y (nI c) A L) (nI p') (nI l) S', J)) (fun k A => sD A (12 * c + k) (S' k)) l A (fun k A hk => by
          try dsimp only
          rw [E_X10_isTrace_35]
          have e12 : (12 : Int32) * nI c + nI k = nI (12 * c + k) := by rw [show (12 : Int32) = nI 12 from rfl, nI_mul, nI_add]
          simp only [h.fi, pF_15, Option.bind_some, if_neg (nI_ge hk (by omega)), h.f39, h.f14, g38, ldx h.s14 (show k < 64 by omega) (by decide) rfl, stx h.s39 (show 12 * c + k < 144 by omega) (by decide) e12, pF_S, tB_sA, nI_1])
        try dsimp only at s1
        rw [show (nI 0) = 0 from rfl] at s1
        exact s1
      have after : ∀ l, l ≤ 12 → ∀ A2, Ev T_X10_isTrace 35 [some (mR (some 188)), none, some (mI (nI l))] [] (pF (tB Y (nI c) A2 L) (nI p') (nI l) S', J) = if nI T ≤ nI p' then Ev T_X10_isTrace 11 [some (mR (some 188)), some (mI 0), none] [] (pF (tB Y (nI (c + 1)) A2 (sD L c (nI l))) (nI p') (nI l) S', J) else (ld (pF (tB Y (nI (c + 1)) A2 (sD L c (nI l))) (nI p') (nI l) S', J) 11 189 (nI p')).bind fun v15 => if v15 = 32 then Ev T_X10_isTrace 11 [some (mR (some 188)), some (mI 1), none] [] (pF (tB Y (nI (c + 1)) A2 (sD L c (nI l))) (nI (p' + 1)) (nI l) S', J) else Ev T_X10_isTrace 11 [some (mR (some 188)), some (mI 0), none] [] (pF (tB Y (nI (c + 1)) A2 (sD L c (nI l))) (nI p') (nI l) S', J) := fun l hl A2 => by
        rw [E_X10_isTrace_35]
        simp only [h.fi, pF_15, Option.bind_some, if_pos (Int32.le_refl (nI l)), h.f40, g38, stx h.s40 (show c < 12 by omega) (by decide) rfl, tB_sL, h.wi, tB_sc, pF_2, g3, h.f0, nI_1, if_true, if_neg i10, pF_s2]
      have stop : ∀ c2 A2 L2 m2, Ev T_X10_isTrace 11 [some (mR (some 188)), some (mI 0), none] [] (pF (tB Y c2 A2 L2) (nI p') m2 S', J) = some (some (mI (if nI p' = nI T then 1 else 0)), (pF (tB Y c2 A2 L2) (nI p') m2 S', J)) := fun c2 A2 L2 m2 => by
        rw [E_X10_isTrace_11]
        simp only [if_true, h.fi, pF_2, g3, Option.bind_some]
        by_cases z : nI p' = nI T
        · simp [z]
        · simp [z]
      rcases w3 with ⟨q1, q2, q3, q4, q5⟩ | ⟨q1, q2⟩
      · subst q2 q3
        rw [if_neg i10, cp l' q4, after l' q4]
        rw [scan, en, q1, if_neg i10]
        generalize hX' : pt X (rr 158 c) (gP_X4_readFrom 12 Q (vw 2 X (rr 158 c)) (nI fr) (nI p')) = X'
        generalize hA' : itr (fun k A => sD A (12 * c + k) (S' k)) 0 l' A = A'
        have a' : ∀ j, A' j = if 12 * c ≤ j ∧ j < 12 * c + l' then S' (j - 12 * c) else A j := fun j => by
          rw [← hA', itr_sD]
          simp only [Nat.add_zero]
        have tr' : Trs X' A' (sD L c (nI l')) (c + 1) := by
          intro k hk
          by_cases z : k = c
          · subst z
            refine ⟨l', q4, sD_s _ _ _, ?_⟩
            rw [← hX', vw_pt]
            refine ⟨q5.1, fun j hj => ?_⟩
            have := q5.2 j hj
            show NmS _ (A' (12 * k + j))
            rw [a', if_pos (by omega), show 12 * k + j - 12 * k = j by omega]
            exact this
          · obtain ⟨l, l1, l2, l3⟩ := tr k (by omega)
            refine ⟨l, l1, by rw [sD_n _ _ z]; exact l2, ?_⟩
            rw [← hX', vw_out _ _ (rr_ne (show k < 12 by omega) c11 z)]
            refine ⟨l3.1, fun j hj => ?_⟩
            show NmS _ (A' (12 * k + j))
            rw [a', if_neg (by omega)]
            exact l3.2 j hj
        rcases o5 with e | ⟨e1, e2⟩
        · subst e
          rw [if_pos (Int32.le_refl _), stop, if_pos rfl]
          refine ⟨1, _, _, _, _, _, c + 1, rfl, by omega, Or.inl ⟨rfl, ?_, ?_⟩⟩
          · rw [Nat.sub_self]; rfl
          · rw [Nat.sub_self]; exact tr'
        · rw [if_neg (nI_ge e1 (by omega)), (rt _ _ _).ld h _ _ S' e1 rfl, Option.bind_some, e2, if_pos rfl]
          exact ih (T - p') (by omega) (p' + 1) (c + 1) A' (sD L c (nI l')) (nI l') S' X' (by omega) (by omega) (by omega) tr'
      · have r0 : (lpRow T Q f fr c fr X).1 = -1 := by
          rw [scan, en, q1, if_pos rfl]
        rw [r0]
        rcases q2 with z | ⟨z1, z2, z3⟩
        · rw [if_pos z]
          exact ⟨0, p', nI l', S', A, L, c, by simp, hc, Or.inr ⟨rfl, rfl⟩⟩
        · subst z1
          rw [if_neg i10]
          rw [cp l' z3.2, after l' z3.2, if_neg (nI_ge z2 (by omega)), (rt _ _ _).ld h _ _ S' z2 rfl, Option.bind_some, if_neg z3.1, stop, if_neg (fun z => by have := (nI_eq (by omega) (by omega)).mp z; omega)]
          exact ⟨0, p', nI l', S', _, _, c + 1, rfl, by omega, Or.inr ⟨rfl, rfl⟩⟩
theorem w_isTrace {I Y : MI} {J : MJ} {T : Nat} (h : RefL J) (t : Tap (vw 2 I 7) T) (e1 : Y 188 1 = nI T) (e2 : ∀ k, k < T → Y 189 k = I 8 k) : ∃ y p' m' S' A' L' c', M_X10_isTrace [mR (some 188)] (Y, J) = some (some (mI y), (pF (tB (bgP Y T) (nI c') A' L') (nI p') m' S', J)) ∧ c' ≤ 12 ∧ (¬ I 1 6 ≤ 0 → ((y = 1 ∧ (rowO I T).1 = nI c' ∧ Trs (rowO I T).2 A' L' c') ∨ (y = 0 ∧ (rowO I T).1 = -1))) := by
  have := trace_loop (Y := bgP Y T) h t (bgP_3 Y T).1 (fun k hk => by rw [bgP_o _ _ (by decide)]; exact e2 k hk) (T + 1) 0 0 (bgP Y T 204) (bgP Y T 205) (bgP Y T 188 15) (bgP Y T 192) I (by omega) (by omega) (by omega) (fun k hk => by omega)
  obtain ⟨y, p', m', S', A', L', c', g1, g2, g3⟩ := this
  refine ⟨y, p', m', S', A', L', c', ?_, g2, fun q => ?_⟩
  · rw [E_X10_isTrace]
    simp only [h.kt, if_true, w_beginsPaths h Y e1, Option.bind_some, asV_n, h.wi]
    have e : up2 (bgP Y T) 188 38 0 = pF (tB (bgP Y T) (nI 0) (bgP Y T 204) (bgP Y T 205)) (nI 0) (bgP Y T 188 15) (bgP Y T 192) := by
      have z := tB_sc (bgP Y T) (bgP Y T 188 38) (bgP Y T 204) (bgP Y T 205) (bgP Y T 192) 0 (bgP Y T 188 15) 0
      rw [tB_id, pF_bg] at z
      exact z
    rw [e]
    exact g1
  · unfold rowO
    rw [if_neg q]
    exact g3
end
section
/-! A trace taken, on both sides. -/
theorem bcm_loop : ∀ (n k : Nat) (I0 : MI), k + n ≤ 12 → (∀ x, x ≠ 69 → (x < 134 + 2 * k ∨ 134 + 2 * (k + n) ≤ x) → itr (fun k I => bstep 69 158 k I) k n I0 x = I0 x) ∧ (∀ j, j ≠ 1 → itr (fun k I => bstep 69 158 k I) k n I0 69 j = I0 69 j) ∧ (∀ m, I0 69 1 = nI m → itr (fun k I => bstep 69 158 k I) k n I0 69 1 = nI (m + n)) ∧ ∀ j l, k ≤ j → j < k + n → I0 (rr 158 j) 1 = nI l → l ≤ 12 → itr (fun k I => bstep 69 158 k I) k n I0 (134 + 2 * j) 1 = nI l ∧ ∀ i, i < l → itr (fun k I => bstep 69 158 k I) k n I0 (134 + 2 * j + 1) i = I0 (rr 158 j + 1) i
  | 0, k, I0, hk => ⟨fun x _ _ => rfl, fun j _ => rfl, fun m h => h, fun j l h1 h2 => by omega⟩
  | n + 1, k, I0, hk => by
    have e : itr (fun k I => bstep 69 158 k I) k (n + 1) I0 = itr (fun k I => bstep 69 158 k I) (k + 1) n (bstep 69 158 k I0) := rfl
    rw [e]
    obtain ⟨g1, g2, g3, g4⟩ := bcm_loop n (k + 1) (bstep 69 158 k I0) (by omega)
    have b1 : ∀ x, x ≠ 69 → (x < 134 + 2 * k ∨ 136 + 2 * k ≤ x) → bstep 69 158 k I0 x = I0 x := fun x a b => by
      unfold bstep
      rw [up2_o _ _ _ a, pt_out (by omega)]
    have b2 : ∀ j, bstep 69 158 k I0 69 j = if j = 1 then I0 69 1 + 1 else I0 69 j := fun j => by
      unfold bstep
      rw [up2_r, pt_out (by omega)]
    have rin : ∀ j, j < 12 → 158 ≤ rr 158 j ∧ rr 158 j + 2 ≤ 183 := fun j hj => rr_in hj
    refine ⟨fun x a b => ?_, fun j hj => ?_, fun m hm => ?_, fun j l h1 h2 h3 h4 => ?_⟩
    · rw [g1 x a (by omega), b1 x a (by omega)]
    · rw [g2 j hj, b2, if_neg hj]
    · rw [g3 (m + 1) (by rw [b2, if_pos rfl, hm, nI_1]), show m + 1 + n = m + (n + 1) by omega]
    · have rj := rin j (by omega)
      by_cases z : j = k
      · subst z
        have c := copy_route (L2 := 12) (L := 12) (P2 := vw 2 I0 (rr 158 j)) (P := vw 2 I0 (134 + 2 * j)) h3 h4 h4 (by decide) (by decide)
        have p : ∀ q : Fin 2, bstep 69 158 j I0 (134 + 2 * j + q.val) = gP_X4_copyFrom 12 12 (vw 2 I0 (rr 158 j)) (vw 2 I0 (134 + 2 * j)) q := fun q => by
          unfold bstep
          rw [up2_o _ _ _ (by omega)]
          exact pt_in q
        have p0 := p 0
        have p1 := p 1
        rw [g1 (134 + 2 * j) (by omega) (by omega), g1 (134 + 2 * j + 1) (by omega) (by omega)]
        rw [show 134 + 2 * j + (0 : Fin 2).val = 134 + 2 * j from rfl] at p0
        rw [show 134 + 2 * j + (1 : Fin 2).val = 134 + 2 * j + 1 from rfl] at p1
        rw [p0, p1]
        exact c
      · obtain ⟨g5, g6⟩ := g4 j l (by omega) (by omega) (by rw [b1 _ (by omega) (by omega)]; exact h3) h4
        refine ⟨g5, fun i hi => ?_⟩
        rw [g6 i hi, b1 _ (by omega) (by omega)]
theorem w_trace_copy {J : MJ} (h : RefL J) (I : MI) : Ev T_X10_trace 30 [some (mR (some 188)), some (mI 0)] [] (I, J) = some (some (mI (I 188 36)), (up2 (itr (rcp 205 203) 0 12 (itr (rcp 204 202) 0 144 I)) 188 37 (-1), J)) := by
  have s1 := loop_all (fun k I => Ev T_X10_trace 30 [some (mR (some 188)), some (mI (nI k))] [] (I, J)) (rcp 204 202) 144 I (fun k I hk => by
    try dsimp only
    rw [E_X10_trace_30, if_neg (show ¬ (144 : Int32) ≤ nI k from nI_ge (b := 144) hk (by decide))]
    simp only [h.f34, h.f39, Option.bind_some, ldx h.s39 hk (by decide) rfl, stx h.s34 hk (by decide) rfl, nI_1]
    rfl)
  try dsimp only at s1
  rw [show (nI 0) = 0 from rfl] at s1
  rw [s1, E_X10_trace_30, if_pos (show (144 : Int32) ≤ nI 144 by decide)]
  have o1 : itr (rcp 204 202) 0 144 I 188 36 = I 188 36 := by rw [rcp_o 144 0 I (show (188 : Nat) ≠ 202 by decide)]
  generalize itr (rcp 204 202) 0 144 I = I1 at o1
  have s2 := loop_all (fun k I => Ev T_X10_trace 57 [some (mR (some 188)), some (mI (nI k))] [] (I, J)) (rcp 205 203) 12 I1 (fun k I hk => by
    try dsimp only
    rw [E_X10_trace_57, if_neg (show ¬ (12 : Int32) ≤ nI k from nI_ge (b := 12) hk (by decide))]
    simp only [h.f35, h.f40, Option.bind_some, ldx h.s40 hk (by decide) rfl, stx h.s35 hk (by decide) rfl, nI_1]
    rfl)
  try dsimp only at s2
  rw [show (nI 0) = 0 from rfl] at s2
  rw [s2, E_X10_trace_57, if_pos (show (12 : Int32) ≤ nI 12 by decide)]
  have o2 : itr (rcp 205 203) 0 12 I1 188 36 = I 188 36 := by rw [rcp_o 12 0 I1 (show (188 : Nat) ≠ 203 by decide), o1]
  simp only [h.wi, h.fi, Option.bind_some, up2_k _ _ _ (show (36 : Nat) ≠ 37 by decide), o2]
theorem P_trace {I : MI} {J : MJ} {T B0 : Nat} (h : St I J T B0) (h30 : T + 10001 ≤ 1000000000) : Pair I J T B0 (M_X9_trace [mR (some 0)]) (M_X10_trace [mR (some 188)]) := by
  obtain ⟨n, t1, t2, t3⟩ := h.2.1
  have T4 := t1.1
  have rl := h.1.2
  have no : (rowO I n).1 = -1 → Pair I J T B0 (M_X9_trace [mR (some 0)]) (M_X10_trace [mR (some 188)]) := by
    intro hn
    have uE := u_trace_no h.1.1 I T4 t1.2.1 hn
    have o : ∀ x, x ≠ 7 → (x < 158 ∨ 183 ≤ x) → x ≠ 186 → rfz (tkn I n) 5 x = I x := fun x p q r => by rw [rfz_o _ _ r, tkn_o _ _ p q]
    obtain ⟨y, p', m', S', A', L', c', g1, g2, g3⟩ := w_isTrace (Y := rfz (tkn I n) 5) rl t1 (by rw [o 188 (by decide) (by decide) (by decide)]; exact t2) (fun k hk => by rw [o 189 (by decide) (by decide) (by decide)]; exact t3 k hk)
    have yk : ∀ k, k ≠ 1 → k ≠ 2 → k ≠ 3 → k ≠ 15 → k ≠ 38 → pF (tB (bgP (rfz (tkn I n) 5) n) (nI c') A' L') (nI p') m' S' 188 k = I 188 k := fun k a b c d e => by rw [pF_k _ _ _ _ b d, tB_k _ _ _ _ e, bgP_k _ _ a b c, o 188 (by decide) (by decide) (by decide)]
    have yo : ∀ x, x ≠ 188 → x ≠ 192 → x ≠ 204 → x ≠ 205 → pF (tB (bgP (rfz (tkn I n) 5) n) (nI c') A' L') (nI p') m' S' x = rfz (tkn I n) 5 x := fun x a b c d => by rw [pF_o _ _ _ _ a b, tB_o _ _ _ _ a c d, bgP_o _ _ a]
    have y1 : pF (tB (bgP (rfz (tkn I n) 5) n) (nI c') A' L') (nI p') m' S' 188 1 = 0 := by rw [pF_k _ _ _ _ (by decide) (by decide), tB_k _ _ _ _ (by decide)]; exact (bgP_3 _ _).2.1
    generalize pF (tB (bgP (rfz (tkn I n) 5) n) (nI c') A' L') (nI p') m' S' = Y1 at g1 yk yo y1
    have rf := w_refuses rl Y1 (k := 5) (x := 5) rfl (by decide)
    have res : M_X10_trace [mR (some 188)] (rfz (tkn I n) 5, J) = some (some (mI (-1)), (rfR Y1 5, J)) := by
      rw [E_X10_trace]
      simp only [rl.kt, if_true, g1, Option.bind_some, asI_I, rl.fz, rf]
      by_cases z : y = 0
      · rw [if_pos z]
      · rw [if_neg z]
        have : bz (Y1 188 13) = 0 := by
          rw [yk 13 (by decide) (by decide) (by decide) (by decide) (by decide)]
          rcases h.2.2.2.2.2.2.2.2.2 with ⟨vol, ad, p, q, hv, td, ⟨nn, t, i, c, r⟩, hs⟩ | u
          · rcases g3 (Told.h6 i) with ⟨_, q2, _⟩ | ⟨q1, _⟩
            · rw [hn] at q2
              exact absurd q2.symm (nI_m1 (by omega))
            · exact absurd q1 z
          · exact u.2.1
        rw [if_pos this]
    refine ⟨-1, _, _, J, uE, res, ?_⟩
    have ro : ∀ x, x ≠ 190 → rfR Y1 5 x = Y1 x := fun x a => rfR_o _ _ a
    refine h.tk h30 (h.2.2.2.1.rf (by decide) (yo 186 (by decide) (by decide) (by decide) (by decide)) (by rw [yo 190 (by decide) (by decide) (by decide) (by decide), o 190 (by decide) (by decide) (by decide)])) (fun x a b c d e f g i j => ?_) (fun k a b c d e f => ?_) ?_ ?_
    · rw [ro x e, yo x d f i j, o x a b c]
    · rw [ro 188 (by decide), yk k a b c d f]
    · rw [ro 7 (by decide), yo 7 (by decide) (by decide) (by decide) (by decide), rfz_o _ _ (by decide)]
      exact tkn_7 I n
    · rw [ro 188 (by decide)]
      exact y1
  rcases h.2.2.2.2.2.2.2.2.2 with ⟨vol, ad, p, q, hv, td, ⟨nn, t, i, c, r⟩, hs⟩ | u
  · have h6 : ¬ I 1 6 ≤ 0 := Told.h6 i
    have nu : Unt I J T B0 → False := fun u => h6 (by rw [u.2.2.1.2.1]; exact Int32.le_refl _)
    have ge : (rowO I n).1 = -1 ∨ ∃ c', 0 ≤ c' ∧ c' ≤ 12 ∧ (rowO I n).1 = nI c' := by
      unfold rowO
      rw [if_neg h6]
      exact lpRow_ge n (vw 2 I 7) (n + 1) 0 0 0 I (by omega)
    rcases ge with hn | ⟨c', _, c12, hc⟩
    · exact no hn
    · have uE := u_trace h.1.1 I T4 t1.2.1 hc c12
      obtain ⟨b1, b2, b3, b4⟩ := bcm_loop c' 0 (up2 (up2 (tkn I n) 69 1 0) 69 2 (-1)) (by omega)
      have hb : itr (fun k I => bstep 69 158 k I) 0 c' (up2 (up2 (tkn I n) 69 1 0) 69 2 (-1)) = bcm (tkn I n) 69 158 c' := rfl
      rw [hb] at b1 b2 b3 b4
      have b5 : ∀ x, x ≠ 69 → (x < 134 ∨ 158 ≤ x) → bcm (tkn I n) 69 158 c' x = tkn I n x := fun x a b => by
        rw [b1 x a (by omega), up2_o _ _ _ a, up2_o _ _ _ a]
      have b6 : bcm (tkn I n) 69 158 c' 69 1 = nI c' := by
        rw [b3 0 (by rw [up2_k _ _ _ (by decide), up2_s]; rfl), Nat.zero_add]
      have b7 : bcm (tkn I n) 69 158 c' 69 2 = -1 := by
        rw [b2 2 (by decide), up2_s]
      have b8 : ∀ j l, j < c' → tkn I n (rr 158 j) 1 = nI l → l ≤ 12 → bcm (tkn I n) 69 158 c' (134 + 2 * j) 1 = nI l ∧ ∀ i, i < l → bcm (tkn I n) 69 158 c' (134 + 2 * j + 1) i = tkn I n (rr 158 j + 1) i := fun j l hj q1 q2 => by
        have rj := rr_in (show j < 12 by omega)
        have := b4 j l (Nat.zero_le _) (by omega) (by rw [up2_o _ _ _ (by omega), up2_o _ _ _ (by omega)]; exact q1) q2
        rw [up2_o _ _ _ (show rr 158 j + 1 ≠ 69 by omega), up2_o _ _ _ (show rr 158 j + 1 ≠ 69 by omega)] at this
        exact this
      generalize bcm (tkn I n) 69 158 c' = Y0 at uE b5 b6 b7 b8
      have o : ∀ x, x ≠ 7 → x ≠ 69 → (x < 134 ∨ 183 ≤ x) → Y0 x = I x := fun x a b c => by rw [b5 x b (by omega), tkn_o _ _ a (by omega)]
      obtain ⟨y, p', m', S', A', L', c2, g1, g2, g3⟩ := w_isTrace (Y := Y0) rl t1 (by rw [o 188 (by decide) (by decide) (by decide)]; exact t2) (fun k hk => by rw [o 189 (by decide) (by decide) (by decide)]; exact t3 k hk)
      rcases g3 h6 with ⟨q1, q2, q3⟩ | ⟨_, q2⟩
      · have : c2 = c' := (nI_eq (by omega) (by omega)).mp (q2.symm.trans hc)
        subst this q1
        have yk : ∀ k, k ≠ 1 → k ≠ 2 → k ≠ 3 → k ≠ 15 → k ≠ 38 → pF (tB (bgP Y0 n) (nI c2) A' L') (nI p') m' S' 188 k = I 188 k := fun k a b c d e => by rw [pF_k _ _ _ _ b d, tB_k _ _ _ _ e, bgP_k _ _ a b c, o 188 (by decide) (by decide) (by decide)]
        have yo : ∀ x, x ≠ 188 → x ≠ 192 → x ≠ 204 → x ≠ 205 → pF (tB (bgP Y0 n) (nI c2) A' L') (nI p') m' S' x = Y0 x := fun x a b c d => by rw [pF_o _ _ _ _ a b, tB_o _ _ _ _ a c d, bgP_o _ _ a]
        have y1 : pF (tB (bgP Y0 n) (nI c2) A' L') (nI p') m' S' 188 1 = 0 := by rw [pF_k _ _ _ _ (by decide) (by decide), tB_k _ _ _ _ (by decide)]; exact (bgP_3 _ _).2.1
        have y38 : pF (tB (bgP Y0 n) (nI c2) A' L') (nI p') m' S' 188 38 = nI c2 := by rw [pF_k _ _ _ _ (by decide) (by decide), tB_c]
        have yA : pF (tB (bgP Y0 n) (nI c2) A' L') (nI p') m' S' 204 = A' := by rw [pF_o _ _ _ _ (by decide) (by decide), tB_A]
        have yL : pF (tB (bgP Y0 n) (nI c2) A' L') (nI p') m' S' 205 = L' := by rw [pF_o _ _ _ _ (by decide) (by decide), tB_L]
        generalize pF (tB (bgP Y0 n) (nI c2) A' L') (nI p') m' S' = Y1 at g1 yk yo y1 y38 yA yL
        have cpy := w_trace_copy rl (up2 Y1 188 36 (nI c2))
        rw [up2_s] at cpy
        have r2 : ∀ j, j < 144 → itr (rcp 204 202) 0 144 (up2 Y1 188 36 (nI c2)) 202 j = A' j := fun j hj => by
          rw [rcp_at (by decide), if_pos (by omega), up2_o _ _ _ (by decide), yA]
        have ro : ∀ x, x ≠ 202 → itr (rcp 204 202) 0 144 (up2 Y1 188 36 (nI c2)) x = up2 Y1 188 36 (nI c2) x := fun x a => rcp_o _ _ _ a
        generalize itr (rcp 204 202) 0 144 (up2 Y1 188 36 (nI c2)) = Y2 at cpy r2 ro
        have r3 : ∀ j, j < 12 → itr (rcp 205 203) 0 12 Y2 203 j = L' j := fun j hj => by
          rw [rcp_at (by decide), if_pos (by omega), ro _ (by decide), up2_o _ _ _ (by decide), yL]
        have ro3 : ∀ x, x ≠ 203 → itr (rcp 205 203) 0 12 Y2 x = Y2 x := fun x a => rcp_o _ _ _ a
        generalize itr (rcp 205 203) 0 12 Y2 = Y3 at cpy r3 ro3
        have zo : ∀ x, x ≠ 188 → x ≠ 192 → x ≠ 202 → x ≠ 203 → x ≠ 204 → x ≠ 205 → up2 Y3 188 37 (-1) x = Y0 x := fun x a b c d e f => by rw [up2_o _ _ _ a, ro3 x d, ro x c, up2_o _ _ _ a, yo x a b e f]
        have zk : ∀ k, k ≠ 1 → k ≠ 2 → k ≠ 3 → k ≠ 15 → k ≠ 36 → k ≠ 37 → k ≠ 38 → up2 Y3 188 37 (-1) 188 k = I 188 k := fun k a b c d e f g => by rw [up2_k _ _ _ f, ro3 188 (by decide), ro 188 (by decide), up2_k _ _ _ e, yk k a b c d g]
        have z1 : up2 Y3 188 37 (-1) 188 1 = 0 := by rw [up2_k _ _ _ (by decide), ro3 188 (by decide), ro 188 (by decide), up2_k _ _ _ (by decide)]; exact y1
        have z36 : up2 Y3 188 37 (-1) 188 36 = nI c2 := by rw [up2_k _ _ _ (by decide), ro3 188 (by decide), ro 188 (by decide), up2_s]
        have z37 : up2 Y3 188 37 (-1) 188 37 = -1 := up2_s _ _ _ _
        have z202 : ∀ j, j < 144 → up2 Y3 188 37 (-1) 202 j = A' j := fun j hj => by rw [up2_o _ _ _ (by decide), ro3 202 (by decide), r2 j hj]
        have z203 : ∀ j, j < 12 → up2 Y3 188 37 (-1) 203 j = L' j := fun j hj => by rw [up2_o _ _ _ (by decide), r3 j hj]
        generalize up2 Y3 188 37 (-1) = Z at cpy zo zk z1 z36 z37 z202 z203
        have f13 : ¬ bz (Y1 188 13) = 0 := by rw [yk 13 (by decide) (by decide) (by decide) (by decide) (by decide)]; exact td
        refine ⟨_, _, Z, J, uE, ?_, ?_⟩
        · rw [E_X10_trace]
          simp only [rl.kt, if_true, g1, Option.bind_some, asI_I, if_neg i10, rl.fz, if_neg f13, rl.fi, y38, rl.wi]
          exact cpy
        · have oo : ∀ x, x ≠ 7 → x ≠ 69 → (x < 134 ∨ 183 ≤ x) → x ≠ 188 → x ≠ 192 → x ≠ 202 → x ≠ 203 → x ≠ 204 → x ≠ 205 → Z x = I x := fun x a b c d e f g i j => by rw [zo x d e f g i j, o x a b c]
          have s7 : S7 Z c2 := by
            refine ⟨by rw [zo 69 (by decide) (by decide) (by decide) (by decide) (by decide) (by decide)]; exact b6, c12, z36, by rw [zo 69 (by decide) (by decide) (by decide) (by decide) (by decide) (by decide), b7, z37], fun p hp => ?_⟩
            obtain ⟨l, l1, l2, l3⟩ := q3 p hp
            have rp := rr_in (show p < 12 by omega)
            have tk : ∀ x, 158 ≤ x → x < 183 → tkn I n x = (rowO I n).2 x := fun x a b => tkn_r I n (by omega) (by omega)
            obtain ⟨b9, b10⟩ := b8 p l hp (by rw [tk _ (by omega) (by omega)]; exact l3.1) l1
            refine ⟨l, l1, by rw [z203 p (by omega)]; exact l2, ?_, fun k hk => ?_⟩
            · show Z (134 + 2 * p + 0) 1 = nI l
              rw [zo _ (by omega) (by omega) (by omega) (by omega) (by omega) (by omega)]
              exact b9
            · show NmS (Z (134 + 2 * p + 1) k) (Z 202 (12 * p + k))
              rw [zo _ (by omega) (by omega) (by omega) (by omega) (by omega) (by omega), b10 k hk, tk _ (by omega) (by omega), z202 _ (by omega)]
              exact l3.2 k hk
          exact h.sm (S1.emp (by rw [zo 7 (by decide) (by decide) (by decide) (by decide) (by decide) (by decide), b5 7 (by decide) (by decide)]; exact tkn_7 I n) z1) (h.2.2.1.fr (oo 9 (by decide) (by decide) (by decide) (by decide) (by decide) (by decide) (by decide) (by decide) (by decide)) (zk 6 (by decide) (by decide) (by decide) (by decide) (by decide) (by decide) (by decide)) (zk 7 (by decide) (by decide) (by decide) (by decide) (by decide) (by decide) (by decide))) (h.2.2.2.1.fr (oo _ (by decide) (by decide) (by decide) (by decide) (by decide) (by decide) (by decide) (by decide) (by decide)) (oo _ (by decide) (by decide) (by decide) (by decide) (by decide) (by decide) (by decide) (by decide) (by decide))) (h.2.2.2.2.1.fr (by rw [oo 0 (by decide) (by decide) (by decide) (by decide) (by decide) (by decide) (by decide) (by decide) (by decide)]) (oo _ (by decide) (by decide) (by decide) (by decide) (by decide) (by decide) (by decide) (by decide) (by decide)) (zk _ (by decide) (by decide) (by decide) (by decide) (by decide) (by decide) (by decide)) (oo _ (by decide) (by decide) (by decide) (by decide) (by decide) (by decide) (by decide) (by decide) (by decide))) (h.2.2.2.2.2.1.fr (by rw [oo 0 (by decide) (by decide) (by decide) (by decide) (by decide) (by decide) (by decide) (by decide) (by decide)]) (oo _ (by decide) (by decide) (by decide) (by decide) (by decide) (by decide) (by decide) (by decide) (by decide)) (zk _ (by decide) (by decide) (by decide) (by decide) (by decide) (by decide) (by decide)) (oo _ (by decide) (by decide) (by decide) (by decide) (by decide) (by decide) (by decide) (by decide) (by decide))) ⟨c2, s7⟩ (h.2.2.2.2.2.2.2.2.1.fr (zk _ (by decide) (by decide) (by decide) (by decide) (by decide) (by decide) (by decide)) (zk _ (by decide) (by decide) (by decide) (by decide) (by decide) (by decide) (by decide))) (fun x a b _ _ _ _ => oo x (by omega) (by omega) (by omega) (by omega) (by omega) (by omega) (by omega) (by omega) (by omega)) (oo _ (by decide) (by decide) (by decide) (by decide) (by decide) (by decide) (by decide) (by decide) (by decide)) (fun u => (nu u).elim) (fun x a => oo x (by omega) (by omega) (by omega) (by omega) (by omega) (by omega) (by omega) (by omega) (by omega)) (fun k a => zk k (by omega) (by omega) (by omega) (by omega) (by omega) (by omega) (by omega)) (fun k _ => by rw [oo 194 (by decide) (by decide) (by decide) (by decide) (by decide) (by decide) (by decide) (by decide) (by decide)]) (oo _ (by decide) (by decide) (by decide) (by decide) (by decide) (by decide) (by decide) (by decide) (by decide)) (by omega) h30
      · rw [hc] at q2
        exact absurd q2 (nI_m1 (by omega))
  · apply no
    unfold rowO
    rw [if_pos (by rw [u.2.2.1.2.1]; exact Int32.le_refl _)]
end
