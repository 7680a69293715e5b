/-! A volume unmounted: the class's side. -/
def vl (U : NodV) (V : MemV) (e : Nat) : Int32 := U 1 (ix (if V 4 e = -1 then V 4 (ix (V 2 e)) else V 4 e))
def ofB (U : NodV) (V : MemV) (x : Int32) (e : Nat) : Bool := decide (¬ V 1 e = 0 ∧ vl U V e = x)
theorem ofB_t {U : NodV} {V : MemV} {x : Int32} {e : Nat} : ofB U V x e = true ↔ ¬ V 1 e = 0 ∧ vl U V e = x := by
  unfold ofB
  simp
theorem Inv.nod {U : NodV} {V : MemV} {n vol : Nat} (hN : NodI U n vol) (hM : MemI U V n vol) {e : Nat} (he : e < 64) (h1 : ¬ V 1 e = 0) (h4 : ¬ V 4 e = -1) : ∃ k, k < n ∧ V 4 e = nI k := by
  rcases hM.st e he with z | z | z
  · exact absurd z h1
  · obtain ⟨k, a, b, _⟩ := hM.nk hN ⟨he, z, h4⟩
    exact ⟨k, a, b⟩
  · obtain ⟨_, k, a, b, _⟩ := hM.go e he z
    exact ⟨k, a, b⟩
theorem Inv.absp {U : NodV} {V : MemV} {n vol : Nat} (hN : NodI U n vol) (hM : MemI U V n vol) {e : Nat} (he : e < 64) (h1 : ¬ V 1 e = 0) (h4 : V 4 e = -1) : ∃ p kp, p < 64 ∧ V 2 e = nI p ∧ V 1 p = 1 ∧ kp < n ∧ V 4 p = nI kp ∧ U 4 kp = 2 := by
  have n60 := hN.n60
  rcases hM.st e he with z | z | z
  · exact absurd z h1
  · have h2 : ¬ V 2 e = -1 := fun y => by
      obtain ⟨v, r, _, _, _, a, b, _⟩ := hM.rn hN he z y
      rw [h4] at b
      exact nI_m1 (show r < 2 ^ 31 by omega) b.symm
    obtain ⟨p, p1, p2, p3, p4, _⟩ := hM.ch e he z h2
    obtain ⟨kp, k1, k2, k3⟩ := hN.fo p4
    exact ⟨p, kp, p1, p2, p3, k1, k2, k3⟩
  · obtain ⟨_, k, a, b, _⟩ := hM.go e he z
    rw [h4] at b
    exact absurd b.symm (nI_m1 (by omega))
theorem volOf_k {U : NodV} {n vol k : Nat} (hN : NodI U n vol) (hk : k < n) : q_X2_volumeOf U (nI k) = U 1 k := by
  have n60 := hN.n60
  unfold q_X2_volumeOf
  rw [if_neg (nI_pos (show k < 2 ^ 31 by omega)), if_neg (show ¬ (60 : Int32) ≤ nI k from nI_ge (b := 60) (by omega) (by decide)), hN.ev, if_neg (nI_ge hk (by omega)), ix_nI (by omega)]
/-- of which volume an entry is: the same of a memory whose parents are there still -/
theorem isOf_q {U : NodV} {V Vk : MemV} {n vol : Nat} (hN : NodI U n vol) (hM : MemI U V n vol) {e : Nat} (he : e < 64) (h1 : Vk 1 e = V 1 e) (k4 : Vk 4 = V 4) (k2 : Vk 2 = V 2) (hp : V 4 e = -1 → ∀ p, p < 64 → V 2 e = nI p → Vk 1 p = V 1 p) (x : Int32) : q_X1_isOf U Vk (nI e) x = if ofB U V x e = true then 1 else 0 := by
  have n60 := hN.n60
  unfold q_X1_isOf
  rw [isE_k he, h1, ix64 he, k4, k2]
  by_cases z : V 1 e = 0
  · have : ¬ ofB U V x e = true := fun y => (ofB_t.mp y).1 z
    rw [if_pos z, if_pos rfl, if_neg this]
  · rw [if_neg z, if_neg i10]
    by_cases a : V 4 e = -1
    · obtain ⟨p, kp, p1, p2, p3, k1, kk, _⟩ := Inv.absp hN hM he z a
      have vq : vl U V e = U 1 kp := by
        unfold vl
        rw [if_pos a, p2, ix64 p1, kk, ix_nI (by omega)]
      have nq : q_X1_nodeOf Vk (V 2 e) = nI kp := by
        unfold q_X1_nodeOf
        rw [p2, isE_k p1, hp a p p1 p2, p3, if_neg i10, if_neg i10, ix64 p1, k4, kk]
      rw [if_pos a, nq, volOf_k hN k1]
      by_cases y : U 1 kp = x
      · rw [if_pos y, if_pos (ofB_t.mpr ⟨z, vq.trans y⟩)]
      · rw [if_neg y, if_neg (fun w => y (vq.symm.trans (ofB_t.mp w).2))]
    · obtain ⟨k, k1, kk⟩ := Inv.nod hN hM he z a
      have vq : vl U V e = U 1 k := by
        unfold vl
        rw [if_neg a, kk, ix_nI (by omega)]
      rw [if_neg a, kk, volOf_k hN k1]
      by_cases y : U 1 k = x
      · rw [if_pos y, if_pos (ofB_t.mpr ⟨z, vq.trans y⟩)]
      · rw [if_neg y, if_neg (fun w => y (vq.symm.trans (ofB_t.mp w).2))]
/-- a child is of its parent's volume -/
theorem vl_par {U : NodV} {V : MemV} {n vol : Nat} (hN : NodI U n vol) (hM : MemI U V n vol) {e p : Nat} (he : e < 64) (h1 : V 1 e = 1) (p64 : p < 64) (h2 : V 2 e = nI p) : vl U V e = vl U V p ∧ V 1 p = 1 := by
  have n60 := hN.n60
  obtain ⟨p', a1, a2, a3, a4, a5⟩ := hM.ch e he h1 (by rw [h2]; exact nI_m1 (by omega))
  have pp : p' = p := (nI_eq (by omega) (by omega)).mp (a2.symm.trans h2)
  subst pp
  obtain ⟨kp, k1, k2, k3⟩ := hN.fo a4
  have np : ¬ V 4 p' = -1 := by rw [k2]; exact nI_m1 (by omega)
  refine ⟨?_, a3⟩
  unfold vl
  rw [if_neg np]
  by_cases a : V 4 e = -1
  · rw [if_pos a, h2, ix64 p64]
  · rw [if_neg a]
    rcases hN.fd (V 4 p') (V 3 e) with ⟨z, _⟩ | ⟨k, j1, j2, j3, j4, _⟩
    · rw [z] at a5
      exact absurd a5 a
    · rw [j2] at a5
      rw [k2] at j4
      obtain ⟨q, b1, b2, b3, b4⟩ := hN.par k j1 j3 (by rw [j4]; exact nI_m1 (by omega))
      have : q = kp := (nI_eq (by omega) (by omega)).mp (b2.symm.trans j4)
      subst this
      rw [a5, k2, ix_nI (by omega), ix_nI (by omega), b4]
/-- of V the entries S are gone, and only below entries of the volume something is held otherwise -/
def Dp (U : NodV) (V : MemV) (x : Int32) (S : Nat → Prop) (Vk : MemV) : Prop := (∀ r : Fin 12, r ≠ 1 → r ≠ 5 → Vk r = V r) ∧ (∀ e, e < 64 → (S e → Vk 1 e = 0) ∧ (¬ S e → Vk 1 e = V 1 e)) ∧ ∀ f, f < 64 → ¬ ofB U V x f = true → Vk 5 f = V 5 f
theorem Dp.drop {U : NodV} {V Vk : MemV} {x : Int32} {S S' : Nat → Prop} {n vol : Nat} (hN : NodI U n vol) (hM : MemI U V n vol) (d : Dp U V x S Vk) {e : Nat} (he : e < 64) (ho : ofB U V x e = true) (g1 : V 1 e = 1) (hs : ∀ f, S' f ↔ S f ∨ f = e) : Dp U V x S' (gV_X1_drop Vk (nI e)) := by
  obtain ⟨d1, d2, d3⟩ := d
  have kk := dr_k Vk (nI e)
  have v2 : Vk 2 = V 2 := d1 2 (by decide) (by decide)
  refine ⟨fun r a b => by rw [kk r a b, d1 r a b], fun f hf => ?_, fun f hf q => ?_⟩
  · rw [dr_1 Vk he]
    refine ⟨fun s => ?_, fun s => ?_⟩
    · by_cases z : f = e
      · rw [if_pos z]
      · rw [if_neg z]
        exact (d2 f hf).1 (((hs f).mp s).resolve_right z)
    · rw [if_neg (fun z => s ((hs f).mpr (Or.inr z)))]
      exact (d2 f hf).2 (fun z => s ((hs f).mpr (Or.inl z)))
  · by_cases r : V 2 e = -1
    · rw [dr_5r Vk he (by rw [v2]; exact r)]
      exact d3 f hf q
    · obtain ⟨p, p1, p2, p3, _⟩ := hM.ch e he g1 r
      have vp := (vl_par hN hM he g1 p1 p2).1
      have fp : f ≠ p := fun z => q (by
        rw [z]
        exact ofB_t.mpr ⟨by rw [p3]; exact i10, vp.symm.trans (ofB_t.mp ho).2⟩)
      rw [dr_5 Vk he (by rw [v2]; exact p2) p1, if_neg fp]
      exact d3 f hf q
theorem unm18 {U : NodV} {V : MemV} {x x2 : Int32} {n vol : Nat} (hN : NodI U n vol) (hM : MemI U V n vol) (g : ∀ e, e < 64 → ofB U V x e = true → V 1 e = 1) : ∀ (nn k : Nat) (Vk : MemV), k + nn = 64 → Dp U V x (fun e => e < k ∧ V 4 e = -1 ∧ ofB U V x e = true) Vk → ∃ Vf, lp_X1_dropVolume_18 U x x2 nn k Vk = lp_X1_dropVolume_54 U x x2 64 0 Vf ∧ Dp U V x (fun e => e < 64 ∧ V 4 e = -1 ∧ ofB U V x e = true) Vf := by
  intro nn
  induction nn with
  | zero =>
    intro k Vk hk d
    have : k = 64 := by omega
    subst this
    exact ⟨Vk, rfl, d⟩
  | succ nn ih =>
    intro k Vk hk d
    have k64 : k < 64 := by omega
    have st : lp_X1_dropVolume_18 U x x2 (nn + 1) k Vk = (if (q_X1_isAbsence Vk (nI k)) = 0 then lp_X1_dropVolume_18 U x x2 nn (k + 1) Vk else (if (q_X1_isOf U Vk (nI k) x) = 0 then lp_X1_dropVolume_18 U x x2 nn (k + 1) Vk else lp_X1_dropVolume_18 U x x2 nn (k + 1) (gV_X1_drop Vk (nI k)))) := rfl
    have v1 : Vk 1 k = V 1 k := (d.2.1 k k64).2 (fun z => by omega)
    have v4 := d.1 4 (by decide) (by decide)
    have v2 := d.1 2 (by decide) (by decide)
    have skip : ¬ (V 4 k = -1 ∧ ofB U V x k = true) → Dp U V x (fun e => e < k + 1 ∧ V 4 e = -1 ∧ ofB U V x e = true) Vk := fun q => by
      refine ⟨d.1, fun e he => ⟨fun s => ?_, fun s => ?_⟩, d.2.2⟩
      · by_cases z : e = k
        · subst z
          exact absurd s.2 q
        · exact (d.2.1 e he).1 ⟨by omega, s.2⟩
      · exact (d.2.1 e he).2 (fun w => s ⟨by omega, w.2⟩)
    have ab : q_X1_isAbsence Vk (nI k) = if V 1 k = 0 then 0 else if V 4 k = -1 then 1 else 0 := by
      unfold q_X1_isAbsence
      rw [isE_k k64, v1, ix64 k64, v4]
      by_cases z : V 1 k = 0
      · rw [if_pos z, if_pos rfl, if_pos z]
      · rw [if_neg z, if_neg i10, if_neg z]
    rw [st, ab]
    by_cases z : V 1 k = 0
    · rw [if_pos z, if_pos rfl]
      exact ih (k + 1) Vk (by omega) (skip (fun w => (ofB_t.mp w.2).1 z))
    · rw [if_neg z]
      by_cases a : V 4 k = -1
      · rw [if_pos a, if_neg i10, isOf_q hN hM k64 v1 v4 v2 (fun _ p p1 p2 => (d.2.1 p p1).2 (fun w => by
          obtain ⟨p', kp, b1, b2, _, b4, b5, _⟩ := Inv.absp hN hM k64 z a
          have : p' = p := (nI_eq (by omega) (by omega)).mp (b2.symm.trans p2)
          subst this
          rw [b5] at w
          have := hN.n60
          exact nI_m1 (show kp < 2 ^ 31 by omega) w.2.1)) x]
        by_cases o : ofB U V x k = true
        · rw [if_pos o, if_neg i10]
          exact ih (k + 1) _ (by omega) (d.drop hN hM k64 o (g k k64 o) (fun f => ⟨fun s => by
            by_cases y : f = k
            · exact Or.inr y
            · exact Or.inl ⟨by omega, s.2⟩, fun s => by
            rcases s with s | s
            · exact ⟨by omega, s.2⟩
            · subst s
              exact ⟨by omega, a, o⟩⟩))
        · rw [if_neg o, if_pos rfl]
          exact ih (k + 1) Vk (by omega) (skip (fun w => o w.2))
      · rw [if_neg a, if_pos rfl]
        exact ih (k + 1) Vk (by omega) (skip (fun w => a w.1))
theorem unm54 {U : NodV} {V : MemV} {x x2 : Int32} {n vol : Nat} (hN : NodI U n vol) (hM : MemI U V n vol) (g : ∀ e, e < 64 → ofB U V x e = true → V 1 e = 1) : ∀ (nn k : Nat) (Vk : MemV), k + nn = 64 → Dp U V x (fun e => ofB U V x e = true ∧ (V 4 e = -1 ∨ e < k)) Vk → ∃ Vf, lp_X1_dropVolume_54 U x x2 nn k Vk = lp_X1_dropVolume_54 U x x2 0 64 Vf ∧ Dp U V x (fun e => ofB U V x e = true) Vf := by
  intro nn
  induction nn with
  | zero =>
    intro k Vk hk d
    have : k = 64 := by omega
    subst this
    refine ⟨Vk, rfl, d.1, fun e he => ⟨fun s => (d.2.1 e he).1 ⟨s, Or.inr he⟩, fun s => (d.2.1 e he).2 (fun w => s w.1)⟩, d.2.2⟩
  | succ nn ih =>
    intro k Vk hk d
    have k64 : k < 64 := by omega
    have st : lp_X1_dropVolume_54 U x x2 (nn + 1) k Vk = (if (q_X1_isOf U Vk (nI k) x) = 0 then lp_X1_dropVolume_54 U x x2 nn (k + 1) Vk else lp_X1_dropVolume_54 U x x2 nn (k + 1) (gV_X1_drop Vk (nI k))) := rfl
    have v4 := d.1 4 (by decide) (by decide)
    have v2 := d.1 2 (by decide) (by decide)
    have skip : (ofB U V x k = true → V 4 k = -1) → Dp U V x (fun e => ofB U V x e = true ∧ (V 4 e = -1 ∨ e < k + 1)) Vk := fun q => by
      refine ⟨d.1, fun e he => ⟨fun s => ?_, fun s => ?_⟩, d.2.2⟩
      · by_cases z : e = k
        · subst z
          exact (d.2.1 e he).1 ⟨s.1, Or.inl (q s.1)⟩
        · exact (d.2.1 e he).1 ⟨s.1, s.2.imp id (fun y => by omega)⟩
      · exact (d.2.1 e he).2 (fun w => s ⟨w.1, w.2.imp id (fun y => by omega)⟩)
    rw [st]
    by_cases dead : ofB U V x k = true ∧ V 4 k = -1
    · have v0 : Vk 1 k = 0 := (d.2.1 k k64).1 ⟨dead.1, Or.inl dead.2⟩
      have q0 : q_X1_isOf U Vk (nI k) x = 0 := by
        unfold q_X1_isOf
        rw [isE_k k64, if_pos v0, if_pos rfl]
      rw [q0, if_pos rfl]
      exact ih (k + 1) Vk (by omega) (skip (fun _ => dead.2))
    · have v1 : Vk 1 k = V 1 k := (d.2.1 k k64).2 (fun w => dead ⟨w.1, w.2.resolve_right (by omega)⟩)
      by_cases z0 : V 1 k = 0
      · have q0 : q_X1_isOf U Vk (nI k) x = 0 := by
          unfold q_X1_isOf
          rw [isE_k k64, v1, if_pos z0, if_pos rfl]
        rw [q0, if_pos rfl]
        exact ih (k + 1) Vk (by omega) (skip (fun w => absurd z0 (ofB_t.mp w).1))
      · rw [isOf_q hN hM k64 v1 v4 v2 (fun a p p1 p2 => by
          have nk : ¬ ofB U V x k = true := fun w => dead ⟨w, a⟩
          obtain ⟨p', kp, b1, b2, b3, b4, b5, _⟩ := Inv.absp hN hM k64 z0 a
          have : p' = p := (nI_eq (by omega) (by omega)).mp (b2.symm.trans p2)
          subst this
          refine (d.2.1 p' p1).2 (fun w => nk (ofB_t.mpr ⟨z0, ?_⟩))
          have k1 : V 1 k = 1 := by
            rcases hM.st k k64 with y | y | y
            · exact absurd y z0
            · exact y
            · obtain ⟨_, kk, c1, c2, _⟩ := hM.go k k64 y
              rw [a] at c2
              have := hN.n60
              exact absurd c2.symm (nI_m1 (by omega))
          rw [(vl_par hN hM k64 k1 p1 b2).1]
          exact (ofB_t.mp w.1).2) x]
        by_cases o : ofB U V x k = true
        · rw [if_pos o, if_neg i10]
          exact ih (k + 1) _ (by omega) (d.drop hN hM k64 o (g k k64 o) (fun f => ⟨fun s => by
            by_cases y : f = k
            · exact Or.inr y
            · exact Or.inl ⟨s.1, s.2.imp id (fun w => by omega)⟩, fun s => by
            rcases s with s | s
            · exact ⟨s.1, s.2.imp id (fun w => by omega)⟩
            · subst s
              exact ⟨o, Or.inr (by omega)⟩⟩))
        · rw [if_neg o, if_pos rfl]
          exact ih (k + 1) Vk (by omega) (skip (fun w => absurd w o))
/-- the memory behind it, row by row -/
def UnV (U : NodV) (V : MemV) (v o : Nat) (V' : MemV) : Prop := (∀ r : Fin 12, r ≠ 1 → r ≠ 5 → r ≠ 6 → r ≠ 9 → r ≠ 10 → V' r = V r) ∧ (∀ e, e < 64 → (ofB U V (nI v) e = true → V' 1 e = 0) ∧ (¬ ofB U V (nI v) e = true → V' 1 e = V 1 e)) ∧ (∀ f, f < 64 → ¬ ofB U V (nI v) f = true → V' 5 f = if f = o then V 5 o - 1 else V 5 f) ∧ (∀ j, V' 6 j = if j = o then V 6 o + 1 else V 6 j) ∧ (∀ j, V' 9 j = if j = v then -1 else V 9 j) ∧ (∀ j, V' 10 j = if j = v then -1 else V 10 j)
theorem unm_rows {U : NodV} {V : MemV} {n vol v o : Nat} (hN : NodI U n vol) (hM : MemI U V n vol) (v3 : v < 3) (g : ∀ e, e < 64 → ofB U V (nI v) e = true → V 1 e = 1) (ho : V 10 v = nI o) (o64 : o < 64) (o1 : V 1 o = 1) (no : ¬ ofB U V (nI v) o = true) : UnV U V v o (gV_X1_dropVolume U V (nI v)) ∧ q_X1_dropVolume U V (nI v) = q_X1_howMany V - q_X1_howMany (gV_X1_dropVolume U V (nI v)) := by
  obtain ⟨Va, a1, a2⟩ := unm18 (x2 := q_X1_howMany V) hN hM g 64 0 V rfl ⟨fun _ _ _ => rfl, fun e _ => ⟨fun s => by omega, fun _ => rfl⟩, fun _ _ _ => rfl⟩
  obtain ⟨Vb, b1, b2, b3, b4⟩ := unm54 (x2 := q_X1_howMany V) hN hM g 64 0 Va rfl ⟨a2.1, fun e he => ⟨fun s => (a2.2.1 e he).1 ⟨he, s.2.resolve_right (by omega), s.1⟩, fun s => (a2.2.1 e he).2 (fun w => s ⟨w.2.2, Or.inl w.2.1⟩)⟩, a2.2.2⟩
  have oE : o_X1_dropVolume U V (nI v) = lp_X1_dropVolume_54 U (nI v) (q_X1_howMany V) 0 64 Vb := by
    unfold o_X1_dropVolume
    rw [if_neg (nI_pos (show v < 2 ^ 31 by omega)), if_pos (show nI v < 3 from nI_lt (b := 3) v3 (by decide)), a1, b1]
  have ixv : ix (nI v) = v := ix_nI (by omega)
  have ix10 : Vb 10 v = nI o := by rw [b2 10 (by decide) (by decide)]; exact ho
  have bo : Vb 1 o = 1 := by rw [(b3 o o64).2 no]; exact o1
  generalize hC : uv (uv Vb 9 v (-1)) 10 v (-1) = Vc
  have c1 : ∀ r : Fin 12, r ≠ 9 → r ≠ 10 → Vc r = Vb r := fun r p q => by rw [← hC, uv_k _ _ _ _ _ q, uv_k _ _ _ _ _ p]
  have c9 : ∀ j, Vc 9 j = if j = v then -1 else Vb 9 j := fun j => by rw [← hC, uv_k _ _ _ _ _ (by decide), uv_at]
  have c10 : ∀ j, Vc 10 j = if j = v then -1 else Vb 10 j := fun j => by rw [← hC, uv_at, uv_k _ _ _ _ _ (by decide)]
  have isE : q_X1_isEntry Vc (nI o) = 1 := Inv.isE o64 (by rw [c1 1 (by decide) (by decide), bo]; exact i10)
  have lE : lp_X1_dropVolume_54 U (nI v) (q_X1_howMany V) 0 64 Vb = (q_X1_howMany V - q_X1_howMany (gV_X1_release (uv Vc 6 o (Vb 6 o + 1)) (nI o)), gV_X1_release (uv Vc 6 o (Vb 6 o + 1)) (nI o)) := by
    show (if (q_X1_isEntry (uv (uv Vb 9 (ix (nI v)) ((-1))) 10 (ix (nI v)) ((-1))) (Vb 10 (ix (nI v)))) = 0 then (q_X1_howMany V - (q_X1_howMany (uv (uv Vb 9 (ix (nI v)) ((-1))) 10 (ix (nI v)) ((-1)))), uv (uv Vb 9 (ix (nI v)) ((-1))) 10 (ix (nI v)) ((-1))) else (q_X1_howMany V - (q_X1_howMany (gV_X1_release (uv (uv (uv Vb 9 (ix (nI v)) ((-1))) 10 (ix (nI v)) ((-1))) 6 (ix (Vb 10 (ix (nI v)))) ((Vb 6 (ix (Vb 10 (ix (nI v))))) + 1)) (Vb 10 (ix (nI v))))), gV_X1_release (uv (uv (uv Vb 9 (ix (nI v)) ((-1))) 10 (ix (nI v)) ((-1))) 6 (ix (Vb 10 (ix (nI v)))) ((Vb 6 (ix (Vb 10 (ix (nI v))))) + 1)) (Vb 10 (ix (nI v))))) = _
    rw [ixv, ix10, hC, isE, if_neg i10, ix64 o64]
  have qE : q_X1_dropVolume U V (nI v) = q_X1_howMany V - q_X1_howMany (gV_X1_dropVolume U V (nI v)) := by
    unfold q_X1_dropVolume gV_X1_dropVolume
    rw [oE, lE]
  refine ⟨?_, qE⟩
  have gE : gV_X1_dropVolume U V (nI v) = gV_X1_release (uv Vc 6 o (Vb 6 o + 1)) (nI o) := by
    unfold gV_X1_dropVolume
    rw [oE, lE]
  rw [gE]
  have u6 : ∀ r : Fin 12, r ≠ 6 → uv Vc 6 o (Vb 6 o + 1) r = Vc r := fun r q => uv_k _ _ _ _ _ q
  have rk := re_k (uv Vc 6 o (Vb 6 o + 1)) (nI o)
  refine ⟨fun r p1 p5 p6 p9 p10 => by rw [rk r p1 p5, u6 r p6, c1 r p9 p10, b2 r p1 p5], fun e he => ?_, fun f hf q => ?_, fun j => ?_, fun j => ?_, fun j => ?_⟩
  · have e1 : gV_X1_release (uv Vc 6 o (Vb 6 o + 1)) (nI o) 1 e = Vb 1 e := by
      rw [re_1 _ o64, u6 1 (by decide), c1 1 (by decide) (by decide), bo, if_neg (fun w => i12 w.2.1)]
    rw [e1]
    exact b3 e he
  · rw [re_5 _ o64, u6 5 (by decide), c1 5 (by decide) (by decide), b4 o o64 no, b4 f hf q]
  · rw [rk 6 (by decide) (by decide), uv_at, c1 6 (by decide) (by decide), b2 6 (by decide) (by decide)]
  · rw [rk 9 (by decide) (by decide), u6 9 (by decide), c9, b2 9 (by decide) (by decide)]
  · rw [rk 10 (by decide) (by decide), u6 10 (by decide), c10, b2 10 (by decide) (by decide)]
