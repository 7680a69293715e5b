/-! What a trace begins with: mounts alone. -/
theorem ent_ix {V : MemV} {x : Int32} (h : ¬ q_X1_isEntry V x = 0) : ∃ e, e < 64 ∧ x = nI e ∧ ¬ V 1 e = 0 := by
  unfold q_X1_isEntry at h
  by_cases a : x < 0
  · rw [if_pos a] at h; exact absurd rfl h
  · rw [if_neg a] at h
    by_cases b : (64 : Int32) ≤ x
    · rw [if_pos b] at h; exact absurd rfl h
    · rw [if_neg b] at h
      have l64 : ix x < 64 := by
        rcases Nat.lt_or_ge (ix x) 64 with z | z
        · exact z
        · exact absurd (by rw [nI_ix a]; exact nI_le (a := 64) z (ix_lt x)) b
      refine ⟨ix x, l64, nI_ix a, fun z => ?_⟩
      rw [if_pos z] at h
      exact absurd rfl h
/-- whether j is met going up from x -/
def mkB (V : MemV) : Nat → Int32 → Nat → Bool
  | 0, _, _ => false
  | f + 1, x, j => if q_X1_isEntry V x = 0 then false else if x = nI j then true else mkB V f (V 2 (ix x)) j
theorem mkB_s (V : MemV) (f : Nat) (x : Int32) (j : Nat) : mkB V (f + 1) x j = if q_X1_isEntry V x = 0 then false else if x = nI j then true else mkB V f (V 2 (ix x)) j := rfl
theorem isE_cg {V V' : MemV} (h1 : V' 1 = V 1) (x : Int32) : q_X1_isEntry V' x = q_X1_isEntry V x := by
  unfold q_X1_isEntry
  rw [h1]
theorem mkB_cg {V V' : MemV} (h1 : V' 1 = V 1) (h2 : V' 2 = V 2) : ∀ (f : Nat) (x : Int32) (j : Nat), mkB V' f x j = mkB V f x j
  | 0, x, j => rfl
  | f + 1, x, j => by
    rw [mkB_s, mkB_s, isE_cg h1, h2, mkB_cg h1 h2 f]
theorem mark_q : ∀ (nn k : Nat) (x : Int32) (V : MemV), (∀ q : Fin 12, q ≠ 5 → lp_X1_markUpFrom_4 nn k x V q = V q) ∧ ∀ j, j < 64 → lp_X1_markUpFrom_4 nn k x V 5 j = if mkB V nn x j = true then 1 else V 5 j
  | 0, k, x, V => ⟨fun q _ => rfl, fun j _ => by
    show V 5 j = if (false : Bool) = true then 1 else V 5 j
    rw [if_neg (by decide)]⟩
  | nn + 1, k, x, V => by
    have st : lp_X1_markUpFrom_4 (nn + 1) k x V = if (q_X1_isEntry V x) = 0 then (V) else lp_X1_markUpFrom_4 nn (k + 1) (V 2 (ix x)) (uv V 5 (ix x) 1) := rfl
    rw [st]
    by_cases z : q_X1_isEntry V x = 0
    · rw [if_pos z]
      refine ⟨fun q _ => rfl, fun j _ => ?_⟩
      rw [mkB_s, if_pos z, if_neg (by decide)]
    · rw [if_neg z]
      obtain ⟨e, e64, xe, _⟩ := ent_ix z
      obtain ⟨g1, g2⟩ := mark_q nn (k + 1) (V 2 (ix x)) (uv V 5 (ix x) 1)
      refine ⟨fun q hq => by rw [g1 q hq, uv_k _ _ _ _ _ hq], fun j hj => ?_⟩
      rw [g2 j hj, mkB_cg (uv_k _ _ _ _ _ (by decide)) (uv_k _ _ _ _ _ (by decide)), mkB_s, if_neg z, uv_at, xe, ix_nI (by omega)]
      by_cases w : j = e
      · subst w
        rw [if_pos rfl, if_pos rfl, if_pos rfl]
        split <;> rfl
      · rw [if_neg w, if_neg (fun q => w ((nI_eq (by omega) (by omega)).mp q).symm)]
def mk2 (k : Nat) (V : MemV) : MemV := gV_X1_markUpFrom (gV_X1_markUpFrom V (V 9 k)) ((gV_X1_markUpFrom V (V 9 k)) 10 k)
theorem mk2_q (k : Nat) (V : MemV) : (∀ q : Fin 12, q ≠ 5 → mk2 k V q = V q) ∧ ∀ j, j < 64 → mk2 k V 5 j = if (mkB V 64 (V 9 k) j || mkB V 64 (V 10 k) j) = true then 1 else V 5 j := by
  obtain ⟨a1, a2⟩ := mark_q 64 0 (V 9 k) V
  obtain ⟨b1, b2⟩ := mark_q 64 0 (gV_X1_markUpFrom V (V 9 k) 10 k) (gV_X1_markUpFrom V (V 9 k))
  have e : gV_X1_markUpFrom V (V 9 k) = lp_X1_markUpFrom_4 64 0 (V 9 k) V := rfl
  have e2 : mk2 k V = lp_X1_markUpFrom_4 64 0 (gV_X1_markUpFrom V (V 9 k) 10 k) (gV_X1_markUpFrom V (V 9 k)) := rfl
  rw [← e] at a1 a2
  rw [← e2] at b1 b2
  refine ⟨fun q hq => by rw [b1 q hq, a1 q hq], fun j hj => ?_⟩
  rw [b2 j hj, mkB_cg (a1 1 (by decide)) (a1 2 (by decide)), a1 10 (by decide), a2 j hj]
  by_cases x : mkB V 64 (V 9 k) j = true
  · rw [if_pos x, x, Bool.true_or, if_pos rfl]
    split <;> rfl
  · have x' : mkB V 64 (V 9 k) j = false := by simpa using x
    rw [if_neg x, x', Bool.false_or]
/-- what is kept -/
def kB (V : MemV) (j : Nat) : Bool := (mkB V 64 (V 9 0) j || mkB V 64 (V 10 0) j) || ((mkB V 64 (V 9 1) j || mkB V 64 (V 10 1) j) || (mkB V 64 (V 9 2) j || mkB V 64 (V 10 2) j))
theorem mk_all (V : MemV) (v5 : ∀ j, j < 64 → V 5 j = 0) : (∀ q : Fin 12, q ≠ 5 → itr mk2 0 3 V q = V q) ∧ ∀ j, j < 64 → itr mk2 0 3 V 5 j = if kB V j = true then 1 else 0 := by
  have e : itr mk2 0 3 V = mk2 2 (mk2 1 (mk2 0 V)) := rfl
  obtain ⟨a1, a2⟩ := mk2_q 0 V
  obtain ⟨b1, b2⟩ := mk2_q 1 (mk2 0 V)
  obtain ⟨c1, c2⟩ := mk2_q 2 (mk2 1 (mk2 0 V))
  have k2 : ∀ q : Fin 12, q ≠ 5 → mk2 1 (mk2 0 V) q = V q := fun q hq => by rw [b1 q hq, a1 q hq]
  refine ⟨fun q hq => by rw [e, c1 q hq, k2 q hq], fun j hj => ?_⟩
  rw [e, c2 j hj, mkB_cg (k2 1 (by decide)) (k2 2 (by decide)), mkB_cg (k2 1 (by decide)) (k2 2 (by decide)), k2 9 (by decide), k2 10 (by decide), b2 j hj, mkB_cg (a1 1 (by decide)) (a1 2 (by decide)), mkB_cg (a1 1 (by decide)) (a1 2 (by decide)), a1 9 (by decide), a1 10 (by decide), a2 j hj, v5 j hj]
  unfold kB
  generalize (mkB V 64 (V 9 0) j || mkB V 64 (V 10 0) j) = x0
  generalize (mkB V 64 (V 9 1) j || mkB V 64 (V 10 1) j) = x1
  generalize (mkB V 64 (V 9 2) j || mkB V 64 (V 10 2) j) = x2
  cases x0 <;> cases x1 <;> cases x2 <;> rfl
theorem km_lp10 : ∀ (nn k : Nat) (V : MemV), lp_X1_keepMountsAlone_10 nn k V = lp_X1_keepMountsAlone_43 64 0 (itr mk2 k nn V)
  | 0, k, V => rfl
  | nn + 1, k, V => km_lp10 nn (k + 1) (mk2 k V)
def unk (k : Nat) (V : MemV) : MemV := if V 5 k = 0 then uv V 1 k 0 else V
theorem km_lp43 : ∀ (nn k : Nat) (V : MemV), lp_X1_keepMountsAlone_43 nn k V = lp_X1_keepMountsAlone_81 64 0 (cpv (itr unk k nn V) 5 64 (fun _ => 0))
  | 0, k, V => rfl
  | nn + 1, k, V => by
    show (if (V 5 k) = 0 then lp_X1_keepMountsAlone_43 nn (k + 1) (uv V 1 k 0) else lp_X1_keepMountsAlone_43 nn (k + 1) V) = lp_X1_keepMountsAlone_81 64 0 (cpv (itr unk (k + 1) nn (unk k V)) 5 64 (fun _ => 0))
    unfold unk
    by_cases z : V 5 k = 0
    · rw [if_pos z, if_pos z]
      exact km_lp43 nn (k + 1) _
    · rw [if_neg z, if_neg z]
      exact km_lp43 nn (k + 1) _
theorem unk_q : ∀ (nn k : Nat) (V : MemV), (∀ q : Fin 12, q ≠ 1 → itr unk k nn V q = V q) ∧ ∀ j, itr unk k nn V 1 j = if k ≤ j ∧ j < k + nn ∧ V 5 j = 0 then 0 else V 1 j
  | 0, k, V => ⟨fun q _ => rfl, fun j => by rw [if_neg (by omega)]; rfl⟩
  | nn + 1, k, V => by
    have e : itr unk k (nn + 1) V = itr unk (k + 1) nn (unk k V) := rfl
    obtain ⟨g1, g2⟩ := unk_q nn (k + 1) (unk k V)
    have u : ∀ q : Fin 12, q ≠ 1 → unk k V q = V q := fun q hq => by
      unfold unk
      split
      · exact uv_k _ _ _ _ _ hq
      · rfl
    have u1 : ∀ j, unk k V 1 j = if j = k ∧ V 5 k = 0 then 0 else V 1 j := fun j => by
      unfold unk
      by_cases z : V 5 k = 0
      · rw [if_pos z, uv_at]
        by_cases w : j = k
        · rw [if_pos w, if_pos ⟨w, z⟩]
        · rw [if_neg w, if_neg (fun q => w q.1)]
      · rw [if_neg z, if_neg (fun q => z q.2)]
    refine ⟨fun q hq => by rw [e, g1 q hq, u q hq], fun j => ?_⟩
    rw [e, g2, u 5 (by decide), u1]
    by_cases w : j = k
    · subst w
      by_cases z : V 5 j = 0
      · rw [if_neg (by omega), if_pos ⟨rfl, z⟩, if_pos ⟨by omega, by omega, z⟩]
      · rw [if_neg (by omega), if_neg (fun q => z q.2), if_neg (fun q => z q.2.2)]
    · by_cases c : k + 1 ≤ j ∧ j < k + 1 + nn ∧ V 5 j = 0
      · rw [if_pos c, if_pos ⟨by omega, by omega, c.2.2⟩]
      · rw [if_neg c, if_neg (fun q => w q.1), if_neg (fun q => c ⟨by omega, by omega, q.2.2⟩)]
theorem hold_any (V : MemV) (x : Int32) {e : Nat} (he : e < 64) : gV_X1_hold V x 5 e = if x = nI e then V 5 e + 1 else V 5 e := by
  unfold gV_X1_hold
  by_cases a : x < 0
  · rw [if_pos a, if_neg (fun z => by rw [z] at a; exact nI_pos (show e < 2 ^ 31 by omega) a)]
  · rw [if_neg a]
    by_cases b : x < 64
    · rw [if_neg (Int32.not_le.mpr b), uv_at]
      by_cases z : x = nI e
      · rw [if_pos z, z, ix_nI (by omega), if_pos rfl]
      · rw [if_neg z, if_neg (fun w => z (by rw [w]; exact nI_ix a))]
    · rw [if_pos (Int32.not_lt.mp b), if_neg (fun z => b (by rw [z]; exact nI_lt (b := 64) he (by decide)))]
def hpp (k : Nat) (V : MemV) : MemV := if V 1 k = 0 then V else gV_X1_hold V (V 2 k)
def hpv (k : Nat) (V : MemV) : MemV := gV_X1_hold V (V 10 k)
theorem km_lp114 : ∀ (nn k : Nat) (V : MemV), lp_X1_keepMountsAlone_114 nn k V = itr hpv k nn V
  | 0, k, V => rfl
  | nn + 1, k, V => km_lp114 nn (k + 1) (hpv k V)
theorem km_lp81 : ∀ (nn k : Nat) (V : MemV), lp_X1_keepMountsAlone_81 nn k V = itr hpv 0 3 (itr hpp k nn V)
  | 0, k, V => km_lp114 3 0 V
  | nn + 1, k, V => by
    show (if (V 1 k) = 0 then lp_X1_keepMountsAlone_81 nn (k + 1) V else lp_X1_keepMountsAlone_81 nn (k + 1) (gV_X1_hold V (V 2 k))) = itr hpv 0 3 (itr hpp (k + 1) nn (hpp k V))
    unfold hpp
    by_cases z : V 1 k = 0
    · rw [if_pos z, if_pos z]
      exact km_lp81 nn (k + 1) _
    · rw [if_neg z, if_neg z]
      exact km_lp81 nn (k + 1) _
theorem hpp_q : ∀ (nn k : Nat) (V : MemV), (∀ q : Fin 12, q ≠ 5 → itr hpp k nn V q = V q) ∧ ∀ e, e < 64 → itr hpp k nn V 5 e = V 5 e + nI (cnt (fun j => decide (¬ V 1 j = 0 ∧ V 2 j = nI e)) k nn)
  | 0, k, V => ⟨fun q _ => rfl, fun e _ => by
    show V 5 e = V 5 e + nI 0
    rw [nI_0, Int32.add_zero]⟩
  | nn + 1, k, V => by
    have e1 : itr hpp k (nn + 1) V = itr hpp (k + 1) nn (hpp k V) := rfl
    obtain ⟨g1, g2⟩ := hpp_q nn (k + 1) (hpp k V)
    have u : ∀ q : Fin 12, q ≠ 5 → hpp k V q = V q := fun q hq => by
      unfold hpp
      split
      · rfl
      · exact ho_k _ _ q hq
    refine ⟨fun q hq => by rw [e1, g1 q hq, u q hq], fun e he => ?_⟩
    have c : cnt (fun j => decide (¬ V 1 j = 0 ∧ V 2 j = nI e)) k (nn + 1) = (if decide (¬ V 1 k = 0 ∧ V 2 k = nI e) = true then 1 else 0) + cnt (fun j => decide (¬ V 1 j = 0 ∧ V 2 j = nI e)) (k + 1) nn := rfl
    rw [e1, g2 e he, u 1 (by decide), u 2 (by decide), c, ← nI_add]
    have h5 : hpp k V 5 e = V 5 e + nI (if decide (¬ V 1 k = 0 ∧ V 2 k = nI e) = true then 1 else 0) := by
      unfold hpp
      by_cases z : V 1 k = 0
      · rw [if_pos z, if_neg (by simp [z]), nI_0, Int32.add_zero]
      · rw [if_neg z, hold_any V _ he]
        by_cases w : V 2 k = nI e
        · rw [if_pos w, if_pos (by simp [z, w])]
          rfl
        · rw [if_neg w, if_neg (by simp [w]), nI_0, Int32.add_zero]
    rw [h5, Int32.add_assoc]
theorem hpv_q : ∀ (nn k : Nat) (V : MemV), (∀ q : Fin 12, q ≠ 5 → itr hpv k nn V q = V q) ∧ ∀ e, e < 64 → itr hpv k nn V 5 e = V 5 e + nI (cnt (fun j => decide (V 10 j = nI e)) k nn)
  | 0, k, V => ⟨fun q _ => rfl, fun e _ => by
    show V 5 e = V 5 e + nI 0
    rw [nI_0, Int32.add_zero]⟩
  | nn + 1, k, V => by
    have e1 : itr hpv k (nn + 1) V = itr hpv (k + 1) nn (hpv k V) := rfl
    obtain ⟨g1, g2⟩ := hpv_q nn (k + 1) (hpv k V)
    have u : ∀ q : Fin 12, q ≠ 5 → hpv k V q = V q := fun q hq => ho_k _ _ q hq
    refine ⟨fun q hq => by rw [e1, g1 q hq, u q hq], fun e he => ?_⟩
    have c : cnt (fun j => decide (V 10 j = nI e)) k (nn + 1) = (if decide (V 10 k = nI e) = true then 1 else 0) + cnt (fun j => decide (V 10 j = nI e)) (k + 1) nn := rfl
    rw [e1, g2 e he, u 10 (by decide), c, ← nI_add]
    have h5 : hpv k V 5 e = V 5 e + nI (if decide (V 10 k = nI e) = true then 1 else 0) := by
      unfold hpv
      rw [hold_any V _ he]
      by_cases w : V 10 k = nI e
      · rw [if_pos w, if_pos (by simp [w])]
        rfl
      · rw [if_neg w, if_neg (by simp [w]), nI_0, Int32.add_zero]
    rw [h5, Int32.add_assoc]
theorem cpv_k {V : MemV} {n : Nat} {f : Nat → Int32} {k q : Fin 12} (h : q ≠ k) : cpv V k n f q = V q := by
  funext j
  unfold cpv
  rw [if_neg (fun z => h z.1)]
/-- the class's bare memory -/
theorem bare_q (V : MemV) : (∀ q : Fin 12, q ≠ 1 → q ≠ 5 → gV_X1_keepMountsAlone V q = V q) ∧ (∀ j, j < 64 → gV_X1_keepMountsAlone V 1 j = if kB V j = true then V 1 j else 0) ∧ ∀ e, e < 64 → gV_X1_keepMountsAlone V 5 e = nI (hcC (gV_X1_keepMountsAlone V) e + hcV (gV_X1_keepMountsAlone V) e) := by
  have c5 : ∀ j, j < 64 → cpv V 5 64 (fun _ => 0) 5 j = 0 := fun j hj => by
    unfold cpv
    rw [if_pos ⟨rfl, hj⟩]
  have ck : ∀ q : Fin 12, q ≠ 5 → cpv V 5 64 (fun _ => 0) q = V q := fun q hq => cpv_k hq
  obtain ⟨a1, a2⟩ := mk_all (cpv V 5 64 (fun _ => 0)) c5
  have kk : ∀ j, kB (cpv V 5 64 (fun _ => 0)) j = kB V j := fun j => by
    unfold kB
    rw [ck 9 (by decide), ck 10 (by decide)]
    rw [mkB_cg (ck 1 (by decide)) (ck 2 (by decide)), mkB_cg (ck 1 (by decide)) (ck 2 (by decide)), mkB_cg (ck 1 (by decide)) (ck 2 (by decide)), mkB_cg (ck 1 (by decide)) (ck 2 (by decide)), mkB_cg (ck 1 (by decide)) (ck 2 (by decide)), mkB_cg (ck 1 (by decide)) (ck 2 (by decide))]
  have e : gV_X1_keepMountsAlone V = itr hpv 0 3 (itr hpp 0 64 (cpv (itr unk 0 64 (itr mk2 0 3 (cpv V 5 64 (fun _ => 0)))) 5 64 (fun _ => 0))) := by
    show lp_X1_keepMountsAlone_10 3 0 (cpv V 5 64 (fun _ => 0)) = _
    rw [km_lp10, km_lp43, km_lp81]
  generalize itr mk2 0 3 (cpv V 5 64 (fun _ => 0)) = A at a1 a2 e
  obtain ⟨b1, b2⟩ := unk_q 64 0 A
  generalize itr unk 0 64 A = B at b1 b2 e
  have d5 : ∀ j, j < 64 → cpv B 5 64 (fun _ => 0) 5 j = 0 := fun j hj => by
    unfold cpv
    rw [if_pos ⟨rfl, hj⟩]
  have dk : ∀ q : Fin 12, q ≠ 5 → cpv B 5 64 (fun _ => 0) q = B q := fun q hq => cpv_k hq
  generalize cpv B 5 64 (fun _ => 0) = C at d5 dk e
  obtain ⟨f1, f2⟩ := hpp_q 64 0 C
  generalize itr hpp 0 64 C = E at f1 f2 e
  obtain ⟨g1, g2⟩ := hpv_q 3 0 E
  rw [← e] at g1 g2
  have row : ∀ q : Fin 12, q ≠ 1 → q ≠ 5 → gV_X1_keepMountsAlone V q = V q := fun q q1 q5 => by rw [g1 q q5, f1 q q5, dk q q5, b1 q q1, a1 q q5, ck q q5]
  have r1 : ∀ j, j < 64 → gV_X1_keepMountsAlone V 1 j = if kB V j = true then V 1 j else 0 := fun j hj => by
    rw [g1 1 (by decide), f1 1 (by decide), dk 1 (by decide), b2, a2 j hj, kk, a1 1 (by decide), ck 1 (by decide)]
    by_cases z : kB V j = true
    · rw [if_pos z, if_pos z, if_neg (fun q => i10 q.2.2)]
    · rw [if_neg z, if_neg z, if_pos ⟨by omega, by omega, rfl⟩]
  refine ⟨row, r1, fun e' he => ?_⟩
  have x1 : gV_X1_keepMountsAlone V 1 = C 1 := by rw [g1 1 (by decide), f1 1 (by decide)]
  have x2 : gV_X1_keepMountsAlone V 2 = C 2 := by rw [g1 2 (by decide), f1 2 (by decide)]
  have x10 : gV_X1_keepMountsAlone V 10 = E 10 := g1 10 (by decide)
  rw [g2 e' he, f2 e' he, d5 e' he, ← nI_add]
  unfold hcC hcV
  rw [x1, x2, x10]
  rw [Int32.zero_add]
