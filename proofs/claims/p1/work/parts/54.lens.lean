/-! The closed forms over a heap as it lies (windows looked at by vw). Written by gen/run6.py. -/
theorem pt_k1 {N M : Nat} {I : MI} {a b : Nat} {V : Fin N → Nat → Int32} (h : a + N ≤ b ∨ b + M ≤ a) : pt (pt I a V) b (vw M I b) = pt I a V := by
  have := pt_vw (N := M) (pt I a V) b
  rwa [vw_out I V (Or.symm h)] at this
theorem pt_k2 {N N2 M : Nat} {I : MI} {a a2 b : Nat} {V : Fin N → Nat → Int32} {V2 : Fin N2 → Nat → Int32} (h : a + N ≤ b ∨ b + M ≤ a) (h2 : a2 + N2 ≤ b ∨ b + M ≤ a2) : pt (pt (pt I a V) a2 V2) b (vw M I b) = pt (pt I a V) a2 V2 := by
  have := pt_vw (N := M) (pt (pt I a V) a2 V2) b
  rwa [vw_out _ V2 (Or.symm h2), vw_out I V (Or.symm h)] at this
theorem t_X2_hasVolume {J : MJ} {n : Nat} (hN : NodL J n) (I : MI) (x1 : Int32) : M_X2_hasVolume [mR (some n), mI x1] (I, J) = some (some (mI (q_X2_hasVolume (vw 6 I n) x1)), (I, J)) := by
  have h := s_X2_hasVolume hN I (vw 6 I n) x1
  simp only [pt_vw] at h
  exact h
theorem t_X2_rootOf {J : MJ} {n : Nat} (hN : NodL J n) (I : MI) (x1 : Int32) : M_X2_rootOf [mR (some n), mI x1] (I, J) = some (some (mI (q_X2_rootOf (vw 6 I n) x1)), (I, J)) := by
  have h := s_X2_rootOf hN I (vw 6 I n) x1
  simp only [pt_vw] at h
  exact h
theorem t_X2_exists {J : MJ} {n : Nat} (hN : NodL J n) (I : MI) (x1 : Int32) : M_X2_exists [mR (some n), mI x1] (I, J) = some (some (mI (q_X2_exists (vw 6 I n) x1)), (I, J)) := by
  have h := s_X2_exists hN I (vw 6 I n) x1
  simp only [pt_vw] at h
  exact h
theorem t_X2_isFolder {J : MJ} {n : Nat} (hN : NodL J n) (I : MI) (x1 : Int32) : M_X2_isFolder [mR (some n), mI x1] (I, J) = some (some (mI (q_X2_isFolder (vw 6 I n) x1)), (I, J)) := by
  have h := s_X2_isFolder hN I (vw 6 I n) x1
  simp only [pt_vw] at h
  exact h
theorem t_X2_put {J : MJ} {n : Nat} (hN : NodL J n) (I : MI) (x1 : Int32) (x2 : Int32) (x3 : Int32) (x4 : Int32) : M_X2_put [mR (some n), mI x1, mI x2, mI x3, mI x4] (I, J) = some (some (mI (q_X2_put (vw 6 I n) x1 x2 x3 x4)), (pt I n (gU_X2_put (vw 6 I n) x1 x2 x3 x4), J)) := by
  have h := s_X2_put hN I (vw 6 I n) x1 x2 x3 x4
  simp only [pt_vw] at h
  exact h
theorem t_X2_addIn {J : MJ} {n : Nat} (hN : NodL J n) (I : MI) (x1 : Int32) (x2 : Int32) (x3 : Int32) : M_X2_addIn [mR (some n), mI x1, mI x2, mI x3] (I, J) = some (some (mI (q_X2_addIn (vw 6 I n) x1 x2 x3)), (pt I n (gU_X2_addIn (vw 6 I n) x1 x2 x3), J)) := by
  have h := s_X2_addIn hN I (vw 6 I n) x1 x2 x3
  simp only [pt_vw] at h
  exact h
theorem t_X2_volumeOf {J : MJ} {n : Nat} (hN : NodL J n) (I : MI) (x1 : Int32) : M_X2_volumeOf [mR (some n), mI x1] (I, J) = some (some (mI (q_X2_volumeOf (vw 6 I n) x1)), (I, J)) := by
  have h := s_X2_volumeOf hN I (vw 6 I n) x1
  simp only [pt_vw] at h
  exact h
theorem t_X2_clear {J : MJ} {n : Nat} (hN : NodL J n) (I : MI) : M_X2_clear [mR (some n)] (I, J) = some (none, (pt I n (gU_X2_clear (vw 6 I n)), J)) := by
  have h := s_X2_clear hN I (vw 6 I n)
  simp only [pt_vw] at h
  exact h
theorem t_X2_isFull {J : MJ} {n : Nat} (hN : NodL J n) (I : MI) : M_X2_isFull [mR (some n)] (I, J) = some (some (mI (q_X2_isFull (vw 6 I n))), (I, J)) := by
  have h := s_X2_isFull hN I (vw 6 I n)
  simp only [pt_vw] at h
  exact h
theorem t_X2_parentOf {J : MJ} {n : Nat} (hN : NodL J n) (I : MI) (x1 : Int32) : M_X2_parentOf [mR (some n), mI x1] (I, J) = some (some (mI (q_X2_parentOf (vw 6 I n) x1)), (I, J)) := by
  have h := s_X2_parentOf hN I (vw 6 I n) x1
  simp only [pt_vw] at h
  exact h
theorem t_X2_nameOf {J : MJ} {n : Nat} (hN : NodL J n) (I : MI) (x1 : Int32) : M_X2_nameOf [mR (some n), mI x1] (I, J) = some (some (mI (q_X2_nameOf (vw 6 I n) x1)), (I, J)) := by
  have h := s_X2_nameOf hN I (vw 6 I n) x1
  simp only [pt_vw] at h
  exact h
theorem t_X2_becomeFolder {J : MJ} {n : Nat} (hN : NodL J n) (I : MI) (x1 : Int32) : M_X2_becomeFolder [mR (some n), mI x1] (I, J) = some (none, (pt I n (gU_X2_becomeFolder (vw 6 I n) x1), J)) := by
  have h := s_X2_becomeFolder hN I (vw 6 I n) x1
  simp only [pt_vw] at h
  exact h
theorem t_X2_take {J : MJ} {n : Nat} (hN : NodL J n) (I : MI) (x1 : Int32) : M_X2_take [mR (some n), mI x1] (I, J) = some (none, (pt I n (gU_X2_take (vw 6 I n) x1), J)) := by
  have h := s_X2_take hN I (vw 6 I n) x1
  simp only [pt_vw] at h
  exact h
theorem t_X2_move {J : MJ} {n : Nat} (hN : NodL J n) (I : MI) (x1 : Int32) (x2 : Int32) (x3 : Int32) : M_X2_move [mR (some n), mI x1, mI x2, mI x3] (I, J) = some (none, (pt I n (gU_X2_move (vw 6 I n) x1 x2 x3), J)) := by
  have h := s_X2_move hN I (vw 6 I n) x1 x2 x3
  simp only [pt_vw] at h
  exact h
theorem t_X5_at {J : MJ} {t : Nat} (hT : TapL J t) (I : MI) (x1 : Int32) : M_X5_at [mR (some t), mI x1] (I, J) = some (some (mI (q_X5_at (vw 2 I t) x1)), (I, J)) := by
  have h := s_X5_at hT I (vw 2 I t) x1
  simp only [pt_vw] at h
  exact h
theorem t_X5_hasSpace {J : MJ} {t : Nat} (hT : TapL J t) (I : MI) (x1 : Int32) : M_X5_hasSpace [mR (some t), mI x1] (I, J) = some (some (mI (q_X5_hasSpace (vw 2 I t) x1)), (I, J)) := by
  have h := s_X5_hasSpace hT I (vw 2 I t) x1
  simp only [pt_vw] at h
  exact h
theorem t_X5_cut {J : MJ} {t : Nat} (hT : TapL J t) (I : MI) (x1 : Int32) : M_X5_cut [mR (some t), mI x1] (I, J) = some (some (mI (q_X5_cut (vw 2 I t) x1)), (pt I t (gQ_X5_cut (vw 2 I t) x1), J)) := by
  have h := s_X5_cut hT I (vw 2 I t) x1
  simp only [pt_vw] at h
  exact h
theorem t_X5_clear {J : MJ} {t : Nat} (hT : TapL J t) (I : MI) : M_X5_clear [mR (some t)] (I, J) = some (none, (pt I t (gQ_X5_clear (vw 2 I t)), J)) := by
  have h := s_X5_clear hT I (vw 2 I t)
  simp only [pt_vw] at h
  exact h
theorem t_X2_find {J : MJ} {n : Nat} (hN : NodL J n) (I : MI) (x1 : Int32) (x2 : Int32) : M_X2_find [mR (some n), mI x1, mI x2] (I, J) = some (some (mI (q_X2_find (vw 6 I n) x1 x2)), (I, J)) := by
  have h := s_X2_find hN I (vw 6 I n) x1 x2
  simp only [pt_vw] at h
  exact h
theorem t_X2_howManyIn {J : MJ} {n : Nat} (hN : NodL J n) (I : MI) (x1 : Int32) : M_X2_howManyIn [mR (some n), mI x1] (I, J) = some (some (mI (q_X2_howManyIn (vw 6 I n) x1)), (I, J)) := by
  have h := s_X2_howManyIn hN I (vw 6 I n) x1
  simp only [pt_vw] at h
  exact h
theorem t_X2_howMany {J : MJ} {n : Nat} (hN : NodL J n) (I : MI) : M_X2_howMany [mR (some n)] (I, J) = some (some (mI (q_X2_howMany (vw 6 I n))), (I, J)) := by
  have h := s_X2_howMany hN I (vw 6 I n)
  simp only [pt_vw] at h
  exact h
theorem t_X2_tell {J : MJ} {n : Nat} (hN : NodL J n) (I : MI) (x1 : Int32) (x2 : Int32) : M_X2_tell [mR (some n), mI x1, mI x2] (I, J) = some (some (mI (q_X2_tell (vw 6 I n) x1 x2)), (I, J)) := by
  have h := s_X2_tell hN I (vw 6 I n) x1 x2
  simp only [pt_vw] at h
  exact h
theorem t_X1_leastUnused {J : MJ} {m n : Nat} (hM : MemL J m n) (I : MI) : M_X1_leastUnused [mR (some m)] (I, J) = some (some (mI (q_X1_leastUnused (vw 12 I m))), (I, J)) := by
  have h := s_X1_leastUnused hM I (vw 12 I m)
  simp only [pt_vw] at h
  exact h
theorem t_X1_hold {J : MJ} {m n : Nat} (hM : MemL J m n) (I : MI) (x1 : Int32) : M_X1_hold [mR (some m), mI x1] (I, J) = some (none, (pt I m (gV_X1_hold (vw 12 I m) x1), J)) := by
  have h := s_X1_hold hM I (vw 12 I m) x1
  simp only [pt_vw] at h
  exact h
theorem t_X1_comeTo {J : MJ} {m n : Nat} (hM : MemL J m n) (I : MI) (x1 : Int32) : M_X1_comeTo [mR (some m), mI x1] (I, J) = some (none, (pt I m (gV_X1_comeTo (vw 12 I m) x1), J)) := by
  have h := s_X1_comeTo hM I (vw 12 I m) x1
  simp only [pt_vw] at h
  exact h
theorem t_X1_add {J : MJ} {m n : Nat} (hM : MemL J m n) (I : MI) (x1 : Int32) (x2 : Int32) (x3 : Int32) : M_X1_add [mR (some m), mI x1, mI x2, mI x3] (I, J) = some (some (mI (q_X1_add (vw 12 I m) x1 x2 x3)), (pt I m (gV_X1_add (vw 12 I m) x1 x2 x3), J)) := by
  have h := s_X1_add hM I (vw 12 I m) x1 x2 x3
  simp only [pt_vw] at h
  exact h
theorem t_X1_startAnew {J : MJ} {n m : Nat} (hN : NodL J n) (hM : MemL J m n) (d_UV : n + 6 ≤ m ∨ m + 12 ≤ n) (I : MI) : M_X1_startAnew [mR (some m)] (I, J) = some (none, (pt I m (gV_X1_startAnew (vw 6 I n) (vw 12 I m)), J)) := by
  have h := s_X1_startAnew hN hM d_UV I (vw 6 I n) (vw 12 I m)
  simp only [pt_vw] at h
  exact h
theorem t_X1_isEntry {J : MJ} {m n : Nat} (hM : MemL J m n) (I : MI) (x1 : Int32) : M_X1_isEntry [mR (some m), mI x1] (I, J) = some (some (mI (q_X1_isEntry (vw 12 I m) x1)), (I, J)) := by
  have h := s_X1_isEntry hM I (vw 12 I m) x1
  simp only [pt_vw] at h
  exact h
theorem t_X1_isGone {J : MJ} {m n : Nat} (hM : MemL J m n) (I : MI) (x1 : Int32) : M_X1_isGone [mR (some m), mI x1] (I, J) = some (some (mI (q_X1_isGone (vw 12 I m) x1)), (I, J)) := by
  have h := s_X1_isGone hM I (vw 12 I m) x1
  simp only [pt_vw] at h
  exact h
theorem t_X1_isAbsence {J : MJ} {m n : Nat} (hM : MemL J m n) (I : MI) (x1 : Int32) : M_X1_isAbsence [mR (some m), mI x1] (I, J) = some (some (mI (q_X1_isAbsence (vw 12 I m) x1)), (I, J)) := by
  have h := s_X1_isAbsence hM I (vw 12 I m) x1
  simp only [pt_vw] at h
  exact h
theorem t_X1_isFolder {J : MJ} {n m : Nat} (hN : NodL J n) (hM : MemL J m n) (d_UV : n + 6 ≤ m ∨ m + 12 ≤ n) (I : MI) (x1 : Int32) : M_X1_isFolder [mR (some m), mI x1] (I, J) = some (some (mI (q_X1_isFolder (vw 6 I n) (vw 12 I m) x1)), (I, J)) := by
  have h := s_X1_isFolder hN hM d_UV I (vw 6 I n) (vw 12 I m) x1
  simp only [pt_vw] at h
  exact h
theorem t_X1_nodeOf {J : MJ} {m n : Nat} (hM : MemL J m n) (I : MI) (x1 : Int32) : M_X1_nodeOf [mR (some m), mI x1] (I, J) = some (some (mI (q_X1_nodeOf (vw 12 I m) x1)), (I, J)) := by
  have h := s_X1_nodeOf hM I (vw 12 I m) x1
  simp only [pt_vw] at h
  exact h
theorem t_X1_nameOf {J : MJ} {m n : Nat} (hM : MemL J m n) (I : MI) (x1 : Int32) : M_X1_nameOf [mR (some m), mI x1] (I, J) = some (some (mI (q_X1_nameOf (vw 12 I m) x1)), (I, J)) := by
  have h := s_X1_nameOf hM I (vw 12 I m) x1
  simp only [pt_vw] at h
  exact h
theorem t_X1_isMounted {J : MJ} {m n : Nat} (hM : MemL J m n) (I : MI) (x1 : Int32) : M_X1_isMounted [mR (some m), mI x1] (I, J) = some (some (mI (q_X1_isMounted (vw 12 I m) x1)), (I, J)) := by
  have h := s_X1_isMounted hM I (vw 12 I m) x1
  simp only [pt_vw] at h
  exact h
theorem t_X1_rootVolume {J : MJ} {m n : Nat} (hM : MemL J m n) (I : MI) (x1 : Int32) : M_X1_rootVolume [mR (some m), mI x1] (I, J) = some (some (mI (q_X1_rootVolume (vw 12 I m) x1)), (I, J)) := by
  have h := s_X1_rootVolume hM I (vw 12 I m) x1
  simp only [pt_vw] at h
  exact h
theorem t_X1_coveringVolume {J : MJ} {m n : Nat} (hM : MemL J m n) (I : MI) (x1 : Int32) : M_X1_coveringVolume [mR (some m), mI x1] (I, J) = some (some (mI (q_X1_coveringVolume (vw 12 I m) x1)), (I, J)) := by
  have h := s_X1_coveringVolume hM I (vw 12 I m) x1
  simp only [pt_vw] at h
  exact h
theorem t_X1_coveredBy {J : MJ} {m n : Nat} (hM : MemL J m n) (I : MI) (x1 : Int32) : M_X1_coveredBy [mR (some m), mI x1] (I, J) = some (some (mI (q_X1_coveredBy (vw 12 I m) x1)), (I, J)) := by
  have h := s_X1_coveredBy hM I (vw 12 I m) x1
  simp only [pt_vw] at h
  exact h
theorem t_X1_canChange {J : MJ} {m n : Nat} (hM : MemL J m n) (I : MI) (x1 : Int32) : M_X1_canChange [mR (some m), mI x1] (I, J) = some (some (mI (q_X1_canChange (vw 12 I m) x1)), (I, J)) := by
  have h := s_X1_canChange hM I (vw 12 I m) x1
  simp only [pt_vw] at h
  exact h
theorem t_X1_find {J : MJ} {m n : Nat} (hM : MemL J m n) (I : MI) (x1 : Int32) (x2 : Int32) : M_X1_find [mR (some m), mI x1, mI x2] (I, J) = some (some (mI (q_X1_find (vw 12 I m) x1 x2)), (I, J)) := by
  have h := s_X1_find hM I (vw 12 I m) x1 x2
  simp only [pt_vw] at h
  exact h
theorem t_X1_drop {J : MJ} {m n : Nat} (hM : MemL J m n) (I : MI) (x1 : Int32) : M_X1_drop [mR (some m), mI x1] (I, J) = some (none, (pt I m (gV_X1_drop (vw 12 I m) x1), J)) := by
  have h := s_X1_drop hM I (vw 12 I m) x1
  simp only [pt_vw] at h
  exact h
theorem t_X1_release {J : MJ} {m n : Nat} (hM : MemL J m n) (I : MI) (x1 : Int32) : M_X1_release [mR (some m), mI x1] (I, J) = some (none, (pt I m (gV_X1_release (vw 12 I m) x1), J)) := by
  have h := s_X1_release hM I (vw 12 I m) x1
  simp only [pt_vw] at h
  exact h
theorem t_X1_howManyButRoots {J : MJ} {m n : Nat} (hM : MemL J m n) (I : MI) : M_X1_howManyButRoots [mR (some m)] (I, J) = some (some (mI (q_X1_howManyButRoots (vw 12 I m))), (I, J)) := by
  have h := s_X1_howManyButRoots hM I (vw 12 I m)
  simp only [pt_vw] at h
  exact h
theorem t_X1_longestUnused {J : MJ} {m n : Nat} (hM : MemL J m n) (I : MI) (x1 : Int32) : M_X1_longestUnused [mR (some m), mI x1] (I, J) = some (some (mI (q_X1_longestUnused (vw 12 I m) x1)), (I, J)) := by
  have h := s_X1_longestUnused hM I (vw 12 I m) x1
  simp only [pt_vw] at h
  exact h
theorem t_X1_shrink {J : MJ} {m n : Nat} (hM : MemL J m n) (I : MI) (x1 : Int32) : M_X1_shrink [mR (some m), mI x1] (I, J) = some (none, (pt I m (gV_X1_shrink (vw 12 I m) x1), J)) := by
  have h := s_X1_shrink hM I (vw 12 I m) x1
  simp only [pt_vw] at h
  exact h
theorem t_X1_reach {J : MJ} {n m : Nat} (hN : NodL J n) (hM : MemL J m n) (d_UV : n + 6 ≤ m ∨ m + 12 ≤ n) (I : MI) (x1 : Int32) (x2 : Int32) : M_X1_reach [mR (some m), mI x1, mI x2] (I, J) = some (some (mI (q_X1_reach (vw 6 I n) (vw 12 I m) x1 x2)), (pt I m (gV_X1_reach (vw 6 I n) (vw 12 I m) x1 x2), J)) := by
  have h := s_X1_reach hN hM d_UV I (vw 6 I n) (vw 12 I m) x1 x2
  simp only [pt_vw] at h
  exact h
theorem t_X1_trimSome {J : MJ} {m n : Nat} (hM : MemL J m n) (I : MI) (x1 : Int32) : M_X1_trimSome [mR (some m), mI x1] (I, J) = some (some (mI (q_X1_trimSome (vw 12 I m) x1)), (pt I m (gV_X1_trimSome (vw 12 I m) x1), J)) := by
  have h := s_X1_trimSome hM I (vw 12 I m) x1
  simp only [pt_vw] at h
  exact h
theorem t_X1_comeToRoot {J : MJ} {m n : Nat} (hM : MemL J m n) (I : MI) : M_X1_comeToRoot [mR (some m)] (I, J) = some (some (mI (q_X1_comeToRoot (vw 12 I m))), (pt I m (gV_X1_comeToRoot (vw 12 I m)), J)) := by
  have h := s_X1_comeToRoot hM I (vw 12 I m)
  simp only [pt_vw] at h
  exact h
theorem t_X1_stepUp {J : MJ} {m n : Nat} (hM : MemL J m n) (I : MI) (x1 : Int32) : M_X1_stepUp [mR (some m), mI x1] (I, J) = some (some (mI (q_X1_stepUp (vw 12 I m) x1)), (pt I m (gV_X1_stepUp (vw 12 I m) x1), J)) := by
  have h := s_X1_stepUp hM I (vw 12 I m) x1
  simp only [pt_vw] at h
  exact h
theorem t_X1_stepFrom {J : MJ} {n m : Nat} (hN : NodL J n) (hM : MemL J m n) (d_UV : n + 6 ≤ m ∨ m + 12 ≤ n) (I : MI) (x1 : Int32) (x2 : Int32) : M_X1_stepFrom [mR (some m), mI x1, mI x2] (I, J) = some (some (mI (q_X1_stepFrom (vw 6 I n) (vw 12 I m) x1 x2)), (pt I m (gV_X1_stepFrom (vw 6 I n) (vw 12 I m) x1 x2), J)) := by
  have h := s_X1_stepFrom hN hM d_UV I (vw 6 I n) (vw 12 I m) x1 x2
  simp only [pt_vw] at h
  exact h
theorem t_X1_fill {J : MJ} {n m : Nat} (hN : NodL J n) (hM : MemL J m n) (d_UV : n + 6 ≤ m ∨ m + 12 ≤ n) (I : MI) (x1 : Int32) (x2 : Int32) : M_X1_fill [mR (some m), mI x1, mI x2] (I, J) = some (some (mI (q_X1_fill (vw 6 I n) (vw 12 I m) x1 x2)), (pt (pt I n (gU_X1_fill (vw 6 I n) (vw 12 I m) x1 x2)) m (gV_X1_fill (vw 6 I n) (vw 12 I m) x1 x2), J)) := by
  have h := s_X1_fill hN hM d_UV I (vw 6 I n) (vw 12 I m) x1 x2
  simp only [pt_vw] at h
  exact h
theorem t_X1_empty {J : MJ} {m n : Nat} (hM : MemL J m n) (I : MI) (x1 : Int32) : M_X1_empty [mR (some m), mI x1] (I, J) = some (none, (pt I m (gV_X1_empty (vw 12 I m) x1), J)) := by
  have h := s_X1_empty hM I (vw 12 I m) x1
  simp only [pt_vw] at h
  exact h
theorem t_X1_move {J : MJ} {m n : Nat} (hM : MemL J m n) (I : MI) (x1 : Int32) (x2 : Int32) (x3 : Int32) : M_X1_move [mR (some m), mI x1, mI x2, mI x3] (I, J) = some (none, (pt I m (gV_X1_move (vw 12 I m) x1 x2 x3), J)) := by
  have h := s_X1_move hM I (vw 12 I m) x1 x2 x3
  simp only [pt_vw] at h
  exact h
theorem t_X1_isWithin {J : MJ} {m n : Nat} (hM : MemL J m n) (I : MI) (x1 : Int32) (x2 : Int32) : M_X1_isWithin [mR (some m), mI x1, mI x2] (I, J) = some (some (mI (q_X1_isWithin (vw 12 I m) x1 x2)), (I, J)) := by
  have h := s_X1_isWithin hM I (vw 12 I m) x1 x2
  simp only [pt_vw] at h
  exact h
theorem t_X1_cover {J : MJ} {n m : Nat} (hN : NodL J n) (hM : MemL J m n) (d_UV : n + 6 ≤ m ∨ m + 12 ≤ n) (I : MI) (x1 : Int32) (x2 : Int32) : M_X1_cover [mR (some m), mI x1, mI x2] (I, J) = some (some (mI (q_X1_cover (vw 6 I n) (vw 12 I m) x1 x2)), (pt I m (gV_X1_cover (vw 6 I n) (vw 12 I m) x1 x2), J)) := by
  have h := s_X1_cover hN hM d_UV I (vw 6 I n) (vw 12 I m) x1 x2
  simp only [pt_vw] at h
  exact h
theorem t_X1_isOf {J : MJ} {n m : Nat} (hN : NodL J n) (hM : MemL J m n) (d_UV : n + 6 ≤ m ∨ m + 12 ≤ n) (I : MI) (x1 : Int32) (x2 : Int32) : M_X1_isOf [mR (some m), mI x1, mI x2] (I, J) = some (some (mI (q_X1_isOf (vw 6 I n) (vw 12 I m) x1 x2)), (I, J)) := by
  have h := s_X1_isOf hN hM d_UV I (vw 6 I n) (vw 12 I m) x1 x2
  simp only [pt_vw] at h
  exact h
theorem t_X1_heldBelow {J : MJ} {m n : Nat} (hM : MemL J m n) (I : MI) (x1 : Int32) : M_X1_heldBelow [mR (some m), mI x1] (I, J) = some (some (mI (q_X1_heldBelow (vw 12 I m) x1)), (I, J)) := by
  have h := s_X1_heldBelow hM I (vw 12 I m) x1
  simp only [pt_vw] at h
  exact h
theorem t_X1_isBusy {J : MJ} {n m : Nat} (hN : NodL J n) (hM : MemL J m n) (d_UV : n + 6 ≤ m ∨ m + 12 ≤ n) (I : MI) (x1 : Int32) : M_X1_isBusy [mR (some m), mI x1] (I, J) = some (some (mI (q_X1_isBusy (vw 6 I n) (vw 12 I m) x1)), (I, J)) := by
  have h := s_X1_isBusy hN hM d_UV I (vw 6 I n) (vw 12 I m) x1
  simp only [pt_vw] at h
  exact h
theorem t_X1_howMany {J : MJ} {m n : Nat} (hM : MemL J m n) (I : MI) : M_X1_howMany [mR (some m)] (I, J) = some (some (mI (q_X1_howMany (vw 12 I m))), (I, J)) := by
  have h := s_X1_howMany hM I (vw 12 I m)
  simp only [pt_vw] at h
  exact h
theorem t_X1_dropVolume {J : MJ} {n m : Nat} (hN : NodL J n) (hM : MemL J m n) (d_UV : n + 6 ≤ m ∨ m + 12 ≤ n) (I : MI) (x1 : Int32) : M_X1_dropVolume [mR (some m), mI x1] (I, J) = some (some (mI (q_X1_dropVolume (vw 6 I n) (vw 12 I m) x1)), (pt I m (gV_X1_dropVolume (vw 6 I n) (vw 12 I m) x1), J)) := by
  have h := s_X1_dropVolume hN hM d_UV I (vw 6 I n) (vw 12 I m) x1
  simp only [pt_vw] at h
  exact h
theorem t_X1_markUpFrom {J : MJ} {m n : Nat} (hM : MemL J m n) (I : MI) (x1 : Int32) : M_X1_markUpFrom [mR (some m), mI x1] (I, J) = some (none, (pt I m (gV_X1_markUpFrom (vw 12 I m) x1), J)) := by
  have h := s_X1_markUpFrom hM I (vw 12 I m) x1
  simp only [pt_vw] at h
  exact h
theorem t_X1_keepMountsAlone {J : MJ} {m n : Nat} (hM : MemL J m n) (I : MI) : M_X1_keepMountsAlone [mR (some m)] (I, J) = some (none, (pt I m (gV_X1_keepMountsAlone (vw 12 I m)), J)) := by
  have h := s_X1_keepMountsAlone hM I (vw 12 I m)
  simp only [pt_vw] at h
  exact h
theorem t_X1_absences {J : MJ} {m n : Nat} (hM : MemL J m n) (I : MI) : M_X1_absences [mR (some m)] (I, J) = some (some (mI (q_X1_absences (vw 12 I m))), (I, J)) := by
  have h := s_X1_absences hM I (vw 12 I m)
  simp only [pt_vw] at h
  exact h
theorem t_X1_freeOnes {J : MJ} {m n : Nat} (hM : MemL J m n) (I : MI) : M_X1_freeOnes [mR (some m)] (I, J) = some (some (mI (q_X1_freeOnes (vw 12 I m))), (I, J)) := by
  have h := s_X1_freeOnes hM I (vw 12 I m)
  simp only [pt_vw] at h
  exact h
theorem t_X1_goneOnes {J : MJ} {m n : Nat} (hM : MemL J m n) (I : MI) : M_X1_goneOnes [mR (some m)] (I, J) = some (some (mI (q_X1_goneOnes (vw 12 I m))), (I, J)) := by
  have h := s_X1_goneOnes hM I (vw 12 I m)
  simp only [pt_vw] at h
  exact h
theorem t_X1_mountedBits {J : MJ} {m n : Nat} (hM : MemL J m n) (I : MI) : M_X1_mountedBits [mR (some m)] (I, J) = some (some (mI (q_X1_mountedBits (vw 12 I m))), (I, J)) := by
  have h := s_X1_mountedBits hM I (vw 12 I m)
  simp only [pt_vw] at h
  exact h
theorem t_X1_tell {J : MJ} {m n : Nat} (hM : MemL J m n) (I : MI) (x1 : Int32) (x2 : Int32) : M_X1_tell [mR (some m), mI x1, mI x2] (I, J) = some (some (mI (q_X1_tell (vw 12 I m) x1 x2)), (I, J)) := by
  have h := s_X1_tell hM I (vw 12 I m) x1 x2
  simp only [pt_vw] at h
  exact h
theorem t_X4_clear {J : MJ} {r L : Nat} (hP : RouL J r L) (I : MI) : M_X4_clear [mR (some r)] (I, J) = some (none, (pt I r (gP_X4_clear L (vw 2 I r)), J)) := by
  have h := s_X4_clear hP I (vw 2 I r)
  simp only [pt_vw] at h
  exact h
theorem t_X4_stepAt {J : MJ} {r L : Nat} (hP : RouL J r L) (I : MI) (x1 : Int32) : M_X4_stepAt [mR (some r), mI x1] (I, J) = some (some (mI (q_X4_stepAt L (vw 2 I r) x1)), (I, J)) := by
  have h := s_X4_stepAt hP I (vw 2 I r) x1
  simp only [pt_vw] at h
  exact h
theorem t_X4_push {J : MJ} {r L : Nat} (hP : RouL J r L) (I : MI) (x1 : Int32) : M_X4_push [mR (some r), mI x1] (I, J) = some (some (mI (q_X4_push L (vw 2 I r) x1)), (pt I r (gP_X4_push L (vw 2 I r) x1), J)) := by
  have h := s_X4_push hP I (vw 2 I r) x1
  simp only [pt_vw] at h
  exact h
theorem t_X4_last {J : MJ} {r L : Nat} (hP : RouL J r L) (I : MI) : M_X4_last [mR (some r)] (I, J) = some (some (mI (q_X4_last L (vw 2 I r))), (I, J)) := by
  have h := s_X4_last hP I (vw 2 I r)
  simp only [pt_vw] at h
  exact h
theorem t_X4_copyFrom {J : MJ} {r2 L2 r L : Nat} (hP2 : RouL J r2 L2) (hP : RouL J r L) (d_P2P : r2 + 2 ≤ r ∨ r + 2 ≤ r2) (I : MI) : M_X4_copyFrom [mR (some r), mR (some r2)] (I, J) = some (none, (pt I r (gP_X4_copyFrom L2 L (vw 2 I r2) (vw 2 I r)), J)) := by
  have h := s_X4_copyFrom hP2 hP d_P2P I (vw 2 I r2) (vw 2 I r)
  simp only [pt_vw] at h
  exact h
theorem t_X9_nameBetween {J : MJ} {t : Nat} (hT : TapL J t) (I : MI) (x1 : Int32) (x2 : Int32) : M_X9_nameBetween [mR (some t), mI x1, mI x2] (I, J) = some (some (mI (q_X9_nameBetween (vw 2 I t) x1 x2)), (I, J)) := by
  have h := s_X9_nameBetween hT I (vw 2 I t) x1 x2
  simp only [pt_vw] at h
  exact h
theorem t_X9_stepBetween {J : MJ} {t : Nat} (hT : TapL J t) (I : MI) (x1 : Int32) (x2 : Int32) : M_X9_stepBetween [mR (some t), mI x1, mI x2] (I, J) = some (some (mI (q_X9_stepBetween (vw 2 I t) x1 x2)), (I, J)) := by
  have h := s_X9_stepBetween hT I (vw 2 I t) x1 x2
  simp only [pt_vw] at h
  exact h
theorem t_X1_walk {J : MJ} {r L n m : Nat} (hP : RouL J r L) (hN : NodL J n) (hM : MemL J m n) (d_PU : r + 2 ≤ n ∨ n + 6 ≤ r) (d_PV : r + 2 ≤ m ∨ m + 12 ≤ r) (d_UV : n + 6 ≤ m ∨ m + 12 ≤ n) (I : MI) (x2 : Int32) : M_X1_walk [mR (some m), mR (some r), mI x2] (I, J) = some (some (mI (q_X1_walk L (vw 2 I r) (vw 6 I n) (vw 12 I m) x2)), (pt I m (gV_X1_walk L (vw 2 I r) (vw 6 I n) (vw 12 I m) x2), J)) := by
  have h := s_X1_walk hP hN hM d_PU d_PV d_UV I (vw 2 I r) (vw 6 I n) (vw 12 I m) x2
  simp only [pt_vw] at h
  exact h
theorem t_X2_copyFrom {J : MJ} {n2 n : Nat} (hN2 : NodL J n2) (hN : NodL J n) (d_U2U : n2 + 6 ≤ n ∨ n + 6 ≤ n2) (I : MI) : M_X2_copyFrom [mR (some n), mR (some n2)] (I, J) = some (none, (pt I n (gU_X2_copyFrom (vw 6 I n2) (vw 6 I n)), J)) := by
  have h := s_X2_copyFrom hN2 hN d_U2U I (vw 6 I n2) (vw 6 I n)
  simp only [pt_vw] at h
  exact h
theorem t_X1_copyFrom {J : MJ} {m2 nx m n : Nat} (hM2 : MemL J m2 nx) (hM : MemL J m n) (d_V2V : m2 + 12 ≤ m ∨ m + 12 ≤ m2) (I : MI) : M_X1_copyFrom [mR (some m), mR (some m2)] (I, J) = some (none, (pt I m (gV_X1_copyFrom (vw 12 I m2) (vw 12 I m)), J)) := by
  have h := s_X1_copyFrom hM2 hM d_V2V I (vw 12 I m2) (vw 12 I m)
  simp only [pt_vw] at h
  exact h
theorem t_X7_isThrough {J : MJ} {w r b L : Nat} (hK : WalL J w r b) (hP : RouL J r L) (d_KP : w + 1 ≤ r ∨ r + 2 ≤ w) (I : MI) : M_X7_isThrough [mR (some w)] (I, J) = some (some (mI (q_X7_isThrough L (vw 1 I w) (vw 2 I r))), (I, J)) := by
  have h := s_X7_isThrough hK hP d_KP I (vw 1 I w) (vw 2 I r)
  simp only [pt_vw] at h
  exact h
theorem t_X7_lastOfWay {J : MJ} {w r b : Nat} (hK : WalL J w r b) (hB : BufL J b) (d_KB : w + 1 ≤ b ∨ b + 3 ≤ w) (I : MI) : M_X7_lastOfWay [mR (some w)] (I, J) = some (some (mI (q_X7_lastOfWay (vw 1 I w) (vw 3 I b))), (I, J)) := by
  have h := s_X7_lastOfWay hK hB d_KB I (vw 1 I w) (vw 3 I b)
  simp only [pt_vw] at h
  exact h
theorem t_X7_tell {J : MJ} {w r b L : Nat} (hK : WalL J w r b) (hP : RouL J r L) (hB : BufL J b) (d_KP : w + 1 ≤ r ∨ r + 2 ≤ w) (d_KB : w + 1 ≤ b ∨ b + 3 ≤ w) (d_PB : r + 2 ≤ b ∨ b + 3 ≤ r) (I : MI) (x1 : Int32) : M_X7_tell [mR (some w), mI x1] (I, J) = some (some (mI (q_X7_tell L (vw 1 I w) (vw 2 I r) (vw 3 I b) x1)), (I, J)) := by
  have h := s_X7_tell hK hP hB d_KP d_KB d_PB I (vw 1 I w) (vw 2 I r) (vw 3 I b) x1
  simp only [pt_vw] at h
  exact h
theorem t_X7_isChanged {J : MJ} {w r b m n : Nat} (hK : WalL J w r b) (hB : BufL J b) (hM : MemL J m n) (d_KB : w + 1 ≤ b ∨ b + 3 ≤ w) (d_KV : w + 1 ≤ m ∨ m + 12 ≤ w) (d_BV : b + 3 ≤ m ∨ m + 12 ≤ b) (I : MI) : M_X7_isChanged [mR (some w), mR (some m)] (I, J) = some (some (mI (q_X7_isChanged (vw 1 I w) (vw 3 I b) (vw 12 I m))), (I, J)) := by
  have h := s_X7_isChanged hK hB hM d_KB d_KV d_BV I (vw 1 I w) (vw 3 I b) (vw 12 I m)
  simp only [pt_vw] at h
  exact h
theorem t_X7_holdAll {J : MJ} {w r b m n : Nat} (hK : WalL J w r b) (hB : BufL J b) (hM : MemL J m n) (d_KB : w + 1 ≤ b ∨ b + 3 ≤ w) (d_KV : w + 1 ≤ m ∨ m + 12 ≤ w) (d_BV : b + 3 ≤ m ∨ m + 12 ≤ b) (I : MI) : M_X7_holdAll [mR (some w), mR (some m)] (I, J) = some (none, (pt I m (gV_X7_holdAll (vw 1 I w) (vw 3 I b) (vw 12 I m)), J)) := by
  have h := s_X7_holdAll hK hB hM d_KB d_KV d_BV I (vw 1 I w) (vw 3 I b) (vw 12 I m)
  simp only [pt_vw] at h
  exact h
theorem t_X7_letGo {J : MJ} {w r b m n : Nat} (hK : WalL J w r b) (hB : BufL J b) (hM : MemL J m n) (d_KB : w + 1 ≤ b ∨ b + 3 ≤ w) (d_KV : w + 1 ≤ m ∨ m + 12 ≤ w) (d_BV : b + 3 ≤ m ∨ m + 12 ≤ b) (I : MI) : M_X7_letGo [mR (some w), mR (some m)] (I, J) = some (none, (pt I m (gV_X7_letGo (vw 1 I w) (vw 3 I b) (vw 12 I m)), J)) := by
  have h := s_X7_letGo hK hB hM d_KB d_KV d_BV I (vw 1 I w) (vw 3 I b) (vw 12 I m)
  simp only [pt_vw] at h
  exact h
theorem t_X7_takeTrail {J : MJ} {w r b m n : Nat} (hK : WalL J w r b) (hB : BufL J b) (hM : MemL J m n) (d_KB : w + 1 ≤ b ∨ b + 3 ≤ w) (d_KV : w + 1 ≤ m ∨ m + 12 ≤ w) (d_BV : b + 3 ≤ m ∨ m + 12 ≤ b) (I : MI) : M_X7_takeTrail [mR (some w), mR (some m)] (I, J) = some (none, (pt (pt (pt I w (gK_X7_takeTrail (vw 1 I w) (vw 3 I b) (vw 12 I m))) b (gB_X7_takeTrail (vw 1 I w) (vw 3 I b) (vw 12 I m))) m (gV_X7_takeTrail (vw 1 I w) (vw 3 I b) (vw 12 I m)), J)) := by
  have h := s_X7_takeTrail hK hB hM d_KB d_KV d_BV I (vw 1 I w) (vw 3 I b) (vw 12 I m)
  simp only [pt_vw] at h
  exact h
theorem t_X7_goToRoot {J : MJ} {w r b m n : Nat} (hK : WalL J w r b) (hB : BufL J b) (hM : MemL J m n) (d_KB : w + 1 ≤ b ∨ b + 3 ≤ w) (d_KV : w + 1 ≤ m ∨ m + 12 ≤ w) (d_BV : b + 3 ≤ m ∨ m + 12 ≤ b) (I : MI) : M_X7_goToRoot [mR (some w), mR (some m)] (I, J) = some (none, (pt (pt (pt I w (gK_X7_goToRoot (vw 1 I w) (vw 3 I b) (vw 12 I m))) b (gB_X7_goToRoot (vw 1 I w) (vw 3 I b) (vw 12 I m))) m (gV_X7_goToRoot (vw 1 I w) (vw 3 I b) (vw 12 I m)), J)) := by
  have h := s_X7_goToRoot hK hB hM d_KB d_KV d_BV I (vw 1 I w) (vw 3 I b) (vw 12 I m)
  simp only [pt_vw] at h
  exact h
theorem t_X7_stop {J : MJ} {w r b m n : Nat} (hK : WalL J w r b) (hB : BufL J b) (hM : MemL J m n) (d_KB : w + 1 ≤ b ∨ b + 3 ≤ w) (d_KV : w + 1 ≤ m ∨ m + 12 ≤ w) (d_BV : b + 3 ≤ m ∨ m + 12 ≤ b) (I : MI) : M_X7_stop [mR (some w), mR (some m)] (I, J) = some (none, (pt (pt I w (gK_X7_stop (vw 1 I w) (vw 3 I b) (vw 12 I m))) m (gV_X7_stop (vw 1 I w) (vw 3 I b) (vw 12 I m)), J)) := by
  have h := s_X7_stop hK hB hM d_KB d_KV d_BV I (vw 1 I w) (vw 3 I b) (vw 12 I m)
  simp only [pt_vw, pt_k1 d_KB] at h
  exact h
theorem t_X7_lacksNext {J : MJ} {w r b L m n : Nat} (hK : WalL J w r b) (hP : RouL J r L) (hB : BufL J b) (hM : MemL J m n) (d_KP : w + 1 ≤ r ∨ r + 2 ≤ w) (d_KB : w + 1 ≤ b ∨ b + 3 ≤ w) (d_KV : w + 1 ≤ m ∨ m + 12 ≤ w) (d_PB : r + 2 ≤ b ∨ b + 3 ≤ r) (d_PV : r + 2 ≤ m ∨ m + 12 ≤ r) (d_BV : b + 3 ≤ m ∨ m + 12 ≤ b) (I : MI) : M_X7_lacksNext [mR (some w), mR (some m)] (I, J) = some (some (mI (q_X7_lacksNext L (vw 1 I w) (vw 2 I r) (vw 3 I b) (vw 12 I m))), (I, J)) := by
  have h := s_X7_lacksNext hK hP hB hM d_KP d_KB d_KV d_PB d_PV d_BV I (vw 1 I w) (vw 2 I r) (vw 3 I b) (vw 12 I m)
  simp only [pt_vw] at h
  exact h
theorem t_X7_goOn {J : MJ} {w r b L n m : Nat} (hK : WalL J w r b) (hP : RouL J r L) (hB : BufL J b) (hN : NodL J n) (hM : MemL J m n) (d_KP : w + 1 ≤ r ∨ r + 2 ≤ w) (d_KB : w + 1 ≤ b ∨ b + 3 ≤ w) (d_KU : w + 1 ≤ n ∨ n + 6 ≤ w) (d_KV : w + 1 ≤ m ∨ m + 12 ≤ w) (d_PB : r + 2 ≤ b ∨ b + 3 ≤ r) (d_PU : r + 2 ≤ n ∨ n + 6 ≤ r) (d_PV : r + 2 ≤ m ∨ m + 12 ≤ r) (d_BU : b + 3 ≤ n ∨ n + 6 ≤ b) (d_BV : b + 3 ≤ m ∨ m + 12 ≤ b) (d_UV : n + 6 ≤ m ∨ m + 12 ≤ n) (I : MI) : M_X7_goOn [mR (some w), mR (some m)] (I, J) = some (some (mI (q_X7_goOn L (vw 1 I w) (vw 2 I r) (vw 3 I b) (vw 6 I n) (vw 12 I m))), (pt (pt (pt I w (gK_X7_goOn L (vw 1 I w) (vw 2 I r) (vw 3 I b) (vw 6 I n) (vw 12 I m))) b (gB_X7_goOn L (vw 1 I w) (vw 2 I r) (vw 3 I b) (vw 6 I n) (vw 12 I m))) m (gV_X7_goOn L (vw 1 I w) (vw 2 I r) (vw 3 I b) (vw 6 I n) (vw 12 I m)), J)) := by
  have h := s_X7_goOn hK hP hB hN hM d_KP d_KB d_KU d_KV d_PB d_PU d_PV d_BU d_BV d_UV I (vw 1 I w) (vw 2 I r) (vw 3 I b) (vw 6 I n) (vw 12 I m)
  simp only [pt_vw, pt_k1 d_KP, pt_k2 d_KU d_BU] at h
  exact h
theorem t_X7_start {J : MJ} {r2 L2 w r b L m n : Nat} (hP2 : RouL J r2 L2) (hK : WalL J w r b) (hP : RouL J r L) (hB : BufL J b) (hM : MemL J m n) (d_P2K : r2 + 2 ≤ w ∨ w + 1 ≤ r2) (d_P2P : r2 + 2 ≤ r ∨ r + 2 ≤ r2) (d_P2B : r2 + 2 ≤ b ∨ b + 3 ≤ r2) (d_P2V : r2 + 2 ≤ m ∨ m + 12 ≤ r2) (d_KP : w + 1 ≤ r ∨ r + 2 ≤ w) (d_KB : w + 1 ≤ b ∨ b + 3 ≤ w) (d_KV : w + 1 ≤ m ∨ m + 12 ≤ w) (d_PB : r + 2 ≤ b ∨ b + 3 ≤ r) (d_PV : r + 2 ≤ m ∨ m + 12 ≤ r) (d_BV : b + 3 ≤ m ∨ m + 12 ≤ b) (I : MI) : M_X7_start [mR (some w), mR (some r2), mR (some m)] (I, J) = some (none, (pt (pt (pt (pt I w (gK_X7_start L2 L (vw 2 I r2) (vw 1 I w) (vw 2 I r) (vw 3 I b) (vw 12 I m))) r (gP_X7_start L2 L (vw 2 I r2) (vw 1 I w) (vw 2 I r) (vw 3 I b) (vw 12 I m))) b (gB_X7_start L2 L (vw 2 I r2) (vw 1 I w) (vw 2 I r) (vw 3 I b) (vw 12 I m))) m (gV_X7_start L2 L (vw 2 I r2) (vw 1 I w) (vw 2 I r) (vw 3 I b) (vw 12 I m)), J)) := by
  have h := s_X7_start hP2 hK hP hB hM d_P2K d_P2P d_P2B d_P2V d_KP d_KB d_KV d_PB d_PV d_BV I (vw 2 I r2) (vw 1 I w) (vw 2 I r) (vw 3 I b) (vw 12 I m)
  simp only [pt_vw] at h
  exact h
theorem t_X7_copyFrom {J : MJ} {w2 r2 b2 L2 w r b L : Nat} (hK2 : WalL J w2 r2 b2) (hP2 : RouL J r2 L2) (hB2 : BufL J b2) (hK : WalL J w r b) (hP : RouL J r L) (hB : BufL J b) (d_K2P2 : w2 + 1 ≤ r2 ∨ r2 + 2 ≤ w2) (d_K2B2 : w2 + 1 ≤ b2 ∨ b2 + 3 ≤ w2) (d_K2K : w2 + 1 ≤ w ∨ w + 1 ≤ w2) (d_K2P : w2 + 1 ≤ r ∨ r + 2 ≤ w2) (d_K2B : w2 + 1 ≤ b ∨ b + 3 ≤ w2) (d_P2B2 : r2 + 2 ≤ b2 ∨ b2 + 3 ≤ r2) (d_P2K : r2 + 2 ≤ w ∨ w + 1 ≤ r2) (d_P2P : r2 + 2 ≤ r ∨ r + 2 ≤ r2) (d_P2B : r2 + 2 ≤ b ∨ b + 3 ≤ r2) (d_B2K : b2 + 3 ≤ w ∨ w + 1 ≤ b2) (d_B2P : b2 + 3 ≤ r ∨ r + 2 ≤ b2) (d_B2B : b2 + 3 ≤ b ∨ b + 3 ≤ b2) (d_KP : w + 1 ≤ r ∨ r + 2 ≤ w) (d_KB : w + 1 ≤ b ∨ b + 3 ≤ w) (d_PB : r + 2 ≤ b ∨ b + 3 ≤ r) (I : MI) : M_X7_copyFrom [mR (some w), mR (some w2)] (I, J) = some (none, (pt (pt (pt I w (gK_X7_copyFrom L2 L (vw 1 I w2) (vw 2 I r2) (vw 3 I b2) (vw 1 I w) (vw 2 I r) (vw 3 I b))) r (gP_X7_copyFrom L2 L (vw 1 I w2) (vw 2 I r2) (vw 3 I b2) (vw 1 I w) (vw 2 I r) (vw 3 I b))) b (gB_X7_copyFrom L2 L (vw 1 I w2) (vw 2 I r2) (vw 3 I b2) (vw 1 I w) (vw 2 I r) (vw 3 I b)), J)) := by
  have h := s_X7_copyFrom hK2 hP2 hB2 hK hP hB d_K2P2 d_K2B2 d_K2K d_K2P d_K2B d_P2B2 d_P2K d_P2P d_P2B d_B2K d_B2P d_B2B d_KP d_KB d_PB I (vw 1 I w2) (vw 2 I r2) (vw 3 I b2) (vw 1 I w) (vw 2 I r) (vw 3 I b)
  simp only [pt_vw] at h
  exact h
theorem t_X4_turnAround {J : MJ} {r L : Nat} (hP : RouL J r L) (I : MI) : M_X4_turnAround [mR (some r)] (I, J) = some (none, (pt I r (gP_X4_turnAround L (vw 2 I r)), J)) := by
  have h := s_X4_turnAround hP I (vw 2 I r)
  simp only [pt_vw] at h
  exact h
theorem t_X4_endOfStep {J : MJ} {t : Nat} (hT : TapL J t) (I : MI) (x1 : Int32) (x2 : Int32) : M_X4_endOfStep [mR (some t), mI x1, mI x2] (I, J) = some (some (mI (q_X4_endOfStep (vw 2 I t) x1 x2)), (I, J)) := by
  have h := s_X4_endOfStep hT I (vw 2 I t) x1 x2
  simp only [pt_vw] at h
  exact h
theorem t_X2_addVolume {J : MJ} {n : Nat} (hN : NodL J n) (I : MI) : M_X2_addVolume [mR (some n)] (I, J) = some (some (mI (q_X2_addVolume (vw 6 I n))), (pt I n (gU_X2_addVolume (vw 6 I n)), J)) := by
  have h := s_X2_addVolume hN I (vw 6 I n)
  simp only [pt_vw] at h
  exact h
theorem t_X3_skipBlanks {J : MJ} {e n t : Nat} (hE : RdrL J e n) (hT : TapL J t) (d_EQ : e + 1 ≤ t ∨ t + 2 ≤ e) (I : MI) : M_X3_skipBlanks [mR (some e), mR (some t)] (I, J) = some (none, (pt I e (gE_X3_skipBlanks (vw 1 I e) (vw 2 I t)), J)) := by
  have h := s_X3_skipBlanks hE hT d_EQ I (vw 1 I e) (vw 2 I t)
  simp only [pt_vw, pt_k1 d_EQ] at h
  exact h
theorem t_X4_readFrom {J : MJ} {t r L : Nat} (hT : TapL J t) (hP : RouL J r L) (d_QP : t + 2 ≤ r ∨ r + 2 ≤ t) (I : MI) (x2 : Int32) (x3 : Int32) : M_X4_readFrom [mR (some r), mR (some t), mI x2, mI x3] (I, J) = some (some (mI (q_X4_readFrom L (vw 2 I t) (vw 2 I r) x2 x3)), (pt I r (gP_X4_readFrom L (vw 2 I t) (vw 2 I r) x2 x3), J)) := by
  have h := s_X4_readFrom hT hP d_QP I (vw 2 I t) (vw 2 I r) x2 x3
  simp only [pt_vw] at h
  exact h
theorem t_X8_handleAt {J : MJ} {o n m g z : Nat} (hO : WorL J o n m g z) (hH : HanL J g) (d_OH : o + 1 ≤ g ∨ g + 1 ≤ o) (I : MI) (x1 : Int32) : M_X8_handleAt [mR (some o), mI x1] (I, J) = some (some (mI (q_X8_handleAt (vw 1 I o) (vw 1 I g) x1)), (I, J)) := by
  have h := s_X8_handleAt hO hH d_OH I (vw 1 I o) (vw 1 I g) x1
  simp only [pt_vw] at h
  exact h
theorem t_X8_freeHandle {J : MJ} {o n m g z : Nat} (hO : WorL J o n m g z) (hH : HanL J g) (d_OH : o + 1 ≤ g ∨ g + 1 ≤ o) (I : MI) : M_X8_freeHandle [mR (some o)] (I, J) = some (some (mI (q_X8_freeHandle (vw 1 I o) (vw 1 I g))), (I, J)) := by
  have h := s_X8_freeHandle hO hH d_OH I (vw 1 I o) (vw 1 I g)
  simp only [pt_vw] at h
  exact h
theorem t_X8_handlesOpen {J : MJ} {o n m g z : Nat} (hO : WorL J o n m g z) (hH : HanL J g) (d_OH : o + 1 ≤ g ∨ g + 1 ≤ o) (I : MI) : M_X8_handlesOpen [mR (some o)] (I, J) = some (some (mI (q_X8_handlesOpen (vw 1 I o) (vw 1 I g))), (I, J)) := by
  have h := s_X8_handlesOpen hO hH d_OH I (vw 1 I o) (vw 1 I g)
  simp only [pt_vw] at h
  exact h
theorem t_X8_openAt {J : MJ} {o n m g z r L : Nat} (hO : WorL J o n m g z) (hH : HanL J g) (hP : RouL J r L) (hN : NodL J n) (hM : MemL J m n) (d_OH : o + 1 ≤ g ∨ g + 1 ≤ o) (d_OP : o + 1 ≤ r ∨ r + 2 ≤ o) (d_OU : o + 1 ≤ n ∨ n + 6 ≤ o) (d_OV : o + 1 ≤ m ∨ m + 12 ≤ o) (d_HP : g + 1 ≤ r ∨ r + 2 ≤ g) (d_HU : g + 1 ≤ n ∨ n + 6 ≤ g) (d_HV : g + 1 ≤ m ∨ m + 12 ≤ g) (d_PU : r + 2 ≤ n ∨ n + 6 ≤ r) (d_PV : r + 2 ≤ m ∨ m + 12 ≤ r) (d_UV : n + 6 ≤ m ∨ m + 12 ≤ n) (I : MI) : M_X8_openAt [mR (some o), mR (some r)] (I, J) = some (some (mI (q_X8_openAt L (vw 1 I o) (vw 1 I g) (vw 2 I r) (vw 6 I n) (vw 12 I m))), (pt (pt I g (gH_X8_openAt L (vw 1 I o) (vw 1 I g) (vw 2 I r) (vw 6 I n) (vw 12 I m))) m (gV_X8_openAt L (vw 1 I o) (vw 1 I g) (vw 2 I r) (vw 6 I n) (vw 12 I m)), J)) := by
  have h := s_X8_openAt hO hH hP hN hM d_OH d_OP d_OU d_OV d_HP d_HU d_HV d_PU d_PV d_UV I (vw 1 I o) (vw 1 I g) (vw 2 I r) (vw 6 I n) (vw 12 I m)
  simp only [pt_vw, pt_k1 d_HP, pt_k1 d_HU] at h
  exact h
theorem t_X8_closeHandle {J : MJ} {o n m g z : Nat} (hO : WorL J o n m g z) (hH : HanL J g) (hM : MemL J m n) (d_OH : o + 1 ≤ g ∨ g + 1 ≤ o) (d_OV : o + 1 ≤ m ∨ m + 12 ≤ o) (d_HV : g + 1 ≤ m ∨ m + 12 ≤ g) (I : MI) (x1 : Int32) : M_X8_closeHandle [mR (some o), mI x1] (I, J) = some (none, (pt (pt I g (gH_X8_closeHandle (vw 1 I o) (vw 1 I g) (vw 12 I m) x1)) m (gV_X8_closeHandle (vw 1 I o) (vw 1 I g) (vw 12 I m) x1), J)) := by
  have h := s_X8_closeHandle hO hH hM d_OH d_OV d_HV I (vw 1 I o) (vw 1 I g) (vw 12 I m) x1
  simp only [pt_vw] at h
  exact h
theorem t_X8_gapIn {J : MJ} {o n m g z r L : Nat} (hO : WorL J o n m g z) (hP : RouL J r L) (hN : NodL J n) (hM : MemL J m n) (d_OP : o + 1 ≤ r ∨ r + 2 ≤ o) (d_OU : o + 1 ≤ n ∨ n + 6 ≤ o) (d_OV : o + 1 ≤ m ∨ m + 12 ≤ o) (d_PU : r + 2 ≤ n ∨ n + 6 ≤ r) (d_PV : r + 2 ≤ m ∨ m + 12 ≤ r) (d_UV : n + 6 ≤ m ∨ m + 12 ≤ n) (I : MI) (x1 : Int32) : M_X8_gapIn [mR (some o), mI x1, mR (some r)] (I, J) = some (some (mI (q_X8_gapIn L (vw 1 I o) (vw 2 I r) (vw 6 I n) (vw 12 I m) x1)), (pt I m (gV_X8_gapIn L (vw 1 I o) (vw 2 I r) (vw 6 I n) (vw 12 I m) x1), J)) := by
  have h := s_X8_gapIn hO hP hN hM d_OP d_OU d_OV d_PU d_PV d_UV I (vw 1 I o) (vw 2 I r) (vw 6 I n) (vw 12 I m) x1
  simp only [pt_vw] at h
  exact h
theorem t_X8_makeAt {J : MJ} {o n m g z r L : Nat} (hO : WorL J o n m g z) (hP : RouL J r L) (hN : NodL J n) (hM : MemL J m n) (d_OP : o + 1 ≤ r ∨ r + 2 ≤ o) (d_OU : o + 1 ≤ n ∨ n + 6 ≤ o) (d_OV : o + 1 ≤ m ∨ m + 12 ≤ o) (d_PU : r + 2 ≤ n ∨ n + 6 ≤ r) (d_PV : r + 2 ≤ m ∨ m + 12 ≤ r) (d_UV : n + 6 ≤ m ∨ m + 12 ≤ n) (I : MI) (x2 : Int32) : M_X8_makeAt [mR (some o), mR (some r), mI x2] (I, J) = some (some (mI (q_X8_makeAt L (vw 1 I o) (vw 2 I r) (vw 6 I n) (vw 12 I m) x2)), (pt (pt I n (gU_X8_makeAt L (vw 1 I o) (vw 2 I r) (vw 6 I n) (vw 12 I m) x2)) m (gV_X8_makeAt L (vw 1 I o) (vw 2 I r) (vw 6 I n) (vw 12 I m) x2), J)) := by
  have h := s_X8_makeAt hO hP hN hM d_OP d_OU d_OV d_PU d_PV d_UV I (vw 1 I o) (vw 2 I r) (vw 6 I n) (vw 12 I m) x2
  simp only [pt_vw] at h
  exact h
theorem t_X8_removeAt {J : MJ} {o n m g z r L : Nat} (hO : WorL J o n m g z) (hP : RouL J r L) (hN : NodL J n) (hM : MemL J m n) (d_OP : o + 1 ≤ r ∨ r + 2 ≤ o) (d_OU : o + 1 ≤ n ∨ n + 6 ≤ o) (d_OV : o + 1 ≤ m ∨ m + 12 ≤ o) (d_PU : r + 2 ≤ n ∨ n + 6 ≤ r) (d_PV : r + 2 ≤ m ∨ m + 12 ≤ r) (d_UV : n + 6 ≤ m ∨ m + 12 ≤ n) (I : MI) : M_X8_removeAt [mR (some o), mR (some r)] (I, J) = some (some (mI (q_X8_removeAt L (vw 1 I o) (vw 2 I r) (vw 6 I n) (vw 12 I m))), (pt (pt I n (gU_X8_removeAt L (vw 1 I o) (vw 2 I r) (vw 6 I n) (vw 12 I m))) m (gV_X8_removeAt L (vw 1 I o) (vw 2 I r) (vw 6 I n) (vw 12 I m)), J)) := by
  have h := s_X8_removeAt hO hP hN hM d_OP d_OU d_OV d_PU d_PV d_UV I (vw 1 I o) (vw 2 I r) (vw 6 I n) (vw 12 I m)
  simp only [pt_vw] at h
  exact h
theorem t_X8_canTake {J : MJ} {o n m g z : Nat} (hO : WorL J o n m g z) (hN : NodL J n) (hM : MemL J m n) (d_OU : o + 1 ≤ n ∨ n + 6 ≤ o) (d_OV : o + 1 ≤ m ∨ m + 12 ≤ o) (d_UV : n + 6 ≤ m ∨ m + 12 ≤ n) (I : MI) (x1 : Int32) (x2 : Int32) : M_X8_canTake [mR (some o), mI x1, mI x2] (I, J) = some (some (mI (q_X8_canTake (vw 1 I o) (vw 6 I n) (vw 12 I m) x1 x2)), (I, J)) := by
  have h := s_X8_canTake hO hN hM d_OU d_OV d_UV I (vw 1 I o) (vw 6 I n) (vw 12 I m) x1 x2
  simp only [pt_vw] at h
  exact h
theorem t_X8_renameTo {J : MJ} {o n m g z r2 L2 r L : Nat} (hO : WorL J o n m g z) (hP2 : RouL J r2 L2) (hP : RouL J r L) (hN : NodL J n) (hM : MemL J m n) (d_OP2 : o + 1 ≤ r2 ∨ r2 + 2 ≤ o) (d_OP : o + 1 ≤ r ∨ r + 2 ≤ o) (d_OU : o + 1 ≤ n ∨ n + 6 ≤ o) (d_OV : o + 1 ≤ m ∨ m + 12 ≤ o) (d_P2P : r2 + 2 ≤ r ∨ r + 2 ≤ r2) (d_P2U : r2 + 2 ≤ n ∨ n + 6 ≤ r2) (d_P2V : r2 + 2 ≤ m ∨ m + 12 ≤ r2) (d_PU : r + 2 ≤ n ∨ n + 6 ≤ r) (d_PV : r + 2 ≤ m ∨ m + 12 ≤ r) (d_UV : n + 6 ≤ m ∨ m + 12 ≤ n) (I : MI) : M_X8_renameTo [mR (some o), mR (some r), mR (some r2)] (I, J) = some (some (mI (q_X8_renameTo L2 L (vw 1 I o) (vw 2 I r2) (vw 2 I r) (vw 6 I n) (vw 12 I m))), (pt (pt I n (gU_X8_renameTo L2 L (vw 1 I o) (vw 2 I r2) (vw 2 I r) (vw 6 I n) (vw 12 I m))) m (gV_X8_renameTo L2 L (vw 1 I o) (vw 2 I r2) (vw 2 I r) (vw 6 I n) (vw 12 I m)), J)) := by
  have h := s_X8_renameTo hO hP2 hP hN hM d_OP2 d_OP d_OU d_OV d_P2P d_P2U d_P2V d_PU d_PV d_UV I (vw 1 I o) (vw 2 I r2) (vw 2 I r) (vw 6 I n) (vw 12 I m)
  simp only [pt_vw] at h
  exact h
theorem t_X8_mountAt {J : MJ} {o n m g z r L : Nat} (hO : WorL J o n m g z) (hP : RouL J r L) (hN : NodL J n) (hM : MemL J m n) (d_OP : o + 1 ≤ r ∨ r + 2 ≤ o) (d_OU : o + 1 ≤ n ∨ n + 6 ≤ o) (d_OV : o + 1 ≤ m ∨ m + 12 ≤ o) (d_PU : r + 2 ≤ n ∨ n + 6 ≤ r) (d_PV : r + 2 ≤ m ∨ m + 12 ≤ r) (d_UV : n + 6 ≤ m ∨ m + 12 ≤ n) (I : MI) (x2 : Int32) : M_X8_mountAt [mR (some o), mR (some r), mI x2] (I, J) = some (some (mI (q_X8_mountAt L (vw 1 I o) (vw 2 I r) (vw 6 I n) (vw 12 I m) x2)), (pt I m (gV_X8_mountAt L (vw 1 I o) (vw 2 I r) (vw 6 I n) (vw 12 I m) x2), J)) := by
  have h := s_X8_mountAt hO hP hN hM d_OP d_OU d_OV d_PU d_PV d_UV I (vw 1 I o) (vw 2 I r) (vw 6 I n) (vw 12 I m) x2
  simp only [pt_vw] at h
  exact h
theorem t_X8_isReachable {J : MJ} {o n m g z : Nat} (hO : WorL J o n m g z) (hN : NodL J n) (hM : MemL J m n) (d_OU : o + 1 ≤ n ∨ n + 6 ≤ o) (d_OV : o + 1 ≤ m ∨ m + 12 ≤ o) (d_UV : n + 6 ≤ m ∨ m + 12 ≤ n) (I : MI) (x1 : Int32) : M_X8_isReachable [mR (some o), mI x1] (I, J) = some (some (mI (q_X8_isReachable (vw 1 I o) (vw 6 I n) (vw 12 I m) x1)), (I, J)) := by
  have h := s_X8_isReachable hO hN hM d_OU d_OV d_UV I (vw 1 I o) (vw 6 I n) (vw 12 I m) x1
  simp only [pt_vw] at h
  exact h
theorem t_X8_mountedNodes {J : MJ} {o n m g z : Nat} (hO : WorL J o n m g z) (hN : NodL J n) (hM : MemL J m n) (d_OU : o + 1 ≤ n ∨ n + 6 ≤ o) (d_OV : o + 1 ≤ m ∨ m + 12 ≤ o) (d_UV : n + 6 ≤ m ∨ m + 12 ≤ n) (I : MI) : M_X8_mountedNodes [mR (some o)] (I, J) = some (some (mI (q_X8_mountedNodes (vw 1 I o) (vw 6 I n) (vw 12 I m))), (I, J)) := by
  have h := s_X8_mountedNodes hO hN hM d_OU d_OV d_UV I (vw 1 I o) (vw 6 I n) (vw 12 I m)
  simp only [pt_vw] at h
  exact h
theorem t_X8_mountedNode {J : MJ} {o n m g z : Nat} (hO : WorL J o n m g z) (hN : NodL J n) (hM : MemL J m n) (d_OU : o + 1 ≤ n ∨ n + 6 ≤ o) (d_OV : o + 1 ≤ m ∨ m + 12 ≤ o) (d_UV : n + 6 ≤ m ∨ m + 12 ≤ n) (I : MI) (x1 : Int32) : M_X8_mountedNode [mR (some o), mI x1] (I, J) = some (some (mI (q_X8_mountedNode (vw 1 I o) (vw 6 I n) (vw 12 I m) x1)), (I, J)) := by
  have h := s_X8_mountedNode hO hN hM d_OU d_OV d_UV I (vw 1 I o) (vw 6 I n) (vw 12 I m) x1
  simp only [pt_vw] at h
  exact h
theorem t_X8_routeTo {J : MJ} {o n m g z r L : Nat} (hO : WorL J o n m g z) (hP : RouL J r L) (hN : NodL J n) (hM : MemL J m n) (d_OP : o + 1 ≤ r ∨ r + 2 ≤ o) (d_OU : o + 1 ≤ n ∨ n + 6 ≤ o) (d_OV : o + 1 ≤ m ∨ m + 12 ≤ o) (d_PU : r + 2 ≤ n ∨ n + 6 ≤ r) (d_PV : r + 2 ≤ m ∨ m + 12 ≤ r) (d_UV : n + 6 ≤ m ∨ m + 12 ≤ n) (I : MI) (x1 : Int32) : M_X8_routeTo [mR (some o), mI x1, mR (some r)] (I, J) = some (none, (pt I r (gP_X8_routeTo L (vw 1 I o) (vw 2 I r) (vw 6 I n) (vw 12 I m) x1), J)) := by
  have h := s_X8_routeTo hO hP hN hM d_OP d_OU d_OV d_PU d_PV d_UV I (vw 1 I o) (vw 2 I r) (vw 6 I n) (vw 12 I m) x1
  simp only [pt_vw, pt_k1 d_PU, pt_k1 d_PV] at h
  exact h
theorem t_X3_fail {J : MJ} {e n : Nat} (hE : RdrL J e n) (I : MI) (x1 : Int32) (x2 : Int32) : M_X3_fail [mR (some e), mI x1, mI x2] (I, J) = some (some (mI (q_X3_fail (vw 1 I e) x1 x2)), (pt I e (gE_X3_fail (vw 1 I e) x1 x2), J)) := by
  have h := s_X3_fail hE I (vw 1 I e) x1 x2
  simp only [pt_vw] at h
  exact h
theorem t_X3_openFolder {J : MJ} {e n : Nat} (hE : RdrL J e n) (hN : NodL J n) (d_EU : e + 1 ≤ n ∨ n + 6 ≤ e) (I : MI) (x1 : Int32) : M_X3_openFolder [mR (some e), mI x1] (I, J) = some (some (mI (q_X3_openFolder (vw 1 I e) (vw 6 I n) x1)), (pt (pt I e (gE_X3_openFolder (vw 1 I e) (vw 6 I n) x1)) n (gU_X3_openFolder (vw 1 I e) (vw 6 I n) x1), J)) := by
  have h := s_X3_openFolder hE hN d_EU I (vw 1 I e) (vw 6 I n) x1
  simp only [pt_vw] at h
  exact h
theorem t_X3_readOutside {J : MJ} {e n : Nat} (hE : RdrL J e n) (hN : NodL J n) (d_EU : e + 1 ≤ n ∨ n + 6 ≤ e) (I : MI) (x1 : Int32) : M_X3_readOutside [mR (some e), mI x1] (I, J) = some (some (mI (q_X3_readOutside (vw 1 I e) (vw 6 I n) x1)), (pt (pt I e (gE_X3_readOutside (vw 1 I e) (vw 6 I n) x1)) n (gU_X3_readOutside (vw 1 I e) (vw 6 I n) x1), J)) := by
  have h := s_X3_readOutside hE hN d_EU I (vw 1 I e) (vw 6 I n) x1
  simp only [pt_vw] at h
  exact h
theorem t_X3_readItem {J : MJ} {e n t : Nat} (hE : RdrL J e n) (hT : TapL J t) (hN : NodL J n) (d_EQ : e + 1 ≤ t ∨ t + 2 ≤ e) (d_EU : e + 1 ≤ n ∨ n + 6 ≤ e) (d_QU : t + 2 ≤ n ∨ n + 6 ≤ t) (I : MI) : M_X3_readItem [mR (some e), mR (some t)] (I, J) = some (some (mI (q_X3_readItem (vw 1 I e) (vw 2 I t) (vw 6 I n))), (pt (pt I e (gE_X3_readItem (vw 1 I e) (vw 2 I t) (vw 6 I n))) n (gU_X3_readItem (vw 1 I e) (vw 2 I t) (vw 6 I n)), J)) := by
  have h := s_X3_readItem hE hT hN d_EQ d_EU d_QU I (vw 1 I e) (vw 2 I t) (vw 6 I n)
  simp only [pt_vw, pt_k1 d_EQ] at h
  exact h
theorem t_X3_readInside {J : MJ} {e n t : Nat} (hE : RdrL J e n) (hT : TapL J t) (hN : NodL J n) (d_EQ : e + 1 ≤ t ∨ t + 2 ≤ e) (d_EU : e + 1 ≤ n ∨ n + 6 ≤ e) (d_QU : t + 2 ≤ n ∨ n + 6 ≤ t) (I : MI) (x2 : Int32) : M_X3_readInside [mR (some e), mR (some t), mI x2] (I, J) = some (some (mI (q_X3_readInside (vw 1 I e) (vw 2 I t) (vw 6 I n) x2)), (pt (pt I e (gE_X3_readInside (vw 1 I e) (vw 2 I t) (vw 6 I n) x2)) n (gU_X3_readInside (vw 1 I e) (vw 2 I t) (vw 6 I n) x2), J)) := by
  have h := s_X3_readInside hE hT hN d_EQ d_EU d_QU I (vw 1 I e) (vw 2 I t) (vw 6 I n) x2
  simp only [pt_vw, pt_k1 d_EQ] at h
  exact h
theorem t_X3_readTrees {J : MJ} {e n t : Nat} (hE : RdrL J e n) (hT : TapL J t) (hN : NodL J n) (d_EQ : e + 1 ≤ t ∨ t + 2 ≤ e) (d_EU : e + 1 ≤ n ∨ n + 6 ≤ e) (d_QU : t + 2 ≤ n ∨ n + 6 ≤ t) (I : MI) : M_X3_readTrees [mR (some e), mR (some t)] (I, J) = some (some (mI (q_X3_readTrees (vw 1 I e) (vw 2 I t) (vw 6 I n))), (pt (pt I e (gE_X3_readTrees (vw 1 I e) (vw 2 I t) (vw 6 I n))) n (gU_X3_readTrees (vw 1 I e) (vw 2 I t) (vw 6 I n)), J)) := by
  have h := s_X3_readTrees hE hT hN d_EQ d_EU d_QU I (vw 1 I e) (vw 2 I t) (vw 6 I n)
  simp only [pt_vw, pt_k1 d_EQ] at h
  exact h
