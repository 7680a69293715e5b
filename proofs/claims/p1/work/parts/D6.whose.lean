/-! Whose the reference is. Written by wip/gen/law.py. -/
theorem kq_feed {s : MH} {x0 x1 x2 x3 x4 : Int32} {r : MO} (h : M_X10_feed [mR (some 188), mI x0, mI x1, mI x2, mI x3, mI x4] s = some r) : kd s 188 = 10 := by
  rw [E_X10_feed] at h
  by_cases k : kd s 188 = 10
  · exact k
  · exfalso
    simp [fI, fZ, wL, k] at h
theorem kq_end {s : MH} {x0 : Int32} {r : MO} (h : M_X10_end [mR (some 188), mI x0] s = some r) : kd s 188 = 10 := by
  rw [E_X10_end] at h
  by_cases k : kd s 188 = 10
  · exact k
  · exfalso
    simp [fI, fZ, wL, k] at h
theorem kq_trees {s : MH} {r : MO} (h : M_X10_trees [mR (some 188)] s = some r) : kd s 188 = 10 := by
  rw [E_X10_trees] at h
  by_cases k : kd s 188 = 10
  · exact k
  · exfalso
    simp [fI, fZ, wL, k] at h
theorem kq_node {s : MH} {x0 x1 : Int32} {r : MO} (h : M_X10_node [mR (some 188), mI x0, mI x1] s = some r) : kd s 188 = 10 := by
  rw [E_X10_node] at h
  by_cases k : kd s 188 = 10
  · exact k
  · exfalso
    simp [fI, fZ, wL, k] at h
theorem kq_entry {s : MH} {x0 x1 : Int32} {r : MO} (h : M_X10_entry [mR (some 188), mI x0, mI x1] s = some r) : kd s 188 = 10 := by
  rw [E_X10_entry] at h
  by_cases k : kd s 188 = 10
  · exact k
  · exfalso
    simp [fI, fZ, wL, k] at h
theorem kq_child {s : MH} {x0 : Int32} {r : MO} (h : M_X10_child [mR (some 188), mI x0] s = some r) : kd s 188 = 10 := by
  rw [E_X10_child] at h
  by_cases k : kd s 188 = 10
  · exact k
  · exfalso
    simp [fI, fZ, wL, k] at h
theorem kq_walker {s : MH} {x0 x1 : Int32} {r : MO} (h : M_X10_walker [mR (some 188), mI x0, mI x1] s = some r) : kd s 188 = 10 := by
  rw [E_X10_walker] at h
  by_cases k : kd s 188 = 10
  · exact k
  · exfalso
    simp [fI, fZ, wL, k] at h
theorem kq_handle {s : MH} {x0 : Int32} {r : MO} (h : M_X10_handle [mR (some 188), mI x0] s = some r) : kd s 188 = 10 := by
  rw [E_X10_handle] at h
  by_cases k : kd s 188 = 10
  · exact k
  · exfalso
    simp [fI, fZ, wL, k] at h
theorem kq_where {s : MH} {r : MO} (h : M_X10_where [mR (some 188)] s = some r) : kd s 188 = 10 := by
  rw [E_X10_where] at h
  by_cases k : kd s 188 = 10
  · exact k
  · exfalso
    simp [fI, fZ, wL, k] at h
theorem kq_needs {s : MH} {r : MO} (h : M_X10_needs [mR (some 188)] s = some r) : kd s 188 = 10 := by
  rw [E_X10_needs] at h
  by_cases k : kd s 188 = 10
  · exact k
  · exfalso
    simp [fI, fZ, wL, k] at h
theorem kq_victim {s : MH} {x0 : Int32} {r : MO} (h : M_X10_victim [mR (some 188), mI x0] s = some r) : kd s 188 = 10 := by
  rw [E_X10_victim] at h
  by_cases k : kd s 188 = 10
  · exact k
  · exfalso
    simp [fI, fZ, wL, k] at h
theorem kq_path {s : MH} {x0 : Int32} {r : MO} (h : M_X10_path [mR (some 188), mI x0] s = some r) : kd s 188 = 10 := by
  rw [E_X10_path] at h
  by_cases k : kd s 188 = 10
  · exact k
  · exfalso
    simp [fI, fZ, wL, k] at h
theorem kq_look {s : MH} {r : MO} (h : M_X10_look [mR (some 188)] s = some r) : kd s 188 = 10 := by
  rw [E_X10_look] at h
  by_cases k : kd s 188 = 10
  · exact k
  · exfalso
    simp [fI, fZ, wL, k] at h
theorem kq_make {s : MH} {x0 : Int32} {r : MO} (h : M_X10_make [mR (some 188), mI x0] s = some r) : kd s 188 = 10 := by
  rw [E_X10_make] at h
  by_cases k : kd s 188 = 10
  · exact k
  · exfalso
    simp [fI, fZ, wL, k] at h
theorem kq_remove {s : MH} {r : MO} (h : M_X10_remove [mR (some 188)] s = some r) : kd s 188 = 10 := by
  rw [E_X10_remove] at h
  by_cases k : kd s 188 = 10
  · exact k
  · exfalso
    simp [fI, fZ, wL, k] at h
theorem kq_rename {s : MH} {r : MO} (h : M_X10_rename [mR (some 188)] s = some r) : kd s 188 = 10 := by
  rw [E_X10_rename] at h
  by_cases k : kd s 188 = 10
  · exact k
  · exfalso
    simp [fI, fZ, wL, k] at h
theorem kq_open {s : MH} {r : MO} (h : M_X10_open [mR (some 188)] s = some r) : kd s 188 = 10 := by
  rw [E_X10_open] at h
  by_cases k : kd s 188 = 10
  · exact k
  · exfalso
    simp [fI, fZ, wL, k] at h
theorem kq_close {s : MH} {x0 : Int32} {r : MO} (h : M_X10_close [mR (some 188), mI x0] s = some r) : kd s 188 = 10 := by
  rw [E_X10_close] at h
  by_cases k : kd s 188 = 10
  · exact k
  · exfalso
    simp [fI, fZ, wL, k] at h
theorem kq_mount {s : MH} {x0 : Int32} {r : MO} (h : M_X10_mount [mR (some 188), mI x0] s = some r) : kd s 188 = 10 := by
  rw [E_X10_mount] at h
  by_cases k : kd s 188 = 10
  · exact k
  · exfalso
    simp [fI, fZ, wL, k] at h
theorem kq_unmount {s : MH} {x0 : Int32} {r : MO} (h : M_X10_unmount [mR (some 188), mI x0] s = some r) : kd s 188 = 10 := by
  rw [E_X10_unmount] at h
  by_cases k : kd s 188 = 10
  · exact k
  · exfalso
    simp [fI, fZ, wL, k] at h
theorem kq_trim {s : MH} {x0 : Int32} {r : MO} (h : M_X10_trim [mR (some 188), mI x0] s = some r) : kd s 188 = 10 := by
  rw [E_X10_trim] at h
  by_cases k : kd s 188 = 10
  · exact k
  · exfalso
    simp [fI, fZ, wL, k] at h
theorem kq_room {s : MH} {x0 : Int32} {r : MO} (h : M_X10_room [mR (some 188), mI x0] s = some r) : kd s 188 = 10 := by
  rw [E_X10_room] at h
  by_cases k : kd s 188 = 10
  · exact k
  · exfalso
    simp [fI, fZ, wL, k] at h
theorem kq_chance {s : MH} {x0 : Int32} {r : MO} (h : M_X10_chance [mR (some 188), mI x0] s = some r) : kd s 188 = 10 := by
  rw [E_X10_chance] at h
  by_cases k : kd s 188 = 10
  · exact k
  · exfalso
    simp [fI, fZ, wL, k] at h
theorem kq_begin {s : MH} {r : MO} (h : M_X10_begin [mR (some 188)] s = some r) : kd s 188 = 10 := by
  rw [E_X10_begin] at h
  by_cases k : kd s 188 = 10
  · exact k
  · exfalso
    simp [fI, fZ, wL, k] at h
theorem kq_step {s : MH} {x0 : Int32} {r : MO} (h : M_X10_step [mR (some 188), mI x0] s = some r) : kd s 188 = 10 := by
  rw [E_X10_step] at h
  by_cases k : kd s 188 = 10
  · exact k
  · exfalso
    simp [fI, fZ, wL, k] at h
theorem kq_result {s : MH} {x0 : Int32} {r : MO} (h : M_X10_result [mR (some 188), mI x0] s = some r) : kd s 188 = 10 := by
  rw [E_X10_result] at h
  by_cases k : kd s 188 = 10
  · exact k
  · exfalso
    simp [fI, fZ, wL, k] at h
theorem kq_quit {s : MH} {x0 : Int32} {r : MO} (h : M_X10_quit [mR (some 188), mI x0] s = some r) : kd s 188 = 10 := by
  rw [E_X10_quit] at h
  by_cases k : kd s 188 = 10
  · exact k
  · exfalso
    simp [fI, fZ, wL, k] at h
theorem kq_trace {s : MH} {r : MO} (h : M_X10_trace [mR (some 188)] s = some r) : kd s 188 = 10 := by
  rw [E_X10_trace] at h
  by_cases k : kd s 188 = 10
  · exact k
  · exfalso
    simp [fI, fZ, wL, k] at h
theorem kq_loads {s : MH} {x0 : Int32} {r : MO} (h : M_X10_loads [mR (some 188), mI x0] s = some r) : kd s 188 = 10 := by
  rw [E_X10_loads] at h
  by_cases k : kd s 188 = 10
  · exact k
  · exfalso
    simp [fI, fZ, wL, k] at h
theorem kq_least {s : MH} {x0 : Int32} {r : MO} (h : M_X10_least [mR (some 188), mI x0] s = some r) : kd s 188 = 10 := by
  rw [E_X10_least] at h
  rw [E_X10_least_2, if_neg (show ¬ (40 : Int32) < 4 by decide)] at h
  by_cases k : kd s 188 = 10
  · exact k
  · exfalso
    simp [fI, fZ, wL, k] at h
theorem kq_see {s : MH} {x0 : Int32} {r : MO} (h : M_X10_see [mR (some 188), mI x0] s = some r) : kd s 188 = 10 := by
  rw [E_X10_see] at h
  by_cases k : kd s 188 = 10
  · exact k
  · exfalso
    simp [fI, fZ, wL, k] at h
theorem kq_fits {s : MH} {x0 : Int32} {r : MO} (h : M_X10_fits [mR (some 188), mI x0] s = some r) : kd s 188 = 10 := by
  rw [E_X10_fits] at h
  by_cases k : kd s 188 = 10
  · exact k
  · exfalso
    simp [fI, fZ, wL, k] at h
theorem kq_tells {s : MH} {x0 : Int32} {r : MO} (h : M_X10_tells [mR (some 188), mI x0] s = some r) : kd s 188 = 10 := by
  rw [E_X10_tells] at h
  by_cases k : kd s 188 = 10
  · exact k
  · exfalso
    simp [fI, fZ, wL, k] at h
theorem kq_undo {s : MH} {r : MO} (h : M_X10_undo [mR (some 188)] s = some r) : kd s 188 = 10 := by
  rw [E_X10_undo] at h
  by_cases k : kd s 188 = 10
  · exact k
  · exfalso
    simp [fI, fZ, wL, k] at h
theorem kq_seed {s : MH} {x0 : Int32} {r : MO} (h : M_X10_seed [mR (some 188), mI x0] s = some r) : kd s 188 = 10 := by
  rw [E_X10_seed] at h
  by_cases k : kd s 188 = 10
  · exact k
  · exfalso
    simp [fI, fZ, wL, k] at h
theorem St.room {I : MI} {J : MJ} {T B0 : Nat} (h : St I J T B0) : jC J ≤ 1108 ∧ jB J ≤ B0 + 23860 := by
  have : ∃ ad, Rm J ad B0 := by
    rcases h.2.2.2.2.2.2.2.2.2 with ⟨vol, ad, q, r, _, _, _, hs⟩ | ⟨_, _, _, _, ad, q, hs⟩
    · exact ⟨ad, hs.2.2.2.1⟩
    · exact ⟨ad, hs.2.2.2.1⟩
  obtain ⟨ad, r1, r2⟩ := this
  have := cnt_le (fun s => (ad s).isSome) 20 0
  rw [r1, r2]
  omega
/-- a pair, with whose the reference is -/
def Pk (I : MI) (J : MJ) (T B0 : Nat) (f g : MH → Option MO) (v w : Int32) (s1 : MH) (I2 : MI) (J2 : MJ) : Prop := f (I, J) = some (some (mI v), s1) ∧ g s1 = some (some (mI w), (I2, J2)) ∧ St I2 J2 (T + 10001) B0 ∧ kd s1 188 = 10
theorem pq_feed {I : MI} {J : MJ} {T B0 : Nat} (h : St I J T B0) (h30 : T + 10001 ≤ 1000000000) (x0 x1 x2 x3 x4 : Int32) : ∃ v s1 I2 J2, Pk I J T B0 (M_X9_feed [mR (some 0), mI x0, mI x1, mI x2, mI x3, mI x4]) (M_X10_feed [mR (some 188), mI x0, mI x1, mI x2, mI x3, mI x4]) v v s1 I2 J2 := by
  obtain ⟨v, s1, I2, J2, a, b, c⟩ := P_feed h h30 x0 x1 x2 x3 x4
  exact ⟨v, s1, I2, J2, a, b, c, kq_feed b⟩
theorem pq_end {I : MI} {J : MJ} {T B0 : Nat} (h : St I J T B0) (h30 : T + 10001 ≤ 1000000000) (x0 : Int32) : ∃ v s1 I2 J2, Pk I J T B0 (M_X9_end [mR (some 0), mI x0]) (M_X10_end [mR (some 188), mI x0]) v v s1 I2 J2 := by
  obtain ⟨v, s1, I2, J2, a, b, c⟩ := P_end h h30 x0
  exact ⟨v, s1, I2, J2, a, b, c, kq_end b⟩
theorem pq_trees {I : MI} {J : MJ} {T B0 : Nat} (h : St I J T B0) (h30 : T + 10001 ≤ 1000000000) : ∃ v s1 I2 J2, Pk I J T B0 (M_X9_trees [mR (some 0)]) (M_X10_trees [mR (some 188)]) v v s1 I2 J2 := by
  obtain ⟨v, s1, I2, J2, a, b, c⟩ := P_trees h h30
  exact ⟨v, s1, I2, J2, a, b, c, kq_trees b⟩
theorem pq_fault {I : MI} {J : MJ} {T B0 : Nat} (h : St I J T B0) (h30 : T + 10001 ≤ 1000000000) (x0 : Int32) (e1 : I 9 1 = I 188 6) (e2 : I 9 2 = I 188 7) : ∃ v s1 I2 J2, Pk I J T B0 (M_X9_fault [mR (some 0), mI x0]) (M_X10_fault [mR (some 188), mI x0]) v v s1 I2 J2 := by
  obtain ⟨v, s1, I2, J2, a, b, c⟩ := P_fault h h30 x0 e1 e2
  have u := u_fault h.1.1 I x0
  rw [u] at a
  have e := congrArg (fun o : Option MO => o.map (fun q => q.2)) a
  simp only [Option.map_some, Option.some.injEq] at e
  exact ⟨v, s1, I2, J2, by rw [u]; exact a, b, c, by rw [← e]; exact h.1.2.k⟩
theorem pw_fault {I : MI} {J : MJ} {T B0 : Nat} (h : St I J T B0) (h30 : T + 10001 ≤ 1000000000) (x0 : Int32) : ∃ v w s1 I2 J2, Pk I J T B0 (M_X9_fault [mR (some 0), mI x0]) (M_X10_fault [mR (some 188), mI x0]) v w s1 I2 J2 :=
  ⟨_, _, _, I, J, u_fault h.1.1 I x0, w_fault h.1.2 I x0, h.mono (by omega) h30, h.1.2.k⟩
theorem pq_has {I : MI} {J : MJ} {T B0 : Nat} (h : St I J T B0) (h30 : T + 10001 ≤ 1000000000) (x0 : Int32) : ∃ v s1 I2 J2, Pk I J T B0 (M_X9_has [mR (some 0), mI x0]) (M_X10_has [mR (some 188), mI x0]) v v s1 I2 J2 := by
  obtain ⟨v, s1, I2, J2, a, b, c⟩ := P_has h h30 x0
  have u := u_has h.1.1 I x0
  rw [u] at a
  have e := congrArg (fun o : Option MO => o.map (fun q => q.2)) a
  simp only [Option.map_some, Option.some.injEq] at e
  exact ⟨v, s1, I2, J2, by rw [u]; exact a, b, c, by rw [← e]; exact h.1.2.k⟩
theorem pq_node {I : MI} {J : MJ} {T B0 : Nat} (h : St I J T B0) (h30 : T + 10001 ≤ 1000000000) (x0 x1 : Int32) : ∃ v s1 I2 J2, Pk I J T B0 (M_X9_node [mR (some 0), mI x0, mI x1]) (M_X10_node [mR (some 188), mI x0, mI x1]) v v s1 I2 J2 := by
  obtain ⟨v, s1, I2, J2, a, b, c⟩ := P_node h h30 x0 x1
  exact ⟨v, s1, I2, J2, a, b, c, kq_node b⟩
theorem pq_letter {I : MI} {J : MJ} {T B0 : Nat} (h : St I J T B0) (h30 : T + 10001 ≤ 1000000000) (x0 x1 x2 : Int32) : ∃ v s1 I2 J2, Pk I J T B0 (M_X9_letter [mR (some 0), mI x0, mI x1, mI x2]) (M_X10_letter [mR (some 188), mI x0, mI x1, mI x2]) v v s1 I2 J2 := by
  obtain ⟨v, s1, I2, J2, a, b, c⟩ := P_letter h h30 x0 x1 x2
  have u := u_letter h.1.1 I x0 x1 x2
  rw [u] at a
  have e := congrArg (fun o : Option MO => o.map (fun q => q.2)) a
  simp only [Option.map_some, Option.some.injEq] at e
  exact ⟨v, s1, I2, J2, by rw [u]; exact a, b, c, by rw [← e]; exact h.1.2.k⟩
theorem pq_entry {I : MI} {J : MJ} {T B0 : Nat} (h : St I J T B0) (h30 : T + 10001 ≤ 1000000000) (x0 x1 : Int32) : ∃ v s1 I2 J2, Pk I J T B0 (M_X9_entry [mR (some 0), mI x0, mI x1]) (M_X10_entry [mR (some 188), mI x0, mI x1]) v v s1 I2 J2 := by
  obtain ⟨v, s1, I2, J2, a, b, c⟩ := P_entry h h30 x0 x1
  exact ⟨v, s1, I2, J2, a, b, c, kq_entry b⟩
theorem pq_child {I : MI} {J : MJ} {T B0 : Nat} (h : St I J T B0) (h30 : T + 10001 ≤ 1000000000) (x0 : Int32) : ∃ v s1 I2 J2, Pk I J T B0 (M_X9_child [mR (some 0), mI x0]) (M_X10_child [mR (some 188), mI x0]) v v s1 I2 J2 := by
  obtain ⟨v, s1, I2, J2, a, b, c⟩ := P_child h h30 x0
  exact ⟨v, s1, I2, J2, a, b, c, kq_child b⟩
theorem pq_walker {I : MI} {J : MJ} {T B0 : Nat} (h : St I J T B0) (h30 : T + 10001 ≤ 1000000000) (x0 x1 : Int32) : ∃ v s1 I2 J2, Pk I J T B0 (M_X9_walker [mR (some 0), mI x0, mI x1]) (M_X10_walker [mR (some 188), mI x0, mI x1]) v v s1 I2 J2 := by
  obtain ⟨v, s1, I2, J2, a, b, c⟩ := P_walker h h30 x0 x1
  exact ⟨v, s1, I2, J2, a, b, c, kq_walker b⟩
theorem pq_handle {I : MI} {J : MJ} {T B0 : Nat} (h : St I J T B0) (h30 : T + 10001 ≤ 1000000000) (x0 : Int32) : ∃ v s1 I2 J2, Pk I J T B0 (M_X9_handle [mR (some 0), mI x0]) (M_X10_handle [mR (some 188), mI x0]) v v s1 I2 J2 := by
  obtain ⟨v, s1, I2, J2, a, b, c⟩ := P_handle h h30 x0
  exact ⟨v, s1, I2, J2, a, b, c, kq_handle b⟩
theorem pq_where {I : MI} {J : MJ} {T B0 : Nat} (h : St I J T B0) (h30 : T + 10001 ≤ 1000000000) : ∃ v s1 I2 J2, Pk I J T B0 (M_X9_where [mR (some 0)]) (M_X10_where [mR (some 188)]) v v s1 I2 J2 := by
  obtain ⟨v, s1, I2, J2, a, b, c⟩ := P_where h h30
  exact ⟨v, s1, I2, J2, a, b, c, kq_where b⟩
theorem pq_needs {I : MI} {J : MJ} {T B0 : Nat} (h : St I J T B0) (h30 : T + 10001 ≤ 1000000000) : ∃ v s1 I2 J2, Pk I J T B0 (M_X9_needs [mR (some 0)]) (M_X10_needs [mR (some 188)]) v v s1 I2 J2 := by
  obtain ⟨v, s1, I2, J2, a, b, c⟩ := P_needs h h30
  exact ⟨v, s1, I2, J2, a, b, c, kq_needs b⟩
theorem pq_victim {I : MI} {J : MJ} {T B0 : Nat} (h : St I J T B0) (h30 : T + 10001 ≤ 1000000000) (x0 : Int32) : ∃ v s1 I2 J2, Pk I J T B0 (M_X9_victim [mR (some 0), mI x0]) (M_X10_victim [mR (some 188), mI x0]) v v s1 I2 J2 := by
  obtain ⟨v, s1, I2, J2, a, b, c⟩ := P_victim h h30 x0
  exact ⟨v, s1, I2, J2, a, b, c, kq_victim b⟩
theorem pq_path {I : MI} {J : MJ} {T B0 : Nat} (h : St I J T B0) (h30 : T + 10001 ≤ 1000000000) (x0 : Int32) : ∃ v s1 I2 J2, Pk I J T B0 (M_X9_path [mR (some 0), mI x0]) (M_X10_path [mR (some 188), mI x0]) v v s1 I2 J2 := by
  obtain ⟨v, s1, I2, J2, a, b, c⟩ := P_path h h30 x0
  exact ⟨v, s1, I2, J2, a, b, c, kq_path b⟩
theorem pq_octet {I : MI} {J : MJ} {T B0 : Nat} (h : St I J T B0) (h30 : T + 10001 ≤ 1000000000) (x0 : Int32) : ∃ v s1 I2 J2, Pk I J T B0 (M_X9_octet [mR (some 0), mI x0]) (M_X10_octet [mR (some 188), mI x0]) v v s1 I2 J2 := by
  obtain ⟨v, s1, I2, J2, a, b, c⟩ := P_octet h h30 x0
  have u := u_octet h.1.1 I x0
  rw [u] at a
  have e := congrArg (fun o : Option MO => o.map (fun q => q.2)) a
  simp only [Option.map_some, Option.some.injEq] at e
  exact ⟨v, s1, I2, J2, by rw [u]; exact a, b, c, by rw [← e]; exact h.1.2.k⟩
theorem pq_look {I : MI} {J : MJ} {T B0 : Nat} (h : St I J T B0) (h30 : T + 10001 ≤ 1000000000) : ∃ v s1 I2 J2, Pk I J T B0 (M_X9_look [mR (some 0)]) (M_X10_look [mR (some 188)]) v v s1 I2 J2 := by
  obtain ⟨v, s1, I2, J2, a, b, c⟩ := P_look h h30
  exact ⟨v, s1, I2, J2, a, b, c, kq_look b⟩
theorem pq_make {I : MI} {J : MJ} {T B0 : Nat} (h : St I J T B0) (h30 : T + 10001 ≤ 1000000000) (x0 : Int32) : ∃ v s1 I2 J2, Pk I J T B0 (M_X9_make [mR (some 0), mI x0]) (M_X10_make [mR (some 188), mI x0]) v v s1 I2 J2 := by
  obtain ⟨v, s1, I2, J2, a, b, c⟩ := P_make h h30 x0
  exact ⟨v, s1, I2, J2, a, b, c, kq_make b⟩
theorem pq_remove {I : MI} {J : MJ} {T B0 : Nat} (h : St I J T B0) (h30 : T + 10001 ≤ 1000000000) : ∃ v s1 I2 J2, Pk I J T B0 (M_X9_remove [mR (some 0)]) (M_X10_remove [mR (some 188)]) v v s1 I2 J2 := by
  obtain ⟨v, s1, I2, J2, a, b, c⟩ := P_remove h h30
  exact ⟨v, s1, I2, J2, a, b, c, kq_remove b⟩
theorem pq_rename {I : MI} {J : MJ} {T B0 : Nat} (h : St I J T B0) (h30 : T + 10001 ≤ 1000000000) : ∃ v s1 I2 J2, Pk I J T B0 (M_X9_rename [mR (some 0)]) (M_X10_rename [mR (some 188)]) v v s1 I2 J2 := by
  obtain ⟨v, s1, I2, J2, a, b, c⟩ := P_rename h h30
  exact ⟨v, s1, I2, J2, a, b, c, kq_rename b⟩
theorem pq_open {I : MI} {J : MJ} {T B0 : Nat} (h : St I J T B0) (h30 : T + 10001 ≤ 1000000000) : ∃ v s1 I2 J2, Pk I J T B0 (M_X9_open [mR (some 0)]) (M_X10_open [mR (some 188)]) v v s1 I2 J2 := by
  obtain ⟨v, s1, I2, J2, a, b, c⟩ := P_open h h30
  exact ⟨v, s1, I2, J2, a, b, c, kq_open b⟩
theorem pq_close {I : MI} {J : MJ} {T B0 : Nat} (h : St I J T B0) (h30 : T + 10001 ≤ 1000000000) (x0 : Int32) : ∃ v s1 I2 J2, Pk I J T B0 (M_X9_close [mR (some 0), mI x0]) (M_X10_close [mR (some 188), mI x0]) v v s1 I2 J2 := by
  obtain ⟨v, s1, I2, J2, a, b, c⟩ := P_close h h30 x0
  exact ⟨v, s1, I2, J2, a, b, c, kq_close b⟩
theorem pq_mount {I : MI} {J : MJ} {T B0 : Nat} (h : St I J T B0) (h30 : T + 10001 ≤ 1000000000) (x0 : Int32) : ∃ v s1 I2 J2, Pk I J T B0 (M_X9_mount [mR (some 0), mI x0]) (M_X10_mount [mR (some 188), mI x0]) v v s1 I2 J2 := by
  obtain ⟨v, s1, I2, J2, a, b, c⟩ := P_mount h h30 x0
  exact ⟨v, s1, I2, J2, a, b, c, kq_mount b⟩
theorem pq_unmount {I : MI} {J : MJ} {T B0 : Nat} (h : St I J T B0) (h30 : T + 10001 ≤ 1000000000) (x0 : Int32) : ∃ v s1 I2 J2, Pk I J T B0 (M_X9_unmount [mR (some 0), mI x0]) (M_X10_unmount [mR (some 188), mI x0]) v v s1 I2 J2 := by
  obtain ⟨v, s1, I2, J2, a, b, c⟩ := P_unmount h h30 x0
  exact ⟨v, s1, I2, J2, a, b, c, kq_unmount b⟩
theorem pq_trim {I : MI} {J : MJ} {T B0 : Nat} (h : St I J T B0) (h30 : T + 10001 ≤ 1000000000) (x0 : Int32) : ∃ v s1 I2 J2, Pk I J T B0 (M_X9_trim [mR (some 0), mI x0]) (M_X10_trim [mR (some 188), mI x0]) v v s1 I2 J2 := by
  obtain ⟨v, s1, I2, J2, a, b, c⟩ := P_trim h h30 x0
  exact ⟨v, s1, I2, J2, a, b, c, kq_trim b⟩
theorem pq_room {I : MI} {J : MJ} {T B0 : Nat} (h : St I J T B0) (h30 : T + 10001 ≤ 1000000000) (x0 : Int32) : ∃ v s1 I2 J2, Pk I J T B0 (M_X9_room [mR (some 0), mI x0]) (M_X10_room [mR (some 188), mI x0]) v v s1 I2 J2 := by
  obtain ⟨v, s1, I2, J2, a, b, c⟩ := P_room h h30 x0
  exact ⟨v, s1, I2, J2, a, b, c, kq_room b⟩
theorem pq_chance {I : MI} {J : MJ} {T B0 : Nat} (h : St I J T B0) (h30 : T + 10001 ≤ 1000000000) (x0 : Int32) : ∃ v s1 I2 J2, Pk I J T B0 (M_X9_chance [mR (some 0), mI x0]) (M_X10_chance [mR (some 188), mI x0]) v v s1 I2 J2 := by
  obtain ⟨v, s1, I2, J2, a, b, c⟩ := P_chance h h30 x0
  exact ⟨v, s1, I2, J2, a, b, c, kq_chance b⟩
theorem pq_begin {I : MI} {J : MJ} {T B0 : Nat} (h : St I J T B0) (h30 : T + 10001 ≤ 1000000000) : ∃ v s1 I2 J2, Pk I J T B0 (M_X9_begin [mR (some 0)]) (M_X10_begin [mR (some 188)]) v v s1 I2 J2 := by
  obtain ⟨v, s1, I2, J2, a, b, c⟩ := P_begin h h30
  exact ⟨v, s1, I2, J2, a, b, c, kq_begin b⟩
theorem pq_step {I : MI} {J : MJ} {T B0 : Nat} (h : St I J T B0) (h30 : T + 10001 ≤ 1000000000) (x0 : Int32) : ∃ v s1 I2 J2, Pk I J T B0 (M_X9_step [mR (some 0), mI x0]) (M_X10_step [mR (some 188), mI x0]) v v s1 I2 J2 := by
  obtain ⟨v, s1, I2, J2, a, b, c⟩ := P_step h h30 x0
  exact ⟨v, s1, I2, J2, a, b, c, kq_step b⟩
theorem pq_result {I : MI} {J : MJ} {T B0 : Nat} (h : St I J T B0) (h30 : T + 10001 ≤ 1000000000) (x0 : Int32) : ∃ v s1 I2 J2, Pk I J T B0 (M_X9_result [mR (some 0), mI x0]) (M_X10_result [mR (some 188), mI x0]) v v s1 I2 J2 := by
  obtain ⟨v, s1, I2, J2, a, b, c⟩ := P_result h h30 x0
  exact ⟨v, s1, I2, J2, a, b, c, kq_result b⟩
theorem pq_quit {I : MI} {J : MJ} {T B0 : Nat} (h : St I J T B0) (h30 : T + 10001 ≤ 1000000000) (x0 : Int32) : ∃ v s1 I2 J2, Pk I J T B0 (M_X9_quit [mR (some 0), mI x0]) (M_X10_quit [mR (some 188), mI x0]) v v s1 I2 J2 := by
  obtain ⟨v, s1, I2, J2, a, b, c⟩ := P_quit h h30 x0
  exact ⟨v, s1, I2, J2, a, b, c, kq_quit b⟩
theorem pq_trace {I : MI} {J : MJ} {T B0 : Nat} (h : St I J T B0) (h30 : T + 10001 ≤ 1000000000) : ∃ v s1 I2 J2, Pk I J T B0 (M_X9_trace [mR (some 0)]) (M_X10_trace [mR (some 188)]) v v s1 I2 J2 := by
  obtain ⟨v, s1, I2, J2, a, b, c⟩ := P_trace h h30
  exact ⟨v, s1, I2, J2, a, b, c, kq_trace b⟩
theorem pq_loads {I : MI} {J : MJ} {T B0 : Nat} (h : St I J T B0) (h30 : T + 10001 ≤ 1000000000) (x0 : Int32) : ∃ v s1 I2 J2, Pk I J T B0 (M_X9_loads [mR (some 0), mI x0]) (M_X10_loads [mR (some 188), mI x0]) v v s1 I2 J2 := by
  obtain ⟨v, s1, I2, J2, a, b, c⟩ := P_loads h h30 x0
  exact ⟨v, s1, I2, J2, a, b, c, kq_loads b⟩
theorem pq_least {I : MI} {J : MJ} {T B0 : Nat} (h : St I J T B0) (h30 : T + 10001 ≤ 1000000000) (x0 : Int32) : ∃ v s1 I2 J2, Pk I J T B0 (M_X9_least [mR (some 0), mI x0]) (M_X10_least [mR (some 188), mI x0]) v v s1 I2 J2 := by
  obtain ⟨v, s1, I2, J2, a, b, c⟩ := P_least h h30 x0
  exact ⟨v, s1, I2, J2, a, b, c, kq_least b⟩
theorem pq_see {I : MI} {J : MJ} {T B0 : Nat} (h : St I J T B0) (h30 : T + 10001 ≤ 1000000000) (x0 : Int32) : ∃ v s1 I2 J2, Pk I J T B0 (M_X9_see [mR (some 0), mI x0]) (M_X10_see [mR (some 188), mI x0]) v v s1 I2 J2 := by
  obtain ⟨v, s1, I2, J2, a, b, c⟩ := P_see h h30 x0
  exact ⟨v, s1, I2, J2, a, b, c, kq_see b⟩
theorem pq_fits {I : MI} {J : MJ} {T B0 : Nat} (h : St I J T B0) (h30 : T + 10001 ≤ 1000000000) (x0 : Int32) : ∃ v s1 I2 J2, Pk I J T B0 (M_X9_fits [mR (some 0), mI x0]) (M_X10_fits [mR (some 188), mI x0]) v v s1 I2 J2 := by
  obtain ⟨v, s1, I2, J2, a, b, c⟩ := P_fits h h30 x0
  exact ⟨v, s1, I2, J2, a, b, c, kq_fits b⟩
theorem pq_tells {I : MI} {J : MJ} {T B0 : Nat} (h : St I J T B0) (h30 : T + 10001 ≤ 1000000000) (x0 : Int32) : ∃ v s1 I2 J2, Pk I J T B0 (M_X9_tells [mR (some 0), mI x0]) (M_X10_tells [mR (some 188), mI x0]) v v s1 I2 J2 := by
  obtain ⟨v, s1, I2, J2, a, b, c⟩ := P_tells h h30 x0
  exact ⟨v, s1, I2, J2, a, b, c, kq_tells b⟩
theorem pq_undo {I : MI} {J : MJ} {T B0 : Nat} (h : St I J T B0) (h30 : T + 10001 ≤ 1000000000) : ∃ v s1 I2 J2, Pk I J T B0 (M_X9_undo [mR (some 0)]) (M_X10_undo [mR (some 188)]) v v s1 I2 J2 := by
  obtain ⟨v, s1, I2, J2, a, b, c⟩ := P_undo h h30
  exact ⟨v, s1, I2, J2, a, b, c, kq_undo b⟩
theorem pq_seed {I : MI} {J : MJ} {T B0 : Nat} (h : St I J T B0) (h30 : T + 10001 ≤ 1000000000) (x0 : Int32) : ∃ v s1 I2 J2, Pk I J T B0 (M_X9_seed [mR (some 0), mI x0]) (M_X10_seed [mR (some 188), mI x0]) v v s1 I2 J2 := by
  obtain ⟨v, s1, I2, J2, a, b, c⟩ := P_seed h h30 x0
  exact ⟨v, s1, I2, J2, a, b, c, kq_seed b⟩
theorem pq_status {I : MI} {J : MJ} {T B0 : Nat} (h : St I J T B0) (h30 : T + 10001 ≤ 1000000000) (x0 : Int32) : ∃ v s1 I2 J2, Pk I J T B0 (M_X9_status [mR (some 0), mI x0]) (M_X10_status [mR (some 188), mI x0]) v v s1 I2 J2 := by
  obtain ⟨v, s1, I2, J2, a, b, c⟩ := P_status h h30 x0
  have u := u_status h.1.1 I x0
  rw [u] at a
  have e := congrArg (fun o : Option MO => o.map (fun q => q.2)) a
  simp only [Option.map_some, Option.some.injEq] at e
  exact ⟨v, s1, I2, J2, by rw [u]; exact a, b, c, by rw [← e]; exact h.1.2.k⟩
