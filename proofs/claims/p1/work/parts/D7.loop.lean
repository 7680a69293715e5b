/-! The law's loop and its start. Written by wip/gen/law.py. -/
theorem sw40 {P : Nat → Prop} (h0 : P 0) (h1 : P 1) (h2 : P 2) (h3 : P 3) (h4 : P 4) (h5 : P 5) (h6 : P 6) (h7 : P 7) (h8 : P 8) (h9 : P 9) (h10 : P 10) (h11 : P 11) (h12 : P 12) (h13 : P 13) (h14 : P 14) (h15 : P 15) (h16 : P 16) (h17 : P 17) (h18 : P 18) (h19 : P 19) (h20 : P 20) (h21 : P 21) (h22 : P 22) (h23 : P 23) (h24 : P 24) (h25 : P 25) (h26 : P 26) (h27 : P 27) (h28 : P 28) (h29 : P 29) (h30 : P 30) (h31 : P 31) (h32 : P 32) (h33 : P 33) (h34 : P 34) (h35 : P 35) (h36 : P 36) (h37 : P 37) (h38 : P 38) (h39 : P 39) : ∀ k, k < 40 → P k
  | 0, _ => h0
  | 1, _ => h1
  | 2, _ => h2
  | 3, _ => h3
  | 4, _ => h4
  | 5, _ => h5
  | 6, _ => h6
  | 7, _ => h7
  | 8, _ => h8
  | 9, _ => h9
  | 10, _ => h10
  | 11, _ => h11
  | 12, _ => h12
  | 13, _ => h13
  | 14, _ => h14
  | 15, _ => h15
  | 16, _ => h16
  | 17, _ => h17
  | 18, _ => h18
  | 19, _ => h19
  | 20, _ => h20
  | 21, _ => h21
  | 22, _ => h22
  | 23, _ => h23
  | 24, _ => h24
  | 25, _ => h25
  | 26, _ => h26
  | 27, _ => h27
  | 28, _ => h28
  | 29, _ => h29
  | 30, _ => h30
  | 31, _ => h31
  | 32, _ => h32
  | 33, _ => h33
  | 34, _ => h34
  | 35, _ => h35
  | 36, _ => h36
  | 37, _ => h37
  | 38, _ => h38
  | 39, _ => h39
  | n + 40, h => absurd h (by omega)
/-- one call of the script -/
theorem law_turn {X : LT} {L : Nat} {xs : Nat → Int32} (C : LX X L xs) {i : Nat} (hi : i + 6 ≤ L) {I : MI} {J : MJ} {T B0 : Nat} (h : St I J T B0) (hB : B0 ≤ 1000000) (h30 : T + 10001 ≤ 1000000000) (f1 : I 9 1 = I 188 6) (f2 : I 9 2 = I 188 7) (nx : ∀ I2 J2, St I2 J2 (T + 10001) B0 → Gl X i 1150 [] (I2, J2)) : Gl X i 27 [] (I, J) := by
  refine gl_switch C (tg := fun k => ([208, 271, 294, 307, 330, 353, 386, 445, 478, 501, 534, 557, 570, 583, 606, 629, 652, 665, 704, 717, 730, 743, 766, 789, 812, 835, 858, 881, 894, 917, 940, 963, 976, 999, 1022, 1045, 1068, 1091, 1104, 1127] : List Nat).getD k 0) hi d_27 d_28 d_29 d_30 d_32 d_33 (by decide) (by decide +kernel) (nx I J (h.mono (by omega) h30)) ?_
  exact sw40 (by
      obtain ⟨v, s1, I2, J2, a, b, c, k⟩ := pq_feed h h30 (xs (i + 1)) (xs (i + 2)) (xs (i + 3)) (xs (i + 4)) (xs (i + 5))
      exact cs_feed C hi h.1.1.k k a b rfl (by have := c.room; show jC J2 ≤ 600000; omega) (by have := c.room; show jB J2 ≤ 7302250; omega) (nx I2 J2 c)) (by
      obtain ⟨v, s1, I2, J2, a, b, c, k⟩ := pq_end h h30 (xs (i + 1))
      exact cs_end C hi h.1.1.k k a b rfl (by have := c.room; show jC J2 ≤ 600000; omega) (by have := c.room; show jB J2 ≤ 7302250; omega) (nx I2 J2 c)) (by
      obtain ⟨v, s1, I2, J2, a, b, c, k⟩ := pq_trees h h30
      exact cs_trees C hi h.1.1.k k a b rfl (by have := c.room; show jC J2 ≤ 600000; omega) (by have := c.room; show jB J2 ≤ 7302250; omega) (nx I2 J2 c)) (by
      obtain ⟨v, s1, I2, J2, a, b, c, k⟩ := pq_fault h h30 (xs (i + 1)) f1 f2
      exact cs_fault C hi h.1.1.k k a b rfl (by have := c.room; show jC J2 ≤ 600000; omega) (by have := c.room; show jB J2 ≤ 7302250; omega) (nx I2 J2 c)) (by
      obtain ⟨v, s1, I2, J2, a, b, c, k⟩ := pq_has h h30 (xs (i + 1))
      exact cs_has C hi h.1.1.k k a b rfl (by have := c.room; show jC J2 ≤ 600000; omega) (by have := c.room; show jB J2 ≤ 7302250; omega) (nx I2 J2 c)) (by
      obtain ⟨v, s1, I2, J2, a, b, c, k⟩ := pq_node h h30 (xs (i + 1)) (xs (i + 2))
      exact cs_node C hi h.1.1.k k a b rfl (by have := c.room; show jC J2 ≤ 600000; omega) (by have := c.room; show jB J2 ≤ 7302250; omega) (nx I2 J2 c)) (by
      obtain ⟨v, s1, I2, J2, a, b, c, k⟩ := pq_letter h h30 (if xs (i + 1) = 0 then 0 else 1) (xs (i + 2)) (xs (i + 3))
      exact cs_letter C hi h.1.1.k k a b rfl (by have := c.room; show jC J2 ≤ 600000; omega) (by have := c.room; show jB J2 ≤ 7302250; omega) (nx I2 J2 c)) (by
      obtain ⟨v, s1, I2, J2, a, b, c, k⟩ := pq_entry h h30 (xs (i + 1)) (xs (i + 2))
      exact cs_entry C hi h.1.1.k k a b rfl (by have := c.room; show jC J2 ≤ 600000; omega) (by have := c.room; show jB J2 ≤ 7302250; omega) (nx I2 J2 c)) (by
      obtain ⟨v, s1, I2, J2, a, b, c, k⟩ := pq_child h h30 (xs (i + 1))
      exact cs_child C hi h.1.1.k k a b rfl (by have := c.room; show jC J2 ≤ 600000; omega) (by have := c.room; show jB J2 ≤ 7302250; omega) (nx I2 J2 c)) (by
      obtain ⟨v, s1, I2, J2, a, b, c, k⟩ := pq_walker h h30 (xs (i + 1)) (xs (i + 2))
      exact cs_walker C hi h.1.1.k k a b rfl (by have := c.room; show jC J2 ≤ 600000; omega) (by have := c.room; show jB J2 ≤ 7302250; omega) (nx I2 J2 c)) (by
      obtain ⟨v, s1, I2, J2, a, b, c, k⟩ := pq_handle h h30 (xs (i + 1))
      exact cs_handle C hi h.1.1.k k a b rfl (by have := c.room; show jC J2 ≤ 600000; omega) (by have := c.room; show jB J2 ≤ 7302250; omega) (nx I2 J2 c)) (by
      obtain ⟨v, s1, I2, J2, a, b, c, k⟩ := pq_where h h30
      exact cs_where C hi h.1.1.k k a b rfl (by have := c.room; show jC J2 ≤ 600000; omega) (by have := c.room; show jB J2 ≤ 7302250; omega) (nx I2 J2 c)) (by
      obtain ⟨v, s1, I2, J2, a, b, c, k⟩ := pq_needs h h30
      exact cs_needs C hi h.1.1.k k a b rfl (by have := c.room; show jC J2 ≤ 600000; omega) (by have := c.room; show jB J2 ≤ 7302250; omega) (nx I2 J2 c)) (by
      obtain ⟨v, s1, I2, J2, a, b, c, k⟩ := pq_victim h h30 (xs (i + 1))
      exact cs_victim C hi h.1.1.k k a b rfl (by have := c.room; show jC J2 ≤ 600000; omega) (by have := c.room; show jB J2 ≤ 7302250; omega) (nx I2 J2 c)) (by
      obtain ⟨v, s1, I2, J2, a, b, c, k⟩ := pq_path h h30 (xs (i + 1))
      exact cs_path C hi h.1.1.k k a b rfl (by have := c.room; show jC J2 ≤ 600000; omega) (by have := c.room; show jB J2 ≤ 7302250; omega) (nx I2 J2 c)) (by
      obtain ⟨v, s1, I2, J2, a, b, c, k⟩ := pq_octet h h30 (xs (i + 1))
      exact cs_octet C hi h.1.1.k k a b rfl (by have := c.room; show jC J2 ≤ 600000; omega) (by have := c.room; show jB J2 ≤ 7302250; omega) (nx I2 J2 c)) (by
      obtain ⟨v, s1, I2, J2, a, b, c, k⟩ := pq_look h h30
      exact cs_look C hi h.1.1.k k a b rfl (by have := c.room; show jC J2 ≤ 600000; omega) (by have := c.room; show jB J2 ≤ 7302250; omega) (nx I2 J2 c)) (by
      obtain ⟨v, s1, I2, J2, a, b, c, k⟩ := pq_make h h30 (if xs (i + 1) = 0 then 0 else 1)
      exact cs_make C hi h.1.1.k k a b rfl (by have := c.room; show jC J2 ≤ 600000; omega) (by have := c.room; show jB J2 ≤ 7302250; omega) (nx I2 J2 c)) (by
      obtain ⟨v, s1, I2, J2, a, b, c, k⟩ := pq_remove h h30
      exact cs_remove C hi h.1.1.k k a b rfl (by have := c.room; show jC J2 ≤ 600000; omega) (by have := c.room; show jB J2 ≤ 7302250; omega) (nx I2 J2 c)) (by
      obtain ⟨v, s1, I2, J2, a, b, c, k⟩ := pq_rename h h30
      exact cs_rename C hi h.1.1.k k a b rfl (by have := c.room; show jC J2 ≤ 600000; omega) (by have := c.room; show jB J2 ≤ 7302250; omega) (nx I2 J2 c)) (by
      obtain ⟨v, s1, I2, J2, a, b, c, k⟩ := pq_open h h30
      exact cs_open C hi h.1.1.k k a b rfl (by have := c.room; show jC J2 ≤ 600000; omega) (by have := c.room; show jB J2 ≤ 7302250; omega) (nx I2 J2 c)) (by
      obtain ⟨v, s1, I2, J2, a, b, c, k⟩ := pq_close h h30 (xs (i + 1))
      exact cs_close C hi h.1.1.k k a b rfl (by have := c.room; show jC J2 ≤ 600000; omega) (by have := c.room; show jB J2 ≤ 7302250; omega) (nx I2 J2 c)) (by
      obtain ⟨v, s1, I2, J2, a, b, c, k⟩ := pq_mount h h30 (xs (i + 1))
      exact cs_mount C hi h.1.1.k k a b rfl (by have := c.room; show jC J2 ≤ 600000; omega) (by have := c.room; show jB J2 ≤ 7302250; omega) (nx I2 J2 c)) (by
      obtain ⟨v, s1, I2, J2, a, b, c, k⟩ := pq_unmount h h30 (xs (i + 1))
      exact cs_unmount C hi h.1.1.k k a b rfl (by have := c.room; show jC J2 ≤ 600000; omega) (by have := c.room; show jB J2 ≤ 7302250; omega) (nx I2 J2 c)) (by
      obtain ⟨v, s1, I2, J2, a, b, c, k⟩ := pq_trim h h30 (xs (i + 1))
      exact cs_trim C hi h.1.1.k k a b rfl (by have := c.room; show jC J2 ≤ 600000; omega) (by have := c.room; show jB J2 ≤ 7302250; omega) (nx I2 J2 c)) (by
      obtain ⟨v, s1, I2, J2, a, b, c, k⟩ := pq_room h h30 (xs (i + 1))
      exact cs_room C hi h.1.1.k k a b rfl (by have := c.room; show jC J2 ≤ 600000; omega) (by have := c.room; show jB J2 ≤ 7302250; omega) (nx I2 J2 c)) (by
      obtain ⟨v, s1, I2, J2, a, b, c, k⟩ := pq_chance h h30 (xs (i + 1))
      exact cs_chance C hi h.1.1.k k a b rfl (by have := c.room; show jC J2 ≤ 600000; omega) (by have := c.room; show jB J2 ≤ 7302250; omega) (nx I2 J2 c)) (by
      obtain ⟨v, s1, I2, J2, a, b, c, k⟩ := pq_begin h h30
      exact cs_begin C hi h.1.1.k k a b rfl (by have := c.room; show jC J2 ≤ 600000; omega) (by have := c.room; show jB J2 ≤ 7302250; omega) (nx I2 J2 c)) (by
      obtain ⟨v, s1, I2, J2, a, b, c, k⟩ := pq_step h h30 (xs (i + 1))
      exact cs_step C hi h.1.1.k k a b rfl (by have := c.room; show jC J2 ≤ 600000; omega) (by have := c.room; show jB J2 ≤ 7302250; omega) (nx I2 J2 c)) (by
      obtain ⟨v, s1, I2, J2, a, b, c, k⟩ := pq_result h h30 (xs (i + 1))
      exact cs_result C hi h.1.1.k k a b rfl (by have := c.room; show jC J2 ≤ 600000; omega) (by have := c.room; show jB J2 ≤ 7302250; omega) (nx I2 J2 c)) (by
      obtain ⟨v, s1, I2, J2, a, b, c, k⟩ := pq_quit h h30 (xs (i + 1))
      exact cs_quit C hi h.1.1.k k a b rfl (by have := c.room; show jC J2 ≤ 600000; omega) (by have := c.room; show jB J2 ≤ 7302250; omega) (nx I2 J2 c)) (by
      obtain ⟨v, s1, I2, J2, a, b, c, k⟩ := pq_trace h h30
      exact cs_trace C hi h.1.1.k k a b rfl (by have := c.room; show jC J2 ≤ 600000; omega) (by have := c.room; show jB J2 ≤ 7302250; omega) (nx I2 J2 c)) (by
      obtain ⟨v, s1, I2, J2, a, b, c, k⟩ := pq_loads h h30 (xs (i + 1))
      exact cs_loads C hi h.1.1.k k a b rfl (by have := c.room; show jC J2 ≤ 600000; omega) (by have := c.room; show jB J2 ≤ 7302250; omega) (nx I2 J2 c)) (by
      obtain ⟨v, s1, I2, J2, a, b, c, k⟩ := pq_least h h30 (xs (i + 1))
      exact cs_least C hi h.1.1.k k a b rfl (by have := c.room; show jC J2 ≤ 600000; omega) (by have := c.room; show jB J2 ≤ 7302250; omega) (nx I2 J2 c)) (by
      obtain ⟨v, s1, I2, J2, a, b, c, k⟩ := pq_see h h30 (xs (i + 1))
      exact cs_see C hi h.1.1.k k a b rfl (by have := c.room; show jC J2 ≤ 600000; omega) (by have := c.room; show jB J2 ≤ 7302250; omega) (nx I2 J2 c)) (by
      obtain ⟨v, s1, I2, J2, a, b, c, k⟩ := pq_fits h h30 (xs (i + 1))
      exact cs_fits C hi h.1.1.k k a b rfl (by have := c.room; show jC J2 ≤ 600000; omega) (by have := c.room; show jB J2 ≤ 7302250; omega) (nx I2 J2 c)) (by
      obtain ⟨v, s1, I2, J2, a, b, c, k⟩ := pq_tells h h30 (xs (i + 1))
      exact cs_tells C hi h.1.1.k k a b rfl (by have := c.room; show jC J2 ≤ 600000; omega) (by have := c.room; show jB J2 ≤ 7302250; omega) (nx I2 J2 c)) (by
      obtain ⟨v, s1, I2, J2, a, b, c, k⟩ := pq_undo h h30
      exact cs_undo C hi h.1.1.k k a b rfl (by have := c.room; show jC J2 ≤ 600000; omega) (by have := c.room; show jB J2 ≤ 7302250; omega) (nx I2 J2 c)) (by
      obtain ⟨v, s1, I2, J2, a, b, c, k⟩ := pq_seed h h30 (xs (i + 1))
      exact cs_seed C hi h.1.1.k k a b rfl (by have := c.room; show jC J2 ≤ 600000; omega) (by have := c.room; show jB J2 ≤ 7302250; omega) (nx I2 J2 c)) (by
      obtain ⟨v, s1, I2, J2, a, b, c, k⟩ := pq_status h h30 (xs (i + 1))
      exact cs_status C hi h.1.1.k k a b rfl (by have := c.room; show jC J2 ≤ 600000; omega) (by have := c.room; show jB J2 ≤ 7302250; omega) (nx I2 J2 c))
theorem law_last {X : LT} {L : Nat} {xs : Nat → Int32} (C : LX X L xs) (hL : L ≤ 6) {I : MI} {J : MJ} {T B0 : Nat} (h : St I J T B0) (hB : B0 ≤ 1000000) : Gl X 6 18 [] (I, J) := by
  refine gl_head C (tg := 1156) (by decide) d_18 d_19 d_20 d_21 d_23 d_24 (by decide) (fun _ => ?_) (fun z => by omega)
  have := h.room
  exact gl_end C d_1156 d_1157 (by show jC J ≤ 600000; omega) (by show jB J ≤ 7302250; omega)
theorem law_one {X : LT} {L : Nat} {xs : Nat → Int32} (C : LX X L xs) (hL : L ≤ 6) {I : MI} {J : MJ} {B0 : Nat} (h : St I J 0 B0) (hB : B0 ≤ 1000000) (f1 : I 9 1 = I 188 6) (f2 : I 9 2 = I 188 7) : Gl X 0 18 [] (I, J) := by
  refine gl_head C (tg := 1156) (by decide) d_18 d_19 d_20 d_21 d_23 d_24 (by decide) (fun _ => ?_) (fun z => ?_)
  · have := h.room
    exact gl_end C d_1156 d_1157 (by show jC J ≤ 600000; omega) (by show jB J ≤ 7302250; omega)
  · exact law_turn C z h hB (by omega) f1 f2 (fun I2 J2 h2 => gl_next C (tg := 18) d_1150 d_1153 (by decide) (law_last C hL h2 hB))
