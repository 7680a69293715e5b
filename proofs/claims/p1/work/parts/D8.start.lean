/-! The law, from its entry. Written by wip/gen/law.py. -/
set_option maxHeartbeats 4000000 in
set_option maxRecDepth 100000 in
/-- YOUR PART: from the entry, for every script of at most 6 ints, the law comes to its end with true ('hflags': the launch's flags, for a law that throws: no stack traces) -/
theorem whole_start {p : Program} {e : Env} {s : State} {m : MethodId} {below : List Frame} {meth : Method} {c : Code} (l : Launch) (hflags : l.flags = flags0) {b L : Nat} {xs : Nat → Int32} (hL : L ≤ 6) (C0 : lw_At p s m meth c b L xs) : W p l e room_1 s m #[Value.ref b] below meth c s.heap [] 0 0 (lw_Z below #[Value.ref b] s) (entryFrame m ([Value.ref b] : List Value).toArray 4) := by
  obtain ⟨hx, hb, hr, hml, hown, hts, hX, hbl, hlocks, hgv⟩ := C0
  obtain ⟨D, cy, hK, hN⟩ := lx_known hts
  have hg : ∀ w ∈ lw_good, w.before #[Value.ref b] s = true := fun w hw => hts w (List.mem_filter.mp hw).1
  have C : LX (p, l, e, s, m, below, meth, c, D, cy, b) L xs := ⟨hx, hb, hr, hml, hown, hg, hX, hbl, hlocks, hK, hN, by omega⟩
  have hS : va_S (fun q : Nat => s.heap.size ≤ q) s.heap s.heap [] := va_S.rf
  have hH : HR D cy s.heap.size (fun _ _ => 0, fun _ _ => 0, fun _ _ => none, fun _ => (17, 0), 0, 0) s.heap := ⟨rfl, fun a ha => absurd ha (Nat.not_lt_zero a), fun a _ => rfl⟩
  have hl := lv_entry ([.ref b]) (n := 4) (Nat.le_of_ble_eq_true rfl)
  rw [lg_entry_eq]
  generalize (lg_sl ([.ref b]) ++ List.replicate (4 - (lg_sl ([.ref b])).length) Slot.unset).toArray = ls at hl ⊢
  have hl : lv_has ls 4 [(0, .ref b)] := hl
  refine hr_new fw_all hx hb hg hown hK hH hS (ci := 9) (by decide) (hts _ (tbl_at (i := 132) (by decide +kernel))) (hts _ (inst_in 9 (by decide))) (hts _ (tbl_at (i := 118) (by decide +kernel))) (Nat.le_of_ble_eq_true rfl) (Nat.le_of_ble_eq_true rfl) d_0 (fun H hH hS => ?_)
  refine lv_dup hx hb d_3 rfl ?_
  obtain ⟨s1, e1, z1, w1, kl, r68, dr, in1⟩ := c_X9_init (s := al (fun _ _ => 0, fun _ _ => 0, fun _ _ => none, fun _ => (17, 0), 0, 0) 9 (nfl 9)) rfl rfl rfl
  refine gl_ctor C S_X9_init li_X9 (a := 0) e1 (by rw [z1]; decide) (by rw [w1]; decide) hH hS hl.1 d_4 (fun H locs hH hS => ?_)
  refine lv_astore_n (lv' := [(1, .ref (s.heap.size + 0)), (0, .ref b)]) hx hb d_7 rfl hl (by decide) rfl (fun ls hl => ?_)
  refine hr_new fw_all hx hb hg hown hK hH hS (ci := 10) (by decide) (hts _ (tbl_at (i := 1314) (by decide +kernel))) (hts _ (inst_in 10 (by decide))) (hts _ (tbl_at (i := 130) (by decide +kernel))) (by rw [z1]; decide) (by rw [w1]; decide) d_8 (fun H hH hS => ?_)
  refine lv_dup hx hb d_11 rfl ?_
  have e188 : s.heap.size + sz s1 = s.heap.size + 188 := by rw [z1]
  rw [e188]
  obtain ⟨s2, e2, z2, w2, sm, rl, d2, i188, ir⟩ := c_X10_init (s := al s1 10 (nfl 10)) (by show sz s1 + 1 = 189; omega) (by show (if (188 : Nat) = sz s1 then (10, nfl 10) else _) = (10, 43); rw [z1]; rfl) (by funext y; show (if (188 : Nat) = sz s1 then (0 : Int32) else _) = 0; rw [z1]; rfl)
  have w2' : sl s2 = 16 + 4743 + 43 + 43009 := by
    rw [w2]
    show sl s1 + 43 + 43009 = _
    rw [w1]
    rfl
  refine gl_ctor C S_X10_init li_X10 (a := 188) e2 (by rw [z2]; decide) (by rw [w2']; decide) hH hS hl.1 d_12 (fun H locs hH hS => ?_)
  refine lv_astore_n (lv' := [(2, .ref (s.heap.size + 188)), (1, .ref (s.heap.size + 0)), (0, .ref b)]) hx hb d_15 rfl hl (by decide) rfl (fun ls hl => ?_)
  refine lv_iconst (v := 0) hx hb d_16 (by decide) ?_
  refine lv_istore_n (lv' := [(3, .int 0), (2, .ref (s.heap.size + 188)), (1, .ref (s.heap.size + 0)), (0, .ref b)]) hx hb d_17 rfl hl (by decide) rfl (fun ls hl => ?_)
  obtain ⟨I, J⟩ := s2
  have ini1 : ∀ x, x < 188 → I x = ini x := fun x hx => by
    have := (sm x hx).1
    have e : (al s1 10 (nfl 10)).1 x = s1.1 x := by
      funext y
      show (if x = sz s1 then (0 : Int32) else s1.1 x y) = s1.1 x y
      rw [z1, if_neg (by omega)]
    exact (this.trans e).trans (in1 x hx)
  have bl : ∀ x, x < 188 → jR J x = jR s1.2 x ∧ jS J x = jS s1.2 x := fun x hx => by
    obtain ⟨_, _, q3, q4⟩ := sm x hx
    refine ⟨q3.trans ?_, q4.trans ?_⟩
    · funext y
      show (if x = sz s1 then (none : Option Nat) else s1.2.2.1 x y) = s1.2.2.1 x y
      rw [z1, if_neg (by omega)]
    · show (if x = sz s1 then (10, nfl 10) else s1.2.2.2.1 x) = s1.2.2.2.1 x
      rw [z1, if_neg (by omega)]
  have kl2 : KL J := kl.gx (fun x hx _ => bl x hx) (bl 68 (by decide)).2
  have d0 : J.1 0 15 = 1 := by
    have := (sm 0 (by decide)).2.1
    have e : (al s1 10 (nfl 10)).2.1 0 = s1.2.1 0 := by
      funext y
      show (if (0 : Nat) = sz s1 then (0 : Int64) else s1.2.1 0 y) = s1.2.1 0 y
      rw [z1, if_neg (by omega)]
    exact (congrFun (this.trans e) 15).trans dr
  have fst := St.first' (I := I) (J := J) kl2 rl ini1 i188 ir d0 d2 (fun k => (congrFun (bl 68 (by decide)).1 k).trans (r68 k)) z2
  have fs : jB J = 47811 := w2'
  have l3 : lv_has ls 4 [(0, .ref b), (1, .ref (s.heap.size + 0)), (2, .ref (s.heap.size + 188)), (3, .int (nI 0))] := lv_sub hl [3, 2, 1, 0] rfl
  have f1 : I 9 1 = I 188 6 := by
    rw [ini1 9 (by decide), show I 188 = _ from i188]
    rfl
  have f2 : I 9 2 = I 188 7 := by
    rw [ini1 9 (by decide), show I 188 = _ from i188]
    rfl
  exact law_one C hL fst (by rw [fs]; decide) f1 f2 H locs ls hH hS l3
