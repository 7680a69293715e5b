/-! The law's start. Written by wip/gen/law.py. -/
theorem tbl_at {i : Nat} {w : Cond} (h : lw_tbl[i]? = some w) : w ∈ lw_tbl := List.mem_of_getElem? h
theorem inst_in : ∀ c, c ≤ 10 → Cond.instantiable (RXc c) (nfl c) ∈ lw_tbl := le10 (tbl_at (i := 373) (by decide +kernel)) (tbl_at (i := 223) (by decide +kernel)) (tbl_at (i := 141) (by decide +kernel)) (tbl_at (i := 188) (by decide +kernel)) (tbl_at (i := 307) (by decide +kernel)) (tbl_at (i := 173) (by decide +kernel)) (tbl_at (i := 392) (by decide +kernel)) (tbl_at (i := 301) (by decide +kernel)) (tbl_at (i := 221) (by decide +kernel)) (tbl_at (i := 133) (by decide +kernel)) (tbl_at (i := 1315) (by decide +kernel))
def liB (idx : Nat) (y : MethodName) (cc : ByteArray) (nL fr lc : Nat) (ws : List Nat) : Bool :=
  wAt (ws.getD 0 0) (.methodLink R_law idx y) && wAt (ws.getD 1 0) (.code y cc nL none) && wAt (ws.getD 2 0) (.initialized y.cls)
    && decide (y.cls ≠ "java/lang/invoke/MethodHandle" ∧ y.cls ≠ "java/lang/invoke/VarHandle" ∧ (parseMethodDescriptor y.desc).map (fun d => d.parameters.length) = some 0)
    && Nat.ble (fr + 1) 14 && Nat.ble (8 + (nL + 11) + lc) 552 && wAt (ws.getD 3 0) (.instanceMethod y) && decide (y.name = "<init>")
theorem gl_ctor {p : Program} {l : Launch} {e : Env} {s : State} {m : MethodId} {below : List Frame} {meth : Method} {c : Code} {D : va_G} {cy : Nat → ClassId} {b L : Nat} {xs : Nat → Int32} (C : LX (p, l, e, s, m, below, meth, c, D, cy, b) L xs) {idx nL fr lc : Nat} {y : MethodName} {cc : ByteArray} {M : MF} {ws : List Nat} (S : Sd y cc nL none fr lc M) (hc : liB idx y cc nL fr lc ws = true) {a pc : Nat} {u u1 : MH} (hM : M [mR (some a)] u = some (none, u1)) (hz : sz u1 ≤ 600000) (hw : sl u1 ≤ 7302250) {H : Heap} {locs : List Loc} {ls : Array Slot} {q : Nat} {Q : State → Prop} (hH : HR D cy s.heap.size u H) (hS : va_S (fun q => s.heap.size ≤ q) s.heap H locs) (hls : ls.size = 4) (d0 : decode code pc = .ok (.invokespecial idx, 3)) (kk : ∀ (H1 : Heap) (locs1 : List Loc), HR D cy s.heap.size u1 H1 → va_S (fun q => s.heap.size ≤ q) s.heap H1 locs1 → W p l e room_1 s m #[Value.ref b] below meth c H1 locs1 (sz u1) (sl u1) Q (F0 m (pc + 3) ls [.ref q])) : W p l e room_1 s m #[Value.ref b] below meth c H locs (sz u) (sl u) Q (F0 m pc ls [.ref (s.heap.size + a), .ref q]) := by
  obtain ⟨hx, hb, hr, hml, hown, hts, hX, hbl, hlocks, hK, hN, hL⟩ := C
  simp only [liB, Bool.and_eq_true, decide_eq_true_eq] at hc
  obtain ⟨⟨⟨⟨⟨⟨⟨a1, a2⟩, a3⟩, a4⟩, a5⟩, a6⟩, a8⟩, a9⟩ := hc
  have hcode := wAt_in a2
  obtain ⟨mono, hmet⟩ := S _ _ _ _ hM
  have hfit : sz u + (sz u1 - sz u) ≤ room_1.cells ∧ sl u + (sl u1 - sl u) ≤ room_1.slots := by
    show _ ≤ 600000 ∧ _ ≤ 7302250
    omega
  have hpay := pay_in hts (ws := Cond.code y cc nL none :: lw_good) (fun w hw => by
    rcases List.mem_cons.mp hw with h | h
    · rw [h]; exact lw_goodIn _ hcode
    · exact lw_goodIn _ h)
  have hpar : ∀ sig, parseMethodDescriptor y.desc = some sig → 0 = sig.parameters.length := fun sig hs => by
    have h3 := a4.2.2
    rw [hs] at h3
    exact (Option.some.inj h3).symm
  have hp : PreS s H (mP D cy s.heap.size u [mR (some a)]) (.ref (s.heap.size + a) :: []) :=
    ⟨mP_blind _ _ _ _ _, fun U hU hW => ⟨rfl, by rw [hU]; exact hH, va_K.moved hW.alike hK, hN.warm hW⟩⟩
  exact mm_call (va_runI (b := s.heap.size + a) (As := []) (rest := [.ref q]) ⟨hx, hb, hml, hown, hts⟩ (hmet l D cy s.heap.size) ⟨⟨rfl, rfl, Nat.le_of_ble_eq_true a5, Nat.le_of_ble_eq_true a6, hpay, List.mem_cons_self, hts _ hcode, hts _ (wAt_in a3), ⟨a4.1, a4.2.1⟩, hpar, hts _ (wAt_in a1)⟩, a9, hts _ (wAt_in a8)⟩ hp rfl rfl hls rfl (by show 2 * 0 + _ ≤ 8; exact Nat.le_of_ble_eq_true rfl) d0 hfit) hS (fun H1 locs1 hH1 hS1 => by
    have := kk H1 locs1 hH1 hS1
    rw [show sz u + (sz u1 - sz u) = sz u1 by omega, show sl u + (sl u1 - sl u) = sl u1 by omega]
    exact this)
/-- the classes and rows of the tables -/
theorem lx_known {s : State} {b : Nat} (hts : ∀ w ∈ lw_tbl, w.before #[Value.ref b] s = true) : ∃ (D : va_G) (cy : Nat → ClassId), va_K D mcl (mty cy) s ∧ NW s := by
  have hg : ∀ w ∈ lw_good, w.before #[Value.ref b] s = true := fun w hw => hts w (List.mem_filter.mp hw).1
  have K : ∀ c, ∃ q : ClassId × (Nat → Nat), c ≤ 10 → u_Kn s (RXc c) (TXc c) (nfl c) q.1 q.2 := fun c => by
    by_cases hc : c ≤ 10
    · obtain ⟨a, f, h⟩ := u_known (C := RXc c) (T := TXc c) (N := nfl c) (n := nfl c) hg (fw_all c hc) (hts _ (inst_in c hc))
      exact ⟨(a, f), fun _ => h⟩
    · exact ⟨(default, fun _ => 0), fun h => absurd h hc⟩
  obtain ⟨f, hf⟩ := Classical.skolem.mp K
  have o4 : (Cond.arrayOver (.object RX4)).before #[Value.ref b] s = true := hts _ (tbl_at (i := 398) (by decide +kernel))
  have o7 : (Cond.arrayOver (.object RX7)).before #[Value.ref b] s = true := hts _ (tbl_at (i := 299) (by decide +kernel))
  have o8 : (Cond.arrayOver (.object RX8)).before #[Value.ref b] s = true := hts _ (tbl_at (i := 379) (by decide +kernel))
  have oA : (Cond.arrayOver (.array .int)).before #[Value.ref b] s = true := hts _ (tbl_at (i := 400) (by decide +kernel))
  have aI : (Cond.arrayClass .int).before #[Value.ref b] s = true := hts _ (tbl_at (i := 171) (by decide +kernel))
  have aZ : (Cond.arrayClass .boolean).before #[Value.ref b] s = true := hts _ (tbl_at (i := 1451) (by decide +kernel))
  obtain ⟨cI, kI, pI, i1, i2, i3⟩ := Cond.arrayClass_spec aI
  obtain ⟨cZ, kZ, pZ, z1, z2, z3⟩ := Cond.arrayClass_spec aZ
  obtain ⟨p4, c4, k4, f41, f42, f43, f44, f45⟩ := Cond.arrayOver_spec o4
  obtain ⟨p7, c7, k7, f71, f72, f73, f74, f75⟩ := Cond.arrayOver_spec o7
  obtain ⟨p8, c8, k8, f81, f82, f83, f84, f85⟩ := Cond.arrayOver_spec o8
  obtain ⟨pA, cA, kA, fA1, fA2, fA3, fA4, fA5⟩ := arrayOverA_spec oA
  refine ⟨(fun c => (f c).1, fun c => (f c).2), fun k => if k = 11 then cI else if k = 12 then cZ else if k = 13 then c4 else if k = 14 then c7 else if k = 15 then c8 else cA, ⟨fun c q hq => ?_, fun k q hq => ?_⟩, fun w hw => ?_, va_AO.of o4, va_AO.of o7, va_AO.of o8, oA⟩
  · have hc : c ≤ 10 := by
      rcases Nat.lt_or_ge c 11 with z | z
      · omega
      · have : mcl[c]? = none := List.getElem?_eq_none (by show 11 ≤ c; exact z)
        rw [this] at hq
        cases hq
    rw [mcl_at c hc] at hq
    cases hq
    exact hf c hc
  · match k, hq with
    | 0, hq => cases hq; exact ⟨fun n z => ⟨fun k h => (by cases h), kI, i2, pI, i3⟩, i1⟩
    | 1, hq => cases hq; exact ⟨fun n z => ⟨fun k h => (by cases h), kZ, z2, pZ, z3⟩, z1⟩
    | 2, hq => cases hq; exact ⟨fun n z => ⟨fun k h => (by cases h), k4, f43, p4, f44⟩, k4, p4, f43, f44, f41, f45⟩
    | 3, hq => cases hq; exact ⟨fun n z => ⟨fun k h => (by cases h), k7, f73, p7, f74⟩, k7, p7, f73, f74, f71, f75⟩
    | 4, hq => cases hq; exact ⟨fun n z => ⟨fun k h => (by cases h), k8, f83, p8, f84⟩, k8, p8, f83, f84, f81, f85⟩
    | 5, hq => cases hq; exact ⟨fun n z => ⟨fun k h => (by cases h), kA, fA3, pA, fA4⟩, fA5⟩
    | k + 6, hq => simp [mty] at hq
  · have h6 := (List.mem_filter.mp hw).2
    have h7 : w.before #[Value.ref b] s = true := hts w (List.mem_append_right _ (List.mem_filter.mp hw).1)
    cases w <;> first | (cases h6; done) | exact va_Nw.of rfl h7
theorem li_X9 : liB 9 yX9_init cX9_init 3 4 85 [134, 136, 118, 135] = true := by decide +kernel
theorem li_X10 : liB 12 yX10_init cX10_init 1 1 20 [1316, 1318, 130, 1317] = true := by decide +kernel
