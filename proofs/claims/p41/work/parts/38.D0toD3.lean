section
/-! THE CLAIM OUT OF ONE WALK OF THE LAW'S BODY. Your part is whole_start (and what it stands on); all else here is the same for every law, but numbers. -/
def R_law : String := "NameKeeperLaw"
def lw_P (b : Addr) (xs : List Int32) (args : Array Value) (s : State) : Prop := args = #[.ref b] ∧ s.IntsAt b xs ∧ xs.length ≤ 3072 ∧ (Jvm.Cond.and given_1 narrow_1).before args s = true
def lw_Q (_ : Array Value) (s : State) (o : Outcome) (t : State) : Prop := o = .returned (some (.int 1)) ∧ Framed s o t [] 600000 7302250
def lw_Z (below : List Frame) (a : Array Value) (s : State) : State → Prop := fun t => ∃ o, t.status = .running ∧ Ended t below o ∧ lw_Q a s o t
/-- the law's own end, with 1 on the stack, nothing written that was there before, its room as the claim has it -/
theorem lw_ret {p : Program} {l : Launch} {e : Env} {s : State} {m : MethodId} {below : List Frame} {meth : Method} {c : Code} {b : Nat} (hx : p.tables.exec = Jvm.exec) (hb : c.code = code) (hr : meth.sig.returnType = ret) (hlocks : meth.locks = false) {pc : Nat} {H : Heap} {ls : Array Slot} (hdg : decode code pc = .ok (.ireturn, 1)) : W p l e room_1 s m #[Value.ref b] below meth c H [] 600000 7302250 (lw_Z below #[Value.ref b] s) (F0 m pc ls [.int 1]) := by
  intro T hT X
  obtain ⟨fs, hret, hrun, hended, hW, hframe⟩ := X.leave (v := some (.int 1)) (hlocks := hlocks) (fun h => by rw [hr] at h; cases h)
  have hmeth' : T.vm.method? m = some meth := X.method'
  refine ⟨T.setFrames fs, ?_, .returned (some (.int 1)), hrun, hended, rfl, ⟨_, rfl⟩, hW, hframe⟩
  jvm_step X.here [X.here.top, hx, hb, hdg, hmeth', hr, ret, narrow_b1]
  (try refine ⟨rfl, ?_⟩); (try refine ⟨rfl, ?_⟩)
  first | (intro acts; rw [hret _ acts rfl rfl rfl]) | rw [hret _ _ rfl rfl rfl]
  exact Steps.refl _
/-- what holds at the law's entry: the machine, the code, the tables' words (any of lw_tbl by 'hts w (by decide +kernel)'), the script of L ints xs at the cell b, what the Statement gives of the start (any of its parts by flat_of_before) -/
def lw_At (p : Program) (s : State) (m : MethodId) (meth : Method) (c : Code) (b L : Nat) (xs : Nat → Int32) : Prop :=
  p.tables.exec = Jvm.exec ∧ c.code = code ∧ meth.sig.returnType = ret ∧ c.maxLocals = 4 ∧ s.vm.findClass R_law = some m.cls ∧ (∀ w ∈ lw_tbl, w.before #[Value.ref b] s = true) ∧ va_X b L xs s s.heap ∧ b < s.heap.size ∧ meth.locks = false ∧ (Jvm.Cond.and given_1 narrow_1).before #[Value.ref b] s = true
end
section
/-! The law's own walk: rows over the small machine's heap. -/
abbrev LT : Type := Program × Launch × Env × State × MethodId × List Frame × Method × Code × va_G × (Nat → ClassId) × Nat
/-- what holds all along the law -/
def LX (X : LT) (L : Nat) (xs : Nat → Int32) : Prop :=
  match X with
  | (p, _, _, s, m, _, meth, c, D, cy, b) => p.tables.exec = Jvm.exec ∧ c.code = code ∧ meth.sig.returnType = ret ∧ c.maxLocals = 4 ∧ s.vm.findClass R_law = some m.cls ∧ (∀ w ∈ lw_good, w.before #[Value.ref b] s = true) ∧ va_X b L xs s s.heap ∧ b < s.heap.size ∧ meth.locks = false ∧ va_K D mcl (mty cy) s ∧ NW s ∧ L ≤ 3072
/-- at pc, with st on the stack, the heap u, the count i: the law comes to its end -/
def Gl (X : LT) (i pc : Nat) (st : List Value) (u : MH) : Prop :=
  match X with
  | (p, l, e, s, m, below, meth, c, D, cy, b) => ∀ (H : Heap) (locs : List Loc) (ls : Array Slot), HR D cy s.heap.size u H → va_S (fun q => s.heap.size ≤ q) s.heap H locs → lv_has ls 4 [(0, .ref b), (1, .ref (s.heap.size + 0)), (2, .ref (s.heap.size + 188)), (3, .int (nI i))] → W p l e room_1 s m #[Value.ref b] below meth c H locs (sz u) (sl u) (lw_Z below #[Value.ref b] s) (F0 m pc ls st)
def bs (X : LT) : Nat := X.2.2.2.1.heap.size
theorem gl_x {X : LT} {L : Nat} {xs : Nat → Int32} (C : LX X L xs) {i pc : Nat} {st : List Value} {u : MH} (d0 : decode code pc = .ok (.aload_n 1, 1)) (h : Gl X i (pc + 1) (.ref (bs X + 0) :: st) u) : Gl X i pc st u := by
  obtain ⟨p, l, e, s, m, below, meth, c, D, cy, b⟩ := X
  obtain ⟨hx, hb, hr, hml, hown, hts, hX, hbl, hlocks, hK, hN, hL⟩ := C
  intro H locs ls hH hS hl
  exact lv_aload_n hx hb d0 rfl (lv_at hl 1 rfl) (h H locs ls hH hS hl)
theorem gl_m {X : LT} {L : Nat} {xs : Nat → Int32} (C : LX X L xs) {i pc : Nat} {st : List Value} {u : MH} (d0 : decode code pc = .ok (.aload_n 2, 1)) (h : Gl X i (pc + 1) (.ref (bs X + 188) :: st) u) : Gl X i pc st u := by
  obtain ⟨p, l, e, s, m, below, meth, c, D, cy, b⟩ := X
  obtain ⟨hx, hb, hr, hml, hown, hts, hX, hbl, hlocks, hK, hN, hL⟩ := C
  intro H locs ls hH hS hl
  exact lv_aload_n hx hb d0 rfl (lv_at hl 2 rfl) (h H locs ls hH hS hl)
theorem gl_arg {X : LT} {L : Nat} {xs : Nat → Int32} (C : LX X L xs) {i pc : Nat} {st : List Value} {u : MH} {k : Nat} {ki : Int} (hk : i + k < L) (hki : Int32.ofInt ki = nI k) (d0 : decode code pc = .ok (.aload_n 0, 1)) (d1 : decode code (pc + 1) = .ok (.iload_n 3, 1)) (d2 : decode code (pc + 2) = .ok (.iconst ki, 1)) (d3 : decode code (pc + 3) = .ok (.iadd, 1)) (d4 : decode code (pc + 4) = .ok (.iaload, 1)) (h : Gl X i (pc + 5) (.int (xs (i + k)) :: st) u) : Gl X i pc st u := by
  obtain ⟨p, l, e, s, m, below, meth, c, D, cy, b⟩ := X
  obtain ⟨hx, hb, hr, hml, hown, hts, hX, hbl, hlocks, hK, hN, hL⟩ := C
  intro H locs ls hH hS hl
  have hbA : ¬ (fun q : Nat => s.heap.size ≤ q) b := Nat.not_le.mpr hbl
  refine lv_aload_n hx hb d0 rfl (lv_at hl 0 rfl) ?_
  refine lv_iload_n hx hb d1 rfl (lv_at hl 3 rfl) ?_
  refine lv_iconst (v := nI k) hx hb d2 hki ?_
  refine lv_iadd hx hb d3 ?_
  rw [nI_add]
  refine va_sld hx hb hX hbl hbA hS (vp_in_nI hk (by omega)) d4 ?_
  rw [nI_clamp (by omega)]
  exact h H locs ls hH hS hl
/-- script[i + k] != 0 -/
theorem gl_flag {X : LT} {L : Nat} {xs : Nat → Int32} (C : LX X L xs) {i pc : Nat} {st : List Value} {u : MH} {k : Nat} {ki o1 o2 : Int} (hk : i + k < L) (hki : Int32.ofInt ki = nI k) (d0 : decode code pc = .ok (.aload_n 0, 1)) (d1 : decode code (pc + 1) = .ok (.iload_n 3, 1)) (d2 : decode code (pc + 2) = .ok (.iconst ki, 1)) (d3 : decode code (pc + 3) = .ok (.iadd, 1)) (d4 : decode code (pc + 4) = .ok (.iaload, 1)) (d5 : decode code (pc + 5) = .ok (.ifCond .eq o1, 3)) (t1 : ((pc + 5 : Nat) : Int) + o1 = ((pc + 12 : Nat) : Int)) (d8 : decode code (pc + 8) = .ok (.iconst 1, 1)) (d9 : decode code (pc + 9) = .ok (.goto o2, 3)) (t2 : ((pc + 9 : Nat) : Int) + o2 = ((pc + 13 : Nat) : Int)) (d12 : decode code (pc + 12) = .ok (.iconst 0, 1)) (h : Gl X i (pc + 13) (.int (if xs (i + k) = 0 then 0 else 1) :: st) u) : Gl X i pc st u := by
  refine gl_arg C hk hki d0 d1 d2 d3 d4 ?_
  obtain ⟨p, l, e, s, m, below, meth, c, D, cy, b⟩ := X
  obtain ⟨hx, hb, hr, hml, hown, hts, hX, hbl, hlocks, hK, hN, hL⟩ := C
  intro H locs ls hH hS hl
  refine lv_if_eq (tgt := pc + 12) hx hb d5 t1 (fun z => ?_) (fun z => ?_)
  · refine lv_iconst (v := 0) hx hb d12 (by decide) ?_
    have := h H locs ls hH hS hl
    rw [if_pos z] at this
    exact this
  · refine lv_iconst (v := 1) hx hb d8 (by decide) ?_
    refine lv_goto (tgt := pc + 13) hx hb d9 t2 ?_
    have := h H locs ls hH hS hl
    rw [if_neg z] at this
    exact this
theorem gl_eq {X : LT} {L : Nat} {xs : Nat → Int32} (C : LX X L xs) {i pc tg : Nat} {st : List Value} {u : MH} {v w : Int32} {o : Int} (ee : v = w) (d0 : decode code pc = .ok (.if_icmp .eq o, 3)) (t0 : (pc : Int) + o = (tg : Int)) (h : Gl X i tg st u) : Gl X i pc (.int w :: .int v :: st) u := by
  obtain ⟨p, l, e, s, m, below, meth, c, D, cy, b⟩ := X
  obtain ⟨hx, hb, hr, hml, hown, hts, hX, hbl, hlocks, hK, hN, hL⟩ := C
  intro H locs ls hH hS hl
  exact lv_icmp_eq (tgt := tg) hx hb d0 t0 (fun _ => h H locs ls hH hS hl) (fun z => absurd ee z)
theorem gl_pop {X : LT} {L : Nat} {xs : Nat → Int32} (C : LX X L xs) {i pc : Nat} {st : List Value} {u : MH} {v : Int32} (d0 : decode code pc = .ok (.pop, 1)) (h : Gl X i (pc + 1) st u) : Gl X i pc (.int v :: st) u := by
  obtain ⟨p, l, e, s, m, below, meth, c, D, cy, b⟩ := X
  obtain ⟨hx, hb, hr, hml, hown, hts, hX, hbl, hlocks, hK, hN, hL⟩ := C
  intro H locs ls hH hS hl
  exact lv_pop hx hb d0 rfl (h H locs ls hH hS hl)
theorem gl_goto {X : LT} {L : Nat} {xs : Nat → Int32} (C : LX X L xs) {i pc tg : Nat} {st : List Value} {u : MH} {o : Int} (d0 : decode code pc = .ok (.goto o, 3)) (t0 : (pc : Int) + o = (tg : Int)) (h : Gl X i tg st u) : Gl X i pc st u := by
  obtain ⟨p, l, e, s, m, below, meth, c, D, cy, b⟩ := X
  obtain ⟨hx, hb, hr, hml, hown, hts, hX, hbl, hlocks, hK, hN, hL⟩ := C
  intro H locs ls hH hS hl
  exact lv_goto (tgt := tg) hx hb d0 t0 (h H locs ls hH hS hl)
/-- what the tables say of a call of the law -/
def lcB (idx : Nat) (y : MethodName) (cc : ByteArray) (nL : Nat) (rt : Option FieldType) (fr lc ci n : Nat) (ws : List Nat) : Bool :=
  wAt (ws.getD 0 0) (.methodLink R_law idx y) && wAt (ws.getD 1 0) (.code y cc nL rt) && wAt (ws.getD 2 0) (.initialized y.cls)
    && decide (y.cls ≠ "java/lang/invoke/MethodHandle" ∧ y.cls ≠ "java/lang/invoke/VarHandle" ∧ (parseMethodDescriptor y.desc).map (fun d => d.parameters.length) = some n)
    && Nat.ble (fr + 1) 14 && Nat.ble (8 + (nL + 11) + lc) 550 && Nat.ble ci 10 && wAt (ws.getD 3 0) (.instanceMethod y) && wAt (ws.getD 4 0) (.selects (RXc ci) y y)
theorem lcb_mk {idx nL fr lc ci n p0 p1 p2 p3 p4 : Nat} {y : MethodName} {cc : ByteArray} {rt : Option FieldType} (w0 : wAt p0 (.methodLink R_law idx y) = true) (w1 : wAt p1 (.code y cc nL rt) = true) (w2 : wAt p2 (.initialized y.cls) = true) (nm : nmB y n = true) (hf : Nat.ble (fr + 1) 14 = true) (hl : Nat.ble (8 + (nL + 11) + lc) 550 = true) (hc : Nat.ble ci 10 = true) (w3 : wAt p3 (.instanceMethod y) = true) (w4 : wAt p4 (.selects (RXc ci) y y) = true) : lcB idx y cc nL rt fr lc ci n [p0, p1, p2, p3, p4] = true := by
  show (wAt p0 (.methodLink R_law idx y) && wAt p1 (.code y cc nL rt) && wAt p2 (.initialized y.cls) && nmB y n && Nat.ble (fr + 1) 14 && Nat.ble (8 + (nL + 11) + lc) 550 && Nat.ble ci 10 && wAt p3 (.instanceMethod y) && wAt p4 (.selects (RXc ci) y y)) = true
  rw [w0, w1, w2, nm, hf, hl, hc, w3, w4]
  rfl
theorem gl_call {X : LT} {L : Nat} {xs : Nat → Int32} (C : LX X L xs) {i pc : Nat} {idx nL fr lc ci n : Nat} {y : MethodName} {cc : ByteArray} {rt : Option FieldType} {M : MF} {ws : List Nat} (S : Sd y cc nL rt fr lc M) (hc : lcB idx y cc nL rt fr lc ci n ws = true) {a : Nat} {as : List MV} {u u1 : MH} {v : Int32} (hM : M (mR (some a) :: as) u = some (some (mI v), u1)) (hkd : kd u a = ci) (hz : sz u1 ≤ 600000) (hw : sl u1 ≤ 7302250) (hn : as.length = n) {rest stk : List Value} (hst : stk = (as.map (mval (bs X))).reverse ++ .ref (bs X + a) :: rest) (hrest : rest = [] ∨ ∃ x, rest = [.int x]) (d0 : decode code pc = .ok (.invokevirtual idx, 3)) (h : Gl X i (pc + 3) (.int v :: rest) u1) : Gl X i pc stk u := by
  obtain ⟨p, l, e, s, m, below, meth, c, D, cy, b⟩ := X
  obtain ⟨hx, hb, hr, hml, hown, hts, hX, hbl, hlocks, hK, hN, hL⟩ := C
  intro H locs ls hH hS hl
  simp only [lcB, Bool.and_eq_true, decide_eq_true_eq] at hc
  obtain ⟨⟨⟨⟨⟨⟨⟨⟨a1, a2⟩, a3⟩, a4⟩, a5⟩, a6⟩, a7⟩, a8⟩, a9⟩ := hc
  have hrc := Nat.le_of_ble_eq_true a7
  have hcode := wAt_in a2
  obtain ⟨mono, hmet⟩ := S _ _ _ _ hM
  obtain ⟨r', hr', cellB, c1, c2', c3, -⟩ := hH.obj hkd hrc
  have hcat : (rest.map fun v => v.category).sum ≤ 8 := by
    rcases hrest with z | ⟨x, z⟩
    · rw [z]; exact Nat.zero_le _
    · rw [z]; exact Nat.le_of_ble_eq_true rfl
  have hfit : sz u + (sz u1 - sz u) ≤ room_1.cells ∧ sl u + (sl u1 - sl u) ≤ room_1.slots := by
    show _ ≤ 600000 ∧ _ ≤ 7302250
    omega
  have hpay := pay_in hts (ws := Cond.code y cc nL rt :: lw_good) (fun w hw => by
    rcases List.mem_cons.mp hw with h | h
    · rw [h]; exact lw_goodIn _ hcode
    · exact lw_goodIn _ h)
  have hpar : ∀ sig, parseMethodDescriptor y.desc = some sig → n = sig.parameters.length := fun sig hs => by
    have h3 := a4.2.2
    rw [hs] at h3
    exact (Option.some.inj h3).symm
  have hn2 : (as.map (mval s.heap.size)).length = n := by rw [List.length_map, hn]
  have hp : PreV s H (RXc ci) (s.heap.size + a) (mP D cy s.heap.size u (mR (some a) :: as)) (as.map (mval s.heap.size)) :=
    ⟨mP_blind _ _ _ _ _, ⟨cellB, c1, by rw [c3]; rfl, by rw [c2']; exact (hK.1 ci _ (mcl_at ci hrc)).2.1⟩, fun U hU hW => ⟨rfl, by rw [hU]; exact hH, va_K.moved hW.alike hK, hN.warm hW⟩⟩
  exact mm_call (va_runV (C := RXc ci) (b := s.heap.size + a) (As := as.map (mval s.heap.size)) (rest := rest) ⟨hx, hb, hml, hown, hts⟩ (hmet l D cy s.heap.size) ⟨⟨rfl, rfl, Nat.le_of_ble_eq_true a5, Nat.le_of_ble_eq_true a6, hpay, List.mem_cons_self, hts _ hcode, hts _ (wAt_in a3), ⟨a4.1, a4.2.1⟩, hpar, hts _ (wAt_in a1)⟩, hts _ (wAt_in a8), hts _ (wAt_in a9)⟩ hp rfl hn2 hl.1 hst (by show 2 * 0 + _ ≤ 8; omega) d0 hfit) hS (fun H1 locs1 hH1 hS1 => by
    have := h H1 locs1 ls hH1 hS1 hl
    rw [show sz u + (sz u1 - sz u) = sz u1 by omega, show sl u + (sl u1 - sl u) = sl u1 by omega]
    exact this)
/-- the loop's end and its switch -/
theorem gl_head {X : LT} {L : Nat} {xs : Nat → Int32} (C : LX X L xs) {i pc tg : Nat} {u : MH} {o : Int} (hi : i ≤ 6144) (d0 : decode code pc = .ok (.iload_n 3, 1)) (d1 : decode code (pc + 1) = .ok (.aload_n 0, 1)) (d2 : decode code (pc + 2) = .ok (.arraylength, 1)) (d3 : decode code (pc + 3) = .ok (.bipush 6, 2)) (d5 : decode code (pc + 5) = .ok (.isub, 1)) (d6 : decode code (pc + 6) = .ok (.if_icmp .gt o, 3)) (t0 : ((pc + 6 : Nat) : Int) + o = (tg : Int)) (he : L < i + 6 → Gl X i tg [] u) (hn : i + 6 ≤ L → Gl X i (pc + 9) [] u) : Gl X i pc [] u := by
  obtain ⟨p, l, e, s, m, below, meth, c, D, cy, b⟩ := X
  obtain ⟨hx, hb, hr, hml, hown, hts, hX, hbl, hlocks, hK, hN, hL⟩ := C
  intro H locs ls hH hS hl
  have hbA : ¬ (fun q : Nat => s.heap.size ≤ q) b := Nat.not_le.mpr hbl
  refine lv_iload_n hx hb d0 rfl (lv_at hl 3 rfl) ?_
  refine lv_aload_n hx hb d1 rfl (lv_at hl 0 rfl) ?_
  refine va_slen hx hb hX hbl hbA hS d2 ?_
  refine lv_bipush (v := 6) hx hb d3 (by decide) ?_
  refine lv_isub hx hb d5 ?_
  have tv : (Int32.ofNat L - 6 : Int32).toInt = (L : Int) - 6 := by
    have e1 : (Int32.ofNat L).toInt = (L : Int) := nI_toInt (n := L) (by omega)
    rw [Int32.toInt_sub, e1, show (6 : Int32).toInt = 6 from rfl]
    exact Int.bmod_eq_of_le (by omega) (by omega)
  have iv : (nI i).toInt = (i : Int) := nI_toInt (by omega)
  refine lv_icmp_gt (tgt := tg) hx hb d6 t0 (fun z => ?_) (fun z => ?_)
  · refine he ?_ H locs ls hH hS hl
    rw [Int32.lt_iff_toInt_lt, tv, iv] at z
    omega
  · refine hn ?_ H locs ls hH hS hl
    rw [Int32.lt_iff_toInt_lt, tv, iv] at z
    omega
theorem gl_end {X : LT} {L : Nat} {xs : Nat → Int32} (C : LX X L xs) {i pc : Nat} {u : MH} (d0 : decode code pc = .ok (.iconst 1, 1)) (d1 : decode code (pc + 1) = .ok (.ireturn, 1)) (hz : sz u ≤ 600000) (hw : sl u ≤ 7302250) : Gl X i pc [] u := by
  obtain ⟨p, l, e, s, m, below, meth, c, D, cy, b⟩ := X
  obtain ⟨hx, hb, hr, hml, hown, hts, hX, hbl, hlocks, hK, hN, hL⟩ := C
  intro H locs ls hH hS hl
  refine lv_iconst (v := 1) hx hb d0 (by decide) ?_
  refine va_forget (fun q hq => hS.2.2 q hq) ?_
  refine W.widen (k := 600000) (n := 7302250) hz hw ?_
  exact lw_ret hx hb hr hlocks d1
theorem gl_next {X : LT} {L : Nat} {xs : Nat → Int32} (C : LX X L xs) {i pc tg : Nat} {u : MH} {o : Int} (d0 : decode code pc = .ok (.iinc 3 6, 3)) (d3 : decode code (pc + 3) = .ok (.goto o, 3)) (t0 : ((pc + 3 : Nat) : Int) + o = (tg : Int)) (h : Gl X (i + 6) tg [] u) : Gl X i pc [] u := by
  obtain ⟨p, l, e, s, m, below, meth, c, D, cy, b⟩ := X
  obtain ⟨hx, hb, hr, hml, hown, hts, hX, hbl, hlocks, hK, hN, hL⟩ := C
  intro H locs ls hH hS hl
  refine lv_iinc (v := nI (i + 6)) (lv' := [(3, .int (nI (i + 6))), (0, .ref b), (1, .ref (s.heap.size + 0)), (2, .ref (s.heap.size + 188))]) hx hb d0 hl (k := 3) rfl (by rw [← nI_add]; rfl) (by decide) rfl (fun ls hl => ?_)
  refine lv_goto (tgt := tg) hx hb d3 t0 ?_
  exact h H locs ls hH hS (lv_sub hl [1, 2, 3, 0] rfl)
/-- which call -/
theorem gl_switch {X : LT} {L : Nat} {xs : Nat → Int32} (C : LX X L xs) {i pc : Nat} {u : MH} {dflt : Int} {offs : Array Int} {len df : Nat} {tg : Nat → Nat} (hi : i + 6 ≤ L) (d0 : decode code pc = .ok (.aload_n 0, 1)) (d1 : decode code (pc + 1) = .ok (.iload_n 3, 1)) (d2 : decode code (pc + 2) = .ok (.iaload, 1)) (d3 : decode code (pc + 3) = .ok (.bipush 63, 2)) (d5 : decode code (pc + 5) = .ok (.iand, 1)) (d6 : decode code (pc + 6) = .ok (.tableswitch dflt 0 39 offs, len)) (tD : ((pc + 6 : Nat) : Int) + dflt = (df : Int)) (tO : ∀ k, k < 40 → offs[k]? = some (((tg k : Nat) : Int) - ((pc + 6 : Nat) : Int))) (hd : Gl X i df [] u) (hc : ∀ k, k < 40 → Gl X i (tg k) [] u) : Gl X i pc [] u := by
  obtain ⟨p, l, e, s, m, below, meth, c, D, cy, b⟩ := X
  obtain ⟨hx, hb, hr, hml, hown, hts, hX, hbl, hlocks, hK, hN, hL⟩ := C
  intro H locs ls hH hS hl
  have hbA : ¬ (fun q : Nat => s.heap.size ≤ q) b := Nat.not_le.mpr hbl
  refine lv_aload_n hx hb d0 rfl (lv_at hl 0 rfl) ?_
  refine lv_iload_n hx hb d1 rfl (lv_at hl 3 rfl) ?_
  refine va_sld hx hb hX hbl hbA hS (vp_in_nI (show i < L by omega) (by omega)) d2 ?_
  refine lv_bipush (v := 63) hx hb d3 (by decide) ?_
  refine lv_iand hx hb d5 ?_
  refine lv_topi (fun y _ => ?_)
  by_cases z : y.toInt < 0 ∨ 39 < y.toInt
  · exact lv_tableOut (tgt := df) hx hb d6 z tD (hd H locs ls hH hS hl)
  · have k40 : y.toInt.toNat < 40 := by omega
    exact lv_tableIn (tgt := tg y.toInt.toNat) hx hb d6 (fun w => z (Or.inl w)) (fun w => z (Or.inr w)) (by rw [Int.sub_zero]; exact tO _ k40) (by omega) (hc _ k40 H locs ls hH hS hl)
end
section
/-! The law's instructions. Written by wip/gen/law.py. -/
def lawB (q : Nat × Jvm.ClassFile.Instr × Nat) : Bool := match decode code q.1 with
  | .ok (i, n) => decide (i = q.2.1) && Nat.beq n q.2.2
  | _ => false
theorem law_d {l : List (Nat × Jvm.ClassFile.Instr × Nat)} (h : l.all lawB = true) {k pc n : Nat} {i : Jvm.ClassFile.Instr} (hk : l[k]? = some (pc, i, n)) : decode code pc = .ok (i, n) := by
  have h1 := List.all_eq_true.mp h _ (List.mem_of_getElem? hk)
  unfold lawB at h1
  split at h1
  · rename_i i' n' hd
    simp only [Bool.and_eq_true, decide_eq_true_eq] at h1
    have e := Nat.eq_of_beq_eq_true h1.2
    rw [hd, h1.1, e]
  · cases h1
def lD0 : List (Nat × Jvm.ClassFile.Instr × Nat) := [(0, .new 7, 3), (3, .dup, 1), (4, .invokespecial 9, 3), (7, .astore_n 1, 1), (8, .new 10, 3), (11, .dup, 1), (12, .invokespecial 12, 3), (15, .astore_n 2, 1), (16, .iconst 0, 1), (17, .istore_n 3, 1), (18, .iload_n 3, 1), (19, .aload_n 0, 1), (20, .arraylength, 1), (21, .bipush 6, 2), (23, .isub, 1), (24, .if_icmp .gt 1132, 3), (27, .aload_n 0, 1), (28, .iload_n 3, 1), (29, .iaload, 1), (30, .bipush 63, 2), (32, .iand, 1), (33, .tableswitch 1117 0 39 #[175, 238, 261, 274, 297, 320, 353, 412, 445, 468, 501, 524, 537, 550, 573, 596, 619, 632, 671, 684, 697, 710, 733, 756, 779, 802, 825, 848, 861, 884, 907, 930, 943, 966, 989, 1012, 1035, 1058, 1071, 1094], 175), (208, .aload_n 1, 1), (209, .aload_n 0, 1), (210, .iload_n 3, 1), (211, .iconst 1, 1), (212, .iadd, 1), (213, .iaload, 1), (214, .aload_n 0, 1), (215, .iload_n 3, 1), (216, .iconst 2, 1), (217, .iadd, 1), (218, .iaload, 1), (219, .aload_n 0, 1), (220, .iload_n 3, 1), (221, .iconst 3, 1), (222, .iadd, 1), (223, .iaload, 1), (224, .aload_n 0, 1), (225, .iload_n 3, 1), (226, .iconst 4, 1), (227, .iadd, 1), (228, .iaload, 1), (229, .aload_n 0, 1), (230, .iload_n 3, 1), (231, .iconst 5, 1), (232, .iadd, 1), (233, .iaload, 1)]
theorem lD0_ok : lD0.all lawB = true := by decide +kernel
theorem d_0 : decode code 0 = .ok (.new 7, 3) := law_d lD0_ok (k := 0) rfl
theorem d_3 : decode code 3 = .ok (.dup, 1) := law_d lD0_ok (k := 1) rfl
theorem d_4 : decode code 4 = .ok (.invokespecial 9, 3) := law_d lD0_ok (k := 2) rfl
theorem d_7 : decode code 7 = .ok (.astore_n 1, 1) := law_d lD0_ok (k := 3) rfl
theorem d_8 : decode code 8 = .ok (.new 10, 3) := law_d lD0_ok (k := 4) rfl
theorem d_11 : decode code 11 = .ok (.dup, 1) := law_d lD0_ok (k := 5) rfl
theorem d_12 : decode code 12 = .ok (.invokespecial 12, 3) := law_d lD0_ok (k := 6) rfl
theorem d_15 : decode code 15 = .ok (.astore_n 2, 1) := law_d lD0_ok (k := 7) rfl
theorem d_16 : decode code 16 = .ok (.iconst 0, 1) := law_d lD0_ok (k := 8) rfl
theorem d_17 : decode code 17 = .ok (.istore_n 3, 1) := law_d lD0_ok (k := 9) rfl
theorem d_18 : decode code 18 = .ok (.iload_n 3, 1) := law_d lD0_ok (k := 10) rfl
theorem d_19 : decode code 19 = .ok (.aload_n 0, 1) := law_d lD0_ok (k := 11) rfl
theorem d_20 : decode code 20 = .ok (.arraylength, 1) := law_d lD0_ok (k := 12) rfl
theorem d_21 : decode code 21 = .ok (.bipush 6, 2) := law_d lD0_ok (k := 13) rfl
theorem d_23 : decode code 23 = .ok (.isub, 1) := law_d lD0_ok (k := 14) rfl
theorem d_24 : decode code 24 = .ok (.if_icmp .gt 1132, 3) := law_d lD0_ok (k := 15) rfl
theorem d_27 : decode code 27 = .ok (.aload_n 0, 1) := law_d lD0_ok (k := 16) rfl
theorem d_28 : decode code 28 = .ok (.iload_n 3, 1) := law_d lD0_ok (k := 17) rfl
theorem d_29 : decode code 29 = .ok (.iaload, 1) := law_d lD0_ok (k := 18) rfl
theorem d_30 : decode code 30 = .ok (.bipush 63, 2) := law_d lD0_ok (k := 19) rfl
theorem d_32 : decode code 32 = .ok (.iand, 1) := law_d lD0_ok (k := 20) rfl
theorem d_33 : decode code 33 = .ok (.tableswitch 1117 0 39 #[175, 238, 261, 274, 297, 320, 353, 412, 445, 468, 501, 524, 537, 550, 573, 596, 619, 632, 671, 684, 697, 710, 733, 756, 779, 802, 825, 848, 861, 884, 907, 930, 943, 966, 989, 1012, 1035, 1058, 1071, 1094], 175) := law_d lD0_ok (k := 21) rfl
theorem d_208 : decode code 208 = .ok (.aload_n 1, 1) := law_d lD0_ok (k := 22) rfl
theorem d_209 : decode code 209 = .ok (.aload_n 0, 1) := law_d lD0_ok (k := 23) rfl
theorem d_210 : decode code 210 = .ok (.iload_n 3, 1) := law_d lD0_ok (k := 24) rfl
theorem d_211 : decode code 211 = .ok (.iconst 1, 1) := law_d lD0_ok (k := 25) rfl
theorem d_212 : decode code 212 = .ok (.iadd, 1) := law_d lD0_ok (k := 26) rfl
theorem d_213 : decode code 213 = .ok (.iaload, 1) := law_d lD0_ok (k := 27) rfl
theorem d_214 : decode code 214 = .ok (.aload_n 0, 1) := law_d lD0_ok (k := 28) rfl
theorem d_215 : decode code 215 = .ok (.iload_n 3, 1) := law_d lD0_ok (k := 29) rfl
theorem d_216 : decode code 216 = .ok (.iconst 2, 1) := law_d lD0_ok (k := 30) rfl
theorem d_217 : decode code 217 = .ok (.iadd, 1) := law_d lD0_ok (k := 31) rfl
theorem d_218 : decode code 218 = .ok (.iaload, 1) := law_d lD0_ok (k := 32) rfl
theorem d_219 : decode code 219 = .ok (.aload_n 0, 1) := law_d lD0_ok (k := 33) rfl
theorem d_220 : decode code 220 = .ok (.iload_n 3, 1) := law_d lD0_ok (k := 34) rfl
theorem d_221 : decode code 221 = .ok (.iconst 3, 1) := law_d lD0_ok (k := 35) rfl
theorem d_222 : decode code 222 = .ok (.iadd, 1) := law_d lD0_ok (k := 36) rfl
theorem d_223 : decode code 223 = .ok (.iaload, 1) := law_d lD0_ok (k := 37) rfl
theorem d_224 : decode code 224 = .ok (.aload_n 0, 1) := law_d lD0_ok (k := 38) rfl
theorem d_225 : decode code 225 = .ok (.iload_n 3, 1) := law_d lD0_ok (k := 39) rfl
theorem d_226 : decode code 226 = .ok (.iconst 4, 1) := law_d lD0_ok (k := 40) rfl
theorem d_227 : decode code 227 = .ok (.iadd, 1) := law_d lD0_ok (k := 41) rfl
theorem d_228 : decode code 228 = .ok (.iaload, 1) := law_d lD0_ok (k := 42) rfl
theorem d_229 : decode code 229 = .ok (.aload_n 0, 1) := law_d lD0_ok (k := 43) rfl
theorem d_230 : decode code 230 = .ok (.iload_n 3, 1) := law_d lD0_ok (k := 44) rfl
theorem d_231 : decode code 231 = .ok (.iconst 5, 1) := law_d lD0_ok (k := 45) rfl
theorem d_232 : decode code 232 = .ok (.iadd, 1) := law_d lD0_ok (k := 46) rfl
theorem d_233 : decode code 233 = .ok (.iaload, 1) := law_d lD0_ok (k := 47) rfl
def lD1 : List (Nat × Jvm.ClassFile.Instr × Nat) := [(234, .invokevirtual 13, 3), (237, .pop, 1), (238, .aload_n 2, 1), (239, .aload_n 0, 1), (240, .iload_n 3, 1), (241, .iconst 1, 1), (242, .iadd, 1), (243, .iaload, 1), (244, .aload_n 0, 1), (245, .iload_n 3, 1), (246, .iconst 2, 1), (247, .iadd, 1), (248, .iaload, 1), (249, .aload_n 0, 1), (250, .iload_n 3, 1), (251, .iconst 3, 1), (252, .iadd, 1), (253, .iaload, 1), (254, .aload_n 0, 1), (255, .iload_n 3, 1), (256, .iconst 4, 1), (257, .iadd, 1), (258, .iaload, 1), (259, .aload_n 0, 1), (260, .iload_n 3, 1), (261, .iconst 5, 1), (262, .iadd, 1), (263, .iaload, 1), (264, .invokevirtual 17, 3), (267, .pop, 1), (268, .goto 882, 3), (271, .aload_n 1, 1), (272, .aload_n 0, 1), (273, .iload_n 3, 1), (274, .iconst 1, 1), (275, .iadd, 1), (276, .iaload, 1), (277, .invokevirtual 18, 3), (280, .pop, 1), (281, .aload_n 2, 1), (282, .aload_n 0, 1), (283, .iload_n 3, 1), (284, .iconst 1, 1), (285, .iadd, 1), (286, .iaload, 1), (287, .invokevirtual 22, 3), (290, .pop, 1), (291, .goto 859, 3)]
theorem lD1_ok : lD1.all lawB = true := by decide +kernel
theorem d_234 : decode code 234 = .ok (.invokevirtual 13, 3) := law_d lD1_ok (k := 0) rfl
theorem d_237 : decode code 237 = .ok (.pop, 1) := law_d lD1_ok (k := 1) rfl
theorem d_238 : decode code 238 = .ok (.aload_n 2, 1) := law_d lD1_ok (k := 2) rfl
theorem d_239 : decode code 239 = .ok (.aload_n 0, 1) := law_d lD1_ok (k := 3) rfl
theorem d_240 : decode code 240 = .ok (.iload_n 3, 1) := law_d lD1_ok (k := 4) rfl
theorem d_241 : decode code 241 = .ok (.iconst 1, 1) := law_d lD1_ok (k := 5) rfl
theorem d_242 : decode code 242 = .ok (.iadd, 1) := law_d lD1_ok (k := 6) rfl
theorem d_243 : decode code 243 = .ok (.iaload, 1) := law_d lD1_ok (k := 7) rfl
theorem d_244 : decode code 244 = .ok (.aload_n 0, 1) := law_d lD1_ok (k := 8) rfl
theorem d_245 : decode code 245 = .ok (.iload_n 3, 1) := law_d lD1_ok (k := 9) rfl
theorem d_246 : decode code 246 = .ok (.iconst 2, 1) := law_d lD1_ok (k := 10) rfl
theorem d_247 : decode code 247 = .ok (.iadd, 1) := law_d lD1_ok (k := 11) rfl
theorem d_248 : decode code 248 = .ok (.iaload, 1) := law_d lD1_ok (k := 12) rfl
theorem d_249 : decode code 249 = .ok (.aload_n 0, 1) := law_d lD1_ok (k := 13) rfl
theorem d_250 : decode code 250 = .ok (.iload_n 3, 1) := law_d lD1_ok (k := 14) rfl
theorem d_251 : decode code 251 = .ok (.iconst 3, 1) := law_d lD1_ok (k := 15) rfl
theorem d_252 : decode code 252 = .ok (.iadd, 1) := law_d lD1_ok (k := 16) rfl
theorem d_253 : decode code 253 = .ok (.iaload, 1) := law_d lD1_ok (k := 17) rfl
theorem d_254 : decode code 254 = .ok (.aload_n 0, 1) := law_d lD1_ok (k := 18) rfl
theorem d_255 : decode code 255 = .ok (.iload_n 3, 1) := law_d lD1_ok (k := 19) rfl
theorem d_256 : decode code 256 = .ok (.iconst 4, 1) := law_d lD1_ok (k := 20) rfl
theorem d_257 : decode code 257 = .ok (.iadd, 1) := law_d lD1_ok (k := 21) rfl
theorem d_258 : decode code 258 = .ok (.iaload, 1) := law_d lD1_ok (k := 22) rfl
theorem d_259 : decode code 259 = .ok (.aload_n 0, 1) := law_d lD1_ok (k := 23) rfl
theorem d_260 : decode code 260 = .ok (.iload_n 3, 1) := law_d lD1_ok (k := 24) rfl
theorem d_261 : decode code 261 = .ok (.iconst 5, 1) := law_d lD1_ok (k := 25) rfl
theorem d_262 : decode code 262 = .ok (.iadd, 1) := law_d lD1_ok (k := 26) rfl
theorem d_263 : decode code 263 = .ok (.iaload, 1) := law_d lD1_ok (k := 27) rfl
theorem d_264 : decode code 264 = .ok (.invokevirtual 17, 3) := law_d lD1_ok (k := 28) rfl
theorem d_267 : decode code 267 = .ok (.pop, 1) := law_d lD1_ok (k := 29) rfl
theorem d_268 : decode code 268 = .ok (.goto 882, 3) := law_d lD1_ok (k := 30) rfl
theorem d_271 : decode code 271 = .ok (.aload_n 1, 1) := law_d lD1_ok (k := 31) rfl
theorem d_272 : decode code 272 = .ok (.aload_n 0, 1) := law_d lD1_ok (k := 32) rfl
theorem d_273 : decode code 273 = .ok (.iload_n 3, 1) := law_d lD1_ok (k := 33) rfl
theorem d_274 : decode code 274 = .ok (.iconst 1, 1) := law_d lD1_ok (k := 34) rfl
theorem d_275 : decode code 275 = .ok (.iadd, 1) := law_d lD1_ok (k := 35) rfl
theorem d_276 : decode code 276 = .ok (.iaload, 1) := law_d lD1_ok (k := 36) rfl
theorem d_277 : decode code 277 = .ok (.invokevirtual 18, 3) := law_d lD1_ok (k := 37) rfl
theorem d_280 : decode code 280 = .ok (.pop, 1) := law_d lD1_ok (k := 38) rfl
theorem d_281 : decode code 281 = .ok (.aload_n 2, 1) := law_d lD1_ok (k := 39) rfl
theorem d_282 : decode code 282 = .ok (.aload_n 0, 1) := law_d lD1_ok (k := 40) rfl
theorem d_283 : decode code 283 = .ok (.iload_n 3, 1) := law_d lD1_ok (k := 41) rfl
theorem d_284 : decode code 284 = .ok (.iconst 1, 1) := law_d lD1_ok (k := 42) rfl
theorem d_285 : decode code 285 = .ok (.iadd, 1) := law_d lD1_ok (k := 43) rfl
theorem d_286 : decode code 286 = .ok (.iaload, 1) := law_d lD1_ok (k := 44) rfl
theorem d_287 : decode code 287 = .ok (.invokevirtual 22, 3) := law_d lD1_ok (k := 45) rfl
theorem d_290 : decode code 290 = .ok (.pop, 1) := law_d lD1_ok (k := 46) rfl
theorem d_291 : decode code 291 = .ok (.goto 859, 3) := law_d lD1_ok (k := 47) rfl
def lD2 : List (Nat × Jvm.ClassFile.Instr × Nat) := [(294, .aload_n 1, 1), (295, .invokevirtual 23, 3), (298, .pop, 1), (299, .aload_n 2, 1), (300, .invokevirtual 27, 3), (303, .pop, 1), (304, .goto 846, 3), (307, .aload_n 1, 1), (308, .aload_n 0, 1), (309, .iload_n 3, 1), (310, .iconst 1, 1), (311, .iadd, 1), (312, .iaload, 1), (313, .invokevirtual 28, 3), (316, .pop, 1), (317, .aload_n 2, 1), (318, .aload_n 0, 1), (319, .iload_n 3, 1), (320, .iconst 1, 1), (321, .iadd, 1), (322, .iaload, 1), (323, .invokevirtual 32, 3), (326, .pop, 1), (327, .goto 823, 3), (330, .aload_n 1, 1), (331, .aload_n 0, 1), (332, .iload_n 3, 1), (333, .iconst 1, 1), (334, .iadd, 1), (335, .iaload, 1), (336, .invokevirtual 33, 3), (339, .pop, 1), (340, .aload_n 2, 1), (341, .aload_n 0, 1), (342, .iload_n 3, 1), (343, .iconst 1, 1), (344, .iadd, 1), (345, .iaload, 1), (346, .invokevirtual 36, 3), (349, .pop, 1), (350, .goto 800, 3), (353, .aload_n 1, 1), (354, .aload_n 0, 1), (355, .iload_n 3, 1), (356, .iconst 1, 1), (357, .iadd, 1), (358, .iaload, 1), (359, .aload_n 0, 1)]
theorem lD2_ok : lD2.all lawB = true := by decide +kernel
theorem d_294 : decode code 294 = .ok (.aload_n 1, 1) := law_d lD2_ok (k := 0) rfl
theorem d_295 : decode code 295 = .ok (.invokevirtual 23, 3) := law_d lD2_ok (k := 1) rfl
theorem d_298 : decode code 298 = .ok (.pop, 1) := law_d lD2_ok (k := 2) rfl
theorem d_299 : decode code 299 = .ok (.aload_n 2, 1) := law_d lD2_ok (k := 3) rfl
theorem d_300 : decode code 300 = .ok (.invokevirtual 27, 3) := law_d lD2_ok (k := 4) rfl
theorem d_303 : decode code 303 = .ok (.pop, 1) := law_d lD2_ok (k := 5) rfl
theorem d_304 : decode code 304 = .ok (.goto 846, 3) := law_d lD2_ok (k := 6) rfl
theorem d_307 : decode code 307 = .ok (.aload_n 1, 1) := law_d lD2_ok (k := 7) rfl
theorem d_308 : decode code 308 = .ok (.aload_n 0, 1) := law_d lD2_ok (k := 8) rfl
theorem d_309 : decode code 309 = .ok (.iload_n 3, 1) := law_d lD2_ok (k := 9) rfl
theorem d_310 : decode code 310 = .ok (.iconst 1, 1) := law_d lD2_ok (k := 10) rfl
theorem d_311 : decode code 311 = .ok (.iadd, 1) := law_d lD2_ok (k := 11) rfl
theorem d_312 : decode code 312 = .ok (.iaload, 1) := law_d lD2_ok (k := 12) rfl
theorem d_313 : decode code 313 = .ok (.invokevirtual 28, 3) := law_d lD2_ok (k := 13) rfl
theorem d_316 : decode code 316 = .ok (.pop, 1) := law_d lD2_ok (k := 14) rfl
theorem d_317 : decode code 317 = .ok (.aload_n 2, 1) := law_d lD2_ok (k := 15) rfl
theorem d_318 : decode code 318 = .ok (.aload_n 0, 1) := law_d lD2_ok (k := 16) rfl
theorem d_319 : decode code 319 = .ok (.iload_n 3, 1) := law_d lD2_ok (k := 17) rfl
theorem d_320 : decode code 320 = .ok (.iconst 1, 1) := law_d lD2_ok (k := 18) rfl
theorem d_321 : decode code 321 = .ok (.iadd, 1) := law_d lD2_ok (k := 19) rfl
theorem d_322 : decode code 322 = .ok (.iaload, 1) := law_d lD2_ok (k := 20) rfl
theorem d_323 : decode code 323 = .ok (.invokevirtual 32, 3) := law_d lD2_ok (k := 21) rfl
theorem d_326 : decode code 326 = .ok (.pop, 1) := law_d lD2_ok (k := 22) rfl
theorem d_327 : decode code 327 = .ok (.goto 823, 3) := law_d lD2_ok (k := 23) rfl
theorem d_330 : decode code 330 = .ok (.aload_n 1, 1) := law_d lD2_ok (k := 24) rfl
theorem d_331 : decode code 331 = .ok (.aload_n 0, 1) := law_d lD2_ok (k := 25) rfl
theorem d_332 : decode code 332 = .ok (.iload_n 3, 1) := law_d lD2_ok (k := 26) rfl
theorem d_333 : decode code 333 = .ok (.iconst 1, 1) := law_d lD2_ok (k := 27) rfl
theorem d_334 : decode code 334 = .ok (.iadd, 1) := law_d lD2_ok (k := 28) rfl
theorem d_335 : decode code 335 = .ok (.iaload, 1) := law_d lD2_ok (k := 29) rfl
theorem d_336 : decode code 336 = .ok (.invokevirtual 33, 3) := law_d lD2_ok (k := 30) rfl
theorem d_339 : decode code 339 = .ok (.pop, 1) := law_d lD2_ok (k := 31) rfl
theorem d_340 : decode code 340 = .ok (.aload_n 2, 1) := law_d lD2_ok (k := 32) rfl
theorem d_341 : decode code 341 = .ok (.aload_n 0, 1) := law_d lD2_ok (k := 33) rfl
theorem d_342 : decode code 342 = .ok (.iload_n 3, 1) := law_d lD2_ok (k := 34) rfl
theorem d_343 : decode code 343 = .ok (.iconst 1, 1) := law_d lD2_ok (k := 35) rfl
theorem d_344 : decode code 344 = .ok (.iadd, 1) := law_d lD2_ok (k := 36) rfl
theorem d_345 : decode code 345 = .ok (.iaload, 1) := law_d lD2_ok (k := 37) rfl
theorem d_346 : decode code 346 = .ok (.invokevirtual 36, 3) := law_d lD2_ok (k := 38) rfl
theorem d_349 : decode code 349 = .ok (.pop, 1) := law_d lD2_ok (k := 39) rfl
theorem d_350 : decode code 350 = .ok (.goto 800, 3) := law_d lD2_ok (k := 40) rfl
theorem d_353 : decode code 353 = .ok (.aload_n 1, 1) := law_d lD2_ok (k := 41) rfl
theorem d_354 : decode code 354 = .ok (.aload_n 0, 1) := law_d lD2_ok (k := 42) rfl
theorem d_355 : decode code 355 = .ok (.iload_n 3, 1) := law_d lD2_ok (k := 43) rfl
theorem d_356 : decode code 356 = .ok (.iconst 1, 1) := law_d lD2_ok (k := 44) rfl
theorem d_357 : decode code 357 = .ok (.iadd, 1) := law_d lD2_ok (k := 45) rfl
theorem d_358 : decode code 358 = .ok (.iaload, 1) := law_d lD2_ok (k := 46) rfl
theorem d_359 : decode code 359 = .ok (.aload_n 0, 1) := law_d lD2_ok (k := 47) rfl
def lD3 : List (Nat × Jvm.ClassFile.Instr × Nat) := [(360, .iload_n 3, 1), (361, .iconst 2, 1), (362, .iadd, 1), (363, .iaload, 1), (364, .invokevirtual 37, 3), (367, .pop, 1), (368, .aload_n 2, 1), (369, .aload_n 0, 1), (370, .iload_n 3, 1), (371, .iconst 1, 1), (372, .iadd, 1), (373, .iaload, 1), (374, .aload_n 0, 1), (375, .iload_n 3, 1), (376, .iconst 2, 1), (377, .iadd, 1), (378, .iaload, 1), (379, .invokevirtual 41, 3), (382, .pop, 1), (383, .goto 767, 3), (386, .aload_n 1, 1), (387, .aload_n 0, 1), (388, .iload_n 3, 1), (389, .iconst 1, 1), (390, .iadd, 1), (391, .iaload, 1), (392, .ifCond .eq 7, 3), (395, .iconst 1, 1), (396, .goto 4, 3), (399, .iconst 0, 1), (400, .aload_n 0, 1), (401, .iload_n 3, 1), (402, .iconst 2, 1), (403, .iadd, 1), (404, .iaload, 1), (405, .aload_n 0, 1), (406, .iload_n 3, 1), (407, .iconst 3, 1), (408, .iadd, 1), (409, .iaload, 1), (410, .invokevirtual 42, 3), (413, .pop, 1), (414, .aload_n 2, 1), (415, .aload_n 0, 1), (416, .iload_n 3, 1), (417, .iconst 1, 1), (418, .iadd, 1), (419, .iaload, 1)]
theorem lD3_ok : lD3.all lawB = true := by decide +kernel
theorem d_360 : decode code 360 = .ok (.iload_n 3, 1) := law_d lD3_ok (k := 0) rfl
theorem d_361 : decode code 361 = .ok (.iconst 2, 1) := law_d lD3_ok (k := 1) rfl
theorem d_362 : decode code 362 = .ok (.iadd, 1) := law_d lD3_ok (k := 2) rfl
theorem d_363 : decode code 363 = .ok (.iaload, 1) := law_d lD3_ok (k := 3) rfl
theorem d_364 : decode code 364 = .ok (.invokevirtual 37, 3) := law_d lD3_ok (k := 4) rfl
theorem d_367 : decode code 367 = .ok (.pop, 1) := law_d lD3_ok (k := 5) rfl
theorem d_368 : decode code 368 = .ok (.aload_n 2, 1) := law_d lD3_ok (k := 6) rfl
theorem d_369 : decode code 369 = .ok (.aload_n 0, 1) := law_d lD3_ok (k := 7) rfl
theorem d_370 : decode code 370 = .ok (.iload_n 3, 1) := law_d lD3_ok (k := 8) rfl
theorem d_371 : decode code 371 = .ok (.iconst 1, 1) := law_d lD3_ok (k := 9) rfl
theorem d_372 : decode code 372 = .ok (.iadd, 1) := law_d lD3_ok (k := 10) rfl
theorem d_373 : decode code 373 = .ok (.iaload, 1) := law_d lD3_ok (k := 11) rfl
theorem d_374 : decode code 374 = .ok (.aload_n 0, 1) := law_d lD3_ok (k := 12) rfl
theorem d_375 : decode code 375 = .ok (.iload_n 3, 1) := law_d lD3_ok (k := 13) rfl
theorem d_376 : decode code 376 = .ok (.iconst 2, 1) := law_d lD3_ok (k := 14) rfl
theorem d_377 : decode code 377 = .ok (.iadd, 1) := law_d lD3_ok (k := 15) rfl
theorem d_378 : decode code 378 = .ok (.iaload, 1) := law_d lD3_ok (k := 16) rfl
theorem d_379 : decode code 379 = .ok (.invokevirtual 41, 3) := law_d lD3_ok (k := 17) rfl
theorem d_382 : decode code 382 = .ok (.pop, 1) := law_d lD3_ok (k := 18) rfl
theorem d_383 : decode code 383 = .ok (.goto 767, 3) := law_d lD3_ok (k := 19) rfl
theorem d_386 : decode code 386 = .ok (.aload_n 1, 1) := law_d lD3_ok (k := 20) rfl
theorem d_387 : decode code 387 = .ok (.aload_n 0, 1) := law_d lD3_ok (k := 21) rfl
theorem d_388 : decode code 388 = .ok (.iload_n 3, 1) := law_d lD3_ok (k := 22) rfl
theorem d_389 : decode code 389 = .ok (.iconst 1, 1) := law_d lD3_ok (k := 23) rfl
theorem d_390 : decode code 390 = .ok (.iadd, 1) := law_d lD3_ok (k := 24) rfl
theorem d_391 : decode code 391 = .ok (.iaload, 1) := law_d lD3_ok (k := 25) rfl
theorem d_392 : decode code 392 = .ok (.ifCond .eq 7, 3) := law_d lD3_ok (k := 26) rfl
theorem d_395 : decode code 395 = .ok (.iconst 1, 1) := law_d lD3_ok (k := 27) rfl
theorem d_396 : decode code 396 = .ok (.goto 4, 3) := law_d lD3_ok (k := 28) rfl
theorem d_399 : decode code 399 = .ok (.iconst 0, 1) := law_d lD3_ok (k := 29) rfl
theorem d_400 : decode code 400 = .ok (.aload_n 0, 1) := law_d lD3_ok (k := 30) rfl
theorem d_401 : decode code 401 = .ok (.iload_n 3, 1) := law_d lD3_ok (k := 31) rfl
theorem d_402 : decode code 402 = .ok (.iconst 2, 1) := law_d lD3_ok (k := 32) rfl
theorem d_403 : decode code 403 = .ok (.iadd, 1) := law_d lD3_ok (k := 33) rfl
theorem d_404 : decode code 404 = .ok (.iaload, 1) := law_d lD3_ok (k := 34) rfl
theorem d_405 : decode code 405 = .ok (.aload_n 0, 1) := law_d lD3_ok (k := 35) rfl
theorem d_406 : decode code 406 = .ok (.iload_n 3, 1) := law_d lD3_ok (k := 36) rfl
theorem d_407 : decode code 407 = .ok (.iconst 3, 1) := law_d lD3_ok (k := 37) rfl
theorem d_408 : decode code 408 = .ok (.iadd, 1) := law_d lD3_ok (k := 38) rfl
theorem d_409 : decode code 409 = .ok (.iaload, 1) := law_d lD3_ok (k := 39) rfl
theorem d_410 : decode code 410 = .ok (.invokevirtual 42, 3) := law_d lD3_ok (k := 40) rfl
theorem d_413 : decode code 413 = .ok (.pop, 1) := law_d lD3_ok (k := 41) rfl
theorem d_414 : decode code 414 = .ok (.aload_n 2, 1) := law_d lD3_ok (k := 42) rfl
theorem d_415 : decode code 415 = .ok (.aload_n 0, 1) := law_d lD3_ok (k := 43) rfl
theorem d_416 : decode code 416 = .ok (.iload_n 3, 1) := law_d lD3_ok (k := 44) rfl
theorem d_417 : decode code 417 = .ok (.iconst 1, 1) := law_d lD3_ok (k := 45) rfl
theorem d_418 : decode code 418 = .ok (.iadd, 1) := law_d lD3_ok (k := 46) rfl
theorem d_419 : decode code 419 = .ok (.iaload, 1) := law_d lD3_ok (k := 47) rfl
def lD4 : List (Nat × Jvm.ClassFile.Instr × Nat) := [(420, .ifCond .eq 7, 3), (423, .iconst 1, 1), (424, .goto 4, 3), (427, .iconst 0, 1), (428, .aload_n 0, 1), (429, .iload_n 3, 1), (430, .iconst 2, 1), (431, .iadd, 1), (432, .iaload, 1), (433, .aload_n 0, 1), (434, .iload_n 3, 1), (435, .iconst 3, 1), (436, .iadd, 1), (437, .iaload, 1), (438, .invokevirtual 46, 3), (441, .pop, 1), (442, .goto 708, 3), (445, .aload_n 1, 1), (446, .aload_n 0, 1), (447, .iload_n 3, 1), (448, .iconst 1, 1), (449, .iadd, 1), (450, .iaload, 1), (451, .aload_n 0, 1), (452, .iload_n 3, 1), (453, .iconst 2, 1), (454, .iadd, 1), (455, .iaload, 1), (456, .invokevirtual 47, 3), (459, .pop, 1), (460, .aload_n 2, 1), (461, .aload_n 0, 1), (462, .iload_n 3, 1), (463, .iconst 1, 1), (464, .iadd, 1), (465, .iaload, 1), (466, .aload_n 0, 1), (467, .iload_n 3, 1), (468, .iconst 2, 1), (469, .iadd, 1), (470, .iaload, 1), (471, .invokevirtual 50, 3), (474, .pop, 1), (475, .goto 675, 3), (478, .aload_n 1, 1), (479, .aload_n 0, 1), (480, .iload_n 3, 1), (481, .iconst 1, 1)]
theorem lD4_ok : lD4.all lawB = true := by decide +kernel
theorem d_420 : decode code 420 = .ok (.ifCond .eq 7, 3) := law_d lD4_ok (k := 0) rfl
theorem d_423 : decode code 423 = .ok (.iconst 1, 1) := law_d lD4_ok (k := 1) rfl
theorem d_424 : decode code 424 = .ok (.goto 4, 3) := law_d lD4_ok (k := 2) rfl
theorem d_427 : decode code 427 = .ok (.iconst 0, 1) := law_d lD4_ok (k := 3) rfl
theorem d_428 : decode code 428 = .ok (.aload_n 0, 1) := law_d lD4_ok (k := 4) rfl
theorem d_429 : decode code 429 = .ok (.iload_n 3, 1) := law_d lD4_ok (k := 5) rfl
theorem d_430 : decode code 430 = .ok (.iconst 2, 1) := law_d lD4_ok (k := 6) rfl
theorem d_431 : decode code 431 = .ok (.iadd, 1) := law_d lD4_ok (k := 7) rfl
theorem d_432 : decode code 432 = .ok (.iaload, 1) := law_d lD4_ok (k := 8) rfl
theorem d_433 : decode code 433 = .ok (.aload_n 0, 1) := law_d lD4_ok (k := 9) rfl
theorem d_434 : decode code 434 = .ok (.iload_n 3, 1) := law_d lD4_ok (k := 10) rfl
theorem d_435 : decode code 435 = .ok (.iconst 3, 1) := law_d lD4_ok (k := 11) rfl
theorem d_436 : decode code 436 = .ok (.iadd, 1) := law_d lD4_ok (k := 12) rfl
theorem d_437 : decode code 437 = .ok (.iaload, 1) := law_d lD4_ok (k := 13) rfl
theorem d_438 : decode code 438 = .ok (.invokevirtual 46, 3) := law_d lD4_ok (k := 14) rfl
theorem d_441 : decode code 441 = .ok (.pop, 1) := law_d lD4_ok (k := 15) rfl
theorem d_442 : decode code 442 = .ok (.goto 708, 3) := law_d lD4_ok (k := 16) rfl
theorem d_445 : decode code 445 = .ok (.aload_n 1, 1) := law_d lD4_ok (k := 17) rfl
theorem d_446 : decode code 446 = .ok (.aload_n 0, 1) := law_d lD4_ok (k := 18) rfl
theorem d_447 : decode code 447 = .ok (.iload_n 3, 1) := law_d lD4_ok (k := 19) rfl
theorem d_448 : decode code 448 = .ok (.iconst 1, 1) := law_d lD4_ok (k := 20) rfl
theorem d_449 : decode code 449 = .ok (.iadd, 1) := law_d lD4_ok (k := 21) rfl
theorem d_450 : decode code 450 = .ok (.iaload, 1) := law_d lD4_ok (k := 22) rfl
theorem d_451 : decode code 451 = .ok (.aload_n 0, 1) := law_d lD4_ok (k := 23) rfl
theorem d_452 : decode code 452 = .ok (.iload_n 3, 1) := law_d lD4_ok (k := 24) rfl
theorem d_453 : decode code 453 = .ok (.iconst 2, 1) := law_d lD4_ok (k := 25) rfl
theorem d_454 : decode code 454 = .ok (.iadd, 1) := law_d lD4_ok (k := 26) rfl
theorem d_455 : decode code 455 = .ok (.iaload, 1) := law_d lD4_ok (k := 27) rfl
theorem d_456 : decode code 456 = .ok (.invokevirtual 47, 3) := law_d lD4_ok (k := 28) rfl
theorem d_459 : decode code 459 = .ok (.pop, 1) := law_d lD4_ok (k := 29) rfl
theorem d_460 : decode code 460 = .ok (.aload_n 2, 1) := law_d lD4_ok (k := 30) rfl
theorem d_461 : decode code 461 = .ok (.aload_n 0, 1) := law_d lD4_ok (k := 31) rfl
theorem d_462 : decode code 462 = .ok (.iload_n 3, 1) := law_d lD4_ok (k := 32) rfl
theorem d_463 : decode code 463 = .ok (.iconst 1, 1) := law_d lD4_ok (k := 33) rfl
theorem d_464 : decode code 464 = .ok (.iadd, 1) := law_d lD4_ok (k := 34) rfl
theorem d_465 : decode code 465 = .ok (.iaload, 1) := law_d lD4_ok (k := 35) rfl
theorem d_466 : decode code 466 = .ok (.aload_n 0, 1) := law_d lD4_ok (k := 36) rfl
theorem d_467 : decode code 467 = .ok (.iload_n 3, 1) := law_d lD4_ok (k := 37) rfl
theorem d_468 : decode code 468 = .ok (.iconst 2, 1) := law_d lD4_ok (k := 38) rfl
theorem d_469 : decode code 469 = .ok (.iadd, 1) := law_d lD4_ok (k := 39) rfl
theorem d_470 : decode code 470 = .ok (.iaload, 1) := law_d lD4_ok (k := 40) rfl
theorem d_471 : decode code 471 = .ok (.invokevirtual 50, 3) := law_d lD4_ok (k := 41) rfl
theorem d_474 : decode code 474 = .ok (.pop, 1) := law_d lD4_ok (k := 42) rfl
theorem d_475 : decode code 475 = .ok (.goto 675, 3) := law_d lD4_ok (k := 43) rfl
theorem d_478 : decode code 478 = .ok (.aload_n 1, 1) := law_d lD4_ok (k := 44) rfl
theorem d_479 : decode code 479 = .ok (.aload_n 0, 1) := law_d lD4_ok (k := 45) rfl
theorem d_480 : decode code 480 = .ok (.iload_n 3, 1) := law_d lD4_ok (k := 46) rfl
theorem d_481 : decode code 481 = .ok (.iconst 1, 1) := law_d lD4_ok (k := 47) rfl
def lD5 : List (Nat × Jvm.ClassFile.Instr × Nat) := [(482, .iadd, 1), (483, .iaload, 1), (484, .invokevirtual 51, 3), (487, .pop, 1), (488, .aload_n 2, 1), (489, .aload_n 0, 1), (490, .iload_n 3, 1), (491, .iconst 1, 1), (492, .iadd, 1), (493, .iaload, 1), (494, .invokevirtual 54, 3), (497, .pop, 1), (498, .goto 652, 3), (501, .aload_n 1, 1), (502, .aload_n 0, 1), (503, .iload_n 3, 1), (504, .iconst 1, 1), (505, .iadd, 1), (506, .iaload, 1), (507, .aload_n 0, 1), (508, .iload_n 3, 1), (509, .iconst 2, 1), (510, .iadd, 1), (511, .iaload, 1), (512, .invokevirtual 55, 3), (515, .pop, 1), (516, .aload_n 2, 1), (517, .aload_n 0, 1), (518, .iload_n 3, 1), (519, .iconst 1, 1), (520, .iadd, 1), (521, .iaload, 1), (522, .aload_n 0, 1), (523, .iload_n 3, 1), (524, .iconst 2, 1), (525, .iadd, 1), (526, .iaload, 1), (527, .invokevirtual 58, 3), (530, .pop, 1), (531, .goto 619, 3), (534, .aload_n 1, 1), (535, .aload_n 0, 1), (536, .iload_n 3, 1), (537, .iconst 1, 1), (538, .iadd, 1), (539, .iaload, 1), (540, .invokevirtual 59, 3), (543, .pop, 1)]
theorem lD5_ok : lD5.all lawB = true := by decide +kernel
theorem d_482 : decode code 482 = .ok (.iadd, 1) := law_d lD5_ok (k := 0) rfl
theorem d_483 : decode code 483 = .ok (.iaload, 1) := law_d lD5_ok (k := 1) rfl
theorem d_484 : decode code 484 = .ok (.invokevirtual 51, 3) := law_d lD5_ok (k := 2) rfl
theorem d_487 : decode code 487 = .ok (.pop, 1) := law_d lD5_ok (k := 3) rfl
theorem d_488 : decode code 488 = .ok (.aload_n 2, 1) := law_d lD5_ok (k := 4) rfl
theorem d_489 : decode code 489 = .ok (.aload_n 0, 1) := law_d lD5_ok (k := 5) rfl
theorem d_490 : decode code 490 = .ok (.iload_n 3, 1) := law_d lD5_ok (k := 6) rfl
theorem d_491 : decode code 491 = .ok (.iconst 1, 1) := law_d lD5_ok (k := 7) rfl
theorem d_492 : decode code 492 = .ok (.iadd, 1) := law_d lD5_ok (k := 8) rfl
theorem d_493 : decode code 493 = .ok (.iaload, 1) := law_d lD5_ok (k := 9) rfl
theorem d_494 : decode code 494 = .ok (.invokevirtual 54, 3) := law_d lD5_ok (k := 10) rfl
theorem d_497 : decode code 497 = .ok (.pop, 1) := law_d lD5_ok (k := 11) rfl
theorem d_498 : decode code 498 = .ok (.goto 652, 3) := law_d lD5_ok (k := 12) rfl
theorem d_501 : decode code 501 = .ok (.aload_n 1, 1) := law_d lD5_ok (k := 13) rfl
theorem d_502 : decode code 502 = .ok (.aload_n 0, 1) := law_d lD5_ok (k := 14) rfl
theorem d_503 : decode code 503 = .ok (.iload_n 3, 1) := law_d lD5_ok (k := 15) rfl
theorem d_504 : decode code 504 = .ok (.iconst 1, 1) := law_d lD5_ok (k := 16) rfl
theorem d_505 : decode code 505 = .ok (.iadd, 1) := law_d lD5_ok (k := 17) rfl
theorem d_506 : decode code 506 = .ok (.iaload, 1) := law_d lD5_ok (k := 18) rfl
theorem d_507 : decode code 507 = .ok (.aload_n 0, 1) := law_d lD5_ok (k := 19) rfl
theorem d_508 : decode code 508 = .ok (.iload_n 3, 1) := law_d lD5_ok (k := 20) rfl
theorem d_509 : decode code 509 = .ok (.iconst 2, 1) := law_d lD5_ok (k := 21) rfl
theorem d_510 : decode code 510 = .ok (.iadd, 1) := law_d lD5_ok (k := 22) rfl
theorem d_511 : decode code 511 = .ok (.iaload, 1) := law_d lD5_ok (k := 23) rfl
theorem d_512 : decode code 512 = .ok (.invokevirtual 55, 3) := law_d lD5_ok (k := 24) rfl
theorem d_515 : decode code 515 = .ok (.pop, 1) := law_d lD5_ok (k := 25) rfl
theorem d_516 : decode code 516 = .ok (.aload_n 2, 1) := law_d lD5_ok (k := 26) rfl
theorem d_517 : decode code 517 = .ok (.aload_n 0, 1) := law_d lD5_ok (k := 27) rfl
theorem d_518 : decode code 518 = .ok (.iload_n 3, 1) := law_d lD5_ok (k := 28) rfl
theorem d_519 : decode code 519 = .ok (.iconst 1, 1) := law_d lD5_ok (k := 29) rfl
theorem d_520 : decode code 520 = .ok (.iadd, 1) := law_d lD5_ok (k := 30) rfl
theorem d_521 : decode code 521 = .ok (.iaload, 1) := law_d lD5_ok (k := 31) rfl
theorem d_522 : decode code 522 = .ok (.aload_n 0, 1) := law_d lD5_ok (k := 32) rfl
theorem d_523 : decode code 523 = .ok (.iload_n 3, 1) := law_d lD5_ok (k := 33) rfl
theorem d_524 : decode code 524 = .ok (.iconst 2, 1) := law_d lD5_ok (k := 34) rfl
theorem d_525 : decode code 525 = .ok (.iadd, 1) := law_d lD5_ok (k := 35) rfl
theorem d_526 : decode code 526 = .ok (.iaload, 1) := law_d lD5_ok (k := 36) rfl
theorem d_527 : decode code 527 = .ok (.invokevirtual 58, 3) := law_d lD5_ok (k := 37) rfl
theorem d_530 : decode code 530 = .ok (.pop, 1) := law_d lD5_ok (k := 38) rfl
theorem d_531 : decode code 531 = .ok (.goto 619, 3) := law_d lD5_ok (k := 39) rfl
theorem d_534 : decode code 534 = .ok (.aload_n 1, 1) := law_d lD5_ok (k := 40) rfl
theorem d_535 : decode code 535 = .ok (.aload_n 0, 1) := law_d lD5_ok (k := 41) rfl
theorem d_536 : decode code 536 = .ok (.iload_n 3, 1) := law_d lD5_ok (k := 42) rfl
theorem d_537 : decode code 537 = .ok (.iconst 1, 1) := law_d lD5_ok (k := 43) rfl
theorem d_538 : decode code 538 = .ok (.iadd, 1) := law_d lD5_ok (k := 44) rfl
theorem d_539 : decode code 539 = .ok (.iaload, 1) := law_d lD5_ok (k := 45) rfl
theorem d_540 : decode code 540 = .ok (.invokevirtual 59, 3) := law_d lD5_ok (k := 46) rfl
theorem d_543 : decode code 543 = .ok (.pop, 1) := law_d lD5_ok (k := 47) rfl
def lD6 : List (Nat × Jvm.ClassFile.Instr × Nat) := [(544, .aload_n 2, 1), (545, .aload_n 0, 1), (546, .iload_n 3, 1), (547, .iconst 1, 1), (548, .iadd, 1), (549, .iaload, 1), (550, .invokevirtual 62, 3), (553, .pop, 1), (554, .goto 596, 3), (557, .aload_n 1, 1), (558, .invokevirtual 63, 3), (561, .pop, 1), (562, .aload_n 2, 1), (563, .invokevirtual 66, 3), (566, .pop, 1), (567, .goto 583, 3), (570, .aload_n 1, 1), (571, .invokevirtual 67, 3), (574, .pop, 1), (575, .aload_n 2, 1), (576, .invokevirtual 70, 3), (579, .pop, 1), (580, .goto 570, 3), (583, .aload_n 1, 1), (584, .aload_n 0, 1), (585, .iload_n 3, 1), (586, .iconst 1, 1), (587, .iadd, 1), (588, .iaload, 1), (589, .invokevirtual 71, 3), (592, .pop, 1), (593, .aload_n 2, 1), (594, .aload_n 0, 1), (595, .iload_n 3, 1), (596, .iconst 1, 1), (597, .iadd, 1), (598, .iaload, 1), (599, .invokevirtual 74, 3), (602, .pop, 1), (603, .goto 547, 3), (606, .aload_n 1, 1), (607, .aload_n 0, 1), (608, .iload_n 3, 1), (609, .iconst 1, 1), (610, .iadd, 1), (611, .iaload, 1), (612, .invokevirtual 75, 3), (615, .pop, 1)]
theorem lD6_ok : lD6.all lawB = true := by decide +kernel
theorem d_544 : decode code 544 = .ok (.aload_n 2, 1) := law_d lD6_ok (k := 0) rfl
theorem d_545 : decode code 545 = .ok (.aload_n 0, 1) := law_d lD6_ok (k := 1) rfl
theorem d_546 : decode code 546 = .ok (.iload_n 3, 1) := law_d lD6_ok (k := 2) rfl
theorem d_547 : decode code 547 = .ok (.iconst 1, 1) := law_d lD6_ok (k := 3) rfl
theorem d_548 : decode code 548 = .ok (.iadd, 1) := law_d lD6_ok (k := 4) rfl
theorem d_549 : decode code 549 = .ok (.iaload, 1) := law_d lD6_ok (k := 5) rfl
theorem d_550 : decode code 550 = .ok (.invokevirtual 62, 3) := law_d lD6_ok (k := 6) rfl
theorem d_553 : decode code 553 = .ok (.pop, 1) := law_d lD6_ok (k := 7) rfl
theorem d_554 : decode code 554 = .ok (.goto 596, 3) := law_d lD6_ok (k := 8) rfl
theorem d_557 : decode code 557 = .ok (.aload_n 1, 1) := law_d lD6_ok (k := 9) rfl
theorem d_558 : decode code 558 = .ok (.invokevirtual 63, 3) := law_d lD6_ok (k := 10) rfl
theorem d_561 : decode code 561 = .ok (.pop, 1) := law_d lD6_ok (k := 11) rfl
theorem d_562 : decode code 562 = .ok (.aload_n 2, 1) := law_d lD6_ok (k := 12) rfl
theorem d_563 : decode code 563 = .ok (.invokevirtual 66, 3) := law_d lD6_ok (k := 13) rfl
theorem d_566 : decode code 566 = .ok (.pop, 1) := law_d lD6_ok (k := 14) rfl
theorem d_567 : decode code 567 = .ok (.goto 583, 3) := law_d lD6_ok (k := 15) rfl
theorem d_570 : decode code 570 = .ok (.aload_n 1, 1) := law_d lD6_ok (k := 16) rfl
theorem d_571 : decode code 571 = .ok (.invokevirtual 67, 3) := law_d lD6_ok (k := 17) rfl
theorem d_574 : decode code 574 = .ok (.pop, 1) := law_d lD6_ok (k := 18) rfl
theorem d_575 : decode code 575 = .ok (.aload_n 2, 1) := law_d lD6_ok (k := 19) rfl
theorem d_576 : decode code 576 = .ok (.invokevirtual 70, 3) := law_d lD6_ok (k := 20) rfl
theorem d_579 : decode code 579 = .ok (.pop, 1) := law_d lD6_ok (k := 21) rfl
theorem d_580 : decode code 580 = .ok (.goto 570, 3) := law_d lD6_ok (k := 22) rfl
theorem d_583 : decode code 583 = .ok (.aload_n 1, 1) := law_d lD6_ok (k := 23) rfl
theorem d_584 : decode code 584 = .ok (.aload_n 0, 1) := law_d lD6_ok (k := 24) rfl
theorem d_585 : decode code 585 = .ok (.iload_n 3, 1) := law_d lD6_ok (k := 25) rfl
theorem d_586 : decode code 586 = .ok (.iconst 1, 1) := law_d lD6_ok (k := 26) rfl
theorem d_587 : decode code 587 = .ok (.iadd, 1) := law_d lD6_ok (k := 27) rfl
theorem d_588 : decode code 588 = .ok (.iaload, 1) := law_d lD6_ok (k := 28) rfl
theorem d_589 : decode code 589 = .ok (.invokevirtual 71, 3) := law_d lD6_ok (k := 29) rfl
theorem d_592 : decode code 592 = .ok (.pop, 1) := law_d lD6_ok (k := 30) rfl
theorem d_593 : decode code 593 = .ok (.aload_n 2, 1) := law_d lD6_ok (k := 31) rfl
theorem d_594 : decode code 594 = .ok (.aload_n 0, 1) := law_d lD6_ok (k := 32) rfl
theorem d_595 : decode code 595 = .ok (.iload_n 3, 1) := law_d lD6_ok (k := 33) rfl
theorem d_596 : decode code 596 = .ok (.iconst 1, 1) := law_d lD6_ok (k := 34) rfl
theorem d_597 : decode code 597 = .ok (.iadd, 1) := law_d lD6_ok (k := 35) rfl
theorem d_598 : decode code 598 = .ok (.iaload, 1) := law_d lD6_ok (k := 36) rfl
theorem d_599 : decode code 599 = .ok (.invokevirtual 74, 3) := law_d lD6_ok (k := 37) rfl
theorem d_602 : decode code 602 = .ok (.pop, 1) := law_d lD6_ok (k := 38) rfl
theorem d_603 : decode code 603 = .ok (.goto 547, 3) := law_d lD6_ok (k := 39) rfl
theorem d_606 : decode code 606 = .ok (.aload_n 1, 1) := law_d lD6_ok (k := 40) rfl
theorem d_607 : decode code 607 = .ok (.aload_n 0, 1) := law_d lD6_ok (k := 41) rfl
theorem d_608 : decode code 608 = .ok (.iload_n 3, 1) := law_d lD6_ok (k := 42) rfl
theorem d_609 : decode code 609 = .ok (.iconst 1, 1) := law_d lD6_ok (k := 43) rfl
theorem d_610 : decode code 610 = .ok (.iadd, 1) := law_d lD6_ok (k := 44) rfl
theorem d_611 : decode code 611 = .ok (.iaload, 1) := law_d lD6_ok (k := 45) rfl
theorem d_612 : decode code 612 = .ok (.invokevirtual 75, 3) := law_d lD6_ok (k := 46) rfl
theorem d_615 : decode code 615 = .ok (.pop, 1) := law_d lD6_ok (k := 47) rfl
def lD7 : List (Nat × Jvm.ClassFile.Instr × Nat) := [(616, .aload_n 2, 1), (617, .aload_n 0, 1), (618, .iload_n 3, 1), (619, .iconst 1, 1), (620, .iadd, 1), (621, .iaload, 1), (622, .invokevirtual 78, 3), (625, .pop, 1), (626, .goto 524, 3), (629, .aload_n 1, 1), (630, .aload_n 0, 1), (631, .iload_n 3, 1), (632, .iconst 1, 1), (633, .iadd, 1), (634, .iaload, 1), (635, .invokevirtual 79, 3), (638, .pop, 1), (639, .aload_n 2, 1), (640, .aload_n 0, 1), (641, .iload_n 3, 1), (642, .iconst 1, 1), (643, .iadd, 1), (644, .iaload, 1), (645, .invokevirtual 82, 3), (648, .pop, 1), (649, .goto 501, 3), (652, .aload_n 1, 1), (653, .invokevirtual 83, 3), (656, .pop, 1), (657, .aload_n 2, 1), (658, .invokevirtual 86, 3), (661, .pop, 1), (662, .goto 488, 3), (665, .aload_n 1, 1), (666, .aload_n 0, 1), (667, .iload_n 3, 1), (668, .iconst 1, 1), (669, .iadd, 1), (670, .iaload, 1), (671, .ifCond .eq 7, 3), (674, .iconst 1, 1), (675, .goto 4, 3), (678, .iconst 0, 1), (679, .invokevirtual 87, 3), (682, .pop, 1), (683, .aload_n 2, 1), (684, .aload_n 0, 1), (685, .iload_n 3, 1)]
theorem lD7_ok : lD7.all lawB = true := by decide +kernel
theorem d_616 : decode code 616 = .ok (.aload_n 2, 1) := law_d lD7_ok (k := 0) rfl
theorem d_617 : decode code 617 = .ok (.aload_n 0, 1) := law_d lD7_ok (k := 1) rfl
theorem d_618 : decode code 618 = .ok (.iload_n 3, 1) := law_d lD7_ok (k := 2) rfl
theorem d_619 : decode code 619 = .ok (.iconst 1, 1) := law_d lD7_ok (k := 3) rfl
theorem d_620 : decode code 620 = .ok (.iadd, 1) := law_d lD7_ok (k := 4) rfl
theorem d_621 : decode code 621 = .ok (.iaload, 1) := law_d lD7_ok (k := 5) rfl
theorem d_622 : decode code 622 = .ok (.invokevirtual 78, 3) := law_d lD7_ok (k := 6) rfl
theorem d_625 : decode code 625 = .ok (.pop, 1) := law_d lD7_ok (k := 7) rfl
theorem d_626 : decode code 626 = .ok (.goto 524, 3) := law_d lD7_ok (k := 8) rfl
theorem d_629 : decode code 629 = .ok (.aload_n 1, 1) := law_d lD7_ok (k := 9) rfl
theorem d_630 : decode code 630 = .ok (.aload_n 0, 1) := law_d lD7_ok (k := 10) rfl
theorem d_631 : decode code 631 = .ok (.iload_n 3, 1) := law_d lD7_ok (k := 11) rfl
theorem d_632 : decode code 632 = .ok (.iconst 1, 1) := law_d lD7_ok (k := 12) rfl
theorem d_633 : decode code 633 = .ok (.iadd, 1) := law_d lD7_ok (k := 13) rfl
theorem d_634 : decode code 634 = .ok (.iaload, 1) := law_d lD7_ok (k := 14) rfl
theorem d_635 : decode code 635 = .ok (.invokevirtual 79, 3) := law_d lD7_ok (k := 15) rfl
theorem d_638 : decode code 638 = .ok (.pop, 1) := law_d lD7_ok (k := 16) rfl
theorem d_639 : decode code 639 = .ok (.aload_n 2, 1) := law_d lD7_ok (k := 17) rfl
theorem d_640 : decode code 640 = .ok (.aload_n 0, 1) := law_d lD7_ok (k := 18) rfl
theorem d_641 : decode code 641 = .ok (.iload_n 3, 1) := law_d lD7_ok (k := 19) rfl
theorem d_642 : decode code 642 = .ok (.iconst 1, 1) := law_d lD7_ok (k := 20) rfl
theorem d_643 : decode code 643 = .ok (.iadd, 1) := law_d lD7_ok (k := 21) rfl
theorem d_644 : decode code 644 = .ok (.iaload, 1) := law_d lD7_ok (k := 22) rfl
theorem d_645 : decode code 645 = .ok (.invokevirtual 82, 3) := law_d lD7_ok (k := 23) rfl
theorem d_648 : decode code 648 = .ok (.pop, 1) := law_d lD7_ok (k := 24) rfl
theorem d_649 : decode code 649 = .ok (.goto 501, 3) := law_d lD7_ok (k := 25) rfl
theorem d_652 : decode code 652 = .ok (.aload_n 1, 1) := law_d lD7_ok (k := 26) rfl
theorem d_653 : decode code 653 = .ok (.invokevirtual 83, 3) := law_d lD7_ok (k := 27) rfl
theorem d_656 : decode code 656 = .ok (.pop, 1) := law_d lD7_ok (k := 28) rfl
theorem d_657 : decode code 657 = .ok (.aload_n 2, 1) := law_d lD7_ok (k := 29) rfl
theorem d_658 : decode code 658 = .ok (.invokevirtual 86, 3) := law_d lD7_ok (k := 30) rfl
theorem d_661 : decode code 661 = .ok (.pop, 1) := law_d lD7_ok (k := 31) rfl
theorem d_662 : decode code 662 = .ok (.goto 488, 3) := law_d lD7_ok (k := 32) rfl
theorem d_665 : decode code 665 = .ok (.aload_n 1, 1) := law_d lD7_ok (k := 33) rfl
theorem d_666 : decode code 666 = .ok (.aload_n 0, 1) := law_d lD7_ok (k := 34) rfl
theorem d_667 : decode code 667 = .ok (.iload_n 3, 1) := law_d lD7_ok (k := 35) rfl
theorem d_668 : decode code 668 = .ok (.iconst 1, 1) := law_d lD7_ok (k := 36) rfl
theorem d_669 : decode code 669 = .ok (.iadd, 1) := law_d lD7_ok (k := 37) rfl
theorem d_670 : decode code 670 = .ok (.iaload, 1) := law_d lD7_ok (k := 38) rfl
theorem d_671 : decode code 671 = .ok (.ifCond .eq 7, 3) := law_d lD7_ok (k := 39) rfl
theorem d_674 : decode code 674 = .ok (.iconst 1, 1) := law_d lD7_ok (k := 40) rfl
theorem d_675 : decode code 675 = .ok (.goto 4, 3) := law_d lD7_ok (k := 41) rfl
theorem d_678 : decode code 678 = .ok (.iconst 0, 1) := law_d lD7_ok (k := 42) rfl
theorem d_679 : decode code 679 = .ok (.invokevirtual 87, 3) := law_d lD7_ok (k := 43) rfl
theorem d_682 : decode code 682 = .ok (.pop, 1) := law_d lD7_ok (k := 44) rfl
theorem d_683 : decode code 683 = .ok (.aload_n 2, 1) := law_d lD7_ok (k := 45) rfl
theorem d_684 : decode code 684 = .ok (.aload_n 0, 1) := law_d lD7_ok (k := 46) rfl
theorem d_685 : decode code 685 = .ok (.iload_n 3, 1) := law_d lD7_ok (k := 47) rfl
def lD8 : List (Nat × Jvm.ClassFile.Instr × Nat) := [(686, .iconst 1, 1), (687, .iadd, 1), (688, .iaload, 1), (689, .ifCond .eq 7, 3), (692, .iconst 1, 1), (693, .goto 4, 3), (696, .iconst 0, 1), (697, .invokevirtual 91, 3), (700, .pop, 1), (701, .goto 449, 3), (704, .aload_n 1, 1), (705, .invokevirtual 92, 3), (708, .pop, 1), (709, .aload_n 2, 1), (710, .invokevirtual 95, 3), (713, .pop, 1), (714, .goto 436, 3), (717, .aload_n 1, 1), (718, .invokevirtual 96, 3), (721, .pop, 1), (722, .aload_n 2, 1), (723, .invokevirtual 99, 3), (726, .pop, 1), (727, .goto 423, 3), (730, .aload_n 1, 1), (731, .invokevirtual 100, 3), (734, .pop, 1), (735, .aload_n 2, 1), (736, .invokevirtual 103, 3), (739, .pop, 1), (740, .goto 410, 3), (743, .aload_n 1, 1), (744, .aload_n 0, 1), (745, .iload_n 3, 1), (746, .iconst 1, 1), (747, .iadd, 1), (748, .iaload, 1), (749, .invokevirtual 104, 3), (752, .pop, 1), (753, .aload_n 2, 1), (754, .aload_n 0, 1), (755, .iload_n 3, 1), (756, .iconst 1, 1), (757, .iadd, 1), (758, .iaload, 1), (759, .invokevirtual 107, 3), (762, .pop, 1), (763, .goto 387, 3)]
theorem lD8_ok : lD8.all lawB = true := by decide +kernel
theorem d_686 : decode code 686 = .ok (.iconst 1, 1) := law_d lD8_ok (k := 0) rfl
theorem d_687 : decode code 687 = .ok (.iadd, 1) := law_d lD8_ok (k := 1) rfl
theorem d_688 : decode code 688 = .ok (.iaload, 1) := law_d lD8_ok (k := 2) rfl
theorem d_689 : decode code 689 = .ok (.ifCond .eq 7, 3) := law_d lD8_ok (k := 3) rfl
theorem d_692 : decode code 692 = .ok (.iconst 1, 1) := law_d lD8_ok (k := 4) rfl
theorem d_693 : decode code 693 = .ok (.goto 4, 3) := law_d lD8_ok (k := 5) rfl
theorem d_696 : decode code 696 = .ok (.iconst 0, 1) := law_d lD8_ok (k := 6) rfl
theorem d_697 : decode code 697 = .ok (.invokevirtual 91, 3) := law_d lD8_ok (k := 7) rfl
theorem d_700 : decode code 700 = .ok (.pop, 1) := law_d lD8_ok (k := 8) rfl
theorem d_701 : decode code 701 = .ok (.goto 449, 3) := law_d lD8_ok (k := 9) rfl
theorem d_704 : decode code 704 = .ok (.aload_n 1, 1) := law_d lD8_ok (k := 10) rfl
theorem d_705 : decode code 705 = .ok (.invokevirtual 92, 3) := law_d lD8_ok (k := 11) rfl
theorem d_708 : decode code 708 = .ok (.pop, 1) := law_d lD8_ok (k := 12) rfl
theorem d_709 : decode code 709 = .ok (.aload_n 2, 1) := law_d lD8_ok (k := 13) rfl
theorem d_710 : decode code 710 = .ok (.invokevirtual 95, 3) := law_d lD8_ok (k := 14) rfl
theorem d_713 : decode code 713 = .ok (.pop, 1) := law_d lD8_ok (k := 15) rfl
theorem d_714 : decode code 714 = .ok (.goto 436, 3) := law_d lD8_ok (k := 16) rfl
theorem d_717 : decode code 717 = .ok (.aload_n 1, 1) := law_d lD8_ok (k := 17) rfl
theorem d_718 : decode code 718 = .ok (.invokevirtual 96, 3) := law_d lD8_ok (k := 18) rfl
theorem d_721 : decode code 721 = .ok (.pop, 1) := law_d lD8_ok (k := 19) rfl
theorem d_722 : decode code 722 = .ok (.aload_n 2, 1) := law_d lD8_ok (k := 20) rfl
theorem d_723 : decode code 723 = .ok (.invokevirtual 99, 3) := law_d lD8_ok (k := 21) rfl
theorem d_726 : decode code 726 = .ok (.pop, 1) := law_d lD8_ok (k := 22) rfl
theorem d_727 : decode code 727 = .ok (.goto 423, 3) := law_d lD8_ok (k := 23) rfl
theorem d_730 : decode code 730 = .ok (.aload_n 1, 1) := law_d lD8_ok (k := 24) rfl
theorem d_731 : decode code 731 = .ok (.invokevirtual 100, 3) := law_d lD8_ok (k := 25) rfl
theorem d_734 : decode code 734 = .ok (.pop, 1) := law_d lD8_ok (k := 26) rfl
theorem d_735 : decode code 735 = .ok (.aload_n 2, 1) := law_d lD8_ok (k := 27) rfl
theorem d_736 : decode code 736 = .ok (.invokevirtual 103, 3) := law_d lD8_ok (k := 28) rfl
theorem d_739 : decode code 739 = .ok (.pop, 1) := law_d lD8_ok (k := 29) rfl
theorem d_740 : decode code 740 = .ok (.goto 410, 3) := law_d lD8_ok (k := 30) rfl
theorem d_743 : decode code 743 = .ok (.aload_n 1, 1) := law_d lD8_ok (k := 31) rfl
theorem d_744 : decode code 744 = .ok (.aload_n 0, 1) := law_d lD8_ok (k := 32) rfl
theorem d_745 : decode code 745 = .ok (.iload_n 3, 1) := law_d lD8_ok (k := 33) rfl
theorem d_746 : decode code 746 = .ok (.iconst 1, 1) := law_d lD8_ok (k := 34) rfl
theorem d_747 : decode code 747 = .ok (.iadd, 1) := law_d lD8_ok (k := 35) rfl
theorem d_748 : decode code 748 = .ok (.iaload, 1) := law_d lD8_ok (k := 36) rfl
theorem d_749 : decode code 749 = .ok (.invokevirtual 104, 3) := law_d lD8_ok (k := 37) rfl
theorem d_752 : decode code 752 = .ok (.pop, 1) := law_d lD8_ok (k := 38) rfl
theorem d_753 : decode code 753 = .ok (.aload_n 2, 1) := law_d lD8_ok (k := 39) rfl
theorem d_754 : decode code 754 = .ok (.aload_n 0, 1) := law_d lD8_ok (k := 40) rfl
theorem d_755 : decode code 755 = .ok (.iload_n 3, 1) := law_d lD8_ok (k := 41) rfl
theorem d_756 : decode code 756 = .ok (.iconst 1, 1) := law_d lD8_ok (k := 42) rfl
theorem d_757 : decode code 757 = .ok (.iadd, 1) := law_d lD8_ok (k := 43) rfl
theorem d_758 : decode code 758 = .ok (.iaload, 1) := law_d lD8_ok (k := 44) rfl
theorem d_759 : decode code 759 = .ok (.invokevirtual 107, 3) := law_d lD8_ok (k := 45) rfl
theorem d_762 : decode code 762 = .ok (.pop, 1) := law_d lD8_ok (k := 46) rfl
theorem d_763 : decode code 763 = .ok (.goto 387, 3) := law_d lD8_ok (k := 47) rfl
def lD9 : List (Nat × Jvm.ClassFile.Instr × Nat) := [(766, .aload_n 1, 1), (767, .aload_n 0, 1), (768, .iload_n 3, 1), (769, .iconst 1, 1), (770, .iadd, 1), (771, .iaload, 1), (772, .invokevirtual 108, 3), (775, .pop, 1), (776, .aload_n 2, 1), (777, .aload_n 0, 1), (778, .iload_n 3, 1), (779, .iconst 1, 1), (780, .iadd, 1), (781, .iaload, 1), (782, .invokevirtual 111, 3), (785, .pop, 1), (786, .goto 364, 3), (789, .aload_n 1, 1), (790, .aload_n 0, 1), (791, .iload_n 3, 1), (792, .iconst 1, 1), (793, .iadd, 1), (794, .iaload, 1), (795, .invokevirtual 112, 3), (798, .pop, 1), (799, .aload_n 2, 1), (800, .aload_n 0, 1), (801, .iload_n 3, 1), (802, .iconst 1, 1), (803, .iadd, 1), (804, .iaload, 1), (805, .invokevirtual 115, 3), (808, .pop, 1), (809, .goto 341, 3), (812, .aload_n 1, 1), (813, .aload_n 0, 1), (814, .iload_n 3, 1), (815, .iconst 1, 1), (816, .iadd, 1), (817, .iaload, 1), (818, .invokevirtual 116, 3), (821, .pop, 1), (822, .aload_n 2, 1), (823, .aload_n 0, 1), (824, .iload_n 3, 1), (825, .iconst 1, 1), (826, .iadd, 1), (827, .iaload, 1)]
theorem lD9_ok : lD9.all lawB = true := by decide +kernel
theorem d_766 : decode code 766 = .ok (.aload_n 1, 1) := law_d lD9_ok (k := 0) rfl
theorem d_767 : decode code 767 = .ok (.aload_n 0, 1) := law_d lD9_ok (k := 1) rfl
theorem d_768 : decode code 768 = .ok (.iload_n 3, 1) := law_d lD9_ok (k := 2) rfl
theorem d_769 : decode code 769 = .ok (.iconst 1, 1) := law_d lD9_ok (k := 3) rfl
theorem d_770 : decode code 770 = .ok (.iadd, 1) := law_d lD9_ok (k := 4) rfl
theorem d_771 : decode code 771 = .ok (.iaload, 1) := law_d lD9_ok (k := 5) rfl
theorem d_772 : decode code 772 = .ok (.invokevirtual 108, 3) := law_d lD9_ok (k := 6) rfl
theorem d_775 : decode code 775 = .ok (.pop, 1) := law_d lD9_ok (k := 7) rfl
theorem d_776 : decode code 776 = .ok (.aload_n 2, 1) := law_d lD9_ok (k := 8) rfl
theorem d_777 : decode code 777 = .ok (.aload_n 0, 1) := law_d lD9_ok (k := 9) rfl
theorem d_778 : decode code 778 = .ok (.iload_n 3, 1) := law_d lD9_ok (k := 10) rfl
theorem d_779 : decode code 779 = .ok (.iconst 1, 1) := law_d lD9_ok (k := 11) rfl
theorem d_780 : decode code 780 = .ok (.iadd, 1) := law_d lD9_ok (k := 12) rfl
theorem d_781 : decode code 781 = .ok (.iaload, 1) := law_d lD9_ok (k := 13) rfl
theorem d_782 : decode code 782 = .ok (.invokevirtual 111, 3) := law_d lD9_ok (k := 14) rfl
theorem d_785 : decode code 785 = .ok (.pop, 1) := law_d lD9_ok (k := 15) rfl
theorem d_786 : decode code 786 = .ok (.goto 364, 3) := law_d lD9_ok (k := 16) rfl
theorem d_789 : decode code 789 = .ok (.aload_n 1, 1) := law_d lD9_ok (k := 17) rfl
theorem d_790 : decode code 790 = .ok (.aload_n 0, 1) := law_d lD9_ok (k := 18) rfl
theorem d_791 : decode code 791 = .ok (.iload_n 3, 1) := law_d lD9_ok (k := 19) rfl
theorem d_792 : decode code 792 = .ok (.iconst 1, 1) := law_d lD9_ok (k := 20) rfl
theorem d_793 : decode code 793 = .ok (.iadd, 1) := law_d lD9_ok (k := 21) rfl
theorem d_794 : decode code 794 = .ok (.iaload, 1) := law_d lD9_ok (k := 22) rfl
theorem d_795 : decode code 795 = .ok (.invokevirtual 112, 3) := law_d lD9_ok (k := 23) rfl
theorem d_798 : decode code 798 = .ok (.pop, 1) := law_d lD9_ok (k := 24) rfl
theorem d_799 : decode code 799 = .ok (.aload_n 2, 1) := law_d lD9_ok (k := 25) rfl
theorem d_800 : decode code 800 = .ok (.aload_n 0, 1) := law_d lD9_ok (k := 26) rfl
theorem d_801 : decode code 801 = .ok (.iload_n 3, 1) := law_d lD9_ok (k := 27) rfl
theorem d_802 : decode code 802 = .ok (.iconst 1, 1) := law_d lD9_ok (k := 28) rfl
theorem d_803 : decode code 803 = .ok (.iadd, 1) := law_d lD9_ok (k := 29) rfl
theorem d_804 : decode code 804 = .ok (.iaload, 1) := law_d lD9_ok (k := 30) rfl
theorem d_805 : decode code 805 = .ok (.invokevirtual 115, 3) := law_d lD9_ok (k := 31) rfl
theorem d_808 : decode code 808 = .ok (.pop, 1) := law_d lD9_ok (k := 32) rfl
theorem d_809 : decode code 809 = .ok (.goto 341, 3) := law_d lD9_ok (k := 33) rfl
theorem d_812 : decode code 812 = .ok (.aload_n 1, 1) := law_d lD9_ok (k := 34) rfl
theorem d_813 : decode code 813 = .ok (.aload_n 0, 1) := law_d lD9_ok (k := 35) rfl
theorem d_814 : decode code 814 = .ok (.iload_n 3, 1) := law_d lD9_ok (k := 36) rfl
theorem d_815 : decode code 815 = .ok (.iconst 1, 1) := law_d lD9_ok (k := 37) rfl
theorem d_816 : decode code 816 = .ok (.iadd, 1) := law_d lD9_ok (k := 38) rfl
theorem d_817 : decode code 817 = .ok (.iaload, 1) := law_d lD9_ok (k := 39) rfl
theorem d_818 : decode code 818 = .ok (.invokevirtual 116, 3) := law_d lD9_ok (k := 40) rfl
theorem d_821 : decode code 821 = .ok (.pop, 1) := law_d lD9_ok (k := 41) rfl
theorem d_822 : decode code 822 = .ok (.aload_n 2, 1) := law_d lD9_ok (k := 42) rfl
theorem d_823 : decode code 823 = .ok (.aload_n 0, 1) := law_d lD9_ok (k := 43) rfl
theorem d_824 : decode code 824 = .ok (.iload_n 3, 1) := law_d lD9_ok (k := 44) rfl
theorem d_825 : decode code 825 = .ok (.iconst 1, 1) := law_d lD9_ok (k := 45) rfl
theorem d_826 : decode code 826 = .ok (.iadd, 1) := law_d lD9_ok (k := 46) rfl
theorem d_827 : decode code 827 = .ok (.iaload, 1) := law_d lD9_ok (k := 47) rfl
def lD10 : List (Nat × Jvm.ClassFile.Instr × Nat) := [(828, .invokevirtual 119, 3), (831, .pop, 1), (832, .goto 318, 3), (835, .aload_n 1, 1), (836, .aload_n 0, 1), (837, .iload_n 3, 1), (838, .iconst 1, 1), (839, .iadd, 1), (840, .iaload, 1), (841, .invokevirtual 120, 3), (844, .pop, 1), (845, .aload_n 2, 1), (846, .aload_n 0, 1), (847, .iload_n 3, 1), (848, .iconst 1, 1), (849, .iadd, 1), (850, .iaload, 1), (851, .invokevirtual 123, 3), (854, .pop, 1), (855, .goto 295, 3), (858, .aload_n 1, 1), (859, .aload_n 0, 1), (860, .iload_n 3, 1), (861, .iconst 1, 1), (862, .iadd, 1), (863, .iaload, 1), (864, .invokevirtual 124, 3), (867, .pop, 1), (868, .aload_n 2, 1), (869, .aload_n 0, 1), (870, .iload_n 3, 1), (871, .iconst 1, 1), (872, .iadd, 1), (873, .iaload, 1), (874, .invokevirtual 127, 3), (877, .pop, 1), (878, .goto 272, 3), (881, .aload_n 1, 1), (882, .invokevirtual 128, 3), (885, .pop, 1), (886, .aload_n 2, 1), (887, .invokevirtual 131, 3), (890, .pop, 1), (891, .goto 259, 3), (894, .aload_n 1, 1), (895, .aload_n 0, 1), (896, .iload_n 3, 1), (897, .iconst 1, 1)]
theorem lD10_ok : lD10.all lawB = true := by decide +kernel
theorem d_828 : decode code 828 = .ok (.invokevirtual 119, 3) := law_d lD10_ok (k := 0) rfl
theorem d_831 : decode code 831 = .ok (.pop, 1) := law_d lD10_ok (k := 1) rfl
theorem d_832 : decode code 832 = .ok (.goto 318, 3) := law_d lD10_ok (k := 2) rfl
theorem d_835 : decode code 835 = .ok (.aload_n 1, 1) := law_d lD10_ok (k := 3) rfl
theorem d_836 : decode code 836 = .ok (.aload_n 0, 1) := law_d lD10_ok (k := 4) rfl
theorem d_837 : decode code 837 = .ok (.iload_n 3, 1) := law_d lD10_ok (k := 5) rfl
theorem d_838 : decode code 838 = .ok (.iconst 1, 1) := law_d lD10_ok (k := 6) rfl
theorem d_839 : decode code 839 = .ok (.iadd, 1) := law_d lD10_ok (k := 7) rfl
theorem d_840 : decode code 840 = .ok (.iaload, 1) := law_d lD10_ok (k := 8) rfl
theorem d_841 : decode code 841 = .ok (.invokevirtual 120, 3) := law_d lD10_ok (k := 9) rfl
theorem d_844 : decode code 844 = .ok (.pop, 1) := law_d lD10_ok (k := 10) rfl
theorem d_845 : decode code 845 = .ok (.aload_n 2, 1) := law_d lD10_ok (k := 11) rfl
theorem d_846 : decode code 846 = .ok (.aload_n 0, 1) := law_d lD10_ok (k := 12) rfl
theorem d_847 : decode code 847 = .ok (.iload_n 3, 1) := law_d lD10_ok (k := 13) rfl
theorem d_848 : decode code 848 = .ok (.iconst 1, 1) := law_d lD10_ok (k := 14) rfl
theorem d_849 : decode code 849 = .ok (.iadd, 1) := law_d lD10_ok (k := 15) rfl
theorem d_850 : decode code 850 = .ok (.iaload, 1) := law_d lD10_ok (k := 16) rfl
theorem d_851 : decode code 851 = .ok (.invokevirtual 123, 3) := law_d lD10_ok (k := 17) rfl
theorem d_854 : decode code 854 = .ok (.pop, 1) := law_d lD10_ok (k := 18) rfl
theorem d_855 : decode code 855 = .ok (.goto 295, 3) := law_d lD10_ok (k := 19) rfl
theorem d_858 : decode code 858 = .ok (.aload_n 1, 1) := law_d lD10_ok (k := 20) rfl
theorem d_859 : decode code 859 = .ok (.aload_n 0, 1) := law_d lD10_ok (k := 21) rfl
theorem d_860 : decode code 860 = .ok (.iload_n 3, 1) := law_d lD10_ok (k := 22) rfl
theorem d_861 : decode code 861 = .ok (.iconst 1, 1) := law_d lD10_ok (k := 23) rfl
theorem d_862 : decode code 862 = .ok (.iadd, 1) := law_d lD10_ok (k := 24) rfl
theorem d_863 : decode code 863 = .ok (.iaload, 1) := law_d lD10_ok (k := 25) rfl
theorem d_864 : decode code 864 = .ok (.invokevirtual 124, 3) := law_d lD10_ok (k := 26) rfl
theorem d_867 : decode code 867 = .ok (.pop, 1) := law_d lD10_ok (k := 27) rfl
theorem d_868 : decode code 868 = .ok (.aload_n 2, 1) := law_d lD10_ok (k := 28) rfl
theorem d_869 : decode code 869 = .ok (.aload_n 0, 1) := law_d lD10_ok (k := 29) rfl
theorem d_870 : decode code 870 = .ok (.iload_n 3, 1) := law_d lD10_ok (k := 30) rfl
theorem d_871 : decode code 871 = .ok (.iconst 1, 1) := law_d lD10_ok (k := 31) rfl
theorem d_872 : decode code 872 = .ok (.iadd, 1) := law_d lD10_ok (k := 32) rfl
theorem d_873 : decode code 873 = .ok (.iaload, 1) := law_d lD10_ok (k := 33) rfl
theorem d_874 : decode code 874 = .ok (.invokevirtual 127, 3) := law_d lD10_ok (k := 34) rfl
theorem d_877 : decode code 877 = .ok (.pop, 1) := law_d lD10_ok (k := 35) rfl
theorem d_878 : decode code 878 = .ok (.goto 272, 3) := law_d lD10_ok (k := 36) rfl
theorem d_881 : decode code 881 = .ok (.aload_n 1, 1) := law_d lD10_ok (k := 37) rfl
theorem d_882 : decode code 882 = .ok (.invokevirtual 128, 3) := law_d lD10_ok (k := 38) rfl
theorem d_885 : decode code 885 = .ok (.pop, 1) := law_d lD10_ok (k := 39) rfl
theorem d_886 : decode code 886 = .ok (.aload_n 2, 1) := law_d lD10_ok (k := 40) rfl
theorem d_887 : decode code 887 = .ok (.invokevirtual 131, 3) := law_d lD10_ok (k := 41) rfl
theorem d_890 : decode code 890 = .ok (.pop, 1) := law_d lD10_ok (k := 42) rfl
theorem d_891 : decode code 891 = .ok (.goto 259, 3) := law_d lD10_ok (k := 43) rfl
theorem d_894 : decode code 894 = .ok (.aload_n 1, 1) := law_d lD10_ok (k := 44) rfl
theorem d_895 : decode code 895 = .ok (.aload_n 0, 1) := law_d lD10_ok (k := 45) rfl
theorem d_896 : decode code 896 = .ok (.iload_n 3, 1) := law_d lD10_ok (k := 46) rfl
theorem d_897 : decode code 897 = .ok (.iconst 1, 1) := law_d lD10_ok (k := 47) rfl
def lD11 : List (Nat × Jvm.ClassFile.Instr × Nat) := [(898, .iadd, 1), (899, .iaload, 1), (900, .invokevirtual 132, 3), (903, .pop, 1), (904, .aload_n 2, 1), (905, .aload_n 0, 1), (906, .iload_n 3, 1), (907, .iconst 1, 1), (908, .iadd, 1), (909, .iaload, 1), (910, .invokevirtual 135, 3), (913, .pop, 1), (914, .goto 236, 3), (917, .aload_n 1, 1), (918, .aload_n 0, 1), (919, .iload_n 3, 1), (920, .iconst 1, 1), (921, .iadd, 1), (922, .iaload, 1), (923, .invokevirtual 136, 3), (926, .pop, 1), (927, .aload_n 2, 1), (928, .aload_n 0, 1), (929, .iload_n 3, 1), (930, .iconst 1, 1), (931, .iadd, 1), (932, .iaload, 1), (933, .invokevirtual 139, 3), (936, .pop, 1), (937, .goto 213, 3), (940, .aload_n 1, 1), (941, .aload_n 0, 1), (942, .iload_n 3, 1), (943, .iconst 1, 1), (944, .iadd, 1), (945, .iaload, 1), (946, .invokevirtual 140, 3), (949, .pop, 1), (950, .aload_n 2, 1), (951, .aload_n 0, 1), (952, .iload_n 3, 1), (953, .iconst 1, 1), (954, .iadd, 1), (955, .iaload, 1), (956, .invokevirtual 143, 3), (959, .pop, 1), (960, .goto 190, 3), (963, .aload_n 1, 1)]
theorem lD11_ok : lD11.all lawB = true := by decide +kernel
theorem d_898 : decode code 898 = .ok (.iadd, 1) := law_d lD11_ok (k := 0) rfl
theorem d_899 : decode code 899 = .ok (.iaload, 1) := law_d lD11_ok (k := 1) rfl
theorem d_900 : decode code 900 = .ok (.invokevirtual 132, 3) := law_d lD11_ok (k := 2) rfl
theorem d_903 : decode code 903 = .ok (.pop, 1) := law_d lD11_ok (k := 3) rfl
theorem d_904 : decode code 904 = .ok (.aload_n 2, 1) := law_d lD11_ok (k := 4) rfl
theorem d_905 : decode code 905 = .ok (.aload_n 0, 1) := law_d lD11_ok (k := 5) rfl
theorem d_906 : decode code 906 = .ok (.iload_n 3, 1) := law_d lD11_ok (k := 6) rfl
theorem d_907 : decode code 907 = .ok (.iconst 1, 1) := law_d lD11_ok (k := 7) rfl
theorem d_908 : decode code 908 = .ok (.iadd, 1) := law_d lD11_ok (k := 8) rfl
theorem d_909 : decode code 909 = .ok (.iaload, 1) := law_d lD11_ok (k := 9) rfl
theorem d_910 : decode code 910 = .ok (.invokevirtual 135, 3) := law_d lD11_ok (k := 10) rfl
theorem d_913 : decode code 913 = .ok (.pop, 1) := law_d lD11_ok (k := 11) rfl
theorem d_914 : decode code 914 = .ok (.goto 236, 3) := law_d lD11_ok (k := 12) rfl
theorem d_917 : decode code 917 = .ok (.aload_n 1, 1) := law_d lD11_ok (k := 13) rfl
theorem d_918 : decode code 918 = .ok (.aload_n 0, 1) := law_d lD11_ok (k := 14) rfl
theorem d_919 : decode code 919 = .ok (.iload_n 3, 1) := law_d lD11_ok (k := 15) rfl
theorem d_920 : decode code 920 = .ok (.iconst 1, 1) := law_d lD11_ok (k := 16) rfl
theorem d_921 : decode code 921 = .ok (.iadd, 1) := law_d lD11_ok (k := 17) rfl
theorem d_922 : decode code 922 = .ok (.iaload, 1) := law_d lD11_ok (k := 18) rfl
theorem d_923 : decode code 923 = .ok (.invokevirtual 136, 3) := law_d lD11_ok (k := 19) rfl
theorem d_926 : decode code 926 = .ok (.pop, 1) := law_d lD11_ok (k := 20) rfl
theorem d_927 : decode code 927 = .ok (.aload_n 2, 1) := law_d lD11_ok (k := 21) rfl
theorem d_928 : decode code 928 = .ok (.aload_n 0, 1) := law_d lD11_ok (k := 22) rfl
theorem d_929 : decode code 929 = .ok (.iload_n 3, 1) := law_d lD11_ok (k := 23) rfl
theorem d_930 : decode code 930 = .ok (.iconst 1, 1) := law_d lD11_ok (k := 24) rfl
theorem d_931 : decode code 931 = .ok (.iadd, 1) := law_d lD11_ok (k := 25) rfl
theorem d_932 : decode code 932 = .ok (.iaload, 1) := law_d lD11_ok (k := 26) rfl
theorem d_933 : decode code 933 = .ok (.invokevirtual 139, 3) := law_d lD11_ok (k := 27) rfl
theorem d_936 : decode code 936 = .ok (.pop, 1) := law_d lD11_ok (k := 28) rfl
theorem d_937 : decode code 937 = .ok (.goto 213, 3) := law_d lD11_ok (k := 29) rfl
theorem d_940 : decode code 940 = .ok (.aload_n 1, 1) := law_d lD11_ok (k := 30) rfl
theorem d_941 : decode code 941 = .ok (.aload_n 0, 1) := law_d lD11_ok (k := 31) rfl
theorem d_942 : decode code 942 = .ok (.iload_n 3, 1) := law_d lD11_ok (k := 32) rfl
theorem d_943 : decode code 943 = .ok (.iconst 1, 1) := law_d lD11_ok (k := 33) rfl
theorem d_944 : decode code 944 = .ok (.iadd, 1) := law_d lD11_ok (k := 34) rfl
theorem d_945 : decode code 945 = .ok (.iaload, 1) := law_d lD11_ok (k := 35) rfl
theorem d_946 : decode code 946 = .ok (.invokevirtual 140, 3) := law_d lD11_ok (k := 36) rfl
theorem d_949 : decode code 949 = .ok (.pop, 1) := law_d lD11_ok (k := 37) rfl
theorem d_950 : decode code 950 = .ok (.aload_n 2, 1) := law_d lD11_ok (k := 38) rfl
theorem d_951 : decode code 951 = .ok (.aload_n 0, 1) := law_d lD11_ok (k := 39) rfl
theorem d_952 : decode code 952 = .ok (.iload_n 3, 1) := law_d lD11_ok (k := 40) rfl
theorem d_953 : decode code 953 = .ok (.iconst 1, 1) := law_d lD11_ok (k := 41) rfl
theorem d_954 : decode code 954 = .ok (.iadd, 1) := law_d lD11_ok (k := 42) rfl
theorem d_955 : decode code 955 = .ok (.iaload, 1) := law_d lD11_ok (k := 43) rfl
theorem d_956 : decode code 956 = .ok (.invokevirtual 143, 3) := law_d lD11_ok (k := 44) rfl
theorem d_959 : decode code 959 = .ok (.pop, 1) := law_d lD11_ok (k := 45) rfl
theorem d_960 : decode code 960 = .ok (.goto 190, 3) := law_d lD11_ok (k := 46) rfl
theorem d_963 : decode code 963 = .ok (.aload_n 1, 1) := law_d lD11_ok (k := 47) rfl
def lD12 : List (Nat × Jvm.ClassFile.Instr × Nat) := [(964, .invokevirtual 144, 3), (967, .pop, 1), (968, .aload_n 2, 1), (969, .invokevirtual 147, 3), (972, .pop, 1), (973, .goto 177, 3), (976, .aload_n 1, 1), (977, .aload_n 0, 1), (978, .iload_n 3, 1), (979, .iconst 1, 1), (980, .iadd, 1), (981, .iaload, 1), (982, .invokevirtual 148, 3), (985, .pop, 1), (986, .aload_n 2, 1), (987, .aload_n 0, 1), (988, .iload_n 3, 1), (989, .iconst 1, 1), (990, .iadd, 1), (991, .iaload, 1), (992, .invokevirtual 151, 3), (995, .pop, 1), (996, .goto 154, 3), (999, .aload_n 1, 1), (1000, .aload_n 0, 1), (1001, .iload_n 3, 1), (1002, .iconst 1, 1), (1003, .iadd, 1), (1004, .iaload, 1), (1005, .invokevirtual 152, 3), (1008, .pop, 1), (1009, .aload_n 2, 1), (1010, .aload_n 0, 1), (1011, .iload_n 3, 1), (1012, .iconst 1, 1), (1013, .iadd, 1), (1014, .iaload, 1), (1015, .invokevirtual 155, 3), (1018, .pop, 1), (1019, .goto 131, 3), (1022, .aload_n 1, 1), (1023, .aload_n 0, 1), (1024, .iload_n 3, 1), (1025, .iconst 1, 1), (1026, .iadd, 1), (1027, .iaload, 1), (1028, .invokevirtual 156, 3), (1031, .pop, 1)]
theorem lD12_ok : lD12.all lawB = true := by decide +kernel
theorem d_964 : decode code 964 = .ok (.invokevirtual 144, 3) := law_d lD12_ok (k := 0) rfl
theorem d_967 : decode code 967 = .ok (.pop, 1) := law_d lD12_ok (k := 1) rfl
theorem d_968 : decode code 968 = .ok (.aload_n 2, 1) := law_d lD12_ok (k := 2) rfl
theorem d_969 : decode code 969 = .ok (.invokevirtual 147, 3) := law_d lD12_ok (k := 3) rfl
theorem d_972 : decode code 972 = .ok (.pop, 1) := law_d lD12_ok (k := 4) rfl
theorem d_973 : decode code 973 = .ok (.goto 177, 3) := law_d lD12_ok (k := 5) rfl
theorem d_976 : decode code 976 = .ok (.aload_n 1, 1) := law_d lD12_ok (k := 6) rfl
theorem d_977 : decode code 977 = .ok (.aload_n 0, 1) := law_d lD12_ok (k := 7) rfl
theorem d_978 : decode code 978 = .ok (.iload_n 3, 1) := law_d lD12_ok (k := 8) rfl
theorem d_979 : decode code 979 = .ok (.iconst 1, 1) := law_d lD12_ok (k := 9) rfl
theorem d_980 : decode code 980 = .ok (.iadd, 1) := law_d lD12_ok (k := 10) rfl
theorem d_981 : decode code 981 = .ok (.iaload, 1) := law_d lD12_ok (k := 11) rfl
theorem d_982 : decode code 982 = .ok (.invokevirtual 148, 3) := law_d lD12_ok (k := 12) rfl
theorem d_985 : decode code 985 = .ok (.pop, 1) := law_d lD12_ok (k := 13) rfl
theorem d_986 : decode code 986 = .ok (.aload_n 2, 1) := law_d lD12_ok (k := 14) rfl
theorem d_987 : decode code 987 = .ok (.aload_n 0, 1) := law_d lD12_ok (k := 15) rfl
theorem d_988 : decode code 988 = .ok (.iload_n 3, 1) := law_d lD12_ok (k := 16) rfl
theorem d_989 : decode code 989 = .ok (.iconst 1, 1) := law_d lD12_ok (k := 17) rfl
theorem d_990 : decode code 990 = .ok (.iadd, 1) := law_d lD12_ok (k := 18) rfl
theorem d_991 : decode code 991 = .ok (.iaload, 1) := law_d lD12_ok (k := 19) rfl
theorem d_992 : decode code 992 = .ok (.invokevirtual 151, 3) := law_d lD12_ok (k := 20) rfl
theorem d_995 : decode code 995 = .ok (.pop, 1) := law_d lD12_ok (k := 21) rfl
theorem d_996 : decode code 996 = .ok (.goto 154, 3) := law_d lD12_ok (k := 22) rfl
theorem d_999 : decode code 999 = .ok (.aload_n 1, 1) := law_d lD12_ok (k := 23) rfl
theorem d_1000 : decode code 1000 = .ok (.aload_n 0, 1) := law_d lD12_ok (k := 24) rfl
theorem d_1001 : decode code 1001 = .ok (.iload_n 3, 1) := law_d lD12_ok (k := 25) rfl
theorem d_1002 : decode code 1002 = .ok (.iconst 1, 1) := law_d lD12_ok (k := 26) rfl
theorem d_1003 : decode code 1003 = .ok (.iadd, 1) := law_d lD12_ok (k := 27) rfl
theorem d_1004 : decode code 1004 = .ok (.iaload, 1) := law_d lD12_ok (k := 28) rfl
theorem d_1005 : decode code 1005 = .ok (.invokevirtual 152, 3) := law_d lD12_ok (k := 29) rfl
theorem d_1008 : decode code 1008 = .ok (.pop, 1) := law_d lD12_ok (k := 30) rfl
theorem d_1009 : decode code 1009 = .ok (.aload_n 2, 1) := law_d lD12_ok (k := 31) rfl
theorem d_1010 : decode code 1010 = .ok (.aload_n 0, 1) := law_d lD12_ok (k := 32) rfl
theorem d_1011 : decode code 1011 = .ok (.iload_n 3, 1) := law_d lD12_ok (k := 33) rfl
theorem d_1012 : decode code 1012 = .ok (.iconst 1, 1) := law_d lD12_ok (k := 34) rfl
theorem d_1013 : decode code 1013 = .ok (.iadd, 1) := law_d lD12_ok (k := 35) rfl
theorem d_1014 : decode code 1014 = .ok (.iaload, 1) := law_d lD12_ok (k := 36) rfl
theorem d_1015 : decode code 1015 = .ok (.invokevirtual 155, 3) := law_d lD12_ok (k := 37) rfl
theorem d_1018 : decode code 1018 = .ok (.pop, 1) := law_d lD12_ok (k := 38) rfl
theorem d_1019 : decode code 1019 = .ok (.goto 131, 3) := law_d lD12_ok (k := 39) rfl
theorem d_1022 : decode code 1022 = .ok (.aload_n 1, 1) := law_d lD12_ok (k := 40) rfl
theorem d_1023 : decode code 1023 = .ok (.aload_n 0, 1) := law_d lD12_ok (k := 41) rfl
theorem d_1024 : decode code 1024 = .ok (.iload_n 3, 1) := law_d lD12_ok (k := 42) rfl
theorem d_1025 : decode code 1025 = .ok (.iconst 1, 1) := law_d lD12_ok (k := 43) rfl
theorem d_1026 : decode code 1026 = .ok (.iadd, 1) := law_d lD12_ok (k := 44) rfl
theorem d_1027 : decode code 1027 = .ok (.iaload, 1) := law_d lD12_ok (k := 45) rfl
theorem d_1028 : decode code 1028 = .ok (.invokevirtual 156, 3) := law_d lD12_ok (k := 46) rfl
theorem d_1031 : decode code 1031 = .ok (.pop, 1) := law_d lD12_ok (k := 47) rfl
def lD13 : List (Nat × Jvm.ClassFile.Instr × Nat) := [(1032, .aload_n 2, 1), (1033, .aload_n 0, 1), (1034, .iload_n 3, 1), (1035, .iconst 1, 1), (1036, .iadd, 1), (1037, .iaload, 1), (1038, .invokevirtual 159, 3), (1041, .pop, 1), (1042, .goto 108, 3), (1045, .aload_n 1, 1), (1046, .aload_n 0, 1), (1047, .iload_n 3, 1), (1048, .iconst 1, 1), (1049, .iadd, 1), (1050, .iaload, 1), (1051, .invokevirtual 160, 3), (1054, .pop, 1), (1055, .aload_n 2, 1), (1056, .aload_n 0, 1), (1057, .iload_n 3, 1), (1058, .iconst 1, 1), (1059, .iadd, 1), (1060, .iaload, 1), (1061, .invokevirtual 163, 3), (1064, .pop, 1), (1065, .goto 85, 3), (1068, .aload_n 1, 1), (1069, .aload_n 0, 1), (1070, .iload_n 3, 1), (1071, .iconst 1, 1), (1072, .iadd, 1), (1073, .iaload, 1), (1074, .invokevirtual 164, 3), (1077, .pop, 1), (1078, .aload_n 2, 1), (1079, .aload_n 0, 1), (1080, .iload_n 3, 1), (1081, .iconst 1, 1), (1082, .iadd, 1), (1083, .iaload, 1), (1084, .invokevirtual 167, 3), (1087, .pop, 1), (1088, .goto 62, 3), (1091, .aload_n 1, 1), (1092, .invokevirtual 168, 3), (1095, .pop, 1), (1096, .aload_n 2, 1), (1097, .invokevirtual 172, 3)]
theorem lD13_ok : lD13.all lawB = true := by decide +kernel
theorem d_1032 : decode code 1032 = .ok (.aload_n 2, 1) := law_d lD13_ok (k := 0) rfl
theorem d_1033 : decode code 1033 = .ok (.aload_n 0, 1) := law_d lD13_ok (k := 1) rfl
theorem d_1034 : decode code 1034 = .ok (.iload_n 3, 1) := law_d lD13_ok (k := 2) rfl
theorem d_1035 : decode code 1035 = .ok (.iconst 1, 1) := law_d lD13_ok (k := 3) rfl
theorem d_1036 : decode code 1036 = .ok (.iadd, 1) := law_d lD13_ok (k := 4) rfl
theorem d_1037 : decode code 1037 = .ok (.iaload, 1) := law_d lD13_ok (k := 5) rfl
theorem d_1038 : decode code 1038 = .ok (.invokevirtual 159, 3) := law_d lD13_ok (k := 6) rfl
theorem d_1041 : decode code 1041 = .ok (.pop, 1) := law_d lD13_ok (k := 7) rfl
theorem d_1042 : decode code 1042 = .ok (.goto 108, 3) := law_d lD13_ok (k := 8) rfl
theorem d_1045 : decode code 1045 = .ok (.aload_n 1, 1) := law_d lD13_ok (k := 9) rfl
theorem d_1046 : decode code 1046 = .ok (.aload_n 0, 1) := law_d lD13_ok (k := 10) rfl
theorem d_1047 : decode code 1047 = .ok (.iload_n 3, 1) := law_d lD13_ok (k := 11) rfl
theorem d_1048 : decode code 1048 = .ok (.iconst 1, 1) := law_d lD13_ok (k := 12) rfl
theorem d_1049 : decode code 1049 = .ok (.iadd, 1) := law_d lD13_ok (k := 13) rfl
theorem d_1050 : decode code 1050 = .ok (.iaload, 1) := law_d lD13_ok (k := 14) rfl
theorem d_1051 : decode code 1051 = .ok (.invokevirtual 160, 3) := law_d lD13_ok (k := 15) rfl
theorem d_1054 : decode code 1054 = .ok (.pop, 1) := law_d lD13_ok (k := 16) rfl
theorem d_1055 : decode code 1055 = .ok (.aload_n 2, 1) := law_d lD13_ok (k := 17) rfl
theorem d_1056 : decode code 1056 = .ok (.aload_n 0, 1) := law_d lD13_ok (k := 18) rfl
theorem d_1057 : decode code 1057 = .ok (.iload_n 3, 1) := law_d lD13_ok (k := 19) rfl
theorem d_1058 : decode code 1058 = .ok (.iconst 1, 1) := law_d lD13_ok (k := 20) rfl
theorem d_1059 : decode code 1059 = .ok (.iadd, 1) := law_d lD13_ok (k := 21) rfl
theorem d_1060 : decode code 1060 = .ok (.iaload, 1) := law_d lD13_ok (k := 22) rfl
theorem d_1061 : decode code 1061 = .ok (.invokevirtual 163, 3) := law_d lD13_ok (k := 23) rfl
theorem d_1064 : decode code 1064 = .ok (.pop, 1) := law_d lD13_ok (k := 24) rfl
theorem d_1065 : decode code 1065 = .ok (.goto 85, 3) := law_d lD13_ok (k := 25) rfl
theorem d_1068 : decode code 1068 = .ok (.aload_n 1, 1) := law_d lD13_ok (k := 26) rfl
theorem d_1069 : decode code 1069 = .ok (.aload_n 0, 1) := law_d lD13_ok (k := 27) rfl
theorem d_1070 : decode code 1070 = .ok (.iload_n 3, 1) := law_d lD13_ok (k := 28) rfl
theorem d_1071 : decode code 1071 = .ok (.iconst 1, 1) := law_d lD13_ok (k := 29) rfl
theorem d_1072 : decode code 1072 = .ok (.iadd, 1) := law_d lD13_ok (k := 30) rfl
theorem d_1073 : decode code 1073 = .ok (.iaload, 1) := law_d lD13_ok (k := 31) rfl
theorem d_1074 : decode code 1074 = .ok (.invokevirtual 164, 3) := law_d lD13_ok (k := 32) rfl
theorem d_1077 : decode code 1077 = .ok (.pop, 1) := law_d lD13_ok (k := 33) rfl
theorem d_1078 : decode code 1078 = .ok (.aload_n 2, 1) := law_d lD13_ok (k := 34) rfl
theorem d_1079 : decode code 1079 = .ok (.aload_n 0, 1) := law_d lD13_ok (k := 35) rfl
theorem d_1080 : decode code 1080 = .ok (.iload_n 3, 1) := law_d lD13_ok (k := 36) rfl
theorem d_1081 : decode code 1081 = .ok (.iconst 1, 1) := law_d lD13_ok (k := 37) rfl
theorem d_1082 : decode code 1082 = .ok (.iadd, 1) := law_d lD13_ok (k := 38) rfl
theorem d_1083 : decode code 1083 = .ok (.iaload, 1) := law_d lD13_ok (k := 39) rfl
theorem d_1084 : decode code 1084 = .ok (.invokevirtual 167, 3) := law_d lD13_ok (k := 40) rfl
theorem d_1087 : decode code 1087 = .ok (.pop, 1) := law_d lD13_ok (k := 41) rfl
theorem d_1088 : decode code 1088 = .ok (.goto 62, 3) := law_d lD13_ok (k := 42) rfl
theorem d_1091 : decode code 1091 = .ok (.aload_n 1, 1) := law_d lD13_ok (k := 43) rfl
theorem d_1092 : decode code 1092 = .ok (.invokevirtual 168, 3) := law_d lD13_ok (k := 44) rfl
theorem d_1095 : decode code 1095 = .ok (.pop, 1) := law_d lD13_ok (k := 45) rfl
theorem d_1096 : decode code 1096 = .ok (.aload_n 2, 1) := law_d lD13_ok (k := 46) rfl
theorem d_1097 : decode code 1097 = .ok (.invokevirtual 172, 3) := law_d lD13_ok (k := 47) rfl
def lD14 : List (Nat × Jvm.ClassFile.Instr × Nat) := [(1100, .pop, 1), (1101, .goto 49, 3), (1104, .aload_n 1, 1), (1105, .aload_n 0, 1), (1106, .iload_n 3, 1), (1107, .iconst 1, 1), (1108, .iadd, 1), (1109, .iaload, 1), (1110, .invokevirtual 173, 3), (1113, .pop, 1), (1114, .aload_n 2, 1), (1115, .aload_n 0, 1), (1116, .iload_n 3, 1), (1117, .iconst 1, 1), (1118, .iadd, 1), (1119, .iaload, 1), (1120, .invokevirtual 176, 3), (1123, .pop, 1), (1124, .goto 26, 3), (1127, .aload_n 1, 1), (1128, .aload_n 0, 1), (1129, .iload_n 3, 1), (1130, .iconst 1, 1), (1131, .iadd, 1), (1132, .iaload, 1), (1133, .invokevirtual 177, 3), (1136, .aload_n 2, 1), (1137, .aload_n 0, 1), (1138, .iload_n 3, 1), (1139, .iconst 1, 1), (1140, .iadd, 1), (1141, .iaload, 1), (1142, .invokevirtual 180, 3), (1145, .if_icmp .eq 5, 3), (1148, .iconst 0, 1), (1149, .ireturn, 1), (1150, .iinc 3 6, 3), (1153, .goto (-1135), 3), (1156, .iconst 1, 1), (1157, .ireturn, 1)]
theorem lD14_ok : lD14.all lawB = true := by decide +kernel
theorem d_1100 : decode code 1100 = .ok (.pop, 1) := law_d lD14_ok (k := 0) rfl
theorem d_1101 : decode code 1101 = .ok (.goto 49, 3) := law_d lD14_ok (k := 1) rfl
theorem d_1104 : decode code 1104 = .ok (.aload_n 1, 1) := law_d lD14_ok (k := 2) rfl
theorem d_1105 : decode code 1105 = .ok (.aload_n 0, 1) := law_d lD14_ok (k := 3) rfl
theorem d_1106 : decode code 1106 = .ok (.iload_n 3, 1) := law_d lD14_ok (k := 4) rfl
theorem d_1107 : decode code 1107 = .ok (.iconst 1, 1) := law_d lD14_ok (k := 5) rfl
theorem d_1108 : decode code 1108 = .ok (.iadd, 1) := law_d lD14_ok (k := 6) rfl
theorem d_1109 : decode code 1109 = .ok (.iaload, 1) := law_d lD14_ok (k := 7) rfl
theorem d_1110 : decode code 1110 = .ok (.invokevirtual 173, 3) := law_d lD14_ok (k := 8) rfl
theorem d_1113 : decode code 1113 = .ok (.pop, 1) := law_d lD14_ok (k := 9) rfl
theorem d_1114 : decode code 1114 = .ok (.aload_n 2, 1) := law_d lD14_ok (k := 10) rfl
theorem d_1115 : decode code 1115 = .ok (.aload_n 0, 1) := law_d lD14_ok (k := 11) rfl
theorem d_1116 : decode code 1116 = .ok (.iload_n 3, 1) := law_d lD14_ok (k := 12) rfl
theorem d_1117 : decode code 1117 = .ok (.iconst 1, 1) := law_d lD14_ok (k := 13) rfl
theorem d_1118 : decode code 1118 = .ok (.iadd, 1) := law_d lD14_ok (k := 14) rfl
theorem d_1119 : decode code 1119 = .ok (.iaload, 1) := law_d lD14_ok (k := 15) rfl
theorem d_1120 : decode code 1120 = .ok (.invokevirtual 176, 3) := law_d lD14_ok (k := 16) rfl
theorem d_1123 : decode code 1123 = .ok (.pop, 1) := law_d lD14_ok (k := 17) rfl
theorem d_1124 : decode code 1124 = .ok (.goto 26, 3) := law_d lD14_ok (k := 18) rfl
theorem d_1127 : decode code 1127 = .ok (.aload_n 1, 1) := law_d lD14_ok (k := 19) rfl
theorem d_1128 : decode code 1128 = .ok (.aload_n 0, 1) := law_d lD14_ok (k := 20) rfl
theorem d_1129 : decode code 1129 = .ok (.iload_n 3, 1) := law_d lD14_ok (k := 21) rfl
theorem d_1130 : decode code 1130 = .ok (.iconst 1, 1) := law_d lD14_ok (k := 22) rfl
theorem d_1131 : decode code 1131 = .ok (.iadd, 1) := law_d lD14_ok (k := 23) rfl
theorem d_1132 : decode code 1132 = .ok (.iaload, 1) := law_d lD14_ok (k := 24) rfl
theorem d_1133 : decode code 1133 = .ok (.invokevirtual 177, 3) := law_d lD14_ok (k := 25) rfl
theorem d_1136 : decode code 1136 = .ok (.aload_n 2, 1) := law_d lD14_ok (k := 26) rfl
theorem d_1137 : decode code 1137 = .ok (.aload_n 0, 1) := law_d lD14_ok (k := 27) rfl
theorem d_1138 : decode code 1138 = .ok (.iload_n 3, 1) := law_d lD14_ok (k := 28) rfl
theorem d_1139 : decode code 1139 = .ok (.iconst 1, 1) := law_d lD14_ok (k := 29) rfl
theorem d_1140 : decode code 1140 = .ok (.iadd, 1) := law_d lD14_ok (k := 30) rfl
theorem d_1141 : decode code 1141 = .ok (.iaload, 1) := law_d lD14_ok (k := 31) rfl
theorem d_1142 : decode code 1142 = .ok (.invokevirtual 180, 3) := law_d lD14_ok (k := 32) rfl
theorem d_1145 : decode code 1145 = .ok (.if_icmp .eq 5, 3) := law_d lD14_ok (k := 33) rfl
theorem d_1148 : decode code 1148 = .ok (.iconst 0, 1) := law_d lD14_ok (k := 34) rfl
theorem d_1149 : decode code 1149 = .ok (.ireturn, 1) := law_d lD14_ok (k := 35) rfl
theorem d_1150 : decode code 1150 = .ok (.iinc 3 6, 3) := law_d lD14_ok (k := 36) rfl
theorem d_1153 : decode code 1153 = .ok (.goto (-1135), 3) := law_d lD14_ok (k := 37) rfl
theorem d_1156 : decode code 1156 = .ok (.iconst 1, 1) := law_d lD14_ok (k := 38) rfl
theorem d_1157 : decode code 1157 = .ok (.ireturn, 1) := law_d lD14_ok (k := 39) rfl
end
section
/-! The law's calls, by the tables. Written by wip/gen/law.py. -/
theorem lc_X9_feed : lcB 13 yX9_feed cX9_feed 6 (some .int) 1 22 9 5 [477, 480, 118, 478, 479] = true := lcb_mk (wAt_mk (ch_2 (q := 120) rfl) rfl) (wAt_mk (ch_2 (q := 123) rfl) rfl) (wAt_mk (ch_1 (q := 1) rfl) rfl) (by decide +kernel) rfl rfl rfl (wAt_mk (ch_2 (q := 121) rfl) rfl) (wAt_mk (ch_2 (q := 122) rfl) rfl)
theorem lc_X10_feed : lcB 17 yX10_feed cX10_feed 8 (some .int) 1 21 10 5 [1452, 1455, 130, 1453, 1454] = true := lcb_mk (wAt_mk (ch_6 (q := 135) rfl) rfl) (wAt_mk (ch_6 (q := 138) rfl) rfl) (wAt_mk (ch_1 (q := 13) rfl) rfl) (by decide +kernel) rfl rfl rfl (wAt_mk (ch_6 (q := 136) rfl) rfl) (wAt_mk (ch_6 (q := 137) rfl) rfl)
theorem lc_X9_end : lcB 18 yX9_end cX9_end 2 (some .boolean) 2 42 9 1 [493, 496, 118, 494, 495] = true := lcb_mk (wAt_mk (ch_2 (q := 136) rfl) rfl) (wAt_mk (ch_2 (q := 139) rfl) rfl) (wAt_mk (ch_1 (q := 1) rfl) rfl) (by decide +kernel) rfl rfl rfl (wAt_mk (ch_2 (q := 137) rfl) rfl) (wAt_mk (ch_2 (q := 138) rfl) rfl)
theorem lc_X10_end : lcB 22 yX10_end cX10_end 2 (some .boolean) 1 21 10 1 [1460, 1463, 130, 1461, 1462] = true := lcb_mk (wAt_mk (ch_6 (q := 143) rfl) rfl) (wAt_mk (ch_6 (q := 146) rfl) rfl) (wAt_mk (ch_1 (q := 13) rfl) rfl) (by decide +kernel) rfl rfl rfl (wAt_mk (ch_6 (q := 144) rfl) rfl) (wAt_mk (ch_6 (q := 145) rfl) rfl)
theorem lc_X9_trees : lcB 23 yX9_trees cX9_trees 2 (some .int) 6 135 9 0 [505, 508, 118, 506, 507] = true := lcb_mk (wAt_mk (ch_2 (q := 148) rfl) rfl) (wAt_mk (ch_2 (q := 151) rfl) rfl) (wAt_mk (ch_1 (q := 1) rfl) rfl) (by decide +kernel) rfl rfl rfl (wAt_mk (ch_2 (q := 149) rfl) rfl) (wAt_mk (ch_2 (q := 150) rfl) rfl)
theorem lc_X10_trees : lcB 27 yX10_trees cX10_trees 1 (some .int) 6 132 10 0 [1480, 1483, 130, 1481, 1482] = true := lcb_mk (wAt_mk (ch_6 (q := 163) rfl) rfl) (wAt_mk (ch_6 (q := 166) rfl) rfl) (wAt_mk (ch_1 (q := 13) rfl) rfl) (by decide +kernel) rfl rfl rfl (wAt_mk (ch_6 (q := 164) rfl) rfl) (wAt_mk (ch_6 (q := 165) rfl) rfl)
theorem lc_X9_fault : lcB 28 yX9_fault cX9_fault 2 (some .int) 0 0 9 1 [637, 640, 118, 638, 639] = true := lcb_mk (wAt_mk (ch_3 (q := 40) rfl) rfl) (wAt_mk (ch_3 (q := 43) rfl) rfl) (wAt_mk (ch_1 (q := 1) rfl) rfl) (by decide +kernel) rfl rfl rfl (wAt_mk (ch_3 (q := 41) rfl) rfl) (wAt_mk (ch_3 (q := 42) rfl) rfl)
theorem lc_X10_fault : lcB 32 yX10_fault cX10_fault 2 (some .int) 0 0 10 1 [1476, 1479, 130, 1477, 1478] = true := lcb_mk (wAt_mk (ch_6 (q := 159) rfl) rfl) (wAt_mk (ch_6 (q := 162) rfl) rfl) (wAt_mk (ch_1 (q := 13) rfl) rfl) (by decide +kernel) rfl rfl rfl (wAt_mk (ch_6 (q := 160) rfl) rfl) (wAt_mk (ch_6 (q := 161) rfl) rfl)
theorem lc_X9_has : lcB 33 yX9_has cX9_has 3 (some .int) 3 64 9 1 [641, 644, 118, 642, 643] = true := lcb_mk (wAt_mk (ch_3 (q := 44) rfl) rfl) (wAt_mk (ch_3 (q := 47) rfl) rfl) (wAt_mk (ch_1 (q := 1) rfl) rfl) (by decide +kernel) rfl rfl rfl (wAt_mk (ch_3 (q := 45) rfl) rfl) (wAt_mk (ch_3 (q := 46) rfl) rfl)
theorem lc_X10_has : lcB 36 yX10_has cX10_has 2 (some .int) 5 109 10 1 [1547, 1550, 130, 1548, 1549] = true := lcb_mk (wAt_mk (ch_6 (q := 230) rfl) rfl) (wAt_mk (ch_6 (q := 233) rfl) rfl) (wAt_mk (ch_1 (q := 13) rfl) rfl) (by decide +kernel) rfl rfl rfl (wAt_mk (ch_6 (q := 231) rfl) rfl) (wAt_mk (ch_6 (q := 232) rfl) rfl)
theorem lc_X9_node : lcB 37 yX9_node cX9_node 3 (some .int) 2 45 9 2 [693, 696, 118, 694, 695] = true := lcb_mk (wAt_mk (ch_3 (q := 96) rfl) rfl) (wAt_mk (ch_3 (q := 99) rfl) rfl) (wAt_mk (ch_1 (q := 1) rfl) rfl) (by decide +kernel) rfl rfl rfl (wAt_mk (ch_3 (q := 97) rfl) rfl) (wAt_mk (ch_3 (q := 98) rfl) rfl)
theorem lc_X10_node : lcB 41 yX10_node cX10_node 3 (some .int) 3 66 10 2 [1592, 1595, 130, 1593, 1594] = true := lcb_mk (wAt_mk (ch_7 (q := 35) rfl) rfl) (wAt_mk (ch_7 (q := 38) rfl) rfl) (wAt_mk (ch_1 (q := 13) rfl) rfl) (by decide +kernel) rfl rfl rfl (wAt_mk (ch_7 (q := 36) rfl) rfl) (wAt_mk (ch_7 (q := 37) rfl) rfl)
theorem lc_X9_letter : lcB 42 yX9_letter cX9_letter 5 (some .int) 2 42 9 3 [705, 708, 118, 706, 707] = true := lcb_mk (wAt_mk (ch_3 (q := 108) rfl) rfl) (wAt_mk (ch_3 (q := 111) rfl) rfl) (wAt_mk (ch_1 (q := 1) rfl) rfl) (by decide +kernel) rfl rfl rfl (wAt_mk (ch_3 (q := 109) rfl) rfl) (wAt_mk (ch_3 (q := 110) rfl) rfl)
theorem lc_X10_letter : lcB 46 yX10_letter cX10_letter 4 (some .int) 3 64 10 3 [1600, 1603, 130, 1601, 1602] = true := lcb_mk (wAt_mk (ch_7 (q := 43) rfl) rfl) (wAt_mk (ch_7 (q := 46) rfl) rfl) (wAt_mk (ch_1 (q := 13) rfl) rfl) (by decide +kernel) rfl rfl rfl (wAt_mk (ch_7 (q := 44) rfl) rfl) (wAt_mk (ch_7 (q := 45) rfl) rfl)
theorem lc_X9_entry : lcB 47 yX9_entry cX9_entry 3 (some .int) 2 44 9 2 [722, 725, 118, 723, 724] = true := lcb_mk (wAt_mk (ch_3 (q := 125) rfl) rfl) (wAt_mk (ch_3 (q := 128) rfl) rfl) (wAt_mk (ch_1 (q := 1) rfl) rfl) (by decide +kernel) rfl rfl rfl (wAt_mk (ch_3 (q := 126) rfl) rfl) (wAt_mk (ch_3 (q := 127) rfl) rfl)
theorem lc_X10_entry : lcB 50 yX10_entry cX10_entry 3 (some .int) 4 86 10 2 [1616, 1619, 130, 1617, 1618] = true := lcb_mk (wAt_mk (ch_7 (q := 59) rfl) rfl) (wAt_mk (ch_7 (q := 62) rfl) rfl) (wAt_mk (ch_1 (q := 13) rfl) rfl) (by decide +kernel) rfl rfl rfl (wAt_mk (ch_7 (q := 60) rfl) rfl) (wAt_mk (ch_7 (q := 61) rfl) rfl)
theorem lc_X9_child : lcB 51 yX9_child cX9_child 3 (some .int) 2 47 9 1 [734, 737, 118, 735, 736] = true := lcb_mk (wAt_mk (ch_3 (q := 137) rfl) rfl) (wAt_mk (ch_3 (q := 140) rfl) rfl) (wAt_mk (ch_1 (q := 1) rfl) rfl) (by decide +kernel) rfl rfl rfl (wAt_mk (ch_3 (q := 138) rfl) rfl) (wAt_mk (ch_3 (q := 139) rfl) rfl)
theorem lc_X10_child : lcB 54 yX10_child cX10_child 5 (some .int) 3 66 10 1 [1620, 1623, 130, 1621, 1622] = true := lcb_mk (wAt_mk (ch_7 (q := 63) rfl) rfl) (wAt_mk (ch_7 (q := 66) rfl) rfl) (wAt_mk (ch_1 (q := 13) rfl) rfl) (by decide +kernel) rfl rfl rfl (wAt_mk (ch_7 (q := 64) rfl) rfl) (wAt_mk (ch_7 (q := 65) rfl) rfl)
theorem lc_X9_walker : lcB 55 yX9_walker cX9_walker 4 (some .int) 2 41 9 2 [743, 746, 118, 744, 745] = true := lcb_mk (wAt_mk (ch_3 (q := 146) rfl) rfl) (wAt_mk (ch_3 (q := 149) rfl) rfl) (wAt_mk (ch_1 (q := 1) rfl) rfl) (by decide +kernel) rfl rfl rfl (wAt_mk (ch_3 (q := 147) rfl) rfl) (wAt_mk (ch_3 (q := 148) rfl) rfl)
theorem lc_X10_walker : lcB 58 yX10_walker cX10_walker 3 (some .int) 3 64 10 2 [1633, 1636, 130, 1634, 1635] = true := lcb_mk (wAt_mk (ch_7 (q := 76) rfl) rfl) (wAt_mk (ch_7 (q := 79) rfl) rfl) (wAt_mk (ch_1 (q := 13) rfl) rfl) (by decide +kernel) rfl rfl rfl (wAt_mk (ch_7 (q := 77) rfl) rfl) (wAt_mk (ch_7 (q := 78) rfl) rfl)
theorem lc_X9_handle : lcB 59 yX9_handle cX9_handle 2 (some .int) 1 21 9 1 [756, 759, 118, 757, 758] = true := lcb_mk (wAt_mk (ch_3 (q := 159) rfl) rfl) (wAt_mk (ch_3 (q := 162) rfl) rfl) (wAt_mk (ch_1 (q := 1) rfl) rfl) (by decide +kernel) rfl rfl rfl (wAt_mk (ch_3 (q := 160) rfl) rfl) (wAt_mk (ch_3 (q := 161) rfl) rfl)
theorem lc_X10_handle : lcB 62 yX10_handle cX10_handle 2 (some .int) 1 25 10 1 [1641, 1644, 130, 1642, 1643] = true := lcb_mk (wAt_mk (ch_7 (q := 84) rfl) rfl) (wAt_mk (ch_7 (q := 87) rfl) rfl) (wAt_mk (ch_1 (q := 13) rfl) rfl) (by decide +kernel) rfl rfl rfl (wAt_mk (ch_7 (q := 85) rfl) rfl) (wAt_mk (ch_7 (q := 86) rfl) rfl)
theorem lc_X9_where : lcB 63 yX9_where cX9_where 2 (some .int) 7 164 9 0 [764, 767, 118, 765, 766] = true := lcb_mk (wAt_mk (ch_3 (q := 167) rfl) rfl) (wAt_mk (ch_3 (q := 170) rfl) rfl) (wAt_mk (ch_1 (q := 1) rfl) rfl) (by decide +kernel) rfl rfl rfl (wAt_mk (ch_3 (q := 168) rfl) rfl) (wAt_mk (ch_3 (q := 169) rfl) rfl)
theorem lc_X10_where : lcB 66 yX10_where cX10_where 3 (some .int) 4 90 10 0 [1645, 1648, 130, 1646, 1647] = true := lcb_mk (wAt_mk (ch_7 (q := 88) rfl) rfl) (wAt_mk (ch_7 (q := 91) rfl) rfl) (wAt_mk (ch_1 (q := 13) rfl) rfl) (by decide +kernel) rfl rfl rfl (wAt_mk (ch_7 (q := 89) rfl) rfl) (wAt_mk (ch_7 (q := 90) rfl) rfl)
theorem lc_X9_needs : lcB 67 yX9_needs cX9_needs 1 (some .int) 7 164 9 0 [867, 870, 118, 868, 869] = true := lcb_mk (wAt_mk (ch_4 (q := 30) rfl) rfl) (wAt_mk (ch_4 (q := 33) rfl) rfl) (wAt_mk (ch_1 (q := 1) rfl) rfl) (by decide +kernel) rfl rfl rfl (wAt_mk (ch_4 (q := 31) rfl) rfl) (wAt_mk (ch_4 (q := 32) rfl) rfl)
theorem lc_X10_needs : lcB 70 yX10_needs cX10_needs 3 (some .int) 9 203 10 0 [1677, 1680, 130, 1678, 1679] = true := lcb_mk (wAt_mk (ch_7 (q := 120) rfl) rfl) (wAt_mk (ch_7 (q := 123) rfl) rfl) (wAt_mk (ch_1 (q := 13) rfl) rfl) (by decide +kernel) rfl rfl rfl (wAt_mk (ch_7 (q := 121) rfl) rfl) (wAt_mk (ch_7 (q := 122) rfl) rfl)
theorem lc_X9_victim : lcB 71 yX9_victim cX9_victim 5 (some .int) 2 89 9 1 [871, 874, 118, 872, 873] = true := lcb_mk (wAt_mk (ch_4 (q := 34) rfl) rfl) (wAt_mk (ch_4 (q := 37) rfl) rfl) (wAt_mk (ch_1 (q := 1) rfl) rfl) (by decide +kernel) rfl rfl rfl (wAt_mk (ch_4 (q := 35) rfl) rfl) (wAt_mk (ch_4 (q := 36) rfl) rfl)
theorem lc_X10_victim : lcB 74 yX10_victim cX10_victim 5 (some .int) 5 109 10 1 [1721, 1724, 130, 1722, 1723] = true := lcb_mk (wAt_mk (ch_7 (q := 164) rfl) rfl) (wAt_mk (ch_7 (q := 167) rfl) rfl) (wAt_mk (ch_1 (q := 13) rfl) rfl) (by decide +kernel) rfl rfl rfl (wAt_mk (ch_7 (q := 165) rfl) rfl) (wAt_mk (ch_7 (q := 166) rfl) rfl)
theorem lc_X9_path : lcB 75 yX9_path cX9_path 3 (some .int) 3 67 9 1 [877, 880, 118, 878, 879] = true := lcb_mk (wAt_mk (ch_4 (q := 40) rfl) rfl) (wAt_mk (ch_4 (q := 43) rfl) rfl) (wAt_mk (ch_1 (q := 1) rfl) rfl) (by decide +kernel) rfl rfl rfl (wAt_mk (ch_4 (q := 41) rfl) rfl) (wAt_mk (ch_4 (q := 42) rfl) rfl)
theorem lc_X10_path : lcB 78 yX10_path cX10_path 6 (some .int) 2 46 10 1 [1725, 1728, 130, 1726, 1727] = true := lcb_mk (wAt_mk (ch_7 (q := 168) rfl) rfl) (wAt_mk (ch_7 (q := 171) rfl) rfl) (wAt_mk (ch_1 (q := 13) rfl) rfl) (by decide +kernel) rfl rfl rfl (wAt_mk (ch_7 (q := 169) rfl) rfl) (wAt_mk (ch_7 (q := 170) rfl) rfl)
theorem lc_X9_octet : lcB 79 yX9_octet cX9_octet 2 (some .int) 0 0 9 1 [917, 920, 118, 918, 919] = true := lcb_mk (wAt_mk (ch_4 (q := 80) rfl) rfl) (wAt_mk (ch_4 (q := 83) rfl) rfl) (wAt_mk (ch_1 (q := 1) rfl) rfl) (by decide +kernel) rfl rfl rfl (wAt_mk (ch_4 (q := 81) rfl) rfl) (wAt_mk (ch_4 (q := 82) rfl) rfl)
theorem lc_X10_octet : lcB 82 yX10_octet cX10_octet 2 (some .int) 0 0 10 1 [1733, 1736, 130, 1734, 1735] = true := lcb_mk (wAt_mk (ch_7 (q := 176) rfl) rfl) (wAt_mk (ch_7 (q := 179) rfl) rfl) (wAt_mk (ch_1 (q := 13) rfl) rfl) (by decide +kernel) rfl rfl rfl (wAt_mk (ch_7 (q := 177) rfl) rfl) (wAt_mk (ch_7 (q := 178) rfl) rfl)
theorem lc_X9_look : lcB 83 yX9_look cX9_look 1 (some .int) 7 164 9 0 [921, 924, 118, 922, 923] = true := lcb_mk (wAt_mk (ch_4 (q := 84) rfl) rfl) (wAt_mk (ch_4 (q := 87) rfl) rfl) (wAt_mk (ch_1 (q := 1) rfl) rfl) (by decide +kernel) rfl rfl rfl (wAt_mk (ch_4 (q := 85) rfl) rfl) (wAt_mk (ch_4 (q := 86) rfl) rfl)
theorem lc_X10_look : lcB 86 yX10_look cX10_look 2 (some .int) 9 203 10 0 [1741, 1744, 130, 1742, 1743] = true := lcb_mk (wAt_mk (ch_7 (q := 184) rfl) rfl) (wAt_mk (ch_7 (q := 187) rfl) rfl) (wAt_mk (ch_1 (q := 13) rfl) rfl) (by decide +kernel) rfl rfl rfl (wAt_mk (ch_7 (q := 185) rfl) rfl) (wAt_mk (ch_7 (q := 186) rfl) rfl)
theorem lc_X9_make : lcB 87 yX9_make cX9_make 2 (some .int) 7 164 9 1 [953, 956, 118, 954, 955] = true := lcb_mk (wAt_mk (ch_4 (q := 116) rfl) rfl) (wAt_mk (ch_4 (q := 119) rfl) rfl) (wAt_mk (ch_1 (q := 1) rfl) rfl) (by decide +kernel) rfl rfl rfl (wAt_mk (ch_4 (q := 117) rfl) rfl) (wAt_mk (ch_4 (q := 118) rfl) rfl)
theorem lc_X10_make : lcB 91 yX10_make cX10_make 5 (some .int) 10 226 10 1 [1749, 1752, 130, 1750, 1751] = true := lcb_mk (wAt_mk (ch_7 (q := 192) rfl) rfl) (wAt_mk (ch_7 (q := 195) rfl) rfl) (wAt_mk (ch_1 (q := 13) rfl) rfl) (by decide +kernel) rfl rfl rfl (wAt_mk (ch_7 (q := 193) rfl) rfl) (wAt_mk (ch_7 (q := 194) rfl) rfl)
theorem lc_X9_remove : lcB 92 yX9_remove cX9_remove 1 (some .int) 7 164 9 0 [986, 989, 118, 987, 988] = true := lcb_mk (wAt_mk (ch_4 (q := 149) rfl) rfl) (wAt_mk (ch_4 (q := 152) rfl) rfl) (wAt_mk (ch_1 (q := 1) rfl) rfl) (by decide +kernel) rfl rfl rfl (wAt_mk (ch_4 (q := 150) rfl) rfl) (wAt_mk (ch_4 (q := 151) rfl) rfl)
theorem lc_X10_remove : lcB 95 yX10_remove cX10_remove 3 (some .int) 10 226 10 0 [1757, 1760, 130, 1758, 1759] = true := lcb_mk (wAt_mk (ch_7 (q := 200) rfl) rfl) (wAt_mk (ch_7 (q := 203) rfl) rfl) (wAt_mk (ch_1 (q := 13) rfl) rfl) (by decide +kernel) rfl rfl rfl (wAt_mk (ch_7 (q := 201) rfl) rfl) (wAt_mk (ch_7 (q := 202) rfl) rfl)
theorem lc_X9_rename : lcB 96 yX9_rename cX9_rename 1 (some .int) 7 164 9 0 [1011, 1014, 118, 1012, 1013] = true := lcb_mk (wAt_mk (ch_4 (q := 174) rfl) rfl) (wAt_mk (ch_4 (q := 177) rfl) rfl) (wAt_mk (ch_1 (q := 1) rfl) rfl) (by decide +kernel) rfl rfl rfl (wAt_mk (ch_4 (q := 175) rfl) rfl) (wAt_mk (ch_4 (q := 176) rfl) rfl)
theorem lc_X10_rename : lcB 99 yX10_rename cX10_rename 3 (some .int) 11 249 10 0 [1765, 1768, 130, 1766, 1767] = true := lcb_mk (wAt_mk (ch_7 (q := 208) rfl) rfl) (wAt_mk (ch_7 (q := 211) rfl) rfl) (wAt_mk (ch_1 (q := 13) rfl) rfl) (by decide +kernel) rfl rfl rfl (wAt_mk (ch_7 (q := 209) rfl) rfl) (wAt_mk (ch_7 (q := 210) rfl) rfl)
theorem lc_X9_open : lcB 100 yX9_open cX9_open 1 (some .int) 7 164 9 0 [1038, 1041, 118, 1039, 1040] = true := lcb_mk (wAt_mk (ch_4 (q := 201) rfl) rfl) (wAt_mk (ch_4 (q := 204) rfl) rfl) (wAt_mk (ch_1 (q := 1) rfl) rfl) (by decide +kernel) rfl rfl rfl (wAt_mk (ch_4 (q := 202) rfl) rfl) (wAt_mk (ch_4 (q := 203) rfl) rfl)
theorem lc_X10_open : lcB 103 yX10_open cX10_open 2 (some .int) 9 203 10 0 [1781, 1784, 130, 1782, 1783] = true := lcb_mk (wAt_mk (ch_7 (q := 224) rfl) rfl) (wAt_mk (ch_7 (q := 227) rfl) rfl) (wAt_mk (ch_1 (q := 13) rfl) rfl) (by decide +kernel) rfl rfl rfl (wAt_mk (ch_7 (q := 225) rfl) rfl) (wAt_mk (ch_7 (q := 226) rfl) rfl)
theorem lc_X9_close : lcB 104 yX9_close cX9_close 2 (some .boolean) 5 134 9 1 [1051, 1054, 118, 1052, 1053] = true := lcb_mk (wAt_mk (ch_4 (q := 214) rfl) rfl) (wAt_mk (ch_4 (q := 217) rfl) rfl) (wAt_mk (ch_1 (q := 1) rfl) rfl) (by decide +kernel) rfl rfl rfl (wAt_mk (ch_4 (q := 215) rfl) rfl) (wAt_mk (ch_4 (q := 216) rfl) rfl)
theorem lc_X10_close : lcB 107 yX10_close cX10_close 2 (some .boolean) 5 107 10 1 [1785, 1788, 130, 1786, 1787] = true := lcb_mk (wAt_mk (ch_7 (q := 228) rfl) rfl) (wAt_mk (ch_7 (q := 231) rfl) rfl) (wAt_mk (ch_1 (q := 13) rfl) rfl) (by decide +kernel) rfl rfl rfl (wAt_mk (ch_7 (q := 229) rfl) rfl) (wAt_mk (ch_7 (q := 230) rfl) rfl)
theorem lc_X9_mount : lcB 108 yX9_mount cX9_mount 2 (some .int) 7 164 9 1 [1059, 1062, 118, 1060, 1061] = true := lcb_mk (wAt_mk (ch_4 (q := 222) rfl) rfl) (wAt_mk (ch_4 (q := 225) rfl) rfl) (wAt_mk (ch_1 (q := 1) rfl) rfl) (by decide +kernel) rfl rfl rfl (wAt_mk (ch_4 (q := 223) rfl) rfl) (wAt_mk (ch_4 (q := 224) rfl) rfl)
theorem lc_X10_mount : lcB 111 yX10_mount cX10_mount 5 (some .int) 10 226 10 1 [1794, 1797, 130, 1795, 1796] = true := lcb_mk (wAt_mk (ch_7 (q := 237) rfl) rfl) (wAt_mk (ch_8 (q := 0) rfl) rfl) (wAt_mk (ch_1 (q := 13) rfl) rfl) (by decide +kernel) rfl rfl rfl (wAt_mk (ch_7 (q := 238) rfl) rfl) (wAt_mk (ch_7 (q := 239) rfl) rfl)
theorem lc_X9_unmount : lcB 112 yX9_unmount cX9_unmount 2 (some .int) 5 134 9 1 [1076, 1079, 118, 1077, 1078] = true := lcb_mk (wAt_mk (ch_4 (q := 239) rfl) rfl) (wAt_mk (ch_5 (q := 2) rfl) rfl) (wAt_mk (ch_1 (q := 1) rfl) rfl) (by decide +kernel) rfl rfl rfl (wAt_mk (ch_5 (q := 0) rfl) rfl) (wAt_mk (ch_5 (q := 1) rfl) rfl)
theorem lc_X10_unmount : lcB 115 yX10_unmount cX10_unmount 5 (some .int) 4 87 10 1 [1802, 1805, 130, 1803, 1804] = true := lcb_mk (wAt_mk (ch_8 (q := 5) rfl) rfl) (wAt_mk (ch_8 (q := 8) rfl) rfl) (wAt_mk (ch_1 (q := 13) rfl) rfl) (by decide +kernel) rfl rfl rfl (wAt_mk (ch_8 (q := 6) rfl) rfl) (wAt_mk (ch_8 (q := 7) rfl) rfl)
theorem lc_X9_trim : lcB 116 yX9_trim cX9_trim 2 (some .int) 5 134 9 1 [1098, 1101, 118, 1099, 1100] = true := lcb_mk (wAt_mk (ch_5 (q := 21) rfl) rfl) (wAt_mk (ch_5 (q := 24) rfl) rfl) (wAt_mk (ch_1 (q := 1) rfl) rfl) (by decide +kernel) rfl rfl rfl (wAt_mk (ch_5 (q := 22) rfl) rfl) (wAt_mk (ch_5 (q := 23) rfl) rfl)
theorem lc_X10_trim : lcB 119 yX10_trim cX10_trim 2 (some .int) 6 133 10 1 [1814, 1817, 130, 1815, 1816] = true := lcb_mk (wAt_mk (ch_8 (q := 17) rfl) rfl) (wAt_mk (ch_8 (q := 20) rfl) rfl) (wAt_mk (ch_1 (q := 13) rfl) rfl) (by decide +kernel) rfl rfl rfl (wAt_mk (ch_8 (q := 18) rfl) rfl) (wAt_mk (ch_8 (q := 19) rfl) rfl)
theorem lc_X9_room : lcB 120 yX9_room cX9_room 2 (some .boolean) 5 134 9 1 [1106, 1109, 118, 1107, 1108] = true := lcb_mk (wAt_mk (ch_5 (q := 29) rfl) rfl) (wAt_mk (ch_5 (q := 32) rfl) rfl) (wAt_mk (ch_1 (q := 1) rfl) rfl) (by decide +kernel) rfl rfl rfl (wAt_mk (ch_5 (q := 30) rfl) rfl) (wAt_mk (ch_5 (q := 31) rfl) rfl)
theorem lc_X10_room : lcB 123 yX10_room cX10_room 2 (some .boolean) 1 25 10 1 [1819, 1822, 130, 1820, 1821] = true := lcb_mk (wAt_mk (ch_8 (q := 22) rfl) rfl) (wAt_mk (ch_8 (q := 25) rfl) rfl) (wAt_mk (ch_1 (q := 13) rfl) rfl) (by decide +kernel) rfl rfl rfl (wAt_mk (ch_8 (q := 23) rfl) rfl) (wAt_mk (ch_8 (q := 24) rfl) rfl)
theorem lc_X9_chance : lcB 124 yX9_chance cX9_chance 5 (some .int) 5 134 9 1 [1113, 1116, 118, 1114, 1115] = true := lcb_mk (wAt_mk (ch_5 (q := 36) rfl) rfl) (wAt_mk (ch_5 (q := 39) rfl) rfl) (wAt_mk (ch_1 (q := 1) rfl) rfl) (by decide +kernel) rfl rfl rfl (wAt_mk (ch_5 (q := 37) rfl) rfl) (wAt_mk (ch_5 (q := 38) rfl) rfl)
theorem lc_X10_chance : lcB 127 yX10_chance cX10_chance 4 (some .int) 10 227 10 1 [1828, 1831, 130, 1829, 1830] = true := lcb_mk (wAt_mk (ch_8 (q := 31) rfl) rfl) (wAt_mk (ch_8 (q := 34) rfl) rfl) (wAt_mk (ch_1 (q := 13) rfl) rfl) (by decide +kernel) rfl rfl rfl (wAt_mk (ch_8 (q := 32) rfl) rfl) (wAt_mk (ch_8 (q := 33) rfl) rfl)
theorem lc_X9_begin : lcB 128 yX9_begin cX9_begin 1 (some .int) 7 164 9 0 [1138, 1141, 118, 1139, 1140] = true := lcb_mk (wAt_mk (ch_5 (q := 61) rfl) rfl) (wAt_mk (ch_5 (q := 64) rfl) rfl) (wAt_mk (ch_1 (q := 1) rfl) rfl) (by decide +kernel) rfl rfl rfl (wAt_mk (ch_5 (q := 62) rfl) rfl) (wAt_mk (ch_5 (q := 63) rfl) rfl)
theorem lc_X10_begin : lcB 131 yX10_begin cX10_begin 3 (some .int) 5 107 10 0 [1852, 1855, 130, 1853, 1854] = true := lcb_mk (wAt_mk (ch_8 (q := 55) rfl) rfl) (wAt_mk (ch_8 (q := 58) rfl) rfl) (wAt_mk (ch_1 (q := 13) rfl) rfl) (by decide +kernel) rfl rfl rfl (wAt_mk (ch_8 (q := 56) rfl) rfl) (wAt_mk (ch_8 (q := 57) rfl) rfl)
theorem lc_X9_step : lcB 132 yX9_step cX9_step 4 (some .int) 5 134 9 1 [1167, 1170, 118, 1168, 1169] = true := lcb_mk (wAt_mk (ch_5 (q := 90) rfl) rfl) (wAt_mk (ch_5 (q := 93) rfl) rfl) (wAt_mk (ch_1 (q := 1) rfl) rfl) (by decide +kernel) rfl rfl rfl (wAt_mk (ch_5 (q := 91) rfl) rfl) (wAt_mk (ch_5 (q := 92) rfl) rfl)
theorem lc_X10_step : lcB 135 yX10_step cX10_step 5 (some .int) 9 201 10 1 [1860, 1863, 130, 1861, 1862] = true := lcb_mk (wAt_mk (ch_8 (q := 63) rfl) rfl) (wAt_mk (ch_8 (q := 66) rfl) rfl) (wAt_mk (ch_1 (q := 13) rfl) rfl) (by decide +kernel) rfl rfl rfl (wAt_mk (ch_8 (q := 64) rfl) rfl) (wAt_mk (ch_8 (q := 65) rfl) rfl)
theorem lc_X9_result : lcB 136 yX9_result cX9_result 2 (some .int) 0 0 9 1 [1208, 1211, 118, 1209, 1210] = true := lcb_mk (wAt_mk (ch_5 (q := 131) rfl) rfl) (wAt_mk (ch_5 (q := 134) rfl) rfl) (wAt_mk (ch_1 (q := 1) rfl) rfl) (by decide +kernel) rfl rfl rfl (wAt_mk (ch_5 (q := 132) rfl) rfl) (wAt_mk (ch_5 (q := 133) rfl) rfl)
theorem lc_X10_result : lcB 139 yX10_result cX10_result 2 (some .int) 1 25 10 1 [1892, 1895, 130, 1893, 1894] = true := lcb_mk (wAt_mk (ch_8 (q := 95) rfl) rfl) (wAt_mk (ch_8 (q := 98) rfl) rfl) (wAt_mk (ch_1 (q := 13) rfl) rfl) (by decide +kernel) rfl rfl rfl (wAt_mk (ch_8 (q := 96) rfl) rfl) (wAt_mk (ch_8 (q := 97) rfl) rfl)
theorem lc_X9_quit : lcB 140 yX9_quit cX9_quit 3 (some .boolean) 5 134 9 1 [1212, 1215, 118, 1213, 1214] = true := lcb_mk (wAt_mk (ch_5 (q := 135) rfl) rfl) (wAt_mk (ch_5 (q := 138) rfl) rfl) (wAt_mk (ch_1 (q := 1) rfl) rfl) (by decide +kernel) rfl rfl rfl (wAt_mk (ch_5 (q := 136) rfl) rfl) (wAt_mk (ch_5 (q := 137) rfl) rfl)
theorem lc_X10_quit : lcB 143 yX10_quit cX10_quit 2 (some .boolean) 5 107 10 1 [1896, 1899, 130, 1897, 1898] = true := lcb_mk (wAt_mk (ch_8 (q := 99) rfl) rfl) (wAt_mk (ch_8 (q := 102) rfl) rfl) (wAt_mk (ch_1 (q := 13) rfl) rfl) (by decide +kernel) rfl rfl rfl (wAt_mk (ch_8 (q := 100) rfl) rfl) (wAt_mk (ch_8 (q := 101) rfl) rfl)
theorem lc_X9_trace : lcB 144 yX9_trace cX9_trace 2 (some .int) 6 143 9 0 [1216, 1219, 118, 1217, 1218] = true := lcb_mk (wAt_mk (ch_5 (q := 139) rfl) rfl) (wAt_mk (ch_5 (q := 142) rfl) rfl) (wAt_mk (ch_1 (q := 1) rfl) rfl) (by decide +kernel) rfl rfl rfl (wAt_mk (ch_5 (q := 140) rfl) rfl) (wAt_mk (ch_5 (q := 141) rfl) rfl)
theorem lc_X10_trace : lcB 147 yX10_trace cX10_trace 2 (some .int) 4 87 10 0 [1900, 1903, 130, 1901, 1902] = true := lcb_mk (wAt_mk (ch_8 (q := 103) rfl) rfl) (wAt_mk (ch_8 (q := 106) rfl) rfl) (wAt_mk (ch_1 (q := 13) rfl) rfl) (by decide +kernel) rfl rfl rfl (wAt_mk (ch_8 (q := 104) rfl) rfl) (wAt_mk (ch_8 (q := 105) rfl) rfl)
theorem lc_X9_loads : lcB 148 yX9_loads cX9_loads 2 (some .int) 7 168 9 1 [1226, 1229, 118, 1227, 1228] = true := lcb_mk (wAt_mk (ch_5 (q := 149) rfl) rfl) (wAt_mk (ch_5 (q := 152) rfl) rfl) (wAt_mk (ch_1 (q := 1) rfl) rfl) (by decide +kernel) rfl rfl rfl (wAt_mk (ch_5 (q := 150) rfl) rfl) (wAt_mk (ch_5 (q := 151) rfl) rfl)
theorem lc_X10_loads : lcB 151 yX10_loads cX10_loads 2 (some .int) 10 228 10 1 [1908, 1911, 130, 1909, 1910] = true := lcb_mk (wAt_mk (ch_8 (q := 111) rfl) rfl) (wAt_mk (ch_8 (q := 114) rfl) rfl) (wAt_mk (ch_1 (q := 13) rfl) rfl) (by decide +kernel) rfl rfl rfl (wAt_mk (ch_8 (q := 112) rfl) rfl) (wAt_mk (ch_8 (q := 113) rfl) rfl)
theorem lc_X9_least : lcB 152 yX9_least cX9_least 2 (some .int) 7 168 9 1 [1252, 1255, 118, 1253, 1254] = true := lcb_mk (wAt_mk (ch_5 (q := 175) rfl) rfl) (wAt_mk (ch_5 (q := 178) rfl) rfl) (wAt_mk (ch_1 (q := 1) rfl) rfl) (by decide +kernel) rfl rfl rfl (wAt_mk (ch_5 (q := 176) rfl) rfl) (wAt_mk (ch_5 (q := 177) rfl) rfl)
theorem lc_X10_least : lcB 155 yX10_least cX10_least 3 (some .int) 10 228 10 1 [1920, 1923, 130, 1921, 1922] = true := lcb_mk (wAt_mk (ch_8 (q := 123) rfl) rfl) (wAt_mk (ch_8 (q := 126) rfl) rfl) (wAt_mk (ch_1 (q := 13) rfl) rfl) (by decide +kernel) rfl rfl rfl (wAt_mk (ch_8 (q := 124) rfl) rfl) (wAt_mk (ch_8 (q := 125) rfl) rfl)
theorem lc_X9_see : lcB 156 yX9_see cX9_see 2 (some .boolean) 2 42 9 1 [1265, 1268, 118, 1266, 1267] = true := lcb_mk (wAt_mk (ch_5 (q := 188) rfl) rfl) (wAt_mk (ch_5 (q := 191) rfl) rfl) (wAt_mk (ch_1 (q := 1) rfl) rfl) (by decide +kernel) rfl rfl rfl (wAt_mk (ch_5 (q := 189) rfl) rfl) (wAt_mk (ch_5 (q := 190) rfl) rfl)
theorem lc_X10_see : lcB 159 yX10_see cX10_see 2 (some .boolean) 1 21 10 1 [1924, 1927, 130, 1925, 1926] = true := lcb_mk (wAt_mk (ch_8 (q := 127) rfl) rfl) (wAt_mk (ch_8 (q := 130) rfl) rfl) (wAt_mk (ch_1 (q := 13) rfl) rfl) (by decide +kernel) rfl rfl rfl (wAt_mk (ch_8 (q := 128) rfl) rfl) (wAt_mk (ch_8 (q := 129) rfl) rfl)
theorem lc_X9_fits : lcB 160 yX9_fits cX9_fits 2 (some .int) 7 168 9 1 [1269, 1272, 118, 1270, 1271] = true := lcb_mk (wAt_mk (ch_5 (q := 192) rfl) rfl) (wAt_mk (ch_5 (q := 195) rfl) rfl) (wAt_mk (ch_1 (q := 1) rfl) rfl) (by decide +kernel) rfl rfl rfl (wAt_mk (ch_5 (q := 193) rfl) rfl) (wAt_mk (ch_5 (q := 194) rfl) rfl)
theorem lc_X10_fits : lcB 163 yX10_fits cX10_fits 5 (some .int) 11 251 10 1 [1928, 1931, 130, 1929, 1930] = true := lcb_mk (wAt_mk (ch_8 (q := 131) rfl) rfl) (wAt_mk (ch_8 (q := 134) rfl) rfl) (wAt_mk (ch_1 (q := 13) rfl) rfl) (by decide +kernel) rfl rfl rfl (wAt_mk (ch_8 (q := 132) rfl) rfl) (wAt_mk (ch_8 (q := 133) rfl) rfl)
theorem lc_X9_tells : lcB 164 yX9_tells cX9_tells 2 (some .int) 7 168 9 1 [1281, 1284, 118, 1282, 1283] = true := lcb_mk (wAt_mk (ch_5 (q := 204) rfl) rfl) (wAt_mk (ch_5 (q := 207) rfl) rfl) (wAt_mk (ch_1 (q := 1) rfl) rfl) (by decide +kernel) rfl rfl rfl (wAt_mk (ch_5 (q := 205) rfl) rfl) (wAt_mk (ch_5 (q := 206) rfl) rfl)
theorem lc_X10_tells : lcB 167 yX10_tells cX10_tells 4 (some .int) 11 251 10 1 [1936, 1939, 130, 1937, 1938] = true := lcb_mk (wAt_mk (ch_8 (q := 139) rfl) rfl) (wAt_mk (ch_8 (q := 142) rfl) rfl) (wAt_mk (ch_1 (q := 13) rfl) rfl) (by decide +kernel) rfl rfl rfl (wAt_mk (ch_8 (q := 140) rfl) rfl) (wAt_mk (ch_8 (q := 141) rfl) rfl)
theorem lc_X9_undo : lcB 168 yX9_undo cX9_undo 1 (some .boolean) 5 133 9 0 [1298, 1301, 118, 1299, 1300] = true := lcb_mk (wAt_mk (ch_5 (q := 221) rfl) rfl) (wAt_mk (ch_5 (q := 224) rfl) rfl) (wAt_mk (ch_1 (q := 1) rfl) rfl) (by decide +kernel) rfl rfl rfl (wAt_mk (ch_5 (q := 222) rfl) rfl) (wAt_mk (ch_5 (q := 223) rfl) rfl)
theorem lc_X10_undo : lcB 172 yX10_undo cX10_undo 2 (some .boolean) 1 21 10 0 [1737, 1740, 130, 1738, 1739] = true := lcb_mk (wAt_mk (ch_7 (q := 180) rfl) rfl) (wAt_mk (ch_7 (q := 183) rfl) rfl) (wAt_mk (ch_1 (q := 13) rfl) rfl) (by decide +kernel) rfl rfl rfl (wAt_mk (ch_7 (q := 181) rfl) rfl) (wAt_mk (ch_7 (q := 182) rfl) rfl)
theorem lc_X9_seed : lcB 173 yX9_seed cX9_seed 2 (some .boolean) 2 42 9 1 [1306, 1309, 118, 1307, 1308] = true := lcb_mk (wAt_mk (ch_5 (q := 229) rfl) rfl) (wAt_mk (ch_5 (q := 232) rfl) rfl) (wAt_mk (ch_1 (q := 1) rfl) rfl) (by decide +kernel) rfl rfl rfl (wAt_mk (ch_5 (q := 230) rfl) rfl) (wAt_mk (ch_5 (q := 231) rfl) rfl)
theorem lc_X10_seed : lcB 176 yX10_seed cX10_seed 2 (some .boolean) 1 21 10 1 [1824, 1827, 130, 1825, 1826] = true := lcb_mk (wAt_mk (ch_8 (q := 27) rfl) rfl) (wAt_mk (ch_8 (q := 30) rfl) rfl) (wAt_mk (ch_1 (q := 13) rfl) rfl) (by decide +kernel) rfl rfl rfl (wAt_mk (ch_8 (q := 28) rfl) rfl) (wAt_mk (ch_8 (q := 29) rfl) rfl)
theorem lc_X9_status : lcB 177 yX9_status cX9_status 2 (some .int) 0 0 9 1 [1310, 1313, 118, 1311, 1312] = true := lcb_mk (wAt_mk (ch_5 (q := 233) rfl) rfl) (wAt_mk (ch_5 (q := 236) rfl) rfl) (wAt_mk (ch_1 (q := 1) rfl) rfl) (by decide +kernel) rfl rfl rfl (wAt_mk (ch_5 (q := 234) rfl) rfl) (wAt_mk (ch_5 (q := 235) rfl) rfl)
theorem lc_X10_status : lcB 180 yX10_status cX10_status 2 (some .int) 1 25 10 1 [1468, 1471, 130, 1469, 1470] = true := lcb_mk (wAt_mk (ch_6 (q := 151) rfl) rfl) (wAt_mk (ch_6 (q := 154) rfl) rfl) (wAt_mk (ch_1 (q := 13) rfl) rfl) (by decide +kernel) rfl rfl rfl (wAt_mk (ch_6 (q := 152) rfl) rfl) (wAt_mk (ch_6 (q := 153) rfl) rfl)
end
