/-! Rows: an instruction of the machine that reads or writes the heap, over HR. -/
section ROWS
variable {p : Program} {l : Launch} {e : Env} {R : Room} {s : State} {m : MethodId} {args : Array Value} {below : List Frame} {meth : Method} {c : Code} {H : Heap} {locs : List Loc} {cells slots : Nat} {Q : State → Prop}
variable {cc : ByteArray} {pc : Nat} {ls : Array Slot} {rest : List Value} {D : va_G} {cy : Nat → ClassId} {base : Nat} {H0 : Heap} {u : MH}
/-- the fields' words stand among the good ones -/
def FW : Prop := ∀ ci, ci ≤ 10 → ∀ w ∈ u_ws (RXc ci) (TXc ci) (nfl ci), w ∈ lw_good
/-- an entry of a class that names a field -/
def FLk (own : String) (i ci fk : Nat) (s : State) (args : Array Value) : Prop := (Cond.fieldLink own i (RXc ci) (TXc ci fk).2.1 (TXc ci fk).2.2.1).before args s = true ∨ (Cond.fieldLinkNest own i (RXc ci) (TXc ci fk).2.1 (TXc ci fk).2.2.1 "NameKeeper").before args s = true
theorem hr_get (hF : FW) (hx : p.tables.exec = Jvm.exec) (hb : c.code = cc) (hts : ∀ w ∈ lw_good, w.before args s = true) {own : String} (hown : s.vm.findClass own = some m.cls) (hK : va_K D mcl (mty cy) s) (hH : HR D cy base u H) {a ci fk i : Nat} (hk : kd u a = ci) (hci : ci ≤ 10) (hfk : fk < nfl ci) (hlink : FLk own i ci fk s args) (hdg : decode cc pc = .ok (.getfield i, 3))
    (kk : W p l e R s m args below meth c H locs cells slots Q (F0 m (pc + 3) ls (mfv base u a fk (ftc (tyc ci fk)) :: rest))) : W p l e R s m args below meth c H locs cells slots Q (F0 m pc ls (.ref (base + a) :: rest)) := by
  have hP : va_P D mcl [(base + a, .inr (ci, mfs base u a ci))] H := fun k q hq => by
    cases k with
    | zero => cases hq; exact hH.obj hk hci
    | succ k => simp at hq
  have hsame : ∀ x, s.fieldFound? (TXc ci fk).1 (TXc ci fk).2.1 (TXc ci fk).2.2.1 = some x → s.fieldFound? (RXc ci) (TXc ci fk).2.1 (TXc ci fk).2.2.1 = some x := fun x h => by rw [← own_ok ci hci fk hfk]; exact h
  rcases hlink with h | h
  · exact va_get hx hb hts (hF ci hci) hown hK hP 0 rfl (mcl_at ci hci) fk hfk h hsame (mfs_get base u a hfk) hdg kk
  · exact va_getN hx hb hts (hF ci hci) hown hK hP 0 rfl (mcl_at ci hci) fk hfk h hsame (mfs_get base u a hfk) hdg kk
theorem va_S.wr {A : Nat → Prop} {H0 H H1 : Heap} {locs L : List Loc} {a : Nat} (h : va_S A H0 H locs) (z : H1.size = H.size) (oq : ∀ q : Nat, q ≠ a → H1[q]? = H[q]?) (ha : A a) (hL : ∀ q ∈ L, q.base = a) : va_S A H0 H1 (locs ++ L) := by
  refine ⟨by rw [z]; exact h.1, fun q h1 h2 => ?_, fun q hq => ?_⟩
  · rw [oq q (fun e => h2 (by rw [e]; exact ha))]
    exact h.2.1 q h1 h2
  · rcases List.mem_append.mp hq with h1 | h1
    · exact h.2.2 q h1
    · rw [hL q h1]; exact ha
/-- putfield: the value v of the field fk, s' the heap behind it -/
theorem hr_put (hF : FW) (hx : p.tables.exec = Jvm.exec) (hb : c.code = cc) (hts : ∀ w ∈ lw_good, w.before args s = true) {own : String} (hown : s.vm.findClass own = some m.cls) (hK : va_K D mcl (mty cy) s) (hH : HR D cy base u H) (hS : va_S (fun q => base ≤ q) H0 H locs) {a ci fk i : Nat} (hk : kd u a = ci) (hci : ci ≤ 10) (hfk : fk < nfl ci) (hlink : FLk own i ci fk s args)
    (hfin : (TXc ci fk).2.2.2 = false ∨ (meth.name = "<init>" ∧ RXc ci = own ∧ (Cond.fieldLink own i (RXc ci) (TXc ci fk).2.1 (TXc ci fk).2.2.1).before args s = true)) {v : Value} (hn : narrow (tyc ci fk) v = v) (hfit : fits (tyc ci fk) v = true) {u' : MH} (hz : sz u' = sz u) (hs : u'.2.2.2.1 = u.2.2.2.1) (hv : mfv base u' a fk (ftc (tyc ci fk)) = v) (ho : ∀ j, j ≠ fk → ∀ t, mfv base u' a j t = mfv base u a j t) (hb2 : ∀ b, b ≠ a → mcell cy base u' b = mcell cy base u b)
    (hdg : decode cc pc = .ok (.putfield i, 3)) (kk : ∀ (H1 : Heap) (locs1 : List Loc), HR D cy base u' H1 → va_S (fun q => base ≤ q) H0 H1 locs1 → W p l e R s m args below meth c H1 locs1 cells slots Q (F0 m (pc + 3) ls rest)) : W p l e R s m args below meth c H locs cells slots Q (F0 m pc ls (v :: .ref (base + a) :: rest)) := by
  have hc := mcl_at ci hci
  have hap := va_apart (own := own) hts (hF ci hci) (tyc ci) (ty_ok ci hci) (nm_ok ci hci) hK hc
  obtain ⟨r, h1, cell, q1, q2, q3, q4⟩ := hH.obj hk hci
  have hr : r = (RXc ci, TXc ci, nfl ci) := Option.some.inj (h1.symm.trans hc)
  subst hr
  obtain ⟨hSl, hfc, kC, hkC, hkind⟩ := hK.1 ci _ hc
  obtain ⟨cf, kf, fi, f, hi, hsl⟩ := hSl fk hfk
  have hd := ty_ok ci hci fk hfk
  have hlay0 := u_lays hts (hF ci hci) hfk
  have hst := (u_facts hfc hkC hlay0 hi).1
  have hi2 : s.fieldFound? (RXc ci) (TXc ci fk).2.1 (TXc ci fk).2.2.1 = some (cf, kf, fi, f) := by rw [← own_ok ci hci fk hfk]; exact hi
  have hkd : kd u' a = ci := by show (u'.2.2.2.1 a).1 = ci; rw [hs]; exact hk
  have fin : ∀ H' : Heap, H'[base + a]? = some (cell.setSlot f.slot v) → H'.size = H.size → (∀ q, q ≠ base + a → H'[q]? = H[q]?) → W p l e R s m args below meth c H' (locs ++ [⟨base + a, f.slot⟩]) cells slots Q (F0 m (pc + 3) ls rest) := by
    intro H' e1 e2 e3
    rw [hsl] at e1 ⊢
    refine kk H' _ (hH.upd hz hs (a := a) ?_ e2 e3 hb2) (hS.wr e2 e3 (Nat.le_add_right _ _) (fun q hq => by rw [List.mem_singleton.mp hq]))
    unfold mcell
    rw [hkd, if_pos hci]
    have := mfs_set (c := ci) hv ho
    rw [← this]
    exact ⟨_, hc, t_OB.to (V := updV (vp_V (mfs base u a ci)) fk v) ⟨_, e1, q2, q3, t_set q4 hap hfk v⟩ (fun j _ => vp_updV_set (by rw [mfs_len]; exact hfk) v j)⟩
  have hsz : f.slot < cell.slots.size := by rw [hsl]; exact k2_hasslot (q4 fk hfk)
  cases hff : (TXc ci fk).2.2.2 with
  | false =>
    have hlay := hts _ (hF ci hci _ (u_in_lay hfk))
    unfold u_lay at hlay
    rw [if_neg (by rw [hff]; decide)] at hlay
    have h6 := u_store hfc hkC hkind hlay hi hd hn hfit
    rcases hlink with hl | hl
    · exact W.putK hx hb (f := f) ⟨hown, hl, ⟨_, _, _, hi2⟩, hst⟩ (by rw [q2]; exact h6) q1 q3 hsz rfl rfl hdg fin
    · exact va_WputK hx hb (f := f) hown hl hi2 hst (by rw [q2]; exact h6) q1 q3 hsz rfl rfl hdg fin
  | true =>
    rcases hfin with hfin | ⟨hin2, hdecl, hl⟩
    · rw [hff] at hfin; cases hfin
    · have hlay := hts _ (hF ci hci _ (u_in_lay hfk))
      unfold u_lay at hlay
      rw [if_pos hff] at hlay
      have hcf : m.cls = cf := by
        obtain ⟨_, _, c', _, _, _, -, -, hf', -, -, -, hown2, -⟩ := Cond.laysFinal_spec hlay
        have e1 : c' = cf := by have := hi.symm.trans hf'; simp at this; exact this.1.symm
        rw [own_ok ci hci fk hfk, hdecl] at hown2
        rw [← e1]; exact Option.some.inj (hown.symm.trans hown2)
      have h6 := u_fits hfc hkC hkind (Or.inr hlay) hi hd hn hfit
      exact W.putFinK hx hb hown hl hi2 hst hcf hin2 (by rw [q2]; exact h6) q1 q3 hsz rfl rfl hdg fin
theorem hr_len (hx : p.tables.exec = Jvm.exec) (hb : c.code = cc) (hK : va_K D mcl (mty cy) s) (hH : HR D cy base u H) {a : Nat} (h1 : 11 ≤ kd u a) (h2 : kd u a ≤ 16) (hdg : decode cc pc = .ok (.arraylength, 1))
    (kk : W p l e R s m args below meth c H locs cells slots Q (F0 m (pc + 1) ls (.int (Int32.ofNat (ln u a)) :: rest))) : W p l e R s m args below meth c H locs cells slots Q (F0 m pc ls (.ref (base + a) :: rest)) := by
  have hcell := hH.cell (a := a) h2
  unfold mcell at hcell
  rw [if_neg (by omega)] at hcell
  have go : ∀ (x : vp_A), x.1 = ln u a → va_at D mcl (base + a, .inl (cy (kd u a), x)) H → W p l e R s m args below meth c H locs cells slots Q (F0 m pc ls (.ref (base + a) :: rest)) := by
    intro x hxl hat
    have hP : va_P D mcl [(base + a, .inl (cy (kd u a), x))] H := fun k q hq => by
      cases k with
      | zero => cases hq; exact hat
      | succ k => simp at hq
    have hd : kd u a = 11 ∨ kd u a = 12 ∨ kd u a = 13 ∨ kd u a = 14 ∨ kd u a = 15 ∨ kd u a = 16 := by omega
    rcases hd with hd | hd | hd | hd | hd | hd <;> rw [hd] at hP
    · exact va_alen hx hb hK hP 0 0 rfl (ty := .int) rfl (by rw [hxl]) hdg kk
    · exact va_alen hx hb hK hP 0 1 rfl (ty := .boolean) rfl (by rw [hxl]) hdg kk
    · exact va_alen hx hb hK hP 0 2 rfl (ty := .object RX4) rfl (by rw [hxl]) hdg kk
    · exact va_alen hx hb hK hP 0 3 rfl (ty := .object RX7) rfl (by rw [hxl]) hdg kk
    · exact va_alen hx hb hK hP 0 4 rfl (ty := .object RX8) rfl (by rw [hxl]) hdg kk
    · exact va_alen hx hb hK hP 0 5 rfl (ty := .array .int) rfl (by rw [hxl]) hdg kk
  by_cases h12 : kd u a ≤ 12
  · rw [if_pos h12] at hcell; exact go _ rfl hcell
  · rw [if_neg h12] at hcell; exact go _ rfl hcell
theorem hr_iald (hx : p.tables.exec = Jvm.exec) (hb : c.code = cc) (hK : va_K D mcl (mty cy) s) (hH : HR D cy base u H) {a : Nat} (hk : kd u a = 11) {j : Int32} (hin : inb j (ln u a)) (hdg : decode cc pc = .ok (.iaload, 1))
    (kk : W p l e R s m args below meth c H locs cells slots Q (F0 m (pc + 1) ls (.int (u.1 a j.toNatClampNeg) :: rest))) : W p l e R s m args below meth c H locs cells slots Q (F0 m pc ls (.int j :: .ref (base + a) :: rest)) := by
  have hP : va_P D mcl [(base + a, .inl (cy 11, ln u a, .inl (u.1 a)))] H := fun k q hq => by
    cases k with
    | zero => cases hq; exact hH.ints hk (by omega) (by omega)
    | succ k => simp at hq
  exact va_iald hx hb hK hP 0 0 rfl rfl hin hdg kk
theorem hr_zald (hx : p.tables.exec = Jvm.exec) (hb : c.code = cc) (hK : va_K D mcl (mty cy) s) (hH : HR D cy base u H) {a : Nat} (hk : kd u a = 12) {j : Int32} (hin : inb j (ln u a)) (hdg : decode cc pc = .ok (.baload, 1))
    (kk : W p l e R s m args below meth c H locs cells slots Q (F0 m (pc + 1) ls (.int (u.1 a j.toNatClampNeg) :: rest))) : W p l e R s m args below meth c H locs cells slots Q (F0 m pc ls (.int j :: .ref (base + a) :: rest)) := by
  have hP : va_P D mcl [(base + a, .inl (cy 12, ln u a, .inl (u.1 a)))] H := fun k q hq => by
    cases k with
    | zero => cases hq; exact hH.ints hk (by omega) (by omega)
    | succ k => simp at hq
  exact va_zald hx hb hK hP 0 1 rfl rfl hin hdg kk
theorem hr_aald (hx : p.tables.exec = Jvm.exec) (hb : c.code = cc) (hK : va_K D mcl (mty cy) s) (hH : HR D cy base u H) {a : Nat} (h1 : 13 ≤ kd u a) (h2 : kd u a ≤ 16) {j : Int32} (hin : inb j (ln u a)) (hdg : decode cc pc = .ok (.aaload, 1))
    (kk : W p l e R s m args below meth c H locs cells slots Q (F0 m (pc + 1) ls (va_rf ((u.2.2.1 a j.toNatClampNeg).map (fun a => base + a)) :: rest))) : W p l e R s m args below meth c H locs cells slots Q (F0 m pc ls (.int j :: .ref (base + a) :: rest)) := by
  have hP : va_P D mcl [(base + a, .inl (cy (kd u a), ln u a, .inr (.inr (.inr (.inr fun j => (u.2.2.1 a j).map (fun a => base + a))))))] H := fun k q hq => by
    cases k with
    | zero => cases hq; exact hH.refs rfl h1 h2
    | succ k => simp at hq
  have hd : kd u a = 13 ∨ kd u a = 14 ∨ kd u a = 15 ∨ kd u a = 16 := by omega
  have hlt : j.toNatClampNeg < ln u a := Nat.not_le.mp fun q => hin (Or.inr q)
  rcases hd with hd | hd | hd | hd <;> rw [hd] at hP
  · exact va_aldq hx hb hK hP 0 2 rfl (C := RX4) rfl hin hdg kk
  · exact va_aldq hx hb hK hP 0 3 rfl (C := RX7) rfl hin hdg kk
  · exact va_aldq hx hb hK hP 0 4 rfl (C := RX8) rfl hin hdg kk
  · exact W.aald (v := va_rf ((u.2.2.1 a j.toNatClampNeg).map (fun a => base + a))) (ty := .array .int) hx hb (hP 0 _ rfl) ((hK.2 5 _ rfl).1 (ln u a) (fun j => va_rf ((u.2.2.1 a j).map (fun a => base + a)))) rfl (fun q => by cases q) (by show ¬ (j < 0 ∨ (arrV _ _ _).slots.size ≤ _); rw [arrV_size]; exact hin) (by show (arrV _ _ _).slots[_]? = _; rw [arrV_read _ _ hlt]) rfl rfl hdg kk
/-- a cell of ints behind a store -/
theorem hr_sI {a : Nat} {d : Nat} (hk : kd u a = d) (h1 : 11 ≤ d) (h2 : d ≤ 12) {H1 : Heap} (hH : HR D cy base u H) {k : Nat} {x : Int32} (e : H1[base + a]? = some ((vp_cell (cy d) (ln u a, .inl (u.1 a))).setSlot k (.int x))) (z : H1.size = H.size) (oq : ∀ q, q ≠ base + a → H1[q]? = H[q]?) : HR D cy base (sI u a k x) H1 := by
  refine hH.upd rfl rfl (a := a) ?_ z oq (fun b hb => mcell_same rfl (up2_ne _ _ _ _ hb) rfl rfl)
  have hkd : kd (sI u a k x) a = d := hk
  unfold mcell
  rw [hkd, if_neg (by omega), if_pos h2]
  show H1[base + a]? = some (vp_cell _ _)
  rw [e, vp_cell_i, vp_cell_i, arrV_store]
  congr 2
  funext q
  by_cases hq : q = k
  · subst hq; simp [updV, up2]
  · simp [updV, up2, hq]
theorem hr_iast (hx : p.tables.exec = Jvm.exec) (hb : c.code = cc) (hK : va_K D mcl (mty cy) s) (hH : HR D cy base u H) (hS : va_S (fun q => base ≤ q) H0 H locs) {a : Nat} (hk : kd u a = 11) {j x : Int32} (hin : inb j (ln u a)) (hdg : decode cc pc = .ok (.iastore, 1))
    (kk : ∀ (H1 : Heap) (locs1 : List Loc), HR D cy base (sI u a j.toNatClampNeg x) H1 → va_S (fun q => base ≤ q) H0 H1 locs1 → W p l e R s m args below meth c H1 locs1 cells slots Q (F0 m (pc + 1) ls rest)) : W p l e R s m args below meth c H locs cells slots Q (F0 m pc ls (.int x :: .int j :: .ref (base + a) :: rest)) := by
  have hat : va_at D mcl (base + a, .inl (cy 11, ln u a, .inl (u.1 a))) H := hH.ints hk (by omega) (by omega)
  refine W.iast hx hb hat ((hK.2 0 _ rfl).1 (ln u a) (fun j => .int (u.1 a j))) (fun q => by cases q) (by show ¬ (j < 0 ∨ (arrV _ _ _).slots.size ≤ _); rw [arrV_size]; exact hin) rfl rfl hdg fun H1 e z oq => ?_
  exact kk H1 _ (hr_sI hk (by omega) (by omega) hH e z oq) (hS.wr z oq (Nat.le_add_right _ _) (fun q hq => by rw [List.mem_singleton.mp hq]))
theorem hr_zast (hx : p.tables.exec = Jvm.exec) (hb : c.code = cc) (hK : va_K D mcl (mty cy) s) (hH : HR D cy base u H) (hS : va_S (fun q => base ≤ q) H0 H locs) {a : Nat} (hk : kd u a = 12) {j x : Int32} (hin : inb j (ln u a)) (hdg : decode cc pc = .ok (.bastore, 1))
    (kk : ∀ (H1 : Heap) (locs1 : List Loc), HR D cy base (sI u a j.toNatClampNeg (vp_nar .boolean x)) H1 → va_S (fun q => base ≤ q) H0 H1 locs1 → W p l e R s m args below meth c H1 locs1 cells slots Q (F0 m (pc + 1) ls rest)) : W p l e R s m args below meth c H locs cells slots Q (F0 m pc ls (.int x :: .int j :: .ref (base + a) :: rest)) := by
  have hat : va_at D mcl (base + a, .inl (cy 12, ln u a, .inl (u.1 a))) H := hH.ints hk (by omega) (by omega)
  refine W.zast hx hb hat ((hK.2 1 _ rfl).1 (ln u a) (fun j => .int (u.1 a j))) (fun q => by cases q) (by show ¬ (j < 0 ∨ (arrV _ _ _).slots.size ≤ _); rw [arrV_size]; exact hin) rfl rfl hdg fun H1 e z oq => ?_
  exact kk H1 _ (hr_sI hk (by omega) (by omega) hH e z oq) (hS.wr z oq (Nat.le_add_right _ _) (fun q hq => by rw [List.mem_singleton.mp hq]))
/-- a cell of references behind a store -/
theorem hr_sR {a : Nat} {d : Nat} (hk : kd u a = d) (h1 : 13 ≤ d) (h2 : d ≤ 16) {H1 : Heap} (hH : HR D cy base u H) {k : Nat} {v : Option Nat} (e : H1[base + a]? = some ((vp_cell (cy d) (ln u a, .inr (.inr (.inr (.inr fun j => (u.2.2.1 a j).map (fun a => base + a)))))).setSlot k (va_rf (v.map (fun a => base + a))))) (z : H1.size = H.size) (oq : ∀ q, q ≠ base + a → H1[q]? = H[q]?) : HR D cy base (sR u a k v) H1 := by
  refine hH.upd rfl rfl (a := a) ?_ z oq (fun b hb => mcell_same rfl rfl rfl (up2_ne _ _ _ _ hb))
  have hkd : kd (sR u a k v) a = d := hk
  unfold mcell
  rw [hkd, if_neg (by omega), if_neg (by omega)]
  show H1[base + a]? = some (vp_cell _ _)
  rw [e, vp_cell_q, vp_cell_q, arrV_store]
  congr 2
  funext q
  by_cases hq : q = k
  · subst hq; simp [updV, up2]
  · simp [updV, up2, hq]
theorem hr_aast (hx : p.tables.exec = Jvm.exec) (hb : c.code = cc) (hK : va_K D mcl (mty cy) s) (hH : HR D cy base u H) (hS : va_S (fun q => base ≤ q) H0 H locs) {a : Nat} (h1 : 13 ≤ kd u a) (h2 : kd u a ≤ 15) {j : Int32} {v : Option Nat} (hin : inb j (ln u a)) (hv : elt u (kd u a) v = true) (hdg : decode cc pc = .ok (.aastore, 1))
    (kk : ∀ (H1 : Heap) (locs1 : List Loc), HR D cy base (sR u a j.toNatClampNeg v) H1 → va_S (fun q => base ≤ q) H0 H1 locs1 → W p l e R s m args below meth c H1 locs1 cells slots Q (F0 m (pc + 1) ls rest)) : W p l e R s m args below meth c H locs cells slots Q (F0 m pc ls (va_rf (v.map (fun a => base + a)) :: .int j :: .ref (base + a) :: rest)) := by
  have go : ∀ (d t0 ci : Nat), kd u a = d → 13 ≤ d → d ≤ 16 → ci ≤ 10 → (mty cy)[t0]? = some (cy d, .object (RXc ci)) → (∀ b, v = some b → kd u b = ci) → W p l e R s m args below meth c H locs cells slots Q (F0 m pc ls (va_rf (v.map (fun a => base + a)) :: .int j :: .ref (base + a) :: rest)) := by
    intro d t0 ci hk hd1 hd2 hci ht hvb
    have hat := hH.refs hk hd1 hd2
    have hlt : j.toNatClampNeg < ln u a := Nat.not_le.mp fun q => hin (Or.inr q)
    have h0 : ¬ j < 0 := fun q => hin (Or.inl q)
    cases v with
    | none =>
      refine va_WaastN (C := RXc ci) hx hb hat ((hK.2 t0 _ ht).1 (ln u a) (fun j => va_rf ((u.2.2.1 a j).map (fun a => base + a)))) (fun h => by cases h) (by show ¬ (j < 0 ∨ (arrV _ _ _).slots.size ≤ _); rw [arrV_size]; exact hin) rfl rfl hdg fun H1 e z oq => ?_
      exact kk H1 _ (hr_sR hk hd1 hd2 hH (v := none) e z oq) (hS.wr z oq (Nat.le_add_right _ _) (fun q hq => by rw [List.mem_singleton.mp hq]))
    | some b =>
      obtain ⟨r', hr', cellV, g1, g2, g3, -⟩ := hH.obj (hvb b rfl) hci
      have hcls := (hK.1 ci _ (mcl_at ci hci)).2
      obtain ⟨kA, comp, k1, k2, k3, -⟩ := (hK.2 t0 _ ht).2
      have hcomp : comp = D.1 ci := Option.some.inj (k3.symm.trans hcls.1)
      subst hcomp
      obtain ⟨kC, hkC, -⟩ := hcls.2
      refine W.aast hx hb hat (fun q h => by cases h) (fun h => by cases h) k1 k2 rfl hkC ⟨h0, by show _ < (arrV _ _ _).slots.size; rw [arrV_size]; exact hlt⟩ g1 (fun q h => by rw [g3] at h; cases h) (by rw [g2]; exact hkC) (by rw [g2]; exact va_assign hcls) rfl rfl hdg fun H1 e z oq => ?_
      exact kk H1 _ (hr_sR hk hd1 hd2 hH (v := some b) e z oq) (hS.wr z oq (Nat.le_add_right _ _) (fun q hq => by rw [List.mem_singleton.mp hq]))
  have hd : kd u a = 13 ∨ kd u a = 14 ∨ kd u a = 15 := by omega
  rcases hd with hd | hd | hd
  · refine go 13 2 4 hd (by omega) (by omega) (by omega) rfl (fun b hb => ?_)
    subst hb
    rw [hd] at hv
    simpa [elt] using hv
  · refine go 14 3 7 hd (by omega) (by omega) (by omega) rfl (fun b hb => ?_)
    subst hb
    rw [hd] at hv
    simpa [elt] using hv
  · refine go 15 4 8 hd (by omega) (by omega) (by omega) rfl (fun b hb => ?_)
    subst hb
    rw [hd] at hv
    simpa [elt] using hv
/-- a new cell at the end -/
theorem HR.grow {d n : Nat} {H1 : Heap} (hH : HR D cy base u H) (hd : d ≤ 16) (z : H1.size = H.size + 1) (oq : ∀ q, q < H.size → H1[q]? = H[q]?) (hcell : va_at D mcl (base + sz u, mcell cy base (al u d n) (sz u)) H1) : HR D cy base (al u d n) H1 := by
  have hsz : sz (al u d n) = sz u + 1 := rfl
  have hkn : ∀ b, b ≠ sz u → kd (al u d n) b = kd u b := fun b hb => by
    show ((if b = sz u then (d, n) else u.2.2.2.1 b)).1 = _
    rw [if_neg hb]
  refine ⟨by rw [z, hH.1, hsz]; omega, fun b hb => ?_, fun b hb => ?_⟩
  · rw [hsz] at hb
    by_cases e : b = sz u
    · subst e
      refine ⟨?_, hcell⟩
      show ((if sz u = sz u then (d, n) else u.2.2.2.1 (sz u))).1 ≤ 16
      rw [if_pos rfl]; exact hd
    · have hlt : b < sz u := by omega
      refine ⟨by rw [hkn b e]; exact (hH.2.1 b hlt).1, ?_⟩
      have hs : mcell cy base (al u d n) b = mcell cy base u b := by
        refine mcell_same ?_ ?_ ?_ ?_
        · show (if b = sz u then (d, n) else u.2.2.2.1 b) = _
          rw [if_neg e]
        · funext y
          show (if b = sz u then (0 : Int32) else u.1 b y) = _
          rw [if_neg e]
        · funext y
          show (if b = sz u then (0 : Int64) else u.2.1 b y) = _
          rw [if_neg e]
        · funext y
          show (if b = sz u then (none : Option Nat) else u.2.2.1 b y) = _
          rw [if_neg e]
      rw [hs]
      refine (hH.2.1 b hlt).2.kept (oq _ ?_)
      show base + b < H.size
      rw [hH.1]; omega
  · rw [hsz] at hb
    rw [hkn b (by omega)]
    exact hH.2.2 b (by omega)
theorem va_S.nw {A : Nat → Prop} {H0 H H1 : Heap} {locs : List Loc} (h : va_S A H0 H locs) (z : H1.size = H.size + 1) (oq : ∀ q : Nat, q < H.size → H1[q]? = H[q]?) : va_S A H0 H1 locs :=
  ⟨Nat.le_trans h.1 (by omega), fun q h1 h2 => (oq q (Nat.lt_of_lt_of_le h1 h.1)).trans (h.2.1 q h1 h2), h.2.2⟩
def okT (t : FieldType) : Bool := match t with
  | .int => true | .boolean => true | .long => true | .object _ => true | .array _ => true | _ => false
theorem okT_all : ∀ c, c ≤ 10 → ∀ k, k < nfl c → okT (tyc c k) = true := by
  refine le10 ?_ ?_ ?_ ?_ ?_ ?_ ?_ ?_ ?_ ?_ ?_ <;> decide +kernel
theorem hr_new (hF : FW) (hx : p.tables.exec = Jvm.exec) (hb : c.code = cc) (hts : ∀ w ∈ lw_good, w.before args s = true) {own : String} (hown : s.vm.findClass own = some m.cls) (hK : va_K D mcl (mty cy) s) (hH : HR D cy base u H) (hS : va_S (fun q => base ≤ q) H0 H locs) {ci i : Nat} (hci : ci ≤ 10) (hcl : (Cond.classLink own i (RXc ci)).before args s = true) (hinst : (Cond.instantiable (RXc ci) (nfl ci)).before args s = true) (hini : (Cond.initialized (RXc ci)).before args s = true)
    (hcells : cells + 1 ≤ R.cells) (hslots : slots + nfl ci ≤ R.slots) (hdg : decode cc pc = .ok (.new i, 3))
    (kk : ∀ (H1 : Heap), HR D cy base (al u ci (nfl ci)) H1 → va_S (fun q => base ≤ q) H0 H1 locs → W p l e R s m args below meth c H1 locs (cells + 1) (slots + nfl ci) Q (F0 m (pc + 3) ls (.ref (base + sz u) :: rest))) : W p l e R s m args below meth c H locs cells slots Q (F0 m pc ls rest) := by
  have hc := mcl_at ci hci
  have hKn := hK.1 ci _ hc
  refine W.newcK hx hb hown hcl hinst hini rfl hdg hcells hslots hKn.2.1 hH.1 fun H1 kC hkC e1 z1 o1 => ?_
  refine kk H1 (hH.grow (by omega) (by rw [z1, hH.1]) (fun q hq => o1 q (by rw [← hH.1]; exact hq)) ?_) (hS.nw (by rw [z1, hH.1]) (fun q hq => o1 q (by rw [← hH.1]; exact hq)))
  have hkd : kd (al u ci (nfl ci)) (sz u) = ci := by
    show ((if sz u = sz u then (ci, nfl ci) else u.2.2.2.1 (sz u))).1 = ci
    rw [if_pos rfl]
  unfold mcell
  rw [hkd, if_pos hci]
  refine ⟨_, hc, (u_born (tyc ci) hts (hF ci hci) hKn hkC e1 (ty_ok ci hci)).to (fun k hk => ?_)⟩
  have h1 : vp_V (mfs base (al u ci (nfl ci)) (sz u) ci) k = mfv base (al u ci (nfl ci)) (sz u) k (ftc (tyc ci k)) := by
    unfold vp_V
    rw [List.getD_eq_getElem?_getD, mfs_get _ _ _ hk]
    rfl
  rw [h1]
  have ho := okT_all ci hci k hk
  cases ht : tyc ci k <;> rw [ht] at ho <;> first | (cases ho; done) | simp [defaultValue, mfv, ftc, bz, va_rf]
theorem hr_newa (hx : p.tables.exec = Jvm.exec) (hb : c.code = cc) (hK : va_K D mcl (mty cy) s) (hH : HR D cy base u H) (hS : va_S (fun q => base ≤ q) H0 H locs) {atype : ArrayType} (harr : (Cond.arrayClass (newarray.typeOf atype)).before args s = true) {d t0 : Nat} {ty : FieldType} (hty : newarray.typeOf atype = ty) (hd1 : 11 ≤ d) (hd2 : d ≤ 12) (ht0 : (mty cy)[t0]? = some (cy d, ty)) (hdv : defaultValue ty = .int 0) (hobj : ∀ C, ty ≠ .object C)
    {n : Int32} (hn : ¬ n < 0) (hbytes : n.toNatClampNeg * componentBytes ty ≤ 536870912) (hcells : cells + 1 ≤ R.cells) (hslots : slots + n.toNatClampNeg ≤ R.slots) (hdg : decode cc pc = .ok (.newarray atype, 2))
    (kk : ∀ (H1 : Heap), HR D cy base (al u d n.toNatClampNeg) H1 → va_S (fun q => base ≤ q) H0 H1 locs → W p l e R s m args below meth c H1 locs (cells + 1) (slots + n.toNatClampNeg) Q (F0 m (pc + 2) ls (.ref (base + sz u) :: rest))) : W p l e R s m args below meth c H locs cells slots Q (F0 m pc ls (.int n :: rest)) := by
  subst hty
  refine va_newaK hx hb harr rfl hdg rfl hn rfl hbytes hcells hslots hH.1 fun H1 cA e1 z1 o1 hAr hNm => ?_
  have hcA : cA = cy d := by
    have h2 := (hK.2 t0 _ ht0).2
    have h3 : s.vm.findClass ("[" ++ (newarray.typeOf atype).toString) = some (cy d) := by
      revert h2
      unfold va_RA
      cases hq : newarray.typeOf atype <;> first | exact (fun h => h) | exact absurd hq (hobj _)
    exact Option.some.inj (hNm.symm.trans h3)
  refine kk H1 (hH.grow (by omega) (by rw [z1, hH.1]) (fun q hq => o1 q (by rw [← hH.1]; exact hq)) ?_) (hS.nw (by rw [z1, hH.1]) (fun q hq => o1 q (by rw [← hH.1]; exact hq)))
  have hkd : kd (al u d n.toNatClampNeg) (sz u) = d := by
    show ((if sz u = sz u then (d, n.toNatClampNeg) else u.2.2.2.1 (sz u))).1 = d
    rw [if_pos rfl]
  have hln : ln (al u d n.toNatClampNeg) (sz u) = n.toNatClampNeg := by
    show ((if sz u = sz u then (d, n.toNatClampNeg) else u.2.2.2.1 (sz u))).2 = _
    rw [if_pos rfl]
  unfold mcell
  rw [hkd, if_neg (by omega), if_pos hd2, hln]
  show H1[base + sz u]? = some (vp_cell _ _)
  rw [e1, hcA, vp_cell_i, hdv]
  congr 2
  funext q
  show _ = Value.int (if sz u = sz u then 0 else u.1 (sz u) q)
  rw [if_pos rfl]
theorem hr_anew (hx : p.tables.exec = Jvm.exec) (hb : c.code = cc) {own : String} {i : Nat} (hown : s.vm.findClass own = some m.cls) (hK : va_K D mcl (mty cy) s) (hH : HR D cy base u H) (hS : va_S (fun q => base ≤ q) H0 H locs) {d t0 : Nat} {C : String} (hclink : (Cond.classLink own i C).before args s = true) (hover : va_AO C s) (hd1 : 13 ≤ d) (hd2 : d ≤ 16) (ht0 : (mty cy)[t0]? = some (cy d, .object C))
    {n : Int32} (hn : ¬ n < 0) (hbytes : n.toNatClampNeg * 4 ≤ 536870912) (hcells : cells + 1 ≤ R.cells) (hslots : slots + n.toNatClampNeg ≤ R.slots) (hdg : decode cc pc = .ok (.anewarray i, 3))
    (kk : ∀ (H1 : Heap), HR D cy base (al u d n.toNatClampNeg) H1 → va_S (fun q => base ≤ q) H0 H1 locs → W p l e R s m args below meth c H1 locs (cells + 1) (slots + n.toNatClampNeg) Q (F0 m (pc + 3) ls (.ref (base + sz u) :: rest))) : W p l e R s m args below meth c H locs cells slots Q (F0 m pc ls (.int n :: rest)) := by
  refine W.anew hx hb hown hclink (va_AO.use hover) rfl hdg rfl hn hbytes hcells hslots fun cA kA comp f1 f2 f3 f4 => ?_
  obtain ⟨_, _, _, _, _, f5⟩ := (hK.2 t0 _ ht0).2
  have hcA : cA = cy d := Option.some.inj (f1.symm.trans f5)
  subst hcA
  generalize hH1 : H.push ({ cls := cy d, slots := Array.replicate n.toNatClampNeg .null, vm := .none } : Cell) = H1
  have z1 : H1.size = H.size + 1 := by rw [← hH1, Array.size_push]
  have e1 : H1[H.size]? = some (arrV (cy d) n.toNatClampNeg (fun _ => .null)) := by rw [← hH1, Array.getElem?_push_size, ← arrV_new]
  have o1 : ∀ q : Nat, q < H.size → H1[q]? = H[q]? := fun q hq => by rw [← hH1, Array.getElem?_push, if_neg (Nat.ne_of_lt hq)]
  have hkd : kd (al u d n.toNatClampNeg) (sz u) = d := by
    show ((if sz u = sz u then (d, n.toNatClampNeg) else u.2.2.2.1 (sz u))).1 = d
    rw [if_pos rfl]
  have hln : ln (al u d n.toNatClampNeg) (sz u) = n.toNatClampNeg := by
    show ((if sz u = sz u then (d, n.toNatClampNeg) else u.2.2.2.1 (sz u))).2 = _
    rw [if_pos rfl]
  have hk := kk H1 (hH.grow (by omega) z1 o1 (by
    unfold mcell
    rw [hkd, if_neg (by omega), if_neg (by omega), hln]
    show H1[base + sz u]? = some (vp_cell _ _)
    rw [← hH.1, e1, vp_cell_q]
    congr 2
    funext q
    show _ = va_rf (Option.map (fun a => base + a) (if sz u = sz u then none else u.2.2.1 (sz u) q))
    rw [if_pos rfl]
    rfl)) (hS.nw z1 o1)
  rw [← hH.1] at hk
  exact hk
end ROWS
