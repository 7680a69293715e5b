/-! What a method's contract is over the small machine's heap; calls; arraycopy. -/
def NW (U : State) : Prop := (∀ w ∈ lw_nest, w.before #[] U = true) ∧ va_AO RX4 U ∧ va_AO RX7 U ∧ va_AO RX8 U ∧ (Cond.arrayOver (.array .int)).before #[] U = true
theorem AOA_moved {t : FieldType} {u U : State} (hvm : u.vm.Alike U.vm) (h : (Cond.arrayOver (.array t)).before #[] u = true) : (Cond.arrayOver (.array t)).before #[] U = true := by
  obtain ⟨comp, c, k, h1, h2, h3, h4, h5⟩ := arrayOverA_spec h
  obtain ⟨k', hk', he⟩ := hvm.2.2 _ _ h3
  have hi : (U.vm.classes.findIdx? fun (x : Class) => match x.kind with | .array component _ => component == comp | _ => false) = some c := by
    have e1 := va_idx_bare U.vm comp
    have e2 := va_idx_bare u.vm comp
    have e3 : U.vm.bare = u.vm.bare := by first | exact hvm.bare_eq | exact hvm.bare_eq.symm
    rw [e3] at e1
    exact e1.symm.trans (e2.trans h2)
  have hkind : k'.kind = .array comp (.array t) := by rw [he]; exact h4
  have f1 : U.vm.findClass (FieldType.array t).toString = some comp := by rw [hvm.findClass]; exact h1
  have f2 : U.vm.findClass ("[" ++ (FieldType.array t).toString) = some c := by rw [hvm.findClass]; exact h5
  unfold Cond.before Cond.holds
  simp only [Cond.value]
  rw [f1, Option.bind_some]
  refine (congrArg (fun o : Option Nat => (o.bind (fun c => (U.vm.classes[c]?).map fun (k : Class) => match k.kind with | .array _ ty => decide (ty = FieldType.array t) && decide (U.vm.findClass ("[" ++ (FieldType.array t).toString) = some c) | _ => false) == some true)) hi).trans ?_
  simp [hk', hkind, f2]
theorem NW.warm {s U : State} (hW : s.WarmedH U.vm) (h : NW s) : NW U := by
  obtain ⟨h1, h2, h3, h4, h5⟩ := h
  refine ⟨fun w hw => ?_, h2.moved hW.alike, h3.moved hW.alike, h4.moved hW.alike, AOA_moved hW.alike h5⟩
  have h6 := (List.mem_filter.mp hw).2
  have h7 := h1 w hw
  cases w <;> first | (cases h6; done) | exact va_Nw.warmF hW h7 | exact va_Nw.warmM hW h7
theorem NW.same {u U : State} (hv : u.vm = U.vm) (h : NW u) : NW U := by
  obtain ⟨h1, h2, h3, h4, h5⟩ := h
  have hal : u.vm.Alike U.vm := by rw [hv]; exact Vm.Alike.refl _
  refine ⟨fun w hw => ?_, h2.moved hal, h3.moved hal, h4.moved hal, AOA_moved hal h5⟩
  have h6 := (List.mem_filter.mp hw).2
  have h7 := h1 w hw
  cases w <;> first | (cases h6; done) | exact va_Nw.same rfl hv h7
def mP (D : va_G) (cy : Nat → ClassId) (base : Nat) (u : MH) (as : List MV) : Array Value → State → Prop := va_Pc (as.map (mval base)) (fun U => HR D cy base u U.heap ∧ va_K D mcl (mty cy) U ∧ NW U)
def mQ (D : va_G) (cy : Nat → ClassId) (base : Nat) (u' : MH) (r : Option MV) : Array Value → State → Outcome → State → Prop := fun _ st oc t => (oc = .returned (r.map (mval base)) ∧ HR D cy base u' t.heap) ∧ va_F (fun q => base ≤ q) st t
abbrev sl (s : MH) : Nat := s.2.2.2.2.2
theorem mP_blind (D : va_G) (cy : Nat → ClassId) (base : Nat) (u : MH) (as : List MV) : FrameBlind (mP D cy base u as) := by
  intro a U g mk h
  obtain ⟨h1, h2, h3, h4⟩ := h
  exact ⟨h1, h2, va_K.moved (u := U) (Vm.Alike.refl _) h3, NW.same (u := U) rfl h4⟩
/-- the method y keeps M, in every world -/
def Sd (y : MethodName) (cc : ByteArray) (nL : Nat) (ret : Option FieldType) (fr lc : Nat) (M : MF) : Prop :=
  ∀ (as : List MV) (u u' : MH) (r : Option MV), M as u = some (r, u') → (sz u ≤ sz u' ∧ sl u ≤ sl u') ∧
    ∀ (l : Launch) (D : va_G) (cy : Nat → ClassId) (base : Nat), Met l y (.code y cc nL ret :: lw_good) { frames := fr, cells := sz u' - sz u, slots := sl u' - sl u, locals := lc } (mP D cy base u as) (mQ D cy base u' r) (sz u' - sz u) (sl u' - sl u) (fun q => base ≤ q)
section CALLS
variable {p : Program} {l : Launch} {e : Env} {R : Room} {s : State} {m : MethodId} {args : Array Value} {below : List Frame} {meth : Method} {c : Code} {H : Heap} {locs : List Loc} {cells slots : Nat} {Q : State → Prop}
variable {cc : ByteArray} {pc : Nat} {ls : Array Slot} {rest : List Value} {D : va_G} {cy : Nat → ClassId} {base : Nat} {H0 : Heap} {u : MH}
theorem mm_call {u' : MH} {r : Option MV} {a : Array Value} {st0 : List Value} {mc ms : Nat} (hr : va_Run p l e R s m args below meth c H locs cells slots mc ms (F0 m pc ls st0) rest (mQ D cy base u' r a) (fun q => base ≤ q)) (hS : va_S (fun q => base ≤ q) H0 H locs)
    (kk : ∀ (H1 : Heap) (locs1 : List Loc), HR D cy base u' H1 → va_S (fun q => base ≤ q) H0 H1 locs1 → W p l e R s m args below meth c H1 locs1 (cells + mc) (slots + ms) Q (F0 m (pc + 3) ls ((r.map (mval base)).toList ++ rest))) : W p l e R s m args below meth c H locs cells slots Q (F0 m pc ls st0) := by
  intro T hT X
  obtain ⟨v, st₀, t, T', L, h0, X', hL, e1, e2, ⟨⟨hv, hh⟩, hz, hk⟩, st⟩ := hr T hT X
  cases hv
  rw [h0] at hz hk
  obtain ⟨t2, a1, b1⟩ := kk T'.heap (locs ++ L) (by rw [e1]; exact hh)
    ⟨Nat.le_trans hS.1 (by rw [e1]; exact hz), fun q h1 h2 => by rw [e1, hk q (Nat.lt_of_lt_of_le h1 hS.1) h2]; exact hS.2.1 q h1 h2, fun q hq => by
      rcases List.mem_append.mp hq with h | h
      · exact hS.2.2 q h
      · exact hL q h⟩ T' rfl X'
  exact ⟨t2, st t2 a1, b1⟩
/-- rows of ints copied, the two apart -/
theorem hr_copy (hx : p.tables.exec = Jvm.exec) (hb : c.code = cc) (hml : c.maxLocals = ls.size) {own : String} {i : Nat} (hown : s.vm.findClass own = some m.cls) (hlink : (Cond.methodLink own i arraycopyName).before args s = true) (hnat : (Cond.native arraycopyName).before args s = true) (hstat : (Cond.static arraycopyName).before args s = true) (hini : (Cond.initialized "java/lang/System").before args s = true)
    (hK : va_K D mcl (mty cy) s) (hH : HR D cy base u H) (hS : va_S (fun q => base ≤ q) H0 H locs) {a b : Nat} (hka : kd u a = 11) (hkb : kd u b = 11)
    {sp dp n : Int32} (h1 : ¬ sp < 0) (h2 : ¬ dp < 0) (h3 : ¬ n < 0) (h4 : sp.toNatClampNeg + n.toNatClampNeg ≤ ln u a) (h5 : dp.toNatClampNeg + n.toNatClampNeg ≤ ln u b)
    (hframes : 1 ≤ R.frames) (hlocals : (rest.map fun v => v.category).sum + (nativeFrameWords "java/lang/System" "arraycopy" 5 + 11) ≤ R.locals) (hdg : decode cc pc = .ok (.invokestatic i, 3))
    (kk : ∀ (H1 : Heap) (locs1 : List Loc), HR D cy base (fun x y => if x = b ∧ dp.toNatClampNeg ≤ y ∧ y < dp.toNatClampNeg + n.toNatClampNeg then u.1 a (sp.toNatClampNeg + (y - dp.toNatClampNeg)) else u.1 x y, u.2) H1 → va_S (fun q => base ≤ q) H0 H1 locs1 → W p l e R s m args below meth c H1 locs1 cells slots Q (F0 m (pc + 3) ls rest)) : W p l e R s m args below meth c H locs cells slots Q (F0 m pc ls (.int n :: .int dp :: .ref (base + b) :: .int sp :: .ref (base + a) :: rest)) := by
  have nn : ∀ z : Int32, ¬ z < 0 → z.toInt = (z.toNatClampNeg : Int) := by
    intro z hz
    have hz0 : (0 : Int) ≤ z.toInt := by
      have := Int32.not_lt.mp hz
      simpa using Int32.le_iff_toInt_le.mp this
    show z.toInt = ((z.toInt.toNat : Nat) : Int)
    omega
  intro T hT X
  have hc0 : H[base + a]? = some (vp_cell (cy 11) (ln u a, .inl (u.1 a))) := hH.ints hka (by omega) (by omega)
  have hc1 : H[base + b]? = some (vp_cell (cy 11) (ln u b, .inl (u.1 b))) := hH.ints hkb (by omega) (by omega)
  obtain ⟨-, k0, hk0, cm0, hkk0⟩ := (hK.2 0 _ rfl).1 (ln u a) (fun j => .int (u.1 a j))
  obtain ⟨-, k1, hk1, cm1, hkk1⟩ := (hK.2 0 _ rfl).1 (ln u b) (fun j => .int (u.1 b j))
  obtain ⟨vm', X', step⟩ := X.arraycopy hx hown hlink hnat hstat hini (src := base + a) (dst := base + b) (cs := vp_cell (cy 11) (ln u a, .inl (u.1 a))) (cd := vp_cell (cy 11) (ln u b, .inl (u.1 b))) (srcPos := sp) (destPos := dp) (n := n) (by rw [hT]; exact hc0) (by rw [hT]; exact hc1)
    (fun _ h => by cases h) (fun _ h => by cases h) (fun h => by cases h) (fun h => by cases h) hk0 hk1 hkk0 hkk1 (by simp [refKind]) h1 h2 h3
    (by rw [nn sp h1, nn n h3]; show ¬ _ > ((arrV (cy 11) (ln u a) (fun j => .int (u.1 a j))).slots.size : Int); rw [arrV_size]; omega)
    (by rw [nn dp h2, nn n h3]; show ¬ _ > ((arrV (cy 11) (ln u b) (fun j => .int (u.1 b j))).slots.size : Int); rw [arrV_size]; omega)
    (fun vm₁ _ i hi => by
      have e : (vp_cell (cy 11) (ln u a, .inl (u.1 a))).slots.getD (sp.toNatClampNeg + i) .null = .int (u.1 a (sp.toNatClampNeg + i)) := by
        show (arrV (cy 11) (ln u a) (fun j => .int (u.1 a j))).slots.getD _ _ = _
        rw [Array.getD_eq_getD_getElem?, arrV_read _ _ (by omega)]
        rfl
      refine ⟨?_, ?_⟩
      · rw [e]
        rfl
      · rw [e]
        exact trivial)
    (g := F0 m pc ls (.int n :: .int dp :: .ref (base + b) :: .int sp :: .ref (base + a) :: rest)) rfl (by rw [hml]) (rest := rest) rfl (by rw [hb]; exact hdg) hframes (by show 2 * 0 + _ + _ ≤ _; omega)
  have e1 : copied (vp_cell (cy 11) (ln u a, .inl (u.1 a))) (vp_cell (cy 11) (ln u b, .inl (u.1 b))) sp dp n = vp_cell (cy 11) (ln u b, .inl (va_cpy (u.1 a) (u.1 b) sp.toNatClampNeg dp.toNatClampNeg n.toNatClampNeg)) := va_copied (fun z => .int z) (cy 11) (cy 11) (u.1 a) (u.1 b) h4
  rw [e1] at X' step
  have hl : base + b < H.size := (Array.getElem?_eq_some_iff.mp hc1).1
  have hheap : ((T.setVm vm').setCell (base + b) (vp_cell (cy 11) (ln u b, .inl (va_cpy (u.1 a) (u.1 b) sp.toNatClampNeg dp.toNatClampNeg n.toNatClampNeg)))).heap = H.setIfInBounds (base + b) (vp_cell (cy 11) (ln u b, .inl (va_cpy (u.1 a) (u.1 b) sp.toNatClampNeg dp.toNatClampNeg n.toNatClampNeg))) := by rw [← hT]; rfl
  have oq : ∀ q : Nat, q ≠ base + b → (H.setIfInBounds (base + b) (vp_cell (cy 11) (ln u b, .inl (va_cpy (u.1 a) (u.1 b) sp.toNatClampNeg dp.toNatClampNeg n.toNatClampNeg))))[q]? = H[q]? := fun q hq => by simp [Array.getElem?_setIfInBounds, Ne.symm hq]
  have hsz : (H.setIfInBounds (base + b) (vp_cell (cy 11) (ln u b, .inl (va_cpy (u.1 a) (u.1 b) sp.toNatClampNeg dp.toNatClampNeg n.toNatClampNeg)))).size = H.size := by simp
  obtain ⟨t, a1, b1⟩ := kk _ _ (hH.upd rfl rfl (a := b) (by
      unfold mcell
      rw [show kd ((fun x y => if x = b ∧ dp.toNatClampNeg ≤ y ∧ y < dp.toNatClampNeg + n.toNatClampNeg then u.1 a (sp.toNatClampNeg + (y - dp.toNatClampNeg)) else u.1 x y, u.2) : MH) b = 11 from hkb, if_neg (by omega), if_pos (by omega)]
      show (H.setIfInBounds (base + b) _)[base + b]? = some _
      rw [Array.getElem?_setIfInBounds, if_pos rfl, if_pos hl]
      congr 2
      congr 2
      funext y
      show _ = (if b = b ∧ dp.toNatClampNeg ≤ y ∧ y < dp.toNatClampNeg + n.toNatClampNeg then u.1 a (sp.toNatClampNeg + (y - dp.toNatClampNeg)) else u.1 b y)
      simp [va_cpy]) hsz oq (fun x hxb => mcell_same rfl (by
        funext y
        show (if x = b ∧ dp.toNatClampNeg ≤ y ∧ y < dp.toNatClampNeg + n.toNatClampNeg then u.1 a (sp.toNatClampNeg + (y - dp.toNatClampNeg)) else u.1 x y) = _
        rw [if_neg (fun h => hxb h.1)]) rfl rfl)) (hS.wr hsz oq (Nat.le_add_right _ _) (fun q hq => by
      obtain ⟨z, -, hz⟩ := List.mem_map.mp hq
      rw [← hz])) _ hheap X'
  exact ⟨t, step t a1, b1⟩
end CALLS
