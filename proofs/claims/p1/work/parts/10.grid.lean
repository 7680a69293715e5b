/-! new int[n][m] -/
theorem grid_outer (c : ClassId) (N h0 : Nat) : ∀ i : Nat, Jvm.Free.Multi.outerC c N h0 i = arrV c N (fun j => va_rf (if j < i then some (h0 + 1 + j) else none))
  | 0 => by
    show ({ cls := c, slots := Array.replicate N .null, vm := .none } : Cell) = _
    rw [arrV_new]
    refine congrArg (arrV c N) (funext fun j => ?_)
    simp [va_rf]
  | i + 1 => by
    show (Jvm.Free.Multi.outerC c N h0 i).setSlot i (.ref (h0 + 1 + i)) = _
    rw [grid_outer c N h0 i, arrV_store]
    refine congrArg (arrV c N) (funext fun j => ?_)
    by_cases e : j = i
    · subst e
      simp [updV, va_rf]
    · by_cases h : j < i
      · simp [updV, e, h, Nat.lt_succ_of_lt h]
      · simp [updV, e, h, show ¬ j < i + 1 by omega]
section GRID
variable {p : Program} {l : Launch} {e : Env} {R : Room} {s : State} {m : MethodId} {args : Array Value} {below : List Frame} {meth : Method} {c : Code} {H : Heap} {locs : List Loc} {cells slots : Nat} {Q : State → Prop}
variable {cc : ByteArray} {pc : Nat} {ls : Array Slot} {rest : List Value} {D : va_G} {cy : Nat → ClassId} {base : Nat} {H0 : Heap} {u : MH}
theorem HR.grid {N K : Nat} {H1 : Heap} (hH : HR D cy base u H) (z : H1.size = H.size + 1 + N) (oq : ∀ q, q < H.size → H1[q]? = H[q]?) (hout : H1[base + sz u]? = some (vp_cell (cy 16) (N, .inr (.inr (.inr (.inr (fun i => if i < N then some (base + sz u + 1 + i) else none))))))) (hrow : ∀ j, j < N → H1[base + sz u + 1 + j]? = some (vp_cell (cy 11) (K, .inl fun _ => 0))) : HR D cy base (alM u N K) H1 := by
  have hsz : sz (alM u N K) = sz u + 1 + N := rfl
  have hsh : ∀ b, (alM u N K).2.2.2.1 b = if b = sz u then (16, N) else if sz u ≤ b ∧ b < sz u + 1 + N then (11, K) else u.2.2.2.1 b := fun _ => rfl
  refine ⟨by rw [z, hH.1, hsz]; omega, fun b hb => ?_, fun b hb => ?_⟩
  · rw [hsz] at hb
    by_cases e : b = sz u
    · subst e
      have h1 : (alM u N K).2.2.2.1 (sz u) = (16, N) := by rw [hsh, if_pos rfl]
      have hk : kd (alM u N K) (sz u) = 16 := by show ((alM u N K).2.2.2.1 (sz u)).1 = 16; rw [h1]
      have hl : ln (alM u N K) (sz u) = N := by show ((alM u N K).2.2.2.1 (sz u)).2 = N; rw [h1]
      refine ⟨by rw [hk]; decide, ?_⟩
      unfold mcell
      rw [hk, if_neg (by omega), if_neg (by omega), hl]
      show H1[base + sz u]? = some _
      rw [hout]
      congr 2
      congr 5
      funext i
      show _ = Option.map (fun a => base + a) (if sz u = sz u then (if i < N then some (sz u + 1 + i) else none) else _)
      rw [if_pos rfl]
      by_cases hi : i < N
      · rw [if_pos hi, if_pos hi]; simp; omega
      · rw [if_neg hi, if_neg hi]; rfl
    · by_cases e2 : sz u ≤ b
      · have hc : sz u ≤ b ∧ b < sz u + 1 + N := ⟨e2, hb⟩
        have h1 : (alM u N K).2.2.2.1 b = (11, K) := by rw [hsh, if_neg e, if_pos hc]
        have hk : kd (alM u N K) b = 11 := by show ((alM u N K).2.2.2.1 b).1 = 11; rw [h1]
        have hl : ln (alM u N K) b = K := by show ((alM u N K).2.2.2.1 b).2 = K; rw [h1]
        refine ⟨by rw [hk]; decide, ?_⟩
        unfold mcell
        rw [hk, if_neg (by omega), if_pos (by omega), hl]
        show H1[base + b]? = some _
        have := hrow (b - (sz u + 1)) (by omega)
        rw [show base + sz u + 1 + (b - (sz u + 1)) = base + b by omega] at this
        rw [this]
        congr 2
        congr 2
        funext y
        show (0 : Int32) = if sz u ≤ b ∧ b < sz u + 1 + N then 0 else _
        rw [if_pos hc]
      · have hlt : b < sz u := by omega
        have hc : ¬ (sz u ≤ b ∧ b < sz u + 1 + N) := by omega
        have hs : mcell cy base (alM u N K) b = mcell cy base u b := by
          refine mcell_same ?_ ?_ ?_ ?_
          · rw [hsh, if_neg e, if_neg hc]
          · funext y
            show (if sz u ≤ b ∧ b < sz u + 1 + N then (0 : Int32) else u.1 b y) = _
            rw [if_neg hc]
          · funext y
            show (if sz u ≤ b ∧ b < sz u + 1 + N then (0 : Int64) else u.2.1 b y) = _
            rw [if_neg hc]
          · funext y
            show (if b = sz u then (if y < N then some (sz u + 1 + y) else none) else if sz u ≤ b ∧ b < sz u + 1 + N then (none : Option Nat) else u.2.2.1 b y) = _
            rw [if_neg e, if_neg hc]
        have hk : kd (alM u N K) b = kd u b := by show ((alM u N K).2.2.2.1 b).1 = _; rw [hsh, if_neg e, if_neg hc]
        refine ⟨by rw [hk]; exact (hH.2.1 b hlt).1, ?_⟩
        rw [hs]
        refine (hH.2.1 b hlt).2.kept (oq _ ?_)
        show base + b < H.size
        rw [hH.1]; omega
  · rw [hsz] at hb
    have hk : kd (alM u N K) b = kd u b := by show ((alM u N K).2.2.2.1 b).1 = _; rw [hsh, if_neg (by omega), if_neg (by omega)]
    rw [hk]
    exact hH.2.2 b (by omega)
theorem hr_mna (hx : p.tables.exec = Jvm.exec) (hb : c.code = cc) {own : String} {i : Nat} (hown : s.vm.findClass own = some m.cls) (hclink : (Cond.classLink own i ("[" ++ (FieldType.array .int).toString)).before args s = true) (hover : (Cond.arrayOver (.array .int)).before args s = true) (harr : (Cond.arrayClass .int).before args s = true) (hK : va_K D mcl (mty cy) s) (hH : HR D cy base u H) (hS : va_S (fun q => base ≤ q) H0 H locs)
    {n k : Int32} (hn : ¬ n < 0) (hk : ¬ k < 0) (hb1 : n.toNatClampNeg ≤ 1000) (hb2 : k.toNatClampNeg ≤ 1000) (hcells : cells + (1 + n.toNatClampNeg) ≤ R.cells) (hslots : slots + (n.toNatClampNeg + n.toNatClampNeg * k.toNatClampNeg) ≤ R.slots) (hdg : decode cc pc = .ok (.multianewarray i 2, 4))
    (kk : ∀ (H1 : Heap), HR D cy base (alM u n.toNatClampNeg k.toNatClampNeg) H1 → va_S (fun q => base ≤ q) H0 H1 locs → W p l e R s m args below meth c H1 locs (cells + 1 + n.toNatClampNeg) (slots + n.toNatClampNeg + n.toNatClampNeg * k.toNatClampNeg) Q (F0 m (pc + 4) ls (.ref (base + sz u) :: rest))) : W p l e R s m args below meth c H locs cells slots Q (F0 m pc ls (.int k :: .int n :: rest)) := by
  intro T hT Xs
  obtain ⟨vm₁, cA, comp, -, fA, fC, hO, -, X', step⟩ := Xs.multianewarray2F hx hown hclink hover harr (g := F0 m pc ls (.int k :: .int n :: rest)) rfl (by rw [hb]; exact hdg) rfl hn hk (by omega) (by show k.toNatClampNeg * 4 ≤ _; omega) (by omega) rfl rfl hcells hslots
  have h16 : s.vm.findClass ("[" ++ (FieldType.array .int).toString) = some (cy 16) := (hK.2 5 _ rfl).2
  have h11 : s.vm.findClass ("[" ++ FieldType.int.toString) = some (cy 11) := (hK.2 0 _ rfl).2
  have e16 : cA = cy 16 := Option.some.inj (fA.symm.trans h16)
  have e11 : comp = cy 11 := Option.some.inj (fC.symm.trans h11)
  subst e16
  subst e11
  generalize hF : Jvm.Free.Multi.fill (T.setVm vm₁) (cy 16) (cy 11) n.toNatClampNeg k.toNatClampNeg (defaultValue .int) n.toNatClampNeg = F at X' step
  have hTh : (T.setVm vm₁).heap = H := hT
  obtain ⟨f1, f2, -, -⟩ := Jvm.Free.Multi.fill_facts (T.setVm vm₁) (cy 16) (cy 11) n.toNatClampNeg k.toNatClampNeg (defaultValue .int) n.toNatClampNeg
  rw [hF, hTh] at f1 f2
  have hold : ∀ x : Nat, x < H.size → F.heap[x]? = H[x]? := fun x hx => by
    have := Jvm.Free.Multi.fill_old (T.setVm vm₁) (cy 16) (cy 11) n.toNatClampNeg k.toNatClampNeg (defaultValue .int) (a := x) (by rw [hTh]; exact hx) n.toNatClampNeg
    rw [hF, hTh] at this
    exact this
  have hrow : ∀ j : Nat, j < n.toNatClampNeg → F.heap[H.size + 1 + j]? = some (vp_cell (cy 11) (k.toNatClampNeg, .inl fun _ => 0)) := fun j hj => by
    have := Jvm.Free.Multi.fill_inner (T.setVm vm₁) (cy 16) (cy 11) n.toNatClampNeg k.toNatClampNeg (defaultValue .int) n.toNatClampNeg j hj
    rw [hF, hTh] at this
    rw [this, vp_cell_i]
    exact congrArg some (arrV_new _ _ _)
  have hout : Jvm.Free.Multi.outerC (cy 16) n.toNatClampNeg H.size n.toNatClampNeg = vp_cell (cy 16) (n.toNatClampNeg, .inr (.inr (.inr (.inr (fun i => if i < n.toNatClampNeg then some (H.size + 1 + i) else none))))) := by
    rw [vp_cell_q]
    exact grid_outer (cy 16) n.toNatClampNeg H.size n.toNatClampNeg
  rw [hout] at f2
  have hz := hH.1
  rw [hz] at f2 hrow
  obtain ⟨t, a1, b1⟩ := kk F.heap (hH.grid f1 hold f2 hrow) ⟨by rw [f1]; have := hS.1; omega, fun x h1 h2 => (hold x (Nat.lt_of_lt_of_le h1 hS.1)).trans (hS.2.1 x h1 h2), hS.2.2⟩ F rfl X'
  refine ⟨t, step t ?_, b1⟩
  have e : T.heap.size = base + sz u := by rw [hT]; exact hz
  rw [e]
  exact a1
end GRID
