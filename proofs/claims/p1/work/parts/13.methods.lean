/-! A walk makes no cell go; a method by its table keeps its contract. -/
theorem le2_rf (u : MH) : le2 u u := ⟨Nat.le_refl _, Nat.le_refl _⟩
def Mn (u : MH) (F : MK → Option MO) : Prop := ∀ (k : MK) (r : Option MV) (u' : MH), (∀ pc lo o t r u', k pc lo o t = some (r, u') → le2 t u') → F k = some (r, u') → le2 u u'
theorem mn_no {u : MH} : Mn u (fun _ => none) := fun k r u' _ h => by cases h
theorem mn_k {u t : MH} {pc : Nat} {lo : MLs} {o : List MV} (h : le2 u t) : Mn u (fun k => k pc lo o t) := fun k r u' hk h2 => ⟨Nat.le_trans h.1 (hk _ _ _ _ _ _ h2).1, Nat.le_trans h.2 (hk _ _ _ _ _ _ h2).2⟩
theorem mn_rt {u : MH} {v : Option MV} : Mn u (fun _ => some (v, u)) := fun k r u' _ h => by cases h; exact le2_rf _
theorem mn_ite {u : MH} {c : Prop} [h : Decidable c] {F G : MK → Option MO} (hF : c → Mn u F) (hG : ¬ c → Mn u G) : Mn u (fun k => if c then F k else G k) := by
  by_cases hc : c
  · simp only [hc, if_true]; exact hF hc
  · simp only [hc, if_false]; exact hG hc
theorem mn_cond {u : MH} {b : Bool} {F G : MK → Option MO} (hF : b = true → Mn u F) (hG : b = false → Mn u G) : Mn u (fun k => cond b (F k) (G k)) := by
  cases b
  · exact hG rfl
  · exact hF rfl
theorem mn_bind {u : MH} {α : Type} {x : Option α} {F : α → MK → Option MO} (h : ∀ a, x = some a → Mn u (F a)) : Mn u (fun k => x.bind fun a => F a k) := by
  cases x with
  | none => exact mn_no
  | some a => exact h a rfl
theorem mn_pI {u : MH} {o : List MV} {F : Int32 → List MV → MK → Option MO} (h : ∀ x r, Mn u (F x r)) : Mn u (fun k => pI o fun x r => F x r k) := by
  unfold pI
  split
  · exact h _ _
  · exact mn_no
theorem mn_pL {u : MH} {o : List MV} {F : Int64 → List MV → MK → Option MO} (h : ∀ x r, Mn u (F x r)) : Mn u (fun k => pL o fun x r => F x r k) := by
  unfold pL
  split
  · exact h _ _
  · exact mn_no
theorem mn_pR {u : MH} {o : List MV} {F : Option Nat → List MV → MK → Option MO} (h : ∀ x r, Mn u (F x r)) : Mn u (fun k => pR o fun x r => F x r k) := by
  unfold pR
  split
  · exact h _ _
  · exact mn_no
theorem mn_pC {u : MH} {o : List MV} {F : MV → List MV → MK → Option MO} (h : ∀ x r, Mn u (F x r)) : Mn u (fun k => pC o fun x r => F x r k) := by
  unfold pC
  split
  · exact h _ _
  · exact h _ _
  · exact mn_no
theorem mn_pN {u : MH} {n : Nat} : ∀ {acc o : List MV} {F : List MV → List MV → MK → Option MO} (_ : ∀ x r, Mn u (F x r)), Mn u (fun k => pN n acc o fun x r => F x r k) := by
  induction n with
  | zero => intro acc o F h; exact h _ _
  | succ n ih =>
    intro acc o F h
    cases o with
    | nil => exact mn_no
    | cons v r => exact ih h
theorem mn_lI {u : MH} {lo : MLs} {j : Nat} {F : Int32 → MK → Option MO} (h : ∀ x, Mn u (F x)) : Mn u (fun k => lI lo j fun x => F x k) := by
  unfold lI
  split
  · exact h _
  · exact mn_no
theorem mn_lL {u : MH} {lo : MLs} {j : Nat} {F : Int64 → MK → Option MO} (h : ∀ x, Mn u (F x)) : Mn u (fun k => lL lo j fun x => F x k) := by
  unfold lL
  split
  · exact h _
  · exact mn_no
theorem mn_lR {u : MH} {lo : MLs} {j : Nat} {F : Option Nat → MK → Option MO} (h : ∀ x, Mn u (F x)) : Mn u (fun k => lR lo j fun x => F x k) := by
  unfold lR
  split
  · exact h _
  · exact mn_no
theorem mn_swt {u : MH} {x : Int32} {d : Nat} {l : List (Int32 × Nat)} {F : Nat → MK → Option MO} (h : ∀ x, Mn u (F x)) : Mn u (fun k => swt x d l fun x => F x k) := by
  induction l with
  | nil => exact h _
  | cons q l ih => exact mn_ite (c := x = q.1) (fun _ => h q.2) (fun _ => ih)
theorem mn_psh {u : MH} {rk : Nat} {v : MO} {r : List MV} {F : List MV → MH → MK → Option MO} (h : ∀ x, Mn u (F x v.2)) : Mn u (fun k => psh rk v r fun x r => F x r k) := by
  unfold psh
  split
  · exact mn_bind fun _ _ => h _
  · exact mn_bind fun _ _ => h _
  · exact mn_bind fun _ _ => h _
theorem mn_few {u : MH} {r : List MV} {F : MK → Option MO} (h : Mn u F) : Mn u (fun k => few r (F k)) := mn_cond (fun _ => h) (fun _ => mn_no)
theorem mn_c2 {u : MH} {c : Jvm.ClassFile.Cond} {x y : Int32} {F G : MK → Option MO} (hF : Mn u F) (hG : Mn u G) : Mn u (fun k => c2 c x y (F k) (G k)) := by
  cases c
  · exact mn_ite (fun _ => hF) (fun _ => hG)
  · exact mn_ite (fun _ => hG) (fun _ => hF)
  · exact mn_ite (fun _ => hF) (fun _ => hG)
  · exact mn_ite (fun _ => hF) (fun _ => hG)
  · exact mn_ite (fun _ => hF) (fun _ => hG)
  · exact mn_ite (fun _ => hF) (fun _ => hG)
theorem mn_cR {u : MH} {r : Option Nat} {F G : MK → Option MO} (hF : Mn u F) (hG : Mn u G) : Mn u (fun k => cR r (F k) (G k)) := by
  cases r
  · exact hF
  · exact hG
theorem mn_fgt {u : MH} {q : Nat × Nat × Nat} {a : Nat} {F : MV → MK → Option MO} (h : ∀ x, Mn u (F x)) : Mn u (fun k => fgt u q a fun x => F x k) := by
  unfold fgt
  split
  · exact mn_bind fun _ _ => h _
  · exact mn_bind fun _ _ => h _
  · exact mn_bind fun _ _ => h _
  · exact mn_bind fun _ _ => h _
theorem wI_le {u t : MH} {c a k : Nat} {v : Int32} (h : wI u c a k v = some t) : le2 u t := by
  unfold wI at h; split at h <;> cases h; exact le2_rf u
theorem wZ_le {u t : MH} {c a k : Nat} {v : Int32} (h : wZ u c a k v = some t) : le2 u t := by
  unfold wZ at h; split at h <;> cases h; exact le2_rf u
theorem wL_le {u t : MH} {c a k : Nat} {v : Int64} (h : wL u c a k v = some t) : le2 u t := by
  unfold wL at h; split at h <;> cases h; exact le2_rf u
theorem wR_le {u t : MH} {c a k : Nat} {v : Option Nat} (h : wR u c a k v = some t) : le2 u t := by
  unfold wR at h; split at h <;> cases h; exact le2_rf u
theorem st_le {u t : MH} {d a : Nat} {j v : Int32} (h : st u d a j v = some t) : le2 u t := by
  unfold st at h; split at h <;> cases h; exact le2_rf u
theorem stR_le {u t : MH} {a : Nat} {j : Int32} {v : Option Nat} (h : stR u a j v = some t) : le2 u t := by
  unfold stR at h; split at h <;> cases h; exact le2_rf u
theorem cpy_le {u t : MH} {a b : Nat} {sp dp n : Int32} (h : cpy u a sp b dp n = some t) : le2 u t := by
  unfold cpy at h; split at h <;> cases h; exact le2_rf u
theorem al_le (u : MH) (d n : Nat) : le2 u (al u d n) := ⟨Nat.le_add_right _ 1, Nat.le_add_right _ n⟩
theorem alM_le (u : MH) (n w : Nat) : le2 u (alM u n w) := ⟨by show sz u ≤ sz u + 1 + n; omega, by show sl u ≤ sl u + n + n * w; omega⟩
theorem nw_le {u t : MH} {d : Nat} {n : Int32} (h : nw u d n = some t) : le2 u t := by
  unfold nw at h; split at h <;> cases h; exact al_le _ _ _
theorem mn_fpt {u : MH} {q : Nat × Nat × Nat} {o : List MV} {F : List MV → MH → MK → Option MO} (h : ∀ x t, le2 u t → Mn u (F x t)) : Mn u (fun k => fpt u q o fun x r => F x r k) := by
  unfold fpt
  split
  · exact mn_pI fun _ _ => mn_pR fun _ _ => mn_bind fun _ _ => mn_bind fun _ ht => h _ _ (wI_le ht)
  · exact mn_pI fun _ _ => mn_pR fun _ _ => mn_bind fun _ _ => mn_bind fun _ ht => h _ _ (wZ_le ht)
  · exact mn_pL fun _ _ => mn_pR fun _ _ => mn_bind fun _ _ => mn_bind fun _ ht => h _ _ (wL_le ht)
  · exact mn_pR fun _ _ => mn_pR fun _ _ => mn_bind fun _ _ => mn_bind fun _ ht => h _ _ (wR_le ht)
theorem mn_rtI {u : MH} {rk : Nat} {x : Int32} {r : List MV} : Mn u (fun _ => rtI rk x r u) := by
  unfold rtI
  split
  · split
    · exact mn_rt
    · exact mn_ite (fun _ => mn_rt) (fun _ => mn_no)
    · exact mn_no
  · exact mn_no
theorem mn_rtR {u : MH} {rk : Nat} {x : Option Nat} {r : List MV} : Mn u (fun _ => rtR rk x r u) := by
  unfold rtR
  split
  · split
    · exact mn_rt
    · exact mn_no
  · exact mn_no
theorem mn_rtV {u : MH} {rk : Nat} {r : List MV} : Mn u (fun _ => rtV rk r u) := by
  unfold rtV
  split
  · split
    · exact mn_rt
    · exact mn_no
  · exact mn_no
/-- every method that is called lets no cell go -/
def CMn (T : MT) : Prop := ∀ (i : Nat) (g : CE), lk i T.2.2.2.1 = some g → ∀ as u v, g.2.2.2 as u = some v → le2 u v.2
set_option maxHeartbeats 4000000 in
theorem mn_stI {T : MT} (hT : CMn T) (q : EN) (lo : MLs) (o : List MV) (u : MH) : Mn u (fun k => stI T k q lo o u) := by
  obtain ⟨i, nx, tg, cv, cl, sw⟩ := q
  cases i
  case invokevirtual i =>
    dsimp only [stI]
    exact mn_bind fun g hg => mn_pN fun _ _ => mn_pR fun _ _ => mn_bind fun a _ => mn_few (mn_ite (fun hk => mn_bind fun v hv => mn_psh fun _ => mn_k (hT i g hg _ _ _ hv)) fun _ => mn_no)
  case invokespecial i =>
    dsimp only [stI]
    exact mn_bind fun g hg => mn_cond (fun _ => mn_pR fun _ _ => mn_bind fun _ _ => mn_few (mn_k (le2_rf u))) (fun _ => mn_pN fun _ _ => mn_pR fun _ _ => mn_bind fun a _ => mn_few (mn_ite (fun hk => mn_bind fun v hv => mn_psh fun _ => mn_k (hT i g hg _ _ _ hv)) fun _ => mn_no))
  case invokestatic i =>
    dsimp only [stI]
    exact mn_bind fun g hg => mn_cond (fun _ => mn_pI fun _ _ => mn_pI fun _ _ => mn_pR fun _ _ => mn_pI fun _ _ => mn_pR fun _ _ => mn_bind fun _ _ => mn_bind fun _ _ => mn_few (mn_bind fun t ht => mn_k (cpy_le ht))) (fun _ => mn_cond (fun _ => mn_pI fun _ _ => mn_pI fun _ _ => mn_few (mn_k (le2_rf u))) (fun _ => mn_cond (fun _ => mn_pI fun _ _ => mn_pI fun _ _ => mn_few (mn_k (le2_rf u))) (fun _ => mn_pN fun _ _ => mn_few (mn_bind fun v hv => mn_psh fun _ => mn_k (hT i g hg _ _ _ hv)))))
  case putfield i =>
    dsimp only [stI]
    exact mn_bind fun g hg => mn_fpt fun _ _ ht => mn_k ht
  case iastore =>
    dsimp only [stI]
    exact mn_pI fun _ _ => mn_pI fun _ _ => mn_pR fun _ _ => mn_bind fun _ _ => mn_bind fun t ht => mn_k (st_le ht)
  case bastore =>
    dsimp only [stI]
    exact mn_pI fun _ _ => mn_pI fun _ _ => mn_pR fun _ _ => mn_bind fun _ _ => mn_bind fun t ht => mn_k (st_le ht)
  case aastore =>
    dsimp only [stI]
    exact mn_pR fun _ _ => mn_pI fun _ _ => mn_pR fun _ _ => mn_bind fun _ _ => mn_bind fun t ht => mn_k (stR_le ht)
  case new i => exact mn_k (al_le u _ _)
  case newarray i =>
    dsimp only [stI]
    exact mn_pI fun _ _ => mn_bind fun t ht => mn_k (nw_le ht)
  case anewarray i =>
    dsimp only [stI]
    exact mn_pI fun _ _ => mn_bind fun t ht => mn_k (nw_le ht)
  case multianewarray i d =>
    dsimp only [stI]
    exact mn_pI fun _ _ => mn_pI fun _ _ => mn_ite (fun _ => mn_k (alM_le u _ _)) fun _ => mn_no
  case ireturn => dsimp only [stI]; exact mn_pI fun _ _ => mn_rtI
  case areturn => dsimp only [stI]; exact mn_pR fun _ _ => mn_rtR
  case return_ => dsimp only [stI]; exact mn_rtV
  all_goals
    dsimp only [stI]
    repeat' (first
      | exact mn_no
      | exact mn_k (le2_rf u)
      | (refine mn_pI fun _ _ => ?_)
      | (refine mn_pL fun _ _ => ?_)
      | (refine mn_pR fun _ _ => ?_)
      | (refine mn_pC fun _ _ => ?_)
      | (refine mn_lI fun _ => ?_)
      | (refine mn_lL fun _ => ?_)
      | (refine mn_lR fun _ => ?_)
      | (refine mn_swt fun _ => ?_)
      | (refine mn_fgt fun _ => ?_)
      | (refine mn_c2 ?_ ?_)
      | (refine mn_cR ?_ ?_)
      | (refine mn_bind fun _ _ => ?_)
      | (refine mn_ite (fun _ => ?_) (fun _ => ?_)))
theorem exec_le {T : MT} (hT : CMn T) : ∀ (n pc : Nat) (lo : MLs) (o : List MV) (u : MH) (r : Option MV) (u' : MH), exec T n pc lo o u = some (r, u') → le2 u u' := by
  intro n
  induction n with
  | zero => intro pc lo o u r u' h; cases h
  | succ n ih =>
    intro pc lo o u r u' h
    have h : (lk pc T.1).bind (fun q => stI T (fun pc lo o s => exec T n pc (cutAt T pc lo) o s) q lo o u) = some (r, u') := h
    obtain ⟨q, hq, h⟩ := bnd_some h
    exact mn_stI hT q lo o u _ r u' (fun pc lo o t r u' h => ih _ _ _ _ _ _ h) h
theorem Ev_le {T : MT} (hT : CMn T) {pc : Nat} {lo : MLs} {o : List MV} {u : MH} {r : Option MV} {u' : MH} (h : Ev T pc lo o u = some (r, u')) : le2 u u' := by
  obtain ⟨n, hn⟩ := Ev_ex h
  exact exec_le hT n _ _ _ _ _ _ hn
section METH
variable {p : Program} {l : Launch} {e : Env} {R : Room} {s : State} {m : MethodId} {args : Array Value} {below : List Frame} {meth : Method} {c : Code}
variable {cc : ByteArray} {D : va_G} {cy : Nat → ClassId} {base : Nat} {z0 w0 nL FR LC : Nat} {u' : MH} {rr : Option MV} {T : MT} {own : String} {ini : Bool} {fi : List (Nat × Nat × Bool)} {ci : List (Nat × INF)} {ret : Option FieldType}
theorem exec_snd (C : Cx p R s m args meth c cc D cy z0 w0 nL FR LC u' T own ini fi ci ret) (hcode : T.1.all (fun q => dcB cc q.1 q.2 && enB own nL ini T fi ci q.1 q.2) = true) : ∀ (n pc : Nat) (lo : MLs) (o : List MV) (u : MH), exec T n pc lo o u = some (rr, u') → Gd p l e R s m args below meth c D cy base z0 w0 nL u' rr pc lo o u := by
  intro n
  induction n with
  | zero => intro pc lo o u h; cases h
  | succ n ih =>
    intro pc lo o u h
    have h : (lk pc T.1).bind (fun q => stI T (fun pc lo o s => exec T n pc (cutAt T pc lo) o s) q lo o u) = some (rr, u') := h
    obtain ⟨q, hq, h⟩ := bnd_some h
    have hm := List.all_eq_true.mp hcode _ (lk_mem _ hq)
    simp only [Bool.and_eq_true] at hm
    refine stI_snd C (k := fun pc lo o s => exec T n pc (cutAt T pc lo) o s) (fun pc lo o u h => ?_) hm.1 hm.2 h
    have g := ih _ _ _ _ h
    exact ⟨g.1, fun H locs ls cells slots hH hS hl hz hw => g.2 H locs ls cells slots hH hS (hl.cut T pc) hz hw⟩
end METH
/-- A METHOD BY ITS TABLE: what the kernel has looked through, and the contracts of those that it calls, give its own. -/
theorem sd_of {y : MethodName} {cc : ByteArray} {nL : Nat} {ret : Option FieldType} {fr lc : Nat} {T : MT} {own : String} {ini : Bool} {fi : List (Nat × Nat × Bool)} {ci : List (Nat × INF)} (hy : plainName y.cls = true) (hyo : y.cls = own) (hini : ini = true → y.name = "<init>") (hrk : rkOk T.2.2.2.2 ret) (htab : tabB own cc nL ini fr lc T fi ci = true) (hA : SdAll T.2.2.2.1 ci) : Sd y cc nL ret fr lc (runT T nL) := by
  intro as u u' r h
  unfold runT at h
  cases hfit : Nat.ble (lay as).length nL with
  | false => rw [hfit] at h; cases h
  | true =>
  rw [hfit] at h
  have hfit := Nat.le_of_ble_eq_true hfit
  obtain ⟨n, hn⟩ := Ev_ex h
  have hM : CMn T := fun i g hg => SdAll_mn _ _ hA hg
  have hle := exec_le hM n _ _ _ _ _ _ hn
  refine ⟨hle, fun l D cy base => ?_⟩
  refine Met.ofW (cc := cc) (maxL := nL) (ret := ret) hy rfl ?_
  intro p e s m args below meth c s₁ B hml hv
  obtain ⟨rfl, hH, hK, hNW⟩ := hv
  have hts := atoms_spec (ws := .code y cc nL ret :: lw_good) B.pre
  simp only [tabB, Bool.and_eq_true] at htab
  have C : Cx p (headSpec (.code y cc nL ret :: lw_good) { frames := fr, cells := sz u' - sz u, slots := sl u' - sl u, locals := lc }).room s m (as.map (mval base)).toArray meth c cc D cy (sz u) (sl u) nL fr lc u' T own ini fi ci ret :=
    ⟨B.exec, B.bytes, hml, by rw [← hyo]; exact findClass_of_methodNamed B.named, fun w hw => hts w (List.mem_cons_of_mem _ hw), hK, hNW, B.notSynchronized, B.returns, hrk, fun hi => ((name_of_methodNamed B.named B.method).1).trans (hini hi), ⟨rfl, rfl, rfl, rfl⟩, htab.1.2, htab.2, hA⟩
  have g := exec_snd (l := l) (e := e) (below := below) (base := base) C htab.1.1 n 0 _ [] u hn
  have hfit2 : (lg_sl (as.map (mval base))).length ≤ nL := by rw [lay_len]; exact hfit
  have hl := lv_entry (as.map (mval base)) (n := nL) hfit2
  rw [lg_entry_eq]
  generalize (lg_sl (as.map (mval base)) ++ List.replicate (nL - (lg_sl (as.map (mval base))).length) Slot.unset).toArray = ls at hl ⊢
  exact g.2 s.heap [] ls 0 0 hH va_S.rf ⟨hl.1, hl.2.1, fun q hq => hl.2.2 q (lay_args base as 0 _ q hq)⟩ (Nat.add_zero _) (Nat.add_zero _)
