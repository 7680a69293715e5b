/-! A walk of the small machine: what an instruction does with its continuation, the walk without a count of steps, its unfolding. -/
def Lin (F : MK → Option MO) : Prop := (∃ o, ∀ k, F k = o) ∨ ∃ pc lo o s, ∀ k, F k = k pc lo o s
theorem lin_c (o : Option MO) : Lin (fun _ => o) := Or.inl ⟨o, fun _ => rfl⟩
theorem lin_k (pc : Nat) (lo : MLs) (o : List MV) (s : MH) : Lin (fun k => k pc lo o s) := Or.inr ⟨pc, lo, o, s, fun _ => rfl⟩
theorem lin_ite (c : Prop) [h : Decidable c] {F G : MK → Option MO} (hF : Lin F) (hG : Lin G) : Lin (fun k => if c then F k else G k) := by
  by_cases hc : c
  · simp only [hc, if_true]; exact hF
  · simp only [hc, if_false]; exact hG
theorem lin_cond (b : Bool) {F G : MK → Option MO} (hF : Lin F) (hG : Lin G) : Lin (fun k => cond b (F k) (G k)) := by
  cases b
  · exact hG
  · exact hF
theorem lin_bind {α : Type} (x : Option α) {F : α → MK → Option MO} (h : ∀ a, Lin (F a)) : Lin (fun k => x.bind fun a => F a k) := by
  cases x with
  | none => exact lin_c none
  | some a => exact h a
theorem lin_pI (o : List MV) {F : Int32 → List MV → MK → Option MO} (h : ∀ x r, Lin (F x r)) : Lin (fun k => pI o fun x r => F x r k) := by
  unfold pI
  split
  · exact h _ _
  · exact lin_c none
theorem lin_pL (o : List MV) {F : Int64 → List MV → MK → Option MO} (h : ∀ x r, Lin (F x r)) : Lin (fun k => pL o fun x r => F x r k) := by
  unfold pL
  split
  · exact h _ _
  · exact lin_c none
theorem lin_pR (o : List MV) {F : Option Nat → List MV → MK → Option MO} (h : ∀ x r, Lin (F x r)) : Lin (fun k => pR o fun x r => F x r k) := by
  unfold pR
  split
  · exact h _ _
  · exact lin_c none
theorem lin_pC (o : List MV) {F : MV → List MV → MK → Option MO} (h : ∀ x r, Lin (F x r)) : Lin (fun k => pC o fun x r => F x r k) := by
  unfold pC
  split
  · exact h _ _
  · exact h _ _
  · exact lin_c none
theorem lin_pN (n : Nat) : ∀ (acc o : List MV) {F : List MV → List MV → MK → Option MO} (_ : ∀ x r, Lin (F x r)), Lin (fun k => pN n acc o fun x r => F x r k) := by
  induction n with
  | zero => intro acc o F h; exact h _ _
  | succ n ih =>
    intro acc o F h
    cases o with
    | nil => exact lin_c none
    | cons v r => exact ih (v :: acc) r h
theorem lin_lI (lo : MLs) (j : Nat) {F : Int32 → MK → Option MO} (h : ∀ x, Lin (F x)) : Lin (fun k => lI lo j fun x => F x k) := by
  unfold lI
  split
  · exact h _
  · exact lin_c none
theorem lin_lL (lo : MLs) (j : Nat) {F : Int64 → MK → Option MO} (h : ∀ x, Lin (F x)) : Lin (fun k => lL lo j fun x => F x k) := by
  unfold lL
  split
  · exact h _
  · exact lin_c none
theorem lin_lR (lo : MLs) (j : Nat) {F : Option Nat → MK → Option MO} (h : ∀ x, Lin (F x)) : Lin (fun k => lR lo j fun x => F x k) := by
  unfold lR
  split
  · exact h _
  · exact lin_c none
theorem lin_swt (x : Int32) (d : Nat) (l : List (Int32 × Nat)) {F : Nat → MK → Option MO} (h : ∀ x, Lin (F x)) : Lin (fun k => swt x d l fun x => F x k) := by
  induction l with
  | nil => exact h _
  | cons q l ih => exact lin_ite (x = q.1) (h q.2) ih
theorem lin_psh (rk : Nat) (u : MO) (r : List MV) {F : List MV → MH → MK → Option MO} (h : ∀ x r, Lin (F x r)) : Lin (fun k => psh rk u r fun x r => F x r k) := by
  unfold psh
  split
  · exact lin_bind _ fun _ => h _ _
  · exact lin_bind _ fun _ => h _ _
  · exact lin_bind _ fun _ => h _ _
theorem lin_few (r : List MV) {F : MK → Option MO} (h : Lin F) : Lin (fun k => few r (F k)) := lin_cond _ h (lin_c none)
theorem lin_c2 (c : Jvm.ClassFile.Cond) (x y : Int32) {F G : MK → Option MO} (hF : Lin F) (hG : Lin G) : Lin (fun k => c2 c x y (F k) (G k)) := by
  cases c
  · exact lin_ite _ hF hG
  · exact lin_ite _ hG hF
  · exact lin_ite _ hF hG
  · exact lin_ite _ hF hG
  · exact lin_ite _ hF hG
  · exact lin_ite _ hF hG
theorem lin_cR (r : Option Nat) {F G : MK → Option MO} (hF : Lin F) (hG : Lin G) : Lin (fun k => cR r (F k) (G k)) := by
  cases r
  · exact hF
  · exact hG
theorem lin_fgt (s : MH) (q : Nat × Nat × Nat) (a : Nat) {F : MV → MK → Option MO} (h : ∀ x, Lin (F x)) : Lin (fun k => fgt s q a fun x => F x k) := by
  unfold fgt
  split
  · exact lin_bind _ fun _ => h _
  · exact lin_bind _ fun _ => h _
  · exact lin_bind _ fun _ => h _
  · exact lin_bind _ fun _ => h _
theorem lin_fpt (s : MH) (q : Nat × Nat × Nat) (o : List MV) {F : List MV → MH → MK → Option MO} (h : ∀ x r, Lin (F x r)) : Lin (fun k => fpt s q o fun x r => F x r k) := by
  unfold fpt
  split
  · exact lin_pI _ fun _ _ => lin_pR _ fun _ _ => lin_bind _ fun _ => lin_bind _ fun _ => h _ _
  · exact lin_pI _ fun _ _ => lin_pR _ fun _ _ => lin_bind _ fun _ => lin_bind _ fun _ => h _ _
  · exact lin_pL _ fun _ _ => lin_pR _ fun _ _ => lin_bind _ fun _ => lin_bind _ fun _ => h _ _
  · exact lin_pR _ fun _ _ => lin_pR _ fun _ _ => lin_bind _ fun _ => lin_bind _ fun _ => h _ _
set_option maxHeartbeats 4000000 in
theorem lin_stI (T : MT) (q : EN) (lo : MLs) (o : List MV) (s : MH) : Lin (fun k => stI T k q lo o s) := by
  obtain ⟨i, nx, tg, cv, cl, sw⟩ := q
  cases i <;> dsimp only [stI] <;>
    repeat' (first
      | exact lin_c _
      | exact lin_k _ _ _ _
      | (refine lin_pI _ fun _ _ => ?_)
      | (refine lin_pL _ fun _ _ => ?_)
      | (refine lin_pR _ fun _ _ => ?_)
      | (refine lin_pC _ fun _ _ => ?_)
      | (refine lin_pN _ _ _ fun _ _ => ?_)
      | (refine lin_lI _ _ fun _ => ?_)
      | (refine lin_lL _ _ fun _ => ?_)
      | (refine lin_lR _ _ fun _ => ?_)
      | (refine lin_swt _ _ _ fun _ => ?_)
      | (refine lin_psh _ _ _ fun _ _ => ?_)
      | (refine lin_fgt _ _ _ fun _ => ?_)
      | (refine lin_fpt _ _ _ fun _ _ => ?_)
      | (refine lin_few _ ?_)
      | (refine lin_c2 _ _ _ ?_ ?_)
      | (refine lin_cR _ ?_ ?_)
      | (refine lin_bind _ fun _ => ?_)
      | (refine lin_ite _ ?_ ?_)
      | (refine lin_cond _ ?_ ?_))
theorem lin_stp (T : MT) (pc : Nat) (lo : MLs) (o : List MV) (s : MH) : (∃ q, ∀ k, stp T k pc lo o s = q) ∨ ∃ pc' lo' o' s', ∀ k : MK, stp T k pc lo o s = k pc' lo' o' s' := lin_bind _ fun q => lin_stI T q lo o s
theorem exec_succ {T : MT} : ∀ (n : Nat) {pc : Nat} {lo : MLs} {o : List MV} {s : MH} {r : MO}, exec T n pc lo o s = some r → exec T (n + 1) pc lo o s = some r := by
  intro n
  induction n with
  | zero => intro pc lo o s r h; cases h
  | succ n ih =>
    intro pc lo o s r h
    have e1 : exec T (n + 1) pc lo o s = stp T (fun pc lo o s => exec T n pc (cutAt T pc lo) o s) pc lo o s := rfl
    have e2 : exec T (n + 1 + 1) pc lo o s = stp T (fun pc lo o s => exec T (n + 1) pc (cutAt T pc lo) o s) pc lo o s := rfl
    rw [e1] at h
    rw [e2]
    rcases lin_stp T pc lo o s with ⟨q, hq⟩ | ⟨pc', lo', o', s', hq⟩
    · rw [hq] at h ⊢; exact h
    · rw [hq] at h ⊢; exact ih h
theorem exec_add {T : MT} {n : Nat} {pc : Nat} {lo : MLs} {o : List MV} {s : MH} {r : MO} (h : exec T n pc lo o s = some r) : ∀ k : Nat, exec T (n + k) pc lo o s = some r
  | 0 => h
  | k + 1 => exec_succ (n + k) (exec_add h k)
theorem exec_det {T : MT} {n m : Nat} {pc : Nat} {lo : MLs} {o : List MV} {s : MH} {r r' : MO} (h : exec T n pc lo o s = some r) (h' : exec T m pc lo o s = some r') : r = r' := by
  have h1 := exec_add h m
  have h2 := exec_add h' n
  rw [Nat.add_comm m n] at h2
  exact Option.some.inj (h1.symm.trans h2)
noncomputable def Ev (T : MT) : MK := fun pc lo o s => @dite (Option MO) (∃ (r : MO) (n : Nat), exec T n pc lo o s = some r) (Classical.propDecidable _) (fun h => some (Classical.choose h)) (fun _ => none)
theorem Ev_of {T : MT} {n : Nat} {pc : Nat} {lo : MLs} {o : List MV} {s : MH} {r : MO} (h : exec T n pc lo o s = some r) : Ev T pc lo o s = some r := by
  have hx : ∃ (r : MO) (n : Nat), exec T n pc lo o s = some r := ⟨r, n, h⟩
  unfold Ev
  rw [dif_pos hx]
  obtain ⟨m, hm⟩ := Classical.choose_spec hx
  exact congrArg some (exec_det hm h)
theorem Ev_ex {T : MT} {pc : Nat} {lo : MLs} {o : List MV} {s : MH} {r : MO} (h : Ev T pc lo o s = some r) : ∃ n, exec T n pc lo o s = some r := by
  by_cases hx : ∃ (r : MO) (n : Nat), exec T n pc lo o s = some r
  · obtain ⟨r', n, hr⟩ := hx
    have := Ev_of hr
    rw [h] at this
    exact ⟨n, by rw [hr, ← this]⟩
  · unfold Ev at h
    rw [dif_neg hx] at h
    cases h
theorem Ev_unf (T : MT) (pc : Nat) (lo : MLs) (o : List MV) (s : MH) : Ev T pc lo o s = stp T (fun pc lo o s => Ev T pc (cutAt T pc lo) o s) pc lo o s := by
  have key : ∀ r, Ev T pc lo o s = some r ↔ stp T (fun pc lo o s => Ev T pc (cutAt T pc lo) o s) pc lo o s = some r := by
    intro r
    constructor
    · intro h
      obtain ⟨n, hn⟩ := Ev_ex h
      cases n with
      | zero => cases hn
      | succ n =>
        have e1 : exec T (n + 1) pc lo o s = stp T (fun pc lo o s => exec T n pc (cutAt T pc lo) o s) pc lo o s := rfl
        rw [e1] at hn
        rcases lin_stp T pc lo o s with ⟨q, hq⟩ | ⟨pc', lo', o', s', hq⟩
        · rw [hq] at hn ⊢; exact hn
        · rw [hq] at hn ⊢; exact Ev_of hn
    · intro h
      rcases lin_stp T pc lo o s with ⟨q, hq⟩ | ⟨pc', lo', o', s', hq⟩
      · refine Ev_of (n := 1) ?_
        have e1 : exec T 1 pc lo o s = stp T (fun pc lo o s => exec T 0 pc (cutAt T pc lo) o s) pc lo o s := rfl
        rw [e1]
        rw [hq] at h ⊢; exact h
      · rw [hq] at h
        obtain ⟨n, hn⟩ := Ev_ex h
        refine Ev_of (n := n + 1) ?_
        have e1 : exec T (n + 1) pc lo o s = stp T (fun pc lo o s => exec T n pc (cutAt T pc lo) o s) pc lo o s := rfl
        rw [e1, hq]
        exact hn
  cases h : Ev T pc lo o s with
  | some r => exact ((key r).mp h).symm
  | none =>
    cases h2 : stp T (fun pc lo o s => Ev T pc (cutAt T pc lo) o s) pc lo o s with
    | none => rfl
    | some r => rw [(key r).mpr h2] at h; cases h
theorem Ev_seg (T : MT) : ∀ (n : Nat) (pc : Nat) (lo : MLs) (o : List MV) (s : MH), Ev T pc lo o s = segK T (Ev T) n pc lo o s := by
  intro n
  induction n with
  | zero => intro pc lo o s; rfl
  | succ n ih =>
    intro pc lo o s
    rw [Ev_unf]
    show stp T _ pc lo o s = stp T _ pc lo o s
    congr 1
    funext pc lo o s
    unfold cutAt
    cases lk pc T.2.1 with
    | none => exact ih pc lo o s
    | some m => rfl
/-- a method by its table: its arguments are the first locals, so many locals in all -/
noncomputable def runM (T : MT) (nL : Nat) : MF := fun as s => Ev T 0 (as.map some ++ List.replicate (nL - as.length) none) [] s
