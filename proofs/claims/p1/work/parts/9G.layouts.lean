/-! Layouts where all but one row stays. -/
def Gx (J J' : MJ) (a b : Nat) : Prop := ∀ x, a ≤ x → x < b → jR J' x = jR J x ∧ jS J' x = jS J x
theorem NodL.gx {J J' : MJ} {n : Nat} (h : NodL J n) (g : Gx J J' n (n + 6)) : NodL J' n := by
  unfold NodL
  rw [(g n (by omega) (by omega)).1, (g n (by omega) (by omega)).2, (g (n + 1) (by omega) (by omega)).2, (g (n + 2) (by omega) (by omega)).2, (g (n + 3) (by omega) (by omega)).2, (g (n + 4) (by omega) (by omega)).2, (g (n + 5) (by omega) (by omega)).2]
  exact h
theorem MemL.gx {J J' : MJ} {m n : Nat} (h : MemL J m n) (g : Gx J J' m (m + 12)) : MemL J' m n := by
  unfold MemL
  rw [(g m (by omega) (by omega)).1, (g m (by omega) (by omega)).2, (g (m + 1) (by omega) (by omega)).2, (g (m + 2) (by omega) (by omega)).2, (g (m + 3) (by omega) (by omega)).2, (g (m + 4) (by omega) (by omega)).2, (g (m + 5) (by omega) (by omega)).2, (g (m + 6) (by omega) (by omega)).2, (g (m + 7) (by omega) (by omega)).2, (g (m + 8) (by omega) (by omega)).2, (g (m + 9) (by omega) (by omega)).2, (g (m + 10) (by omega) (by omega)).2, (g (m + 11) (by omega) (by omega)).2]
  exact h
theorem RouL.gx {J J' : MJ} {r L : Nat} (h : RouL J r L) (g : Gx J J' r (r + 2)) : RouL J' r L := by
  unfold RouL
  rw [(g r (by omega) (by omega)).1, (g r (by omega) (by omega)).2, (g (r + 1) (by omega) (by omega)).2]
  exact h
theorem WksL.gx {J J' : MJ} {z w : Nat} (h : WksL J z w) (gz : jR J' z = jR J z ∧ jS J' z = jS J z) (g : Gx J J' w (w + 24)) : WksL J' z w := by
  unfold WksL at h ⊢
  rw [gz.1, gz.2]
  refine ⟨h.1, fun k hk => ?_⟩
  obtain ⟨a, b, c, d⟩ := h.2 k hk
  refine ⟨a, ?_, c.gx (fun x p q => g x (by omega) (by omega)), ?_⟩
  · unfold WalL
    rw [(g (w + 6 * k) (by omega) (by omega)).1, (g (w + 6 * k) (by omega) (by omega)).2]
    exact b
  · unfold BufL
    rw [(g (w + 6 * k + 3) (by omega) (by omega)).2, (g (w + 6 * k + 3 + 1) (by omega) (by omega)).2, (g (w + 6 * k + 3 + 2) (by omega) (by omega)).2]
    exact d
theorem KwL.gx {J J' : MJ} {a : Nat} (h : KwL J a) (g : Gx J J' a (a + 45)) : KwL J' a := by
  refine ⟨h.1.gx (fun x p q => g x (by omega) (by omega)), ?_, h.2.2.1.gx (fun x p q => g x (by omega) (by omega)), ?_, h.2.2.2.2.gx (g (a + 20) (by omega) (by omega)) (fun x p q => g x (by omega) (by omega))⟩
  · unfold WorL
    rw [(g (a + 6) (by omega) (by omega)).1, (g (a + 6) (by omega) (by omega)).2]
    exact h.2.1
  · unfold HanL
    rw [(g (a + 19) (by omega) (by omega)).2]
    exact h.2.2.2.1
theorem KL.gx {J J' : MJ} (h : KL J) (g : ∀ x, x < 188 → x ≠ 68 → jR J' x = jR J x ∧ jS J' x = jS J x) (g68 : jS J' 68 = jS J 68) : KL J' := by
  have gg : ∀ a b, b ≤ 188 → (68 < a ∨ b ≤ 68) → Gx J J' a b := fun a b p q x r s => g x (by omega) (by omega)
  refine ⟨?_, ⟨?_, ?_, h.draft.gx (gg _ _ (by decide) (by decide)), h.nodes.gx (gg _ _ (by decide) (by decide)), ?_, h.mem.gx (gg _ _ (by decide) (by decide)), ?_, h.wks.gx (g 30 (by decide) (by decide)) (gg _ _ (by decide) (by decide)), h.trial.gx (gg _ _ (by decide) (by decide)), ?_, ?_, ?_, h.long.gx (gg _ _ (by decide) (by decide))⟩, ?_, ?_, ?_⟩
  · rw [(g 0 (by decide) (by decide)).1, (g 0 (by decide) (by decide)).2]
    exact h.1
  · unfold TapL
    rw [(g 7 (by decide) (by decide)).1, (g 7 (by decide) (by decide)).2, (g (7 + 1) (by decide) (by decide)).2]
    exact h.tape
  · unfold RdrL
    rw [(g 9 (by decide) (by decide)).1, (g 9 (by decide) (by decide)).2]
    exact h.reader
  · unfold WorL
    rw [(g 16 (by decide) (by decide)).1, (g 16 (by decide) (by decide)).2]
    exact h.world
  · unfold HanL
    rw [(g 29 (by decide) (by decide)).2]
    exact h.han
  · unfold HisL
    rw [(g 67 (by decide) (by decide)).1, (g 67 (by decide) (by decide)).2, g68]
    exact h.his
  · have t := h.trc
    unfold TrcL at t ⊢
    obtain ⟨t1, t2, t3, t4, t5, t6, t7, t8, t9, t10, t11, t12, t13, t14, t15⟩ := t
    rw [(g 69 (by decide) (by decide)).1, (g 69 (by decide) (by decide)).2, (g (69 + 25) (by decide) (by decide)).1, (g (69 + 25) (by decide) (by decide)).2, (g (69 + 26) (by decide) (by decide)).1, (g (69 + 26) (by decide) (by decide)).2, (g (69 + 64) (by decide) (by decide)).2]
    refine ⟨t1, t2, t3, t4, t5, t6, t7, fun k hk => ⟨(t8 k hk).1, (t8 k hk).2.gx (gg _ _ (by omega) (by omega))⟩, t9, fun r hr => ⟨(t10 r hr).1, ?_⟩, t11, t12.gx (gg _ _ (by decide) (by decide)), t13.gx (gg _ _ (by decide) (by decide)), t14.gx (gg _ _ (by decide) (by decide)), t15⟩
    rw [(g (69 + 27 + r) (by omega) (by omega)).2]
    exact (t10 r hr).2
  · have t := h.tol
    unfold TolL at t ⊢
    rw [(g (158 + 4) (by decide) (by decide)).1, (g (158 + 4) (by decide) (by decide)).2]
    refine ⟨t.1, fun k hk => ⟨(t.2 k hk).1, (t.2 k hk).2.gx ?_⟩⟩
    refine gg _ _ ?_ ?_
    · unfold rr
      split <;> omega
    · unfold rr
      split <;> omega
  · rw [(g 185 (by decide) (by decide)).2]; exact h.wri
  · rw [(g 186 (by decide) (by decide)).2]; exact h.ref
  · rw [(g 187 (by decide) (by decide)).2]; exact h.out
theorem RefL.gx {J J' : MJ} (h : RefL J) (g : Gx J J' 188 208) : RefL J' := by
  unfold RefL
  rw [(g 188 (by decide) (by decide)).1, (g 188 (by decide) (by decide)).2, (g 189 (by decide) (by decide)).2, (g 190 (by decide) (by decide)).2, (g 191 (by decide) (by decide)).2, (g 192 (by decide) (by decide)).2, (g 193 (by decide) (by decide)).2, (g 194 (by decide) (by decide)).2, (g 195 (by decide) (by decide)).2, (g 196 (by decide) (by decide)).2, (g 197 (by decide) (by decide)).2, (g 198 (by decide) (by decide)).2, (g 199 (by decide) (by decide)).2, (g 200 (by decide) (by decide)).2, (g 201 (by decide) (by decide)).2, (g 202 (by decide) (by decide)).2, (g 203 (by decide) (by decide)).2, (g 204 (by decide) (by decide)).2, (g 205 (by decide) (by decide)).2, (g 206 (by decide) (by decide)).2, (g 207 (by decide) (by decide)).2]
  exact h
