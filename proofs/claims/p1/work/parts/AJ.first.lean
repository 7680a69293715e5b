/-! The first state. -/
theorem St.first {I : MI} {J : MJ} {B0 : Nat} (kl : KL J) (rl : RefL J) (hi : ∀ x, x < 188 → I x = ini x) (h188 : I 188 = fun y => if y = 7 ∨ y = 20 ∨ y = 21 ∨ y = 37 then -1 else 0) (hr : ∀ x, 189 ≤ x → x < 208 → I x = fun _ => 0) (j0 : J.1 0 15 = 1) (j1 : J.1 188 31 = 1) (ks : KSl J (fun _ => none)) (rm : Rm J (fun _ => none) B0) : St I J 0 B0 := by
  have k0 : ∀ k, k ≠ 7 → k ≠ 20 → k ≠ 21 → k ≠ 37 → I 188 k = 0 := fun k a b c d => by
    rw [h188]
    exact if_neg (by omega)
  have kn : ∀ x k, x < 188 → ini x k = I x k := fun x k hx => by rw [hi x hx]
  have z : ∀ x k, x < 188 → ini x k = 0 → I x k = 0 := fun x k hx e => by rw [← kn x k hx]; exact e
  have m : ∀ x k, x < 188 → ini x k = -1 → I x k = -1 := fun x k hx e => by rw [← kn x k hx]; exact e
  refine ⟨⟨kl, rl⟩, ⟨0, ⟨by omega, z 7 1 (by decide) rfl, fun k hk => by omega⟩, k0 1 (by decide) (by decide) (by decide) (by decide), fun k hk => by omega⟩, trivial, fun k hk => ?_, ⟨0, by omega, z 0 11 (by decide) rfl, k0 25 (by decide) (by decide) (by decide) (by decide), fun k hk => by omega⟩, ⟨?_, fun q => absurd ?_ q⟩, ⟨by rw [j0, j1], 1, by decide, by rw [j0]; rfl⟩, ⟨0, z 69 1 (by decide) rfl, by omega, k0 36 (by decide) (by decide) (by decide) (by decide), ?_, fun p hp => by omega⟩, ⟨?_, ?_⟩, Or.inr ⟨k0 11 (by decide) (by decide) (by decide) (by decide), ?_, ⟨z 1 5 (by decide) rfl, z 1 6 (by decide) rfl, fun e he => ?_, fun v hv => ⟨?_, ?_⟩, ⟨z 17 11 (by decide) rfl, z 17 12 (by decide) rfl, z 17 13 (by decide) rfl, z 17 14 (by decide) rfl⟩, fun k hk => ?_, fun k hk => ?_⟩, ⟨z 69 1 (by decide) rfl, m 69 2 (by decide) rfl⟩, fun _ => none, 0, ⟨z 67 1 (by decide) rfl, by decide, z 67 2 (by decide) rfl, by decide⟩, ⟨k0 28 (by decide) (by decide) (by decide) (by decide), k0 29 (by decide) (by decide) (by decide) (by decide)⟩, ks, rm, fun j hj => by omega⟩⟩
  · rw [z 186 k (by decide) rfl, hr 190 (by decide) (by decide)]
  · rw [z 0 14 (by decide) rfl, k0 32 (by decide) (by decide) (by decide) (by decide)]
  · rw [z 0 14 (by decide) rfl]; rfl
  · rw [m 69 2 (by decide) rfl, h188]; rfl
  · rw [h188]; rfl
  · rw [h188]; rfl
  · rw [k0 13 (by decide) (by decide) (by decide) (by decide)]; rfl
  · exact z 18 e (by decide) (by unfold ini iniM; simp)
  · exact m 26 v (by decide) (by unfold ini iniM; simp [hv])
  · exact m 27 v (by decide) (by unfold ini iniM; simp [hv])
  · exact m 29 k (by decide) (by unfold ini; simp [hk])
  · have : I (31 + 6 * k) 5 = 0 := z (31 + 6 * k) 5 (by omega) (by
      have : k = 0 ∨ k = 1 ∨ k = 2 ∨ k = 3 := by omega
      rcases this with e | e | e | e <;> subst e <;> rfl)
    rw [this]; rfl
theorem St.first' {I : MI} {J : MJ} (kl : KL J) (rl : RefL J) (hi : ∀ x, x < 188 → I x = ini x) (h188 : I 188 = fun y => if y = 7 ∨ y = 20 ∨ y = 21 ∨ y = 37 then -1 else 0) (hr : ∀ x, 189 ≤ x → x < 208 → I x = fun _ => 0) (j0 : J.1 0 15 = 1) (j1 : J.1 188 31 = 1) (hk : ∀ k, jR J 68 k = none) (hC : jC J = 208) : St I J 0 (jB J) := by
  refine St.first kl rl hi h188 hr j0 j1 ⟨fun s _ => Or.inl ⟨rfl, hk s⟩, fun s s' a a' _ _ _ q => by cases q⟩ ?_
  have c0 : cnt (fun s => ((fun _ => none : Nat → Option Nat) s).isSome) 0 20 = 0 := cnt_zero (fun _ _ _ => rfl)
  unfold Rm
  rw [c0, Nat.mul_zero, Nat.add_zero]
  exact ⟨hC, (Nat.add_zero _).symm⟩
