/-! towns, of the class -/
theorem tk_rhoS {a b : Nat} : tk_up (tk_up (tk_rho a b) 1 1 (some b)) 1 2 (some a) = tk_rho b a := by
  funext p k
  unfold tk_up
  by_cases h2 : p = 1 ∧ k = 2
  · rw [if_pos h2, h2.1, h2.2]
    rfl
  · rw [if_neg h2]
    by_cases h1 : p = 1 ∧ k = 1
    · rw [if_pos h1, h1.1, h1.2]
      rfl
    · rw [if_neg h1]
      by_cases hp : p = 1
      · subst hp
        match k, h1, h2 with
        | 0, _, _ => rfl
        | 1, h, _ => exact absurd ⟨rfl, rfl⟩ h
        | 2, _, h => exact absurd ⟨rfl, rfl⟩ h
        | k + 3, _, _ => rfl
      · match p, hp with
        | 0, _ => rfl
        | 1, h => exact absurd rfl h
        | p + 2, _ => rfl
