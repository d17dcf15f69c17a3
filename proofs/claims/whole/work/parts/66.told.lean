/-! the calls that tell: type, clear, found, saw, forget -/
section
variable {a b K N P X L m : Nat} {σ σ1 : Nat → Nat → Int32} {τ : Nat → Nat → Int64} {t k u w n x c : Int32}
theorem st_type (h : tk_Inv a b σ τ) : tk_Two M_X6_type M_X7_type [.int c] (σ, tk_rho a b, τ, 62) := by
  obtain ⟨K, N, P, X, L, m, m', h0, h1, h2, h3, h4, h5, h6, h7⟩ := id h
  have hN := h1.2.2.1
  obtain ⟨l1, l2, l3, l4, l5⟩ := id h5
  refine tk_ctP (k_cType l1 l2) (fun v μ1 q => ?_)
  obtain ⟨rfl, rfl⟩ := q
  by_cases hc : 0 ≤ c ∧ c ≤ 255
  · by_cases hL : L = 150
    · simp only [if_pos hc, if_pos hL]
      refine ⟨_, σ, _, τ, rfl, rfl, tk_ctP (k_mType h0.2.2.1 l1 l3) (fun v' μ2 q => ?_)⟩
      obtain ⟨rfl, rfl⟩ := q
      simp only [if_pos hc, if_pos hL]
      exact ⟨trivial, a, b, σ, τ, rfl, h⟩
    · simp only [if_pos hc, if_neg hL]
      refine ⟨_, _, _, τ, rfl, rfl, tk_ctP (k_mType (by rw [tk_upn (by omega), tk_upn (by omega)]; exact h0.2.2.1) l1 (by rw [tk_upn (by omega), tk_upn (by omega)]; exact l3)) (fun v' μ2 q => ?_)⟩
      obtain ⟨rfl, rfl⟩ := q
      simp only [if_pos hc, if_neg hL]
      have fr : ∀ x y, x ≠ 3 → ¬ (x = 2 ∧ y = 1) → x ≠ 48 → ¬ (x = 47 ∧ y = 3) → tk_up (tk_up (tk_up (tk_up σ 3 L c) 2 1 (nI (L + 1))) 48 L c) 47 3 (nI (L + 1)) x y = σ x y := fun x y q1 q2 q3 q4 => by
        rw [tk_upn (by omega), tk_upn (by omega), tk_upn (by omega), tk_upn (by omega)]
      refine ⟨trivial, a, b, _, τ, rfl, K, N, P, X, L + 1, m, m', h0.c (fr _ _ (by omega) (by omega) (by omega) (by omega)), h1.c (fun x y q => fr _ _ (by omega) (by omega) (by omega) (by omega)), tk_I2.c hN h2 (fun x y q => fr _ _ (by omega) (by omega) (by omega) (by omega)), h3.c hN (fun x y q => fr _ _ (by omega) (by omega) (by omega) (by omega)), h4.c hN (fun x y q => fr _ _ (by omega) (by omega) (by omega) (by omega)), ⟨by omega, ?_, ?_, fun i => ?_, fun i hi => ?_⟩, h6.c (fun x y q => fr _ _ (by omega) (by omega) (by omega) (by omega)), h7.c (fun x y q => fr _ _ (by omega) (by omega) (by omega) (by omega))⟩
      · rw [tk_upn (by omega), tk_upn (by omega), tk_up_at]
      · rw [tk_up_at]
      · by_cases e : i = L
        · subst e
          simp [tk_up]
        · have := l4 i
          simp [tk_up, e, this]
      · by_cases e : i = L
        · subst e
          rw [tk_upn (by omega), tk_up_at]
          exact hc
        · rw [tk_upn (by omega), tk_upn (by omega), tk_upn (by omega), tk_upn (by omega)]
          exact l5 i (by omega)
  · simp only [if_neg hc]
    refine ⟨_, σ, _, τ, rfl, rfl, tk_ctP (k_mType h0.2.2.1 l1 l3) (fun v' μ2 q => ?_)⟩
    obtain ⟨rfl, rfl⟩ := q
    simp only [if_neg hc]
    exact ⟨trivial, a, b, σ, τ, rfl, h⟩
theorem st_clear (h : tk_Inv a b σ τ) : tk_Two M_X6_clear M_X7_clear [] (σ, tk_rho a b, τ, 62) := by
  obtain ⟨K, N, P, X, L, m, m', h0, h1, h2, h3, h4, h5, h6, h7⟩ := id h
  have hN := h1.2.2.1
  obtain ⟨l1, l2, l3, l4, l5⟩ := id h5
  refine tk_ctP k_cClear (fun v μ1 q => ?_)
  obtain ⟨rfl, rfl⟩ := q
  refine ⟨_, _, _, τ, rfl, rfl, tk_ctP (k_mClear (by rw [tk_upn (by omega)]; exact h0.2.2.1)) (fun v' μ2 q => ?_)⟩
  obtain ⟨rfl, rfl⟩ := q
  have fr : ∀ x y, ¬ (x = 2 ∧ y = 1) → ¬ (x = 47 ∧ y = 3) → tk_up (tk_up σ 2 1 0) 47 3 0 x y = σ x y := fun x y q1 q2 => by
    rw [tk_upn q2, tk_upn q1]
  refine ⟨?_, a, b, _, τ, rfl, K, N, P, X, 0, m, m', h0.c (fr _ _ (by omega) (by omega)), h1.c (fun x y q => fr _ _ (by omega) (by omega)), tk_I2.c hN h2 (fun x y q => fr _ _ (by omega) (by omega)), h3.c hN (fun x y q => fr _ _ (by omega) (by omega)), h4.c hN (fun x y q => fr _ _ (by omega) (by omega)), ⟨by omega, ?_, ?_, fun i => ?_, fun i hi => absurd hi (Nat.not_lt_zero i)⟩, h6.c (fun x y q => fr _ _ (by omega) (by omega)), h7.c (fun x y q => fr _ _ (by omega) (by omega))⟩
  · rw [tk_upn (by omega), l2, l3]
  · rw [tk_upn (by omega), tk_up_at]; rfl
  · rw [tk_up_at]; rfl
  · rw [fr _ _ (by omega) (by omega), fr _ _ (by omega) (by omega)]
    exact l4 i
theorem st_found (h : tk_Inv a b σ τ) : tk_Two M_X6_found M_X7_found [.int k, .int t] (σ, tk_rho a b, τ, 62) := by
  obtain ⟨K, N, P, X, L, m, m', h0, h1, h2, h3, h4, h5, h6, h7⟩ := id h
  obtain ⟨ha, hK, hN, hE, hF, ag, e3, e4⟩ := id h1
  obtain ⟨l1, l2, l3, l4⟩ := id h6
  refine tk_ctP (k_cFound ha l1 l2) (fun v μ1 q => ?_)
  obtain ⟨rfl, rfl⟩ := q
  by_cases hc : (0 ≤ k ∧ k < σ a 3) ∧ (0 ≤ t ∧ t ≤ 99)
  · by_cases hL : m = 6
    · simp only [if_pos hc, if_pos hL]
      refine ⟨_, σ, _, τ, rfl, rfl, tk_ctP (k_mFound h0.2.2.1 hF l1 l3) (fun v' μ2 q => ?_)⟩
      obtain ⟨rfl, rfl⟩ := q
      rw [h1.e0]
      simp only [if_pos hc, if_pos hL]
      exact ⟨trivial, a, b, σ, τ, rfl, h⟩
    · simp only [if_pos hc, if_neg hL]
      have fc : ∀ x y, x ≠ 40 → x ≠ 41 → ¬ (x = 39 ∧ y = 2) → tk_up (tk_up (tk_up σ 40 m k) 41 m t) 39 2 (nI (m + 1)) x y = σ x y := fun x y q1 q2 q3 => by
        rw [tk_upn (by omega), tk_upn (by omega), tk_upn (by omega)]
      have eF := tk_F.c (σ := σ) (σ' := tk_up (tk_up (tk_up σ 40 m k) 41 m t) 39 2 (nI (m + 1))) (fun x y q => fc x y (by omega) (by omega) (by omega))
      refine ⟨_, _, _, τ, rfl, rfl, tk_ctP (k_mFound ((fc _ _ (by omega) (by omega) (by omega)).trans h0.2.2.1) (by rw [eF]; exact hF) l1 ((fc _ _ (by omega) (by omega) (by omega)).trans l3)) (fun v' μ2 q => ?_)⟩
      obtain ⟨rfl, rfl⟩ := q
      rw [fc 49 0 (by omega) (by omega) (by omega), h1.e0]
      simp only [if_pos hc, if_neg hL]
      have fr : ∀ x y, x ≠ 40 → x ≠ 41 → ¬ (x = 39 ∧ y = 2) → x ≠ 59 → x ≠ 60 → ¬ (x = 47 ∧ y = 23) → tk_up (tk_up (tk_up (tk_up (tk_up (tk_up σ 40 m k) 41 m t) 39 2 (nI (m + 1))) 59 m k) 60 m t) 47 23 (nI (m + 1)) x y = σ x y := fun x y q1 q2 q3 q4 q5 q6 => by
        rw [tk_upn (by omega), tk_upn (by omega), tk_upn (by omega), fc x y q1 q2 q3]
      refine ⟨trivial, a, b, _, τ, rfl, K, N, P, X, L, m + 1, m', h0.c (fr _ _ (by omega) (by omega) (by omega) (by omega) (by omega) (by omega)), h1.c (fun x y q => fr _ _ (by omega) (by omega) (by omega) (by omega) (by omega) (by omega)), tk_I2.c hN h2 (fun x y q => fr _ _ (by omega) (by omega) (by omega) (by omega) (by omega) (by omega)), h3.c hN (fun x y q => fr _ _ (by omega) (by omega) (by omega) (by omega) (by omega) (by omega)), h4.c hN (fun x y q => fr _ _ (by omega) (by omega) (by omega) (by omega) (by omega) (by omega)), h5.c (fun x y q => fr _ _ (by omega) (by omega) (by omega) (by omega) (by omega) (by omega)), ⟨by omega, ?_, ?_, fun i hi => ?_⟩, h7.c (fun x y q => fr _ _ (by omega) (by omega) (by omega) (by omega) (by omega) (by omega))⟩
      · rw [tk_upn (by omega), tk_upn (by omega), tk_upn (by omega), tk_up_at]
      · rw [tk_up_at]
      · by_cases e : i = m
        · subst e
          obtain ⟨f, hf, ef⟩ := nI_of2 (M := 99) (n := 99) rfl (Int32.not_lt.mpr hc.2.1) hc.2.2
          refine ⟨?_, ?_, f, hf, ?_⟩ <;> simp [tk_up, ef]
        · have := l4 i (by omega)
          simpa [tk_up, e] using this
  · simp only [if_neg hc]
    refine ⟨_, σ, _, τ, rfl, rfl, tk_ctP (k_mFound h0.2.2.1 hF l1 l3) (fun v' μ2 q => ?_)⟩
    obtain ⟨rfl, rfl⟩ := q
    rw [h1.e0]
    simp only [if_neg hc]
    exact ⟨trivial, a, b, σ, τ, rfl, h⟩
theorem st_saw (h : tk_Inv a b σ τ) : tk_Two M_X6_saw M_X7_saw [.int t, .int k] (σ, tk_rho a b, τ, 62) := by
  obtain ⟨K, N, P, X, L, m', m, h0, h1, h2, h3, h4, h5, h6, h7⟩ := id h
  obtain ⟨ha, hK, hN, hE, hF, ag, e3, e4⟩ := id h1
  obtain ⟨l1, l2, l3, l4⟩ := id h7
  refine tk_ctP (k_cSaw l1 l2) (fun v μ1 q => ?_)
  obtain ⟨rfl, rfl⟩ := q
  by_cases hc : (0 ≤ t ∧ t ≤ 99) ∧ (0 ≤ k ∧ k ≤ 19)
  · by_cases hL : m = 6
    · simp only [if_pos hc, if_pos hL]
      refine ⟨_, σ, _, τ, rfl, rfl, tk_ctP (k_mSaw h0.2.2.1 l1 l3) (fun v' μ2 q => ?_)⟩
      obtain ⟨rfl, rfl⟩ := q
      simp only [if_pos hc, if_pos hL]
      exact ⟨trivial, a, b, σ, τ, rfl, h⟩
    · simp only [if_pos hc, if_neg hL]
      have fc : ∀ x y, x ≠ 43 → x ≠ 44 → ¬ (x = 42 ∧ y = 2) → tk_up (tk_up (tk_up σ 43 m t) 44 m k) 42 2 (nI (m + 1)) x y = σ x y := fun x y q1 q2 q3 => by
        rw [tk_upn (by omega), tk_upn (by omega), tk_upn (by omega)]
      refine ⟨_, _, _, τ, rfl, rfl, tk_ctP (k_mSaw ((fc _ _ (by omega) (by omega) (by omega)).trans h0.2.2.1) l1 ((fc _ _ (by omega) (by omega) (by omega)).trans l3)) (fun v' μ2 q => ?_)⟩
      obtain ⟨rfl, rfl⟩ := q
      simp only [if_pos hc, if_neg hL]
      have fr : ∀ x y, x ≠ 43 → x ≠ 44 → ¬ (x = 42 ∧ y = 2) → x ≠ 61 → x ≠ 62 → ¬ (x = 47 ∧ y = 26) → tk_up (tk_up (tk_up (tk_up (tk_up (tk_up σ 43 m t) 44 m k) 42 2 (nI (m + 1))) 61 m t) 62 m k) 47 26 (nI (m + 1)) x y = σ x y := fun x y q1 q2 q3 q4 q5 q6 => by
        rw [tk_upn (by omega), tk_upn (by omega), tk_upn (by omega), fc x y q1 q2 q3]
      refine ⟨trivial, a, b, _, τ, rfl, K, N, P, X, L, m', m + 1, h0.c (fr _ _ (by omega) (by omega) (by omega) (by omega) (by omega) (by omega)), h1.c (fun x y q => fr _ _ (by omega) (by omega) (by omega) (by omega) (by omega) (by omega)), tk_I2.c hN h2 (fun x y q => fr _ _ (by omega) (by omega) (by omega) (by omega) (by omega) (by omega)), h3.c hN (fun x y q => fr _ _ (by omega) (by omega) (by omega) (by omega) (by omega) (by omega)), h4.c hN (fun x y q => fr _ _ (by omega) (by omega) (by omega) (by omega) (by omega) (by omega)), h5.c (fun x y q => fr _ _ (by omega) (by omega) (by omega) (by omega) (by omega) (by omega)), h6.c (fun x y q => fr _ _ (by omega) (by omega) (by omega) (by omega) (by omega) (by omega)), ⟨by omega, ?_, ?_, fun i hi => ?_⟩⟩
      · rw [tk_upn (by omega), tk_upn (by omega), tk_upn (by omega), tk_up_at]
      · rw [tk_up_at]
      · by_cases e : i = m
        · subst e
          refine ⟨?_, ?_⟩ <;> simp [tk_up]
        · have := l4 i (by omega)
          simpa [tk_up, e] using this
  · simp only [if_neg hc]
    refine ⟨_, σ, _, τ, rfl, rfl, tk_ctP (k_mSaw h0.2.2.1 l1 l3) (fun v' μ2 q => ?_)⟩
    obtain ⟨rfl, rfl⟩ := q
    simp only [if_neg hc]
    exact ⟨trivial, a, b, σ, τ, rfl, h⟩
theorem st_forget (h : tk_Inv a b σ τ) : tk_Two M_X6_forget M_X7_forget [] (σ, tk_rho a b, τ, 62) := by
  obtain ⟨K, N, P, X, L, m, m', h0, h1, h2, h3, h4, h5, h6, h7⟩ := id h
  have hN := h1.2.2.1
  refine tk_ctP k_cForget (fun v μ1 q => ?_)
  obtain ⟨rfl, rfl⟩ := q
  refine ⟨_, _, _, τ, rfl, rfl, tk_ctP (k_mForget (by rw [tk_upn (by omega), tk_upn (by omega)]; exact h0.2.2.1)) (fun v' μ2 q => ?_)⟩
  obtain ⟨rfl, rfl⟩ := q
  have fr : ∀ x y, ¬ (x = 39 ∧ y = 2) → ¬ (x = 42 ∧ y = 2) → ¬ (x = 47 ∧ (y = 23 ∨ y = 26)) → tk_up (tk_up (tk_up (tk_up σ 39 2 0) 42 2 0) 47 23 0) 47 26 0 x y = σ x y := fun x y q1 q2 q3 => by
    rw [tk_upn (by omega), tk_upn (by omega), tk_upn (by omega), tk_upn (by omega)]
  refine ⟨?_, a, b, _, τ, rfl, K, N, P, X, L, 0, 0, h0.c (fr _ _ (by omega) (by omega) (by omega)), h1.c (fun x y q => fr _ _ (by omega) (by omega) (by omega)), tk_I2.c hN h2 (fun x y q => fr _ _ (by omega) (by omega) (by omega)), h3.c hN (fun x y q => fr _ _ (by omega) (by omega) (by omega)), h4.c hN (fun x y q => fr _ _ (by omega) (by omega) (by omega)), h5.c (fun x y q => fr _ _ (by omega) (by omega) (by omega)), ⟨by omega, ?_, ?_, fun i hi => absurd hi (Nat.not_lt_zero i)⟩, ⟨by omega, ?_, ?_, fun i hi => absurd hi (Nat.not_lt_zero i)⟩⟩
  · rw [tk_upn (by omega), tk_upn (by omega), tk_upn (by omega), tk_upn (by omega), h6.2.1, h6.2.2.1, h7.2.1, h7.2.2.1]
  · simp [tk_up]; rfl
  · simp [tk_up]; rfl
  · simp [tk_up]; rfl
  · simp [tk_up]; rfl
end
