/-! how the class begins -/
section
variable {σ : Nat → Nat → Int32} {a b B : Nat} {τ : Nat → Nat → Int64}
theorem k_begin {N : Nat} (hB : tk_tw B) (hN : N ≤ 5) (e : σ B 4 = nI N) :
    tk_Ct M_X1_begin [.ref 16, .ref B] (σ, tk_rho a b, τ, 62) (fun v μ' => v = none ∧ ∃ σ', μ' = (σ', tk_rho a b, τ, 62) ∧ σ' 16 0 = 0 ∧ σ' 16 1 = 0 ∧ (∀ t, t < N → σ' (18 + t) 0 = σ (B + 5) t ∧ σ' (18 + t) 1 = 0 ∧ σ' (18 + t) 2 = 0) ∧ ∀ x y, x ≠ 16 → ¬ (18 ≤ x ∧ x < 18 + N) → σ' x y = σ x y) := by
  have hBx : ∀ i, i ≤ 5 → B + i ≠ 16 ∧ ¬ (18 ≤ B + i) := fun i hi => by rcases hB with rfl | rfl <;> omega
  have loop : ∀ (l : Launch) (D : va_G) (cy : Nat → ClassId) (n j : Nat) (i : Int32) (σi : Nat → Nat → Int32), i = nI j → j + n = N → σi 16 0 = 0 → σi 16 1 = 0 → (∀ t, t < j → σi (18 + t) 0 = σ (B + 5) t ∧ σi (18 + t) 1 = 0 ∧ σi (18 + t) 2 = 0) → (∀ x y, x ≠ 16 → ¬ (18 ≤ x ∧ x < 18 + N) → σi x y = σ x y) →
      tk_J l D cy none M_X1_begin (12, [some (.ref 16), some (.ref B), some (.int i)], [], (σi, tk_rho a b, τ, 62), 0, 0) (fun v μ' => v = none ∧ ∃ σ', μ' = (σ', tk_rho a b, τ, 62) ∧ σ' 16 0 = 0 ∧ σ' 16 1 = 0 ∧ (∀ t, t < N → σ' (18 + t) 0 = σ (B + 5) t ∧ σ' (18 + t) 1 = 0 ∧ σ' (18 + t) 2 = 0) ∧ ∀ x y, x ≠ 16 → ¬ (18 ≤ x ∧ x < 18 + N) → σ' x y = σ x y) := by
    intro l D cy n
    induction n with
    | zero =>
      intro j i σi hi hj q0 q1 q2 q3
      subst hi
      obtain rfl : j = N := by omega
      have e4 : σi B 4 = nI j := (q3 _ _ (hBx 0 (by omega)).1 (fun h => (hBx 0 (by omega)).2 h.1)).trans e
      refine tk_run (hT_X1_begin none) [12] 60 _ ?_
      refine tk_ift (tk_twok hB) ?_
      refine And.intro (fun h1 => ?_) (fun h1 => ?_)
      all_goals try dsimp only [tk_c0, tk_c1, tk_c2, tk_c3, tk_c4, tk_c5, tk_c6, tk_c7, tk_c8, tk_c9, tk_c10, tk_c11, tk_c12, tk_c13] at h1
      · exact And.intro rfl ⟨σi, rfl, q0, q1, q2, q3⟩
      · exact absurd (by rw [e4]; exact Int32.le_refl _) h1
    | succ n ih =>
      intro j i σi hi hj q0 q1 q2 q3
      subst hi
      have e4 : σi B 4 = nI N := (q3 _ _ (hBx 0 (by omega)).1 (fun h => (hBx 0 (by omega)).2 h.1)).trans e
      have e5 : σi (B + 5) j = σ (B + 5) j := q3 _ _ (hBx 5 (by omega)).1 (fun h => (hBx 5 (by omega)).2 h.1)
      have fin : ∀ σn : Nat → Nat → Int32, σn = tk_up (tk_up (tk_up σi (18 + j) 0 (σ (B + 5) j)) (18 + j) 1 0) (18 + j) 2 0 → tk_J l D cy none M_X1_begin (12, [some (.ref 16), some (.ref B), some (.int (nI j + 1))], [], (σn, tk_rho a b, τ, 62), 0, 0) (fun v μ' => v = none ∧ ∃ σ', μ' = (σ', tk_rho a b, τ, 62) ∧ σ' 16 0 = 0 ∧ σ' 16 1 = 0 ∧ (∀ t, t < N → σ' (18 + t) 0 = σ (B + 5) t ∧ σ' (18 + t) 1 = 0 ∧ σ' (18 + t) 2 = 0) ∧ ∀ x y, x ≠ 16 → ¬ (18 ≤ x ∧ x < 18 + N) → σ' x y = σ x y) := by
        intro σn hσ
        subst hσ
        refine ih (j + 1) _ _ (nI_1 j) (by omega) ?_ ?_ (fun t ht => ?_) (fun x y hx hx2 => ?_)
        · rw [tk_up_p _ _ _ (by omega), tk_up_p _ _ _ (by omega), tk_up_p _ _ _ (by omega)]
          exact q0
        · rw [tk_up_p _ _ _ (by omega), tk_up_p _ _ _ (by omega), tk_up_p _ _ _ (by omega)]
          exact q1
        · by_cases h : t = j
          · subst h
            simp [tk_up]
          · have := q2 t (by omega)
            simp [tk_up, h, this]
        · rw [tk_up_p _ _ _ (by omega), tk_up_p _ _ _ (by omega), tk_up_p _ _ _ (by omega)]
          exact q3 x y hx hx2
      rcases hB with rfl | rfl
      · refine tk_run (hT_X1_begin none) [12] 60 _ ?_
        refine And.intro (fun h1 => ?_) (fun h1 => ?_)
        all_goals try dsimp only [tk_c0, tk_c1, tk_c2, tk_c3, tk_c4, tk_c5, tk_c6, tk_c7, tk_c8, tk_c9, tk_c10, tk_c11, tk_c12, tk_c13] at h1
        · exact absurd h1 (by rw [e4]; exact nI_ge (by omega) (by omega))
        · refine tk_ift (tk_in_nI (n := 5) (by omega) (by decide)) ?_
          refine tk_osi (by rw [nI_clamp (by omega)]; exact tk_th (by omega)) ?_
          refine tk_ift (tk_in_nI (n := 5) (by omega) (by decide)) ?_
          refine tk_ift (tk_thok (by omega)) ?_
          refine tk_cc (k_lieOn (tk_thok (by omega))) (fun v9 μ9 h9 => ?_)
          obtain ⟨rfl, rfl⟩ := h9
          refine fin _ ?_
          rw [nI_clamp (by omega), e5]
      · refine tk_run (hT_X1_begin none) [12] 60 _ ?_
        refine And.intro (fun h1 => ?_) (fun h1 => ?_)
        all_goals try dsimp only [tk_c0, tk_c1, tk_c2, tk_c3, tk_c4, tk_c5, tk_c6, tk_c7, tk_c8, tk_c9, tk_c10, tk_c11, tk_c12, tk_c13] at h1
        · exact absurd h1 (by rw [e4]; exact nI_ge (by omega) (by omega))
        · refine tk_ift (tk_in_nI (n := 5) (by omega) (by decide)) ?_
          refine tk_osi (by rw [nI_clamp (by omega)]; exact tk_th (by omega)) ?_
          refine tk_ift (tk_in_nI (n := 5) (by omega) (by decide)) ?_
          refine tk_ift (tk_thok (by omega)) ?_
          refine tk_cc (k_lieOn (tk_thok (by omega))) (fun v9 μ9 h9 => ?_)
          obtain ⟨rfl, rfl⟩ := h9
          refine fin _ ?_
          rw [nI_clamp (by omega), e5]
  refine tk_ct rfl rfl (Nat.le_of_ble_eq_true rfl) (fun l D cy => tk_run (hT_X1_begin none) [12] 60 _ ?_)
  exact loop l D cy N 0 _ _ rfl (by omega) ((tk_up_k _ _ _ (by decide)).trans (tk_up_at _ _ _ _)) (tk_up_at _ _ _ _) (fun t ht => absurd ht (Nat.not_lt_zero t)) (fun x y hx _ => by rw [tk_up_p _ _ _ hx, tk_up_p _ _ _ hx])
end
