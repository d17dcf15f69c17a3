/-! towns, of the class, itself -/
section
variable {σ : Nat → Nat → Int32} {a b : Nat} {τ : Nat → Nat → Int64} {L : Nat}
/-- behind towns that were taken -/
def tk_TC (σ σ' : Nat → Nat → Int32) (b : Nat) (G : Nat → Nat → Int32) : Prop :=
  σ' 2 1 = 0 ∧ tk_CG σ' b G ∧ σ' 16 0 = 0 ∧ σ' 16 1 = 0 ∧ (∀ t, t < (G 3 4).toNatClampNeg → σ' (18 + t) 0 = G 5 t ∧ σ' (18 + t) 1 = 0 ∧ σ' (18 + t) 2 = 0) ∧ σ' 23 1 = 0 ∧ σ' 39 2 = 0 ∧ σ' 42 2 = 0 ∧ σ' 38 0 = 0 ∧ σ' 38 1 = 0 ∧
  (∀ x y, 18 + (G 3 4).toNatClampNeg ≤ x → x ≤ 22 → σ' x y = σ x y) ∧ ∀ x y, x ≠ 2 → ¬ (b ≤ x ∧ x ≤ b + 5) → x ≠ 16 → ¬ (18 ≤ x ∧ x ≤ 22) → ¬ (x = 23 ∧ y = 1) → ¬ (x = 39 ∧ y = 2) → ¬ (x = 42 ∧ y = 2) → x ≠ 38 → σ' x y = σ x y
theorem k_cTowns (ha : tk_tw a) (hb : tk_tw b) (hX : tk_TX (σ 3) L) (hL : L ≤ 150) (e1 : σ 2 1 = nI L) :
    tk_Ct M_X6_towns [.ref 1] (σ, tk_rho a b, τ, 62) (fun v μ' => (∃ q σ', tk_main (σ 3) L (L + 1) tk_G0 0 0 = Sum.inl q ∧ v = some (.int (-10 - nI q)) ∧ μ' = (σ', tk_rho a b, τ, 62) ∧ tk_fF b σ σ') ∨ ∃ x σ', tk_main (σ 3) L (L + 1) tk_G0 0 0 = Sum.inr x ∧ v = some (.int (nI x.2)) ∧ μ' = (σ', tk_rho b a, τ, 62) ∧ tk_TC σ σ' b x.1) := by
  have hbi : ∀ i, i ≤ 5 → 4 ≤ b + i ∧ b + i ≤ 15 := fun i hi => by rcases hb with rfl | rfl <;> omega
  have hb0 := hbi 0 (by omega)
  have hb5 := hbi 5 (by omega)
  have cont : ∀ (l : Launch) (D : va_G) (cy : Nat → ClassId) (x : (Nat → Nat → Int32) × Nat) (σ1 : Nat → Nat → Int32) (ρ : Nat → Nat → Option Nat), ρ = tk_rho b a → tk_main (σ 3) L (L + 1) tk_G0 0 0 = Sum.inr x → tk_CG σ1 b x.1 → tk_fF b σ σ1 →
      tk_J l D cy none M_X6_towns (36, [some (.ref 1), some (.int (nI x.2)), some (.ref a), none], [], (σ1, ρ, τ, 62), 0, 0) (fun v μ' => (∃ q σ', tk_main (σ 3) L (L + 1) tk_G0 0 0 = Sum.inl q ∧ v = some (.int (-10 - nI q)) ∧ μ' = (σ', tk_rho a b, τ, 62) ∧ tk_fF b σ σ') ∨ ∃ x σ', tk_main (σ 3) L (L + 1) tk_G0 0 0 = Sum.inr x ∧ v = some (.int (nI x.2)) ∧ μ' = (σ', tk_rho b a, τ, 62) ∧ tk_TC σ σ' b x.1) := by
    intro l D cy x σ1 ρ hρ hm hG hF
    subst hρ
    obtain ⟨K, N, hK, hN, eK, eN, _⟩ := (tk_main_r (L + 1) tk_G0 0 0 x (by omega) (by omega) tk_G0V hm).1
    have hcl : (x.1 3 4).toNatClampNeg = N := by rw [eN, nI_clamp (by omega)]
    have eB : tk_up σ1 2 1 0 b 4 = nI N := by
      rw [tk_up_p _ _ _ (by omega), hG.1 4 (by decide), eN]
    have en : vp_nar .boolean 0 = 0 := by decide
    refine tk_run (hT_X6_towns none) [80] 80 _ ?_
    refine tk_cc (k_tEmpty) (fun v9 μ9 h9 => ?_)
    obtain ⟨rfl, rfl⟩ := h9
    refine tk_cc (k_begin hb hN eB) (fun v9 μ9 h9 => ?_)
    obtain ⟨rfl, σ2, rfl, r0, r1, r2, r3⟩ := h9
    refine tk_cc (k_pLose) (fun v9 μ9 h9 => ?_)
    obtain ⟨rfl, rfl⟩ := h9
    refine tk_cc (k_nLose (Or.inl rfl)) (fun v9 μ9 h9 => ?_)
    obtain ⟨rfl, rfl⟩ := h9
    refine tk_cc (k_nLose (Or.inr rfl)) (fun v9 μ9 h9 => ?_)
    obtain ⟨rfl, rfl⟩ := h9
    have last : ∀ (i : Int32) (σ3 : Nat → Nat → Int32), i = 2 → tk_TC σ σ3 b x.1 → tk_J l D cy none M_X6_towns (80, [some (.ref 1), some (.int (nI x.2)), some (.ref a), some (.int i)], [], (σ3, tk_rho b a, τ, 62), 0, 0) (fun v μ' => (∃ q σ', tk_main (σ 3) L (L + 1) tk_G0 0 0 = Sum.inl q ∧ v = some (.int (-10 - nI q)) ∧ μ' = (σ', tk_rho a b, τ, 62) ∧ tk_fF b σ σ') ∨ ∃ x σ', tk_main (σ 3) L (L + 1) tk_G0 0 0 = Sum.inr x ∧ v = some (.int (nI x.2)) ∧ μ' = (σ', tk_rho b a, τ, 62) ∧ tk_TC σ σ' b x.1) := by
      intro i σ3 hi hTC
      subst hi
      refine tk_run (hT_X6_towns none) [80] 80 _ ?_
      refine And.intro (fun h => ?_) (fun h => ?_)
      all_goals try dsimp only [tk_c0, tk_c1, tk_c2, tk_c3, tk_c4, tk_c5, tk_c6, tk_c7, tk_c8, tk_c9, tk_c10, tk_c11, tk_c12, tk_c13] at h
      · exact Or.inr ⟨x, σ3, hm, rfl, rfl, hTC⟩
      · exact absurd (Int32.le_refl _) h
    have step : ∀ (j : Nat) (i : Int32) (σ3 : Nat → Nat → Int32), j < 2 → i = nI j → tk_J l D cy none M_X6_towns (80, [some (.ref 1), some (.int (nI x.2)), some (.ref a), some (.int (i + 1))], [], (tk_up σ3 38 j 0, tk_rho b a, τ, 62), 0, 0) (fun v μ' => (∃ q σ', tk_main (σ 3) L (L + 1) tk_G0 0 0 = Sum.inl q ∧ v = some (.int (-10 - nI q)) ∧ μ' = (σ', tk_rho a b, τ, 62) ∧ tk_fF b σ σ') ∨ ∃ x σ', tk_main (σ 3) L (L + 1) tk_G0 0 0 = Sum.inr x ∧ v = some (.int (nI x.2)) ∧ μ' = (σ', tk_rho b a, τ, 62) ∧ tk_TC σ σ' b x.1) →
        tk_J l D cy none M_X6_towns (80, [some (.ref 1), some (.int (nI x.2)), some (.ref a), some (.int i)], [], (σ3, tk_rho b a, τ, 62), 0, 0) (fun v μ' => (∃ q σ', tk_main (σ 3) L (L + 1) tk_G0 0 0 = Sum.inl q ∧ v = some (.int (-10 - nI q)) ∧ μ' = (σ', tk_rho a b, τ, 62) ∧ tk_fF b σ σ') ∨ ∃ x σ', tk_main (σ 3) L (L + 1) tk_G0 0 0 = Sum.inr x ∧ v = some (.int (nI x.2)) ∧ μ' = (σ', tk_rho b a, τ, 62) ∧ tk_TC σ σ' b x.1) := by
      intro j i σ3 hj hi h9
      subst hi
      have hc : (nI j).toNatClampNeg = j := nI_clamp (by omega)
      have em : tk_up σ3 38 (nI j).toNatClampNeg (vp_nar .boolean 0) = tk_up σ3 38 j 0 := by rw [hc, en]
      rw [← em] at h9
      refine tk_run (hT_X6_towns none) [80] 80 _ ?_
      refine And.intro (fun h => ?_) (fun h => ?_)
      all_goals try dsimp only [tk_c0, tk_c1, tk_c2, tk_c3, tk_c4, tk_c5, tk_c6, tk_c7, tk_c8, tk_c9, tk_c10, tk_c11, tk_c12, tk_c13] at h
      · exact absurd h (nI_ge (b := 2) hj (by decide))
      · refine tk_ift (tk_in_nI (n := 2) hj (by decide)) ?_
        exact h9
    refine step 0 _ _ (by decide) rfl (step 1 _ _ (by decide) rfl (last _ _ rfl ?_))
    have hr3 : ∀ x y, x ≠ 2 → x ≠ 16 → ¬ (18 ≤ x ∧ x ≤ 22) → σ2 x y = σ1 x y := fun x y h1 h2 h3 => by
      rw [r3 x y h2 (by omega), tk_up_p _ _ _ h1]
    have hup : ∀ x y, ¬ (x = 23 ∧ y = 1) → ¬ (x = 39 ∧ y = 2) → ¬ (x = 42 ∧ y = 2) → x ≠ 38 → tk_up (tk_up (tk_up (tk_up (tk_up σ2 23 1 0) 39 2 0) 42 2 0) 38 0 0) 38 1 0 x y = σ2 x y := fun x y h1 h2 h3 h4 => by
      rw [tk_up_p _ _ _ h4, tk_up_p _ _ _ h4, tk_up, if_neg h3, tk_up, if_neg h2, tk_up, if_neg h1]
    have hupl : ∀ x y, x ≤ 22 → tk_up (tk_up (tk_up (tk_up (tk_up σ2 23 1 0) 39 2 0) 42 2 0) 38 0 0) 38 1 0 x y = σ2 x y := fun x y h => hup x y (by omega) (by omega) (by omega) (by omega)
    refine ⟨?_, ⟨fun y hy => ?_, fun k hk => ?_, fun t ht => ?_, ?_⟩, ?_, ?_, fun t ht => ?_, ?_, ?_, ?_, ?_, ?_, fun y z hy hy2 => ?_, fun y z h1 h2 h3 h4 h5 h6 h7 h8 => ?_⟩
    · rw [hupl _ _ (by decide), r3 _ _ (by decide) (by omega), tk_up_at]
    · rw [hupl _ _ (by omega), hr3 _ _ (by omega) (by omega) (by omega)]
      exact hG.1 y hy
    · have g := hG.2.1 k hk
      have q1 := hbi 1 (by omega)
      have q2 := hbi 2 (by omega)
      have q3 := hbi 3 (by omega)
      have q4 := hbi 4 (by omega)
      rw [hupl _ _ (by omega), hupl _ _ (by omega), hupl _ _ (by omega), hupl _ _ (by omega), hr3 _ _ (by omega) (by omega) (by omega), hr3 _ _ (by omega) (by omega) (by omega), hr3 _ _ (by omega) (by omega) (by omega), hr3 _ _ (by omega) (by omega) (by omega)]
      exact g
    · rw [hupl _ _ (by omega), hr3 _ _ (by omega) (by omega) (by omega)]
      exact hG.2.2.1 t ht
    · rw [hupl _ _ (by decide), r3 _ _ (by decide) (by omega), tk_up_k _ _ _ (by decide)]
      exact hG.2.2.2
    · rw [hupl _ _ (by decide)]
      exact r0
    · rw [hupl _ _ (by decide)]
      exact r1
    · have ht2 : t < N := by rw [hcl] at ht; exact ht
      rw [hupl _ _ (by omega), hupl _ _ (by omega), hupl _ _ (by omega)]
      have := r2 t ht2
      rw [tk_up_p _ _ _ (by omega), hG.2.2.1 t ht] at this
      exact this
    · simp [tk_up]
    · simp [tk_up]
    · simp [tk_up]
    · simp [tk_up]
    · simp [tk_up]
    · rw [hcl] at hy
      rw [hupl _ _ hy2, r3 _ _ (by omega) (by omega), tk_up_p _ _ _ (by omega)]
      exact hF y z (by omega) (by omega)
    · rw [hup y z h5 h6 h7 h8, hr3 y z h1 h3 h4]
      exact hF y z h2 (by omega)
  refine tk_ct rfl rfl (Nat.le_of_ble_eq_true rfl) (fun l D cy => tk_run (hT_X6_towns none) [36] 80 _ ?_)
  refine tk_cc (k_readInto hb hX hL e1) (fun v9 μ9 h9 => ?_)
  obtain ⟨σ1, rfl, hF, hR⟩ := h9
  have hlo := fun q h => tk_main_l (f := σ 3) (L := L) (L + 1) tk_G0 0 0 q (by omega) h
  have hhi := fun x h => (tk_main_r (f := σ 3) (L := L) (L + 1) tk_G0 0 0 x (by omega) (by omega) tk_G0V h).2
  revert hR cont hlo hhi
  generalize tk_main (σ 3) L (L + 1) tk_G0 0 0 = r
  intro cont hR hlo hhi
  cases r with
  | inl q =>
    have hR : v9 = some (.int (-10 - nI q)) := hR
    subst hR
    have hq := hlo q rfl
    have hneg : ¬ (0 : Int32) ≤ -10 - nI q := by
      have key : ∀ q, q < 151 → ¬ (0 : Int32) ≤ -10 - nI q := by decide +kernel
      exact key q (by omega)
    refine And.intro (fun h => ?_) (fun h => ?_)
    all_goals try dsimp only [tk_c0, tk_c1, tk_c2, tk_c3, tk_c4, tk_c5, tk_c6, tk_c7, tk_c8, tk_c9, tk_c10, tk_c11, tk_c12, tk_c13] at h
    · exact absurd h hneg
    · exact Or.inl ⟨q, σ1, rfl, rfl, rfl, hF⟩
  | inr x =>
    obtain ⟨rfl, hG⟩ := hR
    have hx := hhi x rfl
    refine And.intro (fun h => ?_) (fun h => ?_)
    all_goals try dsimp only [tk_c0, tk_c1, tk_c2, tk_c3, tk_c4, tk_c5, tk_c6, tk_c7, tk_c8, tk_c9, tk_c10, tk_c11, tk_c12, tk_c13] at h
    · refine tk_ift (by rcases hb with rfl | rfl <;> rfl) ?_
      refine tk_ift (by rcases ha with rfl | rfl <;> rfl) ?_
      exact cont l D cy x σ1 _ tk_rhoS rfl hG hF
    · exact absurd (nI_pos' (by omega)) h
end
