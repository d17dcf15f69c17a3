/-! how the reference settles -/
/-- how far it has settled -/
def tk_S1 (σ σi : Nat → Nat → Int32) (ja jb jc jd : Nat) : Prop :=
  (∀ k, k < ja → σi 49 k = σ 49 (5 + k)) ∧ (∀ k, k < jc → σi 50 k = σ 50 (8 + k) ∧ σi 51 k = σ 51 (8 + k) ∧ σi 52 k = σ 52 (8 + k) ∧ σi 53 k = σ 53 (8 + k)) ∧
  (∀ k, k < jb → σi 55 k = if 1 ≤ k ∧ k ≤ jd then σ 54 (k - 1) else 0) ∧ ∀ x y, ¬ (x = 49 ∧ y < 5) → ¬ (50 ≤ x ∧ x ≤ 53 ∧ y < 8) → x ≠ 55 → σi x y = σ x y
/-- behind it -/
def tk_St (N : Nat) (σ σ' : Nat → Nat → Int32) : Prop :=
  (∀ k, k < 5 → σ' 49 k = σ 49 (5 + k)) ∧ (∀ k, k < 8 → σ' 50 k = σ 50 (8 + k) ∧ σ' 51 k = σ 51 (8 + k) ∧ σ' 52 k = σ 52 (8 + k) ∧ σ' 53 k = σ 53 (8 + k)) ∧
  (∀ k, k < 13 → σ' 55 k = if 1 ≤ k ∧ k ≤ N then σ 54 (k - 1) else 0) ∧ (σ' 47 3 = 0 ∧ σ' 47 23 = 0 ∧ σ' 47 26 = 0 ∧ σ' 47 20 = 0 ∧ σ' 57 0 = 0 ∧ σ' 57 1 = 0) ∧
  ∀ x y, x ≠ 49 → ¬ (50 ≤ x ∧ x ≤ 53) → x ≠ 55 → x ≠ 57 → ¬ (x = 47 ∧ (y = 3 ∨ y = 20 ∨ y = 23 ∨ y = 26)) → σ' x y = σ x y
def tk_PS (N : Nat) (σ : Nat → Nat → Int32) (a b : Nat) (τ : Nat → Nat → Int64) : tk_Po := fun v μ' => v = none ∧ ∃ σ', μ' = (σ', tk_rho a b, τ, 62) ∧ tk_St N σ σ'
section
variable {σ : Nat → Nat → Int32} {a b : Nat} {τ : Nat → Nat → Int64} {N : Nat}
theorem k_settles (hN : N ≤ 5) (e : σ 49 6 = nI N) : tk_Ct M_X7_settles [.ref 47] (σ, tk_rho a b, τ, 62) (tk_PS N σ a b τ) := by
  have loD : ∀ (l : Launch) (D : va_G) (cy : Nat → ClassId) (n j : Nat) (i : Int32) (σi : Nat → Nat → Int32), i = nI j → j + n = N → tk_S1 σ σi 5 13 8 j → tk_J l D cy none M_X7_settles (124, [some (.ref 47), some (.int i)], [], (σi, tk_rho a b, τ, 62), 0, 0) (tk_PS N σ a b τ) := by
    intro l D cy n
    induction n with
    | zero =>
      intro j i σi hi hj hS
      subst hi
      obtain rfl : j = N := by omega
      have e1 : σi 49 1 = nI j := (hS.1 1 (by omega)).trans e
      have en : vp_nar .boolean 0 = 0 := by decide
      refine tk_run (hT_X7_settles none) [] 80 _ ?_
      refine And.intro (fun h1 => ?_) (fun h1 => ?_)
      all_goals try dsimp only [tk_c0, tk_c1, tk_c2, tk_c3, tk_c4, tk_c5, tk_c6, tk_c7, tk_c8, tk_c9, tk_c10, tk_c11, tk_c12, tk_c13] at h1
      · refine And.intro rfl ⟨_, rfl, ?_⟩
        dsimp only [tk_c0, tk_c1, tk_c2, tk_c3, tk_c4, tk_c5, tk_c6, tk_c7, tk_c8, tk_c9, tk_c10, tk_c11, tk_c12, tk_c13]
        obtain ⟨s1, s2, s3, s4⟩ := hS
        have u : ∀ x y, x ≠ 57 → ¬ (x = 47 ∧ (y = 3 ∨ y = 20 ∨ y = 23 ∨ y = 26)) → tk_up (tk_up (tk_up (tk_up (tk_up (tk_up σi 47 3 0) 47 23 0) 47 26 0) 47 20 0) 57 0 (vp_nar .boolean 0)) 57 1 (vp_nar .boolean 0) x y = σi x y := fun x y h1 h2 => by
          rw [tk_upn (by omega), tk_upn (by omega), tk_upn (by omega), tk_upn (by omega), tk_upn (by omega), tk_upn (by omega)]
        refine ⟨fun k hk => ?_, fun k hk => ?_, fun k hk => ?_, ⟨?_, ?_, ?_, ?_, ?_, ?_⟩, fun x y h1 h2 h3 h4 h5 => ?_⟩
        · rw [u _ _ (by omega) (by omega)]
          exact s1 k hk
        · rw [u _ _ (by omega) (by omega), u _ _ (by omega) (by omega), u _ _ (by omega) (by omega), u _ _ (by omega) (by omega)]
          exact s2 k hk
        · rw [u _ _ (by omega) (by omega)]
          exact s3 k hk
        · rw [tk_upn (by omega), tk_upn (by omega), tk_upn (by omega), tk_upn (by omega), tk_upn (by omega), tk_up_at]
        · rw [tk_upn (by omega), tk_upn (by omega), tk_upn (by omega), tk_upn (by omega), tk_up_at]
        · rw [tk_upn (by omega), tk_upn (by omega), tk_upn (by omega), tk_up_at]
        · rw [tk_upn (by omega), tk_upn (by omega), tk_up_at]
        · rw [tk_upn (by omega), tk_up_at]
          exact en
        · rw [tk_up_at]
          exact en
        · rw [u _ _ h4 h5]
          exact s4 x y (by omega) (by omega) h3
      · exact absurd (by rw [e1]; exact Int32.le_refl _) h1
    | succ n ih =>
      intro j i σi hi hj hS
      subst hi
      have e1 : σi 49 1 = nI N := (hS.1 1 (by omega)).trans e
      have ei : (1 : Int32) + nI j = nI (1 + j) := nI_add 1 j
      have h9 : ∀ σn : Nat → Nat → Int32, σn = tk_up σi 55 (1 + j) (σi 54 j) → tk_J l D cy none M_X7_settles (124, [some (.ref 47), some (.int (nI j + 1))], [], (σn, tk_rho a b, τ, 62), 0, 0) (tk_PS N σ a b τ) := by
        intro σn hσ
        subst hσ
        obtain ⟨s1, s2, s3, s4⟩ := hS
        refine ih (j + 1) _ _ (nI_1 j) (by omega) ⟨fun k hk => ?_, fun k hk => ?_, fun k hk => ?_, fun x y h1 h2 h3 => ?_⟩
        · rw [tk_upn (by omega)]
          exact s1 k hk
        · rw [tk_upn (by omega), tk_upn (by omega), tk_upn (by omega), tk_upn (by omega)]
          exact s2 k hk
        · by_cases h : k = 1 + j
          · subst h
            rw [tk_up_at, if_pos (by omega), s4 54 j (by omega) (by omega) (by omega), show 1 + j - 1 = j by omega]
          · rw [tk_upn (by omega), s3 k hk]
            by_cases h2 : 1 ≤ k ∧ k ≤ j
            · rw [if_pos h2, if_pos (by omega)]
            · rw [if_neg h2, if_neg (by omega)]
        · rw [tk_upn (by omega)]
          exact s4 x y h1 h2 h3
      refine tk_run (hT_X7_settles none) [124] 80 _ ?_
      refine And.intro (fun h1 => ?_) (fun h1 => ?_)
      all_goals try dsimp only [tk_c0, tk_c1, tk_c2, tk_c3, tk_c4, tk_c5, tk_c6, tk_c7, tk_c8, tk_c9, tk_c10, tk_c11, tk_c12, tk_c13] at h1
      · exact absurd h1 (by rw [e1]; exact nI_ge (by omega) (by omega))
      · refine tk_ift (tk_in_nI (n := 5) (by omega) (by decide)) ?_
        refine tk_ift (by show tk_in (1 + nI j) 13 = true; rw [ei]; exact tk_in_nI (n := 13) (by omega) (by decide)) ?_
        refine h9 _ ?_
        dsimp only [tk_c0, tk_c1, tk_c2, tk_c3, tk_c4, tk_c5, tk_c6, tk_c7, tk_c8, tk_c9, tk_c10, tk_c11, tk_c12, tk_c13]
        rw [ei, nI_clamp (by omega), nI_clamp (by omega)]
  have loC : ∀ (l : Launch) (D : va_G) (cy : Nat → ClassId) (n j : Nat) (i : Int32) (σi : Nat → Nat → Int32), i = nI j → j + n = 8 → tk_S1 σ σi 5 13 j 0 → tk_J l D cy none M_X7_settles (50, [some (.ref 47), some (.int i)], [], (σi, tk_rho a b, τ, 62), 0, 0) (tk_PS N σ a b τ) := by
    intro l D cy n
    induction n with
    | zero =>
      intro j i σi hi hj hS
      subst hi
      obtain rfl : j = 8 := by omega
      refine tk_run (hT_X7_settles none) [50, 124] 80 _ ?_
      refine And.intro (fun h1 => ?_) (fun h1 => ?_)
      all_goals try dsimp only [tk_c0, tk_c1, tk_c2, tk_c3, tk_c4, tk_c5, tk_c6, tk_c7, tk_c8, tk_c9, tk_c10, tk_c11, tk_c12, tk_c13] at h1
      · exact loD l D cy N 0 _ σi rfl (by omega) hS
      · exact absurd (Int32.le_refl _) h1
    | succ n ih =>
      intro j i σi hi hj hS
      subst hi
      have ei : (8 : Int32) + nI j = nI (8 + j) := nI_add 8 j
      have cj : (nI j).toNatClampNeg = j := nI_clamp (by omega)
      have c8 : (nI (8 + j)).toNatClampNeg = 8 + j := nI_clamp (by omega)
      have in1 : tk_in (nI j) 16 = true := tk_in_nI (n := 16) (by omega) (by decide)
      have in2 : tk_in ((8 : Int32) + nI j) 16 = true := by
        rw [ei]
        exact tk_in_nI (n := 16) (by omega) (by decide)
      have h9 : ∀ σn : Nat → Nat → Int32, σn = tk_up (tk_up (tk_up (tk_up σi 50 j (σi 50 (8 + j))) 51 j (σi 51 (8 + j))) 52 j (σi 52 (8 + j))) 53 j (σi 53 (8 + j)) → tk_J l D cy none M_X7_settles (50, [some (.ref 47), some (.int (nI j + 1))], [], (σn, tk_rho a b, τ, 62), 0, 0) (tk_PS N σ a b τ) := by
        intro σn hσ
        subst hσ
        obtain ⟨s1, s2, s3, s4⟩ := hS
        refine ih (j + 1) _ _ (nI_1 j) (by omega) ⟨fun k hk => ?_, fun k hk => ?_, fun k hk => ?_, fun x y h1 h2 h3 => ?_⟩
        · rw [tk_upn (by omega), tk_upn (by omega), tk_upn (by omega), tk_upn (by omega)]
          exact s1 k hk
        · by_cases h : k = j
          · subst h
            have q50 := s4 50 (8 + k) (by omega) (by omega) (by omega)
            have q51 := s4 51 (8 + k) (by omega) (by omega) (by omega)
            have q52 := s4 52 (8 + k) (by omega) (by omega) (by omega)
            have q53 := s4 53 (8 + k) (by omega) (by omega) (by omega)
            simp [tk_up, q50, q51, q52, q53]
          · have := s2 k (by omega)
            simp [tk_up, h, this]
        · rw [tk_upn (by omega), tk_upn (by omega), tk_upn (by omega), tk_upn (by omega)]
          exact s3 k hk
        · rw [tk_upn (by omega), tk_upn (by omega), tk_upn (by omega), tk_upn (by omega)]
          exact s4 x y h1 h2 h3
      refine tk_run (hT_X7_settles none) [50, 124] 80 _ ?_
      refine And.intro (fun h1 => ?_) (fun h1 => ?_)
      all_goals try dsimp only [tk_c0, tk_c1, tk_c2, tk_c3, tk_c4, tk_c5, tk_c6, tk_c7, tk_c8, tk_c9, tk_c10, tk_c11, tk_c12, tk_c13] at h1
      · exact absurd h1 (nI_ge (b := 8) (by omega) (by omega))
      · refine tk_ift in2 ?_
        refine tk_ift in1 ?_
        refine tk_ift in2 ?_
        refine tk_ift in1 ?_
        refine tk_ift in2 ?_
        refine tk_ift in1 ?_
        refine tk_ift in2 ?_
        refine tk_ift in1 ?_
        refine h9 _ ?_
        dsimp only [tk_c0, tk_c1, tk_c2, tk_c3, tk_c4, tk_c5, tk_c6, tk_c7, tk_c8, tk_c9, tk_c10, tk_c11, tk_c12, tk_c13]
        rw [ei, cj, c8, tk_upn (p := 50) (a := 51) (by omega), tk_upn (p := 51) (a := 52) (by omega), tk_upn (p := 50) (a := 52) (by omega), tk_upn (p := 52) (a := 53) (by omega), tk_upn (p := 51) (a := 53) (by omega), tk_upn (p := 50) (a := 53) (by omega)]
  have loB : ∀ (l : Launch) (D : va_G) (cy : Nat → ClassId) (n j : Nat) (i : Int32) (σi : Nat → Nat → Int32), i = nI j → j + n = 13 → tk_S1 σ σi 5 j 0 0 → tk_J l D cy none M_X7_settles (29, [some (.ref 47), some (.int i)], [], (σi, tk_rho a b, τ, 62), 0, 0) (tk_PS N σ a b τ) := by
    intro l D cy n
    induction n with
    | zero =>
      intro j i σi hi hj hS
      subst hi
      obtain rfl : j = 13 := by omega
      refine tk_run (hT_X7_settles none) [29, 50] 80 _ ?_
      refine And.intro (fun h1 => ?_) (fun h1 => ?_)
      all_goals try dsimp only [tk_c0, tk_c1, tk_c2, tk_c3, tk_c4, tk_c5, tk_c6, tk_c7, tk_c8, tk_c9, tk_c10, tk_c11, tk_c12, tk_c13] at h1
      · exact loC l D cy 8 0 _ σi rfl (by omega) hS
      · exact absurd (Int32.le_refl _) h1
    | succ n ih =>
      intro j i σi hi hj hS
      subst hi
      have cj : (nI j).toNatClampNeg = j := nI_clamp (by omega)
      have h9 : ∀ σn : Nat → Nat → Int32, σn = tk_up σi 55 j 0 → tk_J l D cy none M_X7_settles (29, [some (.ref 47), some (.int (nI j + 1))], [], (σn, tk_rho a b, τ, 62), 0, 0) (tk_PS N σ a b τ) := by
        intro σn hσ
        subst hσ
        obtain ⟨s1, s2, s3, s4⟩ := hS
        refine ih (j + 1) _ _ (nI_1 j) (by omega) ⟨fun k hk => ?_, fun k hk => absurd hk (Nat.not_lt_zero k), fun k hk => ?_, fun x y h1 h2 h3 => ?_⟩
        · rw [tk_upn (by omega)]
          exact s1 k hk
        · by_cases h : k = j
          · subst h
            rw [tk_up_at, if_neg (by omega)]
          · rw [tk_upn (by omega)]
            exact s3 k (by omega)
        · rw [tk_upn (by omega)]
          exact s4 x y h1 h2 h3
      refine tk_run (hT_X7_settles none) [29, 50] 80 _ ?_
      refine And.intro (fun h1 => ?_) (fun h1 => ?_)
      all_goals try dsimp only [tk_c0, tk_c1, tk_c2, tk_c3, tk_c4, tk_c5, tk_c6, tk_c7, tk_c8, tk_c9, tk_c10, tk_c11, tk_c12, tk_c13] at h1
      · exact absurd h1 (nI_ge (b := 13) (by omega) (by omega))
      · refine tk_ift (tk_in_nI (n := 13) (by omega) (by decide)) ?_
        refine h9 _ ?_
        dsimp only [tk_c0, tk_c1, tk_c2, tk_c3, tk_c4, tk_c5, tk_c6, tk_c7, tk_c8, tk_c9, tk_c10, tk_c11, tk_c12, tk_c13]
        rw [cj]
  have loA : ∀ (l : Launch) (D : va_G) (cy : Nat → ClassId) (n j : Nat) (i : Int32) (σi : Nat → Nat → Int32), i = nI j → j + n = 5 → tk_S1 σ σi j 0 0 0 → (∀ y, 5 ≤ y → σi 49 y = σ 49 y) → tk_J l D cy none M_X7_settles (2, [some (.ref 47), some (.int i)], [], (σi, tk_rho a b, τ, 62), 0, 0) (tk_PS N σ a b τ) := by
    intro l D cy n
    induction n with
    | zero =>
      intro j i σi hi hj hS _
      subst hi
      obtain rfl : j = 5 := by omega
      refine tk_run (hT_X7_settles none) [2, 29] 80 _ ?_
      refine And.intro (fun h1 => ?_) (fun h1 => ?_)
      all_goals try dsimp only [tk_c0, tk_c1, tk_c2, tk_c3, tk_c4, tk_c5, tk_c6, tk_c7, tk_c8, tk_c9, tk_c10, tk_c11, tk_c12, tk_c13] at h1
      · exact loB l D cy 13 0 _ σi rfl (by omega) hS
      · exact absurd (Int32.le_refl _) h1
    | succ n ih =>
      intro j i σi hi hj hS hS5
      subst hi
      have ei : (5 : Int32) + nI j = nI (5 + j) := nI_add 5 j
      have cj : (nI j).toNatClampNeg = j := nI_clamp (by omega)
      have c5 : (nI (5 + j)).toNatClampNeg = 5 + j := nI_clamp (by omega)
      have h9 : ∀ σn : Nat → Nat → Int32, σn = tk_up σi 49 j (σi 49 (5 + j)) → tk_J l D cy none M_X7_settles (2, [some (.ref 47), some (.int (nI j + 1))], [], (σn, tk_rho a b, τ, 62), 0, 0) (tk_PS N σ a b τ) := by
        intro σn hσ
        subst hσ
        obtain ⟨s1, s2, s3, s4⟩ := hS
        refine ih (j + 1) _ _ (nI_1 j) (by omega) ⟨fun k hk => ?_, fun k hk => absurd hk (Nat.not_lt_zero k), fun k hk => absurd hk (Nat.not_lt_zero k), fun x y h1 h2 h3 => ?_⟩ (fun y hy => ?_)
        · by_cases h : k = j
          · subst h
            rw [tk_up_at]
            exact hS5 _ (by omega)
          · rw [tk_upn (by omega)]
            exact s1 k (by omega)
        · rw [tk_upn (by omega)]
          exact s4 x y h1 h2 h3
        · rw [tk_upn (by omega)]
          exact hS5 y hy
      refine tk_run (hT_X7_settles none) [2, 29] 80 _ ?_
      refine And.intro (fun h1 => ?_) (fun h1 => ?_)
      all_goals try dsimp only [tk_c0, tk_c1, tk_c2, tk_c3, tk_c4, tk_c5, tk_c6, tk_c7, tk_c8, tk_c9, tk_c10, tk_c11, tk_c12, tk_c13] at h1
      · exact absurd h1 (nI_ge (b := 5) (by omega) (by omega))
      · refine tk_ift (by show tk_in (5 + nI j) 10 = true; rw [ei]; exact tk_in_nI (n := 10) (by omega) (by decide)) ?_
        refine tk_ift (tk_in_nI (n := 10) (by omega) (by decide)) ?_
        refine h9 _ ?_
        dsimp only [tk_c0, tk_c1, tk_c2, tk_c3, tk_c4, tk_c5, tk_c6, tk_c7, tk_c8, tk_c9, tk_c10, tk_c11, tk_c12, tk_c13]
        rw [ei, cj, c5]
  refine tk_ct rfl rfl (Nat.le_of_ble_eq_true rfl) (fun l D cy => tk_run (hT_X7_settles none) [2] 80 _ ?_)
  exact loA l D cy 5 0 _ σ rfl (by omega) ⟨fun k hk => absurd hk (Nat.not_lt_zero k), fun k hk => absurd hk (Nat.not_lt_zero k), fun k hk => absurd hk (Nat.not_lt_zero k), fun _ _ _ _ _ => rfl⟩ (fun _ _ => rfl)
end
