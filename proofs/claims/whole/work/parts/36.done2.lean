/-! what is done, of the class, further -/
theorem tk_im {a b j : Nat} (hj : j < 2) : tk_rho a b 35 j = some (36 + j) := by
  match j, hj with
  | 0, _ => rfl
  | 1, _ => rfl
theorem tk_rpI {j : Nat} (hj : j < 2) : tk_rp (36 + j) := ⟨by omega, by omega, by omega⟩
section
variable {t k u n w : Int32} {σ : Nat → Nat → Int32} {a b : Nat} {τ : Nat → Nat → Int64}
theorem k_cTies {N X K : Nat} (ha : tk_tw a) (hE : tk_VE (tk_E σ a)) (hN : N ≤ 5) (e : σ a 4 = nI N) (h01 : ∀ j, j < 5 → σ (18 + j) 2 = 0 ∨ σ (18 + j) 2 = 1) (hX : X < 10) (eX : σ 23 2 = nI X) (hK : K ≤ 10) (eK : σ 23 1 = nI K) :
    tk_Ct M_X6_ties [.ref 1, .int t, .int w] (σ, tk_rho a b, τ, 62) (fun v μ' => ∃ σ', μ' = (σ', tk_rho a b, τ, 62) ∧
      ((¬ ((0 ≤ t ∧ t < σ a 4) ∧ (0 ≤ w ∧ w ≤ 1)) ∧ v = some (.int (-1)) ∧ σ' = σ) ∨
       (((0 ≤ t ∧ t < σ a 4) ∧ (0 ≤ w ∧ w ≤ 1)) ∧ ¬ (σ (18 + t.toNatClampNeg) 1 = 0 ∧ ¬ σ (18 + t.toNatClampNeg) 2 = w) ∧ v = some (.int (-2)) ∧ σ' = σ) ∨
       (((0 ≤ t ∧ t < σ a 4) ∧ (0 ≤ w ∧ w ≤ 1)) ∧ (σ (18 + t.toNatClampNeg) 1 = 0 ∧ ¬ σ (18 + t.toNatClampNeg) 2 = w) ∧ v = some (.int (nI (tk_cnt (fun i => ¬ σ' (18 + i) 2 = 0) (fun _ => inferInstance) N))) ∧ ∃ σ2, tk_Sv σ σ2 X K ∧ σ' = tk_up σ2 (18 + t.toNatClampNeg) 2 w))) := by
  refine tk_ct rfl rfl (Nat.le_of_ble_eq_true rfl) (fun l D cy => tk_run (hT_X6_ties none) [44] 60 _ ?_)
  refine tk_ift (tk_twok ha) ?_
  refine tk_cc (k_isThing ha) (fun v9 μ9 h9 => ?_)
  obtain ⟨rfl, rfl⟩ := h9
  refine And.intro (fun h1 => ?_) (fun h1 => ?_)
  all_goals try dsimp only [tk_c0, tk_c1, tk_c2, tk_c3, tk_c4, tk_c5, tk_c6, tk_c7, tk_c8, tk_c9, tk_c10, tk_c11, tk_c12, tk_c13] at h1
  · exact ⟨σ, rfl, Or.inl ⟨fun h => tk_b0.mp h1 h.1, rfl, rfl⟩⟩
  · have h1 := Decidable.not_not.mp (fun h => h1 (tk_b0.mpr h))
    refine tk_cc (k_isWithin _ _ _ _) (fun v9 μ9 h9 => ?_)
    obtain ⟨rfl, rfl⟩ := h9
    refine And.intro (fun h2 => ?_) (fun h2 => ?_)
    all_goals try dsimp only [tk_c0, tk_c1, tk_c2, tk_c3, tk_c4, tk_c5, tk_c6, tk_c7, tk_c8, tk_c9, tk_c10, tk_c11, tk_c12, tk_c13] at h2
    · exact ⟨σ, rfl, Or.inl ⟨fun h => tk_b0.mp h2 h.2, rfl, rfl⟩⟩
    · have h2 := Decidable.not_not.mp (fun h => h2 (tk_b0.mpr h))
      obtain ⟨j, hj, rfl⟩ := tk_ix h1 hE.2.2.2.2.2.1.2 (by decide)
      rw [nI_clamp (by omega)]
      refine tk_ift (tk_in_nI (n := 5) hj (by decide)) ?_
      refine tk_osi (by rw [nI_clamp (by omega)]; exact tk_th hj) ?_
      have hth := tk_thok hj
      have main : ∀ x : Int32, x = w → tk_J l D cy none M_X6_ties (44, [some (.ref 1), some (.int (nI j)), some (.int w), some (.ref (18 + j)), some (.int x)], [], (σ, tk_rho a b, τ, 62), 0, 0) (fun v μ' => ∃ σ', μ' = (σ', tk_rho a b, τ, 62) ∧
          ((¬ ((0 ≤ nI j ∧ nI j < σ a 4) ∧ (0 ≤ w ∧ w ≤ 1)) ∧ v = some (.int (-1)) ∧ σ' = σ) ∨
           (((0 ≤ nI j ∧ nI j < σ a 4) ∧ (0 ≤ w ∧ w ≤ 1)) ∧ ¬ (σ (18 + j) 1 = 0 ∧ ¬ σ (18 + j) 2 = w) ∧ v = some (.int (-2)) ∧ σ' = σ) ∨
           (((0 ≤ nI j ∧ nI j < σ a 4) ∧ (0 ≤ w ∧ w ≤ 1)) ∧ (σ (18 + j) 1 = 0 ∧ ¬ σ (18 + j) 2 = w) ∧ v = some (.int (nI (tk_cnt (fun i => ¬ σ' (18 + i) 2 = 0) (fun _ => inferInstance) N))) ∧ ∃ σ2, tk_Sv σ σ2 X K ∧ σ' = tk_up σ2 (18 + j) 2 w))) := by
        intro x hx
        subst hx
        refine tk_run (hT_X6_ties none) [] 60 _ ?_
        refine tk_ift hth ?_
        refine tk_cc (k_lies hth) (fun v9 μ9 h9 => ?_)
        obtain ⟨rfl, rfl⟩ := h9
        refine And.intro (fun h3 => ?_) (fun h3 => ?_)
        all_goals try dsimp only [tk_c0, tk_c1, tk_c2, tk_c3, tk_c4, tk_c5, tk_c6, tk_c7, tk_c8, tk_c9, tk_c10, tk_c11, tk_c12, tk_c13] at h3
        · exact ⟨σ, rfl, Or.inr (Or.inl ⟨⟨h1, h2⟩, fun h => tk_b0.mp h3 h.1, rfl, rfl⟩)⟩
        · have h3 := Decidable.not_not.mp (fun h => h3 (tk_b0.mpr h))
          refine tk_ift hth ?_
          refine And.intro (fun h4 => ?_) (fun h4 => ?_)
          all_goals try dsimp only [tk_c0, tk_c1, tk_c2, tk_c3, tk_c4, tk_c5, tk_c6, tk_c7, tk_c8, tk_c9, tk_c10, tk_c11, tk_c12, tk_c13] at h4
          · exact ⟨σ, rfl, Or.inr (Or.inl ⟨⟨h1, h2⟩, fun h => h.2 h4, rfl, rfl⟩)⟩
          · refine tk_cc (k_nextRow hX eX hK eK) (fun v9 μ9 h9 => ?_)
            obtain ⟨rfl, rfl⟩ := h9
            refine tk_cc (k_saveTo (tk_rpX hX) (fun j hj => by rw [tk_up_p _ _ _ (by omega), tk_up_p _ _ _ (by omega)]; exact h01 j hj)) (fun v9 μ9 h9 => ?_)
            obtain ⟨rfl, σ2, rfl, hv, hf⟩ := h9
            have hS := tk_Sv_of hX hv hf
            have e4 : tk_up σ2 (18 + j) 2 x a 4 = nI N := by
              rw [tk_up_p _ _ _ (by rcases ha with rfl | rfl <;> omega), hS.2.2.2 _ _ (by rcases ha with rfl | rfl <;> decide) (by rcases ha with rfl | rfl <;> omega), e]
            refine tk_ift hth ?_
            refine And.intro ?_ ?_
            · obtain ⟨m, hm, rfl⟩ := nI_of2 (M := 1) (n := 1) rfl (Int32.not_lt.mpr h2.1) h2.2
              match m, hm with
              | 0, _ => exact Or.inl rfl
              | 1, _ => exact Or.inr rfl
            · refine tk_ift (tk_twok ha) ?_
              refine tk_cc (by rw [e4]; exact k_tiedOf hN (fun _ => inferInstance)) (fun v9 μ9 h9 => ?_)
              obtain ⟨rfl, rfl⟩ := h9
              exact ⟨_, rfl, Or.inr (Or.inr ⟨⟨h1, h2⟩, ⟨h3, h4⟩, rfl, σ2, hS, rfl⟩)⟩
      refine And.intro (fun h3 => ?_) (fun h3 => ?_)
      all_goals try dsimp only [tk_c0, tk_c1, tk_c2, tk_c3, tk_c4, tk_c5, tk_c6, tk_c7, tk_c8, tk_c9, tk_c10, tk_c11, tk_c12, tk_c13] at h3
      · exact main _ h3.symm
      · refine main 0 ?_
        obtain ⟨m, hm, rfl⟩ := nI_of2 (M := 1) (n := 1) rfl (Int32.not_lt.mpr h2.1) h2.2
        match m, hm with
        | 0, _ => rfl
        | 1, _ => exact absurd rfl h3
theorem k_cCarries {X K : Nat} (ha : tk_tw a) (hE : tk_VE (tk_E σ a)) (hT : tk_CT a σ) (h01 : ∀ j, j < 5 → σ (18 + j) 2 = 0 ∨ σ (18 + j) 2 = 1) (hX : X < 10) (eX : σ 23 2 = nI X) (hK : K ≤ 10) (eK : σ 23 1 = nI K) :
    tk_Ct M_X6_carries [.ref 1, .int t, .int k] (σ, tk_rho a b, τ, 62) (fun v μ' => ∃ σ', μ' = (σ', tk_rho a b, τ, 62) ∧
      ((¬ ((0 ≤ t ∧ t < σ a 4) ∧ (0 ≤ k ∧ k < σ a 3)) ∧ v = some (.int (-1)) ∧ σ' = σ) ∨
       (((0 ≤ t ∧ t < σ a 4) ∧ (0 ≤ k ∧ k < σ a 3)) ∧ ¬ (σ (18 + t.toNatClampNeg) 1 = 0 ∧ ¬ σ (18 + t.toNatClampNeg) 0 = k ∧ tk_E σ a 4 (σ (18 + t.toNatClampNeg) 0).toNatClampNeg = tk_E σ a 4 k.toNatClampNeg) ∧ v = some (.int (-2)) ∧ σ' = σ) ∨
       (((0 ≤ t ∧ t < σ a 4) ∧ (0 ≤ k ∧ k < σ a 3)) ∧ (σ (18 + t.toNatClampNeg) 1 = 0 ∧ ¬ σ (18 + t.toNatClampNeg) 0 = k ∧ tk_E σ a 4 (σ (18 + t.toNatClampNeg) 0).toNatClampNeg = tk_E σ a 4 k.toNatClampNeg) ∧ v = some (.int (σ (18 + t.toNatClampNeg) 0)) ∧ ∃ σ2, tk_Sv σ σ2 X K ∧ σ' = tk_up σ2 (18 + t.toNatClampNeg) 0 k))) := by
  refine tk_ct rfl rfl (Nat.le_of_ble_eq_true rfl) (fun l D cy => tk_run (hT_X6_carries none) [] 60 _ ?_)
  refine tk_ift (tk_twok ha) ?_
  refine tk_cc (k_isThing ha) (fun v9 μ9 h9 => ?_)
  obtain ⟨rfl, rfl⟩ := h9
  refine And.intro (fun h1 => ?_) (fun h1 => ?_)
  all_goals try dsimp only [tk_c0, tk_c1, tk_c2, tk_c3, tk_c4, tk_c5, tk_c6, tk_c7, tk_c8, tk_c9, tk_c10, tk_c11, tk_c12, tk_c13] at h1
  · exact ⟨σ, rfl, Or.inl ⟨fun h => tk_b0.mp h1 h.1, rfl, rfl⟩⟩
  · have h1 := Decidable.not_not.mp (fun h => h1 (tk_b0.mpr h))
    refine tk_ift (tk_twok ha) ?_
    refine tk_cc (k_isKerb ha) (fun v9 μ9 h9 => ?_)
    obtain ⟨rfl, rfl⟩ := h9
    refine And.intro (fun h2 => ?_) (fun h2 => ?_)
    all_goals try dsimp only [tk_c0, tk_c1, tk_c2, tk_c3, tk_c4, tk_c5, tk_c6, tk_c7, tk_c8, tk_c9, tk_c10, tk_c11, tk_c12, tk_c13] at h2
    · exact ⟨σ, rfl, Or.inl ⟨fun h => tk_b0.mp h2 h.2, rfl, rfl⟩⟩
    · have h2 := Decidable.not_not.mp (fun h => h2 (tk_b0.mpr h))
      obtain ⟨j, hj, rfl⟩ := tk_ix h1 hE.2.2.2.2.2.1.2 (by decide)
      have hs := hT j (by omega) h1.2
      rw [nI_clamp (by omega)]
      refine tk_ift (tk_in_nI (n := 5) hj (by decide)) ?_
      refine tk_osi (by rw [nI_clamp (by omega)]; exact tk_th hj) ?_
      have hth := tk_thok hj
      refine tk_ift hth ?_
      refine tk_cc (k_lies hth) (fun v9 μ9 h9 => ?_)
      obtain ⟨rfl, rfl⟩ := h9
      refine And.intro (fun h3 => ?_) (fun h3 => ?_)
      all_goals try dsimp only [tk_c0, tk_c1, tk_c2, tk_c3, tk_c4, tk_c5, tk_c6, tk_c7, tk_c8, tk_c9, tk_c10, tk_c11, tk_c12, tk_c13] at h3
      · exact ⟨σ, rfl, Or.inr (Or.inl ⟨⟨h1, h2⟩, fun h => tk_b0.mp h3 h.1, rfl, rfl⟩)⟩
      · have h3 := Decidable.not_not.mp (fun h => h3 (tk_b0.mpr h))
        refine tk_ift hth ?_
        refine And.intro (fun h4 => ?_) (fun h4 => ?_)
        all_goals try dsimp only [tk_c0, tk_c1, tk_c2, tk_c3, tk_c4, tk_c5, tk_c6, tk_c7, tk_c8, tk_c9, tk_c10, tk_c11, tk_c12, tk_c13] at h4
        · exact ⟨σ, rfl, Or.inr (Or.inl ⟨⟨h1, h2⟩, fun h => h.2.1 h4, rfl, rfl⟩)⟩
        · refine tk_ift hth ?_
          refine tk_ift (tk_twok ha) ?_
          refine tk_cc (k_areOfOneTown ha hE.2.2.2.2.1.2) (fun v9 μ9 h9 => ?_)
          obtain ⟨rfl, rfl⟩ := h9
          refine And.intro (fun h5 => ?_) (fun h5 => ?_)
          all_goals try dsimp only [tk_c0, tk_c1, tk_c2, tk_c3, tk_c4, tk_c5, tk_c6, tk_c7, tk_c8, tk_c9, tk_c10, tk_c11, tk_c12, tk_c13] at h5
          · exact ⟨σ, rfl, Or.inr (Or.inl ⟨⟨h1, h2⟩, fun h => tk_b0.mp h5 ⟨hs.1.1, h2, h.2.2⟩, rfl, rfl⟩)⟩
          · have h5 := Decidable.not_not.mp (fun h => h5 (tk_b0.mpr h))
            refine tk_cc (k_nextRow hX eX hK eK) (fun v9 μ9 h9 => ?_)
            obtain ⟨rfl, rfl⟩ := h9
            refine tk_cc (k_saveTo (tk_rpX hX) (fun j hj => by rw [tk_up_p _ _ _ (by omega), tk_up_p _ _ _ (by omega)]; exact h01 j hj)) (fun v9 μ9 h9 => ?_)
            obtain ⟨rfl, σ2, rfl, hv, hf⟩ := h9
            have hS := tk_Sv_of hX hv hf
            refine tk_ift hth ?_
            refine tk_ift hth ?_
            refine ⟨_, rfl, Or.inr (Or.inr ⟨⟨h1, h2⟩, ⟨h3, h4, h5.2.2⟩, ?_, σ2, hS, rfl⟩)⟩
            rw [hS.2.2.2 _ _ (by omega) (by omega)]
theorem k_cUndo {X K : Nat} (hX : X < 10) (eX : σ 23 2 = nI X) (hK : K ≤ 10) (eK : σ 23 1 = nI K) (hr : 1 ≤ K → ∀ j, j < 5 → σ (25 + (X + 9) % 10) (4 + 3 * j) = 0 ∨ σ (25 + (X + 9) % 10) (4 + 3 * j) = 1) :
    tk_Ct M_X6_undo [.ref 1] (σ, tk_rho a b, τ, 62) (fun v μ' => ∃ σ', μ' = (σ', tk_rho a b, τ, 62) ∧
      ((K = 0 ∧ v = some (.int (-2)) ∧ σ' = σ) ∨ (1 ≤ K ∧ v = some (.int (nI (K - 1))) ∧ (∀ i, i < 17 → tk_NV σ' i = σ (25 + (X + 9) % 10) i) ∧ σ' 23 2 = nI ((X + 9) % 10) ∧ σ' 23 1 = nI (K - 1) ∧ ∀ x y, x ≠ 16 → x ≠ 23 → ¬ (18 ≤ x ∧ x ≤ 22) → σ' x y = σ x y))) := by
  refine tk_ct rfl rfl (Nat.le_of_ble_eq_true rfl) (fun l D cy => tk_run (hT_X6_undo none) [] 60 _ ?_)
  refine And.intro (fun h1 => ?_) (fun h1 => ?_)
  all_goals try dsimp only [tk_c0, tk_c1, tk_c2, tk_c3, tk_c4, tk_c5, tk_c6, tk_c7, tk_c8, tk_c9, tk_c10, tk_c11, tk_c12, tk_c13] at h1
  · have hK1 : 1 ≤ K := by
      rw [eK] at h1
      exact Nat.le_of_not_lt (fun h => absurd h1 (nI_ge (b := 1) h (by decide)))
    refine tk_cc (k_latestRow hX eX hK hK1 eK) (fun v9 μ9 h9 => ?_)
    obtain ⟨rfl, rfl⟩ := h9
    have hrp := tk_rpX (X := (X + 9) % 10) (by omega)
    refine tk_cc (k_loadFrom hrp (fun j hj => by rw [tk_up_p _ _ _ (by omega), tk_up_p _ _ _ (by omega)]; exact hr hK1 j hj)) (fun v9 μ9 h9 => ?_)
    obtain ⟨rfl, σ2, rfl, hv, hf⟩ := h9
    have e1 : σ2 23 1 = nI (K - 1) := by rw [hf _ _ (by decide) (by decide), tk_up_at]
    refine ⟨σ2, rfl, Or.inr ⟨hK1, ?_, fun i hi => ?_, ?_, e1, fun x y hx hx2 hx3 => ?_⟩⟩
    · rw [e1]
    · rw [hv i hi, tk_up_p _ _ _ (by omega), tk_up_p _ _ _ (by omega)]
    · rw [hf _ _ (by decide) (by decide), tk_up_k _ _ _ (by decide), tk_up_at]
    · rw [hf x y hx hx3, tk_up_p _ _ _ hx2, tk_up_p _ _ _ hx2]
  · have hK0 : K = 0 := by
      rw [eK] at h1
      exact Nat.eq_zero_of_not_pos (fun h => h1 (nI_le (a := 1) h (by omega)))
    exact ⟨σ, rfl, Or.inl ⟨hK0, rfl, rfl⟩⟩
theorem k_cKeep (h01 : ∀ j, j < 5 → σ (18 + j) 2 = 0 ∨ σ (18 + j) 2 = 1) :
    tk_Ct M_X6_keep [.ref 1, .int w] (σ, tk_rho a b, τ, 62) (fun v μ' => ∃ σ', μ' = (σ', tk_rho a b, τ, 62) ∧
      ((¬ (0 ≤ w ∧ w ≤ 1) ∧ v = some (.int (-1)) ∧ σ' = σ) ∨ ((0 ≤ w ∧ w ≤ 1) ∧ v = some (.int (σ 16 0)) ∧ (∀ i, i < 17 → σ' (36 + w.toNatClampNeg) i = tk_NV σ i) ∧ σ' 38 w.toNatClampNeg = 1 ∧ (∀ y, y ≠ w.toNatClampNeg → σ' 38 y = σ 38 y) ∧ ∀ x y, x ≠ 38 → x ≠ 36 + w.toNatClampNeg → σ' x y = σ x y))) := by
  refine tk_ct rfl rfl (Nat.le_of_ble_eq_true rfl) (fun l D cy => tk_run (hT_X6_keep none) [] 60 _ ?_)
  refine tk_cc (k_isWithin _ _ _ _) (fun v9 μ9 h9 => ?_)
  obtain ⟨rfl, rfl⟩ := h9
  refine And.intro (fun h1 => ?_) (fun h1 => ?_)
  all_goals try dsimp only [tk_c0, tk_c1, tk_c2, tk_c3, tk_c4, tk_c5, tk_c6, tk_c7, tk_c8, tk_c9, tk_c10, tk_c11, tk_c12, tk_c13] at h1
  · exact ⟨σ, rfl, Or.inl ⟨tk_b0.mp h1, rfl, rfl⟩⟩
  · have h1 := Decidable.not_not.mp (fun h => h1 (tk_b0.mpr h))
    obtain ⟨j, hj, rfl⟩ := nI_of2 (M := 1) (n := 1) rfl (Int32.not_lt.mpr h1.1) h1.2
    rw [nI_clamp (by omega)]
    refine tk_ift (tk_in_nI (n := 2) (by omega) (by decide)) ?_
    refine tk_osi (by rw [nI_clamp (by omega)]; exact tk_im (by omega)) ?_
    refine tk_cc (k_saveTo (tk_rpI (by omega)) h01) (fun v9 μ9 h9 => ?_)
    obtain ⟨rfl, σ2, rfl, hv, hf⟩ := h9
    refine tk_ift (tk_in_nI (n := 2) (by omega) (by decide)) ?_
    have en : vp_nar .boolean 1 = 1 := by decide
    refine ⟨_, rfl, Or.inr ⟨h1, ?_, fun i hi => ?_, ?_, fun y hy => ?_, fun x y hx hx2 => ?_⟩⟩
    · rw [tk_up_p _ _ _ (by decide), hf _ _ (by omega)]
    · rw [tk_up_p _ _ _ (by omega)]
      exact hv i hi
    · rw [nI_clamp (by omega), tk_up_at, en]
    · rw [nI_clamp (by omega), tk_up_k _ _ _ hy]
      exact hf _ _ (by omega)
    · rw [tk_up_p _ _ _ hx]
      exact hf _ _ hx2
theorem k_cBack (hr : ∀ i, i < 2 → ¬ σ 38 i = 0 → ∀ j, j < 5 → σ (36 + i) (4 + 3 * j) = 0 ∨ σ (36 + i) (4 + 3 * j) = 1) :
    tk_Ct M_X6_back [.ref 1, .int w] (σ, tk_rho a b, τ, 62) (fun v μ' => ∃ σ', μ' = (σ', tk_rho a b, τ, 62) ∧
      ((¬ (0 ≤ w ∧ w ≤ 1) ∧ v = some (.int (-1)) ∧ σ' = σ) ∨ ((0 ≤ w ∧ w ≤ 1) ∧ σ 38 w.toNatClampNeg = 0 ∧ v = some (.int (-2)) ∧ σ' = σ) ∨ ((0 ≤ w ∧ w ≤ 1) ∧ ¬ σ 38 w.toNatClampNeg = 0 ∧ v = some (.int (σ (36 + w.toNatClampNeg) 0)) ∧ (∀ i, i < 17 → tk_NV σ' i = σ (36 + w.toNatClampNeg) i) ∧ σ' 23 1 = 0 ∧ σ' 23 2 = σ 23 2 ∧ ∀ x y, x ≠ 16 → x ≠ 23 → ¬ (18 ≤ x ∧ x ≤ 22) → σ' x y = σ x y))) := by
  refine tk_ct rfl rfl (Nat.le_of_ble_eq_true rfl) (fun l D cy => tk_run (hT_X6_back none) [] 60 _ ?_)
  refine tk_cc (k_isWithin _ _ _ _) (fun v9 μ9 h9 => ?_)
  obtain ⟨rfl, rfl⟩ := h9
  refine And.intro (fun h1 => ?_) (fun h1 => ?_)
  all_goals try dsimp only [tk_c0, tk_c1, tk_c2, tk_c3, tk_c4, tk_c5, tk_c6, tk_c7, tk_c8, tk_c9, tk_c10, tk_c11, tk_c12, tk_c13] at h1
  · exact ⟨σ, rfl, Or.inl ⟨tk_b0.mp h1, rfl, rfl⟩⟩
  · have h1 := Decidable.not_not.mp (fun h => h1 (tk_b0.mpr h))
    obtain ⟨j, hj, rfl⟩ := nI_of2 (M := 1) (n := 1) rfl (Int32.not_lt.mpr h1.1) h1.2
    rw [nI_clamp (by omega)]
    refine tk_ift (tk_in_nI (n := 2) (by omega) (by decide)) ?_
    rw [nI_clamp (by omega)]
    refine And.intro (fun h2 => ?_) (fun h2 => ?_)
    all_goals try dsimp only [tk_c0, tk_c1, tk_c2, tk_c3, tk_c4, tk_c5, tk_c6, tk_c7, tk_c8, tk_c9, tk_c10, tk_c11, tk_c12, tk_c13] at h2
    · exact ⟨σ, rfl, Or.inr (Or.inl ⟨h1, h2, rfl, rfl⟩)⟩
    · refine tk_ift (tk_in_nI (n := 2) (by omega) (by decide)) ?_
      refine tk_osi (by rw [nI_clamp (by omega)]; exact tk_im (by omega)) ?_
      refine tk_cc (k_loadFrom (tk_rpI (by omega)) (hr j (by omega) h2)) (fun v9 μ9 h9 => ?_)
      obtain ⟨rfl, σ2, rfl, hv, hf⟩ := h9
      refine tk_cc (k_pLose) (fun v9 μ9 h9 => ?_)
      obtain ⟨rfl, rfl⟩ := h9
      have e0 : σ2 16 0 = σ (36 + j) 0 := hv 0 (by decide)
      refine ⟨_, rfl, Or.inr (Or.inr ⟨h1, h2, ?_, fun i hi => ?_, tk_up_at _ _ _ _, ?_, fun x y hx hx2 hx3 => ?_⟩)⟩
      · rw [tk_up_p _ _ _ (by decide), e0]
      · rw [← hv i hi]
        exact tk_NV_congr (fun x y hx => tk_up_p _ _ _ (by omega)) i hi
      · rw [tk_up_k _ _ _ (by decide)]
        exact hf _ _ (by decide) (by decide)
      · rw [tk_up_p _ _ _ hx2]
        exact hf x y hx hx3
end
