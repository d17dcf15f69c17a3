/-! how the class reads a drain -/
section
variable {σ : Nat → Nat → Int32} {a b B : Nat} {τ : Nat → Nat → Int64} {G : Nat → Nat → Int32} {L n : Nat}
theorem k_readDrain {K : Nat} (hB : tk_tw B) (hX : tk_TX (σ 3) L) (hL : L ≤ 150) (e1 : σ 2 1 = nI L) (hn : n ≤ L) (e2 : σ 2 2 = nI n) (hG : tk_CG σ B G) (hK : K ≤ 8) (eK : G 3 3 = nI K) :
    tk_Ct M_X3_readDrain [.ref 2, .ref B] (σ, tk_rho a b, τ, 62) (fun v μ' => ∃ σ', μ' = (σ', tk_rho a b, τ, 62) ∧ tk_fF B σ σ' ∧ tk_RC σ' B (tk_rdD (σ 3) L G n) v) := by
  have hn1 := tk_nx_le (f := σ 3) hn
  have hn2 := tk_nx_le (f := σ 3) hn1.2
  have e3 := hG.1 3 (by decide)
  rw [tk_rdD]
  have hr1 := k_readNumber (σ := σ) (a := a) (b := b) (τ := τ) (L := L) (p := n) (lo := 0) (hi := σ B 3 - 1) hX (by decide) hL e1 hn e2
  have hB0 : B ≠ 0 := by rcases hB with rfl | rfl <;> decide
  have hB2 : B ≠ 2 ∧ 2 ≠ B := by rcases hB with rfl | rfl <;> decide
  have hB4 : ∀ i, 2 ≠ B + i := fun i => by rcases hB with rfl | rfl <;> omega
  have hcl : (G 3 3).toNatClampNeg = K := by rw [eK, nI_clamp (by omega)]
  have hB0 : B ≠ 0 := by rcases hB with rfl | rfl <;> decide
  have fin : ∀ (l : Launch) (D : va_G) (cy : Nat → ClassId) (x3 : Int32) (j : Nat) (σ3 : Nat → Nat → Int32) (q : tk_Po), j < K → tk_CG σ3 B G →
      (∀ σ', (∀ x y, ¬ (x = B + 3) → ¬ (x = B + 4) → σ' x y = σ3 x y) → tk_CG σ' B (tk_up (tk_up G 1 j x3) 2 j (σ3 2 5)) → q (some (.int 1)) (σ', tk_rho a b, τ, 62)) →
      tk_J l D cy none M_X3_readDrain (53, [some (.ref 2), some (.ref B), some (.int (nI j)), some (.int x3)], [], (σ3, tk_rho a b, τ, 62), 0, 0) q := by
    intro l D cy x3 j σ3 q hj hG3 hq
    have key : q (some (.int 1)) (tk_up (tk_up σ3 (B + 3) j x3) (B + 4) j (σ3 2 5), tk_rho a b, τ, 62) := by
      refine hq _ (fun x y hx hx2 => ?_) ⟨fun y hy => ?_, fun k hk => ?_, fun t ht => ?_, ?_⟩
      · rw [tk_up_p _ _ _ hx2, tk_up_p _ _ _ hx]
      · have := hG3.1 y hy
        simp [tk_up, this]
      · have hk2 : k < (G 3 3).toNatClampNeg := by simpa [tk_up] using hk
        have := hG3.2.1 k hk2
        by_cases hkj : k = j
        · subst hkj
          simp [tk_up, this]
        · simp [tk_up, hkj, this]
      · have ht2 : t < (G 3 4).toNatClampNeg := by simpa [tk_up] using ht
        have := hG3.2.2.1 t ht2
        simp [tk_up, this]
      · have := hG3.2.2.2
        simp [tk_up, hB4, hB0, this]
    have hj8 : tk_in (nI j) 8 = true := tk_in_nI (n := 8) (by omega) (by decide)
    have hc : (nI j).toNatClampNeg = j := nI_clamp (by omega)
    have h25 : tk_up σ3 (B + 3) j x3 2 5 = σ3 2 5 := tk_up_p _ _ _ (hB4 3)
    rw [← h25] at key
    rw [← hc] at key
    rcases hB with rfl | rfl
    · refine tk_run (hT_X3_readDrain none) [] 80 _ ?_
      refine tk_ift hj8 ?_
      refine tk_ift hj8 ?_
      refine And.intro (Or.inr rfl) ?_
      rw [hc] at key ⊢
      exact key
    · refine tk_run (hT_X3_readDrain none) [] 80 _ ?_
      refine tk_ift hj8 ?_
      refine tk_ift hj8 ?_
      refine And.intro (Or.inr rfl) ?_
      rw [hc] at key ⊢
      exact key
  refine tk_ct rfl rfl (Nat.le_of_ble_eq_true rfl) (fun l D cy => tk_run (hT_X3_readDrain none) [53] 80 _ ?_)
  refine tk_ift (tk_twok hB) ?_
  refine tk_cc hr1 (fun v9 μ9 h9 => ?_)
  obtain ⟨rfl, σ1, rfl, hT1⟩ := h9
  refine And.intro (fun h1 => ?_) (fun h1 => ?_)
  all_goals try dsimp only [tk_c0, tk_c1, tk_c2, tk_c3, tk_c4, tk_c5, tk_c6, tk_c7, tk_c8, tk_c9, tk_c10, tk_c11, tk_c12, tk_c13] at h1
  all_goals rw [tk_i01, e3] at h1
  · refine And.intro (Or.inl rfl) ?_
    exact ⟨σ1, rfl, hT1.fF B, tk_RCn h1 hT1.2.1⟩
  · have h1 := Decidable.not_not.mp h1
    have hv1 := hT1.vv h1
    have f1 := hT1.f3
    have hG1 := hT1.CG hB hG
    have e31 := hG1.1 3 (by decide)
    rw [tk_ny h1]
    have hr2 := k_readNumber (σ := σ1) (a := a) (b := b) (τ := τ) (L := L) (p := tk_nx (σ 3) L n) (lo := 0) (hi := σ1 B 3 - 1) (by rw [f1]; exact hX) (by decide) hL (hT1.e1.trans e1) hn1.2 hT1.1
    rw [f1] at hr2
    refine tk_ift (tk_twok hB) ?_
    refine tk_cc hr2 (fun v9 μ9 h9 => ?_)
    obtain ⟨rfl, σ2, rfl, hT2⟩ := h9
    refine And.intro (fun h2 => ?_) (fun h2 => ?_)
    all_goals try dsimp only [tk_c0, tk_c1, tk_c2, tk_c3, tk_c4, tk_c5, tk_c6, tk_c7, tk_c8, tk_c9, tk_c10, tk_c11, tk_c12, tk_c13] at h2
    all_goals rw [tk_i01, e31] at h2
    · refine And.intro (Or.inl rfl) ?_
      refine ⟨σ2, rfl, (hT1.fF B).tr (hT2.fF B), tk_RCn h2 ?_⟩
      rw [hT2.2.1, f1]
    · have h2 := Decidable.not_not.mp h2
      have f2 : σ2 3 = σ 3 := hT2.f3.trans f1
      have hv2 : σ2 2 5 = tk_nv (σ 3) L (tk_nx (σ 3) L n) := by
        have := hT2.vv (lo := 0) (hi := G 3 3 - 1) (by rw [f1]; exact h2)
        rw [this, f1]
      rw [tk_ny h2]
      have hr3 := k_readNumber (σ := σ2) (a := a) (b := b) (τ := τ) (L := L) (p := tk_nx (σ 3) L (tk_nx (σ 3) L n)) (lo := 1) (hi := 4) (by rw [f2]; exact hX) (by decide) hL (hT2.e1.trans (hT1.e1.trans e1)) hn2.2 (by rw [hT2.1, f1])
      rw [f2] at hr3
      refine tk_cc hr3 (fun v9 μ9 h9 => ?_)
      obtain ⟨rfl, σ3, rfl, hT3⟩ := h9
      refine And.intro (fun h3 => ?_) (fun h3 => ?_)
      all_goals try dsimp only [tk_c0, tk_c1, tk_c2, tk_c3, tk_c4, tk_c5, tk_c6, tk_c7, tk_c8, tk_c9, tk_c10, tk_c11, tk_c12, tk_c13] at h3
      all_goals rw [tk_i01] at h3
      · refine And.intro (Or.inl rfl) ?_
        refine ⟨σ3, rfl, ((hT1.fF B).tr (hT2.fF B)).tr (hT3.fF B), tk_RCn h3 ?_⟩
        rw [hT3.2.1, f2]
      · have h3 := Decidable.not_not.mp h3
        have hv3 : σ3 2 5 = tk_nv (σ 3) L (tk_nx (σ 3) L (tk_nx (σ 3) L n)) := by
          have := hT3.vv (lo := 1) (hi := 4) (by rw [f2]; exact h3)
          rw [this, f2]
        have hG3 := hT3.CG hB (hT2.CG hB hG1)
        have hb1 := (tk_numI.mp h1).2.2.2
        have hKp : 0 < K := Nat.pos_of_ne_zero (fun h => by
          rw [eK, h] at hb1
          exact absurd (Int32.le_trans hb1.1 hb1.2) (by decide))
        obtain ⟨j, hj, ej⟩ : ∃ j, j < K ∧ tk_nv (σ 3) L n = nI j := by
          have hlt : tk_nv (σ 3) L n < nI K := by
            have := hb1.2
            rw [eK] at this
            exact (tk_le_sub1 (nI_pos' (by omega))).mp this
          exact tk_ix ⟨hb1.1, hlt⟩ (Int32.le_refl _) (by omega)
        rw [tk_ny h3, ej, nI_clamp (by omega)]
        have h9 := fin l D cy (σ2 2 5) j σ3 (fun v μ' => ∃ σ', μ' = (σ', tk_rho a b, τ, 62) ∧ tk_fF B σ σ' ∧ tk_RC σ' B (Sum.inr (tk_up (tk_up G 1 j (tk_nv (σ 3) L (tk_nx (σ 3) L n))) 2 j (tk_nv (σ 3) L (tk_nx (σ 3) L (tk_nx (σ 3) L n))), tk_nx (σ 3) L (tk_nx (σ 3) L (tk_nx (σ 3) L n)))) v) hj hG3 (fun σ' hf hCG => by
          rw [hv2, hv3] at hCG
          refine ⟨σ', rfl, fun x y hx hx2 => ?_, rfl, hCG, ?_⟩
          · rw [hf x y (by omega) (by omega)]
            exact ((hT1.fF B).tr (hT2.fF B)).tr (hT3.fF B) x y hx hx2
          · rw [hf _ _ (hB4 3) (hB4 4), hT3.1, f2])
        rw [← ej, ← hv1] at h9
        exact h9
end
