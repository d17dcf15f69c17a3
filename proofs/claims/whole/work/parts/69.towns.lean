/-! towns, on both sides -/
theorem tk_VE_ag {E F : Nat → Nat → Int32} {K : Nat} (hE : tk_VE E) (e3 : E 3 3 = nI K) (hK : K ≤ 8) (ag : tk_Ag K E F) : tk_VE F := by
  obtain ⟨h1, h2, h3, h4, h5, h6, h7⟩ := hE
  have a0 := ag.1 0 (by omega)
  have a1 := ag.1 1 (by omega)
  have a2 := ag.1 2 (by omega)
  have a3 := ag.1 3 (by omega)
  have a4 := ag.1 4 (by omega)
  refine ⟨by rw [← a0]; exact h1, by rw [← a0]; exact h2, by rw [← a0, ← a1]; exact h3, by rw [← a0, ← a2]; exact h4, by rw [← a3]; exact h5, by rw [← a4]; exact h6, fun k hk => ?_⟩
  have hk : tk_kI E k := by
    unfold tk_kI at hk ⊢
    rw [a3]
    exact hk
  obtain ⟨j, hj, _, cj⟩ := tk_kc e3 hK hk
  have := h7 k hk
  rw [cj, (ag.2 j hj).2.1, (ag.2 j hj).2.2.1] at this
  rw [cj]
  unfold tk_kI at this ⊢
  rw [← a3]
  exact this
theorem tk_VGE {G : Nat → Nat → Int32} (h : tk_VG G) : tk_VE G := by
  obtain ⟨K, N, hK, hN, eK, eN, h1, h2, h3, h4, h5, h6⟩ := h
  refine ⟨h1.1, h1.2, h2, h3, ⟨?_, ?_⟩, ⟨?_, ?_⟩, fun k hk => ?_⟩
  · rw [eK]; exact nI_pos' (by omega)
  · rw [eK]; exact nI_le hK (by omega)
  · rw [eN]; exact nI_pos' (by omega)
  · rw [eN]; exact nI_le hN (by omega)
  · obtain ⟨j, hj, _, cj⟩ := tk_kc eK hK hk
    obtain ⟨⟨i, hi, ei⟩, hd⟩ := h4 j hj
    rw [cj]
    refine ⟨?_, hd⟩
    rw [ei]
    exact ⟨nI_pos' (by omega), by rw [eK]; exact nI_lt hi (by omega)⟩
section
variable {a b K N P X L m : Nat} {σ σ1 : Nat → Nat → Int32} {τ : Nat → Nat → Int64}
theorem st_towns (h : tk_Inv a b σ τ) : tk_Two M_X6_towns M_X7_towns [] (σ, tk_rho a b, τ, 62) := by
  obtain ⟨K, N, P, X, L, m, m', h0, h1, h2, h3, h4, h5, h6, h7⟩ := id h
  obtain ⟨ha, hK, hN, hE, hF, ag, e3, e4⟩ := id h1
  obtain ⟨l1, l2, l3, l4, l5⟩ := id h5
  have ef : σ 3 = σ 48 := funext l4
  have hb := h0.1
  have hab := h0.2.1
  have hc := k_cTowns (τ := τ) ha hb (by rw [ef]; exact l5) l1 l2
  rw [ef] at hc
  have hba : ∀ i, i ≤ 5 → (4 ≤ a + i ∧ a + i ≤ 15) ∧ ¬ (b ≤ a + i ∧ a + i ≤ b + 5) := fun i hi => by
    rcases ha with rfl | rfl <;> rcases hb with rfl | rfl <;> omega
  have hbb : 4 ≤ b ∧ b + 5 ≤ 15 := by rcases hb with rfl | rfl <;> omega
  refine tk_ctP hc (fun v μ1 q => ?_)
  rcases q with ⟨q, σ1, hmn, rfl, rfl, hf⟩ | ⟨x, σ1, hmn, rfl, rfl, hTC⟩
  · have T1 : tk_Tx (σ 48) L σ1 := ⟨funext fun y => hf 48 y (by omega) (by omega), (hf 47 3 (by omega) (by omega)).trans l3, l5, l1⟩
    refine ⟨_, σ1, _, τ, rfl, rfl, tk_ctP (k_mTowns ((hf 47 0 (by omega) (by omega)).trans h0.2.2.1) T1) (fun v' μ2 w => ?_)⟩
    rcases w with ⟨q', σ2, hmn', rfl, rfl, hf2⟩ | ⟨x, σ2, hmn', _⟩
    · obtain rfl : q = q' := Sum.inl.inj (hmn.symm.trans hmn')
      have fr : ∀ x y, ¬ (b ≤ x ∧ x ≤ b + 5) → ¬ (x = 2 ∧ 2 ≤ y) → ¬ (x = 47 ∧ 4 ≤ y ∧ y ≤ 10) → ¬ (x = 49 ∧ 5 ≤ y) → ¬ (50 ≤ x ∧ x ≤ 53 ∧ 8 ≤ y) → x ≠ 54 → σ2 x y = σ x y := fun x y g1 g2 g3 g4 g5 g6 => by
        rw [hf2 x y g3 g4 g5 g6, hf x y g1 g2]
      have eE : tk_E σ2 a = tk_E σ a := by
        funext i k
        have b0 := hba 0 (by omega)
        have b1 := hba 1 (by omega)
        have b2 := hba 2 (by omega)
        have b3 := hba 3 (by omega)
        have b4 := hba 4 (by omega)
        unfold tk_E
        split
        · exact fr _ _ b2.2 (by omega) (by omega) (by omega) (by omega) (by omega)
        · exact fr _ _ b3.2 (by omega) (by omega) (by omega) (by omega) (by omega)
        · exact fr _ _ b4.2 (by omega) (by omega) (by omega) (by omega) (by omega)
        · exact fr _ _ b0.2 (by omega) (by omega) (by omega) (by omega) (by omega)
        · exact fr _ _ b1.2 (by omega) (by omega) (by omega) (by omega) (by omega)
      have b0 := hba 0 (by omega)
      have ag' : tk_Ag K (tk_E σ2 a) (tk_F σ2) := by
        rw [eE]
        refine ⟨fun y hy => ?_, fun k hk => ?_⟩
        · rw [ag.1 y hy]
          have hy5 : y = 0 ∨ y = 1 ∨ y = 2 ∨ y = 3 ∨ y = 4 := by omega
          rcases hy5 with rfl | rfl | rfl | rfl | rfl
          · exact (fr 49 2 (by omega) (by omega) (by omega) (by omega) (by omega) (by omega)).symm
          · exact (fr 49 3 (by omega) (by omega) (by omega) (by omega) (by omega) (by omega)).symm
          · exact (fr 49 4 (by omega) (by omega) (by omega) (by omega) (by omega) (by omega)).symm
          · exact (fr 49 0 (by omega) (by omega) (by omega) (by omega) (by omega) (by omega)).symm
          · exact (fr 49 1 (by omega) (by omega) (by omega) (by omega) (by omega) (by omega)).symm
        · obtain ⟨g0, g1, g2, g4⟩ := ag.2 k hk
          exact ⟨g0.trans (fr 51 k (by omega) (by omega) (by omega) (by omega) (by omega) (by omega)).symm, g1.trans (fr 52 k (by omega) (by omega) (by omega) (by omega) (by omega) (by omega)).symm, g2.trans (fr 53 k (by omega) (by omega) (by omega) (by omega) (by omega) (by omega)).symm, g4.trans (fr 50 k (by omega) (by omega) (by omega) (by omega) (by omega) (by omega)).symm⟩
      have hE' : tk_VE (tk_E σ2 a) := by rw [eE]; exact hE
      have e3' : σ2 a 3 = nI K := (fr a 3 b0.2 (by omega) (by omega) (by omega) (by omega) (by omega)).trans e3
      have e4' : σ2 a 4 = nI N := (fr a 4 b0.2 (by omega) (by omega) (by omega) (by omega) (by omega)).trans e4
      exact ⟨rfl, a, b, σ2, τ, rfl, K, N, P, X, L, m, m', h0.c (fr _ _ (by omega) (by omega) (by omega) (by omega) (by omega) (by omega)), ⟨ha, hK, hN, hE', tk_VE_ag hE' e3' hK ag', ag', e3', e4'⟩, tk_I2.c hN h2 (fun x y q => fr _ _ (by omega) (by omega) (by omega) (by omega) (by omega) (by omega)), h3.c hN (fun x y q => fr _ _ (by omega) (by omega) (by omega) (by omega) (by omega) (by omega)), h4.c hN (fun x y q => fr _ _ (by omega) (by omega) (by omega) (by omega) (by omega) (by omega)), h5.c (fun x y q => fr _ _ (by omega) (by omega) (by omega) (by omega) (by omega) (by omega)), h6.c (fun x y q => fr _ _ (by omega) (by omega) (by omega) (by omega) (by omega) (by omega)), h7.c (fun x y q => fr _ _ (by omega) (by omega) (by omega) (by omega) (by omega) (by omega))⟩
    · exact absurd (hmn.symm.trans hmn') (by intro z; cases z)
  · obtain ⟨c1, c2, c3, c4, c5, c6, c7, c8, c9, c10, c11, c12⟩ := hTC
    have u47 : ∀ x y, 47 ≤ x → σ1 x y = σ x y := fun x y hx => c12 x y (by omega) (by omega) (by omega) (by omega) (by omega) (by omega) (by omega) (by omega)
    have T1 : tk_Tx (σ 48) L σ1 := ⟨funext fun y => u47 48 y (by omega), (u47 47 3 (by omega)).trans l3, l5, l1⟩
    refine ⟨_, σ1, _, τ, rfl, rfl, tk_ctP (k_mTowns ((u47 47 0 (by omega)).trans h0.2.2.1) T1) (fun v' μ2 w => ?_)⟩
    rcases w with ⟨q', σ2, hmn', _⟩ | ⟨x', σ2, hmn', rfl, rfl, d1, d2, d3, d4, d5⟩
    · exact absurd (hmn.symm.trans hmn') (by intro z; cases z)
    · obtain rfl : x = x' := Sum.inr.inj (hmn.symm.trans hmn')
      have hV := (tk_main_r (L + 1) tk_G0 0 0 x (by omega) (by omega) tk_G0V hmn).1
      obtain ⟨K', N', hK', hN', eK, eN, v1, v2, v3, v4, v5, v6⟩ := id hV
      have cK : (x.1 3 3).toNatClampNeg = K' := by rw [eK, nI_clamp (by omega)]
      have cN : (x.1 3 4).toNatClampNeg = N' := by rw [eN, nI_clamp (by omega)]
      rw [cN] at c5 c11 d3
      rw [cK] at d2
      have ua : ∀ x y, x < 47 → σ2 x y = σ1 x y := fun x y g => d5 x y (by omega) (by omega) (by omega)
      have fr : ∀ x y, x ≠ 2 → ¬ (b ≤ x ∧ x ≤ b + 5) → x ≠ 16 → ¬ (18 ≤ x ∧ x ≤ 22) → ¬ (x = 23 ∧ y = 1) → ¬ (x = 39 ∧ y = 2) → ¬ (x = 42 ∧ y = 2) → x ≠ 38 → ¬ (x = 47 ∧ ((3 ≤ y ∧ y ≤ 10) ∨ y = 20 ∨ y = 23 ∨ y = 26)) → ¬ (49 ≤ x ∧ x ≤ 55) → x ≠ 57 → σ2 x y = σ x y := fun x y g1 g2 g3 g4 g5 g6 g7 g8 g9 g10 g11 => by
        rw [d5 x y g9 g10 g11, c12 x y g1 g2 g3 g4 g5 g6 g7 g8]
      have agE : tk_Ag K' x.1 (tk_E σ2 b) := by
        refine ⟨fun y hy => ?_, fun k hk => ?_⟩
        · show x.1 3 y = σ2 b y
          rw [ua _ _ (by omega)]
          exact (c2.1 y hy).symm
        · obtain ⟨g4, g0, g1, g2⟩ := c2.2.1 k (by rw [cK]; exact hk)
          refine ⟨?_, ?_, ?_, ?_⟩
          · show x.1 0 k = σ2 (b + 2) k
            rw [ua _ _ (by omega)]
            exact g0.symm
          · show x.1 1 k = σ2 (b + 3) k
            rw [ua _ _ (by omega)]
            exact g1.symm
          · show x.1 2 k = σ2 (b + 4) k
            rw [ua _ _ (by omega)]
            exact g2.symm
          · show x.1 4 k = σ2 (b + 1) k
            rw [ua _ _ (by omega)]
            exact g4.symm
      have agF : tk_Ag K' x.1 (tk_F σ2) := by
        refine ⟨fun y hy => ?_, fun k hk => ?_⟩
        · have hy5 : y = 0 ∨ y = 1 ∨ y = 2 ∨ y = 3 ∨ y = 4 := by omega
          rcases hy5 with rfl | rfl | rfl | rfl | rfl
          · exact d1.1.symm
          · exact d1.2.1.symm
          · exact d1.2.2.1.symm
          · exact d1.2.2.2.1.symm
          · exact d1.2.2.2.2.symm
        · obtain ⟨g4, g0, g1, g2⟩ := d2 k hk
          exact ⟨g0.symm, g1.symm, g2.symm, g4.symm⟩
      have agEF : tk_Ag K' (tk_E σ2 b) (tk_F σ2) := ⟨fun y hy => (agE.1 y hy).symm.trans (agF.1 y hy), fun k hk => by
        obtain ⟨g0, g1, g2, g4⟩ := agE.2 k hk
        obtain ⟨i0, i1, i2, i4⟩ := agF.2 k hk
        exact ⟨g0.symm.trans i0, g1.symm.trans i1, g2.symm.trans i2, g4.symm.trans i4⟩⟩
      have hG := tk_VGE hV
      obtain ⟨f3, f23, f26, f20, f570, f571⟩ := d4
      refine ⟨rfl, b, a, σ2, τ, rfl, K', N', 0, X, 0, 0, 0, ⟨ha, fun z => hab z.symm, (fr 47 0 (by omega) (by omega) (by omega) (by omega) (by omega) (by omega) (by omega) (by omega) (by omega) (by omega) (by omega)).trans h0.2.2.1, h0.2.2.2⟩, ⟨hb, hK', hN', tk_VE_ag hG eK hK' agE, tk_VE_ag hG eK hK' agF, agEF, ?_, ?_⟩, ⟨⟨0, by omega, ?_, ?_⟩, ⟨0, by omega, ?_, ?_⟩, ⟨0, Nat.pow_pos (by omega), ?_, fun i hi => ?_⟩, fun i hi => ?_, fun i hi => ?_⟩, ⟨by omega, h3.2.1, ?_, ?_, f20.trans rfl, fun i hi => absurd hi (Nat.not_lt_zero i)⟩, fun i hi => ?_, ⟨by omega, ?_, f3.trans rfl, fun i => ?_, fun i hi => absurd hi (Nat.not_lt_zero i)⟩, ⟨by omega, ?_, f23.trans rfl, fun i hi => absurd hi (Nat.not_lt_zero i)⟩, ⟨by omega, ?_, f26.trans rfl, fun i hi => absurd hi (Nat.not_lt_zero i)⟩⟩
      · exact (agE.1 3 (by omega)).symm.trans eK
      · exact (agE.1 4 (by omega)).symm.trans eN
      · exact (ua 16 0 (by omega)).trans c3
      · rw [d3 0 (by omega), if_neg (by omega)]
        rfl
      · exact (ua 16 1 (by omega)).trans c4
      · rw [d3 12 (by omega), if_neg (by omega)]
        rfl
      · rw [d3 11 (by omega), if_neg (by omega)]
        rfl
      · rw [tk_NV2, ua _ _ (by omega), (c5 i hi).2.2, Nat.zero_div]
        rfl
      · obtain ⟨g0, g1, g2⟩ := c5 i hi
        obtain ⟨j, hj, ej⟩ := v5 i hi
        rw [tk_NV0, tk_NV1, tk_NV2, ua (18 + i) 0 (by omega), ua (18 + i) 1 (by omega), ua (18 + i) 2 (by omega), g0, g1, g2, d3 (1 + i) (by omega), d3 (6 + i) (by omega), if_pos (by omega), if_neg (by omega), show 1 + i - 1 = i by omega]
        exact ⟨rfl, rfl, ⟨j, hj, ej⟩, ⟨0, by omega, rfl⟩, fun _ => rfl⟩
      · rw [tk_NV2, ua _ _ (by omega)]
        by_cases hiN : i < N'
        · exact Or.inl (c5 i hiN).2.2
        · rw [c11 _ _ (by omega) (by omega)]
          exact tk_h01of h2 i hi
      · exact (ua _ _ (by omega)).trans c6
      · rw [fr 23 2 (by omega) (by omega) (by omega) (by omega) (by omega) (by omega) (by omega) (by omega) (by omega) (by omega) (by omega)]
        exact h3.2.2.2.1
      · have hi2 : i = 0 ∨ i = 1 := by omega
        rcases hi2 with rfl | rfl
        · rw [ua 38 0 (by omega), c9, f570]
          exact ⟨Or.inl rfl, rfl, fun z => absurd rfl z⟩
        · rw [ua 38 1 (by omega), c10, f571]
          exact ⟨Or.inl rfl, rfl, fun z => absurd rfl z⟩
      · exact (ua _ _ (by omega)).trans c1
      · rw [fr 3 i (by omega) (by omega) (by omega) (by omega) (by omega) (by omega) (by omega) (by omega) (by omega) (by omega) (by omega), fr 48 i (by omega) (by omega) (by omega) (by omega) (by omega) (by omega) (by omega) (by omega) (by omega) (by omega) (by omega)]
        exact l4 i
      · exact (ua _ _ (by omega)).trans c7
      · exact (ua _ _ (by omega)).trans c8
end
