/-! odds, of both sides -/
/-- the answer of odds -/
def tk_oA (E : Nat → Nat → Int32) (t d : Int32) (s : Int32 × Int32) (k n x w : Int32) : Int32 :=
  (if w = 0 then nI (tk_uo E t d s k x.toNatClampNeg n.toNatClampNeg (2 ^ n.toNatClampNeg)) else nI (10 ^ n.toNatClampNeg)) / nI (Nat.gcd (tk_uo E t d s k x.toNatClampNeg n.toNatClampNeg (2 ^ n.toNatClampNeg)) (10 ^ n.toNatClampNeg))
theorem tk_10n : ∀ n, n < 5 → 0 < 10 ^ n ∧ 10 ^ n ≤ 10000 := by decide +kernel
section
variable {t k u w n x : Int32} {σ : Nat → Nat → Int32} {a b : Nat} {τ : Nat → Nat → Int64}
theorem k_cOdds (ha : tk_tw a) (hE : tk_VE (tk_E σ a)) (hT : tk_CT a σ) :
    tk_Ct M_X6_odds [.ref 1, .int t, .int k, .int n, .int x, .int w] (σ, tk_rho a b, τ, 62) (fun v μ' => v = some (.int (if (0 ≤ t ∧ t < σ a 4) ∧ (0 ≤ k ∧ k < σ a 3) ∧ (0 ≤ n ∧ n ≤ 4) ∧ (0 ≤ x ∧ x ≤ 10) ∧ (0 ≤ w ∧ w ≤ 1) then tk_oA (tk_E σ a) (σ 16 0) (σ (18 + t.toNatClampNeg) 2) (σ (18 + t.toNatClampNeg) 0, σ (18 + t.toNatClampNeg) 1) k n x w else -1)) ∧ ∃ σ', μ' = (σ', tk_rho a b, τ, 62) ∧ tk_Sc σ σ') := by
  have hf0 : tk_Sc σ σ := tk_Sc.rf
  refine tk_ct rfl rfl (Nat.le_of_ble_eq_true rfl) (fun l D cy => tk_run (hT_X6_odds none) [60] 60 _ ?_)
  refine tk_ift (tk_twok ha) ?_
  refine tk_cc (k_isThing ha) (fun v9 μ9 h9 => ?_)
  obtain ⟨rfl, rfl⟩ := h9
  refine And.intro (fun h1 => ?_) (fun h1 => ?_)
  all_goals try dsimp only [tk_c0, tk_c1, tk_c2, tk_c3, tk_c4, tk_c5, tk_c6, tk_c7, tk_c8, tk_c9, tk_c10, tk_c11, tk_c12, tk_c13] at h1
  · refine And.intro ?_ ⟨_, rfl, hf0⟩
    rw [if_neg (fun h => tk_b0.mp h1 h.1)]
  · have h1 := Decidable.not_not.mp (fun h => h1 (tk_b0.mpr h))
    refine tk_ift (tk_twok ha) ?_
    refine tk_cc (k_isKerb ha) (fun v9 μ9 h9 => ?_)
    obtain ⟨rfl, rfl⟩ := h9
    refine And.intro (fun h2 => ?_) (fun h2 => ?_)
    all_goals try dsimp only [tk_c0, tk_c1, tk_c2, tk_c3, tk_c4, tk_c5, tk_c6, tk_c7, tk_c8, tk_c9, tk_c10, tk_c11, tk_c12, tk_c13] at h2
    · refine And.intro ?_ ⟨_, rfl, hf0⟩
      rw [if_neg (fun h => tk_b0.mp h2 h.2.1)]
    · have h2 := Decidable.not_not.mp (fun h => h2 (tk_b0.mpr h))
      refine tk_cc (k_isWithin _ _ _ _) (fun v9 μ9 h9 => ?_)
      obtain ⟨rfl, rfl⟩ := h9
      refine And.intro (fun h3 => ?_) (fun h3 => ?_)
      all_goals try dsimp only [tk_c0, tk_c1, tk_c2, tk_c3, tk_c4, tk_c5, tk_c6, tk_c7, tk_c8, tk_c9, tk_c10, tk_c11, tk_c12, tk_c13] at h3
      · refine And.intro ?_ ⟨_, rfl, hf0⟩
        rw [if_neg (fun h => tk_b0.mp h3 h.2.2.1)]
      · have h3 := Decidable.not_not.mp (fun h => h3 (tk_b0.mpr h))
        refine tk_cc (k_isWithin _ _ _ _) (fun v9 μ9 h9 => ?_)
        obtain ⟨rfl, rfl⟩ := h9
        refine And.intro (fun h4 => ?_) (fun h4 => ?_)
        all_goals try dsimp only [tk_c0, tk_c1, tk_c2, tk_c3, tk_c4, tk_c5, tk_c6, tk_c7, tk_c8, tk_c9, tk_c10, tk_c11, tk_c12, tk_c13] at h4
        · refine And.intro ?_ ⟨_, rfl, hf0⟩
          rw [if_neg (fun h => tk_b0.mp h4 h.2.2.2.1)]
        · have h4 := Decidable.not_not.mp (fun h => h4 (tk_b0.mpr h))
          refine tk_cc (k_isWithin _ _ _ _) (fun v9 μ9 h9 => ?_)
          obtain ⟨rfl, rfl⟩ := h9
          refine And.intro (fun h5 => ?_) (fun h5 => ?_)
          all_goals try dsimp only [tk_c0, tk_c1, tk_c2, tk_c3, tk_c4, tk_c5, tk_c6, tk_c7, tk_c8, tk_c9, tk_c10, tk_c11, tk_c12, tk_c13] at h5
          · refine And.intro ?_ ⟨_, rfl, hf0⟩
            rw [if_neg (fun h => tk_b0.mp h5 h.2.2.2.2)]
          · have h5 := Decidable.not_not.mp (fun h => h5 (tk_b0.mpr h))
            rw [if_pos ⟨h1, h2, h3, h4, h5⟩]
            obtain ⟨j0, hj0, rfl⟩ := tk_ix h1 hE.2.2.2.2.2.1.2 (by decide)
            obtain ⟨N, hN, rfl⟩ := nI_of2 (M := 4) (n := 4) rfl (Int32.not_lt.mpr h3.1) h3.2
            obtain ⟨X, hX, rfl⟩ := nI_of2 (M := 10) (n := 10) rfl (Int32.not_lt.mpr h4.1) h4.2
            have hs := hT j0 (by omega) h1.2
            have h16 := tk_2n (n := N) (by omega)
            have h10 := tk_10n N (by omega)
            rw [tk_oA, nI_clamp (by omega), nI_clamp (by omega), nI_clamp (by omega)]
            have loop : ∀ (m j : Nat) (i c : Int32) (L8 : Option Value) (σi : Nat → Nat → Int32), i = nI j → j + m = 2 ^ N → c = nI (tk_uo (tk_E σ a) (σ 16 0) (σ (18 + j0) 2) (σ (18 + j0) 0, σ (18 + j0) 1) k X N j) → tk_Sc σ σi →
                tk_J l D cy none M_X6_odds (60, [some (.ref 1), some (.int (nI j0)), some (.int k), some (.int (nI N)), some (.int (nI X)), some (.int w), some (.int c), some (.int i), L8], [], (σi, tk_rho a b, τ, 62), 0, 0)
                  (fun v μ' => v = some (.int ((if w = 0 then nI (tk_uo (tk_E σ a) (σ 16 0) (σ (18 + j0) 2) (σ (18 + j0) 0, σ (18 + j0) 1) k X N (2 ^ N)) else nI (10 ^ N)) / nI (Nat.gcd (tk_uo (tk_E σ a) (σ 16 0) (σ (18 + j0) 2) (σ (18 + j0) 0, σ (18 + j0) 1) k X N (2 ^ N)) (10 ^ N)))) ∧ ∃ σ', μ' = (σ', tk_rho a b, τ, 62) ∧ tk_Sc σ σ') := by
              intro m
              induction m with
              | zero =>
                intro j i c L8 σi hi hj hc hf
                subst hi
                subst hc
                obtain rfl : j = 2 ^ N := by omega
                have hU := tk_uo_le (E := tk_E σ a) (t := σ 16 0) (d := σ (18 + j0) 2) (s := (σ (18 + j0) 0, σ (18 + j0) 1)) (k := k) (x := X) (n := N) (by omega) (by omega) (2 ^ N) (Nat.le_refl _)
                generalize tk_uo (tk_E σ a) (σ 16 0) (σ (18 + j0) 2) (σ (18 + j0) 0, σ (18 + j0) 1) k X N (2 ^ N) = U at hU ⊢
                have hg0 : 0 < Nat.gcd U (10 ^ N) := Nat.gcd_pos_of_pos_right _ h10.1
                have hgl : Nat.gcd U (10 ^ N) ≤ 10 ^ N := Nat.gcd_le_right _ h10.1
                have hgn : ¬ nI (Nat.gcd U (10 ^ N)) = 0 := nI_ne0 hg0 (by omega)
                have hcd := k_commonDivisor (x := U) (y := 10 ^ N) (μ := (σi, tk_rho a b, τ, 62)) (by omega) (by omega) h10.1
                rw [← tk_pw10 N (by omega)] at hcd
                refine tk_run (hT_X6_odds none) [60] 80 _ ?_
                refine And.intro (fun h6 => ?_) (fun h6 => ?_)
                all_goals try dsimp only [tk_c0, tk_c1, tk_c2, tk_c3, tk_c4, tk_c5, tk_c6, tk_c7, tk_c8, tk_c9, tk_c10, tk_c11, tk_c12, tk_c13] at h6
                · refine tk_cc (k_power hN) (fun v9 μ9 h9 => ?_)
                  obtain ⟨rfl, rfl⟩ := h9
                  refine And.intro (fun h7 => ?_) (fun h7 => ?_)
                  all_goals try dsimp only [tk_c0, tk_c1, tk_c2, tk_c3, tk_c4, tk_c5, tk_c6, tk_c7, tk_c8, tk_c9, tk_c10, tk_c11, tk_c12, tk_c13] at h7
                  · refine tk_cc (hcd) (fun v9 μ9 h9 => ?_)
                    obtain ⟨rfl, rfl⟩ := h9
                    refine And.intro hgn (And.intro ?_ ⟨σi, rfl, hf⟩)
                    rw [if_pos h7]
                  · refine tk_cc (hcd) (fun v9 μ9 h9 => ?_)
                    obtain ⟨rfl, rfl⟩ := h9
                    refine And.intro hgn (And.intro ?_ ⟨σi, rfl, hf⟩)
                    rw [if_neg h7, ← tk_pw10 N (by omega)]
                · exact absurd (by rw [tk_sh2 N (by omega)]; exact Int32.le_refl _) h6
              | succ m ih =>
                intro j i c L8 σi hi hj hc hf
                subst hi
                have hlies : ∀ σ3 : Nat → Nat → Int32, (σ3 45 0, σ3 45 1) = tk_iW (tk_E σ a) (σ 16 0) (σ (18 + j0) 2) (nI j) N (σ (18 + j0) 0, σ (18 + j0) 1) → ((σ3 45 1 = 0 ∧ σ3 45 0 = k) ↔ ((tk_iW (tk_E σ a) (σ 16 0) (σ (18 + j0) 2) (nI j) N (σ (18 + j0) 0, σ (18 + j0) 1)).2 = 0 ∧ (tk_iW (tk_E σ a) (σ 16 0) (σ (18 + j0) 2) (nI j) N (σ (18 + j0) 0, σ (18 + j0) 1)).1 = k)) := fun σ3 h => by rw [← h]
                have k0 : σi (18 + j0) 0 = σ (18 + j0) 0 := hf _ _ (by omega) (by omega)
                have k1 : σi (18 + j0) 1 = σ (18 + j0) 1 := hf _ _ (by omega) (by omega)
                have k2 : σi (18 + j0) 2 = σ (18 + j0) 2 := hf _ _ (by omega) (by omega)
                obtain ⟨ho1, ho2, cb, hcb, ebc, epw⟩ := tk_ow_oN X (by omega) N (by omega) j (by omega)
                refine tk_run (hT_X6_odds none) [60] 80 _ ?_
                refine And.intro (fun h6 => ?_) (fun h6 => ?_)
                all_goals try dsimp only [tk_c0, tk_c1, tk_c2, tk_c3, tk_c4, tk_c5, tk_c6, tk_c7, tk_c8, tk_c9, tk_c10, tk_c11, tk_c12, tk_c13] at h6
                · exact absurd h6 (by rw [tk_sh2 N (by omega)]; exact nI_ge (by omega) (by omega))
                · refine tk_ift (tk_in_nI (n := 5) hj0 (by decide)) ?_
                  refine tk_osi (by rw [nI_clamp (by omega)]; exact tk_th hj0) ?_
                  refine tk_cc (k_becomes (p := 45) rfl (tk_thok hj0) (by omega) (by rw [k2]; exact tk_VT01 hs.2)) (fun v9 μ9 h9 => ?_)
                  obtain ⟨rfl, rfl⟩ := h9
                  refine tk_cc (k_passSomeWeak hN ha hE hs.1 hs.2 (tk_bec hf (Or.inl rfl) _ _ _) ((tk_up_at _ _ _ _).trans k2) (by rw [tk_up_k _ _ _ (by decide), tk_up_k _ _ _ (by decide), tk_up_at, tk_up_k _ _ _ (by decide), tk_up_at, k0, k1])) (fun v9 μ9 h9 => ?_)
                  obtain ⟨rfl, σ3, rfl, hf3, hv3⟩ := h9
                  have hl := hlies σ3 hv3
                  refine tk_cc (k_liesOn (p := 45) rfl) (fun v9 μ9 h9 => ?_)
                  obtain ⟨rfl, rfl⟩ := h9
                  refine And.intro (fun h7 => ?_) (fun h7 => ?_)
                  all_goals try dsimp only [tk_c0, tk_c1, tk_c2, tk_c3, tk_c4, tk_c5, tk_c6, tk_c7, tk_c8, tk_c9, tk_c10, tk_c11, tk_c12, tk_c13] at h7
                  · refine ih (j + 1) _ _ _ σ3 (nI_1 j) (by omega) ?_ hf3
                    rw [tk_uo, if_neg (fun h => tk_b0.mp h7 (hl.mpr h)), Nat.add_zero]
                    exact hc
                  · have h7 := Decidable.not_not.mp (fun h => h7 (tk_b0.mpr h))
                    have hb := k_bitCount (x := nI j) (μ := (σ3, tk_rho a b, τ, 62))
                    rw [ebc] at hb
                    refine tk_cc (hb) (fun v9 μ9 h9 => ?_)
                    obtain ⟨rfl, rfl⟩ := h9
                    refine tk_cc (k_power (by omega)) (fun v9 μ9 h9 => ?_)
                    obtain ⟨rfl, rfl⟩ := h9
                    have hp2 := k_power (p := 10 - nI X) (n := N - cb) (μ := (σ3, tk_rho a b, τ, 62)) (by omega)
                    rw [← pk_sub hcb] at hp2
                    refine tk_cc (hp2) (fun v9 μ9 h9 => ?_)
                    obtain ⟨rfl, rfl⟩ := h9
                    refine ih (j + 1) _ _ _ σ3 (nI_1 j) (by omega) ?_ hf3
                    dsimp only
                    rw [tk_uo, if_pos (hl.mp h7), hc, epw, nI_add]
            exact loop (2 ^ N) 0 _ _ _ σ rfl (by omega) rfl hf0
theorem k_mOdds (hz : σ 47 0 = 0) (hE : tk_VE (tk_F σ)) (hT : tk_MT σ) :
    tk_Ct M_X7_odds [.ref 47, .int t, .int k, .int n, .int x, .int w] (σ, tk_rho a b, τ, 62) (fun v μ' => v = some (.int (if (0 ≤ t ∧ t < σ 49 1) ∧ (0 ≤ k ∧ k < σ 49 0) ∧ (0 ≤ n ∧ n ≤ 4) ∧ (0 ≤ x ∧ x ≤ 10) ∧ (0 ≤ w ∧ w ≤ 1) then tk_oA (tk_F σ) (σ 55 0) (tk_mt σ t) (σ 55 (1 + t.toNatClampNeg), σ 55 (6 + t.toNatClampNeg)) k n x w else -1)) ∧ ∃ σ', μ' = (σ', tk_rho a b, τ, 62) ∧ tk_Sm σ σ') := by
  have hf0 : tk_Sm σ σ := tk_Sm.rf
  refine tk_ct rfl rfl (Nat.le_of_ble_eq_true rfl) (fun l D cy => tk_thr (hT_X7_odds none) rfl rfl rfl hz (tk_run (hT_X7_odds none) [62] 60 _ ?_))
  refine tk_cc (k_mThing hE.2.2.2.2.2.1.1) (fun v9 μ9 h9 => ?_)
  obtain ⟨rfl, rfl⟩ := h9
  refine And.intro (fun h1 => ?_) (fun h1 => ?_)
  all_goals try dsimp only [tk_c0, tk_c1, tk_c2, tk_c3, tk_c4, tk_c5, tk_c6, tk_c7, tk_c8, tk_c9, tk_c10, tk_c11, tk_c12, tk_c13] at h1
  · refine And.intro ?_ ⟨_, rfl, hf0⟩
    rw [if_neg (fun h => tk_b0.mp h1 h.1)]
  · have h1 := Decidable.not_not.mp (fun h => h1 (tk_b0.mpr h))
    refine tk_cc (k_mKerb hE.2.2.2.2.1.1) (fun v9 μ9 h9 => ?_)
    obtain ⟨rfl, rfl⟩ := h9
    refine And.intro (fun h2 => ?_) (fun h2 => ?_)
    all_goals try dsimp only [tk_c0, tk_c1, tk_c2, tk_c3, tk_c4, tk_c5, tk_c6, tk_c7, tk_c8, tk_c9, tk_c10, tk_c11, tk_c12, tk_c13] at h2
    · refine And.intro ?_ ⟨_, rfl, hf0⟩
      rw [if_neg (fun h => tk_b0.mp h2 h.2.1)]
    · have h2 := Decidable.not_not.mp (fun h => h2 (tk_b0.mpr h))
      refine tk_cc (k_in _ _ _ _) (fun v9 μ9 h9 => ?_)
      obtain ⟨rfl, rfl⟩ := h9
      refine And.intro (fun h3 => ?_) (fun h3 => ?_)
      all_goals try dsimp only [tk_c0, tk_c1, tk_c2, tk_c3, tk_c4, tk_c5, tk_c6, tk_c7, tk_c8, tk_c9, tk_c10, tk_c11, tk_c12, tk_c13] at h3
      · refine And.intro ?_ ⟨_, rfl, hf0⟩
        rw [if_neg (fun h => tk_b0.mp h3 h.2.2.1)]
      · have h3 := Decidable.not_not.mp (fun h => h3 (tk_b0.mpr h))
        refine tk_cc (k_in _ _ _ _) (fun v9 μ9 h9 => ?_)
        obtain ⟨rfl, rfl⟩ := h9
        refine And.intro (fun h4 => ?_) (fun h4 => ?_)
        all_goals try dsimp only [tk_c0, tk_c1, tk_c2, tk_c3, tk_c4, tk_c5, tk_c6, tk_c7, tk_c8, tk_c9, tk_c10, tk_c11, tk_c12, tk_c13] at h4
        · refine And.intro ?_ ⟨_, rfl, hf0⟩
          rw [if_neg (fun h => tk_b0.mp h4 h.2.2.2.1)]
        · have h4 := Decidable.not_not.mp (fun h => h4 (tk_b0.mpr h))
          refine tk_cc (k_in _ _ _ _) (fun v9 μ9 h9 => ?_)
          obtain ⟨rfl, rfl⟩ := h9
          refine And.intro (fun h5 => ?_) (fun h5 => ?_)
          all_goals try dsimp only [tk_c0, tk_c1, tk_c2, tk_c3, tk_c4, tk_c5, tk_c6, tk_c7, tk_c8, tk_c9, tk_c10, tk_c11, tk_c12, tk_c13] at h5
          · refine And.intro ?_ ⟨_, rfl, hf0⟩
            rw [if_neg (fun h => tk_b0.mp h5 h.2.2.2.2)]
          · have h5 := Decidable.not_not.mp (fun h => h5 (tk_b0.mpr h))
            rw [if_pos ⟨h1, h2, h3, h4, h5⟩]
            obtain ⟨j0, hj0, rfl⟩ := tk_ix h1 hE.2.2.2.2.2.1.2 (by decide)
            obtain ⟨N, hN, rfl⟩ := nI_of2 (M := 4) (n := 4) rfl (Int32.not_lt.mpr h3.1) h3.2
            obtain ⟨X, hX, rfl⟩ := nI_of2 (M := 10) (n := 10) rfl (Int32.not_lt.mpr h4.1) h4.2
            have hs := hT j0 (by omega) h1.2
            have h16 := tk_2n (n := N) (by omega)
            have h10 := tk_10n N (by omega)
            rw [tk_oA, nI_clamp (by omega), nI_clamp (by omega), nI_clamp (by omega)]
            generalize hdd : tk_mt σ (nI j0) = d
            generalize hss : (σ 55 (1 + j0), σ 55 (6 + j0)) = s at hs ⊢
            generalize hq : (fun (v : Option Value) (μ' : tk_Me) => v = some (.int ((if w = 0 then nI (tk_uo (tk_F σ) (σ 55 0) d s k X N (2 ^ N)) else nI (10 ^ N)) / nI (Nat.gcd (tk_uo (tk_F σ) (σ 55 0) d s k X N (2 ^ N)) (10 ^ N)))) ∧ ∃ σ', μ' = (σ', tk_rho a b, τ, 62) ∧ tk_Sm σ σ') = q
            have loop3 : ∀ (wk : Nat) (c : Int32), wk < 2 ^ N → (∀ σ' L11, tk_Sm σ σ' → (σ' 47 27, σ' 47 28) = tk_iW (tk_F σ) (σ 55 0) d (nI wk) N s → tk_J l D cy none M_X7_odds (190, [some (.ref 47), some (.int (nI j0)), some (.int k), some (.int (nI N)), some (.int (nI X)), some (.int w), some (.int c), some (.int (nI (10 ^ N))), some (.int (nI wk)), some (.int (tk_ow (nI X) (nI wk) N)), some (.int (nI N)), L11], [], (σ', tk_rho a b, τ, 62), 0, 0) q) →
                ∀ (m j : Nat) (i o : Int32) (L11 : Option Value) (σi : Nat → Nat → Int32), i = nI j → j + m = N → o = tk_ow (nI X) (nI wk) j → tk_Sm σ σi → (σi 47 27, σi 47 28) = tk_iW (tk_F σ) (σ 55 0) d (nI wk) j s →
                tk_J l D cy none M_X7_odds (103, [some (.ref 47), some (.int (nI j0)), some (.int k), some (.int (nI N)), some (.int (nI X)), some (.int w), some (.int c), some (.int (nI (10 ^ N))), some (.int (nI wk)), some (.int o), some (.int i), L11], [], (σi, tk_rho a b, τ, 62), 0, 0) q := by
              intro wk c hwk hfin m
              induction m with
              | zero =>
                intro j i o L11 σi hi hj ho hf hv
                subst hi
                subst ho
                obtain rfl : j = N := by omega
                refine tk_run (hT_X7_odds none) [103, 190] 100 _ ?_
                refine And.intro (fun h6 => ?_) (fun h6 => ?_)
                all_goals try dsimp only [tk_c0, tk_c1, tk_c2, tk_c3, tk_c4, tk_c5, tk_c6, tk_c7, tk_c8, tk_c9, tk_c10, tk_c11, tk_c12, tk_c13] at h6
                · exact hfin σi L11 hf hv
                · exact absurd (Int32.le_refl _) h6
              | succ m ih =>
                intro j i o L11 σi hi hj ho hf hv
                subst hi
                have hV := tk_iW_V (t := σ 55 0) (d := d) (wk := nI wk) hE hs j
                rw [← hv] at hV
                have hF := hf.F
                have e0 : σi 55 0 = σ 55 0 := hf.at (by decide) 0
                have e11 : σi 55 11 = σ 55 11 := hf.at (by decide) 11
                have hVF : tk_VS (tk_F σi) (σi 47 27, σi 47 28) := by rw [hF]; exact hV
                have hEF : tk_VE (tk_F σi) := by rw [hF]; exact hE
                have hmt : tk_b ((σi 55 11 >>> (nI j0 &&& 31)) &&& 1 = 1) = 0 ↔ ¬ d = 1 := by
                  rw [e11, ← hdd]
                  exact tk_b0
                refine tk_run (hT_X7_odds none) [103, 190] 100 _ ?_
                refine And.intro (fun h6 => ?_) (fun h6 => ?_)
                all_goals try dsimp only [tk_c0, tk_c1, tk_c2, tk_c3, tk_c4, tk_c5, tk_c6, tk_c7, tk_c8, tk_c9, tk_c10, tk_c11, tk_c12, tk_c13] at h6
                · exact absurd h6 (nI_ge (by omega) (by omega))
                · refine And.intro (fun h7 => ?_) (fun h7 => ?_)
                  all_goals try dsimp only [tk_c0, tk_c1, tk_c2, tk_c3, tk_c4, tk_c5, tk_c6, tk_c7, tk_c8, tk_c9, tk_c10, tk_c11, tk_c12, tk_c13] at h7
                  · refine And.intro (fun z => absurd z (by decide)) (fun _ => ?_)
                    refine tk_cc (k_mTied) (fun v9 μ9 h9 => ?_)
                    obtain ⟨rfl, rfl⟩ := h9
                    refine And.intro (fun h8 => ?_) (fun h8 => ?_)
                    all_goals try dsimp only [tk_c0, tk_c1, tk_c2, tk_c3, tk_c4, tk_c5, tk_c6, tk_c7, tk_c8, tk_c9, tk_c10, tk_c11, tk_c12, tk_c13] at h8
                    · have h8 := hmt.mp h8
                      refine tk_cc (k_mLev hEF.1) (fun v9 μ9 h9 => ?_)
                      obtain ⟨rfl, rfl⟩ := h9
                      refine And.intro (fun z => absurd z (by decide)) (fun _ => ?_)
                      refine tk_cc (k_goes (tk_kI16 hEF hVF.1) (hEF.2.2.2.2.2.2 _ hVF.1).2.1) (fun v9 μ9 h9 => ?_)
                      obtain ⟨rfl, rfl⟩ := h9
                      refine ih (j + 1) _ _ _ _ (nI_1 j) (by omega) (by rw [tk_ow, if_pos h7, ho]) ((hf.up (k := 27) (by decide) _).up (k := 28) (by decide) _) ?_
                      rw [tk_up_at, tk_up_k _ _ _ (by decide), tk_up_at, tk_iW, tk_wk, if_pos h7, tk_sT, if_neg h8, ← hv, ← e0, ← hF]
                      rfl
                    · have h8 : d = 1 := Decidable.not_not.mp (fun h => h8 (hmt.mpr h))
                      refine ih (j + 1) _ _ _ _ (nI_1 j) (by omega) (by rw [tk_ow, if_pos h7, ho]) hf ?_
                      rw [tk_iW, tk_sT, if_pos h8]
                      exact hv
                  · refine And.intro (fun _ => ?_) (fun z => absurd rfl z)
                    refine tk_cc (k_mTied) (fun v9 μ9 h9 => ?_)
                    obtain ⟨rfl, rfl⟩ := h9
                    refine And.intro (fun h8 => ?_) (fun h8 => ?_)
                    all_goals try dsimp only [tk_c0, tk_c1, tk_c2, tk_c3, tk_c4, tk_c5, tk_c6, tk_c7, tk_c8, tk_c9, tk_c10, tk_c11, tk_c12, tk_c13] at h8
                    · have h8 := hmt.mp h8
                      refine tk_cc (k_mLev hEF.1) (fun v9 μ9 h9 => ?_)
                      obtain ⟨rfl, rfl⟩ := h9
                      refine And.intro (fun _ => ?_) (fun z => absurd rfl z)
                      refine tk_cc (k_goes (tk_kI16 hEF hVF.1) (hEF.2.2.2.2.2.2 _ hVF.1).2.1) (fun v9 μ9 h9 => ?_)
                      obtain ⟨rfl, rfl⟩ := h9
                      refine ih (j + 1) _ _ _ _ (nI_1 j) (by omega) (by rw [tk_ow, if_neg h7, ho]) ((hf.up (k := 27) (by decide) _).up (k := 28) (by decide) _) ?_
                      rw [tk_up_at, tk_up_k _ _ _ (by decide), tk_up_at, tk_iW, tk_wk, if_neg h7, tk_sT, if_neg h8, ← hv, ← e0, ← hF]
                      rfl
                    · have h8 : d = 1 := Decidable.not_not.mp (fun h => h8 (hmt.mpr h))
                      refine ih (j + 1) _ _ _ _ (nI_1 j) (by omega) (by rw [tk_ow, if_neg h7, ho]) hf ?_
                      rw [tk_iW, tk_sT, if_pos h8]
                      exact hv
            have loop2 : ∀ (m j : Nat) (i c : Int32) (L9 L10 L11 : Option Value) (σi : Nat → Nat → Int32), i = nI j → j + m = 2 ^ N → c = nI (tk_uo (tk_F σ) (σ 55 0) d s k X N j) → tk_Sm σ σi →
                tk_J l D cy none M_X7_odds (84, [some (.ref 47), some (.int (nI j0)), some (.int k), some (.int (nI N)), some (.int (nI X)), some (.int w), some (.int c), some (.int (nI (10 ^ N))), some (.int i), L9, L10, L11], [], (σi, tk_rho a b, τ, 62), 0, 0) q := by
              intro m
              induction m with
              | zero =>
                intro j i c L9 L10 L11 σi hi hj hc hf
                subst hi
                subst hc
                obtain rfl : j = 2 ^ N := by omega
                have hU := tk_uo_le (E := tk_F σ) (t := σ 55 0) (d := d) (s := s) (k := k) (x := X) (n := N) (by omega) (by omega) (2 ^ N) (Nat.le_refl _)
                rw [← hq]
                generalize tk_uo (tk_F σ) (σ 55 0) d s k X N (2 ^ N) = U at hU ⊢
                have hg0 : 0 < Nat.gcd U (10 ^ N) := Nat.gcd_pos_of_pos_right _ h10.1
                have hgl : Nat.gcd U (10 ^ N) ≤ 10 ^ N := Nat.gcd_le_right _ h10.1
                have hgn : ¬ nI (Nat.gcd U (10 ^ N)) = 0 := nI_ne0 hg0 (by omega)
                refine tk_run (hT_X7_odds none) [84] 100 _ ?_
                refine And.intro (fun h6 => ?_) (fun h6 => ?_)
                all_goals try dsimp only [tk_c0, tk_c1, tk_c2, tk_c3, tk_c4, tk_c5, tk_c6, tk_c7, tk_c8, tk_c9, tk_c10, tk_c11, tk_c12, tk_c13] at h6
                · refine tk_cc (k_gcd (x := U) (y := 10 ^ N) (by omega) (by omega)) (fun v9 μ9 h9 => ?_)
                  obtain ⟨rfl, rfl⟩ := h9
                  refine And.intro (fun h7 => ?_) (fun h7 => ?_)
                  all_goals try dsimp only [tk_c0, tk_c1, tk_c2, tk_c3, tk_c4, tk_c5, tk_c6, tk_c7, tk_c8, tk_c9, tk_c10, tk_c11, tk_c12, tk_c13] at h7
                  · refine And.intro hgn (And.intro ?_ ⟨σi, rfl, hf⟩)
                    rw [if_pos h7]
                  · refine And.intro hgn (And.intro ?_ ⟨σi, rfl, hf⟩)
                    rw [if_neg h7]
                · exact absurd (by rw [tk_sh2 N (by omega)]; exact Int32.le_refl _) h6
              | succ m ih =>
                intro j i c L9 L10 L11 σi hi hj hc hf
                subst hi
                have k1 : σi 55 (1 + j0) = s.1 := by rw [hf.at (by decide), ← hss]
                have k6 : σi 55 (6 + j0) = s.2 := by rw [hf.at (by decide), ← hss]
                obtain ⟨ho1, ho2, _⟩ := tk_ow_oN X (by omega) N (by omega) j (by omega)
                refine tk_run (hT_X7_odds none) [84, 103] 100 _ ?_
                refine And.intro (fun h6 => ?_) (fun h6 => ?_)
                all_goals try dsimp only [tk_c0, tk_c1, tk_c2, tk_c3, tk_c4, tk_c5, tk_c6, tk_c7, tk_c8, tk_c9, tk_c10, tk_c11, tk_c12, tk_c13] at h6
                · exact absurd h6 (by rw [tk_sh2 N (by omega)]; exact nI_ge (by omega) (by omega))
                · refine tk_cc (k_takesUp hj0) (fun v9 μ9 h9 => ?_)
                  obtain ⟨rfl, rfl⟩ := h9
                  refine loop3 j c (by omega) (fun σ3 L11 hf3 hv3 => ?_) N 0 _ _ _ _ rfl (by omega) rfl ((hf.up (Or.inl rfl) _).up (Or.inr rfl) _) ?_
                  · have hl : (σ3 47 28 = 0 ∧ σ3 47 27 = k) ↔ ((tk_iW (tk_F σ) (σ 55 0) d (nI j) N s).2 = 0 ∧ (tk_iW (tk_F σ) (σ 55 0) d (nI j) N s).1 = k) := by rw [← hv3]
                    refine tk_run (hT_X7_odds none) [84] 100 _ ?_
                    refine And.intro (fun h7 => ?_) (fun h7 => ?_)
                    all_goals try dsimp only [tk_c0, tk_c1, tk_c2, tk_c3, tk_c4, tk_c5, tk_c6, tk_c7, tk_c8, tk_c9, tk_c10, tk_c11, tk_c12, tk_c13] at h7
                    · refine And.intro (fun h8 => ?_) (fun h8 => ?_)
                      all_goals try dsimp only [tk_c0, tk_c1, tk_c2, tk_c3, tk_c4, tk_c5, tk_c6, tk_c7, tk_c8, tk_c9, tk_c10, tk_c11, tk_c12, tk_c13] at h8
                      · refine ih (j + 1) _ _ _ _ _ σ3 (nI_1 j) (by omega) ?_ hf3
                        rw [tk_uo, if_pos (hl.mp ⟨h7, h8⟩), hc, ho1]
                        exact nI_add _ _
                      · refine ih (j + 1) _ _ _ _ _ σ3 (nI_1 j) (by omega) ?_ hf3
                        rw [tk_uo, if_neg (fun h => h8 (hl.mpr h).2), hc]
                        exact nI_add _ 0
                    · refine ih (j + 1) _ _ _ _ _ σ3 (nI_1 j) (by omega) ?_ hf3
                      rw [tk_uo, if_neg (fun h => h7 (hl.mpr h).1), hc]
                      exact nI_add _ 0
                  · rw [tk_up_at, tk_up_k _ _ _ (by decide), tk_up_at, k1, k6]
                    rfl
            have loop1 : ∀ (m j : Nat) (i c : Int32) (L9 L10 L11 : Option Value), i = nI j → j + m = N → c = tk_pw 10 j →
                tk_J l D cy none M_X7_odds (62, [some (.ref 47), some (.int (nI j0)), some (.int k), some (.int (nI N)), some (.int (nI X)), some (.int w), some (.int 0), some (.int c), some (.int i), L9, L10, L11], [], (σ, tk_rho a b, τ, 62), 0, 0) q := by
              intro m
              induction m with
              | zero =>
                intro j i c L9 L10 L11 hi hj hc
                subst hi
                obtain rfl : j = N := by omega
                have hc : c = nI (10 ^ j) := hc.trans (tk_pw10 j (by omega))
                subst hc
                refine tk_run (hT_X7_odds none) [62, 84] 100 _ ?_
                refine And.intro (fun h6 => ?_) (fun h6 => ?_)
                all_goals try dsimp only [tk_c0, tk_c1, tk_c2, tk_c3, tk_c4, tk_c5, tk_c6, tk_c7, tk_c8, tk_c9, tk_c10, tk_c11, tk_c12, tk_c13] at h6
                · exact loop2 (2 ^ j) 0 _ _ _ _ _ σ rfl (by omega) rfl hf0
                · exact absurd (Int32.le_refl _) h6
              | succ m ih =>
                intro j i c L9 L10 L11 hi hj hc
                subst hi
                refine tk_run (hT_X7_odds none) [62, 84] 100 _ ?_
                refine And.intro (fun h6 => ?_) (fun h6 => ?_)
                all_goals try dsimp only [tk_c0, tk_c1, tk_c2, tk_c3, tk_c4, tk_c5, tk_c6, tk_c7, tk_c8, tk_c9, tk_c10, tk_c11, tk_c12, tk_c13] at h6
                · exact absurd h6 (nI_ge (by omega) (by omega))
                · exact ih (j + 1) _ _ _ _ _ (nI_1 j) (by omega) (by rw [hc]; rfl)
            exact loop1 N 0 _ _ _ _ _ rfl (by omega) rfl
end
