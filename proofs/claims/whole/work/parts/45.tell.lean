/-! towns as they are told, of the class: the low ones -/
section
variable {t k u w c : Int32} {σ : Nat → Nat → Int32} {a b p : Nat} {τ : Nat → Nat → Int64}
theorem k_setLevel (hp : tk_tw p) : tk_Fn M_X5_setLevel [.ref p, .int t, .int k, .int u] (σ, tk_rho a b, τ, 62) none (tk_up (tk_up (tk_up σ p 0 t) p 1 k) p 2 u, tk_rho a b, τ, 62) := by
  rcases hp with rfl | rfl <;>
  · refine tk_ct rfl rfl (Nat.le_of_ble_eq_true rfl) (fun l D cy => tk_run (hT_X5_setLevel none) [] 40 _ ?_)
    exact And.intro rfl rfl
theorem k_reset (hp : tk_tw p) : tk_Fn M_X5_reset [.ref p] (σ, tk_rho a b, τ, 62) none (tk_up (tk_up (tk_up (tk_up (tk_up σ p 0 10) p 1 3) p 2 0) p 3 0) p 4 0, tk_rho a b, τ, 62) := by
  have hp0 := hp
  rcases hp with rfl | rfl <;>
  · refine tk_ct rfl rfl (Nat.le_of_ble_eq_true rfl) (fun l D cy => tk_run (hT_X5_reset none) [] 40 _ ?_)
    refine tk_cc (k_setLevel hp0) (fun v9 μ9 h9 => ?_)
    obtain ⟨rfl, rfl⟩ := h9
    exact And.intro rfl rfl
theorem k_hasRoomForKerb (hp : tk_tw p) : tk_Fn M_X5_hasRoomForKerb [.ref p] (σ, tk_rho a b, τ, 62) (some (.int (tk_b (σ p 3 < 8)))) (σ, tk_rho a b, τ, 62) := by
  rcases hp with rfl | rfl <;>
  · refine tk_ct rfl rfl (Nat.le_of_ble_eq_true rfl) (fun l D cy => tk_run (hT_X5_hasRoomForKerb none) [] 40 _ ?_)
    refine And.intro (fun h1 => ?_) (fun h1 => ?_)
    all_goals try dsimp only [tk_c0, tk_c1, tk_c2, tk_c3, tk_c4, tk_c5, tk_c6, tk_c7, tk_c8, tk_c9, tk_c10, tk_c11, tk_c12, tk_c13] at h1
    · refine And.intro (by first | exact Or.inl rfl | exact Or.inr rfl) (And.intro ?_ rfl)
      rw [tk_bF (Int32.not_lt.mpr h1)]
    · refine And.intro (by first | exact Or.inl rfl | exact Or.inr rfl) (And.intro ?_ rfl)
      rw [tk_bT (Int32.not_le.mp h1)]
theorem k_hasRoomForThing (hp : tk_tw p) : tk_Fn M_X5_hasRoomForThing [.ref p] (σ, tk_rho a b, τ, 62) (some (.int (tk_b (σ p 4 < 5)))) (σ, tk_rho a b, τ, 62) := by
  rcases hp with rfl | rfl <;>
  · refine tk_ct rfl rfl (Nat.le_of_ble_eq_true rfl) (fun l D cy => tk_run (hT_X5_hasRoomForThing none) [] 40 _ ?_)
    refine And.intro (fun h1 => ?_) (fun h1 => ?_)
    all_goals try dsimp only [tk_c0, tk_c1, tk_c2, tk_c3, tk_c4, tk_c5, tk_c6, tk_c7, tk_c8, tk_c9, tk_c10, tk_c11, tk_c12, tk_c13] at h1
    · refine And.intro (by first | exact Or.inl rfl | exact Or.inr rfl) (And.intro ?_ rfl)
      rw [tk_bF (Int32.not_lt.mpr h1)]
    · refine And.intro (by first | exact Or.inl rfl | exact Or.inr rfl) (And.intro ?_ rfl)
      rw [tk_bT (Int32.not_le.mp h1)]
theorem k_addThing {N : Nat} (hp : tk_tw p) (hN : N < 5) (e : σ p 4 = nI N) : tk_Fn M_X5_addThing [.ref p, .int k] (σ, tk_rho a b, τ, 62) none (tk_up (tk_up σ (p + 5) N k) p 4 (nI (N + 1)), tk_rho a b, τ, 62) := by
  have hp0 := hp
  have hlt : σ p 4 < 5 := by rw [e]; exact nI_lt (b := 5) hN (by decide)
  rcases hp with rfl | rfl
  · refine tk_ct rfl rfl (Nat.le_of_ble_eq_true rfl) (fun l D cy => tk_run (hT_X5_addThing none) [] 40 _ ?_)
    refine tk_cc (k_hasRoomForThing hp0) (fun v9 μ9 h9 => ?_)
    obtain ⟨rfl, rfl⟩ := h9
    refine And.intro (fun h1 => ?_) (fun h1 => ?_)
    all_goals try dsimp only [tk_c0, tk_c1, tk_c2, tk_c3, tk_c4, tk_c5, tk_c6, tk_c7, tk_c8, tk_c9, tk_c10, tk_c11, tk_c12, tk_c13] at h1
    · exact absurd hlt (tk_b0.mp h1)
    · refine tk_ift (by rw [e]; exact tk_in_nI (n := 5) hN (by decide)) ?_
      refine And.intro rfl ?_
      rw [tk_up_p _ _ _ (by decide), e, nI_clamp (by omega), ← nI_1]
  · refine tk_ct rfl rfl (Nat.le_of_ble_eq_true rfl) (fun l D cy => tk_run (hT_X5_addThing none) [] 40 _ ?_)
    refine tk_cc (k_hasRoomForThing hp0) (fun v9 μ9 h9 => ?_)
    obtain ⟨rfl, rfl⟩ := h9
    refine And.intro (fun h1 => ?_) (fun h1 => ?_)
    all_goals try dsimp only [tk_c0, tk_c1, tk_c2, tk_c3, tk_c4, tk_c5, tk_c6, tk_c7, tk_c8, tk_c9, tk_c10, tk_c11, tk_c12, tk_c13] at h1
    · exact absurd hlt (tk_b0.mp h1)
    · refine tk_ift (by rw [e]; exact tk_in_nI (n := 5) hN (by decide)) ?_
      refine And.intro rfl ?_
      rw [tk_up_p _ _ _ (by decide), e, nI_clamp (by omega), ← nI_1]
theorem k_addKerb {N : Nat} (hp : tk_tw p) (hN : N < 8) (e : σ p 3 = nI N) : tk_Fn M_X5_addKerb [.ref p, .int t, .int k] (σ, tk_rho a b, τ, 62) none (tk_up (tk_up (tk_up (tk_up (tk_up σ (p + 1) N t) (p + 2) N k) (p + 3) N (nI N)) (p + 4) N 1) p 3 (nI (N + 1)), tk_rho a b, τ, 62) := by
  have hp0 := hp
  have hlt : σ p 3 < 8 := by rw [e]; exact nI_lt (b := 8) hN (by decide)
  have hcl : ∀ σ1 : Nat → Nat → Int32, σ1 p 3 = nI N → (σ1 p 3).toNatClampNeg = N := fun σ1 h => by rw [h, nI_clamp (by omega)]
  rcases hp with rfl | rfl
  · have s5 : ∀ (l : Launch) (D : va_G) (cy : Nat → ClassId) (q : tk_Po) (σ1 : Nat → Nat → Int32), σ1 4 3 = nI N → q none (tk_up σ1 4 3 (nI (N + 1)), tk_rho a b, τ, 62) → tk_J l D cy none M_X5_addKerb (50, [some (.ref 4), some (.int t), some (.int k)], [], (σ1, tk_rho a b, τ, 62), 0, 0) q := by
      intro l D cy q σ1 h hq
      rw [← nI_1, ← h] at hq
      refine tk_run (hT_X5_addKerb none) [] 60 _ ?_
      exact hq
    have s4 : ∀ (l : Launch) (D : va_G) (cy : Nat → ClassId) (q : tk_Po) (σ1 : Nat → Nat → Int32), σ1 4 3 = nI N → q none (tk_up (tk_up σ1 (4 + 4) N 1) 4 3 (nI (N + 1)), tk_rho a b, τ, 62) → tk_J l D cy none M_X5_addKerb (40, [some (.ref 4), some (.int t), some (.int k)], [], (σ1, tk_rho a b, τ, 62), 0, 0) q := by
      intro l D cy q σ1 h hq
      refine tk_run (hT_X5_addKerb none) [50] 60 _ ?_
      refine tk_ift (by rw [h]; exact tk_in_nI (n := 8) hN (by decide)) ?_
      refine s5 l D cy q _ ((tk_up_p _ _ _ (by decide)).trans h) ?_
      rw [hcl σ1 h]
      exact hq
    have s3 : ∀ (l : Launch) (D : va_G) (cy : Nat → ClassId) (q : tk_Po) (σ1 : Nat → Nat → Int32), σ1 4 3 = nI N → q none (tk_up (tk_up (tk_up σ1 (4 + 3) N (nI N)) (4 + 4) N 1) 4 3 (nI (N + 1)), tk_rho a b, τ, 62) → tk_J l D cy none M_X5_addKerb (27, [some (.ref 4), some (.int t), some (.int k)], [], (σ1, tk_rho a b, τ, 62), 0, 0) q := by
      intro l D cy q σ1 h hq
      refine tk_run (hT_X5_addKerb none) [40] 60 _ ?_
      refine tk_ift (by rw [h]; exact tk_in_nI (n := 8) hN (by decide)) ?_
      refine s4 l D cy q _ ((tk_up_p _ _ _ (by decide)).trans h) ?_
      rw [hcl σ1 h, h]
      exact hq
    have s2 : ∀ (l : Launch) (D : va_G) (cy : Nat → ClassId) (q : tk_Po) (σ1 : Nat → Nat → Int32), σ1 4 3 = nI N → q none (tk_up (tk_up (tk_up (tk_up σ1 (4 + 2) N k) (4 + 3) N (nI N)) (4 + 4) N 1) 4 3 (nI (N + 1)), tk_rho a b, τ, 62) → tk_J l D cy none M_X5_addKerb (17, [some (.ref 4), some (.int t), some (.int k)], [], (σ1, tk_rho a b, τ, 62), 0, 0) q := by
      intro l D cy q σ1 h hq
      refine tk_run (hT_X5_addKerb none) [27] 60 _ ?_
      refine tk_ift (by rw [h]; exact tk_in_nI (n := 8) hN (by decide)) ?_
      refine s3 l D cy q _ ((tk_up_p _ _ _ (by decide)).trans h) ?_
      rw [hcl σ1 h]
      exact hq
    refine tk_ct rfl rfl (Nat.le_of_ble_eq_true rfl) (fun l D cy => tk_run (hT_X5_addKerb none) [17] 60 _ ?_)
    refine tk_cc (k_hasRoomForKerb hp0) (fun v9 μ9 h9 => ?_)
    obtain ⟨rfl, rfl⟩ := h9
    refine And.intro (fun h1 => ?_) (fun h1 => ?_)
    all_goals try dsimp only [tk_c0, tk_c1, tk_c2, tk_c3, tk_c4, tk_c5, tk_c6, tk_c7, tk_c8, tk_c9, tk_c10, tk_c11, tk_c12, tk_c13] at h1
    · exact absurd hlt (tk_b0.mp h1)
    · refine tk_ift (by rw [e]; exact tk_in_nI (n := 8) hN (by decide)) ?_
      refine s2 l D cy _ _ ((tk_up_p _ _ _ (by decide)).trans e) ?_
      rw [hcl σ e]
      exact And.intro rfl rfl
  · have s5 : ∀ (l : Launch) (D : va_G) (cy : Nat → ClassId) (q : tk_Po) (σ1 : Nat → Nat → Int32), σ1 10 3 = nI N → q none (tk_up σ1 10 3 (nI (N + 1)), tk_rho a b, τ, 62) → tk_J l D cy none M_X5_addKerb (50, [some (.ref 10), some (.int t), some (.int k)], [], (σ1, tk_rho a b, τ, 62), 0, 0) q := by
      intro l D cy q σ1 h hq
      rw [← nI_1, ← h] at hq
      refine tk_run (hT_X5_addKerb none) [] 60 _ ?_
      exact hq
    have s4 : ∀ (l : Launch) (D : va_G) (cy : Nat → ClassId) (q : tk_Po) (σ1 : Nat → Nat → Int32), σ1 10 3 = nI N → q none (tk_up (tk_up σ1 (10 + 4) N 1) 10 3 (nI (N + 1)), tk_rho a b, τ, 62) → tk_J l D cy none M_X5_addKerb (40, [some (.ref 10), some (.int t), some (.int k)], [], (σ1, tk_rho a b, τ, 62), 0, 0) q := by
      intro l D cy q σ1 h hq
      refine tk_run (hT_X5_addKerb none) [50] 60 _ ?_
      refine tk_ift (by rw [h]; exact tk_in_nI (n := 8) hN (by decide)) ?_
      refine s5 l D cy q _ ((tk_up_p _ _ _ (by decide)).trans h) ?_
      rw [hcl σ1 h]
      exact hq
    have s3 : ∀ (l : Launch) (D : va_G) (cy : Nat → ClassId) (q : tk_Po) (σ1 : Nat → Nat → Int32), σ1 10 3 = nI N → q none (tk_up (tk_up (tk_up σ1 (10 + 3) N (nI N)) (10 + 4) N 1) 10 3 (nI (N + 1)), tk_rho a b, τ, 62) → tk_J l D cy none M_X5_addKerb (27, [some (.ref 10), some (.int t), some (.int k)], [], (σ1, tk_rho a b, τ, 62), 0, 0) q := by
      intro l D cy q σ1 h hq
      refine tk_run (hT_X5_addKerb none) [40] 60 _ ?_
      refine tk_ift (by rw [h]; exact tk_in_nI (n := 8) hN (by decide)) ?_
      refine s4 l D cy q _ ((tk_up_p _ _ _ (by decide)).trans h) ?_
      rw [hcl σ1 h, h]
      exact hq
    have s2 : ∀ (l : Launch) (D : va_G) (cy : Nat → ClassId) (q : tk_Po) (σ1 : Nat → Nat → Int32), σ1 10 3 = nI N → q none (tk_up (tk_up (tk_up (tk_up σ1 (10 + 2) N k) (10 + 3) N (nI N)) (10 + 4) N 1) 10 3 (nI (N + 1)), tk_rho a b, τ, 62) → tk_J l D cy none M_X5_addKerb (17, [some (.ref 10), some (.int t), some (.int k)], [], (σ1, tk_rho a b, τ, 62), 0, 0) q := by
      intro l D cy q σ1 h hq
      refine tk_run (hT_X5_addKerb none) [27] 60 _ ?_
      refine tk_ift (by rw [h]; exact tk_in_nI (n := 8) hN (by decide)) ?_
      refine s3 l D cy q _ ((tk_up_p _ _ _ (by decide)).trans h) ?_
      rw [hcl σ1 h]
      exact hq
    refine tk_ct rfl rfl (Nat.le_of_ble_eq_true rfl) (fun l D cy => tk_run (hT_X5_addKerb none) [17] 60 _ ?_)
    refine tk_cc (k_hasRoomForKerb hp0) (fun v9 μ9 h9 => ?_)
    obtain ⟨rfl, rfl⟩ := h9
    refine And.intro (fun h1 => ?_) (fun h1 => ?_)
    all_goals try dsimp only [tk_c0, tk_c1, tk_c2, tk_c3, tk_c4, tk_c5, tk_c6, tk_c7, tk_c8, tk_c9, tk_c10, tk_c11, tk_c12, tk_c13] at h1
    · exact absurd hlt (tk_b0.mp h1)
    · refine tk_ift (by rw [e]; exact tk_in_nI (n := 8) hN (by decide)) ?_
      refine s2 l D cy _ _ ((tk_up_p _ _ _ (by decide)).trans e) ?_
      rw [hcl σ e]
      exact And.intro rfl rfl
end
