/-! the class: what it tells -/
section
variable {p q : Nat} {t k x y w : Int32} {σ : Nat → Nat → Int32} {a b : Nat} {τ : Nat → Nat → Int64}
theorem k_lyingOn_loop {l : Launch} {D : va_G} {cy : Nat → ClassId} {N : Nat} (hN : N ≤ 5) : ∀ (n j : Nat) (i : Int32), i = nI j → j + n = N →
    tk_J l D cy none M_X1_lyingOn (5, [some (.ref 16), some (.int k), some (.int (nI N)), some (.int (tk_bits (fun t => σ (18 + t) 1 = 0 ∧ σ (18 + t) 0 = k) j)), some (.int i)], [], (σ, tk_rho a b, τ, 62), 0, 0) (fun v μ' => v = some (.int (tk_bits (fun t => σ (18 + t) 1 = 0 ∧ σ (18 + t) 0 = k) N)) ∧ μ' = (σ, tk_rho a b, τ, 62)) := by
  intro n
  induction n with
  | zero =>
    intro j i hi hj
    subst hi
    refine tk_run (hT_X1_lyingOn none) [5] 40 _ ?_
    refine And.intro (fun h1 => ?_) (fun h1 => ?_)
    all_goals try dsimp only [tk_c0, tk_c1, tk_c2, tk_c3, tk_c4, tk_c5, tk_c6, tk_c7, tk_c8, tk_c9, tk_c10, tk_c11, tk_c12, tk_c13] at h1
    · refine And.intro ?_ rfl
      rw [← hj]
      rfl
    · exact absurd (nI_le (by omega) (by omega)) h1
  | succ n ih =>
    intro j i hi hj
    subst hi
    have h9 := ih (j + 1) _ (nI_1 j) (by omega)
    refine tk_run (hT_X1_lyingOn none) [5] 40 _ ?_
    refine And.intro (fun h1 => ?_) (fun h1 => ?_)
    all_goals try dsimp only [tk_c0, tk_c1, tk_c2, tk_c3, tk_c4, tk_c5, tk_c6, tk_c7, tk_c8, tk_c9, tk_c10, tk_c11, tk_c12, tk_c13] at h1
    · exact absurd h1 (nI_ge (by omega) (by omega))
    · refine tk_ift (tk_in_nI (n := 5) (by omega) (by decide)) ?_
      refine tk_osi (by rw [nI_clamp (by omega)]; exact tk_th (by omega)) ?_
      refine tk_ift (tk_thok (by omega)) ?_
      refine tk_cc (k_liesOn (tk_thok (by omega))) (fun v9 μ9 h9 => ?_)
      obtain ⟨rfl, rfl⟩ := h9
      refine And.intro (fun h2 => ?_) (fun h2 => ?_)
      all_goals try dsimp only [tk_c0, tk_c1, tk_c2, tk_c3, tk_c4, tk_c5, tk_c6, tk_c7, tk_c8, tk_c9, tk_c10, tk_c11, tk_c12, tk_c13] at h2
      · rw [tk_bits, if_neg (tk_b0.mp h2)] at h9
        exact h9
      · rw [tk_bits, if_pos (Decidable.not_not.mp (fun h => h2 (tk_b0.mpr h)))] at h9
        exact h9
theorem k_lyingOn {N : Nat} (hN : N ≤ 5) : tk_Fn M_X1_lyingOn [.ref 16, .int k, .int (nI N)] (σ, tk_rho a b, τ, 62) (some (.int (tk_bits (fun t => σ (18 + t) 1 = 0 ∧ σ (18 + t) 0 = k) N))) (σ, tk_rho a b, τ, 62) := by
  refine tk_ct rfl rfl (Nat.le_of_ble_eq_true rfl) (fun l D cy => tk_run (hT_X1_lyingOn none) [5] 20 _ ?_)
  exact k_lyingOn_loop hN N 0 _ rfl (by omega)
theorem tk_nI_of {m : Int32} {n : Nat} (h : 0 ≤ m ∧ m ≤ nI n) (hn : n < 2 ^ 31) : ∃ j, j ≤ n ∧ m = nI j := nI_of2 (M := nI n) (nI_toInt hn) (Int32.not_lt.mpr h.1) h.2
theorem k_cKerb (ha : tk_tw a) (hE : tk_VE (tk_E σ a)) : tk_Ct M_X6_kerb [.ref 1, .int k, .int w] (σ, tk_rho a b, τ, 62) (fun v μ' => v = some (.int (if 0 ≤ k ∧ k < σ a 3 then (if w = 0 then σ (a + 1) k.toNatClampNeg else if w = 1 then σ (a + 2) k.toNatClampNeg else if w = 2 then σ (a + 3) k.toNatClampNeg else if w = 3 then σ (a + 4) k.toNatClampNeg else if w = 4 then tk_bits (fun t => σ (18 + t) 1 = 0 ∧ σ (18 + t) 0 = k) (σ a 4).toNatClampNeg else -1) else -1)) ∧ μ' = (σ, tk_rho a b, τ, 62)) := by
  have ha0 := ha
  refine tk_ct rfl rfl (Nat.le_of_ble_eq_true rfl) (fun l D cy => tk_run (hT_X6_kerb none) [] 40 _ ?_)
  refine tk_ift (tk_twok ha) ?_
  refine tk_cc (k_isKerb ha) (fun v9 μ9 h9 => ?_)
  obtain ⟨rfl, rfl⟩ := h9
  refine And.intro (fun h1 => ?_) (fun h1 => ?_)
  all_goals try dsimp only [tk_c0, tk_c1, tk_c2, tk_c3, tk_c4, tk_c5, tk_c6, tk_c7, tk_c8, tk_c9, tk_c10, tk_c11, tk_c12, tk_c13] at h1
  · refine And.intro ?_ rfl
    rw [if_neg (tk_b0.mp h1)]
  · have h1 := Decidable.not_not.mp (fun h => h1 (tk_b0.mpr h))
    have hin := tk_in_of h1.1 h1.2 hE.2.2.2.2.1.2 (by decide)
    rw [if_pos h1]
    refine And.intro (fun c0 => ?_) (fun c0 => ?_)
    all_goals try dsimp only [tk_c0, tk_c1, tk_c2, tk_c3, tk_c4, tk_c5, tk_c6, tk_c7, tk_c8, tk_c9, tk_c10, tk_c11, tk_c12, tk_c13] at c0
    · subst c0
      rcases ha with rfl | rfl <;> exact tk_ift hin (And.intro rfl rfl)
    · refine And.intro (fun c1 => ?_) (fun c1 => ?_)
      all_goals try dsimp only [tk_c0, tk_c1, tk_c2, tk_c3, tk_c4, tk_c5, tk_c6, tk_c7, tk_c8, tk_c9, tk_c10, tk_c11, tk_c12, tk_c13] at c1
      · subst c1
        rcases ha with rfl | rfl <;> exact tk_ift hin (And.intro rfl rfl)
      · refine And.intro (fun c2 => ?_) (fun c2 => ?_)
        all_goals try dsimp only [tk_c0, tk_c1, tk_c2, tk_c3, tk_c4, tk_c5, tk_c6, tk_c7, tk_c8, tk_c9, tk_c10, tk_c11, tk_c12, tk_c13] at c2
        · subst c2
          rcases ha with rfl | rfl <;> exact tk_ift hin (And.intro rfl rfl)
        · refine And.intro (fun c3 => ?_) (fun c3 => ?_)
          all_goals try dsimp only [tk_c0, tk_c1, tk_c2, tk_c3, tk_c4, tk_c5, tk_c6, tk_c7, tk_c8, tk_c9, tk_c10, tk_c11, tk_c12, tk_c13] at c3
          · subst c3
            rcases ha with rfl | rfl <;> exact tk_ift hin (And.intro rfl rfl)
          · refine And.intro (fun c4 => ?_) (fun c4 => ?_)
            all_goals try dsimp only [tk_c0, tk_c1, tk_c2, tk_c3, tk_c4, tk_c5, tk_c6, tk_c7, tk_c8, tk_c9, tk_c10, tk_c11, tk_c12, tk_c13] at c4
            · subst c4
              obtain ⟨N, hN, e⟩ := tk_nI_of hE.2.2.2.2.2.1 (by decide)
              have e : σ a 4 = nI N := e
              refine tk_ift (tk_twok ha0) ?_
              refine tk_cc (by rw [e]; exact k_lyingOn hN) (fun v9 μ9 h9 => ?_)
              obtain ⟨rfl, rfl⟩ := h9
              refine And.intro ?_ rfl
              rw [e, nI_clamp (by omega)]
              rfl
            · refine And.intro ?_ rfl
              rw [if_neg c0, if_neg c1, if_neg c2, if_neg c3, if_neg c4]
theorem k_cThing (ha : tk_tw a) (hE : tk_VE (tk_E σ a)) (hT : tk_CT a σ) : tk_Ct M_X6_thing [.ref 1, .int t, .int w] (σ, tk_rho a b, τ, 62) (fun v μ' => v = some (.int (if 0 ≤ t ∧ t < σ a 4 then (if w = 0 then tk_pl (σ (18 + t.toNatClampNeg) 0, σ (18 + t.toNatClampNeg) 1) else if w = 1 then σ (18 + t.toNatClampNeg) 0 else if w = 2 then σ (18 + t.toNatClampNeg) 1 else if w = 3 then σ (18 + t.toNatClampNeg) 2 else -1) else -1)) ∧ μ' = (σ, tk_rho a b, τ, 62)) := by
  refine tk_ct rfl rfl (Nat.le_of_ble_eq_true rfl) (fun l D cy => tk_run (hT_X6_thing none) [] 40 _ ?_)
  refine tk_ift (tk_twok ha) ?_
  refine tk_cc (k_isThing ha) (fun v9 μ9 h9 => ?_)
  obtain ⟨rfl, rfl⟩ := h9
  refine And.intro (fun h1 => ?_) (fun h1 => ?_)
  all_goals try dsimp only [tk_c0, tk_c1, tk_c2, tk_c3, tk_c4, tk_c5, tk_c6, tk_c7, tk_c8, tk_c9, tk_c10, tk_c11, tk_c12, tk_c13] at h1
  · refine And.intro ?_ rfl
    rw [if_neg (tk_b0.mp h1)]
  · have h1 := Decidable.not_not.mp (fun h => h1 (tk_b0.mpr h))
    rw [if_pos h1]
    obtain ⟨j, hj, rfl⟩ := tk_ix h1 hE.2.2.2.2.2.1.2 (by decide)
    have hs := hT j (by omega) h1.2
    rw [nI_clamp (by omega)]
    refine tk_ift (tk_in_nI (n := 5) hj (by decide)) ?_
    refine tk_osi (by rw [nI_clamp (by omega)]; exact tk_th hj) ?_
    refine And.intro (fun c0 => ?_) (fun c0 => ?_)
    all_goals try dsimp only [tk_c0, tk_c1, tk_c2, tk_c3, tk_c4, tk_c5, tk_c6, tk_c7, tk_c8, tk_c9, tk_c10, tk_c11, tk_c12, tk_c13] at c0
    · subst c0
      refine tk_ift (tk_thok hj) ?_
      refine tk_cc (k_place (tk_thok hj)) (fun v9 μ9 h9 => ?_)
      obtain ⟨rfl, rfl⟩ := h9
      exact And.intro rfl rfl
    · refine And.intro (fun c1 => ?_) (fun c1 => ?_)
      all_goals try dsimp only [tk_c0, tk_c1, tk_c2, tk_c3, tk_c4, tk_c5, tk_c6, tk_c7, tk_c8, tk_c9, tk_c10, tk_c11, tk_c12, tk_c13] at c1
      · subst c1
        exact tk_ift (tk_thok hj) (And.intro rfl rfl)
      · refine And.intro (fun c2 => ?_) (fun c2 => ?_)
        all_goals try dsimp only [tk_c0, tk_c1, tk_c2, tk_c3, tk_c4, tk_c5, tk_c6, tk_c7, tk_c8, tk_c9, tk_c10, tk_c11, tk_c12, tk_c13] at c2
        · subst c2
          exact tk_ift (tk_thok hj) (And.intro rfl rfl)
        · refine And.intro (fun c3 => ?_) (fun c3 => ?_)
          all_goals try dsimp only [tk_c0, tk_c1, tk_c2, tk_c3, tk_c4, tk_c5, tk_c6, tk_c7, tk_c8, tk_c9, tk_c10, tk_c11, tk_c12, tk_c13] at c3
          · subst c3
            refine tk_ift (tk_thok hj) ?_
            refine And.intro (fun c5 => ?_) (fun c5 => ?_)
            all_goals try dsimp only [tk_c0, tk_c1, tk_c2, tk_c3, tk_c4, tk_c5, tk_c6, tk_c7, tk_c8, tk_c9, tk_c10, tk_c11, tk_c12, tk_c13] at c5
            · refine And.intro ?_ rfl
              show some (Value.int 0) = some (Value.int (σ (18 + j) 2))
              rw [c5]
            · refine And.intro ?_ rfl
              show some (Value.int 1) = some (Value.int (σ (18 + j) 2))
              rw [(tk_VT01 hs.2).resolve_left c5]
          · refine And.intro ?_ rfl
            rw [if_neg c0, if_neg c1, if_neg c2, if_neg c3]
theorem k_cNow (ha : tk_tw a) (hE : tk_VE (tk_E σ a)) : tk_Ct M_X6_now [.ref 1, .int w] (σ, tk_rho a b, τ, 62) (fun v μ' => v = some (.int (if w = 0 then σ 16 0 else if w = 1 then tk_lv' (tk_E σ a) (σ 16 0) else if w = 2 then σ 16 1 else if w = 3 then tk_bits (fun k => tk_E σ a 0 k ≤ tk_lv' (tk_E σ a) (σ 16 0)) (σ a 3).toNatClampNeg else if w = 4 then σ 23 1 else -1)) ∧ μ' = (σ, tk_rho a b, τ, 62)) := by
  obtain ⟨N, hN, e⟩ := tk_nI_of hE.2.2.2.2.1 (by decide)
  have e : σ a 3 = nI N := e
  refine tk_ct rfl rfl (Nat.le_of_ble_eq_true rfl) (fun l D cy => tk_run (hT_X6_now none) [] 40 _ ?_)
  refine And.intro (fun c0 => ?_) (fun c0 => ?_)
  all_goals try dsimp only [tk_c0, tk_c1, tk_c2, tk_c3, tk_c4, tk_c5, tk_c6, tk_c7, tk_c8, tk_c9, tk_c10, tk_c11, tk_c12, tk_c13] at c0
  · subst c0
    exact And.intro rfl rfl
  · refine And.intro (fun c1 => ?_) (fun c1 => ?_)
    all_goals try dsimp only [tk_c0, tk_c1, tk_c2, tk_c3, tk_c4, tk_c5, tk_c6, tk_c7, tk_c8, tk_c9, tk_c10, tk_c11, tk_c12, tk_c13] at c1
    · subst c1
      refine tk_ift (tk_twok ha) ?_
      refine tk_cc (k_levelOf ha hE.1) (fun v9 μ9 h9 => ?_)
      obtain ⟨rfl, rfl⟩ := h9
      exact And.intro rfl rfl
    · refine And.intro (fun c2 => ?_) (fun c2 => ?_)
      all_goals try dsimp only [tk_c0, tk_c1, tk_c2, tk_c3, tk_c4, tk_c5, tk_c6, tk_c7, tk_c8, tk_c9, tk_c10, tk_c11, tk_c12, tk_c13] at c2
      · subst c2
        exact And.intro rfl rfl
      · refine And.intro (fun c3 => ?_) (fun c3 => ?_)
        all_goals try dsimp only [tk_c0, tk_c1, tk_c2, tk_c3, tk_c4, tk_c5, tk_c6, tk_c7, tk_c8, tk_c9, tk_c10, tk_c11, tk_c12, tk_c13] at c3
        · subst c3
          refine tk_ift (tk_twok ha) ?_
          refine tk_cc (k_levelOf ha hE.1) (fun v9 μ9 h9 => ?_)
          obtain ⟨rfl, rfl⟩ := h9
          refine tk_ift (tk_twok ha) ?_
          refine tk_cc (k_floodedBy ha e hN) (fun v9 μ9 h9 => ?_)
          obtain ⟨rfl, rfl⟩ := h9
          refine And.intro ?_ rfl
          rw [e, nI_clamp (by omega)]
          rfl
        · refine And.intro (fun c4 => ?_) (fun c4 => ?_)
          all_goals try dsimp only [tk_c0, tk_c1, tk_c2, tk_c3, tk_c4, tk_c5, tk_c6, tk_c7, tk_c8, tk_c9, tk_c10, tk_c11, tk_c12, tk_c13] at c4
          · subst c4
            exact And.intro rfl rfl
          · refine And.intro ?_ rfl
            rw [if_neg c0, if_neg c1, if_neg c2, if_neg c3, if_neg c4]
theorem k_cLevel (ha : tk_tw a) (hE : tk_VE (tk_E σ a)) : tk_Ct M_X6_level [.ref 1, .int t] (σ, tk_rho a b, τ, 62) (fun v μ' => v = some (.int (if 0 ≤ t ∧ t ≤ 9999 then tk_lv' (tk_E σ a) t else -1)) ∧ μ' = (σ, tk_rho a b, τ, 62)) := by
  refine tk_ct rfl rfl (Nat.le_of_ble_eq_true rfl) (fun l D cy => tk_run (hT_X6_level none) [] 40 _ ?_)
  refine tk_cc (k_isWithin _ _ _ _) (fun v9 μ9 h9 => ?_)
  obtain ⟨rfl, rfl⟩ := h9
  refine And.intro (fun h1 => ?_) (fun h1 => ?_)
  all_goals try dsimp only [tk_c0, tk_c1, tk_c2, tk_c3, tk_c4, tk_c5, tk_c6, tk_c7, tk_c8, tk_c9, tk_c10, tk_c11, tk_c12, tk_c13] at h1
  · refine And.intro ?_ rfl
    rw [if_neg (tk_b0.mp h1)]
  · have h1 := Decidable.not_not.mp (fun h => h1 (tk_b0.mpr h))
    rw [if_pos h1]
    refine tk_ift (tk_twok ha) ?_
    refine tk_cc (k_levelOf ha hE.1) (fun v9 μ9 h9 => ?_)
    obtain ⟨rfl, rfl⟩ := h9
    exact And.intro rfl rfl
theorem k_cFlood (ha : tk_tw a) (hE : tk_VE (tk_E σ a)) : tk_Ct M_X6_flood [.ref 1, .int t] (σ, tk_rho a b, τ, 62) (fun v μ' => v = some (.int (if 0 ≤ t ∧ t ≤ 9999 then tk_bits (fun k => tk_E σ a 0 k ≤ tk_lv' (tk_E σ a) t) (σ a 3).toNatClampNeg else -1)) ∧ μ' = (σ, tk_rho a b, τ, 62)) := by
  obtain ⟨N, hN, e⟩ := tk_nI_of hE.2.2.2.2.1 (by decide)
  have e : σ a 3 = nI N := e
  refine tk_ct rfl rfl (Nat.le_of_ble_eq_true rfl) (fun l D cy => tk_run (hT_X6_flood none) [] 40 _ ?_)
  refine tk_cc (k_isWithin _ _ _ _) (fun v9 μ9 h9 => ?_)
  obtain ⟨rfl, rfl⟩ := h9
  refine And.intro (fun h1 => ?_) (fun h1 => ?_)
  all_goals try dsimp only [tk_c0, tk_c1, tk_c2, tk_c3, tk_c4, tk_c5, tk_c6, tk_c7, tk_c8, tk_c9, tk_c10, tk_c11, tk_c12, tk_c13] at h1
  · refine And.intro ?_ rfl
    rw [if_neg (tk_b0.mp h1)]
  · have h1 := Decidable.not_not.mp (fun h => h1 (tk_b0.mpr h))
    rw [if_pos h1]
    refine tk_ift (tk_twok ha) ?_
    refine tk_cc (k_levelOf ha hE.1) (fun v9 μ9 h9 => ?_)
    obtain ⟨rfl, rfl⟩ := h9
    refine tk_ift (tk_twok ha) ?_
    refine tk_cc (k_floodedBy ha e hN) (fun v9 μ9 h9 => ?_)
    obtain ⟨rfl, rfl⟩ := h9
    refine And.intro ?_ rfl
    rw [e, nI_clamp (by omega)]
    rfl
theorem k_cHigh_loop {l : Launch} {D : va_G} {cy : Nat → ClassId} {N : Nat} (ha : tk_tw a) (hE : tk_VE (tk_E σ a)) (e : σ a 0 = nI N) (hN : N ≤ 20) : ∀ (n j : Nat) (i : Int32), i = nI j → j + n = N →
    tk_J l D cy none M_X6_high (14, [some (.ref 1), some (.int t), some (.int i)], [], (σ, tk_rho a b, τ, 62), 0, 0) (fun v μ' => v = some (.int (tk_on (tk_fst (fun n => t ≤ tk_lv' (tk_E σ a) (σ 16 0 + nI n)) n j) (σ 16 0))) ∧ μ' = (σ, tk_rho a b, τ, 62)) := by
  intro n
  induction n with
  | zero =>
    intro j i hi hj
    subst hi
    refine tk_run (hT_X6_high none) [14] 40 _ ?_
    refine tk_ift (tk_twok ha) ?_
    refine And.intro (fun h1 => ?_) (fun h1 => ?_)
    all_goals try dsimp only [tk_c0, tk_c1, tk_c2, tk_c3, tk_c4, tk_c5, tk_c6, tk_c7, tk_c8, tk_c9, tk_c10, tk_c11, tk_c12, tk_c13] at h1
    · exact And.intro rfl rfl
    · exact absurd (by rw [e]; exact nI_le (by omega) (by omega)) h1
  | succ n ih =>
    intro j i hi hj
    subst hi
    rw [tk_fst]
    refine tk_run (hT_X6_high none) [14] 40 _ ?_
    refine tk_ift (tk_twok ha) ?_
    refine And.intro (fun h1 => ?_) (fun h1 => ?_)
    all_goals try dsimp only [tk_c0, tk_c1, tk_c2, tk_c3, tk_c4, tk_c5, tk_c6, tk_c7, tk_c8, tk_c9, tk_c10, tk_c11, tk_c12, tk_c13] at h1
    · exact absurd h1 (by rw [e]; exact nI_ge (by omega) (by omega))
    · refine tk_ift (tk_twok ha) ?_
      refine tk_cc (k_levelOf ha hE.1) (fun v9 μ9 h9 => ?_)
      obtain ⟨rfl, rfl⟩ := h9
      refine And.intro (fun h2 => ?_) (fun h2 => ?_)
      all_goals try dsimp only [tk_c0, tk_c1, tk_c2, tk_c3, tk_c4, tk_c5, tk_c6, tk_c7, tk_c8, tk_c9, tk_c10, tk_c11, tk_c12, tk_c13] at h2
      · have h3 : ¬ t ≤ tk_lv' (tk_E σ a) (σ 16 0 + nI j) := fun h => Int32.not_le.mpr h2 h
        rw [if_neg h3]
        exact ih (j + 1) _ (nI_1 j) (by omega)
      · have h3 : t ≤ tk_lv' (tk_E σ a) (σ 16 0 + nI j) := Int32.not_lt.mp h2
        rw [if_pos h3]
        exact And.intro rfl rfl
theorem k_cHigh (ha : tk_tw a) (hE : tk_VE (tk_E σ a)) : tk_Ct M_X6_high [.ref 1, .int t] (σ, tk_rho a b, τ, 62) (fun v μ' => v = some (.int (if 0 ≤ t ∧ t ≤ 19 then tk_on (tk_fst (fun n => t ≤ tk_lv' (tk_E σ a) (σ 16 0 + nI n)) (σ a 0).toNatClampNeg 0) (σ 16 0) else -1)) ∧ μ' = (σ, tk_rho a b, τ, 62)) := by
  obtain ⟨N, hN, e⟩ := tk_nI_of (n := 20) ⟨Int32.le_trans (by decide) hE.1, hE.2.1⟩ (by decide)
  have e : σ a 0 = nI N := e
  refine tk_ct rfl rfl (Nat.le_of_ble_eq_true rfl) (fun l D cy => tk_run (hT_X6_high none) [14] 40 _ ?_)
  refine tk_cc (k_isWithin _ _ _ _) (fun v9 μ9 h9 => ?_)
  obtain ⟨rfl, rfl⟩ := h9
  refine And.intro (fun h1 => ?_) (fun h1 => ?_)
  all_goals try dsimp only [tk_c0, tk_c1, tk_c2, tk_c3, tk_c4, tk_c5, tk_c6, tk_c7, tk_c8, tk_c9, tk_c10, tk_c11, tk_c12, tk_c13] at h1
  · refine And.intro ?_ rfl
    rw [if_neg (tk_b0.mp h1)]
  · have h1 := Decidable.not_not.mp (fun h => h1 (tk_b0.mpr h))
    rw [if_pos h1, e, nI_clamp (by omega)]
    exact k_cHigh_loop ha hE e hN N 0 _ rfl (by omega)
theorem k_cCount (ha : tk_tw a) : tk_Ct M_X6_count [.ref 1, .int w] (σ, tk_rho a b, τ, 62) (fun v μ' => v = some (.int (if w = 0 then σ a 3 else if w = 1 then σ a 4 else if w = 2 then σ a 0 else if w = 3 then σ a 1 else if w = 4 then σ a 2 else if w = 5 then σ 39 2 else if w = 6 then σ 42 2 else if w = 7 then σ 2 1 else -1)) ∧ μ' = (σ, tk_rho a b, τ, 62)) := by
  refine tk_ct rfl rfl (Nat.le_of_ble_eq_true rfl) (fun l D cy => tk_run (hT_X6_count none) [] 40 _ ?_)
  refine And.intro (fun c0 => ?_) (fun c0 => ?_)
  all_goals try dsimp only [tk_c0, tk_c1, tk_c2, tk_c3, tk_c4, tk_c5, tk_c6, tk_c7, tk_c8, tk_c9, tk_c10, tk_c11, tk_c12, tk_c13] at c0
  · subst c0
    exact tk_ift (tk_twok ha) (And.intro rfl rfl)
  · refine And.intro (fun c1 => ?_) (fun c1 => ?_)
    all_goals try dsimp only [tk_c0, tk_c1, tk_c2, tk_c3, tk_c4, tk_c5, tk_c6, tk_c7, tk_c8, tk_c9, tk_c10, tk_c11, tk_c12, tk_c13] at c1
    · subst c1
      exact tk_ift (tk_twok ha) (And.intro rfl rfl)
    · refine And.intro (fun c2 => ?_) (fun c2 => ?_)
      all_goals try dsimp only [tk_c0, tk_c1, tk_c2, tk_c3, tk_c4, tk_c5, tk_c6, tk_c7, tk_c8, tk_c9, tk_c10, tk_c11, tk_c12, tk_c13] at c2
      · subst c2
        exact tk_ift (tk_twok ha) (And.intro rfl rfl)
      · refine And.intro (fun c3 => ?_) (fun c3 => ?_)
        all_goals try dsimp only [tk_c0, tk_c1, tk_c2, tk_c3, tk_c4, tk_c5, tk_c6, tk_c7, tk_c8, tk_c9, tk_c10, tk_c11, tk_c12, tk_c13] at c3
        · subst c3
          exact tk_ift (tk_twok ha) (And.intro rfl rfl)
        · refine And.intro (fun c4 => ?_) (fun c4 => ?_)
          all_goals try dsimp only [tk_c0, tk_c1, tk_c2, tk_c3, tk_c4, tk_c5, tk_c6, tk_c7, tk_c8, tk_c9, tk_c10, tk_c11, tk_c12, tk_c13] at c4
          · subst c4
            exact tk_ift (tk_twok ha) (And.intro rfl rfl)
          · refine And.intro (fun c5 => ?_) (fun c5 => ?_)
            all_goals try dsimp only [tk_c0, tk_c1, tk_c2, tk_c3, tk_c4, tk_c5, tk_c6, tk_c7, tk_c8, tk_c9, tk_c10, tk_c11, tk_c12, tk_c13] at c5
            · subst c5
              exact And.intro rfl rfl
            · refine And.intro (fun c6 => ?_) (fun c6 => ?_)
              all_goals try dsimp only [tk_c0, tk_c1, tk_c2, tk_c3, tk_c4, tk_c5, tk_c6, tk_c7, tk_c8, tk_c9, tk_c10, tk_c11, tk_c12, tk_c13] at c6
              · subst c6
                exact And.intro rfl rfl
              · refine And.intro (fun c7 => ?_) (fun c7 => ?_)
                all_goals try dsimp only [tk_c0, tk_c1, tk_c2, tk_c3, tk_c4, tk_c5, tk_c6, tk_c7, tk_c8, tk_c9, tk_c10, tk_c11, tk_c12, tk_c13] at c7
                · subst c7
                  exact And.intro rfl rfl
                · refine And.intro ?_ rfl
                  rw [if_neg c0, if_neg c1, if_neg c2, if_neg c3, if_neg c4, if_neg c5, if_neg c6, if_neg c7]
theorem k_cTrace : tk_Ct M_X6_trace [.ref 1] (σ, tk_rho a b, τ, 62) (fun v μ' => v = some (.long (τ 1 11)) ∧ μ' = (σ, tk_rho a b, τ, 62)) := by
  refine tk_ct rfl rfl (Nat.le_of_ble_eq_true rfl) (fun l D cy => tk_run (hT_X6_trace none) [] 40 _ ?_)
  exact And.intro rfl rfl
/-- notes: a pair more -/
theorem k_nAdd {j : Nat} (hp : p = 39 ∨ p = 42) (hj : j ≤ 6) (e : σ p 2 = nI j) : tk_Fn M_X0_add [.ref p, .int x, .int y] (σ, tk_rho a b, τ, 62) (some (.int (if j = 6 then -3 else nI (j + 1)))) (if j = 6 then σ else tk_up (tk_up (tk_up σ (p + 1) j x) (p + 2) j y) p 2 (nI (j + 1)), tk_rho a b, τ, 62) := by
  rcases hp with rfl | rfl <;>
  · refine tk_ct rfl rfl (Nat.le_of_ble_eq_true rfl) (fun l D cy => tk_run (hT_X0_add none) [] 40 _ ?_)
    refine And.intro (fun h1 => ?_) (fun h1 => ?_)
    all_goals try dsimp only [tk_c0, tk_c1, tk_c2, tk_c3, tk_c4, tk_c5, tk_c6, tk_c7, tk_c8, tk_c9, tk_c10, tk_c11, tk_c12, tk_c13] at h1
    · have hj6 : j < 6 := by
        rw [e] at h1
        exact Nat.lt_of_not_le (fun h => absurd h1 (nI_nlt (a := j) (b := 6) h (by omega)))
      rw [if_neg (by omega), if_neg (by omega)]
      refine tk_ift (by rw [e]; exact tk_in_nI (n := 6) hj6 (by decide)) ?_
      refine tk_ift (by rw [tk_up_p _ _ _ (by decide), e]; exact tk_in_nI (n := 6) hj6 (by decide)) ?_
      have e9 : ∀ (v w : Int32) (c d : Nat), tk_up (tk_up σ 40 c v) 41 d w 39 2 = σ 39 2 := fun v w c d => by rw [tk_up_p _ _ _ (by decide), tk_up_p _ _ _ (by decide)]
      have e8 : ∀ (v w : Int32) (c d : Nat), tk_up (tk_up σ 43 c v) 44 d w 42 2 = σ 42 2 := fun v w c d => by rw [tk_up_p _ _ _ (by decide), tk_up_p _ _ _ (by decide)]
      refine And.intro ?_ ?_
      · dsimp only
        rw [tk_up_at]
        simp only [e9, e8, e, nI_1]
      · dsimp only
        simp only [e9, e8, tk_up_p σ _ _ (by decide : (39 : Nat) ≠ 40), tk_up_p σ _ _ (by decide : (42 : Nat) ≠ 43), e, nI_1, nI_clamp (show j < 2 ^ 31 by omega)]
    · have hj6 : j = 6 := by
        rw [e] at h1
        exact Nat.le_antisymm hj (Nat.le_of_not_lt (fun h => h1 (nI_lt (b := 6) h (by decide))))
      rw [if_pos hj6, if_pos hj6]
      exact And.intro rfl rfl
theorem k_nLose (hp : p = 39 ∨ p = 42) : tk_Fn M_X0_lose [.ref p] (σ, tk_rho a b, τ, 62) (some (.int (σ p 2))) (tk_up σ p 2 0, tk_rho a b, τ, 62) := by
  rcases hp with rfl | rfl <;>
  · refine tk_ct rfl rfl (Nat.le_of_ble_eq_true rfl) (fun l D cy => tk_run (hT_X0_lose none) [] 40 _ ?_)
    exact And.intro rfl rfl
theorem k_cFound {j : Nat} (ha : tk_tw a) (hj : j ≤ 6) (e : σ 39 2 = nI j) : tk_Ct M_X6_found [.ref 1, .int k, .int t] (σ, tk_rho a b, τ, 62) (fun v μ' => v = some (.int (if (0 ≤ k ∧ k < σ a 3) ∧ (0 ≤ t ∧ t ≤ 99) then (if j = 6 then -3 else nI (j + 1)) else -1)) ∧ μ' = ((if (0 ≤ k ∧ k < σ a 3) ∧ (0 ≤ t ∧ t ≤ 99) then (if j = 6 then σ else tk_up (tk_up (tk_up σ 40 j k) 41 j t) 39 2 (nI (j + 1))) else σ), tk_rho a b, τ, 62)) := by
  refine tk_ct rfl rfl (Nat.le_of_ble_eq_true rfl) (fun l D cy => tk_run (hT_X6_found none) [] 40 _ ?_)
  refine tk_ift (tk_twok ha) ?_
  refine tk_cc (k_isKerb ha) (fun v9 μ9 h9 => ?_)
  obtain ⟨rfl, rfl⟩ := h9
  refine And.intro (fun h1 => ?_) (fun h1 => ?_)
  all_goals try dsimp only [tk_c0, tk_c1, tk_c2, tk_c3, tk_c4, tk_c5, tk_c6, tk_c7, tk_c8, tk_c9, tk_c10, tk_c11, tk_c12, tk_c13] at h1
  · have h1 := tk_b0.mp h1
    rw [if_neg (fun h => h1 h.1), if_neg (fun h => h1 h.1)]
    exact And.intro rfl rfl
  · have h1 := Decidable.not_not.mp (fun h => h1 (tk_b0.mpr h))
    refine tk_cc (k_isWithin _ _ _ _) (fun v9 μ9 h9 => ?_)
    obtain ⟨rfl, rfl⟩ := h9
    refine And.intro (fun h2 => ?_) (fun h2 => ?_)
    all_goals try dsimp only [tk_c0, tk_c1, tk_c2, tk_c3, tk_c4, tk_c5, tk_c6, tk_c7, tk_c8, tk_c9, tk_c10, tk_c11, tk_c12, tk_c13] at h2
    · have h2 := tk_b0.mp h2
      rw [if_neg (fun h => h2 h.2), if_neg (fun h => h2 h.2)]
      exact And.intro rfl rfl
    · have h2 := Decidable.not_not.mp (fun h => h2 (tk_b0.mpr h))
      have hc : (0 ≤ k ∧ k < σ a 3) ∧ (0 ≤ t ∧ t ≤ 99) := ⟨h1, h2⟩
      rw [if_pos hc, if_pos hc]
      refine tk_cc (k_nAdd (p := 39) (Or.inl rfl) hj e) (fun v9 μ9 h9 => ?_)
      obtain ⟨rfl, rfl⟩ := h9
      exact And.intro rfl rfl
theorem k_cSaw {j : Nat} (hj : j ≤ 6) (e : σ 42 2 = nI j) : tk_Ct M_X6_saw [.ref 1, .int t, .int k] (σ, tk_rho a b, τ, 62) (fun v μ' => v = some (.int (if (0 ≤ t ∧ t ≤ 99) ∧ (0 ≤ k ∧ k ≤ 19) then (if j = 6 then -3 else nI (j + 1)) else -1)) ∧ μ' = ((if (0 ≤ t ∧ t ≤ 99) ∧ (0 ≤ k ∧ k ≤ 19) then (if j = 6 then σ else tk_up (tk_up (tk_up σ 43 j t) 44 j k) 42 2 (nI (j + 1))) else σ), tk_rho a b, τ, 62)) := by
  refine tk_ct rfl rfl (Nat.le_of_ble_eq_true rfl) (fun l D cy => tk_run (hT_X6_saw none) [] 40 _ ?_)
  refine tk_cc (k_isWithin _ _ _ _) (fun v9 μ9 h9 => ?_)
  obtain ⟨rfl, rfl⟩ := h9
  refine And.intro (fun h1 => ?_) (fun h1 => ?_)
  all_goals try dsimp only [tk_c0, tk_c1, tk_c2, tk_c3, tk_c4, tk_c5, tk_c6, tk_c7, tk_c8, tk_c9, tk_c10, tk_c11, tk_c12, tk_c13] at h1
  · have h1 := tk_b0.mp h1
    rw [if_neg (fun h => h1 h.1), if_neg (fun h => h1 h.1)]
    exact And.intro rfl rfl
  · have h1 := Decidable.not_not.mp (fun h => h1 (tk_b0.mpr h))
    refine tk_cc (k_isWithin _ _ _ _) (fun v9 μ9 h9 => ?_)
    obtain ⟨rfl, rfl⟩ := h9
    refine And.intro (fun h2 => ?_) (fun h2 => ?_)
    all_goals try dsimp only [tk_c0, tk_c1, tk_c2, tk_c3, tk_c4, tk_c5, tk_c6, tk_c7, tk_c8, tk_c9, tk_c10, tk_c11, tk_c12, tk_c13] at h2
    · have h2 := tk_b0.mp h2
      rw [if_neg (fun h => h2 h.2), if_neg (fun h => h2 h.2)]
      exact And.intro rfl rfl
    · have h2 := Decidable.not_not.mp (fun h => h2 (tk_b0.mpr h))
      have hc : (0 ≤ t ∧ t ≤ 99) ∧ (0 ≤ k ∧ k ≤ 19) := ⟨h1, h2⟩
      rw [if_pos hc, if_pos hc]
      refine tk_cc (k_nAdd (p := 42) (Or.inr rfl) hj e) (fun v9 μ9 h9 => ?_)
      obtain ⟨rfl, rfl⟩ := h9
      exact And.intro rfl rfl
theorem k_cForget : tk_Ct M_X6_forget [.ref 1] (σ, tk_rho a b, τ, 62) (fun v μ' => v = some (.int (σ 39 2 + σ 42 2)) ∧ μ' = (tk_up (tk_up σ 39 2 0) 42 2 0, tk_rho a b, τ, 62)) := by
  refine tk_ct rfl rfl (Nat.le_of_ble_eq_true rfl) (fun l D cy => tk_run (hT_X6_forget none) [] 40 _ ?_)
  refine tk_cc (k_nLose (p := 39) (Or.inl rfl)) (fun v9 μ9 h9 => ?_)
  obtain ⟨rfl, rfl⟩ := h9
  refine tk_cc (k_nLose (p := 42) (Or.inr rfl)) (fun v9 μ9 h9 => ?_)
  obtain ⟨rfl, rfl⟩ := h9
  refine And.intro ?_ rfl
  dsimp only
  rw [tk_up_p _ _ _ (by decide)]
/-- the text: a letter more; empty -/
theorem k_tAdd {j : Nat} {c : Int32} (hj : j ≤ 150) (e : σ 2 1 = nI j) (hc : 0 ≤ c ∧ c ≤ 255) : tk_Fn M_X3_add [.ref 2, .int c] (σ, tk_rho a b, τ, 62) (some (.int (if j = 150 then -3 else nI (j + 1)))) (if j = 150 then σ else tk_up (tk_up σ 3 j c) 2 1 (nI (j + 1)), tk_rho a b, τ, 62) := by
  obtain ⟨m, hm, rfl⟩ := nI_of2 (M := 255) (n := 255) rfl (Int32.not_lt.mpr hc.1) hc.2
  refine tk_ct rfl rfl (Nat.le_of_ble_eq_true rfl) (fun l D cy => tk_run (hT_X3_add none) [] 40 _ ?_)
  refine And.intro (fun h1 => ?_) (fun h1 => ?_)
  all_goals try dsimp only [tk_c0, tk_c1, tk_c2, tk_c3, tk_c4, tk_c5, tk_c6, tk_c7, tk_c8, tk_c9, tk_c10, tk_c11, tk_c12, tk_c13] at h1
  · have hj6 : j < 150 := by
      rw [e] at h1
      exact Nat.lt_of_not_le (fun h => absurd h1 (nI_nlt (a := j) (b := 150) h (by omega)))
    rw [if_neg (by omega), if_neg (by omega)]
    refine tk_ift (by rw [e]; exact tk_in_nI (n := 150) hj6 (by decide)) ?_
    have e9 : ∀ (v : Int32) (c : Nat), tk_up σ 3 c v 2 1 = σ 2 1 := fun v c => by rw [tk_up_p _ _ _ (by decide)]
    have ec : (((nI m).toUInt32 % 65536).toInt32) = nI m := by
      have h := pk_char (nI m)
      rw [pk_tn (by omega), Nat.mod_eq_of_lt (by omega)] at h
      exact h
    have en : vp_nar .char (nI m) = nI m := by
      have h := (pk_charN (q := m) (by omega)).1
      unfold vp_nar
      rw [h]
    refine And.intro ?_ ?_
    · dsimp only
      rw [tk_up_at]
      simp only [e9, e, nI_1]
    · dsimp only
      simp only [e9, e, nI_1, nI_clamp (show j < 2 ^ 31 by omega), ec, en]
  · have hj6 : j = 150 := by
      rw [e] at h1
      exact Nat.le_antisymm hj (Nat.le_of_not_lt (fun h => h1 (nI_lt (b := 150) h (by decide))))
    rw [if_pos hj6, if_pos hj6]
    exact And.intro rfl rfl
theorem k_tEmpty : tk_Fn M_X3_empty [.ref 2] (σ, tk_rho a b, τ, 62) (some (.int (σ 2 1))) (tk_up σ 2 1 0, tk_rho a b, τ, 62) := by
  refine tk_ct rfl rfl (Nat.le_of_ble_eq_true rfl) (fun l D cy => tk_run (hT_X3_empty none) [] 40 _ ?_)
  exact And.intro rfl rfl
theorem k_cType {j : Nat} {c : Int32} (hj : j ≤ 150) (e : σ 2 1 = nI j) : tk_Ct M_X6_type [.ref 1, .int c] (σ, tk_rho a b, τ, 62) (fun v μ' => v = some (.int (if 0 ≤ c ∧ c ≤ 255 then (if j = 150 then -3 else nI (j + 1)) else -1)) ∧ μ' = ((if 0 ≤ c ∧ c ≤ 255 then (if j = 150 then σ else tk_up (tk_up σ 3 j c) 2 1 (nI (j + 1))) else σ), tk_rho a b, τ, 62)) := by
  refine tk_ct rfl rfl (Nat.le_of_ble_eq_true rfl) (fun l D cy => tk_run (hT_X6_type none) [] 40 _ ?_)
  refine tk_cc (k_isWithin _ _ _ _) (fun v9 μ9 h9 => ?_)
  obtain ⟨rfl, rfl⟩ := h9
  refine And.intro (fun h1 => ?_) (fun h1 => ?_)
  all_goals try dsimp only [tk_c0, tk_c1, tk_c2, tk_c3, tk_c4, tk_c5, tk_c6, tk_c7, tk_c8, tk_c9, tk_c10, tk_c11, tk_c12, tk_c13] at h1
  · have h1 := tk_b0.mp h1
    rw [if_neg h1, if_neg h1]
    exact And.intro rfl rfl
  · have h1 := Decidable.not_not.mp (fun h => h1 (tk_b0.mpr h))
    rw [if_pos h1, if_pos h1]
    refine tk_cc (k_tAdd hj e h1) (fun v9 μ9 h9 => ?_)
    obtain ⟨rfl, rfl⟩ := h9
    exact And.intro rfl rfl
theorem k_cClear : tk_Ct M_X6_clear [.ref 1] (σ, tk_rho a b, τ, 62) (fun v μ' => v = some (.int (σ 2 1)) ∧ μ' = (tk_up σ 2 1 0, tk_rho a b, τ, 62)) := by
  refine tk_ct rfl rfl (Nat.le_of_ble_eq_true rfl) (fun l D cy => tk_run (hT_X6_clear none) [] 40 _ ?_)
  refine tk_cc (k_tEmpty) (fun v9 μ9 h9 => ?_)
  obtain ⟨rfl, rfl⟩ := h9
  exact And.intro rfl rfl
end
