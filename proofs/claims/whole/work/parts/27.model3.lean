/-! the reference: what it tells -/
section
variable {t k x y w : Int32} {σ : Nat → Nat → Int32} {a b : Nat} {τ : Nat → Nat → Int64}
theorem k_floodIn_loop {l : Launch} {D : va_G} {cy : Nat → ClassId} {N : Nat} (hE : tk_VE (tk_F σ)) (e : σ 49 0 = nI N) (hN : N ≤ 8) : ∀ (n j : Nat) (i : Int32), i = nI j → j + n = N →
    tk_J l D cy none M_X7_floodIn (4, [some (.ref 47), some (.int t), some (.int (tk_bits (fun k => tk_F σ 0 k ≤ tk_lv' (tk_F σ) t) j)), some (.int i)], [], (σ, tk_rho a b, τ, 62), 0, 0) (fun v μ' => v = some (.int (tk_bits (fun k => tk_F σ 0 k ≤ tk_lv' (tk_F σ) t) N)) ∧ μ' = (σ, tk_rho a b, τ, 62)) := by
  intro n
  induction n with
  | zero =>
    intro j i hi hj
    subst hi
    refine tk_run (hT_X7_floodIn none) [4] 40 _ ?_
    refine And.intro (fun h1 => ?_) (fun h1 => ?_)
    all_goals try dsimp only [tk_c0, tk_c1, tk_c2, tk_c3, tk_c4, tk_c5, tk_c6, tk_c7, tk_c8, tk_c9, tk_c10, tk_c11, tk_c12, tk_c13] at h1
    · refine And.intro ?_ rfl
      rw [← hj]
      rfl
    · exact absurd (by rw [e]; exact nI_le (by omega) (by omega)) h1
  | succ n ih =>
    intro j i hi hj
    subst hi
    have h9 := ih (j + 1) _ (nI_1 j) (by omega)
    refine tk_run (hT_X7_floodIn none) [4] 40 _ ?_
    refine And.intro (fun h1 => ?_) (fun h1 => ?_)
    all_goals try dsimp only [tk_c0, tk_c1, tk_c2, tk_c3, tk_c4, tk_c5, tk_c6, tk_c7, tk_c8, tk_c9, tk_c10, tk_c11, tk_c12, tk_c13] at h1
    · exact absurd h1 (by rw [e]; exact nI_ge (by omega) (by omega))
    · refine tk_ift (tk_in_nI (n := 16) (by omega) (by decide)) ?_
      refine tk_cc (k_mLev hE.1) (fun v9 μ9 h9 => ?_)
      obtain ⟨rfl, rfl⟩ := h9
      rw [nI_clamp (by omega)]
      refine And.intro (fun h2 => ?_) (fun h2 => ?_)
      all_goals try dsimp only [tk_c0, tk_c1, tk_c2, tk_c3, tk_c4, tk_c5, tk_c6, tk_c7, tk_c8, tk_c9, tk_c10, tk_c11, tk_c12, tk_c13] at h2
      · have h3 : ¬ tk_F σ 0 j ≤ tk_lv' (tk_F σ) t := fun h => Int32.not_lt.mpr h h2
        rw [tk_bits, if_neg h3, ← Int32.or_zero (a := tk_bits _ j)] at h9
        exact h9
      · have h3 : tk_F σ 0 j ≤ tk_lv' (tk_F σ) t := Int32.not_lt.mp h2
        rw [tk_bits, if_pos h3] at h9
        exact h9
theorem k_floodIn {N : Nat} (hE : tk_VE (tk_F σ)) (e : σ 49 0 = nI N) (hN : N ≤ 8) : tk_Fn M_X7_floodIn [.ref 47, .int t] (σ, tk_rho a b, τ, 62) (some (.int (tk_bits (fun k => tk_F σ 0 k ≤ tk_lv' (tk_F σ) t) N))) (σ, tk_rho a b, τ, 62) := by
  refine tk_ct rfl rfl (Nat.le_of_ble_eq_true rfl) (fun l D cy => tk_run (hT_X7_floodIn none) [4] 20 _ ?_)
  exact k_floodIn_loop hE e hN N 0 _ rfl (by omega)
theorem k_thingsOn_loop {l : Launch} {D : va_G} {cy : Nat → ClassId} {N : Nat} (e : σ 49 1 = nI N) (hN : N ≤ 5) : ∀ (n j : Nat) (i : Int32), i = nI j → j + n = N →
    tk_J l D cy none M_X7_thingsOn (4, [some (.ref 47), some (.int k), some (.int (tk_bits (fun t => σ 55 (6 + t) = 0 ∧ σ 55 (1 + t) = k) j)), some (.int i)], [], (σ, tk_rho a b, τ, 62), 0, 0) (fun v μ' => v = some (.int (tk_bits (fun t => σ 55 (6 + t) = 0 ∧ σ 55 (1 + t) = k) N)) ∧ μ' = (σ, tk_rho a b, τ, 62)) := by
  intro n
  induction n with
  | zero =>
    intro j i hi hj
    subst hi
    refine tk_run (hT_X7_thingsOn none) [4] 40 _ ?_
    refine And.intro (fun h1 => ?_) (fun h1 => ?_)
    all_goals try dsimp only [tk_c0, tk_c1, tk_c2, tk_c3, tk_c4, tk_c5, tk_c6, tk_c7, tk_c8, tk_c9, tk_c10, tk_c11, tk_c12, tk_c13] at h1
    · refine And.intro ?_ rfl
      rw [← hj]
      rfl
    · exact absurd (by rw [e]; exact nI_le (by omega) (by omega)) h1
  | succ n ih =>
    intro j i hi hj
    subst hi
    have h9 := ih (j + 1) _ (nI_1 j) (by omega)
    have e1 : (1 : Int32) + nI j = nI (1 + j) := nI_add 1 j
    have e6 : (6 : Int32) + nI j = nI (6 + j) := nI_add 6 j
    refine tk_run (hT_X7_thingsOn none) [4] 40 _ ?_
    refine And.intro (fun h1 => ?_) (fun h1 => ?_)
    all_goals try dsimp only [tk_c0, tk_c1, tk_c2, tk_c3, tk_c4, tk_c5, tk_c6, tk_c7, tk_c8, tk_c9, tk_c10, tk_c11, tk_c12, tk_c13] at h1
    · exact absurd h1 (by rw [e]; exact nI_ge (by omega) (by omega))
    · refine tk_ift (by dsimp only; rw [e1]; exact tk_in_nI (n := 13) (by omega) (by decide)) ?_
      refine And.intro (fun h2 => ?_) (fun h2 => ?_)
      all_goals try dsimp only [tk_c0, tk_c1, tk_c2, tk_c3, tk_c4, tk_c5, tk_c6, tk_c7, tk_c8, tk_c9, tk_c10, tk_c11, tk_c12, tk_c13] at h2
      · rw [e1, nI_clamp (by omega)] at h2
        refine tk_ift (by dsimp only; rw [e6]; exact tk_in_nI (n := 13) (by omega) (by decide)) ?_
        refine And.intro (fun h3 => ?_) (fun h3 => ?_)
        all_goals try dsimp only [tk_c0, tk_c1, tk_c2, tk_c3, tk_c4, tk_c5, tk_c6, tk_c7, tk_c8, tk_c9, tk_c10, tk_c11, tk_c12, tk_c13] at h3
        · rw [e6, nI_clamp (by omega)] at h3
          rw [tk_bits, if_pos ⟨h3, h2⟩] at h9
          exact h9
        · rw [e6, nI_clamp (by omega)] at h3
          rw [tk_bits, if_neg (fun h => h3 h.1), ← Int32.or_zero (a := tk_bits _ j)] at h9
          exact h9
      · rw [e1, nI_clamp (by omega)] at h2
        rw [tk_bits, if_neg (fun h => h2 h.2), ← Int32.or_zero (a := tk_bits _ j)] at h9
        exact h9
theorem k_thingsOn {N : Nat} (e : σ 49 1 = nI N) (hN : N ≤ 5) : tk_Fn M_X7_thingsOn [.ref 47, .int k] (σ, tk_rho a b, τ, 62) (some (.int (tk_bits (fun t => σ 55 (6 + t) = 0 ∧ σ 55 (1 + t) = k) N))) (σ, tk_rho a b, τ, 62) := by
  refine tk_ct rfl rfl (Nat.le_of_ble_eq_true rfl) (fun l D cy => tk_run (hT_X7_thingsOn none) [4] 20 _ ?_)
  exact k_thingsOn_loop e hN N 0 _ rfl (by omega)
theorem tk_le4 {w : Int32} (h : ¬ (0 ≤ w ∧ w ≤ 4)) (n : Int32) (hn : 0 ≤ n ∧ n ≤ 4) : ¬ w = n := fun e => h (e ▸ hn)
theorem tk_is4 {w : Int32} (h : 0 ≤ w ∧ w ≤ 4) (h0 : ¬ w = 0) (h1 : ¬ w = 1) (h2 : ¬ w = 2) (h3 : ¬ w = 3) : w = 4 := by
  obtain ⟨j, hj, rfl⟩ := nI_of2 (M := 4) (n := 4) rfl (Int32.not_lt.mpr h.1) h.2
  match j, hj with
  | 0, _ => exact absurd rfl h0
  | 1, _ => exact absurd rfl h1
  | 2, _ => exact absurd rfl h2
  | 3, _ => exact absurd rfl h3
  | 4, _ => rfl
theorem k_mKerbQ (hz : σ 47 0 = 0) (hE : tk_VE (tk_F σ)) : tk_Ct M_X7_kerb [.ref 47, .int k, .int w] (σ, tk_rho a b, τ, 62) (fun v μ' => v = some (.int (if 0 ≤ k ∧ k < σ 49 0 then (if w = 0 then σ 50 k.toNatClampNeg else if w = 1 then σ 51 k.toNatClampNeg else if w = 2 then σ 52 k.toNatClampNeg else if w = 3 then σ 53 k.toNatClampNeg else if w = 4 then tk_bits (fun t => σ 55 (6 + t) = 0 ∧ σ 55 (1 + t) = k) (σ 49 1).toNatClampNeg else -1) else -1)) ∧ μ' = (σ, tk_rho a b, τ, 62)) := by
  obtain ⟨N, hN, e⟩ := tk_nI_of hE.2.2.2.2.2.1 (by decide)
  have e : σ 49 1 = nI N := e
  refine tk_ct rfl rfl (Nat.le_of_ble_eq_true rfl) (fun l D cy => tk_thr (hT_X7_kerb none) rfl rfl rfl hz (tk_run (hT_X7_kerb none) [] 40 _ ?_))
  refine tk_cc (k_mKerb hE.2.2.2.2.1.1) (fun v9 μ9 h9 => ?_)
  obtain ⟨rfl, rfl⟩ := h9
  refine And.intro (fun h1 => ?_) (fun h1 => ?_)
  all_goals try dsimp only [tk_c0, tk_c1, tk_c2, tk_c3, tk_c4, tk_c5, tk_c6, tk_c7, tk_c8, tk_c9, tk_c10, tk_c11, tk_c12, tk_c13] at h1
  · refine And.intro ?_ rfl
    rw [if_neg (tk_b0.mp h1)]
  · have h1 := Decidable.not_not.mp (fun h => h1 (tk_b0.mpr h))
    have hin := tk_kI16 hE (k := k) h1
    have hin := tk_in_of hin.1 hin.2 (Int32.le_refl _) (by decide : 16 < 2 ^ 31)
    rw [if_pos h1]
    refine tk_cc (k_in _ _ _ _) (fun v9 μ9 h9 => ?_)
    obtain ⟨rfl, rfl⟩ := h9
    refine And.intro (fun h2 => ?_) (fun h2 => ?_)
    all_goals try dsimp only [tk_c0, tk_c1, tk_c2, tk_c3, tk_c4, tk_c5, tk_c6, tk_c7, tk_c8, tk_c9, tk_c10, tk_c11, tk_c12, tk_c13] at h2
    · have h2 := tk_b0.mp h2
      refine And.intro ?_ rfl
      rw [if_neg (tk_le4 h2 0 (by decide)), if_neg (tk_le4 h2 1 (by decide)), if_neg (tk_le4 h2 2 (by decide)), if_neg (tk_le4 h2 3 (by decide)), if_neg (tk_le4 h2 4 (by decide))]
    · have h2 := Decidable.not_not.mp (fun h => h2 (tk_b0.mpr h))
      refine And.intro (fun c0 => ?_) (fun c0 => ?_)
      all_goals try dsimp only [tk_c0, tk_c1, tk_c2, tk_c3, tk_c4, tk_c5, tk_c6, tk_c7, tk_c8, tk_c9, tk_c10, tk_c11, tk_c12, tk_c13] at c0
      · subst c0
        exact tk_ift hin (And.intro rfl rfl)
      · refine And.intro (fun c1 => ?_) (fun c1 => ?_)
        all_goals try dsimp only [tk_c0, tk_c1, tk_c2, tk_c3, tk_c4, tk_c5, tk_c6, tk_c7, tk_c8, tk_c9, tk_c10, tk_c11, tk_c12, tk_c13] at c1
        · subst c1
          exact tk_ift hin (And.intro rfl rfl)
        · refine And.intro (fun c2 => ?_) (fun c2 => ?_)
          all_goals try dsimp only [tk_c0, tk_c1, tk_c2, tk_c3, tk_c4, tk_c5, tk_c6, tk_c7, tk_c8, tk_c9, tk_c10, tk_c11, tk_c12, tk_c13] at c2
          · subst c2
            exact tk_ift hin (And.intro rfl rfl)
          · refine And.intro (fun c3 => ?_) (fun c3 => ?_)
            all_goals try dsimp only [tk_c0, tk_c1, tk_c2, tk_c3, tk_c4, tk_c5, tk_c6, tk_c7, tk_c8, tk_c9, tk_c10, tk_c11, tk_c12, tk_c13] at c3
            · subst c3
              exact tk_ift hin (And.intro rfl rfl)
            · have c4 := tk_is4 h2 c0 c1 c2 c3
              subst c4
              refine tk_cc (k_thingsOn e hN) (fun v9 μ9 h9 => ?_)
              obtain ⟨rfl, rfl⟩ := h9
              refine And.intro ?_ rfl
              rw [e, nI_clamp (by omega)]
              rfl
theorem k_mThingQ (hz : σ 47 0 = 0) (hE : tk_VE (tk_F σ)) (hT : tk_MT σ) : tk_Ct M_X7_thing [.ref 47, .int t, .int w] (σ, tk_rho a b, τ, 62) (fun v μ' => v = some (.int (if 0 ≤ t ∧ t < σ 49 1 then (if w = 0 then tk_pl (σ 55 (1 + t.toNatClampNeg), σ 55 (6 + t.toNatClampNeg)) else if w = 1 then σ 55 (1 + t.toNatClampNeg) else if w = 2 then σ 55 (6 + t.toNatClampNeg) else if w = 3 then tk_mt σ t else -1) else -1)) ∧ μ' = (σ, tk_rho a b, τ, 62)) := by
  refine tk_ct rfl rfl (Nat.le_of_ble_eq_true rfl) (fun l D cy => tk_thr (hT_X7_thing none) rfl rfl rfl hz (tk_run (hT_X7_thing none) [] 40 _ ?_))
  refine tk_cc (k_mThing hE.2.2.2.2.2.1.1) (fun v9 μ9 h9 => ?_)
  obtain ⟨rfl, rfl⟩ := h9
  refine And.intro (fun h1 => ?_) (fun h1 => ?_)
  all_goals try dsimp only [tk_c0, tk_c1, tk_c2, tk_c3, tk_c4, tk_c5, tk_c6, tk_c7, tk_c8, tk_c9, tk_c10, tk_c11, tk_c12, tk_c13] at h1
  · refine And.intro ?_ rfl
    rw [if_neg (tk_b0.mp h1)]
  · have h1 := Decidable.not_not.mp (fun h => h1 (tk_b0.mpr h))
    rw [if_pos h1]
    obtain ⟨j, hj, rfl⟩ := tk_ix h1 hE.2.2.2.2.2.1.2 (by decide)
    have hs := hT j (by omega) h1.2
    rw [nI_clamp (by omega)]
    have e1 : (1 : Int32) + nI j = nI (1 + j) := nI_add 1 j
    have e6 : (6 : Int32) + nI j = nI (6 + j) := nI_add 6 j
    have i1 : tk_in ((1 : Int32) + nI j) 13 = true := by rw [e1]; exact tk_in_nI (by omega) (by decide)
    have i6 : tk_in ((6 : Int32) + nI j) 13 = true := by rw [e6]; exact tk_in_nI (by omega) (by decide)
    have f1 : ((1 : Int32) + nI j).toNatClampNeg = 1 + j := by rw [e1, nI_clamp (by omega)]
    have f6 : ((6 : Int32) + nI j).toNatClampNeg = 6 + j := by rw [e6, nI_clamp (by omega)]
    refine tk_cc (k_in _ _ _ _) (fun v9 μ9 h9 => ?_)
    obtain ⟨rfl, rfl⟩ := h9
    refine And.intro (fun h2 => ?_) (fun h2 => ?_)
    all_goals try dsimp only [tk_c0, tk_c1, tk_c2, tk_c3, tk_c4, tk_c5, tk_c6, tk_c7, tk_c8, tk_c9, tk_c10, tk_c11, tk_c12, tk_c13] at h2
    · have h2 := tk_b0.mp h2
      refine And.intro ?_ rfl
      have g : ∀ n : Int32, 0 ≤ n ∧ n ≤ 3 → ¬ w = n := fun n hn e => h2 (e ▸ hn)
      rw [if_neg (g 0 (by decide)), if_neg (g 1 (by decide)), if_neg (g 2 (by decide)), if_neg (g 3 (by decide))]
    · have h2 := Decidable.not_not.mp (fun h => h2 (tk_b0.mpr h))
      refine And.intro (fun c0 => ?_) (fun c0 => ?_)
      all_goals try dsimp only [tk_c0, tk_c1, tk_c2, tk_c3, tk_c4, tk_c5, tk_c6, tk_c7, tk_c8, tk_c9, tk_c10, tk_c11, tk_c12, tk_c13] at c0
      · subst c0
        refine tk_ift i6 ?_
        refine And.intro (fun h3 => ?_) (fun h3 => ?_)
        all_goals try dsimp only [tk_c0, tk_c1, tk_c2, tk_c3, tk_c4, tk_c5, tk_c6, tk_c7, tk_c8, tk_c9, tk_c10, tk_c11, tk_c12, tk_c13] at h3
        · rw [f6] at h3
          refine tk_ift i1 (And.intro ?_ rfl)
          dsimp only
          rw [f1, if_pos rfl, tk_pl, if_pos ((tk_ng hs).mp h3)]
        · rw [f6] at h3
          refine And.intro ?_ rfl
          rw [if_pos rfl, tk_pl, if_neg (fun h => h3 ((tk_ng hs).mpr h))]
      · refine And.intro (fun c1 => ?_) (fun c1 => ?_)
        all_goals try dsimp only [tk_c0, tk_c1, tk_c2, tk_c3, tk_c4, tk_c5, tk_c6, tk_c7, tk_c8, tk_c9, tk_c10, tk_c11, tk_c12, tk_c13] at c1
        · subst c1
          refine tk_ift i1 (And.intro ?_ rfl)
          dsimp only
          rw [f1]
          rfl
        · refine And.intro (fun c2 => ?_) (fun c2 => ?_)
          all_goals try dsimp only [tk_c0, tk_c1, tk_c2, tk_c3, tk_c4, tk_c5, tk_c6, tk_c7, tk_c8, tk_c9, tk_c10, tk_c11, tk_c12, tk_c13] at c2
          · subst c2
            refine tk_ift i6 (And.intro ?_ rfl)
            dsimp only
            rw [f6]
            rfl
          · have c3 : w = 3 := by
              obtain ⟨m, hm, rfl⟩ := nI_of2 (M := 3) (n := 3) rfl (Int32.not_lt.mpr h2.1) h2.2
              match m, hm with
              | 0, _ => exact absurd rfl c0
              | 1, _ => exact absurd rfl c1
              | 2, _ => exact absurd rfl c2
              | 3, _ => rfl
            subst c3
            exact And.intro rfl rfl
theorem k_mNow (hz : σ 47 0 = 0) (hE : tk_VE (tk_F σ)) : tk_Ct M_X7_now [.ref 47, .int w] (σ, tk_rho a b, τ, 62) (fun v μ' => v = some (.int (if w = 0 then σ 55 0 else if w = 1 then tk_lv' (tk_F σ) (σ 55 0) else if w = 2 then σ 55 12 else if w = 3 then tk_bits (fun k => tk_F σ 0 k ≤ tk_lv' (tk_F σ) (σ 55 0)) (σ 49 0).toNatClampNeg else if w = 4 then σ 47 20 else -1)) ∧ μ' = (σ, tk_rho a b, τ, 62)) := by
  obtain ⟨N, hN, e⟩ := tk_nI_of hE.2.2.2.2.1 (by decide)
  have e : σ 49 0 = nI N := e
  refine tk_ct rfl rfl (Nat.le_of_ble_eq_true rfl) (fun l D cy => tk_thr (hT_X7_now none) rfl rfl rfl hz (tk_run (hT_X7_now none) [] 40 _ ?_))
  refine tk_cc (k_in _ _ _ _) (fun v9 μ9 h9 => ?_)
  obtain ⟨rfl, rfl⟩ := h9
  refine And.intro (fun h2 => ?_) (fun h2 => ?_)
  all_goals try dsimp only [tk_c0, tk_c1, tk_c2, tk_c3, tk_c4, tk_c5, tk_c6, tk_c7, tk_c8, tk_c9, tk_c10, tk_c11, tk_c12, tk_c13] at h2
  · have h2 := tk_b0.mp h2
    refine And.intro ?_ rfl
    rw [if_neg (tk_le4 h2 0 (by decide)), if_neg (tk_le4 h2 1 (by decide)), if_neg (tk_le4 h2 2 (by decide)), if_neg (tk_le4 h2 3 (by decide)), if_neg (tk_le4 h2 4 (by decide))]
  · have h2 := Decidable.not_not.mp (fun h => h2 (tk_b0.mpr h))
    refine And.intro (fun c0 => ?_) (fun c0 => ?_)
    all_goals try dsimp only [tk_c0, tk_c1, tk_c2, tk_c3, tk_c4, tk_c5, tk_c6, tk_c7, tk_c8, tk_c9, tk_c10, tk_c11, tk_c12, tk_c13] at c0
    · subst c0
      exact And.intro rfl rfl
    · refine And.intro (fun c1 => ?_) (fun c1 => ?_)
      all_goals try dsimp only [tk_c0, tk_c1, tk_c2, tk_c3, tk_c4, tk_c5, tk_c6, tk_c7, tk_c8, tk_c9, tk_c10, tk_c11, tk_c12, tk_c13] at c1
      · subst c1
        refine tk_cc (k_mLev hE.1) (fun v9 μ9 h9 => ?_)
        obtain ⟨rfl, rfl⟩ := h9
        exact And.intro rfl rfl
      · refine And.intro (fun c2 => ?_) (fun c2 => ?_)
        all_goals try dsimp only [tk_c0, tk_c1, tk_c2, tk_c3, tk_c4, tk_c5, tk_c6, tk_c7, tk_c8, tk_c9, tk_c10, tk_c11, tk_c12, tk_c13] at c2
        · subst c2
          exact And.intro rfl rfl
        · refine And.intro (fun c3 => ?_) (fun c3 => ?_)
          all_goals try dsimp only [tk_c0, tk_c1, tk_c2, tk_c3, tk_c4, tk_c5, tk_c6, tk_c7, tk_c8, tk_c9, tk_c10, tk_c11, tk_c12, tk_c13] at c3
          · subst c3
            refine tk_cc (k_floodIn hE e hN) (fun v9 μ9 h9 => ?_)
            obtain ⟨rfl, rfl⟩ := h9
            refine And.intro ?_ rfl
            rw [e, nI_clamp (by omega)]
            rfl
          · have c4 := tk_is4 h2 c0 c1 c2 c3
            subst c4
            exact And.intro rfl rfl
theorem k_mLevel (hz : σ 47 0 = 0) (hE : tk_VE (tk_F σ)) : tk_Ct M_X7_level [.ref 47, .int t] (σ, tk_rho a b, τ, 62) (fun v μ' => v = some (.int (if 0 ≤ t ∧ t ≤ 9999 then tk_lv' (tk_F σ) t else -1)) ∧ μ' = (σ, tk_rho a b, τ, 62)) := by
  refine tk_ct rfl rfl (Nat.le_of_ble_eq_true rfl) (fun l D cy => tk_thr (hT_X7_level none) rfl rfl rfl hz (tk_run (hT_X7_level none) [] 40 _ ?_))
  refine tk_cc (k_in _ _ _ _) (fun v9 μ9 h9 => ?_)
  obtain ⟨rfl, rfl⟩ := h9
  refine And.intro (fun h1 => ?_) (fun h1 => ?_)
  all_goals try dsimp only [tk_c0, tk_c1, tk_c2, tk_c3, tk_c4, tk_c5, tk_c6, tk_c7, tk_c8, tk_c9, tk_c10, tk_c11, tk_c12, tk_c13] at h1
  · refine And.intro ?_ rfl
    rw [if_neg (tk_b0.mp h1)]
  · have h1 := Decidable.not_not.mp (fun h => h1 (tk_b0.mpr h))
    rw [if_pos h1]
    refine tk_cc (k_mLev hE.1) (fun v9 μ9 h9 => ?_)
    obtain ⟨rfl, rfl⟩ := h9
    exact And.intro rfl rfl
theorem k_mFlood (hz : σ 47 0 = 0) (hE : tk_VE (tk_F σ)) : tk_Ct M_X7_flood [.ref 47, .int t] (σ, tk_rho a b, τ, 62) (fun v μ' => v = some (.int (if 0 ≤ t ∧ t ≤ 9999 then tk_bits (fun k => tk_F σ 0 k ≤ tk_lv' (tk_F σ) t) (σ 49 0).toNatClampNeg else -1)) ∧ μ' = (σ, tk_rho a b, τ, 62)) := by
  obtain ⟨N, hN, e⟩ := tk_nI_of hE.2.2.2.2.1 (by decide)
  have e : σ 49 0 = nI N := e
  refine tk_ct rfl rfl (Nat.le_of_ble_eq_true rfl) (fun l D cy => tk_thr (hT_X7_flood none) rfl rfl rfl hz (tk_run (hT_X7_flood none) [] 40 _ ?_))
  refine tk_cc (k_in _ _ _ _) (fun v9 μ9 h9 => ?_)
  obtain ⟨rfl, rfl⟩ := h9
  refine And.intro (fun h1 => ?_) (fun h1 => ?_)
  all_goals try dsimp only [tk_c0, tk_c1, tk_c2, tk_c3, tk_c4, tk_c5, tk_c6, tk_c7, tk_c8, tk_c9, tk_c10, tk_c11, tk_c12, tk_c13] at h1
  · refine And.intro ?_ rfl
    rw [if_neg (tk_b0.mp h1)]
  · have h1 := Decidable.not_not.mp (fun h => h1 (tk_b0.mpr h))
    rw [if_pos h1]
    refine tk_cc (k_floodIn hE e hN) (fun v9 μ9 h9 => ?_)
    obtain ⟨rfl, rfl⟩ := h9
    refine And.intro ?_ rfl
    rw [e, nI_clamp (by omega)]
theorem k_mHigh_loop {l : Launch} {D : va_G} {cy : Nat → ClassId} {N : Nat} (hE : tk_VE (tk_F σ)) (e : σ 49 2 = nI N) (hN : N ≤ 20) : ∀ (n j : Nat) (i : Int32), i = nI j → j + n = N →
    tk_J l D cy none M_X7_high (19, [some (.ref 47), some (.int t), some (.int i)], [], (σ, tk_rho a b, τ, 62), 0, 0) (fun v μ' => v = some (.int (tk_on (tk_fst (fun n => t ≤ tk_lv' (tk_F σ) (σ 55 0 + nI n)) n j) (σ 55 0))) ∧ μ' = (σ, tk_rho a b, τ, 62)) := by
  intro n
  induction n with
  | zero =>
    intro j i hi hj
    subst hi
    refine tk_run (hT_X7_high none) [19] 40 _ ?_
    refine And.intro (fun h1 => ?_) (fun h1 => ?_)
    all_goals try dsimp only [tk_c0, tk_c1, tk_c2, tk_c3, tk_c4, tk_c5, tk_c6, tk_c7, tk_c8, tk_c9, tk_c10, tk_c11, tk_c12, tk_c13] at h1
    · exact And.intro rfl rfl
    · exact absurd (by rw [e]; exact nI_le (by omega) (by omega)) h1
  | succ n ih =>
    intro j i hi hj
    subst hi
    rw [tk_fst]
    refine tk_run (hT_X7_high none) [19] 40 _ ?_
    refine And.intro (fun h1 => ?_) (fun h1 => ?_)
    all_goals try dsimp only [tk_c0, tk_c1, tk_c2, tk_c3, tk_c4, tk_c5, tk_c6, tk_c7, tk_c8, tk_c9, tk_c10, tk_c11, tk_c12, tk_c13] at h1
    · exact absurd h1 (by rw [e]; exact nI_ge (by omega) (by omega))
    · refine tk_cc (k_mLev hE.1) (fun v9 μ9 h9 => ?_)
      obtain ⟨rfl, rfl⟩ := h9
      refine And.intro (fun h2 => ?_) (fun h2 => ?_)
      all_goals try dsimp only [tk_c0, tk_c1, tk_c2, tk_c3, tk_c4, tk_c5, tk_c6, tk_c7, tk_c8, tk_c9, tk_c10, tk_c11, tk_c12, tk_c13] at h2
      · have h3 : ¬ t ≤ tk_lv' (tk_F σ) (σ 55 0 + nI j) := fun h => Int32.not_le.mpr h2 h
        rw [if_neg h3]
        exact ih (j + 1) _ (nI_1 j) (by omega)
      · have h3 : t ≤ tk_lv' (tk_F σ) (σ 55 0 + nI j) := Int32.not_lt.mp h2
        rw [if_pos h3]
        exact And.intro rfl rfl
theorem k_mHigh (hz : σ 47 0 = 0) (hE : tk_VE (tk_F σ)) : tk_Ct M_X7_high [.ref 47, .int t] (σ, tk_rho a b, τ, 62) (fun v μ' => v = some (.int (if 0 ≤ t ∧ t ≤ 19 then tk_on (tk_fst (fun n => t ≤ tk_lv' (tk_F σ) (σ 55 0 + nI n)) (σ 49 2).toNatClampNeg 0) (σ 55 0) else -1)) ∧ μ' = (σ, tk_rho a b, τ, 62)) := by
  obtain ⟨N, hN, e⟩ := tk_nI_of (n := 20) ⟨Int32.le_trans (by decide) hE.1, hE.2.1⟩ (by decide)
  have e : σ 49 2 = nI N := e
  refine tk_ct rfl rfl (Nat.le_of_ble_eq_true rfl) (fun l D cy => tk_thr (hT_X7_high none) rfl rfl rfl hz (tk_run (hT_X7_high none) [19] 40 _ ?_))
  refine tk_cc (k_in _ _ _ _) (fun v9 μ9 h9 => ?_)
  obtain ⟨rfl, rfl⟩ := h9
  refine And.intro (fun h1 => ?_) (fun h1 => ?_)
  all_goals try dsimp only [tk_c0, tk_c1, tk_c2, tk_c3, tk_c4, tk_c5, tk_c6, tk_c7, tk_c8, tk_c9, tk_c10, tk_c11, tk_c12, tk_c13] at h1
  · refine And.intro ?_ rfl
    rw [if_neg (tk_b0.mp h1)]
  · have h1 := Decidable.not_not.mp (fun h => h1 (tk_b0.mpr h))
    rw [if_pos h1, e, nI_clamp (by omega)]
    exact k_mHigh_loop hE e hN N 0 _ rfl (by omega)
theorem k_mCount (hz : σ 47 0 = 0) : tk_Ct M_X7_count [.ref 47, .int w] (σ, tk_rho a b, τ, 62) (fun v μ' => v = some (.int (if w = 0 then σ 49 0 else if w = 1 then σ 49 1 else if w = 2 then σ 49 2 else if w = 3 then σ 49 3 else if w = 4 then σ 49 4 else if w = 5 then σ 47 23 else if w = 6 then σ 47 26 else if w = 7 then σ 47 3 else -1)) ∧ μ' = (σ, tk_rho a b, τ, 62)) := by
  refine tk_ct rfl rfl (Nat.le_of_ble_eq_true rfl) (fun l D cy => tk_thr (hT_X7_count none) rfl rfl rfl hz (tk_run (hT_X7_count none) [] 40 _ ?_))
  refine tk_cc (k_in _ _ _ _) (fun v9 μ9 h9 => ?_)
  obtain ⟨rfl, rfl⟩ := h9
  refine And.intro (fun h1 => ?_) (fun h1 => ?_)
  all_goals try dsimp only [tk_c0, tk_c1, tk_c2, tk_c3, tk_c4, tk_c5, tk_c6, tk_c7, tk_c8, tk_c9, tk_c10, tk_c11, tk_c12, tk_c13] at h1
  · have h1 := tk_b0.mp h1
    rw [if_neg (tk_le4 h1 0 (by decide)), if_neg (tk_le4 h1 1 (by decide)), if_neg (tk_le4 h1 2 (by decide)), if_neg (tk_le4 h1 3 (by decide)), if_neg (tk_le4 h1 4 (by decide))]
    refine And.intro (fun c5 => ?_) (fun c5 => ?_)
    all_goals try dsimp only [tk_c0, tk_c1, tk_c2, tk_c3, tk_c4, tk_c5, tk_c6, tk_c7, tk_c8, tk_c9, tk_c10, tk_c11, tk_c12, tk_c13] at c5
    · rw [if_pos c5]
      exact And.intro rfl rfl
    · rw [if_neg c5]
      refine And.intro (fun c6 => ?_) (fun c6 => ?_)
      all_goals try dsimp only [tk_c0, tk_c1, tk_c2, tk_c3, tk_c4, tk_c5, tk_c6, tk_c7, tk_c8, tk_c9, tk_c10, tk_c11, tk_c12, tk_c13] at c6
      · rw [if_pos c6]
        exact And.intro rfl rfl
      · rw [if_neg c6]
        refine And.intro (fun c7 => ?_) (fun c7 => ?_)
        all_goals try dsimp only [tk_c0, tk_c1, tk_c2, tk_c3, tk_c4, tk_c5, tk_c6, tk_c7, tk_c8, tk_c9, tk_c10, tk_c11, tk_c12, tk_c13] at c7
        · rw [if_pos c7]
          exact And.intro rfl rfl
        · rw [if_neg c7]
          exact And.intro rfl rfl
  · have h1 := Decidable.not_not.mp (fun h => h1 (tk_b0.mpr h))
    obtain ⟨j, hj, rfl⟩ := nI_of2 (M := 4) (n := 4) rfl (Int32.not_lt.mpr h1.1) h1.2
    refine tk_ift (tk_in_nI (n := 10) (by omega) (by decide)) ?_
    match j, hj with
    | 0, _ => exact And.intro rfl rfl
    | 1, _ => exact And.intro rfl rfl
    | 2, _ => exact And.intro rfl rfl
    | 3, _ => exact And.intro rfl rfl
    | 4, _ => exact And.intro rfl rfl
theorem k_mTrace (hz : σ 47 0 = 0) : tk_Ct M_X7_trace [.ref 47] (σ, tk_rho a b, τ, 62) (fun v μ' => v = some (.long (τ 47 1)) ∧ μ' = (σ, tk_rho a b, τ, 62)) := by
  refine tk_ct rfl rfl (Nat.le_of_ble_eq_true rfl) (fun l D cy => tk_thr (hT_X7_trace none) rfl rfl rfl hz (tk_run (hT_X7_trace none) [] 40 _ ?_))
  exact And.intro rfl rfl
theorem k_mForget (hz : σ 47 0 = 0) : tk_Ct M_X7_forget [.ref 47] (σ, tk_rho a b, τ, 62) (fun v μ' => v = some (.int (σ 47 23 + σ 47 26)) ∧ μ' = (tk_up (tk_up σ 47 23 0) 47 26 0, tk_rho a b, τ, 62)) := by
  refine tk_ct rfl rfl (Nat.le_of_ble_eq_true rfl) (fun l D cy => tk_thr (hT_X7_forget none) rfl rfl rfl hz (tk_run (hT_X7_forget none) [] 40 _ ?_))
  exact And.intro rfl rfl
theorem k_mClear (hz : σ 47 0 = 0) : tk_Ct M_X7_clear [.ref 47] (σ, tk_rho a b, τ, 62) (fun v μ' => v = some (.int (σ 47 3)) ∧ μ' = (tk_up σ 47 3 0, tk_rho a b, τ, 62)) := by
  refine tk_ct rfl rfl (Nat.le_of_ble_eq_true rfl) (fun l D cy => tk_thr (hT_X7_clear none) rfl rfl rfl hz (tk_run (hT_X7_clear none) [] 40 _ ?_))
  exact And.intro rfl rfl
theorem k_mType {j : Nat} {c : Int32} (hz : σ 47 0 = 0) (hj : j ≤ 150) (e : σ 47 3 = nI j) : tk_Ct M_X7_type [.ref 47, .int c] (σ, tk_rho a b, τ, 62) (fun v μ' => v = some (.int (if 0 ≤ c ∧ c ≤ 255 then (if j = 150 then -3 else nI (j + 1)) else -1)) ∧ μ' = ((if 0 ≤ c ∧ c ≤ 255 then (if j = 150 then σ else tk_up (tk_up σ 48 j c) 47 3 (nI (j + 1))) else σ), tk_rho a b, τ, 62)) := by
  refine tk_ct rfl rfl (Nat.le_of_ble_eq_true rfl) (fun l D cy => tk_thr (hT_X7_type none) rfl rfl rfl hz (tk_run (hT_X7_type none) [] 40 _ ?_))
  refine tk_cc (k_in _ _ _ _) (fun v9 μ9 h9 => ?_)
  obtain ⟨rfl, rfl⟩ := h9
  refine And.intro (fun h1 => ?_) (fun h1 => ?_)
  all_goals try dsimp only [tk_c0, tk_c1, tk_c2, tk_c3, tk_c4, tk_c5, tk_c6, tk_c7, tk_c8, tk_c9, tk_c10, tk_c11, tk_c12, tk_c13] at h1
  · have h1 := tk_b0.mp h1
    rw [if_neg h1, if_neg h1]
    exact And.intro rfl rfl
  · have h1 := Decidable.not_not.mp (fun h => h1 (tk_b0.mpr h))
    rw [if_pos h1, if_pos h1]
    refine And.intro (fun h2 => ?_) (fun h2 => ?_)
    all_goals try dsimp only [tk_c0, tk_c1, tk_c2, tk_c3, tk_c4, tk_c5, tk_c6, tk_c7, tk_c8, tk_c9, tk_c10, tk_c11, tk_c12, tk_c13] at h2
    · have hj6 : j = 150 := by
        rw [e] at h2
        exact (nI_eq (b := 150) (by omega) (by decide)).mp h2
      rw [if_pos hj6, if_pos hj6]
      exact And.intro rfl rfl
    · have hj6 : ¬ j = 150 := fun h => h2 (by rw [e, h]; rfl)
      rw [if_neg hj6, if_neg hj6]
      refine tk_ift (by rw [e]; exact tk_in_nI (n := 150) (by omega) (by decide)) ?_
      have e9 : ∀ (v : Int32) (c : Nat), tk_up σ 48 c v 47 3 = σ 47 3 := fun v c => by rw [tk_up_p _ _ _ (by decide)]
      refine And.intro ?_ ?_
      · dsimp only
        rw [tk_up_at]
        simp only [e9, e, nI_1]
      · dsimp only
        simp only [e9, e, nI_1, nI_clamp (show j < 2 ^ 31 by omega)]
theorem k_mFound {j : Nat} (hz : σ 47 0 = 0) (hE : tk_VE (tk_F σ)) (hj : j ≤ 6) (e : σ 47 23 = nI j) : tk_Ct M_X7_found [.ref 47, .int k, .int t] (σ, tk_rho a b, τ, 62) (fun v μ' => v = some (.int (if (0 ≤ k ∧ k < σ 49 0) ∧ (0 ≤ t ∧ t ≤ 99) then (if j = 6 then -3 else nI (j + 1)) else -1)) ∧ μ' = ((if (0 ≤ k ∧ k < σ 49 0) ∧ (0 ≤ t ∧ t ≤ 99) then (if j = 6 then σ else tk_up (tk_up (tk_up σ 59 j k) 60 j t) 47 23 (nI (j + 1))) else σ), tk_rho a b, τ, 62)) := by
  refine tk_ct rfl rfl (Nat.le_of_ble_eq_true rfl) (fun l D cy => tk_thr (hT_X7_found none) rfl rfl rfl hz (tk_run (hT_X7_found none) [] 40 _ ?_))
  refine tk_cc (k_mKerb hE.2.2.2.2.1.1) (fun v9 μ9 h9 => ?_)
  obtain ⟨rfl, rfl⟩ := h9
  refine And.intro (fun h1 => ?_) (fun h1 => ?_)
  all_goals try dsimp only [tk_c0, tk_c1, tk_c2, tk_c3, tk_c4, tk_c5, tk_c6, tk_c7, tk_c8, tk_c9, tk_c10, tk_c11, tk_c12, tk_c13] at h1
  · have h1 := tk_b0.mp h1
    rw [if_neg (fun h => h1 h.1), if_neg (fun h => h1 h.1)]
    exact And.intro rfl rfl
  · have h1 := Decidable.not_not.mp (fun h => h1 (tk_b0.mpr h))
    refine tk_cc (k_in _ _ _ _) (fun v9 μ9 h9 => ?_)
    obtain ⟨rfl, rfl⟩ := h9
    refine And.intro (fun h2 => ?_) (fun h2 => ?_)
    all_goals try dsimp only [tk_c0, tk_c1, tk_c2, tk_c3, tk_c4, tk_c5, tk_c6, tk_c7, tk_c8, tk_c9, tk_c10, tk_c11, tk_c12, tk_c13] at h2
    · have h2 := tk_b0.mp h2
      rw [if_neg (fun h => h2 h.2), if_neg (fun h => h2 h.2)]
      exact And.intro rfl rfl
    · have h2 := Decidable.not_not.mp (fun h => h2 (tk_b0.mpr h))
      have hc : (0 ≤ k ∧ k < σ 49 0) ∧ (0 ≤ t ∧ t ≤ 99) := ⟨h1, h2⟩
      rw [if_pos hc, if_pos hc]
      refine And.intro (fun h3 => ?_) (fun h3 => ?_)
      all_goals try dsimp only [tk_c0, tk_c1, tk_c2, tk_c3, tk_c4, tk_c5, tk_c6, tk_c7, tk_c8, tk_c9, tk_c10, tk_c11, tk_c12, tk_c13] at h3
      · have hj6 : j = 6 := by
          rw [e] at h3
          exact (nI_eq (b := 6) (by omega) (by decide)).mp h3
        rw [if_pos hj6, if_pos hj6]
        exact And.intro rfl rfl
      · have hj6 : ¬ j = 6 := fun h => h3 (by rw [e, h]; rfl)
        rw [if_neg hj6, if_neg hj6]
        refine tk_ift (by rw [e]; exact tk_in_nI (n := 6) (by omega) (by decide)) ?_
        refine tk_ift (by rw [tk_up_p _ _ _ (by decide), e]; exact tk_in_nI (n := 6) (by omega) (by decide)) ?_
        have e9 : ∀ (v w : Int32) (c d : Nat), tk_up (tk_up σ 59 c v) 60 d w 47 23 = σ 47 23 := fun v w c d => by rw [tk_up_p _ _ _ (by decide), tk_up_p _ _ _ (by decide)]
        refine And.intro ?_ ?_
        · dsimp only
          rw [tk_up_at]
          simp only [e9, e, nI_1]
        · dsimp only
          simp only [e9, tk_up_p σ _ _ (by decide : (47 : Nat) ≠ 59), e, nI_1, nI_clamp (show j < 2 ^ 31 by omega)]
theorem k_mSaw {j : Nat} (hz : σ 47 0 = 0) (hj : j ≤ 6) (e : σ 47 26 = nI j) : tk_Ct M_X7_saw [.ref 47, .int t, .int k] (σ, tk_rho a b, τ, 62) (fun v μ' => v = some (.int (if (0 ≤ t ∧ t ≤ 99) ∧ (0 ≤ k ∧ k ≤ 19) then (if j = 6 then -3 else nI (j + 1)) else -1)) ∧ μ' = ((if (0 ≤ t ∧ t ≤ 99) ∧ (0 ≤ k ∧ k ≤ 19) then (if j = 6 then σ else tk_up (tk_up (tk_up σ 61 j t) 62 j k) 47 26 (nI (j + 1))) else σ), tk_rho a b, τ, 62)) := by
  refine tk_ct rfl rfl (Nat.le_of_ble_eq_true rfl) (fun l D cy => tk_thr (hT_X7_saw none) rfl rfl rfl hz (tk_run (hT_X7_saw none) [] 40 _ ?_))
  refine tk_cc (k_in _ _ _ _) (fun v9 μ9 h9 => ?_)
  obtain ⟨rfl, rfl⟩ := h9
  refine And.intro (fun h1 => ?_) (fun h1 => ?_)
  all_goals try dsimp only [tk_c0, tk_c1, tk_c2, tk_c3, tk_c4, tk_c5, tk_c6, tk_c7, tk_c8, tk_c9, tk_c10, tk_c11, tk_c12, tk_c13] at h1
  · have h1 := tk_b0.mp h1
    rw [if_neg (fun h => h1 h.1), if_neg (fun h => h1 h.1)]
    exact And.intro rfl rfl
  · have h1 := Decidable.not_not.mp (fun h => h1 (tk_b0.mpr h))
    refine tk_cc (k_in _ _ _ _) (fun v9 μ9 h9 => ?_)
    obtain ⟨rfl, rfl⟩ := h9
    refine And.intro (fun h2 => ?_) (fun h2 => ?_)
    all_goals try dsimp only [tk_c0, tk_c1, tk_c2, tk_c3, tk_c4, tk_c5, tk_c6, tk_c7, tk_c8, tk_c9, tk_c10, tk_c11, tk_c12, tk_c13] at h2
    · have h2 := tk_b0.mp h2
      rw [if_neg (fun h => h2 h.2), if_neg (fun h => h2 h.2)]
      exact And.intro rfl rfl
    · have h2 := Decidable.not_not.mp (fun h => h2 (tk_b0.mpr h))
      have hc : (0 ≤ t ∧ t ≤ 99) ∧ (0 ≤ k ∧ k ≤ 19) := ⟨h1, h2⟩
      rw [if_pos hc, if_pos hc]
      refine And.intro (fun h3 => ?_) (fun h3 => ?_)
      all_goals try dsimp only [tk_c0, tk_c1, tk_c2, tk_c3, tk_c4, tk_c5, tk_c6, tk_c7, tk_c8, tk_c9, tk_c10, tk_c11, tk_c12, tk_c13] at h3
      · have hj6 : j = 6 := by
          rw [e] at h3
          exact (nI_eq (b := 6) (by omega) (by decide)).mp h3
        rw [if_pos hj6, if_pos hj6]
        exact And.intro rfl rfl
      · have hj6 : ¬ j = 6 := fun h => h3 (by rw [e, h]; rfl)
        rw [if_neg hj6, if_neg hj6]
        refine tk_ift (by rw [e]; exact tk_in_nI (n := 6) (by omega) (by decide)) ?_
        refine tk_ift (by rw [tk_up_p _ _ _ (by decide), e]; exact tk_in_nI (n := 6) (by omega) (by decide)) ?_
        have e9 : ∀ (v w : Int32) (c d : Nat), tk_up (tk_up σ 61 c v) 62 d w 47 26 = σ 47 26 := fun v w c d => by rw [tk_up_p _ _ _ (by decide), tk_up_p _ _ _ (by decide)]
        refine And.intro ?_ ?_
        · dsimp only
          rw [tk_up_at]
          simp only [e9, e, nI_1]
        · dsimp only
          simp only [e9, tk_up_p σ _ _ (by decide : (47 : Nat) ≠ 61), e, nI_1, nI_clamp (show j < 2 ^ 31 by omega)]
end
