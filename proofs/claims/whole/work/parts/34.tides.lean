/-! one tide, many tides, of the class -/
/-- whether thing t drifts in this tide -/
def tk_dr (E : Nat → Nat → Int32) (lv : Int32) (d : Nat → Int32) (s : Nat → Int32 × Int32) (t : Nat) : Prop := ¬ d t = 1 ∧ (s t).2 = 0 ∧ E 0 (s t).1.toNatClampNeg ≤ lv
noncomputable def tk_dn (E : Nat → Nat → Int32) (lv : Int32) (d : Nat → Int32) (s : Nat → Int32 × Int32) (N : Nat) : Nat := tk_cnt (tk_dr E lv d s) (fun _ => Classical.propDecidable _) N
/-- how many drift in n tides -/
noncomputable def tk_dt (E : Nat → Nat → Int32) (t : Int32) (d : Nat → Int32) (s : Nat → Int32 × Int32) (N : Nat) : Nat → Nat
  | 0 => 0
  | n + 1 => tk_dt E t d s N n + tk_dn E (tk_lv' E (t + nI n)) d (fun i => tk_iT E t (d i) n (s i)) N
theorem tk_dt_le {E : Nat → Nat → Int32} {t : Int32} {d : Nat → Int32} {s : Nat → Int32 × Int32} {N : Nat} (hN : N ≤ 5) : ∀ n, tk_dt E t d s N n ≤ 5 * n
  | 0 => Nat.le_refl _
  | n + 1 => by
    have h1 := tk_dt_le (E := E) (t := t) (d := d) (s := s) hN n
    have h2 := tk_cnt_le (tk_dr E (tk_lv' E (t + nI n)) d (fun i => tk_iT E t (d i) n (s i))) (fun _ => Classical.propDecidable _) N
    rw [tk_dt, tk_dn]
    omega
section
variable {t k u : Int32} {σ : Nat → Nat → Int32} {a b : Nat} {τ : Nat → Nat → Int64}
theorem k_nPass {N d : Nat} (ha : tk_tw a) (hE : tk_VE (tk_E σ a)) (hN : N ≤ 5) (e : σ a 4 = nI N) (hT : tk_CT a σ) (hd : d ≤ 99999) (ed : σ 16 1 = nI d) :
    tk_Ct M_X1_pass [.ref 16, .ref a] (σ, tk_rho a b, τ, 62) (fun v μ' => v = some (.int (nI (tk_dn (tk_E σ a) (tk_lv' (tk_E σ a) (σ 16 0)) (fun i => σ (18 + i) 2) (fun i => (σ (18 + i) 0, σ (18 + i) 1)) N))) ∧ ∃ σ', μ' = (σ', tk_rho a b, τ, 62) ∧ σ' 16 0 = σ 16 0 + 1 ∧ σ' 16 1 = nI (min (d + tk_dn (tk_E σ a) (tk_lv' (tk_E σ a) (σ 16 0)) (fun i => σ (18 + i) 2) (fun i => (σ (18 + i) 0, σ (18 + i) 1)) N) 99999) ∧
      (∀ i, i < N → (σ' (18 + i) 0, σ' (18 + i) 1) = tk_sT (tk_E σ a) (tk_lv' (tk_E σ a) (σ 16 0)) (σ (18 + i) 2) (σ (18 + i) 0, σ (18 + i) 1)) ∧ (∀ i, i < 5 → σ' (18 + i) 2 = σ (18 + i) 2) ∧ ∀ x y, x ≠ 16 → ¬ (18 ≤ x ∧ x ≤ 22) → σ' x y = σ x y) := by
  generalize hlv : tk_lv' (tk_E σ a) (σ 16 0) = lv
  generalize hcn : (tk_dn (tk_E σ a) lv (fun i => σ (18 + i) 2) (fun i => (σ (18 + i) 0, σ (18 + i) 1))) = cn
  have hyes : ∀ j, tk_dr (tk_E σ a) lv (fun i => σ (18 + i) 2) (fun i => (σ (18 + i) 0, σ (18 + i) 1)) j → cn (j + 1) = cn j + 1 := fun j h => by
    rw [← hcn, tk_dn, tk_cnt, if_pos h]
    rfl
  have hno : ∀ j, ¬ tk_dr (tk_E σ a) lv (fun i => σ (18 + i) 2) (fun i => (σ (18 + i) 0, σ (18 + i) 1)) j → cn (j + 1) = cn j := fun j h => by
    rw [← hcn, tk_dn, tk_cnt, if_neg h]
    rfl
  have hle : ∀ j, cn j ≤ j := fun j => by rw [← hcn]; exact tk_cnt_le _ _ j
  have h00 : cn 0 = 0 := by rw [← hcn]; rfl
  have loop : ∀ (l : Launch) (D : va_G) (cy : Nat → ClassId) (n j : Nat) (i : Int32) (σi : Nat → Nat → Int32), i = nI j → j + n = N →
      (∀ i, i < j → (σi (18 + i) 0, σi (18 + i) 1) = tk_sT (tk_E σ a) lv (σ (18 + i) 2) (σ (18 + i) 0, σ (18 + i) 1)) → (∀ i y, j ≤ i → i < 5 → σi (18 + i) y = σ (18 + i) y) → (∀ i, i < 5 → σi (18 + i) 2 = σ (18 + i) 2) → (∀ x y, ¬ (18 ≤ x ∧ x ≤ 22) → σi x y = σ x y) →
      tk_J l D cy none M_X1_pass (14, [some (.ref 16), some (.ref a), some (.int lv), some (.int (nI (cn j))), some (.int i)], [], (σi, tk_rho a b, τ, 62), 0, 0) (fun v μ' => v = some (.int (nI (cn N))) ∧ ∃ σ', μ' = (σ', tk_rho a b, τ, 62) ∧ σ' 16 0 = σ 16 0 + 1 ∧ σ' 16 1 = nI (min (d + cn N) 99999) ∧ (∀ i, i < N → (σ' (18 + i) 0, σ' (18 + i) 1) = tk_sT (tk_E σ a) lv (σ (18 + i) 2) (σ (18 + i) 0, σ (18 + i) 1)) ∧ (∀ i, i < 5 → σ' (18 + i) 2 = σ (18 + i) 2) ∧ ∀ x y, x ≠ 16 → ¬ (18 ≤ x ∧ x ≤ 22) → σ' x y = σ x y) := by
    intro l D cy n
    induction n with
    | zero =>
      intro j i σi hi hj hv hr h2 hf
      subst hi
      have hjN : j = N := by omega
      subst hjN
      have ea : σi a 4 = nI j := (hf _ _ (by rcases ha with rfl | rfl <;> decide)).trans e
      have e1 : σi 16 1 = nI d := (hf _ _ (by decide)).trans ed
      have e0 : σi 16 0 = σ 16 0 := hf _ _ (by decide)
      have hcj := hle j
      have emin : (if (99999 : Int32) < σi 16 1 + nI (cn j) then 99999 else σi 16 1 + nI (cn j)) = nI (min (d + cn j) 99999) := by
        simp only [e1, nI_add]
        by_cases h : 99999 < d + cn j
        · have hh : (99999 : Int32) < nI (d + cn j) := nI_lt (a := 99999) h (by omega)
          rw [if_pos hh, Nat.min_eq_right (by omega)]
          rfl
        · have hh : ¬ (99999 : Int32) < nI (d + cn j) := nI_nlt (a := 99999) (by omega) (by omega)
          rw [if_neg hh, Nat.min_eq_left (by omega)]
      refine tk_run (hT_X1_pass none) [14] 60 _ ?_
      refine tk_ift (tk_twok ha) ?_
      refine And.intro (fun h1 => ?_) (fun h1 => ?_)
      all_goals try dsimp only [tk_c0, tk_c1, tk_c2, tk_c3, tk_c4, tk_c5, tk_c6, tk_c7, tk_c8, tk_c9, tk_c10, tk_c11, tk_c12, tk_c13] at h1
      · refine tk_cc (k_min _ _ _) (fun v9 μ9 h9 => ?_)
        obtain ⟨rfl, rfl⟩ := h9
        refine And.intro rfl ⟨_, rfl, ?_, ?_, ?_, ?_, ?_⟩
        · dsimp only
          rw [tk_up_at, tk_up_k _ _ _ (by decide), e0]
        · dsimp only
          rw [tk_up_k _ _ _ (by decide), tk_up_at]
          exact emin
        · intro q hq
          rw [tk_up_p _ _ _ (by omega), tk_up_p _ _ _ (by omega), tk_up_p _ _ _ (by omega), tk_up_p _ _ _ (by omega)]
          exact hv q hq
        · intro q hq
          rw [tk_up_p _ _ _ (by omega), tk_up_p _ _ _ (by omega)]
          exact h2 q hq
        · intro x y hx hx2
          rw [tk_up_p _ _ _ hx, tk_up_p _ _ _ hx]
          exact hf x y hx2
      · exact absurd (by rw [ea]; exact Int32.le_refl _) h1
    | succ n ih =>
      intro j i σi hi hj hv hr h2 hf
      subst hi
      have ea : σi a 4 = nI N := (hf _ _ (by rcases ha with rfl | rfl <;> decide)).trans e
      have hF : tk_E σi a = tk_E σ a := by
        funext i k
        unfold tk_E
        rcases ha with rfl | rfl <;> split <;> exact hf _ _ (by decide)
      have hs := hT j (by omega) (by rw [e]; exact nI_lt (by omega) (by omega))
      have k0 := hr j 0 (Nat.le_refl j) (by omega)
      have k1 := hr j 1 (Nat.le_refl j) (by omega)
      have k2 := hr j 2 (Nat.le_refl j) (by omega)
      have step : ∀ (c : Nat) (S : Int32 × Int32), c = cn (j + 1) → S = tk_sT (tk_E σ a) lv (σ (18 + j) 2) (σ (18 + j) 0, σ (18 + j) 1) →
          tk_J l D cy none M_X1_pass (14, [some (.ref 16), some (.ref a), some (.int lv), some (.int (nI c)), some (.int (nI j + 1))], [], (tk_up (tk_up σi (18 + j) 0 S.1) (18 + j) 1 S.2, tk_rho a b, τ, 62), 0, 0) (fun v μ' => v = some (.int (nI (cn N))) ∧ ∃ σ', μ' = (σ', tk_rho a b, τ, 62) ∧ σ' 16 0 = σ 16 0 + 1 ∧ σ' 16 1 = nI (min (d + cn N) 99999) ∧ (∀ i, i < N → (σ' (18 + i) 0, σ' (18 + i) 1) = tk_sT (tk_E σ a) lv (σ (18 + i) 2) (σ (18 + i) 0, σ (18 + i) 1)) ∧ (∀ i, i < 5 → σ' (18 + i) 2 = σ (18 + i) 2) ∧ ∀ x y, x ≠ 16 → ¬ (18 ≤ x ∧ x ≤ 22) → σ' x y = σ x y) := by
        intro c S hc hS
        subst hc
        refine ih (j + 1) _ _ (nI_1 j) (by omega) (fun q hq => ?_) (fun q y hq hq5 => ?_) (fun q hq => ?_) (fun x y hx => ?_)
        · by_cases h : q = j
          · subst h
            exact (tk_stv S).trans hS
          · rw [tk_up_p _ _ _ (by omega), tk_up_p _ _ _ (by omega), tk_up_p _ _ _ (by omega), tk_up_p _ _ _ (by omega)]
            exact hv q (by omega)
        · rw [tk_up_p _ _ _ (by omega), tk_up_p _ _ _ (by omega)]
          exact hr q y (by omega) hq5
        · by_cases h : q = j
          · subst h
            exact (tk_std S).trans (h2 q hq)
          · rw [tk_up_p _ _ _ (by omega), tk_up_p _ _ _ (by omega)]
            exact h2 q hq
        · rw [tk_up_p _ _ _ (by omega), tk_up_p _ _ _ (by omega)]
          exact hf x y hx
      have hS : tk_sT (tk_E σi a) lv (σi (18 + j) 2) (σi (18 + j) 0, σi (18 + j) 1) = tk_sT (tk_E σ a) lv (σ (18 + j) 2) (σ (18 + j) 0, σ (18 + j) 1) := by rw [hF, k0, k1, k2]
      have hD : (¬ σi (18 + j) 2 = 1 ∧ σi (18 + j) 1 = 0 ∧ σi (a + 2) (σi (18 + j) 0).toNatClampNeg ≤ lv) ↔ tk_dr (tk_E σ a) lv (fun i => σ (18 + i) 2) (fun i => (σ (18 + i) 0, σ (18 + i) 1)) j := by
        rw [k0, k1, k2, show σi (a + 2) (σ (18 + j) 0).toNatClampNeg = tk_E σi a 0 (σ (18 + j) 0).toNatClampNeg from rfl, hF]
        exact Iff.rfl
      refine tk_run (hT_X1_pass none) [14] 60 _ ?_
      refine tk_ift (tk_twok ha) ?_
      refine And.intro (fun h1 => ?_) (fun h1 => ?_)
      all_goals try dsimp only [tk_c0, tk_c1, tk_c2, tk_c3, tk_c4, tk_c5, tk_c6, tk_c7, tk_c8, tk_c9, tk_c10, tk_c11, tk_c12, tk_c13] at h1
      · exact absurd h1 (by rw [ea]; exact nI_ge (by omega) (by omega))
      · refine tk_ift (tk_in_nI (n := 5) (by omega) (by decide)) ?_
        refine tk_osi (by rw [nI_clamp (by omega)]; exact tk_th (by omega)) ?_
        refine tk_ift (tk_thok (by omega)) ?_
        refine tk_cc (k_passA (tk_thok (by omega)) ha (by rw [hF]; exact hE) (by rw [hF, k0, k1]; exact hs.1) (by rw [k0, k1, k2]; exact hs.2)) (fun v9 μ9 h9 => ?_)
        obtain ⟨rfl, rfl⟩ := h9
        refine And.intro (fun h3 => ?_) (fun h3 => ?_)
        all_goals try dsimp only [tk_c0, tk_c1, tk_c2, tk_c3, tk_c4, tk_c5, tk_c6, tk_c7, tk_c8, tk_c9, tk_c10, tk_c11, tk_c12, tk_c13] at h3
        · exact step _ _ (hno j (fun h => tk_b0.mp h3 (hD.mpr h))).symm hS
        · have h9 := step _ _ (hyes j (hD.mp (Decidable.not_not.mp (fun h => h3 (tk_b0.mpr h))))).symm hS
          rw [← nI_1] at h9
          exact h9
  refine tk_ct rfl rfl (Nat.le_of_ble_eq_true rfl) (fun l D cy => tk_run (hT_X1_pass none) [14] 60 _ ?_)
  refine tk_ift (tk_twok ha) ?_
  refine tk_cc (k_levelOf ha hE.1) (fun v9 μ9 h9 => ?_)
  obtain ⟨rfl, rfl⟩ := h9
  have h9 := loop l D cy N 0 _ σ rfl (by omega) (fun i hi => absurd hi (Nat.not_lt_zero i)) (fun _ _ _ _ => rfl) (fun _ _ => rfl) (fun _ _ _ => rfl)
  rw [h00, ← hlv] at h9
  subst hlv
  exact h9
end
