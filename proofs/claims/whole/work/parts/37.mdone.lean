/-! what is done, of the reference -/
theorem tk_mul13 (K j : Nat) : (13 : Int32) * nI K + nI j = nI (13 * K + j) := by
  have h : (13 : Int32) * nI K = nI (13 * K) := (Int32.ofNat_mul 13 K).symm
  rw [h, nI_add]
theorem tk_inj {a b : Nat} (ha : a < 2 ^ 31) (hb : b < 2 ^ 31) (h : nI a = nI b) : a = b := (nI_eq ha hb).mp h
/-- behind noting: the undos are one more, the last is how it stood -/
def tk_Nt (σ σ' : Nat → Nat → Int32) (K : Nat) : Prop := σ' 47 20 = nI (if K = 10 then 10 else K + 1) ∧ (∀ i, i < 13 → σ' 58 (13 * (if K = 10 then 9 else K) + i) = σ 55 i) ∧ (∀ i, i < 13 * (if K = 10 then 9 else K) → σ' 58 i = σ 58 (if K = 10 then i + 13 else i)) ∧ ∀ x y, x ≠ 58 → ¬ (x = 47 ∧ y = 20) → σ' x y = σ x y
section
variable {t k u n w : Int32} {σ : Nat → Nat → Int32} {a b : Nat} {τ : Nat → Nat → Int64} {l : Launch} {D : va_G} {cy : Nat → ClassId}
theorem k_notes1 {q : tk_Po} (hq : ∀ σ', (∀ i, i < 117 → σ' 58 i = σ 58 (i + 13)) → (∀ x y, x ≠ 58 → σ' x y = σ x y) → tk_J l D cy none M_X7_notes (38, [some (.ref 47), some (.int (nI 117))], [], (σ', tk_rho a b, τ, 62), 0, 0) q) :
    ∀ (d j : Nat) (i : Int32) (σi : Nat → Nat → Int32), i = nI j → j + d = 117 → (∀ i, i < j → σi 58 i = σ 58 (i + 13)) → (∀ i, j ≤ i → σi 58 i = σ 58 i) → (∀ x y, x ≠ 58 → σi x y = σ x y) → tk_J l D cy none M_X7_notes (11, [some (.ref 47), some (.int i)], [], (σi, tk_rho a b, τ, 62), 0, 0) q := by
  intro d
  induction d with
  | zero =>
    intro j i σi hi hj h1 h2 h3
    subst hi
    obtain rfl : j = 117 := by omega
    refine tk_run (hT_X7_notes none) [11, 38] 60 _ ?_
    refine And.intro (fun h => ?_) (fun h => ?_)
    all_goals try dsimp only [tk_c0, tk_c1, tk_c2, tk_c3, tk_c4, tk_c5, tk_c6, tk_c7, tk_c8, tk_c9, tk_c10, tk_c11, tk_c12, tk_c13] at h
    · exact hq σi (fun i hi => h1 i (by omega)) h3
    · exact absurd (Int32.le_refl _) h
  | succ d ih =>
    intro j i σi hi hj h1 h2 h3
    subst hi
    have e : nI j + 13 = nI (j + 13) := nI_add j 13
    refine tk_run (hT_X7_notes none) [11, 38] 60 _ ?_
    refine And.intro (fun h => ?_) (fun h => ?_)
    all_goals try dsimp only [tk_c0, tk_c1, tk_c2, tk_c3, tk_c4, tk_c5, tk_c6, tk_c7, tk_c8, tk_c9, tk_c10, tk_c11, tk_c12, tk_c13] at h
    · exact absurd h (nI_ge (b := 117) (by omega) (by omega))
    · refine tk_ift (by dsimp only; rw [e]; exact tk_in_nI (n := 130) (by omega) (by decide)) ?_
      refine tk_ift (tk_in_nI (n := 130) (by omega) (by decide)) ?_
      refine ih (j + 1) _ _ (nI_1 j) (by omega) (fun i hi => ?_) (fun i hi => ?_) (fun x y hx => ?_)
      all_goals dsimp only
      all_goals rw [e, nI_clamp (by omega), nI_clamp (by omega)]
      · by_cases hij : i = j
        · subst hij
          rw [tk_up_at]
          exact h2 _ (by omega)
        · rw [tk_up_k _ _ _ hij]
          exact h1 i (by omega)
      · rw [tk_up_k _ _ _ (by omega)]
        exact h2 i (by omega)
      · rw [tk_up_p _ _ _ hx]
        exact h3 x y hx
theorem k_notes2 {K : Nat} {q : tk_Po} (hK : K ≤ 9) (eK : σ 47 20 = nI K) (hq : ∀ σ', σ' 47 20 = nI (K + 1) → (∀ i, i < 13 → σ' 58 (13 * K + i) = σ 55 i) → (∀ i, i < 13 * K → σ' 58 i = σ 58 i) → (∀ x y, x ≠ 58 → ¬ (x = 47 ∧ y = 20) → σ' x y = σ x y) → q none (σ', tk_rho a b, τ, 62)) :
    ∀ (d j : Nat) (i : Int32) (σi : Nat → Nat → Int32), i = nI j → j + d = 13 → (∀ i, i < j → σi 58 (13 * K + i) = σ 55 i) → (∀ i, i < 13 * K → σi 58 i = σ 58 i) → (∀ x y, x ≠ 58 → σi x y = σ x y) → tk_J l D cy none M_X7_notes (46, [some (.ref 47), some (.int i)], [], (σi, tk_rho a b, τ, 62), 0, 0) q := by
  intro d
  induction d with
  | zero =>
    intro j i σi hi hj h1 h2 h3
    subst hi
    obtain rfl : j = 13 := by omega
    have e20 : σi 47 20 = nI K := (h3 _ _ (by decide)).trans eK
    refine tk_run (hT_X7_notes none) [46] 60 _ ?_
    refine And.intro (fun h => ?_) (fun h => ?_)
    all_goals try dsimp only [tk_c0, tk_c1, tk_c2, tk_c3, tk_c4, tk_c5, tk_c6, tk_c7, tk_c8, tk_c9, tk_c10, tk_c11, tk_c12, tk_c13] at h
    · refine hq _ ?_ (fun i hi => ?_) (fun i hi => ?_) (fun x y hx hx2 => ?_)
      · rw [tk_up_at, e20]
        exact nI_1 K
      · rw [tk_up_p _ _ _ (by decide)]
        exact h1 i hi
      · rw [tk_up_p _ _ _ (by decide)]
        exact h2 i hi
      · rw [tk_up, if_neg hx2]
        exact h3 x y hx
    · exact absurd (Int32.le_refl _) h
  | succ d ih =>
    intro j i σi hi hj h1 h2 h3
    subst hi
    have e20 : σi 47 20 = nI K := (h3 _ _ (by decide)).trans eK
    have e : (13 : Int32) * σi 47 20 + nI j = nI (13 * K + j) := by
      rw [e20]
      exact tk_mul13 _ _
    refine tk_run (hT_X7_notes none) [46] 60 _ ?_
    refine And.intro (fun h => ?_) (fun h => ?_)
    all_goals try dsimp only [tk_c0, tk_c1, tk_c2, tk_c3, tk_c4, tk_c5, tk_c6, tk_c7, tk_c8, tk_c9, tk_c10, tk_c11, tk_c12, tk_c13] at h
    · exact absurd h (nI_ge (b := 13) (by omega) (by omega))
    · refine tk_ift (tk_in_nI (n := 13) (by omega) (by decide)) ?_
      refine tk_ift (by dsimp only; rw [e]; exact tk_in_nI (n := 130) (by omega) (by decide)) ?_
      refine ih (j + 1) _ _ (nI_1 j) (by omega) (fun i hi => ?_) (fun i hi => ?_) (fun x y hx => ?_)
      all_goals dsimp only
      all_goals rw [e, nI_clamp (by omega), nI_clamp (by omega)]
      · by_cases hij : i = j
        · subst hij
          rw [tk_up_at]
          exact h3 _ _ (by decide)
        · rw [tk_up_k _ _ _ (by omega)]
          exact h1 i (by omega)
      · rw [tk_up_k _ _ _ (by omega)]
        exact h2 i (by omega)
      · rw [tk_up_p _ _ _ hx]
        exact h3 x y hx
theorem k_notes {K : Nat} (hK : K ≤ 10) (eK : σ 47 20 = nI K) : tk_Ct M_X7_notes [.ref 47] (σ, tk_rho a b, τ, 62) (fun v μ' => v = none ∧ ∃ σ', μ' = (σ', tk_rho a b, τ, 62) ∧ tk_Nt σ σ' K) := by
  refine tk_ct rfl rfl (Nat.le_of_ble_eq_true rfl) (fun l D cy => tk_run (hT_X7_notes none) [11, 46] 60 _ ?_)
  refine And.intro (fun h => ?_) (fun h => ?_)
  all_goals try dsimp only [tk_c0, tk_c1, tk_c2, tk_c3, tk_c4, tk_c5, tk_c6, tk_c7, tk_c8, tk_c9, tk_c10, tk_c11, tk_c12, tk_c13] at h
  · have hK10 : K = 10 := tk_inj (b := 10) (by omega) (by omega) (eK.symm.trans h)
    subst hK10
    refine k_notes1 (σ := σ) (fun σ' h1 h2 => ?_) 117 0 _ σ rfl rfl (fun i hi => absurd hi (Nat.not_lt_zero i)) (fun _ _ => rfl) (fun _ _ _ => rfl)
    refine tk_run (hT_X7_notes none) [46] 60 _ ?_
    refine k_notes2 (K := 9) (σ := tk_up σ' 47 20 9) (by omega) (tk_up_at _ _ _ _) (fun σ2 q1 q2 q3 q4 => ?_) 13 0 _ _ rfl rfl (fun i hi => absurd hi (Nat.not_lt_zero i)) (fun _ _ => rfl) (fun _ _ _ => rfl)
    refine And.intro rfl ⟨σ2, rfl, q1, fun i hi => ?_, fun i hi => ?_, fun x y hx hx2 => ?_⟩
    · refine (q2 i hi).trans ?_
      rw [tk_up_p _ _ _ (by decide)]
      exact h2 _ _ (by decide)
    · refine (q3 i hi).trans ?_
      rw [tk_up_p _ _ _ (by decide)]
      exact h1 i hi
    · refine (q4 x y hx hx2).trans ?_
      rw [tk_up, if_neg hx2]
      exact h2 x y hx
  · have hK9 : K ≠ 10 := fun hh => h (by rw [eK, hh]; rfl)
    refine k_notes2 (K := K) (σ := σ) (by omega) eK (fun σ2 q1 q2 q3 q4 => ?_) 13 0 _ _ rfl rfl (fun i hi => absurd hi (Nat.not_lt_zero i)) (fun _ _ => rfl) (fun _ _ _ => rfl)
    refine And.intro rfl ⟨σ2, rfl, ?_, ?_, ?_, q4⟩
    · rw [if_neg hK9]
      exact q1
    · rw [if_neg hK9]
      exact q2
    · simp only [if_neg hK9]
      exact q3
/-- s as it was put down from x on in place p -/
theorem k_mUndo {K : Nat} (hz : σ 47 0 = 0) (hK : K ≤ 10) (eK : σ 47 20 = nI K) :
    tk_Ct M_X7_undo [.ref 47] (σ, tk_rho a b, τ, 62) (fun v μ' => ∃ σ', μ' = (σ', tk_rho a b, τ, 62) ∧
      ((K = 0 ∧ v = some (.int (-2)) ∧ σ' = σ) ∨ (1 ≤ K ∧ v = some (.int (nI (K - 1))) ∧ (∀ i, i < 13 → σ' 55 i = σ 58 (13 * (K - 1) + i)) ∧ σ' 47 20 = nI (K - 1) ∧ ∀ x y, x ≠ 55 → ¬ (x = 47 ∧ y = 20) → σ' x y = σ x y))) := by
  refine tk_ct rfl rfl (Nat.le_of_ble_eq_true rfl) (fun l D cy => tk_thr (hT_X7_undo none) rfl rfl rfl hz (tk_run (hT_X7_undo none) [27] 60 _ ?_))
  refine And.intro (fun h => ?_) (fun h => ?_)
  all_goals try dsimp only [tk_c0, tk_c1, tk_c2, tk_c3, tk_c4, tk_c5, tk_c6, tk_c7, tk_c8, tk_c9, tk_c10, tk_c11, tk_c12, tk_c13] at h
  · have hK0 : K = 0 := tk_inj (b := 0) (by omega) (by omega) (eK.symm.trans h)
    exact ⟨σ, rfl, Or.inl ⟨hK0, rfl, rfl⟩⟩
  · have hK0 : 1 ≤ K := Nat.one_le_iff_ne_zero.mpr (fun hh => h (by rw [eK, hh]; rfl))
    have e1 : σ 47 20 - 1 = nI (K - 1) := by
      rw [eK]
      obtain ⟨K', rfl⟩ : ∃ K', K = K' + 1 := ⟨K - 1, by omega⟩
      exact nI_pred K'
    have loop : ∀ (n j : Nat) (i : Int32) (σi : Nat → Nat → Int32), i = nI j → j + n = 13 → σi 47 20 = nI (K - 1) → (∀ i, i < j → σi 55 i = σ 58 (13 * (K - 1) + i)) → (∀ x y, x ≠ 55 → ¬ (x = 47 ∧ y = 20) → σi x y = σ x y) →
        tk_J l D cy none M_X7_undo (27, [some (.ref 47), some (.int i)], [], (σi, tk_rho a b, τ, 62), 0, 0) (fun v μ' => ∃ σ', μ' = (σ', tk_rho a b, τ, 62) ∧
          ((K = 0 ∧ v = some (.int (-2)) ∧ σ' = σ) ∨ (1 ≤ K ∧ v = some (.int (nI (K - 1))) ∧ (∀ i, i < 13 → σ' 55 i = σ 58 (13 * (K - 1) + i)) ∧ σ' 47 20 = nI (K - 1) ∧ ∀ x y, x ≠ 55 → ¬ (x = 47 ∧ y = 20) → σ' x y = σ x y))) := by
      intro n
      induction n with
      | zero =>
        intro j i σi hi hj h20 h1 h3
        subst hi
        obtain rfl : j = 13 := by omega
        refine tk_run (hT_X7_undo none) [27] 60 _ ?_
        refine And.intro (fun h5 => ?_) (fun h5 => ?_)
        all_goals try dsimp only [tk_c0, tk_c1, tk_c2, tk_c3, tk_c4, tk_c5, tk_c6, tk_c7, tk_c8, tk_c9, tk_c10, tk_c11, tk_c12, tk_c13] at h5
        · refine ⟨σi, rfl, Or.inr ⟨hK0, ?_, h1, h20, h3⟩⟩
          exact congrArg (fun z => some (Value.int z)) h20
        · exact absurd (Int32.le_refl _) h5
      | succ n ih =>
        intro j i σi hi hj h20 h1 h3
        subst hi
        have e : (13 : Int32) * σi 47 20 + nI j = nI (13 * (K - 1) + j) := by
          rw [h20]
          exact tk_mul13 _ _
        refine tk_run (hT_X7_undo none) [27] 60 _ ?_
        refine And.intro (fun h5 => ?_) (fun h5 => ?_)
        all_goals try dsimp only [tk_c0, tk_c1, tk_c2, tk_c3, tk_c4, tk_c5, tk_c6, tk_c7, tk_c8, tk_c9, tk_c10, tk_c11, tk_c12, tk_c13] at h5
        · exact absurd h5 (nI_ge (b := 13) (by omega) (by omega))
        · refine tk_ift (by dsimp only; rw [e]; exact tk_in_nI (n := 130) (by omega) (by decide)) ?_
          refine tk_ift (tk_in_nI (n := 13) (by omega) (by decide)) ?_
          refine ih (j + 1) _ _ (nI_1 j) (by omega) ?_ (fun i hi => ?_) (fun x y hx hx2 => ?_)
          all_goals dsimp only
          all_goals rw [e, nI_clamp (by omega), nI_clamp (by omega)]
          · rw [tk_up_p _ _ _ (by decide)]
            exact h20
          · by_cases hij : i = j
            · subst hij
              rw [tk_up_at]
              exact h3 _ _ (by decide) (fun q => absurd q.1 (by decide))
            · rw [tk_up_k _ _ _ (by omega)]
              exact h1 i (by omega)
          · rw [tk_up_p _ _ _ hx]
            exact h3 x y hx hx2
    exact loop 13 0 _ _ rfl rfl ((tk_up_at _ _ _ _).trans e1) (fun i hi => absurd hi (Nat.not_lt_zero i)) (fun x y _ hx2 => by rw [tk_up, if_neg hx2])
theorem k_mKeep (hz : σ 47 0 = 0) :
    tk_Ct M_X7_keep [.ref 47, .int w] (σ, tk_rho a b, τ, 62) (fun v μ' => ∃ σ', μ' = (σ', tk_rho a b, τ, 62) ∧
      ((¬ (0 ≤ w ∧ w ≤ 1) ∧ v = some (.int (-1)) ∧ σ' = σ) ∨ ((0 ≤ w ∧ w ≤ 1) ∧ v = some (.int (σ 55 0)) ∧ (∀ i, i < 13 → σ' 56 (13 * w.toNatClampNeg + i) = σ 55 i) ∧ (∀ y, ¬ (13 * w.toNatClampNeg ≤ y ∧ y < 13 * w.toNatClampNeg + 13) → σ' 56 y = σ 56 y) ∧ σ' 57 w.toNatClampNeg = 1 ∧ (∀ y, y ≠ w.toNatClampNeg → σ' 57 y = σ 57 y) ∧ ∀ x y, x ≠ 56 → x ≠ 57 → σ' x y = σ x y))) := by
  refine tk_ct rfl rfl (Nat.le_of_ble_eq_true rfl) (fun l D cy => tk_thr (hT_X7_keep none) rfl rfl rfl hz (tk_run (hT_X7_keep none) [18] 60 _ ?_))
  refine tk_cc (k_in _ _ _ _) (fun v9 μ9 h9 => ?_)
  obtain ⟨rfl, rfl⟩ := h9
  refine And.intro (fun h1 => ?_) (fun h1 => ?_)
  all_goals try dsimp only [tk_c0, tk_c1, tk_c2, tk_c3, tk_c4, tk_c5, tk_c6, tk_c7, tk_c8, tk_c9, tk_c10, tk_c11, tk_c12, tk_c13] at h1
  · exact ⟨σ, rfl, Or.inl ⟨tk_b0.mp h1, rfl, rfl⟩⟩
  · have h1 := Decidable.not_not.mp (fun h => h1 (tk_b0.mpr h))
    obtain ⟨m, hm, rfl⟩ := nI_of2 (M := 1) (n := 1) rfl (Int32.not_lt.mpr h1.1) h1.2
    rw [nI_clamp (by omega)]
    have loop : ∀ (n j : Nat) (i : Int32) (σi : Nat → Nat → Int32), i = nI j → j + n = 13 → (∀ i, i < j → σi 56 (13 * m + i) = σ 55 i) → (∀ y, ¬ (13 * m ≤ y ∧ y < 13 * m + 13) → σi 56 y = σ 56 y) → (∀ x y, x ≠ 56 → σi x y = σ x y) →
        tk_J l D cy none M_X7_keep (18, [some (.ref 47), some (.int (nI m)), some (.int i)], [], (σi, tk_rho a b, τ, 62), 0, 0) (fun v μ' => ∃ σ', μ' = (σ', tk_rho a b, τ, 62) ∧
          ((¬ (0 ≤ nI m ∧ nI m ≤ 1) ∧ v = some (.int (-1)) ∧ σ' = σ) ∨ ((0 ≤ nI m ∧ nI m ≤ 1) ∧ v = some (.int (σ 55 0)) ∧ (∀ i, i < 13 → σ' 56 (13 * m + i) = σ 55 i) ∧ (∀ y, ¬ (13 * m ≤ y ∧ y < 13 * m + 13) → σ' 56 y = σ 56 y) ∧ σ' 57 m = 1 ∧ (∀ y, y ≠ m → σ' 57 y = σ 57 y) ∧ ∀ x y, x ≠ 56 → x ≠ 57 → σ' x y = σ x y))) := by
      intro n
      induction n with
      | zero =>
        intro j i σi hi hj q1 q2 q3
        subst hi
        obtain rfl : j = 13 := by omega
        have en : vp_nar .boolean 1 = 1 := by decide
        refine tk_run (hT_X7_keep none) [18] 60 _ ?_
        refine And.intro (fun h5 => ?_) (fun h5 => ?_)
        all_goals try dsimp only [tk_c0, tk_c1, tk_c2, tk_c3, tk_c4, tk_c5, tk_c6, tk_c7, tk_c8, tk_c9, tk_c10, tk_c11, tk_c12, tk_c13] at h5
        · refine tk_ift (tk_in_nI (n := 2) (by omega) (by decide)) ?_
          refine ⟨_, rfl, Or.inr ⟨h1, ?_, fun i hi => ?_, fun y hy => ?_, ?_, fun y hy => ?_, fun x y hx hx2 => ?_⟩⟩
          all_goals rw [nI_clamp (by omega), en]
          · rw [tk_up_p _ _ _ (by decide), q3 _ _ (by decide)]
            rfl
          · rw [tk_up_p _ _ _ (by decide)]
            exact q1 i hi
          · rw [tk_up_p _ _ _ (by decide)]
            exact q2 y hy
          · exact tk_up_at _ _ _ _
          · rw [tk_up_k _ _ _ hy]
            exact q3 _ _ (by decide)
          · rw [tk_up_p _ _ _ hx2]
            exact q3 x y hx
        · exact absurd (Int32.le_refl _) h5
      | succ n ih =>
        intro j i σi hi hj q1 q2 q3
        subst hi
        have e : (13 : Int32) * nI m + nI j = nI (13 * m + j) := tk_mul13 _ _
        refine tk_run (hT_X7_keep none) [18] 60 _ ?_
        refine And.intro (fun h5 => ?_) (fun h5 => ?_)
        all_goals try dsimp only [tk_c0, tk_c1, tk_c2, tk_c3, tk_c4, tk_c5, tk_c6, tk_c7, tk_c8, tk_c9, tk_c10, tk_c11, tk_c12, tk_c13] at h5
        · exact absurd h5 (nI_ge (b := 13) (by omega) (by omega))
        · refine tk_ift (tk_in_nI (n := 13) (by omega) (by decide)) ?_
          refine tk_ift (by dsimp only; rw [e]; exact tk_in_nI (n := 26) (by omega) (by decide)) ?_
          refine ih (j + 1) _ _ (nI_1 j) (by omega) (fun i hi => ?_) (fun y hy => ?_) (fun x y hx => ?_)
          all_goals dsimp only
          all_goals rw [e, nI_clamp (by omega), nI_clamp (by omega)]
          · by_cases hij : i = j
            · subst hij
              rw [tk_up_at]
              exact q3 _ _ (by decide)
            · rw [tk_up_k _ _ _ (by omega)]
              exact q1 i (by omega)
          · rw [tk_up_k _ _ _ (by omega)]
            exact q2 y hy
          · rw [tk_up_p _ _ _ hx]
            exact q3 x y hx
    exact loop 13 0 _ _ rfl rfl (fun i hi => absurd hi (Nat.not_lt_zero i)) (fun _ _ => rfl) (fun _ _ _ => rfl)
theorem k_mBack (hz : σ 47 0 = 0) :
    tk_Ct M_X7_back [.ref 47, .int w] (σ, tk_rho a b, τ, 62) (fun v μ' => ∃ σ', μ' = (σ', tk_rho a b, τ, 62) ∧
      ((¬ (0 ≤ w ∧ w ≤ 1) ∧ v = some (.int (-1)) ∧ σ' = σ) ∨ ((0 ≤ w ∧ w ≤ 1) ∧ σ 57 w.toNatClampNeg = 0 ∧ v = some (.int (-2)) ∧ σ' = σ) ∨ ((0 ≤ w ∧ w ≤ 1) ∧ ¬ σ 57 w.toNatClampNeg = 0 ∧ v = some (.int (σ 56 (13 * w.toNatClampNeg))) ∧ (∀ i, i < 13 → σ' 55 i = σ 56 (13 * w.toNatClampNeg + i)) ∧ σ' 47 20 = 0 ∧ ∀ x y, x ≠ 55 → ¬ (x = 47 ∧ y = 20) → σ' x y = σ x y))) := by
  refine tk_ct rfl rfl (Nat.le_of_ble_eq_true rfl) (fun l D cy => tk_thr (hT_X7_back none) rfl rfl rfl hz (tk_run (hT_X7_back none) [30] 60 _ ?_))
  refine tk_cc (k_in _ _ _ _) (fun v9 μ9 h9 => ?_)
  obtain ⟨rfl, rfl⟩ := h9
  refine And.intro (fun h1 => ?_) (fun h1 => ?_)
  all_goals try dsimp only [tk_c0, tk_c1, tk_c2, tk_c3, tk_c4, tk_c5, tk_c6, tk_c7, tk_c8, tk_c9, tk_c10, tk_c11, tk_c12, tk_c13] at h1
  · exact ⟨σ, rfl, Or.inl ⟨tk_b0.mp h1, rfl, rfl⟩⟩
  · have h1 := Decidable.not_not.mp (fun h => h1 (tk_b0.mpr h))
    obtain ⟨m, hm, rfl⟩ := nI_of2 (M := 1) (n := 1) rfl (Int32.not_lt.mpr h1.1) h1.2
    rw [nI_clamp (by omega)]
    refine tk_ift (tk_in_nI (n := 2) (by omega) (by decide)) ?_
    rw [nI_clamp (by omega)]
    refine And.intro (fun h2 => ?_) (fun h2 => ?_)
    all_goals try dsimp only [tk_c0, tk_c1, tk_c2, tk_c3, tk_c4, tk_c5, tk_c6, tk_c7, tk_c8, tk_c9, tk_c10, tk_c11, tk_c12, tk_c13] at h2
    · exact ⟨σ, rfl, Or.inr (Or.inl ⟨h1, h2, rfl, rfl⟩)⟩
    · have loop : ∀ (n j : Nat) (i : Int32) (σi : Nat → Nat → Int32), i = nI j → j + n = 13 → (∀ i, i < j → σi 55 i = σ 56 (13 * m + i)) → (∀ x y, x ≠ 55 → σi x y = σ x y) →
        tk_J l D cy none M_X7_back (30, [some (.ref 47), some (.int (nI m)), some (.int i)], [], (σi, tk_rho a b, τ, 62), 0, 0) (fun v μ' => ∃ σ', μ' = (σ', tk_rho a b, τ, 62) ∧
          ((¬ (0 ≤ nI m ∧ nI m ≤ 1) ∧ v = some (.int (-1)) ∧ σ' = σ) ∨ ((0 ≤ nI m ∧ nI m ≤ 1) ∧ σ 57 m = 0 ∧ v = some (.int (-2)) ∧ σ' = σ) ∨ ((0 ≤ nI m ∧ nI m ≤ 1) ∧ ¬ σ 57 m = 0 ∧ v = some (.int (σ 56 (13 * m))) ∧ (∀ i, i < 13 → σ' 55 i = σ 56 (13 * m + i)) ∧ σ' 47 20 = 0 ∧ ∀ x y, x ≠ 55 → ¬ (x = 47 ∧ y = 20) → σ' x y = σ x y))) := by
        intro n
        induction n with
        | zero =>
          intro j i σi hi hj q1 q3
          subst hi
          obtain rfl : j = 13 := by omega
          refine tk_run (hT_X7_back none) [30] 60 _ ?_
          refine And.intro (fun h5 => ?_) (fun h5 => ?_)
          all_goals try dsimp only [tk_c0, tk_c1, tk_c2, tk_c3, tk_c4, tk_c5, tk_c6, tk_c7, tk_c8, tk_c9, tk_c10, tk_c11, tk_c12, tk_c13] at h5
          · refine ⟨_, rfl, Or.inr (Or.inr ⟨h1, h2, ?_, fun i hi => ?_, tk_up_at _ _ _ _, fun x y hx hx2 => ?_⟩)⟩
            · rw [tk_up_p _ _ _ (by decide)]
              exact congrArg (fun z => some (Value.int z)) (q1 0 (by decide))
            · rw [tk_up_p _ _ _ (by decide)]
              exact q1 i hi
            · rw [tk_up, if_neg hx2]
              exact q3 x y hx
          · exact absurd (Int32.le_refl _) h5
        | succ n ih =>
          intro j i σi hi hj q1 q3
          subst hi
          have e : (13 : Int32) * nI m + nI j = nI (13 * m + j) := tk_mul13 _ _
          refine tk_run (hT_X7_back none) [30] 60 _ ?_
          refine And.intro (fun h5 => ?_) (fun h5 => ?_)
          all_goals try dsimp only [tk_c0, tk_c1, tk_c2, tk_c3, tk_c4, tk_c5, tk_c6, tk_c7, tk_c8, tk_c9, tk_c10, tk_c11, tk_c12, tk_c13] at h5
          · exact absurd h5 (nI_ge (b := 13) (by omega) (by omega))
          · refine tk_ift (by dsimp only; rw [e]; exact tk_in_nI (n := 26) (by omega) (by decide)) ?_
            refine tk_ift (tk_in_nI (n := 13) (by omega) (by decide)) ?_
            refine ih (j + 1) _ _ (nI_1 j) (by omega) (fun i hi => ?_) (fun x y hx => ?_)
            all_goals dsimp only
            all_goals rw [e, nI_clamp (by omega), nI_clamp (by omega)]
            · by_cases hij : i = j
              · subst hij
                rw [tk_up_at]
                exact q3 _ _ (by decide)
              · rw [tk_up_k _ _ _ (by omega)]
                exact q1 i (by omega)
            · rw [tk_up_p _ _ _ hx]
              exact q3 x y hx
      exact loop 13 0 _ _ rfl rfl (fun i hi => absurd hi (Nat.not_lt_zero i)) (fun _ _ _ => rfl)
theorem k_mTies {K : Nat} (hz : σ 47 0 = 0) (hE : tk_VE (tk_F σ)) (hK : K ≤ 10) (eK : σ 47 20 = nI K) :
    tk_Ct M_X7_ties [.ref 47, .int t, .int w] (σ, tk_rho a b, τ, 62) (fun v μ' => ∃ σ', μ' = (σ', tk_rho a b, τ, 62) ∧
      ((¬ ((0 ≤ t ∧ t < σ 49 1) ∧ (0 ≤ w ∧ w ≤ 1)) ∧ v = some (.int (-1)) ∧ σ' = σ) ∨
       (((0 ≤ t ∧ t < σ 49 1) ∧ (0 ≤ w ∧ w ≤ 1)) ∧ ¬ (σ 55 (6 + t.toNatClampNeg) ≤ 0 ∧ ¬ tk_mt σ t = w) ∧ v = some (.int (-2)) ∧ σ' = σ) ∨
       (((0 ≤ t ∧ t < σ 49 1) ∧ (0 ≤ w ∧ w ≤ 1)) ∧ (σ 55 (6 + t.toNatClampNeg) ≤ 0 ∧ ¬ tk_mt σ t = w) ∧ v = some (.int (tk_pc (σ' 55 11) 8)) ∧ ∃ σ2, tk_Nt σ σ2 K ∧ σ' = tk_up σ2 55 11 ((σ 55 11 &&& ((1 : Int32) <<< (t &&& 31) ^^^ -1)) ||| w <<< (t &&& 31))))) := by
  refine tk_ct rfl rfl (Nat.le_of_ble_eq_true rfl) (fun l D cy => tk_thr (hT_X7_ties none) rfl rfl rfl hz (tk_run (hT_X7_ties none) [] 60 _ ?_))
  refine tk_cc (k_mThing hE.2.2.2.2.2.1.1) (fun v9 μ9 h9 => ?_)
  obtain ⟨rfl, rfl⟩ := h9
  refine And.intro (fun h1 => ?_) (fun h1 => ?_)
  all_goals try dsimp only [tk_c0, tk_c1, tk_c2, tk_c3, tk_c4, tk_c5, tk_c6, tk_c7, tk_c8, tk_c9, tk_c10, tk_c11, tk_c12, tk_c13] at h1
  · exact ⟨σ, rfl, Or.inl ⟨fun h => tk_b0.mp h1 h.1, rfl, rfl⟩⟩
  · have h1 := Decidable.not_not.mp (fun h => h1 (tk_b0.mpr h))
    refine tk_cc (k_in _ _ _ _) (fun v9 μ9 h9 => ?_)
    obtain ⟨rfl, rfl⟩ := h9
    refine And.intro (fun h2 => ?_) (fun h2 => ?_)
    all_goals try dsimp only [tk_c0, tk_c1, tk_c2, tk_c3, tk_c4, tk_c5, tk_c6, tk_c7, tk_c8, tk_c9, tk_c10, tk_c11, tk_c12, tk_c13] at h2
    · exact ⟨σ, rfl, Or.inl ⟨fun h => tk_b0.mp h2 h.2, rfl, rfl⟩⟩
    · have h2 := Decidable.not_not.mp (fun h => h2 (tk_b0.mpr h))
      have h5 : σ 49 1 ≤ nI 5 := hE.2.2.2.2.2.1.2
      obtain ⟨j, hj, rfl⟩ := nI_of2 (M := 5) (n := 5) rfl (Int32.not_lt.mpr h1.1) (Int32.le_trans (Int32.le_of_lt h1.2) h5)
      have hj5 : j < 5 := (nI_ltI (by omega) (by decide)).mp (Int32.lt_of_lt_of_le h1.2 h5)
      have e6 : (6 : Int32) + nI j = nI (6 + j) := nI_add 6 j
      refine And.intro (fun h3 => ?_) (fun h3 => ?_)
      all_goals try dsimp only [tk_c0, tk_c1, tk_c2, tk_c3, tk_c4, tk_c5, tk_c6, tk_c7, tk_c8, tk_c9, tk_c10, tk_c11, tk_c12, tk_c13] at h3
      · exact ⟨σ, rfl, Or.inr (Or.inl ⟨⟨h1, h2⟩, fun h => h.2 h3, rfl, rfl⟩)⟩
      · refine tk_ift (by dsimp only; rw [e6]; exact tk_in_nI (n := 13) (by omega) (by decide)) ?_
        rw [nI_clamp (by omega)]
        refine And.intro (fun h4 => ?_) (fun h4 => ?_)
        all_goals try dsimp only [tk_c0, tk_c1, tk_c2, tk_c3, tk_c4, tk_c5, tk_c6, tk_c7, tk_c8, tk_c9, tk_c10, tk_c11, tk_c12, tk_c13] at h4
        all_goals rw [e6, nI_clamp (by omega)] at h4
        · refine tk_cc (k_notes hK eK) (fun v9 μ9 h9 => ?_)
          obtain ⟨rfl, σ2, rfl, hN⟩ := h9
          have e11 : σ2 55 11 = σ 55 11 := hN.2.2.2 _ _ (by decide) (by decide)
          refine tk_cc (k_ones) (fun v9 μ9 h9 => ?_)
          obtain ⟨rfl, rfl⟩ := h9
          refine ⟨_, rfl, Or.inr (Or.inr ⟨⟨h1, h2⟩, ⟨h4, h3⟩, ?_, σ2, hN, ?_⟩)⟩
          · rfl
          · dsimp only [tk_c11]
            rw [e11]
        · exact ⟨σ, rfl, Or.inr (Or.inl ⟨⟨h1, h2⟩, fun h => h4 h.1, rfl, rfl⟩)⟩
theorem k_mCarries {K : Nat} (hz : σ 47 0 = 0) (hE : tk_VE (tk_F σ)) (hT : tk_MT σ) (hK : K ≤ 10) (eK : σ 47 20 = nI K) :
    tk_Ct M_X7_carries [.ref 47, .int t, .int k] (σ, tk_rho a b, τ, 62) (fun v μ' => ∃ σ', μ' = (σ', tk_rho a b, τ, 62) ∧
      ((¬ ((0 ≤ t ∧ t < σ 49 1) ∧ (0 ≤ k ∧ k < σ 49 0)) ∧ v = some (.int (-1)) ∧ σ' = σ) ∨
       (((0 ≤ t ∧ t < σ 49 1) ∧ (0 ≤ k ∧ k < σ 49 0)) ∧ ¬ (σ 55 (6 + t.toNatClampNeg) = 0 ∧ ¬ σ 55 (1 + t.toNatClampNeg) = k ∧ tk_F σ 4 (σ 55 (1 + t.toNatClampNeg)).toNatClampNeg = tk_F σ 4 k.toNatClampNeg) ∧ v = some (.int (-2)) ∧ σ' = σ) ∨
       (((0 ≤ t ∧ t < σ 49 1) ∧ (0 ≤ k ∧ k < σ 49 0)) ∧ (σ 55 (6 + t.toNatClampNeg) = 0 ∧ ¬ σ 55 (1 + t.toNatClampNeg) = k ∧ tk_F σ 4 (σ 55 (1 + t.toNatClampNeg)).toNatClampNeg = tk_F σ 4 k.toNatClampNeg) ∧ v = some (.int (σ 55 (1 + t.toNatClampNeg))) ∧ ∃ σ2, tk_Nt σ σ2 K ∧ σ' = tk_up σ2 55 (1 + t.toNatClampNeg) k))) := by
  refine tk_ct rfl rfl (Nat.le_of_ble_eq_true rfl) (fun l D cy => tk_thr (hT_X7_carries none) rfl rfl rfl hz (tk_run (hT_X7_carries none) [] 60 _ ?_))
  refine tk_cc (k_mThing hE.2.2.2.2.2.1.1) (fun v9 μ9 h9 => ?_)
  obtain ⟨rfl, rfl⟩ := h9
  refine And.intro (fun h1 => ?_) (fun h1 => ?_)
  all_goals try dsimp only [tk_c0, tk_c1, tk_c2, tk_c3, tk_c4, tk_c5, tk_c6, tk_c7, tk_c8, tk_c9, tk_c10, tk_c11, tk_c12, tk_c13] at h1
  · exact ⟨σ, rfl, Or.inl ⟨fun h => tk_b0.mp h1 h.1, rfl, rfl⟩⟩
  · have h1 := Decidable.not_not.mp (fun h => h1 (tk_b0.mpr h))
    refine tk_cc (k_mKerb hE.2.2.2.2.1.1) (fun v9 μ9 h9 => ?_)
    obtain ⟨rfl, rfl⟩ := h9
    refine And.intro (fun h2 => ?_) (fun h2 => ?_)
    all_goals try dsimp only [tk_c0, tk_c1, tk_c2, tk_c3, tk_c4, tk_c5, tk_c6, tk_c7, tk_c8, tk_c9, tk_c10, tk_c11, tk_c12, tk_c13] at h2
    · exact ⟨σ, rfl, Or.inl ⟨fun h => tk_b0.mp h2 h.2, rfl, rfl⟩⟩
    · have h2 := Decidable.not_not.mp (fun h => h2 (tk_b0.mpr h))
      have h5 : σ 49 1 ≤ nI 5 := hE.2.2.2.2.2.1.2
      obtain ⟨j, hj, rfl⟩ := nI_of2 (M := 5) (n := 5) rfl (Int32.not_lt.mpr h1.1) (Int32.le_trans (Int32.le_of_lt h1.2) h5)
      have hj5 : j < 5 := (nI_ltI (by omega) (by decide)).mp (Int32.lt_of_lt_of_le h1.2 h5)
      have e6 : (6 : Int32) + nI j = nI (6 + j) := nI_add 6 j
      have e1 : (1 : Int32) + nI j = nI (1 + j) := nI_add 1 j
      have hs := hT j hj5 h1.2
      have hw := tk_kI16 hE hs.1
      have hk := tk_kI16 hE (k := k) h2
      have hng : σ 55 (6 + j) ≤ 0 ↔ σ 55 (6 + j) = 0 := tk_ng hs
      refine tk_ift (by dsimp only; rw [e1]; exact tk_in_nI (n := 13) (by omega) (by decide)) ?_
      refine tk_ift (by dsimp only; rw [e6]; exact tk_in_nI (n := 13) (by omega) (by decide)) ?_
      rw [nI_clamp (by omega)]
      refine And.intro (fun h3 => ?_) (fun h3 => ?_)
      all_goals try dsimp only [tk_c0, tk_c1, tk_c2, tk_c3, tk_c4, tk_c5, tk_c6, tk_c7, tk_c8, tk_c9, tk_c10, tk_c11, tk_c12, tk_c13] at h3
      all_goals rw [e6, nI_clamp (by omega)] at h3
      · exact ⟨σ, rfl, Or.inr (Or.inl ⟨⟨h1, h2⟩, fun h => Int32.not_le.mpr h3 (hng.mpr h.1), rfl, rfl⟩)⟩
      · have h3 := hng.mp (Int32.not_lt.mp h3)
        have ex : σ 55 ((1 : Int32) + nI j).toNatClampNeg = σ 55 (1 + j) := by rw [e1, nI_clamp (by omega)]
        refine tk_ift (by dsimp only; rw [ex]; exact tk_in_of hw.1 hw.2 (Int32.le_refl _) (by decide)) ?_
        refine tk_ift (tk_in_of hk.1 hk.2 (Int32.le_refl _) (by decide)) ?_
        refine And.intro (fun h4 => ?_) (fun h4 => ?_)
        all_goals try dsimp only [tk_c0, tk_c1, tk_c2, tk_c3, tk_c4, tk_c5, tk_c6, tk_c7, tk_c8, tk_c9, tk_c10, tk_c11, tk_c12, tk_c13] at h4
        all_goals rw [ex] at h4
        · refine And.intro (fun h6 => ?_) (fun h6 => ?_)
          all_goals try dsimp only [tk_c0, tk_c1, tk_c2, tk_c3, tk_c4, tk_c5, tk_c6, tk_c7, tk_c8, tk_c9, tk_c10, tk_c11, tk_c12, tk_c13] at h6
          all_goals rw [ex] at h6
          · exact ⟨σ, rfl, Or.inr (Or.inl ⟨⟨h1, h2⟩, fun h => h.2.1 h6, rfl, rfl⟩)⟩
          · refine tk_cc (k_notes hK eK) (fun v9 μ9 h9 => ?_)
            obtain ⟨rfl, σ2, rfl, hN⟩ := h9
            refine tk_ift (by dsimp only; rw [e1]; exact tk_in_nI (n := 13) (by omega) (by decide)) ?_
            refine ⟨_, rfl, Or.inr (Or.inr ⟨⟨h1, h2⟩, ⟨h3, h6, h4⟩, congrArg (fun z => some (Value.int z)) ex, σ2, hN, ?_⟩)⟩
            dsimp only
            rw [e1, nI_clamp (by omega)]
        · exact ⟨σ, rfl, Or.inr (Or.inl ⟨⟨h1, h2⟩, fun h => h4 h.2.2, rfl, rfl⟩)⟩
end
