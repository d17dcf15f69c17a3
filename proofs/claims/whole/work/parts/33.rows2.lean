/-! rows brought back; the ring; one tide of all things -/
/-- how many below n are so -/
def tk_cnt (c : Nat → Prop) (hc : DecidablePred c) : Nat → Nat
  | 0 => 0
  | n + 1 => if c n then tk_cnt c hc n + 1 else tk_cnt c hc n
theorem tk_cnt_le (c : Nat → Prop) (hc : DecidablePred c) : ∀ n, tk_cnt c hc n ≤ n
  | 0 => Nat.le_refl 0
  | n + 1 => by
    have := tk_cnt_le c hc n
    rw [tk_cnt]
    split <;> omega
section
variable {p : Nat} {t k u : Int32} {σ : Nat → Nat → Int32} {a b : Nat} {τ : Nat → Nat → Int64}
theorem k_loadFrom (hp : tk_rp p) (h01 : ∀ j, j < 5 → σ p (4 + 3 * j) = 0 ∨ σ p (4 + 3 * j) = 1) : tk_Ct M_X1_loadFrom [.ref 16, .ref p] (σ, tk_rho a b, τ, 62) (fun v μ' => v = none ∧ ∃ σ', μ' = (σ', tk_rho a b, τ, 62) ∧ (∀ i, i < 17 → tk_NV σ' i = σ p i) ∧ ∀ x y, x ≠ 16 → ¬ (18 ≤ x ∧ x ≤ 22) → σ' x y = σ x y) := by
  obtain ⟨hok, hkd⟩ := tk_rpok hp
  have hin : ∀ {c j : Nat}, c + 3 * j < 17 → tk_in ((nI c : Int32) + 3 * nI j) (tk_kd p).2 = true := fun h => by rw [tk_i3, hkd]; exact tk_in_nI h (by decide)
  have loop : ∀ (l : Launch) (D : va_G) (cy : Nat → ClassId) (n j : Nat) (i : Int32) (x3 : Option Value) (σi : Nat → Nat → Int32), i = nI j → j + n = 5 → (∀ q, q < 2 + 3 * j → tk_NV σi q = σ p q) → (∀ x y, x ≠ 16 → ¬ (18 ≤ x ∧ x ≤ 22) → σi x y = σ x y) →
      tk_J l D cy none M_X1_loadFrom (16, [some (.ref 16), some (.ref p), some (.int i), x3], [], (σi, tk_rho a b, τ, 62), 0, 0) (fun v μ' => v = none ∧ ∃ σ', μ' = (σ', tk_rho a b, τ, 62) ∧ (∀ i, i < 17 → tk_NV σ' i = σ p i) ∧ ∀ x y, x ≠ 16 → ¬ (18 ≤ x ∧ x ≤ 22) → σ' x y = σ x y) := by
    intro l D cy n
    induction n with
    | zero =>
      intro j i x3 σi hi hj hv hf
      subst hi
      refine tk_run (hT_X1_loadFrom none) [16] 60 _ ?_
      refine And.intro (fun h1 => ?_) (fun h1 => ?_)
      all_goals try dsimp only [tk_c0, tk_c1, tk_c2, tk_c3, tk_c4, tk_c5, tk_c6, tk_c7, tk_c8, tk_c9, tk_c10, tk_c11, tk_c12, tk_c13] at h1
      · exact And.intro rfl ⟨σi, rfl, fun i hi => hv i (by omega), hf⟩
      · exact absurd (nI_le (a := 5) (by omega) (by omega)) h1
    | succ n ih =>
      intro j i x3 σi hi hj hv hf
      subst hi
      have hth := tk_thok (j := j) (by omega)
      have hpj : p ≠ 18 + j := by have := hp.1; omega
      have e2 : ∀ y, σi p y = σ p y := fun y => hf _ _ (by have := hp.1; omega) (by have := hp.1; omega)
      have e1 : ∀ (c : Nat) (v : Int32) (y : Nat), tk_up σi (18 + j) c v p y = σ p y := fun c v y => by rw [tk_up_p _ _ _ hpj, e2]
      have e0 : ∀ (c d : Nat) (v w : Int32) (y : Nat), tk_up (tk_up σi (18 + j) c v) (18 + j) d w p y = σ p y := fun c d v w y => by rw [tk_up_p _ _ _ hpj, tk_up_p _ _ _ hpj, e2]
      have nx : ∀ (x3 : Option Value) (d : Int32), d = σ p (4 + 3 * j) → tk_J l D cy none M_X1_loadFrom (16, [some (.ref 16), some (.ref p), some (.int (nI j + 1)), x3], [], (tk_up (tk_up (tk_up σi (18 + j) 0 (σ p (2 + 3 * j))) (18 + j) 1 (σ p (3 + 3 * j))) (18 + j) 2 d, tk_rho a b, τ, 62), 0, 0) (fun v μ' => v = none ∧ ∃ σ', μ' = (σ', tk_rho a b, τ, 62) ∧ (∀ i, i < 17 → tk_NV σ' i = σ p i) ∧ ∀ x y, x ≠ 16 → ¬ (18 ≤ x ∧ x ≤ 22) → σ' x y = σ x y) := by
        intro x3 d hd
        refine ih (j + 1) _ _ _ (nI_1 j) (by omega) (fun q hq => ?_) (fun x y hx hx2 => ?_)
        · by_cases h4 : q = 4 + 3 * j
          · subst h4
            rw [tk_NV2, tk_up_at, hd]
          · by_cases h3 : q = 3 + 3 * j
            · subst h3
              rw [tk_NV1, tk_up_k _ _ _ (by decide), tk_up_at]
            · by_cases h2 : q = 2 + 3 * j
              · subst h2
                rw [tk_NV0, tk_up_k _ _ _ (by decide), tk_up_k _ _ _ (by decide), tk_up_at]
              · have hq2 : q < 2 + 3 * j := by omega
                rw [← hv q hq2]
                unfold tk_NV
                have hA : ∀ y, tk_up (tk_up (tk_up σi (18 + j) 0 (σ p (2 + 3 * j))) (18 + j) 1 (σ p (3 + 3 * j))) (18 + j) 2 d 16 y = σi 16 y := fun y => by
                  rw [tk_up_p _ _ _ (by omega), tk_up_p _ _ _ (by omega), tk_up_p _ _ _ (by omega)]
                rw [hA, hA]
                by_cases q0 : q = 0
                · rw [if_pos q0, if_pos q0]
                · rw [if_neg q0, if_neg q0]
                  by_cases q1 : q = 1
                  · rw [if_pos q1, if_pos q1]
                  · rw [if_neg q1, if_neg q1, tk_up_p _ _ _ (by omega), tk_up_p _ _ _ (by omega), tk_up_p _ _ _ (by omega)]
        · rw [tk_up_p _ _ _ (by omega), tk_up_p _ _ _ (by omega), tk_up_p _ _ _ (by omega)]
          exact hf x y hx hx2
      have f2 : (((2 : Int32) + 3 * nI j)).toNatClampNeg = 2 + 3 * j := by rw [show (2 : Int32) = nI 2 from rfl, tk_i3, nI_clamp (by omega)]
      have f3 : (((3 : Int32) + 3 * nI j)).toNatClampNeg = 3 + 3 * j := by rw [show ((3 : Int32) + 3 * nI j) = nI 3 + 3 * nI j from rfl, tk_i3, nI_clamp (by omega)]
      have f4 : (((4 : Int32) + 3 * nI j)).toNatClampNeg = 4 + 3 * j := by rw [show (4 : Int32) = nI 4 from rfl, tk_i3, nI_clamp (by omega)]
      refine tk_run (hT_X1_loadFrom none) [16] 60 _ ?_
      refine And.intro (fun h1 => ?_) (fun h1 => ?_)
      all_goals try dsimp only [tk_c0, tk_c1, tk_c2, tk_c3, tk_c4, tk_c5, tk_c6, tk_c7, tk_c8, tk_c9, tk_c10, tk_c11, tk_c12, tk_c13] at h1
      · exact absurd h1 (nI_ge (b := 5) (by omega) (by omega))
      · refine tk_ift (tk_in_nI (n := 5) (by omega) (by decide)) ?_
        refine tk_osi (by rw [nI_clamp (by omega)]; exact tk_th (by omega)) ?_
        refine tk_ift hok ?_
        refine tk_ift (hin (c := 2) (by omega)) ?_
        refine tk_ift hth ?_
        refine tk_ift hok ?_
        refine tk_ift (hin (c := 3) (by omega)) ?_
        refine tk_ift hth ?_
        refine tk_ift hok ?_
        refine tk_ift (hin (c := 4) (by omega)) ?_
        dsimp only
        rw [f2, f3, f4, e2, e1, e0]
        refine And.intro (fun h2 => ?_) (fun h2 => ?_)
        all_goals try dsimp only [tk_c0, tk_c1, tk_c2, tk_c3, tk_c4, tk_c5, tk_c6, tk_c7, tk_c8, tk_c9, tk_c10, tk_c11, tk_c12, tk_c13] at h2
        · refine tk_ift hth ?_
          refine And.intro (Or.inr rfl) ?_
          exact nx _ 1 h2.symm
        · refine tk_ift hth ?_
          refine And.intro (Or.inl rfl) ?_
          exact nx _ 0 ((h01 j (by omega)).resolve_right h2).symm
  have hp16 : p ≠ 16 := by have := hp.1; omega
  refine tk_ct rfl rfl (Nat.le_of_ble_eq_true rfl) (fun l D cy => tk_run (hT_X1_loadFrom none) [16] 60 _ ?_)
  refine tk_ift hok ?_
  refine tk_ift (by rw [hkd]; rfl) ?_
  refine tk_ift hok ?_
  refine tk_ift (by rw [hkd]; rfl) ?_
  refine loop l D cy 5 0 _ _ _ rfl rfl (fun q hq => ?_) (fun x y hx hx2 => ?_)
  · dsimp only [tk_c0, tk_c1]
    match q, hq with
    | 0, _ =>
      show tk_up (tk_up σ 16 0 (σ p 0)) 16 1 (tk_up σ 16 0 (σ p 0) p 1) 16 0 = σ p 0
      rw [tk_up_k _ _ _ (by decide), tk_up_at]
    | 1, _ =>
      show tk_up (tk_up σ 16 0 (σ p 0)) 16 1 (tk_up σ 16 0 (σ p 0) p 1) 16 1 = σ p 1
      rw [tk_up_at, tk_up_p _ _ _ hp16]
  · rw [tk_up_p _ _ _ hx, tk_up_p _ _ _ hx]
theorem tk_rw {j : Nat} (hj : j < 10) : tk_rho a b 24 j = some (25 + j) := by
  have key : ∀ j, j < 10 → tk_rho 0 0 24 j = some (25 + j) := by decide +kernel
  exact key j hj
theorem k_nextRow {X K : Nat} (hX : X < 10) (eX : σ 23 2 = nI X) (hK : K ≤ 10) (eK : σ 23 1 = nI K) : tk_Fn M_X2_nextRow [.ref 23] (σ, tk_rho a b, τ, 62) (some (.ref (25 + X))) (tk_up (tk_up σ 23 2 (nI ((X + 1) % 10))) 23 1 (nI (if K = 10 then 10 else K + 1)), tk_rho a b, τ, 62) := by
  refine tk_ct rfl rfl (Nat.le_of_ble_eq_true rfl) (fun l D cy => tk_run (hT_X2_nextRow none) [] 60 _ ?_)
  refine tk_ift (by rw [eX]; exact tk_in_nI (n := 10) hX (by decide)) ?_
  refine tk_osi (by rw [eX, nI_clamp (by omega)]; exact tk_rw hX) ?_
  refine And.intro (by decide) ?_
  refine tk_cc (k_min _ _ _) (fun v9 μ9 h9 => ?_)
  obtain ⟨rfl, rfl⟩ := h9
  refine And.intro rfl ?_
  dsimp only
  have emin : (if (10 : Int32) < σ 23 1 + 1 then 10 else σ 23 1 + 1) = nI (if K = 10 then 10 else K + 1) := by
    simp only [eK, nI_1]
    by_cases h : K = 10
    · rw [if_pos h, if_pos (by rw [h]; decide)]
      rfl
    · have hh : ¬ (10 : Int32) < nI (K + 1) := nI_nlt (a := 10) (by omega) (by omega)
      rw [if_neg h, if_neg hh]
  have erem : σ 23 2 + 1 - (σ 23 2 + 1) / 10 * 10 = nI ((X + 1) % 10) := by
    rw [eX, nI_1, show (10 : Int32) = nI 10 from rfl, pk_rem (by omega) (by decide) (by decide)]
  simp only [tk_up_k _ _ _ (by decide : (1 : Nat) ≠ 2), emin, erem]
theorem k_latestRow {X K : Nat} (hX : X < 10) (eX : σ 23 2 = nI X) (hK : K ≤ 10) (hK1 : 1 ≤ K) (eK : σ 23 1 = nI K) : tk_Fn M_X2_latestRow [.ref 23] (σ, tk_rho a b, τ, 62) (some (.ref (25 + (X + 9) % 10))) (tk_up (tk_up σ 23 2 (nI ((X + 9) % 10))) 23 1 (nI (K - 1)), tk_rho a b, τ, 62) := by
  have e1 : nI X + 10 - 1 = nI (X + 9) := by rw [show (10 : Int32) = nI 10 from rfl, nI_add, show X + 10 = (X + 9) + 1 by omega, nI_pred]
  have e2 : nI K - 1 = nI (K - 1) := by rw [show K = (K - 1) + 1 by omega, nI_pred]; simp
  have e3 : nI (X + 9) - nI (X + 9) / 10 * 10 = nI ((X + 9) % 10) := by rw [show (10 : Int32) = nI 10 from rfl, pk_rem (by omega) (by decide) (by decide)]
  have e4 : ¬ nI (K - 1) < 0 := nI_pos (by omega)
  refine tk_ct rfl rfl (Nat.le_of_ble_eq_true rfl) (fun l D cy => tk_run (hT_X2_latestRow none) [] 60 _ ?_)
  refine And.intro (by decide) ?_
  refine tk_cc (k_max _ _ _) (fun v9 μ9 h9 => ?_)
  obtain ⟨rfl, rfl⟩ := h9
  dsimp only
  have emax : (if σ 23 1 - 1 < 0 then 0 else σ 23 1 - 1) = nI (K - 1) := by
    simp only [eK, e2]
    rw [if_neg e4]
  have erem : σ 23 2 + 10 - 1 - (σ 23 2 + 10 - 1) / 10 * 10 = nI ((X + 9) % 10) := by rw [eX, e1, e3]
  simp only [tk_up_k _ _ _ (by decide : (1 : Nat) ≠ 2), emax, erem]
  refine tk_ift (by rw [tk_up_k _ _ _ (by decide), tk_up_at]; exact tk_in_nI (n := 10) (by omega) (by decide)) ?_
  refine tk_osi (by rw [tk_up_k _ _ _ (by decide), tk_up_at, nI_clamp (by omega)]; exact tk_rw (by omega)) ?_
  exact And.intro rfl rfl
theorem k_pLose : tk_Fn M_X2_lose [.ref 23] (σ, tk_rho a b, τ, 62) none (tk_up σ 23 1 0, tk_rho a b, τ, 62) := by
  refine tk_ct rfl rfl (Nat.le_of_ble_eq_true rfl) (fun l D cy => tk_run (hT_X2_lose none) [] 60 _ ?_)
  exact And.intro rfl rfl
theorem k_tiedOf {N : Nat} (hN : N ≤ 5) (hdp : DecidablePred (fun t : Nat => ¬ σ (18 + t) 2 = 0)) : tk_Fn M_X1_tiedOf [.ref 16, .int (nI N)] (σ, tk_rho a b, τ, 62) (some (.int (nI (tk_cnt _ hdp N)))) (σ, tk_rho a b, τ, 62) := by
  have loop : ∀ (l : Launch) (D : va_G) (cy : Nat → ClassId) (n j : Nat) (i : Int32), i = nI j → j + n = N →
      tk_J l D cy none M_X1_tiedOf (4, [some (.ref 16), some (.int (nI N)), some (.int (nI (tk_cnt _ hdp j))), some (.int i)], [], (σ, tk_rho a b, τ, 62), 0, 0) (fun v μ' => v = some (.int (nI (tk_cnt _ hdp N))) ∧ μ' = (σ, tk_rho a b, τ, 62)) := by
    intro l D cy n
    induction n with
    | zero =>
      intro j i hi hj
      subst hi
      refine tk_run (hT_X1_tiedOf none) [4] 60 _ ?_
      refine And.intro (fun h1 => ?_) (fun h1 => ?_)
      all_goals try dsimp only [tk_c0, tk_c1, tk_c2, tk_c3, tk_c4, tk_c5, tk_c6, tk_c7, tk_c8, tk_c9, tk_c10, tk_c11, tk_c12, tk_c13] at h1
      · refine And.intro ?_ rfl
        rw [← hj]
        rfl
      · exact absurd (nI_le (by omega) (by omega)) h1
    | succ n ih =>
      intro j i hi hj
      subst hi
      have h9 := ih (j + 1) _ (nI_1 j) (by omega)
      refine tk_run (hT_X1_tiedOf none) [4] 60 _ ?_
      refine And.intro (fun h1 => ?_) (fun h1 => ?_)
      all_goals try dsimp only [tk_c0, tk_c1, tk_c2, tk_c3, tk_c4, tk_c5, tk_c6, tk_c7, tk_c8, tk_c9, tk_c10, tk_c11, tk_c12, tk_c13] at h1
      · exact absurd h1 (nI_ge (by omega) (by omega))
      · refine tk_ift (tk_in_nI (n := 5) (by omega) (by decide)) ?_
        refine tk_osi (by rw [nI_clamp (by omega)]; exact tk_th (by omega)) ?_
        refine tk_ift (tk_thok (by omega)) ?_
        refine And.intro (fun h2 => ?_) (fun h2 => ?_)
        all_goals try dsimp only [tk_c0, tk_c1, tk_c2, tk_c3, tk_c4, tk_c5, tk_c6, tk_c7, tk_c8, tk_c9, tk_c10, tk_c11, tk_c12, tk_c13] at h2
        · rw [tk_cnt, if_neg (fun h => h h2)] at h9
          exact h9
        · rw [tk_cnt, if_pos h2, ← nI_1] at h9
          exact h9
  refine tk_ct rfl rfl (Nat.le_of_ble_eq_true rfl) (fun l D cy => tk_run (hT_X1_tiedOf none) [4] 60 _ ?_)
  exact loop l D cy N 0 _ rfl (by omega)
end
