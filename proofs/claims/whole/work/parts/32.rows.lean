/-! rows: how it stands now, kept and brought back; what can be undone -/
/-- how it stands now, as a row -/
def tk_NV (σ : Nat → Nat → Int32) (i : Nat) : Int32 := if i = 0 then σ 16 0 else if i = 1 then σ 16 1 else σ (18 + (i - 2) / 3) ((i - 2) % 3)
theorem tk_NV0 (σ : Nat → Nat → Int32) (t : Nat) : tk_NV σ (2 + 3 * t) = σ (18 + t) 0 := by
  rw [tk_NV, if_neg (by omega), if_neg (by omega), show (2 + 3 * t - 2) / 3 = t by omega, show (2 + 3 * t - 2) % 3 = 0 by omega]
theorem tk_NV1 (σ : Nat → Nat → Int32) (t : Nat) : tk_NV σ (3 + 3 * t) = σ (18 + t) 1 := by
  rw [tk_NV, if_neg (by omega), if_neg (by omega), show (3 + 3 * t - 2) / 3 = t by omega, show (3 + 3 * t - 2) % 3 = 1 by omega]
theorem tk_NV2 (σ : Nat → Nat → Int32) (t : Nat) : tk_NV σ (4 + 3 * t) = σ (18 + t) 2 := by
  rw [tk_NV, if_neg (by omega), if_neg (by omega), show (4 + 3 * t - 2) / 3 = t by omega, show (4 + 3 * t - 2) % 3 = 2 by omega]
theorem tk_i3 {c : Nat} {j : Nat} : (nI c : Int32) + 3 * nI j = nI (c + 3 * j) := by
  rw [show (3 : Int32) = nI 3 from rfl, pk_mul, nI_add]
/-- a row's place -/
def tk_rp (p : Nat) : Prop := 25 ≤ p ∧ p ≤ 37 ∧ p ≠ 35
theorem tk_rpok {p : Nat} (h : tk_rp p) : tk_ok p 9 62 = true ∧ (tk_kd p).2 = 17 := by
  have key : ∀ p, p < 38 → 25 ≤ p → p ≠ 35 → tk_ok p 9 62 = true ∧ (tk_kd p).2 = 17 := by decide +kernel
  exact key p (by have := h.2.1; omega) h.1 h.2.2
section
variable {p : Nat} {t k u : Int32} {σ : Nat → Nat → Int32} {a b : Nat} {τ : Nat → Nat → Int64}
theorem k_saveTo (hp : tk_rp p) (h01 : ∀ j, j < 5 → σ (18 + j) 2 = 0 ∨ σ (18 + j) 2 = 1) : tk_Ct M_X1_saveTo [.ref 16, .ref p] (σ, tk_rho a b, τ, 62) (fun v μ' => v = none ∧ ∃ σ', μ' = (σ', tk_rho a b, τ, 62) ∧ (∀ i, i < 17 → σ' p i = tk_NV σ i) ∧ ∀ x y, x ≠ p → σ' x y = σ x y) := by
  obtain ⟨hok, hkd⟩ := tk_rpok hp
  have hin : ∀ {c j : Nat}, c + 3 * j < 17 → tk_in ((nI c : Int32) + 3 * nI j) (tk_kd p).2 = true := fun h => by rw [tk_i3, hkd]; exact tk_in_nI h (by decide)
  have hne : ∀ j, j < 5 → 18 + j ≠ p := fun j hj => by have := hp.1; omega
  have loop : ∀ (l : Launch) (D : va_G) (cy : Nat → ClassId) (n j : Nat) (i : Int32) (x3 : Option Value) (σi : Nat → Nat → Int32), i = nI j → j + n = 5 → (∀ q, q < 2 + 3 * j → σi p q = tk_NV σ q) → (∀ x y, x ≠ p → σi x y = σ x y) →
      tk_J l D cy none M_X1_saveTo (16, [some (.ref 16), some (.ref p), some (.int i), x3], [], (σi, tk_rho a b, τ, 62), 0, 0) (fun v μ' => v = none ∧ ∃ σ', μ' = (σ', tk_rho a b, τ, 62) ∧ (∀ i, i < 17 → σ' p i = tk_NV σ i) ∧ ∀ x y, x ≠ p → σ' x y = σ x y) := by
    intro l D cy n
    induction n with
    | zero =>
      intro j i x3 σi hi hj hv hf
      subst hi
      refine tk_run (hT_X1_saveTo none) [16] 60 _ ?_
      refine And.intro (fun h1 => ?_) (fun h1 => ?_)
      all_goals try dsimp only [tk_c0, tk_c1, tk_c2, tk_c3, tk_c4, tk_c5, tk_c6, tk_c7, tk_c8, tk_c9, tk_c10, tk_c11, tk_c12, tk_c13] at h1
      · exact And.intro rfl ⟨σi, rfl, fun i hi => hv i (by omega), hf⟩
      · exact absurd (nI_le (a := 5) (by omega) (by omega)) h1
    | succ n ih =>
      intro j i x3 σi hi hj hv hf
      subst hi
      have hth := tk_thok (j := j) (by omega)
      have e0 : ∀ (c d : Nat) (v w : Int32) (y : Nat), tk_up (tk_up σi p c v) p d w (18 + j) y = σ (18 + j) y := fun c d v w y => by
        rw [tk_up_p _ _ _ (hne j (by omega)), tk_up_p _ _ _ (hne j (by omega)), hf _ _ (hne j (by omega))]
      have e1 : ∀ (c : Nat) (v : Int32) (y : Nat), tk_up σi p c v (18 + j) y = σ (18 + j) y := fun c v y => by
        rw [tk_up_p _ _ _ (hne j (by omega)), hf _ _ (hne j (by omega))]
      have e2 : ∀ y, σi (18 + j) y = σ (18 + j) y := fun y => hf _ _ (hne j (by omega))
      have nx : ∀ (x3 : Option Value) (d : Int32), d = σ (18 + j) 2 → tk_J l D cy none M_X1_saveTo (16, [some (.ref 16), some (.ref p), some (.int (nI j + 1)), x3], [], (tk_up (tk_up (tk_up σi p (2 + 3 * j) (σ (18 + j) 0)) p (3 + 3 * j) (σ (18 + j) 1)) p (4 + 3 * j) d, tk_rho a b, τ, 62), 0, 0) (fun v μ' => v = none ∧ ∃ σ', μ' = (σ', tk_rho a b, τ, 62) ∧ (∀ i, i < 17 → σ' p i = tk_NV σ i) ∧ ∀ x y, x ≠ p → σ' x y = σ x y) := by
        intro x3 d hd
        refine ih (j + 1) _ _ _ (nI_1 j) (by omega) (fun q hq => ?_) (fun x y hx => ?_)
        · by_cases h4 : q = 4 + 3 * j
          · subst h4
            rw [tk_up_at, tk_NV2, hd]
          · rw [tk_up_k _ _ _ h4]
            by_cases h3 : q = 3 + 3 * j
            · subst h3
              rw [tk_up_at, tk_NV1]
            · rw [tk_up_k _ _ _ h3]
              by_cases h2 : q = 2 + 3 * j
              · subst h2
                rw [tk_up_at, tk_NV0]
              · rw [tk_up_k _ _ _ h2]
                exact hv q (by omega)
        · rw [tk_up_p _ _ _ hx, tk_up_p _ _ _ hx, tk_up_p _ _ _ hx]
          exact hf x y hx
      have f2 : (((2 : Int32) + 3 * nI j)).toNatClampNeg = 2 + 3 * j := by rw [show (2 : Int32) = nI 2 from rfl, tk_i3, nI_clamp (by omega)]
      have f3 : (((3 : Int32) + 3 * nI j)).toNatClampNeg = 3 + 3 * j := by rw [show ((3 : Int32) + 3 * nI j) = nI 3 + 3 * nI j from rfl, tk_i3, nI_clamp (by omega)]
      have f4 : (((4 : Int32) + 3 * nI j)).toNatClampNeg = 4 + 3 * j := by rw [show (4 : Int32) = nI 4 from rfl, tk_i3, nI_clamp (by omega)]
      refine tk_run (hT_X1_saveTo none) [16] 60 _ ?_
      refine And.intro (fun h1 => ?_) (fun h1 => ?_)
      all_goals try dsimp only [tk_c0, tk_c1, tk_c2, tk_c3, tk_c4, tk_c5, tk_c6, tk_c7, tk_c8, tk_c9, tk_c10, tk_c11, tk_c12, tk_c13] at h1
      · exact absurd h1 (nI_ge (b := 5) (by omega) (by omega))
      · refine tk_ift (tk_in_nI (n := 5) (by omega) (by decide)) ?_
        refine tk_osi (by rw [nI_clamp (by omega)]; exact tk_th (by omega)) ?_
        refine tk_ift hth ?_
        refine tk_ift hok ?_
        refine tk_ift (hin (c := 2) (by omega)) ?_
        refine tk_ift hth ?_
        refine tk_ift hok ?_
        refine tk_ift (hin (c := 3) (by omega)) ?_
        refine tk_ift hth ?_
        dsimp only
        rw [f2, f3, e1, e2, e0]
        refine And.intro (fun h2 => ?_) (fun h2 => ?_)
        all_goals try dsimp only [tk_c0, tk_c1, tk_c2, tk_c3, tk_c4, tk_c5, tk_c6, tk_c7, tk_c8, tk_c9, tk_c10, tk_c11, tk_c12, tk_c13] at h2
        · refine tk_ift hok ?_
          refine tk_ift (hin (c := 4) (by omega)) ?_
          dsimp only
          rw [f4]
          exact nx _ 0 h2.symm
        · refine tk_ift hok ?_
          refine tk_ift (hin (c := 4) (by omega)) ?_
          dsimp only
          rw [f4]
          exact nx _ 1 ((h01 j (by omega)).resolve_left h2).symm
  refine tk_ct rfl rfl (Nat.le_of_ble_eq_true rfl) (fun l D cy => tk_run (hT_X1_saveTo none) [16] 60 _ ?_)
  refine tk_ift hok ?_
  refine tk_ift (by rw [hkd]; rfl) ?_
  refine tk_ift hok ?_
  refine tk_ift (by rw [hkd]; rfl) ?_
  refine loop l D cy 5 0 _ _ _ rfl rfl (fun q hq => ?_) (fun x y hx => ?_)
  · dsimp only [tk_c0, tk_c1]
    have hp16 : 16 ≠ p := by have := hp.1; omega
    match q, hq with
    | 0, _ =>
      rw [tk_up_k _ _ _ (by decide), tk_up_at]
      rfl
    | 1, _ =>
      rw [tk_up_at, tk_up_p _ _ _ hp16]
      rfl
  · rw [tk_up_p _ _ _ hx, tk_up_p _ _ _ hx]
end
