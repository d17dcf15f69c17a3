/-! the lowest methods -/
def tk_b (p : Prop) [Decidable p] : Int32 := if p then 1 else 0
theorem tk_b0 {p : Prop} [Decidable p] : tk_b p = 0 ↔ ¬ p := by
  unfold tk_b
  split
  · rename_i h; simp [h]
  · rename_i h; simp [h]
theorem tk_bT {p : Prop} [Decidable p] (h : p) : tk_b p = 1 := if_pos h
theorem tk_bF {p : Prop} [Decidable p] (h : ¬ p) : tk_b p = 0 := if_neg h
theorem tk_b01 (p : Prop) [Decidable p] : tk_b p = 0 ∨ tk_b p = 1 := by
  unfold tk_b
  split
  · exact Or.inr rfl
  · exact Or.inl rfl
/-- the contract that a method answers r and leaves the memory as m -/
abbrev tk_Fn (M : tk_Md) (as : List Value) (μ : tk_Me) (r : Option Value) (m : tk_Me) : Prop := tk_Ct M as μ (fun v μ' => v = r ∧ μ' = m)
theorem k_isWithin (a b c : Int32) (μ : tk_Me) : tk_Fn M_X6_isWithin [.int a, .int b, .int c] μ (some (.int (tk_b (b ≤ a ∧ a ≤ c)))) μ := by
  refine tk_ct rfl rfl (Nat.le_of_ble_eq_true rfl) (fun l D cy => tk_run (hT_X6_isWithin none) [] 60 _ ?_)
  refine And.intro (fun h1 => ?_) (fun h1 => ?_)
  · refine And.intro (by first | exact Or.inl rfl | exact Or.inr rfl) (And.intro ?_ rfl)
    rw [tk_bF (fun h => Int32.not_le.mpr h1 h.1)]
  · refine And.intro (fun h2 => ?_) (fun h2 => ?_)
    · refine And.intro (by first | exact Or.inl rfl | exact Or.inr rfl) (And.intro ?_ rfl)
      rw [tk_bF (fun h => Int32.not_le.mpr h2 h.2)]
    · refine And.intro (by first | exact Or.inl rfl | exact Or.inr rfl) (And.intro ?_ rfl)
      rw [tk_bT ⟨Int32.not_lt.mp h1, Int32.not_lt.mp h2⟩]
theorem k_in (a b c : Int32) (μ : tk_Me) : tk_Fn M_X7_in [.int a, .int b, .int c] μ (some (.int (tk_b (b ≤ a ∧ a ≤ c)))) μ := by
  refine tk_ct rfl rfl (Nat.le_of_ble_eq_true rfl) (fun l D cy => tk_run (hT_X7_in none) [] 60 _ ?_)
  refine And.intro (fun h1 => ?_) (fun h1 => ?_)
  · refine And.intro (by first | exact Or.inl rfl | exact Or.inr rfl) (And.intro ?_ rfl)
    rw [tk_bF (fun h => Int32.not_le.mpr h1 h.1)]
  · refine And.intro (fun h2 => ?_) (fun h2 => ?_)
    · refine And.intro (by first | exact Or.inl rfl | exact Or.inr rfl) (And.intro ?_ rfl)
      rw [tk_bF (fun h => Int32.not_le.mpr h2 h.2)]
    · refine And.intro (by first | exact Or.inl rfl | exact Or.inr rfl) (And.intro ?_ rfl)
      rw [tk_bT ⟨Int32.not_lt.mp h1, Int32.not_lt.mp h2⟩]
theorem k_isDigit (a : Int32) (μ : tk_Me) : tk_Fn M_X3_isDigit [.int a] μ (some (.int (tk_b (48 ≤ a ∧ a ≤ 57)))) μ := by
  refine tk_ct rfl rfl (Nat.le_of_ble_eq_true rfl) (fun l D cy => tk_run (hT_X3_isDigit none) [] 60 _ ?_)
  refine And.intro (fun h1 => ?_) (fun h1 => ?_)
  · refine And.intro (by first | exact Or.inl rfl | exact Or.inr rfl) (And.intro ?_ rfl)
    rw [tk_bF (fun h => Int32.not_le.mpr h1 h.1)]
  · refine And.intro (fun h2 => ?_) (fun h2 => ?_)
    · refine And.intro (by first | exact Or.inl rfl | exact Or.inr rfl) (And.intro ?_ rfl)
      rw [tk_bF (fun h => Int32.not_le.mpr h2 h.2)]
    · refine And.intro (by first | exact Or.inl rfl | exact Or.inr rfl) (And.intro ?_ rfl)
      rw [tk_bT ⟨Int32.not_lt.mp h1, Int32.not_lt.mp h2⟩]
theorem k_max (a b : Int32) (μ : tk_Me) : tk_Fn M_J9_max_7cf53 [.int a, .int b] μ (some (.int (if a < b then b else a))) μ := by
  refine tk_ctF (by decide +kernel) rfl (Nat.le_of_ble_eq_true rfl) (fun l D cy => tk_run (hT_J9_max_7cf53 none) [] 60 _ ?_)
  refine And.intro (fun h1 => ?_) (fun h1 => ?_)
  · refine And.intro ?_ rfl
    rw [if_pos h1]
  · refine And.intro ?_ rfl
    rw [if_neg h1]
theorem k_min (a b : Int32) (μ : tk_Me) : tk_Fn M_J9_min_7cf53 [.int a, .int b] μ (some (.int (if b < a then b else a))) μ := by
  refine tk_ctF (by decide +kernel) rfl (Nat.le_of_ble_eq_true rfl) (fun l D cy => tk_run (hT_J9_min_7cf53 none) [] 60 _ ?_)
  refine And.intro (fun h1 => ?_) (fun h1 => ?_)
  · refine And.intro ?_ rfl
    rw [if_pos h1]
  · refine And.intro ?_ rfl
    rw [if_neg h1]
section
variable {p : Nat} {k : Int32} {σ : Nat → Nat → Int32} {ρ : Nat → Nat → Option Nat} {τ : Nat → Nat → Int64} {n : Nat}
theorem k_lies (hp : tk_ok p 4 n = true) : tk_Fn M_X4_lies [.ref p] (σ, ρ, τ, n) (some (.int (tk_b (σ p 1 = 0)))) (σ, ρ, τ, n) := by
  refine tk_ct rfl rfl (Nat.le_of_ble_eq_true rfl) (fun l D cy => tk_run (hT_X4_lies none) [] 60 _ ?_)
  refine tk_ift hp ?_
  refine And.intro (fun h1 => ?_) (fun h1 => ?_)
  · refine And.intro (by first | exact Or.inl rfl | exact Or.inr rfl) (And.intro ?_ rfl)
    rw [tk_bT h1]
  · refine And.intro (by first | exact Or.inl rfl | exact Or.inr rfl) (And.intro ?_ rfl)
    rw [tk_bF h1]
theorem k_liesOn (hp : tk_ok p 4 n = true) : tk_Fn M_X4_liesOn [.ref p, .int k] (σ, ρ, τ, n) (some (.int (tk_b (σ p 1 = 0 ∧ σ p 0 = k)))) (σ, ρ, τ, n) := by
  refine tk_ct rfl rfl (Nat.le_of_ble_eq_true rfl) (fun l D cy => tk_run (hT_X4_liesOn none) [] 60 _ ?_)
  refine tk_ift hp ?_
  refine tk_cc (k_lies hp) (fun v9 μ9 h9 => ?_)
  obtain ⟨rfl, rfl⟩ := h9
  refine And.intro (fun h1 => ?_) (fun h1 => ?_)
  · refine And.intro (by first | exact Or.inl rfl | exact Or.inr rfl) (And.intro ?_ rfl)
    rw [tk_bF (fun h => tk_b0.mp h1 h.1)]
  · refine tk_ift hp ?_
    have h1 := Decidable.not_not.mp (fun h => h1 (tk_b0.mpr h))
    refine And.intro (fun h2 => ?_) (fun h2 => ?_)
    · refine And.intro (by first | exact Or.inl rfl | exact Or.inr rfl) (And.intro ?_ rfl)
      rw [tk_bT ⟨h1, h2⟩]
    · refine And.intro (by first | exact Or.inl rfl | exact Or.inr rfl) (And.intro ?_ rfl)
      rw [tk_bF (fun h => h2 h.2)]
theorem k_isAs {p2 : Nat} (hp : tk_ok p 4 n = true) (hp2 : tk_ok p2 4 n = true) : tk_Fn M_X4_isAs [.ref p, .ref p2] (σ, ρ, τ, n) (some (.int (tk_b (σ p 0 = σ p2 0 ∧ σ p 1 = σ p2 1)))) (σ, ρ, τ, n) := by
  refine tk_ct rfl rfl (Nat.le_of_ble_eq_true rfl) (fun l D cy => tk_run (hT_X4_isAs none) [] 60 _ ?_)
  refine tk_ift hp ?_
  refine tk_ift hp2 ?_
  refine And.intro (fun h1 => ?_) (fun h1 => ?_)
  · refine tk_ift hp ?_
    refine tk_ift hp2 ?_
    refine And.intro (fun h2 => ?_) (fun h2 => ?_)
    · refine And.intro (by first | exact Or.inl rfl | exact Or.inr rfl) (And.intro ?_ rfl)
      rw [tk_bT ⟨h1, h2⟩]
    · refine And.intro (by first | exact Or.inl rfl | exact Or.inr rfl) (And.intro ?_ rfl)
      rw [tk_bF (fun h => h2 h.2)]
  · refine And.intro (by first | exact Or.inl rfl | exact Or.inr rfl) (And.intro ?_ rfl)
    rw [tk_bF (fun h => h1 h.1)]
theorem k_place (hp : tk_ok p 4 n = true) : tk_Fn M_X4_place [.ref p] (σ, ρ, τ, n) (some (.int (if σ p 1 = 0 then σ p 0 else -9))) (σ, ρ, τ, n) := by
  refine tk_ct rfl rfl (Nat.le_of_ble_eq_true rfl) (fun l D cy => tk_run (hT_X4_place none) [] 60 _ ?_)
  refine tk_ift hp ?_
  refine tk_cc (k_lies hp) (fun v9 μ9 h9 => ?_)
  obtain ⟨rfl, rfl⟩ := h9
  refine And.intro (fun h1 => ?_) (fun h1 => ?_)
  · refine And.intro ?_ rfl
    rw [if_neg (tk_b0.mp h1)]
  · refine tk_ift hp ?_
    have h1 := Decidable.not_not.mp (fun h => h1 (tk_b0.mpr h))
    refine And.intro ?_ rfl
    rw [if_pos h1]
theorem k_lieOn (hp : tk_ok p 4 n = true) : tk_Fn M_X4_lieOn [.ref p, .int k] (σ, ρ, τ, n) none (tk_up (tk_up (tk_up σ p 0 k) p 1 0) p 2 0, ρ, τ, n) := by
  refine tk_ct rfl rfl (Nat.le_of_ble_eq_true rfl) (fun l D cy => tk_run (hT_X4_lieOn none) [] 60 _ ?_)
  refine tk_ift hp ?_
  refine tk_ift hp ?_
  refine tk_ift hp ?_
  exact And.intro (Or.inl rfl) (And.intro rfl rfl)
theorem k_becomes {p2 : Nat} (hp : tk_ok p 4 n = true) (hp2 : tk_ok p2 4 n = true) (hne : p ≠ p2) (ht : σ p2 2 = 0 ∨ σ p2 2 = 1) :
    tk_Fn M_X4_becomes [.ref p, .ref p2] (σ, ρ, τ, n) none (tk_up (tk_up (tk_up σ p 0 (σ p2 0)) p 1 (σ p2 1)) p 2 (σ p2 2), ρ, τ, n) := by
  refine tk_ct rfl rfl (Nat.le_of_ble_eq_true rfl) (fun l D cy => tk_run (hT_X4_becomes none) [] 60 _ ?_)
  refine tk_ift hp2 ?_
  refine tk_ift hp ?_
  refine tk_ift hp2 ?_
  refine tk_ift hp ?_
  refine tk_ift hp2 ?_
  refine tk_ift hp ?_
  have e1 : tk_up σ p 0 (σ p2 0) p2 1 = σ p2 1 := tk_up_p _ _ _ (Ne.symm hne)
  have e2 : tk_up (tk_up σ p 0 (σ p2 0)) p 1 (tk_up σ p 0 (σ p2 0) p2 1) p2 2 = σ p2 2 := by rw [tk_up_p _ _ _ (Ne.symm hne), tk_up_p _ _ _ (Ne.symm hne)]
  refine And.intro (by rw [e2]; exact ht) (And.intro rfl ?_)
  rw [e2, e1]
end
