/-! tokens, of the reference -/
section
variable {k w : Int32} {σ : Nat → Nat → Int32} {a b : Nat} {τ : Nat → Nat → Int64} {L : Nat}
/-- the letter there, or -1 -/
def tk_la (f : Nat → Int32) (L p : Nat) : Int32 := if p < L then f p else -1
theorem k_letterAt {p : Nat} (hL : L ≤ 150) (e : σ 47 3 = nI L) (hp : p ≤ L) : tk_Fn M_X7_letterAt [.ref 47, .int (nI p)] (σ, tk_rho a b, τ, 62) (some (.int (tk_la (σ 48) L p))) (σ, tk_rho a b, τ, 62) := by
  refine tk_ct rfl rfl (Nat.le_of_ble_eq_true rfl) (fun l D cy => tk_run (hT_X7_letterAt none) [] 40 _ ?_)
  refine And.intro (fun h1 => ?_) (fun h1 => ?_)
  all_goals try dsimp only [tk_c0, tk_c1, tk_c2, tk_c3, tk_c4, tk_c5, tk_c6, tk_c7, tk_c8, tk_c9, tk_c10, tk_c11, tk_c12, tk_c13] at h1
  all_goals rw [e] at h1
  · have : ¬ p < L := fun h => absurd h1 (nI_ge h (by omega))
    exact And.intro (by rw [tk_la, if_neg this]) rfl
  · have : p < L := Nat.lt_of_not_le (fun h => h1 (nI_le h (by omega)))
    refine tk_ift (tk_in_nI (n := 150) (by omega) (by decide)) ?_
    refine And.intro ?_ rfl
    rw [tk_la, if_pos this, nI_clamp (by omega)]
theorem k_isWell : tk_Fn M_X7_isWell [.ref 47] (σ, tk_rho a b, τ, 62) (some (.int (tk_b (σ 47 8 < 0)))) (σ, tk_rho a b, τ, 62) := by
  refine tk_ct rfl rfl (Nat.le_of_ble_eq_true rfl) (fun l D cy => tk_run (hT_X7_isWell none) [] 40 _ ?_)
  refine And.intro (fun h1 => ?_) (fun h1 => ?_)
  all_goals try dsimp only [tk_c0, tk_c1, tk_c2, tk_c3, tk_c4, tk_c5, tk_c6, tk_c7, tk_c8, tk_c9, tk_c10, tk_c11, tk_c12, tk_c13] at h1
  · refine And.intro (by first | exact Or.inl rfl | exact Or.inr rfl) (And.intro ?_ rfl)
    rw [tk_bF (Int32.not_lt.mpr h1)]
  · refine And.intro (by first | exact Or.inl rfl | exact Or.inr rfl) (And.intro ?_ rfl)
    rw [tk_bT (Int32.not_le.mp h1)]
end
