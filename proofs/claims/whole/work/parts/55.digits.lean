/-! digits, of the reference -/
/-- the value as the reference makes it -/
def tk_mv (f : Nat → Int32) (q : Nat) : Nat → Int32
  | 0 => 0
  | n + 1 => if 99 < tk_mv f q n then tk_mv f q n else 10 * tk_mv f q n + f (q + n) - 48
theorem tk_dgN {c : Int32} (h : tk_dg c = true) : ∃ g, g ≤ 9 ∧ c = nI (48 + g) := by
  have h := tk_dgI.mp h
  obtain ⟨j, hj, rfl⟩ := nI_of2 (M := 57) (n := 57) rfl (Int32.not_lt.mpr (Int32.le_trans (by decide) h.1)) h.2
  have h48 : 48 ≤ j := (nI_leI (a := 48) (by omega) (by omega)).mp h.1
  exact ⟨j - 48, by omega, by rw [show 48 + (j - 48) = j by omega]⟩
theorem tk_dgS (v g : Nat) : (10 : Int32) * nI v + nI (48 + g) - 48 = nI (10 * v + g) := by
  rw [show (10 : Int32) = nI 10 from rfl, pk_mul, nI_add, show (48 : Int32) = nI 48 from rfl, pk_sub (by omega), show 10 * v + (48 + g) - 48 = 10 * v + g by omega]
theorem tk_mvb {f : Nat → Int32} {q n : Nat} (hd : ∀ i, i < n → tk_dg (f (q + i)) = true) : ∃ v, v ≤ 999 ∧ tk_mv f q n = nI v := by
  induction n with
  | zero => exact ⟨0, by omega, rfl⟩
  | succ n ih =>
    obtain ⟨v, hv, ev⟩ := ih (fun i hi => hd i (by omega))
    obtain ⟨g, hg, eg⟩ := tk_dgN (hd n (by omega))
    rw [tk_mv, ev]
    by_cases h : 99 < v
    · have hh : (99 : Int32) < nI v := nI_lt (a := 99) h (by omega)
      exact ⟨v, hv, by rw [if_pos hh]⟩
    · have hh : ¬ (99 : Int32) < nI v := nI_nlt (b := v) (a := 99) (by omega) (by omega)
      exact ⟨10 * v + g, by omega, by rw [if_neg hh, eg, tk_dgS]⟩
theorem tk_mvm {f : Nat → Int32} {q n : Nat} (h : 99 < tk_mv f q n) : ∀ d, 99 < tk_mv f q (n + d)
  | 0 => h
  | d + 1 => by
    have ih := tk_mvm h d
    show 99 < tk_mv f q (n + d + 1)
    rw [tk_mv, if_pos ih]
    exact ih
theorem tk_mvfit {f : Nat → Int32} {q n : Nat} (hn : 1 ≤ n) (hd : ∀ i, i < n → tk_dg (f (q + i)) = true) :
    ((99 < tk_mv f q n ∨ (f q = 48 ∧ 1 < n)) ↔ ¬ (n = 1 ∨ (n = 2 ∧ 9 < tk_nb f q 2))) ∧ ((n = 1 ∨ n = 2) → tk_mv f q n = tk_nb f q n) := by
  obtain ⟨g0, hg0, eg0⟩ := tk_dgN (hd 0 (by omega))
  rw [Nat.add_zero] at eg0
  have m0 : ¬ (99 : Int32) < 0 := by decide
  have m1 : tk_mv f q 1 = nI g0 := by
    show (if (99 : Int32) < 0 then 0 else 10 * 0 + f (q + 0) - 48) = nI g0
    rw [if_neg m0, Nat.add_zero, eg0]
    have := tk_dgS 0 g0
    rw [show 10 * 0 + g0 = g0 by omega] at this
    exact this
  have b1 : tk_nb f q 1 = nI g0 := by
    show 10 * 0 + f (q + 0) - 48 = nI g0
    rw [Nat.add_zero, eg0]
    have := tk_dgS 0 g0
    rw [show 10 * 0 + g0 = g0 by omega] at this
    exact this
  have c0 : f q = 48 ↔ g0 = 0 := by
    rw [eg0]
    exact ⟨fun h => by have := tk_inj (b := 48) (by omega) (by omega) h; omega, fun h => by rw [h]; rfl⟩
  by_cases hn1 : n = 1
  · subst hn1
    refine ⟨⟨fun h => ?_, fun h => absurd (Or.inl rfl) h⟩, fun _ => by rw [m1, b1]⟩
    rcases h with h | h
    · rw [m1] at h
      have := (nI_ltI (a := 99) (by omega) (by omega)).mp h
      omega
    · omega
  · obtain ⟨g1, hg1, eg1⟩ := tk_dgN (hd 1 (by omega))
    have m1' : ¬ (99 : Int32) < nI g0 := nI_nlt (b := g0) (a := 99) (by omega) (by omega)
    have m2 : tk_mv f q 2 = nI (10 * g0 + g1) := by
      show (if 99 < tk_mv f q 1 then tk_mv f q 1 else 10 * tk_mv f q 1 + f (q + 1) - 48) = _
      rw [m1, if_neg m1', eg1, tk_dgS]
    have b2 : tk_nb f q 2 = nI (10 * g0 + g1) := by
      show 10 * tk_nb f q 1 + f (q + 1) - 48 = _
      rw [b1, eg1, tk_dgS]
    have hb9 : 9 < tk_nb f q 2 ↔ ¬ g0 = 0 := by
      rw [b2]
      have : (9 : Int32) < nI (10 * g0 + g1) ↔ 9 < 10 * g0 + g1 := nI_ltI (a := 9) (by omega) (by omega)
      rw [this]
      omega
    by_cases hn2 : n = 2
    · subst hn2
      refine ⟨?_, fun _ => by rw [m2, b2]⟩
      have h99 : ¬ 99 < tk_mv f q 2 := by rw [m2]; exact nI_nlt (b := 10 * g0 + g1) (a := 99) (by omega) (by omega)
      rw [c0, hb9]
      constructor
      · rintro (h | h)
        · exact absurd h h99
        · rintro (h1 | h1)
          · omega
          · exact h1.2 h.1
      · intro h
        exact Or.inr ⟨Decidable.not_not.mp (fun hh => h (Or.inr ⟨rfl, hh⟩)), by omega⟩
    · refine ⟨⟨fun _ => by rintro (h | h) <;> omega, fun _ => ?_⟩, fun h => by omega⟩
      by_cases hg : g0 = 0
      · exact Or.inr ⟨c0.mpr hg, by omega⟩
      · refine Or.inl ?_
        obtain ⟨g2, hg2, eg2⟩ := tk_dgN (hd 2 (by omega))
        have m2' : ¬ (99 : Int32) < nI (10 * g0 + g1) := nI_nlt (b := 10 * g0 + g1) (a := 99) (by omega) (by omega)
        have m3 : tk_mv f q 3 = nI (10 * (10 * g0 + g1) + g2) := by
          show (if 99 < tk_mv f q 2 then tk_mv f q 2 else 10 * tk_mv f q 2 + f (q + 2) - 48) = _
          rw [m2, if_neg m2', eg2, tk_dgS]
        have h3 : 99 < tk_mv f q 3 := by rw [m3]; exact nI_lt (a := 99) (by omega) (by omega)
        have := tk_mvm h3 (n - 3)
        rw [show 3 + (n - 3) = n by omega] at this
        exact this
