/-! pure: levels, a thing that a tide takes, many tides; the two methods that do one tide -/
theorem tk_up_tw {α : Type} (f : Nat → Nat → α) (p k : Nat) (v w : α) : tk_up (tk_up f p k v) p k w = tk_up f p k w := by
  funext x y
  unfold tk_up
  split <;> rfl
theorem tk_up_sw {α : Type} (f : Nat → Nat → α) (p : Nat) {k k2 : Nat} (h : k ≠ k2) (v w : α) : tk_up (tk_up f p k v) p k2 w = tk_up (tk_up f p k2 w) p k v := by
  funext x y
  unfold tk_up
  by_cases h1 : x = p ∧ y = k
  · rw [if_pos h1, if_neg (fun q => h (h1.2.symm.trans q.2))]
    simp [h1]
  · by_cases h2 : x = p ∧ y = k2
    · simp [h2]
      intro h3
      exact absurd h3.symm h
    · simp only [if_neg h1, if_neg h2]
theorem tk_up_id {α : Type} (f : Nat → Nat → α) (p k : Nat) : tk_up f p k (f p k) = f := by
  funext x y
  unfold tk_up
  split
  · rename_i h
    rw [h.1, h.2]
  · rfl
/-- one tide of this level -/
def tk_s1 (E : Nat → Nat → Int32) (lv : Int32) (s : Int32 × Int32) : Int32 × Int32 :=
  (if s.2 = 0 ∧ E 0 s.1.toNatClampNeg ≤ lv then E 1 s.1.toNatClampNeg else s.1,
   if (if s.2 = 0 ∧ E 0 s.1.toNatClampNeg ≤ lv then E 2 s.1.toNatClampNeg else s.2) ≤ 0 then (if s.2 = 0 ∧ E 0 s.1.toNatClampNeg ≤ lv then E 2 s.1.toNatClampNeg else s.2) else (if s.2 = 0 ∧ E 0 s.1.toNatClampNeg ≤ lv then E 2 s.1.toNatClampNeg else s.2) - 1)
def tk_lv' (E : Nat → Nat → Int32) (t : Int32) : Int32 := tk_lev (E 3 0) (E 3 1) (E 3 2) t
/-- n tides from t on -/
def tk_it (E : Nat → Nat → Int32) (t : Int32) : Nat → Int32 × Int32 → Int32 × Int32
  | 0, s => s
  | n + 1, s => tk_s1 E (tk_lv' E (t + nI n)) (tk_it E t n s)
/-- what the towns at a place tell: heights, drains, delays, the numbers, the towns -/
def tk_E (σ : Nat → Nat → Int32) (q : Nat) : Nat → Nat → Int32 := fun i k => match i with
  | 0 => σ (q + 2) k
  | 1 => σ (q + 3) k
  | 2 => σ (q + 4) k
  | 3 => σ q k
  | _ => σ (q + 1) k
/-- the same of the reference -/
def tk_F (σ : Nat → Nat → Int32) : Nat → Nat → Int32 := fun i k => match i with
  | 0 => σ 51 k
  | 1 => σ 52 k
  | 2 => σ 53 k
  | 3 => σ 49 ([2, 3, 4, 0, 1].getD k 9)
  | _ => σ 50 k
/-- a place of the towns that are -/
def tk_kI (E : Nat → Nat → Int32) (k : Int32) : Prop := 0 ≤ k ∧ k < E 3 3
def tk_tI (E : Nat → Nat → Int32) (k : Int32) : Prop := 0 ≤ k ∧ k < E 3 4
/-- the towns are as told -/
def tk_VE (E : Nat → Nat → Int32) : Prop := 2 ≤ E 3 0 ∧ E 3 0 ≤ 20 ∧ (0 ≤ E 3 1 ∧ E 3 1 < E 3 0) ∧ (0 ≤ E 3 2 ∧ E 3 2 < E 3 0) ∧ (0 ≤ E 3 3 ∧ E 3 3 ≤ nI 8) ∧ (0 ≤ E 3 4 ∧ E 3 4 ≤ nI 5) ∧ ∀ k, tk_kI E k → tk_kI E (E 1 k.toNatClampNeg) ∧ 1 ≤ E 2 k.toNatClampNeg ∧ E 2 k.toNatClampNeg ≤ 4
/-- a thing as it can be -/
def tk_VS (E : Nat → Nat → Int32) (s : Int32 × Int32) : Prop := tk_kI E s.1 ∧ 0 ≤ s.2 ∧ s.2 ≤ 3
theorem tk_i32 {x y : Int32} : x ≤ y ↔ x.toInt ≤ y.toInt := Int32.le_iff_toInt_le
theorem tk_i32l {x y : Int32} : x < y ↔ x.toInt < y.toInt := Int32.lt_iff_toInt_lt
theorem tk_sub1 {x : Int32} (h : 1 ≤ x) : (x - 1).toInt = x.toInt - 1 := by
  obtain ⟨j, hj, rfl⟩ := nI_of (x := x) (by intro h2; rw [tk_i32] at h; rw [tk_i32l] at h2; have h3 : (0 : Int32).toInt = 0 := rfl; have h4 : (1 : Int32).toInt = 1 := rfl; omega)
  cases j with
  | zero => exact absurd h (by decide)
  | succ j =>
    rw [nI_pred, nI_toInt (by omega), nI_toInt (by omega)]
    omega
theorem tk_s1_V {E : Nat → Nat → Int32} {lv : Int32} {s : Int32 × Int32} (hE : tk_VE E) (h : tk_VS E s) : tk_VS E (tk_s1 E lv s) := by
  obtain ⟨h1, h2, h3⟩ := h
  have hd := hE.2.2.2.2.2.2 s.1 h1
  have c0 : (0 : Int32).toInt = 0 := rfl
  have c1 : (1 : Int32).toInt = 1 := rfl
  have c3 : (3 : Int32).toInt = 3 := rfl
  have c4 : (4 : Int32).toInt = 4 := rfl
  by_cases hc : s.2 = 0 ∧ E 0 s.1.toNatClampNeg ≤ lv
  · have h4 : ¬ E 2 s.1.toNatClampNeg ≤ 0 := fun h => by
      have := hd.2.1
      rw [tk_i32] at this h
      omega
    have e : tk_s1 E lv s = (E 1 s.1.toNatClampNeg, E 2 s.1.toNatClampNeg - 1) := by
      unfold tk_s1
      simp only [if_pos hc, if_neg h4]
    rw [e]
    refine ⟨hd.1, ?_, ?_⟩
    · show (0 : Int32) ≤ E 2 s.1.toNatClampNeg - 1
      have := hd.2.1
      rw [tk_i32, tk_sub1 hd.2.1]
      rw [tk_i32] at this
      omega
    · show E 2 s.1.toNatClampNeg - 1 ≤ 3
      have := hd.2.2
      rw [tk_i32, tk_sub1 hd.2.1]
      rw [tk_i32] at this
      omega
  · by_cases h4 : s.2 ≤ 0
    · have e : tk_s1 E lv s = s := by
        unfold tk_s1
        simp only [if_neg hc, if_pos h4]
      rw [e]
      exact ⟨h1, h2, h3⟩
    · have e : tk_s1 E lv s = (s.1, s.2 - 1) := by
        unfold tk_s1
        simp only [if_neg hc, if_neg h4]
      rw [e]
      have h5 : 1 ≤ s.2 := by
        rw [tk_i32] at h4 ⊢
        omega
      refine ⟨h1, ?_, ?_⟩
      · show (0 : Int32) ≤ s.2 - 1
        rw [tk_i32, tk_sub1 h5]
        rw [tk_i32] at h5
        omega
      · show s.2 - 1 ≤ 3
        rw [tk_i32, tk_sub1 h5]
        rw [tk_i32] at h3
        omega
theorem tk_it_V {E : Nat → Nat → Int32} {t : Int32} {s : Int32 × Int32} (hE : tk_VE E) (h : tk_VS E s) (n : Nat) : tk_VS E (tk_it E t n s) := by
  induction n with
  | zero => exact h
  | succ n ih => exact tk_s1_V hE ih
section
variable {p q : Nat} {k : Int32} {σ : Nat → Nat → Int32} {a b : Nat} {τ : Nat → Nat → Int64}
/-- a thing and the towns share nothing -/
theorem tk_apart (hp : tk_ok p 4 62 = true) (hq : tk_tw q) : p ≠ q ∧ p ≠ q + 1 ∧ p ≠ q + 2 ∧ p ≠ q + 3 ∧ p ≠ q + 4 ∧ p ≠ q + 5 := by
  have h := (tk_ok.mp hp).1
  refine ⟨?_, ?_, ?_, ?_, ?_, ?_⟩ <;> (intro e; subst e; rcases hq with rfl | rfl <;> exact absurd h (by decide))
theorem k_pass {lv : Int32} (hp : tk_ok p 4 62 = true) (hq : tk_tw q) (hk : σ q 3 ≤ nI 8) (hv : 0 ≤ σ p 0 ∧ σ p 0 < σ q 3) (hd : 1 ≤ σ (q + 4) (σ p 0).toNatClampNeg) (ht : σ p 2 = 0) :
    tk_Fn M_X4_pass [.ref p, .ref q, .int lv] (σ, tk_rho a b, τ, 62) (some (.int (tk_b (σ p 1 = 0 ∧ σ (q + 2) (σ p 0).toNatClampNeg ≤ lv)))) (tk_up (tk_up σ p 0 (tk_s1 (tk_E σ q) lv (σ p 0, σ p 1)).1) p 1 (tk_s1 (tk_E σ q) lv (σ p 0, σ p 1)).2, tk_rho a b, τ, 62) := by
  have hap := tk_apart hp hq
  have hin := tk_in_of hv.1 hv.2 hk (by decide)
  have hq0 := hq
  have e1 : ∀ v, tk_up σ p 1 v p 0 = σ p 0 := fun v => tk_up_k σ v p (by decide)
  have e3 : ∀ v w, tk_up (tk_up σ p 1 v) p 0 w p 1 = v := fun v w => (tk_up_k _ _ p (by decide)).trans (tk_up_at σ p 1 v)
  have hd0 : ¬ σ (q + 4) (σ p 0).toNatClampNeg ≤ 0 := fun h => by
    rw [tk_i32] at hd h
    have c0 : (0 : Int32).toInt = 0 := rfl
    have c1 : (1 : Int32).toInt = 1 := rfl
    omega
  have no : ∀ {g : Int32}, ¬ (g = 0 ∧ σ (q + 2) (σ p 0).toNatClampNeg ≤ lv) → g ≤ 0 → tk_s1 (tk_E σ q) lv (σ p 0, g) = (σ p 0, g) := fun hc h => by
    unfold tk_s1 tk_E
    simp only [if_neg hc, if_pos h]
  have no2 : ∀ {g : Int32}, ¬ (g = 0 ∧ σ (q + 2) (σ p 0).toNatClampNeg ≤ lv) → ¬ g ≤ 0 → tk_s1 (tk_E σ q) lv (σ p 0, g) = (σ p 0, g - 1) := fun hc h => by
    unfold tk_s1 tk_E
    simp only [if_neg hc, if_neg h]
  have yes : ∀ {g : Int32}, (g = 0 ∧ σ (q + 2) (σ p 0).toNatClampNeg ≤ lv) → tk_s1 (tk_E σ q) lv (σ p 0, g) = (σ (q + 3) (σ p 0).toNatClampNeg, σ (q + 4) (σ p 0).toNatClampNeg - 1) := fun hc => by
    unfold tk_s1 tk_E
    simp only [if_pos hc, if_neg hd0]
  have e2 : ∀ v j, tk_up σ p 1 v (q + 3) j = σ (q + 3) j := fun v j => tk_up_p σ v j (Ne.symm hap.2.2.2.1)
  refine tk_ct rfl rfl (Nat.le_of_ble_eq_true rfl) (fun l D cy => tk_run (hT_X4_pass none) [] 60 _ ?_)
  refine tk_ift hp ?_
  refine tk_cc (k_lies hp) (fun v9 μ9 h9 => ?_)
  obtain ⟨rfl, rfl⟩ := h9
  refine And.intro (fun h1 => ?_) (fun h1 => ?_)
  all_goals try dsimp only at h1
  · have h1 := tk_b0.mp h1
    have hc : ¬ (σ p 1 = 0 ∧ σ (q + 2) (σ p 0).toNatClampNeg ≤ lv) := fun h => h1 h.1
    refine And.intro (fun h2 => ?_) (fun h2 => ?_)
    all_goals try dsimp only at h2
    · refine tk_ift hp ?_
      refine And.intro (fun h3 => ?_) (fun h3 => ?_)
      all_goals try dsimp only at h3
      · refine And.intro (Or.inl rfl) (And.intro ?_ ?_)
        · rw [tk_bF hc]
        · rw [no hc h3, tk_up_id, tk_up_id]
      · refine tk_ift hp ?_
        refine tk_ift hp ?_
        refine And.intro (Or.inl rfl) (And.intro ?_ ?_)
        · rw [tk_bF hc]
        · rw [no2 hc h3, tk_up_id]
    · exact absurd rfl h2
  · have h1 := Decidable.not_not.mp (fun h => h1 (tk_b0.mpr h))
    refine tk_ift hp ?_
    refine And.intro (fun h2 => ?_) (fun h2 => ?_)
    all_goals try dsimp only at h2
    · refine tk_ift hp ?_
      refine tk_ift (by rcases hq with rfl | rfl <;> rfl) ?_
      refine tk_cc (k_isFlooded hq0 hk) (fun v9 μ9 h9 => ?_)
      obtain ⟨rfl, rfl⟩ := h9
      refine And.intro (fun h3 => ?_) (fun h3 => ?_)
      all_goals try dsimp only at h3
      · have h3 := tk_b0.mp h3
        have hc : ¬ (σ p 1 = 0 ∧ σ (q + 2) (σ p 0).toNatClampNeg ≤ lv) := fun h => h3 ⟨hv, h.2⟩
        refine And.intro (fun h4 => ?_) (fun h4 => ?_)
        all_goals try dsimp only at h4
        · refine tk_ift hp ?_
          refine And.intro (fun h5 => ?_) (fun h5 => ?_)
          all_goals try dsimp only at h5
          · refine And.intro (Or.inl rfl) (And.intro ?_ ?_)
            · rw [tk_bF hc]
            · rw [no hc h5, tk_up_id, tk_up_id]
          · exact absurd (by rw [h1]; decide) h5
        · exact absurd rfl h4
      · have h3 := Decidable.not_not.mp (fun h => h3 (tk_b0.mpr h))
        have hc : σ p 1 = 0 ∧ σ (q + 2) (σ p 0).toNatClampNeg ≤ lv := ⟨h1, h3.2⟩
        refine And.intro (fun h4 => ?_) (fun h4 => ?_)
        all_goals try dsimp only at h4
        · exact absurd h4 (by decide)
        · have ey := yes (g := σ p 1) hc
          rcases hq with rfl | rfl <;>
          · refine tk_ift hp ?_
            refine tk_ift hin ?_
            refine tk_ift hp ?_
            refine tk_ift hp ?_
            refine tk_ift (by rw [e1]; exact hin) ?_
            refine tk_ift hp ?_
            refine tk_ift hp ?_
            refine And.intro (fun h5 => ?_) (fun h5 => ?_)
            all_goals try dsimp only at h5
            · exact absurd (by rw [e3] at h5; exact h5) hd0
            · refine tk_ift hp ?_
              refine tk_ift hp ?_
              refine And.intro (Or.inr rfl) (And.intro ?_ ?_)
              · rw [tk_bT hc]
              · rw [ey, e3, e1]
                dsimp only
                rw [tk_up_sw _ _ (by decide : (1 : Nat) ≠ 0), tk_up_tw]
                rw [show tk_up σ p 1 _ _ _ = _ from e2 _ _]
    · exact absurd ht h2
/-- the same of the reference: its own kerb and tides to go -/
theorem k_goes {lv : Int32} (hv : 0 ≤ σ 47 27 ∧ σ 47 27 < nI 16) (hd : 1 ≤ σ 53 (σ 47 27).toNatClampNeg) :
    tk_Fn M_X7_goes [.ref 47, .int lv] (σ, tk_rho a b, τ, 62) (some (.int (tk_b (σ 47 28 = 0 ∧ σ 51 (σ 47 27).toNatClampNeg ≤ lv)))) (tk_up (tk_up σ 47 27 (tk_s1 (tk_F σ) lv (σ 47 27, σ 47 28)).1) 47 28 (tk_s1 (tk_F σ) lv (σ 47 27, σ 47 28)).2, tk_rho a b, τ, 62) := by
  have hin := tk_in_of hv.1 hv.2 (Int32.le_refl _) (by decide : 16 < 2 ^ 31)
  have e1 : ∀ v, tk_up σ 47 28 v 47 27 = σ 47 27 := fun v => tk_up_k σ v 47 (by decide)
  have e3 : ∀ v w, tk_up (tk_up σ 47 28 v) 47 27 w 47 28 = v := fun v w => (tk_up_k _ _ 47 (by decide)).trans (tk_up_at σ 47 28 v)
  have hd0 : ¬ σ 53 (σ 47 27).toNatClampNeg ≤ 0 := fun h => by
    rw [tk_i32] at hd h
    have c0 : (0 : Int32).toInt = 0 := rfl
    have c1 : (1 : Int32).toInt = 1 := rfl
    omega
  have no : ∀ {g : Int32}, ¬ (g = 0 ∧ σ 51 (σ 47 27).toNatClampNeg ≤ lv) → g ≤ 0 → tk_s1 (tk_F σ) lv (σ 47 27, g) = (σ 47 27, g) := fun hc h => by
    unfold tk_s1 tk_F
    simp only [if_neg hc, if_pos h]
  have no2 : ∀ {g : Int32}, ¬ (g = 0 ∧ σ 51 (σ 47 27).toNatClampNeg ≤ lv) → ¬ g ≤ 0 → tk_s1 (tk_F σ) lv (σ 47 27, g) = (σ 47 27, g - 1) := fun hc h => by
    unfold tk_s1 tk_F
    simp only [if_neg hc, if_neg h]
  have yes : ∀ {g : Int32}, (g = 0 ∧ σ 51 (σ 47 27).toNatClampNeg ≤ lv) → tk_s1 (tk_F σ) lv (σ 47 27, g) = (σ 52 (σ 47 27).toNatClampNeg, σ 53 (σ 47 27).toNatClampNeg - 1) := fun hc => by
    unfold tk_s1 tk_F
    simp only [if_pos hc, if_neg hd0]
  have e2 : ∀ v j, tk_up σ 47 28 v 52 j = σ 52 j := fun v j => tk_up_p σ v j (by decide)
  have z : ∀ g : Int32, g - 0 = g := fun g => Int32.sub_zero g
  refine tk_ct rfl rfl (Nat.le_of_ble_eq_true rfl) (fun l D cy => tk_run (hT_X7_goes none) [] 60 _ ?_)
  refine And.intro (fun h1 => ?_) (fun h1 => ?_)
  all_goals try dsimp only at h1
  · refine tk_ift hin ?_
    refine And.intro (fun h2 => ?_) (fun h2 => ?_)
    all_goals try dsimp only at h2
    · have hc : ¬ (σ 47 28 = 0 ∧ σ 51 (σ 47 27).toNatClampNeg ≤ lv) := fun h => Int32.not_lt.mpr h.2 h2
      refine And.intro (fun h3 => ?_) (fun h3 => ?_)
      all_goals try dsimp only at h3
      · refine And.intro (fun h4 => ?_) (fun h4 => ?_)
        all_goals try dsimp only at h4
        · refine And.intro (Or.inl rfl) (And.intro ?_ ?_)
          · rw [tk_bF hc]
          · dsimp only
            rw [no hc h4, z]
            simp only [tk_up_id]
        · exact absurd (by rw [h1]; decide) h4
      · exact absurd rfl h3
    · have hc : σ 47 28 = 0 ∧ σ 51 (σ 47 27).toNatClampNeg ≤ lv := ⟨h1, Int32.not_lt.mp h2⟩
      refine And.intro (fun h3 => ?_) (fun h3 => ?_)
      all_goals try dsimp only at h3
      · exact absurd h3 (by decide)
      · have ey := yes (g := σ 47 28) hc
        refine tk_ift hin ?_
        refine tk_ift (by rw [e1]; exact hin) ?_
        refine And.intro (fun h5 => ?_) (fun h5 => ?_)
        all_goals try dsimp only at h5
        · exact absurd (by rw [e3] at h5; exact h5) hd0
        · refine And.intro (Or.inr rfl) (And.intro ?_ ?_)
          · rw [tk_bT hc]
          · rw [ey, e3, e1]
            dsimp only
            rw [tk_up_sw _ _ (by decide : (28 : Nat) ≠ 27), tk_up_tw, e2]
  · have hc : ¬ (σ 47 28 = 0 ∧ σ 51 (σ 47 27).toNatClampNeg ≤ lv) := fun h => h1 h.1
    refine And.intro (fun h3 => ?_) (fun h3 => ?_)
    all_goals try dsimp only at h3
    · refine And.intro (fun h4 => ?_) (fun h4 => ?_)
      all_goals try dsimp only at h4
      · refine And.intro (Or.inl rfl) (And.intro ?_ ?_)
        · rw [tk_bF hc]
        · dsimp only
          rw [no hc h4, z]
          simp only [tk_up_id]
      · refine And.intro (Or.inl rfl) (And.intro ?_ ?_)
        · rw [tk_bF hc]
        · rw [no2 hc h4, tk_up_id]
    · exact absurd rfl h3
end
