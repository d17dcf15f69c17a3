/-! what is made at the start -/
def tk_s0 : Nat → Nat → Int32 := fun _ _ => 0
def tk_r0 : Nat → Nat → Option Nat := fun _ _ => none
def tk_t0 : Nat → Nat → Int64 := fun _ _ => 0
def tk_gs (σ : Nat → Nat → Int32) (n z : Nat) : Nat → Nat → Int32 := fun a b => if n < a ∧ a ≤ n + 1 + z then 0 else σ a b
def tk_gm (ρ : Nat → Nat → Option Nat) (n z : Nat) : Nat → Nat → Option Nat := fun a b => if a = n + 1 then (if b < z then some (n + 2 + b) else none) else if n + 1 < a ∧ a ≤ n + 1 + z then none else ρ a b
/-- far from all that is -/
def tk_far (ρ : Nat → Nat → Option Nat) : Prop := ∀ x y, (30 ≤ y ∨ 63 ≤ x) → ρ x y = none
theorem tk_far.up {ρ : Nat → Nat → Option Nat} {p k : Nat} {v : Option Nat} (hp : p < 63) (hk : k < 30) (h : tk_far ρ) : tk_far (tk_up ρ p k v) := fun x y hxy => by
  rw [tk_upn (by omega)]
  exact h x y hxy
theorem tk_far.z {ρ : Nat → Nat → Option Nat} {p : Nat} (h : tk_far ρ) : tk_far (tk_z ρ p none) := fun x y hxy => by
  unfold tk_z
  split
  · rfl
  · exact h x y hxy
theorem tk_far.gm {ρ : Nat → Nat → Option Nat} {n z : Nat} (hn : n < 62) (hz : z ≤ 30) (h : tk_far ρ) : tk_far (tk_gm ρ n z) := fun x y hxy => by
  unfold tk_gm
  split
  · rw [if_neg (by omega)]
  · split
    · rfl
    · exact h x y hxy
theorem tk_far_rho : tk_far (tk_rho 4 10) := fun x y hxy => by
  rcases hxy with h | h
  · have key : ∀ x, x < 63 → ((tk_rtb 4 10).getD x []).length ≤ 30 := by decide +kernel
    unfold tk_rho
    by_cases hx : x < 63
    · have := key x hx
      rw [List.getD_eq_getElem?_getD, List.getElem?_eq_none (by omega)]
      rfl
    · have : (tk_rtb 4 10).getD x [] = [] := by
        rw [List.getD_eq_getElem?_getD, List.getElem?_eq_none (by have : (tk_rtb 4 10).length ≤ 63 := (by decide +kernel); omega)]
        rfl
      rw [this]
      rfl
  · have : (tk_rtb 4 10).getD x [] = [] := by
      rw [List.getD_eq_getElem?_getD, List.getElem?_eq_none (by have : (tk_rtb 4 10).length ≤ 63 := (by decide +kernel); omega)]
      rfl
    unfold tk_rho
    rw [this]
    rfl
section
variable {σ : Nat → Nat → Int32} {ρ : Nat → Nat → Option Nat} {τ : Nat → Nat → Int64} {n p : Nat} {t k u : Int32}
theorem k_iX4 : tk_Fn M_X4_init [.ref p] (σ, ρ, τ, n) none (σ, ρ, τ, n) := by
  refine tk_ct rfl rfl (Nat.le_of_ble_eq_true rfl) (fun l D cy => tk_run (hT_X4_init none) [] 40 _ ?_)
  exact And.intro rfl rfl
theorem k_iX3 : tk_Fn M_X3_init [.ref 2] (σ, ρ, τ, 2) none (tk_z σ 3 0, tk_up (tk_z ρ 3 none) 2 0 (some 3), tk_z τ 3 0, 3) := by
  refine tk_ct rfl rfl (Nat.le_of_ble_eq_true rfl) (fun l D cy => tk_run (hT_X3_init none) [] 40 _ ?_)
  exact And.intro rfl rfl
theorem k_setLevelG (h : tk_ok p 5 n = true) : tk_Fn M_X5_setLevel [.ref p, .int t, .int k, .int u] (σ, ρ, τ, n) none (tk_up (tk_up (tk_up σ p 0 t) p 1 k) p 2 u, ρ, τ, n) := by
  refine tk_ct rfl rfl (Nat.le_of_ble_eq_true rfl) (fun l D cy => tk_run (hT_X5_setLevel none) [] 40 _ ?_)
  refine tk_ift h ?_
  refine tk_ift h ?_
  refine tk_ift h ?_
  exact And.intro rfl rfl
theorem k_resetG (h : tk_ok p 5 n = true) : tk_Fn M_X5_reset [.ref p] (σ, ρ, τ, n) none (tk_up (tk_up (tk_up (tk_up (tk_up σ p 0 10) p 1 3) p 2 0) p 3 0) p 4 0, ρ, τ, n) := by
  refine tk_ct rfl rfl (Nat.le_of_ble_eq_true rfl) (fun l D cy => tk_run (hT_X5_reset none) [] 40 _ ?_)
  refine tk_ift h ?_
  refine tk_cc (k_setLevelG h) (fun v9 μ9 h9 => ?_)
  obtain ⟨rfl, rfl⟩ := h9
  refine tk_ift h ?_
  refine tk_ift h ?_
  exact And.intro rfl rfl
theorem k_iX5_4 : tk_Fn M_X5_init [.ref 4] (σ, ρ, τ, 4) none (tk_up (tk_up (tk_up (tk_up (tk_up (tk_z (tk_z (tk_z (tk_z (tk_z (σ) 5 0) 6 0) 7 0) 8 0) 9 0) 4 0 10) 4 1 3) 4 2 0) 4 3 0) 4 4 0, tk_up (tk_z (tk_up (tk_z (tk_up (tk_z (tk_up (tk_z (tk_up (tk_z (ρ) 5 none) 4 5 (some 5)) 6 none) 4 6 (some 6)) 7 none) 4 7 (some 7)) 8 none) 4 8 (some 8)) 9 none) 4 9 (some 9), tk_z (tk_z (tk_z (tk_z (tk_z (τ) 5 0) 6 0) 7 0) 8 0) 9 0, 9) := by
  refine tk_ct rfl rfl (Nat.le_of_ble_eq_true rfl) (fun l D cy => tk_run (hT_X5_init none) [] 60 _ ?_)
  refine tk_cc (k_resetG rfl) (fun v9 μ9 h9 => ?_)
  obtain ⟨rfl, rfl⟩ := h9
  exact And.intro rfl rfl
theorem k_iX5_10 : tk_Fn M_X5_init [.ref 10] (σ, ρ, τ, 10) none (tk_up (tk_up (tk_up (tk_up (tk_up (tk_z (tk_z (tk_z (tk_z (tk_z (σ) 11 0) 12 0) 13 0) 14 0) 15 0) 10 0 10) 10 1 3) 10 2 0) 10 3 0) 10 4 0, tk_up (tk_z (tk_up (tk_z (tk_up (tk_z (tk_up (tk_z (tk_up (tk_z (ρ) 11 none) 10 5 (some 11)) 12 none) 10 6 (some 12)) 13 none) 10 7 (some 13)) 14 none) 10 8 (some 14)) 15 none) 10 9 (some 15), tk_z (tk_z (tk_z (tk_z (tk_z (τ) 11 0) 12 0) 13 0) 14 0) 15 0, 15) := by
  refine tk_ct rfl rfl (Nat.le_of_ble_eq_true rfl) (fun l D cy => tk_run (hT_X5_init none) [] 60 _ ?_)
  refine tk_cc (k_resetG rfl) (fun v9 μ9 h9 => ?_)
  obtain ⟨rfl, rfl⟩ := h9
  exact And.intro rfl rfl
theorem k_iX1 : tk_Fn M_X1_init [.ref 16] (σ, ρ, τ, 16) none (tk_z (tk_z (tk_z (tk_z (tk_z (tk_z (σ) 17 0) 18 0) 19 0) 20 0) 21 0) 22 0, tk_up (tk_z (tk_up (tk_z (tk_up (tk_z (tk_up (tk_z (tk_up (tk_z (tk_up (tk_z ρ 17 none) 16 2 (some 17)) 18 none) 17 0 (some 18)) 19 none) 17 1 (some 19)) 20 none) 17 2 (some 20)) 21 none) 17 3 (some 21)) 22 none) 17 4 (some 22), tk_z (tk_z (tk_z (tk_z (tk_z (tk_z (τ) 17 0) 18 0) 19 0) 20 0) 21 0) 22 0, 22) := by
  refine tk_ct rfl rfl (Nat.le_of_ble_eq_true rfl) (fun l D cy => tk_run (hT_X1_init none) [] 200 _ ?_)
  refine And.intro (fun z => absurd z (by decide)) (fun _ => ?_)
  refine tk_cc (k_iX4) (fun v9 μ9 h9 => ?_)
  obtain ⟨rfl, rfl⟩ := h9
  refine And.intro (fun z => absurd z (by decide)) (fun _ => ?_)
  refine tk_cc (k_iX4) (fun v9 μ9 h9 => ?_)
  obtain ⟨rfl, rfl⟩ := h9
  refine And.intro (fun z => absurd z (by decide)) (fun _ => ?_)
  refine tk_cc (k_iX4) (fun v9 μ9 h9 => ?_)
  obtain ⟨rfl, rfl⟩ := h9
  refine And.intro (fun z => absurd z (by decide)) (fun _ => ?_)
  refine tk_cc (k_iX4) (fun v9 μ9 h9 => ?_)
  obtain ⟨rfl, rfl⟩ := h9
  refine And.intro (fun z => absurd z (by decide)) (fun _ => ?_)
  refine tk_cc (k_iX4) (fun v9 μ9 h9 => ?_)
  obtain ⟨rfl, rfl⟩ := h9
  refine And.intro (fun _ => ?_) (fun z => absurd (by decide) z)
  exact And.intro rfl rfl
theorem k_iX2 : tk_Fn M_X2_init [.ref 23] (σ, ρ, τ, 23) none (tk_gs σ 23 10, tk_up (tk_gm ρ 23 10) 23 0 (some 24), τ, 34) := by
  refine tk_ct rfl rfl (Nat.le_of_ble_eq_true rfl) (fun l D cy => tk_run (hT_X2_init none) [] 40 _ ?_)
  exact And.intro rfl rfl
theorem k_iX0_39 : tk_Fn M_X0_init [.ref 39] (σ, ρ, τ, 39) none (tk_z (tk_z (σ) 40 0) 41 0, tk_up (tk_z (tk_up (tk_z ρ 40 none) 39 0 (some 40)) 41 none) 39 1 (some 41), tk_z (tk_z (τ) 40 0) 41 0, 41) := by
  refine tk_ct rfl rfl (Nat.le_of_ble_eq_true rfl) (fun l D cy => tk_run (hT_X0_init none) [] 40 _ ?_)
  exact And.intro rfl rfl
theorem k_iX0_42 : tk_Fn M_X0_init [.ref 42] (σ, ρ, τ, 42) none (tk_z (tk_z (σ) 43 0) 44 0, tk_up (tk_z (tk_up (tk_z ρ 43 none) 42 0 (some 43)) 44 none) 42 1 (some 44), tk_z (tk_z (τ) 43 0) 44 0, 44) := by
  refine tk_ct rfl rfl (Nat.le_of_ble_eq_true rfl) (fun l D cy => tk_run (hT_X0_init none) [] 40 _ ?_)
  exact And.intro rfl rfl
end
def tk_s6 : Nat → Nat → Int32 := tk_z (tk_z (tk_z (tk_z (tk_z (tk_z (tk_z (tk_z (tk_z (tk_gs (tk_gs (tk_z (tk_z (tk_z (tk_z (tk_z (tk_z (tk_z (tk_z (tk_up (tk_up (tk_up (tk_up (tk_up (tk_z (tk_z (tk_z (tk_z (tk_z (tk_z (tk_up (tk_up (tk_up (tk_up (tk_up (tk_z (tk_z (tk_z (tk_z (tk_z (tk_z (tk_z (tk_z (tk_z tk_s0 1 0) 2 0) 3 0) 4 0) 5 0) 6 0) 7 0) 8 0) 9 0) 4 0 10) 4 1 3) 4 2 0) 4 3 0) 4 4 0) 10 0) 11 0) 12 0) 13 0) 14 0) 15 0) 10 0 10) 10 1 3) 10 2 0) 10 3 0) 10 4 0) 16 0) 17 0) 18 0) 19 0) 20 0) 21 0) 22 0) 23 0) 23 10) 34 2) 38 0) 39 0) 40 0) 41 0) 42 0) 43 0) 44 0) 45 0) 46 0
def tk_r6 : Nat → Nat → Option Nat := tk_up (tk_z (tk_up (tk_z (tk_up (tk_up (tk_z (tk_up (tk_z (tk_z (tk_up (tk_up (tk_z (tk_up (tk_z (tk_z (tk_up (tk_z (tk_up (tk_gm (tk_up (tk_up (tk_gm (tk_z (tk_up (tk_up (tk_z (tk_up (tk_z (tk_up (tk_z (tk_up (tk_z (tk_up (tk_z (tk_up (tk_z (tk_z (tk_up (tk_up (tk_z (tk_up (tk_z (tk_up (tk_z (tk_up (tk_z (tk_up (tk_z (tk_z (tk_up (tk_up (tk_z (tk_up (tk_z (tk_up (tk_z (tk_up (tk_z (tk_up (tk_z (tk_z (tk_up (tk_up (tk_z (tk_z (tk_z tk_r0 1 none) 2 none) 3 none) 2 0 (some 3)) 1 0 (some 2)) 4 none) 5 none) 4 5 (some 5)) 6 none) 4 6 (some 6)) 7 none) 4 7 (some 7)) 8 none) 4 8 (some 8)) 9 none) 4 9 (some 9)) 1 1 (some 4)) 10 none) 11 none) 10 5 (some 11)) 12 none) 10 6 (some 12)) 13 none) 10 7 (some 13)) 14 none) 10 8 (some 14)) 15 none) 10 9 (some 15)) 1 2 (some 10)) 16 none) 17 none) 16 2 (some 17)) 18 none) 17 0 (some 18)) 19 none) 17 1 (some 19)) 20 none) 17 2 (some 20)) 21 none) 17 3 (some 21)) 22 none) 17 4 (some 22)) 1 3 (some 16)) 23 none) 23 10) 23 0 (some 24)) 1 4 (some 23)) 34 2) 1 5 (some 35)) 38 none) 1 6 (some 38)) 39 none) 40 none) 39 0 (some 40)) 41 none) 39 1 (some 41)) 1 7 (some 39)) 42 none) 43 none) 42 0 (some 43)) 44 none) 42 1 (some 44)) 1 8 (some 42)) 45 none) 1 9 (some 45)) 46 none) 1 10 (some 46)
def tk_t6 : Nat → Nat → Int64 := tk_z (tk_z (tk_z (tk_z (tk_z (tk_z (tk_z (tk_z (tk_z (tk_z (tk_z (tk_z (tk_z (tk_z (tk_z (tk_z (tk_z (tk_z (tk_z (tk_z (tk_z (tk_z (tk_z (tk_z (tk_z (tk_z (tk_z (tk_z (tk_z (tk_z (tk_z (tk_z tk_t0 1 0) 2 0) 3 0) 4 0) 5 0) 6 0) 7 0) 8 0) 9 0) 10 0) 11 0) 12 0) 13 0) 14 0) 15 0) 16 0) 17 0) 18 0) 19 0) 20 0) 21 0) 22 0) 23 0) 38 0) 39 0) 40 0) 41 0) 42 0) 43 0) 44 0) 45 0) 46 0
theorem k_iX6 : tk_Fn M_X6_init [.ref 1] (tk_z tk_s0 1 0, tk_z tk_r0 1 none, tk_z tk_t0 1 0, 1) none (tk_s6, tk_r6, tk_t6, 46) := by
  refine tk_ct rfl rfl (Nat.le_of_ble_eq_true rfl) (fun l D cy => tk_run (hT_X6_init none) [] 200 _ ?_)
  refine tk_cc (k_iX3) (fun v9 μ9 h9 => ?_)
  obtain ⟨rfl, rfl⟩ := h9
  refine tk_cc (k_iX5_4) (fun v9 μ9 h9 => ?_)
  obtain ⟨rfl, rfl⟩ := h9
  refine tk_cc (k_iX5_10) (fun v9 μ9 h9 => ?_)
  obtain ⟨rfl, rfl⟩ := h9
  refine tk_cc (k_iX1) (fun v9 μ9 h9 => ?_)
  obtain ⟨rfl, rfl⟩ := h9
  refine tk_cc (k_iX2) (fun v9 μ9 h9 => ?_)
  obtain ⟨rfl, rfl⟩ := h9
  refine tk_cc (k_iX0_39) (fun v9 μ9 h9 => ?_)
  obtain ⟨rfl, rfl⟩ := h9
  refine tk_cc (k_iX0_42) (fun v9 μ9 h9 => ?_)
  obtain ⟨rfl, rfl⟩ := h9
  refine tk_cc (k_iX4) (fun v9 μ9 h9 => ?_)
  obtain ⟨rfl, rfl⟩ := h9
  refine tk_cc (k_iX4) (fun v9 μ9 h9 => ?_)
  obtain ⟨rfl, rfl⟩ := h9
  exact And.intro rfl rfl
def tk_r7 : Nat → Nat → Option Nat := tk_up (tk_z (tk_up (tk_z (tk_up (tk_z (tk_up (tk_z (tk_up (tk_z (tk_up (tk_z (tk_up (tk_z (tk_up (tk_z (tk_up (tk_z (tk_up (tk_z (tk_up (tk_z (tk_up (tk_z (tk_up (tk_z (tk_up (tk_z (tk_up (tk_z (tk_z tk_r6 47 none) 48 none) 47 2 (some 48)) 49 none) 47 9 (some 49)) 50 none) 47 11 (some 50)) 51 none) 47 12 (some 51)) 52 none) 47 13 (some 52)) 53 none) 47 14 (some 53)) 54 none) 47 15 (some 54)) 55 none) 47 16 (some 55)) 56 none) 47 17 (some 56)) 57 none) 47 18 (some 57)) 58 none) 47 19 (some 58)) 59 none) 47 21 (some 59)) 60 none) 47 22 (some 60)) 61 none) 47 24 (some 61)) 62 none) 47 25 (some 62)
theorem tk_far_r7 : tk_far tk_r7 := by
  unfold tk_r7 tk_r6
  repeat first | exact fun _ _ _ => rfl | refine tk_far.up (by decide) (by decide) ?_ | refine tk_far.z ?_ | refine tk_far.gm (by decide) (by decide) ?_
theorem tk_r7_eq : tk_r7 = tk_rho 4 10 := by
  have key : ∀ x, x < 63 → ∀ y, y < 30 → tk_r7 x y = tk_rho 4 10 x y := by decide +kernel
  funext x y
  by_cases h : x < 63 ∧ y < 30
  · exact key x h.1 y h.2
  · rw [tk_far_r7 x y (by omega), tk_far_rho x y (by omega)]
theorem tk_t6_0 : ∀ x y, tk_t6 x y = 0 := fun x y => by
  have h : ∀ (f : Nat → Nat → Int64) (p : Nat), (∀ x y, f x y = 0) → ∀ x y, tk_z f p 0 x y = 0 := fun f p hf x y => by
    unfold tk_z
    split
    · rfl
    · exact hf x y
  revert x y
  unfold tk_t6
  repeat first | exact fun _ _ => rfl | refine h _ _ ?_
/-- what the start is, of the class -/
theorem tk_s6_is : ∀ x, x < 47 → ∀ y, y < 30 → tk_s6 x y = if x = 4 ∨ x = 10 then (if y = 0 then 10 else if y = 1 then 3 else 0) else 0 := by decide +kernel
