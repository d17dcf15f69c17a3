/-! what is made at the start, of the reference -/
def tk_I9 (σ' : Nat → Nat → Int32) : Prop := (∀ x y, x < 47 → σ' x y = tk_s6 x y) ∧ σ' 47 0 = 0 ∧ (σ' 49 0 = 0 ∧ σ' 49 1 = 0 ∧ σ' 49 2 = 10 ∧ σ' 49 3 = 3 ∧ σ' 49 4 = 0) ∧ (∀ k, k < 13 → σ' 55 k = 0) ∧ (∀ y, σ' 48 y = 0) ∧ (σ' 47 3 = 0 ∧ σ' 47 23 = 0 ∧ σ' 47 26 = 0 ∧ σ' 47 20 = 0 ∧ σ' 57 0 = 0 ∧ σ' 57 1 = 0)
def tk_P7 : tk_Po := fun v μ' => v = none ∧ ∃ σ' τ', μ' = (σ', tk_rho 4 10, τ', 62) ∧ (∀ x y, τ' x y = 0) ∧ tk_I9 σ'
theorem tk_z0 {f : Nat → Nat → Int64} {p : Nat} (hf : ∀ x y, f x y = 0) : ∀ x y, tk_z f p 0 x y = 0 := fun x y => by
  unfold tk_z
  split
  · rfl
  · exact hf x y
theorem tk_zn {α : Type} {f : Nat → Nat → α} {p x y : Nat} {d : α} (h : x ≠ p) : tk_z f p d x y = f x y := if_neg h
theorem tk_ze {f : Nat → Nat → Int32} {p x y : Nat} (h : x = p ∨ f x y = 0) : tk_z f p 0 x y = 0 := by
  unfold tk_z
  split
  · rfl
  · exact h.resolve_left (by assumption)
theorem k_iX7 : tk_Ct M_X7_init [.ref 47] (tk_z tk_s6 47 0, tk_z tk_r6 47 none, tk_z tk_t6 47 0, 47) tk_P7 := by
  have fin : ∀ (l : Launch) (D : va_G) (cy : Nat → ClassId) (kc ks : Nat) (σi : Nat → Nat → Int32) (ρ : Nat → Nat → Option Nat) (τ : Nat → Nat → Int64), ρ = tk_rho 4 10 → (∀ x y, τ x y = 0) → (∀ x y, x < 47 → σi x y = tk_s6 x y) → σi 47 0 = 0 → (∀ y, σi 48 y = 0) →
      tk_J l D cy none M_X7_init (124, [some (.ref 47)], [], (σi, ρ, τ, 62), kc, ks) tk_P7 := by
    intro l D cy kc ks σi ρ τ hρ hτ h1 h2 h3
    subst hρ
    have e6 : tk_up (tk_up (tk_up (tk_up (tk_up (tk_up σi 47 10 0) 49 5 0) 49 6 0) 49 7 10) 49 8 3) 49 9 0 49 6 = nI 0 := by simp [tk_up]; rfl
    refine tk_run (hT_X7_init none) [] 40 _ ?_
    refine tk_cc (k_begins rfl) (fun v9 μ9 h9 => ?_)
    obtain ⟨rfl, rfl⟩ := h9
    refine tk_cc (k_settles (by omega) e6) (fun v9 μ9 h9 => ?_)
    obtain ⟨rfl, σ1, rfl, s1, s2, s3, s4, s5⟩ := h9
    refine And.intro rfl ⟨σ1, τ, rfl, hτ, fun x y hx => ?_, ?_, ⟨?_, ?_, ?_, ?_, ?_⟩, fun k hk => ?_, fun y => ?_, s4⟩
    · rw [s5 x y (by omega) (by omega) (by omega) (by omega) (by omega), tk_upn (by omega), tk_upn (by omega), tk_upn (by omega), tk_upn (by omega), tk_upn (by omega), tk_upn (by omega)]
      exact h1 x y hx
    · rw [s5 _ _ (by omega) (by omega) (by omega) (by omega) (by omega), tk_upn (by omega), tk_upn (by omega), tk_upn (by omega), tk_upn (by omega), tk_upn (by omega), tk_upn (by omega)]
      exact h2
    · rw [s1 0 (by omega)]; simp [tk_up]
    · rw [s1 1 (by omega)]; simp [tk_up]
    · rw [s1 2 (by omega)]; simp [tk_up]
    · rw [s1 3 (by omega)]; simp [tk_up]
    · rw [s1 4 (by omega)]; simp [tk_up]
    · rw [s3 k hk, if_neg (by omega)]
    · rw [s5 _ _ (by omega) (by omega) (by omega) (by omega) (by omega), tk_upn (by omega), tk_upn (by omega), tk_upn (by omega), tk_upn (by omega), tk_upn (by omega), tk_upn (by omega)]
      exact h3 y
  refine tk_ct rfl rfl (Nat.le_of_ble_eq_true rfl) (fun l D cy => tk_run (hT_X7_init none) [124] 200 _ ?_)
  refine fin l D cy _ _ _ _ _ tk_r7_eq ?_ ?_ ?_ ?_
  · repeat first | exact tk_t6_0 | refine tk_z0 ?_
  · intro x y hx
    repeat rw [tk_zn (by omega)]
  · repeat first | exact tk_ze (Or.inl rfl) | refine tk_ze (Or.inr ?_)
  · intro y
    repeat first | exact tk_ze (Or.inl rfl) | refine tk_ze (Or.inr ?_)
theorem tk_s6_3 : ∀ y, tk_s6 3 y = 0 := fun y => by
  have hg : ∀ (f : Nat → Nat → Int32) (n z x y : Nat), f x y = 0 → tk_gs f n z x y = 0 := fun f n z x y h => by
    unfold tk_gs
    split
    · rfl
    · exact h
  have hu : ∀ (f : Nat → Nat → Int32) (p k y : Nat) (v : Int32), p ≠ 3 → f 3 y = 0 → tk_up f p k v 3 y = 0 := fun f p k y v hp h => by
    rw [tk_upn (by omega)]
    exact h
  unfold tk_s6
  repeat first | exact tk_ze (Or.inl rfl) | refine tk_ze (Or.inr ?_) | refine hg _ _ _ _ _ ?_ | refine hu _ _ _ _ _ (by decide) ?_
