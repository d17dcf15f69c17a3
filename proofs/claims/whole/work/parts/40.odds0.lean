/-! odds: what both sides use -/
def tk_pw (p : Int32) : Nat → Int32
  | 0 => 1
  | n + 1 => tk_pw p n * p
/-- how far a level falls in tide i, if the tide is weak -/
def tk_wk (wk : Int32) (i : Nat) : Int32 := if (wk >>> (nI i &&& 31)) &&& 1 = 1 then 3 else 0
def tk_iW (E : Nat → Nat → Int32) (t d wk : Int32) : Nat → Int32 × Int32 → Int32 × Int32
  | 0, s => s
  | n + 1, s => tk_sT E (tk_lv' E (t + nI n) - tk_wk wk n) d (tk_iW E t d wk n s)
theorem tk_iW_V {E : Nat → Nat → Int32} {t d wk : Int32} {s : Int32 × Int32} (hE : tk_VE E) (h : tk_VS E s) (n : Nat) : tk_VS E (tk_iW E t d wk n s) := by
  induction n with
  | zero => exact h
  | succ n ih => exact tk_sT_V hE ih
theorem tk_iW_T {E : Nat → Nat → Int32} {t d wk : Int32} {s : Int32 × Int32} (h : tk_VT d s) (n : Nat) : tk_VT d (tk_iW E t d wk n s) := by
  rcases h with h | h
  · exact Or.inl h
  · have e : tk_iW E t d wk n s = s := by
      induction n with
      | zero => rfl
      | succ n ih => rw [tk_iW, ih, tk_sT, if_pos h.1]
    rw [e]
    exact Or.inr h
/-- the odds that just these of n tides are weak, of 10 ^ n -/
def tk_ow (x : Int32) (wk : Int32) : Nat → Int32
  | 0 => 1
  | n + 1 => tk_ow x wk n * (if (wk >>> (nI n &&& 31)) &&& 1 = 1 then x else 10 - x)
def tk_oN (x wk : Nat) : Nat → Nat
  | 0 => 1
  | n + 1 => tk_oN x wk n * (if wk / 2 ^ n % 2 = 1 then x else 10 - x)
theorem tk_ow_oN : ∀ x, x < 11 → ∀ n, n < 5 → ∀ wk, wk < 2 ^ n → tk_ow (nI x) (nI wk) n = nI (tk_oN x wk n) ∧ tk_oN x wk n ≤ 10000 ∧ ∃ c, c ≤ n ∧ tk_bc (nI wk) = nI c ∧ tk_pw (nI x) c * tk_pw (10 - nI x) (n - c) = nI (tk_oN x wk n) := by decide +kernel
theorem tk_pw10 : ∀ n, n < 5 → tk_pw 10 n = nI (10 ^ n) := by decide +kernel
/-- the odds that it lies on k behind n tides, of 10 ^ n: the weak ones below m -/
def tk_uo (E : Nat → Nat → Int32) (t d : Int32) (s : Int32 × Int32) (k : Int32) (x n : Nat) : Nat → Nat
  | 0 => 0
  | m + 1 => tk_uo E t d s k x n m + (if (tk_iW E t d (nI m) n s).2 = 0 ∧ (tk_iW E t d (nI m) n s).1 = k then tk_oN x m n else 0)
theorem tk_uo_le {E : Nat → Nat → Int32} {t d : Int32} {s : Int32 × Int32} {k : Int32} {x n : Nat} (hx : x < 11) (hn : n < 5) : ∀ m, m ≤ 2 ^ n → tk_uo E t d s k x n m ≤ 10000 * m
  | 0, _ => Nat.le_refl _
  | m + 1, h => by
    have ih := tk_uo_le (E := E) (t := t) (d := d) (s := s) (k := k) hx hn m (by omega)
    have h2 := (tk_ow_oN x hx n hn m (by omega)).2.1
    rw [tk_uo]
    split <;> omega
theorem tk_2n {n : Nat} (hn : n < 5) : 2 ^ n ≤ 16 := by
  have : ∀ n, n < 5 → 2 ^ n ≤ 16 := by decide
  exact this n hn
theorem tk_sh2 : ∀ n, n < 5 → (1 : Int32) <<< (nI n &&& 31) = nI (2 ^ n) := by decide +kernel
section
variable {t k u w : Int32} {σ : Nat → Nat → Int32} {a b : Nat} {τ : Nat → Nat → Int64}
theorem k_power {p : Int32} {n : Nat} {μ : tk_Me} (hn : n ≤ 4) : tk_Fn M_X6_power [.int p, .int (nI n)] μ (some (.int (tk_pw p n))) μ := by
  have loop : ∀ (l : Launch) (D : va_G) (cy : Nat → ClassId) (m j : Nat) (i : Int32), i = nI j → j + m = n →
      tk_J l D cy none M_X6_power (4, [some (.int p), some (.int (nI n)), some (.int (tk_pw p j)), some (.int i)], [], μ, 0, 0) (fun v μ' => v = some (.int (tk_pw p n)) ∧ μ' = μ) := by
    intro l D cy m
    induction m with
    | zero =>
      intro j i hi hj
      subst hi
      obtain rfl : j = n := by omega
      refine tk_run (hT_X6_power none) [4] 40 _ ?_
      refine And.intro (fun h1 => ?_) (fun h1 => ?_)
      all_goals try dsimp only [tk_c0, tk_c1, tk_c2, tk_c3, tk_c4, tk_c5, tk_c6, tk_c7, tk_c8, tk_c9, tk_c10, tk_c11, tk_c12, tk_c13] at h1
      · exact And.intro rfl rfl
      · exact absurd (Int32.le_refl _) h1
    | succ m ih =>
      intro j i hi hj
      subst hi
      refine tk_run (hT_X6_power none) [4] 40 _ ?_
      refine And.intro (fun h1 => ?_) (fun h1 => ?_)
      all_goals try dsimp only [tk_c0, tk_c1, tk_c2, tk_c3, tk_c4, tk_c5, tk_c6, tk_c7, tk_c8, tk_c9, tk_c10, tk_c11, tk_c12, tk_c13] at h1
      · exact absurd h1 (nI_ge (by omega) (by omega))
      · exact ih (j + 1) _ (nI_1 j) (by omega)
  refine tk_ct rfl rfl (Nat.le_of_ble_eq_true rfl) (fun l D cy => tk_run (hT_X6_power none) [4] 40 _ ?_)
  exact loop l D cy n 0 _ rfl (by omega)
theorem k_gcd {x y : Nat} {μ : tk_Me} (hx : x < 2 ^ 31) (hy : y < 2 ^ 31) : tk_Fn M_X7_gcd [.int (nI x), .int (nI y)] μ (some (.int (nI (Nat.gcd x y)))) μ := by
  have loop : ∀ (l : Launch) (D : va_G) (cy : Nat → ClassId) (m q p : Nat) (L0 L1 L4 : Option Value), q ≤ m → p < 2 ^ 31 → q < 2 ^ 31 →
      tk_J l D cy none M_X7_gcd (4, [L0, L1, some (.int (nI p)), some (.int (nI q)), L4], [], μ, 0, 0) (fun v μ' => v = some (.int (nI (Nat.gcd p q))) ∧ μ' = μ) := by
    intro l D cy m
    induction m with
    | zero =>
      intro q p L0 L1 L4 hq hp hq2
      obtain rfl : q = 0 := by omega
      refine tk_run (hT_X7_gcd none) [4] 40 _ ?_
      refine And.intro (fun h1 => ?_) (fun h1 => ?_)
      all_goals try dsimp only [tk_c0, tk_c1, tk_c2, tk_c3, tk_c4, tk_c5, tk_c6, tk_c7, tk_c8, tk_c9, tk_c10, tk_c11, tk_c12, tk_c13] at h1
      · exact And.intro (by rw [Nat.gcd_zero_right]) rfl
      · exact absurd rfl h1
    | succ m ih =>
      intro q p L0 L1 L4 hq hp hq2
      refine tk_run (hT_X7_gcd none) [4] 40 _ ?_
      refine And.intro (fun h1 => ?_) (fun h1 => ?_)
      all_goals try dsimp only [tk_c0, tk_c1, tk_c2, tk_c3, tk_c4, tk_c5, tk_c6, tk_c7, tk_c8, tk_c9, tk_c10, tk_c11, tk_c12, tk_c13] at h1
      · have : q = 0 := tk_inj hq2 (by decide) h1
        subst this
        exact And.intro (by rw [Nat.gcd_zero_right]) rfl
      · have hq0 : 0 < q := Nat.pos_of_ne_zero (fun h => h1 (by rw [h]; rfl))
        have hlt : p % q < q := Nat.mod_lt p hq0
        refine And.intro h1 ?_
        have h9 := ih (p % q) q L0 L1 (some (.int (nI (p % q)))) (by omega) hq2 (by omega)
        have eg : Nat.gcd q (p % q) = Nat.gcd p q := by
          rw [Nat.gcd_comm q (p % q), ← Nat.gcd_rec, Nat.gcd_comm]
        rw [eg, ← pk_rem hp hq0 hq2] at h9
        exact h9
  refine tk_ct rfl rfl (Nat.le_of_ble_eq_true rfl) (fun l D cy => tk_run (hT_X7_gcd none) [4] 40 _ ?_)
  exact loop l D cy y y x _ _ _ (Nat.le_refl y) hx hy
theorem tk_half {p q : Nat} (h : 0 < p % q) (hq : 0 < q) : 2 * (q % (p % q)) < q := by
  have h1 : p % q < q := Nat.mod_lt p hq
  have h2 : q % (p % q) < p % q := Nat.mod_lt q h
  have h3 : q % (p % q) ≤ q - p % q := by
    have := Nat.mod_eq_sub_mod (Nat.le_of_lt h1)
    rw [this]
    exact Nat.mod_le _ _
  omega
theorem k_commonDivisor {x y : Nat} {μ : tk_Me} (hx : x < 2 ^ 31) (hy : y < 2 ^ 31) (hy0 : 0 < y) : tk_Fn M_X6_commonDivisor [.int (nI x), .int (nI y)] μ (some (.int (nI (Nat.gcd x y)))) μ := by
  have fin : ∀ (l : Launch) (D : va_G) (cy : Nat → ClassId) (g : Nat) (L0 L1 L3 L4 L5 : Option Value), 0 < g → g < 2 ^ 31 →
      tk_J l D cy none M_X6_commonDivisor (34, [L0, L1, some (.int (nI g)), L3, L4, L5], [], μ, 0, 0) (fun v μ' => v = some (.int (nI g)) ∧ μ' = μ) := by
    intro l D cy g L0 L1 L3 L4 L5 hg hg2
    refine tk_run (hT_X6_commonDivisor none) [] 40 _ ?_
    refine tk_cc (k_max _ _ _) (fun v9 μ9 h9 => ?_)
    obtain ⟨rfl, rfl⟩ := h9
    refine And.intro ?_ rfl
    have hh : ¬ nI g < (1 : Int32) := nI_nlt (b := 1) hg hg2
    rw [if_neg hh]
  have step1 : ∀ (l : Launch) (D : va_G) (cy : Nat → ClassId) (q p j : Nat) (i : Int32) (L0 L1 L5 : Option Value), i = nI j → j < 64 → p < 2 ^ 31 → 0 < q → q < 2 ^ 31 →
      tk_J l D cy none M_X6_commonDivisor (7, [L0, L1, some (.int (nI q)), some (.int (nI (p % q))), some (.int (nI (j + 1))), some (.int (nI (p % q)))], [], μ, 0, 0) (fun v μ' => v = some (.int (nI (Nat.gcd p q))) ∧ μ' = μ) →
      tk_J l D cy none M_X6_commonDivisor (7, [L0, L1, some (.int (nI p)), some (.int (nI q)), some (.int i), L5], [], μ, 0, 0) (fun v μ' => v = some (.int (nI (Nat.gcd p q))) ∧ μ' = μ) := by
    intro l D cy q p j i L0 L1 L5 hi hj hp hq0 hq2 h9
    subst hi
    rw [← pk_rem hp hq0 hq2, ← nI_1] at h9
    refine tk_run (hT_X6_commonDivisor none) [7, 34] 40 _ ?_
    refine And.intro (fun h1 => ?_) (fun h1 => ?_)
    all_goals try dsimp only [tk_c0, tk_c1, tk_c2, tk_c3, tk_c4, tk_c5, tk_c6, tk_c7, tk_c8, tk_c9, tk_c10, tk_c11, tk_c12, tk_c13] at h1
    · exact absurd h1 (nI_ge (b := 64) (by omega) (by omega))
    · refine And.intro (fun h2 => ?_) (fun h2 => ?_)
      all_goals try dsimp only [tk_c0, tk_c1, tk_c2, tk_c3, tk_c4, tk_c5, tk_c6, tk_c7, tk_c8, tk_c9, tk_c10, tk_c11, tk_c12, tk_c13] at h2
      · exact absurd h2 (nI_ne0 hq0 hq2)
      · exact And.intro h2 h9
  have stop : ∀ (l : Launch) (D : va_G) (cy : Nat → ClassId) (p j : Nat) (i : Int32) (L0 L1 L5 : Option Value), i = nI j → p < 2 ^ 31 → 0 < p →
      tk_J l D cy none M_X6_commonDivisor (7, [L0, L1, some (.int (nI p)), some (.int (nI 0)), some (.int i), L5], [], μ, 0, 0) (fun v μ' => v = some (.int (nI (Nat.gcd p 0))) ∧ μ' = μ) := by
    intro l D cy p j i L0 L1 L5 hi hp hp0
    rw [Nat.gcd_zero_right]
    refine tk_run (hT_X6_commonDivisor none) [7, 34] 40 _ ?_
    refine And.intro (fun h1 => ?_) (fun h1 => ?_)
    all_goals try dsimp only [tk_c0, tk_c1, tk_c2, tk_c3, tk_c4, tk_c5, tk_c6, tk_c7, tk_c8, tk_c9, tk_c10, tk_c11, tk_c12, tk_c13] at h1
    · exact fin l D cy p _ _ _ _ _ hp0 hp
    · refine And.intro (fun h2 => ?_) (fun h2 => ?_)
      all_goals try dsimp only [tk_c0, tk_c1, tk_c2, tk_c3, tk_c4, tk_c5, tk_c6, tk_c7, tk_c8, tk_c9, tk_c10, tk_c11, tk_c12, tk_c13] at h2
      · exact fin l D cy p _ _ _ _ _ hp0 hp
      · exact absurd rfl h2
  have eg : ∀ p q : Nat, Nat.gcd q (p % q) = Nat.gcd p q := fun p q => by
    rw [Nat.gcd_comm q (p % q), ← Nat.gcd_rec, Nat.gcd_comm]
  have loop : ∀ (l : Launch) (D : va_G) (cy : Nat → ClassId) (m q p j : Nat) (i : Int32) (L0 L1 L5 : Option Value), i = nI j → j + 2 * m ≤ 64 → q < 2 ^ m → q < 2 ^ 31 → p < 2 ^ 31 → 0 < p ∨ 0 < q →
      tk_J l D cy none M_X6_commonDivisor (7, [L0, L1, some (.int (nI p)), some (.int (nI q)), some (.int i), L5], [], μ, 0, 0) (fun v μ' => v = some (.int (nI (Nat.gcd p q))) ∧ μ' = μ) := by
    intro l D cy m
    induction m with
    | zero =>
      intro q p j i L0 L1 L5 hi hj hq hq2 hp h0
      obtain rfl : q = 0 := by omega
      exact stop l D cy p j i L0 L1 L5 hi hp (by omega)
    | succ m ih =>
      intro q p j i L0 L1 L5 hi hj hq hq2 hp h0
      by_cases hq0 : q = 0
      · subst hq0
        exact stop l D cy p j i L0 L1 L5 hi hp (by omega)
      · have hq0 : 0 < q := Nat.pos_of_ne_zero hq0
        have hlt : p % q < q := Nat.mod_lt p hq0
        refine step1 l D cy q p j i L0 L1 L5 hi (by omega) hp hq0 hq2 ?_
        rw [← eg p q]
        by_cases hr : p % q = 0
        · rw [hr]
          exact stop l D cy q (j + 1) _ _ _ _ rfl hq2 hq0
        · have hr : 0 < p % q := Nat.pos_of_ne_zero hr
          have hh := tk_half hr hq0
          have hpow : 2 ^ (m + 1) = 2 * 2 ^ m := by rw [Nat.pow_succ, Nat.mul_comm]
          refine step1 l D cy (p % q) q (j + 1) _ _ _ _ rfl (by omega) hq2 hr (by omega) ?_
          rw [← eg q (p % q)]
          exact ih (q % (p % q)) (p % q) (j + 2) _ _ _ _ rfl (by omega) (by omega) (by omega) (by omega) (Or.inl hr)
  refine tk_ct rfl rfl (Nat.le_of_ble_eq_true rfl) (fun l D cy => tk_run (hT_X6_commonDivisor none) [7] 40 _ ?_)
  exact loop l D cy 31 y x 0 _ _ _ _ rfl (by decide) hy hy hx (Or.inr hy0)
theorem k_passSomeWeak {d : Int32} {s : Int32 × Int32} {σi : Nat → Nat → Int32} {n : Nat} (hn : n ≤ 4) (ha : tk_tw a) (hE : tk_VE (tk_E σ a)) (hs : tk_VS (tk_E σ a) s) (hd : tk_VT d s) (hf : tk_Sc σ σi) (hd2 : σi 45 2 = d) (hi : (σi 45 0, σi 45 1) = s) :
    tk_Ct M_X6_passSomeWeak [.ref 1, .ref 45, .int (nI n), .int w] (σi, tk_rho a b, τ, 62) (fun v μ' => v = none ∧ ∃ σ', μ' = (σ', tk_rho a b, τ, 62) ∧ tk_Sc σ σ' ∧ (σ' 45 0, σ' 45 1) = tk_iW (tk_E σ a) (σ 16 0) d w n s) := by
  have loop : ∀ (l : Launch) (D : va_G) (cy : Nat → ClassId) (m j : Nat) (i : Int32) (L5 : Option Value) (σi : Nat → Nat → Int32), i = nI j → j + m = n → tk_Sc σ σi → σi 45 2 = d → (σi 45 0, σi 45 1) = tk_iW (tk_E σ a) (σ 16 0) d w j s →
      tk_J l D cy none M_X6_passSomeWeak (3, [some (.ref 1), some (.ref 45), some (.int (nI n)), some (.int w), some (.int i), L5], [], (σi, tk_rho a b, τ, 62), 0, 0) (fun v μ' => v = none ∧ ∃ σ', μ' = (σ', tk_rho a b, τ, 62) ∧ tk_Sc σ σ' ∧ (σ' 45 0, σ' 45 1) = tk_iW (tk_E σ a) (σ 16 0) d w n s) := by
    intro l D cy m
    induction m with
    | zero =>
      intro j i L5 σi hi hj hf hd2 hv
      subst hi
      obtain rfl : j = n := by omega
      refine tk_run (hT_X6_passSomeWeak none) [3] 60 _ ?_
      refine And.intro (fun h1 => ?_) (fun h1 => ?_)
      all_goals try dsimp only [tk_c0, tk_c1, tk_c2, tk_c3, tk_c4, tk_c5, tk_c6, tk_c7, tk_c8, tk_c9, tk_c10, tk_c11, tk_c12, tk_c13] at h1
      · exact And.intro rfl ⟨σi, rfl, hf, hv⟩
      · exact absurd (Int32.le_refl _) h1
    | succ m ih =>
      intro j i L5 σi hi hj hf hd2 hv
      subst hi
      have hV := tk_iW_V (t := σ 16 0) (d := d) (wk := w) hE hs j
      have hT := tk_iW_T (E := tk_E σ a) (t := σ 16 0) (wk := w) hd j
      rw [← hv] at hV hT
      have hF := hf.E ha
      have e0 : σi 16 0 = σ 16 0 := hf _ _ (by decide) (by decide)
      refine tk_run (hT_X6_passSomeWeak none) [3] 60 _ ?_
      refine And.intro (fun h1 => ?_) (fun h1 => ?_)
      all_goals try dsimp only [tk_c0, tk_c1, tk_c2, tk_c3, tk_c4, tk_c5, tk_c6, tk_c7, tk_c8, tk_c9, tk_c10, tk_c11, tk_c12, tk_c13] at h1
      · exact absurd h1 (nI_ge (by omega) (by omega))
      · refine And.intro (fun h2 => ?_) (fun h2 => ?_)
        all_goals try dsimp only [tk_c0, tk_c1, tk_c2, tk_c3, tk_c4, tk_c5, tk_c6, tk_c7, tk_c8, tk_c9, tk_c10, tk_c11, tk_c12, tk_c13] at h2
        · refine tk_ift (tk_twok ha) ?_
          refine tk_cc (k_levelOf ha (by have := hE.1; rw [← hF] at this; exact this)) (fun v9 μ9 h9 => ?_)
          obtain ⟨rfl, rfl⟩ := h9
          refine tk_cc (k_passA (p := 45) rfl ha (by rw [hF]; exact hE) (by rw [hF]; exact hV) (by rw [hd2]; exact hT)) (fun v9 μ9 h9 => ?_)
          obtain ⟨rfl, rfl⟩ := h9
          refine ih (j + 1) _ _ _ (nI_1 j) (by omega) (tk_stp hf (Or.inl rfl) _) ((tk_std _).trans hd2) ((tk_stv _).trans ?_)
          show tk_sT (tk_E σi a) (tk_lv' (tk_E σi a) (σi 16 0 + nI j) - 3) (σi 45 2) (σi 45 0, σi 45 1) = _
          rw [hF, e0, hv, hd2, tk_iW, tk_wk, if_pos h2]
        · refine tk_ift (tk_twok ha) ?_
          refine tk_cc (k_levelOf ha (by have := hE.1; rw [← hF] at this; exact this)) (fun v9 μ9 h9 => ?_)
          obtain ⟨rfl, rfl⟩ := h9
          refine tk_cc (k_passA (p := 45) rfl ha (by rw [hF]; exact hE) (by rw [hF]; exact hV) (by rw [hd2]; exact hT)) (fun v9 μ9 h9 => ?_)
          obtain ⟨rfl, rfl⟩ := h9
          refine ih (j + 1) _ _ _ (nI_1 j) (by omega) (tk_stp hf (Or.inl rfl) _) ((tk_std _).trans hd2) ((tk_stv _).trans ?_)
          show tk_sT (tk_E σi a) (tk_lv' (tk_E σi a) (σi 16 0 + nI j) - 0) (σi 45 2) (σi 45 0, σi 45 1) = _
          rw [hF, e0, hv, hd2, tk_iW, tk_wk, if_neg h2]
  refine tk_ct rfl rfl (Nat.le_of_ble_eq_true rfl) (fun l D cy => tk_run (hT_X6_passSomeWeak none) [3] 60 _ ?_)
  exact loop l D cy n 0 _ _ _ rfl (by omega) hf hd2 hi
end
