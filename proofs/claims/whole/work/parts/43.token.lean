/-! the text, token by token -/
def tk_skip (c : Nat → Prop) [DecidablePred c] : Nat → Nat → Nat
  | 0, p => p
  | d + 1, p => if c p then tk_skip c d (p + 1) else p
theorem tk_skip_le (c : Nat → Prop) [DecidablePred c] : ∀ d p, p ≤ tk_skip c d p ∧ tk_skip c d p ≤ p + d
  | 0, p => ⟨Nat.le_refl _, Nat.le_refl _⟩
  | d + 1, p => by
    rw [tk_skip]
    have := tk_skip_le c d (p + 1)
    split <;> omega
theorem tk_skip_in (c : Nat → Prop) [DecidablePred c] : ∀ d p i, p ≤ i → i < tk_skip c d p → c i
  | 0, p, i, h1, h2 => by rw [tk_skip] at h2; omega
  | d + 1, p, i, h1, h2 => by
    rw [tk_skip] at h2
    split at h2
    · rename_i hc
      by_cases hi : i = p
      · rw [hi]; exact hc
      · exact tk_skip_in c d (p + 1) i (by omega) h2
    · omega
theorem tk_skip_out (c : Nat → Prop) [DecidablePred c] : ∀ d p, tk_skip c d p < p + d → ¬ c (tk_skip c d p)
  | 0, p, h => by rw [tk_skip] at h; omega
  | d + 1, p, h => by
    rw [tk_skip] at h ⊢
    split at h
    · rename_i hc
      rw [if_pos hc]
      exact tk_skip_out c d (p + 1) (by omega)
    · rename_i hc
      rw [if_neg hc]
      exact hc
def tk_dg (c : Int32) : Bool := decide (48 ≤ c ∧ c ≤ 57)
theorem tk_dgI {c : Int32} : tk_dg c = true ↔ (48 ≤ c ∧ c ≤ 57) := decide_eq_true_iff
/-- where the token from p on begins -/
def tk_q (f : Nat → Int32) (L p : Nat) : Nat := tk_skip (fun i => f i = 32) (L - p) p
/-- where digits from q on end -/
def tk_r (f : Nat → Int32) (L q : Nat) : Nat := tk_skip (fun i => tk_dg (f i)) (L - q) q
/-- the number of n digits from q on -/
def tk_nb (f : Nat → Int32) (q : Nat) : Nat → Int32
  | 0 => 0
  | n + 1 => 10 * tk_nb f q n + f (q + n) - 48
def tk_fit (f : Nat → Int32) (L q : Nat) : Bool := decide (tk_r f L q - q = 1 ∨ (tk_r f L q - q = 2 ∧ 9 < tk_nb f q 2))
theorem tk_fitI {f : Nat → Int32} {L q : Nat} : tk_fit f L q = true ↔ (tk_r f L q - q = 1 ∨ (tk_r f L q - q = 2 ∧ 9 < tk_nb f q 2)) := decide_eq_true_iff
def tk_vl (f : Nat → Int32) (L q : Nat) : Int32 := if tk_fit f L q then tk_nb f q (tk_r f L q - q) else -1
/-- where the next token is looked for -/
def tk_nx (f : Nat → Int32) (L p : Nat) : Nat := if L ≤ tk_q f L p then tk_q f L p else if tk_dg (f (tk_q f L p)) then tk_r f L (tk_q f L p) else tk_q f L p + 1
/-- the token as the class has it -/
def tk_ck (f : Nat → Int32) (L p : Nat) : Int32 := if L ≤ tk_q f L p then -1 else if tk_dg (f (tk_q f L p)) then -2 else f (tk_q f L p)
theorem tk_q_le {f : Nat → Int32} {L p : Nat} (h : p ≤ L) : p ≤ tk_q f L p ∧ tk_q f L p ≤ L := by
  have := tk_skip_le (fun i => f i = 32) (L - p) p
  unfold tk_q
  omega
theorem tk_r_le {f : Nat → Int32} {L q : Nat} (h : q ≤ L) : q ≤ tk_r f L q ∧ tk_r f L q ≤ L := by
  have := tk_skip_le (fun i => tk_dg (f i)) (L - q) q
  unfold tk_r
  omega
theorem tk_nx_le {f : Nat → Int32} {L p : Nat} (h : p ≤ L) : p ≤ tk_nx f L p ∧ tk_nx f L p ≤ L := by
  have h1 := tk_q_le (f := f) h
  have h2 := tk_r_le (f := f) h1.2
  unfold tk_nx
  split
  · omega
  · split <;> omega
section
variable {t k u w : Int32} {σ : Nat → Nat → Int32} {a b : Nat} {τ : Nat → Nat → Int64}
theorem k_readDigits {L q : Nat} (hL : L ≤ 150) (e1 : σ 2 1 = nI L) (hq : q ≤ L) (e2 : σ 2 2 = nI q) :
    tk_Fn M_X3_readDigits [.ref 2] (σ, tk_rho a b, τ, 62) (some (.int (tk_vl (σ 3) L q))) (tk_up σ 2 2 (nI (tk_r (σ 3) L q)), tk_rho a b, τ, 62) := by
  have loop : ∀ (l : Launch) (D : va_G) (cy : Nat → ClassId) (n j : Nat) (c x : Int32) (L3 L4 : Option Value), x = nI (q + j) → q + j + n = L → c = tk_nb (σ 3) q j → tk_r (σ 3) L q = tk_skip (fun i => tk_dg (σ 3 i)) n (q + j) →
      tk_J l D cy none M_X3_readDigits (7, [some (.ref 2), some (.int (nI q)), some (.int c), L3, L4], [], (tk_up σ 2 2 x, tk_rho a b, τ, 62), 0, 0) (fun v μ' => v = some (.int (tk_vl (σ 3) L q)) ∧ μ' = (tk_up σ 2 2 (nI (tk_r (σ 3) L q)), tk_rho a b, τ, 62)) := by
    have fin : ∀ (l : Launch) (D : va_G) (cy : Nat → ClassId) (j : Nat) (c x : Int32) (L3 L4 : Option Value), x = nI (q + j) → q + j ≤ L → c = tk_nb (σ 3) q j → tk_r (σ 3) L q = q + j →
        tk_J l D cy none M_X3_readDigits (64, [some (.ref 2), some (.int (nI q)), some (.int c), L3, L4], [], (tk_up σ 2 2 x, tk_rho a b, τ, 62), 0, 0) (fun v μ' => v = some (.int (tk_vl (σ 3) L q)) ∧ μ' = (tk_up σ 2 2 (nI (tk_r (σ 3) L q)), tk_rho a b, τ, 62)) := by
      intro l D cy j c x L3 L4 hx hj hc hr
      subst hx
      have ed : tk_up σ 2 2 (nI (q + j)) 2 2 - nI q = nI j := by rw [tk_up_at, pk_sub (by omega), show q + j - q = j by omega]
      rw [hr]
      have hv : tk_vl (σ 3) L q = if j = 1 ∨ (j = 2 ∧ 9 < tk_nb (σ 3) q 2) then tk_nb (σ 3) q j else -1 := by
        unfold tk_vl
        simp only [tk_fitI]
        rw [hr, show q + j - q = j by omega]
      rw [hv]
      refine tk_run (hT_X3_readDigits none) [] 80 _ ?_
      refine And.intro (fun h1 => ?_) (fun h1 => ?_)
      all_goals try dsimp only [tk_c0, tk_c1, tk_c2, tk_c3, tk_c4, tk_c5, tk_c6, tk_c7, tk_c8, tk_c9, tk_c10, tk_c11, tk_c12, tk_c13] at h1
      all_goals rw [ed] at h1
      · have hj1 : j = 1 := tk_inj (b := 1) (by omega) (by omega) h1
        refine And.intro (fun z => absurd z (by decide)) (fun _ => ?_)
        refine And.intro ?_ rfl
        rw [if_pos (Or.inl hj1), hc]
      · have hj1 : j ≠ 1 := fun h => h1 (by rw [h]; rfl)
        refine And.intro (fun h2 => ?_) (fun h2 => ?_)
        all_goals try dsimp only [tk_c0, tk_c1, tk_c2, tk_c3, tk_c4, tk_c5, tk_c6, tk_c7, tk_c8, tk_c9, tk_c10, tk_c11, tk_c12, tk_c13] at h2
        all_goals rw [ed] at h2
        · have hj2 : j = 2 := tk_inj (b := 2) (by omega) (by omega) h2
          refine And.intro (fun h3 => ?_) (fun h3 => ?_)
          all_goals try dsimp only [tk_c0, tk_c1, tk_c2, tk_c3, tk_c4, tk_c5, tk_c6, tk_c7, tk_c8, tk_c9, tk_c10, tk_c11, tk_c12, tk_c13] at h3
          · refine And.intro (fun _ => ?_) (fun z => absurd rfl z)
            refine And.intro ?_ rfl
            rw [if_neg]
            rintro (h | h)
            · exact hj1 h
            · rw [hc, hj2] at h3
              exact Int32.not_le.mpr h.2 h3
          · refine And.intro (fun z => absurd z (by decide)) (fun _ => ?_)
            refine And.intro ?_ rfl
            rw [if_pos (Or.inr ⟨hj2, by rw [hc, hj2] at h3; exact Int32.not_le.mp h3⟩), hc]
        · refine And.intro (fun _ => ?_) (fun z => absurd rfl z)
          refine And.intro ?_ rfl
          rw [if_neg]
          rintro (h | h)
          · exact hj1 h
          · exact h2 (by rw [h.1]; rfl)
    intro l D cy n
    induction n with
    | zero =>
      intro j c x L3 L4 hx hj hc hr
      subst hx
      have h22 : tk_up σ 2 2 (nI (q + j)) 2 2 = nI (q + j) := tk_up_at _ _ _ _
      have h21 : tk_up σ 2 2 (nI (q + j)) 2 1 = nI L := (tk_up_k _ _ _ (by decide)).trans e1
      refine tk_run (hT_X3_readDigits none) [7, 64] 60 _ ?_
      refine And.intro (fun h1 => ?_) (fun h1 => ?_)
      all_goals try dsimp only [tk_c0, tk_c1, tk_c2, tk_c3, tk_c4, tk_c5, tk_c6, tk_c7, tk_c8, tk_c9, tk_c10, tk_c11, tk_c12, tk_c13] at h1
      · exact fin l D cy j c _ _ _ rfl (by omega) hc hr
      · rw [h22, h21] at h1
        exact absurd (nI_le (by omega) (by omega)) h1
    | succ n ih =>
      intro j c x L3 L4 hx hj hc hr
      subst hx
      have h22 : tk_up σ 2 2 (nI (q + j)) 2 2 = nI (q + j) := tk_up_at _ _ _ _
      have h21 : tk_up σ 2 2 (nI (q + j)) 2 1 = nI L := (tk_up_k _ _ _ (by decide)).trans e1
      have hch : tk_up σ 2 2 (nI (q + j)) 3 (tk_up σ 2 2 (nI (q + j)) 2 2).toNatClampNeg = σ 3 (q + j) := by rw [h22, nI_clamp (by omega), tk_up_p _ _ _ (by decide)]
      refine tk_run (hT_X3_readDigits none) [7, 64] 60 _ ?_
      refine And.intro (fun h1 => ?_) (fun h1 => ?_)
      all_goals try dsimp only [tk_c0, tk_c1, tk_c2, tk_c3, tk_c4, tk_c5, tk_c6, tk_c7, tk_c8, tk_c9, tk_c10, tk_c11, tk_c12, tk_c13] at h1
      · rw [h22, h21] at h1
        exact absurd h1 (nI_ge (by omega) (by omega))
      · refine tk_ift (by rw [h22]; exact tk_in_nI (n := 150) (by omega) (by decide)) ?_
        refine tk_cc (k_isDigit _ _) (fun v9 μ9 h9 => ?_)
        obtain ⟨rfl, rfl⟩ := h9
        refine And.intro (fun h2 => ?_) (fun h2 => ?_)
        all_goals try dsimp only [tk_c0, tk_c1, tk_c2, tk_c3, tk_c4, tk_c5, tk_c6, tk_c7, tk_c8, tk_c9, tk_c10, tk_c11, tk_c12, tk_c13] at h2
        all_goals rw [hch] at h2
        · refine fin l D cy j c _ _ _ rfl (by omega) hc ?_
          rw [hr, tk_skip, if_neg (fun h => tk_b0.mp h2 (tk_dgI.mp h))]
        · have h2 : tk_dg (σ 3 (q + j)) = true := tk_dgI.mpr (Decidable.not_not.mp (fun h => h2 (tk_b0.mpr h)))
          refine tk_ift (by rw [h22]; exact tk_in_nI (n := 150) (by omega) (by decide)) ?_
          have h9 := ih (j + 1) (10 * c + tk_up σ 2 2 (nI (q + j)) 3 (tk_up σ 2 2 (nI (q + j)) 2 2).toNatClampNeg - 48) (tk_up σ 2 2 (nI (q + j)) 2 2 + 1) L3 L4 (by rw [h22]; exact nI_1 _) (by omega) (by rw [hch, hc]; rfl) (by rw [hr, tk_skip, if_pos h2]; rfl)
          rw [← tk_up_tw σ 2 2 (nI (q + j)) (tk_up σ 2 2 (nI (q + j)) 2 2 + 1)] at h9
          exact h9
  have hid : tk_up σ 2 2 (nI q) = σ := by rw [← e2]; exact tk_up_id σ 2 2
  refine tk_ct rfl rfl (Nat.le_of_ble_eq_true rfl) (fun l D cy => tk_run (hT_X3_readDigits none) [7] 60 _ ?_)
  have h9 := loop l D cy (L - q) 0 _ _ none none rfl (by omega) rfl rfl
  rw [show nI (q + 0) = nI q from rfl, hid, ← e2] at h9
  exact h9
end
