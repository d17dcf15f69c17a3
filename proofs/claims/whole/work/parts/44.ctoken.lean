/-! tokens, numbers, ends of items, of the class -/
/-- behind a token that was looked for from p on -/
def tk_Tk (σ σ' : Nat → Nat → Int32) (L p : Nat) : Prop := σ' 2 2 = nI (tk_nx (σ 3) L p) ∧ σ' 2 4 = nI (tk_q (σ 3) L p) ∧ σ' 2 3 = tk_ck (σ 3) L p ∧ (tk_q (σ 3) L p < L → tk_dg (σ 3 (tk_q (σ 3) L p)) = true → σ' 2 5 = tk_vl (σ 3) L (tk_q (σ 3) L p)) ∧ ∀ x y, ¬ (x = 2 ∧ (y = 2 ∨ y = 3 ∨ y = 4 ∨ y = 5)) → σ' x y = σ x y
/-- the number that is looked for from p on, within bounds -/
def tk_num (f : Nat → Int32) (L : Nat) (lo hi : Int32) (p : Nat) : Bool := decide (tk_q f L p < L ∧ tk_dg (f (tk_q f L p)) = true ∧ tk_fit f L (tk_q f L p) = true ∧ lo ≤ tk_vl f L (tk_q f L p) ∧ tk_vl f L (tk_q f L p) ≤ hi)
theorem tk_numI {f : Nat → Int32} {L : Nat} {lo hi : Int32} {p : Nat} : tk_num f L lo hi p = true ↔ (tk_q f L p < L ∧ tk_dg (f (tk_q f L p)) = true ∧ tk_fit f L (tk_q f L p) = true ∧ lo ≤ tk_vl f L (tk_q f L p) ∧ tk_vl f L (tk_q f L p) ≤ hi) := decide_eq_true_iff
/-- whether the letter that is looked for from p on is c -/
def tk_ltr (f : Nat → Int32) (L : Nat) (c : Int32) (p : Nat) : Bool := decide (tk_q f L p < L ∧ f (tk_q f L p) = c)
theorem tk_ltrI {f : Nat → Int32} {L : Nat} {c : Int32} {p : Nat} : tk_ltr f L c p = true ↔ (tk_q f L p < L ∧ f (tk_q f L p) = c) := decide_eq_true_iff
/-- letters as they can be -/
def tk_TX (f : Nat → Int32) (L : Nat) : Prop := ∀ i, i < L → 0 ≤ f i ∧ f i ≤ 255
section
variable {t k u w : Int32} {σ : Nat → Nat → Int32} {a b : Nat} {τ : Nat → Nat → Int64}
theorem k_readToken {L p : Nat} (hL : L ≤ 150) (e1 : σ 2 1 = nI L) (hp : p ≤ L) (e2 : σ 2 2 = nI p) :
    tk_Ct M_X3_readToken [.ref 2] (σ, tk_rho a b, τ, 62) (fun v μ' => v = none ∧ ∃ σ', μ' = (σ', tk_rho a b, τ, 62) ∧ tk_Tk σ σ' L p) := by
  have fin : ∀ (l : Launch) (D : va_G) (cy : Nat → ClassId) (q : Nat) (σi : Nat → Nat → Int32), σi 2 2 = nI q → q ≤ L → tk_q (σ 3) L p = q → (∀ x y, ¬ (x = 2 ∧ y = 2) → σi x y = σ x y) →
      tk_J l D cy none M_X3_readToken (38, [some (.ref 2)], [], (σi, tk_rho a b, τ, 62), 0, 0) (fun v μ' => v = none ∧ ∃ σ', μ' = (σ', tk_rho a b, τ, 62) ∧ tk_Tk σ σ' L p) := by
    intro l D cy q σi h22 hq eq hf
    have h21 : σi 2 1 = nI L := (hf _ _ (by decide)).trans e1
    have hf3 : σi 3 = σ 3 := funext fun y => hf 3 y (by intro h; exact absurd h.1 (by decide))
    have hu22 : tk_up σi 2 4 (σi 2 2) 2 2 = nI q := (tk_up_k _ _ _ (by decide)).trans h22
    have hu21 : tk_up σi 2 4 (σi 2 2) 2 1 = nI L := (tk_up_k _ _ _ (by decide)).trans h21
    have hu3 : ∀ y, tk_up σi 2 4 (σi 2 2) 3 y = σ 3 y := fun y => by rw [tk_up_p _ _ _ (by decide), hf3]
    refine tk_run (hT_X3_readToken none) [] 80 _ ?_
    refine And.intro (fun h1 => ?_) (fun h1 => ?_)
    all_goals try dsimp only [tk_c0, tk_c1, tk_c2, tk_c3, tk_c4, tk_c5, tk_c6, tk_c7, tk_c8, tk_c9, tk_c10, tk_c11, tk_c12, tk_c13] at h1
    all_goals rw [hu22, hu21] at h1
    · have hlt : q < L := (nI_ltI (by omega) (by omega)).mp h1
      refine tk_ift (by rw [hu22]; exact tk_in_nI (n := 150) (by omega) (by decide)) ?_
      refine tk_cc (k_isDigit _ _) (fun v9 μ9 h9 => ?_)
      obtain ⟨rfl, rfl⟩ := h9
      refine And.intro (fun h2 => ?_) (fun h2 => ?_)
      all_goals try dsimp only [tk_c0, tk_c1, tk_c2, tk_c3, tk_c4, tk_c5, tk_c6, tk_c7, tk_c8, tk_c9, tk_c10, tk_c11, tk_c12, tk_c13] at h2
      all_goals rw [hu22, nI_clamp (by omega), hu3] at h2
      · have h2 : ¬ tk_dg (σ 3 q) = true := fun h => tk_b0.mp h2 (tk_dgI.mp h)
        refine tk_ift (by rw [hu22]; exact tk_in_nI (n := 150) (by omega) (by decide)) ?_
        refine And.intro rfl ⟨_, rfl, ?_, ?_, ?_, fun _ h => ?_, fun x y hx => ?_⟩
        · rw [tk_up_at, tk_up_k _ _ _ (by decide), hu22, tk_nx, eq, if_neg (by omega), if_neg h2]
          exact nI_1 q
        · rw [tk_up_k _ _ _ (by decide), tk_up_k _ _ _ (by decide), tk_up_at, h22, eq]
        · rw [tk_up_k _ _ _ (by decide), tk_up_at, tk_ck, eq, if_neg (by omega), if_neg h2, hu22, nI_clamp (by omega), hu3]
        · rw [eq] at h
          exact absurd h h2
        · rw [tk_up, if_neg (fun h => hx ⟨h.1, by omega⟩), tk_up, if_neg (fun h => hx ⟨h.1, by omega⟩), tk_up, if_neg (fun h => hx ⟨h.1, by omega⟩)]
          exact hf x y (fun h => hx ⟨h.1, by omega⟩)
      · have h2 : tk_dg (σ 3 q) = true := tk_dgI.mpr (Decidable.not_not.mp (fun h => h2 (tk_b0.mpr h)))
        have hu3f : (tk_up (tk_up σi 2 4 (σi 2 2)) 2 3 (-2)) 3 = σ 3 := funext fun y => by rw [tk_up_p _ _ _ (by decide), hu3]
        have hrd := k_readDigits (σ := tk_up (tk_up σi 2 4 (σi 2 2)) 2 3 (-2)) (a := a) (b := b) (τ := τ) hL ((tk_up_k _ _ _ (by decide)).trans hu21) hq ((tk_up_k _ _ _ (by decide)).trans hu22)
        rw [hu3f] at hrd
        refine tk_cc (hrd) (fun v9 μ9 h9 => ?_)
        obtain ⟨rfl, rfl⟩ := h9
        refine And.intro rfl ⟨_, rfl, ?_, ?_, ?_, fun _ h => ?_, fun x y hx => ?_⟩
        · rw [tk_up_k _ _ _ (by decide), tk_up_at, tk_nx, eq, if_neg (by omega), if_pos h2]
        · rw [tk_up_k _ _ _ (by decide), tk_up_k _ _ _ (by decide), tk_up_k _ _ _ (by decide), tk_up_at, h22, eq]
        · rw [tk_up_k _ _ _ (by decide), tk_up_k _ _ _ (by decide), tk_up_at, tk_ck, eq, if_neg (by omega), if_pos h2]
        · rw [tk_up_at, eq]
        · rw [tk_up, if_neg (fun h => hx ⟨h.1, by omega⟩), tk_up, if_neg (fun h => hx ⟨h.1, by omega⟩), tk_up, if_neg (fun h => hx ⟨h.1, by omega⟩), tk_up, if_neg (fun h => hx ⟨h.1, by omega⟩)]
          exact hf x y (fun h => hx ⟨h.1, by omega⟩)
    · have hge : L ≤ q := Nat.le_of_not_lt (fun h => h1 (nI_lt h (by omega)))
      refine And.intro rfl ⟨_, rfl, ?_, ?_, ?_, fun h => ?_, fun x y hx => ?_⟩
      · rw [tk_up_k _ _ _ (by decide), hu22, tk_nx, eq, if_pos hge]
      · rw [tk_up_k _ _ _ (by decide), tk_up_at, h22, eq]
      · rw [tk_up_at, tk_ck, eq, if_pos hge]
      · omega
      · rw [tk_up, if_neg (fun h => hx ⟨h.1, by omega⟩), tk_up, if_neg (fun h => hx ⟨h.1, by omega⟩)]
        exact hf x y (fun h => hx ⟨h.1, by omega⟩)
  have loop : ∀ (l : Launch) (D : va_G) (cy : Nat → ClassId) (n j : Nat) (σi : Nat → Nat → Int32), σi 2 2 = nI j → j + n = L → tk_q (σ 3) L p = tk_skip (fun i => σ 3 i = 32) n j → (∀ x y, ¬ (x = 2 ∧ y = 2) → σi x y = σ x y) →
      tk_J l D cy none M_X3_readToken (0, [some (.ref 2)], [], (σi, tk_rho a b, τ, 62), 0, 0) (fun v μ' => v = none ∧ ∃ σ', μ' = (σ', tk_rho a b, τ, 62) ∧ tk_Tk σ σ' L p) := by
    intro l D cy n
    induction n with
    | zero =>
      intro j σi h22 hj eq hf
      have h21 : σi 2 1 = nI L := (hf _ _ (by decide)).trans e1
      refine tk_run (hT_X3_readToken none) [0, 38] 80 _ ?_
      refine And.intro (fun h1 => ?_) (fun h1 => ?_)
      all_goals try dsimp only [tk_c0, tk_c1, tk_c2, tk_c3, tk_c4, tk_c5, tk_c6, tk_c7, tk_c8, tk_c9, tk_c10, tk_c11, tk_c12, tk_c13] at h1
      · exact fin l D cy j σi h22 (by omega) eq hf
      · rw [h22, h21] at h1
        exact absurd (nI_le (by omega) (by omega)) h1
    | succ n ih =>
      intro j σi h22 hj eq hf
      have h21 : σi 2 1 = nI L := (hf _ _ (by decide)).trans e1
      have hch : σi 3 (σi 2 2).toNatClampNeg = σ 3 j := by rw [h22, nI_clamp (by omega), hf _ _ (by intro h; exact absurd h.1 (by decide))]
      refine tk_run (hT_X3_readToken none) [0, 38] 80 _ ?_
      refine And.intro (fun h1 => ?_) (fun h1 => ?_)
      all_goals try dsimp only [tk_c0, tk_c1, tk_c2, tk_c3, tk_c4, tk_c5, tk_c6, tk_c7, tk_c8, tk_c9, tk_c10, tk_c11, tk_c12, tk_c13] at h1
      · rw [h22, h21] at h1
        exact absurd h1 (nI_ge (by omega) (by omega))
      · refine tk_ift (by rw [h22]; exact tk_in_nI (n := 150) (by omega) (by decide)) ?_
        refine And.intro (fun h2 => ?_) (fun h2 => ?_)
        all_goals try dsimp only [tk_c0, tk_c1, tk_c2, tk_c3, tk_c4, tk_c5, tk_c6, tk_c7, tk_c8, tk_c9, tk_c10, tk_c11, tk_c12, tk_c13] at h2
        all_goals rw [hch] at h2
        · refine ih (j + 1) _ ?_ (by omega) ?_ (fun x y hx => ?_)
          · rw [tk_up_at, h22]
            exact nI_1 j
          · rw [eq, tk_skip, if_pos h2]
          · rw [tk_up, if_neg hx]
            exact hf x y hx
        · refine fin l D cy j σi h22 (by omega) ?_ hf
          rw [eq, tk_skip, if_neg h2]
  refine tk_ct rfl rfl (Nat.le_of_ble_eq_true rfl) (fun l D cy => ?_)
  exact loop l D cy (L - p) p σ e2 (by omega) rfl (fun _ _ _ => rfl)
theorem k_readNumber {L p : Nat} {lo hi : Int32} (hX : tk_TX (σ 3) L) (hlo : 0 ≤ lo) (hL : L ≤ 150) (e1 : σ 2 1 = nI L) (hp : p ≤ L) (e2 : σ 2 2 = nI p) :
    tk_Ct M_X3_readNumber [.ref 2, .int lo, .int hi] (σ, tk_rho a b, τ, 62) (fun v μ' => v = some (.int (if tk_num (σ 3) L lo hi p then 1 else 0)) ∧ ∃ σ', μ' = (σ', tk_rho a b, τ, 62) ∧ tk_Tk σ σ' L p) := by
  refine tk_ct rfl rfl (Nat.le_of_ble_eq_true rfl) (fun l D cy => tk_run (hT_X3_readNumber none) [] 60 _ ?_)
  refine tk_cc (k_readToken hL e1 hp e2) (fun v9 μ9 h9 => ?_)
  obtain ⟨rfl, σ', rfl, hT⟩ := h9
  have hc := hT.2.2.1
  refine And.intro (fun h1 => ?_) (fun h1 => ?_)
  all_goals try dsimp only [tk_c0, tk_c1, tk_c2, tk_c3, tk_c4, tk_c5, tk_c6, tk_c7, tk_c8, tk_c9, tk_c10, tk_c11, tk_c12, tk_c13] at h1
  · rw [hc] at h1
    have hd : tk_q (σ 3) L p < L ∧ tk_dg (σ 3 (tk_q (σ 3) L p)) = true := by
      unfold tk_ck at h1
      split at h1
      · exact absurd h1 (by decide)
      · rename_i hq
        split at h1
        · rename_i hd
          exact ⟨by omega, hd⟩
        · have := (hX _ (Nat.lt_of_not_le hq)).1
          rw [h1] at this
          exact absurd this (by decide)
    have hv := hT.2.2.2.1 hd.1 hd.2
    refine tk_cc (k_isWithin _ _ _ _) (fun v9 μ9 h9 => ?_)
    obtain ⟨rfl, rfl⟩ := h9
    refine And.intro (fun h2 => ?_) (fun h2 => ?_)
    all_goals try dsimp only [tk_c0, tk_c1, tk_c2, tk_c3, tk_c4, tk_c5, tk_c6, tk_c7, tk_c8, tk_c9, tk_c10, tk_c11, tk_c12, tk_c13] at h2
    · refine And.intro (Or.inl rfl) (And.intro ?_ ⟨σ', rfl, hT⟩)
      rw [hv] at h2
      rw [if_neg (fun h => tk_b0.mp h2 (tk_numI.mp h).2.2.2)]
    · have h2 := Decidable.not_not.mp (fun h => h2 (tk_b0.mpr h))
      rw [hv] at h2
      refine And.intro (Or.inr rfl) (And.intro ?_ ⟨σ', rfl, hT⟩)
      have hfit : tk_fit (σ 3) L (tk_q (σ 3) L p) = true := by
        cases hf : tk_fit (σ 3) L (tk_q (σ 3) L p) with
        | true => rfl
        | false =>
          have := Int32.le_trans hlo h2.1
          rw [tk_vl, hf, if_neg (by decide)] at this
          exact absurd this (by decide)
      rw [if_pos (tk_numI.mpr ⟨hd.1, hd.2, hfit, h2⟩)]
  · refine And.intro (Or.inl rfl) (And.intro ?_ ⟨σ', rfl, hT⟩)
    rw [hc] at h1
    rw [if_neg]
    intro h
    have h := tk_numI.mp h
    refine h1 ?_
    rw [tk_ck, if_neg (by omega), if_pos h.2.1]
theorem k_readItemEnd {L p : Nat} (hL : L ≤ 150) (e1 : σ 2 1 = nI L) (hp : p ≤ L) (e2 : σ 2 2 = nI p) :
    tk_Ct M_X3_readItemEnd [.ref 2] (σ, tk_rho a b, τ, 62) (fun v μ' => v = some (.int (if tk_ltr (σ 3) L 59 p then 1 else 0)) ∧ ∃ σ', μ' = (σ', tk_rho a b, τ, 62) ∧ tk_Tk σ σ' L p) := by
  refine tk_ct rfl rfl (Nat.le_of_ble_eq_true rfl) (fun l D cy => tk_run (hT_X3_readItemEnd none) [] 60 _ ?_)
  refine tk_cc (k_readToken hL e1 hp e2) (fun v9 μ9 h9 => ?_)
  obtain ⟨rfl, σ', rfl, hT⟩ := h9
  have hc := hT.2.2.1
  have hiff : tk_ck (σ 3) L p = 59 ↔ tk_ltr (σ 3) L 59 p = true := by
    rw [tk_ltrI]
    unfold tk_ck
    split
    · exact ⟨fun h => absurd h (by decide), fun h => by omega⟩
    · split
      · rename_i hd
        refine ⟨fun h => absurd h (by decide), fun h => ?_⟩
        rw [h.2] at hd
        exact absurd hd (by decide)
      · exact ⟨fun h => ⟨by omega, h⟩, fun h => h.2⟩
  refine And.intro (fun h1 => ?_) (fun h1 => ?_)
  all_goals try dsimp only [tk_c0, tk_c1, tk_c2, tk_c3, tk_c4, tk_c5, tk_c6, tk_c7, tk_c8, tk_c9, tk_c10, tk_c11, tk_c12, tk_c13] at h1
  · rw [hc] at h1
    refine And.intro (Or.inr rfl) (And.intro ?_ ⟨σ', rfl, hT⟩)
    rw [if_pos (hiff.mp h1)]
  · rw [hc] at h1
    refine And.intro (Or.inl rfl) (And.intro ?_ ⟨σ', rfl, hT⟩)
    rw [if_neg (fun h => h1 (hiff.mpr h))]
end
