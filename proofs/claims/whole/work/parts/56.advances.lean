/-! advances, of the reference -/
/-- the token as the reference has it -/
def tk_mk (f : Nat → Int32) (L p : Nat) : Int32 := if L ≤ tk_q f L p then 0 else if tk_dg (f (tk_q f L p)) then (if tk_fit f L (tk_q f L p) then 2 else 4) else if f (tk_q f L p) = 59 then 3 else if f (tk_q f L p) = 109 ∨ f (tk_q f L p) = 107 ∨ f (tk_q f L p) = 100 ∨ f (tk_q f L p) = 116 then 1 else 4
/-- the next token, from p on, is looked at -/
def tk_Ad (f : Nat → Int32) (σ : Nat → Nat → Int32) (L p : Nat) : Prop := σ 47 4 = nI (tk_nx f L p) ∧ σ 47 6 = nI (tk_q f L p) ∧ σ 47 5 = tk_mk f L p ∧ (tk_q f L p < L → tk_dg (f (tk_q f L p)) = true → tk_fit f L (tk_q f L p) = true → σ 47 7 = tk_vl f L (tk_q f L p)) ∧ (tk_q f L p < L → ¬ tk_dg (f (tk_q f L p)) = true → σ 47 7 = f (tk_q f L p))
def tk_fA (σ σ' : Nat → Nat → Int32) : Prop := ∀ x y, ¬ (x = 47 ∧ 4 ≤ y ∧ y ≤ 7) → σ' x y = σ x y
section
variable {σ : Nat → Nat → Int32} {a b : Nat} {τ : Nat → Nat → Int64} {L : Nat}
theorem k_advances {p : Nat} (hX : tk_TX (σ 48) L) (hL : L ≤ 150) (e : σ 47 3 = nI L) (hp : p ≤ L) (e4 : σ 47 4 = nI p) :
    tk_Ct M_X7_advances [.ref 47] (σ, tk_rho a b, τ, 62) (fun v μ' => v = none ∧ ∃ σ', μ' = (σ', tk_rho a b, τ, 62) ∧ tk_fA σ σ' ∧ tk_Ad (σ 48) σ' L p) := by
  have h48 : ∀ σi, tk_fA σ σi → σi 48 = σ 48 := fun σi h => funext fun y => h 48 y (by omega)
  have h3 : ∀ σi, tk_fA σ σi → σi 47 3 = nI L := fun σi h => (h 47 3 (by omega)).trans e
  have la : ∀ (σi : Nat → Nat → Int32) (j : Nat), tk_fA σ σi → j ≤ L → σi 47 4 = nI j → tk_Fn M_X7_letterAt [.ref 47, .int (σi 47 4)] (σi, tk_rho a b, τ, 62) (some (.int (tk_la (σ 48) L j))) (σi, tk_rho a b, τ, 62) := fun σi j h hj ej => by
    have := k_letterAt (σ := σi) (a := a) (b := b) (τ := τ) hL (h3 σi h) hj
    rw [h48 σi h, ← ej] at this
    exact this
  have dig : ∀ (l : Launch) (D : va_G) (cy : Nat → ClassId) (q : Nat), q < L → tk_q (σ 48) L p = q → tk_dg (σ 48 q) = true → ∀ (n j : Nat) (σi : Nat → Nat → Int32), q + j + n = L → tk_fA σ σi → σi 47 4 = nI (q + j) → σi 47 6 = nI q → σi 47 7 = tk_mv (σ 48) q j → tk_r (σ 48) L q = tk_skip (fun i => tk_dg (σ 48 i)) n (q + j) → (∀ i, i < j → tk_dg (σ 48 (q + i)) = true) →
      tk_J l D cy none M_X7_advances (71, [some (.ref 47), some (.int (σ 48 q))], [], (σi, tk_rho a b, τ, 62), 0, 0) (fun v μ' => v = none ∧ ∃ σ', μ' = (σ', tk_rho a b, τ, 62) ∧ tk_fA σ σ' ∧ tk_Ad (σ 48) σ' L p) := by
    intro l D cy q hq eq hdq
    have fin : ∀ (j : Nat) (σi : Nat → Nat → Int32), 1 ≤ j → q + j ≤ L → tk_fA σ σi → σi 47 4 = nI (q + j) → σi 47 6 = nI q → σi 47 7 = tk_mv (σ 48) q j → tk_r (σ 48) L q = q + j → (∀ i, i < j → tk_dg (σ 48 (q + i)) = true) →
        tk_J l D cy none M_X7_advances (141, [some (.ref 47), some (.int (σ 48 q))], [], (σi, tk_rho a b, τ, 62), 0, 0) (fun v μ' => v = none ∧ ∃ σ', μ' = (σ', tk_rho a b, τ, 62) ∧ tk_fA σ σ' ∧ tk_Ad (σ 48) σ' L p) := by
      intro j σi hj hjL hF q4 q6 q7 hr hd
      have hm := tk_mvfit hj hd
      have hft : tk_fit (σ 48) L q = true ↔ (j = 1 ∨ (j = 2 ∧ 9 < tk_nb (σ 48) q 2)) := by
        rw [tk_fitI, hr, show q + j - q = j by omega]
      have ed : σi 47 4 - σi 47 6 = nI j := by rw [q4, q6, pk_sub (by omega), show q + j - q = j by omega]
      have good : tk_fit (σ 48) L q = true → (∃ σ', (tk_up σi 47 5 2, tk_rho a b, τ, 62) = ((σ', tk_rho a b, τ, 62) : tk_Me) ∧ tk_fA σ σ' ∧ tk_Ad (σ 48) σ' L p) := fun hf => by
        refine ⟨_, rfl, fun x y hx => ?_, ?_, ?_, ?_, fun _ _ _ => ?_, fun _ h => ?_⟩
        · rw [tk_up, if_neg (fun h => hx ⟨h.1, by omega⟩)]
          exact hF x y hx
        · rw [tk_up_k _ _ _ (by decide), q4, tk_nx, eq, if_neg (by omega), if_pos hdq, hr]
        · rw [tk_up_k _ _ _ (by decide), q6, eq]
        · rw [tk_up_at, tk_mk, eq, if_neg (by omega), if_pos hdq, if_pos hf]
        · rw [tk_up_k _ _ _ (by decide), q7, eq, tk_vl, if_pos hf, hr, show q + j - q = j by omega]
          exact hm.2 ((hft.mp hf).imp id (fun h => h.1))
        · rw [eq] at h
          exact absurd hdq h
      have bad : ¬ tk_fit (σ 48) L q = true → (∃ σ', (tk_up σi 47 5 4, tk_rho a b, τ, 62) = ((σ', tk_rho a b, τ, 62) : tk_Me) ∧ tk_fA σ σ' ∧ tk_Ad (σ 48) σ' L p) := fun hf => by
        refine ⟨_, rfl, fun x y hx => ?_, ?_, ?_, ?_, fun _ _ h => ?_, fun _ h => ?_⟩
        · rw [tk_up, if_neg (fun h => hx ⟨h.1, by omega⟩)]
          exact hF x y hx
        · rw [tk_up_k _ _ _ (by decide), q4, tk_nx, eq, if_neg (by omega), if_pos hdq, hr]
        · rw [tk_up_k _ _ _ (by decide), q6, eq]
        · rw [tk_up_at, tk_mk, eq, if_neg (by omega), if_pos hdq, if_neg hf]
        · rw [eq] at h
          exact absurd h hf
        · rw [eq] at h
          exact absurd hdq h
      refine tk_run (hT_X7_advances none) [] 80 _ ?_
      refine And.intro (fun h1 => ?_) (fun h1 => ?_)
      all_goals try dsimp only [tk_c0, tk_c1, tk_c2, tk_c3, tk_c4, tk_c5, tk_c6, tk_c7, tk_c8, tk_c9, tk_c10, tk_c11, tk_c12, tk_c13] at h1
      all_goals rw [q7] at h1
      · exact And.intro rfl (bad (fun h => hm.1.mp (Or.inl h1) (hft.mp h)))
      · refine And.intro (fun h2 => ?_) (fun h2 => ?_)
        all_goals try dsimp only [tk_c0, tk_c1, tk_c2, tk_c3, tk_c4, tk_c5, tk_c6, tk_c7, tk_c8, tk_c9, tk_c10, tk_c11, tk_c12, tk_c13] at h2
        · refine And.intro (fun h5 => ?_) (fun h5 => ?_)
          all_goals try dsimp only [tk_c0, tk_c1, tk_c2, tk_c3, tk_c4, tk_c5, tk_c6, tk_c7, tk_c8, tk_c9, tk_c10, tk_c11, tk_c12, tk_c13] at h5
          all_goals rw [ed] at h5
          · have : j = 1 := by
              have := (nI_leI (b := 1) (by omega) (by omega)).mp h5
              omega
            exact And.intro rfl (good (hft.mpr (Or.inl this)))
          · have : 1 < j := Nat.lt_of_not_le (fun h => h5 (nI_le (b := 1) h (by omega)))
            exact And.intro rfl (bad (fun h => hm.1.mp (Or.inr ⟨h2, this⟩) (hft.mp h)))
        · exact And.intro rfl (good (hft.mpr (Decidable.not_not.mp (fun h => by
            rcases hm.1.mpr h with h | h
            · exact h1 h
            · exact h2 h.1))))
    intro n
    induction n with
    | zero =>
      intro j σi hj hF q4 q6 q7 hr hd
      have hla := la σi (q + j) hF (by omega) q4
      rw [tk_la, if_neg (by omega)] at hla
      refine tk_run (hT_X7_advances none) [71, 141] 80 _ ?_
      refine tk_cc (hla) (fun v9 μ9 h9 => ?_)
      obtain ⟨rfl, rfl⟩ := h9
      refine tk_cc (k_in _ _ _ _) (fun v9 μ9 h9 => ?_)
      obtain ⟨rfl, rfl⟩ := h9
      refine And.intro (fun h1 => ?_) (fun h1 => ?_)
      all_goals try dsimp only [tk_c0, tk_c1, tk_c2, tk_c3, tk_c4, tk_c5, tk_c6, tk_c7, tk_c8, tk_c9, tk_c10, tk_c11, tk_c12, tk_c13] at h1
      · exact fin j σi (by omega) (by omega) hF q4 q6 q7 hr hd
      · exact absurd (tk_b0.mpr (by decide)) h1
    | succ n ih =>
      intro j σi hj hF q4 q6 q7 hr hd
      have hla := la σi (q + j) hF (by omega) q4
      rw [tk_la, if_pos (by omega)] at hla
      refine tk_run (hT_X7_advances none) [71, 141] 80 _ ?_
      refine tk_cc (hla) (fun v9 μ9 h9 => ?_)
      obtain ⟨rfl, rfl⟩ := h9
      refine tk_cc (k_in _ _ _ _) (fun v9 μ9 h9 => ?_)
      obtain ⟨rfl, rfl⟩ := h9
      refine And.intro (fun h1 => ?_) (fun h1 => ?_)
      all_goals try dsimp only [tk_c0, tk_c1, tk_c2, tk_c3, tk_c4, tk_c5, tk_c6, tk_c7, tk_c8, tk_c9, tk_c10, tk_c11, tk_c12, tk_c13] at h1
      · have hnd : ¬ tk_dg (σ 48 (q + j)) = true := fun h => tk_b0.mp h1 (tk_dgI.mp h)
        have hj1 : 1 ≤ j := Nat.one_le_iff_ne_zero.mpr (fun h => hnd (by rw [h]; exact hdq))
        exact fin j σi hj1 (by omega) hF q4 q6 q7 (by rw [hr, tk_skip, if_neg hnd]) hd
      · have hdj : tk_dg (σ 48 (q + j)) = true := tk_dgI.mpr (Decidable.not_not.mp (fun h => h1 (tk_b0.mpr h)))
        have more : ∀ y : Int32, y = tk_mv (σ 48) q (j + 1) → tk_J l D cy none M_X7_advances (71, [some (.ref 47), some (.int (σ 48 q))], [], (tk_up (tk_up σi 47 7 y) 47 4 (tk_up σi 47 7 y 47 4 + 1), tk_rho a b, τ, 62), 0, 0) (fun v μ' => v = none ∧ ∃ σ', μ' = (σ', tk_rho a b, τ, 62) ∧ tk_fA σ σ' ∧ tk_Ad (σ 48) σ' L p) := by
          intro y hy
          refine ih (j + 1) _ (by omega) (fun x z hx => ?_) ?_ ?_ ?_ ?_ (fun i hi => ?_)
          · rw [tk_up, if_neg (fun h => hx ⟨h.1, by omega⟩), tk_up, if_neg (fun h => hx ⟨h.1, by omega⟩)]
            exact hF x z hx
          · rw [tk_up_at, tk_up_k _ _ _ (by decide), q4]
            exact nI_1 _
          · rw [tk_up_k _ _ _ (by decide), tk_up_k _ _ _ (by decide)]
            exact q6
          · rw [tk_up_k _ _ _ (by decide), tk_up_at]
            exact hy
          · rw [hr, tk_skip, if_pos hdj]
            rfl
          · by_cases h : i = j
            · rw [h]
              exact hdj
            · exact hd i (by omega)
        refine And.intro (fun h2 => ?_) (fun h2 => ?_)
        all_goals try dsimp only [tk_c0, tk_c1, tk_c2, tk_c3, tk_c4, tk_c5, tk_c6, tk_c7, tk_c8, tk_c9, tk_c10, tk_c11, tk_c12, tk_c13] at h2
        all_goals rw [q7] at h2
        · refine tk_cc (hla) (fun v9 μ9 h9 => ?_)
          obtain ⟨rfl, rfl⟩ := h9
          refine more _ ?_
          rw [q7, tk_mv, if_neg (Int32.not_lt.mpr h2)]
        · refine more _ ?_
          rw [q7, tk_mv, if_pos (Int32.not_le.mp h2)]
  have aft : ∀ (l : Launch) (D : va_G) (cy : Nat → ClassId) (q : Nat) (σi : Nat → Nat → Int32), q ≤ L → tk_q (σ 48) L p = q → tk_fA σ σi → σi 47 4 = nI q →
      tk_J l D cy none M_X7_advances (26, [some (.ref 47), none], [], (σi, tk_rho a b, τ, 62), 0, 0) (fun v μ' => v = none ∧ ∃ σ', μ' = (σ', tk_rho a b, τ, 62) ∧ tk_fA σ σ' ∧ tk_Ad (σ 48) σ' L p) := by
    intro l D cy q σi hq eq hF q4
    have hF6 : tk_fA σ (tk_up σi 47 6 (σi 47 4)) := fun x y hx => by
      rw [tk_up, if_neg (fun h => hx ⟨h.1, by omega⟩)]
      exact hF x y hx
    have q46 : tk_up σi 47 6 (σi 47 4) 47 4 = nI q := (tk_up_k _ _ _ (by decide)).trans q4
    have hla := la (tk_up σi 47 6 (σi 47 4)) q hF6 hq q46
    by_cases hlt : q < L
    · rw [tk_la, if_pos hlt] at hla
      have fin2 : ∀ tok : Int32, ¬ tk_dg (σ 48 q) = true → tok = tk_mk (σ 48) L p → (∃ σ', (tk_up (tk_up (tk_up (tk_up σi 47 6 (σi 47 4)) 47 4 (tk_up σi 47 6 (σi 47 4) 47 4 + 1)) 47 7 (σ 48 q)) 47 5 tok, tk_rho a b, τ, 62) = ((σ', tk_rho a b, τ, 62) : tk_Me) ∧ tk_fA σ σ' ∧ tk_Ad (σ 48) σ' L p) := by
        intro tok hnd htok
        refine ⟨_, rfl, fun x y hx => ?_, ?_, ?_, ?_, fun _ h => ?_, fun _ _ => ?_⟩
        · rw [tk_up, if_neg (fun h => hx ⟨h.1, by omega⟩), tk_up, if_neg (fun h => hx ⟨h.1, by omega⟩), tk_up, if_neg (fun h => hx ⟨h.1, by omega⟩)]
          exact hF6 x y hx
        · rw [tk_up_k _ _ _ (by decide), tk_up_k _ _ _ (by decide), tk_up_at, q46, tk_nx, eq, if_neg (by omega), if_neg hnd]
          exact nI_1 q
        · rw [tk_up_k _ _ _ (by decide), tk_up_k _ _ _ (by decide), tk_up_k _ _ _ (by decide), tk_up_at, q4, eq]
        · rw [tk_up_at]
          exact htok
        · rw [eq] at h
          exact absurd h hnd
        · rw [tk_up_k _ _ _ (by decide), tk_up_at, eq]
      have mk : ¬ tk_dg (σ 48 q) = true → tk_mk (σ 48) L p = if σ 48 q = 59 then 3 else if σ 48 q = 109 ∨ σ 48 q = 107 ∨ σ 48 q = 100 ∨ σ 48 q = 116 then 1 else 4 := fun hnd => by
        rw [tk_mk, eq, if_neg (by omega), if_neg hnd]
      refine tk_run (hT_X7_advances none) [71] 80 _ ?_
      refine tk_cc (hla) (fun v9 μ9 h9 => ?_)
      obtain ⟨rfl, rfl⟩ := h9
      refine And.intro (fun h1 => ?_) (fun h1 => ?_)
      all_goals try dsimp only [tk_c0, tk_c1, tk_c2, tk_c3, tk_c4, tk_c5, tk_c6, tk_c7, tk_c8, tk_c9, tk_c10, tk_c11, tk_c12, tk_c13] at h1
      · refine tk_cc (k_in _ _ _ _) (fun v9 μ9 h9 => ?_)
        obtain ⟨rfl, rfl⟩ := h9
        refine And.intro (fun h2 => ?_) (fun h2 => ?_)
        all_goals try dsimp only [tk_c0, tk_c1, tk_c2, tk_c3, tk_c4, tk_c5, tk_c6, tk_c7, tk_c8, tk_c9, tk_c10, tk_c11, tk_c12, tk_c13] at h2
        · have hnd : ¬ tk_dg (σ 48 q) = true := fun h => tk_b0.mp h2 (tk_dgI.mp h)
          refine And.intro (fun h3 => ?_) (fun h3 => ?_)
          all_goals try dsimp only [tk_c0, tk_c1, tk_c2, tk_c3, tk_c4, tk_c5, tk_c6, tk_c7, tk_c8, tk_c9, tk_c10, tk_c11, tk_c12, tk_c13] at h3
          · exact And.intro rfl (fin2 _ hnd (by rw [mk hnd, if_pos h3]))
          · refine And.intro (fun h4 => ?_) (fun h4 => ?_)
            all_goals try dsimp only [tk_c0, tk_c1, tk_c2, tk_c3, tk_c4, tk_c5, tk_c6, tk_c7, tk_c8, tk_c9, tk_c10, tk_c11, tk_c12, tk_c13] at h4
            · exact And.intro rfl (fin2 _ hnd (by rw [mk hnd, if_neg h3, if_pos (Or.inl h4)]))
            · refine And.intro (fun h5 => ?_) (fun h5 => ?_)
              all_goals try dsimp only [tk_c0, tk_c1, tk_c2, tk_c3, tk_c4, tk_c5, tk_c6, tk_c7, tk_c8, tk_c9, tk_c10, tk_c11, tk_c12, tk_c13] at h5
              · exact And.intro rfl (fin2 _ hnd (by rw [mk hnd, if_neg h3, if_pos (Or.inr (Or.inl h5))]))
              · refine And.intro (fun h6 => ?_) (fun h6 => ?_)
                all_goals try dsimp only [tk_c0, tk_c1, tk_c2, tk_c3, tk_c4, tk_c5, tk_c6, tk_c7, tk_c8, tk_c9, tk_c10, tk_c11, tk_c12, tk_c13] at h6
                · exact And.intro rfl (fin2 _ hnd (by rw [mk hnd, if_neg h3, if_pos (Or.inr (Or.inr (Or.inl h6)))]))
                · refine And.intro (fun h7 => ?_) (fun h7 => ?_)
                  all_goals try dsimp only [tk_c0, tk_c1, tk_c2, tk_c3, tk_c4, tk_c5, tk_c6, tk_c7, tk_c8, tk_c9, tk_c10, tk_c11, tk_c12, tk_c13] at h7
                  · exact And.intro rfl (fin2 _ hnd (by rw [mk hnd, if_neg h3, if_pos (Or.inr (Or.inr (Or.inr h7)))]))
                  · exact And.intro rfl (fin2 _ hnd (by rw [mk hnd, if_neg h3, if_neg (fun h => h.elim h4 (fun h => h.elim h5 (fun h => h.elim h6 h7)))]))
        · have hdq : tk_dg (σ 48 q) = true := tk_dgI.mpr (Decidable.not_not.mp (fun h => h2 (tk_b0.mpr h)))
          refine dig l D cy q hlt eq hdq (L - q) 0 _ (by omega) (fun x y hx => ?_) ?_ ?_ ?_ rfl (fun i hi => absurd hi (Nat.not_lt_zero i))
          · rw [tk_up, if_neg (fun h => hx ⟨h.1, by omega⟩)]
            exact hF6 x y hx
          · rw [tk_up_k _ _ _ (by decide)]
            exact q46
          · rw [tk_up_k _ _ _ (by decide), tk_up_at, q4]
          · rw [tk_up_at]
            rfl
      · exact absurd (hX q hlt).1 h1
    · rw [tk_la, if_neg hlt] at hla
      refine tk_run (hT_X7_advances none) [71] 80 _ ?_
      refine tk_cc (hla) (fun v9 μ9 h9 => ?_)
      obtain ⟨rfl, rfl⟩ := h9
      refine And.intro (fun h1 => ?_) (fun h1 => ?_)
      all_goals try dsimp only [tk_c0, tk_c1, tk_c2, tk_c3, tk_c4, tk_c5, tk_c6, tk_c7, tk_c8, tk_c9, tk_c10, tk_c11, tk_c12, tk_c13] at h1
      · exact absurd h1 (by decide)
      · refine And.intro rfl ⟨_, rfl, fun x y hx => ?_, ?_, ?_, ?_, fun h => ?_, fun h => ?_⟩
        · rw [tk_up, if_neg (fun h => hx ⟨h.1, by omega⟩)]
          exact hF6 x y hx
        · rw [tk_up_k _ _ _ (by decide), q46, tk_nx, eq, if_pos (by omega)]
        · rw [tk_up_k _ _ _ (by decide), tk_up_at, q4, eq]
        · rw [tk_up_at, tk_mk, eq, if_pos (by omega)]
        · omega
        · omega
  have loop : ∀ (l : Launch) (D : va_G) (cy : Nat → ClassId) (n j : Nat) (σi : Nat → Nat → Int32), σi 47 4 = nI j → j + n = L → tk_q (σ 48) L p = tk_skip (fun i => σ 48 i = 32) n j → tk_fA σ σi →
      tk_J l D cy none M_X7_advances (0, [some (.ref 47), none], [], (σi, tk_rho a b, τ, 62), 0, 0) (fun v μ' => v = none ∧ ∃ σ', μ' = (σ', tk_rho a b, τ, 62) ∧ tk_fA σ σ' ∧ tk_Ad (σ 48) σ' L p) := by
    intro l D cy n
    induction n with
    | zero =>
      intro j σi q4 hj eq hF
      have hla := la σi j hF (by omega) q4
      rw [tk_la, if_neg (by omega)] at hla
      refine tk_run (hT_X7_advances none) [0, 26] 80 _ ?_
      refine tk_cc (hla) (fun v9 μ9 h9 => ?_)
      obtain ⟨rfl, rfl⟩ := h9
      refine And.intro (fun h1 => ?_) (fun h1 => ?_)
      all_goals try dsimp only [tk_c0, tk_c1, tk_c2, tk_c3, tk_c4, tk_c5, tk_c6, tk_c7, tk_c8, tk_c9, tk_c10, tk_c11, tk_c12, tk_c13] at h1
      · exact absurd h1 (by decide)
      · exact aft l D cy j σi (by omega) eq hF q4
    | succ n ih =>
      intro j σi q4 hj eq hF
      have hla := la σi j hF (by omega) q4
      rw [tk_la, if_pos (by omega)] at hla
      refine tk_run (hT_X7_advances none) [0, 26] 80 _ ?_
      refine tk_cc (hla) (fun v9 μ9 h9 => ?_)
      obtain ⟨rfl, rfl⟩ := h9
      refine And.intro (fun h1 => ?_) (fun h1 => ?_)
      all_goals try dsimp only [tk_c0, tk_c1, tk_c2, tk_c3, tk_c4, tk_c5, tk_c6, tk_c7, tk_c8, tk_c9, tk_c10, tk_c11, tk_c12, tk_c13] at h1
      · refine ih (j + 1) _ ?_ (by omega) ?_ (fun x y hx => ?_)
        · rw [tk_up_at, q4]
          exact nI_1 j
        · rw [eq, tk_skip, if_pos h1]
        · rw [tk_up, if_neg (fun h => hx ⟨h.1, by omega⟩)]
          exact hF x y hx
      · refine aft l D cy j σi (by omega) ?_ hF q4
        rw [eq, tk_skip, if_neg h1]
  refine tk_ct rfl rfl (Nat.le_of_ble_eq_true rfl) (fun l D cy => ?_)
  exact loop l D cy (L - p) p σ e4 (by omega) rfl (fun _ _ _ => rfl)
end
