/-! began, of both sides -/
/-- all that was found is so, if it lay on k in tide 0 -/
def tk_cb (E : Nat → Nat → Int32) (fo fi : Nat → Int32) (m : Nat) (k : Int32) : Prop := ∀ e, e < m → (tk_it E 0 (fi e).toNatClampNeg (k, 0)).2 = 0 ∧ (tk_it E 0 (fi e).toNatClampNeg (k, 0)).1 = fo e
theorem tk_b_congr {p q : Prop} [Decidable p] [Decidable q] (h : p ↔ q) : tk_b p = tk_b q := by
  by_cases hp : p
  · rw [tk_bT hp, tk_bT (h.mp hp)]
  · rw [tk_bF hp, tk_bF (fun z => hp (h.mpr z))]
theorem tk_iT0 (E : Nat → Nat → Int32) (t : Int32) (n : Nat) (s : Int32 × Int32) : tk_iT E t 0 n s = tk_it E t n s := by
  rw [tk_iT_eq, if_neg (by decide)]
section
variable {t k u : Int32} {σ : Nat → Nat → Int32} {a b : Nat} {τ : Nat → Nat → Int64}
/-- what was found, as the class has it -/
def tk_fd (σ : Nat → Nat → Int32) (m : Nat) : Prop := ∀ e, e < m → ∃ f, f ≤ 99 ∧ σ 41 e = nI f
theorem k_cCan {σ0 : Nat → Nat → Int32} {m : Nat} (ha : tk_tw a) (hE : tk_VE (tk_E σ a)) (hm : m ≤ 6) (em : σ 39 2 = nI m) (hfd : tk_fd σ m) (hk : tk_kI (tk_E σ a) k) (hf0 : tk_Sc σ σ0) :
    tk_Ct M_X6_canHaveBegunOn [.ref 1, .int k] (σ0, tk_rho a b, τ, 62) (fun v μ' => ((v = some (.int 1) ∧ tk_cb (tk_E σ a) (σ 40) (σ 41) m k) ∨ (v = some (.int 0) ∧ ¬ tk_cb (tk_E σ a) (σ 40) (σ 41) m k)) ∧ ∃ σ', μ' = (σ', tk_rho a b, τ, 62) ∧ tk_Sc σ σ') := by
  have hs : tk_VS (tk_E σ a) (k, 0) := ⟨hk, (by decide : (0 : Int32) ≤ 0), (by decide : (0 : Int32) ≤ 3)⟩
  have outer : ∀ (l : Launch) (D : va_G) (cy : Nat → ClassId) (n j : Nat) (i : Int32) (x3 : Option Value) (σi : Nat → Nat → Int32), i = nI j → j + n = 100 → tk_Sc σ σi → σi 45 2 = 0 → (σi 45 0, σi 45 1) = tk_it (tk_E σ a) 0 j (k, 0) →
      (∀ e, e < m → (σ 41 e).toNatClampNeg < j → (tk_it (tk_E σ a) 0 (σ 41 e).toNatClampNeg (k, 0)).2 = 0 ∧ (tk_it (tk_E σ a) 0 (σ 41 e).toNatClampNeg (k, 0)).1 = σ 40 e) →
      tk_J l D cy none M_X6_canHaveBegunOn (10, [some (.ref 1), some (.int k), some (.int i), x3], [], (σi, tk_rho a b, τ, 62), 0, 0) (fun v μ' => ((v = some (.int 1) ∧ tk_cb (tk_E σ a) (σ 40) (σ 41) m k) ∨ (v = some (.int 0) ∧ ¬ tk_cb (tk_E σ a) (σ 40) (σ 41) m k)) ∧ ∃ σ', μ' = (σ', tk_rho a b, τ, 62) ∧ tk_Sc σ σ') := by
    intro l D cy n
    induction n with
    | zero =>
      intro j i x3 σi hi0 hj hf _ _ hok
      subst hi0
      refine tk_run (hT_X6_canHaveBegunOn none) [10] 60 _ ?_
      refine And.intro (fun h1 => ?_) (fun h1 => ?_)
      all_goals try dsimp only [tk_c0, tk_c1, tk_c2, tk_c3, tk_c4, tk_c5, tk_c6, tk_c7, tk_c8, tk_c9, tk_c10, tk_c11, tk_c12, tk_c13] at h1
      · refine And.intro (Or.inr rfl) (And.intro (Or.inl ⟨rfl, fun e he => ?_⟩) ⟨σi, rfl, hf⟩)
        obtain ⟨f, hf9, ef⟩ := hfd e he
        exact hok e he (by rw [ef, nI_clamp (by omega)]; omega)
      · exact absurd (nI_lt (a := 99) (by omega) (by omega)) h1
    | succ n ih =>
      intro j i x3 σi hi0 hj hf hd hi hok
      subst hi0
      have hV := tk_it_V (t := 0) hE hs j
      rw [← hi] at hV
      have hF := hf.E ha
      have inner : ∀ (n2 i : Nat) (x : Int32), x = nI i → i + n2 = m → (∀ e, e < i → (σ 41 e).toNatClampNeg = j → (tk_it (tk_E σ a) 0 j (k, 0)).2 = 0 ∧ (tk_it (tk_E σ a) 0 j (k, 0)).1 = σ 40 e) →
          tk_J l D cy none M_X6_canHaveBegunOn (18, [some (.ref 1), some (.int k), some (.int (nI j)), some (.int x)], [], (σi, tk_rho a b, τ, 62), 0, 0) (fun v μ' => ((v = some (.int 1) ∧ tk_cb (tk_E σ a) (σ 40) (σ 41) m k) ∨ (v = some (.int 0) ∧ ¬ tk_cb (tk_E σ a) (σ 40) (σ 41) m k)) ∧ ∃ σ', μ' = (σ', tk_rho a b, τ, 62) ∧ tk_Sc σ σ') := by
        have e39 : σi 39 2 = nI m := (hf _ _ (by decide) (by decide)).trans em
        intro n2
        induction n2 with
        | zero =>
          intro i x hx him hall
          subst hx
          refine tk_run (hT_X6_canHaveBegunOn none) [10] 60 _ ?_
          refine And.intro (fun h1 => ?_) (fun h1 => ?_)
          all_goals try dsimp only [tk_c0, tk_c1, tk_c2, tk_c3, tk_c4, tk_c5, tk_c6, tk_c7, tk_c8, tk_c9, tk_c10, tk_c11, tk_c12, tk_c13] at h1
          · refine tk_ift (tk_twok ha) ?_
            refine tk_cc (k_levelOf ha (by have := hE.1; rw [← hF] at this; exact this)) (fun v9 μ9 h9 => ?_)
            obtain ⟨rfl, rfl⟩ := h9
            refine tk_cc (k_passA (p := 45) rfl ha (by rw [hF]; exact hE) (by rw [hF]; exact hV) (Or.inl hd)) (fun v9 μ9 h9 => ?_)
            obtain ⟨rfl, rfl⟩ := h9
            refine ih (j + 1) _ _ _ (nI_1 j) (by omega) (tk_stp hf (Or.inl rfl) _) ((tk_std _).trans hd) ((tk_stv _).trans ?_) ?_
            · show tk_sT (tk_E σi a) (tk_lv' (tk_E σi a) (nI j)) (σi 45 2) (σi 45 0, σi 45 1) = _
              rw [hF, hi, hd, tk_sT, if_neg (by decide), tk_it, Int32.zero_add]
            · intro e he hlt
              rcases Nat.lt_or_ge (σ 41 e).toNatClampNeg j with h | h
              · exact hok e he h
              · have h3 : (σ 41 e).toNatClampNeg = j := by omega
                rw [h3]
                exact hall e (by omega) h3
          · exact absurd (by rw [e39]; exact nI_le (by omega) (by omega)) h1
        | succ n2 ih2 =>
          intro i x hx him hall
          subst hx
          have e41 : σi 41 i = σ 41 i := hf _ _ (by decide) (by decide)
          have e40 : σi 40 i = σ 40 i := hf _ _ (by decide) (by decide)
          obtain ⟨f, hf9, ef⟩ := hfd i (by omega)
          refine tk_run (hT_X6_canHaveBegunOn none) [18] 60 _ ?_
          refine And.intro (fun h1 => ?_) (fun h1 => ?_)
          all_goals try dsimp only [tk_c0, tk_c1, tk_c2, tk_c3, tk_c4, tk_c5, tk_c6, tk_c7, tk_c8, tk_c9, tk_c10, tk_c11, tk_c12, tk_c13] at h1
          · exact absurd h1 (by rw [e39]; exact nI_ge (by omega) (by omega))
          · refine tk_ift (tk_in_nI (n := 6) (by omega) (by decide)) ?_
            refine And.intro (fun h2 => ?_) (fun h2 => ?_)
            all_goals try dsimp only [tk_c0, tk_c1, tk_c2, tk_c3, tk_c4, tk_c5, tk_c6, tk_c7, tk_c8, tk_c9, tk_c10, tk_c11, tk_c12, tk_c13] at h2
            · rw [nI_clamp (by omega), e41, ef] at h2
              have hfj : f = j := (nI_eq (by omega) (by omega)).mp h2
              refine tk_ift (tk_in_nI (n := 6) (by omega) (by decide)) ?_
              refine tk_cc (k_liesOn (p := 45) rfl) (fun v9 μ9 h9 => ?_)
              obtain ⟨rfl, rfl⟩ := h9
              rw [nI_clamp (by omega), e40]
              refine And.intro (fun h3 => ?_) (fun h3 => ?_)
              all_goals try dsimp only [tk_c0, tk_c1, tk_c2, tk_c3, tk_c4, tk_c5, tk_c6, tk_c7, tk_c8, tk_c9, tk_c10, tk_c11, tk_c12, tk_c13] at h3
              · have h3 := tk_b0.mp h3
                refine And.intro (Or.inl rfl) (And.intro (Or.inr ⟨rfl, fun hcb => h3 ?_⟩) ⟨σi, rfl, hf⟩)
                have h4 := hcb i (by omega)
                rw [ef, nI_clamp (by omega), hfj, ← hi] at h4
                exact h4
              · have h3 := Decidable.not_not.mp (fun h => h3 (tk_b0.mpr h))
                refine ih2 (i + 1) _ (nI_1 i) (by omega) (fun e he hej => ?_)
                rcases Nat.lt_or_ge e i with h | h
                · exact hall e h hej
                · have : e = i := by omega
                  subst this
                  rw [← hi]
                  exact h3
            · refine ih2 (i + 1) _ (nI_1 i) (by omega) (fun e he hej => ?_)
              rcases Nat.lt_or_ge e i with h | h
              · exact hall e h hej
              · have : e = i := by omega
                subst this
                rw [nI_clamp (by omega), e41, ef] at h2
                rw [ef, nI_clamp (by omega)] at hej
                exact absurd (by rw [hej]) h2
      refine tk_run (hT_X6_canHaveBegunOn none) [18] 60 _ ?_
      refine And.intro (fun h1 => ?_) (fun h1 => ?_)
      all_goals try dsimp only [tk_c0, tk_c1, tk_c2, tk_c3, tk_c4, tk_c5, tk_c6, tk_c7, tk_c8, tk_c9, tk_c10, tk_c11, tk_c12, tk_c13] at h1
      · exact absurd h1 (nI_nlt (a := 99) (b := j) (by omega) (by omega))
      · exact inner m 0 _ rfl (by omega) (fun e he => absurd he (Nat.not_lt_zero e))
  refine tk_ct rfl rfl (Nat.le_of_ble_eq_true rfl) (fun l D cy => tk_run (hT_X6_canHaveBegunOn none) [10] 60 _ ?_)
  refine tk_cc (k_lieOn (p := 45) rfl) (fun v9 μ9 h9 => ?_)
  obtain ⟨rfl, rfl⟩ := h9
  refine outer l D cy 100 0 _ _ _ rfl rfl (tk_bec hf0 (Or.inl rfl) _ _ _) (tk_up_at _ _ _ _) ?_ (fun e he h => absurd h (Nat.not_lt_zero _))
  rw [tk_up_k _ _ _ (by decide), tk_up_k _ _ _ (by decide), tk_up_at, tk_up_k _ _ _ (by decide), tk_up_at]
  rfl
theorem k_cBegan {m : Nat} (ha : tk_tw a) (hE : tk_VE (tk_E σ a)) (hm : m ≤ 6) (em : σ 39 2 = nI m) (hfd : tk_fd σ m) (hdp : DecidablePred (fun k : Nat => tk_cb (tk_E σ a) (σ 40) (σ 41) m (nI k))) :
    tk_Ct M_X6_began [.ref 1] (σ, tk_rho a b, τ, 62) (fun v μ' => v = some (.int (tk_bits (fun k => tk_cb (tk_E σ a) (σ 40) (σ 41) m (nI k)) (σ a 3).toNatClampNeg)) ∧ ∃ σ', μ' = (σ', tk_rho a b, τ, 62) ∧ tk_Sc σ σ') := by
  obtain ⟨N, hN, e⟩ := tk_nI_of hE.2.2.2.2.1 (by decide)
  have e : σ a 3 = nI N := e
  rw [e, nI_clamp (by omega)]
  have loop : ∀ (l : Launch) (D : va_G) (cy : Nat → ClassId) (n j : Nat) (i : Int32) (σi : Nat → Nat → Int32), i = nI j → j + n = N → tk_Sc σ σi →
      tk_J l D cy none M_X6_began (4, [some (.ref 1), some (.int (tk_bits (fun k => tk_cb (tk_E σ a) (σ 40) (σ 41) m (nI k)) j)), some (.int i)], [], (σi, tk_rho a b, τ, 62), 0, 0) (fun v μ' => v = some (.int (tk_bits (fun k => tk_cb (tk_E σ a) (σ 40) (σ 41) m (nI k)) N)) ∧ ∃ σ', μ' = (σ', tk_rho a b, τ, 62) ∧ tk_Sc σ σ') := by
    intro l D cy n
    induction n with
    | zero =>
      intro j i σi hi hj hf
      subst hi
      have e3 : σi a 3 = nI N := (congrFun (congrFun (hf.E ha) 3) 3).trans e
      refine tk_run (hT_X6_began none) [4] 60 _ ?_
      refine tk_ift (tk_twok ha) ?_
      refine And.intro (fun h1 => ?_) (fun h1 => ?_)
      all_goals try dsimp only [tk_c0, tk_c1, tk_c2, tk_c3, tk_c4, tk_c5, tk_c6, tk_c7, tk_c8, tk_c9, tk_c10, tk_c11, tk_c12, tk_c13] at h1
      · refine And.intro ?_ ⟨σi, rfl, hf⟩
        rw [← hj]
        rfl
      · exact absurd (by rw [e3]; exact nI_le (by omega) (by omega)) h1
    | succ n ih =>
      intro j i σi hi hj hf
      subst hi
      have e3 : σi a 3 = nI N := (congrFun (congrFun (hf.E ha) 3) 3).trans e
      have h9 := fun σ9 hf9 => ih (j + 1) _ σ9 (nI_1 j) (by omega) hf9
      refine tk_run (hT_X6_began none) [4] 60 _ ?_
      refine tk_ift (tk_twok ha) ?_
      refine And.intro (fun h1 => ?_) (fun h1 => ?_)
      all_goals try dsimp only [tk_c0, tk_c1, tk_c2, tk_c3, tk_c4, tk_c5, tk_c6, tk_c7, tk_c8, tk_c9, tk_c10, tk_c11, tk_c12, tk_c13] at h1
      · exact absurd h1 (by rw [e3]; exact nI_ge (by omega) (by omega))
      · refine tk_cc (k_cCan ha hE hm em hfd ⟨nI_pos' (by omega), by show nI j < σ a 3; rw [e]; exact nI_lt (by omega) (by omega)⟩ hf) (fun v9 μ9 hh => ?_)
        obtain ⟨⟨rfl, hc⟩ | ⟨rfl, hc⟩, σ', rfl, hf'⟩ := hh
        · have h9 := h9 σ' hf'
          rw [tk_bits, if_pos hc] at h9
          refine And.intro (fun h2 => ?_) (fun h2 => ?_)
          all_goals try dsimp only [tk_c0, tk_c1, tk_c2, tk_c3, tk_c4, tk_c5, tk_c6, tk_c7, tk_c8, tk_c9, tk_c10, tk_c11, tk_c12, tk_c13] at h2
          · exact absurd h2 (by decide)
          · exact h9
        · have h9 := h9 σ' hf'
          rw [tk_bits, if_neg hc] at h9
          refine And.intro (fun h2 => ?_) (fun h2 => ?_)
          all_goals try dsimp only [tk_c0, tk_c1, tk_c2, tk_c3, tk_c4, tk_c5, tk_c6, tk_c7, tk_c8, tk_c9, tk_c10, tk_c11, tk_c12, tk_c13] at h2
          · exact h9
          · exact absurd rfl h2
  refine tk_ct rfl rfl (Nat.le_of_ble_eq_true rfl) (fun l D cy => tk_run (hT_X6_began none) [4] 60 _ ?_)
  exact loop l D cy N 0 _ _ rfl (by omega) tk_Sc.rf
/-- what was found, as the reference has it -/
def tk_fm (σ : Nat → Nat → Int32) (m : Nat) : Prop := ∀ e, e < m → ∃ f, f ≤ 99 ∧ σ 60 e = nI f
theorem k_mCan {σ0 : Nat → Nat → Int32} {m : Nat} (hE : tk_VE (tk_F σ)) (hm : m ≤ 6) (em : σ 47 23 = nI m) (hfd : tk_fm σ m) (hk : tk_kI (tk_F σ) k) (hf0 : tk_Sm σ σ0) :
    tk_Ct M_X7_canBegin [.ref 47, .int k] (σ0, tk_rho a b, τ, 62) (fun v μ' => ((v = some (.int 1) ∧ tk_cb (tk_F σ) (σ 59) (σ 60) m k) ∨ (v = some (.int 0) ∧ ¬ tk_cb (tk_F σ) (σ 59) (σ 60) m k)) ∧ ∃ σ', μ' = (σ', tk_rho a b, τ, 62) ∧ tk_Sm σ σ') := by
  have hs : tk_VS (tk_F σ) (k, 0) := ⟨hk, (by decide : (0 : Int32) ≤ 0), (by decide : (0 : Int32) ≤ 3)⟩
  have outer : ∀ (l : Launch) (D : va_G) (cy : Nat → ClassId) (n j : Nat) (i : Int32) (x4 : Option Value) (σi : Nat → Nat → Int32), i = nI j → j + n = m → tk_Sm σ σi →
      (∀ e, e < j → (tk_it (tk_F σ) 0 (σ 60 e).toNatClampNeg (k, 0)).2 = 0 ∧ (tk_it (tk_F σ) 0 (σ 60 e).toNatClampNeg (k, 0)).1 = σ 59 e) →
      tk_J l D cy none M_X7_canBegin (4, [some (.ref 47), some (.int k), some (.int 1), some (.int i), x4], [], (σi, tk_rho a b, τ, 62), 0, 0) (fun v μ' => ((v = some (.int 1) ∧ tk_cb (tk_F σ) (σ 59) (σ 60) m k) ∨ (v = some (.int 0) ∧ ¬ tk_cb (tk_F σ) (σ 59) (σ 60) m k)) ∧ ∃ σ', μ' = (σ', tk_rho a b, τ, 62) ∧ tk_Sm σ σ') := by
    intro l D cy n
    induction n with
    | zero =>
      intro j i x4 σi hi0 hj hf hok
      subst hi0
      have e47 : σi 47 23 = nI m := (hf _ _ (by decide)).trans em
      refine tk_run (hT_X7_canBegin none) [4] 60 _ ?_
      refine And.intro (fun h1 => ?_) (fun h1 => ?_)
      all_goals try dsimp only [tk_c0, tk_c1, tk_c2, tk_c3, tk_c4, tk_c5, tk_c6, tk_c7, tk_c8, tk_c9, tk_c10, tk_c11, tk_c12, tk_c13] at h1
      · exact And.intro (Or.inr rfl) (And.intro (Or.inl ⟨rfl, fun e he => hok e (by omega)⟩) ⟨σi, rfl, hf⟩)
      · exact absurd (by rw [e47]; exact nI_le (by omega) (by omega)) h1
    | succ n ih =>
      intro j i x4 σi hi0 hj hf hok
      subst hi0
      have e47 : σi 47 23 = nI m := (hf _ _ (by decide)).trans em
      obtain ⟨f, hf9, ef⟩ := hfd j (by omega)
      have inner : ∀ (n2 i : Nat) (x : Int32) (σ1 : Nat → Nat → Int32), x = nI i → i + n2 = f → tk_Sm σ σ1 → (σ1 47 27, σ1 47 28) = tk_it (tk_F σ) 0 i (k, 0) →
          tk_J l D cy none M_X7_canBegin (29, [some (.ref 47), some (.int k), some (.int 1), some (.int (nI j)), some (.int x)], [], (σ1, tk_rho a b, τ, 62), 0, 0) (fun v μ' => ((v = some (.int 1) ∧ tk_cb (tk_F σ) (σ 59) (σ 60) m k) ∨ (v = some (.int 0) ∧ ¬ tk_cb (tk_F σ) (σ 59) (σ 60) m k)) ∧ ∃ σ', μ' = (σ', tk_rho a b, τ, 62) ∧ tk_Sm σ σ') := by
        intro n2
        induction n2 with
        | zero =>
          intro i x σ1 hx him hf1 hv
          subst hx
          have hif : i = f := by omega
          subst hif
          have e60 : σ1 60 j = nI i := (hf1.at (by decide) j).trans ef
          have e59 : σ1 59 j = σ 59 j := hf1.at (by decide) j
          have e47 : σ1 47 23 = nI m := (hf1 _ _ (by decide)).trans em
          have bad : ¬ (σ1 47 28 = 0 ∧ σ1 47 27 = σ 59 j) → tk_J l D cy none M_X7_canBegin (81, [some (.ref 47), some (.int k), some (.int 1), some (.int (nI j)), some (.int (nI i))], [], (σ1, tk_rho a b, τ, 62), 0, 0) (fun v μ' => ((v = some (.int 1) ∧ tk_cb (tk_F σ) (σ 59) (σ 60) m k) ∨ (v = some (.int 0) ∧ ¬ tk_cb (tk_F σ) (σ 59) (σ 60) m k)) ∧ ∃ σ', μ' = (σ', tk_rho a b, τ, 62) ∧ tk_Sm σ σ') := by
            intro hb
            have hncb : ¬ tk_cb (tk_F σ) (σ 59) (σ 60) m k := fun h => by
              have h4 := h j (by omega)
              rw [ef, nI_clamp (by omega), ← hv] at h4
              exact hb h4
            refine tk_run (hT_X7_canBegin none) [] 60 _ ?_
            refine And.intro (fun h1 => ?_) (fun h1 => ?_)
            all_goals try dsimp only [tk_c0, tk_c1, tk_c2, tk_c3, tk_c4, tk_c5, tk_c6, tk_c7, tk_c8, tk_c9, tk_c10, tk_c11, tk_c12, tk_c13] at h1
            · exact And.intro (Or.inl rfl) (And.intro (Or.inr ⟨rfl, hncb⟩) ⟨σ1, rfl, hf1⟩)
            · refine And.intro (fun h2 => ?_) (fun h2 => ?_)
              all_goals try dsimp only [tk_c0, tk_c1, tk_c2, tk_c3, tk_c4, tk_c5, tk_c6, tk_c7, tk_c8, tk_c9, tk_c10, tk_c11, tk_c12, tk_c13] at h2
              · exact And.intro (Or.inl rfl) (And.intro (Or.inr ⟨rfl, hncb⟩) ⟨σ1, rfl, hf1⟩)
              · exact absurd rfl h2
          refine tk_run (hT_X7_canBegin none) [4, 81] 60 _ ?_
          refine tk_ift (tk_in_nI (n := 6) (by omega) (by decide)) ?_
          rw [nI_clamp (by omega), e60]
          refine And.intro (fun h1 => ?_) (fun h1 => ?_)
          all_goals try dsimp only [tk_c0, tk_c1, tk_c2, tk_c3, tk_c4, tk_c5, tk_c6, tk_c7, tk_c8, tk_c9, tk_c10, tk_c11, tk_c12, tk_c13] at h1
          · refine And.intro (fun h2 => ?_) (fun h2 => ?_)
            all_goals try dsimp only [tk_c0, tk_c1, tk_c2, tk_c3, tk_c4, tk_c5, tk_c6, tk_c7, tk_c8, tk_c9, tk_c10, tk_c11, tk_c12, tk_c13] at h2
            · refine tk_ift (tk_in_nI (n := 6) (by omega) (by decide)) ?_
              rw [nI_clamp (by omega), e59]
              refine And.intro (fun h3 => ?_) (fun h3 => ?_)
              all_goals try dsimp only [tk_c0, tk_c1, tk_c2, tk_c3, tk_c4, tk_c5, tk_c6, tk_c7, tk_c8, tk_c9, tk_c10, tk_c11, tk_c12, tk_c13] at h3
              · refine ih (j + 1) _ _ _ (nI_1 j) (by omega) hf1 (fun e he => ?_)
                rcases Nat.lt_or_ge e j with h | h
                · exact hok e h
                · have : e = j := by omega
                  subst this
                  rw [ef, nI_clamp (by omega), ← hv]
                  exact ⟨h2, h3⟩
              · exact bad (fun h => h3 h.2)
            · exact bad (fun h => h2 h.1)
          · exact absurd (Int32.le_refl _) h1
        | succ n2 ih2 =>
          intro i x σ1 hx him hf1 hv
          subst hx
          have e60 : σ1 60 j = nI f := (hf1.at (by decide) j).trans ef
          have hV := tk_it_V (t := 0) hE hs i
          rw [← hv] at hV
          have hF3 := hf1.F
          have hE3 : tk_VE (tk_F σ1) := by rw [hF3]; exact hE
          have hV3 : tk_VS (tk_F σ1) (σ1 47 27, σ1 47 28) := by rw [hF3]; exact hV
          refine tk_run (hT_X7_canBegin none) [29] 60 _ ?_
          refine tk_ift (tk_in_nI (n := 6) (by omega) (by decide)) ?_
          rw [nI_clamp (by omega), e60]
          refine And.intro (fun h1 => ?_) (fun h1 => ?_)
          all_goals try dsimp only [tk_c0, tk_c1, tk_c2, tk_c3, tk_c4, tk_c5, tk_c6, tk_c7, tk_c8, tk_c9, tk_c10, tk_c11, tk_c12, tk_c13] at h1
          · exact absurd h1 (nI_ge (by omega) (by omega))
          · refine tk_cc (k_mLev hE3.1) (fun v9 μ9 h9 => ?_)
            obtain ⟨rfl, rfl⟩ := h9
            refine tk_cc (k_goes (tk_kI16 hE3 hV3.1) (hE3.2.2.2.2.2.2 _ hV3.1).2.1) (fun v9 μ9 h9 => ?_)
            obtain ⟨rfl, rfl⟩ := h9
            refine ih2 (i + 1) _ _ (nI_1 i) (by omega) (tk_mtp hf1 _) ((tk_mtv _).trans ?_)
            rw [hF3, hv, tk_it, Int32.zero_add]
      refine tk_run (hT_X7_canBegin none) [29] 60 _ ?_
      refine And.intro (fun h1 => ?_) (fun h1 => ?_)
      all_goals try dsimp only [tk_c0, tk_c1, tk_c2, tk_c3, tk_c4, tk_c5, tk_c6, tk_c7, tk_c8, tk_c9, tk_c10, tk_c11, tk_c12, tk_c13] at h1
      · exact absurd h1 (by rw [e47]; exact nI_ge (by omega) (by omega))
      · refine And.intro (fun h2 => ?_) (fun h2 => ?_)
        all_goals try dsimp only [tk_c0, tk_c1, tk_c2, tk_c3, tk_c4, tk_c5, tk_c6, tk_c7, tk_c8, tk_c9, tk_c10, tk_c11, tk_c12, tk_c13] at h2
        · exact absurd h2 (by decide)
        · exact inner f 0 _ _ rfl (by omega) (tk_mtp hf (k, 0)) (tk_mtv (k, 0))
  refine tk_ct rfl rfl (Nat.le_of_ble_eq_true rfl) (fun l D cy => tk_run (hT_X7_canBegin none) [4] 60 _ ?_)
  exact outer l D cy m 0 _ _ _ rfl (by omega) hf0 (fun e he => absurd he (Nat.not_lt_zero e))
theorem k_mBegan {m : Nat} (hz : σ 47 0 = 0) (hE : tk_VE (tk_F σ)) (hm : m ≤ 6) (em : σ 47 23 = nI m) (hfd : tk_fm σ m) (hdp : DecidablePred (fun k : Nat => tk_cb (tk_F σ) (σ 59) (σ 60) m (nI k))) :
    tk_Ct M_X7_began [.ref 47] (σ, tk_rho a b, τ, 62) (fun v μ' => v = some (.int (tk_bits (fun k => tk_cb (tk_F σ) (σ 59) (σ 60) m (nI k)) (σ 49 0).toNatClampNeg)) ∧ ∃ σ', μ' = (σ', tk_rho a b, τ, 62) ∧ tk_Sm σ σ') := by
  obtain ⟨N, hN, e⟩ := tk_nI_of hE.2.2.2.2.1 (by decide)
  have e : σ 49 0 = nI N := e
  rw [e, nI_clamp (by omega)]
  have loop : ∀ (l : Launch) (D : va_G) (cy : Nat → ClassId) (n j : Nat) (i : Int32) (σi : Nat → Nat → Int32), i = nI j → j + n = N → tk_Sm σ σi →
      tk_J l D cy none M_X7_began (9, [some (.ref 47), some (.int (tk_bits (fun k => tk_cb (tk_F σ) (σ 59) (σ 60) m (nI k)) j)), some (.int i)], [], (σi, tk_rho a b, τ, 62), 0, 0) (fun v μ' => v = some (.int (tk_bits (fun k => tk_cb (tk_F σ) (σ 59) (σ 60) m (nI k)) N)) ∧ ∃ σ', μ' = (σ', tk_rho a b, τ, 62) ∧ tk_Sm σ σ') := by
    intro l D cy n
    induction n with
    | zero =>
      intro j i σi hi hj hf
      subst hi
      have e3 : σi 49 0 = nI N := (hf.at (by decide) 0).trans e
      refine tk_run (hT_X7_began none) [9] 60 _ ?_
      refine And.intro (fun h1 => ?_) (fun h1 => ?_)
      all_goals try dsimp only [tk_c0, tk_c1, tk_c2, tk_c3, tk_c4, tk_c5, tk_c6, tk_c7, tk_c8, tk_c9, tk_c10, tk_c11, tk_c12, tk_c13] at h1
      · refine And.intro ?_ ⟨σi, rfl, hf⟩
        rw [← hj]
        rfl
      · exact absurd (by rw [e3]; exact nI_le (by omega) (by omega)) h1
    | succ n ih =>
      intro j i σi hi hj hf
      subst hi
      have e3 : σi 49 0 = nI N := (hf.at (by decide) 0).trans e
      have h9 := fun σ9 hf9 => ih (j + 1) _ σ9 (nI_1 j) (by omega) hf9
      refine tk_run (hT_X7_began none) [9] 60 _ ?_
      refine And.intro (fun h1 => ?_) (fun h1 => ?_)
      all_goals try dsimp only [tk_c0, tk_c1, tk_c2, tk_c3, tk_c4, tk_c5, tk_c6, tk_c7, tk_c8, tk_c9, tk_c10, tk_c11, tk_c12, tk_c13] at h1
      · exact absurd h1 (by rw [e3]; exact nI_ge (by omega) (by omega))
      · refine tk_cc (k_mCan hE hm em hfd ⟨nI_pos' (by omega), by show nI j < σ 49 0; rw [e]; exact nI_lt (by omega) (by omega)⟩ hf) (fun v9 μ9 hh => ?_)
        obtain ⟨⟨rfl, hc⟩ | ⟨rfl, hc⟩, σ', rfl, hf'⟩ := hh
        · have h9 := h9 σ' hf'
          rw [tk_bits, if_pos hc] at h9
          refine And.intro (fun h2 => ?_) (fun h2 => ?_)
          all_goals try dsimp only [tk_c0, tk_c1, tk_c2, tk_c3, tk_c4, tk_c5, tk_c6, tk_c7, tk_c8, tk_c9, tk_c10, tk_c11, tk_c12, tk_c13] at h2
          · exact absurd h2 (by decide)
          · exact h9
        · have h9 := h9 σ' hf'
          rw [tk_bits, if_neg hc, ← Int32.or_zero (a := tk_bits _ j)] at h9
          refine And.intro (fun h2 => ?_) (fun h2 => ?_)
          all_goals try dsimp only [tk_c0, tk_c1, tk_c2, tk_c3, tk_c4, tk_c5, tk_c6, tk_c7, tk_c8, tk_c9, tk_c10, tk_c11, tk_c12, tk_c13] at h2
          · exact h9
          · exact absurd rfl h2
  refine tk_ct rfl rfl (Nat.le_of_ble_eq_true rfl) (fun l D cy => tk_thr (hT_X7_began none) rfl rfl rfl hz (tk_run (hT_X7_began none) [9] 60 _ ?_))
  exact loop l D cy N 0 _ _ rfl (by omega) tk_Sm.rf
end
