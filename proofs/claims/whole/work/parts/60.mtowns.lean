/-! towns, of the reference -/
/-- behind towns that were taken -/
def tk_TM (σ σ' : Nat → Nat → Int32) (G : Nat → Nat → Int32) : Prop :=
  (σ' 49 2 = G 3 0 ∧ σ' 49 3 = G 3 1 ∧ σ' 49 4 = G 3 2 ∧ σ' 49 0 = G 3 3 ∧ σ' 49 1 = G 3 4) ∧ (∀ k, k < (G 3 3).toNatClampNeg → σ' 50 k = G 4 k ∧ σ' 51 k = G 0 k ∧ σ' 52 k = G 1 k ∧ σ' 53 k = G 2 k) ∧
  (∀ k, k < 13 → σ' 55 k = if 1 ≤ k ∧ k ≤ (G 3 4).toNatClampNeg then G 5 (k - 1) else 0) ∧ (σ' 47 3 = 0 ∧ σ' 47 23 = 0 ∧ σ' 47 26 = 0 ∧ σ' 47 20 = 0 ∧ σ' 57 0 = 0 ∧ σ' 57 1 = 0) ∧
  ∀ x y, ¬ (x = 47 ∧ ((3 ≤ y ∧ y ≤ 10) ∨ y = 20 ∨ y = 23 ∨ y = 26)) → ¬ (49 ≤ x ∧ x ≤ 55) → x ≠ 57 → σ' x y = σ x y
def tk_PT (f : Nat → Int32) (L : Nat) (σ : Nat → Nat → Int32) (a b : Nat) (τ : Nat → Nat → Int64) : tk_Po := fun v μ' => (∃ q σ', tk_main f L (L + 1) tk_G0 0 0 = Sum.inl q ∧ v = some (.int (-10 - nI q)) ∧ μ' = (σ', tk_rho a b, τ, 62) ∧ tk_fD σ σ') ∨ ∃ x σ', tk_main f L (L + 1) tk_G0 0 0 = Sum.inr x ∧ v = some (.int (nI x.2)) ∧ μ' = (σ', tk_rho a b, τ, 62) ∧ tk_TM σ σ' x.1
theorem tk_mbT {f : Nat → Int32} {L p : Nat} {σ G : Nat → Nat → Int32} (hm : tk_ms f L σ (Sum.inr p)) (hG : tk_MG σ G) (h1 : σ 47 5 = 1) (h2 : tk_mb σ = true) :
    (tk_ltr f L 109 p = true ∧ G 6 0 = 0 ∧ σ 47 7 = 109) ∨ (tk_ltr f L 107 p = true ∧ G 3 3 < 8 ∧ σ 47 7 = 107) ∨ (tk_ltr f L 100 p = true ∧ σ 47 7 = 100) ∨ (tk_ltr f L 116 p = true ∧ G 3 4 < 5 ∧ σ 47 7 = 116) := by
  obtain ⟨m1, m2, m3, m4, m5, m6, m7⟩ := hm
  obtain ⟨⟨g1, g2, g3, g4, g5⟩, g6, g7, g8⟩ := hG
  have hl := tk_mk1.mp (m5.symm.trans h1)
  have key : ∀ c : Int32, ¬ tk_dg c = true → tk_ltr f L c p = true → σ 47 7 = c := fun c hc h => by
    have h := tk_ltrI.mp h
    rw [m7 h.1 (by rw [h.2]; exact hc), h.2]
  unfold tk_mb at h2
  rcases hl with h | h | h | h
  · have e := key _ (by decide) h
    rw [e, if_neg (by decide), if_neg (by decide), Bool.or_eq_true, decide_eq_true_eq, decide_eq_true_eq, g8] at h2
    exact Or.inl ⟨h, h2.resolve_left (by decide), e⟩
  · have e := key _ (by decide) h
    rw [e, if_pos rfl, decide_eq_true_eq, g4] at h2
    exact Or.inr (Or.inl ⟨h, h2, e⟩)
  · exact Or.inr (Or.inr (Or.inl ⟨h, key _ (by decide) h⟩))
  · have e := key _ (by decide) h
    rw [e, if_neg (by decide), if_pos rfl, decide_eq_true_eq, g5] at h2
    exact Or.inr (Or.inr (Or.inr ⟨h, h2, e⟩))
theorem tk_mbF {f : Nat → Int32} {L p : Nat} {σ G : Nat → Nat → Int32} (hm : tk_ms f L σ (Sum.inr p)) (hG : tk_MG σ G) (h : ¬ (σ 47 5 = 1 ∧ tk_mb σ = true)) : tk_item f L G p = Sum.inl (tk_q f L p) := by
  obtain ⟨m1, m2, m3, m4, m5, m6, m7⟩ := hm
  obtain ⟨⟨g1, g2, g3, g4, g5⟩, g6, g7, g8⟩ := hG
  have key : ∀ c : Int32, ¬ tk_dg c = true → tk_ltr f L c p = true → σ 47 7 = c := fun c hc h => by
    have h := tk_ltrI.mp h
    rw [m7 h.1 (by rw [h.2]; exact hc), h.2]
  rw [tk_item, if_neg, if_neg, if_neg, if_neg]
  · rintro ⟨hl, hc⟩
    refine h ⟨m5.trans (tk_mk1.mpr (Or.inr (Or.inr (Or.inr hl)))), ?_⟩
    rw [tk_mb, key _ (by decide) hl, if_neg (by decide), if_pos rfl, decide_eq_true_eq, g5]
    exact hc
  · intro hl
    refine h ⟨m5.trans (tk_mk1.mpr (Or.inr (Or.inr (Or.inl hl)))), ?_⟩
    rw [tk_mb, key _ (by decide) hl, if_neg (by decide), if_neg (by decide)]
    rfl
  · rintro ⟨hl, hc⟩
    refine h ⟨m5.trans (tk_mk1.mpr (Or.inr (Or.inl hl))), ?_⟩
    rw [tk_mb, key _ (by decide) hl, if_pos rfl, decide_eq_true_eq, g4]
    exact hc
  · rintro ⟨hl, hc⟩
    refine h ⟨m5.trans (tk_mk1.mpr (Or.inl hl)), ?_⟩
    rw [tk_mb, key _ (by decide) hl, if_neg (by decide), if_neg (by decide), Bool.or_eq_true, decide_eq_true_eq, decide_eq_true_eq, g8]
    exact Or.inr hc
section
variable {σ : Nat → Nat → Int32} {a b : Nat} {τ : Nat → Nat → Int64} {L : Nat} {f : Nat → Int32}
theorem k_mTowns (hz : σ 47 0 = 0) (hT : tk_Tx f L σ) : tk_Ct M_X7_towns [.ref 47] (σ, tk_rho a b, τ, 62) (tk_PT f L σ a b τ) := by
  have hL := hT.2.2.2
  have flt25 : ∀ (l : Launch) (D : va_G) (cy : Nat → ClassId) (q : Nat) (ii : Int32) (L2 : Option Value) (σi : Nat → Nat → Int32), tk_main f L (L + 1) tk_G0 0 0 = Sum.inl q → tk_ms f L σi (Sum.inl q) → tk_fD σ σi →
      tk_J l D cy none M_X7_towns (25, [some (.ref 47), some (.int ii), L2], [], (σi, tk_rho a b, τ, 62), 0, 0) (tk_PT f L σ a b τ) := by
    intro l D cy q ii L2 σi hq hm hD
    have hw : ¬ σi 47 8 < 0 := by rw [hm.2]; exact nI_pos (by have := hm.1; omega)
    refine tk_run (hT_X7_towns none) [] 80 _ ?_
    refine tk_cc (k_isWell) (fun v9 μ9 h9 => ?_)
    obtain ⟨rfl, rfl⟩ := h9
    refine And.intro (fun h1 => ?_) (fun h1 => ?_)
    all_goals try dsimp only [tk_c0, tk_c1, tk_c2, tk_c3, tk_c4, tk_c5, tk_c6, tk_c7, tk_c8, tk_c9, tk_c10, tk_c11, tk_c12, tk_c13] at h1
    · refine tk_cc (k_isWell) (fun v9 μ9 h9 => ?_)
      obtain ⟨rfl, rfl⟩ := h9
      refine And.intro (fun h2 => ?_) (fun h2 => ?_)
      all_goals try dsimp only [tk_c0, tk_c1, tk_c2, tk_c3, tk_c4, tk_c5, tk_c6, tk_c7, tk_c8, tk_c9, tk_c10, tk_c11, tk_c12, tk_c13] at h2
      · refine Or.inl ⟨q, σi, hq, ?_, rfl, hD⟩
        exact congrArg (fun z => some (Value.int (-10 - z))) hm.2
      · exact absurd (tk_b0.mpr hw) h2
    · exact absurd (tk_b0.mpr hw) h1
  have flt76 : ∀ (l : Launch) (D : va_G) (cy : Nat → ClassId) (q : Nat) (ii : Int32) (w : Int32) (σi : Nat → Nat → Int32), tk_main f L (L + 1) tk_G0 0 0 = Sum.inl q → tk_ms f L σi (Sum.inl q) → tk_fD σ σi →
      tk_J l D cy none M_X7_towns (76, [some (.ref 47), some (.int ii), some (.int w)], [], (σi, tk_rho a b, τ, 62), 0, 0) (tk_PT f L σ a b τ) := by
    intro l D cy q ii w σi hq hm hD
    have Ti := hT.fD hD
    refine tk_run (hT_X7_towns none) [25] 80 _ ?_
    refine And.intro (fun h1 => ?_) (fun h1 => ?_)
    all_goals try dsimp only [tk_c0, tk_c1, tk_c2, tk_c3, tk_c4, tk_c5, tk_c6, tk_c7, tk_c8, tk_c9, tk_c10, tk_c11, tk_c12, tk_c13] at h1
    · refine tk_cc (k_takes (c := true) rfl Ti hm) (fun v9 μ9 h9 => ?_)
      obtain ⟨rfl, σ1, rfl, hF1, hM1⟩ := h9
      exact flt25 l D cy q _ _ σ1 hq hM1 (hD.tr hF1.fD)
    · refine tk_cc (k_takes (c := false) rfl Ti hm) (fun v9 μ9 h9 => ?_)
      obtain ⟨rfl, σ1, rfl, hF1, hM1⟩ := h9
      exact flt25 l D cy q _ _ σ1 hq hM1 (hD.tr hF1.fD)
  have flt64 : ∀ (l : Launch) (D : va_G) (cy : Nat → ClassId) (q : Nat) (ii : Int32) (w : Int32) (σi : Nat → Nat → Int32), tk_main f L (L + 1) tk_G0 0 0 = Sum.inl q → tk_ms f L σi (Sum.inl q) → tk_fD σ σi →
      tk_J l D cy none M_X7_towns (64, [some (.ref 47), some (.int ii), some (.int w)], [], (σi, tk_rho a b, τ, 62), 0, 0) (tk_PT f L σ a b τ) := by
    intro l D cy q ii w σi hq hm hD
    have hw : ¬ σi 47 8 < 0 := by rw [hm.2]; exact nI_pos (by have := hm.1; omega)
    refine tk_run (hT_X7_towns none) [76] 80 _ ?_
    refine tk_cc (k_isWell) (fun v9 μ9 h9 => ?_)
    obtain ⟨rfl, rfl⟩ := h9
    refine And.intro (fun h1 => ?_) (fun h1 => ?_)
    all_goals try dsimp only [tk_c0, tk_c1, tk_c2, tk_c3, tk_c4, tk_c5, tk_c6, tk_c7, tk_c8, tk_c9, tk_c10, tk_c11, tk_c12, tk_c13] at h1
    · exact flt76 l D cy q ii w σi hq hm hD
    · exact absurd (tk_b0.mpr hw) h1
  have well64 : ∀ (l : Launch) (D : va_G) (cy : Nat → ClassId) (n : Nat) (ii : Int32) (w : Int32) (r : Sum Nat ((Nat → Nat → Int32) × Nat)) (σi : Nat → Nat → Int32), tk_ms f L σi (Sum.inr n) → tk_fD σ σi → tk_Ct M_X7_readsItem [.ref 47, .int w] (σi, tk_rho a b, τ, 62) (fun v μ' => v = none ∧ ∃ σ', μ' = (σ', tk_rho a b, τ, 62) ∧ tk_fD σi σ' ∧ tk_RM f L σ' r) →
      (∀ σ', tk_fD σ σ' → tk_RM f L σ' r → tk_J l D cy none M_X7_towns (76, [some (.ref 47), some (.int ii), some (.int w)], [], (σ', tk_rho a b, τ, 62), 0, 0) (tk_PT f L σ a b τ)) →
      tk_J l D cy none M_X7_towns (64, [some (.ref 47), some (.int ii), some (.int w)], [], (σi, tk_rho a b, τ, 62), 0, 0) (tk_PT f L σ a b τ) := by
    intro l D cy n ii w r σi hm hD hct hk
    refine tk_run (hT_X7_towns none) [76] 80 _ ?_
    refine tk_cc (k_isWell) (fun v9 μ9 h9 => ?_)
    obtain ⟨rfl, rfl⟩ := h9
    refine And.intro (fun h1 => ?_) (fun h1 => ?_)
    all_goals try dsimp only [tk_c0, tk_c1, tk_c2, tk_c3, tk_c4, tk_c5, tk_c6, tk_c7, tk_c8, tk_c9, tk_c10, tk_c11, tk_c12, tk_c13] at h1
    · exact absurd (by rw [hm.2.1]; decide) (tk_b0.mp h1)
    · refine tk_cc hct (fun v9 μ9 h9 => ?_)
      obtain ⟨rfl, σ1, rfl, hF1, hM1⟩ := h9
      exact hk σ1 (hD.tr hF1) hM1
  have loop : ∀ (l : Launch) (D : va_G) (cy : Nat → ClassId) (d p i : Nat) (G : Nat → Nat → Int32) (ii : Int32) (L2 : Option Value) (σi : Nat → Nat → Int32), ii = nI i → p ≤ L → L - p < d → tk_VG G → tk_MG σi G → tk_fD σ σi → tk_ms f L σi (Sum.inr p) → tk_main f L (L + 1) tk_G0 0 0 = tk_main f L d G p i →
      tk_J l D cy none M_X7_towns (25, [some (.ref 47), some (.int ii), L2], [], (σi, tk_rho a b, τ, 62), 0, 0) (tk_PT f L σ a b τ) := by
    intro l D cy d
    induction d with
    | zero =>
      intro p i G ii L2 σi _ _ h
      exact absurd h (Nat.not_lt_zero _)
    | succ d ih =>
      intro p i G ii L2 σi hi hp hd hV hG hD hm hmn
      subst hi
      have Ti := hT.fD hD
      have hm0 := hm
      obtain ⟨m1, m2, m3, m4, m5, m6, m7⟩ := hm0
      have hmn := hmn.trans (show tk_main f L (d + 1) G p i = (if L ≤ tk_q f L p then Sum.inr (G, i) else match tk_item f L G p with
        | Sum.inl q => Sum.inl q
        | Sum.inr x => tk_main f L d x.1 x.2 (i + 1)) from rfl)
      have hwell : σi 47 8 < 0 := by rw [m2]; decide
      have j76 : ∀ (r : Sum Nat ((Nat → Nat → Int32) × Nat)) (w : Int32), tk_item f L G p = tk_fi f L r → ¬ L ≤ tk_q f L p → ∀ σ', tk_fD σ σ' → tk_RM f L σ' r → tk_J l D cy none M_X7_towns (76, [some (.ref 47), some (.int (nI i)), some (.int w)], [], (σ', tk_rho a b, τ, 62), 0, 0) (tk_PT f L σ a b τ) := by
        intro r w hr hlt σ' hD' hR
        rw [if_neg hlt] at hmn
        cases r with
        | inl q =>
          have hr : tk_item f L G p = Sum.inl q := hr
          rw [hr] at hmn
          exact flt76 l D cy q _ w σ' hmn hR hD'
        | inr x =>
          obtain ⟨hM, hG'⟩ := hR
          have T' := hT.fD hD'
          have hr : tk_item f L G p = tk_need (tk_ltr f L 59 x.2) (tk_q f L x.2) (Sum.inr (x.1, tk_nx f L x.2)) := hr
          have hM0 := hM
          obtain ⟨p1, p2, p3, p4, p5, p6, p7⟩ := hM0
          refine tk_run (hT_X7_towns none) [25] 80 _ ?_
          refine And.intro (fun h1 => ?_) (fun h1 => ?_)
          all_goals try dsimp only [tk_c0, tk_c1, tk_c2, tk_c3, tk_c4, tk_c5, tk_c6, tk_c7, tk_c8, tk_c9, tk_c10, tk_c11, tk_c12, tk_c13] at h1
          · rw [p5] at h1
            have hl := tk_mk3.mp h1
            rw [tk_ny hl] at hr
            have hlt' := tk_item_lt hp hr
            have hV' := tk_item_V hV hr
            rw [hr] at hmn
            refine tk_cc (k_takes (c := true) rfl T' hM) (fun v9 μ9 h9 => ?_)
            obtain ⟨rfl, σ1, rfl, hF1, hM1⟩ := h9
            exact ih (tk_nx f L x.2) (i + 1) x.1 _ _ σ1 (nI_1 i) hlt'.2 (by have := hlt'.1; dsimp only at this; omega) hV' (hG'.fB hF1) (hD'.tr hF1.fD) hM1 hmn
          · rw [p5] at h1
            have hl : ¬ tk_ltr f L 59 x.2 = true := fun h => h1 (tk_mk3.mpr h)
            rw [tk_need, if_neg hl] at hr
            rw [hr] at hmn
            refine tk_cc (k_takes (c := false) rfl T' hM) (fun v9 μ9 h9 => ?_)
            obtain ⟨rfl, σ1, rfl, hF1, hM1⟩ := h9
            exact flt25 l D cy _ _ _ σ1 hmn hM1 (hD'.tr hF1.fD)
      have bad : ¬ L ≤ tk_q f L p → ¬ (σi 47 5 = 1 ∧ tk_mb σi = true) → ∀ (w : Int32) (σ' : Nat → Nat → Int32), tk_fB σi σ' → tk_ms f L σ' (Sum.inl (tk_q f L p)) → tk_J l D cy none M_X7_towns (64, [some (.ref 47), some (.int (nI i)), some (.int w)], [], (σ', tk_rho a b, τ, 62), 0, 0) (tk_PT f L σ a b τ) := by
        intro hlt hb w σ' hF hM
        rw [if_neg hlt, tk_mbF hm hG hb] at hmn
        exact flt64 l D cy _ _ w σ' hmn hM (hD.tr hF.fD)
      have good : ¬ L ≤ tk_q f L p → σi 47 5 = 1 → tk_mb σi = true → ∀ (w : Int32) (σ' : Nat → Nat → Int32), w = σi 47 7 → tk_fB σi σ' → tk_ms f L σ' (Sum.inr (tk_nx f L p)) → tk_J l D cy none M_X7_towns (64, [some (.ref 47), some (.int (nI i)), some (.int w)], [], (σ', tk_rho a b, τ, 62), 0, 0) (tk_PT f L σ a b τ) := by
        intro hlt h1 h2 w σ' hw hF hM
        have T' := Ti.fB hF
        have G' := hG.fB hF
        obtain ⟨K, N, hK, hN, eK, eN, _⟩ := id hV
        rcases tk_mbT hm hG h1 h2 with ⟨hl, hc, e⟩ | ⟨hl, hc, e⟩ | ⟨hl, e⟩ | ⟨hl, hc, e⟩
        · rw [e] at hw
          subst hw
          exact well64 l D cy _ _ _ _ σ' hM (hD.tr hF.fD) (k_riM T' hM G') (j76 _ _ (by rw [tk_item, if_pos ⟨hl, hc⟩]) hlt)
        · rw [e] at hw
          subst hw
          have hK8 : K < 8 := by
            rw [eK] at hc
            exact (nI_ltI (b := 8) (by omega) (by omega)).mp hc
          exact well64 l D cy _ _ _ _ σ' hM (hD.tr hF.fD) (k_riK T' hM G' hK8 eK) (j76 _ _ (by rw [tk_item, if_neg (fun h => tk_ltr1 hl (by decide) h.1), if_pos ⟨hl, hc⟩]) hlt)
        · rw [e] at hw
          subst hw
          exact well64 l D cy _ _ _ _ σ' hM (hD.tr hF.fD) (k_riD T' hM G' hK eK) (j76 _ _ (by rw [tk_item, if_neg (fun h => tk_ltr1 hl (by decide) h.1), if_neg (fun h => tk_ltr1 hl (by decide) h.1), if_pos hl]) hlt)
        · rw [e] at hw
          subst hw
          have hN5 : N < 5 := by
            rw [eN] at hc
            exact (nI_ltI (b := 5) (by omega) (by omega)).mp hc
          exact well64 l D cy _ _ _ _ σ' hM (hD.tr hF.fD) (k_riT T' hM G' hN5 eN) (j76 _ _ (by rw [tk_item, if_neg (fun h => tk_ltr1 hl (by decide) h.1), if_neg (fun h => tk_ltr1 hl (by decide) h.1), if_neg (tk_ltr1 hl (by decide)), if_pos ⟨hl, hc⟩]) hlt)
      refine tk_run (hT_X7_towns none) [25, 64] 80 _ ?_
      refine tk_cc (k_isWell) (fun v9 μ9 h9 => ?_)
      obtain ⟨rfl, rfl⟩ := h9
      refine And.intro (fun h1 => ?_) (fun h1 => ?_)
      all_goals try dsimp only [tk_c0, tk_c1, tk_c2, tk_c3, tk_c4, tk_c5, tk_c6, tk_c7, tk_c8, tk_c9, tk_c10, tk_c11, tk_c12, tk_c13] at h1
      · exact absurd hwell (tk_b0.mp h1)
      · refine And.intro (fun h2 => ?_) (fun h2 => ?_)
        all_goals try dsimp only [tk_c0, tk_c1, tk_c2, tk_c3, tk_c4, tk_c5, tk_c6, tk_c7, tk_c8, tk_c9, tk_c10, tk_c11, tk_c12, tk_c13] at h2
        · rw [m5] at h2
          have hend := tk_mk0.mp h2
          rw [if_pos hend] at hmn
          obtain ⟨K, N, hK, hN, eK, eN, _⟩ := id hV
          obtain ⟨⟨g1, g2, g3, g4, g5⟩, g6, g7, g8⟩ := hG
          refine tk_cc (k_isWell) (fun v9 μ9 h9 => ?_)
          obtain ⟨rfl, rfl⟩ := h9
          refine And.intro (fun h3 => ?_) (fun h3 => ?_)
          all_goals try dsimp only [tk_c0, tk_c1, tk_c2, tk_c3, tk_c4, tk_c5, tk_c6, tk_c7, tk_c8, tk_c9, tk_c10, tk_c11, tk_c12, tk_c13] at h3
          · exact absurd hwell (tk_b0.mp h3)
          · refine tk_cc (k_settles hN (g5.trans eN)) (fun v9 μ9 h9 => ?_)
            obtain ⟨rfl, σ1, rfl, s1, s2, s3, s4, s5⟩ := h9
            refine Or.inr ⟨(G, i), σ1, hmn, rfl, rfl, ⟨?_, ?_, ?_, ?_, ?_⟩, fun k hk => ?_, fun k hk => ?_, s4, fun x y q1 q2 q3 => ?_⟩
            · exact (s1 2 (by omega)).trans g1
            · exact (s1 3 (by omega)).trans g2
            · exact (s1 4 (by omega)).trans g3
            · exact (s1 0 (by omega)).trans g4
            · exact (s1 1 (by omega)).trans g5
            · have hcl : (G 3 3).toNatClampNeg = K := by rw [eK, nI_clamp (by omega)]
              have hk2 : k < K := by rw [← hcl]; exact hk
              obtain ⟨q1, q2, q3, q4⟩ := s2 k (by omega)
              obtain ⟨p1, p2, p3, p4⟩ := g6 k hk
              exact ⟨q1.trans p1, q2.trans p2, q3.trans p3, q4.trans p4⟩
            · have hcl : (G 3 4).toNatClampNeg = N := by rw [eN, nI_clamp (by omega)]
              rw [s3 k hk, hcl]
              by_cases hkk : 1 ≤ k ∧ k ≤ N
              · rw [if_pos hkk, if_pos hkk]
                exact g7 (k - 1) (by rw [hcl]; omega)
              · rw [if_neg hkk, if_neg hkk]
            · rw [s5 x y (by omega) (by omega) (by omega) q3 (by omega)]
              exact hD x y (by omega) (by omega) (by omega) (by omega)
        · rw [m5] at h2
          have hlt : ¬ L ≤ tk_q f L p := fun h => h2 (tk_mk0.mpr h)
          refine And.intro (fun h3 => ?_) (fun h3 => ?_)
          all_goals try dsimp only [tk_c0, tk_c1, tk_c2, tk_c3, tk_c4, tk_c5, tk_c6, tk_c7, tk_c8, tk_c9, tk_c10, tk_c11, tk_c12, tk_c13] at h3
          · refine tk_cc (k_mayBegin) (fun v9 μ9 h9 => ?_)
            obtain ⟨rfl, rfl⟩ := h9
            refine And.intro (fun h4 => ?_) (fun h4 => ?_)
            all_goals try dsimp only [tk_c0, tk_c1, tk_c2, tk_c3, tk_c4, tk_c5, tk_c6, tk_c7, tk_c8, tk_c9, tk_c10, tk_c11, tk_c12, tk_c13] at h4
            all_goals rw [tk_i01] at h4
            · refine tk_cc (k_takes (c := false) rfl Ti hm) (fun v9 μ9 h9 => ?_)
              obtain ⟨rfl, σ1, rfl, hF1, hM1⟩ := h9
              exact bad hlt (fun h => h4 h.2) _ σ1 hF1 hM1
            · have h4 := Decidable.not_not.mp h4
              refine tk_cc (k_takes (c := true) rfl Ti hm) (fun v9 μ9 h9 => ?_)
              obtain ⟨rfl, σ1, rfl, hF1, hM1⟩ := h9
              exact good hlt h3 h4 _ σ1 rfl hF1 hM1
          · refine tk_cc (k_takes (c := false) rfl Ti hm) (fun v9 μ9 h9 => ?_)
            obtain ⟨rfl, σ1, rfl, hF1, hM1⟩ := h9
            exact bad hlt (fun h => h3 h.1) _ σ1 hF1 hM1
  refine tk_ct rfl rfl (Nat.le_of_ble_eq_true rfl) (fun l D cy => tk_thr (hT_X7_towns none) rfl rfl rfl hz ?_)
  have beg : ∀ σ0 : Nat → Nat → Int32, σ0 = tk_up (tk_up (tk_up (tk_up (tk_up (tk_up (tk_up (tk_up σ 47 8 (-1)) 47 4 0) 47 10 0) 49 5 0) 49 6 0) 49 7 10) 49 8 3) 49 9 0 → tk_J l D cy none M_X7_towns (19, [some (.ref 47), none, none], [], (σ0, tk_rho a b, τ, 62), 0, 0) (tk_PT f L σ a b τ) := by
    intro σ0 h0
    have hD0 : tk_fD σ σ0 := by
      rw [h0]
      exact ((((((((tk_fD.up (by omega)).tr (tk_fD.up (by omega))).tr (tk_fD.up (by omega))).tr (tk_fD.up (by omega))).tr (tk_fD.up (by omega))).tr (tk_fD.up (by omega))).tr (tk_fD.up (by omega))).tr (tk_fD.up (by omega)))
    have T0 := hT.fD hD0
    have e4 : σ0 47 4 = nI 0 := by rw [h0]; simp [tk_up]; rfl
    have e8 : σ0 47 8 = -1 := by rw [h0]; simp [tk_up]
    have hG0 : tk_MG σ0 tk_G0 := by
      refine ⟨⟨?_, ?_, ?_, ?_, ?_⟩, fun k hk => absurd hk (Nat.not_lt_zero k), fun t ht => absurd ht (Nat.not_lt_zero t), ?_⟩ <;> rw [h0] <;> simp [tk_up, tk_G0]
    have had := k_advances (σ := σ0) (a := a) (b := b) (τ := τ) (p := 0) (L := L) (by rw [T0.1]; exact hT.2.2.1) hL T0.2.1 (by omega) e4
    rw [T0.1] at had
    refine tk_run (hT_X7_towns none) [25] 80 _ ?_
    refine tk_cc had (fun v9 μ9 h9 => ?_)
    obtain ⟨rfl, σ1, rfl, hF1, hA1⟩ := h9
    have hB1 : tk_fB σ0 σ1 := fun x y h => hF1 x y (fun q => h ⟨q.1, by omega⟩)
    exact loop l D cy (L + 1) 0 0 tk_G0 _ _ σ1 rfl (by omega) (by omega) tk_G0V (hG0.fB hB1) (hD0.tr hB1.fD) ⟨by omega, (hF1 47 8 (by omega)).trans e8, hA1⟩ rfl
  refine tk_run (hT_X7_towns none) [19] 80 _ ?_
  refine tk_cc (k_begins rfl) (fun v9 μ9 h9 => ?_)
  obtain ⟨rfl, rfl⟩ := h9
  exact beg _ rfl
end
