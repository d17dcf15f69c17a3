/-! meet, of both sides -/
def tk_mm (E : Nat → Nat → Int32) (t d : Int32) (s : Int32 × Int32) (d2 : Int32) (s2 : Int32 × Int32) : Option Nat := tk_fst (fun n => (tk_iT E t d n s).2 = 0 ∧ (tk_iT E t d2 n s2).2 = 0 ∧ (tk_iT E t d n s).1 = (tk_iT E t d2 n s2).1) 401 0
section
variable {t k u : Int32} {σ : Nat → Nat → Int32} {a b : Nat} {τ : Nat → Nat → Int64}
theorem k_cMeet_loop {l : Launch} {D : va_G} {cy : Nat → ClassId} {d d2 : Int32} {s s2 : Int32 × Int32} (ha : tk_tw a) (hE : tk_VE (tk_E σ a)) (hs : tk_VS (tk_E σ a) s) (hd : tk_VT d s) (hs2 : tk_VS (tk_E σ a) s2) (hd2 : tk_VT d2 s2) :
    ∀ (n j : Nat) (i : Int32) (x4 : Option Value) (σi : Nat → Nat → Int32), i = nI j → j + n = 401 → tk_Sc σ σi → σi 45 2 = d → σi 46 2 = d2 → (σi 45 0, σi 45 1) = tk_iT (tk_E σ a) (σ 16 0) d j s → (σi 46 0, σi 46 1) = tk_iT (tk_E σ a) (σ 16 0) d2 j s2 →
    tk_J l D cy none M_X6_meet (63, [some (.ref 1), some (.int t), some (.int u), some (.int i), x4], [], (σi, tk_rho a b, τ, 62), 0, 0)
      (fun v μ' => v = some (.int (tk_on (tk_fst (fun n => (tk_iT (tk_E σ a) (σ 16 0) d n s).2 = 0 ∧ (tk_iT (tk_E σ a) (σ 16 0) d2 n s2).2 = 0 ∧ (tk_iT (tk_E σ a) (σ 16 0) d n s).1 = (tk_iT (tk_E σ a) (σ 16 0) d2 n s2).1) n j) (σ 16 0))) ∧ ∃ σ', μ' = (σ', tk_rho a b, τ, 62) ∧ tk_Sc σ σ') := by
  intro n
  induction n with
  | zero =>
    intro j i x4 σi hi0 hj hf _ _ _ _
    subst hi0
    refine tk_run (hT_X6_meet none) [63] 60 _ ?_
    refine And.intro (fun h1 => ?_) (fun h1 => ?_)
    all_goals try dsimp only [tk_c0, tk_c1, tk_c2, tk_c3, tk_c4, tk_c5, tk_c6, tk_c7, tk_c8, tk_c9, tk_c10, tk_c11, tk_c12, tk_c13] at h1
    · exact And.intro rfl ⟨σi, rfl, hf⟩
    · exact absurd (nI_lt (a := 400) (by omega) (by omega)) h1
  | succ n ih =>
    intro j i x4 σi hi0 hj hf e2 e22 hi hi2
    subst hi0
    have hV := tk_iT_V (t := σ 16 0) (d := d) hE hs j
    have hT := tk_iT_T (E := tk_E σ a) (t := σ 16 0) hd j
    rw [← hi] at hV hT
    have hV2 := tk_iT_V (t := σ 16 0) (d := d2) hE hs2 j
    have hT2 := tk_iT_T (E := tk_E σ a) (t := σ 16 0) hd2 j
    rw [← hi2] at hV2 hT2
    have hF := hf.E ha
    have e0 : σi 16 0 = σ 16 0 := hf _ _ (by decide) (by decide)
    rw [tk_fst, ← hi, ← hi2]
    have more : ¬ (σi 45 1 = 0 ∧ σi 46 1 = 0 ∧ σi 45 0 = σi 46 0) → tk_J l D cy none M_X6_meet (107, [some (.ref 1), some (.int t), some (.int u), some (.int (nI j)), x4], [], (σi, tk_rho a b, τ, 62), 0, 0)
      (fun v μ' => v = some (.int (tk_on (if ((σi 45 0, σi 45 1) : Int32 × Int32).2 = 0 ∧ ((σi 46 0, σi 46 1) : Int32 × Int32).2 = 0 ∧ ((σi 45 0, σi 45 1) : Int32 × Int32).1 = ((σi 46 0, σi 46 1) : Int32 × Int32).1 then some j else tk_fst (fun n => (tk_iT (tk_E σ a) (σ 16 0) d n s).2 = 0 ∧ (tk_iT (tk_E σ a) (σ 16 0) d2 n s2).2 = 0 ∧ (tk_iT (tk_E σ a) (σ 16 0) d n s).1 = (tk_iT (tk_E σ a) (σ 16 0) d2 n s2).1) n (j + 1)) (σ 16 0))) ∧ ∃ σ', μ' = (σ', tk_rho a b, τ, 62) ∧ tk_Sc σ σ') := by
      intro hn
      rw [if_neg hn]
      refine tk_run (hT_X6_meet none) [63] 60 _ ?_
      refine tk_ift (tk_twok ha) ?_
      refine tk_cc (k_levelOf ha (by have := hE.1; rw [← hF] at this; exact this)) (fun v9 μ9 h9 => ?_)
      obtain ⟨rfl, rfl⟩ := h9
      refine tk_cc (k_passA (p := 45) rfl ha (by rw [hF]; exact hE) (by rw [hF]; exact hV) (by rw [e2]; exact hT)) (fun v9 μ9 h9 => ?_)
      obtain ⟨rfl, rfl⟩ := h9
      have hf1 := tk_stp hf (Or.inl rfl) (tk_sT (tk_E σi a) (tk_lev (σi a 0) (σi a 1) (σi a 2) (σi 16 0 + nI j)) (σi 45 2) (σi 45 0, σi 45 1))
      have hv1 := tk_stv (σi := σi) (p := 45) (tk_sT (tk_E σi a) (tk_lev (σi a 0) (σi a 1) (σi a 2) (σi 16 0 + nI j)) (σi 45 2) (σi 45 0, σi 45 1))
      have hd1 := tk_std (σi := σi) (p := 45) (tk_sT (tk_E σi a) (tk_lev (σi a 0) (σi a 1) (σi a 2) (σi 16 0 + nI j)) (σi 45 2) (σi 45 0, σi 45 1))
      have hk1 : ∀ y, tk_up (tk_up σi 45 0 (tk_sT (tk_E σi a) (tk_lev (σi a 0) (σi a 1) (σi a 2) (σi 16 0 + nI j)) (σi 45 2) (σi 45 0, σi 45 1)).1) 45 1 (tk_sT (tk_E σi a) (tk_lev (σi a 0) (σi a 1) (σi a 2) (σi 16 0 + nI j)) (σi 45 2) (σi 45 0, σi 45 1)).2 46 y = σi 46 y := fun y => by rw [tk_up_p _ _ _ (by decide), tk_up_p _ _ _ (by decide)]
      generalize tk_up (tk_up σi 45 0 (tk_sT (tk_E σi a) (tk_lev (σi a 0) (σi a 1) (σi a 2) (σi 16 0 + nI j)) (σi 45 2) (σi 45 0, σi 45 1)).1) 45 1 (tk_sT (tk_E σi a) (tk_lev (σi a 0) (σi a 1) (σi a 2) (σi 16 0 + nI j)) (σi 45 2) (σi 45 0, σi 45 1)).2 = σ1 at hf1 hv1 hd1 hk1 ⊢
      have hF1 := hf1.E ha
      refine tk_cc (k_passA (p := 46) rfl ha (by rw [hF1]; exact hE) (by rw [hF1, hk1, hk1]; exact hV2) (by rw [hk1, hk1, hk1, e22]; exact hT2)) (fun v9 μ9 h9 => ?_)
      obtain ⟨rfl, rfl⟩ := h9
      refine ih (j + 1) _ _ _ (nI_1 j) (by omega) (tk_stp hf1 (Or.inr rfl) _) ?_ ((tk_std _).trans ((hk1 2).trans e22)) ?_ ((tk_stv _).trans ?_)
      · rw [tk_up_p _ _ _ (by decide), tk_up_p _ _ _ (by decide)]
        exact hd1.trans e2
      · rw [tk_up_p _ _ _ (by decide), tk_up_p _ _ _ (by decide), tk_up_p _ _ _ (by decide), tk_up_p _ _ _ (by decide)]
        refine hv1.trans ?_
        show tk_sT (tk_E σi a) (tk_lv' (tk_E σi a) (σi 16 0 + nI j)) (σi 45 2) (σi 45 0, σi 45 1) = _
        rw [hF, e0, hi, e2]
        rfl
      · show tk_sT (tk_E σ1 a) (tk_lv' (tk_E σi a) (σi 16 0 + nI j)) (σ1 46 2) (σ1 46 0, σ1 46 1) = _
        rw [hF1, hF, e0, hk1, hk1, hk1, hi2, e22]
        rfl
    refine tk_run (hT_X6_meet none) [63, 107] 60 _ ?_
    refine And.intro (fun h1 => ?_) (fun h1 => ?_)
    all_goals try dsimp only [tk_c0, tk_c1, tk_c2, tk_c3, tk_c4, tk_c5, tk_c6, tk_c7, tk_c8, tk_c9, tk_c10, tk_c11, tk_c12, tk_c13] at h1
    · exact absurd h1 (nI_nlt (a := 400) (b := j) (by omega) (by omega))
    · refine tk_cc (k_lies (p := 45) rfl) (fun v9 μ9 h9 => ?_)
      obtain ⟨rfl, rfl⟩ := h9
      refine And.intro (fun h2 => ?_) (fun h2 => ?_)
      all_goals try dsimp only [tk_c0, tk_c1, tk_c2, tk_c3, tk_c4, tk_c5, tk_c6, tk_c7, tk_c8, tk_c9, tk_c10, tk_c11, tk_c12, tk_c13] at h2
      · exact more (fun h => tk_b0.mp h2 h.1)
      · have h2 := Decidable.not_not.mp (fun h => h2 (tk_b0.mpr h))
        refine tk_cc (k_liesOn (p := 46) rfl) (fun v9 μ9 h9 => ?_)
        obtain ⟨rfl, rfl⟩ := h9
        refine And.intro (fun h3 => ?_) (fun h3 => ?_)
        all_goals try dsimp only [tk_c0, tk_c1, tk_c2, tk_c3, tk_c4, tk_c5, tk_c6, tk_c7, tk_c8, tk_c9, tk_c10, tk_c11, tk_c12, tk_c13] at h3
        · exact more (fun h => tk_b0.mp h3 ⟨h.2.1, h.2.2.symm⟩)
        · have h3 := Decidable.not_not.mp (fun h => h3 (tk_b0.mpr h))
          rw [if_pos ⟨h2, h3.1, h3.2.symm⟩]
          refine And.intro ?_ ⟨σi, rfl, hf⟩
          dsimp only
          rw [e0]
          rfl
theorem k_cMeet (ha : tk_tw a) (hE : tk_VE (tk_E σ a)) (hT : tk_CT a σ) :
    tk_Ct M_X6_meet [.ref 1, .int t, .int u] (σ, tk_rho a b, τ, 62) (fun v μ' => v = some (.int (if (0 ≤ t ∧ t < σ a 4) ∧ (0 ≤ u ∧ u < σ a 4) ∧ ¬ t = u then tk_on (tk_mm (tk_E σ a) (σ 16 0) (σ (18 + t.toNatClampNeg) 2) (σ (18 + t.toNatClampNeg) 0, σ (18 + t.toNatClampNeg) 1) (σ (18 + u.toNatClampNeg) 2) (σ (18 + u.toNatClampNeg) 0, σ (18 + u.toNatClampNeg) 1)) (σ 16 0) else -1)) ∧ ∃ σ', μ' = (σ', tk_rho a b, τ, 62) ∧ tk_Sc σ σ') := by
  refine tk_ct rfl rfl (Nat.le_of_ble_eq_true rfl) (fun l D cy => tk_run (hT_X6_meet none) [63] 60 _ ?_)
  refine tk_ift (tk_twok ha) ?_
  refine tk_cc (k_isThing ha) (fun v9 μ9 h9 => ?_)
  obtain ⟨rfl, rfl⟩ := h9
  refine And.intro (fun h1 => ?_) (fun h1 => ?_)
  all_goals try dsimp only [tk_c0, tk_c1, tk_c2, tk_c3, tk_c4, tk_c5, tk_c6, tk_c7, tk_c8, tk_c9, tk_c10, tk_c11, tk_c12, tk_c13] at h1
  · refine And.intro ?_ ⟨_, rfl, tk_Sc.rf⟩
    rw [if_neg (fun h => tk_b0.mp h1 h.1)]
  · have h1 := Decidable.not_not.mp (fun h => h1 (tk_b0.mpr h))
    refine tk_ift (tk_twok ha) ?_
    refine tk_cc (k_isThing ha) (fun v9 μ9 h9 => ?_)
    obtain ⟨rfl, rfl⟩ := h9
    refine And.intro (fun h2 => ?_) (fun h2 => ?_)
    all_goals try dsimp only [tk_c0, tk_c1, tk_c2, tk_c3, tk_c4, tk_c5, tk_c6, tk_c7, tk_c8, tk_c9, tk_c10, tk_c11, tk_c12, tk_c13] at h2
    · refine And.intro ?_ ⟨_, rfl, tk_Sc.rf⟩
      rw [if_neg (fun h => tk_b0.mp h2 h.2.1)]
    · have h2 := Decidable.not_not.mp (fun h => h2 (tk_b0.mpr h))
      refine And.intro (fun h3 => ?_) (fun h3 => ?_)
      all_goals try dsimp only [tk_c0, tk_c1, tk_c2, tk_c3, tk_c4, tk_c5, tk_c6, tk_c7, tk_c8, tk_c9, tk_c10, tk_c11, tk_c12, tk_c13] at h3
      · refine And.intro ?_ ⟨_, rfl, tk_Sc.rf⟩
        rw [if_neg (fun h => h.2.2 h3)]
      · rw [if_pos ⟨h1, h2, h3⟩]
        obtain ⟨j, hj, rfl⟩ := tk_ix h1 hE.2.2.2.2.2.1.2 (by decide)
        obtain ⟨m, hm, rfl⟩ := tk_ix h2 hE.2.2.2.2.2.1.2 (by decide)
        have hs := hT j (by omega) h1.2
        have hs2 := hT m (by omega) h2.2
        rw [nI_clamp (by omega), nI_clamp (by omega)]
        refine tk_ift (tk_in_nI (n := 5) hj (by decide)) ?_
        refine tk_osi (by rw [nI_clamp (by omega)]; exact tk_th hj) ?_
        refine tk_cc (k_becomes (p := 45) rfl (tk_thok hj) (by omega) (tk_VT01 hs.2)) (fun v9 μ9 h9 => ?_)
        obtain ⟨rfl, rfl⟩ := h9
        have hf1 := tk_bec (σ := σ) tk_Sc.rf (Or.inl rfl) (σ (18 + j) 0) (σ (18 + j) 1) (σ (18 + j) 2)
        have g0 : ∀ x y z, tk_up (tk_up (tk_up σ 45 0 x) 45 1 y) 45 2 z 45 0 = x := fun x y z => by rw [tk_up_k _ _ _ (by decide), tk_up_k _ _ _ (by decide), tk_up_at]
        have g1 : ∀ x y z, tk_up (tk_up (tk_up σ 45 0 x) 45 1 y) 45 2 z 45 1 = y := fun x y z => by rw [tk_up_k _ _ _ (by decide), tk_up_at]
        have g2 : ∀ x y z, tk_up (tk_up (tk_up σ 45 0 x) 45 1 y) 45 2 z 45 2 = z := fun x y z => tk_up_at _ _ _ _
        have k0 := g0 (σ (18 + j) 0) (σ (18 + j) 1) (σ (18 + j) 2)
        have k1 := g1 (σ (18 + j) 0) (σ (18 + j) 1) (σ (18 + j) 2)
        have k2 := g2 (σ (18 + j) 0) (σ (18 + j) 1) (σ (18 + j) 2)
        generalize tk_up (tk_up (tk_up σ 45 0 (σ (18 + j) 0)) 45 1 (σ (18 + j) 1)) 45 2 (σ (18 + j) 2) = σ1 at hf1 k0 k1 k2 ⊢
        have em : ∀ y, σ1 (18 + m) y = σ (18 + m) y := fun y => hf1 _ _ (by omega) (by omega)
        refine tk_ift (tk_in_nI (n := 5) hm (by decide)) ?_
        refine tk_osi (by rw [nI_clamp (by omega)]; exact tk_th hm) ?_
        refine tk_cc (k_becomes (p := 46) rfl (tk_thok hm) (by omega) (by rw [em]; exact tk_VT01 hs2.2)) (fun v9 μ9 h9 => ?_)
        obtain ⟨rfl, rfl⟩ := h9
        refine k_cMeet_loop ha hE hs.1 hs.2 hs2.1 hs2.2 401 0 _ _ _ rfl rfl (tk_bec hf1 (Or.inr rfl) _ _ _) ?_ ((tk_up_at _ _ _ _).trans (em 2)) ?_ ?_
        · rw [tk_up_p _ _ _ (by decide), tk_up_p _ _ _ (by decide), tk_up_p _ _ _ (by decide)]
          exact k2
        · rw [tk_up_p _ _ _ (by decide), tk_up_p _ _ _ (by decide), tk_up_p _ _ _ (by decide), tk_up_p _ _ _ (by decide), tk_up_p _ _ _ (by decide), tk_up_p _ _ _ (by decide), k0, k1]
          rfl
        · rw [tk_up_k _ _ _ (by decide), tk_up_k _ _ _ (by decide), tk_up_at, tk_up_k _ _ _ (by decide), tk_up_at, em, em]
          rfl
theorem k_mMeet_loop {l : Launch} {D : va_G} {cy : Nat → ClassId} {s s2 : Int32 × Int32} (hE : tk_VE (tk_F σ)) (hs : tk_VS (tk_F σ) s) (hs2 : tk_VS (tk_F σ) s2) :
    ∀ (n j : Nat) (i : Int32) (S2 : Int32 × Int32) (x6 x7 : Option Value) (σi : Nat → Nat → Int32), i = nI j → j + n = 401 → tk_Sm σ σi → (σi 47 27, σi 47 28) = tk_iT (tk_F σ) (σ 55 0) (tk_mt σ t) j s → S2 = tk_iT (tk_F σ) (σ 55 0) (tk_mt σ u) j s2 →
    tk_J l D cy none M_X7_meet (52, [some (.ref 47), some (.int t), some (.int u), some (.int S2.1), some (.int S2.2), some (.int i), x6, x7], [], (σi, tk_rho a b, τ, 62), 0, 0)
      (fun v μ' => v = some (.int (tk_on (tk_fst (fun n => (tk_iT (tk_F σ) (σ 55 0) (tk_mt σ t) n s).2 = 0 ∧ (tk_iT (tk_F σ) (σ 55 0) (tk_mt σ u) n s2).2 = 0 ∧ (tk_iT (tk_F σ) (σ 55 0) (tk_mt σ t) n s).1 = (tk_iT (tk_F σ) (σ 55 0) (tk_mt σ u) n s2).1) n j) (σ 55 0))) ∧ ∃ σ', μ' = (σ', tk_rho a b, τ, 62) ∧ tk_Sm σ σ') := by
  intro n
  induction n with
  | zero =>
    intro j i S2 x6 x7 σi hi0 hj hf _ _
    subst hi0
    refine tk_run (hT_X7_meet none) [52] 60 _ ?_
    refine And.intro (fun h1 => ?_) (fun h1 => ?_)
    all_goals try dsimp only [tk_c0, tk_c1, tk_c2, tk_c3, tk_c4, tk_c5, tk_c6, tk_c7, tk_c8, tk_c9, tk_c10, tk_c11, tk_c12, tk_c13] at h1
    · exact And.intro rfl ⟨σi, rfl, hf⟩
    · exact absurd (nI_lt (a := 400) (by omega) (by omega)) h1
  | succ n ih =>
    intro j i S2 x6 x7 σi hi0 hj hf hi hi2
    subst hi0
    have hV := tk_iT_V (t := σ 55 0) (d := tk_mt σ t) hE hs j
    rw [← hi] at hV
    have hV2 := tk_iT_V (t := σ 55 0) (d := tk_mt σ u) hE hs2 j
    rw [← hi2] at hV2
    rw [tk_fst, ← hi, ← hi2]
    have stC : ∀ (σ3 : Nat → Nat → Int32) (S : Int32 × Int32) (y3 y4 : Option Value), tk_Sm σ σ3 → (σ3 47 27, σ3 47 28) = tk_iT (tk_F σ) (σ 55 0) (tk_mt σ u) (j + 1) s2 → S = tk_iT (tk_F σ) (σ 55 0) (tk_mt σ t) (j + 1) s →
        tk_J l D cy none M_X7_meet (165, [some (.ref 47), some (.int t), some (.int u), y3, y4, some (.int (nI j)), some (.int S.1), some (.int S.2)], [], (σ3, tk_rho a b, τ, 62), 0, 0) (fun v μ' => v = some (.int (tk_on (tk_fst (fun n => (tk_iT (tk_F σ) (σ 55 0) (tk_mt σ t) n s).2 = 0 ∧ (tk_iT (tk_F σ) (σ 55 0) (tk_mt σ u) n s2).2 = 0 ∧ (tk_iT (tk_F σ) (σ 55 0) (tk_mt σ t) n s).1 = (tk_iT (tk_F σ) (σ 55 0) (tk_mt σ u) n s2).1) n (j + 1)) (σ 55 0))) ∧ ∃ σ', μ' = (σ', tk_rho a b, τ, 62) ∧ tk_Sm σ σ') := by
      intro σ3 S y3 y4 hf3 h2 hS
      refine tk_run (hT_X7_meet none) [52] 60 _ ?_
      refine ih (j + 1) _ (σ3 47 27, σ3 47 28) _ _ _ (nI_1 j) (by omega) (tk_mtp hf3 S) ((tk_mtv S).trans hS) h2
    have stD : ∀ (σ3 : Nat → Nat → Int32) (S : Int32 × Int32), tk_Sm σ σ3 → (σ3 47 27, σ3 47 28) = S2 → S = tk_iT (tk_F σ) (σ 55 0) (tk_mt σ t) (j + 1) s →
        tk_J l D cy none M_X7_meet (139, [some (.ref 47), some (.int t), some (.int u), some (.int S2.1), some (.int S2.2), some (.int (nI j)), some (.int S.1), some (.int S.2)], [], (σ3, tk_rho a b, τ, 62), 0, 0) (fun v μ' => v = some (.int (tk_on (tk_fst (fun n => (tk_iT (tk_F σ) (σ 55 0) (tk_mt σ t) n s).2 = 0 ∧ (tk_iT (tk_F σ) (σ 55 0) (tk_mt σ u) n s2).2 = 0 ∧ (tk_iT (tk_F σ) (σ 55 0) (tk_mt σ t) n s).1 = (tk_iT (tk_F σ) (σ 55 0) (tk_mt σ u) n s2).1) n (j + 1)) (σ 55 0))) ∧ ∃ σ', μ' = (σ', tk_rho a b, τ, 62) ∧ tk_Sm σ σ') := by
      intro σ3 S hf3 hv3 h2
      have hF3 := hf3.F
      have hE3 : tk_VE (tk_F σ3) := by rw [hF3]; exact hE
      have hV3 : tk_VS (tk_F σ3) (σ3 47 27, σ3 47 28) := by rw [hF3, hv3]; exact hV2
      have e0 : σ3 55 0 = σ 55 0 := hf3.at (by decide) 0
      have e11 : tk_b ((σ3 55 11 >>> (u &&& 31)) &&& 1 = 1) = tk_mt σ u := by
        rw [hf3.at (by decide) 11]
        exact tk_bmt (tk_mt01 σ u)
      refine tk_run (hT_X7_meet none) [52, 165] 60 _ ?_
      refine tk_cc (k_mTied) (fun v9 μ9 h9 => ?_)
      obtain ⟨rfl, rfl⟩ := h9
      rw [e11]
      refine And.intro (fun h4 => ?_) (fun h4 => ?_)
      all_goals try dsimp only [tk_c0, tk_c1, tk_c2, tk_c3, tk_c4, tk_c5, tk_c6, tk_c7, tk_c8, tk_c9, tk_c10, tk_c11, tk_c12, tk_c13] at h4
      · refine tk_cc (k_mLev hE3.1) (fun v9 μ9 h9 => ?_)
        obtain ⟨rfl, rfl⟩ := h9
        refine tk_cc (k_goes (tk_kI16 hE3 hV3.1) (hE3.2.2.2.2.2.2 _ hV3.1).2.1) (fun v9 μ9 h9 => ?_)
        obtain ⟨rfl, rfl⟩ := h9
        refine stC _ S _ _ (tk_mtp hf3 _) ((tk_mtv _).trans ?_) h2
        dsimp only [tk_c0]
        rw [hF3, e0, hv3, hi2, tk_iT, tk_sT, if_neg (fun h => by rw [h4] at h; exact absurd h (by decide))]
      · refine stC _ S _ _ hf3 ?_ h2
        rw [hv3, hi2, tk_iT, tk_sT, if_pos ((tk_mt01 σ u).resolve_left h4)]
    have stB : ∀ (σ2 : Nat → Nat → Int32) (y6 y7 : Option Value), tk_Sm σ σ2 → (σ2 47 27, σ2 47 28) = tk_iT (tk_F σ) (σ 55 0) (tk_mt σ t) (j + 1) s →
        tk_J l D cy none M_X7_meet (116, [some (.ref 47), some (.int t), some (.int u), some (.int S2.1), some (.int S2.2), some (.int (nI j)), y6, y7], [], (σ2, tk_rho a b, τ, 62), 0, 0) (fun v μ' => v = some (.int (tk_on (tk_fst (fun n => (tk_iT (tk_F σ) (σ 55 0) (tk_mt σ t) n s).2 = 0 ∧ (tk_iT (tk_F σ) (σ 55 0) (tk_mt σ u) n s2).2 = 0 ∧ (tk_iT (tk_F σ) (σ 55 0) (tk_mt σ t) n s).1 = (tk_iT (tk_F σ) (σ 55 0) (tk_mt σ u) n s2).1) n (j + 1)) (σ 55 0))) ∧ ∃ σ', μ' = (σ', tk_rho a b, τ, 62) ∧ tk_Sm σ σ') := by
      intro σ2 y6 y7 hf2 h2
      refine tk_run (hT_X7_meet none) [52, 139] 60 _ ?_
      exact stD _ (σ2 47 27, σ2 47 28) (tk_mtp hf2 S2) (tk_mtv S2) h2
    have stA : ¬ (σi 47 28 = 0 ∧ S2.2 = 0 ∧ σi 47 27 = S2.1) → tk_J l D cy none M_X7_meet (90, [some (.ref 47), some (.int t), some (.int u), some (.int S2.1), some (.int S2.2), some (.int (nI j)), x6, x7], [], (σi, tk_rho a b, τ, 62), 0, 0) (fun v μ' => v = some (.int (tk_on (tk_fst (fun n => (tk_iT (tk_F σ) (σ 55 0) (tk_mt σ t) n s).2 = 0 ∧ (tk_iT (tk_F σ) (σ 55 0) (tk_mt σ u) n s2).2 = 0 ∧ (tk_iT (tk_F σ) (σ 55 0) (tk_mt σ t) n s).1 = (tk_iT (tk_F σ) (σ 55 0) (tk_mt σ u) n s2).1) n (j + 1)) (σ 55 0))) ∧ ∃ σ', μ' = (σ', tk_rho a b, τ, 62) ∧ tk_Sm σ σ') := by
      intro hn
      have hF3 := hf.F
      have hE3 : tk_VE (tk_F σi) := by rw [hF3]; exact hE
      have hV3 : tk_VS (tk_F σi) (σi 47 27, σi 47 28) := by rw [hF3]; exact hV
      have e0 : σi 55 0 = σ 55 0 := hf.at (by decide) 0
      have e11 : tk_b ((σi 55 11 >>> (t &&& 31)) &&& 1 = 1) = tk_mt σ t := by
        rw [hf.at (by decide) 11]
        exact tk_bmt (tk_mt01 σ t)
      refine tk_run (hT_X7_meet none) [52, 116] 60 _ ?_
      refine tk_cc (k_mTied) (fun v9 μ9 h9 => ?_)
      obtain ⟨rfl, rfl⟩ := h9
      rw [e11]
      refine And.intro (fun h4 => ?_) (fun h4 => ?_)
      all_goals try dsimp only [tk_c0, tk_c1, tk_c2, tk_c3, tk_c4, tk_c5, tk_c6, tk_c7, tk_c8, tk_c9, tk_c10, tk_c11, tk_c12, tk_c13] at h4
      · refine tk_cc (k_mLev hE3.1) (fun v9 μ9 h9 => ?_)
        obtain ⟨rfl, rfl⟩ := h9
        refine tk_cc (k_goes (tk_kI16 hE3 hV3.1) (hE3.2.2.2.2.2.2 _ hV3.1).2.1) (fun v9 μ9 h9 => ?_)
        obtain ⟨rfl, rfl⟩ := h9
        refine stB _ _ _ (tk_mtp hf _) ((tk_mtv _).trans ?_)
        dsimp only [tk_c0]
        rw [hF3, e0, hi, tk_iT, tk_sT, if_neg (fun h => by rw [h4] at h; exact absurd h (by decide))]
      · refine stB _ _ _ hf ?_
        rw [hi, tk_iT, tk_sT, if_pos ((tk_mt01 σ t).resolve_left h4)]
    by_cases hc : σi 47 28 = 0 ∧ S2.2 = 0 ∧ σi 47 27 = S2.1
    · rw [if_pos hc]
      refine tk_run (hT_X7_meet none) [52] 60 _ ?_
      refine And.intro (fun h1 => ?_) (fun h1 => ?_)
      all_goals try dsimp only [tk_c0, tk_c1, tk_c2, tk_c3, tk_c4, tk_c5, tk_c6, tk_c7, tk_c8, tk_c9, tk_c10, tk_c11, tk_c12, tk_c13] at h1
      · exact absurd h1 (nI_nlt (a := 400) (b := j) (by omega) (by omega))
      · refine And.intro (fun h2 => ?_) (fun h2 => ?_)
        all_goals try dsimp only [tk_c0, tk_c1, tk_c2, tk_c3, tk_c4, tk_c5, tk_c6, tk_c7, tk_c8, tk_c9, tk_c10, tk_c11, tk_c12, tk_c13] at h2
        · refine And.intro (fun h3 => ?_) (fun h3 => ?_)
          all_goals try dsimp only [tk_c0, tk_c1, tk_c2, tk_c3, tk_c4, tk_c5, tk_c6, tk_c7, tk_c8, tk_c9, tk_c10, tk_c11, tk_c12, tk_c13] at h3
          · refine And.intro (fun h4 => ?_) (fun h4 => ?_)
            all_goals try dsimp only [tk_c0, tk_c1, tk_c2, tk_c3, tk_c4, tk_c5, tk_c6, tk_c7, tk_c8, tk_c9, tk_c10, tk_c11, tk_c12, tk_c13] at h4
            · refine And.intro ?_ ⟨σi, rfl, hf⟩
              dsimp only [tk_c0]
              rw [hf.at (by decide) 0]
              rfl
            · exact absurd hc.2.2 h4
          · exact absurd hc.2.1 h3
        · exact absurd hc.1 h2
    · rw [if_neg hc]
      refine tk_run (hT_X7_meet none) [52, 90] 60 _ ?_
      refine And.intro (fun h1 => ?_) (fun h1 => ?_)
      all_goals try dsimp only [tk_c0, tk_c1, tk_c2, tk_c3, tk_c4, tk_c5, tk_c6, tk_c7, tk_c8, tk_c9, tk_c10, tk_c11, tk_c12, tk_c13] at h1
      · exact absurd h1 (nI_nlt (a := 400) (b := j) (by omega) (by omega))
      · refine And.intro (fun h2 => ?_) (fun h2 => ?_)
        all_goals try dsimp only [tk_c0, tk_c1, tk_c2, tk_c3, tk_c4, tk_c5, tk_c6, tk_c7, tk_c8, tk_c9, tk_c10, tk_c11, tk_c12, tk_c13] at h2
        · refine And.intro (fun h3 => ?_) (fun h3 => ?_)
          all_goals try dsimp only [tk_c0, tk_c1, tk_c2, tk_c3, tk_c4, tk_c5, tk_c6, tk_c7, tk_c8, tk_c9, tk_c10, tk_c11, tk_c12, tk_c13] at h3
          · refine And.intro (fun h4 => ?_) (fun h4 => ?_)
            all_goals try dsimp only [tk_c0, tk_c1, tk_c2, tk_c3, tk_c4, tk_c5, tk_c6, tk_c7, tk_c8, tk_c9, tk_c10, tk_c11, tk_c12, tk_c13] at h4
            · exact absurd ⟨h2, h3, h4⟩ hc
            · exact stA hc
          · exact stA hc
        · exact stA hc
theorem k_mMeet (hz : σ 47 0 = 0) (hE : tk_VE (tk_F σ)) (hT : tk_MT σ) :
    tk_Ct M_X7_meet [.ref 47, .int t, .int u] (σ, tk_rho a b, τ, 62) (fun v μ' => v = some (.int (if (0 ≤ t ∧ t < σ 49 1) ∧ (0 ≤ u ∧ u < σ 49 1) ∧ ¬ t = u then tk_on (tk_mm (tk_F σ) (σ 55 0) (tk_mt σ t) (σ 55 (1 + t.toNatClampNeg), σ 55 (6 + t.toNatClampNeg)) (tk_mt σ u) (σ 55 (1 + u.toNatClampNeg), σ 55 (6 + u.toNatClampNeg))) (σ 55 0) else -1)) ∧ ∃ σ', μ' = (σ', tk_rho a b, τ, 62) ∧ tk_Sm σ σ') := by
  refine tk_ct rfl rfl (Nat.le_of_ble_eq_true rfl) (fun l D cy => tk_thr (hT_X7_meet none) rfl rfl rfl hz (tk_run (hT_X7_meet none) [52] 60 _ ?_))
  refine tk_cc (k_mThing hE.2.2.2.2.2.1.1) (fun v9 μ9 h9 => ?_)
  obtain ⟨rfl, rfl⟩ := h9
  refine And.intro (fun h1 => ?_) (fun h1 => ?_)
  all_goals try dsimp only [tk_c0, tk_c1, tk_c2, tk_c3, tk_c4, tk_c5, tk_c6, tk_c7, tk_c8, tk_c9, tk_c10, tk_c11, tk_c12, tk_c13] at h1
  · refine And.intro ?_ ⟨_, rfl, tk_Sm.rf⟩
    rw [if_neg (fun h => tk_b0.mp h1 h.1)]
  · have h1 := Decidable.not_not.mp (fun h => h1 (tk_b0.mpr h))
    refine tk_cc (k_mThing hE.2.2.2.2.2.1.1) (fun v9 μ9 h9 => ?_)
    obtain ⟨rfl, rfl⟩ := h9
    refine And.intro (fun h2 => ?_) (fun h2 => ?_)
    all_goals try dsimp only [tk_c0, tk_c1, tk_c2, tk_c3, tk_c4, tk_c5, tk_c6, tk_c7, tk_c8, tk_c9, tk_c10, tk_c11, tk_c12, tk_c13] at h2
    · refine And.intro ?_ ⟨_, rfl, tk_Sm.rf⟩
      rw [if_neg (fun h => tk_b0.mp h2 h.2.1)]
    · have h2 := Decidable.not_not.mp (fun h => h2 (tk_b0.mpr h))
      refine And.intro (fun h3 => ?_) (fun h3 => ?_)
      all_goals try dsimp only [tk_c0, tk_c1, tk_c2, tk_c3, tk_c4, tk_c5, tk_c6, tk_c7, tk_c8, tk_c9, tk_c10, tk_c11, tk_c12, tk_c13] at h3
      · refine And.intro ?_ ⟨_, rfl, tk_Sm.rf⟩
        rw [if_neg (fun h => h.2.2 h3)]
      · rw [if_pos ⟨h1, h2, h3⟩]
        obtain ⟨j, hj, rfl⟩ := tk_ix h1 hE.2.2.2.2.2.1.2 (by decide)
        obtain ⟨m, hm, rfl⟩ := tk_ix h2 hE.2.2.2.2.2.1.2 (by decide)
        have hs := hT j (by omega) h1.2
        have hs2 := hT m (by omega) h2.2
        rw [nI_clamp (by omega), nI_clamp (by omega)]
        refine tk_cc (k_takesUp hm) (fun v9 μ9 h9 => ?_)
        obtain ⟨rfl, rfl⟩ := h9
        have hf1 := tk_mtp (σ := σ) tk_Sm.rf (σ 55 (1 + m), σ 55 (6 + m))
        have hv1 := tk_mtv (σi := σ) (σ 55 (1 + m), σ 55 (6 + m))
        dsimp only at hf1 hv1
        generalize tk_up (tk_up σ 47 27 (σ 55 (1 + m))) 47 28 (σ 55 (6 + m)) = σ1 at hf1 hv1 ⊢
        refine tk_cc (k_takesUp hj) (fun v9 μ9 h9 => ?_)
        obtain ⟨rfl, rfl⟩ := h9
        have e5 : ∀ y, σ1 55 y = σ 55 y := fun y => hf1.at (by decide) y
        have hf2 := tk_mtp hf1 (σ1 55 (1 + j), σ1 55 (6 + j))
        have hv2 := tk_mtv (σi := σ1) (σ1 55 (1 + j), σ1 55 (6 + j))
        dsimp only at hf2 hv2
        refine k_mMeet_loop hE hs hs2 401 0 _ (σ1 47 27, σ1 47 28) _ _ _ rfl rfl hf2 ?_ hv1
        rw [hv2, e5, e5]
        rfl
end
