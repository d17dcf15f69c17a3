/-! the calls that only look -/
section
variable {a b K N P X L m : Nat} {σ : Nat → Nat → Int32} {τ : Nat → Nat → Int64} {t k u w n x : Int32}
theorem tk_cN (h1 : tk_I1 a K N σ) : (σ a 4).toNatClampNeg = N := by
  have := h1.2.2.1
  rw [h1.2.2.2.2.2.2.2, nI_clamp (by omega)]
theorem tk_cK (h1 : tk_I1 a K N σ) : (σ a 3).toNatClampNeg = K := by
  have := h1.2.1
  rw [h1.2.2.2.2.2.2.1, nI_clamp (by omega)]
theorem tk_onb (h1 : tk_I1 a K N σ) (h2 : tk_RW K N (tk_NV σ) (σ 55)) : tk_bits (fun t => σ 55 (6 + t) = 0 ∧ σ 55 (1 + t) = k) N = tk_bits (fun t => σ (18 + t) 1 = 0 ∧ σ (18 + t) 0 = k) N := by
  have hN := h1.2.2.1
  refine tk_bitsc N (fun i hi => ?_)
  obtain ⟨q1, q2, _⟩ := h2.2.2.2.1 i hi
  rw [tk_NV0] at q1
  rw [tk_NV1] at q2
  rw [q1, q2]
theorem tk_flb {lv : Int32} (h1 : tk_I1 a K N σ) : tk_bits (fun k => tk_F σ 0 k ≤ lv) (σ a 3).toNatClampNeg = tk_bits (fun k => tk_E σ a 0 k ≤ lv) (σ a 3).toNatClampNeg := by
  rw [tk_cK h1]
  refine tk_bitsc K (fun i hi => ?_)
  rw [(h1.2.2.2.2.2.1.2 i hi).1]
theorem st_kerb (h : tk_Inv a b σ τ) : tk_Two M_X6_kerb M_X7_kerb [.int k, .int w] (σ, tk_rho a b, τ, 62) := by
  obtain ⟨K, N, P, X, L, m, m', h0, h1, h2, h3, h4, h5, h6, h7⟩ := id h
  obtain ⟨ha, hK, hN, hE, hF, ag, e3, e4⟩ := id h1
  refine tk_twoP h (k_cKerb ha hE) (k_mKerbQ h0.2.2.1 hF) ?_
  rw [h1.e0, h1.e1]
  by_cases hk : 0 ≤ k ∧ k < σ a 3
  · rw [if_pos hk, if_pos hk]
    obtain ⟨j, hj, rfl, cj⟩ := tk_kc h1.e3 hK hk
    obtain ⟨g0, g1, g2, g4⟩ := ag.2 j hj
    have g0 : σ 51 j = σ (a + 2) j := g0.symm
    have g1 : σ 52 j = σ (a + 3) j := g1.symm
    have g2 : σ 53 j = σ (a + 4) j := g2.symm
    have g4 : σ 50 j = σ (a + 1) j := g4.symm
    rw [cj, g0, g1, g2, g4, tk_cN h1, tk_onb h1 h2]
  · rw [if_neg hk, if_neg hk]
theorem st_thing (h : tk_Inv a b σ τ) : tk_Two M_X6_thing M_X7_thing [.int t, .int w] (σ, tk_rho a b, τ, 62) := by
  obtain ⟨K, N, P, X, L, m, m', h0, h1, h2, h3, h4, h5, h6, h7⟩ := id h
  obtain ⟨ha, hK, hN, hE, hF, ag, e3, e4⟩ := id h1
  refine tk_twoP h (k_cThing ha hE (tk_CTof h1 h2)) (k_mThingQ h0.2.2.1 hF (tk_MTof h1 h2)) ?_
  rw [h1.e1]
  by_cases ht : 0 ≤ t ∧ t < σ a 4
  · rw [if_pos ht, if_pos ht]
    obtain ⟨j, hj, rfl, cj, q1, q2, q3, q4⟩ := tk_thg h1 h2 ht
    rw [cj, q1, q2, q3]
  · rw [if_neg ht, if_neg ht]
theorem st_now (h : tk_Inv a b σ τ) : tk_Two M_X6_now M_X7_now [.int w] (σ, tk_rho a b, τ, 62) := by
  obtain ⟨K, N, P, X, L, m, m', h0, h1, h2, h3, h4, h5, h6, h7⟩ := id h
  obtain ⟨ha, hK, hN, hE, hF, ag, e3, e4⟩ := id h1
  obtain ⟨d, _, d1, d2⟩ := tk_ed h2
  refine tk_twoP h (k_cNow ha hE) (k_mNow h0.2.2.1 hF) ?_
  rw [h1.e0, tk_eT' h2, ← tk_lvc ag, tk_flb h1, d1, d2, h3.2.2.1, h3.2.2.2.2.1]
theorem st_level (h : tk_Inv a b σ τ) : tk_Two M_X6_level M_X7_level [.int t] (σ, tk_rho a b, τ, 62) := by
  obtain ⟨K, N, P, X, L, m, m', h0, h1, h2, h3, h4, h5, h6, h7⟩ := id h
  obtain ⟨ha, hK, hN, hE, hF, ag, e3, e4⟩ := id h1
  refine tk_twoP h (k_cLevel ha hE) (k_mLevel h0.2.2.1 hF) ?_
  rw [← tk_lvc ag]
theorem st_flood (h : tk_Inv a b σ τ) : tk_Two M_X6_flood M_X7_flood [.int t] (σ, tk_rho a b, τ, 62) := by
  obtain ⟨K, N, P, X, L, m, m', h0, h1, h2, h3, h4, h5, h6, h7⟩ := id h
  obtain ⟨ha, hK, hN, hE, hF, ag, e3, e4⟩ := id h1
  refine tk_twoP h (k_cFlood ha hE) (k_mFlood h0.2.2.1 hF) ?_
  rw [h1.e0, ← tk_lvc ag, tk_flb h1]
theorem st_high (h : tk_Inv a b σ τ) : tk_Two M_X6_high M_X7_high [.int t] (σ, tk_rho a b, τ, 62) := by
  obtain ⟨K, N, P, X, L, m, m', h0, h1, h2, h3, h4, h5, h6, h7⟩ := id h
  obtain ⟨ha, hK, hN, hE, hF, ag, e3, e4⟩ := id h1
  refine tk_twoP h (k_cHigh ha hE) (k_mHigh h0.2.2.1 hF) ?_
  have e : tk_fst (fun n => t ≤ tk_lv' (tk_F σ) (σ 16 0 + nI n)) (σ a 0).toNatClampNeg 0 = tk_fst (fun n => t ≤ tk_lv' (tk_E σ a) (σ 16 0 + nI n)) (σ a 0).toNatClampNeg 0 := tk_fstc (fun n => by rw [tk_lvc ag]) _ _
  rw [h1.e2, tk_eT' h2, e]
theorem st_count (h : tk_Inv a b σ τ) : tk_Two M_X6_count M_X7_count [.int w] (σ, tk_rho a b, τ, 62) := by
  obtain ⟨K, N, P, X, L, m, m', h0, h1, h2, h3, h4, h5, h6, h7⟩ := id h
  obtain ⟨ha, hK, hN, hE, hF, ag, e3, e4⟩ := id h1
  have g1 : σ 49 3 = σ a 1 := (ag.1 1 (by omega)).symm
  have g2 : σ 49 4 = σ a 2 := (ag.1 2 (by omega)).symm
  refine tk_twoP h (k_cCount ha) (k_mCount h0.2.2.1) ?_
  rw [h1.e0, h1.e1, h1.e2, g1, g2, h6.2.1, h6.2.2.1, h7.2.1, h7.2.2.1, h5.2.1, h5.2.2.1]
theorem st_laws (h : tk_Inv a b σ τ) : tk_Two M_X6_laws M_X7_laws [.int w] (σ, tk_rho a b, τ, 62) := by
  obtain ⟨K, N, P, X, L, m, m', h0, h1, h2, h3, h4, h5, h6, h7⟩ := id h
  obtain ⟨ha, hK, hN, hE, hF, ag, e3, e4⟩ := id h1
  refine tk_twoP h (k_cLaws ha hE h7.1 h7.2.1 (fun i o => Classical.propDecidable _)) (k_mLaws h0.2.2.1 hF h7.1 h7.2.2.1 (fun i o => Classical.propDecidable _)) ?_
  have eM : (σ 49 2).toNatClampNeg = (σ a 0).toNatClampNeg := by rw [h1.e2]
  have e : tk_l2 (fun i o => tk_il' (σ 49 2) (σ 61) (σ 62) m' (nI i) (nI o)) (fun i o => Classical.propDecidable _) (σ a 0).toNatClampNeg (σ a 0).toNatClampNeg = tk_l2 (fun i o => tk_il' (σ a 0) (σ 43) (σ 44) m' (nI i) (nI o)) (fun i o => Classical.propDecidable _) (σ a 0).toNatClampNeg (σ a 0).toNatClampNeg := tk_l2c (fun i o => by
    unfold tk_il'
    rw [h1.e2]
    exact ⟨fun q e he => by rw [(h7.2.2.2 e he).1, (h7.2.2.2 e he).2]; exact q e he, fun q e he => by rw [← (h7.2.2.2 e he).1, ← (h7.2.2.2 e he).2]; exact q e he⟩) _
  rw [eM, e]
theorem st_where (h : tk_Inv a b σ τ) : tk_Two M_X6_where M_X7_where [.int t, .int n] (σ, tk_rho a b, τ, 62) := by
  obtain ⟨K, N, P, X, L, m, m', h0, h1, h2, h3, h4, h5, h6, h7⟩ := id h
  obtain ⟨ha, hK, hN, hE, hF, ag, e3, e4⟩ := id h1
  refine tk_twoS h (k_cWhere ha hE (tk_CTof h1 h2)) (fun σ' hS hx eF em => ?_)
  have h1' := h1.c (σ' := σ') (fun x y _ => hS x y (by omega) (by omega))
  have h2' := tk_I2.c (σ' := σ') hN h2 (fun x y _ => hS x y (by omega) (by omega))
  refine tk_ctP (k_mWhere ((hS _ _ (by omega) (by omega)).trans h0.2.2.1) h1'.2.2.2.2.1 (tk_MTof h1' h2')) (fun v μ' q => ⟨q.1.trans (congrArg (fun z => some (Value.int z)) ?_), q.2⟩)
  rw [eF, hx 49 (by omega), hx 55 (by omega), h1.e1]
  by_cases hc : (0 ≤ t ∧ t < σ a 4) ∧ (0 ≤ n ∧ n ≤ 400)
  · rw [if_pos hc, if_pos hc]
    obtain ⟨j, hj, rfl, cj, q1, q2, q3, q4, q5, q6⟩ := tk_thg h1 h2 hc.1
    rw [cj, q1, q2, q3, tk_eT' h2, tk_iT_eq, tk_itc hE h1.e3 hK ag q4]
    rfl
  · rw [if_neg hc, if_neg hc]
theorem st_when (h : tk_Inv a b σ τ) : tk_Two M_X6_when M_X7_when [.int t, .int k] (σ, tk_rho a b, τ, 62) := by
  obtain ⟨K, N, P, X, L, m, m', h0, h1, h2, h3, h4, h5, h6, h7⟩ := id h
  obtain ⟨ha, hK, hN, hE, hF, ag, e3, e4⟩ := id h1
  refine tk_twoS h (k_cWhen ha hE (tk_CTof h1 h2)) (fun σ' hS hx eF em => ?_)
  have h1' := h1.c (σ' := σ') (fun x y _ => hS x y (by omega) (by omega))
  have h2' := tk_I2.c (σ' := σ') hN h2 (fun x y _ => hS x y (by omega) (by omega))
  refine tk_ctP (k_mWhen ((hS _ _ (by omega) (by omega)).trans h0.2.2.1) h1'.2.2.2.2.1 (tk_MTof h1' h2')) (fun v μ' q => ⟨q.1.trans (congrArg (fun z => some (Value.int z)) ?_), q.2⟩)
  rw [eF, em, hx 49 (by omega), hx 55 (by omega), h1.e1, h1.e0]
  by_cases hc : (0 ≤ t ∧ t < σ a 4) ∧ (0 ≤ k ∧ k < σ a 3)
  · rw [if_pos hc, if_pos hc]
    obtain ⟨j, hj, rfl, cj, q1, q2, q3, q4, q5, q6⟩ := tk_thg h1 h2 hc.1
    rw [cj, q1, q2, q3, tk_eT' h2, tk_snc hE h1.e3 hK ag q4]
  · rw [if_neg hc, if_neg hc]
theorem st_meet (h : tk_Inv a b σ τ) : tk_Two M_X6_meet M_X7_meet [.int t, .int u] (σ, tk_rho a b, τ, 62) := by
  obtain ⟨K, N, P, X, L, m, m', h0, h1, h2, h3, h4, h5, h6, h7⟩ := id h
  obtain ⟨ha, hK, hN, hE, hF, ag, e3, e4⟩ := id h1
  refine tk_twoS h (k_cMeet ha hE (tk_CTof h1 h2)) (fun σ' hS hx eF em => ?_)
  have h1' := h1.c (σ' := σ') (fun x y _ => hS x y (by omega) (by omega))
  have h2' := tk_I2.c (σ' := σ') hN h2 (fun x y _ => hS x y (by omega) (by omega))
  refine tk_ctP (k_mMeet ((hS _ _ (by omega) (by omega)).trans h0.2.2.1) h1'.2.2.2.2.1 (tk_MTof h1' h2')) (fun v μ' q => ⟨q.1.trans (congrArg (fun z => some (Value.int z)) ?_), q.2⟩)
  rw [eF, em, em, hx 49 (by omega), hx 55 (by omega), h1.e1]
  by_cases hc : (0 ≤ t ∧ t < σ a 4) ∧ (0 ≤ u ∧ u < σ a 4) ∧ ¬ t = u
  · rw [if_pos hc, if_pos hc]
    obtain ⟨j, hj, _, cj, q1, q2, q3, q4, q5, q6⟩ := tk_thg h1 h2 hc.1
    obtain ⟨i, hi, _, ci, p1, p2, p3, p4, p5, p6⟩ := tk_thg h1 h2 hc.2.1
    rw [cj, ci, q1, q2, q3, p1, p2, p3, tk_eT' h2, tk_mmc hE h1.e3 hK ag q4 p4]
  · rw [if_neg hc, if_neg hc]
theorem st_send (h : tk_Inv a b σ τ) : tk_Two M_X6_send M_X7_send [.int t, .int k, .int w] (σ, tk_rho a b, τ, 62) := by
  obtain ⟨K, N, P, X, L, m, m', h0, h1, h2, h3, h4, h5, h6, h7⟩ := id h
  obtain ⟨ha, hK, hN, hE, hF, ag, e3, e4⟩ := id h1
  obtain ⟨T, hT, eT, eT2⟩ := tk_eT h2
  refine tk_twoS h (k_cSend ha hE (tk_CTof h1 h2) hK e3 hT eT) (fun σ' hS hx eF em => ?_)
  have h1' := h1.c (σ' := σ') (fun x y _ => hS x y (by omega) (by omega))
  have h2' := tk_I2.c (σ' := σ') hN h2 (fun x y _ => hS x y (by omega) (by omega))
  refine tk_ctP (k_mSend ((hS _ _ (by omega) (by omega)).trans h0.2.2.1) h1'.2.2.2.2.1 (tk_MTof h1' h2') hK (h1'.e0.trans h1'.2.2.2.2.2.2.1) hT (by rw [hx 55 (by omega)]; exact eT2)) (fun v μ' q => ⟨q.1.trans (congrArg (fun z => some (Value.int z)) ?_), q.2⟩)
  rw [eF, hx 49 (by omega), hx 55 (by omega), h1.e1, h1.e0]
  by_cases hc : (0 ≤ t ∧ t < σ a 4) ∧ (0 ≤ k ∧ k < σ a 3) ∧ (0 ≤ w ∧ w ≤ 1)
  · rw [if_pos hc, if_pos hc]
    obtain ⟨j, hj, _, cj, q1, q2, q3, q4, q5, q6⟩ := tk_thg h1 h2 hc.1
    rw [cj, q1, q2, tk_eT' h2, tk_sdc (w := σ 55 (1 + j)) hE h1.e3 hK ag q4.1 K (Nat.le_refl K)]
  · rw [if_neg hc, if_neg hc]
theorem st_odds (h : tk_Inv a b σ τ) : tk_Two M_X6_odds M_X7_odds [.int t, .int k, .int n, .int x, .int w] (σ, tk_rho a b, τ, 62) := by
  obtain ⟨K, N, P, X, L, m, m', h0, h1, h2, h3, h4, h5, h6, h7⟩ := id h
  obtain ⟨ha, hK, hN, hE, hF, ag, e3, e4⟩ := id h1
  refine tk_twoS h (k_cOdds ha hE (tk_CTof h1 h2)) (fun σ' hS hx eF em => ?_)
  have h1' := h1.c (σ' := σ') (fun x y _ => hS x y (by omega) (by omega))
  have h2' := tk_I2.c (σ' := σ') hN h2 (fun x y _ => hS x y (by omega) (by omega))
  refine tk_ctP (k_mOdds ((hS _ _ (by omega) (by omega)).trans h0.2.2.1) h1'.2.2.2.2.1 (tk_MTof h1' h2')) (fun v μ' q => ⟨q.1.trans (congrArg (fun z => some (Value.int z)) ?_), q.2⟩)
  rw [eF, em, hx 49 (by omega), hx 55 (by omega), h1.e1, h1.e0]
  by_cases hc : (0 ≤ t ∧ t < σ a 4) ∧ (0 ≤ k ∧ k < σ a 3) ∧ (0 ≤ n ∧ n ≤ 4) ∧ (0 ≤ x ∧ x ≤ 10) ∧ (0 ≤ w ∧ w ≤ 1)
  · rw [if_pos hc, if_pos hc]
    obtain ⟨j, hj, _, cj, q1, q2, q3, q4, q5, q6⟩ := tk_thg h1 h2 hc.1
    rw [cj, q1, q2, q3, tk_eT' h2, tk_oAc hE h1.e3 hK ag q4]
  · rw [if_neg hc, if_neg hc]
theorem st_began (h : tk_Inv a b σ τ) : tk_Two M_X6_began M_X7_began [] (σ, tk_rho a b, τ, 62) := by
  obtain ⟨K, N, P, X, L, m, m', h0, h1, h2, h3, h4, h5, h6, h7⟩ := id h
  obtain ⟨ha, hK, hN, hE, hF, ag, e3, e4⟩ := id h1
  refine tk_twoS h (k_cBegan ha hE h6.1 h6.2.1 (fun e he => (h6.2.2.2 e he).2.2) (fun k => Classical.propDecidable _)) (fun σ' hS hx eF em => ?_)
  have h1' := h1.c (σ' := σ') (fun x y _ => hS x y (by omega) (by omega))
  have h6' := h6.c (σ' := σ') (fun x y _ => hS x y (by omega) (by omega))
  refine tk_ctP (k_mBegan ((hS _ _ (by omega) (by omega)).trans h0.2.2.1) h1'.2.2.2.2.1 h6'.1 h6'.2.2.1 (fun e he => by
    obtain ⟨_, q2, f, hf, q3⟩ := h6'.2.2.2 e he
    exact ⟨f, hf, q2.symm.trans q3⟩) (fun k => Classical.propDecidable _)) (fun v μ' q => ⟨q.1.trans (congrArg (fun z => some (Value.int z)) ?_), q.2⟩)
  rw [tk_cK h1, show (σ' 49 0).toNatClampNeg = K by rw [h1'.e0, tk_cK h1']]
  refine @tk_bitsc _ _ (fun k => Classical.propDecidable _) (fun k => Classical.propDecidable _) K (fun i hi => ?_)
  rw [tk_cbc hE h1.e3 hK ag hi, eF, hx 59 (by omega), hx 60 (by omega)]
  unfold tk_cb
  exact ⟨fun q e he => by rw [(h6.2.2.2 e he).1, (h6.2.2.2 e he).2.1]; exact q e he, fun q e he => by rw [← (h6.2.2.2 e he).1, ← (h6.2.2.2 e he).2.1]; exact q e he⟩
theorem st_round (h : tk_Inv a b σ τ) : tk_Two M_X6_round M_X7_round [.int t] (σ, tk_rho a b, τ, 62) := by
  obtain ⟨K, N, P, X, L, m, m', h0, h1, h2, h3, h4, h5, h6, h7⟩ := id h
  obtain ⟨ha, hK, hN, hE, hF, ag, e3, e4⟩ := id h1
  obtain ⟨T, hT, eT, eT2⟩ := tk_eT h2
  obtain ⟨M, st, of, K', eM, est, eof, eK', hM2, hM20, hst, hof, hK8⟩ := tk_nums hE
  refine tk_ctP (k_cRound ha hE (tk_CTof h1 h2) eM hM20 hM2 e3 hK hT eT) (fun v μ1 q => ?_)
  obtain ⟨⟨σ', rfl, hS⟩, hv⟩ := q
  have hx : ∀ x, 47 ≤ x → σ' x = σ x := fun x hx => funext fun y => hS x y (by omega) (by omega)
  have eF := tk_F.c (σ := σ) (σ' := σ') (fun x y _ => hS x y (by omega) (by omega))
  have em : tk_mt σ' t = tk_mt σ t := by unfold tk_mt; rw [hx 55 (by omega)]
  have h1' := h1.c (σ' := σ') (fun x y _ => hS x y (by omega) (by omega))
  have h2' := tk_I2.c (σ' := σ') hN h2 (fun x y _ => hS x y (by omega) (by omega))
  have ea : σ' a 0 = σ a 0 := hS _ _ (by rcases ha with rfl | rfl <;> omega) (by rcases ha with rfl | rfl <;> omega)
  have hm := k_mRound (t := t) (a := a) (b := b) (τ := τ) ((hS _ _ (by omega) (by omega)).trans h0.2.2.1) h1'.2.2.2.2.1 (tk_MTof h1' h2') (h1'.e2.trans (ea.trans eM)) hM20 hM2 (h1'.e0.trans h1'.2.2.2.2.2.2.1) hK hT (by rw [hx 55 (by omega)]; exact eT2)
  rw [eF, em, hx 49 (by omega), hx 55 (by omega), h1.e1] at hm
  rcases hv with ⟨hc, rfl⟩ | ⟨hc, n, rfl, hn⟩
  · refine ⟨_, σ', _, τ, rfl, rfl, tk_ctP hm (fun v' μ2 q => ?_)⟩
    obtain ⟨⟨σ2, rfl, hS2⟩, hv'⟩ := q
    refine ⟨?_, a, b, σ2, τ, rfl, (h.Sc hS).Sm hS2⟩
    rcases hv' with ⟨_, rfl⟩ | ⟨hc', _⟩
    · rfl
    · exact absurd hc' hc
  · refine ⟨_, σ', _, τ, rfl, rfl, tk_ctP hm (fun v' μ2 q => ?_)⟩
    obtain ⟨⟨σ2, rfl, hS2⟩, hv'⟩ := q
    refine ⟨?_, a, b, σ2, τ, rfl, (h.Sc hS).Sm hS2⟩
    rcases hv' with ⟨hc', _⟩ | ⟨_, n', rfl, hn'⟩
    · exact absurd hc hc'
    · obtain ⟨j, hj, _, cj, q1, q2, q3, q4, q5, q6⟩ := tk_thg h1 h2 hc
      rw [cj, q1, q2, q3] at hn
      rw [cj, ← tk_Lpc hE h1.e3 hK ag q4] at hn'
      have e := tk_Lp_eq hE q4 eM (by omega) h1.e3 (by omega) hT hn hn'
      rw [e]
theorem st_trace (h : tk_Inv a b σ τ) : tk_Ct M_X6_trace [.ref 1] (σ, tk_rho a b, τ, 62) (fun v μ1 => ∃ x σ1 ρ1 τ1, v = some (.long x) ∧ μ1 = (σ1, ρ1, τ1, 62) ∧ tk_Ct M_X7_trace [.ref 47] μ1 (fun v' μ2 => v' = some (.long x) ∧ tk_IM μ2)) := by
  obtain ⟨K, N, P, X, L, m, m', h0, h1, h2, h3, h4, h5, h6, h7⟩ := id h
  refine tk_ctP k_cTrace (fun v μ1 q => ?_)
  obtain ⟨rfl, rfl⟩ := q
  refine ⟨_, σ, _, τ, rfl, rfl, tk_ctP (k_mTrace h0.2.2.1) (fun v' μ2 q => ?_)⟩
  obtain ⟨rfl, rfl⟩ := q
  exact ⟨by rw [h0.2.2.2], a, b, σ, τ, rfl, h⟩
theorem st_rate (h : tk_Inv a b σ τ) : tk_Two M_X6_rate M_X7_rate [.int w, .int k] (σ, tk_rho a b, τ, 62) := by
  obtain ⟨K, N, P, X, L, m, m', h0, h1, h2, h3, h4, h5, h6, h7⟩ := id h
  obtain ⟨ha, hK, hN, hE, hF, ag, e3, e4⟩ := id h1
  refine tk_ctP (k_cRate ha hE hN e4) (fun v μ1 q => ?_)
  obtain ⟨rfl, rfl⟩ := q
  refine ⟨_, σ, _, _, rfl, rfl, tk_ctP (k_mRate h0.2.2.1 hF hN (h1.e1.trans e4)) (fun v' μ2 q => ?_)⟩
  obtain ⟨rfl, rfl⟩ := q
  rw [h1.e0]
  by_cases hc : (0 ≤ w ∧ w ≤ 5) ∧ (0 ≤ k ∧ k < σ a 3)
  · rw [if_pos hc, if_pos hc, if_pos hc, if_pos hc]
    obtain ⟨j, hj, rfl, cj⟩ := tk_kc h1.e3 hK hc.2
    obtain ⟨g0, g1, g2, g4⟩ := ag.2 j hj
    refine ⟨?_, a, b, σ, _, rfl, K, N, P, X, L, m, m', ⟨h0.1, h0.2.1, h0.2.2.1, ?_⟩, h1, h2, h3, h4, h5, h6, h7⟩
    · obtain ⟨B, hB, eB⟩ := tk_bits_lt (fun t => σ (18 + t) 1 = 0 ∧ σ (18 + t) 0 = nI j) N hN
      rw [cj, ← g0, ← g2, tk_onb h1 h2, eB, tk_bcpc B (tk_2N hN hB), tk_eT' h2, ← tk_lvc ag]
    · have : τ 1 11 = τ 47 1 := h0.2.2.2
      simp [tk_up, this]
  · rw [if_neg hc, if_neg hc, if_neg hc, if_neg hc]
    exact ⟨rfl, a, b, σ, τ, rfl, h⟩
end
