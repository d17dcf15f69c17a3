/-! the calls that do: tides, ties, carries, undo, keep, back -/
/-- what a call that is done leaves of what can be undone -/
theorem tk_I3.note {K N P X : Nat} {σ σ' : Nat → Nat → Int32} (hN : N ≤ 5) (h2 : tk_RW K N (tk_NV σ) (σ 55)) (h3 : tk_I3 K N P X σ) (c1 : ∀ i, i < 17 → σ' (25 + X) i = tk_NV σ i) (c2 : σ' 23 2 = nI ((X + 1) % 10)) (c3 : σ' 23 1 = nI (if P = 10 then 10 else P + 1)) (c4 : ∀ x y, 25 ≤ x → x ≤ 34 → x ≠ 25 + X → σ' x y = σ x y)
    (m1 : σ' 47 20 = nI (if P = 10 then 10 else P + 1)) (m2 : ∀ i, i < 13 → σ' 58 (13 * (if P = 10 then 9 else P) + i) = σ 55 i) (m3 : ∀ i, i < 13 * (if P = 10 then 9 else P) → σ' 58 i = σ 58 (if P = 10 then i + 13 else i)) : tk_I3 K N (if P = 10 then 10 else P + 1) ((X + 1) % 10) σ' := by
  obtain ⟨q1, q2, q3, q4, q5, q6⟩ := h3
  by_cases hP : P = 10
  · subst hP
    rw [if_pos rfl] at c3 m1 m2 m3 ⊢
    refine ⟨by omega, by omega, c3, c2, m1, fun i hi => ?_⟩
    by_cases h9 : i = 9
    · subst h9
      rw [show 25 + ((X + 1) % 10 + 10 - 10 + 9) % 10 = 25 + X by omega]
      exact h2.c hN c1 (fun j hj => m2 j hj)
    · refine (q6 (i + 1) (by omega)).c hN (fun j hj => ?_) (fun j hj => ?_)
      · rw [show 25 + ((X + 1) % 10 + 10 - 10 + i) % 10 = 25 + (X + 10 - 10 + (i + 1)) % 10 by omega]
        exact c4 _ _ (by omega) (by omega) (by omega)
      · rw [m3 _ (by omega), if_pos rfl, show 13 * i + j + 13 = 13 * (i + 1) + j by omega]
  · rw [if_neg hP] at c3 m1 m2 m3 ⊢
    refine ⟨by omega, by omega, c3, c2, m1, fun i hi => ?_⟩
    by_cases h9 : i = P
    · subst h9
      rw [show 25 + ((X + 1) % 10 + 10 - (i + 1) + i) % 10 = 25 + X by omega]
      exact h2.c hN c1 (fun j hj => m2 j hj)
    · refine (q6 i (by omega)).c hN (fun j hj => ?_) (fun j hj => ?_)
      · rw [show 25 + ((X + 1) % 10 + 10 - (P + 1) + i) % 10 = 25 + (X + 10 - P + i) % 10 by omega]
        exact c4 _ _ (by omega) (by omega) (by omega)
      · rw [m3 _ (by omega), if_neg hP]
theorem tk_VSx {E : Nat → Nat → Int32} {K : Nat} {s : Int32 × Int32} (e3 : E 3 3 = nI K) (hK : K ≤ 8) (h : tk_VS E s) : (∃ j, j < K ∧ s.1 = nI j) ∧ ∃ g, g ≤ 3 ∧ s.2 = nI g := by
  obtain ⟨j, hj, e, _⟩ := tk_kc e3 hK h.1
  obtain ⟨g, hg, e'⟩ := nI_of2 (M := 3) (n := 3) rfl (Int32.not_lt.mpr h.2.1) h.2.2
  exact ⟨⟨j, hj, e⟩, g, hg, e'⟩
section
variable {a b K N P X L m : Nat} {σ σ1 : Nat → Nat → Int32} {τ : Nat → Nat → Int64} {t k u w n x c : Int32}
theorem tk_thi {i : Nat} (h1 : tk_I1 a K N σ) (h2 : tk_RW K N (tk_NV σ) (σ 55)) (hi : i < N) : σ (18 + i) 0 = σ 55 (1 + i) ∧ σ (18 + i) 1 = σ 55 (6 + i) ∧ σ (18 + i) 2 = tk_mt σ (nI i) ∧ tk_VS (tk_E σ a) (σ 55 (1 + i), σ 55 (6 + i)) ∧ tk_VT (tk_mt σ (nI i)) (σ 55 (1 + i), σ 55 (6 + i)) := by
  have hN := h1.2.2.1
  obtain ⟨j, hj, e, _, q1, q2, q3, q4, q5, q6⟩ := tk_thg (t := nI i) h1 h2 ⟨nI_pos' (by omega), by rw [h1.2.2.2.2.2.2.2]; exact nI_lt hi (by omega)⟩
  obtain rfl : i = j := tk_inj (by omega) (by omega) e
  exact ⟨q1, q2, q3, q4, q5⟩
theorem tk_MTx (hx : ∀ x, 47 ≤ x → σ1 x = σ x) (h : tk_MT σ) : tk_MT σ1 := by
  unfold tk_MT
  rw [tk_F.c (σ := σ) (σ' := σ1) (fun x y q => congrFun (hx x (by omega)) y), hx 49 (by omega), hx 55 (by omega)]
  exact h
theorem st_tides (h : tk_Inv a b σ τ) : tk_Two M_X6_tides M_X7_tides [.int n] (σ, tk_rho a b, τ, 62) := by
  obtain ⟨K, N, P, X, L, m, m', h0, h1, h2, h3, h4, h5, h6, h7⟩ := id h
  obtain ⟨ha, hK, hN, hE, hF, ag, e3, e4⟩ := id h1
  obtain ⟨T, hT, eT, eT2⟩ := tk_eT h2
  obtain ⟨d, hd, ed, ed2⟩ := tk_ed h2
  obtain ⟨hP, hX, p1, p2, p3, p4⟩ := id h3
  refine tk_ctP (k_cTides ha hE hN e4 (tk_CTof h1 h2) (tk_h01of h2) hd ed hX p2 hP p1 hT eT) (fun v μ1 q => ?_)
  obtain ⟨σ1, rfl, hv⟩ := q
  have hx : ∀ x, 47 ≤ x → σ1 x = σ x := by
    rcases hv with ⟨_, _, e⟩ | ⟨_, _, _, e⟩ | ⟨_, _, _, σ2, hs, _, _, _, _, hf⟩
    · exact fun x _ => by rw [e]
    · exact fun x _ => by rw [e]
    · exact fun x hx => funext fun y => (hf x y (by omega) (by omega)).trans (hs.2.2.2 x y (by omega) (by omega))
  have eF := tk_F.c (σ := σ) (σ' := σ1) (fun x y q => congrFun (hx x (by omega)) y)
  have em : tk_mt σ1 = tk_mt σ := funext fun t => by unfold tk_mt; rw [hx 55 (by omega)]
  have hm := k_mTides (n := n) (a := a) (b := b) (τ := τ) (σ := σ1) (N := N) (d := d) (K := P) (T := T) (by rw [hx 47 (by omega)]; exact h0.2.2.1) (by rw [eF]; exact hF) hN (by rw [hx 49 (by omega)]; exact h1.e1.trans e4) (tk_MTx hx (tk_MTof h1 h2)) hd (by rw [hx 55 (by omega)]; exact ed2) hP (by rw [hx 47 (by omega)]; exact p3) hT (by rw [hx 55 (by omega)]; exact eT2)
  rw [eF, em, hx 55 (by omega)] at hm
  rcases hv with ⟨hc, rfl, e⟩ | ⟨hc, hc2, rfl, e⟩ | ⟨hc, hc2, rfl, σ2, hs, t1, t2, t3, t4, t5⟩
  · refine ⟨_, σ1, _, τ, rfl, rfl, tk_ctP hm (fun v' μ2 q => ?_)⟩
    obtain ⟨σ3, rfl, hv'⟩ := q
    rcases hv' with ⟨_, rfl, e'⟩ | ⟨hc', _⟩ | ⟨hc', _⟩
    · exact ⟨rfl, a, b, σ3, τ, rfl, by rw [e', e]; exact h⟩
    · exact absurd hc' hc
    · exact absurd hc' hc
  · refine ⟨_, σ1, _, τ, rfl, rfl, tk_ctP hm (fun v' μ2 q => ?_)⟩
    obtain ⟨σ3, rfl, hv'⟩ := q
    rcases hv' with ⟨hc', _⟩ | ⟨_, _, rfl, e'⟩ | ⟨_, hc', _⟩
    · exact absurd hc hc'
    · exact ⟨rfl, a, b, σ3, τ, rfl, by rw [e', e]; exact h⟩
    · omega
  · refine ⟨_, σ1, _, τ, rfl, rfl, tk_ctP hm (fun v' μ2 q => ?_)⟩
    obtain ⟨σ3, rfl, hv'⟩ := q
    rcases hv' with ⟨hc', _⟩ | ⟨_, hc', _⟩ | ⟨_, _, rfl, σ4, hs4, r1, r2, r3, r4, r5⟩
    · exact absurd hc hc'
    · omega
    · have eD : tk_dt (tk_F σ) (σ 55 0) (fun i => tk_mt σ (nI i)) (fun i => (σ 55 (1 + i), σ 55 (6 + i))) N n.toNatClampNeg = tk_dt (tk_E σ a) (σ 16 0) (fun i => σ (18 + i) 2) (fun i => (σ (18 + i) 0, σ (18 + i) 1)) N n.toNatClampNeg := by
        rw [tk_eT' h2, ← tk_dtc hE h1.e3 hK ag (fun i hi => (tk_thi h1 h2 hi).2.2.2.1)]
        refine tk_dts (fun i hi => ?_) _
        obtain ⟨q1, q2, q3, _⟩ := tk_thi h1 h2 hi
        exact ⟨q3.symm, by rw [q1, q2]⟩
      rw [eD] at r2
      have ua : ∀ x y, x < 47 → σ3 x y = σ1 x y := fun x y hx => by
        rw [r5 x y (by omega) (by omega), hs4.2.2.2 x y (by omega) (by omega)]
      have ub : ∀ x y, x < 47 → x ≠ 16 → ¬ (18 ≤ x ∧ x ≤ 22) → σ3 x y = σ2 x y := fun x y q1 q2 q3 => by
        rw [ua x y q1, t5 x y q2 q3]
      have fr : ∀ x y, x ≠ 16 → ¬ (18 ≤ x ∧ x ≤ 22) → x ≠ 23 → x ≠ 25 + X → x ≠ 55 → x ≠ 58 → ¬ (x = 47 ∧ (y = 20 ∨ y = 27 ∨ y = 28)) → σ3 x y = σ x y := fun x y q1 q2 q3 q4 q5 q6 q7 => by
        rw [r5 x y q5 (by omega), hs4.2.2.2 x y q6 (by omega)]
        rw [t5 x y q1 q2, hs.2.2.2 x y q3 q4]
      have i58 : ∀ y, σ3 58 y = σ4 58 y := fun y => r5 58 y (by omega) (by omega)
      refine ⟨by rw [eD], a, b, σ3, τ, rfl, K, N, if P = 10 then 10 else P + 1, (X + 1) % 10, L, m, m', h0.c (fr _ _ (by omega) (by omega) (by omega) (by omega) (by omega) (by omega) (by omega)), h1.c (fun x y q => fr _ _ (by omega) (by omega) (by omega) (by omega) (by omega) (by omega) (by omega)), ?_, ?_, h4.c hN (fun x y q => fr _ _ (by omega) (by omega) (by omega) (by omega) (by omega) (by omega) (by omega)), h5.c (fun x y q => fr _ _ (by omega) (by omega) (by omega) (by omega) (by omega) (by omega) (by omega)), h6.c (fun x y q => fr _ _ (by omega) (by omega) (by omega) (by omega) (by omega) (by omega) (by omega)), h7.c (fun x y q => fr _ _ (by omega) (by omega) (by omega) (by omega) (by omega) (by omega) (by omega))⟩
      · obtain ⟨_, _, ⟨B, b1, b2, b3⟩, _, r5'⟩ := id h2
        have n2 : ∀ i, i < 5 → tk_NV σ3 (4 + 3 * i) = σ (18 + i) 2 := fun i hi => by
          rw [tk_NV2, ua _ _ (by omega), t4 i hi]
        refine ⟨⟨T + n.toNatClampNeg, hc2, ?_, r1⟩, ⟨_, Nat.min_le_right _ _, ?_, r2⟩, ⟨B, b1, r3.trans b2, fun i hi => ?_⟩, fun i hi => ?_, fun i hi => ?_⟩
        · show σ3 16 0 = _
          rw [ua _ _ (by omega)]
          exact t1
        · show σ3 16 1 = _
          rw [ua _ _ (by omega)]
          exact t2
        · rw [n2 i (by omega)]
          have := b3 i hi
          rw [tk_NV2] at this
          exact this
        · obtain ⟨q1, q2, q3, q4, q5⟩ := tk_thi h1 h2 hi
          have ec := t3 i hi
          have er := r4 i hi
          rw [q1, q2, q3] at ec
          rw [tk_eT' h2, ← tk_iTc hE h1.e3 hK ag q4] at er
          have hV := tk_iT_V (t := σ 16 0) (d := tk_mt σ (nI i)) hE q4 n.toNatClampNeg
          have hT' := tk_iT_T (E := tk_E σ a) (t := σ 16 0) q5 n.toNatClampNeg
          rw [← ec] at hV hT' er
          obtain ⟨v1, v2⟩ := tk_VSx h1.e3 hK hV
          rw [tk_NV0, tk_NV1, n2 i (by omega), ua (18 + i) 0 (by omega), ua (18 + i) 1 (by omega)]
          refine ⟨(congrArg Prod.fst er).symm, (congrArg Prod.snd er).symm, v1, v2, fun h1' => ?_⟩
          rw [q3] at h1'
          rcases hT' with h | h
          · rw [h1'] at h
            exact absurd h (by decide)
          · exact h.2
        · rw [n2 i hi]
          exact tk_h01of h2 i hi
      · refine tk_I3.note hN h2 h3 (fun i hi => ?_) ?_ ?_ (fun x y q1 q2 q3 => ?_) ?_ (fun i hi => ?_) (fun i hi => ?_)
        · rw [ub _ _ (by omega) (by omega) (by omega)]
          exact hs.1 i hi
        · rw [ub _ _ (by omega) (by omega) (by omega)]
          exact hs.2.1
        · rw [ub _ _ (by omega) (by omega) (by omega)]
          exact hs.2.2.1
        · exact fr x y (by omega) (by omega) (by omega) q3 (by omega) (by omega) (by omega)
        · rw [r5 _ _ (by omega) (by omega)]
          exact hs4.1
        · rw [i58, hs4.2.1 i hi, hx 55 (by omega)]
        · rw [i58, hs4.2.2.1 i hi, hx 58 (by omega)]
theorem st_carries (h : tk_Inv a b σ τ) : tk_Two M_X6_carries M_X7_carries [.int t, .int k] (σ, tk_rho a b, τ, 62) := by
  obtain ⟨K, N, P, X, L, m, m', h0, h1, h2, h3, h4, h5, h6, h7⟩ := id h
  obtain ⟨ha, hK, hN, hE, hF, ag, e3, e4⟩ := id h1
  obtain ⟨hP, hX, p1, p2, p3, p4⟩ := id h3
  refine tk_ctP (k_cCarries ha hE (tk_CTof h1 h2) (tk_h01of h2) hX p2 hP p1) (fun v μ1 q => ?_)
  obtain ⟨σ1, rfl, hv⟩ := q
  have hx : ∀ x, 47 ≤ x → σ1 x = σ x := by
    rcases hv with ⟨_, _, e⟩ | ⟨_, _, _, e⟩ | ⟨hc, _, _, σ2, hs, e⟩
    · exact fun x _ => by rw [e]
    · exact fun x _ => by rw [e]
    · obtain ⟨j, hj, _, cj, _⟩ := tk_thg h1 h2 hc.1
      exact fun x hx => funext fun y => by rw [e, cj, tk_upn (by omega), hs.2.2.2 x y (by omega) (by omega)]
  have eF := tk_F.c (σ := σ) (σ' := σ1) (fun x y q => congrFun (hx x (by omega)) y)
  have hm := k_mCarries (t := t) (k := k) (a := a) (b := b) (τ := τ) (σ := σ1) (K := P) (by rw [hx 47 (by omega)]; exact h0.2.2.1) (by rw [eF]; exact hF) (tk_MTx hx (tk_MTof h1 h2)) hP (by rw [hx 47 (by omega)]; exact p3)
  rw [eF, hx 55 (by omega), hx 49 (by omega), h1.e0, h1.e1] at hm
  have cond : ((0 ≤ t ∧ t < σ a 4) ∧ (0 ≤ k ∧ k < σ a 3)) → ((σ 55 (6 + t.toNatClampNeg) = 0 ∧ ¬ σ 55 (1 + t.toNatClampNeg) = k ∧ tk_F σ 4 (σ 55 (1 + t.toNatClampNeg)).toNatClampNeg = tk_F σ 4 k.toNatClampNeg) ↔ (σ (18 + t.toNatClampNeg) 1 = 0 ∧ ¬ σ (18 + t.toNatClampNeg) 0 = k ∧ tk_E σ a 4 (σ (18 + t.toNatClampNeg) 0).toNatClampNeg = tk_E σ a 4 k.toNatClampNeg)) := fun hc => by
    obtain ⟨j, hj, _, cj, q1, q2, q3, q4, q5, q6⟩ := tk_thg h1 h2 hc.1
    obtain ⟨i, hi, _, ci⟩ := tk_kc h1.e3 hK hc.2
    obtain ⟨i', hi', _, ci'⟩ := tk_kc (k := σ 55 (1 + j)) h1.e3 hK q4.1
    rw [cj, ci, q1, q2, ci', (ag.2 i hi).2.2.2, (ag.2 i' hi').2.2.2]
  rcases hv with ⟨hc, rfl, e⟩ | ⟨hc, hc2, rfl, e⟩ | ⟨hc, hc2, rfl, σ2, hs, e⟩
  · refine ⟨_, σ1, _, τ, rfl, rfl, tk_ctP hm (fun v' μ2 q => ?_)⟩
    obtain ⟨σ3, rfl, hv'⟩ := q
    rcases hv' with ⟨_, rfl, e'⟩ | ⟨hc', _⟩ | ⟨hc', _⟩
    · exact ⟨rfl, a, b, σ3, τ, rfl, by rw [e', e]; exact h⟩
    · exact absurd hc' hc
    · exact absurd hc' hc
  · refine ⟨_, σ1, _, τ, rfl, rfl, tk_ctP hm (fun v' μ2 q => ?_)⟩
    obtain ⟨σ3, rfl, hv'⟩ := q
    rcases hv' with ⟨hc', _⟩ | ⟨_, _, rfl, e'⟩ | ⟨_, hc', _⟩
    · exact absurd hc hc'
    · exact ⟨rfl, a, b, σ3, τ, rfl, by rw [e', e]; exact h⟩
    · exact absurd ((cond hc).mp hc') hc2
  · refine ⟨_, σ1, _, τ, rfl, rfl, tk_ctP hm (fun v' μ2 q => ?_)⟩
    obtain ⟨σ3, rfl, hv'⟩ := q
    rcases hv' with ⟨hc', _⟩ | ⟨_, hc', _⟩ | ⟨_, _, rfl, σ4, hs4, e'⟩
    · exact absurd hc hc'
    · exact absurd ((cond hc).mpr hc2) hc'
    · obtain ⟨j, hj, _, cj, q1, q2, q3, q4, q5, q6⟩ := tk_thg h1 h2 hc.1
      obtain ⟨i, hi, ei, ci⟩ := tk_kc h1.e3 hK hc.2
      rw [cj] at e e'
      have fr : ∀ x y, ¬ (x = 18 + j ∧ y = 0) → x ≠ 23 → x ≠ 25 + X → ¬ (x = 55 ∧ y = 1 + j) → x ≠ 58 → ¬ (x = 47 ∧ y = 20) → σ3 x y = σ x y := fun x y g1 g2 g3 g4 g5 g6 => by
        rw [e', tk_upn g4, hs4.2.2.2 x y g5 g6, e, tk_upn g1, hs.2.2.2 x y g2 g3]
      have ub : ∀ x y, x < 47 → ¬ (x = 18 + j ∧ y = 0) → σ3 x y = σ2 x y := fun x y g1 g2 => by
        rw [e', tk_upn (by omega), hs4.2.2.2 x y (by omega) (by omega), e, tk_upn g2]
      have i58 : ∀ y, σ3 58 y = σ4 58 y := fun y => by rw [e', tk_upn (by omega)]
      have k1 : σ3 (18 + j) 0 = k := by rw [e', tk_upn (by omega), hs4.2.2.2 _ _ (by omega) (by omega), e, tk_up_at]
      have k2 : σ3 55 (1 + j) = k := by rw [e', tk_up_at]
      refine ⟨by rw [cj, q1], a, b, σ3, τ, rfl, K, N, if P = 10 then 10 else P + 1, (X + 1) % 10, L, m, m', h0.c (fr _ _ (by omega) (by omega) (by omega) (by omega) (by omega) (by omega)), h1.c (fun x y q => fr _ _ (by omega) (by omega) (by omega) (by omega) (by omega) (by omega)), ?_, ?_, h4.c hN (fun x y q => fr _ _ (by omega) (by omega) (by omega) (by omega) (by omega) (by omega)), h5.c (fun x y q => fr _ _ (by omega) (by omega) (by omega) (by omega) (by omega) (by omega)), h6.c (fun x y q => fr _ _ (by omega) (by omega) (by omega) (by omega) (by omega) (by omega)), h7.c (fun x y q => fr _ _ (by omega) (by omega) (by omega) (by omega) (by omega) (by omega))⟩
      · obtain ⟨⟨T, g1, g2, g3⟩, ⟨d, g4, g5, g6⟩, ⟨B, b1, b2, b3⟩, g7, g8⟩ := id h2
        have n2 : ∀ i, i < 5 → tk_NV σ3 (4 + 3 * i) = tk_NV σ (4 + 3 * i) := fun i hi => by
          rw [tk_NV2, tk_NV2, fr _ _ (by omega) (by omega) (by omega) (by omega) (by omega) (by omega)]
        refine ⟨⟨T, g1, (fr 16 0 (by omega) (by omega) (by omega) (by omega) (by omega) (by omega)).trans g2, (fr _ _ (by omega) (by omega) (by omega) (by omega) (by omega) (by omega)).trans g3⟩, ⟨d, g4, (fr 16 1 (by omega) (by omega) (by omega) (by omega) (by omega) (by omega)).trans g5, (fr _ _ (by omega) (by omega) (by omega) (by omega) (by omega) (by omega)).trans g6⟩, ⟨B, b1, (fr _ _ (by omega) (by omega) (by omega) (by omega) (by omega) (by omega)).trans b2, fun i hi => by rw [n2 i (by omega)]; exact b3 i hi⟩, fun i' hi' => ?_, fun i hi => by rw [n2 i hi]; exact g8 i hi⟩
        obtain ⟨o1, o2, o3, o4, o5⟩ := g7 i' hi'
        rw [n2 i' (by omega)]
        rw [tk_NV1] at o2 o4 o5 ⊢
        rw [tk_NV0] at o1 o3 ⊢
        rw [fr (18 + i') 1 (by omega) (by omega) (by omega) (by omega) (by omega) (by omega), fr 55 (6 + i') (by omega) (by omega) (by omega) (by omega) (by omega) (by omega)]
        by_cases hij : i' = j
        · subst hij
          rw [k1, k2]
          exact ⟨rfl, o2, ⟨i, hi, ei⟩, o4, o5⟩
        · rw [fr (18 + i') 0 (by omega) (by omega) (by omega) (by omega) (by omega) (by omega), fr 55 (1 + i') (by omega) (by omega) (by omega) (by omega) (by omega) (by omega)]
          exact ⟨o1, o2, o3, o4, o5⟩
      · refine tk_I3.note hN h2 h3 (fun i hi => ?_) ?_ ?_ (fun x y q1 q2 q3 => ?_) ?_ (fun i hi => ?_) (fun i hi => ?_)
        · rw [ub _ _ (by omega) (by omega)]
          exact hs.1 i hi
        · rw [ub _ _ (by omega) (by omega)]
          exact hs.2.1
        · rw [ub _ _ (by omega) (by omega)]
          exact hs.2.2.1
        · exact fr x y (by omega) (by omega) q3 (by omega) (by omega) (by omega)
        · rw [e', tk_upn (by omega)]
          exact hs4.1
        · rw [i58, hs4.2.1 i hi, hx 55 (by omega)]
        · rw [i58, hs4.2.2.1 i hi, hx 58 (by omega)]
end
