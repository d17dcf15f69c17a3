/-! ties, undo, keep, back -/
/-- the bits behind a tie -/
def tk_bu (B j w : Nat) : Nat := B - B / 2 ^ j % 2 * 2 ^ j + w * 2 ^ j
theorem tk_bu_is : ∀ B, B < 32 → ∀ j, j < 5 → ∀ w, w < 2 → ((nI B &&& ((1 : Int32) <<< (nI j &&& 31) ^^^ -1)) ||| nI w <<< (nI j &&& 31)) = nI (tk_bu B j w) ∧ ∀ t, t < 5 → tk_bu B j w / 2 ^ t % 2 = if t = j then w else B / 2 ^ t % 2 := by decide +kernel
theorem tk_bu_lt : ∀ N, N < 6 → ∀ B, B < 2 ^ N → ∀ j, j < N → ∀ w, w < 2 → tk_bu B j w < 2 ^ N := by decide +kernel
theorem tk_pcB : ∀ N, N < 6 → ∀ B, B < 32 → B < 2 ^ N → tk_pc (nI B) 8 = nI (tk_cnt (fun i => ¬ B / 2 ^ i % 2 = 0) (fun _ => inferInstance) N) := by decide +kernel
section
variable {a b K N P X L m : Nat} {σ σ1 : Nat → Nat → Int32} {τ : Nat → Nat → Int64} {t k u w n x c : Int32}
theorem st_ties (h : tk_Inv a b σ τ) : tk_Two M_X6_ties M_X7_ties [.int t, .int w] (σ, tk_rho a b, τ, 62) := by
  obtain ⟨K, N, P, X, L, m, m', h0, h1, h2, h3, h4, h5, h6, h7⟩ := id h
  obtain ⟨ha, hK, hN, hE, hF, ag, e3, e4⟩ := id h1
  obtain ⟨hP, hX, p1, p2, p3, p4⟩ := id h3
  refine tk_ctP (k_cTies ha hE hN e4 (tk_h01of h2) hX p2 hP p1) (fun v μ1 q => ?_)
  obtain ⟨σ1, rfl, hv⟩ := q
  have hx : ∀ x, 47 ≤ x → σ1 x = σ x := by
    rcases hv with ⟨_, _, e⟩ | ⟨_, _, _, e⟩ | ⟨hc, _, _, σ2, hs, e⟩
    · exact fun x _ => by rw [e]
    · exact fun x _ => by rw [e]
    · obtain ⟨j, hj, _, cj, _⟩ := tk_thg h1 h2 hc.1
      exact fun x hx => funext fun y => by rw [e, cj, tk_upn (by omega), hs.2.2.2 x y (by omega) (by omega)]
  have eF := tk_F.c (σ := σ) (σ' := σ1) (fun x y q => congrFun (hx x (by omega)) y)
  have em : tk_mt σ1 t = tk_mt σ t := by unfold tk_mt; rw [hx 55 (by omega)]
  have hm := k_mTies (t := t) (w := w) (a := a) (b := b) (τ := τ) (σ := σ1) (K := P) (by rw [hx 47 (by omega)]; exact h0.2.2.1) (by rw [eF]; exact hF) hP (by rw [hx 47 (by omega)]; exact p3)
  rw [em, hx 55 (by omega), hx 49 (by omega), h1.e1] at hm
  have cond : ((0 ≤ t ∧ t < σ a 4) ∧ (0 ≤ w ∧ w ≤ 1)) → ((σ 55 (6 + t.toNatClampNeg) ≤ 0 ∧ ¬ tk_mt σ t = w) ↔ (σ (18 + t.toNatClampNeg) 1 = 0 ∧ ¬ σ (18 + t.toNatClampNeg) 2 = w)) := fun hc => by
    obtain ⟨j, hj, _, cj, q1, q2, q3, q4, q5, q6⟩ := tk_thg h1 h2 hc.1
    obtain ⟨_, g, hg, eg⟩ := tk_VSx h1.e3 hK q4
    have eg : σ 55 (6 + j) = nI g := eg
    rw [cj, q2, q3, eg]
    have : nI g ≤ 0 ↔ nI g = 0 := by
      have k1 : nI g ≤ 0 ↔ g ≤ 0 := nI_leI (b := 0) (by omega) (by omega)
      have k2 : nI g = 0 ↔ g = 0 := nI_eq (b := 0) (by omega) (by omega)
      rw [k1, k2]
      omega
    rw [this]
  rcases hv with ⟨hc, rfl, e⟩ | ⟨hc, hc2, rfl, e⟩ | ⟨hc, hc2, hv, σ2, hs, e⟩
  · refine ⟨_, σ1, _, τ, rfl, rfl, tk_ctP hm (fun v' μ2 q => ?_)⟩
    obtain ⟨σ3, rfl, hv'⟩ := q
    rcases hv' with ⟨_, rfl, e'⟩ | ⟨hc', _⟩ | ⟨hc', _⟩
    · exact ⟨rfl, a, b, σ3, τ, rfl, by rw [e', e]; exact h⟩
    · exact absurd hc' hc
    · exact absurd hc' hc
  · refine ⟨_, σ1, _, τ, rfl, rfl, tk_ctP hm (fun v' μ2 q => ?_)⟩
    obtain ⟨σ3, rfl, hv'⟩ := q
    rcases hv' with ⟨hc', _⟩ | ⟨_, _, rfl, e'⟩ | ⟨_, hc', _⟩
    · exact absurd hc hc'
    · exact ⟨rfl, a, b, σ3, τ, rfl, by rw [e', e]; exact h⟩
    · exact absurd ((cond hc).mp hc') hc2
  · subst hv
    refine ⟨_, σ1, _, τ, rfl, rfl, tk_ctP hm (fun v' μ2 q => ?_)⟩
    obtain ⟨σ3, rfl, hv'⟩ := q
    rcases hv' with ⟨hc', _⟩ | ⟨_, hc', _⟩ | ⟨_, _, hv', σ4, hs4, e'⟩
    · exact absurd hc hc'
    · exact absurd ((cond hc).mpr hc2) hc'
    · obtain ⟨j, hj, et, cj, q1, q2, q3, q4, q5, q6⟩ := tk_thg h1 h2 hc.1
      obtain ⟨W, hW, eW⟩ := nI_of2 (M := 1) (n := 1) rfl (Int32.not_lt.mpr hc.2.1) hc.2.2
      obtain ⟨⟨T, g1, g2, g3⟩, ⟨d, g4, g5, g6⟩, ⟨B, b1, b2, b3⟩, g7, g8⟩ := id h2
      have hB := tk_2N hN b1
      obtain ⟨bu1, bu2⟩ := tk_bu_is B hB j (by omega) W (by omega)
      have bu3 := tk_bu_lt N (by omega) B b1 j hj W (by omega)
      rw [cj] at e
      rw [et, eW, b2, bu1] at e'
      have fr : ∀ x y, ¬ (x = 18 + j ∧ y = 2) → x ≠ 23 → x ≠ 25 + X → ¬ (x = 55 ∧ y = 11) → x ≠ 58 → ¬ (x = 47 ∧ y = 20) → σ3 x y = σ x y := fun x y g1 g2 g3 g4 g5 g6 => by
        rw [e', tk_upn g4, hs4.2.2.2 x y g5 g6, e, tk_upn g1, hs.2.2.2 x y g2 g3]
      have ua : ∀ x y, x < 47 → σ3 x y = σ1 x y := fun x y g1 => by
        rw [e', tk_upn (by omega), hs4.2.2.2 x y (by omega) (by omega)]
      have ub : ∀ x y, x < 47 → ¬ (x = 18 + j ∧ y = 2) → σ3 x y = σ2 x y := fun x y g1 g2 => by
        rw [ua x y g1, e, tk_upn g2]
      have i58 : ∀ y, σ3 58 y = σ4 58 y := fun y => by rw [e', tk_upn (by omega)]
      have k2 : σ3 55 11 = nI (tk_bu B j W) := by rw [e', tk_up_at]
      have k1 : ∀ i, i < N → σ3 (18 + i) 2 = nI (tk_bu B j W / 2 ^ i % 2) := fun i hi => by
        rw [bu2 i (by omega)]
        by_cases hij : i = j
        · subst hij
          rw [if_pos rfl, ua _ _ (by omega), e, tk_up_at]
          exact eW
        · rw [if_neg hij, fr _ _ (by omega) (by omega) (by omega) (by omega) (by omega) (by omega)]
          have := b3 i hi
          rw [tk_NV2] at this
          exact this
      have hb2 : ∀ i, tk_bu B j W / 2 ^ i % 2 < 2 := fun i => Nat.mod_lt _ (by omega)
      refine ⟨?_, a, b, σ3, τ, rfl, K, N, if P = 10 then 10 else P + 1, (X + 1) % 10, L, m, m', h0.c (fr _ _ (by omega) (by omega) (by omega) (by omega) (by omega) (by omega)), h1.c (fun x y q => fr _ _ (by omega) (by omega) (by omega) (by omega) (by omega) (by omega)), ?_, ?_, h4.c hN (fun x y q => fr _ _ (by omega) (by omega) (by omega) (by omega) (by omega) (by omega)), h5.c (fun x y q => fr _ _ (by omega) (by omega) (by omega) (by omega) (by omega) (by omega)), h6.c (fun x y q => fr _ _ (by omega) (by omega) (by omega) (by omega) (by omega) (by omega)), h7.c (fun x y q => fr _ _ (by omega) (by omega) (by omega) (by omega) (by omega) (by omega))⟩
      · rw [hv', k2, tk_pcB N (by omega) _ (tk_2N hN bu3) bu3]
        refine congrArg (fun z => some (Value.int (nI z))) (tk_cntc N (fun i hi => ?_))
        rw [← ua _ _ (by omega), k1 i hi]
        have : nI (tk_bu B j W / 2 ^ i % 2) = 0 ↔ tk_bu B j W / 2 ^ i % 2 = 0 := nI_eq (b := 0) (by have := hb2 i; omega) (by omega)
        rw [this]
      · refine ⟨⟨T, g1, (fr 16 0 (by omega) (by omega) (by omega) (by omega) (by omega) (by omega)).trans g2, (fr _ _ (by omega) (by omega) (by omega) (by omega) (by omega) (by omega)).trans g3⟩, ⟨d, g4, (fr 16 1 (by omega) (by omega) (by omega) (by omega) (by omega) (by omega)).trans g5, (fr _ _ (by omega) (by omega) (by omega) (by omega) (by omega) (by omega)).trans g6⟩, ⟨_, bu3, k2, fun i hi => by rw [tk_NV2]; exact k1 i hi⟩, fun i' hi' => ?_, fun i hi => ?_⟩
        · obtain ⟨o1, o2, o3, o4, o5⟩ := g7 i' hi'
          rw [tk_NV2] at o5 ⊢
          rw [tk_NV1] at o2 o4 o5 ⊢
          rw [tk_NV0] at o1 o3 ⊢
          rw [fr (18 + i') 0 (by omega) (by omega) (by omega) (by omega) (by omega) (by omega), fr (18 + i') 1 (by omega) (by omega) (by omega) (by omega) (by omega) (by omega), fr 55 (1 + i') (by omega) (by omega) (by omega) (by omega) (by omega) (by omega), fr 55 (6 + i') (by omega) (by omega) (by omega) (by omega) (by omega) (by omega)]
          refine ⟨o1, o2, o3, o4, fun h1' => ?_⟩
          by_cases hij : i' = j
          · subst hij
            rw [cj] at hc2
            exact hc2.1
          · rw [fr (18 + i') 2 (by omega) (by omega) (by omega) (by omega) (by omega) (by omega)] at h1'
            exact o5 h1'
        · rw [tk_NV2]
          by_cases hij : i = j
          · subst hij
            rw [k1 i hj]
            have := hb2 i
            have h01 : tk_bu B i W / 2 ^ i % 2 = 0 ∨ tk_bu B i W / 2 ^ i % 2 = 1 := by omega
            rcases h01 with h | h <;> rw [h]
            · exact Or.inl rfl
            · exact Or.inr rfl
          · rw [fr (18 + i) 2 (by omega) (by omega) (by omega) (by omega) (by omega) (by omega)]
            exact tk_h01of h2 i hi
      · refine tk_I3.note hN h2 h3 (fun i hi => ?_) ?_ ?_ (fun x y q1 q2 q3 => ?_) ?_ (fun i hi => ?_) (fun i hi => ?_)
        · rw [ub _ _ (by omega) (by omega)]
          exact hs.1 i hi
        · rw [ub _ _ (by omega) (by omega)]
          exact hs.2.1
        · rw [ub _ _ (by omega) (by omega)]
          exact hs.2.2.1
        · exact fr x y (by omega) (by omega) q3 (by omega) (by omega) (by omega)
        · rw [e', tk_upn (by omega)]
          exact hs4.1
        · rw [i58, hs4.2.1 i hi, hx 55 (by omega)]
        · rw [i58, hs4.2.2.1 i hi, hx 58 (by omega)]
theorem st_undo (h : tk_Inv a b σ τ) : tk_Two M_X6_undo M_X7_undo [] (σ, tk_rho a b, τ, 62) := by
  obtain ⟨K, N, P, X, L, m, m', h0, h1, h2, h3, h4, h5, h6, h7⟩ := id h
  have hN := h1.2.2.1
  obtain ⟨hP, hX, p1, p2, p3, p4⟩ := id h3
  have er : 1 ≤ P → 25 + (X + 9) % 10 = 25 + (X + 10 - P + (P - 1)) % 10 := fun _ => by omega
  refine tk_ctP (k_cUndo hX p2 hP p1 (fun h1' j hj => by
    rw [er h1']
    exact (p4 (P - 1) (by omega)).2.2.2.2 j hj)) (fun v μ1 q => ?_)
  obtain ⟨σ1, rfl, hv⟩ := q
  have hx : ∀ x, 47 ≤ x → σ1 x = σ x := by
    rcases hv with ⟨_, _, e⟩ | ⟨_, _, _, _, _, hf⟩
    · exact fun x _ => by rw [e]
    · exact fun x hx => funext fun y => hf x y (by omega) (by omega) (by omega)
  have hm := k_mUndo (a := a) (b := b) (τ := τ) (σ := σ1) (K := P) (by rw [hx 47 (by omega)]; exact h0.2.2.1) hP (by rw [hx 47 (by omega)]; exact p3)
  rw [hx 58 (by omega)] at hm
  rcases hv with ⟨hc, rfl, e⟩ | ⟨hc, rfl, t1, t2, t3, t4⟩
  · refine ⟨_, σ1, _, τ, rfl, rfl, tk_ctP hm (fun v' μ2 q => ?_)⟩
    obtain ⟨σ3, rfl, hv'⟩ := q
    rcases hv' with ⟨_, rfl, e'⟩ | ⟨hc', _⟩
    · exact ⟨rfl, a, b, σ3, τ, rfl, by rw [e', e]; exact h⟩
    · omega
  · refine ⟨_, σ1, _, τ, rfl, rfl, tk_ctP hm (fun v' μ2 q => ?_)⟩
    obtain ⟨σ3, rfl, hv'⟩ := q
    rcases hv' with ⟨hc', _⟩ | ⟨_, rfl, r1, r2, r3⟩
    · omega
    · have fr : ∀ x y, x ≠ 16 → x ≠ 23 → ¬ (18 ≤ x ∧ x ≤ 22) → x ≠ 55 → ¬ (x = 47 ∧ y = 20) → σ3 x y = σ x y := fun x y g1 g2 g3 g4 g5 => by
        rw [r3 x y g4 g5, t4 x y g1 g2 g3]
      have ua : ∀ x y, x < 47 → σ3 x y = σ1 x y := fun x y g1 => r3 x y (by omega) (by omega)
      refine ⟨rfl, a, b, σ3, τ, rfl, K, N, P - 1, (X + 9) % 10, L, m, m', h0.c (fr _ _ (by omega) (by omega) (by omega) (by omega) (by omega)), h1.c (fun x y q => fr _ _ (by omega) (by omega) (by omega) (by omega) (by omega)), ?_, ?_, h4.c hN (fun x y q => fr _ _ (by omega) (by omega) (by omega) (by omega) (by omega)), h5.c (fun x y q => fr _ _ (by omega) (by omega) (by omega) (by omega) (by omega)), h6.c (fun x y q => fr _ _ (by omega) (by omega) (by omega) (by omega) (by omega)), h7.c (fun x y q => fr _ _ (by omega) (by omega) (by omega) (by omega) (by omega))⟩
      · refine (p4 (P - 1) (by omega)).c hN (fun i hi => ?_) (fun i hi => r1 i hi)
        rw [tk_NV_congr (fun x y q => ua x y (by omega)) i hi, t1 i hi, er hc]
      · refine ⟨by omega, by omega, (ua _ _ (by omega)).trans t3, (ua _ _ (by omega)).trans t2, r2, fun i hi => (p4 i (by omega)).c hN (fun y _ => ?_) (fun y _ => fr _ _ (by omega) (by omega) (by omega) (by omega) (by omega))⟩
        rw [show 25 + ((X + 9) % 10 + 10 - (P - 1) + i) % 10 = 25 + (X + 10 - P + i) % 10 by omega]
        exact fr _ _ (by omega) (by omega) (by omega) (by omega) (by omega)
theorem st_keep (h : tk_Inv a b σ τ) : tk_Two M_X6_keep M_X7_keep [.int w] (σ, tk_rho a b, τ, 62) := by
  obtain ⟨K, N, P, X, L, m, m', h0, h1, h2, h3, h4, h5, h6, h7⟩ := id h
  have hN := h1.2.2.1
  refine tk_ctP (k_cKeep (tk_h01of h2)) (fun v μ1 q => ?_)
  obtain ⟨σ1, rfl, hv⟩ := q
  have hx : ∀ x, 47 ≤ x → σ1 x = σ x := by
    rcases hv with ⟨_, _, e⟩ | ⟨hc, _, _, _, _, hf⟩
    · exact fun x _ => by rw [e]
    · obtain ⟨j, hj, ej⟩ := nI_of2 (M := 1) (n := 1) rfl (Int32.not_lt.mpr hc.1) hc.2
      have cj : w.toNatClampNeg = j := by rw [ej, nI_clamp (by omega)]
      exact fun x hx => funext fun y => hf x y (by omega) (by omega)
  have hm := k_mKeep (w := w) (a := a) (b := b) (τ := τ) (σ := σ1) (by rw [hx 47 (by omega)]; exact h0.2.2.1)
  rw [hx 55 (by omega)] at hm
  rcases hv with ⟨hc, rfl, e⟩ | ⟨hc, rfl, t1, t2, t3, t4⟩
  · refine ⟨_, σ1, _, τ, rfl, rfl, tk_ctP hm (fun v' μ2 q => ?_)⟩
    obtain ⟨σ3, rfl, hv'⟩ := q
    rcases hv' with ⟨_, rfl, e'⟩ | ⟨hc', _⟩
    · exact ⟨rfl, a, b, σ3, τ, rfl, by rw [e', e]; exact h⟩
    · exact absurd hc' hc
  · refine ⟨_, σ1, _, τ, rfl, rfl, tk_ctP hm (fun v' μ2 q => ?_)⟩
    obtain ⟨σ3, rfl, hv'⟩ := q
    rcases hv' with ⟨hc', _⟩ | ⟨_, rfl, r1, r2, r3, r4, r5⟩
    · exact absurd hc hc'
    · obtain ⟨j, hj, ej⟩ := nI_of2 (M := 1) (n := 1) rfl (Int32.not_lt.mpr hc.1) hc.2
      have cj : w.toNatClampNeg = j := by rw [ej, nI_clamp (by omega)]
      rw [cj] at t1 t2 t3 t4 r1 r2 r3 r4
      have fr : ∀ x y, x ≠ 38 → x ≠ 36 + j → x ≠ 56 → x ≠ 57 → σ3 x y = σ x y := fun x y g1 g2 g3 g4 => by
        rw [r5 x y g3 g4, t4 x y g1 g2]
      have ua : ∀ x y, x < 47 → σ3 x y = σ1 x y := fun x y g1 => r5 x y (by omega) (by omega)
      refine ⟨by rw [tk_eT' h2], a, b, σ3, τ, rfl, K, N, P, X, L, m, m', h0.c (fr _ _ (by omega) (by omega) (by omega) (by omega)), h1.c (fun x y q => fr _ _ (by omega) (by omega) (by omega) (by omega)), tk_I2.c hN h2 (fun x y q => fr _ _ (by omega) (by omega) (by omega) (by omega)), h3.c hN (fun x y q => fr _ _ (by omega) (by omega) (by omega) (by omega)), fun i hi => ?_, h5.c (fun x y q => fr _ _ (by omega) (by omega) (by omega) (by omega)), h6.c (fun x y q => fr _ _ (by omega) (by omega) (by omega) (by omega)), h7.c (fun x y q => fr _ _ (by omega) (by omega) (by omega) (by omega))⟩
      by_cases hij : i = j
      · subst hij
        rw [ua 38 i (by omega), t2, r3]
        exact ⟨Or.inr rfl, rfl, fun _ => h2.c hN (fun y hy => (ua _ _ (by omega)).trans (t1 y hy)) (fun y hy => r1 y hy)⟩
      · obtain ⟨g1, g2, g3⟩ := h4 i hi
        rw [ua 38 i (by omega), t3 i hij, r4 i hij, hx 57 (by omega)]
        refine ⟨g1, g2, fun hn => (g3 hn).c hN (fun y _ => fr _ _ (by omega) (by omega) (by omega) (by omega)) (fun y hy => ?_)⟩
        rw [r2 _ (by omega), hx 56 (by omega)]
theorem st_back (h : tk_Inv a b σ τ) : tk_Two M_X6_back M_X7_back [.int w] (σ, tk_rho a b, τ, 62) := by
  obtain ⟨K, N, P, X, L, m, m', h0, h1, h2, h3, h4, h5, h6, h7⟩ := id h
  have hN := h1.2.2.1
  obtain ⟨hP, hX, p1, p2, p3, p4⟩ := id h3
  refine tk_ctP (k_cBack (fun i hi hn j hj => ((h4 i hi).2.2 hn).2.2.2.2 j hj)) (fun v μ1 q => ?_)
  obtain ⟨σ1, rfl, hv⟩ := q
  have hx : ∀ x, 47 ≤ x → σ1 x = σ x := by
    rcases hv with ⟨_, _, e⟩ | ⟨_, _, _, e⟩ | ⟨hc, _, _, _, _, _, hf⟩
    · exact fun x _ => by rw [e]
    · exact fun x _ => by rw [e]
    · exact fun x hx => funext fun y => hf x y (by omega) (by omega) (by omega)
  have hm := k_mBack (w := w) (a := a) (b := b) (τ := τ) (σ := σ1) (by rw [hx 47 (by omega)]; exact h0.2.2.1)
  rw [hx 56 (by omega), hx 57 (by omega)] at hm
  have cond : (0 ≤ w ∧ w ≤ 1) → ∃ j, j < 2 ∧ w.toNatClampNeg = j := fun hc => by
    obtain ⟨j, hj, ej⟩ := nI_of2 (M := 1) (n := 1) rfl (Int32.not_lt.mpr hc.1) hc.2
    exact ⟨j, by omega, by rw [ej, nI_clamp (by omega)]⟩
  rcases hv with ⟨hc, rfl, e⟩ | ⟨hc, hc2, rfl, e⟩ | ⟨hc, hc2, rfl, t1, t2, t3, t4⟩
  · refine ⟨_, σ1, _, τ, rfl, rfl, tk_ctP hm (fun v' μ2 q => ?_)⟩
    obtain ⟨σ3, rfl, hv'⟩ := q
    rcases hv' with ⟨_, rfl, e'⟩ | ⟨hc', _⟩ | ⟨hc', _⟩
    · exact ⟨rfl, a, b, σ3, τ, rfl, by rw [e', e]; exact h⟩
    · exact absurd hc' hc
    · exact absurd hc' hc
  · refine ⟨_, σ1, _, τ, rfl, rfl, tk_ctP hm (fun v' μ2 q => ?_)⟩
    obtain ⟨σ3, rfl, hv'⟩ := q
    obtain ⟨j, hj, cj⟩ := cond hc
    rw [cj] at hc2 hv'
    rw [(h4 j hj).2.1] at hv'
    rcases hv' with ⟨hc', _⟩ | ⟨_, _, rfl, e'⟩ | ⟨_, hc', _⟩
    · exact absurd hc hc'
    · exact ⟨rfl, a, b, σ3, τ, rfl, by rw [e', e]; exact h⟩
    · exact absurd hc2 hc'
  · refine ⟨_, σ1, _, τ, rfl, rfl, tk_ctP hm (fun v' μ2 q => ?_)⟩
    obtain ⟨σ3, rfl, hv'⟩ := q
    obtain ⟨j, hj, cj⟩ := cond hc
    rw [cj] at hc2 hv' t1 ⊢
    obtain ⟨g1, g2, g3⟩ := h4 j hj
    rw [g2] at hv'
    rcases hv' with ⟨hc', _⟩ | ⟨_, hc', _⟩ | ⟨_, _, rfl, r1, r2, r3⟩
    · exact absurd hc hc'
    · exact absurd hc' hc2
    · have hR := g3 hc2
      have fr : ∀ x y, x ≠ 16 → x ≠ 23 → ¬ (18 ≤ x ∧ x ≤ 22) → x ≠ 55 → ¬ (x = 47 ∧ y = 20) → σ3 x y = σ x y := fun x y g1 g2 g3 g4 g5 => by
        rw [r3 x y g4 g5, t4 x y g1 g2 g3]
      have ua : ∀ x y, x < 47 → σ3 x y = σ1 x y := fun x y g1 => r3 x y (by omega) (by omega)
      refine ⟨?_, a, b, σ3, τ, rfl, K, N, 0, X, L, m, m', h0.c (fr _ _ (by omega) (by omega) (by omega) (by omega) (by omega)), h1.c (fun x y q => fr _ _ (by omega) (by omega) (by omega) (by omega) (by omega)), ?_, ?_, h4.c hN (fun x y q => fr _ _ (by omega) (by omega) (by omega) (by omega) (by omega)), h5.c (fun x y q => fr _ _ (by omega) (by omega) (by omega) (by omega) (by omega)), h6.c (fun x y q => fr _ _ (by omega) (by omega) (by omega) (by omega) (by omega)), h7.c (fun x y q => fr _ _ (by omega) (by omega) (by omega) (by omega) (by omega))⟩
      · obtain ⟨T, _, g4, g5⟩ := hR.1
        have g5 : σ 56 (13 * j) = nI T := g5
        rw [g4, g5]
      · refine hR.c hN (fun i hi => ?_) (fun i hi => r1 i hi)
        rw [tk_NV_congr (fun x y q => ua x y (by omega)) i hi, t1 i hi]
      · exact ⟨by omega, hX, (ua _ _ (by omega)).trans (t2.trans rfl), (ua _ _ (by omega)).trans (t3.trans p2), r2.trans rfl, fun i hi => absurd hi (Nat.not_lt_zero i)⟩
end
