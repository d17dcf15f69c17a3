/-! how the class reads an item -/
theorem tk_need_r {α : Type} {c : Bool} {q : Nat} {x : Sum Nat α} {y : α} (h : tk_need c q x = Sum.inr y) : c = true ∧ x = Sum.inr y := by
  unfold tk_need at h
  split at h
  · rename_i hc
    exact ⟨hc, h⟩
  · cases h
theorem tk_rdM_le {f : Nat → Int32} {L n : Nat} {G : Nat → Nat → Int32} {x : (Nat → Nat → Int32) × Nat} (hn : n ≤ L) (h : tk_rdM f L G n = Sum.inr x) : x.2 ≤ L := by
  have h := Sum.inr.inj (tk_need_r (tk_need_r (tk_need_r h).2).2).2
  rw [← h]
  exact (tk_nx_le (tk_nx_le (tk_nx_le hn).2).2).2
theorem tk_rdD_le {f : Nat → Int32} {L n : Nat} {G : Nat → Nat → Int32} {x : (Nat → Nat → Int32) × Nat} (hn : n ≤ L) (h : tk_rdD f L G n = Sum.inr x) : x.2 ≤ L := by
  have h := Sum.inr.inj (tk_need_r (tk_need_r (tk_need_r h).2).2).2
  rw [← h]
  exact (tk_nx_le (tk_nx_le (tk_nx_le hn).2).2).2
theorem tk_rdK_le {f : Nat → Int32} {L n : Nat} {G : Nat → Nat → Int32} {x : (Nat → Nat → Int32) × Nat} (hn : n ≤ L) (h : tk_rdK f L G n = Sum.inr x) : x.2 ≤ L := by
  have h := Sum.inr.inj (tk_need_r (tk_need_r h).2).2
  rw [← h]
  exact (tk_nx_le (tk_nx_le hn).2).2
theorem tk_rdT_le {f : Nat → Int32} {L n : Nat} {G : Nat → Nat → Int32} {x : (Nat → Nat → Int32) × Nat} (hn : n ≤ L) (h : tk_rdT f L G n = Sum.inr x) : x.2 ≤ L := by
  have h := Sum.inr.inj (tk_need_r h).2
  rw [← h]
  exact (tk_nx_le hn).2
theorem tk_ckl {f : Nat → Int32} {L p : Nat} {c : Int32} (h1 : ¬ c = -1) (h2 : ¬ c = -2) (h3 : ¬ tk_dg c = true) : tk_ck f L p = c ↔ tk_ltr f L c p = true := by
  rw [tk_ltrI]
  unfold tk_ck
  split
  · exact ⟨fun h => absurd h.symm h1, fun h => by omega⟩
  · split
    · rename_i hd
      refine ⟨fun h => absurd h.symm h2, fun h => ?_⟩
      rw [h.2] at hd
      exact absurd hd h3
    · exact ⟨fun h => ⟨by omega, h⟩, fun h => h.2⟩
theorem tk_ltr1 {f : Nat → Int32} {L p : Nat} {c c' : Int32} (h : tk_ltr f L c p = true) (hc : ¬ c = c') : ¬ tk_ltr f L c' p = true := fun h' => hc ((tk_ltrI.mp h).2.symm.trans (tk_ltrI.mp h').2)
section
variable {σ : Nat → Nat → Int32} {a b B : Nat} {τ : Nat → Nat → Int64} {G : Nat → Nat → Int32} {L p : Nat}
theorem k_readItem {K N : Nat} (hB : tk_tw B) (hX : tk_TX (σ 3) L) (hL : L ≤ 150) (e1 : σ 2 1 = nI L) (hp : p ≤ L) (e2 : σ 2 2 = nI (tk_nx (σ 3) L p)) (e3 : σ 2 3 = tk_ck (σ 3) L p) (e4 : σ 2 4 = nI (tk_q (σ 3) L p)) (hG : tk_CG σ B G) (hK : K ≤ 8) (eK : G 3 3 = nI K) (hN : N ≤ 5) (eN : G 3 4 = nI N) :
    tk_Ct M_X3_readItem [.ref 2, .ref B] (σ, tk_rho a b, τ, 62) (fun v μ' => ∃ σ', μ' = (σ', tk_rho a b, τ, 62) ∧ tk_fF B σ σ' ∧ tk_RC σ' B (tk_item (σ 3) L G p) v) := by
  have hn1 := tk_nx_le (f := σ 3) hp
  have hB3 : ¬ (B ≤ 3 ∧ 3 ≤ B + 5) := by rcases hB with rfl | rfl <;> omega
  have hB2 : ¬ (B ≤ 2 ∧ 2 ≤ B + 5) := by rcases hB with rfl | rfl <;> omega
  have hF0 : tk_fF B σ σ := fun _ _ _ _ => rfl
  have none0 : ∀ r, r = Sum.inl (tk_q (σ 3) L p) → tk_RC σ B r (some (.int 0)) := fun r hr => by
    rw [hr]
    exact ⟨rfl, e4⟩
  have c109 := tk_ckl (f := σ 3) (L := L) (p := p) (c := 109) (by decide) (by decide) (by decide)
  have c107 := tk_ckl (f := σ 3) (L := L) (p := p) (c := 107) (by decide) (by decide) (by decide)
  have c100 := tk_ckl (f := σ 3) (L := L) (p := p) (c := 100) (by decide) (by decide) (by decide)
  have c116 := tk_ckl (f := σ 3) (L := L) (p := p) (c := 116) (by decide) (by decide) (by decide)
  rw [tk_item]
  refine tk_ct rfl rfl (Nat.le_of_ble_eq_true rfl) (fun l D cy => tk_run (hT_X3_readItem none) [] 80 _ ?_)
  refine And.intro (fun s1 => ?_) (fun s1 => ?_)
  all_goals try dsimp only [tk_c0, tk_c1, tk_c2, tk_c3, tk_c4, tk_c5, tk_c6, tk_c7, tk_c8, tk_c9, tk_c10, tk_c11, tk_c12, tk_c13] at s1
  all_goals rw [e3, c100] at s1
  · have n109 := tk_ltr1 s1 (c' := 109) (by decide)
    have n107 := tk_ltr1 s1 (c' := 107) (by decide)
    refine tk_cc (k_readDrain hB hX hL e1 hn1.2 e2 hG hK eK) (fun v9 μ9 h9 => ?_)
    obtain ⟨σ1, rfl, hF1, hR1⟩ := h9
    rw [if_neg (fun h => n109 h.1), if_neg (fun h => n107 h.1), if_pos s1]
    have hx := fun y h => tk_rdD_le (f := σ 3) (x := y) (G := G) hn1.2 h
    revert hR1 hx
    generalize tk_rdD (σ 3) L G (tk_nx (σ 3) L p) = r
    intro hR1 hx
    have f1 : σ1 3 = σ 3 := funext fun y => hF1 3 y (by omega) (by omega)
    have e11 : σ1 2 1 = nI L := (hF1 2 1 (by omega) (by omega)).trans e1
    cases r with
    | inl q =>
      obtain ⟨rfl, h24⟩ := hR1
      refine And.intro (fun _ => ?_) (fun z => absurd rfl z)
      refine And.intro (Or.inl rfl) ?_
      exact ⟨σ1, rfl, hF1, rfl, h24⟩
    | inr x =>
      obtain ⟨rfl, hCG, h22⟩ := hR1
      refine And.intro (fun z => absurd z (by decide)) (fun _ => ?_)
      have hre := k_readItemEnd (σ := σ1) (a := a) (b := b) (τ := τ) (L := L) (p := x.2) hL e11 (hx x rfl) h22
      rw [f1] at hre
      refine tk_cc hre (fun v9 μ9 h9 => ?_)
      obtain ⟨rfl, σ2, rfl, hT2⟩ := h9
      refine And.intro (fun h5 => ?_) (fun h5 => ?_)
      all_goals try dsimp only [tk_c0, tk_c1, tk_c2, tk_c3, tk_c4, tk_c5, tk_c6, tk_c7, tk_c8, tk_c9, tk_c10, tk_c11, tk_c12, tk_c13] at h5
      all_goals rw [tk_i01] at h5
      · refine And.intro (Or.inl rfl) ?_
        refine ⟨σ2, rfl, hF1.tr (hT2.fF B), tk_RCn h5 ?_⟩
        rw [hT2.2.1, f1]
      · have h5 := Decidable.not_not.mp h5
        refine And.intro (Or.inr rfl) ?_
        refine ⟨σ2, rfl, hF1.tr (hT2.fF B), ?_⟩
        rw [tk_fi, tk_ny h5]
        refine ⟨rfl, hT2.CG hB hCG, ?_⟩
        rw [hT2.1, f1]
  · refine And.intro (fun s2 => ?_) (fun s2 => ?_)
    all_goals try dsimp only [tk_c0, tk_c1, tk_c2, tk_c3, tk_c4, tk_c5, tk_c6, tk_c7, tk_c8, tk_c9, tk_c10, tk_c11, tk_c12, tk_c13] at s2
    all_goals rw [e3, c107] at s2
    · have n109 := tk_ltr1 s2 (c' := 109) (by decide)
      have n116 := tk_ltr1 s2 (c' := 116) (by decide)
      rw [if_neg (fun h => n109 h.1)]
      refine tk_ift (tk_twok hB) ?_
      refine tk_cc (k_hasRoomForKerb hB) (fun v9 μ9 h9 => ?_)
      obtain ⟨rfl, rfl⟩ := h9
      refine And.intro (fun r1 => ?_) (fun r1 => ?_)
      all_goals try dsimp only [tk_c0, tk_c1, tk_c2, tk_c3, tk_c4, tk_c5, tk_c6, tk_c7, tk_c8, tk_c9, tk_c10, tk_c11, tk_c12, tk_c13] at r1
      all_goals rw [tk_b0, hG.1 3 (by decide)] at r1
      · refine And.intro (Or.inl rfl) ?_
        refine ⟨σ, rfl, hF0, none0 _ ?_⟩
        rw [if_neg (fun h => r1 h.2), if_neg s1, if_neg (fun h => n116 h.1)]
      · have r1 := Decidable.not_not.mp r1
        have hK8 : K < 8 := (nI_ltI (b := 8) (by omega) (by omega)).mp (by rw [eK] at r1; exact r1)
        refine tk_cc (k_readKerb hB hX hL e1 hn1.2 e2 hG hK8 eK) (fun v9 μ9 h9 => ?_)
        obtain ⟨σ1, rfl, hF1, hR1⟩ := h9
        rw [if_pos ⟨s2, r1⟩]
        have hx := fun y h => tk_rdK_le (f := σ 3) (x := y) (G := G) hn1.2 h
        revert hR1 hx
        generalize tk_rdK (σ 3) L G (tk_nx (σ 3) L p) = r
        intro hR1 hx
        have f1 : σ1 3 = σ 3 := funext fun y => hF1 3 y (by omega) (by omega)
        have e11 : σ1 2 1 = nI L := (hF1 2 1 (by omega) (by omega)).trans e1
        cases r with
        | inl q =>
          obtain ⟨rfl, h24⟩ := hR1
          refine And.intro (fun _ => ?_) (fun z => absurd rfl z)
          refine And.intro (Or.inl rfl) ?_
          exact ⟨σ1, rfl, hF1, rfl, h24⟩
        | inr x =>
          obtain ⟨rfl, hCG, h22⟩ := hR1
          refine And.intro (fun z => absurd z (by decide)) (fun _ => ?_)
          have hre := k_readItemEnd (σ := σ1) (a := a) (b := b) (τ := τ) (L := L) (p := x.2) hL e11 (hx x rfl) h22
          rw [f1] at hre
          refine tk_cc hre (fun v9 μ9 h9 => ?_)
          obtain ⟨rfl, σ2, rfl, hT2⟩ := h9
          refine And.intro (fun h5 => ?_) (fun h5 => ?_)
          all_goals try dsimp only [tk_c0, tk_c1, tk_c2, tk_c3, tk_c4, tk_c5, tk_c6, tk_c7, tk_c8, tk_c9, tk_c10, tk_c11, tk_c12, tk_c13] at h5
          all_goals rw [tk_i01] at h5
          · refine And.intro (Or.inl rfl) ?_
            refine ⟨σ2, rfl, hF1.tr (hT2.fF B), tk_RCn h5 ?_⟩
            rw [hT2.2.1, f1]
          · have h5 := Decidable.not_not.mp h5
            refine And.intro (Or.inr rfl) ?_
            refine ⟨σ2, rfl, hF1.tr (hT2.fF B), ?_⟩
            rw [tk_fi, tk_ny h5]
            refine ⟨rfl, hT2.CG hB hCG, ?_⟩
            rw [hT2.1, f1]
    · refine And.intro (fun s3 => ?_) (fun s3 => ?_)
      all_goals try dsimp only [tk_c0, tk_c1, tk_c2, tk_c3, tk_c4, tk_c5, tk_c6, tk_c7, tk_c8, tk_c9, tk_c10, tk_c11, tk_c12, tk_c13] at s3
      all_goals rw [e3, c109] at s3
      · have n116 := tk_ltr1 s3 (c' := 116) (by decide)
        refine And.intro (fun r1 => ?_) (fun r1 => ?_)
        all_goals try dsimp only [tk_c0, tk_c1, tk_c2, tk_c3, tk_c4, tk_c5, tk_c6, tk_c7, tk_c8, tk_c9, tk_c10, tk_c11, tk_c12, tk_c13] at r1
        all_goals rw [hG.2.2.2] at r1
        · refine tk_cc (k_readLevel hB hX hL e1 hn1.2 e2 hG) (fun v9 μ9 h9 => ?_)
          obtain ⟨σ1, rfl, hF1, hR1⟩ := h9
          rw [if_pos ⟨s3, r1⟩]
          have hx := fun y h => tk_rdM_le (f := σ 3) (x := y) (G := G) hn1.2 h
          revert hR1 hx
          generalize tk_rdM (σ 3) L G (tk_nx (σ 3) L p) = r
          intro hR1 hx
          have f1 : σ1 3 = σ 3 := funext fun y => hF1 3 y (by omega) (by omega)
          have e11 : σ1 2 1 = nI L := (hF1 2 1 (by omega) (by omega)).trans e1
          cases r with
          | inl q =>
            obtain ⟨rfl, h24⟩ := hR1
            refine And.intro (fun _ => ?_) (fun z => absurd rfl z)
            refine And.intro (Or.inl rfl) ?_
            exact ⟨σ1, rfl, hF1, rfl, h24⟩
          | inr x =>
            obtain ⟨rfl, hCG, h22⟩ := hR1
            refine And.intro (fun z => absurd z (by decide)) (fun _ => ?_)
            have hre := k_readItemEnd (σ := σ1) (a := a) (b := b) (τ := τ) (L := L) (p := x.2) hL e11 (hx x rfl) h22
            rw [f1] at hre
            refine tk_cc hre (fun v9 μ9 h9 => ?_)
            obtain ⟨rfl, σ2, rfl, hT2⟩ := h9
            refine And.intro (fun h5 => ?_) (fun h5 => ?_)
            all_goals try dsimp only [tk_c0, tk_c1, tk_c2, tk_c3, tk_c4, tk_c5, tk_c6, tk_c7, tk_c8, tk_c9, tk_c10, tk_c11, tk_c12, tk_c13] at h5
            all_goals rw [tk_i01] at h5
            · refine And.intro (Or.inl rfl) ?_
              refine ⟨σ2, rfl, hF1.tr (hT2.fF B), tk_RCn h5 ?_⟩
              rw [hT2.2.1, f1]
            · have h5 := Decidable.not_not.mp h5
              refine And.intro (Or.inr rfl) ?_
              refine ⟨σ2, rfl, hF1.tr (hT2.fF B), ?_⟩
              rw [tk_fi, tk_ny h5]
              refine ⟨rfl, hT2.CG hB hCG, ?_⟩
              rw [hT2.1, f1]
        · refine And.intro (Or.inl rfl) ?_
          refine ⟨σ, rfl, hF0, none0 _ ?_⟩
          rw [if_neg (fun h => r1 h.2), if_neg (fun h => s2 h.1), if_neg s1, if_neg (fun h => n116 h.1)]
      · refine And.intro (fun s4 => ?_) (fun s4 => ?_)
        all_goals try dsimp only [tk_c0, tk_c1, tk_c2, tk_c3, tk_c4, tk_c5, tk_c6, tk_c7, tk_c8, tk_c9, tk_c10, tk_c11, tk_c12, tk_c13] at s4
        all_goals rw [e3, c116] at s4
        · rw [if_neg (fun h => s3 h.1), if_neg (fun h => s2 h.1), if_neg s1]
          refine tk_ift (tk_twok hB) ?_
          refine tk_cc (k_hasRoomForThing hB) (fun v9 μ9 h9 => ?_)
          obtain ⟨rfl, rfl⟩ := h9
          refine And.intro (fun r1 => ?_) (fun r1 => ?_)
          all_goals try dsimp only [tk_c0, tk_c1, tk_c2, tk_c3, tk_c4, tk_c5, tk_c6, tk_c7, tk_c8, tk_c9, tk_c10, tk_c11, tk_c12, tk_c13] at r1
          all_goals rw [tk_b0, hG.1 4 (by decide)] at r1
          · refine And.intro (Or.inl rfl) ?_
            refine ⟨σ, rfl, hF0, none0 _ ?_⟩
            rw [if_neg (fun h => r1 h.2)]
          · have r1 := Decidable.not_not.mp r1
            have hN5 : N < 5 := (nI_ltI (b := 5) (by omega) (by omega)).mp (by rw [eN] at r1; exact r1)
            refine tk_cc (k_readThing hB hX hL e1 hn1.2 e2 hG hN5 eN) (fun v9 μ9 h9 => ?_)
            obtain ⟨σ1, rfl, hF1, hR1⟩ := h9
            rw [if_pos ⟨s4, r1⟩]
            have hx := fun y h => tk_rdT_le (f := σ 3) (x := y) (G := G) hn1.2 h
            revert hR1 hx
            generalize tk_rdT (σ 3) L G (tk_nx (σ 3) L p) = r
            intro hR1 hx
            have f1 : σ1 3 = σ 3 := funext fun y => hF1 3 y (by omega) (by omega)
            have e11 : σ1 2 1 = nI L := (hF1 2 1 (by omega) (by omega)).trans e1
            cases r with
            | inl q =>
              obtain ⟨rfl, h24⟩ := hR1
              refine And.intro (fun _ => ?_) (fun z => absurd rfl z)
              refine And.intro (Or.inl rfl) ?_
              exact ⟨σ1, rfl, hF1, rfl, h24⟩
            | inr x =>
              obtain ⟨rfl, hCG, h22⟩ := hR1
              refine And.intro (fun z => absurd z (by decide)) (fun _ => ?_)
              have hre := k_readItemEnd (σ := σ1) (a := a) (b := b) (τ := τ) (L := L) (p := x.2) hL e11 (hx x rfl) h22
              rw [f1] at hre
              refine tk_cc hre (fun v9 μ9 h9 => ?_)
              obtain ⟨rfl, σ2, rfl, hT2⟩ := h9
              refine And.intro (fun h5 => ?_) (fun h5 => ?_)
              all_goals try dsimp only [tk_c0, tk_c1, tk_c2, tk_c3, tk_c4, tk_c5, tk_c6, tk_c7, tk_c8, tk_c9, tk_c10, tk_c11, tk_c12, tk_c13] at h5
              all_goals rw [tk_i01] at h5
              · refine And.intro (Or.inl rfl) ?_
                refine ⟨σ2, rfl, hF1.tr (hT2.fF B), tk_RCn h5 ?_⟩
                rw [hT2.2.1, f1]
              · have h5 := Decidable.not_not.mp h5
                refine And.intro (Or.inr rfl) ?_
                refine ⟨σ2, rfl, hF1.tr (hT2.fF B), ?_⟩
                rw [tk_fi, tk_ny h5]
                refine ⟨rfl, hT2.CG hB hCG, ?_⟩
                rw [hT2.1, f1]
        · refine And.intro (Or.inl rfl) ?_
          refine ⟨σ, rfl, hF0, none0 _ ?_⟩
          rw [if_neg (fun h => s3 h.1), if_neg (fun h => s2 h.1), if_neg s1, if_neg (fun h => s4 h.1)]
end
