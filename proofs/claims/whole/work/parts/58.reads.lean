/-! how the reference reads an item -/
/-- a contract says less -/
theorem tk_ctP {M : tk_Md} {as : List Value} {μ : tk_Me} {P P' : tk_Po} (h : tk_Ct M as μ P) (k : ∀ v μ', P v μ' → P' v μ') : tk_Ct M as μ P' := by
  intro l D cy ad A
  intro p e h1 h2 h3 s m args below h4 h5 h6 h7
  obtain ⟨n, o, a1, a2, a3, ⟨⟨r, μ1, ad1, b1, b2, b3⟩, b4⟩, a5⟩ := h l D cy ad A p e h1 h2 h3 s m args below h4 h5 h6 h7
  exact ⟨n, o, a1, a2, a3, ⟨⟨r, μ1, ad1, b1, k _ _ b2, b3⟩, b4⟩, a5⟩
theorem tk_upn {α : Type} {f : Nat → Nat → α} {p k a b : Nat} {v : α} (h : ¬ (a = p ∧ b = k)) : tk_up f p k v a b = f a b := if_neg h
/-- what is told so far, of the reference, and G -/
def tk_MG (σ : Nat → Nat → Int32) (G : Nat → Nat → Int32) : Prop := (σ 49 7 = G 3 0 ∧ σ 49 8 = G 3 1 ∧ σ 49 9 = G 3 2 ∧ σ 49 5 = G 3 3 ∧ σ 49 6 = G 3 4) ∧ (∀ k, k < (G 3 3).toNatClampNeg → σ 50 (8 + k) = G 4 k ∧ σ 51 (8 + k) = G 0 k ∧ σ 52 (8 + k) = G 1 k ∧ σ 53 (8 + k) = G 2 k) ∧ (∀ t, t < (G 3 4).toNatClampNeg → σ 54 t = G 5 t) ∧ σ 47 10 = G 6 0
theorem tk_MG.fB {σ σ' G : Nat → Nat → Int32} (h : tk_MG σ G) (hf : tk_fB σ σ') : tk_MG σ' G := by
  obtain ⟨⟨h1, h2, h3, h4, h5⟩, h6, h7, h8⟩ := h
  refine ⟨⟨(hf _ _ (by omega)).trans h1, (hf _ _ (by omega)).trans h2, (hf _ _ (by omega)).trans h3, (hf _ _ (by omega)).trans h4, (hf _ _ (by omega)).trans h5⟩, fun k hk => ?_, fun t ht => (hf _ _ (by omega)).trans (h7 t ht), (hf _ _ (by omega)).trans h8⟩
  obtain ⟨g1, g2, g3, g4⟩ := h6 k hk
  exact ⟨(hf _ _ (by omega)).trans g1, (hf _ _ (by omega)).trans g2, (hf _ _ (by omega)).trans g3, (hf _ _ (by omega)).trans g4⟩
def tk_fD (σ σ' : Nat → Nat → Int32) : Prop := ∀ x y, ¬ (x = 47 ∧ 4 ≤ y ∧ y ≤ 10) → ¬ (x = 49 ∧ 5 ≤ y) → ¬ (50 ≤ x ∧ x ≤ 53 ∧ 8 ≤ y) → x ≠ 54 → σ' x y = σ x y
theorem tk_fD.tr {σ1 σ2 σ3 : Nat → Nat → Int32} (h1 : tk_fD σ1 σ2) (h2 : tk_fD σ2 σ3) : tk_fD σ1 σ3 := fun x y a b c d => (h2 x y a b c d).trans (h1 x y a b c d)
theorem tk_fB.fD {σ σ' : Nat → Nat → Int32} (h : tk_fB σ σ') : tk_fD σ σ' := fun x y a _ _ _ => h x y (fun q => a ⟨q.1, by omega⟩)
theorem tk_fD.up {σ : Nat → Nat → Int32} {p k : Nat} {v : Int32} (h : (p = 47 ∧ 4 ≤ k ∧ k ≤ 10) ∨ (p = 49 ∧ 5 ≤ k) ∨ (50 ≤ p ∧ p ≤ 53 ∧ 8 ≤ k) ∨ p = 54) : tk_fD σ (tk_up σ p k v) := fun x y a b c d => tk_upn (by rintro ⟨rfl, rfl⟩; rcases h with h | h | h | h; exact a h; exact b h; exact c h; exact d h)
theorem tk_Tx.fD {f : Nat → Int32} {L : Nat} {σ σ' : Nat → Nat → Int32} (h : tk_Tx f L σ) (hf : tk_fD σ σ') : tk_Tx f L σ' :=
  h.c (fun y => hf 48 y (by omega) (by omega) (by omega) (by omega)) (hf 47 3 (by omega) (by omega) (by omega) (by omega))
/-- how the reference has read -/
def tk_RM (f : Nat → Int32) (L : Nat) (σ : Nat → Nat → Int32) (r : Sum Nat ((Nat → Nat → Int32) × Nat)) : Prop := match r with
  | Sum.inl q => tk_ms f L σ (Sum.inl q)
  | Sum.inr x => tk_ms f L σ (Sum.inr x.2) ∧ tk_MG σ x.1
section
variable {σ : Nat → Nat → Int32} {a b : Nat} {τ : Nat → Nat → Int64} {L n : Nat} {f : Nat → Int32} {G : Nat → Nat → Int32}
theorem k_numb {r : Sum Nat Nat} {lo hi : Int32} (hT : tk_Tx f L σ) (hm : tk_ms f L σ r) :
    tk_Ct M_X7_number [.ref 47, .int lo, .int hi] (σ, tk_rho a b, τ, 62) (fun v μ' => ∃ w σ', v = some (.int w) ∧ μ' = (σ', tk_rho a b, τ, 62) ∧ w = tk_nw f L lo hi r ∧ tk_fB σ σ' ∧ tk_ms f L σ' (tk_nr f L lo hi r)) :=
  tk_ctP (k_number hT hm) (fun v μ' h => by
    obtain ⟨h1, σ', h2, h3, h4⟩ := h
    exact ⟨_, σ', h1, h2, rfl, h3, h4⟩)
theorem k_riM (hT : tk_Tx f L σ) (hm : tk_ms f L σ (Sum.inr n)) (hG : tk_MG σ G) :
    tk_Ct M_X7_readsItem [.ref 47, .int 109] (σ, tk_rho a b, τ, 62) (fun v μ' => v = none ∧ ∃ σ', μ' = (σ', tk_rho a b, τ, 62) ∧ tk_fD σ σ' ∧ tk_RM f L σ' (tk_rdM f L G n)) := by
  refine tk_ct rfl rfl (Nat.le_of_ble_eq_true rfl) (fun l D cy => tk_run (hT_X7_readsItem none) [] 100 _ ?_)
  refine And.intro (fun _ => ?_) (fun z => absurd rfl z)
  refine tk_cc (k_numb hT hm) (fun v9 μ9 h9 => ?_)
  obtain ⟨w1, σ1, rfl, rfl, hw1, hF1, hM1⟩ := h9
  have T1 := hT.fB hF1
  have G1 := hG.fB hF1
  refine tk_cc (k_numb (r := tk_nr f L 2 20 (Sum.inr n)) (T1.c (fun y => tk_up_p _ _ _ (by decide)) (tk_up_p _ _ _ (by decide))) (hM1.c (fun y _ _ => tk_up_p _ _ _ (by decide)))) (fun v9 μ9 h9 => ?_)
  obtain ⟨w2, σ2, rfl, rfl, hw2, hF2, hM2⟩ := h9
  dsimp only [tk_c7] at hw2 hF2 hM2
  rw [tk_up_at] at hw2 hM2
  have T2 := (T1.c (σ' := tk_up σ1 49 7 w1) (fun y => tk_up_p _ _ _ (by decide)) (tk_up_p _ _ _ (by decide))).fB hF2
  have e2 : σ2 49 7 = w1 := (hF2 49 7 (by omega)).trans (tk_up_at _ _ _ _)
  refine tk_cc (k_numb (r := tk_nr f L 0 (w1 - 1) (tk_nr f L 2 20 (Sum.inr n))) (T2.c (fun y => tk_up_p _ _ _ (by decide)) (tk_up_p _ _ _ (by decide))) (hM2.c (fun y _ _ => tk_up_p _ _ _ (by decide)))) (fun v9 μ9 h9 => ?_)
  obtain ⟨w3, σ3, rfl, rfl, hw3, hF3, hM3⟩ := h9
  dsimp only [tk_c7, tk_c8] at hw3 hF3 hM3
  rw [tk_up_k _ _ _ (by decide), e2] at hw3 hM3
  refine And.intro (Or.inr rfl) ?_
  refine And.intro rfl ⟨_, rfl, ?_, ?_⟩
  · dsimp only [tk_c0, tk_c1, tk_c2, tk_c3, tk_c4, tk_c5, tk_c6, tk_c7, tk_c8, tk_c9, tk_c10, tk_c11, tk_c12, tk_c13]
    exact ((((((hF1.fD.tr (tk_fD.up (by omega))).tr hF2.fD).tr (tk_fD.up (by omega))).tr hF3.fD).tr (tk_fD.up (by omega))).tr (tk_fD.up (by omega)))
  · dsimp only [tk_c0, tk_c1, tk_c2, tk_c3, tk_c4, tk_c5, tk_c6, tk_c7, tk_c8, tk_c9, tk_c10, tk_c11, tk_c12, tk_c13]
    rw [tk_rdM]
    by_cases n1 : tk_num f L 2 20 n = true
    · have r1 : tk_nr f L 2 20 (Sum.inr n) = Sum.inr (tk_nx f L n) := if_pos n1
      have v1 : w1 = tk_nv f L n := hw1.trans (if_pos n1)
      rw [r1, v1] at hM2 hM3 hw2 hw3
      rw [tk_ny n1]
      by_cases n2 : tk_num f L 0 (tk_nv f L n - 1) (tk_nx f L n) = true
      · have r2 : tk_nr f L 0 (tk_nv f L n - 1) (Sum.inr (tk_nx f L n)) = Sum.inr (tk_nx f L (tk_nx f L n)) := if_pos n2
        have v2 : w2 = tk_nv f L (tk_nx f L n) := hw2.trans (if_pos n2)
        rw [r2] at hM3 hw3
        rw [tk_ny n2]
        by_cases n3 : tk_num f L 0 (tk_nv f L n - 1) (tk_nx f L (tk_nx f L n)) = true
        · have r3 : tk_nr f L 0 (tk_nv f L n - 1) (Sum.inr (tk_nx f L (tk_nx f L n))) = Sum.inr (tk_nx f L (tk_nx f L (tk_nx f L n))) := if_pos n3
          have v3 : w3 = tk_nv f L (tk_nx f L (tk_nx f L n)) := hw3.trans (if_pos n3)
          rw [r3] at hM3
          rw [tk_ny n3]
          obtain ⟨⟨g1, g2, g3, g4, g5⟩, g6, g7, g8⟩ := G1
          have u : ∀ x y, ¬ (x = 47 ∧ 4 ≤ y ∧ y ≤ 10) → ¬ (x = 49 ∧ 7 ≤ y) → tk_up (tk_up σ3 49 9 w3) 47 10 1 x y = σ1 x y := fun x y h1 h2 => by
            rw [tk_upn (by omega), tk_upn (by omega), hF3 x y (by omega), tk_upn (by omega), hF2 x y (by omega), tk_upn (by omega)]
          refine ⟨hM3.c (fun y _ _ => by rw [tk_upn (by omega), tk_upn (by omega)]), ⟨?_, ?_, ?_, ?_, ?_⟩, fun k hk => ?_, fun t ht => ?_, ?_⟩
          · rw [tk_upn (by omega), tk_upn (by omega), hF3 49 7 (by omega), tk_upn (by omega), e2]
            exact v1
          · rw [tk_upn (by omega), tk_upn (by omega), hF3 49 8 (by omega), tk_up_at]
            exact v2
          · rw [tk_upn (by omega), tk_up_at]
            exact v3
          · rw [u 49 5 (by omega) (by omega)]
            exact g4
          · rw [u 49 6 (by omega) (by omega)]
            exact g5
          · rw [u _ _ (by omega) (by omega), u _ _ (by omega) (by omega), u _ _ (by omega) (by omega), u _ _ (by omega) (by omega)]
            exact g6 k hk
          · rw [u _ _ (by omega) (by omega)]
            exact g7 t ht
          · exact tk_up_at _ _ _ _
        · have r3 : tk_nr f L 0 (tk_nv f L n - 1) (Sum.inr (tk_nx f L (tk_nx f L n))) = Sum.inl (tk_q f L (tk_nx f L (tk_nx f L n))) := if_neg n3
          rw [r3] at hM3
          rw [tk_need, if_neg n3]
          exact hM3.c (fun y _ _ => by rw [tk_upn (by omega), tk_upn (by omega)])
      · have r2 : tk_nr f L 0 (tk_nv f L n - 1) (Sum.inr (tk_nx f L n)) = Sum.inl (tk_q f L (tk_nx f L n)) := if_neg n2
        rw [r2] at hM3
        rw [tk_need, if_neg n2]
        exact tk_ms.c (r := Sum.inl _) hM3 (fun y _ _ => by rw [tk_upn (by omega), tk_upn (by omega)])
    · have r1 : tk_nr f L 2 20 (Sum.inr n) = Sum.inl (tk_q f L n) := if_neg n1
      rw [r1] at hM3
      rw [tk_need, if_neg n1]
      exact tk_ms.c (r := Sum.inl _) hM3 (fun y _ _ => by rw [tk_upn (by omega), tk_upn (by omega)])
theorem k_riK {K : Nat} (hT : tk_Tx f L σ) (hm : tk_ms f L σ (Sum.inr n)) (hG : tk_MG σ G) (hK : K < 8) (eK : G 3 3 = nI K) :
    tk_Ct M_X7_readsItem [.ref 47, .int 107] (σ, tk_rho a b, τ, 62) (fun v μ' => v = none ∧ ∃ σ', μ' = (σ', tk_rho a b, τ, 62) ∧ tk_fD σ σ' ∧ tk_RM f L σ' (tk_rdK f L G n)) := by
  have e5 : σ 49 5 = nI K := hG.1.2.2.2.1.trans eK
  have ei : (8 : Int32) + (σ 49 5 - 1) + 1 = nI (8 + K) := by
    rw [e5, Int32.add_assoc, Int32.sub_add_cancel]
    exact nI_add 8 K
  have ed : (σ 49 5 - 1) + 1 = nI K := by rw [e5, Int32.sub_add_cancel]
  have hin : tk_in ((8 : Int32) + (σ 49 5 - 1) + 1) 16 = true := by
    rw [ei]
    exact tk_in_nI (n := 16) (by omega) (by decide)
  have hc : ((8 : Int32) + (σ 49 5 - 1) + 1).toNatClampNeg = 8 + K := by rw [ei, nI_clamp (by omega)]
  refine tk_ct rfl rfl (Nat.le_of_ble_eq_true rfl) (fun l D cy => tk_run (hT_X7_readsItem none) [] 100 _ ?_)
  refine And.intro (fun z => absurd z (by decide)) (fun _ => ?_)
  refine And.intro (fun _ => ?_) (fun z => absurd rfl z)
  refine tk_cc (k_numb hT hm) (fun v9 μ9 h9 => ?_)
  obtain ⟨w1, σ1, rfl, rfl, hw1, hF1, hM1⟩ := h9
  have T1 := hT.fB hF1
  have G1 := hG.fB hF1
  refine tk_ift hin ?_
  refine tk_cc (k_numb (r := tk_nr f L 0 1 (Sum.inr n)) (T1.c (fun y => tk_up_p _ _ _ (by decide)) (tk_up_p _ _ _ (by decide))) (hM1.c (fun y _ _ => tk_up_p _ _ _ (by decide)))) (fun v9 μ9 h9 => ?_)
  obtain ⟨w2, σ2, rfl, rfl, hw2, hF2, hM2⟩ := h9
  dsimp only [tk_c5] at hF2
  rw [hc] at hF2
  refine tk_ift hin ?_
  refine tk_ift hin ?_
  refine tk_ift hin ?_
  refine And.intro rfl ⟨_, rfl, ?_, ?_⟩
  · dsimp only [tk_c0, tk_c1, tk_c2, tk_c3, tk_c4, tk_c5, tk_c6, tk_c7, tk_c8, tk_c9, tk_c10, tk_c11, tk_c12, tk_c13]
    rw [hc]
    exact (((((((hF1.fD.tr (tk_fD.up (by omega))).tr hF2.fD).tr (tk_fD.up (by omega))).tr (tk_fD.up (by omega))).tr (tk_fD.up (by omega)))).tr (tk_fD.up (by omega)))
  · dsimp only [tk_c0, tk_c1, tk_c2, tk_c3, tk_c4, tk_c5, tk_c6, tk_c7, tk_c8, tk_c9, tk_c10, tk_c11, tk_c12, tk_c13]
    rw [hc, ed]
    have e52 : tk_up (tk_up (tk_up σ2 51 (8 + K) w2) 52 (8 + K) (nI K)) 53 (8 + K) 1 49 5 = nI K := by
      rw [tk_upn (by omega), tk_upn (by omega), tk_upn (by omega), hF2 49 5 (by omega), tk_upn (by omega), hF1 49 5 (by omega), e5]
    rw [e52, nI_1, tk_rdK]
    by_cases n1 : tk_num f L 0 1 n = true
    · have r1 : tk_nr f L 0 1 (Sum.inr n) = Sum.inr (tk_nx f L n) := if_pos n1
      have v1 : w1 = tk_nv f L n := hw1.trans (if_pos n1)
      rw [r1] at hM2 hw2
      rw [tk_ny n1]
      by_cases n2 : tk_num f L 0 19 (tk_nx f L n) = true
      · have r2 : tk_nr f L 0 19 (Sum.inr (tk_nx f L n)) = Sum.inr (tk_nx f L (tk_nx f L n)) := if_pos n2
        have v2 : w2 = tk_nv f L (tk_nx f L n) := hw2.trans (if_pos n2)
        rw [r2] at hM2
        rw [tk_ny n2]
        obtain ⟨⟨g1, g2, g3, g4, g5⟩, g6, g7, g8⟩ := G1
        have hcl : (G 3 3).toNatClampNeg = K := by rw [eK, nI_clamp (by omega)]
        have hcl1 : (nI (K + 1)).toNatClampNeg = K + 1 := nI_clamp (by omega)
        rw [hcl, eK, nI_1]
        have u : ∀ x y, ¬ (x = 47 ∧ 4 ≤ y ∧ y ≤ 8) → ¬ (x = 49 ∧ y = 5) → ¬ (50 ≤ x ∧ x ≤ 53 ∧ y = 8 + K) → tk_up (tk_up (tk_up (tk_up σ2 51 (8 + K) w2) 52 (8 + K) (nI K)) 53 (8 + K) 1) 49 5 (nI (K + 1)) x y = σ1 x y := fun x y h1 h2 h3 => by
          rw [tk_upn (by omega), tk_upn (by omega), tk_upn (by omega), tk_upn (by omega), hF2 x y (by omega), tk_upn (by omega)]
        refine ⟨hM2.c (fun y _ _ => by rw [tk_upn (by omega), tk_upn (by omega), tk_upn (by omega), tk_upn (by omega)]), ⟨?_, ?_, ?_, ?_, ?_⟩, fun k hk => ?_, fun t ht => ?_, ?_⟩
        · rw [u _ _ (by omega) (by omega) (by omega), g1]
          rfl
        · rw [u _ _ (by omega) (by omega) (by omega), g2]
          rfl
        · rw [u _ _ (by omega) (by omega) (by omega), g3]
          rfl
        · rw [tk_up_at]
          rfl
        · rw [u _ _ (by omega) (by omega) (by omega), g5]
          rfl
        · have hk2 : k < K + 1 := by
            have : k < (nI (K + 1)).toNatClampNeg := by simpa [tk_up] using hk
            rw [hcl1] at this
            exact this
          by_cases hkK : k = K
          · subst hkK
            refine ⟨?_, ?_, ?_, ?_⟩
            · rw [tk_upn (by omega), tk_upn (by omega), tk_upn (by omega), tk_upn (by omega), hF2 _ _ (by omega), tk_up_at]
              simp [tk_up, v1]
            · rw [tk_upn (by omega), tk_upn (by omega), tk_upn (by omega), tk_up_at]
              simp [tk_up, v2]
            · rw [tk_upn (by omega), tk_upn (by omega), tk_up_at]
              simp [tk_up]
            · rw [tk_upn (by omega), tk_up_at]
              simp [tk_up]
          · obtain ⟨p1, p2, p3, p4⟩ := g6 k (by rw [hcl]; omega)
            rw [u _ _ (by omega) (by omega) (by omega), u _ _ (by omega) (by omega) (by omega), u _ _ (by omega) (by omega) (by omega), u _ _ (by omega) (by omega) (by omega), p1, p2, p3, p4]
            simp [tk_up, hkK]
        · have ht2 : t < (G 3 4).toNatClampNeg := by simpa [tk_up] using ht
          rw [u _ _ (by omega) (by omega) (by omega), g7 t ht2]
          simp [tk_up]
        · rw [u _ _ (by omega) (by omega) (by omega), g8]
          simp [tk_up]
      · have r2 : tk_nr f L 0 19 (Sum.inr (tk_nx f L n)) = Sum.inl (tk_q f L (tk_nx f L n)) := if_neg n2
        rw [r2] at hM2
        rw [tk_need, if_neg n2]
        exact tk_ms.c (r := Sum.inl _) hM2 (fun y _ _ => by rw [tk_upn (by omega), tk_upn (by omega), tk_upn (by omega), tk_upn (by omega)])
    · have r1 : tk_nr f L 0 1 (Sum.inr n) = Sum.inl (tk_q f L n) := if_neg n1
      rw [r1] at hM2
      rw [tk_need, if_neg n1]
      exact tk_ms.c (r := Sum.inl _) hM2 (fun y _ _ => by rw [tk_upn (by omega), tk_upn (by omega), tk_upn (by omega), tk_upn (by omega)])
theorem k_riD {K : Nat} (hT : tk_Tx f L σ) (hm : tk_ms f L σ (Sum.inr n)) (hG : tk_MG σ G) (hK : K ≤ 8) (eK : G 3 3 = nI K) :
    tk_Ct M_X7_readsItem [.ref 47, .int 100] (σ, tk_rho a b, τ, 62) (fun v μ' => v = none ∧ ∃ σ', μ' = (σ', tk_rho a b, τ, 62) ∧ tk_fD σ σ' ∧ tk_RM f L σ' (tk_rdD f L G n)) := by
  have e5 : σ 49 5 = G 3 3 := hG.1.2.2.2.1
  refine tk_ct rfl rfl (Nat.le_of_ble_eq_true rfl) (fun l D cy => tk_run (hT_X7_readsItem none) [] 100 _ ?_)
  refine And.intro (fun z => absurd z (by decide)) (fun _ => ?_)
  refine And.intro (fun z => absurd z (by decide)) (fun _ => ?_)
  refine And.intro (fun _ => ?_) (fun z => absurd rfl z)
  refine tk_cc (k_numb hT hm) (fun v9 μ9 h9 => ?_)
  obtain ⟨w1, σ1, rfl, rfl, hw1, hF1, hM1⟩ := h9
  have T1 := hT.fB hF1
  dsimp only [tk_c5] at hw1 hM1
  rw [e5] at hw1 hM1
  refine tk_cc (k_numb (r := tk_nr f L 0 (G 3 3 - 1) (Sum.inr n)) T1 hM1) (fun v9 μ9 h9 => ?_)
  obtain ⟨w2, σ2, rfl, rfl, hw2, hF2, hM2⟩ := h9
  have T2 := T1.fB hF2
  dsimp only [tk_c5] at hw2 hM2
  rw [e5] at hw2 hM2
  refine tk_cc (k_numb (r := tk_nr f L 0 (G 3 3 - 1) (tk_nr f L 0 (G 3 3 - 1) (Sum.inr n))) T2 hM2) (fun v9 μ9 h9 => ?_)
  obtain ⟨w3, σ3, rfl, rfl, hw3, hF3, hM3⟩ := h9
  have G3 := ((hG.fB hF1).fB hF2).fB hF3
  obtain ⟨j, hj, ej⟩ : ∃ j, j < 8 ∧ w1 = nI j := by
    by_cases n1 : tk_num f L 0 (G 3 3 - 1) n = true
    · have n1' := n1
      rw [eK] at n1'
      obtain ⟨j, hj, e⟩ := tk_num_k hK n1'
      exact ⟨j, by omega, hw1.trans ((if_pos n1).trans e)⟩
    · exact ⟨0, by omega, hw1.trans (if_neg n1)⟩
  have ei : (8 : Int32) + w1 = nI (8 + j) := by
    rw [ej]
    exact nI_add 8 j
  have hin : tk_in ((8 : Int32) + w1) 16 = true := by
    rw [ei]
    exact tk_in_nI (n := 16) (by omega) (by decide)
  have hc : ((8 : Int32) + w1).toNatClampNeg = 8 + j := by rw [ei, nI_clamp (by omega)]
  refine tk_ift hin ?_
  refine tk_ift hin ?_
  refine And.intro rfl ⟨_, rfl, ?_, ?_⟩
  · dsimp only [tk_c0, tk_c1, tk_c2, tk_c3, tk_c4, tk_c5, tk_c6, tk_c7, tk_c8, tk_c9, tk_c10, tk_c11, tk_c12, tk_c13]
    rw [hc]
    exact ((((hF1.fD.tr hF2.fD).tr hF3.fD).tr (tk_fD.up (by omega))).tr (tk_fD.up (by omega)))
  · dsimp only [tk_c0, tk_c1, tk_c2, tk_c3, tk_c4, tk_c5, tk_c6, tk_c7, tk_c8, tk_c9, tk_c10, tk_c11, tk_c12, tk_c13]
    rw [hc, tk_rdD]
    by_cases n1 : tk_num f L 0 (G 3 3 - 1) n = true
    · have r1 : tk_nr f L 0 (G 3 3 - 1) (Sum.inr n) = Sum.inr (tk_nx f L n) := if_pos n1
      have v1 : w1 = tk_nv f L n := hw1.trans (if_pos n1)
      rw [r1] at hM3 hw3 hw2
      rw [tk_ny n1]
      by_cases n2 : tk_num f L 0 (G 3 3 - 1) (tk_nx f L n) = true
      · have r2 : tk_nr f L 0 (G 3 3 - 1) (Sum.inr (tk_nx f L n)) = Sum.inr (tk_nx f L (tk_nx f L n)) := if_pos n2
        have v2 : w2 = tk_nv f L (tk_nx f L n) := hw2.trans (if_pos n2)
        rw [r2] at hM3 hw3
        rw [tk_ny n2]
        by_cases n3 : tk_num f L 1 4 (tk_nx f L (tk_nx f L n)) = true
        · have r3 : tk_nr f L 1 4 (Sum.inr (tk_nx f L (tk_nx f L n))) = Sum.inr (tk_nx f L (tk_nx f L (tk_nx f L n))) := if_pos n3
          have v3 : w3 = tk_nv f L (tk_nx f L (tk_nx f L n)) := hw3.trans (if_pos n3)
          rw [r3] at hM3
          rw [tk_ny n3]
          have cj : (tk_nv f L n).toNatClampNeg = j := by rw [← v1, ej, nI_clamp (by omega)]
          rw [cj, ← v2, ← v3]
          obtain ⟨⟨g1, g2, g3, g4, g5⟩, g6, g7, g8⟩ := G3
          have u : ∀ x y, ¬ (x = 52 ∧ y = 8 + j) → ¬ (x = 53 ∧ y = 8 + j) → tk_up (tk_up σ3 52 (8 + j) w2) 53 (8 + j) w3 x y = σ3 x y := fun x y h1 h2 => by
            rw [tk_upn h2, tk_upn h1]
          refine ⟨hM3.c (fun y _ _ => u _ _ (by omega) (by omega)), ⟨?_, ?_, ?_, ?_, ?_⟩, fun k hk => ?_, fun t ht => ?_, ?_⟩
          · rw [u _ _ (by omega) (by omega), g1]
            rfl
          · rw [u _ _ (by omega) (by omega), g2]
            rfl
          · rw [u _ _ (by omega) (by omega), g3]
            rfl
          · rw [u _ _ (by omega) (by omega), g4]
            rfl
          · rw [u _ _ (by omega) (by omega), g5]
            rfl
          · have hk2 : k < (G 3 3).toNatClampNeg := by simpa [tk_up] using hk
            obtain ⟨p1, p2, p3, p4⟩ := g6 k hk2
            by_cases hkK : k = j
            · subst hkK
              refine ⟨?_, ?_, ?_, ?_⟩
              · rw [u _ _ (by omega) (by omega), p1]
                simp [tk_up]
              · rw [u _ _ (by omega) (by omega), p2]
                simp [tk_up]
              · rw [tk_upn (by omega), tk_up_at]
                simp [tk_up]
              · rw [tk_up_at]
                simp [tk_up]
            · rw [u _ _ (by omega) (by omega), u _ _ (by omega) (by omega), u _ _ (by omega) (by omega), u _ _ (by omega) (by omega), p1, p2, p3, p4]
              simp [tk_up, hkK]
          · have ht2 : t < (G 3 4).toNatClampNeg := by simpa [tk_up] using ht
            rw [u _ _ (by omega) (by omega), g7 t ht2]
            simp [tk_up]
          · rw [u _ _ (by omega) (by omega), g8]
            simp [tk_up]
        · have r3 : tk_nr f L 1 4 (Sum.inr (tk_nx f L (tk_nx f L n))) = Sum.inl (tk_q f L (tk_nx f L (tk_nx f L n))) := if_neg n3
          rw [r3] at hM3
          rw [tk_need, if_neg n3]
          exact tk_ms.c (r := Sum.inl _) hM3 (fun y _ _ => by rw [tk_upn (by omega), tk_upn (by omega)])
      · have r2 : tk_nr f L 0 (G 3 3 - 1) (Sum.inr (tk_nx f L n)) = Sum.inl (tk_q f L (tk_nx f L n)) := if_neg n2
        rw [r2] at hM3
        rw [tk_need, if_neg n2]
        exact tk_ms.c (r := Sum.inl _) hM3 (fun y _ _ => by rw [tk_upn (by omega), tk_upn (by omega)])
    · have r1 : tk_nr f L 0 (G 3 3 - 1) (Sum.inr n) = Sum.inl (tk_q f L n) := if_neg n1
      rw [r1] at hM3
      rw [tk_need, if_neg n1]
      exact tk_ms.c (r := Sum.inl _) hM3 (fun y _ _ => by rw [tk_upn (by omega), tk_upn (by omega)])
theorem k_riT {N : Nat} (hT : tk_Tx f L σ) (hm : tk_ms f L σ (Sum.inr n)) (hG : tk_MG σ G) (hN : N < 5) (eN : G 3 4 = nI N) :
    tk_Ct M_X7_readsItem [.ref 47, .int 116] (σ, tk_rho a b, τ, 62) (fun v μ' => v = none ∧ ∃ σ', μ' = (σ', tk_rho a b, τ, 62) ∧ tk_fD σ σ' ∧ tk_RM f L σ' (tk_rdT f L G n)) := by
  have e5 : σ 49 5 = G 3 3 := hG.1.2.2.2.1
  have e6 : σ 49 6 = nI N := hG.1.2.2.2.2.trans eN
  have hin : tk_in (σ 49 6) 5 = true := by
    rw [e6]
    exact tk_in_nI (n := 5) (by omega) (by decide)
  have hc : (σ 49 6).toNatClampNeg = N := by rw [e6, nI_clamp (by omega)]
  refine tk_ct rfl rfl (Nat.le_of_ble_eq_true rfl) (fun l D cy => tk_run (hT_X7_readsItem none) [] 100 _ ?_)
  refine And.intro (fun z => absurd z (by decide)) (fun _ => ?_)
  refine And.intro (fun z => absurd z (by decide)) (fun _ => ?_)
  refine And.intro (fun z => absurd z (by decide)) (fun _ => ?_)
  refine tk_cc (k_numb hT hm) (fun v9 μ9 h9 => ?_)
  obtain ⟨w1, σ1, rfl, rfl, hw1, hF1, hM1⟩ := h9
  dsimp only [tk_c5] at hw1 hM1
  rw [e5] at hw1 hM1
  have G1 := hG.fB hF1
  refine tk_ift hin ?_
  refine And.intro rfl ⟨_, rfl, ?_, ?_⟩
  · dsimp only [tk_c0, tk_c1, tk_c2, tk_c3, tk_c4, tk_c5, tk_c6, tk_c7, tk_c8, tk_c9, tk_c10, tk_c11, tk_c12, tk_c13]
    exact ((hF1.fD.tr (tk_fD.up (by omega))).tr (tk_fD.up (by omega)))
  · dsimp only [tk_c0, tk_c1, tk_c2, tk_c3, tk_c4, tk_c5, tk_c6, tk_c7, tk_c8, tk_c9, tk_c10, tk_c11, tk_c12, tk_c13]
    rw [hc, tk_upn (by omega), hF1 49 6 (by omega), e6, nI_1, tk_rdT]
    by_cases n1 : tk_num f L 0 (G 3 3 - 1) n = true
    · have r1 : tk_nr f L 0 (G 3 3 - 1) (Sum.inr n) = Sum.inr (tk_nx f L n) := if_pos n1
      have v1 : w1 = tk_nv f L n := hw1.trans (if_pos n1)
      rw [r1] at hM1
      rw [tk_ny n1]
      obtain ⟨⟨g1, g2, g3, g4, g5⟩, g6, g7, g8⟩ := G1
      have hcl : (G 3 4).toNatClampNeg = N := by rw [eN, nI_clamp (by omega)]
      have hcl1 : (nI (N + 1)).toNatClampNeg = N + 1 := nI_clamp (by omega)
      rw [hcl, eN, nI_1, ← v1]
      have u : ∀ x y, ¬ (x = 54 ∧ y = N) → ¬ (x = 49 ∧ y = 6) → tk_up (tk_up σ1 54 N w1) 49 6 (nI (N + 1)) x y = σ1 x y := fun x y h1 h2 => by
        rw [tk_upn h2, tk_upn h1]
      refine ⟨hM1.c (fun y _ _ => u _ _ (by omega) (by omega)), ⟨?_, ?_, ?_, ?_, ?_⟩, fun k hk => ?_, fun t ht => ?_, ?_⟩
      · rw [u _ _ (by omega) (by omega), g1]
        rfl
      · rw [u _ _ (by omega) (by omega), g2]
        rfl
      · rw [u _ _ (by omega) (by omega), g3]
        rfl
      · rw [u _ _ (by omega) (by omega), g4]
        rfl
      · rw [tk_up_at]
        rfl
      · have hk2 : k < (G 3 3).toNatClampNeg := by simpa [tk_up] using hk
        obtain ⟨p1, p2, p3, p4⟩ := g6 k hk2
        rw [u _ _ (by omega) (by omega), u _ _ (by omega) (by omega), u _ _ (by omega) (by omega), u _ _ (by omega) (by omega), p1, p2, p3, p4]
        simp [tk_up]
      · have ht2 : t < N + 1 := by
          have : t < (nI (N + 1)).toNatClampNeg := by simpa [tk_up] using ht
          rw [hcl1] at this
          exact this
        by_cases htN : t = N
        · subst htN
          rw [tk_upn (by omega), tk_up_at]
          simp [tk_up]
        · rw [u _ _ (by omega) (by omega), g7 t (by rw [hcl]; omega)]
          simp [tk_up, htN]
      · rw [u _ _ (by omega) (by omega), g8]
        simp [tk_up]
    · have r1 : tk_nr f L 0 (G 3 3 - 1) (Sum.inr n) = Sum.inl (tk_q f L n) := if_neg n1
      rw [r1] at hM1
      rw [tk_need, if_neg n1]
      exact tk_ms.c (r := Sum.inl _) hM1 (fun y _ _ => by rw [tk_upn (by omega), tk_upn (by omega)])
end
