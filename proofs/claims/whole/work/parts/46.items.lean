/-! items, in numbers; and how the class reads them -/
def tk_nv (f : Nat → Int32) (L p : Nat) : Int32 := tk_vl f L (tk_q f L p)
def tk_need {α : Type} (c : Bool) (q : Nat) (x : Sum Nat α) : Sum Nat α := if c then x else Sum.inl q
/-- the law of the level -/
def tk_rdM (f : Nat → Int32) (L : Nat) (G : Nat → Nat → Int32) (n : Nat) : Sum Nat ((Nat → Nat → Int32) × Nat) :=
  tk_need (tk_num f L 2 20 n) (tk_q f L n) (tk_need (tk_num f L 0 (tk_nv f L n - 1) (tk_nx f L n)) (tk_q f L (tk_nx f L n)) (tk_need (tk_num f L 0 (tk_nv f L n - 1) (tk_nx f L (tk_nx f L n))) (tk_q f L (tk_nx f L (tk_nx f L n)))
    (Sum.inr (tk_up (tk_up (tk_up (tk_up G 3 0 (tk_nv f L n)) 3 1 (tk_nv f L (tk_nx f L n))) 3 2 (tk_nv f L (tk_nx f L (tk_nx f L n)))) 6 0 1, tk_nx f L (tk_nx f L (tk_nx f L n))))))
/-- a kerb -/
def tk_rdK (f : Nat → Int32) (L : Nat) (G : Nat → Nat → Int32) (n : Nat) : Sum Nat ((Nat → Nat → Int32) × Nat) :=
  tk_need (tk_num f L 0 1 n) (tk_q f L n) (tk_need (tk_num f L 0 19 (tk_nx f L n)) (tk_q f L (tk_nx f L n))
    (Sum.inr (tk_up (tk_up (tk_up (tk_up (tk_up G 4 (G 3 3).toNatClampNeg (tk_nv f L n)) 0 (G 3 3).toNatClampNeg (tk_nv f L (tk_nx f L n))) 1 (G 3 3).toNatClampNeg (G 3 3)) 2 (G 3 3).toNatClampNeg 1) 3 3 (G 3 3 + 1), tk_nx f L (tk_nx f L n))))
/-- a drain -/
def tk_rdD (f : Nat → Int32) (L : Nat) (G : Nat → Nat → Int32) (n : Nat) : Sum Nat ((Nat → Nat → Int32) × Nat) :=
  tk_need (tk_num f L 0 (G 3 3 - 1) n) (tk_q f L n) (tk_need (tk_num f L 0 (G 3 3 - 1) (tk_nx f L n)) (tk_q f L (tk_nx f L n)) (tk_need (tk_num f L 1 4 (tk_nx f L (tk_nx f L n))) (tk_q f L (tk_nx f L (tk_nx f L n)))
    (Sum.inr (tk_up (tk_up G 1 (tk_nv f L n).toNatClampNeg (tk_nv f L (tk_nx f L n))) 2 (tk_nv f L n).toNatClampNeg (tk_nv f L (tk_nx f L (tk_nx f L n))), tk_nx f L (tk_nx f L (tk_nx f L n))))))
/-- a thing -/
def tk_rdT (f : Nat → Int32) (L : Nat) (G : Nat → Nat → Int32) (n : Nat) : Sum Nat ((Nat → Nat → Int32) × Nat) :=
  tk_need (tk_num f L 0 (G 3 3 - 1) n) (tk_q f L n) (Sum.inr (tk_up (tk_up G 5 (G 3 4).toNatClampNeg (tk_nv f L n)) 3 4 (G 3 4 + 1), tk_nx f L n))
/-- its end -/
def tk_fi (f : Nat → Int32) (L : Nat) (r : Sum Nat ((Nat → Nat → Int32) × Nat)) : Sum Nat ((Nat → Nat → Int32) × Nat) := match r with
  | Sum.inl q => Sum.inl q
  | Sum.inr x => tk_need (tk_ltr f L 59 x.2) (tk_q f L x.2) (Sum.inr (x.1, tk_nx f L x.2))
/-- an item from p on -/
def tk_item (f : Nat → Int32) (L : Nat) (G : Nat → Nat → Int32) (p : Nat) : Sum Nat ((Nat → Nat → Int32) × Nat) :=
  if tk_ltr f L 109 p = true ∧ G 6 0 = 0 then tk_fi f L (tk_rdM f L G (tk_nx f L p))
  else if tk_ltr f L 107 p = true ∧ G 3 3 < 8 then tk_fi f L (tk_rdK f L G (tk_nx f L p))
  else if tk_ltr f L 100 p = true then tk_fi f L (tk_rdD f L G (tk_nx f L p))
  else if tk_ltr f L 116 p = true ∧ G 3 4 < 5 then tk_fi f L (tk_rdT f L G (tk_nx f L p))
  else Sum.inl (tk_q f L p)
/-- towns as they are being told, as they can be -/
def tk_VG (G : Nat → Nat → Int32) : Prop := ∃ K N, K ≤ 8 ∧ N ≤ 5 ∧ G 3 3 = nI K ∧ G 3 4 = nI N ∧ (2 ≤ G 3 0 ∧ G 3 0 ≤ 20) ∧ (0 ≤ G 3 1 ∧ G 3 1 < G 3 0) ∧ (0 ≤ G 3 2 ∧ G 3 2 < G 3 0) ∧ (∀ k, k < K → (∃ j, j < K ∧ G 1 k = nI j) ∧ 1 ≤ G 2 k ∧ G 2 k ≤ 4) ∧ (∀ t, t < N → ∃ j, j < K ∧ G 5 t = nI j) ∧ (G 6 0 = 0 ∨ G 6 0 = 1)
/-- the towns at B, and G -/
def tk_CG (σ : Nat → Nat → Int32) (B : Nat) (G : Nat → Nat → Int32) : Prop := (∀ y, y < 5 → σ B y = G 3 y) ∧ (∀ k, k < (G 3 3).toNatClampNeg → σ (B + 1) k = G 4 k ∧ σ (B + 2) k = G 0 k ∧ σ (B + 3) k = G 1 k ∧ σ (B + 4) k = G 2 k) ∧ (∀ t, t < (G 3 4).toNatClampNeg → σ (B + 5) t = G 5 t) ∧ σ 2 6 = G 6 0
/-- what reading leaves as it was -/
def tk_fF (B : Nat) (σ σ' : Nat → Nat → Int32) : Prop := ∀ x y, ¬ (B ≤ x ∧ x ≤ B + 5) → ¬ (x = 2 ∧ 2 ≤ y) → σ' x y = σ x y
theorem tk_fF.tr {B : Nat} {σ1 σ2 σ3 : Nat → Nat → Int32} (h1 : tk_fF B σ1 σ2) (h2 : tk_fF B σ2 σ3) : tk_fF B σ1 σ3 := fun x y ha hb => (h2 x y ha hb).trans (h1 x y ha hb)
theorem tk_Tk.fF {σ σ' : Nat → Nat → Int32} {L p : Nat} (h : tk_Tk σ σ' L p) (B : Nat) : tk_fF B σ σ' := fun x y _ hb => h.2.2.2.2 x y (fun q => hb ⟨q.1, by omega⟩)
theorem tk_Tk.f3 {σ σ' : Nat → Nat → Int32} {L p : Nat} (h : tk_Tk σ σ' L p) : σ' 3 = σ 3 := funext fun y => h.2.2.2.2 3 y (by intro q; exact absurd q.1 (by decide))
theorem tk_Tk.e1 {σ σ' : Nat → Nat → Int32} {L p : Nat} (h : tk_Tk σ σ' L p) : σ' 2 1 = σ 2 1 := h.2.2.2.2 2 1 (by decide)
theorem tk_Tk.vv {σ σ' : Nat → Nat → Int32} {L p : Nat} {lo hi : Int32} (h : tk_Tk σ σ' L p) (hn : tk_num (σ 3) L lo hi p = true) : σ' 2 5 = tk_nv (σ 3) L p := h.2.2.2.1 (tk_numI.mp hn).1 (tk_numI.mp hn).2.1
theorem tk_Tk.CG {σ σ' : Nat → Nat → Int32} {L p B : Nat} {G : Nat → Nat → Int32} (hB : tk_tw B) (h : tk_Tk σ σ' L p) (hG : tk_CG σ B G) : tk_CG σ' B G := by
  have hf : ∀ x y, x ≠ 2 → σ' x y = σ x y := fun x y hx => h.2.2.2.2 x y (fun q => hx q.1)
  have hne : ∀ i, B + i ≠ 2 := fun i => by rcases hB with rfl | rfl <;> omega
  refine ⟨fun y hy => ?_, fun k hk => ?_, fun t ht => ?_, ?_⟩
  · rw [hf B y (hne 0)]
    exact hG.1 y hy
  · rw [hf _ _ (hne 1), hf _ _ (hne 2), hf _ _ (hne 3), hf _ _ (hne 4)]
    exact hG.2.1 k hk
  · rw [hf _ _ (hne 5)]
    exact hG.2.2.1 t ht
  · rw [h.2.2.2.2 2 6 (by decide)]
    exact hG.2.2.2
/-- how the class has read -/
def tk_RC (σ : Nat → Nat → Int32) (B : Nat) (r : Sum Nat ((Nat → Nat → Int32) × Nat)) (v : Option Value) : Prop := match r with
  | Sum.inl q => v = some (.int 0) ∧ σ 2 4 = nI q
  | Sum.inr x => v = some (.int 1) ∧ tk_CG σ B x.1 ∧ σ 2 2 = nI x.2
theorem tk_RCn {σ : Nat → Nat → Int32} {B q : Nat} {c : Bool} {x : Sum Nat ((Nat → Nat → Int32) × Nat)} (hc : ¬ c = true) (h : σ 2 4 = nI q) : tk_RC σ B (tk_need c q x) (some (.int 0)) := by
  rw [tk_need, if_neg hc]
  exact ⟨rfl, h⟩
theorem tk_ny {α : Type} {c : Bool} {q : Nat} {x : Sum Nat α} (hc : c = true) : tk_need c q x = x := if_pos hc
theorem tk_i01 {c : Bool} : (if c = true then (1 : Int32) else 0) = 0 ↔ ¬ c = true := by
  cases c
  · exact ⟨fun _ => by decide, fun _ => rfl⟩
  · exact ⟨fun h => absurd h (by decide), fun h => absurd rfl h⟩
section
variable {σ : Nat → Nat → Int32} {a b B : Nat} {τ : Nat → Nat → Int64} {G : Nat → Nat → Int32} {L n : Nat}
theorem k_readLevel (hB : tk_tw B) (hX : tk_TX (σ 3) L) (hL : L ≤ 150) (e1 : σ 2 1 = nI L) (hn : n ≤ L) (e2 : σ 2 2 = nI n) (hG : tk_CG σ B G) :
    tk_Ct M_X3_readLevel [.ref 2, .ref B] (σ, tk_rho a b, τ, 62) (fun v μ' => ∃ σ', μ' = (σ', tk_rho a b, τ, 62) ∧ tk_fF B σ σ' ∧ tk_RC σ' B (tk_rdM (σ 3) L G n) v) := by
  have hn1 := tk_nx_le (f := σ 3) hn
  have hn2 := tk_nx_le (f := σ 3) hn1.2
  rw [tk_rdM]
  refine tk_ct rfl rfl (Nat.le_of_ble_eq_true rfl) (fun l D cy => tk_run (hT_X3_readLevel none) [] 80 _ ?_)
  refine tk_cc (k_readNumber hX (by decide) hL e1 hn e2) (fun v9 μ9 h9 => ?_)
  obtain ⟨rfl, σ1, rfl, hT1⟩ := h9
  refine And.intro (fun h1 => ?_) (fun h1 => ?_)
  all_goals try dsimp only [tk_c0, tk_c1, tk_c2, tk_c3, tk_c4, tk_c5, tk_c6, tk_c7, tk_c8, tk_c9, tk_c10, tk_c11, tk_c12, tk_c13] at h1
  all_goals rw [tk_i01] at h1
  · refine And.intro (Or.inl rfl) ?_
    exact ⟨σ1, rfl, hT1.fF B, tk_RCn h1 hT1.2.1⟩
  · have h1 := Decidable.not_not.mp h1
    have hv1 := hT1.vv h1
    have f1 := hT1.f3
    rw [tk_ny h1]
    have hr2 := k_readNumber (σ := σ1) (a := a) (b := b) (τ := τ) (L := L) (p := tk_nx (σ 3) L n) (lo := 0) (hi := σ1 2 5 - 1) (by rw [f1]; exact hX) (by decide) hL (hT1.e1.trans e1) hn1.2 hT1.1
    rw [f1] at hr2
    refine tk_cc hr2 (fun v9 μ9 h9 => ?_)
    obtain ⟨rfl, σ2, rfl, hT2⟩ := h9
    refine And.intro (fun h2 => ?_) (fun h2 => ?_)
    all_goals try dsimp only [tk_c0, tk_c1, tk_c2, tk_c3, tk_c4, tk_c5, tk_c6, tk_c7, tk_c8, tk_c9, tk_c10, tk_c11, tk_c12, tk_c13] at h2
    all_goals rw [tk_i01, hv1] at h2
    · refine And.intro (Or.inl rfl) ?_
      refine ⟨σ2, rfl, (hT1.fF B).tr (hT2.fF B), tk_RCn h2 ?_⟩
      rw [hT2.2.1, f1]
    · have h2 := Decidable.not_not.mp h2
      have f2 : σ2 3 = σ 3 := hT2.f3.trans f1
      have hv2 : σ2 2 5 = tk_nv (σ 3) L (tk_nx (σ 3) L n) := by
        have := hT2.vv (lo := 0) (hi := tk_nv (σ 3) L n - 1) (by rw [f1]; exact h2)
        rw [this, f1]
      rw [tk_ny h2]
      have hr3 := k_readNumber (σ := σ2) (a := a) (b := b) (τ := τ) (L := L) (p := tk_nx (σ 3) L (tk_nx (σ 3) L n)) (lo := 0) (hi := σ1 2 5 - 1) (by rw [f2]; exact hX) (by decide) hL (hT2.e1.trans (hT1.e1.trans e1)) hn2.2 (by rw [hT2.1, f1])
      rw [f2] at hr3
      refine tk_cc hr3 (fun v9 μ9 h9 => ?_)
      obtain ⟨rfl, σ3, rfl, hT3⟩ := h9
      refine And.intro (fun h3 => ?_) (fun h3 => ?_)
      all_goals try dsimp only [tk_c0, tk_c1, tk_c2, tk_c3, tk_c4, tk_c5, tk_c6, tk_c7, tk_c8, tk_c9, tk_c10, tk_c11, tk_c12, tk_c13] at h3
      all_goals rw [tk_i01, hv1] at h3
      · refine And.intro (Or.inl rfl) ?_
        refine ⟨σ3, rfl, ((hT1.fF B).tr (hT2.fF B)).tr (hT3.fF B), tk_RCn h3 ?_⟩
        rw [hT3.2.1, f2]
      · have h3 := Decidable.not_not.mp h3
        have hv3 : σ3 2 5 = tk_nv (σ 3) L (tk_nx (σ 3) L (tk_nx (σ 3) L n)) := by
          have := hT3.vv (lo := 0) (hi := tk_nv (σ 3) L n - 1) (by rw [f2]; exact h3)
          rw [this, f2]
        have hG3 := hT3.CG hB (hT2.CG hB (hT1.CG hB hG))
        rw [tk_ny h3]
        refine tk_ift (tk_twok hB) ?_
        refine tk_cc (k_setLevel hB) (fun v9 μ9 h9 => ?_)
        obtain ⟨rfl, rfl⟩ := h9
        refine And.intro (Or.inr rfl) ?_
        refine And.intro (Or.inr rfl) ?_
        have hB2 : B ≠ 2 ∧ 2 ≠ B := by rcases hB with rfl | rfl <;> decide
        have hB0 : B ≠ 0 := by rcases hB with rfl | rfl <;> decide
        have hB3 : ∀ i, B + i ≠ 2 := fun i => by rcases hB with rfl | rfl <;> omega
        refine ⟨_, rfl, fun x y hx hx2 => ?_, rfl, ⟨fun y hy => ?_, fun k hk => ?_, fun t ht => ?_, ?_⟩, ?_⟩
        · rw [tk_up, if_neg (fun q => hx2 ⟨q.1, by omega⟩), tk_up_p _ _ _ (by omega), tk_up_p _ _ _ (by omega), tk_up_p _ _ _ (by omega)]
          exact ((hT1.fF B).tr (hT2.fF B)).tr (hT3.fF B) x y hx hx2
        · have hy5 : y = 0 ∨ y = 1 ∨ y = 2 ∨ y = 3 ∨ y = 4 := by omega
          rcases hy5 with rfl | rfl | rfl | rfl | rfl <;> simp [tk_up, hB2.1, hv1, hv2, hv3, hG3.1]
        · have hk2 : k < (G 3 3).toNatClampNeg := by simpa [tk_up] using hk
          have := hG3.2.1 k hk2
          simp [tk_up, hB3, hB0, this]
        · have ht2 : t < (G 3 4).toNatClampNeg := by simpa [tk_up] using ht
          have := hG3.2.2.1 t ht2
          simp [tk_up, hB3, hB0, this]
        · simp [tk_up]
        · simp [tk_up, hB2.2, hT3.1, f2]
theorem k_readKerb {K : Nat} (hB : tk_tw B) (hX : tk_TX (σ 3) L) (hL : L ≤ 150) (e1 : σ 2 1 = nI L) (hn : n ≤ L) (e2 : σ 2 2 = nI n) (hG : tk_CG σ B G) (hK : K < 8) (eK : G 3 3 = nI K) :
    tk_Ct M_X3_readKerb [.ref 2, .ref B] (σ, tk_rho a b, τ, 62) (fun v μ' => ∃ σ', μ' = (σ', tk_rho a b, τ, 62) ∧ tk_fF B σ σ' ∧ tk_RC σ' B (tk_rdK (σ 3) L G n) v) := by
  have hn1 := tk_nx_le (f := σ 3) hn
  rw [tk_rdK]
  refine tk_ct rfl rfl (Nat.le_of_ble_eq_true rfl) (fun l D cy => tk_run (hT_X3_readKerb none) [] 80 _ ?_)
  refine tk_cc (k_readNumber hX (by decide) hL e1 hn e2) (fun v9 μ9 h9 => ?_)
  obtain ⟨rfl, σ1, rfl, hT1⟩ := h9
  refine And.intro (fun h1 => ?_) (fun h1 => ?_)
  all_goals try dsimp only [tk_c0, tk_c1, tk_c2, tk_c3, tk_c4, tk_c5, tk_c6, tk_c7, tk_c8, tk_c9, tk_c10, tk_c11, tk_c12, tk_c13] at h1
  all_goals rw [tk_i01] at h1
  · refine And.intro (Or.inl rfl) ?_
    exact ⟨σ1, rfl, hT1.fF B, tk_RCn h1 hT1.2.1⟩
  · have h1 := Decidable.not_not.mp h1
    have hv1 := hT1.vv h1
    have f1 := hT1.f3
    rw [tk_ny h1]
    have hr2 := k_readNumber (σ := σ1) (a := a) (b := b) (τ := τ) (L := L) (p := tk_nx (σ 3) L n) (lo := 0) (hi := 19) (by rw [f1]; exact hX) (by decide) hL (hT1.e1.trans e1) hn1.2 hT1.1
    rw [f1] at hr2
    refine tk_cc hr2 (fun v9 μ9 h9 => ?_)
    obtain ⟨rfl, σ2, rfl, hT2⟩ := h9
    refine And.intro (fun h2 => ?_) (fun h2 => ?_)
    all_goals try dsimp only [tk_c0, tk_c1, tk_c2, tk_c3, tk_c4, tk_c5, tk_c6, tk_c7, tk_c8, tk_c9, tk_c10, tk_c11, tk_c12, tk_c13] at h2
    all_goals rw [tk_i01] at h2
    · refine And.intro (Or.inl rfl) ?_
      refine ⟨σ2, rfl, (hT1.fF B).tr (hT2.fF B), tk_RCn h2 ?_⟩
      rw [hT2.2.1, f1]
    · have h2 := Decidable.not_not.mp h2
      have hv2 : σ2 2 5 = tk_nv (σ 3) L (tk_nx (σ 3) L n) := by
        have := hT2.vv (lo := 0) (hi := 19) (by rw [f1]; exact h2)
        rw [this, f1]
      have hG2 := hT2.CG hB (hT1.CG hB hG)
      have hcl : (G 3 3).toNatClampNeg = K := by rw [eK, nI_clamp (by omega)]
      have hcl1 : (nI (K + 1)).toNatClampNeg = K + 1 := nI_clamp (by omega)
      rw [tk_ny h2]
      refine tk_ift (tk_twok hB) ?_
      refine tk_cc (k_addKerb (N := K) hB hK ((hG2.1 3 (by decide)).trans eK)) (fun v9 μ9 h9 => ?_)
      obtain ⟨rfl, rfl⟩ := h9
      refine And.intro (Or.inr rfl) ?_
      have hB2 : B ≠ 2 ∧ 2 ≠ B := by rcases hB with rfl | rfl <;> decide
      have hB0 : B ≠ 0 := by rcases hB with rfl | rfl <;> decide
      have hB1 : B ≠ 1 := by rcases hB with rfl | rfl <;> decide
      have hB3 : ∀ i, B + i ≠ 2 := fun i => by rcases hB with rfl | rfl <;> omega
      have hB4 : ∀ i, 2 ≠ B + i := fun i => by rcases hB with rfl | rfl <;> omega
      rw [hcl, eK, nI_1]
      refine ⟨_, rfl, fun x y hx hx2 => ?_, rfl, ⟨fun y hy => ?_, fun k hk => ?_, fun t ht => ?_, ?_⟩, ?_⟩
      · rw [tk_up_p _ _ _ (by omega), tk_up_p _ _ _ (by omega), tk_up_p _ _ _ (by omega), tk_up_p _ _ _ (by omega), tk_up_p _ _ _ (by omega)]
        exact (hT1.fF B).tr (hT2.fF B) x y hx hx2
      · have hy5 : y = 0 ∨ y = 1 ∨ y = 2 ∨ y = 3 ∨ y = 4 := by omega
        rcases hy5 with rfl | rfl | rfl | rfl | rfl <;> simp [tk_up, hG2.1]
      · have hk2 : k < K + 1 := by
          have : k < (nI (K + 1)).toNatClampNeg := by simpa [tk_up] using hk
          rw [hcl1] at this
          exact this
        by_cases hkK : k = K
        · subst hkK
          simp [tk_up, hv1, hv2]
        · have := hG2.2.1 k (by rw [hcl]; omega)
          simp [tk_up, hkK, this]
      · have ht2 : t < (G 3 4).toNatClampNeg := by simpa [tk_up] using ht
        have := hG2.2.2.1 t ht2
        simp [tk_up, this]
      · have := hG2.2.2.2
        simp [tk_up, hB2.2, hB4, hB0, this]
      · simp [tk_up, hB2.2, hB4, hB0, hT2.1, f1]
theorem k_readThing {N : Nat} (hB : tk_tw B) (hX : tk_TX (σ 3) L) (hL : L ≤ 150) (e1 : σ 2 1 = nI L) (hn : n ≤ L) (e2 : σ 2 2 = nI n) (hG : tk_CG σ B G) (hN : N < 5) (eN : G 3 4 = nI N) :
    tk_Ct M_X3_readThing [.ref 2, .ref B] (σ, tk_rho a b, τ, 62) (fun v μ' => ∃ σ', μ' = (σ', tk_rho a b, τ, 62) ∧ tk_fF B σ σ' ∧ tk_RC σ' B (tk_rdT (σ 3) L G n) v) := by
  have e3 := hG.1 3 (by decide)
  rw [tk_rdT]
  have hr1 := k_readNumber (σ := σ) (a := a) (b := b) (τ := τ) (L := L) (p := n) (lo := 0) (hi := σ B 3 - 1) hX (by decide) hL e1 hn e2
  refine tk_ct rfl rfl (Nat.le_of_ble_eq_true rfl) (fun l D cy => tk_run (hT_X3_readThing none) [] 80 _ ?_)
  refine tk_ift (tk_twok hB) ?_
  refine tk_cc hr1 (fun v9 μ9 h9 => ?_)
  obtain ⟨rfl, σ1, rfl, hT1⟩ := h9
  refine And.intro (fun h1 => ?_) (fun h1 => ?_)
  all_goals try dsimp only [tk_c0, tk_c1, tk_c2, tk_c3, tk_c4, tk_c5, tk_c6, tk_c7, tk_c8, tk_c9, tk_c10, tk_c11, tk_c12, tk_c13] at h1
  all_goals rw [tk_i01, e3] at h1
  · refine And.intro (Or.inl rfl) ?_
    exact ⟨σ1, rfl, hT1.fF B, tk_RCn h1 hT1.2.1⟩
  · have h1 := Decidable.not_not.mp h1
    have hv1 := hT1.vv h1
    have hG2 := hT1.CG hB hG
    have hcl : (G 3 4).toNatClampNeg = N := by rw [eN, nI_clamp (by omega)]
    have hcl1 : (nI (N + 1)).toNatClampNeg = N + 1 := nI_clamp (by omega)
    rw [tk_ny h1]
    refine tk_ift (tk_twok hB) ?_
    refine tk_cc (k_addThing (N := N) hB hN ((hG2.1 4 (by decide)).trans eN)) (fun v9 μ9 h9 => ?_)
    obtain ⟨rfl, rfl⟩ := h9
    refine And.intro (Or.inr rfl) ?_
    have hB2 : B ≠ 2 ∧ 2 ≠ B := by rcases hB with rfl | rfl <;> decide
    have hB4 : ∀ i, 2 ≠ B + i := fun i => by rcases hB with rfl | rfl <;> omega
    rw [hcl, eN, nI_1]
    refine ⟨_, rfl, fun x y hx hx2 => ?_, rfl, ⟨fun y hy => ?_, fun k hk => ?_, fun t ht => ?_, ?_⟩, ?_⟩
    · rw [tk_up_p _ _ _ (by omega), tk_up_p _ _ _ (by omega)]
      exact hT1.fF B x y hx hx2
    · have hy5 : y = 0 ∨ y = 1 ∨ y = 2 ∨ y = 3 ∨ y = 4 := by omega
      rcases hy5 with rfl | rfl | rfl | rfl | rfl <;> simp [tk_up, hG2.1]
    · have hk2 : k < (G 3 3).toNatClampNeg := by simpa [tk_up] using hk
      have := hG2.2.1 k hk2
      simp [tk_up, this]
    · have ht2 : t < N + 1 := by
        have : t < (nI (N + 1)).toNatClampNeg := by simpa [tk_up] using ht
        rw [hcl1] at this
        exact this
      by_cases htN : t = N
      · subst htN
        simp [tk_up, hv1]
      · have := hG2.2.2.1 t (by rw [hcl]; omega)
        simp [tk_up, htN, this]
    · have := hG2.2.2.2
      simp [tk_up, hB2.2, hB4, this]
    · simp [tk_up, hB2.2, hB4, hT1.1]
end
