/-! what holds between both sides -/
/-- a row of the class and one of the reference stand alike -/
def tk_RW (K N : Nat) (c m : Nat → Int32) : Prop :=
  (∃ T, T ≤ 9999 ∧ c 0 = nI T ∧ m 0 = nI T) ∧ (∃ d, d ≤ 99999 ∧ c 1 = nI d ∧ m 12 = nI d) ∧
  (∃ B, B < 2 ^ N ∧ m 11 = nI B ∧ ∀ t, t < N → c (4 + 3 * t) = nI (B / 2 ^ t % 2)) ∧
  (∀ t, t < N → c (2 + 3 * t) = m (1 + t) ∧ c (3 + 3 * t) = m (6 + t) ∧ (∃ j, j < K ∧ c (2 + 3 * t) = nI j) ∧ (∃ g, g ≤ 3 ∧ c (3 + 3 * t) = nI g) ∧ (c (4 + 3 * t) = 1 → c (3 + 3 * t) = 0)) ∧
  ∀ t, t < 5 → c (4 + 3 * t) = 0 ∨ c (4 + 3 * t) = 1
theorem tk_RW.c {K N : Nat} {c m c' m' : Nat → Int32} (hN : N ≤ 5) (h : tk_RW K N c m) (hc : ∀ i, i < 17 → c' i = c i) (hm : ∀ i, i < 13 → m' i = m i) : tk_RW K N c' m' := by
  obtain ⟨⟨T, h1, h2, h3⟩, ⟨d, h4, h5, h6⟩, ⟨B, h7, h8, h9⟩, h10, h11⟩ := h
  refine ⟨⟨T, h1, (hc _ (by omega)).trans h2, (hm _ (by omega)).trans h3⟩, ⟨d, h4, (hc _ (by omega)).trans h5, (hm _ (by omega)).trans h6⟩, ⟨B, h7, (hm _ (by omega)).trans h8, fun t ht => (hc _ (by omega)).trans (h9 t ht)⟩, fun t ht => ?_, fun t ht => by rw [hc _ (by omega)]; exact h11 t ht⟩
  rw [hc _ (by omega), hc _ (by omega), hc _ (by omega), hm _ (by omega), hm _ (by omega)]
  exact h10 t ht
def tk_I0 (a b : Nat) (σ : Nat → Nat → Int32) (τ : Nat → Nat → Int64) : Prop := tk_tw b ∧ a ≠ b ∧ σ 47 0 = 0 ∧ τ 1 11 = τ 47 1
/-- the towns -/
def tk_I1 (a K N : Nat) (σ : Nat → Nat → Int32) : Prop := tk_tw a ∧ K ≤ 8 ∧ N ≤ 5 ∧ tk_VE (tk_E σ a) ∧ tk_VE (tk_F σ) ∧ tk_Ag K (tk_E σ a) (tk_F σ) ∧ σ a 3 = nI K ∧ σ a 4 = nI N
/-- what can be undone -/
def tk_I3 (K N P X : Nat) (σ : Nat → Nat → Int32) : Prop := P ≤ 10 ∧ X < 10 ∧ σ 23 1 = nI P ∧ σ 23 2 = nI X ∧ σ 47 20 = nI P ∧ ∀ i, i < P → tk_RW K N (σ (25 + (X + 10 - P + i) % 10)) (fun y => σ 58 (13 * i + y))
/-- the images -/
def tk_I4 (K N : Nat) (σ : Nat → Nat → Int32) : Prop := ∀ i, i < 2 → (σ 38 i = 0 ∨ σ 38 i = 1) ∧ σ 57 i = σ 38 i ∧ (¬ σ 38 i = 0 → tk_RW K N (σ (36 + i)) (fun y => σ 56 (13 * i + y)))
/-- the text -/
def tk_I5 (L : Nat) (σ : Nat → Nat → Int32) : Prop := L ≤ 150 ∧ σ 2 1 = nI L ∧ σ 47 3 = nI L ∧ (∀ i, σ 3 i = σ 48 i) ∧ tk_TX (σ 48) L
/-- what was found -/
def tk_I6 (m : Nat) (σ : Nat → Nat → Int32) : Prop := m ≤ 6 ∧ σ 39 2 = nI m ∧ σ 47 23 = nI m ∧ ∀ e, e < m → σ 40 e = σ 59 e ∧ σ 41 e = σ 60 e ∧ ∃ f, f ≤ 99 ∧ σ 41 e = nI f
/-- what was seen -/
def tk_I7 (m : Nat) (σ : Nat → Nat → Int32) : Prop := m ≤ 6 ∧ σ 42 2 = nI m ∧ σ 47 26 = nI m ∧ ∀ e, e < m → σ 43 e = σ 61 e ∧ σ 44 e = σ 62 e
def tk_Inv (a b : Nat) (σ : Nat → Nat → Int32) (τ : Nat → Nat → Int64) : Prop := ∃ K N P X L m m', tk_I0 a b σ τ ∧ tk_I1 a K N σ ∧ tk_RW K N (tk_NV σ) (σ 55) ∧ tk_I3 K N P X σ ∧ tk_I4 K N σ ∧ tk_I5 L σ ∧ tk_I6 m σ ∧ tk_I7 m' σ
section
variable {a b K N P X L m : Nat} {σ σ' : Nat → Nat → Int32} {τ : Nat → Nat → Int64}
theorem tk_F.c (hf : ∀ x y, (49 ≤ x ∧ x ≤ 53) → σ' x y = σ x y) : tk_F σ' = tk_F σ := by
  funext i k
  unfold tk_F
  split <;> exact hf _ _ (by omega)
theorem tk_E.c (ha : tk_tw a) (hf : ∀ x y, (4 ≤ x ∧ x ≤ 15) → σ' x y = σ x y) : tk_E σ' a = tk_E σ a := by
  funext i k
  unfold tk_E
  rcases ha with rfl | rfl <;> split <;> exact hf _ _ (by omega)
theorem tk_I0.c (h : tk_I0 a b σ τ) (hf : σ' 47 0 = σ 47 0) : tk_I0 a b σ' τ := ⟨h.1, h.2.1, hf.trans h.2.2.1, h.2.2.2⟩
theorem tk_I1.c (h : tk_I1 a K N σ) (hf : ∀ x y, ((4 ≤ x ∧ x ≤ 15) ∨ (49 ≤ x ∧ x ≤ 53)) → σ' x y = σ x y) : tk_I1 a K N σ' := by
  obtain ⟨h1, h2, h3, h4, h5, h6, h7, h8⟩ := h
  have eE := tk_E.c (σ := σ) (σ' := σ') h1 (fun x y hx => hf x y (Or.inl hx))
  have eF := tk_F.c (σ := σ) (σ' := σ') (fun x y hx => hf x y (Or.inr hx))
  have ha : 4 ≤ a ∧ a ≤ 15 := by rcases h1 with rfl | rfl <;> omega
  refine ⟨h1, h2, h3, ?_, ?_, ?_, (hf _ _ (Or.inl ha)).trans h7, (hf _ _ (Or.inl ha)).trans h8⟩
  · rw [eE]; exact h4
  · rw [eF]; exact h5
  · rw [eE, eF]; exact h6
theorem tk_I2.c (hN : N ≤ 5) (h : tk_RW K N (tk_NV σ) (σ 55)) (hf : ∀ x y, (x = 16 ∨ (18 ≤ x ∧ x ≤ 22) ∨ x = 55) → σ' x y = σ x y) : tk_RW K N (tk_NV σ') (σ' 55) :=
  h.c hN (fun i hi => tk_NV_congr (fun x y hx => hf x y (by omega)) i hi) (fun i _ => hf _ _ (by omega))
theorem tk_I3.c (hN : N ≤ 5) (h : tk_I3 K N P X σ) (hf : ∀ x y, (x = 23 ∨ (25 ≤ x ∧ x ≤ 34) ∨ x = 58 ∨ (x = 47 ∧ y = 20)) → σ' x y = σ x y) : tk_I3 K N P X σ' := by
  obtain ⟨h1, h2, h3, h4, h5, h6⟩ := h
  refine ⟨h1, h2, (hf _ _ (by omega)).trans h3, (hf _ _ (by omega)).trans h4, (hf _ _ (by omega)).trans h5, fun i hi => (h6 i hi).c hN (fun y _ => hf _ _ (by omega)) (fun y _ => hf _ _ (by omega))⟩
theorem tk_I4.c (hN : N ≤ 5) (h : tk_I4 K N σ) (hf : ∀ x y, ((36 ≤ x ∧ x ≤ 38) ∨ x = 56 ∨ x = 57) → σ' x y = σ x y) : tk_I4 K N σ' := by
  intro i hi
  obtain ⟨h1, h2, h3⟩ := h i hi
  rw [hf 38 i (by omega), hf 57 i (by omega)]
  exact ⟨h1, h2, fun hn => (h3 hn).c hN (fun y _ => hf _ _ (by omega)) (fun y _ => hf _ _ (by omega))⟩
theorem tk_I5.c (h : tk_I5 L σ) (hf : ∀ x y, ((x = 2 ∧ y = 1) ∨ x = 3 ∨ (x = 47 ∧ y = 3) ∨ x = 48) → σ' x y = σ x y) : tk_I5 L σ' := by
  obtain ⟨h1, h2, h3, h4, h5⟩ := h
  have e : σ' 48 = σ 48 := funext fun y => hf _ _ (by omega)
  exact ⟨h1, (hf _ _ (by omega)).trans h2, (hf _ _ (by omega)).trans h3, fun i => by rw [hf _ _ (by omega), hf 48 _ (by omega)]; exact h4 i, by rw [e]; exact h5⟩
theorem tk_I6.c (h : tk_I6 m σ) (hf : ∀ x y, ((39 ≤ x ∧ x ≤ 41) ∨ (x = 47 ∧ y = 23) ∨ x = 59 ∨ x = 60) → σ' x y = σ x y) : tk_I6 m σ' := by
  obtain ⟨h1, h2, h3, h4⟩ := h
  refine ⟨h1, (hf _ _ (by omega)).trans h2, (hf _ _ (by omega)).trans h3, fun e he => ?_⟩
  rw [hf _ _ (by omega), hf _ _ (by omega), hf _ _ (by omega), hf _ _ (by omega)]
  exact h4 e he
theorem tk_I7.c (h : tk_I7 m σ) (hf : ∀ x y, ((42 ≤ x ∧ x ≤ 44) ∨ (x = 47 ∧ y = 26) ∨ x = 61 ∨ x = 62) → σ' x y = σ x y) : tk_I7 m σ' := by
  obtain ⟨h1, h2, h3, h4⟩ := h
  refine ⟨h1, (hf _ _ (by omega)).trans h2, (hf _ _ (by omega)).trans h3, fun e he => ?_⟩
  rw [hf _ _ (by omega), hf _ _ (by omega), hf _ _ (by omega), hf _ _ (by omega)]
  exact h4 e he
/-- looking ahead changes nothing of it -/
theorem tk_Inv.c (h : tk_Inv a b σ τ) (hf : ∀ x y, x ≠ 45 → x ≠ 46 → ¬ (x = 47 ∧ (y = 27 ∨ y = 28)) → σ' x y = σ x y) : tk_Inv a b σ' τ := by
  obtain ⟨K, N, P, X, L, m, m', h0, h1, h2, h3, h4, h5, h6, h7⟩ := h
  have hN := h1.2.2.1
  exact ⟨K, N, P, X, L, m, m', h0.c (hf _ _ (by omega) (by omega) (by omega)), h1.c (fun x y q => hf _ _ (by omega) (by omega) (by omega)), tk_I2.c hN h2 (fun x y q => hf _ _ (by omega) (by omega) (by omega)), h3.c hN (fun x y q => hf _ _ (by omega) (by omega) (by omega)), h4.c hN (fun x y q => hf _ _ (by omega) (by omega) (by omega)), h5.c (fun x y q => hf _ _ (by omega) (by omega) (by omega)), h6.c (fun x y q => hf _ _ (by omega) (by omega) (by omega)), h7.c (fun x y q => hf _ _ (by omega) (by omega) (by omega))⟩
theorem tk_Inv.Sc (h : tk_Inv a b σ τ) (hf : tk_Sc σ σ') : tk_Inv a b σ' τ := h.c (fun x y h1 h2 _ => hf x y h1 h2)
theorem tk_Inv.Sm (h : tk_Inv a b σ τ) (hf : tk_Sm σ σ') : tk_Inv a b σ' τ := h.c (fun x y _ _ h3 => hf x y h3)
theorem tk_I1.e0 (h : tk_I1 a K N σ) : σ 49 0 = σ a 3 := (h.2.2.2.2.2.1.1 3 (by omega)).symm
theorem tk_I1.e1 (h : tk_I1 a K N σ) : σ 49 1 = σ a 4 := (h.2.2.2.2.2.1.1 4 (by omega)).symm
theorem tk_I1.e2 (h : tk_I1 a K N σ) : σ 49 2 = σ a 0 := (h.2.2.2.2.2.1.1 0 (by omega)).symm
theorem tk_I1.e3 (h : tk_I1 a K N σ) : tk_E σ a 3 3 = nI K := h.2.2.2.2.2.2.1
theorem tk_I1.f3 (h : tk_I1 a K N σ) : tk_F σ 3 3 = nI K := h.e0.trans h.2.2.2.2.2.2.1
theorem tk_mtB : ∀ B, B < 32 → ∀ j, j < 5 → ((nI B) >>> (nI j &&& 31)) &&& 1 = nI (B / 2 ^ j % 2) := by decide +kernel
theorem tk_2N {N B : Nat} (hN : N ≤ 5) (h : B < 2 ^ N) : B < 32 := Nat.lt_of_lt_of_le h (Nat.pow_le_pow_right (by omega) hN)
/-- a thing of both -/
theorem tk_thg {t : Int32} (h1 : tk_I1 a K N σ) (h2 : tk_RW K N (tk_NV σ) (σ 55)) (ht : 0 ≤ t ∧ t < σ a 4) :
    ∃ j, j < N ∧ t = nI j ∧ t.toNatClampNeg = j ∧ σ (18 + j) 0 = σ 55 (1 + j) ∧ σ (18 + j) 1 = σ 55 (6 + j) ∧ σ (18 + j) 2 = tk_mt σ t ∧ tk_VS (tk_E σ a) (σ 55 (1 + j), σ 55 (6 + j)) ∧ tk_VT (tk_mt σ t) (σ 55 (1 + j), σ 55 (6 + j)) ∧ tk_VS (tk_F σ) (σ 55 (1 + j), σ 55 (6 + j)) := by
  have hN := h1.2.2.1
  have hK := h1.2.1
  obtain ⟨j, hj, rfl⟩ := tk_ix (n := N) ht (by rw [h1.2.2.2.2.2.2.2]; exact Int32.le_refl _) (by omega)
  obtain ⟨_, _, ⟨B, b1, b2, b3⟩, r4, r5⟩ := h2
  obtain ⟨q1, q2, ⟨k, hk, q3⟩, ⟨g, hg, q4⟩, q5⟩ := r4 j hj
  have q6 := b3 j hj
  have q7 := r5 j (by omega)
  rw [tk_NV2] at q5 q6 q7
  rw [tk_NV0] at q1 q3
  rw [tk_NV1] at q2 q4 q5
  have em : tk_mt σ (nI j) = nI (B / 2 ^ j % 2) := by
    unfold tk_mt
    rw [b2]
    exact tk_mtB B (tk_2N hN b1) j (by omega)
  have e0 : σ 55 (1 + j) = nI k := q1.symm.trans q3
  have e1 : σ 55 (6 + j) = nI g := q2.symm.trans q4
  have hki : 0 ≤ nI k ∧ nI k < nI K := ⟨nI_pos' (by omega), nI_lt hk (by omega)⟩
  have hgi : (0 : Int32) ≤ nI g ∧ nI g ≤ 3 := ⟨nI_pos' (by omega), nI_le (b := 3) hg (by omega)⟩
  refine ⟨j, hj, rfl, nI_clamp (by omega), q1, q2, q6.trans em.symm, ⟨?_, ?_⟩, ?_, ⟨?_, ?_⟩⟩
  · show 0 ≤ σ 55 (1 + j) ∧ σ 55 (1 + j) < tk_E σ a 3 3
    rw [h1.e3, e0]
    exact hki
  · show 0 ≤ σ 55 (6 + j) ∧ σ 55 (6 + j) ≤ 3
    rw [e1]
    exact hgi
  · show tk_mt σ (nI j) = 0 ∨ (tk_mt σ (nI j) = 1 ∧ σ 55 (6 + j) = 0)
    rw [em, ← q6, ← q2]
    exact q7.imp id (fun h => ⟨h, q5 h⟩)
  · show 0 ≤ σ 55 (1 + j) ∧ σ 55 (1 + j) < tk_F σ 3 3
    rw [h1.f3, e0]
    exact hki
  · show 0 ≤ σ 55 (6 + j) ∧ σ 55 (6 + j) ≤ 3
    rw [e1]
    exact hgi
theorem tk_CTof (h1 : tk_I1 a K N σ) (h2 : tk_RW K N (tk_NV σ) (σ 55)) : tk_CT a σ := by
  intro j hj hlt
  obtain ⟨i, hi, e, _, q1, q2, q3, q4, q5, q6⟩ := tk_thg (t := nI j) h1 h2 ⟨nI_pos' (by omega), hlt⟩
  obtain rfl : j = i := tk_inj (by omega) (by have := h1.2.2.1; omega) e
  rw [q1, q2, q3]
  exact ⟨q4, q5⟩
theorem tk_MTof (h1 : tk_I1 a K N σ) (h2 : tk_RW K N (tk_NV σ) (σ 55)) : tk_MT σ := by
  intro j hj hlt
  rw [h1.e1] at hlt
  obtain ⟨i, hi, e, _, q1, q2, q3, q4, q5, q6⟩ := tk_thg (t := nI j) h1 h2 ⟨nI_pos' (by omega), hlt⟩
  obtain rfl : j = i := tk_inj (by omega) (by have := h1.2.2.1; omega) e
  exact q6
theorem tk_h01of (h2 : tk_RW K N (tk_NV σ) (σ 55)) : ∀ j, j < 5 → σ (18 + j) 2 = 0 ∨ σ (18 + j) 2 = 1 := fun j hj => by
  have := h2.2.2.2.2 j hj
  rw [tk_NV2] at this
  exact this
theorem tk_eT (h2 : tk_RW K N (tk_NV σ) (σ 55)) : ∃ T, T ≤ 9999 ∧ σ 16 0 = nI T ∧ σ 55 0 = nI T := h2.1
theorem tk_ed (h2 : tk_RW K N (tk_NV σ) (σ 55)) : ∃ d, d ≤ 99999 ∧ σ 16 1 = nI d ∧ σ 55 12 = nI d := h2.2.1
theorem tk_eT' (h2 : tk_RW K N (tk_NV σ) (σ 55)) : σ 55 0 = σ 16 0 := by
  obtain ⟨T, _, e1, e2⟩ := tk_eT h2
  rw [e1, e2]
end
def tk_IM (μ : tk_Me) : Prop := ∃ a b σ τ, μ = (σ, tk_rho a b, τ, 62) ∧ tk_Inv a b σ τ
/-- the same call on both sides: the same answer, and what holds holds again -/
def tk_Two (Mc Mm : tk_Md) (as : List Value) (μ : tk_Me) : Prop := tk_Ct Mc (.ref 1 :: as) μ (fun v μ1 => ∃ x σ1 ρ1 τ1, v = some (.int x) ∧ μ1 = (σ1, ρ1, τ1, 62) ∧ tk_Ct Mm (.ref 47 :: as) μ1 (fun v' μ2 => v' = some (.int x) ∧ tk_IM μ2))
section
variable {a b : Nat} {σ : Nat → Nat → Int32} {τ : Nat → Nat → Int64} {Mc Mm : tk_Md} {as : List Value} {A A' : Int32}
theorem tk_twoP (h : tk_Inv a b σ τ) (hc : tk_Ct Mc (.ref 1 :: as) (σ, tk_rho a b, τ, 62) (fun v μ' => v = some (.int A) ∧ μ' = (σ, tk_rho a b, τ, 62)))
    (hm : tk_Ct Mm (.ref 47 :: as) (σ, tk_rho a b, τ, 62) (fun v μ' => v = some (.int A') ∧ μ' = (σ, tk_rho a b, τ, 62))) (e : A' = A) : tk_Two Mc Mm as (σ, tk_rho a b, τ, 62) := by
  subst e
  refine tk_ctP hc (fun v μ1 h1 => ?_)
  obtain ⟨rfl, rfl⟩ := h1
  exact ⟨_, σ, _, τ, rfl, rfl, tk_ctP hm (fun v' μ2 h2 => ⟨h2.1, a, b, σ, τ, h2.2, h⟩)⟩
theorem tk_twoS (h : tk_Inv a b σ τ) (hc : tk_Ct Mc (.ref 1 :: as) (σ, tk_rho a b, τ, 62) (fun v μ' => v = some (.int A) ∧ ∃ σ', μ' = (σ', tk_rho a b, τ, 62) ∧ tk_Sc σ σ'))
    (hm : ∀ σ', tk_Sc σ σ' → (∀ x, 47 ≤ x → σ' x = σ x) → tk_F σ' = tk_F σ → (∀ t, tk_mt σ' t = tk_mt σ t) → tk_Ct Mm (.ref 47 :: as) (σ', tk_rho a b, τ, 62) (fun v μ' => v = some (.int A) ∧ ∃ σ'', μ' = (σ'', tk_rho a b, τ, 62) ∧ tk_Sm σ' σ'')) : tk_Two Mc Mm as (σ, tk_rho a b, τ, 62) := by
  refine tk_ctP hc (fun v μ1 h1 => ?_)
  obtain ⟨rfl, σ1, rfl, hS⟩ := h1
  have hI := h.Sc hS
  have hx : ∀ x, 47 ≤ x → σ1 x = σ x := fun x hx => funext fun y => hS x y (by omega) (by omega)
  refine ⟨_, σ1, _, τ, rfl, rfl, tk_ctP (hm σ1 hS hx (tk_F.c (fun x y _ => hS x y (by omega) (by omega))) (fun t => by unfold tk_mt; rw [hx 55 (by omega)])) (fun v' μ2 h2 => ?_)⟩
  obtain ⟨h2, σ2, rfl, hS2⟩ := h2
  exact ⟨h2, a, b, σ2, τ, rfl, hI.Sm hS2⟩
end
