/-! laws of the reference; rate of both sides -/
section
variable {t k w : Int32} {σ : Nat → Nat → Int32} {a b : Nat} {τ : Nat → Nat → Int64}
theorem k_mLaws {m : Nat} (hz : σ 47 0 = 0) (hE : tk_VE (tk_F σ)) (hm : m ≤ 6) (em : σ 47 26 = nI m) (hdp : ∀ i, DecidablePred (fun o : Nat => tk_il' (σ 49 2) (σ 61) (σ 62) m (nI i) (nI o))) :
    tk_Ct M_X7_laws [.ref 47, .int w] (σ, tk_rho a b, τ, 62) (fun v μ' => v = some (.int (if 0 ≤ w ∧ w ≤ 1 then (if w = 0 then nI (tk_l2 _ hdp (σ 49 2).toNatClampNeg (σ 49 2).toNatClampNeg).1 else (tk_l2 _ hdp (σ 49 2).toNatClampNeg (σ 49 2).toNatClampNeg).2) else -1)) ∧ μ' = (σ, tk_rho a b, τ, 62)) := by
  obtain ⟨N, hN, e⟩ := tk_nI_of (n := 20) ⟨Int32.le_trans (by decide) hE.1, hE.2.1⟩ (by decide)
  have e : σ 49 2 = nI N := e
  have hM0 : ¬ σ 49 2 = 0 := fun h => by have h2 : (2 : Int32) ≤ σ 49 2 := hE.1; rw [h] at h2; exact absurd h2 (by decide)
  have e9 : (σ 49 2).toNatClampNeg = N := by rw [e, nI_clamp (by omega)]
  rw [e9]
  refine tk_ct rfl rfl (Nat.le_of_ble_eq_true rfl) (fun l D cy => tk_thr (hT_X7_laws none) rfl rfl rfl hz (tk_run (hT_X7_laws none) [24] 60 _ ?_))
  refine tk_cc (k_in _ _ _ _) (fun v9 μ9 h9 => ?_)
  obtain ⟨rfl, rfl⟩ := h9
  refine And.intro (fun h1 => ?_) (fun h1 => ?_)
  all_goals try dsimp only [tk_c0, tk_c1, tk_c2, tk_c3, tk_c4, tk_c5, tk_c6, tk_c7, tk_c8, tk_c9, tk_c10, tk_c11, tk_c12, tk_c13] at h1
  · refine And.intro ?_ rfl
    rw [if_neg (tk_b0.mp h1)]
  · have h1 := Decidable.not_not.mp (fun h => h1 (tk_b0.mpr h))
    rw [if_pos h1]
    have outer : ∀ (n j : Nat) (i : Int32) (x5 x6 x7 : Option Value), i = nI j → j + n = N →
        tk_J l D cy none M_X7_laws (24, [some (.ref 47), some (.int w), some (.int (nI (tk_l2 _ hdp N j).1)), some (.int (tk_l2 _ hdp N j).2), some (.int i), x5, x6, x7], [], (σ, tk_rho a b, τ, 62), 0, 0) (fun v μ' => v = some (.int (if w = 0 then nI (tk_l2 _ hdp N N).1 else (tk_l2 _ hdp N N).2)) ∧ μ' = (σ, tk_rho a b, τ, 62)) := by
      intro n
      induction n with
      | zero =>
        intro j i x5 x6 x7 hi hj
        subst hi
        have hjN : j = N := by omega
        subst hjN
        refine tk_run (hT_X7_laws none) [24] 60 _ ?_
        refine And.intro (fun h2 => ?_) (fun h2 => ?_)
        all_goals try dsimp only [tk_c0, tk_c1, tk_c2, tk_c3, tk_c4, tk_c5, tk_c6, tk_c7, tk_c8, tk_c9, tk_c10, tk_c11, tk_c12, tk_c13] at h2
        · refine And.intro (fun h3 => ?_) (fun h3 => ?_)
          all_goals try dsimp only [tk_c0, tk_c1, tk_c2, tk_c3, tk_c4, tk_c5, tk_c6, tk_c7, tk_c8, tk_c9, tk_c10, tk_c11, tk_c12, tk_c13] at h3
          · rw [if_pos h3]
            exact And.intro rfl rfl
          · rw [if_neg h3]
            exact And.intro rfl rfl
        · exact absurd (by rw [e]; exact Int32.le_refl _) h2
      | succ n ih =>
        intro j i x5 x6 x7 hi hj
        subst hi
        have hI := tk_l2_I (c := _) (hc := hdp) hN j (by omega)
        have inner : ∀ (n2 i : Nat) (x : Int32) (x6 x7 : Option Value), x = nI i → i + n2 = N →
            tk_J l D cy none M_X7_laws (38, [some (.ref 47), some (.int w), some (.int (nI (tk_l1 _ (hdp j) j i (tk_l2 _ hdp N j)).1)), some (.int (tk_l1 _ (hdp j) j i (tk_l2 _ hdp N j)).2), some (.int (nI j)), some (.int x), x6, x7], [], (σ, tk_rho a b, τ, 62), 0, 0) (fun v μ' => v = some (.int (if w = 0 then nI (tk_l2 _ hdp N N).1 else (tk_l2 _ hdp N N).2)) ∧ μ' = (σ, tk_rho a b, τ, 62)) := by
          intro n2
          induction n2 with
          | zero =>
            intro i x x6 x7 hx him
            subst hx
            have hiN : i = N := by omega
            subst hiN
            have h9 := ih (j + 1) _ (some (.int (nI i))) x6 x7 (nI_1 j) (by omega)
            refine tk_run (hT_X7_laws none) [24] 60 _ ?_
            refine And.intro (fun h2 => ?_) (fun h2 => ?_)
            all_goals try dsimp only [tk_c0, tk_c1, tk_c2, tk_c3, tk_c4, tk_c5, tk_c6, tk_c7, tk_c8, tk_c9, tk_c10, tk_c11, tk_c12, tk_c13] at h2
            · exact h9
            · exact absurd (by rw [e]; exact Int32.le_refl _) h2
          | succ n2 ih2 =>
            intro i x x6 x7 hx him
            subst hx
            have hI2 := tk_l1_I (c := fun o : Nat => tk_il' (σ 49 2) (σ 61) (σ 62) m (nI j) (nI o)) (hc := hdp j) (st := j) (by omega) hI i (by omega)
            have fin : ∀ (y7 : Option Value) (is : Int32), ((is = 1 ∧ tk_il' (σ 49 2) (σ 61) (σ 62) m (nI j) (nI i)) ∨ (is = 0 ∧ ¬ tk_il' (σ 49 2) (σ 61) (σ 62) m (nI j) (nI i))) →
                tk_J l D cy none M_X7_laws (112, [some (.ref 47), some (.int w), some (.int (nI (tk_l1 _ (hdp j) j i (tk_l2 _ hdp N j)).1)), some (.int (tk_l1 _ (hdp j) j i (tk_l2 _ hdp N j)).2), some (.int (nI j)), some (.int (nI i)), some (.int is), y7], [], (σ, tk_rho a b, τ, 62), 0, 0) (fun v μ' => v = some (.int (if w = 0 then nI (tk_l2 _ hdp N N).1 else (tk_l2 _ hdp N N).2)) ∧ μ' = (σ, tk_rho a b, τ, 62)) := by
              intro y7 is his
              rcases his with ⟨rfl, hc⟩ | ⟨rfl, hc⟩
              · have h9 := ih2 (i + 1) _ (some (.int 1)) y7 (nI_1 i) (by omega)
                rw [tk_l1, if_pos hc] at h9
                dsimp only at h9
                rw [← nI_1] at h9
                refine tk_run (hT_X7_laws none) [38] 60 _ ?_
                refine And.intro (fun h3 => ?_) (fun h3 => ?_)
                all_goals try dsimp only [tk_c0, tk_c1, tk_c2, tk_c3, tk_c4, tk_c5, tk_c6, tk_c7, tk_c8, tk_c9, tk_c10, tk_c11, tk_c12, tk_c13] at h3
                · exact absurd h3 (by decide)
                · refine And.intro (fun h4 => ?_) (fun h4 => ?_)
                  all_goals try dsimp only [tk_c0, tk_c1, tk_c2, tk_c3, tk_c4, tk_c5, tk_c6, tk_c7, tk_c8, tk_c9, tk_c10, tk_c11, tk_c12, tk_c13] at h4
                  · have h5 : (tk_l1 _ (hdp j) j i (tk_l2 _ hdp N j)).1 = 0 := by
                      exact (nI_eq (b := 0) (by have := hI2.1; have : j * N ≤ 20 * 20 := Nat.mul_le_mul (by omega) hN; omega) (by decide)).mp h4
                    rw [if_pos h5] at h9
                    refine And.intro (fun h6 => ?_) (fun h6 => ?_)
                    all_goals try dsimp only [tk_c0, tk_c1, tk_c2, tk_c3, tk_c4, tk_c5, tk_c6, tk_c7, tk_c8, tk_c9, tk_c10, tk_c11, tk_c12, tk_c13] at h6
                    · exact absurd h6 (by decide)
                    · exact h9
                  · have h5 : ¬ (tk_l1 _ (hdp j) j i (tk_l2 _ hdp N j)).1 = 0 := fun h => h4 (by rw [h]; rfl)
                    rw [if_neg h5] at h9
                    refine And.intro (fun h6 => ?_) (fun h6 => ?_)
                    all_goals try dsimp only [tk_c0, tk_c1, tk_c2, tk_c3, tk_c4, tk_c5, tk_c6, tk_c7, tk_c8, tk_c9, tk_c10, tk_c11, tk_c12, tk_c13] at h6
                    · exact absurd h6 (by decide)
                    · exact h9
              · have h9 := ih2 (i + 1) _ (some (.int 0)) y7 (nI_1 i) (by omega)
                rw [tk_l1, if_neg hc] at h9
                have hz0 : ∀ z : Int32, z + 0 = z := fun z => Int32.add_zero z
                refine tk_run (hT_X7_laws none) [38] 60 _ ?_
                refine And.intro (fun h3 => ?_) (fun h3 => ?_)
                all_goals try dsimp only [tk_c0, tk_c1, tk_c2, tk_c3, tk_c4, tk_c5, tk_c6, tk_c7, tk_c8, tk_c9, tk_c10, tk_c11, tk_c12, tk_c13] at h3
                · refine And.intro (fun h6 => ?_) (fun h6 => ?_)
                  all_goals try dsimp only [tk_c0, tk_c1, tk_c2, tk_c3, tk_c4, tk_c5, tk_c6, tk_c7, tk_c8, tk_c9, tk_c10, tk_c11, tk_c12, tk_c13] at h6
                  · rw [← hz0 (nI (tk_l1 _ (hdp j) j i (tk_l2 _ hdp N j)).1)] at h9
                    exact h9
                  · exact absurd rfl h6
                · exact absurd rfl h3
            have deep : ∀ (n3 q : Nat) (y is : Int32), y = nI q → q + n3 = m → ((is = 1 ∧ ∀ e, e < q → tk_rem (nI j * σ 61 e + nI i) (σ 49 2) = σ 62 e) ∨ (is = 0 ∧ ¬ tk_il' (σ 49 2) (σ 61) (σ 62) m (nI j) (nI i))) →
                tk_J l D cy none M_X7_laws (55, [some (.ref 47), some (.int w), some (.int (nI (tk_l1 _ (hdp j) j i (tk_l2 _ hdp N j)).1)), some (.int (tk_l1 _ (hdp j) j i (tk_l2 _ hdp N j)).2), some (.int (nI j)), some (.int (nI i)), some (.int is), some (.int y)], [], (σ, tk_rho a b, τ, 62), 0, 0) (fun v μ' => v = some (.int (if w = 0 then nI (tk_l2 _ hdp N N).1 else (tk_l2 _ hdp N N).2)) ∧ μ' = (σ, tk_rho a b, τ, 62)) := by
              intro n3
              induction n3 with
              | zero =>
                intro q y is hy hq his
                subst hy
                refine tk_run (hT_X7_laws none) [112] 60 _ ?_
                refine And.intro (fun h3 => ?_) (fun h3 => ?_)
                all_goals try dsimp only [tk_c0, tk_c1, tk_c2, tk_c3, tk_c4, tk_c5, tk_c6, tk_c7, tk_c8, tk_c9, tk_c10, tk_c11, tk_c12, tk_c13] at h3
                · refine fin _ is (his.imp (fun h => ⟨h.1, fun e he => h.2 e (by omega)⟩) id)
                · exact absurd (by rw [em]; exact nI_le (by omega) (by omega)) h3
              | succ n3 ih3 =>
                intro q y is hy hq his
                subst hy
                rcases his with ⟨rfl, hc⟩ | ⟨rfl, hc⟩
                · refine tk_run (hT_X7_laws none) [55] 60 _ ?_
                  refine And.intro (fun h3 => ?_) (fun h3 => ?_)
                  all_goals try dsimp only [tk_c0, tk_c1, tk_c2, tk_c3, tk_c4, tk_c5, tk_c6, tk_c7, tk_c8, tk_c9, tk_c10, tk_c11, tk_c12, tk_c13] at h3
                  · exact absurd h3 (by rw [em]; exact nI_ge (by omega) (by omega))
                  · refine And.intro (fun h4 => ?_) (fun h4 => ?_)
                    all_goals try dsimp only [tk_c0, tk_c1, tk_c2, tk_c3, tk_c4, tk_c5, tk_c6, tk_c7, tk_c8, tk_c9, tk_c10, tk_c11, tk_c12, tk_c13] at h4
                    · exact absurd h4 (by decide)
                    · refine tk_ift (tk_in_nI (n := 6) (by omega) (by decide)) ?_
                      refine And.intro hM0 ?_
                      refine tk_ift (tk_in_nI (n := 6) (by omega) (by decide)) ?_
                      rw [nI_clamp (by omega)]
                      refine And.intro (fun h5 => ?_) (fun h5 => ?_)
                      all_goals try dsimp only [tk_c0, tk_c1, tk_c2, tk_c3, tk_c4, tk_c5, tk_c6, tk_c7, tk_c8, tk_c9, tk_c10, tk_c11, tk_c12, tk_c13] at h5
                      · refine ih3 (q + 1) _ _ (nI_1 q) (by omega) (Or.inl ⟨rfl, fun e he => ?_⟩)
                        rcases Nat.lt_or_ge e q with h | h
                        · exact hc e h
                        · have : e = q := by omega
                          subst this
                          exact h5
                      · exact ih3 (q + 1) _ _ (nI_1 q) (by omega) (Or.inr ⟨rfl, fun h => h5 (h q (by omega))⟩)
                · refine tk_run (hT_X7_laws none) [55] 60 _ ?_
                  refine And.intro (fun h3 => ?_) (fun h3 => ?_)
                  all_goals try dsimp only [tk_c0, tk_c1, tk_c2, tk_c3, tk_c4, tk_c5, tk_c6, tk_c7, tk_c8, tk_c9, tk_c10, tk_c11, tk_c12, tk_c13] at h3
                  · exact absurd h3 (by rw [em]; exact nI_ge (by omega) (by omega))
                  · refine And.intro (fun h4 => ?_) (fun h4 => ?_)
                    all_goals try dsimp only [tk_c0, tk_c1, tk_c2, tk_c3, tk_c4, tk_c5, tk_c6, tk_c7, tk_c8, tk_c9, tk_c10, tk_c11, tk_c12, tk_c13] at h4
                    · exact ih3 (q + 1) _ _ (nI_1 q) (by omega) (Or.inr ⟨rfl, hc⟩)
                    · exact absurd rfl h4
            refine tk_run (hT_X7_laws none) [55] 60 _ ?_
            refine And.intro (fun h2 => ?_) (fun h2 => ?_)
            all_goals try dsimp only [tk_c0, tk_c1, tk_c2, tk_c3, tk_c4, tk_c5, tk_c6, tk_c7, tk_c8, tk_c9, tk_c10, tk_c11, tk_c12, tk_c13] at h2
            · exact absurd h2 (by rw [e]; exact nI_ge (by omega) (by omega))
            · exact deep m 0 _ _ rfl (by omega) (Or.inl ⟨rfl, fun e he => absurd he (Nat.not_lt_zero e)⟩)
        refine tk_run (hT_X7_laws none) [38] 60 _ ?_
        refine And.intro (fun h2 => ?_) (fun h2 => ?_)
        all_goals try dsimp only [tk_c0, tk_c1, tk_c2, tk_c3, tk_c4, tk_c5, tk_c6, tk_c7, tk_c8, tk_c9, tk_c10, tk_c11, tk_c12, tk_c13] at h2
        · exact absurd h2 (by rw [e]; exact nI_ge (by omega) (by omega))
        · exact inner N 0 _ _ _ rfl (by omega)
    exact outer N 0 _ _ _ _ rfl (by omega)
theorem k_bitCount {x : Int32} {μ : tk_Me} : tk_Fn M_J6_bitCount_0f7a4 [.int x] μ (some (.int (tk_bc x))) μ := by
  refine tk_ctF (by decide +kernel) rfl (Nat.le_of_ble_eq_true rfl) (fun l D cy => tk_run (hT_J6_bitCount_0f7a4 none) [] 60 _ ?_)
  exact And.intro rfl rfl
theorem k_ones {x : Int32} {μ : tk_Me} : tk_Fn M_X7_ones [.int x] μ (some (.int (tk_pc x 8))) μ := by
  have loop : ∀ (l : Launch) (D : va_G) (cy : Nat → ClassId) (n j : Nat) (i : Int32), i = nI j → j + n = 8 →
      tk_J l D cy none M_X7_ones (4, [some (.int x), some (.int (tk_pc x j)), some (.int i)], [], μ, 0, 0) (fun v μ' => v = some (.int (tk_pc x 8)) ∧ μ' = μ) := by
    intro l D cy n
    induction n with
    | zero =>
      intro j i hi hj
      subst hi
      refine tk_run (hT_X7_ones none) [4] 60 _ ?_
      refine And.intro (fun h1 => ?_) (fun h1 => ?_)
      all_goals try dsimp only [tk_c0, tk_c1, tk_c2, tk_c3, tk_c4, tk_c5, tk_c6, tk_c7, tk_c8, tk_c9, tk_c10, tk_c11, tk_c12, tk_c13] at h1
      · refine And.intro ?_ rfl
        rw [← hj]
        rfl
      · exact absurd (nI_le (a := 8) (by omega) (by omega)) h1
    | succ n ih =>
      intro j i hi hj
      subst hi
      refine tk_run (hT_X7_ones none) [4] 60 _ ?_
      refine And.intro (fun h1 => ?_) (fun h1 => ?_)
      all_goals try dsimp only [tk_c0, tk_c1, tk_c2, tk_c3, tk_c4, tk_c5, tk_c6, tk_c7, tk_c8, tk_c9, tk_c10, tk_c11, tk_c12, tk_c13] at h1
      · exact absurd h1 (nI_ge (b := 8) (by omega) (by omega))
      · exact ih (j + 1) _ (nI_1 j) (by omega)
  refine tk_ct rfl rfl (Nat.le_of_ble_eq_true rfl) (fun l D cy => tk_run (hT_X7_ones none) [4] 60 _ ?_)
  exact loop l D cy 8 0 _ rfl rfl
/-- rate: the trace grows, and the answer -/
def tk_rt (kd : Int32) : Int64 := if kd = 0 then 1 else if kd = 1 then 11 else if kd = 2 then 101 else if kd = 3 then 1011 else if kd = 4 then 10101 else 100001
def tk_rv (kd k h n lv y : Int32) : Int32 := if kd = 0 then h else if kd = 1 then h + n else if kd = 2 then h - lv else if kd = 3 then 2 * (h + n) else if kd = 4 then h - lv + k else h + y
theorem k_rKerb (ha : tk_tw a) (hE : tk_VE (tk_E σ a)) (hk : tk_kI (tk_E σ a) k) : tk_Fn M_X6_rateAsKerb [.ref 1, .int k] (σ, tk_rho a b, τ, 62) (some (.int (σ (a + 2) k.toNatClampNeg))) (σ, tk_rho a b, tk_up τ 1 11 (τ 1 11 + 1), 62) := by
  have hin := tk_in_of hk.1 hk.2 hE.2.2.2.2.1.2 (by decide)
  refine tk_ct rfl rfl (Nat.le_of_ble_eq_true rfl) (fun l D cy => tk_run (hT_X6_rateAsKerb none) [] 60 _ ?_)
  rcases ha with rfl | rfl <;> exact tk_ift hin (And.intro rfl rfl)
theorem k_rBank {N : Nat} (ha : tk_tw a) (hE : tk_VE (tk_E σ a)) (hk : tk_kI (tk_E σ a) k) (hN : N ≤ 5) (e : σ a 4 = nI N) : tk_Fn M_X6_rateAsBank [.ref 1, .int k] (σ, tk_rho a b, τ, 62) (some (.int (σ (a + 2) k.toNatClampNeg + tk_bc (tk_bits (fun t => σ (18 + t) 1 = 0 ∧ σ (18 + t) 0 = k) N)))) (σ, tk_rho a b, tk_up τ 1 11 (τ 1 11 + 11), 62) := by
  refine tk_ct rfl rfl (Nat.le_of_ble_eq_true rfl) (fun l D cy => tk_run (hT_X6_rateAsBank none) [] 60 _ ?_)
  refine tk_cc (k_rKerb ha hE hk) (fun v9 μ9 h9 => ?_)
  obtain ⟨rfl, rfl⟩ := h9
  refine tk_ift (tk_twok ha) ?_
  refine tk_cc (by rw [e]; exact k_lyingOn hN) (fun v9 μ9 h9 => ?_)
  obtain ⟨rfl, rfl⟩ := h9
  refine tk_cc (k_bitCount) (fun v9 μ9 h9 => ?_)
  obtain ⟨rfl, rfl⟩ := h9
  refine And.intro rfl ?_
  rw [tk_up_tw, tk_up_at, Int64.add_assoc]
  rfl
theorem k_rSteps (ha : tk_tw a) (hE : tk_VE (tk_E σ a)) (hk : tk_kI (tk_E σ a) k) : tk_Fn M_X6_rateAsSteps [.ref 1, .int k] (σ, tk_rho a b, τ, 62) (some (.int (σ (a + 2) k.toNatClampNeg - tk_lv' (tk_E σ a) (σ 16 0)))) (σ, tk_rho a b, tk_up τ 1 11 (τ 1 11 + 101), 62) := by
  refine tk_ct rfl rfl (Nat.le_of_ble_eq_true rfl) (fun l D cy => tk_run (hT_X6_rateAsSteps none) [] 60 _ ?_)
  refine tk_cc (k_rKerb ha hE hk) (fun v9 μ9 h9 => ?_)
  obtain ⟨rfl, rfl⟩ := h9
  refine tk_ift (tk_twok ha) ?_
  refine tk_cc (k_levelOf ha hE.1) (fun v9 μ9 h9 => ?_)
  obtain ⟨rfl, rfl⟩ := h9
  refine And.intro rfl ?_
  rw [tk_up_tw, tk_up_at, Int64.add_assoc]
  rfl
theorem k_rChurch {N : Nat} (ha : tk_tw a) (hE : tk_VE (tk_E σ a)) (hk : tk_kI (tk_E σ a) k) (hN : N ≤ 5) (e : σ a 4 = nI N) : tk_Fn M_X6_rateAsChurch [.ref 1, .int k] (σ, tk_rho a b, τ, 62) (some (.int (2 * (σ (a + 2) k.toNatClampNeg + tk_bc (tk_bits (fun t => σ (18 + t) 1 = 0 ∧ σ (18 + t) 0 = k) N))))) (σ, tk_rho a b, tk_up τ 1 11 (τ 1 11 + 1011), 62) := by
  refine tk_ct rfl rfl (Nat.le_of_ble_eq_true rfl) (fun l D cy => tk_run (hT_X6_rateAsChurch none) [] 60 _ ?_)
  refine tk_cc (k_rBank ha hE hk hN e) (fun v9 μ9 h9 => ?_)
  obtain ⟨rfl, rfl⟩ := h9
  refine And.intro rfl ?_
  rw [tk_up_tw, tk_up_at, Int64.add_assoc]
  rfl
theorem k_rButcher (ha : tk_tw a) (hE : tk_VE (tk_E σ a)) (hk : tk_kI (tk_E σ a) k) : tk_Fn M_X6_rateAsButcher [.ref 1, .int k] (σ, tk_rho a b, τ, 62) (some (.int (σ (a + 2) k.toNatClampNeg - tk_lv' (tk_E σ a) (σ 16 0) + k))) (σ, tk_rho a b, tk_up τ 1 11 (τ 1 11 + 10101), 62) := by
  refine tk_ct rfl rfl (Nat.le_of_ble_eq_true rfl) (fun l D cy => tk_run (hT_X6_rateAsButcher none) [] 60 _ ?_)
  refine tk_cc (k_rSteps ha hE hk) (fun v9 μ9 h9 => ?_)
  obtain ⟨rfl, rfl⟩ := h9
  refine And.intro rfl ?_
  rw [tk_up_tw, tk_up_at, Int64.add_assoc]
  rfl
theorem k_rRing (ha : tk_tw a) (hE : tk_VE (tk_E σ a)) (hk : tk_kI (tk_E σ a) k) : tk_Fn M_X6_rateAsRing [.ref 1, .int k] (σ, tk_rho a b, τ, 62) (some (.int (σ (a + 2) k.toNatClampNeg + σ (a + 4) k.toNatClampNeg))) (σ, tk_rho a b, tk_up τ 1 11 (τ 1 11 + 100001), 62) := by
  have hin := tk_in_of hk.1 hk.2 hE.2.2.2.2.1.2 (by decide)
  refine tk_ct rfl rfl (Nat.le_of_ble_eq_true rfl) (fun l D cy => tk_run (hT_X6_rateAsRing none) [] 60 _ ?_)
  refine tk_cc (k_rKerb ha hE hk) (fun v9 μ9 h9 => ?_)
  obtain ⟨rfl, rfl⟩ := h9
  rcases ha with rfl | rfl <;>
  · refine tk_ift hin (And.intro rfl ?_)
    rw [tk_up_tw, tk_up_at, Int64.add_assoc]
    rfl
theorem k_cRate {kd : Int32} {N : Nat} (ha : tk_tw a) (hE : tk_VE (tk_E σ a)) (hN : N ≤ 5) (e : σ a 4 = nI N) : tk_Ct M_X6_rate [.ref 1, .int kd, .int k] (σ, tk_rho a b, τ, 62) (fun v μ' => v = some (.int (if (0 ≤ kd ∧ kd ≤ 5) ∧ (0 ≤ k ∧ k < σ a 3) then tk_rv kd k (tk_E σ a 0 k.toNatClampNeg) (tk_bc (tk_bits (fun t => σ (18 + t) 1 = 0 ∧ σ (18 + t) 0 = k) N)) (tk_lv' (tk_E σ a) (σ 16 0)) (tk_E σ a 2 k.toNatClampNeg) else -1000000)) ∧ μ' = (σ, tk_rho a b, (if (0 ≤ kd ∧ kd ≤ 5) ∧ (0 ≤ k ∧ k < σ a 3) then tk_up τ 1 11 (τ 1 11 + tk_rt kd) else τ), 62)) := by
  refine tk_ct rfl rfl (Nat.le_of_ble_eq_true rfl) (fun l D cy => tk_run (hT_X6_rate none) [] 60 _ ?_)
  refine tk_ift (tk_twok ha) ?_
  refine tk_cc (k_isKerb ha) (fun v9 μ9 h9 => ?_)
  obtain ⟨rfl, rfl⟩ := h9
  refine And.intro (fun h1 => ?_) (fun h1 => ?_)
  all_goals try dsimp only [tk_c0, tk_c1, tk_c2, tk_c3, tk_c4, tk_c5, tk_c6, tk_c7, tk_c8, tk_c9, tk_c10, tk_c11, tk_c12, tk_c13] at h1
  · have h1 := tk_b0.mp h1
    rw [if_neg (fun h => h1 h.2), if_neg (fun h => h1 h.2)]
    exact And.intro rfl rfl
  · have h1 : 0 ≤ k ∧ k < σ a 3 := Decidable.not_not.mp (fun h => h1 (tk_b0.mpr h))
    have go : ∀ n : Int32, kd = n → 0 ≤ n ∧ n ≤ 5 → (0 ≤ kd ∧ kd ≤ 5) ∧ (0 ≤ k ∧ k < σ a 3) := fun n hn h => ⟨by rw [hn]; exact h, h1⟩
    refine And.intro (fun c0 => ?_) (fun c0 => ?_)
    all_goals try dsimp only [tk_c0, tk_c1, tk_c2, tk_c3, tk_c4, tk_c5, tk_c6, tk_c7, tk_c8, tk_c9, tk_c10, tk_c11, tk_c12, tk_c13] at c0
    · rw [if_pos (go 0 c0 (by decide)), if_pos (go 0 c0 (by decide))]
      subst c0
      refine tk_cc (k_rKerb ha hE h1) (fun v9 μ9 h9 => ?_)
      obtain ⟨rfl, rfl⟩ := h9
      exact And.intro rfl rfl
    · refine And.intro (fun c1 => ?_) (fun c1 => ?_)
      all_goals try dsimp only [tk_c0, tk_c1, tk_c2, tk_c3, tk_c4, tk_c5, tk_c6, tk_c7, tk_c8, tk_c9, tk_c10, tk_c11, tk_c12, tk_c13] at c1
      · rw [if_pos (go 1 c1 (by decide)), if_pos (go 1 c1 (by decide))]
        subst c1
        refine tk_cc (k_rBank ha hE h1 hN e) (fun v9 μ9 h9 => ?_)
        obtain ⟨rfl, rfl⟩ := h9
        exact And.intro rfl rfl
      · refine And.intro (fun c2 => ?_) (fun c2 => ?_)
        all_goals try dsimp only [tk_c0, tk_c1, tk_c2, tk_c3, tk_c4, tk_c5, tk_c6, tk_c7, tk_c8, tk_c9, tk_c10, tk_c11, tk_c12, tk_c13] at c2
        · rw [if_pos (go 2 c2 (by decide)), if_pos (go 2 c2 (by decide))]
          subst c2
          refine tk_cc (k_rSteps ha hE h1) (fun v9 μ9 h9 => ?_)
          obtain ⟨rfl, rfl⟩ := h9
          exact And.intro rfl rfl
        · refine And.intro (fun c3 => ?_) (fun c3 => ?_)
          all_goals try dsimp only [tk_c0, tk_c1, tk_c2, tk_c3, tk_c4, tk_c5, tk_c6, tk_c7, tk_c8, tk_c9, tk_c10, tk_c11, tk_c12, tk_c13] at c3
          · rw [if_pos (go 3 c3 (by decide)), if_pos (go 3 c3 (by decide))]
            subst c3
            refine tk_cc (k_rChurch ha hE h1 hN e) (fun v9 μ9 h9 => ?_)
            obtain ⟨rfl, rfl⟩ := h9
            exact And.intro rfl rfl
          · refine And.intro (fun c4 => ?_) (fun c4 => ?_)
            all_goals try dsimp only [tk_c0, tk_c1, tk_c2, tk_c3, tk_c4, tk_c5, tk_c6, tk_c7, tk_c8, tk_c9, tk_c10, tk_c11, tk_c12, tk_c13] at c4
            · rw [if_pos (go 4 c4 (by decide)), if_pos (go 4 c4 (by decide))]
              subst c4
              refine tk_cc (k_rButcher ha hE h1) (fun v9 μ9 h9 => ?_)
              obtain ⟨rfl, rfl⟩ := h9
              exact And.intro rfl rfl
            · refine And.intro (fun c5 => ?_) (fun c5 => ?_)
              all_goals try dsimp only [tk_c0, tk_c1, tk_c2, tk_c3, tk_c4, tk_c5, tk_c6, tk_c7, tk_c8, tk_c9, tk_c10, tk_c11, tk_c12, tk_c13] at c5
              · rw [if_pos (go 5 c5 (by decide)), if_pos (go 5 c5 (by decide))]
                subst c5
                refine tk_cc (k_rRing ha hE h1) (fun v9 μ9 h9 => ?_)
                obtain ⟨rfl, rfl⟩ := h9
                exact And.intro rfl rfl
              · have hn : ¬ ((0 ≤ kd ∧ kd ≤ 5) ∧ (0 ≤ k ∧ k < σ a 3)) := fun h => by
                  obtain ⟨j, hj, rfl⟩ := nI_of2 (M := 5) (n := 5) rfl (Int32.not_lt.mpr h.1.1) h.1.2
                  match j, hj with
                  | 0, _ => exact c0 rfl
                  | 1, _ => exact c1 rfl
                  | 2, _ => exact c2 rfl
                  | 3, _ => exact c3 rfl
                  | 4, _ => exact c4 rfl
                  | 5, _ => exact c5 rfl
                rw [if_neg hn, if_neg hn]
                exact And.intro rfl rfl
theorem k_mRate {kd : Int32} {N : Nat} (hz : σ 47 0 = 0) (hE : tk_VE (tk_F σ)) (hN : N ≤ 5) (e : σ 49 1 = nI N) : tk_Ct M_X7_rate [.ref 47, .int kd, .int k] (σ, tk_rho a b, τ, 62) (fun v μ' => v = some (.int (if (0 ≤ kd ∧ kd ≤ 5) ∧ (0 ≤ k ∧ k < σ 49 0) then tk_rv kd k (tk_F σ 0 k.toNatClampNeg) (tk_pc (tk_bits (fun t => σ 55 (6 + t) = 0 ∧ σ 55 (1 + t) = k) N) 8) (tk_lv' (tk_F σ) (σ 55 0)) (tk_F σ 2 k.toNatClampNeg) else -1000000)) ∧ μ' = (σ, tk_rho a b, (if (0 ≤ kd ∧ kd ≤ 5) ∧ (0 ≤ k ∧ k < σ 49 0) then tk_up τ 47 1 (τ 47 1 + tk_rt kd) else τ), 62)) := by
  refine tk_ct rfl rfl (Nat.le_of_ble_eq_true rfl) (fun l D cy => tk_thr (hT_X7_rate none) rfl rfl rfl hz (tk_run (hT_X7_rate none) [] 160 _ ?_))
  refine tk_cc (k_in _ _ _ _) (fun v9 μ9 h9 => ?_)
  obtain ⟨rfl, rfl⟩ := h9
  refine And.intro (fun h1 => ?_) (fun h1 => ?_)
  all_goals try dsimp only [tk_c0, tk_c1, tk_c2, tk_c3, tk_c4, tk_c5, tk_c6, tk_c7, tk_c8, tk_c9, tk_c10, tk_c11, tk_c12, tk_c13] at h1
  · have h1 := tk_b0.mp h1
    rw [if_neg (fun h => h1 h.1), if_neg (fun h => h1 h.1)]
    exact And.intro rfl rfl
  · have h1 := Decidable.not_not.mp (fun h => h1 (tk_b0.mpr h))
    refine tk_cc (k_mKerb hE.2.2.2.2.1.1) (fun v9 μ9 h9 => ?_)
    obtain ⟨rfl, rfl⟩ := h9
    refine And.intro (fun h2 => ?_) (fun h2 => ?_)
    all_goals try dsimp only [tk_c0, tk_c1, tk_c2, tk_c3, tk_c4, tk_c5, tk_c6, tk_c7, tk_c8, tk_c9, tk_c10, tk_c11, tk_c12, tk_c13] at h2
    · have h2 := tk_b0.mp h2
      rw [if_neg (fun h => h2 h.2), if_neg (fun h => h2 h.2)]
      exact And.intro rfl rfl
    · have h2 := Decidable.not_not.mp (fun h => h2 (tk_b0.mpr h))
      have hin := tk_kI16 hE (k := k) h2
      have hin := tk_in_of hin.1 hin.2 (Int32.le_refl _) (by decide : 16 < 2 ^ 31)
      have hc : (0 ≤ kd ∧ kd ≤ 5) ∧ (0 ≤ k ∧ k < σ 49 0) := ⟨h1, h2⟩
      rw [if_pos hc, if_pos hc]
      refine tk_ift hin ?_
      refine tk_cc (k_thingsOn e hN) (fun v9 μ9 h9 => ?_)
      obtain ⟨rfl, rfl⟩ := h9
      refine tk_cc (k_ones) (fun v9 μ9 h9 => ?_)
      obtain ⟨rfl, rfl⟩ := h9
      refine tk_cc (k_mLev hE.1) (fun v9 μ9 h9 => ?_)
      obtain ⟨rfl, rfl⟩ := h9
      obtain ⟨j, hj, rfl⟩ := nI_of2 (M := 5) (n := 5) rfl (Int32.not_lt.mpr h1.1) h1.2
      match j, hj with
      | 0, _ =>
        refine And.intro (fun c0 => ?_) (fun c0 => ?_)
        all_goals try dsimp only [tk_c0, tk_c1, tk_c2, tk_c3, tk_c4, tk_c5, tk_c6, tk_c7, tk_c8, tk_c9, tk_c10, tk_c11, tk_c12, tk_c13] at c0
        · refine And.intro (fun d0 => ?_) (fun d0 => ?_)
          all_goals try dsimp only [tk_c0, tk_c1, tk_c2, tk_c3, tk_c4, tk_c5, tk_c6, tk_c7, tk_c8, tk_c9, tk_c10, tk_c11, tk_c12, tk_c13] at d0
          · exact And.intro rfl rfl
          · exact absurd rfl d0
        · exact absurd rfl c0
      | 1, _ =>
        refine And.intro (fun c0 => ?_) (fun c0 => ?_)
        all_goals try dsimp only [tk_c0, tk_c1, tk_c2, tk_c3, tk_c4, tk_c5, tk_c6, tk_c7, tk_c8, tk_c9, tk_c10, tk_c11, tk_c12, tk_c13] at c0
        · exact absurd c0 (by decide)
        · refine And.intro (fun c1 => ?_) (fun c1 => ?_)
          all_goals try dsimp only [tk_c0, tk_c1, tk_c2, tk_c3, tk_c4, tk_c5, tk_c6, tk_c7, tk_c8, tk_c9, tk_c10, tk_c11, tk_c12, tk_c13] at c1
          · refine And.intro (fun d0 => ?_) (fun d0 => ?_)
            all_goals try dsimp only [tk_c0, tk_c1, tk_c2, tk_c3, tk_c4, tk_c5, tk_c6, tk_c7, tk_c8, tk_c9, tk_c10, tk_c11, tk_c12, tk_c13] at d0
            · exact absurd d0 (by decide)
            · refine And.intro (fun d1 => ?_) (fun d1 => ?_)
              all_goals try dsimp only [tk_c0, tk_c1, tk_c2, tk_c3, tk_c4, tk_c5, tk_c6, tk_c7, tk_c8, tk_c9, tk_c10, tk_c11, tk_c12, tk_c13] at d1
              · exact And.intro rfl rfl
              · exact absurd rfl d1
          · exact absurd rfl c1
      | 2, _ =>
        refine And.intro (fun c0 => ?_) (fun c0 => ?_)
        all_goals try dsimp only [tk_c0, tk_c1, tk_c2, tk_c3, tk_c4, tk_c5, tk_c6, tk_c7, tk_c8, tk_c9, tk_c10, tk_c11, tk_c12, tk_c13] at c0
        · exact absurd c0 (by decide)
        · refine And.intro (fun c1 => ?_) (fun c1 => ?_)
          all_goals try dsimp only [tk_c0, tk_c1, tk_c2, tk_c3, tk_c4, tk_c5, tk_c6, tk_c7, tk_c8, tk_c9, tk_c10, tk_c11, tk_c12, tk_c13] at c1
          · exact absurd c1 (by decide)
          · refine And.intro (fun c2 => ?_) (fun c2 => ?_)
            all_goals try dsimp only [tk_c0, tk_c1, tk_c2, tk_c3, tk_c4, tk_c5, tk_c6, tk_c7, tk_c8, tk_c9, tk_c10, tk_c11, tk_c12, tk_c13] at c2
            · refine And.intro (fun d0 => ?_) (fun d0 => ?_)
              all_goals try dsimp only [tk_c0, tk_c1, tk_c2, tk_c3, tk_c4, tk_c5, tk_c6, tk_c7, tk_c8, tk_c9, tk_c10, tk_c11, tk_c12, tk_c13] at d0
              · exact absurd d0 (by decide)
              · refine And.intro (fun d1 => ?_) (fun d1 => ?_)
                all_goals try dsimp only [tk_c0, tk_c1, tk_c2, tk_c3, tk_c4, tk_c5, tk_c6, tk_c7, tk_c8, tk_c9, tk_c10, tk_c11, tk_c12, tk_c13] at d1
                · exact absurd d1 (by decide)
                · refine And.intro (fun d2 => ?_) (fun d2 => ?_)
                  all_goals try dsimp only [tk_c0, tk_c1, tk_c2, tk_c3, tk_c4, tk_c5, tk_c6, tk_c7, tk_c8, tk_c9, tk_c10, tk_c11, tk_c12, tk_c13] at d2
                  · exact And.intro rfl rfl
                  · exact absurd rfl d2
            · exact absurd rfl c2
      | 3, _ =>
        refine And.intro (fun c0 => ?_) (fun c0 => ?_)
        all_goals try dsimp only [tk_c0, tk_c1, tk_c2, tk_c3, tk_c4, tk_c5, tk_c6, tk_c7, tk_c8, tk_c9, tk_c10, tk_c11, tk_c12, tk_c13] at c0
        · exact absurd c0 (by decide)
        · refine And.intro (fun c1 => ?_) (fun c1 => ?_)
          all_goals try dsimp only [tk_c0, tk_c1, tk_c2, tk_c3, tk_c4, tk_c5, tk_c6, tk_c7, tk_c8, tk_c9, tk_c10, tk_c11, tk_c12, tk_c13] at c1
          · exact absurd c1 (by decide)
          · refine And.intro (fun c2 => ?_) (fun c2 => ?_)
            all_goals try dsimp only [tk_c0, tk_c1, tk_c2, tk_c3, tk_c4, tk_c5, tk_c6, tk_c7, tk_c8, tk_c9, tk_c10, tk_c11, tk_c12, tk_c13] at c2
            · exact absurd c2 (by decide)
            · refine And.intro (fun c3 => ?_) (fun c3 => ?_)
              all_goals try dsimp only [tk_c0, tk_c1, tk_c2, tk_c3, tk_c4, tk_c5, tk_c6, tk_c7, tk_c8, tk_c9, tk_c10, tk_c11, tk_c12, tk_c13] at c3
              · refine And.intro (fun d0 => ?_) (fun d0 => ?_)
                all_goals try dsimp only [tk_c0, tk_c1, tk_c2, tk_c3, tk_c4, tk_c5, tk_c6, tk_c7, tk_c8, tk_c9, tk_c10, tk_c11, tk_c12, tk_c13] at d0
                · exact absurd d0 (by decide)
                · refine And.intro (fun d1 => ?_) (fun d1 => ?_)
                  all_goals try dsimp only [tk_c0, tk_c1, tk_c2, tk_c3, tk_c4, tk_c5, tk_c6, tk_c7, tk_c8, tk_c9, tk_c10, tk_c11, tk_c12, tk_c13] at d1
                  · exact absurd d1 (by decide)
                  · refine And.intro (fun d2 => ?_) (fun d2 => ?_)
                    all_goals try dsimp only [tk_c0, tk_c1, tk_c2, tk_c3, tk_c4, tk_c5, tk_c6, tk_c7, tk_c8, tk_c9, tk_c10, tk_c11, tk_c12, tk_c13] at d2
                    · exact absurd d2 (by decide)
                    · refine And.intro (fun d3 => ?_) (fun d3 => ?_)
                      all_goals try dsimp only [tk_c0, tk_c1, tk_c2, tk_c3, tk_c4, tk_c5, tk_c6, tk_c7, tk_c8, tk_c9, tk_c10, tk_c11, tk_c12, tk_c13] at d3
                      · exact And.intro rfl rfl
                      · exact absurd rfl d3
              · exact absurd rfl c3
      | 4, _ =>
        refine And.intro (fun c0 => ?_) (fun c0 => ?_)
        all_goals try dsimp only [tk_c0, tk_c1, tk_c2, tk_c3, tk_c4, tk_c5, tk_c6, tk_c7, tk_c8, tk_c9, tk_c10, tk_c11, tk_c12, tk_c13] at c0
        · exact absurd c0 (by decide)
        · refine And.intro (fun c1 => ?_) (fun c1 => ?_)
          all_goals try dsimp only [tk_c0, tk_c1, tk_c2, tk_c3, tk_c4, tk_c5, tk_c6, tk_c7, tk_c8, tk_c9, tk_c10, tk_c11, tk_c12, tk_c13] at c1
          · exact absurd c1 (by decide)
          · refine And.intro (fun c2 => ?_) (fun c2 => ?_)
            all_goals try dsimp only [tk_c0, tk_c1, tk_c2, tk_c3, tk_c4, tk_c5, tk_c6, tk_c7, tk_c8, tk_c9, tk_c10, tk_c11, tk_c12, tk_c13] at c2
            · exact absurd c2 (by decide)
            · refine And.intro (fun c3 => ?_) (fun c3 => ?_)
              all_goals try dsimp only [tk_c0, tk_c1, tk_c2, tk_c3, tk_c4, tk_c5, tk_c6, tk_c7, tk_c8, tk_c9, tk_c10, tk_c11, tk_c12, tk_c13] at c3
              · exact absurd c3 (by decide)
              · refine And.intro (fun c4 => ?_) (fun c4 => ?_)
                all_goals try dsimp only [tk_c0, tk_c1, tk_c2, tk_c3, tk_c4, tk_c5, tk_c6, tk_c7, tk_c8, tk_c9, tk_c10, tk_c11, tk_c12, tk_c13] at c4
                · refine And.intro (fun d0 => ?_) (fun d0 => ?_)
                  all_goals try dsimp only [tk_c0, tk_c1, tk_c2, tk_c3, tk_c4, tk_c5, tk_c6, tk_c7, tk_c8, tk_c9, tk_c10, tk_c11, tk_c12, tk_c13] at d0
                  · exact absurd d0 (by decide)
                  · refine And.intro (fun d1 => ?_) (fun d1 => ?_)
                    all_goals try dsimp only [tk_c0, tk_c1, tk_c2, tk_c3, tk_c4, tk_c5, tk_c6, tk_c7, tk_c8, tk_c9, tk_c10, tk_c11, tk_c12, tk_c13] at d1
                    · exact absurd d1 (by decide)
                    · refine And.intro (fun d2 => ?_) (fun d2 => ?_)
                      all_goals try dsimp only [tk_c0, tk_c1, tk_c2, tk_c3, tk_c4, tk_c5, tk_c6, tk_c7, tk_c8, tk_c9, tk_c10, tk_c11, tk_c12, tk_c13] at d2
                      · exact absurd d2 (by decide)
                      · refine And.intro (fun d3 => ?_) (fun d3 => ?_)
                        all_goals try dsimp only [tk_c0, tk_c1, tk_c2, tk_c3, tk_c4, tk_c5, tk_c6, tk_c7, tk_c8, tk_c9, tk_c10, tk_c11, tk_c12, tk_c13] at d3
                        · exact absurd d3 (by decide)
                        · refine And.intro (fun d4 => ?_) (fun d4 => ?_)
                          all_goals try dsimp only [tk_c0, tk_c1, tk_c2, tk_c3, tk_c4, tk_c5, tk_c6, tk_c7, tk_c8, tk_c9, tk_c10, tk_c11, tk_c12, tk_c13] at d4
                          · exact And.intro rfl rfl
                          · exact absurd rfl d4
                · exact absurd rfl c4
      | 5, _ =>
        refine And.intro (fun c0 => ?_) (fun c0 => ?_)
        all_goals try dsimp only [tk_c0, tk_c1, tk_c2, tk_c3, tk_c4, tk_c5, tk_c6, tk_c7, tk_c8, tk_c9, tk_c10, tk_c11, tk_c12, tk_c13] at c0
        · exact absurd c0 (by decide)
        · refine And.intro (fun c1 => ?_) (fun c1 => ?_)
          all_goals try dsimp only [tk_c0, tk_c1, tk_c2, tk_c3, tk_c4, tk_c5, tk_c6, tk_c7, tk_c8, tk_c9, tk_c10, tk_c11, tk_c12, tk_c13] at c1
          · exact absurd c1 (by decide)
          · refine And.intro (fun c2 => ?_) (fun c2 => ?_)
            all_goals try dsimp only [tk_c0, tk_c1, tk_c2, tk_c3, tk_c4, tk_c5, tk_c6, tk_c7, tk_c8, tk_c9, tk_c10, tk_c11, tk_c12, tk_c13] at c2
            · exact absurd c2 (by decide)
            · refine And.intro (fun c3 => ?_) (fun c3 => ?_)
              all_goals try dsimp only [tk_c0, tk_c1, tk_c2, tk_c3, tk_c4, tk_c5, tk_c6, tk_c7, tk_c8, tk_c9, tk_c10, tk_c11, tk_c12, tk_c13] at c3
              · exact absurd c3 (by decide)
              · refine And.intro (fun c4 => ?_) (fun c4 => ?_)
                all_goals try dsimp only [tk_c0, tk_c1, tk_c2, tk_c3, tk_c4, tk_c5, tk_c6, tk_c7, tk_c8, tk_c9, tk_c10, tk_c11, tk_c12, tk_c13] at c4
                · exact absurd c4 (by decide)
                · refine And.intro (fun d0 => ?_) (fun d0 => ?_)
                  all_goals try dsimp only [tk_c0, tk_c1, tk_c2, tk_c3, tk_c4, tk_c5, tk_c6, tk_c7, tk_c8, tk_c9, tk_c10, tk_c11, tk_c12, tk_c13] at d0
                  · exact absurd d0 (by decide)
                  · refine And.intro (fun d1 => ?_) (fun d1 => ?_)
                    all_goals try dsimp only [tk_c0, tk_c1, tk_c2, tk_c3, tk_c4, tk_c5, tk_c6, tk_c7, tk_c8, tk_c9, tk_c10, tk_c11, tk_c12, tk_c13] at d1
                    · exact absurd d1 (by decide)
                    · refine And.intro (fun d2 => ?_) (fun d2 => ?_)
                      all_goals try dsimp only [tk_c0, tk_c1, tk_c2, tk_c3, tk_c4, tk_c5, tk_c6, tk_c7, tk_c8, tk_c9, tk_c10, tk_c11, tk_c12, tk_c13] at d2
                      · exact absurd d2 (by decide)
                      · refine And.intro (fun d3 => ?_) (fun d3 => ?_)
                        all_goals try dsimp only [tk_c0, tk_c1, tk_c2, tk_c3, tk_c4, tk_c5, tk_c6, tk_c7, tk_c8, tk_c9, tk_c10, tk_c11, tk_c12, tk_c13] at d3
                        · exact absurd d3 (by decide)
                        · refine And.intro (fun d4 => ?_) (fun d4 => ?_)
                          all_goals try dsimp only [tk_c0, tk_c1, tk_c2, tk_c3, tk_c4, tk_c5, tk_c6, tk_c7, tk_c8, tk_c9, tk_c10, tk_c11, tk_c12, tk_c13] at d4
                          · exact absurd d4 (by decide)
                          · exact tk_ift hin (And.intro rfl rfl)
end
