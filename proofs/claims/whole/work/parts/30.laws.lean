/-! laws and rate, of both sides -/
def tk_il' (M : Int32) (fi fl : Nat → Int32) (m : Nat) (st off : Int32) : Prop := ∀ e, e < m → tk_rem (st * fi e + off) M = fl e
def tk_l1 (c : Nat → Prop) (hc : DecidablePred c) (st : Nat) : Nat → Nat × Int32 → Nat × Int32
  | 0, s => s
  | n + 1, s => if c n then ((tk_l1 c hc st n s).1 + 1, if (tk_l1 c hc st n s).1 = 0 then 100 * nI st + nI n else (tk_l1 c hc st n s).2) else tk_l1 c hc st n s
def tk_l2 (c : Nat → Nat → Prop) (hc : ∀ i, DecidablePred (c i)) (M : Nat) : Nat → Nat × Int32
  | 0 => (0, -9)
  | n + 1 => tk_l1 (c n) (hc n) n M (tk_l2 c hc M n)
/-- how many, and the first: none if none -/
def tk_lI (r : Nat × Int32) (b : Nat) : Prop := r.1 ≤ b ∧ ((r.1 = 0 ∧ r.2 = -9) ∨ (¬ r.1 = 0 ∧ ¬ r.2 = -9))
theorem tk_l1_I {c : Nat → Prop} {hc : DecidablePred c} {st b : Nat} (hst : st ≤ 20) {s : Nat × Int32} (h : tk_lI s b) : ∀ n : Nat, n ≤ 20 → tk_lI (tk_l1 c hc st n s) (b + n)
  | 0, _ => h
  | n + 1, hn => by
    have ih := tk_l1_I (c := c) (hc := hc) hst h n (by omega)
    rw [tk_l1]
    split
    · refine ⟨by have := ih.1; show _ + 1 ≤ _; omega, Or.inr ⟨Nat.succ_ne_zero _, ?_⟩⟩
      dsimp only
      split
      · have e : (100 : Int32) * nI st + nI n = nI (100 * st + n) := by
          rw [show (100 : Int32) = nI 100 from rfl, pk_mul, nI_add]
        rw [e]
        intro q
        have h1 := nI_pos' (n := 100 * st + n) (by omega)
        rw [q] at h1
        exact absurd h1 (by decide)
      · rename_i h0
        rcases ih.2 with h1 | h1
        · exact absurd h1.1 h0
        · exact h1.2
    · exact ⟨by have := ih.1; omega, ih.2⟩
theorem tk_l2_I {c : Nat → Nat → Prop} {hc : ∀ i, DecidablePred (c i)} {M : Nat} (hM : M ≤ 20) : ∀ n : Nat, n ≤ 20 → tk_lI (tk_l2 c hc M n) (n * M)
  | 0, _ => ⟨Nat.zero_le _, Or.inl ⟨rfl, rfl⟩⟩
  | n + 1, hn => by
    have ih := tk_l2_I (c := c) (hc := hc) hM n (by omega)
    rw [tk_l2, Nat.succ_mul]
    exact tk_l1_I (by omega) ih M hM
def tk_pc (x : Int32) : Nat → Int32
  | 0 => 0
  | n + 1 => tk_pc x n + ((x >>> (nI n &&& 31)) &&& 1)
def tk_bc0 (x : Int32) : Int32 := x - (((x.toUInt32 >>> ((1 : Int32).toUInt32 &&& Int32.toUInt32 31)).toInt32) &&& 1431655765)
def tk_bc1 (x : Int32) : Int32 := (x &&& 858993459) + (((x.toUInt32 >>> ((2 : Int32).toUInt32 &&& Int32.toUInt32 31)).toInt32) &&& 858993459)
def tk_bc2 (x : Int32) : Int32 := (x + ((x.toUInt32 >>> ((4 : Int32).toUInt32 &&& Int32.toUInt32 31)).toInt32)) &&& 252645135
def tk_bc3 (x : Int32) : Int32 := x + ((x.toUInt32 >>> ((8 : Int32).toUInt32 &&& Int32.toUInt32 31)).toInt32)
def tk_bc4 (x : Int32) : Int32 := x + ((x.toUInt32 >>> ((16 : Int32).toUInt32 &&& Int32.toUInt32 31)).toInt32)
def tk_bc (x : Int32) : Int32 := tk_bc4 (tk_bc3 (tk_bc2 (tk_bc1 (tk_bc0 x)))) &&& 63
theorem tk_bcpc : ∀ n, n < 32 → tk_bc (nI n) = tk_pc (nI n) 8 := by decide +kernel
theorem tk_bits_lt (c : Nat → Prop) [DecidablePred c] : ∀ N : Nat, N ≤ 5 → ∃ n, n < 2 ^ N ∧ tk_bits c N = nI n
  | 0, _ => ⟨0, by decide, rfl⟩
  | N + 1, h => by
    obtain ⟨n, hn, e⟩ := tk_bits_lt c N (by omega)
    have key : ∀ N : Nat, N < 5 → ∀ n : Nat, n < 2 ^ N → nI n ||| ((1 : Int32) <<< (nI N &&& 31)) = nI (n + 2 ^ N) := by decide +kernel
    rw [tk_bits]
    split
    · exact ⟨n + 2 ^ N, by rw [Nat.pow_succ]; omega, by rw [e, key N (by omega) n hn]⟩
    · exact ⟨n, by rw [Nat.pow_succ]; omega, e⟩
section
variable {t k w : Int32} {σ : Nat → Nat → Int32} {a b : Nat} {τ : Nat → Nat → Int64}
theorem k_isLaw {st off : Int32} {m : Nat} (ha : tk_tw a) (hE : tk_VE (tk_E σ a)) (hm : m ≤ 6) (em : σ 42 2 = nI m) :
    tk_Ct M_X6_isLaw [.ref 1, .int st, .int off] (σ, tk_rho a b, τ, 62) (fun v μ' => ((v = some (.int 1) ∧ tk_il' (σ a 0) (σ 43) (σ 44) m st off) ∨ (v = some (.int 0) ∧ ¬ tk_il' (σ a 0) (σ 43) (σ 44) m st off)) ∧ μ' = (σ, tk_rho a b, τ, 62)) := by
  have loop : ∀ (l : Launch) (D : va_G) (cy : Nat → ClassId) (n j : Nat) (i : Int32), i = nI j → j + n = m → (∀ e, e < j → tk_rem (st * σ 43 e + off) (σ a 0) = σ 44 e) →
      tk_J l D cy none M_X6_isLaw (2, [some (.ref 1), some (.int st), some (.int off), some (.int i)], [], (σ, tk_rho a b, τ, 62), 0, 0) (fun v μ' => ((v = some (.int 1) ∧ tk_il' (σ a 0) (σ 43) (σ 44) m st off) ∨ (v = some (.int 0) ∧ ¬ tk_il' (σ a 0) (σ 43) (σ 44) m st off)) ∧ μ' = (σ, tk_rho a b, τ, 62)) := by
    intro l D cy n
    induction n with
    | zero =>
      intro j i hi hj hok
      subst hi
      refine tk_run (hT_X6_isLaw none) [2] 60 _ ?_
      refine And.intro (fun h1 => ?_) (fun h1 => ?_)
      all_goals try dsimp only [tk_c0, tk_c1, tk_c2, tk_c3, tk_c4, tk_c5, tk_c6, tk_c7, tk_c8, tk_c9, tk_c10, tk_c11, tk_c12, tk_c13] at h1
      · exact And.intro (Or.inr rfl) (And.intro (Or.inl ⟨rfl, fun e he => hok e (by omega)⟩) rfl)
      · exact absurd (by rw [em]; exact nI_le (by omega) (by omega)) h1
    | succ n ih =>
      intro j i hi hj hok
      subst hi
      refine tk_run (hT_X6_isLaw none) [2] 60 _ ?_
      refine And.intro (fun h1 => ?_) (fun h1 => ?_)
      all_goals try dsimp only [tk_c0, tk_c1, tk_c2, tk_c3, tk_c4, tk_c5, tk_c6, tk_c7, tk_c8, tk_c9, tk_c10, tk_c11, tk_c12, tk_c13] at h1
      · exact absurd h1 (by rw [em]; exact nI_ge (by omega) (by omega))
      · refine tk_ift (tk_in_nI (n := 6) (by omega) (by decide)) ?_
        refine tk_ift (tk_twok ha) ?_
        refine tk_cc (k_leftOver ha hE.1) (fun v9 μ9 h9 => ?_)
        obtain ⟨rfl, rfl⟩ := h9
        refine tk_ift (tk_in_nI (n := 6) (by omega) (by decide)) ?_
        rw [nI_clamp (by omega)]
        refine And.intro (fun h2 => ?_) (fun h2 => ?_)
        all_goals try dsimp only [tk_c0, tk_c1, tk_c2, tk_c3, tk_c4, tk_c5, tk_c6, tk_c7, tk_c8, tk_c9, tk_c10, tk_c11, tk_c12, tk_c13] at h2
        · refine ih (j + 1) _ (nI_1 j) (by omega) (fun e he => ?_)
          rcases Nat.lt_or_ge e j with h | h
          · exact hok e h
          · have : e = j := by omega
            subst this
            exact h2
        · exact And.intro (Or.inl rfl) (And.intro (Or.inr ⟨rfl, fun h => h2 (h j (by omega))⟩) rfl)
  refine tk_ct rfl rfl (Nat.le_of_ble_eq_true rfl) (fun l D cy => tk_run (hT_X6_isLaw none) [2] 60 _ ?_)
  exact loop l D cy m 0 _ rfl (by omega) (fun e he => absurd he (Nat.not_lt_zero e))
theorem k_cLaws {m : Nat} (ha : tk_tw a) (hE : tk_VE (tk_E σ a)) (hm : m ≤ 6) (em : σ 42 2 = nI m) (hdp : ∀ i, DecidablePred (fun o : Nat => tk_il' (σ a 0) (σ 43) (σ 44) m (nI i) (nI o))) :
    tk_Ct M_X6_laws [.ref 1, .int w] (σ, tk_rho a b, τ, 62) (fun v μ' => v = some (.int (if 0 ≤ w ∧ w ≤ 1 then (if w = 0 then nI (tk_l2 _ hdp (σ a 0).toNatClampNeg (σ a 0).toNatClampNeg).1 else (tk_l2 _ hdp (σ a 0).toNatClampNeg (σ a 0).toNatClampNeg).2) else -1)) ∧ μ' = (σ, tk_rho a b, τ, 62)) := by
  obtain ⟨N, hN, e⟩ := tk_nI_of (n := 20) ⟨Int32.le_trans (by decide) hE.1, hE.2.1⟩ (by decide)
  have e : σ a 0 = nI N := e
  have e9 : (σ a 0).toNatClampNeg = N := by rw [e, nI_clamp (by omega)]
  rw [e9]
  refine tk_ct rfl rfl (Nat.le_of_ble_eq_true rfl) (fun l D cy => tk_run (hT_X6_laws none) [19] 60 _ ?_)
  refine tk_cc (k_isWithin _ _ _ _) (fun v9 μ9 h9 => ?_)
  obtain ⟨rfl, rfl⟩ := h9
  refine And.intro (fun h1 => ?_) (fun h1 => ?_)
  all_goals try dsimp only [tk_c0, tk_c1, tk_c2, tk_c3, tk_c4, tk_c5, tk_c6, tk_c7, tk_c8, tk_c9, tk_c10, tk_c11, tk_c12, tk_c13] at h1
  · refine And.intro ?_ rfl
    rw [if_neg (tk_b0.mp h1)]
  · have h1 := Decidable.not_not.mp (fun h => h1 (tk_b0.mpr h))
    rw [if_pos h1]
    have outer : ∀ (n j : Nat) (i : Int32) (x5 : Option Value), i = nI j → j + n = N →
        tk_J l D cy none M_X6_laws (19, [some (.ref 1), some (.int w), some (.int (nI (tk_l2 _ hdp N j).1)), some (.int (tk_l2 _ hdp N j).2), some (.int i), x5], [], (σ, tk_rho a b, τ, 62), 0, 0) (fun v μ' => v = some (.int (if w = 0 then nI (tk_l2 _ hdp N N).1 else (tk_l2 _ hdp N N).2)) ∧ μ' = (σ, tk_rho a b, τ, 62)) := by
      intro n
      induction n with
      | zero =>
        intro j i x5 hi hj
        subst hi
        have hjN : j = N := by omega
        subst hjN
        refine tk_run (hT_X6_laws none) [19] 60 _ ?_
        refine tk_ift (tk_twok ha) ?_
        refine And.intro (fun h2 => ?_) (fun h2 => ?_)
        all_goals try dsimp only [tk_c0, tk_c1, tk_c2, tk_c3, tk_c4, tk_c5, tk_c6, tk_c7, tk_c8, tk_c9, tk_c10, tk_c11, tk_c12, tk_c13] at h2
        · refine And.intro (fun h3 => ?_) (fun h3 => ?_)
          all_goals try dsimp only [tk_c0, tk_c1, tk_c2, tk_c3, tk_c4, tk_c5, tk_c6, tk_c7, tk_c8, tk_c9, tk_c10, tk_c11, tk_c12, tk_c13] at h3
          · rw [if_pos h3]
            exact And.intro rfl rfl
          · rw [if_neg h3]
            exact And.intro rfl rfl
        · exact absurd (by rw [e]; exact Int32.le_refl _) h2
      | succ n ih =>
        intro j i x5 hi hj
        subst hi
        have hI := tk_l2_I (c := _) (hc := hdp) hN j (by omega)
        have inner : ∀ (n2 i : Nat) (x : Int32), x = nI i → i + n2 = N →
            tk_J l D cy none M_X6_laws (34, [some (.ref 1), some (.int w), some (.int (nI (tk_l1 _ (hdp j) j i (tk_l2 _ hdp N j)).1)), some (.int (tk_l1 _ (hdp j) j i (tk_l2 _ hdp N j)).2), some (.int (nI j)), some (.int x)], [], (σ, tk_rho a b, τ, 62), 0, 0) (fun v μ' => v = some (.int (if w = 0 then nI (tk_l2 _ hdp N N).1 else (tk_l2 _ hdp N N).2)) ∧ μ' = (σ, tk_rho a b, τ, 62)) := by
          intro n2
          induction n2 with
          | zero =>
            intro i x hx him
            subst hx
            have hiN : i = N := by omega
            subst hiN
            have h9 := ih (j + 1) _ (some (.int (nI i))) (nI_1 j) (by omega)
            refine tk_run (hT_X6_laws none) [19] 60 _ ?_
            refine tk_ift (tk_twok ha) ?_
            refine And.intro (fun h2 => ?_) (fun h2 => ?_)
            all_goals try dsimp only [tk_c0, tk_c1, tk_c2, tk_c3, tk_c4, tk_c5, tk_c6, tk_c7, tk_c8, tk_c9, tk_c10, tk_c11, tk_c12, tk_c13] at h2
            · exact h9
            · exact absurd (by rw [e]; exact Int32.le_refl _) h2
          | succ n2 ih2 =>
            intro i x hx him
            subst hx
            have h9 := ih2 (i + 1) _ (nI_1 i) (by omega)
            have hI2 := tk_l1_I (c := fun o : Nat => tk_il' (σ a 0) (σ 43) (σ 44) m (nI j) (nI o)) (hc := hdp j) (st := j) (by omega) hI i (by omega)
            refine tk_run (hT_X6_laws none) [34] 60 _ ?_
            refine tk_ift (tk_twok ha) ?_
            refine And.intro (fun h2 => ?_) (fun h2 => ?_)
            all_goals try dsimp only [tk_c0, tk_c1, tk_c2, tk_c3, tk_c4, tk_c5, tk_c6, tk_c7, tk_c8, tk_c9, tk_c10, tk_c11, tk_c12, tk_c13] at h2
            · exact absurd h2 (by rw [e]; exact nI_ge (by omega) (by omega))
            · refine tk_cc (k_isLaw ha hE hm em) (fun v9 μ9 hh => ?_)
              obtain ⟨⟨rfl, hc⟩ | ⟨rfl, hc⟩, rfl⟩ := hh
              · rw [tk_l1, if_pos hc] at h9
                dsimp only at h9
                rw [← nI_1] at h9
                refine And.intro (fun h3 => ?_) (fun h3 => ?_)
                all_goals try dsimp only [tk_c0, tk_c1, tk_c2, tk_c3, tk_c4, tk_c5, tk_c6, tk_c7, tk_c8, tk_c9, tk_c10, tk_c11, tk_c12, tk_c13] at h3
                · exact absurd h3 (by decide)
                · refine And.intro (fun h4 => ?_) (fun h4 => ?_)
                  all_goals try dsimp only [tk_c0, tk_c1, tk_c2, tk_c3, tk_c4, tk_c5, tk_c6, tk_c7, tk_c8, tk_c9, tk_c10, tk_c11, tk_c12, tk_c13] at h4
                  · have h5 : (tk_l1 _ (hdp j) j i (tk_l2 _ hdp N j)).1 = 0 := by
                      rcases hI2.2 with q | q
                      · exact q.1
                      · exact absurd h4 q.2
                    rw [if_pos h5] at h9
                    exact h9
                  · have h5 : ¬ (tk_l1 _ (hdp j) j i (tk_l2 _ hdp N j)).1 = 0 := by
                      rcases hI2.2 with q | q
                      · exact absurd q.2 h4
                      · exact q.1
                    rw [if_neg h5] at h9
                    exact h9
              · rw [tk_l1, if_neg hc] at h9
                refine And.intro (fun h3 => ?_) (fun h3 => ?_)
                all_goals try dsimp only [tk_c0, tk_c1, tk_c2, tk_c3, tk_c4, tk_c5, tk_c6, tk_c7, tk_c8, tk_c9, tk_c10, tk_c11, tk_c12, tk_c13] at h3
                · exact h9
                · exact absurd rfl h3
        refine tk_run (hT_X6_laws none) [34] 60 _ ?_
        refine tk_ift (tk_twok ha) ?_
        refine And.intro (fun h2 => ?_) (fun h2 => ?_)
        all_goals try dsimp only [tk_c0, tk_c1, tk_c2, tk_c3, tk_c4, tk_c5, tk_c6, tk_c7, tk_c8, tk_c9, tk_c10, tk_c11, tk_c12, tk_c13] at h2
        · exact absurd h2 (by rw [e]; exact nI_ge (by omega) (by omega))
        · exact inner N 0 _ rfl (by omega)
    exact outer N 0 _ _ rfl (by omega)
end
