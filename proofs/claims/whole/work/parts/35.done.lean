/-! what is done, of the class -/
/-- behind saving: the row X holds how it stood; the ring has gone on -/
def tk_Sv (σ σ' : Nat → Nat → Int32) (X K : Nat) : Prop := (∀ i, i < 17 → σ' (25 + X) i = tk_NV σ i) ∧ σ' 23 2 = nI ((X + 1) % 10) ∧ σ' 23 1 = nI (if K = 10 then 10 else K + 1) ∧ ∀ x y, x ≠ 23 → x ≠ 25 + X → σ' x y = σ x y
theorem tk_NV_congr {σ σ' : Nat → Nat → Int32} (h : ∀ x y, (x = 16 ∨ (18 ≤ x ∧ x ≤ 22)) → σ' x y = σ x y) (i : Nat) (hi : i < 17) : tk_NV σ' i = tk_NV σ i := by
  unfold tk_NV
  rw [h 16 0 (Or.inl rfl), h 16 1 (Or.inl rfl), h _ _ (Or.inr ⟨by omega, by omega⟩)]
theorem tk_Sv_of {σ σ' : Nat → Nat → Int32} {X K : Nat} (hX : X < 10) (hv : ∀ i, i < 17 → σ' (25 + X) i = tk_NV (tk_up (tk_up σ 23 2 (nI ((X + 1) % 10))) 23 1 (nI (if K = 10 then 10 else K + 1))) i) (hf : ∀ x y, x ≠ 25 + X → σ' x y = tk_up (tk_up σ 23 2 (nI ((X + 1) % 10))) 23 1 (nI (if K = 10 then 10 else K + 1)) x y) : tk_Sv σ σ' X K := by
  refine ⟨fun i hi => ?_, ?_, ?_, fun x y hx hx2 => ?_⟩
  · rw [hv i hi]
    refine tk_NV_congr (fun x y hx => ?_) i hi
    rw [tk_up_p _ _ _ (by omega), tk_up_p _ _ _ (by omega)]
  · rw [hf _ _ (by omega), tk_up_k _ _ _ (by decide), tk_up_at]
  · rw [hf _ _ (by omega), tk_up_at]
  · rw [hf x y hx2, tk_up_p _ _ _ hx, tk_up_p _ _ _ hx]
theorem tk_rpX {X : Nat} (hX : X < 10) : tk_rp (25 + X) := ⟨by omega, by omega, by omega⟩
theorem tk_thE {σ σ' : Nat → Nat → Int32} {a : Nat} (ha : tk_tw a) (h : ∀ x y, x < 16 → σ' x y = σ x y) : tk_E σ' a = tk_E σ a := by
  funext i k
  unfold tk_E
  rcases ha with rfl | rfl <;> split <;> exact h _ _ (by decide)
section
variable {t k u n : Int32} {σ : Nat → Nat → Int32} {a b : Nat} {τ : Nat → Nat → Int64}
theorem k_cTides {N d X K T : Nat} (ha : tk_tw a) (hE : tk_VE (tk_E σ a)) (hN : N ≤ 5) (e : σ a 4 = nI N) (hT : tk_CT a σ) (h01 : ∀ j, j < 5 → σ (18 + j) 2 = 0 ∨ σ (18 + j) 2 = 1) (hd : d ≤ 99999) (ed : σ 16 1 = nI d) (hX : X < 10) (eX : σ 23 2 = nI X) (hK : K ≤ 10) (eK : σ 23 1 = nI K) (hTd : T ≤ 9999) (eT : σ 16 0 = nI T) :
    tk_Ct M_X6_tides [.ref 1, .int n] (σ, tk_rho a b, τ, 62) (fun v μ' => ∃ σ', μ' = (σ', tk_rho a b, τ, 62) ∧
      ((¬ (1 ≤ n ∧ n ≤ 99) ∧ v = some (.int (-1)) ∧ σ' = σ) ∨ ((1 ≤ n ∧ n ≤ 99) ∧ 9999 < T + n.toNatClampNeg ∧ v = some (.int (-2)) ∧ σ' = σ) ∨
       ((1 ≤ n ∧ n ≤ 99) ∧ T + n.toNatClampNeg ≤ 9999 ∧ v = some (.int (nI (tk_dt (tk_E σ a) (σ 16 0) (fun i => σ (18 + i) 2) (fun i => (σ (18 + i) 0, σ (18 + i) 1)) N n.toNatClampNeg))) ∧
        ∃ σ2, tk_Sv σ σ2 X K ∧ σ' 16 0 = nI (T + n.toNatClampNeg) ∧ σ' 16 1 = nI (min (d + tk_dt (tk_E σ a) (σ 16 0) (fun i => σ (18 + i) 2) (fun i => (σ (18 + i) 0, σ (18 + i) 1)) N n.toNatClampNeg) 99999) ∧
        (∀ i, i < N → (σ' (18 + i) 0, σ' (18 + i) 1) = tk_iT (tk_E σ a) (σ 16 0) (σ (18 + i) 2) n.toNatClampNeg (σ (18 + i) 0, σ (18 + i) 1)) ∧ (∀ i, i < 5 → σ' (18 + i) 2 = σ (18 + i) 2) ∧ ∀ x y, x ≠ 16 → ¬ (18 ≤ x ∧ x ≤ 22) → σ' x y = σ2 x y))) := by
  refine tk_ct rfl rfl (Nat.le_of_ble_eq_true rfl) (fun l D cy => tk_run (hT_X6_tides none) [48] 60 _ ?_)
  refine tk_cc (k_isWithin _ _ _ _) (fun v9 μ9 h9 => ?_)
  obtain ⟨rfl, rfl⟩ := h9
  refine And.intro (fun h1 => ?_) (fun h1 => ?_)
  all_goals try dsimp only [tk_c0, tk_c1, tk_c2, tk_c3, tk_c4, tk_c5, tk_c6, tk_c7, tk_c8, tk_c9, tk_c10, tk_c11, tk_c12, tk_c13] at h1
  · exact ⟨σ, rfl, Or.inl ⟨tk_b0.mp h1, rfl, rfl⟩⟩
  · have h1 := Decidable.not_not.mp (fun h => h1 (tk_b0.mpr h))
    obtain ⟨m, hm, rfl⟩ := nI_of2 (M := 99) (n := 99) rfl (Int32.not_lt.mpr (Int32.le_trans (by decide) h1.1)) h1.2
    rw [nI_clamp (by omega)]
    refine And.intro (fun h2 => ?_) (fun h2 => ?_)
    all_goals try dsimp only [tk_c0, tk_c1, tk_c2, tk_c3, tk_c4, tk_c5, tk_c6, tk_c7, tk_c8, tk_c9, tk_c10, tk_c11, tk_c12, tk_c13] at h2
    · rw [eT, nI_add] at h2
      have hle : T + m ≤ 9999 := Nat.le_of_not_lt (fun h => absurd h2 (nI_ge (a := 9999) h (by omega)))
      refine tk_cc (k_nextRow hX eX hK eK) (fun v9 μ9 h9 => ?_)
      obtain ⟨rfl, rfl⟩ := h9
      refine tk_cc (k_saveTo (tk_rpX hX) (fun j hj => by rw [tk_up_p _ _ _ (by omega), tk_up_p _ _ _ (by omega)]; exact h01 j hj)) (fun v9 μ9 h9 => ?_)
      obtain ⟨rfl, σ2, rfl, hv, hf⟩ := h9
      have hS := tk_Sv_of hX hv hf
      have hfr : ∀ x y, x ≠ 23 → x ≠ 25 + X → σ2 x y = σ x y := hS.2.2.2
      have hE2 : tk_E σ2 a = tk_E σ a := tk_thE ha (fun x y hx => hfr x y (by omega) (by omega))
      have loop : ∀ (n j : Nat) (i c : Int32) (σi : Nat → Nat → Int32), i = nI j → c = nI (tk_dt (tk_E σ a) (σ 16 0) (fun i => σ (18 + i) 2) (fun i => (σ (18 + i) 0, σ (18 + i) 1)) N j) → j + n = m → σi 16 0 = nI (T + j) → σi 16 1 = nI (min (d + tk_dt (tk_E σ a) (σ 16 0) (fun i => σ (18 + i) 2) (fun i => (σ (18 + i) 0, σ (18 + i) 1)) N j) 99999) →
          (∀ i, i < N → (σi (18 + i) 0, σi (18 + i) 1) = tk_iT (tk_E σ a) (σ 16 0) (σ (18 + i) 2) j (σ (18 + i) 0, σ (18 + i) 1)) → (∀ i, i < 5 → σi (18 + i) 2 = σ (18 + i) 2) → (∀ x y, x ≠ 16 → ¬ (18 ≤ x ∧ x ≤ 22) → σi x y = σ2 x y) →
          tk_J l D cy none M_X6_tides (48, [some (.ref 1), some (.int (nI m)), some (.int c), some (.int i)], [], (σi, tk_rho a b, τ, 62), 0, 0) (fun v μ' => ∃ σ', μ' = (σ', tk_rho a b, τ, 62) ∧
            ((¬ (1 ≤ nI m ∧ nI m ≤ 99) ∧ v = some (.int (-1)) ∧ σ' = σ) ∨ ((1 ≤ nI m ∧ nI m ≤ 99) ∧ 9999 < T + m ∧ v = some (.int (-2)) ∧ σ' = σ) ∨
             ((1 ≤ nI m ∧ nI m ≤ 99) ∧ T + m ≤ 9999 ∧ v = some (.int (nI (tk_dt (tk_E σ a) (σ 16 0) (fun i => σ (18 + i) 2) (fun i => (σ (18 + i) 0, σ (18 + i) 1)) N m))) ∧
              ∃ σ2, tk_Sv σ σ2 X K ∧ σ' 16 0 = nI (T + m) ∧ σ' 16 1 = nI (min (d + tk_dt (tk_E σ a) (σ 16 0) (fun i => σ (18 + i) 2) (fun i => (σ (18 + i) 0, σ (18 + i) 1)) N m) 99999) ∧
              (∀ i, i < N → (σ' (18 + i) 0, σ' (18 + i) 1) = tk_iT (tk_E σ a) (σ 16 0) (σ (18 + i) 2) m (σ (18 + i) 0, σ (18 + i) 1)) ∧ (∀ i, i < 5 → σ' (18 + i) 2 = σ (18 + i) 2) ∧ ∀ x y, x ≠ 16 → ¬ (18 ≤ x ∧ x ≤ 22) → σ' x y = σ2 x y))) := by
        intro n
        induction n with
        | zero =>
          intro j i c σi hi hc hj q0 q1 q2 q3 q4
          subst hi
          subst hc
          have hjm : j = m := by omega
          subst hjm
          refine tk_run (hT_X6_tides none) [48] 60 _ ?_
          refine And.intro (fun h3 => ?_) (fun h3 => ?_)
          all_goals try dsimp only [tk_c0, tk_c1, tk_c2, tk_c3, tk_c4, tk_c5, tk_c6, tk_c7, tk_c8, tk_c9, tk_c10, tk_c11, tk_c12, tk_c13] at h3
          · exact ⟨σi, rfl, Or.inr (Or.inr ⟨h1, hle, rfl, σ2, hS, q0, q1, q2, q3, q4⟩)⟩
          · exact absurd (Int32.le_refl _) h3
        | succ n ih =>
          intro j i c σi hi hc hj q0 q1 q2 q3 q4
          subst hi
          subst hc
          have hEi : tk_E σi a = tk_E σ a := (tk_thE ha (fun x y hx => q4 x y (by omega) (by omega))).trans hE2
          have e4 : σi a 4 = nI N := (congrFun (congrFun hEi 3) 4).trans e
          have hTi : tk_CT a σi := fun i hi hlt => by
            rw [e4] at hlt
            have hiN : i < N := (nI_ltI (by omega) (by omega)).mp hlt
            have hs := hT i hi (by rw [e]; exact hlt)
            rw [hEi, q2 i hiN, q3 i hi]
            exact ⟨tk_iT_V hE hs.1 j, tk_iT_T hs.2 j⟩
          have htot := tk_dt_le (E := tk_E σ a) (t := σ 16 0) (d := fun i => σ (18 + i) 2) (s := fun i => (σ (18 + i) 0, σ (18 + i) 1)) hN j
          refine tk_run (hT_X6_tides none) [48] 60 _ ?_
          refine And.intro (fun h3 => ?_) (fun h3 => ?_)
          all_goals try dsimp only [tk_c0, tk_c1, tk_c2, tk_c3, tk_c4, tk_c5, tk_c6, tk_c7, tk_c8, tk_c9, tk_c10, tk_c11, tk_c12, tk_c13] at h3
          · exact absurd h3 (nI_ge (by omega) (by omega))
          · refine tk_ift rfl ?_
            refine tk_cc (k_nPass (b := b) (τ := τ) ha (by rw [hEi]; exact hE) hN e4 hTi (Nat.min_le_right _ _) q1) (fun v9 μ9 h9 => ?_)
            obtain ⟨rfl, σ3, rfl, r0, r1, r2, r3, r4⟩ := h9
            have elv : σi 16 0 = σ 16 0 + nI j := by rw [q0, eT, nI_add]
            have edn : tk_dn (tk_E σi a) (tk_lv' (tk_E σi a) (σi 16 0)) (fun i => σi (18 + i) 2) (fun i => (σi (18 + i) 0, σi (18 + i) 1)) N = tk_dn (tk_E σ a) (tk_lv' (tk_E σ a) (σ 16 0 + nI j)) (fun i => σ (18 + i) 2) (fun i => tk_iT (tk_E σ a) (σ 16 0) (σ (18 + i) 2) j (σ (18 + i) 0, σ (18 + i) 1)) N := by
              rw [hEi, elv]
              have key : ∀ N', N' ≤ N → tk_dn (tk_E σ a) (tk_lv' (tk_E σ a) (σ 16 0 + nI j)) (fun i => σi (18 + i) 2) (fun i => (σi (18 + i) 0, σi (18 + i) 1)) N' = tk_dn (tk_E σ a) (tk_lv' (tk_E σ a) (σ 16 0 + nI j)) (fun i => σ (18 + i) 2) (fun i => tk_iT (tk_E σ a) (σ 16 0) (σ (18 + i) 2) j (σ (18 + i) 0, σ (18 + i) 1)) N' := by
                intro N'
                induction N' with
                | zero => intro _; rfl
                | succ N' ihN =>
                  intro hle'
                  have hd9 : tk_dr (tk_E σ a) (tk_lv' (tk_E σ a) (σ 16 0 + nI j)) (fun i => σi (18 + i) 2) (fun i => (σi (18 + i) 0, σi (18 + i) 1)) N' ↔ tk_dr (tk_E σ a) (tk_lv' (tk_E σ a) (σ 16 0 + nI j)) (fun i => σ (18 + i) 2) (fun i => tk_iT (tk_E σ a) (σ 16 0) (σ (18 + i) 2) j (σ (18 + i) 0, σ (18 + i) 1)) N' := by
                    unfold tk_dr
                    dsimp only
                    rw [← q2 N' (by omega), q3 N' (by omega)]
                  have ihN := ihN (by omega)
                  unfold tk_dn at ihN ⊢
                  rw [tk_cnt, tk_cnt, ihN]
                  by_cases h : tk_dr (tk_E σ a) (tk_lv' (tk_E σ a) (σ 16 0 + nI j)) (fun i => σi (18 + i) 2) (fun i => (σi (18 + i) 0, σi (18 + i) 1)) N'
                  · rw [if_pos h, if_pos (hd9.mp h)]
                  · rw [if_neg h, if_neg (fun q => h (hd9.mpr q))]
              exact key N (Nat.le_refl N)
            rw [edn] at r1 ⊢
            refine ih (j + 1) _ _ σ3 (nI_1 j) (nI_add _ _) (by omega) ?_ ?_ ?_ ?_ ?_
            · rw [r0, q0, nI_1]
              rfl
            · rw [r1, tk_dt]
              congr 1
              omega
            · intro i hi
              rw [r2 i hi, hEi, elv, q2 i hi, q3 i (by omega)]
              rfl
            · intro i hi
              rw [r3 i hi, q3 i hi]
            · intro x y hx hx2
              rw [r4 x y hx hx2, q4 x y hx hx2]
      refine loop m 0 _ _ σ2 rfl rfl (by omega) ?_ ?_ ?_ ?_ (fun _ _ _ _ => rfl)
      · rw [hfr _ _ (by decide) (by omega), eT]
        rfl
      · rw [hfr _ _ (by decide) (by omega), ed, tk_dt, Nat.add_zero, Nat.min_eq_left hd]
      · intro i hi
        rw [hfr _ _ (by omega) (by omega), hfr _ _ (by omega) (by omega)]
        rfl
      · intro i hi
        exact hfr _ _ (by omega) (by omega)
    · rw [eT, nI_add] at h2
      have hgt : 9999 < T + m := Nat.lt_of_not_le (fun h => h2 (nI_le (b := 9999) h (by decide)))
      exact ⟨σ, rfl, Or.inr (Or.inl ⟨h1, hgt, rfl, rfl⟩)⟩
end
