/-! the reference: soon, when, meet -/
section
variable {t k u : Int32} {σ : Nat → Nat → Int32} {a b : Nat} {τ : Nat → Nat → Int64}
theorem tk_mtp {σ σi : Nat → Nat → Int32} (hf : tk_Sm σ σi) (S : Int32 × Int32) : tk_Sm σ (tk_up (tk_up σi 47 27 S.1) 47 28 S.2) := (hf.up (Or.inl rfl) S.1).up (Or.inr rfl) S.2
theorem tk_mtv {σi : Nat → Nat → Int32} (S : Int32 × Int32) : (tk_up (tk_up σi 47 27 S.1) 47 28 S.2 47 27, tk_up (tk_up σi 47 27 S.1) 47 28 S.2 47 28) = S := by
  rw [tk_up_at, tk_up_k _ _ _ (by decide), tk_up_at]
/-- what the reference keeps to of its things -/
def tk_MT (σ : Nat → Nat → Int32) : Prop := ∀ j : Nat, j < 5 → nI j < σ 49 1 → tk_VS (tk_F σ) (σ 55 (1 + j), σ 55 (6 + j))
/-- whether the reference has it tied -/
def tk_mt (σ : Nat → Nat → Int32) (t : Int32) : Int32 := (σ 55 11 >>> (t &&& 31)) &&& 1
theorem k_soon_loop {l : Launch} {D : va_G} {cy : Nat → ClassId} {d : Int32} {s : Int32 × Int32} (hE : tk_VE (tk_F σ)) (hs : tk_VS (tk_F σ) s) (hd : d = 0 ∨ d = 1) :
    ∀ (n j : Nat) (i : Int32) (σi : Nat → Nat → Int32), i = nI j → j + n = 401 → tk_Sm σ σi → (σi 47 27, σi 47 28) = tk_iT (tk_F σ) (σ 55 0) d j s →
    tk_J l D cy none M_X7_soon (2, [some (.ref 47), some (.int k), some (.int d), some (.int i)], [], (σi, tk_rho a b, τ, 62), 0, 0)
      (fun v μ' => v = some (.int (tk_on (tk_fst (fun n => (tk_iT (tk_F σ) (σ 55 0) d n s).2 = 0 ∧ (tk_iT (tk_F σ) (σ 55 0) d n s).1 = k) n j) 0)) ∧ ∃ σ', μ' = (σ', tk_rho a b, τ, 62) ∧ tk_Sm σ σ') := by
  intro n
  induction n with
  | zero =>
    intro j i σi hi0 hj hf hi
    subst hi0
    refine tk_run (hT_X7_soon none) [2] 40 _ ?_
    refine And.intro (fun h1 => ?_) (fun h1 => ?_)
    all_goals try dsimp only [tk_c0, tk_c1, tk_c2, tk_c3, tk_c4, tk_c5, tk_c6, tk_c7, tk_c8, tk_c9, tk_c10, tk_c11, tk_c12, tk_c13] at h1
    · exact And.intro rfl ⟨σi, rfl, hf⟩
    · exact absurd (nI_lt (a := 400) (by omega) (by omega)) h1
  | succ n ih =>
    intro j i σi hi0 hj hf hi
    subst hi0
    have hV := tk_iT_V (t := σ 55 0) (d := d) hE hs j
    rw [← hi] at hV
    have hF := hf.F
    have hVF : tk_VS (tk_F σi) (σi 47 27, σi 47 28) := by rw [hF]; exact hV
    have hEF : tk_VE (tk_F σi) := by rw [hF]; exact hE
    have e0 : σi 55 0 = σ 55 0 := hf.at (by decide) 0
    rw [tk_fst, ← hi]
    have more : ¬ (σi 47 28 = 0 ∧ σi 47 27 = k) → tk_J l D cy none M_X7_soon (26, [some (.ref 47), some (.int k), some (.int d), some (.int (nI j))], [], (σi, tk_rho a b, τ, 62), 0, 0)
      (fun v μ' => v = some (.int (tk_on (if ((σi 47 27, σi 47 28) : Int32 × Int32).2 = 0 ∧ ((σi 47 27, σi 47 28) : Int32 × Int32).1 = k then some j else tk_fst (fun n => (tk_iT (tk_F σ) (σ 55 0) d n s).2 = 0 ∧ (tk_iT (tk_F σ) (σ 55 0) d n s).1 = k) n (j + 1)) 0)) ∧ ∃ σ', μ' = (σ', tk_rho a b, τ, 62) ∧ tk_Sm σ σ') := by
      intro hn
      rw [if_neg hn]
      refine tk_run (hT_X7_soon none) [2] 40 _ ?_
      refine And.intro (fun h4 => ?_) (fun h4 => ?_)
      all_goals try dsimp only [tk_c0, tk_c1, tk_c2, tk_c3, tk_c4, tk_c5, tk_c6, tk_c7, tk_c8, tk_c9, tk_c10, tk_c11, tk_c12, tk_c13] at h4
      · refine tk_cc (k_mLev hEF.1) (fun v9 μ9 h9 => ?_)
        obtain ⟨rfl, rfl⟩ := h9
        refine tk_cc (k_goes (tk_kI16 hEF hVF.1) (hEF.2.2.2.2.2.2 _ hVF.1).2.1) (fun v9 μ9 h9 => ?_)
        obtain ⟨rfl, rfl⟩ := h9
        refine ih (j + 1) _ _ (nI_1 j) (by omega) (tk_mtp hf _) ((tk_mtv _).trans ?_)
        dsimp only [tk_c0]
        rw [hF, e0, hi, tk_iT, tk_sT, if_neg (fun h => by rw [h4] at h; exact absurd h (by decide))]
      · refine ih (j + 1) _ _ (nI_1 j) (by omega) hf ?_
        rw [hi, tk_iT, tk_sT, if_pos (hd.resolve_left h4)]
    refine tk_run (hT_X7_soon none) [2, 26] 40 _ ?_
    refine And.intro (fun h1 => ?_) (fun h1 => ?_)
    all_goals try dsimp only [tk_c0, tk_c1, tk_c2, tk_c3, tk_c4, tk_c5, tk_c6, tk_c7, tk_c8, tk_c9, tk_c10, tk_c11, tk_c12, tk_c13] at h1
    · exact absurd h1 (nI_nlt (a := 400) (b := j) (by omega) (by omega))
    · refine And.intro (fun h2 => ?_) (fun h2 => ?_)
      all_goals try dsimp only [tk_c0, tk_c1, tk_c2, tk_c3, tk_c4, tk_c5, tk_c6, tk_c7, tk_c8, tk_c9, tk_c10, tk_c11, tk_c12, tk_c13] at h2
      · refine And.intro (fun h3 => ?_) (fun h3 => ?_)
        all_goals try dsimp only [tk_c0, tk_c1, tk_c2, tk_c3, tk_c4, tk_c5, tk_c6, tk_c7, tk_c8, tk_c9, tk_c10, tk_c11, tk_c12, tk_c13] at h3
        · rw [if_pos ⟨h2, h3⟩]
          refine And.intro ?_ ⟨σi, rfl, hf⟩
          show some (Value.int (nI j)) = some (Value.int (0 + nI j))
          rw [Int32.zero_add]
        · exact more (fun h => h3 h.2)
      · exact more (fun h => h2 h.1)
theorem k_soon {d : Int32} {s : Int32 × Int32} {σi : Nat → Nat → Int32} (hE : tk_VE (tk_F σ)) (hs : tk_VS (tk_F σ) s) (hd : d = 0 ∨ d = 1) (hf : tk_Sm σ σi) (hi : (σi 47 27, σi 47 28) = s) :
    tk_Ct M_X7_soon [.ref 47, .int k, .int d] (σi, tk_rho a b, τ, 62) (fun v μ' => v = some (.int (tk_on (tk_sn (tk_F σ) (σ 55 0) d s k) 0)) ∧ ∃ σ', μ' = (σ', tk_rho a b, τ, 62) ∧ tk_Sm σ σ') := by
  refine tk_ct rfl rfl (Nat.le_of_ble_eq_true rfl) (fun l D cy => tk_run (hT_X7_soon none) [2] 20 _ ?_)
  exact k_soon_loop hE hs hd 401 0 _ _ rfl rfl hf hi
theorem tk_fst_lt {p : Nat → Prop} [DecidablePred p] : ∀ (d j n : Nat), tk_fst p d j = some n → j ≤ n ∧ n < j + d
  | 0, j, n, h => by cases h
  | d + 1, j, n, h => by
    rw [tk_fst] at h
    split at h
    · cases h; omega
    · have := tk_fst_lt d (j + 1) n h
      omega
theorem tk_on_ne {n : Nat} (h : n < 2 ^ 31) : ¬ (0 : Int32) + nI n = -9 := fun q => by
  rw [Int32.zero_add] at q
  have h1 := nI_pos' h
  rw [q] at h1
  exact absurd h1 (by decide)
theorem tk_bit (x : Int32) : x &&& 1 = 0 ∨ x &&& 1 = 1 := by
  obtain ⟨j, hj, e⟩ := pk_andE x (m := 1) 1 rfl
  rw [e]
  match j, hj with
  | 0, _ => exact Or.inl rfl
  | 1, _ => exact Or.inr rfl
theorem tk_mt01 (σ : Nat → Nat → Int32) (t : Int32) : tk_mt σ t = 0 ∨ tk_mt σ t = 1 := tk_bit _
theorem tk_bmt {x : Int32} (h : x = 0 ∨ x = 1) : tk_b (x = 1) = x := by
  rcases h with rfl | rfl <;> rfl
theorem k_mWhen (hz : σ 47 0 = 0) (hE : tk_VE (tk_F σ)) (hT : tk_MT σ) :
    tk_Ct M_X7_when [.ref 47, .int t, .int k] (σ, tk_rho a b, τ, 62) (fun v μ' => v = some (.int (if (0 ≤ t ∧ t < σ 49 1) ∧ (0 ≤ k ∧ k < σ 49 0) then tk_on (tk_sn (tk_F σ) (σ 55 0) (tk_mt σ t) (σ 55 (1 + t.toNatClampNeg), σ 55 (6 + t.toNatClampNeg)) k) (σ 55 0) else -1)) ∧ ∃ σ', μ' = (σ', tk_rho a b, τ, 62) ∧ tk_Sm σ σ') := by
  have hf0 : tk_Sm σ σ := tk_Sm.rf
  refine tk_ct rfl rfl (Nat.le_of_ble_eq_true rfl) (fun l D cy => tk_thr (hT_X7_when none) rfl rfl rfl hz (tk_run (hT_X7_when none) [] 40 _ ?_))
  refine tk_cc (k_mThing hE.2.2.2.2.2.1.1) (fun v9 μ9 h9 => ?_)
  obtain ⟨rfl, rfl⟩ := h9
  refine And.intro (fun h1 => ?_) (fun h1 => ?_)
  all_goals try dsimp only [tk_c0, tk_c1, tk_c2, tk_c3, tk_c4, tk_c5, tk_c6, tk_c7, tk_c8, tk_c9, tk_c10, tk_c11, tk_c12, tk_c13] at h1
  · refine And.intro ?_ ⟨_, rfl, hf0⟩
    rw [if_neg (fun h => tk_b0.mp h1 h.1)]
  · have h1 := Decidable.not_not.mp (fun h => h1 (tk_b0.mpr h))
    refine tk_cc (k_mKerb hE.2.2.2.2.1.1) (fun v9 μ9 h9 => ?_)
    obtain ⟨rfl, rfl⟩ := h9
    refine And.intro (fun h2 => ?_) (fun h2 => ?_)
    all_goals try dsimp only [tk_c0, tk_c1, tk_c2, tk_c3, tk_c4, tk_c5, tk_c6, tk_c7, tk_c8, tk_c9, tk_c10, tk_c11, tk_c12, tk_c13] at h2
    · refine And.intro ?_ ⟨_, rfl, hf0⟩
      rw [if_neg (fun h => tk_b0.mp h2 h.2)]
    · have h2 := Decidable.not_not.mp (fun h => h2 (tk_b0.mpr h))
      rw [if_pos ⟨h1, h2⟩]
      obtain ⟨j, hj, rfl⟩ := tk_ix h1 hE.2.2.2.2.2.1.2 (by decide)
      have hs := hT j (by omega) h1.2
      rw [nI_clamp (by omega)]
      refine tk_cc (k_takesUp (by omega : j < 5)) (fun v9 μ9 h9 => ?_)
      obtain ⟨rfl, rfl⟩ := h9
      have hf1 := tk_mtp hf0 (σ 55 (1 + j), σ 55 (6 + j))
      have hv1 := tk_mtv (σi := σ) (σ 55 (1 + j), σ 55 (6 + j))
      dsimp only at hf1 hv1
      generalize tk_up (tk_up σ 47 27 (σ 55 (1 + j))) 47 28 (σ 55 (6 + j)) = σ1 at hf1 hv1 ⊢
      refine tk_cc (k_mTied) (fun v9 μ9 h9 => ?_)
      obtain ⟨rfl, rfl⟩ := h9
      have e11 : tk_b ((σ1 55 11 >>> (nI j &&& 31)) &&& 1 = 1) = tk_mt σ (nI j) := by
        rw [hf1.at (by decide) 11]
        exact tk_bmt (tk_mt01 σ (nI j))
      rw [e11]
      refine tk_cc (k_soon hE hs (tk_mt01 σ (nI j)) hf1 hv1) (fun v9 μ9 h9 => ?_)
      obtain ⟨rfl, σ', rfl, hf⟩ := h9
      generalize hq : tk_sn _ _ _ _ _ = o
      cases o with
      | none =>
        refine And.intro (fun h3 => ?_) (fun h3 => ?_)
        all_goals try dsimp only [tk_c0, tk_c1, tk_c2, tk_c3, tk_c4, tk_c5, tk_c6, tk_c7, tk_c8, tk_c9, tk_c10, tk_c11, tk_c12, tk_c13] at h3
        · exact And.intro rfl ⟨σ', rfl, hf⟩
        · exact absurd rfl h3
      | some n =>
        have hn := (tk_fst_lt 401 0 n hq).2
        refine And.intro (fun h3 => ?_) (fun h3 => ?_)
        all_goals try dsimp only [tk_c0, tk_c1, tk_c2, tk_c3, tk_c4, tk_c5, tk_c6, tk_c7, tk_c8, tk_c9, tk_c10, tk_c11, tk_c12, tk_c13] at h3
        · exact absurd h3 (tk_on_ne (by omega))
        · refine And.intro ?_ ⟨σ', rfl, hf⟩
          dsimp only [tk_c0]
          rw [hf.at (by decide) 0]
          show some (Value.int (σ 55 0 + (0 + nI n))) = some (Value.int (σ 55 0 + nI n))
          rw [Int32.zero_add]
end
