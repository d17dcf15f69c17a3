/-! tides, of the reference -/
theorem tk_Sm.l {σ σ' : Nat → Nat → Int32} (h : ∀ x y, x ≠ 55 → ¬ (x = 47 ∧ (y = 27 ∨ y = 28)) → σ' x y = σ x y) : tk_F σ' = tk_F σ := by
  funext i k
  unfold tk_F
  split <;> exact h _ _ (by decide) (by intro q; exact absurd q.1 (by decide))
theorem tk_cnt_congr {c c' : Nat → Prop} (hc : DecidablePred c) (hc' : DecidablePred c') : ∀ n, (∀ i, i < n → (c i ↔ c' i)) → tk_cnt c hc n = tk_cnt c' hc' n
  | 0, _ => rfl
  | n + 1, h => by
    have ih := tk_cnt_congr hc hc' n (fun i hi => h i (by omega))
    rw [tk_cnt, tk_cnt, ih]
    by_cases hn : c n
    · rw [if_pos hn, if_pos ((h n (by omega)).mp hn)]
    · rw [if_neg hn, if_neg (fun q => hn ((h n (by omega)).mpr q))]
theorem tk_dn_congr {E : Nat → Nat → Int32} {lv : Int32} {d d' : Nat → Int32} {s s' : Nat → Int32 × Int32} {N : Nat} (h : ∀ i, i < N → d i = d' i ∧ s i = s' i) : tk_dn E lv d s N = tk_dn E lv d' s' N :=
  tk_cnt_congr _ _ N (fun i hi => by rw [tk_dr, tk_dr, (h i hi).1, (h i hi).2])
section
variable {t k u n w : Int32} {σ : Nat → Nat → Int32} {a b : Nat} {τ : Nat → Nat → Int64}
theorem k_mTide {N A : Nat} {l : Launch} {D : va_G} {cy : Nat → ClassId} {q : tk_Po} {m kk : Int32} (hE : tk_VE (tk_F σ)) (hN : N ≤ 5) (e : σ 49 1 = nI N) (hT : tk_MT σ)
    (hq : ∀ (c : Nat) (σ' : Nat → Nat → Int32), c = A + tk_dn (tk_F σ) (tk_lv' (tk_F σ) (σ 55 0)) (fun i => tk_mt σ (nI i)) (fun i => (σ 55 (1 + i), σ 55 (6 + i))) N → (∀ i, i < N → (σ' 55 (1 + i), σ' 55 (6 + i)) = tk_sT (tk_F σ) (tk_lv' (tk_F σ) (σ 55 0)) (tk_mt σ (nI i)) (σ 55 (1 + i), σ 55 (6 + i))) → σ' 55 0 = σ 55 0 → σ' 55 11 = σ 55 11 → σ' 55 12 = σ 55 12 → (∀ x y, x ≠ 55 → ¬ (x = 47 ∧ (y = 27 ∨ y = 28)) → σ' x y = σ x y) →
      tk_J l D cy none M_X7_tides (134, [some (.ref 47), some (.int m), some (.int (nI c)), some (.int kk), some (.int (nI N))], [], (σ', tk_rho a b, τ, 62), 0, 0) q) :
    tk_J l D cy none M_X7_tides (50, [some (.ref 47), some (.int m), some (.int (nI A)), some (.int kk), some (.int 0)], [], (σ, tk_rho a b, τ, 62), 0, 0) q := by
  generalize hlv : tk_lv' (tk_F σ) (σ 55 0) = lv at hq
  generalize hcn : (tk_dn (tk_F σ) lv (fun i => tk_mt σ (nI i)) (fun i => (σ 55 (1 + i), σ 55 (6 + i)))) = cn at hq
  have hyes : ∀ j, tk_dr (tk_F σ) lv (fun i => tk_mt σ (nI i)) (fun i => (σ 55 (1 + i), σ 55 (6 + i))) j → cn (j + 1) = cn j + 1 := fun j h => by
    rw [← hcn, tk_dn, tk_cnt, if_pos h]
    rfl
  have hno : ∀ j, ¬ tk_dr (tk_F σ) lv (fun i => tk_mt σ (nI i)) (fun i => (σ 55 (1 + i), σ 55 (6 + i))) j → cn (j + 1) = cn j := fun j h => by
    rw [← hcn, tk_dn, tk_cnt, if_neg h]
    rfl
  have h00 : cn 0 = 0 := by rw [← hcn]; rfl
  have loop : ∀ (n j : Nat) (i c : Int32) (σi : Nat → Nat → Int32), i = nI j → c = nI (A + cn j) → j + n = N →
      (∀ i, i < j → (σi 55 (1 + i), σi 55 (6 + i)) = tk_sT (tk_F σ) lv (tk_mt σ (nI i)) (σ 55 (1 + i), σ 55 (6 + i))) → (∀ i, j ≤ i → i < 5 → σi 55 (1 + i) = σ 55 (1 + i) ∧ σi 55 (6 + i) = σ 55 (6 + i)) → σi 55 0 = σ 55 0 → σi 55 11 = σ 55 11 → σi 55 12 = σ 55 12 → (∀ x y, x ≠ 55 → ¬ (x = 47 ∧ (y = 27 ∨ y = 28)) → σi x y = σ x y) →
      tk_J l D cy none M_X7_tides (50, [some (.ref 47), some (.int m), some (.int c), some (.int kk), some (.int i)], [], (σi, tk_rho a b, τ, 62), 0, 0) q := by
    intro n
    induction n with
    | zero =>
      intro j i c σi hi hc hj hv hr h0 h11 h12 hf
      subst hi
      subst hc
      have hjN : j = N := by omega
      subst hjN
      have ea : σi 49 1 = nI j := (hf _ _ (by decide) (by decide)).trans e
      refine tk_run (hT_X7_tides none) [50, 134] 80 _ ?_
      refine And.intro (fun h1 => ?_) (fun h1 => ?_)
      all_goals try dsimp only [tk_c0, tk_c1, tk_c2, tk_c3, tk_c4, tk_c5, tk_c6, tk_c7, tk_c8, tk_c9, tk_c10, tk_c11, tk_c12, tk_c13] at h1
      · exact hq _ σi rfl hv h0 h11 h12 hf
      · exact absurd (by rw [ea]; exact Int32.le_refl _) h1
    | succ n ih =>
      intro j i c σi hi hc hj hv hr h0 h11 h12 hf
      subst hi
      have ea : σi 49 1 = nI N := (hf _ _ (by decide) (by decide)).trans e
      have hF : tk_F σi = tk_F σ := tk_Sm.l hf
      have hs := hT j (by omega) (by rw [e]; exact nI_lt (by omega) (by omega))
      have k1 := (hr j (Nat.le_refl j) (by omega)).1
      have k6 := (hr j (Nat.le_refl j) (by omega)).2
      have e1 : (1 : Int32) + nI j = nI (1 + j) := nI_add 1 j
      have e6 : (6 : Int32) + nI j = nI (6 + j) := nI_add 6 j
      have step : ∀ (c : Int32) (p1 p6 : Nat) (x1 x6 : Int32) (σt : Nat → Nat → Int32), c = nI (A + cn (j + 1)) → p1 = 1 + j → p6 = 6 + j → (x1, x6) = tk_sT (tk_F σ) lv (tk_mt σ (nI j)) (σ 55 (1 + j), σ 55 (6 + j)) → tk_Sm σi σt →
          tk_J l D cy none M_X7_tides (50, [some (.ref 47), some (.int m), some (.int c), some (.int kk), some (.int (nI j + 1))], [], (tk_up (tk_up σt 55 p1 x1) 55 p6 x6, tk_rho a b, τ, 62), 0, 0) q := by
        intro c p1 p6 x1 x6 σt hc hp1 hp6 hx hm
        subst hp1
        subst hp6
        refine ih (j + 1) _ _ _ (nI_1 j) hc (by omega) (fun i hi => ?_) (fun i hi hi5 => ?_) ?_ ?_ ?_ (fun x y hx hx2 => ?_)
        · by_cases h : i = j
          · subst h
            rw [tk_up_at, tk_up_k _ _ _ (by omega), tk_up_at]
            exact hx
          · rw [tk_up_k _ _ _ (by omega), tk_up_k _ _ _ (by omega), tk_up_k _ _ _ (by omega), tk_up_k _ _ _ (by omega), hm.at (by decide), hm.at (by decide)]
            exact hv i (by omega)
        · rw [tk_up_k _ _ _ (by omega), tk_up_k _ _ _ (by omega), tk_up_k _ _ _ (by omega), tk_up_k _ _ _ (by omega), hm.at (by decide), hm.at (by decide)]
          exact hr i (by omega) hi5
        · rw [tk_up_k _ _ _ (by omega), tk_up_k _ _ _ (by omega), hm.at (by decide)]
          exact h0
        · rw [tk_up_k _ _ _ (by omega), tk_up_k _ _ _ (by omega), hm.at (by decide)]
          exact h11
        · rw [tk_up_k _ _ _ (by omega), tk_up_k _ _ _ (by omega), hm.at (by decide)]
          exact h12
        · rw [tk_up_p _ _ _ hx, tk_up_p _ _ _ hx, hm x y hx2]
          exact hf x y hx hx2
      have hm1 : tk_Sm σi (tk_up (tk_up σi 47 27 (σi 55 (1 + j))) 47 28 (σi 55 (6 + j))) := (tk_Sm.rf.up (by decide) _).up (by decide) _
      have v27 : tk_up (tk_up σi 47 27 (σi 55 (1 + j))) 47 28 (σi 55 (6 + j)) 47 27 = σ 55 (1 + j) := by rw [tk_up_k _ _ _ (by decide), tk_up_at, k1]
      have v28 : tk_up (tk_up σi 47 27 (σi 55 (1 + j))) 47 28 (σi 55 (6 + j)) 47 28 = σ 55 (6 + j) := by rw [tk_up_at, k6]
      generalize hσt : tk_up (tk_up σi 47 27 (σi 55 (1 + j))) 47 28 (σi 55 (6 + j)) = σt at hm1 v27 v28
      have hFt : tk_F σt = tk_F σ := hm1.F.trans hF
      have t11 : σt 55 11 = σ 55 11 := (hm1.at (by decide) _).trans h11
      have t0 : σt 55 0 = σ 55 0 := (hm1.at (by decide) _).trans h0
      have hmt : tk_b ((σt 55 11 >>> (nI j &&& 31)) &&& 1 = 1) = 0 ↔ ¬ tk_mt σ (nI j) = 1 := by
        rw [t11]
        exact tk_b0
      refine tk_run (hT_X7_tides none) [50, 134] 80 _ ?_
      refine And.intro (fun h1 => ?_) (fun h1 => ?_)
      all_goals try dsimp only [tk_c0, tk_c1, tk_c2, tk_c3, tk_c4, tk_c5, tk_c6, tk_c7, tk_c8, tk_c9, tk_c10, tk_c11, tk_c12, tk_c13] at h1
      · exact absurd h1 (by rw [ea]; exact nI_ge (by omega) (by omega))
      · refine tk_cc (k_takesUp (by omega)) (fun v9 μ9 h9 => ?_)
        rw [hσt] at h9
        obtain ⟨rfl, rfl⟩ := h9
        refine tk_cc (k_mTied) (fun v9 μ9 h9 => ?_)
        obtain ⟨rfl, rfl⟩ := h9
        refine And.intro (fun h2 => ?_) (fun h2 => ?_)
        all_goals try dsimp only [tk_c0, tk_c1, tk_c2, tk_c3, tk_c4, tk_c5, tk_c6, tk_c7, tk_c8, tk_c9, tk_c10, tk_c11, tk_c12, tk_c13] at h2
        · have h2 := hmt.mp h2
          refine tk_cc (k_mLev (by rw [← show tk_F σt 3 0 = σt 49 2 from rfl, hFt]; exact hE.1)) (fun v9 μ9 h9 => ?_)
          obtain ⟨rfl, rfl⟩ := h9
          have hkw := tk_kI16 hE hs.1
          have hdl : 1 ≤ σt 53 (σt 47 27).toNatClampNeg := by
            rw [v27, ← show tk_F σt 2 (σ 55 (1 + j)).toNatClampNeg = σt 53 (σ 55 (1 + j)).toNatClampNeg from rfl, hFt]
            exact (hE.2.2.2.2.2.2 _ hs.1).2.1
          refine tk_cc (k_goes (by rw [v27]; exact hkw) hdl) (fun v9 μ9 h9 => ?_)
          obtain ⟨rfl, rfl⟩ := h9
          have hlt : tk_lv' (tk_F σt) (σt 55 0) = lv := by rw [hFt, t0, hlv]
          have hst : tk_s1 (tk_F σt) (tk_lv' (tk_F σt) (σt 55 0)) (σt 47 27, σt 47 28) = tk_sT (tk_F σ) lv (tk_mt σ (nI j)) (σ 55 (1 + j), σ 55 (6 + j)) := by
            rw [hlt, hFt, v27, v28, tk_sT, if_neg h2]
          have hgo : (σt 47 28 = 0 ∧ σt 51 (σt 47 27).toNatClampNeg ≤ tk_lv' (tk_F σt) (σt 55 0)) ↔ tk_dr (tk_F σ) lv (fun i => tk_mt σ (nI i)) (fun i => (σ 55 (1 + i), σ 55 (6 + i))) j := by
            rw [hlt, v27, v28, show σt 51 (σ 55 (1 + j)).toNatClampNeg = tk_F σt 0 (σ 55 (1 + j)).toNatClampNeg from rfl, hFt]
            exact ⟨fun h => ⟨h2, h⟩, fun h => h.2⟩
          have hm2 := (hm1.up (k := 27) (by decide) (tk_s1 (tk_F σt) (tk_lv' (tk_F σt) (σt 55 0)) (σt 47 27, σt 47 28)).1).up (k := 28) (by decide) (tk_s1 (tk_F σt) (tk_lv' (tk_F σt) (σt 55 0)) (σt 47 27, σt 47 28)).2
          have w27 : ∀ x y : Int32, tk_up (tk_up σt 47 27 x) 47 28 y 47 27 = x := fun x y => by rw [tk_up_k _ _ _ (by decide), tk_up_at]
          have w28 : ∀ x y z : Int32, ∀ p : Nat, tk_up (tk_up (tk_up σt 47 27 x) 47 28 y) 55 p z 47 28 = y := fun x y z p => by rw [tk_up_p _ _ _ (by decide), tk_up_at]
          refine And.intro (fun h3 => ?_) (fun h3 => ?_)
          all_goals try dsimp only [tk_c0, tk_c1, tk_c2, tk_c3, tk_c4, tk_c5, tk_c6, tk_c7, tk_c8, tk_c9, tk_c10, tk_c11, tk_c12, tk_c13] at h3
          · have hc1 : c + 0 = nI (A + cn (j + 1)) := by
              rw [hno j (fun h => tk_b0.mp h3 (hgo.mpr h)), hc]
              exact nI_add _ 0
            refine tk_ift (by dsimp only; rw [e1]; exact tk_in_nI (n := 13) (by omega) (by decide)) ?_
            refine tk_ift (by dsimp only; rw [e6]; exact tk_in_nI (n := 13) (by omega) (by decide)) ?_
            refine step _ _ _ _ _ _ hc1 ?_ ?_ ?_ hm2
            · dsimp only
              rw [e1, nI_clamp (by omega)]
            · dsimp only
              rw [e6, nI_clamp (by omega)]
            · dsimp only
              rw [w27, w28]
              exact hst
          · have hc1 : c + 1 = nI (A + cn (j + 1)) := by
              rw [hyes j (hgo.mp (Decidable.not_not.mp (fun h => h3 (tk_b0.mpr h)))), hc]
              exact nI_1 _
            refine tk_ift (by dsimp only; rw [e1]; exact tk_in_nI (n := 13) (by omega) (by decide)) ?_
            refine tk_ift (by dsimp only; rw [e6]; exact tk_in_nI (n := 13) (by omega) (by decide)) ?_
            refine step _ _ _ _ _ _ hc1 ?_ ?_ ?_ hm2
            · dsimp only
              rw [e1, nI_clamp (by omega)]
            · dsimp only
              rw [e6, nI_clamp (by omega)]
            · dsimp only
              rw [w27, w28]
              exact hst
        · have h2 : tk_mt σ (nI j) = 1 := Decidable.not_not.mp (fun h => h2 (hmt.mpr h))
          have hc1 : c + 0 = nI (A + cn (j + 1)) := by
            rw [hno j (fun h => h.1 h2), hc]
            exact nI_add _ 0
          refine tk_ift (by dsimp only; rw [e1]; exact tk_in_nI (n := 13) (by omega) (by decide)) ?_
          refine tk_ift (by dsimp only; rw [e6]; exact tk_in_nI (n := 13) (by omega) (by decide)) ?_
          refine step _ _ _ _ _ _ hc1 ?_ ?_ ?_ hm1
          · dsimp only
            rw [e1, nI_clamp (by omega)]
          · dsimp only
            rw [e6, nI_clamp (by omega)]
          · dsimp only
            rw [tk_up_p _ _ _ (by decide), v27, v28, tk_sT, if_pos h2]
  exact loop N 0 _ _ σ rfl (by rw [h00]; rfl) (by omega) (fun i hi => absurd hi (Nat.not_lt_zero i)) (fun _ _ _ => ⟨rfl, rfl⟩) rfl rfl rfl (fun _ _ _ _ => rfl)
theorem k_mTides {N d K T : Nat} (hz : σ 47 0 = 0) (hE : tk_VE (tk_F σ)) (hN : N ≤ 5) (e : σ 49 1 = nI N) (hT : tk_MT σ) (hd : d ≤ 99999) (ed : σ 55 12 = nI d) (hK : K ≤ 10) (eK : σ 47 20 = nI K) (hTd : T ≤ 9999) (eT : σ 55 0 = nI T) :
    tk_Ct M_X7_tides [.ref 47, .int n] (σ, tk_rho a b, τ, 62) (fun v μ' => ∃ σ', μ' = (σ', tk_rho a b, τ, 62) ∧
      ((¬ (1 ≤ n ∧ n ≤ 99) ∧ v = some (.int (-1)) ∧ σ' = σ) ∨ ((1 ≤ n ∧ n ≤ 99) ∧ 9999 < T + n.toNatClampNeg ∧ v = some (.int (-2)) ∧ σ' = σ) ∨
       ((1 ≤ n ∧ n ≤ 99) ∧ T + n.toNatClampNeg ≤ 9999 ∧ v = some (.int (nI (tk_dt (tk_F σ) (σ 55 0) (fun i => tk_mt σ (nI i)) (fun i => (σ 55 (1 + i), σ 55 (6 + i))) N n.toNatClampNeg))) ∧
        ∃ σ2, tk_Nt σ σ2 K ∧ σ' 55 0 = nI (T + n.toNatClampNeg) ∧ σ' 55 12 = nI (min (d + tk_dt (tk_F σ) (σ 55 0) (fun i => tk_mt σ (nI i)) (fun i => (σ 55 (1 + i), σ 55 (6 + i))) N n.toNatClampNeg) 99999) ∧ σ' 55 11 = σ 55 11 ∧
        (∀ i, i < N → (σ' 55 (1 + i), σ' 55 (6 + i)) = tk_iT (tk_F σ) (σ 55 0) (tk_mt σ (nI i)) n.toNatClampNeg (σ 55 (1 + i), σ 55 (6 + i))) ∧ ∀ x y, x ≠ 55 → ¬ (x = 47 ∧ (y = 27 ∨ y = 28)) → σ' x y = σ2 x y))) := by
  refine tk_ct rfl rfl (Nat.le_of_ble_eq_true rfl) (fun l D cy => tk_thr (hT_X7_tides none) rfl rfl rfl hz (tk_run (hT_X7_tides none) [42] 60 _ ?_))
  refine tk_cc (k_in _ _ _ _) (fun v9 μ9 h9 => ?_)
  obtain ⟨rfl, rfl⟩ := h9
  refine And.intro (fun h1 => ?_) (fun h1 => ?_)
  all_goals try dsimp only [tk_c0, tk_c1, tk_c2, tk_c3, tk_c4, tk_c5, tk_c6, tk_c7, tk_c8, tk_c9, tk_c10, tk_c11, tk_c12, tk_c13] at h1
  · exact ⟨σ, rfl, Or.inl ⟨tk_b0.mp h1, rfl, rfl⟩⟩
  · have h1 := Decidable.not_not.mp (fun h => h1 (tk_b0.mpr h))
    obtain ⟨m, hm, rfl⟩ := nI_of2 (M := 99) (n := 99) rfl (Int32.not_lt.mpr (Int32.le_trans (by decide) h1.1)) h1.2
    rw [nI_clamp (by omega)]
    refine And.intro (fun h2 => ?_) (fun h2 => ?_)
    all_goals try dsimp only [tk_c0, tk_c1, tk_c2, tk_c3, tk_c4, tk_c5, tk_c6, tk_c7, tk_c8, tk_c9, tk_c10, tk_c11, tk_c12, tk_c13] at h2
    · rw [eT, nI_add] at h2
      have hle : T + m ≤ 9999 := Nat.le_of_not_lt (fun h => absurd h2 (nI_ge (a := 9999) h (by omega)))
      refine tk_cc (k_notes hK eK) (fun v9 μ9 h9 => ?_)
      obtain ⟨rfl, σ2, rfl, hNt⟩ := h9
      have hfr : ∀ x y, x ≠ 58 → ¬ (x = 47 ∧ y = 20) → σ2 x y = σ x y := hNt.2.2.2
      have hF2 : tk_F σ2 = tk_F σ := by
        funext i k
        unfold tk_F
        split <;> exact hfr _ _ (by decide) (by intro q; exact absurd q.1 (by decide))
      have h55 : ∀ y, σ2 55 y = σ 55 y := fun y => hfr _ _ (by decide) (by intro q; exact absurd q.1 (by decide))
      have loop : ∀ (n j : Nat) (i c : Int32) (L4 : Option Value) (σi : Nat → Nat → Int32), i = nI j → c = nI (tk_dt (tk_F σ) (σ 55 0) (fun i => tk_mt σ (nI i)) (fun i => (σ 55 (1 + i), σ 55 (6 + i))) N j) → j + n = m → σi 55 0 = nI (T + j) → σi 55 12 = nI d → σi 55 11 = σ 55 11 →
          (∀ i, i < N → (σi 55 (1 + i), σi 55 (6 + i)) = tk_iT (tk_F σ) (σ 55 0) (tk_mt σ (nI i)) j (σ 55 (1 + i), σ 55 (6 + i))) → (∀ x y, x ≠ 55 → ¬ (x = 47 ∧ (y = 27 ∨ y = 28)) → σi x y = σ2 x y) →
          tk_J l D cy none M_X7_tides (42, [some (.ref 47), some (.int (nI m)), some (.int c), some (.int i), L4], [], (σi, tk_rho a b, τ, 62), 0, 0) (fun v μ' => ∃ σ', μ' = (σ', tk_rho a b, τ, 62) ∧
            ((¬ (1 ≤ nI m ∧ nI m ≤ 99) ∧ v = some (.int (-1)) ∧ σ' = σ) ∨ ((1 ≤ nI m ∧ nI m ≤ 99) ∧ 9999 < T + m ∧ v = some (.int (-2)) ∧ σ' = σ) ∨
             ((1 ≤ nI m ∧ nI m ≤ 99) ∧ T + m ≤ 9999 ∧ v = some (.int (nI (tk_dt (tk_F σ) (σ 55 0) (fun i => tk_mt σ (nI i)) (fun i => (σ 55 (1 + i), σ 55 (6 + i))) N m))) ∧
              ∃ σ2, tk_Nt σ σ2 K ∧ σ' 55 0 = nI (T + m) ∧ σ' 55 12 = nI (min (d + tk_dt (tk_F σ) (σ 55 0) (fun i => tk_mt σ (nI i)) (fun i => (σ 55 (1 + i), σ 55 (6 + i))) N m) 99999) ∧ σ' 55 11 = σ 55 11 ∧
              (∀ i, i < N → (σ' 55 (1 + i), σ' 55 (6 + i)) = tk_iT (tk_F σ) (σ 55 0) (tk_mt σ (nI i)) m (σ 55 (1 + i), σ 55 (6 + i))) ∧ ∀ x y, x ≠ 55 → ¬ (x = 47 ∧ (y = 27 ∨ y = 28)) → σ' x y = σ2 x y))) := by
        intro n
        induction n with
        | zero =>
          intro j i c L4 σi hi hc hj q0 q12 q11 q1 q4
          subst hi
          have hjm : j = m := by omega
          subst hjm
          have htot := tk_dt_le (E := tk_F σ) (t := σ 55 0) (d := fun i => tk_mt σ (nI i)) (s := fun i => (σ 55 (1 + i), σ 55 (6 + i))) hN j
          generalize tk_dt (tk_F σ) (σ 55 0) (fun i => tk_mt σ (nI i)) (fun i => (σ 55 (1 + i), σ 55 (6 + i))) N j = G at hc htot ⊢
          have eS : σi 55 12 + c = nI (d + G) := by rw [q12, hc, nI_add]
          refine tk_run (hT_X7_tides none) [42] 80 _ ?_
          refine And.intro (fun h3 => ?_) (fun h3 => ?_)
          all_goals try dsimp only [tk_c0, tk_c1, tk_c2, tk_c3, tk_c4, tk_c5, tk_c6, tk_c7, tk_c8, tk_c9, tk_c10, tk_c11, tk_c12, tk_c13] at h3
          · refine And.intro (fun h4 => ?_) (fun h4 => ?_)
            all_goals try dsimp only [tk_c0, tk_c1, tk_c2, tk_c3, tk_c4, tk_c5, tk_c6, tk_c7, tk_c8, tk_c9, tk_c10, tk_c11, tk_c12, tk_c13] at h4
            · rw [eS] at h4
              have h4 : d + G ≤ 99999 := Nat.le_of_not_lt (fun h => absurd h4 (nI_ge (a := 99999) h (by omega)))
              refine ⟨_, rfl, Or.inr (Or.inr ⟨h1, hle, congrArg (fun z => some (Value.int z)) hc, σ2, hNt, ?_, ?_, ?_, fun i hi => ?_, fun x y hx hx2 => ?_⟩)⟩
              · exact (tk_up_k _ _ _ (by decide)).trans q0
              · refine (tk_up_at _ _ _ _).trans ?_
                rw [Nat.min_eq_left h4]
                exact eS
              · exact (tk_up_k _ _ _ (by decide)).trans q11
              · rw [tk_up_k _ _ _ (by dsimp only [tk_c12]; omega), tk_up_k _ _ _ (by dsimp only [tk_c12]; omega)]
                exact q1 i hi
              · exact (tk_up_p _ _ _ hx).trans (q4 x y hx hx2)
            · rw [eS] at h4
              have h4 : 99999 < d + G := Nat.lt_of_not_le (fun h => h4 (nI_le (b := 99999) h (by omega)))
              refine ⟨_, rfl, Or.inr (Or.inr ⟨h1, hle, congrArg (fun z => some (Value.int z)) hc, σ2, hNt, ?_, ?_, ?_, fun i hi => ?_, fun x y hx hx2 => ?_⟩)⟩
              · exact (tk_up_k _ _ _ (by decide)).trans q0
              · refine (tk_up_at _ _ _ _).trans ?_
                rw [Nat.min_eq_right (Nat.le_of_lt h4)]
                rfl
              · exact (tk_up_k _ _ _ (by decide)).trans q11
              · rw [tk_up_k _ _ _ (by dsimp only [tk_c12]; omega), tk_up_k _ _ _ (by dsimp only [tk_c12]; omega)]
                exact q1 i hi
              · exact (tk_up_p _ _ _ hx).trans (q4 x y hx hx2)
          · exact absurd (Int32.le_refl _) h3
        | succ n ih =>
          intro j i c L4 σi hi hc hj q0 q12 q11 q1 q4
          subst hi
          subst hc
          have hFi : tk_F σi = tk_F σ := (tk_Sm.l q4).trans hF2
          have e4 : σi 49 1 = nI N := (congrFun (congrFun hFi 3) 4).trans e
          have hmt : ∀ i, tk_mt σi i = tk_mt σ i := fun i => by rw [tk_mt, q11]; rfl
          have hTi : tk_MT σi := fun i hi hlt => by
            rw [e4] at hlt
            have hiN : i < N := (nI_ltI (by omega) (by omega)).mp hlt
            rw [hFi, q1 i hiN]
            exact tk_iT_V hE (hT i hi (by rw [e]; exact hlt)) j
          have hlvi : tk_lv' (tk_F σ) (σi 55 0) = tk_lv' (tk_F σ) (σ 55 0 + nI j) := by rw [q0, eT, nI_add]
          refine tk_run (hT_X7_tides none) [42, 50] 80 _ ?_
          refine And.intro (fun h3 => ?_) (fun h3 => ?_)
          all_goals try dsimp only [tk_c0, tk_c1, tk_c2, tk_c3, tk_c4, tk_c5, tk_c6, tk_c7, tk_c8, tk_c9, tk_c10, tk_c11, tk_c12, tk_c13] at h3
          · exact absurd h3 (nI_ge (by omega) (by omega))
          · refine k_mTide (σ := σi) (by rw [hFi]; exact hE) hN e4 hTi (fun c2 σ3 hc2 r1 r0 r11 r12 r4 => ?_)
            rw [hFi, hlvi] at hc2 r1
            refine tk_run (hT_X7_tides none) [42] 80 _ ?_
            refine ih (j + 1) _ _ _ _ (nI_1 j) ?_ (by omega) ?_ ?_ ?_ (fun i hi => ?_) (fun x y hx hx2 => ?_)
            · rw [hc2, tk_dt]
              rw [tk_dn_congr (fun i hi => ⟨hmt (nI i), q1 i hi⟩)]
            · refine (tk_up_at _ _ _ _).trans ?_
              dsimp only [tk_c0]
              rw [r0, q0]
              exact nI_1 _
            · exact (tk_up_k _ _ _ (by decide)).trans (r12.trans q12)
            · exact (tk_up_k _ _ _ (by decide)).trans (r11.trans q11)
            · rw [tk_up_k _ _ _ (by dsimp only [tk_c0]; omega), tk_up_k _ _ _ (by dsimp only [tk_c0]; omega), r1 i hi, q1 i hi, hmt]
              rfl
            · exact (tk_up_p _ _ _ hx).trans ((r4 x y hx hx2).trans (q4 x y hx hx2))
      exact loop m 0 _ _ _ σ2 rfl rfl (by omega) ((h55 0).trans eT) ((h55 12).trans ed) (h55 11) (fun i _ => by rw [h55, h55]; rfl) (fun _ _ _ _ => rfl)
    · rw [eT, nI_add] at h2
      exact ⟨σ, rfl, Or.inr (Or.inl ⟨h1, Nat.lt_of_not_le (fun h => h2 (nI_le (b := 9999) h (by omega))), rfl, rfl⟩)⟩
end
