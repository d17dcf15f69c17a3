/-! the reference's lower methods -/
theorem tk_c0 : (0 : Int32).toNatClampNeg = 0 := rfl
theorem tk_c1 : (1 : Int32).toNatClampNeg = 1 := rfl
theorem tk_c2 : (2 : Int32).toNatClampNeg = 2 := rfl
theorem tk_c3 : (3 : Int32).toNatClampNeg = 3 := rfl
theorem tk_c4 : (4 : Int32).toNatClampNeg = 4 := rfl
theorem tk_c5 : (5 : Int32).toNatClampNeg = 5 := rfl
theorem tk_c6 : (6 : Int32).toNatClampNeg = 6 := rfl
theorem tk_c7 : (7 : Int32).toNatClampNeg = 7 := rfl
theorem tk_c8 : (8 : Int32).toNatClampNeg = 8 := rfl
theorem tk_c9 : (9 : Int32).toNatClampNeg = 9 := rfl
theorem tk_c10 : (10 : Int32).toNatClampNeg = 10 := rfl
theorem tk_c11 : (11 : Int32).toNatClampNeg = 11 := rfl
theorem tk_c12 : (12 : Int32).toNatClampNeg = 12 := rfl
theorem tk_c13 : (13 : Int32).toNatClampNeg = 13 := rfl
/-- what the reference uses as it looks: kerb, toGo -/
def tk_Sm (σ σ' : Nat → Nat → Int32) : Prop := ∀ x y, ¬ (x = 47 ∧ (y = 27 ∨ y = 28)) → σ' x y = σ x y
theorem tk_Sm.rf {σ : Nat → Nat → Int32} : tk_Sm σ σ := fun _ _ _ => rfl
theorem tk_Sm.tr {σ1 σ2 σ3 : Nat → Nat → Int32} (h1 : tk_Sm σ1 σ2) (h2 : tk_Sm σ2 σ3) : tk_Sm σ1 σ3 := fun x y h => (h2 x y h).trans (h1 x y h)
theorem tk_Sm.up {σ σ' : Nat → Nat → Int32} (h : tk_Sm σ σ') {k : Nat} (hk : k = 27 ∨ k = 28) (v : Int32) : tk_Sm σ (tk_up σ' 47 k v) := fun x y hx => by
  rw [tk_up, if_neg (fun q => hx ⟨q.1, by rw [q.2]; exact hk⟩)]
  exact h x y hx
theorem tk_Sm.at {σ σ' : Nat → Nat → Int32} (h : tk_Sm σ σ') {x : Nat} (hx : x ≠ 47) (y : Nat) : σ' x y = σ x y := h x y (fun q => hx q.1)
theorem tk_Sm.F {σ σ' : Nat → Nat → Int32} (h : tk_Sm σ σ') : tk_F σ' = tk_F σ := by
  funext i k
  unfold tk_F
  split <;> exact h.at (by decide) _
/-- every public call of the reference first sets thrown, which is 0, to 0 -/
theorem tk_thr {M : tk_Md} {T : tk_Tb} (hT : ∀ x ∈ T, tk_So none M x.1 x.2) (h0 : tk_at T 0 = some (tk_al 0 1)) (h1 : tk_at T 1 = some (tk_ic 0 2)) (h2 : tk_at T 2 = some (tk_pI 7 0 5)) {l : Launch} {D : va_G} {cy : Nat → ClassId} {q : tk_Po} {L : List (Option Value)}
    {σ : Nat → Nat → Int32} {ρ : Nat → Nat → Option Nat} {τ : Nat → Nat → Int64} (hz : σ 47 0 = 0) (hJ : tk_J l D cy none M (5, some (.ref 47) :: L, [], (σ, ρ, τ, 62), 0, 0) q) : tk_J l D cy none M (0, some (.ref 47) :: L, [], (σ, ρ, τ, 62), 0, 0) q := by
  have e : tk_up σ 47 0 0 = σ := by
    have := tk_up_id σ 47 0
    rw [hz] at this
    exact this
  refine tk_run hT [5] 3 _ ?_
  simp only [tk_go, h0, h1, h2, tk_al, tk_ic, tk_nth, tk_is]
  show tk_J l D cy none M (5, some (.ref 47) :: L, [], (tk_up σ 47 0 0, ρ, τ, 62), 0, 0) q
  rw [e]
  exact hJ
/-- where it lies, or none -/
def tk_pl (s : Int32 × Int32) : Int32 := if s.2 = 0 then s.1 else -9
theorem tk_le_sub1 {k m : Int32} (hm : 0 ≤ m) : k ≤ m - 1 ↔ k < m := by
  obtain ⟨j, hj, rfl⟩ := nI_of (x := m) (fun h => Int32.not_le.mpr h hm)
  cases j with
  | zero =>
    have e : nI 0 - 1 = -1 := by decide
    rw [e, tk_i32, tk_i32l, show (-1 : Int32).toInt = -1 from rfl, show (nI 0).toInt = 0 from rfl]
    omega
  | succ j =>
    rw [nI_pred, tk_i32, tk_i32l, nI_toInt (by omega), nI_toInt (by omega)]
    omega
section
variable {t k : Int32} {σ : Nat → Nat → Int32} {a b : Nat} {τ : Nat → Nat → Int64}
theorem k_mKerb (h : 0 ≤ σ 49 0) : tk_Fn M_X7_isKerb [.ref 47, .int k] (σ, tk_rho a b, τ, 62) (some (.int (tk_b (0 ≤ k ∧ k < σ 49 0)))) (σ, tk_rho a b, τ, 62) := by
  refine tk_ct rfl rfl (Nat.le_of_ble_eq_true rfl) (fun l D cy => tk_run (hT_X7_isKerb none) [] 60 _ ?_)
  refine tk_cc (k_in _ _ _ _) (fun v9 μ9 h9 => ?_)
  obtain ⟨rfl, rfl⟩ := h9
  refine And.intro (tk_b01 _) (And.intro ?_ rfl)
  have e : tk_b (0 ≤ k ∧ k ≤ σ 49 0 - 1) = tk_b (0 ≤ k ∧ k < σ 49 0) := by simp only [tk_le_sub1 h]
  exact congrArg (fun z => some (Value.int z)) e
theorem k_mThing (h : 0 ≤ σ 49 1) : tk_Fn M_X7_isThing [.ref 47, .int k] (σ, tk_rho a b, τ, 62) (some (.int (tk_b (0 ≤ k ∧ k < σ 49 1)))) (σ, tk_rho a b, τ, 62) := by
  refine tk_ct rfl rfl (Nat.le_of_ble_eq_true rfl) (fun l D cy => tk_run (hT_X7_isThing none) [] 60 _ ?_)
  refine tk_cc (k_in _ _ _ _) (fun v9 μ9 h9 => ?_)
  obtain ⟨rfl, rfl⟩ := h9
  refine And.intro (tk_b01 _) (And.intro ?_ rfl)
  have e : tk_b (0 ≤ k ∧ k ≤ σ 49 1 - 1) = tk_b (0 ≤ k ∧ k < σ 49 1) := by simp only [tk_le_sub1 h]
  exact congrArg (fun z => some (Value.int z)) e
theorem k_mTied : tk_Fn M_X7_isTied [.ref 47, .int k] (σ, tk_rho a b, τ, 62) (some (.int (tk_b ((σ 55 11 >>> (k &&& 31)) &&& 1 = 1)))) (σ, tk_rho a b, τ, 62) := by
  refine tk_ct rfl rfl (Nat.le_of_ble_eq_true rfl) (fun l D cy => tk_run (hT_X7_isTied none) [] 60 _ ?_)
  refine And.intro (fun h1 => ?_) (fun h1 => ?_)
  all_goals try dsimp only [tk_c0, tk_c1, tk_c2, tk_c3, tk_c4, tk_c5, tk_c6, tk_c7, tk_c8, tk_c9, tk_c10, tk_c11, tk_c12, tk_c13] at h1
  · refine And.intro (by first | exact Or.inl rfl | exact Or.inr rfl) (And.intro ?_ rfl)
    rw [tk_bT h1]
  · refine And.intro (by first | exact Or.inl rfl | exact Or.inr rfl) (And.intro ?_ rfl)
    rw [tk_bF h1]
theorem k_mLev (h : 2 ≤ σ 49 2) : tk_Fn M_X7_levelOf [.ref 47, .int k] (σ, tk_rho a b, τ, 62) (some (.int (tk_lv' (tk_F σ) k))) (σ, tk_rho a b, τ, 62) := by
  have h0 : ¬ σ 49 2 = 0 := fun h1 => by rw [h1] at h; exact absurd h (by decide)
  refine tk_ct rfl rfl (Nat.le_of_ble_eq_true rfl) (fun l D cy => tk_run (hT_X7_levelOf none) [] 60 _ ?_)
  exact And.intro h0 (And.intro rfl rfl)
theorem k_takesUp {j : Nat} (hj : j < 5) : tk_Fn M_X7_takesUp [.ref 47, .int (nI j)] (σ, tk_rho a b, τ, 62) none (tk_up (tk_up σ 47 27 (σ 55 (1 + j))) 47 28 (σ 55 (6 + j)), tk_rho a b, τ, 62) := by
  have e1 : (1 : Int32) + nI j = nI (1 + j) := nI_add 1 j
  have e6 : (6 : Int32) + nI j = nI (6 + j) := nI_add 6 j
  refine tk_ct rfl rfl (Nat.le_of_ble_eq_true rfl) (fun l D cy => tk_run (hT_X7_takesUp none) [] 60 _ ?_)
  refine tk_ift (by dsimp only; rw [e1]; exact tk_in_nI (n := 13) (by omega) (by decide)) ?_
  refine tk_ift (by dsimp only; rw [e6]; exact tk_in_nI (n := 13) (by omega) (by decide)) ?_
  refine And.intro rfl ?_
  dsimp only
  rw [e1, e6, nI_clamp (by omega), nI_clamp (by omega), tk_up_p σ _ _ (by decide : (55 : Nat) ≠ 47)]
/-- where: the reference's loop -/
theorem tk_ng {E : Nat → Nat → Int32} {s : Int32 × Int32} (h : tk_VS E s) : s.2 ≤ 0 ↔ s.2 = 0 := by
  have h2 := h.2.1
  constructor
  · intro h1
    exact Int32.le_antisymm h1 h2
  · intro h1
    rw [h1]
    exact Int32.le_refl 0
theorem tk_kI16 {E : Nat → Nat → Int32} (hE : tk_VE E) {k : Int32} (h : tk_kI E k) : 0 ≤ k ∧ k < nI 16 := ⟨h.1, Int32.lt_of_lt_of_le h.2 (Int32.le_trans hE.2.2.2.2.1.2 (by decide))⟩
theorem k_mWhere_loop {l : Launch} {D : va_G} {cy : Nat → ClassId} {N : Nat} {s : Int32 × Int32} (hE : tk_VE (tk_F σ)) (hs : tk_VS (tk_F σ) s) (hN : N ≤ 400) (ht : ¬ (σ 55 11 >>> (t &&& 31)) &&& 1 = 1) :
    ∀ (d j : Nat) (σi : Nat → Nat → Int32), j + d = N → tk_Sm σ σi → (σi 47 27, σi 47 28) = tk_it (tk_F σ) (σ 55 0) j s →
    tk_J l D cy none M_X7_where (33, [some (.ref 47), some (.int t), some (.int (nI N)), some (.int (nI j))], [], (σi, tk_rho a b, τ, 62), 0, 0)
      (fun v μ' => v = some (.int (tk_pl (tk_it (tk_F σ) (σ 55 0) N s))) ∧ ∃ σ', μ' = (σ', tk_rho a b, τ, 62) ∧ tk_Sm σ σ') := by
  intro d
  induction d with
  | zero =>
    intro j σi hj hf hi
    have hV := tk_it_V (t := σ 55 0) hE hs j
    rw [← hi] at hV
    refine tk_run (hT_X7_where none) [33] 40 _ ?_
    refine And.intro (fun h1 => ?_) (fun h1 => ?_)
    all_goals try dsimp only [tk_c0, tk_c1, tk_c2, tk_c3, tk_c4, tk_c5, tk_c6, tk_c7, tk_c8, tk_c9, tk_c10, tk_c11, tk_c12, tk_c13] at h1
    · refine And.intro (fun h2 => ?_) (fun h2 => ?_)
      all_goals try dsimp only [tk_c0, tk_c1, tk_c2, tk_c3, tk_c4, tk_c5, tk_c6, tk_c7, tk_c8, tk_c9, tk_c10, tk_c11, tk_c12, tk_c13] at h2
      · refine And.intro ?_ ⟨σi, rfl, hf⟩
        rw [← hj, Nat.add_zero, ← hi, tk_pl, if_pos ((tk_ng hV).mp h2)]
      · refine And.intro ?_ ⟨σi, rfl, hf⟩
        rw [← hj, Nat.add_zero, ← hi, tk_pl, if_neg (fun h => h2 ((tk_ng hV).mpr h))]
    · exact absurd (nI_le (by omega) (by omega)) h1
  | succ d ih =>
    intro j σi hj hf hi
    have hV := tk_it_V (t := σ 55 0) hE hs j
    rw [← hi] at hV
    have hF := hf.F
    have hVF : tk_VS (tk_F σi) (σi 47 27, σi 47 28) := by rw [hF]; exact hV
    have hEF : tk_VE (tk_F σi) := by rw [hF]; exact hE
    have e0 : σi 55 0 = σ 55 0 := hf.at (by decide) 0
    have e11 : σi 55 11 = σ 55 11 := hf.at (by decide) 11
    refine tk_run (hT_X7_where none) [33] 40 _ ?_
    refine And.intro (fun h1 => ?_) (fun h1 => ?_)
    all_goals try dsimp only [tk_c0, tk_c1, tk_c2, tk_c3, tk_c4, tk_c5, tk_c6, tk_c7, tk_c8, tk_c9, tk_c10, tk_c11, tk_c12, tk_c13] at h1
    · exact absurd h1 (nI_ge (by omega) (by omega))
    · refine tk_cc (k_mTied) (fun v9 μ9 h9 => ?_)
      obtain ⟨rfl, rfl⟩ := h9
      refine And.intro (fun h2 => ?_) (fun h2 => ?_)
      all_goals try dsimp only [tk_c0, tk_c1, tk_c2, tk_c3, tk_c4, tk_c5, tk_c6, tk_c7, tk_c8, tk_c9, tk_c10, tk_c11, tk_c12, tk_c13] at h2
      · refine tk_cc (k_mLev hEF.1) (fun v9 μ9 h9 => ?_)
        obtain ⟨rfl, rfl⟩ := h9
        refine tk_cc (k_goes (tk_kI16 hEF hVF.1) (hEF.2.2.2.2.2.2 _ hVF.1).2.1) (fun v9 μ9 h9 => ?_)
        obtain ⟨rfl, rfl⟩ := h9
        have h9 := ih (j + 1) _ (by omega) ((hf.up (k := 27) (by decide) (tk_s1 (tk_F σi) (tk_lv' (tk_F σi) (σi 55 0 + nI j)) (σi 47 27, σi 47 28)).1).up (k := 28) (by decide) (tk_s1 (tk_F σi) (tk_lv' (tk_F σi) (σi 55 0 + nI j)) (σi 47 27, σi 47 28)).2) (by
          rw [tk_up_at, tk_up_k _ _ _ (by decide), tk_up_at, hF, e0, hi]
          rfl)
        rw [← nI_1] at h9
        exact h9
      · exact absurd (by rw [e11]; exact tk_bF ht) h2
theorem k_mWhere {n : Int32} (hz : σ 47 0 = 0) (hE : tk_VE (tk_F σ)) (hT : ∀ j : Nat, j < 5 → nI j < σ 49 1 → tk_VS (tk_F σ) (σ 55 (1 + j), σ 55 (6 + j))) :
    tk_Ct M_X7_where [.ref 47, .int t, .int n] (σ, tk_rho a b, τ, 62) (fun v μ' => v = some (.int (if (0 ≤ t ∧ t < σ 49 1) ∧ (0 ≤ n ∧ n ≤ 400) then tk_pl (if (σ 55 11 >>> (t &&& 31)) &&& 1 = 1 then (σ 55 (1 + t.toNatClampNeg), σ 55 (6 + t.toNatClampNeg)) else tk_it (tk_F σ) (σ 55 0) n.toNatClampNeg (σ 55 (1 + t.toNatClampNeg), σ 55 (6 + t.toNatClampNeg))) else -1)) ∧ ∃ σ', μ' = (σ', tk_rho a b, τ, 62) ∧ tk_Sm σ σ') := by
  have hf0 : tk_Sm σ σ := tk_Sm.rf
  refine tk_ct rfl rfl (Nat.le_of_ble_eq_true rfl) (fun l D cy => tk_thr (hT_X7_where none) rfl rfl rfl hz (tk_run (hT_X7_where none) [33] 40 _ ?_))
  refine tk_cc (k_mThing hE.2.2.2.2.2.1.1) (fun v9 μ9 h9 => ?_)
  obtain ⟨rfl, rfl⟩ := h9
  refine And.intro (fun h1 => ?_) (fun h1 => ?_)
  all_goals try dsimp only [tk_c0, tk_c1, tk_c2, tk_c3, tk_c4, tk_c5, tk_c6, tk_c7, tk_c8, tk_c9, tk_c10, tk_c11, tk_c12, tk_c13] at h1
  · refine And.intro ?_ ⟨_, rfl, hf0⟩
    rw [if_neg (fun h => tk_b0.mp h1 h.1)]
  · have h1 := Decidable.not_not.mp (fun h => h1 (tk_b0.mpr h))
    refine tk_cc (k_in _ _ _ _) (fun v9 μ9 h9 => ?_)
    obtain ⟨rfl, rfl⟩ := h9
    refine And.intro (fun h2 => ?_) (fun h2 => ?_)
    all_goals try dsimp only [tk_c0, tk_c1, tk_c2, tk_c3, tk_c4, tk_c5, tk_c6, tk_c7, tk_c8, tk_c9, tk_c10, tk_c11, tk_c12, tk_c13] at h2
    · refine And.intro ?_ ⟨_, rfl, hf0⟩
      rw [if_neg (fun h => tk_b0.mp h2 h.2)]
    · have h2 := Decidable.not_not.mp (fun h => h2 (tk_b0.mpr h))
      rw [if_pos ⟨h1, h2⟩]
      obtain ⟨j, hj, rfl⟩ := nI_of2 (M := 4) (n := 4) rfl (Int32.not_lt.mpr h1.1) (by
        have h5 := hE.2.2.2.2.2.1.2
        have h6 := h1.2
        rw [tk_i32]
        have h7 : (tk_F σ 3 4) = σ 49 1 := rfl
        rw [h7, tk_i32] at h5
        rw [tk_i32l] at h6
        have h8 : (nI 5).toInt = 5 := rfl
        have h9 : (4 : Int32).toInt = 4 := rfl
        omega)
      obtain ⟨N, hN, rfl⟩ := nI_of2 (M := 400) (n := 400) rfl (Int32.not_lt.mpr h2.1) h2.2
      have hs := hT j (by omega) h1.2
      rw [nI_clamp (by omega), nI_clamp (by omega)]
      refine tk_cc (k_takesUp (by omega : j < 5)) (fun v9 μ9 h9 => ?_)
      obtain ⟨rfl, rfl⟩ := h9
      have hf1 : tk_Sm σ (tk_up (tk_up σ 47 27 (σ 55 (1 + j))) 47 28 (σ 55 (6 + j))) := (hf0.up (Or.inl rfl) _).up (Or.inr rfl) _
      by_cases ht : (σ 55 11 >>> (nI j &&& 31)) &&& 1 = 1
      · rw [if_pos ht]
        have hV : tk_VS (tk_F σ) (σ 55 (1 + j), σ 55 (6 + j)) := hs
        have e2 : ∀ v w, tk_up (tk_up σ 47 27 v) 47 28 w 55 11 = σ 55 11 := fun v w => by rw [tk_up_p _ _ _ (by decide), tk_up_p _ _ _ (by decide)]
        have e3 : ∀ v w, tk_up (tk_up σ 47 27 v) 47 28 w 47 28 = w := fun v w => tk_up_at _ _ _ _
        have e4 : ∀ v w, tk_up (tk_up σ 47 27 v) 47 28 w 47 27 = v := fun v w => by rw [tk_up_k _ _ _ (by decide), tk_up_at]
        have fin : ∀ x : Int32, x = tk_pl (σ 55 (1 + j), σ 55 (6 + j)) → some (Value.int x) = some (Value.int (tk_pl (σ 55 (1 + j), σ 55 (6 + j)))) := fun x h => by rw [h]
        refine tk_run (hT_X7_where none) [33] 40 _ ?_
        refine And.intro (fun h3 => ?_) (fun h3 => ?_)
        all_goals try dsimp only [tk_c0, tk_c1, tk_c2, tk_c3, tk_c4, tk_c5, tk_c6, tk_c7, tk_c8, tk_c9, tk_c10, tk_c11, tk_c12, tk_c13] at h3
        · refine And.intro (fun h4 => ?_) (fun h4 => ?_)
          all_goals try dsimp only [tk_c0, tk_c1, tk_c2, tk_c3, tk_c4, tk_c5, tk_c6, tk_c7, tk_c8, tk_c9, tk_c10, tk_c11, tk_c12, tk_c13] at h4
          · refine And.intro (fin _ ?_) ⟨_, rfl, hf1⟩
            rw [e3] at h4
            rw [e4, tk_pl, if_pos ((tk_ng hV).mp h4)]
          · refine And.intro (fin _ ?_) ⟨_, rfl, hf1⟩
            rw [e3] at h4
            rw [tk_pl, if_neg (fun h => h4 ((tk_ng hV).mpr h))]
        · refine tk_cc (k_mTied) (fun v9 μ9 h9 => ?_)
          obtain ⟨rfl, rfl⟩ := h9
          refine And.intro (fun h5 => ?_) (fun h5 => ?_)
          all_goals try dsimp only [tk_c0, tk_c1, tk_c2, tk_c3, tk_c4, tk_c5, tk_c6, tk_c7, tk_c8, tk_c9, tk_c10, tk_c11, tk_c12, tk_c13] at h5
          · exact absurd (by rw [e2]; exact ht) (tk_b0.mp h5)
          · refine And.intro (fun h4 => ?_) (fun h4 => ?_)
            all_goals try dsimp only [tk_c0, tk_c1, tk_c2, tk_c3, tk_c4, tk_c5, tk_c6, tk_c7, tk_c8, tk_c9, tk_c10, tk_c11, tk_c12, tk_c13] at h4
            · refine And.intro (fin _ ?_) ⟨_, rfl, hf1⟩
              rw [e3] at h4
              rw [e4, tk_pl, if_pos ((tk_ng hV).mp h4)]
            · refine And.intro (fin _ ?_) ⟨_, rfl, hf1⟩
              rw [e3] at h4
              rw [tk_pl, if_neg (fun h => h4 ((tk_ng hV).mpr h))]
      · rw [if_neg ht]
        refine k_mWhere_loop hE hs hN ht N 0 _ (by omega) hf1 ?_
        rw [tk_up_at, tk_up_k _ _ _ (by decide), tk_up_at]
        rfl
end
