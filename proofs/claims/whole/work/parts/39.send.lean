/-! send, of both sides -/
def tk_sdS (r : Option (Nat × Nat)) (n : Nat) (o : Option Nat) : Option (Nat × Nat) := match o with
  | none => r
  | some c => match r with
    | none => some (n, c)
    | some q => if c < q.2 then some (n, c) else some q
/-- the kerb of w's town from which it is soonest on k -/
def tk_sd (E : Nat → Nat → Int32) (t w k : Int32) : Nat → Option (Nat × Nat)
  | 0 => none
  | n + 1 => if E 4 n = E 4 w.toNatClampNeg then tk_sdS (tk_sd E t w k n) n (tk_sn E t 0 (nI n, 0) k) else tk_sd E t w k n
def tk_bf (r : Option (Nat × Nat)) : Int32 := match r with
  | none => -9
  | some q => nI q.1
def tk_bs (r : Option (Nat × Nat)) (t : Int32) : Int32 := match r with
  | none => -9
  | some q => t + nI q.2
theorem tk_sn_le {E : Nat → Nat → Int32} {t d : Int32} {s : Int32 × Int32} {k : Int32} {c : Nat} (h : tk_sn E t d s k = some c) : c ≤ 400 := by
  have := (tk_fst_lt 401 0 c h).2
  omega
theorem tk_sd_le {E : Nat → Nat → Int32} {t w k : Int32} : ∀ (n : Nat) (q : Nat × Nat), tk_sd E t w k n = some q → q.2 ≤ 400 ∧ q.1 < n
  | 0, q, h => by cases h
  | n + 1, q, h => by
    have ih := tk_sd_le (E := E) (t := t) (w := w) (k := k) n
    rw [tk_sd] at h
    split at h
    · cases ho : tk_sn E t 0 (nI n, 0) k with
      | none =>
        rw [ho] at h
        have := ih q h
        exact ⟨this.1, by omega⟩
      | some c =>
        have hc := tk_sn_le ho
        rw [ho] at h
        cases hr : tk_sd E t w k n with
        | none =>
          rw [hr] at h
          simp only [tk_sdS, Option.some.injEq] at h
          subst h
          exact ⟨hc, by omega⟩
        | some p =>
          rw [hr] at h
          have hp := ih p hr
          simp only [tk_sdS] at h
          split at h
          · simp only [Option.some.injEq] at h
            subst h
            exact ⟨hc, by omega⟩
          · simp only [Option.some.injEq] at h
            subst h
            exact ⟨hp.1, by omega⟩
    · have := ih q h
      exact ⟨this.1, by omega⟩
theorem tk_n9 {n : Nat} (h : n < 2 ^ 31) : ¬ nI n = -9 := fun q => absurd (nI_pos h) (fun f => f (by rw [q]; decide))
theorem tk_on9 {o : Option Nat} {T : Nat} (hT : T ≤ 9999) (ho : ∀ c, o = some c → c ≤ 400) : tk_on o (nI T) = -9 ↔ o = none := by
  cases o with
  | none => exact ⟨fun _ => rfl, fun _ => rfl⟩
  | some c =>
    have := ho c rfl
    refine ⟨fun h => ?_, fun h => by cases h⟩
    rw [tk_on, nI_add] at h
    exact absurd h (tk_n9 (by omega))
theorem tk_bs9 {r : Option (Nat × Nat)} {T : Nat} (hT : T ≤ 9999) (hr : ∀ q, r = some q → q.2 ≤ 400) : tk_bs r (nI T) = -9 ↔ r = none := by
  cases r with
  | none => exact ⟨fun _ => rfl, fun _ => rfl⟩
  | some q =>
    have := hr q rfl
    refine ⟨fun h => ?_, fun h => by cases h⟩
    rw [tk_bs, nI_add] at h
    exact absurd h (tk_n9 (by omega))
theorem tk_sdA {o : Option Nat} {r : Option (Nat × Nat)} {T j : Nat} {t0 : Int32} (eT : t0 = nI T) (hT : T ≤ 9999) (ho : ∀ c, o = some c → c ≤ 400) (hr : ∀ q, r = some q → q.2 ≤ 400) :
    (tk_on o t0 = -9 → tk_sdS r j o = r) ∧ (¬ tk_on o t0 = -9 → (tk_bs r t0 = -9 ∨ ¬ tk_bs r t0 ≤ tk_on o t0) → tk_bf (tk_sdS r j o) = nI j ∧ tk_bs (tk_sdS r j o) t0 = tk_on o t0) ∧ (¬ tk_on o t0 = -9 → ¬ tk_bs r t0 = -9 → tk_bs r t0 ≤ tk_on o t0 → tk_sdS r j o = r) := by
  subst eT
  rw [tk_on9 hT ho, tk_bs9 hT hr]
  refine ⟨fun h => by rw [h]; rfl, fun h1 h2 => ?_, fun h1 h2 h3 => ?_⟩
  · cases o with
    | none => exact absurd rfl h1
    | some c =>
      have hc := ho c rfl
      cases r with
      | none => exact ⟨rfl, rfl⟩
      | some q =>
        have hq := hr q rfl
        rcases h2 with h2 | h2
        · cases h2
        · rw [tk_bs, tk_on, nI_add, nI_add, nI_leI (by omega) (by omega)] at h2
          rw [tk_sdS, if_pos (show c < q.2 by omega)]
          exact ⟨rfl, rfl⟩
  · cases o with
    | none => exact absurd rfl h1
    | some c =>
      have hc := ho c rfl
      cases r with
      | none => exact absurd rfl h2
      | some q =>
        have hq := hr q rfl
        rw [tk_bs, tk_on, nI_add, nI_add, nI_leI (by omega) (by omega)] at h3
        rw [tk_sdS, if_neg (show ¬ c < q.2 by omega)]
theorem tk_VS0 {E : Nat → Nat → Int32} {j N : Nat} (e : E 3 3 = nI N) (hN : N ≤ 8) (hj : j < N) : tk_VS E (nI j, 0) := ⟨⟨nI_pos' (by omega), by rw [e]; exact nI_lt hj (by omega)⟩, Int32.le_refl 0, (by decide : (0 : Int32) ≤ 3)⟩
section
variable {t k u n w : Int32} {σ : Nat → Nat → Int32} {a b : Nat} {τ : Nat → Nat → Int64}
theorem k_cSend {N T : Nat} (ha : tk_tw a) (hE : tk_VE (tk_E σ a)) (hT : tk_CT a σ) (hN : N ≤ 8) (e3 : σ a 3 = nI N) (hTd : T ≤ 9999) (eT : σ 16 0 = nI T) :
    tk_Ct M_X6_send [.ref 1, .int t, .int k, .int w] (σ, tk_rho a b, τ, 62) (fun v μ' => v = some (.int (if (0 ≤ t ∧ t < σ a 4) ∧ (0 ≤ k ∧ k < σ a 3) ∧ (0 ≤ w ∧ w ≤ 1) then (if σ (18 + t.toNatClampNeg) 1 = 0 then (if w = 0 then tk_bf (tk_sd (tk_E σ a) (σ 16 0) (σ (18 + t.toNatClampNeg) 0) k N) else tk_bs (tk_sd (tk_E σ a) (σ 16 0) (σ (18 + t.toNatClampNeg) 0) k N) (σ 16 0)) else -2) else -1)) ∧ ∃ σ', μ' = (σ', tk_rho a b, τ, 62) ∧ tk_Sc σ σ') := by
  have hf0 : tk_Sc σ σ := tk_Sc.rf
  refine tk_ct rfl rfl (Nat.le_of_ble_eq_true rfl) (fun l D cy => tk_run (hT_X6_send none) [66] 60 _ ?_)
  refine tk_ift (tk_twok ha) ?_
  refine tk_cc (k_isThing ha) (fun v9 μ9 h9 => ?_)
  obtain ⟨rfl, rfl⟩ := h9
  refine And.intro (fun h1 => ?_) (fun h1 => ?_)
  all_goals try dsimp only [tk_c0, tk_c1, tk_c2, tk_c3, tk_c4, tk_c5, tk_c6, tk_c7, tk_c8, tk_c9, tk_c10, tk_c11, tk_c12, tk_c13] at h1
  · refine And.intro ?_ ⟨_, rfl, hf0⟩
    rw [if_neg (fun h => tk_b0.mp h1 h.1)]
  · have h1 := Decidable.not_not.mp (fun h => h1 (tk_b0.mpr h))
    refine tk_ift (tk_twok ha) ?_
    refine tk_cc (k_isKerb ha) (fun v9 μ9 h9 => ?_)
    obtain ⟨rfl, rfl⟩ := h9
    refine And.intro (fun h2 => ?_) (fun h2 => ?_)
    all_goals try dsimp only [tk_c0, tk_c1, tk_c2, tk_c3, tk_c4, tk_c5, tk_c6, tk_c7, tk_c8, tk_c9, tk_c10, tk_c11, tk_c12, tk_c13] at h2
    · refine And.intro ?_ ⟨_, rfl, hf0⟩
      rw [if_neg (fun h => tk_b0.mp h2 h.2.1)]
    · have h2 := Decidable.not_not.mp (fun h => h2 (tk_b0.mpr h))
      refine tk_cc (k_isWithin _ _ _ _) (fun v9 μ9 h9 => ?_)
      obtain ⟨rfl, rfl⟩ := h9
      refine And.intro (fun h3 => ?_) (fun h3 => ?_)
      all_goals try dsimp only [tk_c0, tk_c1, tk_c2, tk_c3, tk_c4, tk_c5, tk_c6, tk_c7, tk_c8, tk_c9, tk_c10, tk_c11, tk_c12, tk_c13] at h3
      · refine And.intro ?_ ⟨_, rfl, hf0⟩
        rw [if_neg (fun h => tk_b0.mp h3 h.2.2)]
      · have h3 := Decidable.not_not.mp (fun h => h3 (tk_b0.mpr h))
        rw [if_pos ⟨h1, h2, h3⟩]
        obtain ⟨j0, hj0, rfl⟩ := tk_ix h1 hE.2.2.2.2.2.1.2 (by decide)
        have hs := hT j0 (by omega) h1.2
        rw [nI_clamp (by omega)]
        refine tk_ift (tk_in_nI (n := 5) hj0 (by decide)) ?_
        refine tk_osi (by rw [nI_clamp (by omega)]; exact tk_th hj0) ?_
        have hth := tk_thok hj0
        refine tk_ift hth ?_
        refine tk_cc (k_lies hth) (fun v9 μ9 h9 => ?_)
        obtain ⟨rfl, rfl⟩ := h9
        refine And.intro (fun h4 => ?_) (fun h4 => ?_)
        all_goals try dsimp only [tk_c0, tk_c1, tk_c2, tk_c3, tk_c4, tk_c5, tk_c6, tk_c7, tk_c8, tk_c9, tk_c10, tk_c11, tk_c12, tk_c13] at h4
        · refine And.intro ?_ ⟨_, rfl, hf0⟩
          rw [if_neg (fun h => tk_b0.mp h4 h)]
        · have h4 := Decidable.not_not.mp (fun h => h4 (tk_b0.mpr h))
          rw [if_pos h4]
          have loop : ∀ (n j : Nat) (i bb ss : Int32) (L8 : Option Value) (σi : Nat → Nat → Int32), i = nI j → j + n = N → bb = tk_bf (tk_sd (tk_E σ a) (σ 16 0) (σ (18 + j0) 0) k j) → ss = tk_bs (tk_sd (tk_E σ a) (σ 16 0) (σ (18 + j0) 0) k j) (σ 16 0) → tk_Sc σ σi →
              tk_J l D cy none M_X6_send (66, [some (.ref 1), some (.int (nI j0)), some (.int k), some (.int w), some (.ref (18 + j0)), some (.int bb), some (.int ss), some (.int i), L8], [], (σi, tk_rho a b, τ, 62), 0, 0)
                (fun v μ' => v = some (.int (if w = 0 then tk_bf (tk_sd (tk_E σ a) (σ 16 0) (σ (18 + j0) 0) k N) else tk_bs (tk_sd (tk_E σ a) (σ 16 0) (σ (18 + j0) 0) k N) (σ 16 0))) ∧ ∃ σ', μ' = (σ', tk_rho a b, τ, 62) ∧ tk_Sc σ σ') := by
            intro n
            induction n with
            | zero =>
              intro j i bb ss L8 σi hi hj hb hss hf
              subst hi
              obtain rfl : j = N := by omega
              have ea : σi a 3 = nI j := (congrFun (congrFun (hf.E ha) 3) 3).trans e3
              refine tk_run (hT_X6_send none) [66] 60 _ ?_
              refine tk_ift (tk_twok ha) ?_
              refine And.intro (fun h5 => ?_) (fun h5 => ?_)
              all_goals try dsimp only [tk_c0, tk_c1, tk_c2, tk_c3, tk_c4, tk_c5, tk_c6, tk_c7, tk_c8, tk_c9, tk_c10, tk_c11, tk_c12, tk_c13] at h5
              · refine And.intro (fun h6 => ?_) (fun h6 => ?_)
                all_goals try dsimp only [tk_c0, tk_c1, tk_c2, tk_c3, tk_c4, tk_c5, tk_c6, tk_c7, tk_c8, tk_c9, tk_c10, tk_c11, tk_c12, tk_c13] at h6
                · refine And.intro ?_ ⟨σi, rfl, hf⟩
                  rw [if_pos h6, hb]
                · refine And.intro ?_ ⟨σi, rfl, hf⟩
                  rw [if_neg h6, hss]
              · exact absurd (by rw [ea]; exact Int32.le_refl _) h5
            | succ n ih =>
              intro j i bb ss L8 σi hi hj hb hss hf
              subst hi
              have hEi := hf.E ha
              have ea : σi a 3 = nI N := (congrFun (congrFun hEi 3) 3).trans e3
              have e18 : σi (18 + j0) 0 = σ (18 + j0) 0 := hf _ _ (by omega) (by omega)
              have hjN : (0 : Int32) ≤ nI j ∧ nI j < σi a 3 := ⟨nI_pos' (by omega), by rw [ea]; exact nI_lt (by omega) (by omega)⟩
              have h0N : (0 : Int32) ≤ σi (18 + j0) 0 ∧ σi (18 + j0) 0 < σi a 3 := by
                rw [e18, ea, ← e3]
                exact hs.1.1
              have eto : σi (a + 1) (σi (18 + j0) 0).toNatClampNeg = σi (a + 1) (nI j).toNatClampNeg ↔ tk_E σ a 4 j = tk_E σ a 4 (σ (18 + j0) 0).toNatClampNeg := by
                rw [nI_clamp (by omega), e18, ← hEi]
                exact eq_comm
              have hA := tk_sdA (o := tk_sn (tk_E σ a) (σ 16 0) 0 (nI j, 0) k) (r := tk_sd (tk_E σ a) (σ 16 0) (σ (18 + j0) 0) k j) (j := j) eT hTd (fun c h => tk_sn_le h) (fun q h => (tk_sd_le j q h).1)
              rw [← hss] at hA
              refine tk_run (hT_X6_send none) [66] 80 _ ?_
              refine tk_ift (tk_twok ha) ?_
              refine And.intro (fun h5 => ?_) (fun h5 => ?_)
              all_goals try dsimp only [tk_c0, tk_c1, tk_c2, tk_c3, tk_c4, tk_c5, tk_c6, tk_c7, tk_c8, tk_c9, tk_c10, tk_c11, tk_c12, tk_c13] at h5
              · exact absurd h5 (by rw [ea]; exact nI_ge (by omega) (by omega))
              · refine tk_ift hth ?_
                refine tk_ift (tk_twok ha) ?_
                refine tk_cc (k_areOfOneTown ha (by rw [ea]; exact nI_le hN (by decide))) (fun v9 μ9 h9 => ?_)
                obtain ⟨rfl, rfl⟩ := h9
                refine And.intro (fun h6 => ?_) (fun h6 => ?_)
                all_goals try dsimp only [tk_c0, tk_c1, tk_c2, tk_c3, tk_c4, tk_c5, tk_c6, tk_c7, tk_c8, tk_c9, tk_c10, tk_c11, tk_c12, tk_c13] at h6
                · have hno : tk_sd (tk_E σ a) (σ 16 0) (σ (18 + j0) 0) k (j + 1) = tk_sd (tk_E σ a) (σ 16 0) (σ (18 + j0) 0) k j := by
                    rw [tk_sd, if_neg (fun h => tk_b0.mp h6 ⟨h0N, hjN, eto.mpr h⟩)]
                  exact ih (j + 1) _ _ _ _ σi (nI_1 j) (by omega) (by rw [hno]; exact hb) (by rw [hno]; exact hss) hf
                · have h6 := Decidable.not_not.mp (fun h => h6 (tk_b0.mpr h))
                  have hyes : tk_sd (tk_E σ a) (σ 16 0) (σ (18 + j0) 0) k (j + 1) = tk_sdS (tk_sd (tk_E σ a) (σ 16 0) (σ (18 + j0) 0) k j) j (tk_sn (tk_E σ a) (σ 16 0) 0 (nI j, 0) k) := by
                    rw [tk_sd, if_pos (eto.mp h6.2.2)]
                  refine tk_cc (k_lieOn (by decide)) (fun v9 μ9 h9 => ?_)
                  obtain ⟨rfl, rfl⟩ := h9
                  refine tk_cc (k_firstTide (d := 0) (s := (nI j, 0)) ha hE (tk_VS0 e3 hN (by omega)) (Or.inl rfl) (((hf.up (Or.inl rfl) _ _).up (Or.inl rfl) _ _).up (Or.inl rfl) _ _) (tk_up_at _ _ _ _) (by rw [tk_up_k _ _ _ (by decide), tk_up_k _ _ _ (by decide), tk_up_at, tk_up_k _ _ _ (by decide), tk_up_at])) (fun v9 μ9 h9 => ?_)
                  obtain ⟨rfl, σ3, rfl, hf3⟩ := h9
                  refine And.intro (fun h7 => ?_) (fun h7 => ?_)
                  all_goals try dsimp only [tk_c0, tk_c1, tk_c2, tk_c3, tk_c4, tk_c5, tk_c6, tk_c7, tk_c8, tk_c9, tk_c10, tk_c11, tk_c12, tk_c13] at h7
                  · have := hA.1 h7
                    exact ih (j + 1) _ _ _ _ σ3 (nI_1 j) (by omega) (by rw [hyes, this]; exact hb) (by rw [hyes, this]; exact hss) hf3
                  · refine And.intro (fun h8 => ?_) (fun h8 => ?_)
                    all_goals try dsimp only [tk_c0, tk_c1, tk_c2, tk_c3, tk_c4, tk_c5, tk_c6, tk_c7, tk_c8, tk_c9, tk_c10, tk_c11, tk_c12, tk_c13] at h8
                    · have := hA.2.1 h7 (Or.inl h8)
                      exact ih (j + 1) _ _ _ _ σ3 (nI_1 j) (by omega) (by rw [hyes, this.1]) (by rw [hyes, this.2]) hf3
                    · refine And.intro (fun h9 => ?_) (fun h9 => ?_)
                      all_goals try dsimp only [tk_c0, tk_c1, tk_c2, tk_c3, tk_c4, tk_c5, tk_c6, tk_c7, tk_c8, tk_c9, tk_c10, tk_c11, tk_c12, tk_c13] at h9
                      · have := hA.2.2 h7 h8 h9
                        exact ih (j + 1) _ _ _ _ σ3 (nI_1 j) (by omega) (by rw [hyes, this]; exact hb) (by rw [hyes, this]; exact hss) hf3
                      · have := hA.2.1 h7 (Or.inr h9)
                        exact ih (j + 1) _ _ _ _ σ3 (nI_1 j) (by omega) (by rw [hyes, this.1]) (by rw [hyes, this.2]) hf3
          exact loop N 0 _ _ _ _ σ rfl (by omega) rfl rfl hf0
theorem k_mSend {N T : Nat} (hz : σ 47 0 = 0) (hE : tk_VE (tk_F σ)) (hT : tk_MT σ) (hN : N ≤ 8) (e3 : σ 49 0 = nI N) (hTd : T ≤ 9999) (eT : σ 55 0 = nI T) :
    tk_Ct M_X7_send [.ref 47, .int t, .int k, .int w] (σ, tk_rho a b, τ, 62) (fun v μ' => v = some (.int (if (0 ≤ t ∧ t < σ 49 1) ∧ (0 ≤ k ∧ k < σ 49 0) ∧ (0 ≤ w ∧ w ≤ 1) then (if σ 55 (6 + t.toNatClampNeg) = 0 then (if w = 0 then tk_bf (tk_sd (tk_F σ) (σ 55 0) (σ 55 (1 + t.toNatClampNeg)) k N) else tk_bs (tk_sd (tk_F σ) (σ 55 0) (σ 55 (1 + t.toNatClampNeg)) k N) (σ 55 0)) else -2) else -1)) ∧ ∃ σ', μ' = (σ', tk_rho a b, τ, 62) ∧ tk_Sm σ σ') := by
  have hf0 : tk_Sm σ σ := tk_Sm.rf
  refine tk_ct rfl rfl (Nat.le_of_ble_eq_true rfl) (fun l D cy => tk_thr (hT_X7_send none) rfl rfl rfl hz (tk_run (hT_X7_send none) [58] 60 _ ?_))
  refine tk_cc (k_mThing hE.2.2.2.2.2.1.1) (fun v9 μ9 h9 => ?_)
  obtain ⟨rfl, rfl⟩ := h9
  refine And.intro (fun h1 => ?_) (fun h1 => ?_)
  all_goals try dsimp only [tk_c0, tk_c1, tk_c2, tk_c3, tk_c4, tk_c5, tk_c6, tk_c7, tk_c8, tk_c9, tk_c10, tk_c11, tk_c12, tk_c13] at h1
  · refine And.intro ?_ ⟨_, rfl, hf0⟩
    rw [if_neg (fun h => tk_b0.mp h1 h.1)]
  · have h1 := Decidable.not_not.mp (fun h => h1 (tk_b0.mpr h))
    refine tk_cc (k_mKerb hE.2.2.2.2.1.1) (fun v9 μ9 h9 => ?_)
    obtain ⟨rfl, rfl⟩ := h9
    refine And.intro (fun h2 => ?_) (fun h2 => ?_)
    all_goals try dsimp only [tk_c0, tk_c1, tk_c2, tk_c3, tk_c4, tk_c5, tk_c6, tk_c7, tk_c8, tk_c9, tk_c10, tk_c11, tk_c12, tk_c13] at h2
    · refine And.intro ?_ ⟨_, rfl, hf0⟩
      rw [if_neg (fun h => tk_b0.mp h2 h.2.1)]
    · have h2 := Decidable.not_not.mp (fun h => h2 (tk_b0.mpr h))
      refine tk_cc (k_in _ _ _ _) (fun v9 μ9 h9 => ?_)
      obtain ⟨rfl, rfl⟩ := h9
      refine And.intro (fun h3 => ?_) (fun h3 => ?_)
      all_goals try dsimp only [tk_c0, tk_c1, tk_c2, tk_c3, tk_c4, tk_c5, tk_c6, tk_c7, tk_c8, tk_c9, tk_c10, tk_c11, tk_c12, tk_c13] at h3
      · refine And.intro ?_ ⟨_, rfl, hf0⟩
        rw [if_neg (fun h => tk_b0.mp h3 h.2.2)]
      · have h3 := Decidable.not_not.mp (fun h => h3 (tk_b0.mpr h))
        rw [if_pos ⟨h1, h2, h3⟩]
        obtain ⟨j0, hj0, rfl⟩ := tk_ix h1 hE.2.2.2.2.2.1.2 (by decide)
        have hs := hT j0 (by omega) h1.2
        have hng : σ 55 (6 + j0) ≤ 0 ↔ σ 55 (6 + j0) = 0 := tk_ng hs
        have e6 : (6 : Int32) + nI j0 = nI (6 + j0) := nI_add 6 j0
        have e1 : (1 : Int32) + nI j0 = nI (1 + j0) := nI_add 1 j0
        have hw := tk_kI16 hE hs.1
        rw [nI_clamp (by omega)]
        refine tk_ift (by dsimp only; rw [e6]; exact tk_in_nI (n := 13) (by omega) (by decide)) ?_
        refine And.intro (fun h4 => ?_) (fun h4 => ?_)
        all_goals try dsimp only [tk_c0, tk_c1, tk_c2, tk_c3, tk_c4, tk_c5, tk_c6, tk_c7, tk_c8, tk_c9, tk_c10, tk_c11, tk_c12, tk_c13] at h4
        all_goals rw [e6, nI_clamp (by omega)] at h4
        · rw [if_pos (hng.mp h4)]
          have loop : ∀ (n j : Nat) (i bb ss : Int32) (L7 L8 : Option Value) (σi : Nat → Nat → Int32), i = nI j → j + n = N → bb = tk_bf (tk_sd (tk_F σ) (σ 55 0) (σ 55 (1 + j0)) k j) → ss = tk_bs (tk_sd (tk_F σ) (σ 55 0) (σ 55 (1 + j0)) k j) 0 → tk_Sm σ σi →
              tk_J l D cy none M_X7_send (58, [some (.ref 47), some (.int (nI j0)), some (.int k), some (.int w), some (.int bb), some (.int ss), some (.int i), L7, L8], [], (σi, tk_rho a b, τ, 62), 0, 0)
                (fun v μ' => v = some (.int (if w = 0 then tk_bf (tk_sd (tk_F σ) (σ 55 0) (σ 55 (1 + j0)) k N) else tk_bs (tk_sd (tk_F σ) (σ 55 0) (σ 55 (1 + j0)) k N) (σ 55 0))) ∧ ∃ σ', μ' = (σ', tk_rho a b, τ, 62) ∧ tk_Sm σ σ') := by
            intro n
            induction n with
            | zero =>
              intro j i bb ss L7 L8 σi hi hj hb hss hf
              subst hi
              obtain rfl : j = N := by omega
              have ea : σi 49 0 = nI j := (congrFun (congrFun hf.F 3) 3).trans e3
              have hle := tk_sd_le (E := tk_F σ) (t := σ 55 0) (w := σ 55 (1 + j0)) (k := k) j
              refine tk_run (hT_X7_send none) [58] 60 _ ?_
              refine And.intro (fun h5 => ?_) (fun h5 => ?_)
              all_goals try dsimp only [tk_c0, tk_c1, tk_c2, tk_c3, tk_c4, tk_c5, tk_c6, tk_c7, tk_c8, tk_c9, tk_c10, tk_c11, tk_c12, tk_c13] at h5
              · refine And.intro (fun h6 => ?_) (fun h6 => ?_)
                all_goals try dsimp only [tk_c0, tk_c1, tk_c2, tk_c3, tk_c4, tk_c5, tk_c6, tk_c7, tk_c8, tk_c9, tk_c10, tk_c11, tk_c12, tk_c13] at h6
                · refine And.intro ?_ ⟨σi, rfl, hf⟩
                  have hr : tk_sd (tk_F σ) (σ 55 0) (σ 55 (1 + j0)) k j = none := by
                    cases hr : tk_sd (tk_F σ) (σ 55 0) (σ 55 (1 + j0)) k j with
                    | none => rfl
                    | some q =>
                      rw [hb, hr] at h6
                      have := hle q hr
                      exact absurd h6 (tk_n9 (by omega))
                  rw [hb, hr]
                  split <;> rfl
                · refine And.intro (fun h7 => ?_) (fun h7 => ?_)
                  all_goals try dsimp only [tk_c0, tk_c1, tk_c2, tk_c3, tk_c4, tk_c5, tk_c6, tk_c7, tk_c8, tk_c9, tk_c10, tk_c11, tk_c12, tk_c13] at h7
                  · refine And.intro ?_ ⟨σi, rfl, hf⟩
                    rw [if_pos h7, hb]
                  · refine And.intro ?_ ⟨σi, rfl, hf⟩
                    rw [if_neg h7, hss, hf.at (by decide)]
                    cases hr : tk_sd (tk_F σ) (σ 55 0) (σ 55 (1 + j0)) k j with
                    | none =>
                      rw [hb, hr] at h6
                      exact absurd rfl h6
                    | some q =>
                      rw [tk_bs, tk_bs, Int32.zero_add]
                      rfl
              · exact absurd (by rw [ea]; exact Int32.le_refl _) h5
            | succ n ih =>
              intro j i bb ss L7 L8 σi hi hj hb hss hf
              subst hi
              have hFi := hf.F
              have ea : σi 49 0 = nI N := (congrFun (congrFun hFi 3) 3).trans e3
              have ex : σi 55 ((1 : Int32) + nI j0).toNatClampNeg = σ 55 (1 + j0) := by rw [e1, nI_clamp (by omega), hf.at (by decide)]
              have eto : σi 50 (nI j).toNatClampNeg = σi 50 (σ 55 (1 + j0)).toNatClampNeg ↔ tk_F σ 4 j = tk_F σ 4 (σ 55 (1 + j0)).toNatClampNeg := by
                rw [nI_clamp (by omega), ← hFi]
                exact Iff.rfl
              have hA := tk_sdA (o := tk_sn (tk_F σ) (σ 55 0) 0 (nI j, 0) k) (r := tk_sd (tk_F σ) (σ 55 0) (σ 55 (1 + j0)) k j) (j := j) (T := 0) (t0 := 0) rfl (by omega) (fun c h => tk_sn_le h) (fun q h => (tk_sd_le j q h).1)
              rw [← hss] at hA
              refine tk_run (hT_X7_send none) [58] 100 _ ?_
              refine And.intro (fun h5 => ?_) (fun h5 => ?_)
              all_goals try dsimp only [tk_c0, tk_c1, tk_c2, tk_c3, tk_c4, tk_c5, tk_c6, tk_c7, tk_c8, tk_c9, tk_c10, tk_c11, tk_c12, tk_c13] at h5
              · exact absurd h5 (by rw [ea]; exact nI_ge (by omega) (by omega))
              · refine tk_ift (tk_in_nI (n := 16) (by omega) (by decide)) ?_
                refine tk_ift (by dsimp only; rw [e1]; exact tk_in_nI (n := 13) (by omega) (by decide)) ?_
                refine tk_ift (by dsimp only; rw [ex]; exact tk_in_of hw.1 hw.2 (Int32.le_refl _) (by decide)) ?_
                refine And.intro (fun h6 => ?_) (fun h6 => ?_)
                all_goals try dsimp only [tk_c0, tk_c1, tk_c2, tk_c3, tk_c4, tk_c5, tk_c6, tk_c7, tk_c8, tk_c9, tk_c10, tk_c11, tk_c12, tk_c13] at h6
                all_goals rw [ex] at h6
                · have hyes : tk_sd (tk_F σ) (σ 55 0) (σ 55 (1 + j0)) k (j + 1) = tk_sdS (tk_sd (tk_F σ) (σ 55 0) (σ 55 (1 + j0)) k j) j (tk_sn (tk_F σ) (σ 55 0) 0 (nI j, 0) k) := by
                    rw [tk_sd, if_pos (eto.mp h6)]
                  refine tk_cc (k_soon (d := 0) (s := (nI j, 0)) hE (tk_VS0 e3 hN (by omega)) (Or.inl rfl) ((hf.up (Or.inl rfl) _).up (Or.inr rfl) _) (by rw [tk_up_k _ _ _ (by decide), tk_up_at, tk_up_at])) (fun v9 μ9 h9 => ?_)
                  obtain ⟨rfl, σ3, rfl, hf3⟩ := h9
                  refine And.intro (fun h7 => ?_) (fun h7 => ?_)
                  all_goals try dsimp only [tk_c0, tk_c1, tk_c2, tk_c3, tk_c4, tk_c5, tk_c6, tk_c7, tk_c8, tk_c9, tk_c10, tk_c11, tk_c12, tk_c13] at h7
                  · have := hA.1 h7
                    refine And.intro (fun _ => ?_) (fun z => absurd rfl z)
                    refine And.intro (fun _ => ?_) (fun z => absurd rfl z)
                    exact ih (j + 1) _ _ _ _ _ σ3 (nI_1 j) (by omega) (by rw [hyes, this]; exact hb) (by rw [hyes, this]; exact hss) hf3
                  · refine And.intro (fun h8 => ?_) (fun h8 => ?_)
                    all_goals try dsimp only [tk_c0, tk_c1, tk_c2, tk_c3, tk_c4, tk_c5, tk_c6, tk_c7, tk_c8, tk_c9, tk_c10, tk_c11, tk_c12, tk_c13] at h8
                    · have := hA.2.1 h7 (Or.inl h8)
                      refine And.intro (fun z => absurd z (by decide)) (fun _ => ?_)
                      refine And.intro (fun z => absurd z (by decide)) (fun _ => ?_)
                      exact ih (j + 1) _ _ _ _ _ σ3 (nI_1 j) (by omega) (by rw [hyes, this.1]) (by rw [hyes, this.2]) hf3
                    · refine And.intro (fun h9 => ?_) (fun h9 => ?_)
                      all_goals try dsimp only [tk_c0, tk_c1, tk_c2, tk_c3, tk_c4, tk_c5, tk_c6, tk_c7, tk_c8, tk_c9, tk_c10, tk_c11, tk_c12, tk_c13] at h9
                      · have := hA.2.2 h7 h8 h9
                        refine And.intro (fun _ => ?_) (fun z => absurd rfl z)
                        refine And.intro (fun _ => ?_) (fun z => absurd rfl z)
                        exact ih (j + 1) _ _ _ _ _ σ3 (nI_1 j) (by omega) (by rw [hyes, this]; exact hb) (by rw [hyes, this]; exact hss) hf3
                      · have := hA.2.1 h7 (Or.inr h9)
                        refine And.intro (fun z => absurd z (by decide)) (fun _ => ?_)
                        refine And.intro (fun z => absurd z (by decide)) (fun _ => ?_)
                        exact ih (j + 1) _ _ _ _ _ σ3 (nI_1 j) (by omega) (by rw [hyes, this.1]) (by rw [hyes, this.2]) hf3
                · have hno : tk_sd (tk_F σ) (σ 55 0) (σ 55 (1 + j0)) k (j + 1) = tk_sd (tk_F σ) (σ 55 0) (σ 55 (1 + j0)) k j := by
                    rw [tk_sd, if_neg (fun h => h6 (eto.mpr h))]
                  exact ih (j + 1) _ _ _ _ _ σi (nI_1 j) (by omega) (by rw [hno]; exact hb) (by rw [hno]; exact hss) hf
          exact loop N 0 _ _ _ _ _ σ rfl (by omega) rfl rfl hf0
        · refine And.intro ?_ ⟨_, rfl, hf0⟩
          rw [if_neg (fun h => h4 (hng.mpr h))]
end
