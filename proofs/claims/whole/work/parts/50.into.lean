/-! how the class reads the whole text -/
/-- towns of which nothing is told -/
def tk_G0 : Nat → Nat → Int32 := fun i k => if i = 3 then (if k = 0 then 10 else if k = 1 then 3 else 0) else 0
theorem tk_G0V : tk_VG tk_G0 := ⟨0, 0, by omega, by omega, rfl, rfl, ⟨by decide, by decide⟩, ⟨by decide, by decide⟩, ⟨by decide, by decide⟩, fun k hk => absurd hk (Nat.not_lt_zero k), fun t ht => absurd ht (Nat.not_lt_zero t), Or.inl rfl⟩
/-- how the class has read the text -/
def tk_RI (σ : Nat → Nat → Int32) (B : Nat) (r : Sum Nat ((Nat → Nat → Int32) × Nat)) (v : Option Value) : Prop := match r with
  | Sum.inl q => v = some (.int (-10 - nI q))
  | Sum.inr x => v = some (.int (nI x.2)) ∧ tk_CG σ B x.1
section
variable {σ : Nat → Nat → Int32} {a b B : Nat} {τ : Nat → Nat → Int64} {L : Nat}
theorem k_readInto (hB : tk_tw B) (hX : tk_TX (σ 3) L) (hL : L ≤ 150) (e1 : σ 2 1 = nI L) :
    tk_Ct M_X3_readInto [.ref 2, .ref B] (σ, tk_rho a b, τ, 62) (fun v μ' => ∃ σ', μ' = (σ', tk_rho a b, τ, 62) ∧ tk_fF B σ σ' ∧ tk_RI σ' B (tk_main (σ 3) L (L + 1) tk_G0 0 0) v) := by
  have hB3 : ¬ (B ≤ 3 ∧ 3 ≤ B + 5) := by rcases hB with rfl | rfl <;> omega
  have hB2 : ¬ (B ≤ 2 ∧ 2 ≤ B + 5) := by rcases hB with rfl | rfl <;> omega
  have loop : ∀ (l : Launch) (D : va_G) (cy : Nat → ClassId) (d p i : Nat) (G : Nat → Nat → Int32) (ii : Int32) (σi : Nat → Nat → Int32), ii = nI i → p ≤ L → L - p < d → i ≤ p → tk_VG G → tk_CG σi B G → tk_fF B σ σi → σi 2 2 = nI (tk_nx (σ 3) L p) → σi 2 3 = tk_ck (σ 3) L p → σi 2 4 = nI (tk_q (σ 3) L p) →
      tk_J l D cy none M_X3_readInto (20, [some (.ref 2), some (.ref B), some (.int ii)], [], (σi, tk_rho a b, τ, 62), 0, 0) (fun v μ' => ∃ σ', μ' = (σ', tk_rho a b, τ, 62) ∧ tk_fF B σ σ' ∧ tk_RI σ' B (tk_main (σ 3) L d G p i) v) := by
    intro l D cy d
    induction d with
    | zero =>
      intro p i G ii σi _ _ h
      exact absurd h (Nat.not_lt_zero _)
    | succ d ih =>
      intro p i G ii σi hi hp hd hip hV hG hF e2 e3 e4
      subst hi
      have f3 : σi 3 = σ 3 := funext fun y => hF 3 y hB3 (by omega)
      have e1i : σi 2 1 = nI L := (hF 2 1 hB2 (by omega)).trans e1
      have hq := tk_q_le (f := σ 3) hp
      rw [tk_main]
      refine tk_run (hT_X3_readInto none) [20] 80 _ ?_
      refine And.intro (fun h1 => ?_) (fun h1 => ?_)
      all_goals try dsimp only [tk_c0, tk_c1, tk_c2, tk_c3, tk_c4, tk_c5, tk_c6, tk_c7, tk_c8, tk_c9, tk_c10, tk_c11, tk_c12, tk_c13] at h1
      all_goals rw [e3] at h1
      · have hend : L ≤ tk_q (σ 3) L p := Nat.le_of_not_lt (fun hlt => by
          rw [tk_ck, if_neg (by omega)] at h1
          split at h1
          · exact absurd h1 (by decide)
          · have := (hX _ hlt).1
            rw [h1] at this
            exact absurd this (by decide))
        rw [if_pos hend]
        exact ⟨σi, rfl, hF, rfl, hG⟩
      · have hlt : tk_q (σ 3) L p < L := Nat.lt_of_not_le (fun h => h1 (by rw [tk_ck, if_pos h]))
        rw [if_neg (by omega)]
        refine And.intro (fun h2 => ?_) (fun h2 => ?_)
        all_goals try dsimp only [tk_c0, tk_c1, tk_c2, tk_c3, tk_c4, tk_c5, tk_c6, tk_c7, tk_c8, tk_c9, tk_c10, tk_c11, tk_c12, tk_c13] at h2
        · exact absurd h2 (nI_ge (b := 150) (by omega) (by omega))
        · obtain ⟨K, N, hK, hN, eK, eN, _⟩ := id hV
          have hri := k_readItem (σ := σi) (a := a) (b := b) (τ := τ) (L := L) (p := p) (G := G) (K := K) (N := N) hB (by rw [f3]; exact hX) hL e1i hp (by rw [f3]; exact e2) (by rw [f3]; exact e3) (by rw [f3]; exact e4) hG hK eK hN eN
          rw [f3] at hri
          refine tk_cc hri (fun v9 μ9 h9 => ?_)
          obtain ⟨σ1, rfl, hF1, hR1⟩ := h9
          have hx := fun y h => tk_item_lt (f := σ 3) (x := y) (G := G) hp h
          have hv := fun y h => tk_item_V (f := σ 3) (L := L) (p := p) (x := y) hV h
          revert hR1 hx hv
          generalize tk_item (σ 3) L G p = r
          intro hR1 hx hv
          cases r with
          | inl q =>
            obtain ⟨rfl, h24⟩ := hR1
            refine And.intro (fun _ => ?_) (fun z => absurd rfl z)
            refine ⟨σ1, rfl, hF.tr hF1, ?_⟩
            exact congrArg (fun z => some (Value.int (-10 - z))) h24
          | inr x =>
            obtain ⟨rfl, hCG, h22⟩ := hR1
            refine And.intro (fun z => absurd z (by decide)) (fun _ => ?_)
            have hx := hx x rfl
            have f31 : σ1 3 = σ 3 := (funext fun y => hF1 3 y hB3 (by omega)).trans f3
            have hrt := k_readToken (σ := σ1) (a := a) (b := b) (τ := τ) (L := L) (p := x.2) hL ((hF1 2 1 hB2 (by omega)).trans e1i) hx.2 h22
            refine tk_cc hrt (fun v9 μ9 h9 => ?_)
            obtain ⟨rfl, σ2, rfl, hT2⟩ := h9
            refine ih x.2 (i + 1) x.1 _ σ2 (nI_1 i) hx.2 (by omega) (by omega) (hv x rfl) (hT2.CG hB hCG) ((hF.tr hF1).tr (hT2.fF B)) ?_ ?_ ?_
            · rw [hT2.1, f31]
            · rw [hT2.2.2.1, f31]
            · rw [hT2.2.1, f31]
  have hne : B ≠ 2 ∧ 2 ≠ B := by rcases hB with rfl | rfl <;> decide
  generalize hq : (fun (v : Option Value) (μ' : tk_Me) => ∃ σ', μ' = (σ', tk_rho a b, τ, 62) ∧ tk_fF B σ σ' ∧ tk_RI σ' B (tk_main (σ 3) L (L + 1) tk_G0 0 0) v) = q
  refine tk_ct rfl rfl (Nat.le_of_ble_eq_true rfl) (fun l D cy => tk_run (hT_X3_readInto none) [20] 80 _ ?_)
  refine tk_ift (tk_twok hB) ?_
  refine tk_cc (k_reset hB) (fun v9 μ9 h9 => ?_)
  obtain ⟨rfl, rfl⟩ := h9
  refine And.intro (Or.inl rfl) ?_
  have hf3 : (tk_up (tk_up (tk_up (tk_up (tk_up (tk_up (tk_up σ B 0 10) B 1 3) B 2 0) B 3 0) B 4 0) 2 6 0) 2 2 0) 3 = σ 3 := by
    have : B ≠ 3 := by omega
    funext y
    simp [tk_up, Ne.symm this]
  have hrt := k_readToken (σ := tk_up (tk_up (tk_up (tk_up (tk_up (tk_up (tk_up σ B 0 10) B 1 3) B 2 0) B 3 0) B 4 0) 2 6 0) 2 2 0) (a := a) (b := b) (τ := τ) (L := L) (p := 0) hL (by simp [tk_up, hne.2, e1]) (by omega) (tk_up_at _ _ _ _)
  refine tk_cc hrt (fun v9 μ9 h9 => ?_)
  obtain ⟨rfl, σ2, rfl, hT2⟩ := h9
  rw [← hq]
  refine loop l D cy (L + 1) 0 0 tk_G0 _ σ2 rfl (by omega) (by omega) (by omega) tk_G0V (hT2.CG hB ⟨fun y hy => ?_, fun k hk => absurd hk (Nat.not_lt_zero k), fun t ht => absurd ht (Nat.not_lt_zero t), ?_⟩) (fun x y hx hx2 => ?_) ?_ ?_ ?_
  · have hy5 : y = 0 ∨ y = 1 ∨ y = 2 ∨ y = 3 ∨ y = 4 := by omega
    rcases hy5 with rfl | rfl | rfl | rfl | rfl <;> simp [tk_up, hne.1, tk_G0]
  · simp [tk_up, tk_G0]
  · rw [hT2.fF B x y hx hx2, tk_up, if_neg (fun h => hx2 ⟨h.1, by omega⟩), tk_up, if_neg (fun h => hx2 ⟨h.1, by omega⟩), tk_up_p _ _ _ (by omega), tk_up_p _ _ _ (by omega), tk_up_p _ _ _ (by omega), tk_up_p _ _ _ (by omega), tk_up_p _ _ _ (by omega)]
  · rw [hT2.1, hf3]
  · rw [hT2.2.2.1, hf3]
  · rw [hT2.2.1, hf3]
end
