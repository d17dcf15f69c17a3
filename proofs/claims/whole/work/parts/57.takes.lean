/-! what the reference takes -/
/-- how far the reference is: at a fault; or well, with the token from p on looked at -/
def tk_ms (f : Nat → Int32) (L : Nat) (σ : Nat → Nat → Int32) (r : Sum Nat Nat) : Prop := match r with
  | Sum.inl q => q ≤ L ∧ σ 47 8 = nI q
  | Sum.inr p => p ≤ L ∧ σ 47 8 = -1 ∧ tk_Ad f σ L p
def tk_fB (σ σ' : Nat → Nat → Int32) : Prop := ∀ x y, ¬ (x = 47 ∧ 4 ≤ y ∧ y ≤ 8) → σ' x y = σ x y
/-- the text as it is -/
def tk_Tx (f : Nat → Int32) (L : Nat) (σ : Nat → Nat → Int32) : Prop := σ 48 = f ∧ σ 47 3 = nI L ∧ tk_TX f L ∧ L ≤ 150
theorem tk_Tx.c {f : Nat → Int32} {L : Nat} {σ σ' : Nat → Nat → Int32} (h : tk_Tx f L σ) (h1 : ∀ y, σ' 48 y = σ 48 y) (h2 : σ' 47 3 = σ 47 3) : tk_Tx f L σ' :=
  ⟨(funext h1).trans h.1, h2.trans h.2.1, h.2.2.1, h.2.2.2⟩
theorem tk_Tx.fB {f : Nat → Int32} {L : Nat} {σ σ' : Nat → Nat → Int32} (h : tk_Tx f L σ) (hf : tk_fB σ σ') : tk_Tx f L σ' :=
  h.c (fun y => hf 48 y (by omega)) (hf 47 3 (by omega))
theorem tk_ms.c {f : Nat → Int32} {L : Nat} {σ σ' : Nat → Nat → Int32} {r : Sum Nat Nat} (h : tk_ms f L σ r) (hf : ∀ y, 4 ≤ y → y ≤ 8 → σ' 47 y = σ 47 y) : tk_ms f L σ' r := by
  cases r with
  | inl q => exact ⟨h.1, (hf 8 (by omega) (by omega)).trans h.2⟩
  | inr p =>
    obtain ⟨h1, h2, h3, h4, h5, h6, h7⟩ := h
    have e7 := hf 7 (by omega) (by omega)
    exact ⟨h1, (hf 8 (by omega) (by omega)).trans h2, (hf 4 (by omega) (by omega)).trans h3, (hf 6 (by omega) (by omega)).trans h4, (hf 5 (by omega) (by omega)).trans h5, fun a b c => e7.trans (h6 a b c), fun a b => e7.trans (h7 a b)⟩
/-- behind what is taken, if it is c -/
def tk_tk (f : Nat → Int32) (L : Nat) (c : Bool) (r : Sum Nat Nat) : Sum Nat Nat := match r with
  | Sum.inl q => Sum.inl q
  | Sum.inr p => if c = true then Sum.inr (tk_nx f L p) else Sum.inl (tk_q f L p)
def tk_tv (σ : Nat → Nat → Int32) (c : Bool) (r : Sum Nat Nat) : Int32 := match r with
  | Sum.inl _ => 0
  | Sum.inr _ => if c = true then σ 47 7 else 0
def tk_nr (f : Nat → Int32) (L : Nat) (lo hi : Int32) (r : Sum Nat Nat) : Sum Nat Nat := match r with
  | Sum.inl q => Sum.inl q
  | Sum.inr p => if tk_num f L lo hi p = true then Sum.inr (tk_nx f L p) else Sum.inl (tk_q f L p)
def tk_nw (f : Nat → Int32) (L : Nat) (lo hi : Int32) (r : Sum Nat Nat) : Int32 := match r with
  | Sum.inl _ => 0
  | Sum.inr p => if tk_num f L lo hi p = true then tk_nv f L p else 0
theorem tk_mk0 {f : Nat → Int32} {L p : Nat} : tk_mk f L p = 0 ↔ L ≤ tk_q f L p := by
  unfold tk_mk
  repeat' split
  all_goals first | exact ⟨fun _ => by assumption, fun _ => rfl⟩ | exact ⟨fun h => absurd h (by decide), fun h => absurd h (by assumption)⟩
theorem tk_mk2 {f : Nat → Int32} {L p : Nat} : tk_mk f L p = 2 ↔ (tk_q f L p < L ∧ tk_dg (f (tk_q f L p)) = true ∧ tk_fit f L (tk_q f L p) = true) := by
  unfold tk_mk
  split
  · exact ⟨fun h => absurd h (by decide), fun h => by omega⟩
  · rename_i hq
    split
    · rename_i hd
      split
      · rename_i hf
        exact ⟨fun _ => ⟨by omega, hd, hf⟩, fun _ => rfl⟩
      · rename_i hf
        exact ⟨fun h => absurd h (by decide), fun h => absurd h.2.2 hf⟩
    · rename_i hd
      refine ⟨fun h => ?_, fun h => absurd h.2.1 hd⟩
      repeat' split at h
      all_goals exact absurd h (by decide)
theorem tk_mk3 {f : Nat → Int32} {L p : Nat} : tk_mk f L p = 3 ↔ tk_ltr f L 59 p = true := by
  rw [tk_ltrI]
  unfold tk_mk
  split
  · exact ⟨fun h => absurd h (by decide), fun h => by omega⟩
  · rename_i hq
    split
    · rename_i hd
      refine ⟨fun h => ?_, fun h => ?_⟩
      · split at h <;> exact absurd h (by decide)
      · rw [h.2] at hd
        exact absurd hd (by decide)
    · split
      · rename_i h9
        exact ⟨fun _ => ⟨by omega, h9⟩, fun _ => rfl⟩
      · rename_i h9
        refine ⟨fun h => ?_, fun h => absurd h.2 h9⟩
        split at h <;> exact absurd h (by decide)
theorem tk_mk1 {f : Nat → Int32} {L p : Nat} : tk_mk f L p = 1 ↔ (tk_ltr f L 109 p = true ∨ tk_ltr f L 107 p = true ∨ tk_ltr f L 100 p = true ∨ tk_ltr f L 116 p = true) := by
  simp only [tk_ltrI]
  unfold tk_mk
  split
  · exact ⟨fun h => absurd h (by decide), fun h => by omega⟩
  · rename_i hq
    have hq : tk_q f L p < L := by omega
    split
    · rename_i hd
      refine ⟨fun h => ?_, fun h => ?_⟩
      · split at h <;> exact absurd h (by decide)
      · rcases h with h | h | h | h <;>
        · rw [h.2] at hd
          exact absurd hd (by decide)
    · split
      · rename_i h9
        refine ⟨fun h => absurd h (by decide), fun h => ?_⟩
        rw [h9] at h
        rcases h with h | h | h | h <;> exact absurd h.2 (by decide)
      · split
        · rename_i h9
          exact ⟨fun _ => by rcases h9 with h | h | h | h <;> simp [h, hq], fun _ => rfl⟩
        · rename_i h9
          refine ⟨fun h => absurd h (by decide), fun h => absurd ?_ h9⟩
          rcases h with h | h | h | h <;> simp [h.2]
theorem tk_nrF {f : Nat → Int32} {L : Nat} {σ : Nat → Nat → Int32} {lo hi : Int32} {r : Sum Nat Nat} (hm : tk_ms f L σ r) (h : ¬ (σ 47 5 = 2 ∧ lo ≤ σ 47 7 ∧ σ 47 7 ≤ hi)) : tk_nr f L lo hi r = tk_tk f L false r ∧ tk_nw f L lo hi r = tk_tv σ false r := by
  cases r with
  | inl q => exact ⟨rfl, rfl⟩
  | inr p =>
    obtain ⟨h1, h2, h3, h4, h5, h6, h7⟩ := hm
    have hn : ¬ tk_num f L lo hi p = true := fun hh => by
      have hh := tk_numI.mp hh
      have e7 := h6 hh.1 hh.2.1 hh.2.2.1
      refine h ⟨h5.trans (tk_mk2.mpr ⟨hh.1, hh.2.1, hh.2.2.1⟩), ?_⟩
      rw [e7]
      exact hh.2.2.2
    simp [tk_nr, tk_nw, tk_tk, tk_tv, hn]
theorem tk_nrT {f : Nat → Int32} {L : Nat} {σ : Nat → Nat → Int32} {lo hi : Int32} {r : Sum Nat Nat} (hm : tk_ms f L σ r) (h : σ 47 5 = 2 ∧ lo ≤ σ 47 7 ∧ σ 47 7 ≤ hi) : tk_nr f L lo hi r = tk_tk f L true r ∧ tk_nw f L lo hi r = tk_tv σ true r := by
  cases r with
  | inl q => exact ⟨rfl, rfl⟩
  | inr p =>
    obtain ⟨h1, h2, h3, h4, h5, h6, h7⟩ := hm
    have hh := tk_mk2.mp (h5.symm.trans h.1)
    have e7 := h6 hh.1 hh.2.1 hh.2.2
    have hn : tk_num f L lo hi p = true := tk_numI.mpr ⟨hh.1, hh.2.1, hh.2.2, by rw [← e7]; exact h.2⟩
    simp [tk_nr, tk_nw, tk_tk, tk_tv, hn, e7, tk_nv]
section
variable {σ : Nat → Nat → Int32} {a b : Nat} {τ : Nat → Nat → Int64} {L : Nat} {f : Nat → Int32} {r : Sum Nat Nat}
theorem k_takes {c : Bool} {x : Int32} (hx : x = if c = true then 1 else 0) (hT : tk_Tx f L σ) (hm : tk_ms f L σ r) :
    tk_Ct M_X7_takes [.ref 47, .int x] (σ, tk_rho a b, τ, 62) (fun v μ' => v = some (.int (tk_tv σ c r)) ∧ ∃ σ', μ' = (σ', tk_rho a b, τ, 62) ∧ tk_fB σ σ' ∧ tk_ms f L σ' (tk_tk f L c r)) := by
  have hL := hT.2.2.2
  cases r with
  | inl q =>
    obtain ⟨hq, e8⟩ := hm
    refine tk_ct rfl rfl (Nat.le_of_ble_eq_true rfl) (fun l D cy => tk_run (hT_X7_takes none) [] 60 _ ?_)
    refine tk_cc (k_isWell) (fun v9 μ9 h9 => ?_)
    obtain ⟨rfl, rfl⟩ := h9
    refine And.intro (fun h1 => ?_) (fun h1 => ?_)
    all_goals try dsimp only [tk_c0, tk_c1, tk_c2, tk_c3, tk_c4, tk_c5, tk_c6, tk_c7, tk_c8, tk_c9, tk_c10, tk_c11, tk_c12, tk_c13] at h1
    · exact And.intro rfl ⟨σ, rfl, fun _ _ _ => rfl, hq, e8⟩
    · exact absurd (tk_b0.mpr (by rw [e8]; exact nI_pos (by omega))) h1
  | inr p =>
    obtain ⟨hp, e8, hA⟩ := hm
    cases c with
    | false =>
      have hx : x = 0 := hx
      refine tk_ct rfl rfl (Nat.le_of_ble_eq_true rfl) (fun l D cy => tk_run (hT_X7_takes none) [] 60 _ ?_)
      refine tk_cc (k_isWell) (fun v9 μ9 h9 => ?_)
      obtain ⟨rfl, rfl⟩ := h9
      refine And.intro (fun h1 => ?_) (fun h1 => ?_)
      all_goals try dsimp only [tk_c0, tk_c1, tk_c2, tk_c3, tk_c4, tk_c5, tk_c6, tk_c7, tk_c8, tk_c9, tk_c10, tk_c11, tk_c12, tk_c13] at h1
      · exact absurd (by rw [e8]; decide) (tk_b0.mp h1)
      · refine And.intro (fun h2 => ?_) (fun h2 => ?_)
        all_goals try dsimp only [tk_c0, tk_c1, tk_c2, tk_c3, tk_c4, tk_c5, tk_c6, tk_c7, tk_c8, tk_c9, tk_c10, tk_c11, tk_c12, tk_c13] at h2
        · refine And.intro rfl ⟨_, rfl, fun x y hx => ?_, (tk_q_le hp).2, ?_⟩
          · rw [tk_up, if_neg (fun h => hx ⟨h.1, by omega⟩)]
          · rw [tk_up_at]
            exact hA.2.1
        · exact absurd hx h2
    | true =>
      have hx : x = 1 := hx
      have had := k_advances (σ := σ) (a := a) (b := b) (τ := τ) (p := tk_nx f L p) (L := L) (by rw [hT.1]; exact hT.2.2.1) hL hT.2.1 (tk_nx_le hp).2 hA.1
      rw [hT.1] at had
      refine tk_ct rfl rfl (Nat.le_of_ble_eq_true rfl) (fun l D cy => tk_run (hT_X7_takes none) [] 60 _ ?_)
      refine tk_cc (k_isWell) (fun v9 μ9 h9 => ?_)
      obtain ⟨rfl, rfl⟩ := h9
      refine And.intro (fun h1 => ?_) (fun h1 => ?_)
      all_goals try dsimp only [tk_c0, tk_c1, tk_c2, tk_c3, tk_c4, tk_c5, tk_c6, tk_c7, tk_c8, tk_c9, tk_c10, tk_c11, tk_c12, tk_c13] at h1
      · exact absurd (by rw [e8]; decide) (tk_b0.mp h1)
      · refine And.intro (fun h2 => ?_) (fun h2 => ?_)
        all_goals try dsimp only [tk_c0, tk_c1, tk_c2, tk_c3, tk_c4, tk_c5, tk_c6, tk_c7, tk_c8, tk_c9, tk_c10, tk_c11, tk_c12, tk_c13] at h2
        · rw [hx] at h2
          exact absurd h2 (by decide)
        · refine tk_cc had (fun v9 μ9 h9 => ?_)
          obtain ⟨rfl, σ', rfl, hF, hA'⟩ := h9
          exact And.intro rfl ⟨σ', rfl, fun x y hx => hF x y (fun h => hx ⟨h.1, by omega⟩), (tk_nx_le hp).2, (hF 47 8 (by omega)).trans e8, hA'⟩
theorem k_number {lo hi : Int32} (hT : tk_Tx f L σ) (hm : tk_ms f L σ r) :
    tk_Ct M_X7_number [.ref 47, .int lo, .int hi] (σ, tk_rho a b, τ, 62) (fun v μ' => v = some (.int (tk_nw f L lo hi r)) ∧ ∃ σ', μ' = (σ', tk_rho a b, τ, 62) ∧ tk_fB σ σ' ∧ tk_ms f L σ' (tk_nr f L lo hi r)) := by
  have t0 := k_takes (a := a) (b := b) (τ := τ) (c := false) (x := 0) rfl hT hm
  have t1 := k_takes (a := a) (b := b) (τ := τ) (c := true) (x := 1) rfl hT hm
  have f0 := fun h => tk_nrF (lo := lo) (hi := hi) hm h
  have f1 := fun h => tk_nrT (lo := lo) (hi := hi) hm h
  refine tk_ct rfl rfl (Nat.le_of_ble_eq_true rfl) (fun l D cy => tk_run (hT_X7_number none) [] 60 _ ?_)
  refine And.intro (fun h1 => ?_) (fun h1 => ?_)
  all_goals try dsimp only [tk_c0, tk_c1, tk_c2, tk_c3, tk_c4, tk_c5, tk_c6, tk_c7, tk_c8, tk_c9, tk_c10, tk_c11, tk_c12, tk_c13] at h1
  · refine tk_cc (k_in _ _ _ _) (fun v9 μ9 h9 => ?_)
    obtain ⟨rfl, rfl⟩ := h9
    refine And.intro (fun h2 => ?_) (fun h2 => ?_)
    all_goals try dsimp only [tk_c0, tk_c1, tk_c2, tk_c3, tk_c4, tk_c5, tk_c6, tk_c7, tk_c8, tk_c9, tk_c10, tk_c11, tk_c12, tk_c13] at h2
    · have h2 := tk_b0.mp h2
      obtain ⟨g1, g2⟩ := f0 (fun h => h2 h.2)
      rw [g1, g2]
      refine tk_cc t0 (fun v9 μ9 h9 => ?_)
      obtain ⟨rfl, h9⟩ := h9
      exact And.intro rfl h9
    · have h2 := Decidable.not_not.mp (fun h => h2 (tk_b0.mpr h))
      obtain ⟨g1, g2⟩ := f1 ⟨h1, h2⟩
      rw [g1, g2]
      refine tk_cc t1 (fun v9 μ9 h9 => ?_)
      obtain ⟨rfl, h9⟩ := h9
      exact And.intro rfl h9
  · obtain ⟨g1, g2⟩ := f0 (fun h => h1 h.1)
    rw [g1, g2]
    refine tk_cc t0 (fun v9 μ9 h9 => ?_)
    obtain ⟨rfl, h9⟩ := h9
    exact And.intro rfl h9
theorem k_begins {ρ : Nat → Nat → Option Nat} (hρ : ρ 47 9 = some 49) : tk_Fn M_X7_begins [.ref 47] (σ, ρ, τ, 62) none (tk_up (tk_up (tk_up (tk_up (tk_up (tk_up σ 47 10 0) 49 5 0) 49 6 0) 49 7 10) 49 8 3) 49 9 0, ρ, τ, 62) := by
  refine tk_ct rfl rfl (Nat.le_of_ble_eq_true rfl) (fun l D cy => tk_run (hT_X7_begins none) [] 60 _ ?_)
  refine And.intro (Or.inl rfl) ?_
  refine tk_osi hρ ?_
  refine tk_osi hρ ?_
  refine tk_osi hρ ?_
  refine tk_osi hρ ?_
  refine tk_osi hρ ?_
  exact And.intro rfl rfl
/-- whether an item may begin, by the letter that is its first -/
def tk_mb (σ : Nat → Nat → Int32) : Bool := if σ 47 7 = 107 then decide (σ 49 5 < 8) else if σ 47 7 = 116 then decide (σ 49 6 < 5) else (decide (σ 47 7 = 100) || decide (σ 47 10 = 0))
theorem k_mayBegin : tk_Fn M_X7_mayBegin [.ref 47] (σ, tk_rho a b, τ, 62) (some (.int (if tk_mb σ = true then 1 else 0))) (σ, tk_rho a b, τ, 62) := by
  refine tk_ct rfl rfl (Nat.le_of_ble_eq_true rfl) (fun l D cy => tk_run (hT_X7_mayBegin none) [] 60 _ ?_)
  refine And.intro (fun h1 => ?_) (fun h1 => ?_)
  all_goals try dsimp only [tk_c0, tk_c1, tk_c2, tk_c3, tk_c4, tk_c5, tk_c6, tk_c7, tk_c8, tk_c9, tk_c10, tk_c11, tk_c12, tk_c13] at h1
  · refine And.intro (fun h2 => ?_) (fun h2 => ?_)
    all_goals try dsimp only [tk_c0, tk_c1, tk_c2, tk_c3, tk_c4, tk_c5, tk_c6, tk_c7, tk_c8, tk_c9, tk_c10, tk_c11, tk_c12, tk_c13] at h2
    · refine And.intro (Or.inl rfl) (And.intro ?_ rfl)
      have : tk_mb σ = false := by rw [tk_mb, if_pos h1]; exact decide_eq_false (Int32.not_lt.mpr h2)
      rw [this]
      rfl
    · refine And.intro (Or.inr rfl) (And.intro ?_ rfl)
      have : tk_mb σ = true := by rw [tk_mb, if_pos h1]; exact decide_eq_true (Int32.not_le.mp h2)
      rw [this]
      rfl
  · refine And.intro (fun h2 => ?_) (fun h2 => ?_)
    all_goals try dsimp only [tk_c0, tk_c1, tk_c2, tk_c3, tk_c4, tk_c5, tk_c6, tk_c7, tk_c8, tk_c9, tk_c10, tk_c11, tk_c12, tk_c13] at h2
    · refine And.intro (fun h3 => ?_) (fun h3 => ?_)
      all_goals try dsimp only [tk_c0, tk_c1, tk_c2, tk_c3, tk_c4, tk_c5, tk_c6, tk_c7, tk_c8, tk_c9, tk_c10, tk_c11, tk_c12, tk_c13] at h3
      · refine And.intro (Or.inl rfl) (And.intro ?_ rfl)
        have : tk_mb σ = false := by rw [tk_mb, if_neg h1, if_pos h2]; exact decide_eq_false (Int32.not_lt.mpr h3)
        rw [this]
        rfl
      · refine And.intro (Or.inr rfl) (And.intro ?_ rfl)
        have : tk_mb σ = true := by rw [tk_mb, if_neg h1, if_pos h2]; exact decide_eq_true (Int32.not_le.mp h3)
        rw [this]
        rfl
    · refine And.intro (fun h3 => ?_) (fun h3 => ?_)
      all_goals try dsimp only [tk_c0, tk_c1, tk_c2, tk_c3, tk_c4, tk_c5, tk_c6, tk_c7, tk_c8, tk_c9, tk_c10, tk_c11, tk_c12, tk_c13] at h3
      · refine And.intro (Or.inr rfl) (And.intro ?_ rfl)
        have : tk_mb σ = true := by rw [tk_mb, if_neg h1, if_neg h2, decide_eq_true h3]; rfl
        rw [this]
        rfl
      · refine And.intro (fun h4 => ?_) (fun h4 => ?_)
        all_goals try dsimp only [tk_c0, tk_c1, tk_c2, tk_c3, tk_c4, tk_c5, tk_c6, tk_c7, tk_c8, tk_c9, tk_c10, tk_c11, tk_c12, tk_c13] at h4
        · refine And.intro (Or.inr rfl) (And.intro ?_ rfl)
          have : tk_mb σ = true := by rw [tk_mb, if_neg h1, if_neg h2, decide_eq_true h4]; exact Bool.or_true _
          rw [this]
          rfl
        · refine And.intro (Or.inl rfl) (And.intro ?_ rfl)
          have : tk_mb σ = false := by rw [tk_mb, if_neg h1, if_neg h2, decide_eq_false h3, decide_eq_false h4]; rfl
          rw [this]
          rfl
end
