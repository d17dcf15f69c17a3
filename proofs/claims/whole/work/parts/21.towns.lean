/-! what refers to what, once all is made; the towns' methods -/
def tk_rtb (a b : Nat) : List (List (Option Nat)) := [[], [some 2, some a, some b, some 16, some 23, some 35, some 38, some 39, some 42, some 45, some 46], [some 3], [], [none, none, none, none, none, some 5, some 6, some 7, some 8, some 9], [], [], [], [], [], [none, none, none, none, none, some 11, some 12, some 13, some 14, some 15], [], [], [], [], [], [none, none, some 17], [some 18, some 19, some 20, some 21, some 22], [], [], [], [], [], [some 24], [some 25, some 26, some 27, some 28, some 29, some 30, some 31, some 32, some 33, some 34], [], [], [], [], [], [], [], [], [], [], [some 36, some 37], [], [], [], [some 40, some 41], [], [], [some 43, some 44], [], [], [], [], [none, none, some 48, none, none, none, none, none, none, some 49, none, some 50, some 51, some 52, some 53, some 54, some 55, some 56, some 57, some 58, none, some 59, some 60, none, some 61, some 62]]
def tk_rho (a b : Nat) (p k : Nat) : Option Nat := ((tk_rtb a b).getD p []).getD k none
def tk_tw (p : Nat) : Prop := p = 4 ∨ p = 10
theorem tk_in_of {k m : Int32} {n : Nat} (h0 : 0 ≤ k) (h : k < m) (hm : m ≤ nI n) (hn : n < 2 ^ 31) : tk_in k n = true := by
  simp only [tk_in, Bool.and_eq_true, decide_eq_true_eq]
  refine ⟨h0, ?_⟩
  have h1 : k < nI n := Int32.lt_of_lt_of_le h hm
  rw [Int32.lt_iff_toInt_lt, nI_toInt hn] at h1
  have h2 : (0 : Int32) ≤ k := h0
  rw [Int32.le_iff_toInt_le] at h2
  have h3 : (0 : Int32).toInt = 0 := rfl
  have h4 : k.toNatClampNeg = k.toInt.toNat := rfl
  omega
theorem tk_in_nI {k n : Nat} (h : k < n) (hn : n < 2 ^ 31) : tk_in (nI k) n = true := by
  simp only [tk_in, Bool.and_eq_true, decide_eq_true_eq]
  exact ⟨nI_pos' (by omega), by rw [nI_clamp (by omega)]; exact h⟩
def tk_rem (x m : Int32) : Int32 := x - x / m * m
def tk_lev (M S O t : Int32) : Int32 := tk_rem (S * t + O) M
/-- the bits of those below n of which c is so -/
def tk_bits (c : Nat → Prop) [DecidablePred c] : Nat → Int32
  | 0 => 0
  | n + 1 => if c n then tk_bits c n ||| ((1 : Int32) <<< (nI n &&& 31)) else tk_bits c n
section
variable {p : Nat} {k : Int32} {σ : Nat → Nat → Int32} {a b : Nat} {τ : Nat → Nat → Int64}
theorem k_isKerb (hp : tk_tw p) : tk_Fn M_X5_isKerb [.ref p, .int k] (σ, tk_rho a b, τ, 62) (some (.int (tk_b (0 ≤ k ∧ k < σ p 3)))) (σ, tk_rho a b, τ, 62) := by
  rcases hp with rfl | rfl <;>
  · refine tk_ct rfl rfl (Nat.le_of_ble_eq_true rfl) (fun l D cy => tk_run (hT_X5_isKerb none) [] 60 _ ?_)
    refine And.intro (fun h1 => ?_) (fun h1 => ?_)
    · refine And.intro (by first | exact Or.inl rfl | exact Or.inr rfl) (And.intro ?_ rfl)
      rw [tk_bF (fun h => Int32.not_le.mpr h1 h.1)]
    · refine And.intro (fun h2 => ?_) (fun h2 => ?_)
      · refine And.intro (by first | exact Or.inl rfl | exact Or.inr rfl) (And.intro ?_ rfl)
        rw [tk_bF (fun h => Int32.not_lt.mpr h2 h.2)]
      · refine And.intro (by first | exact Or.inl rfl | exact Or.inr rfl) (And.intro ?_ rfl)
        rw [tk_bT ⟨Int32.not_lt.mp h1, Int32.not_le.mp h2⟩]
theorem k_isThing (hp : tk_tw p) : tk_Fn M_X5_isThing [.ref p, .int k] (σ, tk_rho a b, τ, 62) (some (.int (tk_b (0 ≤ k ∧ k < σ p 4)))) (σ, tk_rho a b, τ, 62) := by
  rcases hp with rfl | rfl <;>
  · refine tk_ct rfl rfl (Nat.le_of_ble_eq_true rfl) (fun l D cy => tk_run (hT_X5_isThing none) [] 60 _ ?_)
    refine And.intro (fun h1 => ?_) (fun h1 => ?_)
    · refine And.intro (by first | exact Or.inl rfl | exact Or.inr rfl) (And.intro ?_ rfl)
      rw [tk_bF (fun h => Int32.not_le.mpr h1 h.1)]
    · refine And.intro (fun h2 => ?_) (fun h2 => ?_)
      · refine And.intro (by first | exact Or.inl rfl | exact Or.inr rfl) (And.intro ?_ rfl)
        rw [tk_bF (fun h => Int32.not_lt.mpr h2 h.2)]
      · refine And.intro (by first | exact Or.inl rfl | exact Or.inr rfl) (And.intro ?_ rfl)
        rw [tk_bT ⟨Int32.not_lt.mp h1, Int32.not_le.mp h2⟩]
theorem k_leftOver (hp : tk_tw p) (hm : 2 ≤ σ p 0) : tk_Fn M_X5_leftOver [.ref p, .int k] (σ, tk_rho a b, τ, 62) (some (.int (tk_rem k (σ p 0)))) (σ, tk_rho a b, τ, 62) := by
  have h0 : ¬ σ p 0 = 0 := fun h => by rw [h] at hm; exact absurd hm (by decide)
  rcases hp with rfl | rfl <;>
  · refine tk_ct rfl rfl (Nat.le_of_ble_eq_true rfl) (fun l D cy => tk_run (hT_X5_leftOver none) [] 60 _ ?_)
    refine And.intro (fun h1 => ?_) (fun h1 => ?_)
    · exact And.intro h0 (And.intro rfl rfl)
    · exact absurd hm h1
theorem k_levelOf (hp : tk_tw p) (hm : 2 ≤ σ p 0) : tk_Fn M_X5_levelOf [.ref p, .int k] (σ, tk_rho a b, τ, 62) (some (.int (tk_lev (σ p 0) (σ p 1) (σ p 2) k))) (σ, tk_rho a b, τ, 62) := by
  have hp0 := hp
  rcases hp with rfl | rfl <;>
  · refine tk_ct rfl rfl (Nat.le_of_ble_eq_true rfl) (fun l D cy => tk_run (hT_X5_levelOf none) [] 60 _ ?_)
    refine tk_cc (k_leftOver hp0 hm) (fun v9 μ9 h9 => ?_)
    obtain ⟨rfl, rfl⟩ := h9
    exact And.intro rfl rfl
theorem k_areOfOneTown {k2 : Int32} (hp : tk_tw p) (hk : σ p 3 ≤ nI 8) : tk_Fn M_X5_areOfOneTown [.ref p, .int k, .int k2] (σ, tk_rho a b, τ, 62) (some (.int (tk_b ((0 ≤ k ∧ k < σ p 3) ∧ (0 ≤ k2 ∧ k2 < σ p 3) ∧ σ (p + 1) k.toNatClampNeg = σ (p + 1) k2.toNatClampNeg)))) (σ, tk_rho a b, τ, 62) := by
  have hp0 := hp
  rcases hp with rfl | rfl <;>
  · refine tk_ct rfl rfl (Nat.le_of_ble_eq_true rfl) (fun l D cy => tk_run (hT_X5_areOfOneTown none) [] 60 _ ?_)
    refine tk_cc (k_isKerb hp0) (fun v9 μ9 h9 => ?_)
    obtain ⟨rfl, rfl⟩ := h9
    refine And.intro (fun h1 => ?_) (fun h1 => ?_)
    · refine And.intro (by first | exact Or.inl rfl | exact Or.inr rfl) (And.intro ?_ rfl)
      rw [tk_bF (fun h => tk_b0.mp h1 h.1)]
    · have h1 := Decidable.not_not.mp (fun h => h1 (tk_b0.mpr h))
      refine tk_cc (k_isKerb hp0) (fun v9 μ9 h9 => ?_)
      obtain ⟨rfl, rfl⟩ := h9
      refine And.intro (fun h2 => ?_) (fun h2 => ?_)
      · refine And.intro (by first | exact Or.inl rfl | exact Or.inr rfl) (And.intro ?_ rfl)
        rw [tk_bF (fun h => tk_b0.mp h2 h.2.1)]
      · have h2 := Decidable.not_not.mp (fun h => h2 (tk_b0.mpr h))
        refine tk_ift (tk_in_of h1.1 h1.2 hk (by decide)) ?_
        refine tk_ift (tk_in_of h2.1 h2.2 hk (by decide)) ?_
        refine And.intro (fun h3 => ?_) (fun h3 => ?_)
        · refine And.intro (by first | exact Or.inl rfl | exact Or.inr rfl) (And.intro ?_ rfl)
          rw [tk_bT ⟨h1, h2, h3⟩]
        · refine And.intro (by first | exact Or.inl rfl | exact Or.inr rfl) (And.intro ?_ rfl)
          rw [tk_bF (fun h => h3 h.2.2)]
theorem k_isFlooded {lv : Int32} (hp : tk_tw p) (hk : σ p 3 ≤ nI 8) : tk_Fn M_X5_isFlooded [.ref p, .int k, .int lv] (σ, tk_rho a b, τ, 62) (some (.int (tk_b ((0 ≤ k ∧ k < σ p 3) ∧ σ (p + 2) k.toNatClampNeg ≤ lv)))) (σ, tk_rho a b, τ, 62) := by
  have hp0 := hp
  rcases hp with rfl | rfl <;>
  · refine tk_ct rfl rfl (Nat.le_of_ble_eq_true rfl) (fun l D cy => tk_run (hT_X5_isFlooded none) [] 60 _ ?_)
    refine tk_cc (k_isKerb hp0) (fun v9 μ9 h9 => ?_)
    obtain ⟨rfl, rfl⟩ := h9
    refine And.intro (fun h1 => ?_) (fun h1 => ?_)
    · refine And.intro (by first | exact Or.inl rfl | exact Or.inr rfl) (And.intro ?_ rfl)
      rw [tk_bF (fun h => tk_b0.mp h1 h.1)]
    · have h1 := Decidable.not_not.mp (fun h => h1 (tk_b0.mpr h))
      refine tk_ift (tk_in_of h1.1 h1.2 hk (by decide)) ?_
      refine And.intro (fun h2 => ?_) (fun h2 => ?_)
      · refine And.intro (by first | exact Or.inl rfl | exact Or.inr rfl) (And.intro ?_ rfl)
        rw [tk_bF (fun h => Int32.not_lt.mpr h.2 h2)]
      · refine And.intro (by first | exact Or.inl rfl | exact Or.inr rfl) (And.intro ?_ rfl)
        rw [tk_bT ⟨h1, Int32.not_lt.mp h2⟩]
theorem k_floodedBy_loop {l : Launch} {D : va_G} {cy : Nat → ClassId} {lv : Int32} {N : Nat} (hp : tk_tw p) (hN : σ p 3 = nI N) (hN8 : N ≤ 8) : ∀ (d j : Nat), j + d = N →
    tk_J l D cy none M_X5_floodedBy (4, [some (.ref p), some (.int lv), some (.int (tk_bits (fun k => σ (p + 2) k ≤ lv) j)), some (.int (nI j))], [], (σ, tk_rho a b, τ, 62), 0, 0) (fun v μ' => v = some (.int (tk_bits (fun k => σ (p + 2) k ≤ lv) N)) ∧ μ' = (σ, tk_rho a b, τ, 62)) := by
  have hp0 := hp
  have hk : σ p 3 ≤ nI 8 := by rw [hN]; exact nI_le hN8 (by decide)
  intro d
  induction d with
  | zero =>
    intro j hj
    rcases hp with rfl | rfl <;>
    · refine tk_run (hT_X5_floodedBy none) [4] 40 _ ?_
      refine And.intro (fun h1 => ?_) (fun h1 => ?_)
      · refine And.intro ?_ rfl
        rw [← hj]
        rfl
      · exact absurd (by rw [hN, ← hj]; exact nI_le (by omega) (by omega)) h1
  | succ d ih =>
    intro j hj
    have h9 := ih (j + 1) (by omega)
    have hlt : nI j < σ p 3 := by rw [hN]; exact nI_lt (by omega) (by omega)
    rw [← nI_1] at h9
    rcases hp with rfl | rfl <;>
    · refine tk_run (hT_X5_floodedBy none) [4] 40 _ ?_
      refine And.intro (fun h1 => ?_) (fun h1 => ?_)
      · exact absurd h1 (Int32.not_le.mpr hlt)
      · refine tk_cc (k_isFlooded hp0 hk) (fun v9 μ9 h9 => ?_)
        obtain ⟨rfl, rfl⟩ := h9
        refine And.intro (fun h2 => ?_) (fun h2 => ?_)
        · have h3 := tk_b0.mp h2
          rw [tk_bits, if_neg (fun h => h3 ⟨⟨nI_pos' (by omega), hlt⟩, by rw [nI_clamp (by omega)]; exact h⟩)] at h9
          exact h9
        · have h3 := Decidable.not_not.mp (fun h => h2 (tk_b0.mpr h))
          rw [tk_bits, if_pos (by have := h3.2; rw [nI_clamp (by omega)] at this; exact this)] at h9
          exact h9
theorem k_floodedBy {lv : Int32} {N : Nat} (hp : tk_tw p) (hN : σ p 3 = nI N) (hN8 : N ≤ 8) : tk_Fn M_X5_floodedBy [.ref p, .int lv] (σ, tk_rho a b, τ, 62) (some (.int (tk_bits (fun k => σ (p + 2) k ≤ lv) N))) (σ, tk_rho a b, τ, 62) := by
  refine tk_ct rfl rfl (Nat.le_of_ble_eq_true rfl) (fun l D cy => tk_run (hT_X5_floodedBy none) [4] 20 _ ?_)
  exact k_floodedBy_loop hp hN hN8 N 0 (by omega)
/-- a thing that a tide takes -/
def tk_k1 (h d : Nat → Int32) (lv k g : Int32) : Int32 := if g = 0 ∧ h k.toNatClampNeg ≤ lv then d k.toNatClampNeg else k
def tk_g0 (h y : Nat → Int32) (lv k g : Int32) : Int32 := if g = 0 ∧ h k.toNatClampNeg ≤ lv then y k.toNatClampNeg else g
def tk_g1 (h y : Nat → Int32) (lv k g : Int32) : Int32 := if tk_g0 h y lv k g ≤ 0 then tk_g0 h y lv k g else tk_g0 h y lv k g - 1
end
