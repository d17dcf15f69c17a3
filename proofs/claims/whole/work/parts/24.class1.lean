/-! the class: what looks ahead -/
/-- one tide of a thing that may be tied -/
def tk_sT (E : Nat → Nat → Int32) (lv d : Int32) (s : Int32 × Int32) : Int32 × Int32 := if d = 1 then s else tk_s1 E lv s
def tk_iT (E : Nat → Nat → Int32) (t d : Int32) : Nat → Int32 × Int32 → Int32 × Int32
  | 0, s => s
  | n + 1, s => tk_sT E (tk_lv' E (t + nI n)) d (tk_iT E t d n s)
theorem tk_iT_eq (E : Nat → Nat → Int32) (t d : Int32) (n : Nat) (s : Int32 × Int32) : tk_iT E t d n s = if d = 1 then s else tk_it E t n s := by
  induction n with
  | zero => simp only [tk_iT, tk_it, ite_self]
  | succ n ih =>
    rw [tk_iT, ih, tk_sT, tk_it]
    split <;> rfl
theorem tk_sT_V {E : Nat → Nat → Int32} {lv d : Int32} {s : Int32 × Int32} (hE : tk_VE E) (h : tk_VS E s) : tk_VS E (tk_sT E lv d s) := by
  unfold tk_sT
  split
  · exact h
  · exact tk_s1_V hE h
theorem tk_iT_V {E : Nat → Nat → Int32} {t d : Int32} {s : Int32 × Int32} (hE : tk_VE E) (h : tk_VS E s) (n : Nat) : tk_VS E (tk_iT E t d n s) := by
  induction n with
  | zero => exact h
  | succ n ih => exact tk_sT_V hE ih
/-- whether a thing may be as it is: tied ones lie -/
def tk_VT (d : Int32) (s : Int32 × Int32) : Prop := d = 0 ∨ (d = 1 ∧ s.2 = 0)
theorem tk_iT_T {E : Nat → Nat → Int32} {t d : Int32} {s : Int32 × Int32} (h : tk_VT d s) (n : Nat) : tk_VT d (tk_iT E t d n s) := by
  rcases h with h | h
  · exact Or.inl h
  · rw [tk_iT_eq, if_pos h.1]
    exact Or.inr h
/-- first n below j + d, from j on, that is so -/
def tk_fst (p : Nat → Prop) [DecidablePred p] : Nat → Nat → Option Nat
  | 0, _ => none
  | d + 1, j => if p j then some j else tk_fst p d (j + 1)
/-- the first of the next 400 tides in which it lies on k -/
def tk_sn (E : Nat → Nat → Int32) (t d : Int32) (s : Int32 × Int32) (k : Int32) : Option Nat := tk_fst (fun n => (tk_iT E t d n s).2 = 0 ∧ (tk_iT E t d n s).1 = k) 401 0
def tk_on (o : Option Nat) (t : Int32) : Int32 := match o with
  | some n => t + nI n
  | none => -9
/-- what the class uses as it looks ahead -/
def tk_Sc (σ σ' : Nat → Nat → Int32) : Prop := ∀ x y, x ≠ 45 → x ≠ 46 → σ' x y = σ x y
theorem tk_Sc.rf {σ : Nat → Nat → Int32} : tk_Sc σ σ := fun _ _ _ _ => rfl
theorem tk_Sc.tr {σ1 σ2 σ3 : Nat → Nat → Int32} (h1 : tk_Sc σ1 σ2) (h2 : tk_Sc σ2 σ3) : tk_Sc σ1 σ3 := fun x y ha hb => (h2 x y ha hb).trans (h1 x y ha hb)
theorem tk_Sc.up {σ σ' : Nat → Nat → Int32} (h : tk_Sc σ σ') {p : Nat} (hp : p = 45 ∨ p = 46) (k : Nat) (v : Int32) : tk_Sc σ (tk_up σ' p k v) := fun x y ha hb => by
  rw [tk_up_p σ' v y (by rcases hp with rfl | rfl <;> assumption)]
  exact h x y ha hb
theorem tk_Sc.E {σ σ' : Nat → Nat → Int32} (h : tk_Sc σ σ') {q : Nat} (hq : tk_tw q) : tk_E σ' q = tk_E σ q := by
  funext i k
  unfold tk_E
  rcases hq with rfl | rfl <;> split <;> exact h _ _ (by decide) (by decide)
theorem tk_twok {q : Nat} (hq : tk_tw q) : tk_ok q 5 62 = true := by rcases hq with rfl | rfl <;> rfl
theorem tk_th {a b j : Nat} (hj : j < 5) : tk_rho a b 17 j = some (18 + j) := by
  match j, hj with
  | 0, _ => rfl
  | 1, _ => rfl
  | 2, _ => rfl
  | 3, _ => rfl
  | 4, _ => rfl
theorem tk_thok {j : Nat} (hj : j < 5) : tk_ok (18 + j) 4 62 = true := by
  match j, hj with
  | 0, _ => rfl
  | 1, _ => rfl
  | 2, _ => rfl
  | 3, _ => rfl
  | 4, _ => rfl
theorem tk_ix {t m : Int32} {n : Nat} (h : 0 ≤ t ∧ t < m) (hm : m ≤ nI n) (hn : n < 2 ^ 31) : ∃ j, j < n ∧ t = nI j := by
  have h1 := tk_in.mp (tk_in_of h.1 h.2 hm hn)
  exact vp_in_of h1 hn
section
variable {p q : Nat} {t k : Int32} {σ : Nat → Nat → Int32} {a b : Nat} {τ : Nat → Nat → Int64}
theorem k_passA {lv : Int32} (hp : tk_ok p 4 62 = true) (hq : tk_tw q) (hE : tk_VE (tk_E σ q)) (hv : tk_VS (tk_E σ q) (σ p 0, σ p 1)) (ht : tk_VT (σ p 2) (σ p 0, σ p 1)) :
    tk_Fn M_X4_pass [.ref p, .ref q, .int lv] (σ, tk_rho a b, τ, 62) (some (.int (tk_b (¬ σ p 2 = 1 ∧ σ p 1 = 0 ∧ σ (q + 2) (σ p 0).toNatClampNeg ≤ lv)))) (tk_up (tk_up σ p 0 (tk_sT (tk_E σ q) lv (σ p 2) (σ p 0, σ p 1)).1) p 1 (tk_sT (tk_E σ q) lv (σ p 2) (σ p 0, σ p 1)).2, tk_rho a b, τ, 62) := by
  rcases ht with ht | ht
  · have h1 : ¬ σ p 2 = 1 := fun h => by rw [ht] at h; exact absurd h (by decide)
    have e1 : tk_sT (tk_E σ q) lv (σ p 2) (σ p 0, σ p 1) = tk_s1 (tk_E σ q) lv (σ p 0, σ p 1) := if_neg h1
    have e2 : tk_b (¬ σ p 2 = 1 ∧ σ p 1 = 0 ∧ σ (q + 2) (σ p 0).toNatClampNeg ≤ lv) = tk_b (σ p 1 = 0 ∧ σ (q + 2) (σ p 0).toNatClampNeg ≤ lv) := by simp only [h1, not_false_eq_true, true_and]
    rw [e1, e2]
    exact k_pass hp hq hE.2.2.2.2.1.2 hv.1 (hE.2.2.2.2.2.2 _ hv.1).2.1 ht
  · have h1 : ¬ σ p 2 = 0 := fun h => by rw [ht.1] at h; exact absurd h (by decide)
    have e1 : tk_sT (tk_E σ q) lv (σ p 2) (σ p 0, σ p 1) = (σ p 0, σ p 1) := if_pos ht.1
    have e2 : tk_b (¬ σ p 2 = 1 ∧ σ p 1 = 0 ∧ σ (q + 2) (σ p 0).toNatClampNeg ≤ lv) = 0 := tk_bF (fun h => h.1 ht.1)
    have e3 : σ p 1 = 0 := ht.2
    rw [e1, e2]
    simp only [tk_up_id]
    refine tk_ct rfl rfl (Nat.le_of_ble_eq_true rfl) (fun l D cy => tk_run (hT_X4_pass none) [] 60 _ ?_)
    refine tk_ift hp ?_
    refine tk_cc (k_lies hp) (fun v9 μ9 h9 => ?_)
    obtain ⟨rfl, rfl⟩ := h9
    refine And.intro (fun h2 => ?_) (fun h2 => ?_)
    all_goals try dsimp only [tk_c0, tk_c1, tk_c2, tk_c3, tk_c4, tk_c5, tk_c6, tk_c7, tk_c8, tk_c9, tk_c10, tk_c11, tk_c12, tk_c13] at h2
    · exact absurd e3 (tk_b0.mp h2)
    · refine tk_ift hp ?_
      refine And.intro (fun h3 => ?_) (fun h3 => ?_)
      all_goals try dsimp only [tk_c0, tk_c1, tk_c2, tk_c3, tk_c4, tk_c5, tk_c6, tk_c7, tk_c8, tk_c9, tk_c10, tk_c11, tk_c12, tk_c13] at h3
      · exact absurd h3 h1
      · refine And.intro (fun h4 => ?_) (fun h4 => ?_)
        all_goals try dsimp only [tk_c0, tk_c1, tk_c2, tk_c3, tk_c4, tk_c5, tk_c6, tk_c7, tk_c8, tk_c9, tk_c10, tk_c11, tk_c12, tk_c13] at h4
        · refine tk_ift hp ?_
          refine And.intro (fun h5 => ?_) (fun h5 => ?_)
          all_goals try dsimp only [tk_c0, tk_c1, tk_c2, tk_c3, tk_c4, tk_c5, tk_c6, tk_c7, tk_c8, tk_c9, tk_c10, tk_c11, tk_c12, tk_c13] at h5
          · exact And.intro (Or.inl rfl) (And.intro rfl rfl)
          · exact absurd (by rw [e3]; decide) h5
        · exact absurd rfl h4
/-- the thing that was followed, behind one tide -/
theorem tk_stp {σ σi : Nat → Nat → Int32} (hf : tk_Sc σ σi) {p : Nat} (hp : p = 45 ∨ p = 46) (S : Int32 × Int32) : tk_Sc σ (tk_up (tk_up σi p 0 S.1) p 1 S.2) := (hf.up hp 0 S.1).up hp 1 S.2
theorem tk_stv {σi : Nat → Nat → Int32} {p : Nat} (S : Int32 × Int32) : (tk_up (tk_up σi p 0 S.1) p 1 S.2 p 0, tk_up (tk_up σi p 0 S.1) p 1 S.2 p 1) = S := by
  rw [tk_up_at, tk_up_k _ _ _ (by decide), tk_up_at]
theorem tk_std {σi : Nat → Nat → Int32} {p : Nat} (S : Int32 × Int32) : tk_up (tk_up σi p 0 S.1) p 1 S.2 p 2 = σi p 2 := by
  rw [tk_up_k _ _ _ (by decide), tk_up_k _ _ _ (by decide)]
/-- where: the class's loop -/
theorem k_cWhere_loop {l : Launch} {D : va_G} {cy : Nat → ClassId} {N : Nat} {d : Int32} {s : Int32 × Int32} (ha : tk_tw a) (hE : tk_VE (tk_E σ a)) (hs : tk_VS (tk_E σ a) s) (hd : tk_VT d s) (hN : N ≤ 400) :
    ∀ (n j : Nat) (i : Int32) (σi : Nat → Nat → Int32), i = nI j → j + n = N → tk_Sc σ σi → σi 45 2 = d → (σi 45 0, σi 45 1) = tk_iT (tk_E σ a) (σ 16 0) d j s →
    tk_J l D cy none M_X6_where (42, [some (.ref 1), some (.int t), some (.int (nI N)), some (.int i)], [], (σi, tk_rho a b, τ, 62), 0, 0)
      (fun v μ' => v = some (.int (tk_pl (tk_iT (tk_E σ a) (σ 16 0) d N s))) ∧ ∃ σ', μ' = (σ', tk_rho a b, τ, 62) ∧ tk_Sc σ σ') := by
  intro n
  induction n with
  | zero =>
    intro j i σi hi0 hj hf h2 hi
    subst hi0
    refine tk_run (hT_X6_where none) [42] 40 _ ?_
    refine And.intro (fun h1 => ?_) (fun h1 => ?_)
    all_goals try dsimp only [tk_c0, tk_c1, tk_c2, tk_c3, tk_c4, tk_c5, tk_c6, tk_c7, tk_c8, tk_c9, tk_c10, tk_c11, tk_c12, tk_c13] at h1
    · refine tk_cc (k_place (p := 45) rfl) (fun v9 μ9 h9 => ?_)
      obtain ⟨rfl, rfl⟩ := h9
      refine And.intro ?_ ⟨σi, rfl, hf⟩
      rw [← hj, Nat.add_zero, ← hi]
      rfl
    · exact absurd (nI_le (by omega) (by omega)) h1
  | succ n ih =>
    intro j i σi hi0 hj hf hd2 hi
    subst hi0
    have hV := tk_iT_V (t := σ 16 0) (d := d) hE hs j
    have hT := tk_iT_T (E := tk_E σ a) (t := σ 16 0) hd j
    rw [← hi] at hV hT
    have hF := hf.E ha
    have e0 : σi 16 0 = σ 16 0 := hf _ _ (by decide) (by decide)
    refine tk_run (hT_X6_where none) [42] 40 _ ?_
    refine And.intro (fun h1 => ?_) (fun h1 => ?_)
    all_goals try dsimp only [tk_c0, tk_c1, tk_c2, tk_c3, tk_c4, tk_c5, tk_c6, tk_c7, tk_c8, tk_c9, tk_c10, tk_c11, tk_c12, tk_c13] at h1
    · exact absurd h1 (nI_ge (by omega) (by omega))
    · refine tk_ift (tk_twok ha) ?_
      refine tk_cc (k_levelOf ha (by have := hE.1; rw [← hF] at this; exact this)) (fun v9 μ9 h9 => ?_)
      obtain ⟨rfl, rfl⟩ := h9
      refine tk_cc (k_passA (p := 45) rfl ha (by rw [hF]; exact hE) (by rw [hF]; exact hV) (by rw [hd2]; exact hT)) (fun v9 μ9 h9 => ?_)
      obtain ⟨rfl, rfl⟩ := h9
      refine ih (j + 1) _ _ (nI_1 j) (by omega) (tk_stp hf (Or.inl rfl) _) ((tk_std _).trans hd2) ((tk_stv _).trans ?_)
      show tk_sT (tk_E σi a) (tk_lv' (tk_E σi a) (σi 16 0 + nI j)) (σi 45 2) (σi 45 0, σi 45 1) = _
      rw [hF, e0, hi, hd2]
      rfl
/-- what the class keeps to of its things -/
def tk_CT (a : Nat) (σ : Nat → Nat → Int32) : Prop := ∀ j : Nat, j < 5 → nI j < σ a 4 → tk_VS (tk_E σ a) (σ (18 + j) 0, σ (18 + j) 1) ∧ tk_VT (σ (18 + j) 2) (σ (18 + j) 0, σ (18 + j) 1)
theorem tk_VT01 {d : Int32} {s : Int32 × Int32} (h : tk_VT d s) : d = 0 ∨ d = 1 := h.imp id (fun h => h.1)
theorem tk_bec {σ σi : Nat → Nat → Int32} (hf : tk_Sc σ σi) {p : Nat} (hp : p = 45 ∨ p = 46) (x y z : Int32) : tk_Sc σ (tk_up (tk_up (tk_up σi p 0 x) p 1 y) p 2 z) := ((hf.up hp 0 x).up hp 1 y).up hp 2 z
theorem k_cWhere {n : Int32} (ha : tk_tw a) (hE : tk_VE (tk_E σ a)) (hT : tk_CT a σ) :
    tk_Ct M_X6_where [.ref 1, .int t, .int n] (σ, tk_rho a b, τ, 62) (fun v μ' => v = some (.int (if (0 ≤ t ∧ t < σ a 4) ∧ (0 ≤ n ∧ n ≤ 400) then tk_pl (tk_iT (tk_E σ a) (σ 16 0) (σ (18 + t.toNatClampNeg) 2) n.toNatClampNeg (σ (18 + t.toNatClampNeg) 0, σ (18 + t.toNatClampNeg) 1)) else -1)) ∧ ∃ σ', μ' = (σ', tk_rho a b, τ, 62) ∧ tk_Sc σ σ') := by
  refine tk_ct rfl rfl (Nat.le_of_ble_eq_true rfl) (fun l D cy => tk_run (hT_X6_where none) [42] 40 _ ?_)
  refine tk_ift (tk_twok ha) ?_
  refine tk_cc (k_isThing ha) (fun v9 μ9 h9 => ?_)
  obtain ⟨rfl, rfl⟩ := h9
  refine And.intro (fun h1 => ?_) (fun h1 => ?_)
  all_goals try dsimp only [tk_c0, tk_c1, tk_c2, tk_c3, tk_c4, tk_c5, tk_c6, tk_c7, tk_c8, tk_c9, tk_c10, tk_c11, tk_c12, tk_c13] at h1
  · refine And.intro ?_ ⟨_, rfl, tk_Sc.rf⟩
    rw [if_neg (fun h => tk_b0.mp h1 h.1)]
  · have h1 := Decidable.not_not.mp (fun h => h1 (tk_b0.mpr h))
    refine tk_cc (k_isWithin _ _ _ _) (fun v9 μ9 h9 => ?_)
    obtain ⟨rfl, rfl⟩ := h9
    refine And.intro (fun h2 => ?_) (fun h2 => ?_)
    all_goals try dsimp only [tk_c0, tk_c1, tk_c2, tk_c3, tk_c4, tk_c5, tk_c6, tk_c7, tk_c8, tk_c9, tk_c10, tk_c11, tk_c12, tk_c13] at h2
    · refine And.intro ?_ ⟨_, rfl, tk_Sc.rf⟩
      rw [if_neg (fun h => tk_b0.mp h2 h.2)]
    · have h2 := Decidable.not_not.mp (fun h => h2 (tk_b0.mpr h))
      rw [if_pos ⟨h1, h2⟩]
      obtain ⟨j, hj, rfl⟩ := tk_ix h1 hE.2.2.2.2.2.1.2 (by decide)
      obtain ⟨N, hN, rfl⟩ := nI_of2 (M := 400) (n := 400) rfl (Int32.not_lt.mpr h2.1) h2.2
      have hs := hT j (by omega) h1.2
      rw [nI_clamp (by omega), nI_clamp (by omega)]
      refine tk_ift (tk_in_nI (n := 5) hj (by decide)) ?_
      refine tk_osi (by rw [nI_clamp (by omega)]; exact tk_th hj) ?_
      refine tk_cc (k_becomes (p := 45) rfl (tk_thok hj) (by omega) (tk_VT01 hs.2)) (fun v9 μ9 h9 => ?_)
      obtain ⟨rfl, rfl⟩ := h9
      refine k_cWhere_loop ha hE hs.1 hs.2 hN N 0 _ _ rfl (by omega) (tk_bec tk_Sc.rf (Or.inl rfl) _ _ _) (tk_up_at _ _ _ _) ?_
      rw [tk_up_k _ _ _ (by decide), tk_up_k _ _ _ (by decide), tk_up_at, tk_up_k _ _ _ (by decide), tk_up_at]
      rfl
/-- firstTideOn -/
theorem k_firstTide_loop {l : Launch} {D : va_G} {cy : Nat → ClassId} {d : Int32} {s : Int32 × Int32} (ha : tk_tw a) (hE : tk_VE (tk_E σ a)) (hs : tk_VS (tk_E σ a) s) (hd : tk_VT d s) :
    ∀ (n j : Nat) (i : Int32) (σi : Nat → Nat → Int32), i = nI j → j + n = 401 → tk_Sc σ σi → σi 45 2 = d → (σi 45 0, σi 45 1) = tk_iT (tk_E σ a) (σ 16 0) d j s →
    tk_J l D cy none M_X6_firstTideOn (2, [some (.ref 1), some (.ref 45), some (.int k), some (.int i)], [], (σi, tk_rho a b, τ, 62), 0, 0)
      (fun v μ' => v = some (.int (tk_on (tk_fst (fun n => (tk_iT (tk_E σ a) (σ 16 0) d n s).2 = 0 ∧ (tk_iT (tk_E σ a) (σ 16 0) d n s).1 = k) n j) (σ 16 0))) ∧ ∃ σ', μ' = (σ', tk_rho a b, τ, 62) ∧ tk_Sc σ σ') := by
  intro n
  induction n with
  | zero =>
    intro j i σi hi0 hj hf h2 hi
    subst hi0
    refine tk_run (hT_X6_firstTideOn none) [2] 40 _ ?_
    refine And.intro (fun h1 => ?_) (fun h1 => ?_)
    all_goals try dsimp only [tk_c0, tk_c1, tk_c2, tk_c3, tk_c4, tk_c5, tk_c6, tk_c7, tk_c8, tk_c9, tk_c10, tk_c11, tk_c12, tk_c13] at h1
    · exact And.intro rfl ⟨σi, rfl, hf⟩
    · exact absurd (nI_lt (a := 400) (by omega) (by omega)) h1
  | succ n ih =>
    intro j i σi hi0 hj hf hd2 hi
    subst hi0
    have hV := tk_iT_V (t := σ 16 0) (d := d) hE hs j
    have hT := tk_iT_T (E := tk_E σ a) (t := σ 16 0) hd j
    rw [← hi] at hV hT
    have hF := hf.E ha
    have e0 : σi 16 0 = σ 16 0 := hf _ _ (by decide) (by decide)
    rw [tk_fst, ← hi]
    refine tk_run (hT_X6_firstTideOn none) [2] 40 _ ?_
    refine And.intro (fun h1 => ?_) (fun h1 => ?_)
    all_goals try dsimp only [tk_c0, tk_c1, tk_c2, tk_c3, tk_c4, tk_c5, tk_c6, tk_c7, tk_c8, tk_c9, tk_c10, tk_c11, tk_c12, tk_c13] at h1
    · exact absurd h1 (nI_nlt (a := 400) (b := j) (by omega) (by omega))
    · refine tk_cc (k_liesOn (p := 45) rfl) (fun v9 μ9 h9 => ?_)
      obtain ⟨rfl, rfl⟩ := h9
      refine And.intro (fun h2 => ?_) (fun h2 => ?_)
      all_goals try dsimp only [tk_c0, tk_c1, tk_c2, tk_c3, tk_c4, tk_c5, tk_c6, tk_c7, tk_c8, tk_c9, tk_c10, tk_c11, tk_c12, tk_c13] at h2
      · rw [if_neg (tk_b0.mp h2)]
        refine tk_ift (tk_twok ha) ?_
        refine tk_cc (k_levelOf ha (by have := hE.1; rw [← hF] at this; exact this)) (fun v9 μ9 h9 => ?_)
        obtain ⟨rfl, rfl⟩ := h9
        refine tk_cc (k_passA (p := 45) rfl ha (by rw [hF]; exact hE) (by rw [hF]; exact hV) (by rw [hd2]; exact hT)) (fun v9 μ9 h9 => ?_)
        obtain ⟨rfl, rfl⟩ := h9
        refine ih (j + 1) _ _ (nI_1 j) (by omega) (tk_stp hf (Or.inl rfl) _) ((tk_std _).trans hd2) ((tk_stv _).trans ?_)
        show tk_sT (tk_E σi a) (tk_lv' (tk_E σi a) (σi 16 0 + nI j)) (σi 45 2) (σi 45 0, σi 45 1) = _
        rw [hF, e0, hi, hd2]
        rfl
      · rw [if_pos (Decidable.not_not.mp (fun h => h2 (tk_b0.mpr h)))]
        refine And.intro ?_ ⟨σi, rfl, hf⟩
        dsimp only
        rw [e0]
        rfl
theorem k_firstTide {d : Int32} {s : Int32 × Int32} {σi : Nat → Nat → Int32} (ha : tk_tw a) (hE : tk_VE (tk_E σ a)) (hs : tk_VS (tk_E σ a) s) (hd : tk_VT d s) (hf : tk_Sc σ σi) (hd2 : σi 45 2 = d) (hi : (σi 45 0, σi 45 1) = s) :
    tk_Ct M_X6_firstTideOn [.ref 1, .ref 45, .int k] (σi, tk_rho a b, τ, 62) (fun v μ' => v = some (.int (tk_on (tk_sn (tk_E σ a) (σ 16 0) d s k) (σ 16 0))) ∧ ∃ σ', μ' = (σ', tk_rho a b, τ, 62) ∧ tk_Sc σ σ') := by
  refine tk_ct rfl rfl (Nat.le_of_ble_eq_true rfl) (fun l D cy => tk_run (hT_X6_firstTideOn none) [2] 20 _ ?_)
  exact k_firstTide_loop ha hE hs hd 401 0 _ _ rfl rfl hf hd2 hi
theorem k_cWhen (ha : tk_tw a) (hE : tk_VE (tk_E σ a)) (hT : tk_CT a σ) :
    tk_Ct M_X6_when [.ref 1, .int t, .int k] (σ, tk_rho a b, τ, 62) (fun v μ' => v = some (.int (if (0 ≤ t ∧ t < σ a 4) ∧ (0 ≤ k ∧ k < σ a 3) then tk_on (tk_sn (tk_E σ a) (σ 16 0) (σ (18 + t.toNatClampNeg) 2) (σ (18 + t.toNatClampNeg) 0, σ (18 + t.toNatClampNeg) 1) k) (σ 16 0) else -1)) ∧ ∃ σ', μ' = (σ', tk_rho a b, τ, 62) ∧ tk_Sc σ σ') := by
  refine tk_ct rfl rfl (Nat.le_of_ble_eq_true rfl) (fun l D cy => tk_run (hT_X6_when none) [] 40 _ ?_)
  refine tk_ift (tk_twok ha) ?_
  refine tk_cc (k_isThing ha) (fun v9 μ9 h9 => ?_)
  obtain ⟨rfl, rfl⟩ := h9
  refine And.intro (fun h1 => ?_) (fun h1 => ?_)
  all_goals try dsimp only [tk_c0, tk_c1, tk_c2, tk_c3, tk_c4, tk_c5, tk_c6, tk_c7, tk_c8, tk_c9, tk_c10, tk_c11, tk_c12, tk_c13] at h1
  · refine And.intro ?_ ⟨_, rfl, tk_Sc.rf⟩
    rw [if_neg (fun h => tk_b0.mp h1 h.1)]
  · have h1 := Decidable.not_not.mp (fun h => h1 (tk_b0.mpr h))
    refine tk_ift (tk_twok ha) ?_
    refine tk_cc (k_isKerb ha) (fun v9 μ9 h9 => ?_)
    obtain ⟨rfl, rfl⟩ := h9
    refine And.intro (fun h2 => ?_) (fun h2 => ?_)
    all_goals try dsimp only [tk_c0, tk_c1, tk_c2, tk_c3, tk_c4, tk_c5, tk_c6, tk_c7, tk_c8, tk_c9, tk_c10, tk_c11, tk_c12, tk_c13] at h2
    · refine And.intro ?_ ⟨_, rfl, tk_Sc.rf⟩
      rw [if_neg (fun h => tk_b0.mp h2 h.2)]
    · have h2 := Decidable.not_not.mp (fun h => h2 (tk_b0.mpr h))
      rw [if_pos ⟨h1, h2⟩]
      obtain ⟨j, hj, rfl⟩ := tk_ix h1 hE.2.2.2.2.2.1.2 (by decide)
      have hs := hT j (by omega) h1.2
      rw [nI_clamp (by omega)]
      refine tk_ift (tk_in_nI (n := 5) hj (by decide)) ?_
      refine tk_osi (by rw [nI_clamp (by omega)]; exact tk_th hj) ?_
      refine tk_cc (k_becomes (p := 45) rfl (tk_thok hj) (by omega) (tk_VT01 hs.2)) (fun v9 μ9 h9 => ?_)
      obtain ⟨rfl, rfl⟩ := h9
      refine tk_cc (k_firstTide ha hE hs.1 hs.2 (tk_bec tk_Sc.rf (Or.inl rfl) _ _ _) (tk_up_at _ _ _ _) (by
        rw [tk_up_k _ _ _ (by decide), tk_up_k _ _ _ (by decide), tk_up_at, tk_up_k _ _ _ (by decide), tk_up_at])) (fun v9 μ9 h9 => ?_)
      obtain ⟨rfl, σ', rfl, hf⟩ := h9
      exact And.intro rfl ⟨σ', rfl, hf⟩
end
