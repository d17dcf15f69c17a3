/-! round, of both sides -/
theorem tk_pig : ∀ (W : Nat) (g : Nat → Nat), (∀ i, i ≤ W → g i < W) → ∃ i j, i < j ∧ j ≤ W ∧ g i = g j
  | 0, g, h => absurd (h 0 (Nat.le_refl 0)) (Nat.not_lt_zero _)
  | W + 1, g, h => by
    by_cases hc : ∃ i, i ≤ W ∧ g i = g (W + 1)
    · obtain ⟨i, hi, e⟩ := hc
      exact ⟨i, W + 1, by omega, Nat.le_refl _, e⟩
    · have hne : ∀ i, i ≤ W → g i ≠ g (W + 1) := fun i hi e => hc ⟨i, hi, e⟩
      have hv := h (W + 1) (Nat.le_refl _)
      obtain ⟨i, j, hij, hj, e⟩ := tk_pig W (fun i => if g i < g (W + 1) then g i else g i - 1) (fun i hi => by
        have h1 := h i (by omega)
        have h2 := hne i hi
        split <;> omega)
      refine ⟨i, j, hij, by omega, ?_⟩
      have h1 := hne i (by omega)
      have h2 := hne j hj
      split at e <;> split at e <;> omega
def tk_xN (E : Nat → Nat → Int32) (d : Int32) (lv : Nat → Int32) : Nat → Int32 × Int32 → Int32 × Int32
  | 0, s => s
  | n + 1, s => tk_sT E (lv n) d (tk_xN E d lv n s)
theorem tk_xN_V {E : Nat → Nat → Int32} {d : Int32} {lv : Nat → Int32} {s : Int32 × Int32} (hE : tk_VE E) (h : tk_VS E s) (n : Nat) : tk_VS E (tk_xN E d lv n s) := by
  induction n with
  | zero => exact h
  | succ n ih => exact tk_sT_V hE ih
theorem tk_addm {i j k m : Nat} (h : i % m = j % m) : (i + k) % m = (j + k) % m := by
  rw [Nat.add_mod i k, Nat.add_mod j k, h]
theorem tk_det {E : Nat → Nat → Int32} {d : Int32} {lv : Nat → Int32} {s : Int32 × Int32} {m : Nat} (hlv : ∀ n n', n % m = n' % m → lv n = lv n') {i j : Nat} (hm : i % m = j % m) (hx : tk_xN E d lv i s = tk_xN E d lv j s) : ∀ k, tk_xN E d lv (i + k) s = tk_xN E d lv (j + k) s
  | 0 => hx
  | k + 1 => by
    have ih := tk_det hlv hm hx k
    show tk_sT E (lv (i + k)) d (tk_xN E d lv (i + k) s) = tk_sT E (lv (j + k)) d (tk_xN E d lv (j + k) s)
    rw [ih, hlv _ _ (tk_addm hm)]
theorem tk_clampI {x y : Int32} (hx : 0 ≤ x) (hy : 0 ≤ y) (h : x.toNatClampNeg = y.toNatClampNeg) : x = y := by
  obtain ⟨i, hi, rfl⟩ := nI_of (x := x) (Int32.not_lt.mpr hx)
  obtain ⟨j, hj, rfl⟩ := nI_of (x := y) (Int32.not_lt.mpr hy)
  rw [nI_clamp hi, nI_clamp hj] at h
  rw [h]
theorem tk_exP {E : Nat → Nat → Int32} {d : Int32} {lv : Nat → Int32} {s : Int32 × Int32} {m K : Nat} (hm : 0 < m) (hE : tk_VE E) (hs : tk_VS E s) (hK : K ≤ 8) (e3 : E 3 3 = nI K) :
    ∃ i j, i < j ∧ j ≤ K * 4 * m ∧ tk_xN E d lv i s = tk_xN E d lv j s ∧ i % m = j % m := by
  have hb : ∀ n, (tk_xN E d lv n s).1.toNatClampNeg < K ∧ (tk_xN E d lv n s).2.toNatClampNeg < 4 := fun n => by
    have hv := tk_xN_V (d := d) (lv := lv) hE hs n
    obtain ⟨i, hi, ei⟩ := tk_ix (n := K) hv.1 (by rw [e3]; exact Int32.le_refl _) (by omega)
    obtain ⟨j, hj, ej⟩ := nI_of2 (M := 3) (n := 3) rfl (Int32.not_lt.mpr hv.2.1) hv.2.2
    rw [ei, ej, nI_clamp (by omega), nI_clamp (by omega)]
    exact ⟨hi, by omega⟩
  obtain ⟨i, j, hij, hj, e⟩ := tk_pig (K * 4 * m) (fun n => n % m + m * ((tk_xN E d lv n s).1.toNatClampNeg * 4 + (tk_xN E d lv n s).2.toNatClampNeg)) (fun n _ => by
    have h1 := hb n
    have h2 := Nat.mod_lt n hm
    have h3 : m * ((tk_xN E d lv n s).1.toNatClampNeg * 4 + (tk_xN E d lv n s).2.toNatClampNeg + 1) ≤ m * (K * 4) := Nat.mul_le_mul (Nat.le_refl m) (by omega)
    rw [Nat.mul_succ] at h3
    rw [Nat.mul_comm (K * 4) m]
    omega)
  refine ⟨i, j, hij, hj, ?_, ?_⟩
  · have e2 := congrArg (fun z => z / m) e
    rw [Nat.add_mul_div_left _ _ hm, Nat.add_mul_div_left _ _ hm, Nat.div_eq_of_lt (Nat.mod_lt i hm), Nat.div_eq_of_lt (Nat.mod_lt j hm)] at e2
    have h1 := hb i
    have h2 := hb j
    have v1 := tk_xN_V (d := d) (lv := lv) hE hs i
    have v2 := tk_xN_V (d := d) (lv := lv) hE hs j
    exact Prod.ext (tk_clampI v1.1.1 v2.1.1 (by omega)) (tk_clampI v1.2.1 v2.2.1 (by omega))
  · have e2 := congrArg (fun z => z % m) e
    rw [Nat.add_mul_mod_self_left, Nat.add_mul_mod_self_left, Nat.mod_mod, Nat.mod_mod] at e2
    exact e2
/-- a period: behind B tides it comes back in n -/
def tk_pN (E : Nat → Nat → Int32) (d : Int32) (lv : Nat → Int32) (s : Int32 × Int32) (m B n : Nat) : Prop := tk_xN E d lv (B + n) s = tk_xN E d lv B s ∧ n % m = 0
theorem tk_pNW {E : Nat → Nat → Int32} {d : Int32} {lv : Nat → Int32} {s : Int32 × Int32} {m K : Nat} (hm : 0 < m) (hE : tk_VE E) (hs : tk_VS E s) (hK : K ≤ 8) (e3 : E 3 3 = nI K) (hlv : ∀ n n', n % m = n' % m → lv n = lv n') :
    (∃ p, 1 ≤ p ∧ p ≤ K * 4 * m ∧ ∀ B, K * 4 * m ≤ B → tk_pN E d lv s m B p) ∧ ∀ B n, K * 4 * m ≤ B → (tk_pN E d lv s m B n ↔ tk_pN E d lv s m (K * 4 * m) n) := by
  obtain ⟨i, j, hij, hj, hx, hmm⟩ := tk_exP (d := d) (lv := lv) hm hE hs hK e3
  generalize hW : K * 4 * m = W at hj ⊢
  have hp0 : (j - i) % m = 0 := Nat.sub_mod_eq_zero_of_mod_eq hmm.symm
  have hper : ∀ N, i ≤ N → tk_xN E d lv (N + (j - i)) s = tk_xN E d lv N s := fun N hN => by
    have := tk_det hlv hmm hx (N - i)
    rw [show i + (N - i) = N by omega, show j + (N - i) = N + (j - i) by omega] at this
    exact this.symm
  have hperq : ∀ q N, i ≤ N → tk_xN E d lv (N + q * (j - i)) s = tk_xN E d lv N s := fun q => by
    induction q with
    | zero => intro N _; rw [Nat.zero_mul, Nat.add_zero]
    | succ q ih =>
      intro N hN
      rw [Nat.succ_mul, ← Nat.add_assoc, hper _ (by omega), ih N hN]
  have hz : ∀ B n, n % m = 0 → (B + n) % m = B % m := fun B n h => by
    rw [Nat.add_mod, h, Nat.add_zero, Nat.mod_mod]
  refine ⟨⟨j - i, by omega, by omega, fun B hB => ⟨hper B (by omega), hp0⟩⟩, fun B n hB => ⟨fun h => ⟨?_, h.2⟩, fun h => ⟨?_, h.2⟩⟩⟩
  · have h1 := tk_det hlv (hz B n h.2) h.1 (W + B * (j - i) - B)
    have hge : B ≤ B * (j - i) := Nat.le_mul_of_pos_right B (by omega)
    rw [show B + n + (W + B * (j - i) - B) = W + n + B * (j - i) by omega, show B + (W + B * (j - i) - B) = W + B * (j - i) by omega, hperq B _ (by omega), hperq B _ (by omega)] at h1
    exact h1
  · have h1 := tk_det hlv (hz W n h.2) h.1 (B - W)
    rw [show W + n + (B - W) = B + n by omega, show W + (B - W) = B by omega] at h1
    exact h1
/-- the level, in numbers -/
theorem tk_lvN {E : Nat → Nat → Int32} {m st of T n : Nat} (h0 : E 3 0 = nI m) (h1 : E 3 1 = nI st) (h2 : E 3 2 = nI of) (hm : 0 < m) (hm2 : m ≤ 20) (hst : st < m) (hof : of < m) (hT : T + n ≤ 100000) : tk_lv' E (nI T + nI n) = nI ((st * (T + n) + of) % m) := by
  have hmul : st * (T + n) ≤ 20 * 100000 := Nat.mul_le_mul (by omega) hT
  rw [tk_lv', h0, h1, h2, tk_lev, tk_rem, nI_add, pk_mul, nI_add, pk_rem (by omega) hm (by omega)]
theorem tk_iT_xN {E : Nat → Nat → Int32} {d : Int32} {s : Int32 × Int32} {m st of T : Nat} (h0 : E 3 0 = nI m) (h1 : E 3 1 = nI st) (h2 : E 3 2 = nI of) (hm : 0 < m) (hm2 : m ≤ 20) (hst : st < m) (hof : of < m) : ∀ n, T + n ≤ 100000 → tk_iT E (nI T) d n s = tk_xN E d (fun n => nI ((st * (T + n) + of) % m)) n s
  | 0, _ => rfl
  | n + 1, h => by
    rw [tk_iT, tk_xN, tk_iT_xN h0 h1 h2 hm hm2 hst hof n (by omega), tk_lvN h0 h1 h2 hm hm2 hst hof (by omega)]
theorem tk_lvm {m st of T : Nat} (n n' : Nat) (h : n % m = n' % m) : nI ((st * (T + n) + of) % m) = nI ((st * (T + n') + of) % m) := by
  have h1 : (T + n) % m = (T + n') % m := by rw [Nat.add_comm T n, Nat.add_comm T n']; exact tk_addm h
  have h2 : (st * (T + n)) % m = (st * (T + n')) % m := by rw [Nat.mul_mod, h1, ← Nat.mul_mod]
  rw [tk_addm h2]
def tk_P (E : Nat → Nat → Int32) (t d : Int32) (s : Int32 × Int32) (m B n : Nat) : Prop := tk_iT E t d (B + n) s = tk_iT E t d B s ∧ n % m = 0
/-- the least period behind B tides -/
def tk_Lp (E : Nat → Nat → Int32) (t d : Int32) (s : Int32 × Int32) (m B n : Nat) : Prop := 1 ≤ n ∧ n ≤ 640 ∧ tk_P E t d s m B n ∧ ∀ n', 1 ≤ n' → n' < n → ¬ tk_P E t d s m B n'
/-- the towns' numbers -/
theorem tk_nums {E : Nat → Nat → Int32} (hE : tk_VE E) : ∃ m st of K, E 3 0 = nI m ∧ E 3 1 = nI st ∧ E 3 2 = nI of ∧ E 3 3 = nI K ∧ 2 ≤ m ∧ m ≤ 20 ∧ st < m ∧ of < m ∧ K ≤ 8 := by
  obtain ⟨m, hm, em⟩ := nI_of2 (M := 20) (n := 20) rfl (Int32.not_lt.mpr (Int32.le_trans (by decide) hE.1)) hE.2.1
  obtain ⟨K, hK, eK⟩ := nI_of2 (M := nI 8) (n := 8) rfl (Int32.not_lt.mpr hE.2.2.2.2.1.1) hE.2.2.2.2.1.2
  obtain ⟨st, hst, est⟩ := tk_ix hE.2.2.1 (by rw [em]; exact Int32.le_refl _) (by omega)
  obtain ⟨of, hof, eof⟩ := tk_ix hE.2.2.2.1 (by rw [em]; exact Int32.le_refl _) (by omega)
  have h2 := hE.1
  rw [em] at h2
  exact ⟨m, st, of, K, em, est, eof, eK, (nI_leI (a := 2) (by omega) (by omega)).mp h2, hm, hst, hof, hK⟩
theorem tk_W640 {K m : Nat} (hK : K ≤ 8) (hm : m ≤ 20) : K * 4 * m ≤ 640 := Nat.mul_le_mul (show K * 4 ≤ 32 by omega) hm
theorem tk_PW {E : Nat → Nat → Int32} {d : Int32} {s : Int32 × Int32} {m K T : Nat} (hE : tk_VE E) (hs : tk_VS E s) (e0 : E 3 0 = nI m) (hm : m < 2 ^ 31) (e3 : E 3 3 = nI K) (hK : K < 2 ^ 31) (hT : T ≤ 9999) :
    (∃ p, 1 ≤ p ∧ p ≤ K * 4 * m ∧ p ≤ 640 ∧ tk_P E (nI T) d s m (K * 4 * m) p ∧ tk_P E (nI T) d s m 800 p) ∧ ∀ n, n ≤ 640 → (tk_P E (nI T) d s m 800 n ↔ tk_P E (nI T) d s m (K * 4 * m) n) := by
  obtain ⟨m', st, of, K', em, est, eof, eK, hm2, hm20, hst, hof, hK8⟩ := tk_nums hE
  obtain rfl : m = m' := tk_inj hm (by omega) (e0.symm.trans em)
  obtain rfl : K = K' := tk_inj hK (by omega) (e3.symm.trans eK)
  have hW := tk_W640 hK8 hm20
  have hx := fun n => tk_iT_xN (d := d) (s := s) (T := T) em est eof (by omega) hm20 hst hof n
  obtain ⟨⟨p, hp1, hpW, hp⟩, hiff⟩ := tk_pNW (d := d) (lv := fun n => nI ((st * (T + n) + of) % m)) (m := m) (by omega) hE hs hK8 eK tk_lvm
  have hP : ∀ B n, B ≤ 800 → n ≤ 640 → (tk_P E (nI T) d s m B n ↔ tk_pN E d (fun n => nI ((st * (T + n) + of) % m)) s m B n) := fun B n hB hn => by
    rw [tk_P, tk_pN, hx (B + n) (by omega), hx B (by omega)]
  refine ⟨⟨p, hp1, hpW, by omega, (hP _ p (by omega) (by omega)).mpr (hp _ (Nat.le_refl _)), (hP _ p (by omega) (by omega)).mpr (hp _ (by omega))⟩, fun n hn => ?_⟩
  rw [hP 800 n (by omega) hn, hP (K * 4 * m) n (by omega) hn]
  exact hiff 800 n (by omega)
theorem tk_Lp_eq {E : Nat → Nat → Int32} {d : Int32} {s : Int32 × Int32} {m K T n n' : Nat} (hE : tk_VE E) (hs : tk_VS E s) (e0 : E 3 0 = nI m) (hm : m < 2 ^ 31) (e3 : E 3 3 = nI K) (hK : K < 2 ^ 31) (hT : T ≤ 9999)
    (h : tk_Lp E (nI T) d s m (K * 4 * m) n) (h' : tk_Lp E (nI T) d s m 800 n') : n = n' := by
  have hw := (tk_PW (d := d) hE hs e0 hm e3 hK hT).2
  rcases Nat.lt_trichotomy n n' with q | q | q
  · exact absurd ((hw n h.2.1).mpr h.2.2.1) (h'.2.2.2 n h.1 q)
  · exact q
  · exact absurd ((hw n' h'.2.1).mp h'.2.2.1) (h.2.2.2 n' h'.1 q)
section
variable {t k u w : Int32} {σ : Nat → Nat → Int32} {a b : Nat} {τ : Nat → Nat → Int64}
theorem k_cRound {m K T : Nat} (ha : tk_tw a) (hE : tk_VE (tk_E σ a)) (hT : tk_CT a σ) (e0 : σ a 0 = nI m) (hm : m ≤ 20) (hm2 : 2 ≤ m) (e3 : σ a 3 = nI K) (hK : K ≤ 8) (hTd : T ≤ 9999) (eT : σ 16 0 = nI T) :
    tk_Ct M_X6_round [.ref 1, .int t] (σ, tk_rho a b, τ, 62) (fun v μ' => (∃ σ', μ' = (σ', tk_rho a b, τ, 62) ∧ tk_Sc σ σ') ∧ ((¬ (0 ≤ t ∧ t < σ a 4) ∧ v = some (.int (-1))) ∨ ((0 ≤ t ∧ t < σ a 4) ∧ ∃ n, v = some (.int (nI n)) ∧ tk_Lp (tk_E σ a) (nI T) (σ (18 + t.toNatClampNeg) 2) (σ (18 + t.toNatClampNeg) 0, σ (18 + t.toNatClampNeg) 1) m (K * 4 * m) n))) := by
  have hf0 : tk_Sc σ σ := tk_Sc.rf
  have hW := tk_W640 hK hm
  have eW : σ a 3 * 4 * σ a 0 = nI (K * 4 * m) := by
    rw [e3, e0, show (4 : Int32) = nI 4 from rfl, pk_mul, pk_mul]
  refine tk_ct rfl rfl (Nat.le_of_ble_eq_true rfl) (fun l D cy => tk_run (hT_X6_round none) [49] 60 _ ?_)
  refine tk_ift (tk_twok ha) ?_
  refine tk_cc (k_isThing ha) (fun v9 μ9 h9 => ?_)
  obtain ⟨rfl, rfl⟩ := h9
  refine And.intro (fun h1 => ?_) (fun h1 => ?_)
  all_goals try dsimp only [tk_c0, tk_c1, tk_c2, tk_c3, tk_c4, tk_c5, tk_c6, tk_c7, tk_c8, tk_c9, tk_c10, tk_c11, tk_c12, tk_c13] at h1
  · exact ⟨⟨_, rfl, hf0⟩, Or.inl ⟨tk_b0.mp h1, rfl⟩⟩
  · have h1 := Decidable.not_not.mp (fun h => h1 (tk_b0.mpr h))
    obtain ⟨j0, hj0, rfl⟩ := tk_ix h1 hE.2.2.2.2.2.1.2 (by decide)
    have hs := hT j0 (by omega) h1.2
    have hPW := (tk_PW (d := σ (18 + j0) 2) (T := T) hE hs.1 e0 (by omega) e3 (by omega) hTd).1
    rw [nI_clamp (by omega)]
    refine tk_ift (tk_twok ha) ?_
    refine tk_ift (tk_twok ha) ?_
    refine tk_ift (tk_in_nI (n := 5) hj0 (by decide)) ?_
    refine tk_osi (by rw [nI_clamp (by omega)]; exact tk_th hj0) ?_
    refine tk_cc (k_becomes (p := 45) rfl (tk_thok hj0) (by omega) (tk_VT01 hs.2)) (fun v9 μ9 h9 => ?_)
    obtain ⟨rfl, rfl⟩ := h9
    generalize hd : σ (18 + j0) 2 = d at hs hPW ⊢
    generalize hsv : (σ (18 + j0) 0, σ (18 + j0) 1) = s at hs hPW ⊢
    generalize hWW : K * 4 * m = W at hW eW hPW ⊢
    generalize hq : (fun (v : Option Value) (μ' : tk_Me) => (∃ σ', μ' = (σ', tk_rho a b, τ, 62) ∧ tk_Sc σ σ') ∧ ((¬ (0 ≤ nI j0 ∧ nI j0 < σ a 4) ∧ v = some (.int (-1))) ∨ ((0 ≤ nI j0 ∧ nI j0 < σ a 4) ∧ ∃ n, v = some (.int (nI n)) ∧ tk_Lp (tk_E σ a) (nI T) d s m W n))) = q
    have loop2 : ∀ (n j : Nat) (i : Int32) (σi : Nat → Nat → Int32), i = nI (j + 1) → j + n = W → (∀ n', 1 ≤ n' → n' < j + 1 → ¬ tk_P (tk_E σ a) (nI T) d s m W n') → tk_Sc σ σi → σi 45 2 = d → (σi 45 0, σi 45 1) = tk_iT (tk_E σ a) (nI T) d (W + j) s → (σi 46 0, σi 46 1) = tk_iT (tk_E σ a) (nI T) d W s →
        tk_J l D cy none M_X6_round (101, [some (.ref 1), some (.int (nI j0)), some (.int (nI W)), some (.int i)], [], (σi, tk_rho a b, τ, 62), 0, 0) q := by
      intro n
      induction n with
      | zero =>
        intro j i σi hi hj hno hf hd2 hv hv2
        obtain ⟨p, hp1, hpW, hp640, hp, _⟩ := hPW
        exact absurd hp (hno p hp1 (by omega))
      | succ n ih =>
        intro j i σi hi hj hno hf hd2 hv hv2
        subst hi
        have hV := tk_iT_V (t := nI T) (d := d) hE hs.1 (W + j)
        have hVT := tk_iT_T (E := tk_E σ a) (t := nI T) hs.2 (W + j)
        rw [← hv] at hV hVT
        have hF := hf.E ha
        have e16 : σi 16 0 = nI T := (hf _ _ (by decide) (by decide)).trans eT
        have em : σi a 0 = nI m := (congrFun (congrFun hF 3) 0).trans e0
        have etd : σi 16 0 + nI W + nI (j + 1) - 1 = nI T + nI (W + j) := by
          rw [e16, nI_add, nI_add, show T + W + (j + 1) = T + (W + j) + 1 by omega, nI_pred, nI_add]
        refine tk_run (hT_X6_round none) [101, 138] 60 _ ?_
        refine And.intro (fun h2 => ?_) (fun h2 => ?_)
        all_goals try dsimp only [tk_c0, tk_c1, tk_c2, tk_c3, tk_c4, tk_c5, tk_c6, tk_c7, tk_c8, tk_c9, tk_c10, tk_c11, tk_c12, tk_c13] at h2
        · exact absurd h2 (nI_nlt (by omega) (by omega))
        · refine tk_ift (tk_twok ha) ?_
          refine tk_cc (k_levelOf ha (by have := hE.1; rw [← hF] at this; exact this)) (fun v9 μ9 h9 => ?_)
          obtain ⟨rfl, rfl⟩ := h9
          refine tk_cc (k_passA (p := 45) rfl ha (by rw [hF]; exact hE) (by rw [hF]; exact hV) (by rw [hd2]; exact hVT)) (fun v9 μ9 h9 => ?_)
          obtain ⟨rfl, rfl⟩ := h9
          have hnew := (tk_stv (σi := σi) (p := 45) (tk_sT (tk_E σi a) (tk_lv' (tk_E σi a) (σi 16 0 + nI W + nI (j + 1) - 1)) (σi 45 2) (σi 45 0, σi 45 1)))
          have hnew := hnew.trans (show _ = tk_iT (tk_E σ a) (nI T) d (W + j + 1) s by rw [hF, etd, hv, hd2]; rfl)
          have hSc := tk_stp hf (Or.inl rfl) (tk_sT (tk_E σi a) (tk_lv' (tk_E σi a) (σi 16 0 + nI W + nI (j + 1) - 1)) (σi 45 2) (σi 45 0, σi 45 1))
          have hD2 := (tk_std (σi := σi) (p := 45) (tk_sT (tk_E σi a) (tk_lv' (tk_E σi a) (σi 16 0 + nI W + nI (j + 1) - 1)) (σi 45 2) (σi 45 0, σi 45 1))).trans hd2
          have h46 : ∀ y, tk_up (tk_up σi 45 0 (tk_sT (tk_E σi a) (tk_lv' (tk_E σi a) (σi 16 0 + nI W + nI (j + 1) - 1)) (σi 45 2) (σi 45 0, σi 45 1)).1) 45 1 (tk_sT (tk_E σi a) (tk_lv' (tk_E σi a) (σi 16 0 + nI W + nI (j + 1) - 1)) (σi 45 2) (σi 45 0, σi 45 1)).2 46 y = σi 46 y := fun y => by rw [tk_up_p _ _ _ (by decide), tk_up_p _ _ _ (by decide)]
          generalize hσn : tk_up (tk_up σi 45 0 (tk_sT (tk_E σi a) (tk_lv' (tk_E σi a) (σi 16 0 + nI W + nI (j + 1) - 1)) (σi 45 2) (σi 45 0, σi 45 1)).1) 45 1 (tk_sT (tk_E σi a) (tk_lv' (tk_E σi a) (σi 16 0 + nI W + nI (j + 1) - 1)) (σi 45 2) (σi 45 0, σi 45 1)).2 = σn at hnew hSc hD2 h46
          have hmn : σn a 0 = nI m := (congrFun (congrFun (hSc.E ha) 3) 0).trans e0
          have hv2n : (σn 46 0, σn 46 1) = tk_iT (tk_E σ a) (nI T) d W s := by rw [h46, h46]; exact hv2
          have has : (σn 45 0 = σn 46 0 ∧ σn 45 1 = σn 46 1) ↔ tk_iT (tk_E σ a) (nI T) d (W + (j + 1)) s = tk_iT (tk_E σ a) (nI T) d W s := by
            rw [← hv2n, show W + (j + 1) = W + j + 1 by omega, ← hnew]
            exact ⟨fun h => Prod.ext h.1 h.2, fun h => ⟨congrArg Prod.fst h, congrArg Prod.snd h⟩⟩
          have goal2 : tk_J l D cy none M_X6_round (138, [some (.ref 1), some (.int (nI j0)), some (.int (nI W)), some (.int (nI (j + 1)))], [], (σn, tk_rho a b, τ, 62), 0, 0) q := by
            have next : ¬ tk_P (tk_E σ a) (nI T) d s m W (j + 1) → tk_J l D cy none M_X6_round (101, [some (.ref 1), some (.int (nI j0)), some (.int (nI W)), some (.int (nI (j + 1) + 1))], [], (σn, tk_rho a b, τ, 62), 0, 0) q := fun hnP => by
              refine ih (j + 1) _ σn (nI_1 _) (by omega) (fun n' h1' h2' => ?_) hSc hD2 hnew hv2n
              by_cases hq1 : n' = j + 1
              · rw [hq1]
                exact hnP
              · exact hno n' h1' (by omega)
            refine tk_run (hT_X6_round none) [101] 60 _ ?_
            refine tk_cc (k_isAs (p := 45) (p2 := 46) rfl rfl) (fun v9 μ9 h9 => ?_)
            obtain ⟨rfl, rfl⟩ := h9
            refine And.intro (fun h3 => ?_) (fun h3 => ?_)
            all_goals try dsimp only [tk_c0, tk_c1, tk_c2, tk_c3, tk_c4, tk_c5, tk_c6, tk_c7, tk_c8, tk_c9, tk_c10, tk_c11, tk_c12, tk_c13] at h3
            · exact next (fun h => tk_b0.mp h3 (has.mpr h.1))
            · have h3 := Decidable.not_not.mp (fun h => h3 (tk_b0.mpr h))
              refine tk_ift (tk_twok ha) ?_
              refine tk_cc (k_leftOver ha (by rw [hmn]; exact nI_le (a := 2) hm2 (by omega))) (fun v9 μ9 h9 => ?_)
              obtain ⟨rfl, rfl⟩ := h9
              have er : tk_rem (nI (j + 1)) (σn a 0) = nI ((j + 1) % m) := by rw [hmn, tk_rem, pk_rem (by omega) (by omega) (by omega)]
              have hlt : (j + 1) % m < m := Nat.mod_lt _ (by omega)
              refine And.intro (fun h4 => ?_) (fun h4 => ?_)
              all_goals try dsimp only [tk_c0, tk_c1, tk_c2, tk_c3, tk_c4, tk_c5, tk_c6, tk_c7, tk_c8, tk_c9, tk_c10, tk_c11, tk_c12, tk_c13] at h4
              · rw [er] at h4
                have h4 := tk_inj (b := 0) (by omega) (by omega) h4
                rw [← hq]
                exact ⟨⟨σn, rfl, hSc⟩, Or.inr ⟨h1, j + 1, rfl, by omega, by omega, ⟨has.mp h3, h4⟩, hno⟩⟩
              · rw [er] at h4
                exact next (fun h => h4 (by rw [h.2]; rfl))
          rw [← hσn] at goal2
          exact goal2
    have loop1 : ∀ (n j : Nat) (i W' : Int32) (σi : Nat → Nat → Int32), W' = nI W → i = nI j → j + n = W → tk_Sc σ σi → σi 45 2 = d → (σi 45 0, σi 45 1) = tk_iT (tk_E σ a) (nI T) d j s →
        tk_J l D cy none M_X6_round (49, [some (.ref 1), some (.int (nI j0)), some (.int W'), some (.int i)], [], (σi, tk_rho a b, τ, 62), 0, 0) q := by
      intro n
      induction n with
      | zero =>
        intro j i W' σi hW' hi hj hf hd2 hv
        subst hi
        subst hW'
        obtain rfl : j = W := by omega
        have hVT := tk_iT_T (E := tk_E σ a) (t := nI T) hs.2 j
        refine tk_run (hT_X6_round none) [49, 101] 60 _ ?_
        refine And.intro (fun h2 => ?_) (fun h2 => ?_)
        all_goals try dsimp only [tk_c0, tk_c1, tk_c2, tk_c3, tk_c4, tk_c5, tk_c6, tk_c7, tk_c8, tk_c9, tk_c10, tk_c11, tk_c12, tk_c13] at h2
        · refine tk_cc (k_becomes (p := 46) (p2 := 45) rfl rfl (by decide) (by rw [hd2]; exact tk_VT01 hs.2)) (fun v9 μ9 h9 => ?_)
          obtain ⟨rfl, rfl⟩ := h9
          refine loop2 j 0 _ _ rfl (by omega) (fun n' h1' h2' => absurd h2' (by omega)) (tk_bec hf (Or.inr rfl) _ _ _) ?_ ?_ ?_
          · rw [tk_up_p _ _ _ (by decide), tk_up_p _ _ _ (by decide), tk_up_p _ _ _ (by decide)]
            exact hd2
          · rw [tk_up_p _ _ _ (by decide), tk_up_p _ _ _ (by decide), tk_up_p _ _ _ (by decide), tk_up_p _ _ _ (by decide), tk_up_p _ _ _ (by decide), tk_up_p _ _ _ (by decide)]
            exact hv
          · rw [tk_up_k _ _ _ (by decide), tk_up_k _ _ _ (by decide), tk_up_at, tk_up_k _ _ _ (by decide), tk_up_at]
            exact hv
        · exact absurd (Int32.le_refl _) h2
      | succ n ih =>
        intro j i W' σi hW' hi hj hf hd2 hv
        subst hi
        subst hW'
        have hV := tk_iT_V (t := nI T) (d := d) hE hs.1 j
        have hVT := tk_iT_T (E := tk_E σ a) (t := nI T) hs.2 j
        rw [← hv] at hV hVT
        have hF := hf.E ha
        have e16 : σi 16 0 = nI T := (hf _ _ (by decide) (by decide)).trans eT
        refine tk_run (hT_X6_round none) [49, 101] 60 _ ?_
        refine And.intro (fun h2 => ?_) (fun h2 => ?_)
        all_goals try dsimp only [tk_c0, tk_c1, tk_c2, tk_c3, tk_c4, tk_c5, tk_c6, tk_c7, tk_c8, tk_c9, tk_c10, tk_c11, tk_c12, tk_c13] at h2
        · exact absurd h2 (nI_ge (by omega) (by omega))
        · refine tk_ift (tk_twok ha) ?_
          refine tk_cc (k_levelOf ha (by have := hE.1; rw [← hF] at this; exact this)) (fun v9 μ9 h9 => ?_)
          obtain ⟨rfl, rfl⟩ := h9
          refine tk_cc (k_passA (p := 45) rfl ha (by rw [hF]; exact hE) (by rw [hF]; exact hV) (by rw [hd2]; exact hVT)) (fun v9 μ9 h9 => ?_)
          obtain ⟨rfl, rfl⟩ := h9
          refine ih (j + 1) _ _ _ rfl (nI_1 j) (by omega) (tk_stp hf (Or.inl rfl) _) ((tk_std _).trans hd2) ((tk_stv _).trans ?_)
          show tk_sT (tk_E σi a) (tk_lv' (tk_E σi a) (σi 16 0 + nI j)) (σi 45 2) (σi 45 0, σi 45 1) = _
          rw [hF, e16, hv, hd2]
          rfl
    refine loop1 W 0 _ _ _ eW rfl (by omega) (tk_bec hf0 (Or.inl rfl) _ _ _) (tk_up_at _ _ _ _) ?_
    rw [tk_up_k _ _ _ (by decide), tk_up_k _ _ _ (by decide), tk_up_at, tk_up_k _ _ _ (by decide), tk_up_at]
    exact hsv
theorem k_mRound {m K T : Nat} (hz : σ 47 0 = 0) (hE : tk_VE (tk_F σ)) (hT : tk_MT σ) (e0 : σ 49 2 = nI m) (hm : m ≤ 20) (hm2 : 2 ≤ m) (e3 : σ 49 0 = nI K) (hK : K ≤ 8) (hTd : T ≤ 9999) (eT : σ 55 0 = nI T) :
    tk_Ct M_X7_round [.ref 47, .int t] (σ, tk_rho a b, τ, 62) (fun v μ' => (∃ σ', μ' = (σ', tk_rho a b, τ, 62) ∧ tk_Sm σ σ') ∧ ((¬ (0 ≤ t ∧ t < σ 49 1) ∧ v = some (.int (-1))) ∨ ((0 ≤ t ∧ t < σ 49 1) ∧ ∃ n, v = some (.int (nI n)) ∧ tk_Lp (tk_F σ) (nI T) (tk_mt σ t) (σ 55 (1 + t.toNatClampNeg), σ 55 (6 + t.toNatClampNeg)) m 800 n))) := by
  have hf0 : tk_Sm σ σ := tk_Sm.rf
  refine tk_ct rfl rfl (Nat.le_of_ble_eq_true rfl) (fun l D cy => tk_thr (hT_X7_round none) rfl rfl rfl hz (tk_run (hT_X7_round none) [44] 60 _ ?_))
  refine tk_cc (k_mThing hE.2.2.2.2.2.1.1) (fun v9 μ9 h9 => ?_)
  obtain ⟨rfl, rfl⟩ := h9
  refine And.intro (fun h1 => ?_) (fun h1 => ?_)
  all_goals try dsimp only [tk_c0, tk_c1, tk_c2, tk_c3, tk_c4, tk_c5, tk_c6, tk_c7, tk_c8, tk_c9, tk_c10, tk_c11, tk_c12, tk_c13] at h1
  · exact ⟨⟨_, rfl, hf0⟩, Or.inl ⟨tk_b0.mp h1, rfl⟩⟩
  · have h1 := Decidable.not_not.mp (fun h => h1 (tk_b0.mpr h))
    obtain ⟨j0, hj0, rfl⟩ := tk_ix h1 hE.2.2.2.2.2.1.2 (by decide)
    have hs := hT j0 (by omega) h1.2
    have hPW := (tk_PW (d := tk_mt σ (nI j0)) (T := T) hE hs e0 (by omega) e3 (by omega) hTd).1
    rw [nI_clamp (by omega)]
    refine tk_cc (k_mTied) (fun v9 μ9 h9 => ?_)
    obtain ⟨rfl, rfl⟩ := h9
    refine And.intro (fun h2 => ?_) (fun h2 => ?_)
    all_goals try dsimp only [tk_c0, tk_c1, tk_c2, tk_c3, tk_c4, tk_c5, tk_c6, tk_c7, tk_c8, tk_c9, tk_c10, tk_c11, tk_c12, tk_c13] at h2
    · have h2 : ¬ tk_mt σ (nI j0) = 1 := tk_b0.mp h2
      refine tk_cc (k_takesUp hj0) (fun v9 μ9 h9 => ?_)
      obtain ⟨rfl, rfl⟩ := h9
      generalize hsv : (σ 55 (1 + j0), σ 55 (6 + j0)) = s at hs hPW ⊢
      generalize hd : tk_mt σ (nI j0) = d at h2 hPW ⊢
      have hsT : ∀ lv s', tk_sT (tk_F σ) lv d s' = tk_s1 (tk_F σ) lv s' := fun lv s' => by rw [tk_sT, if_neg h2]
      generalize hq : (fun (v : Option Value) (μ' : tk_Me) => (∃ σ', μ' = (σ', tk_rho a b, τ, 62) ∧ tk_Sm σ σ') ∧ ((¬ (0 ≤ nI j0 ∧ nI j0 < σ 49 1) ∧ v = some (.int (-1))) ∨ ((0 ≤ nI j0 ∧ nI j0 < σ 49 1) ∧ ∃ n, v = some (.int (nI n)) ∧ tk_Lp (tk_F σ) (nI T) d s m 800 n))) = q
      obtain ⟨p, hp1, hpW, hp640, _, hp⟩ := hPW
      have loop2 : ∀ (n j : Nat) (i ti x3 x4 : Int32) (σi : Nat → Nat → Int32), i = nI j → ti = nI (T + (800 + j)) → (x3, x4) = tk_iT (tk_F σ) (nI T) d 800 s → j + n = p → 1 ≤ n → (∀ n', 1 ≤ n' → n' < j + 1 → ¬ tk_P (tk_F σ) (nI T) d s m 800 n') → tk_Sm σ σi → (σi 47 27, σi 47 28) = tk_iT (tk_F σ) (nI T) d (800 + j) s →
          tk_J l D cy none M_X7_round (84, [some (.ref 47), some (.int (nI j0)), some (.int ti), some (.int x3), some (.int x4), some (.int i)], [], (σi, tk_rho a b, τ, 62), 0, 0) q := by
        intro n
        induction n with
        | zero =>
          intro j i ti x3 x4 σi hi hti hx hj hn hno hf hv
          exact absurd hn (by omega)
        | succ n ih =>
          intro j i ti x3 x4 σi hi hti hx hj hn hno hf hv
          subst hi
          have hV := tk_iT_V (t := nI T) (d := d) hE hs (800 + j)
          rw [← hv] at hV
          have hF := hf.F
          have hVF : tk_VS (tk_F σi) (σi 47 27, σi 47 28) := by rw [hF]; exact hV
          have hEF : tk_VE (tk_F σi) := by rw [hF]; exact hE
          have hlv : tk_lv' (tk_F σi) ti = tk_lv' (tk_F σ) (nI T + nI (800 + j)) := by rw [hF, hti, nI_add]
          have hSm := (hf.up (k := 27) (by decide) (tk_s1 (tk_F σi) (tk_lv' (tk_F σi) ti) (σi 47 27, σi 47 28)).1).up (k := 28) (by decide) (tk_s1 (tk_F σi) (tk_lv' (tk_F σi) ti) (σi 47 27, σi 47 28)).2
          have hnew : (tk_up (tk_up σi 47 27 (tk_s1 (tk_F σi) (tk_lv' (tk_F σi) ti) (σi 47 27, σi 47 28)).1) 47 28 (tk_s1 (tk_F σi) (tk_lv' (tk_F σi) ti) (σi 47 27, σi 47 28)).2 47 27, tk_up (tk_up σi 47 27 (tk_s1 (tk_F σi) (tk_lv' (tk_F σi) ti) (σi 47 27, σi 47 28)).1) 47 28 (tk_s1 (tk_F σi) (tk_lv' (tk_F σi) ti) (σi 47 27, σi 47 28)).2 47 28) = tk_iT (tk_F σ) (nI T) d (800 + j + 1) s := by
            rw [tk_up_at, tk_up_k _ _ _ (by decide), tk_up_at, hlv, hF, hv, tk_iT, hsT]
          refine tk_run (hT_X7_round none) [84, 100] 60 _ ?_
          refine tk_cc (k_mLev hEF.1) (fun v9 μ9 h9 => ?_)
          obtain ⟨rfl, rfl⟩ := h9
          refine tk_cc (k_goes (tk_kI16 hEF hVF.1) (hEF.2.2.2.2.2.2 _ hVF.1).2.1) (fun v9 μ9 h9 => ?_)
          obtain ⟨rfl, rfl⟩ := h9
          generalize hσn : tk_up (tk_up σi 47 27 (tk_s1 (tk_F σi) (tk_lv' (tk_F σi) ti) (σi 47 27, σi 47 28)).1) 47 28 (tk_s1 (tk_F σi) (tk_lv' (tk_F σi) ti) (σi 47 27, σi 47 28)).2 = σn at hSm hnew
          have emn : σn 49 2 = nI m := (hSm.at (by decide) _).trans e0
          have has : (σn 47 27 = x3 ∧ σn 47 28 = x4) ↔ tk_iT (tk_F σ) (nI T) d (800 + (j + 1)) s = tk_iT (tk_F σ) (nI T) d 800 s := by
            rw [← hx, show 800 + (j + 1) = 800 + j + 1 by omega, ← hnew]
            exact ⟨fun h => Prod.ext h.1 h.2, fun h => ⟨congrArg Prod.fst h, congrArg Prod.snd h⟩⟩
          have goal2 : tk_J l D cy none M_X7_round (100, [some (.ref 47), some (.int (nI j0)), some (.int (ti + 1)), some (.int x3), some (.int x4), some (.int (nI j + 1))], [], (σn, tk_rho a b, τ, 62), 0, 0) q := by
            have next : ¬ tk_P (tk_F σ) (nI T) d s m 800 (j + 1) → tk_J l D cy none M_X7_round (84, [some (.ref 47), some (.int (nI j0)), some (.int (ti + 1)), some (.int x3), some (.int x4), some (.int (nI j + 1))], [], (σn, tk_rho a b, τ, 62), 0, 0) q := fun hnP => by
              have hnp : j + 1 ≠ p := fun h => hnP (by rw [h]; exact hp)
              refine ih (j + 1) _ _ _ _ σn (nI_1 _) (by rw [hti]; exact nI_1 _) hx (by omega) (by omega) (fun n' h1' h2' => ?_) hSm hnew
              by_cases hq1 : n' = j + 1
              · rw [hq1]
                exact hnP
              · exact hno n' h1' (by omega)
            have er : nI j + 1 - (nI j + 1) / σn 49 2 * σn 49 2 = nI ((j + 1) % m) := by rw [emn, nI_1, pk_rem (by omega) (by omega) (by omega)]
            have hlt : (j + 1) % m < m := Nat.mod_lt _ (by omega)
            refine tk_run (hT_X7_round none) [84] 60 _ ?_
            refine And.intro (fun h3 => ?_) (fun h3 => ?_)
            all_goals try dsimp only [tk_c0, tk_c1, tk_c2, tk_c3, tk_c4, tk_c5, tk_c6, tk_c7, tk_c8, tk_c9, tk_c10, tk_c11, tk_c12, tk_c13] at h3
            · refine And.intro (fun h4 => ?_) (fun h4 => ?_)
              all_goals try dsimp only [tk_c0, tk_c1, tk_c2, tk_c3, tk_c4, tk_c5, tk_c6, tk_c7, tk_c8, tk_c9, tk_c10, tk_c11, tk_c12, tk_c13] at h4
              · refine And.intro (by dsimp only [tk_c2]; rw [emn]; exact nI_ne0 (by omega) (by omega)) ?_
                refine And.intro (fun h5 => ?_) (fun h5 => ?_)
                all_goals try dsimp only [tk_c0, tk_c1, tk_c2, tk_c3, tk_c4, tk_c5, tk_c6, tk_c7, tk_c8, tk_c9, tk_c10, tk_c11, tk_c12, tk_c13] at h5
                · rw [er] at h5
                  have h5 := tk_inj (b := 0) (by omega) (by omega) h5
                  rw [← hq]
                  exact ⟨⟨σn, rfl, hSm⟩, Or.inr ⟨h1, j + 1, congrArg (fun z => some (Value.int z)) (nI_1 j), by omega, by omega, ⟨has.mp ⟨h3, h4⟩, h5⟩, hno⟩⟩
                · rw [er] at h5
                  exact next (fun h => h5 (by rw [h.2]; rfl))
              · exact next (fun h => h4 (has.mpr h.1).2)
            · exact next (fun h => h3 (has.mpr h.1).1)
          exact goal2
      have loop1 : ∀ (n j : Nat) (i ti : Int32) (L4 L5 : Option Value) (σi : Nat → Nat → Int32), i = nI j → ti = nI (T + j) → j + n = 800 → tk_Sm σ σi → (σi 47 27, σi 47 28) = tk_iT (tk_F σ) (nI T) d j s →
          tk_J l D cy none M_X7_round (44, [some (.ref 47), some (.int (nI j0)), some (.int ti), some (.int i), L4, L5], [], (σi, tk_rho a b, τ, 62), 0, 0) q := by
        intro n
        induction n with
        | zero =>
          intro j i ti L4 L5 σi hi hti hj hf hv
          subst hi
          obtain rfl : j = 800 := by omega
          refine tk_run (hT_X7_round none) [44, 84] 60 _ ?_
          refine And.intro (fun h3 => ?_) (fun h3 => ?_)
          all_goals try dsimp only [tk_c0, tk_c1, tk_c2, tk_c3, tk_c4, tk_c5, tk_c6, tk_c7, tk_c8, tk_c9, tk_c10, tk_c11, tk_c12, tk_c13] at h3
          · exact loop2 p 0 _ _ _ _ σi rfl hti hv (by omega) hp1 (fun n' h1' h2' => absurd h2' (by omega)) hf hv
          · exact absurd (Int32.le_refl _) h3
        | succ n ih =>
          intro j i ti L4 L5 σi hi hti hj hf hv
          subst hi
          have hV := tk_iT_V (t := nI T) (d := d) hE hs j
          rw [← hv] at hV
          have hF := hf.F
          have hVF : tk_VS (tk_F σi) (σi 47 27, σi 47 28) := by rw [hF]; exact hV
          have hEF : tk_VE (tk_F σi) := by rw [hF]; exact hE
          have hlv : tk_lv' (tk_F σi) ti = tk_lv' (tk_F σ) (nI T + nI j) := by rw [hF, hti, nI_add]
          refine tk_run (hT_X7_round none) [44, 84] 60 _ ?_
          refine And.intro (fun h3 => ?_) (fun h3 => ?_)
          all_goals try dsimp only [tk_c0, tk_c1, tk_c2, tk_c3, tk_c4, tk_c5, tk_c6, tk_c7, tk_c8, tk_c9, tk_c10, tk_c11, tk_c12, tk_c13] at h3
          · exact absurd h3 (nI_ge (b := 800) (by omega) (by omega))
          · refine tk_cc (k_mLev hEF.1) (fun v9 μ9 h9 => ?_)
            obtain ⟨rfl, rfl⟩ := h9
            refine tk_cc (k_goes (tk_kI16 hEF hVF.1) (hEF.2.2.2.2.2.2 _ hVF.1).2.1) (fun v9 μ9 h9 => ?_)
            obtain ⟨rfl, rfl⟩ := h9
            refine ih (j + 1) _ _ _ _ _ (nI_1 j) (by rw [hti]; exact nI_1 _) (by omega) ((hf.up (k := 27) (by decide) _).up (k := 28) (by decide) _) ?_
            rw [tk_up_at, tk_up_k _ _ _ (by decide), tk_up_at, hlv, hF, hv, tk_iT, hsT]
      refine loop1 800 0 _ _ _ _ _ rfl ?_ rfl ((hf0.up (Or.inl rfl) _).up (Or.inr rfl) _) ?_
      · exact (tk_up_p _ _ _ (by decide)).trans ((tk_up_p _ _ _ (by decide)).trans eT)
      · rw [tk_up_at, tk_up_k _ _ _ (by decide), tk_up_at]
        exact hsv
    · have h2 : tk_mt σ (nI j0) = 1 := Decidable.not_not.mp (fun h => h2 (tk_b0.mpr h))
      have hcon : ∀ n, tk_iT (tk_F σ) (nI T) (tk_mt σ (nI j0)) n (σ 55 (1 + j0), σ 55 (6 + j0)) = (σ 55 (1 + j0), σ 55 (6 + j0)) := fun n => by rw [tk_iT_eq, if_pos h2]
      refine ⟨⟨_, rfl, hf0⟩, Or.inr ⟨h1, m, congrArg (fun z => some (Value.int z)) e0, by omega, by omega, ⟨by rw [hcon, hcon], Nat.mod_self m⟩, fun n' q1 q2 h => ?_⟩⟩
      have := h.2
      rw [Nat.mod_eq_of_lt q2] at this
      omega
end
