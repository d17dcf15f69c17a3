/-! towns that agree: the same answers -/
def tk_Ag (K : Nat) (E F : Nat → Nat → Int32) : Prop := (∀ y, y < 5 → E 3 y = F 3 y) ∧ ∀ k, k < K → E 0 k = F 0 k ∧ E 1 k = F 1 k ∧ E 2 k = F 2 k ∧ E 4 k = F 4 k
theorem tk_fstc {p q : Nat → Prop} [DecidablePred p] [DecidablePred q] (h : ∀ n, p n ↔ q n) : ∀ d j, tk_fst p d j = tk_fst q d j
  | 0, _ => rfl
  | d + 1, j => by
    rw [tk_fst, tk_fst, tk_fstc h d (j + 1)]
    by_cases hp : p j
    · rw [if_pos hp, if_pos ((h j).mp hp)]
    · rw [if_neg hp, if_neg (fun hq => hp ((h j).mpr hq))]
theorem tk_bitsc {p q : Nat → Prop} [DecidablePred p] [DecidablePred q] : ∀ n, (∀ k, k < n → (p k ↔ q k)) → tk_bits p n = tk_bits q n
  | 0, _ => rfl
  | n + 1, h => by
    rw [tk_bits, tk_bits, tk_bitsc n (fun k hk => h k (by omega))]
    by_cases hp : p n
    · rw [if_pos hp, if_pos ((h n (by omega)).mp hp)]
    · rw [if_neg hp, if_neg (fun hq => hp ((h n (by omega)).mpr hq))]
theorem tk_cntc {p q : Nat → Prop} {hp : DecidablePred p} {hq : DecidablePred q} : ∀ n, (∀ k, k < n → (p k ↔ q k)) → tk_cnt p hp n = tk_cnt q hq n
  | 0, _ => rfl
  | n + 1, h => by
    rw [tk_cnt, tk_cnt, tk_cntc (hp := hp) (hq := hq) n (fun k hk => h k (by omega))]
    by_cases h1 : p n
    · rw [if_pos h1, if_pos ((h n (by omega)).mp h1)]
    · rw [if_neg h1, if_neg (fun h2 => h1 ((h n (by omega)).mpr h2))]
theorem tk_l1c {p q : Nat → Prop} {hp : DecidablePred p} {hq : DecidablePred q} {st : Nat} {s : Nat × Int32} (h : ∀ k, p k ↔ q k) : ∀ n, tk_l1 p hp st n s = tk_l1 q hq st n s
  | 0 => rfl
  | n + 1 => by
    rw [tk_l1, tk_l1, tk_l1c (hp := hp) (hq := hq) h n]
    by_cases h1 : p n
    · rw [if_pos h1, if_pos ((h n).mp h1)]
    · rw [if_neg h1, if_neg (fun h2 => h1 ((h n).mpr h2))]
theorem tk_l2c {p q : Nat → Nat → Prop} {hp : ∀ i, DecidablePred (p i)} {hq : ∀ i, DecidablePred (q i)} {M : Nat} (h : ∀ i k, p i k ↔ q i k) : ∀ n, tk_l2 p hp M n = tk_l2 q hq M n
  | 0 => rfl
  | n + 1 => by
    rw [tk_l2, tk_l2, tk_l2c (hp := hp) (hq := hq) h n]
    exact tk_l1c (h n) M
section
variable {E F : Nat → Nat → Int32} {K : Nat} {t d : Int32} {s : Int32 × Int32}
theorem tk_kc {k : Int32} (e3 : E 3 3 = nI K) (hK : K ≤ 8) (h : tk_kI E k) : ∃ j, j < K ∧ k = nI j ∧ k.toNatClampNeg = j := by
  obtain ⟨j, hj, rfl⟩ := tk_ix (n := K) h (by rw [e3]; exact Int32.le_refl _) (by omega)
  exact ⟨j, hj, rfl, nI_clamp (by omega)⟩
theorem tk_lvc (ag : tk_Ag K E F) : tk_lv' E t = tk_lv' F t := by
  unfold tk_lv'
  rw [ag.1 0 (by omega), ag.1 1 (by omega), ag.1 2 (by omega)]
theorem tk_s1c {lv : Int32} (e3 : E 3 3 = nI K) (hK : K ≤ 8) (ag : tk_Ag K E F) (hs : tk_kI E s.1) : tk_s1 E lv s = tk_s1 F lv s := by
  obtain ⟨j, hj, _, ej⟩ := tk_kc e3 hK hs
  obtain ⟨a0, a1, a2, _⟩ := ag.2 j hj
  unfold tk_s1
  rw [ej, a0, a1, a2]
theorem tk_iTc (hE : tk_VE E) (e3 : E 3 3 = nI K) (hK : K ≤ 8) (ag : tk_Ag K E F) (hs : tk_VS E s) : ∀ n, tk_iT E t d n s = tk_iT F t d n s
  | 0 => rfl
  | n + 1 => by
    rw [tk_iT, tk_iT, ← tk_iTc hE e3 hK ag hs n, tk_lvc ag]
    unfold tk_sT
    rw [tk_s1c e3 hK ag (tk_iT_V hE hs n).1]
theorem tk_itc (hE : tk_VE E) (e3 : E 3 3 = nI K) (hK : K ≤ 8) (ag : tk_Ag K E F) (hs : tk_VS E s) (n : Nat) : tk_it E t n s = tk_it F t n s := by
  rw [← tk_iT0, ← tk_iT0]
  exact tk_iTc hE e3 hK ag hs n
theorem tk_iWc {wk : Int32} (hE : tk_VE E) (e3 : E 3 3 = nI K) (hK : K ≤ 8) (ag : tk_Ag K E F) (hs : tk_VS E s) : ∀ n, tk_iW E t d wk n s = tk_iW F t d wk n s
  | 0 => rfl
  | n + 1 => by
    rw [tk_iW, tk_iW, ← tk_iWc hE e3 hK ag hs n, tk_lvc ag]
    unfold tk_sT
    rw [tk_s1c e3 hK ag (tk_iW_V hE hs n).1]
theorem tk_snc {k : Int32} (hE : tk_VE E) (e3 : E 3 3 = nI K) (hK : K ≤ 8) (ag : tk_Ag K E F) (hs : tk_VS E s) : tk_sn E t d s k = tk_sn F t d s k :=
  tk_fstc (fun n => by rw [tk_iTc hE e3 hK ag hs n]) _ _
theorem tk_mmc {d2 : Int32} {s2 : Int32 × Int32} (hE : tk_VE E) (e3 : E 3 3 = nI K) (hK : K ≤ 8) (ag : tk_Ag K E F) (hs : tk_VS E s) (hs2 : tk_VS E s2) : tk_mm E t d s d2 s2 = tk_mm F t d s d2 s2 :=
  tk_fstc (fun n => by rw [tk_iTc hE e3 hK ag hs n, tk_iTc hE e3 hK ag hs2 n]) _ _
theorem tk_VSz {n : Nat} (e3 : E 3 3 = nI K) (hK : K ≤ 8) (hn : n < K) : tk_VS E (nI n, 0) :=
  ⟨⟨nI_pos' (by omega), by rw [e3]; exact nI_lt hn (by omega)⟩, by show (0 : Int32) ≤ 0; decide, by show (0 : Int32) ≤ 3; decide⟩
theorem tk_sdc {w k : Int32} (hE : tk_VE E) (e3 : E 3 3 = nI K) (hK : K ≤ 8) (ag : tk_Ag K E F) (hw : tk_kI E w) : ∀ n, n ≤ K → tk_sd E t w k n = tk_sd F t w k n
  | 0, _ => rfl
  | n + 1, h => by
    obtain ⟨j, hj, _, ej⟩ := tk_kc e3 hK hw
    rw [tk_sd, tk_sd, tk_sdc hE e3 hK ag hw n (by omega), tk_snc hE e3 hK ag (tk_VSz e3 hK (by omega)), ej, (ag.2 j hj).2.2.2, (ag.2 n (by omega)).2.2.2]
theorem tk_uoc {k : Int32} {x n : Nat} (hE : tk_VE E) (e3 : E 3 3 = nI K) (hK : K ≤ 8) (ag : tk_Ag K E F) (hs : tk_VS E s) : ∀ m, tk_uo E t d s k x n m = tk_uo F t d s k x n m
  | 0 => rfl
  | m + 1 => by
    rw [tk_uo, tk_uo, tk_uoc hE e3 hK ag hs m, tk_iWc hE e3 hK ag hs n]
theorem tk_oAc {k n x w : Int32} (hE : tk_VE E) (e3 : E 3 3 = nI K) (hK : K ≤ 8) (ag : tk_Ag K E F) (hs : tk_VS E s) : tk_oA E t d s k n x w = tk_oA F t d s k n x w := by
  unfold tk_oA
  rw [tk_uoc hE e3 hK ag hs]
theorem tk_Lpc {m B n : Nat} (hE : tk_VE E) (e3 : E 3 3 = nI K) (hK : K ≤ 8) (ag : tk_Ag K E F) (hs : tk_VS E s) : tk_Lp E t d s m B n ↔ tk_Lp F t d s m B n := by
  have hp : ∀ n, tk_P E t d s m B n ↔ tk_P F t d s m B n := fun n => by
    unfold tk_P
    rw [tk_iTc hE e3 hK ag hs, tk_iTc hE e3 hK ag hs]
  unfold tk_Lp
  simp only [hp]
theorem tk_cbc {fo fi : Nat → Int32} {m k : Nat} (hE : tk_VE E) (e3 : E 3 3 = nI K) (hK : K ≤ 8) (ag : tk_Ag K E F) (hk : k < K) : tk_cb E fo fi m (nI k) ↔ tk_cb F fo fi m (nI k) := by
  have h : ∀ n, tk_it E 0 n (nI k, 0) = tk_it F 0 n (nI k, 0) := fun n => tk_itc hE e3 hK ag (tk_VSz e3 hK hk) n
  unfold tk_cb
  simp only [h]
theorem tk_dnc {lv : Int32} {dd : Nat → Int32} {ss : Nat → Int32 × Int32} {N : Nat} (e3 : E 3 3 = nI K) (hK : K ≤ 8) (ag : tk_Ag K E F) (hs : ∀ i, i < N → tk_kI E (ss i).1) : tk_dn E lv dd ss N = tk_dn F lv dd ss N := by
  unfold tk_dn
  refine tk_cntc N (fun i hi => ?_)
  obtain ⟨j, hj, _, ej⟩ := tk_kc e3 hK (hs i hi)
  unfold tk_dr
  rw [ej, (ag.2 j hj).1]
theorem tk_dtc {dd : Nat → Int32} {ss : Nat → Int32 × Int32} {N : Nat} (hE : tk_VE E) (e3 : E 3 3 = nI K) (hK : K ≤ 8) (ag : tk_Ag K E F) (hs : ∀ i, i < N → tk_VS E (ss i)) : ∀ n, tk_dt E t dd ss N n = tk_dt F t dd ss N n
  | 0 => rfl
  | n + 1 => by
    rw [tk_dt, tk_dt, tk_dtc hE e3 hK ag hs n, tk_dnc e3 hK ag (fun i hi => (tk_iT_V hE (hs i hi) n).1), tk_lvc ag]
    congr 1
    unfold tk_dn
    refine tk_cntc N (fun i hi => ?_)
    unfold tk_dr
    dsimp only
    rw [tk_iTc hE e3 hK ag (hs i hi) n]
/-- alike things: alike drifts -/
theorem tk_dts {dd dd' : Nat → Int32} {ss ss' : Nat → Int32 × Int32} {N : Nat} (h : ∀ i, i < N → dd i = dd' i ∧ ss i = ss' i) : ∀ n, tk_dt E t dd ss N n = tk_dt E t dd' ss' N n
  | 0 => rfl
  | n + 1 => by
    rw [tk_dt, tk_dt, tk_dts h n]
    congr 1
    unfold tk_dn
    refine tk_cntc N (fun i hi => ?_)
    unfold tk_dr
    dsimp only
    rw [(h i hi).1, (h i hi).2]
end
