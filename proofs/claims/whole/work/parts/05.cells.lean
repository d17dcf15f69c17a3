/-! fields, arrays, the script -/
def tk_os (o : Option Nat) (K : Nat → Prop) : Prop := match o with
  | some x => K x
  | none => False
theorem tk_os.mp {o : Option Nat} {K : Nat → Prop} (h : tk_os o K) : ∃ x, o = some x ∧ K x := by
  cases o with
  | none => exact h.elim
  | some x => exact ⟨x, rfl, h⟩
theorem tk_osi {o : Option Nat} {x : Nat} {K : Nat → Prop} (ho : o = some x) (h : K x) : tk_os o K := by subst ho; exact h
def tk_gI (t k nx : Nat) : tk_Ac := fun L st μ kc ks K _ => match st, μ with
  | .ref p :: r, (σ, ρ, τ, n) => tk_if (tk_ok p t n) (K (nx, L, .int (σ p k) :: r, (σ, ρ, τ, n), kc, ks))
  | _, _ => False
def tk_gR (t k nx : Nat) : tk_Ac := fun L st μ kc ks K _ => match st, μ with
  | .ref p :: r, (σ, ρ, τ, n) => tk_if (tk_ok p t n) (tk_os (ρ p k) (fun x => K (nx, L, .ref x :: r, (σ, ρ, τ, n), kc, ks)))
  | _, _ => False
def tk_gL (t k nx : Nat) : tk_Ac := fun L st μ kc ks K _ => match st, μ with
  | .ref p :: r, (σ, ρ, τ, n) => tk_if (tk_ok p t n) (K (nx, L, .long (τ p k) :: r, (σ, ρ, τ, n), kc, ks))
  | _, _ => False
def tk_pI (t k nx : Nat) : tk_Ac := fun L st μ kc ks K _ => match st, μ with
  | .int x :: .ref p :: r, (σ, ρ, τ, n) => tk_if (tk_ok p t n) (K (nx, L, r, (tk_up σ p k x, ρ, τ, n), kc, ks))
  | _, _ => False
def tk_pZ (t k nx : Nat) : tk_Ac := fun L st μ kc ks K _ => match st, μ with
  | .int x :: .ref p :: r, (σ, ρ, τ, n) => tk_if (tk_ok p t n) ((x = 0 ∨ x = 1) ∧ K (nx, L, r, (tk_up σ p k x, ρ, τ, n), kc, ks))
  | _, _ => False
def tk_pR (t k nx : Nat) : tk_Ac := fun L st μ kc ks K _ => match st, μ with
  | .ref x :: .ref p :: r, (σ, ρ, τ, n) => tk_if (tk_ok p t n && Nat.ble x n) (K (nx, L, r, (σ, tk_up ρ p k (some x), τ, n), kc, ks))
  | _, _ => False
def tk_pL (t k nx : Nat) : tk_Ac := fun L st μ kc ks K _ => match st, μ with
  | .long x :: .ref p :: r, (σ, ρ, τ, n) => tk_if (tk_ok p t n) (K (nx, L, r, (σ, ρ, tk_up τ p k x, n), kc, ks))
  | _, _ => False
def tk_ai (t nx : Nat) : tk_Ac := fun L st μ kc ks K _ => match st, μ with
  | .int i :: .ref p :: r, (σ, ρ, τ, n) => tk_if (tk_ok p t n) (tk_if (tk_in i (tk_kd p).2) (K (nx, L, .int (σ p i.toNatClampNeg) :: r, (σ, ρ, τ, n), kc, ks)))
  | _, _ => False
def tk_aa (t nx : Nat) : tk_Ac := fun L st μ kc ks K _ => match st, μ with
  | .int i :: .ref p :: r, (σ, ρ, τ, n) => tk_if (tk_ok p t n) (tk_if (tk_in i (tk_kd p).2) (tk_os (ρ p i.toNatClampNeg) (fun x => K (nx, L, .ref x :: r, (σ, ρ, τ, n), kc, ks))))
  | _, _ => False
def tk_si (t : Nat) (f : Int32 → Int32) (nx : Nat) : tk_Ac := fun L st μ kc ks K _ => match st, μ with
  | .int x :: .int i :: .ref p :: r, (σ, ρ, τ, n) => tk_if (tk_ok p t n) (tk_if (tk_in i (tk_kd p).2) (K (nx, L, r, (tk_up σ p i.toNatClampNeg (f x), ρ, τ, n), kc, ks)))
  | _, _ => False
def tk_sq (t ci nx : Nat) : tk_Ac := fun L st μ kc ks K _ => match st, μ with
  | .ref x :: .int i :: .ref p :: r, (σ, ρ, τ, n) => tk_if (tk_ok p t n && tk_ok x ci n) (tk_if (tk_in i (tk_kd p).2) (K (nx, L, r, (σ, tk_up ρ p i.toNatClampNeg (some x), τ, n), kc, ks)))
  | _, _ => False
def tk_sld (xs : Nat → Int32) (Ls nx : Nat) : tk_Ac := fun L st μ kc ks K _ => match st with
  | .int i :: .ref p :: r => tk_if (Nat.beq p 0) (tk_if (tk_in i Ls) (K (nx, L, .int (xs i.toNatClampNeg) :: r, μ, kc, ks)))
  | _ => False
def tk_sln (Ls nx : Nat) : tk_Ac := fun L st μ kc ks K _ => match st with
  | .ref p :: r => tk_if (Nat.beq p 0) (K (nx, L, .int (Int32.ofNat Ls) :: r, μ, kc, ks))
  | _ => False
theorem tk_ws_at {cy : Nat → ClassId} {ad : Nat → Nat} {μ : tk_Me} {p : Nat} (h1 : 1 ≤ p) (h2 : p ≤ μ.2.2.2) : (tk_ws cy ad μ)[p - 1]? = some (ad p, tk_cell cy ad μ p) := by
  unfold tk_ws
  rw [List.getElem?_map, List.getElem?_range (by omega)]
  simp only [Option.map_some]
  rw [show p - 1 + 1 = p by omega]
theorem tk_obj {cy : Nat → ClassId} {ad : Nat → Nat} {μ : tk_Me} {p t : Nat} (h : tk_ok p t μ.2.2.2 = true) (ht : t < 8) : (tk_ws cy ad μ)[p - 1]? = some (ad p, .inr (t, (List.range (tk_nf t)).map (fun k => tk_fv ad μ t p k))) := by
  obtain ⟨h0, h1, h2⟩ := tk_ok.mp h
  rw [tk_ws_at h1 h2]
  unfold tk_cell
  rw [h0, if_pos ht]
theorem tk_arr {cy : Nat → ClassId} {ad : Nat → Nat} {μ : tk_Me} {p t : Nat} (h : tk_ok p t μ.2.2.2 = true) (ht : 8 ≤ t) (ht2 : t < 11) : (tk_ws cy ad μ)[p - 1]? = some (ad p, .inl (cy t, (tk_kd p).2, .inl (μ.1 p))) := by
  obtain ⟨h0, h1, h2⟩ := tk_ok.mp h
  rw [tk_ws_at h1 h2]
  unfold tk_cell
  rw [h0, if_neg (by omega), if_pos ht2]
theorem tk_arq {cy : Nat → ClassId} {ad : Nat → Nat} {μ : tk_Me} {p t : Nat} (h : tk_ok p t μ.2.2.2 = true) (ht : 11 ≤ t) : (tk_ws cy ad μ)[p - 1]? = some (ad p, .inl (cy t, (tk_kd p).2, .inr (.inr (.inr (.inr (fun i => (μ.2.1 p i).map ad)))))) := by
  obtain ⟨h0, h1, h2⟩ := tk_ok.mp h
  rw [tk_ws_at h1 h2]
  unfold tk_cell
  rw [h0, if_neg (by omega), if_neg (by omega)]
theorem tk_ws_set {cy : Nat → ClassId} {ad : Nat → Nat} {μ μ' : tk_Me} {p : Nat} {e : va_E} (hn : μ'.2.2.2 = μ.2.2.2) (h1 : 1 ≤ p) (he : tk_cell cy ad μ' p = e) (ho : ∀ p', p' ≠ p → tk_cell cy ad μ' p' = tk_cell cy ad μ p') :
    (tk_ws cy ad μ).set (p - 1) (ad p, e) = tk_ws cy ad μ' := by
  apply List.ext_getElem?
  intro j
  unfold tk_ws
  rw [List.getElem?_set, List.length_map, List.length_range, List.getElem?_map, List.getElem?_map, hn]
  by_cases hj : j < μ.2.2.2
  · rw [List.getElem?_range hj]
    simp only [Option.map_some]
    by_cases hp : p - 1 = j
    · rw [if_pos hp, if_pos (by omega), ← he, show j + 1 = p by omega]
    · rw [if_neg hp, ho (j + 1) (by omega)]
  · have hz : (List.range μ.2.2.2)[j]? = none := List.getElem?_eq_none (by rw [List.length_range]; omega)
    rw [hz]
    by_cases hp : p - 1 = j
    · rw [if_pos hp, if_neg (by omega)]
      rfl
    · rw [if_neg hp]
      rfl
theorem tk_fs_set {nf k : Nat} {f g : Nat → Value} {v : Value} (hk : g k = v) (ho : ∀ j, j ≠ k → g j = f j) : (List.range nf).map g = ((List.range nf).map f).set k v := by
  apply List.ext_getElem?
  intro j
  rw [List.getElem?_set, List.length_map, List.length_range, List.getElem?_map, List.getElem?_map]
  by_cases hj : j < nf
  · rw [List.getElem?_range hj]
    simp only [Option.map_some]
    by_cases hp : k = j
    · rw [if_pos hp, if_pos (by omega), ← hp, hk]
    · rw [if_neg hp, ho j (fun h => hp h.symm)]
  · have hz : (List.range nf)[j]? = none := List.getElem?_eq_none (by rw [List.length_range]; omega)
    rw [hz]
    by_cases hp : k = j
    · rw [if_pos hp, if_neg (by omega)]
      rfl
    · rw [if_neg hp]
      rfl
theorem tk_up_at {α : Type} (f : Nat → Nat → α) (p k : Nat) (v : α) : tk_up f p k v p k = v := if_pos ⟨rfl, rfl⟩
theorem tk_up_p {α : Type} (f : Nat → Nat → α) {p k a : Nat} (v : α) (b : Nat) (h : a ≠ p) : tk_up f p k v a b = f a b := if_neg (fun q => h q.1)
theorem tk_up_k {α : Type} (f : Nat → Nat → α) {p k b : Nat} (v : α) (a : Nat) (h : b ≠ k) : tk_up f p k v a b = f a b := if_neg (fun q => h q.2)
theorem tk_cellI {cy : Nat → ClassId} {ad : Nat → Nat} {σ : Nat → Nat → Int32} {ρ : Nat → Nat → Option Nat} {τ : Nat → Nat → Int64} {n p k : Nat} {x : Int32} (p' : Nat) (h : p' ≠ p) : tk_cell cy ad (tk_up σ p k x, ρ, τ, n) p' = tk_cell cy ad (σ, ρ, τ, n) p' := by
  have e : (tk_up σ p k x) p' = σ p' := funext fun b => tk_up_p σ x b h
  unfold tk_cell tk_fv
  simp only [e]
theorem tk_cellR {cy : Nat → ClassId} {ad : Nat → Nat} {σ : Nat → Nat → Int32} {ρ : Nat → Nat → Option Nat} {τ : Nat → Nat → Int64} {n p k : Nat} {x : Option Nat} (p' : Nat) (h : p' ≠ p) : tk_cell cy ad (σ, tk_up ρ p k x, τ, n) p' = tk_cell cy ad (σ, ρ, τ, n) p' := by
  have e : (tk_up ρ p k x) p' = ρ p' := funext fun b => tk_up_p ρ x b h
  unfold tk_cell tk_fv
  simp only [e]
theorem tk_cellL {cy : Nat → ClassId} {ad : Nat → Nat} {σ : Nat → Nat → Int32} {ρ : Nat → Nat → Option Nat} {τ : Nat → Nat → Int64} {n p k : Nat} {x : Int64} (p' : Nat) (h : p' ≠ p) : tk_cell cy ad (σ, ρ, tk_up τ p k x, n) p' = tk_cell cy ad (σ, ρ, τ, n) p' := by
  have e : (tk_up τ p k x) p' = τ p' := funext fun b => tk_up_p τ x b h
  unfold tk_cell tk_fv
  simp only [e]
theorem tk_cell_obj {cy : Nat → ClassId} {ad : Nat → Nat} {μ : tk_Me} {p t : Nat} (h : (tk_kd p).1 = t) (ht : t < 8) : tk_cell cy ad μ p = .inr (t, (List.range (tk_nf t)).map (fun k => tk_fv ad μ t p k)) := by
  unfold tk_cell
  rw [h, if_pos ht]
theorem tk_cell_arr {cy : Nat → ClassId} {ad : Nat → Nat} {μ : tk_Me} {p t : Nat} (h : (tk_kd p).1 = t) (ht : 8 ≤ t) (ht2 : t < 11) : tk_cell cy ad μ p = .inl (cy t, (tk_kd p).2, .inl (μ.1 p)) := by
  unfold tk_cell
  rw [h, if_neg (by omega), if_pos ht2]
theorem tk_cell_arq {cy : Nat → ClassId} {ad : Nat → Nat} {μ : tk_Me} {p t : Nat} (h : (tk_kd p).1 = t) (ht : 11 ≤ t) : tk_cell cy ad μ p = .inl (cy t, (tk_kd p).2, .inr (.inr (.inr (.inr (fun i => (μ.2.1 p i).map ad))))) := by
  unfold tk_cell
  rw [h, if_neg (by omega), if_neg (by omega)]
theorem tk_fv_up {ad : Nat → Nat} {μ μ' : tk_Me} {t p k : Nat} (h1 : ∀ j, j ≠ k → μ'.1 p j = μ.1 p j) (h2 : ∀ j, j ≠ k → μ'.2.1 p j = μ.2.1 p j) (h3 : ∀ j, j ≠ k → μ'.2.2.1 p j = μ.2.2.1 p j) (j : Nat) (hj : j ≠ k) : tk_fv ad μ' t p j = tk_fv ad μ t p j := by
  unfold tk_fv
  rw [h1 j hj, h2 j hj, h3 j hj]
section
variable {sc : Option (Nat × (Nat → Int32))} {M : tk_Md} {pc nx : Nat}
theorem so_gI {t k idx : Nat} {C : String} {T : u_T} {N : Nat} (hd : decode M.2.1 pc = .ok (.getfield idx, 3)) (ht : t < 8) (hc : vwCl[t]? = some (C, T, N)) (hnf : tk_nf t = N) (hk : k < N) (hft : tk_ft t k = 0) (hin : ∀ w ∈ u_ws C T N, w ∈ tk_G) (hlk : Cond.fieldLink M.1.cls idx (T k).1 (T k).2.1 (T k).2.2.1 ∈ tk_G) (hn : pc + 3 = nx) : tk_So sc M pc (tk_gI t k nx) := by
  subst hn
  intro l D cy L st μ kc ks K q hK ha p9 e s m args below meth cd H locs ad ad0 n0 A ls hC hR hS hA hL hN hX
  unfold tk_gI at ha
  split at ha
  · rename_i p r σ ρ τ n
    obtain ⟨hok, ha⟩ := tk_if.mp ha
    refine va_get hC.1 hC.2.1 hC.2.2.2.2.2.1 hin hC.2.2.2.2.1 hC.2.2.2.2.2.2.2.2.1 hR.1 (p - 1) (tk_obj hok ht) hc k hk (hC.2.2.2.2.2.1 _ hlk) (fun _ h => h) (v := .int (σ p k)) ?_ hd (hK _ ha p9 e s m args below meth cd H locs ad ad0 n0 A ls hC hR hS hA hL hN hX)
    rw [List.getElem?_map, List.getElem?_range (by omega)]
    simp only [Option.map_some, tk_fv, hft]
  · exact ha.elim
theorem so_gL {t k idx : Nat} {C : String} {T : u_T} {N : Nat} (hd : decode M.2.1 pc = .ok (.getfield idx, 3)) (ht : t < 8) (hc : vwCl[t]? = some (C, T, N)) (hnf : tk_nf t = N) (hk : k < N) (hft : tk_ft t k = 2) (hin : ∀ w ∈ u_ws C T N, w ∈ tk_G) (hlk : Cond.fieldLink M.1.cls idx (T k).1 (T k).2.1 (T k).2.2.1 ∈ tk_G) (hn : pc + 3 = nx) : tk_So sc M pc (tk_gL t k nx) := by
  subst hn
  intro l D cy L st μ kc ks K q hK ha p9 e s m args below meth cd H locs ad ad0 n0 A ls hC hR hS hA hL hN hX
  unfold tk_gL at ha
  split at ha
  · rename_i p r σ ρ τ n
    obtain ⟨hok, ha⟩ := tk_if.mp ha
    refine va_get hC.1 hC.2.1 hC.2.2.2.2.2.1 hin hC.2.2.2.2.1 hC.2.2.2.2.2.2.2.2.1 hR.1 (p - 1) (tk_obj hok ht) hc k hk (hC.2.2.2.2.2.1 _ hlk) (fun _ h => h) (v := .long (τ p k)) ?_ hd (hK _ ha p9 e s m args below meth cd H locs ad ad0 n0 A ls hC hR hS hA hL hN hX)
    rw [List.getElem?_map, List.getElem?_range (by omega)]
    simp only [Option.map_some, tk_fv, hft]
  · exact ha.elim
theorem so_gR {t k idx : Nat} {C : String} {T : u_T} {N : Nat} (hd : decode M.2.1 pc = .ok (.getfield idx, 3)) (ht : t < 8) (hc : vwCl[t]? = some (C, T, N)) (hnf : tk_nf t = N) (hk : k < N) (hft : tk_ft t k = 1) (hin : ∀ w ∈ u_ws C T N, w ∈ tk_G) (hlk : Cond.fieldLink M.1.cls idx (T k).1 (T k).2.1 (T k).2.2.1 ∈ tk_G) (hn : pc + 3 = nx) : tk_So sc M pc (tk_gR t k nx) := by
  subst hn
  intro l D cy L st μ kc ks K q hK ha p9 e s m args below meth cd H locs ad ad0 n0 A ls hC hR hS hA hL hN hX
  unfold tk_gR at ha
  split at ha
  · rename_i p r σ ρ τ n
    obtain ⟨hok, ha⟩ := tk_if.mp ha
    obtain ⟨x, hx, ha⟩ := tk_os.mp ha
    refine va_get hC.1 hC.2.1 hC.2.2.2.2.2.1 hin hC.2.2.2.2.1 hC.2.2.2.2.2.2.2.2.1 hR.1 (p - 1) (tk_obj hok ht) hc k hk (hC.2.2.2.2.2.1 _ hlk) (fun _ h => h) (v := .ref (ad x)) ?_ hd (hK _ ha p9 e s m args below meth cd H locs ad ad0 n0 A ls hC hR hS hA hL hN hX)
    rw [List.getElem?_map, List.getElem?_range (by omega)]
    simp only [Option.map_some, tk_fv, hft, hx, va_rf]
  · exact ha.elim
theorem so_pI {t k idx : Nat} {C : String} {T : u_T} {N : Nat} (hd : decode M.2.1 pc = .ok (.putfield idx, 3)) (ht : t < 8) (hc : vwCl[t]? = some (C, T, N)) (hnf : tk_nf t = N) (hk : k < N) (hft : tk_ft t k = 0) (hin : ∀ w ∈ u_ws C T N, w ∈ tk_G) (hlk : Cond.fieldLink M.1.cls idx (T k).1 (T k).2.1 (T k).2.2.1 ∈ tk_G) (ty0 : Nat → FieldType) (hty : ∀ k, k < N → parseFieldDescriptor (T k).2.2.1 = some (ty0 k)) (hnm : ∀ a, a < N → ∀ b, b < N → a ≠ b → (T a).2.1 ≠ (T b).2.1) (hfin : (T k).2.2.2 = false) (hd2 : parseFieldDescriptor (T k).2.2.1 = some .int) (hn : pc + 3 = nx) : tk_So sc M pc (tk_pI t k nx) := by
  subst hn
  intro l D cy L st μ kc ks K q hK ha p9 e s m args below meth cd H locs ad ad0 n0 A ls hC hR hS hA hL hN hX
  unfold tk_pI at ha
  split at ha
  · rename_i x p r σ ρ τ n
    obtain ⟨hok, ha⟩ := tk_if.mp ha
    
    have hkd := (tk_ok.mp hok)
    refine va_put hC.1 hC.2.1 hC.2.2.2.2.2.1 hin ty0 hty hnm hC.2.2.2.2.1 hC.2.2.2.2.2.2.2.2.1 hR.1 hR.2.1 hS (p - 1) (tk_obj hok ht) hc k hk (hC.2.2.2.2.2.1 _ hlk) (fun _ h => h) hfin hd2 (v := .int x) rfl rfl (by rw [List.length_map, List.length_range]; omega) hd (fun H1 locs1 hP1 hD1 hS1 => ?_)
    have e9 : (tk_ws cy ad (σ, ρ, τ, n)).set (p - 1) (ad p, .inr (t, ((List.range (tk_nf t)).map (fun k => tk_fv ad (σ, ρ, τ, n) t p k)).set k (.int x))) = tk_ws cy ad (tk_up σ p k x, ρ, τ, n) := by
      refine tk_ws_set rfl hkd.2.1 ?_ (fun p' h => tk_cellI p' h)
      rw [tk_cell_obj hkd.1 ht]
      refine congrArg (fun z => Sum.inr (t, z)) (tk_fs_set ?_ (fun j hj => tk_fv_up (k := k) ?_ ?_ ?_ j hj))
      · simp only [tk_fv, hft, tk_up_at, Option.map_some, va_rf]
      · exact fun j hj => tk_up_k σ _ p hj
      · exact fun j hj => rfl
      · exact fun j hj => rfl
    rw [e9] at hP1 hD1
    exact hK _ ha p9 e s m args below meth cd H1 locs1 ad ad0 n0 A ls hC ⟨hP1, hD1, hR.2.2⟩ hS1 hA hL hN hX
  · exact ha.elim
theorem so_pZ {t k idx : Nat} {C : String} {T : u_T} {N : Nat} (hd : decode M.2.1 pc = .ok (.putfield idx, 3)) (ht : t < 8) (hc : vwCl[t]? = some (C, T, N)) (hnf : tk_nf t = N) (hk : k < N) (hft : tk_ft t k = 0) (hin : ∀ w ∈ u_ws C T N, w ∈ tk_G) (hlk : Cond.fieldLink M.1.cls idx (T k).1 (T k).2.1 (T k).2.2.1 ∈ tk_G) (ty0 : Nat → FieldType) (hty : ∀ k, k < N → parseFieldDescriptor (T k).2.2.1 = some (ty0 k)) (hnm : ∀ a, a < N → ∀ b, b < N → a ≠ b → (T a).2.1 ≠ (T b).2.1) (hfin : (T k).2.2.2 = false) (hd2 : parseFieldDescriptor (T k).2.2.1 = some .boolean) (hn : pc + 3 = nx) : tk_So sc M pc (tk_pZ t k nx) := by
  subst hn
  intro l D cy L st μ kc ks K q hK ha p9 e s m args below meth cd H locs ad ad0 n0 A ls hC hR hS hA hL hN hX
  unfold tk_pZ at ha
  split at ha
  · rename_i x p r σ ρ τ n
    obtain ⟨hok, ha⟩ := tk_if.mp ha
    obtain ⟨hx, ha⟩ := ha
    have hkd := (tk_ok.mp hok)
    refine va_put hC.1 hC.2.1 hC.2.2.2.2.2.1 hin ty0 hty hnm hC.2.2.2.2.1 hC.2.2.2.2.2.2.2.2.1 hR.1 hR.2.1 hS (p - 1) (tk_obj hok ht) hc k hk (hC.2.2.2.2.2.1 _ hlk) (fun _ h => h) hfin hd2 (v := .int x) (by rcases hx with h | h <;> subst h <;> rfl) (by rcases hx with h | h <;> subst h <;> rfl) (by rw [List.length_map, List.length_range]; omega) hd (fun H1 locs1 hP1 hD1 hS1 => ?_)
    have e9 : (tk_ws cy ad (σ, ρ, τ, n)).set (p - 1) (ad p, .inr (t, ((List.range (tk_nf t)).map (fun k => tk_fv ad (σ, ρ, τ, n) t p k)).set k (.int x))) = tk_ws cy ad (tk_up σ p k x, ρ, τ, n) := by
      refine tk_ws_set rfl hkd.2.1 ?_ (fun p' h => tk_cellI p' h)
      rw [tk_cell_obj hkd.1 ht]
      refine congrArg (fun z => Sum.inr (t, z)) (tk_fs_set ?_ (fun j hj => tk_fv_up (k := k) ?_ ?_ ?_ j hj))
      · simp only [tk_fv, hft, tk_up_at, Option.map_some, va_rf]
      · exact fun j hj => tk_up_k σ _ p hj
      · exact fun j hj => rfl
      · exact fun j hj => rfl
    rw [e9] at hP1 hD1
    exact hK _ ha p9 e s m args below meth cd H1 locs1 ad ad0 n0 A ls hC ⟨hP1, hD1, hR.2.2⟩ hS1 hA hL hN hX
  · exact ha.elim
theorem so_pL {t k idx : Nat} {C : String} {T : u_T} {N : Nat} (hd : decode M.2.1 pc = .ok (.putfield idx, 3)) (ht : t < 8) (hc : vwCl[t]? = some (C, T, N)) (hnf : tk_nf t = N) (hk : k < N) (hft : tk_ft t k = 2) (hin : ∀ w ∈ u_ws C T N, w ∈ tk_G) (hlk : Cond.fieldLink M.1.cls idx (T k).1 (T k).2.1 (T k).2.2.1 ∈ tk_G) (ty0 : Nat → FieldType) (hty : ∀ k, k < N → parseFieldDescriptor (T k).2.2.1 = some (ty0 k)) (hnm : ∀ a, a < N → ∀ b, b < N → a ≠ b → (T a).2.1 ≠ (T b).2.1) (hfin : (T k).2.2.2 = false) (hd2 : parseFieldDescriptor (T k).2.2.1 = some .long) (hn : pc + 3 = nx) : tk_So sc M pc (tk_pL t k nx) := by
  subst hn
  intro l D cy L st μ kc ks K q hK ha p9 e s m args below meth cd H locs ad ad0 n0 A ls hC hR hS hA hL hN hX
  unfold tk_pL at ha
  split at ha
  · rename_i x p r σ ρ τ n
    obtain ⟨hok, ha⟩ := tk_if.mp ha
    
    have hkd := (tk_ok.mp hok)
    refine va_put hC.1 hC.2.1 hC.2.2.2.2.2.1 hin ty0 hty hnm hC.2.2.2.2.1 hC.2.2.2.2.2.2.2.2.1 hR.1 hR.2.1 hS (p - 1) (tk_obj hok ht) hc k hk (hC.2.2.2.2.2.1 _ hlk) (fun _ h => h) hfin hd2 (v := .long x) rfl rfl (by rw [List.length_map, List.length_range]; omega) hd (fun H1 locs1 hP1 hD1 hS1 => ?_)
    have e9 : (tk_ws cy ad (σ, ρ, τ, n)).set (p - 1) (ad p, .inr (t, ((List.range (tk_nf t)).map (fun k => tk_fv ad (σ, ρ, τ, n) t p k)).set k (.long x))) = tk_ws cy ad (σ, ρ, tk_up τ p k x, n) := by
      refine tk_ws_set rfl hkd.2.1 ?_ (fun p' h => tk_cellL p' h)
      rw [tk_cell_obj hkd.1 ht]
      refine congrArg (fun z => Sum.inr (t, z)) (tk_fs_set ?_ (fun j hj => tk_fv_up (k := k) ?_ ?_ ?_ j hj))
      · simp only [tk_fv, hft, tk_up_at, Option.map_some, va_rf]
      · exact fun j hj => rfl
      · exact fun j hj => rfl
      · exact fun j hj => tk_up_k τ _ p hj
    rw [e9] at hP1 hD1
    exact hK _ ha p9 e s m args below meth cd H1 locs1 ad ad0 n0 A ls hC ⟨hP1, hD1, hR.2.2⟩ hS1 hA hL hN hX
  · exact ha.elim
theorem so_pR {t k idx : Nat} {C : String} {T : u_T} {N : Nat} (hd : decode M.2.1 pc = .ok (.putfield idx, 3)) (ht : t < 8) (hc : vwCl[t]? = some (C, T, N)) (hnf : tk_nf t = N) (hk : k < N) (hft : tk_ft t k = 1) (hin : ∀ w ∈ u_ws C T N, w ∈ tk_G) (hlk : Cond.fieldLink M.1.cls idx (T k).1 (T k).2.1 (T k).2.2.1 ∈ tk_G) (ty0 : Nat → FieldType) (hty : ∀ k, k < N → parseFieldDescriptor (T k).2.2.1 = some (ty0 k)) (hnm : ∀ a, a < N → ∀ b, b < N → a ≠ b → (T a).2.1 ≠ (T b).2.1) (hfin : (T k).2.2.2 = false) {ty : FieldType} (hd2 : parseFieldDescriptor (T k).2.2.1 = some ty) (hnar : ∀ a, narrow ty (.ref a) = .ref a) (hfit : ∀ a, fits ty (.ref a) = true) (hn : pc + 3 = nx) : tk_So sc M pc (tk_pR t k nx) := by
  subst hn
  intro l D cy L st μ kc ks K q hK ha p9 e s m args below meth cd H locs ad ad0 n0 A ls hC hR hS hA hL hN hX
  unfold tk_pR at ha
  split at ha
  · rename_i x p r σ ρ τ n
    obtain ⟨hok, ha⟩ := tk_if.mp ha
    rw [Bool.and_eq_true, Nat.ble_eq] at hok
    obtain ⟨hok, hxn⟩ := hok
    have hkd := (tk_ok.mp hok)
    refine va_put hC.1 hC.2.1 hC.2.2.2.2.2.1 hin ty0 hty hnm hC.2.2.2.2.1 hC.2.2.2.2.2.2.2.2.1 hR.1 hR.2.1 hS (p - 1) (tk_obj hok ht) hc k hk (hC.2.2.2.2.2.1 _ hlk) (fun _ h => h) hfin hd2 (v := .ref (ad x)) (hnar _) (hfit _) (by rw [List.length_map, List.length_range]; omega) hd (fun H1 locs1 hP1 hD1 hS1 => ?_)
    have e9 : (tk_ws cy ad (σ, ρ, τ, n)).set (p - 1) (ad p, .inr (t, ((List.range (tk_nf t)).map (fun k => tk_fv ad (σ, ρ, τ, n) t p k)).set k (.ref (ad x)))) = tk_ws cy ad (σ, tk_up ρ p k (some x), τ, n) := by
      refine tk_ws_set rfl hkd.2.1 ?_ (fun p' h => tk_cellR p' h)
      rw [tk_cell_obj hkd.1 ht]
      refine congrArg (fun z => Sum.inr (t, z)) (tk_fs_set ?_ (fun j hj => tk_fv_up (k := k) ?_ ?_ ?_ j hj))
      · simp only [tk_fv, hft, tk_up_at, Option.map_some, va_rf]
      · exact fun j hj => rfl
      · exact fun j hj => tk_up_k ρ _ p hj
      · exact fun j hj => rfl
    rw [e9] at hP1 hD1
    exact hK _ ha p9 e s m args below meth cd H1 locs1 ad ad0 n0 A ls hC ⟨hP1, hD1, fun a b z hz => by
      by_cases hab : a = p ∧ b = k
      · have h9 : tk_up ρ p k (some x) a b = some x := if_pos hab
        have h8 : tk_up ρ p k (some x) a b = some z := hz
        rw [h9] at h8
        cases h8
        exact hxn
      · have h8 : tk_up ρ p k (some x) a b = some z := hz
        rw [tk_up, if_neg hab] at h8
        exact hR.2.2 a b z h8⟩ hS1 hA hL hN hX
  · exact ha.elim
theorem so_pRF {t k idx : Nat} {C : String} {T : u_T} {N : Nat} (hd : decode M.2.1 pc = .ok (.putfield idx, 3)) (ht : t < 8) (hc : vwCl[t]? = some (C, T, N)) (hnf : tk_nf t = N) (hk : k < N) (hft : tk_ft t k = 1) (hin : ∀ w ∈ u_ws C T N, w ∈ tk_G) (hlk : Cond.fieldLink M.1.cls idx (T k).1 (T k).2.1 (T k).2.2.1 ∈ tk_G) (ty0 : Nat → FieldType) (hty : ∀ k, k < N → parseFieldDescriptor (T k).2.2.1 = some (ty0 k)) (hnm : ∀ a, a < N → ∀ b, b < N → a ≠ b → (T a).2.1 ≠ (T b).2.1) (hfin : (T k).2.2.2 = true) (hini : M.1.name = "<init>") (hdecl : (T k).1 = M.1.cls) {ty : FieldType} (hd2 : parseFieldDescriptor (T k).2.2.1 = some ty) (hnar : ∀ a, narrow ty (.ref a) = .ref a) (hfit : ∀ a, fits ty (.ref a) = true) (hn : pc + 3 = nx) : tk_So sc M pc (tk_pR t k nx) := by
  subst hn
  intro l D cy L st μ kc ks K q hK ha p9 e s m args below meth cd H locs ad ad0 n0 A ls hC hR hS hA hL hN hX
  unfold tk_pR at ha
  split at ha
  · rename_i x p r σ ρ τ n
    obtain ⟨hok, ha⟩ := tk_if.mp ha
    rw [Bool.and_eq_true, Nat.ble_eq] at hok
    obtain ⟨hok, hxn⟩ := hok
    have hkd := (tk_ok.mp hok)
    refine va_putF hC.1 hC.2.1 hC.2.2.2.2.2.1 hin ty0 hty hnm hC.2.2.2.2.1 hC.2.2.2.2.2.2.2.2.1 hR.1 hR.2.1 hS (p - 1) (tk_obj hok ht) hc k hk (hC.2.2.2.2.2.1 _ hlk) (fun _ h => h) hfin (hC.2.2.2.2.2.2.2.1.trans hini) hdecl hd2 (v := .ref (ad x)) (hnar _) (hfit _) (by rw [List.length_map, List.length_range]; omega) hd (fun H1 locs1 hP1 hD1 hS1 => ?_)
    have e9 : (tk_ws cy ad (σ, ρ, τ, n)).set (p - 1) (ad p, .inr (t, ((List.range (tk_nf t)).map (fun k => tk_fv ad (σ, ρ, τ, n) t p k)).set k (.ref (ad x)))) = tk_ws cy ad (σ, tk_up ρ p k (some x), τ, n) := by
      refine tk_ws_set rfl hkd.2.1 ?_ (fun p' h => tk_cellR p' h)
      rw [tk_cell_obj hkd.1 ht]
      refine congrArg (fun z => Sum.inr (t, z)) (tk_fs_set ?_ (fun j hj => tk_fv_up (k := k) ?_ ?_ ?_ j hj))
      · simp only [tk_fv, hft, tk_up_at, Option.map_some, va_rf]
      · exact fun j hj => rfl
      · exact fun j hj => tk_up_k ρ _ p hj
      · exact fun j hj => rfl
    rw [e9] at hP1 hD1
    exact hK _ ha p9 e s m args below meth cd H1 locs1 ad ad0 n0 A ls hC ⟨hP1, hD1, fun a b z hz => by
      by_cases hab : a = p ∧ b = k
      · have h9 : tk_up ρ p k (some x) a b = some x := if_pos hab
        have h8 : tk_up ρ p k (some x) a b = some z := hz
        rw [h9] at h8
        cases h8
        exact hxn
      · have h8 : tk_up ρ p k (some x) a b = some z := hz
        rw [tk_up, if_neg hab] at h8
        exact hR.2.2 a b z h8⟩ hS1 hA hL hN hX
  · exact ha.elim
theorem so_iaload (hd : decode M.2.1 pc = .ok (.iaload, 1)) (hn : pc + 1 = nx) : tk_So sc M pc (tk_ai 9 nx) := by
  subst hn
  intro l D cy L st μ kc ks K q hK ha p9 e s m args below meth cd H locs ad ad0 n0 A ls hC hR hS hA hL hN hX
  unfold tk_ai at ha
  split at ha
  · rename_i i p r σ ρ τ n
    obtain ⟨hok, ha⟩ := tk_if.mp ha
    obtain ⟨hin, ha⟩ := tk_if.mp ha
    exact va_iald hC.1 hC.2.1 hC.2.2.2.2.2.2.2.2.1 hR.1 (p - 1) 1 (tk_arr hok (by decide) (by decide)) rfl (tk_in.mp hin) hd (hK _ ha p9 e s m args below meth cd H locs ad ad0 n0 A ls hC hR hS hA hL hN hX)
  · exact ha.elim
theorem so_caload (hd : decode M.2.1 pc = .ok (.caload, 1)) (hn : pc + 1 = nx) : tk_So sc M pc (tk_ai 8 nx) := by
  subst hn
  intro l D cy L st μ kc ks K q hK ha p9 e s m args below meth cd H locs ad ad0 n0 A ls hC hR hS hA hL hN hX
  unfold tk_ai at ha
  split at ha
  · rename_i i p r σ ρ τ n
    obtain ⟨hok, ha⟩ := tk_if.mp ha
    obtain ⟨hin, ha⟩ := tk_if.mp ha
    exact va_cald hC.1 hC.2.1 hC.2.2.2.2.2.2.2.2.1 hR.1 (p - 1) 0 (tk_arr hok (by decide) (by decide)) rfl (tk_in.mp hin) hd (hK _ ha p9 e s m args below meth cd H locs ad ad0 n0 A ls hC hR hS hA hL hN hX)
  · exact ha.elim
theorem so_baload (hd : decode M.2.1 pc = .ok (.baload, 1)) (hn : pc + 1 = nx) : tk_So sc M pc (tk_ai 10 nx) := by
  subst hn
  intro l D cy L st μ kc ks K q hK ha p9 e s m args below meth cd H locs ad ad0 n0 A ls hC hR hS hA hL hN hX
  unfold tk_ai at ha
  split at ha
  · rename_i i p r σ ρ τ n
    obtain ⟨hok, ha⟩ := tk_if.mp ha
    obtain ⟨hin, ha⟩ := tk_if.mp ha
    exact va_zald hC.1 hC.2.1 hC.2.2.2.2.2.2.2.2.1 hR.1 (p - 1) 2 (tk_arr hok (by decide) (by decide)) rfl (tk_in.mp hin) hd (hK _ ha p9 e s m args below meth cd H locs ad ad0 n0 A ls hC hR hS hA hL hN hX)
  · exact ha.elim
theorem so_iastore (hd : decode M.2.1 pc = .ok (.iastore, 1)) (hn : pc + 1 = nx) : tk_So sc M pc (tk_si 9 (fun x => x) nx) := by
  subst hn
  intro l D cy L st μ kc ks K q hK ha p9 e s m args below meth cd H locs ad ad0 n0 A ls hC hR hS hA hL hN hX
  unfold tk_si at ha
  split at ha
  · rename_i x i p r σ ρ τ n
    obtain ⟨hok, ha⟩ := tk_if.mp ha
    obtain ⟨hin, ha⟩ := tk_if.mp ha
    have hkd := (tk_ok.mp hok)
    refine va_iast hC.1 hC.2.1 hC.2.2.2.2.2.2.2.2.1 hR.1 hR.2.1 hS (p - 1) 1 (tk_arr hok (by decide) (by decide)) rfl (tk_in.mp hin) hd (fun H1 locs1 hP1 hD1 hS1 => ?_)
    have e9 : (tk_ws cy ad (σ, ρ, τ, n)).set (p - 1) (ad p, .inl (cy 9, (tk_kd p).2, .inl (upd (σ p) i.toNatClampNeg x))) = tk_ws cy ad (tk_up σ p i.toNatClampNeg x, ρ, τ, n) := by
      refine tk_ws_set rfl hkd.2.1 ?_ (fun p' h => tk_cellI p' h)
      rw [tk_cell_arr hkd.1 (by decide) (by decide)]
      refine congrArg (fun z => Sum.inl (cy 9, (tk_kd p).2, Sum.inl z)) (funext fun j => ?_)
      unfold tk_up upd
      simp only [true_and]
    have hP2 := e9 ▸ hP1
    have hD2 := e9 ▸ hD1
    exact hK _ ha p9 e s m args below meth cd H1 locs1 ad ad0 n0 A ls hC ⟨hP2, hD2, hR.2.2⟩ hS1 hA hL hN hX
  · exact ha.elim
theorem so_castore (hd : decode M.2.1 pc = .ok (.castore, 1)) (hn : pc + 1 = nx) : tk_So sc M pc (tk_si 8 (vp_nar .char) nx) := by
  subst hn
  intro l D cy L st μ kc ks K q hK ha p9 e s m args below meth cd H locs ad ad0 n0 A ls hC hR hS hA hL hN hX
  unfold tk_si at ha
  split at ha
  · rename_i x i p r σ ρ τ n
    obtain ⟨hok, ha⟩ := tk_if.mp ha
    obtain ⟨hin, ha⟩ := tk_if.mp ha
    have hkd := (tk_ok.mp hok)
    refine va_cast hC.1 hC.2.1 hC.2.2.2.2.2.2.2.2.1 hR.1 hR.2.1 hS (p - 1) 0 (tk_arr hok (by decide) (by decide)) rfl (tk_in.mp hin) hd (fun H1 locs1 hP1 hD1 hS1 => ?_)
    have e9 : (tk_ws cy ad (σ, ρ, τ, n)).set (p - 1) (ad p, .inl (cy 8, (tk_kd p).2, .inl (upd (σ p) i.toNatClampNeg (vp_nar .char x)))) = tk_ws cy ad (tk_up σ p i.toNatClampNeg (vp_nar .char x), ρ, τ, n) := by
      refine tk_ws_set rfl hkd.2.1 ?_ (fun p' h => tk_cellI p' h)
      rw [tk_cell_arr hkd.1 (by decide) (by decide)]
      refine congrArg (fun z => Sum.inl (cy 8, (tk_kd p).2, Sum.inl z)) (funext fun j => ?_)
      unfold tk_up upd
      simp only [true_and]
    have hP2 := e9 ▸ hP1
    have hD2 := e9 ▸ hD1
    exact hK _ ha p9 e s m args below meth cd H1 locs1 ad ad0 n0 A ls hC ⟨hP2, hD2, hR.2.2⟩ hS1 hA hL hN hX
  · exact ha.elim
theorem so_bastore (hd : decode M.2.1 pc = .ok (.bastore, 1)) (hn : pc + 1 = nx) : tk_So sc M pc (tk_si 10 (vp_nar .boolean) nx) := by
  subst hn
  intro l D cy L st μ kc ks K q hK ha p9 e s m args below meth cd H locs ad ad0 n0 A ls hC hR hS hA hL hN hX
  unfold tk_si at ha
  split at ha
  · rename_i x i p r σ ρ τ n
    obtain ⟨hok, ha⟩ := tk_if.mp ha
    obtain ⟨hin, ha⟩ := tk_if.mp ha
    have hkd := (tk_ok.mp hok)
    refine va_zast hC.1 hC.2.1 hC.2.2.2.2.2.2.2.2.1 hR.1 hR.2.1 hS (p - 1) 2 (tk_arr hok (by decide) (by decide)) rfl (tk_in.mp hin) hd (fun H1 locs1 hP1 hD1 hS1 => ?_)
    have e9 : (tk_ws cy ad (σ, ρ, τ, n)).set (p - 1) (ad p, .inl (cy 10, (tk_kd p).2, .inl (upd (σ p) i.toNatClampNeg (vp_nar .boolean x)))) = tk_ws cy ad (tk_up σ p i.toNatClampNeg (vp_nar .boolean x), ρ, τ, n) := by
      refine tk_ws_set rfl hkd.2.1 ?_ (fun p' h => tk_cellI p' h)
      rw [tk_cell_arr hkd.1 (by decide) (by decide)]
      refine congrArg (fun z => Sum.inl (cy 10, (tk_kd p).2, Sum.inl z)) (funext fun j => ?_)
      unfold tk_up upd
      simp only [true_and]
    have hP2 := e9 ▸ hP1
    have hD2 := e9 ▸ hD1
    exact hK _ ha p9 e s m args below meth cd H1 locs1 ad ad0 n0 A ls hC ⟨hP2, hD2, hR.2.2⟩ hS1 hA hL hN hX
  · exact ha.elim
theorem so_aaT (hd : decode M.2.1 pc = .ok (.aaload, 1)) (hn : pc + 1 = nx) : tk_So sc M pc (tk_aa 11 nx) := by
  subst hn
  intro l D cy L st μ kc ks K q hK ha p9 e s m args below meth cd H locs ad ad0 n0 A ls hC hR hS hA hL hN hX
  unfold tk_aa at ha
  split at ha
  · rename_i i p r σ ρ τ n
    obtain ⟨hok, ha⟩ := tk_if.mp ha
    obtain ⟨hin, ha⟩ := tk_if.mp ha
    obtain ⟨x, hx, ha⟩ := tk_os.mp ha
    refine va_aldq (C := RX4) hC.1 hC.2.1 hC.2.2.2.2.2.2.2.2.1 hR.1 (p - 1) 3 (tk_arq hok (by decide)) rfl (tk_in.mp hin) hd ?_
    dsimp only
    rw [hx]
    exact (hK _ ha p9 e s m args below meth cd H locs ad ad0 n0 A ls hC hR hS hA hL hN hX)
  · exact ha.elim
theorem so_aaI (hd : decode M.2.1 pc = .ok (.aaload, 1)) (hn : pc + 1 = nx) : tk_So sc M pc (tk_aa 12 nx) := by
  subst hn
  intro l D cy L st μ kc ks K q hK ha p9 e s m args below meth cd H locs ad ad0 n0 A ls hC hR hS hA hL hN hX
  unfold tk_aa at ha
  split at ha
  · rename_i i p r σ ρ τ n
    obtain ⟨hok, ha⟩ := tk_if.mp ha
    obtain ⟨hin, ha⟩ := tk_if.mp ha
    obtain ⟨x, hx, ha⟩ := tk_os.mp ha
    have hin := tk_in.mp hin
    have hlt : i.toNatClampNeg < (tk_kd p).2 := Nat.not_le.mp fun q => hin (Or.inr q)
    refine W.aald (v := .ref (ad x)) (ty := .array .int) hC.1 hC.2.1 (hR.1 (p - 1) _ (tk_arq hok (by decide))) (((hC.2.2.2.2.2.2.2.2.1).2 4 _ rfl).1 _ (fun j => va_rf ((ρ p j).map ad))) rfl (fun q => by cases q) (by show ¬ (i < 0 ∨ (arrV _ _ _).slots.size ≤ _); rw [arrV_size]; exact hin) (by show (arrV _ _ _).slots[_]? = _; rw [arrV_read _ _ hlt]; dsimp only; rw [hx]; rfl) rfl rfl hd (hK _ ha p9 e s m args below meth cd H locs ad ad0 n0 A ls hC hR hS hA hL hN hX)
  · exact ha.elim
theorem so_aas {t0 : Nat} (hd : decode M.2.1 pc = .ok (.aastore, 1)) (hn : pc + 1 = nx) : tk_So sc M pc (tk_sq 11 4 nx) := by
  subst hn
  intro l D cy L st μ kc ks K q hK ha p9 e s m args below meth cd H locs ad ad0 n0 A ls hC hR hS hA hL hN hX
  unfold tk_sq at ha
  split at ha
  · rename_i x i p r σ ρ τ n
    obtain ⟨hok, ha⟩ := tk_if.mp ha
    obtain ⟨hin, ha⟩ := tk_if.mp ha
    rw [Bool.and_eq_true] at hok
    obtain ⟨hok, hox⟩ := hok
    have hkd := (tk_ok.mp hok)
    have hxn := (tk_ok.mp hox).2.2
    refine va_astq (r := (RX4, TX4, 3)) hC.1 hC.2.1 hC.2.2.2.2.2.2.2.2.1 hR.1 hR.2.1 hS (p - 1) 3 (x - 1) 4 (tk_arq hok (by decide)) rfl (tk_obj hox (by decide)) rfl (tk_in.mp hin) hd (fun H1 locs1 hP1 hD1 hS1 => ?_)
    have e9 : (tk_ws cy ad (σ, ρ, τ, n)).set (p - 1) (ad p, .inl (cy 11, (tk_kd p).2, .inr (.inr (.inr (.inr (va_up (fun i => (ρ p i).map ad) i.toNatClampNeg (some (ad x)))))))) = tk_ws cy ad (σ, tk_up ρ p i.toNatClampNeg (some x), τ, n) := by
      refine tk_ws_set rfl hkd.2.1 ?_ (fun p' h => tk_cellR p' h)
      rw [tk_cell_arq hkd.1 (by decide)]
      refine congrArg (fun z => Sum.inl (cy 11, (tk_kd p).2, Sum.inr (Sum.inr (Sum.inr (Sum.inr z))))) (funext fun j => ?_)
      unfold tk_up va_up
      by_cases hj : j = i.toNatClampNeg
      · simp only [hj, and_self, if_true, Option.map_some]
      · simp only [hj, and_false, if_false]
    have hP2 := e9 ▸ hP1
    have hD2 := e9 ▸ hD1
    refine hK _ ha p9 e s m args below meth cd H1 locs1 ad ad0 n0 A ls hC ⟨hP2, hD2, fun a b z hz => ?_⟩ hS1 hA hL hN hX
    by_cases hab : a = p ∧ b = i.toNatClampNeg
    · have h9 : tk_up ρ p i.toNatClampNeg (some x) a b = some x := if_pos hab
      have h8 : tk_up ρ p i.toNatClampNeg (some x) a b = some z := hz
      rw [h9] at h8
      cases h8
      exact hxn
    · have h8 : tk_up ρ p i.toNatClampNeg (some x) a b = some z := hz
      rw [tk_up, if_neg hab] at h8
      exact hR.2.2 a b z h8
  · exact ha.elim
theorem so_sld {Ls : Nat} {xs : Nat → Int32} (hsc : sc = some (Ls, xs)) (hd : decode M.2.1 pc = .ok (.iaload, 1)) (hn : pc + 1 = nx) : tk_So sc M pc (tk_sld xs Ls nx) := by
  subst hn
  intro l D cy L st μ kc ks K q hK ha p9 e s m args below meth cd H locs ad ad0 n0 A ls hC hR hS hA hL hN hX
  unfold tk_sld at ha
  split at ha
  · rename_i i p r
    obtain ⟨hp, hb⟩ := tk_if.mp ha
    obtain ⟨hin, hc⟩ := tk_if.mp hb
    have hp := Nat.eq_of_beq_eq_true hp
    subst hp
    obtain ⟨x1, x2, x3⟩ := hX Ls xs hsc
    exact va_sld hC.1 hC.2.1 x1 x2 x3 hS (tk_in.mp hin) hd (hK _ hc p9 e s m args below meth cd H locs ad ad0 n0 A ls hC hR hS hA hL hN hX)
  · exact ha.elim
theorem so_sln {Ls : Nat} {xs : Nat → Int32} (hsc : sc = some (Ls, xs)) (hd : decode M.2.1 pc = .ok (.arraylength, 1)) (hn : pc + 1 = nx) : tk_So sc M pc (tk_sln Ls nx) := by
  subst hn
  intro l D cy L st μ kc ks K q hK ha p9 e s m args below meth cd H locs ad ad0 n0 A ls hC hR hS hA hL hN hX
  unfold tk_sln at ha
  split at ha
  · rename_i p r
    obtain ⟨hp, hb⟩ := tk_if.mp ha
    have hp := Nat.eq_of_beq_eq_true hp
    subst hp
    obtain ⟨x1, x2, x3⟩ := hX Ls xs hsc
    exact va_slen hC.1 hC.2.1 x1 x2 x3 hS hd (hK _ hb p9 e s m args below meth cd H locs ad ad0 n0 A ls hC hR hS hA hL hN hX)
  · exact ha.elim
theorem so_lookup {dflt : Int} {ps : Array (Int × Int)} {len d : Nat} {cs : List (Int32 × Nat)} (hd : decode M.2.1 pc = .ok (.lookupswitch dflt ps, len)) (hp : (ps.toList.zip (ps.toList.drop 1)).all (fun (a, next) => a.1 < next.1) = true) (ht : (pc : Int) + dflt = (d : Int))
    (h1 : ps.toList = cs.map (fun r => (r.1.toInt, (r.2 : Int) - (pc : Int)))) : tk_So sc M pc (tk_sw cs d) := by
  intro l D cy L st μ kc ks K q hK ha p9 e s m args below meth cd H locs ad ad0 n0 A ls hC hR hS hA hL hN hX
  unfold tk_sw at ha
  split at ha
  · rename_i x r
    have key : ∀ (zs : List (Int32 × Nat)), tk_cas zs x d (fun t => K (t, L, r, μ, kc, ks)) → ∃ t, K (t, L, r, μ, kc, ks) ∧ (pc : Int) + Op.lookupswitch.offset (zs.map (fun r => (r.1.toInt, (r.2 : Int) - (pc : Int)))) dflt x.toInt = (t : Int) := by
      intro zs
      induction zs with
      | nil => intro h; exact ⟨d, h, ht⟩
      | cons a l ih =>
        obtain ⟨v, t⟩ := a
        intro h
        by_cases hx : x = v
        · refine ⟨t, h.1 hx, ?_⟩
          rw [List.map_cons, Op.lookupswitch.offset_cons, if_pos (by rw [hx])]
          omega
        · obtain ⟨t', g1, g2⟩ := ih (h.2 hx)
          refine ⟨t', g1, ?_⟩
          rw [List.map_cons, Op.lookupswitch.offset_cons, if_neg (fun h => hx (Int32.toInt_inj.mp h.symm))]
          exact g2
    obtain ⟨t, g1, g2⟩ := key cs ha
    exact lv_lookup hC.1 hC.2.1 hd hp rfl (by rw [h1]; exact g2) (hK _ g1 p9 e s m args below meth cd H locs ad ad0 n0 A ls hC hR hS hA hL hN hX)
  · exact ha.elim
end
