/-! constructors, what is made, and the contract out of a walk -/
def tk_z {α : Type} (f : Nat → Nat → α) (p : Nat) (d : α) : Nat → Nat → α := fun a b => if a = p then d else f a b
def tk_d0 (c : Nat) : Value := match c with
  | 0 => .int 0
  | 1 => .null
  | _ => .long 0
def tk_new (t nx mc ms : Nat) : tk_Ac := fun L st μ kc ks K _ => match μ with
  | (σ, ρ, τ, n) => tk_if (Nat.beq (tk_kd (n + 1)).1 t && (tk_fr n L st && (Nat.ble (kc + 1) mc && Nat.ble (ks + tk_nf t) ms))) (K (nx, L, .ref (n + 1) :: st, (tk_z σ (n + 1) 0, tk_z ρ (n + 1) none, tk_z τ (n + 1) 0, n + 1), kc + 1, ks + tk_nf t))
def tk_nwa (t nx mc ms : Nat) : tk_Ac := fun L st μ kc ks K _ => match st, μ with
  | .int z :: r, (σ, ρ, τ, n) => tk_if (Nat.beq (tk_kd (n + 1)).1 t && (Nat.beq (tk_kd (n + 1)).2 z.toNatClampNeg && (decide (¬ z < 0) && (Nat.ble z.toNatClampNeg 1000 && (tk_fr n L r && (Nat.ble (kc + 1) mc && Nat.ble (ks + z.toNatClampNeg) ms)))))) (K (nx, L, .ref (n + 1) :: r, (tk_z σ (n + 1) 0, tk_z ρ (n + 1) none, tk_z τ (n + 1) 0, n + 1), kc + 1, ks + z.toNatClampNeg))
  | _, _ => False
section
variable {sc : Option (Nat × (Nat → Int32))} {M M' : tk_Md} {pc nx n : Nat}
theorem so_ci {idx mc ms : Nat} (hd : decode M.2.1 pc = .ok (.invokespecial idx, 3)) (hM : tk_MI M' n) (hlk : Cond.methodLink M.1.cls idx M'.1 ∈ tk_G) (hmc : M.2.2.2.2.cells = mc) (hms : M.2.2.2.2.slots = ms)
    (hrm : M'.2.2.2.2.frames + 1 ≤ M.2.2.2.2.frames ∧ 8 + (M'.2.2.1 + 11) + M'.2.2.2.2.locals ≤ M.2.2.2.2.locals) (hn : pc + 3 = nx) : tk_So sc M pc (tk_ci M' n nx mc ms) := by
  subst hn
  subst hmc
  subst hms
  intro l D cy L st μ kc ks K q hK ha p e s m args below meth cd H locs ad ad0 n0 A ls hC hR hS hA hL hN hX
  unfold tk_ci at ha
  obtain ⟨as, r, hst, hlen, ha⟩ := tk_pop.mp ha
  rw [List.append_nil] at ha
  split at ha
  · rename_i b As
    obtain ⟨hok, ha⟩ := tk_if.mp ha
    obtain ⟨hct, ha⟩ := tk_if.mp ha
    obtain ⟨P, hCt, hk⟩ := ha
    simp only [Bool.and_eq_true, Nat.ble_eq] at hok
    obtain ⟨hfr, hroom⟩ := hok
    have hts := hC.2.2.2.2.2.1
    have cw := callB_of (R := M.2.2.2.2) n hts (tk_gin hM.1.1) (by rw [tk_wsM, hM.2.2.2]) rfl rfl (hts _ hM.1.2.1) (hts _ hlk) hM.1.2.2 hrm
    have hp := tk_pre (as := .ref b :: As) hC.2.2.2.2.2.2.2.2.1 hC.2.2.2.2.2.2.2.2.2 hR hS hA
    refine tk_aft (as := (Value.ref (ad b) :: As.map (tk_v ad)).toArray) (rr := r) (P := P) hC hS hA hL hN hX hroom (Or.inr hfr) (va_runI (As := As.map (tk_v ad)) (rest := r.map (tk_v ad)) ⟨hC.1, hC.2.1, hC.2.2.2.1, hC.2.2.2.2.1, hts⟩ (hCt l D cy ad A) ⟨cw, hM.2.2.1, hts _ hM.2.1⟩ hp rfl ?_ hL.1.1 ?_ ?_ hd hroom) (fun v μ' hv => hK _ (hk v μ' hv))
    · rw [List.length_map]; rw [List.length_cons] at hlen; omega
    · show st.map (tk_v ad) = _
      rw [hst, List.map_append, List.map_reverse, List.map_cons, List.reverse_cons, List.append_assoc]
      rfl
    · refine lv_room ?_
      rw [tk_cat_v]
      exact Nat.le_of_ble_eq_true hct
  · exact ha.elim
theorem so_ciN {idx mc ms : Nat} {host : String} (hd : decode M.2.1 pc = .ok (.invokespecial idx, 3)) (hM : tk_MI M' n) (hlk : Cond.methodLinkNest M.1.cls idx M'.1 host ∈ lw_tbl) (hmc : M.2.2.2.2.cells = mc) (hms : M.2.2.2.2.slots = ms)
    (hrm : M'.2.2.2.2.frames + 1 ≤ M.2.2.2.2.frames ∧ 8 + (M'.2.2.1 + 11) + M'.2.2.2.2.locals ≤ M.2.2.2.2.locals) (hn : pc + 3 = nx) : tk_So sc M pc (tk_ci M' n nx mc ms) := by
  subst hn
  subst hmc
  subst hms
  intro l D cy L st μ kc ks K q hK ha p e s m args below meth cd H locs ad ad0 n0 A ls hC hR hS hA hL hN hX
  unfold tk_ci at ha
  obtain ⟨as, r, hst, hlen, ha⟩ := tk_pop.mp ha
  rw [List.append_nil] at ha
  split at ha
  · rename_i b As
    obtain ⟨hok, ha⟩ := tk_if.mp ha
    obtain ⟨hct, ha⟩ := tk_if.mp ha
    obtain ⟨P, hCt, hk⟩ := ha
    simp only [Bool.and_eq_true, Nat.ble_eq] at hok
    obtain ⟨hfr, hroom⟩ := hok
    have hts := hC.2.2.2.2.2.1
    have cw := va_cnB (R := M.2.2.2.2) n hts (tk_gin hM.1.1) (by rw [tk_wsM, hM.2.2.2]) rfl rfl (hC.2.2.2.2.2.2.2.2.2.1 _ _ _ _ hlk) (hts _ hM.1.2.1) hM.1.2.2 hrm
    have hp := tk_pre (as := .ref b :: As) hC.2.2.2.2.2.2.2.2.1 hC.2.2.2.2.2.2.2.2.2 hR hS hA
    refine tk_aft (as := (Value.ref (ad b) :: As.map (tk_v ad)).toArray) (rr := r) (P := P) hC hS hA hL hN hX hroom (Or.inr hfr) (va_runIN (As := As.map (tk_v ad)) (rest := r.map (tk_v ad)) ⟨hC.1, hC.2.1, hC.2.2.2.1, hC.2.2.2.2.1, hts⟩ (hCt l D cy ad A) ⟨cw, hM.2.2.1, hts _ hM.2.1⟩ hp rfl ?_ hL.1.1 ?_ ?_ hd hroom) (fun v μ' hv => hK _ (hk v μ' hv))
    · rw [List.length_map]; rw [List.length_cons] at hlen; omega
    · show st.map (tk_v ad) = _
      rw [hst, List.map_append, List.map_reverse, List.map_cons, List.reverse_cons, List.append_assoc]
      rfl
    · refine lv_room ?_
      rw [tk_cat_v]
      exact Nat.le_of_ble_eq_true hct
  · exact ha.elim
theorem so_oi {idx : Nat} (hd : decode M.2.1 pc = .ok (.invokespecial idx, 3)) (hlk : Cond.methodLink M.1.cls idx objectInit ∈ tk_G) (h2 : Cond.instanceMethod objectInit ∈ tk_G) (h3 : Cond.code objectInit ⟨#[0xb1]⟩ 1 none ∈ tk_G)
    (hrm : 1 ≤ M.2.2.2.2.frames ∧ 12 ≤ M.2.2.2.2.locals) (hn : pc + 3 = nx) : tk_So sc M pc (tk_oi nx) := by
  subst hn
  intro l D cy L st μ kc ks K q hK ha p e s m args below meth cd H locs ad ad0 n0 A ls hC hR hS hA hL hN hX
  unfold tk_oi at ha
  split at ha
  · have hts := hC.2.2.2.2.2.1
    exact W.objInit hC.1 hC.2.1 hC.2.2.2.2.1 (hts _ hlk) (hts _ h2) (hts _ h3) rfl (by rw [hC.2.2.2.1]; exact hL.1.1) rfl hd hrm.1 hrm.2 (hK _ ha p e s m args below meth cd H locs ad ad0 n0 A ls hC hR hS hA hL hN hX)
  · exact ha.elim
end
/-- what grows: the old cells stay, the new one stands behind them -/
theorem tk_grow {cy : Nat → ClassId} {ad : Nat → Nat} {σ : Nat → Nat → Int32} {ρ : Nat → Nat → Option Nat} {τ : Nat → Nat → Int64} {n a : Nat} {e : va_E} (hρ : ∀ p k r, ρ p k = some r → r ≤ n)
    (he : tk_cell cy (fun i => if i = n + 1 then a else ad i) (tk_z σ (n + 1) 0, tk_z ρ (n + 1) none, tk_z τ (n + 1) 0, n + 1) (n + 1) = e) :
    tk_ws cy ad (σ, ρ, τ, n) ++ [(a, e)] = tk_ws cy (fun i => if i = n + 1 then a else ad i) (tk_z σ (n + 1) 0, tk_z ρ (n + 1) none, tk_z τ (n + 1) 0, n + 1) := by
  unfold tk_ws
  dsimp only
  rw [List.range_succ, List.map_append]
  congr 1
  · apply List.map_congr_left
    intro j hj
    have hj := List.mem_range.mp hj
    have h1 : ∀ p k, p ≠ n + 1 → (tk_z ρ (n + 1) none p k).map (fun i => if i = n + 1 then a else ad i) = (ρ p k).map ad := by
      intro p k hp
      unfold tk_z
      rw [if_neg hp]
      cases hr : ρ p k with
      | none => rfl
      | some r =>
        have := hρ p k r hr
        simp only [Option.map_some]
        rw [if_neg (by omega)]
    have h2 : tk_z σ (n + 1) 0 (j + 1) = σ (j + 1) := funext fun k => if_neg (by omega)
    have h3 : tk_z τ (n + 1) 0 (j + 1) = τ (j + 1) := funext fun k => if_neg (by omega)
    refine Prod.ext ?_ ?_
    · dsimp only
      rw [if_neg (by omega)]
    · unfold tk_cell tk_fv
      dsimp only
      simp only [h2, h3, fun k => h1 (j + 1) k (by omega)]
  · rw [List.map_cons, List.map_nil, he]
    simp
section
variable {sc : Option (Nat × (Nat → Int32))} {M : tk_Md} {pc nx : Nat}
theorem tk_grown {l : Launch} {D : va_G} {cy : Nat → ClassId} {q : tk_Po} {L : List (Option Value)} {r : List Value} {kc ks : Nat} {σ : Nat → Nat → Int32} {ρ : Nat → Nat → Option Nat} {τ : Nat → Nat → Int64} {n a dz : Nat} {e9 : va_E}
    {p : Program} {e : Env} {s : State} {m : MethodId} {args : Array Value} {below : List Frame} {meth : Method} {cd : Code} {locs : List Loc} {ad ad0 : Nat → Nat} {n0 : Nat} {A : Nat → Prop} {ls : Array Slot} {H1 : Heap}
    (hC : tk_C D cy M p s m args meth cd) (hρ : ∀ p k r, ρ p k = some r → r ≤ n) (hA : ∀ x, s.heap.size ≤ x → A x) (hL : tk_L ad L ls M.2.2.1)
    (hN : (∀ i, i ≤ n0 → ad i = ad0 i) ∧ n0 ≤ n ∧ (kc = 0 → ad = ad0) ∧ kc ≤ M.2.2.2.2.cells ∧ ks ≤ M.2.2.2.2.slots)
    (hX : ∀ Ls xs, sc = some (Ls, xs) → va_X (ad 0) Ls xs s s.heap ∧ ad 0 < s.heap.size ∧ ¬ A (ad 0))
    (hf : tk_fr n L r = true) (hc : kc + 1 ≤ M.2.2.2.2.cells) (hs : ks + dz ≤ M.2.2.2.2.slots)
    (he : tk_cell cy (fun i => if i = n + 1 then a else ad i) (tk_z σ (n + 1) 0, tk_z ρ (n + 1) none, tk_z τ (n + 1) 0, n + 1) (n + 1) = e9)
    (hP : va_P D vwCl (tk_ws cy ad (σ, ρ, τ, n) ++ [(a, e9)]) H1) (hD : va_D A (tk_ws cy ad (σ, ρ, τ, n) ++ [(a, e9)])) (hS : va_S A s.heap H1 locs)
    (hJ : tk_J l D cy sc M (nx, L, .ref (n + 1) :: r, (tk_z σ (n + 1) 0, tk_z ρ (n + 1) none, tk_z τ (n + 1) 0, n + 1), kc + 1, ks + dz) q) :
    W p l e M.2.2.2.2 s m args below meth cd H1 locs (kc + 1) (ks + dz) (MQ below (tk_Q D cy M.2.2.2.2 ad0 n0 A q) args s M.2.2.2.2.cells M.2.2.2.2.slots A) (F0 m nx ls (.ref a :: r.map (tk_v ad))) := by
  have had : ∀ i, i ≤ n → (fun i => if i = n + 1 then a else ad i) i = ad i := fun i hi => if_neg (by omega)
  rw [tk_grow hρ he] at hP hD
  simp only [tk_fr, Bool.and_eq_true] at hf
  have hW := hJ p e s m args below meth cd H1 locs (fun i => if i = n + 1 then a else ad i) ad0 n0 A ls hC ⟨hP, hD, fun x k r hr => ?_⟩ hS hA (tk_L_fr hL hf.2 had) ⟨fun i hi => (had i (Nat.le_trans hi hN.2.1)).trans (hN.1 i hi), Nat.le_trans hN.2.1 (Nat.le_succ n), fun h => absurd h (Nat.succ_ne_zero kc), hc, hs⟩ (by rw [show (if 0 = n + 1 then a else ad 0) = ad 0 from had 0 (Nat.zero_le _)]; exact hX)
  · have e1 : (Value.ref (n + 1) :: r).map (tk_v (fun i => if i = n + 1 then a else ad i)) = .ref a :: r.map (tk_v ad) := by
      rw [List.map_cons, tk_vs_fr hf.1 had]
      congr 1
      simp [tk_v]
    rw [← e1]
    exact hW
  · have hr : tk_z ρ (n + 1) none x k = some r := hr
    unfold tk_z at hr
    split at hr
    · cases hr
    · exact Nat.le_succ_of_le (hρ x k r hr)
theorem so_new {t idx mc ms : Nat} {C : String} {T : u_T} {N : Nat} (hd : decode M.2.1 pc = .ok (.new idx, 3)) (ht : t < 8) (hc : vwCl[t]? = some (C, T, N)) (hnf : tk_nf t = N) (hin : ∀ w ∈ u_ws C T N, w ∈ tk_G) (ty : Nat → FieldType) (hty : ∀ k, k < N → parseFieldDescriptor (T k).2.2.1 = some (ty k))
    (hcl : Cond.classLink M.1.cls idx C ∈ tk_G) (hinst : Cond.instantiable C N ∈ tk_G) (hini : Cond.initialized C ∈ tk_G) (hdef : ∀ j, j < N → defaultValue (ty j) = tk_d0 (tk_ft t j))
    (hmc : M.2.2.2.2.cells = mc) (hms : M.2.2.2.2.slots = ms) (hn : pc + 3 = nx) : tk_So sc M pc (tk_new t nx mc ms) := by
  subst hn
  subst hmc
  subst hms
  subst hnf
  intro l D cy L st μ kc ks K q hK ha p e s m args below meth cd H locs ad ad0 n0 A ls hC hR hS hA hL hN hX
  obtain ⟨σ, ρ, τ, n⟩ := μ
  unfold tk_new at ha
  dsimp only at ha
  obtain ⟨hok, ha⟩ := tk_if.mp ha
  simp only [Bool.and_eq_true, Nat.ble_eq, Nat.beq_eq_true_eq] at hok
  obtain ⟨hkd, hfr, hroom⟩ := hok
  have hkd := Nat.eq_of_beq_eq_true hkd
  have hts := hC.2.2.2.2.2.1
  refine va_new (fs := (List.range (tk_nf t)).map (fun k => tk_d0 (tk_ft t k))) hC.1 hC.2.1 hts hin ty hty hC.2.2.2.2.1 (hts _ hcl) (hts _ hinst) (hts _ hini) hC.2.2.2.2.2.2.2.2.1 hR.1 hR.2.1 hS hA hc ?_ hroom.1 hroom.2 hd (fun a H1 hP hD hS1 => ?_)
  · intro j hj
    rw [hdef j hj]
    unfold vp_V
    rw [List.getD_eq_getElem?_getD, List.getElem?_map, List.getElem?_range hj]
    rfl
  · refine tk_grown hC hR.2.2 hA hL hN hX hfr hroom.1 hroom.2 ?_ hP hD hS1 (hK _ ha)
    rw [tk_cell_obj hkd ht]
    refine congrArg (fun z => Sum.inr (t, z)) (List.map_congr_left fun k _ => ?_)
    unfold tk_fv tk_z
    simp only [if_true]
    generalize tk_ft t k = c
    match c with
    | 0 => rfl
    | 1 => rfl
    | _ + 2 => rfl
theorem so_nwI {mc ms : Nat} {aty : ArrayType} (hd : decode M.2.1 pc = .ok (.newarray aty, 2)) (hat : newarray.typeOf aty = .int) (harr : Cond.arrayClass .int ∈ tk_G) (hmc : M.2.2.2.2.cells = mc) (hms : M.2.2.2.2.slots = ms) (hn : pc + 2 = nx) : tk_So sc M pc (tk_nwa 9 nx mc ms) := by
  subst hn
  subst hmc
  subst hms
  intro l D cy L st μ kc ks K q hK ha p e s m args below meth cd H locs ad ad0 n0 A ls hC hR hS hA hL hN hX
  unfold tk_nwa at ha
  split at ha
  · rename_i z r σ ρ τ n
    obtain ⟨hok, ha⟩ := tk_if.mp ha
    simp only [Bool.and_eq_true, Nat.ble_eq, Nat.beq_eq_true_eq, decide_eq_true_eq] at hok
    obtain ⟨hkd, hz, hz0, hz1, hfr, hroom⟩ := hok
    have hkd := Nat.eq_of_beq_eq_true hkd
    have hz := Nat.eq_of_beq_eq_true hz
    have hts := hC.2.2.2.2.2.1
    have hK0 := hC.2.2.2.2.2.2.2.2.1
    refine va_newa (a0 := (z.toNatClampNeg, .inl (fun _ => 0))) hC.1 hC.2.1 (by rw [hat]; exact hts _ harr) hat hK0 hR.1 hR.2.1 hS hA (fun cA => vp_cell_i ..) hz0 rfl (by simp only [componentBytes]; omega) hroom.1 hroom.2 hd (fun a cA H1 hK1 hP hD hS1 => ?_)
    have hcA : cA = cy 9 := by
      have h1 := (hK1.2 5 (cA, .int) rfl).2
      have h2 := (hK0.2 1 (cy 9, .int) rfl).2
      exact Option.some.inj (h1.symm.trans h2)
    subst hcA
    refine tk_grown hC hR.2.2 hA hL hN hX hfr hroom.1 hroom.2 ?_ hP hD hS1 (hK _ ha)
    rw [tk_cell_arr hkd (by decide) (by decide), hz]
    refine congrArg (fun f => Sum.inl (cy 9, z.toNatClampNeg, Sum.inl f)) (funext fun k => ?_)
    exact if_pos rfl
  · exact ha.elim
theorem so_nwC {mc ms : Nat} {aty : ArrayType} (hd : decode M.2.1 pc = .ok (.newarray aty, 2)) (hat : newarray.typeOf aty = .char) (harr : Cond.arrayClass .char ∈ tk_G) (hmc : M.2.2.2.2.cells = mc) (hms : M.2.2.2.2.slots = ms) (hn : pc + 2 = nx) : tk_So sc M pc (tk_nwa 8 nx mc ms) := by
  subst hn
  subst hmc
  subst hms
  intro l D cy L st μ kc ks K q hK ha p e s m args below meth cd H locs ad ad0 n0 A ls hC hR hS hA hL hN hX
  unfold tk_nwa at ha
  split at ha
  · rename_i z r σ ρ τ n
    obtain ⟨hok, ha⟩ := tk_if.mp ha
    simp only [Bool.and_eq_true, Nat.ble_eq, Nat.beq_eq_true_eq, decide_eq_true_eq] at hok
    obtain ⟨hkd, hz, hz0, hz1, hfr, hroom⟩ := hok
    have hkd := Nat.eq_of_beq_eq_true hkd
    have hz := Nat.eq_of_beq_eq_true hz
    have hts := hC.2.2.2.2.2.1
    have hK0 := hC.2.2.2.2.2.2.2.2.1
    refine va_newa (a0 := (z.toNatClampNeg, .inl (fun _ => 0))) hC.1 hC.2.1 (by rw [hat]; exact hts _ harr) hat hK0 hR.1 hR.2.1 hS hA (fun cA => vp_cell_i ..) hz0 rfl (by simp only [componentBytes]; omega) hroom.1 hroom.2 hd (fun a cA H1 hK1 hP hD hS1 => ?_)
    have hcA : cA = cy 8 := by
      have h1 := (hK1.2 5 (cA, .char) rfl).2
      have h2 := (hK0.2 0 (cy 8, .char) rfl).2
      exact Option.some.inj (h1.symm.trans h2)
    subst hcA
    refine tk_grown hC hR.2.2 hA hL hN hX hfr hroom.1 hroom.2 ?_ hP hD hS1 (hK _ ha)
    rw [tk_cell_arr hkd (by decide) (by decide), hz]
    refine congrArg (fun f => Sum.inl (cy 8, z.toNatClampNeg, Sum.inl f)) (funext fun k => ?_)
    exact if_pos rfl
  · exact ha.elim
theorem so_nwZ {mc ms : Nat} {aty : ArrayType} (hd : decode M.2.1 pc = .ok (.newarray aty, 2)) (hat : newarray.typeOf aty = .boolean) (harr : Cond.arrayClass .boolean ∈ tk_G) (hmc : M.2.2.2.2.cells = mc) (hms : M.2.2.2.2.slots = ms) (hn : pc + 2 = nx) : tk_So sc M pc (tk_nwa 10 nx mc ms) := by
  subst hn
  subst hmc
  subst hms
  intro l D cy L st μ kc ks K q hK ha p e s m args below meth cd H locs ad ad0 n0 A ls hC hR hS hA hL hN hX
  unfold tk_nwa at ha
  split at ha
  · rename_i z r σ ρ τ n
    obtain ⟨hok, ha⟩ := tk_if.mp ha
    simp only [Bool.and_eq_true, Nat.ble_eq, Nat.beq_eq_true_eq, decide_eq_true_eq] at hok
    obtain ⟨hkd, hz, hz0, hz1, hfr, hroom⟩ := hok
    have hkd := Nat.eq_of_beq_eq_true hkd
    have hz := Nat.eq_of_beq_eq_true hz
    have hts := hC.2.2.2.2.2.1
    have hK0 := hC.2.2.2.2.2.2.2.2.1
    refine va_newa (a0 := (z.toNatClampNeg, .inl (fun _ => 0))) hC.1 hC.2.1 (by rw [hat]; exact hts _ harr) hat hK0 hR.1 hR.2.1 hS hA (fun cA => vp_cell_i ..) hz0 rfl (by simp only [componentBytes]; omega) hroom.1 hroom.2 hd (fun a cA H1 hK1 hP hD hS1 => ?_)
    have hcA : cA = cy 10 := by
      have h1 := (hK1.2 5 (cA, .boolean) rfl).2
      have h2 := (hK0.2 2 (cy 10, .boolean) rfl).2
      exact Option.some.inj (h1.symm.trans h2)
    subst hcA
    refine tk_grown hC hR.2.2 hA hL hN hX hfr hroom.1 hroom.2 ?_ hP hD hS1 (hK _ ha)
    rw [tk_cell_arr hkd (by decide) (by decide), hz]
    refine congrArg (fun f => Sum.inl (cy 10, z.toNatClampNeg, Sum.inl f)) (funext fun k => ?_)
    exact if_pos rfl
  · exact ha.elim
theorem so_nwT {idx mc ms : Nat} (hd : decode M.2.1 pc = .ok (.anewarray idx, 3)) (hcl : Cond.classLink M.1.cls idx RX4 ∈ tk_G) (hmc : M.2.2.2.2.cells = mc) (hms : M.2.2.2.2.slots = ms) (hn : pc + 3 = nx) : tk_So sc M pc (tk_nwa 11 nx mc ms) := by
  subst hn
  subst hmc
  subst hms
  intro l D cy L st μ kc ks K q hK ha p e s m args below meth cd H locs ad ad0 n0 A ls hC hR hS hA hL hN hX
  unfold tk_nwa at ha
  split at ha
  · rename_i z r σ ρ τ n
    obtain ⟨hok, ha⟩ := tk_if.mp ha
    simp only [Bool.and_eq_true, Nat.ble_eq, Nat.beq_eq_true_eq, decide_eq_true_eq] at hok
    obtain ⟨hkd, hz, hz0, hz1, hfr, hroom⟩ := hok
    have hkd := Nat.eq_of_beq_eq_true hkd
    have hz := Nat.eq_of_beq_eq_true hz
    have hts := hC.2.2.2.2.2.1
    have hK0 := hC.2.2.2.2.2.2.2.2.1
    refine va_newq hC.1 hC.2.1 hC.2.2.2.2.1 (hts _ hcl) hC.2.2.2.2.2.2.2.2.2.2.1 hK0 hR.1 hR.2.1 hS hA hz0 rfl (by omega) hroom.1 hroom.2 hd (fun a cA H1 hK1 hP hD hS1 => ?_)
    have hcA : cA = cy 11 := by
      obtain ⟨_, _, _, _, _, h1⟩ := (hK1.2 5 (cA, .object RX4) rfl).2
      obtain ⟨_, _, _, _, _, h2⟩ := (hK0.2 3 (cy 11, .object RX4) rfl).2
      exact Option.some.inj (h1.symm.trans h2)
    subst hcA
    refine tk_grown hC hR.2.2 hA hL hN hX hfr hroom.1 hroom.2 ?_ hP hD hS1 (hK _ ha)
    rw [tk_cell_arq hkd (by decide), hz]
    refine congrArg (fun f => Sum.inl (cy 11, z.toNatClampNeg, Sum.inr (Sum.inr (Sum.inr (Sum.inr f))))) (funext fun k => ?_)
    simp [tk_z]
  · exact ha.elim
end
/-- a contract out of a walk from the entry -/
theorem tk_bod {M : tk_Md} {as : List Value} {μ : tk_Me} {P : tk_Po} (hc : as.all (fun v => v.category == 1) = true) (hl : as.length ≤ M.2.2.1)
    (h : ∀ l D cy, tk_J l D cy none M (0, as.map some ++ List.replicate (M.2.2.1 - as.length) none, [], μ, 0, 0) P) (l : Launch) (D : va_G) (cy : Nat → ClassId) (ad : Nat → Nat) (A : Nat → Prop) :
    ∀ p e s m args below meth c s₁, BodyLoose p l M.1 (headSpec (tk_wsM M) M.2.2.2.2) M.2.1 M.2.2.1 M.2.2.2.1 e s m args below meth c s₁ → c.maxLocals = M.2.2.1 →
      (args = (as.map (tk_v ad)).toArray ∧ (∀ x, s.heap.size ≤ x → A x) ∧ va_K D vwCl (tk_tys cy) s ∧ tk_N s ∧ tk_R D cy A ad μ s.heap) →
      W p l e (headSpec (tk_wsM M) M.2.2.2.2).room s m args below meth c s.heap [] 0 0 (MQ below (tk_Q D cy M.2.2.2.2 ad μ.2.2.2 A P) args s M.2.2.2.2.cells M.2.2.2.2.slots A) (entryFrame m args M.2.2.1) := by
  intro p e s m args below meth c s₁ B hml hv
  obtain ⟨rfl, hA, hK, hN, hR⟩ := hv
  have hts0 := atoms_spec (ws := tk_wsM M) B.pre
  have hts : ∀ w ∈ tk_G, w.before (as.map (tk_v ad)).toArray s = true := fun w hw => hts0 w (List.mem_cons_of_mem _ hw)
  have hcat : ∀ v ∈ as, v.category = 1 := fun v hv => by
    have := List.all_eq_true.mp hc v hv
    simpa using this
  have hargs : ∀ (vs : List Value) (i : Nat), (∀ v ∈ vs, v.category = 1) → lv_args i (vs.map (tk_v ad)) = (List.range vs.length).filterMap (fun j => (vs[j]?).map (fun v => (i + j, tk_v ad v))) ∧ (lg_sl (vs.map (tk_v ad))).length = vs.length := by
    intro vs
    induction vs with
    | nil => intro i _; exact ⟨rfl, rfl⟩
    | cons v vs ih =>
      intro i hv
      have h1 : v.category = 1 := hv v List.mem_cons_self
      obtain ⟨g1, g2⟩ := ih (i + 1) (fun w hw => hv w (List.mem_cons_of_mem _ hw))
      have h2 : (tk_v ad v).category = 1 := by rw [tk_v_cat]; exact h1
      refine ⟨?_, ?_⟩
      · rw [List.map_cons]
        unfold lv_args
        rw [if_neg (by rw [h2]; decide), g1, List.length_cons, List.range_succ_eq_map, List.filterMap_cons]
        simp only [List.getElem?_cons_zero, Option.map_some, Nat.add_zero, List.filterMap_map]
        congr 1
        congr 1
        funext j
        simp only [Function.comp, Nat.succ_eq_add_one, List.getElem?_cons_succ]
        rw [show i + 1 + j = i + (j + 1) by omega]
      · unfold lg_sl at g2 ⊢
        rw [List.map_cons, List.flatMap_cons, List.length_append, if_neg (by rw [h2]; decide), g2, List.length_cons, List.length_cons, List.length_nil]
        omega
  have hlen : (lg_sl (as.map (tk_v ad))).length ≤ M.2.2.1 := by rw [(hargs as 0 hcat).2]; exact hl
  have hl0 := lv_entry (as.map (tk_v ad)) (n := M.2.2.1) hlen
  rw [lg_entry_eq]
  generalize (lg_sl (as.map (tk_v ad)) ++ List.replicate (M.2.2.1 - (lg_sl (as.map (tk_v ad))).length) Slot.unset).toArray = ls at hl0 ⊢
  refine h l D cy p e s m (as.map (tk_v ad)).toArray below meth c s.heap [] ad ad μ.2.2.2 A ls ⟨B.exec, B.bytes, B.returns, hml, findClass_of_methodNamed B.named, hts, B.notSynchronized, (name_of_methodNamed B.named B.method).1, hK, hN⟩ hR va_S.rf hA ?_ ⟨fun _ _ => rfl, Nat.le_refl _, fun _ => rfl, Nat.zero_le _, Nat.zero_le _⟩ (fun _ _ h => by cases h)
  refine ⟨⟨hl0.1, hl0.2.1, fun q hq => ?_⟩, ?_, fun i v hv => ?_⟩
  · obtain ⟨j, w⟩ := q
    obtain ⟨v, hv, rfl⟩ := tk_lv_mem.mp hq
    have hj : (as.map some ++ List.replicate (M.2.2.1 - as.length) none)[j]? = some (some v) := hv
    refine hl0.2.2 _ ?_
    rw [(hargs as 0 hcat).1]
    by_cases hjl : j < as.length
    · rw [List.getElem?_append_left (by rw [List.length_map]; exact hjl), List.getElem?_map] at hj
      cases hx : as[j]? with
      | none => rw [hx] at hj; cases hj
      | some x =>
        rw [hx] at hj
        cases hj
        refine List.mem_filterMap.mpr ⟨j, List.mem_range.mpr hjl, ?_⟩
        rw [hx]
        simp
    · rw [List.getElem?_append_right (by rw [List.length_map]; omega)] at hj
      have := List.eq_of_mem_replicate (List.mem_of_getElem? hj)
      cases this
  · show (as.map some ++ List.replicate (M.2.2.1 - as.length) none).length = _
    rw [List.length_append, List.length_map, List.length_replicate]
    omega
  · have hj : (as.map some ++ List.replicate (M.2.2.1 - as.length) none)[i]? = some (some v) := hv
    have hm := List.mem_of_getElem? hj
    rcases List.mem_append.mp hm with h | h
    · obtain ⟨x, hx, hxv⟩ := List.mem_map.mp h
      cases hxv
      exact hcat _ hx
    · have := List.eq_of_mem_replicate h
      cases this
theorem tk_ct {M : tk_Md} {as : List Value} {μ : tk_Me} {P : tk_Po} (hy : plainName M.1.cls = true) (hc : as.all (fun v => v.category == 1) = true) (hl : as.length ≤ M.2.2.1)
    (h : ∀ l D cy, tk_J l D cy none M (0, as.map some ++ List.replicate (M.2.2.1 - as.length) none, [], μ, 0, 0) P) : tk_Ct M as μ P := by
  intro l D cy ad A
  exact Met.ofW (cc := M.2.1) (maxL := M.2.2.1) (ret := M.2.2.2.1) hy rfl (tk_bod hc hl h l D cy ad A)
theorem tk_ctF {M : tk_Md} {as : List Value} {μ : tk_Me} {P : tk_Po} (hy : plainFor M.1 = true) (hc : as.all (fun v => v.category == 1) = true) (hl : as.length ≤ M.2.2.1)
    (h : ∀ l D cy, tk_J l D cy none M (0, as.map some ++ List.replicate (M.2.2.1 - as.length) none, [], μ, 0, 0) P) : tk_Ct M as μ P := by
  intro l D cy ad A
  exact va_MetF (cc := M.2.1) (maxL := M.2.2.1) (ret := M.2.2.2.1) hy rfl (tk_bod hc hl h l D cy ad A)
