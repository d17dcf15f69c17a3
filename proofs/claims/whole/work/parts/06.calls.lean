/-! calls -/
def tk_pop : Nat → List Value → List Value → (List Value → List Value → Prop) → Prop
  | 0, st, acc, k => k acc st
  | n + 1, v :: st, acc, k => tk_pop n st (v :: acc) k
  | _ + 1, [], _, _ => False
theorem tk_pop.mp {n : Nat} {st acc : List Value} {k : List Value → List Value → Prop} (h : tk_pop n st acc k) : ∃ a r, st = a.reverse ++ r ∧ a.length = n ∧ k (a ++ acc) r := by
  induction n generalizing st acc with
  | zero => exact ⟨[], st, rfl, rfl, h⟩
  | succ n ih =>
    cases st with
    | nil => exact h.elim
    | cons v st =>
      obtain ⟨a, r, h1, h2, h3⟩ := ih h
      refine ⟨a ++ [v], r, ?_, by simp [h2], ?_⟩
      · rw [h1, List.reverse_append]
        rfl
      · rw [List.append_assoc]
        exact h3
def tk_ps : Option Value → List Value → List Value
  | some v, r => v :: r
  | none, r => r
def tk_cat (r : List Value) : Nat := (r.map fun v => v.category).sum
def tk_vle (n : Nat) : Value → Bool
  | .ref p => Nat.ble p n
  | _ => true
def tk_fr (n : Nat) (L : List (Option Value)) (st : List Value) : Bool := st.all (tk_vle n) && L.all (fun o => match o with
  | some v => tk_vle n v
  | none => true)
def tk_cv (ci : Nat) (M' : tk_Md) (n nx : Nat) : tk_Ac := fun L st μ kc ks K _ => tk_pop (n + 1) st [] (fun as r => match as with
  | .ref b :: _ => tk_if (tk_ok b ci μ.2.2.2) (tk_if (Nat.ble (tk_cat r) 8) (∃ P, tk_Ct M' as μ P ∧ ∀ v μ', P v μ' → K (nx, L, tk_ps v r, μ', kc, ks)))
  | _ => False)
def tk_cs (M' : tk_Md) (n nx : Nat) : tk_Ac := fun L st μ kc ks K _ => tk_pop n st [] (fun as r => tk_if (Nat.ble (tk_cat r) 8) (∃ P, tk_Ct M' as μ P ∧ ∀ v μ', P v μ' → K (nx, L, tk_ps v r, μ', kc, ks)))
def tk_ci (M' : tk_Md) (n nx mc ms : Nat) : tk_Ac := fun L st μ kc ks K _ => tk_pop (n + 1) st [] (fun as r => match as with
  | .ref _ :: _ => tk_if (tk_fr μ.2.2.2 L r && (Nat.ble (kc + M'.2.2.2.2.cells) mc && Nat.ble (ks + M'.2.2.2.2.slots) ms)) (tk_if (Nat.ble (tk_cat r) 8) (∃ P, tk_Ct M' as μ P ∧ ∀ v μ', P v μ' → K (nx, L, tk_ps v r, μ', kc + M'.2.2.2.2.cells, ks + M'.2.2.2.2.slots)))
  | _ => False)
def tk_oi (nx : Nat) : tk_Ac := fun L st μ kc ks K _ => match st with
  | [.ref _] => K (nx, L, [], μ, kc, ks)
  | _ => False
theorem tk_cc {M' : tk_Md} {as : List Value} {μ : tk_Me} {P : tk_Po} {K : Option Value → tk_Me → Prop} (h : tk_Ct M' as μ P) (k : ∀ v μ', P v μ' → K v μ') : ∃ P, tk_Ct M' as μ P ∧ ∀ v μ', P v μ' → K v μ' := ⟨P, h, k⟩
theorem tk_cat_v (ad : Nat → Nat) (r : List Value) : ((r.map (tk_v ad)).map fun v => v.category).sum = tk_cat r := by
  unfold tk_cat
  rw [List.map_map]
  congr 1
  apply List.map_congr_left
  intro v _
  exact tk_v_cat ad v
theorem tk_vs_fr {n : Nat} {r : List Value} {ad ad' : Nat → Nat} (h : r.all (tk_vle n) = true) (ha : ∀ i, i ≤ n → ad' i = ad i) : r.map (tk_v ad') = r.map (tk_v ad) := by
  apply List.map_congr_left
  intro v hv
  have h1 := List.all_eq_true.mp h v hv
  cases v <;> first | rfl | (simp only [tk_vle, Nat.ble_eq] at h1; simp only [tk_v, ha _ h1])
theorem tk_L_fr {n : Nat} {L : List (Option Value)} {ls : Array Slot} {nL : Nat} {ad ad' : Nat → Nat} (h : tk_L ad L ls nL) (hf : L.all (fun o => match o with
  | some v => tk_vle n v
  | none => true) = true) (ha : ∀ i, i ≤ n → ad' i = ad i) : tk_L ad' L ls nL := by
  refine ⟨⟨h.1.1, h.1.2.1, fun q hq => ?_⟩, h.2.1, h.2.2⟩
  obtain ⟨j, w⟩ := q
  obtain ⟨x, hx, rfl⟩ := tk_lv_mem.mp hq
  have h1 := List.all_eq_true.mp hf (some x) (List.mem_of_getElem? hx)
  have h2 : tk_v ad' x = tk_v ad x := by
    cases x <;> first | rfl | (simp only [tk_vle, Nat.ble_eq] at h1; simp only [tk_v, ha _ h1])
  rw [h2]
  exact h.1.2.2 _ (tk_lv_mem.mpr ⟨x, hx, rfl⟩)
theorem tk_AOA_moved {s U : State} (hvm : s.vm.Alike U.vm) (h : (Cond.arrayOver (.array .int)).before #[] s = true) : (Cond.arrayOver (.array .int)).before #[] U = true := Jvm.Stand.arrayOver_alikeB hvm h
theorem tk_N.warm {s U : State} (hW : s.WarmedH U.vm) (h : tk_N s) : tk_N U := ⟨fun a i x hh hm => va_Nw.warmM hW (h.1 a i x hh hm), h.2.1.moved hW.alike, tk_AOA_moved hW.alike h.2.2⟩
theorem tk_N.same {s U : State} (hv : s.vm = U.vm) (h : tk_N s) : tk_N U := ⟨fun a i x hh hm => va_Nw.same rfl hv (h.1 a i x hh hm), h.2.1.moved (by rw [hv]; exact Vm.Alike.refl U.vm), tk_AOA_moved (by rw [hv]; exact Vm.Alike.refl U.vm) h.2.2⟩
/-- behind a call -/
theorem tk_aft {l : Launch} {D : va_G} {cy : Nat → ClassId} {sc : Option (Nat × (Nat → Int32))} {M M' : tk_Md} {q : tk_Po} {P : tk_Po} {pc : Nat} {L : List (Option Value)} {rr : List Value} {kc ks : Nat} {μ : tk_Me}
    {p : Program} {e : Env} {s : State} {m : MethodId} {args : Array Value} {below : List Frame} {meth : Method} {cd : Code} {H : Heap} {locs : List Loc} {ad ad0 : Nat → Nat} {n0 : Nat} {A : Nat → Prop} {ls : Array Slot} {as : Array Value} {st0 : List Value}
    (hC : tk_C D cy M p s m args meth cd) (hS : va_S A s.heap H locs) (hA : ∀ x, s.heap.size ≤ x → A x) (hL : tk_L ad L ls M.2.2.1)
    (hN : (∀ i, i ≤ n0 → ad i = ad0 i) ∧ n0 ≤ μ.2.2.2 ∧ (kc = 0 → ad = ad0) ∧ kc ≤ M.2.2.2.2.cells ∧ ks ≤ M.2.2.2.2.slots)
    (hX : ∀ Ls xs, sc = some (Ls, xs) → va_X (ad 0) Ls xs s s.heap ∧ ad 0 < s.heap.size ∧ ¬ A (ad 0))
    (hroom : kc + M'.2.2.2.2.cells ≤ M.2.2.2.2.cells ∧ ks + M'.2.2.2.2.slots ≤ M.2.2.2.2.slots)
    (hfr : M'.2.2.2.2.cells = 0 ∨ tk_fr μ.2.2.2 L rr = true)
    (hr : va_Run p l e M.2.2.2.2 s m args below meth cd H locs kc ks M'.2.2.2.2.cells M'.2.2.2.2.slots (F0 m pc ls st0) (rr.map (tk_v ad)) (tk_Q D cy M'.2.2.2.2 ad μ.2.2.2 A P as) A)
    (hk : ∀ v μ', P v μ' → tk_J l D cy sc M (pc + 3, L, tk_ps v rr, μ', kc + M'.2.2.2.2.cells, ks + M'.2.2.2.2.slots) q) :
    W p l e M.2.2.2.2 s m args below meth cd H locs kc ks (MQ below (tk_Q D cy M.2.2.2.2 ad0 n0 A q) args s M.2.2.2.2.cells M.2.2.2.2.slots A) (F0 m pc ls st0) := by
  intro T hT X
  obtain ⟨v, st₀, t, T', L9, h0, X', hL9, e1, e2, ⟨⟨r, μ', ad', hv, hp, had, hn, hz, hR'⟩, hF⟩, stp⟩ := hr T hT X
  cases hv
  unfold va_F at hF
  rw [h0] at hF
  have hS' : va_S A s.heap T'.heap (locs ++ L9) := ⟨Nat.le_trans hS.1 (by rw [e1]; exact hF.1), fun x h1 h2 => by rw [e1, hF.2 x (Nat.lt_of_lt_of_le h1 hS.1) h2]; exact hS.2.1 x h1 h2, fun x hx => by
    rcases List.mem_append.mp hx with h | h
    · exact hS.2.2 x h
    · exact hL9 x h⟩
  have hsame : rr.map (tk_v ad') = rr.map (tk_v ad) ∧ tk_L ad' L ls M.2.2.1 := by
    rcases hfr with h | h
    · rw [hz h]
      exact ⟨rfl, hL⟩
    · simp only [tk_fr, Bool.and_eq_true] at h
      exact ⟨tk_vs_fr h.1 had, tk_L_fr hL h.2 had⟩
  have hN' : (∀ i, i ≤ n0 → ad' i = ad0 i) ∧ n0 ≤ μ'.2.2.2 ∧ (kc + M'.2.2.2.2.cells = 0 → ad' = ad0) ∧ kc + M'.2.2.2.2.cells ≤ M.2.2.2.2.cells ∧ ks + M'.2.2.2.2.slots ≤ M.2.2.2.2.slots :=
    ⟨fun i hi => (had i (Nat.le_trans hi hN.2.1)).trans (hN.1 i hi), Nat.le_trans hN.2.1 hn, fun h => (hz (by omega)).trans (hN.2.2.1 (by omega)), hroom.1, hroom.2⟩
  have hX' : ∀ Ls xs, sc = some (Ls, xs) → va_X (ad' 0) Ls xs s s.heap ∧ ad' 0 < s.heap.size ∧ ¬ A (ad' 0) := by
    rw [had 0 (Nat.zero_le _)]
    exact hX
  have hW := hk r μ' hp p e s m args below meth cd T'.heap (locs ++ L9) ad' ad0 n0 A ls hC (by rw [e1]; exact hR') hS' hA hsame.2 hN' hX'
  obtain ⟨t2, a1, b1⟩ := hW T' rfl X'
  refine ⟨t2, stp t2 ?_, b1⟩
  have e3 : (r.map (tk_v ad')).toList ++ rr.map (tk_v ad) = (tk_ps r rr).map (tk_v ad') := by
    rw [← hsame.1]
    cases r <;> rfl
  rw [e3]
  exact a1
/-- what a call asks of the tables -/
def tk_MB (M' : tk_Md) (n : Nat) : Prop := Cond.code M'.1 M'.2.1 M'.2.2.1 M'.2.2.2.1 ∈ tk_G ∧ Cond.initialized M'.1.cls ∈ tk_G ∧ M'.1.cls ≠ "java/lang/invoke/MethodHandle" ∧ M'.1.cls ≠ "java/lang/invoke/VarHandle" ∧ (parseMethodDescriptor M'.1.desc).map (fun d => d.parameters.length) = some n
def tk_MV (M' : tk_Md) (n : Nat) : Prop := tk_MB M' n ∧ Cond.instanceMethod M'.1 ∈ tk_G ∧ Cond.selects M'.1.cls M'.1 M'.1 ∈ tk_G
def tk_MS (M' : tk_Md) (n : Nat) : Prop := tk_MB M' n ∧ Cond.static M'.1 ∈ tk_G
def tk_MI (M' : tk_Md) (n : Nat) : Prop := tk_MB M' n ∧ Cond.instanceMethod M'.1 ∈ tk_G ∧ M'.1.name = "<init>" ∧ M'.2.2.2.1 = none
theorem tk_gin {M' : tk_Md} (h : Cond.code M'.1 M'.2.1 M'.2.2.1 M'.2.2.2.1 ∈ tk_G) : GoodIn tk_G (tk_wsM M') := fun w hw => by
  rcases List.mem_cons.mp hw with rfl | hw
  · exact ⟨h, tk_good h⟩
  · exact ⟨hw, tk_good hw⟩
theorem tk_pre {D : va_G} {cy : Nat → ClassId} {ad : Nat → Nat} {A : Nat → Prop} {as : List Value} {μ : tk_Me} {s : State} {H : Heap} {locs : List Loc} (hK : va_K D vwCl (tk_tys cy) s) (hN : tk_N s) (hR : tk_R D cy A ad μ H) (hS : va_S A s.heap H locs) (hA : ∀ x, s.heap.size ≤ x → A x) :
    PreS s H (fun v U => v = (as.map (tk_v ad)).toArray ∧ (∀ x, U.heap.size ≤ x → A x) ∧ va_K D vwCl (tk_tys cy) U ∧ tk_N U ∧ tk_R D cy A ad μ U.heap) (as.map (tk_v ad)) := by
  refine ⟨fun a U g mk h => ?_, fun U hU hW => ?_⟩
  · obtain ⟨h1, h2, h3, h4, h5⟩ := h
    exact ⟨h1, h2, va_K.moved (u := U) (U := U.calling g mk a) (Vm.Alike.refl U.vm) h3, tk_N.same (s := U) (U := U.calling g mk a) rfl h4, h5⟩
  · exact ⟨rfl, fun x hx => hA x (Nat.le_trans hS.1 (by rw [← hU]; exact hx)), va_K.moved hW.alike hK, hN.warm hW, by rw [hU]; exact hR⟩
section
variable {sc : Option (Nat × (Nat → Int32))} {M M' : tk_Md} {pc nx n : Nat}
theorem so_cv {ci idx : Nat} {T : u_T} {N : Nat} (hd : decode M.2.1 pc = .ok (.invokevirtual idx, 3)) (hM : tk_MV M' n) (hlk : Cond.methodLink M.1.cls idx M'.1 ∈ tk_G) (ht : ci < 8) (hc : vwCl[ci]? = some (M'.1.cls, T, N)) (hz : M'.2.2.2.2.cells = 0 ∧ M'.2.2.2.2.slots = 0)
    (hrm : M'.2.2.2.2.frames + 1 ≤ M.2.2.2.2.frames ∧ 8 + (M'.2.2.1 + 11) + M'.2.2.2.2.locals ≤ M.2.2.2.2.locals) (hn : pc + 3 = nx) : tk_So sc M pc (tk_cv ci M' n nx) := by
  subst hn
  intro l D cy L st μ kc ks K q hK ha p e s m args below meth cd H locs ad ad0 n0 A ls hC hR hS hA hL hN hX
  unfold tk_cv at ha
  obtain ⟨as, r, hst, hlen, ha⟩ := tk_pop.mp ha
  rw [List.append_nil] at ha
  split at ha
  · rename_i b As
    obtain ⟨hok, ha⟩ := tk_if.mp ha
    obtain ⟨hct, ha⟩ := tk_if.mp ha
    obtain ⟨P, hCt, hk⟩ := ha
    have hts := hC.2.2.2.2.2.1
    have cw : CallW M.2.2.2.2 s args M.1.cls M'.1.cls idx M'.1 M'.2.1 M'.2.2.1 M'.2.2.2.1 (tk_wsM M') M'.2.2.2.2 M'.2.2.2.2.cells M'.2.2.2.2.slots n :=
      ⟨callB_of n hts (tk_gin hM.1.1) rfl rfl rfl (hts _ hM.1.2.1) (hts _ hlk) hM.1.2.2 hrm, hts _ hM.2.1, hts _ hM.2.2⟩
    have hp := tk_pre (as := .ref b :: As) hC.2.2.2.2.2.2.2.2.1 hC.2.2.2.2.2.2.2.2.2 hR hS hA
    have hrc := va_recv hC.2.2.2.2.2.2.2.2.1 hR.1 hc (tk_obj hok ht)
    refine tk_aft (as := (Value.ref (ad b) :: As.map (tk_v ad)).toArray) (rr := r) (P := P) hC hS hA hL hN hX (by rw [hz.1, hz.2]; exact ⟨hN.2.2.2.1, hN.2.2.2.2⟩) (Or.inl hz.1) (va_runV (As := As.map (tk_v ad)) (rest := r.map (tk_v ad)) ⟨hC.1, hC.2.1, hC.2.2.2.1, hC.2.2.2.2.1, hts⟩ (hCt l D cy ad A) cw ⟨hp.1, hrc, hp.2⟩ rfl ?_ hL.1.1 ?_ ?_ hd ?_) (fun v μ' hv => ?_)
    · rw [List.length_map]; rw [List.length_cons] at hlen; omega
    · show st.map (tk_v ad) = _
      rw [hst, List.map_append, List.map_reverse, List.map_cons, List.reverse_cons, List.append_assoc]
      rfl
    · refine lv_room ?_
      rw [tk_cat_v]
      exact Nat.le_of_ble_eq_true hct
    · rw [hz.1, hz.2]
      exact ⟨hN.2.2.2.1, hN.2.2.2.2⟩
    · rw [hz.1, hz.2]
      exact hK _ (hk v μ' hv)
  · exact ha.elim
theorem so_cs {idx : Nat} (hd : decode M.2.1 pc = .ok (.invokestatic idx, 3)) (hM : tk_MS M' n) (hlk : Cond.methodLink M.1.cls idx M'.1 ∈ tk_G) (hz : M'.2.2.2.2.cells = 0 ∧ M'.2.2.2.2.slots = 0)
    (hrm : M'.2.2.2.2.frames + 1 ≤ M.2.2.2.2.frames ∧ 8 + (M'.2.2.1 + 11) + M'.2.2.2.2.locals ≤ M.2.2.2.2.locals) (hn : pc + 3 = nx) : tk_So sc M pc (tk_cs M' n nx) := by
  subst hn
  intro l D cy L st μ kc ks K q hK ha p e s m args below meth cd H locs ad ad0 n0 A ls hC hR hS hA hL hN hX
  unfold tk_cs at ha
  obtain ⟨as, r, hst, hlen, ha⟩ := tk_pop.mp ha
  rw [List.append_nil] at ha
  obtain ⟨hct, ha⟩ := tk_if.mp ha
  obtain ⟨P, hCt, hk⟩ := ha
  have hts := hC.2.2.2.2.2.1
  have cw := callB_of (R := M.2.2.2.2) n hts (tk_gin hM.1.1) rfl rfl rfl (hts _ hM.1.2.1) (hts _ hlk) hM.1.2.2 hrm
  have hp := tk_pre (as := as) hC.2.2.2.2.2.2.2.2.1 hC.2.2.2.2.2.2.2.2.2 hR hS hA
  refine tk_aft (as := (as.map (tk_v ad)).toArray) (rr := r) (P := P) hC hS hA hL hN hX (by rw [hz.1, hz.2]; exact ⟨hN.2.2.2.1, hN.2.2.2.2⟩) (Or.inl hz.1) (va_runS (As := as.map (tk_v ad)) (rest := r.map (tk_v ad)) ⟨hC.1, hC.2.1, hC.2.2.2.1, hC.2.2.2.2.1, hts⟩ (hCt l D cy ad A) ⟨cw, hts _ hM.2⟩ hp rfl ?_ hL.1.1 ?_ ?_ hd ?_) (fun v μ' hv => ?_)
  · rw [List.length_map]; exact hlen
  · show st.map (tk_v ad) = _
    rw [hst, List.map_append, List.map_reverse]
  · refine lv_room ?_
    rw [tk_cat_v]
    exact Nat.le_of_ble_eq_true hct
  · rw [hz.1, hz.2]
    exact ⟨hN.2.2.2.1, hN.2.2.2.2⟩
  · rw [hz.1, hz.2]
    exact hK _ (hk v μ' hv)
/-- a static method of a nest mate -/
theorem so_csN {idx : Nat} {host : String} (hd : decode M.2.1 pc = .ok (.invokestatic idx, 3)) (hM : tk_MS M' n) (hlk : Cond.methodLinkNest M.1.cls idx M'.1 host ∈ lw_tbl) (hz : M'.2.2.2.2.cells = 0 ∧ M'.2.2.2.2.slots = 0)
    (hrm : M'.2.2.2.2.frames + 1 ≤ M.2.2.2.2.frames ∧ 8 + (M'.2.2.1 + 11) + M'.2.2.2.2.locals ≤ M.2.2.2.2.locals) (hn : pc + 3 = nx) : tk_So sc M pc (tk_cs M' n nx) := by
  subst hn
  intro l D cy L st μ kc ks K q hK ha p e s m args below meth cd H locs ad ad0 n0 A ls hC hR hS hA hL hN hX
  unfold tk_cs at ha
  obtain ⟨as, r, hst, hlen, ha⟩ := tk_pop.mp ha
  rw [List.append_nil] at ha
  obtain ⟨hct, ha⟩ := tk_if.mp ha
  obtain ⟨P, hCt, hk⟩ := ha
  have hts := hC.2.2.2.2.2.1
  have cw := va_cnB (R := M.2.2.2.2) n hts (tk_gin hM.1.1) rfl rfl rfl (hC.2.2.2.2.2.2.2.2.2.1 _ _ _ _ hlk) (hts _ hM.1.2.1) hM.1.2.2 hrm
  have hp := tk_pre (as := as) hC.2.2.2.2.2.2.2.2.1 hC.2.2.2.2.2.2.2.2.2 hR hS hA
  refine tk_aft (as := (as.map (tk_v ad)).toArray) (rr := r) (P := P) hC hS hA hL hN hX (by rw [hz.1, hz.2]; exact ⟨hN.2.2.2.1, hN.2.2.2.2⟩) (Or.inl hz.1) (va_runSN (As := as.map (tk_v ad)) (rest := r.map (tk_v ad)) ⟨hC.1, hC.2.1, hC.2.2.2.1, hC.2.2.2.2.1, hts⟩ (hCt l D cy ad A) ⟨cw, hts _ hM.2, trivial⟩ hp rfl ?_ hL.1.1 ?_ ?_ hd ?_) (fun v μ' hv => ?_)
  · rw [List.length_map]; exact hlen
  · show st.map (tk_v ad) = _
    rw [hst, List.map_append, List.map_reverse]
  · refine lv_room ?_
    rw [tk_cat_v]
    exact Nat.le_of_ble_eq_true hct
  · rw [hz.1, hz.2]
    exact ⟨hN.2.2.2.1, hN.2.2.2.2⟩
  · rw [hz.1, hz.2]
    exact hK _ (hk v μ' hv)
end
