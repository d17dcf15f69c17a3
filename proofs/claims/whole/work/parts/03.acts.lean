/-! THE ACTS, and that they are sound: what moves no cell -/
def tk_nth : List (Option Value) → Nat → Option Value
  | [], _ => none
  | a :: _, 0 => a
  | _ :: l, n + 1 => tk_nth l n
theorem tk_nth_at {L : List (Option Value)} {i : Nat} {v : Value} (h : tk_nth L i = some v) : L[i]? = some (some v) := by
  induction L generalizing i with
  | nil => cases h
  | cons a l ih =>
    cases i with
    | zero => simp only [tk_nth] at h; subst h; rfl
    | succ i => simp only [List.getElem?_cons_succ]; exact ih h
def tk_set : List (Option Value) → Nat → Value → (List (Option Value) → Prop) → Prop
  | [], _, _, _ => False
  | _ :: l, 0, v, k => k (some v :: l)
  | a :: l, n + 1, v, k => tk_set l n v (fun l' => k (a :: l'))
theorem tk_set_at {L : List (Option Value)} {i : Nat} {v : Value} {k : List (Option Value) → Prop} (h : tk_set L i v k) : i < L.length ∧ k (L.set i (some v)) := by
  induction L generalizing i k with
  | nil => exact h.elim
  | cons a l ih =>
    cases i with
    | zero => exact ⟨by simp, h⟩
    | succ i =>
      obtain ⟨h1, h2⟩ := ih (i := i) (k := fun l' => k (a :: l')) h
      exact ⟨by simp only [List.length_cons]; omega, h2⟩
theorem tk_L_at {ad : Nat → Nat} {L : List (Option Value)} {ls : Array Slot} {nL i : Nat} {v : Value} (h : tk_L ad L ls nL) (hv : tk_nth L i = some v) : ls[i]? = some (.val (tk_v ad v)) :=
  h.1.2.2 (i, tk_v ad v) (tk_lv_mem.mpr ⟨v, tk_nth_at hv, rfl⟩)
theorem tk_L_set {ad : Nat → Nat} {L : List (Option Value)} {ls ls' : Array Slot} {nL i : Nat} {v : Value} (h : tk_L ad L ls nL) (hi : i < L.length) (hc : v.category = 1)
    (h' : lv_has ls' nL ((i, tk_v ad v) :: (tk_lv ad L).filter (fun q => !(q.1 == i) && !(q.1 + 1 == i && q.2.category == 2)))) : tk_L ad (L.set i (some v)) ls' nL := by
  refine ⟨⟨h'.1, h'.2.1, fun q hq => ?_⟩, by rw [List.length_set]; exact h.2.1, fun j w hw => ?_⟩
  · obtain ⟨j, w⟩ := q
    obtain ⟨x, hx, rfl⟩ := tk_lv_mem.mp hq
    by_cases hj : j = i
    · subst hj
      rw [List.getElem?_set_self hi] at hx
      cases hx
      exact h'.2.2 _ List.mem_cons_self
    · rw [List.getElem?_set_ne (Ne.symm hj)] at hx
      refine h'.2.2 _ (List.mem_cons_of_mem _ (List.mem_filter.mpr ⟨tk_lv_mem.mpr ⟨x, hx, rfl⟩, ?_⟩))
      have h1 : (tk_v ad x).category = 1 := by rw [tk_v_cat]; exact h.2.2 j x hx
      simp [hj, h1]
  · by_cases hj : j = i
    · subst hj
      rw [List.getElem?_set_self hi] at hw
      cases hw
      exact hc
    · rw [List.getElem?_set_ne (Ne.symm hj)] at hw
      exact h.2.2 j w hw
def tk_ic (v : Int32) (nx : Nat) : tk_Ac := fun L st μ kc ks K _ => K (nx, L, .int v :: st, μ, kc, ks)
def tk_lc (v : Int64) (nx : Nat) : tk_Ac := fun L st μ kc ks K _ => K (nx, L, .long v :: st, μ, kc, ks)
def tk_il (i nx : Nat) : tk_Ac := fun L st μ kc ks K _ => match tk_nth L i with
  | some (.int x) => K (nx, L, .int x :: st, μ, kc, ks)
  | _ => False
def tk_al (i nx : Nat) : tk_Ac := fun L st μ kc ks K _ => match tk_nth L i with
  | some (.ref x) => K (nx, L, .ref x :: st, μ, kc, ks)
  | _ => False
def tk_sI (i nx : Nat) : tk_Ac := fun L st μ kc ks K _ => match st with
  | .int x :: r => tk_set L i (.int x) (fun L' => K (nx, L', r, μ, kc, ks))
  | _ => False
def tk_sA (i nx : Nat) : tk_Ac := fun L st μ kc ks K _ => match st with
  | .ref x :: r => tk_set L i (.ref x) (fun L' => K (nx, L', r, μ, kc, ks))
  | _ => False
def tk_inc (i : Nat) (d : Int32) (nx : Nat) : tk_Ac := fun L st μ kc ks K _ => match tk_nth L i with
  | some (.int x) => tk_set L i (.int (x + d)) (fun L' => K (nx, L', st, μ, kc, ks))
  | _ => False
def tk_bi (f : Int32 → Int32 → Int32) (nx : Nat) : tk_Ac := fun L st μ kc ks K _ => match st with
  | .int y :: .int x :: r => K (nx, L, .int (f x y) :: r, μ, kc, ks)
  | _ => False
def tk_dv (f : Int32 → Int32 → Int32) (nx : Nat) : tk_Ac := fun L st μ kc ks K _ => match st with
  | .int y :: .int x :: r => ¬ y = 0 ∧ K (nx, L, .int (f x y) :: r, μ, kc, ks)
  | _ => False
def tk_un (f : Int32 → Int32) (nx : Nat) : tk_Ac := fun L st μ kc ks K _ => match st with
  | .int x :: r => K (nx, L, .int (f x) :: r, μ, kc, ks)
  | _ => False
def tk_lad (nx : Nat) : tk_Ac := fun L st μ kc ks K _ => match st with
  | .long y :: .long x :: r => K (nx, L, .long (x + y) :: r, μ, kc, ks)
  | _ => False
def tk_lcm (nx : Nat) : tk_Ac := fun L st μ kc ks K _ => match st with
  | .long y :: .long x :: r => K (nx, L, .int (lg_cmp x y) :: r, μ, kc, ks)
  | _ => False
def tk_dup (nx : Nat) : tk_Ac := fun L st μ kc ks K _ => match st with
  | .int x :: r => K (nx, L, .int x :: .int x :: r, μ, kc, ks)
  | .ref x :: r => K (nx, L, .ref x :: .ref x :: r, μ, kc, ks)
  | _ => False
def tk_du2 (nx : Nat) : tk_Ac := fun L st μ kc ks K _ => match st with
  | .int x :: .ref y :: r => K (nx, L, .int x :: .ref y :: .int x :: .ref y :: r, μ, kc, ks)
  | _ => False
def tk_pp (nx : Nat) : tk_Ac := fun L st μ kc ks K _ => match st with
  | .int _ :: r => K (nx, L, r, μ, kc, ks)
  | _ => False
def tk_br (P : Int32 → Prop) (tg nx : Nat) : tk_Ac := fun L st μ kc ks K _ => match st with
  | .int x :: r => (P x → K (tg, L, r, μ, kc, ks)) ∧ (¬ P x → K (nx, L, r, μ, kc, ks))
  | _ => False
def tk_cm (P : Int32 → Int32 → Prop) (tg nx : Nat) : tk_Ac := fun L st μ kc ks K _ => match st with
  | .int y :: .int x :: r => (P x y → K (tg, L, r, μ, kc, ks)) ∧ (¬ P x y → K (nx, L, r, μ, kc, ks))
  | _ => False
def tk_jmp (tg : Nat) : tk_Ac := fun L st μ kc ks K _ => K (tg, L, st, μ, kc, ks)
/-- a switch: its cases, then what is left -/
def tk_cas : List (Int32 × Nat) → Int32 → Nat → (Nat → Prop) → Prop
  | [], _, d, K => K d
  | (v, t) :: r, x, d, K => (x = v → K t) ∧ (¬ x = v → tk_cas r x d K)
def tk_sw (cs : List (Int32 × Nat)) (d : Nat) : tk_Ac := fun L st μ kc ks K _ => match st with
  | .int x :: r => tk_cas cs x d (fun t => K (t, L, r, μ, kc, ks))
  | _ => False
def tk_rI : tk_Ac := fun _ st μ _ _ _ q => match st with
  | [.int x] => q (some (.int x)) μ
  | _ => False
def tk_rZ : tk_Ac := fun _ st μ _ _ _ q => match st with
  | [.int x] => (x = 0 ∨ x = 1) ∧ q (some (.int x)) μ
  | _ => False
def tk_rL : tk_Ac := fun _ st μ _ _ _ q => match st with
  | [.long x] => q (some (.long x)) μ
  | _ => False
def tk_rA : tk_Ac := fun _ st μ _ _ _ q => match st with
  | [.ref x] => q (some (.ref x)) μ
  | _ => False
def tk_rV : tk_Ac := fun _ st μ _ _ _ q => match st with
  | [] => q none μ
  | _ => False
section
variable {sc : Option (Nat × (Nat → Int32))} {M : tk_Md} {pc nx : Nat}
theorem so_iconst {n : Int} {v : Int32} (hd : decode M.2.1 pc = .ok (.iconst n, 1)) (hv : Int32.ofInt n = v) (hn : pc + 1 = nx) : tk_So sc M pc (tk_ic v nx) := by
  subst hn
  intro l D cy L st μ kc ks K q hK ha p e s m args below meth cd H locs ad ad0 n0 A ls hC hR hS hA hL hN hX
  exact lv_iconst hC.1 hC.2.1 hd hv (hK _ ha p e s m args below meth cd H locs ad ad0 n0 A ls hC hR hS hA hL hN hX)
theorem so_bipush {n : Int} {v : Int32} (hd : decode M.2.1 pc = .ok (.bipush n, 2)) (hv : (Int8.ofInt n).toInt32 = v) (hn : pc + 2 = nx) : tk_So sc M pc (tk_ic v nx) := by
  subst hn
  intro l D cy L st μ kc ks K q hK ha p e s m args below meth cd H locs ad ad0 n0 A ls hC hR hS hA hL hN hX
  exact lv_bipush hC.1 hC.2.1 hd hv (hK _ ha p e s m args below meth cd H locs ad ad0 n0 A ls hC hR hS hA hL hN hX)
theorem so_sipush {n : Int} {v : Int32} (hd : decode M.2.1 pc = .ok (.sipush n, 3)) (hv : (Int16.ofInt n).toInt32 = v) (hn : pc + 3 = nx) : tk_So sc M pc (tk_ic v nx) := by
  subst hn
  intro l D cy L st μ kc ks K q hK ha p e s m args below meth cd H locs ad ad0 n0 A ls hC hR hS hA hL hN hX
  exact lv_sipush hC.1 hC.2.1 hd hv (hK _ ha p e s m args below meth cd H locs ad ad0 n0 A ls hC hR hS hA hL hN hX)
theorem so_ldc {i : Nat} {v : Int32} (hd : decode M.2.1 pc = .ok (.ldc i, 2)) (hw : Cond.constant M.1.cls i v ∈ tk_G) (hn : pc + 2 = nx) : tk_So sc M pc (tk_ic v nx) := by
  subst hn
  intro l D cy L st μ kc ks K q hK ha p e s m args below meth cd H locs ad ad0 n0 A ls hC hR hS hA hL hN hX
  exact lv_ldc hC.1 hC.2.1 hC.2.2.2.2.1 (hC.2.2.2.2.2.1 _ hw) hd (hK _ ha p e s m args below meth cd H locs ad ad0 n0 A ls hC hR hS hA hL hN hX)
theorem so_ldcw {i : Nat} {v : Int32} (hd : decode M.2.1 pc = .ok (.ldc_w i, 3)) (hw : Cond.constant M.1.cls i v ∈ tk_G) (hn : pc + 3 = nx) : tk_So sc M pc (tk_ic v nx) := by
  subst hn
  intro l D cy L st μ kc ks K q hK ha p e s m args below meth cd H locs ad ad0 n0 A ls hC hR hS hA hL hN hX
  exact lv_ldcw hC.1 hC.2.1 hC.2.2.2.2.1 (hC.2.2.2.2.2.1 _ hw) hd (hK _ ha p e s m args below meth cd H locs ad ad0 n0 A ls hC hR hS hA hL hN hX)
theorem so_ldc2 {i : Nat} {v : Int64} (hd : decode M.2.1 pc = .ok (.ldc2_w i, 3)) (hw : Cond.constantLong M.1.cls i v ∈ tk_G) (hn : pc + 3 = nx) : tk_So sc M pc (tk_lc v nx) := by
  subst hn
  intro l D cy L st μ kc ks K q hK ha p e s m args below meth cd H locs ad ad0 n0 A ls hC hR hS hA hL hN hX
  exact lv_ldc2 hC.1 hC.2.1 hC.2.2.2.2.1 (hC.2.2.2.2.2.1 _ hw) hd (hK _ ha p e s m args below meth cd H locs ad ad0 n0 A ls hC hR hS hA hL hN hX)
theorem so_lconst {n : Fin 2} {v : Int64} (hd : decode M.2.1 pc = .ok (.lconst n, 1)) (hv : Int64.ofNat (n : Nat) = v) (hn : pc + 1 = nx) : tk_So sc M pc (tk_lc v nx) := by
  subst hn
  intro l D cy L st μ kc ks K q hK ha p e s m args below meth cd H locs ad ad0 n0 A ls hC hR hS hA hL hN hX
  exact lv_lconst hC.1 hC.2.1 hd hv (hK _ ha p e s m args below meth cd H locs ad ad0 n0 A ls hC hR hS hA hL hN hX)
theorem so_iload_n {k : Fin 4} {i : Nat} (hd : decode M.2.1 pc = .ok (.iload_n k, 1)) (hi : (k : Nat) = i) (hn : pc + 1 = nx) : tk_So sc M pc (tk_il i nx) := by
  subst hn
  intro l D cy L st μ kc ks K q hK ha p e s m args below meth cd H locs ad ad0 n0 A ls hC hR hS hA hL hN hX
  unfold tk_il at ha
  split at ha
  · rename_i x hx
    exact lv_iload_n hC.1 hC.2.1 hd hi (tk_L_at hL hx) (hK _ ha p e s m args below meth cd H locs ad ad0 n0 A ls hC hR hS hA hL hN hX)
  · exact ha.elim
theorem so_iload {i : Nat} (hd : decode M.2.1 pc = .ok (.iload i, 2)) (hn : pc + 2 = nx) : tk_So sc M pc (tk_il i nx) := by
  subst hn
  intro l D cy L st μ kc ks K q hK ha p e s m args below meth cd H locs ad ad0 n0 A ls hC hR hS hA hL hN hX
  unfold tk_il at ha
  split at ha
  · rename_i x hx
    exact lv_iload hC.1 hC.2.1 hd (tk_L_at hL hx) (hK _ ha p e s m args below meth cd H locs ad ad0 n0 A ls hC hR hS hA hL hN hX)
  · exact ha.elim
theorem so_aload_n {k : Fin 4} {i : Nat} (hd : decode M.2.1 pc = .ok (.aload_n k, 1)) (hi : (k : Nat) = i) (hn : pc + 1 = nx) : tk_So sc M pc (tk_al i nx) := by
  subst hn
  intro l D cy L st μ kc ks K q hK ha p e s m args below meth cd H locs ad ad0 n0 A ls hC hR hS hA hL hN hX
  unfold tk_al at ha
  split at ha
  · rename_i x hx
    exact lv_aload_n hC.1 hC.2.1 hd hi (tk_L_at hL hx) (hK _ ha p e s m args below meth cd H locs ad ad0 n0 A ls hC hR hS hA hL hN hX)
  · exact ha.elim
theorem so_aload {i : Nat} (hd : decode M.2.1 pc = .ok (.aload i, 2)) (hn : pc + 2 = nx) : tk_So sc M pc (tk_al i nx) := by
  subst hn
  intro l D cy L st μ kc ks K q hK ha p e s m args below meth cd H locs ad ad0 n0 A ls hC hR hS hA hL hN hX
  unfold tk_al at ha
  split at ha
  · rename_i x hx
    exact lv_aload hC.1 hC.2.1 hd (tk_L_at hL hx) (hK _ ha p e s m args below meth cd H locs ad ad0 n0 A ls hC hR hS hA hL hN hX)
  · exact ha.elim
theorem so_istore_n {k : Fin 4} {i : Nat} (hd : decode M.2.1 pc = .ok (.istore_n k, 1)) (hi : (k : Nat) = i) (hn : pc + 1 = nx) : tk_So sc M pc (tk_sI i nx) := by
  subst hn
  intro l D cy L st μ kc ks K q hK ha p e s m args below meth cd H locs ad ad0 n0 A ls hC hR hS hA hL hN hX
  unfold tk_sI at ha
  split at ha
  · rename_i x r
    obtain ⟨h1, h2⟩ := tk_set_at ha
    exact lv_istore_n hC.1 hC.2.1 hd hi hL.1 (by rw [← hL.2.1]; exact h1) rfl (fun ls' h' => hK _ h2 p e s m args below meth cd H locs ad ad0 n0 A ls' hC hR hS hA (tk_L_set hL h1 rfl h') hN hX)
  · exact ha.elim
theorem so_istore {i : Nat} (hd : decode M.2.1 pc = .ok (.istore i, 2)) (hn : pc + 2 = nx) : tk_So sc M pc (tk_sI i nx) := by
  subst hn
  intro l D cy L st μ kc ks K q hK ha p e s m args below meth cd H locs ad ad0 n0 A ls hC hR hS hA hL hN hX
  unfold tk_sI at ha
  split at ha
  · rename_i x r
    obtain ⟨h1, h2⟩ := tk_set_at ha
    exact lv_istore hC.1 hC.2.1 hd hL.1 (by rw [← hL.2.1]; exact h1) rfl (fun ls' h' => hK _ h2 p e s m args below meth cd H locs ad ad0 n0 A ls' hC hR hS hA (tk_L_set hL h1 rfl h') hN hX)
  · exact ha.elim
theorem so_astore_n {k : Fin 4} {i : Nat} (hd : decode M.2.1 pc = .ok (.astore_n k, 1)) (hi : (k : Nat) = i) (hn : pc + 1 = nx) : tk_So sc M pc (tk_sA i nx) := by
  subst hn
  intro l D cy L st μ kc ks K q hK ha p e s m args below meth cd H locs ad ad0 n0 A ls hC hR hS hA hL hN hX
  unfold tk_sA at ha
  split at ha
  · rename_i x r
    obtain ⟨h1, h2⟩ := tk_set_at ha
    exact lv_astore_n hC.1 hC.2.1 hd hi hL.1 (by rw [← hL.2.1]; exact h1) rfl (fun ls' h' => hK _ h2 p e s m args below meth cd H locs ad ad0 n0 A ls' hC hR hS hA (tk_L_set (v := .ref x) hL h1 rfl h') hN hX)
  · exact ha.elim
theorem so_astore {i : Nat} (hd : decode M.2.1 pc = .ok (.astore i, 2)) (hn : pc + 2 = nx) : tk_So sc M pc (tk_sA i nx) := by
  subst hn
  intro l D cy L st μ kc ks K q hK ha p e s m args below meth cd H locs ad ad0 n0 A ls hC hR hS hA hL hN hX
  unfold tk_sA at ha
  split at ha
  · rename_i x r
    obtain ⟨h1, h2⟩ := tk_set_at ha
    exact lv_astore hC.1 hC.2.1 hd hL.1 (by rw [← hL.2.1]; exact h1) rfl (fun ls' h' => hK _ h2 p e s m args below meth cd H locs ad ad0 n0 A ls' hC hR hS hA (tk_L_set (v := .ref x) hL h1 rfl h') hN hX)
  · exact ha.elim
theorem so_iinc {i : Nat} {n : Int} {d : Int32} (hd : decode M.2.1 pc = .ok (.iinc i n, 3)) (hv : Int32.ofInt n = d) (hn : pc + 3 = nx) : tk_So sc M pc (tk_inc i d nx) := by
  subst hn
  subst hv
  intro l D cy L st μ kc ks K q hK ha p e s m args below meth cd H locs ad ad0 n0 A ls hC hR hS hA hL hN hX
  unfold tk_inc at ha
  split at ha
  · rename_i x hx
    obtain ⟨h1, h2⟩ := tk_set_at ha
    obtain ⟨k, hk⟩ := List.getElem?_of_mem (tk_lv_mem (ad := ad).mpr ⟨_, tk_nth_at hx, rfl⟩)
    exact lv_iinc hC.1 hC.2.1 hd hL.1 hk rfl (by rw [← hL.2.1]; exact h1) rfl (fun ls' h' => hK _ h2 p e s m args below meth cd H locs ad ad0 n0 A ls' hC hR hS hA (tk_L_set (v := .int (x + Int32.ofInt n)) hL h1 rfl h') hN hX)
  · exact ha.elim
end
