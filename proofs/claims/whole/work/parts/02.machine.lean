/-! THE SMALL MACHINE: memory by places and slots, acts as predicate transformers, what a contract is -/
def tk_G : List Cond := lw_tbl.filter goodWord
theorem tk_mem {w : Cond} (i : Nat) (h : lw_tbl[i]? = some w) (hg : goodWord w = true) : w ∈ tk_G := List.mem_filter.mpr ⟨List.mem_of_getElem? h, hg⟩
theorem tk_good {w : Cond} (h : w ∈ tk_G) : (w.onTables && w.keeps) = true ∨ ∃ ty, w = .arrayClass ty := good_of_word (List.mem_filter.mp h).2
/-- ints, references, longs, how many places there are -/
abbrev tk_Me : Type := (Nat → Nat → Int32) × (Nat → Nat → Option Nat) × (Nat → Nat → Int64) × Nat
/-- pc, locals, stack, memory, cells and slots made -/
abbrev tk_Cf : Type := Nat × List (Option Value) × List Value × tk_Me × Nat × Nat
abbrev tk_Po : Type := Option Value → tk_Me → Prop
abbrev tk_Ac : Type := List (Option Value) → List Value → tk_Me → Nat → Nat → (tk_Cf → Prop) → tk_Po → Prop
/-- name, bytes, locals, answer's type, room -/
abbrev tk_Md : Type := MethodName × ByteArray × Nat × Option FieldType × Room
abbrev tk_Tb : Type := List (Nat × tk_Ac)
def tk_up {α : Type} (f : Nat → Nat → α) (p k : Nat) (v : α) : Nat → Nat → α := fun a b => if a = p ∧ b = k then v else f a b
/-- the kind of each place: a class's number (0 to 7), or 8 char[], 9 int[], 10 boolean[], 11 Thing[], 12 int[][]; and its length -/
def tk_kds : List (Nat × Nat) := [(99, 0), (6, 12), (3, 7), (8, 150), (5, 10), (9, 8), (9, 8), (9, 8), (9, 8), (9, 5), (5, 10), (9, 8), (9, 8), (9, 8), (9, 8), (9, 5), (1, 3), (11, 5), (4, 3), (4, 3), (4, 3), (4, 3), (4, 3), (2, 3), (12, 10), (9, 17), (9, 17), (9, 17), (9, 17), (9, 17), (9, 17), (9, 17), (9, 17), (9, 17), (9, 17), (12, 2), (9, 17), (9, 17), (10, 2), (0, 3), (9, 6), (9, 6), (0, 3), (9, 6), (9, 6), (4, 3), (4, 3), (7, 29), (9, 150), (9, 10), (9, 16), (9, 16), (9, 16), (9, 16), (9, 5), (9, 13), (9, 26), (10, 2), (9, 130), (9, 6), (9, 6), (9, 6), (9, 6)]
def tk_kd (p : Nat) : Nat × Nat := tk_kds.getD p (99, 0)
def tk_nf (t : Nat) : Nat := [3, 3, 3, 7, 3, 10, 12, 29].getD t 0
/-- 0: an int, a boolean; 1: a reference; 2: a long -/
def tk_ft (t k : Nat) : Nat := ([[1, 1, 0], [0, 0, 1], [1, 0, 0], [1, 0, 0, 0, 0, 0, 0], [0, 0, 0], [0, 0, 0, 0, 0, 1, 1, 1, 1, 1], [1, 1, 1, 1, 1, 1, 1, 1, 1, 1, 1, 2], [0, 2, 1, 0, 0, 0, 0, 0, 0, 1, 0, 1, 1, 1, 1, 1, 1, 1, 1, 1, 0, 1, 1, 0, 1, 1, 0, 0, 0]].getD t []).getD k 0
def tk_ok (p t n : Nat) : Bool := (tk_kd p).1 == t && (Nat.ble 1 p && Nat.ble p n)
def tk_if (b : Bool) (A : Prop) : Prop := match b with
  | true => A
  | false => False
theorem tk_if.mp {b : Bool} {A : Prop} (h : tk_if b A) : b = true ∧ A := by
  cases b with
  | true => exact ⟨rfl, h⟩
  | false => exact h.elim
theorem tk_ift {b : Bool} {A : Prop} (hb : b = true) (h : A) : tk_if b A := by subst hb; exact h
theorem tk_ok.mp {p t n : Nat} (h : tk_ok p t n = true) : (tk_kd p).1 = t ∧ 1 ≤ p ∧ p ≤ n := by
  simp only [tk_ok, Bool.and_eq_true, beq_iff_eq, Nat.ble_eq] at h
  exact ⟨h.1, h.2.1, h.2.2⟩
/-- an index within -/
def tk_in (i : Int32) (n : Nat) : Bool := decide (0 ≤ i) && decide (i.toNatClampNeg < n)
theorem tk_in.mp {i : Int32} {n : Nat} (h : tk_in i n = true) : vp_in i n := by
  simp only [tk_in, Bool.and_eq_true, decide_eq_true_eq] at h
  intro hq
  rcases hq with hq | hq
  · exact absurd h.1 (Int32.not_le.mpr hq)
  · omega
def tk_v (ad : Nat → Nat) : Value → Value
  | .ref p => .ref (ad p)
  | v => v
theorem tk_v_cat (ad : Nat → Nat) (v : Value) : (tk_v ad v).category = v.category := by cases v <;> rfl
def tk_fv (ad : Nat → Nat) (μ : tk_Me) (t p k : Nat) : Value := match tk_ft t k with
  | 0 => .int (μ.1 p k)
  | 1 => va_rf ((μ.2.1 p k).map ad)
  | _ => .long (μ.2.2.1 p k)
def tk_cell (cy : Nat → ClassId) (ad : Nat → Nat) (μ : tk_Me) (p : Nat) : va_E :=
  if (tk_kd p).1 < 8 then .inr ((tk_kd p).1, (List.range (tk_nf (tk_kd p).1)).map (fun k => tk_fv ad μ (tk_kd p).1 p k))
  else if (tk_kd p).1 < 11 then .inl (cy (tk_kd p).1, (tk_kd p).2, .inl (μ.1 p))
  else .inl (cy (tk_kd p).1, (tk_kd p).2, .inr (.inr (.inr (.inr (fun i => (μ.2.1 p i).map ad)))))
def tk_ws (cy : Nat → ClassId) (ad : Nat → Nat) (μ : tk_Me) : va_W := (List.range μ.2.2.2).map (fun j => (ad (j + 1), tk_cell cy ad μ (j + 1)))
def tk_tys (cy : Nat → ClassId) : List (ClassId × FieldType) := [(cy 8, .char), (cy 9, .int), (cy 10, .boolean), (cy 11, .object RX4), (cy 12, .array .int)]
def tk_R (D : va_G) (cy : Nat → ClassId) (A : Nat → Prop) (ad : Nat → Nat) (μ : tk_Me) (H : Heap) : Prop := va_P D vwCl (tk_ws cy ad μ) H ∧ va_D A (tk_ws cy ad μ) ∧ ∀ p k r, μ.2.1 p k = some r → r ≤ μ.2.2.2
/-- the tables' words of nest mates, and of arrays of references -/
def tk_N (U : State) : Prop := (∀ (a : String) (i : Nat) (x : MethodName) (h : String), Cond.methodLinkNest a i x h ∈ lw_tbl → va_Nw (.methodLinkNest a i x h) U) ∧ va_AO RX4 U ∧ (Cond.arrayOver (.array .int)).before #[] U = true
def tk_C (D : va_G) (cy : Nat → ClassId) (M : tk_Md) (p : Program) (s : State) (m : MethodId) (args : Array Value) (meth : Method) (c : Code) : Prop :=
  p.tables.exec = Jvm.exec ∧ c.code = M.2.1 ∧ meth.sig.returnType = M.2.2.2.1 ∧ c.maxLocals = M.2.2.1 ∧ s.vm.findClass M.1.cls = some m.cls ∧ (∀ w ∈ tk_G, w.before args s = true) ∧ meth.locks = false ∧ meth.name = M.1.name ∧ va_K D vwCl (tk_tys cy) s ∧ tk_N s
def tk_lv (ad : Nat → Nat) (L : List (Option Value)) : List (Nat × Value) := (List.range L.length).filterMap (fun i => (L[i]?.join).map (fun v => (i, tk_v ad v)))
theorem tk_lv_mem {ad : Nat → Nat} {L : List (Option Value)} {i : Nat} {w : Value} : (i, w) ∈ tk_lv ad L ↔ ∃ v, L[i]? = some (some v) ∧ w = tk_v ad v := by
  unfold tk_lv
  rw [List.mem_filterMap]
  constructor
  · rintro ⟨j, hj, h⟩
    cases hx : L[j]? with
    | none => rw [hx] at h; cases h
    | some o =>
      rw [hx] at h
      cases o with
      | none => cases h
      | some v => cases h; exact ⟨v, hx, rfl⟩
  · rintro ⟨v, h, rfl⟩
    refine ⟨i, List.mem_range.mpr (List.getElem?_eq_some_iff.mp h).1, ?_⟩
    rw [h]
    rfl
def tk_L (ad : Nat → Nat) (L : List (Option Value)) (ls : Array Slot) (nL : Nat) : Prop := lv_has ls nL (tk_lv ad L) ∧ L.length = nL ∧ ∀ (i : Nat) (v : Value), L[i]? = some (some v) → v.category = 1
def tk_Q (D : va_G) (cy : Nat → ClassId) (R : Room) (ad0 : Nat → Nat) (n0 : Nat) (A : Nat → Prop) (q : tk_Po) : Array Value → State → Outcome → State → Prop := fun _ st oc t =>
  (∃ (r : Option Value) (μ : tk_Me) (ad : Nat → Nat), oc = .returned (r.map (tk_v ad)) ∧ q r μ ∧ (∀ i, i ≤ n0 → ad i = ad0 i) ∧ n0 ≤ μ.2.2.2 ∧ (R.cells = 0 → ad = ad0) ∧ tk_R D cy A ad μ t.heap) ∧ va_F A st t
def tk_J (l : Launch) (D : va_G) (cy : Nat → ClassId) (sc : Option (Nat × (Nat → Int32))) (M : tk_Md) (c : tk_Cf) (q : tk_Po) : Prop :=
  ∀ (p : Program) (e : Env) (s : State) (m : MethodId) (args : Array Value) (below : List Frame) (meth : Method) (cd : Code) (H : Heap) (locs : List Loc) (ad ad0 : Nat → Nat) (n0 : Nat) (A : Nat → Prop) (ls : Array Slot),
    tk_C D cy M p s m args meth cd → tk_R D cy A ad c.2.2.2.1 H → va_S A s.heap H locs → (∀ x, s.heap.size ≤ x → A x) → tk_L ad c.2.1 ls M.2.2.1 →
    ((∀ i, i ≤ n0 → ad i = ad0 i) ∧ n0 ≤ c.2.2.2.1.2.2.2 ∧ (c.2.2.2.2.1 = 0 → ad = ad0) ∧ c.2.2.2.2.1 ≤ M.2.2.2.2.cells ∧ c.2.2.2.2.2 ≤ M.2.2.2.2.slots) →
    (∀ Ls xs, sc = some (Ls, xs) → va_X (ad 0) Ls xs s s.heap ∧ ad 0 < s.heap.size ∧ ¬ A (ad 0)) →
    W p l e M.2.2.2.2 s m args below meth cd H locs c.2.2.2.2.1 c.2.2.2.2.2 (MQ below (tk_Q D cy M.2.2.2.2 ad0 n0 A q) args s M.2.2.2.2.cells M.2.2.2.2.slots A) (F0 m c.1 ls (c.2.2.1.map (tk_v ad)))
/-- an act at a pc is sound -/
def tk_So (sc : Option (Nat × (Nat → Int32))) (M : tk_Md) (pc : Nat) (a : tk_Ac) : Prop :=
  ∀ (l : Launch) (D : va_G) (cy : Nat → ClassId) (L : List (Option Value)) (st : List Value) (μ : tk_Me) (kc ks : Nat) (K : tk_Cf → Prop) (q : tk_Po),
    (∀ c, K c → tk_J l D cy sc M c q) → a L st μ kc ks K q → tk_J l D cy sc M (pc, L, st, μ, kc, ks) q
def tk_at : tk_Tb → Nat → Option tk_Ac
  | [], _ => none
  | (k, a) :: t, pc => match Nat.beq k pc with
    | true => some a
    | false => tk_at t pc
theorem tk_at_mem {T : tk_Tb} {pc : Nat} {a : tk_Ac} (h : tk_at T pc = some a) : (pc, a) ∈ T := by
  induction T with
  | nil => cases h
  | cons x t ih =>
    obtain ⟨k, b⟩ := x
    unfold tk_at at h
    cases hb : Nat.beq k pc with
    | true =>
      rw [hb] at h
      have hk := Nat.eq_of_beq_eq_true hb
      cases h
      rw [hk]
      exact List.mem_cons_self
    | false =>
      rw [hb] at h
      exact List.mem_cons_of_mem _ (ih h)
def tk_is : List Nat → Nat → Bool
  | [], _ => false
  | k :: t, pc => match Nat.beq k pc with
    | true => true
    | false => tk_is t pc
def tk_go : Nat → tk_Tb → List Nat → tk_Cf → (tk_Cf → Prop) → tk_Po → Prop
  | 0, _, _, _, _, _ => False
  | n + 1, T, cuts, (pc, L, st, μ, kc, ks), K, q => match tk_at T pc with
    | none => False
    | some a => a L st μ kc ks (fun c => match tk_is cuts c.1 with
      | true => K c
      | false => tk_go n T cuts c K q) q
theorem tk_run {sc : Option (Nat × (Nat → Int32))} {M : tk_Md} {T : tk_Tb} (hT : ∀ x ∈ T, tk_So sc M x.1 x.2) {l : Launch} {D : va_G} {cy : Nat → ClassId} {q : tk_Po} (cuts : List Nat) :
    ∀ (n : Nat) (c : tk_Cf), tk_go n T cuts c (fun c' => tk_J l D cy sc M c' q) q → tk_J l D cy sc M c q := by
  intro n
  induction n with
  | zero => intro c h; exact h.elim
  | succ n ih =>
    intro c h
    obtain ⟨pc, L, st, μ, kc, ks⟩ := c
    unfold tk_go at h
    cases hx : tk_at T pc with
    | none => rw [hx] at h; exact h.elim
    | some a =>
      rw [hx] at h
      refine hT (pc, a) (tk_at_mem hx) l D cy L st μ kc ks _ q ?_ h
      intro c' hc'
      dsimp only at hc'
      cases hz : tk_is cuts c'.1 with
      | true => rw [hz] at hc'; exact hc'
      | false => rw [hz] at hc'; exact ih c' hc'
def tk_wsM (M : tk_Md) : List Cond := Cond.code M.1 M.2.1 M.2.2.1 M.2.2.2.1 :: tk_G
/-- the contract of a method at these arguments and this memory -/
def tk_Ct (M : tk_Md) (as : List Value) (μ : tk_Me) (P : tk_Po) : Prop :=
  ∀ (l : Launch) (D : va_G) (cy : Nat → ClassId) (ad : Nat → Nat) (A : Nat → Prop), Met l M.1 (tk_wsM M) M.2.2.2.2
    (fun v U => v = (as.map (tk_v ad)).toArray ∧ (∀ x, U.heap.size ≤ x → A x) ∧ va_K D vwCl (tk_tys cy) U ∧ tk_N U ∧ tk_R D cy A ad μ U.heap)
    (tk_Q D cy M.2.2.2.2 ad μ.2.2.2 A P) M.2.2.2.2.cells M.2.2.2.2.slots A
