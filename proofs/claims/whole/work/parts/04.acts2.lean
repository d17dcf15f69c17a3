section
variable {sc : Option (Nat × (Nat → Int32))} {M : tk_Md} {pc nx : Nat}
theorem so_iadd (hd : decode M.2.1 pc = .ok (.iadd, 1)) (hn : pc + 1 = nx) : tk_So sc M pc (tk_bi (fun x y => x + y) nx) := by
  subst hn
  intro l D cy L st μ kc ks K q hK ha p e s m args below meth cd H locs ad ad0 n0 A ls hC hR hS hA hL hN hX
  unfold tk_bi at ha
  split at ha
  · exact lv_iadd hC.1 hC.2.1 hd (hK _ ha p e s m args below meth cd H locs ad ad0 n0 A ls hC hR hS hA hL hN hX)
  · exact ha.elim
theorem so_isub (hd : decode M.2.1 pc = .ok (.isub, 1)) (hn : pc + 1 = nx) : tk_So sc M pc (tk_bi (fun x y => x - y) nx) := by
  subst hn
  intro l D cy L st μ kc ks K q hK ha p e s m args below meth cd H locs ad ad0 n0 A ls hC hR hS hA hL hN hX
  unfold tk_bi at ha
  split at ha
  · exact lv_isub hC.1 hC.2.1 hd (hK _ ha p e s m args below meth cd H locs ad ad0 n0 A ls hC hR hS hA hL hN hX)
  · exact ha.elim
theorem so_imul (hd : decode M.2.1 pc = .ok (.imul, 1)) (hn : pc + 1 = nx) : tk_So sc M pc (tk_bi (fun x y => x * y) nx) := by
  subst hn
  intro l D cy L st μ kc ks K q hK ha p e s m args below meth cd H locs ad ad0 n0 A ls hC hR hS hA hL hN hX
  unfold tk_bi at ha
  split at ha
  · exact lv_imul hC.1 hC.2.1 hd (hK _ ha p e s m args below meth cd H locs ad ad0 n0 A ls hC hR hS hA hL hN hX)
  · exact ha.elim
theorem so_iand (hd : decode M.2.1 pc = .ok (.iand, 1)) (hn : pc + 1 = nx) : tk_So sc M pc (tk_bi (fun x y => x &&& y) nx) := by
  subst hn
  intro l D cy L st μ kc ks K q hK ha p e s m args below meth cd H locs ad ad0 n0 A ls hC hR hS hA hL hN hX
  unfold tk_bi at ha
  split at ha
  · exact lv_iand hC.1 hC.2.1 hd (hK _ ha p e s m args below meth cd H locs ad ad0 n0 A ls hC hR hS hA hL hN hX)
  · exact ha.elim
theorem so_ior (hd : decode M.2.1 pc = .ok (.ior, 1)) (hn : pc + 1 = nx) : tk_So sc M pc (tk_bi (fun x y => x ||| y) nx) := by
  subst hn
  intro l D cy L st μ kc ks K q hK ha p e s m args below meth cd H locs ad ad0 n0 A ls hC hR hS hA hL hN hX
  unfold tk_bi at ha
  split at ha
  · exact lv_ior hC.1 hC.2.1 hd (hK _ ha p e s m args below meth cd H locs ad ad0 n0 A ls hC hR hS hA hL hN hX)
  · exact ha.elim
theorem so_ixor (hd : decode M.2.1 pc = .ok (.ixor, 1)) (hn : pc + 1 = nx) : tk_So sc M pc (tk_bi (fun x y => x ^^^ y) nx) := by
  subst hn
  intro l D cy L st μ kc ks K q hK ha p e s m args below meth cd H locs ad ad0 n0 A ls hC hR hS hA hL hN hX
  unfold tk_bi at ha
  split at ha
  · exact lv_ixor hC.1 hC.2.1 hd (hK _ ha p e s m args below meth cd H locs ad ad0 n0 A ls hC hR hS hA hL hN hX)
  · exact ha.elim
theorem so_ishl (hd : decode M.2.1 pc = .ok (.ishl, 1)) (hn : pc + 1 = nx) : tk_So sc M pc (tk_bi (fun x y => x <<< (y &&& 31)) nx) := by
  subst hn
  intro l D cy L st μ kc ks K q hK ha p e s m args below meth cd H locs ad ad0 n0 A ls hC hR hS hA hL hN hX
  unfold tk_bi at ha
  split at ha
  · exact lv_ishl hC.1 hC.2.1 hd (hK _ ha p e s m args below meth cd H locs ad ad0 n0 A ls hC hR hS hA hL hN hX)
  · exact ha.elim
theorem so_ishr (hd : decode M.2.1 pc = .ok (.ishr, 1)) (hn : pc + 1 = nx) : tk_So sc M pc (tk_bi (fun x y => x >>> (y &&& 31)) nx) := by
  subst hn
  intro l D cy L st μ kc ks K q hK ha p e s m args below meth cd H locs ad ad0 n0 A ls hC hR hS hA hL hN hX
  unfold tk_bi at ha
  split at ha
  · exact lv_ishr hC.1 hC.2.1 hd (hK _ ha p e s m args below meth cd H locs ad ad0 n0 A ls hC hR hS hA hL hN hX)
  · exact ha.elim
theorem so_iushr (hd : decode M.2.1 pc = .ok (.iushr, 1)) (hn : pc + 1 = nx) : tk_So sc M pc (tk_bi (fun x y => (x.toUInt32 >>> (y.toUInt32 &&& Int32.toUInt32 31)).toInt32) nx) := by
  subst hn
  intro l D cy L st μ kc ks K q hK ha p e s m args below meth cd H locs ad ad0 n0 A ls hC hR hS hA hL hN hX
  unfold tk_bi at ha
  split at ha
  · exact lv_iushr hC.1 hC.2.1 hd rfl (hK _ ha p e s m args below meth cd H locs ad ad0 n0 A ls hC hR hS hA hL hN hX)
  · exact ha.elim
theorem so_idiv (hd : decode M.2.1 pc = .ok (.idiv, 1)) (hn : pc + 1 = nx) : tk_So sc M pc (tk_dv (fun x y => x / y) nx) := by
  subst hn
  intro l D cy L st μ kc ks K q hK ha p e s m args below meth cd H locs ad ad0 n0 A ls hC hR hS hA hL hN hX
  unfold tk_dv at ha
  split at ha
  · exact lv_idiv hC.1 hC.2.1 hd ha.1 (hK _ ha.2 p e s m args below meth cd H locs ad ad0 n0 A ls hC hR hS hA hL hN hX)
  · exact ha.elim
theorem so_irem (hd : decode M.2.1 pc = .ok (.irem, 1)) (hn : pc + 1 = nx) : tk_So sc M pc (tk_dv (fun x y => x - x / y * y) nx) := by
  subst hn
  intro l D cy L st μ kc ks K q hK ha p e s m args below meth cd H locs ad ad0 n0 A ls hC hR hS hA hL hN hX
  unfold tk_dv at ha
  split at ha
  · exact lv_irem hC.1 hC.2.1 hd ha.1 (hK _ ha.2 p e s m args below meth cd H locs ad ad0 n0 A ls hC hR hS hA hL hN hX)
  · exact ha.elim
theorem so_i2c (hd : decode M.2.1 pc = .ok (.i2c, 1)) (hn : pc + 1 = nx) : tk_So sc M pc (tk_un (fun x => (x.toUInt32 % 65536).toInt32) nx) := by
  subst hn
  intro l D cy L st μ kc ks K q hK ha p e s m args below meth cd H locs ad ad0 n0 A ls hC hR hS hA hL hN hX
  unfold tk_un at ha
  split at ha
  · exact lv_i2c hC.1 hC.2.1 hd rfl (hK _ ha p e s m args below meth cd H locs ad ad0 n0 A ls hC hR hS hA hL hN hX)
  · exact ha.elim
theorem so_ladd (hd : decode M.2.1 pc = .ok (.ladd, 1)) (hn : pc + 1 = nx) : tk_So sc M pc (tk_lad nx) := by
  subst hn
  intro l D cy L st μ kc ks K q hK ha p e s m args below meth cd H locs ad ad0 n0 A ls hC hR hS hA hL hN hX
  unfold tk_lad at ha
  split at ha
  · exact lv_ladd hC.1 hC.2.1 hd (hK _ ha p e s m args below meth cd H locs ad ad0 n0 A ls hC hR hS hA hL hN hX)
  · exact ha.elim
theorem so_lcmp (hd : decode M.2.1 pc = .ok (.lcmp, 1)) (hn : pc + 1 = nx) : tk_So sc M pc (tk_lcm nx) := by
  subst hn
  intro l D cy L st μ kc ks K q hK ha p e s m args below meth cd H locs ad ad0 n0 A ls hC hR hS hA hL hN hX
  unfold tk_lcm at ha
  split at ha
  · exact W.lcmp hC.1 hC.2.1 hd (hK _ ha p e s m args below meth cd H locs ad ad0 n0 A ls hC hR hS hA hL hN hX)
  · exact ha.elim
theorem so_dup (hd : decode M.2.1 pc = .ok (.dup, 1)) (hn : pc + 1 = nx) : tk_So sc M pc (tk_dup nx) := by
  subst hn
  intro l D cy L st μ kc ks K q hK ha p e s m args below meth cd H locs ad ad0 n0 A ls hC hR hS hA hL hN hX
  unfold tk_dup at ha
  split at ha
  · exact lv_dup hC.1 hC.2.1 hd rfl (hK _ ha p e s m args below meth cd H locs ad ad0 n0 A ls hC hR hS hA hL hN hX)
  · exact lv_dup hC.1 hC.2.1 hd rfl (hK _ ha p e s m args below meth cd H locs ad ad0 n0 A ls hC hR hS hA hL hN hX)
  · exact ha.elim
theorem so_dup2 (hd : decode M.2.1 pc = .ok (.dup2, 1)) (hn : pc + 1 = nx) : tk_So sc M pc (tk_du2 nx) := by
  subst hn
  intro l D cy L st μ kc ks K q hK ha p e s m args below meth cd H locs ad ad0 n0 A ls hC hR hS hA hL hN hX
  unfold tk_du2 at ha
  split at ha
  · exact lv_dup2_11 hC.1 hC.2.1 hd rfl rfl (hK _ ha p e s m args below meth cd H locs ad ad0 n0 A ls hC hR hS hA hL hN hX)
  · exact ha.elim
theorem so_pop (hd : decode M.2.1 pc = .ok (.pop, 1)) (hn : pc + 1 = nx) : tk_So sc M pc (tk_pp nx) := by
  subst hn
  intro l D cy L st μ kc ks K q hK ha p e s m args below meth cd H locs ad ad0 n0 A ls hC hR hS hA hL hN hX
  unfold tk_pp at ha
  split at ha
  · exact lv_pop hC.1 hC.2.1 hd rfl (hK _ ha p e s m args below meth cd H locs ad ad0 n0 A ls hC hR hS hA hL hN hX)
  · exact ha.elim
theorem so_goto {off : Int} {tg : Nat} (hd : decode M.2.1 pc = .ok (.goto off, 3)) (ht : (pc : Int) + off = (tg : Int)) : tk_So sc M pc (tk_jmp tg) := by
  intro l D cy L st μ kc ks K q hK ha p e s m args below meth cd H locs ad ad0 n0 A ls hC hR hS hA hL hN hX
  exact lv_goto hC.1 hC.2.1 hd ht (hK _ ha p e s m args below meth cd H locs ad ad0 n0 A ls hC hR hS hA hL hN hX)
theorem so_if_eq {off : Int} {tg : Nat} (hd : decode M.2.1 pc = .ok (.ifCond .eq off, 3)) (ht : (pc : Int) + off = (tg : Int)) (hn : pc + 3 = nx) : tk_So sc M pc (tk_br (fun x => x = 0) tg nx) := by
  subst hn
  intro l D cy L st μ kc ks K q hK ha p e s m args below meth cd H locs ad ad0 n0 A ls hC hR hS hA hL hN hX
  unfold tk_br at ha
  split at ha
  · exact lv_if_eq hC.1 hC.2.1 hd ht (fun h => (hK _ (ha.1 h) p e s m args below meth cd H locs ad ad0 n0 A ls hC hR hS hA hL hN hX)) (fun h => (hK _ (ha.2 h) p e s m args below meth cd H locs ad ad0 n0 A ls hC hR hS hA hL hN hX))
  · exact ha.elim
theorem so_icmp_eq {off : Int} {tg : Nat} (hd : decode M.2.1 pc = .ok (.if_icmp .eq off, 3)) (ht : (pc : Int) + off = (tg : Int)) (hn : pc + 3 = nx) : tk_So sc M pc (tk_cm (fun x y => x = y) tg nx) := by
  subst hn
  intro l D cy L st μ kc ks K q hK ha p e s m args below meth cd H locs ad ad0 n0 A ls hC hR hS hA hL hN hX
  unfold tk_cm at ha
  split at ha
  · exact lv_icmp_eq hC.1 hC.2.1 hd ht (fun h => (hK _ (ha.1 h) p e s m args below meth cd H locs ad ad0 n0 A ls hC hR hS hA hL hN hX)) (fun h => (hK _ (ha.2 h) p e s m args below meth cd H locs ad ad0 n0 A ls hC hR hS hA hL hN hX))
  · exact ha.elim
theorem so_if_ne {off : Int} {tg : Nat} (hd : decode M.2.1 pc = .ok (.ifCond .ne off, 3)) (ht : (pc : Int) + off = (tg : Int)) (hn : pc + 3 = nx) : tk_So sc M pc (tk_br (fun x => x = 0) nx tg) := by
  subst hn
  intro l D cy L st μ kc ks K q hK ha p e s m args below meth cd H locs ad ad0 n0 A ls hC hR hS hA hL hN hX
  unfold tk_br at ha
  split at ha
  · exact lv_if_ne hC.1 hC.2.1 hd ht (fun h => (hK _ (ha.2 h) p e s m args below meth cd H locs ad ad0 n0 A ls hC hR hS hA hL hN hX)) (fun h => (hK _ (ha.1 h) p e s m args below meth cd H locs ad ad0 n0 A ls hC hR hS hA hL hN hX))
  · exact ha.elim
theorem so_icmp_ne {off : Int} {tg : Nat} (hd : decode M.2.1 pc = .ok (.if_icmp .ne off, 3)) (ht : (pc : Int) + off = (tg : Int)) (hn : pc + 3 = nx) : tk_So sc M pc (tk_cm (fun x y => x = y) nx tg) := by
  subst hn
  intro l D cy L st μ kc ks K q hK ha p e s m args below meth cd H locs ad ad0 n0 A ls hC hR hS hA hL hN hX
  unfold tk_cm at ha
  split at ha
  · exact lv_icmp_ne hC.1 hC.2.1 hd ht (fun h => (hK _ (ha.2 h) p e s m args below meth cd H locs ad ad0 n0 A ls hC hR hS hA hL hN hX)) (fun h => (hK _ (ha.1 h) p e s m args below meth cd H locs ad ad0 n0 A ls hC hR hS hA hL hN hX))
  · exact ha.elim
theorem so_if_lt {off : Int} {tg : Nat} (hd : decode M.2.1 pc = .ok (.ifCond .lt off, 3)) (ht : (pc : Int) + off = (tg : Int)) (hn : pc + 3 = nx) : tk_So sc M pc (tk_br (fun x => x < 0) tg nx) := by
  subst hn
  intro l D cy L st μ kc ks K q hK ha p e s m args below meth cd H locs ad ad0 n0 A ls hC hR hS hA hL hN hX
  unfold tk_br at ha
  split at ha
  · exact lv_if_lt hC.1 hC.2.1 hd ht (fun h => (hK _ (ha.1 h) p e s m args below meth cd H locs ad ad0 n0 A ls hC hR hS hA hL hN hX)) (fun h => (hK _ (ha.2 h) p e s m args below meth cd H locs ad ad0 n0 A ls hC hR hS hA hL hN hX))
  · exact ha.elim
theorem so_icmp_lt {off : Int} {tg : Nat} (hd : decode M.2.1 pc = .ok (.if_icmp .lt off, 3)) (ht : (pc : Int) + off = (tg : Int)) (hn : pc + 3 = nx) : tk_So sc M pc (tk_cm (fun x y => x < y) tg nx) := by
  subst hn
  intro l D cy L st μ kc ks K q hK ha p e s m args below meth cd H locs ad ad0 n0 A ls hC hR hS hA hL hN hX
  unfold tk_cm at ha
  split at ha
  · exact lv_icmp_lt hC.1 hC.2.1 hd ht (fun h => (hK _ (ha.1 h) p e s m args below meth cd H locs ad ad0 n0 A ls hC hR hS hA hL hN hX)) (fun h => (hK _ (ha.2 h) p e s m args below meth cd H locs ad ad0 n0 A ls hC hR hS hA hL hN hX))
  · exact ha.elim
theorem so_if_ge {off : Int} {tg : Nat} (hd : decode M.2.1 pc = .ok (.ifCond .ge off, 3)) (ht : (pc : Int) + off = (tg : Int)) (hn : pc + 3 = nx) : tk_So sc M pc (tk_br (fun x => 0 ≤ x) tg nx) := by
  subst hn
  intro l D cy L st μ kc ks K q hK ha p e s m args below meth cd H locs ad ad0 n0 A ls hC hR hS hA hL hN hX
  unfold tk_br at ha
  split at ha
  · exact lv_if_ge hC.1 hC.2.1 hd ht (fun h => (hK _ (ha.1 h) p e s m args below meth cd H locs ad ad0 n0 A ls hC hR hS hA hL hN hX)) (fun h => (hK _ (ha.2 h) p e s m args below meth cd H locs ad ad0 n0 A ls hC hR hS hA hL hN hX))
  · exact ha.elim
theorem so_icmp_ge {off : Int} {tg : Nat} (hd : decode M.2.1 pc = .ok (.if_icmp .ge off, 3)) (ht : (pc : Int) + off = (tg : Int)) (hn : pc + 3 = nx) : tk_So sc M pc (tk_cm (fun x y => y ≤ x) tg nx) := by
  subst hn
  intro l D cy L st μ kc ks K q hK ha p e s m args below meth cd H locs ad ad0 n0 A ls hC hR hS hA hL hN hX
  unfold tk_cm at ha
  split at ha
  · exact lv_icmp_ge hC.1 hC.2.1 hd ht (fun h => (hK _ (ha.1 h) p e s m args below meth cd H locs ad ad0 n0 A ls hC hR hS hA hL hN hX)) (fun h => (hK _ (ha.2 h) p e s m args below meth cd H locs ad ad0 n0 A ls hC hR hS hA hL hN hX))
  · exact ha.elim
theorem so_if_gt {off : Int} {tg : Nat} (hd : decode M.2.1 pc = .ok (.ifCond .gt off, 3)) (ht : (pc : Int) + off = (tg : Int)) (hn : pc + 3 = nx) : tk_So sc M pc (tk_br (fun x => 0 < x) tg nx) := by
  subst hn
  intro l D cy L st μ kc ks K q hK ha p e s m args below meth cd H locs ad ad0 n0 A ls hC hR hS hA hL hN hX
  unfold tk_br at ha
  split at ha
  · exact lv_if_gt hC.1 hC.2.1 hd ht (fun h => (hK _ (ha.1 h) p e s m args below meth cd H locs ad ad0 n0 A ls hC hR hS hA hL hN hX)) (fun h => (hK _ (ha.2 h) p e s m args below meth cd H locs ad ad0 n0 A ls hC hR hS hA hL hN hX))
  · exact ha.elim
theorem so_icmp_gt {off : Int} {tg : Nat} (hd : decode M.2.1 pc = .ok (.if_icmp .gt off, 3)) (ht : (pc : Int) + off = (tg : Int)) (hn : pc + 3 = nx) : tk_So sc M pc (tk_cm (fun x y => y < x) tg nx) := by
  subst hn
  intro l D cy L st μ kc ks K q hK ha p e s m args below meth cd H locs ad ad0 n0 A ls hC hR hS hA hL hN hX
  unfold tk_cm at ha
  split at ha
  · exact lv_icmp_gt hC.1 hC.2.1 hd ht (fun h => (hK _ (ha.1 h) p e s m args below meth cd H locs ad ad0 n0 A ls hC hR hS hA hL hN hX)) (fun h => (hK _ (ha.2 h) p e s m args below meth cd H locs ad ad0 n0 A ls hC hR hS hA hL hN hX))
  · exact ha.elim
theorem so_if_le {off : Int} {tg : Nat} (hd : decode M.2.1 pc = .ok (.ifCond .le off, 3)) (ht : (pc : Int) + off = (tg : Int)) (hn : pc + 3 = nx) : tk_So sc M pc (tk_br (fun x => x ≤ 0) tg nx) := by
  subst hn
  intro l D cy L st μ kc ks K q hK ha p e s m args below meth cd H locs ad ad0 n0 A ls hC hR hS hA hL hN hX
  unfold tk_br at ha
  split at ha
  · exact lv_if_le hC.1 hC.2.1 hd ht (fun h => (hK _ (ha.1 h) p e s m args below meth cd H locs ad ad0 n0 A ls hC hR hS hA hL hN hX)) (fun h => (hK _ (ha.2 h) p e s m args below meth cd H locs ad ad0 n0 A ls hC hR hS hA hL hN hX))
  · exact ha.elim
theorem so_icmp_le {off : Int} {tg : Nat} (hd : decode M.2.1 pc = .ok (.if_icmp .le off, 3)) (ht : (pc : Int) + off = (tg : Int)) (hn : pc + 3 = nx) : tk_So sc M pc (tk_cm (fun x y => x ≤ y) tg nx) := by
  subst hn
  intro l D cy L st μ kc ks K q hK ha p e s m args below meth cd H locs ad ad0 n0 A ls hC hR hS hA hL hN hX
  unfold tk_cm at ha
  split at ha
  · exact lv_icmp_le hC.1 hC.2.1 hd ht (fun h => (hK _ (ha.1 h) p e s m args below meth cd H locs ad ad0 n0 A ls hC hR hS hA hL hN hX)) (fun h => (hK _ (ha.2 h) p e s m args below meth cd H locs ad ad0 n0 A ls hC hR hS hA hL hN hX))
  · exact ha.elim
theorem tk_cas_mp {cs : List (Int32 × Nat)} {x : Int32} {d : Nat} {K : Nat → Prop} (h : tk_cas cs x d K) : (∃ t, (x, t) ∈ cs ∧ K t) ∨ ((∀ r ∈ cs, ¬ x = r.1) ∧ K d) := by
  induction cs with
  | nil => exact Or.inr ⟨(fun r hr => absurd hr List.not_mem_nil), h⟩
  | cons a l ih =>
    obtain ⟨v, t⟩ := a
    by_cases hx : x = v
    · subst hx
      exact Or.inl ⟨t, List.mem_cons_self, h.1 rfl⟩
    · rcases ih (h.2 hx) with ⟨t', h1, h2⟩ | ⟨h1, h2⟩
      · exact Or.inl ⟨t', List.mem_cons_of_mem _ h1, h2⟩
      · refine Or.inr ⟨fun r hr => ?_, h2⟩
        rcases List.mem_cons.mp hr with rfl | hr
        · exact hx
        · exact h1 r hr
theorem so_table {dflt : Int} {n : Nat} {offs : Array Int} {len d : Nat} {cs : List (Int32 × Nat)} (hd : decode M.2.1 pc = .ok (.tableswitch dflt 0 (n : Int) offs, len)) (ht : (pc : Int) + dflt = (d : Int))
    (h1 : cs.all (fun r => decide (¬ r.1.toInt < 0) && decide (¬ (n : Int) < r.1.toInt) && ((offs[(r.1.toInt - 0).toNat]?).map (fun o => decide ((pc : Int) + o = (r.2 : Int))) == some true)) = true)
    (h2 : (List.range (n + 1)).all (fun i => cs.any (fun r => r.1 == Int32.ofNat i)) = true) : tk_So sc M pc (tk_sw cs d) := by
  intro l D cy L st μ kc ks K q hK ha p e s m args below meth cd H locs ad ad0 n0 A ls hC hR hS hA hL hN hX
  unfold tk_sw at ha
  split at ha
  · rename_i x r
    rcases tk_cas_mp ha with ⟨t, g1, g2⟩ | ⟨g1, g2⟩
    · have g3 := List.all_eq_true.mp h1 _ g1
      simp only [Bool.and_eq_true, decide_eq_true_eq, beq_iff_eq] at g3
      obtain ⟨⟨g4, g5⟩, g6⟩ := g3
      cases hz : offs[(x.toInt - 0).toNat]? with
      | none => rw [hz] at g6; cases g6
      | some o =>
        rw [hz] at g6
        simp only [Option.map_some, Option.some.injEq, decide_eq_true_eq] at g6
        exact lv_tableIn hC.1 hC.2.1 hd g4 g5 hz g6 (hK _ g2 p e s m args below meth cd H locs ad ad0 n0 A ls hC hR hS hA hL hN hX)
    · refine lv_tableOut hC.1 hC.2.1 hd ?_ ht (hK _ g2 p e s m args below meth cd H locs ad ad0 n0 A ls hC hR hS hA hL hN hX)
      by_cases hlo : x.toInt < 0
      · exact Or.inl hlo
      · refine Or.inr (Int.lt_of_not_ge fun hhi => ?_)
        have e1 : x = Int32.ofNat x.toInt.toNat := by
          apply Int32.toInt_inj.mp
          rw [Int32.toInt_ofNat_of_lt (by have := Int32.toInt_lt x; omega)]
          omega
        have g3 := List.all_eq_true.mp h2 x.toInt.toNat (List.mem_range.mpr (by omega))
        obtain ⟨r0, g4, g5⟩ := List.any_eq_true.mp g3
        exact g1 r0 g4 (by rw [beq_iff_eq] at g5; rw [g5]; exact e1)
  · exact ha.elim
theorem tk_fin {D : va_G} {cy : Nat → ClassId} {R : Room} {ad ad0 : Nat → Nat} {n0 kc : Nat} {A : Nat → Prop} {q : tk_Po} {r : Option Value} {μ : tk_Me} {s t : State} {H : Heap} {locs : List Loc} {as : Array Value}
    (hR : tk_R D cy A ad μ H) (hS : va_S A s.heap H locs) (h1 : ∀ i, i ≤ n0 → ad i = ad0 i) (h2 : n0 ≤ μ.2.2.2) (h3 : kc = 0 → ad = ad0) (h4 : kc ≤ R.cells) (hq : q r μ) (ht : t.heap = H) : tk_Q D cy R ad0 n0 A q as s (.returned (r.map (tk_v ad))) t :=
  ⟨⟨r, μ, ad, rfl, hq, h1, h2, fun h => h3 (by omega), by rw [ht]; exact hR⟩, hS.F ht⟩
theorem so_rI (hd : decode M.2.1 pc = .ok (.ireturn, 1)) (hr : M.2.2.2.1 = some .int) : tk_So sc M pc tk_rI := by
  intro l D cy L st μ kc ks K q hK ha p e s m args below meth cd H locs ad ad0 n0 A ls hC hR hS hA hL hN hX
  unfold tk_rI at ha
  have hlk : meth.locks = false := hC.2.2.2.2.2.2.1
  split at ha
  · refine W.widen hN.2.2.2.1 hN.2.2.2.2 ?_
    exact W.iret hC.1 hC.2.1 (hC.2.2.1.trans hr) (fun t ht hW => tk_fin hR hS hN.1 hN.2.1 hN.2.2.1 hN.2.2.2.1 ha ht) hS.2.2 hd hlk
  · exact ha.elim
theorem so_rL (hd : decode M.2.1 pc = .ok (.lreturn, 1)) (hr : M.2.2.2.1 = some .long) : tk_So sc M pc tk_rL := by
  intro l D cy L st μ kc ks K q hK ha p e s m args below meth cd H locs ad ad0 n0 A ls hC hR hS hA hL hN hX
  unfold tk_rL at ha
  have hlk : meth.locks = false := hC.2.2.2.2.2.2.1
  split at ha
  · refine W.widen hN.2.2.2.1 hN.2.2.2.2 ?_
    exact W.lret hC.1 hC.2.1 (hC.2.2.1.trans hr) (fun t ht hW => tk_fin hR hS hN.1 hN.2.1 hN.2.2.1 hN.2.2.2.1 ha ht) hS.2.2 hd hlk
  · exact ha.elim
theorem so_rZ (hd : decode M.2.1 pc = .ok (.ireturn, 1)) (hr : M.2.2.2.1 = some .boolean) : tk_So sc M pc tk_rZ := by
  intro l D cy L st μ kc ks K q hK ha p e s m args below meth cd H locs ad ad0 n0 A ls hC hR hS hA hL hN hX
  unfold tk_rZ at ha
  have hlk : meth.locks = false := hC.2.2.2.2.2.2.1
  split at ha
  · rename_i x
    refine W.widen hN.2.2.2.1 hN.2.2.2.2 ?_
    exact W.zret hC.1 hC.2.1 (hC.2.2.1.trans hr) (by rcases ha.1 with h | h <;> subst h <;> rfl) (fun t ht hW => tk_fin hR hS hN.1 hN.2.1 hN.2.2.1 hN.2.2.2.1 ha.2 ht) hS.2.2 hd hlk
  · exact ha.elim
theorem so_rV (hd : decode M.2.1 pc = .ok (.return_, 1)) (hr : M.2.2.2.1 = none) : tk_So sc M pc tk_rV := by
  intro l D cy L st μ kc ks K q hK ha p e s m args below meth cd H locs ad ad0 n0 A ls hC hR hS hA hL hN hX
  unfold tk_rV at ha
  have hlk : meth.locks = false := hC.2.2.2.2.2.2.1
  split at ha
  · refine W.widen hN.2.2.2.1 hN.2.2.2.2 ?_
    exact W.vret hC.1 hC.2.1 (hC.2.2.1.trans hr) (fun t ht hW => tk_fin (r := none) hR hS hN.1 hN.2.1 hN.2.2.1 hN.2.2.2.1 ha ht) hS.2.2 hd hlk
  · exact ha.elim
theorem so_rA {rt : FieldType} (hd : decode M.2.1 pc = .ok (.areturn, 1)) (hr : M.2.2.2.1 = some (.array rt)) : tk_So sc M pc tk_rA := by
  intro l D cy L st μ kc ks K q hK ha p e s m args below meth cd H locs ad ad0 n0 A ls hC hR hS hA hL hN hX
  unfold tk_rA at ha
  have hlk : meth.locks = false := hC.2.2.2.2.2.2.1
  split at ha
  · rename_i x
    refine W.widen hN.2.2.2.1 hN.2.2.2.2 ?_
    exact W.aret hC.1 hC.2.1 (hC.2.2.1.trans hr) (Or.inr ⟨_, rfl⟩) (Or.inr ⟨ad x, rfl⟩) (fun t ht hW => tk_fin (r := some (.ref x)) hR hS hN.1 hN.2.1 hN.2.2.1 hN.2.2.2.1 ha ht) hS.2.2 hd hlk
  · exact ha.elim
end
