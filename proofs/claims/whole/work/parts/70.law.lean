/-! the law: its cases -/
theorem tk_jin {j c Ls : Nat} (hj : j + 6 ≤ Ls) (hLs : Ls ≤ 384) (hc : c < 6) : tk_in (nI j + nI c) Ls = true := by
  rw [nI_add]
  exact tk_in_nI (by omega) (by omega)
section
variable {xs : Nat → Int32} {Ls j a b kc ks : Nat} {σ : Nat → Nat → Int32} {τ : Nat → Nat → Int64} {l : Launch} {D : va_G} {cy : Nat → ClassId} {q : tk_Po}
set_option maxRecDepth 100000 in
theorem la_type (hj : j + 6 ≤ Ls) (hLs : Ls ≤ 384) (hI : tk_Inv a b σ τ) (hk : ∀ μ2, tk_IM μ2 → tk_J l D cy (some (Ls, xs)) M_L_law (932, [some (.ref 0), some (.ref 1), some (.ref 47), some (.int (nI j))], [], μ2, kc, ks) q) : tk_J l D cy (some (Ls, xs)) M_L_law (164, [some (.ref 0), some (.ref 1), some (.ref 47), some (.int (nI j))], [], (σ, tk_rho a b, τ, 62), kc, ks) q := by
  refine tk_run (hT_L_law xs Ls) [932] 60 _ ?_
  refine tk_ift (tk_jin (c := 1) hj hLs (by decide)) ?_
  refine tk_cc (st_type hI) (fun v9 μ9 h9 => ?_)
  obtain ⟨x, σ1, ρ1, τ1, rfl, rfl, h2⟩ := h9
  refine tk_ift (tk_jin (c := 1) hj hLs (by decide)) ?_
  refine tk_cc h2 (fun v9 μ9 h9 => ?_)
  obtain ⟨rfl, hM⟩ := h9
  refine And.intro (fun _ => ?_) (fun z => absurd rfl z)
  exact hk _ hM
set_option maxRecDepth 100000 in
theorem la_clear (hj : j + 6 ≤ Ls) (hLs : Ls ≤ 384) (hI : tk_Inv a b σ τ) (hk : ∀ μ2, tk_IM μ2 → tk_J l D cy (some (Ls, xs)) M_L_law (932, [some (.ref 0), some (.ref 1), some (.ref 47), some (.int (nI j))], [], μ2, kc, ks) q) : tk_J l D cy (some (Ls, xs)) M_L_law (187, [some (.ref 0), some (.ref 1), some (.ref 47), some (.int (nI j))], [], (σ, tk_rho a b, τ, 62), kc, ks) q := by
  refine tk_run (hT_L_law xs Ls) [932] 60 _ ?_
  refine tk_cc (st_clear hI) (fun v9 μ9 h9 => ?_)
  obtain ⟨x, σ1, ρ1, τ1, rfl, rfl, h2⟩ := h9
  refine tk_cc h2 (fun v9 μ9 h9 => ?_)
  obtain ⟨rfl, hM⟩ := h9
  refine And.intro (fun _ => ?_) (fun z => absurd rfl z)
  exact hk _ hM
set_option maxRecDepth 100000 in
theorem la_towns (hj : j + 6 ≤ Ls) (hLs : Ls ≤ 384) (hI : tk_Inv a b σ τ) (hk : ∀ μ2, tk_IM μ2 → tk_J l D cy (some (Ls, xs)) M_L_law (932, [some (.ref 0), some (.ref 1), some (.ref 47), some (.int (nI j))], [], μ2, kc, ks) q) : tk_J l D cy (some (Ls, xs)) M_L_law (200, [some (.ref 0), some (.ref 1), some (.ref 47), some (.int (nI j))], [], (σ, tk_rho a b, τ, 62), kc, ks) q := by
  refine tk_run (hT_L_law xs Ls) [932] 60 _ ?_
  refine tk_cc (st_towns hI) (fun v9 μ9 h9 => ?_)
  obtain ⟨x, σ1, ρ1, τ1, rfl, rfl, h2⟩ := h9
  refine tk_cc h2 (fun v9 μ9 h9 => ?_)
  obtain ⟨rfl, hM⟩ := h9
  refine And.intro (fun _ => ?_) (fun z => absurd rfl z)
  exact hk _ hM
set_option maxRecDepth 100000 in
theorem la_kerb (hj : j + 6 ≤ Ls) (hLs : Ls ≤ 384) (hI : tk_Inv a b σ τ) (hk : ∀ μ2, tk_IM μ2 → tk_J l D cy (some (Ls, xs)) M_L_law (932, [some (.ref 0), some (.ref 1), some (.ref 47), some (.int (nI j))], [], μ2, kc, ks) q) : tk_J l D cy (some (Ls, xs)) M_L_law (213, [some (.ref 0), some (.ref 1), some (.ref 47), some (.int (nI j))], [], (σ, tk_rho a b, τ, 62), kc, ks) q := by
  refine tk_run (hT_L_law xs Ls) [932] 60 _ ?_
  refine tk_ift (tk_jin (c := 1) hj hLs (by decide)) ?_
  refine tk_ift (tk_jin (c := 2) hj hLs (by decide)) ?_
  refine tk_cc (st_kerb hI) (fun v9 μ9 h9 => ?_)
  obtain ⟨x, σ1, ρ1, τ1, rfl, rfl, h2⟩ := h9
  refine tk_ift (tk_jin (c := 1) hj hLs (by decide)) ?_
  refine tk_ift (tk_jin (c := 2) hj hLs (by decide)) ?_
  refine tk_cc h2 (fun v9 μ9 h9 => ?_)
  obtain ⟨rfl, hM⟩ := h9
  refine And.intro (fun _ => ?_) (fun z => absurd rfl z)
  exact hk _ hM
set_option maxRecDepth 100000 in
theorem la_thing (hj : j + 6 ≤ Ls) (hLs : Ls ≤ 384) (hI : tk_Inv a b σ τ) (hk : ∀ μ2, tk_IM μ2 → tk_J l D cy (some (Ls, xs)) M_L_law (932, [some (.ref 0), some (.ref 1), some (.ref 47), some (.int (nI j))], [], μ2, kc, ks) q) : tk_J l D cy (some (Ls, xs)) M_L_law (246, [some (.ref 0), some (.ref 1), some (.ref 47), some (.int (nI j))], [], (σ, tk_rho a b, τ, 62), kc, ks) q := by
  refine tk_run (hT_L_law xs Ls) [932] 60 _ ?_
  refine tk_ift (tk_jin (c := 1) hj hLs (by decide)) ?_
  refine tk_ift (tk_jin (c := 2) hj hLs (by decide)) ?_
  refine tk_cc (st_thing hI) (fun v9 μ9 h9 => ?_)
  obtain ⟨x, σ1, ρ1, τ1, rfl, rfl, h2⟩ := h9
  refine tk_ift (tk_jin (c := 1) hj hLs (by decide)) ?_
  refine tk_ift (tk_jin (c := 2) hj hLs (by decide)) ?_
  refine tk_cc h2 (fun v9 μ9 h9 => ?_)
  obtain ⟨rfl, hM⟩ := h9
  refine And.intro (fun _ => ?_) (fun z => absurd rfl z)
  exact hk _ hM
set_option maxRecDepth 100000 in
theorem la_now (hj : j + 6 ≤ Ls) (hLs : Ls ≤ 384) (hI : tk_Inv a b σ τ) (hk : ∀ μ2, tk_IM μ2 → tk_J l D cy (some (Ls, xs)) M_L_law (932, [some (.ref 0), some (.ref 1), some (.ref 47), some (.int (nI j))], [], μ2, kc, ks) q) : tk_J l D cy (some (Ls, xs)) M_L_law (279, [some (.ref 0), some (.ref 1), some (.ref 47), some (.int (nI j))], [], (σ, tk_rho a b, τ, 62), kc, ks) q := by
  refine tk_run (hT_L_law xs Ls) [932] 60 _ ?_
  refine tk_ift (tk_jin (c := 1) hj hLs (by decide)) ?_
  refine tk_cc (st_now hI) (fun v9 μ9 h9 => ?_)
  obtain ⟨x, σ1, ρ1, τ1, rfl, rfl, h2⟩ := h9
  refine tk_ift (tk_jin (c := 1) hj hLs (by decide)) ?_
  refine tk_cc h2 (fun v9 μ9 h9 => ?_)
  obtain ⟨rfl, hM⟩ := h9
  refine And.intro (fun _ => ?_) (fun z => absurd rfl z)
  exact hk _ hM
set_option maxRecDepth 100000 in
theorem la_tides (hj : j + 6 ≤ Ls) (hLs : Ls ≤ 384) (hI : tk_Inv a b σ τ) (hk : ∀ μ2, tk_IM μ2 → tk_J l D cy (some (Ls, xs)) M_L_law (932, [some (.ref 0), some (.ref 1), some (.ref 47), some (.int (nI j))], [], μ2, kc, ks) q) : tk_J l D cy (some (Ls, xs)) M_L_law (302, [some (.ref 0), some (.ref 1), some (.ref 47), some (.int (nI j))], [], (σ, tk_rho a b, τ, 62), kc, ks) q := by
  refine tk_run (hT_L_law xs Ls) [932] 60 _ ?_
  refine tk_ift (tk_jin (c := 1) hj hLs (by decide)) ?_
  refine tk_cc (st_tides hI) (fun v9 μ9 h9 => ?_)
  obtain ⟨x, σ1, ρ1, τ1, rfl, rfl, h2⟩ := h9
  refine tk_ift (tk_jin (c := 1) hj hLs (by decide)) ?_
  refine tk_cc h2 (fun v9 μ9 h9 => ?_)
  obtain ⟨rfl, hM⟩ := h9
  refine And.intro (fun _ => ?_) (fun z => absurd rfl z)
  exact hk _ hM
set_option maxRecDepth 100000 in
theorem la_ties (hj : j + 6 ≤ Ls) (hLs : Ls ≤ 384) (hI : tk_Inv a b σ τ) (hk : ∀ μ2, tk_IM μ2 → tk_J l D cy (some (Ls, xs)) M_L_law (932, [some (.ref 0), some (.ref 1), some (.ref 47), some (.int (nI j))], [], μ2, kc, ks) q) : tk_J l D cy (some (Ls, xs)) M_L_law (325, [some (.ref 0), some (.ref 1), some (.ref 47), some (.int (nI j))], [], (σ, tk_rho a b, τ, 62), kc, ks) q := by
  refine tk_run (hT_L_law xs Ls) [932] 60 _ ?_
  refine tk_ift (tk_jin (c := 1) hj hLs (by decide)) ?_
  refine tk_ift (tk_jin (c := 2) hj hLs (by decide)) ?_
  refine tk_cc (st_ties hI) (fun v9 μ9 h9 => ?_)
  obtain ⟨x, σ1, ρ1, τ1, rfl, rfl, h2⟩ := h9
  refine tk_ift (tk_jin (c := 1) hj hLs (by decide)) ?_
  refine tk_ift (tk_jin (c := 2) hj hLs (by decide)) ?_
  refine tk_cc h2 (fun v9 μ9 h9 => ?_)
  obtain ⟨rfl, hM⟩ := h9
  refine And.intro (fun _ => ?_) (fun z => absurd rfl z)
  exact hk _ hM
set_option maxRecDepth 100000 in
theorem la_carries (hj : j + 6 ≤ Ls) (hLs : Ls ≤ 384) (hI : tk_Inv a b σ τ) (hk : ∀ μ2, tk_IM μ2 → tk_J l D cy (some (Ls, xs)) M_L_law (932, [some (.ref 0), some (.ref 1), some (.ref 47), some (.int (nI j))], [], μ2, kc, ks) q) : tk_J l D cy (some (Ls, xs)) M_L_law (358, [some (.ref 0), some (.ref 1), some (.ref 47), some (.int (nI j))], [], (σ, tk_rho a b, τ, 62), kc, ks) q := by
  refine tk_run (hT_L_law xs Ls) [932] 60 _ ?_
  refine tk_ift (tk_jin (c := 1) hj hLs (by decide)) ?_
  refine tk_ift (tk_jin (c := 2) hj hLs (by decide)) ?_
  refine tk_cc (st_carries hI) (fun v9 μ9 h9 => ?_)
  obtain ⟨x, σ1, ρ1, τ1, rfl, rfl, h2⟩ := h9
  refine tk_ift (tk_jin (c := 1) hj hLs (by decide)) ?_
  refine tk_ift (tk_jin (c := 2) hj hLs (by decide)) ?_
  refine tk_cc h2 (fun v9 μ9 h9 => ?_)
  obtain ⟨rfl, hM⟩ := h9
  refine And.intro (fun _ => ?_) (fun z => absurd rfl z)
  exact hk _ hM
set_option maxRecDepth 100000 in
theorem la_undo (hj : j + 6 ≤ Ls) (hLs : Ls ≤ 384) (hI : tk_Inv a b σ τ) (hk : ∀ μ2, tk_IM μ2 → tk_J l D cy (some (Ls, xs)) M_L_law (932, [some (.ref 0), some (.ref 1), some (.ref 47), some (.int (nI j))], [], μ2, kc, ks) q) : tk_J l D cy (some (Ls, xs)) M_L_law (391, [some (.ref 0), some (.ref 1), some (.ref 47), some (.int (nI j))], [], (σ, tk_rho a b, τ, 62), kc, ks) q := by
  refine tk_run (hT_L_law xs Ls) [932] 60 _ ?_
  refine tk_cc (st_undo hI) (fun v9 μ9 h9 => ?_)
  obtain ⟨x, σ1, ρ1, τ1, rfl, rfl, h2⟩ := h9
  refine tk_cc h2 (fun v9 μ9 h9 => ?_)
  obtain ⟨rfl, hM⟩ := h9
  refine And.intro (fun _ => ?_) (fun z => absurd rfl z)
  exact hk _ hM
set_option maxRecDepth 100000 in
theorem la_level (hj : j + 6 ≤ Ls) (hLs : Ls ≤ 384) (hI : tk_Inv a b σ τ) (hk : ∀ μ2, tk_IM μ2 → tk_J l D cy (some (Ls, xs)) M_L_law (932, [some (.ref 0), some (.ref 1), some (.ref 47), some (.int (nI j))], [], μ2, kc, ks) q) : tk_J l D cy (some (Ls, xs)) M_L_law (404, [some (.ref 0), some (.ref 1), some (.ref 47), some (.int (nI j))], [], (σ, tk_rho a b, τ, 62), kc, ks) q := by
  refine tk_run (hT_L_law xs Ls) [932] 60 _ ?_
  refine tk_ift (tk_jin (c := 1) hj hLs (by decide)) ?_
  refine tk_cc (st_level hI) (fun v9 μ9 h9 => ?_)
  obtain ⟨x, σ1, ρ1, τ1, rfl, rfl, h2⟩ := h9
  refine tk_ift (tk_jin (c := 1) hj hLs (by decide)) ?_
  refine tk_cc h2 (fun v9 μ9 h9 => ?_)
  obtain ⟨rfl, hM⟩ := h9
  refine And.intro (fun _ => ?_) (fun z => absurd rfl z)
  exact hk _ hM
set_option maxRecDepth 100000 in
theorem la_high (hj : j + 6 ≤ Ls) (hLs : Ls ≤ 384) (hI : tk_Inv a b σ τ) (hk : ∀ μ2, tk_IM μ2 → tk_J l D cy (some (Ls, xs)) M_L_law (932, [some (.ref 0), some (.ref 1), some (.ref 47), some (.int (nI j))], [], μ2, kc, ks) q) : tk_J l D cy (some (Ls, xs)) M_L_law (427, [some (.ref 0), some (.ref 1), some (.ref 47), some (.int (nI j))], [], (σ, tk_rho a b, τ, 62), kc, ks) q := by
  refine tk_run (hT_L_law xs Ls) [932] 60 _ ?_
  refine tk_ift (tk_jin (c := 1) hj hLs (by decide)) ?_
  refine tk_cc (st_high hI) (fun v9 μ9 h9 => ?_)
  obtain ⟨x, σ1, ρ1, τ1, rfl, rfl, h2⟩ := h9
  refine tk_ift (tk_jin (c := 1) hj hLs (by decide)) ?_
  refine tk_cc h2 (fun v9 μ9 h9 => ?_)
  obtain ⟨rfl, hM⟩ := h9
  refine And.intro (fun _ => ?_) (fun z => absurd rfl z)
  exact hk _ hM
set_option maxRecDepth 100000 in
theorem la_flood (hj : j + 6 ≤ Ls) (hLs : Ls ≤ 384) (hI : tk_Inv a b σ τ) (hk : ∀ μ2, tk_IM μ2 → tk_J l D cy (some (Ls, xs)) M_L_law (932, [some (.ref 0), some (.ref 1), some (.ref 47), some (.int (nI j))], [], μ2, kc, ks) q) : tk_J l D cy (some (Ls, xs)) M_L_law (450, [some (.ref 0), some (.ref 1), some (.ref 47), some (.int (nI j))], [], (σ, tk_rho a b, τ, 62), kc, ks) q := by
  refine tk_run (hT_L_law xs Ls) [932] 60 _ ?_
  refine tk_ift (tk_jin (c := 1) hj hLs (by decide)) ?_
  refine tk_cc (st_flood hI) (fun v9 μ9 h9 => ?_)
  obtain ⟨x, σ1, ρ1, τ1, rfl, rfl, h2⟩ := h9
  refine tk_ift (tk_jin (c := 1) hj hLs (by decide)) ?_
  refine tk_cc h2 (fun v9 μ9 h9 => ?_)
  obtain ⟨rfl, hM⟩ := h9
  refine And.intro (fun _ => ?_) (fun z => absurd rfl z)
  exact hk _ hM
set_option maxRecDepth 100000 in
theorem la_where (hj : j + 6 ≤ Ls) (hLs : Ls ≤ 384) (hI : tk_Inv a b σ τ) (hk : ∀ μ2, tk_IM μ2 → tk_J l D cy (some (Ls, xs)) M_L_law (932, [some (.ref 0), some (.ref 1), some (.ref 47), some (.int (nI j))], [], μ2, kc, ks) q) : tk_J l D cy (some (Ls, xs)) M_L_law (473, [some (.ref 0), some (.ref 1), some (.ref 47), some (.int (nI j))], [], (σ, tk_rho a b, τ, 62), kc, ks) q := by
  refine tk_run (hT_L_law xs Ls) [932] 60 _ ?_
  refine tk_ift (tk_jin (c := 1) hj hLs (by decide)) ?_
  refine tk_ift (tk_jin (c := 2) hj hLs (by decide)) ?_
  refine tk_cc (st_where hI) (fun v9 μ9 h9 => ?_)
  obtain ⟨x, σ1, ρ1, τ1, rfl, rfl, h2⟩ := h9
  refine tk_ift (tk_jin (c := 1) hj hLs (by decide)) ?_
  refine tk_ift (tk_jin (c := 2) hj hLs (by decide)) ?_
  refine tk_cc h2 (fun v9 μ9 h9 => ?_)
  obtain ⟨rfl, hM⟩ := h9
  refine And.intro (fun _ => ?_) (fun z => absurd rfl z)
  exact hk _ hM
set_option maxRecDepth 100000 in
theorem la_when (hj : j + 6 ≤ Ls) (hLs : Ls ≤ 384) (hI : tk_Inv a b σ τ) (hk : ∀ μ2, tk_IM μ2 → tk_J l D cy (some (Ls, xs)) M_L_law (932, [some (.ref 0), some (.ref 1), some (.ref 47), some (.int (nI j))], [], μ2, kc, ks) q) : tk_J l D cy (some (Ls, xs)) M_L_law (506, [some (.ref 0), some (.ref 1), some (.ref 47), some (.int (nI j))], [], (σ, tk_rho a b, τ, 62), kc, ks) q := by
  refine tk_run (hT_L_law xs Ls) [932] 60 _ ?_
  refine tk_ift (tk_jin (c := 1) hj hLs (by decide)) ?_
  refine tk_ift (tk_jin (c := 2) hj hLs (by decide)) ?_
  refine tk_cc (st_when hI) (fun v9 μ9 h9 => ?_)
  obtain ⟨x, σ1, ρ1, τ1, rfl, rfl, h2⟩ := h9
  refine tk_ift (tk_jin (c := 1) hj hLs (by decide)) ?_
  refine tk_ift (tk_jin (c := 2) hj hLs (by decide)) ?_
  refine tk_cc h2 (fun v9 μ9 h9 => ?_)
  obtain ⟨rfl, hM⟩ := h9
  refine And.intro (fun _ => ?_) (fun z => absurd rfl z)
  exact hk _ hM
set_option maxRecDepth 100000 in
theorem la_send (hj : j + 6 ≤ Ls) (hLs : Ls ≤ 384) (hI : tk_Inv a b σ τ) (hk : ∀ μ2, tk_IM μ2 → tk_J l D cy (some (Ls, xs)) M_L_law (932, [some (.ref 0), some (.ref 1), some (.ref 47), some (.int (nI j))], [], μ2, kc, ks) q) : tk_J l D cy (some (Ls, xs)) M_L_law (539, [some (.ref 0), some (.ref 1), some (.ref 47), some (.int (nI j))], [], (σ, tk_rho a b, τ, 62), kc, ks) q := by
  refine tk_run (hT_L_law xs Ls) [932] 60 _ ?_
  refine tk_ift (tk_jin (c := 1) hj hLs (by decide)) ?_
  refine tk_ift (tk_jin (c := 2) hj hLs (by decide)) ?_
  refine tk_ift (tk_jin (c := 3) hj hLs (by decide)) ?_
  refine tk_cc (st_send hI) (fun v9 μ9 h9 => ?_)
  obtain ⟨x, σ1, ρ1, τ1, rfl, rfl, h2⟩ := h9
  refine tk_ift (tk_jin (c := 1) hj hLs (by decide)) ?_
  refine tk_ift (tk_jin (c := 2) hj hLs (by decide)) ?_
  refine tk_ift (tk_jin (c := 3) hj hLs (by decide)) ?_
  refine tk_cc h2 (fun v9 μ9 h9 => ?_)
  obtain ⟨rfl, hM⟩ := h9
  refine And.intro (fun _ => ?_) (fun z => absurd rfl z)
  exact hk _ hM
set_option maxRecDepth 100000 in
theorem la_meet (hj : j + 6 ≤ Ls) (hLs : Ls ≤ 384) (hI : tk_Inv a b σ τ) (hk : ∀ μ2, tk_IM μ2 → tk_J l D cy (some (Ls, xs)) M_L_law (932, [some (.ref 0), some (.ref 1), some (.ref 47), some (.int (nI j))], [], μ2, kc, ks) q) : tk_J l D cy (some (Ls, xs)) M_L_law (582, [some (.ref 0), some (.ref 1), some (.ref 47), some (.int (nI j))], [], (σ, tk_rho a b, τ, 62), kc, ks) q := by
  refine tk_run (hT_L_law xs Ls) [932] 60 _ ?_
  refine tk_ift (tk_jin (c := 1) hj hLs (by decide)) ?_
  refine tk_ift (tk_jin (c := 2) hj hLs (by decide)) ?_
  refine tk_cc (st_meet hI) (fun v9 μ9 h9 => ?_)
  obtain ⟨x, σ1, ρ1, τ1, rfl, rfl, h2⟩ := h9
  refine tk_ift (tk_jin (c := 1) hj hLs (by decide)) ?_
  refine tk_ift (tk_jin (c := 2) hj hLs (by decide)) ?_
  refine tk_cc h2 (fun v9 μ9 h9 => ?_)
  obtain ⟨rfl, hM⟩ := h9
  refine And.intro (fun _ => ?_) (fun z => absurd rfl z)
  exact hk _ hM
set_option maxRecDepth 100000 in
theorem la_round (hj : j + 6 ≤ Ls) (hLs : Ls ≤ 384) (hI : tk_Inv a b σ τ) (hk : ∀ μ2, tk_IM μ2 → tk_J l D cy (some (Ls, xs)) M_L_law (932, [some (.ref 0), some (.ref 1), some (.ref 47), some (.int (nI j))], [], μ2, kc, ks) q) : tk_J l D cy (some (Ls, xs)) M_L_law (615, [some (.ref 0), some (.ref 1), some (.ref 47), some (.int (nI j))], [], (σ, tk_rho a b, τ, 62), kc, ks) q := by
  refine tk_run (hT_L_law xs Ls) [932] 60 _ ?_
  refine tk_ift (tk_jin (c := 1) hj hLs (by decide)) ?_
  refine tk_cc (st_round hI) (fun v9 μ9 h9 => ?_)
  obtain ⟨x, σ1, ρ1, τ1, rfl, rfl, h2⟩ := h9
  refine tk_ift (tk_jin (c := 1) hj hLs (by decide)) ?_
  refine tk_cc h2 (fun v9 μ9 h9 => ?_)
  obtain ⟨rfl, hM⟩ := h9
  refine And.intro (fun _ => ?_) (fun z => absurd rfl z)
  exact hk _ hM
set_option maxRecDepth 100000 in
theorem la_odds (hj : j + 6 ≤ Ls) (hLs : Ls ≤ 384) (hI : tk_Inv a b σ τ) (hk : ∀ μ2, tk_IM μ2 → tk_J l D cy (some (Ls, xs)) M_L_law (932, [some (.ref 0), some (.ref 1), some (.ref 47), some (.int (nI j))], [], μ2, kc, ks) q) : tk_J l D cy (some (Ls, xs)) M_L_law (638, [some (.ref 0), some (.ref 1), some (.ref 47), some (.int (nI j))], [], (σ, tk_rho a b, τ, 62), kc, ks) q := by
  refine tk_run (hT_L_law xs Ls) [932] 60 _ ?_
  refine tk_ift (tk_jin (c := 1) hj hLs (by decide)) ?_
  refine tk_ift (tk_jin (c := 2) hj hLs (by decide)) ?_
  refine tk_ift (tk_jin (c := 3) hj hLs (by decide)) ?_
  refine tk_ift (tk_jin (c := 4) hj hLs (by decide)) ?_
  refine tk_ift (tk_jin (c := 5) hj hLs (by decide)) ?_
  refine tk_cc (st_odds hI) (fun v9 μ9 h9 => ?_)
  obtain ⟨x, σ1, ρ1, τ1, rfl, rfl, h2⟩ := h9
  refine tk_ift (tk_jin (c := 1) hj hLs (by decide)) ?_
  refine tk_ift (tk_jin (c := 2) hj hLs (by decide)) ?_
  refine tk_ift (tk_jin (c := 3) hj hLs (by decide)) ?_
  refine tk_ift (tk_jin (c := 4) hj hLs (by decide)) ?_
  refine tk_ift (tk_jin (c := 5) hj hLs (by decide)) ?_
  refine tk_cc h2 (fun v9 μ9 h9 => ?_)
  obtain ⟨rfl, hM⟩ := h9
  refine And.intro (fun _ => ?_) (fun z => absurd rfl z)
  exact hk _ hM
set_option maxRecDepth 100000 in
theorem la_found (hj : j + 6 ≤ Ls) (hLs : Ls ≤ 384) (hI : tk_Inv a b σ τ) (hk : ∀ μ2, tk_IM μ2 → tk_J l D cy (some (Ls, xs)) M_L_law (932, [some (.ref 0), some (.ref 1), some (.ref 47), some (.int (nI j))], [], μ2, kc, ks) q) : tk_J l D cy (some (Ls, xs)) M_L_law (701, [some (.ref 0), some (.ref 1), some (.ref 47), some (.int (nI j))], [], (σ, tk_rho a b, τ, 62), kc, ks) q := by
  refine tk_run (hT_L_law xs Ls) [932] 60 _ ?_
  refine tk_ift (tk_jin (c := 1) hj hLs (by decide)) ?_
  refine tk_ift (tk_jin (c := 2) hj hLs (by decide)) ?_
  refine tk_cc (st_found hI) (fun v9 μ9 h9 => ?_)
  obtain ⟨x, σ1, ρ1, τ1, rfl, rfl, h2⟩ := h9
  refine tk_ift (tk_jin (c := 1) hj hLs (by decide)) ?_
  refine tk_ift (tk_jin (c := 2) hj hLs (by decide)) ?_
  refine tk_cc h2 (fun v9 μ9 h9 => ?_)
  obtain ⟨rfl, hM⟩ := h9
  refine And.intro (fun _ => ?_) (fun z => absurd rfl z)
  exact hk _ hM
set_option maxRecDepth 100000 in
theorem la_began (hj : j + 6 ≤ Ls) (hLs : Ls ≤ 384) (hI : tk_Inv a b σ τ) (hk : ∀ μ2, tk_IM μ2 → tk_J l D cy (some (Ls, xs)) M_L_law (932, [some (.ref 0), some (.ref 1), some (.ref 47), some (.int (nI j))], [], μ2, kc, ks) q) : tk_J l D cy (some (Ls, xs)) M_L_law (734, [some (.ref 0), some (.ref 1), some (.ref 47), some (.int (nI j))], [], (σ, tk_rho a b, τ, 62), kc, ks) q := by
  refine tk_run (hT_L_law xs Ls) [932] 60 _ ?_
  refine tk_cc (st_began hI) (fun v9 μ9 h9 => ?_)
  obtain ⟨x, σ1, ρ1, τ1, rfl, rfl, h2⟩ := h9
  refine tk_cc h2 (fun v9 μ9 h9 => ?_)
  obtain ⟨rfl, hM⟩ := h9
  refine And.intro (fun _ => ?_) (fun z => absurd rfl z)
  exact hk _ hM
set_option maxRecDepth 100000 in
theorem la_saw (hj : j + 6 ≤ Ls) (hLs : Ls ≤ 384) (hI : tk_Inv a b σ τ) (hk : ∀ μ2, tk_IM μ2 → tk_J l D cy (some (Ls, xs)) M_L_law (932, [some (.ref 0), some (.ref 1), some (.ref 47), some (.int (nI j))], [], μ2, kc, ks) q) : tk_J l D cy (some (Ls, xs)) M_L_law (747, [some (.ref 0), some (.ref 1), some (.ref 47), some (.int (nI j))], [], (σ, tk_rho a b, τ, 62), kc, ks) q := by
  refine tk_run (hT_L_law xs Ls) [932] 60 _ ?_
  refine tk_ift (tk_jin (c := 1) hj hLs (by decide)) ?_
  refine tk_ift (tk_jin (c := 2) hj hLs (by decide)) ?_
  refine tk_cc (st_saw hI) (fun v9 μ9 h9 => ?_)
  obtain ⟨x, σ1, ρ1, τ1, rfl, rfl, h2⟩ := h9
  refine tk_ift (tk_jin (c := 1) hj hLs (by decide)) ?_
  refine tk_ift (tk_jin (c := 2) hj hLs (by decide)) ?_
  refine tk_cc h2 (fun v9 μ9 h9 => ?_)
  obtain ⟨rfl, hM⟩ := h9
  refine And.intro (fun _ => ?_) (fun z => absurd rfl z)
  exact hk _ hM
set_option maxRecDepth 100000 in
theorem la_laws (hj : j + 6 ≤ Ls) (hLs : Ls ≤ 384) (hI : tk_Inv a b σ τ) (hk : ∀ μ2, tk_IM μ2 → tk_J l D cy (some (Ls, xs)) M_L_law (932, [some (.ref 0), some (.ref 1), some (.ref 47), some (.int (nI j))], [], μ2, kc, ks) q) : tk_J l D cy (some (Ls, xs)) M_L_law (780, [some (.ref 0), some (.ref 1), some (.ref 47), some (.int (nI j))], [], (σ, tk_rho a b, τ, 62), kc, ks) q := by
  refine tk_run (hT_L_law xs Ls) [932] 60 _ ?_
  refine tk_ift (tk_jin (c := 1) hj hLs (by decide)) ?_
  refine tk_cc (st_laws hI) (fun v9 μ9 h9 => ?_)
  obtain ⟨x, σ1, ρ1, τ1, rfl, rfl, h2⟩ := h9
  refine tk_ift (tk_jin (c := 1) hj hLs (by decide)) ?_
  refine tk_cc h2 (fun v9 μ9 h9 => ?_)
  obtain ⟨rfl, hM⟩ := h9
  refine And.intro (fun _ => ?_) (fun z => absurd rfl z)
  exact hk _ hM
set_option maxRecDepth 100000 in
theorem la_forget (hj : j + 6 ≤ Ls) (hLs : Ls ≤ 384) (hI : tk_Inv a b σ τ) (hk : ∀ μ2, tk_IM μ2 → tk_J l D cy (some (Ls, xs)) M_L_law (932, [some (.ref 0), some (.ref 1), some (.ref 47), some (.int (nI j))], [], μ2, kc, ks) q) : tk_J l D cy (some (Ls, xs)) M_L_law (803, [some (.ref 0), some (.ref 1), some (.ref 47), some (.int (nI j))], [], (σ, tk_rho a b, τ, 62), kc, ks) q := by
  refine tk_run (hT_L_law xs Ls) [932] 60 _ ?_
  refine tk_cc (st_forget hI) (fun v9 μ9 h9 => ?_)
  obtain ⟨x, σ1, ρ1, τ1, rfl, rfl, h2⟩ := h9
  refine tk_cc h2 (fun v9 μ9 h9 => ?_)
  obtain ⟨rfl, hM⟩ := h9
  refine And.intro (fun _ => ?_) (fun z => absurd rfl z)
  exact hk _ hM
set_option maxRecDepth 100000 in
theorem la_rate (hj : j + 6 ≤ Ls) (hLs : Ls ≤ 384) (hI : tk_Inv a b σ τ) (hk : ∀ μ2, tk_IM μ2 → tk_J l D cy (some (Ls, xs)) M_L_law (932, [some (.ref 0), some (.ref 1), some (.ref 47), some (.int (nI j))], [], μ2, kc, ks) q) : tk_J l D cy (some (Ls, xs)) M_L_law (816, [some (.ref 0), some (.ref 1), some (.ref 47), some (.int (nI j))], [], (σ, tk_rho a b, τ, 62), kc, ks) q := by
  refine tk_run (hT_L_law xs Ls) [932] 60 _ ?_
  refine tk_ift (tk_jin (c := 1) hj hLs (by decide)) ?_
  refine tk_ift (tk_jin (c := 2) hj hLs (by decide)) ?_
  refine tk_cc (st_rate hI) (fun v9 μ9 h9 => ?_)
  obtain ⟨x, σ1, ρ1, τ1, rfl, rfl, h2⟩ := h9
  refine tk_ift (tk_jin (c := 1) hj hLs (by decide)) ?_
  refine tk_ift (tk_jin (c := 2) hj hLs (by decide)) ?_
  refine tk_cc h2 (fun v9 μ9 h9 => ?_)
  obtain ⟨rfl, hM⟩ := h9
  refine And.intro (fun _ => ?_) (fun z => absurd rfl z)
  exact hk _ hM
set_option maxRecDepth 100000 in
theorem la_keep (hj : j + 6 ≤ Ls) (hLs : Ls ≤ 384) (hI : tk_Inv a b σ τ) (hk : ∀ μ2, tk_IM μ2 → tk_J l D cy (some (Ls, xs)) M_L_law (932, [some (.ref 0), some (.ref 1), some (.ref 47), some (.int (nI j))], [], μ2, kc, ks) q) : tk_J l D cy (some (Ls, xs)) M_L_law (849, [some (.ref 0), some (.ref 1), some (.ref 47), some (.int (nI j))], [], (σ, tk_rho a b, τ, 62), kc, ks) q := by
  refine tk_run (hT_L_law xs Ls) [932] 60 _ ?_
  refine tk_ift (tk_jin (c := 1) hj hLs (by decide)) ?_
  refine tk_cc (st_keep hI) (fun v9 μ9 h9 => ?_)
  obtain ⟨x, σ1, ρ1, τ1, rfl, rfl, h2⟩ := h9
  refine tk_ift (tk_jin (c := 1) hj hLs (by decide)) ?_
  refine tk_cc h2 (fun v9 μ9 h9 => ?_)
  obtain ⟨rfl, hM⟩ := h9
  refine And.intro (fun _ => ?_) (fun z => absurd rfl z)
  exact hk _ hM
set_option maxRecDepth 100000 in
theorem la_back (hj : j + 6 ≤ Ls) (hLs : Ls ≤ 384) (hI : tk_Inv a b σ τ) (hk : ∀ μ2, tk_IM μ2 → tk_J l D cy (some (Ls, xs)) M_L_law (932, [some (.ref 0), some (.ref 1), some (.ref 47), some (.int (nI j))], [], μ2, kc, ks) q) : tk_J l D cy (some (Ls, xs)) M_L_law (872, [some (.ref 0), some (.ref 1), some (.ref 47), some (.int (nI j))], [], (σ, tk_rho a b, τ, 62), kc, ks) q := by
  refine tk_run (hT_L_law xs Ls) [932] 60 _ ?_
  refine tk_ift (tk_jin (c := 1) hj hLs (by decide)) ?_
  refine tk_cc (st_back hI) (fun v9 μ9 h9 => ?_)
  obtain ⟨x, σ1, ρ1, τ1, rfl, rfl, h2⟩ := h9
  refine tk_ift (tk_jin (c := 1) hj hLs (by decide)) ?_
  refine tk_cc h2 (fun v9 μ9 h9 => ?_)
  obtain ⟨rfl, hM⟩ := h9
  refine And.intro (fun _ => ?_) (fun z => absurd rfl z)
  exact hk _ hM
set_option maxRecDepth 100000 in
theorem la_count (hj : j + 6 ≤ Ls) (hLs : Ls ≤ 384) (hI : tk_Inv a b σ τ) (hk : ∀ μ2, tk_IM μ2 → tk_J l D cy (some (Ls, xs)) M_L_law (932, [some (.ref 0), some (.ref 1), some (.ref 47), some (.int (nI j))], [], μ2, kc, ks) q) : tk_J l D cy (some (Ls, xs)) M_L_law (895, [some (.ref 0), some (.ref 1), some (.ref 47), some (.int (nI j))], [], (σ, tk_rho a b, τ, 62), kc, ks) q := by
  refine tk_run (hT_L_law xs Ls) [932] 60 _ ?_
  refine tk_ift (tk_jin (c := 1) hj hLs (by decide)) ?_
  refine tk_cc (st_count hI) (fun v9 μ9 h9 => ?_)
  obtain ⟨x, σ1, ρ1, τ1, rfl, rfl, h2⟩ := h9
  refine tk_ift (tk_jin (c := 1) hj hLs (by decide)) ?_
  refine tk_cc h2 (fun v9 μ9 h9 => ?_)
  obtain ⟨rfl, hM⟩ := h9
  refine And.intro (fun _ => ?_) (fun z => absurd rfl z)
  exact hk _ hM
set_option maxRecDepth 100000 in
theorem la_trace (hj : j + 6 ≤ Ls) (hLs : Ls ≤ 384) (hI : tk_Inv a b σ τ) (hk : ∀ μ2, tk_IM μ2 → tk_J l D cy (some (Ls, xs)) M_L_law (932, [some (.ref 0), some (.ref 1), some (.ref 47), some (.int (nI j))], [], μ2, kc, ks) q) : tk_J l D cy (some (Ls, xs)) M_L_law (918, [some (.ref 0), some (.ref 1), some (.ref 47), some (.int (nI j))], [], (σ, tk_rho a b, τ, 62), kc, ks) q := by
  refine tk_run (hT_L_law xs Ls) [932] 60 _ ?_
  refine tk_cc (st_trace hI) (fun v9 μ9 h9 => ?_)
  obtain ⟨x, σ1, ρ1, τ1, rfl, rfl, h2⟩ := h9
  refine tk_cc h2 (fun v9 μ9 h9 => ?_)
  obtain ⟨rfl, hM⟩ := h9
  refine And.intro (fun _ => ?_) (fun z => absurd (by unfold lg_cmp; rw [if_neg (by exact Int64.lt_irrefl), if_pos rfl]) z)
  exact hk _ hM
end
