/-! the law: its loop, its start -/
theorem tk_Inv0 {σ : Nat → Nat → Int32} {τ : Nat → Nat → Int64} (hτ : ∀ x y, τ x y = 0) (h : tk_I9 σ) : tk_Inv 4 10 σ τ := by
  obtain ⟨i1, i2, ⟨n0, n1, n2, n3, n4⟩, i4, i5, ⟨f3, f23, f26, f20, f570, f571⟩⟩ := h
  have z : ∀ x y, x < 47 → y < 30 → x ≠ 4 → x ≠ 10 → σ x y = 0 := fun x y hx hy h4 h10 => by
    rw [i1 x y hx, tk_s6_is x hx y hy, if_neg (by omega)]
  have t4 : ∀ y, y < 5 → σ 4 y = tk_G0 3 y := fun y hy => by
    rw [i1 4 y (by omega), tk_s6_is 4 (by omega) y (by omega), if_pos (Or.inl rfl)]
    rfl
  have agE : tk_Ag 0 tk_G0 (tk_E σ 4) := ⟨fun y hy => (t4 y hy).symm, fun k hk => absurd hk (Nat.not_lt_zero k)⟩
  have agF : tk_Ag 0 tk_G0 (tk_F σ) := ⟨fun y hy => by
    have hy5 : y = 0 ∨ y = 1 ∨ y = 2 ∨ y = 3 ∨ y = 4 := by omega
    rcases hy5 with rfl | rfl | rfl | rfl | rfl
    · exact n2.symm
    · exact n3.symm
    · exact n4.symm
    · exact n0.symm
    · exact n1.symm, fun k hk => absurd hk (Nat.not_lt_zero k)⟩
  have hG := tk_VGE tk_G0V
  refine ⟨0, 0, 0, 0, 0, 0, 0, ⟨Or.inr rfl, by decide, i2, by rw [hτ, hτ]⟩, ⟨Or.inl rfl, by omega, by omega, tk_VE_ag (K := 0) hG rfl (by decide) agE, tk_VE_ag (K := 0) hG rfl (by decide) agF, ⟨fun y hy => (agE.1 y hy).symm.trans (agF.1 y hy), fun k hk => absurd hk (Nat.not_lt_zero k)⟩, t4 3 (by omega), t4 4 (by omega)⟩, ⟨⟨0, by omega, z 16 0 (by omega) (by omega) (by omega) (by omega), i4 0 (by omega)⟩, ⟨0, by omega, z 16 1 (by omega) (by omega) (by omega) (by omega), i4 12 (by omega)⟩, ⟨0, by omega, i4 11 (by omega), fun t ht => absurd ht (Nat.not_lt_zero t)⟩, fun t ht => absurd ht (Nat.not_lt_zero t), fun t ht => ?_⟩, ⟨by omega, by omega, z 23 1 (by omega) (by omega) (by omega) (by omega), z 23 2 (by omega) (by omega) (by omega) (by omega), f20, fun i hi => absurd hi (Nat.not_lt_zero i)⟩, fun i hi => ?_, ⟨by omega, z 2 1 (by omega) (by omega) (by omega) (by omega), f3, fun i => ?_, fun i hi => absurd hi (Nat.not_lt_zero i)⟩, ⟨by omega, z 39 2 (by omega) (by omega) (by omega) (by omega), f23, fun i hi => absurd hi (Nat.not_lt_zero i)⟩, ⟨by omega, z 42 2 (by omega) (by omega) (by omega) (by omega), f26, fun i hi => absurd hi (Nat.not_lt_zero i)⟩⟩
  · rw [tk_NV2]
    exact Or.inl (z _ _ (by omega) (by omega) (by omega) (by omega))
  · have hi2 : i = 0 ∨ i = 1 := by omega
    rw [z 38 i (by omega) (by omega) (by omega) (by omega)]
    rcases hi2 with rfl | rfl
    · exact ⟨Or.inl rfl, f570, fun q => absurd rfl q⟩
    · exact ⟨Or.inl rfl, f571, fun q => absurd rfl q⟩
  · rw [i5 i, i1 3 i (by omega), tk_s6_3]
set_option maxRecDepth 100000 in
theorem k_law {xs : Nat → Int32} {Ls : Nat} {l : Launch} {D : va_G} {cy : Nat → ClassId} (hLs : Ls ≤ 384) : tk_J l D cy (some (Ls, xs)) M_L_law (0, [some (.ref 0), none, none, none], [], (tk_s0, tk_r0, tk_t0, 0), 0, 0) (fun v _ => v = some (.int 1)) := by
  have hcmp : ∀ j, j ≤ 384 → (Int32.ofNat Ls - 6 < nI j ↔ Ls < j + 6) := fun j hj => by
    show nI Ls - nI 6 < nI j ↔ Ls < j + 6
    by_cases h : 6 ≤ Ls
    · rw [pk_sub h, nI_ltI (by omega) (by omega)]
      omega
    · have := pk_sneg (a := Ls) (b := 6) (by decide) (by omega)
      exact ⟨fun _ => by omega, fun _ => Int32.lt_of_lt_of_le this (nI_pos' (by omega))⟩
  have loop : ∀ (n j : Nat) (i : Int32) (μ : tk_Me) (kc ks : Nat), i = nI j → Ls ≤ j + n → j ≤ Ls → tk_IM μ → tk_J l D cy (some (Ls, xs)) M_L_law (18, [some (.ref 0), some (.ref 1), some (.ref 47), some (.int i)], [], μ, kc, ks) (fun v _ => v = some (.int 1)) := by
    have out : ∀ (j : Nat) (μ : tk_Me) (kc ks : Nat), j ≤ Ls → Ls < j + 6 → tk_J l D cy (some (Ls, xs)) M_L_law (18, [some (.ref 0), some (.ref 1), some (.ref 47), some (.int (nI j))], [], μ, kc, ks) (fun v _ => v = some (.int 1)) := by
      intro j μ kc ks hj hlt
      refine tk_run (hT_L_law xs Ls) [27] 60 _ ?_
      refine And.intro (fun _ => ?_) (fun z => absurd ((hcmp j (by omega)).mpr hlt) z)
      exact And.intro (Or.inr rfl) rfl
    intro n
    induction n with
    | zero =>
      intro j i μ kc ks hi hn hj _
      subst hi
      exact out j μ kc ks hj (by omega)
    | succ n ih =>
      intro j i μ kc ks hi hn hj hM
      subst hi
      by_cases hlt : Ls < j + 6
      · exact out j μ kc ks hj hlt
      · have hj6 : j + 6 ≤ Ls := by omega
        have hk : ∀ μ2, tk_IM μ2 → tk_J l D cy (some (Ls, xs)) M_L_law (932, [some (.ref 0), some (.ref 1), some (.ref 47), some (.int (nI j))], [], μ2, kc, ks) (fun v _ => v = some (.int 1)) := by
          intro μ2 hM2
          refine tk_run (hT_L_law xs Ls) [18] 60 _ ?_
          exact ih (j + 6) _ μ2 kc ks (nI_add j 6) (by omega) (by omega) hM2
        have hM0 := hM
        obtain ⟨a, b, σ, τ, rfl, hI⟩ := hM
        refine tk_run (hT_L_law xs Ls) [164, 187, 200, 213, 246, 279, 302, 325, 358, 391, 404, 427, 450, 473, 506, 539, 582, 615, 638, 701, 734, 747, 780, 803, 816, 849, 872, 895, 918, 932] 60 _ ?_
        refine And.intro (fun z => absurd ((hcmp j (by omega)).mp z) hlt) (fun _ => ?_)
        refine tk_ift (tk_in_nI (by omega) (by omega)) ?_
        refine And.intro (fun _ => la_type hj6 hLs hI hk) (fun _ => ?_)
        refine And.intro (fun _ => la_clear hj6 hLs hI hk) (fun _ => ?_)
        refine And.intro (fun _ => la_towns hj6 hLs hI hk) (fun _ => ?_)
        refine And.intro (fun _ => la_kerb hj6 hLs hI hk) (fun _ => ?_)
        refine And.intro (fun _ => la_thing hj6 hLs hI hk) (fun _ => ?_)
        refine And.intro (fun _ => la_now hj6 hLs hI hk) (fun _ => ?_)
        refine And.intro (fun _ => la_tides hj6 hLs hI hk) (fun _ => ?_)
        refine And.intro (fun _ => la_ties hj6 hLs hI hk) (fun _ => ?_)
        refine And.intro (fun _ => la_carries hj6 hLs hI hk) (fun _ => ?_)
        refine And.intro (fun _ => la_undo hj6 hLs hI hk) (fun _ => ?_)
        refine And.intro (fun _ => la_level hj6 hLs hI hk) (fun _ => ?_)
        refine And.intro (fun _ => la_high hj6 hLs hI hk) (fun _ => ?_)
        refine And.intro (fun _ => la_flood hj6 hLs hI hk) (fun _ => ?_)
        refine And.intro (fun _ => la_where hj6 hLs hI hk) (fun _ => ?_)
        refine And.intro (fun _ => la_when hj6 hLs hI hk) (fun _ => ?_)
        refine And.intro (fun _ => la_send hj6 hLs hI hk) (fun _ => ?_)
        refine And.intro (fun _ => la_meet hj6 hLs hI hk) (fun _ => ?_)
        refine And.intro (fun _ => la_round hj6 hLs hI hk) (fun _ => ?_)
        refine And.intro (fun _ => la_odds hj6 hLs hI hk) (fun _ => ?_)
        refine And.intro (fun _ => la_found hj6 hLs hI hk) (fun _ => ?_)
        refine And.intro (fun _ => la_began hj6 hLs hI hk) (fun _ => ?_)
        refine And.intro (fun _ => la_saw hj6 hLs hI hk) (fun _ => ?_)
        refine And.intro (fun _ => la_laws hj6 hLs hI hk) (fun _ => ?_)
        refine And.intro (fun _ => la_forget hj6 hLs hI hk) (fun _ => ?_)
        refine And.intro (fun _ => la_rate hj6 hLs hI hk) (fun _ => ?_)
        refine And.intro (fun _ => la_keep hj6 hLs hI hk) (fun _ => ?_)
        refine And.intro (fun _ => la_back hj6 hLs hI hk) (fun _ => ?_)
        refine And.intro (fun _ => la_count hj6 hLs hI hk) (fun _ => ?_)
        refine And.intro (fun _ => la_trace hj6 hLs hI hk) (fun _ => ?_)
        exact hk _ hM0
  refine tk_run (hT_L_law xs Ls) [18] 60 _ ?_
  refine tk_cc (k_iX6) (fun v9 μ9 h9 => ?_)
  obtain ⟨rfl, rfl⟩ := h9
  refine tk_cc k_iX7 (fun v9 μ9 h9 => ?_)
  obtain ⟨rfl, σ', τ', rfl, hτ, h9⟩ := h9
  exact loop Ls 0 _ _ _ _ rfl (by omega) (by omega) ⟨4, 10, σ', τ', rfl, tk_Inv0 hτ h9⟩
