/-! all items -/
def tk_main (f : Nat → Int32) (L : Nat) : Nat → (Nat → Nat → Int32) → Nat → Nat → Sum Nat ((Nat → Nat → Int32) × Nat)
  | 0, G, _, i => Sum.inr (G, i)
  | d + 1, G, p, i => if L ≤ tk_q f L p then Sum.inr (G, i) else match tk_item f L G p with
    | Sum.inl q => Sum.inl q
    | Sum.inr x => tk_main f L d x.1 x.2 (i + 1)
theorem tk_fi_r {f : Nat → Int32} {L : Nat} {r : Sum Nat ((Nat → Nat → Int32) × Nat)} {x : (Nat → Nat → Int32) × Nat} (h : tk_fi f L r = Sum.inr x) : ∃ y, r = Sum.inr y ∧ x = (y.1, tk_nx f L y.2) := by
  cases r with
  | inl q => cases h
  | inr y => exact ⟨y, rfl, (Sum.inr.inj (tk_need_r h).2).symm⟩
theorem tk_nxl {f : Nat → Int32} {L p : Nat} {c : Int32} (hp : p ≤ L) (hc : ¬ tk_dg c = true) (h : tk_ltr f L c p = true) : p < tk_nx f L p := by
  have h := tk_ltrI.mp h
  have h1 := tk_q_le (f := f) hp
  rw [tk_nx, if_neg (by omega), if_neg (by rw [h.2]; exact hc)]
  omega
theorem tk_rdM_ge {f : Nat → Int32} {L n : Nat} {G : Nat → Nat → Int32} {x : (Nat → Nat → Int32) × Nat} (hn : n ≤ L) (h : tk_rdM f L G n = Sum.inr x) : n ≤ x.2 := by
  have h := Sum.inr.inj (tk_need_r (tk_need_r (tk_need_r h).2).2).2
  have h1 := tk_nx_le (f := f) hn
  have h2 := tk_nx_le (f := f) h1.2
  have h3 := tk_nx_le (f := f) h2.2
  rw [← h]
  dsimp only
  omega
theorem tk_rdD_ge {f : Nat → Int32} {L n : Nat} {G : Nat → Nat → Int32} {x : (Nat → Nat → Int32) × Nat} (hn : n ≤ L) (h : tk_rdD f L G n = Sum.inr x) : n ≤ x.2 := by
  have h := Sum.inr.inj (tk_need_r (tk_need_r (tk_need_r h).2).2).2
  have h1 := tk_nx_le (f := f) hn
  have h2 := tk_nx_le (f := f) h1.2
  have h3 := tk_nx_le (f := f) h2.2
  rw [← h]
  dsimp only
  omega
theorem tk_rdK_ge {f : Nat → Int32} {L n : Nat} {G : Nat → Nat → Int32} {x : (Nat → Nat → Int32) × Nat} (hn : n ≤ L) (h : tk_rdK f L G n = Sum.inr x) : n ≤ x.2 := by
  have h := Sum.inr.inj (tk_need_r (tk_need_r h).2).2
  have h1 := tk_nx_le (f := f) hn
  have h2 := tk_nx_le (f := f) h1.2
  rw [← h]
  dsimp only
  omega
theorem tk_rdT_ge {f : Nat → Int32} {L n : Nat} {G : Nat → Nat → Int32} {x : (Nat → Nat → Int32) × Nat} (hn : n ≤ L) (h : tk_rdT f L G n = Sum.inr x) : n ≤ x.2 := by
  have h := Sum.inr.inj (tk_need_r h).2
  have h1 := tk_nx_le (f := f) hn
  rw [← h]
  dsimp only
  omega
theorem tk_item_lt {f : Nat → Int32} {L p : Nat} {G : Nat → Nat → Int32} {x : (Nat → Nat → Int32) × Nat} (hp : p ≤ L) (h : tk_item f L G p = Sum.inr x) : p < x.2 ∧ x.2 ≤ L := by
  have h1 := tk_nx_le (f := f) hp
  rw [tk_item] at h
  split at h
  · rename_i hc
    obtain ⟨y, hy, rfl⟩ := tk_fi_r h
    have a1 := tk_nxl hp (by decide) hc.1
    have a2 := tk_rdM_ge h1.2 hy
    have a3 := tk_nx_le (f := f) (tk_rdM_le h1.2 hy)
    dsimp only
    omega
  · split at h
    · rename_i hc
      obtain ⟨y, hy, rfl⟩ := tk_fi_r h
      have a1 := tk_nxl hp (by decide) hc.1
      have a2 := tk_rdK_ge h1.2 hy
      have a3 := tk_nx_le (f := f) (tk_rdK_le h1.2 hy)
      dsimp only
      omega
    · split at h
      · rename_i hc
        obtain ⟨y, hy, rfl⟩ := tk_fi_r h
        have a1 := tk_nxl hp (by decide) hc
        have a2 := tk_rdD_ge h1.2 hy
        have a3 := tk_nx_le (f := f) (tk_rdD_le h1.2 hy)
        dsimp only
        omega
      · split at h
        · rename_i hc
          obtain ⟨y, hy, rfl⟩ := tk_fi_r h
          have a1 := tk_nxl hp (by decide) hc.1
          have a2 := tk_rdT_ge h1.2 hy
          have a3 := tk_nx_le (f := f) (tk_rdT_le h1.2 hy)
          dsimp only
          omega
        · cases h
/-- a number that was taken lies within its bounds -/
theorem tk_num_b {f : Nat → Int32} {L p : Nat} {lo hi : Int32} (h : tk_num f L lo hi p = true) : lo ≤ tk_nv f L p ∧ tk_nv f L p ≤ hi := (tk_numI.mp h).2.2.2
theorem tk_num_k {f : Nat → Int32} {L p K : Nat} (hK : K ≤ 8) (h : tk_num f L 0 (nI K - 1) p = true) : ∃ j, j < K ∧ tk_nv f L p = nI j := by
  have hb := tk_num_b h
  have hlt : tk_nv f L p < nI K := (tk_le_sub1 (nI_pos' (by omega))).mp hb.2
  exact tk_ix ⟨hb.1, hlt⟩ (Int32.le_refl _) (by omega)
theorem tk_rdM_V {f : Nat → Int32} {L n : Nat} {G : Nat → Nat → Int32} {x : (Nat → Nat → Int32) × Nat} (hG : tk_VG G) (h : tk_rdM f L G n = Sum.inr x) : tk_VG x.1 := by
  obtain ⟨n1, h⟩ := tk_need_r h
  obtain ⟨n2, h⟩ := tk_need_r h
  obtain ⟨n3, h⟩ := tk_need_r h
  rw [← Sum.inr.inj h]
  obtain ⟨K, N, hK, hN, eK, eN, h1, h2, h3, h4, h5, h6⟩ := hG
  have b1 := tk_num_b n1
  have b2 := tk_num_b n2
  have b3 := tk_num_b n3
  have h0 : 0 ≤ tk_nv f L n := Int32.le_trans (by decide) b1.1
  rw [tk_le_sub1 h0] at b2 b3
  refine ⟨K, N, hK, hN, eK, eN, b1, b2, b3, h4, h5, Or.inr rfl⟩
theorem tk_rdK_V {f : Nat → Int32} {L n : Nat} {G : Nat → Nat → Int32} {x : (Nat → Nat → Int32) × Nat} (hG : tk_VG G) (h8 : G 3 3 < 8) (h : tk_rdK f L G n = Sum.inr x) : tk_VG x.1 := by
  obtain ⟨n1, h⟩ := tk_need_r h
  obtain ⟨n2, h⟩ := tk_need_r h
  rw [← Sum.inr.inj h]
  obtain ⟨K, N, hK, hN, eK, eN, h1, h2, h3, h4, h5, h6⟩ := hG
  rw [eK] at h8
  have hK8 : K < 8 := (nI_ltI (b := 8) (by omega) (by omega)).mp h8
  have hcl : (G 3 3).toNatClampNeg = K := by rw [eK, nI_clamp (by omega)]
  dsimp only
  rw [hcl, eK, nI_1]
  refine ⟨K + 1, N, by omega, hN, by simp [tk_up], by simpa [tk_up] using eN, by simpa [tk_up] using h1, by simpa [tk_up] using h2, by simpa [tk_up] using h3, fun k hk => ?_, fun t ht => ?_, by simpa [tk_up] using h6⟩
  · by_cases hkK : k = K
    · subst hkK
      refine ⟨⟨k, by omega, by simp [tk_up]⟩, by simp [tk_up]⟩
    · obtain ⟨⟨j, hj, ej⟩, hd⟩ := h4 k (by omega)
      exact ⟨⟨j, by omega, by simpa [tk_up, hkK] using ej⟩, by simpa [tk_up, hkK] using hd⟩
  · obtain ⟨j, hj, ej⟩ := h5 t ht
    exact ⟨j, by omega, by simpa [tk_up] using ej⟩
theorem tk_rdD_V {f : Nat → Int32} {L n : Nat} {G : Nat → Nat → Int32} {x : (Nat → Nat → Int32) × Nat} (hG : tk_VG G) (h : tk_rdD f L G n = Sum.inr x) : tk_VG x.1 := by
  obtain ⟨n1, h⟩ := tk_need_r h
  obtain ⟨n2, h⟩ := tk_need_r h
  obtain ⟨n3, h⟩ := tk_need_r h
  rw [← Sum.inr.inj h]
  obtain ⟨K, N, hK, hN, eK, eN, h1, h2, h3, h4, h5, h6⟩ := hG
  rw [eK] at n1 n2
  obtain ⟨j1, hj1, ej1⟩ := tk_num_k hK n1
  obtain ⟨j2, hj2, ej2⟩ := tk_num_k hK n2
  have b3 := tk_num_b n3
  dsimp only
  rw [ej1, ej2, nI_clamp (by omega)]
  refine ⟨K, N, hK, hN, by simpa [tk_up] using eK, by simpa [tk_up] using eN, by simpa [tk_up] using h1, by simpa [tk_up] using h2, by simpa [tk_up] using h3, fun k hk => ?_, fun t ht => ?_, by simpa [tk_up] using h6⟩
  · by_cases hkK : k = j1
    · subst hkK
      refine ⟨⟨j2, hj2, by simp [tk_up]⟩, by simpa [tk_up] using b3⟩
    · obtain ⟨⟨j, hj, ej⟩, hd⟩ := h4 k hk
      exact ⟨⟨j, hj, by simpa [tk_up, hkK] using ej⟩, by simpa [tk_up, hkK] using hd⟩
  · obtain ⟨j, hj, ej⟩ := h5 t ht
    exact ⟨j, hj, by simpa [tk_up] using ej⟩
theorem tk_rdT_V {f : Nat → Int32} {L n : Nat} {G : Nat → Nat → Int32} {x : (Nat → Nat → Int32) × Nat} (hG : tk_VG G) (h5' : G 3 4 < 5) (h : tk_rdT f L G n = Sum.inr x) : tk_VG x.1 := by
  obtain ⟨n1, h⟩ := tk_need_r h
  rw [← Sum.inr.inj h]
  obtain ⟨K, N, hK, hN, eK, eN, h1, h2, h3, h4, h5, h6⟩ := hG
  rw [eN] at h5'
  rw [eK] at n1
  have hN5 : N < 5 := (nI_ltI (b := 5) (by omega) (by omega)).mp h5'
  obtain ⟨j1, hj1, ej1⟩ := tk_num_k hK n1
  have hcl : (G 3 4).toNatClampNeg = N := by rw [eN, nI_clamp (by omega)]
  dsimp only
  rw [hcl, eN, nI_1, ej1]
  refine ⟨K, N + 1, hK, by omega, by simpa [tk_up] using eK, by simp [tk_up], by simpa [tk_up] using h1, by simpa [tk_up] using h2, by simpa [tk_up] using h3, fun k hk => ?_, fun t ht => ?_, by simpa [tk_up] using h6⟩
  · obtain ⟨⟨j, hj, ej⟩, hd⟩ := h4 k hk
    exact ⟨⟨j, hj, by simpa [tk_up] using ej⟩, by simpa [tk_up] using hd⟩
  · by_cases htN : t = N
    · subst htN
      exact ⟨j1, hj1, by simp [tk_up]⟩
    · obtain ⟨j, hj, ej⟩ := h5 t (by omega)
      exact ⟨j, hj, by simpa [tk_up, htN] using ej⟩
theorem tk_item_V {f : Nat → Int32} {L p : Nat} {G : Nat → Nat → Int32} {x : (Nat → Nat → Int32) × Nat} (hG : tk_VG G) (h : tk_item f L G p = Sum.inr x) : tk_VG x.1 := by
  rw [tk_item] at h
  split at h
  · obtain ⟨y, hy, rfl⟩ := tk_fi_r h
    exact tk_rdM_V (x := y) hG hy
  · split at h
    · rename_i hc
      obtain ⟨y, hy, rfl⟩ := tk_fi_r h
      exact tk_rdK_V (x := y) hG hc.2 hy
    · split at h
      · obtain ⟨y, hy, rfl⟩ := tk_fi_r h
        exact tk_rdD_V (x := y) hG hy
      · split at h
        · rename_i hc
          obtain ⟨y, hy, rfl⟩ := tk_fi_r h
          exact tk_rdT_V (x := y) hG hc.2 hy
        · cases h
