/-! towns, of the class -/
theorem tk_rhoS {a b : Nat} : tk_up (tk_up (tk_rho a b) 1 1 (some b)) 1 2 (some a) = tk_rho b a := by
  funext p k
  unfold tk_up
  by_cases h2 : p = 1 ∧ k = 2
  · rw [if_pos h2, h2.1, h2.2]
    rfl
  · rw [if_neg h2]
    by_cases h1 : p = 1 ∧ k = 1
    · rw [if_pos h1, h1.1, h1.2]
      rfl
    · rw [if_neg h1]
      by_cases hp : p = 1
      · subst hp
        match k, h1, h2 with
        | 0, _, _ => rfl
        | 1, h, _ => exact absurd ⟨rfl, rfl⟩ h
        | 2, _, h => exact absurd ⟨rfl, rfl⟩ h
        | k + 3, _, _ => rfl
      · match p, hp with
        | 0, _ => rfl
        | 1, h => exact absurd rfl h
        | p + 2, _ => rfl
theorem tk_need_l {α : Type} {c : Bool} {q q' : Nat} {x : Sum Nat α} (h : tk_need c q x = Sum.inl q') : q' = q ∨ x = Sum.inl q' := by
  unfold tk_need at h
  split at h
  · exact Or.inr h
  · exact Or.inl (Sum.inl.inj h).symm
theorem tk_rdM_l {f : Nat → Int32} {L n q : Nat} {G : Nat → Nat → Int32} (hn : n ≤ L) (h : tk_rdM f L G n = Sum.inl q) : q ≤ L := by
  have h1 := tk_nx_le (f := f) hn
  have h2 := tk_nx_le (f := f) h1.2
  rcases tk_need_l h with rfl | h
  · exact (tk_q_le hn).2
  · rcases tk_need_l h with rfl | h
    · exact (tk_q_le h1.2).2
    · rcases tk_need_l h with rfl | h
      · exact (tk_q_le h2.2).2
      · cases h
theorem tk_rdD_l {f : Nat → Int32} {L n q : Nat} {G : Nat → Nat → Int32} (hn : n ≤ L) (h : tk_rdD f L G n = Sum.inl q) : q ≤ L := by
  have h1 := tk_nx_le (f := f) hn
  have h2 := tk_nx_le (f := f) h1.2
  rcases tk_need_l h with rfl | h
  · exact (tk_q_le hn).2
  · rcases tk_need_l h with rfl | h
    · exact (tk_q_le h1.2).2
    · rcases tk_need_l h with rfl | h
      · exact (tk_q_le h2.2).2
      · cases h
theorem tk_rdK_l {f : Nat → Int32} {L n q : Nat} {G : Nat → Nat → Int32} (hn : n ≤ L) (h : tk_rdK f L G n = Sum.inl q) : q ≤ L := by
  have h1 := tk_nx_le (f := f) hn
  rcases tk_need_l h with rfl | h
  · exact (tk_q_le hn).2
  · rcases tk_need_l h with rfl | h
    · exact (tk_q_le h1.2).2
    · cases h
theorem tk_rdT_l {f : Nat → Int32} {L n q : Nat} {G : Nat → Nat → Int32} (hn : n ≤ L) (h : tk_rdT f L G n = Sum.inl q) : q ≤ L := by
  rcases tk_need_l h with rfl | h
  · exact (tk_q_le hn).2
  · cases h
theorem tk_fi_l {f : Nat → Int32} {L q : Nat} {r : Sum Nat ((Nat → Nat → Int32) × Nat)} (hl : ∀ q, r = Sum.inl q → q ≤ L) (hr : ∀ y, r = Sum.inr y → y.2 ≤ L) (h : tk_fi f L r = Sum.inl q) : q ≤ L := by
  cases r with
  | inl q' => exact hl q (by rw [← Sum.inl.inj h])
  | inr y =>
    rcases tk_need_l h with rfl | h
    · exact (tk_q_le (hr y rfl)).2
    · cases h
theorem tk_item_l {f : Nat → Int32} {L p q : Nat} {G : Nat → Nat → Int32} (hp : p ≤ L) (h : tk_item f L G p = Sum.inl q) : q ≤ L := by
  have h1 := tk_nx_le (f := f) hp
  rw [tk_item] at h
  split at h
  · exact tk_fi_l (fun q h => tk_rdM_l h1.2 h) (fun y h => tk_rdM_le h1.2 h) h
  · split at h
    · exact tk_fi_l (fun q h => tk_rdK_l h1.2 h) (fun y h => tk_rdK_le h1.2 h) h
    · split at h
      · exact tk_fi_l (fun q h => tk_rdD_l h1.2 h) (fun y h => tk_rdD_le h1.2 h) h
      · split at h
        · exact tk_fi_l (fun q h => tk_rdT_l h1.2 h) (fun y h => tk_rdT_le h1.2 h) h
        · rw [← Sum.inl.inj h]
          exact (tk_q_le hp).2
theorem tk_main_l {f : Nat → Int32} {L : Nat} : ∀ (d : Nat) (G : Nat → Nat → Int32) (p i q : Nat), p ≤ L → tk_main f L d G p i = Sum.inl q → q ≤ L
  | 0, G, p, i, q, _, h => by cases h
  | d + 1, G, p, i, q, hp, h => by
    rw [tk_main] at h
    split at h
    · cases h
    · split at h
      · rename_i q' hq
        rw [← Sum.inl.inj h]
        exact tk_item_l hp hq
      · rename_i x hx
        exact tk_main_l d x.1 x.2 (i + 1) q (tk_item_lt hp hx).2 h
theorem tk_main_r {f : Nat → Int32} {L : Nat} : ∀ (d : Nat) (G : Nat → Nat → Int32) (p i : Nat) (x : (Nat → Nat → Int32) × Nat), p ≤ L → i ≤ p → tk_VG G → tk_main f L d G p i = Sum.inr x → tk_VG x.1 ∧ x.2 ≤ L
  | 0, G, p, i, x, hp, hi, hV, h => by
    rw [← Sum.inr.inj h]
    exact ⟨hV, by dsimp only; omega⟩
  | d + 1, G, p, i, x, hp, hi, hV, h => by
    rw [tk_main] at h
    split at h
    · rw [← Sum.inr.inj h]
      exact ⟨hV, by dsimp only; omega⟩
    · split at h
      · cases h
      · rename_i y hy
        have hl := tk_item_lt hp hy
        exact tk_main_r d y.1 y.2 (i + 1) x hl.2 (by omega) (tk_item_V hV hy) h
