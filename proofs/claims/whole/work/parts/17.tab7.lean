theorem dX7_began_0 : decode cX7_began 0 = .ok (.aload_n 0, 1) := by decide +kernel
theorem dX7_began_1 : decode cX7_began 1 = .ok (.iconst 0, 1) := by decide +kernel
theorem dX7_began_2 : decode cX7_began 2 = .ok (.putfield 62, 3) := by decide +kernel
theorem dX7_began_5 : decode cX7_began 5 = .ok (.iconst 0, 1) := by decide +kernel
theorem dX7_began_6 : decode cX7_began 6 = .ok (.istore_n 1, 1) := by decide +kernel
theorem dX7_began_7 : decode cX7_began 7 = .ok (.iconst 0, 1) := by decide +kernel
theorem dX7_began_8 : decode cX7_began 8 = .ok (.istore_n 2, 1) := by decide +kernel
theorem dX7_began_9 : decode cX7_began 9 = .ok (.iload_n 2, 1) := by decide +kernel
theorem dX7_began_10 : decode cX7_began 10 = .ok (.aload_n 0, 1) := by decide +kernel
theorem dX7_began_11 : decode cX7_began 11 = .ok (.getfield 13, 3) := by decide +kernel
theorem dX7_began_14 : decode cX7_began 14 = .ok (.iconst 0, 1) := by decide +kernel
theorem dX7_began_15 : decode cX7_began 15 = .ok (.iaload, 1) := by decide +kernel
theorem dX7_began_16 : decode cX7_began 16 = .ok (.if_icmp .ge 27, 3) := by decide +kernel
theorem dX7_began_19 : decode cX7_began 19 = .ok (.iload_n 1, 1) := by decide +kernel
theorem dX7_began_20 : decode cX7_began 20 = .ok (.aload_n 0, 1) := by decide +kernel
theorem dX7_began_21 : decode cX7_began 21 = .ok (.iload_n 2, 1) := by decide +kernel
theorem dX7_began_22 : decode cX7_began 22 = .ok (.invokevirtual 172, 3) := by decide +kernel
theorem dX7_began_25 : decode cX7_began 25 = .ok (.ifCond .eq 9, 3) := by decide +kernel
theorem dX7_began_28 : decode cX7_began 28 = .ok (.iconst 1, 1) := by decide +kernel
theorem dX7_began_29 : decode cX7_began 29 = .ok (.iload_n 2, 1) := by decide +kernel
theorem dX7_began_30 : decode cX7_began 30 = .ok (.ishl, 1) := by decide +kernel
theorem dX7_began_31 : decode cX7_began 31 = .ok (.goto 4, 3) := by decide +kernel
theorem dX7_began_34 : decode cX7_began 34 = .ok (.iconst 0, 1) := by decide +kernel
theorem dX7_began_35 : decode cX7_began 35 = .ok (.ior, 1) := by decide +kernel
theorem dX7_began_36 : decode cX7_began 36 = .ok (.istore_n 1, 1) := by decide +kernel
theorem dX7_began_37 : decode cX7_began 37 = .ok (.iinc 2 1, 3) := by decide +kernel
theorem dX7_began_40 : decode cX7_began 40 = .ok (.goto (-31), 3) := by decide +kernel
theorem dX7_began_43 : decode cX7_began 43 = .ok (.iload_n 1, 1) := by decide +kernel
theorem dX7_began_44 : decode cX7_began 44 = .ok (.ireturn, 1) := by decide +kernel
def T_X7_began : tk_Tb := [(0, tk_al 0 1), (1, tk_ic (0) 2), (2, tk_pI 7 0 5), (5, tk_ic (0) 6), (6, tk_sI 1 7), (7, tk_ic (0) 8), (8, tk_sI 2 9), (9, tk_il 2 10), (10, tk_al 0 11), (11, tk_gR 7 9 14), (14, tk_ic (0) 15), (15, tk_ai 9 16), (16, tk_cm (fun x y => y ≤ x) 43 19), (19, tk_il 1 20), (20, tk_al 0 21), (21, tk_il 2 22), (22, tk_cv 7 M_X7_canBegin 1 25), (25, tk_br (fun x => x = 0) 34 28), (28, tk_ic (1) 29), (29, tk_il 2 30), (30, tk_bi (fun x y => x <<< (y &&& 31)) 31), (31, tk_jmp 35), (34, tk_ic (0) 35), (35, tk_bi (fun x y => x ||| y) 36), (36, tk_sI 1 37), (37, tk_inc 2 (1) 40), (40, tk_jmp 9), (43, tk_il 1 44), (44, tk_rI)]
set_option maxRecDepth 100000 in
theorem hT_X7_began (sc : Option (Nat × (Nat → Int32))) : ∀ x ∈ T_X7_began, tk_So sc M_X7_began x.1 x.2 := by
  unfold T_X7_began
  refine List.forall_mem_cons.mpr ⟨so_aload_n dX7_began_0 rfl rfl, ?_⟩
  refine List.forall_mem_cons.mpr ⟨so_iconst dX7_began_1 (by decide) rfl, ?_⟩
  refine List.forall_mem_cons.mpr ⟨so_pI (C := RX7) (T := TX7) (N := 29) dX7_began_2 (by decide) rfl rfl (by decide) rfl in_X7 wf_X7_62 tyX7 tyX7_ok nmX7 rfl (by decide +kernel) rfl, ?_⟩
  refine List.forall_mem_cons.mpr ⟨so_iconst dX7_began_5 (by decide) rfl, ?_⟩
  refine List.forall_mem_cons.mpr ⟨so_istore_n dX7_began_6 rfl rfl, ?_⟩
  refine List.forall_mem_cons.mpr ⟨so_iconst dX7_began_7 (by decide) rfl, ?_⟩
  refine List.forall_mem_cons.mpr ⟨so_istore_n dX7_began_8 rfl rfl, ?_⟩
  refine List.forall_mem_cons.mpr ⟨so_iload_n dX7_began_9 rfl rfl, ?_⟩
  refine List.forall_mem_cons.mpr ⟨so_aload_n dX7_began_10 rfl rfl, ?_⟩
  refine List.forall_mem_cons.mpr ⟨so_gR (C := RX7) (T := TX7) (N := 29) dX7_began_11 (by decide) rfl rfl (by decide) rfl in_X7 wf_X7_13 rfl, ?_⟩
  refine List.forall_mem_cons.mpr ⟨so_iconst dX7_began_14 (by decide) rfl, ?_⟩
  refine List.forall_mem_cons.mpr ⟨so_iaload dX7_began_15 rfl, ?_⟩
  refine List.forall_mem_cons.mpr ⟨so_icmp_ge dX7_began_16 (by decide) rfl, ?_⟩
  refine List.forall_mem_cons.mpr ⟨so_iload_n dX7_began_19 rfl rfl, ?_⟩
  refine List.forall_mem_cons.mpr ⟨so_aload_n dX7_began_20 rfl rfl, ?_⟩
  refine List.forall_mem_cons.mpr ⟨so_iload_n dX7_began_21 rfl rfl, ?_⟩
  refine List.forall_mem_cons.mpr ⟨so_cv (T := TX7) (N := 29) dX7_began_22 mv_X7_canBegin wm_X7_172 (by decide) rfl ⟨rfl, rfl⟩ (by decide) rfl, ?_⟩
  refine List.forall_mem_cons.mpr ⟨so_if_eq dX7_began_25 (by decide) rfl, ?_⟩
  refine List.forall_mem_cons.mpr ⟨so_iconst dX7_began_28 (by decide) rfl, ?_⟩
  refine List.forall_mem_cons.mpr ⟨so_iload_n dX7_began_29 rfl rfl, ?_⟩
  refine List.forall_mem_cons.mpr ⟨so_ishl dX7_began_30 rfl, ?_⟩
  refine List.forall_mem_cons.mpr ⟨so_goto dX7_began_31 (by decide), ?_⟩
  refine List.forall_mem_cons.mpr ⟨so_iconst dX7_began_34 (by decide) rfl, ?_⟩
  refine List.forall_mem_cons.mpr ⟨so_ior dX7_began_35 rfl, ?_⟩
  refine List.forall_mem_cons.mpr ⟨so_istore_n dX7_began_36 rfl rfl, ?_⟩
  refine List.forall_mem_cons.mpr ⟨so_iinc dX7_began_37 (by decide) rfl, ?_⟩
  refine List.forall_mem_cons.mpr ⟨so_goto dX7_began_40 (by decide), ?_⟩
  refine List.forall_mem_cons.mpr ⟨so_iload_n dX7_began_43 rfl rfl, ?_⟩
  refine List.forall_mem_cons.mpr ⟨so_rI dX7_began_44 rfl, ?_⟩
  exact fun _ h => absurd h List.not_mem_nil
theorem dX7_saw_0 : decode cX7_saw 0 = .ok (.aload_n 0, 1) := by decide +kernel
theorem dX7_saw_1 : decode cX7_saw 1 = .ok (.iconst 0, 1) := by decide +kernel
theorem dX7_saw_2 : decode cX7_saw 2 = .ok (.putfield 62, 3) := by decide +kernel
theorem dX7_saw_5 : decode cX7_saw 5 = .ok (.iload_n 1, 1) := by decide +kernel
theorem dX7_saw_6 : decode cX7_saw 6 = .ok (.iconst 0, 1) := by decide +kernel
theorem dX7_saw_7 : decode cX7_saw 7 = .ok (.bipush 99, 2) := by decide +kernel
theorem dX7_saw_9 : decode cX7_saw 9 = .ok (.invokestatic 66, 3) := by decide +kernel
theorem dX7_saw_12 : decode cX7_saw 12 = .ok (.ifCond .eq 13, 3) := by decide +kernel
theorem dX7_saw_15 : decode cX7_saw 15 = .ok (.iload_n 2, 1) := by decide +kernel
theorem dX7_saw_16 : decode cX7_saw 16 = .ok (.iconst 0, 1) := by decide +kernel
theorem dX7_saw_17 : decode cX7_saw 17 = .ok (.bipush 19, 2) := by decide +kernel
theorem dX7_saw_19 : decode cX7_saw 19 = .ok (.invokestatic 66, 3) := by decide +kernel
theorem dX7_saw_22 : decode cX7_saw 22 = .ok (.ifCond .ne 5, 3) := by decide +kernel
theorem dX7_saw_25 : decode cX7_saw 25 = .ok (.iconst (-1), 1) := by decide +kernel
theorem dX7_saw_26 : decode cX7_saw 26 = .ok (.ireturn, 1) := by decide +kernel
theorem dX7_saw_27 : decode cX7_saw 27 = .ok (.aload_n 0, 1) := by decide +kernel
theorem dX7_saw_28 : decode cX7_saw 28 = .ok (.getfield 121, 3) := by decide +kernel
theorem dX7_saw_31 : decode cX7_saw 31 = .ok (.bipush 6, 2) := by decide +kernel
theorem dX7_saw_33 : decode cX7_saw 33 = .ok (.if_icmp .ne 6, 3) := by decide +kernel
theorem dX7_saw_36 : decode cX7_saw 36 = .ok (.bipush (-3), 2) := by decide +kernel
theorem dX7_saw_38 : decode cX7_saw 38 = .ok (.ireturn, 1) := by decide +kernel
theorem dX7_saw_39 : decode cX7_saw 39 = .ok (.aload_n 0, 1) := by decide +kernel
theorem dX7_saw_40 : decode cX7_saw 40 = .ok (.getfield 50, 3) := by decide +kernel
theorem dX7_saw_43 : decode cX7_saw 43 = .ok (.aload_n 0, 1) := by decide +kernel
theorem dX7_saw_44 : decode cX7_saw 44 = .ok (.getfield 121, 3) := by decide +kernel
theorem dX7_saw_47 : decode cX7_saw 47 = .ok (.iload_n 1, 1) := by decide +kernel
theorem dX7_saw_48 : decode cX7_saw 48 = .ok (.iastore, 1) := by decide +kernel
theorem dX7_saw_49 : decode cX7_saw 49 = .ok (.aload_n 0, 1) := by decide +kernel
theorem dX7_saw_50 : decode cX7_saw 50 = .ok (.getfield 53, 3) := by decide +kernel
theorem dX7_saw_53 : decode cX7_saw 53 = .ok (.aload_n 0, 1) := by decide +kernel
theorem dX7_saw_54 : decode cX7_saw 54 = .ok (.getfield 121, 3) := by decide +kernel
theorem dX7_saw_57 : decode cX7_saw 57 = .ok (.iload_n 2, 1) := by decide +kernel
theorem dX7_saw_58 : decode cX7_saw 58 = .ok (.iastore, 1) := by decide +kernel
theorem dX7_saw_59 : decode cX7_saw 59 = .ok (.aload_n 0, 1) := by decide +kernel
theorem dX7_saw_60 : decode cX7_saw 60 = .ok (.dup, 1) := by decide +kernel
theorem dX7_saw_61 : decode cX7_saw 61 = .ok (.getfield 121, 3) := by decide +kernel
theorem dX7_saw_64 : decode cX7_saw 64 = .ok (.iconst 1, 1) := by decide +kernel
theorem dX7_saw_65 : decode cX7_saw 65 = .ok (.iadd, 1) := by decide +kernel
theorem dX7_saw_66 : decode cX7_saw 66 = .ok (.putfield 121, 3) := by decide +kernel
theorem dX7_saw_69 : decode cX7_saw 69 = .ok (.aload_n 0, 1) := by decide +kernel
theorem dX7_saw_70 : decode cX7_saw 70 = .ok (.getfield 121, 3) := by decide +kernel
theorem dX7_saw_73 : decode cX7_saw 73 = .ok (.ireturn, 1) := by decide +kernel
def T_X7_saw : tk_Tb := [(0, tk_al 0 1), (1, tk_ic (0) 2), (2, tk_pI 7 0 5), (5, tk_il 1 6), (6, tk_ic (0) 7), (7, tk_ic (99) 9), (9, tk_cs M_X7_in 3 12), (12, tk_br (fun x => x = 0) 25 15), (15, tk_il 2 16), (16, tk_ic (0) 17), (17, tk_ic (19) 19), (19, tk_cs M_X7_in 3 22), (22, tk_br (fun x => x = 0) 25 27), (25, tk_ic (-1) 26), (26, tk_rI), (27, tk_al 0 28), (28, tk_gI 7 26 31), (31, tk_ic (6) 33), (33, tk_cm (fun x y => x = y) 36 39), (36, tk_ic (-3) 38), (38, tk_rI), (39, tk_al 0 40), (40, tk_gR 7 24 43), (43, tk_al 0 44), (44, tk_gI 7 26 47), (47, tk_il 1 48), (48, tk_si 9 (fun x => x) 49), (49, tk_al 0 50), (50, tk_gR 7 25 53), (53, tk_al 0 54), (54, tk_gI 7 26 57), (57, tk_il 2 58), (58, tk_si 9 (fun x => x) 59), (59, tk_al 0 60), (60, tk_dup 61), (61, tk_gI 7 26 64), (64, tk_ic (1) 65), (65, tk_bi (fun x y => x + y) 66), (66, tk_pI 7 26 69), (69, tk_al 0 70), (70, tk_gI 7 26 73), (73, tk_rI)]
set_option maxRecDepth 100000 in
theorem hT_X7_saw (sc : Option (Nat × (Nat → Int32))) : ∀ x ∈ T_X7_saw, tk_So sc M_X7_saw x.1 x.2 := by
  unfold T_X7_saw
  refine List.forall_mem_cons.mpr ⟨so_aload_n dX7_saw_0 rfl rfl, ?_⟩
  refine List.forall_mem_cons.mpr ⟨so_iconst dX7_saw_1 (by decide) rfl, ?_⟩
  refine List.forall_mem_cons.mpr ⟨so_pI (C := RX7) (T := TX7) (N := 29) dX7_saw_2 (by decide) rfl rfl (by decide) rfl in_X7 wf_X7_62 tyX7 tyX7_ok nmX7 rfl (by decide +kernel) rfl, ?_⟩
  refine List.forall_mem_cons.mpr ⟨so_iload_n dX7_saw_5 rfl rfl, ?_⟩
  refine List.forall_mem_cons.mpr ⟨so_iconst dX7_saw_6 (by decide) rfl, ?_⟩
  refine List.forall_mem_cons.mpr ⟨so_bipush dX7_saw_7 (by decide) rfl, ?_⟩
  refine List.forall_mem_cons.mpr ⟨so_cs dX7_saw_9 mv_X7_in wm_X7_66 ⟨rfl, rfl⟩ (by decide) rfl, ?_⟩
  refine List.forall_mem_cons.mpr ⟨so_if_eq dX7_saw_12 (by decide) rfl, ?_⟩
  refine List.forall_mem_cons.mpr ⟨so_iload_n dX7_saw_15 rfl rfl, ?_⟩
  refine List.forall_mem_cons.mpr ⟨so_iconst dX7_saw_16 (by decide) rfl, ?_⟩
  refine List.forall_mem_cons.mpr ⟨so_bipush dX7_saw_17 (by decide) rfl, ?_⟩
  refine List.forall_mem_cons.mpr ⟨so_cs dX7_saw_19 mv_X7_in wm_X7_66 ⟨rfl, rfl⟩ (by decide) rfl, ?_⟩
  refine List.forall_mem_cons.mpr ⟨so_if_ne dX7_saw_22 (by decide) rfl, ?_⟩
  refine List.forall_mem_cons.mpr ⟨so_iconst dX7_saw_25 (by decide) rfl, ?_⟩
  refine List.forall_mem_cons.mpr ⟨so_rI dX7_saw_26 rfl, ?_⟩
  refine List.forall_mem_cons.mpr ⟨so_aload_n dX7_saw_27 rfl rfl, ?_⟩
  refine List.forall_mem_cons.mpr ⟨so_gI (C := RX7) (T := TX7) (N := 29) dX7_saw_28 (by decide) rfl rfl (by decide) rfl in_X7 wf_X7_121 rfl, ?_⟩
  refine List.forall_mem_cons.mpr ⟨so_bipush dX7_saw_31 (by decide) rfl, ?_⟩
  refine List.forall_mem_cons.mpr ⟨so_icmp_ne dX7_saw_33 (by decide) rfl, ?_⟩
  refine List.forall_mem_cons.mpr ⟨so_bipush dX7_saw_36 (by decide) rfl, ?_⟩
  refine List.forall_mem_cons.mpr ⟨so_rI dX7_saw_38 rfl, ?_⟩
  refine List.forall_mem_cons.mpr ⟨so_aload_n dX7_saw_39 rfl rfl, ?_⟩
  refine List.forall_mem_cons.mpr ⟨so_gR (C := RX7) (T := TX7) (N := 29) dX7_saw_40 (by decide) rfl rfl (by decide) rfl in_X7 wf_X7_50 rfl, ?_⟩
  refine List.forall_mem_cons.mpr ⟨so_aload_n dX7_saw_43 rfl rfl, ?_⟩
  refine List.forall_mem_cons.mpr ⟨so_gI (C := RX7) (T := TX7) (N := 29) dX7_saw_44 (by decide) rfl rfl (by decide) rfl in_X7 wf_X7_121 rfl, ?_⟩
  refine List.forall_mem_cons.mpr ⟨so_iload_n dX7_saw_47 rfl rfl, ?_⟩
  refine List.forall_mem_cons.mpr ⟨so_iastore dX7_saw_48 rfl, ?_⟩
  refine List.forall_mem_cons.mpr ⟨so_aload_n dX7_saw_49 rfl rfl, ?_⟩
  refine List.forall_mem_cons.mpr ⟨so_gR (C := RX7) (T := TX7) (N := 29) dX7_saw_50 (by decide) rfl rfl (by decide) rfl in_X7 wf_X7_53 rfl, ?_⟩
  refine List.forall_mem_cons.mpr ⟨so_aload_n dX7_saw_53 rfl rfl, ?_⟩
  refine List.forall_mem_cons.mpr ⟨so_gI (C := RX7) (T := TX7) (N := 29) dX7_saw_54 (by decide) rfl rfl (by decide) rfl in_X7 wf_X7_121 rfl, ?_⟩
  refine List.forall_mem_cons.mpr ⟨so_iload_n dX7_saw_57 rfl rfl, ?_⟩
  refine List.forall_mem_cons.mpr ⟨so_iastore dX7_saw_58 rfl, ?_⟩
  refine List.forall_mem_cons.mpr ⟨so_aload_n dX7_saw_59 rfl rfl, ?_⟩
  refine List.forall_mem_cons.mpr ⟨so_dup dX7_saw_60 rfl, ?_⟩
  refine List.forall_mem_cons.mpr ⟨so_gI (C := RX7) (T := TX7) (N := 29) dX7_saw_61 (by decide) rfl rfl (by decide) rfl in_X7 wf_X7_121 rfl, ?_⟩
  refine List.forall_mem_cons.mpr ⟨so_iconst dX7_saw_64 (by decide) rfl, ?_⟩
  refine List.forall_mem_cons.mpr ⟨so_iadd dX7_saw_65 rfl, ?_⟩
  refine List.forall_mem_cons.mpr ⟨so_pI (C := RX7) (T := TX7) (N := 29) dX7_saw_66 (by decide) rfl rfl (by decide) rfl in_X7 wf_X7_121 tyX7 tyX7_ok nmX7 rfl (by decide +kernel) rfl, ?_⟩
  refine List.forall_mem_cons.mpr ⟨so_aload_n dX7_saw_69 rfl rfl, ?_⟩
  refine List.forall_mem_cons.mpr ⟨so_gI (C := RX7) (T := TX7) (N := 29) dX7_saw_70 (by decide) rfl rfl (by decide) rfl in_X7 wf_X7_121 rfl, ?_⟩
  refine List.forall_mem_cons.mpr ⟨so_rI dX7_saw_73 rfl, ?_⟩
  exact fun _ h => absurd h List.not_mem_nil
theorem dX7_laws_0 : decode cX7_laws 0 = .ok (.aload_n 0, 1) := by decide +kernel
theorem dX7_laws_1 : decode cX7_laws 1 = .ok (.iconst 0, 1) := by decide +kernel
theorem dX7_laws_2 : decode cX7_laws 2 = .ok (.putfield 62, 3) := by decide +kernel
theorem dX7_laws_5 : decode cX7_laws 5 = .ok (.iload_n 1, 1) := by decide +kernel
theorem dX7_laws_6 : decode cX7_laws 6 = .ok (.iconst 0, 1) := by decide +kernel
theorem dX7_laws_7 : decode cX7_laws 7 = .ok (.iconst 1, 1) := by decide +kernel
theorem dX7_laws_8 : decode cX7_laws 8 = .ok (.invokestatic 66, 3) := by decide +kernel
theorem dX7_laws_11 : decode cX7_laws 11 = .ok (.ifCond .ne 5, 3) := by decide +kernel
theorem dX7_laws_14 : decode cX7_laws 14 = .ok (.iconst (-1), 1) := by decide +kernel
theorem dX7_laws_15 : decode cX7_laws 15 = .ok (.ireturn, 1) := by decide +kernel
theorem dX7_laws_16 : decode cX7_laws 16 = .ok (.iconst 0, 1) := by decide +kernel
theorem dX7_laws_17 : decode cX7_laws 17 = .ok (.istore_n 2, 1) := by decide +kernel
theorem dX7_laws_18 : decode cX7_laws 18 = .ok (.bipush (-9), 2) := by decide +kernel
theorem dX7_laws_20 : decode cX7_laws 20 = .ok (.istore_n 3, 1) := by decide +kernel
theorem dX7_laws_21 : decode cX7_laws 21 = .ok (.iconst 0, 1) := by decide +kernel
theorem dX7_laws_22 : decode cX7_laws 22 = .ok (.istore 4, 2) := by decide +kernel
theorem dX7_laws_24 : decode cX7_laws 24 = .ok (.iload 4, 2) := by decide +kernel
theorem dX7_laws_26 : decode cX7_laws 26 = .ok (.aload_n 0, 1) := by decide +kernel
theorem dX7_laws_27 : decode cX7_laws 27 = .ok (.getfield 13, 3) := by decide +kernel
theorem dX7_laws_30 : decode cX7_laws 30 = .ok (.iconst 2, 1) := by decide +kernel
theorem dX7_laws_31 : decode cX7_laws 31 = .ok (.iaload, 1) := by decide +kernel
theorem dX7_laws_32 : decode cX7_laws 32 = .ok (.if_icmp .ge 127, 3) := by decide +kernel
theorem dX7_laws_35 : decode cX7_laws 35 = .ok (.iconst 0, 1) := by decide +kernel
theorem dX7_laws_36 : decode cX7_laws 36 = .ok (.istore 5, 2) := by decide +kernel
theorem dX7_laws_38 : decode cX7_laws 38 = .ok (.iload 5, 2) := by decide +kernel
theorem dX7_laws_40 : decode cX7_laws 40 = .ok (.aload_n 0, 1) := by decide +kernel
theorem dX7_laws_41 : decode cX7_laws 41 = .ok (.getfield 13, 3) := by decide +kernel
theorem dX7_laws_44 : decode cX7_laws 44 = .ok (.iconst 2, 1) := by decide +kernel
theorem dX7_laws_45 : decode cX7_laws 45 = .ok (.iaload, 1) := by decide +kernel
theorem dX7_laws_46 : decode cX7_laws 46 = .ok (.if_icmp .ge 107, 3) := by decide +kernel
theorem dX7_laws_49 : decode cX7_laws 49 = .ok (.iconst 1, 1) := by decide +kernel
theorem dX7_laws_50 : decode cX7_laws 50 = .ok (.istore 6, 2) := by decide +kernel
theorem dX7_laws_52 : decode cX7_laws 52 = .ok (.iconst 0, 1) := by decide +kernel
theorem dX7_laws_53 : decode cX7_laws 53 = .ok (.istore 7, 2) := by decide +kernel
theorem dX7_laws_55 : decode cX7_laws 55 = .ok (.iload 7, 2) := by decide +kernel
theorem dX7_laws_57 : decode cX7_laws 57 = .ok (.aload_n 0, 1) := by decide +kernel
theorem dX7_laws_58 : decode cX7_laws 58 = .ok (.getfield 121, 3) := by decide +kernel
theorem dX7_laws_61 : decode cX7_laws 61 = .ok (.if_icmp .ge 51, 3) := by decide +kernel
theorem dX7_laws_64 : decode cX7_laws 64 = .ok (.iload 6, 2) := by decide +kernel
theorem dX7_laws_66 : decode cX7_laws 66 = .ok (.ifCond .eq 37, 3) := by decide +kernel
theorem dX7_laws_69 : decode cX7_laws 69 = .ok (.iload 4, 2) := by decide +kernel
theorem dX7_laws_71 : decode cX7_laws 71 = .ok (.aload_n 0, 1) := by decide +kernel
theorem dX7_laws_72 : decode cX7_laws 72 = .ok (.getfield 50, 3) := by decide +kernel
theorem dX7_laws_75 : decode cX7_laws 75 = .ok (.iload 7, 2) := by decide +kernel
theorem dX7_laws_77 : decode cX7_laws 77 = .ok (.iaload, 1) := by decide +kernel
theorem dX7_laws_78 : decode cX7_laws 78 = .ok (.imul, 1) := by decide +kernel
theorem dX7_laws_79 : decode cX7_laws 79 = .ok (.iload 5, 2) := by decide +kernel
theorem dX7_laws_81 : decode cX7_laws 81 = .ok (.iadd, 1) := by decide +kernel
theorem dX7_laws_82 : decode cX7_laws 82 = .ok (.aload_n 0, 1) := by decide +kernel
theorem dX7_laws_83 : decode cX7_laws 83 = .ok (.getfield 13, 3) := by decide +kernel
theorem dX7_laws_86 : decode cX7_laws 86 = .ok (.iconst 2, 1) := by decide +kernel
theorem dX7_laws_87 : decode cX7_laws 87 = .ok (.iaload, 1) := by decide +kernel
theorem dX7_laws_88 : decode cX7_laws 88 = .ok (.irem, 1) := by decide +kernel
theorem dX7_laws_89 : decode cX7_laws 89 = .ok (.aload_n 0, 1) := by decide +kernel
theorem dX7_laws_90 : decode cX7_laws 90 = .ok (.getfield 53, 3) := by decide +kernel
theorem dX7_laws_93 : decode cX7_laws 93 = .ok (.iload 7, 2) := by decide +kernel
theorem dX7_laws_95 : decode cX7_laws 95 = .ok (.iaload, 1) := by decide +kernel
theorem dX7_laws_96 : decode cX7_laws 96 = .ok (.if_icmp .ne 7, 3) := by decide +kernel
theorem dX7_laws_99 : decode cX7_laws 99 = .ok (.iconst 1, 1) := by decide +kernel
theorem dX7_laws_100 : decode cX7_laws 100 = .ok (.goto 4, 3) := by decide +kernel
theorem dX7_laws_103 : decode cX7_laws 103 = .ok (.iconst 0, 1) := by decide +kernel
theorem dX7_laws_104 : decode cX7_laws 104 = .ok (.istore 6, 2) := by decide +kernel
theorem dX7_laws_106 : decode cX7_laws 106 = .ok (.iinc 7 1, 3) := by decide +kernel
theorem dX7_laws_109 : decode cX7_laws 109 = .ok (.goto (-54), 3) := by decide +kernel
theorem dX7_laws_112 : decode cX7_laws 112 = .ok (.iload 6, 2) := by decide +kernel
theorem dX7_laws_114 : decode cX7_laws 114 = .ok (.ifCond .eq 18, 3) := by decide +kernel
theorem dX7_laws_117 : decode cX7_laws 117 = .ok (.iload_n 2, 1) := by decide +kernel
theorem dX7_laws_118 : decode cX7_laws 118 = .ok (.ifCond .ne 14, 3) := by decide +kernel
theorem dX7_laws_121 : decode cX7_laws 121 = .ok (.bipush 100, 2) := by decide +kernel
theorem dX7_laws_123 : decode cX7_laws 123 = .ok (.iload 4, 2) := by decide +kernel
theorem dX7_laws_125 : decode cX7_laws 125 = .ok (.imul, 1) := by decide +kernel
theorem dX7_laws_126 : decode cX7_laws 126 = .ok (.iload 5, 2) := by decide +kernel
theorem dX7_laws_128 : decode cX7_laws 128 = .ok (.iadd, 1) := by decide +kernel
theorem dX7_laws_129 : decode cX7_laws 129 = .ok (.goto 4, 3) := by decide +kernel
theorem dX7_laws_132 : decode cX7_laws 132 = .ok (.iload_n 3, 1) := by decide +kernel
theorem dX7_laws_133 : decode cX7_laws 133 = .ok (.istore_n 3, 1) := by decide +kernel
theorem dX7_laws_134 : decode cX7_laws 134 = .ok (.iload_n 2, 1) := by decide +kernel
theorem dX7_laws_135 : decode cX7_laws 135 = .ok (.iload 6, 2) := by decide +kernel
theorem dX7_laws_137 : decode cX7_laws 137 = .ok (.ifCond .eq 7, 3) := by decide +kernel
theorem dX7_laws_140 : decode cX7_laws 140 = .ok (.iconst 1, 1) := by decide +kernel
theorem dX7_laws_141 : decode cX7_laws 141 = .ok (.goto 4, 3) := by decide +kernel
theorem dX7_laws_144 : decode cX7_laws 144 = .ok (.iconst 0, 1) := by decide +kernel
theorem dX7_laws_145 : decode cX7_laws 145 = .ok (.iadd, 1) := by decide +kernel
theorem dX7_laws_146 : decode cX7_laws 146 = .ok (.istore_n 2, 1) := by decide +kernel
theorem dX7_laws_147 : decode cX7_laws 147 = .ok (.iinc 5 1, 3) := by decide +kernel
theorem dX7_laws_150 : decode cX7_laws 150 = .ok (.goto (-112), 3) := by decide +kernel
theorem dX7_laws_153 : decode cX7_laws 153 = .ok (.iinc 4 1, 3) := by decide +kernel
theorem dX7_laws_156 : decode cX7_laws 156 = .ok (.goto (-132), 3) := by decide +kernel
theorem dX7_laws_159 : decode cX7_laws 159 = .ok (.iload_n 1, 1) := by decide +kernel
theorem dX7_laws_160 : decode cX7_laws 160 = .ok (.ifCond .ne 7, 3) := by decide +kernel
theorem dX7_laws_163 : decode cX7_laws 163 = .ok (.iload_n 2, 1) := by decide +kernel
theorem dX7_laws_164 : decode cX7_laws 164 = .ok (.goto 4, 3) := by decide +kernel
theorem dX7_laws_167 : decode cX7_laws 167 = .ok (.iload_n 3, 1) := by decide +kernel
theorem dX7_laws_168 : decode cX7_laws 168 = .ok (.ireturn, 1) := by decide +kernel
def T_X7_laws : tk_Tb := [(0, tk_al 0 1), (1, tk_ic (0) 2), (2, tk_pI 7 0 5), (5, tk_il 1 6), (6, tk_ic (0) 7), (7, tk_ic (1) 8), (8, tk_cs M_X7_in 3 11), (11, tk_br (fun x => x = 0) 14 16), (14, tk_ic (-1) 15), (15, tk_rI), (16, tk_ic (0) 17), (17, tk_sI 2 18), (18, tk_ic (-9) 20), (20, tk_sI 3 21), (21, tk_ic (0) 22), (22, tk_sI 4 24), (24, tk_il 4 26), (26, tk_al 0 27), (27, tk_gR 7 9 30), (30, tk_ic (2) 31), (31, tk_ai 9 32), (32, tk_cm (fun x y => y ≤ x) 159 35), (35, tk_ic (0) 36), (36, tk_sI 5 38), (38, tk_il 5 40), (40, tk_al 0 41), (41, tk_gR 7 9 44), (44, tk_ic (2) 45), (45, tk_ai 9 46), (46, tk_cm (fun x y => y ≤ x) 153 49), (49, tk_ic (1) 50), (50, tk_sI 6 52), (52, tk_ic (0) 53), (53, tk_sI 7 55), (55, tk_il 7 57), (57, tk_al 0 58), (58, tk_gI 7 26 61), (61, tk_cm (fun x y => y ≤ x) 112 64), (64, tk_il 6 66), (66, tk_br (fun x => x = 0) 103 69), (69, tk_il 4 71), (71, tk_al 0 72), (72, tk_gR 7 24 75), (75, tk_il 7 77), (77, tk_ai 9 78), (78, tk_bi (fun x y => x * y) 79), (79, tk_il 5 81), (81, tk_bi (fun x y => x + y) 82), (82, tk_al 0 83), (83, tk_gR 7 9 86), (86, tk_ic (2) 87), (87, tk_ai 9 88), (88, tk_dv (fun x y => x - x / y * y) 89), (89, tk_al 0 90), (90, tk_gR 7 25 93), (93, tk_il 7 95), (95, tk_ai 9 96), (96, tk_cm (fun x y => x = y) 99 103), (99, tk_ic (1) 100), (100, tk_jmp 104), (103, tk_ic (0) 104), (104, tk_sI 6 106), (106, tk_inc 7 (1) 109), (109, tk_jmp 55), (112, tk_il 6 114), (114, tk_br (fun x => x = 0) 132 117), (117, tk_il 2 118), (118, tk_br (fun x => x = 0) 121 132), (121, tk_ic (100) 123), (123, tk_il 4 125), (125, tk_bi (fun x y => x * y) 126), (126, tk_il 5 128), (128, tk_bi (fun x y => x + y) 129), (129, tk_jmp 133), (132, tk_il 3 133), (133, tk_sI 3 134), (134, tk_il 2 135), (135, tk_il 6 137), (137, tk_br (fun x => x = 0) 144 140), (140, tk_ic (1) 141), (141, tk_jmp 145), (144, tk_ic (0) 145), (145, tk_bi (fun x y => x + y) 146), (146, tk_sI 2 147), (147, tk_inc 5 (1) 150), (150, tk_jmp 38), (153, tk_inc 4 (1) 156), (156, tk_jmp 24), (159, tk_il 1 160), (160, tk_br (fun x => x = 0) 163 167), (163, tk_il 2 164), (164, tk_jmp 168), (167, tk_il 3 168), (168, tk_rI)]
set_option maxRecDepth 100000 in
theorem hT_X7_laws (sc : Option (Nat × (Nat → Int32))) : ∀ x ∈ T_X7_laws, tk_So sc M_X7_laws x.1 x.2 := by
  unfold T_X7_laws
  refine List.forall_mem_cons.mpr ⟨so_aload_n dX7_laws_0 rfl rfl, ?_⟩
  refine List.forall_mem_cons.mpr ⟨so_iconst dX7_laws_1 (by decide) rfl, ?_⟩
  refine List.forall_mem_cons.mpr ⟨so_pI (C := RX7) (T := TX7) (N := 29) dX7_laws_2 (by decide) rfl rfl (by decide) rfl in_X7 wf_X7_62 tyX7 tyX7_ok nmX7 rfl (by decide +kernel) rfl, ?_⟩
  refine List.forall_mem_cons.mpr ⟨so_iload_n dX7_laws_5 rfl rfl, ?_⟩
  refine List.forall_mem_cons.mpr ⟨so_iconst dX7_laws_6 (by decide) rfl, ?_⟩
  refine List.forall_mem_cons.mpr ⟨so_iconst dX7_laws_7 (by decide) rfl, ?_⟩
  refine List.forall_mem_cons.mpr ⟨so_cs dX7_laws_8 mv_X7_in wm_X7_66 ⟨rfl, rfl⟩ (by decide) rfl, ?_⟩
  refine List.forall_mem_cons.mpr ⟨so_if_ne dX7_laws_11 (by decide) rfl, ?_⟩
  refine List.forall_mem_cons.mpr ⟨so_iconst dX7_laws_14 (by decide) rfl, ?_⟩
  refine List.forall_mem_cons.mpr ⟨so_rI dX7_laws_15 rfl, ?_⟩
  refine List.forall_mem_cons.mpr ⟨so_iconst dX7_laws_16 (by decide) rfl, ?_⟩
  refine List.forall_mem_cons.mpr ⟨so_istore_n dX7_laws_17 rfl rfl, ?_⟩
  refine List.forall_mem_cons.mpr ⟨so_bipush dX7_laws_18 (by decide) rfl, ?_⟩
  refine List.forall_mem_cons.mpr ⟨so_istore_n dX7_laws_20 rfl rfl, ?_⟩
  refine List.forall_mem_cons.mpr ⟨so_iconst dX7_laws_21 (by decide) rfl, ?_⟩
  refine List.forall_mem_cons.mpr ⟨so_istore dX7_laws_22 rfl, ?_⟩
  refine List.forall_mem_cons.mpr ⟨so_iload dX7_laws_24 rfl, ?_⟩
  refine List.forall_mem_cons.mpr ⟨so_aload_n dX7_laws_26 rfl rfl, ?_⟩
  refine List.forall_mem_cons.mpr ⟨so_gR (C := RX7) (T := TX7) (N := 29) dX7_laws_27 (by decide) rfl rfl (by decide) rfl in_X7 wf_X7_13 rfl, ?_⟩
  refine List.forall_mem_cons.mpr ⟨so_iconst dX7_laws_30 (by decide) rfl, ?_⟩
  refine List.forall_mem_cons.mpr ⟨so_iaload dX7_laws_31 rfl, ?_⟩
  refine List.forall_mem_cons.mpr ⟨so_icmp_ge dX7_laws_32 (by decide) rfl, ?_⟩
  refine List.forall_mem_cons.mpr ⟨so_iconst dX7_laws_35 (by decide) rfl, ?_⟩
  refine List.forall_mem_cons.mpr ⟨so_istore dX7_laws_36 rfl, ?_⟩
  refine List.forall_mem_cons.mpr ⟨so_iload dX7_laws_38 rfl, ?_⟩
  refine List.forall_mem_cons.mpr ⟨so_aload_n dX7_laws_40 rfl rfl, ?_⟩
  refine List.forall_mem_cons.mpr ⟨so_gR (C := RX7) (T := TX7) (N := 29) dX7_laws_41 (by decide) rfl rfl (by decide) rfl in_X7 wf_X7_13 rfl, ?_⟩
  refine List.forall_mem_cons.mpr ⟨so_iconst dX7_laws_44 (by decide) rfl, ?_⟩
  refine List.forall_mem_cons.mpr ⟨so_iaload dX7_laws_45 rfl, ?_⟩
  refine List.forall_mem_cons.mpr ⟨so_icmp_ge dX7_laws_46 (by decide) rfl, ?_⟩
  refine List.forall_mem_cons.mpr ⟨so_iconst dX7_laws_49 (by decide) rfl, ?_⟩
  refine List.forall_mem_cons.mpr ⟨so_istore dX7_laws_50 rfl, ?_⟩
  refine List.forall_mem_cons.mpr ⟨so_iconst dX7_laws_52 (by decide) rfl, ?_⟩
  refine List.forall_mem_cons.mpr ⟨so_istore dX7_laws_53 rfl, ?_⟩
  refine List.forall_mem_cons.mpr ⟨so_iload dX7_laws_55 rfl, ?_⟩
  refine List.forall_mem_cons.mpr ⟨so_aload_n dX7_laws_57 rfl rfl, ?_⟩
  refine List.forall_mem_cons.mpr ⟨so_gI (C := RX7) (T := TX7) (N := 29) dX7_laws_58 (by decide) rfl rfl (by decide) rfl in_X7 wf_X7_121 rfl, ?_⟩
  refine List.forall_mem_cons.mpr ⟨so_icmp_ge dX7_laws_61 (by decide) rfl, ?_⟩
  refine List.forall_mem_cons.mpr ⟨so_iload dX7_laws_64 rfl, ?_⟩
  refine List.forall_mem_cons.mpr ⟨so_if_eq dX7_laws_66 (by decide) rfl, ?_⟩
  refine List.forall_mem_cons.mpr ⟨so_iload dX7_laws_69 rfl, ?_⟩
  refine List.forall_mem_cons.mpr ⟨so_aload_n dX7_laws_71 rfl rfl, ?_⟩
  refine List.forall_mem_cons.mpr ⟨so_gR (C := RX7) (T := TX7) (N := 29) dX7_laws_72 (by decide) rfl rfl (by decide) rfl in_X7 wf_X7_50 rfl, ?_⟩
  refine List.forall_mem_cons.mpr ⟨so_iload dX7_laws_75 rfl, ?_⟩
  refine List.forall_mem_cons.mpr ⟨so_iaload dX7_laws_77 rfl, ?_⟩
  refine List.forall_mem_cons.mpr ⟨so_imul dX7_laws_78 rfl, ?_⟩
  refine List.forall_mem_cons.mpr ⟨so_iload dX7_laws_79 rfl, ?_⟩
  refine List.forall_mem_cons.mpr ⟨so_iadd dX7_laws_81 rfl, ?_⟩
  refine List.forall_mem_cons.mpr ⟨so_aload_n dX7_laws_82 rfl rfl, ?_⟩
  refine List.forall_mem_cons.mpr ⟨so_gR (C := RX7) (T := TX7) (N := 29) dX7_laws_83 (by decide) rfl rfl (by decide) rfl in_X7 wf_X7_13 rfl, ?_⟩
  refine List.forall_mem_cons.mpr ⟨so_iconst dX7_laws_86 (by decide) rfl, ?_⟩
  refine List.forall_mem_cons.mpr ⟨so_iaload dX7_laws_87 rfl, ?_⟩
  refine List.forall_mem_cons.mpr ⟨so_irem dX7_laws_88 rfl, ?_⟩
  refine List.forall_mem_cons.mpr ⟨so_aload_n dX7_laws_89 rfl rfl, ?_⟩
  refine List.forall_mem_cons.mpr ⟨so_gR (C := RX7) (T := TX7) (N := 29) dX7_laws_90 (by decide) rfl rfl (by decide) rfl in_X7 wf_X7_53 rfl, ?_⟩
  refine List.forall_mem_cons.mpr ⟨so_iload dX7_laws_93 rfl, ?_⟩
  refine List.forall_mem_cons.mpr ⟨so_iaload dX7_laws_95 rfl, ?_⟩
  refine List.forall_mem_cons.mpr ⟨so_icmp_ne dX7_laws_96 (by decide) rfl, ?_⟩
  refine List.forall_mem_cons.mpr ⟨so_iconst dX7_laws_99 (by decide) rfl, ?_⟩
  refine List.forall_mem_cons.mpr ⟨so_goto dX7_laws_100 (by decide), ?_⟩
  refine List.forall_mem_cons.mpr ⟨so_iconst dX7_laws_103 (by decide) rfl, ?_⟩
  refine List.forall_mem_cons.mpr ⟨so_istore dX7_laws_104 rfl, ?_⟩
  refine List.forall_mem_cons.mpr ⟨so_iinc dX7_laws_106 (by decide) rfl, ?_⟩
  refine List.forall_mem_cons.mpr ⟨so_goto dX7_laws_109 (by decide), ?_⟩
  refine List.forall_mem_cons.mpr ⟨so_iload dX7_laws_112 rfl, ?_⟩
  refine List.forall_mem_cons.mpr ⟨so_if_eq dX7_laws_114 (by decide) rfl, ?_⟩
  refine List.forall_mem_cons.mpr ⟨so_iload_n dX7_laws_117 rfl rfl, ?_⟩
  refine List.forall_mem_cons.mpr ⟨so_if_ne dX7_laws_118 (by decide) rfl, ?_⟩
  refine List.forall_mem_cons.mpr ⟨so_bipush dX7_laws_121 (by decide) rfl, ?_⟩
  refine List.forall_mem_cons.mpr ⟨so_iload dX7_laws_123 rfl, ?_⟩
  refine List.forall_mem_cons.mpr ⟨so_imul dX7_laws_125 rfl, ?_⟩
  refine List.forall_mem_cons.mpr ⟨so_iload dX7_laws_126 rfl, ?_⟩
  refine List.forall_mem_cons.mpr ⟨so_iadd dX7_laws_128 rfl, ?_⟩
  refine List.forall_mem_cons.mpr ⟨so_goto dX7_laws_129 (by decide), ?_⟩
  refine List.forall_mem_cons.mpr ⟨so_iload_n dX7_laws_132 rfl rfl, ?_⟩
  refine List.forall_mem_cons.mpr ⟨so_istore_n dX7_laws_133 rfl rfl, ?_⟩
  refine List.forall_mem_cons.mpr ⟨so_iload_n dX7_laws_134 rfl rfl, ?_⟩
  refine List.forall_mem_cons.mpr ⟨so_iload dX7_laws_135 rfl, ?_⟩
  refine List.forall_mem_cons.mpr ⟨so_if_eq dX7_laws_137 (by decide) rfl, ?_⟩
  refine List.forall_mem_cons.mpr ⟨so_iconst dX7_laws_140 (by decide) rfl, ?_⟩
  refine List.forall_mem_cons.mpr ⟨so_goto dX7_laws_141 (by decide), ?_⟩
  refine List.forall_mem_cons.mpr ⟨so_iconst dX7_laws_144 (by decide) rfl, ?_⟩
  refine List.forall_mem_cons.mpr ⟨so_iadd dX7_laws_145 rfl, ?_⟩
  refine List.forall_mem_cons.mpr ⟨so_istore_n dX7_laws_146 rfl rfl, ?_⟩
  refine List.forall_mem_cons.mpr ⟨so_iinc dX7_laws_147 (by decide) rfl, ?_⟩
  refine List.forall_mem_cons.mpr ⟨so_goto dX7_laws_150 (by decide), ?_⟩
  refine List.forall_mem_cons.mpr ⟨so_iinc dX7_laws_153 (by decide) rfl, ?_⟩
  refine List.forall_mem_cons.mpr ⟨so_goto dX7_laws_156 (by decide), ?_⟩
  refine List.forall_mem_cons.mpr ⟨so_iload_n dX7_laws_159 rfl rfl, ?_⟩
  refine List.forall_mem_cons.mpr ⟨so_if_ne dX7_laws_160 (by decide) rfl, ?_⟩
  refine List.forall_mem_cons.mpr ⟨so_iload_n dX7_laws_163 rfl rfl, ?_⟩
  refine List.forall_mem_cons.mpr ⟨so_goto dX7_laws_164 (by decide), ?_⟩
  refine List.forall_mem_cons.mpr ⟨so_iload_n dX7_laws_167 rfl rfl, ?_⟩
  refine List.forall_mem_cons.mpr ⟨so_rI dX7_laws_168 rfl, ?_⟩
  exact fun _ h => absurd h List.not_mem_nil
theorem dX7_forget_0 : decode cX7_forget 0 = .ok (.aload_n 0, 1) := by decide +kernel
theorem dX7_forget_1 : decode cX7_forget 1 = .ok (.iconst 0, 1) := by decide +kernel
theorem dX7_forget_2 : decode cX7_forget 2 = .ok (.putfield 62, 3) := by decide +kernel
theorem dX7_forget_5 : decode cX7_forget 5 = .ok (.aload_n 0, 1) := by decide +kernel
theorem dX7_forget_6 : decode cX7_forget 6 = .ok (.getfield 118, 3) := by decide +kernel
theorem dX7_forget_9 : decode cX7_forget 9 = .ok (.aload_n 0, 1) := by decide +kernel
theorem dX7_forget_10 : decode cX7_forget 10 = .ok (.getfield 121, 3) := by decide +kernel
theorem dX7_forget_13 : decode cX7_forget 13 = .ok (.iadd, 1) := by decide +kernel
theorem dX7_forget_14 : decode cX7_forget 14 = .ok (.istore_n 1, 1) := by decide +kernel
theorem dX7_forget_15 : decode cX7_forget 15 = .ok (.aload_n 0, 1) := by decide +kernel
theorem dX7_forget_16 : decode cX7_forget 16 = .ok (.iconst 0, 1) := by decide +kernel
theorem dX7_forget_17 : decode cX7_forget 17 = .ok (.putfield 118, 3) := by decide +kernel
theorem dX7_forget_20 : decode cX7_forget 20 = .ok (.aload_n 0, 1) := by decide +kernel
theorem dX7_forget_21 : decode cX7_forget 21 = .ok (.iconst 0, 1) := by decide +kernel
theorem dX7_forget_22 : decode cX7_forget 22 = .ok (.putfield 121, 3) := by decide +kernel
theorem dX7_forget_25 : decode cX7_forget 25 = .ok (.iload_n 1, 1) := by decide +kernel
theorem dX7_forget_26 : decode cX7_forget 26 = .ok (.ireturn, 1) := by decide +kernel
def T_X7_forget : tk_Tb := [(0, tk_al 0 1), (1, tk_ic (0) 2), (2, tk_pI 7 0 5), (5, tk_al 0 6), (6, tk_gI 7 23 9), (9, tk_al 0 10), (10, tk_gI 7 26 13), (13, tk_bi (fun x y => x + y) 14), (14, tk_sI 1 15), (15, tk_al 0 16), (16, tk_ic (0) 17), (17, tk_pI 7 23 20), (20, tk_al 0 21), (21, tk_ic (0) 22), (22, tk_pI 7 26 25), (25, tk_il 1 26), (26, tk_rI)]
set_option maxRecDepth 100000 in
theorem hT_X7_forget (sc : Option (Nat × (Nat → Int32))) : ∀ x ∈ T_X7_forget, tk_So sc M_X7_forget x.1 x.2 := by
  unfold T_X7_forget
  refine List.forall_mem_cons.mpr ⟨so_aload_n dX7_forget_0 rfl rfl, ?_⟩
  refine List.forall_mem_cons.mpr ⟨so_iconst dX7_forget_1 (by decide) rfl, ?_⟩
  refine List.forall_mem_cons.mpr ⟨so_pI (C := RX7) (T := TX7) (N := 29) dX7_forget_2 (by decide) rfl rfl (by decide) rfl in_X7 wf_X7_62 tyX7 tyX7_ok nmX7 rfl (by decide +kernel) rfl, ?_⟩
  refine List.forall_mem_cons.mpr ⟨so_aload_n dX7_forget_5 rfl rfl, ?_⟩
  refine List.forall_mem_cons.mpr ⟨so_gI (C := RX7) (T := TX7) (N := 29) dX7_forget_6 (by decide) rfl rfl (by decide) rfl in_X7 wf_X7_118 rfl, ?_⟩
  refine List.forall_mem_cons.mpr ⟨so_aload_n dX7_forget_9 rfl rfl, ?_⟩
  refine List.forall_mem_cons.mpr ⟨so_gI (C := RX7) (T := TX7) (N := 29) dX7_forget_10 (by decide) rfl rfl (by decide) rfl in_X7 wf_X7_121 rfl, ?_⟩
  refine List.forall_mem_cons.mpr ⟨so_iadd dX7_forget_13 rfl, ?_⟩
  refine List.forall_mem_cons.mpr ⟨so_istore_n dX7_forget_14 rfl rfl, ?_⟩
  refine List.forall_mem_cons.mpr ⟨so_aload_n dX7_forget_15 rfl rfl, ?_⟩
  refine List.forall_mem_cons.mpr ⟨so_iconst dX7_forget_16 (by decide) rfl, ?_⟩
  refine List.forall_mem_cons.mpr ⟨so_pI (C := RX7) (T := TX7) (N := 29) dX7_forget_17 (by decide) rfl rfl (by decide) rfl in_X7 wf_X7_118 tyX7 tyX7_ok nmX7 rfl (by decide +kernel) rfl, ?_⟩
  refine List.forall_mem_cons.mpr ⟨so_aload_n dX7_forget_20 rfl rfl, ?_⟩
  refine List.forall_mem_cons.mpr ⟨so_iconst dX7_forget_21 (by decide) rfl, ?_⟩
  refine List.forall_mem_cons.mpr ⟨so_pI (C := RX7) (T := TX7) (N := 29) dX7_forget_22 (by decide) rfl rfl (by decide) rfl in_X7 wf_X7_121 tyX7 tyX7_ok nmX7 rfl (by decide +kernel) rfl, ?_⟩
  refine List.forall_mem_cons.mpr ⟨so_iload_n dX7_forget_25 rfl rfl, ?_⟩
  refine List.forall_mem_cons.mpr ⟨so_rI dX7_forget_26 rfl, ?_⟩
  exact fun _ h => absurd h List.not_mem_nil
theorem dX7_rate_0 : decode cX7_rate 0 = .ok (.aload_n 0, 1) := by decide +kernel
theorem dX7_rate_1 : decode cX7_rate 1 = .ok (.iconst 0, 1) := by decide +kernel
theorem dX7_rate_2 : decode cX7_rate 2 = .ok (.putfield 62, 3) := by decide +kernel
theorem dX7_rate_5 : decode cX7_rate 5 = .ok (.iload_n 1, 1) := by decide +kernel
theorem dX7_rate_6 : decode cX7_rate 6 = .ok (.iconst 0, 1) := by decide +kernel
theorem dX7_rate_7 : decode cX7_rate 7 = .ok (.iconst 5, 1) := by decide +kernel
theorem dX7_rate_8 : decode cX7_rate 8 = .ok (.invokestatic 66, 3) := by decide +kernel
theorem dX7_rate_11 : decode cX7_rate 11 = .ok (.ifCond .eq 11, 3) := by decide +kernel
theorem dX7_rate_14 : decode cX7_rate 14 = .ok (.aload_n 0, 1) := by decide +kernel
theorem dX7_rate_15 : decode cX7_rate 15 = .ok (.iload_n 2, 1) := by decide +kernel
theorem dX7_rate_16 : decode cX7_rate 16 = .ok (.invokevirtual 130, 3) := by decide +kernel
theorem dX7_rate_19 : decode cX7_rate 19 = .ok (.ifCond .ne 6, 3) := by decide +kernel
theorem dX7_rate_22 : decode cX7_rate 22 = .ok (.ldc 175, 2) := by decide +kernel
theorem dX7_rate_24 : decode cX7_rate 24 = .ok (.ireturn, 1) := by decide +kernel
theorem dX7_rate_25 : decode cX7_rate 25 = .ok (.aload_n 0, 1) := by decide +kernel
theorem dX7_rate_26 : decode cX7_rate 26 = .ok (.getfield 19, 3) := by decide +kernel
theorem dX7_rate_29 : decode cX7_rate 29 = .ok (.iload_n 2, 1) := by decide +kernel
theorem dX7_rate_30 : decode cX7_rate 30 = .ok (.iaload, 1) := by decide +kernel
theorem dX7_rate_31 : decode cX7_rate 31 = .ok (.istore_n 3, 1) := by decide +kernel
theorem dX7_rate_32 : decode cX7_rate 32 = .ok (.iload_n 3, 1) := by decide +kernel
theorem dX7_rate_33 : decode cX7_rate 33 = .ok (.aload_n 0, 1) := by decide +kernel
theorem dX7_rate_34 : decode cX7_rate 34 = .ok (.iload_n 2, 1) := by decide +kernel
theorem dX7_rate_35 : decode cX7_rate 35 = .ok (.invokevirtual 134, 3) := by decide +kernel
theorem dX7_rate_38 : decode cX7_rate 38 = .ok (.invokestatic 162, 3) := by decide +kernel
theorem dX7_rate_41 : decode cX7_rate 41 = .ok (.iadd, 1) := by decide +kernel
theorem dX7_rate_42 : decode cX7_rate 42 = .ok (.istore 4, 2) := by decide +kernel
theorem dX7_rate_44 : decode cX7_rate 44 = .ok (.iload_n 3, 1) := by decide +kernel
theorem dX7_rate_45 : decode cX7_rate 45 = .ok (.aload_n 0, 1) := by decide +kernel
theorem dX7_rate_46 : decode cX7_rate 46 = .ok (.aload_n 0, 1) := by decide +kernel
theorem dX7_rate_47 : decode cX7_rate 47 = .ok (.getfield 31, 3) := by decide +kernel
theorem dX7_rate_50 : decode cX7_rate 50 = .ok (.iconst 0, 1) := by decide +kernel
theorem dX7_rate_51 : decode cX7_rate 51 = .ok (.iaload, 1) := by decide +kernel
theorem dX7_rate_52 : decode cX7_rate 52 = .ok (.invokevirtual 127, 3) := by decide +kernel
theorem dX7_rate_55 : decode cX7_rate 55 = .ok (.isub, 1) := by decide +kernel
theorem dX7_rate_56 : decode cX7_rate 56 = .ok (.istore 5, 2) := by decide +kernel
theorem dX7_rate_58 : decode cX7_rate 58 = .ok (.aload_n 0, 1) := by decide +kernel
theorem dX7_rate_59 : decode cX7_rate 59 = .ok (.dup, 1) := by decide +kernel
theorem dX7_rate_60 : decode cX7_rate 60 = .ok (.getfield 176, 3) := by decide +kernel
theorem dX7_rate_63 : decode cX7_rate 63 = .ok (.iload_n 1, 1) := by decide +kernel
theorem dX7_rate_64 : decode cX7_rate 64 = .ok (.ifCond .ne 7, 3) := by decide +kernel
theorem dX7_rate_67 : decode cX7_rate 67 = .ok (.lconst 1, 1) := by decide +kernel
theorem dX7_rate_68 : decode cX7_rate 68 = .ok (.goto 50, 3) := by decide +kernel
theorem dX7_rate_71 : decode cX7_rate 71 = .ok (.iload_n 1, 1) := by decide +kernel
theorem dX7_rate_72 : decode cX7_rate 72 = .ok (.iconst 1, 1) := by decide +kernel
theorem dX7_rate_73 : decode cX7_rate 73 = .ok (.if_icmp .ne 9, 3) := by decide +kernel
theorem dX7_rate_76 : decode cX7_rate 76 = .ok (.ldc2_w 180, 3) := by decide +kernel
theorem dX7_rate_79 : decode cX7_rate 79 = .ok (.goto 39, 3) := by decide +kernel
theorem dX7_rate_82 : decode cX7_rate 82 = .ok (.iload_n 1, 1) := by decide +kernel
theorem dX7_rate_83 : decode cX7_rate 83 = .ok (.iconst 2, 1) := by decide +kernel
theorem dX7_rate_84 : decode cX7_rate 84 = .ok (.if_icmp .ne 9, 3) := by decide +kernel
theorem dX7_rate_87 : decode cX7_rate 87 = .ok (.ldc2_w 182, 3) := by decide +kernel
theorem dX7_rate_90 : decode cX7_rate 90 = .ok (.goto 28, 3) := by decide +kernel
theorem dX7_rate_93 : decode cX7_rate 93 = .ok (.iload_n 1, 1) := by decide +kernel
theorem dX7_rate_94 : decode cX7_rate 94 = .ok (.iconst 3, 1) := by decide +kernel
theorem dX7_rate_95 : decode cX7_rate 95 = .ok (.if_icmp .ne 9, 3) := by decide +kernel
theorem dX7_rate_98 : decode cX7_rate 98 = .ok (.ldc2_w 184, 3) := by decide +kernel
theorem dX7_rate_101 : decode cX7_rate 101 = .ok (.goto 17, 3) := by decide +kernel
theorem dX7_rate_104 : decode cX7_rate 104 = .ok (.iload_n 1, 1) := by decide +kernel
theorem dX7_rate_105 : decode cX7_rate 105 = .ok (.iconst 4, 1) := by decide +kernel
theorem dX7_rate_106 : decode cX7_rate 106 = .ok (.if_icmp .ne 9, 3) := by decide +kernel
theorem dX7_rate_109 : decode cX7_rate 109 = .ok (.ldc2_w 186, 3) := by decide +kernel
theorem dX7_rate_112 : decode cX7_rate 112 = .ok (.goto 6, 3) := by decide +kernel
theorem dX7_rate_115 : decode cX7_rate 115 = .ok (.ldc2_w 188, 3) := by decide +kernel
theorem dX7_rate_118 : decode cX7_rate 118 = .ok (.ladd, 1) := by decide +kernel
theorem dX7_rate_119 : decode cX7_rate 119 = .ok (.putfield 176, 3) := by decide +kernel
theorem dX7_rate_122 : decode cX7_rate 122 = .ok (.iload_n 1, 1) := by decide +kernel
theorem dX7_rate_123 : decode cX7_rate 123 = .ok (.ifCond .ne 7, 3) := by decide +kernel
theorem dX7_rate_126 : decode cX7_rate 126 = .ok (.iload_n 3, 1) := by decide +kernel
theorem dX7_rate_127 : decode cX7_rate 127 = .ok (.goto 55, 3) := by decide +kernel
theorem dX7_rate_130 : decode cX7_rate 130 = .ok (.iload_n 1, 1) := by decide +kernel
theorem dX7_rate_131 : decode cX7_rate 131 = .ok (.iconst 1, 1) := by decide +kernel
theorem dX7_rate_132 : decode cX7_rate 132 = .ok (.if_icmp .ne 8, 3) := by decide +kernel
theorem dX7_rate_135 : decode cX7_rate 135 = .ok (.iload 4, 2) := by decide +kernel
theorem dX7_rate_137 : decode cX7_rate 137 = .ok (.goto 45, 3) := by decide +kernel
theorem dX7_rate_140 : decode cX7_rate 140 = .ok (.iload_n 1, 1) := by decide +kernel
theorem dX7_rate_141 : decode cX7_rate 141 = .ok (.iconst 2, 1) := by decide +kernel
theorem dX7_rate_142 : decode cX7_rate 142 = .ok (.if_icmp .ne 8, 3) := by decide +kernel
theorem dX7_rate_145 : decode cX7_rate 145 = .ok (.iload 5, 2) := by decide +kernel
theorem dX7_rate_147 : decode cX7_rate 147 = .ok (.goto 35, 3) := by decide +kernel
theorem dX7_rate_150 : decode cX7_rate 150 = .ok (.iload_n 1, 1) := by decide +kernel
theorem dX7_rate_151 : decode cX7_rate 151 = .ok (.iconst 3, 1) := by decide +kernel
theorem dX7_rate_152 : decode cX7_rate 152 = .ok (.if_icmp .ne 10, 3) := by decide +kernel
theorem dX7_rate_155 : decode cX7_rate 155 = .ok (.iconst 2, 1) := by decide +kernel
theorem dX7_rate_156 : decode cX7_rate 156 = .ok (.iload 4, 2) := by decide +kernel
theorem dX7_rate_158 : decode cX7_rate 158 = .ok (.imul, 1) := by decide +kernel
theorem dX7_rate_159 : decode cX7_rate 159 = .ok (.goto 23, 3) := by decide +kernel
theorem dX7_rate_162 : decode cX7_rate 162 = .ok (.iload_n 1, 1) := by decide +kernel
theorem dX7_rate_163 : decode cX7_rate 163 = .ok (.iconst 4, 1) := by decide +kernel
theorem dX7_rate_164 : decode cX7_rate 164 = .ok (.if_icmp .ne 10, 3) := by decide +kernel
theorem dX7_rate_167 : decode cX7_rate 167 = .ok (.iload 5, 2) := by decide +kernel
theorem dX7_rate_169 : decode cX7_rate 169 = .ok (.iload_n 2, 1) := by decide +kernel
theorem dX7_rate_170 : decode cX7_rate 170 = .ok (.iadd, 1) := by decide +kernel
theorem dX7_rate_171 : decode cX7_rate 171 = .ok (.goto 11, 3) := by decide +kernel
theorem dX7_rate_174 : decode cX7_rate 174 = .ok (.iload_n 3, 1) := by decide +kernel
theorem dX7_rate_175 : decode cX7_rate 175 = .ok (.aload_n 0, 1) := by decide +kernel
theorem dX7_rate_176 : decode cX7_rate 176 = .ok (.getfield 25, 3) := by decide +kernel
theorem dX7_rate_179 : decode cX7_rate 179 = .ok (.iload_n 2, 1) := by decide +kernel
theorem dX7_rate_180 : decode cX7_rate 180 = .ok (.iaload, 1) := by decide +kernel
theorem dX7_rate_181 : decode cX7_rate 181 = .ok (.iadd, 1) := by decide +kernel
theorem dX7_rate_182 : decode cX7_rate 182 = .ok (.ireturn, 1) := by decide +kernel
def T_X7_rate : tk_Tb := [(0, tk_al 0 1), (1, tk_ic (0) 2), (2, tk_pI 7 0 5), (5, tk_il 1 6), (6, tk_ic (0) 7), (7, tk_ic (5) 8), (8, tk_cs M_X7_in 3 11), (11, tk_br (fun x => x = 0) 22 14), (14, tk_al 0 15), (15, tk_il 2 16), (16, tk_cv 7 M_X7_isKerb 1 19), (19, tk_br (fun x => x = 0) 22 25), (22, tk_ic (-1000000) 24), (24, tk_rI), (25, tk_al 0 26), (26, tk_gR 7 12 29), (29, tk_il 2 30), (30, tk_ai 9 31), (31, tk_sI 3 32), (32, tk_il 3 33), (33, tk_al 0 34), (34, tk_il 2 35), (35, tk_cv 7 M_X7_thingsOn 1 38), (38, tk_cs M_X7_ones 1 41), (41, tk_bi (fun x y => x + y) 42), (42, tk_sI 4 44), (44, tk_il 3 45), (45, tk_al 0 46), (46, tk_al 0 47), (47, tk_gR 7 16 50), (50, tk_ic (0) 51), (51, tk_ai 9 52), (52, tk_cv 7 M_X7_levelOf 1 55), (55, tk_bi (fun x y => x - y) 56), (56, tk_sI 5 58), (58, tk_al 0 59), (59, tk_dup 60), (60, tk_gL 7 1 63), (63, tk_il 1 64), (64, tk_br (fun x => x = 0) 67 71), (67, tk_lc (1) 68), (68, tk_jmp 118), (71, tk_il 1 72), (72, tk_ic (1) 73), (73, tk_cm (fun x y => x = y) 76 82), (76, tk_lc (11) 79), (79, tk_jmp 118), (82, tk_il 1 83), (83, tk_ic (2) 84), (84, tk_cm (fun x y => x = y) 87 93), (87, tk_lc (101) 90), (90, tk_jmp 118), (93, tk_il 1 94), (94, tk_ic (3) 95), (95, tk_cm (fun x y => x = y) 98 104), (98, tk_lc (1011) 101), (101, tk_jmp 118), (104, tk_il 1 105), (105, tk_ic (4) 106), (106, tk_cm (fun x y => x = y) 109 115), (109, tk_lc (10101) 112), (112, tk_jmp 118), (115, tk_lc (100001) 118), (118, tk_lad 119), (119, tk_pL 7 1 122), (122, tk_il 1 123), (123, tk_br (fun x => x = 0) 126 130), (126, tk_il 3 127), (127, tk_jmp 182), (130, tk_il 1 131), (131, tk_ic (1) 132), (132, tk_cm (fun x y => x = y) 135 140), (135, tk_il 4 137), (137, tk_jmp 182), (140, tk_il 1 141), (141, tk_ic (2) 142), (142, tk_cm (fun x y => x = y) 145 150), (145, tk_il 5 147), (147, tk_jmp 182), (150, tk_il 1 151), (151, tk_ic (3) 152), (152, tk_cm (fun x y => x = y) 155 162), (155, tk_ic (2) 156), (156, tk_il 4 158), (158, tk_bi (fun x y => x * y) 159), (159, tk_jmp 182), (162, tk_il 1 163), (163, tk_ic (4) 164), (164, tk_cm (fun x y => x = y) 167 174), (167, tk_il 5 169), (169, tk_il 2 170), (170, tk_bi (fun x y => x + y) 171), (171, tk_jmp 182), (174, tk_il 3 175), (175, tk_al 0 176), (176, tk_gR 7 14 179), (179, tk_il 2 180), (180, tk_ai 9 181), (181, tk_bi (fun x y => x + y) 182), (182, tk_rI)]
set_option maxRecDepth 100000 in
theorem hT_X7_rate (sc : Option (Nat × (Nat → Int32))) : ∀ x ∈ T_X7_rate, tk_So sc M_X7_rate x.1 x.2 := by
  unfold T_X7_rate
  refine List.forall_mem_cons.mpr ⟨so_aload_n dX7_rate_0 rfl rfl, ?_⟩
  refine List.forall_mem_cons.mpr ⟨so_iconst dX7_rate_1 (by decide) rfl, ?_⟩
  refine List.forall_mem_cons.mpr ⟨so_pI (C := RX7) (T := TX7) (N := 29) dX7_rate_2 (by decide) rfl rfl (by decide) rfl in_X7 wf_X7_62 tyX7 tyX7_ok nmX7 rfl (by decide +kernel) rfl, ?_⟩
  refine List.forall_mem_cons.mpr ⟨so_iload_n dX7_rate_5 rfl rfl, ?_⟩
  refine List.forall_mem_cons.mpr ⟨so_iconst dX7_rate_6 (by decide) rfl, ?_⟩
  refine List.forall_mem_cons.mpr ⟨so_iconst dX7_rate_7 (by decide) rfl, ?_⟩
  refine List.forall_mem_cons.mpr ⟨so_cs dX7_rate_8 mv_X7_in wm_X7_66 ⟨rfl, rfl⟩ (by decide) rfl, ?_⟩
  refine List.forall_mem_cons.mpr ⟨so_if_eq dX7_rate_11 (by decide) rfl, ?_⟩
  refine List.forall_mem_cons.mpr ⟨so_aload_n dX7_rate_14 rfl rfl, ?_⟩
  refine List.forall_mem_cons.mpr ⟨so_iload_n dX7_rate_15 rfl rfl, ?_⟩
  refine List.forall_mem_cons.mpr ⟨so_cv (T := TX7) (N := 29) dX7_rate_16 mv_X7_isKerb wm_X7_130 (by decide) rfl ⟨rfl, rfl⟩ (by decide) rfl, ?_⟩
  refine List.forall_mem_cons.mpr ⟨so_if_ne dX7_rate_19 (by decide) rfl, ?_⟩
  refine List.forall_mem_cons.mpr ⟨so_ldc dX7_rate_22 wc_X7_175 rfl, ?_⟩
  refine List.forall_mem_cons.mpr ⟨so_rI dX7_rate_24 rfl, ?_⟩
  refine List.forall_mem_cons.mpr ⟨so_aload_n dX7_rate_25 rfl rfl, ?_⟩
  refine List.forall_mem_cons.mpr ⟨so_gR (C := RX7) (T := TX7) (N := 29) dX7_rate_26 (by decide) rfl rfl (by decide) rfl in_X7 wf_X7_19 rfl, ?_⟩
  refine List.forall_mem_cons.mpr ⟨so_iload_n dX7_rate_29 rfl rfl, ?_⟩
  refine List.forall_mem_cons.mpr ⟨so_iaload dX7_rate_30 rfl, ?_⟩
  refine List.forall_mem_cons.mpr ⟨so_istore_n dX7_rate_31 rfl rfl, ?_⟩
  refine List.forall_mem_cons.mpr ⟨so_iload_n dX7_rate_32 rfl rfl, ?_⟩
  refine List.forall_mem_cons.mpr ⟨so_aload_n dX7_rate_33 rfl rfl, ?_⟩
  refine List.forall_mem_cons.mpr ⟨so_iload_n dX7_rate_34 rfl rfl, ?_⟩
  refine List.forall_mem_cons.mpr ⟨so_cv (T := TX7) (N := 29) dX7_rate_35 mv_X7_thingsOn wm_X7_134 (by decide) rfl ⟨rfl, rfl⟩ (by decide) rfl, ?_⟩
  refine List.forall_mem_cons.mpr ⟨so_cs dX7_rate_38 mv_X7_ones wm_X7_162 ⟨rfl, rfl⟩ (by decide) rfl, ?_⟩
  refine List.forall_mem_cons.mpr ⟨so_iadd dX7_rate_41 rfl, ?_⟩
  refine List.forall_mem_cons.mpr ⟨so_istore dX7_rate_42 rfl, ?_⟩
  refine List.forall_mem_cons.mpr ⟨so_iload_n dX7_rate_44 rfl rfl, ?_⟩
  refine List.forall_mem_cons.mpr ⟨so_aload_n dX7_rate_45 rfl rfl, ?_⟩
  refine List.forall_mem_cons.mpr ⟨so_aload_n dX7_rate_46 rfl rfl, ?_⟩
  refine List.forall_mem_cons.mpr ⟨so_gR (C := RX7) (T := TX7) (N := 29) dX7_rate_47 (by decide) rfl rfl (by decide) rfl in_X7 wf_X7_31 rfl, ?_⟩
  refine List.forall_mem_cons.mpr ⟨so_iconst dX7_rate_50 (by decide) rfl, ?_⟩
  refine List.forall_mem_cons.mpr ⟨so_iaload dX7_rate_51 rfl, ?_⟩
  refine List.forall_mem_cons.mpr ⟨so_cv (T := TX7) (N := 29) dX7_rate_52 mv_X7_levelOf wm_X7_127 (by decide) rfl ⟨rfl, rfl⟩ (by decide) rfl, ?_⟩
  refine List.forall_mem_cons.mpr ⟨so_isub dX7_rate_55 rfl, ?_⟩
  refine List.forall_mem_cons.mpr ⟨so_istore dX7_rate_56 rfl, ?_⟩
  refine List.forall_mem_cons.mpr ⟨so_aload_n dX7_rate_58 rfl rfl, ?_⟩
  refine List.forall_mem_cons.mpr ⟨so_dup dX7_rate_59 rfl, ?_⟩
  refine List.forall_mem_cons.mpr ⟨so_gL (C := RX7) (T := TX7) (N := 29) dX7_rate_60 (by decide) rfl rfl (by decide) rfl in_X7 wf_X7_176 rfl, ?_⟩
  refine List.forall_mem_cons.mpr ⟨so_iload_n dX7_rate_63 rfl rfl, ?_⟩
  refine List.forall_mem_cons.mpr ⟨so_if_ne dX7_rate_64 (by decide) rfl, ?_⟩
  refine List.forall_mem_cons.mpr ⟨so_lconst dX7_rate_67 (by decide) rfl, ?_⟩
  refine List.forall_mem_cons.mpr ⟨so_goto dX7_rate_68 (by decide), ?_⟩
  refine List.forall_mem_cons.mpr ⟨so_iload_n dX7_rate_71 rfl rfl, ?_⟩
  refine List.forall_mem_cons.mpr ⟨so_iconst dX7_rate_72 (by decide) rfl, ?_⟩
  refine List.forall_mem_cons.mpr ⟨so_icmp_ne dX7_rate_73 (by decide) rfl, ?_⟩
  refine List.forall_mem_cons.mpr ⟨so_ldc2 dX7_rate_76 wc_X7_180 rfl, ?_⟩
  refine List.forall_mem_cons.mpr ⟨so_goto dX7_rate_79 (by decide), ?_⟩
  refine List.forall_mem_cons.mpr ⟨so_iload_n dX7_rate_82 rfl rfl, ?_⟩
  refine List.forall_mem_cons.mpr ⟨so_iconst dX7_rate_83 (by decide) rfl, ?_⟩
  refine List.forall_mem_cons.mpr ⟨so_icmp_ne dX7_rate_84 (by decide) rfl, ?_⟩
  refine List.forall_mem_cons.mpr ⟨so_ldc2 dX7_rate_87 wc_X7_182 rfl, ?_⟩
  refine List.forall_mem_cons.mpr ⟨so_goto dX7_rate_90 (by decide), ?_⟩
  refine List.forall_mem_cons.mpr ⟨so_iload_n dX7_rate_93 rfl rfl, ?_⟩
  refine List.forall_mem_cons.mpr ⟨so_iconst dX7_rate_94 (by decide) rfl, ?_⟩
  refine List.forall_mem_cons.mpr ⟨so_icmp_ne dX7_rate_95 (by decide) rfl, ?_⟩
  refine List.forall_mem_cons.mpr ⟨so_ldc2 dX7_rate_98 wc_X7_184 rfl, ?_⟩
  refine List.forall_mem_cons.mpr ⟨so_goto dX7_rate_101 (by decide), ?_⟩
  refine List.forall_mem_cons.mpr ⟨so_iload_n dX7_rate_104 rfl rfl, ?_⟩
  refine List.forall_mem_cons.mpr ⟨so_iconst dX7_rate_105 (by decide) rfl, ?_⟩
  refine List.forall_mem_cons.mpr ⟨so_icmp_ne dX7_rate_106 (by decide) rfl, ?_⟩
  refine List.forall_mem_cons.mpr ⟨so_ldc2 dX7_rate_109 wc_X7_186 rfl, ?_⟩
  refine List.forall_mem_cons.mpr ⟨so_goto dX7_rate_112 (by decide), ?_⟩
  refine List.forall_mem_cons.mpr ⟨so_ldc2 dX7_rate_115 wc_X7_188 rfl, ?_⟩
  refine List.forall_mem_cons.mpr ⟨so_ladd dX7_rate_118 rfl, ?_⟩
  refine List.forall_mem_cons.mpr ⟨so_pL (C := RX7) (T := TX7) (N := 29) dX7_rate_119 (by decide) rfl rfl (by decide) rfl in_X7 wf_X7_176 tyX7 tyX7_ok nmX7 rfl (by decide +kernel) rfl, ?_⟩
  refine List.forall_mem_cons.mpr ⟨so_iload_n dX7_rate_122 rfl rfl, ?_⟩
  refine List.forall_mem_cons.mpr ⟨so_if_ne dX7_rate_123 (by decide) rfl, ?_⟩
  refine List.forall_mem_cons.mpr ⟨so_iload_n dX7_rate_126 rfl rfl, ?_⟩
  refine List.forall_mem_cons.mpr ⟨so_goto dX7_rate_127 (by decide), ?_⟩
  refine List.forall_mem_cons.mpr ⟨so_iload_n dX7_rate_130 rfl rfl, ?_⟩
  refine List.forall_mem_cons.mpr ⟨so_iconst dX7_rate_131 (by decide) rfl, ?_⟩
  refine List.forall_mem_cons.mpr ⟨so_icmp_ne dX7_rate_132 (by decide) rfl, ?_⟩
  refine List.forall_mem_cons.mpr ⟨so_iload dX7_rate_135 rfl, ?_⟩
  refine List.forall_mem_cons.mpr ⟨so_goto dX7_rate_137 (by decide), ?_⟩
  refine List.forall_mem_cons.mpr ⟨so_iload_n dX7_rate_140 rfl rfl, ?_⟩
  refine List.forall_mem_cons.mpr ⟨so_iconst dX7_rate_141 (by decide) rfl, ?_⟩
  refine List.forall_mem_cons.mpr ⟨so_icmp_ne dX7_rate_142 (by decide) rfl, ?_⟩
  refine List.forall_mem_cons.mpr ⟨so_iload dX7_rate_145 rfl, ?_⟩
  refine List.forall_mem_cons.mpr ⟨so_goto dX7_rate_147 (by decide), ?_⟩
  refine List.forall_mem_cons.mpr ⟨so_iload_n dX7_rate_150 rfl rfl, ?_⟩
  refine List.forall_mem_cons.mpr ⟨so_iconst dX7_rate_151 (by decide) rfl, ?_⟩
  refine List.forall_mem_cons.mpr ⟨so_icmp_ne dX7_rate_152 (by decide) rfl, ?_⟩
  refine List.forall_mem_cons.mpr ⟨so_iconst dX7_rate_155 (by decide) rfl, ?_⟩
  refine List.forall_mem_cons.mpr ⟨so_iload dX7_rate_156 rfl, ?_⟩
  refine List.forall_mem_cons.mpr ⟨so_imul dX7_rate_158 rfl, ?_⟩
  refine List.forall_mem_cons.mpr ⟨so_goto dX7_rate_159 (by decide), ?_⟩
  refine List.forall_mem_cons.mpr ⟨so_iload_n dX7_rate_162 rfl rfl, ?_⟩
  refine List.forall_mem_cons.mpr ⟨so_iconst dX7_rate_163 (by decide) rfl, ?_⟩
  refine List.forall_mem_cons.mpr ⟨so_icmp_ne dX7_rate_164 (by decide) rfl, ?_⟩
  refine List.forall_mem_cons.mpr ⟨so_iload dX7_rate_167 rfl, ?_⟩
  refine List.forall_mem_cons.mpr ⟨so_iload_n dX7_rate_169 rfl rfl, ?_⟩
  refine List.forall_mem_cons.mpr ⟨so_iadd dX7_rate_170 rfl, ?_⟩
  refine List.forall_mem_cons.mpr ⟨so_goto dX7_rate_171 (by decide), ?_⟩
  refine List.forall_mem_cons.mpr ⟨so_iload_n dX7_rate_174 rfl rfl, ?_⟩
  refine List.forall_mem_cons.mpr ⟨so_aload_n dX7_rate_175 rfl rfl, ?_⟩
  refine List.forall_mem_cons.mpr ⟨so_gR (C := RX7) (T := TX7) (N := 29) dX7_rate_176 (by decide) rfl rfl (by decide) rfl in_X7 wf_X7_25 rfl, ?_⟩
  refine List.forall_mem_cons.mpr ⟨so_iload_n dX7_rate_179 rfl rfl, ?_⟩
  refine List.forall_mem_cons.mpr ⟨so_iaload dX7_rate_180 rfl, ?_⟩
  refine List.forall_mem_cons.mpr ⟨so_iadd dX7_rate_181 rfl, ?_⟩
  refine List.forall_mem_cons.mpr ⟨so_rI dX7_rate_182 rfl, ?_⟩
  exact fun _ h => absurd h List.not_mem_nil
theorem dX7_keep_0 : decode cX7_keep 0 = .ok (.aload_n 0, 1) := by decide +kernel
theorem dX7_keep_1 : decode cX7_keep 1 = .ok (.iconst 0, 1) := by decide +kernel
theorem dX7_keep_2 : decode cX7_keep 2 = .ok (.putfield 62, 3) := by decide +kernel
theorem dX7_keep_5 : decode cX7_keep 5 = .ok (.iload_n 1, 1) := by decide +kernel
theorem dX7_keep_6 : decode cX7_keep 6 = .ok (.iconst 0, 1) := by decide +kernel
theorem dX7_keep_7 : decode cX7_keep 7 = .ok (.iconst 1, 1) := by decide +kernel
theorem dX7_keep_8 : decode cX7_keep 8 = .ok (.invokestatic 66, 3) := by decide +kernel
theorem dX7_keep_11 : decode cX7_keep 11 = .ok (.ifCond .ne 5, 3) := by decide +kernel
theorem dX7_keep_14 : decode cX7_keep 14 = .ok (.iconst (-1), 1) := by decide +kernel
theorem dX7_keep_15 : decode cX7_keep 15 = .ok (.ireturn, 1) := by decide +kernel
theorem dX7_keep_16 : decode cX7_keep 16 = .ok (.iconst 0, 1) := by decide +kernel
theorem dX7_keep_17 : decode cX7_keep 17 = .ok (.istore_n 2, 1) := by decide +kernel
theorem dX7_keep_18 : decode cX7_keep 18 = .ok (.iload_n 2, 1) := by decide +kernel
theorem dX7_keep_19 : decode cX7_keep 19 = .ok (.bipush 13, 2) := by decide +kernel
theorem dX7_keep_21 : decode cX7_keep 21 = .ok (.if_icmp .ge 26, 3) := by decide +kernel
theorem dX7_keep_24 : decode cX7_keep 24 = .ok (.aload_n 0, 1) := by decide +kernel
theorem dX7_keep_25 : decode cX7_keep 25 = .ok (.getfield 34, 3) := by decide +kernel
theorem dX7_keep_28 : decode cX7_keep 28 = .ok (.bipush 13, 2) := by decide +kernel
theorem dX7_keep_30 : decode cX7_keep 30 = .ok (.iload_n 1, 1) := by decide +kernel
theorem dX7_keep_31 : decode cX7_keep 31 = .ok (.imul, 1) := by decide +kernel
theorem dX7_keep_32 : decode cX7_keep 32 = .ok (.iload_n 2, 1) := by decide +kernel
theorem dX7_keep_33 : decode cX7_keep 33 = .ok (.iadd, 1) := by decide +kernel
theorem dX7_keep_34 : decode cX7_keep 34 = .ok (.aload_n 0, 1) := by decide +kernel
theorem dX7_keep_35 : decode cX7_keep 35 = .ok (.getfield 31, 3) := by decide +kernel
theorem dX7_keep_38 : decode cX7_keep 38 = .ok (.iload_n 2, 1) := by decide +kernel
theorem dX7_keep_39 : decode cX7_keep 39 = .ok (.iaload, 1) := by decide +kernel
theorem dX7_keep_40 : decode cX7_keep 40 = .ok (.iastore, 1) := by decide +kernel
theorem dX7_keep_41 : decode cX7_keep 41 = .ok (.iinc 2 1, 3) := by decide +kernel
theorem dX7_keep_44 : decode cX7_keep 44 = .ok (.goto (-26), 3) := by decide +kernel
theorem dX7_keep_47 : decode cX7_keep 47 = .ok (.aload_n 0, 1) := by decide +kernel
theorem dX7_keep_48 : decode cX7_keep 48 = .ok (.getfield 37, 3) := by decide +kernel
theorem dX7_keep_51 : decode cX7_keep 51 = .ok (.iload_n 1, 1) := by decide +kernel
theorem dX7_keep_52 : decode cX7_keep 52 = .ok (.iconst 1, 1) := by decide +kernel
theorem dX7_keep_53 : decode cX7_keep 53 = .ok (.bastore, 1) := by decide +kernel
theorem dX7_keep_54 : decode cX7_keep 54 = .ok (.aload_n 0, 1) := by decide +kernel
theorem dX7_keep_55 : decode cX7_keep 55 = .ok (.getfield 31, 3) := by decide +kernel
theorem dX7_keep_58 : decode cX7_keep 58 = .ok (.iconst 0, 1) := by decide +kernel
theorem dX7_keep_59 : decode cX7_keep 59 = .ok (.iaload, 1) := by decide +kernel
theorem dX7_keep_60 : decode cX7_keep 60 = .ok (.ireturn, 1) := by decide +kernel
def T_X7_keep : tk_Tb := [(0, tk_al 0 1), (1, tk_ic (0) 2), (2, tk_pI 7 0 5), (5, tk_il 1 6), (6, tk_ic (0) 7), (7, tk_ic (1) 8), (8, tk_cs M_X7_in 3 11), (11, tk_br (fun x => x = 0) 14 16), (14, tk_ic (-1) 15), (15, tk_rI), (16, tk_ic (0) 17), (17, tk_sI 2 18), (18, tk_il 2 19), (19, tk_ic (13) 21), (21, tk_cm (fun x y => y ≤ x) 47 24), (24, tk_al 0 25), (25, tk_gR 7 17 28), (28, tk_ic (13) 30), (30, tk_il 1 31), (31, tk_bi (fun x y => x * y) 32), (32, tk_il 2 33), (33, tk_bi (fun x y => x + y) 34), (34, tk_al 0 35), (35, tk_gR 7 16 38), (38, tk_il 2 39), (39, tk_ai 9 40), (40, tk_si 9 (fun x => x) 41), (41, tk_inc 2 (1) 44), (44, tk_jmp 18), (47, tk_al 0 48), (48, tk_gR 7 18 51), (51, tk_il 1 52), (52, tk_ic (1) 53), (53, tk_si 10 (vp_nar .boolean) 54), (54, tk_al 0 55), (55, tk_gR 7 16 58), (58, tk_ic (0) 59), (59, tk_ai 9 60), (60, tk_rI)]
set_option maxRecDepth 100000 in
theorem hT_X7_keep (sc : Option (Nat × (Nat → Int32))) : ∀ x ∈ T_X7_keep, tk_So sc M_X7_keep x.1 x.2 := by
  unfold T_X7_keep
  refine List.forall_mem_cons.mpr ⟨so_aload_n dX7_keep_0 rfl rfl, ?_⟩
  refine List.forall_mem_cons.mpr ⟨so_iconst dX7_keep_1 (by decide) rfl, ?_⟩
  refine List.forall_mem_cons.mpr ⟨so_pI (C := RX7) (T := TX7) (N := 29) dX7_keep_2 (by decide) rfl rfl (by decide) rfl in_X7 wf_X7_62 tyX7 tyX7_ok nmX7 rfl (by decide +kernel) rfl, ?_⟩
  refine List.forall_mem_cons.mpr ⟨so_iload_n dX7_keep_5 rfl rfl, ?_⟩
  refine List.forall_mem_cons.mpr ⟨so_iconst dX7_keep_6 (by decide) rfl, ?_⟩
  refine List.forall_mem_cons.mpr ⟨so_iconst dX7_keep_7 (by decide) rfl, ?_⟩
  refine List.forall_mem_cons.mpr ⟨so_cs dX7_keep_8 mv_X7_in wm_X7_66 ⟨rfl, rfl⟩ (by decide) rfl, ?_⟩
  refine List.forall_mem_cons.mpr ⟨so_if_ne dX7_keep_11 (by decide) rfl, ?_⟩
  refine List.forall_mem_cons.mpr ⟨so_iconst dX7_keep_14 (by decide) rfl, ?_⟩
  refine List.forall_mem_cons.mpr ⟨so_rI dX7_keep_15 rfl, ?_⟩
  refine List.forall_mem_cons.mpr ⟨so_iconst dX7_keep_16 (by decide) rfl, ?_⟩
  refine List.forall_mem_cons.mpr ⟨so_istore_n dX7_keep_17 rfl rfl, ?_⟩
  refine List.forall_mem_cons.mpr ⟨so_iload_n dX7_keep_18 rfl rfl, ?_⟩
  refine List.forall_mem_cons.mpr ⟨so_bipush dX7_keep_19 (by decide) rfl, ?_⟩
  refine List.forall_mem_cons.mpr ⟨so_icmp_ge dX7_keep_21 (by decide) rfl, ?_⟩
  refine List.forall_mem_cons.mpr ⟨so_aload_n dX7_keep_24 rfl rfl, ?_⟩
  refine List.forall_mem_cons.mpr ⟨so_gR (C := RX7) (T := TX7) (N := 29) dX7_keep_25 (by decide) rfl rfl (by decide) rfl in_X7 wf_X7_34 rfl, ?_⟩
  refine List.forall_mem_cons.mpr ⟨so_bipush dX7_keep_28 (by decide) rfl, ?_⟩
  refine List.forall_mem_cons.mpr ⟨so_iload_n dX7_keep_30 rfl rfl, ?_⟩
  refine List.forall_mem_cons.mpr ⟨so_imul dX7_keep_31 rfl, ?_⟩
  refine List.forall_mem_cons.mpr ⟨so_iload_n dX7_keep_32 rfl rfl, ?_⟩
  refine List.forall_mem_cons.mpr ⟨so_iadd dX7_keep_33 rfl, ?_⟩
  refine List.forall_mem_cons.mpr ⟨so_aload_n dX7_keep_34 rfl rfl, ?_⟩
  refine List.forall_mem_cons.mpr ⟨so_gR (C := RX7) (T := TX7) (N := 29) dX7_keep_35 (by decide) rfl rfl (by decide) rfl in_X7 wf_X7_31 rfl, ?_⟩
  refine List.forall_mem_cons.mpr ⟨so_iload_n dX7_keep_38 rfl rfl, ?_⟩
  refine List.forall_mem_cons.mpr ⟨so_iaload dX7_keep_39 rfl, ?_⟩
  refine List.forall_mem_cons.mpr ⟨so_iastore dX7_keep_40 rfl, ?_⟩
  refine List.forall_mem_cons.mpr ⟨so_iinc dX7_keep_41 (by decide) rfl, ?_⟩
  refine List.forall_mem_cons.mpr ⟨so_goto dX7_keep_44 (by decide), ?_⟩
  refine List.forall_mem_cons.mpr ⟨so_aload_n dX7_keep_47 rfl rfl, ?_⟩
  refine List.forall_mem_cons.mpr ⟨so_gR (C := RX7) (T := TX7) (N := 29) dX7_keep_48 (by decide) rfl rfl (by decide) rfl in_X7 wf_X7_37 rfl, ?_⟩
  refine List.forall_mem_cons.mpr ⟨so_iload_n dX7_keep_51 rfl rfl, ?_⟩
  refine List.forall_mem_cons.mpr ⟨so_iconst dX7_keep_52 (by decide) rfl, ?_⟩
  refine List.forall_mem_cons.mpr ⟨so_bastore dX7_keep_53 rfl, ?_⟩
  refine List.forall_mem_cons.mpr ⟨so_aload_n dX7_keep_54 rfl rfl, ?_⟩
  refine List.forall_mem_cons.mpr ⟨so_gR (C := RX7) (T := TX7) (N := 29) dX7_keep_55 (by decide) rfl rfl (by decide) rfl in_X7 wf_X7_31 rfl, ?_⟩
  refine List.forall_mem_cons.mpr ⟨so_iconst dX7_keep_58 (by decide) rfl, ?_⟩
  refine List.forall_mem_cons.mpr ⟨so_iaload dX7_keep_59 rfl, ?_⟩
  refine List.forall_mem_cons.mpr ⟨so_rI dX7_keep_60 rfl, ?_⟩
  exact fun _ h => absurd h List.not_mem_nil
theorem dX7_back_0 : decode cX7_back 0 = .ok (.aload_n 0, 1) := by decide +kernel
theorem dX7_back_1 : decode cX7_back 1 = .ok (.iconst 0, 1) := by decide +kernel
theorem dX7_back_2 : decode cX7_back 2 = .ok (.putfield 62, 3) := by decide +kernel
theorem dX7_back_5 : decode cX7_back 5 = .ok (.iload_n 1, 1) := by decide +kernel
theorem dX7_back_6 : decode cX7_back 6 = .ok (.iconst 0, 1) := by decide +kernel
theorem dX7_back_7 : decode cX7_back 7 = .ok (.iconst 1, 1) := by decide +kernel
theorem dX7_back_8 : decode cX7_back 8 = .ok (.invokestatic 66, 3) := by decide +kernel
theorem dX7_back_11 : decode cX7_back 11 = .ok (.ifCond .ne 5, 3) := by decide +kernel
theorem dX7_back_14 : decode cX7_back 14 = .ok (.iconst (-1), 1) := by decide +kernel
theorem dX7_back_15 : decode cX7_back 15 = .ok (.ireturn, 1) := by decide +kernel
theorem dX7_back_16 : decode cX7_back 16 = .ok (.aload_n 0, 1) := by decide +kernel
theorem dX7_back_17 : decode cX7_back 17 = .ok (.getfield 37, 3) := by decide +kernel
theorem dX7_back_20 : decode cX7_back 20 = .ok (.iload_n 1, 1) := by decide +kernel
theorem dX7_back_21 : decode cX7_back 21 = .ok (.baload, 1) := by decide +kernel
theorem dX7_back_22 : decode cX7_back 22 = .ok (.ifCond .ne 6, 3) := by decide +kernel
theorem dX7_back_25 : decode cX7_back 25 = .ok (.bipush (-2), 2) := by decide +kernel
theorem dX7_back_27 : decode cX7_back 27 = .ok (.ireturn, 1) := by decide +kernel
theorem dX7_back_28 : decode cX7_back 28 = .ok (.iconst 0, 1) := by decide +kernel
theorem dX7_back_29 : decode cX7_back 29 = .ok (.istore_n 2, 1) := by decide +kernel
theorem dX7_back_30 : decode cX7_back 30 = .ok (.iload_n 2, 1) := by decide +kernel
theorem dX7_back_31 : decode cX7_back 31 = .ok (.bipush 13, 2) := by decide +kernel
theorem dX7_back_33 : decode cX7_back 33 = .ok (.if_icmp .ge 26, 3) := by decide +kernel
theorem dX7_back_36 : decode cX7_back 36 = .ok (.aload_n 0, 1) := by decide +kernel
theorem dX7_back_37 : decode cX7_back 37 = .ok (.getfield 31, 3) := by decide +kernel
theorem dX7_back_40 : decode cX7_back 40 = .ok (.iload_n 2, 1) := by decide +kernel
theorem dX7_back_41 : decode cX7_back 41 = .ok (.aload_n 0, 1) := by decide +kernel
theorem dX7_back_42 : decode cX7_back 42 = .ok (.getfield 34, 3) := by decide +kernel
theorem dX7_back_45 : decode cX7_back 45 = .ok (.bipush 13, 2) := by decide +kernel
theorem dX7_back_47 : decode cX7_back 47 = .ok (.iload_n 1, 1) := by decide +kernel
theorem dX7_back_48 : decode cX7_back 48 = .ok (.imul, 1) := by decide +kernel
theorem dX7_back_49 : decode cX7_back 49 = .ok (.iload_n 2, 1) := by decide +kernel
theorem dX7_back_50 : decode cX7_back 50 = .ok (.iadd, 1) := by decide +kernel
theorem dX7_back_51 : decode cX7_back 51 = .ok (.iaload, 1) := by decide +kernel
theorem dX7_back_52 : decode cX7_back 52 = .ok (.iastore, 1) := by decide +kernel
theorem dX7_back_53 : decode cX7_back 53 = .ok (.iinc 2 1, 3) := by decide +kernel
theorem dX7_back_56 : decode cX7_back 56 = .ok (.goto (-26), 3) := by decide +kernel
theorem dX7_back_59 : decode cX7_back 59 = .ok (.aload_n 0, 1) := by decide +kernel
theorem dX7_back_60 : decode cX7_back 60 = .ok (.iconst 0, 1) := by decide +kernel
theorem dX7_back_61 : decode cX7_back 61 = .ok (.putfield 124, 3) := by decide +kernel
theorem dX7_back_64 : decode cX7_back 64 = .ok (.aload_n 0, 1) := by decide +kernel
theorem dX7_back_65 : decode cX7_back 65 = .ok (.getfield 31, 3) := by decide +kernel
theorem dX7_back_68 : decode cX7_back 68 = .ok (.iconst 0, 1) := by decide +kernel
theorem dX7_back_69 : decode cX7_back 69 = .ok (.iaload, 1) := by decide +kernel
theorem dX7_back_70 : decode cX7_back 70 = .ok (.ireturn, 1) := by decide +kernel
def T_X7_back : tk_Tb := [(0, tk_al 0 1), (1, tk_ic (0) 2), (2, tk_pI 7 0 5), (5, tk_il 1 6), (6, tk_ic (0) 7), (7, tk_ic (1) 8), (8, tk_cs M_X7_in 3 11), (11, tk_br (fun x => x = 0) 14 16), (14, tk_ic (-1) 15), (15, tk_rI), (16, tk_al 0 17), (17, tk_gR 7 18 20), (20, tk_il 1 21), (21, tk_ai 10 22), (22, tk_br (fun x => x = 0) 25 28), (25, tk_ic (-2) 27), (27, tk_rI), (28, tk_ic (0) 29), (29, tk_sI 2 30), (30, tk_il 2 31), (31, tk_ic (13) 33), (33, tk_cm (fun x y => y ≤ x) 59 36), (36, tk_al 0 37), (37, tk_gR 7 16 40), (40, tk_il 2 41), (41, tk_al 0 42), (42, tk_gR 7 17 45), (45, tk_ic (13) 47), (47, tk_il 1 48), (48, tk_bi (fun x y => x * y) 49), (49, tk_il 2 50), (50, tk_bi (fun x y => x + y) 51), (51, tk_ai 9 52), (52, tk_si 9 (fun x => x) 53), (53, tk_inc 2 (1) 56), (56, tk_jmp 30), (59, tk_al 0 60), (60, tk_ic (0) 61), (61, tk_pI 7 20 64), (64, tk_al 0 65), (65, tk_gR 7 16 68), (68, tk_ic (0) 69), (69, tk_ai 9 70), (70, tk_rI)]
set_option maxRecDepth 100000 in
theorem hT_X7_back (sc : Option (Nat × (Nat → Int32))) : ∀ x ∈ T_X7_back, tk_So sc M_X7_back x.1 x.2 := by
  unfold T_X7_back
  refine List.forall_mem_cons.mpr ⟨so_aload_n dX7_back_0 rfl rfl, ?_⟩
  refine List.forall_mem_cons.mpr ⟨so_iconst dX7_back_1 (by decide) rfl, ?_⟩
  refine List.forall_mem_cons.mpr ⟨so_pI (C := RX7) (T := TX7) (N := 29) dX7_back_2 (by decide) rfl rfl (by decide) rfl in_X7 wf_X7_62 tyX7 tyX7_ok nmX7 rfl (by decide +kernel) rfl, ?_⟩
  refine List.forall_mem_cons.mpr ⟨so_iload_n dX7_back_5 rfl rfl, ?_⟩
  refine List.forall_mem_cons.mpr ⟨so_iconst dX7_back_6 (by decide) rfl, ?_⟩
  refine List.forall_mem_cons.mpr ⟨so_iconst dX7_back_7 (by decide) rfl, ?_⟩
  refine List.forall_mem_cons.mpr ⟨so_cs dX7_back_8 mv_X7_in wm_X7_66 ⟨rfl, rfl⟩ (by decide) rfl, ?_⟩
  refine List.forall_mem_cons.mpr ⟨so_if_ne dX7_back_11 (by decide) rfl, ?_⟩
  refine List.forall_mem_cons.mpr ⟨so_iconst dX7_back_14 (by decide) rfl, ?_⟩
  refine List.forall_mem_cons.mpr ⟨so_rI dX7_back_15 rfl, ?_⟩
  refine List.forall_mem_cons.mpr ⟨so_aload_n dX7_back_16 rfl rfl, ?_⟩
  refine List.forall_mem_cons.mpr ⟨so_gR (C := RX7) (T := TX7) (N := 29) dX7_back_17 (by decide) rfl rfl (by decide) rfl in_X7 wf_X7_37 rfl, ?_⟩
  refine List.forall_mem_cons.mpr ⟨so_iload_n dX7_back_20 rfl rfl, ?_⟩
  refine List.forall_mem_cons.mpr ⟨so_baload dX7_back_21 rfl, ?_⟩
  refine List.forall_mem_cons.mpr ⟨so_if_ne dX7_back_22 (by decide) rfl, ?_⟩
  refine List.forall_mem_cons.mpr ⟨so_bipush dX7_back_25 (by decide) rfl, ?_⟩
  refine List.forall_mem_cons.mpr ⟨so_rI dX7_back_27 rfl, ?_⟩
  refine List.forall_mem_cons.mpr ⟨so_iconst dX7_back_28 (by decide) rfl, ?_⟩
  refine List.forall_mem_cons.mpr ⟨so_istore_n dX7_back_29 rfl rfl, ?_⟩
  refine List.forall_mem_cons.mpr ⟨so_iload_n dX7_back_30 rfl rfl, ?_⟩
  refine List.forall_mem_cons.mpr ⟨so_bipush dX7_back_31 (by decide) rfl, ?_⟩
  refine List.forall_mem_cons.mpr ⟨so_icmp_ge dX7_back_33 (by decide) rfl, ?_⟩
  refine List.forall_mem_cons.mpr ⟨so_aload_n dX7_back_36 rfl rfl, ?_⟩
  refine List.forall_mem_cons.mpr ⟨so_gR (C := RX7) (T := TX7) (N := 29) dX7_back_37 (by decide) rfl rfl (by decide) rfl in_X7 wf_X7_31 rfl, ?_⟩
  refine List.forall_mem_cons.mpr ⟨so_iload_n dX7_back_40 rfl rfl, ?_⟩
  refine List.forall_mem_cons.mpr ⟨so_aload_n dX7_back_41 rfl rfl, ?_⟩
  refine List.forall_mem_cons.mpr ⟨so_gR (C := RX7) (T := TX7) (N := 29) dX7_back_42 (by decide) rfl rfl (by decide) rfl in_X7 wf_X7_34 rfl, ?_⟩
  refine List.forall_mem_cons.mpr ⟨so_bipush dX7_back_45 (by decide) rfl, ?_⟩
  refine List.forall_mem_cons.mpr ⟨so_iload_n dX7_back_47 rfl rfl, ?_⟩
  refine List.forall_mem_cons.mpr ⟨so_imul dX7_back_48 rfl, ?_⟩
  refine List.forall_mem_cons.mpr ⟨so_iload_n dX7_back_49 rfl rfl, ?_⟩
  refine List.forall_mem_cons.mpr ⟨so_iadd dX7_back_50 rfl, ?_⟩
  refine List.forall_mem_cons.mpr ⟨so_iaload dX7_back_51 rfl, ?_⟩
  refine List.forall_mem_cons.mpr ⟨so_iastore dX7_back_52 rfl, ?_⟩
  refine List.forall_mem_cons.mpr ⟨so_iinc dX7_back_53 (by decide) rfl, ?_⟩
  refine List.forall_mem_cons.mpr ⟨so_goto dX7_back_56 (by decide), ?_⟩
  refine List.forall_mem_cons.mpr ⟨so_aload_n dX7_back_59 rfl rfl, ?_⟩
  refine List.forall_mem_cons.mpr ⟨so_iconst dX7_back_60 (by decide) rfl, ?_⟩
  refine List.forall_mem_cons.mpr ⟨so_pI (C := RX7) (T := TX7) (N := 29) dX7_back_61 (by decide) rfl rfl (by decide) rfl in_X7 wf_X7_124 tyX7 tyX7_ok nmX7 rfl (by decide +kernel) rfl, ?_⟩
  refine List.forall_mem_cons.mpr ⟨so_aload_n dX7_back_64 rfl rfl, ?_⟩
  refine List.forall_mem_cons.mpr ⟨so_gR (C := RX7) (T := TX7) (N := 29) dX7_back_65 (by decide) rfl rfl (by decide) rfl in_X7 wf_X7_31 rfl, ?_⟩
  refine List.forall_mem_cons.mpr ⟨so_iconst dX7_back_68 (by decide) rfl, ?_⟩
  refine List.forall_mem_cons.mpr ⟨so_iaload dX7_back_69 rfl, ?_⟩
  refine List.forall_mem_cons.mpr ⟨so_rI dX7_back_70 rfl, ?_⟩
  exact fun _ h => absurd h List.not_mem_nil
theorem dX7_count_0 : decode cX7_count 0 = .ok (.aload_n 0, 1) := by decide +kernel
theorem dX7_count_1 : decode cX7_count 1 = .ok (.iconst 0, 1) := by decide +kernel
theorem dX7_count_2 : decode cX7_count 2 = .ok (.putfield 62, 3) := by decide +kernel
theorem dX7_count_5 : decode cX7_count 5 = .ok (.iload_n 1, 1) := by decide +kernel
theorem dX7_count_6 : decode cX7_count 6 = .ok (.iconst 0, 1) := by decide +kernel
theorem dX7_count_7 : decode cX7_count 7 = .ok (.iconst 4, 1) := by decide +kernel
theorem dX7_count_8 : decode cX7_count 8 = .ok (.invokestatic 66, 3) := by decide +kernel
theorem dX7_count_11 : decode cX7_count 11 = .ok (.ifCond .eq 12, 3) := by decide +kernel
theorem dX7_count_14 : decode cX7_count 14 = .ok (.aload_n 0, 1) := by decide +kernel
theorem dX7_count_15 : decode cX7_count 15 = .ok (.getfield 13, 3) := by decide +kernel
theorem dX7_count_18 : decode cX7_count 18 = .ok (.iload_n 1, 1) := by decide +kernel
theorem dX7_count_19 : decode cX7_count 19 = .ok (.iaload, 1) := by decide +kernel
theorem dX7_count_20 : decode cX7_count 20 = .ok (.goto 42, 3) := by decide +kernel
theorem dX7_count_23 : decode cX7_count 23 = .ok (.iload_n 1, 1) := by decide +kernel
theorem dX7_count_24 : decode cX7_count 24 = .ok (.iconst 5, 1) := by decide +kernel
theorem dX7_count_25 : decode cX7_count 25 = .ok (.if_icmp .ne 10, 3) := by decide +kernel
theorem dX7_count_28 : decode cX7_count 28 = .ok (.aload_n 0, 1) := by decide +kernel
theorem dX7_count_29 : decode cX7_count 29 = .ok (.getfield 118, 3) := by decide +kernel
theorem dX7_count_32 : decode cX7_count 32 = .ok (.goto 30, 3) := by decide +kernel
theorem dX7_count_35 : decode cX7_count 35 = .ok (.iload_n 1, 1) := by decide +kernel
theorem dX7_count_36 : decode cX7_count 36 = .ok (.bipush 6, 2) := by decide +kernel
theorem dX7_count_38 : decode cX7_count 38 = .ok (.if_icmp .ne 10, 3) := by decide +kernel
theorem dX7_count_41 : decode cX7_count 41 = .ok (.aload_n 0, 1) := by decide +kernel
theorem dX7_count_42 : decode cX7_count 42 = .ok (.getfield 121, 3) := by decide +kernel
theorem dX7_count_45 : decode cX7_count 45 = .ok (.goto 17, 3) := by decide +kernel
theorem dX7_count_48 : decode cX7_count 48 = .ok (.iload_n 1, 1) := by decide +kernel
theorem dX7_count_49 : decode cX7_count 49 = .ok (.bipush 7, 2) := by decide +kernel
theorem dX7_count_51 : decode cX7_count 51 = .ok (.if_icmp .ne 10, 3) := by decide +kernel
theorem dX7_count_54 : decode cX7_count 54 = .ok (.aload_n 0, 1) := by decide +kernel
theorem dX7_count_55 : decode cX7_count 55 = .ok (.getfield 70, 3) := by decide +kernel
theorem dX7_count_58 : decode cX7_count 58 = .ok (.goto 4, 3) := by decide +kernel
theorem dX7_count_61 : decode cX7_count 61 = .ok (.iconst (-1), 1) := by decide +kernel
theorem dX7_count_62 : decode cX7_count 62 = .ok (.ireturn, 1) := by decide +kernel
def T_X7_count : tk_Tb := [(0, tk_al 0 1), (1, tk_ic (0) 2), (2, tk_pI 7 0 5), (5, tk_il 1 6), (6, tk_ic (0) 7), (7, tk_ic (4) 8), (8, tk_cs M_X7_in 3 11), (11, tk_br (fun x => x = 0) 23 14), (14, tk_al 0 15), (15, tk_gR 7 9 18), (18, tk_il 1 19), (19, tk_ai 9 20), (20, tk_jmp 62), (23, tk_il 1 24), (24, tk_ic (5) 25), (25, tk_cm (fun x y => x = y) 28 35), (28, tk_al 0 29), (29, tk_gI 7 23 32), (32, tk_jmp 62), (35, tk_il 1 36), (36, tk_ic (6) 38), (38, tk_cm (fun x y => x = y) 41 48), (41, tk_al 0 42), (42, tk_gI 7 26 45), (45, tk_jmp 62), (48, tk_il 1 49), (49, tk_ic (7) 51), (51, tk_cm (fun x y => x = y) 54 61), (54, tk_al 0 55), (55, tk_gI 7 3 58), (58, tk_jmp 62), (61, tk_ic (-1) 62), (62, tk_rI)]
set_option maxRecDepth 100000 in
theorem hT_X7_count (sc : Option (Nat × (Nat → Int32))) : ∀ x ∈ T_X7_count, tk_So sc M_X7_count x.1 x.2 := by
  unfold T_X7_count
  refine List.forall_mem_cons.mpr ⟨so_aload_n dX7_count_0 rfl rfl, ?_⟩
  refine List.forall_mem_cons.mpr ⟨so_iconst dX7_count_1 (by decide) rfl, ?_⟩
  refine List.forall_mem_cons.mpr ⟨so_pI (C := RX7) (T := TX7) (N := 29) dX7_count_2 (by decide) rfl rfl (by decide) rfl in_X7 wf_X7_62 tyX7 tyX7_ok nmX7 rfl (by decide +kernel) rfl, ?_⟩
  refine List.forall_mem_cons.mpr ⟨so_iload_n dX7_count_5 rfl rfl, ?_⟩
  refine List.forall_mem_cons.mpr ⟨so_iconst dX7_count_6 (by decide) rfl, ?_⟩
  refine List.forall_mem_cons.mpr ⟨so_iconst dX7_count_7 (by decide) rfl, ?_⟩
  refine List.forall_mem_cons.mpr ⟨so_cs dX7_count_8 mv_X7_in wm_X7_66 ⟨rfl, rfl⟩ (by decide) rfl, ?_⟩
  refine List.forall_mem_cons.mpr ⟨so_if_eq dX7_count_11 (by decide) rfl, ?_⟩
  refine List.forall_mem_cons.mpr ⟨so_aload_n dX7_count_14 rfl rfl, ?_⟩
  refine List.forall_mem_cons.mpr ⟨so_gR (C := RX7) (T := TX7) (N := 29) dX7_count_15 (by decide) rfl rfl (by decide) rfl in_X7 wf_X7_13 rfl, ?_⟩
  refine List.forall_mem_cons.mpr ⟨so_iload_n dX7_count_18 rfl rfl, ?_⟩
  refine List.forall_mem_cons.mpr ⟨so_iaload dX7_count_19 rfl, ?_⟩
  refine List.forall_mem_cons.mpr ⟨so_goto dX7_count_20 (by decide), ?_⟩
  refine List.forall_mem_cons.mpr ⟨so_iload_n dX7_count_23 rfl rfl, ?_⟩
  refine List.forall_mem_cons.mpr ⟨so_iconst dX7_count_24 (by decide) rfl, ?_⟩
  refine List.forall_mem_cons.mpr ⟨so_icmp_ne dX7_count_25 (by decide) rfl, ?_⟩
  refine List.forall_mem_cons.mpr ⟨so_aload_n dX7_count_28 rfl rfl, ?_⟩
  refine List.forall_mem_cons.mpr ⟨so_gI (C := RX7) (T := TX7) (N := 29) dX7_count_29 (by decide) rfl rfl (by decide) rfl in_X7 wf_X7_118 rfl, ?_⟩
  refine List.forall_mem_cons.mpr ⟨so_goto dX7_count_32 (by decide), ?_⟩
  refine List.forall_mem_cons.mpr ⟨so_iload_n dX7_count_35 rfl rfl, ?_⟩
  refine List.forall_mem_cons.mpr ⟨so_bipush dX7_count_36 (by decide) rfl, ?_⟩
  refine List.forall_mem_cons.mpr ⟨so_icmp_ne dX7_count_38 (by decide) rfl, ?_⟩
  refine List.forall_mem_cons.mpr ⟨so_aload_n dX7_count_41 rfl rfl, ?_⟩
  refine List.forall_mem_cons.mpr ⟨so_gI (C := RX7) (T := TX7) (N := 29) dX7_count_42 (by decide) rfl rfl (by decide) rfl in_X7 wf_X7_121 rfl, ?_⟩
  refine List.forall_mem_cons.mpr ⟨so_goto dX7_count_45 (by decide), ?_⟩
  refine List.forall_mem_cons.mpr ⟨so_iload_n dX7_count_48 rfl rfl, ?_⟩
  refine List.forall_mem_cons.mpr ⟨so_bipush dX7_count_49 (by decide) rfl, ?_⟩
  refine List.forall_mem_cons.mpr ⟨so_icmp_ne dX7_count_51 (by decide) rfl, ?_⟩
  refine List.forall_mem_cons.mpr ⟨so_aload_n dX7_count_54 rfl rfl, ?_⟩
  refine List.forall_mem_cons.mpr ⟨so_gI (C := RX7) (T := TX7) (N := 29) dX7_count_55 (by decide) rfl rfl (by decide) rfl in_X7 wf_X7_70 rfl, ?_⟩
  refine List.forall_mem_cons.mpr ⟨so_goto dX7_count_58 (by decide), ?_⟩
  refine List.forall_mem_cons.mpr ⟨so_iconst dX7_count_61 (by decide) rfl, ?_⟩
  refine List.forall_mem_cons.mpr ⟨so_rI dX7_count_62 rfl, ?_⟩
  exact fun _ h => absurd h List.not_mem_nil
theorem dX7_trace_0 : decode cX7_trace 0 = .ok (.aload_n 0, 1) := by decide +kernel
theorem dX7_trace_1 : decode cX7_trace 1 = .ok (.iconst 0, 1) := by decide +kernel
theorem dX7_trace_2 : decode cX7_trace 2 = .ok (.putfield 62, 3) := by decide +kernel
theorem dX7_trace_5 : decode cX7_trace 5 = .ok (.aload_n 0, 1) := by decide +kernel
theorem dX7_trace_6 : decode cX7_trace 6 = .ok (.getfield 176, 3) := by decide +kernel
theorem dX7_trace_9 : decode cX7_trace 9 = .ok (.lreturn, 1) := by decide +kernel
def T_X7_trace : tk_Tb := [(0, tk_al 0 1), (1, tk_ic (0) 2), (2, tk_pI 7 0 5), (5, tk_al 0 6), (6, tk_gL 7 1 9), (9, tk_rL)]
set_option maxRecDepth 100000 in
theorem hT_X7_trace (sc : Option (Nat × (Nat → Int32))) : ∀ x ∈ T_X7_trace, tk_So sc M_X7_trace x.1 x.2 := by
  unfold T_X7_trace
  refine List.forall_mem_cons.mpr ⟨so_aload_n dX7_trace_0 rfl rfl, ?_⟩
  refine List.forall_mem_cons.mpr ⟨so_iconst dX7_trace_1 (by decide) rfl, ?_⟩
  refine List.forall_mem_cons.mpr ⟨so_pI (C := RX7) (T := TX7) (N := 29) dX7_trace_2 (by decide) rfl rfl (by decide) rfl in_X7 wf_X7_62 tyX7 tyX7_ok nmX7 rfl (by decide +kernel) rfl, ?_⟩
  refine List.forall_mem_cons.mpr ⟨so_aload_n dX7_trace_5 rfl rfl, ?_⟩
  refine List.forall_mem_cons.mpr ⟨so_gL (C := RX7) (T := TX7) (N := 29) dX7_trace_6 (by decide) rfl rfl (by decide) rfl in_X7 wf_X7_176 rfl, ?_⟩
  refine List.forall_mem_cons.mpr ⟨so_rL dX7_trace_9 rfl, ?_⟩
  exact fun _ h => absurd h List.not_mem_nil
theorem dL_law_0 : decode cL_law 0 = .ok (.new 7, 3) := by decide +kernel
theorem dL_law_3 : decode cL_law 3 = .ok (.dup, 1) := by decide +kernel
theorem dL_law_4 : decode cL_law 4 = .ok (.invokespecial 9, 3) := by decide +kernel
theorem dL_law_7 : decode cL_law 7 = .ok (.astore_n 1, 1) := by decide +kernel
theorem dL_law_8 : decode cL_law 8 = .ok (.new 10, 3) := by decide +kernel
theorem dL_law_11 : decode cL_law 11 = .ok (.dup, 1) := by decide +kernel
theorem dL_law_12 : decode cL_law 12 = .ok (.invokespecial 12, 3) := by decide +kernel
theorem dL_law_15 : decode cL_law 15 = .ok (.astore_n 2, 1) := by decide +kernel
theorem dL_law_16 : decode cL_law 16 = .ok (.iconst 0, 1) := by decide +kernel
theorem dL_law_17 : decode cL_law 17 = .ok (.istore_n 3, 1) := by decide +kernel
theorem dL_law_18 : decode cL_law 18 = .ok (.iload_n 3, 1) := by decide +kernel
theorem dL_law_19 : decode cL_law 19 = .ok (.aload_n 0, 1) := by decide +kernel
theorem dL_law_20 : decode cL_law 20 = .ok (.arraylength, 1) := by decide +kernel
theorem dL_law_21 : decode cL_law 21 = .ok (.bipush 6, 2) := by decide +kernel
theorem dL_law_23 : decode cL_law 23 = .ok (.isub, 1) := by decide +kernel
theorem dL_law_24 : decode cL_law 24 = .ok (.if_icmp .gt 914, 3) := by decide +kernel
theorem dL_law_27 : decode cL_law 27 = .ok (.aload_n 0, 1) := by decide +kernel
theorem dL_law_28 : decode cL_law 28 = .ok (.iload_n 3, 1) := by decide +kernel
theorem dL_law_29 : decode cL_law 29 = .ok (.iaload, 1) := by decide +kernel
theorem dL_law_30 : decode cL_law 30 = .ok (.bipush 31, 2) := by decide +kernel
theorem dL_law_32 : decode cL_law 32 = .ok (.iand, 1) := by decide +kernel
theorem dL_law_33 : decode cL_law 33 = .ok (.tableswitch 899 0 28 #[131, 154, 167, 180, 213, 246, 269, 292, 325, 358, 371, 394, 417, 440, 473, 506, 549, 582, 605, 668, 701, 714, 747, 770, 783, 816, 839, 862, 885], 131) := by decide +kernel
theorem dL_law_164 : decode cL_law 164 = .ok (.aload_n 1, 1) := by decide +kernel
theorem dL_law_165 : decode cL_law 165 = .ok (.aload_n 0, 1) := by decide +kernel
theorem dL_law_166 : decode cL_law 166 = .ok (.iload_n 3, 1) := by decide +kernel
theorem dL_law_167 : decode cL_law 167 = .ok (.iconst 1, 1) := by decide +kernel
theorem dL_law_168 : decode cL_law 168 = .ok (.iadd, 1) := by decide +kernel
theorem dL_law_169 : decode cL_law 169 = .ok (.iaload, 1) := by decide +kernel
theorem dL_law_170 : decode cL_law 170 = .ok (.invokevirtual 13, 3) := by decide +kernel
theorem dL_law_173 : decode cL_law 173 = .ok (.aload_n 2, 1) := by decide +kernel
theorem dL_law_174 : decode cL_law 174 = .ok (.aload_n 0, 1) := by decide +kernel
theorem dL_law_175 : decode cL_law 175 = .ok (.iload_n 3, 1) := by decide +kernel
theorem dL_law_176 : decode cL_law 176 = .ok (.iconst 1, 1) := by decide +kernel
theorem dL_law_177 : decode cL_law 177 = .ok (.iadd, 1) := by decide +kernel
theorem dL_law_178 : decode cL_law 178 = .ok (.iaload, 1) := by decide +kernel
theorem dL_law_179 : decode cL_law 179 = .ok (.invokevirtual 17, 3) := by decide +kernel
theorem dL_law_182 : decode cL_law 182 = .ok (.if_icmp .eq 750, 3) := by decide +kernel
theorem dL_law_185 : decode cL_law 185 = .ok (.iconst 0, 1) := by decide +kernel
theorem dL_law_186 : decode cL_law 186 = .ok (.ireturn, 1) := by decide +kernel
theorem dL_law_187 : decode cL_law 187 = .ok (.aload_n 1, 1) := by decide +kernel
theorem dL_law_188 : decode cL_law 188 = .ok (.invokevirtual 18, 3) := by decide +kernel
theorem dL_law_191 : decode cL_law 191 = .ok (.aload_n 2, 1) := by decide +kernel
theorem dL_law_192 : decode cL_law 192 = .ok (.invokevirtual 22, 3) := by decide +kernel
theorem dL_law_195 : decode cL_law 195 = .ok (.if_icmp .eq 737, 3) := by decide +kernel
theorem dL_law_198 : decode cL_law 198 = .ok (.iconst 0, 1) := by decide +kernel
theorem dL_law_199 : decode cL_law 199 = .ok (.ireturn, 1) := by decide +kernel
theorem dL_law_200 : decode cL_law 200 = .ok (.aload_n 1, 1) := by decide +kernel
theorem dL_law_201 : decode cL_law 201 = .ok (.invokevirtual 23, 3) := by decide +kernel
theorem dL_law_204 : decode cL_law 204 = .ok (.aload_n 2, 1) := by decide +kernel
theorem dL_law_205 : decode cL_law 205 = .ok (.invokevirtual 26, 3) := by decide +kernel
theorem dL_law_208 : decode cL_law 208 = .ok (.if_icmp .eq 724, 3) := by decide +kernel
theorem dL_law_211 : decode cL_law 211 = .ok (.iconst 0, 1) := by decide +kernel
theorem dL_law_212 : decode cL_law 212 = .ok (.ireturn, 1) := by decide +kernel
theorem dL_law_213 : decode cL_law 213 = .ok (.aload_n 1, 1) := by decide +kernel
theorem dL_law_214 : decode cL_law 214 = .ok (.aload_n 0, 1) := by decide +kernel
theorem dL_law_215 : decode cL_law 215 = .ok (.iload_n 3, 1) := by decide +kernel
theorem dL_law_216 : decode cL_law 216 = .ok (.iconst 1, 1) := by decide +kernel
theorem dL_law_217 : decode cL_law 217 = .ok (.iadd, 1) := by decide +kernel
theorem dL_law_218 : decode cL_law 218 = .ok (.iaload, 1) := by decide +kernel
theorem dL_law_219 : decode cL_law 219 = .ok (.aload_n 0, 1) := by decide +kernel
theorem dL_law_220 : decode cL_law 220 = .ok (.iload_n 3, 1) := by decide +kernel
theorem dL_law_221 : decode cL_law 221 = .ok (.iconst 2, 1) := by decide +kernel
theorem dL_law_222 : decode cL_law 222 = .ok (.iadd, 1) := by decide +kernel
theorem dL_law_223 : decode cL_law 223 = .ok (.iaload, 1) := by decide +kernel
theorem dL_law_224 : decode cL_law 224 = .ok (.invokevirtual 27, 3) := by decide +kernel
theorem dL_law_227 : decode cL_law 227 = .ok (.aload_n 2, 1) := by decide +kernel
theorem dL_law_228 : decode cL_law 228 = .ok (.aload_n 0, 1) := by decide +kernel
theorem dL_law_229 : decode cL_law 229 = .ok (.iload_n 3, 1) := by decide +kernel
theorem dL_law_230 : decode cL_law 230 = .ok (.iconst 1, 1) := by decide +kernel
theorem dL_law_231 : decode cL_law 231 = .ok (.iadd, 1) := by decide +kernel
theorem dL_law_232 : decode cL_law 232 = .ok (.iaload, 1) := by decide +kernel
theorem dL_law_233 : decode cL_law 233 = .ok (.aload_n 0, 1) := by decide +kernel
theorem dL_law_234 : decode cL_law 234 = .ok (.iload_n 3, 1) := by decide +kernel
theorem dL_law_235 : decode cL_law 235 = .ok (.iconst 2, 1) := by decide +kernel
theorem dL_law_236 : decode cL_law 236 = .ok (.iadd, 1) := by decide +kernel
theorem dL_law_237 : decode cL_law 237 = .ok (.iaload, 1) := by decide +kernel
theorem dL_law_238 : decode cL_law 238 = .ok (.invokevirtual 31, 3) := by decide +kernel
theorem dL_law_241 : decode cL_law 241 = .ok (.if_icmp .eq 691, 3) := by decide +kernel
theorem dL_law_244 : decode cL_law 244 = .ok (.iconst 0, 1) := by decide +kernel
theorem dL_law_245 : decode cL_law 245 = .ok (.ireturn, 1) := by decide +kernel
theorem dL_law_246 : decode cL_law 246 = .ok (.aload_n 1, 1) := by decide +kernel
theorem dL_law_247 : decode cL_law 247 = .ok (.aload_n 0, 1) := by decide +kernel
theorem dL_law_248 : decode cL_law 248 = .ok (.iload_n 3, 1) := by decide +kernel
theorem dL_law_249 : decode cL_law 249 = .ok (.iconst 1, 1) := by decide +kernel
theorem dL_law_250 : decode cL_law 250 = .ok (.iadd, 1) := by decide +kernel
theorem dL_law_251 : decode cL_law 251 = .ok (.iaload, 1) := by decide +kernel
theorem dL_law_252 : decode cL_law 252 = .ok (.aload_n 0, 1) := by decide +kernel
theorem dL_law_253 : decode cL_law 253 = .ok (.iload_n 3, 1) := by decide +kernel
theorem dL_law_254 : decode cL_law 254 = .ok (.iconst 2, 1) := by decide +kernel
theorem dL_law_255 : decode cL_law 255 = .ok (.iadd, 1) := by decide +kernel
theorem dL_law_256 : decode cL_law 256 = .ok (.iaload, 1) := by decide +kernel
theorem dL_law_257 : decode cL_law 257 = .ok (.invokevirtual 32, 3) := by decide +kernel
theorem dL_law_260 : decode cL_law 260 = .ok (.aload_n 2, 1) := by decide +kernel
theorem dL_law_261 : decode cL_law 261 = .ok (.aload_n 0, 1) := by decide +kernel
theorem dL_law_262 : decode cL_law 262 = .ok (.iload_n 3, 1) := by decide +kernel
theorem dL_law_263 : decode cL_law 263 = .ok (.iconst 1, 1) := by decide +kernel
theorem dL_law_264 : decode cL_law 264 = .ok (.iadd, 1) := by decide +kernel
theorem dL_law_265 : decode cL_law 265 = .ok (.iaload, 1) := by decide +kernel
theorem dL_law_266 : decode cL_law 266 = .ok (.aload_n 0, 1) := by decide +kernel
theorem dL_law_267 : decode cL_law 267 = .ok (.iload_n 3, 1) := by decide +kernel
theorem dL_law_268 : decode cL_law 268 = .ok (.iconst 2, 1) := by decide +kernel
theorem dL_law_269 : decode cL_law 269 = .ok (.iadd, 1) := by decide +kernel
theorem dL_law_270 : decode cL_law 270 = .ok (.iaload, 1) := by decide +kernel
theorem dL_law_271 : decode cL_law 271 = .ok (.invokevirtual 35, 3) := by decide +kernel
theorem dL_law_274 : decode cL_law 274 = .ok (.if_icmp .eq 658, 3) := by decide +kernel
theorem dL_law_277 : decode cL_law 277 = .ok (.iconst 0, 1) := by decide +kernel
theorem dL_law_278 : decode cL_law 278 = .ok (.ireturn, 1) := by decide +kernel
theorem dL_law_279 : decode cL_law 279 = .ok (.aload_n 1, 1) := by decide +kernel
theorem dL_law_280 : decode cL_law 280 = .ok (.aload_n 0, 1) := by decide +kernel
theorem dL_law_281 : decode cL_law 281 = .ok (.iload_n 3, 1) := by decide +kernel
theorem dL_law_282 : decode cL_law 282 = .ok (.iconst 1, 1) := by decide +kernel
theorem dL_law_283 : decode cL_law 283 = .ok (.iadd, 1) := by decide +kernel
theorem dL_law_284 : decode cL_law 284 = .ok (.iaload, 1) := by decide +kernel
theorem dL_law_285 : decode cL_law 285 = .ok (.invokevirtual 36, 3) := by decide +kernel
theorem dL_law_288 : decode cL_law 288 = .ok (.aload_n 2, 1) := by decide +kernel
theorem dL_law_289 : decode cL_law 289 = .ok (.aload_n 0, 1) := by decide +kernel
theorem dL_law_290 : decode cL_law 290 = .ok (.iload_n 3, 1) := by decide +kernel
theorem dL_law_291 : decode cL_law 291 = .ok (.iconst 1, 1) := by decide +kernel
theorem dL_law_292 : decode cL_law 292 = .ok (.iadd, 1) := by decide +kernel
theorem dL_law_293 : decode cL_law 293 = .ok (.iaload, 1) := by decide +kernel
theorem dL_law_294 : decode cL_law 294 = .ok (.invokevirtual 39, 3) := by decide +kernel
theorem dL_law_297 : decode cL_law 297 = .ok (.if_icmp .eq 635, 3) := by decide +kernel
theorem dL_law_300 : decode cL_law 300 = .ok (.iconst 0, 1) := by decide +kernel
theorem dL_law_301 : decode cL_law 301 = .ok (.ireturn, 1) := by decide +kernel
theorem dL_law_302 : decode cL_law 302 = .ok (.aload_n 1, 1) := by decide +kernel
theorem dL_law_303 : decode cL_law 303 = .ok (.aload_n 0, 1) := by decide +kernel
theorem dL_law_304 : decode cL_law 304 = .ok (.iload_n 3, 1) := by decide +kernel
theorem dL_law_305 : decode cL_law 305 = .ok (.iconst 1, 1) := by decide +kernel
theorem dL_law_306 : decode cL_law 306 = .ok (.iadd, 1) := by decide +kernel
theorem dL_law_307 : decode cL_law 307 = .ok (.iaload, 1) := by decide +kernel
theorem dL_law_308 : decode cL_law 308 = .ok (.invokevirtual 40, 3) := by decide +kernel
theorem dL_law_311 : decode cL_law 311 = .ok (.aload_n 2, 1) := by decide +kernel
theorem dL_law_312 : decode cL_law 312 = .ok (.aload_n 0, 1) := by decide +kernel
theorem dL_law_313 : decode cL_law 313 = .ok (.iload_n 3, 1) := by decide +kernel
theorem dL_law_314 : decode cL_law 314 = .ok (.iconst 1, 1) := by decide +kernel
theorem dL_law_315 : decode cL_law 315 = .ok (.iadd, 1) := by decide +kernel
theorem dL_law_316 : decode cL_law 316 = .ok (.iaload, 1) := by decide +kernel
theorem dL_law_317 : decode cL_law 317 = .ok (.invokevirtual 43, 3) := by decide +kernel
theorem dL_law_320 : decode cL_law 320 = .ok (.if_icmp .eq 612, 3) := by decide +kernel
theorem dL_law_323 : decode cL_law 323 = .ok (.iconst 0, 1) := by decide +kernel
theorem dL_law_324 : decode cL_law 324 = .ok (.ireturn, 1) := by decide +kernel
theorem dL_law_325 : decode cL_law 325 = .ok (.aload_n 1, 1) := by decide +kernel
theorem dL_law_326 : decode cL_law 326 = .ok (.aload_n 0, 1) := by decide +kernel
theorem dL_law_327 : decode cL_law 327 = .ok (.iload_n 3, 1) := by decide +kernel
theorem dL_law_328 : decode cL_law 328 = .ok (.iconst 1, 1) := by decide +kernel
theorem dL_law_329 : decode cL_law 329 = .ok (.iadd, 1) := by decide +kernel
theorem dL_law_330 : decode cL_law 330 = .ok (.iaload, 1) := by decide +kernel
theorem dL_law_331 : decode cL_law 331 = .ok (.aload_n 0, 1) := by decide +kernel
theorem dL_law_332 : decode cL_law 332 = .ok (.iload_n 3, 1) := by decide +kernel
theorem dL_law_333 : decode cL_law 333 = .ok (.iconst 2, 1) := by decide +kernel
theorem dL_law_334 : decode cL_law 334 = .ok (.iadd, 1) := by decide +kernel
theorem dL_law_335 : decode cL_law 335 = .ok (.iaload, 1) := by decide +kernel
theorem dL_law_336 : decode cL_law 336 = .ok (.invokevirtual 44, 3) := by decide +kernel
theorem dL_law_339 : decode cL_law 339 = .ok (.aload_n 2, 1) := by decide +kernel
theorem dL_law_340 : decode cL_law 340 = .ok (.aload_n 0, 1) := by decide +kernel
theorem dL_law_341 : decode cL_law 341 = .ok (.iload_n 3, 1) := by decide +kernel
theorem dL_law_342 : decode cL_law 342 = .ok (.iconst 1, 1) := by decide +kernel
theorem dL_law_343 : decode cL_law 343 = .ok (.iadd, 1) := by decide +kernel
theorem dL_law_344 : decode cL_law 344 = .ok (.iaload, 1) := by decide +kernel
theorem dL_law_345 : decode cL_law 345 = .ok (.aload_n 0, 1) := by decide +kernel
theorem dL_law_346 : decode cL_law 346 = .ok (.iload_n 3, 1) := by decide +kernel
theorem dL_law_347 : decode cL_law 347 = .ok (.iconst 2, 1) := by decide +kernel
theorem dL_law_348 : decode cL_law 348 = .ok (.iadd, 1) := by decide +kernel
theorem dL_law_349 : decode cL_law 349 = .ok (.iaload, 1) := by decide +kernel
theorem dL_law_350 : decode cL_law 350 = .ok (.invokevirtual 47, 3) := by decide +kernel
theorem dL_law_353 : decode cL_law 353 = .ok (.if_icmp .eq 579, 3) := by decide +kernel
theorem dL_law_356 : decode cL_law 356 = .ok (.iconst 0, 1) := by decide +kernel
theorem dL_law_357 : decode cL_law 357 = .ok (.ireturn, 1) := by decide +kernel
theorem dL_law_358 : decode cL_law 358 = .ok (.aload_n 1, 1) := by decide +kernel
theorem dL_law_359 : decode cL_law 359 = .ok (.aload_n 0, 1) := by decide +kernel
theorem dL_law_360 : decode cL_law 360 = .ok (.iload_n 3, 1) := by decide +kernel
theorem dL_law_361 : decode cL_law 361 = .ok (.iconst 1, 1) := by decide +kernel
theorem dL_law_362 : decode cL_law 362 = .ok (.iadd, 1) := by decide +kernel
theorem dL_law_363 : decode cL_law 363 = .ok (.iaload, 1) := by decide +kernel
theorem dL_law_364 : decode cL_law 364 = .ok (.aload_n 0, 1) := by decide +kernel
theorem dL_law_365 : decode cL_law 365 = .ok (.iload_n 3, 1) := by decide +kernel
theorem dL_law_366 : decode cL_law 366 = .ok (.iconst 2, 1) := by decide +kernel
theorem dL_law_367 : decode cL_law 367 = .ok (.iadd, 1) := by decide +kernel
theorem dL_law_368 : decode cL_law 368 = .ok (.iaload, 1) := by decide +kernel
theorem dL_law_369 : decode cL_law 369 = .ok (.invokevirtual 48, 3) := by decide +kernel
theorem dL_law_372 : decode cL_law 372 = .ok (.aload_n 2, 1) := by decide +kernel
theorem dL_law_373 : decode cL_law 373 = .ok (.aload_n 0, 1) := by decide +kernel
theorem dL_law_374 : decode cL_law 374 = .ok (.iload_n 3, 1) := by decide +kernel
theorem dL_law_375 : decode cL_law 375 = .ok (.iconst 1, 1) := by decide +kernel
theorem dL_law_376 : decode cL_law 376 = .ok (.iadd, 1) := by decide +kernel
theorem dL_law_377 : decode cL_law 377 = .ok (.iaload, 1) := by decide +kernel
theorem dL_law_378 : decode cL_law 378 = .ok (.aload_n 0, 1) := by decide +kernel
theorem dL_law_379 : decode cL_law 379 = .ok (.iload_n 3, 1) := by decide +kernel
theorem dL_law_380 : decode cL_law 380 = .ok (.iconst 2, 1) := by decide +kernel
theorem dL_law_381 : decode cL_law 381 = .ok (.iadd, 1) := by decide +kernel
theorem dL_law_382 : decode cL_law 382 = .ok (.iaload, 1) := by decide +kernel
theorem dL_law_383 : decode cL_law 383 = .ok (.invokevirtual 51, 3) := by decide +kernel
theorem dL_law_386 : decode cL_law 386 = .ok (.if_icmp .eq 546, 3) := by decide +kernel
theorem dL_law_389 : decode cL_law 389 = .ok (.iconst 0, 1) := by decide +kernel
theorem dL_law_390 : decode cL_law 390 = .ok (.ireturn, 1) := by decide +kernel
theorem dL_law_391 : decode cL_law 391 = .ok (.aload_n 1, 1) := by decide +kernel
theorem dL_law_392 : decode cL_law 392 = .ok (.invokevirtual 52, 3) := by decide +kernel
theorem dL_law_395 : decode cL_law 395 = .ok (.aload_n 2, 1) := by decide +kernel
theorem dL_law_396 : decode cL_law 396 = .ok (.invokevirtual 55, 3) := by decide +kernel
theorem dL_law_399 : decode cL_law 399 = .ok (.if_icmp .eq 533, 3) := by decide +kernel
theorem dL_law_402 : decode cL_law 402 = .ok (.iconst 0, 1) := by decide +kernel
theorem dL_law_403 : decode cL_law 403 = .ok (.ireturn, 1) := by decide +kernel
theorem dL_law_404 : decode cL_law 404 = .ok (.aload_n 1, 1) := by decide +kernel
theorem dL_law_405 : decode cL_law 405 = .ok (.aload_n 0, 1) := by decide +kernel
theorem dL_law_406 : decode cL_law 406 = .ok (.iload_n 3, 1) := by decide +kernel
theorem dL_law_407 : decode cL_law 407 = .ok (.iconst 1, 1) := by decide +kernel
theorem dL_law_408 : decode cL_law 408 = .ok (.iadd, 1) := by decide +kernel
theorem dL_law_409 : decode cL_law 409 = .ok (.iaload, 1) := by decide +kernel
theorem dL_law_410 : decode cL_law 410 = .ok (.invokevirtual 56, 3) := by decide +kernel
theorem dL_law_413 : decode cL_law 413 = .ok (.aload_n 2, 1) := by decide +kernel
theorem dL_law_414 : decode cL_law 414 = .ok (.aload_n 0, 1) := by decide +kernel
theorem dL_law_415 : decode cL_law 415 = .ok (.iload_n 3, 1) := by decide +kernel
theorem dL_law_416 : decode cL_law 416 = .ok (.iconst 1, 1) := by decide +kernel
theorem dL_law_417 : decode cL_law 417 = .ok (.iadd, 1) := by decide +kernel
theorem dL_law_418 : decode cL_law 418 = .ok (.iaload, 1) := by decide +kernel
theorem dL_law_419 : decode cL_law 419 = .ok (.invokevirtual 59, 3) := by decide +kernel
theorem dL_law_422 : decode cL_law 422 = .ok (.if_icmp .eq 510, 3) := by decide +kernel
theorem dL_law_425 : decode cL_law 425 = .ok (.iconst 0, 1) := by decide +kernel
theorem dL_law_426 : decode cL_law 426 = .ok (.ireturn, 1) := by decide +kernel
theorem dL_law_427 : decode cL_law 427 = .ok (.aload_n 1, 1) := by decide +kernel
theorem dL_law_428 : decode cL_law 428 = .ok (.aload_n 0, 1) := by decide +kernel
theorem dL_law_429 : decode cL_law 429 = .ok (.iload_n 3, 1) := by decide +kernel
theorem dL_law_430 : decode cL_law 430 = .ok (.iconst 1, 1) := by decide +kernel
theorem dL_law_431 : decode cL_law 431 = .ok (.iadd, 1) := by decide +kernel
theorem dL_law_432 : decode cL_law 432 = .ok (.iaload, 1) := by decide +kernel
theorem dL_law_433 : decode cL_law 433 = .ok (.invokevirtual 60, 3) := by decide +kernel
theorem dL_law_436 : decode cL_law 436 = .ok (.aload_n 2, 1) := by decide +kernel
theorem dL_law_437 : decode cL_law 437 = .ok (.aload_n 0, 1) := by decide +kernel
theorem dL_law_438 : decode cL_law 438 = .ok (.iload_n 3, 1) := by decide +kernel
theorem dL_law_439 : decode cL_law 439 = .ok (.iconst 1, 1) := by decide +kernel
theorem dL_law_440 : decode cL_law 440 = .ok (.iadd, 1) := by decide +kernel
theorem dL_law_441 : decode cL_law 441 = .ok (.iaload, 1) := by decide +kernel
theorem dL_law_442 : decode cL_law 442 = .ok (.invokevirtual 63, 3) := by decide +kernel
theorem dL_law_445 : decode cL_law 445 = .ok (.if_icmp .eq 487, 3) := by decide +kernel
theorem dL_law_448 : decode cL_law 448 = .ok (.iconst 0, 1) := by decide +kernel
theorem dL_law_449 : decode cL_law 449 = .ok (.ireturn, 1) := by decide +kernel
theorem dL_law_450 : decode cL_law 450 = .ok (.aload_n 1, 1) := by decide +kernel
theorem dL_law_451 : decode cL_law 451 = .ok (.aload_n 0, 1) := by decide +kernel
theorem dL_law_452 : decode cL_law 452 = .ok (.iload_n 3, 1) := by decide +kernel
theorem dL_law_453 : decode cL_law 453 = .ok (.iconst 1, 1) := by decide +kernel
theorem dL_law_454 : decode cL_law 454 = .ok (.iadd, 1) := by decide +kernel
theorem dL_law_455 : decode cL_law 455 = .ok (.iaload, 1) := by decide +kernel
theorem dL_law_456 : decode cL_law 456 = .ok (.invokevirtual 64, 3) := by decide +kernel
theorem dL_law_459 : decode cL_law 459 = .ok (.aload_n 2, 1) := by decide +kernel
theorem dL_law_460 : decode cL_law 460 = .ok (.aload_n 0, 1) := by decide +kernel
theorem dL_law_461 : decode cL_law 461 = .ok (.iload_n 3, 1) := by decide +kernel
theorem dL_law_462 : decode cL_law 462 = .ok (.iconst 1, 1) := by decide +kernel
theorem dL_law_463 : decode cL_law 463 = .ok (.iadd, 1) := by decide +kernel
theorem dL_law_464 : decode cL_law 464 = .ok (.iaload, 1) := by decide +kernel
theorem dL_law_465 : decode cL_law 465 = .ok (.invokevirtual 67, 3) := by decide +kernel
theorem dL_law_468 : decode cL_law 468 = .ok (.if_icmp .eq 464, 3) := by decide +kernel
theorem dL_law_471 : decode cL_law 471 = .ok (.iconst 0, 1) := by decide +kernel
theorem dL_law_472 : decode cL_law 472 = .ok (.ireturn, 1) := by decide +kernel
theorem dL_law_473 : decode cL_law 473 = .ok (.aload_n 1, 1) := by decide +kernel
theorem dL_law_474 : decode cL_law 474 = .ok (.aload_n 0, 1) := by decide +kernel
theorem dL_law_475 : decode cL_law 475 = .ok (.iload_n 3, 1) := by decide +kernel
theorem dL_law_476 : decode cL_law 476 = .ok (.iconst 1, 1) := by decide +kernel
theorem dL_law_477 : decode cL_law 477 = .ok (.iadd, 1) := by decide +kernel
theorem dL_law_478 : decode cL_law 478 = .ok (.iaload, 1) := by decide +kernel
theorem dL_law_479 : decode cL_law 479 = .ok (.aload_n 0, 1) := by decide +kernel
theorem dL_law_480 : decode cL_law 480 = .ok (.iload_n 3, 1) := by decide +kernel
theorem dL_law_481 : decode cL_law 481 = .ok (.iconst 2, 1) := by decide +kernel
theorem dL_law_482 : decode cL_law 482 = .ok (.iadd, 1) := by decide +kernel
theorem dL_law_483 : decode cL_law 483 = .ok (.iaload, 1) := by decide +kernel
theorem dL_law_484 : decode cL_law 484 = .ok (.invokevirtual 68, 3) := by decide +kernel
theorem dL_law_487 : decode cL_law 487 = .ok (.aload_n 2, 1) := by decide +kernel
theorem dL_law_488 : decode cL_law 488 = .ok (.aload_n 0, 1) := by decide +kernel
theorem dL_law_489 : decode cL_law 489 = .ok (.iload_n 3, 1) := by decide +kernel
theorem dL_law_490 : decode cL_law 490 = .ok (.iconst 1, 1) := by decide +kernel
theorem dL_law_491 : decode cL_law 491 = .ok (.iadd, 1) := by decide +kernel
theorem dL_law_492 : decode cL_law 492 = .ok (.iaload, 1) := by decide +kernel
theorem dL_law_493 : decode cL_law 493 = .ok (.aload_n 0, 1) := by decide +kernel
theorem dL_law_494 : decode cL_law 494 = .ok (.iload_n 3, 1) := by decide +kernel
theorem dL_law_495 : decode cL_law 495 = .ok (.iconst 2, 1) := by decide +kernel
theorem dL_law_496 : decode cL_law 496 = .ok (.iadd, 1) := by decide +kernel
theorem dL_law_497 : decode cL_law 497 = .ok (.iaload, 1) := by decide +kernel
theorem dL_law_498 : decode cL_law 498 = .ok (.invokevirtual 71, 3) := by decide +kernel
theorem dL_law_501 : decode cL_law 501 = .ok (.if_icmp .eq 431, 3) := by decide +kernel
theorem dL_law_504 : decode cL_law 504 = .ok (.iconst 0, 1) := by decide +kernel
theorem dL_law_505 : decode cL_law 505 = .ok (.ireturn, 1) := by decide +kernel
theorem dL_law_506 : decode cL_law 506 = .ok (.aload_n 1, 1) := by decide +kernel
theorem dL_law_507 : decode cL_law 507 = .ok (.aload_n 0, 1) := by decide +kernel
theorem dL_law_508 : decode cL_law 508 = .ok (.iload_n 3, 1) := by decide +kernel
theorem dL_law_509 : decode cL_law 509 = .ok (.iconst 1, 1) := by decide +kernel
theorem dL_law_510 : decode cL_law 510 = .ok (.iadd, 1) := by decide +kernel
theorem dL_law_511 : decode cL_law 511 = .ok (.iaload, 1) := by decide +kernel
theorem dL_law_512 : decode cL_law 512 = .ok (.aload_n 0, 1) := by decide +kernel
theorem dL_law_513 : decode cL_law 513 = .ok (.iload_n 3, 1) := by decide +kernel
theorem dL_law_514 : decode cL_law 514 = .ok (.iconst 2, 1) := by decide +kernel
theorem dL_law_515 : decode cL_law 515 = .ok (.iadd, 1) := by decide +kernel
theorem dL_law_516 : decode cL_law 516 = .ok (.iaload, 1) := by decide +kernel
theorem dL_law_517 : decode cL_law 517 = .ok (.invokevirtual 72, 3) := by decide +kernel
theorem dL_law_520 : decode cL_law 520 = .ok (.aload_n 2, 1) := by decide +kernel
theorem dL_law_521 : decode cL_law 521 = .ok (.aload_n 0, 1) := by decide +kernel
theorem dL_law_522 : decode cL_law 522 = .ok (.iload_n 3, 1) := by decide +kernel
theorem dL_law_523 : decode cL_law 523 = .ok (.iconst 1, 1) := by decide +kernel
theorem dL_law_524 : decode cL_law 524 = .ok (.iadd, 1) := by decide +kernel
theorem dL_law_525 : decode cL_law 525 = .ok (.iaload, 1) := by decide +kernel
theorem dL_law_526 : decode cL_law 526 = .ok (.aload_n 0, 1) := by decide +kernel
theorem dL_law_527 : decode cL_law 527 = .ok (.iload_n 3, 1) := by decide +kernel
theorem dL_law_528 : decode cL_law 528 = .ok (.iconst 2, 1) := by decide +kernel
theorem dL_law_529 : decode cL_law 529 = .ok (.iadd, 1) := by decide +kernel
theorem dL_law_530 : decode cL_law 530 = .ok (.iaload, 1) := by decide +kernel
theorem dL_law_531 : decode cL_law 531 = .ok (.invokevirtual 75, 3) := by decide +kernel
theorem dL_law_534 : decode cL_law 534 = .ok (.if_icmp .eq 398, 3) := by decide +kernel
theorem dL_law_537 : decode cL_law 537 = .ok (.iconst 0, 1) := by decide +kernel
theorem dL_law_538 : decode cL_law 538 = .ok (.ireturn, 1) := by decide +kernel
theorem dL_law_539 : decode cL_law 539 = .ok (.aload_n 1, 1) := by decide +kernel
theorem dL_law_540 : decode cL_law 540 = .ok (.aload_n 0, 1) := by decide +kernel
theorem dL_law_541 : decode cL_law 541 = .ok (.iload_n 3, 1) := by decide +kernel
theorem dL_law_542 : decode cL_law 542 = .ok (.iconst 1, 1) := by decide +kernel
theorem dL_law_543 : decode cL_law 543 = .ok (.iadd, 1) := by decide +kernel
theorem dL_law_544 : decode cL_law 544 = .ok (.iaload, 1) := by decide +kernel
theorem dL_law_545 : decode cL_law 545 = .ok (.aload_n 0, 1) := by decide +kernel
theorem dL_law_546 : decode cL_law 546 = .ok (.iload_n 3, 1) := by decide +kernel
theorem dL_law_547 : decode cL_law 547 = .ok (.iconst 2, 1) := by decide +kernel
theorem dL_law_548 : decode cL_law 548 = .ok (.iadd, 1) := by decide +kernel
theorem dL_law_549 : decode cL_law 549 = .ok (.iaload, 1) := by decide +kernel
theorem dL_law_550 : decode cL_law 550 = .ok (.aload_n 0, 1) := by decide +kernel
theorem dL_law_551 : decode cL_law 551 = .ok (.iload_n 3, 1) := by decide +kernel
theorem dL_law_552 : decode cL_law 552 = .ok (.iconst 3, 1) := by decide +kernel
theorem dL_law_553 : decode cL_law 553 = .ok (.iadd, 1) := by decide +kernel
theorem dL_law_554 : decode cL_law 554 = .ok (.iaload, 1) := by decide +kernel
theorem dL_law_555 : decode cL_law 555 = .ok (.invokevirtual 76, 3) := by decide +kernel
theorem dL_law_558 : decode cL_law 558 = .ok (.aload_n 2, 1) := by decide +kernel
theorem dL_law_559 : decode cL_law 559 = .ok (.aload_n 0, 1) := by decide +kernel
theorem dL_law_560 : decode cL_law 560 = .ok (.iload_n 3, 1) := by decide +kernel
theorem dL_law_561 : decode cL_law 561 = .ok (.iconst 1, 1) := by decide +kernel
theorem dL_law_562 : decode cL_law 562 = .ok (.iadd, 1) := by decide +kernel
theorem dL_law_563 : decode cL_law 563 = .ok (.iaload, 1) := by decide +kernel
theorem dL_law_564 : decode cL_law 564 = .ok (.aload_n 0, 1) := by decide +kernel
theorem dL_law_565 : decode cL_law 565 = .ok (.iload_n 3, 1) := by decide +kernel
theorem dL_law_566 : decode cL_law 566 = .ok (.iconst 2, 1) := by decide +kernel
theorem dL_law_567 : decode cL_law 567 = .ok (.iadd, 1) := by decide +kernel
theorem dL_law_568 : decode cL_law 568 = .ok (.iaload, 1) := by decide +kernel
theorem dL_law_569 : decode cL_law 569 = .ok (.aload_n 0, 1) := by decide +kernel
theorem dL_law_570 : decode cL_law 570 = .ok (.iload_n 3, 1) := by decide +kernel
theorem dL_law_571 : decode cL_law 571 = .ok (.iconst 3, 1) := by decide +kernel
theorem dL_law_572 : decode cL_law 572 = .ok (.iadd, 1) := by decide +kernel
theorem dL_law_573 : decode cL_law 573 = .ok (.iaload, 1) := by decide +kernel
theorem dL_law_574 : decode cL_law 574 = .ok (.invokevirtual 80, 3) := by decide +kernel
theorem dL_law_577 : decode cL_law 577 = .ok (.if_icmp .eq 355, 3) := by decide +kernel
theorem dL_law_580 : decode cL_law 580 = .ok (.iconst 0, 1) := by decide +kernel
theorem dL_law_581 : decode cL_law 581 = .ok (.ireturn, 1) := by decide +kernel
theorem dL_law_582 : decode cL_law 582 = .ok (.aload_n 1, 1) := by decide +kernel
theorem dL_law_583 : decode cL_law 583 = .ok (.aload_n 0, 1) := by decide +kernel
theorem dL_law_584 : decode cL_law 584 = .ok (.iload_n 3, 1) := by decide +kernel
theorem dL_law_585 : decode cL_law 585 = .ok (.iconst 1, 1) := by decide +kernel
theorem dL_law_586 : decode cL_law 586 = .ok (.iadd, 1) := by decide +kernel
theorem dL_law_587 : decode cL_law 587 = .ok (.iaload, 1) := by decide +kernel
theorem dL_law_588 : decode cL_law 588 = .ok (.aload_n 0, 1) := by decide +kernel
theorem dL_law_589 : decode cL_law 589 = .ok (.iload_n 3, 1) := by decide +kernel
theorem dL_law_590 : decode cL_law 590 = .ok (.iconst 2, 1) := by decide +kernel
theorem dL_law_591 : decode cL_law 591 = .ok (.iadd, 1) := by decide +kernel
theorem dL_law_592 : decode cL_law 592 = .ok (.iaload, 1) := by decide +kernel
theorem dL_law_593 : decode cL_law 593 = .ok (.invokevirtual 81, 3) := by decide +kernel
theorem dL_law_596 : decode cL_law 596 = .ok (.aload_n 2, 1) := by decide +kernel
theorem dL_law_597 : decode cL_law 597 = .ok (.aload_n 0, 1) := by decide +kernel
theorem dL_law_598 : decode cL_law 598 = .ok (.iload_n 3, 1) := by decide +kernel
theorem dL_law_599 : decode cL_law 599 = .ok (.iconst 1, 1) := by decide +kernel
theorem dL_law_600 : decode cL_law 600 = .ok (.iadd, 1) := by decide +kernel
theorem dL_law_601 : decode cL_law 601 = .ok (.iaload, 1) := by decide +kernel
theorem dL_law_602 : decode cL_law 602 = .ok (.aload_n 0, 1) := by decide +kernel
theorem dL_law_603 : decode cL_law 603 = .ok (.iload_n 3, 1) := by decide +kernel
theorem dL_law_604 : decode cL_law 604 = .ok (.iconst 2, 1) := by decide +kernel
theorem dL_law_605 : decode cL_law 605 = .ok (.iadd, 1) := by decide +kernel
theorem dL_law_606 : decode cL_law 606 = .ok (.iaload, 1) := by decide +kernel
theorem dL_law_607 : decode cL_law 607 = .ok (.invokevirtual 84, 3) := by decide +kernel
theorem dL_law_610 : decode cL_law 610 = .ok (.if_icmp .eq 322, 3) := by decide +kernel
theorem dL_law_613 : decode cL_law 613 = .ok (.iconst 0, 1) := by decide +kernel
theorem dL_law_614 : decode cL_law 614 = .ok (.ireturn, 1) := by decide +kernel
theorem dL_law_615 : decode cL_law 615 = .ok (.aload_n 1, 1) := by decide +kernel
theorem dL_law_616 : decode cL_law 616 = .ok (.aload_n 0, 1) := by decide +kernel
theorem dL_law_617 : decode cL_law 617 = .ok (.iload_n 3, 1) := by decide +kernel
theorem dL_law_618 : decode cL_law 618 = .ok (.iconst 1, 1) := by decide +kernel
theorem dL_law_619 : decode cL_law 619 = .ok (.iadd, 1) := by decide +kernel
theorem dL_law_620 : decode cL_law 620 = .ok (.iaload, 1) := by decide +kernel
theorem dL_law_621 : decode cL_law 621 = .ok (.invokevirtual 85, 3) := by decide +kernel
theorem dL_law_624 : decode cL_law 624 = .ok (.aload_n 2, 1) := by decide +kernel
theorem dL_law_625 : decode cL_law 625 = .ok (.aload_n 0, 1) := by decide +kernel
theorem dL_law_626 : decode cL_law 626 = .ok (.iload_n 3, 1) := by decide +kernel
theorem dL_law_627 : decode cL_law 627 = .ok (.iconst 1, 1) := by decide +kernel
theorem dL_law_628 : decode cL_law 628 = .ok (.iadd, 1) := by decide +kernel
theorem dL_law_629 : decode cL_law 629 = .ok (.iaload, 1) := by decide +kernel
theorem dL_law_630 : decode cL_law 630 = .ok (.invokevirtual 88, 3) := by decide +kernel
theorem dL_law_633 : decode cL_law 633 = .ok (.if_icmp .eq 299, 3) := by decide +kernel
theorem dL_law_636 : decode cL_law 636 = .ok (.iconst 0, 1) := by decide +kernel
theorem dL_law_637 : decode cL_law 637 = .ok (.ireturn, 1) := by decide +kernel
theorem dL_law_638 : decode cL_law 638 = .ok (.aload_n 1, 1) := by decide +kernel
theorem dL_law_639 : decode cL_law 639 = .ok (.aload_n 0, 1) := by decide +kernel
theorem dL_law_640 : decode cL_law 640 = .ok (.iload_n 3, 1) := by decide +kernel
theorem dL_law_641 : decode cL_law 641 = .ok (.iconst 1, 1) := by decide +kernel
theorem dL_law_642 : decode cL_law 642 = .ok (.iadd, 1) := by decide +kernel
theorem dL_law_643 : decode cL_law 643 = .ok (.iaload, 1) := by decide +kernel
theorem dL_law_644 : decode cL_law 644 = .ok (.aload_n 0, 1) := by decide +kernel
theorem dL_law_645 : decode cL_law 645 = .ok (.iload_n 3, 1) := by decide +kernel
theorem dL_law_646 : decode cL_law 646 = .ok (.iconst 2, 1) := by decide +kernel
theorem dL_law_647 : decode cL_law 647 = .ok (.iadd, 1) := by decide +kernel
theorem dL_law_648 : decode cL_law 648 = .ok (.iaload, 1) := by decide +kernel
theorem dL_law_649 : decode cL_law 649 = .ok (.aload_n 0, 1) := by decide +kernel
theorem dL_law_650 : decode cL_law 650 = .ok (.iload_n 3, 1) := by decide +kernel
theorem dL_law_651 : decode cL_law 651 = .ok (.iconst 3, 1) := by decide +kernel
theorem dL_law_652 : decode cL_law 652 = .ok (.iadd, 1) := by decide +kernel
theorem dL_law_653 : decode cL_law 653 = .ok (.iaload, 1) := by decide +kernel
theorem dL_law_654 : decode cL_law 654 = .ok (.aload_n 0, 1) := by decide +kernel
theorem dL_law_655 : decode cL_law 655 = .ok (.iload_n 3, 1) := by decide +kernel
theorem dL_law_656 : decode cL_law 656 = .ok (.iconst 4, 1) := by decide +kernel
theorem dL_law_657 : decode cL_law 657 = .ok (.iadd, 1) := by decide +kernel
theorem dL_law_658 : decode cL_law 658 = .ok (.iaload, 1) := by decide +kernel
theorem dL_law_659 : decode cL_law 659 = .ok (.aload_n 0, 1) := by decide +kernel
theorem dL_law_660 : decode cL_law 660 = .ok (.iload_n 3, 1) := by decide +kernel
theorem dL_law_661 : decode cL_law 661 = .ok (.iconst 5, 1) := by decide +kernel
theorem dL_law_662 : decode cL_law 662 = .ok (.iadd, 1) := by decide +kernel
theorem dL_law_663 : decode cL_law 663 = .ok (.iaload, 1) := by decide +kernel
theorem dL_law_664 : decode cL_law 664 = .ok (.invokevirtual 89, 3) := by decide +kernel
theorem dL_law_667 : decode cL_law 667 = .ok (.aload_n 2, 1) := by decide +kernel
theorem dL_law_668 : decode cL_law 668 = .ok (.aload_n 0, 1) := by decide +kernel
theorem dL_law_669 : decode cL_law 669 = .ok (.iload_n 3, 1) := by decide +kernel
theorem dL_law_670 : decode cL_law 670 = .ok (.iconst 1, 1) := by decide +kernel
theorem dL_law_671 : decode cL_law 671 = .ok (.iadd, 1) := by decide +kernel
theorem dL_law_672 : decode cL_law 672 = .ok (.iaload, 1) := by decide +kernel
theorem dL_law_673 : decode cL_law 673 = .ok (.aload_n 0, 1) := by decide +kernel
theorem dL_law_674 : decode cL_law 674 = .ok (.iload_n 3, 1) := by decide +kernel
theorem dL_law_675 : decode cL_law 675 = .ok (.iconst 2, 1) := by decide +kernel
theorem dL_law_676 : decode cL_law 676 = .ok (.iadd, 1) := by decide +kernel
theorem dL_law_677 : decode cL_law 677 = .ok (.iaload, 1) := by decide +kernel
theorem dL_law_678 : decode cL_law 678 = .ok (.aload_n 0, 1) := by decide +kernel
theorem dL_law_679 : decode cL_law 679 = .ok (.iload_n 3, 1) := by decide +kernel
theorem dL_law_680 : decode cL_law 680 = .ok (.iconst 3, 1) := by decide +kernel
theorem dL_law_681 : decode cL_law 681 = .ok (.iadd, 1) := by decide +kernel
theorem dL_law_682 : decode cL_law 682 = .ok (.iaload, 1) := by decide +kernel
theorem dL_law_683 : decode cL_law 683 = .ok (.aload_n 0, 1) := by decide +kernel
theorem dL_law_684 : decode cL_law 684 = .ok (.iload_n 3, 1) := by decide +kernel
theorem dL_law_685 : decode cL_law 685 = .ok (.iconst 4, 1) := by decide +kernel
theorem dL_law_686 : decode cL_law 686 = .ok (.iadd, 1) := by decide +kernel
theorem dL_law_687 : decode cL_law 687 = .ok (.iaload, 1) := by decide +kernel
theorem dL_law_688 : decode cL_law 688 = .ok (.aload_n 0, 1) := by decide +kernel
theorem dL_law_689 : decode cL_law 689 = .ok (.iload_n 3, 1) := by decide +kernel
theorem dL_law_690 : decode cL_law 690 = .ok (.iconst 5, 1) := by decide +kernel
theorem dL_law_691 : decode cL_law 691 = .ok (.iadd, 1) := by decide +kernel
theorem dL_law_692 : decode cL_law 692 = .ok (.iaload, 1) := by decide +kernel
theorem dL_law_693 : decode cL_law 693 = .ok (.invokevirtual 93, 3) := by decide +kernel
theorem dL_law_696 : decode cL_law 696 = .ok (.if_icmp .eq 236, 3) := by decide +kernel
theorem dL_law_699 : decode cL_law 699 = .ok (.iconst 0, 1) := by decide +kernel
theorem dL_law_700 : decode cL_law 700 = .ok (.ireturn, 1) := by decide +kernel
theorem dL_law_701 : decode cL_law 701 = .ok (.aload_n 1, 1) := by decide +kernel
theorem dL_law_702 : decode cL_law 702 = .ok (.aload_n 0, 1) := by decide +kernel
theorem dL_law_703 : decode cL_law 703 = .ok (.iload_n 3, 1) := by decide +kernel
theorem dL_law_704 : decode cL_law 704 = .ok (.iconst 1, 1) := by decide +kernel
theorem dL_law_705 : decode cL_law 705 = .ok (.iadd, 1) := by decide +kernel
theorem dL_law_706 : decode cL_law 706 = .ok (.iaload, 1) := by decide +kernel
theorem dL_law_707 : decode cL_law 707 = .ok (.aload_n 0, 1) := by decide +kernel
theorem dL_law_708 : decode cL_law 708 = .ok (.iload_n 3, 1) := by decide +kernel
theorem dL_law_709 : decode cL_law 709 = .ok (.iconst 2, 1) := by decide +kernel
theorem dL_law_710 : decode cL_law 710 = .ok (.iadd, 1) := by decide +kernel
theorem dL_law_711 : decode cL_law 711 = .ok (.iaload, 1) := by decide +kernel
theorem dL_law_712 : decode cL_law 712 = .ok (.invokevirtual 94, 3) := by decide +kernel
theorem dL_law_715 : decode cL_law 715 = .ok (.aload_n 2, 1) := by decide +kernel
theorem dL_law_716 : decode cL_law 716 = .ok (.aload_n 0, 1) := by decide +kernel
theorem dL_law_717 : decode cL_law 717 = .ok (.iload_n 3, 1) := by decide +kernel
theorem dL_law_718 : decode cL_law 718 = .ok (.iconst 1, 1) := by decide +kernel
theorem dL_law_719 : decode cL_law 719 = .ok (.iadd, 1) := by decide +kernel
theorem dL_law_720 : decode cL_law 720 = .ok (.iaload, 1) := by decide +kernel
theorem dL_law_721 : decode cL_law 721 = .ok (.aload_n 0, 1) := by decide +kernel
theorem dL_law_722 : decode cL_law 722 = .ok (.iload_n 3, 1) := by decide +kernel
theorem dL_law_723 : decode cL_law 723 = .ok (.iconst 2, 1) := by decide +kernel
theorem dL_law_724 : decode cL_law 724 = .ok (.iadd, 1) := by decide +kernel
theorem dL_law_725 : decode cL_law 725 = .ok (.iaload, 1) := by decide +kernel
theorem dL_law_726 : decode cL_law 726 = .ok (.invokevirtual 97, 3) := by decide +kernel
theorem dL_law_729 : decode cL_law 729 = .ok (.if_icmp .eq 203, 3) := by decide +kernel
theorem dL_law_732 : decode cL_law 732 = .ok (.iconst 0, 1) := by decide +kernel
theorem dL_law_733 : decode cL_law 733 = .ok (.ireturn, 1) := by decide +kernel
theorem dL_law_734 : decode cL_law 734 = .ok (.aload_n 1, 1) := by decide +kernel
theorem dL_law_735 : decode cL_law 735 = .ok (.invokevirtual 98, 3) := by decide +kernel
theorem dL_law_738 : decode cL_law 738 = .ok (.aload_n 2, 1) := by decide +kernel
theorem dL_law_739 : decode cL_law 739 = .ok (.invokevirtual 101, 3) := by decide +kernel
theorem dL_law_742 : decode cL_law 742 = .ok (.if_icmp .eq 190, 3) := by decide +kernel
theorem dL_law_745 : decode cL_law 745 = .ok (.iconst 0, 1) := by decide +kernel
theorem dL_law_746 : decode cL_law 746 = .ok (.ireturn, 1) := by decide +kernel
theorem dL_law_747 : decode cL_law 747 = .ok (.aload_n 1, 1) := by decide +kernel
theorem dL_law_748 : decode cL_law 748 = .ok (.aload_n 0, 1) := by decide +kernel
theorem dL_law_749 : decode cL_law 749 = .ok (.iload_n 3, 1) := by decide +kernel
theorem dL_law_750 : decode cL_law 750 = .ok (.iconst 1, 1) := by decide +kernel
theorem dL_law_751 : decode cL_law 751 = .ok (.iadd, 1) := by decide +kernel
theorem dL_law_752 : decode cL_law 752 = .ok (.iaload, 1) := by decide +kernel
theorem dL_law_753 : decode cL_law 753 = .ok (.aload_n 0, 1) := by decide +kernel
theorem dL_law_754 : decode cL_law 754 = .ok (.iload_n 3, 1) := by decide +kernel
theorem dL_law_755 : decode cL_law 755 = .ok (.iconst 2, 1) := by decide +kernel
theorem dL_law_756 : decode cL_law 756 = .ok (.iadd, 1) := by decide +kernel
theorem dL_law_757 : decode cL_law 757 = .ok (.iaload, 1) := by decide +kernel
theorem dL_law_758 : decode cL_law 758 = .ok (.invokevirtual 102, 3) := by decide +kernel
theorem dL_law_761 : decode cL_law 761 = .ok (.aload_n 2, 1) := by decide +kernel
theorem dL_law_762 : decode cL_law 762 = .ok (.aload_n 0, 1) := by decide +kernel
theorem dL_law_763 : decode cL_law 763 = .ok (.iload_n 3, 1) := by decide +kernel
theorem dL_law_764 : decode cL_law 764 = .ok (.iconst 1, 1) := by decide +kernel
theorem dL_law_765 : decode cL_law 765 = .ok (.iadd, 1) := by decide +kernel
theorem dL_law_766 : decode cL_law 766 = .ok (.iaload, 1) := by decide +kernel
theorem dL_law_767 : decode cL_law 767 = .ok (.aload_n 0, 1) := by decide +kernel
theorem dL_law_768 : decode cL_law 768 = .ok (.iload_n 3, 1) := by decide +kernel
theorem dL_law_769 : decode cL_law 769 = .ok (.iconst 2, 1) := by decide +kernel
theorem dL_law_770 : decode cL_law 770 = .ok (.iadd, 1) := by decide +kernel
theorem dL_law_771 : decode cL_law 771 = .ok (.iaload, 1) := by decide +kernel
theorem dL_law_772 : decode cL_law 772 = .ok (.invokevirtual 105, 3) := by decide +kernel
theorem dL_law_775 : decode cL_law 775 = .ok (.if_icmp .eq 157, 3) := by decide +kernel
theorem dL_law_778 : decode cL_law 778 = .ok (.iconst 0, 1) := by decide +kernel
theorem dL_law_779 : decode cL_law 779 = .ok (.ireturn, 1) := by decide +kernel
theorem dL_law_780 : decode cL_law 780 = .ok (.aload_n 1, 1) := by decide +kernel
theorem dL_law_781 : decode cL_law 781 = .ok (.aload_n 0, 1) := by decide +kernel
theorem dL_law_782 : decode cL_law 782 = .ok (.iload_n 3, 1) := by decide +kernel
theorem dL_law_783 : decode cL_law 783 = .ok (.iconst 1, 1) := by decide +kernel
theorem dL_law_784 : decode cL_law 784 = .ok (.iadd, 1) := by decide +kernel
theorem dL_law_785 : decode cL_law 785 = .ok (.iaload, 1) := by decide +kernel
theorem dL_law_786 : decode cL_law 786 = .ok (.invokevirtual 106, 3) := by decide +kernel
theorem dL_law_789 : decode cL_law 789 = .ok (.aload_n 2, 1) := by decide +kernel
theorem dL_law_790 : decode cL_law 790 = .ok (.aload_n 0, 1) := by decide +kernel
theorem dL_law_791 : decode cL_law 791 = .ok (.iload_n 3, 1) := by decide +kernel
theorem dL_law_792 : decode cL_law 792 = .ok (.iconst 1, 1) := by decide +kernel
theorem dL_law_793 : decode cL_law 793 = .ok (.iadd, 1) := by decide +kernel
theorem dL_law_794 : decode cL_law 794 = .ok (.iaload, 1) := by decide +kernel
theorem dL_law_795 : decode cL_law 795 = .ok (.invokevirtual 109, 3) := by decide +kernel
theorem dL_law_798 : decode cL_law 798 = .ok (.if_icmp .eq 134, 3) := by decide +kernel
theorem dL_law_801 : decode cL_law 801 = .ok (.iconst 0, 1) := by decide +kernel
theorem dL_law_802 : decode cL_law 802 = .ok (.ireturn, 1) := by decide +kernel
theorem dL_law_803 : decode cL_law 803 = .ok (.aload_n 1, 1) := by decide +kernel
theorem dL_law_804 : decode cL_law 804 = .ok (.invokevirtual 110, 3) := by decide +kernel
theorem dL_law_807 : decode cL_law 807 = .ok (.aload_n 2, 1) := by decide +kernel
theorem dL_law_808 : decode cL_law 808 = .ok (.invokevirtual 113, 3) := by decide +kernel
theorem dL_law_811 : decode cL_law 811 = .ok (.if_icmp .eq 121, 3) := by decide +kernel
theorem dL_law_814 : decode cL_law 814 = .ok (.iconst 0, 1) := by decide +kernel
theorem dL_law_815 : decode cL_law 815 = .ok (.ireturn, 1) := by decide +kernel
theorem dL_law_816 : decode cL_law 816 = .ok (.aload_n 1, 1) := by decide +kernel
theorem dL_law_817 : decode cL_law 817 = .ok (.aload_n 0, 1) := by decide +kernel
theorem dL_law_818 : decode cL_law 818 = .ok (.iload_n 3, 1) := by decide +kernel
theorem dL_law_819 : decode cL_law 819 = .ok (.iconst 1, 1) := by decide +kernel
theorem dL_law_820 : decode cL_law 820 = .ok (.iadd, 1) := by decide +kernel
theorem dL_law_821 : decode cL_law 821 = .ok (.iaload, 1) := by decide +kernel
theorem dL_law_822 : decode cL_law 822 = .ok (.aload_n 0, 1) := by decide +kernel
theorem dL_law_823 : decode cL_law 823 = .ok (.iload_n 3, 1) := by decide +kernel
theorem dL_law_824 : decode cL_law 824 = .ok (.iconst 2, 1) := by decide +kernel
theorem dL_law_825 : decode cL_law 825 = .ok (.iadd, 1) := by decide +kernel
theorem dL_law_826 : decode cL_law 826 = .ok (.iaload, 1) := by decide +kernel
theorem dL_law_827 : decode cL_law 827 = .ok (.invokevirtual 114, 3) := by decide +kernel
theorem dL_law_830 : decode cL_law 830 = .ok (.aload_n 2, 1) := by decide +kernel
theorem dL_law_831 : decode cL_law 831 = .ok (.aload_n 0, 1) := by decide +kernel
theorem dL_law_832 : decode cL_law 832 = .ok (.iload_n 3, 1) := by decide +kernel
theorem dL_law_833 : decode cL_law 833 = .ok (.iconst 1, 1) := by decide +kernel
theorem dL_law_834 : decode cL_law 834 = .ok (.iadd, 1) := by decide +kernel
theorem dL_law_835 : decode cL_law 835 = .ok (.iaload, 1) := by decide +kernel
theorem dL_law_836 : decode cL_law 836 = .ok (.aload_n 0, 1) := by decide +kernel
theorem dL_law_837 : decode cL_law 837 = .ok (.iload_n 3, 1) := by decide +kernel
theorem dL_law_838 : decode cL_law 838 = .ok (.iconst 2, 1) := by decide +kernel
theorem dL_law_839 : decode cL_law 839 = .ok (.iadd, 1) := by decide +kernel
theorem dL_law_840 : decode cL_law 840 = .ok (.iaload, 1) := by decide +kernel
theorem dL_law_841 : decode cL_law 841 = .ok (.invokevirtual 117, 3) := by decide +kernel
theorem dL_law_844 : decode cL_law 844 = .ok (.if_icmp .eq 88, 3) := by decide +kernel
theorem dL_law_847 : decode cL_law 847 = .ok (.iconst 0, 1) := by decide +kernel
theorem dL_law_848 : decode cL_law 848 = .ok (.ireturn, 1) := by decide +kernel
theorem dL_law_849 : decode cL_law 849 = .ok (.aload_n 1, 1) := by decide +kernel
theorem dL_law_850 : decode cL_law 850 = .ok (.aload_n 0, 1) := by decide +kernel
theorem dL_law_851 : decode cL_law 851 = .ok (.iload_n 3, 1) := by decide +kernel
theorem dL_law_852 : decode cL_law 852 = .ok (.iconst 1, 1) := by decide +kernel
theorem dL_law_853 : decode cL_law 853 = .ok (.iadd, 1) := by decide +kernel
theorem dL_law_854 : decode cL_law 854 = .ok (.iaload, 1) := by decide +kernel
theorem dL_law_855 : decode cL_law 855 = .ok (.invokevirtual 118, 3) := by decide +kernel
theorem dL_law_858 : decode cL_law 858 = .ok (.aload_n 2, 1) := by decide +kernel
theorem dL_law_859 : decode cL_law 859 = .ok (.aload_n 0, 1) := by decide +kernel
theorem dL_law_860 : decode cL_law 860 = .ok (.iload_n 3, 1) := by decide +kernel
theorem dL_law_861 : decode cL_law 861 = .ok (.iconst 1, 1) := by decide +kernel
theorem dL_law_862 : decode cL_law 862 = .ok (.iadd, 1) := by decide +kernel
theorem dL_law_863 : decode cL_law 863 = .ok (.iaload, 1) := by decide +kernel
theorem dL_law_864 : decode cL_law 864 = .ok (.invokevirtual 121, 3) := by decide +kernel
theorem dL_law_867 : decode cL_law 867 = .ok (.if_icmp .eq 65, 3) := by decide +kernel
theorem dL_law_870 : decode cL_law 870 = .ok (.iconst 0, 1) := by decide +kernel
theorem dL_law_871 : decode cL_law 871 = .ok (.ireturn, 1) := by decide +kernel
theorem dL_law_872 : decode cL_law 872 = .ok (.aload_n 1, 1) := by decide +kernel
theorem dL_law_873 : decode cL_law 873 = .ok (.aload_n 0, 1) := by decide +kernel
theorem dL_law_874 : decode cL_law 874 = .ok (.iload_n 3, 1) := by decide +kernel
theorem dL_law_875 : decode cL_law 875 = .ok (.iconst 1, 1) := by decide +kernel
theorem dL_law_876 : decode cL_law 876 = .ok (.iadd, 1) := by decide +kernel
theorem dL_law_877 : decode cL_law 877 = .ok (.iaload, 1) := by decide +kernel
theorem dL_law_878 : decode cL_law 878 = .ok (.invokevirtual 122, 3) := by decide +kernel
theorem dL_law_881 : decode cL_law 881 = .ok (.aload_n 2, 1) := by decide +kernel
theorem dL_law_882 : decode cL_law 882 = .ok (.aload_n 0, 1) := by decide +kernel
theorem dL_law_883 : decode cL_law 883 = .ok (.iload_n 3, 1) := by decide +kernel
theorem dL_law_884 : decode cL_law 884 = .ok (.iconst 1, 1) := by decide +kernel
theorem dL_law_885 : decode cL_law 885 = .ok (.iadd, 1) := by decide +kernel
theorem dL_law_886 : decode cL_law 886 = .ok (.iaload, 1) := by decide +kernel
theorem dL_law_887 : decode cL_law 887 = .ok (.invokevirtual 125, 3) := by decide +kernel
theorem dL_law_890 : decode cL_law 890 = .ok (.if_icmp .eq 42, 3) := by decide +kernel
theorem dL_law_893 : decode cL_law 893 = .ok (.iconst 0, 1) := by decide +kernel
theorem dL_law_894 : decode cL_law 894 = .ok (.ireturn, 1) := by decide +kernel
theorem dL_law_895 : decode cL_law 895 = .ok (.aload_n 1, 1) := by decide +kernel
theorem dL_law_896 : decode cL_law 896 = .ok (.aload_n 0, 1) := by decide +kernel
theorem dL_law_897 : decode cL_law 897 = .ok (.iload_n 3, 1) := by decide +kernel
theorem dL_law_898 : decode cL_law 898 = .ok (.iconst 1, 1) := by decide +kernel
theorem dL_law_899 : decode cL_law 899 = .ok (.iadd, 1) := by decide +kernel
theorem dL_law_900 : decode cL_law 900 = .ok (.iaload, 1) := by decide +kernel
theorem dL_law_901 : decode cL_law 901 = .ok (.invokevirtual 126, 3) := by decide +kernel
theorem dL_law_904 : decode cL_law 904 = .ok (.aload_n 2, 1) := by decide +kernel
theorem dL_law_905 : decode cL_law 905 = .ok (.aload_n 0, 1) := by decide +kernel
theorem dL_law_906 : decode cL_law 906 = .ok (.iload_n 3, 1) := by decide +kernel
theorem dL_law_907 : decode cL_law 907 = .ok (.iconst 1, 1) := by decide +kernel
theorem dL_law_908 : decode cL_law 908 = .ok (.iadd, 1) := by decide +kernel
theorem dL_law_909 : decode cL_law 909 = .ok (.iaload, 1) := by decide +kernel
theorem dL_law_910 : decode cL_law 910 = .ok (.invokevirtual 129, 3) := by decide +kernel
theorem dL_law_913 : decode cL_law 913 = .ok (.if_icmp .eq 19, 3) := by decide +kernel
theorem dL_law_916 : decode cL_law 916 = .ok (.iconst 0, 1) := by decide +kernel
theorem dL_law_917 : decode cL_law 917 = .ok (.ireturn, 1) := by decide +kernel
theorem dL_law_918 : decode cL_law 918 = .ok (.aload_n 1, 1) := by decide +kernel
theorem dL_law_919 : decode cL_law 919 = .ok (.invokevirtual 130, 3) := by decide +kernel
theorem dL_law_922 : decode cL_law 922 = .ok (.aload_n 2, 1) := by decide +kernel
theorem dL_law_923 : decode cL_law 923 = .ok (.invokevirtual 134, 3) := by decide +kernel
theorem dL_law_926 : decode cL_law 926 = .ok (.lcmp, 1) := by decide +kernel
theorem dL_law_927 : decode cL_law 927 = .ok (.ifCond .eq 5, 3) := by decide +kernel
theorem dL_law_930 : decode cL_law 930 = .ok (.iconst 0, 1) := by decide +kernel
theorem dL_law_931 : decode cL_law 931 = .ok (.ireturn, 1) := by decide +kernel
theorem dL_law_932 : decode cL_law 932 = .ok (.iinc 3 6, 3) := by decide +kernel
theorem dL_law_935 : decode cL_law 935 = .ok (.goto (-917), 3) := by decide +kernel
theorem dL_law_938 : decode cL_law 938 = .ok (.iconst 1, 1) := by decide +kernel
theorem dL_law_939 : decode cL_law 939 = .ok (.ireturn, 1) := by decide +kernel
def T_L_law (xs : Nat → Int32) (Ls : Nat) : tk_Tb := [(0, tk_new 6 3 600000 7302250), (3, tk_dup 4), (4, tk_ci M_X6_init 0 7 600000 7302250), (7, tk_sA 1 8), (8, tk_new 7 11 600000 7302250), (11, tk_dup 12), (12, tk_ci M_X7_init 0 15 600000 7302250), (15, tk_sA 2 16), (16, tk_ic (0) 17), (17, tk_sI 3 18), (18, tk_il 3 19), (19, tk_al 0 20), (20, tk_sln Ls 21), (21, tk_ic (6) 23), (23, tk_bi (fun x y => x - y) 24), (24, tk_cm (fun x y => y < x) 938 27), (27, tk_al 0 28), (28, tk_il 3 29), (29, tk_sld xs Ls 30), (30, tk_ic (31) 32), (32, tk_bi (fun x y => x &&& y) 33), (33, tk_sw [(0, 164), (1, 187), (2, 200), (3, 213), (4, 246), (5, 279), (6, 302), (7, 325), (8, 358), (9, 391), (10, 404), (11, 427), (12, 450), (13, 473), (14, 506), (15, 539), (16, 582), (17, 615), (18, 638), (19, 701), (20, 734), (21, 747), (22, 780), (23, 803), (24, 816), (25, 849), (26, 872), (27, 895), (28, 918)] 932), (164, tk_al 1 165), (165, tk_al 0 166), (166, tk_il 3 167), (167, tk_ic (1) 168), (168, tk_bi (fun x y => x + y) 169), (169, tk_sld xs Ls 170), (170, tk_cv 6 M_X6_type 1 173), (173, tk_al 2 174), (174, tk_al 0 175), (175, tk_il 3 176), (176, tk_ic (1) 177), (177, tk_bi (fun x y => x + y) 178), (178, tk_sld xs Ls 179), (179, tk_cv 7 M_X7_type 1 182), (182, tk_cm (fun x y => x = y) 932 185), (185, tk_ic (0) 186), (186, tk_rZ), (187, tk_al 1 188), (188, tk_cv 6 M_X6_clear 0 191), (191, tk_al 2 192), (192, tk_cv 7 M_X7_clear 0 195), (195, tk_cm (fun x y => x = y) 932 198), (198, tk_ic (0) 199), (199, tk_rZ), (200, tk_al 1 201), (201, tk_cv 6 M_X6_towns 0 204), (204, tk_al 2 205), (205, tk_cv 7 M_X7_towns 0 208), (208, tk_cm (fun x y => x = y) 932 211), (211, tk_ic (0) 212), (212, tk_rZ), (213, tk_al 1 214), (214, tk_al 0 215), (215, tk_il 3 216), (216, tk_ic (1) 217), (217, tk_bi (fun x y => x + y) 218), (218, tk_sld xs Ls 219), (219, tk_al 0 220), (220, tk_il 3 221), (221, tk_ic (2) 222), (222, tk_bi (fun x y => x + y) 223), (223, tk_sld xs Ls 224), (224, tk_cv 6 M_X6_kerb 2 227), (227, tk_al 2 228), (228, tk_al 0 229), (229, tk_il 3 230), (230, tk_ic (1) 231), (231, tk_bi (fun x y => x + y) 232), (232, tk_sld xs Ls 233), (233, tk_al 0 234), (234, tk_il 3 235), (235, tk_ic (2) 236), (236, tk_bi (fun x y => x + y) 237), (237, tk_sld xs Ls 238), (238, tk_cv 7 M_X7_kerb 2 241), (241, tk_cm (fun x y => x = y) 932 244), (244, tk_ic (0) 245), (245, tk_rZ), (246, tk_al 1 247), (247, tk_al 0 248), (248, tk_il 3 249), (249, tk_ic (1) 250), (250, tk_bi (fun x y => x + y) 251), (251, tk_sld xs Ls 252), (252, tk_al 0 253), (253, tk_il 3 254), (254, tk_ic (2) 255), (255, tk_bi (fun x y => x + y) 256), (256, tk_sld xs Ls 257), (257, tk_cv 6 M_X6_thing 2 260), (260, tk_al 2 261), (261, tk_al 0 262), (262, tk_il 3 263), (263, tk_ic (1) 264), (264, tk_bi (fun x y => x + y) 265), (265, tk_sld xs Ls 266), (266, tk_al 0 267), (267, tk_il 3 268), (268, tk_ic (2) 269), (269, tk_bi (fun x y => x + y) 270), (270, tk_sld xs Ls 271), (271, tk_cv 7 M_X7_thing 2 274), (274, tk_cm (fun x y => x = y) 932 277), (277, tk_ic (0) 278), (278, tk_rZ), (279, tk_al 1 280), (280, tk_al 0 281), (281, tk_il 3 282), (282, tk_ic (1) 283), (283, tk_bi (fun x y => x + y) 284), (284, tk_sld xs Ls 285), (285, tk_cv 6 M_X6_now 1 288), (288, tk_al 2 289), (289, tk_al 0 290), (290, tk_il 3 291), (291, tk_ic (1) 292), (292, tk_bi (fun x y => x + y) 293), (293, tk_sld xs Ls 294), (294, tk_cv 7 M_X7_now 1 297), (297, tk_cm (fun x y => x = y) 932 300), (300, tk_ic (0) 301), (301, tk_rZ), (302, tk_al 1 303), (303, tk_al 0 304), (304, tk_il 3 305), (305, tk_ic (1) 306), (306, tk_bi (fun x y => x + y) 307), (307, tk_sld xs Ls 308), (308, tk_cv 6 M_X6_tides 1 311), (311, tk_al 2 312), (312, tk_al 0 313), (313, tk_il 3 314), (314, tk_ic (1) 315), (315, tk_bi (fun x y => x + y) 316), (316, tk_sld xs Ls 317), (317, tk_cv 7 M_X7_tides 1 320), (320, tk_cm (fun x y => x = y) 932 323), (323, tk_ic (0) 324), (324, tk_rZ), (325, tk_al 1 326), (326, tk_al 0 327), (327, tk_il 3 328), (328, tk_ic (1) 329), (329, tk_bi (fun x y => x + y) 330), (330, tk_sld xs Ls 331), (331, tk_al 0 332), (332, tk_il 3 333), (333, tk_ic (2) 334), (334, tk_bi (fun x y => x + y) 335), (335, tk_sld xs Ls 336), (336, tk_cv 6 M_X6_ties 2 339), (339, tk_al 2 340), (340, tk_al 0 341), (341, tk_il 3 342), (342, tk_ic (1) 343), (343, tk_bi (fun x y => x + y) 344), (344, tk_sld xs Ls 345), (345, tk_al 0 346), (346, tk_il 3 347), (347, tk_ic (2) 348), (348, tk_bi (fun x y => x + y) 349), (349, tk_sld xs Ls 350), (350, tk_cv 7 M_X7_ties 2 353), (353, tk_cm (fun x y => x = y) 932 356), (356, tk_ic (0) 357), (357, tk_rZ), (358, tk_al 1 359), (359, tk_al 0 360), (360, tk_il 3 361), (361, tk_ic (1) 362), (362, tk_bi (fun x y => x + y) 363), (363, tk_sld xs Ls 364), (364, tk_al 0 365), (365, tk_il 3 366), (366, tk_ic (2) 367), (367, tk_bi (fun x y => x + y) 368), (368, tk_sld xs Ls 369), (369, tk_cv 6 M_X6_carries 2 372), (372, tk_al 2 373), (373, tk_al 0 374), (374, tk_il 3 375), (375, tk_ic (1) 376), (376, tk_bi (fun x y => x + y) 377), (377, tk_sld xs Ls 378), (378, tk_al 0 379), (379, tk_il 3 380), (380, tk_ic (2) 381), (381, tk_bi (fun x y => x + y) 382), (382, tk_sld xs Ls 383), (383, tk_cv 7 M_X7_carries 2 386), (386, tk_cm (fun x y => x = y) 932 389), (389, tk_ic (0) 390), (390, tk_rZ), (391, tk_al 1 392), (392, tk_cv 6 M_X6_undo 0 395), (395, tk_al 2 396), (396, tk_cv 7 M_X7_undo 0 399), (399, tk_cm (fun x y => x = y) 932 402), (402, tk_ic (0) 403), (403, tk_rZ), (404, tk_al 1 405), (405, tk_al 0 406), (406, tk_il 3 407), (407, tk_ic (1) 408), (408, tk_bi (fun x y => x + y) 409), (409, tk_sld xs Ls 410), (410, tk_cv 6 M_X6_level 1 413), (413, tk_al 2 414), (414, tk_al 0 415), (415, tk_il 3 416), (416, tk_ic (1) 417), (417, tk_bi (fun x y => x + y) 418), (418, tk_sld xs Ls 419), (419, tk_cv 7 M_X7_level 1 422), (422, tk_cm (fun x y => x = y) 932 425), (425, tk_ic (0) 426), (426, tk_rZ), (427, tk_al 1 428), (428, tk_al 0 429), (429, tk_il 3 430), (430, tk_ic (1) 431), (431, tk_bi (fun x y => x + y) 432), (432, tk_sld xs Ls 433), (433, tk_cv 6 M_X6_high 1 436), (436, tk_al 2 437), (437, tk_al 0 438), (438, tk_il 3 439), (439, tk_ic (1) 440), (440, tk_bi (fun x y => x + y) 441), (441, tk_sld xs Ls 442), (442, tk_cv 7 M_X7_high 1 445), (445, tk_cm (fun x y => x = y) 932 448), (448, tk_ic (0) 449), (449, tk_rZ), (450, tk_al 1 451), (451, tk_al 0 452), (452, tk_il 3 453), (453, tk_ic (1) 454), (454, tk_bi (fun x y => x + y) 455), (455, tk_sld xs Ls 456), (456, tk_cv 6 M_X6_flood 1 459), (459, tk_al 2 460), (460, tk_al 0 461), (461, tk_il 3 462), (462, tk_ic (1) 463), (463, tk_bi (fun x y => x + y) 464), (464, tk_sld xs Ls 465), (465, tk_cv 7 M_X7_flood 1 468), (468, tk_cm (fun x y => x = y) 932 471), (471, tk_ic (0) 472), (472, tk_rZ), (473, tk_al 1 474), (474, tk_al 0 475), (475, tk_il 3 476), (476, tk_ic (1) 477), (477, tk_bi (fun x y => x + y) 478), (478, tk_sld xs Ls 479), (479, tk_al 0 480), (480, tk_il 3 481), (481, tk_ic (2) 482), (482, tk_bi (fun x y => x + y) 483), (483, tk_sld xs Ls 484), (484, tk_cv 6 M_X6_where 2 487), (487, tk_al 2 488), (488, tk_al 0 489), (489, tk_il 3 490), (490, tk_ic (1) 491), (491, tk_bi (fun x y => x + y) 492), (492, tk_sld xs Ls 493), (493, tk_al 0 494), (494, tk_il 3 495), (495, tk_ic (2) 496), (496, tk_bi (fun x y => x + y) 497), (497, tk_sld xs Ls 498), (498, tk_cv 7 M_X7_where 2 501), (501, tk_cm (fun x y => x = y) 932 504), (504, tk_ic (0) 505), (505, tk_rZ), (506, tk_al 1 507), (507, tk_al 0 508), (508, tk_il 3 509), (509, tk_ic (1) 510), (510, tk_bi (fun x y => x + y) 511), (511, tk_sld xs Ls 512), (512, tk_al 0 513), (513, tk_il 3 514), (514, tk_ic (2) 515), (515, tk_bi (fun x y => x + y) 516), (516, tk_sld xs Ls 517), (517, tk_cv 6 M_X6_when 2 520), (520, tk_al 2 521), (521, tk_al 0 522), (522, tk_il 3 523), (523, tk_ic (1) 524), (524, tk_bi (fun x y => x + y) 525), (525, tk_sld xs Ls 526), (526, tk_al 0 527), (527, tk_il 3 528), (528, tk_ic (2) 529), (529, tk_bi (fun x y => x + y) 530), (530, tk_sld xs Ls 531), (531, tk_cv 7 M_X7_when 2 534), (534, tk_cm (fun x y => x = y) 932 537), (537, tk_ic (0) 538), (538, tk_rZ), (539, tk_al 1 540), (540, tk_al 0 541), (541, tk_il 3 542), (542, tk_ic (1) 543), (543, tk_bi (fun x y => x + y) 544), (544, tk_sld xs Ls 545), (545, tk_al 0 546), (546, tk_il 3 547), (547, tk_ic (2) 548), (548, tk_bi (fun x y => x + y) 549), (549, tk_sld xs Ls 550), (550, tk_al 0 551), (551, tk_il 3 552), (552, tk_ic (3) 553), (553, tk_bi (fun x y => x + y) 554), (554, tk_sld xs Ls 555), (555, tk_cv 6 M_X6_send 3 558), (558, tk_al 2 559), (559, tk_al 0 560), (560, tk_il 3 561), (561, tk_ic (1) 562), (562, tk_bi (fun x y => x + y) 563), (563, tk_sld xs Ls 564), (564, tk_al 0 565), (565, tk_il 3 566), (566, tk_ic (2) 567), (567, tk_bi (fun x y => x + y) 568), (568, tk_sld xs Ls 569), (569, tk_al 0 570), (570, tk_il 3 571), (571, tk_ic (3) 572), (572, tk_bi (fun x y => x + y) 573), (573, tk_sld xs Ls 574), (574, tk_cv 7 M_X7_send 3 577), (577, tk_cm (fun x y => x = y) 932 580), (580, tk_ic (0) 581), (581, tk_rZ), (582, tk_al 1 583), (583, tk_al 0 584), (584, tk_il 3 585), (585, tk_ic (1) 586), (586, tk_bi (fun x y => x + y) 587), (587, tk_sld xs Ls 588), (588, tk_al 0 589), (589, tk_il 3 590), (590, tk_ic (2) 591), (591, tk_bi (fun x y => x + y) 592), (592, tk_sld xs Ls 593), (593, tk_cv 6 M_X6_meet 2 596), (596, tk_al 2 597), (597, tk_al 0 598), (598, tk_il 3 599), (599, tk_ic (1) 600), (600, tk_bi (fun x y => x + y) 601), (601, tk_sld xs Ls 602), (602, tk_al 0 603), (603, tk_il 3 604), (604, tk_ic (2) 605), (605, tk_bi (fun x y => x + y) 606), (606, tk_sld xs Ls 607), (607, tk_cv 7 M_X7_meet 2 610), (610, tk_cm (fun x y => x = y) 932 613), (613, tk_ic (0) 614), (614, tk_rZ), (615, tk_al 1 616), (616, tk_al 0 617), (617, tk_il 3 618), (618, tk_ic (1) 619), (619, tk_bi (fun x y => x + y) 620), (620, tk_sld xs Ls 621), (621, tk_cv 6 M_X6_round 1 624), (624, tk_al 2 625), (625, tk_al 0 626), (626, tk_il 3 627), (627, tk_ic (1) 628), (628, tk_bi (fun x y => x + y) 629), (629, tk_sld xs Ls 630), (630, tk_cv 7 M_X7_round 1 633), (633, tk_cm (fun x y => x = y) 932 636), (636, tk_ic (0) 637), (637, tk_rZ), (638, tk_al 1 639), (639, tk_al 0 640), (640, tk_il 3 641), (641, tk_ic (1) 642), (642, tk_bi (fun x y => x + y) 643), (643, tk_sld xs Ls 644), (644, tk_al 0 645), (645, tk_il 3 646), (646, tk_ic (2) 647), (647, tk_bi (fun x y => x + y) 648), (648, tk_sld xs Ls 649), (649, tk_al 0 650), (650, tk_il 3 651), (651, tk_ic (3) 652), (652, tk_bi (fun x y => x + y) 653), (653, tk_sld xs Ls 654), (654, tk_al 0 655), (655, tk_il 3 656), (656, tk_ic (4) 657), (657, tk_bi (fun x y => x + y) 658), (658, tk_sld xs Ls 659), (659, tk_al 0 660), (660, tk_il 3 661), (661, tk_ic (5) 662), (662, tk_bi (fun x y => x + y) 663), (663, tk_sld xs Ls 664), (664, tk_cv 6 M_X6_odds 5 667), (667, tk_al 2 668), (668, tk_al 0 669), (669, tk_il 3 670), (670, tk_ic (1) 671), (671, tk_bi (fun x y => x + y) 672), (672, tk_sld xs Ls 673), (673, tk_al 0 674), (674, tk_il 3 675), (675, tk_ic (2) 676), (676, tk_bi (fun x y => x + y) 677), (677, tk_sld xs Ls 678), (678, tk_al 0 679), (679, tk_il 3 680), (680, tk_ic (3) 681), (681, tk_bi (fun x y => x + y) 682), (682, tk_sld xs Ls 683), (683, tk_al 0 684), (684, tk_il 3 685), (685, tk_ic (4) 686), (686, tk_bi (fun x y => x + y) 687), (687, tk_sld xs Ls 688), (688, tk_al 0 689), (689, tk_il 3 690), (690, tk_ic (5) 691), (691, tk_bi (fun x y => x + y) 692), (692, tk_sld xs Ls 693), (693, tk_cv 7 M_X7_odds 5 696), (696, tk_cm (fun x y => x = y) 932 699), (699, tk_ic (0) 700), (700, tk_rZ), (701, tk_al 1 702), (702, tk_al 0 703), (703, tk_il 3 704), (704, tk_ic (1) 705), (705, tk_bi (fun x y => x + y) 706), (706, tk_sld xs Ls 707), (707, tk_al 0 708), (708, tk_il 3 709), (709, tk_ic (2) 710), (710, tk_bi (fun x y => x + y) 711), (711, tk_sld xs Ls 712), (712, tk_cv 6 M_X6_found 2 715), (715, tk_al 2 716), (716, tk_al 0 717), (717, tk_il 3 718), (718, tk_ic (1) 719), (719, tk_bi (fun x y => x + y) 720), (720, tk_sld xs Ls 721), (721, tk_al 0 722), (722, tk_il 3 723), (723, tk_ic (2) 724), (724, tk_bi (fun x y => x + y) 725), (725, tk_sld xs Ls 726), (726, tk_cv 7 M_X7_found 2 729), (729, tk_cm (fun x y => x = y) 932 732), (732, tk_ic (0) 733), (733, tk_rZ), (734, tk_al 1 735), (735, tk_cv 6 M_X6_began 0 738), (738, tk_al 2 739), (739, tk_cv 7 M_X7_began 0 742), (742, tk_cm (fun x y => x = y) 932 745), (745, tk_ic (0) 746), (746, tk_rZ), (747, tk_al 1 748), (748, tk_al 0 749), (749, tk_il 3 750), (750, tk_ic (1) 751), (751, tk_bi (fun x y => x + y) 752), (752, tk_sld xs Ls 753), (753, tk_al 0 754), (754, tk_il 3 755), (755, tk_ic (2) 756), (756, tk_bi (fun x y => x + y) 757), (757, tk_sld xs Ls 758), (758, tk_cv 6 M_X6_saw 2 761), (761, tk_al 2 762), (762, tk_al 0 763), (763, tk_il 3 764), (764, tk_ic (1) 765), (765, tk_bi (fun x y => x + y) 766), (766, tk_sld xs Ls 767), (767, tk_al 0 768), (768, tk_il 3 769), (769, tk_ic (2) 770), (770, tk_bi (fun x y => x + y) 771), (771, tk_sld xs Ls 772), (772, tk_cv 7 M_X7_saw 2 775), (775, tk_cm (fun x y => x = y) 932 778), (778, tk_ic (0) 779), (779, tk_rZ), (780, tk_al 1 781), (781, tk_al 0 782), (782, tk_il 3 783), (783, tk_ic (1) 784), (784, tk_bi (fun x y => x + y) 785), (785, tk_sld xs Ls 786), (786, tk_cv 6 M_X6_laws 1 789), (789, tk_al 2 790), (790, tk_al 0 791), (791, tk_il 3 792), (792, tk_ic (1) 793), (793, tk_bi (fun x y => x + y) 794), (794, tk_sld xs Ls 795), (795, tk_cv 7 M_X7_laws 1 798), (798, tk_cm (fun x y => x = y) 932 801), (801, tk_ic (0) 802), (802, tk_rZ), (803, tk_al 1 804), (804, tk_cv 6 M_X6_forget 0 807), (807, tk_al 2 808), (808, tk_cv 7 M_X7_forget 0 811), (811, tk_cm (fun x y => x = y) 932 814), (814, tk_ic (0) 815), (815, tk_rZ), (816, tk_al 1 817), (817, tk_al 0 818), (818, tk_il 3 819), (819, tk_ic (1) 820), (820, tk_bi (fun x y => x + y) 821), (821, tk_sld xs Ls 822), (822, tk_al 0 823), (823, tk_il 3 824), (824, tk_ic (2) 825), (825, tk_bi (fun x y => x + y) 826), (826, tk_sld xs Ls 827), (827, tk_cv 6 M_X6_rate 2 830), (830, tk_al 2 831), (831, tk_al 0 832), (832, tk_il 3 833), (833, tk_ic (1) 834), (834, tk_bi (fun x y => x + y) 835), (835, tk_sld xs Ls 836), (836, tk_al 0 837), (837, tk_il 3 838), (838, tk_ic (2) 839), (839, tk_bi (fun x y => x + y) 840), (840, tk_sld xs Ls 841), (841, tk_cv 7 M_X7_rate 2 844), (844, tk_cm (fun x y => x = y) 932 847), (847, tk_ic (0) 848), (848, tk_rZ), (849, tk_al 1 850), (850, tk_al 0 851), (851, tk_il 3 852), (852, tk_ic (1) 853), (853, tk_bi (fun x y => x + y) 854), (854, tk_sld xs Ls 855), (855, tk_cv 6 M_X6_keep 1 858), (858, tk_al 2 859), (859, tk_al 0 860), (860, tk_il 3 861), (861, tk_ic (1) 862), (862, tk_bi (fun x y => x + y) 863), (863, tk_sld xs Ls 864), (864, tk_cv 7 M_X7_keep 1 867), (867, tk_cm (fun x y => x = y) 932 870), (870, tk_ic (0) 871), (871, tk_rZ), (872, tk_al 1 873), (873, tk_al 0 874), (874, tk_il 3 875), (875, tk_ic (1) 876), (876, tk_bi (fun x y => x + y) 877), (877, tk_sld xs Ls 878), (878, tk_cv 6 M_X6_back 1 881), (881, tk_al 2 882), (882, tk_al 0 883), (883, tk_il 3 884), (884, tk_ic (1) 885), (885, tk_bi (fun x y => x + y) 886), (886, tk_sld xs Ls 887), (887, tk_cv 7 M_X7_back 1 890), (890, tk_cm (fun x y => x = y) 932 893), (893, tk_ic (0) 894), (894, tk_rZ), (895, tk_al 1 896), (896, tk_al 0 897), (897, tk_il 3 898), (898, tk_ic (1) 899), (899, tk_bi (fun x y => x + y) 900), (900, tk_sld xs Ls 901), (901, tk_cv 6 M_X6_count 1 904), (904, tk_al 2 905), (905, tk_al 0 906), (906, tk_il 3 907), (907, tk_ic (1) 908), (908, tk_bi (fun x y => x + y) 909), (909, tk_sld xs Ls 910), (910, tk_cv 7 M_X7_count 1 913), (913, tk_cm (fun x y => x = y) 932 916), (916, tk_ic (0) 917), (917, tk_rZ), (918, tk_al 1 919), (919, tk_cv 6 M_X6_trace 0 922), (922, tk_al 2 923), (923, tk_cv 7 M_X7_trace 0 926), (926, tk_lcm 927), (927, tk_br (fun x => x = 0) 932 930), (930, tk_ic (0) 931), (931, tk_rZ), (932, tk_inc 3 (6) 935), (935, tk_jmp 18), (938, tk_ic (1) 939), (939, tk_rZ)]
set_option maxRecDepth 100000 in
theorem hT_L_law (xs : Nat → Int32) (Ls : Nat) : ∀ x ∈ T_L_law xs Ls, tk_So (some (Ls, xs)) M_L_law x.1 x.2 := by
  unfold T_L_law
  refine List.forall_mem_cons.mpr ⟨so_new (C := RX6) (T := TX6) (N := 12) dL_law_0 (by decide) rfl rfl in_X6 tyX6 tyX6_ok wk_L_7 wi_X6 wn_X6 (by decide +kernel) rfl rfl rfl, ?_⟩
  refine List.forall_mem_cons.mpr ⟨so_dup dL_law_3 rfl, ?_⟩
  refine List.forall_mem_cons.mpr ⟨so_ci dL_law_4 mv_X6_init wm_L_9 rfl rfl (by decide) rfl, ?_⟩
  refine List.forall_mem_cons.mpr ⟨so_astore_n dL_law_7 rfl rfl, ?_⟩
  refine List.forall_mem_cons.mpr ⟨so_new (C := RX7) (T := TX7) (N := 29) dL_law_8 (by decide) rfl rfl in_X7 tyX7 tyX7_ok wk_L_10 wi_X7 wn_X7 (by decide +kernel) rfl rfl rfl, ?_⟩
  refine List.forall_mem_cons.mpr ⟨so_dup dL_law_11 rfl, ?_⟩
  refine List.forall_mem_cons.mpr ⟨so_ci dL_law_12 mv_X7_init wm_L_12 rfl rfl (by decide) rfl, ?_⟩
  refine List.forall_mem_cons.mpr ⟨so_astore_n dL_law_15 rfl rfl, ?_⟩
  refine List.forall_mem_cons.mpr ⟨so_iconst dL_law_16 (by decide) rfl, ?_⟩
  refine List.forall_mem_cons.mpr ⟨so_istore_n dL_law_17 rfl rfl, ?_⟩
  refine List.forall_mem_cons.mpr ⟨so_iload_n dL_law_18 rfl rfl, ?_⟩
  refine List.forall_mem_cons.mpr ⟨so_aload_n dL_law_19 rfl rfl, ?_⟩
  refine List.forall_mem_cons.mpr ⟨so_sln rfl dL_law_20 rfl, ?_⟩
  refine List.forall_mem_cons.mpr ⟨so_bipush dL_law_21 (by decide) rfl, ?_⟩
  refine List.forall_mem_cons.mpr ⟨so_isub dL_law_23 rfl, ?_⟩
  refine List.forall_mem_cons.mpr ⟨so_icmp_gt dL_law_24 (by decide) rfl, ?_⟩
  refine List.forall_mem_cons.mpr ⟨so_aload_n dL_law_27 rfl rfl, ?_⟩
  refine List.forall_mem_cons.mpr ⟨so_iload_n dL_law_28 rfl rfl, ?_⟩
  refine List.forall_mem_cons.mpr ⟨so_sld rfl dL_law_29 rfl, ?_⟩
  refine List.forall_mem_cons.mpr ⟨so_bipush dL_law_30 (by decide) rfl, ?_⟩
  refine List.forall_mem_cons.mpr ⟨so_iand dL_law_32 rfl, ?_⟩
  refine List.forall_mem_cons.mpr ⟨so_table (n := 28) dL_law_33 (by decide) (by decide +kernel) (by decide +kernel), ?_⟩
  refine List.forall_mem_cons.mpr ⟨so_aload_n dL_law_164 rfl rfl, ?_⟩
  refine List.forall_mem_cons.mpr ⟨so_aload_n dL_law_165 rfl rfl, ?_⟩
  refine List.forall_mem_cons.mpr ⟨so_iload_n dL_law_166 rfl rfl, ?_⟩
  refine List.forall_mem_cons.mpr ⟨so_iconst dL_law_167 (by decide) rfl, ?_⟩
  refine List.forall_mem_cons.mpr ⟨so_iadd dL_law_168 rfl, ?_⟩
  refine List.forall_mem_cons.mpr ⟨so_sld rfl dL_law_169 rfl, ?_⟩
  refine List.forall_mem_cons.mpr ⟨so_cv (T := TX6) (N := 12) dL_law_170 mv_X6_type wm_L_13 (by decide) rfl ⟨rfl, rfl⟩ (by decide) rfl, ?_⟩
  refine List.forall_mem_cons.mpr ⟨so_aload_n dL_law_173 rfl rfl, ?_⟩
  refine List.forall_mem_cons.mpr ⟨so_aload_n dL_law_174 rfl rfl, ?_⟩
  refine List.forall_mem_cons.mpr ⟨so_iload_n dL_law_175 rfl rfl, ?_⟩
  refine List.forall_mem_cons.mpr ⟨so_iconst dL_law_176 (by decide) rfl, ?_⟩
  refine List.forall_mem_cons.mpr ⟨so_iadd dL_law_177 rfl, ?_⟩
  refine List.forall_mem_cons.mpr ⟨so_sld rfl dL_law_178 rfl, ?_⟩
  refine List.forall_mem_cons.mpr ⟨so_cv (T := TX7) (N := 29) dL_law_179 mv_X7_type wm_L_17 (by decide) rfl ⟨rfl, rfl⟩ (by decide) rfl, ?_⟩
  refine List.forall_mem_cons.mpr ⟨so_icmp_eq dL_law_182 (by decide) rfl, ?_⟩
  refine List.forall_mem_cons.mpr ⟨so_iconst dL_law_185 (by decide) rfl, ?_⟩
  refine List.forall_mem_cons.mpr ⟨so_rZ dL_law_186 rfl, ?_⟩
  refine List.forall_mem_cons.mpr ⟨so_aload_n dL_law_187 rfl rfl, ?_⟩
  refine List.forall_mem_cons.mpr ⟨so_cv (T := TX6) (N := 12) dL_law_188 mv_X6_clear wm_L_18 (by decide) rfl ⟨rfl, rfl⟩ (by decide) rfl, ?_⟩
  refine List.forall_mem_cons.mpr ⟨so_aload_n dL_law_191 rfl rfl, ?_⟩
  refine List.forall_mem_cons.mpr ⟨so_cv (T := TX7) (N := 29) dL_law_192 mv_X7_clear wm_L_22 (by decide) rfl ⟨rfl, rfl⟩ (by decide) rfl, ?_⟩
  refine List.forall_mem_cons.mpr ⟨so_icmp_eq dL_law_195 (by decide) rfl, ?_⟩
  refine List.forall_mem_cons.mpr ⟨so_iconst dL_law_198 (by decide) rfl, ?_⟩
  refine List.forall_mem_cons.mpr ⟨so_rZ dL_law_199 rfl, ?_⟩
  refine List.forall_mem_cons.mpr ⟨so_aload_n dL_law_200 rfl rfl, ?_⟩
  refine List.forall_mem_cons.mpr ⟨so_cv (T := TX6) (N := 12) dL_law_201 mv_X6_towns wm_L_23 (by decide) rfl ⟨rfl, rfl⟩ (by decide) rfl, ?_⟩
  refine List.forall_mem_cons.mpr ⟨so_aload_n dL_law_204 rfl rfl, ?_⟩
  refine List.forall_mem_cons.mpr ⟨so_cv (T := TX7) (N := 29) dL_law_205 mv_X7_towns wm_L_26 (by decide) rfl ⟨rfl, rfl⟩ (by decide) rfl, ?_⟩
  refine List.forall_mem_cons.mpr ⟨so_icmp_eq dL_law_208 (by decide) rfl, ?_⟩
  refine List.forall_mem_cons.mpr ⟨so_iconst dL_law_211 (by decide) rfl, ?_⟩
  refine List.forall_mem_cons.mpr ⟨so_rZ dL_law_212 rfl, ?_⟩
  refine List.forall_mem_cons.mpr ⟨so_aload_n dL_law_213 rfl rfl, ?_⟩
  refine List.forall_mem_cons.mpr ⟨so_aload_n dL_law_214 rfl rfl, ?_⟩
  refine List.forall_mem_cons.mpr ⟨so_iload_n dL_law_215 rfl rfl, ?_⟩
  refine List.forall_mem_cons.mpr ⟨so_iconst dL_law_216 (by decide) rfl, ?_⟩
  refine List.forall_mem_cons.mpr ⟨so_iadd dL_law_217 rfl, ?_⟩
  refine List.forall_mem_cons.mpr ⟨so_sld rfl dL_law_218 rfl, ?_⟩
  refine List.forall_mem_cons.mpr ⟨so_aload_n dL_law_219 rfl rfl, ?_⟩
  refine List.forall_mem_cons.mpr ⟨so_iload_n dL_law_220 rfl rfl, ?_⟩
  refine List.forall_mem_cons.mpr ⟨so_iconst dL_law_221 (by decide) rfl, ?_⟩
  refine List.forall_mem_cons.mpr ⟨so_iadd dL_law_222 rfl, ?_⟩
  refine List.forall_mem_cons.mpr ⟨so_sld rfl dL_law_223 rfl, ?_⟩
  refine List.forall_mem_cons.mpr ⟨so_cv (T := TX6) (N := 12) dL_law_224 mv_X6_kerb wm_L_27 (by decide) rfl ⟨rfl, rfl⟩ (by decide) rfl, ?_⟩
  refine List.forall_mem_cons.mpr ⟨so_aload_n dL_law_227 rfl rfl, ?_⟩
  refine List.forall_mem_cons.mpr ⟨so_aload_n dL_law_228 rfl rfl, ?_⟩
  refine List.forall_mem_cons.mpr ⟨so_iload_n dL_law_229 rfl rfl, ?_⟩
  refine List.forall_mem_cons.mpr ⟨so_iconst dL_law_230 (by decide) rfl, ?_⟩
  refine List.forall_mem_cons.mpr ⟨so_iadd dL_law_231 rfl, ?_⟩
  refine List.forall_mem_cons.mpr ⟨so_sld rfl dL_law_232 rfl, ?_⟩
  refine List.forall_mem_cons.mpr ⟨so_aload_n dL_law_233 rfl rfl, ?_⟩
  refine List.forall_mem_cons.mpr ⟨so_iload_n dL_law_234 rfl rfl, ?_⟩
  refine List.forall_mem_cons.mpr ⟨so_iconst dL_law_235 (by decide) rfl, ?_⟩
  refine List.forall_mem_cons.mpr ⟨so_iadd dL_law_236 rfl, ?_⟩
  refine List.forall_mem_cons.mpr ⟨so_sld rfl dL_law_237 rfl, ?_⟩
  refine List.forall_mem_cons.mpr ⟨so_cv (T := TX7) (N := 29) dL_law_238 mv_X7_kerb wm_L_31 (by decide) rfl ⟨rfl, rfl⟩ (by decide) rfl, ?_⟩
  refine List.forall_mem_cons.mpr ⟨so_icmp_eq dL_law_241 (by decide) rfl, ?_⟩
  refine List.forall_mem_cons.mpr ⟨so_iconst dL_law_244 (by decide) rfl, ?_⟩
  refine List.forall_mem_cons.mpr ⟨so_rZ dL_law_245 rfl, ?_⟩
  refine List.forall_mem_cons.mpr ⟨so_aload_n dL_law_246 rfl rfl, ?_⟩
  refine List.forall_mem_cons.mpr ⟨so_aload_n dL_law_247 rfl rfl, ?_⟩
  refine List.forall_mem_cons.mpr ⟨so_iload_n dL_law_248 rfl rfl, ?_⟩
  refine List.forall_mem_cons.mpr ⟨so_iconst dL_law_249 (by decide) rfl, ?_⟩
  refine List.forall_mem_cons.mpr ⟨so_iadd dL_law_250 rfl, ?_⟩
  refine List.forall_mem_cons.mpr ⟨so_sld rfl dL_law_251 rfl, ?_⟩
  refine List.forall_mem_cons.mpr ⟨so_aload_n dL_law_252 rfl rfl, ?_⟩
  refine List.forall_mem_cons.mpr ⟨so_iload_n dL_law_253 rfl rfl, ?_⟩
  refine List.forall_mem_cons.mpr ⟨so_iconst dL_law_254 (by decide) rfl, ?_⟩
  refine List.forall_mem_cons.mpr ⟨so_iadd dL_law_255 rfl, ?_⟩
  refine List.forall_mem_cons.mpr ⟨so_sld rfl dL_law_256 rfl, ?_⟩
  refine List.forall_mem_cons.mpr ⟨so_cv (T := TX6) (N := 12) dL_law_257 mv_X6_thing wm_L_32 (by decide) rfl ⟨rfl, rfl⟩ (by decide) rfl, ?_⟩
  refine List.forall_mem_cons.mpr ⟨so_aload_n dL_law_260 rfl rfl, ?_⟩
  refine List.forall_mem_cons.mpr ⟨so_aload_n dL_law_261 rfl rfl, ?_⟩
  refine List.forall_mem_cons.mpr ⟨so_iload_n dL_law_262 rfl rfl, ?_⟩
  refine List.forall_mem_cons.mpr ⟨so_iconst dL_law_263 (by decide) rfl, ?_⟩
  refine List.forall_mem_cons.mpr ⟨so_iadd dL_law_264 rfl, ?_⟩
  refine List.forall_mem_cons.mpr ⟨so_sld rfl dL_law_265 rfl, ?_⟩
  refine List.forall_mem_cons.mpr ⟨so_aload_n dL_law_266 rfl rfl, ?_⟩
  refine List.forall_mem_cons.mpr ⟨so_iload_n dL_law_267 rfl rfl, ?_⟩
  refine List.forall_mem_cons.mpr ⟨so_iconst dL_law_268 (by decide) rfl, ?_⟩
  refine List.forall_mem_cons.mpr ⟨so_iadd dL_law_269 rfl, ?_⟩
  refine List.forall_mem_cons.mpr ⟨so_sld rfl dL_law_270 rfl, ?_⟩
  refine List.forall_mem_cons.mpr ⟨so_cv (T := TX7) (N := 29) dL_law_271 mv_X7_thing wm_L_35 (by decide) rfl ⟨rfl, rfl⟩ (by decide) rfl, ?_⟩
  refine List.forall_mem_cons.mpr ⟨so_icmp_eq dL_law_274 (by decide) rfl, ?_⟩
  refine List.forall_mem_cons.mpr ⟨so_iconst dL_law_277 (by decide) rfl, ?_⟩
  refine List.forall_mem_cons.mpr ⟨so_rZ dL_law_278 rfl, ?_⟩
  refine List.forall_mem_cons.mpr ⟨so_aload_n dL_law_279 rfl rfl, ?_⟩
  refine List.forall_mem_cons.mpr ⟨so_aload_n dL_law_280 rfl rfl, ?_⟩
  refine List.forall_mem_cons.mpr ⟨so_iload_n dL_law_281 rfl rfl, ?_⟩
  refine List.forall_mem_cons.mpr ⟨so_iconst dL_law_282 (by decide) rfl, ?_⟩
  refine List.forall_mem_cons.mpr ⟨so_iadd dL_law_283 rfl, ?_⟩
  refine List.forall_mem_cons.mpr ⟨so_sld rfl dL_law_284 rfl, ?_⟩
  refine List.forall_mem_cons.mpr ⟨so_cv (T := TX6) (N := 12) dL_law_285 mv_X6_now wm_L_36 (by decide) rfl ⟨rfl, rfl⟩ (by decide) rfl, ?_⟩
  refine List.forall_mem_cons.mpr ⟨so_aload_n dL_law_288 rfl rfl, ?_⟩
  refine List.forall_mem_cons.mpr ⟨so_aload_n dL_law_289 rfl rfl, ?_⟩
  refine List.forall_mem_cons.mpr ⟨so_iload_n dL_law_290 rfl rfl, ?_⟩
  refine List.forall_mem_cons.mpr ⟨so_iconst dL_law_291 (by decide) rfl, ?_⟩
  refine List.forall_mem_cons.mpr ⟨so_iadd dL_law_292 rfl, ?_⟩
  refine List.forall_mem_cons.mpr ⟨so_sld rfl dL_law_293 rfl, ?_⟩
  refine List.forall_mem_cons.mpr ⟨so_cv (T := TX7) (N := 29) dL_law_294 mv_X7_now wm_L_39 (by decide) rfl ⟨rfl, rfl⟩ (by decide) rfl, ?_⟩
  refine List.forall_mem_cons.mpr ⟨so_icmp_eq dL_law_297 (by decide) rfl, ?_⟩
  refine List.forall_mem_cons.mpr ⟨so_iconst dL_law_300 (by decide) rfl, ?_⟩
  refine List.forall_mem_cons.mpr ⟨so_rZ dL_law_301 rfl, ?_⟩
  refine List.forall_mem_cons.mpr ⟨so_aload_n dL_law_302 rfl rfl, ?_⟩
  refine List.forall_mem_cons.mpr ⟨so_aload_n dL_law_303 rfl rfl, ?_⟩
  refine List.forall_mem_cons.mpr ⟨so_iload_n dL_law_304 rfl rfl, ?_⟩
  refine List.forall_mem_cons.mpr ⟨so_iconst dL_law_305 (by decide) rfl, ?_⟩
  refine List.forall_mem_cons.mpr ⟨so_iadd dL_law_306 rfl, ?_⟩
  refine List.forall_mem_cons.mpr ⟨so_sld rfl dL_law_307 rfl, ?_⟩
  refine List.forall_mem_cons.mpr ⟨so_cv (T := TX6) (N := 12) dL_law_308 mv_X6_tides wm_L_40 (by decide) rfl ⟨rfl, rfl⟩ (by decide) rfl, ?_⟩
  refine List.forall_mem_cons.mpr ⟨so_aload_n dL_law_311 rfl rfl, ?_⟩
  refine List.forall_mem_cons.mpr ⟨so_aload_n dL_law_312 rfl rfl, ?_⟩
  refine List.forall_mem_cons.mpr ⟨so_iload_n dL_law_313 rfl rfl, ?_⟩
  refine List.forall_mem_cons.mpr ⟨so_iconst dL_law_314 (by decide) rfl, ?_⟩
  refine List.forall_mem_cons.mpr ⟨so_iadd dL_law_315 rfl, ?_⟩
  refine List.forall_mem_cons.mpr ⟨so_sld rfl dL_law_316 rfl, ?_⟩
  refine List.forall_mem_cons.mpr ⟨so_cv (T := TX7) (N := 29) dL_law_317 mv_X7_tides wm_L_43 (by decide) rfl ⟨rfl, rfl⟩ (by decide) rfl, ?_⟩
  refine List.forall_mem_cons.mpr ⟨so_icmp_eq dL_law_320 (by decide) rfl, ?_⟩
  refine List.forall_mem_cons.mpr ⟨so_iconst dL_law_323 (by decide) rfl, ?_⟩
  refine List.forall_mem_cons.mpr ⟨so_rZ dL_law_324 rfl, ?_⟩
  refine List.forall_mem_cons.mpr ⟨so_aload_n dL_law_325 rfl rfl, ?_⟩
  refine List.forall_mem_cons.mpr ⟨so_aload_n dL_law_326 rfl rfl, ?_⟩
  refine List.forall_mem_cons.mpr ⟨so_iload_n dL_law_327 rfl rfl, ?_⟩
  refine List.forall_mem_cons.mpr ⟨so_iconst dL_law_328 (by decide) rfl, ?_⟩
  refine List.forall_mem_cons.mpr ⟨so_iadd dL_law_329 rfl, ?_⟩
  refine List.forall_mem_cons.mpr ⟨so_sld rfl dL_law_330 rfl, ?_⟩
  refine List.forall_mem_cons.mpr ⟨so_aload_n dL_law_331 rfl rfl, ?_⟩
  refine List.forall_mem_cons.mpr ⟨so_iload_n dL_law_332 rfl rfl, ?_⟩
  refine List.forall_mem_cons.mpr ⟨so_iconst dL_law_333 (by decide) rfl, ?_⟩
  refine List.forall_mem_cons.mpr ⟨so_iadd dL_law_334 rfl, ?_⟩
  refine List.forall_mem_cons.mpr ⟨so_sld rfl dL_law_335 rfl, ?_⟩
  refine List.forall_mem_cons.mpr ⟨so_cv (T := TX6) (N := 12) dL_law_336 mv_X6_ties wm_L_44 (by decide) rfl ⟨rfl, rfl⟩ (by decide) rfl, ?_⟩
  refine List.forall_mem_cons.mpr ⟨so_aload_n dL_law_339 rfl rfl, ?_⟩
  refine List.forall_mem_cons.mpr ⟨so_aload_n dL_law_340 rfl rfl, ?_⟩
  refine List.forall_mem_cons.mpr ⟨so_iload_n dL_law_341 rfl rfl, ?_⟩
  refine List.forall_mem_cons.mpr ⟨so_iconst dL_law_342 (by decide) rfl, ?_⟩
  refine List.forall_mem_cons.mpr ⟨so_iadd dL_law_343 rfl, ?_⟩
  refine List.forall_mem_cons.mpr ⟨so_sld rfl dL_law_344 rfl, ?_⟩
  refine List.forall_mem_cons.mpr ⟨so_aload_n dL_law_345 rfl rfl, ?_⟩
  refine List.forall_mem_cons.mpr ⟨so_iload_n dL_law_346 rfl rfl, ?_⟩
  refine List.forall_mem_cons.mpr ⟨so_iconst dL_law_347 (by decide) rfl, ?_⟩
  refine List.forall_mem_cons.mpr ⟨so_iadd dL_law_348 rfl, ?_⟩
  refine List.forall_mem_cons.mpr ⟨so_sld rfl dL_law_349 rfl, ?_⟩
  refine List.forall_mem_cons.mpr ⟨so_cv (T := TX7) (N := 29) dL_law_350 mv_X7_ties wm_L_47 (by decide) rfl ⟨rfl, rfl⟩ (by decide) rfl, ?_⟩
  refine List.forall_mem_cons.mpr ⟨so_icmp_eq dL_law_353 (by decide) rfl, ?_⟩
  refine List.forall_mem_cons.mpr ⟨so_iconst dL_law_356 (by decide) rfl, ?_⟩
  refine List.forall_mem_cons.mpr ⟨so_rZ dL_law_357 rfl, ?_⟩
  refine List.forall_mem_cons.mpr ⟨so_aload_n dL_law_358 rfl rfl, ?_⟩
  refine List.forall_mem_cons.mpr ⟨so_aload_n dL_law_359 rfl rfl, ?_⟩
  refine List.forall_mem_cons.mpr ⟨so_iload_n dL_law_360 rfl rfl, ?_⟩
  refine List.forall_mem_cons.mpr ⟨so_iconst dL_law_361 (by decide) rfl, ?_⟩
  refine List.forall_mem_cons.mpr ⟨so_iadd dL_law_362 rfl, ?_⟩
  refine List.forall_mem_cons.mpr ⟨so_sld rfl dL_law_363 rfl, ?_⟩
  refine List.forall_mem_cons.mpr ⟨so_aload_n dL_law_364 rfl rfl, ?_⟩
  refine List.forall_mem_cons.mpr ⟨so_iload_n dL_law_365 rfl rfl, ?_⟩
  refine List.forall_mem_cons.mpr ⟨so_iconst dL_law_366 (by decide) rfl, ?_⟩
  refine List.forall_mem_cons.mpr ⟨so_iadd dL_law_367 rfl, ?_⟩
  refine List.forall_mem_cons.mpr ⟨so_sld rfl dL_law_368 rfl, ?_⟩
  refine List.forall_mem_cons.mpr ⟨so_cv (T := TX6) (N := 12) dL_law_369 mv_X6_carries wm_L_48 (by decide) rfl ⟨rfl, rfl⟩ (by decide) rfl, ?_⟩
  refine List.forall_mem_cons.mpr ⟨so_aload_n dL_law_372 rfl rfl, ?_⟩
  refine List.forall_mem_cons.mpr ⟨so_aload_n dL_law_373 rfl rfl, ?_⟩
  refine List.forall_mem_cons.mpr ⟨so_iload_n dL_law_374 rfl rfl, ?_⟩
  refine List.forall_mem_cons.mpr ⟨so_iconst dL_law_375 (by decide) rfl, ?_⟩
  refine List.forall_mem_cons.mpr ⟨so_iadd dL_law_376 rfl, ?_⟩
  refine List.forall_mem_cons.mpr ⟨so_sld rfl dL_law_377 rfl, ?_⟩
  refine List.forall_mem_cons.mpr ⟨so_aload_n dL_law_378 rfl rfl, ?_⟩
  refine List.forall_mem_cons.mpr ⟨so_iload_n dL_law_379 rfl rfl, ?_⟩
  refine List.forall_mem_cons.mpr ⟨so_iconst dL_law_380 (by decide) rfl, ?_⟩
  refine List.forall_mem_cons.mpr ⟨so_iadd dL_law_381 rfl, ?_⟩
  refine List.forall_mem_cons.mpr ⟨so_sld rfl dL_law_382 rfl, ?_⟩
  refine List.forall_mem_cons.mpr ⟨so_cv (T := TX7) (N := 29) dL_law_383 mv_X7_carries wm_L_51 (by decide) rfl ⟨rfl, rfl⟩ (by decide) rfl, ?_⟩
  refine List.forall_mem_cons.mpr ⟨so_icmp_eq dL_law_386 (by decide) rfl, ?_⟩
  refine List.forall_mem_cons.mpr ⟨so_iconst dL_law_389 (by decide) rfl, ?_⟩
  refine List.forall_mem_cons.mpr ⟨so_rZ dL_law_390 rfl, ?_⟩
  refine List.forall_mem_cons.mpr ⟨so_aload_n dL_law_391 rfl rfl, ?_⟩
  refine List.forall_mem_cons.mpr ⟨so_cv (T := TX6) (N := 12) dL_law_392 mv_X6_undo wm_L_52 (by decide) rfl ⟨rfl, rfl⟩ (by decide) rfl, ?_⟩
  refine List.forall_mem_cons.mpr ⟨so_aload_n dL_law_395 rfl rfl, ?_⟩
  refine List.forall_mem_cons.mpr ⟨so_cv (T := TX7) (N := 29) dL_law_396 mv_X7_undo wm_L_55 (by decide) rfl ⟨rfl, rfl⟩ (by decide) rfl, ?_⟩
  refine List.forall_mem_cons.mpr ⟨so_icmp_eq dL_law_399 (by decide) rfl, ?_⟩
  refine List.forall_mem_cons.mpr ⟨so_iconst dL_law_402 (by decide) rfl, ?_⟩
  refine List.forall_mem_cons.mpr ⟨so_rZ dL_law_403 rfl, ?_⟩
  refine List.forall_mem_cons.mpr ⟨so_aload_n dL_law_404 rfl rfl, ?_⟩
  refine List.forall_mem_cons.mpr ⟨so_aload_n dL_law_405 rfl rfl, ?_⟩
  refine List.forall_mem_cons.mpr ⟨so_iload_n dL_law_406 rfl rfl, ?_⟩
  refine List.forall_mem_cons.mpr ⟨so_iconst dL_law_407 (by decide) rfl, ?_⟩
  refine List.forall_mem_cons.mpr ⟨so_iadd dL_law_408 rfl, ?_⟩
  refine List.forall_mem_cons.mpr ⟨so_sld rfl dL_law_409 rfl, ?_⟩
  refine List.forall_mem_cons.mpr ⟨so_cv (T := TX6) (N := 12) dL_law_410 mv_X6_level wm_L_56 (by decide) rfl ⟨rfl, rfl⟩ (by decide) rfl, ?_⟩
  refine List.forall_mem_cons.mpr ⟨so_aload_n dL_law_413 rfl rfl, ?_⟩
  refine List.forall_mem_cons.mpr ⟨so_aload_n dL_law_414 rfl rfl, ?_⟩
  refine List.forall_mem_cons.mpr ⟨so_iload_n dL_law_415 rfl rfl, ?_⟩
  refine List.forall_mem_cons.mpr ⟨so_iconst dL_law_416 (by decide) rfl, ?_⟩
  refine List.forall_mem_cons.mpr ⟨so_iadd dL_law_417 rfl, ?_⟩
  refine List.forall_mem_cons.mpr ⟨so_sld rfl dL_law_418 rfl, ?_⟩
  refine List.forall_mem_cons.mpr ⟨so_cv (T := TX7) (N := 29) dL_law_419 mv_X7_level wm_L_59 (by decide) rfl ⟨rfl, rfl⟩ (by decide) rfl, ?_⟩
  refine List.forall_mem_cons.mpr ⟨so_icmp_eq dL_law_422 (by decide) rfl, ?_⟩
  refine List.forall_mem_cons.mpr ⟨so_iconst dL_law_425 (by decide) rfl, ?_⟩
  refine List.forall_mem_cons.mpr ⟨so_rZ dL_law_426 rfl, ?_⟩
  refine List.forall_mem_cons.mpr ⟨so_aload_n dL_law_427 rfl rfl, ?_⟩
  refine List.forall_mem_cons.mpr ⟨so_aload_n dL_law_428 rfl rfl, ?_⟩
  refine List.forall_mem_cons.mpr ⟨so_iload_n dL_law_429 rfl rfl, ?_⟩
  refine List.forall_mem_cons.mpr ⟨so_iconst dL_law_430 (by decide) rfl, ?_⟩
  refine List.forall_mem_cons.mpr ⟨so_iadd dL_law_431 rfl, ?_⟩
  refine List.forall_mem_cons.mpr ⟨so_sld rfl dL_law_432 rfl, ?_⟩
  refine List.forall_mem_cons.mpr ⟨so_cv (T := TX6) (N := 12) dL_law_433 mv_X6_high wm_L_60 (by decide) rfl ⟨rfl, rfl⟩ (by decide) rfl, ?_⟩
  refine List.forall_mem_cons.mpr ⟨so_aload_n dL_law_436 rfl rfl, ?_⟩
  refine List.forall_mem_cons.mpr ⟨so_aload_n dL_law_437 rfl rfl, ?_⟩
  refine List.forall_mem_cons.mpr ⟨so_iload_n dL_law_438 rfl rfl, ?_⟩
  refine List.forall_mem_cons.mpr ⟨so_iconst dL_law_439 (by decide) rfl, ?_⟩
  refine List.forall_mem_cons.mpr ⟨so_iadd dL_law_440 rfl, ?_⟩
  refine List.forall_mem_cons.mpr ⟨so_sld rfl dL_law_441 rfl, ?_⟩
  refine List.forall_mem_cons.mpr ⟨so_cv (T := TX7) (N := 29) dL_law_442 mv_X7_high wm_L_63 (by decide) rfl ⟨rfl, rfl⟩ (by decide) rfl, ?_⟩
  refine List.forall_mem_cons.mpr ⟨so_icmp_eq dL_law_445 (by decide) rfl, ?_⟩
  refine List.forall_mem_cons.mpr ⟨so_iconst dL_law_448 (by decide) rfl, ?_⟩
  refine List.forall_mem_cons.mpr ⟨so_rZ dL_law_449 rfl, ?_⟩
  refine List.forall_mem_cons.mpr ⟨so_aload_n dL_law_450 rfl rfl, ?_⟩
  refine List.forall_mem_cons.mpr ⟨so_aload_n dL_law_451 rfl rfl, ?_⟩
  refine List.forall_mem_cons.mpr ⟨so_iload_n dL_law_452 rfl rfl, ?_⟩
  refine List.forall_mem_cons.mpr ⟨so_iconst dL_law_453 (by decide) rfl, ?_⟩
  refine List.forall_mem_cons.mpr ⟨so_iadd dL_law_454 rfl, ?_⟩
  refine List.forall_mem_cons.mpr ⟨so_sld rfl dL_law_455 rfl, ?_⟩
  refine List.forall_mem_cons.mpr ⟨so_cv (T := TX6) (N := 12) dL_law_456 mv_X6_flood wm_L_64 (by decide) rfl ⟨rfl, rfl⟩ (by decide) rfl, ?_⟩
  refine List.forall_mem_cons.mpr ⟨so_aload_n dL_law_459 rfl rfl, ?_⟩
  refine List.forall_mem_cons.mpr ⟨so_aload_n dL_law_460 rfl rfl, ?_⟩
  refine List.forall_mem_cons.mpr ⟨so_iload_n dL_law_461 rfl rfl, ?_⟩
  refine List.forall_mem_cons.mpr ⟨so_iconst dL_law_462 (by decide) rfl, ?_⟩
  refine List.forall_mem_cons.mpr ⟨so_iadd dL_law_463 rfl, ?_⟩
  refine List.forall_mem_cons.mpr ⟨so_sld rfl dL_law_464 rfl, ?_⟩
  refine List.forall_mem_cons.mpr ⟨so_cv (T := TX7) (N := 29) dL_law_465 mv_X7_flood wm_L_67 (by decide) rfl ⟨rfl, rfl⟩ (by decide) rfl, ?_⟩
  refine List.forall_mem_cons.mpr ⟨so_icmp_eq dL_law_468 (by decide) rfl, ?_⟩
  refine List.forall_mem_cons.mpr ⟨so_iconst dL_law_471 (by decide) rfl, ?_⟩
  refine List.forall_mem_cons.mpr ⟨so_rZ dL_law_472 rfl, ?_⟩
  refine List.forall_mem_cons.mpr ⟨so_aload_n dL_law_473 rfl rfl, ?_⟩
  refine List.forall_mem_cons.mpr ⟨so_aload_n dL_law_474 rfl rfl, ?_⟩
  refine List.forall_mem_cons.mpr ⟨so_iload_n dL_law_475 rfl rfl, ?_⟩
  refine List.forall_mem_cons.mpr ⟨so_iconst dL_law_476 (by decide) rfl, ?_⟩
  refine List.forall_mem_cons.mpr ⟨so_iadd dL_law_477 rfl, ?_⟩
  refine List.forall_mem_cons.mpr ⟨so_sld rfl dL_law_478 rfl, ?_⟩
  refine List.forall_mem_cons.mpr ⟨so_aload_n dL_law_479 rfl rfl, ?_⟩
  refine List.forall_mem_cons.mpr ⟨so_iload_n dL_law_480 rfl rfl, ?_⟩
  refine List.forall_mem_cons.mpr ⟨so_iconst dL_law_481 (by decide) rfl, ?_⟩
  refine List.forall_mem_cons.mpr ⟨so_iadd dL_law_482 rfl, ?_⟩
  refine List.forall_mem_cons.mpr ⟨so_sld rfl dL_law_483 rfl, ?_⟩
  refine List.forall_mem_cons.mpr ⟨so_cv (T := TX6) (N := 12) dL_law_484 mv_X6_where wm_L_68 (by decide) rfl ⟨rfl, rfl⟩ (by decide) rfl, ?_⟩
  refine List.forall_mem_cons.mpr ⟨so_aload_n dL_law_487 rfl rfl, ?_⟩
  refine List.forall_mem_cons.mpr ⟨so_aload_n dL_law_488 rfl rfl, ?_⟩
  refine List.forall_mem_cons.mpr ⟨so_iload_n dL_law_489 rfl rfl, ?_⟩
  refine List.forall_mem_cons.mpr ⟨so_iconst dL_law_490 (by decide) rfl, ?_⟩
  refine List.forall_mem_cons.mpr ⟨so_iadd dL_law_491 rfl, ?_⟩
  refine List.forall_mem_cons.mpr ⟨so_sld rfl dL_law_492 rfl, ?_⟩
  refine List.forall_mem_cons.mpr ⟨so_aload_n dL_law_493 rfl rfl, ?_⟩
  refine List.forall_mem_cons.mpr ⟨so_iload_n dL_law_494 rfl rfl, ?_⟩
  refine List.forall_mem_cons.mpr ⟨so_iconst dL_law_495 (by decide) rfl, ?_⟩
  refine List.forall_mem_cons.mpr ⟨so_iadd dL_law_496 rfl, ?_⟩
  refine List.forall_mem_cons.mpr ⟨so_sld rfl dL_law_497 rfl, ?_⟩
  refine List.forall_mem_cons.mpr ⟨so_cv (T := TX7) (N := 29) dL_law_498 mv_X7_where wm_L_71 (by decide) rfl ⟨rfl, rfl⟩ (by decide) rfl, ?_⟩
  refine List.forall_mem_cons.mpr ⟨so_icmp_eq dL_law_501 (by decide) rfl, ?_⟩
  refine List.forall_mem_cons.mpr ⟨so_iconst dL_law_504 (by decide) rfl, ?_⟩
  refine List.forall_mem_cons.mpr ⟨so_rZ dL_law_505 rfl, ?_⟩
  refine List.forall_mem_cons.mpr ⟨so_aload_n dL_law_506 rfl rfl, ?_⟩
  refine List.forall_mem_cons.mpr ⟨so_aload_n dL_law_507 rfl rfl, ?_⟩
  refine List.forall_mem_cons.mpr ⟨so_iload_n dL_law_508 rfl rfl, ?_⟩
  refine List.forall_mem_cons.mpr ⟨so_iconst dL_law_509 (by decide) rfl, ?_⟩
  refine List.forall_mem_cons.mpr ⟨so_iadd dL_law_510 rfl, ?_⟩
  refine List.forall_mem_cons.mpr ⟨so_sld rfl dL_law_511 rfl, ?_⟩
  refine List.forall_mem_cons.mpr ⟨so_aload_n dL_law_512 rfl rfl, ?_⟩
  refine List.forall_mem_cons.mpr ⟨so_iload_n dL_law_513 rfl rfl, ?_⟩
  refine List.forall_mem_cons.mpr ⟨so_iconst dL_law_514 (by decide) rfl, ?_⟩
  refine List.forall_mem_cons.mpr ⟨so_iadd dL_law_515 rfl, ?_⟩
  refine List.forall_mem_cons.mpr ⟨so_sld rfl dL_law_516 rfl, ?_⟩
  refine List.forall_mem_cons.mpr ⟨so_cv (T := TX6) (N := 12) dL_law_517 mv_X6_when wm_L_72 (by decide) rfl ⟨rfl, rfl⟩ (by decide) rfl, ?_⟩
  refine List.forall_mem_cons.mpr ⟨so_aload_n dL_law_520 rfl rfl, ?_⟩
  refine List.forall_mem_cons.mpr ⟨so_aload_n dL_law_521 rfl rfl, ?_⟩
  refine List.forall_mem_cons.mpr ⟨so_iload_n dL_law_522 rfl rfl, ?_⟩
  refine List.forall_mem_cons.mpr ⟨so_iconst dL_law_523 (by decide) rfl, ?_⟩
  refine List.forall_mem_cons.mpr ⟨so_iadd dL_law_524 rfl, ?_⟩
  refine List.forall_mem_cons.mpr ⟨so_sld rfl dL_law_525 rfl, ?_⟩
  refine List.forall_mem_cons.mpr ⟨so_aload_n dL_law_526 rfl rfl, ?_⟩
  refine List.forall_mem_cons.mpr ⟨so_iload_n dL_law_527 rfl rfl, ?_⟩
  refine List.forall_mem_cons.mpr ⟨so_iconst dL_law_528 (by decide) rfl, ?_⟩
  refine List.forall_mem_cons.mpr ⟨so_iadd dL_law_529 rfl, ?_⟩
  refine List.forall_mem_cons.mpr ⟨so_sld rfl dL_law_530 rfl, ?_⟩
  refine List.forall_mem_cons.mpr ⟨so_cv (T := TX7) (N := 29) dL_law_531 mv_X7_when wm_L_75 (by decide) rfl ⟨rfl, rfl⟩ (by decide) rfl, ?_⟩
  refine List.forall_mem_cons.mpr ⟨so_icmp_eq dL_law_534 (by decide) rfl, ?_⟩
  refine List.forall_mem_cons.mpr ⟨so_iconst dL_law_537 (by decide) rfl, ?_⟩
  refine List.forall_mem_cons.mpr ⟨so_rZ dL_law_538 rfl, ?_⟩
  refine List.forall_mem_cons.mpr ⟨so_aload_n dL_law_539 rfl rfl, ?_⟩
  refine List.forall_mem_cons.mpr ⟨so_aload_n dL_law_540 rfl rfl, ?_⟩
  refine List.forall_mem_cons.mpr ⟨so_iload_n dL_law_541 rfl rfl, ?_⟩
  refine List.forall_mem_cons.mpr ⟨so_iconst dL_law_542 (by decide) rfl, ?_⟩
  refine List.forall_mem_cons.mpr ⟨so_iadd dL_law_543 rfl, ?_⟩
  refine List.forall_mem_cons.mpr ⟨so_sld rfl dL_law_544 rfl, ?_⟩
  refine List.forall_mem_cons.mpr ⟨so_aload_n dL_law_545 rfl rfl, ?_⟩
  refine List.forall_mem_cons.mpr ⟨so_iload_n dL_law_546 rfl rfl, ?_⟩
  refine List.forall_mem_cons.mpr ⟨so_iconst dL_law_547 (by decide) rfl, ?_⟩
  refine List.forall_mem_cons.mpr ⟨so_iadd dL_law_548 rfl, ?_⟩
  refine List.forall_mem_cons.mpr ⟨so_sld rfl dL_law_549 rfl, ?_⟩
  refine List.forall_mem_cons.mpr ⟨so_aload_n dL_law_550 rfl rfl, ?_⟩
  refine List.forall_mem_cons.mpr ⟨so_iload_n dL_law_551 rfl rfl, ?_⟩
  refine List.forall_mem_cons.mpr ⟨so_iconst dL_law_552 (by decide) rfl, ?_⟩
  refine List.forall_mem_cons.mpr ⟨so_iadd dL_law_553 rfl, ?_⟩
  refine List.forall_mem_cons.mpr ⟨so_sld rfl dL_law_554 rfl, ?_⟩
  refine List.forall_mem_cons.mpr ⟨so_cv (T := TX6) (N := 12) dL_law_555 mv_X6_send wm_L_76 (by decide) rfl ⟨rfl, rfl⟩ (by decide) rfl, ?_⟩
  refine List.forall_mem_cons.mpr ⟨so_aload_n dL_law_558 rfl rfl, ?_⟩
  refine List.forall_mem_cons.mpr ⟨so_aload_n dL_law_559 rfl rfl, ?_⟩
  refine List.forall_mem_cons.mpr ⟨so_iload_n dL_law_560 rfl rfl, ?_⟩
  refine List.forall_mem_cons.mpr ⟨so_iconst dL_law_561 (by decide) rfl, ?_⟩
  refine List.forall_mem_cons.mpr ⟨so_iadd dL_law_562 rfl, ?_⟩
  refine List.forall_mem_cons.mpr ⟨so_sld rfl dL_law_563 rfl, ?_⟩
  refine List.forall_mem_cons.mpr ⟨so_aload_n dL_law_564 rfl rfl, ?_⟩
  refine List.forall_mem_cons.mpr ⟨so_iload_n dL_law_565 rfl rfl, ?_⟩
  refine List.forall_mem_cons.mpr ⟨so_iconst dL_law_566 (by decide) rfl, ?_⟩
  refine List.forall_mem_cons.mpr ⟨so_iadd dL_law_567 rfl, ?_⟩
  refine List.forall_mem_cons.mpr ⟨so_sld rfl dL_law_568 rfl, ?_⟩
  refine List.forall_mem_cons.mpr ⟨so_aload_n dL_law_569 rfl rfl, ?_⟩
  refine List.forall_mem_cons.mpr ⟨so_iload_n dL_law_570 rfl rfl, ?_⟩
  refine List.forall_mem_cons.mpr ⟨so_iconst dL_law_571 (by decide) rfl, ?_⟩
  refine List.forall_mem_cons.mpr ⟨so_iadd dL_law_572 rfl, ?_⟩
  refine List.forall_mem_cons.mpr ⟨so_sld rfl dL_law_573 rfl, ?_⟩
  refine List.forall_mem_cons.mpr ⟨so_cv (T := TX7) (N := 29) dL_law_574 mv_X7_send wm_L_80 (by decide) rfl ⟨rfl, rfl⟩ (by decide) rfl, ?_⟩
  refine List.forall_mem_cons.mpr ⟨so_icmp_eq dL_law_577 (by decide) rfl, ?_⟩
  refine List.forall_mem_cons.mpr ⟨so_iconst dL_law_580 (by decide) rfl, ?_⟩
  refine List.forall_mem_cons.mpr ⟨so_rZ dL_law_581 rfl, ?_⟩
  refine List.forall_mem_cons.mpr ⟨so_aload_n dL_law_582 rfl rfl, ?_⟩
  refine List.forall_mem_cons.mpr ⟨so_aload_n dL_law_583 rfl rfl, ?_⟩
  refine List.forall_mem_cons.mpr ⟨so_iload_n dL_law_584 rfl rfl, ?_⟩
  refine List.forall_mem_cons.mpr ⟨so_iconst dL_law_585 (by decide) rfl, ?_⟩
  refine List.forall_mem_cons.mpr ⟨so_iadd dL_law_586 rfl, ?_⟩
  refine List.forall_mem_cons.mpr ⟨so_sld rfl dL_law_587 rfl, ?_⟩
  refine List.forall_mem_cons.mpr ⟨so_aload_n dL_law_588 rfl rfl, ?_⟩
  refine List.forall_mem_cons.mpr ⟨so_iload_n dL_law_589 rfl rfl, ?_⟩
  refine List.forall_mem_cons.mpr ⟨so_iconst dL_law_590 (by decide) rfl, ?_⟩
  refine List.forall_mem_cons.mpr ⟨so_iadd dL_law_591 rfl, ?_⟩
  refine List.forall_mem_cons.mpr ⟨so_sld rfl dL_law_592 rfl, ?_⟩
  refine List.forall_mem_cons.mpr ⟨so_cv (T := TX6) (N := 12) dL_law_593 mv_X6_meet wm_L_81 (by decide) rfl ⟨rfl, rfl⟩ (by decide) rfl, ?_⟩
  refine List.forall_mem_cons.mpr ⟨so_aload_n dL_law_596 rfl rfl, ?_⟩
  refine List.forall_mem_cons.mpr ⟨so_aload_n dL_law_597 rfl rfl, ?_⟩
  refine List.forall_mem_cons.mpr ⟨so_iload_n dL_law_598 rfl rfl, ?_⟩
  refine List.forall_mem_cons.mpr ⟨so_iconst dL_law_599 (by decide) rfl, ?_⟩
  refine List.forall_mem_cons.mpr ⟨so_iadd dL_law_600 rfl, ?_⟩
  refine List.forall_mem_cons.mpr ⟨so_sld rfl dL_law_601 rfl, ?_⟩
  refine List.forall_mem_cons.mpr ⟨so_aload_n dL_law_602 rfl rfl, ?_⟩
  refine List.forall_mem_cons.mpr ⟨so_iload_n dL_law_603 rfl rfl, ?_⟩
  refine List.forall_mem_cons.mpr ⟨so_iconst dL_law_604 (by decide) rfl, ?_⟩
  refine List.forall_mem_cons.mpr ⟨so_iadd dL_law_605 rfl, ?_⟩
  refine List.forall_mem_cons.mpr ⟨so_sld rfl dL_law_606 rfl, ?_⟩
  refine List.forall_mem_cons.mpr ⟨so_cv (T := TX7) (N := 29) dL_law_607 mv_X7_meet wm_L_84 (by decide) rfl ⟨rfl, rfl⟩ (by decide) rfl, ?_⟩
  refine List.forall_mem_cons.mpr ⟨so_icmp_eq dL_law_610 (by decide) rfl, ?_⟩
  refine List.forall_mem_cons.mpr ⟨so_iconst dL_law_613 (by decide) rfl, ?_⟩
  refine List.forall_mem_cons.mpr ⟨so_rZ dL_law_614 rfl, ?_⟩
  refine List.forall_mem_cons.mpr ⟨so_aload_n dL_law_615 rfl rfl, ?_⟩
  refine List.forall_mem_cons.mpr ⟨so_aload_n dL_law_616 rfl rfl, ?_⟩
  refine List.forall_mem_cons.mpr ⟨so_iload_n dL_law_617 rfl rfl, ?_⟩
  refine List.forall_mem_cons.mpr ⟨so_iconst dL_law_618 (by decide) rfl, ?_⟩
  refine List.forall_mem_cons.mpr ⟨so_iadd dL_law_619 rfl, ?_⟩
  refine List.forall_mem_cons.mpr ⟨so_sld rfl dL_law_620 rfl, ?_⟩
  refine List.forall_mem_cons.mpr ⟨so_cv (T := TX6) (N := 12) dL_law_621 mv_X6_round wm_L_85 (by decide) rfl ⟨rfl, rfl⟩ (by decide) rfl, ?_⟩
  refine List.forall_mem_cons.mpr ⟨so_aload_n dL_law_624 rfl rfl, ?_⟩
  refine List.forall_mem_cons.mpr ⟨so_aload_n dL_law_625 rfl rfl, ?_⟩
  refine List.forall_mem_cons.mpr ⟨so_iload_n dL_law_626 rfl rfl, ?_⟩
  refine List.forall_mem_cons.mpr ⟨so_iconst dL_law_627 (by decide) rfl, ?_⟩
  refine List.forall_mem_cons.mpr ⟨so_iadd dL_law_628 rfl, ?_⟩
  refine List.forall_mem_cons.mpr ⟨so_sld rfl dL_law_629 rfl, ?_⟩
  refine List.forall_mem_cons.mpr ⟨so_cv (T := TX7) (N := 29) dL_law_630 mv_X7_round wm_L_88 (by decide) rfl ⟨rfl, rfl⟩ (by decide) rfl, ?_⟩
  refine List.forall_mem_cons.mpr ⟨so_icmp_eq dL_law_633 (by decide) rfl, ?_⟩
  refine List.forall_mem_cons.mpr ⟨so_iconst dL_law_636 (by decide) rfl, ?_⟩
  refine List.forall_mem_cons.mpr ⟨so_rZ dL_law_637 rfl, ?_⟩
  refine List.forall_mem_cons.mpr ⟨so_aload_n dL_law_638 rfl rfl, ?_⟩
  refine List.forall_mem_cons.mpr ⟨so_aload_n dL_law_639 rfl rfl, ?_⟩
  refine List.forall_mem_cons.mpr ⟨so_iload_n dL_law_640 rfl rfl, ?_⟩
  refine List.forall_mem_cons.mpr ⟨so_iconst dL_law_641 (by decide) rfl, ?_⟩
  refine List.forall_mem_cons.mpr ⟨so_iadd dL_law_642 rfl, ?_⟩
  refine List.forall_mem_cons.mpr ⟨so_sld rfl dL_law_643 rfl, ?_⟩
  refine List.forall_mem_cons.mpr ⟨so_aload_n dL_law_644 rfl rfl, ?_⟩
  refine List.forall_mem_cons.mpr ⟨so_iload_n dL_law_645 rfl rfl, ?_⟩
  refine List.forall_mem_cons.mpr ⟨so_iconst dL_law_646 (by decide) rfl, ?_⟩
  refine List.forall_mem_cons.mpr ⟨so_iadd dL_law_647 rfl, ?_⟩
  refine List.forall_mem_cons.mpr ⟨so_sld rfl dL_law_648 rfl, ?_⟩
  refine List.forall_mem_cons.mpr ⟨so_aload_n dL_law_649 rfl rfl, ?_⟩
  refine List.forall_mem_cons.mpr ⟨so_iload_n dL_law_650 rfl rfl, ?_⟩
  refine List.forall_mem_cons.mpr ⟨so_iconst dL_law_651 (by decide) rfl, ?_⟩
  refine List.forall_mem_cons.mpr ⟨so_iadd dL_law_652 rfl, ?_⟩
  refine List.forall_mem_cons.mpr ⟨so_sld rfl dL_law_653 rfl, ?_⟩
  refine List.forall_mem_cons.mpr ⟨so_aload_n dL_law_654 rfl rfl, ?_⟩
  refine List.forall_mem_cons.mpr ⟨so_iload_n dL_law_655 rfl rfl, ?_⟩
  refine List.forall_mem_cons.mpr ⟨so_iconst dL_law_656 (by decide) rfl, ?_⟩
  refine List.forall_mem_cons.mpr ⟨so_iadd dL_law_657 rfl, ?_⟩
  refine List.forall_mem_cons.mpr ⟨so_sld rfl dL_law_658 rfl, ?_⟩
  refine List.forall_mem_cons.mpr ⟨so_aload_n dL_law_659 rfl rfl, ?_⟩
  refine List.forall_mem_cons.mpr ⟨so_iload_n dL_law_660 rfl rfl, ?_⟩
  refine List.forall_mem_cons.mpr ⟨so_iconst dL_law_661 (by decide) rfl, ?_⟩
  refine List.forall_mem_cons.mpr ⟨so_iadd dL_law_662 rfl, ?_⟩
  refine List.forall_mem_cons.mpr ⟨so_sld rfl dL_law_663 rfl, ?_⟩
  refine List.forall_mem_cons.mpr ⟨so_cv (T := TX6) (N := 12) dL_law_664 mv_X6_odds wm_L_89 (by decide) rfl ⟨rfl, rfl⟩ (by decide) rfl, ?_⟩
  refine List.forall_mem_cons.mpr ⟨so_aload_n dL_law_667 rfl rfl, ?_⟩
  refine List.forall_mem_cons.mpr ⟨so_aload_n dL_law_668 rfl rfl, ?_⟩
  refine List.forall_mem_cons.mpr ⟨so_iload_n dL_law_669 rfl rfl, ?_⟩
  refine List.forall_mem_cons.mpr ⟨so_iconst dL_law_670 (by decide) rfl, ?_⟩
  refine List.forall_mem_cons.mpr ⟨so_iadd dL_law_671 rfl, ?_⟩
  refine List.forall_mem_cons.mpr ⟨so_sld rfl dL_law_672 rfl, ?_⟩
  refine List.forall_mem_cons.mpr ⟨so_aload_n dL_law_673 rfl rfl, ?_⟩
  refine List.forall_mem_cons.mpr ⟨so_iload_n dL_law_674 rfl rfl, ?_⟩
  refine List.forall_mem_cons.mpr ⟨so_iconst dL_law_675 (by decide) rfl, ?_⟩
  refine List.forall_mem_cons.mpr ⟨so_iadd dL_law_676 rfl, ?_⟩
  refine List.forall_mem_cons.mpr ⟨so_sld rfl dL_law_677 rfl, ?_⟩
  refine List.forall_mem_cons.mpr ⟨so_aload_n dL_law_678 rfl rfl, ?_⟩
  refine List.forall_mem_cons.mpr ⟨so_iload_n dL_law_679 rfl rfl, ?_⟩
  refine List.forall_mem_cons.mpr ⟨so_iconst dL_law_680 (by decide) rfl, ?_⟩
  refine List.forall_mem_cons.mpr ⟨so_iadd dL_law_681 rfl, ?_⟩
  refine List.forall_mem_cons.mpr ⟨so_sld rfl dL_law_682 rfl, ?_⟩
  refine List.forall_mem_cons.mpr ⟨so_aload_n dL_law_683 rfl rfl, ?_⟩
  refine List.forall_mem_cons.mpr ⟨so_iload_n dL_law_684 rfl rfl, ?_⟩
  refine List.forall_mem_cons.mpr ⟨so_iconst dL_law_685 (by decide) rfl, ?_⟩
  refine List.forall_mem_cons.mpr ⟨so_iadd dL_law_686 rfl, ?_⟩
  refine List.forall_mem_cons.mpr ⟨so_sld rfl dL_law_687 rfl, ?_⟩
  refine List.forall_mem_cons.mpr ⟨so_aload_n dL_law_688 rfl rfl, ?_⟩
  refine List.forall_mem_cons.mpr ⟨so_iload_n dL_law_689 rfl rfl, ?_⟩
  refine List.forall_mem_cons.mpr ⟨so_iconst dL_law_690 (by decide) rfl, ?_⟩
  refine List.forall_mem_cons.mpr ⟨so_iadd dL_law_691 rfl, ?_⟩
  refine List.forall_mem_cons.mpr ⟨so_sld rfl dL_law_692 rfl, ?_⟩
  refine List.forall_mem_cons.mpr ⟨so_cv (T := TX7) (N := 29) dL_law_693 mv_X7_odds wm_L_93 (by decide) rfl ⟨rfl, rfl⟩ (by decide) rfl, ?_⟩
  refine List.forall_mem_cons.mpr ⟨so_icmp_eq dL_law_696 (by decide) rfl, ?_⟩
  refine List.forall_mem_cons.mpr ⟨so_iconst dL_law_699 (by decide) rfl, ?_⟩
  refine List.forall_mem_cons.mpr ⟨so_rZ dL_law_700 rfl, ?_⟩
  refine List.forall_mem_cons.mpr ⟨so_aload_n dL_law_701 rfl rfl, ?_⟩
  refine List.forall_mem_cons.mpr ⟨so_aload_n dL_law_702 rfl rfl, ?_⟩
  refine List.forall_mem_cons.mpr ⟨so_iload_n dL_law_703 rfl rfl, ?_⟩
  refine List.forall_mem_cons.mpr ⟨so_iconst dL_law_704 (by decide) rfl, ?_⟩
  refine List.forall_mem_cons.mpr ⟨so_iadd dL_law_705 rfl, ?_⟩
  refine List.forall_mem_cons.mpr ⟨so_sld rfl dL_law_706 rfl, ?_⟩
  refine List.forall_mem_cons.mpr ⟨so_aload_n dL_law_707 rfl rfl, ?_⟩
  refine List.forall_mem_cons.mpr ⟨so_iload_n dL_law_708 rfl rfl, ?_⟩
  refine List.forall_mem_cons.mpr ⟨so_iconst dL_law_709 (by decide) rfl, ?_⟩
  refine List.forall_mem_cons.mpr ⟨so_iadd dL_law_710 rfl, ?_⟩
  refine List.forall_mem_cons.mpr ⟨so_sld rfl dL_law_711 rfl, ?_⟩
  refine List.forall_mem_cons.mpr ⟨so_cv (T := TX6) (N := 12) dL_law_712 mv_X6_found wm_L_94 (by decide) rfl ⟨rfl, rfl⟩ (by decide) rfl, ?_⟩
  refine List.forall_mem_cons.mpr ⟨so_aload_n dL_law_715 rfl rfl, ?_⟩
  refine List.forall_mem_cons.mpr ⟨so_aload_n dL_law_716 rfl rfl, ?_⟩
  refine List.forall_mem_cons.mpr ⟨so_iload_n dL_law_717 rfl rfl, ?_⟩
  refine List.forall_mem_cons.mpr ⟨so_iconst dL_law_718 (by decide) rfl, ?_⟩
  refine List.forall_mem_cons.mpr ⟨so_iadd dL_law_719 rfl, ?_⟩
  refine List.forall_mem_cons.mpr ⟨so_sld rfl dL_law_720 rfl, ?_⟩
  refine List.forall_mem_cons.mpr ⟨so_aload_n dL_law_721 rfl rfl, ?_⟩
  refine List.forall_mem_cons.mpr ⟨so_iload_n dL_law_722 rfl rfl, ?_⟩
  refine List.forall_mem_cons.mpr ⟨so_iconst dL_law_723 (by decide) rfl, ?_⟩
  refine List.forall_mem_cons.mpr ⟨so_iadd dL_law_724 rfl, ?_⟩
  refine List.forall_mem_cons.mpr ⟨so_sld rfl dL_law_725 rfl, ?_⟩
  refine List.forall_mem_cons.mpr ⟨so_cv (T := TX7) (N := 29) dL_law_726 mv_X7_found wm_L_97 (by decide) rfl ⟨rfl, rfl⟩ (by decide) rfl, ?_⟩
  refine List.forall_mem_cons.mpr ⟨so_icmp_eq dL_law_729 (by decide) rfl, ?_⟩
  refine List.forall_mem_cons.mpr ⟨so_iconst dL_law_732 (by decide) rfl, ?_⟩
  refine List.forall_mem_cons.mpr ⟨so_rZ dL_law_733 rfl, ?_⟩
  refine List.forall_mem_cons.mpr ⟨so_aload_n dL_law_734 rfl rfl, ?_⟩
  refine List.forall_mem_cons.mpr ⟨so_cv (T := TX6) (N := 12) dL_law_735 mv_X6_began wm_L_98 (by decide) rfl ⟨rfl, rfl⟩ (by decide) rfl, ?_⟩
  refine List.forall_mem_cons.mpr ⟨so_aload_n dL_law_738 rfl rfl, ?_⟩
  refine List.forall_mem_cons.mpr ⟨so_cv (T := TX7) (N := 29) dL_law_739 mv_X7_began wm_L_101 (by decide) rfl ⟨rfl, rfl⟩ (by decide) rfl, ?_⟩
  refine List.forall_mem_cons.mpr ⟨so_icmp_eq dL_law_742 (by decide) rfl, ?_⟩
  refine List.forall_mem_cons.mpr ⟨so_iconst dL_law_745 (by decide) rfl, ?_⟩
  refine List.forall_mem_cons.mpr ⟨so_rZ dL_law_746 rfl, ?_⟩
  refine List.forall_mem_cons.mpr ⟨so_aload_n dL_law_747 rfl rfl, ?_⟩
  refine List.forall_mem_cons.mpr ⟨so_aload_n dL_law_748 rfl rfl, ?_⟩
  refine List.forall_mem_cons.mpr ⟨so_iload_n dL_law_749 rfl rfl, ?_⟩
  refine List.forall_mem_cons.mpr ⟨so_iconst dL_law_750 (by decide) rfl, ?_⟩
  refine List.forall_mem_cons.mpr ⟨so_iadd dL_law_751 rfl, ?_⟩
  refine List.forall_mem_cons.mpr ⟨so_sld rfl dL_law_752 rfl, ?_⟩
  refine List.forall_mem_cons.mpr ⟨so_aload_n dL_law_753 rfl rfl, ?_⟩
  refine List.forall_mem_cons.mpr ⟨so_iload_n dL_law_754 rfl rfl, ?_⟩
  refine List.forall_mem_cons.mpr ⟨so_iconst dL_law_755 (by decide) rfl, ?_⟩
  refine List.forall_mem_cons.mpr ⟨so_iadd dL_law_756 rfl, ?_⟩
  refine List.forall_mem_cons.mpr ⟨so_sld rfl dL_law_757 rfl, ?_⟩
  refine List.forall_mem_cons.mpr ⟨so_cv (T := TX6) (N := 12) dL_law_758 mv_X6_saw wm_L_102 (by decide) rfl ⟨rfl, rfl⟩ (by decide) rfl, ?_⟩
  refine List.forall_mem_cons.mpr ⟨so_aload_n dL_law_761 rfl rfl, ?_⟩
  refine List.forall_mem_cons.mpr ⟨so_aload_n dL_law_762 rfl rfl, ?_⟩
  refine List.forall_mem_cons.mpr ⟨so_iload_n dL_law_763 rfl rfl, ?_⟩
  refine List.forall_mem_cons.mpr ⟨so_iconst dL_law_764 (by decide) rfl, ?_⟩
  refine List.forall_mem_cons.mpr ⟨so_iadd dL_law_765 rfl, ?_⟩
  refine List.forall_mem_cons.mpr ⟨so_sld rfl dL_law_766 rfl, ?_⟩
  refine List.forall_mem_cons.mpr ⟨so_aload_n dL_law_767 rfl rfl, ?_⟩
  refine List.forall_mem_cons.mpr ⟨so_iload_n dL_law_768 rfl rfl, ?_⟩
  refine List.forall_mem_cons.mpr ⟨so_iconst dL_law_769 (by decide) rfl, ?_⟩
  refine List.forall_mem_cons.mpr ⟨so_iadd dL_law_770 rfl, ?_⟩
  refine List.forall_mem_cons.mpr ⟨so_sld rfl dL_law_771 rfl, ?_⟩
  refine List.forall_mem_cons.mpr ⟨so_cv (T := TX7) (N := 29) dL_law_772 mv_X7_saw wm_L_105 (by decide) rfl ⟨rfl, rfl⟩ (by decide) rfl, ?_⟩
  refine List.forall_mem_cons.mpr ⟨so_icmp_eq dL_law_775 (by decide) rfl, ?_⟩
  refine List.forall_mem_cons.mpr ⟨so_iconst dL_law_778 (by decide) rfl, ?_⟩
  refine List.forall_mem_cons.mpr ⟨so_rZ dL_law_779 rfl, ?_⟩
  refine List.forall_mem_cons.mpr ⟨so_aload_n dL_law_780 rfl rfl, ?_⟩
  refine List.forall_mem_cons.mpr ⟨so_aload_n dL_law_781 rfl rfl, ?_⟩
  refine List.forall_mem_cons.mpr ⟨so_iload_n dL_law_782 rfl rfl, ?_⟩
  refine List.forall_mem_cons.mpr ⟨so_iconst dL_law_783 (by decide) rfl, ?_⟩
  refine List.forall_mem_cons.mpr ⟨so_iadd dL_law_784 rfl, ?_⟩
  refine List.forall_mem_cons.mpr ⟨so_sld rfl dL_law_785 rfl, ?_⟩
  refine List.forall_mem_cons.mpr ⟨so_cv (T := TX6) (N := 12) dL_law_786 mv_X6_laws wm_L_106 (by decide) rfl ⟨rfl, rfl⟩ (by decide) rfl, ?_⟩
  refine List.forall_mem_cons.mpr ⟨so_aload_n dL_law_789 rfl rfl, ?_⟩
  refine List.forall_mem_cons.mpr ⟨so_aload_n dL_law_790 rfl rfl, ?_⟩
  refine List.forall_mem_cons.mpr ⟨so_iload_n dL_law_791 rfl rfl, ?_⟩
  refine List.forall_mem_cons.mpr ⟨so_iconst dL_law_792 (by decide) rfl, ?_⟩
  refine List.forall_mem_cons.mpr ⟨so_iadd dL_law_793 rfl, ?_⟩
  refine List.forall_mem_cons.mpr ⟨so_sld rfl dL_law_794 rfl, ?_⟩
  refine List.forall_mem_cons.mpr ⟨so_cv (T := TX7) (N := 29) dL_law_795 mv_X7_laws wm_L_109 (by decide) rfl ⟨rfl, rfl⟩ (by decide) rfl, ?_⟩
  refine List.forall_mem_cons.mpr ⟨so_icmp_eq dL_law_798 (by decide) rfl, ?_⟩
  refine List.forall_mem_cons.mpr ⟨so_iconst dL_law_801 (by decide) rfl, ?_⟩
  refine List.forall_mem_cons.mpr ⟨so_rZ dL_law_802 rfl, ?_⟩
  refine List.forall_mem_cons.mpr ⟨so_aload_n dL_law_803 rfl rfl, ?_⟩
  refine List.forall_mem_cons.mpr ⟨so_cv (T := TX6) (N := 12) dL_law_804 mv_X6_forget wm_L_110 (by decide) rfl ⟨rfl, rfl⟩ (by decide) rfl, ?_⟩
  refine List.forall_mem_cons.mpr ⟨so_aload_n dL_law_807 rfl rfl, ?_⟩
  refine List.forall_mem_cons.mpr ⟨so_cv (T := TX7) (N := 29) dL_law_808 mv_X7_forget wm_L_113 (by decide) rfl ⟨rfl, rfl⟩ (by decide) rfl, ?_⟩
  refine List.forall_mem_cons.mpr ⟨so_icmp_eq dL_law_811 (by decide) rfl, ?_⟩
  refine List.forall_mem_cons.mpr ⟨so_iconst dL_law_814 (by decide) rfl, ?_⟩
  refine List.forall_mem_cons.mpr ⟨so_rZ dL_law_815 rfl, ?_⟩
  refine List.forall_mem_cons.mpr ⟨so_aload_n dL_law_816 rfl rfl, ?_⟩
  refine List.forall_mem_cons.mpr ⟨so_aload_n dL_law_817 rfl rfl, ?_⟩
  refine List.forall_mem_cons.mpr ⟨so_iload_n dL_law_818 rfl rfl, ?_⟩
  refine List.forall_mem_cons.mpr ⟨so_iconst dL_law_819 (by decide) rfl, ?_⟩
  refine List.forall_mem_cons.mpr ⟨so_iadd dL_law_820 rfl, ?_⟩
  refine List.forall_mem_cons.mpr ⟨so_sld rfl dL_law_821 rfl, ?_⟩
  refine List.forall_mem_cons.mpr ⟨so_aload_n dL_law_822 rfl rfl, ?_⟩
  refine List.forall_mem_cons.mpr ⟨so_iload_n dL_law_823 rfl rfl, ?_⟩
  refine List.forall_mem_cons.mpr ⟨so_iconst dL_law_824 (by decide) rfl, ?_⟩
  refine List.forall_mem_cons.mpr ⟨so_iadd dL_law_825 rfl, ?_⟩
  refine List.forall_mem_cons.mpr ⟨so_sld rfl dL_law_826 rfl, ?_⟩
  refine List.forall_mem_cons.mpr ⟨so_cv (T := TX6) (N := 12) dL_law_827 mv_X6_rate wm_L_114 (by decide) rfl ⟨rfl, rfl⟩ (by decide) rfl, ?_⟩
  refine List.forall_mem_cons.mpr ⟨so_aload_n dL_law_830 rfl rfl, ?_⟩
  refine List.forall_mem_cons.mpr ⟨so_aload_n dL_law_831 rfl rfl, ?_⟩
  refine List.forall_mem_cons.mpr ⟨so_iload_n dL_law_832 rfl rfl, ?_⟩
  refine List.forall_mem_cons.mpr ⟨so_iconst dL_law_833 (by decide) rfl, ?_⟩
  refine List.forall_mem_cons.mpr ⟨so_iadd dL_law_834 rfl, ?_⟩
  refine List.forall_mem_cons.mpr ⟨so_sld rfl dL_law_835 rfl, ?_⟩
  refine List.forall_mem_cons.mpr ⟨so_aload_n dL_law_836 rfl rfl, ?_⟩
  refine List.forall_mem_cons.mpr ⟨so_iload_n dL_law_837 rfl rfl, ?_⟩
  refine List.forall_mem_cons.mpr ⟨so_iconst dL_law_838 (by decide) rfl, ?_⟩
  refine List.forall_mem_cons.mpr ⟨so_iadd dL_law_839 rfl, ?_⟩
  refine List.forall_mem_cons.mpr ⟨so_sld rfl dL_law_840 rfl, ?_⟩
  refine List.forall_mem_cons.mpr ⟨so_cv (T := TX7) (N := 29) dL_law_841 mv_X7_rate wm_L_117 (by decide) rfl ⟨rfl, rfl⟩ (by decide) rfl, ?_⟩
  refine List.forall_mem_cons.mpr ⟨so_icmp_eq dL_law_844 (by decide) rfl, ?_⟩
  refine List.forall_mem_cons.mpr ⟨so_iconst dL_law_847 (by decide) rfl, ?_⟩
  refine List.forall_mem_cons.mpr ⟨so_rZ dL_law_848 rfl, ?_⟩
  refine List.forall_mem_cons.mpr ⟨so_aload_n dL_law_849 rfl rfl, ?_⟩
  refine List.forall_mem_cons.mpr ⟨so_aload_n dL_law_850 rfl rfl, ?_⟩
  refine List.forall_mem_cons.mpr ⟨so_iload_n dL_law_851 rfl rfl, ?_⟩
  refine List.forall_mem_cons.mpr ⟨so_iconst dL_law_852 (by decide) rfl, ?_⟩
  refine List.forall_mem_cons.mpr ⟨so_iadd dL_law_853 rfl, ?_⟩
  refine List.forall_mem_cons.mpr ⟨so_sld rfl dL_law_854 rfl, ?_⟩
  refine List.forall_mem_cons.mpr ⟨so_cv (T := TX6) (N := 12) dL_law_855 mv_X6_keep wm_L_118 (by decide) rfl ⟨rfl, rfl⟩ (by decide) rfl, ?_⟩
  refine List.forall_mem_cons.mpr ⟨so_aload_n dL_law_858 rfl rfl, ?_⟩
  refine List.forall_mem_cons.mpr ⟨so_aload_n dL_law_859 rfl rfl, ?_⟩
  refine List.forall_mem_cons.mpr ⟨so_iload_n dL_law_860 rfl rfl, ?_⟩
  refine List.forall_mem_cons.mpr ⟨so_iconst dL_law_861 (by decide) rfl, ?_⟩
  refine List.forall_mem_cons.mpr ⟨so_iadd dL_law_862 rfl, ?_⟩
  refine List.forall_mem_cons.mpr ⟨so_sld rfl dL_law_863 rfl, ?_⟩
  refine List.forall_mem_cons.mpr ⟨so_cv (T := TX7) (N := 29) dL_law_864 mv_X7_keep wm_L_121 (by decide) rfl ⟨rfl, rfl⟩ (by decide) rfl, ?_⟩
  refine List.forall_mem_cons.mpr ⟨so_icmp_eq dL_law_867 (by decide) rfl, ?_⟩
  refine List.forall_mem_cons.mpr ⟨so_iconst dL_law_870 (by decide) rfl, ?_⟩
  refine List.forall_mem_cons.mpr ⟨so_rZ dL_law_871 rfl, ?_⟩
  refine List.forall_mem_cons.mpr ⟨so_aload_n dL_law_872 rfl rfl, ?_⟩
  refine List.forall_mem_cons.mpr ⟨so_aload_n dL_law_873 rfl rfl, ?_⟩
  refine List.forall_mem_cons.mpr ⟨so_iload_n dL_law_874 rfl rfl, ?_⟩
  refine List.forall_mem_cons.mpr ⟨so_iconst dL_law_875 (by decide) rfl, ?_⟩
  refine List.forall_mem_cons.mpr ⟨so_iadd dL_law_876 rfl, ?_⟩
  refine List.forall_mem_cons.mpr ⟨so_sld rfl dL_law_877 rfl, ?_⟩
  refine List.forall_mem_cons.mpr ⟨so_cv (T := TX6) (N := 12) dL_law_878 mv_X6_back wm_L_122 (by decide) rfl ⟨rfl, rfl⟩ (by decide) rfl, ?_⟩
  refine List.forall_mem_cons.mpr ⟨so_aload_n dL_law_881 rfl rfl, ?_⟩
  refine List.forall_mem_cons.mpr ⟨so_aload_n dL_law_882 rfl rfl, ?_⟩
  refine List.forall_mem_cons.mpr ⟨so_iload_n dL_law_883 rfl rfl, ?_⟩
  refine List.forall_mem_cons.mpr ⟨so_iconst dL_law_884 (by decide) rfl, ?_⟩
  refine List.forall_mem_cons.mpr ⟨so_iadd dL_law_885 rfl, ?_⟩
  refine List.forall_mem_cons.mpr ⟨so_sld rfl dL_law_886 rfl, ?_⟩
  refine List.forall_mem_cons.mpr ⟨so_cv (T := TX7) (N := 29) dL_law_887 mv_X7_back wm_L_125 (by decide) rfl ⟨rfl, rfl⟩ (by decide) rfl, ?_⟩
  refine List.forall_mem_cons.mpr ⟨so_icmp_eq dL_law_890 (by decide) rfl, ?_⟩
  refine List.forall_mem_cons.mpr ⟨so_iconst dL_law_893 (by decide) rfl, ?_⟩
  refine List.forall_mem_cons.mpr ⟨so_rZ dL_law_894 rfl, ?_⟩
  refine List.forall_mem_cons.mpr ⟨so_aload_n dL_law_895 rfl rfl, ?_⟩
  refine List.forall_mem_cons.mpr ⟨so_aload_n dL_law_896 rfl rfl, ?_⟩
  refine List.forall_mem_cons.mpr ⟨so_iload_n dL_law_897 rfl rfl, ?_⟩
  refine List.forall_mem_cons.mpr ⟨so_iconst dL_law_898 (by decide) rfl, ?_⟩
  refine List.forall_mem_cons.mpr ⟨so_iadd dL_law_899 rfl, ?_⟩
  refine List.forall_mem_cons.mpr ⟨so_sld rfl dL_law_900 rfl, ?_⟩
  refine List.forall_mem_cons.mpr ⟨so_cv (T := TX6) (N := 12) dL_law_901 mv_X6_count wm_L_126 (by decide) rfl ⟨rfl, rfl⟩ (by decide) rfl, ?_⟩
  refine List.forall_mem_cons.mpr ⟨so_aload_n dL_law_904 rfl rfl, ?_⟩
  refine List.forall_mem_cons.mpr ⟨so_aload_n dL_law_905 rfl rfl, ?_⟩
  refine List.forall_mem_cons.mpr ⟨so_iload_n dL_law_906 rfl rfl, ?_⟩
  refine List.forall_mem_cons.mpr ⟨so_iconst dL_law_907 (by decide) rfl, ?_⟩
  refine List.forall_mem_cons.mpr ⟨so_iadd dL_law_908 rfl, ?_⟩
  refine List.forall_mem_cons.mpr ⟨so_sld rfl dL_law_909 rfl, ?_⟩
  refine List.forall_mem_cons.mpr ⟨so_cv (T := TX7) (N := 29) dL_law_910 mv_X7_count wm_L_129 (by decide) rfl ⟨rfl, rfl⟩ (by decide) rfl, ?_⟩
  refine List.forall_mem_cons.mpr ⟨so_icmp_eq dL_law_913 (by decide) rfl, ?_⟩
  refine List.forall_mem_cons.mpr ⟨so_iconst dL_law_916 (by decide) rfl, ?_⟩
  refine List.forall_mem_cons.mpr ⟨so_rZ dL_law_917 rfl, ?_⟩
  refine List.forall_mem_cons.mpr ⟨so_aload_n dL_law_918 rfl rfl, ?_⟩
  refine List.forall_mem_cons.mpr ⟨so_cv (T := TX6) (N := 12) dL_law_919 mv_X6_trace wm_L_130 (by decide) rfl ⟨rfl, rfl⟩ (by decide) rfl, ?_⟩
  refine List.forall_mem_cons.mpr ⟨so_aload_n dL_law_922 rfl rfl, ?_⟩
  refine List.forall_mem_cons.mpr ⟨so_cv (T := TX7) (N := 29) dL_law_923 mv_X7_trace wm_L_134 (by decide) rfl ⟨rfl, rfl⟩ (by decide) rfl, ?_⟩
  refine List.forall_mem_cons.mpr ⟨so_lcmp dL_law_926 rfl, ?_⟩
  refine List.forall_mem_cons.mpr ⟨so_if_eq dL_law_927 (by decide) rfl, ?_⟩
  refine List.forall_mem_cons.mpr ⟨so_iconst dL_law_930 (by decide) rfl, ?_⟩
  refine List.forall_mem_cons.mpr ⟨so_rZ dL_law_931 rfl, ?_⟩
  refine List.forall_mem_cons.mpr ⟨so_iinc dL_law_932 (by decide) rfl, ?_⟩
  refine List.forall_mem_cons.mpr ⟨so_goto dL_law_935 (by decide), ?_⟩
  refine List.forall_mem_cons.mpr ⟨so_iconst dL_law_938 (by decide) rfl, ?_⟩
  refine List.forall_mem_cons.mpr ⟨so_rZ dL_law_939 rfl, ?_⟩
  exact fun _ h => absurd h List.not_mem_nil
