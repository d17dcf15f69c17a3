theorem dX7_towns_0 : decode cX7_towns 0 = .ok (.aload_n 0, 1) := by decide +kernel
theorem dX7_towns_1 : decode cX7_towns 1 = .ok (.iconst 0, 1) := by decide +kernel
theorem dX7_towns_2 : decode cX7_towns 2 = .ok (.putfield 62, 3) := by decide +kernel
theorem dX7_towns_5 : decode cX7_towns 5 = .ok (.aload_n 0, 1) := by decide +kernel
theorem dX7_towns_6 : decode cX7_towns 6 = .ok (.iconst (-1), 1) := by decide +kernel
theorem dX7_towns_7 : decode cX7_towns 7 = .ok (.putfield 89, 3) := by decide +kernel
theorem dX7_towns_10 : decode cX7_towns 10 = .ok (.aload_n 0, 1) := by decide +kernel
theorem dX7_towns_11 : decode cX7_towns 11 = .ok (.iconst 0, 1) := by decide +kernel
theorem dX7_towns_12 : decode cX7_towns 12 = .ok (.putfield 73, 3) := by decide +kernel
theorem dX7_towns_15 : decode cX7_towns 15 = .ok (.aload_n 0, 1) := by decide +kernel
theorem dX7_towns_16 : decode cX7_towns 16 = .ok (.invokevirtual 56, 3) := by decide +kernel
theorem dX7_towns_19 : decode cX7_towns 19 = .ok (.iconst 0, 1) := by decide +kernel
theorem dX7_towns_20 : decode cX7_towns 20 = .ok (.istore_n 1, 1) := by decide +kernel
theorem dX7_towns_21 : decode cX7_towns 21 = .ok (.aload_n 0, 1) := by decide +kernel
theorem dX7_towns_22 : decode cX7_towns 22 = .ok (.invokevirtual 96, 3) := by decide +kernel
theorem dX7_towns_25 : decode cX7_towns 25 = .ok (.aload_n 0, 1) := by decide +kernel
theorem dX7_towns_26 : decode cX7_towns 26 = .ok (.invokevirtual 92, 3) := by decide +kernel
theorem dX7_towns_29 : decode cX7_towns 29 = .ok (.ifCond .eq 71, 3) := by decide +kernel
theorem dX7_towns_32 : decode cX7_towns 32 = .ok (.aload_n 0, 1) := by decide +kernel
theorem dX7_towns_33 : decode cX7_towns 33 = .ok (.getfield 83, 3) := by decide +kernel
theorem dX7_towns_36 : decode cX7_towns 36 = .ok (.ifCond .eq 64, 3) := by decide +kernel
theorem dX7_towns_39 : decode cX7_towns 39 = .ok (.aload_n 0, 1) := by decide +kernel
theorem dX7_towns_40 : decode cX7_towns 40 = .ok (.aload_n 0, 1) := by decide +kernel
theorem dX7_towns_41 : decode cX7_towns 41 = .ok (.getfield 83, 3) := by decide +kernel
theorem dX7_towns_44 : decode cX7_towns 44 = .ok (.iconst 1, 1) := by decide +kernel
theorem dX7_towns_45 : decode cX7_towns 45 = .ok (.if_icmp .ne 14, 3) := by decide +kernel
theorem dX7_towns_48 : decode cX7_towns 48 = .ok (.aload_n 0, 1) := by decide +kernel
theorem dX7_towns_49 : decode cX7_towns 49 = .ok (.invokevirtual 111, 3) := by decide +kernel
theorem dX7_towns_52 : decode cX7_towns 52 = .ok (.ifCond .eq 7, 3) := by decide +kernel
theorem dX7_towns_55 : decode cX7_towns 55 = .ok (.iconst 1, 1) := by decide +kernel
theorem dX7_towns_56 : decode cX7_towns 56 = .ok (.goto 4, 3) := by decide +kernel
theorem dX7_towns_59 : decode cX7_towns 59 = .ok (.iconst 0, 1) := by decide +kernel
theorem dX7_towns_60 : decode cX7_towns 60 = .ok (.invokevirtual 99, 3) := by decide +kernel
theorem dX7_towns_63 : decode cX7_towns 63 = .ok (.istore_n 2, 1) := by decide +kernel
theorem dX7_towns_64 : decode cX7_towns 64 = .ok (.aload_n 0, 1) := by decide +kernel
theorem dX7_towns_65 : decode cX7_towns 65 = .ok (.invokevirtual 92, 3) := by decide +kernel
theorem dX7_towns_68 : decode cX7_towns 68 = .ok (.ifCond .eq 8, 3) := by decide +kernel
theorem dX7_towns_71 : decode cX7_towns 71 = .ok (.aload_n 0, 1) := by decide +kernel
theorem dX7_towns_72 : decode cX7_towns 72 = .ok (.iload_n 2, 1) := by decide +kernel
theorem dX7_towns_73 : decode cX7_towns 73 = .ok (.invokevirtual 114, 3) := by decide +kernel
theorem dX7_towns_76 : decode cX7_towns 76 = .ok (.aload_n 0, 1) := by decide +kernel
theorem dX7_towns_77 : decode cX7_towns 77 = .ok (.aload_n 0, 1) := by decide +kernel
theorem dX7_towns_78 : decode cX7_towns 78 = .ok (.getfield 83, 3) := by decide +kernel
theorem dX7_towns_81 : decode cX7_towns 81 = .ok (.iconst 3, 1) := by decide +kernel
theorem dX7_towns_82 : decode cX7_towns 82 = .ok (.if_icmp .ne 7, 3) := by decide +kernel
theorem dX7_towns_85 : decode cX7_towns 85 = .ok (.iconst 1, 1) := by decide +kernel
theorem dX7_towns_86 : decode cX7_towns 86 = .ok (.goto 4, 3) := by decide +kernel
theorem dX7_towns_89 : decode cX7_towns 89 = .ok (.iconst 0, 1) := by decide +kernel
theorem dX7_towns_90 : decode cX7_towns 90 = .ok (.invokevirtual 99, 3) := by decide +kernel
theorem dX7_towns_93 : decode cX7_towns 93 = .ok (.pop, 1) := by decide +kernel
theorem dX7_towns_94 : decode cX7_towns 94 = .ok (.iinc 1 1, 3) := by decide +kernel
theorem dX7_towns_97 : decode cX7_towns 97 = .ok (.goto (-72), 3) := by decide +kernel
theorem dX7_towns_100 : decode cX7_towns 100 = .ok (.aload_n 0, 1) := by decide +kernel
theorem dX7_towns_101 : decode cX7_towns 101 = .ok (.invokevirtual 92, 3) := by decide +kernel
theorem dX7_towns_104 : decode cX7_towns 104 = .ok (.ifCond .ne 11, 3) := by decide +kernel
theorem dX7_towns_107 : decode cX7_towns 107 = .ok (.bipush (-10), 2) := by decide +kernel
theorem dX7_towns_109 : decode cX7_towns 109 = .ok (.aload_n 0, 1) := by decide +kernel
theorem dX7_towns_110 : decode cX7_towns 110 = .ok (.getfield 89, 3) := by decide +kernel
theorem dX7_towns_113 : decode cX7_towns 113 = .ok (.isub, 1) := by decide +kernel
theorem dX7_towns_114 : decode cX7_towns 114 = .ok (.ireturn, 1) := by decide +kernel
theorem dX7_towns_115 : decode cX7_towns 115 = .ok (.aload_n 0, 1) := by decide +kernel
theorem dX7_towns_116 : decode cX7_towns 116 = .ok (.invokevirtual 59, 3) := by decide +kernel
theorem dX7_towns_119 : decode cX7_towns 119 = .ok (.iload_n 1, 1) := by decide +kernel
theorem dX7_towns_120 : decode cX7_towns 120 = .ok (.ireturn, 1) := by decide +kernel
def T_X7_towns : tk_Tb := [(0, tk_al 0 1), (1, tk_ic (0) 2), (2, tk_pI 7 0 5), (5, tk_al 0 6), (6, tk_ic (-1) 7), (7, tk_pI 7 8 10), (10, tk_al 0 11), (11, tk_ic (0) 12), (12, tk_pI 7 4 15), (15, tk_al 0 16), (16, tk_cv 7 M_X7_begins 0 19), (19, tk_ic (0) 20), (20, tk_sI 1 21), (21, tk_al 0 22), (22, tk_cv 7 M_X7_advances 0 25), (25, tk_al 0 26), (26, tk_cv 7 M_X7_isWell 0 29), (29, tk_br (fun x => x = 0) 100 32), (32, tk_al 0 33), (33, tk_gI 7 5 36), (36, tk_br (fun x => x = 0) 100 39), (39, tk_al 0 40), (40, tk_al 0 41), (41, tk_gI 7 5 44), (44, tk_ic (1) 45), (45, tk_cm (fun x y => x = y) 48 59), (48, tk_al 0 49), (49, tk_cv 7 M_X7_mayBegin 0 52), (52, tk_br (fun x => x = 0) 59 55), (55, tk_ic (1) 56), (56, tk_jmp 60), (59, tk_ic (0) 60), (60, tk_cv 7 M_X7_takes 1 63), (63, tk_sI 2 64), (64, tk_al 0 65), (65, tk_cv 7 M_X7_isWell 0 68), (68, tk_br (fun x => x = 0) 76 71), (71, tk_al 0 72), (72, tk_il 2 73), (73, tk_cv 7 M_X7_readsItem 1 76), (76, tk_al 0 77), (77, tk_al 0 78), (78, tk_gI 7 5 81), (81, tk_ic (3) 82), (82, tk_cm (fun x y => x = y) 85 89), (85, tk_ic (1) 86), (86, tk_jmp 90), (89, tk_ic (0) 90), (90, tk_cv 7 M_X7_takes 1 93), (93, tk_pp 94), (94, tk_inc 1 (1) 97), (97, tk_jmp 25), (100, tk_al 0 101), (101, tk_cv 7 M_X7_isWell 0 104), (104, tk_br (fun x => x = 0) 107 115), (107, tk_ic (-10) 109), (109, tk_al 0 110), (110, tk_gI 7 8 113), (113, tk_bi (fun x y => x - y) 114), (114, tk_rI), (115, tk_al 0 116), (116, tk_cv 7 M_X7_settles 0 119), (119, tk_il 1 120), (120, tk_rI)]
set_option maxRecDepth 100000 in
theorem hT_X7_towns (sc : Option (Nat × (Nat → Int32))) : ∀ x ∈ T_X7_towns, tk_So sc M_X7_towns x.1 x.2 := by
  unfold T_X7_towns
  refine List.forall_mem_cons.mpr ⟨so_aload_n dX7_towns_0 rfl rfl, ?_⟩
  refine List.forall_mem_cons.mpr ⟨so_iconst dX7_towns_1 (by decide) rfl, ?_⟩
  refine List.forall_mem_cons.mpr ⟨so_pI (C := RX7) (T := TX7) (N := 29) dX7_towns_2 (by decide) rfl rfl (by decide) rfl in_X7 wf_X7_62 tyX7 tyX7_ok nmX7 rfl (by decide +kernel) rfl, ?_⟩
  refine List.forall_mem_cons.mpr ⟨so_aload_n dX7_towns_5 rfl rfl, ?_⟩
  refine List.forall_mem_cons.mpr ⟨so_iconst dX7_towns_6 (by decide) rfl, ?_⟩
  refine List.forall_mem_cons.mpr ⟨so_pI (C := RX7) (T := TX7) (N := 29) dX7_towns_7 (by decide) rfl rfl (by decide) rfl in_X7 wf_X7_89 tyX7 tyX7_ok nmX7 rfl (by decide +kernel) rfl, ?_⟩
  refine List.forall_mem_cons.mpr ⟨so_aload_n dX7_towns_10 rfl rfl, ?_⟩
  refine List.forall_mem_cons.mpr ⟨so_iconst dX7_towns_11 (by decide) rfl, ?_⟩
  refine List.forall_mem_cons.mpr ⟨so_pI (C := RX7) (T := TX7) (N := 29) dX7_towns_12 (by decide) rfl rfl (by decide) rfl in_X7 wf_X7_73 tyX7 tyX7_ok nmX7 rfl (by decide +kernel) rfl, ?_⟩
  refine List.forall_mem_cons.mpr ⟨so_aload_n dX7_towns_15 rfl rfl, ?_⟩
  refine List.forall_mem_cons.mpr ⟨so_cv (T := TX7) (N := 29) dX7_towns_16 mv_X7_begins wm_X7_56 (by decide) rfl ⟨rfl, rfl⟩ (by decide) rfl, ?_⟩
  refine List.forall_mem_cons.mpr ⟨so_iconst dX7_towns_19 (by decide) rfl, ?_⟩
  refine List.forall_mem_cons.mpr ⟨so_istore_n dX7_towns_20 rfl rfl, ?_⟩
  refine List.forall_mem_cons.mpr ⟨so_aload_n dX7_towns_21 rfl rfl, ?_⟩
  refine List.forall_mem_cons.mpr ⟨so_cv (T := TX7) (N := 29) dX7_towns_22 mv_X7_advances wm_X7_96 (by decide) rfl ⟨rfl, rfl⟩ (by decide) rfl, ?_⟩
  refine List.forall_mem_cons.mpr ⟨so_aload_n dX7_towns_25 rfl rfl, ?_⟩
  refine List.forall_mem_cons.mpr ⟨so_cv (T := TX7) (N := 29) dX7_towns_26 mv_X7_isWell wm_X7_92 (by decide) rfl ⟨rfl, rfl⟩ (by decide) rfl, ?_⟩
  refine List.forall_mem_cons.mpr ⟨so_if_eq dX7_towns_29 (by decide) rfl, ?_⟩
  refine List.forall_mem_cons.mpr ⟨so_aload_n dX7_towns_32 rfl rfl, ?_⟩
  refine List.forall_mem_cons.mpr ⟨so_gI (C := RX7) (T := TX7) (N := 29) dX7_towns_33 (by decide) rfl rfl (by decide) rfl in_X7 wf_X7_83 rfl, ?_⟩
  refine List.forall_mem_cons.mpr ⟨so_if_eq dX7_towns_36 (by decide) rfl, ?_⟩
  refine List.forall_mem_cons.mpr ⟨so_aload_n dX7_towns_39 rfl rfl, ?_⟩
  refine List.forall_mem_cons.mpr ⟨so_aload_n dX7_towns_40 rfl rfl, ?_⟩
  refine List.forall_mem_cons.mpr ⟨so_gI (C := RX7) (T := TX7) (N := 29) dX7_towns_41 (by decide) rfl rfl (by decide) rfl in_X7 wf_X7_83 rfl, ?_⟩
  refine List.forall_mem_cons.mpr ⟨so_iconst dX7_towns_44 (by decide) rfl, ?_⟩
  refine List.forall_mem_cons.mpr ⟨so_icmp_ne dX7_towns_45 (by decide) rfl, ?_⟩
  refine List.forall_mem_cons.mpr ⟨so_aload_n dX7_towns_48 rfl rfl, ?_⟩
  refine List.forall_mem_cons.mpr ⟨so_cv (T := TX7) (N := 29) dX7_towns_49 mv_X7_mayBegin wm_X7_111 (by decide) rfl ⟨rfl, rfl⟩ (by decide) rfl, ?_⟩
  refine List.forall_mem_cons.mpr ⟨so_if_eq dX7_towns_52 (by decide) rfl, ?_⟩
  refine List.forall_mem_cons.mpr ⟨so_iconst dX7_towns_55 (by decide) rfl, ?_⟩
  refine List.forall_mem_cons.mpr ⟨so_goto dX7_towns_56 (by decide), ?_⟩
  refine List.forall_mem_cons.mpr ⟨so_iconst dX7_towns_59 (by decide) rfl, ?_⟩
  refine List.forall_mem_cons.mpr ⟨so_cv (T := TX7) (N := 29) dX7_towns_60 mv_X7_takes wm_X7_99 (by decide) rfl ⟨rfl, rfl⟩ (by decide) rfl, ?_⟩
  refine List.forall_mem_cons.mpr ⟨so_istore_n dX7_towns_63 rfl rfl, ?_⟩
  refine List.forall_mem_cons.mpr ⟨so_aload_n dX7_towns_64 rfl rfl, ?_⟩
  refine List.forall_mem_cons.mpr ⟨so_cv (T := TX7) (N := 29) dX7_towns_65 mv_X7_isWell wm_X7_92 (by decide) rfl ⟨rfl, rfl⟩ (by decide) rfl, ?_⟩
  refine List.forall_mem_cons.mpr ⟨so_if_eq dX7_towns_68 (by decide) rfl, ?_⟩
  refine List.forall_mem_cons.mpr ⟨so_aload_n dX7_towns_71 rfl rfl, ?_⟩
  refine List.forall_mem_cons.mpr ⟨so_iload_n dX7_towns_72 rfl rfl, ?_⟩
  refine List.forall_mem_cons.mpr ⟨so_cv (T := TX7) (N := 29) dX7_towns_73 mv_X7_readsItem wm_X7_114 (by decide) rfl ⟨rfl, rfl⟩ (by decide) rfl, ?_⟩
  refine List.forall_mem_cons.mpr ⟨so_aload_n dX7_towns_76 rfl rfl, ?_⟩
  refine List.forall_mem_cons.mpr ⟨so_aload_n dX7_towns_77 rfl rfl, ?_⟩
  refine List.forall_mem_cons.mpr ⟨so_gI (C := RX7) (T := TX7) (N := 29) dX7_towns_78 (by decide) rfl rfl (by decide) rfl in_X7 wf_X7_83 rfl, ?_⟩
  refine List.forall_mem_cons.mpr ⟨so_iconst dX7_towns_81 (by decide) rfl, ?_⟩
  refine List.forall_mem_cons.mpr ⟨so_icmp_ne dX7_towns_82 (by decide) rfl, ?_⟩
  refine List.forall_mem_cons.mpr ⟨so_iconst dX7_towns_85 (by decide) rfl, ?_⟩
  refine List.forall_mem_cons.mpr ⟨so_goto dX7_towns_86 (by decide), ?_⟩
  refine List.forall_mem_cons.mpr ⟨so_iconst dX7_towns_89 (by decide) rfl, ?_⟩
  refine List.forall_mem_cons.mpr ⟨so_cv (T := TX7) (N := 29) dX7_towns_90 mv_X7_takes wm_X7_99 (by decide) rfl ⟨rfl, rfl⟩ (by decide) rfl, ?_⟩
  refine List.forall_mem_cons.mpr ⟨so_pop dX7_towns_93 rfl, ?_⟩
  refine List.forall_mem_cons.mpr ⟨so_iinc dX7_towns_94 (by decide) rfl, ?_⟩
  refine List.forall_mem_cons.mpr ⟨so_goto dX7_towns_97 (by decide), ?_⟩
  refine List.forall_mem_cons.mpr ⟨so_aload_n dX7_towns_100 rfl rfl, ?_⟩
  refine List.forall_mem_cons.mpr ⟨so_cv (T := TX7) (N := 29) dX7_towns_101 mv_X7_isWell wm_X7_92 (by decide) rfl ⟨rfl, rfl⟩ (by decide) rfl, ?_⟩
  refine List.forall_mem_cons.mpr ⟨so_if_ne dX7_towns_104 (by decide) rfl, ?_⟩
  refine List.forall_mem_cons.mpr ⟨so_bipush dX7_towns_107 (by decide) rfl, ?_⟩
  refine List.forall_mem_cons.mpr ⟨so_aload_n dX7_towns_109 rfl rfl, ?_⟩
  refine List.forall_mem_cons.mpr ⟨so_gI (C := RX7) (T := TX7) (N := 29) dX7_towns_110 (by decide) rfl rfl (by decide) rfl in_X7 wf_X7_89 rfl, ?_⟩
  refine List.forall_mem_cons.mpr ⟨so_isub dX7_towns_113 rfl, ?_⟩
  refine List.forall_mem_cons.mpr ⟨so_rI dX7_towns_114 rfl, ?_⟩
  refine List.forall_mem_cons.mpr ⟨so_aload_n dX7_towns_115 rfl rfl, ?_⟩
  refine List.forall_mem_cons.mpr ⟨so_cv (T := TX7) (N := 29) dX7_towns_116 mv_X7_settles wm_X7_59 (by decide) rfl ⟨rfl, rfl⟩ (by decide) rfl, ?_⟩
  refine List.forall_mem_cons.mpr ⟨so_iload_n dX7_towns_119 rfl rfl, ?_⟩
  refine List.forall_mem_cons.mpr ⟨so_rI dX7_towns_120 rfl, ?_⟩
  exact fun _ h => absurd h List.not_mem_nil
theorem dX7_isKerb_0 : decode cX7_isKerb 0 = .ok (.iload_n 1, 1) := by decide +kernel
theorem dX7_isKerb_1 : decode cX7_isKerb 1 = .ok (.iconst 0, 1) := by decide +kernel
theorem dX7_isKerb_2 : decode cX7_isKerb 2 = .ok (.aload_n 0, 1) := by decide +kernel
theorem dX7_isKerb_3 : decode cX7_isKerb 3 = .ok (.getfield 13, 3) := by decide +kernel
theorem dX7_isKerb_6 : decode cX7_isKerb 6 = .ok (.iconst 0, 1) := by decide +kernel
theorem dX7_isKerb_7 : decode cX7_isKerb 7 = .ok (.iaload, 1) := by decide +kernel
theorem dX7_isKerb_8 : decode cX7_isKerb 8 = .ok (.iconst 1, 1) := by decide +kernel
theorem dX7_isKerb_9 : decode cX7_isKerb 9 = .ok (.isub, 1) := by decide +kernel
theorem dX7_isKerb_10 : decode cX7_isKerb 10 = .ok (.invokestatic 66, 3) := by decide +kernel
theorem dX7_isKerb_13 : decode cX7_isKerb 13 = .ok (.ireturn, 1) := by decide +kernel
def T_X7_isKerb : tk_Tb := [(0, tk_il 1 1), (1, tk_ic (0) 2), (2, tk_al 0 3), (3, tk_gR 7 9 6), (6, tk_ic (0) 7), (7, tk_ai 9 8), (8, tk_ic (1) 9), (9, tk_bi (fun x y => x - y) 10), (10, tk_cs M_X7_in 3 13), (13, tk_rZ)]
set_option maxRecDepth 100000 in
theorem hT_X7_isKerb (sc : Option (Nat × (Nat → Int32))) : ∀ x ∈ T_X7_isKerb, tk_So sc M_X7_isKerb x.1 x.2 := by
  unfold T_X7_isKerb
  refine List.forall_mem_cons.mpr ⟨so_iload_n dX7_isKerb_0 rfl rfl, ?_⟩
  refine List.forall_mem_cons.mpr ⟨so_iconst dX7_isKerb_1 (by decide) rfl, ?_⟩
  refine List.forall_mem_cons.mpr ⟨so_aload_n dX7_isKerb_2 rfl rfl, ?_⟩
  refine List.forall_mem_cons.mpr ⟨so_gR (C := RX7) (T := TX7) (N := 29) dX7_isKerb_3 (by decide) rfl rfl (by decide) rfl in_X7 wf_X7_13 rfl, ?_⟩
  refine List.forall_mem_cons.mpr ⟨so_iconst dX7_isKerb_6 (by decide) rfl, ?_⟩
  refine List.forall_mem_cons.mpr ⟨so_iaload dX7_isKerb_7 rfl, ?_⟩
  refine List.forall_mem_cons.mpr ⟨so_iconst dX7_isKerb_8 (by decide) rfl, ?_⟩
  refine List.forall_mem_cons.mpr ⟨so_isub dX7_isKerb_9 rfl, ?_⟩
  refine List.forall_mem_cons.mpr ⟨so_cs dX7_isKerb_10 mv_X7_in wm_X7_66 ⟨rfl, rfl⟩ (by decide) rfl, ?_⟩
  refine List.forall_mem_cons.mpr ⟨so_rZ dX7_isKerb_13 rfl, ?_⟩
  exact fun _ h => absurd h List.not_mem_nil
theorem dX7_isThing_0 : decode cX7_isThing 0 = .ok (.iload_n 1, 1) := by decide +kernel
theorem dX7_isThing_1 : decode cX7_isThing 1 = .ok (.iconst 0, 1) := by decide +kernel
theorem dX7_isThing_2 : decode cX7_isThing 2 = .ok (.aload_n 0, 1) := by decide +kernel
theorem dX7_isThing_3 : decode cX7_isThing 3 = .ok (.getfield 13, 3) := by decide +kernel
theorem dX7_isThing_6 : decode cX7_isThing 6 = .ok (.iconst 1, 1) := by decide +kernel
theorem dX7_isThing_7 : decode cX7_isThing 7 = .ok (.iaload, 1) := by decide +kernel
theorem dX7_isThing_8 : decode cX7_isThing 8 = .ok (.iconst 1, 1) := by decide +kernel
theorem dX7_isThing_9 : decode cX7_isThing 9 = .ok (.isub, 1) := by decide +kernel
theorem dX7_isThing_10 : decode cX7_isThing 10 = .ok (.invokestatic 66, 3) := by decide +kernel
theorem dX7_isThing_13 : decode cX7_isThing 13 = .ok (.ireturn, 1) := by decide +kernel
def T_X7_isThing : tk_Tb := [(0, tk_il 1 1), (1, tk_ic (0) 2), (2, tk_al 0 3), (3, tk_gR 7 9 6), (6, tk_ic (1) 7), (7, tk_ai 9 8), (8, tk_ic (1) 9), (9, tk_bi (fun x y => x - y) 10), (10, tk_cs M_X7_in 3 13), (13, tk_rZ)]
set_option maxRecDepth 100000 in
theorem hT_X7_isThing (sc : Option (Nat × (Nat → Int32))) : ∀ x ∈ T_X7_isThing, tk_So sc M_X7_isThing x.1 x.2 := by
  unfold T_X7_isThing
  refine List.forall_mem_cons.mpr ⟨so_iload_n dX7_isThing_0 rfl rfl, ?_⟩
  refine List.forall_mem_cons.mpr ⟨so_iconst dX7_isThing_1 (by decide) rfl, ?_⟩
  refine List.forall_mem_cons.mpr ⟨so_aload_n dX7_isThing_2 rfl rfl, ?_⟩
  refine List.forall_mem_cons.mpr ⟨so_gR (C := RX7) (T := TX7) (N := 29) dX7_isThing_3 (by decide) rfl rfl (by decide) rfl in_X7 wf_X7_13 rfl, ?_⟩
  refine List.forall_mem_cons.mpr ⟨so_iconst dX7_isThing_6 (by decide) rfl, ?_⟩
  refine List.forall_mem_cons.mpr ⟨so_iaload dX7_isThing_7 rfl, ?_⟩
  refine List.forall_mem_cons.mpr ⟨so_iconst dX7_isThing_8 (by decide) rfl, ?_⟩
  refine List.forall_mem_cons.mpr ⟨so_isub dX7_isThing_9 rfl, ?_⟩
  refine List.forall_mem_cons.mpr ⟨so_cs dX7_isThing_10 mv_X7_in wm_X7_66 ⟨rfl, rfl⟩ (by decide) rfl, ?_⟩
  refine List.forall_mem_cons.mpr ⟨so_rZ dX7_isThing_13 rfl, ?_⟩
  exact fun _ h => absurd h List.not_mem_nil
theorem dX7_isTied_0 : decode cX7_isTied 0 = .ok (.aload_n 0, 1) := by decide +kernel
theorem dX7_isTied_1 : decode cX7_isTied 1 = .ok (.getfield 31, 3) := by decide +kernel
theorem dX7_isTied_4 : decode cX7_isTied 4 = .ok (.bipush 11, 2) := by decide +kernel
theorem dX7_isTied_6 : decode cX7_isTied 6 = .ok (.iaload, 1) := by decide +kernel
theorem dX7_isTied_7 : decode cX7_isTied 7 = .ok (.iload_n 1, 1) := by decide +kernel
theorem dX7_isTied_8 : decode cX7_isTied 8 = .ok (.ishr, 1) := by decide +kernel
theorem dX7_isTied_9 : decode cX7_isTied 9 = .ok (.iconst 1, 1) := by decide +kernel
theorem dX7_isTied_10 : decode cX7_isTied 10 = .ok (.iand, 1) := by decide +kernel
theorem dX7_isTied_11 : decode cX7_isTied 11 = .ok (.iconst 1, 1) := by decide +kernel
theorem dX7_isTied_12 : decode cX7_isTied 12 = .ok (.if_icmp .ne 7, 3) := by decide +kernel
theorem dX7_isTied_15 : decode cX7_isTied 15 = .ok (.iconst 1, 1) := by decide +kernel
theorem dX7_isTied_16 : decode cX7_isTied 16 = .ok (.goto 4, 3) := by decide +kernel
theorem dX7_isTied_19 : decode cX7_isTied 19 = .ok (.iconst 0, 1) := by decide +kernel
theorem dX7_isTied_20 : decode cX7_isTied 20 = .ok (.ireturn, 1) := by decide +kernel
def T_X7_isTied : tk_Tb := [(0, tk_al 0 1), (1, tk_gR 7 16 4), (4, tk_ic (11) 6), (6, tk_ai 9 7), (7, tk_il 1 8), (8, tk_bi (fun x y => x >>> (y &&& 31)) 9), (9, tk_ic (1) 10), (10, tk_bi (fun x y => x &&& y) 11), (11, tk_ic (1) 12), (12, tk_cm (fun x y => x = y) 15 19), (15, tk_ic (1) 16), (16, tk_jmp 20), (19, tk_ic (0) 20), (20, tk_rZ)]
set_option maxRecDepth 100000 in
theorem hT_X7_isTied (sc : Option (Nat × (Nat → Int32))) : ∀ x ∈ T_X7_isTied, tk_So sc M_X7_isTied x.1 x.2 := by
  unfold T_X7_isTied
  refine List.forall_mem_cons.mpr ⟨so_aload_n dX7_isTied_0 rfl rfl, ?_⟩
  refine List.forall_mem_cons.mpr ⟨so_gR (C := RX7) (T := TX7) (N := 29) dX7_isTied_1 (by decide) rfl rfl (by decide) rfl in_X7 wf_X7_31 rfl, ?_⟩
  refine List.forall_mem_cons.mpr ⟨so_bipush dX7_isTied_4 (by decide) rfl, ?_⟩
  refine List.forall_mem_cons.mpr ⟨so_iaload dX7_isTied_6 rfl, ?_⟩
  refine List.forall_mem_cons.mpr ⟨so_iload_n dX7_isTied_7 rfl rfl, ?_⟩
  refine List.forall_mem_cons.mpr ⟨so_ishr dX7_isTied_8 rfl, ?_⟩
  refine List.forall_mem_cons.mpr ⟨so_iconst dX7_isTied_9 (by decide) rfl, ?_⟩
  refine List.forall_mem_cons.mpr ⟨so_iand dX7_isTied_10 rfl, ?_⟩
  refine List.forall_mem_cons.mpr ⟨so_iconst dX7_isTied_11 (by decide) rfl, ?_⟩
  refine List.forall_mem_cons.mpr ⟨so_icmp_ne dX7_isTied_12 (by decide) rfl, ?_⟩
  refine List.forall_mem_cons.mpr ⟨so_iconst dX7_isTied_15 (by decide) rfl, ?_⟩
  refine List.forall_mem_cons.mpr ⟨so_goto dX7_isTied_16 (by decide), ?_⟩
  refine List.forall_mem_cons.mpr ⟨so_iconst dX7_isTied_19 (by decide) rfl, ?_⟩
  refine List.forall_mem_cons.mpr ⟨so_rZ dX7_isTied_20 rfl, ?_⟩
  exact fun _ h => absurd h List.not_mem_nil
theorem dX7_levelOf_0 : decode cX7_levelOf 0 = .ok (.aload_n 0, 1) := by decide +kernel
theorem dX7_levelOf_1 : decode cX7_levelOf 1 = .ok (.getfield 13, 3) := by decide +kernel
theorem dX7_levelOf_4 : decode cX7_levelOf 4 = .ok (.iconst 3, 1) := by decide +kernel
theorem dX7_levelOf_5 : decode cX7_levelOf 5 = .ok (.iaload, 1) := by decide +kernel
theorem dX7_levelOf_6 : decode cX7_levelOf 6 = .ok (.iload_n 1, 1) := by decide +kernel
theorem dX7_levelOf_7 : decode cX7_levelOf 7 = .ok (.imul, 1) := by decide +kernel
theorem dX7_levelOf_8 : decode cX7_levelOf 8 = .ok (.aload_n 0, 1) := by decide +kernel
theorem dX7_levelOf_9 : decode cX7_levelOf 9 = .ok (.getfield 13, 3) := by decide +kernel
theorem dX7_levelOf_12 : decode cX7_levelOf 12 = .ok (.iconst 4, 1) := by decide +kernel
theorem dX7_levelOf_13 : decode cX7_levelOf 13 = .ok (.iaload, 1) := by decide +kernel
theorem dX7_levelOf_14 : decode cX7_levelOf 14 = .ok (.iadd, 1) := by decide +kernel
theorem dX7_levelOf_15 : decode cX7_levelOf 15 = .ok (.aload_n 0, 1) := by decide +kernel
theorem dX7_levelOf_16 : decode cX7_levelOf 16 = .ok (.getfield 13, 3) := by decide +kernel
theorem dX7_levelOf_19 : decode cX7_levelOf 19 = .ok (.iconst 2, 1) := by decide +kernel
theorem dX7_levelOf_20 : decode cX7_levelOf 20 = .ok (.iaload, 1) := by decide +kernel
theorem dX7_levelOf_21 : decode cX7_levelOf 21 = .ok (.irem, 1) := by decide +kernel
theorem dX7_levelOf_22 : decode cX7_levelOf 22 = .ok (.ireturn, 1) := by decide +kernel
def T_X7_levelOf : tk_Tb := [(0, tk_al 0 1), (1, tk_gR 7 9 4), (4, tk_ic (3) 5), (5, tk_ai 9 6), (6, tk_il 1 7), (7, tk_bi (fun x y => x * y) 8), (8, tk_al 0 9), (9, tk_gR 7 9 12), (12, tk_ic (4) 13), (13, tk_ai 9 14), (14, tk_bi (fun x y => x + y) 15), (15, tk_al 0 16), (16, tk_gR 7 9 19), (19, tk_ic (2) 20), (20, tk_ai 9 21), (21, tk_dv (fun x y => x - x / y * y) 22), (22, tk_rI)]
set_option maxRecDepth 100000 in
theorem hT_X7_levelOf (sc : Option (Nat × (Nat → Int32))) : ∀ x ∈ T_X7_levelOf, tk_So sc M_X7_levelOf x.1 x.2 := by
  unfold T_X7_levelOf
  refine List.forall_mem_cons.mpr ⟨so_aload_n dX7_levelOf_0 rfl rfl, ?_⟩
  refine List.forall_mem_cons.mpr ⟨so_gR (C := RX7) (T := TX7) (N := 29) dX7_levelOf_1 (by decide) rfl rfl (by decide) rfl in_X7 wf_X7_13 rfl, ?_⟩
  refine List.forall_mem_cons.mpr ⟨so_iconst dX7_levelOf_4 (by decide) rfl, ?_⟩
  refine List.forall_mem_cons.mpr ⟨so_iaload dX7_levelOf_5 rfl, ?_⟩
  refine List.forall_mem_cons.mpr ⟨so_iload_n dX7_levelOf_6 rfl rfl, ?_⟩
  refine List.forall_mem_cons.mpr ⟨so_imul dX7_levelOf_7 rfl, ?_⟩
  refine List.forall_mem_cons.mpr ⟨so_aload_n dX7_levelOf_8 rfl rfl, ?_⟩
  refine List.forall_mem_cons.mpr ⟨so_gR (C := RX7) (T := TX7) (N := 29) dX7_levelOf_9 (by decide) rfl rfl (by decide) rfl in_X7 wf_X7_13 rfl, ?_⟩
  refine List.forall_mem_cons.mpr ⟨so_iconst dX7_levelOf_12 (by decide) rfl, ?_⟩
  refine List.forall_mem_cons.mpr ⟨so_iaload dX7_levelOf_13 rfl, ?_⟩
  refine List.forall_mem_cons.mpr ⟨so_iadd dX7_levelOf_14 rfl, ?_⟩
  refine List.forall_mem_cons.mpr ⟨so_aload_n dX7_levelOf_15 rfl rfl, ?_⟩
  refine List.forall_mem_cons.mpr ⟨so_gR (C := RX7) (T := TX7) (N := 29) dX7_levelOf_16 (by decide) rfl rfl (by decide) rfl in_X7 wf_X7_13 rfl, ?_⟩
  refine List.forall_mem_cons.mpr ⟨so_iconst dX7_levelOf_19 (by decide) rfl, ?_⟩
  refine List.forall_mem_cons.mpr ⟨so_iaload dX7_levelOf_20 rfl, ?_⟩
  refine List.forall_mem_cons.mpr ⟨so_irem dX7_levelOf_21 rfl, ?_⟩
  refine List.forall_mem_cons.mpr ⟨so_rI dX7_levelOf_22 rfl, ?_⟩
  exact fun _ h => absurd h List.not_mem_nil
theorem dX7_floodIn_0 : decode cX7_floodIn 0 = .ok (.iconst 0, 1) := by decide +kernel
theorem dX7_floodIn_1 : decode cX7_floodIn 1 = .ok (.istore_n 2, 1) := by decide +kernel
theorem dX7_floodIn_2 : decode cX7_floodIn 2 = .ok (.iconst 0, 1) := by decide +kernel
theorem dX7_floodIn_3 : decode cX7_floodIn 3 = .ok (.istore_n 3, 1) := by decide +kernel
theorem dX7_floodIn_4 : decode cX7_floodIn 4 = .ok (.iload_n 3, 1) := by decide +kernel
theorem dX7_floodIn_5 : decode cX7_floodIn 5 = .ok (.aload_n 0, 1) := by decide +kernel
theorem dX7_floodIn_6 : decode cX7_floodIn 6 = .ok (.getfield 13, 3) := by decide +kernel
theorem dX7_floodIn_9 : decode cX7_floodIn 9 = .ok (.iconst 0, 1) := by decide +kernel
theorem dX7_floodIn_10 : decode cX7_floodIn 10 = .ok (.iaload, 1) := by decide +kernel
theorem dX7_floodIn_11 : decode cX7_floodIn 11 = .ok (.if_icmp .ge 33, 3) := by decide +kernel
theorem dX7_floodIn_14 : decode cX7_floodIn 14 = .ok (.iload_n 2, 1) := by decide +kernel
theorem dX7_floodIn_15 : decode cX7_floodIn 15 = .ok (.aload_n 0, 1) := by decide +kernel
theorem dX7_floodIn_16 : decode cX7_floodIn 16 = .ok (.getfield 19, 3) := by decide +kernel
theorem dX7_floodIn_19 : decode cX7_floodIn 19 = .ok (.iload_n 3, 1) := by decide +kernel
theorem dX7_floodIn_20 : decode cX7_floodIn 20 = .ok (.iaload, 1) := by decide +kernel
theorem dX7_floodIn_21 : decode cX7_floodIn 21 = .ok (.aload_n 0, 1) := by decide +kernel
theorem dX7_floodIn_22 : decode cX7_floodIn 22 = .ok (.iload_n 1, 1) := by decide +kernel
theorem dX7_floodIn_23 : decode cX7_floodIn 23 = .ok (.invokevirtual 127, 3) := by decide +kernel
theorem dX7_floodIn_26 : decode cX7_floodIn 26 = .ok (.if_icmp .gt 9, 3) := by decide +kernel
theorem dX7_floodIn_29 : decode cX7_floodIn 29 = .ok (.iconst 1, 1) := by decide +kernel
theorem dX7_floodIn_30 : decode cX7_floodIn 30 = .ok (.iload_n 3, 1) := by decide +kernel
theorem dX7_floodIn_31 : decode cX7_floodIn 31 = .ok (.ishl, 1) := by decide +kernel
theorem dX7_floodIn_32 : decode cX7_floodIn 32 = .ok (.goto 4, 3) := by decide +kernel
theorem dX7_floodIn_35 : decode cX7_floodIn 35 = .ok (.iconst 0, 1) := by decide +kernel
theorem dX7_floodIn_36 : decode cX7_floodIn 36 = .ok (.ior, 1) := by decide +kernel
theorem dX7_floodIn_37 : decode cX7_floodIn 37 = .ok (.istore_n 2, 1) := by decide +kernel
theorem dX7_floodIn_38 : decode cX7_floodIn 38 = .ok (.iinc 3 1, 3) := by decide +kernel
theorem dX7_floodIn_41 : decode cX7_floodIn 41 = .ok (.goto (-37), 3) := by decide +kernel
theorem dX7_floodIn_44 : decode cX7_floodIn 44 = .ok (.iload_n 2, 1) := by decide +kernel
theorem dX7_floodIn_45 : decode cX7_floodIn 45 = .ok (.ireturn, 1) := by decide +kernel
def T_X7_floodIn : tk_Tb := [(0, tk_ic (0) 1), (1, tk_sI 2 2), (2, tk_ic (0) 3), (3, tk_sI 3 4), (4, tk_il 3 5), (5, tk_al 0 6), (6, tk_gR 7 9 9), (9, tk_ic (0) 10), (10, tk_ai 9 11), (11, tk_cm (fun x y => y ≤ x) 44 14), (14, tk_il 2 15), (15, tk_al 0 16), (16, tk_gR 7 12 19), (19, tk_il 3 20), (20, tk_ai 9 21), (21, tk_al 0 22), (22, tk_il 1 23), (23, tk_cv 7 M_X7_levelOf 1 26), (26, tk_cm (fun x y => y < x) 35 29), (29, tk_ic (1) 30), (30, tk_il 3 31), (31, tk_bi (fun x y => x <<< (y &&& 31)) 32), (32, tk_jmp 36), (35, tk_ic (0) 36), (36, tk_bi (fun x y => x ||| y) 37), (37, tk_sI 2 38), (38, tk_inc 3 (1) 41), (41, tk_jmp 4), (44, tk_il 2 45), (45, tk_rI)]
set_option maxRecDepth 100000 in
theorem hT_X7_floodIn (sc : Option (Nat × (Nat → Int32))) : ∀ x ∈ T_X7_floodIn, tk_So sc M_X7_floodIn x.1 x.2 := by
  unfold T_X7_floodIn
  refine List.forall_mem_cons.mpr ⟨so_iconst dX7_floodIn_0 (by decide) rfl, ?_⟩
  refine List.forall_mem_cons.mpr ⟨so_istore_n dX7_floodIn_1 rfl rfl, ?_⟩
  refine List.forall_mem_cons.mpr ⟨so_iconst dX7_floodIn_2 (by decide) rfl, ?_⟩
  refine List.forall_mem_cons.mpr ⟨so_istore_n dX7_floodIn_3 rfl rfl, ?_⟩
  refine List.forall_mem_cons.mpr ⟨so_iload_n dX7_floodIn_4 rfl rfl, ?_⟩
  refine List.forall_mem_cons.mpr ⟨so_aload_n dX7_floodIn_5 rfl rfl, ?_⟩
  refine List.forall_mem_cons.mpr ⟨so_gR (C := RX7) (T := TX7) (N := 29) dX7_floodIn_6 (by decide) rfl rfl (by decide) rfl in_X7 wf_X7_13 rfl, ?_⟩
  refine List.forall_mem_cons.mpr ⟨so_iconst dX7_floodIn_9 (by decide) rfl, ?_⟩
  refine List.forall_mem_cons.mpr ⟨so_iaload dX7_floodIn_10 rfl, ?_⟩
  refine List.forall_mem_cons.mpr ⟨so_icmp_ge dX7_floodIn_11 (by decide) rfl, ?_⟩
  refine List.forall_mem_cons.mpr ⟨so_iload_n dX7_floodIn_14 rfl rfl, ?_⟩
  refine List.forall_mem_cons.mpr ⟨so_aload_n dX7_floodIn_15 rfl rfl, ?_⟩
  refine List.forall_mem_cons.mpr ⟨so_gR (C := RX7) (T := TX7) (N := 29) dX7_floodIn_16 (by decide) rfl rfl (by decide) rfl in_X7 wf_X7_19 rfl, ?_⟩
  refine List.forall_mem_cons.mpr ⟨so_iload_n dX7_floodIn_19 rfl rfl, ?_⟩
  refine List.forall_mem_cons.mpr ⟨so_iaload dX7_floodIn_20 rfl, ?_⟩
  refine List.forall_mem_cons.mpr ⟨so_aload_n dX7_floodIn_21 rfl rfl, ?_⟩
  refine List.forall_mem_cons.mpr ⟨so_iload_n dX7_floodIn_22 rfl rfl, ?_⟩
  refine List.forall_mem_cons.mpr ⟨so_cv (T := TX7) (N := 29) dX7_floodIn_23 mv_X7_levelOf wm_X7_127 (by decide) rfl ⟨rfl, rfl⟩ (by decide) rfl, ?_⟩
  refine List.forall_mem_cons.mpr ⟨so_icmp_gt dX7_floodIn_26 (by decide) rfl, ?_⟩
  refine List.forall_mem_cons.mpr ⟨so_iconst dX7_floodIn_29 (by decide) rfl, ?_⟩
  refine List.forall_mem_cons.mpr ⟨so_iload_n dX7_floodIn_30 rfl rfl, ?_⟩
  refine List.forall_mem_cons.mpr ⟨so_ishl dX7_floodIn_31 rfl, ?_⟩
  refine List.forall_mem_cons.mpr ⟨so_goto dX7_floodIn_32 (by decide), ?_⟩
  refine List.forall_mem_cons.mpr ⟨so_iconst dX7_floodIn_35 (by decide) rfl, ?_⟩
  refine List.forall_mem_cons.mpr ⟨so_ior dX7_floodIn_36 rfl, ?_⟩
  refine List.forall_mem_cons.mpr ⟨so_istore_n dX7_floodIn_37 rfl rfl, ?_⟩
  refine List.forall_mem_cons.mpr ⟨so_iinc dX7_floodIn_38 (by decide) rfl, ?_⟩
  refine List.forall_mem_cons.mpr ⟨so_goto dX7_floodIn_41 (by decide), ?_⟩
  refine List.forall_mem_cons.mpr ⟨so_iload_n dX7_floodIn_44 rfl rfl, ?_⟩
  refine List.forall_mem_cons.mpr ⟨so_rI dX7_floodIn_45 rfl, ?_⟩
  exact fun _ h => absurd h List.not_mem_nil
theorem dX7_thingsOn_0 : decode cX7_thingsOn 0 = .ok (.iconst 0, 1) := by decide +kernel
theorem dX7_thingsOn_1 : decode cX7_thingsOn 1 = .ok (.istore_n 2, 1) := by decide +kernel
theorem dX7_thingsOn_2 : decode cX7_thingsOn 2 = .ok (.iconst 0, 1) := by decide +kernel
theorem dX7_thingsOn_3 : decode cX7_thingsOn 3 = .ok (.istore_n 3, 1) := by decide +kernel
theorem dX7_thingsOn_4 : decode cX7_thingsOn 4 = .ok (.iload_n 3, 1) := by decide +kernel
theorem dX7_thingsOn_5 : decode cX7_thingsOn 5 = .ok (.aload_n 0, 1) := by decide +kernel
theorem dX7_thingsOn_6 : decode cX7_thingsOn 6 = .ok (.getfield 13, 3) := by decide +kernel
theorem dX7_thingsOn_9 : decode cX7_thingsOn 9 = .ok (.iconst 1, 1) := by decide +kernel
theorem dX7_thingsOn_10 : decode cX7_thingsOn 10 = .ok (.iaload, 1) := by decide +kernel
theorem dX7_thingsOn_11 : decode cX7_thingsOn 11 = .ok (.if_icmp .ge 43, 3) := by decide +kernel
theorem dX7_thingsOn_14 : decode cX7_thingsOn 14 = .ok (.iload_n 2, 1) := by decide +kernel
theorem dX7_thingsOn_15 : decode cX7_thingsOn 15 = .ok (.aload_n 0, 1) := by decide +kernel
theorem dX7_thingsOn_16 : decode cX7_thingsOn 16 = .ok (.getfield 31, 3) := by decide +kernel
theorem dX7_thingsOn_19 : decode cX7_thingsOn 19 = .ok (.iconst 1, 1) := by decide +kernel
theorem dX7_thingsOn_20 : decode cX7_thingsOn 20 = .ok (.iload_n 3, 1) := by decide +kernel
theorem dX7_thingsOn_21 : decode cX7_thingsOn 21 = .ok (.iadd, 1) := by decide +kernel
theorem dX7_thingsOn_22 : decode cX7_thingsOn 22 = .ok (.iaload, 1) := by decide +kernel
theorem dX7_thingsOn_23 : decode cX7_thingsOn 23 = .ok (.iload_n 1, 1) := by decide +kernel
theorem dX7_thingsOn_24 : decode cX7_thingsOn 24 = .ok (.if_icmp .ne 21, 3) := by decide +kernel
theorem dX7_thingsOn_27 : decode cX7_thingsOn 27 = .ok (.aload_n 0, 1) := by decide +kernel
theorem dX7_thingsOn_28 : decode cX7_thingsOn 28 = .ok (.getfield 31, 3) := by decide +kernel
theorem dX7_thingsOn_31 : decode cX7_thingsOn 31 = .ok (.bipush 6, 2) := by decide +kernel
theorem dX7_thingsOn_33 : decode cX7_thingsOn 33 = .ok (.iload_n 3, 1) := by decide +kernel
theorem dX7_thingsOn_34 : decode cX7_thingsOn 34 = .ok (.iadd, 1) := by decide +kernel
theorem dX7_thingsOn_35 : decode cX7_thingsOn 35 = .ok (.iaload, 1) := by decide +kernel
theorem dX7_thingsOn_36 : decode cX7_thingsOn 36 = .ok (.ifCond .ne 9, 3) := by decide +kernel
theorem dX7_thingsOn_39 : decode cX7_thingsOn 39 = .ok (.iconst 1, 1) := by decide +kernel
theorem dX7_thingsOn_40 : decode cX7_thingsOn 40 = .ok (.iload_n 3, 1) := by decide +kernel
theorem dX7_thingsOn_41 : decode cX7_thingsOn 41 = .ok (.ishl, 1) := by decide +kernel
theorem dX7_thingsOn_42 : decode cX7_thingsOn 42 = .ok (.goto 4, 3) := by decide +kernel
theorem dX7_thingsOn_45 : decode cX7_thingsOn 45 = .ok (.iconst 0, 1) := by decide +kernel
theorem dX7_thingsOn_46 : decode cX7_thingsOn 46 = .ok (.ior, 1) := by decide +kernel
theorem dX7_thingsOn_47 : decode cX7_thingsOn 47 = .ok (.istore_n 2, 1) := by decide +kernel
theorem dX7_thingsOn_48 : decode cX7_thingsOn 48 = .ok (.iinc 3 1, 3) := by decide +kernel
theorem dX7_thingsOn_51 : decode cX7_thingsOn 51 = .ok (.goto (-47), 3) := by decide +kernel
theorem dX7_thingsOn_54 : decode cX7_thingsOn 54 = .ok (.iload_n 2, 1) := by decide +kernel
theorem dX7_thingsOn_55 : decode cX7_thingsOn 55 = .ok (.ireturn, 1) := by decide +kernel
def T_X7_thingsOn : tk_Tb := [(0, tk_ic (0) 1), (1, tk_sI 2 2), (2, tk_ic (0) 3), (3, tk_sI 3 4), (4, tk_il 3 5), (5, tk_al 0 6), (6, tk_gR 7 9 9), (9, tk_ic (1) 10), (10, tk_ai 9 11), (11, tk_cm (fun x y => y ≤ x) 54 14), (14, tk_il 2 15), (15, tk_al 0 16), (16, tk_gR 7 16 19), (19, tk_ic (1) 20), (20, tk_il 3 21), (21, tk_bi (fun x y => x + y) 22), (22, tk_ai 9 23), (23, tk_il 1 24), (24, tk_cm (fun x y => x = y) 27 45), (27, tk_al 0 28), (28, tk_gR 7 16 31), (31, tk_ic (6) 33), (33, tk_il 3 34), (34, tk_bi (fun x y => x + y) 35), (35, tk_ai 9 36), (36, tk_br (fun x => x = 0) 39 45), (39, tk_ic (1) 40), (40, tk_il 3 41), (41, tk_bi (fun x y => x <<< (y &&& 31)) 42), (42, tk_jmp 46), (45, tk_ic (0) 46), (46, tk_bi (fun x y => x ||| y) 47), (47, tk_sI 2 48), (48, tk_inc 3 (1) 51), (51, tk_jmp 4), (54, tk_il 2 55), (55, tk_rI)]
set_option maxRecDepth 100000 in
theorem hT_X7_thingsOn (sc : Option (Nat × (Nat → Int32))) : ∀ x ∈ T_X7_thingsOn, tk_So sc M_X7_thingsOn x.1 x.2 := by
  unfold T_X7_thingsOn
  refine List.forall_mem_cons.mpr ⟨so_iconst dX7_thingsOn_0 (by decide) rfl, ?_⟩
  refine List.forall_mem_cons.mpr ⟨so_istore_n dX7_thingsOn_1 rfl rfl, ?_⟩
  refine List.forall_mem_cons.mpr ⟨so_iconst dX7_thingsOn_2 (by decide) rfl, ?_⟩
  refine List.forall_mem_cons.mpr ⟨so_istore_n dX7_thingsOn_3 rfl rfl, ?_⟩
  refine List.forall_mem_cons.mpr ⟨so_iload_n dX7_thingsOn_4 rfl rfl, ?_⟩
  refine List.forall_mem_cons.mpr ⟨so_aload_n dX7_thingsOn_5 rfl rfl, ?_⟩
  refine List.forall_mem_cons.mpr ⟨so_gR (C := RX7) (T := TX7) (N := 29) dX7_thingsOn_6 (by decide) rfl rfl (by decide) rfl in_X7 wf_X7_13 rfl, ?_⟩
  refine List.forall_mem_cons.mpr ⟨so_iconst dX7_thingsOn_9 (by decide) rfl, ?_⟩
  refine List.forall_mem_cons.mpr ⟨so_iaload dX7_thingsOn_10 rfl, ?_⟩
  refine List.forall_mem_cons.mpr ⟨so_icmp_ge dX7_thingsOn_11 (by decide) rfl, ?_⟩
  refine List.forall_mem_cons.mpr ⟨so_iload_n dX7_thingsOn_14 rfl rfl, ?_⟩
  refine List.forall_mem_cons.mpr ⟨so_aload_n dX7_thingsOn_15 rfl rfl, ?_⟩
  refine List.forall_mem_cons.mpr ⟨so_gR (C := RX7) (T := TX7) (N := 29) dX7_thingsOn_16 (by decide) rfl rfl (by decide) rfl in_X7 wf_X7_31 rfl, ?_⟩
  refine List.forall_mem_cons.mpr ⟨so_iconst dX7_thingsOn_19 (by decide) rfl, ?_⟩
  refine List.forall_mem_cons.mpr ⟨so_iload_n dX7_thingsOn_20 rfl rfl, ?_⟩
  refine List.forall_mem_cons.mpr ⟨so_iadd dX7_thingsOn_21 rfl, ?_⟩
  refine List.forall_mem_cons.mpr ⟨so_iaload dX7_thingsOn_22 rfl, ?_⟩
  refine List.forall_mem_cons.mpr ⟨so_iload_n dX7_thingsOn_23 rfl rfl, ?_⟩
  refine List.forall_mem_cons.mpr ⟨so_icmp_ne dX7_thingsOn_24 (by decide) rfl, ?_⟩
  refine List.forall_mem_cons.mpr ⟨so_aload_n dX7_thingsOn_27 rfl rfl, ?_⟩
  refine List.forall_mem_cons.mpr ⟨so_gR (C := RX7) (T := TX7) (N := 29) dX7_thingsOn_28 (by decide) rfl rfl (by decide) rfl in_X7 wf_X7_31 rfl, ?_⟩
  refine List.forall_mem_cons.mpr ⟨so_bipush dX7_thingsOn_31 (by decide) rfl, ?_⟩
  refine List.forall_mem_cons.mpr ⟨so_iload_n dX7_thingsOn_33 rfl rfl, ?_⟩
  refine List.forall_mem_cons.mpr ⟨so_iadd dX7_thingsOn_34 rfl, ?_⟩
  refine List.forall_mem_cons.mpr ⟨so_iaload dX7_thingsOn_35 rfl, ?_⟩
  refine List.forall_mem_cons.mpr ⟨so_if_ne dX7_thingsOn_36 (by decide) rfl, ?_⟩
  refine List.forall_mem_cons.mpr ⟨so_iconst dX7_thingsOn_39 (by decide) rfl, ?_⟩
  refine List.forall_mem_cons.mpr ⟨so_iload_n dX7_thingsOn_40 rfl rfl, ?_⟩
  refine List.forall_mem_cons.mpr ⟨so_ishl dX7_thingsOn_41 rfl, ?_⟩
  refine List.forall_mem_cons.mpr ⟨so_goto dX7_thingsOn_42 (by decide), ?_⟩
  refine List.forall_mem_cons.mpr ⟨so_iconst dX7_thingsOn_45 (by decide) rfl, ?_⟩
  refine List.forall_mem_cons.mpr ⟨so_ior dX7_thingsOn_46 rfl, ?_⟩
  refine List.forall_mem_cons.mpr ⟨so_istore_n dX7_thingsOn_47 rfl rfl, ?_⟩
  refine List.forall_mem_cons.mpr ⟨so_iinc dX7_thingsOn_48 (by decide) rfl, ?_⟩
  refine List.forall_mem_cons.mpr ⟨so_goto dX7_thingsOn_51 (by decide), ?_⟩
  refine List.forall_mem_cons.mpr ⟨so_iload_n dX7_thingsOn_54 rfl rfl, ?_⟩
  refine List.forall_mem_cons.mpr ⟨so_rI dX7_thingsOn_55 rfl, ?_⟩
  exact fun _ h => absurd h List.not_mem_nil
theorem dX7_kerb_0 : decode cX7_kerb 0 = .ok (.aload_n 0, 1) := by decide +kernel
theorem dX7_kerb_1 : decode cX7_kerb 1 = .ok (.iconst 0, 1) := by decide +kernel
theorem dX7_kerb_2 : decode cX7_kerb 2 = .ok (.putfield 62, 3) := by decide +kernel
theorem dX7_kerb_5 : decode cX7_kerb 5 = .ok (.aload_n 0, 1) := by decide +kernel
theorem dX7_kerb_6 : decode cX7_kerb 6 = .ok (.iload_n 1, 1) := by decide +kernel
theorem dX7_kerb_7 : decode cX7_kerb 7 = .ok (.invokevirtual 130, 3) := by decide +kernel
theorem dX7_kerb_10 : decode cX7_kerb 10 = .ok (.ifCond .eq 12, 3) := by decide +kernel
theorem dX7_kerb_13 : decode cX7_kerb 13 = .ok (.iload_n 2, 1) := by decide +kernel
theorem dX7_kerb_14 : decode cX7_kerb 14 = .ok (.iconst 0, 1) := by decide +kernel
theorem dX7_kerb_15 : decode cX7_kerb 15 = .ok (.iconst 4, 1) := by decide +kernel
theorem dX7_kerb_16 : decode cX7_kerb 16 = .ok (.invokestatic 66, 3) := by decide +kernel
theorem dX7_kerb_19 : decode cX7_kerb 19 = .ok (.ifCond .ne 5, 3) := by decide +kernel
theorem dX7_kerb_22 : decode cX7_kerb 22 = .ok (.iconst (-1), 1) := by decide +kernel
theorem dX7_kerb_23 : decode cX7_kerb 23 = .ok (.ireturn, 1) := by decide +kernel
theorem dX7_kerb_24 : decode cX7_kerb 24 = .ok (.iload_n 2, 1) := by decide +kernel
theorem dX7_kerb_25 : decode cX7_kerb 25 = .ok (.ifCond .ne 12, 3) := by decide +kernel
theorem dX7_kerb_28 : decode cX7_kerb 28 = .ok (.aload_n 0, 1) := by decide +kernel
theorem dX7_kerb_29 : decode cX7_kerb 29 = .ok (.getfield 16, 3) := by decide +kernel
theorem dX7_kerb_32 : decode cX7_kerb 32 = .ok (.iload_n 1, 1) := by decide +kernel
theorem dX7_kerb_33 : decode cX7_kerb 33 = .ok (.iaload, 1) := by decide +kernel
theorem dX7_kerb_34 : decode cX7_kerb 34 = .ok (.goto 50, 3) := by decide +kernel
theorem dX7_kerb_37 : decode cX7_kerb 37 = .ok (.iload_n 2, 1) := by decide +kernel
theorem dX7_kerb_38 : decode cX7_kerb 38 = .ok (.iconst 1, 1) := by decide +kernel
theorem dX7_kerb_39 : decode cX7_kerb 39 = .ok (.if_icmp .ne 12, 3) := by decide +kernel
theorem dX7_kerb_42 : decode cX7_kerb 42 = .ok (.aload_n 0, 1) := by decide +kernel
theorem dX7_kerb_43 : decode cX7_kerb 43 = .ok (.getfield 19, 3) := by decide +kernel
theorem dX7_kerb_46 : decode cX7_kerb 46 = .ok (.iload_n 1, 1) := by decide +kernel
theorem dX7_kerb_47 : decode cX7_kerb 47 = .ok (.iaload, 1) := by decide +kernel
theorem dX7_kerb_48 : decode cX7_kerb 48 = .ok (.goto 36, 3) := by decide +kernel
theorem dX7_kerb_51 : decode cX7_kerb 51 = .ok (.iload_n 2, 1) := by decide +kernel
theorem dX7_kerb_52 : decode cX7_kerb 52 = .ok (.iconst 2, 1) := by decide +kernel
theorem dX7_kerb_53 : decode cX7_kerb 53 = .ok (.if_icmp .ne 12, 3) := by decide +kernel
theorem dX7_kerb_56 : decode cX7_kerb 56 = .ok (.aload_n 0, 1) := by decide +kernel
theorem dX7_kerb_57 : decode cX7_kerb 57 = .ok (.getfield 22, 3) := by decide +kernel
theorem dX7_kerb_60 : decode cX7_kerb 60 = .ok (.iload_n 1, 1) := by decide +kernel
theorem dX7_kerb_61 : decode cX7_kerb 61 = .ok (.iaload, 1) := by decide +kernel
theorem dX7_kerb_62 : decode cX7_kerb 62 = .ok (.goto 22, 3) := by decide +kernel
theorem dX7_kerb_65 : decode cX7_kerb 65 = .ok (.iload_n 2, 1) := by decide +kernel
theorem dX7_kerb_66 : decode cX7_kerb 66 = .ok (.iconst 3, 1) := by decide +kernel
theorem dX7_kerb_67 : decode cX7_kerb 67 = .ok (.if_icmp .ne 12, 3) := by decide +kernel
theorem dX7_kerb_70 : decode cX7_kerb 70 = .ok (.aload_n 0, 1) := by decide +kernel
theorem dX7_kerb_71 : decode cX7_kerb 71 = .ok (.getfield 25, 3) := by decide +kernel
theorem dX7_kerb_74 : decode cX7_kerb 74 = .ok (.iload_n 1, 1) := by decide +kernel
theorem dX7_kerb_75 : decode cX7_kerb 75 = .ok (.iaload, 1) := by decide +kernel
theorem dX7_kerb_76 : decode cX7_kerb 76 = .ok (.goto 8, 3) := by decide +kernel
theorem dX7_kerb_79 : decode cX7_kerb 79 = .ok (.aload_n 0, 1) := by decide +kernel
theorem dX7_kerb_80 : decode cX7_kerb 80 = .ok (.iload_n 1, 1) := by decide +kernel
theorem dX7_kerb_81 : decode cX7_kerb 81 = .ok (.invokevirtual 134, 3) := by decide +kernel
theorem dX7_kerb_84 : decode cX7_kerb 84 = .ok (.ireturn, 1) := by decide +kernel
def T_X7_kerb : tk_Tb := [(0, tk_al 0 1), (1, tk_ic (0) 2), (2, tk_pI 7 0 5), (5, tk_al 0 6), (6, tk_il 1 7), (7, tk_cv 7 M_X7_isKerb 1 10), (10, tk_br (fun x => x = 0) 22 13), (13, tk_il 2 14), (14, tk_ic (0) 15), (15, tk_ic (4) 16), (16, tk_cs M_X7_in 3 19), (19, tk_br (fun x => x = 0) 22 24), (22, tk_ic (-1) 23), (23, tk_rI), (24, tk_il 2 25), (25, tk_br (fun x => x = 0) 28 37), (28, tk_al 0 29), (29, tk_gR 7 11 32), (32, tk_il 1 33), (33, tk_ai 9 34), (34, tk_jmp 84), (37, tk_il 2 38), (38, tk_ic (1) 39), (39, tk_cm (fun x y => x = y) 42 51), (42, tk_al 0 43), (43, tk_gR 7 12 46), (46, tk_il 1 47), (47, tk_ai 9 48), (48, tk_jmp 84), (51, tk_il 2 52), (52, tk_ic (2) 53), (53, tk_cm (fun x y => x = y) 56 65), (56, tk_al 0 57), (57, tk_gR 7 13 60), (60, tk_il 1 61), (61, tk_ai 9 62), (62, tk_jmp 84), (65, tk_il 2 66), (66, tk_ic (3) 67), (67, tk_cm (fun x y => x = y) 70 79), (70, tk_al 0 71), (71, tk_gR 7 14 74), (74, tk_il 1 75), (75, tk_ai 9 76), (76, tk_jmp 84), (79, tk_al 0 80), (80, tk_il 1 81), (81, tk_cv 7 M_X7_thingsOn 1 84), (84, tk_rI)]
set_option maxRecDepth 100000 in
theorem hT_X7_kerb (sc : Option (Nat × (Nat → Int32))) : ∀ x ∈ T_X7_kerb, tk_So sc M_X7_kerb x.1 x.2 := by
  unfold T_X7_kerb
  refine List.forall_mem_cons.mpr ⟨so_aload_n dX7_kerb_0 rfl rfl, ?_⟩
  refine List.forall_mem_cons.mpr ⟨so_iconst dX7_kerb_1 (by decide) rfl, ?_⟩
  refine List.forall_mem_cons.mpr ⟨so_pI (C := RX7) (T := TX7) (N := 29) dX7_kerb_2 (by decide) rfl rfl (by decide) rfl in_X7 wf_X7_62 tyX7 tyX7_ok nmX7 rfl (by decide +kernel) rfl, ?_⟩
  refine List.forall_mem_cons.mpr ⟨so_aload_n dX7_kerb_5 rfl rfl, ?_⟩
  refine List.forall_mem_cons.mpr ⟨so_iload_n dX7_kerb_6 rfl rfl, ?_⟩
  refine List.forall_mem_cons.mpr ⟨so_cv (T := TX7) (N := 29) dX7_kerb_7 mv_X7_isKerb wm_X7_130 (by decide) rfl ⟨rfl, rfl⟩ (by decide) rfl, ?_⟩
  refine List.forall_mem_cons.mpr ⟨so_if_eq dX7_kerb_10 (by decide) rfl, ?_⟩
  refine List.forall_mem_cons.mpr ⟨so_iload_n dX7_kerb_13 rfl rfl, ?_⟩
  refine List.forall_mem_cons.mpr ⟨so_iconst dX7_kerb_14 (by decide) rfl, ?_⟩
  refine List.forall_mem_cons.mpr ⟨so_iconst dX7_kerb_15 (by decide) rfl, ?_⟩
  refine List.forall_mem_cons.mpr ⟨so_cs dX7_kerb_16 mv_X7_in wm_X7_66 ⟨rfl, rfl⟩ (by decide) rfl, ?_⟩
  refine List.forall_mem_cons.mpr ⟨so_if_ne dX7_kerb_19 (by decide) rfl, ?_⟩
  refine List.forall_mem_cons.mpr ⟨so_iconst dX7_kerb_22 (by decide) rfl, ?_⟩
  refine List.forall_mem_cons.mpr ⟨so_rI dX7_kerb_23 rfl, ?_⟩
  refine List.forall_mem_cons.mpr ⟨so_iload_n dX7_kerb_24 rfl rfl, ?_⟩
  refine List.forall_mem_cons.mpr ⟨so_if_ne dX7_kerb_25 (by decide) rfl, ?_⟩
  refine List.forall_mem_cons.mpr ⟨so_aload_n dX7_kerb_28 rfl rfl, ?_⟩
  refine List.forall_mem_cons.mpr ⟨so_gR (C := RX7) (T := TX7) (N := 29) dX7_kerb_29 (by decide) rfl rfl (by decide) rfl in_X7 wf_X7_16 rfl, ?_⟩
  refine List.forall_mem_cons.mpr ⟨so_iload_n dX7_kerb_32 rfl rfl, ?_⟩
  refine List.forall_mem_cons.mpr ⟨so_iaload dX7_kerb_33 rfl, ?_⟩
  refine List.forall_mem_cons.mpr ⟨so_goto dX7_kerb_34 (by decide), ?_⟩
  refine List.forall_mem_cons.mpr ⟨so_iload_n dX7_kerb_37 rfl rfl, ?_⟩
  refine List.forall_mem_cons.mpr ⟨so_iconst dX7_kerb_38 (by decide) rfl, ?_⟩
  refine List.forall_mem_cons.mpr ⟨so_icmp_ne dX7_kerb_39 (by decide) rfl, ?_⟩
  refine List.forall_mem_cons.mpr ⟨so_aload_n dX7_kerb_42 rfl rfl, ?_⟩
  refine List.forall_mem_cons.mpr ⟨so_gR (C := RX7) (T := TX7) (N := 29) dX7_kerb_43 (by decide) rfl rfl (by decide) rfl in_X7 wf_X7_19 rfl, ?_⟩
  refine List.forall_mem_cons.mpr ⟨so_iload_n dX7_kerb_46 rfl rfl, ?_⟩
  refine List.forall_mem_cons.mpr ⟨so_iaload dX7_kerb_47 rfl, ?_⟩
  refine List.forall_mem_cons.mpr ⟨so_goto dX7_kerb_48 (by decide), ?_⟩
  refine List.forall_mem_cons.mpr ⟨so_iload_n dX7_kerb_51 rfl rfl, ?_⟩
  refine List.forall_mem_cons.mpr ⟨so_iconst dX7_kerb_52 (by decide) rfl, ?_⟩
  refine List.forall_mem_cons.mpr ⟨so_icmp_ne dX7_kerb_53 (by decide) rfl, ?_⟩
  refine List.forall_mem_cons.mpr ⟨so_aload_n dX7_kerb_56 rfl rfl, ?_⟩
  refine List.forall_mem_cons.mpr ⟨so_gR (C := RX7) (T := TX7) (N := 29) dX7_kerb_57 (by decide) rfl rfl (by decide) rfl in_X7 wf_X7_22 rfl, ?_⟩
  refine List.forall_mem_cons.mpr ⟨so_iload_n dX7_kerb_60 rfl rfl, ?_⟩
  refine List.forall_mem_cons.mpr ⟨so_iaload dX7_kerb_61 rfl, ?_⟩
  refine List.forall_mem_cons.mpr ⟨so_goto dX7_kerb_62 (by decide), ?_⟩
  refine List.forall_mem_cons.mpr ⟨so_iload_n dX7_kerb_65 rfl rfl, ?_⟩
  refine List.forall_mem_cons.mpr ⟨so_iconst dX7_kerb_66 (by decide) rfl, ?_⟩
  refine List.forall_mem_cons.mpr ⟨so_icmp_ne dX7_kerb_67 (by decide) rfl, ?_⟩
  refine List.forall_mem_cons.mpr ⟨so_aload_n dX7_kerb_70 rfl rfl, ?_⟩
  refine List.forall_mem_cons.mpr ⟨so_gR (C := RX7) (T := TX7) (N := 29) dX7_kerb_71 (by decide) rfl rfl (by decide) rfl in_X7 wf_X7_25 rfl, ?_⟩
  refine List.forall_mem_cons.mpr ⟨so_iload_n dX7_kerb_74 rfl rfl, ?_⟩
  refine List.forall_mem_cons.mpr ⟨so_iaload dX7_kerb_75 rfl, ?_⟩
  refine List.forall_mem_cons.mpr ⟨so_goto dX7_kerb_76 (by decide), ?_⟩
  refine List.forall_mem_cons.mpr ⟨so_aload_n dX7_kerb_79 rfl rfl, ?_⟩
  refine List.forall_mem_cons.mpr ⟨so_iload_n dX7_kerb_80 rfl rfl, ?_⟩
  refine List.forall_mem_cons.mpr ⟨so_cv (T := TX7) (N := 29) dX7_kerb_81 mv_X7_thingsOn wm_X7_134 (by decide) rfl ⟨rfl, rfl⟩ (by decide) rfl, ?_⟩
  refine List.forall_mem_cons.mpr ⟨so_rI dX7_kerb_84 rfl, ?_⟩
  exact fun _ h => absurd h List.not_mem_nil
theorem dX7_thing_0 : decode cX7_thing 0 = .ok (.aload_n 0, 1) := by decide +kernel
theorem dX7_thing_1 : decode cX7_thing 1 = .ok (.iconst 0, 1) := by decide +kernel
theorem dX7_thing_2 : decode cX7_thing 2 = .ok (.putfield 62, 3) := by decide +kernel
theorem dX7_thing_5 : decode cX7_thing 5 = .ok (.aload_n 0, 1) := by decide +kernel
theorem dX7_thing_6 : decode cX7_thing 6 = .ok (.iload_n 1, 1) := by decide +kernel
theorem dX7_thing_7 : decode cX7_thing 7 = .ok (.invokevirtual 137, 3) := by decide +kernel
theorem dX7_thing_10 : decode cX7_thing 10 = .ok (.ifCond .eq 12, 3) := by decide +kernel
theorem dX7_thing_13 : decode cX7_thing 13 = .ok (.iload_n 2, 1) := by decide +kernel
theorem dX7_thing_14 : decode cX7_thing 14 = .ok (.iconst 0, 1) := by decide +kernel
theorem dX7_thing_15 : decode cX7_thing 15 = .ok (.iconst 3, 1) := by decide +kernel
theorem dX7_thing_16 : decode cX7_thing 16 = .ok (.invokestatic 66, 3) := by decide +kernel
theorem dX7_thing_19 : decode cX7_thing 19 = .ok (.ifCond .ne 5, 3) := by decide +kernel
theorem dX7_thing_22 : decode cX7_thing 22 = .ok (.iconst (-1), 1) := by decide +kernel
theorem dX7_thing_23 : decode cX7_thing 23 = .ok (.ireturn, 1) := by decide +kernel
theorem dX7_thing_24 : decode cX7_thing 24 = .ok (.iload_n 2, 1) := by decide +kernel
theorem dX7_thing_25 : decode cX7_thing 25 = .ok (.ifCond .ne 29, 3) := by decide +kernel
theorem dX7_thing_28 : decode cX7_thing 28 = .ok (.aload_n 0, 1) := by decide +kernel
theorem dX7_thing_29 : decode cX7_thing 29 = .ok (.getfield 31, 3) := by decide +kernel
theorem dX7_thing_32 : decode cX7_thing 32 = .ok (.bipush 6, 2) := by decide +kernel
theorem dX7_thing_34 : decode cX7_thing 34 = .ok (.iload_n 1, 1) := by decide +kernel
theorem dX7_thing_35 : decode cX7_thing 35 = .ok (.iadd, 1) := by decide +kernel
theorem dX7_thing_36 : decode cX7_thing 36 = .ok (.iaload, 1) := by decide +kernel
theorem dX7_thing_37 : decode cX7_thing 37 = .ok (.ifCond .le 8, 3) := by decide +kernel
theorem dX7_thing_40 : decode cX7_thing 40 = .ok (.bipush (-9), 2) := by decide +kernel
theorem dX7_thing_42 : decode cX7_thing 42 = .ok (.goto 11, 3) := by decide +kernel
theorem dX7_thing_45 : decode cX7_thing 45 = .ok (.aload_n 0, 1) := by decide +kernel
theorem dX7_thing_46 : decode cX7_thing 46 = .ok (.getfield 31, 3) := by decide +kernel
theorem dX7_thing_49 : decode cX7_thing 49 = .ok (.iconst 1, 1) := by decide +kernel
theorem dX7_thing_50 : decode cX7_thing 50 = .ok (.iload_n 1, 1) := by decide +kernel
theorem dX7_thing_51 : decode cX7_thing 51 = .ok (.iadd, 1) := by decide +kernel
theorem dX7_thing_52 : decode cX7_thing 52 = .ok (.iaload, 1) := by decide +kernel
theorem dX7_thing_53 : decode cX7_thing 53 = .ok (.ireturn, 1) := by decide +kernel
theorem dX7_thing_54 : decode cX7_thing 54 = .ok (.iload_n 2, 1) := by decide +kernel
theorem dX7_thing_55 : decode cX7_thing 55 = .ok (.iconst 1, 1) := by decide +kernel
theorem dX7_thing_56 : decode cX7_thing 56 = .ok (.if_icmp .ne 14, 3) := by decide +kernel
theorem dX7_thing_59 : decode cX7_thing 59 = .ok (.aload_n 0, 1) := by decide +kernel
theorem dX7_thing_60 : decode cX7_thing 60 = .ok (.getfield 31, 3) := by decide +kernel
theorem dX7_thing_63 : decode cX7_thing 63 = .ok (.iconst 1, 1) := by decide +kernel
theorem dX7_thing_64 : decode cX7_thing 64 = .ok (.iload_n 1, 1) := by decide +kernel
theorem dX7_thing_65 : decode cX7_thing 65 = .ok (.iadd, 1) := by decide +kernel
theorem dX7_thing_66 : decode cX7_thing 66 = .ok (.iaload, 1) := by decide +kernel
theorem dX7_thing_67 : decode cX7_thing 67 = .ok (.goto 31, 3) := by decide +kernel
theorem dX7_thing_70 : decode cX7_thing 70 = .ok (.iload_n 2, 1) := by decide +kernel
theorem dX7_thing_71 : decode cX7_thing 71 = .ok (.iconst 2, 1) := by decide +kernel
theorem dX7_thing_72 : decode cX7_thing 72 = .ok (.if_icmp .ne 15, 3) := by decide +kernel
theorem dX7_thing_75 : decode cX7_thing 75 = .ok (.aload_n 0, 1) := by decide +kernel
theorem dX7_thing_76 : decode cX7_thing 76 = .ok (.getfield 31, 3) := by decide +kernel
theorem dX7_thing_79 : decode cX7_thing 79 = .ok (.bipush 6, 2) := by decide +kernel
theorem dX7_thing_81 : decode cX7_thing 81 = .ok (.iload_n 1, 1) := by decide +kernel
theorem dX7_thing_82 : decode cX7_thing 82 = .ok (.iadd, 1) := by decide +kernel
theorem dX7_thing_83 : decode cX7_thing 83 = .ok (.iaload, 1) := by decide +kernel
theorem dX7_thing_84 : decode cX7_thing 84 = .ok (.goto 14, 3) := by decide +kernel
theorem dX7_thing_87 : decode cX7_thing 87 = .ok (.aload_n 0, 1) := by decide +kernel
theorem dX7_thing_88 : decode cX7_thing 88 = .ok (.getfield 31, 3) := by decide +kernel
theorem dX7_thing_91 : decode cX7_thing 91 = .ok (.bipush 11, 2) := by decide +kernel
theorem dX7_thing_93 : decode cX7_thing 93 = .ok (.iaload, 1) := by decide +kernel
theorem dX7_thing_94 : decode cX7_thing 94 = .ok (.iload_n 1, 1) := by decide +kernel
theorem dX7_thing_95 : decode cX7_thing 95 = .ok (.ishr, 1) := by decide +kernel
theorem dX7_thing_96 : decode cX7_thing 96 = .ok (.iconst 1, 1) := by decide +kernel
theorem dX7_thing_97 : decode cX7_thing 97 = .ok (.iand, 1) := by decide +kernel
theorem dX7_thing_98 : decode cX7_thing 98 = .ok (.ireturn, 1) := by decide +kernel
def T_X7_thing : tk_Tb := [(0, tk_al 0 1), (1, tk_ic (0) 2), (2, tk_pI 7 0 5), (5, tk_al 0 6), (6, tk_il 1 7), (7, tk_cv 7 M_X7_isThing 1 10), (10, tk_br (fun x => x = 0) 22 13), (13, tk_il 2 14), (14, tk_ic (0) 15), (15, tk_ic (3) 16), (16, tk_cs M_X7_in 3 19), (19, tk_br (fun x => x = 0) 22 24), (22, tk_ic (-1) 23), (23, tk_rI), (24, tk_il 2 25), (25, tk_br (fun x => x = 0) 28 54), (28, tk_al 0 29), (29, tk_gR 7 16 32), (32, tk_ic (6) 34), (34, tk_il 1 35), (35, tk_bi (fun x y => x + y) 36), (36, tk_ai 9 37), (37, tk_br (fun x => x ≤ 0) 45 40), (40, tk_ic (-9) 42), (42, tk_jmp 53), (45, tk_al 0 46), (46, tk_gR 7 16 49), (49, tk_ic (1) 50), (50, tk_il 1 51), (51, tk_bi (fun x y => x + y) 52), (52, tk_ai 9 53), (53, tk_rI), (54, tk_il 2 55), (55, tk_ic (1) 56), (56, tk_cm (fun x y => x = y) 59 70), (59, tk_al 0 60), (60, tk_gR 7 16 63), (63, tk_ic (1) 64), (64, tk_il 1 65), (65, tk_bi (fun x y => x + y) 66), (66, tk_ai 9 67), (67, tk_jmp 98), (70, tk_il 2 71), (71, tk_ic (2) 72), (72, tk_cm (fun x y => x = y) 75 87), (75, tk_al 0 76), (76, tk_gR 7 16 79), (79, tk_ic (6) 81), (81, tk_il 1 82), (82, tk_bi (fun x y => x + y) 83), (83, tk_ai 9 84), (84, tk_jmp 98), (87, tk_al 0 88), (88, tk_gR 7 16 91), (91, tk_ic (11) 93), (93, tk_ai 9 94), (94, tk_il 1 95), (95, tk_bi (fun x y => x >>> (y &&& 31)) 96), (96, tk_ic (1) 97), (97, tk_bi (fun x y => x &&& y) 98), (98, tk_rI)]
set_option maxRecDepth 100000 in
theorem hT_X7_thing (sc : Option (Nat × (Nat → Int32))) : ∀ x ∈ T_X7_thing, tk_So sc M_X7_thing x.1 x.2 := by
  unfold T_X7_thing
  refine List.forall_mem_cons.mpr ⟨so_aload_n dX7_thing_0 rfl rfl, ?_⟩
  refine List.forall_mem_cons.mpr ⟨so_iconst dX7_thing_1 (by decide) rfl, ?_⟩
  refine List.forall_mem_cons.mpr ⟨so_pI (C := RX7) (T := TX7) (N := 29) dX7_thing_2 (by decide) rfl rfl (by decide) rfl in_X7 wf_X7_62 tyX7 tyX7_ok nmX7 rfl (by decide +kernel) rfl, ?_⟩
  refine List.forall_mem_cons.mpr ⟨so_aload_n dX7_thing_5 rfl rfl, ?_⟩
  refine List.forall_mem_cons.mpr ⟨so_iload_n dX7_thing_6 rfl rfl, ?_⟩
  refine List.forall_mem_cons.mpr ⟨so_cv (T := TX7) (N := 29) dX7_thing_7 mv_X7_isThing wm_X7_137 (by decide) rfl ⟨rfl, rfl⟩ (by decide) rfl, ?_⟩
  refine List.forall_mem_cons.mpr ⟨so_if_eq dX7_thing_10 (by decide) rfl, ?_⟩
  refine List.forall_mem_cons.mpr ⟨so_iload_n dX7_thing_13 rfl rfl, ?_⟩
  refine List.forall_mem_cons.mpr ⟨so_iconst dX7_thing_14 (by decide) rfl, ?_⟩
  refine List.forall_mem_cons.mpr ⟨so_iconst dX7_thing_15 (by decide) rfl, ?_⟩
  refine List.forall_mem_cons.mpr ⟨so_cs dX7_thing_16 mv_X7_in wm_X7_66 ⟨rfl, rfl⟩ (by decide) rfl, ?_⟩
  refine List.forall_mem_cons.mpr ⟨so_if_ne dX7_thing_19 (by decide) rfl, ?_⟩
  refine List.forall_mem_cons.mpr ⟨so_iconst dX7_thing_22 (by decide) rfl, ?_⟩
  refine List.forall_mem_cons.mpr ⟨so_rI dX7_thing_23 rfl, ?_⟩
  refine List.forall_mem_cons.mpr ⟨so_iload_n dX7_thing_24 rfl rfl, ?_⟩
  refine List.forall_mem_cons.mpr ⟨so_if_ne dX7_thing_25 (by decide) rfl, ?_⟩
  refine List.forall_mem_cons.mpr ⟨so_aload_n dX7_thing_28 rfl rfl, ?_⟩
  refine List.forall_mem_cons.mpr ⟨so_gR (C := RX7) (T := TX7) (N := 29) dX7_thing_29 (by decide) rfl rfl (by decide) rfl in_X7 wf_X7_31 rfl, ?_⟩
  refine List.forall_mem_cons.mpr ⟨so_bipush dX7_thing_32 (by decide) rfl, ?_⟩
  refine List.forall_mem_cons.mpr ⟨so_iload_n dX7_thing_34 rfl rfl, ?_⟩
  refine List.forall_mem_cons.mpr ⟨so_iadd dX7_thing_35 rfl, ?_⟩
  refine List.forall_mem_cons.mpr ⟨so_iaload dX7_thing_36 rfl, ?_⟩
  refine List.forall_mem_cons.mpr ⟨so_if_le dX7_thing_37 (by decide) rfl, ?_⟩
  refine List.forall_mem_cons.mpr ⟨so_bipush dX7_thing_40 (by decide) rfl, ?_⟩
  refine List.forall_mem_cons.mpr ⟨so_goto dX7_thing_42 (by decide), ?_⟩
  refine List.forall_mem_cons.mpr ⟨so_aload_n dX7_thing_45 rfl rfl, ?_⟩
  refine List.forall_mem_cons.mpr ⟨so_gR (C := RX7) (T := TX7) (N := 29) dX7_thing_46 (by decide) rfl rfl (by decide) rfl in_X7 wf_X7_31 rfl, ?_⟩
  refine List.forall_mem_cons.mpr ⟨so_iconst dX7_thing_49 (by decide) rfl, ?_⟩
  refine List.forall_mem_cons.mpr ⟨so_iload_n dX7_thing_50 rfl rfl, ?_⟩
  refine List.forall_mem_cons.mpr ⟨so_iadd dX7_thing_51 rfl, ?_⟩
  refine List.forall_mem_cons.mpr ⟨so_iaload dX7_thing_52 rfl, ?_⟩
  refine List.forall_mem_cons.mpr ⟨so_rI dX7_thing_53 rfl, ?_⟩
  refine List.forall_mem_cons.mpr ⟨so_iload_n dX7_thing_54 rfl rfl, ?_⟩
  refine List.forall_mem_cons.mpr ⟨so_iconst dX7_thing_55 (by decide) rfl, ?_⟩
  refine List.forall_mem_cons.mpr ⟨so_icmp_ne dX7_thing_56 (by decide) rfl, ?_⟩
  refine List.forall_mem_cons.mpr ⟨so_aload_n dX7_thing_59 rfl rfl, ?_⟩
  refine List.forall_mem_cons.mpr ⟨so_gR (C := RX7) (T := TX7) (N := 29) dX7_thing_60 (by decide) rfl rfl (by decide) rfl in_X7 wf_X7_31 rfl, ?_⟩
  refine List.forall_mem_cons.mpr ⟨so_iconst dX7_thing_63 (by decide) rfl, ?_⟩
  refine List.forall_mem_cons.mpr ⟨so_iload_n dX7_thing_64 rfl rfl, ?_⟩
  refine List.forall_mem_cons.mpr ⟨so_iadd dX7_thing_65 rfl, ?_⟩
  refine List.forall_mem_cons.mpr ⟨so_iaload dX7_thing_66 rfl, ?_⟩
  refine List.forall_mem_cons.mpr ⟨so_goto dX7_thing_67 (by decide), ?_⟩
  refine List.forall_mem_cons.mpr ⟨so_iload_n dX7_thing_70 rfl rfl, ?_⟩
  refine List.forall_mem_cons.mpr ⟨so_iconst dX7_thing_71 (by decide) rfl, ?_⟩
  refine List.forall_mem_cons.mpr ⟨so_icmp_ne dX7_thing_72 (by decide) rfl, ?_⟩
  refine List.forall_mem_cons.mpr ⟨so_aload_n dX7_thing_75 rfl rfl, ?_⟩
  refine List.forall_mem_cons.mpr ⟨so_gR (C := RX7) (T := TX7) (N := 29) dX7_thing_76 (by decide) rfl rfl (by decide) rfl in_X7 wf_X7_31 rfl, ?_⟩
  refine List.forall_mem_cons.mpr ⟨so_bipush dX7_thing_79 (by decide) rfl, ?_⟩
  refine List.forall_mem_cons.mpr ⟨so_iload_n dX7_thing_81 rfl rfl, ?_⟩
  refine List.forall_mem_cons.mpr ⟨so_iadd dX7_thing_82 rfl, ?_⟩
  refine List.forall_mem_cons.mpr ⟨so_iaload dX7_thing_83 rfl, ?_⟩
  refine List.forall_mem_cons.mpr ⟨so_goto dX7_thing_84 (by decide), ?_⟩
  refine List.forall_mem_cons.mpr ⟨so_aload_n dX7_thing_87 rfl rfl, ?_⟩
  refine List.forall_mem_cons.mpr ⟨so_gR (C := RX7) (T := TX7) (N := 29) dX7_thing_88 (by decide) rfl rfl (by decide) rfl in_X7 wf_X7_31 rfl, ?_⟩
  refine List.forall_mem_cons.mpr ⟨so_bipush dX7_thing_91 (by decide) rfl, ?_⟩
  refine List.forall_mem_cons.mpr ⟨so_iaload dX7_thing_93 rfl, ?_⟩
  refine List.forall_mem_cons.mpr ⟨so_iload_n dX7_thing_94 rfl rfl, ?_⟩
  refine List.forall_mem_cons.mpr ⟨so_ishr dX7_thing_95 rfl, ?_⟩
  refine List.forall_mem_cons.mpr ⟨so_iconst dX7_thing_96 (by decide) rfl, ?_⟩
  refine List.forall_mem_cons.mpr ⟨so_iand dX7_thing_97 rfl, ?_⟩
  refine List.forall_mem_cons.mpr ⟨so_rI dX7_thing_98 rfl, ?_⟩
  exact fun _ h => absurd h List.not_mem_nil
theorem dX7_now_0 : decode cX7_now 0 = .ok (.aload_n 0, 1) := by decide +kernel
theorem dX7_now_1 : decode cX7_now 1 = .ok (.iconst 0, 1) := by decide +kernel
theorem dX7_now_2 : decode cX7_now 2 = .ok (.putfield 62, 3) := by decide +kernel
theorem dX7_now_5 : decode cX7_now 5 = .ok (.iload_n 1, 1) := by decide +kernel
theorem dX7_now_6 : decode cX7_now 6 = .ok (.iconst 0, 1) := by decide +kernel
theorem dX7_now_7 : decode cX7_now 7 = .ok (.iconst 4, 1) := by decide +kernel
theorem dX7_now_8 : decode cX7_now 8 = .ok (.invokestatic 66, 3) := by decide +kernel
theorem dX7_now_11 : decode cX7_now 11 = .ok (.ifCond .ne 5, 3) := by decide +kernel
theorem dX7_now_14 : decode cX7_now 14 = .ok (.iconst (-1), 1) := by decide +kernel
theorem dX7_now_15 : decode cX7_now 15 = .ok (.ireturn, 1) := by decide +kernel
theorem dX7_now_16 : decode cX7_now 16 = .ok (.iload_n 1, 1) := by decide +kernel
theorem dX7_now_17 : decode cX7_now 17 = .ok (.ifCond .ne 12, 3) := by decide +kernel
theorem dX7_now_20 : decode cX7_now 20 = .ok (.aload_n 0, 1) := by decide +kernel
theorem dX7_now_21 : decode cX7_now 21 = .ok (.getfield 31, 3) := by decide +kernel
theorem dX7_now_24 : decode cX7_now 24 = .ok (.iconst 0, 1) := by decide +kernel
theorem dX7_now_25 : decode cX7_now 25 = .ok (.iaload, 1) := by decide +kernel
theorem dX7_now_26 : decode cX7_now 26 = .ok (.goto 58, 3) := by decide +kernel
theorem dX7_now_29 : decode cX7_now 29 = .ok (.iload_n 1, 1) := by decide +kernel
theorem dX7_now_30 : decode cX7_now 30 = .ok (.iconst 1, 1) := by decide +kernel
theorem dX7_now_31 : decode cX7_now 31 = .ok (.if_icmp .ne 16, 3) := by decide +kernel
theorem dX7_now_34 : decode cX7_now 34 = .ok (.aload_n 0, 1) := by decide +kernel
theorem dX7_now_35 : decode cX7_now 35 = .ok (.aload_n 0, 1) := by decide +kernel
theorem dX7_now_36 : decode cX7_now 36 = .ok (.getfield 31, 3) := by decide +kernel
theorem dX7_now_39 : decode cX7_now 39 = .ok (.iconst 0, 1) := by decide +kernel
theorem dX7_now_40 : decode cX7_now 40 = .ok (.iaload, 1) := by decide +kernel
theorem dX7_now_41 : decode cX7_now 41 = .ok (.invokevirtual 127, 3) := by decide +kernel
theorem dX7_now_44 : decode cX7_now 44 = .ok (.goto 40, 3) := by decide +kernel
theorem dX7_now_47 : decode cX7_now 47 = .ok (.iload_n 1, 1) := by decide +kernel
theorem dX7_now_48 : decode cX7_now 48 = .ok (.iconst 2, 1) := by decide +kernel
theorem dX7_now_49 : decode cX7_now 49 = .ok (.if_icmp .ne 13, 3) := by decide +kernel
theorem dX7_now_52 : decode cX7_now 52 = .ok (.aload_n 0, 1) := by decide +kernel
theorem dX7_now_53 : decode cX7_now 53 = .ok (.getfield 31, 3) := by decide +kernel
theorem dX7_now_56 : decode cX7_now 56 = .ok (.bipush 12, 2) := by decide +kernel
theorem dX7_now_58 : decode cX7_now 58 = .ok (.iaload, 1) := by decide +kernel
theorem dX7_now_59 : decode cX7_now 59 = .ok (.goto 25, 3) := by decide +kernel
theorem dX7_now_62 : decode cX7_now 62 = .ok (.iload_n 1, 1) := by decide +kernel
theorem dX7_now_63 : decode cX7_now 63 = .ok (.iconst 3, 1) := by decide +kernel
theorem dX7_now_64 : decode cX7_now 64 = .ok (.if_icmp .ne 16, 3) := by decide +kernel
theorem dX7_now_67 : decode cX7_now 67 = .ok (.aload_n 0, 1) := by decide +kernel
theorem dX7_now_68 : decode cX7_now 68 = .ok (.aload_n 0, 1) := by decide +kernel
theorem dX7_now_69 : decode cX7_now 69 = .ok (.getfield 31, 3) := by decide +kernel
theorem dX7_now_72 : decode cX7_now 72 = .ok (.iconst 0, 1) := by decide +kernel
theorem dX7_now_73 : decode cX7_now 73 = .ok (.iaload, 1) := by decide +kernel
theorem dX7_now_74 : decode cX7_now 74 = .ok (.invokevirtual 140, 3) := by decide +kernel
theorem dX7_now_77 : decode cX7_now 77 = .ok (.goto 7, 3) := by decide +kernel
theorem dX7_now_80 : decode cX7_now 80 = .ok (.aload_n 0, 1) := by decide +kernel
theorem dX7_now_81 : decode cX7_now 81 = .ok (.getfield 124, 3) := by decide +kernel
theorem dX7_now_84 : decode cX7_now 84 = .ok (.ireturn, 1) := by decide +kernel
def T_X7_now : tk_Tb := [(0, tk_al 0 1), (1, tk_ic (0) 2), (2, tk_pI 7 0 5), (5, tk_il 1 6), (6, tk_ic (0) 7), (7, tk_ic (4) 8), (8, tk_cs M_X7_in 3 11), (11, tk_br (fun x => x = 0) 14 16), (14, tk_ic (-1) 15), (15, tk_rI), (16, tk_il 1 17), (17, tk_br (fun x => x = 0) 20 29), (20, tk_al 0 21), (21, tk_gR 7 16 24), (24, tk_ic (0) 25), (25, tk_ai 9 26), (26, tk_jmp 84), (29, tk_il 1 30), (30, tk_ic (1) 31), (31, tk_cm (fun x y => x = y) 34 47), (34, tk_al 0 35), (35, tk_al 0 36), (36, tk_gR 7 16 39), (39, tk_ic (0) 40), (40, tk_ai 9 41), (41, tk_cv 7 M_X7_levelOf 1 44), (44, tk_jmp 84), (47, tk_il 1 48), (48, tk_ic (2) 49), (49, tk_cm (fun x y => x = y) 52 62), (52, tk_al 0 53), (53, tk_gR 7 16 56), (56, tk_ic (12) 58), (58, tk_ai 9 59), (59, tk_jmp 84), (62, tk_il 1 63), (63, tk_ic (3) 64), (64, tk_cm (fun x y => x = y) 67 80), (67, tk_al 0 68), (68, tk_al 0 69), (69, tk_gR 7 16 72), (72, tk_ic (0) 73), (73, tk_ai 9 74), (74, tk_cv 7 M_X7_floodIn 1 77), (77, tk_jmp 84), (80, tk_al 0 81), (81, tk_gI 7 20 84), (84, tk_rI)]
set_option maxRecDepth 100000 in
theorem hT_X7_now (sc : Option (Nat × (Nat → Int32))) : ∀ x ∈ T_X7_now, tk_So sc M_X7_now x.1 x.2 := by
  unfold T_X7_now
  refine List.forall_mem_cons.mpr ⟨so_aload_n dX7_now_0 rfl rfl, ?_⟩
  refine List.forall_mem_cons.mpr ⟨so_iconst dX7_now_1 (by decide) rfl, ?_⟩
  refine List.forall_mem_cons.mpr ⟨so_pI (C := RX7) (T := TX7) (N := 29) dX7_now_2 (by decide) rfl rfl (by decide) rfl in_X7 wf_X7_62 tyX7 tyX7_ok nmX7 rfl (by decide +kernel) rfl, ?_⟩
  refine List.forall_mem_cons.mpr ⟨so_iload_n dX7_now_5 rfl rfl, ?_⟩
  refine List.forall_mem_cons.mpr ⟨so_iconst dX7_now_6 (by decide) rfl, ?_⟩
  refine List.forall_mem_cons.mpr ⟨so_iconst dX7_now_7 (by decide) rfl, ?_⟩
  refine List.forall_mem_cons.mpr ⟨so_cs dX7_now_8 mv_X7_in wm_X7_66 ⟨rfl, rfl⟩ (by decide) rfl, ?_⟩
  refine List.forall_mem_cons.mpr ⟨so_if_ne dX7_now_11 (by decide) rfl, ?_⟩
  refine List.forall_mem_cons.mpr ⟨so_iconst dX7_now_14 (by decide) rfl, ?_⟩
  refine List.forall_mem_cons.mpr ⟨so_rI dX7_now_15 rfl, ?_⟩
  refine List.forall_mem_cons.mpr ⟨so_iload_n dX7_now_16 rfl rfl, ?_⟩
  refine List.forall_mem_cons.mpr ⟨so_if_ne dX7_now_17 (by decide) rfl, ?_⟩
  refine List.forall_mem_cons.mpr ⟨so_aload_n dX7_now_20 rfl rfl, ?_⟩
  refine List.forall_mem_cons.mpr ⟨so_gR (C := RX7) (T := TX7) (N := 29) dX7_now_21 (by decide) rfl rfl (by decide) rfl in_X7 wf_X7_31 rfl, ?_⟩
  refine List.forall_mem_cons.mpr ⟨so_iconst dX7_now_24 (by decide) rfl, ?_⟩
  refine List.forall_mem_cons.mpr ⟨so_iaload dX7_now_25 rfl, ?_⟩
  refine List.forall_mem_cons.mpr ⟨so_goto dX7_now_26 (by decide), ?_⟩
  refine List.forall_mem_cons.mpr ⟨so_iload_n dX7_now_29 rfl rfl, ?_⟩
  refine List.forall_mem_cons.mpr ⟨so_iconst dX7_now_30 (by decide) rfl, ?_⟩
  refine List.forall_mem_cons.mpr ⟨so_icmp_ne dX7_now_31 (by decide) rfl, ?_⟩
  refine List.forall_mem_cons.mpr ⟨so_aload_n dX7_now_34 rfl rfl, ?_⟩
  refine List.forall_mem_cons.mpr ⟨so_aload_n dX7_now_35 rfl rfl, ?_⟩
  refine List.forall_mem_cons.mpr ⟨so_gR (C := RX7) (T := TX7) (N := 29) dX7_now_36 (by decide) rfl rfl (by decide) rfl in_X7 wf_X7_31 rfl, ?_⟩
  refine List.forall_mem_cons.mpr ⟨so_iconst dX7_now_39 (by decide) rfl, ?_⟩
  refine List.forall_mem_cons.mpr ⟨so_iaload dX7_now_40 rfl, ?_⟩
  refine List.forall_mem_cons.mpr ⟨so_cv (T := TX7) (N := 29) dX7_now_41 mv_X7_levelOf wm_X7_127 (by decide) rfl ⟨rfl, rfl⟩ (by decide) rfl, ?_⟩
  refine List.forall_mem_cons.mpr ⟨so_goto dX7_now_44 (by decide), ?_⟩
  refine List.forall_mem_cons.mpr ⟨so_iload_n dX7_now_47 rfl rfl, ?_⟩
  refine List.forall_mem_cons.mpr ⟨so_iconst dX7_now_48 (by decide) rfl, ?_⟩
  refine List.forall_mem_cons.mpr ⟨so_icmp_ne dX7_now_49 (by decide) rfl, ?_⟩
  refine List.forall_mem_cons.mpr ⟨so_aload_n dX7_now_52 rfl rfl, ?_⟩
  refine List.forall_mem_cons.mpr ⟨so_gR (C := RX7) (T := TX7) (N := 29) dX7_now_53 (by decide) rfl rfl (by decide) rfl in_X7 wf_X7_31 rfl, ?_⟩
  refine List.forall_mem_cons.mpr ⟨so_bipush dX7_now_56 (by decide) rfl, ?_⟩
  refine List.forall_mem_cons.mpr ⟨so_iaload dX7_now_58 rfl, ?_⟩
  refine List.forall_mem_cons.mpr ⟨so_goto dX7_now_59 (by decide), ?_⟩
  refine List.forall_mem_cons.mpr ⟨so_iload_n dX7_now_62 rfl rfl, ?_⟩
  refine List.forall_mem_cons.mpr ⟨so_iconst dX7_now_63 (by decide) rfl, ?_⟩
  refine List.forall_mem_cons.mpr ⟨so_icmp_ne dX7_now_64 (by decide) rfl, ?_⟩
  refine List.forall_mem_cons.mpr ⟨so_aload_n dX7_now_67 rfl rfl, ?_⟩
  refine List.forall_mem_cons.mpr ⟨so_aload_n dX7_now_68 rfl rfl, ?_⟩
  refine List.forall_mem_cons.mpr ⟨so_gR (C := RX7) (T := TX7) (N := 29) dX7_now_69 (by decide) rfl rfl (by decide) rfl in_X7 wf_X7_31 rfl, ?_⟩
  refine List.forall_mem_cons.mpr ⟨so_iconst dX7_now_72 (by decide) rfl, ?_⟩
  refine List.forall_mem_cons.mpr ⟨so_iaload dX7_now_73 rfl, ?_⟩
  refine List.forall_mem_cons.mpr ⟨so_cv (T := TX7) (N := 29) dX7_now_74 mv_X7_floodIn wm_X7_140 (by decide) rfl ⟨rfl, rfl⟩ (by decide) rfl, ?_⟩
  refine List.forall_mem_cons.mpr ⟨so_goto dX7_now_77 (by decide), ?_⟩
  refine List.forall_mem_cons.mpr ⟨so_aload_n dX7_now_80 rfl rfl, ?_⟩
  refine List.forall_mem_cons.mpr ⟨so_gI (C := RX7) (T := TX7) (N := 29) dX7_now_81 (by decide) rfl rfl (by decide) rfl in_X7 wf_X7_124 rfl, ?_⟩
  refine List.forall_mem_cons.mpr ⟨so_rI dX7_now_84 rfl, ?_⟩
  exact fun _ h => absurd h List.not_mem_nil
theorem dX7_notes_0 : decode cX7_notes 0 = .ok (.aload_n 0, 1) := by decide +kernel
theorem dX7_notes_1 : decode cX7_notes 1 = .ok (.getfield 124, 3) := by decide +kernel
theorem dX7_notes_4 : decode cX7_notes 4 = .ok (.bipush 10, 2) := by decide +kernel
theorem dX7_notes_6 : decode cX7_notes 6 = .ok (.if_icmp .ne 38, 3) := by decide +kernel
theorem dX7_notes_9 : decode cX7_notes 9 = .ok (.iconst 0, 1) := by decide +kernel
theorem dX7_notes_10 : decode cX7_notes 10 = .ok (.istore_n 1, 1) := by decide +kernel
theorem dX7_notes_11 : decode cX7_notes 11 = .ok (.iload_n 1, 1) := by decide +kernel
theorem dX7_notes_12 : decode cX7_notes 12 = .ok (.bipush 117, 2) := by decide +kernel
theorem dX7_notes_14 : decode cX7_notes 14 = .ok (.if_icmp .ge 24, 3) := by decide +kernel
theorem dX7_notes_17 : decode cX7_notes 17 = .ok (.aload_n 0, 1) := by decide +kernel
theorem dX7_notes_18 : decode cX7_notes 18 = .ok (.getfield 41, 3) := by decide +kernel
theorem dX7_notes_21 : decode cX7_notes 21 = .ok (.iload_n 1, 1) := by decide +kernel
theorem dX7_notes_22 : decode cX7_notes 22 = .ok (.aload_n 0, 1) := by decide +kernel
theorem dX7_notes_23 : decode cX7_notes 23 = .ok (.getfield 41, 3) := by decide +kernel
theorem dX7_notes_26 : decode cX7_notes 26 = .ok (.iload_n 1, 1) := by decide +kernel
theorem dX7_notes_27 : decode cX7_notes 27 = .ok (.bipush 13, 2) := by decide +kernel
theorem dX7_notes_29 : decode cX7_notes 29 = .ok (.iadd, 1) := by decide +kernel
theorem dX7_notes_30 : decode cX7_notes 30 = .ok (.iaload, 1) := by decide +kernel
theorem dX7_notes_31 : decode cX7_notes 31 = .ok (.iastore, 1) := by decide +kernel
theorem dX7_notes_32 : decode cX7_notes 32 = .ok (.iinc 1 1, 3) := by decide +kernel
theorem dX7_notes_35 : decode cX7_notes 35 = .ok (.goto (-24), 3) := by decide +kernel
theorem dX7_notes_38 : decode cX7_notes 38 = .ok (.aload_n 0, 1) := by decide +kernel
theorem dX7_notes_39 : decode cX7_notes 39 = .ok (.bipush 9, 2) := by decide +kernel
theorem dX7_notes_41 : decode cX7_notes 41 = .ok (.putfield 124, 3) := by decide +kernel
theorem dX7_notes_44 : decode cX7_notes 44 = .ok (.iconst 0, 1) := by decide +kernel
theorem dX7_notes_45 : decode cX7_notes 45 = .ok (.istore_n 1, 1) := by decide +kernel
theorem dX7_notes_46 : decode cX7_notes 46 = .ok (.iload_n 1, 1) := by decide +kernel
theorem dX7_notes_47 : decode cX7_notes 47 = .ok (.bipush 13, 2) := by decide +kernel
theorem dX7_notes_49 : decode cX7_notes 49 = .ok (.if_icmp .ge 29, 3) := by decide +kernel
theorem dX7_notes_52 : decode cX7_notes 52 = .ok (.aload_n 0, 1) := by decide +kernel
theorem dX7_notes_53 : decode cX7_notes 53 = .ok (.getfield 41, 3) := by decide +kernel
theorem dX7_notes_56 : decode cX7_notes 56 = .ok (.bipush 13, 2) := by decide +kernel
theorem dX7_notes_58 : decode cX7_notes 58 = .ok (.aload_n 0, 1) := by decide +kernel
theorem dX7_notes_59 : decode cX7_notes 59 = .ok (.getfield 124, 3) := by decide +kernel
theorem dX7_notes_62 : decode cX7_notes 62 = .ok (.imul, 1) := by decide +kernel
theorem dX7_notes_63 : decode cX7_notes 63 = .ok (.iload_n 1, 1) := by decide +kernel
theorem dX7_notes_64 : decode cX7_notes 64 = .ok (.iadd, 1) := by decide +kernel
theorem dX7_notes_65 : decode cX7_notes 65 = .ok (.aload_n 0, 1) := by decide +kernel
theorem dX7_notes_66 : decode cX7_notes 66 = .ok (.getfield 31, 3) := by decide +kernel
theorem dX7_notes_69 : decode cX7_notes 69 = .ok (.iload_n 1, 1) := by decide +kernel
theorem dX7_notes_70 : decode cX7_notes 70 = .ok (.iaload, 1) := by decide +kernel
theorem dX7_notes_71 : decode cX7_notes 71 = .ok (.iastore, 1) := by decide +kernel
theorem dX7_notes_72 : decode cX7_notes 72 = .ok (.iinc 1 1, 3) := by decide +kernel
theorem dX7_notes_75 : decode cX7_notes 75 = .ok (.goto (-29), 3) := by decide +kernel
theorem dX7_notes_78 : decode cX7_notes 78 = .ok (.aload_n 0, 1) := by decide +kernel
theorem dX7_notes_79 : decode cX7_notes 79 = .ok (.dup, 1) := by decide +kernel
theorem dX7_notes_80 : decode cX7_notes 80 = .ok (.getfield 124, 3) := by decide +kernel
theorem dX7_notes_83 : decode cX7_notes 83 = .ok (.iconst 1, 1) := by decide +kernel
theorem dX7_notes_84 : decode cX7_notes 84 = .ok (.iadd, 1) := by decide +kernel
theorem dX7_notes_85 : decode cX7_notes 85 = .ok (.putfield 124, 3) := by decide +kernel
theorem dX7_notes_88 : decode cX7_notes 88 = .ok (.return_, 1) := by decide +kernel
def T_X7_notes : tk_Tb := [(0, tk_al 0 1), (1, tk_gI 7 20 4), (4, tk_ic (10) 6), (6, tk_cm (fun x y => x = y) 9 44), (9, tk_ic (0) 10), (10, tk_sI 1 11), (11, tk_il 1 12), (12, tk_ic (117) 14), (14, tk_cm (fun x y => y ≤ x) 38 17), (17, tk_al 0 18), (18, tk_gR 7 19 21), (21, tk_il 1 22), (22, tk_al 0 23), (23, tk_gR 7 19 26), (26, tk_il 1 27), (27, tk_ic (13) 29), (29, tk_bi (fun x y => x + y) 30), (30, tk_ai 9 31), (31, tk_si 9 (fun x => x) 32), (32, tk_inc 1 (1) 35), (35, tk_jmp 11), (38, tk_al 0 39), (39, tk_ic (9) 41), (41, tk_pI 7 20 44), (44, tk_ic (0) 45), (45, tk_sI 1 46), (46, tk_il 1 47), (47, tk_ic (13) 49), (49, tk_cm (fun x y => y ≤ x) 78 52), (52, tk_al 0 53), (53, tk_gR 7 19 56), (56, tk_ic (13) 58), (58, tk_al 0 59), (59, tk_gI 7 20 62), (62, tk_bi (fun x y => x * y) 63), (63, tk_il 1 64), (64, tk_bi (fun x y => x + y) 65), (65, tk_al 0 66), (66, tk_gR 7 16 69), (69, tk_il 1 70), (70, tk_ai 9 71), (71, tk_si 9 (fun x => x) 72), (72, tk_inc 1 (1) 75), (75, tk_jmp 46), (78, tk_al 0 79), (79, tk_dup 80), (80, tk_gI 7 20 83), (83, tk_ic (1) 84), (84, tk_bi (fun x y => x + y) 85), (85, tk_pI 7 20 88), (88, tk_rV)]
set_option maxRecDepth 100000 in
theorem hT_X7_notes (sc : Option (Nat × (Nat → Int32))) : ∀ x ∈ T_X7_notes, tk_So sc M_X7_notes x.1 x.2 := by
  unfold T_X7_notes
  refine List.forall_mem_cons.mpr ⟨so_aload_n dX7_notes_0 rfl rfl, ?_⟩
  refine List.forall_mem_cons.mpr ⟨so_gI (C := RX7) (T := TX7) (N := 29) dX7_notes_1 (by decide) rfl rfl (by decide) rfl in_X7 wf_X7_124 rfl, ?_⟩
  refine List.forall_mem_cons.mpr ⟨so_bipush dX7_notes_4 (by decide) rfl, ?_⟩
  refine List.forall_mem_cons.mpr ⟨so_icmp_ne dX7_notes_6 (by decide) rfl, ?_⟩
  refine List.forall_mem_cons.mpr ⟨so_iconst dX7_notes_9 (by decide) rfl, ?_⟩
  refine List.forall_mem_cons.mpr ⟨so_istore_n dX7_notes_10 rfl rfl, ?_⟩
  refine List.forall_mem_cons.mpr ⟨so_iload_n dX7_notes_11 rfl rfl, ?_⟩
  refine List.forall_mem_cons.mpr ⟨so_bipush dX7_notes_12 (by decide) rfl, ?_⟩
  refine List.forall_mem_cons.mpr ⟨so_icmp_ge dX7_notes_14 (by decide) rfl, ?_⟩
  refine List.forall_mem_cons.mpr ⟨so_aload_n dX7_notes_17 rfl rfl, ?_⟩
  refine List.forall_mem_cons.mpr ⟨so_gR (C := RX7) (T := TX7) (N := 29) dX7_notes_18 (by decide) rfl rfl (by decide) rfl in_X7 wf_X7_41 rfl, ?_⟩
  refine List.forall_mem_cons.mpr ⟨so_iload_n dX7_notes_21 rfl rfl, ?_⟩
  refine List.forall_mem_cons.mpr ⟨so_aload_n dX7_notes_22 rfl rfl, ?_⟩
  refine List.forall_mem_cons.mpr ⟨so_gR (C := RX7) (T := TX7) (N := 29) dX7_notes_23 (by decide) rfl rfl (by decide) rfl in_X7 wf_X7_41 rfl, ?_⟩
  refine List.forall_mem_cons.mpr ⟨so_iload_n dX7_notes_26 rfl rfl, ?_⟩
  refine List.forall_mem_cons.mpr ⟨so_bipush dX7_notes_27 (by decide) rfl, ?_⟩
  refine List.forall_mem_cons.mpr ⟨so_iadd dX7_notes_29 rfl, ?_⟩
  refine List.forall_mem_cons.mpr ⟨so_iaload dX7_notes_30 rfl, ?_⟩
  refine List.forall_mem_cons.mpr ⟨so_iastore dX7_notes_31 rfl, ?_⟩
  refine List.forall_mem_cons.mpr ⟨so_iinc dX7_notes_32 (by decide) rfl, ?_⟩
  refine List.forall_mem_cons.mpr ⟨so_goto dX7_notes_35 (by decide), ?_⟩
  refine List.forall_mem_cons.mpr ⟨so_aload_n dX7_notes_38 rfl rfl, ?_⟩
  refine List.forall_mem_cons.mpr ⟨so_bipush dX7_notes_39 (by decide) rfl, ?_⟩
  refine List.forall_mem_cons.mpr ⟨so_pI (C := RX7) (T := TX7) (N := 29) dX7_notes_41 (by decide) rfl rfl (by decide) rfl in_X7 wf_X7_124 tyX7 tyX7_ok nmX7 rfl (by decide +kernel) rfl, ?_⟩
  refine List.forall_mem_cons.mpr ⟨so_iconst dX7_notes_44 (by decide) rfl, ?_⟩
  refine List.forall_mem_cons.mpr ⟨so_istore_n dX7_notes_45 rfl rfl, ?_⟩
  refine List.forall_mem_cons.mpr ⟨so_iload_n dX7_notes_46 rfl rfl, ?_⟩
  refine List.forall_mem_cons.mpr ⟨so_bipush dX7_notes_47 (by decide) rfl, ?_⟩
  refine List.forall_mem_cons.mpr ⟨so_icmp_ge dX7_notes_49 (by decide) rfl, ?_⟩
  refine List.forall_mem_cons.mpr ⟨so_aload_n dX7_notes_52 rfl rfl, ?_⟩
  refine List.forall_mem_cons.mpr ⟨so_gR (C := RX7) (T := TX7) (N := 29) dX7_notes_53 (by decide) rfl rfl (by decide) rfl in_X7 wf_X7_41 rfl, ?_⟩
  refine List.forall_mem_cons.mpr ⟨so_bipush dX7_notes_56 (by decide) rfl, ?_⟩
  refine List.forall_mem_cons.mpr ⟨so_aload_n dX7_notes_58 rfl rfl, ?_⟩
  refine List.forall_mem_cons.mpr ⟨so_gI (C := RX7) (T := TX7) (N := 29) dX7_notes_59 (by decide) rfl rfl (by decide) rfl in_X7 wf_X7_124 rfl, ?_⟩
  refine List.forall_mem_cons.mpr ⟨so_imul dX7_notes_62 rfl, ?_⟩
  refine List.forall_mem_cons.mpr ⟨so_iload_n dX7_notes_63 rfl rfl, ?_⟩
  refine List.forall_mem_cons.mpr ⟨so_iadd dX7_notes_64 rfl, ?_⟩
  refine List.forall_mem_cons.mpr ⟨so_aload_n dX7_notes_65 rfl rfl, ?_⟩
  refine List.forall_mem_cons.mpr ⟨so_gR (C := RX7) (T := TX7) (N := 29) dX7_notes_66 (by decide) rfl rfl (by decide) rfl in_X7 wf_X7_31 rfl, ?_⟩
  refine List.forall_mem_cons.mpr ⟨so_iload_n dX7_notes_69 rfl rfl, ?_⟩
  refine List.forall_mem_cons.mpr ⟨so_iaload dX7_notes_70 rfl, ?_⟩
  refine List.forall_mem_cons.mpr ⟨so_iastore dX7_notes_71 rfl, ?_⟩
  refine List.forall_mem_cons.mpr ⟨so_iinc dX7_notes_72 (by decide) rfl, ?_⟩
  refine List.forall_mem_cons.mpr ⟨so_goto dX7_notes_75 (by decide), ?_⟩
  refine List.forall_mem_cons.mpr ⟨so_aload_n dX7_notes_78 rfl rfl, ?_⟩
  refine List.forall_mem_cons.mpr ⟨so_dup dX7_notes_79 rfl, ?_⟩
  refine List.forall_mem_cons.mpr ⟨so_gI (C := RX7) (T := TX7) (N := 29) dX7_notes_80 (by decide) rfl rfl (by decide) rfl in_X7 wf_X7_124 rfl, ?_⟩
  refine List.forall_mem_cons.mpr ⟨so_iconst dX7_notes_83 (by decide) rfl, ?_⟩
  refine List.forall_mem_cons.mpr ⟨so_iadd dX7_notes_84 rfl, ?_⟩
  refine List.forall_mem_cons.mpr ⟨so_pI (C := RX7) (T := TX7) (N := 29) dX7_notes_85 (by decide) rfl rfl (by decide) rfl in_X7 wf_X7_124 tyX7 tyX7_ok nmX7 rfl (by decide +kernel) rfl, ?_⟩
  refine List.forall_mem_cons.mpr ⟨so_rV dX7_notes_88 rfl, ?_⟩
  exact fun _ h => absurd h List.not_mem_nil
theorem dX7_goes_0 : decode cX7_goes 0 = .ok (.aload_n 0, 1) := by decide +kernel
theorem dX7_goes_1 : decode cX7_goes 1 = .ok (.getfield 143, 3) := by decide +kernel
theorem dX7_goes_4 : decode cX7_goes 4 = .ok (.ifCond .ne 20, 3) := by decide +kernel
theorem dX7_goes_7 : decode cX7_goes 7 = .ok (.aload_n 0, 1) := by decide +kernel
theorem dX7_goes_8 : decode cX7_goes 8 = .ok (.getfield 19, 3) := by decide +kernel
theorem dX7_goes_11 : decode cX7_goes 11 = .ok (.aload_n 0, 1) := by decide +kernel
theorem dX7_goes_12 : decode cX7_goes 12 = .ok (.getfield 146, 3) := by decide +kernel
theorem dX7_goes_15 : decode cX7_goes 15 = .ok (.iaload, 1) := by decide +kernel
theorem dX7_goes_16 : decode cX7_goes 16 = .ok (.iload_n 1, 1) := by decide +kernel
theorem dX7_goes_17 : decode cX7_goes 17 = .ok (.if_icmp .gt 7, 3) := by decide +kernel
theorem dX7_goes_20 : decode cX7_goes 20 = .ok (.iconst 1, 1) := by decide +kernel
theorem dX7_goes_21 : decode cX7_goes 21 = .ok (.goto 4, 3) := by decide +kernel
theorem dX7_goes_24 : decode cX7_goes 24 = .ok (.iconst 0, 1) := by decide +kernel
theorem dX7_goes_25 : decode cX7_goes 25 = .ok (.istore_n 2, 1) := by decide +kernel
theorem dX7_goes_26 : decode cX7_goes 26 = .ok (.iload_n 2, 1) := by decide +kernel
theorem dX7_goes_27 : decode cX7_goes 27 = .ok (.ifCond .eq 29, 3) := by decide +kernel
theorem dX7_goes_30 : decode cX7_goes 30 = .ok (.aload_n 0, 1) := by decide +kernel
theorem dX7_goes_31 : decode cX7_goes 31 = .ok (.aload_n 0, 1) := by decide +kernel
theorem dX7_goes_32 : decode cX7_goes 32 = .ok (.getfield 25, 3) := by decide +kernel
theorem dX7_goes_35 : decode cX7_goes 35 = .ok (.aload_n 0, 1) := by decide +kernel
theorem dX7_goes_36 : decode cX7_goes 36 = .ok (.getfield 146, 3) := by decide +kernel
theorem dX7_goes_39 : decode cX7_goes 39 = .ok (.iaload, 1) := by decide +kernel
theorem dX7_goes_40 : decode cX7_goes 40 = .ok (.putfield 143, 3) := by decide +kernel
theorem dX7_goes_43 : decode cX7_goes 43 = .ok (.aload_n 0, 1) := by decide +kernel
theorem dX7_goes_44 : decode cX7_goes 44 = .ok (.aload_n 0, 1) := by decide +kernel
theorem dX7_goes_45 : decode cX7_goes 45 = .ok (.getfield 22, 3) := by decide +kernel
theorem dX7_goes_48 : decode cX7_goes 48 = .ok (.aload_n 0, 1) := by decide +kernel
theorem dX7_goes_49 : decode cX7_goes 49 = .ok (.getfield 146, 3) := by decide +kernel
theorem dX7_goes_52 : decode cX7_goes 52 = .ok (.iaload, 1) := by decide +kernel
theorem dX7_goes_53 : decode cX7_goes 53 = .ok (.putfield 146, 3) := by decide +kernel
theorem dX7_goes_56 : decode cX7_goes 56 = .ok (.aload_n 0, 1) := by decide +kernel
theorem dX7_goes_57 : decode cX7_goes 57 = .ok (.dup, 1) := by decide +kernel
theorem dX7_goes_58 : decode cX7_goes 58 = .ok (.getfield 143, 3) := by decide +kernel
theorem dX7_goes_61 : decode cX7_goes 61 = .ok (.aload_n 0, 1) := by decide +kernel
theorem dX7_goes_62 : decode cX7_goes 62 = .ok (.getfield 143, 3) := by decide +kernel
theorem dX7_goes_65 : decode cX7_goes 65 = .ok (.ifCond .le 7, 3) := by decide +kernel
theorem dX7_goes_68 : decode cX7_goes 68 = .ok (.iconst 1, 1) := by decide +kernel
theorem dX7_goes_69 : decode cX7_goes 69 = .ok (.goto 4, 3) := by decide +kernel
theorem dX7_goes_72 : decode cX7_goes 72 = .ok (.iconst 0, 1) := by decide +kernel
theorem dX7_goes_73 : decode cX7_goes 73 = .ok (.isub, 1) := by decide +kernel
theorem dX7_goes_74 : decode cX7_goes 74 = .ok (.putfield 143, 3) := by decide +kernel
theorem dX7_goes_77 : decode cX7_goes 77 = .ok (.iload_n 2, 1) := by decide +kernel
theorem dX7_goes_78 : decode cX7_goes 78 = .ok (.ireturn, 1) := by decide +kernel
def T_X7_goes : tk_Tb := [(0, tk_al 0 1), (1, tk_gI 7 28 4), (4, tk_br (fun x => x = 0) 7 24), (7, tk_al 0 8), (8, tk_gR 7 12 11), (11, tk_al 0 12), (12, tk_gI 7 27 15), (15, tk_ai 9 16), (16, tk_il 1 17), (17, tk_cm (fun x y => y < x) 24 20), (20, tk_ic (1) 21), (21, tk_jmp 25), (24, tk_ic (0) 25), (25, tk_sI 2 26), (26, tk_il 2 27), (27, tk_br (fun x => x = 0) 56 30), (30, tk_al 0 31), (31, tk_al 0 32), (32, tk_gR 7 14 35), (35, tk_al 0 36), (36, tk_gI 7 27 39), (39, tk_ai 9 40), (40, tk_pI 7 28 43), (43, tk_al 0 44), (44, tk_al 0 45), (45, tk_gR 7 13 48), (48, tk_al 0 49), (49, tk_gI 7 27 52), (52, tk_ai 9 53), (53, tk_pI 7 27 56), (56, tk_al 0 57), (57, tk_dup 58), (58, tk_gI 7 28 61), (61, tk_al 0 62), (62, tk_gI 7 28 65), (65, tk_br (fun x => x ≤ 0) 72 68), (68, tk_ic (1) 69), (69, tk_jmp 73), (72, tk_ic (0) 73), (73, tk_bi (fun x y => x - y) 74), (74, tk_pI 7 28 77), (77, tk_il 2 78), (78, tk_rZ)]
set_option maxRecDepth 100000 in
theorem hT_X7_goes (sc : Option (Nat × (Nat → Int32))) : ∀ x ∈ T_X7_goes, tk_So sc M_X7_goes x.1 x.2 := by
  unfold T_X7_goes
  refine List.forall_mem_cons.mpr ⟨so_aload_n dX7_goes_0 rfl rfl, ?_⟩
  refine List.forall_mem_cons.mpr ⟨so_gI (C := RX7) (T := TX7) (N := 29) dX7_goes_1 (by decide) rfl rfl (by decide) rfl in_X7 wf_X7_143 rfl, ?_⟩
  refine List.forall_mem_cons.mpr ⟨so_if_ne dX7_goes_4 (by decide) rfl, ?_⟩
  refine List.forall_mem_cons.mpr ⟨so_aload_n dX7_goes_7 rfl rfl, ?_⟩
  refine List.forall_mem_cons.mpr ⟨so_gR (C := RX7) (T := TX7) (N := 29) dX7_goes_8 (by decide) rfl rfl (by decide) rfl in_X7 wf_X7_19 rfl, ?_⟩
  refine List.forall_mem_cons.mpr ⟨so_aload_n dX7_goes_11 rfl rfl, ?_⟩
  refine List.forall_mem_cons.mpr ⟨so_gI (C := RX7) (T := TX7) (N := 29) dX7_goes_12 (by decide) rfl rfl (by decide) rfl in_X7 wf_X7_146 rfl, ?_⟩
  refine List.forall_mem_cons.mpr ⟨so_iaload dX7_goes_15 rfl, ?_⟩
  refine List.forall_mem_cons.mpr ⟨so_iload_n dX7_goes_16 rfl rfl, ?_⟩
  refine List.forall_mem_cons.mpr ⟨so_icmp_gt dX7_goes_17 (by decide) rfl, ?_⟩
  refine List.forall_mem_cons.mpr ⟨so_iconst dX7_goes_20 (by decide) rfl, ?_⟩
  refine List.forall_mem_cons.mpr ⟨so_goto dX7_goes_21 (by decide), ?_⟩
  refine List.forall_mem_cons.mpr ⟨so_iconst dX7_goes_24 (by decide) rfl, ?_⟩
  refine List.forall_mem_cons.mpr ⟨so_istore_n dX7_goes_25 rfl rfl, ?_⟩
  refine List.forall_mem_cons.mpr ⟨so_iload_n dX7_goes_26 rfl rfl, ?_⟩
  refine List.forall_mem_cons.mpr ⟨so_if_eq dX7_goes_27 (by decide) rfl, ?_⟩
  refine List.forall_mem_cons.mpr ⟨so_aload_n dX7_goes_30 rfl rfl, ?_⟩
  refine List.forall_mem_cons.mpr ⟨so_aload_n dX7_goes_31 rfl rfl, ?_⟩
  refine List.forall_mem_cons.mpr ⟨so_gR (C := RX7) (T := TX7) (N := 29) dX7_goes_32 (by decide) rfl rfl (by decide) rfl in_X7 wf_X7_25 rfl, ?_⟩
  refine List.forall_mem_cons.mpr ⟨so_aload_n dX7_goes_35 rfl rfl, ?_⟩
  refine List.forall_mem_cons.mpr ⟨so_gI (C := RX7) (T := TX7) (N := 29) dX7_goes_36 (by decide) rfl rfl (by decide) rfl in_X7 wf_X7_146 rfl, ?_⟩
  refine List.forall_mem_cons.mpr ⟨so_iaload dX7_goes_39 rfl, ?_⟩
  refine List.forall_mem_cons.mpr ⟨so_pI (C := RX7) (T := TX7) (N := 29) dX7_goes_40 (by decide) rfl rfl (by decide) rfl in_X7 wf_X7_143 tyX7 tyX7_ok nmX7 rfl (by decide +kernel) rfl, ?_⟩
  refine List.forall_mem_cons.mpr ⟨so_aload_n dX7_goes_43 rfl rfl, ?_⟩
  refine List.forall_mem_cons.mpr ⟨so_aload_n dX7_goes_44 rfl rfl, ?_⟩
  refine List.forall_mem_cons.mpr ⟨so_gR (C := RX7) (T := TX7) (N := 29) dX7_goes_45 (by decide) rfl rfl (by decide) rfl in_X7 wf_X7_22 rfl, ?_⟩
  refine List.forall_mem_cons.mpr ⟨so_aload_n dX7_goes_48 rfl rfl, ?_⟩
  refine List.forall_mem_cons.mpr ⟨so_gI (C := RX7) (T := TX7) (N := 29) dX7_goes_49 (by decide) rfl rfl (by decide) rfl in_X7 wf_X7_146 rfl, ?_⟩
  refine List.forall_mem_cons.mpr ⟨so_iaload dX7_goes_52 rfl, ?_⟩
  refine List.forall_mem_cons.mpr ⟨so_pI (C := RX7) (T := TX7) (N := 29) dX7_goes_53 (by decide) rfl rfl (by decide) rfl in_X7 wf_X7_146 tyX7 tyX7_ok nmX7 rfl (by decide +kernel) rfl, ?_⟩
  refine List.forall_mem_cons.mpr ⟨so_aload_n dX7_goes_56 rfl rfl, ?_⟩
  refine List.forall_mem_cons.mpr ⟨so_dup dX7_goes_57 rfl, ?_⟩
  refine List.forall_mem_cons.mpr ⟨so_gI (C := RX7) (T := TX7) (N := 29) dX7_goes_58 (by decide) rfl rfl (by decide) rfl in_X7 wf_X7_143 rfl, ?_⟩
  refine List.forall_mem_cons.mpr ⟨so_aload_n dX7_goes_61 rfl rfl, ?_⟩
  refine List.forall_mem_cons.mpr ⟨so_gI (C := RX7) (T := TX7) (N := 29) dX7_goes_62 (by decide) rfl rfl (by decide) rfl in_X7 wf_X7_143 rfl, ?_⟩
  refine List.forall_mem_cons.mpr ⟨so_if_le dX7_goes_65 (by decide) rfl, ?_⟩
  refine List.forall_mem_cons.mpr ⟨so_iconst dX7_goes_68 (by decide) rfl, ?_⟩
  refine List.forall_mem_cons.mpr ⟨so_goto dX7_goes_69 (by decide), ?_⟩
  refine List.forall_mem_cons.mpr ⟨so_iconst dX7_goes_72 (by decide) rfl, ?_⟩
  refine List.forall_mem_cons.mpr ⟨so_isub dX7_goes_73 rfl, ?_⟩
  refine List.forall_mem_cons.mpr ⟨so_pI (C := RX7) (T := TX7) (N := 29) dX7_goes_74 (by decide) rfl rfl (by decide) rfl in_X7 wf_X7_143 tyX7 tyX7_ok nmX7 rfl (by decide +kernel) rfl, ?_⟩
  refine List.forall_mem_cons.mpr ⟨so_iload_n dX7_goes_77 rfl rfl, ?_⟩
  refine List.forall_mem_cons.mpr ⟨so_rZ dX7_goes_78 rfl, ?_⟩
  exact fun _ h => absurd h List.not_mem_nil
theorem dX7_takesUp_0 : decode cX7_takesUp 0 = .ok (.aload_n 0, 1) := by decide +kernel
theorem dX7_takesUp_1 : decode cX7_takesUp 1 = .ok (.aload_n 0, 1) := by decide +kernel
theorem dX7_takesUp_2 : decode cX7_takesUp 2 = .ok (.getfield 31, 3) := by decide +kernel
theorem dX7_takesUp_5 : decode cX7_takesUp 5 = .ok (.iconst 1, 1) := by decide +kernel
theorem dX7_takesUp_6 : decode cX7_takesUp 6 = .ok (.iload_n 1, 1) := by decide +kernel
theorem dX7_takesUp_7 : decode cX7_takesUp 7 = .ok (.iadd, 1) := by decide +kernel
theorem dX7_takesUp_8 : decode cX7_takesUp 8 = .ok (.iaload, 1) := by decide +kernel
theorem dX7_takesUp_9 : decode cX7_takesUp 9 = .ok (.putfield 146, 3) := by decide +kernel
theorem dX7_takesUp_12 : decode cX7_takesUp 12 = .ok (.aload_n 0, 1) := by decide +kernel
theorem dX7_takesUp_13 : decode cX7_takesUp 13 = .ok (.aload_n 0, 1) := by decide +kernel
theorem dX7_takesUp_14 : decode cX7_takesUp 14 = .ok (.getfield 31, 3) := by decide +kernel
theorem dX7_takesUp_17 : decode cX7_takesUp 17 = .ok (.bipush 6, 2) := by decide +kernel
theorem dX7_takesUp_19 : decode cX7_takesUp 19 = .ok (.iload_n 1, 1) := by decide +kernel
theorem dX7_takesUp_20 : decode cX7_takesUp 20 = .ok (.iadd, 1) := by decide +kernel
theorem dX7_takesUp_21 : decode cX7_takesUp 21 = .ok (.iaload, 1) := by decide +kernel
theorem dX7_takesUp_22 : decode cX7_takesUp 22 = .ok (.putfield 143, 3) := by decide +kernel
theorem dX7_takesUp_25 : decode cX7_takesUp 25 = .ok (.return_, 1) := by decide +kernel
def T_X7_takesUp : tk_Tb := [(0, tk_al 0 1), (1, tk_al 0 2), (2, tk_gR 7 16 5), (5, tk_ic (1) 6), (6, tk_il 1 7), (7, tk_bi (fun x y => x + y) 8), (8, tk_ai 9 9), (9, tk_pI 7 27 12), (12, tk_al 0 13), (13, tk_al 0 14), (14, tk_gR 7 16 17), (17, tk_ic (6) 19), (19, tk_il 1 20), (20, tk_bi (fun x y => x + y) 21), (21, tk_ai 9 22), (22, tk_pI 7 28 25), (25, tk_rV)]
set_option maxRecDepth 100000 in
theorem hT_X7_takesUp (sc : Option (Nat × (Nat → Int32))) : ∀ x ∈ T_X7_takesUp, tk_So sc M_X7_takesUp x.1 x.2 := by
  unfold T_X7_takesUp
  refine List.forall_mem_cons.mpr ⟨so_aload_n dX7_takesUp_0 rfl rfl, ?_⟩
  refine List.forall_mem_cons.mpr ⟨so_aload_n dX7_takesUp_1 rfl rfl, ?_⟩
  refine List.forall_mem_cons.mpr ⟨so_gR (C := RX7) (T := TX7) (N := 29) dX7_takesUp_2 (by decide) rfl rfl (by decide) rfl in_X7 wf_X7_31 rfl, ?_⟩
  refine List.forall_mem_cons.mpr ⟨so_iconst dX7_takesUp_5 (by decide) rfl, ?_⟩
  refine List.forall_mem_cons.mpr ⟨so_iload_n dX7_takesUp_6 rfl rfl, ?_⟩
  refine List.forall_mem_cons.mpr ⟨so_iadd dX7_takesUp_7 rfl, ?_⟩
  refine List.forall_mem_cons.mpr ⟨so_iaload dX7_takesUp_8 rfl, ?_⟩
  refine List.forall_mem_cons.mpr ⟨so_pI (C := RX7) (T := TX7) (N := 29) dX7_takesUp_9 (by decide) rfl rfl (by decide) rfl in_X7 wf_X7_146 tyX7 tyX7_ok nmX7 rfl (by decide +kernel) rfl, ?_⟩
  refine List.forall_mem_cons.mpr ⟨so_aload_n dX7_takesUp_12 rfl rfl, ?_⟩
  refine List.forall_mem_cons.mpr ⟨so_aload_n dX7_takesUp_13 rfl rfl, ?_⟩
  refine List.forall_mem_cons.mpr ⟨so_gR (C := RX7) (T := TX7) (N := 29) dX7_takesUp_14 (by decide) rfl rfl (by decide) rfl in_X7 wf_X7_31 rfl, ?_⟩
  refine List.forall_mem_cons.mpr ⟨so_bipush dX7_takesUp_17 (by decide) rfl, ?_⟩
  refine List.forall_mem_cons.mpr ⟨so_iload_n dX7_takesUp_19 rfl rfl, ?_⟩
  refine List.forall_mem_cons.mpr ⟨so_iadd dX7_takesUp_20 rfl, ?_⟩
  refine List.forall_mem_cons.mpr ⟨so_iaload dX7_takesUp_21 rfl, ?_⟩
  refine List.forall_mem_cons.mpr ⟨so_pI (C := RX7) (T := TX7) (N := 29) dX7_takesUp_22 (by decide) rfl rfl (by decide) rfl in_X7 wf_X7_143 tyX7 tyX7_ok nmX7 rfl (by decide +kernel) rfl, ?_⟩
  refine List.forall_mem_cons.mpr ⟨so_rV dX7_takesUp_25 rfl, ?_⟩
  exact fun _ h => absurd h List.not_mem_nil
theorem dX7_tides_0 : decode cX7_tides 0 = .ok (.aload_n 0, 1) := by decide +kernel
theorem dX7_tides_1 : decode cX7_tides 1 = .ok (.iconst 0, 1) := by decide +kernel
theorem dX7_tides_2 : decode cX7_tides 2 = .ok (.putfield 62, 3) := by decide +kernel
theorem dX7_tides_5 : decode cX7_tides 5 = .ok (.iload_n 1, 1) := by decide +kernel
theorem dX7_tides_6 : decode cX7_tides 6 = .ok (.iconst 1, 1) := by decide +kernel
theorem dX7_tides_7 : decode cX7_tides 7 = .ok (.bipush 99, 2) := by decide +kernel
theorem dX7_tides_9 : decode cX7_tides 9 = .ok (.invokestatic 66, 3) := by decide +kernel
theorem dX7_tides_12 : decode cX7_tides 12 = .ok (.ifCond .ne 5, 3) := by decide +kernel
theorem dX7_tides_15 : decode cX7_tides 15 = .ok (.iconst (-1), 1) := by decide +kernel
theorem dX7_tides_16 : decode cX7_tides 16 = .ok (.ireturn, 1) := by decide +kernel
theorem dX7_tides_17 : decode cX7_tides 17 = .ok (.aload_n 0, 1) := by decide +kernel
theorem dX7_tides_18 : decode cX7_tides 18 = .ok (.getfield 31, 3) := by decide +kernel
theorem dX7_tides_21 : decode cX7_tides 21 = .ok (.iconst 0, 1) := by decide +kernel
theorem dX7_tides_22 : decode cX7_tides 22 = .ok (.iaload, 1) := by decide +kernel
theorem dX7_tides_23 : decode cX7_tides 23 = .ok (.iload_n 1, 1) := by decide +kernel
theorem dX7_tides_24 : decode cX7_tides 24 = .ok (.iadd, 1) := by decide +kernel
theorem dX7_tides_25 : decode cX7_tides 25 = .ok (.sipush 9999, 3) := by decide +kernel
theorem dX7_tides_28 : decode cX7_tides 28 = .ok (.if_icmp .le 6, 3) := by decide +kernel
theorem dX7_tides_31 : decode cX7_tides 31 = .ok (.bipush (-2), 2) := by decide +kernel
theorem dX7_tides_33 : decode cX7_tides 33 = .ok (.ireturn, 1) := by decide +kernel
theorem dX7_tides_34 : decode cX7_tides 34 = .ok (.aload_n 0, 1) := by decide +kernel
theorem dX7_tides_35 : decode cX7_tides 35 = .ok (.invokevirtual 149, 3) := by decide +kernel
theorem dX7_tides_38 : decode cX7_tides 38 = .ok (.iconst 0, 1) := by decide +kernel
theorem dX7_tides_39 : decode cX7_tides 39 = .ok (.istore_n 2, 1) := by decide +kernel
theorem dX7_tides_40 : decode cX7_tides 40 = .ok (.iconst 0, 1) := by decide +kernel
theorem dX7_tides_41 : decode cX7_tides 41 = .ok (.istore_n 3, 1) := by decide +kernel
theorem dX7_tides_42 : decode cX7_tides 42 = .ok (.iload_n 3, 1) := by decide +kernel
theorem dX7_tides_43 : decode cX7_tides 43 = .ok (.iload_n 1, 1) := by decide +kernel
theorem dX7_tides_44 : decode cX7_tides 44 = .ok (.if_icmp .ge 106, 3) := by decide +kernel
theorem dX7_tides_47 : decode cX7_tides 47 = .ok (.iconst 0, 1) := by decide +kernel
theorem dX7_tides_48 : decode cX7_tides 48 = .ok (.istore 4, 2) := by decide +kernel
theorem dX7_tides_50 : decode cX7_tides 50 = .ok (.iload 4, 2) := by decide +kernel
theorem dX7_tides_52 : decode cX7_tides 52 = .ok (.aload_n 0, 1) := by decide +kernel
theorem dX7_tides_53 : decode cX7_tides 53 = .ok (.getfield 13, 3) := by decide +kernel
theorem dX7_tides_56 : decode cX7_tides 56 = .ok (.iconst 1, 1) := by decide +kernel
theorem dX7_tides_57 : decode cX7_tides 57 = .ok (.iaload, 1) := by decide +kernel
theorem dX7_tides_58 : decode cX7_tides 58 = .ok (.if_icmp .ge 76, 3) := by decide +kernel
theorem dX7_tides_61 : decode cX7_tides 61 = .ok (.aload_n 0, 1) := by decide +kernel
theorem dX7_tides_62 : decode cX7_tides 62 = .ok (.iload 4, 2) := by decide +kernel
theorem dX7_tides_64 : decode cX7_tides 64 = .ok (.invokevirtual 152, 3) := by decide +kernel
theorem dX7_tides_67 : decode cX7_tides 67 = .ok (.iload_n 2, 1) := by decide +kernel
theorem dX7_tides_68 : decode cX7_tides 68 = .ok (.aload_n 0, 1) := by decide +kernel
theorem dX7_tides_69 : decode cX7_tides 69 = .ok (.iload 4, 2) := by decide +kernel
theorem dX7_tides_71 : decode cX7_tides 71 = .ok (.invokevirtual 155, 3) := by decide +kernel
theorem dX7_tides_74 : decode cX7_tides 74 = .ok (.ifCond .ne 24, 3) := by decide +kernel
theorem dX7_tides_77 : decode cX7_tides 77 = .ok (.aload_n 0, 1) := by decide +kernel
theorem dX7_tides_78 : decode cX7_tides 78 = .ok (.aload_n 0, 1) := by decide +kernel
theorem dX7_tides_79 : decode cX7_tides 79 = .ok (.aload_n 0, 1) := by decide +kernel
theorem dX7_tides_80 : decode cX7_tides 80 = .ok (.getfield 31, 3) := by decide +kernel
theorem dX7_tides_83 : decode cX7_tides 83 = .ok (.iconst 0, 1) := by decide +kernel
theorem dX7_tides_84 : decode cX7_tides 84 = .ok (.iaload, 1) := by decide +kernel
theorem dX7_tides_85 : decode cX7_tides 85 = .ok (.invokevirtual 127, 3) := by decide +kernel
theorem dX7_tides_88 : decode cX7_tides 88 = .ok (.invokevirtual 158, 3) := by decide +kernel
theorem dX7_tides_91 : decode cX7_tides 91 = .ok (.ifCond .eq 7, 3) := by decide +kernel
theorem dX7_tides_94 : decode cX7_tides 94 = .ok (.iconst 1, 1) := by decide +kernel
theorem dX7_tides_95 : decode cX7_tides 95 = .ok (.goto 4, 3) := by decide +kernel
theorem dX7_tides_98 : decode cX7_tides 98 = .ok (.iconst 0, 1) := by decide +kernel
theorem dX7_tides_99 : decode cX7_tides 99 = .ok (.iadd, 1) := by decide +kernel
theorem dX7_tides_100 : decode cX7_tides 100 = .ok (.istore_n 2, 1) := by decide +kernel
theorem dX7_tides_101 : decode cX7_tides 101 = .ok (.aload_n 0, 1) := by decide +kernel
theorem dX7_tides_102 : decode cX7_tides 102 = .ok (.getfield 31, 3) := by decide +kernel
theorem dX7_tides_105 : decode cX7_tides 105 = .ok (.iconst 1, 1) := by decide +kernel
theorem dX7_tides_106 : decode cX7_tides 106 = .ok (.iload 4, 2) := by decide +kernel
theorem dX7_tides_108 : decode cX7_tides 108 = .ok (.iadd, 1) := by decide +kernel
theorem dX7_tides_109 : decode cX7_tides 109 = .ok (.aload_n 0, 1) := by decide +kernel
theorem dX7_tides_110 : decode cX7_tides 110 = .ok (.getfield 146, 3) := by decide +kernel
theorem dX7_tides_113 : decode cX7_tides 113 = .ok (.iastore, 1) := by decide +kernel
theorem dX7_tides_114 : decode cX7_tides 114 = .ok (.aload_n 0, 1) := by decide +kernel
theorem dX7_tides_115 : decode cX7_tides 115 = .ok (.getfield 31, 3) := by decide +kernel
theorem dX7_tides_118 : decode cX7_tides 118 = .ok (.bipush 6, 2) := by decide +kernel
theorem dX7_tides_120 : decode cX7_tides 120 = .ok (.iload 4, 2) := by decide +kernel
theorem dX7_tides_122 : decode cX7_tides 122 = .ok (.iadd, 1) := by decide +kernel
theorem dX7_tides_123 : decode cX7_tides 123 = .ok (.aload_n 0, 1) := by decide +kernel
theorem dX7_tides_124 : decode cX7_tides 124 = .ok (.getfield 143, 3) := by decide +kernel
theorem dX7_tides_127 : decode cX7_tides 127 = .ok (.iastore, 1) := by decide +kernel
theorem dX7_tides_128 : decode cX7_tides 128 = .ok (.iinc 4 1, 3) := by decide +kernel
theorem dX7_tides_131 : decode cX7_tides 131 = .ok (.goto (-81), 3) := by decide +kernel
theorem dX7_tides_134 : decode cX7_tides 134 = .ok (.aload_n 0, 1) := by decide +kernel
theorem dX7_tides_135 : decode cX7_tides 135 = .ok (.getfield 31, 3) := by decide +kernel
theorem dX7_tides_138 : decode cX7_tides 138 = .ok (.iconst 0, 1) := by decide +kernel
theorem dX7_tides_139 : decode cX7_tides 139 = .ok (.dup2, 1) := by decide +kernel
theorem dX7_tides_140 : decode cX7_tides 140 = .ok (.iaload, 1) := by decide +kernel
theorem dX7_tides_141 : decode cX7_tides 141 = .ok (.iconst 1, 1) := by decide +kernel
theorem dX7_tides_142 : decode cX7_tides 142 = .ok (.iadd, 1) := by decide +kernel
theorem dX7_tides_143 : decode cX7_tides 143 = .ok (.iastore, 1) := by decide +kernel
theorem dX7_tides_144 : decode cX7_tides 144 = .ok (.iinc 3 1, 3) := by decide +kernel
theorem dX7_tides_147 : decode cX7_tides 147 = .ok (.goto (-105), 3) := by decide +kernel
theorem dX7_tides_150 : decode cX7_tides 150 = .ok (.aload_n 0, 1) := by decide +kernel
theorem dX7_tides_151 : decode cX7_tides 151 = .ok (.getfield 31, 3) := by decide +kernel
theorem dX7_tides_154 : decode cX7_tides 154 = .ok (.bipush 12, 2) := by decide +kernel
theorem dX7_tides_156 : decode cX7_tides 156 = .ok (.aload_n 0, 1) := by decide +kernel
theorem dX7_tides_157 : decode cX7_tides 157 = .ok (.getfield 31, 3) := by decide +kernel
theorem dX7_tides_160 : decode cX7_tides 160 = .ok (.bipush 12, 2) := by decide +kernel
theorem dX7_tides_162 : decode cX7_tides 162 = .ok (.iaload, 1) := by decide +kernel
theorem dX7_tides_163 : decode cX7_tides 163 = .ok (.iload_n 2, 1) := by decide +kernel
theorem dX7_tides_164 : decode cX7_tides 164 = .ok (.iadd, 1) := by decide +kernel
theorem dX7_tides_165 : decode cX7_tides 165 = .ok (.ldc 161, 2) := by decide +kernel
theorem dX7_tides_167 : decode cX7_tides 167 = .ok (.if_icmp .le 8, 3) := by decide +kernel
theorem dX7_tides_170 : decode cX7_tides 170 = .ok (.ldc 161, 2) := by decide +kernel
theorem dX7_tides_172 : decode cX7_tides 172 = .ok (.goto 12, 3) := by decide +kernel
theorem dX7_tides_175 : decode cX7_tides 175 = .ok (.aload_n 0, 1) := by decide +kernel
theorem dX7_tides_176 : decode cX7_tides 176 = .ok (.getfield 31, 3) := by decide +kernel
theorem dX7_tides_179 : decode cX7_tides 179 = .ok (.bipush 12, 2) := by decide +kernel
theorem dX7_tides_181 : decode cX7_tides 181 = .ok (.iaload, 1) := by decide +kernel
theorem dX7_tides_182 : decode cX7_tides 182 = .ok (.iload_n 2, 1) := by decide +kernel
theorem dX7_tides_183 : decode cX7_tides 183 = .ok (.iadd, 1) := by decide +kernel
theorem dX7_tides_184 : decode cX7_tides 184 = .ok (.iastore, 1) := by decide +kernel
theorem dX7_tides_185 : decode cX7_tides 185 = .ok (.iload_n 2, 1) := by decide +kernel
theorem dX7_tides_186 : decode cX7_tides 186 = .ok (.ireturn, 1) := by decide +kernel
def T_X7_tides : tk_Tb := [(0, tk_al 0 1), (1, tk_ic (0) 2), (2, tk_pI 7 0 5), (5, tk_il 1 6), (6, tk_ic (1) 7), (7, tk_ic (99) 9), (9, tk_cs M_X7_in 3 12), (12, tk_br (fun x => x = 0) 15 17), (15, tk_ic (-1) 16), (16, tk_rI), (17, tk_al 0 18), (18, tk_gR 7 16 21), (21, tk_ic (0) 22), (22, tk_ai 9 23), (23, tk_il 1 24), (24, tk_bi (fun x y => x + y) 25), (25, tk_ic (9999) 28), (28, tk_cm (fun x y => x ≤ y) 34 31), (31, tk_ic (-2) 33), (33, tk_rI), (34, tk_al 0 35), (35, tk_cv 7 M_X7_notes 0 38), (38, tk_ic (0) 39), (39, tk_sI 2 40), (40, tk_ic (0) 41), (41, tk_sI 3 42), (42, tk_il 3 43), (43, tk_il 1 44), (44, tk_cm (fun x y => y ≤ x) 150 47), (47, tk_ic (0) 48), (48, tk_sI 4 50), (50, tk_il 4 52), (52, tk_al 0 53), (53, tk_gR 7 9 56), (56, tk_ic (1) 57), (57, tk_ai 9 58), (58, tk_cm (fun x y => y ≤ x) 134 61), (61, tk_al 0 62), (62, tk_il 4 64), (64, tk_cv 7 M_X7_takesUp 1 67), (67, tk_il 2 68), (68, tk_al 0 69), (69, tk_il 4 71), (71, tk_cv 7 M_X7_isTied 1 74), (74, tk_br (fun x => x = 0) 77 98), (77, tk_al 0 78), (78, tk_al 0 79), (79, tk_al 0 80), (80, tk_gR 7 16 83), (83, tk_ic (0) 84), (84, tk_ai 9 85), (85, tk_cv 7 M_X7_levelOf 1 88), (88, tk_cv 7 M_X7_goes 1 91), (91, tk_br (fun x => x = 0) 98 94), (94, tk_ic (1) 95), (95, tk_jmp 99), (98, tk_ic (0) 99), (99, tk_bi (fun x y => x + y) 100), (100, tk_sI 2 101), (101, tk_al 0 102), (102, tk_gR 7 16 105), (105, tk_ic (1) 106), (106, tk_il 4 108), (108, tk_bi (fun x y => x + y) 109), (109, tk_al 0 110), (110, tk_gI 7 27 113), (113, tk_si 9 (fun x => x) 114), (114, tk_al 0 115), (115, tk_gR 7 16 118), (118, tk_ic (6) 120), (120, tk_il 4 122), (122, tk_bi (fun x y => x + y) 123), (123, tk_al 0 124), (124, tk_gI 7 28 127), (127, tk_si 9 (fun x => x) 128), (128, tk_inc 4 (1) 131), (131, tk_jmp 50), (134, tk_al 0 135), (135, tk_gR 7 16 138), (138, tk_ic (0) 139), (139, tk_du2 140), (140, tk_ai 9 141), (141, tk_ic (1) 142), (142, tk_bi (fun x y => x + y) 143), (143, tk_si 9 (fun x => x) 144), (144, tk_inc 3 (1) 147), (147, tk_jmp 42), (150, tk_al 0 151), (151, tk_gR 7 16 154), (154, tk_ic (12) 156), (156, tk_al 0 157), (157, tk_gR 7 16 160), (160, tk_ic (12) 162), (162, tk_ai 9 163), (163, tk_il 2 164), (164, tk_bi (fun x y => x + y) 165), (165, tk_ic (99999) 167), (167, tk_cm (fun x y => x ≤ y) 175 170), (170, tk_ic (99999) 172), (172, tk_jmp 184), (175, tk_al 0 176), (176, tk_gR 7 16 179), (179, tk_ic (12) 181), (181, tk_ai 9 182), (182, tk_il 2 183), (183, tk_bi (fun x y => x + y) 184), (184, tk_si 9 (fun x => x) 185), (185, tk_il 2 186), (186, tk_rI)]
set_option maxRecDepth 100000 in
theorem hT_X7_tides (sc : Option (Nat × (Nat → Int32))) : ∀ x ∈ T_X7_tides, tk_So sc M_X7_tides x.1 x.2 := by
  unfold T_X7_tides
  refine List.forall_mem_cons.mpr ⟨so_aload_n dX7_tides_0 rfl rfl, ?_⟩
  refine List.forall_mem_cons.mpr ⟨so_iconst dX7_tides_1 (by decide) rfl, ?_⟩
  refine List.forall_mem_cons.mpr ⟨so_pI (C := RX7) (T := TX7) (N := 29) dX7_tides_2 (by decide) rfl rfl (by decide) rfl in_X7 wf_X7_62 tyX7 tyX7_ok nmX7 rfl (by decide +kernel) rfl, ?_⟩
  refine List.forall_mem_cons.mpr ⟨so_iload_n dX7_tides_5 rfl rfl, ?_⟩
  refine List.forall_mem_cons.mpr ⟨so_iconst dX7_tides_6 (by decide) rfl, ?_⟩
  refine List.forall_mem_cons.mpr ⟨so_bipush dX7_tides_7 (by decide) rfl, ?_⟩
  refine List.forall_mem_cons.mpr ⟨so_cs dX7_tides_9 mv_X7_in wm_X7_66 ⟨rfl, rfl⟩ (by decide) rfl, ?_⟩
  refine List.forall_mem_cons.mpr ⟨so_if_ne dX7_tides_12 (by decide) rfl, ?_⟩
  refine List.forall_mem_cons.mpr ⟨so_iconst dX7_tides_15 (by decide) rfl, ?_⟩
  refine List.forall_mem_cons.mpr ⟨so_rI dX7_tides_16 rfl, ?_⟩
  refine List.forall_mem_cons.mpr ⟨so_aload_n dX7_tides_17 rfl rfl, ?_⟩
  refine List.forall_mem_cons.mpr ⟨so_gR (C := RX7) (T := TX7) (N := 29) dX7_tides_18 (by decide) rfl rfl (by decide) rfl in_X7 wf_X7_31 rfl, ?_⟩
  refine List.forall_mem_cons.mpr ⟨so_iconst dX7_tides_21 (by decide) rfl, ?_⟩
  refine List.forall_mem_cons.mpr ⟨so_iaload dX7_tides_22 rfl, ?_⟩
  refine List.forall_mem_cons.mpr ⟨so_iload_n dX7_tides_23 rfl rfl, ?_⟩
  refine List.forall_mem_cons.mpr ⟨so_iadd dX7_tides_24 rfl, ?_⟩
  refine List.forall_mem_cons.mpr ⟨so_sipush dX7_tides_25 (by decide) rfl, ?_⟩
  refine List.forall_mem_cons.mpr ⟨so_icmp_le dX7_tides_28 (by decide) rfl, ?_⟩
  refine List.forall_mem_cons.mpr ⟨so_bipush dX7_tides_31 (by decide) rfl, ?_⟩
  refine List.forall_mem_cons.mpr ⟨so_rI dX7_tides_33 rfl, ?_⟩
  refine List.forall_mem_cons.mpr ⟨so_aload_n dX7_tides_34 rfl rfl, ?_⟩
  refine List.forall_mem_cons.mpr ⟨so_cv (T := TX7) (N := 29) dX7_tides_35 mv_X7_notes wm_X7_149 (by decide) rfl ⟨rfl, rfl⟩ (by decide) rfl, ?_⟩
  refine List.forall_mem_cons.mpr ⟨so_iconst dX7_tides_38 (by decide) rfl, ?_⟩
  refine List.forall_mem_cons.mpr ⟨so_istore_n dX7_tides_39 rfl rfl, ?_⟩
  refine List.forall_mem_cons.mpr ⟨so_iconst dX7_tides_40 (by decide) rfl, ?_⟩
  refine List.forall_mem_cons.mpr ⟨so_istore_n dX7_tides_41 rfl rfl, ?_⟩
  refine List.forall_mem_cons.mpr ⟨so_iload_n dX7_tides_42 rfl rfl, ?_⟩
  refine List.forall_mem_cons.mpr ⟨so_iload_n dX7_tides_43 rfl rfl, ?_⟩
  refine List.forall_mem_cons.mpr ⟨so_icmp_ge dX7_tides_44 (by decide) rfl, ?_⟩
  refine List.forall_mem_cons.mpr ⟨so_iconst dX7_tides_47 (by decide) rfl, ?_⟩
  refine List.forall_mem_cons.mpr ⟨so_istore dX7_tides_48 rfl, ?_⟩
  refine List.forall_mem_cons.mpr ⟨so_iload dX7_tides_50 rfl, ?_⟩
  refine List.forall_mem_cons.mpr ⟨so_aload_n dX7_tides_52 rfl rfl, ?_⟩
  refine List.forall_mem_cons.mpr ⟨so_gR (C := RX7) (T := TX7) (N := 29) dX7_tides_53 (by decide) rfl rfl (by decide) rfl in_X7 wf_X7_13 rfl, ?_⟩
  refine List.forall_mem_cons.mpr ⟨so_iconst dX7_tides_56 (by decide) rfl, ?_⟩
  refine List.forall_mem_cons.mpr ⟨so_iaload dX7_tides_57 rfl, ?_⟩
  refine List.forall_mem_cons.mpr ⟨so_icmp_ge dX7_tides_58 (by decide) rfl, ?_⟩
  refine List.forall_mem_cons.mpr ⟨so_aload_n dX7_tides_61 rfl rfl, ?_⟩
  refine List.forall_mem_cons.mpr ⟨so_iload dX7_tides_62 rfl, ?_⟩
  refine List.forall_mem_cons.mpr ⟨so_cv (T := TX7) (N := 29) dX7_tides_64 mv_X7_takesUp wm_X7_152 (by decide) rfl ⟨rfl, rfl⟩ (by decide) rfl, ?_⟩
  refine List.forall_mem_cons.mpr ⟨so_iload_n dX7_tides_67 rfl rfl, ?_⟩
  refine List.forall_mem_cons.mpr ⟨so_aload_n dX7_tides_68 rfl rfl, ?_⟩
  refine List.forall_mem_cons.mpr ⟨so_iload dX7_tides_69 rfl, ?_⟩
  refine List.forall_mem_cons.mpr ⟨so_cv (T := TX7) (N := 29) dX7_tides_71 mv_X7_isTied wm_X7_155 (by decide) rfl ⟨rfl, rfl⟩ (by decide) rfl, ?_⟩
  refine List.forall_mem_cons.mpr ⟨so_if_ne dX7_tides_74 (by decide) rfl, ?_⟩
  refine List.forall_mem_cons.mpr ⟨so_aload_n dX7_tides_77 rfl rfl, ?_⟩
  refine List.forall_mem_cons.mpr ⟨so_aload_n dX7_tides_78 rfl rfl, ?_⟩
  refine List.forall_mem_cons.mpr ⟨so_aload_n dX7_tides_79 rfl rfl, ?_⟩
  refine List.forall_mem_cons.mpr ⟨so_gR (C := RX7) (T := TX7) (N := 29) dX7_tides_80 (by decide) rfl rfl (by decide) rfl in_X7 wf_X7_31 rfl, ?_⟩
  refine List.forall_mem_cons.mpr ⟨so_iconst dX7_tides_83 (by decide) rfl, ?_⟩
  refine List.forall_mem_cons.mpr ⟨so_iaload dX7_tides_84 rfl, ?_⟩
  refine List.forall_mem_cons.mpr ⟨so_cv (T := TX7) (N := 29) dX7_tides_85 mv_X7_levelOf wm_X7_127 (by decide) rfl ⟨rfl, rfl⟩ (by decide) rfl, ?_⟩
  refine List.forall_mem_cons.mpr ⟨so_cv (T := TX7) (N := 29) dX7_tides_88 mv_X7_goes wm_X7_158 (by decide) rfl ⟨rfl, rfl⟩ (by decide) rfl, ?_⟩
  refine List.forall_mem_cons.mpr ⟨so_if_eq dX7_tides_91 (by decide) rfl, ?_⟩
  refine List.forall_mem_cons.mpr ⟨so_iconst dX7_tides_94 (by decide) rfl, ?_⟩
  refine List.forall_mem_cons.mpr ⟨so_goto dX7_tides_95 (by decide), ?_⟩
  refine List.forall_mem_cons.mpr ⟨so_iconst dX7_tides_98 (by decide) rfl, ?_⟩
  refine List.forall_mem_cons.mpr ⟨so_iadd dX7_tides_99 rfl, ?_⟩
  refine List.forall_mem_cons.mpr ⟨so_istore_n dX7_tides_100 rfl rfl, ?_⟩
  refine List.forall_mem_cons.mpr ⟨so_aload_n dX7_tides_101 rfl rfl, ?_⟩
  refine List.forall_mem_cons.mpr ⟨so_gR (C := RX7) (T := TX7) (N := 29) dX7_tides_102 (by decide) rfl rfl (by decide) rfl in_X7 wf_X7_31 rfl, ?_⟩
  refine List.forall_mem_cons.mpr ⟨so_iconst dX7_tides_105 (by decide) rfl, ?_⟩
  refine List.forall_mem_cons.mpr ⟨so_iload dX7_tides_106 rfl, ?_⟩
  refine List.forall_mem_cons.mpr ⟨so_iadd dX7_tides_108 rfl, ?_⟩
  refine List.forall_mem_cons.mpr ⟨so_aload_n dX7_tides_109 rfl rfl, ?_⟩
  refine List.forall_mem_cons.mpr ⟨so_gI (C := RX7) (T := TX7) (N := 29) dX7_tides_110 (by decide) rfl rfl (by decide) rfl in_X7 wf_X7_146 rfl, ?_⟩
  refine List.forall_mem_cons.mpr ⟨so_iastore dX7_tides_113 rfl, ?_⟩
  refine List.forall_mem_cons.mpr ⟨so_aload_n dX7_tides_114 rfl rfl, ?_⟩
  refine List.forall_mem_cons.mpr ⟨so_gR (C := RX7) (T := TX7) (N := 29) dX7_tides_115 (by decide) rfl rfl (by decide) rfl in_X7 wf_X7_31 rfl, ?_⟩
  refine List.forall_mem_cons.mpr ⟨so_bipush dX7_tides_118 (by decide) rfl, ?_⟩
  refine List.forall_mem_cons.mpr ⟨so_iload dX7_tides_120 rfl, ?_⟩
  refine List.forall_mem_cons.mpr ⟨so_iadd dX7_tides_122 rfl, ?_⟩
  refine List.forall_mem_cons.mpr ⟨so_aload_n dX7_tides_123 rfl rfl, ?_⟩
  refine List.forall_mem_cons.mpr ⟨so_gI (C := RX7) (T := TX7) (N := 29) dX7_tides_124 (by decide) rfl rfl (by decide) rfl in_X7 wf_X7_143 rfl, ?_⟩
  refine List.forall_mem_cons.mpr ⟨so_iastore dX7_tides_127 rfl, ?_⟩
  refine List.forall_mem_cons.mpr ⟨so_iinc dX7_tides_128 (by decide) rfl, ?_⟩
  refine List.forall_mem_cons.mpr ⟨so_goto dX7_tides_131 (by decide), ?_⟩
  refine List.forall_mem_cons.mpr ⟨so_aload_n dX7_tides_134 rfl rfl, ?_⟩
  refine List.forall_mem_cons.mpr ⟨so_gR (C := RX7) (T := TX7) (N := 29) dX7_tides_135 (by decide) rfl rfl (by decide) rfl in_X7 wf_X7_31 rfl, ?_⟩
  refine List.forall_mem_cons.mpr ⟨so_iconst dX7_tides_138 (by decide) rfl, ?_⟩
  refine List.forall_mem_cons.mpr ⟨so_dup2 dX7_tides_139 rfl, ?_⟩
  refine List.forall_mem_cons.mpr ⟨so_iaload dX7_tides_140 rfl, ?_⟩
  refine List.forall_mem_cons.mpr ⟨so_iconst dX7_tides_141 (by decide) rfl, ?_⟩
  refine List.forall_mem_cons.mpr ⟨so_iadd dX7_tides_142 rfl, ?_⟩
  refine List.forall_mem_cons.mpr ⟨so_iastore dX7_tides_143 rfl, ?_⟩
  refine List.forall_mem_cons.mpr ⟨so_iinc dX7_tides_144 (by decide) rfl, ?_⟩
  refine List.forall_mem_cons.mpr ⟨so_goto dX7_tides_147 (by decide), ?_⟩
  refine List.forall_mem_cons.mpr ⟨so_aload_n dX7_tides_150 rfl rfl, ?_⟩
  refine List.forall_mem_cons.mpr ⟨so_gR (C := RX7) (T := TX7) (N := 29) dX7_tides_151 (by decide) rfl rfl (by decide) rfl in_X7 wf_X7_31 rfl, ?_⟩
  refine List.forall_mem_cons.mpr ⟨so_bipush dX7_tides_154 (by decide) rfl, ?_⟩
  refine List.forall_mem_cons.mpr ⟨so_aload_n dX7_tides_156 rfl rfl, ?_⟩
  refine List.forall_mem_cons.mpr ⟨so_gR (C := RX7) (T := TX7) (N := 29) dX7_tides_157 (by decide) rfl rfl (by decide) rfl in_X7 wf_X7_31 rfl, ?_⟩
  refine List.forall_mem_cons.mpr ⟨so_bipush dX7_tides_160 (by decide) rfl, ?_⟩
  refine List.forall_mem_cons.mpr ⟨so_iaload dX7_tides_162 rfl, ?_⟩
  refine List.forall_mem_cons.mpr ⟨so_iload_n dX7_tides_163 rfl rfl, ?_⟩
  refine List.forall_mem_cons.mpr ⟨so_iadd dX7_tides_164 rfl, ?_⟩
  refine List.forall_mem_cons.mpr ⟨so_ldc dX7_tides_165 wc_X7_161 rfl, ?_⟩
  refine List.forall_mem_cons.mpr ⟨so_icmp_le dX7_tides_167 (by decide) rfl, ?_⟩
  refine List.forall_mem_cons.mpr ⟨so_ldc dX7_tides_170 wc_X7_161 rfl, ?_⟩
  refine List.forall_mem_cons.mpr ⟨so_goto dX7_tides_172 (by decide), ?_⟩
  refine List.forall_mem_cons.mpr ⟨so_aload_n dX7_tides_175 rfl rfl, ?_⟩
  refine List.forall_mem_cons.mpr ⟨so_gR (C := RX7) (T := TX7) (N := 29) dX7_tides_176 (by decide) rfl rfl (by decide) rfl in_X7 wf_X7_31 rfl, ?_⟩
  refine List.forall_mem_cons.mpr ⟨so_bipush dX7_tides_179 (by decide) rfl, ?_⟩
  refine List.forall_mem_cons.mpr ⟨so_iaload dX7_tides_181 rfl, ?_⟩
  refine List.forall_mem_cons.mpr ⟨so_iload_n dX7_tides_182 rfl rfl, ?_⟩
  refine List.forall_mem_cons.mpr ⟨so_iadd dX7_tides_183 rfl, ?_⟩
  refine List.forall_mem_cons.mpr ⟨so_iastore dX7_tides_184 rfl, ?_⟩
  refine List.forall_mem_cons.mpr ⟨so_iload_n dX7_tides_185 rfl rfl, ?_⟩
  refine List.forall_mem_cons.mpr ⟨so_rI dX7_tides_186 rfl, ?_⟩
  exact fun _ h => absurd h List.not_mem_nil
theorem dX7_ties_0 : decode cX7_ties 0 = .ok (.aload_n 0, 1) := by decide +kernel
theorem dX7_ties_1 : decode cX7_ties 1 = .ok (.iconst 0, 1) := by decide +kernel
theorem dX7_ties_2 : decode cX7_ties 2 = .ok (.putfield 62, 3) := by decide +kernel
theorem dX7_ties_5 : decode cX7_ties 5 = .ok (.aload_n 0, 1) := by decide +kernel
theorem dX7_ties_6 : decode cX7_ties 6 = .ok (.iload_n 1, 1) := by decide +kernel
theorem dX7_ties_7 : decode cX7_ties 7 = .ok (.invokevirtual 137, 3) := by decide +kernel
theorem dX7_ties_10 : decode cX7_ties 10 = .ok (.ifCond .eq 12, 3) := by decide +kernel
theorem dX7_ties_13 : decode cX7_ties 13 = .ok (.iload_n 2, 1) := by decide +kernel
theorem dX7_ties_14 : decode cX7_ties 14 = .ok (.iconst 0, 1) := by decide +kernel
theorem dX7_ties_15 : decode cX7_ties 15 = .ok (.iconst 1, 1) := by decide +kernel
theorem dX7_ties_16 : decode cX7_ties 16 = .ok (.invokestatic 66, 3) := by decide +kernel
theorem dX7_ties_19 : decode cX7_ties 19 = .ok (.ifCond .ne 5, 3) := by decide +kernel
theorem dX7_ties_22 : decode cX7_ties 22 = .ok (.iconst (-1), 1) := by decide +kernel
theorem dX7_ties_23 : decode cX7_ties 23 = .ok (.ireturn, 1) := by decide +kernel
theorem dX7_ties_24 : decode cX7_ties 24 = .ok (.aload_n 0, 1) := by decide +kernel
theorem dX7_ties_25 : decode cX7_ties 25 = .ok (.getfield 31, 3) := by decide +kernel
theorem dX7_ties_28 : decode cX7_ties 28 = .ok (.bipush 11, 2) := by decide +kernel
theorem dX7_ties_30 : decode cX7_ties 30 = .ok (.iaload, 1) := by decide +kernel
theorem dX7_ties_31 : decode cX7_ties 31 = .ok (.iload_n 1, 1) := by decide +kernel
theorem dX7_ties_32 : decode cX7_ties 32 = .ok (.ishr, 1) := by decide +kernel
theorem dX7_ties_33 : decode cX7_ties 33 = .ok (.iconst 1, 1) := by decide +kernel
theorem dX7_ties_34 : decode cX7_ties 34 = .ok (.iand, 1) := by decide +kernel
theorem dX7_ties_35 : decode cX7_ties 35 = .ok (.iload_n 2, 1) := by decide +kernel
theorem dX7_ties_36 : decode cX7_ties 36 = .ok (.if_icmp .eq 15, 3) := by decide +kernel
theorem dX7_ties_39 : decode cX7_ties 39 = .ok (.aload_n 0, 1) := by decide +kernel
theorem dX7_ties_40 : decode cX7_ties 40 = .ok (.getfield 31, 3) := by decide +kernel
theorem dX7_ties_43 : decode cX7_ties 43 = .ok (.bipush 6, 2) := by decide +kernel
theorem dX7_ties_45 : decode cX7_ties 45 = .ok (.iload_n 1, 1) := by decide +kernel
theorem dX7_ties_46 : decode cX7_ties 46 = .ok (.iadd, 1) := by decide +kernel
theorem dX7_ties_47 : decode cX7_ties 47 = .ok (.iaload, 1) := by decide +kernel
theorem dX7_ties_48 : decode cX7_ties 48 = .ok (.ifCond .le 6, 3) := by decide +kernel
theorem dX7_ties_51 : decode cX7_ties 51 = .ok (.bipush (-2), 2) := by decide +kernel
theorem dX7_ties_53 : decode cX7_ties 53 = .ok (.ireturn, 1) := by decide +kernel
theorem dX7_ties_54 : decode cX7_ties 54 = .ok (.aload_n 0, 1) := by decide +kernel
theorem dX7_ties_55 : decode cX7_ties 55 = .ok (.invokevirtual 149, 3) := by decide +kernel
theorem dX7_ties_58 : decode cX7_ties 58 = .ok (.aload_n 0, 1) := by decide +kernel
theorem dX7_ties_59 : decode cX7_ties 59 = .ok (.getfield 31, 3) := by decide +kernel
theorem dX7_ties_62 : decode cX7_ties 62 = .ok (.bipush 11, 2) := by decide +kernel
theorem dX7_ties_64 : decode cX7_ties 64 = .ok (.aload_n 0, 1) := by decide +kernel
theorem dX7_ties_65 : decode cX7_ties 65 = .ok (.getfield 31, 3) := by decide +kernel
theorem dX7_ties_68 : decode cX7_ties 68 = .ok (.bipush 11, 2) := by decide +kernel
theorem dX7_ties_70 : decode cX7_ties 70 = .ok (.iaload, 1) := by decide +kernel
theorem dX7_ties_71 : decode cX7_ties 71 = .ok (.iconst 1, 1) := by decide +kernel
theorem dX7_ties_72 : decode cX7_ties 72 = .ok (.iload_n 1, 1) := by decide +kernel
theorem dX7_ties_73 : decode cX7_ties 73 = .ok (.ishl, 1) := by decide +kernel
theorem dX7_ties_74 : decode cX7_ties 74 = .ok (.iconst (-1), 1) := by decide +kernel
theorem dX7_ties_75 : decode cX7_ties 75 = .ok (.ixor, 1) := by decide +kernel
theorem dX7_ties_76 : decode cX7_ties 76 = .ok (.iand, 1) := by decide +kernel
theorem dX7_ties_77 : decode cX7_ties 77 = .ok (.iload_n 2, 1) := by decide +kernel
theorem dX7_ties_78 : decode cX7_ties 78 = .ok (.iload_n 1, 1) := by decide +kernel
theorem dX7_ties_79 : decode cX7_ties 79 = .ok (.ishl, 1) := by decide +kernel
theorem dX7_ties_80 : decode cX7_ties 80 = .ok (.ior, 1) := by decide +kernel
theorem dX7_ties_81 : decode cX7_ties 81 = .ok (.iastore, 1) := by decide +kernel
theorem dX7_ties_82 : decode cX7_ties 82 = .ok (.aload_n 0, 1) := by decide +kernel
theorem dX7_ties_83 : decode cX7_ties 83 = .ok (.getfield 31, 3) := by decide +kernel
theorem dX7_ties_86 : decode cX7_ties 86 = .ok (.bipush 11, 2) := by decide +kernel
theorem dX7_ties_88 : decode cX7_ties 88 = .ok (.iaload, 1) := by decide +kernel
theorem dX7_ties_89 : decode cX7_ties 89 = .ok (.invokestatic 162, 3) := by decide +kernel
theorem dX7_ties_92 : decode cX7_ties 92 = .ok (.ireturn, 1) := by decide +kernel
def T_X7_ties : tk_Tb := [(0, tk_al 0 1), (1, tk_ic (0) 2), (2, tk_pI 7 0 5), (5, tk_al 0 6), (6, tk_il 1 7), (7, tk_cv 7 M_X7_isThing 1 10), (10, tk_br (fun x => x = 0) 22 13), (13, tk_il 2 14), (14, tk_ic (0) 15), (15, tk_ic (1) 16), (16, tk_cs M_X7_in 3 19), (19, tk_br (fun x => x = 0) 22 24), (22, tk_ic (-1) 23), (23, tk_rI), (24, tk_al 0 25), (25, tk_gR 7 16 28), (28, tk_ic (11) 30), (30, tk_ai 9 31), (31, tk_il 1 32), (32, tk_bi (fun x y => x >>> (y &&& 31)) 33), (33, tk_ic (1) 34), (34, tk_bi (fun x y => x &&& y) 35), (35, tk_il 2 36), (36, tk_cm (fun x y => x = y) 51 39), (39, tk_al 0 40), (40, tk_gR 7 16 43), (43, tk_ic (6) 45), (45, tk_il 1 46), (46, tk_bi (fun x y => x + y) 47), (47, tk_ai 9 48), (48, tk_br (fun x => x ≤ 0) 54 51), (51, tk_ic (-2) 53), (53, tk_rI), (54, tk_al 0 55), (55, tk_cv 7 M_X7_notes 0 58), (58, tk_al 0 59), (59, tk_gR 7 16 62), (62, tk_ic (11) 64), (64, tk_al 0 65), (65, tk_gR 7 16 68), (68, tk_ic (11) 70), (70, tk_ai 9 71), (71, tk_ic (1) 72), (72, tk_il 1 73), (73, tk_bi (fun x y => x <<< (y &&& 31)) 74), (74, tk_ic (-1) 75), (75, tk_bi (fun x y => x ^^^ y) 76), (76, tk_bi (fun x y => x &&& y) 77), (77, tk_il 2 78), (78, tk_il 1 79), (79, tk_bi (fun x y => x <<< (y &&& 31)) 80), (80, tk_bi (fun x y => x ||| y) 81), (81, tk_si 9 (fun x => x) 82), (82, tk_al 0 83), (83, tk_gR 7 16 86), (86, tk_ic (11) 88), (88, tk_ai 9 89), (89, tk_cs M_X7_ones 1 92), (92, tk_rI)]
set_option maxRecDepth 100000 in
theorem hT_X7_ties (sc : Option (Nat × (Nat → Int32))) : ∀ x ∈ T_X7_ties, tk_So sc M_X7_ties x.1 x.2 := by
  unfold T_X7_ties
  refine List.forall_mem_cons.mpr ⟨so_aload_n dX7_ties_0 rfl rfl, ?_⟩
  refine List.forall_mem_cons.mpr ⟨so_iconst dX7_ties_1 (by decide) rfl, ?_⟩
  refine List.forall_mem_cons.mpr ⟨so_pI (C := RX7) (T := TX7) (N := 29) dX7_ties_2 (by decide) rfl rfl (by decide) rfl in_X7 wf_X7_62 tyX7 tyX7_ok nmX7 rfl (by decide +kernel) rfl, ?_⟩
  refine List.forall_mem_cons.mpr ⟨so_aload_n dX7_ties_5 rfl rfl, ?_⟩
  refine List.forall_mem_cons.mpr ⟨so_iload_n dX7_ties_6 rfl rfl, ?_⟩
  refine List.forall_mem_cons.mpr ⟨so_cv (T := TX7) (N := 29) dX7_ties_7 mv_X7_isThing wm_X7_137 (by decide) rfl ⟨rfl, rfl⟩ (by decide) rfl, ?_⟩
  refine List.forall_mem_cons.mpr ⟨so_if_eq dX7_ties_10 (by decide) rfl, ?_⟩
  refine List.forall_mem_cons.mpr ⟨so_iload_n dX7_ties_13 rfl rfl, ?_⟩
  refine List.forall_mem_cons.mpr ⟨so_iconst dX7_ties_14 (by decide) rfl, ?_⟩
  refine List.forall_mem_cons.mpr ⟨so_iconst dX7_ties_15 (by decide) rfl, ?_⟩
  refine List.forall_mem_cons.mpr ⟨so_cs dX7_ties_16 mv_X7_in wm_X7_66 ⟨rfl, rfl⟩ (by decide) rfl, ?_⟩
  refine List.forall_mem_cons.mpr ⟨so_if_ne dX7_ties_19 (by decide) rfl, ?_⟩
  refine List.forall_mem_cons.mpr ⟨so_iconst dX7_ties_22 (by decide) rfl, ?_⟩
  refine List.forall_mem_cons.mpr ⟨so_rI dX7_ties_23 rfl, ?_⟩
  refine List.forall_mem_cons.mpr ⟨so_aload_n dX7_ties_24 rfl rfl, ?_⟩
  refine List.forall_mem_cons.mpr ⟨so_gR (C := RX7) (T := TX7) (N := 29) dX7_ties_25 (by decide) rfl rfl (by decide) rfl in_X7 wf_X7_31 rfl, ?_⟩
  refine List.forall_mem_cons.mpr ⟨so_bipush dX7_ties_28 (by decide) rfl, ?_⟩
  refine List.forall_mem_cons.mpr ⟨so_iaload dX7_ties_30 rfl, ?_⟩
  refine List.forall_mem_cons.mpr ⟨so_iload_n dX7_ties_31 rfl rfl, ?_⟩
  refine List.forall_mem_cons.mpr ⟨so_ishr dX7_ties_32 rfl, ?_⟩
  refine List.forall_mem_cons.mpr ⟨so_iconst dX7_ties_33 (by decide) rfl, ?_⟩
  refine List.forall_mem_cons.mpr ⟨so_iand dX7_ties_34 rfl, ?_⟩
  refine List.forall_mem_cons.mpr ⟨so_iload_n dX7_ties_35 rfl rfl, ?_⟩
  refine List.forall_mem_cons.mpr ⟨so_icmp_eq dX7_ties_36 (by decide) rfl, ?_⟩
  refine List.forall_mem_cons.mpr ⟨so_aload_n dX7_ties_39 rfl rfl, ?_⟩
  refine List.forall_mem_cons.mpr ⟨so_gR (C := RX7) (T := TX7) (N := 29) dX7_ties_40 (by decide) rfl rfl (by decide) rfl in_X7 wf_X7_31 rfl, ?_⟩
  refine List.forall_mem_cons.mpr ⟨so_bipush dX7_ties_43 (by decide) rfl, ?_⟩
  refine List.forall_mem_cons.mpr ⟨so_iload_n dX7_ties_45 rfl rfl, ?_⟩
  refine List.forall_mem_cons.mpr ⟨so_iadd dX7_ties_46 rfl, ?_⟩
  refine List.forall_mem_cons.mpr ⟨so_iaload dX7_ties_47 rfl, ?_⟩
  refine List.forall_mem_cons.mpr ⟨so_if_le dX7_ties_48 (by decide) rfl, ?_⟩
  refine List.forall_mem_cons.mpr ⟨so_bipush dX7_ties_51 (by decide) rfl, ?_⟩
  refine List.forall_mem_cons.mpr ⟨so_rI dX7_ties_53 rfl, ?_⟩
  refine List.forall_mem_cons.mpr ⟨so_aload_n dX7_ties_54 rfl rfl, ?_⟩
  refine List.forall_mem_cons.mpr ⟨so_cv (T := TX7) (N := 29) dX7_ties_55 mv_X7_notes wm_X7_149 (by decide) rfl ⟨rfl, rfl⟩ (by decide) rfl, ?_⟩
  refine List.forall_mem_cons.mpr ⟨so_aload_n dX7_ties_58 rfl rfl, ?_⟩
  refine List.forall_mem_cons.mpr ⟨so_gR (C := RX7) (T := TX7) (N := 29) dX7_ties_59 (by decide) rfl rfl (by decide) rfl in_X7 wf_X7_31 rfl, ?_⟩
  refine List.forall_mem_cons.mpr ⟨so_bipush dX7_ties_62 (by decide) rfl, ?_⟩
  refine List.forall_mem_cons.mpr ⟨so_aload_n dX7_ties_64 rfl rfl, ?_⟩
  refine List.forall_mem_cons.mpr ⟨so_gR (C := RX7) (T := TX7) (N := 29) dX7_ties_65 (by decide) rfl rfl (by decide) rfl in_X7 wf_X7_31 rfl, ?_⟩
  refine List.forall_mem_cons.mpr ⟨so_bipush dX7_ties_68 (by decide) rfl, ?_⟩
  refine List.forall_mem_cons.mpr ⟨so_iaload dX7_ties_70 rfl, ?_⟩
  refine List.forall_mem_cons.mpr ⟨so_iconst dX7_ties_71 (by decide) rfl, ?_⟩
  refine List.forall_mem_cons.mpr ⟨so_iload_n dX7_ties_72 rfl rfl, ?_⟩
  refine List.forall_mem_cons.mpr ⟨so_ishl dX7_ties_73 rfl, ?_⟩
  refine List.forall_mem_cons.mpr ⟨so_iconst dX7_ties_74 (by decide) rfl, ?_⟩
  refine List.forall_mem_cons.mpr ⟨so_ixor dX7_ties_75 rfl, ?_⟩
  refine List.forall_mem_cons.mpr ⟨so_iand dX7_ties_76 rfl, ?_⟩
  refine List.forall_mem_cons.mpr ⟨so_iload_n dX7_ties_77 rfl rfl, ?_⟩
  refine List.forall_mem_cons.mpr ⟨so_iload_n dX7_ties_78 rfl rfl, ?_⟩
  refine List.forall_mem_cons.mpr ⟨so_ishl dX7_ties_79 rfl, ?_⟩
  refine List.forall_mem_cons.mpr ⟨so_ior dX7_ties_80 rfl, ?_⟩
  refine List.forall_mem_cons.mpr ⟨so_iastore dX7_ties_81 rfl, ?_⟩
  refine List.forall_mem_cons.mpr ⟨so_aload_n dX7_ties_82 rfl rfl, ?_⟩
  refine List.forall_mem_cons.mpr ⟨so_gR (C := RX7) (T := TX7) (N := 29) dX7_ties_83 (by decide) rfl rfl (by decide) rfl in_X7 wf_X7_31 rfl, ?_⟩
  refine List.forall_mem_cons.mpr ⟨so_bipush dX7_ties_86 (by decide) rfl, ?_⟩
  refine List.forall_mem_cons.mpr ⟨so_iaload dX7_ties_88 rfl, ?_⟩
  refine List.forall_mem_cons.mpr ⟨so_cs dX7_ties_89 mv_X7_ones wm_X7_162 ⟨rfl, rfl⟩ (by decide) rfl, ?_⟩
  refine List.forall_mem_cons.mpr ⟨so_rI dX7_ties_92 rfl, ?_⟩
  exact fun _ h => absurd h List.not_mem_nil
theorem dX7_carries_0 : decode cX7_carries 0 = .ok (.aload_n 0, 1) := by decide +kernel
theorem dX7_carries_1 : decode cX7_carries 1 = .ok (.iconst 0, 1) := by decide +kernel
theorem dX7_carries_2 : decode cX7_carries 2 = .ok (.putfield 62, 3) := by decide +kernel
theorem dX7_carries_5 : decode cX7_carries 5 = .ok (.aload_n 0, 1) := by decide +kernel
theorem dX7_carries_6 : decode cX7_carries 6 = .ok (.iload_n 1, 1) := by decide +kernel
theorem dX7_carries_7 : decode cX7_carries 7 = .ok (.invokevirtual 137, 3) := by decide +kernel
theorem dX7_carries_10 : decode cX7_carries 10 = .ok (.ifCond .eq 11, 3) := by decide +kernel
theorem dX7_carries_13 : decode cX7_carries 13 = .ok (.aload_n 0, 1) := by decide +kernel
theorem dX7_carries_14 : decode cX7_carries 14 = .ok (.iload_n 2, 1) := by decide +kernel
theorem dX7_carries_15 : decode cX7_carries 15 = .ok (.invokevirtual 130, 3) := by decide +kernel
theorem dX7_carries_18 : decode cX7_carries 18 = .ok (.ifCond .ne 5, 3) := by decide +kernel
theorem dX7_carries_21 : decode cX7_carries 21 = .ok (.iconst (-1), 1) := by decide +kernel
theorem dX7_carries_22 : decode cX7_carries 22 = .ok (.ireturn, 1) := by decide +kernel
theorem dX7_carries_23 : decode cX7_carries 23 = .ok (.aload_n 0, 1) := by decide +kernel
theorem dX7_carries_24 : decode cX7_carries 24 = .ok (.getfield 31, 3) := by decide +kernel
theorem dX7_carries_27 : decode cX7_carries 27 = .ok (.iconst 1, 1) := by decide +kernel
theorem dX7_carries_28 : decode cX7_carries 28 = .ok (.iload_n 1, 1) := by decide +kernel
theorem dX7_carries_29 : decode cX7_carries 29 = .ok (.iadd, 1) := by decide +kernel
theorem dX7_carries_30 : decode cX7_carries 30 = .ok (.iaload, 1) := by decide +kernel
theorem dX7_carries_31 : decode cX7_carries 31 = .ok (.istore_n 3, 1) := by decide +kernel
theorem dX7_carries_32 : decode cX7_carries 32 = .ok (.aload_n 0, 1) := by decide +kernel
theorem dX7_carries_33 : decode cX7_carries 33 = .ok (.getfield 31, 3) := by decide +kernel
theorem dX7_carries_36 : decode cX7_carries 36 = .ok (.bipush 6, 2) := by decide +kernel
theorem dX7_carries_38 : decode cX7_carries 38 = .ok (.iload_n 1, 1) := by decide +kernel
theorem dX7_carries_39 : decode cX7_carries 39 = .ok (.iadd, 1) := by decide +kernel
theorem dX7_carries_40 : decode cX7_carries 40 = .ok (.iaload, 1) := by decide +kernel
theorem dX7_carries_41 : decode cX7_carries 41 = .ok (.ifCond .gt 23, 3) := by decide +kernel
theorem dX7_carries_44 : decode cX7_carries 44 = .ok (.aload_n 0, 1) := by decide +kernel
theorem dX7_carries_45 : decode cX7_carries 45 = .ok (.getfield 16, 3) := by decide +kernel
theorem dX7_carries_48 : decode cX7_carries 48 = .ok (.iload_n 3, 1) := by decide +kernel
theorem dX7_carries_49 : decode cX7_carries 49 = .ok (.iaload, 1) := by decide +kernel
theorem dX7_carries_50 : decode cX7_carries 50 = .ok (.aload_n 0, 1) := by decide +kernel
theorem dX7_carries_51 : decode cX7_carries 51 = .ok (.getfield 16, 3) := by decide +kernel
theorem dX7_carries_54 : decode cX7_carries 54 = .ok (.iload_n 2, 1) := by decide +kernel
theorem dX7_carries_55 : decode cX7_carries 55 = .ok (.iaload, 1) := by decide +kernel
theorem dX7_carries_56 : decode cX7_carries 56 = .ok (.if_icmp .ne 8, 3) := by decide +kernel
theorem dX7_carries_59 : decode cX7_carries 59 = .ok (.iload_n 3, 1) := by decide +kernel
theorem dX7_carries_60 : decode cX7_carries 60 = .ok (.iload_n 2, 1) := by decide +kernel
theorem dX7_carries_61 : decode cX7_carries 61 = .ok (.if_icmp .ne 6, 3) := by decide +kernel
theorem dX7_carries_64 : decode cX7_carries 64 = .ok (.bipush (-2), 2) := by decide +kernel
theorem dX7_carries_66 : decode cX7_carries 66 = .ok (.ireturn, 1) := by decide +kernel
theorem dX7_carries_67 : decode cX7_carries 67 = .ok (.aload_n 0, 1) := by decide +kernel
theorem dX7_carries_68 : decode cX7_carries 68 = .ok (.invokevirtual 149, 3) := by decide +kernel
theorem dX7_carries_71 : decode cX7_carries 71 = .ok (.aload_n 0, 1) := by decide +kernel
theorem dX7_carries_72 : decode cX7_carries 72 = .ok (.getfield 31, 3) := by decide +kernel
theorem dX7_carries_75 : decode cX7_carries 75 = .ok (.iconst 1, 1) := by decide +kernel
theorem dX7_carries_76 : decode cX7_carries 76 = .ok (.iload_n 1, 1) := by decide +kernel
theorem dX7_carries_77 : decode cX7_carries 77 = .ok (.iadd, 1) := by decide +kernel
theorem dX7_carries_78 : decode cX7_carries 78 = .ok (.iload_n 2, 1) := by decide +kernel
theorem dX7_carries_79 : decode cX7_carries 79 = .ok (.iastore, 1) := by decide +kernel
theorem dX7_carries_80 : decode cX7_carries 80 = .ok (.iload_n 3, 1) := by decide +kernel
theorem dX7_carries_81 : decode cX7_carries 81 = .ok (.ireturn, 1) := by decide +kernel
def T_X7_carries : tk_Tb := [(0, tk_al 0 1), (1, tk_ic (0) 2), (2, tk_pI 7 0 5), (5, tk_al 0 6), (6, tk_il 1 7), (7, tk_cv 7 M_X7_isThing 1 10), (10, tk_br (fun x => x = 0) 21 13), (13, tk_al 0 14), (14, tk_il 2 15), (15, tk_cv 7 M_X7_isKerb 1 18), (18, tk_br (fun x => x = 0) 21 23), (21, tk_ic (-1) 22), (22, tk_rI), (23, tk_al 0 24), (24, tk_gR 7 16 27), (27, tk_ic (1) 28), (28, tk_il 1 29), (29, tk_bi (fun x y => x + y) 30), (30, tk_ai 9 31), (31, tk_sI 3 32), (32, tk_al 0 33), (33, tk_gR 7 16 36), (36, tk_ic (6) 38), (38, tk_il 1 39), (39, tk_bi (fun x y => x + y) 40), (40, tk_ai 9 41), (41, tk_br (fun x => 0 < x) 64 44), (44, tk_al 0 45), (45, tk_gR 7 11 48), (48, tk_il 3 49), (49, tk_ai 9 50), (50, tk_al 0 51), (51, tk_gR 7 11 54), (54, tk_il 2 55), (55, tk_ai 9 56), (56, tk_cm (fun x y => x = y) 59 64), (59, tk_il 3 60), (60, tk_il 2 61), (61, tk_cm (fun x y => x = y) 64 67), (64, tk_ic (-2) 66), (66, tk_rI), (67, tk_al 0 68), (68, tk_cv 7 M_X7_notes 0 71), (71, tk_al 0 72), (72, tk_gR 7 16 75), (75, tk_ic (1) 76), (76, tk_il 1 77), (77, tk_bi (fun x y => x + y) 78), (78, tk_il 2 79), (79, tk_si 9 (fun x => x) 80), (80, tk_il 3 81), (81, tk_rI)]
set_option maxRecDepth 100000 in
theorem hT_X7_carries (sc : Option (Nat × (Nat → Int32))) : ∀ x ∈ T_X7_carries, tk_So sc M_X7_carries x.1 x.2 := by
  unfold T_X7_carries
  refine List.forall_mem_cons.mpr ⟨so_aload_n dX7_carries_0 rfl rfl, ?_⟩
  refine List.forall_mem_cons.mpr ⟨so_iconst dX7_carries_1 (by decide) rfl, ?_⟩
  refine List.forall_mem_cons.mpr ⟨so_pI (C := RX7) (T := TX7) (N := 29) dX7_carries_2 (by decide) rfl rfl (by decide) rfl in_X7 wf_X7_62 tyX7 tyX7_ok nmX7 rfl (by decide +kernel) rfl, ?_⟩
  refine List.forall_mem_cons.mpr ⟨so_aload_n dX7_carries_5 rfl rfl, ?_⟩
  refine List.forall_mem_cons.mpr ⟨so_iload_n dX7_carries_6 rfl rfl, ?_⟩
  refine List.forall_mem_cons.mpr ⟨so_cv (T := TX7) (N := 29) dX7_carries_7 mv_X7_isThing wm_X7_137 (by decide) rfl ⟨rfl, rfl⟩ (by decide) rfl, ?_⟩
  refine List.forall_mem_cons.mpr ⟨so_if_eq dX7_carries_10 (by decide) rfl, ?_⟩
  refine List.forall_mem_cons.mpr ⟨so_aload_n dX7_carries_13 rfl rfl, ?_⟩
  refine List.forall_mem_cons.mpr ⟨so_iload_n dX7_carries_14 rfl rfl, ?_⟩
  refine List.forall_mem_cons.mpr ⟨so_cv (T := TX7) (N := 29) dX7_carries_15 mv_X7_isKerb wm_X7_130 (by decide) rfl ⟨rfl, rfl⟩ (by decide) rfl, ?_⟩
  refine List.forall_mem_cons.mpr ⟨so_if_ne dX7_carries_18 (by decide) rfl, ?_⟩
  refine List.forall_mem_cons.mpr ⟨so_iconst dX7_carries_21 (by decide) rfl, ?_⟩
  refine List.forall_mem_cons.mpr ⟨so_rI dX7_carries_22 rfl, ?_⟩
  refine List.forall_mem_cons.mpr ⟨so_aload_n dX7_carries_23 rfl rfl, ?_⟩
  refine List.forall_mem_cons.mpr ⟨so_gR (C := RX7) (T := TX7) (N := 29) dX7_carries_24 (by decide) rfl rfl (by decide) rfl in_X7 wf_X7_31 rfl, ?_⟩
  refine List.forall_mem_cons.mpr ⟨so_iconst dX7_carries_27 (by decide) rfl, ?_⟩
  refine List.forall_mem_cons.mpr ⟨so_iload_n dX7_carries_28 rfl rfl, ?_⟩
  refine List.forall_mem_cons.mpr ⟨so_iadd dX7_carries_29 rfl, ?_⟩
  refine List.forall_mem_cons.mpr ⟨so_iaload dX7_carries_30 rfl, ?_⟩
  refine List.forall_mem_cons.mpr ⟨so_istore_n dX7_carries_31 rfl rfl, ?_⟩
  refine List.forall_mem_cons.mpr ⟨so_aload_n dX7_carries_32 rfl rfl, ?_⟩
  refine List.forall_mem_cons.mpr ⟨so_gR (C := RX7) (T := TX7) (N := 29) dX7_carries_33 (by decide) rfl rfl (by decide) rfl in_X7 wf_X7_31 rfl, ?_⟩
  refine List.forall_mem_cons.mpr ⟨so_bipush dX7_carries_36 (by decide) rfl, ?_⟩
  refine List.forall_mem_cons.mpr ⟨so_iload_n dX7_carries_38 rfl rfl, ?_⟩
  refine List.forall_mem_cons.mpr ⟨so_iadd dX7_carries_39 rfl, ?_⟩
  refine List.forall_mem_cons.mpr ⟨so_iaload dX7_carries_40 rfl, ?_⟩
  refine List.forall_mem_cons.mpr ⟨so_if_gt dX7_carries_41 (by decide) rfl, ?_⟩
  refine List.forall_mem_cons.mpr ⟨so_aload_n dX7_carries_44 rfl rfl, ?_⟩
  refine List.forall_mem_cons.mpr ⟨so_gR (C := RX7) (T := TX7) (N := 29) dX7_carries_45 (by decide) rfl rfl (by decide) rfl in_X7 wf_X7_16 rfl, ?_⟩
  refine List.forall_mem_cons.mpr ⟨so_iload_n dX7_carries_48 rfl rfl, ?_⟩
  refine List.forall_mem_cons.mpr ⟨so_iaload dX7_carries_49 rfl, ?_⟩
  refine List.forall_mem_cons.mpr ⟨so_aload_n dX7_carries_50 rfl rfl, ?_⟩
  refine List.forall_mem_cons.mpr ⟨so_gR (C := RX7) (T := TX7) (N := 29) dX7_carries_51 (by decide) rfl rfl (by decide) rfl in_X7 wf_X7_16 rfl, ?_⟩
  refine List.forall_mem_cons.mpr ⟨so_iload_n dX7_carries_54 rfl rfl, ?_⟩
  refine List.forall_mem_cons.mpr ⟨so_iaload dX7_carries_55 rfl, ?_⟩
  refine List.forall_mem_cons.mpr ⟨so_icmp_ne dX7_carries_56 (by decide) rfl, ?_⟩
  refine List.forall_mem_cons.mpr ⟨so_iload_n dX7_carries_59 rfl rfl, ?_⟩
  refine List.forall_mem_cons.mpr ⟨so_iload_n dX7_carries_60 rfl rfl, ?_⟩
  refine List.forall_mem_cons.mpr ⟨so_icmp_ne dX7_carries_61 (by decide) rfl, ?_⟩
  refine List.forall_mem_cons.mpr ⟨so_bipush dX7_carries_64 (by decide) rfl, ?_⟩
  refine List.forall_mem_cons.mpr ⟨so_rI dX7_carries_66 rfl, ?_⟩
  refine List.forall_mem_cons.mpr ⟨so_aload_n dX7_carries_67 rfl rfl, ?_⟩
  refine List.forall_mem_cons.mpr ⟨so_cv (T := TX7) (N := 29) dX7_carries_68 mv_X7_notes wm_X7_149 (by decide) rfl ⟨rfl, rfl⟩ (by decide) rfl, ?_⟩
  refine List.forall_mem_cons.mpr ⟨so_aload_n dX7_carries_71 rfl rfl, ?_⟩
  refine List.forall_mem_cons.mpr ⟨so_gR (C := RX7) (T := TX7) (N := 29) dX7_carries_72 (by decide) rfl rfl (by decide) rfl in_X7 wf_X7_31 rfl, ?_⟩
  refine List.forall_mem_cons.mpr ⟨so_iconst dX7_carries_75 (by decide) rfl, ?_⟩
  refine List.forall_mem_cons.mpr ⟨so_iload_n dX7_carries_76 rfl rfl, ?_⟩
  refine List.forall_mem_cons.mpr ⟨so_iadd dX7_carries_77 rfl, ?_⟩
  refine List.forall_mem_cons.mpr ⟨so_iload_n dX7_carries_78 rfl rfl, ?_⟩
  refine List.forall_mem_cons.mpr ⟨so_iastore dX7_carries_79 rfl, ?_⟩
  refine List.forall_mem_cons.mpr ⟨so_iload_n dX7_carries_80 rfl rfl, ?_⟩
  refine List.forall_mem_cons.mpr ⟨so_rI dX7_carries_81 rfl, ?_⟩
  exact fun _ h => absurd h List.not_mem_nil
theorem dX7_undo_0 : decode cX7_undo 0 = .ok (.aload_n 0, 1) := by decide +kernel
theorem dX7_undo_1 : decode cX7_undo 1 = .ok (.iconst 0, 1) := by decide +kernel
theorem dX7_undo_2 : decode cX7_undo 2 = .ok (.putfield 62, 3) := by decide +kernel
theorem dX7_undo_5 : decode cX7_undo 5 = .ok (.aload_n 0, 1) := by decide +kernel
theorem dX7_undo_6 : decode cX7_undo 6 = .ok (.getfield 124, 3) := by decide +kernel
theorem dX7_undo_9 : decode cX7_undo 9 = .ok (.ifCond .ne 6, 3) := by decide +kernel
theorem dX7_undo_12 : decode cX7_undo 12 = .ok (.bipush (-2), 2) := by decide +kernel
theorem dX7_undo_14 : decode cX7_undo 14 = .ok (.ireturn, 1) := by decide +kernel
theorem dX7_undo_15 : decode cX7_undo 15 = .ok (.aload_n 0, 1) := by decide +kernel
theorem dX7_undo_16 : decode cX7_undo 16 = .ok (.dup, 1) := by decide +kernel
theorem dX7_undo_17 : decode cX7_undo 17 = .ok (.getfield 124, 3) := by decide +kernel
theorem dX7_undo_20 : decode cX7_undo 20 = .ok (.iconst 1, 1) := by decide +kernel
theorem dX7_undo_21 : decode cX7_undo 21 = .ok (.isub, 1) := by decide +kernel
theorem dX7_undo_22 : decode cX7_undo 22 = .ok (.putfield 124, 3) := by decide +kernel
theorem dX7_undo_25 : decode cX7_undo 25 = .ok (.iconst 0, 1) := by decide +kernel
theorem dX7_undo_26 : decode cX7_undo 26 = .ok (.istore_n 1, 1) := by decide +kernel
theorem dX7_undo_27 : decode cX7_undo 27 = .ok (.iload_n 1, 1) := by decide +kernel
theorem dX7_undo_28 : decode cX7_undo 28 = .ok (.bipush 13, 2) := by decide +kernel
theorem dX7_undo_30 : decode cX7_undo 30 = .ok (.if_icmp .ge 29, 3) := by decide +kernel
theorem dX7_undo_33 : decode cX7_undo 33 = .ok (.aload_n 0, 1) := by decide +kernel
theorem dX7_undo_34 : decode cX7_undo 34 = .ok (.getfield 31, 3) := by decide +kernel
theorem dX7_undo_37 : decode cX7_undo 37 = .ok (.iload_n 1, 1) := by decide +kernel
theorem dX7_undo_38 : decode cX7_undo 38 = .ok (.aload_n 0, 1) := by decide +kernel
theorem dX7_undo_39 : decode cX7_undo 39 = .ok (.getfield 41, 3) := by decide +kernel
theorem dX7_undo_42 : decode cX7_undo 42 = .ok (.bipush 13, 2) := by decide +kernel
theorem dX7_undo_44 : decode cX7_undo 44 = .ok (.aload_n 0, 1) := by decide +kernel
theorem dX7_undo_45 : decode cX7_undo 45 = .ok (.getfield 124, 3) := by decide +kernel
theorem dX7_undo_48 : decode cX7_undo 48 = .ok (.imul, 1) := by decide +kernel
theorem dX7_undo_49 : decode cX7_undo 49 = .ok (.iload_n 1, 1) := by decide +kernel
theorem dX7_undo_50 : decode cX7_undo 50 = .ok (.iadd, 1) := by decide +kernel
theorem dX7_undo_51 : decode cX7_undo 51 = .ok (.iaload, 1) := by decide +kernel
theorem dX7_undo_52 : decode cX7_undo 52 = .ok (.iastore, 1) := by decide +kernel
theorem dX7_undo_53 : decode cX7_undo 53 = .ok (.iinc 1 1, 3) := by decide +kernel
theorem dX7_undo_56 : decode cX7_undo 56 = .ok (.goto (-29), 3) := by decide +kernel
theorem dX7_undo_59 : decode cX7_undo 59 = .ok (.aload_n 0, 1) := by decide +kernel
theorem dX7_undo_60 : decode cX7_undo 60 = .ok (.getfield 124, 3) := by decide +kernel
theorem dX7_undo_63 : decode cX7_undo 63 = .ok (.ireturn, 1) := by decide +kernel
def T_X7_undo : tk_Tb := [(0, tk_al 0 1), (1, tk_ic (0) 2), (2, tk_pI 7 0 5), (5, tk_al 0 6), (6, tk_gI 7 20 9), (9, tk_br (fun x => x = 0) 12 15), (12, tk_ic (-2) 14), (14, tk_rI), (15, tk_al 0 16), (16, tk_dup 17), (17, tk_gI 7 20 20), (20, tk_ic (1) 21), (21, tk_bi (fun x y => x - y) 22), (22, tk_pI 7 20 25), (25, tk_ic (0) 26), (26, tk_sI 1 27), (27, tk_il 1 28), (28, tk_ic (13) 30), (30, tk_cm (fun x y => y ≤ x) 59 33), (33, tk_al 0 34), (34, tk_gR 7 16 37), (37, tk_il 1 38), (38, tk_al 0 39), (39, tk_gR 7 19 42), (42, tk_ic (13) 44), (44, tk_al 0 45), (45, tk_gI 7 20 48), (48, tk_bi (fun x y => x * y) 49), (49, tk_il 1 50), (50, tk_bi (fun x y => x + y) 51), (51, tk_ai 9 52), (52, tk_si 9 (fun x => x) 53), (53, tk_inc 1 (1) 56), (56, tk_jmp 27), (59, tk_al 0 60), (60, tk_gI 7 20 63), (63, tk_rI)]
set_option maxRecDepth 100000 in
theorem hT_X7_undo (sc : Option (Nat × (Nat → Int32))) : ∀ x ∈ T_X7_undo, tk_So sc M_X7_undo x.1 x.2 := by
  unfold T_X7_undo
  refine List.forall_mem_cons.mpr ⟨so_aload_n dX7_undo_0 rfl rfl, ?_⟩
  refine List.forall_mem_cons.mpr ⟨so_iconst dX7_undo_1 (by decide) rfl, ?_⟩
  refine List.forall_mem_cons.mpr ⟨so_pI (C := RX7) (T := TX7) (N := 29) dX7_undo_2 (by decide) rfl rfl (by decide) rfl in_X7 wf_X7_62 tyX7 tyX7_ok nmX7 rfl (by decide +kernel) rfl, ?_⟩
  refine List.forall_mem_cons.mpr ⟨so_aload_n dX7_undo_5 rfl rfl, ?_⟩
  refine List.forall_mem_cons.mpr ⟨so_gI (C := RX7) (T := TX7) (N := 29) dX7_undo_6 (by decide) rfl rfl (by decide) rfl in_X7 wf_X7_124 rfl, ?_⟩
  refine List.forall_mem_cons.mpr ⟨so_if_ne dX7_undo_9 (by decide) rfl, ?_⟩
  refine List.forall_mem_cons.mpr ⟨so_bipush dX7_undo_12 (by decide) rfl, ?_⟩
  refine List.forall_mem_cons.mpr ⟨so_rI dX7_undo_14 rfl, ?_⟩
  refine List.forall_mem_cons.mpr ⟨so_aload_n dX7_undo_15 rfl rfl, ?_⟩
  refine List.forall_mem_cons.mpr ⟨so_dup dX7_undo_16 rfl, ?_⟩
  refine List.forall_mem_cons.mpr ⟨so_gI (C := RX7) (T := TX7) (N := 29) dX7_undo_17 (by decide) rfl rfl (by decide) rfl in_X7 wf_X7_124 rfl, ?_⟩
  refine List.forall_mem_cons.mpr ⟨so_iconst dX7_undo_20 (by decide) rfl, ?_⟩
  refine List.forall_mem_cons.mpr ⟨so_isub dX7_undo_21 rfl, ?_⟩
  refine List.forall_mem_cons.mpr ⟨so_pI (C := RX7) (T := TX7) (N := 29) dX7_undo_22 (by decide) rfl rfl (by decide) rfl in_X7 wf_X7_124 tyX7 tyX7_ok nmX7 rfl (by decide +kernel) rfl, ?_⟩
  refine List.forall_mem_cons.mpr ⟨so_iconst dX7_undo_25 (by decide) rfl, ?_⟩
  refine List.forall_mem_cons.mpr ⟨so_istore_n dX7_undo_26 rfl rfl, ?_⟩
  refine List.forall_mem_cons.mpr ⟨so_iload_n dX7_undo_27 rfl rfl, ?_⟩
  refine List.forall_mem_cons.mpr ⟨so_bipush dX7_undo_28 (by decide) rfl, ?_⟩
  refine List.forall_mem_cons.mpr ⟨so_icmp_ge dX7_undo_30 (by decide) rfl, ?_⟩
  refine List.forall_mem_cons.mpr ⟨so_aload_n dX7_undo_33 rfl rfl, ?_⟩
  refine List.forall_mem_cons.mpr ⟨so_gR (C := RX7) (T := TX7) (N := 29) dX7_undo_34 (by decide) rfl rfl (by decide) rfl in_X7 wf_X7_31 rfl, ?_⟩
  refine List.forall_mem_cons.mpr ⟨so_iload_n dX7_undo_37 rfl rfl, ?_⟩
  refine List.forall_mem_cons.mpr ⟨so_aload_n dX7_undo_38 rfl rfl, ?_⟩
  refine List.forall_mem_cons.mpr ⟨so_gR (C := RX7) (T := TX7) (N := 29) dX7_undo_39 (by decide) rfl rfl (by decide) rfl in_X7 wf_X7_41 rfl, ?_⟩
  refine List.forall_mem_cons.mpr ⟨so_bipush dX7_undo_42 (by decide) rfl, ?_⟩
  refine List.forall_mem_cons.mpr ⟨so_aload_n dX7_undo_44 rfl rfl, ?_⟩
  refine List.forall_mem_cons.mpr ⟨so_gI (C := RX7) (T := TX7) (N := 29) dX7_undo_45 (by decide) rfl rfl (by decide) rfl in_X7 wf_X7_124 rfl, ?_⟩
  refine List.forall_mem_cons.mpr ⟨so_imul dX7_undo_48 rfl, ?_⟩
  refine List.forall_mem_cons.mpr ⟨so_iload_n dX7_undo_49 rfl rfl, ?_⟩
  refine List.forall_mem_cons.mpr ⟨so_iadd dX7_undo_50 rfl, ?_⟩
  refine List.forall_mem_cons.mpr ⟨so_iaload dX7_undo_51 rfl, ?_⟩
  refine List.forall_mem_cons.mpr ⟨so_iastore dX7_undo_52 rfl, ?_⟩
  refine List.forall_mem_cons.mpr ⟨so_iinc dX7_undo_53 (by decide) rfl, ?_⟩
  refine List.forall_mem_cons.mpr ⟨so_goto dX7_undo_56 (by decide), ?_⟩
  refine List.forall_mem_cons.mpr ⟨so_aload_n dX7_undo_59 rfl rfl, ?_⟩
  refine List.forall_mem_cons.mpr ⟨so_gI (C := RX7) (T := TX7) (N := 29) dX7_undo_60 (by decide) rfl rfl (by decide) rfl in_X7 wf_X7_124 rfl, ?_⟩
  refine List.forall_mem_cons.mpr ⟨so_rI dX7_undo_63 rfl, ?_⟩
  exact fun _ h => absurd h List.not_mem_nil
