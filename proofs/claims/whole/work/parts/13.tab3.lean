theorem dX6_began_0 : decode cX6_began 0 = .ok (.iconst 0, 1) := by decide +kernel
theorem dX6_began_1 : decode cX6_began 1 = .ok (.istore_n 1, 1) := by decide +kernel
theorem dX6_began_2 : decode cX6_began 2 = .ok (.iconst 0, 1) := by decide +kernel
theorem dX6_began_3 : decode cX6_began 3 = .ok (.istore_n 2, 1) := by decide +kernel
theorem dX6_began_4 : decode cX6_began 4 = .ok (.iload_n 2, 1) := by decide +kernel
theorem dX6_began_5 : decode cX6_began 5 = .ok (.aload_n 0, 1) := by decide +kernel
theorem dX6_began_6 : decode cX6_began 6 = .ok (.getfield 19, 3) := by decide +kernel
theorem dX6_began_9 : decode cX6_began 9 = .ok (.getfield 195, 3) := by decide +kernel
theorem dX6_began_12 : decode cX6_began 12 = .ok (.if_icmp .ge 23, 3) := by decide +kernel
theorem dX6_began_15 : decode cX6_began 15 = .ok (.aload_n 0, 1) := by decide +kernel
theorem dX6_began_16 : decode cX6_began 16 = .ok (.iload_n 2, 1) := by decide +kernel
theorem dX6_began_17 : decode cX6_began 17 = .ok (.invokevirtual 229, 3) := by decide +kernel
theorem dX6_began_20 : decode cX6_began 20 = .ok (.ifCond .eq 9, 3) := by decide +kernel
theorem dX6_began_23 : decode cX6_began 23 = .ok (.iload_n 1, 1) := by decide +kernel
theorem dX6_began_24 : decode cX6_began 24 = .ok (.iconst 1, 1) := by decide +kernel
theorem dX6_began_25 : decode cX6_began 25 = .ok (.iload_n 2, 1) := by decide +kernel
theorem dX6_began_26 : decode cX6_began 26 = .ok (.ishl, 1) := by decide +kernel
theorem dX6_began_27 : decode cX6_began 27 = .ok (.ior, 1) := by decide +kernel
theorem dX6_began_28 : decode cX6_began 28 = .ok (.istore_n 1, 1) := by decide +kernel
theorem dX6_began_29 : decode cX6_began 29 = .ok (.iinc 2 1, 3) := by decide +kernel
theorem dX6_began_32 : decode cX6_began 32 = .ok (.goto (-28), 3) := by decide +kernel
theorem dX6_began_35 : decode cX6_began 35 = .ok (.iload_n 1, 1) := by decide +kernel
theorem dX6_began_36 : decode cX6_began 36 = .ok (.ireturn, 1) := by decide +kernel
def T_X6_began : tk_Tb := [(0, tk_ic (0) 1), (1, tk_sI 1 2), (2, tk_ic (0) 3), (3, tk_sI 2 4), (4, tk_il 2 5), (5, tk_al 0 6), (6, tk_gR 6 1 9), (9, tk_gI 5 3 12), (12, tk_cm (fun x y => y ≤ x) 35 15), (15, tk_al 0 16), (16, tk_il 2 17), (17, tk_cv 6 M_X6_canHaveBegunOn 1 20), (20, tk_br (fun x => x = 0) 29 23), (23, tk_il 1 24), (24, tk_ic (1) 25), (25, tk_il 2 26), (26, tk_bi (fun x y => x <<< (y &&& 31)) 27), (27, tk_bi (fun x y => x ||| y) 28), (28, tk_sI 1 29), (29, tk_inc 2 (1) 32), (32, tk_jmp 4), (35, tk_il 1 36), (36, tk_rI)]
set_option maxRecDepth 100000 in
theorem hT_X6_began (sc : Option (Nat × (Nat → Int32))) : ∀ x ∈ T_X6_began, tk_So sc M_X6_began x.1 x.2 := by
  unfold T_X6_began
  refine List.forall_mem_cons.mpr ⟨so_iconst dX6_began_0 (by decide) rfl, ?_⟩
  refine List.forall_mem_cons.mpr ⟨so_istore_n dX6_began_1 rfl rfl, ?_⟩
  refine List.forall_mem_cons.mpr ⟨so_iconst dX6_began_2 (by decide) rfl, ?_⟩
  refine List.forall_mem_cons.mpr ⟨so_istore_n dX6_began_3 rfl rfl, ?_⟩
  refine List.forall_mem_cons.mpr ⟨so_iload_n dX6_began_4 rfl rfl, ?_⟩
  refine List.forall_mem_cons.mpr ⟨so_aload_n dX6_began_5 rfl rfl, ?_⟩
  refine List.forall_mem_cons.mpr ⟨so_gR (C := RX6) (T := TX6) (N := 12) dX6_began_6 (by decide) rfl rfl (by decide) rfl in_X6 wf_X6_19 rfl, ?_⟩
  refine List.forall_mem_cons.mpr ⟨so_gI (C := RX5) (T := TX5) (N := 10) dX6_began_9 (by decide) rfl rfl (by decide) rfl in_X5 wf_X6_195 rfl, ?_⟩
  refine List.forall_mem_cons.mpr ⟨so_icmp_ge dX6_began_12 (by decide) rfl, ?_⟩
  refine List.forall_mem_cons.mpr ⟨so_aload_n dX6_began_15 rfl rfl, ?_⟩
  refine List.forall_mem_cons.mpr ⟨so_iload_n dX6_began_16 rfl rfl, ?_⟩
  refine List.forall_mem_cons.mpr ⟨so_cv (T := TX6) (N := 12) dX6_began_17 mv_X6_canHaveBegunOn wm_X6_229 (by decide) rfl ⟨rfl, rfl⟩ (by decide) rfl, ?_⟩
  refine List.forall_mem_cons.mpr ⟨so_if_eq dX6_began_20 (by decide) rfl, ?_⟩
  refine List.forall_mem_cons.mpr ⟨so_iload_n dX6_began_23 rfl rfl, ?_⟩
  refine List.forall_mem_cons.mpr ⟨so_iconst dX6_began_24 (by decide) rfl, ?_⟩
  refine List.forall_mem_cons.mpr ⟨so_iload_n dX6_began_25 rfl rfl, ?_⟩
  refine List.forall_mem_cons.mpr ⟨so_ishl dX6_began_26 rfl, ?_⟩
  refine List.forall_mem_cons.mpr ⟨so_ior dX6_began_27 rfl, ?_⟩
  refine List.forall_mem_cons.mpr ⟨so_istore_n dX6_began_28 rfl rfl, ?_⟩
  refine List.forall_mem_cons.mpr ⟨so_iinc dX6_began_29 (by decide) rfl, ?_⟩
  refine List.forall_mem_cons.mpr ⟨so_goto dX6_began_32 (by decide), ?_⟩
  refine List.forall_mem_cons.mpr ⟨so_iload_n dX6_began_35 rfl rfl, ?_⟩
  refine List.forall_mem_cons.mpr ⟨so_rI dX6_began_36 rfl, ?_⟩
  exact fun _ h => absurd h List.not_mem_nil
theorem dX6_saw_0 : decode cX6_saw 0 = .ok (.iload_n 1, 1) := by decide +kernel
theorem dX6_saw_1 : decode cX6_saw 1 = .ok (.iconst 0, 1) := by decide +kernel
theorem dX6_saw_2 : decode cX6_saw 2 = .ok (.bipush 99, 2) := by decide +kernel
theorem dX6_saw_4 : decode cX6_saw 4 = .ok (.invokestatic 69, 3) := by decide +kernel
theorem dX6_saw_7 : decode cX6_saw 7 = .ok (.ifCond .eq 13, 3) := by decide +kernel
theorem dX6_saw_10 : decode cX6_saw 10 = .ok (.iload_n 2, 1) := by decide +kernel
theorem dX6_saw_11 : decode cX6_saw 11 = .ok (.iconst 0, 1) := by decide +kernel
theorem dX6_saw_12 : decode cX6_saw 12 = .ok (.bipush 19, 2) := by decide +kernel
theorem dX6_saw_14 : decode cX6_saw 14 = .ok (.invokestatic 69, 3) := by decide +kernel
theorem dX6_saw_17 : decode cX6_saw 17 = .ok (.ifCond .ne 5, 3) := by decide +kernel
theorem dX6_saw_20 : decode cX6_saw 20 = .ok (.iconst (-1), 1) := by decide +kernel
theorem dX6_saw_21 : decode cX6_saw 21 = .ok (.ireturn, 1) := by decide +kernel
theorem dX6_saw_22 : decode cX6_saw 22 = .ok (.aload_n 0, 1) := by decide +kernel
theorem dX6_saw_23 : decode cX6_saw 23 = .ok (.getfield 56, 3) := by decide +kernel
theorem dX6_saw_26 : decode cX6_saw 26 = .ok (.iload_n 1, 1) := by decide +kernel
theorem dX6_saw_27 : decode cX6_saw 27 = .ok (.iload_n 2, 1) := by decide +kernel
theorem dX6_saw_28 : decode cX6_saw 28 = .ok (.invokevirtual 227, 3) := by decide +kernel
theorem dX6_saw_31 : decode cX6_saw 31 = .ok (.ireturn, 1) := by decide +kernel
def T_X6_saw : tk_Tb := [(0, tk_il 1 1), (1, tk_ic (0) 2), (2, tk_ic (99) 4), (4, tk_cs M_X6_isWithin 3 7), (7, tk_br (fun x => x = 0) 20 10), (10, tk_il 2 11), (11, tk_ic (0) 12), (12, tk_ic (19) 14), (14, tk_cs M_X6_isWithin 3 17), (17, tk_br (fun x => x = 0) 20 22), (20, tk_ic (-1) 21), (21, tk_rI), (22, tk_al 0 23), (23, tk_gR 6 8 26), (26, tk_il 1 27), (27, tk_il 2 28), (28, tk_cv 0 M_X0_add 2 31), (31, tk_rI)]
set_option maxRecDepth 100000 in
theorem hT_X6_saw (sc : Option (Nat × (Nat → Int32))) : ∀ x ∈ T_X6_saw, tk_So sc M_X6_saw x.1 x.2 := by
  unfold T_X6_saw
  refine List.forall_mem_cons.mpr ⟨so_iload_n dX6_saw_0 rfl rfl, ?_⟩
  refine List.forall_mem_cons.mpr ⟨so_iconst dX6_saw_1 (by decide) rfl, ?_⟩
  refine List.forall_mem_cons.mpr ⟨so_bipush dX6_saw_2 (by decide) rfl, ?_⟩
  refine List.forall_mem_cons.mpr ⟨so_cs dX6_saw_4 mv_X6_isWithin wm_X6_69 ⟨rfl, rfl⟩ (by decide) rfl, ?_⟩
  refine List.forall_mem_cons.mpr ⟨so_if_eq dX6_saw_7 (by decide) rfl, ?_⟩
  refine List.forall_mem_cons.mpr ⟨so_iload_n dX6_saw_10 rfl rfl, ?_⟩
  refine List.forall_mem_cons.mpr ⟨so_iconst dX6_saw_11 (by decide) rfl, ?_⟩
  refine List.forall_mem_cons.mpr ⟨so_bipush dX6_saw_12 (by decide) rfl, ?_⟩
  refine List.forall_mem_cons.mpr ⟨so_cs dX6_saw_14 mv_X6_isWithin wm_X6_69 ⟨rfl, rfl⟩ (by decide) rfl, ?_⟩
  refine List.forall_mem_cons.mpr ⟨so_if_ne dX6_saw_17 (by decide) rfl, ?_⟩
  refine List.forall_mem_cons.mpr ⟨so_iconst dX6_saw_20 (by decide) rfl, ?_⟩
  refine List.forall_mem_cons.mpr ⟨so_rI dX6_saw_21 rfl, ?_⟩
  refine List.forall_mem_cons.mpr ⟨so_aload_n dX6_saw_22 rfl rfl, ?_⟩
  refine List.forall_mem_cons.mpr ⟨so_gR (C := RX6) (T := TX6) (N := 12) dX6_saw_23 (by decide) rfl rfl (by decide) rfl in_X6 wf_X6_56 rfl, ?_⟩
  refine List.forall_mem_cons.mpr ⟨so_iload_n dX6_saw_26 rfl rfl, ?_⟩
  refine List.forall_mem_cons.mpr ⟨so_iload_n dX6_saw_27 rfl rfl, ?_⟩
  refine List.forall_mem_cons.mpr ⟨so_cv (T := TX0) (N := 3) dX6_saw_28 mv_X0_add wm_X6_227 (by decide) rfl ⟨rfl, rfl⟩ (by decide) rfl, ?_⟩
  refine List.forall_mem_cons.mpr ⟨so_rI dX6_saw_31 rfl, ?_⟩
  exact fun _ h => absurd h List.not_mem_nil
theorem dX6_isLaw_0 : decode cX6_isLaw 0 = .ok (.iconst 0, 1) := by decide +kernel
theorem dX6_isLaw_1 : decode cX6_isLaw 1 = .ok (.istore_n 3, 1) := by decide +kernel
theorem dX6_isLaw_2 : decode cX6_isLaw 2 = .ok (.iload_n 3, 1) := by decide +kernel
theorem dX6_isLaw_3 : decode cX6_isLaw 3 = .ok (.aload_n 0, 1) := by decide +kernel
theorem dX6_isLaw_4 : decode cX6_isLaw 4 = .ok (.getfield 56, 3) := by decide +kernel
theorem dX6_isLaw_7 : decode cX6_isLaw 7 = .ok (.getfield 260, 3) := by decide +kernel
theorem dX6_isLaw_10 : decode cX6_isLaw 10 = .ok (.if_icmp .ge 43, 3) := by decide +kernel
theorem dX6_isLaw_13 : decode cX6_isLaw 13 = .ok (.aload_n 0, 1) := by decide +kernel
theorem dX6_isLaw_14 : decode cX6_isLaw 14 = .ok (.getfield 19, 3) := by decide +kernel
theorem dX6_isLaw_17 : decode cX6_isLaw 17 = .ok (.iload_n 1, 1) := by decide +kernel
theorem dX6_isLaw_18 : decode cX6_isLaw 18 = .ok (.aload_n 0, 1) := by decide +kernel
theorem dX6_isLaw_19 : decode cX6_isLaw 19 = .ok (.getfield 56, 3) := by decide +kernel
theorem dX6_isLaw_22 : decode cX6_isLaw 22 = .ok (.getfield 278, 3) := by decide +kernel
theorem dX6_isLaw_25 : decode cX6_isLaw 25 = .ok (.iload_n 3, 1) := by decide +kernel
theorem dX6_isLaw_26 : decode cX6_isLaw 26 = .ok (.iaload, 1) := by decide +kernel
theorem dX6_isLaw_27 : decode cX6_isLaw 27 = .ok (.imul, 1) := by decide +kernel
theorem dX6_isLaw_28 : decode cX6_isLaw 28 = .ok (.iload_n 2, 1) := by decide +kernel
theorem dX6_isLaw_29 : decode cX6_isLaw 29 = .ok (.iadd, 1) := by decide +kernel
theorem dX6_isLaw_30 : decode cX6_isLaw 30 = .ok (.invokevirtual 209, 3) := by decide +kernel
theorem dX6_isLaw_33 : decode cX6_isLaw 33 = .ok (.aload_n 0, 1) := by decide +kernel
theorem dX6_isLaw_34 : decode cX6_isLaw 34 = .ok (.getfield 56, 3) := by decide +kernel
theorem dX6_isLaw_37 : decode cX6_isLaw 37 = .ok (.getfield 275, 3) := by decide +kernel
theorem dX6_isLaw_40 : decode cX6_isLaw 40 = .ok (.iload_n 3, 1) := by decide +kernel
theorem dX6_isLaw_41 : decode cX6_isLaw 41 = .ok (.iaload, 1) := by decide +kernel
theorem dX6_isLaw_42 : decode cX6_isLaw 42 = .ok (.if_icmp .eq 5, 3) := by decide +kernel
theorem dX6_isLaw_45 : decode cX6_isLaw 45 = .ok (.iconst 0, 1) := by decide +kernel
theorem dX6_isLaw_46 : decode cX6_isLaw 46 = .ok (.ireturn, 1) := by decide +kernel
theorem dX6_isLaw_47 : decode cX6_isLaw 47 = .ok (.iinc 3 1, 3) := by decide +kernel
theorem dX6_isLaw_50 : decode cX6_isLaw 50 = .ok (.goto (-48), 3) := by decide +kernel
theorem dX6_isLaw_53 : decode cX6_isLaw 53 = .ok (.iconst 1, 1) := by decide +kernel
theorem dX6_isLaw_54 : decode cX6_isLaw 54 = .ok (.ireturn, 1) := by decide +kernel
def T_X6_isLaw : tk_Tb := [(0, tk_ic (0) 1), (1, tk_sI 3 2), (2, tk_il 3 3), (3, tk_al 0 4), (4, tk_gR 6 8 7), (7, tk_gI 0 2 10), (10, tk_cm (fun x y => y ≤ x) 53 13), (13, tk_al 0 14), (14, tk_gR 6 1 17), (17, tk_il 1 18), (18, tk_al 0 19), (19, tk_gR 6 8 22), (22, tk_gR 0 0 25), (25, tk_il 3 26), (26, tk_ai 9 27), (27, tk_bi (fun x y => x * y) 28), (28, tk_il 2 29), (29, tk_bi (fun x y => x + y) 30), (30, tk_cv 5 M_X5_leftOver 1 33), (33, tk_al 0 34), (34, tk_gR 6 8 37), (37, tk_gR 0 1 40), (40, tk_il 3 41), (41, tk_ai 9 42), (42, tk_cm (fun x y => x = y) 47 45), (45, tk_ic (0) 46), (46, tk_rZ), (47, tk_inc 3 (1) 50), (50, tk_jmp 2), (53, tk_ic (1) 54), (54, tk_rZ)]
set_option maxRecDepth 100000 in
theorem hT_X6_isLaw (sc : Option (Nat × (Nat → Int32))) : ∀ x ∈ T_X6_isLaw, tk_So sc M_X6_isLaw x.1 x.2 := by
  unfold T_X6_isLaw
  refine List.forall_mem_cons.mpr ⟨so_iconst dX6_isLaw_0 (by decide) rfl, ?_⟩
  refine List.forall_mem_cons.mpr ⟨so_istore_n dX6_isLaw_1 rfl rfl, ?_⟩
  refine List.forall_mem_cons.mpr ⟨so_iload_n dX6_isLaw_2 rfl rfl, ?_⟩
  refine List.forall_mem_cons.mpr ⟨so_aload_n dX6_isLaw_3 rfl rfl, ?_⟩
  refine List.forall_mem_cons.mpr ⟨so_gR (C := RX6) (T := TX6) (N := 12) dX6_isLaw_4 (by decide) rfl rfl (by decide) rfl in_X6 wf_X6_56 rfl, ?_⟩
  refine List.forall_mem_cons.mpr ⟨so_gI (C := RX0) (T := TX0) (N := 3) dX6_isLaw_7 (by decide) rfl rfl (by decide) rfl in_X0 wf_X6_260 rfl, ?_⟩
  refine List.forall_mem_cons.mpr ⟨so_icmp_ge dX6_isLaw_10 (by decide) rfl, ?_⟩
  refine List.forall_mem_cons.mpr ⟨so_aload_n dX6_isLaw_13 rfl rfl, ?_⟩
  refine List.forall_mem_cons.mpr ⟨so_gR (C := RX6) (T := TX6) (N := 12) dX6_isLaw_14 (by decide) rfl rfl (by decide) rfl in_X6 wf_X6_19 rfl, ?_⟩
  refine List.forall_mem_cons.mpr ⟨so_iload_n dX6_isLaw_17 rfl rfl, ?_⟩
  refine List.forall_mem_cons.mpr ⟨so_aload_n dX6_isLaw_18 rfl rfl, ?_⟩
  refine List.forall_mem_cons.mpr ⟨so_gR (C := RX6) (T := TX6) (N := 12) dX6_isLaw_19 (by decide) rfl rfl (by decide) rfl in_X6 wf_X6_56 rfl, ?_⟩
  refine List.forall_mem_cons.mpr ⟨so_gR (C := RX0) (T := TX0) (N := 3) dX6_isLaw_22 (by decide) rfl rfl (by decide) rfl in_X0 wf_X6_278 rfl, ?_⟩
  refine List.forall_mem_cons.mpr ⟨so_iload_n dX6_isLaw_25 rfl rfl, ?_⟩
  refine List.forall_mem_cons.mpr ⟨so_iaload dX6_isLaw_26 rfl, ?_⟩
  refine List.forall_mem_cons.mpr ⟨so_imul dX6_isLaw_27 rfl, ?_⟩
  refine List.forall_mem_cons.mpr ⟨so_iload_n dX6_isLaw_28 rfl rfl, ?_⟩
  refine List.forall_mem_cons.mpr ⟨so_iadd dX6_isLaw_29 rfl, ?_⟩
  refine List.forall_mem_cons.mpr ⟨so_cv (T := TX5) (N := 10) dX6_isLaw_30 mv_X5_leftOver wm_X6_209 (by decide) rfl ⟨rfl, rfl⟩ (by decide) rfl, ?_⟩
  refine List.forall_mem_cons.mpr ⟨so_aload_n dX6_isLaw_33 rfl rfl, ?_⟩
  refine List.forall_mem_cons.mpr ⟨so_gR (C := RX6) (T := TX6) (N := 12) dX6_isLaw_34 (by decide) rfl rfl (by decide) rfl in_X6 wf_X6_56 rfl, ?_⟩
  refine List.forall_mem_cons.mpr ⟨so_gR (C := RX0) (T := TX0) (N := 3) dX6_isLaw_37 (by decide) rfl rfl (by decide) rfl in_X0 wf_X6_275 rfl, ?_⟩
  refine List.forall_mem_cons.mpr ⟨so_iload_n dX6_isLaw_40 rfl rfl, ?_⟩
  refine List.forall_mem_cons.mpr ⟨so_iaload dX6_isLaw_41 rfl, ?_⟩
  refine List.forall_mem_cons.mpr ⟨so_icmp_eq dX6_isLaw_42 (by decide) rfl, ?_⟩
  refine List.forall_mem_cons.mpr ⟨so_iconst dX6_isLaw_45 (by decide) rfl, ?_⟩
  refine List.forall_mem_cons.mpr ⟨so_rZ dX6_isLaw_46 rfl, ?_⟩
  refine List.forall_mem_cons.mpr ⟨so_iinc dX6_isLaw_47 (by decide) rfl, ?_⟩
  refine List.forall_mem_cons.mpr ⟨so_goto dX6_isLaw_50 (by decide), ?_⟩
  refine List.forall_mem_cons.mpr ⟨so_iconst dX6_isLaw_53 (by decide) rfl, ?_⟩
  refine List.forall_mem_cons.mpr ⟨so_rZ dX6_isLaw_54 rfl, ?_⟩
  exact fun _ h => absurd h List.not_mem_nil
theorem dX6_laws_0 : decode cX6_laws 0 = .ok (.iload_n 1, 1) := by decide +kernel
theorem dX6_laws_1 : decode cX6_laws 1 = .ok (.iconst 0, 1) := by decide +kernel
theorem dX6_laws_2 : decode cX6_laws 2 = .ok (.iconst 1, 1) := by decide +kernel
theorem dX6_laws_3 : decode cX6_laws 3 = .ok (.invokestatic 69, 3) := by decide +kernel
theorem dX6_laws_6 : decode cX6_laws 6 = .ok (.ifCond .ne 5, 3) := by decide +kernel
theorem dX6_laws_9 : decode cX6_laws 9 = .ok (.iconst (-1), 1) := by decide +kernel
theorem dX6_laws_10 : decode cX6_laws 10 = .ok (.ireturn, 1) := by decide +kernel
theorem dX6_laws_11 : decode cX6_laws 11 = .ok (.iconst 0, 1) := by decide +kernel
theorem dX6_laws_12 : decode cX6_laws 12 = .ok (.istore_n 2, 1) := by decide +kernel
theorem dX6_laws_13 : decode cX6_laws 13 = .ok (.bipush (-9), 2) := by decide +kernel
theorem dX6_laws_15 : decode cX6_laws 15 = .ok (.istore_n 3, 1) := by decide +kernel
theorem dX6_laws_16 : decode cX6_laws 16 = .ok (.iconst 0, 1) := by decide +kernel
theorem dX6_laws_17 : decode cX6_laws 17 = .ok (.istore 4, 2) := by decide +kernel
theorem dX6_laws_19 : decode cX6_laws 19 = .ok (.iload 4, 2) := by decide +kernel
theorem dX6_laws_21 : decode cX6_laws 21 = .ok (.aload_n 0, 1) := by decide +kernel
theorem dX6_laws_22 : decode cX6_laws 22 = .ok (.getfield 19, 3) := by decide +kernel
theorem dX6_laws_25 : decode cX6_laws 25 = .ok (.getfield 181, 3) := by decide +kernel
theorem dX6_laws_28 : decode cX6_laws 28 = .ok (.if_icmp .ge 59, 3) := by decide +kernel
theorem dX6_laws_31 : decode cX6_laws 31 = .ok (.iconst 0, 1) := by decide +kernel
theorem dX6_laws_32 : decode cX6_laws 32 = .ok (.istore 5, 2) := by decide +kernel
theorem dX6_laws_34 : decode cX6_laws 34 = .ok (.iload 5, 2) := by decide +kernel
theorem dX6_laws_36 : decode cX6_laws 36 = .ok (.aload_n 0, 1) := by decide +kernel
theorem dX6_laws_37 : decode cX6_laws 37 = .ok (.getfield 19, 3) := by decide +kernel
theorem dX6_laws_40 : decode cX6_laws 40 = .ok (.getfield 181, 3) := by decide +kernel
theorem dX6_laws_43 : decode cX6_laws 43 = .ok (.if_icmp .ge 38, 3) := by decide +kernel
theorem dX6_laws_46 : decode cX6_laws 46 = .ok (.aload_n 0, 1) := by decide +kernel
theorem dX6_laws_47 : decode cX6_laws 47 = .ok (.iload 4, 2) := by decide +kernel
theorem dX6_laws_49 : decode cX6_laws 49 = .ok (.iload 5, 2) := by decide +kernel
theorem dX6_laws_51 : decode cX6_laws 51 = .ok (.invokevirtual 232, 3) := by decide +kernel
theorem dX6_laws_54 : decode cX6_laws 54 = .ok (.ifCond .eq 21, 3) := by decide +kernel
theorem dX6_laws_57 : decode cX6_laws 57 = .ok (.iinc 2 1, 3) := by decide +kernel
theorem dX6_laws_60 : decode cX6_laws 60 = .ok (.iload_n 3, 1) := by decide +kernel
theorem dX6_laws_61 : decode cX6_laws 61 = .ok (.bipush (-9), 2) := by decide +kernel
theorem dX6_laws_63 : decode cX6_laws 63 = .ok (.if_icmp .ne 12, 3) := by decide +kernel
theorem dX6_laws_66 : decode cX6_laws 66 = .ok (.bipush 100, 2) := by decide +kernel
theorem dX6_laws_68 : decode cX6_laws 68 = .ok (.iload 4, 2) := by decide +kernel
theorem dX6_laws_70 : decode cX6_laws 70 = .ok (.imul, 1) := by decide +kernel
theorem dX6_laws_71 : decode cX6_laws 71 = .ok (.iload 5, 2) := by decide +kernel
theorem dX6_laws_73 : decode cX6_laws 73 = .ok (.iadd, 1) := by decide +kernel
theorem dX6_laws_74 : decode cX6_laws 74 = .ok (.istore_n 3, 1) := by decide +kernel
theorem dX6_laws_75 : decode cX6_laws 75 = .ok (.iinc 5 1, 3) := by decide +kernel
theorem dX6_laws_78 : decode cX6_laws 78 = .ok (.goto (-44), 3) := by decide +kernel
theorem dX6_laws_81 : decode cX6_laws 81 = .ok (.iinc 4 1, 3) := by decide +kernel
theorem dX6_laws_84 : decode cX6_laws 84 = .ok (.goto (-65), 3) := by decide +kernel
theorem dX6_laws_87 : decode cX6_laws 87 = .ok (.iload_n 1, 1) := by decide +kernel
theorem dX6_laws_88 : decode cX6_laws 88 = .ok (.ifCond .ne 7, 3) := by decide +kernel
theorem dX6_laws_91 : decode cX6_laws 91 = .ok (.iload_n 2, 1) := by decide +kernel
theorem dX6_laws_92 : decode cX6_laws 92 = .ok (.goto 4, 3) := by decide +kernel
theorem dX6_laws_95 : decode cX6_laws 95 = .ok (.iload_n 3, 1) := by decide +kernel
theorem dX6_laws_96 : decode cX6_laws 96 = .ok (.ireturn, 1) := by decide +kernel
def T_X6_laws : tk_Tb := [(0, tk_il 1 1), (1, tk_ic (0) 2), (2, tk_ic (1) 3), (3, tk_cs M_X6_isWithin 3 6), (6, tk_br (fun x => x = 0) 9 11), (9, tk_ic (-1) 10), (10, tk_rI), (11, tk_ic (0) 12), (12, tk_sI 2 13), (13, tk_ic (-9) 15), (15, tk_sI 3 16), (16, tk_ic (0) 17), (17, tk_sI 4 19), (19, tk_il 4 21), (21, tk_al 0 22), (22, tk_gR 6 1 25), (25, tk_gI 5 0 28), (28, tk_cm (fun x y => y ≤ x) 87 31), (31, tk_ic (0) 32), (32, tk_sI 5 34), (34, tk_il 5 36), (36, tk_al 0 37), (37, tk_gR 6 1 40), (40, tk_gI 5 0 43), (43, tk_cm (fun x y => y ≤ x) 81 46), (46, tk_al 0 47), (47, tk_il 4 49), (49, tk_il 5 51), (51, tk_cv 6 M_X6_isLaw 2 54), (54, tk_br (fun x => x = 0) 75 57), (57, tk_inc 2 (1) 60), (60, tk_il 3 61), (61, tk_ic (-9) 63), (63, tk_cm (fun x y => x = y) 66 75), (66, tk_ic (100) 68), (68, tk_il 4 70), (70, tk_bi (fun x y => x * y) 71), (71, tk_il 5 73), (73, tk_bi (fun x y => x + y) 74), (74, tk_sI 3 75), (75, tk_inc 5 (1) 78), (78, tk_jmp 34), (81, tk_inc 4 (1) 84), (84, tk_jmp 19), (87, tk_il 1 88), (88, tk_br (fun x => x = 0) 91 95), (91, tk_il 2 92), (92, tk_jmp 96), (95, tk_il 3 96), (96, tk_rI)]
set_option maxRecDepth 100000 in
theorem hT_X6_laws (sc : Option (Nat × (Nat → Int32))) : ∀ x ∈ T_X6_laws, tk_So sc M_X6_laws x.1 x.2 := by
  unfold T_X6_laws
  refine List.forall_mem_cons.mpr ⟨so_iload_n dX6_laws_0 rfl rfl, ?_⟩
  refine List.forall_mem_cons.mpr ⟨so_iconst dX6_laws_1 (by decide) rfl, ?_⟩
  refine List.forall_mem_cons.mpr ⟨so_iconst dX6_laws_2 (by decide) rfl, ?_⟩
  refine List.forall_mem_cons.mpr ⟨so_cs dX6_laws_3 mv_X6_isWithin wm_X6_69 ⟨rfl, rfl⟩ (by decide) rfl, ?_⟩
  refine List.forall_mem_cons.mpr ⟨so_if_ne dX6_laws_6 (by decide) rfl, ?_⟩
  refine List.forall_mem_cons.mpr ⟨so_iconst dX6_laws_9 (by decide) rfl, ?_⟩
  refine List.forall_mem_cons.mpr ⟨so_rI dX6_laws_10 rfl, ?_⟩
  refine List.forall_mem_cons.mpr ⟨so_iconst dX6_laws_11 (by decide) rfl, ?_⟩
  refine List.forall_mem_cons.mpr ⟨so_istore_n dX6_laws_12 rfl rfl, ?_⟩
  refine List.forall_mem_cons.mpr ⟨so_bipush dX6_laws_13 (by decide) rfl, ?_⟩
  refine List.forall_mem_cons.mpr ⟨so_istore_n dX6_laws_15 rfl rfl, ?_⟩
  refine List.forall_mem_cons.mpr ⟨so_iconst dX6_laws_16 (by decide) rfl, ?_⟩
  refine List.forall_mem_cons.mpr ⟨so_istore dX6_laws_17 rfl, ?_⟩
  refine List.forall_mem_cons.mpr ⟨so_iload dX6_laws_19 rfl, ?_⟩
  refine List.forall_mem_cons.mpr ⟨so_aload_n dX6_laws_21 rfl rfl, ?_⟩
  refine List.forall_mem_cons.mpr ⟨so_gR (C := RX6) (T := TX6) (N := 12) dX6_laws_22 (by decide) rfl rfl (by decide) rfl in_X6 wf_X6_19 rfl, ?_⟩
  refine List.forall_mem_cons.mpr ⟨so_gI (C := RX5) (T := TX5) (N := 10) dX6_laws_25 (by decide) rfl rfl (by decide) rfl in_X5 wf_X6_181 rfl, ?_⟩
  refine List.forall_mem_cons.mpr ⟨so_icmp_ge dX6_laws_28 (by decide) rfl, ?_⟩
  refine List.forall_mem_cons.mpr ⟨so_iconst dX6_laws_31 (by decide) rfl, ?_⟩
  refine List.forall_mem_cons.mpr ⟨so_istore dX6_laws_32 rfl, ?_⟩
  refine List.forall_mem_cons.mpr ⟨so_iload dX6_laws_34 rfl, ?_⟩
  refine List.forall_mem_cons.mpr ⟨so_aload_n dX6_laws_36 rfl rfl, ?_⟩
  refine List.forall_mem_cons.mpr ⟨so_gR (C := RX6) (T := TX6) (N := 12) dX6_laws_37 (by decide) rfl rfl (by decide) rfl in_X6 wf_X6_19 rfl, ?_⟩
  refine List.forall_mem_cons.mpr ⟨so_gI (C := RX5) (T := TX5) (N := 10) dX6_laws_40 (by decide) rfl rfl (by decide) rfl in_X5 wf_X6_181 rfl, ?_⟩
  refine List.forall_mem_cons.mpr ⟨so_icmp_ge dX6_laws_43 (by decide) rfl, ?_⟩
  refine List.forall_mem_cons.mpr ⟨so_aload_n dX6_laws_46 rfl rfl, ?_⟩
  refine List.forall_mem_cons.mpr ⟨so_iload dX6_laws_47 rfl, ?_⟩
  refine List.forall_mem_cons.mpr ⟨so_iload dX6_laws_49 rfl, ?_⟩
  refine List.forall_mem_cons.mpr ⟨so_cv (T := TX6) (N := 12) dX6_laws_51 mv_X6_isLaw wm_X6_232 (by decide) rfl ⟨rfl, rfl⟩ (by decide) rfl, ?_⟩
  refine List.forall_mem_cons.mpr ⟨so_if_eq dX6_laws_54 (by decide) rfl, ?_⟩
  refine List.forall_mem_cons.mpr ⟨so_iinc dX6_laws_57 (by decide) rfl, ?_⟩
  refine List.forall_mem_cons.mpr ⟨so_iload_n dX6_laws_60 rfl rfl, ?_⟩
  refine List.forall_mem_cons.mpr ⟨so_bipush dX6_laws_61 (by decide) rfl, ?_⟩
  refine List.forall_mem_cons.mpr ⟨so_icmp_ne dX6_laws_63 (by decide) rfl, ?_⟩
  refine List.forall_mem_cons.mpr ⟨so_bipush dX6_laws_66 (by decide) rfl, ?_⟩
  refine List.forall_mem_cons.mpr ⟨so_iload dX6_laws_68 rfl, ?_⟩
  refine List.forall_mem_cons.mpr ⟨so_imul dX6_laws_70 rfl, ?_⟩
  refine List.forall_mem_cons.mpr ⟨so_iload dX6_laws_71 rfl, ?_⟩
  refine List.forall_mem_cons.mpr ⟨so_iadd dX6_laws_73 rfl, ?_⟩
  refine List.forall_mem_cons.mpr ⟨so_istore_n dX6_laws_74 rfl rfl, ?_⟩
  refine List.forall_mem_cons.mpr ⟨so_iinc dX6_laws_75 (by decide) rfl, ?_⟩
  refine List.forall_mem_cons.mpr ⟨so_goto dX6_laws_78 (by decide), ?_⟩
  refine List.forall_mem_cons.mpr ⟨so_iinc dX6_laws_81 (by decide) rfl, ?_⟩
  refine List.forall_mem_cons.mpr ⟨so_goto dX6_laws_84 (by decide), ?_⟩
  refine List.forall_mem_cons.mpr ⟨so_iload_n dX6_laws_87 rfl rfl, ?_⟩
  refine List.forall_mem_cons.mpr ⟨so_if_ne dX6_laws_88 (by decide) rfl, ?_⟩
  refine List.forall_mem_cons.mpr ⟨so_iload_n dX6_laws_91 rfl rfl, ?_⟩
  refine List.forall_mem_cons.mpr ⟨so_goto dX6_laws_92 (by decide), ?_⟩
  refine List.forall_mem_cons.mpr ⟨so_iload_n dX6_laws_95 rfl rfl, ?_⟩
  refine List.forall_mem_cons.mpr ⟨so_rI dX6_laws_96 rfl, ?_⟩
  exact fun _ h => absurd h List.not_mem_nil
theorem dX6_forget_0 : decode cX6_forget 0 = .ok (.aload_n 0, 1) := by decide +kernel
theorem dX6_forget_1 : decode cX6_forget 1 = .ok (.getfield 52, 3) := by decide +kernel
theorem dX6_forget_4 : decode cX6_forget 4 = .ok (.invokevirtual 92, 3) := by decide +kernel
theorem dX6_forget_7 : decode cX6_forget 7 = .ok (.aload_n 0, 1) := by decide +kernel
theorem dX6_forget_8 : decode cX6_forget 8 = .ok (.getfield 56, 3) := by decide +kernel
theorem dX6_forget_11 : decode cX6_forget 11 = .ok (.invokevirtual 92, 3) := by decide +kernel
theorem dX6_forget_14 : decode cX6_forget 14 = .ok (.iadd, 1) := by decide +kernel
theorem dX6_forget_15 : decode cX6_forget 15 = .ok (.ireturn, 1) := by decide +kernel
def T_X6_forget : tk_Tb := [(0, tk_al 0 1), (1, tk_gR 6 7 4), (4, tk_cv 0 M_X0_lose 0 7), (7, tk_al 0 8), (8, tk_gR 6 8 11), (11, tk_cv 0 M_X0_lose 0 14), (14, tk_bi (fun x y => x + y) 15), (15, tk_rI)]
set_option maxRecDepth 100000 in
theorem hT_X6_forget (sc : Option (Nat × (Nat → Int32))) : ∀ x ∈ T_X6_forget, tk_So sc M_X6_forget x.1 x.2 := by
  unfold T_X6_forget
  refine List.forall_mem_cons.mpr ⟨so_aload_n dX6_forget_0 rfl rfl, ?_⟩
  refine List.forall_mem_cons.mpr ⟨so_gR (C := RX6) (T := TX6) (N := 12) dX6_forget_1 (by decide) rfl rfl (by decide) rfl in_X6 wf_X6_52 rfl, ?_⟩
  refine List.forall_mem_cons.mpr ⟨so_cv (T := TX0) (N := 3) dX6_forget_4 mv_X0_lose wm_X6_92 (by decide) rfl ⟨rfl, rfl⟩ (by decide) rfl, ?_⟩
  refine List.forall_mem_cons.mpr ⟨so_aload_n dX6_forget_7 rfl rfl, ?_⟩
  refine List.forall_mem_cons.mpr ⟨so_gR (C := RX6) (T := TX6) (N := 12) dX6_forget_8 (by decide) rfl rfl (by decide) rfl in_X6 wf_X6_56 rfl, ?_⟩
  refine List.forall_mem_cons.mpr ⟨so_cv (T := TX0) (N := 3) dX6_forget_11 mv_X0_lose wm_X6_92 (by decide) rfl ⟨rfl, rfl⟩ (by decide) rfl, ?_⟩
  refine List.forall_mem_cons.mpr ⟨so_iadd dX6_forget_14 rfl, ?_⟩
  refine List.forall_mem_cons.mpr ⟨so_rI dX6_forget_15 rfl, ?_⟩
  exact fun _ h => absurd h List.not_mem_nil
theorem dX6_rateAsKerb_0 : decode cX6_rateAsKerb 0 = .ok (.aload_n 0, 1) := by decide +kernel
theorem dX6_rateAsKerb_1 : decode cX6_rateAsKerb 1 = .ok (.dup, 1) := by decide +kernel
theorem dX6_rateAsKerb_2 : decode cX6_rateAsKerb 2 = .ok (.getfield 266, 3) := by decide +kernel
theorem dX6_rateAsKerb_5 : decode cX6_rateAsKerb 5 = .ok (.lconst 1, 1) := by decide +kernel
theorem dX6_rateAsKerb_6 : decode cX6_rateAsKerb 6 = .ok (.ladd, 1) := by decide +kernel
theorem dX6_rateAsKerb_7 : decode cX6_rateAsKerb 7 = .ok (.putfield 266, 3) := by decide +kernel
theorem dX6_rateAsKerb_10 : decode cX6_rateAsKerb 10 = .ok (.aload_n 0, 1) := by decide +kernel
theorem dX6_rateAsKerb_11 : decode cX6_rateAsKerb 11 = .ok (.getfield 19, 3) := by decide +kernel
theorem dX6_rateAsKerb_14 : decode cX6_rateAsKerb 14 = .ok (.getfield 102, 3) := by decide +kernel
theorem dX6_rateAsKerb_17 : decode cX6_rateAsKerb 17 = .ok (.iload_n 1, 1) := by decide +kernel
theorem dX6_rateAsKerb_18 : decode cX6_rateAsKerb 18 = .ok (.iaload, 1) := by decide +kernel
theorem dX6_rateAsKerb_19 : decode cX6_rateAsKerb 19 = .ok (.ireturn, 1) := by decide +kernel
def T_X6_rateAsKerb : tk_Tb := [(0, tk_al 0 1), (1, tk_dup 2), (2, tk_gL 6 11 5), (5, tk_lc (1) 6), (6, tk_lad 7), (7, tk_pL 6 11 10), (10, tk_al 0 11), (11, tk_gR 6 1 14), (14, tk_gR 5 6 17), (17, tk_il 1 18), (18, tk_ai 9 19), (19, tk_rI)]
set_option maxRecDepth 100000 in
theorem hT_X6_rateAsKerb (sc : Option (Nat × (Nat → Int32))) : ∀ x ∈ T_X6_rateAsKerb, tk_So sc M_X6_rateAsKerb x.1 x.2 := by
  unfold T_X6_rateAsKerb
  refine List.forall_mem_cons.mpr ⟨so_aload_n dX6_rateAsKerb_0 rfl rfl, ?_⟩
  refine List.forall_mem_cons.mpr ⟨so_dup dX6_rateAsKerb_1 rfl, ?_⟩
  refine List.forall_mem_cons.mpr ⟨so_gL (C := RX6) (T := TX6) (N := 12) dX6_rateAsKerb_2 (by decide) rfl rfl (by decide) rfl in_X6 wf_X6_266 rfl, ?_⟩
  refine List.forall_mem_cons.mpr ⟨so_lconst dX6_rateAsKerb_5 (by decide) rfl, ?_⟩
  refine List.forall_mem_cons.mpr ⟨so_ladd dX6_rateAsKerb_6 rfl, ?_⟩
  refine List.forall_mem_cons.mpr ⟨so_pL (C := RX6) (T := TX6) (N := 12) dX6_rateAsKerb_7 (by decide) rfl rfl (by decide) rfl in_X6 wf_X6_266 tyX6 tyX6_ok nmX6 rfl (by decide +kernel) rfl, ?_⟩
  refine List.forall_mem_cons.mpr ⟨so_aload_n dX6_rateAsKerb_10 rfl rfl, ?_⟩
  refine List.forall_mem_cons.mpr ⟨so_gR (C := RX6) (T := TX6) (N := 12) dX6_rateAsKerb_11 (by decide) rfl rfl (by decide) rfl in_X6 wf_X6_19 rfl, ?_⟩
  refine List.forall_mem_cons.mpr ⟨so_gR (C := RX5) (T := TX5) (N := 10) dX6_rateAsKerb_14 (by decide) rfl rfl (by decide) rfl in_X5 wf_X6_102 rfl, ?_⟩
  refine List.forall_mem_cons.mpr ⟨so_iload_n dX6_rateAsKerb_17 rfl rfl, ?_⟩
  refine List.forall_mem_cons.mpr ⟨so_iaload dX6_rateAsKerb_18 rfl, ?_⟩
  refine List.forall_mem_cons.mpr ⟨so_rI dX6_rateAsKerb_19 rfl, ?_⟩
  exact fun _ h => absurd h List.not_mem_nil
theorem dX6_rateAsBank_0 : decode cX6_rateAsBank 0 = .ok (.aload_n 0, 1) := by decide +kernel
theorem dX6_rateAsBank_1 : decode cX6_rateAsBank 1 = .ok (.dup, 1) := by decide +kernel
theorem dX6_rateAsBank_2 : decode cX6_rateAsBank 2 = .ok (.getfield 266, 3) := by decide +kernel
theorem dX6_rateAsBank_5 : decode cX6_rateAsBank 5 = .ok (.ldc2_w 281, 3) := by decide +kernel
theorem dX6_rateAsBank_8 : decode cX6_rateAsBank 8 = .ok (.ladd, 1) := by decide +kernel
theorem dX6_rateAsBank_9 : decode cX6_rateAsBank 9 = .ok (.putfield 266, 3) := by decide +kernel
theorem dX6_rateAsBank_12 : decode cX6_rateAsBank 12 = .ok (.aload_n 0, 1) := by decide +kernel
theorem dX6_rateAsBank_13 : decode cX6_rateAsBank 13 = .ok (.iload_n 1, 1) := by decide +kernel
theorem dX6_rateAsBank_14 : decode cX6_rateAsBank 14 = .ok (.invokevirtual 236, 3) := by decide +kernel
theorem dX6_rateAsBank_17 : decode cX6_rateAsBank 17 = .ok (.aload_n 0, 1) := by decide +kernel
theorem dX6_rateAsBank_18 : decode cX6_rateAsBank 18 = .ok (.getfield 29, 3) := by decide +kernel
theorem dX6_rateAsBank_21 : decode cX6_rateAsBank 21 = .ok (.iload_n 1, 1) := by decide +kernel
theorem dX6_rateAsBank_22 : decode cX6_rateAsBank 22 = .ok (.aload_n 0, 1) := by decide +kernel
theorem dX6_rateAsBank_23 : decode cX6_rateAsBank 23 = .ok (.getfield 19, 3) := by decide +kernel
theorem dX6_rateAsBank_26 : decode cX6_rateAsBank 26 = .ok (.getfield 111, 3) := by decide +kernel
theorem dX6_rateAsBank_29 : decode cX6_rateAsBank 29 = .ok (.invokevirtual 115, 3) := by decide +kernel
theorem dX6_rateAsBank_32 : decode cX6_rateAsBank 32 = .ok (.invokestatic 216, 3) := by decide +kernel
theorem dX6_rateAsBank_35 : decode cX6_rateAsBank 35 = .ok (.iadd, 1) := by decide +kernel
theorem dX6_rateAsBank_36 : decode cX6_rateAsBank 36 = .ok (.ireturn, 1) := by decide +kernel
def T_X6_rateAsBank : tk_Tb := [(0, tk_al 0 1), (1, tk_dup 2), (2, tk_gL 6 11 5), (5, tk_lc (10) 8), (8, tk_lad 9), (9, tk_pL 6 11 12), (12, tk_al 0 13), (13, tk_il 1 14), (14, tk_cv 6 M_X6_rateAsKerb 1 17), (17, tk_al 0 18), (18, tk_gR 6 3 21), (21, tk_il 1 22), (22, tk_al 0 23), (23, tk_gR 6 1 26), (26, tk_gI 5 4 29), (29, tk_cv 1 M_X1_lyingOn 2 32), (32, tk_cs M_J6_bitCount_0f7a4 1 35), (35, tk_bi (fun x y => x + y) 36), (36, tk_rI)]
set_option maxRecDepth 100000 in
theorem hT_X6_rateAsBank (sc : Option (Nat × (Nat → Int32))) : ∀ x ∈ T_X6_rateAsBank, tk_So sc M_X6_rateAsBank x.1 x.2 := by
  unfold T_X6_rateAsBank
  refine List.forall_mem_cons.mpr ⟨so_aload_n dX6_rateAsBank_0 rfl rfl, ?_⟩
  refine List.forall_mem_cons.mpr ⟨so_dup dX6_rateAsBank_1 rfl, ?_⟩
  refine List.forall_mem_cons.mpr ⟨so_gL (C := RX6) (T := TX6) (N := 12) dX6_rateAsBank_2 (by decide) rfl rfl (by decide) rfl in_X6 wf_X6_266 rfl, ?_⟩
  refine List.forall_mem_cons.mpr ⟨so_ldc2 dX6_rateAsBank_5 wc_X6_281 rfl, ?_⟩
  refine List.forall_mem_cons.mpr ⟨so_ladd dX6_rateAsBank_8 rfl, ?_⟩
  refine List.forall_mem_cons.mpr ⟨so_pL (C := RX6) (T := TX6) (N := 12) dX6_rateAsBank_9 (by decide) rfl rfl (by decide) rfl in_X6 wf_X6_266 tyX6 tyX6_ok nmX6 rfl (by decide +kernel) rfl, ?_⟩
  refine List.forall_mem_cons.mpr ⟨so_aload_n dX6_rateAsBank_12 rfl rfl, ?_⟩
  refine List.forall_mem_cons.mpr ⟨so_iload_n dX6_rateAsBank_13 rfl rfl, ?_⟩
  refine List.forall_mem_cons.mpr ⟨so_cv (T := TX6) (N := 12) dX6_rateAsBank_14 mv_X6_rateAsKerb wm_X6_236 (by decide) rfl ⟨rfl, rfl⟩ (by decide) rfl, ?_⟩
  refine List.forall_mem_cons.mpr ⟨so_aload_n dX6_rateAsBank_17 rfl rfl, ?_⟩
  refine List.forall_mem_cons.mpr ⟨so_gR (C := RX6) (T := TX6) (N := 12) dX6_rateAsBank_18 (by decide) rfl rfl (by decide) rfl in_X6 wf_X6_29 rfl, ?_⟩
  refine List.forall_mem_cons.mpr ⟨so_iload_n dX6_rateAsBank_21 rfl rfl, ?_⟩
  refine List.forall_mem_cons.mpr ⟨so_aload_n dX6_rateAsBank_22 rfl rfl, ?_⟩
  refine List.forall_mem_cons.mpr ⟨so_gR (C := RX6) (T := TX6) (N := 12) dX6_rateAsBank_23 (by decide) rfl rfl (by decide) rfl in_X6 wf_X6_19 rfl, ?_⟩
  refine List.forall_mem_cons.mpr ⟨so_gI (C := RX5) (T := TX5) (N := 10) dX6_rateAsBank_26 (by decide) rfl rfl (by decide) rfl in_X5 wf_X6_111 rfl, ?_⟩
  refine List.forall_mem_cons.mpr ⟨so_cv (T := TX1) (N := 3) dX6_rateAsBank_29 mv_X1_lyingOn wm_X6_115 (by decide) rfl ⟨rfl, rfl⟩ (by decide) rfl, ?_⟩
  refine List.forall_mem_cons.mpr ⟨so_cs dX6_rateAsBank_32 mv_J6_bitCount_0f7a4 wm_X6_216 ⟨rfl, rfl⟩ (by decide) rfl, ?_⟩
  refine List.forall_mem_cons.mpr ⟨so_iadd dX6_rateAsBank_35 rfl, ?_⟩
  refine List.forall_mem_cons.mpr ⟨so_rI dX6_rateAsBank_36 rfl, ?_⟩
  exact fun _ h => absurd h List.not_mem_nil
theorem dX6_rateAsSteps_0 : decode cX6_rateAsSteps 0 = .ok (.aload_n 0, 1) := by decide +kernel
theorem dX6_rateAsSteps_1 : decode cX6_rateAsSteps 1 = .ok (.dup, 1) := by decide +kernel
theorem dX6_rateAsSteps_2 : decode cX6_rateAsSteps 2 = .ok (.getfield 266, 3) := by decide +kernel
theorem dX6_rateAsSteps_5 : decode cX6_rateAsSteps 5 = .ok (.ldc2_w 283, 3) := by decide +kernel
theorem dX6_rateAsSteps_8 : decode cX6_rateAsSteps 8 = .ok (.ladd, 1) := by decide +kernel
theorem dX6_rateAsSteps_9 : decode cX6_rateAsSteps 9 = .ok (.putfield 266, 3) := by decide +kernel
theorem dX6_rateAsSteps_12 : decode cX6_rateAsSteps 12 = .ok (.aload_n 0, 1) := by decide +kernel
theorem dX6_rateAsSteps_13 : decode cX6_rateAsSteps 13 = .ok (.iload_n 1, 1) := by decide +kernel
theorem dX6_rateAsSteps_14 : decode cX6_rateAsSteps 14 = .ok (.invokevirtual 236, 3) := by decide +kernel
theorem dX6_rateAsSteps_17 : decode cX6_rateAsSteps 17 = .ok (.aload_n 0, 1) := by decide +kernel
theorem dX6_rateAsSteps_18 : decode cX6_rateAsSteps 18 = .ok (.getfield 19, 3) := by decide +kernel
theorem dX6_rateAsSteps_21 : decode cX6_rateAsSteps 21 = .ok (.aload_n 0, 1) := by decide +kernel
theorem dX6_rateAsSteps_22 : decode cX6_rateAsSteps 22 = .ok (.getfield 29, 3) := by decide +kernel
theorem dX6_rateAsSteps_25 : decode cX6_rateAsSteps 25 = .ok (.getfield 138, 3) := by decide +kernel
theorem dX6_rateAsSteps_28 : decode cX6_rateAsSteps 28 = .ok (.invokevirtual 141, 3) := by decide +kernel
theorem dX6_rateAsSteps_31 : decode cX6_rateAsSteps 31 = .ok (.isub, 1) := by decide +kernel
theorem dX6_rateAsSteps_32 : decode cX6_rateAsSteps 32 = .ok (.ireturn, 1) := by decide +kernel
def T_X6_rateAsSteps : tk_Tb := [(0, tk_al 0 1), (1, tk_dup 2), (2, tk_gL 6 11 5), (5, tk_lc (100) 8), (8, tk_lad 9), (9, tk_pL 6 11 12), (12, tk_al 0 13), (13, tk_il 1 14), (14, tk_cv 6 M_X6_rateAsKerb 1 17), (17, tk_al 0 18), (18, tk_gR 6 1 21), (21, tk_al 0 22), (22, tk_gR 6 3 25), (25, tk_gI 1 0 28), (28, tk_cv 5 M_X5_levelOf 1 31), (31, tk_bi (fun x y => x - y) 32), (32, tk_rI)]
set_option maxRecDepth 100000 in
theorem hT_X6_rateAsSteps (sc : Option (Nat × (Nat → Int32))) : ∀ x ∈ T_X6_rateAsSteps, tk_So sc M_X6_rateAsSteps x.1 x.2 := by
  unfold T_X6_rateAsSteps
  refine List.forall_mem_cons.mpr ⟨so_aload_n dX6_rateAsSteps_0 rfl rfl, ?_⟩
  refine List.forall_mem_cons.mpr ⟨so_dup dX6_rateAsSteps_1 rfl, ?_⟩
  refine List.forall_mem_cons.mpr ⟨so_gL (C := RX6) (T := TX6) (N := 12) dX6_rateAsSteps_2 (by decide) rfl rfl (by decide) rfl in_X6 wf_X6_266 rfl, ?_⟩
  refine List.forall_mem_cons.mpr ⟨so_ldc2 dX6_rateAsSteps_5 wc_X6_283 rfl, ?_⟩
  refine List.forall_mem_cons.mpr ⟨so_ladd dX6_rateAsSteps_8 rfl, ?_⟩
  refine List.forall_mem_cons.mpr ⟨so_pL (C := RX6) (T := TX6) (N := 12) dX6_rateAsSteps_9 (by decide) rfl rfl (by decide) rfl in_X6 wf_X6_266 tyX6 tyX6_ok nmX6 rfl (by decide +kernel) rfl, ?_⟩
  refine List.forall_mem_cons.mpr ⟨so_aload_n dX6_rateAsSteps_12 rfl rfl, ?_⟩
  refine List.forall_mem_cons.mpr ⟨so_iload_n dX6_rateAsSteps_13 rfl rfl, ?_⟩
  refine List.forall_mem_cons.mpr ⟨so_cv (T := TX6) (N := 12) dX6_rateAsSteps_14 mv_X6_rateAsKerb wm_X6_236 (by decide) rfl ⟨rfl, rfl⟩ (by decide) rfl, ?_⟩
  refine List.forall_mem_cons.mpr ⟨so_aload_n dX6_rateAsSteps_17 rfl rfl, ?_⟩
  refine List.forall_mem_cons.mpr ⟨so_gR (C := RX6) (T := TX6) (N := 12) dX6_rateAsSteps_18 (by decide) rfl rfl (by decide) rfl in_X6 wf_X6_19 rfl, ?_⟩
  refine List.forall_mem_cons.mpr ⟨so_aload_n dX6_rateAsSteps_21 rfl rfl, ?_⟩
  refine List.forall_mem_cons.mpr ⟨so_gR (C := RX6) (T := TX6) (N := 12) dX6_rateAsSteps_22 (by decide) rfl rfl (by decide) rfl in_X6 wf_X6_29 rfl, ?_⟩
  refine List.forall_mem_cons.mpr ⟨so_gI (C := RX1) (T := TX1) (N := 3) dX6_rateAsSteps_25 (by decide) rfl rfl (by decide) rfl in_X1 wf_X6_138 rfl, ?_⟩
  refine List.forall_mem_cons.mpr ⟨so_cv (T := TX5) (N := 10) dX6_rateAsSteps_28 mv_X5_levelOf wm_X6_141 (by decide) rfl ⟨rfl, rfl⟩ (by decide) rfl, ?_⟩
  refine List.forall_mem_cons.mpr ⟨so_isub dX6_rateAsSteps_31 rfl, ?_⟩
  refine List.forall_mem_cons.mpr ⟨so_rI dX6_rateAsSteps_32 rfl, ?_⟩
  exact fun _ h => absurd h List.not_mem_nil
theorem dX6_rateAsButcher_0 : decode cX6_rateAsButcher 0 = .ok (.aload_n 0, 1) := by decide +kernel
theorem dX6_rateAsButcher_1 : decode cX6_rateAsButcher 1 = .ok (.dup, 1) := by decide +kernel
theorem dX6_rateAsButcher_2 : decode cX6_rateAsButcher 2 = .ok (.getfield 266, 3) := by decide +kernel
theorem dX6_rateAsButcher_5 : decode cX6_rateAsButcher 5 = .ok (.ldc2_w 287, 3) := by decide +kernel
theorem dX6_rateAsButcher_8 : decode cX6_rateAsButcher 8 = .ok (.ladd, 1) := by decide +kernel
theorem dX6_rateAsButcher_9 : decode cX6_rateAsButcher 9 = .ok (.putfield 266, 3) := by decide +kernel
theorem dX6_rateAsButcher_12 : decode cX6_rateAsButcher 12 = .ok (.aload_n 0, 1) := by decide +kernel
theorem dX6_rateAsButcher_13 : decode cX6_rateAsButcher 13 = .ok (.iload_n 1, 1) := by decide +kernel
theorem dX6_rateAsButcher_14 : decode cX6_rateAsButcher 14 = .ok (.invokevirtual 242, 3) := by decide +kernel
theorem dX6_rateAsButcher_17 : decode cX6_rateAsButcher 17 = .ok (.iload_n 1, 1) := by decide +kernel
theorem dX6_rateAsButcher_18 : decode cX6_rateAsButcher 18 = .ok (.iadd, 1) := by decide +kernel
theorem dX6_rateAsButcher_19 : decode cX6_rateAsButcher 19 = .ok (.ireturn, 1) := by decide +kernel
def T_X6_rateAsButcher : tk_Tb := [(0, tk_al 0 1), (1, tk_dup 2), (2, tk_gL 6 11 5), (5, tk_lc (10000) 8), (8, tk_lad 9), (9, tk_pL 6 11 12), (12, tk_al 0 13), (13, tk_il 1 14), (14, tk_cv 6 M_X6_rateAsSteps 1 17), (17, tk_il 1 18), (18, tk_bi (fun x y => x + y) 19), (19, tk_rI)]
set_option maxRecDepth 100000 in
theorem hT_X6_rateAsButcher (sc : Option (Nat × (Nat → Int32))) : ∀ x ∈ T_X6_rateAsButcher, tk_So sc M_X6_rateAsButcher x.1 x.2 := by
  unfold T_X6_rateAsButcher
  refine List.forall_mem_cons.mpr ⟨so_aload_n dX6_rateAsButcher_0 rfl rfl, ?_⟩
  refine List.forall_mem_cons.mpr ⟨so_dup dX6_rateAsButcher_1 rfl, ?_⟩
  refine List.forall_mem_cons.mpr ⟨so_gL (C := RX6) (T := TX6) (N := 12) dX6_rateAsButcher_2 (by decide) rfl rfl (by decide) rfl in_X6 wf_X6_266 rfl, ?_⟩
  refine List.forall_mem_cons.mpr ⟨so_ldc2 dX6_rateAsButcher_5 wc_X6_287 rfl, ?_⟩
  refine List.forall_mem_cons.mpr ⟨so_ladd dX6_rateAsButcher_8 rfl, ?_⟩
  refine List.forall_mem_cons.mpr ⟨so_pL (C := RX6) (T := TX6) (N := 12) dX6_rateAsButcher_9 (by decide) rfl rfl (by decide) rfl in_X6 wf_X6_266 tyX6 tyX6_ok nmX6 rfl (by decide +kernel) rfl, ?_⟩
  refine List.forall_mem_cons.mpr ⟨so_aload_n dX6_rateAsButcher_12 rfl rfl, ?_⟩
  refine List.forall_mem_cons.mpr ⟨so_iload_n dX6_rateAsButcher_13 rfl rfl, ?_⟩
  refine List.forall_mem_cons.mpr ⟨so_cv (T := TX6) (N := 12) dX6_rateAsButcher_14 mv_X6_rateAsSteps wm_X6_242 (by decide) rfl ⟨rfl, rfl⟩ (by decide) rfl, ?_⟩
  refine List.forall_mem_cons.mpr ⟨so_iload_n dX6_rateAsButcher_17 rfl rfl, ?_⟩
  refine List.forall_mem_cons.mpr ⟨so_iadd dX6_rateAsButcher_18 rfl, ?_⟩
  refine List.forall_mem_cons.mpr ⟨so_rI dX6_rateAsButcher_19 rfl, ?_⟩
  exact fun _ h => absurd h List.not_mem_nil
theorem dX6_rateAsChurch_0 : decode cX6_rateAsChurch 0 = .ok (.aload_n 0, 1) := by decide +kernel
theorem dX6_rateAsChurch_1 : decode cX6_rateAsChurch 1 = .ok (.dup, 1) := by decide +kernel
theorem dX6_rateAsChurch_2 : decode cX6_rateAsChurch 2 = .ok (.getfield 266, 3) := by decide +kernel
theorem dX6_rateAsChurch_5 : decode cX6_rateAsChurch 5 = .ok (.ldc2_w 285, 3) := by decide +kernel
theorem dX6_rateAsChurch_8 : decode cX6_rateAsChurch 8 = .ok (.ladd, 1) := by decide +kernel
theorem dX6_rateAsChurch_9 : decode cX6_rateAsChurch 9 = .ok (.putfield 266, 3) := by decide +kernel
theorem dX6_rateAsChurch_12 : decode cX6_rateAsChurch 12 = .ok (.iconst 2, 1) := by decide +kernel
theorem dX6_rateAsChurch_13 : decode cX6_rateAsChurch 13 = .ok (.aload_n 0, 1) := by decide +kernel
theorem dX6_rateAsChurch_14 : decode cX6_rateAsChurch 14 = .ok (.iload_n 1, 1) := by decide +kernel
theorem dX6_rateAsChurch_15 : decode cX6_rateAsChurch 15 = .ok (.invokevirtual 239, 3) := by decide +kernel
theorem dX6_rateAsChurch_18 : decode cX6_rateAsChurch 18 = .ok (.imul, 1) := by decide +kernel
theorem dX6_rateAsChurch_19 : decode cX6_rateAsChurch 19 = .ok (.ireturn, 1) := by decide +kernel
def T_X6_rateAsChurch : tk_Tb := [(0, tk_al 0 1), (1, tk_dup 2), (2, tk_gL 6 11 5), (5, tk_lc (1000) 8), (8, tk_lad 9), (9, tk_pL 6 11 12), (12, tk_ic (2) 13), (13, tk_al 0 14), (14, tk_il 1 15), (15, tk_cv 6 M_X6_rateAsBank 1 18), (18, tk_bi (fun x y => x * y) 19), (19, tk_rI)]
set_option maxRecDepth 100000 in
theorem hT_X6_rateAsChurch (sc : Option (Nat × (Nat → Int32))) : ∀ x ∈ T_X6_rateAsChurch, tk_So sc M_X6_rateAsChurch x.1 x.2 := by
  unfold T_X6_rateAsChurch
  refine List.forall_mem_cons.mpr ⟨so_aload_n dX6_rateAsChurch_0 rfl rfl, ?_⟩
  refine List.forall_mem_cons.mpr ⟨so_dup dX6_rateAsChurch_1 rfl, ?_⟩
  refine List.forall_mem_cons.mpr ⟨so_gL (C := RX6) (T := TX6) (N := 12) dX6_rateAsChurch_2 (by decide) rfl rfl (by decide) rfl in_X6 wf_X6_266 rfl, ?_⟩
  refine List.forall_mem_cons.mpr ⟨so_ldc2 dX6_rateAsChurch_5 wc_X6_285 rfl, ?_⟩
  refine List.forall_mem_cons.mpr ⟨so_ladd dX6_rateAsChurch_8 rfl, ?_⟩
  refine List.forall_mem_cons.mpr ⟨so_pL (C := RX6) (T := TX6) (N := 12) dX6_rateAsChurch_9 (by decide) rfl rfl (by decide) rfl in_X6 wf_X6_266 tyX6 tyX6_ok nmX6 rfl (by decide +kernel) rfl, ?_⟩
  refine List.forall_mem_cons.mpr ⟨so_iconst dX6_rateAsChurch_12 (by decide) rfl, ?_⟩
  refine List.forall_mem_cons.mpr ⟨so_aload_n dX6_rateAsChurch_13 rfl rfl, ?_⟩
  refine List.forall_mem_cons.mpr ⟨so_iload_n dX6_rateAsChurch_14 rfl rfl, ?_⟩
  refine List.forall_mem_cons.mpr ⟨so_cv (T := TX6) (N := 12) dX6_rateAsChurch_15 mv_X6_rateAsBank wm_X6_239 (by decide) rfl ⟨rfl, rfl⟩ (by decide) rfl, ?_⟩
  refine List.forall_mem_cons.mpr ⟨so_imul dX6_rateAsChurch_18 rfl, ?_⟩
  refine List.forall_mem_cons.mpr ⟨so_rI dX6_rateAsChurch_19 rfl, ?_⟩
  exact fun _ h => absurd h List.not_mem_nil
theorem dX6_rateAsRing_0 : decode cX6_rateAsRing 0 = .ok (.aload_n 0, 1) := by decide +kernel
theorem dX6_rateAsRing_1 : decode cX6_rateAsRing 1 = .ok (.dup, 1) := by decide +kernel
theorem dX6_rateAsRing_2 : decode cX6_rateAsRing 2 = .ok (.getfield 266, 3) := by decide +kernel
theorem dX6_rateAsRing_5 : decode cX6_rateAsRing 5 = .ok (.ldc2_w 289, 3) := by decide +kernel
theorem dX6_rateAsRing_8 : decode cX6_rateAsRing 8 = .ok (.ladd, 1) := by decide +kernel
theorem dX6_rateAsRing_9 : decode cX6_rateAsRing 9 = .ok (.putfield 266, 3) := by decide +kernel
theorem dX6_rateAsRing_12 : decode cX6_rateAsRing 12 = .ok (.aload_n 0, 1) := by decide +kernel
theorem dX6_rateAsRing_13 : decode cX6_rateAsRing 13 = .ok (.iload_n 1, 1) := by decide +kernel
theorem dX6_rateAsRing_14 : decode cX6_rateAsRing 14 = .ok (.invokevirtual 236, 3) := by decide +kernel
theorem dX6_rateAsRing_17 : decode cX6_rateAsRing 17 = .ok (.aload_n 0, 1) := by decide +kernel
theorem dX6_rateAsRing_18 : decode cX6_rateAsRing 18 = .ok (.getfield 19, 3) := by decide +kernel
theorem dX6_rateAsRing_21 : decode cX6_rateAsRing 21 = .ok (.getfield 108, 3) := by decide +kernel
theorem dX6_rateAsRing_24 : decode cX6_rateAsRing 24 = .ok (.iload_n 1, 1) := by decide +kernel
theorem dX6_rateAsRing_25 : decode cX6_rateAsRing 25 = .ok (.iaload, 1) := by decide +kernel
theorem dX6_rateAsRing_26 : decode cX6_rateAsRing 26 = .ok (.iadd, 1) := by decide +kernel
theorem dX6_rateAsRing_27 : decode cX6_rateAsRing 27 = .ok (.ireturn, 1) := by decide +kernel
def T_X6_rateAsRing : tk_Tb := [(0, tk_al 0 1), (1, tk_dup 2), (2, tk_gL 6 11 5), (5, tk_lc (100000) 8), (8, tk_lad 9), (9, tk_pL 6 11 12), (12, tk_al 0 13), (13, tk_il 1 14), (14, tk_cv 6 M_X6_rateAsKerb 1 17), (17, tk_al 0 18), (18, tk_gR 6 1 21), (21, tk_gR 5 8 24), (24, tk_il 1 25), (25, tk_ai 9 26), (26, tk_bi (fun x y => x + y) 27), (27, tk_rI)]
set_option maxRecDepth 100000 in
theorem hT_X6_rateAsRing (sc : Option (Nat × (Nat → Int32))) : ∀ x ∈ T_X6_rateAsRing, tk_So sc M_X6_rateAsRing x.1 x.2 := by
  unfold T_X6_rateAsRing
  refine List.forall_mem_cons.mpr ⟨so_aload_n dX6_rateAsRing_0 rfl rfl, ?_⟩
  refine List.forall_mem_cons.mpr ⟨so_dup dX6_rateAsRing_1 rfl, ?_⟩
  refine List.forall_mem_cons.mpr ⟨so_gL (C := RX6) (T := TX6) (N := 12) dX6_rateAsRing_2 (by decide) rfl rfl (by decide) rfl in_X6 wf_X6_266 rfl, ?_⟩
  refine List.forall_mem_cons.mpr ⟨so_ldc2 dX6_rateAsRing_5 wc_X6_289 rfl, ?_⟩
  refine List.forall_mem_cons.mpr ⟨so_ladd dX6_rateAsRing_8 rfl, ?_⟩
  refine List.forall_mem_cons.mpr ⟨so_pL (C := RX6) (T := TX6) (N := 12) dX6_rateAsRing_9 (by decide) rfl rfl (by decide) rfl in_X6 wf_X6_266 tyX6 tyX6_ok nmX6 rfl (by decide +kernel) rfl, ?_⟩
  refine List.forall_mem_cons.mpr ⟨so_aload_n dX6_rateAsRing_12 rfl rfl, ?_⟩
  refine List.forall_mem_cons.mpr ⟨so_iload_n dX6_rateAsRing_13 rfl rfl, ?_⟩
  refine List.forall_mem_cons.mpr ⟨so_cv (T := TX6) (N := 12) dX6_rateAsRing_14 mv_X6_rateAsKerb wm_X6_236 (by decide) rfl ⟨rfl, rfl⟩ (by decide) rfl, ?_⟩
  refine List.forall_mem_cons.mpr ⟨so_aload_n dX6_rateAsRing_17 rfl rfl, ?_⟩
  refine List.forall_mem_cons.mpr ⟨so_gR (C := RX6) (T := TX6) (N := 12) dX6_rateAsRing_18 (by decide) rfl rfl (by decide) rfl in_X6 wf_X6_19 rfl, ?_⟩
  refine List.forall_mem_cons.mpr ⟨so_gR (C := RX5) (T := TX5) (N := 10) dX6_rateAsRing_21 (by decide) rfl rfl (by decide) rfl in_X5 wf_X6_108 rfl, ?_⟩
  refine List.forall_mem_cons.mpr ⟨so_iload_n dX6_rateAsRing_24 rfl rfl, ?_⟩
  refine List.forall_mem_cons.mpr ⟨so_iaload dX6_rateAsRing_25 rfl, ?_⟩
  refine List.forall_mem_cons.mpr ⟨so_iadd dX6_rateAsRing_26 rfl, ?_⟩
  refine List.forall_mem_cons.mpr ⟨so_rI dX6_rateAsRing_27 rfl, ?_⟩
  exact fun _ h => absurd h List.not_mem_nil
theorem dX6_rate_0 : decode cX6_rate 0 = .ok (.aload_n 0, 1) := by decide +kernel
theorem dX6_rate_1 : decode cX6_rate 1 = .ok (.getfield 19, 3) := by decide +kernel
theorem dX6_rate_4 : decode cX6_rate 4 = .ok (.iload_n 2, 1) := by decide +kernel
theorem dX6_rate_5 : decode cX6_rate 5 = .ok (.invokevirtual 94, 3) := by decide +kernel
theorem dX6_rate_8 : decode cX6_rate 8 = .ok (.ifCond .ne 6, 3) := by decide +kernel
theorem dX6_rate_11 : decode cX6_rate 11 = .ok (.ldc 235, 2) := by decide +kernel
theorem dX6_rate_13 : decode cX6_rate 13 = .ok (.ireturn, 1) := by decide +kernel
theorem dX6_rate_14 : decode cX6_rate 14 = .ok (.iload_n 1, 1) := by decide +kernel
theorem dX6_rate_15 : decode cX6_rate 15 = .ok (.tableswitch 73 0 5 #[37, 43, 49, 55, 61, 67], 37) := by decide +kernel
theorem dX6_rate_52 : decode cX6_rate 52 = .ok (.aload_n 0, 1) := by decide +kernel
theorem dX6_rate_53 : decode cX6_rate 53 = .ok (.iload_n 2, 1) := by decide +kernel
theorem dX6_rate_54 : decode cX6_rate 54 = .ok (.invokevirtual 236, 3) := by decide +kernel
theorem dX6_rate_57 : decode cX6_rate 57 = .ok (.ireturn, 1) := by decide +kernel
theorem dX6_rate_58 : decode cX6_rate 58 = .ok (.aload_n 0, 1) := by decide +kernel
theorem dX6_rate_59 : decode cX6_rate 59 = .ok (.iload_n 2, 1) := by decide +kernel
theorem dX6_rate_60 : decode cX6_rate 60 = .ok (.invokevirtual 239, 3) := by decide +kernel
theorem dX6_rate_63 : decode cX6_rate 63 = .ok (.ireturn, 1) := by decide +kernel
theorem dX6_rate_64 : decode cX6_rate 64 = .ok (.aload_n 0, 1) := by decide +kernel
theorem dX6_rate_65 : decode cX6_rate 65 = .ok (.iload_n 2, 1) := by decide +kernel
theorem dX6_rate_66 : decode cX6_rate 66 = .ok (.invokevirtual 242, 3) := by decide +kernel
theorem dX6_rate_69 : decode cX6_rate 69 = .ok (.ireturn, 1) := by decide +kernel
theorem dX6_rate_70 : decode cX6_rate 70 = .ok (.aload_n 0, 1) := by decide +kernel
theorem dX6_rate_71 : decode cX6_rate 71 = .ok (.iload_n 2, 1) := by decide +kernel
theorem dX6_rate_72 : decode cX6_rate 72 = .ok (.invokevirtual 245, 3) := by decide +kernel
theorem dX6_rate_75 : decode cX6_rate 75 = .ok (.ireturn, 1) := by decide +kernel
theorem dX6_rate_76 : decode cX6_rate 76 = .ok (.aload_n 0, 1) := by decide +kernel
theorem dX6_rate_77 : decode cX6_rate 77 = .ok (.iload_n 2, 1) := by decide +kernel
theorem dX6_rate_78 : decode cX6_rate 78 = .ok (.invokevirtual 248, 3) := by decide +kernel
theorem dX6_rate_81 : decode cX6_rate 81 = .ok (.ireturn, 1) := by decide +kernel
theorem dX6_rate_82 : decode cX6_rate 82 = .ok (.aload_n 0, 1) := by decide +kernel
theorem dX6_rate_83 : decode cX6_rate 83 = .ok (.iload_n 2, 1) := by decide +kernel
theorem dX6_rate_84 : decode cX6_rate 84 = .ok (.invokevirtual 251, 3) := by decide +kernel
theorem dX6_rate_87 : decode cX6_rate 87 = .ok (.ireturn, 1) := by decide +kernel
theorem dX6_rate_88 : decode cX6_rate 88 = .ok (.ldc 235, 2) := by decide +kernel
theorem dX6_rate_90 : decode cX6_rate 90 = .ok (.ireturn, 1) := by decide +kernel
def T_X6_rate : tk_Tb := [(0, tk_al 0 1), (1, tk_gR 6 1 4), (4, tk_il 2 5), (5, tk_cv 5 M_X5_isKerb 1 8), (8, tk_br (fun x => x = 0) 11 14), (11, tk_ic (-1000000) 13), (13, tk_rI), (14, tk_il 1 15), (15, tk_sw [(0, 52), (1, 58), (2, 64), (3, 70), (4, 76), (5, 82)] 88), (52, tk_al 0 53), (53, tk_il 2 54), (54, tk_cv 6 M_X6_rateAsKerb 1 57), (57, tk_rI), (58, tk_al 0 59), (59, tk_il 2 60), (60, tk_cv 6 M_X6_rateAsBank 1 63), (63, tk_rI), (64, tk_al 0 65), (65, tk_il 2 66), (66, tk_cv 6 M_X6_rateAsSteps 1 69), (69, tk_rI), (70, tk_al 0 71), (71, tk_il 2 72), (72, tk_cv 6 M_X6_rateAsChurch 1 75), (75, tk_rI), (76, tk_al 0 77), (77, tk_il 2 78), (78, tk_cv 6 M_X6_rateAsButcher 1 81), (81, tk_rI), (82, tk_al 0 83), (83, tk_il 2 84), (84, tk_cv 6 M_X6_rateAsRing 1 87), (87, tk_rI), (88, tk_ic (-1000000) 90), (90, tk_rI)]
set_option maxRecDepth 100000 in
theorem hT_X6_rate (sc : Option (Nat × (Nat → Int32))) : ∀ x ∈ T_X6_rate, tk_So sc M_X6_rate x.1 x.2 := by
  unfold T_X6_rate
  refine List.forall_mem_cons.mpr ⟨so_aload_n dX6_rate_0 rfl rfl, ?_⟩
  refine List.forall_mem_cons.mpr ⟨so_gR (C := RX6) (T := TX6) (N := 12) dX6_rate_1 (by decide) rfl rfl (by decide) rfl in_X6 wf_X6_19 rfl, ?_⟩
  refine List.forall_mem_cons.mpr ⟨so_iload_n dX6_rate_4 rfl rfl, ?_⟩
  refine List.forall_mem_cons.mpr ⟨so_cv (T := TX5) (N := 10) dX6_rate_5 mv_X5_isKerb wm_X6_94 (by decide) rfl ⟨rfl, rfl⟩ (by decide) rfl, ?_⟩
  refine List.forall_mem_cons.mpr ⟨so_if_ne dX6_rate_8 (by decide) rfl, ?_⟩
  refine List.forall_mem_cons.mpr ⟨so_ldc dX6_rate_11 wc_X6_235 rfl, ?_⟩
  refine List.forall_mem_cons.mpr ⟨so_rI dX6_rate_13 rfl, ?_⟩
  refine List.forall_mem_cons.mpr ⟨so_iload_n dX6_rate_14 rfl rfl, ?_⟩
  refine List.forall_mem_cons.mpr ⟨so_table (n := 5) dX6_rate_15 (by decide) (by decide +kernel) (by decide +kernel), ?_⟩
  refine List.forall_mem_cons.mpr ⟨so_aload_n dX6_rate_52 rfl rfl, ?_⟩
  refine List.forall_mem_cons.mpr ⟨so_iload_n dX6_rate_53 rfl rfl, ?_⟩
  refine List.forall_mem_cons.mpr ⟨so_cv (T := TX6) (N := 12) dX6_rate_54 mv_X6_rateAsKerb wm_X6_236 (by decide) rfl ⟨rfl, rfl⟩ (by decide) rfl, ?_⟩
  refine List.forall_mem_cons.mpr ⟨so_rI dX6_rate_57 rfl, ?_⟩
  refine List.forall_mem_cons.mpr ⟨so_aload_n dX6_rate_58 rfl rfl, ?_⟩
  refine List.forall_mem_cons.mpr ⟨so_iload_n dX6_rate_59 rfl rfl, ?_⟩
  refine List.forall_mem_cons.mpr ⟨so_cv (T := TX6) (N := 12) dX6_rate_60 mv_X6_rateAsBank wm_X6_239 (by decide) rfl ⟨rfl, rfl⟩ (by decide) rfl, ?_⟩
  refine List.forall_mem_cons.mpr ⟨so_rI dX6_rate_63 rfl, ?_⟩
  refine List.forall_mem_cons.mpr ⟨so_aload_n dX6_rate_64 rfl rfl, ?_⟩
  refine List.forall_mem_cons.mpr ⟨so_iload_n dX6_rate_65 rfl rfl, ?_⟩
  refine List.forall_mem_cons.mpr ⟨so_cv (T := TX6) (N := 12) dX6_rate_66 mv_X6_rateAsSteps wm_X6_242 (by decide) rfl ⟨rfl, rfl⟩ (by decide) rfl, ?_⟩
  refine List.forall_mem_cons.mpr ⟨so_rI dX6_rate_69 rfl, ?_⟩
  refine List.forall_mem_cons.mpr ⟨so_aload_n dX6_rate_70 rfl rfl, ?_⟩
  refine List.forall_mem_cons.mpr ⟨so_iload_n dX6_rate_71 rfl rfl, ?_⟩
  refine List.forall_mem_cons.mpr ⟨so_cv (T := TX6) (N := 12) dX6_rate_72 mv_X6_rateAsChurch wm_X6_245 (by decide) rfl ⟨rfl, rfl⟩ (by decide) rfl, ?_⟩
  refine List.forall_mem_cons.mpr ⟨so_rI dX6_rate_75 rfl, ?_⟩
  refine List.forall_mem_cons.mpr ⟨so_aload_n dX6_rate_76 rfl rfl, ?_⟩
  refine List.forall_mem_cons.mpr ⟨so_iload_n dX6_rate_77 rfl rfl, ?_⟩
  refine List.forall_mem_cons.mpr ⟨so_cv (T := TX6) (N := 12) dX6_rate_78 mv_X6_rateAsButcher wm_X6_248 (by decide) rfl ⟨rfl, rfl⟩ (by decide) rfl, ?_⟩
  refine List.forall_mem_cons.mpr ⟨so_rI dX6_rate_81 rfl, ?_⟩
  refine List.forall_mem_cons.mpr ⟨so_aload_n dX6_rate_82 rfl rfl, ?_⟩
  refine List.forall_mem_cons.mpr ⟨so_iload_n dX6_rate_83 rfl rfl, ?_⟩
  refine List.forall_mem_cons.mpr ⟨so_cv (T := TX6) (N := 12) dX6_rate_84 mv_X6_rateAsRing wm_X6_251 (by decide) rfl ⟨rfl, rfl⟩ (by decide) rfl, ?_⟩
  refine List.forall_mem_cons.mpr ⟨so_rI dX6_rate_87 rfl, ?_⟩
  refine List.forall_mem_cons.mpr ⟨so_ldc dX6_rate_88 wc_X6_235 rfl, ?_⟩
  refine List.forall_mem_cons.mpr ⟨so_rI dX6_rate_90 rfl, ?_⟩
  exact fun _ h => absurd h List.not_mem_nil
