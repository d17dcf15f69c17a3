theorem dX0_init_0 : decode cX0_init 0 = .ok (.aload_n 0, 1) := by decide +kernel
theorem dX0_init_1 : decode cX0_init 1 = .ok (.invokespecial 3, 3) := by decide +kernel
theorem dX0_init_4 : decode cX0_init 4 = .ok (.aload_n 0, 1) := by decide +kernel
theorem dX0_init_5 : decode cX0_init 5 = .ok (.bipush 6, 2) := by decide +kernel
theorem dX0_init_7 : decode cX0_init 7 = .ok (.newarray .int, 2) := by decide +kernel
theorem dX0_init_9 : decode cX0_init 9 = .ok (.putfield 9, 3) := by decide +kernel
theorem dX0_init_12 : decode cX0_init 12 = .ok (.aload_n 0, 1) := by decide +kernel
theorem dX0_init_13 : decode cX0_init 13 = .ok (.bipush 6, 2) := by decide +kernel
theorem dX0_init_15 : decode cX0_init 15 = .ok (.newarray .int, 2) := by decide +kernel
theorem dX0_init_17 : decode cX0_init 17 = .ok (.putfield 15, 3) := by decide +kernel
theorem dX0_init_20 : decode cX0_init 20 = .ok (.return_, 1) := by decide +kernel
def T_X0_init : tk_Tb := [(0, tk_al 0 1), (1, tk_oi 4), (4, tk_al 0 5), (5, tk_ic (6) 7), (7, tk_nwa 9 9 2 12), (9, tk_pR 0 0 12), (12, tk_al 0 13), (13, tk_ic (6) 15), (15, tk_nwa 9 17 2 12), (17, tk_pR 0 1 20), (20, tk_rV)]
set_option maxRecDepth 100000 in
theorem hT_X0_init (sc : Option (Nat × (Nat → Int32))) : ∀ x ∈ T_X0_init, tk_So sc M_X0_init x.1 x.2 := by
  unfold T_X0_init
  refine List.forall_mem_cons.mpr ⟨so_aload_n dX0_init_0 rfl rfl, ?_⟩
  refine List.forall_mem_cons.mpr ⟨so_oi dX0_init_1 wm_X0_3 wo_1 wo_2 (by decide) rfl, ?_⟩
  refine List.forall_mem_cons.mpr ⟨so_aload_n dX0_init_4 rfl rfl, ?_⟩
  refine List.forall_mem_cons.mpr ⟨so_bipush dX0_init_5 (by decide) rfl, ?_⟩
  refine List.forall_mem_cons.mpr ⟨so_nwI dX0_init_7 rfl wa_int rfl rfl rfl, ?_⟩
  refine List.forall_mem_cons.mpr ⟨so_pRF (ty := .array .int) (C := RX0) (T := TX0) (N := 3) dX0_init_9 (by decide) rfl rfl (by decide) rfl in_X0 wf_X0_9 tyX0 tyX0_ok nmX0 rfl rfl rfl (by decide +kernel) (fun _ => rfl) (fun _ => rfl) rfl, ?_⟩
  refine List.forall_mem_cons.mpr ⟨so_aload_n dX0_init_12 rfl rfl, ?_⟩
  refine List.forall_mem_cons.mpr ⟨so_bipush dX0_init_13 (by decide) rfl, ?_⟩
  refine List.forall_mem_cons.mpr ⟨so_nwI dX0_init_15 rfl wa_int rfl rfl rfl, ?_⟩
  refine List.forall_mem_cons.mpr ⟨so_pRF (ty := .array .int) (C := RX0) (T := TX0) (N := 3) dX0_init_17 (by decide) rfl rfl (by decide) rfl in_X0 wf_X0_15 tyX0 tyX0_ok nmX0 rfl rfl rfl (by decide +kernel) (fun _ => rfl) (fun _ => rfl) rfl, ?_⟩
  refine List.forall_mem_cons.mpr ⟨so_rV dX0_init_20 rfl, ?_⟩
  exact fun _ h => absurd h List.not_mem_nil
theorem dX0_add_0 : decode cX0_add 0 = .ok (.aload_n 0, 1) := by decide +kernel
theorem dX0_add_1 : decode cX0_add 1 = .ok (.getfield 18, 3) := by decide +kernel
theorem dX0_add_4 : decode cX0_add 4 = .ok (.bipush 6, 2) := by decide +kernel
theorem dX0_add_6 : decode cX0_add 6 = .ok (.if_icmp .lt 6, 3) := by decide +kernel
theorem dX0_add_9 : decode cX0_add 9 = .ok (.bipush (-3), 2) := by decide +kernel
theorem dX0_add_11 : decode cX0_add 11 = .ok (.ireturn, 1) := by decide +kernel
theorem dX0_add_12 : decode cX0_add 12 = .ok (.aload_n 0, 1) := by decide +kernel
theorem dX0_add_13 : decode cX0_add 13 = .ok (.getfield 9, 3) := by decide +kernel
theorem dX0_add_16 : decode cX0_add 16 = .ok (.aload_n 0, 1) := by decide +kernel
theorem dX0_add_17 : decode cX0_add 17 = .ok (.getfield 18, 3) := by decide +kernel
theorem dX0_add_20 : decode cX0_add 20 = .ok (.iload_n 1, 1) := by decide +kernel
theorem dX0_add_21 : decode cX0_add 21 = .ok (.iastore, 1) := by decide +kernel
theorem dX0_add_22 : decode cX0_add 22 = .ok (.aload_n 0, 1) := by decide +kernel
theorem dX0_add_23 : decode cX0_add 23 = .ok (.getfield 15, 3) := by decide +kernel
theorem dX0_add_26 : decode cX0_add 26 = .ok (.aload_n 0, 1) := by decide +kernel
theorem dX0_add_27 : decode cX0_add 27 = .ok (.getfield 18, 3) := by decide +kernel
theorem dX0_add_30 : decode cX0_add 30 = .ok (.iload_n 2, 1) := by decide +kernel
theorem dX0_add_31 : decode cX0_add 31 = .ok (.iastore, 1) := by decide +kernel
theorem dX0_add_32 : decode cX0_add 32 = .ok (.aload_n 0, 1) := by decide +kernel
theorem dX0_add_33 : decode cX0_add 33 = .ok (.dup, 1) := by decide +kernel
theorem dX0_add_34 : decode cX0_add 34 = .ok (.getfield 18, 3) := by decide +kernel
theorem dX0_add_37 : decode cX0_add 37 = .ok (.iconst 1, 1) := by decide +kernel
theorem dX0_add_38 : decode cX0_add 38 = .ok (.iadd, 1) := by decide +kernel
theorem dX0_add_39 : decode cX0_add 39 = .ok (.putfield 18, 3) := by decide +kernel
theorem dX0_add_42 : decode cX0_add 42 = .ok (.aload_n 0, 1) := by decide +kernel
theorem dX0_add_43 : decode cX0_add 43 = .ok (.getfield 18, 3) := by decide +kernel
theorem dX0_add_46 : decode cX0_add 46 = .ok (.ireturn, 1) := by decide +kernel
def T_X0_add : tk_Tb := [(0, tk_al 0 1), (1, tk_gI 0 2 4), (4, tk_ic (6) 6), (6, tk_cm (fun x y => x < y) 12 9), (9, tk_ic (-3) 11), (11, tk_rI), (12, tk_al 0 13), (13, tk_gR 0 0 16), (16, tk_al 0 17), (17, tk_gI 0 2 20), (20, tk_il 1 21), (21, tk_si 9 (fun x => x) 22), (22, tk_al 0 23), (23, tk_gR 0 1 26), (26, tk_al 0 27), (27, tk_gI 0 2 30), (30, tk_il 2 31), (31, tk_si 9 (fun x => x) 32), (32, tk_al 0 33), (33, tk_dup 34), (34, tk_gI 0 2 37), (37, tk_ic (1) 38), (38, tk_bi (fun x y => x + y) 39), (39, tk_pI 0 2 42), (42, tk_al 0 43), (43, tk_gI 0 2 46), (46, tk_rI)]
set_option maxRecDepth 100000 in
theorem hT_X0_add (sc : Option (Nat × (Nat → Int32))) : ∀ x ∈ T_X0_add, tk_So sc M_X0_add x.1 x.2 := by
  unfold T_X0_add
  refine List.forall_mem_cons.mpr ⟨so_aload_n dX0_add_0 rfl rfl, ?_⟩
  refine List.forall_mem_cons.mpr ⟨so_gI (C := RX0) (T := TX0) (N := 3) dX0_add_1 (by decide) rfl rfl (by decide) rfl in_X0 wf_X0_18 rfl, ?_⟩
  refine List.forall_mem_cons.mpr ⟨so_bipush dX0_add_4 (by decide) rfl, ?_⟩
  refine List.forall_mem_cons.mpr ⟨so_icmp_lt dX0_add_6 (by decide) rfl, ?_⟩
  refine List.forall_mem_cons.mpr ⟨so_bipush dX0_add_9 (by decide) rfl, ?_⟩
  refine List.forall_mem_cons.mpr ⟨so_rI dX0_add_11 rfl, ?_⟩
  refine List.forall_mem_cons.mpr ⟨so_aload_n dX0_add_12 rfl rfl, ?_⟩
  refine List.forall_mem_cons.mpr ⟨so_gR (C := RX0) (T := TX0) (N := 3) dX0_add_13 (by decide) rfl rfl (by decide) rfl in_X0 wf_X0_9 rfl, ?_⟩
  refine List.forall_mem_cons.mpr ⟨so_aload_n dX0_add_16 rfl rfl, ?_⟩
  refine List.forall_mem_cons.mpr ⟨so_gI (C := RX0) (T := TX0) (N := 3) dX0_add_17 (by decide) rfl rfl (by decide) rfl in_X0 wf_X0_18 rfl, ?_⟩
  refine List.forall_mem_cons.mpr ⟨so_iload_n dX0_add_20 rfl rfl, ?_⟩
  refine List.forall_mem_cons.mpr ⟨so_iastore dX0_add_21 rfl, ?_⟩
  refine List.forall_mem_cons.mpr ⟨so_aload_n dX0_add_22 rfl rfl, ?_⟩
  refine List.forall_mem_cons.mpr ⟨so_gR (C := RX0) (T := TX0) (N := 3) dX0_add_23 (by decide) rfl rfl (by decide) rfl in_X0 wf_X0_15 rfl, ?_⟩
  refine List.forall_mem_cons.mpr ⟨so_aload_n dX0_add_26 rfl rfl, ?_⟩
  refine List.forall_mem_cons.mpr ⟨so_gI (C := RX0) (T := TX0) (N := 3) dX0_add_27 (by decide) rfl rfl (by decide) rfl in_X0 wf_X0_18 rfl, ?_⟩
  refine List.forall_mem_cons.mpr ⟨so_iload_n dX0_add_30 rfl rfl, ?_⟩
  refine List.forall_mem_cons.mpr ⟨so_iastore dX0_add_31 rfl, ?_⟩
  refine List.forall_mem_cons.mpr ⟨so_aload_n dX0_add_32 rfl rfl, ?_⟩
  refine List.forall_mem_cons.mpr ⟨so_dup dX0_add_33 rfl, ?_⟩
  refine List.forall_mem_cons.mpr ⟨so_gI (C := RX0) (T := TX0) (N := 3) dX0_add_34 (by decide) rfl rfl (by decide) rfl in_X0 wf_X0_18 rfl, ?_⟩
  refine List.forall_mem_cons.mpr ⟨so_iconst dX0_add_37 (by decide) rfl, ?_⟩
  refine List.forall_mem_cons.mpr ⟨so_iadd dX0_add_38 rfl, ?_⟩
  refine List.forall_mem_cons.mpr ⟨so_pI (C := RX0) (T := TX0) (N := 3) dX0_add_39 (by decide) rfl rfl (by decide) rfl in_X0 wf_X0_18 tyX0 tyX0_ok nmX0 rfl (by decide +kernel) rfl, ?_⟩
  refine List.forall_mem_cons.mpr ⟨so_aload_n dX0_add_42 rfl rfl, ?_⟩
  refine List.forall_mem_cons.mpr ⟨so_gI (C := RX0) (T := TX0) (N := 3) dX0_add_43 (by decide) rfl rfl (by decide) rfl in_X0 wf_X0_18 rfl, ?_⟩
  refine List.forall_mem_cons.mpr ⟨so_rI dX0_add_46 rfl, ?_⟩
  exact fun _ h => absurd h List.not_mem_nil
theorem dX0_lose_0 : decode cX0_lose 0 = .ok (.aload_n 0, 1) := by decide +kernel
theorem dX0_lose_1 : decode cX0_lose 1 = .ok (.getfield 18, 3) := by decide +kernel
theorem dX0_lose_4 : decode cX0_lose 4 = .ok (.istore_n 1, 1) := by decide +kernel
theorem dX0_lose_5 : decode cX0_lose 5 = .ok (.aload_n 0, 1) := by decide +kernel
theorem dX0_lose_6 : decode cX0_lose 6 = .ok (.iconst 0, 1) := by decide +kernel
theorem dX0_lose_7 : decode cX0_lose 7 = .ok (.putfield 18, 3) := by decide +kernel
theorem dX0_lose_10 : decode cX0_lose 10 = .ok (.iload_n 1, 1) := by decide +kernel
theorem dX0_lose_11 : decode cX0_lose 11 = .ok (.ireturn, 1) := by decide +kernel
def T_X0_lose : tk_Tb := [(0, tk_al 0 1), (1, tk_gI 0 2 4), (4, tk_sI 1 5), (5, tk_al 0 6), (6, tk_ic (0) 7), (7, tk_pI 0 2 10), (10, tk_il 1 11), (11, tk_rI)]
set_option maxRecDepth 100000 in
theorem hT_X0_lose (sc : Option (Nat × (Nat → Int32))) : ∀ x ∈ T_X0_lose, tk_So sc M_X0_lose x.1 x.2 := by
  unfold T_X0_lose
  refine List.forall_mem_cons.mpr ⟨so_aload_n dX0_lose_0 rfl rfl, ?_⟩
  refine List.forall_mem_cons.mpr ⟨so_gI (C := RX0) (T := TX0) (N := 3) dX0_lose_1 (by decide) rfl rfl (by decide) rfl in_X0 wf_X0_18 rfl, ?_⟩
  refine List.forall_mem_cons.mpr ⟨so_istore_n dX0_lose_4 rfl rfl, ?_⟩
  refine List.forall_mem_cons.mpr ⟨so_aload_n dX0_lose_5 rfl rfl, ?_⟩
  refine List.forall_mem_cons.mpr ⟨so_iconst dX0_lose_6 (by decide) rfl, ?_⟩
  refine List.forall_mem_cons.mpr ⟨so_pI (C := RX0) (T := TX0) (N := 3) dX0_lose_7 (by decide) rfl rfl (by decide) rfl in_X0 wf_X0_18 tyX0 tyX0_ok nmX0 rfl (by decide +kernel) rfl, ?_⟩
  refine List.forall_mem_cons.mpr ⟨so_iload_n dX0_lose_10 rfl rfl, ?_⟩
  refine List.forall_mem_cons.mpr ⟨so_rI dX0_lose_11 rfl, ?_⟩
  exact fun _ h => absurd h List.not_mem_nil
theorem dX4_init_0 : decode cX4_init 0 = .ok (.aload_n 0, 1) := by decide +kernel
theorem dX4_init_1 : decode cX4_init 1 = .ok (.invokespecial 3, 3) := by decide +kernel
theorem dX4_init_4 : decode cX4_init 4 = .ok (.return_, 1) := by decide +kernel
def T_X4_init : tk_Tb := [(0, tk_al 0 1), (1, tk_oi 4), (4, tk_rV)]
set_option maxRecDepth 100000 in
theorem hT_X4_init (sc : Option (Nat × (Nat → Int32))) : ∀ x ∈ T_X4_init, tk_So sc M_X4_init x.1 x.2 := by
  unfold T_X4_init
  refine List.forall_mem_cons.mpr ⟨so_aload_n dX4_init_0 rfl rfl, ?_⟩
  refine List.forall_mem_cons.mpr ⟨so_oi dX4_init_1 wm_X4_3 wo_1 wo_2 (by decide) rfl, ?_⟩
  refine List.forall_mem_cons.mpr ⟨so_rV dX4_init_4 rfl, ?_⟩
  exact fun _ h => absurd h List.not_mem_nil
theorem dX1_init_0 : decode cX1_init 0 = .ok (.aload_n 0, 1) := by decide +kernel
theorem dX1_init_1 : decode cX1_init 1 = .ok (.invokespecial 3, 3) := by decide +kernel
theorem dX1_init_4 : decode cX1_init 4 = .ok (.aload_n 0, 1) := by decide +kernel
theorem dX1_init_5 : decode cX1_init 5 = .ok (.iconst 5, 1) := by decide +kernel
theorem dX1_init_6 : decode cX1_init 6 = .ok (.anewarray 9, 3) := by decide +kernel
theorem dX1_init_9 : decode cX1_init 9 = .ok (.putfield 11, 3) := by decide +kernel
theorem dX1_init_12 : decode cX1_init 12 = .ok (.iconst 0, 1) := by decide +kernel
theorem dX1_init_13 : decode cX1_init 13 = .ok (.istore_n 1, 1) := by decide +kernel
theorem dX1_init_14 : decode cX1_init 14 = .ok (.iload_n 1, 1) := by decide +kernel
theorem dX1_init_15 : decode cX1_init 15 = .ok (.iconst 5, 1) := by decide +kernel
theorem dX1_init_16 : decode cX1_init 16 = .ok (.if_icmp .ge 22, 3) := by decide +kernel
theorem dX1_init_19 : decode cX1_init 19 = .ok (.aload_n 0, 1) := by decide +kernel
theorem dX1_init_20 : decode cX1_init 20 = .ok (.getfield 11, 3) := by decide +kernel
theorem dX1_init_23 : decode cX1_init 23 = .ok (.iload_n 1, 1) := by decide +kernel
theorem dX1_init_24 : decode cX1_init 24 = .ok (.new 9, 3) := by decide +kernel
theorem dX1_init_27 : decode cX1_init 27 = .ok (.dup, 1) := by decide +kernel
theorem dX1_init_28 : decode cX1_init 28 = .ok (.invokespecial 17, 3) := by decide +kernel
theorem dX1_init_31 : decode cX1_init 31 = .ok (.aastore, 1) := by decide +kernel
theorem dX1_init_32 : decode cX1_init 32 = .ok (.iinc 1 1, 3) := by decide +kernel
theorem dX1_init_35 : decode cX1_init 35 = .ok (.goto (-21), 3) := by decide +kernel
theorem dX1_init_38 : decode cX1_init 38 = .ok (.return_, 1) := by decide +kernel
def T_X1_init : tk_Tb := [(0, tk_al 0 1), (1, tk_oi 4), (4, tk_al 0 5), (5, tk_ic (5) 6), (6, tk_nwa 11 9 6 20), (9, tk_pR 1 2 12), (12, tk_ic (0) 13), (13, tk_sI 1 14), (14, tk_il 1 15), (15, tk_ic (5) 16), (16, tk_cm (fun x y => y ≤ x) 38 19), (19, tk_al 0 20), (20, tk_gR 1 2 23), (23, tk_il 1 24), (24, tk_new 4 27 6 20), (27, tk_dup 28), (28, tk_ci M_X4_init 0 31 6 20), (31, tk_sq 11 4 32), (32, tk_inc 1 (1) 35), (35, tk_jmp 14), (38, tk_rV)]
set_option maxRecDepth 100000 in
theorem hT_X1_init (sc : Option (Nat × (Nat → Int32))) : ∀ x ∈ T_X1_init, tk_So sc M_X1_init x.1 x.2 := by
  unfold T_X1_init
  refine List.forall_mem_cons.mpr ⟨so_aload_n dX1_init_0 rfl rfl, ?_⟩
  refine List.forall_mem_cons.mpr ⟨so_oi dX1_init_1 wm_X1_3 wo_1 wo_2 (by decide) rfl, ?_⟩
  refine List.forall_mem_cons.mpr ⟨so_aload_n dX1_init_4 rfl rfl, ?_⟩
  refine List.forall_mem_cons.mpr ⟨so_iconst dX1_init_5 (by decide) rfl, ?_⟩
  refine List.forall_mem_cons.mpr ⟨so_nwT dX1_init_6 wk_X1_9 rfl rfl rfl, ?_⟩
  refine List.forall_mem_cons.mpr ⟨so_pRF (ty := .array (.object "TwoKerbs$Thing")) (C := RX1) (T := TX1) (N := 3) dX1_init_9 (by decide) rfl rfl (by decide) rfl in_X1 wf_X1_11 tyX1 tyX1_ok nmX1 rfl rfl rfl (by decide +kernel) (fun _ => rfl) (fun _ => rfl) rfl, ?_⟩
  refine List.forall_mem_cons.mpr ⟨so_iconst dX1_init_12 (by decide) rfl, ?_⟩
  refine List.forall_mem_cons.mpr ⟨so_istore_n dX1_init_13 rfl rfl, ?_⟩
  refine List.forall_mem_cons.mpr ⟨so_iload_n dX1_init_14 rfl rfl, ?_⟩
  refine List.forall_mem_cons.mpr ⟨so_iconst dX1_init_15 (by decide) rfl, ?_⟩
  refine List.forall_mem_cons.mpr ⟨so_icmp_ge dX1_init_16 (by decide) rfl, ?_⟩
  refine List.forall_mem_cons.mpr ⟨so_aload_n dX1_init_19 rfl rfl, ?_⟩
  refine List.forall_mem_cons.mpr ⟨so_gR (C := RX1) (T := TX1) (N := 3) dX1_init_20 (by decide) rfl rfl (by decide) rfl in_X1 wf_X1_11 rfl, ?_⟩
  refine List.forall_mem_cons.mpr ⟨so_iload_n dX1_init_23 rfl rfl, ?_⟩
  refine List.forall_mem_cons.mpr ⟨so_new (C := RX4) (T := TX4) (N := 3) dX1_init_24 (by decide) rfl rfl in_X4 tyX4 tyX4_ok wk_X1_9 wi_X4 wn_X4 (by decide +kernel) rfl rfl rfl, ?_⟩
  refine List.forall_mem_cons.mpr ⟨so_dup dX1_init_27 rfl, ?_⟩
  refine List.forall_mem_cons.mpr ⟨so_ciN dX1_init_28 mv_X4_init wm_X1_17 rfl rfl (by decide) rfl, ?_⟩
  refine List.forall_mem_cons.mpr ⟨so_aas (t0 := 0) dX1_init_31 rfl, ?_⟩
  refine List.forall_mem_cons.mpr ⟨so_iinc dX1_init_32 (by decide) rfl, ?_⟩
  refine List.forall_mem_cons.mpr ⟨so_goto dX1_init_35 (by decide), ?_⟩
  refine List.forall_mem_cons.mpr ⟨so_rV dX1_init_38 rfl, ?_⟩
  exact fun _ h => absurd h List.not_mem_nil
theorem dX4_lieOn_0 : decode cX4_lieOn 0 = .ok (.aload_n 0, 1) := by decide +kernel
theorem dX4_lieOn_1 : decode cX4_lieOn 1 = .ok (.iload_n 1, 1) := by decide +kernel
theorem dX4_lieOn_2 : decode cX4_lieOn 2 = .ok (.putfield 9, 3) := by decide +kernel
theorem dX4_lieOn_5 : decode cX4_lieOn 5 = .ok (.aload_n 0, 1) := by decide +kernel
theorem dX4_lieOn_6 : decode cX4_lieOn 6 = .ok (.iconst 0, 1) := by decide +kernel
theorem dX4_lieOn_7 : decode cX4_lieOn 7 = .ok (.putfield 15, 3) := by decide +kernel
theorem dX4_lieOn_10 : decode cX4_lieOn 10 = .ok (.aload_n 0, 1) := by decide +kernel
theorem dX4_lieOn_11 : decode cX4_lieOn 11 = .ok (.iconst 0, 1) := by decide +kernel
theorem dX4_lieOn_12 : decode cX4_lieOn 12 = .ok (.putfield 18, 3) := by decide +kernel
theorem dX4_lieOn_15 : decode cX4_lieOn 15 = .ok (.return_, 1) := by decide +kernel
def T_X4_lieOn : tk_Tb := [(0, tk_al 0 1), (1, tk_il 1 2), (2, tk_pI 4 0 5), (5, tk_al 0 6), (6, tk_ic (0) 7), (7, tk_pI 4 1 10), (10, tk_al 0 11), (11, tk_ic (0) 12), (12, tk_pZ 4 2 15), (15, tk_rV)]
set_option maxRecDepth 100000 in
theorem hT_X4_lieOn (sc : Option (Nat × (Nat → Int32))) : ∀ x ∈ T_X4_lieOn, tk_So sc M_X4_lieOn x.1 x.2 := by
  unfold T_X4_lieOn
  refine List.forall_mem_cons.mpr ⟨so_aload_n dX4_lieOn_0 rfl rfl, ?_⟩
  refine List.forall_mem_cons.mpr ⟨so_iload_n dX4_lieOn_1 rfl rfl, ?_⟩
  refine List.forall_mem_cons.mpr ⟨so_pI (C := RX4) (T := TX4) (N := 3) dX4_lieOn_2 (by decide) rfl rfl (by decide) rfl in_X4 wf_X4_9 tyX4 tyX4_ok nmX4 rfl (by decide +kernel) rfl, ?_⟩
  refine List.forall_mem_cons.mpr ⟨so_aload_n dX4_lieOn_5 rfl rfl, ?_⟩
  refine List.forall_mem_cons.mpr ⟨so_iconst dX4_lieOn_6 (by decide) rfl, ?_⟩
  refine List.forall_mem_cons.mpr ⟨so_pI (C := RX4) (T := TX4) (N := 3) dX4_lieOn_7 (by decide) rfl rfl (by decide) rfl in_X4 wf_X4_15 tyX4 tyX4_ok nmX4 rfl (by decide +kernel) rfl, ?_⟩
  refine List.forall_mem_cons.mpr ⟨so_aload_n dX4_lieOn_10 rfl rfl, ?_⟩
  refine List.forall_mem_cons.mpr ⟨so_iconst dX4_lieOn_11 (by decide) rfl, ?_⟩
  refine List.forall_mem_cons.mpr ⟨so_pZ (C := RX4) (T := TX4) (N := 3) dX4_lieOn_12 (by decide) rfl rfl (by decide) rfl in_X4 wf_X4_18 tyX4 tyX4_ok nmX4 rfl (by decide +kernel) rfl, ?_⟩
  refine List.forall_mem_cons.mpr ⟨so_rV dX4_lieOn_15 rfl, ?_⟩
  exact fun _ h => absurd h List.not_mem_nil
theorem dX1_begin_0 : decode cX1_begin 0 = .ok (.aload_n 0, 1) := by decide +kernel
theorem dX1_begin_1 : decode cX1_begin 1 = .ok (.iconst 0, 1) := by decide +kernel
theorem dX1_begin_2 : decode cX1_begin 2 = .ok (.putfield 18, 3) := by decide +kernel
theorem dX1_begin_5 : decode cX1_begin 5 = .ok (.aload_n 0, 1) := by decide +kernel
theorem dX1_begin_6 : decode cX1_begin 6 = .ok (.iconst 0, 1) := by decide +kernel
theorem dX1_begin_7 : decode cX1_begin 7 = .ok (.putfield 22, 3) := by decide +kernel
theorem dX1_begin_10 : decode cX1_begin 10 = .ok (.iconst 0, 1) := by decide +kernel
theorem dX1_begin_11 : decode cX1_begin 11 = .ok (.istore_n 2, 1) := by decide +kernel
theorem dX1_begin_12 : decode cX1_begin 12 = .ok (.iload_n 2, 1) := by decide +kernel
theorem dX1_begin_13 : decode cX1_begin 13 = .ok (.aload_n 1, 1) := by decide +kernel
theorem dX1_begin_14 : decode cX1_begin 14 = .ok (.getfield 25, 3) := by decide +kernel
theorem dX1_begin_17 : decode cX1_begin 17 = .ok (.if_icmp .ge 24, 3) := by decide +kernel
theorem dX1_begin_20 : decode cX1_begin 20 = .ok (.aload_n 0, 1) := by decide +kernel
theorem dX1_begin_21 : decode cX1_begin 21 = .ok (.getfield 11, 3) := by decide +kernel
theorem dX1_begin_24 : decode cX1_begin 24 = .ok (.iload_n 2, 1) := by decide +kernel
theorem dX1_begin_25 : decode cX1_begin 25 = .ok (.aaload, 1) := by decide +kernel
theorem dX1_begin_26 : decode cX1_begin 26 = .ok (.aload_n 1, 1) := by decide +kernel
theorem dX1_begin_27 : decode cX1_begin 27 = .ok (.getfield 29, 3) := by decide +kernel
theorem dX1_begin_30 : decode cX1_begin 30 = .ok (.iload_n 2, 1) := by decide +kernel
theorem dX1_begin_31 : decode cX1_begin 31 = .ok (.iaload, 1) := by decide +kernel
theorem dX1_begin_32 : decode cX1_begin 32 = .ok (.invokevirtual 33, 3) := by decide +kernel
theorem dX1_begin_35 : decode cX1_begin 35 = .ok (.iinc 2 1, 3) := by decide +kernel
theorem dX1_begin_38 : decode cX1_begin 38 = .ok (.goto (-26), 3) := by decide +kernel
theorem dX1_begin_41 : decode cX1_begin 41 = .ok (.return_, 1) := by decide +kernel
def T_X1_begin : tk_Tb := [(0, tk_al 0 1), (1, tk_ic (0) 2), (2, tk_pI 1 0 5), (5, tk_al 0 6), (6, tk_ic (0) 7), (7, tk_pI 1 1 10), (10, tk_ic (0) 11), (11, tk_sI 2 12), (12, tk_il 2 13), (13, tk_al 1 14), (14, tk_gI 5 4 17), (17, tk_cm (fun x y => y ≤ x) 41 20), (20, tk_al 0 21), (21, tk_gR 1 2 24), (24, tk_il 2 25), (25, tk_aa 11 26), (26, tk_al 1 27), (27, tk_gR 5 9 30), (30, tk_il 2 31), (31, tk_ai 9 32), (32, tk_cv 4 M_X4_lieOn 1 35), (35, tk_inc 2 (1) 38), (38, tk_jmp 12), (41, tk_rV)]
set_option maxRecDepth 100000 in
theorem hT_X1_begin (sc : Option (Nat × (Nat → Int32))) : ∀ x ∈ T_X1_begin, tk_So sc M_X1_begin x.1 x.2 := by
  unfold T_X1_begin
  refine List.forall_mem_cons.mpr ⟨so_aload_n dX1_begin_0 rfl rfl, ?_⟩
  refine List.forall_mem_cons.mpr ⟨so_iconst dX1_begin_1 (by decide) rfl, ?_⟩
  refine List.forall_mem_cons.mpr ⟨so_pI (C := RX1) (T := TX1) (N := 3) dX1_begin_2 (by decide) rfl rfl (by decide) rfl in_X1 wf_X1_18 tyX1 tyX1_ok nmX1 rfl (by decide +kernel) rfl, ?_⟩
  refine List.forall_mem_cons.mpr ⟨so_aload_n dX1_begin_5 rfl rfl, ?_⟩
  refine List.forall_mem_cons.mpr ⟨so_iconst dX1_begin_6 (by decide) rfl, ?_⟩
  refine List.forall_mem_cons.mpr ⟨so_pI (C := RX1) (T := TX1) (N := 3) dX1_begin_7 (by decide) rfl rfl (by decide) rfl in_X1 wf_X1_22 tyX1 tyX1_ok nmX1 rfl (by decide +kernel) rfl, ?_⟩
  refine List.forall_mem_cons.mpr ⟨so_iconst dX1_begin_10 (by decide) rfl, ?_⟩
  refine List.forall_mem_cons.mpr ⟨so_istore_n dX1_begin_11 rfl rfl, ?_⟩
  refine List.forall_mem_cons.mpr ⟨so_iload_n dX1_begin_12 rfl rfl, ?_⟩
  refine List.forall_mem_cons.mpr ⟨so_aload_n dX1_begin_13 rfl rfl, ?_⟩
  refine List.forall_mem_cons.mpr ⟨so_gI (C := RX5) (T := TX5) (N := 10) dX1_begin_14 (by decide) rfl rfl (by decide) rfl in_X5 wf_X1_25 rfl, ?_⟩
  refine List.forall_mem_cons.mpr ⟨so_icmp_ge dX1_begin_17 (by decide) rfl, ?_⟩
  refine List.forall_mem_cons.mpr ⟨so_aload_n dX1_begin_20 rfl rfl, ?_⟩
  refine List.forall_mem_cons.mpr ⟨so_gR (C := RX1) (T := TX1) (N := 3) dX1_begin_21 (by decide) rfl rfl (by decide) rfl in_X1 wf_X1_11 rfl, ?_⟩
  refine List.forall_mem_cons.mpr ⟨so_iload_n dX1_begin_24 rfl rfl, ?_⟩
  refine List.forall_mem_cons.mpr ⟨so_aaT dX1_begin_25 rfl, ?_⟩
  refine List.forall_mem_cons.mpr ⟨so_aload_n dX1_begin_26 rfl rfl, ?_⟩
  refine List.forall_mem_cons.mpr ⟨so_gR (C := RX5) (T := TX5) (N := 10) dX1_begin_27 (by decide) rfl rfl (by decide) rfl in_X5 wf_X1_29 rfl, ?_⟩
  refine List.forall_mem_cons.mpr ⟨so_iload_n dX1_begin_30 rfl rfl, ?_⟩
  refine List.forall_mem_cons.mpr ⟨so_iaload dX1_begin_31 rfl, ?_⟩
  refine List.forall_mem_cons.mpr ⟨so_cv (T := TX4) (N := 3) dX1_begin_32 mv_X4_lieOn wm_X1_33 (by decide) rfl ⟨rfl, rfl⟩ (by decide) rfl, ?_⟩
  refine List.forall_mem_cons.mpr ⟨so_iinc dX1_begin_35 (by decide) rfl, ?_⟩
  refine List.forall_mem_cons.mpr ⟨so_goto dX1_begin_38 (by decide), ?_⟩
  refine List.forall_mem_cons.mpr ⟨so_rV dX1_begin_41 rfl, ?_⟩
  exact fun _ h => absurd h List.not_mem_nil
theorem dX4_lies_0 : decode cX4_lies 0 = .ok (.aload_n 0, 1) := by decide +kernel
theorem dX4_lies_1 : decode cX4_lies 1 = .ok (.getfield 15, 3) := by decide +kernel
theorem dX4_lies_4 : decode cX4_lies 4 = .ok (.ifCond .ne 7, 3) := by decide +kernel
theorem dX4_lies_7 : decode cX4_lies 7 = .ok (.iconst 1, 1) := by decide +kernel
theorem dX4_lies_8 : decode cX4_lies 8 = .ok (.goto 4, 3) := by decide +kernel
theorem dX4_lies_11 : decode cX4_lies 11 = .ok (.iconst 0, 1) := by decide +kernel
theorem dX4_lies_12 : decode cX4_lies 12 = .ok (.ireturn, 1) := by decide +kernel
def T_X4_lies : tk_Tb := [(0, tk_al 0 1), (1, tk_gI 4 1 4), (4, tk_br (fun x => x = 0) 7 11), (7, tk_ic (1) 8), (8, tk_jmp 12), (11, tk_ic (0) 12), (12, tk_rZ)]
set_option maxRecDepth 100000 in
theorem hT_X4_lies (sc : Option (Nat × (Nat → Int32))) : ∀ x ∈ T_X4_lies, tk_So sc M_X4_lies x.1 x.2 := by
  unfold T_X4_lies
  refine List.forall_mem_cons.mpr ⟨so_aload_n dX4_lies_0 rfl rfl, ?_⟩
  refine List.forall_mem_cons.mpr ⟨so_gI (C := RX4) (T := TX4) (N := 3) dX4_lies_1 (by decide) rfl rfl (by decide) rfl in_X4 wf_X4_15 rfl, ?_⟩
  refine List.forall_mem_cons.mpr ⟨so_if_ne dX4_lies_4 (by decide) rfl, ?_⟩
  refine List.forall_mem_cons.mpr ⟨so_iconst dX4_lies_7 (by decide) rfl, ?_⟩
  refine List.forall_mem_cons.mpr ⟨so_goto dX4_lies_8 (by decide), ?_⟩
  refine List.forall_mem_cons.mpr ⟨so_iconst dX4_lies_11 (by decide) rfl, ?_⟩
  refine List.forall_mem_cons.mpr ⟨so_rZ dX4_lies_12 rfl, ?_⟩
  exact fun _ h => absurd h List.not_mem_nil
theorem dX5_isKerb_0 : decode cX5_isKerb 0 = .ok (.iload_n 1, 1) := by decide +kernel
theorem dX5_isKerb_1 : decode cX5_isKerb 1 = .ok (.ifCond .lt 15, 3) := by decide +kernel
theorem dX5_isKerb_4 : decode cX5_isKerb 4 = .ok (.iload_n 1, 1) := by decide +kernel
theorem dX5_isKerb_5 : decode cX5_isKerb 5 = .ok (.aload_n 0, 1) := by decide +kernel
theorem dX5_isKerb_6 : decode cX5_isKerb 6 = .ok (.getfield 34, 3) := by decide +kernel
theorem dX5_isKerb_9 : decode cX5_isKerb 9 = .ok (.if_icmp .ge 7, 3) := by decide +kernel
theorem dX5_isKerb_12 : decode cX5_isKerb 12 = .ok (.iconst 1, 1) := by decide +kernel
theorem dX5_isKerb_13 : decode cX5_isKerb 13 = .ok (.goto 4, 3) := by decide +kernel
theorem dX5_isKerb_16 : decode cX5_isKerb 16 = .ok (.iconst 0, 1) := by decide +kernel
theorem dX5_isKerb_17 : decode cX5_isKerb 17 = .ok (.ireturn, 1) := by decide +kernel
def T_X5_isKerb : tk_Tb := [(0, tk_il 1 1), (1, tk_br (fun x => x < 0) 16 4), (4, tk_il 1 5), (5, tk_al 0 6), (6, tk_gI 5 3 9), (9, tk_cm (fun x y => y ≤ x) 16 12), (12, tk_ic (1) 13), (13, tk_jmp 17), (16, tk_ic (0) 17), (17, tk_rZ)]
set_option maxRecDepth 100000 in
theorem hT_X5_isKerb (sc : Option (Nat × (Nat → Int32))) : ∀ x ∈ T_X5_isKerb, tk_So sc M_X5_isKerb x.1 x.2 := by
  unfold T_X5_isKerb
  refine List.forall_mem_cons.mpr ⟨so_iload_n dX5_isKerb_0 rfl rfl, ?_⟩
  refine List.forall_mem_cons.mpr ⟨so_if_lt dX5_isKerb_1 (by decide) rfl, ?_⟩
  refine List.forall_mem_cons.mpr ⟨so_iload_n dX5_isKerb_4 rfl rfl, ?_⟩
  refine List.forall_mem_cons.mpr ⟨so_aload_n dX5_isKerb_5 rfl rfl, ?_⟩
  refine List.forall_mem_cons.mpr ⟨so_gI (C := RX5) (T := TX5) (N := 10) dX5_isKerb_6 (by decide) rfl rfl (by decide) rfl in_X5 wf_X5_34 rfl, ?_⟩
  refine List.forall_mem_cons.mpr ⟨so_icmp_ge dX5_isKerb_9 (by decide) rfl, ?_⟩
  refine List.forall_mem_cons.mpr ⟨so_iconst dX5_isKerb_12 (by decide) rfl, ?_⟩
  refine List.forall_mem_cons.mpr ⟨so_goto dX5_isKerb_13 (by decide), ?_⟩
  refine List.forall_mem_cons.mpr ⟨so_iconst dX5_isKerb_16 (by decide) rfl, ?_⟩
  refine List.forall_mem_cons.mpr ⟨so_rZ dX5_isKerb_17 rfl, ?_⟩
  exact fun _ h => absurd h List.not_mem_nil
theorem dX5_isFlooded_0 : decode cX5_isFlooded 0 = .ok (.aload_n 0, 1) := by decide +kernel
theorem dX5_isFlooded_1 : decode cX5_isFlooded 1 = .ok (.iload_n 1, 1) := by decide +kernel
theorem dX5_isFlooded_2 : decode cX5_isFlooded 2 = .ok (.invokevirtual 57, 3) := by decide +kernel
theorem dX5_isFlooded_5 : decode cX5_isFlooded 5 = .ok (.ifCond .eq 17, 3) := by decide +kernel
theorem dX5_isFlooded_8 : decode cX5_isFlooded 8 = .ok (.aload_n 0, 1) := by decide +kernel
theorem dX5_isFlooded_9 : decode cX5_isFlooded 9 = .ok (.getfield 15, 3) := by decide +kernel
theorem dX5_isFlooded_12 : decode cX5_isFlooded 12 = .ok (.iload_n 1, 1) := by decide +kernel
theorem dX5_isFlooded_13 : decode cX5_isFlooded 13 = .ok (.iaload, 1) := by decide +kernel
theorem dX5_isFlooded_14 : decode cX5_isFlooded 14 = .ok (.iload_n 2, 1) := by decide +kernel
theorem dX5_isFlooded_15 : decode cX5_isFlooded 15 = .ok (.if_icmp .gt 7, 3) := by decide +kernel
theorem dX5_isFlooded_18 : decode cX5_isFlooded 18 = .ok (.iconst 1, 1) := by decide +kernel
theorem dX5_isFlooded_19 : decode cX5_isFlooded 19 = .ok (.goto 4, 3) := by decide +kernel
theorem dX5_isFlooded_22 : decode cX5_isFlooded 22 = .ok (.iconst 0, 1) := by decide +kernel
theorem dX5_isFlooded_23 : decode cX5_isFlooded 23 = .ok (.ireturn, 1) := by decide +kernel
def T_X5_isFlooded : tk_Tb := [(0, tk_al 0 1), (1, tk_il 1 2), (2, tk_cv 5 M_X5_isKerb 1 5), (5, tk_br (fun x => x = 0) 22 8), (8, tk_al 0 9), (9, tk_gR 5 6 12), (12, tk_il 1 13), (13, tk_ai 9 14), (14, tk_il 2 15), (15, tk_cm (fun x y => y < x) 22 18), (18, tk_ic (1) 19), (19, tk_jmp 23), (22, tk_ic (0) 23), (23, tk_rZ)]
set_option maxRecDepth 100000 in
theorem hT_X5_isFlooded (sc : Option (Nat × (Nat → Int32))) : ∀ x ∈ T_X5_isFlooded, tk_So sc M_X5_isFlooded x.1 x.2 := by
  unfold T_X5_isFlooded
  refine List.forall_mem_cons.mpr ⟨so_aload_n dX5_isFlooded_0 rfl rfl, ?_⟩
  refine List.forall_mem_cons.mpr ⟨so_iload_n dX5_isFlooded_1 rfl rfl, ?_⟩
  refine List.forall_mem_cons.mpr ⟨so_cv (T := TX5) (N := 10) dX5_isFlooded_2 mv_X5_isKerb wm_X5_57 (by decide) rfl ⟨rfl, rfl⟩ (by decide) rfl, ?_⟩
  refine List.forall_mem_cons.mpr ⟨so_if_eq dX5_isFlooded_5 (by decide) rfl, ?_⟩
  refine List.forall_mem_cons.mpr ⟨so_aload_n dX5_isFlooded_8 rfl rfl, ?_⟩
  refine List.forall_mem_cons.mpr ⟨so_gR (C := RX5) (T := TX5) (N := 10) dX5_isFlooded_9 (by decide) rfl rfl (by decide) rfl in_X5 wf_X5_15 rfl, ?_⟩
  refine List.forall_mem_cons.mpr ⟨so_iload_n dX5_isFlooded_12 rfl rfl, ?_⟩
  refine List.forall_mem_cons.mpr ⟨so_iaload dX5_isFlooded_13 rfl, ?_⟩
  refine List.forall_mem_cons.mpr ⟨so_iload_n dX5_isFlooded_14 rfl rfl, ?_⟩
  refine List.forall_mem_cons.mpr ⟨so_icmp_gt dX5_isFlooded_15 (by decide) rfl, ?_⟩
  refine List.forall_mem_cons.mpr ⟨so_iconst dX5_isFlooded_18 (by decide) rfl, ?_⟩
  refine List.forall_mem_cons.mpr ⟨so_goto dX5_isFlooded_19 (by decide), ?_⟩
  refine List.forall_mem_cons.mpr ⟨so_iconst dX5_isFlooded_22 (by decide) rfl, ?_⟩
  refine List.forall_mem_cons.mpr ⟨so_rZ dX5_isFlooded_23 rfl, ?_⟩
  exact fun _ h => absurd h List.not_mem_nil
theorem dX4_pass_0 : decode cX4_pass 0 = .ok (.aload_n 0, 1) := by decide +kernel
theorem dX4_pass_1 : decode cX4_pass 1 = .ok (.invokevirtual 22, 3) := by decide +kernel
theorem dX4_pass_4 : decode cX4_pass 4 = .ok (.ifCond .eq 26, 3) := by decide +kernel
theorem dX4_pass_7 : decode cX4_pass 7 = .ok (.aload_n 0, 1) := by decide +kernel
theorem dX4_pass_8 : decode cX4_pass 8 = .ok (.getfield 18, 3) := by decide +kernel
theorem dX4_pass_11 : decode cX4_pass 11 = .ok (.ifCond .ne 19, 3) := by decide +kernel
theorem dX4_pass_14 : decode cX4_pass 14 = .ok (.aload_n 1, 1) := by decide +kernel
theorem dX4_pass_15 : decode cX4_pass 15 = .ok (.aload_n 0, 1) := by decide +kernel
theorem dX4_pass_16 : decode cX4_pass 16 = .ok (.getfield 9, 3) := by decide +kernel
theorem dX4_pass_19 : decode cX4_pass 19 = .ok (.iload_n 2, 1) := by decide +kernel
theorem dX4_pass_20 : decode cX4_pass 20 = .ok (.invokevirtual 26, 3) := by decide +kernel
theorem dX4_pass_23 : decode cX4_pass 23 = .ok (.ifCond .eq 7, 3) := by decide +kernel
theorem dX4_pass_26 : decode cX4_pass 26 = .ok (.iconst 1, 1) := by decide +kernel
theorem dX4_pass_27 : decode cX4_pass 27 = .ok (.goto 4, 3) := by decide +kernel
theorem dX4_pass_30 : decode cX4_pass 30 = .ok (.iconst 0, 1) := by decide +kernel
theorem dX4_pass_31 : decode cX4_pass 31 = .ok (.istore_n 3, 1) := by decide +kernel
theorem dX4_pass_32 : decode cX4_pass 32 = .ok (.iload_n 3, 1) := by decide +kernel
theorem dX4_pass_33 : decode cX4_pass 33 = .ok (.ifCond .eq 29, 3) := by decide +kernel
theorem dX4_pass_36 : decode cX4_pass 36 = .ok (.aload_n 0, 1) := by decide +kernel
theorem dX4_pass_37 : decode cX4_pass 37 = .ok (.aload_n 1, 1) := by decide +kernel
theorem dX4_pass_38 : decode cX4_pass 38 = .ok (.getfield 32, 3) := by decide +kernel
theorem dX4_pass_41 : decode cX4_pass 41 = .ok (.aload_n 0, 1) := by decide +kernel
theorem dX4_pass_42 : decode cX4_pass 42 = .ok (.getfield 9, 3) := by decide +kernel
theorem dX4_pass_45 : decode cX4_pass 45 = .ok (.iaload, 1) := by decide +kernel
theorem dX4_pass_46 : decode cX4_pass 46 = .ok (.putfield 15, 3) := by decide +kernel
theorem dX4_pass_49 : decode cX4_pass 49 = .ok (.aload_n 0, 1) := by decide +kernel
theorem dX4_pass_50 : decode cX4_pass 50 = .ok (.aload_n 1, 1) := by decide +kernel
theorem dX4_pass_51 : decode cX4_pass 51 = .ok (.getfield 36, 3) := by decide +kernel
theorem dX4_pass_54 : decode cX4_pass 54 = .ok (.aload_n 0, 1) := by decide +kernel
theorem dX4_pass_55 : decode cX4_pass 55 = .ok (.getfield 9, 3) := by decide +kernel
theorem dX4_pass_58 : decode cX4_pass 58 = .ok (.iaload, 1) := by decide +kernel
theorem dX4_pass_59 : decode cX4_pass 59 = .ok (.putfield 9, 3) := by decide +kernel
theorem dX4_pass_62 : decode cX4_pass 62 = .ok (.aload_n 0, 1) := by decide +kernel
theorem dX4_pass_63 : decode cX4_pass 63 = .ok (.getfield 15, 3) := by decide +kernel
theorem dX4_pass_66 : decode cX4_pass 66 = .ok (.ifCond .le 13, 3) := by decide +kernel
theorem dX4_pass_69 : decode cX4_pass 69 = .ok (.aload_n 0, 1) := by decide +kernel
theorem dX4_pass_70 : decode cX4_pass 70 = .ok (.dup, 1) := by decide +kernel
theorem dX4_pass_71 : decode cX4_pass 71 = .ok (.getfield 15, 3) := by decide +kernel
theorem dX4_pass_74 : decode cX4_pass 74 = .ok (.iconst 1, 1) := by decide +kernel
theorem dX4_pass_75 : decode cX4_pass 75 = .ok (.isub, 1) := by decide +kernel
theorem dX4_pass_76 : decode cX4_pass 76 = .ok (.putfield 15, 3) := by decide +kernel
theorem dX4_pass_79 : decode cX4_pass 79 = .ok (.iload_n 3, 1) := by decide +kernel
theorem dX4_pass_80 : decode cX4_pass 80 = .ok (.ireturn, 1) := by decide +kernel
def T_X4_pass : tk_Tb := [(0, tk_al 0 1), (1, tk_cv 4 M_X4_lies 0 4), (4, tk_br (fun x => x = 0) 30 7), (7, tk_al 0 8), (8, tk_gI 4 2 11), (11, tk_br (fun x => x = 0) 14 30), (14, tk_al 1 15), (15, tk_al 0 16), (16, tk_gI 4 0 19), (19, tk_il 2 20), (20, tk_cv 5 M_X5_isFlooded 2 23), (23, tk_br (fun x => x = 0) 30 26), (26, tk_ic (1) 27), (27, tk_jmp 31), (30, tk_ic (0) 31), (31, tk_sI 3 32), (32, tk_il 3 33), (33, tk_br (fun x => x = 0) 62 36), (36, tk_al 0 37), (37, tk_al 1 38), (38, tk_gR 5 8 41), (41, tk_al 0 42), (42, tk_gI 4 0 45), (45, tk_ai 9 46), (46, tk_pI 4 1 49), (49, tk_al 0 50), (50, tk_al 1 51), (51, tk_gR 5 7 54), (54, tk_al 0 55), (55, tk_gI 4 0 58), (58, tk_ai 9 59), (59, tk_pI 4 0 62), (62, tk_al 0 63), (63, tk_gI 4 1 66), (66, tk_br (fun x => x ≤ 0) 79 69), (69, tk_al 0 70), (70, tk_dup 71), (71, tk_gI 4 1 74), (74, tk_ic (1) 75), (75, tk_bi (fun x y => x - y) 76), (76, tk_pI 4 1 79), (79, tk_il 3 80), (80, tk_rZ)]
set_option maxRecDepth 100000 in
theorem hT_X4_pass (sc : Option (Nat × (Nat → Int32))) : ∀ x ∈ T_X4_pass, tk_So sc M_X4_pass x.1 x.2 := by
  unfold T_X4_pass
  refine List.forall_mem_cons.mpr ⟨so_aload_n dX4_pass_0 rfl rfl, ?_⟩
  refine List.forall_mem_cons.mpr ⟨so_cv (T := TX4) (N := 3) dX4_pass_1 mv_X4_lies wm_X4_22 (by decide) rfl ⟨rfl, rfl⟩ (by decide) rfl, ?_⟩
  refine List.forall_mem_cons.mpr ⟨so_if_eq dX4_pass_4 (by decide) rfl, ?_⟩
  refine List.forall_mem_cons.mpr ⟨so_aload_n dX4_pass_7 rfl rfl, ?_⟩
  refine List.forall_mem_cons.mpr ⟨so_gI (C := RX4) (T := TX4) (N := 3) dX4_pass_8 (by decide) rfl rfl (by decide) rfl in_X4 wf_X4_18 rfl, ?_⟩
  refine List.forall_mem_cons.mpr ⟨so_if_ne dX4_pass_11 (by decide) rfl, ?_⟩
  refine List.forall_mem_cons.mpr ⟨so_aload_n dX4_pass_14 rfl rfl, ?_⟩
  refine List.forall_mem_cons.mpr ⟨so_aload_n dX4_pass_15 rfl rfl, ?_⟩
  refine List.forall_mem_cons.mpr ⟨so_gI (C := RX4) (T := TX4) (N := 3) dX4_pass_16 (by decide) rfl rfl (by decide) rfl in_X4 wf_X4_9 rfl, ?_⟩
  refine List.forall_mem_cons.mpr ⟨so_iload_n dX4_pass_19 rfl rfl, ?_⟩
  refine List.forall_mem_cons.mpr ⟨so_cv (T := TX5) (N := 10) dX4_pass_20 mv_X5_isFlooded wm_X4_26 (by decide) rfl ⟨rfl, rfl⟩ (by decide) rfl, ?_⟩
  refine List.forall_mem_cons.mpr ⟨so_if_eq dX4_pass_23 (by decide) rfl, ?_⟩
  refine List.forall_mem_cons.mpr ⟨so_iconst dX4_pass_26 (by decide) rfl, ?_⟩
  refine List.forall_mem_cons.mpr ⟨so_goto dX4_pass_27 (by decide), ?_⟩
  refine List.forall_mem_cons.mpr ⟨so_iconst dX4_pass_30 (by decide) rfl, ?_⟩
  refine List.forall_mem_cons.mpr ⟨so_istore_n dX4_pass_31 rfl rfl, ?_⟩
  refine List.forall_mem_cons.mpr ⟨so_iload_n dX4_pass_32 rfl rfl, ?_⟩
  refine List.forall_mem_cons.mpr ⟨so_if_eq dX4_pass_33 (by decide) rfl, ?_⟩
  refine List.forall_mem_cons.mpr ⟨so_aload_n dX4_pass_36 rfl rfl, ?_⟩
  refine List.forall_mem_cons.mpr ⟨so_aload_n dX4_pass_37 rfl rfl, ?_⟩
  refine List.forall_mem_cons.mpr ⟨so_gR (C := RX5) (T := TX5) (N := 10) dX4_pass_38 (by decide) rfl rfl (by decide) rfl in_X5 wf_X4_32 rfl, ?_⟩
  refine List.forall_mem_cons.mpr ⟨so_aload_n dX4_pass_41 rfl rfl, ?_⟩
  refine List.forall_mem_cons.mpr ⟨so_gI (C := RX4) (T := TX4) (N := 3) dX4_pass_42 (by decide) rfl rfl (by decide) rfl in_X4 wf_X4_9 rfl, ?_⟩
  refine List.forall_mem_cons.mpr ⟨so_iaload dX4_pass_45 rfl, ?_⟩
  refine List.forall_mem_cons.mpr ⟨so_pI (C := RX4) (T := TX4) (N := 3) dX4_pass_46 (by decide) rfl rfl (by decide) rfl in_X4 wf_X4_15 tyX4 tyX4_ok nmX4 rfl (by decide +kernel) rfl, ?_⟩
  refine List.forall_mem_cons.mpr ⟨so_aload_n dX4_pass_49 rfl rfl, ?_⟩
  refine List.forall_mem_cons.mpr ⟨so_aload_n dX4_pass_50 rfl rfl, ?_⟩
  refine List.forall_mem_cons.mpr ⟨so_gR (C := RX5) (T := TX5) (N := 10) dX4_pass_51 (by decide) rfl rfl (by decide) rfl in_X5 wf_X4_36 rfl, ?_⟩
  refine List.forall_mem_cons.mpr ⟨so_aload_n dX4_pass_54 rfl rfl, ?_⟩
  refine List.forall_mem_cons.mpr ⟨so_gI (C := RX4) (T := TX4) (N := 3) dX4_pass_55 (by decide) rfl rfl (by decide) rfl in_X4 wf_X4_9 rfl, ?_⟩
  refine List.forall_mem_cons.mpr ⟨so_iaload dX4_pass_58 rfl, ?_⟩
  refine List.forall_mem_cons.mpr ⟨so_pI (C := RX4) (T := TX4) (N := 3) dX4_pass_59 (by decide) rfl rfl (by decide) rfl in_X4 wf_X4_9 tyX4 tyX4_ok nmX4 rfl (by decide +kernel) rfl, ?_⟩
  refine List.forall_mem_cons.mpr ⟨so_aload_n dX4_pass_62 rfl rfl, ?_⟩
  refine List.forall_mem_cons.mpr ⟨so_gI (C := RX4) (T := TX4) (N := 3) dX4_pass_63 (by decide) rfl rfl (by decide) rfl in_X4 wf_X4_15 rfl, ?_⟩
  refine List.forall_mem_cons.mpr ⟨so_if_le dX4_pass_66 (by decide) rfl, ?_⟩
  refine List.forall_mem_cons.mpr ⟨so_aload_n dX4_pass_69 rfl rfl, ?_⟩
  refine List.forall_mem_cons.mpr ⟨so_dup dX4_pass_70 rfl, ?_⟩
  refine List.forall_mem_cons.mpr ⟨so_gI (C := RX4) (T := TX4) (N := 3) dX4_pass_71 (by decide) rfl rfl (by decide) rfl in_X4 wf_X4_15 rfl, ?_⟩
  refine List.forall_mem_cons.mpr ⟨so_iconst dX4_pass_74 (by decide) rfl, ?_⟩
  refine List.forall_mem_cons.mpr ⟨so_isub dX4_pass_75 rfl, ?_⟩
  refine List.forall_mem_cons.mpr ⟨so_pI (C := RX4) (T := TX4) (N := 3) dX4_pass_76 (by decide) rfl rfl (by decide) rfl in_X4 wf_X4_15 tyX4 tyX4_ok nmX4 rfl (by decide +kernel) rfl, ?_⟩
  refine List.forall_mem_cons.mpr ⟨so_iload_n dX4_pass_79 rfl rfl, ?_⟩
  refine List.forall_mem_cons.mpr ⟨so_rZ dX4_pass_80 rfl, ?_⟩
  exact fun _ h => absurd h List.not_mem_nil
theorem dX5_leftOver_0 : decode cX5_leftOver 0 = .ok (.aload_n 0, 1) := by decide +kernel
theorem dX5_leftOver_1 : decode cX5_leftOver 1 = .ok (.getfield 41, 3) := by decide +kernel
theorem dX5_leftOver_4 : decode cX5_leftOver 4 = .ok (.iconst 2, 1) := by decide +kernel
theorem dX5_leftOver_5 : decode cX5_leftOver 5 = .ok (.if_icmp .ge 7, 3) := by decide +kernel
theorem dX5_leftOver_8 : decode cX5_leftOver 8 = .ok (.iconst 0, 1) := by decide +kernel
theorem dX5_leftOver_9 : decode cX5_leftOver 9 = .ok (.goto 9, 3) := by decide +kernel
theorem dX5_leftOver_12 : decode cX5_leftOver 12 = .ok (.iload_n 1, 1) := by decide +kernel
theorem dX5_leftOver_13 : decode cX5_leftOver 13 = .ok (.aload_n 0, 1) := by decide +kernel
theorem dX5_leftOver_14 : decode cX5_leftOver 14 = .ok (.getfield 41, 3) := by decide +kernel
theorem dX5_leftOver_17 : decode cX5_leftOver 17 = .ok (.irem, 1) := by decide +kernel
theorem dX5_leftOver_18 : decode cX5_leftOver 18 = .ok (.ireturn, 1) := by decide +kernel
def T_X5_leftOver : tk_Tb := [(0, tk_al 0 1), (1, tk_gI 5 0 4), (4, tk_ic (2) 5), (5, tk_cm (fun x y => y ≤ x) 12 8), (8, tk_ic (0) 9), (9, tk_jmp 18), (12, tk_il 1 13), (13, tk_al 0 14), (14, tk_gI 5 0 17), (17, tk_dv (fun x y => x - x / y * y) 18), (18, tk_rI)]
set_option maxRecDepth 100000 in
theorem hT_X5_leftOver (sc : Option (Nat × (Nat → Int32))) : ∀ x ∈ T_X5_leftOver, tk_So sc M_X5_leftOver x.1 x.2 := by
  unfold T_X5_leftOver
  refine List.forall_mem_cons.mpr ⟨so_aload_n dX5_leftOver_0 rfl rfl, ?_⟩
  refine List.forall_mem_cons.mpr ⟨so_gI (C := RX5) (T := TX5) (N := 10) dX5_leftOver_1 (by decide) rfl rfl (by decide) rfl in_X5 wf_X5_41 rfl, ?_⟩
  refine List.forall_mem_cons.mpr ⟨so_iconst dX5_leftOver_4 (by decide) rfl, ?_⟩
  refine List.forall_mem_cons.mpr ⟨so_icmp_ge dX5_leftOver_5 (by decide) rfl, ?_⟩
  refine List.forall_mem_cons.mpr ⟨so_iconst dX5_leftOver_8 (by decide) rfl, ?_⟩
  refine List.forall_mem_cons.mpr ⟨so_goto dX5_leftOver_9 (by decide), ?_⟩
  refine List.forall_mem_cons.mpr ⟨so_iload_n dX5_leftOver_12 rfl rfl, ?_⟩
  refine List.forall_mem_cons.mpr ⟨so_aload_n dX5_leftOver_13 rfl rfl, ?_⟩
  refine List.forall_mem_cons.mpr ⟨so_gI (C := RX5) (T := TX5) (N := 10) dX5_leftOver_14 (by decide) rfl rfl (by decide) rfl in_X5 wf_X5_41 rfl, ?_⟩
  refine List.forall_mem_cons.mpr ⟨so_irem dX5_leftOver_17 rfl, ?_⟩
  refine List.forall_mem_cons.mpr ⟨so_rI dX5_leftOver_18 rfl, ?_⟩
  exact fun _ h => absurd h List.not_mem_nil
theorem dX5_levelOf_0 : decode cX5_levelOf 0 = .ok (.aload_n 0, 1) := by decide +kernel
theorem dX5_levelOf_1 : decode cX5_levelOf 1 = .ok (.aload_n 0, 1) := by decide +kernel
theorem dX5_levelOf_2 : decode cX5_levelOf 2 = .ok (.getfield 44, 3) := by decide +kernel
theorem dX5_levelOf_5 : decode cX5_levelOf 5 = .ok (.iload_n 1, 1) := by decide +kernel
theorem dX5_levelOf_6 : decode cX5_levelOf 6 = .ok (.imul, 1) := by decide +kernel
theorem dX5_levelOf_7 : decode cX5_levelOf 7 = .ok (.aload_n 0, 1) := by decide +kernel
theorem dX5_levelOf_8 : decode cX5_levelOf 8 = .ok (.getfield 47, 3) := by decide +kernel
theorem dX5_levelOf_11 : decode cX5_levelOf 11 = .ok (.iadd, 1) := by decide +kernel
theorem dX5_levelOf_12 : decode cX5_levelOf 12 = .ok (.invokevirtual 61, 3) := by decide +kernel
theorem dX5_levelOf_15 : decode cX5_levelOf 15 = .ok (.ireturn, 1) := by decide +kernel
def T_X5_levelOf : tk_Tb := [(0, tk_al 0 1), (1, tk_al 0 2), (2, tk_gI 5 1 5), (5, tk_il 1 6), (6, tk_bi (fun x y => x * y) 7), (7, tk_al 0 8), (8, tk_gI 5 2 11), (11, tk_bi (fun x y => x + y) 12), (12, tk_cv 5 M_X5_leftOver 1 15), (15, tk_rI)]
set_option maxRecDepth 100000 in
theorem hT_X5_levelOf (sc : Option (Nat × (Nat → Int32))) : ∀ x ∈ T_X5_levelOf, tk_So sc M_X5_levelOf x.1 x.2 := by
  unfold T_X5_levelOf
  refine List.forall_mem_cons.mpr ⟨so_aload_n dX5_levelOf_0 rfl rfl, ?_⟩
  refine List.forall_mem_cons.mpr ⟨so_aload_n dX5_levelOf_1 rfl rfl, ?_⟩
  refine List.forall_mem_cons.mpr ⟨so_gI (C := RX5) (T := TX5) (N := 10) dX5_levelOf_2 (by decide) rfl rfl (by decide) rfl in_X5 wf_X5_44 rfl, ?_⟩
  refine List.forall_mem_cons.mpr ⟨so_iload_n dX5_levelOf_5 rfl rfl, ?_⟩
  refine List.forall_mem_cons.mpr ⟨so_imul dX5_levelOf_6 rfl, ?_⟩
  refine List.forall_mem_cons.mpr ⟨so_aload_n dX5_levelOf_7 rfl rfl, ?_⟩
  refine List.forall_mem_cons.mpr ⟨so_gI (C := RX5) (T := TX5) (N := 10) dX5_levelOf_8 (by decide) rfl rfl (by decide) rfl in_X5 wf_X5_47 rfl, ?_⟩
  refine List.forall_mem_cons.mpr ⟨so_iadd dX5_levelOf_11 rfl, ?_⟩
  refine List.forall_mem_cons.mpr ⟨so_cv (T := TX5) (N := 10) dX5_levelOf_12 mv_X5_leftOver wm_X5_61 (by decide) rfl ⟨rfl, rfl⟩ (by decide) rfl, ?_⟩
  refine List.forall_mem_cons.mpr ⟨so_rI dX5_levelOf_15 rfl, ?_⟩
  exact fun _ h => absurd h List.not_mem_nil
theorem dJ9_min_7cf53_0 : decode cJ9_min_7cf53 0 = .ok (.iload_n 0, 1) := by decide +kernel
theorem dJ9_min_7cf53_1 : decode cJ9_min_7cf53 1 = .ok (.iload_n 1, 1) := by decide +kernel
theorem dJ9_min_7cf53_2 : decode cJ9_min_7cf53 2 = .ok (.if_icmp .gt 7, 3) := by decide +kernel
theorem dJ9_min_7cf53_5 : decode cJ9_min_7cf53 5 = .ok (.iload_n 0, 1) := by decide +kernel
theorem dJ9_min_7cf53_6 : decode cJ9_min_7cf53 6 = .ok (.goto 4, 3) := by decide +kernel
theorem dJ9_min_7cf53_9 : decode cJ9_min_7cf53 9 = .ok (.iload_n 1, 1) := by decide +kernel
theorem dJ9_min_7cf53_10 : decode cJ9_min_7cf53 10 = .ok (.ireturn, 1) := by decide +kernel
def T_J9_min_7cf53 : tk_Tb := [(0, tk_il 0 1), (1, tk_il 1 2), (2, tk_cm (fun x y => y < x) 9 5), (5, tk_il 0 6), (6, tk_jmp 10), (9, tk_il 1 10), (10, tk_rI)]
set_option maxRecDepth 100000 in
theorem hT_J9_min_7cf53 (sc : Option (Nat × (Nat → Int32))) : ∀ x ∈ T_J9_min_7cf53, tk_So sc M_J9_min_7cf53 x.1 x.2 := by
  unfold T_J9_min_7cf53
  refine List.forall_mem_cons.mpr ⟨so_iload_n dJ9_min_7cf53_0 rfl rfl, ?_⟩
  refine List.forall_mem_cons.mpr ⟨so_iload_n dJ9_min_7cf53_1 rfl rfl, ?_⟩
  refine List.forall_mem_cons.mpr ⟨so_icmp_gt dJ9_min_7cf53_2 (by decide) rfl, ?_⟩
  refine List.forall_mem_cons.mpr ⟨so_iload_n dJ9_min_7cf53_5 rfl rfl, ?_⟩
  refine List.forall_mem_cons.mpr ⟨so_goto dJ9_min_7cf53_6 (by decide), ?_⟩
  refine List.forall_mem_cons.mpr ⟨so_iload_n dJ9_min_7cf53_9 rfl rfl, ?_⟩
  refine List.forall_mem_cons.mpr ⟨so_rI dJ9_min_7cf53_10 rfl, ?_⟩
  exact fun _ h => absurd h List.not_mem_nil
theorem dX1_pass_0 : decode cX1_pass 0 = .ok (.aload_n 1, 1) := by decide +kernel
theorem dX1_pass_1 : decode cX1_pass 1 = .ok (.aload_n 0, 1) := by decide +kernel
theorem dX1_pass_2 : decode cX1_pass 2 = .ok (.getfield 18, 3) := by decide +kernel
theorem dX1_pass_5 : decode cX1_pass 5 = .ok (.invokevirtual 37, 3) := by decide +kernel
theorem dX1_pass_8 : decode cX1_pass 8 = .ok (.istore_n 2, 1) := by decide +kernel
theorem dX1_pass_9 : decode cX1_pass 9 = .ok (.iconst 0, 1) := by decide +kernel
theorem dX1_pass_10 : decode cX1_pass 10 = .ok (.istore_n 3, 1) := by decide +kernel
theorem dX1_pass_11 : decode cX1_pass 11 = .ok (.iconst 0, 1) := by decide +kernel
theorem dX1_pass_12 : decode cX1_pass 12 = .ok (.istore 4, 2) := by decide +kernel
theorem dX1_pass_14 : decode cX1_pass 14 = .ok (.iload 4, 2) := by decide +kernel
theorem dX1_pass_16 : decode cX1_pass 16 = .ok (.aload_n 1, 1) := by decide +kernel
theorem dX1_pass_17 : decode cX1_pass 17 = .ok (.getfield 25, 3) := by decide +kernel
theorem dX1_pass_20 : decode cX1_pass 20 = .ok (.if_icmp .ge 27, 3) := by decide +kernel
theorem dX1_pass_23 : decode cX1_pass 23 = .ok (.aload_n 0, 1) := by decide +kernel
theorem dX1_pass_24 : decode cX1_pass 24 = .ok (.getfield 11, 3) := by decide +kernel
theorem dX1_pass_27 : decode cX1_pass 27 = .ok (.iload 4, 2) := by decide +kernel
theorem dX1_pass_29 : decode cX1_pass 29 = .ok (.aaload, 1) := by decide +kernel
theorem dX1_pass_30 : decode cX1_pass 30 = .ok (.aload_n 1, 1) := by decide +kernel
theorem dX1_pass_31 : decode cX1_pass 31 = .ok (.iload_n 2, 1) := by decide +kernel
theorem dX1_pass_32 : decode cX1_pass 32 = .ok (.invokevirtual 41, 3) := by decide +kernel
theorem dX1_pass_35 : decode cX1_pass 35 = .ok (.ifCond .eq 6, 3) := by decide +kernel
theorem dX1_pass_38 : decode cX1_pass 38 = .ok (.iinc 3 1, 3) := by decide +kernel
theorem dX1_pass_41 : decode cX1_pass 41 = .ok (.iinc 4 1, 3) := by decide +kernel
theorem dX1_pass_44 : decode cX1_pass 44 = .ok (.goto (-30), 3) := by decide +kernel
theorem dX1_pass_47 : decode cX1_pass 47 = .ok (.aload_n 0, 1) := by decide +kernel
theorem dX1_pass_48 : decode cX1_pass 48 = .ok (.aload_n 0, 1) := by decide +kernel
theorem dX1_pass_49 : decode cX1_pass 49 = .ok (.getfield 22, 3) := by decide +kernel
theorem dX1_pass_52 : decode cX1_pass 52 = .ok (.iload_n 3, 1) := by decide +kernel
theorem dX1_pass_53 : decode cX1_pass 53 = .ok (.iadd, 1) := by decide +kernel
theorem dX1_pass_54 : decode cX1_pass 54 = .ok (.ldc 45, 2) := by decide +kernel
theorem dX1_pass_56 : decode cX1_pass 56 = .ok (.invokestatic 46, 3) := by decide +kernel
theorem dX1_pass_59 : decode cX1_pass 59 = .ok (.putfield 22, 3) := by decide +kernel
theorem dX1_pass_62 : decode cX1_pass 62 = .ok (.aload_n 0, 1) := by decide +kernel
theorem dX1_pass_63 : decode cX1_pass 63 = .ok (.dup, 1) := by decide +kernel
theorem dX1_pass_64 : decode cX1_pass 64 = .ok (.getfield 18, 3) := by decide +kernel
theorem dX1_pass_67 : decode cX1_pass 67 = .ok (.iconst 1, 1) := by decide +kernel
theorem dX1_pass_68 : decode cX1_pass 68 = .ok (.iadd, 1) := by decide +kernel
theorem dX1_pass_69 : decode cX1_pass 69 = .ok (.putfield 18, 3) := by decide +kernel
theorem dX1_pass_72 : decode cX1_pass 72 = .ok (.iload_n 3, 1) := by decide +kernel
theorem dX1_pass_73 : decode cX1_pass 73 = .ok (.ireturn, 1) := by decide +kernel
def T_X1_pass : tk_Tb := [(0, tk_al 1 1), (1, tk_al 0 2), (2, tk_gI 1 0 5), (5, tk_cv 5 M_X5_levelOf 1 8), (8, tk_sI 2 9), (9, tk_ic (0) 10), (10, tk_sI 3 11), (11, tk_ic (0) 12), (12, tk_sI 4 14), (14, tk_il 4 16), (16, tk_al 1 17), (17, tk_gI 5 4 20), (20, tk_cm (fun x y => y ≤ x) 47 23), (23, tk_al 0 24), (24, tk_gR 1 2 27), (27, tk_il 4 29), (29, tk_aa 11 30), (30, tk_al 1 31), (31, tk_il 2 32), (32, tk_cv 4 M_X4_pass 2 35), (35, tk_br (fun x => x = 0) 41 38), (38, tk_inc 3 (1) 41), (41, tk_inc 4 (1) 44), (44, tk_jmp 14), (47, tk_al 0 48), (48, tk_al 0 49), (49, tk_gI 1 1 52), (52, tk_il 3 53), (53, tk_bi (fun x y => x + y) 54), (54, tk_ic (99999) 56), (56, tk_cs M_J9_min_7cf53 2 59), (59, tk_pI 1 1 62), (62, tk_al 0 63), (63, tk_dup 64), (64, tk_gI 1 0 67), (67, tk_ic (1) 68), (68, tk_bi (fun x y => x + y) 69), (69, tk_pI 1 0 72), (72, tk_il 3 73), (73, tk_rI)]
set_option maxRecDepth 100000 in
theorem hT_X1_pass (sc : Option (Nat × (Nat → Int32))) : ∀ x ∈ T_X1_pass, tk_So sc M_X1_pass x.1 x.2 := by
  unfold T_X1_pass
  refine List.forall_mem_cons.mpr ⟨so_aload_n dX1_pass_0 rfl rfl, ?_⟩
  refine List.forall_mem_cons.mpr ⟨so_aload_n dX1_pass_1 rfl rfl, ?_⟩
  refine List.forall_mem_cons.mpr ⟨so_gI (C := RX1) (T := TX1) (N := 3) dX1_pass_2 (by decide) rfl rfl (by decide) rfl in_X1 wf_X1_18 rfl, ?_⟩
  refine List.forall_mem_cons.mpr ⟨so_cv (T := TX5) (N := 10) dX1_pass_5 mv_X5_levelOf wm_X1_37 (by decide) rfl ⟨rfl, rfl⟩ (by decide) rfl, ?_⟩
  refine List.forall_mem_cons.mpr ⟨so_istore_n dX1_pass_8 rfl rfl, ?_⟩
  refine List.forall_mem_cons.mpr ⟨so_iconst dX1_pass_9 (by decide) rfl, ?_⟩
  refine List.forall_mem_cons.mpr ⟨so_istore_n dX1_pass_10 rfl rfl, ?_⟩
  refine List.forall_mem_cons.mpr ⟨so_iconst dX1_pass_11 (by decide) rfl, ?_⟩
  refine List.forall_mem_cons.mpr ⟨so_istore dX1_pass_12 rfl, ?_⟩
  refine List.forall_mem_cons.mpr ⟨so_iload dX1_pass_14 rfl, ?_⟩
  refine List.forall_mem_cons.mpr ⟨so_aload_n dX1_pass_16 rfl rfl, ?_⟩
  refine List.forall_mem_cons.mpr ⟨so_gI (C := RX5) (T := TX5) (N := 10) dX1_pass_17 (by decide) rfl rfl (by decide) rfl in_X5 wf_X1_25 rfl, ?_⟩
  refine List.forall_mem_cons.mpr ⟨so_icmp_ge dX1_pass_20 (by decide) rfl, ?_⟩
  refine List.forall_mem_cons.mpr ⟨so_aload_n dX1_pass_23 rfl rfl, ?_⟩
  refine List.forall_mem_cons.mpr ⟨so_gR (C := RX1) (T := TX1) (N := 3) dX1_pass_24 (by decide) rfl rfl (by decide) rfl in_X1 wf_X1_11 rfl, ?_⟩
  refine List.forall_mem_cons.mpr ⟨so_iload dX1_pass_27 rfl, ?_⟩
  refine List.forall_mem_cons.mpr ⟨so_aaT dX1_pass_29 rfl, ?_⟩
  refine List.forall_mem_cons.mpr ⟨so_aload_n dX1_pass_30 rfl rfl, ?_⟩
  refine List.forall_mem_cons.mpr ⟨so_iload_n dX1_pass_31 rfl rfl, ?_⟩
  refine List.forall_mem_cons.mpr ⟨so_cv (T := TX4) (N := 3) dX1_pass_32 mv_X4_pass wm_X1_41 (by decide) rfl ⟨rfl, rfl⟩ (by decide) rfl, ?_⟩
  refine List.forall_mem_cons.mpr ⟨so_if_eq dX1_pass_35 (by decide) rfl, ?_⟩
  refine List.forall_mem_cons.mpr ⟨so_iinc dX1_pass_38 (by decide) rfl, ?_⟩
  refine List.forall_mem_cons.mpr ⟨so_iinc dX1_pass_41 (by decide) rfl, ?_⟩
  refine List.forall_mem_cons.mpr ⟨so_goto dX1_pass_44 (by decide), ?_⟩
  refine List.forall_mem_cons.mpr ⟨so_aload_n dX1_pass_47 rfl rfl, ?_⟩
  refine List.forall_mem_cons.mpr ⟨so_aload_n dX1_pass_48 rfl rfl, ?_⟩
  refine List.forall_mem_cons.mpr ⟨so_gI (C := RX1) (T := TX1) (N := 3) dX1_pass_49 (by decide) rfl rfl (by decide) rfl in_X1 wf_X1_22 rfl, ?_⟩
  refine List.forall_mem_cons.mpr ⟨so_iload_n dX1_pass_52 rfl rfl, ?_⟩
  refine List.forall_mem_cons.mpr ⟨so_iadd dX1_pass_53 rfl, ?_⟩
  refine List.forall_mem_cons.mpr ⟨so_ldc dX1_pass_54 wc_X1_45 rfl, ?_⟩
  refine List.forall_mem_cons.mpr ⟨so_cs dX1_pass_56 mv_J9_min_7cf53 wm_X1_46 ⟨rfl, rfl⟩ (by decide) rfl, ?_⟩
  refine List.forall_mem_cons.mpr ⟨so_pI (C := RX1) (T := TX1) (N := 3) dX1_pass_59 (by decide) rfl rfl (by decide) rfl in_X1 wf_X1_22 tyX1 tyX1_ok nmX1 rfl (by decide +kernel) rfl, ?_⟩
  refine List.forall_mem_cons.mpr ⟨so_aload_n dX1_pass_62 rfl rfl, ?_⟩
  refine List.forall_mem_cons.mpr ⟨so_dup dX1_pass_63 rfl, ?_⟩
  refine List.forall_mem_cons.mpr ⟨so_gI (C := RX1) (T := TX1) (N := 3) dX1_pass_64 (by decide) rfl rfl (by decide) rfl in_X1 wf_X1_18 rfl, ?_⟩
  refine List.forall_mem_cons.mpr ⟨so_iconst dX1_pass_67 (by decide) rfl, ?_⟩
  refine List.forall_mem_cons.mpr ⟨so_iadd dX1_pass_68 rfl, ?_⟩
  refine List.forall_mem_cons.mpr ⟨so_pI (C := RX1) (T := TX1) (N := 3) dX1_pass_69 (by decide) rfl rfl (by decide) rfl in_X1 wf_X1_18 tyX1 tyX1_ok nmX1 rfl (by decide +kernel) rfl, ?_⟩
  refine List.forall_mem_cons.mpr ⟨so_iload_n dX1_pass_72 rfl rfl, ?_⟩
  refine List.forall_mem_cons.mpr ⟨so_rI dX1_pass_73 rfl, ?_⟩
  exact fun _ h => absurd h List.not_mem_nil
theorem dX4_liesOn_0 : decode cX4_liesOn 0 = .ok (.aload_n 0, 1) := by decide +kernel
theorem dX4_liesOn_1 : decode cX4_liesOn 1 = .ok (.invokevirtual 22, 3) := by decide +kernel
theorem dX4_liesOn_4 : decode cX4_liesOn 4 = .ok (.ifCond .eq 15, 3) := by decide +kernel
theorem dX4_liesOn_7 : decode cX4_liesOn 7 = .ok (.aload_n 0, 1) := by decide +kernel
theorem dX4_liesOn_8 : decode cX4_liesOn 8 = .ok (.getfield 9, 3) := by decide +kernel
theorem dX4_liesOn_11 : decode cX4_liesOn 11 = .ok (.iload_n 1, 1) := by decide +kernel
theorem dX4_liesOn_12 : decode cX4_liesOn 12 = .ok (.if_icmp .ne 7, 3) := by decide +kernel
theorem dX4_liesOn_15 : decode cX4_liesOn 15 = .ok (.iconst 1, 1) := by decide +kernel
theorem dX4_liesOn_16 : decode cX4_liesOn 16 = .ok (.goto 4, 3) := by decide +kernel
theorem dX4_liesOn_19 : decode cX4_liesOn 19 = .ok (.iconst 0, 1) := by decide +kernel
theorem dX4_liesOn_20 : decode cX4_liesOn 20 = .ok (.ireturn, 1) := by decide +kernel
def T_X4_liesOn : tk_Tb := [(0, tk_al 0 1), (1, tk_cv 4 M_X4_lies 0 4), (4, tk_br (fun x => x = 0) 19 7), (7, tk_al 0 8), (8, tk_gI 4 0 11), (11, tk_il 1 12), (12, tk_cm (fun x y => x = y) 15 19), (15, tk_ic (1) 16), (16, tk_jmp 20), (19, tk_ic (0) 20), (20, tk_rZ)]
set_option maxRecDepth 100000 in
theorem hT_X4_liesOn (sc : Option (Nat × (Nat → Int32))) : ∀ x ∈ T_X4_liesOn, tk_So sc M_X4_liesOn x.1 x.2 := by
  unfold T_X4_liesOn
  refine List.forall_mem_cons.mpr ⟨so_aload_n dX4_liesOn_0 rfl rfl, ?_⟩
  refine List.forall_mem_cons.mpr ⟨so_cv (T := TX4) (N := 3) dX4_liesOn_1 mv_X4_lies wm_X4_22 (by decide) rfl ⟨rfl, rfl⟩ (by decide) rfl, ?_⟩
  refine List.forall_mem_cons.mpr ⟨so_if_eq dX4_liesOn_4 (by decide) rfl, ?_⟩
  refine List.forall_mem_cons.mpr ⟨so_aload_n dX4_liesOn_7 rfl rfl, ?_⟩
  refine List.forall_mem_cons.mpr ⟨so_gI (C := RX4) (T := TX4) (N := 3) dX4_liesOn_8 (by decide) rfl rfl (by decide) rfl in_X4 wf_X4_9 rfl, ?_⟩
  refine List.forall_mem_cons.mpr ⟨so_iload_n dX4_liesOn_11 rfl rfl, ?_⟩
  refine List.forall_mem_cons.mpr ⟨so_icmp_ne dX4_liesOn_12 (by decide) rfl, ?_⟩
  refine List.forall_mem_cons.mpr ⟨so_iconst dX4_liesOn_15 (by decide) rfl, ?_⟩
  refine List.forall_mem_cons.mpr ⟨so_goto dX4_liesOn_16 (by decide), ?_⟩
  refine List.forall_mem_cons.mpr ⟨so_iconst dX4_liesOn_19 (by decide) rfl, ?_⟩
  refine List.forall_mem_cons.mpr ⟨so_rZ dX4_liesOn_20 rfl, ?_⟩
  exact fun _ h => absurd h List.not_mem_nil
theorem dX1_lyingOn_0 : decode cX1_lyingOn 0 = .ok (.iconst 0, 1) := by decide +kernel
theorem dX1_lyingOn_1 : decode cX1_lyingOn 1 = .ok (.istore_n 3, 1) := by decide +kernel
theorem dX1_lyingOn_2 : decode cX1_lyingOn 2 = .ok (.iconst 0, 1) := by decide +kernel
theorem dX1_lyingOn_3 : decode cX1_lyingOn 3 = .ok (.istore 4, 2) := by decide +kernel
theorem dX1_lyingOn_5 : decode cX1_lyingOn 5 = .ok (.iload 4, 2) := by decide +kernel
theorem dX1_lyingOn_7 : decode cX1_lyingOn 7 = .ok (.iload_n 2, 1) := by decide +kernel
theorem dX1_lyingOn_8 : decode cX1_lyingOn 8 = .ok (.if_icmp .ge 30, 3) := by decide +kernel
theorem dX1_lyingOn_11 : decode cX1_lyingOn 11 = .ok (.aload_n 0, 1) := by decide +kernel
theorem dX1_lyingOn_12 : decode cX1_lyingOn 12 = .ok (.getfield 11, 3) := by decide +kernel
theorem dX1_lyingOn_15 : decode cX1_lyingOn 15 = .ok (.iload 4, 2) := by decide +kernel
theorem dX1_lyingOn_17 : decode cX1_lyingOn 17 = .ok (.aaload, 1) := by decide +kernel
theorem dX1_lyingOn_18 : decode cX1_lyingOn 18 = .ok (.iload_n 1, 1) := by decide +kernel
theorem dX1_lyingOn_19 : decode cX1_lyingOn 19 = .ok (.invokevirtual 52, 3) := by decide +kernel
theorem dX1_lyingOn_22 : decode cX1_lyingOn 22 = .ok (.ifCond .eq 10, 3) := by decide +kernel
theorem dX1_lyingOn_25 : decode cX1_lyingOn 25 = .ok (.iload_n 3, 1) := by decide +kernel
theorem dX1_lyingOn_26 : decode cX1_lyingOn 26 = .ok (.iconst 1, 1) := by decide +kernel
theorem dX1_lyingOn_27 : decode cX1_lyingOn 27 = .ok (.iload 4, 2) := by decide +kernel
theorem dX1_lyingOn_29 : decode cX1_lyingOn 29 = .ok (.ishl, 1) := by decide +kernel
theorem dX1_lyingOn_30 : decode cX1_lyingOn 30 = .ok (.ior, 1) := by decide +kernel
theorem dX1_lyingOn_31 : decode cX1_lyingOn 31 = .ok (.istore_n 3, 1) := by decide +kernel
theorem dX1_lyingOn_32 : decode cX1_lyingOn 32 = .ok (.iinc 4 1, 3) := by decide +kernel
theorem dX1_lyingOn_35 : decode cX1_lyingOn 35 = .ok (.goto (-30), 3) := by decide +kernel
theorem dX1_lyingOn_38 : decode cX1_lyingOn 38 = .ok (.iload_n 3, 1) := by decide +kernel
theorem dX1_lyingOn_39 : decode cX1_lyingOn 39 = .ok (.ireturn, 1) := by decide +kernel
def T_X1_lyingOn : tk_Tb := [(0, tk_ic (0) 1), (1, tk_sI 3 2), (2, tk_ic (0) 3), (3, tk_sI 4 5), (5, tk_il 4 7), (7, tk_il 2 8), (8, tk_cm (fun x y => y ≤ x) 38 11), (11, tk_al 0 12), (12, tk_gR 1 2 15), (15, tk_il 4 17), (17, tk_aa 11 18), (18, tk_il 1 19), (19, tk_cv 4 M_X4_liesOn 1 22), (22, tk_br (fun x => x = 0) 32 25), (25, tk_il 3 26), (26, tk_ic (1) 27), (27, tk_il 4 29), (29, tk_bi (fun x y => x <<< (y &&& 31)) 30), (30, tk_bi (fun x y => x ||| y) 31), (31, tk_sI 3 32), (32, tk_inc 4 (1) 35), (35, tk_jmp 5), (38, tk_il 3 39), (39, tk_rI)]
set_option maxRecDepth 100000 in
theorem hT_X1_lyingOn (sc : Option (Nat × (Nat → Int32))) : ∀ x ∈ T_X1_lyingOn, tk_So sc M_X1_lyingOn x.1 x.2 := by
  unfold T_X1_lyingOn
  refine List.forall_mem_cons.mpr ⟨so_iconst dX1_lyingOn_0 (by decide) rfl, ?_⟩
  refine List.forall_mem_cons.mpr ⟨so_istore_n dX1_lyingOn_1 rfl rfl, ?_⟩
  refine List.forall_mem_cons.mpr ⟨so_iconst dX1_lyingOn_2 (by decide) rfl, ?_⟩
  refine List.forall_mem_cons.mpr ⟨so_istore dX1_lyingOn_3 rfl, ?_⟩
  refine List.forall_mem_cons.mpr ⟨so_iload dX1_lyingOn_5 rfl, ?_⟩
  refine List.forall_mem_cons.mpr ⟨so_iload_n dX1_lyingOn_7 rfl rfl, ?_⟩
  refine List.forall_mem_cons.mpr ⟨so_icmp_ge dX1_lyingOn_8 (by decide) rfl, ?_⟩
  refine List.forall_mem_cons.mpr ⟨so_aload_n dX1_lyingOn_11 rfl rfl, ?_⟩
  refine List.forall_mem_cons.mpr ⟨so_gR (C := RX1) (T := TX1) (N := 3) dX1_lyingOn_12 (by decide) rfl rfl (by decide) rfl in_X1 wf_X1_11 rfl, ?_⟩
  refine List.forall_mem_cons.mpr ⟨so_iload dX1_lyingOn_15 rfl, ?_⟩
  refine List.forall_mem_cons.mpr ⟨so_aaT dX1_lyingOn_17 rfl, ?_⟩
  refine List.forall_mem_cons.mpr ⟨so_iload_n dX1_lyingOn_18 rfl rfl, ?_⟩
  refine List.forall_mem_cons.mpr ⟨so_cv (T := TX4) (N := 3) dX1_lyingOn_19 mv_X4_liesOn wm_X1_52 (by decide) rfl ⟨rfl, rfl⟩ (by decide) rfl, ?_⟩
  refine List.forall_mem_cons.mpr ⟨so_if_eq dX1_lyingOn_22 (by decide) rfl, ?_⟩
  refine List.forall_mem_cons.mpr ⟨so_iload_n dX1_lyingOn_25 rfl rfl, ?_⟩
  refine List.forall_mem_cons.mpr ⟨so_iconst dX1_lyingOn_26 (by decide) rfl, ?_⟩
  refine List.forall_mem_cons.mpr ⟨so_iload dX1_lyingOn_27 rfl, ?_⟩
  refine List.forall_mem_cons.mpr ⟨so_ishl dX1_lyingOn_29 rfl, ?_⟩
  refine List.forall_mem_cons.mpr ⟨so_ior dX1_lyingOn_30 rfl, ?_⟩
  refine List.forall_mem_cons.mpr ⟨so_istore_n dX1_lyingOn_31 rfl rfl, ?_⟩
  refine List.forall_mem_cons.mpr ⟨so_iinc dX1_lyingOn_32 (by decide) rfl, ?_⟩
  refine List.forall_mem_cons.mpr ⟨so_goto dX1_lyingOn_35 (by decide), ?_⟩
  refine List.forall_mem_cons.mpr ⟨so_iload_n dX1_lyingOn_38 rfl rfl, ?_⟩
  refine List.forall_mem_cons.mpr ⟨so_rI dX1_lyingOn_39 rfl, ?_⟩
  exact fun _ h => absurd h List.not_mem_nil
theorem dX1_tiedOf_0 : decode cX1_tiedOf 0 = .ok (.iconst 0, 1) := by decide +kernel
theorem dX1_tiedOf_1 : decode cX1_tiedOf 1 = .ok (.istore_n 2, 1) := by decide +kernel
theorem dX1_tiedOf_2 : decode cX1_tiedOf 2 = .ok (.iconst 0, 1) := by decide +kernel
theorem dX1_tiedOf_3 : decode cX1_tiedOf 3 = .ok (.istore_n 3, 1) := by decide +kernel
theorem dX1_tiedOf_4 : decode cX1_tiedOf 4 = .ok (.iload_n 3, 1) := by decide +kernel
theorem dX1_tiedOf_5 : decode cX1_tiedOf 5 = .ok (.iload_n 1, 1) := by decide +kernel
theorem dX1_tiedOf_6 : decode cX1_tiedOf 6 = .ok (.if_icmp .ge 24, 3) := by decide +kernel
theorem dX1_tiedOf_9 : decode cX1_tiedOf 9 = .ok (.aload_n 0, 1) := by decide +kernel
theorem dX1_tiedOf_10 : decode cX1_tiedOf 10 = .ok (.getfield 11, 3) := by decide +kernel
theorem dX1_tiedOf_13 : decode cX1_tiedOf 13 = .ok (.iload_n 3, 1) := by decide +kernel
theorem dX1_tiedOf_14 : decode cX1_tiedOf 14 = .ok (.aaload, 1) := by decide +kernel
theorem dX1_tiedOf_15 : decode cX1_tiedOf 15 = .ok (.getfield 56, 3) := by decide +kernel
theorem dX1_tiedOf_18 : decode cX1_tiedOf 18 = .ok (.ifCond .eq 6, 3) := by decide +kernel
theorem dX1_tiedOf_21 : decode cX1_tiedOf 21 = .ok (.iinc 2 1, 3) := by decide +kernel
theorem dX1_tiedOf_24 : decode cX1_tiedOf 24 = .ok (.iinc 3 1, 3) := by decide +kernel
theorem dX1_tiedOf_27 : decode cX1_tiedOf 27 = .ok (.goto (-23), 3) := by decide +kernel
theorem dX1_tiedOf_30 : decode cX1_tiedOf 30 = .ok (.iload_n 2, 1) := by decide +kernel
theorem dX1_tiedOf_31 : decode cX1_tiedOf 31 = .ok (.ireturn, 1) := by decide +kernel
def T_X1_tiedOf : tk_Tb := [(0, tk_ic (0) 1), (1, tk_sI 2 2), (2, tk_ic (0) 3), (3, tk_sI 3 4), (4, tk_il 3 5), (5, tk_il 1 6), (6, tk_cm (fun x y => y ≤ x) 30 9), (9, tk_al 0 10), (10, tk_gR 1 2 13), (13, tk_il 3 14), (14, tk_aa 11 15), (15, tk_gI 4 2 18), (18, tk_br (fun x => x = 0) 24 21), (21, tk_inc 2 (1) 24), (24, tk_inc 3 (1) 27), (27, tk_jmp 4), (30, tk_il 2 31), (31, tk_rI)]
set_option maxRecDepth 100000 in
theorem hT_X1_tiedOf (sc : Option (Nat × (Nat → Int32))) : ∀ x ∈ T_X1_tiedOf, tk_So sc M_X1_tiedOf x.1 x.2 := by
  unfold T_X1_tiedOf
  refine List.forall_mem_cons.mpr ⟨so_iconst dX1_tiedOf_0 (by decide) rfl, ?_⟩
  refine List.forall_mem_cons.mpr ⟨so_istore_n dX1_tiedOf_1 rfl rfl, ?_⟩
  refine List.forall_mem_cons.mpr ⟨so_iconst dX1_tiedOf_2 (by decide) rfl, ?_⟩
  refine List.forall_mem_cons.mpr ⟨so_istore_n dX1_tiedOf_3 rfl rfl, ?_⟩
  refine List.forall_mem_cons.mpr ⟨so_iload_n dX1_tiedOf_4 rfl rfl, ?_⟩
  refine List.forall_mem_cons.mpr ⟨so_iload_n dX1_tiedOf_5 rfl rfl, ?_⟩
  refine List.forall_mem_cons.mpr ⟨so_icmp_ge dX1_tiedOf_6 (by decide) rfl, ?_⟩
  refine List.forall_mem_cons.mpr ⟨so_aload_n dX1_tiedOf_9 rfl rfl, ?_⟩
  refine List.forall_mem_cons.mpr ⟨so_gR (C := RX1) (T := TX1) (N := 3) dX1_tiedOf_10 (by decide) rfl rfl (by decide) rfl in_X1 wf_X1_11 rfl, ?_⟩
  refine List.forall_mem_cons.mpr ⟨so_iload_n dX1_tiedOf_13 rfl rfl, ?_⟩
  refine List.forall_mem_cons.mpr ⟨so_aaT dX1_tiedOf_14 rfl, ?_⟩
  refine List.forall_mem_cons.mpr ⟨so_gI (C := RX4) (T := TX4) (N := 3) dX1_tiedOf_15 (by decide) rfl rfl (by decide) rfl in_X4 wf_X1_56 rfl, ?_⟩
  refine List.forall_mem_cons.mpr ⟨so_if_eq dX1_tiedOf_18 (by decide) rfl, ?_⟩
  refine List.forall_mem_cons.mpr ⟨so_iinc dX1_tiedOf_21 (by decide) rfl, ?_⟩
  refine List.forall_mem_cons.mpr ⟨so_iinc dX1_tiedOf_24 (by decide) rfl, ?_⟩
  refine List.forall_mem_cons.mpr ⟨so_goto dX1_tiedOf_27 (by decide), ?_⟩
  refine List.forall_mem_cons.mpr ⟨so_iload_n dX1_tiedOf_30 rfl rfl, ?_⟩
  refine List.forall_mem_cons.mpr ⟨so_rI dX1_tiedOf_31 rfl, ?_⟩
  exact fun _ h => absurd h List.not_mem_nil
theorem dX1_saveTo_0 : decode cX1_saveTo 0 = .ok (.aload_n 1, 1) := by decide +kernel
theorem dX1_saveTo_1 : decode cX1_saveTo 1 = .ok (.iconst 0, 1) := by decide +kernel
theorem dX1_saveTo_2 : decode cX1_saveTo 2 = .ok (.aload_n 0, 1) := by decide +kernel
theorem dX1_saveTo_3 : decode cX1_saveTo 3 = .ok (.getfield 18, 3) := by decide +kernel
theorem dX1_saveTo_6 : decode cX1_saveTo 6 = .ok (.iastore, 1) := by decide +kernel
theorem dX1_saveTo_7 : decode cX1_saveTo 7 = .ok (.aload_n 1, 1) := by decide +kernel
theorem dX1_saveTo_8 : decode cX1_saveTo 8 = .ok (.iconst 1, 1) := by decide +kernel
theorem dX1_saveTo_9 : decode cX1_saveTo 9 = .ok (.aload_n 0, 1) := by decide +kernel
theorem dX1_saveTo_10 : decode cX1_saveTo 10 = .ok (.getfield 22, 3) := by decide +kernel
theorem dX1_saveTo_13 : decode cX1_saveTo 13 = .ok (.iastore, 1) := by decide +kernel
theorem dX1_saveTo_14 : decode cX1_saveTo 14 = .ok (.iconst 0, 1) := by decide +kernel
theorem dX1_saveTo_15 : decode cX1_saveTo 15 = .ok (.istore_n 2, 1) := by decide +kernel
theorem dX1_saveTo_16 : decode cX1_saveTo 16 = .ok (.iload_n 2, 1) := by decide +kernel
theorem dX1_saveTo_17 : decode cX1_saveTo 17 = .ok (.iconst 5, 1) := by decide +kernel
theorem dX1_saveTo_18 : decode cX1_saveTo 18 = .ok (.if_icmp .ge 57, 3) := by decide +kernel
theorem dX1_saveTo_21 : decode cX1_saveTo 21 = .ok (.aload_n 0, 1) := by decide +kernel
theorem dX1_saveTo_22 : decode cX1_saveTo 22 = .ok (.getfield 11, 3) := by decide +kernel
theorem dX1_saveTo_25 : decode cX1_saveTo 25 = .ok (.iload_n 2, 1) := by decide +kernel
theorem dX1_saveTo_26 : decode cX1_saveTo 26 = .ok (.aaload, 1) := by decide +kernel
theorem dX1_saveTo_27 : decode cX1_saveTo 27 = .ok (.astore_n 3, 1) := by decide +kernel
theorem dX1_saveTo_28 : decode cX1_saveTo 28 = .ok (.aload_n 1, 1) := by decide +kernel
theorem dX1_saveTo_29 : decode cX1_saveTo 29 = .ok (.iconst 2, 1) := by decide +kernel
theorem dX1_saveTo_30 : decode cX1_saveTo 30 = .ok (.iconst 3, 1) := by decide +kernel
theorem dX1_saveTo_31 : decode cX1_saveTo 31 = .ok (.iload_n 2, 1) := by decide +kernel
theorem dX1_saveTo_32 : decode cX1_saveTo 32 = .ok (.imul, 1) := by decide +kernel
theorem dX1_saveTo_33 : decode cX1_saveTo 33 = .ok (.iadd, 1) := by decide +kernel
theorem dX1_saveTo_34 : decode cX1_saveTo 34 = .ok (.aload_n 3, 1) := by decide +kernel
theorem dX1_saveTo_35 : decode cX1_saveTo 35 = .ok (.getfield 60, 3) := by decide +kernel
theorem dX1_saveTo_38 : decode cX1_saveTo 38 = .ok (.iastore, 1) := by decide +kernel
theorem dX1_saveTo_39 : decode cX1_saveTo 39 = .ok (.aload_n 1, 1) := by decide +kernel
theorem dX1_saveTo_40 : decode cX1_saveTo 40 = .ok (.iconst 3, 1) := by decide +kernel
theorem dX1_saveTo_41 : decode cX1_saveTo 41 = .ok (.iconst 3, 1) := by decide +kernel
theorem dX1_saveTo_42 : decode cX1_saveTo 42 = .ok (.iload_n 2, 1) := by decide +kernel
theorem dX1_saveTo_43 : decode cX1_saveTo 43 = .ok (.imul, 1) := by decide +kernel
theorem dX1_saveTo_44 : decode cX1_saveTo 44 = .ok (.iadd, 1) := by decide +kernel
theorem dX1_saveTo_45 : decode cX1_saveTo 45 = .ok (.aload_n 3, 1) := by decide +kernel
theorem dX1_saveTo_46 : decode cX1_saveTo 46 = .ok (.getfield 63, 3) := by decide +kernel
theorem dX1_saveTo_49 : decode cX1_saveTo 49 = .ok (.iastore, 1) := by decide +kernel
theorem dX1_saveTo_50 : decode cX1_saveTo 50 = .ok (.aload_n 1, 1) := by decide +kernel
theorem dX1_saveTo_51 : decode cX1_saveTo 51 = .ok (.iconst 4, 1) := by decide +kernel
theorem dX1_saveTo_52 : decode cX1_saveTo 52 = .ok (.iconst 3, 1) := by decide +kernel
theorem dX1_saveTo_53 : decode cX1_saveTo 53 = .ok (.iload_n 2, 1) := by decide +kernel
theorem dX1_saveTo_54 : decode cX1_saveTo 54 = .ok (.imul, 1) := by decide +kernel
theorem dX1_saveTo_55 : decode cX1_saveTo 55 = .ok (.iadd, 1) := by decide +kernel
theorem dX1_saveTo_56 : decode cX1_saveTo 56 = .ok (.aload_n 3, 1) := by decide +kernel
theorem dX1_saveTo_57 : decode cX1_saveTo 57 = .ok (.getfield 56, 3) := by decide +kernel
theorem dX1_saveTo_60 : decode cX1_saveTo 60 = .ok (.ifCond .eq 7, 3) := by decide +kernel
theorem dX1_saveTo_63 : decode cX1_saveTo 63 = .ok (.iconst 1, 1) := by decide +kernel
theorem dX1_saveTo_64 : decode cX1_saveTo 64 = .ok (.goto 4, 3) := by decide +kernel
theorem dX1_saveTo_67 : decode cX1_saveTo 67 = .ok (.iconst 0, 1) := by decide +kernel
theorem dX1_saveTo_68 : decode cX1_saveTo 68 = .ok (.iastore, 1) := by decide +kernel
theorem dX1_saveTo_69 : decode cX1_saveTo 69 = .ok (.iinc 2 1, 3) := by decide +kernel
theorem dX1_saveTo_72 : decode cX1_saveTo 72 = .ok (.goto (-56), 3) := by decide +kernel
theorem dX1_saveTo_75 : decode cX1_saveTo 75 = .ok (.return_, 1) := by decide +kernel
def T_X1_saveTo : tk_Tb := [(0, tk_al 1 1), (1, tk_ic (0) 2), (2, tk_al 0 3), (3, tk_gI 1 0 6), (6, tk_si 9 (fun x => x) 7), (7, tk_al 1 8), (8, tk_ic (1) 9), (9, tk_al 0 10), (10, tk_gI 1 1 13), (13, tk_si 9 (fun x => x) 14), (14, tk_ic (0) 15), (15, tk_sI 2 16), (16, tk_il 2 17), (17, tk_ic (5) 18), (18, tk_cm (fun x y => y ≤ x) 75 21), (21, tk_al 0 22), (22, tk_gR 1 2 25), (25, tk_il 2 26), (26, tk_aa 11 27), (27, tk_sA 3 28), (28, tk_al 1 29), (29, tk_ic (2) 30), (30, tk_ic (3) 31), (31, tk_il 2 32), (32, tk_bi (fun x y => x * y) 33), (33, tk_bi (fun x y => x + y) 34), (34, tk_al 3 35), (35, tk_gI 4 0 38), (38, tk_si 9 (fun x => x) 39), (39, tk_al 1 40), (40, tk_ic (3) 41), (41, tk_ic (3) 42), (42, tk_il 2 43), (43, tk_bi (fun x y => x * y) 44), (44, tk_bi (fun x y => x + y) 45), (45, tk_al 3 46), (46, tk_gI 4 1 49), (49, tk_si 9 (fun x => x) 50), (50, tk_al 1 51), (51, tk_ic (4) 52), (52, tk_ic (3) 53), (53, tk_il 2 54), (54, tk_bi (fun x y => x * y) 55), (55, tk_bi (fun x y => x + y) 56), (56, tk_al 3 57), (57, tk_gI 4 2 60), (60, tk_br (fun x => x = 0) 67 63), (63, tk_ic (1) 64), (64, tk_jmp 68), (67, tk_ic (0) 68), (68, tk_si 9 (fun x => x) 69), (69, tk_inc 2 (1) 72), (72, tk_jmp 16), (75, tk_rV)]
set_option maxRecDepth 100000 in
theorem hT_X1_saveTo (sc : Option (Nat × (Nat → Int32))) : ∀ x ∈ T_X1_saveTo, tk_So sc M_X1_saveTo x.1 x.2 := by
  unfold T_X1_saveTo
  refine List.forall_mem_cons.mpr ⟨so_aload_n dX1_saveTo_0 rfl rfl, ?_⟩
  refine List.forall_mem_cons.mpr ⟨so_iconst dX1_saveTo_1 (by decide) rfl, ?_⟩
  refine List.forall_mem_cons.mpr ⟨so_aload_n dX1_saveTo_2 rfl rfl, ?_⟩
  refine List.forall_mem_cons.mpr ⟨so_gI (C := RX1) (T := TX1) (N := 3) dX1_saveTo_3 (by decide) rfl rfl (by decide) rfl in_X1 wf_X1_18 rfl, ?_⟩
  refine List.forall_mem_cons.mpr ⟨so_iastore dX1_saveTo_6 rfl, ?_⟩
  refine List.forall_mem_cons.mpr ⟨so_aload_n dX1_saveTo_7 rfl rfl, ?_⟩
  refine List.forall_mem_cons.mpr ⟨so_iconst dX1_saveTo_8 (by decide) rfl, ?_⟩
  refine List.forall_mem_cons.mpr ⟨so_aload_n dX1_saveTo_9 rfl rfl, ?_⟩
  refine List.forall_mem_cons.mpr ⟨so_gI (C := RX1) (T := TX1) (N := 3) dX1_saveTo_10 (by decide) rfl rfl (by decide) rfl in_X1 wf_X1_22 rfl, ?_⟩
  refine List.forall_mem_cons.mpr ⟨so_iastore dX1_saveTo_13 rfl, ?_⟩
  refine List.forall_mem_cons.mpr ⟨so_iconst dX1_saveTo_14 (by decide) rfl, ?_⟩
  refine List.forall_mem_cons.mpr ⟨so_istore_n dX1_saveTo_15 rfl rfl, ?_⟩
  refine List.forall_mem_cons.mpr ⟨so_iload_n dX1_saveTo_16 rfl rfl, ?_⟩
  refine List.forall_mem_cons.mpr ⟨so_iconst dX1_saveTo_17 (by decide) rfl, ?_⟩
  refine List.forall_mem_cons.mpr ⟨so_icmp_ge dX1_saveTo_18 (by decide) rfl, ?_⟩
  refine List.forall_mem_cons.mpr ⟨so_aload_n dX1_saveTo_21 rfl rfl, ?_⟩
  refine List.forall_mem_cons.mpr ⟨so_gR (C := RX1) (T := TX1) (N := 3) dX1_saveTo_22 (by decide) rfl rfl (by decide) rfl in_X1 wf_X1_11 rfl, ?_⟩
  refine List.forall_mem_cons.mpr ⟨so_iload_n dX1_saveTo_25 rfl rfl, ?_⟩
  refine List.forall_mem_cons.mpr ⟨so_aaT dX1_saveTo_26 rfl, ?_⟩
  refine List.forall_mem_cons.mpr ⟨so_astore_n dX1_saveTo_27 rfl rfl, ?_⟩
  refine List.forall_mem_cons.mpr ⟨so_aload_n dX1_saveTo_28 rfl rfl, ?_⟩
  refine List.forall_mem_cons.mpr ⟨so_iconst dX1_saveTo_29 (by decide) rfl, ?_⟩
  refine List.forall_mem_cons.mpr ⟨so_iconst dX1_saveTo_30 (by decide) rfl, ?_⟩
  refine List.forall_mem_cons.mpr ⟨so_iload_n dX1_saveTo_31 rfl rfl, ?_⟩
  refine List.forall_mem_cons.mpr ⟨so_imul dX1_saveTo_32 rfl, ?_⟩
  refine List.forall_mem_cons.mpr ⟨so_iadd dX1_saveTo_33 rfl, ?_⟩
  refine List.forall_mem_cons.mpr ⟨so_aload_n dX1_saveTo_34 rfl rfl, ?_⟩
  refine List.forall_mem_cons.mpr ⟨so_gI (C := RX4) (T := TX4) (N := 3) dX1_saveTo_35 (by decide) rfl rfl (by decide) rfl in_X4 wf_X1_60 rfl, ?_⟩
  refine List.forall_mem_cons.mpr ⟨so_iastore dX1_saveTo_38 rfl, ?_⟩
  refine List.forall_mem_cons.mpr ⟨so_aload_n dX1_saveTo_39 rfl rfl, ?_⟩
  refine List.forall_mem_cons.mpr ⟨so_iconst dX1_saveTo_40 (by decide) rfl, ?_⟩
  refine List.forall_mem_cons.mpr ⟨so_iconst dX1_saveTo_41 (by decide) rfl, ?_⟩
  refine List.forall_mem_cons.mpr ⟨so_iload_n dX1_saveTo_42 rfl rfl, ?_⟩
  refine List.forall_mem_cons.mpr ⟨so_imul dX1_saveTo_43 rfl, ?_⟩
  refine List.forall_mem_cons.mpr ⟨so_iadd dX1_saveTo_44 rfl, ?_⟩
  refine List.forall_mem_cons.mpr ⟨so_aload_n dX1_saveTo_45 rfl rfl, ?_⟩
  refine List.forall_mem_cons.mpr ⟨so_gI (C := RX4) (T := TX4) (N := 3) dX1_saveTo_46 (by decide) rfl rfl (by decide) rfl in_X4 wf_X1_63 rfl, ?_⟩
  refine List.forall_mem_cons.mpr ⟨so_iastore dX1_saveTo_49 rfl, ?_⟩
  refine List.forall_mem_cons.mpr ⟨so_aload_n dX1_saveTo_50 rfl rfl, ?_⟩
  refine List.forall_mem_cons.mpr ⟨so_iconst dX1_saveTo_51 (by decide) rfl, ?_⟩
  refine List.forall_mem_cons.mpr ⟨so_iconst dX1_saveTo_52 (by decide) rfl, ?_⟩
  refine List.forall_mem_cons.mpr ⟨so_iload_n dX1_saveTo_53 rfl rfl, ?_⟩
  refine List.forall_mem_cons.mpr ⟨so_imul dX1_saveTo_54 rfl, ?_⟩
  refine List.forall_mem_cons.mpr ⟨so_iadd dX1_saveTo_55 rfl, ?_⟩
  refine List.forall_mem_cons.mpr ⟨so_aload_n dX1_saveTo_56 rfl rfl, ?_⟩
  refine List.forall_mem_cons.mpr ⟨so_gI (C := RX4) (T := TX4) (N := 3) dX1_saveTo_57 (by decide) rfl rfl (by decide) rfl in_X4 wf_X1_56 rfl, ?_⟩
  refine List.forall_mem_cons.mpr ⟨so_if_eq dX1_saveTo_60 (by decide) rfl, ?_⟩
  refine List.forall_mem_cons.mpr ⟨so_iconst dX1_saveTo_63 (by decide) rfl, ?_⟩
  refine List.forall_mem_cons.mpr ⟨so_goto dX1_saveTo_64 (by decide), ?_⟩
  refine List.forall_mem_cons.mpr ⟨so_iconst dX1_saveTo_67 (by decide) rfl, ?_⟩
  refine List.forall_mem_cons.mpr ⟨so_iastore dX1_saveTo_68 rfl, ?_⟩
  refine List.forall_mem_cons.mpr ⟨so_iinc dX1_saveTo_69 (by decide) rfl, ?_⟩
  refine List.forall_mem_cons.mpr ⟨so_goto dX1_saveTo_72 (by decide), ?_⟩
  refine List.forall_mem_cons.mpr ⟨so_rV dX1_saveTo_75 rfl, ?_⟩
  exact fun _ h => absurd h List.not_mem_nil
theorem dX1_loadFrom_0 : decode cX1_loadFrom 0 = .ok (.aload_n 0, 1) := by decide +kernel
theorem dX1_loadFrom_1 : decode cX1_loadFrom 1 = .ok (.aload_n 1, 1) := by decide +kernel
theorem dX1_loadFrom_2 : decode cX1_loadFrom 2 = .ok (.iconst 0, 1) := by decide +kernel
theorem dX1_loadFrom_3 : decode cX1_loadFrom 3 = .ok (.iaload, 1) := by decide +kernel
theorem dX1_loadFrom_4 : decode cX1_loadFrom 4 = .ok (.putfield 18, 3) := by decide +kernel
theorem dX1_loadFrom_7 : decode cX1_loadFrom 7 = .ok (.aload_n 0, 1) := by decide +kernel
theorem dX1_loadFrom_8 : decode cX1_loadFrom 8 = .ok (.aload_n 1, 1) := by decide +kernel
theorem dX1_loadFrom_9 : decode cX1_loadFrom 9 = .ok (.iconst 1, 1) := by decide +kernel
theorem dX1_loadFrom_10 : decode cX1_loadFrom 10 = .ok (.iaload, 1) := by decide +kernel
theorem dX1_loadFrom_11 : decode cX1_loadFrom 11 = .ok (.putfield 22, 3) := by decide +kernel
theorem dX1_loadFrom_14 : decode cX1_loadFrom 14 = .ok (.iconst 0, 1) := by decide +kernel
theorem dX1_loadFrom_15 : decode cX1_loadFrom 15 = .ok (.istore_n 2, 1) := by decide +kernel
theorem dX1_loadFrom_16 : decode cX1_loadFrom 16 = .ok (.iload_n 2, 1) := by decide +kernel
theorem dX1_loadFrom_17 : decode cX1_loadFrom 17 = .ok (.iconst 5, 1) := by decide +kernel
theorem dX1_loadFrom_18 : decode cX1_loadFrom 18 = .ok (.if_icmp .ge 58, 3) := by decide +kernel
theorem dX1_loadFrom_21 : decode cX1_loadFrom 21 = .ok (.aload_n 0, 1) := by decide +kernel
theorem dX1_loadFrom_22 : decode cX1_loadFrom 22 = .ok (.getfield 11, 3) := by decide +kernel
theorem dX1_loadFrom_25 : decode cX1_loadFrom 25 = .ok (.iload_n 2, 1) := by decide +kernel
theorem dX1_loadFrom_26 : decode cX1_loadFrom 26 = .ok (.aaload, 1) := by decide +kernel
theorem dX1_loadFrom_27 : decode cX1_loadFrom 27 = .ok (.astore_n 3, 1) := by decide +kernel
theorem dX1_loadFrom_28 : decode cX1_loadFrom 28 = .ok (.aload_n 3, 1) := by decide +kernel
theorem dX1_loadFrom_29 : decode cX1_loadFrom 29 = .ok (.aload_n 1, 1) := by decide +kernel
theorem dX1_loadFrom_30 : decode cX1_loadFrom 30 = .ok (.iconst 2, 1) := by decide +kernel
theorem dX1_loadFrom_31 : decode cX1_loadFrom 31 = .ok (.iconst 3, 1) := by decide +kernel
theorem dX1_loadFrom_32 : decode cX1_loadFrom 32 = .ok (.iload_n 2, 1) := by decide +kernel
theorem dX1_loadFrom_33 : decode cX1_loadFrom 33 = .ok (.imul, 1) := by decide +kernel
theorem dX1_loadFrom_34 : decode cX1_loadFrom 34 = .ok (.iadd, 1) := by decide +kernel
theorem dX1_loadFrom_35 : decode cX1_loadFrom 35 = .ok (.iaload, 1) := by decide +kernel
theorem dX1_loadFrom_36 : decode cX1_loadFrom 36 = .ok (.putfield 60, 3) := by decide +kernel
theorem dX1_loadFrom_39 : decode cX1_loadFrom 39 = .ok (.aload_n 3, 1) := by decide +kernel
theorem dX1_loadFrom_40 : decode cX1_loadFrom 40 = .ok (.aload_n 1, 1) := by decide +kernel
theorem dX1_loadFrom_41 : decode cX1_loadFrom 41 = .ok (.iconst 3, 1) := by decide +kernel
theorem dX1_loadFrom_42 : decode cX1_loadFrom 42 = .ok (.iconst 3, 1) := by decide +kernel
theorem dX1_loadFrom_43 : decode cX1_loadFrom 43 = .ok (.iload_n 2, 1) := by decide +kernel
theorem dX1_loadFrom_44 : decode cX1_loadFrom 44 = .ok (.imul, 1) := by decide +kernel
theorem dX1_loadFrom_45 : decode cX1_loadFrom 45 = .ok (.iadd, 1) := by decide +kernel
theorem dX1_loadFrom_46 : decode cX1_loadFrom 46 = .ok (.iaload, 1) := by decide +kernel
theorem dX1_loadFrom_47 : decode cX1_loadFrom 47 = .ok (.putfield 63, 3) := by decide +kernel
theorem dX1_loadFrom_50 : decode cX1_loadFrom 50 = .ok (.aload_n 3, 1) := by decide +kernel
theorem dX1_loadFrom_51 : decode cX1_loadFrom 51 = .ok (.aload_n 1, 1) := by decide +kernel
theorem dX1_loadFrom_52 : decode cX1_loadFrom 52 = .ok (.iconst 4, 1) := by decide +kernel
theorem dX1_loadFrom_53 : decode cX1_loadFrom 53 = .ok (.iconst 3, 1) := by decide +kernel
theorem dX1_loadFrom_54 : decode cX1_loadFrom 54 = .ok (.iload_n 2, 1) := by decide +kernel
theorem dX1_loadFrom_55 : decode cX1_loadFrom 55 = .ok (.imul, 1) := by decide +kernel
theorem dX1_loadFrom_56 : decode cX1_loadFrom 56 = .ok (.iadd, 1) := by decide +kernel
theorem dX1_loadFrom_57 : decode cX1_loadFrom 57 = .ok (.iaload, 1) := by decide +kernel
theorem dX1_loadFrom_58 : decode cX1_loadFrom 58 = .ok (.iconst 1, 1) := by decide +kernel
theorem dX1_loadFrom_59 : decode cX1_loadFrom 59 = .ok (.if_icmp .ne 7, 3) := by decide +kernel
theorem dX1_loadFrom_62 : decode cX1_loadFrom 62 = .ok (.iconst 1, 1) := by decide +kernel
theorem dX1_loadFrom_63 : decode cX1_loadFrom 63 = .ok (.goto 4, 3) := by decide +kernel
theorem dX1_loadFrom_66 : decode cX1_loadFrom 66 = .ok (.iconst 0, 1) := by decide +kernel
theorem dX1_loadFrom_67 : decode cX1_loadFrom 67 = .ok (.putfield 56, 3) := by decide +kernel
theorem dX1_loadFrom_70 : decode cX1_loadFrom 70 = .ok (.iinc 2 1, 3) := by decide +kernel
theorem dX1_loadFrom_73 : decode cX1_loadFrom 73 = .ok (.goto (-57), 3) := by decide +kernel
theorem dX1_loadFrom_76 : decode cX1_loadFrom 76 = .ok (.return_, 1) := by decide +kernel
def T_X1_loadFrom : tk_Tb := [(0, tk_al 0 1), (1, tk_al 1 2), (2, tk_ic (0) 3), (3, tk_ai 9 4), (4, tk_pI 1 0 7), (7, tk_al 0 8), (8, tk_al 1 9), (9, tk_ic (1) 10), (10, tk_ai 9 11), (11, tk_pI 1 1 14), (14, tk_ic (0) 15), (15, tk_sI 2 16), (16, tk_il 2 17), (17, tk_ic (5) 18), (18, tk_cm (fun x y => y ≤ x) 76 21), (21, tk_al 0 22), (22, tk_gR 1 2 25), (25, tk_il 2 26), (26, tk_aa 11 27), (27, tk_sA 3 28), (28, tk_al 3 29), (29, tk_al 1 30), (30, tk_ic (2) 31), (31, tk_ic (3) 32), (32, tk_il 2 33), (33, tk_bi (fun x y => x * y) 34), (34, tk_bi (fun x y => x + y) 35), (35, tk_ai 9 36), (36, tk_pI 4 0 39), (39, tk_al 3 40), (40, tk_al 1 41), (41, tk_ic (3) 42), (42, tk_ic (3) 43), (43, tk_il 2 44), (44, tk_bi (fun x y => x * y) 45), (45, tk_bi (fun x y => x + y) 46), (46, tk_ai 9 47), (47, tk_pI 4 1 50), (50, tk_al 3 51), (51, tk_al 1 52), (52, tk_ic (4) 53), (53, tk_ic (3) 54), (54, tk_il 2 55), (55, tk_bi (fun x y => x * y) 56), (56, tk_bi (fun x y => x + y) 57), (57, tk_ai 9 58), (58, tk_ic (1) 59), (59, tk_cm (fun x y => x = y) 62 66), (62, tk_ic (1) 63), (63, tk_jmp 67), (66, tk_ic (0) 67), (67, tk_pZ 4 2 70), (70, tk_inc 2 (1) 73), (73, tk_jmp 16), (76, tk_rV)]
set_option maxRecDepth 100000 in
theorem hT_X1_loadFrom (sc : Option (Nat × (Nat → Int32))) : ∀ x ∈ T_X1_loadFrom, tk_So sc M_X1_loadFrom x.1 x.2 := by
  unfold T_X1_loadFrom
  refine List.forall_mem_cons.mpr ⟨so_aload_n dX1_loadFrom_0 rfl rfl, ?_⟩
  refine List.forall_mem_cons.mpr ⟨so_aload_n dX1_loadFrom_1 rfl rfl, ?_⟩
  refine List.forall_mem_cons.mpr ⟨so_iconst dX1_loadFrom_2 (by decide) rfl, ?_⟩
  refine List.forall_mem_cons.mpr ⟨so_iaload dX1_loadFrom_3 rfl, ?_⟩
  refine List.forall_mem_cons.mpr ⟨so_pI (C := RX1) (T := TX1) (N := 3) dX1_loadFrom_4 (by decide) rfl rfl (by decide) rfl in_X1 wf_X1_18 tyX1 tyX1_ok nmX1 rfl (by decide +kernel) rfl, ?_⟩
  refine List.forall_mem_cons.mpr ⟨so_aload_n dX1_loadFrom_7 rfl rfl, ?_⟩
  refine List.forall_mem_cons.mpr ⟨so_aload_n dX1_loadFrom_8 rfl rfl, ?_⟩
  refine List.forall_mem_cons.mpr ⟨so_iconst dX1_loadFrom_9 (by decide) rfl, ?_⟩
  refine List.forall_mem_cons.mpr ⟨so_iaload dX1_loadFrom_10 rfl, ?_⟩
  refine List.forall_mem_cons.mpr ⟨so_pI (C := RX1) (T := TX1) (N := 3) dX1_loadFrom_11 (by decide) rfl rfl (by decide) rfl in_X1 wf_X1_22 tyX1 tyX1_ok nmX1 rfl (by decide +kernel) rfl, ?_⟩
  refine List.forall_mem_cons.mpr ⟨so_iconst dX1_loadFrom_14 (by decide) rfl, ?_⟩
  refine List.forall_mem_cons.mpr ⟨so_istore_n dX1_loadFrom_15 rfl rfl, ?_⟩
  refine List.forall_mem_cons.mpr ⟨so_iload_n dX1_loadFrom_16 rfl rfl, ?_⟩
  refine List.forall_mem_cons.mpr ⟨so_iconst dX1_loadFrom_17 (by decide) rfl, ?_⟩
  refine List.forall_mem_cons.mpr ⟨so_icmp_ge dX1_loadFrom_18 (by decide) rfl, ?_⟩
  refine List.forall_mem_cons.mpr ⟨so_aload_n dX1_loadFrom_21 rfl rfl, ?_⟩
  refine List.forall_mem_cons.mpr ⟨so_gR (C := RX1) (T := TX1) (N := 3) dX1_loadFrom_22 (by decide) rfl rfl (by decide) rfl in_X1 wf_X1_11 rfl, ?_⟩
  refine List.forall_mem_cons.mpr ⟨so_iload_n dX1_loadFrom_25 rfl rfl, ?_⟩
  refine List.forall_mem_cons.mpr ⟨so_aaT dX1_loadFrom_26 rfl, ?_⟩
  refine List.forall_mem_cons.mpr ⟨so_astore_n dX1_loadFrom_27 rfl rfl, ?_⟩
  refine List.forall_mem_cons.mpr ⟨so_aload_n dX1_loadFrom_28 rfl rfl, ?_⟩
  refine List.forall_mem_cons.mpr ⟨so_aload_n dX1_loadFrom_29 rfl rfl, ?_⟩
  refine List.forall_mem_cons.mpr ⟨so_iconst dX1_loadFrom_30 (by decide) rfl, ?_⟩
  refine List.forall_mem_cons.mpr ⟨so_iconst dX1_loadFrom_31 (by decide) rfl, ?_⟩
  refine List.forall_mem_cons.mpr ⟨so_iload_n dX1_loadFrom_32 rfl rfl, ?_⟩
  refine List.forall_mem_cons.mpr ⟨so_imul dX1_loadFrom_33 rfl, ?_⟩
  refine List.forall_mem_cons.mpr ⟨so_iadd dX1_loadFrom_34 rfl, ?_⟩
  refine List.forall_mem_cons.mpr ⟨so_iaload dX1_loadFrom_35 rfl, ?_⟩
  refine List.forall_mem_cons.mpr ⟨so_pI (C := RX4) (T := TX4) (N := 3) dX1_loadFrom_36 (by decide) rfl rfl (by decide) rfl in_X4 wf_X1_60 tyX4 tyX4_ok nmX4 rfl (by decide +kernel) rfl, ?_⟩
  refine List.forall_mem_cons.mpr ⟨so_aload_n dX1_loadFrom_39 rfl rfl, ?_⟩
  refine List.forall_mem_cons.mpr ⟨so_aload_n dX1_loadFrom_40 rfl rfl, ?_⟩
  refine List.forall_mem_cons.mpr ⟨so_iconst dX1_loadFrom_41 (by decide) rfl, ?_⟩
  refine List.forall_mem_cons.mpr ⟨so_iconst dX1_loadFrom_42 (by decide) rfl, ?_⟩
  refine List.forall_mem_cons.mpr ⟨so_iload_n dX1_loadFrom_43 rfl rfl, ?_⟩
  refine List.forall_mem_cons.mpr ⟨so_imul dX1_loadFrom_44 rfl, ?_⟩
  refine List.forall_mem_cons.mpr ⟨so_iadd dX1_loadFrom_45 rfl, ?_⟩
  refine List.forall_mem_cons.mpr ⟨so_iaload dX1_loadFrom_46 rfl, ?_⟩
  refine List.forall_mem_cons.mpr ⟨so_pI (C := RX4) (T := TX4) (N := 3) dX1_loadFrom_47 (by decide) rfl rfl (by decide) rfl in_X4 wf_X1_63 tyX4 tyX4_ok nmX4 rfl (by decide +kernel) rfl, ?_⟩
  refine List.forall_mem_cons.mpr ⟨so_aload_n dX1_loadFrom_50 rfl rfl, ?_⟩
  refine List.forall_mem_cons.mpr ⟨so_aload_n dX1_loadFrom_51 rfl rfl, ?_⟩
  refine List.forall_mem_cons.mpr ⟨so_iconst dX1_loadFrom_52 (by decide) rfl, ?_⟩
  refine List.forall_mem_cons.mpr ⟨so_iconst dX1_loadFrom_53 (by decide) rfl, ?_⟩
  refine List.forall_mem_cons.mpr ⟨so_iload_n dX1_loadFrom_54 rfl rfl, ?_⟩
  refine List.forall_mem_cons.mpr ⟨so_imul dX1_loadFrom_55 rfl, ?_⟩
  refine List.forall_mem_cons.mpr ⟨so_iadd dX1_loadFrom_56 rfl, ?_⟩
  refine List.forall_mem_cons.mpr ⟨so_iaload dX1_loadFrom_57 rfl, ?_⟩
  refine List.forall_mem_cons.mpr ⟨so_iconst dX1_loadFrom_58 (by decide) rfl, ?_⟩
  refine List.forall_mem_cons.mpr ⟨so_icmp_ne dX1_loadFrom_59 (by decide) rfl, ?_⟩
  refine List.forall_mem_cons.mpr ⟨so_iconst dX1_loadFrom_62 (by decide) rfl, ?_⟩
  refine List.forall_mem_cons.mpr ⟨so_goto dX1_loadFrom_63 (by decide), ?_⟩
  refine List.forall_mem_cons.mpr ⟨so_iconst dX1_loadFrom_66 (by decide) rfl, ?_⟩
  refine List.forall_mem_cons.mpr ⟨so_pZ (C := RX4) (T := TX4) (N := 3) dX1_loadFrom_67 (by decide) rfl rfl (by decide) rfl in_X4 wf_X1_56 tyX4 tyX4_ok nmX4 rfl (by decide +kernel) rfl, ?_⟩
  refine List.forall_mem_cons.mpr ⟨so_iinc dX1_loadFrom_70 (by decide) rfl, ?_⟩
  refine List.forall_mem_cons.mpr ⟨so_goto dX1_loadFrom_73 (by decide), ?_⟩
  refine List.forall_mem_cons.mpr ⟨so_rV dX1_loadFrom_76 rfl, ?_⟩
  exact fun _ h => absurd h List.not_mem_nil
theorem dX2_init_0 : decode cX2_init 0 = .ok (.aload_n 0, 1) := by decide +kernel
theorem dX2_init_1 : decode cX2_init 1 = .ok (.invokespecial 3, 3) := by decide +kernel
theorem dX2_init_4 : decode cX2_init 4 = .ok (.aload_n 0, 1) := by decide +kernel
theorem dX2_init_5 : decode cX2_init 5 = .ok (.bipush 10, 2) := by decide +kernel
theorem dX2_init_7 : decode cX2_init 7 = .ok (.bipush 17, 2) := by decide +kernel
theorem dX2_init_9 : decode cX2_init 9 = .ok (.multianewarray 11 2, 4) := by decide +kernel
theorem dX2_init_13 : decode cX2_init 13 = .ok (.putfield 13, 3) := by decide +kernel
theorem dX2_init_16 : decode cX2_init 16 = .ok (.return_, 1) := by decide +kernel
def T_X2_init : tk_Tb := [(0, tk_al 0 1), (1, tk_oi 4), (4, tk_al 0 5), (5, tk_ic (10) 7), (7, tk_ic (17) 9), (9, tk_mna 13 11 180), (13, tk_pR 2 0 16), (16, tk_rV)]
set_option maxRecDepth 100000 in
theorem hT_X2_init (sc : Option (Nat × (Nat → Int32))) : ∀ x ∈ T_X2_init, tk_So sc M_X2_init x.1 x.2 := by
  unfold T_X2_init
  refine List.forall_mem_cons.mpr ⟨so_aload_n dX2_init_0 rfl rfl, ?_⟩
  refine List.forall_mem_cons.mpr ⟨so_oi dX2_init_1 wm_X2_3 wo_1 wo_2 (by decide) rfl, ?_⟩
  refine List.forall_mem_cons.mpr ⟨so_aload_n dX2_init_4 rfl rfl, ?_⟩
  refine List.forall_mem_cons.mpr ⟨so_bipush dX2_init_5 (by decide) rfl, ?_⟩
  refine List.forall_mem_cons.mpr ⟨so_bipush dX2_init_7 (by decide) rfl, ?_⟩
  refine List.forall_mem_cons.mpr ⟨so_mna dX2_init_9 wk_X2_11 wa_int rfl rfl rfl, ?_⟩
  refine List.forall_mem_cons.mpr ⟨so_pRF (ty := .array (.array .int)) (C := RX2) (T := TX2) (N := 3) dX2_init_13 (by decide) rfl rfl (by decide) rfl in_X2 wf_X2_13 tyX2 tyX2_ok nmX2 rfl rfl rfl (by decide +kernel) (fun _ => rfl) (fun _ => rfl) rfl, ?_⟩
  refine List.forall_mem_cons.mpr ⟨so_rV dX2_init_16 rfl, ?_⟩
  exact fun _ h => absurd h List.not_mem_nil
theorem dX2_nextRow_0 : decode cX2_nextRow 0 = .ok (.aload_n 0, 1) := by decide +kernel
theorem dX2_nextRow_1 : decode cX2_nextRow 1 = .ok (.getfield 13, 3) := by decide +kernel
theorem dX2_nextRow_4 : decode cX2_nextRow 4 = .ok (.aload_n 0, 1) := by decide +kernel
theorem dX2_nextRow_5 : decode cX2_nextRow 5 = .ok (.getfield 18, 3) := by decide +kernel
theorem dX2_nextRow_8 : decode cX2_nextRow 8 = .ok (.aaload, 1) := by decide +kernel
theorem dX2_nextRow_9 : decode cX2_nextRow 9 = .ok (.astore_n 1, 1) := by decide +kernel
theorem dX2_nextRow_10 : decode cX2_nextRow 10 = .ok (.aload_n 0, 1) := by decide +kernel
theorem dX2_nextRow_11 : decode cX2_nextRow 11 = .ok (.aload_n 0, 1) := by decide +kernel
theorem dX2_nextRow_12 : decode cX2_nextRow 12 = .ok (.getfield 18, 3) := by decide +kernel
theorem dX2_nextRow_15 : decode cX2_nextRow 15 = .ok (.iconst 1, 1) := by decide +kernel
theorem dX2_nextRow_16 : decode cX2_nextRow 16 = .ok (.iadd, 1) := by decide +kernel
theorem dX2_nextRow_17 : decode cX2_nextRow 17 = .ok (.bipush 10, 2) := by decide +kernel
theorem dX2_nextRow_19 : decode cX2_nextRow 19 = .ok (.irem, 1) := by decide +kernel
theorem dX2_nextRow_20 : decode cX2_nextRow 20 = .ok (.putfield 18, 3) := by decide +kernel
theorem dX2_nextRow_23 : decode cX2_nextRow 23 = .ok (.aload_n 0, 1) := by decide +kernel
theorem dX2_nextRow_24 : decode cX2_nextRow 24 = .ok (.aload_n 0, 1) := by decide +kernel
theorem dX2_nextRow_25 : decode cX2_nextRow 25 = .ok (.getfield 22, 3) := by decide +kernel
theorem dX2_nextRow_28 : decode cX2_nextRow 28 = .ok (.iconst 1, 1) := by decide +kernel
theorem dX2_nextRow_29 : decode cX2_nextRow 29 = .ok (.iadd, 1) := by decide +kernel
theorem dX2_nextRow_30 : decode cX2_nextRow 30 = .ok (.bipush 10, 2) := by decide +kernel
theorem dX2_nextRow_32 : decode cX2_nextRow 32 = .ok (.invokestatic 25, 3) := by decide +kernel
theorem dX2_nextRow_35 : decode cX2_nextRow 35 = .ok (.putfield 22, 3) := by decide +kernel
theorem dX2_nextRow_38 : decode cX2_nextRow 38 = .ok (.aload_n 1, 1) := by decide +kernel
theorem dX2_nextRow_39 : decode cX2_nextRow 39 = .ok (.areturn, 1) := by decide +kernel
def T_X2_nextRow : tk_Tb := [(0, tk_al 0 1), (1, tk_gR 2 0 4), (4, tk_al 0 5), (5, tk_gI 2 2 8), (8, tk_aa 12 9), (9, tk_sA 1 10), (10, tk_al 0 11), (11, tk_al 0 12), (12, tk_gI 2 2 15), (15, tk_ic (1) 16), (16, tk_bi (fun x y => x + y) 17), (17, tk_ic (10) 19), (19, tk_dv (fun x y => x - x / y * y) 20), (20, tk_pI 2 2 23), (23, tk_al 0 24), (24, tk_al 0 25), (25, tk_gI 2 1 28), (28, tk_ic (1) 29), (29, tk_bi (fun x y => x + y) 30), (30, tk_ic (10) 32), (32, tk_cs M_J9_min_7cf53 2 35), (35, tk_pI 2 1 38), (38, tk_al 1 39), (39, tk_rA)]
set_option maxRecDepth 100000 in
theorem hT_X2_nextRow (sc : Option (Nat × (Nat → Int32))) : ∀ x ∈ T_X2_nextRow, tk_So sc M_X2_nextRow x.1 x.2 := by
  unfold T_X2_nextRow
  refine List.forall_mem_cons.mpr ⟨so_aload_n dX2_nextRow_0 rfl rfl, ?_⟩
  refine List.forall_mem_cons.mpr ⟨so_gR (C := RX2) (T := TX2) (N := 3) dX2_nextRow_1 (by decide) rfl rfl (by decide) rfl in_X2 wf_X2_13 rfl, ?_⟩
  refine List.forall_mem_cons.mpr ⟨so_aload_n dX2_nextRow_4 rfl rfl, ?_⟩
  refine List.forall_mem_cons.mpr ⟨so_gI (C := RX2) (T := TX2) (N := 3) dX2_nextRow_5 (by decide) rfl rfl (by decide) rfl in_X2 wf_X2_18 rfl, ?_⟩
  refine List.forall_mem_cons.mpr ⟨so_aaI dX2_nextRow_8 rfl, ?_⟩
  refine List.forall_mem_cons.mpr ⟨so_astore_n dX2_nextRow_9 rfl rfl, ?_⟩
  refine List.forall_mem_cons.mpr ⟨so_aload_n dX2_nextRow_10 rfl rfl, ?_⟩
  refine List.forall_mem_cons.mpr ⟨so_aload_n dX2_nextRow_11 rfl rfl, ?_⟩
  refine List.forall_mem_cons.mpr ⟨so_gI (C := RX2) (T := TX2) (N := 3) dX2_nextRow_12 (by decide) rfl rfl (by decide) rfl in_X2 wf_X2_18 rfl, ?_⟩
  refine List.forall_mem_cons.mpr ⟨so_iconst dX2_nextRow_15 (by decide) rfl, ?_⟩
  refine List.forall_mem_cons.mpr ⟨so_iadd dX2_nextRow_16 rfl, ?_⟩
  refine List.forall_mem_cons.mpr ⟨so_bipush dX2_nextRow_17 (by decide) rfl, ?_⟩
  refine List.forall_mem_cons.mpr ⟨so_irem dX2_nextRow_19 rfl, ?_⟩
  refine List.forall_mem_cons.mpr ⟨so_pI (C := RX2) (T := TX2) (N := 3) dX2_nextRow_20 (by decide) rfl rfl (by decide) rfl in_X2 wf_X2_18 tyX2 tyX2_ok nmX2 rfl (by decide +kernel) rfl, ?_⟩
  refine List.forall_mem_cons.mpr ⟨so_aload_n dX2_nextRow_23 rfl rfl, ?_⟩
  refine List.forall_mem_cons.mpr ⟨so_aload_n dX2_nextRow_24 rfl rfl, ?_⟩
  refine List.forall_mem_cons.mpr ⟨so_gI (C := RX2) (T := TX2) (N := 3) dX2_nextRow_25 (by decide) rfl rfl (by decide) rfl in_X2 wf_X2_22 rfl, ?_⟩
  refine List.forall_mem_cons.mpr ⟨so_iconst dX2_nextRow_28 (by decide) rfl, ?_⟩
  refine List.forall_mem_cons.mpr ⟨so_iadd dX2_nextRow_29 rfl, ?_⟩
  refine List.forall_mem_cons.mpr ⟨so_bipush dX2_nextRow_30 (by decide) rfl, ?_⟩
  refine List.forall_mem_cons.mpr ⟨so_cs dX2_nextRow_32 mv_J9_min_7cf53 wm_X2_25 ⟨rfl, rfl⟩ (by decide) rfl, ?_⟩
  refine List.forall_mem_cons.mpr ⟨so_pI (C := RX2) (T := TX2) (N := 3) dX2_nextRow_35 (by decide) rfl rfl (by decide) rfl in_X2 wf_X2_22 tyX2 tyX2_ok nmX2 rfl (by decide +kernel) rfl, ?_⟩
  refine List.forall_mem_cons.mpr ⟨so_aload_n dX2_nextRow_38 rfl rfl, ?_⟩
  refine List.forall_mem_cons.mpr ⟨so_rA dX2_nextRow_39 rfl, ?_⟩
  exact fun _ h => absurd h List.not_mem_nil
theorem dJ9_max_7cf53_0 : decode cJ9_max_7cf53 0 = .ok (.iload_n 0, 1) := by decide +kernel
theorem dJ9_max_7cf53_1 : decode cJ9_max_7cf53 1 = .ok (.iload_n 1, 1) := by decide +kernel
theorem dJ9_max_7cf53_2 : decode cJ9_max_7cf53 2 = .ok (.if_icmp .lt 7, 3) := by decide +kernel
theorem dJ9_max_7cf53_5 : decode cJ9_max_7cf53 5 = .ok (.iload_n 0, 1) := by decide +kernel
theorem dJ9_max_7cf53_6 : decode cJ9_max_7cf53 6 = .ok (.goto 4, 3) := by decide +kernel
theorem dJ9_max_7cf53_9 : decode cJ9_max_7cf53 9 = .ok (.iload_n 1, 1) := by decide +kernel
theorem dJ9_max_7cf53_10 : decode cJ9_max_7cf53 10 = .ok (.ireturn, 1) := by decide +kernel
def T_J9_max_7cf53 : tk_Tb := [(0, tk_il 0 1), (1, tk_il 1 2), (2, tk_cm (fun x y => x < y) 9 5), (5, tk_il 0 6), (6, tk_jmp 10), (9, tk_il 1 10), (10, tk_rI)]
set_option maxRecDepth 100000 in
theorem hT_J9_max_7cf53 (sc : Option (Nat × (Nat → Int32))) : ∀ x ∈ T_J9_max_7cf53, tk_So sc M_J9_max_7cf53 x.1 x.2 := by
  unfold T_J9_max_7cf53
  refine List.forall_mem_cons.mpr ⟨so_iload_n dJ9_max_7cf53_0 rfl rfl, ?_⟩
  refine List.forall_mem_cons.mpr ⟨so_iload_n dJ9_max_7cf53_1 rfl rfl, ?_⟩
  refine List.forall_mem_cons.mpr ⟨so_icmp_lt dJ9_max_7cf53_2 (by decide) rfl, ?_⟩
  refine List.forall_mem_cons.mpr ⟨so_iload_n dJ9_max_7cf53_5 rfl rfl, ?_⟩
  refine List.forall_mem_cons.mpr ⟨so_goto dJ9_max_7cf53_6 (by decide), ?_⟩
  refine List.forall_mem_cons.mpr ⟨so_iload_n dJ9_max_7cf53_9 rfl rfl, ?_⟩
  refine List.forall_mem_cons.mpr ⟨so_rI dJ9_max_7cf53_10 rfl, ?_⟩
  exact fun _ h => absurd h List.not_mem_nil
theorem dX2_latestRow_0 : decode cX2_latestRow 0 = .ok (.aload_n 0, 1) := by decide +kernel
theorem dX2_latestRow_1 : decode cX2_latestRow 1 = .ok (.aload_n 0, 1) := by decide +kernel
theorem dX2_latestRow_2 : decode cX2_latestRow 2 = .ok (.getfield 18, 3) := by decide +kernel
theorem dX2_latestRow_5 : decode cX2_latestRow 5 = .ok (.bipush 10, 2) := by decide +kernel
theorem dX2_latestRow_7 : decode cX2_latestRow 7 = .ok (.iadd, 1) := by decide +kernel
theorem dX2_latestRow_8 : decode cX2_latestRow 8 = .ok (.iconst 1, 1) := by decide +kernel
theorem dX2_latestRow_9 : decode cX2_latestRow 9 = .ok (.isub, 1) := by decide +kernel
theorem dX2_latestRow_10 : decode cX2_latestRow 10 = .ok (.bipush 10, 2) := by decide +kernel
theorem dX2_latestRow_12 : decode cX2_latestRow 12 = .ok (.irem, 1) := by decide +kernel
theorem dX2_latestRow_13 : decode cX2_latestRow 13 = .ok (.putfield 18, 3) := by decide +kernel
theorem dX2_latestRow_16 : decode cX2_latestRow 16 = .ok (.aload_n 0, 1) := by decide +kernel
theorem dX2_latestRow_17 : decode cX2_latestRow 17 = .ok (.aload_n 0, 1) := by decide +kernel
theorem dX2_latestRow_18 : decode cX2_latestRow 18 = .ok (.getfield 22, 3) := by decide +kernel
theorem dX2_latestRow_21 : decode cX2_latestRow 21 = .ok (.iconst 1, 1) := by decide +kernel
theorem dX2_latestRow_22 : decode cX2_latestRow 22 = .ok (.isub, 1) := by decide +kernel
theorem dX2_latestRow_23 : decode cX2_latestRow 23 = .ok (.iconst 0, 1) := by decide +kernel
theorem dX2_latestRow_24 : decode cX2_latestRow 24 = .ok (.invokestatic 31, 3) := by decide +kernel
theorem dX2_latestRow_27 : decode cX2_latestRow 27 = .ok (.putfield 22, 3) := by decide +kernel
theorem dX2_latestRow_30 : decode cX2_latestRow 30 = .ok (.aload_n 0, 1) := by decide +kernel
theorem dX2_latestRow_31 : decode cX2_latestRow 31 = .ok (.getfield 13, 3) := by decide +kernel
theorem dX2_latestRow_34 : decode cX2_latestRow 34 = .ok (.aload_n 0, 1) := by decide +kernel
theorem dX2_latestRow_35 : decode cX2_latestRow 35 = .ok (.getfield 18, 3) := by decide +kernel
theorem dX2_latestRow_38 : decode cX2_latestRow 38 = .ok (.aaload, 1) := by decide +kernel
theorem dX2_latestRow_39 : decode cX2_latestRow 39 = .ok (.areturn, 1) := by decide +kernel
def T_X2_latestRow : tk_Tb := [(0, tk_al 0 1), (1, tk_al 0 2), (2, tk_gI 2 2 5), (5, tk_ic (10) 7), (7, tk_bi (fun x y => x + y) 8), (8, tk_ic (1) 9), (9, tk_bi (fun x y => x - y) 10), (10, tk_ic (10) 12), (12, tk_dv (fun x y => x - x / y * y) 13), (13, tk_pI 2 2 16), (16, tk_al 0 17), (17, tk_al 0 18), (18, tk_gI 2 1 21), (21, tk_ic (1) 22), (22, tk_bi (fun x y => x - y) 23), (23, tk_ic (0) 24), (24, tk_cs M_J9_max_7cf53 2 27), (27, tk_pI 2 1 30), (30, tk_al 0 31), (31, tk_gR 2 0 34), (34, tk_al 0 35), (35, tk_gI 2 2 38), (38, tk_aa 12 39), (39, tk_rA)]
set_option maxRecDepth 100000 in
theorem hT_X2_latestRow (sc : Option (Nat × (Nat → Int32))) : ∀ x ∈ T_X2_latestRow, tk_So sc M_X2_latestRow x.1 x.2 := by
  unfold T_X2_latestRow
  refine List.forall_mem_cons.mpr ⟨so_aload_n dX2_latestRow_0 rfl rfl, ?_⟩
  refine List.forall_mem_cons.mpr ⟨so_aload_n dX2_latestRow_1 rfl rfl, ?_⟩
  refine List.forall_mem_cons.mpr ⟨so_gI (C := RX2) (T := TX2) (N := 3) dX2_latestRow_2 (by decide) rfl rfl (by decide) rfl in_X2 wf_X2_18 rfl, ?_⟩
  refine List.forall_mem_cons.mpr ⟨so_bipush dX2_latestRow_5 (by decide) rfl, ?_⟩
  refine List.forall_mem_cons.mpr ⟨so_iadd dX2_latestRow_7 rfl, ?_⟩
  refine List.forall_mem_cons.mpr ⟨so_iconst dX2_latestRow_8 (by decide) rfl, ?_⟩
  refine List.forall_mem_cons.mpr ⟨so_isub dX2_latestRow_9 rfl, ?_⟩
  refine List.forall_mem_cons.mpr ⟨so_bipush dX2_latestRow_10 (by decide) rfl, ?_⟩
  refine List.forall_mem_cons.mpr ⟨so_irem dX2_latestRow_12 rfl, ?_⟩
  refine List.forall_mem_cons.mpr ⟨so_pI (C := RX2) (T := TX2) (N := 3) dX2_latestRow_13 (by decide) rfl rfl (by decide) rfl in_X2 wf_X2_18 tyX2 tyX2_ok nmX2 rfl (by decide +kernel) rfl, ?_⟩
  refine List.forall_mem_cons.mpr ⟨so_aload_n dX2_latestRow_16 rfl rfl, ?_⟩
  refine List.forall_mem_cons.mpr ⟨so_aload_n dX2_latestRow_17 rfl rfl, ?_⟩
  refine List.forall_mem_cons.mpr ⟨so_gI (C := RX2) (T := TX2) (N := 3) dX2_latestRow_18 (by decide) rfl rfl (by decide) rfl in_X2 wf_X2_22 rfl, ?_⟩
  refine List.forall_mem_cons.mpr ⟨so_iconst dX2_latestRow_21 (by decide) rfl, ?_⟩
  refine List.forall_mem_cons.mpr ⟨so_isub dX2_latestRow_22 rfl, ?_⟩
  refine List.forall_mem_cons.mpr ⟨so_iconst dX2_latestRow_23 (by decide) rfl, ?_⟩
  refine List.forall_mem_cons.mpr ⟨so_cs dX2_latestRow_24 mv_J9_max_7cf53 wm_X2_31 ⟨rfl, rfl⟩ (by decide) rfl, ?_⟩
  refine List.forall_mem_cons.mpr ⟨so_pI (C := RX2) (T := TX2) (N := 3) dX2_latestRow_27 (by decide) rfl rfl (by decide) rfl in_X2 wf_X2_22 tyX2 tyX2_ok nmX2 rfl (by decide +kernel) rfl, ?_⟩
  refine List.forall_mem_cons.mpr ⟨so_aload_n dX2_latestRow_30 rfl rfl, ?_⟩
  refine List.forall_mem_cons.mpr ⟨so_gR (C := RX2) (T := TX2) (N := 3) dX2_latestRow_31 (by decide) rfl rfl (by decide) rfl in_X2 wf_X2_13 rfl, ?_⟩
  refine List.forall_mem_cons.mpr ⟨so_aload_n dX2_latestRow_34 rfl rfl, ?_⟩
  refine List.forall_mem_cons.mpr ⟨so_gI (C := RX2) (T := TX2) (N := 3) dX2_latestRow_35 (by decide) rfl rfl (by decide) rfl in_X2 wf_X2_18 rfl, ?_⟩
  refine List.forall_mem_cons.mpr ⟨so_aaI dX2_latestRow_38 rfl, ?_⟩
  refine List.forall_mem_cons.mpr ⟨so_rA dX2_latestRow_39 rfl, ?_⟩
  exact fun _ h => absurd h List.not_mem_nil
theorem dX2_lose_0 : decode cX2_lose 0 = .ok (.aload_n 0, 1) := by decide +kernel
theorem dX2_lose_1 : decode cX2_lose 1 = .ok (.iconst 0, 1) := by decide +kernel
theorem dX2_lose_2 : decode cX2_lose 2 = .ok (.putfield 22, 3) := by decide +kernel
theorem dX2_lose_5 : decode cX2_lose 5 = .ok (.return_, 1) := by decide +kernel
def T_X2_lose : tk_Tb := [(0, tk_al 0 1), (1, tk_ic (0) 2), (2, tk_pI 2 1 5), (5, tk_rV)]
set_option maxRecDepth 100000 in
theorem hT_X2_lose (sc : Option (Nat × (Nat → Int32))) : ∀ x ∈ T_X2_lose, tk_So sc M_X2_lose x.1 x.2 := by
  unfold T_X2_lose
  refine List.forall_mem_cons.mpr ⟨so_aload_n dX2_lose_0 rfl rfl, ?_⟩
  refine List.forall_mem_cons.mpr ⟨so_iconst dX2_lose_1 (by decide) rfl, ?_⟩
  refine List.forall_mem_cons.mpr ⟨so_pI (C := RX2) (T := TX2) (N := 3) dX2_lose_2 (by decide) rfl rfl (by decide) rfl in_X2 wf_X2_22 tyX2 tyX2_ok nmX2 rfl (by decide +kernel) rfl, ?_⟩
  refine List.forall_mem_cons.mpr ⟨so_rV dX2_lose_5 rfl, ?_⟩
  exact fun _ h => absurd h List.not_mem_nil
theorem dX3_init_0 : decode cX3_init 0 = .ok (.aload_n 0, 1) := by decide +kernel
theorem dX3_init_1 : decode cX3_init 1 = .ok (.invokespecial 3, 3) := by decide +kernel
theorem dX3_init_4 : decode cX3_init 4 = .ok (.aload_n 0, 1) := by decide +kernel
theorem dX3_init_5 : decode cX3_init 5 = .ok (.sipush 150, 3) := by decide +kernel
theorem dX3_init_8 : decode cX3_init 8 = .ok (.newarray .char, 2) := by decide +kernel
theorem dX3_init_10 : decode cX3_init 10 = .ok (.putfield 9, 3) := by decide +kernel
theorem dX3_init_13 : decode cX3_init 13 = .ok (.return_, 1) := by decide +kernel
def T_X3_init : tk_Tb := [(0, tk_al 0 1), (1, tk_oi 4), (4, tk_al 0 5), (5, tk_ic (150) 8), (8, tk_nwa 8 10 1 150), (10, tk_pR 3 0 13), (13, tk_rV)]
set_option maxRecDepth 100000 in
theorem hT_X3_init (sc : Option (Nat × (Nat → Int32))) : ∀ x ∈ T_X3_init, tk_So sc M_X3_init x.1 x.2 := by
  unfold T_X3_init
  refine List.forall_mem_cons.mpr ⟨so_aload_n dX3_init_0 rfl rfl, ?_⟩
  refine List.forall_mem_cons.mpr ⟨so_oi dX3_init_1 wm_X3_3 wo_1 wo_2 (by decide) rfl, ?_⟩
  refine List.forall_mem_cons.mpr ⟨so_aload_n dX3_init_4 rfl rfl, ?_⟩
  refine List.forall_mem_cons.mpr ⟨so_sipush dX3_init_5 (by decide) rfl, ?_⟩
  refine List.forall_mem_cons.mpr ⟨so_nwC dX3_init_8 rfl wa_char rfl rfl rfl, ?_⟩
  refine List.forall_mem_cons.mpr ⟨so_pRF (ty := .array .char) (C := RX3) (T := TX3) (N := 7) dX3_init_10 (by decide) rfl rfl (by decide) rfl in_X3 wf_X3_9 tyX3 tyX3_ok nmX3 rfl rfl rfl (by decide +kernel) (fun _ => rfl) (fun _ => rfl) rfl, ?_⟩
  refine List.forall_mem_cons.mpr ⟨so_rV dX3_init_13 rfl, ?_⟩
  exact fun _ h => absurd h List.not_mem_nil
theorem dX3_add_0 : decode cX3_add 0 = .ok (.aload_n 0, 1) := by decide +kernel
theorem dX3_add_1 : decode cX3_add 1 = .ok (.getfield 15, 3) := by decide +kernel
theorem dX3_add_4 : decode cX3_add 4 = .ok (.sipush 150, 3) := by decide +kernel
theorem dX3_add_7 : decode cX3_add 7 = .ok (.if_icmp .lt 6, 3) := by decide +kernel
theorem dX3_add_10 : decode cX3_add 10 = .ok (.bipush (-3), 2) := by decide +kernel
theorem dX3_add_12 : decode cX3_add 12 = .ok (.ireturn, 1) := by decide +kernel
theorem dX3_add_13 : decode cX3_add 13 = .ok (.aload_n 0, 1) := by decide +kernel
theorem dX3_add_14 : decode cX3_add 14 = .ok (.getfield 9, 3) := by decide +kernel
theorem dX3_add_17 : decode cX3_add 17 = .ok (.aload_n 0, 1) := by decide +kernel
theorem dX3_add_18 : decode cX3_add 18 = .ok (.getfield 15, 3) := by decide +kernel
theorem dX3_add_21 : decode cX3_add 21 = .ok (.iload_n 1, 1) := by decide +kernel
theorem dX3_add_22 : decode cX3_add 22 = .ok (.i2c, 1) := by decide +kernel
theorem dX3_add_23 : decode cX3_add 23 = .ok (.castore, 1) := by decide +kernel
theorem dX3_add_24 : decode cX3_add 24 = .ok (.aload_n 0, 1) := by decide +kernel
theorem dX3_add_25 : decode cX3_add 25 = .ok (.dup, 1) := by decide +kernel
theorem dX3_add_26 : decode cX3_add 26 = .ok (.getfield 15, 3) := by decide +kernel
theorem dX3_add_29 : decode cX3_add 29 = .ok (.iconst 1, 1) := by decide +kernel
theorem dX3_add_30 : decode cX3_add 30 = .ok (.iadd, 1) := by decide +kernel
theorem dX3_add_31 : decode cX3_add 31 = .ok (.putfield 15, 3) := by decide +kernel
theorem dX3_add_34 : decode cX3_add 34 = .ok (.aload_n 0, 1) := by decide +kernel
theorem dX3_add_35 : decode cX3_add 35 = .ok (.getfield 15, 3) := by decide +kernel
theorem dX3_add_38 : decode cX3_add 38 = .ok (.ireturn, 1) := by decide +kernel
def T_X3_add : tk_Tb := [(0, tk_al 0 1), (1, tk_gI 3 1 4), (4, tk_ic (150) 7), (7, tk_cm (fun x y => x < y) 13 10), (10, tk_ic (-3) 12), (12, tk_rI), (13, tk_al 0 14), (14, tk_gR 3 0 17), (17, tk_al 0 18), (18, tk_gI 3 1 21), (21, tk_il 1 22), (22, tk_un (fun x => (x.toUInt32 % 65536).toInt32) 23), (23, tk_si 8 (vp_nar .char) 24), (24, tk_al 0 25), (25, tk_dup 26), (26, tk_gI 3 1 29), (29, tk_ic (1) 30), (30, tk_bi (fun x y => x + y) 31), (31, tk_pI 3 1 34), (34, tk_al 0 35), (35, tk_gI 3 1 38), (38, tk_rI)]
set_option maxRecDepth 100000 in
theorem hT_X3_add (sc : Option (Nat × (Nat → Int32))) : ∀ x ∈ T_X3_add, tk_So sc M_X3_add x.1 x.2 := by
  unfold T_X3_add
  refine List.forall_mem_cons.mpr ⟨so_aload_n dX3_add_0 rfl rfl, ?_⟩
  refine List.forall_mem_cons.mpr ⟨so_gI (C := RX3) (T := TX3) (N := 7) dX3_add_1 (by decide) rfl rfl (by decide) rfl in_X3 wf_X3_15 rfl, ?_⟩
  refine List.forall_mem_cons.mpr ⟨so_sipush dX3_add_4 (by decide) rfl, ?_⟩
  refine List.forall_mem_cons.mpr ⟨so_icmp_lt dX3_add_7 (by decide) rfl, ?_⟩
  refine List.forall_mem_cons.mpr ⟨so_bipush dX3_add_10 (by decide) rfl, ?_⟩
  refine List.forall_mem_cons.mpr ⟨so_rI dX3_add_12 rfl, ?_⟩
  refine List.forall_mem_cons.mpr ⟨so_aload_n dX3_add_13 rfl rfl, ?_⟩
  refine List.forall_mem_cons.mpr ⟨so_gR (C := RX3) (T := TX3) (N := 7) dX3_add_14 (by decide) rfl rfl (by decide) rfl in_X3 wf_X3_9 rfl, ?_⟩
  refine List.forall_mem_cons.mpr ⟨so_aload_n dX3_add_17 rfl rfl, ?_⟩
  refine List.forall_mem_cons.mpr ⟨so_gI (C := RX3) (T := TX3) (N := 7) dX3_add_18 (by decide) rfl rfl (by decide) rfl in_X3 wf_X3_15 rfl, ?_⟩
  refine List.forall_mem_cons.mpr ⟨so_iload_n dX3_add_21 rfl rfl, ?_⟩
  refine List.forall_mem_cons.mpr ⟨so_i2c dX3_add_22 rfl, ?_⟩
  refine List.forall_mem_cons.mpr ⟨so_castore dX3_add_23 rfl, ?_⟩
  refine List.forall_mem_cons.mpr ⟨so_aload_n dX3_add_24 rfl rfl, ?_⟩
  refine List.forall_mem_cons.mpr ⟨so_dup dX3_add_25 rfl, ?_⟩
  refine List.forall_mem_cons.mpr ⟨so_gI (C := RX3) (T := TX3) (N := 7) dX3_add_26 (by decide) rfl rfl (by decide) rfl in_X3 wf_X3_15 rfl, ?_⟩
  refine List.forall_mem_cons.mpr ⟨so_iconst dX3_add_29 (by decide) rfl, ?_⟩
  refine List.forall_mem_cons.mpr ⟨so_iadd dX3_add_30 rfl, ?_⟩
  refine List.forall_mem_cons.mpr ⟨so_pI (C := RX3) (T := TX3) (N := 7) dX3_add_31 (by decide) rfl rfl (by decide) rfl in_X3 wf_X3_15 tyX3 tyX3_ok nmX3 rfl (by decide +kernel) rfl, ?_⟩
  refine List.forall_mem_cons.mpr ⟨so_aload_n dX3_add_34 rfl rfl, ?_⟩
  refine List.forall_mem_cons.mpr ⟨so_gI (C := RX3) (T := TX3) (N := 7) dX3_add_35 (by decide) rfl rfl (by decide) rfl in_X3 wf_X3_15 rfl, ?_⟩
  refine List.forall_mem_cons.mpr ⟨so_rI dX3_add_38 rfl, ?_⟩
  exact fun _ h => absurd h List.not_mem_nil
theorem dX3_empty_0 : decode cX3_empty 0 = .ok (.aload_n 0, 1) := by decide +kernel
theorem dX3_empty_1 : decode cX3_empty 1 = .ok (.getfield 15, 3) := by decide +kernel
theorem dX3_empty_4 : decode cX3_empty 4 = .ok (.istore_n 1, 1) := by decide +kernel
theorem dX3_empty_5 : decode cX3_empty 5 = .ok (.aload_n 0, 1) := by decide +kernel
theorem dX3_empty_6 : decode cX3_empty 6 = .ok (.iconst 0, 1) := by decide +kernel
theorem dX3_empty_7 : decode cX3_empty 7 = .ok (.putfield 15, 3) := by decide +kernel
theorem dX3_empty_10 : decode cX3_empty 10 = .ok (.iload_n 1, 1) := by decide +kernel
theorem dX3_empty_11 : decode cX3_empty 11 = .ok (.ireturn, 1) := by decide +kernel
def T_X3_empty : tk_Tb := [(0, tk_al 0 1), (1, tk_gI 3 1 4), (4, tk_sI 1 5), (5, tk_al 0 6), (6, tk_ic (0) 7), (7, tk_pI 3 1 10), (10, tk_il 1 11), (11, tk_rI)]
set_option maxRecDepth 100000 in
theorem hT_X3_empty (sc : Option (Nat × (Nat → Int32))) : ∀ x ∈ T_X3_empty, tk_So sc M_X3_empty x.1 x.2 := by
  unfold T_X3_empty
  refine List.forall_mem_cons.mpr ⟨so_aload_n dX3_empty_0 rfl rfl, ?_⟩
  refine List.forall_mem_cons.mpr ⟨so_gI (C := RX3) (T := TX3) (N := 7) dX3_empty_1 (by decide) rfl rfl (by decide) rfl in_X3 wf_X3_15 rfl, ?_⟩
  refine List.forall_mem_cons.mpr ⟨so_istore_n dX3_empty_4 rfl rfl, ?_⟩
  refine List.forall_mem_cons.mpr ⟨so_aload_n dX3_empty_5 rfl rfl, ?_⟩
  refine List.forall_mem_cons.mpr ⟨so_iconst dX3_empty_6 (by decide) rfl, ?_⟩
  refine List.forall_mem_cons.mpr ⟨so_pI (C := RX3) (T := TX3) (N := 7) dX3_empty_7 (by decide) rfl rfl (by decide) rfl in_X3 wf_X3_15 tyX3 tyX3_ok nmX3 rfl (by decide +kernel) rfl, ?_⟩
  refine List.forall_mem_cons.mpr ⟨so_iload_n dX3_empty_10 rfl rfl, ?_⟩
  refine List.forall_mem_cons.mpr ⟨so_rI dX3_empty_11 rfl, ?_⟩
  exact fun _ h => absurd h List.not_mem_nil
theorem dX6_isWithin_0 : decode cX6_isWithin 0 = .ok (.iload_n 0, 1) := by decide +kernel
theorem dX6_isWithin_1 : decode cX6_isWithin 1 = .ok (.iload_n 1, 1) := by decide +kernel
theorem dX6_isWithin_2 : decode cX6_isWithin 2 = .ok (.if_icmp .lt 12, 3) := by decide +kernel
theorem dX6_isWithin_5 : decode cX6_isWithin 5 = .ok (.iload_n 0, 1) := by decide +kernel
theorem dX6_isWithin_6 : decode cX6_isWithin 6 = .ok (.iload_n 2, 1) := by decide +kernel
theorem dX6_isWithin_7 : decode cX6_isWithin 7 = .ok (.if_icmp .gt 7, 3) := by decide +kernel
theorem dX6_isWithin_10 : decode cX6_isWithin 10 = .ok (.iconst 1, 1) := by decide +kernel
theorem dX6_isWithin_11 : decode cX6_isWithin 11 = .ok (.goto 4, 3) := by decide +kernel
theorem dX6_isWithin_14 : decode cX6_isWithin 14 = .ok (.iconst 0, 1) := by decide +kernel
theorem dX6_isWithin_15 : decode cX6_isWithin 15 = .ok (.ireturn, 1) := by decide +kernel
def T_X6_isWithin : tk_Tb := [(0, tk_il 0 1), (1, tk_il 1 2), (2, tk_cm (fun x y => x < y) 14 5), (5, tk_il 0 6), (6, tk_il 2 7), (7, tk_cm (fun x y => y < x) 14 10), (10, tk_ic (1) 11), (11, tk_jmp 15), (14, tk_ic (0) 15), (15, tk_rZ)]
set_option maxRecDepth 100000 in
theorem hT_X6_isWithin (sc : Option (Nat × (Nat → Int32))) : ∀ x ∈ T_X6_isWithin, tk_So sc M_X6_isWithin x.1 x.2 := by
  unfold T_X6_isWithin
  refine List.forall_mem_cons.mpr ⟨so_iload_n dX6_isWithin_0 rfl rfl, ?_⟩
  refine List.forall_mem_cons.mpr ⟨so_iload_n dX6_isWithin_1 rfl rfl, ?_⟩
  refine List.forall_mem_cons.mpr ⟨so_icmp_lt dX6_isWithin_2 (by decide) rfl, ?_⟩
  refine List.forall_mem_cons.mpr ⟨so_iload_n dX6_isWithin_5 rfl rfl, ?_⟩
  refine List.forall_mem_cons.mpr ⟨so_iload_n dX6_isWithin_6 rfl rfl, ?_⟩
  refine List.forall_mem_cons.mpr ⟨so_icmp_gt dX6_isWithin_7 (by decide) rfl, ?_⟩
  refine List.forall_mem_cons.mpr ⟨so_iconst dX6_isWithin_10 (by decide) rfl, ?_⟩
  refine List.forall_mem_cons.mpr ⟨so_goto dX6_isWithin_11 (by decide), ?_⟩
  refine List.forall_mem_cons.mpr ⟨so_iconst dX6_isWithin_14 (by decide) rfl, ?_⟩
  refine List.forall_mem_cons.mpr ⟨so_rZ dX6_isWithin_15 rfl, ?_⟩
  exact fun _ h => absurd h List.not_mem_nil
theorem dX3_isDigit_0 : decode cX3_isDigit 0 = .ok (.iload_n 0, 1) := by decide +kernel
theorem dX3_isDigit_1 : decode cX3_isDigit 1 = .ok (.bipush 48, 2) := by decide +kernel
theorem dX3_isDigit_3 : decode cX3_isDigit 3 = .ok (.if_icmp .lt 13, 3) := by decide +kernel
theorem dX3_isDigit_6 : decode cX3_isDigit 6 = .ok (.iload_n 0, 1) := by decide +kernel
theorem dX3_isDigit_7 : decode cX3_isDigit 7 = .ok (.bipush 57, 2) := by decide +kernel
theorem dX3_isDigit_9 : decode cX3_isDigit 9 = .ok (.if_icmp .gt 7, 3) := by decide +kernel
theorem dX3_isDigit_12 : decode cX3_isDigit 12 = .ok (.iconst 1, 1) := by decide +kernel
theorem dX3_isDigit_13 : decode cX3_isDigit 13 = .ok (.goto 4, 3) := by decide +kernel
theorem dX3_isDigit_16 : decode cX3_isDigit 16 = .ok (.iconst 0, 1) := by decide +kernel
theorem dX3_isDigit_17 : decode cX3_isDigit 17 = .ok (.ireturn, 1) := by decide +kernel
def T_X3_isDigit : tk_Tb := [(0, tk_il 0 1), (1, tk_ic (48) 3), (3, tk_cm (fun x y => x < y) 16 6), (6, tk_il 0 7), (7, tk_ic (57) 9), (9, tk_cm (fun x y => y < x) 16 12), (12, tk_ic (1) 13), (13, tk_jmp 17), (16, tk_ic (0) 17), (17, tk_rZ)]
set_option maxRecDepth 100000 in
theorem hT_X3_isDigit (sc : Option (Nat × (Nat → Int32))) : ∀ x ∈ T_X3_isDigit, tk_So sc M_X3_isDigit x.1 x.2 := by
  unfold T_X3_isDigit
  refine List.forall_mem_cons.mpr ⟨so_iload_n dX3_isDigit_0 rfl rfl, ?_⟩
  refine List.forall_mem_cons.mpr ⟨so_bipush dX3_isDigit_1 (by decide) rfl, ?_⟩
  refine List.forall_mem_cons.mpr ⟨so_icmp_lt dX3_isDigit_3 (by decide) rfl, ?_⟩
  refine List.forall_mem_cons.mpr ⟨so_iload_n dX3_isDigit_6 rfl rfl, ?_⟩
  refine List.forall_mem_cons.mpr ⟨so_bipush dX3_isDigit_7 (by decide) rfl, ?_⟩
  refine List.forall_mem_cons.mpr ⟨so_icmp_gt dX3_isDigit_9 (by decide) rfl, ?_⟩
  refine List.forall_mem_cons.mpr ⟨so_iconst dX3_isDigit_12 (by decide) rfl, ?_⟩
  refine List.forall_mem_cons.mpr ⟨so_goto dX3_isDigit_13 (by decide), ?_⟩
  refine List.forall_mem_cons.mpr ⟨so_iconst dX3_isDigit_16 (by decide) rfl, ?_⟩
  refine List.forall_mem_cons.mpr ⟨so_rZ dX3_isDigit_17 rfl, ?_⟩
  exact fun _ h => absurd h List.not_mem_nil
theorem dX3_readDigits_0 : decode cX3_readDigits 0 = .ok (.aload_n 0, 1) := by decide +kernel
theorem dX3_readDigits_1 : decode cX3_readDigits 1 = .ok (.getfield 28, 3) := by decide +kernel
theorem dX3_readDigits_4 : decode cX3_readDigits 4 = .ok (.istore_n 1, 1) := by decide +kernel
theorem dX3_readDigits_5 : decode cX3_readDigits 5 = .ok (.iconst 0, 1) := by decide +kernel
theorem dX3_readDigits_6 : decode cX3_readDigits 6 = .ok (.istore_n 2, 1) := by decide +kernel
theorem dX3_readDigits_7 : decode cX3_readDigits 7 = .ok (.aload_n 0, 1) := by decide +kernel
theorem dX3_readDigits_8 : decode cX3_readDigits 8 = .ok (.getfield 28, 3) := by decide +kernel
theorem dX3_readDigits_11 : decode cX3_readDigits 11 = .ok (.aload_n 0, 1) := by decide +kernel
theorem dX3_readDigits_12 : decode cX3_readDigits 12 = .ok (.getfield 15, 3) := by decide +kernel
theorem dX3_readDigits_15 : decode cX3_readDigits 15 = .ok (.if_icmp .ge 49, 3) := by decide +kernel
theorem dX3_readDigits_18 : decode cX3_readDigits 18 = .ok (.aload_n 0, 1) := by decide +kernel
theorem dX3_readDigits_19 : decode cX3_readDigits 19 = .ok (.getfield 9, 3) := by decide +kernel
theorem dX3_readDigits_22 : decode cX3_readDigits 22 = .ok (.aload_n 0, 1) := by decide +kernel
theorem dX3_readDigits_23 : decode cX3_readDigits 23 = .ok (.getfield 28, 3) := by decide +kernel
theorem dX3_readDigits_26 : decode cX3_readDigits 26 = .ok (.caload, 1) := by decide +kernel
theorem dX3_readDigits_27 : decode cX3_readDigits 27 = .ok (.invokestatic 99, 3) := by decide +kernel
theorem dX3_readDigits_30 : decode cX3_readDigits 30 = .ok (.ifCond .eq 34, 3) := by decide +kernel
theorem dX3_readDigits_33 : decode cX3_readDigits 33 = .ok (.bipush 10, 2) := by decide +kernel
theorem dX3_readDigits_35 : decode cX3_readDigits 35 = .ok (.iload_n 2, 1) := by decide +kernel
theorem dX3_readDigits_36 : decode cX3_readDigits 36 = .ok (.imul, 1) := by decide +kernel
theorem dX3_readDigits_37 : decode cX3_readDigits 37 = .ok (.aload_n 0, 1) := by decide +kernel
theorem dX3_readDigits_38 : decode cX3_readDigits 38 = .ok (.getfield 9, 3) := by decide +kernel
theorem dX3_readDigits_41 : decode cX3_readDigits 41 = .ok (.aload_n 0, 1) := by decide +kernel
theorem dX3_readDigits_42 : decode cX3_readDigits 42 = .ok (.getfield 28, 3) := by decide +kernel
theorem dX3_readDigits_45 : decode cX3_readDigits 45 = .ok (.caload, 1) := by decide +kernel
theorem dX3_readDigits_46 : decode cX3_readDigits 46 = .ok (.iadd, 1) := by decide +kernel
theorem dX3_readDigits_47 : decode cX3_readDigits 47 = .ok (.bipush 48, 2) := by decide +kernel
theorem dX3_readDigits_49 : decode cX3_readDigits 49 = .ok (.isub, 1) := by decide +kernel
theorem dX3_readDigits_50 : decode cX3_readDigits 50 = .ok (.istore_n 2, 1) := by decide +kernel
theorem dX3_readDigits_51 : decode cX3_readDigits 51 = .ok (.aload_n 0, 1) := by decide +kernel
theorem dX3_readDigits_52 : decode cX3_readDigits 52 = .ok (.dup, 1) := by decide +kernel
theorem dX3_readDigits_53 : decode cX3_readDigits 53 = .ok (.getfield 28, 3) := by decide +kernel
theorem dX3_readDigits_56 : decode cX3_readDigits 56 = .ok (.iconst 1, 1) := by decide +kernel
theorem dX3_readDigits_57 : decode cX3_readDigits 57 = .ok (.iadd, 1) := by decide +kernel
theorem dX3_readDigits_58 : decode cX3_readDigits 58 = .ok (.putfield 28, 3) := by decide +kernel
theorem dX3_readDigits_61 : decode cX3_readDigits 61 = .ok (.goto (-54), 3) := by decide +kernel
theorem dX3_readDigits_64 : decode cX3_readDigits 64 = .ok (.aload_n 0, 1) := by decide +kernel
theorem dX3_readDigits_65 : decode cX3_readDigits 65 = .ok (.getfield 28, 3) := by decide +kernel
theorem dX3_readDigits_68 : decode cX3_readDigits 68 = .ok (.iload_n 1, 1) := by decide +kernel
theorem dX3_readDigits_69 : decode cX3_readDigits 69 = .ok (.isub, 1) := by decide +kernel
theorem dX3_readDigits_70 : decode cX3_readDigits 70 = .ok (.istore_n 3, 1) := by decide +kernel
theorem dX3_readDigits_71 : decode cX3_readDigits 71 = .ok (.iload_n 3, 1) := by decide +kernel
theorem dX3_readDigits_72 : decode cX3_readDigits 72 = .ok (.iconst 1, 1) := by decide +kernel
theorem dX3_readDigits_73 : decode cX3_readDigits 73 = .ok (.if_icmp .eq 14, 3) := by decide +kernel
theorem dX3_readDigits_76 : decode cX3_readDigits 76 = .ok (.iload_n 3, 1) := by decide +kernel
theorem dX3_readDigits_77 : decode cX3_readDigits 77 = .ok (.iconst 2, 1) := by decide +kernel
theorem dX3_readDigits_78 : decode cX3_readDigits 78 = .ok (.if_icmp .ne 13, 3) := by decide +kernel
theorem dX3_readDigits_81 : decode cX3_readDigits 81 = .ok (.iload_n 2, 1) := by decide +kernel
theorem dX3_readDigits_82 : decode cX3_readDigits 82 = .ok (.bipush 9, 2) := by decide +kernel
theorem dX3_readDigits_84 : decode cX3_readDigits 84 = .ok (.if_icmp .le 7, 3) := by decide +kernel
theorem dX3_readDigits_87 : decode cX3_readDigits 87 = .ok (.iconst 1, 1) := by decide +kernel
theorem dX3_readDigits_88 : decode cX3_readDigits 88 = .ok (.goto 4, 3) := by decide +kernel
theorem dX3_readDigits_91 : decode cX3_readDigits 91 = .ok (.iconst 0, 1) := by decide +kernel
theorem dX3_readDigits_92 : decode cX3_readDigits 92 = .ok (.istore 4, 2) := by decide +kernel
theorem dX3_readDigits_94 : decode cX3_readDigits 94 = .ok (.iload 4, 2) := by decide +kernel
theorem dX3_readDigits_96 : decode cX3_readDigits 96 = .ok (.ifCond .eq 7, 3) := by decide +kernel
theorem dX3_readDigits_99 : decode cX3_readDigits 99 = .ok (.iload_n 2, 1) := by decide +kernel
theorem dX3_readDigits_100 : decode cX3_readDigits 100 = .ok (.goto 4, 3) := by decide +kernel
theorem dX3_readDigits_103 : decode cX3_readDigits 103 = .ok (.iconst (-1), 1) := by decide +kernel
theorem dX3_readDigits_104 : decode cX3_readDigits 104 = .ok (.ireturn, 1) := by decide +kernel
def T_X3_readDigits : tk_Tb := [(0, tk_al 0 1), (1, tk_gI 3 2 4), (4, tk_sI 1 5), (5, tk_ic (0) 6), (6, tk_sI 2 7), (7, tk_al 0 8), (8, tk_gI 3 2 11), (11, tk_al 0 12), (12, tk_gI 3 1 15), (15, tk_cm (fun x y => y ≤ x) 64 18), (18, tk_al 0 19), (19, tk_gR 3 0 22), (22, tk_al 0 23), (23, tk_gI 3 2 26), (26, tk_ai 8 27), (27, tk_cs M_X3_isDigit 1 30), (30, tk_br (fun x => x = 0) 64 33), (33, tk_ic (10) 35), (35, tk_il 2 36), (36, tk_bi (fun x y => x * y) 37), (37, tk_al 0 38), (38, tk_gR 3 0 41), (41, tk_al 0 42), (42, tk_gI 3 2 45), (45, tk_ai 8 46), (46, tk_bi (fun x y => x + y) 47), (47, tk_ic (48) 49), (49, tk_bi (fun x y => x - y) 50), (50, tk_sI 2 51), (51, tk_al 0 52), (52, tk_dup 53), (53, tk_gI 3 2 56), (56, tk_ic (1) 57), (57, tk_bi (fun x y => x + y) 58), (58, tk_pI 3 2 61), (61, tk_jmp 7), (64, tk_al 0 65), (65, tk_gI 3 2 68), (68, tk_il 1 69), (69, tk_bi (fun x y => x - y) 70), (70, tk_sI 3 71), (71, tk_il 3 72), (72, tk_ic (1) 73), (73, tk_cm (fun x y => x = y) 87 76), (76, tk_il 3 77), (77, tk_ic (2) 78), (78, tk_cm (fun x y => x = y) 81 91), (81, tk_il 2 82), (82, tk_ic (9) 84), (84, tk_cm (fun x y => x ≤ y) 91 87), (87, tk_ic (1) 88), (88, tk_jmp 92), (91, tk_ic (0) 92), (92, tk_sI 4 94), (94, tk_il 4 96), (96, tk_br (fun x => x = 0) 103 99), (99, tk_il 2 100), (100, tk_jmp 104), (103, tk_ic (-1) 104), (104, tk_rI)]
set_option maxRecDepth 100000 in
theorem hT_X3_readDigits (sc : Option (Nat × (Nat → Int32))) : ∀ x ∈ T_X3_readDigits, tk_So sc M_X3_readDigits x.1 x.2 := by
  unfold T_X3_readDigits
  refine List.forall_mem_cons.mpr ⟨so_aload_n dX3_readDigits_0 rfl rfl, ?_⟩
  refine List.forall_mem_cons.mpr ⟨so_gI (C := RX3) (T := TX3) (N := 7) dX3_readDigits_1 (by decide) rfl rfl (by decide) rfl in_X3 wf_X3_28 rfl, ?_⟩
  refine List.forall_mem_cons.mpr ⟨so_istore_n dX3_readDigits_4 rfl rfl, ?_⟩
  refine List.forall_mem_cons.mpr ⟨so_iconst dX3_readDigits_5 (by decide) rfl, ?_⟩
  refine List.forall_mem_cons.mpr ⟨so_istore_n dX3_readDigits_6 rfl rfl, ?_⟩
  refine List.forall_mem_cons.mpr ⟨so_aload_n dX3_readDigits_7 rfl rfl, ?_⟩
  refine List.forall_mem_cons.mpr ⟨so_gI (C := RX3) (T := TX3) (N := 7) dX3_readDigits_8 (by decide) rfl rfl (by decide) rfl in_X3 wf_X3_28 rfl, ?_⟩
  refine List.forall_mem_cons.mpr ⟨so_aload_n dX3_readDigits_11 rfl rfl, ?_⟩
  refine List.forall_mem_cons.mpr ⟨so_gI (C := RX3) (T := TX3) (N := 7) dX3_readDigits_12 (by decide) rfl rfl (by decide) rfl in_X3 wf_X3_15 rfl, ?_⟩
  refine List.forall_mem_cons.mpr ⟨so_icmp_ge dX3_readDigits_15 (by decide) rfl, ?_⟩
  refine List.forall_mem_cons.mpr ⟨so_aload_n dX3_readDigits_18 rfl rfl, ?_⟩
  refine List.forall_mem_cons.mpr ⟨so_gR (C := RX3) (T := TX3) (N := 7) dX3_readDigits_19 (by decide) rfl rfl (by decide) rfl in_X3 wf_X3_9 rfl, ?_⟩
  refine List.forall_mem_cons.mpr ⟨so_aload_n dX3_readDigits_22 rfl rfl, ?_⟩
  refine List.forall_mem_cons.mpr ⟨so_gI (C := RX3) (T := TX3) (N := 7) dX3_readDigits_23 (by decide) rfl rfl (by decide) rfl in_X3 wf_X3_28 rfl, ?_⟩
  refine List.forall_mem_cons.mpr ⟨so_caload dX3_readDigits_26 rfl, ?_⟩
  refine List.forall_mem_cons.mpr ⟨so_cs dX3_readDigits_27 mv_X3_isDigit wm_X3_99 ⟨rfl, rfl⟩ (by decide) rfl, ?_⟩
  refine List.forall_mem_cons.mpr ⟨so_if_eq dX3_readDigits_30 (by decide) rfl, ?_⟩
  refine List.forall_mem_cons.mpr ⟨so_bipush dX3_readDigits_33 (by decide) rfl, ?_⟩
  refine List.forall_mem_cons.mpr ⟨so_iload_n dX3_readDigits_35 rfl rfl, ?_⟩
  refine List.forall_mem_cons.mpr ⟨so_imul dX3_readDigits_36 rfl, ?_⟩
  refine List.forall_mem_cons.mpr ⟨so_aload_n dX3_readDigits_37 rfl rfl, ?_⟩
  refine List.forall_mem_cons.mpr ⟨so_gR (C := RX3) (T := TX3) (N := 7) dX3_readDigits_38 (by decide) rfl rfl (by decide) rfl in_X3 wf_X3_9 rfl, ?_⟩
  refine List.forall_mem_cons.mpr ⟨so_aload_n dX3_readDigits_41 rfl rfl, ?_⟩
  refine List.forall_mem_cons.mpr ⟨so_gI (C := RX3) (T := TX3) (N := 7) dX3_readDigits_42 (by decide) rfl rfl (by decide) rfl in_X3 wf_X3_28 rfl, ?_⟩
  refine List.forall_mem_cons.mpr ⟨so_caload dX3_readDigits_45 rfl, ?_⟩
  refine List.forall_mem_cons.mpr ⟨so_iadd dX3_readDigits_46 rfl, ?_⟩
  refine List.forall_mem_cons.mpr ⟨so_bipush dX3_readDigits_47 (by decide) rfl, ?_⟩
  refine List.forall_mem_cons.mpr ⟨so_isub dX3_readDigits_49 rfl, ?_⟩
  refine List.forall_mem_cons.mpr ⟨so_istore_n dX3_readDigits_50 rfl rfl, ?_⟩
  refine List.forall_mem_cons.mpr ⟨so_aload_n dX3_readDigits_51 rfl rfl, ?_⟩
  refine List.forall_mem_cons.mpr ⟨so_dup dX3_readDigits_52 rfl, ?_⟩
  refine List.forall_mem_cons.mpr ⟨so_gI (C := RX3) (T := TX3) (N := 7) dX3_readDigits_53 (by decide) rfl rfl (by decide) rfl in_X3 wf_X3_28 rfl, ?_⟩
  refine List.forall_mem_cons.mpr ⟨so_iconst dX3_readDigits_56 (by decide) rfl, ?_⟩
  refine List.forall_mem_cons.mpr ⟨so_iadd dX3_readDigits_57 rfl, ?_⟩
  refine List.forall_mem_cons.mpr ⟨so_pI (C := RX3) (T := TX3) (N := 7) dX3_readDigits_58 (by decide) rfl rfl (by decide) rfl in_X3 wf_X3_28 tyX3 tyX3_ok nmX3 rfl (by decide +kernel) rfl, ?_⟩
  refine List.forall_mem_cons.mpr ⟨so_goto dX3_readDigits_61 (by decide), ?_⟩
  refine List.forall_mem_cons.mpr ⟨so_aload_n dX3_readDigits_64 rfl rfl, ?_⟩
  refine List.forall_mem_cons.mpr ⟨so_gI (C := RX3) (T := TX3) (N := 7) dX3_readDigits_65 (by decide) rfl rfl (by decide) rfl in_X3 wf_X3_28 rfl, ?_⟩
  refine List.forall_mem_cons.mpr ⟨so_iload_n dX3_readDigits_68 rfl rfl, ?_⟩
  refine List.forall_mem_cons.mpr ⟨so_isub dX3_readDigits_69 rfl, ?_⟩
  refine List.forall_mem_cons.mpr ⟨so_istore_n dX3_readDigits_70 rfl rfl, ?_⟩
  refine List.forall_mem_cons.mpr ⟨so_iload_n dX3_readDigits_71 rfl rfl, ?_⟩
  refine List.forall_mem_cons.mpr ⟨so_iconst dX3_readDigits_72 (by decide) rfl, ?_⟩
  refine List.forall_mem_cons.mpr ⟨so_icmp_eq dX3_readDigits_73 (by decide) rfl, ?_⟩
  refine List.forall_mem_cons.mpr ⟨so_iload_n dX3_readDigits_76 rfl rfl, ?_⟩
  refine List.forall_mem_cons.mpr ⟨so_iconst dX3_readDigits_77 (by decide) rfl, ?_⟩
  refine List.forall_mem_cons.mpr ⟨so_icmp_ne dX3_readDigits_78 (by decide) rfl, ?_⟩
  refine List.forall_mem_cons.mpr ⟨so_iload_n dX3_readDigits_81 rfl rfl, ?_⟩
  refine List.forall_mem_cons.mpr ⟨so_bipush dX3_readDigits_82 (by decide) rfl, ?_⟩
  refine List.forall_mem_cons.mpr ⟨so_icmp_le dX3_readDigits_84 (by decide) rfl, ?_⟩
  refine List.forall_mem_cons.mpr ⟨so_iconst dX3_readDigits_87 (by decide) rfl, ?_⟩
  refine List.forall_mem_cons.mpr ⟨so_goto dX3_readDigits_88 (by decide), ?_⟩
  refine List.forall_mem_cons.mpr ⟨so_iconst dX3_readDigits_91 (by decide) rfl, ?_⟩
  refine List.forall_mem_cons.mpr ⟨so_istore dX3_readDigits_92 rfl, ?_⟩
  refine List.forall_mem_cons.mpr ⟨so_iload dX3_readDigits_94 rfl, ?_⟩
  refine List.forall_mem_cons.mpr ⟨so_if_eq dX3_readDigits_96 (by decide) rfl, ?_⟩
  refine List.forall_mem_cons.mpr ⟨so_iload_n dX3_readDigits_99 rfl rfl, ?_⟩
  refine List.forall_mem_cons.mpr ⟨so_goto dX3_readDigits_100 (by decide), ?_⟩
  refine List.forall_mem_cons.mpr ⟨so_iconst dX3_readDigits_103 (by decide) rfl, ?_⟩
  refine List.forall_mem_cons.mpr ⟨so_rI dX3_readDigits_104 rfl, ?_⟩
  exact fun _ h => absurd h List.not_mem_nil
theorem dX3_readToken_0 : decode cX3_readToken 0 = .ok (.aload_n 0, 1) := by decide +kernel
theorem dX3_readToken_1 : decode cX3_readToken 1 = .ok (.getfield 28, 3) := by decide +kernel
theorem dX3_readToken_4 : decode cX3_readToken 4 = .ok (.aload_n 0, 1) := by decide +kernel
theorem dX3_readToken_5 : decode cX3_readToken 5 = .ok (.getfield 15, 3) := by decide +kernel
theorem dX3_readToken_8 : decode cX3_readToken 8 = .ok (.if_icmp .ge 30, 3) := by decide +kernel
theorem dX3_readToken_11 : decode cX3_readToken 11 = .ok (.aload_n 0, 1) := by decide +kernel
theorem dX3_readToken_12 : decode cX3_readToken 12 = .ok (.getfield 9, 3) := by decide +kernel
theorem dX3_readToken_15 : decode cX3_readToken 15 = .ok (.aload_n 0, 1) := by decide +kernel
theorem dX3_readToken_16 : decode cX3_readToken 16 = .ok (.getfield 28, 3) := by decide +kernel
theorem dX3_readToken_19 : decode cX3_readToken 19 = .ok (.caload, 1) := by decide +kernel
theorem dX3_readToken_20 : decode cX3_readToken 20 = .ok (.bipush 32, 2) := by decide +kernel
theorem dX3_readToken_22 : decode cX3_readToken 22 = .ok (.if_icmp .ne 16, 3) := by decide +kernel
theorem dX3_readToken_25 : decode cX3_readToken 25 = .ok (.aload_n 0, 1) := by decide +kernel
theorem dX3_readToken_26 : decode cX3_readToken 26 = .ok (.dup, 1) := by decide +kernel
theorem dX3_readToken_27 : decode cX3_readToken 27 = .ok (.getfield 28, 3) := by decide +kernel
theorem dX3_readToken_30 : decode cX3_readToken 30 = .ok (.iconst 1, 1) := by decide +kernel
theorem dX3_readToken_31 : decode cX3_readToken 31 = .ok (.iadd, 1) := by decide +kernel
theorem dX3_readToken_32 : decode cX3_readToken 32 = .ok (.putfield 28, 3) := by decide +kernel
theorem dX3_readToken_35 : decode cX3_readToken 35 = .ok (.goto (-35), 3) := by decide +kernel
theorem dX3_readToken_38 : decode cX3_readToken 38 = .ok (.aload_n 0, 1) := by decide +kernel
theorem dX3_readToken_39 : decode cX3_readToken 39 = .ok (.aload_n 0, 1) := by decide +kernel
theorem dX3_readToken_40 : decode cX3_readToken 40 = .ok (.getfield 28, 3) := by decide +kernel
theorem dX3_readToken_43 : decode cX3_readToken 43 = .ok (.putfield 41, 3) := by decide +kernel
theorem dX3_readToken_46 : decode cX3_readToken 46 = .ok (.aload_n 0, 1) := by decide +kernel
theorem dX3_readToken_47 : decode cX3_readToken 47 = .ok (.getfield 28, 3) := by decide +kernel
theorem dX3_readToken_50 : decode cX3_readToken 50 = .ok (.aload_n 0, 1) := by decide +kernel
theorem dX3_readToken_51 : decode cX3_readToken 51 = .ok (.getfield 15, 3) := by decide +kernel
theorem dX3_readToken_54 : decode cX3_readToken 54 = .ok (.if_icmp .lt 11, 3) := by decide +kernel
theorem dX3_readToken_57 : decode cX3_readToken 57 = .ok (.aload_n 0, 1) := by decide +kernel
theorem dX3_readToken_58 : decode cX3_readToken 58 = .ok (.iconst (-1), 1) := by decide +kernel
theorem dX3_readToken_59 : decode cX3_readToken 59 = .ok (.putfield 34, 3) := by decide +kernel
theorem dX3_readToken_62 : decode cX3_readToken 62 = .ok (.goto 58, 3) := by decide +kernel
theorem dX3_readToken_65 : decode cX3_readToken 65 = .ok (.aload_n 0, 1) := by decide +kernel
theorem dX3_readToken_66 : decode cX3_readToken 66 = .ok (.getfield 9, 3) := by decide +kernel
theorem dX3_readToken_69 : decode cX3_readToken 69 = .ok (.aload_n 0, 1) := by decide +kernel
theorem dX3_readToken_70 : decode cX3_readToken 70 = .ok (.getfield 28, 3) := by decide +kernel
theorem dX3_readToken_73 : decode cX3_readToken 73 = .ok (.caload, 1) := by decide +kernel
theorem dX3_readToken_74 : decode cX3_readToken 74 = .ok (.invokestatic 99, 3) := by decide +kernel
theorem dX3_readToken_77 : decode cX3_readToken 77 = .ok (.ifCond .eq 20, 3) := by decide +kernel
theorem dX3_readToken_80 : decode cX3_readToken 80 = .ok (.aload_n 0, 1) := by decide +kernel
theorem dX3_readToken_81 : decode cX3_readToken 81 = .ok (.bipush (-2), 2) := by decide +kernel
theorem dX3_readToken_83 : decode cX3_readToken 83 = .ok (.putfield 34, 3) := by decide +kernel
theorem dX3_readToken_86 : decode cX3_readToken 86 = .ok (.aload_n 0, 1) := by decide +kernel
theorem dX3_readToken_87 : decode cX3_readToken 87 = .ok (.aload_n 0, 1) := by decide +kernel
theorem dX3_readToken_88 : decode cX3_readToken 88 = .ok (.invokevirtual 103, 3) := by decide +kernel
theorem dX3_readToken_91 : decode cX3_readToken 91 = .ok (.putfield 70, 3) := by decide +kernel
theorem dX3_readToken_94 : decode cX3_readToken 94 = .ok (.goto 26, 3) := by decide +kernel
theorem dX3_readToken_97 : decode cX3_readToken 97 = .ok (.aload_n 0, 1) := by decide +kernel
theorem dX3_readToken_98 : decode cX3_readToken 98 = .ok (.aload_n 0, 1) := by decide +kernel
theorem dX3_readToken_99 : decode cX3_readToken 99 = .ok (.getfield 9, 3) := by decide +kernel
theorem dX3_readToken_102 : decode cX3_readToken 102 = .ok (.aload_n 0, 1) := by decide +kernel
theorem dX3_readToken_103 : decode cX3_readToken 103 = .ok (.getfield 28, 3) := by decide +kernel
theorem dX3_readToken_106 : decode cX3_readToken 106 = .ok (.caload, 1) := by decide +kernel
theorem dX3_readToken_107 : decode cX3_readToken 107 = .ok (.putfield 34, 3) := by decide +kernel
theorem dX3_readToken_110 : decode cX3_readToken 110 = .ok (.aload_n 0, 1) := by decide +kernel
theorem dX3_readToken_111 : decode cX3_readToken 111 = .ok (.dup, 1) := by decide +kernel
theorem dX3_readToken_112 : decode cX3_readToken 112 = .ok (.getfield 28, 3) := by decide +kernel
theorem dX3_readToken_115 : decode cX3_readToken 115 = .ok (.iconst 1, 1) := by decide +kernel
theorem dX3_readToken_116 : decode cX3_readToken 116 = .ok (.iadd, 1) := by decide +kernel
theorem dX3_readToken_117 : decode cX3_readToken 117 = .ok (.putfield 28, 3) := by decide +kernel
theorem dX3_readToken_120 : decode cX3_readToken 120 = .ok (.return_, 1) := by decide +kernel
def T_X3_readToken : tk_Tb := [(0, tk_al 0 1), (1, tk_gI 3 2 4), (4, tk_al 0 5), (5, tk_gI 3 1 8), (8, tk_cm (fun x y => y ≤ x) 38 11), (11, tk_al 0 12), (12, tk_gR 3 0 15), (15, tk_al 0 16), (16, tk_gI 3 2 19), (19, tk_ai 8 20), (20, tk_ic (32) 22), (22, tk_cm (fun x y => x = y) 25 38), (25, tk_al 0 26), (26, tk_dup 27), (27, tk_gI 3 2 30), (30, tk_ic (1) 31), (31, tk_bi (fun x y => x + y) 32), (32, tk_pI 3 2 35), (35, tk_jmp 0), (38, tk_al 0 39), (39, tk_al 0 40), (40, tk_gI 3 2 43), (43, tk_pI 3 4 46), (46, tk_al 0 47), (47, tk_gI 3 2 50), (50, tk_al 0 51), (51, tk_gI 3 1 54), (54, tk_cm (fun x y => x < y) 65 57), (57, tk_al 0 58), (58, tk_ic (-1) 59), (59, tk_pI 3 3 62), (62, tk_jmp 120), (65, tk_al 0 66), (66, tk_gR 3 0 69), (69, tk_al 0 70), (70, tk_gI 3 2 73), (73, tk_ai 8 74), (74, tk_cs M_X3_isDigit 1 77), (77, tk_br (fun x => x = 0) 97 80), (80, tk_al 0 81), (81, tk_ic (-2) 83), (83, tk_pI 3 3 86), (86, tk_al 0 87), (87, tk_al 0 88), (88, tk_cv 3 M_X3_readDigits 0 91), (91, tk_pI 3 5 94), (94, tk_jmp 120), (97, tk_al 0 98), (98, tk_al 0 99), (99, tk_gR 3 0 102), (102, tk_al 0 103), (103, tk_gI 3 2 106), (106, tk_ai 8 107), (107, tk_pI 3 3 110), (110, tk_al 0 111), (111, tk_dup 112), (112, tk_gI 3 2 115), (115, tk_ic (1) 116), (116, tk_bi (fun x y => x + y) 117), (117, tk_pI 3 2 120), (120, tk_rV)]
set_option maxRecDepth 100000 in
theorem hT_X3_readToken (sc : Option (Nat × (Nat → Int32))) : ∀ x ∈ T_X3_readToken, tk_So sc M_X3_readToken x.1 x.2 := by
  unfold T_X3_readToken
  refine List.forall_mem_cons.mpr ⟨so_aload_n dX3_readToken_0 rfl rfl, ?_⟩
  refine List.forall_mem_cons.mpr ⟨so_gI (C := RX3) (T := TX3) (N := 7) dX3_readToken_1 (by decide) rfl rfl (by decide) rfl in_X3 wf_X3_28 rfl, ?_⟩
  refine List.forall_mem_cons.mpr ⟨so_aload_n dX3_readToken_4 rfl rfl, ?_⟩
  refine List.forall_mem_cons.mpr ⟨so_gI (C := RX3) (T := TX3) (N := 7) dX3_readToken_5 (by decide) rfl rfl (by decide) rfl in_X3 wf_X3_15 rfl, ?_⟩
  refine List.forall_mem_cons.mpr ⟨so_icmp_ge dX3_readToken_8 (by decide) rfl, ?_⟩
  refine List.forall_mem_cons.mpr ⟨so_aload_n dX3_readToken_11 rfl rfl, ?_⟩
  refine List.forall_mem_cons.mpr ⟨so_gR (C := RX3) (T := TX3) (N := 7) dX3_readToken_12 (by decide) rfl rfl (by decide) rfl in_X3 wf_X3_9 rfl, ?_⟩
  refine List.forall_mem_cons.mpr ⟨so_aload_n dX3_readToken_15 rfl rfl, ?_⟩
  refine List.forall_mem_cons.mpr ⟨so_gI (C := RX3) (T := TX3) (N := 7) dX3_readToken_16 (by decide) rfl rfl (by decide) rfl in_X3 wf_X3_28 rfl, ?_⟩
  refine List.forall_mem_cons.mpr ⟨so_caload dX3_readToken_19 rfl, ?_⟩
  refine List.forall_mem_cons.mpr ⟨so_bipush dX3_readToken_20 (by decide) rfl, ?_⟩
  refine List.forall_mem_cons.mpr ⟨so_icmp_ne dX3_readToken_22 (by decide) rfl, ?_⟩
  refine List.forall_mem_cons.mpr ⟨so_aload_n dX3_readToken_25 rfl rfl, ?_⟩
  refine List.forall_mem_cons.mpr ⟨so_dup dX3_readToken_26 rfl, ?_⟩
  refine List.forall_mem_cons.mpr ⟨so_gI (C := RX3) (T := TX3) (N := 7) dX3_readToken_27 (by decide) rfl rfl (by decide) rfl in_X3 wf_X3_28 rfl, ?_⟩
  refine List.forall_mem_cons.mpr ⟨so_iconst dX3_readToken_30 (by decide) rfl, ?_⟩
  refine List.forall_mem_cons.mpr ⟨so_iadd dX3_readToken_31 rfl, ?_⟩
  refine List.forall_mem_cons.mpr ⟨so_pI (C := RX3) (T := TX3) (N := 7) dX3_readToken_32 (by decide) rfl rfl (by decide) rfl in_X3 wf_X3_28 tyX3 tyX3_ok nmX3 rfl (by decide +kernel) rfl, ?_⟩
  refine List.forall_mem_cons.mpr ⟨so_goto dX3_readToken_35 (by decide), ?_⟩
  refine List.forall_mem_cons.mpr ⟨so_aload_n dX3_readToken_38 rfl rfl, ?_⟩
  refine List.forall_mem_cons.mpr ⟨so_aload_n dX3_readToken_39 rfl rfl, ?_⟩
  refine List.forall_mem_cons.mpr ⟨so_gI (C := RX3) (T := TX3) (N := 7) dX3_readToken_40 (by decide) rfl rfl (by decide) rfl in_X3 wf_X3_28 rfl, ?_⟩
  refine List.forall_mem_cons.mpr ⟨so_pI (C := RX3) (T := TX3) (N := 7) dX3_readToken_43 (by decide) rfl rfl (by decide) rfl in_X3 wf_X3_41 tyX3 tyX3_ok nmX3 rfl (by decide +kernel) rfl, ?_⟩
  refine List.forall_mem_cons.mpr ⟨so_aload_n dX3_readToken_46 rfl rfl, ?_⟩
  refine List.forall_mem_cons.mpr ⟨so_gI (C := RX3) (T := TX3) (N := 7) dX3_readToken_47 (by decide) rfl rfl (by decide) rfl in_X3 wf_X3_28 rfl, ?_⟩
  refine List.forall_mem_cons.mpr ⟨so_aload_n dX3_readToken_50 rfl rfl, ?_⟩
  refine List.forall_mem_cons.mpr ⟨so_gI (C := RX3) (T := TX3) (N := 7) dX3_readToken_51 (by decide) rfl rfl (by decide) rfl in_X3 wf_X3_15 rfl, ?_⟩
  refine List.forall_mem_cons.mpr ⟨so_icmp_lt dX3_readToken_54 (by decide) rfl, ?_⟩
  refine List.forall_mem_cons.mpr ⟨so_aload_n dX3_readToken_57 rfl rfl, ?_⟩
  refine List.forall_mem_cons.mpr ⟨so_iconst dX3_readToken_58 (by decide) rfl, ?_⟩
  refine List.forall_mem_cons.mpr ⟨so_pI (C := RX3) (T := TX3) (N := 7) dX3_readToken_59 (by decide) rfl rfl (by decide) rfl in_X3 wf_X3_34 tyX3 tyX3_ok nmX3 rfl (by decide +kernel) rfl, ?_⟩
  refine List.forall_mem_cons.mpr ⟨so_goto dX3_readToken_62 (by decide), ?_⟩
  refine List.forall_mem_cons.mpr ⟨so_aload_n dX3_readToken_65 rfl rfl, ?_⟩
  refine List.forall_mem_cons.mpr ⟨so_gR (C := RX3) (T := TX3) (N := 7) dX3_readToken_66 (by decide) rfl rfl (by decide) rfl in_X3 wf_X3_9 rfl, ?_⟩
  refine List.forall_mem_cons.mpr ⟨so_aload_n dX3_readToken_69 rfl rfl, ?_⟩
  refine List.forall_mem_cons.mpr ⟨so_gI (C := RX3) (T := TX3) (N := 7) dX3_readToken_70 (by decide) rfl rfl (by decide) rfl in_X3 wf_X3_28 rfl, ?_⟩
  refine List.forall_mem_cons.mpr ⟨so_caload dX3_readToken_73 rfl, ?_⟩
  refine List.forall_mem_cons.mpr ⟨so_cs dX3_readToken_74 mv_X3_isDigit wm_X3_99 ⟨rfl, rfl⟩ (by decide) rfl, ?_⟩
  refine List.forall_mem_cons.mpr ⟨so_if_eq dX3_readToken_77 (by decide) rfl, ?_⟩
  refine List.forall_mem_cons.mpr ⟨so_aload_n dX3_readToken_80 rfl rfl, ?_⟩
  refine List.forall_mem_cons.mpr ⟨so_bipush dX3_readToken_81 (by decide) rfl, ?_⟩
  refine List.forall_mem_cons.mpr ⟨so_pI (C := RX3) (T := TX3) (N := 7) dX3_readToken_83 (by decide) rfl rfl (by decide) rfl in_X3 wf_X3_34 tyX3 tyX3_ok nmX3 rfl (by decide +kernel) rfl, ?_⟩
  refine List.forall_mem_cons.mpr ⟨so_aload_n dX3_readToken_86 rfl rfl, ?_⟩
  refine List.forall_mem_cons.mpr ⟨so_aload_n dX3_readToken_87 rfl rfl, ?_⟩
  refine List.forall_mem_cons.mpr ⟨so_cv (T := TX3) (N := 7) dX3_readToken_88 mv_X3_readDigits wm_X3_103 (by decide) rfl ⟨rfl, rfl⟩ (by decide) rfl, ?_⟩
  refine List.forall_mem_cons.mpr ⟨so_pI (C := RX3) (T := TX3) (N := 7) dX3_readToken_91 (by decide) rfl rfl (by decide) rfl in_X3 wf_X3_70 tyX3 tyX3_ok nmX3 rfl (by decide +kernel) rfl, ?_⟩
  refine List.forall_mem_cons.mpr ⟨so_goto dX3_readToken_94 (by decide), ?_⟩
  refine List.forall_mem_cons.mpr ⟨so_aload_n dX3_readToken_97 rfl rfl, ?_⟩
  refine List.forall_mem_cons.mpr ⟨so_aload_n dX3_readToken_98 rfl rfl, ?_⟩
  refine List.forall_mem_cons.mpr ⟨so_gR (C := RX3) (T := TX3) (N := 7) dX3_readToken_99 (by decide) rfl rfl (by decide) rfl in_X3 wf_X3_9 rfl, ?_⟩
  refine List.forall_mem_cons.mpr ⟨so_aload_n dX3_readToken_102 rfl rfl, ?_⟩
  refine List.forall_mem_cons.mpr ⟨so_gI (C := RX3) (T := TX3) (N := 7) dX3_readToken_103 (by decide) rfl rfl (by decide) rfl in_X3 wf_X3_28 rfl, ?_⟩
  refine List.forall_mem_cons.mpr ⟨so_caload dX3_readToken_106 rfl, ?_⟩
  refine List.forall_mem_cons.mpr ⟨so_pI (C := RX3) (T := TX3) (N := 7) dX3_readToken_107 (by decide) rfl rfl (by decide) rfl in_X3 wf_X3_34 tyX3 tyX3_ok nmX3 rfl (by decide +kernel) rfl, ?_⟩
  refine List.forall_mem_cons.mpr ⟨so_aload_n dX3_readToken_110 rfl rfl, ?_⟩
  refine List.forall_mem_cons.mpr ⟨so_dup dX3_readToken_111 rfl, ?_⟩
  refine List.forall_mem_cons.mpr ⟨so_gI (C := RX3) (T := TX3) (N := 7) dX3_readToken_112 (by decide) rfl rfl (by decide) rfl in_X3 wf_X3_28 rfl, ?_⟩
  refine List.forall_mem_cons.mpr ⟨so_iconst dX3_readToken_115 (by decide) rfl, ?_⟩
  refine List.forall_mem_cons.mpr ⟨so_iadd dX3_readToken_116 rfl, ?_⟩
  refine List.forall_mem_cons.mpr ⟨so_pI (C := RX3) (T := TX3) (N := 7) dX3_readToken_117 (by decide) rfl rfl (by decide) rfl in_X3 wf_X3_28 tyX3 tyX3_ok nmX3 rfl (by decide +kernel) rfl, ?_⟩
  refine List.forall_mem_cons.mpr ⟨so_rV dX3_readToken_120 rfl, ?_⟩
  exact fun _ h => absurd h List.not_mem_nil
theorem dX3_readNumber_0 : decode cX3_readNumber 0 = .ok (.aload_n 0, 1) := by decide +kernel
theorem dX3_readNumber_1 : decode cX3_readNumber 1 = .ok (.invokevirtual 31, 3) := by decide +kernel
theorem dX3_readNumber_4 : decode cX3_readNumber 4 = .ok (.aload_n 0, 1) := by decide +kernel
theorem dX3_readNumber_5 : decode cX3_readNumber 5 = .ok (.getfield 34, 3) := by decide +kernel
theorem dX3_readNumber_8 : decode cX3_readNumber 8 = .ok (.bipush (-2), 2) := by decide +kernel
theorem dX3_readNumber_10 : decode cX3_readNumber 10 = .ok (.if_icmp .ne 19, 3) := by decide +kernel
theorem dX3_readNumber_13 : decode cX3_readNumber 13 = .ok (.aload_n 0, 1) := by decide +kernel
theorem dX3_readNumber_14 : decode cX3_readNumber 14 = .ok (.getfield 70, 3) := by decide +kernel
theorem dX3_readNumber_17 : decode cX3_readNumber 17 = .ok (.iload_n 1, 1) := by decide +kernel
theorem dX3_readNumber_18 : decode cX3_readNumber 18 = .ok (.iload_n 2, 1) := by decide +kernel
theorem dX3_readNumber_19 : decode cX3_readNumber 19 = .ok (.invokestatic 95, 3) := by decide +kernel
theorem dX3_readNumber_22 : decode cX3_readNumber 22 = .ok (.ifCond .eq 7, 3) := by decide +kernel
theorem dX3_readNumber_25 : decode cX3_readNumber 25 = .ok (.iconst 1, 1) := by decide +kernel
theorem dX3_readNumber_26 : decode cX3_readNumber 26 = .ok (.goto 4, 3) := by decide +kernel
theorem dX3_readNumber_29 : decode cX3_readNumber 29 = .ok (.iconst 0, 1) := by decide +kernel
theorem dX3_readNumber_30 : decode cX3_readNumber 30 = .ok (.ireturn, 1) := by decide +kernel
def T_X3_readNumber : tk_Tb := [(0, tk_al 0 1), (1, tk_cv 3 M_X3_readToken 0 4), (4, tk_al 0 5), (5, tk_gI 3 3 8), (8, tk_ic (-2) 10), (10, tk_cm (fun x y => x = y) 13 29), (13, tk_al 0 14), (14, tk_gI 3 5 17), (17, tk_il 1 18), (18, tk_il 2 19), (19, tk_cs M_X6_isWithin 3 22), (22, tk_br (fun x => x = 0) 29 25), (25, tk_ic (1) 26), (26, tk_jmp 30), (29, tk_ic (0) 30), (30, tk_rZ)]
set_option maxRecDepth 100000 in
theorem hT_X3_readNumber (sc : Option (Nat × (Nat → Int32))) : ∀ x ∈ T_X3_readNumber, tk_So sc M_X3_readNumber x.1 x.2 := by
  unfold T_X3_readNumber
  refine List.forall_mem_cons.mpr ⟨so_aload_n dX3_readNumber_0 rfl rfl, ?_⟩
  refine List.forall_mem_cons.mpr ⟨so_cv (T := TX3) (N := 7) dX3_readNumber_1 mv_X3_readToken wm_X3_31 (by decide) rfl ⟨rfl, rfl⟩ (by decide) rfl, ?_⟩
  refine List.forall_mem_cons.mpr ⟨so_aload_n dX3_readNumber_4 rfl rfl, ?_⟩
  refine List.forall_mem_cons.mpr ⟨so_gI (C := RX3) (T := TX3) (N := 7) dX3_readNumber_5 (by decide) rfl rfl (by decide) rfl in_X3 wf_X3_34 rfl, ?_⟩
  refine List.forall_mem_cons.mpr ⟨so_bipush dX3_readNumber_8 (by decide) rfl, ?_⟩
  refine List.forall_mem_cons.mpr ⟨so_icmp_ne dX3_readNumber_10 (by decide) rfl, ?_⟩
  refine List.forall_mem_cons.mpr ⟨so_aload_n dX3_readNumber_13 rfl rfl, ?_⟩
  refine List.forall_mem_cons.mpr ⟨so_gI (C := RX3) (T := TX3) (N := 7) dX3_readNumber_14 (by decide) rfl rfl (by decide) rfl in_X3 wf_X3_70 rfl, ?_⟩
  refine List.forall_mem_cons.mpr ⟨so_iload_n dX3_readNumber_17 rfl rfl, ?_⟩
  refine List.forall_mem_cons.mpr ⟨so_iload_n dX3_readNumber_18 rfl rfl, ?_⟩
  refine List.forall_mem_cons.mpr ⟨so_csN dX3_readNumber_19 mv_X6_isWithin wm_X3_95 ⟨rfl, rfl⟩ (by decide) rfl, ?_⟩
  refine List.forall_mem_cons.mpr ⟨so_if_eq dX3_readNumber_22 (by decide) rfl, ?_⟩
  refine List.forall_mem_cons.mpr ⟨so_iconst dX3_readNumber_25 (by decide) rfl, ?_⟩
  refine List.forall_mem_cons.mpr ⟨so_goto dX3_readNumber_26 (by decide), ?_⟩
  refine List.forall_mem_cons.mpr ⟨so_iconst dX3_readNumber_29 (by decide) rfl, ?_⟩
  refine List.forall_mem_cons.mpr ⟨so_rZ dX3_readNumber_30 rfl, ?_⟩
  exact fun _ h => absurd h List.not_mem_nil
theorem dX3_readDrain_0 : decode cX3_readDrain 0 = .ok (.aload_n 0, 1) := by decide +kernel
theorem dX3_readDrain_1 : decode cX3_readDrain 1 = .ok (.iconst 0, 1) := by decide +kernel
theorem dX3_readDrain_2 : decode cX3_readDrain 2 = .ok (.aload_n 1, 1) := by decide +kernel
theorem dX3_readDrain_3 : decode cX3_readDrain 3 = .ok (.getfield 81, 3) := by decide +kernel
theorem dX3_readDrain_6 : decode cX3_readDrain 6 = .ok (.iconst 1, 1) := by decide +kernel
theorem dX3_readDrain_7 : decode cX3_readDrain 7 = .ok (.isub, 1) := by decide +kernel
theorem dX3_readDrain_8 : decode cX3_readDrain 8 = .ok (.invokevirtual 66, 3) := by decide +kernel
theorem dX3_readDrain_11 : decode cX3_readDrain 11 = .ok (.ifCond .ne 5, 3) := by decide +kernel
theorem dX3_readDrain_14 : decode cX3_readDrain 14 = .ok (.iconst 0, 1) := by decide +kernel
theorem dX3_readDrain_15 : decode cX3_readDrain 15 = .ok (.ireturn, 1) := by decide +kernel
theorem dX3_readDrain_16 : decode cX3_readDrain 16 = .ok (.aload_n 0, 1) := by decide +kernel
theorem dX3_readDrain_17 : decode cX3_readDrain 17 = .ok (.getfield 70, 3) := by decide +kernel
theorem dX3_readDrain_20 : decode cX3_readDrain 20 = .ok (.istore_n 2, 1) := by decide +kernel
theorem dX3_readDrain_21 : decode cX3_readDrain 21 = .ok (.aload_n 0, 1) := by decide +kernel
theorem dX3_readDrain_22 : decode cX3_readDrain 22 = .ok (.iconst 0, 1) := by decide +kernel
theorem dX3_readDrain_23 : decode cX3_readDrain 23 = .ok (.aload_n 1, 1) := by decide +kernel
theorem dX3_readDrain_24 : decode cX3_readDrain 24 = .ok (.getfield 81, 3) := by decide +kernel
theorem dX3_readDrain_27 : decode cX3_readDrain 27 = .ok (.iconst 1, 1) := by decide +kernel
theorem dX3_readDrain_28 : decode cX3_readDrain 28 = .ok (.isub, 1) := by decide +kernel
theorem dX3_readDrain_29 : decode cX3_readDrain 29 = .ok (.invokevirtual 66, 3) := by decide +kernel
theorem dX3_readDrain_32 : decode cX3_readDrain 32 = .ok (.ifCond .ne 5, 3) := by decide +kernel
theorem dX3_readDrain_35 : decode cX3_readDrain 35 = .ok (.iconst 0, 1) := by decide +kernel
theorem dX3_readDrain_36 : decode cX3_readDrain 36 = .ok (.ireturn, 1) := by decide +kernel
theorem dX3_readDrain_37 : decode cX3_readDrain 37 = .ok (.aload_n 0, 1) := by decide +kernel
theorem dX3_readDrain_38 : decode cX3_readDrain 38 = .ok (.getfield 70, 3) := by decide +kernel
theorem dX3_readDrain_41 : decode cX3_readDrain 41 = .ok (.istore_n 3, 1) := by decide +kernel
theorem dX3_readDrain_42 : decode cX3_readDrain 42 = .ok (.aload_n 0, 1) := by decide +kernel
theorem dX3_readDrain_43 : decode cX3_readDrain 43 = .ok (.iconst 1, 1) := by decide +kernel
theorem dX3_readDrain_44 : decode cX3_readDrain 44 = .ok (.iconst 4, 1) := by decide +kernel
theorem dX3_readDrain_45 : decode cX3_readDrain 45 = .ok (.invokevirtual 66, 3) := by decide +kernel
theorem dX3_readDrain_48 : decode cX3_readDrain 48 = .ok (.ifCond .ne 5, 3) := by decide +kernel
theorem dX3_readDrain_51 : decode cX3_readDrain 51 = .ok (.iconst 0, 1) := by decide +kernel
theorem dX3_readDrain_52 : decode cX3_readDrain 52 = .ok (.ireturn, 1) := by decide +kernel
theorem dX3_readDrain_53 : decode cX3_readDrain 53 = .ok (.aload_n 1, 1) := by decide +kernel
theorem dX3_readDrain_54 : decode cX3_readDrain 54 = .ok (.getfield 84, 3) := by decide +kernel
theorem dX3_readDrain_57 : decode cX3_readDrain 57 = .ok (.iload_n 2, 1) := by decide +kernel
theorem dX3_readDrain_58 : decode cX3_readDrain 58 = .ok (.iload_n 3, 1) := by decide +kernel
theorem dX3_readDrain_59 : decode cX3_readDrain 59 = .ok (.iastore, 1) := by decide +kernel
theorem dX3_readDrain_60 : decode cX3_readDrain 60 = .ok (.aload_n 1, 1) := by decide +kernel
theorem dX3_readDrain_61 : decode cX3_readDrain 61 = .ok (.getfield 88, 3) := by decide +kernel
theorem dX3_readDrain_64 : decode cX3_readDrain 64 = .ok (.iload_n 2, 1) := by decide +kernel
theorem dX3_readDrain_65 : decode cX3_readDrain 65 = .ok (.aload_n 0, 1) := by decide +kernel
theorem dX3_readDrain_66 : decode cX3_readDrain 66 = .ok (.getfield 70, 3) := by decide +kernel
theorem dX3_readDrain_69 : decode cX3_readDrain 69 = .ok (.iastore, 1) := by decide +kernel
theorem dX3_readDrain_70 : decode cX3_readDrain 70 = .ok (.iconst 1, 1) := by decide +kernel
theorem dX3_readDrain_71 : decode cX3_readDrain 71 = .ok (.ireturn, 1) := by decide +kernel
def T_X3_readDrain : tk_Tb := [(0, tk_al 0 1), (1, tk_ic (0) 2), (2, tk_al 1 3), (3, tk_gI 5 3 6), (6, tk_ic (1) 7), (7, tk_bi (fun x y => x - y) 8), (8, tk_cv 3 M_X3_readNumber 2 11), (11, tk_br (fun x => x = 0) 14 16), (14, tk_ic (0) 15), (15, tk_rZ), (16, tk_al 0 17), (17, tk_gI 3 5 20), (20, tk_sI 2 21), (21, tk_al 0 22), (22, tk_ic (0) 23), (23, tk_al 1 24), (24, tk_gI 5 3 27), (27, tk_ic (1) 28), (28, tk_bi (fun x y => x - y) 29), (29, tk_cv 3 M_X3_readNumber 2 32), (32, tk_br (fun x => x = 0) 35 37), (35, tk_ic (0) 36), (36, tk_rZ), (37, tk_al 0 38), (38, tk_gI 3 5 41), (41, tk_sI 3 42), (42, tk_al 0 43), (43, tk_ic (1) 44), (44, tk_ic (4) 45), (45, tk_cv 3 M_X3_readNumber 2 48), (48, tk_br (fun x => x = 0) 51 53), (51, tk_ic (0) 52), (52, tk_rZ), (53, tk_al 1 54), (54, tk_gR 5 7 57), (57, tk_il 2 58), (58, tk_il 3 59), (59, tk_si 9 (fun x => x) 60), (60, tk_al 1 61), (61, tk_gR 5 8 64), (64, tk_il 2 65), (65, tk_al 0 66), (66, tk_gI 3 5 69), (69, tk_si 9 (fun x => x) 70), (70, tk_ic (1) 71), (71, tk_rZ)]
set_option maxRecDepth 100000 in
theorem hT_X3_readDrain (sc : Option (Nat × (Nat → Int32))) : ∀ x ∈ T_X3_readDrain, tk_So sc M_X3_readDrain x.1 x.2 := by
  unfold T_X3_readDrain
  refine List.forall_mem_cons.mpr ⟨so_aload_n dX3_readDrain_0 rfl rfl, ?_⟩
  refine List.forall_mem_cons.mpr ⟨so_iconst dX3_readDrain_1 (by decide) rfl, ?_⟩
  refine List.forall_mem_cons.mpr ⟨so_aload_n dX3_readDrain_2 rfl rfl, ?_⟩
  refine List.forall_mem_cons.mpr ⟨so_gI (C := RX5) (T := TX5) (N := 10) dX3_readDrain_3 (by decide) rfl rfl (by decide) rfl in_X5 wf_X3_81 rfl, ?_⟩
  refine List.forall_mem_cons.mpr ⟨so_iconst dX3_readDrain_6 (by decide) rfl, ?_⟩
  refine List.forall_mem_cons.mpr ⟨so_isub dX3_readDrain_7 rfl, ?_⟩
  refine List.forall_mem_cons.mpr ⟨so_cv (T := TX3) (N := 7) dX3_readDrain_8 mv_X3_readNumber wm_X3_66 (by decide) rfl ⟨rfl, rfl⟩ (by decide) rfl, ?_⟩
  refine List.forall_mem_cons.mpr ⟨so_if_ne dX3_readDrain_11 (by decide) rfl, ?_⟩
  refine List.forall_mem_cons.mpr ⟨so_iconst dX3_readDrain_14 (by decide) rfl, ?_⟩
  refine List.forall_mem_cons.mpr ⟨so_rZ dX3_readDrain_15 rfl, ?_⟩
  refine List.forall_mem_cons.mpr ⟨so_aload_n dX3_readDrain_16 rfl rfl, ?_⟩
  refine List.forall_mem_cons.mpr ⟨so_gI (C := RX3) (T := TX3) (N := 7) dX3_readDrain_17 (by decide) rfl rfl (by decide) rfl in_X3 wf_X3_70 rfl, ?_⟩
  refine List.forall_mem_cons.mpr ⟨so_istore_n dX3_readDrain_20 rfl rfl, ?_⟩
  refine List.forall_mem_cons.mpr ⟨so_aload_n dX3_readDrain_21 rfl rfl, ?_⟩
  refine List.forall_mem_cons.mpr ⟨so_iconst dX3_readDrain_22 (by decide) rfl, ?_⟩
  refine List.forall_mem_cons.mpr ⟨so_aload_n dX3_readDrain_23 rfl rfl, ?_⟩
  refine List.forall_mem_cons.mpr ⟨so_gI (C := RX5) (T := TX5) (N := 10) dX3_readDrain_24 (by decide) rfl rfl (by decide) rfl in_X5 wf_X3_81 rfl, ?_⟩
  refine List.forall_mem_cons.mpr ⟨so_iconst dX3_readDrain_27 (by decide) rfl, ?_⟩
  refine List.forall_mem_cons.mpr ⟨so_isub dX3_readDrain_28 rfl, ?_⟩
  refine List.forall_mem_cons.mpr ⟨so_cv (T := TX3) (N := 7) dX3_readDrain_29 mv_X3_readNumber wm_X3_66 (by decide) rfl ⟨rfl, rfl⟩ (by decide) rfl, ?_⟩
  refine List.forall_mem_cons.mpr ⟨so_if_ne dX3_readDrain_32 (by decide) rfl, ?_⟩
  refine List.forall_mem_cons.mpr ⟨so_iconst dX3_readDrain_35 (by decide) rfl, ?_⟩
  refine List.forall_mem_cons.mpr ⟨so_rZ dX3_readDrain_36 rfl, ?_⟩
  refine List.forall_mem_cons.mpr ⟨so_aload_n dX3_readDrain_37 rfl rfl, ?_⟩
  refine List.forall_mem_cons.mpr ⟨so_gI (C := RX3) (T := TX3) (N := 7) dX3_readDrain_38 (by decide) rfl rfl (by decide) rfl in_X3 wf_X3_70 rfl, ?_⟩
  refine List.forall_mem_cons.mpr ⟨so_istore_n dX3_readDrain_41 rfl rfl, ?_⟩
  refine List.forall_mem_cons.mpr ⟨so_aload_n dX3_readDrain_42 rfl rfl, ?_⟩
  refine List.forall_mem_cons.mpr ⟨so_iconst dX3_readDrain_43 (by decide) rfl, ?_⟩
  refine List.forall_mem_cons.mpr ⟨so_iconst dX3_readDrain_44 (by decide) rfl, ?_⟩
  refine List.forall_mem_cons.mpr ⟨so_cv (T := TX3) (N := 7) dX3_readDrain_45 mv_X3_readNumber wm_X3_66 (by decide) rfl ⟨rfl, rfl⟩ (by decide) rfl, ?_⟩
  refine List.forall_mem_cons.mpr ⟨so_if_ne dX3_readDrain_48 (by decide) rfl, ?_⟩
  refine List.forall_mem_cons.mpr ⟨so_iconst dX3_readDrain_51 (by decide) rfl, ?_⟩
  refine List.forall_mem_cons.mpr ⟨so_rZ dX3_readDrain_52 rfl, ?_⟩
  refine List.forall_mem_cons.mpr ⟨so_aload_n dX3_readDrain_53 rfl rfl, ?_⟩
  refine List.forall_mem_cons.mpr ⟨so_gR (C := RX5) (T := TX5) (N := 10) dX3_readDrain_54 (by decide) rfl rfl (by decide) rfl in_X5 wf_X3_84 rfl, ?_⟩
  refine List.forall_mem_cons.mpr ⟨so_iload_n dX3_readDrain_57 rfl rfl, ?_⟩
  refine List.forall_mem_cons.mpr ⟨so_iload_n dX3_readDrain_58 rfl rfl, ?_⟩
  refine List.forall_mem_cons.mpr ⟨so_iastore dX3_readDrain_59 rfl, ?_⟩
  refine List.forall_mem_cons.mpr ⟨so_aload_n dX3_readDrain_60 rfl rfl, ?_⟩
  refine List.forall_mem_cons.mpr ⟨so_gR (C := RX5) (T := TX5) (N := 10) dX3_readDrain_61 (by decide) rfl rfl (by decide) rfl in_X5 wf_X3_88 rfl, ?_⟩
  refine List.forall_mem_cons.mpr ⟨so_iload_n dX3_readDrain_64 rfl rfl, ?_⟩
  refine List.forall_mem_cons.mpr ⟨so_aload_n dX3_readDrain_65 rfl rfl, ?_⟩
  refine List.forall_mem_cons.mpr ⟨so_gI (C := RX3) (T := TX3) (N := 7) dX3_readDrain_66 (by decide) rfl rfl (by decide) rfl in_X3 wf_X3_70 rfl, ?_⟩
  refine List.forall_mem_cons.mpr ⟨so_iastore dX3_readDrain_69 rfl, ?_⟩
  refine List.forall_mem_cons.mpr ⟨so_iconst dX3_readDrain_70 (by decide) rfl, ?_⟩
  refine List.forall_mem_cons.mpr ⟨so_rZ dX3_readDrain_71 rfl, ?_⟩
  exact fun _ h => absurd h List.not_mem_nil
