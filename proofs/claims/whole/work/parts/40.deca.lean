/-! decode rows (printed) -/
-- AL_init
theorem dd_AL_init_0 : ev_d prog_24_method_2_code 0 (.aload_n 0) 1 1 := ⟨by decide +kernel, rfl⟩
theorem dd_AL_init_1 : ev_d prog_24_method_2_code 1 (.invokespecial 1) 3 4 := ⟨by decide +kernel, rfl⟩
theorem dd_AL_init_4 : ev_d prog_24_method_2_code 4 (.aload_n 0) 1 5 := ⟨by decide +kernel, rfl⟩
theorem dd_AL_init_5 : ev_d prog_24_method_2_code 5 (.getstatic 39) 3 8 := ⟨by decide +kernel, rfl⟩
theorem dd_AL_init_8 : ev_d prog_24_method_2_code 8 (.putfield 9) 3 11 := ⟨by decide +kernel, rfl⟩
theorem dd_AL_init_11 : ev_d prog_24_method_2_code 11 .return_ 1 12 := ⟨by decide +kernel, rfl⟩
-- AB_init
theorem dd_AB_init_0 : ev_d prog_23_method_1_code 0 (.aload_n 0) 1 1 := ⟨by decide +kernel, rfl⟩
theorem dd_AB_init_1 : ev_d prog_23_method_1_code 1 (.invokespecial 1) 3 4 := ⟨by decide +kernel, rfl⟩
theorem dd_AB_init_4 : ev_d prog_23_method_1_code 4 (.aload_n 0) 1 5 := ⟨by decide +kernel, rfl⟩
theorem dd_AB_init_5 : ev_d prog_23_method_1_code 5 (.iconst 0) 1 6 := ⟨by decide +kernel, rfl⟩
theorem dd_AB_init_6 : ev_d prog_23_method_1_code 6 (.putfield 7) 3 9 := ⟨by decide +kernel, rfl⟩
theorem dd_AB_init_9 : ev_d prog_23_method_1_code 9 .return_ 1 10 := ⟨by decide +kernel, rfl⟩
-- AC_init
theorem dd_AC_init_0 : ev_d prog_22_method_1_code 0 (.aload_n 0) 1 1 := ⟨by decide +kernel, rfl⟩
theorem dd_AC_init_1 : ev_d prog_22_method_1_code 1 (.invokespecial 1) 3 4 := ⟨by decide +kernel, rfl⟩
theorem dd_AC_init_4 : ev_d prog_22_method_1_code 4 .return_ 1 5 := ⟨by decide +kernel, rfl⟩
-- Y_init
theorem dd_Y_init_0 : ev_d prog_5_method_1_code 0 (.aload_n 0) 1 1 := ⟨by decide +kernel, rfl⟩
theorem dd_Y_init_1 : ev_d prog_5_method_1_code 1 (.invokespecial 3) 3 4 := ⟨by decide +kernel, rfl⟩
theorem dd_Y_init_4 : ev_d prog_5_method_1_code 4 (.aload_n 0) 1 5 := ⟨by decide +kernel, rfl⟩
theorem dd_Y_init_5 : ev_d prog_5_method_1_code 5 (.bipush 16) 2 7 := ⟨by decide +kernel, rfl⟩
theorem dd_Y_init_7 : ev_d prog_5_method_1_code 7 (.newarray .int) 2 9 := ⟨by decide +kernel, rfl⟩
theorem dd_Y_init_9 : ev_d prog_5_method_1_code 9 (.putfield 11) 3 12 := ⟨by decide +kernel, rfl⟩
theorem dd_Y_init_12 : ev_d prog_5_method_1_code 12 (.aload_n 0) 1 13 := ⟨by decide +kernel, rfl⟩
theorem dd_Y_init_13 : ev_d prog_5_method_1_code 13 (.bipush 16) 2 15 := ⟨by decide +kernel, rfl⟩
theorem dd_Y_init_15 : ev_d prog_5_method_1_code 15 (.newarray .int) 2 17 := ⟨by decide +kernel, rfl⟩
theorem dd_Y_init_17 : ev_d prog_5_method_1_code 17 (.putfield 15) 3 20 := ⟨by decide +kernel, rfl⟩
theorem dd_Y_init_20 : ev_d prog_5_method_1_code 20 (.aload_n 0) 1 21 := ⟨by decide +kernel, rfl⟩
theorem dd_Y_init_21 : ev_d prog_5_method_1_code 21 (.getfield 15) 3 24 := ⟨by decide +kernel, rfl⟩
theorem dd_Y_init_24 : ev_d prog_5_method_1_code 24 (.iconst (-1)) 1 25 := ⟨by decide +kernel, rfl⟩
theorem dd_Y_init_25 : ev_d prog_5_method_1_code 25 (.invokestatic 18) 3 28 := ⟨by decide +kernel, rfl⟩
theorem dd_Y_init_28 : ev_d prog_5_method_1_code 28 .return_ 1 29 := ⟨by decide +kernel, rfl⟩
-- AR_fill
theorem dd_AR_fill_0 : ev_d prog_25_method_103_code 0 (.iconst 0) 1 1 := ⟨by decide +kernel, rfl⟩
theorem dd_AR_fill_1 : ev_d prog_25_method_103_code 1 (.istore_n 2) 1 2 := ⟨by decide +kernel, rfl⟩
theorem dd_AR_fill_2 : ev_d prog_25_method_103_code 2 (.aload_n 0) 1 3 := ⟨by decide +kernel, rfl⟩
theorem dd_AR_fill_3 : ev_d prog_25_method_103_code 3 .arraylength 1 4 := ⟨by decide +kernel, rfl⟩
theorem dd_AR_fill_4 : ev_d prog_25_method_103_code 4 (.istore_n 3) 1 5 := ⟨by decide +kernel, rfl⟩
theorem dd_AR_fill_5 : ev_d prog_25_method_103_code 5 (.iload_n 2) 1 6 := ⟨by decide +kernel, rfl⟩
theorem dd_AR_fill_6 : ev_d prog_25_method_103_code 6 (.iload_n 3) 1 7 := ⟨by decide +kernel, rfl⟩
theorem dd_AR_fill_7 : ev_j prog_25_method_103_code 7 (fun o => .if_icmp .ge o) 10 20 := ⟨13, by decide +kernel, rfl, by decide⟩
theorem dd_AR_fill_10 : ev_d prog_25_method_103_code 10 (.aload_n 0) 1 11 := ⟨by decide +kernel, rfl⟩
theorem dd_AR_fill_11 : ev_d prog_25_method_103_code 11 (.iload_n 2) 1 12 := ⟨by decide +kernel, rfl⟩
theorem dd_AR_fill_12 : ev_d prog_25_method_103_code 12 (.iload_n 1) 1 13 := ⟨by decide +kernel, rfl⟩
theorem dd_AR_fill_13 : ev_d prog_25_method_103_code 13 .iastore 1 14 := ⟨by decide +kernel, rfl⟩
theorem dd_AR_fill_14 : ev_d prog_25_method_103_code 14 (.iinc 2 1) 3 17 := ⟨by decide +kernel, rfl⟩
theorem dd_AR_fill_17 : ev_j prog_25_method_103_code 17 (fun o => .goto o) 20 5 := ⟨(-12), by decide +kernel, rfl, by decide⟩
theorem dd_AR_fill_20 : ev_d prog_25_method_103_code 20 .return_ 1 21 := ⟨by decide +kernel, rfl⟩
-- N_init
theorem dd_N_init_0 : ev_d prog_8_method_1_code 0 (.aload_n 0) 1 1 := ⟨by decide +kernel, rfl⟩
theorem dd_N_init_1 : ev_d prog_8_method_1_code 1 (.invokespecial 1) 3 4 := ⟨by decide +kernel, rfl⟩
theorem dd_N_init_4 : ev_d prog_8_method_1_code 4 (.aload_n 0) 1 5 := ⟨by decide +kernel, rfl⟩
theorem dd_N_init_5 : ev_d prog_8_method_1_code 5 (.iconst 0) 1 6 := ⟨by decide +kernel, rfl⟩
theorem dd_N_init_6 : ev_d prog_8_method_1_code 6 (.putfield 9) 3 9 := ⟨by decide +kernel, rfl⟩
theorem dd_N_init_9 : ev_d prog_8_method_1_code 9 .return_ 1 10 := ⟨by decide +kernel, rfl⟩
-- C_init
theorem dd_C_init_0 : ev_d prog_2_method_1_code 0 (.aload_n 0) 1 1 := ⟨by decide +kernel, rfl⟩
theorem dd_C_init_1 : ev_d prog_2_method_1_code 1 (.invokespecial 3) 3 4 := ⟨by decide +kernel, rfl⟩
theorem dd_C_init_4 : ev_d prog_2_method_1_code 4 (.aload_n 0) 1 5 := ⟨by decide +kernel, rfl⟩
theorem dd_C_init_5 : ev_d prog_2_method_1_code 5 (.iconst 0) 1 6 := ⟨by decide +kernel, rfl⟩
theorem dd_C_init_6 : ev_d prog_2_method_1_code 6 (.putfield 9) 3 9 := ⟨by decide +kernel, rfl⟩
theorem dd_C_init_9 : ev_d prog_2_method_1_code 9 (.aload_n 0) 1 10 := ⟨by decide +kernel, rfl⟩
theorem dd_C_init_10 : ev_d prog_2_method_1_code 10 (.iconst 0) 1 11 := ⟨by decide +kernel, rfl⟩
theorem dd_C_init_11 : ev_d prog_2_method_1_code 11 (.putfield 15) 3 14 := ⟨by decide +kernel, rfl⟩
theorem dd_C_init_14 : ev_d prog_2_method_1_code 14 (.aload_n 0) 1 15 := ⟨by decide +kernel, rfl⟩
theorem dd_C_init_15 : ev_d prog_2_method_1_code 15 (.iconst 0) 1 16 := ⟨by decide +kernel, rfl⟩
theorem dd_C_init_16 : ev_d prog_2_method_1_code 16 (.putfield 18) 3 19 := ⟨by decide +kernel, rfl⟩
theorem dd_C_init_19 : ev_d prog_2_method_1_code 19 (.aload_n 0) 1 20 := ⟨by decide +kernel, rfl⟩
theorem dd_C_init_20 : ev_d prog_2_method_1_code 20 (.iconst 0) 1 21 := ⟨by decide +kernel, rfl⟩
theorem dd_C_init_21 : ev_d prog_2_method_1_code 21 (.putfield 21) 3 24 := ⟨by decide +kernel, rfl⟩
theorem dd_C_init_24 : ev_d prog_2_method_1_code 24 (.aload_n 0) 1 25 := ⟨by decide +kernel, rfl⟩
theorem dd_C_init_25 : ev_d prog_2_method_1_code 25 (.iconst 0) 1 26 := ⟨by decide +kernel, rfl⟩
theorem dd_C_init_26 : ev_d prog_2_method_1_code 26 (.putfield 25) 3 29 := ⟨by decide +kernel, rfl⟩
theorem dd_C_init_29 : ev_d prog_2_method_1_code 29 (.aload_n 0) 1 30 := ⟨by decide +kernel, rfl⟩
theorem dd_C_init_30 : ev_d prog_2_method_1_code 30 (.iconst 0) 1 31 := ⟨by decide +kernel, rfl⟩
theorem dd_C_init_31 : ev_d prog_2_method_1_code 31 (.putfield 28) 3 34 := ⟨by decide +kernel, rfl⟩
theorem dd_C_init_34 : ev_d prog_2_method_1_code 34 (.aload_n 0) 1 35 := ⟨by decide +kernel, rfl⟩
theorem dd_C_init_35 : ev_d prog_2_method_1_code 35 (.iconst 0) 1 36 := ⟨by decide +kernel, rfl⟩
theorem dd_C_init_36 : ev_d prog_2_method_1_code 36 (.putfield 31) 3 39 := ⟨by decide +kernel, rfl⟩
theorem dd_C_init_39 : ev_d prog_2_method_1_code 39 (.aload_n 0) 1 40 := ⟨by decide +kernel, rfl⟩
theorem dd_C_init_40 : ev_d prog_2_method_1_code 40 (.iconst 0) 1 41 := ⟨by decide +kernel, rfl⟩
theorem dd_C_init_41 : ev_d prog_2_method_1_code 41 (.putfield 34) 3 44 := ⟨by decide +kernel, rfl⟩
theorem dd_C_init_44 : ev_d prog_2_method_1_code 44 (.aload_n 0) 1 45 := ⟨by decide +kernel, rfl⟩
theorem dd_C_init_45 : ev_d prog_2_method_1_code 45 (.iconst 0) 1 46 := ⟨by decide +kernel, rfl⟩
theorem dd_C_init_46 : ev_d prog_2_method_1_code 46 (.putfield 37) 3 49 := ⟨by decide +kernel, rfl⟩
theorem dd_C_init_49 : ev_d prog_2_method_1_code 49 (.aload_n 0) 1 50 := ⟨by decide +kernel, rfl⟩
theorem dd_C_init_50 : ev_d prog_2_method_1_code 50 (.new 40) 3 53 := ⟨by decide +kernel, rfl⟩
theorem dd_C_init_53 : ev_d prog_2_method_1_code 53 .dup 1 54 := ⟨by decide +kernel, rfl⟩
theorem dd_C_init_54 : ev_d prog_2_method_1_code 54 (.invokespecial 42) 3 57 := ⟨by decide +kernel, rfl⟩
theorem dd_C_init_57 : ev_d prog_2_method_1_code 57 (.putfield 43) 3 60 := ⟨by decide +kernel, rfl⟩
theorem dd_C_init_60 : ev_d prog_2_method_1_code 60 .return_ 1 61 := ⟨by decide +kernel, rfl⟩
-- F_init
theorem dd_F_init_0 : ev_d prog_4_method_1_code 0 (.aload_n 0) 1 1 := ⟨by decide +kernel, rfl⟩
theorem dd_F_init_1 : ev_d prog_4_method_1_code 1 (.invokespecial 3) 3 4 := ⟨by decide +kernel, rfl⟩
theorem dd_F_init_4 : ev_d prog_4_method_1_code 4 (.aload_n 0) 1 5 := ⟨by decide +kernel, rfl⟩
theorem dd_F_init_5 : ev_d prog_4_method_1_code 5 (.iconst 0) 1 6 := ⟨by decide +kernel, rfl⟩
theorem dd_F_init_6 : ev_d prog_4_method_1_code 6 (.putfield 9) 3 9 := ⟨by decide +kernel, rfl⟩
theorem dd_F_init_9 : ev_d prog_4_method_1_code 9 (.aload_n 0) 1 10 := ⟨by decide +kernel, rfl⟩
theorem dd_F_init_10 : ev_d prog_4_method_1_code 10 (.iconst 0) 1 11 := ⟨by decide +kernel, rfl⟩
theorem dd_F_init_11 : ev_d prog_4_method_1_code 11 (.putfield 15) 3 14 := ⟨by decide +kernel, rfl⟩
theorem dd_F_init_14 : ev_d prog_4_method_1_code 14 .return_ 1 15 := ⟨by decide +kernel, rfl⟩
-- Y_keep
theorem dd_Y_keep_0 : ev_d prog_5_method_2_code 0 (.iload_n 1) 1 1 := ⟨by decide +kernel, rfl⟩
theorem dd_Y_keep_1 : ev_d prog_5_method_2_code 1 (.bipush 16) 2 3 := ⟨by decide +kernel, rfl⟩
theorem dd_Y_keep_3 : ev_d prog_5_method_2_code 3 (.invokestatic 24) 3 6 := ⟨by decide +kernel, rfl⟩
theorem dd_Y_keep_6 : ev_d prog_5_method_2_code 6 (.istore_n 3) 1 7 := ⟨by decide +kernel, rfl⟩
theorem dd_Y_keep_7 : ev_d prog_5_method_2_code 7 (.aload_n 0) 1 8 := ⟨by decide +kernel, rfl⟩
theorem dd_Y_keep_8 : ev_d prog_5_method_2_code 8 (.getfield 11) 3 11 := ⟨by decide +kernel, rfl⟩
theorem dd_Y_keep_11 : ev_d prog_5_method_2_code 11 (.iload_n 3) 1 12 := ⟨by decide +kernel, rfl⟩
theorem dd_Y_keep_12 : ev_d prog_5_method_2_code 12 (.iload_n 1) 1 13 := ⟨by decide +kernel, rfl⟩
theorem dd_Y_keep_13 : ev_d prog_5_method_2_code 13 .iastore 1 14 := ⟨by decide +kernel, rfl⟩
theorem dd_Y_keep_14 : ev_d prog_5_method_2_code 14 (.aload_n 0) 1 15 := ⟨by decide +kernel, rfl⟩
theorem dd_Y_keep_15 : ev_d prog_5_method_2_code 15 (.getfield 15) 3 18 := ⟨by decide +kernel, rfl⟩
theorem dd_Y_keep_18 : ev_d prog_5_method_2_code 18 (.iload_n 3) 1 19 := ⟨by decide +kernel, rfl⟩
theorem dd_Y_keep_19 : ev_d prog_5_method_2_code 19 (.iload_n 2) 1 20 := ⟨by decide +kernel, rfl⟩
theorem dd_Y_keep_20 : ev_d prog_5_method_2_code 20 .iastore 1 21 := ⟨by decide +kernel, rfl⟩
theorem dd_Y_keep_21 : ev_d prog_5_method_2_code 21 .return_ 1 22 := ⟨by decide +kernel, rfl⟩
-- MA_floorMod
theorem dd_MA_floorMod_0 : ev_d prog_17_method_50_code 0 (.iload_n 0) 1 1 := ⟨by decide +kernel, rfl⟩
theorem dd_MA_floorMod_1 : ev_d prog_17_method_50_code 1 (.iload_n 1) 1 2 := ⟨by decide +kernel, rfl⟩
theorem dd_MA_floorMod_2 : ev_d prog_17_method_50_code 2 .irem 1 3 := ⟨by decide +kernel, rfl⟩
theorem dd_MA_floorMod_3 : ev_d prog_17_method_50_code 3 (.istore_n 2) 1 4 := ⟨by decide +kernel, rfl⟩
theorem dd_MA_floorMod_4 : ev_d prog_17_method_50_code 4 (.iload_n 0) 1 5 := ⟨by decide +kernel, rfl⟩
theorem dd_MA_floorMod_5 : ev_d prog_17_method_50_code 5 (.iload_n 1) 1 6 := ⟨by decide +kernel, rfl⟩
theorem dd_MA_floorMod_6 : ev_d prog_17_method_50_code 6 .ixor 1 7 := ⟨by decide +kernel, rfl⟩
theorem dd_MA_floorMod_7 : ev_j prog_17_method_50_code 7 (fun o => .ifCond .ge o) 10 18 := ⟨11, by decide +kernel, rfl, by decide⟩
theorem dd_MA_floorMod_10 : ev_d prog_17_method_50_code 10 (.iload_n 2) 1 11 := ⟨by decide +kernel, rfl⟩
theorem dd_MA_floorMod_11 : ev_j prog_17_method_50_code 11 (fun o => .ifCond .eq o) 14 18 := ⟨7, by decide +kernel, rfl, by decide⟩
theorem dd_MA_floorMod_14 : ev_d prog_17_method_50_code 14 (.iload_n 2) 1 15 := ⟨by decide +kernel, rfl⟩
theorem dd_MA_floorMod_15 : ev_d prog_17_method_50_code 15 (.iload_n 1) 1 16 := ⟨by decide +kernel, rfl⟩
theorem dd_MA_floorMod_16 : ev_d prog_17_method_50_code 16 .iadd 1 17 := ⟨by decide +kernel, rfl⟩
theorem dd_MA_floorMod_17 : ev_d prog_17_method_50_code 17 .ireturn 1 18 := ⟨by decide +kernel, rfl⟩
theorem dd_MA_floorMod_18 : ev_d prog_17_method_50_code 18 (.iload_n 2) 1 19 := ⟨by decide +kernel, rfl⟩
theorem dd_MA_floorMod_19 : ev_d prog_17_method_50_code 19 .ireturn 1 20 := ⟨by decide +kernel, rfl⟩
-- C_begin
theorem dd_C_begin_0 : ev_d prog_2_method_2_code 0 (.aload_n 0) 1 1 := ⟨by decide +kernel, rfl⟩
theorem dd_C_begin_1 : ev_d prog_2_method_2_code 1 (.iconst 0) 1 2 := ⟨by decide +kernel, rfl⟩
theorem dd_C_begin_2 : ev_d prog_2_method_2_code 2 (.putfield 15) 3 5 := ⟨by decide +kernel, rfl⟩
theorem dd_C_begin_5 : ev_d prog_2_method_2_code 5 (.aload_n 0) 1 6 := ⟨by decide +kernel, rfl⟩
theorem dd_C_begin_6 : ev_d prog_2_method_2_code 6 (.getfield 9) 3 9 := ⟨by decide +kernel, rfl⟩
theorem dd_C_begin_9 : ev_j prog_2_method_2_code 9 (fun o => .ifCond .ne o) 12 80 := ⟨71, by decide +kernel, rfl, by decide⟩
theorem dd_C_begin_12 : ev_d prog_2_method_2_code 12 (.aload_n 0) 1 13 := ⟨by decide +kernel, rfl⟩
theorem dd_C_begin_13 : ev_d prog_2_method_2_code 13 (.iconst 1) 1 14 := ⟨by decide +kernel, rfl⟩
theorem dd_C_begin_14 : ev_d prog_2_method_2_code 14 (.putfield 9) 3 17 := ⟨by decide +kernel, rfl⟩
theorem dd_C_begin_17 : ev_d prog_2_method_2_code 17 (.aload_n 0) 1 18 := ⟨by decide +kernel, rfl⟩
theorem dd_C_begin_18 : ev_d prog_2_method_2_code 18 (.iconst 0) 1 19 := ⟨by decide +kernel, rfl⟩
theorem dd_C_begin_19 : ev_d prog_2_method_2_code 19 (.putfield 18) 3 22 := ⟨by decide +kernel, rfl⟩
theorem dd_C_begin_22 : ev_d prog_2_method_2_code 22 (.aload_n 0) 1 23 := ⟨by decide +kernel, rfl⟩
theorem dd_C_begin_23 : ev_d prog_2_method_2_code 23 (.iconst 0) 1 24 := ⟨by decide +kernel, rfl⟩
theorem dd_C_begin_24 : ev_d prog_2_method_2_code 24 (.putfield 21) 3 27 := ⟨by decide +kernel, rfl⟩
theorem dd_C_begin_27 : ev_d prog_2_method_2_code 27 (.aload_n 0) 1 28 := ⟨by decide +kernel, rfl⟩
theorem dd_C_begin_28 : ev_d prog_2_method_2_code 28 (.aload_n 1) 1 29 := ⟨by decide +kernel, rfl⟩
theorem dd_C_begin_29 : ev_d prog_2_method_2_code 29 (.getfield 47) 3 32 := ⟨by decide +kernel, rfl⟩
theorem dd_C_begin_32 : ev_d prog_2_method_2_code 32 (.putfield 25) 3 35 := ⟨by decide +kernel, rfl⟩
theorem dd_C_begin_35 : ev_d prog_2_method_2_code 35 (.aload_n 0) 1 36 := ⟨by decide +kernel, rfl⟩
theorem dd_C_begin_36 : ev_d prog_2_method_2_code 36 (.aload_n 1) 1 37 := ⟨by decide +kernel, rfl⟩
theorem dd_C_begin_37 : ev_d prog_2_method_2_code 37 (.getfield 50) 3 40 := ⟨by decide +kernel, rfl⟩
theorem dd_C_begin_40 : ev_d prog_2_method_2_code 40 (.putfield 28) 3 43 := ⟨by decide +kernel, rfl⟩
theorem dd_C_begin_43 : ev_d prog_2_method_2_code 43 (.aload_n 0) 1 44 := ⟨by decide +kernel, rfl⟩
theorem dd_C_begin_44 : ev_d prog_2_method_2_code 44 (.aload_n 1) 1 45 := ⟨by decide +kernel, rfl⟩
theorem dd_C_begin_45 : ev_d prog_2_method_2_code 45 (.getfield 51) 3 48 := ⟨by decide +kernel, rfl⟩
theorem dd_C_begin_48 : ev_d prog_2_method_2_code 48 (.putfield 31) 3 51 := ⟨by decide +kernel, rfl⟩
theorem dd_C_begin_51 : ev_d prog_2_method_2_code 51 (.aload_n 0) 1 52 := ⟨by decide +kernel, rfl⟩
theorem dd_C_begin_52 : ev_d prog_2_method_2_code 52 (.aload_n 1) 1 53 := ⟨by decide +kernel, rfl⟩
theorem dd_C_begin_53 : ev_d prog_2_method_2_code 53 (.getfield 52) 3 56 := ⟨by decide +kernel, rfl⟩
theorem dd_C_begin_56 : ev_d prog_2_method_2_code 56 (.invokevirtual 55) 3 59 := ⟨by decide +kernel, rfl⟩
theorem dd_C_begin_59 : ev_d prog_2_method_2_code 59 (.putfield 34) 3 62 := ⟨by decide +kernel, rfl⟩
theorem dd_C_begin_62 : ev_d prog_2_method_2_code 62 (.aload_n 0) 1 63 := ⟨by decide +kernel, rfl⟩
theorem dd_C_begin_63 : ev_d prog_2_method_2_code 63 (.aload_n 1) 1 64 := ⟨by decide +kernel, rfl⟩
theorem dd_C_begin_64 : ev_d prog_2_method_2_code 64 (.getfield 59) 3 67 := ⟨by decide +kernel, rfl⟩
theorem dd_C_begin_67 : ev_d prog_2_method_2_code 67 (.aload_n 1) 1 68 := ⟨by decide +kernel, rfl⟩
theorem dd_C_begin_68 : ev_d prog_2_method_2_code 68 (.getfield 52) 3 71 := ⟨by decide +kernel, rfl⟩
theorem dd_C_begin_71 : ev_d prog_2_method_2_code 71 (.invokevirtual 55) 3 74 := ⟨by decide +kernel, rfl⟩
theorem dd_C_begin_74 : ev_d prog_2_method_2_code 74 .isub 1 75 := ⟨by decide +kernel, rfl⟩
theorem dd_C_begin_75 : ev_d prog_2_method_2_code 75 (.iconst 1) 1 76 := ⟨by decide +kernel, rfl⟩
theorem dd_C_begin_76 : ev_d prog_2_method_2_code 76 .iadd 1 77 := ⟨by decide +kernel, rfl⟩
theorem dd_C_begin_77 : ev_d prog_2_method_2_code 77 (.putfield 37) 3 80 := ⟨by decide +kernel, rfl⟩
theorem dd_C_begin_80 : ev_d prog_2_method_2_code 80 (.iconst 0) 1 81 := ⟨by decide +kernel, rfl⟩
theorem dd_C_begin_81 : ev_d prog_2_method_2_code 81 (.istore_n 2) 1 82 := ⟨by decide +kernel, rfl⟩
theorem dd_C_begin_82 : ev_d prog_2_method_2_code 82 (.iload_n 2) 1 83 := ⟨by decide +kernel, rfl⟩
theorem dd_C_begin_83 : ev_d prog_2_method_2_code 83 (.aload_n 1) 1 84 := ⟨by decide +kernel, rfl⟩
theorem dd_C_begin_84 : ev_d prog_2_method_2_code 84 (.getfield 52) 3 87 := ⟨by decide +kernel, rfl⟩
theorem dd_C_begin_87 : ev_d prog_2_method_2_code 87 (.invokevirtual 55) 3 90 := ⟨by decide +kernel, rfl⟩
theorem dd_C_begin_90 : ev_j prog_2_method_2_code 90 (fun o => .if_icmp .ge o) 93 118 := ⟨28, by decide +kernel, rfl, by decide⟩
theorem dd_C_begin_93 : ev_d prog_2_method_2_code 93 (.aload_n 0) 1 94 := ⟨by decide +kernel, rfl⟩
theorem dd_C_begin_94 : ev_d prog_2_method_2_code 94 (.getfield 43) 3 97 := ⟨by decide +kernel, rfl⟩
theorem dd_C_begin_97 : ev_d prog_2_method_2_code 97 (.aload_n 1) 1 98 := ⟨by decide +kernel, rfl⟩
theorem dd_C_begin_98 : ev_d prog_2_method_2_code 98 (.getfield 52) 3 101 := ⟨by decide +kernel, rfl⟩
theorem dd_C_begin_101 : ev_d prog_2_method_2_code 101 (.iload_n 2) 1 102 := ⟨by decide +kernel, rfl⟩
theorem dd_C_begin_102 : ev_d prog_2_method_2_code 102 (.invokevirtual 62) 3 105 := ⟨by decide +kernel, rfl⟩
theorem dd_C_begin_105 : ev_d prog_2_method_2_code 105 (.checkcast 66) 3 108 := ⟨by decide +kernel, rfl⟩
theorem dd_C_begin_108 : ev_d prog_2_method_2_code 108 (.invokevirtual 68) 3 111 := ⟨by decide +kernel, rfl⟩
theorem dd_C_begin_111 : ev_d prog_2_method_2_code 111 .pop 1 112 := ⟨by decide +kernel, rfl⟩
theorem dd_C_begin_112 : ev_d prog_2_method_2_code 112 (.iinc 2 1) 3 115 := ⟨by decide +kernel, rfl⟩
theorem dd_C_begin_115 : ev_j prog_2_method_2_code 115 (fun o => .goto o) 118 82 := ⟨(-33), by decide +kernel, rfl, by decide⟩
theorem dd_C_begin_118 : ev_d prog_2_method_2_code 118 (.iconst 0) 1 119 := ⟨by decide +kernel, rfl⟩
theorem dd_C_begin_119 : ev_d prog_2_method_2_code 119 (.istore_n 2) 1 120 := ⟨by decide +kernel, rfl⟩
theorem dd_C_begin_120 : ev_d prog_2_method_2_code 120 (.iload_n 2) 1 121 := ⟨by decide +kernel, rfl⟩
theorem dd_C_begin_121 : ev_d prog_2_method_2_code 121 (.aload_n 1) 1 122 := ⟨by decide +kernel, rfl⟩
theorem dd_C_begin_122 : ev_d prog_2_method_2_code 122 (.getfield 72) 3 125 := ⟨by decide +kernel, rfl⟩
theorem dd_C_begin_125 : ev_d prog_2_method_2_code 125 (.invokevirtual 55) 3 128 := ⟨by decide +kernel, rfl⟩
theorem dd_C_begin_128 : ev_j prog_2_method_2_code 128 (fun o => .if_icmp .ge o) 131 156 := ⟨28, by decide +kernel, rfl, by decide⟩
theorem dd_C_begin_131 : ev_d prog_2_method_2_code 131 (.aload_n 0) 1 132 := ⟨by decide +kernel, rfl⟩
theorem dd_C_begin_132 : ev_d prog_2_method_2_code 132 (.getfield 43) 3 135 := ⟨by decide +kernel, rfl⟩
theorem dd_C_begin_135 : ev_d prog_2_method_2_code 135 (.aload_n 1) 1 136 := ⟨by decide +kernel, rfl⟩
theorem dd_C_begin_136 : ev_d prog_2_method_2_code 136 (.getfield 72) 3 139 := ⟨by decide +kernel, rfl⟩
theorem dd_C_begin_139 : ev_d prog_2_method_2_code 139 (.iload_n 2) 1 140 := ⟨by decide +kernel, rfl⟩
theorem dd_C_begin_140 : ev_d prog_2_method_2_code 140 (.invokevirtual 62) 3 143 := ⟨by decide +kernel, rfl⟩
theorem dd_C_begin_143 : ev_d prog_2_method_2_code 143 (.checkcast 66) 3 146 := ⟨by decide +kernel, rfl⟩
theorem dd_C_begin_146 : ev_d prog_2_method_2_code 146 (.invokevirtual 68) 3 149 := ⟨by decide +kernel, rfl⟩
theorem dd_C_begin_149 : ev_d prog_2_method_2_code 149 .pop 1 150 := ⟨by decide +kernel, rfl⟩
theorem dd_C_begin_150 : ev_d prog_2_method_2_code 150 (.iinc 2 1) 3 153 := ⟨by decide +kernel, rfl⟩
theorem dd_C_begin_153 : ev_j prog_2_method_2_code 153 (fun o => .goto o) 156 120 := ⟨(-33), by decide +kernel, rfl, by decide⟩
theorem dd_C_begin_156 : ev_d prog_2_method_2_code 156 .return_ 1 157 := ⟨by decide +kernel, rfl⟩
-- AL_size
theorem dd_AL_size_0 : ev_d prog_24_method_8_code 0 (.aload_n 0) 1 1 := ⟨by decide +kernel, rfl⟩
theorem dd_AL_size_1 : ev_d prog_24_method_8_code 1 (.getfield 48) 3 4 := ⟨by decide +kernel, rfl⟩
theorem dd_AL_size_4 : ev_d prog_24_method_8_code 4 .ireturn 1 5 := ⟨by decide +kernel, rfl⟩
-- AL_get
theorem dd_AL_get_0 : ev_d prog_24_method_20_code 0 (.iload_n 1) 1 1 := ⟨by decide +kernel, rfl⟩
theorem dd_AL_get_1 : ev_d prog_24_method_20_code 1 (.aload_n 0) 1 2 := ⟨by decide +kernel, rfl⟩
theorem dd_AL_get_2 : ev_d prog_24_method_20_code 2 (.getfield 48) 3 5 := ⟨by decide +kernel, rfl⟩
theorem dd_AL_get_5 : ev_d prog_24_method_20_code 5 (.invokestatic 118) 3 8 := ⟨by decide +kernel, rfl⟩
theorem dd_AL_get_8 : ev_d prog_24_method_20_code 8 .pop 1 9 := ⟨by decide +kernel, rfl⟩
theorem dd_AL_get_9 : ev_d prog_24_method_20_code 9 (.aload_n 0) 1 10 := ⟨by decide +kernel, rfl⟩
theorem dd_AL_get_10 : ev_d prog_24_method_20_code 10 (.iload_n 1) 1 11 := ⟨by decide +kernel, rfl⟩
theorem dd_AL_get_11 : ev_d prog_24_method_20_code 11 (.invokevirtual 123) 3 14 := ⟨by decide +kernel, rfl⟩
theorem dd_AL_get_14 : ev_d prog_24_method_20_code 14 .areturn 1 15 := ⟨by decide +kernel, rfl⟩
-- OB_checkIndex
theorem dd_OB_checkIndex_0 : ev_d prog_29_method_17_code 0 (.iload_n 0) 1 1 := ⟨by decide +kernel, rfl⟩
theorem dd_OB_checkIndex_1 : ev_d prog_29_method_17_code 1 (.iload_n 1) 1 2 := ⟨by decide +kernel, rfl⟩
theorem dd_OB_checkIndex_2 : ev_d prog_29_method_17_code 2 .aconst_null 1 3 := ⟨by decide +kernel, rfl⟩
theorem dd_OB_checkIndex_3 : ev_d prog_29_method_17_code 3 (.invokestatic 105) 3 6 := ⟨by decide +kernel, rfl⟩
theorem dd_OB_checkIndex_6 : ev_d prog_29_method_17_code 6 .ireturn 1 7 := ⟨by decide +kernel, rfl⟩
-- PR_checkIndex
theorem dd_PR_checkIndex_0 : ev_d prog_33_method_11_code 0 (.iload_n 0) 1 1 := ⟨by decide +kernel, rfl⟩
theorem dd_PR_checkIndex_1 : ev_j prog_33_method_11_code 1 (fun o => .ifCond .lt o) 4 9 := ⟨8, by decide +kernel, rfl, by decide⟩
theorem dd_PR_checkIndex_4 : ev_d prog_33_method_11_code 4 (.iload_n 0) 1 5 := ⟨by decide +kernel, rfl⟩
theorem dd_PR_checkIndex_5 : ev_d prog_33_method_11_code 5 (.iload_n 1) 1 6 := ⟨by decide +kernel, rfl⟩
theorem dd_PR_checkIndex_6 : ev_j prog_33_method_11_code 6 (fun o => .if_icmp .lt o) 9 16 := ⟨10, by decide +kernel, rfl, by decide⟩
theorem dd_PR_checkIndex_9 : ev_d prog_33_method_11_code 9 (.aload_n 2) 1 10 := ⟨by decide +kernel, rfl⟩
theorem dd_PR_checkIndex_10 : ev_d prog_33_method_11_code 10 (.iload_n 0) 1 11 := ⟨by decide +kernel, rfl⟩
theorem dd_PR_checkIndex_11 : ev_d prog_33_method_11_code 11 (.iload_n 1) 1 12 := ⟨by decide +kernel, rfl⟩
theorem dd_PR_checkIndex_12 : ev_d prog_33_method_11_code 12 (.invokestatic 95) 3 15 := ⟨by decide +kernel, rfl⟩
theorem dd_PR_checkIndex_15 : ev_d prog_33_method_11_code 15 .athrow 1 16 := ⟨by decide +kernel, rfl⟩
theorem dd_PR_checkIndex_16 : ev_d prog_33_method_11_code 16 (.iload_n 0) 1 17 := ⟨by decide +kernel, rfl⟩
theorem dd_PR_checkIndex_17 : ev_d prog_33_method_11_code 17 .ireturn 1 18 := ⟨by decide +kernel, rfl⟩
-- AL_elementData
theorem dd_AL_elementData_0 : ev_d prog_24_method_18_code 0 (.aload_n 0) 1 1 := ⟨by decide +kernel, rfl⟩
theorem dd_AL_elementData_1 : ev_d prog_24_method_18_code 1 (.getfield 9) 3 4 := ⟨by decide +kernel, rfl⟩
theorem dd_AL_elementData_4 : ev_d prog_24_method_18_code 4 (.iload_n 1) 1 5 := ⟨by decide +kernel, rfl⟩
theorem dd_AL_elementData_5 : ev_d prog_24_method_18_code 5 .aaload 1 6 := ⟨by decide +kernel, rfl⟩
theorem dd_AL_elementData_6 : ev_d prog_24_method_18_code 6 .areturn 1 7 := ⟨by decide +kernel, rfl⟩
-- AL_add1
theorem dd_AL_add1_0 : ev_d prog_24_method_25_code 0 (.aload_n 0) 1 1 := ⟨by decide +kernel, rfl⟩
theorem dd_AL_add1_1 : ev_d prog_24_method_25_code 1 .dup 1 2 := ⟨by decide +kernel, rfl⟩
theorem dd_AL_add1_2 : ev_d prog_24_method_25_code 2 (.getfield 63) 3 5 := ⟨by decide +kernel, rfl⟩
theorem dd_AL_add1_5 : ev_d prog_24_method_25_code 5 (.iconst 1) 1 6 := ⟨by decide +kernel, rfl⟩
theorem dd_AL_add1_6 : ev_d prog_24_method_25_code 6 .iadd 1 7 := ⟨by decide +kernel, rfl⟩
theorem dd_AL_add1_7 : ev_d prog_24_method_25_code 7 (.putfield 63) 3 10 := ⟨by decide +kernel, rfl⟩
theorem dd_AL_add1_10 : ev_d prog_24_method_25_code 10 (.aload_n 0) 1 11 := ⟨by decide +kernel, rfl⟩
theorem dd_AL_add1_11 : ev_d prog_24_method_25_code 11 (.aload_n 1) 1 12 := ⟨by decide +kernel, rfl⟩
theorem dd_AL_add1_12 : ev_d prog_24_method_25_code 12 (.aload_n 0) 1 13 := ⟨by decide +kernel, rfl⟩
theorem dd_AL_add1_13 : ev_d prog_24_method_25_code 13 (.getfield 9) 3 16 := ⟨by decide +kernel, rfl⟩
theorem dd_AL_add1_16 : ev_d prog_24_method_25_code 16 (.aload_n 0) 1 17 := ⟨by decide +kernel, rfl⟩
theorem dd_AL_add1_17 : ev_d prog_24_method_25_code 17 (.getfield 48) 3 20 := ⟨by decide +kernel, rfl⟩
theorem dd_AL_add1_20 : ev_d prog_24_method_25_code 20 (.invokevirtual 131) 3 23 := ⟨by decide +kernel, rfl⟩
theorem dd_AL_add1_23 : ev_d prog_24_method_25_code 23 (.iconst 1) 1 24 := ⟨by decide +kernel, rfl⟩
theorem dd_AL_add1_24 : ev_d prog_24_method_25_code 24 .ireturn 1 25 := ⟨by decide +kernel, rfl⟩
-- AL_add3
theorem dd_AL_add3_0 : ev_d prog_24_method_24_code 0 (.iload_n 3) 1 1 := ⟨by decide +kernel, rfl⟩
theorem dd_AL_add3_1 : ev_d prog_24_method_24_code 1 (.aload_n 2) 1 2 := ⟨by decide +kernel, rfl⟩
theorem dd_AL_add3_2 : ev_d prog_24_method_24_code 2 .arraylength 1 3 := ⟨by decide +kernel, rfl⟩
theorem dd_AL_add3_3 : ev_j prog_24_method_24_code 3 (fun o => .if_icmp .ne o) 6 11 := ⟨8, by decide +kernel, rfl, by decide⟩
theorem dd_AL_add3_6 : ev_d prog_24_method_24_code 6 (.aload_n 0) 1 7 := ⟨by decide +kernel, rfl⟩
theorem dd_AL_add3_7 : ev_d prog_24_method_24_code 7 (.invokevirtual 129) 3 10 := ⟨by decide +kernel, rfl⟩
theorem dd_AL_add3_10 : ev_d prog_24_method_24_code 10 (.astore_n 2) 1 11 := ⟨by decide +kernel, rfl⟩
theorem dd_AL_add3_11 : ev_d prog_24_method_24_code 11 (.aload_n 2) 1 12 := ⟨by decide +kernel, rfl⟩
theorem dd_AL_add3_12 : ev_d prog_24_method_24_code 12 (.iload_n 3) 1 13 := ⟨by decide +kernel, rfl⟩
theorem dd_AL_add3_13 : ev_d prog_24_method_24_code 13 (.aload_n 1) 1 14 := ⟨by decide +kernel, rfl⟩
theorem dd_AL_add3_14 : ev_d prog_24_method_24_code 14 .aastore 1 15 := ⟨by decide +kernel, rfl⟩
theorem dd_AL_add3_15 : ev_d prog_24_method_24_code 15 (.aload_n 0) 1 16 := ⟨by decide +kernel, rfl⟩
theorem dd_AL_add3_16 : ev_d prog_24_method_24_code 16 (.iload_n 3) 1 17 := ⟨by decide +kernel, rfl⟩
theorem dd_AL_add3_17 : ev_d prog_24_method_24_code 17 (.iconst 1) 1 18 := ⟨by decide +kernel, rfl⟩
theorem dd_AL_add3_18 : ev_d prog_24_method_24_code 18 .iadd 1 19 := ⟨by decide +kernel, rfl⟩
theorem dd_AL_add3_19 : ev_d prog_24_method_24_code 19 (.putfield 48) 3 22 := ⟨by decide +kernel, rfl⟩
theorem dd_AL_add3_22 : ev_d prog_24_method_24_code 22 .return_ 1 23 := ⟨by decide +kernel, rfl⟩
-- AL_grow0
theorem dd_AL_grow0_0 : ev_d prog_24_method_7_code 0 (.aload_n 0) 1 1 := ⟨by decide +kernel, rfl⟩
theorem dd_AL_grow0_1 : ev_d prog_24_method_7_code 1 (.aload_n 0) 1 2 := ⟨by decide +kernel, rfl⟩
theorem dd_AL_grow0_2 : ev_d prog_24_method_7_code 2 (.getfield 48) 3 5 := ⟨by decide +kernel, rfl⟩
theorem dd_AL_grow0_5 : ev_d prog_24_method_7_code 5 (.iconst 1) 1 6 := ⟨by decide +kernel, rfl⟩
theorem dd_AL_grow0_6 : ev_d prog_24_method_7_code 6 .iadd 1 7 := ⟨by decide +kernel, rfl⟩
theorem dd_AL_grow0_7 : ev_d prog_24_method_7_code 7 (.invokevirtual 69) 3 10 := ⟨by decide +kernel, rfl⟩
theorem dd_AL_grow0_10 : ev_d prog_24_method_7_code 10 .areturn 1 11 := ⟨by decide +kernel, rfl⟩
-- AL_grow1
theorem dd_AL_grow1_0 : ev_d prog_24_method_6_code 0 (.aload_n 0) 1 1 := ⟨by decide +kernel, rfl⟩
theorem dd_AL_grow1_1 : ev_d prog_24_method_6_code 1 (.getfield 9) 3 4 := ⟨by decide +kernel, rfl⟩
theorem dd_AL_grow1_4 : ev_d prog_24_method_6_code 4 .arraylength 1 5 := ⟨by decide +kernel, rfl⟩
theorem dd_AL_grow1_5 : ev_d prog_24_method_6_code 5 (.istore_n 2) 1 6 := ⟨by decide +kernel, rfl⟩
theorem dd_AL_grow1_6 : ev_d prog_24_method_6_code 6 (.iload_n 2) 1 7 := ⟨by decide +kernel, rfl⟩
theorem dd_AL_grow1_7 : ev_j prog_24_method_6_code 7 (fun o => .ifCond .gt o) 10 20 := ⟨13, by decide +kernel, rfl, by decide⟩
theorem dd_AL_grow1_10 : ev_d prog_24_method_6_code 10 (.aload_n 0) 1 11 := ⟨by decide +kernel, rfl⟩
theorem dd_AL_grow1_11 : ev_d prog_24_method_6_code 11 (.getfield 9) 3 14 := ⟨by decide +kernel, rfl⟩
theorem dd_AL_grow1_14 : ev_d prog_24_method_6_code 14 (.getstatic 39) 3 17 := ⟨by decide +kernel, rfl⟩
theorem dd_AL_grow1_17 : ev_j prog_24_method_6_code 17 (fun o => .if_acmp .eq o) 20 45 := ⟨28, by decide +kernel, rfl, by decide⟩
theorem dd_AL_grow1_20 : ev_d prog_24_method_6_code 20 (.iload_n 2) 1 21 := ⟨by decide +kernel, rfl⟩
theorem dd_AL_grow1_21 : ev_d prog_24_method_6_code 21 (.iload_n 1) 1 22 := ⟨by decide +kernel, rfl⟩
theorem dd_AL_grow1_22 : ev_d prog_24_method_6_code 22 (.iload_n 2) 1 23 := ⟨by decide +kernel, rfl⟩
theorem dd_AL_grow1_23 : ev_d prog_24_method_6_code 23 .isub 1 24 := ⟨by decide +kernel, rfl⟩
theorem dd_AL_grow1_24 : ev_d prog_24_method_6_code 24 (.iload_n 2) 1 25 := ⟨by decide +kernel, rfl⟩
theorem dd_AL_grow1_25 : ev_d prog_24_method_6_code 25 (.iconst 1) 1 26 := ⟨by decide +kernel, rfl⟩
theorem dd_AL_grow1_26 : ev_d prog_24_method_6_code 26 .ishr 1 27 := ⟨by decide +kernel, rfl⟩
theorem dd_AL_grow1_27 : ev_d prog_24_method_6_code 27 (.invokestatic 73) 3 30 := ⟨by decide +kernel, rfl⟩
theorem dd_AL_grow1_30 : ev_d prog_24_method_6_code 30 (.istore_n 3) 1 31 := ⟨by decide +kernel, rfl⟩
theorem dd_AL_grow1_31 : ev_d prog_24_method_6_code 31 (.aload_n 0) 1 32 := ⟨by decide +kernel, rfl⟩
theorem dd_AL_grow1_32 : ev_d prog_24_method_6_code 32 (.aload_n 0) 1 33 := ⟨by decide +kernel, rfl⟩
theorem dd_AL_grow1_33 : ev_d prog_24_method_6_code 33 (.getfield 9) 3 36 := ⟨by decide +kernel, rfl⟩
theorem dd_AL_grow1_36 : ev_d prog_24_method_6_code 36 (.iload_n 3) 1 37 := ⟨by decide +kernel, rfl⟩
theorem dd_AL_grow1_37 : ev_d prog_24_method_6_code 37 (.invokestatic 66) 3 40 := ⟨by decide +kernel, rfl⟩
theorem dd_AL_grow1_40 : ev_d prog_24_method_6_code 40 .dup_x1 1 41 := ⟨by decide +kernel, rfl⟩
theorem dd_AL_grow1_41 : ev_d prog_24_method_6_code 41 (.putfield 9) 3 44 := ⟨by decide +kernel, rfl⟩
theorem dd_AL_grow1_44 : ev_d prog_24_method_6_code 44 .areturn 1 45 := ⟨by decide +kernel, rfl⟩
theorem dd_AL_grow1_45 : ev_d prog_24_method_6_code 45 (.aload_n 0) 1 46 := ⟨by decide +kernel, rfl⟩
theorem dd_AL_grow1_46 : ev_d prog_24_method_6_code 46 (.bipush 10) 2 48 := ⟨by decide +kernel, rfl⟩
theorem dd_AL_grow1_48 : ev_d prog_24_method_6_code 48 (.iload_n 1) 1 49 := ⟨by decide +kernel, rfl⟩
theorem dd_AL_grow1_49 : ev_d prog_24_method_6_code 49 (.invokestatic 79) 3 52 := ⟨by decide +kernel, rfl⟩
theorem dd_AL_grow1_52 : ev_d prog_24_method_6_code 52 (.anewarray 7) 3 55 := ⟨by decide +kernel, rfl⟩
theorem dd_AL_grow1_55 : ev_d prog_24_method_6_code 55 .dup_x1 1 56 := ⟨by decide +kernel, rfl⟩
theorem dd_AL_grow1_56 : ev_d prog_24_method_6_code 56 (.putfield 9) 3 59 := ⟨by decide +kernel, rfl⟩
theorem dd_AL_grow1_59 : ev_d prog_24_method_6_code 59 .areturn 1 60 := ⟨by decide +kernel, rfl⟩
-- AS_newLength
theorem dd_AS_newLength_0 : ev_d prog_32_method_27_code 0 (.iload_n 0) 1 1 := ⟨by decide +kernel, rfl⟩
theorem dd_AS_newLength_1 : ev_d prog_32_method_27_code 1 (.iload_n 1) 1 2 := ⟨by decide +kernel, rfl⟩
theorem dd_AS_newLength_2 : ev_d prog_32_method_27_code 2 (.iload_n 2) 1 3 := ⟨by decide +kernel, rfl⟩
theorem dd_AS_newLength_3 : ev_d prog_32_method_27_code 3 (.invokestatic 194) 3 6 := ⟨by decide +kernel, rfl⟩
theorem dd_AS_newLength_6 : ev_d prog_32_method_27_code 6 .iadd 1 7 := ⟨by decide +kernel, rfl⟩
theorem dd_AS_newLength_7 : ev_d prog_32_method_27_code 7 (.istore_n 3) 1 8 := ⟨by decide +kernel, rfl⟩
theorem dd_AS_newLength_8 : ev_d prog_32_method_27_code 8 (.iconst 0) 1 9 := ⟨by decide +kernel, rfl⟩
theorem dd_AS_newLength_9 : ev_d prog_32_method_27_code 9 (.iload_n 3) 1 10 := ⟨by decide +kernel, rfl⟩
theorem dd_AS_newLength_10 : ev_j prog_32_method_27_code 10 (fun o => .if_icmp .ge o) 13 21 := ⟨11, by decide +kernel, rfl, by decide⟩
theorem dd_AS_newLength_13 : ev_d prog_32_method_27_code 13 (.iload_n 3) 1 14 := ⟨by decide +kernel, rfl⟩
theorem dd_AS_newLength_14 : ev_d prog_32_method_27_code 14 (.ldc 200) 2 16 := ⟨by decide +kernel, rfl⟩
theorem dd_AS_newLength_16 : ev_j prog_32_method_27_code 16 (fun o => .if_icmp .gt o) 19 21 := ⟨5, by decide +kernel, rfl, by decide⟩
theorem dd_AS_newLength_19 : ev_d prog_32_method_27_code 19 (.iload_n 3) 1 20 := ⟨by decide +kernel, rfl⟩
theorem dd_AS_newLength_20 : ev_d prog_32_method_27_code 20 .ireturn 1 21 := ⟨by decide +kernel, rfl⟩
theorem dd_AS_newLength_21 : ev_d prog_32_method_27_code 21 (.iload_n 0) 1 22 := ⟨by decide +kernel, rfl⟩
theorem dd_AS_newLength_22 : ev_d prog_32_method_27_code 22 (.iload_n 1) 1 23 := ⟨by decide +kernel, rfl⟩
theorem dd_AS_newLength_23 : ev_d prog_32_method_27_code 23 (.invokestatic 201) 3 26 := ⟨by decide +kernel, rfl⟩
theorem dd_AS_newLength_26 : ev_d prog_32_method_27_code 26 .ireturn 1 27 := ⟨by decide +kernel, rfl⟩
-- MA_max
theorem dd_MA_max_0 : ev_d prog_17_method_65_code 0 (.iload_n 0) 1 1 := ⟨by decide +kernel, rfl⟩
theorem dd_MA_max_1 : ev_d prog_17_method_65_code 1 (.iload_n 1) 1 2 := ⟨by decide +kernel, rfl⟩
theorem dd_MA_max_2 : ev_j prog_17_method_65_code 2 (fun o => .if_icmp .lt o) 5 9 := ⟨7, by decide +kernel, rfl, by decide⟩
theorem dd_MA_max_5 : ev_d prog_17_method_65_code 5 (.iload_n 0) 1 6 := ⟨by decide +kernel, rfl⟩
theorem dd_MA_max_6 : ev_j prog_17_method_65_code 6 (fun o => .goto o) 9 10 := ⟨4, by decide +kernel, rfl, by decide⟩
theorem dd_MA_max_9 : ev_d prog_17_method_65_code 9 (.iload_n 1) 1 10 := ⟨by decide +kernel, rfl⟩
theorem dd_MA_max_10 : ev_d prog_17_method_65_code 10 .ireturn 1 11 := ⟨by decide +kernel, rfl⟩
-- AS_hugeLength
theorem dd_AS_hugeLength_0 : ev_d prog_32_method_28_code 0 (.iload_n 0) 1 1 := ⟨by decide +kernel, rfl⟩
theorem dd_AS_hugeLength_1 : ev_d prog_32_method_28_code 1 (.iload_n 1) 1 2 := ⟨by decide +kernel, rfl⟩
theorem dd_AS_hugeLength_2 : ev_d prog_32_method_28_code 2 .iadd 1 3 := ⟨by decide +kernel, rfl⟩
theorem dd_AS_hugeLength_3 : ev_d prog_32_method_28_code 3 (.istore_n 2) 1 4 := ⟨by decide +kernel, rfl⟩
theorem dd_AS_hugeLength_4 : ev_d prog_32_method_28_code 4 (.iload_n 2) 1 5 := ⟨by decide +kernel, rfl⟩
theorem dd_AS_hugeLength_5 : ev_j prog_32_method_28_code 5 (fun o => .ifCond .ge o) 8 49 := ⟨44, by decide +kernel, rfl, by decide⟩
theorem dd_AS_hugeLength_8 : ev_d prog_32_method_28_code 8 (.new 204) 3 11 := ⟨by decide +kernel, rfl⟩
theorem dd_AS_hugeLength_11 : ev_d prog_32_method_28_code 11 .dup 1 12 := ⟨by decide +kernel, rfl⟩
theorem dd_AS_hugeLength_12 : ev_d prog_32_method_28_code 12 (.new 89) 3 15 := ⟨by decide +kernel, rfl⟩
theorem dd_AS_hugeLength_15 : ev_d prog_32_method_28_code 15 .dup 1 16 := ⟨by decide +kernel, rfl⟩
theorem dd_AS_hugeLength_16 : ev_d prog_32_method_28_code 16 (.invokespecial 91) 3 19 := ⟨by decide +kernel, rfl⟩
theorem dd_AS_hugeLength_19 : ev_d prog_32_method_28_code 19 (.ldc 206) 2 21 := ⟨by decide +kernel, rfl⟩
theorem dd_AS_hugeLength_21 : ev_d prog_32_method_28_code 21 (.invokevirtual 94) 3 24 := ⟨by decide +kernel, rfl⟩
theorem dd_AS_hugeLength_24 : ev_d prog_32_method_28_code 24 (.iload_n 0) 1 25 := ⟨by decide +kernel, rfl⟩
theorem dd_AS_hugeLength_25 : ev_d prog_32_method_28_code 25 (.invokevirtual 98) 3 28 := ⟨by decide +kernel, rfl⟩
theorem dd_AS_hugeLength_28 : ev_d prog_32_method_28_code 28 (.ldc 208) 2 30 := ⟨by decide +kernel, rfl⟩
theorem dd_AS_hugeLength_30 : ev_d prog_32_method_28_code 30 (.invokevirtual 94) 3 33 := ⟨by decide +kernel, rfl⟩
theorem dd_AS_hugeLength_33 : ev_d prog_32_method_28_code 33 (.iload_n 1) 1 34 := ⟨by decide +kernel, rfl⟩
theorem dd_AS_hugeLength_34 : ev_d prog_32_method_28_code 34 (.invokevirtual 98) 3 37 := ⟨by decide +kernel, rfl⟩
theorem dd_AS_hugeLength_37 : ev_d prog_32_method_28_code 37 (.ldc 210) 2 39 := ⟨by decide +kernel, rfl⟩
theorem dd_AS_hugeLength_39 : ev_d prog_32_method_28_code 39 (.invokevirtual 94) 3 42 := ⟨by decide +kernel, rfl⟩
theorem dd_AS_hugeLength_42 : ev_d prog_32_method_28_code 42 (.invokevirtual 101) 3 45 := ⟨by decide +kernel, rfl⟩
theorem dd_AS_hugeLength_45 : ev_d prog_32_method_28_code 45 (.invokespecial 212) 3 48 := ⟨by decide +kernel, rfl⟩
theorem dd_AS_hugeLength_48 : ev_d prog_32_method_28_code 48 .athrow 1 49 := ⟨by decide +kernel, rfl⟩
theorem dd_AS_hugeLength_49 : ev_d prog_32_method_28_code 49 (.iload_n 2) 1 50 := ⟨by decide +kernel, rfl⟩
theorem dd_AS_hugeLength_50 : ev_d prog_32_method_28_code 50 (.ldc 200) 2 52 := ⟨by decide +kernel, rfl⟩
theorem dd_AS_hugeLength_52 : ev_j prog_32_method_28_code 52 (fun o => .if_icmp .gt o) 55 58 := ⟨6, by decide +kernel, rfl, by decide⟩
theorem dd_AS_hugeLength_55 : ev_d prog_32_method_28_code 55 (.ldc 200) 2 57 := ⟨by decide +kernel, rfl⟩
theorem dd_AS_hugeLength_57 : ev_d prog_32_method_28_code 57 .ireturn 1 58 := ⟨by decide +kernel, rfl⟩
theorem dd_AS_hugeLength_58 : ev_d prog_32_method_28_code 58 (.iload_n 2) 1 59 := ⟨by decide +kernel, rfl⟩
theorem dd_AS_hugeLength_59 : ev_d prog_32_method_28_code 59 .ireturn 1 60 := ⟨by decide +kernel, rfl⟩
-- AR_copyOf2
theorem dd_AR_copyOf2_0 : ev_d prog_25_method_119_code 0 (.aload_n 0) 1 1 := ⟨by decide +kernel, rfl⟩
theorem dd_AR_copyOf2_1 : ev_d prog_25_method_119_code 1 (.iload_n 1) 1 2 := ⟨by decide +kernel, rfl⟩
theorem dd_AR_copyOf2_2 : ev_d prog_25_method_119_code 2 (.aload_n 0) 1 3 := ⟨by decide +kernel, rfl⟩
theorem dd_AR_copyOf2_3 : ev_d prog_25_method_119_code 3 (.invokevirtual 86) 3 6 := ⟨by decide +kernel, rfl⟩
theorem dd_AR_copyOf2_6 : ev_d prog_25_method_119_code 6 (.invokestatic 300) 3 9 := ⟨by decide +kernel, rfl⟩
theorem dd_AR_copyOf2_9 : ev_d prog_25_method_119_code 9 .areturn 1 10 := ⟨by decide +kernel, rfl⟩
-- AR_copyOf3
theorem dd_AR_copyOf3_0 : ev_d prog_25_method_120_code 0 (.aload_n 2) 1 1 := ⟨by decide +kernel, rfl⟩
theorem dd_AR_copyOf3_1 : ev_d prog_25_method_120_code 1 (.ldc 110) 2 3 := ⟨by decide +kernel, rfl⟩
theorem dd_AR_copyOf3_3 : ev_j prog_25_method_120_code 3 (fun o => .if_acmp .ne o) 6 13 := ⟨10, by decide +kernel, rfl, by decide⟩
theorem dd_AR_copyOf3_6 : ev_d prog_25_method_120_code 6 (.iload_n 1) 1 7 := ⟨by decide +kernel, rfl⟩
theorem dd_AR_copyOf3_7 : ev_d prog_25_method_120_code 7 (.anewarray 2) 3 10 := ⟨by decide +kernel, rfl⟩
theorem dd_AR_copyOf3_10 : ev_j prog_25_method_120_code 10 (fun o => .goto o) 13 24 := ⟨14, by decide +kernel, rfl, by decide⟩
theorem dd_AR_copyOf3_13 : ev_d prog_25_method_120_code 13 (.aload_n 2) 1 14 := ⟨by decide +kernel, rfl⟩
theorem dd_AR_copyOf3_14 : ev_d prog_25_method_120_code 14 (.invokevirtual 90) 3 17 := ⟨by decide +kernel, rfl⟩
theorem dd_AR_copyOf3_17 : ev_d prog_25_method_120_code 17 (.iload_n 1) 1 18 := ⟨by decide +kernel, rfl⟩
theorem dd_AR_copyOf3_18 : ev_d prog_25_method_120_code 18 (.invokestatic 95) 3 21 := ⟨by decide +kernel, rfl⟩
theorem dd_AR_copyOf3_21 : ev_d prog_25_method_120_code 21 (.checkcast 110) 3 24 := ⟨by decide +kernel, rfl⟩
theorem dd_AR_copyOf3_24 : ev_d prog_25_method_120_code 24 (.astore_n 3) 1 25 := ⟨by decide +kernel, rfl⟩
theorem dd_AR_copyOf3_25 : ev_d prog_25_method_120_code 25 (.aload_n 0) 1 26 := ⟨by decide +kernel, rfl⟩
theorem dd_AR_copyOf3_26 : ev_d prog_25_method_120_code 26 (.iconst 0) 1 27 := ⟨by decide +kernel, rfl⟩
theorem dd_AR_copyOf3_27 : ev_d prog_25_method_120_code 27 (.aload_n 3) 1 28 := ⟨by decide +kernel, rfl⟩
theorem dd_AR_copyOf3_28 : ev_d prog_25_method_120_code 28 (.iconst 0) 1 29 := ⟨by decide +kernel, rfl⟩
theorem dd_AR_copyOf3_29 : ev_d prog_25_method_120_code 29 (.aload_n 0) 1 30 := ⟨by decide +kernel, rfl⟩
theorem dd_AR_copyOf3_30 : ev_d prog_25_method_120_code 30 .arraylength 1 31 := ⟨by decide +kernel, rfl⟩
theorem dd_AR_copyOf3_31 : ev_d prog_25_method_120_code 31 (.iload_n 1) 1 32 := ⟨by decide +kernel, rfl⟩
theorem dd_AR_copyOf3_32 : ev_d prog_25_method_120_code 32 (.invokestatic 304) 3 35 := ⟨by decide +kernel, rfl⟩
theorem dd_AR_copyOf3_35 : ev_d prog_25_method_120_code 35 (.invokestatic 150) 3 38 := ⟨by decide +kernel, rfl⟩
theorem dd_AR_copyOf3_38 : ev_d prog_25_method_120_code 38 (.aload_n 3) 1 39 := ⟨by decide +kernel, rfl⟩
theorem dd_AR_copyOf3_39 : ev_d prog_25_method_120_code 39 .areturn 1 40 := ⟨by decide +kernel, rfl⟩
-- MA_min
theorem dd_MA_min_0 : ev_d prog_17_method_69_code 0 (.iload_n 0) 1 1 := ⟨by decide +kernel, rfl⟩
theorem dd_MA_min_1 : ev_d prog_17_method_69_code 1 (.iload_n 1) 1 2 := ⟨by decide +kernel, rfl⟩
theorem dd_MA_min_2 : ev_j prog_17_method_69_code 2 (fun o => .if_icmp .gt o) 5 9 := ⟨7, by decide +kernel, rfl, by decide⟩
theorem dd_MA_min_5 : ev_d prog_17_method_69_code 5 (.iload_n 0) 1 6 := ⟨by decide +kernel, rfl⟩
theorem dd_MA_min_6 : ev_j prog_17_method_69_code 6 (fun o => .goto o) 9 10 := ⟨4, by decide +kernel, rfl, by decide⟩
theorem dd_MA_min_9 : ev_d prog_17_method_69_code 9 (.iload_n 1) 1 10 := ⟨by decide +kernel, rfl⟩
theorem dd_MA_min_10 : ev_d prog_17_method_69_code 10 .ireturn 1 11 := ⟨by decide +kernel, rfl⟩
-- AL_clear
theorem dd_AL_clear_0 : ev_d prog_24_method_40_code 0 (.aload_n 0) 1 1 := ⟨by decide +kernel, rfl⟩
theorem dd_AL_clear_1 : ev_d prog_24_method_40_code 1 .dup 1 2 := ⟨by decide +kernel, rfl⟩
theorem dd_AL_clear_2 : ev_d prog_24_method_40_code 2 (.getfield 63) 3 5 := ⟨by decide +kernel, rfl⟩
theorem dd_AL_clear_5 : ev_d prog_24_method_40_code 5 (.iconst 1) 1 6 := ⟨by decide +kernel, rfl⟩
theorem dd_AL_clear_6 : ev_d prog_24_method_40_code 6 .iadd 1 7 := ⟨by decide +kernel, rfl⟩
theorem dd_AL_clear_7 : ev_d prog_24_method_40_code 7 (.putfield 63) 3 10 := ⟨by decide +kernel, rfl⟩
theorem dd_AL_clear_10 : ev_d prog_24_method_40_code 10 (.aload_n 0) 1 11 := ⟨by decide +kernel, rfl⟩
theorem dd_AL_clear_11 : ev_d prog_24_method_40_code 11 (.getfield 9) 3 14 := ⟨by decide +kernel, rfl⟩
theorem dd_AL_clear_14 : ev_d prog_24_method_40_code 14 (.astore_n 1) 1 15 := ⟨by decide +kernel, rfl⟩
theorem dd_AL_clear_15 : ev_d prog_24_method_40_code 15 (.aload_n 0) 1 16 := ⟨by decide +kernel, rfl⟩
theorem dd_AL_clear_16 : ev_d prog_24_method_40_code 16 (.getfield 48) 3 19 := ⟨by decide +kernel, rfl⟩
theorem dd_AL_clear_19 : ev_d prog_24_method_40_code 19 (.istore_n 2) 1 20 := ⟨by decide +kernel, rfl⟩
theorem dd_AL_clear_20 : ev_d prog_24_method_40_code 20 (.aload_n 0) 1 21 := ⟨by decide +kernel, rfl⟩
theorem dd_AL_clear_21 : ev_d prog_24_method_40_code 21 (.iconst 0) 1 22 := ⟨by decide +kernel, rfl⟩
theorem dd_AL_clear_22 : ev_d prog_24_method_40_code 22 .dup_x1 1 23 := ⟨by decide +kernel, rfl⟩
theorem dd_AL_clear_23 : ev_d prog_24_method_40_code 23 (.putfield 48) 3 26 := ⟨by decide +kernel, rfl⟩
theorem dd_AL_clear_26 : ev_d prog_24_method_40_code 26 (.istore_n 3) 1 27 := ⟨by decide +kernel, rfl⟩
theorem dd_AL_clear_27 : ev_d prog_24_method_40_code 27 (.iload_n 3) 1 28 := ⟨by decide +kernel, rfl⟩
theorem dd_AL_clear_28 : ev_d prog_24_method_40_code 28 (.iload_n 2) 1 29 := ⟨by decide +kernel, rfl⟩
theorem dd_AL_clear_29 : ev_j prog_24_method_40_code 29 (fun o => .if_icmp .ge o) 32 42 := ⟨13, by decide +kernel, rfl, by decide⟩
theorem dd_AL_clear_32 : ev_d prog_24_method_40_code 32 (.aload_n 1) 1 33 := ⟨by decide +kernel, rfl⟩
theorem dd_AL_clear_33 : ev_d prog_24_method_40_code 33 (.iload_n 3) 1 34 := ⟨by decide +kernel, rfl⟩
theorem dd_AL_clear_34 : ev_d prog_24_method_40_code 34 .aconst_null 1 35 := ⟨by decide +kernel, rfl⟩
theorem dd_AL_clear_35 : ev_d prog_24_method_40_code 35 .aastore 1 36 := ⟨by decide +kernel, rfl⟩
theorem dd_AL_clear_36 : ev_d prog_24_method_40_code 36 (.iinc 3 1) 3 39 := ⟨by decide +kernel, rfl⟩
theorem dd_AL_clear_39 : ev_j prog_24_method_40_code 39 (fun o => .goto o) 42 27 := ⟨(-12), by decide +kernel, rfl, by decide⟩
theorem dd_AL_clear_42 : ev_d prog_24_method_40_code 42 .return_ 1 43 := ⟨by decide +kernel, rfl⟩
-- AL_isEmpty
theorem dd_AL_isEmpty_0 : ev_d prog_24_method_9_code 0 (.aload_n 0) 1 1 := ⟨by decide +kernel, rfl⟩
theorem dd_AL_isEmpty_1 : ev_d prog_24_method_9_code 1 (.getfield 48) 3 4 := ⟨by decide +kernel, rfl⟩
theorem dd_AL_isEmpty_4 : ev_j prog_24_method_9_code 4 (fun o => .ifCond .ne o) 7 11 := ⟨7, by decide +kernel, rfl, by decide⟩
theorem dd_AL_isEmpty_7 : ev_d prog_24_method_9_code 7 (.iconst 1) 1 8 := ⟨by decide +kernel, rfl⟩
theorem dd_AL_isEmpty_8 : ev_j prog_24_method_9_code 8 (fun o => .goto o) 11 12 := ⟨4, by decide +kernel, rfl, by decide⟩
theorem dd_AL_isEmpty_11 : ev_d prog_24_method_9_code 11 (.iconst 0) 1 12 := ⟨by decide +kernel, rfl⟩
theorem dd_AL_isEmpty_12 : ev_d prog_24_method_9_code 12 .ireturn 1 13 := ⟨by decide +kernel, rfl⟩
-- AL_remove
theorem dd_AL_remove_0 : ev_d prog_24_method_29_code 0 (.iload_n 1) 1 1 := ⟨by decide +kernel, rfl⟩
theorem dd_AL_remove_1 : ev_d prog_24_method_29_code 1 (.aload_n 0) 1 2 := ⟨by decide +kernel, rfl⟩
theorem dd_AL_remove_2 : ev_d prog_24_method_29_code 2 (.getfield 48) 3 5 := ⟨by decide +kernel, rfl⟩
theorem dd_AL_remove_5 : ev_d prog_24_method_29_code 5 (.invokestatic 118) 3 8 := ⟨by decide +kernel, rfl⟩
theorem dd_AL_remove_8 : ev_d prog_24_method_29_code 8 .pop 1 9 := ⟨by decide +kernel, rfl⟩
theorem dd_AL_remove_9 : ev_d prog_24_method_29_code 9 (.aload_n 0) 1 10 := ⟨by decide +kernel, rfl⟩
theorem dd_AL_remove_10 : ev_d prog_24_method_29_code 10 (.getfield 9) 3 13 := ⟨by decide +kernel, rfl⟩
theorem dd_AL_remove_13 : ev_d prog_24_method_29_code 13 (.astore_n 2) 1 14 := ⟨by decide +kernel, rfl⟩
theorem dd_AL_remove_14 : ev_d prog_24_method_29_code 14 (.aload_n 2) 1 15 := ⟨by decide +kernel, rfl⟩
theorem dd_AL_remove_15 : ev_d prog_24_method_29_code 15 (.iload_n 1) 1 16 := ⟨by decide +kernel, rfl⟩
theorem dd_AL_remove_16 : ev_d prog_24_method_29_code 16 .aaload 1 17 := ⟨by decide +kernel, rfl⟩
theorem dd_AL_remove_17 : ev_d prog_24_method_29_code 17 (.astore_n 3) 1 18 := ⟨by decide +kernel, rfl⟩
theorem dd_AL_remove_18 : ev_d prog_24_method_29_code 18 (.aload_n 0) 1 19 := ⟨by decide +kernel, rfl⟩
theorem dd_AL_remove_19 : ev_d prog_24_method_29_code 19 (.aload_n 2) 1 20 := ⟨by decide +kernel, rfl⟩
theorem dd_AL_remove_20 : ev_d prog_24_method_29_code 20 (.iload_n 1) 1 21 := ⟨by decide +kernel, rfl⟩
theorem dd_AL_remove_21 : ev_d prog_24_method_29_code 21 (.invokevirtual 144) 3 24 := ⟨by decide +kernel, rfl⟩
theorem dd_AL_remove_24 : ev_d prog_24_method_29_code 24 (.aload_n 3) 1 25 := ⟨by decide +kernel, rfl⟩
theorem dd_AL_remove_25 : ev_d prog_24_method_29_code 25 .areturn 1 26 := ⟨by decide +kernel, rfl⟩
-- AL_fastRemove
theorem dd_AL_fastRemove_0 : ev_d prog_24_method_39_code 0 (.aload_n 0) 1 1 := ⟨by decide +kernel, rfl⟩
theorem dd_AL_fastRemove_1 : ev_d prog_24_method_39_code 1 .dup 1 2 := ⟨by decide +kernel, rfl⟩
theorem dd_AL_fastRemove_2 : ev_d prog_24_method_39_code 2 (.getfield 63) 3 5 := ⟨by decide +kernel, rfl⟩
theorem dd_AL_fastRemove_5 : ev_d prog_24_method_39_code 5 (.iconst 1) 1 6 := ⟨by decide +kernel, rfl⟩
theorem dd_AL_fastRemove_6 : ev_d prog_24_method_39_code 6 .iadd 1 7 := ⟨by decide +kernel, rfl⟩
theorem dd_AL_fastRemove_7 : ev_d prog_24_method_39_code 7 (.putfield 63) 3 10 := ⟨by decide +kernel, rfl⟩
theorem dd_AL_fastRemove_10 : ev_d prog_24_method_39_code 10 (.aload_n 0) 1 11 := ⟨by decide +kernel, rfl⟩
theorem dd_AL_fastRemove_11 : ev_d prog_24_method_39_code 11 (.getfield 48) 3 14 := ⟨by decide +kernel, rfl⟩
theorem dd_AL_fastRemove_14 : ev_d prog_24_method_39_code 14 (.iconst 1) 1 15 := ⟨by decide +kernel, rfl⟩
theorem dd_AL_fastRemove_15 : ev_d prog_24_method_39_code 15 .isub 1 16 := ⟨by decide +kernel, rfl⟩
theorem dd_AL_fastRemove_16 : ev_d prog_24_method_39_code 16 .dup 1 17 := ⟨by decide +kernel, rfl⟩
theorem dd_AL_fastRemove_17 : ev_d prog_24_method_39_code 17 (.istore_n 3) 1 18 := ⟨by decide +kernel, rfl⟩
theorem dd_AL_fastRemove_18 : ev_d prog_24_method_39_code 18 (.iload_n 2) 1 19 := ⟨by decide +kernel, rfl⟩
theorem dd_AL_fastRemove_19 : ev_j prog_24_method_39_code 19 (fun o => .if_icmp .le o) 22 34 := ⟨15, by decide +kernel, rfl, by decide⟩
theorem dd_AL_fastRemove_22 : ev_d prog_24_method_39_code 22 (.aload_n 1) 1 23 := ⟨by decide +kernel, rfl⟩
theorem dd_AL_fastRemove_23 : ev_d prog_24_method_39_code 23 (.iload_n 2) 1 24 := ⟨by decide +kernel, rfl⟩
theorem dd_AL_fastRemove_24 : ev_d prog_24_method_39_code 24 (.iconst 1) 1 25 := ⟨by decide +kernel, rfl⟩
theorem dd_AL_fastRemove_25 : ev_d prog_24_method_39_code 25 .iadd 1 26 := ⟨by decide +kernel, rfl⟩
theorem dd_AL_fastRemove_26 : ev_d prog_24_method_39_code 26 (.aload_n 1) 1 27 := ⟨by decide +kernel, rfl⟩
theorem dd_AL_fastRemove_27 : ev_d prog_24_method_39_code 27 (.iload_n 2) 1 28 := ⟨by decide +kernel, rfl⟩
theorem dd_AL_fastRemove_28 : ev_d prog_24_method_39_code 28 (.iload_n 3) 1 29 := ⟨by decide +kernel, rfl⟩
theorem dd_AL_fastRemove_29 : ev_d prog_24_method_39_code 29 (.iload_n 2) 1 30 := ⟨by decide +kernel, rfl⟩
theorem dd_AL_fastRemove_30 : ev_d prog_24_method_39_code 30 .isub 1 31 := ⟨by decide +kernel, rfl⟩
theorem dd_AL_fastRemove_31 : ev_d prog_24_method_39_code 31 (.invokestatic 112) 3 34 := ⟨by decide +kernel, rfl⟩
theorem dd_AL_fastRemove_34 : ev_d prog_24_method_39_code 34 (.aload_n 1) 1 35 := ⟨by decide +kernel, rfl⟩
theorem dd_AL_fastRemove_35 : ev_d prog_24_method_39_code 35 (.aload_n 0) 1 36 := ⟨by decide +kernel, rfl⟩
theorem dd_AL_fastRemove_36 : ev_d prog_24_method_39_code 36 (.iload_n 3) 1 37 := ⟨by decide +kernel, rfl⟩
theorem dd_AL_fastRemove_37 : ev_d prog_24_method_39_code 37 .dup_x1 1 38 := ⟨by decide +kernel, rfl⟩
theorem dd_AL_fastRemove_38 : ev_d prog_24_method_39_code 38 (.putfield 48) 3 41 := ⟨by decide +kernel, rfl⟩
theorem dd_AL_fastRemove_41 : ev_d prog_24_method_39_code 41 .aconst_null 1 42 := ⟨by decide +kernel, rfl⟩
theorem dd_AL_fastRemove_42 : ev_d prog_24_method_39_code 42 .aastore 1 43 := ⟨by decide +kernel, rfl⟩
theorem dd_AL_fastRemove_43 : ev_d prog_24_method_39_code 43 .return_ 1 44 := ⟨by decide +kernel, rfl⟩
-- Y_backFor
theorem dd_Y_backFor_0 : ev_d prog_5_method_3_code 0 (.iload_n 1) 1 1 := ⟨by decide +kernel, rfl⟩
theorem dd_Y_backFor_1 : ev_d prog_5_method_3_code 1 (.bipush 16) 2 3 := ⟨by decide +kernel, rfl⟩
theorem dd_Y_backFor_3 : ev_d prog_5_method_3_code 3 (.invokestatic 24) 3 6 := ⟨by decide +kernel, rfl⟩
theorem dd_Y_backFor_6 : ev_d prog_5_method_3_code 6 (.istore_n 2) 1 7 := ⟨by decide +kernel, rfl⟩
theorem dd_Y_backFor_7 : ev_d prog_5_method_3_code 7 (.aload_n 0) 1 8 := ⟨by decide +kernel, rfl⟩
theorem dd_Y_backFor_8 : ev_d prog_5_method_3_code 8 (.getfield 11) 3 11 := ⟨by decide +kernel, rfl⟩
theorem dd_Y_backFor_11 : ev_d prog_5_method_3_code 11 (.iload_n 2) 1 12 := ⟨by decide +kernel, rfl⟩
theorem dd_Y_backFor_12 : ev_d prog_5_method_3_code 12 .iaload 1 13 := ⟨by decide +kernel, rfl⟩
theorem dd_Y_backFor_13 : ev_d prog_5_method_3_code 13 (.iload_n 1) 1 14 := ⟨by decide +kernel, rfl⟩
theorem dd_Y_backFor_14 : ev_j prog_5_method_3_code 14 (fun o => .if_icmp .ne o) 17 26 := ⟨12, by decide +kernel, rfl, by decide⟩
theorem dd_Y_backFor_17 : ev_d prog_5_method_3_code 17 (.aload_n 0) 1 18 := ⟨by decide +kernel, rfl⟩
theorem dd_Y_backFor_18 : ev_d prog_5_method_3_code 18 (.getfield 15) 3 21 := ⟨by decide +kernel, rfl⟩
theorem dd_Y_backFor_21 : ev_d prog_5_method_3_code 21 (.iload_n 2) 1 22 := ⟨by decide +kernel, rfl⟩
theorem dd_Y_backFor_22 : ev_d prog_5_method_3_code 22 .iaload 1 23 := ⟨by decide +kernel, rfl⟩
theorem dd_Y_backFor_23 : ev_j prog_5_method_3_code 23 (fun o => .goto o) 26 27 := ⟨4, by decide +kernel, rfl, by decide⟩
theorem dd_Y_backFor_26 : ev_d prog_5_method_3_code 26 (.iconst (-1)) 1 27 := ⟨by decide +kernel, rfl⟩
theorem dd_Y_backFor_27 : ev_d prog_5_method_3_code 27 .ireturn 1 28 := ⟨by decide +kernel, rfl⟩
-- G_init
theorem dd_G_init_0 : ev_d prog_6_method_1_code 0 (.aload_n 0) 1 1 := ⟨by decide +kernel, rfl⟩
theorem dd_G_init_1 : ev_d prog_6_method_1_code 1 (.invokespecial 3) 3 4 := ⟨by decide +kernel, rfl⟩
theorem dd_G_init_4 : ev_d prog_6_method_1_code 4 (.aload_n 0) 1 5 := ⟨by decide +kernel, rfl⟩
theorem dd_G_init_5 : ev_d prog_6_method_1_code 5 (.iload_n 1) 1 6 := ⟨by decide +kernel, rfl⟩
theorem dd_G_init_6 : ev_d prog_6_method_1_code 6 (.putfield 9) 3 9 := ⟨by decide +kernel, rfl⟩
theorem dd_G_init_9 : ev_d prog_6_method_1_code 9 (.aload_n 0) 1 10 := ⟨by decide +kernel, rfl⟩
theorem dd_G_init_10 : ev_d prog_6_method_1_code 10 (.iload_n 2) 1 11 := ⟨by decide +kernel, rfl⟩
theorem dd_G_init_11 : ev_d prog_6_method_1_code 11 (.putfield 15) 3 14 := ⟨by decide +kernel, rfl⟩
theorem dd_G_init_14 : ev_d prog_6_method_1_code 14 (.aload_n 0) 1 15 := ⟨by decide +kernel, rfl⟩
theorem dd_G_init_15 : ev_d prog_6_method_1_code 15 (.iload_n 3) 1 16 := ⟨by decide +kernel, rfl⟩
theorem dd_G_init_16 : ev_d prog_6_method_1_code 16 (.putfield 18) 3 19 := ⟨by decide +kernel, rfl⟩
theorem dd_G_init_19 : ev_d prog_6_method_1_code 19 (.aload_n 0) 1 20 := ⟨by decide +kernel, rfl⟩
theorem dd_G_init_20 : ev_d prog_6_method_1_code 20 (.iload 4) 2 22 := ⟨by decide +kernel, rfl⟩
theorem dd_G_init_22 : ev_d prog_6_method_1_code 22 (.putfield 21) 3 25 := ⟨by decide +kernel, rfl⟩
theorem dd_G_init_25 : ev_d prog_6_method_1_code 25 .return_ 1 26 := ⟨by decide +kernel, rfl⟩
-- C_settle
theorem dd_C_settle_0 : ev_d prog_2_method_3_code 0 (.iload_n 1) 1 1 := ⟨by decide +kernel, rfl⟩
theorem dd_C_settle_1 : ev_d prog_2_method_3_code 1 (.iconst (-1)) 1 2 := ⟨by decide +kernel, rfl⟩
theorem dd_C_settle_2 : ev_j prog_2_method_3_code 2 (fun o => .if_icmp .eq o) 5 35 := ⟨33, by decide +kernel, rfl, by decide⟩
theorem dd_C_settle_5 : ev_d prog_2_method_3_code 5 (.iload_n 1) 1 6 := ⟨by decide +kernel, rfl⟩
theorem dd_C_settle_6 : ev_d prog_2_method_3_code 6 (.aload_n 0) 1 7 := ⟨by decide +kernel, rfl⟩
theorem dd_C_settle_7 : ev_d prog_2_method_3_code 7 (.getfield 37) 3 10 := ⟨by decide +kernel, rfl⟩
theorem dd_C_settle_10 : ev_d prog_2_method_3_code 10 .isub 1 11 := ⟨by decide +kernel, rfl⟩
theorem dd_C_settle_11 : ev_d prog_2_method_3_code 11 (.bipush 8) 2 13 := ⟨by decide +kernel, rfl⟩
theorem dd_C_settle_13 : ev_d prog_2_method_3_code 13 (.invokestatic 75) 3 16 := ⟨by decide +kernel, rfl⟩
theorem dd_C_settle_16 : ev_d prog_2_method_3_code 16 (.istore_n 2) 1 17 := ⟨by decide +kernel, rfl⟩
theorem dd_C_settle_17 : ev_d prog_2_method_3_code 17 (.iload_n 2) 1 18 := ⟨by decide +kernel, rfl⟩
theorem dd_C_settle_18 : ev_d prog_2_method_3_code 18 (.aload_n 0) 1 19 := ⟨by decide +kernel, rfl⟩
theorem dd_C_settle_19 : ev_d prog_2_method_3_code 19 (.getfield 34) 3 22 := ⟨by decide +kernel, rfl⟩
theorem dd_C_settle_22 : ev_j prog_2_method_3_code 22 (fun o => .if_icmp .ge o) 25 35 := ⟨13, by decide +kernel, rfl, by decide⟩
theorem dd_C_settle_25 : ev_d prog_2_method_3_code 25 (.aload_n 0) 1 26 := ⟨by decide +kernel, rfl⟩
theorem dd_C_settle_26 : ev_d prog_2_method_3_code 26 (.getfield 43) 3 29 := ⟨by decide +kernel, rfl⟩
theorem dd_C_settle_29 : ev_d prog_2_method_3_code 29 (.iload_n 2) 1 30 := ⟨by decide +kernel, rfl⟩
theorem dd_C_settle_30 : ev_d prog_2_method_3_code 30 (.iconst 1) 1 31 := ⟨by decide +kernel, rfl⟩
theorem dd_C_settle_31 : ev_d prog_2_method_3_code 31 .iadd 1 32 := ⟨by decide +kernel, rfl⟩
theorem dd_C_settle_32 : ev_d prog_2_method_3_code 32 (.invokestatic 81) 3 35 := ⟨by decide +kernel, rfl⟩
theorem dd_C_settle_35 : ev_d prog_2_method_3_code 35 (.aload_n 0) 1 36 := ⟨by decide +kernel, rfl⟩
theorem dd_C_settle_36 : ev_d prog_2_method_3_code 36 (.iconst 0) 1 37 := ⟨by decide +kernel, rfl⟩
theorem dd_C_settle_37 : ev_d prog_2_method_3_code 37 (.putfield 34) 3 40 := ⟨by decide +kernel, rfl⟩
theorem dd_C_settle_40 : ev_d prog_2_method_3_code 40 (.aload_n 0) 1 41 := ⟨by decide +kernel, rfl⟩
theorem dd_C_settle_41 : ev_d prog_2_method_3_code 41 (.iconst 1) 1 42 := ⟨by decide +kernel, rfl⟩
theorem dd_C_settle_42 : ev_d prog_2_method_3_code 42 (.putfield 18) 3 45 := ⟨by decide +kernel, rfl⟩
theorem dd_C_settle_45 : ev_d prog_2_method_3_code 45 .return_ 1 46 := ⟨by decide +kernel, rfl⟩
-- C_giveUp
theorem dd_C_giveUp_0 : ev_d prog_2_method_4_code 0 (.iconst 0) 1 1 := ⟨by decide +kernel, rfl⟩
theorem dd_C_giveUp_1 : ev_d prog_2_method_4_code 1 (.istore_n 1) 1 2 := ⟨by decide +kernel, rfl⟩
theorem dd_C_giveUp_2 : ev_d prog_2_method_4_code 2 (.iconst 0) 1 3 := ⟨by decide +kernel, rfl⟩
theorem dd_C_giveUp_3 : ev_d prog_2_method_4_code 3 (.istore_n 2) 1 4 := ⟨by decide +kernel, rfl⟩
theorem dd_C_giveUp_4 : ev_d prog_2_method_4_code 4 (.iload_n 2) 1 5 := ⟨by decide +kernel, rfl⟩
theorem dd_C_giveUp_5 : ev_d prog_2_method_4_code 5 (.aload_n 0) 1 6 := ⟨by decide +kernel, rfl⟩
theorem dd_C_giveUp_6 : ev_d prog_2_method_4_code 6 (.getfield 34) 3 9 := ⟨by decide +kernel, rfl⟩
theorem dd_C_giveUp_9 : ev_j prog_2_method_4_code 9 (fun o => .if_icmp .ge o) 12 49 := ⟨40, by decide +kernel, rfl, by decide⟩
theorem dd_C_giveUp_12 : ev_d prog_2_method_4_code 12 (.iload_n 2) 1 13 := ⟨by decide +kernel, rfl⟩
theorem dd_C_giveUp_13 : ev_d prog_2_method_4_code 13 (.aload_n 0) 1 14 := ⟨by decide +kernel, rfl⟩
theorem dd_C_giveUp_14 : ev_d prog_2_method_4_code 14 (.getfield 43) 3 17 := ⟨by decide +kernel, rfl⟩
theorem dd_C_giveUp_17 : ev_d prog_2_method_4_code 17 (.invokevirtual 55) 3 20 := ⟨by decide +kernel, rfl⟩
theorem dd_C_giveUp_20 : ev_j prog_2_method_4_code 20 (fun o => .if_icmp .ge o) 23 49 := ⟨29, by decide +kernel, rfl, by decide⟩
theorem dd_C_giveUp_23 : ev_d prog_2_method_4_code 23 (.aload_n 0) 1 24 := ⟨by decide +kernel, rfl⟩
theorem dd_C_giveUp_24 : ev_d prog_2_method_4_code 24 (.getfield 43) 3 27 := ⟨by decide +kernel, rfl⟩
theorem dd_C_giveUp_27 : ev_d prog_2_method_4_code 27 (.iload_n 2) 1 28 := ⟨by decide +kernel, rfl⟩
theorem dd_C_giveUp_28 : ev_d prog_2_method_4_code 28 (.invokevirtual 62) 3 31 := ⟨by decide +kernel, rfl⟩
theorem dd_C_giveUp_31 : ev_d prog_2_method_4_code 31 (.checkcast 66) 3 34 := ⟨by decide +kernel, rfl⟩
theorem dd_C_giveUp_34 : ev_d prog_2_method_4_code 34 (.invokevirtual 85) 3 37 := ⟨by decide +kernel, rfl⟩
theorem dd_C_giveUp_37 : ev_j prog_2_method_4_code 37 (fun o => .ifCond .eq o) 40 43 := ⟨6, by decide +kernel, rfl, by decide⟩
theorem dd_C_giveUp_40 : ev_d prog_2_method_4_code 40 (.iinc 1 1) 3 43 := ⟨by decide +kernel, rfl⟩
theorem dd_C_giveUp_43 : ev_d prog_2_method_4_code 43 (.iinc 2 1) 3 46 := ⟨by decide +kernel, rfl⟩
theorem dd_C_giveUp_46 : ev_j prog_2_method_4_code 46 (fun o => .goto o) 49 4 := ⟨(-42), by decide +kernel, rfl, by decide⟩
theorem dd_C_giveUp_49 : ev_d prog_2_method_4_code 49 (.aload_n 0) 1 50 := ⟨by decide +kernel, rfl⟩
theorem dd_C_giveUp_50 : ev_d prog_2_method_4_code 50 (.getfield 43) 3 53 := ⟨by decide +kernel, rfl⟩
theorem dd_C_giveUp_53 : ev_d prog_2_method_4_code 53 (.aload_n 0) 1 54 := ⟨by decide +kernel, rfl⟩
theorem dd_C_giveUp_54 : ev_d prog_2_method_4_code 54 (.getfield 34) 3 57 := ⟨by decide +kernel, rfl⟩
theorem dd_C_giveUp_57 : ev_d prog_2_method_4_code 57 (.invokestatic 81) 3 60 := ⟨by decide +kernel, rfl⟩
theorem dd_C_giveUp_60 : ev_d prog_2_method_4_code 60 (.aload_n 0) 1 61 := ⟨by decide +kernel, rfl⟩
theorem dd_C_giveUp_61 : ev_d prog_2_method_4_code 61 (.iconst 0) 1 62 := ⟨by decide +kernel, rfl⟩
theorem dd_C_giveUp_62 : ev_d prog_2_method_4_code 62 (.putfield 34) 3 65 := ⟨by decide +kernel, rfl⟩
theorem dd_C_giveUp_65 : ev_d prog_2_method_4_code 65 (.aload_n 0) 1 66 := ⟨by decide +kernel, rfl⟩
theorem dd_C_giveUp_66 : ev_d prog_2_method_4_code 66 (.iconst 1) 1 67 := ⟨by decide +kernel, rfl⟩
theorem dd_C_giveUp_67 : ev_d prog_2_method_4_code 67 (.putfield 18) 3 70 := ⟨by decide +kernel, rfl⟩
theorem dd_C_giveUp_70 : ev_d prog_2_method_4_code 70 (.iload_n 1) 1 71 := ⟨by decide +kernel, rfl⟩
theorem dd_C_giveUp_71 : ev_d prog_2_method_4_code 71 .ireturn 1 72 := ⟨by decide +kernel, rfl⟩
-- G_isOfClass
theorem dd_G_isOfClass_0 : ev_d prog_6_method_2_code 0 (.aload_n 0) 1 1 := ⟨by decide +kernel, rfl⟩
theorem dd_G_isOfClass_1 : ev_d prog_6_method_2_code 1 (.getfield 9) 3 4 := ⟨by decide +kernel, rfl⟩
theorem dd_G_isOfClass_4 : ev_d prog_6_method_2_code 4 (.iconst 4) 1 5 := ⟨by decide +kernel, rfl⟩
theorem dd_G_isOfClass_5 : ev_j prog_6_method_2_code 5 (fun o => .if_icmp .ge o) 8 12 := ⟨7, by decide +kernel, rfl, by decide⟩
theorem dd_G_isOfClass_8 : ev_d prog_6_method_2_code 8 (.iconst 1) 1 9 := ⟨by decide +kernel, rfl⟩
theorem dd_G_isOfClass_9 : ev_j prog_6_method_2_code 9 (fun o => .goto o) 12 13 := ⟨4, by decide +kernel, rfl, by decide⟩
theorem dd_G_isOfClass_12 : ev_d prog_6_method_2_code 12 (.iconst 0) 1 13 := ⟨by decide +kernel, rfl⟩
theorem dd_G_isOfClass_13 : ev_d prog_6_method_2_code 13 .ireturn 1 14 := ⟨by decide +kernel, rfl⟩
