/-! decode rows (printed) -/
-- P_init
theorem dd_P_init_0 : ev_d prog_1_method_1_code 0 (.aload_n 0) 1 1 := ⟨by decide +kernel, rfl⟩
theorem dd_P_init_1 : ev_d prog_1_method_1_code 1 (.invokespecial 1) 3 4 := ⟨by decide +kernel, rfl⟩
theorem dd_P_init_4 : ev_d prog_1_method_1_code 4 (.aload_n 0) 1 5 := ⟨by decide +kernel, rfl⟩
theorem dd_P_init_5 : ev_d prog_1_method_1_code 5 (.iconst 2) 1 6 := ⟨by decide +kernel, rfl⟩
theorem dd_P_init_6 : ev_d prog_1_method_1_code 6 (.anewarray 9) 3 9 := ⟨by decide +kernel, rfl⟩
theorem dd_P_init_9 : ev_d prog_1_method_1_code 9 (.putfield 11) 3 12 := ⟨by decide +kernel, rfl⟩
theorem dd_P_init_12 : ev_d prog_1_method_1_code 12 (.iconst 0) 1 13 := ⟨by decide +kernel, rfl⟩
theorem dd_P_init_13 : ev_d prog_1_method_1_code 13 (.istore_n 1) 1 14 := ⟨by decide +kernel, rfl⟩
theorem dd_P_init_14 : ev_d prog_1_method_1_code 14 (.iload_n 1) 1 15 := ⟨by decide +kernel, rfl⟩
theorem dd_P_init_15 : ev_d prog_1_method_1_code 15 (.iconst 2) 1 16 := ⟨by decide +kernel, rfl⟩
theorem dd_P_init_16 : ev_j prog_1_method_1_code 16 (fun o => .if_icmp .ge o) 19 38 := ⟨22, by decide +kernel, rfl, by decide⟩
theorem dd_P_init_19 : ev_d prog_1_method_1_code 19 (.aload_n 0) 1 20 := ⟨by decide +kernel, rfl⟩
theorem dd_P_init_20 : ev_d prog_1_method_1_code 20 (.getfield 11) 3 23 := ⟨by decide +kernel, rfl⟩
theorem dd_P_init_23 : ev_d prog_1_method_1_code 23 (.iload_n 1) 1 24 := ⟨by decide +kernel, rfl⟩
theorem dd_P_init_24 : ev_d prog_1_method_1_code 24 (.new 9) 3 27 := ⟨by decide +kernel, rfl⟩
theorem dd_P_init_27 : ev_d prog_1_method_1_code 27 .dup 1 28 := ⟨by decide +kernel, rfl⟩
theorem dd_P_init_28 : ev_d prog_1_method_1_code 28 (.invokespecial 15) 3 31 := ⟨by decide +kernel, rfl⟩
theorem dd_P_init_31 : ev_d prog_1_method_1_code 31 .aastore 1 32 := ⟨by decide +kernel, rfl⟩
theorem dd_P_init_32 : ev_d prog_1_method_1_code 32 (.iinc 1 1) 3 35 := ⟨by decide +kernel, rfl⟩
theorem dd_P_init_35 : ev_j prog_1_method_1_code 35 (fun o => .goto o) 38 14 := ⟨(-21), by decide +kernel, rfl, by decide⟩
theorem dd_P_init_38 : ev_d prog_1_method_1_code 38 (.aload_n 0) 1 39 := ⟨by decide +kernel, rfl⟩
theorem dd_P_init_39 : ev_d prog_1_method_1_code 39 (.bipush 6) 2 41 := ⟨by decide +kernel, rfl⟩
theorem dd_P_init_41 : ev_d prog_1_method_1_code 41 (.anewarray 16) 3 44 := ⟨by decide +kernel, rfl⟩
theorem dd_P_init_44 : ev_d prog_1_method_1_code 44 (.putfield 18) 3 47 := ⟨by decide +kernel, rfl⟩
theorem dd_P_init_47 : ev_d prog_1_method_1_code 47 (.iconst 0) 1 48 := ⟨by decide +kernel, rfl⟩
theorem dd_P_init_48 : ev_d prog_1_method_1_code 48 (.istore_n 1) 1 49 := ⟨by decide +kernel, rfl⟩
theorem dd_P_init_49 : ev_d prog_1_method_1_code 49 (.iload_n 1) 1 50 := ⟨by decide +kernel, rfl⟩
theorem dd_P_init_50 : ev_d prog_1_method_1_code 50 (.bipush 6) 2 52 := ⟨by decide +kernel, rfl⟩
theorem dd_P_init_52 : ev_j prog_1_method_1_code 52 (fun o => .if_icmp .ge o) 55 74 := ⟨22, by decide +kernel, rfl, by decide⟩
theorem dd_P_init_55 : ev_d prog_1_method_1_code 55 (.aload_n 0) 1 56 := ⟨by decide +kernel, rfl⟩
theorem dd_P_init_56 : ev_d prog_1_method_1_code 56 (.getfield 18) 3 59 := ⟨by decide +kernel, rfl⟩
theorem dd_P_init_59 : ev_d prog_1_method_1_code 59 (.iload_n 1) 1 60 := ⟨by decide +kernel, rfl⟩
theorem dd_P_init_60 : ev_d prog_1_method_1_code 60 (.new 16) 3 63 := ⟨by decide +kernel, rfl⟩
theorem dd_P_init_63 : ev_d prog_1_method_1_code 63 .dup 1 64 := ⟨by decide +kernel, rfl⟩
theorem dd_P_init_64 : ev_d prog_1_method_1_code 64 (.invokespecial 22) 3 67 := ⟨by decide +kernel, rfl⟩
theorem dd_P_init_67 : ev_d prog_1_method_1_code 67 .aastore 1 68 := ⟨by decide +kernel, rfl⟩
theorem dd_P_init_68 : ev_d prog_1_method_1_code 68 (.iinc 1 1) 3 71 := ⟨by decide +kernel, rfl⟩
theorem dd_P_init_71 : ev_j prog_1_method_1_code 71 (fun o => .goto o) 74 49 := ⟨(-22), by decide +kernel, rfl, by decide⟩
theorem dd_P_init_74 : ev_d prog_1_method_1_code 74 .return_ 1 75 := ⟨by decide +kernel, rfl⟩
-- P_tick
theorem dd_P_tick_0 : ev_d prog_1_method_6_code 0 (.iconst 0) 1 1 := ⟨by decide +kernel, rfl⟩
theorem dd_P_tick_1 : ev_d prog_1_method_6_code 1 (.istore_n 1) 1 2 := ⟨by decide +kernel, rfl⟩
theorem dd_P_tick_2 : ev_d prog_1_method_6_code 2 (.iconst 0) 1 3 := ⟨by decide +kernel, rfl⟩
theorem dd_P_tick_3 : ev_d prog_1_method_6_code 3 (.istore_n 2) 1 4 := ⟨by decide +kernel, rfl⟩
theorem dd_P_tick_4 : ev_d prog_1_method_6_code 4 (.iload_n 2) 1 5 := ⟨by decide +kernel, rfl⟩
theorem dd_P_tick_5 : ev_d prog_1_method_6_code 5 (.iconst 3) 1 6 := ⟨by decide +kernel, rfl⟩
theorem dd_P_tick_6 : ev_j prog_1_method_6_code 6 (fun o => .if_icmp .ge o) 9 37 := ⟨31, by decide +kernel, rfl, by decide⟩
theorem dd_P_tick_9 : ev_d prog_1_method_6_code 9 (.iconst 0) 1 10 := ⟨by decide +kernel, rfl⟩
theorem dd_P_tick_10 : ev_d prog_1_method_6_code 10 (.istore_n 3) 1 11 := ⟨by decide +kernel, rfl⟩
theorem dd_P_tick_11 : ev_d prog_1_method_6_code 11 (.iload_n 3) 1 12 := ⟨by decide +kernel, rfl⟩
theorem dd_P_tick_12 : ev_d prog_1_method_6_code 12 (.iconst 2) 1 13 := ⟨by decide +kernel, rfl⟩
theorem dd_P_tick_13 : ev_j prog_1_method_6_code 13 (fun o => .if_icmp .ge o) 16 31 := ⟨18, by decide +kernel, rfl, by decide⟩
theorem dd_P_tick_16 : ev_d prog_1_method_6_code 16 (.iload_n 1) 1 17 := ⟨by decide +kernel, rfl⟩
theorem dd_P_tick_17 : ev_d prog_1_method_6_code 17 (.aload_n 0) 1 18 := ⟨by decide +kernel, rfl⟩
theorem dd_P_tick_18 : ev_d prog_1_method_6_code 18 (.iload_n 2) 1 19 := ⟨by decide +kernel, rfl⟩
theorem dd_P_tick_19 : ev_d prog_1_method_6_code 19 (.iload_n 3) 1 20 := ⟨by decide +kernel, rfl⟩
theorem dd_P_tick_20 : ev_d prog_1_method_6_code 20 (.invokevirtual 68) 3 23 := ⟨by decide +kernel, rfl⟩
theorem dd_P_tick_23 : ev_d prog_1_method_6_code 23 .iadd 1 24 := ⟨by decide +kernel, rfl⟩
theorem dd_P_tick_24 : ev_d prog_1_method_6_code 24 (.istore_n 1) 1 25 := ⟨by decide +kernel, rfl⟩
theorem dd_P_tick_25 : ev_d prog_1_method_6_code 25 (.iinc 3 1) 3 28 := ⟨by decide +kernel, rfl⟩
theorem dd_P_tick_28 : ev_j prog_1_method_6_code 28 (fun o => .goto o) 31 11 := ⟨(-17), by decide +kernel, rfl, by decide⟩
theorem dd_P_tick_31 : ev_d prog_1_method_6_code 31 (.iinc 2 1) 3 34 := ⟨by decide +kernel, rfl⟩
theorem dd_P_tick_34 : ev_j prog_1_method_6_code 34 (fun o => .goto o) 37 4 := ⟨(-30), by decide +kernel, rfl, by decide⟩
theorem dd_P_tick_37 : ev_d prog_1_method_6_code 37 (.iconst 0) 1 38 := ⟨by decide +kernel, rfl⟩
theorem dd_P_tick_38 : ev_d prog_1_method_6_code 38 (.istore_n 2) 1 39 := ⟨by decide +kernel, rfl⟩
theorem dd_P_tick_39 : ev_d prog_1_method_6_code 39 (.iload_n 2) 1 40 := ⟨by decide +kernel, rfl⟩
theorem dd_P_tick_40 : ev_d prog_1_method_6_code 40 (.iconst 3) 1 41 := ⟨by decide +kernel, rfl⟩
theorem dd_P_tick_41 : ev_j prog_1_method_6_code 41 (fun o => .if_icmp .ge o) 44 73 := ⟨32, by decide +kernel, rfl, by decide⟩
theorem dd_P_tick_44 : ev_d prog_1_method_6_code 44 (.iconst 0) 1 45 := ⟨by decide +kernel, rfl⟩
theorem dd_P_tick_45 : ev_d prog_1_method_6_code 45 (.istore_n 3) 1 46 := ⟨by decide +kernel, rfl⟩
theorem dd_P_tick_46 : ev_d prog_1_method_6_code 46 (.iload_n 3) 1 47 := ⟨by decide +kernel, rfl⟩
theorem dd_P_tick_47 : ev_d prog_1_method_6_code 47 (.iconst 2) 1 48 := ⟨by decide +kernel, rfl⟩
theorem dd_P_tick_48 : ev_j prog_1_method_6_code 48 (fun o => .if_icmp .ge o) 51 67 := ⟨19, by decide +kernel, rfl, by decide⟩
theorem dd_P_tick_51 : ev_d prog_1_method_6_code 51 (.aload_n 0) 1 52 := ⟨by decide +kernel, rfl⟩
theorem dd_P_tick_52 : ev_d prog_1_method_6_code 52 (.getfield 11) 3 55 := ⟨by decide +kernel, rfl⟩
theorem dd_P_tick_55 : ev_d prog_1_method_6_code 55 (.iload_n 3) 1 56 := ⟨by decide +kernel, rfl⟩
theorem dd_P_tick_56 : ev_d prog_1_method_6_code 56 .aaload 1 57 := ⟨by decide +kernel, rfl⟩
theorem dd_P_tick_57 : ev_d prog_1_method_6_code 57 (.iload_n 2) 1 58 := ⟨by decide +kernel, rfl⟩
theorem dd_P_tick_58 : ev_d prog_1_method_6_code 58 (.invokevirtual 71) 3 61 := ⟨by decide +kernel, rfl⟩
theorem dd_P_tick_61 : ev_d prog_1_method_6_code 61 (.iinc 3 1) 3 64 := ⟨by decide +kernel, rfl⟩
theorem dd_P_tick_64 : ev_j prog_1_method_6_code 64 (fun o => .goto o) 67 46 := ⟨(-18), by decide +kernel, rfl, by decide⟩
theorem dd_P_tick_67 : ev_d prog_1_method_6_code 67 (.iinc 2 1) 3 70 := ⟨by decide +kernel, rfl⟩
theorem dd_P_tick_70 : ev_j prog_1_method_6_code 70 (fun o => .goto o) 73 39 := ⟨(-31), by decide +kernel, rfl, by decide⟩
theorem dd_P_tick_73 : ev_d prog_1_method_6_code 73 (.iconst 0) 1 74 := ⟨by decide +kernel, rfl⟩
theorem dd_P_tick_74 : ev_d prog_1_method_6_code 74 (.istore_n 2) 1 75 := ⟨by decide +kernel, rfl⟩
theorem dd_P_tick_75 : ev_d prog_1_method_6_code 75 (.iload_n 2) 1 76 := ⟨by decide +kernel, rfl⟩
theorem dd_P_tick_76 : ev_d prog_1_method_6_code 76 (.iconst 2) 1 77 := ⟨by decide +kernel, rfl⟩
theorem dd_P_tick_77 : ev_j prog_1_method_6_code 77 (fun o => .if_icmp .ge o) 80 109 := ⟨32, by decide +kernel, rfl, by decide⟩
theorem dd_P_tick_80 : ev_d prog_1_method_6_code 80 (.iconst 0) 1 81 := ⟨by decide +kernel, rfl⟩
theorem dd_P_tick_81 : ev_d prog_1_method_6_code 81 (.istore_n 3) 1 82 := ⟨by decide +kernel, rfl⟩
theorem dd_P_tick_82 : ev_d prog_1_method_6_code 82 (.iload_n 3) 1 83 := ⟨by decide +kernel, rfl⟩
theorem dd_P_tick_83 : ev_d prog_1_method_6_code 83 (.iconst 3) 1 84 := ⟨by decide +kernel, rfl⟩
theorem dd_P_tick_84 : ev_j prog_1_method_6_code 84 (fun o => .if_icmp .ge o) 87 103 := ⟨19, by decide +kernel, rfl, by decide⟩
theorem dd_P_tick_87 : ev_d prog_1_method_6_code 87 (.aload_n 0) 1 88 := ⟨by decide +kernel, rfl⟩
theorem dd_P_tick_88 : ev_d prog_1_method_6_code 88 (.getfield 11) 3 91 := ⟨by decide +kernel, rfl⟩
theorem dd_P_tick_91 : ev_d prog_1_method_6_code 91 (.iload_n 2) 1 92 := ⟨by decide +kernel, rfl⟩
theorem dd_P_tick_92 : ev_d prog_1_method_6_code 92 .aaload 1 93 := ⟨by decide +kernel, rfl⟩
theorem dd_P_tick_93 : ev_d prog_1_method_6_code 93 (.iload_n 3) 1 94 := ⟨by decide +kernel, rfl⟩
theorem dd_P_tick_94 : ev_d prog_1_method_6_code 94 (.invokevirtual 74) 3 97 := ⟨by decide +kernel, rfl⟩
theorem dd_P_tick_97 : ev_d prog_1_method_6_code 97 (.iinc 3 1) 3 100 := ⟨by decide +kernel, rfl⟩
theorem dd_P_tick_100 : ev_j prog_1_method_6_code 100 (fun o => .goto o) 103 82 := ⟨(-18), by decide +kernel, rfl, by decide⟩
theorem dd_P_tick_103 : ev_d prog_1_method_6_code 103 (.iinc 2 1) 3 106 := ⟨by decide +kernel, rfl⟩
theorem dd_P_tick_106 : ev_j prog_1_method_6_code 106 (fun o => .goto o) 109 75 := ⟨(-31), by decide +kernel, rfl, by decide⟩
theorem dd_P_tick_109 : ev_d prog_1_method_6_code 109 (.iconst 0) 1 110 := ⟨by decide +kernel, rfl⟩
theorem dd_P_tick_110 : ev_d prog_1_method_6_code 110 (.istore_n 2) 1 111 := ⟨by decide +kernel, rfl⟩
theorem dd_P_tick_111 : ev_d prog_1_method_6_code 111 (.iload_n 2) 1 112 := ⟨by decide +kernel, rfl⟩
theorem dd_P_tick_112 : ev_d prog_1_method_6_code 112 (.iconst 3) 1 113 := ⟨by decide +kernel, rfl⟩
theorem dd_P_tick_113 : ev_j prog_1_method_6_code 113 (fun o => .if_icmp .ge o) 116 149 := ⟨36, by decide +kernel, rfl, by decide⟩
theorem dd_P_tick_116 : ev_d prog_1_method_6_code 116 (.iconst 0) 1 117 := ⟨by decide +kernel, rfl⟩
theorem dd_P_tick_117 : ev_d prog_1_method_6_code 117 (.istore_n 3) 1 118 := ⟨by decide +kernel, rfl⟩
theorem dd_P_tick_118 : ev_d prog_1_method_6_code 118 (.iload_n 3) 1 119 := ⟨by decide +kernel, rfl⟩
theorem dd_P_tick_119 : ev_d prog_1_method_6_code 119 (.iconst 2) 1 120 := ⟨by decide +kernel, rfl⟩
theorem dd_P_tick_120 : ev_j prog_1_method_6_code 120 (fun o => .if_icmp .ge o) 123 143 := ⟨23, by decide +kernel, rfl, by decide⟩
theorem dd_P_tick_123 : ev_d prog_1_method_6_code 123 (.aload_n 0) 1 124 := ⟨by decide +kernel, rfl⟩
theorem dd_P_tick_124 : ev_d prog_1_method_6_code 124 (.getfield 11) 3 127 := ⟨by decide +kernel, rfl⟩
theorem dd_P_tick_127 : ev_d prog_1_method_6_code 127 (.iload_n 3) 1 128 := ⟨by decide +kernel, rfl⟩
theorem dd_P_tick_128 : ev_d prog_1_method_6_code 128 .aaload 1 129 := ⟨by decide +kernel, rfl⟩
theorem dd_P_tick_129 : ev_d prog_1_method_6_code 129 (.getfield 27) 3 132 := ⟨by decide +kernel, rfl⟩
theorem dd_P_tick_132 : ev_d prog_1_method_6_code 132 (.iload_n 2) 1 133 := ⟨by decide +kernel, rfl⟩
theorem dd_P_tick_133 : ev_d prog_1_method_6_code 133 .aaload 1 134 := ⟨by decide +kernel, rfl⟩
theorem dd_P_tick_134 : ev_d prog_1_method_6_code 134 (.invokevirtual 77) 3 137 := ⟨by decide +kernel, rfl⟩
theorem dd_P_tick_137 : ev_d prog_1_method_6_code 137 (.iinc 3 1) 3 140 := ⟨by decide +kernel, rfl⟩
theorem dd_P_tick_140 : ev_j prog_1_method_6_code 140 (fun o => .goto o) 143 118 := ⟨(-22), by decide +kernel, rfl, by decide⟩
theorem dd_P_tick_143 : ev_d prog_1_method_6_code 143 (.iinc 2 1) 3 146 := ⟨by decide +kernel, rfl⟩
theorem dd_P_tick_146 : ev_j prog_1_method_6_code 146 (fun o => .goto o) 149 111 := ⟨(-35), by decide +kernel, rfl, by decide⟩
theorem dd_P_tick_149 : ev_d prog_1_method_6_code 149 (.iload_n 1) 1 150 := ⟨by decide +kernel, rfl⟩
theorem dd_P_tick_150 : ev_d prog_1_method_6_code 150 .ireturn 1 151 := ⟨by decide +kernel, rfl⟩
-- P_arrive
theorem dd_P_arrive_0 : ev_d prog_1_method_19_code 0 (.aload_n 0) 1 1 := ⟨by decide +kernel, rfl⟩
theorem dd_P_arrive_1 : ev_d prog_1_method_19_code 1 (.getfield 11) 3 4 := ⟨by decide +kernel, rfl⟩
theorem dd_P_arrive_4 : ev_d prog_1_method_19_code 4 (.iconst 1) 1 5 := ⟨by decide +kernel, rfl⟩
theorem dd_P_arrive_5 : ev_d prog_1_method_19_code 5 (.iload_n 2) 1 6 := ⟨by decide +kernel, rfl⟩
theorem dd_P_arrive_6 : ev_d prog_1_method_19_code 6 .isub 1 7 := ⟨by decide +kernel, rfl⟩
theorem dd_P_arrive_7 : ev_d prog_1_method_19_code 7 .aaload 1 8 := ⟨by decide +kernel, rfl⟩
theorem dd_P_arrive_8 : ev_d prog_1_method_19_code 8 (.getfield 27) 3 11 := ⟨by decide +kernel, rfl⟩
theorem dd_P_arrive_11 : ev_d prog_1_method_19_code 11 (.iload_n 1) 1 12 := ⟨by decide +kernel, rfl⟩
theorem dd_P_arrive_12 : ev_d prog_1_method_19_code 12 .aaload 1 13 := ⟨by decide +kernel, rfl⟩
theorem dd_P_arrive_13 : ev_d prog_1_method_19_code 13 (.getfield 188) 3 16 := ⟨by decide +kernel, rfl⟩
theorem dd_P_arrive_16 : ev_d prog_1_method_19_code 16 (.astore_n 3) 1 17 := ⟨by decide +kernel, rfl⟩
theorem dd_P_arrive_17 : ev_d prog_1_method_19_code 17 (.aload_n 3) 1 18 := ⟨by decide +kernel, rfl⟩
theorem dd_P_arrive_18 : ev_d prog_1_method_19_code 18 (.getfield 192) 3 21 := ⟨by decide +kernel, rfl⟩
theorem dd_P_arrive_21 : ev_j prog_1_method_19_code 21 (fun o => .ifCond .ne o) 24 26 := ⟨5, by decide +kernel, rfl, by decide⟩
theorem dd_P_arrive_24 : ev_d prog_1_method_19_code 24 (.iconst 0) 1 25 := ⟨by decide +kernel, rfl⟩
theorem dd_P_arrive_25 : ev_d prog_1_method_19_code 25 .ireturn 1 26 := ⟨by decide +kernel, rfl⟩
theorem dd_P_arrive_26 : ev_d prog_1_method_19_code 26 (.aload_n 0) 1 27 := ⟨by decide +kernel, rfl⟩
theorem dd_P_arrive_27 : ev_d prog_1_method_19_code 27 (.getfield 18) 3 30 := ⟨by decide +kernel, rfl⟩
theorem dd_P_arrive_30 : ev_d prog_1_method_19_code 30 (.iload_n 1) 1 31 := ⟨by decide +kernel, rfl⟩
theorem dd_P_arrive_31 : ev_d prog_1_method_19_code 31 (.iload_n 2) 1 32 := ⟨by decide +kernel, rfl⟩
theorem dd_P_arrive_32 : ev_d prog_1_method_19_code 32 (.invokestatic 51) 3 35 := ⟨by decide +kernel, rfl⟩
theorem dd_P_arrive_35 : ev_d prog_1_method_19_code 35 .aaload 1 36 := ⟨by decide +kernel, rfl⟩
theorem dd_P_arrive_36 : ev_d prog_1_method_19_code 36 (.astore 4) 2 38 := ⟨by decide +kernel, rfl⟩
theorem dd_P_arrive_38 : ev_d prog_1_method_19_code 38 (.aload 4) 2 40 := ⟨by decide +kernel, rfl⟩
theorem dd_P_arrive_40 : ev_d prog_1_method_19_code 40 (.getfield 58) 3 43 := ⟨by decide +kernel, rfl⟩
theorem dd_P_arrive_43 : ev_j prog_1_method_19_code 43 (fun o => .ifCond .le o) 46 78 := ⟨35, by decide +kernel, rfl, by decide⟩
theorem dd_P_arrive_46 : ev_d prog_1_method_19_code 46 (.aload 4) 2 48 := ⟨by decide +kernel, rfl⟩
theorem dd_P_arrive_48 : ev_d prog_1_method_19_code 48 .dup 1 49 := ⟨by decide +kernel, rfl⟩
theorem dd_P_arrive_49 : ev_d prog_1_method_19_code 49 (.getfield 58) 3 52 := ⟨by decide +kernel, rfl⟩
theorem dd_P_arrive_52 : ev_d prog_1_method_19_code 52 (.iconst 1) 1 53 := ⟨by decide +kernel, rfl⟩
theorem dd_P_arrive_53 : ev_d prog_1_method_19_code 53 .isub 1 54 := ⟨by decide +kernel, rfl⟩
theorem dd_P_arrive_54 : ev_d prog_1_method_19_code 54 (.putfield 58) 3 57 := ⟨by decide +kernel, rfl⟩
theorem dd_P_arrive_57 : ev_d prog_1_method_19_code 57 (.aload 4) 2 59 := ⟨by decide +kernel, rfl⟩
theorem dd_P_arrive_59 : ev_d prog_1_method_19_code 59 (.getfield 55) 3 62 := ⟨by decide +kernel, rfl⟩
theorem dd_P_arrive_62 : ev_d prog_1_method_19_code 62 (.iconst 2) 1 63 := ⟨by decide +kernel, rfl⟩
theorem dd_P_arrive_63 : ev_j prog_1_method_19_code 63 (fun o => .if_icmp .ne o) 66 76 := ⟨13, by decide +kernel, rfl, by decide⟩
theorem dd_P_arrive_66 : ev_d prog_1_method_19_code 66 (.aload_n 0) 1 67 := ⟨by decide +kernel, rfl⟩
theorem dd_P_arrive_67 : ev_d prog_1_method_19_code 67 (.getfield 11) 3 70 := ⟨by decide +kernel, rfl⟩
theorem dd_P_arrive_70 : ev_d prog_1_method_19_code 70 (.iload_n 2) 1 71 := ⟨by decide +kernel, rfl⟩
theorem dd_P_arrive_71 : ev_d prog_1_method_19_code 71 .aaload 1 72 := ⟨by decide +kernel, rfl⟩
theorem dd_P_arrive_72 : ev_d prog_1_method_19_code 72 (.iload_n 1) 1 73 := ⟨by decide +kernel, rfl⟩
theorem dd_P_arrive_73 : ev_d prog_1_method_19_code 73 (.invokevirtual 197) 3 76 := ⟨by decide +kernel, rfl⟩
theorem dd_P_arrive_76 : ev_d prog_1_method_19_code 76 (.iconst 0) 1 77 := ⟨by decide +kernel, rfl⟩
theorem dd_P_arrive_77 : ev_d prog_1_method_19_code 77 .ireturn 1 78 := ⟨by decide +kernel, rfl⟩
theorem dd_P_arrive_78 : ev_d prog_1_method_19_code 78 (.aload_n 3) 1 79 := ⟨by decide +kernel, rfl⟩
theorem dd_P_arrive_79 : ev_d prog_1_method_19_code 79 (.getfield 192) 3 82 := ⟨by decide +kernel, rfl⟩
theorem dd_P_arrive_82 : ev_d prog_1_method_19_code 82 (.iconst 4) 1 83 := ⟨by decide +kernel, rfl⟩
theorem dd_P_arrive_83 : ev_j prog_1_method_19_code 83 (fun o => .if_icmp .ne o) 86 100 := ⟨17, by decide +kernel, rfl, by decide⟩
theorem dd_P_arrive_86 : ev_d prog_1_method_19_code 86 (.aload_n 0) 1 87 := ⟨by decide +kernel, rfl⟩
theorem dd_P_arrive_87 : ev_d prog_1_method_19_code 87 (.getfield 11) 3 90 := ⟨by decide +kernel, rfl⟩
theorem dd_P_arrive_90 : ev_d prog_1_method_19_code 90 (.iload_n 2) 1 91 := ⟨by decide +kernel, rfl⟩
theorem dd_P_arrive_91 : ev_d prog_1_method_19_code 91 .aaload 1 92 := ⟨by decide +kernel, rfl⟩
theorem dd_P_arrive_92 : ev_d prog_1_method_19_code 92 (.iload_n 1) 1 93 := ⟨by decide +kernel, rfl⟩
theorem dd_P_arrive_93 : ev_d prog_1_method_19_code 93 (.aload_n 3) 1 94 := ⟨by decide +kernel, rfl⟩
theorem dd_P_arrive_94 : ev_d prog_1_method_19_code 94 (.invokevirtual 200) 3 97 := ⟨by decide +kernel, rfl⟩
theorem dd_P_arrive_97 : ev_j prog_1_method_19_code 97 (fun o => .goto o) 100 111 := ⟨14, by decide +kernel, rfl, by decide⟩
theorem dd_P_arrive_100 : ev_d prog_1_method_19_code 100 (.aload_n 0) 1 101 := ⟨by decide +kernel, rfl⟩
theorem dd_P_arrive_101 : ev_d prog_1_method_19_code 101 (.getfield 11) 3 104 := ⟨by decide +kernel, rfl⟩
theorem dd_P_arrive_104 : ev_d prog_1_method_19_code 104 (.iload_n 2) 1 105 := ⟨by decide +kernel, rfl⟩
theorem dd_P_arrive_105 : ev_d prog_1_method_19_code 105 .aaload 1 106 := ⟨by decide +kernel, rfl⟩
theorem dd_P_arrive_106 : ev_d prog_1_method_19_code 106 (.iload_n 1) 1 107 := ⟨by decide +kernel, rfl⟩
theorem dd_P_arrive_107 : ev_d prog_1_method_19_code 107 (.aload_n 3) 1 108 := ⟨by decide +kernel, rfl⟩
theorem dd_P_arrive_108 : ev_d prog_1_method_19_code 108 (.invokevirtual 204) 3 111 := ⟨by decide +kernel, rfl⟩
theorem dd_P_arrive_111 : ev_d prog_1_method_19_code 111 (.iconst 1) 1 112 := ⟨by decide +kernel, rfl⟩
theorem dd_P_arrive_112 : ev_d prog_1_method_19_code 112 .ireturn 1 113 := ⟨by decide +kernel, rfl⟩
-- P_faultPlace
theorem dd_P_faultPlace_0 : ev_d prog_1_method_18_code 0 (.iload_n 0) 1 1 := ⟨by decide +kernel, rfl⟩
theorem dd_P_faultPlace_1 : ev_d prog_1_method_18_code 1 (.iconst 2) 1 2 := ⟨by decide +kernel, rfl⟩
theorem dd_P_faultPlace_2 : ev_d prog_1_method_18_code 2 .imul 1 3 := ⟨by decide +kernel, rfl⟩
theorem dd_P_faultPlace_3 : ev_d prog_1_method_18_code 3 (.iload_n 1) 1 4 := ⟨by decide +kernel, rfl⟩
theorem dd_P_faultPlace_4 : ev_d prog_1_method_18_code 4 .iadd 1 5 := ⟨by decide +kernel, rfl⟩
theorem dd_P_faultPlace_5 : ev_d prog_1_method_18_code 5 .ireturn 1 6 := ⟨by decide +kernel, rfl⟩
-- P_dropFirst
theorem dd_P_dropFirst_0 : ev_d prog_1_method_20_code 0 (.iconst 0) 1 1 := ⟨by decide +kernel, rfl⟩
theorem dd_P_dropFirst_1 : ev_d prog_1_method_20_code 1 (.istore_n 2) 1 2 := ⟨by decide +kernel, rfl⟩
theorem dd_P_dropFirst_2 : ev_d prog_1_method_20_code 2 (.iload_n 2) 1 3 := ⟨by decide +kernel, rfl⟩
theorem dd_P_dropFirst_3 : ev_d prog_1_method_20_code 3 (.iload_n 1) 1 4 := ⟨by decide +kernel, rfl⟩
theorem dd_P_dropFirst_4 : ev_j prog_1_method_20_code 4 (fun o => .if_icmp .ge o) 7 26 := ⟨22, by decide +kernel, rfl, by decide⟩
theorem dd_P_dropFirst_7 : ev_d prog_1_method_20_code 7 (.aload_n 0) 1 8 := ⟨by decide +kernel, rfl⟩
theorem dd_P_dropFirst_8 : ev_d prog_1_method_20_code 8 (.invokevirtual 156) 3 11 := ⟨by decide +kernel, rfl⟩
theorem dd_P_dropFirst_11 : ev_j prog_1_method_20_code 11 (fun o => .ifCond .ne o) 14 26 := ⟨15, by decide +kernel, rfl, by decide⟩
theorem dd_P_dropFirst_14 : ev_d prog_1_method_20_code 14 (.aload_n 0) 1 15 := ⟨by decide +kernel, rfl⟩
theorem dd_P_dropFirst_15 : ev_d prog_1_method_20_code 15 (.iconst 0) 1 16 := ⟨by decide +kernel, rfl⟩
theorem dd_P_dropFirst_16 : ev_d prog_1_method_20_code 16 (.invokevirtual 165) 3 19 := ⟨by decide +kernel, rfl⟩
theorem dd_P_dropFirst_19 : ev_d prog_1_method_20_code 19 .pop 1 20 := ⟨by decide +kernel, rfl⟩
theorem dd_P_dropFirst_20 : ev_d prog_1_method_20_code 20 (.iinc 2 1) 3 23 := ⟨by decide +kernel, rfl⟩
theorem dd_P_dropFirst_23 : ev_j prog_1_method_20_code 23 (fun o => .goto o) 26 2 := ⟨(-21), by decide +kernel, rfl, by decide⟩
theorem dd_P_dropFirst_26 : ev_d prog_1_method_20_code 26 .return_ 1 27 := ⟨by decide +kernel, rfl⟩
-- P_lost
theorem dd_P_lost_0 : ev_d prog_1_method_14_code 0 (.iconst 0) 1 1 := ⟨by decide +kernel, rfl⟩
theorem dd_P_lost_1 : ev_d prog_1_method_14_code 1 (.istore_n 1) 1 2 := ⟨by decide +kernel, rfl⟩
theorem dd_P_lost_2 : ev_d prog_1_method_14_code 2 (.iconst 0) 1 3 := ⟨by decide +kernel, rfl⟩
theorem dd_P_lost_3 : ev_d prog_1_method_14_code 3 (.istore_n 2) 1 4 := ⟨by decide +kernel, rfl⟩
theorem dd_P_lost_4 : ev_d prog_1_method_14_code 4 (.iload_n 2) 1 5 := ⟨by decide +kernel, rfl⟩
theorem dd_P_lost_5 : ev_d prog_1_method_14_code 5 (.iconst 2) 1 6 := ⟨by decide +kernel, rfl⟩
theorem dd_P_lost_6 : ev_j prog_1_method_14_code 6 (fun o => .if_icmp .ge o) 9 27 := ⟨21, by decide +kernel, rfl, by decide⟩
theorem dd_P_lost_9 : ev_d prog_1_method_14_code 9 (.iload_n 1) 1 10 := ⟨by decide +kernel, rfl⟩
theorem dd_P_lost_10 : ev_d prog_1_method_14_code 10 (.aload_n 0) 1 11 := ⟨by decide +kernel, rfl⟩
theorem dd_P_lost_11 : ev_d prog_1_method_14_code 11 (.getfield 11) 3 14 := ⟨by decide +kernel, rfl⟩
theorem dd_P_lost_14 : ev_d prog_1_method_14_code 14 (.iload_n 2) 1 15 := ⟨by decide +kernel, rfl⟩
theorem dd_P_lost_15 : ev_d prog_1_method_14_code 15 .aaload 1 16 := ⟨by decide +kernel, rfl⟩
theorem dd_P_lost_16 : ev_d prog_1_method_14_code 16 (.getfield 179) 3 19 := ⟨by decide +kernel, rfl⟩
theorem dd_P_lost_19 : ev_d prog_1_method_14_code 19 .iadd 1 20 := ⟨by decide +kernel, rfl⟩
theorem dd_P_lost_20 : ev_d prog_1_method_14_code 20 (.istore_n 1) 1 21 := ⟨by decide +kernel, rfl⟩
theorem dd_P_lost_21 : ev_d prog_1_method_14_code 21 (.iinc 2 1) 3 24 := ⟨by decide +kernel, rfl⟩
theorem dd_P_lost_24 : ev_j prog_1_method_14_code 24 (fun o => .goto o) 27 4 := ⟨(-20), by decide +kernel, rfl, by decide⟩
theorem dd_P_lost_27 : ev_d prog_1_method_14_code 27 (.iload_n 1) 1 28 := ⟨by decide +kernel, rfl⟩
theorem dd_P_lost_28 : ev_d prog_1_method_14_code 28 .ireturn 1 29 := ⟨by decide +kernel, rfl⟩
-- P_start
theorem dd_P_start_0 : ev_d prog_1_method_2_code 0 (.iload_n 1) 1 1 := ⟨by decide +kernel, rfl⟩
theorem dd_P_start_1 : ev_d prog_1_method_2_code 1 (.iload_n 2) 1 2 := ⟨by decide +kernel, rfl⟩
theorem dd_P_start_2 : ev_d prog_1_method_2_code 2 (.invokestatic 23) 3 5 := ⟨by decide +kernel, rfl⟩
theorem dd_P_start_5 : ev_d prog_1_method_2_code 5 (.aload_n 0) 1 6 := ⟨by decide +kernel, rfl⟩
theorem dd_P_start_6 : ev_d prog_1_method_2_code 6 (.getfield 11) 3 9 := ⟨by decide +kernel, rfl⟩
theorem dd_P_start_9 : ev_d prog_1_method_2_code 9 (.iload_n 2) 1 10 := ⟨by decide +kernel, rfl⟩
theorem dd_P_start_10 : ev_d prog_1_method_2_code 10 .aaload 1 11 := ⟨by decide +kernel, rfl⟩
theorem dd_P_start_11 : ev_d prog_1_method_2_code 11 (.getfield 27) 3 14 := ⟨by decide +kernel, rfl⟩
theorem dd_P_start_14 : ev_d prog_1_method_2_code 14 (.iload_n 1) 1 15 := ⟨by decide +kernel, rfl⟩
theorem dd_P_start_15 : ev_d prog_1_method_2_code 15 .aaload 1 16 := ⟨by decide +kernel, rfl⟩
theorem dd_P_start_16 : ev_d prog_1_method_2_code 16 (.astore_n 3) 1 17 := ⟨by decide +kernel, rfl⟩
theorem dd_P_start_17 : ev_d prog_1_method_2_code 17 (.aload_n 3) 1 18 := ⟨by decide +kernel, rfl⟩
theorem dd_P_start_18 : ev_d prog_1_method_2_code 18 (.getfield 31) 3 21 := ⟨by decide +kernel, rfl⟩
theorem dd_P_start_21 : ev_j prog_1_method_2_code 21 (fun o => .ifCond .eq o) 24 26 := ⟨5, by decide +kernel, rfl, by decide⟩
theorem dd_P_start_24 : ev_d prog_1_method_2_code 24 (.iconst 0) 1 25 := ⟨by decide +kernel, rfl⟩
theorem dd_P_start_25 : ev_d prog_1_method_2_code 25 .ireturn 1 26 := ⟨by decide +kernel, rfl⟩
theorem dd_P_start_26 : ev_d prog_1_method_2_code 26 (.aload_n 3) 1 27 := ⟨by decide +kernel, rfl⟩
theorem dd_P_start_27 : ev_d prog_1_method_2_code 27 (.invokevirtual 37) 3 30 := ⟨by decide +kernel, rfl⟩
theorem dd_P_start_30 : ev_d prog_1_method_2_code 30 (.iconst 1) 1 31 := ⟨by decide +kernel, rfl⟩
theorem dd_P_start_31 : ev_d prog_1_method_2_code 31 .ireturn 1 32 := ⟨by decide +kernel, rfl⟩
-- P_checkSide
theorem dd_P_checkSide_0 : ev_d prog_1_method_16_code 0 (.iload_n 1) 1 1 := ⟨by decide +kernel, rfl⟩
theorem dd_P_checkSide_1 : ev_d prog_1_method_16_code 1 (.invokestatic 147) 3 4 := ⟨by decide +kernel, rfl⟩
theorem dd_P_checkSide_4 : ev_d prog_1_method_16_code 4 (.iload_n 0) 1 5 := ⟨by decide +kernel, rfl⟩
theorem dd_P_checkSide_5 : ev_j prog_1_method_16_code 5 (fun o => .ifCond .lt o) 8 13 := ⟨8, by decide +kernel, rfl, by decide⟩
theorem dd_P_checkSide_8 : ev_d prog_1_method_16_code 8 (.iload_n 0) 1 9 := ⟨by decide +kernel, rfl⟩
theorem dd_P_checkSide_9 : ev_d prog_1_method_16_code 9 (.iconst 3) 1 10 := ⟨by decide +kernel, rfl⟩
theorem dd_P_checkSide_10 : ev_j prog_1_method_16_code 10 (fun o => .if_icmp .lt o) 13 23 := ⟨13, by decide +kernel, rfl, by decide⟩
theorem dd_P_checkSide_13 : ev_d prog_1_method_16_code 13 (.new 125) 3 16 := ⟨by decide +kernel, rfl⟩
theorem dd_P_checkSide_16 : ev_d prog_1_method_16_code 16 .dup 1 17 := ⟨by decide +kernel, rfl⟩
theorem dd_P_checkSide_17 : ev_d prog_1_method_16_code 17 (.ldc 184) 2 19 := ⟨by decide +kernel, rfl⟩
theorem dd_P_checkSide_19 : ev_d prog_1_method_16_code 19 (.invokespecial 129) 3 22 := ⟨by decide +kernel, rfl⟩
theorem dd_P_checkSide_22 : ev_d prog_1_method_16_code 22 .athrow 1 23 := ⟨by decide +kernel, rfl⟩
theorem dd_P_checkSide_23 : ev_d prog_1_method_16_code 23 .return_ 1 24 := ⟨by decide +kernel, rfl⟩
-- P_checkEnd
theorem dd_P_checkEnd_0 : ev_d prog_1_method_15_code 0 (.iload_n 0) 1 1 := ⟨by decide +kernel, rfl⟩
theorem dd_P_checkEnd_1 : ev_j prog_1_method_15_code 1 (fun o => .ifCond .lt o) 4 9 := ⟨8, by decide +kernel, rfl, by decide⟩
theorem dd_P_checkEnd_4 : ev_d prog_1_method_15_code 4 (.iload_n 0) 1 5 := ⟨by decide +kernel, rfl⟩
theorem dd_P_checkEnd_5 : ev_d prog_1_method_15_code 5 (.iconst 2) 1 6 := ⟨by decide +kernel, rfl⟩
theorem dd_P_checkEnd_6 : ev_j prog_1_method_15_code 6 (fun o => .if_icmp .lt o) 9 19 := ⟨13, by decide +kernel, rfl, by decide⟩
theorem dd_P_checkEnd_9 : ev_d prog_1_method_15_code 9 (.new 125) 3 12 := ⟨by decide +kernel, rfl⟩
theorem dd_P_checkEnd_12 : ev_d prog_1_method_15_code 12 .dup 1 13 := ⟨by decide +kernel, rfl⟩
theorem dd_P_checkEnd_13 : ev_d prog_1_method_15_code 13 (.ldc 182) 2 15 := ⟨by decide +kernel, rfl⟩
theorem dd_P_checkEnd_15 : ev_d prog_1_method_15_code 15 (.invokespecial 129) 3 18 := ⟨by decide +kernel, rfl⟩
theorem dd_P_checkEnd_18 : ev_d prog_1_method_15_code 18 .athrow 1 19 := ⟨by decide +kernel, rfl⟩
theorem dd_P_checkEnd_19 : ev_d prog_1_method_15_code 19 .return_ 1 20 := ⟨by decide +kernel, rfl⟩
-- TH_init0
theorem dd_TH_init0_0 : ev_d prog_21_method_1_code 0 (.aload_n 0) 1 1 := ⟨by decide +kernel, rfl⟩
theorem dd_TH_init0_1 : ev_d prog_21_method_1_code 1 (.invokespecial 1) 3 4 := ⟨by decide +kernel, rfl⟩
theorem dd_TH_init0_4 : ev_d prog_21_method_1_code 4 (.aload_n 0) 1 5 := ⟨by decide +kernel, rfl⟩
theorem dd_TH_init0_5 : ev_d prog_21_method_1_code 5 (.aload_n 0) 1 6 := ⟨by decide +kernel, rfl⟩
theorem dd_TH_init0_6 : ev_d prog_21_method_1_code 6 (.putfield 7) 3 9 := ⟨by decide +kernel, rfl⟩
theorem dd_TH_init0_9 : ev_d prog_21_method_1_code 9 (.aload_n 0) 1 10 := ⟨by decide +kernel, rfl⟩
theorem dd_TH_init0_10 : ev_d prog_21_method_1_code 10 (.getstatic 13) 3 13 := ⟨by decide +kernel, rfl⟩
theorem dd_TH_init0_13 : ev_d prog_21_method_1_code 13 (.putfield 17) 3 16 := ⟨by decide +kernel, rfl⟩
theorem dd_TH_init0_16 : ev_d prog_21_method_1_code 16 (.aload_n 0) 1 17 := ⟨by decide +kernel, rfl⟩
theorem dd_TH_init0_17 : ev_d prog_21_method_1_code 17 (.getstatic 20) 3 20 := ⟨by decide +kernel, rfl⟩
theorem dd_TH_init0_20 : ev_d prog_21_method_1_code 20 (.putfield 24) 3 23 := ⟨by decide +kernel, rfl⟩
theorem dd_TH_init0_23 : ev_d prog_21_method_1_code 23 (.aload_n 0) 1 24 := ⟨by decide +kernel, rfl⟩
theorem dd_TH_init0_24 : ev_d prog_21_method_1_code 24 (.invokevirtual 27) 3 27 := ⟨by decide +kernel, rfl⟩
theorem dd_TH_init0_27 : ev_d prog_21_method_1_code 27 .pop 1 28 := ⟨by decide +kernel, rfl⟩
theorem dd_TH_init0_28 : ev_d prog_21_method_1_code 28 .return_ 1 29 := ⟨by decide +kernel, rfl⟩
-- IO_init
theorem dd_IO_init_0 : ev_d prog_15_method_2_code 0 (.aload_n 0) 1 1 := ⟨by decide +kernel, rfl⟩
theorem dd_IO_init_1 : ev_d prog_15_method_2_code 1 (.aload_n 1) 1 2 := ⟨by decide +kernel, rfl⟩
theorem dd_IO_init_2 : ev_d prog_15_method_2_code 2 (.invokespecial 7) 3 5 := ⟨by decide +kernel, rfl⟩
theorem dd_IO_init_5 : ev_d prog_15_method_2_code 5 .return_ 1 6 := ⟨by decide +kernel, rfl⟩
-- RT_init
theorem dd_RT_init_0 : ev_d prog_18_method_2_code 0 (.aload_n 0) 1 1 := ⟨by decide +kernel, rfl⟩
theorem dd_RT_init_1 : ev_d prog_18_method_2_code 1 (.aload_n 1) 1 2 := ⟨by decide +kernel, rfl⟩
theorem dd_RT_init_2 : ev_d prog_18_method_2_code 2 (.invokespecial 7) 3 5 := ⟨by decide +kernel, rfl⟩
theorem dd_RT_init_5 : ev_d prog_18_method_2_code 5 .return_ 1 6 := ⟨by decide +kernel, rfl⟩
-- EX_init
theorem dd_EX_init_0 : ev_d prog_13_method_2_code 0 (.aload_n 0) 1 1 := ⟨by decide +kernel, rfl⟩
theorem dd_EX_init_1 : ev_d prog_13_method_2_code 1 (.aload_n 1) 1 2 := ⟨by decide +kernel, rfl⟩
theorem dd_EX_init_2 : ev_d prog_13_method_2_code 2 (.invokespecial 7) 3 5 := ⟨by decide +kernel, rfl⟩
theorem dd_EX_init_5 : ev_d prog_13_method_2_code 5 .return_ 1 6 := ⟨by decide +kernel, rfl⟩
-- TH_init1
theorem dd_TH_init1_0 : ev_d prog_21_method_2_code 0 (.aload_n 0) 1 1 := ⟨by decide +kernel, rfl⟩
theorem dd_TH_init1_1 : ev_d prog_21_method_2_code 1 (.invokespecial 1) 3 4 := ⟨by decide +kernel, rfl⟩
theorem dd_TH_init1_4 : ev_d prog_21_method_2_code 4 (.aload_n 0) 1 5 := ⟨by decide +kernel, rfl⟩
theorem dd_TH_init1_5 : ev_d prog_21_method_2_code 5 (.aload_n 0) 1 6 := ⟨by decide +kernel, rfl⟩
theorem dd_TH_init1_6 : ev_d prog_21_method_2_code 6 (.putfield 7) 3 9 := ⟨by decide +kernel, rfl⟩
theorem dd_TH_init1_9 : ev_d prog_21_method_2_code 9 (.aload_n 0) 1 10 := ⟨by decide +kernel, rfl⟩
theorem dd_TH_init1_10 : ev_d prog_21_method_2_code 10 (.getstatic 13) 3 13 := ⟨by decide +kernel, rfl⟩
theorem dd_TH_init1_13 : ev_d prog_21_method_2_code 13 (.putfield 17) 3 16 := ⟨by decide +kernel, rfl⟩
theorem dd_TH_init1_16 : ev_d prog_21_method_2_code 16 (.aload_n 0) 1 17 := ⟨by decide +kernel, rfl⟩
theorem dd_TH_init1_17 : ev_d prog_21_method_2_code 17 (.getstatic 20) 3 20 := ⟨by decide +kernel, rfl⟩
theorem dd_TH_init1_20 : ev_d prog_21_method_2_code 20 (.putfield 24) 3 23 := ⟨by decide +kernel, rfl⟩
theorem dd_TH_init1_23 : ev_d prog_21_method_2_code 23 (.aload_n 0) 1 24 := ⟨by decide +kernel, rfl⟩
theorem dd_TH_init1_24 : ev_d prog_21_method_2_code 24 (.invokevirtual 27) 3 27 := ⟨by decide +kernel, rfl⟩
theorem dd_TH_init1_27 : ev_d prog_21_method_2_code 27 .pop 1 28 := ⟨by decide +kernel, rfl⟩
theorem dd_TH_init1_28 : ev_d prog_21_method_2_code 28 (.aload_n 0) 1 29 := ⟨by decide +kernel, rfl⟩
theorem dd_TH_init1_29 : ev_d prog_21_method_2_code 29 (.aload_n 1) 1 30 := ⟨by decide +kernel, rfl⟩
theorem dd_TH_init1_30 : ev_d prog_21_method_2_code 30 (.putfield 31) 3 33 := ⟨by decide +kernel, rfl⟩
theorem dd_TH_init1_33 : ev_d prog_21_method_2_code 33 .return_ 1 34 := ⟨by decide +kernel, rfl⟩
-- P_stop
theorem dd_P_stop_0 : ev_d prog_1_method_3_code 0 (.iload_n 1) 1 1 := ⟨by decide +kernel, rfl⟩
theorem dd_P_stop_1 : ev_d prog_1_method_3_code 1 (.iload_n 2) 1 2 := ⟨by decide +kernel, rfl⟩
theorem dd_P_stop_2 : ev_d prog_1_method_3_code 2 (.invokestatic 23) 3 5 := ⟨by decide +kernel, rfl⟩
theorem dd_P_stop_5 : ev_d prog_1_method_3_code 5 (.aload_n 0) 1 6 := ⟨by decide +kernel, rfl⟩
theorem dd_P_stop_6 : ev_d prog_1_method_3_code 6 (.getfield 11) 3 9 := ⟨by decide +kernel, rfl⟩
theorem dd_P_stop_9 : ev_d prog_1_method_3_code 9 (.iload_n 2) 1 10 := ⟨by decide +kernel, rfl⟩
theorem dd_P_stop_10 : ev_d prog_1_method_3_code 10 .aaload 1 11 := ⟨by decide +kernel, rfl⟩
theorem dd_P_stop_11 : ev_d prog_1_method_3_code 11 (.getfield 27) 3 14 := ⟨by decide +kernel, rfl⟩
theorem dd_P_stop_14 : ev_d prog_1_method_3_code 14 (.iload_n 1) 1 15 := ⟨by decide +kernel, rfl⟩
theorem dd_P_stop_15 : ev_d prog_1_method_3_code 15 .aaload 1 16 := ⟨by decide +kernel, rfl⟩
theorem dd_P_stop_16 : ev_d prog_1_method_3_code 16 (.getfield 31) 3 19 := ⟨by decide +kernel, rfl⟩
theorem dd_P_stop_19 : ev_j prog_1_method_3_code 19 (fun o => .ifCond .ne o) 22 24 := ⟨5, by decide +kernel, rfl, by decide⟩
theorem dd_P_stop_22 : ev_d prog_1_method_3_code 22 (.iconst 0) 1 23 := ⟨by decide +kernel, rfl⟩
theorem dd_P_stop_23 : ev_d prog_1_method_3_code 23 .ireturn 1 24 := ⟨by decide +kernel, rfl⟩
theorem dd_P_stop_24 : ev_d prog_1_method_3_code 24 (.aload_n 0) 1 25 := ⟨by decide +kernel, rfl⟩
theorem dd_P_stop_25 : ev_d prog_1_method_3_code 25 (.getfield 11) 3 28 := ⟨by decide +kernel, rfl⟩
theorem dd_P_stop_28 : ev_d prog_1_method_3_code 28 (.iload_n 2) 1 29 := ⟨by decide +kernel, rfl⟩
theorem dd_P_stop_29 : ev_d prog_1_method_3_code 29 .aaload 1 30 := ⟨by decide +kernel, rfl⟩
theorem dd_P_stop_30 : ev_d prog_1_method_3_code 30 (.iload_n 1) 1 31 := ⟨by decide +kernel, rfl⟩
theorem dd_P_stop_31 : ev_d prog_1_method_3_code 31 (.invokevirtual 40) 3 34 := ⟨by decide +kernel, rfl⟩
theorem dd_P_stop_34 : ev_d prog_1_method_3_code 34 (.iconst 1) 1 35 := ⟨by decide +kernel, rfl⟩
theorem dd_P_stop_35 : ev_d prog_1_method_3_code 35 .ireturn 1 36 := ⟨by decide +kernel, rfl⟩
-- P_fault
theorem dd_P_fault_0 : ev_d prog_1_method_4_code 0 (.iload_n 1) 1 1 := ⟨by decide +kernel, rfl⟩
theorem dd_P_fault_1 : ev_d prog_1_method_4_code 1 (.iload_n 2) 1 2 := ⟨by decide +kernel, rfl⟩
theorem dd_P_fault_2 : ev_d prog_1_method_4_code 2 (.invokestatic 23) 3 5 := ⟨by decide +kernel, rfl⟩
theorem dd_P_fault_5 : ev_d prog_1_method_4_code 5 (.iload_n 3) 1 6 := ⟨by decide +kernel, rfl⟩
theorem dd_P_fault_6 : ev_j prog_1_method_4_code 6 (fun o => .ifCond .lt o) 9 26 := ⟨20, by decide +kernel, rfl, by decide⟩
theorem dd_P_fault_9 : ev_d prog_1_method_4_code 9 (.iload_n 3) 1 10 := ⟨by decide +kernel, rfl⟩
theorem dd_P_fault_10 : ev_d prog_1_method_4_code 10 (.iconst 2) 1 11 := ⟨by decide +kernel, rfl⟩
theorem dd_P_fault_11 : ev_j prog_1_method_4_code 11 (fun o => .if_icmp .gt o) 14 26 := ⟨15, by decide +kernel, rfl, by decide⟩
theorem dd_P_fault_14 : ev_d prog_1_method_4_code 14 (.iload 4) 2 16 := ⟨by decide +kernel, rfl⟩
theorem dd_P_fault_16 : ev_j prog_1_method_4_code 16 (fun o => .ifCond .lt o) 19 26 := ⟨10, by decide +kernel, rfl, by decide⟩
theorem dd_P_fault_19 : ev_d prog_1_method_4_code 19 (.iload 4) 2 21 := ⟨by decide +kernel, rfl⟩
theorem dd_P_fault_21 : ev_d prog_1_method_4_code 21 (.bipush 99) 2 23 := ⟨by decide +kernel, rfl⟩
theorem dd_P_fault_23 : ev_j prog_1_method_4_code 23 (fun o => .if_icmp .le o) 26 36 := ⟨13, by decide +kernel, rfl, by decide⟩
theorem dd_P_fault_26 : ev_d prog_1_method_4_code 26 (.new 44) 3 29 := ⟨by decide +kernel, rfl⟩
theorem dd_P_fault_29 : ev_d prog_1_method_4_code 29 .dup 1 30 := ⟨by decide +kernel, rfl⟩
theorem dd_P_fault_30 : ev_d prog_1_method_4_code 30 (.ldc 46) 2 32 := ⟨by decide +kernel, rfl⟩
theorem dd_P_fault_32 : ev_d prog_1_method_4_code 32 (.invokespecial 48) 3 35 := ⟨by decide +kernel, rfl⟩
theorem dd_P_fault_35 : ev_d prog_1_method_4_code 35 .athrow 1 36 := ⟨by decide +kernel, rfl⟩
theorem dd_P_fault_36 : ev_d prog_1_method_4_code 36 (.aload_n 0) 1 37 := ⟨by decide +kernel, rfl⟩
theorem dd_P_fault_37 : ev_d prog_1_method_4_code 37 (.getfield 18) 3 40 := ⟨by decide +kernel, rfl⟩
theorem dd_P_fault_40 : ev_d prog_1_method_4_code 40 (.iload_n 1) 1 41 := ⟨by decide +kernel, rfl⟩
theorem dd_P_fault_41 : ev_d prog_1_method_4_code 41 (.iload_n 2) 1 42 := ⟨by decide +kernel, rfl⟩
theorem dd_P_fault_42 : ev_d prog_1_method_4_code 42 (.invokestatic 51) 3 45 := ⟨by decide +kernel, rfl⟩
theorem dd_P_fault_45 : ev_d prog_1_method_4_code 45 .aaload 1 46 := ⟨by decide +kernel, rfl⟩
theorem dd_P_fault_46 : ev_d prog_1_method_4_code 46 (.astore 5) 2 48 := ⟨by decide +kernel, rfl⟩
theorem dd_P_fault_48 : ev_d prog_1_method_4_code 48 (.aload 5) 2 50 := ⟨by decide +kernel, rfl⟩
theorem dd_P_fault_50 : ev_d prog_1_method_4_code 50 (.iload_n 3) 1 51 := ⟨by decide +kernel, rfl⟩
theorem dd_P_fault_51 : ev_d prog_1_method_4_code 51 (.putfield 55) 3 54 := ⟨by decide +kernel, rfl⟩
theorem dd_P_fault_54 : ev_d prog_1_method_4_code 54 (.aload 5) 2 56 := ⟨by decide +kernel, rfl⟩
theorem dd_P_fault_56 : ev_d prog_1_method_4_code 56 (.iload_n 3) 1 57 := ⟨by decide +kernel, rfl⟩
theorem dd_P_fault_57 : ev_j prog_1_method_4_code 57 (fun o => .ifCond .ne o) 60 64 := ⟨7, by decide +kernel, rfl, by decide⟩
theorem dd_P_fault_60 : ev_d prog_1_method_4_code 60 (.iconst 0) 1 61 := ⟨by decide +kernel, rfl⟩
theorem dd_P_fault_61 : ev_j prog_1_method_4_code 61 (fun o => .goto o) 64 66 := ⟨5, by decide +kernel, rfl, by decide⟩
theorem dd_P_fault_64 : ev_d prog_1_method_4_code 64 (.iload 4) 2 66 := ⟨by decide +kernel, rfl⟩
theorem dd_P_fault_66 : ev_d prog_1_method_4_code 66 (.putfield 58) 3 69 := ⟨by decide +kernel, rfl⟩
theorem dd_P_fault_69 : ev_d prog_1_method_4_code 69 .return_ 1 70 := ⟨by decide +kernel, rfl⟩
-- IA_init
theorem dd_IA_init_0 : ev_d prog_14_method_2_code 0 (.aload_n 0) 1 1 := ⟨by decide +kernel, rfl⟩
theorem dd_IA_init_1 : ev_d prog_14_method_2_code 1 (.aload_n 1) 1 2 := ⟨by decide +kernel, rfl⟩
theorem dd_IA_init_2 : ev_d prog_14_method_2_code 2 (.invokespecial 7) 3 5 := ⟨by decide +kernel, rfl⟩
theorem dd_IA_init_5 : ev_d prog_14_method_2_code 5 .return_ 1 6 := ⟨by decide +kernel, rfl⟩
-- P_submit
theorem dd_P_submit_0 : ev_d prog_1_method_5_code 0 (.iload_n 1) 1 1 := ⟨by decide +kernel, rfl⟩
theorem dd_P_submit_1 : ev_d prog_1_method_5_code 1 (.iload_n 2) 1 2 := ⟨by decide +kernel, rfl⟩
theorem dd_P_submit_2 : ev_d prog_1_method_5_code 2 (.invokestatic 61) 3 5 := ⟨by decide +kernel, rfl⟩
theorem dd_P_submit_5 : ev_d prog_1_method_5_code 5 (.aload_n 0) 1 6 := ⟨by decide +kernel, rfl⟩
theorem dd_P_submit_6 : ev_d prog_1_method_5_code 6 (.getfield 11) 3 9 := ⟨by decide +kernel, rfl⟩
theorem dd_P_submit_9 : ev_d prog_1_method_5_code 9 (.iload_n 1) 1 10 := ⟨by decide +kernel, rfl⟩
theorem dd_P_submit_10 : ev_d prog_1_method_5_code 10 .aaload 1 11 := ⟨by decide +kernel, rfl⟩
theorem dd_P_submit_11 : ev_d prog_1_method_5_code 11 (.iload_n 2) 1 12 := ⟨by decide +kernel, rfl⟩
theorem dd_P_submit_12 : ev_d prog_1_method_5_code 12 (.iload_n 3) 1 13 := ⟨by decide +kernel, rfl⟩
theorem dd_P_submit_13 : ev_d prog_1_method_5_code 13 (.invokevirtual 64) 3 16 := ⟨by decide +kernel, rfl⟩
theorem dd_P_submit_16 : ev_d prog_1_method_5_code 16 .ireturn 1 17 := ⟨by decide +kernel, rfl⟩
-- P_checkClass
theorem dd_P_checkClass_0 : ev_d prog_1_method_17_code 0 (.iload_n 0) 1 1 := ⟨by decide +kernel, rfl⟩
theorem dd_P_checkClass_1 : ev_d prog_1_method_17_code 1 (.invokestatic 147) 3 4 := ⟨by decide +kernel, rfl⟩
theorem dd_P_checkClass_4 : ev_d prog_1_method_17_code 4 (.iload_n 1) 1 5 := ⟨by decide +kernel, rfl⟩
theorem dd_P_checkClass_5 : ev_j prog_1_method_17_code 5 (fun o => .ifCond .lt o) 8 13 := ⟨8, by decide +kernel, rfl, by decide⟩
theorem dd_P_checkClass_8 : ev_d prog_1_method_17_code 8 (.iload_n 1) 1 9 := ⟨by decide +kernel, rfl⟩
theorem dd_P_checkClass_9 : ev_d prog_1_method_17_code 9 (.iconst 4) 1 10 := ⟨by decide +kernel, rfl⟩
theorem dd_P_checkClass_10 : ev_j prog_1_method_17_code 10 (fun o => .if_icmp .lt o) 13 23 := ⟨13, by decide +kernel, rfl, by decide⟩
theorem dd_P_checkClass_13 : ev_d prog_1_method_17_code 13 (.new 125) 3 16 := ⟨by decide +kernel, rfl⟩
theorem dd_P_checkClass_16 : ev_d prog_1_method_17_code 16 .dup 1 17 := ⟨by decide +kernel, rfl⟩
theorem dd_P_checkClass_17 : ev_d prog_1_method_17_code 17 (.ldc 186) 2 19 := ⟨by decide +kernel, rfl⟩
theorem dd_P_checkClass_19 : ev_d prog_1_method_17_code 19 (.invokespecial 129) 3 22 := ⟨by decide +kernel, rfl⟩
theorem dd_P_checkClass_22 : ev_d prog_1_method_17_code 22 .athrow 1 23 := ⟨by decide +kernel, rfl⟩
theorem dd_P_checkClass_23 : ev_d prog_1_method_17_code 23 .return_ 1 24 := ⟨by decide +kernel, rfl⟩
-- P_state
theorem dd_P_state_0 : ev_d prog_1_method_7_code 0 (.iload_n 1) 1 1 := ⟨by decide +kernel, rfl⟩
theorem dd_P_state_1 : ev_d prog_1_method_7_code 1 (.iload_n 2) 1 2 := ⟨by decide +kernel, rfl⟩
theorem dd_P_state_2 : ev_d prog_1_method_7_code 2 (.invokestatic 23) 3 5 := ⟨by decide +kernel, rfl⟩
theorem dd_P_state_5 : ev_d prog_1_method_7_code 5 (.aload_n 0) 1 6 := ⟨by decide +kernel, rfl⟩
theorem dd_P_state_6 : ev_d prog_1_method_7_code 6 (.getfield 11) 3 9 := ⟨by decide +kernel, rfl⟩
theorem dd_P_state_9 : ev_d prog_1_method_7_code 9 (.iload_n 2) 1 10 := ⟨by decide +kernel, rfl⟩
theorem dd_P_state_10 : ev_d prog_1_method_7_code 10 .aaload 1 11 := ⟨by decide +kernel, rfl⟩
theorem dd_P_state_11 : ev_d prog_1_method_7_code 11 (.getfield 27) 3 14 := ⟨by decide +kernel, rfl⟩
theorem dd_P_state_14 : ev_d prog_1_method_7_code 14 (.iload_n 1) 1 15 := ⟨by decide +kernel, rfl⟩
theorem dd_P_state_15 : ev_d prog_1_method_7_code 15 .aaload 1 16 := ⟨by decide +kernel, rfl⟩
theorem dd_P_state_16 : ev_d prog_1_method_7_code 16 (.getfield 31) 3 19 := ⟨by decide +kernel, rfl⟩
theorem dd_P_state_19 : ev_d prog_1_method_7_code 19 .ireturn 1 20 := ⟨by decide +kernel, rfl⟩
-- P_of
theorem dd_P_of_0 : ev_d prog_1_method_8_code 0 (.iload_n 1) 1 1 := ⟨by decide +kernel, rfl⟩
theorem dd_P_of_1 : ev_d prog_1_method_8_code 1 (.iload_n 2) 1 2 := ⟨by decide +kernel, rfl⟩
theorem dd_P_of_2 : ev_d prog_1_method_8_code 2 (.invokestatic 23) 3 5 := ⟨by decide +kernel, rfl⟩
theorem dd_P_of_5 : ev_d prog_1_method_8_code 5 (.aload_n 0) 1 6 := ⟨by decide +kernel, rfl⟩
theorem dd_P_of_6 : ev_d prog_1_method_8_code 6 (.getfield 11) 3 9 := ⟨by decide +kernel, rfl⟩
theorem dd_P_of_9 : ev_d prog_1_method_8_code 9 (.iload_n 2) 1 10 := ⟨by decide +kernel, rfl⟩
theorem dd_P_of_10 : ev_d prog_1_method_8_code 10 .aaload 1 11 := ⟨by decide +kernel, rfl⟩
theorem dd_P_of_11 : ev_d prog_1_method_8_code 11 (.getfield 27) 3 14 := ⟨by decide +kernel, rfl⟩
theorem dd_P_of_14 : ev_d prog_1_method_8_code 14 (.iload_n 1) 1 15 := ⟨by decide +kernel, rfl⟩
theorem dd_P_of_15 : ev_d prog_1_method_8_code 15 .aaload 1 16 := ⟨by decide +kernel, rfl⟩
theorem dd_P_of_16 : ev_d prog_1_method_8_code 16 (.astore 4) 2 18 := ⟨by decide +kernel, rfl⟩
theorem dd_P_of_18 : ev_d prog_1_method_8_code 18 (.iload_n 3) 1 19 := ⟨by decide +kernel, rfl⟩
theorem dd_P_of_19 : decode prog_1_method_8_code 19 = .ok ((.tableswitch 149 0 12 #[65, 71, 77, 83, 89, 95, 101, 107, 113, 119, 128, 137, 143]), 65) := by decide +kernel
theorem dd_P_of_84 : ev_d prog_1_method_8_code 84 (.aload 4) 2 86 := ⟨by decide +kernel, rfl⟩
theorem dd_P_of_86 : ev_d prog_1_method_8_code 86 (.getfield 80) 3 89 := ⟨by decide +kernel, rfl⟩
theorem dd_P_of_89 : ev_d prog_1_method_8_code 89 .ireturn 1 90 := ⟨by decide +kernel, rfl⟩
theorem dd_P_of_90 : ev_d prog_1_method_8_code 90 (.aload 4) 2 92 := ⟨by decide +kernel, rfl⟩
theorem dd_P_of_92 : ev_d prog_1_method_8_code 92 (.getfield 82) 3 95 := ⟨by decide +kernel, rfl⟩
theorem dd_P_of_95 : ev_d prog_1_method_8_code 95 .ireturn 1 96 := ⟨by decide +kernel, rfl⟩
theorem dd_P_of_96 : ev_d prog_1_method_8_code 96 (.aload 4) 2 98 := ⟨by decide +kernel, rfl⟩
theorem dd_P_of_98 : ev_d prog_1_method_8_code 98 (.getfield 85) 3 101 := ⟨by decide +kernel, rfl⟩
theorem dd_P_of_101 : ev_d prog_1_method_8_code 101 .ireturn 1 102 := ⟨by decide +kernel, rfl⟩
theorem dd_P_of_102 : ev_d prog_1_method_8_code 102 (.aload 4) 2 104 := ⟨by decide +kernel, rfl⟩
theorem dd_P_of_104 : ev_d prog_1_method_8_code 104 (.getfield 88) 3 107 := ⟨by decide +kernel, rfl⟩
theorem dd_P_of_107 : ev_d prog_1_method_8_code 107 .ireturn 1 108 := ⟨by decide +kernel, rfl⟩
theorem dd_P_of_108 : ev_d prog_1_method_8_code 108 (.aload 4) 2 110 := ⟨by decide +kernel, rfl⟩
theorem dd_P_of_110 : ev_d prog_1_method_8_code 110 (.getfield 91) 3 113 := ⟨by decide +kernel, rfl⟩
theorem dd_P_of_113 : ev_d prog_1_method_8_code 113 .ireturn 1 114 := ⟨by decide +kernel, rfl⟩
theorem dd_P_of_114 : ev_d prog_1_method_8_code 114 (.aload 4) 2 116 := ⟨by decide +kernel, rfl⟩
theorem dd_P_of_116 : ev_d prog_1_method_8_code 116 (.getfield 94) 3 119 := ⟨by decide +kernel, rfl⟩
theorem dd_P_of_119 : ev_d prog_1_method_8_code 119 .ireturn 1 120 := ⟨by decide +kernel, rfl⟩
theorem dd_P_of_120 : ev_d prog_1_method_8_code 120 (.aload 4) 2 122 := ⟨by decide +kernel, rfl⟩
theorem dd_P_of_122 : ev_d prog_1_method_8_code 122 (.getfield 97) 3 125 := ⟨by decide +kernel, rfl⟩
theorem dd_P_of_125 : ev_d prog_1_method_8_code 125 .ireturn 1 126 := ⟨by decide +kernel, rfl⟩
theorem dd_P_of_126 : ev_d prog_1_method_8_code 126 (.aload 4) 2 128 := ⟨by decide +kernel, rfl⟩
theorem dd_P_of_128 : ev_d prog_1_method_8_code 128 (.getfield 100) 3 131 := ⟨by decide +kernel, rfl⟩
theorem dd_P_of_131 : ev_d prog_1_method_8_code 131 .ireturn 1 132 := ⟨by decide +kernel, rfl⟩
theorem dd_P_of_132 : ev_d prog_1_method_8_code 132 (.aload 4) 2 134 := ⟨by decide +kernel, rfl⟩
theorem dd_P_of_134 : ev_d prog_1_method_8_code 134 (.getfield 103) 3 137 := ⟨by decide +kernel, rfl⟩
theorem dd_P_of_137 : ev_d prog_1_method_8_code 137 .ireturn 1 138 := ⟨by decide +kernel, rfl⟩
theorem dd_P_of_138 : ev_d prog_1_method_8_code 138 (.aload 4) 2 140 := ⟨by decide +kernel, rfl⟩
theorem dd_P_of_140 : ev_d prog_1_method_8_code 140 (.getfield 106) 3 143 := ⟨by decide +kernel, rfl⟩
theorem dd_P_of_143 : ev_d prog_1_method_8_code 143 (.invokevirtual 110) 3 146 := ⟨by decide +kernel, rfl⟩
theorem dd_P_of_146 : ev_d prog_1_method_8_code 146 .ireturn 1 147 := ⟨by decide +kernel, rfl⟩
theorem dd_P_of_147 : ev_d prog_1_method_8_code 147 (.aload 4) 2 149 := ⟨by decide +kernel, rfl⟩
theorem dd_P_of_149 : ev_d prog_1_method_8_code 149 (.getfield 116) 3 152 := ⟨by decide +kernel, rfl⟩
theorem dd_P_of_152 : ev_d prog_1_method_8_code 152 (.invokevirtual 110) 3 155 := ⟨by decide +kernel, rfl⟩
theorem dd_P_of_155 : ev_d prog_1_method_8_code 155 .ireturn 1 156 := ⟨by decide +kernel, rfl⟩
theorem dd_P_of_156 : ev_d prog_1_method_8_code 156 (.aload 4) 2 158 := ⟨by decide +kernel, rfl⟩
theorem dd_P_of_158 : ev_d prog_1_method_8_code 158 (.getfield 119) 3 161 := ⟨by decide +kernel, rfl⟩
theorem dd_P_of_161 : ev_d prog_1_method_8_code 161 .ireturn 1 162 := ⟨by decide +kernel, rfl⟩
theorem dd_P_of_162 : ev_d prog_1_method_8_code 162 (.aload 4) 2 164 := ⟨by decide +kernel, rfl⟩
theorem dd_P_of_164 : ev_d prog_1_method_8_code 164 (.getfield 122) 3 167 := ⟨by decide +kernel, rfl⟩
theorem dd_P_of_167 : ev_d prog_1_method_8_code 167 .ireturn 1 168 := ⟨by decide +kernel, rfl⟩
theorem dd_P_of_168 : ev_d prog_1_method_8_code 168 (.new 125) 3 171 := ⟨by decide +kernel, rfl⟩
theorem dd_P_of_171 : ev_d prog_1_method_8_code 171 .dup 1 172 := ⟨by decide +kernel, rfl⟩
theorem dd_P_of_172 : ev_d prog_1_method_8_code 172 (.ldc 127) 2 174 := ⟨by decide +kernel, rfl⟩
theorem dd_P_of_174 : ev_d prog_1_method_8_code 174 (.invokespecial 129) 3 177 := ⟨by decide +kernel, rfl⟩
theorem dd_P_of_177 : ev_d prog_1_method_8_code 177 .athrow 1 178 := ⟨by decide +kernel, rfl⟩
-- P_link
theorem dd_P_link_0 : ev_d prog_1_method_9_code 0 (.iload_n 1) 1 1 := ⟨by decide +kernel, rfl⟩
theorem dd_P_link_1 : ev_d prog_1_method_9_code 1 (.iload_n 2) 1 2 := ⟨by decide +kernel, rfl⟩
theorem dd_P_link_2 : ev_d prog_1_method_9_code 2 (.invokestatic 61) 3 5 := ⟨by decide +kernel, rfl⟩
theorem dd_P_link_5 : ev_d prog_1_method_9_code 5 (.aload_n 0) 1 6 := ⟨by decide +kernel, rfl⟩
theorem dd_P_link_6 : ev_d prog_1_method_9_code 6 (.getfield 11) 3 9 := ⟨by decide +kernel, rfl⟩
theorem dd_P_link_9 : ev_d prog_1_method_9_code 9 (.iload_n 1) 1 10 := ⟨by decide +kernel, rfl⟩
theorem dd_P_link_10 : ev_d prog_1_method_9_code 10 .aaload 1 11 := ⟨by decide +kernel, rfl⟩
theorem dd_P_link_11 : ev_d prog_1_method_9_code 11 (.getfield 130) 3 14 := ⟨by decide +kernel, rfl⟩
theorem dd_P_link_14 : ev_d prog_1_method_9_code 14 (.iload_n 2) 1 15 := ⟨by decide +kernel, rfl⟩
theorem dd_P_link_15 : ev_d prog_1_method_9_code 15 .iaload 1 16 := ⟨by decide +kernel, rfl⟩
theorem dd_P_link_16 : ev_d prog_1_method_9_code 16 .ireturn 1 17 := ⟨by decide +kernel, rfl⟩
-- P_changes
theorem dd_P_changes_0 : ev_d prog_1_method_10_code 0 (.iload_n 1) 1 1 := ⟨by decide +kernel, rfl⟩
theorem dd_P_changes_1 : ev_d prog_1_method_10_code 1 (.iload_n 2) 1 2 := ⟨by decide +kernel, rfl⟩
theorem dd_P_changes_2 : ev_d prog_1_method_10_code 2 (.invokestatic 23) 3 5 := ⟨by decide +kernel, rfl⟩
theorem dd_P_changes_5 : ev_d prog_1_method_10_code 5 (.aload_n 0) 1 6 := ⟨by decide +kernel, rfl⟩
theorem dd_P_changes_6 : ev_d prog_1_method_10_code 6 (.getfield 11) 3 9 := ⟨by decide +kernel, rfl⟩
theorem dd_P_changes_9 : ev_d prog_1_method_10_code 9 (.iload_n 2) 1 10 := ⟨by decide +kernel, rfl⟩
theorem dd_P_changes_10 : ev_d prog_1_method_10_code 10 .aaload 1 11 := ⟨by decide +kernel, rfl⟩
theorem dd_P_changes_11 : ev_d prog_1_method_10_code 11 (.getfield 134) 3 14 := ⟨by decide +kernel, rfl⟩
theorem dd_P_changes_14 : ev_d prog_1_method_10_code 14 (.iload_n 1) 1 15 := ⟨by decide +kernel, rfl⟩
theorem dd_P_changes_15 : ev_d prog_1_method_10_code 15 .aaload 1 16 := ⟨by decide +kernel, rfl⟩
theorem dd_P_changes_16 : ev_d prog_1_method_10_code 16 (.astore_n 3) 1 17 := ⟨by decide +kernel, rfl⟩
theorem dd_P_changes_17 : ev_d prog_1_method_10_code 17 (.aload_n 3) 1 18 := ⟨by decide +kernel, rfl⟩
theorem dd_P_changes_18 : ev_d prog_1_method_10_code 18 (.getfield 138) 3 21 := ⟨by decide +kernel, rfl⟩
theorem dd_P_changes_21 : ev_j prog_1_method_10_code 21 (fun o => .ifCond .ne o) 24 26 := ⟨5, by decide +kernel, rfl, by decide⟩
theorem dd_P_changes_24 : ev_d prog_1_method_10_code 24 (.iconst 0) 1 25 := ⟨by decide +kernel, rfl⟩
theorem dd_P_changes_25 : ev_d prog_1_method_10_code 25 .ireturn 1 26 := ⟨by decide +kernel, rfl⟩
theorem dd_P_changes_26 : ev_d prog_1_method_10_code 26 (.aload_n 3) 1 27 := ⟨by decide +kernel, rfl⟩
theorem dd_P_changes_27 : ev_d prog_1_method_10_code 27 (.getfield 144) 3 30 := ⟨by decide +kernel, rfl⟩
theorem dd_P_changes_30 : ev_j prog_1_method_10_code 30 (fun o => .ifCond .eq o) 33 37 := ⟨7, by decide +kernel, rfl, by decide⟩
theorem dd_P_changes_33 : ev_d prog_1_method_10_code 33 (.iconst 2) 1 34 := ⟨by decide +kernel, rfl⟩
theorem dd_P_changes_34 : ev_j prog_1_method_10_code 34 (fun o => .goto o) 37 38 := ⟨4, by decide +kernel, rfl, by decide⟩
theorem dd_P_changes_37 : ev_d prog_1_method_10_code 37 (.iconst 1) 1 38 := ⟨by decide +kernel, rfl⟩
theorem dd_P_changes_38 : ev_d prog_1_method_10_code 38 .ireturn 1 39 := ⟨by decide +kernel, rfl⟩
-- P_held
theorem dd_P_held_0 : ev_d prog_1_method_11_code 0 (.iload_n 1) 1 1 := ⟨by decide +kernel, rfl⟩
theorem dd_P_held_1 : ev_d prog_1_method_11_code 1 (.invokestatic 147) 3 4 := ⟨by decide +kernel, rfl⟩
theorem dd_P_held_4 : ev_d prog_1_method_11_code 4 (.aload_n 0) 1 5 := ⟨by decide +kernel, rfl⟩
theorem dd_P_held_5 : ev_d prog_1_method_11_code 5 (.getfield 11) 3 8 := ⟨by decide +kernel, rfl⟩
theorem dd_P_held_8 : ev_d prog_1_method_11_code 8 (.iload_n 1) 1 9 := ⟨by decide +kernel, rfl⟩
theorem dd_P_held_9 : ev_d prog_1_method_11_code 9 .aaload 1 10 := ⟨by decide +kernel, rfl⟩
theorem dd_P_held_10 : ev_d prog_1_method_11_code 10 (.getfield 150) 3 13 := ⟨by decide +kernel, rfl⟩
theorem dd_P_held_13 : ev_d prog_1_method_11_code 13 (.invokevirtual 110) 3 16 := ⟨by decide +kernel, rfl⟩
theorem dd_P_held_16 : ev_d prog_1_method_11_code 16 .ireturn 1 17 := ⟨by decide +kernel, rfl⟩
-- P_inbox
theorem dd_P_inbox_0 : ev_d prog_1_method_12_code 0 (.iload_n 1) 1 1 := ⟨by decide +kernel, rfl⟩
theorem dd_P_inbox_1 : ev_d prog_1_method_12_code 1 (.invokestatic 147) 3 4 := ⟨by decide +kernel, rfl⟩
theorem dd_P_inbox_4 : ev_d prog_1_method_12_code 4 (.aload_n 0) 1 5 := ⟨by decide +kernel, rfl⟩
theorem dd_P_inbox_5 : ev_d prog_1_method_12_code 5 (.getfield 11) 3 8 := ⟨by decide +kernel, rfl⟩
theorem dd_P_inbox_8 : ev_d prog_1_method_12_code 8 (.iload_n 1) 1 9 := ⟨by decide +kernel, rfl⟩
theorem dd_P_inbox_9 : ev_d prog_1_method_12_code 9 .aaload 1 10 := ⟨by decide +kernel, rfl⟩
theorem dd_P_inbox_10 : ev_d prog_1_method_12_code 10 (.getfield 153) 3 13 := ⟨by decide +kernel, rfl⟩
theorem dd_P_inbox_13 : ev_d prog_1_method_12_code 13 (.invokevirtual 110) 3 16 := ⟨by decide +kernel, rfl⟩
theorem dd_P_inbox_16 : ev_d prog_1_method_12_code 16 .ireturn 1 17 := ⟨by decide +kernel, rfl⟩
-- P_take
theorem dd_P_take_0 : ev_d prog_1_method_13_code 0 (.iload_n 1) 1 1 := ⟨by decide +kernel, rfl⟩
theorem dd_P_take_1 : ev_d prog_1_method_13_code 1 (.invokestatic 147) 3 4 := ⟨by decide +kernel, rfl⟩
theorem dd_P_take_4 : ev_d prog_1_method_13_code 4 (.aload_n 0) 1 5 := ⟨by decide +kernel, rfl⟩
theorem dd_P_take_5 : ev_d prog_1_method_13_code 5 (.getfield 11) 3 8 := ⟨by decide +kernel, rfl⟩
theorem dd_P_take_8 : ev_d prog_1_method_13_code 8 (.iload_n 1) 1 9 := ⟨by decide +kernel, rfl⟩
theorem dd_P_take_9 : ev_d prog_1_method_13_code 9 .aaload 1 10 := ⟨by decide +kernel, rfl⟩
theorem dd_P_take_10 : ev_d prog_1_method_13_code 10 (.getfield 153) 3 13 := ⟨by decide +kernel, rfl⟩
theorem dd_P_take_13 : ev_d prog_1_method_13_code 13 (.invokevirtual 156) 3 16 := ⟨by decide +kernel, rfl⟩
theorem dd_P_take_16 : ev_j prog_1_method_13_code 16 (fun o => .ifCond .eq o) 19 29 := ⟨13, by decide +kernel, rfl, by decide⟩
theorem dd_P_take_19 : ev_d prog_1_method_13_code 19 (.new 160) 3 22 := ⟨by decide +kernel, rfl⟩
theorem dd_P_take_22 : ev_d prog_1_method_13_code 22 .dup 1 23 := ⟨by decide +kernel, rfl⟩
theorem dd_P_take_23 : ev_d prog_1_method_13_code 23 (.ldc 162) 2 25 := ⟨by decide +kernel, rfl⟩
theorem dd_P_take_25 : ev_d prog_1_method_13_code 25 (.invokespecial 164) 3 28 := ⟨by decide +kernel, rfl⟩
theorem dd_P_take_28 : ev_d prog_1_method_13_code 28 .athrow 1 29 := ⟨by decide +kernel, rfl⟩
theorem dd_P_take_29 : ev_d prog_1_method_13_code 29 (.aload_n 0) 1 30 := ⟨by decide +kernel, rfl⟩
theorem dd_P_take_30 : ev_d prog_1_method_13_code 30 (.getfield 11) 3 33 := ⟨by decide +kernel, rfl⟩
theorem dd_P_take_33 : ev_d prog_1_method_13_code 33 (.iload_n 1) 1 34 := ⟨by decide +kernel, rfl⟩
theorem dd_P_take_34 : ev_d prog_1_method_13_code 34 .aaload 1 35 := ⟨by decide +kernel, rfl⟩
theorem dd_P_take_35 : ev_d prog_1_method_13_code 35 (.getfield 153) 3 38 := ⟨by decide +kernel, rfl⟩
theorem dd_P_take_38 : ev_d prog_1_method_13_code 38 (.iconst 0) 1 39 := ⟨by decide +kernel, rfl⟩
theorem dd_P_take_39 : ev_d prog_1_method_13_code 39 (.invokevirtual 165) 3 42 := ⟨by decide +kernel, rfl⟩
theorem dd_P_take_42 : ev_d prog_1_method_13_code 42 (.checkcast 169) 3 45 := ⟨by decide +kernel, rfl⟩
theorem dd_P_take_45 : ev_d prog_1_method_13_code 45 (.astore_n 2) 1 46 := ⟨by decide +kernel, rfl⟩
theorem dd_P_take_46 : ev_d prog_1_method_13_code 46 (.aload_n 2) 1 47 := ⟨by decide +kernel, rfl⟩
theorem dd_P_take_47 : ev_d prog_1_method_13_code 47 (.getfield 171) 3 50 := ⟨by decide +kernel, rfl⟩
theorem dd_P_take_50 : ev_d prog_1_method_13_code 50 .i2l 1 51 := ⟨by decide +kernel, rfl⟩
theorem dd_P_take_51 : ev_d prog_1_method_13_code 51 (.bipush 32) 2 53 := ⟨by decide +kernel, rfl⟩
theorem dd_P_take_53 : ev_d prog_1_method_13_code 53 .lshl 1 54 := ⟨by decide +kernel, rfl⟩
theorem dd_P_take_54 : ev_d prog_1_method_13_code 54 (.aload_n 2) 1 55 := ⟨by decide +kernel, rfl⟩
theorem dd_P_take_55 : ev_d prog_1_method_13_code 55 (.getfield 174) 3 58 := ⟨by decide +kernel, rfl⟩
theorem dd_P_take_58 : ev_d prog_1_method_13_code 58 .i2l 1 59 := ⟨by decide +kernel, rfl⟩
theorem dd_P_take_59 : ev_d prog_1_method_13_code 59 (.ldc2_w 177) 3 62 := ⟨by decide +kernel, rfl⟩
theorem dd_P_take_62 : ev_d prog_1_method_13_code 62 .land 1 63 := ⟨by decide +kernel, rfl⟩
theorem dd_P_take_63 : ev_d prog_1_method_13_code 63 .lor 1 64 := ⟨by decide +kernel, rfl⟩
theorem dd_P_take_64 : ev_d prog_1_method_13_code 64 .lreturn 1 65 := ⟨by decide +kernel, rfl⟩
-- NS_init
theorem dd_NS_init_0 : ev_d prog_28_method_4_code 0 (.aload_n 0) 1 1 := ⟨by decide +kernel, rfl⟩
theorem dd_NS_init_1 : ev_d prog_28_method_4_code 1 (.aload_n 1) 1 2 := ⟨by decide +kernel, rfl⟩
theorem dd_NS_init_2 : ev_d prog_28_method_4_code 2 (.invokespecial 13) 3 5 := ⟨by decide +kernel, rfl⟩
theorem dd_NS_init_5 : ev_d prog_28_method_4_code 5 .return_ 1 6 := ⟨by decide +kernel, rfl⟩
