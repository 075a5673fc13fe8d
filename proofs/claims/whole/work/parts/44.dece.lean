/-! decode rows (printed) -/
-- D_say
theorem dd_D_say_0 : ev_d prog_10_method_23_code 0 (.aload_n 0) 1 1 := ⟨by decide +kernel, rfl⟩
theorem dd_D_say_1 : ev_d prog_10_method_23_code 1 (.iload_n 1) 1 2 := ⟨by decide +kernel, rfl⟩
theorem dd_D_say_2 : ev_d prog_10_method_23_code 2 (.invokevirtual 197) 3 5 := ⟨by decide +kernel, rfl⟩
theorem dd_D_say_5 : ev_d prog_10_method_23_code 5 (.istore_n 3) 1 6 := ⟨by decide +kernel, rfl⟩
theorem dd_D_say_6 : ev_d prog_10_method_23_code 6 (.iload_n 3) 1 7 := ⟨by decide +kernel, rfl⟩
theorem dd_D_say_7 : ev_j prog_10_method_23_code 7 (fun o => .ifCond .ge o) 10 18 := ⟨11, by decide +kernel, rfl, by decide⟩
theorem dd_D_say_10 : ev_d prog_10_method_23_code 10 (.aload_n 0) 1 11 := ⟨by decide +kernel, rfl⟩
theorem dd_D_say_11 : ev_d prog_10_method_23_code 11 (.iload_n 2) 1 12 := ⟨by decide +kernel, rfl⟩
theorem dd_D_say_12 : ev_d prog_10_method_23_code 12 (.invokevirtual 167) 3 15 := ⟨by decide +kernel, rfl⟩
theorem dd_D_say_15 : ev_j prog_10_method_23_code 15 (fun o => .goto o) 18 38 := ⟨23, by decide +kernel, rfl, by decide⟩
theorem dd_D_say_18 : ev_d prog_10_method_23_code 18 (.aload_n 0) 1 19 := ⟨by decide +kernel, rfl⟩
theorem dd_D_say_19 : ev_d prog_10_method_23_code 19 (.getfield 22) 3 22 := ⟨by decide +kernel, rfl⟩
theorem dd_D_say_22 : ev_d prog_10_method_23_code 22 (.iload_n 2) 1 23 := ⟨by decide +kernel, rfl⟩
theorem dd_D_say_23 : ev_d prog_10_method_23_code 23 (.iconst (-1)) 1 24 := ⟨by decide +kernel, rfl⟩
theorem dd_D_say_24 : ev_d prog_10_method_23_code 24 .iastore 1 25 := ⟨by decide +kernel, rfl⟩
theorem dd_D_say_25 : ev_d prog_10_method_23_code 25 (.aload_n 0) 1 26 := ⟨by decide +kernel, rfl⟩
theorem dd_D_say_26 : ev_d prog_10_method_23_code 26 (.bipush 6) 2 28 := ⟨by decide +kernel, rfl⟩
theorem dd_D_say_28 : ev_d prog_10_method_23_code 28 (.iconst 2) 1 29 := ⟨by decide +kernel, rfl⟩
theorem dd_D_say_29 : ev_d prog_10_method_23_code 29 (.iload_n 3) 1 30 := ⟨by decide +kernel, rfl⟩
theorem dd_D_say_30 : ev_d prog_10_method_23_code 30 .imul 1 31 := ⟨by decide +kernel, rfl⟩
theorem dd_D_say_31 : ev_d prog_10_method_23_code 31 .iadd 1 32 := ⟨by decide +kernel, rfl⟩
theorem dd_D_say_32 : ev_d prog_10_method_23_code 32 (.iload_n 1) 1 33 := ⟨by decide +kernel, rfl⟩
theorem dd_D_say_33 : ev_d prog_10_method_23_code 33 .iadd 1 34 := ⟨by decide +kernel, rfl⟩
theorem dd_D_say_34 : ev_d prog_10_method_23_code 34 (.iload_n 2) 1 35 := ⟨by decide +kernel, rfl⟩
theorem dd_D_say_35 : ev_d prog_10_method_23_code 35 (.invokevirtual 191) 3 38 := ⟨by decide +kernel, rfl⟩
theorem dd_D_say_38 : ev_d prog_10_method_23_code 38 .return_ 1 39 := ⟨by decide +kernel, rfl⟩
-- D_serving
theorem dd_D_serving_0 : ev_d prog_10_method_20_code 0 (.iconst (-1)) 1 1 := ⟨by decide +kernel, rfl⟩
theorem dd_D_serving_1 : ev_d prog_10_method_20_code 1 (.istore_n 2) 1 2 := ⟨by decide +kernel, rfl⟩
theorem dd_D_serving_2 : ev_d prog_10_method_20_code 2 (.iconst 2) 1 3 := ⟨by decide +kernel, rfl⟩
theorem dd_D_serving_3 : ev_d prog_10_method_20_code 3 (.istore_n 3) 1 4 := ⟨by decide +kernel, rfl⟩
theorem dd_D_serving_4 : ev_d prog_10_method_20_code 4 (.iload_n 3) 1 5 := ⟨by decide +kernel, rfl⟩
theorem dd_D_serving_5 : ev_j prog_10_method_20_code 5 (fun o => .ifCond .lt o) 8 34 := ⟨29, by decide +kernel, rfl, by decide⟩
theorem dd_D_serving_8 : ev_d prog_10_method_20_code 8 (.aload_n 0) 1 9 := ⟨by decide +kernel, rfl⟩
theorem dd_D_serving_9 : ev_d prog_10_method_20_code 9 (.getfield 41) 3 12 := ⟨by decide +kernel, rfl⟩
theorem dd_D_serving_12 : ev_d prog_10_method_20_code 12 (.iconst 2) 1 13 := ⟨by decide +kernel, rfl⟩
theorem dd_D_serving_13 : ev_d prog_10_method_20_code 13 (.iload_n 3) 1 14 := ⟨by decide +kernel, rfl⟩
theorem dd_D_serving_14 : ev_d prog_10_method_20_code 14 .imul 1 15 := ⟨by decide +kernel, rfl⟩
theorem dd_D_serving_15 : ev_d prog_10_method_20_code 15 (.iload_n 1) 1 16 := ⟨by decide +kernel, rfl⟩
theorem dd_D_serving_16 : ev_d prog_10_method_20_code 16 .iadd 1 17 := ⟨by decide +kernel, rfl⟩
theorem dd_D_serving_17 : ev_d prog_10_method_20_code 17 .iaload 1 18 := ⟨by decide +kernel, rfl⟩
theorem dd_D_serving_18 : ev_d prog_10_method_20_code 18 (.iconst 4) 1 19 := ⟨by decide +kernel, rfl⟩
theorem dd_D_serving_19 : ev_j prog_10_method_20_code 19 (fun o => .if_icmp .ne o) 22 26 := ⟨7, by decide +kernel, rfl, by decide⟩
theorem dd_D_serving_22 : ev_d prog_10_method_20_code 22 (.iload_n 3) 1 23 := ⟨by decide +kernel, rfl⟩
theorem dd_D_serving_23 : ev_j prog_10_method_20_code 23 (fun o => .goto o) 26 27 := ⟨4, by decide +kernel, rfl, by decide⟩
theorem dd_D_serving_26 : ev_d prog_10_method_20_code 26 (.iload_n 2) 1 27 := ⟨by decide +kernel, rfl⟩
theorem dd_D_serving_27 : ev_d prog_10_method_20_code 27 (.istore_n 2) 1 28 := ⟨by decide +kernel, rfl⟩
theorem dd_D_serving_28 : ev_d prog_10_method_20_code 28 (.iinc 3 (-1)) 3 31 := ⟨by decide +kernel, rfl⟩
theorem dd_D_serving_31 : ev_j prog_10_method_20_code 31 (fun o => .goto o) 34 4 := ⟨(-27), by decide +kernel, rfl, by decide⟩
theorem dd_D_serving_34 : ev_d prog_10_method_20_code 34 (.iload_n 2) 1 35 := ⟨by decide +kernel, rfl⟩
theorem dd_D_serving_35 : ev_d prog_10_method_20_code 35 .ireturn 1 36 := ⟨by decide +kernel, rfl⟩
-- D_settle
theorem dd_D_settle_0 : ev_d prog_10_method_19_code 0 (.iconst 0) 1 1 := ⟨by decide +kernel, rfl⟩
theorem dd_D_settle_1 : ev_d prog_10_method_19_code 1 (.istore_n 3) 1 2 := ⟨by decide +kernel, rfl⟩
theorem dd_D_settle_2 : ev_d prog_10_method_19_code 2 (.iconst 0) 1 3 := ⟨by decide +kernel, rfl⟩
theorem dd_D_settle_3 : ev_d prog_10_method_19_code 3 (.istore 4) 2 5 := ⟨by decide +kernel, rfl⟩
theorem dd_D_settle_5 : ev_d prog_10_method_19_code 5 (.aload_n 0) 1 6 := ⟨by decide +kernel, rfl⟩
theorem dd_D_settle_6 : ev_d prog_10_method_19_code 6 (.getfield 32) 3 9 := ⟨by decide +kernel, rfl⟩
theorem dd_D_settle_9 : ev_d prog_10_method_19_code 9 (.bipush 12) 2 11 := ⟨by decide +kernel, rfl⟩
theorem dd_D_settle_11 : ev_d prog_10_method_19_code 11 (.iload_n 1) 1 12 := ⟨by decide +kernel, rfl⟩
theorem dd_D_settle_12 : ev_d prog_10_method_19_code 12 .iadd 1 13 := ⟨by decide +kernel, rfl⟩
theorem dd_D_settle_13 : ev_d prog_10_method_19_code 13 .iaload 1 14 := ⟨by decide +kernel, rfl⟩
theorem dd_D_settle_14 : ev_d prog_10_method_19_code 14 (.istore 5) 2 16 := ⟨by decide +kernel, rfl⟩
theorem dd_D_settle_16 : ev_d prog_10_method_19_code 16 (.iload 5) 2 18 := ⟨by decide +kernel, rfl⟩
theorem dd_D_settle_18 : ev_j prog_10_method_19_code 18 (fun o => .ifCond .lt o) 21 68 := ⟨50, by decide +kernel, rfl, by decide⟩
theorem dd_D_settle_21 : ev_d prog_10_method_19_code 21 (.iinc 4 1) 3 24 := ⟨by decide +kernel, rfl⟩
theorem dd_D_settle_24 : ev_d prog_10_method_19_code 24 (.aload_n 0) 1 25 := ⟨by decide +kernel, rfl⟩
theorem dd_D_settle_25 : ev_d prog_10_method_19_code 25 (.getfield 22) 3 28 := ⟨by decide +kernel, rfl⟩
theorem dd_D_settle_28 : ev_d prog_10_method_19_code 28 (.iload 5) 2 30 := ⟨by decide +kernel, rfl⟩
theorem dd_D_settle_30 : ev_d prog_10_method_19_code 30 .iaload 1 31 := ⟨by decide +kernel, rfl⟩
theorem dd_D_settle_31 : ev_j prog_10_method_19_code 31 (fun o => .ifCond .lt o) 34 54 := ⟨23, by decide +kernel, rfl, by decide⟩
theorem dd_D_settle_34 : ev_d prog_10_method_19_code 34 (.aload_n 0) 1 35 := ⟨by decide +kernel, rfl⟩
theorem dd_D_settle_35 : ev_d prog_10_method_19_code 35 (.getfield 22) 3 38 := ⟨by decide +kernel, rfl⟩
theorem dd_D_settle_38 : ev_d prog_10_method_19_code 38 (.iload 5) 2 40 := ⟨by decide +kernel, rfl⟩
theorem dd_D_settle_40 : ev_d prog_10_method_19_code 40 .iaload 1 41 := ⟨by decide +kernel, rfl⟩
theorem dd_D_settle_41 : ev_d prog_10_method_19_code 41 (.iload_n 2) 1 42 := ⟨by decide +kernel, rfl⟩
theorem dd_D_settle_42 : ev_j prog_10_method_19_code 42 (fun o => .if_icmp .ne o) 45 54 := ⟨12, by decide +kernel, rfl, by decide⟩
theorem dd_D_settle_45 : ev_d prog_10_method_19_code 45 (.iload_n 3) 1 46 := ⟨by decide +kernel, rfl⟩
theorem dd_D_settle_46 : ev_j prog_10_method_19_code 46 (fun o => .ifCond .ne o) 49 54 := ⟨8, by decide +kernel, rfl, by decide⟩
theorem dd_D_settle_49 : ev_d prog_10_method_19_code 49 (.iload 4) 2 51 := ⟨by decide +kernel, rfl⟩
theorem dd_D_settle_51 : ev_j prog_10_method_19_code 51 (fun o => .goto o) 54 55 := ⟨4, by decide +kernel, rfl, by decide⟩
theorem dd_D_settle_54 : ev_d prog_10_method_19_code 54 (.iload_n 3) 1 55 := ⟨by decide +kernel, rfl⟩
theorem dd_D_settle_55 : ev_d prog_10_method_19_code 55 (.istore_n 3) 1 56 := ⟨by decide +kernel, rfl⟩
theorem dd_D_settle_56 : ev_d prog_10_method_19_code 56 (.aload_n 0) 1 57 := ⟨by decide +kernel, rfl⟩
theorem dd_D_settle_57 : ev_d prog_10_method_19_code 57 (.getfield 25) 3 60 := ⟨by decide +kernel, rfl⟩
theorem dd_D_settle_60 : ev_d prog_10_method_19_code 60 (.iload 5) 2 62 := ⟨by decide +kernel, rfl⟩
theorem dd_D_settle_62 : ev_d prog_10_method_19_code 62 .iaload 1 63 := ⟨by decide +kernel, rfl⟩
theorem dd_D_settle_63 : ev_d prog_10_method_19_code 63 (.istore 5) 2 65 := ⟨by decide +kernel, rfl⟩
theorem dd_D_settle_65 : ev_j prog_10_method_19_code 65 (fun o => .goto o) 68 16 := ⟨(-49), by decide +kernel, rfl, by decide⟩
theorem dd_D_settle_68 : ev_d prog_10_method_19_code 68 (.iconst 0) 1 69 := ⟨by decide +kernel, rfl⟩
theorem dd_D_settle_69 : ev_d prog_10_method_19_code 69 (.istore 5) 2 71 := ⟨by decide +kernel, rfl⟩
theorem dd_D_settle_71 : ev_d prog_10_method_19_code 71 (.iload 5) 2 73 := ⟨by decide +kernel, rfl⟩
theorem dd_D_settle_73 : ev_d prog_10_method_19_code 73 (.iload_n 3) 1 74 := ⟨by decide +kernel, rfl⟩
theorem dd_D_settle_74 : ev_j prog_10_method_19_code 74 (fun o => .if_icmp .ge o) 77 95 := ⟨21, by decide +kernel, rfl, by decide⟩
theorem dd_D_settle_77 : ev_d prog_10_method_19_code 77 (.aload_n 0) 1 78 := ⟨by decide +kernel, rfl⟩
theorem dd_D_settle_78 : ev_d prog_10_method_19_code 78 (.aload_n 0) 1 79 := ⟨by decide +kernel, rfl⟩
theorem dd_D_settle_79 : ev_d prog_10_method_19_code 79 (.bipush 12) 2 81 := ⟨by decide +kernel, rfl⟩
theorem dd_D_settle_81 : ev_d prog_10_method_19_code 81 (.iload_n 1) 1 82 := ⟨by decide +kernel, rfl⟩
theorem dd_D_settle_82 : ev_d prog_10_method_19_code 82 .iadd 1 83 := ⟨by decide +kernel, rfl⟩
theorem dd_D_settle_83 : ev_d prog_10_method_19_code 83 (.invokevirtual 163) 3 86 := ⟨by decide +kernel, rfl⟩
theorem dd_D_settle_86 : ev_d prog_10_method_19_code 86 (.invokevirtual 167) 3 89 := ⟨by decide +kernel, rfl⟩
theorem dd_D_settle_89 : ev_d prog_10_method_19_code 89 (.iinc 5 1) 3 92 := ⟨by decide +kernel, rfl⟩
theorem dd_D_settle_92 : ev_j prog_10_method_19_code 92 (fun o => .goto o) 95 71 := ⟨(-21), by decide +kernel, rfl, by decide⟩
theorem dd_D_settle_95 : ev_d prog_10_method_19_code 95 (.aload_n 0) 1 96 := ⟨by decide +kernel, rfl⟩
theorem dd_D_settle_96 : ev_d prog_10_method_19_code 96 (.getfield 32) 3 99 := ⟨by decide +kernel, rfl⟩
theorem dd_D_settle_99 : ev_d prog_10_method_19_code 99 (.bipush 12) 2 101 := ⟨by decide +kernel, rfl⟩
theorem dd_D_settle_101 : ev_d prog_10_method_19_code 101 (.iload_n 1) 1 102 := ⟨by decide +kernel, rfl⟩
theorem dd_D_settle_102 : ev_d prog_10_method_19_code 102 .iadd 1 103 := ⟨by decide +kernel, rfl⟩
theorem dd_D_settle_103 : ev_d prog_10_method_19_code 103 .iaload 1 104 := ⟨by decide +kernel, rfl⟩
theorem dd_D_settle_104 : ev_d prog_10_method_19_code 104 (.istore 5) 2 106 := ⟨by decide +kernel, rfl⟩
theorem dd_D_settle_106 : ev_d prog_10_method_19_code 106 (.iload 5) 2 108 := ⟨by decide +kernel, rfl⟩
theorem dd_D_settle_108 : ev_j prog_10_method_19_code 108 (fun o => .ifCond .lt o) 111 131 := ⟨23, by decide +kernel, rfl, by decide⟩
theorem dd_D_settle_111 : ev_d prog_10_method_19_code 111 (.aload_n 0) 1 112 := ⟨by decide +kernel, rfl⟩
theorem dd_D_settle_112 : ev_d prog_10_method_19_code 112 (.getfield 22) 3 115 := ⟨by decide +kernel, rfl⟩
theorem dd_D_settle_115 : ev_d prog_10_method_19_code 115 (.iload 5) 2 117 := ⟨by decide +kernel, rfl⟩
theorem dd_D_settle_117 : ev_d prog_10_method_19_code 117 (.iconst (-1)) 1 118 := ⟨by decide +kernel, rfl⟩
theorem dd_D_settle_118 : ev_d prog_10_method_19_code 118 .iastore 1 119 := ⟨by decide +kernel, rfl⟩
theorem dd_D_settle_119 : ev_d prog_10_method_19_code 119 (.aload_n 0) 1 120 := ⟨by decide +kernel, rfl⟩
theorem dd_D_settle_120 : ev_d prog_10_method_19_code 120 (.getfield 25) 3 123 := ⟨by decide +kernel, rfl⟩
theorem dd_D_settle_123 : ev_d prog_10_method_19_code 123 (.iload 5) 2 125 := ⟨by decide +kernel, rfl⟩
theorem dd_D_settle_125 : ev_d prog_10_method_19_code 125 .iaload 1 126 := ⟨by decide +kernel, rfl⟩
theorem dd_D_settle_126 : ev_d prog_10_method_19_code 126 (.istore 5) 2 128 := ⟨by decide +kernel, rfl⟩
theorem dd_D_settle_128 : ev_j prog_10_method_19_code 128 (fun o => .goto o) 131 106 := ⟨(-22), by decide +kernel, rfl, by decide⟩
theorem dd_D_settle_131 : ev_d prog_10_method_19_code 131 (.aload_n 0) 1 132 := ⟨by decide +kernel, rfl⟩
theorem dd_D_settle_132 : ev_d prog_10_method_19_code 132 (.getfield 132) 3 135 := ⟨by decide +kernel, rfl⟩
theorem dd_D_settle_135 : ev_d prog_10_method_19_code 135 (.iload_n 1) 1 136 := ⟨by decide +kernel, rfl⟩
theorem dd_D_settle_136 : ev_d prog_10_method_19_code 136 (.iconst 2) 1 137 := ⟨by decide +kernel, rfl⟩
theorem dd_D_settle_137 : ev_d prog_10_method_19_code 137 .iastore 1 138 := ⟨by decide +kernel, rfl⟩
theorem dd_D_settle_138 : ev_d prog_10_method_19_code 138 .return_ 1 139 := ⟨by decide +kernel, rfl⟩
-- D_age
theorem dd_D_age_0 : ev_d prog_10_method_33_code 0 (.aload_n 0) 1 1 := ⟨by decide +kernel, rfl⟩
theorem dd_D_age_1 : ev_d prog_10_method_33_code 1 (.getfield 41) 3 4 := ⟨by decide +kernel, rfl⟩
theorem dd_D_age_4 : ev_d prog_10_method_33_code 4 (.iload_n 1) 1 5 := ⟨by decide +kernel, rfl⟩
theorem dd_D_age_5 : ev_d prog_10_method_33_code 5 .iaload 1 6 := ⟨by decide +kernel, rfl⟩
theorem dd_D_age_6 : ev_d prog_10_method_33_code 6 (.iconst 1) 1 7 := ⟨by decide +kernel, rfl⟩
theorem dd_D_age_7 : ev_j prog_10_method_33_code 7 (fun o => .if_icmp .eq o) 10 20 := ⟨13, by decide +kernel, rfl, by decide⟩
theorem dd_D_age_10 : ev_d prog_10_method_33_code 10 (.aload_n 0) 1 11 := ⟨by decide +kernel, rfl⟩
theorem dd_D_age_11 : ev_d prog_10_method_33_code 11 (.getfield 41) 3 14 := ⟨by decide +kernel, rfl⟩
theorem dd_D_age_14 : ev_d prog_10_method_33_code 14 (.iload_n 1) 1 15 := ⟨by decide +kernel, rfl⟩
theorem dd_D_age_15 : ev_d prog_10_method_33_code 15 .iaload 1 16 := ⟨by decide +kernel, rfl⟩
theorem dd_D_age_16 : ev_d prog_10_method_33_code 16 (.iconst 3) 1 17 := ⟨by decide +kernel, rfl⟩
theorem dd_D_age_17 : ev_j prog_10_method_33_code 17 (fun o => .if_icmp .ne o) 20 49 := ⟨32, by decide +kernel, rfl, by decide⟩
theorem dd_D_age_20 : ev_d prog_10_method_33_code 20 (.aload_n 0) 1 21 := ⟨by decide +kernel, rfl⟩
theorem dd_D_age_21 : ev_d prog_10_method_33_code 21 (.getfield 44) 3 24 := ⟨by decide +kernel, rfl⟩
theorem dd_D_age_24 : ev_d prog_10_method_33_code 24 (.iload_n 1) 1 25 := ⟨by decide +kernel, rfl⟩
theorem dd_D_age_25 : ev_d prog_10_method_33_code 25 .dup2 1 26 := ⟨by decide +kernel, rfl⟩
theorem dd_D_age_26 : ev_d prog_10_method_33_code 26 .iaload 1 27 := ⟨by decide +kernel, rfl⟩
theorem dd_D_age_27 : ev_d prog_10_method_33_code 27 (.iconst 1) 1 28 := ⟨by decide +kernel, rfl⟩
theorem dd_D_age_28 : ev_d prog_10_method_33_code 28 .iadd 1 29 := ⟨by decide +kernel, rfl⟩
theorem dd_D_age_29 : ev_d prog_10_method_33_code 29 .iastore 1 30 := ⟨by decide +kernel, rfl⟩
theorem dd_D_age_30 : ev_d prog_10_method_33_code 30 (.aload_n 0) 1 31 := ⟨by decide +kernel, rfl⟩
theorem dd_D_age_31 : ev_d prog_10_method_33_code 31 (.getfield 44) 3 34 := ⟨by decide +kernel, rfl⟩
theorem dd_D_age_34 : ev_d prog_10_method_33_code 34 (.iload_n 1) 1 35 := ⟨by decide +kernel, rfl⟩
theorem dd_D_age_35 : ev_d prog_10_method_33_code 35 .iaload 1 36 := ⟨by decide +kernel, rfl⟩
theorem dd_D_age_36 : ev_d prog_10_method_33_code 36 (.bipush 15) 2 38 := ⟨by decide +kernel, rfl⟩
theorem dd_D_age_38 : ev_j prog_10_method_33_code 38 (fun o => .if_icmp .ne o) 41 142 := ⟨104, by decide +kernel, rfl, by decide⟩
theorem dd_D_age_41 : ev_d prog_10_method_33_code 41 (.aload_n 0) 1 42 := ⟨by decide +kernel, rfl⟩
theorem dd_D_age_42 : ev_d prog_10_method_33_code 42 (.iload_n 1) 1 43 := ⟨by decide +kernel, rfl⟩
theorem dd_D_age_43 : ev_d prog_10_method_33_code 43 (.invokevirtual 188) 3 46 := ⟨by decide +kernel, rfl⟩
theorem dd_D_age_46 : ev_j prog_10_method_33_code 46 (fun o => .goto o) 49 142 := ⟨96, by decide +kernel, rfl, by decide⟩
theorem dd_D_age_49 : ev_d prog_10_method_33_code 49 (.aload_n 0) 1 50 := ⟨by decide +kernel, rfl⟩
theorem dd_D_age_50 : ev_d prog_10_method_33_code 50 (.getfield 41) 3 53 := ⟨by decide +kernel, rfl⟩
theorem dd_D_age_53 : ev_d prog_10_method_33_code 53 (.iload_n 1) 1 54 := ⟨by decide +kernel, rfl⟩
theorem dd_D_age_54 : ev_d prog_10_method_33_code 54 .iaload 1 55 := ⟨by decide +kernel, rfl⟩
theorem dd_D_age_55 : ev_d prog_10_method_33_code 55 (.iconst 2) 1 56 := ⟨by decide +kernel, rfl⟩
theorem dd_D_age_56 : ev_j prog_10_method_33_code 56 (fun o => .if_icmp .ne o) 59 89 := ⟨33, by decide +kernel, rfl, by decide⟩
theorem dd_D_age_59 : ev_d prog_10_method_33_code 59 (.aload_n 0) 1 60 := ⟨by decide +kernel, rfl⟩
theorem dd_D_age_60 : ev_d prog_10_method_33_code 60 (.getfield 44) 3 63 := ⟨by decide +kernel, rfl⟩
theorem dd_D_age_63 : ev_d prog_10_method_33_code 63 (.iload_n 1) 1 64 := ⟨by decide +kernel, rfl⟩
theorem dd_D_age_64 : ev_d prog_10_method_33_code 64 .dup2 1 65 := ⟨by decide +kernel, rfl⟩
theorem dd_D_age_65 : ev_d prog_10_method_33_code 65 .iaload 1 66 := ⟨by decide +kernel, rfl⟩
theorem dd_D_age_66 : ev_d prog_10_method_33_code 66 (.iconst 1) 1 67 := ⟨by decide +kernel, rfl⟩
theorem dd_D_age_67 : ev_d prog_10_method_33_code 67 .iadd 1 68 := ⟨by decide +kernel, rfl⟩
theorem dd_D_age_68 : ev_d prog_10_method_33_code 68 .iastore 1 69 := ⟨by decide +kernel, rfl⟩
theorem dd_D_age_69 : ev_d prog_10_method_33_code 69 (.aload_n 0) 1 70 := ⟨by decide +kernel, rfl⟩
theorem dd_D_age_70 : ev_d prog_10_method_33_code 70 (.getfield 44) 3 73 := ⟨by decide +kernel, rfl⟩
theorem dd_D_age_73 : ev_d prog_10_method_33_code 73 (.iload_n 1) 1 74 := ⟨by decide +kernel, rfl⟩
theorem dd_D_age_74 : ev_d prog_10_method_33_code 74 .iaload 1 75 := ⟨by decide +kernel, rfl⟩
theorem dd_D_age_75 : ev_d prog_10_method_33_code 75 (.bipush 6) 2 77 := ⟨by decide +kernel, rfl⟩
theorem dd_D_age_77 : ev_j prog_10_method_33_code 77 (fun o => .if_icmp .ne o) 80 142 := ⟨65, by decide +kernel, rfl, by decide⟩
theorem dd_D_age_80 : ev_d prog_10_method_33_code 80 (.aload_n 0) 1 81 := ⟨by decide +kernel, rfl⟩
theorem dd_D_age_81 : ev_d prog_10_method_33_code 81 (.iload_n 1) 1 82 := ⟨by decide +kernel, rfl⟩
theorem dd_D_age_82 : ev_d prog_10_method_33_code 82 (.iconst 3) 1 83 := ⟨by decide +kernel, rfl⟩
theorem dd_D_age_83 : ev_d prog_10_method_33_code 83 (.invokevirtual 181) 3 86 := ⟨by decide +kernel, rfl⟩
theorem dd_D_age_86 : ev_j prog_10_method_33_code 86 (fun o => .goto o) 89 142 := ⟨56, by decide +kernel, rfl, by decide⟩
theorem dd_D_age_89 : ev_d prog_10_method_33_code 89 (.aload_n 0) 1 90 := ⟨by decide +kernel, rfl⟩
theorem dd_D_age_90 : ev_d prog_10_method_33_code 90 (.getfield 41) 3 93 := ⟨by decide +kernel, rfl⟩
theorem dd_D_age_93 : ev_d prog_10_method_33_code 93 (.iload_n 1) 1 94 := ⟨by decide +kernel, rfl⟩
theorem dd_D_age_94 : ev_d prog_10_method_33_code 94 .iaload 1 95 := ⟨by decide +kernel, rfl⟩
theorem dd_D_age_95 : ev_d prog_10_method_33_code 95 (.iconst 4) 1 96 := ⟨by decide +kernel, rfl⟩
theorem dd_D_age_96 : ev_j prog_10_method_33_code 96 (fun o => .if_icmp .ne o) 99 142 := ⟨46, by decide +kernel, rfl, by decide⟩
theorem dd_D_age_99 : ev_d prog_10_method_33_code 99 (.aload_n 0) 1 100 := ⟨by decide +kernel, rfl⟩
theorem dd_D_age_100 : ev_d prog_10_method_33_code 100 (.getfield 81) 3 103 := ⟨by decide +kernel, rfl⟩
theorem dd_D_age_103 : ev_d prog_10_method_33_code 103 (.iload_n 1) 1 104 := ⟨by decide +kernel, rfl⟩
theorem dd_D_age_104 : ev_d prog_10_method_33_code 104 (.aload_n 0) 1 105 := ⟨by decide +kernel, rfl⟩
theorem dd_D_age_105 : ev_d prog_10_method_33_code 105 (.getfield 38) 3 108 := ⟨by decide +kernel, rfl⟩
theorem dd_D_age_108 : ev_d prog_10_method_33_code 108 (.iload_n 1) 1 109 := ⟨by decide +kernel, rfl⟩
theorem dd_D_age_109 : ev_d prog_10_method_33_code 109 .iaload 1 110 := ⟨by decide +kernel, rfl⟩
theorem dd_D_age_110 : ev_j prog_10_method_33_code 110 (fun o => .ifCond .le o) 113 124 := ⟨14, by decide +kernel, rfl, by decide⟩
theorem dd_D_age_113 : ev_d prog_10_method_33_code 113 (.aload_n 0) 1 114 := ⟨by decide +kernel, rfl⟩
theorem dd_D_age_114 : ev_d prog_10_method_33_code 114 (.getfield 81) 3 117 := ⟨by decide +kernel, rfl⟩
theorem dd_D_age_117 : ev_d prog_10_method_33_code 117 (.iload_n 1) 1 118 := ⟨by decide +kernel, rfl⟩
theorem dd_D_age_118 : ev_d prog_10_method_33_code 118 .iaload 1 119 := ⟨by decide +kernel, rfl⟩
theorem dd_D_age_119 : ev_d prog_10_method_33_code 119 (.iconst 1) 1 120 := ⟨by decide +kernel, rfl⟩
theorem dd_D_age_120 : ev_d prog_10_method_33_code 120 .iadd 1 121 := ⟨by decide +kernel, rfl⟩
theorem dd_D_age_121 : ev_j prog_10_method_33_code 121 (fun o => .goto o) 124 125 := ⟨4, by decide +kernel, rfl, by decide⟩
theorem dd_D_age_124 : ev_d prog_10_method_33_code 124 (.iconst 0) 1 125 := ⟨by decide +kernel, rfl⟩
theorem dd_D_age_125 : ev_d prog_10_method_33_code 125 .iastore 1 126 := ⟨by decide +kernel, rfl⟩
theorem dd_D_age_126 : ev_d prog_10_method_33_code 126 (.aload_n 0) 1 127 := ⟨by decide +kernel, rfl⟩
theorem dd_D_age_127 : ev_d prog_10_method_33_code 127 (.getfield 81) 3 130 := ⟨by decide +kernel, rfl⟩
theorem dd_D_age_130 : ev_d prog_10_method_33_code 130 (.iload_n 1) 1 131 := ⟨by decide +kernel, rfl⟩
theorem dd_D_age_131 : ev_d prog_10_method_33_code 131 .iaload 1 132 := ⟨by decide +kernel, rfl⟩
theorem dd_D_age_132 : ev_d prog_10_method_33_code 132 (.bipush 12) 2 134 := ⟨by decide +kernel, rfl⟩
theorem dd_D_age_134 : ev_j prog_10_method_33_code 134 (fun o => .if_icmp .ne o) 137 142 := ⟨8, by decide +kernel, rfl, by decide⟩
theorem dd_D_age_137 : ev_d prog_10_method_33_code 137 (.aload_n 0) 1 138 := ⟨by decide +kernel, rfl⟩
theorem dd_D_age_138 : ev_d prog_10_method_33_code 138 (.iload_n 1) 1 139 := ⟨by decide +kernel, rfl⟩
theorem dd_D_age_139 : ev_d prog_10_method_33_code 139 (.invokevirtual 188) 3 142 := ⟨by decide +kernel, rfl⟩
theorem dd_D_age_142 : ev_d prog_10_method_33_code 142 .return_ 1 143 := ⟨by decide +kernel, rfl⟩
-- D_tickChange
theorem dd_D_tickChange_0 : ev_d prog_10_method_26_code 0 (.iload_n 1) 1 1 := ⟨by decide +kernel, rfl⟩
theorem dd_D_tickChange_1 : ev_d prog_10_method_26_code 1 (.iconst 2) 1 2 := ⟨by decide +kernel, rfl⟩
theorem dd_D_tickChange_2 : ev_d prog_10_method_26_code 2 .irem 1 3 := ⟨by decide +kernel, rfl⟩
theorem dd_D_tickChange_3 : ev_d prog_10_method_26_code 3 (.istore_n 2) 1 4 := ⟨by decide +kernel, rfl⟩
theorem dd_D_tickChange_4 : ev_d prog_10_method_26_code 4 (.aload_n 0) 1 5 := ⟨by decide +kernel, rfl⟩
theorem dd_D_tickChange_5 : ev_d prog_10_method_26_code 5 (.getfield 132) 3 8 := ⟨by decide +kernel, rfl⟩
theorem dd_D_tickChange_8 : ev_d prog_10_method_26_code 8 (.iload_n 1) 1 9 := ⟨by decide +kernel, rfl⟩
theorem dd_D_tickChange_9 : ev_d prog_10_method_26_code 9 .iaload 1 10 := ⟨by decide +kernel, rfl⟩
theorem dd_D_tickChange_10 : ev_j prog_10_method_26_code 10 (fun o => .ifCond .ne o) 13 14 := ⟨4, by decide +kernel, rfl, by decide⟩
theorem dd_D_tickChange_13 : ev_d prog_10_method_26_code 13 .return_ 1 14 := ⟨by decide +kernel, rfl⟩
theorem dd_D_tickChange_14 : ev_d prog_10_method_26_code 14 (.aload_n 0) 1 15 := ⟨by decide +kernel, rfl⟩
theorem dd_D_tickChange_15 : ev_d prog_10_method_26_code 15 (.iload_n 2) 1 16 := ⟨by decide +kernel, rfl⟩
theorem dd_D_tickChange_16 : ev_d prog_10_method_26_code 16 (.invokevirtual 197) 3 19 := ⟨by decide +kernel, rfl⟩
theorem dd_D_tickChange_19 : ev_j prog_10_method_26_code 19 (fun o => .ifCond .lt o) 22 26 := ⟨7, by decide +kernel, rfl, by decide⟩
theorem dd_D_tickChange_22 : ev_d prog_10_method_26_code 22 (.iconst 1) 1 23 := ⟨by decide +kernel, rfl⟩
theorem dd_D_tickChange_23 : ev_j prog_10_method_26_code 23 (fun o => .goto o) 26 27 := ⟨4, by decide +kernel, rfl, by decide⟩
theorem dd_D_tickChange_26 : ev_d prog_10_method_26_code 26 (.iconst 0) 1 27 := ⟨by decide +kernel, rfl⟩
theorem dd_D_tickChange_27 : ev_d prog_10_method_26_code 27 (.istore_n 3) 1 28 := ⟨by decide +kernel, rfl⟩
theorem dd_D_tickChange_28 : ev_d prog_10_method_26_code 28 (.aload_n 0) 1 29 := ⟨by decide +kernel, rfl⟩
theorem dd_D_tickChange_29 : ev_d prog_10_method_26_code 29 (.getfield 132) 3 32 := ⟨by decide +kernel, rfl⟩
theorem dd_D_tickChange_32 : ev_d prog_10_method_26_code 32 (.iload_n 1) 1 33 := ⟨by decide +kernel, rfl⟩
theorem dd_D_tickChange_33 : ev_d prog_10_method_26_code 33 .iaload 1 34 := ⟨by decide +kernel, rfl⟩
theorem dd_D_tickChange_34 : ev_d prog_10_method_26_code 34 (.iconst 1) 1 35 := ⟨by decide +kernel, rfl⟩
theorem dd_D_tickChange_35 : ev_j prog_10_method_26_code 35 (fun o => .if_icmp .ne o) 38 83 := ⟨48, by decide +kernel, rfl, by decide⟩
theorem dd_D_tickChange_38 : ev_d prog_10_method_26_code 38 (.aload_n 0) 1 39 := ⟨by decide +kernel, rfl⟩
theorem dd_D_tickChange_39 : ev_d prog_10_method_26_code 39 (.getfield 135) 3 42 := ⟨by decide +kernel, rfl⟩
theorem dd_D_tickChange_42 : ev_d prog_10_method_26_code 42 (.iload_n 1) 1 43 := ⟨by decide +kernel, rfl⟩
theorem dd_D_tickChange_43 : ev_d prog_10_method_26_code 43 .baload 1 44 := ⟨by decide +kernel, rfl⟩
theorem dd_D_tickChange_44 : ev_j prog_10_method_26_code 44 (fun o => .ifCond .ne o) 47 83 := ⟨39, by decide +kernel, rfl, by decide⟩
theorem dd_D_tickChange_47 : ev_d prog_10_method_26_code 47 (.iload_n 3) 1 48 := ⟨by decide +kernel, rfl⟩
theorem dd_D_tickChange_48 : ev_j prog_10_method_26_code 48 (fun o => .ifCond .eq o) 51 83 := ⟨35, by decide +kernel, rfl, by decide⟩
theorem dd_D_tickChange_51 : ev_d prog_10_method_26_code 51 (.aload_n 0) 1 52 := ⟨by decide +kernel, rfl⟩
theorem dd_D_tickChange_52 : ev_d prog_10_method_26_code 52 (.iload_n 2) 1 53 := ⟨by decide +kernel, rfl⟩
theorem dd_D_tickChange_53 : ev_d prog_10_method_26_code 53 (.aload_n 0) 1 54 := ⟨by decide +kernel, rfl⟩
theorem dd_D_tickChange_54 : ev_d prog_10_method_26_code 54 (.iconst 4) 1 55 := ⟨by decide +kernel, rfl⟩
theorem dd_D_tickChange_55 : ev_d prog_10_method_26_code 55 (.aload_n 0) 1 56 := ⟨by decide +kernel, rfl⟩
theorem dd_D_tickChange_56 : ev_d prog_10_method_26_code 56 (.getfield 147) 3 59 := ⟨by decide +kernel, rfl⟩
theorem dd_D_tickChange_59 : ev_d prog_10_method_26_code 59 (.iload_n 1) 1 60 := ⟨by decide +kernel, rfl⟩
theorem dd_D_tickChange_60 : ev_d prog_10_method_26_code 60 .iaload 1 61 := ⟨by decide +kernel, rfl⟩
theorem dd_D_tickChange_61 : ev_d prog_10_method_26_code 61 (.iload_n 1) 1 62 := ⟨by decide +kernel, rfl⟩
theorem dd_D_tickChange_62 : ev_d prog_10_method_26_code 62 (.iconst 2) 1 63 := ⟨by decide +kernel, rfl⟩
theorem dd_D_tickChange_63 : ev_d prog_10_method_26_code 63 .idiv 1 64 := ⟨by decide +kernel, rfl⟩
theorem dd_D_tickChange_64 : ev_d prog_10_method_26_code 64 (.aload_n 0) 1 65 := ⟨by decide +kernel, rfl⟩
theorem dd_D_tickChange_65 : ev_d prog_10_method_26_code 65 (.getfield 141) 3 68 := ⟨by decide +kernel, rfl⟩
theorem dd_D_tickChange_68 : ev_d prog_10_method_26_code 68 (.iload_n 1) 1 69 := ⟨by decide +kernel, rfl⟩
theorem dd_D_tickChange_69 : ev_d prog_10_method_26_code 69 .iaload 1 70 := ⟨by decide +kernel, rfl⟩
theorem dd_D_tickChange_70 : ev_d prog_10_method_26_code 70 (.invokevirtual 210) 3 73 := ⟨by decide +kernel, rfl⟩
theorem dd_D_tickChange_73 : ev_d prog_10_method_26_code 73 (.invokevirtual 203) 3 76 := ⟨by decide +kernel, rfl⟩
theorem dd_D_tickChange_76 : ev_d prog_10_method_26_code 76 (.aload_n 0) 1 77 := ⟨by decide +kernel, rfl⟩
theorem dd_D_tickChange_77 : ev_d prog_10_method_26_code 77 (.getfield 135) 3 80 := ⟨by decide +kernel, rfl⟩
theorem dd_D_tickChange_80 : ev_d prog_10_method_26_code 80 (.iload_n 1) 1 81 := ⟨by decide +kernel, rfl⟩
theorem dd_D_tickChange_81 : ev_d prog_10_method_26_code 81 (.iconst 1) 1 82 := ⟨by decide +kernel, rfl⟩
theorem dd_D_tickChange_82 : ev_d prog_10_method_26_code 82 .bastore 1 83 := ⟨by decide +kernel, rfl⟩
theorem dd_D_tickChange_83 : ev_d prog_10_method_26_code 83 (.aload_n 0) 1 84 := ⟨by decide +kernel, rfl⟩
theorem dd_D_tickChange_84 : ev_d prog_10_method_26_code 84 (.getfield 138) 3 87 := ⟨by decide +kernel, rfl⟩
theorem dd_D_tickChange_87 : ev_d prog_10_method_26_code 87 (.iload_n 1) 1 88 := ⟨by decide +kernel, rfl⟩
theorem dd_D_tickChange_88 : ev_d prog_10_method_26_code 88 .dup2 1 89 := ⟨by decide +kernel, rfl⟩
theorem dd_D_tickChange_89 : ev_d prog_10_method_26_code 89 .iaload 1 90 := ⟨by decide +kernel, rfl⟩
theorem dd_D_tickChange_90 : ev_d prog_10_method_26_code 90 (.iconst 1) 1 91 := ⟨by decide +kernel, rfl⟩
theorem dd_D_tickChange_91 : ev_d prog_10_method_26_code 91 .iadd 1 92 := ⟨by decide +kernel, rfl⟩
theorem dd_D_tickChange_92 : ev_d prog_10_method_26_code 92 .iastore 1 93 := ⟨by decide +kernel, rfl⟩
theorem dd_D_tickChange_93 : ev_d prog_10_method_26_code 93 (.aload_n 0) 1 94 := ⟨by decide +kernel, rfl⟩
theorem dd_D_tickChange_94 : ev_d prog_10_method_26_code 94 (.getfield 138) 3 97 := ⟨by decide +kernel, rfl⟩
theorem dd_D_tickChange_97 : ev_d prog_10_method_26_code 97 (.iload_n 1) 1 98 := ⟨by decide +kernel, rfl⟩
theorem dd_D_tickChange_98 : ev_d prog_10_method_26_code 98 .iaload 1 99 := ⟨by decide +kernel, rfl⟩
theorem dd_D_tickChange_99 : ev_d prog_10_method_26_code 99 (.bipush 20) 2 101 := ⟨by decide +kernel, rfl⟩
theorem dd_D_tickChange_101 : ev_j prog_10_method_26_code 101 (fun o => .if_icmp .lt o) 104 123 := ⟨22, by decide +kernel, rfl, by decide⟩
theorem dd_D_tickChange_104 : ev_d prog_10_method_26_code 104 (.aload_n 0) 1 105 := ⟨by decide +kernel, rfl⟩
theorem dd_D_tickChange_105 : ev_d prog_10_method_26_code 105 (.getfield 132) 3 108 := ⟨by decide +kernel, rfl⟩
theorem dd_D_tickChange_108 : ev_d prog_10_method_26_code 108 (.iload_n 1) 1 109 := ⟨by decide +kernel, rfl⟩
theorem dd_D_tickChange_109 : ev_d prog_10_method_26_code 109 .iaload 1 110 := ⟨by decide +kernel, rfl⟩
theorem dd_D_tickChange_110 : ev_d prog_10_method_26_code 110 (.iconst 1) 1 111 := ⟨by decide +kernel, rfl⟩
theorem dd_D_tickChange_111 : ev_j prog_10_method_26_code 111 (fun o => .if_icmp .ne o) 114 123 := ⟨12, by decide +kernel, rfl, by decide⟩
theorem dd_D_tickChange_114 : ev_d prog_10_method_26_code 114 (.iload_n 3) 1 115 := ⟨by decide +kernel, rfl⟩
theorem dd_D_tickChange_115 : ev_j prog_10_method_26_code 115 (fun o => .ifCond .eq o) 118 123 := ⟨8, by decide +kernel, rfl, by decide⟩
theorem dd_D_tickChange_118 : ev_d prog_10_method_26_code 118 (.aload_n 0) 1 119 := ⟨by decide +kernel, rfl⟩
theorem dd_D_tickChange_119 : ev_d prog_10_method_26_code 119 (.iload_n 1) 1 120 := ⟨by decide +kernel, rfl⟩
theorem dd_D_tickChange_120 : ev_d prog_10_method_26_code 120 (.invokevirtual 214) 3 123 := ⟨by decide +kernel, rfl⟩
theorem dd_D_tickChange_123 : ev_d prog_10_method_26_code 123 (.aload_n 0) 1 124 := ⟨by decide +kernel, rfl⟩
theorem dd_D_tickChange_124 : ev_d prog_10_method_26_code 124 (.getfield 132) 3 127 := ⟨by decide +kernel, rfl⟩
theorem dd_D_tickChange_127 : ev_d prog_10_method_26_code 127 (.iload_n 1) 1 128 := ⟨by decide +kernel, rfl⟩
theorem dd_D_tickChange_128 : ev_d prog_10_method_26_code 128 .iaload 1 129 := ⟨by decide +kernel, rfl⟩
theorem dd_D_tickChange_129 : ev_d prog_10_method_26_code 129 (.iconst 2) 1 130 := ⟨by decide +kernel, rfl⟩
theorem dd_D_tickChange_130 : ev_j prog_10_method_26_code 130 (fun o => .if_icmp .ne o) 133 173 := ⟨43, by decide +kernel, rfl, by decide⟩
theorem dd_D_tickChange_133 : ev_d prog_10_method_26_code 133 (.aload_n 0) 1 134 := ⟨by decide +kernel, rfl⟩
theorem dd_D_tickChange_134 : ev_d prog_10_method_26_code 134 (.getfield 132) 3 137 := ⟨by decide +kernel, rfl⟩
theorem dd_D_tickChange_137 : ev_d prog_10_method_26_code 137 (.iload_n 1) 1 138 := ⟨by decide +kernel, rfl⟩
theorem dd_D_tickChange_138 : ev_d prog_10_method_26_code 138 (.iconst 0) 1 139 := ⟨by decide +kernel, rfl⟩
theorem dd_D_tickChange_139 : ev_d prog_10_method_26_code 139 .iastore 1 140 := ⟨by decide +kernel, rfl⟩
theorem dd_D_tickChange_140 : ev_d prog_10_method_26_code 140 (.aload_n 0) 1 141 := ⟨by decide +kernel, rfl⟩
theorem dd_D_tickChange_141 : ev_d prog_10_method_26_code 141 (.iload_n 2) 1 142 := ⟨by decide +kernel, rfl⟩
theorem dd_D_tickChange_142 : ev_d prog_10_method_26_code 142 (.iconst 0) 1 143 := ⟨by decide +kernel, rfl⟩
theorem dd_D_tickChange_143 : ev_d prog_10_method_26_code 143 (.invokevirtual 206) 3 146 := ⟨by decide +kernel, rfl⟩
theorem dd_D_tickChange_146 : ev_j prog_10_method_26_code 146 (fun o => .ifCond .lt o) 149 153 := ⟨7, by decide +kernel, rfl, by decide⟩
theorem dd_D_tickChange_149 : ev_d prog_10_method_26_code 149 (.iconst 1) 1 150 := ⟨by decide +kernel, rfl⟩
theorem dd_D_tickChange_150 : ev_j prog_10_method_26_code 150 (fun o => .goto o) 153 154 := ⟨4, by decide +kernel, rfl, by decide⟩
theorem dd_D_tickChange_153 : ev_d prog_10_method_26_code 153 (.iconst 0) 1 154 := ⟨by decide +kernel, rfl⟩
theorem dd_D_tickChange_154 : ev_d prog_10_method_26_code 154 (.istore 4) 2 156 := ⟨by decide +kernel, rfl⟩
theorem dd_D_tickChange_156 : ev_d prog_10_method_26_code 156 (.aload_n 0) 1 157 := ⟨by decide +kernel, rfl⟩
theorem dd_D_tickChange_157 : ev_d prog_10_method_26_code 157 (.getfield 132) 3 160 := ⟨by decide +kernel, rfl⟩
theorem dd_D_tickChange_160 : ev_d prog_10_method_26_code 160 (.iload_n 1) 1 161 := ⟨by decide +kernel, rfl⟩
theorem dd_D_tickChange_161 : ev_d prog_10_method_26_code 161 (.iconst 2) 1 162 := ⟨by decide +kernel, rfl⟩
theorem dd_D_tickChange_162 : ev_d prog_10_method_26_code 162 .iastore 1 163 := ⟨by decide +kernel, rfl⟩
theorem dd_D_tickChange_163 : ev_d prog_10_method_26_code 163 (.iload 4) 2 165 := ⟨by decide +kernel, rfl⟩
theorem dd_D_tickChange_165 : ev_j prog_10_method_26_code 165 (fun o => .ifCond .eq o) 168 173 := ⟨8, by decide +kernel, rfl, by decide⟩
theorem dd_D_tickChange_168 : ev_d prog_10_method_26_code 168 (.aload_n 0) 1 169 := ⟨by decide +kernel, rfl⟩
theorem dd_D_tickChange_169 : ev_d prog_10_method_26_code 169 (.iload_n 1) 1 170 := ⟨by decide +kernel, rfl⟩
theorem dd_D_tickChange_170 : ev_d prog_10_method_26_code 170 (.invokevirtual 217) 3 173 := ⟨by decide +kernel, rfl⟩
theorem dd_D_tickChange_173 : ev_d prog_10_method_26_code 173 .return_ 1 174 := ⟨by decide +kernel, rfl⟩
-- D_giveUp
theorem dd_D_giveUp_0 : ev_d prog_10_method_24_code 0 (.aload_n 0) 1 1 := ⟨by decide +kernel, rfl⟩
theorem dd_D_giveUp_1 : ev_d prog_10_method_24_code 1 (.getfield 38) 3 4 := ⟨by decide +kernel, rfl⟩
theorem dd_D_giveUp_4 : ev_d prog_10_method_24_code 4 (.bipush 12) 2 6 := ⟨by decide +kernel, rfl⟩
theorem dd_D_giveUp_6 : ev_d prog_10_method_24_code 6 (.iload_n 1) 1 7 := ⟨by decide +kernel, rfl⟩
theorem dd_D_giveUp_7 : ev_d prog_10_method_24_code 7 .iadd 1 8 := ⟨by decide +kernel, rfl⟩
theorem dd_D_giveUp_8 : ev_d prog_10_method_24_code 8 .iaload 1 9 := ⟨by decide +kernel, rfl⟩
theorem dd_D_giveUp_9 : ev_d prog_10_method_24_code 9 (.istore_n 2) 1 10 := ⟨by decide +kernel, rfl⟩
theorem dd_D_giveUp_10 : ev_d prog_10_method_24_code 10 (.iconst 0) 1 11 := ⟨by decide +kernel, rfl⟩
theorem dd_D_giveUp_11 : ev_d prog_10_method_24_code 11 (.istore_n 3) 1 12 := ⟨by decide +kernel, rfl⟩
theorem dd_D_giveUp_12 : ev_d prog_10_method_24_code 12 (.iload_n 3) 1 13 := ⟨by decide +kernel, rfl⟩
theorem dd_D_giveUp_13 : ev_d prog_10_method_24_code 13 (.iload_n 2) 1 14 := ⟨by decide +kernel, rfl⟩
theorem dd_D_giveUp_14 : ev_j prog_10_method_24_code 14 (fun o => .if_icmp .ge o) 17 90 := ⟨76, by decide +kernel, rfl, by decide⟩
theorem dd_D_giveUp_17 : ev_d prog_10_method_24_code 17 (.aload_n 0) 1 18 := ⟨by decide +kernel, rfl⟩
theorem dd_D_giveUp_18 : ev_d prog_10_method_24_code 18 (.bipush 12) 2 20 := ⟨by decide +kernel, rfl⟩
theorem dd_D_giveUp_20 : ev_d prog_10_method_24_code 20 (.iload_n 1) 1 21 := ⟨by decide +kernel, rfl⟩
theorem dd_D_giveUp_21 : ev_d prog_10_method_24_code 21 .iadd 1 22 := ⟨by decide +kernel, rfl⟩
theorem dd_D_giveUp_22 : ev_d prog_10_method_24_code 22 (.invokevirtual 163) 3 25 := ⟨by decide +kernel, rfl⟩
theorem dd_D_giveUp_25 : ev_d prog_10_method_24_code 25 (.istore 4) 2 27 := ⟨by decide +kernel, rfl⟩
theorem dd_D_giveUp_27 : ev_d prog_10_method_24_code 27 (.aload_n 0) 1 28 := ⟨by decide +kernel, rfl⟩
theorem dd_D_giveUp_28 : ev_d prog_10_method_24_code 28 (.getfield 22) 3 31 := ⟨by decide +kernel, rfl⟩
theorem dd_D_giveUp_31 : ev_d prog_10_method_24_code 31 (.iload 4) 2 33 := ⟨by decide +kernel, rfl⟩
theorem dd_D_giveUp_33 : ev_d prog_10_method_24_code 33 .iaload 1 34 := ⟨by decide +kernel, rfl⟩
theorem dd_D_giveUp_34 : ev_j prog_10_method_24_code 34 (fun o => .ifCond .ge o) 37 50 := ⟨16, by decide +kernel, rfl, by decide⟩
theorem dd_D_giveUp_37 : ev_d prog_10_method_24_code 37 (.aload_n 0) 1 38 := ⟨by decide +kernel, rfl⟩
theorem dd_D_giveUp_38 : ev_d prog_10_method_24_code 38 (.bipush 12) 2 40 := ⟨by decide +kernel, rfl⟩
theorem dd_D_giveUp_40 : ev_d prog_10_method_24_code 40 (.iload_n 1) 1 41 := ⟨by decide +kernel, rfl⟩
theorem dd_D_giveUp_41 : ev_d prog_10_method_24_code 41 .iadd 1 42 := ⟨by decide +kernel, rfl⟩
theorem dd_D_giveUp_42 : ev_d prog_10_method_24_code 42 (.iload 4) 2 44 := ⟨by decide +kernel, rfl⟩
theorem dd_D_giveUp_44 : ev_d prog_10_method_24_code 44 (.invokevirtual 191) 3 47 := ⟨by decide +kernel, rfl⟩
theorem dd_D_giveUp_47 : ev_j prog_10_method_24_code 47 (fun o => .goto o) 50 84 := ⟨37, by decide +kernel, rfl, by decide⟩
theorem dd_D_giveUp_50 : ev_d prog_10_method_24_code 50 (.aload_n 0) 1 51 := ⟨by decide +kernel, rfl⟩
theorem dd_D_giveUp_51 : ev_d prog_10_method_24_code 51 (.aload_n 0) 1 52 := ⟨by decide +kernel, rfl⟩
theorem dd_D_giveUp_52 : ev_d prog_10_method_24_code 52 (.getfield 7) 3 55 := ⟨by decide +kernel, rfl⟩
theorem dd_D_giveUp_55 : ev_d prog_10_method_24_code 55 (.iload 4) 2 57 := ⟨by decide +kernel, rfl⟩
theorem dd_D_giveUp_57 : ev_d prog_10_method_24_code 57 .iaload 1 58 := ⟨by decide +kernel, rfl⟩
theorem dd_D_giveUp_58 : ev_d prog_10_method_24_code 58 (.iconst 4) 1 59 := ⟨by decide +kernel, rfl⟩
theorem dd_D_giveUp_59 : ev_j prog_10_method_24_code 59 (fun o => .if_icmp .ge o) 62 71 := ⟨12, by decide +kernel, rfl, by decide⟩
theorem dd_D_giveUp_62 : ev_d prog_10_method_24_code 62 (.aload_n 0) 1 63 := ⟨by decide +kernel, rfl⟩
theorem dd_D_giveUp_63 : ev_d prog_10_method_24_code 63 (.getfield 200) 3 66 := ⟨by decide +kernel, rfl⟩
theorem dd_D_giveUp_66 : ev_d prog_10_method_24_code 66 (.iconst 1) 1 67 := ⟨by decide +kernel, rfl⟩
theorem dd_D_giveUp_67 : ev_d prog_10_method_24_code 67 .iadd 1 68 := ⟨by decide +kernel, rfl⟩
theorem dd_D_giveUp_68 : ev_j prog_10_method_24_code 68 (fun o => .goto o) 71 75 := ⟨7, by decide +kernel, rfl, by decide⟩
theorem dd_D_giveUp_71 : ev_d prog_10_method_24_code 71 (.aload_n 0) 1 72 := ⟨by decide +kernel, rfl⟩
theorem dd_D_giveUp_72 : ev_d prog_10_method_24_code 72 (.getfield 200) 3 75 := ⟨by decide +kernel, rfl⟩
theorem dd_D_giveUp_75 : ev_d prog_10_method_24_code 75 (.putfield 200) 3 78 := ⟨by decide +kernel, rfl⟩
theorem dd_D_giveUp_78 : ev_d prog_10_method_24_code 78 (.aload_n 0) 1 79 := ⟨by decide +kernel, rfl⟩
theorem dd_D_giveUp_79 : ev_d prog_10_method_24_code 79 (.iload 4) 2 81 := ⟨by decide +kernel, rfl⟩
theorem dd_D_giveUp_81 : ev_d prog_10_method_24_code 81 (.invokevirtual 167) 3 84 := ⟨by decide +kernel, rfl⟩
theorem dd_D_giveUp_84 : ev_d prog_10_method_24_code 84 (.iinc 3 1) 3 87 := ⟨by decide +kernel, rfl⟩
theorem dd_D_giveUp_87 : ev_j prog_10_method_24_code 87 (fun o => .goto o) 90 12 := ⟨(-75), by decide +kernel, rfl, by decide⟩
theorem dd_D_giveUp_90 : ev_d prog_10_method_24_code 90 (.aload_n 0) 1 91 := ⟨by decide +kernel, rfl⟩
theorem dd_D_giveUp_91 : ev_d prog_10_method_24_code 91 (.getfield 132) 3 94 := ⟨by decide +kernel, rfl⟩
theorem dd_D_giveUp_94 : ev_d prog_10_method_24_code 94 (.iload_n 1) 1 95 := ⟨by decide +kernel, rfl⟩
theorem dd_D_giveUp_95 : ev_d prog_10_method_24_code 95 (.iconst 2) 1 96 := ⟨by decide +kernel, rfl⟩
theorem dd_D_giveUp_96 : ev_d prog_10_method_24_code 96 .iastore 1 97 := ⟨by decide +kernel, rfl⟩
theorem dd_D_giveUp_97 : ev_d prog_10_method_24_code 97 .return_ 1 98 := ⟨by decide +kernel, rfl⟩
-- D_chosen
theorem dd_D_chosen_0 : ev_d prog_10_method_22_code 0 (.iconst (-1)) 1 1 := ⟨by decide +kernel, rfl⟩
theorem dd_D_chosen_1 : ev_d prog_10_method_22_code 1 (.istore_n 3) 1 2 := ⟨by decide +kernel, rfl⟩
theorem dd_D_chosen_2 : ev_d prog_10_method_22_code 2 (.iconst 2) 1 3 := ⟨by decide +kernel, rfl⟩
theorem dd_D_chosen_3 : ev_d prog_10_method_22_code 3 (.istore 4) 2 5 := ⟨by decide +kernel, rfl⟩
theorem dd_D_chosen_5 : ev_d prog_10_method_22_code 5 (.iload 4) 2 7 := ⟨by decide +kernel, rfl⟩
theorem dd_D_chosen_7 : ev_j prog_10_method_22_code 7 (fun o => .ifCond .lt o) 10 41 := ⟨34, by decide +kernel, rfl, by decide⟩
theorem dd_D_chosen_10 : ev_d prog_10_method_22_code 10 (.iload_n 2) 1 11 := ⟨by decide +kernel, rfl⟩
theorem dd_D_chosen_11 : ev_d prog_10_method_22_code 11 (.iload 4) 2 13 := ⟨by decide +kernel, rfl⟩
theorem dd_D_chosen_13 : ev_d prog_10_method_22_code 13 .iadd 1 14 := ⟨by decide +kernel, rfl⟩
theorem dd_D_chosen_14 : ev_d prog_10_method_22_code 14 (.iconst 3) 1 15 := ⟨by decide +kernel, rfl⟩
theorem dd_D_chosen_15 : ev_d prog_10_method_22_code 15 .irem 1 16 := ⟨by decide +kernel, rfl⟩
theorem dd_D_chosen_16 : ev_d prog_10_method_22_code 16 (.istore 5) 2 18 := ⟨by decide +kernel, rfl⟩
theorem dd_D_chosen_18 : ev_d prog_10_method_22_code 18 (.aload_n 0) 1 19 := ⟨by decide +kernel, rfl⟩
theorem dd_D_chosen_19 : ev_d prog_10_method_22_code 19 (.iload_n 1) 1 20 := ⟨by decide +kernel, rfl⟩
theorem dd_D_chosen_20 : ev_d prog_10_method_22_code 20 (.iload 5) 2 22 := ⟨by decide +kernel, rfl⟩
theorem dd_D_chosen_22 : ev_d prog_10_method_22_code 22 (.invokevirtual 194) 3 25 := ⟨by decide +kernel, rfl⟩
theorem dd_D_chosen_25 : ev_j prog_10_method_22_code 25 (fun o => .ifCond .eq o) 28 33 := ⟨8, by decide +kernel, rfl, by decide⟩
theorem dd_D_chosen_28 : ev_d prog_10_method_22_code 28 (.iload 5) 2 30 := ⟨by decide +kernel, rfl⟩
theorem dd_D_chosen_30 : ev_j prog_10_method_22_code 30 (fun o => .goto o) 33 34 := ⟨4, by decide +kernel, rfl, by decide⟩
theorem dd_D_chosen_33 : ev_d prog_10_method_22_code 33 (.iload_n 3) 1 34 := ⟨by decide +kernel, rfl⟩
theorem dd_D_chosen_34 : ev_d prog_10_method_22_code 34 (.istore_n 3) 1 35 := ⟨by decide +kernel, rfl⟩
theorem dd_D_chosen_35 : ev_d prog_10_method_22_code 35 (.iinc 4 (-1)) 3 38 := ⟨by decide +kernel, rfl⟩
theorem dd_D_chosen_38 : ev_j prog_10_method_22_code 38 (fun o => .goto o) 41 5 := ⟨(-33), by decide +kernel, rfl, by decide⟩
theorem dd_D_chosen_41 : ev_d prog_10_method_22_code 41 (.iload_n 3) 1 42 := ⟨by decide +kernel, rfl⟩
theorem dd_D_chosen_42 : ev_d prog_10_method_22_code 42 .ireturn 1 43 := ⟨by decide +kernel, rfl⟩
-- D_isOpen
theorem dd_D_isOpen_0 : ev_d prog_10_method_21_code 0 (.aload_n 0) 1 1 := ⟨by decide +kernel, rfl⟩
theorem dd_D_isOpen_1 : ev_d prog_10_method_21_code 1 (.getfield 41) 3 4 := ⟨by decide +kernel, rfl⟩
theorem dd_D_isOpen_4 : ev_d prog_10_method_21_code 4 (.iconst 2) 1 5 := ⟨by decide +kernel, rfl⟩
theorem dd_D_isOpen_5 : ev_d prog_10_method_21_code 5 (.iload_n 2) 1 6 := ⟨by decide +kernel, rfl⟩
theorem dd_D_isOpen_6 : ev_d prog_10_method_21_code 6 .imul 1 7 := ⟨by decide +kernel, rfl⟩
theorem dd_D_isOpen_7 : ev_d prog_10_method_21_code 7 (.iload_n 1) 1 8 := ⟨by decide +kernel, rfl⟩
theorem dd_D_isOpen_8 : ev_d prog_10_method_21_code 8 .iadd 1 9 := ⟨by decide +kernel, rfl⟩
theorem dd_D_isOpen_9 : ev_d prog_10_method_21_code 9 .iaload 1 10 := ⟨by decide +kernel, rfl⟩
theorem dd_D_isOpen_10 : ev_d prog_10_method_21_code 10 (.iconst 4) 1 11 := ⟨by decide +kernel, rfl⟩
theorem dd_D_isOpen_11 : ev_j prog_10_method_21_code 11 (fun o => .if_icmp .ne o) 14 31 := ⟨20, by decide +kernel, rfl, by decide⟩
theorem dd_D_isOpen_14 : ev_d prog_10_method_21_code 14 (.aload_n 0) 1 15 := ⟨by decide +kernel, rfl⟩
theorem dd_D_isOpen_15 : ev_d prog_10_method_21_code 15 (.getfield 132) 3 18 := ⟨by decide +kernel, rfl⟩
theorem dd_D_isOpen_18 : ev_d prog_10_method_21_code 18 (.iconst 2) 1 19 := ⟨by decide +kernel, rfl⟩
theorem dd_D_isOpen_19 : ev_d prog_10_method_21_code 19 (.iload_n 2) 1 20 := ⟨by decide +kernel, rfl⟩
theorem dd_D_isOpen_20 : ev_d prog_10_method_21_code 20 .imul 1 21 := ⟨by decide +kernel, rfl⟩
theorem dd_D_isOpen_21 : ev_d prog_10_method_21_code 21 (.iload_n 1) 1 22 := ⟨by decide +kernel, rfl⟩
theorem dd_D_isOpen_22 : ev_d prog_10_method_21_code 22 .iadd 1 23 := ⟨by decide +kernel, rfl⟩
theorem dd_D_isOpen_23 : ev_d prog_10_method_21_code 23 .iaload 1 24 := ⟨by decide +kernel, rfl⟩
theorem dd_D_isOpen_24 : ev_j prog_10_method_21_code 24 (fun o => .ifCond .ne o) 27 31 := ⟨7, by decide +kernel, rfl, by decide⟩
theorem dd_D_isOpen_27 : ev_d prog_10_method_21_code 27 (.iconst 1) 1 28 := ⟨by decide +kernel, rfl⟩
theorem dd_D_isOpen_28 : ev_j prog_10_method_21_code 28 (fun o => .goto o) 31 32 := ⟨4, by decide +kernel, rfl, by decide⟩
theorem dd_D_isOpen_31 : ev_d prog_10_method_21_code 31 (.iconst 0) 1 32 := ⟨by decide +kernel, rfl⟩
theorem dd_D_isOpen_32 : ev_d prog_10_method_21_code 32 .ireturn 1 33 := ⟨by decide +kernel, rfl⟩
-- D_end
theorem dd_D_end_0 : ev_d prog_10_method_25_code 0 (.iload_n 1) 1 1 := ⟨by decide +kernel, rfl⟩
theorem dd_D_end_1 : ev_d prog_10_method_25_code 1 (.iconst 2) 1 2 := ⟨by decide +kernel, rfl⟩
theorem dd_D_end_2 : ev_d prog_10_method_25_code 2 .irem 1 3 := ⟨by decide +kernel, rfl⟩
theorem dd_D_end_3 : ev_d prog_10_method_25_code 3 (.istore_n 2) 1 4 := ⟨by decide +kernel, rfl⟩
theorem dd_D_end_4 : ev_d prog_10_method_25_code 4 (.iload_n 1) 1 5 := ⟨by decide +kernel, rfl⟩
theorem dd_D_end_5 : ev_d prog_10_method_25_code 5 (.iconst 2) 1 6 := ⟨by decide +kernel, rfl⟩
theorem dd_D_end_6 : ev_d prog_10_method_25_code 6 .idiv 1 7 := ⟨by decide +kernel, rfl⟩
theorem dd_D_end_7 : ev_d prog_10_method_25_code 7 (.istore_n 3) 1 8 := ⟨by decide +kernel, rfl⟩
theorem dd_D_end_8 : ev_d prog_10_method_25_code 8 (.aload_n 0) 1 9 := ⟨by decide +kernel, rfl⟩
theorem dd_D_end_9 : ev_d prog_10_method_25_code 9 (.getfield 132) 3 12 := ⟨by decide +kernel, rfl⟩
theorem dd_D_end_12 : ev_d prog_10_method_25_code 12 (.iload_n 1) 1 13 := ⟨by decide +kernel, rfl⟩
theorem dd_D_end_13 : ev_d prog_10_method_25_code 13 (.iconst 0) 1 14 := ⟨by decide +kernel, rfl⟩
theorem dd_D_end_14 : ev_d prog_10_method_25_code 14 .iastore 1 15 := ⟨by decide +kernel, rfl⟩
theorem dd_D_end_15 : ev_d prog_10_method_25_code 15 (.iconst 0) 1 16 := ⟨by decide +kernel, rfl⟩
theorem dd_D_end_16 : ev_d prog_10_method_25_code 16 (.istore 4) 2 18 := ⟨by decide +kernel, rfl⟩
theorem dd_D_end_18 : ev_d prog_10_method_25_code 18 (.iconst 0) 1 19 := ⟨by decide +kernel, rfl⟩
theorem dd_D_end_19 : ev_d prog_10_method_25_code 19 (.istore 5) 2 21 := ⟨by decide +kernel, rfl⟩
theorem dd_D_end_21 : ev_d prog_10_method_25_code 21 (.iload 5) 2 23 := ⟨by decide +kernel, rfl⟩
theorem dd_D_end_23 : ev_d prog_10_method_25_code 23 (.iconst 4) 1 24 := ⟨by decide +kernel, rfl⟩
theorem dd_D_end_24 : ev_j prog_10_method_25_code 24 (fun o => .if_icmp .ge o) 27 62 := ⟨38, by decide +kernel, rfl, by decide⟩
theorem dd_D_end_27 : ev_d prog_10_method_25_code 27 (.aload_n 0) 1 28 := ⟨by decide +kernel, rfl⟩
theorem dd_D_end_28 : ev_d prog_10_method_25_code 28 (.getfield 150) 3 31 := ⟨by decide +kernel, rfl⟩
theorem dd_D_end_31 : ev_d prog_10_method_25_code 31 (.iconst 4) 1 32 := ⟨by decide +kernel, rfl⟩
theorem dd_D_end_32 : ev_d prog_10_method_25_code 32 (.iload_n 2) 1 33 := ⟨by decide +kernel, rfl⟩
theorem dd_D_end_33 : ev_d prog_10_method_25_code 33 .imul 1 34 := ⟨by decide +kernel, rfl⟩
theorem dd_D_end_34 : ev_d prog_10_method_25_code 34 (.iload 5) 2 36 := ⟨by decide +kernel, rfl⟩
theorem dd_D_end_36 : ev_d prog_10_method_25_code 36 .iadd 1 37 := ⟨by decide +kernel, rfl⟩
theorem dd_D_end_37 : ev_d prog_10_method_25_code 37 .iaload 1 38 := ⟨by decide +kernel, rfl⟩
theorem dd_D_end_38 : ev_d prog_10_method_25_code 38 (.iload_n 3) 1 39 := ⟨by decide +kernel, rfl⟩
theorem dd_D_end_39 : ev_j prog_10_method_25_code 39 (fun o => .if_icmp .ne o) 42 52 := ⟨13, by decide +kernel, rfl, by decide⟩
theorem dd_D_end_42 : ev_d prog_10_method_25_code 42 (.iload 4) 2 44 := ⟨by decide +kernel, rfl⟩
theorem dd_D_end_44 : ev_d prog_10_method_25_code 44 (.iconst 1) 1 45 := ⟨by decide +kernel, rfl⟩
theorem dd_D_end_45 : ev_d prog_10_method_25_code 45 (.iload 5) 2 47 := ⟨by decide +kernel, rfl⟩
theorem dd_D_end_47 : ev_d prog_10_method_25_code 47 .ishl 1 48 := ⟨by decide +kernel, rfl⟩
theorem dd_D_end_48 : ev_d prog_10_method_25_code 48 .ior 1 49 := ⟨by decide +kernel, rfl⟩
theorem dd_D_end_49 : ev_j prog_10_method_25_code 49 (fun o => .goto o) 52 54 := ⟨5, by decide +kernel, rfl, by decide⟩
theorem dd_D_end_52 : ev_d prog_10_method_25_code 52 (.iload 4) 2 54 := ⟨by decide +kernel, rfl⟩
theorem dd_D_end_54 : ev_d prog_10_method_25_code 54 (.istore 4) 2 56 := ⟨by decide +kernel, rfl⟩
theorem dd_D_end_56 : ev_d prog_10_method_25_code 56 (.iinc 5 1) 3 59 := ⟨by decide +kernel, rfl⟩
theorem dd_D_end_59 : ev_j prog_10_method_25_code 59 (fun o => .goto o) 62 21 := ⟨(-38), by decide +kernel, rfl, by decide⟩
theorem dd_D_end_62 : ev_d prog_10_method_25_code 62 (.aload_n 0) 1 63 := ⟨by decide +kernel, rfl⟩
theorem dd_D_end_63 : ev_d prog_10_method_25_code 63 (.getfield 38) 3 66 := ⟨by decide +kernel, rfl⟩
theorem dd_D_end_66 : ev_d prog_10_method_25_code 66 (.bipush 12) 2 68 := ⟨by decide +kernel, rfl⟩
theorem dd_D_end_68 : ev_d prog_10_method_25_code 68 (.iload_n 1) 1 69 := ⟨by decide +kernel, rfl⟩
theorem dd_D_end_69 : ev_d prog_10_method_25_code 69 .iadd 1 70 := ⟨by decide +kernel, rfl⟩
theorem dd_D_end_70 : ev_d prog_10_method_25_code 70 .iaload 1 71 := ⟨by decide +kernel, rfl⟩
theorem dd_D_end_71 : ev_j prog_10_method_25_code 71 (fun o => .ifCond .le o) 74 165 := ⟨94, by decide +kernel, rfl, by decide⟩
theorem dd_D_end_74 : ev_d prog_10_method_25_code 74 (.aload_n 0) 1 75 := ⟨by decide +kernel, rfl⟩
theorem dd_D_end_75 : ev_d prog_10_method_25_code 75 (.bipush 12) 2 77 := ⟨by decide +kernel, rfl⟩
theorem dd_D_end_77 : ev_d prog_10_method_25_code 77 (.iload_n 1) 1 78 := ⟨by decide +kernel, rfl⟩
theorem dd_D_end_78 : ev_d prog_10_method_25_code 78 .iadd 1 79 := ⟨by decide +kernel, rfl⟩
theorem dd_D_end_79 : ev_d prog_10_method_25_code 79 (.invokevirtual 163) 3 82 := ⟨by decide +kernel, rfl⟩
theorem dd_D_end_82 : ev_d prog_10_method_25_code 82 (.istore 5) 2 84 := ⟨by decide +kernel, rfl⟩
theorem dd_D_end_84 : ev_d prog_10_method_25_code 84 (.aload_n 0) 1 85 := ⟨by decide +kernel, rfl⟩
theorem dd_D_end_85 : ev_d prog_10_method_25_code 85 (.getfield 7) 3 88 := ⟨by decide +kernel, rfl⟩
theorem dd_D_end_88 : ev_d prog_10_method_25_code 88 (.iload 5) 2 90 := ⟨by decide +kernel, rfl⟩
theorem dd_D_end_90 : ev_d prog_10_method_25_code 90 .iaload 1 91 := ⟨by decide +kernel, rfl⟩
theorem dd_D_end_91 : ev_d prog_10_method_25_code 91 (.iconst 4) 1 92 := ⟨by decide +kernel, rfl⟩
theorem dd_D_end_92 : ev_j prog_10_method_25_code 92 (fun o => .if_icmp .lt o) 95 105 := ⟨13, by decide +kernel, rfl, by decide⟩
theorem dd_D_end_95 : ev_d prog_10_method_25_code 95 (.aload_n 0) 1 96 := ⟨by decide +kernel, rfl⟩
theorem dd_D_end_96 : ev_d prog_10_method_25_code 96 (.iload_n 2) 1 97 := ⟨by decide +kernel, rfl⟩
theorem dd_D_end_97 : ev_d prog_10_method_25_code 97 (.iload 5) 2 99 := ⟨by decide +kernel, rfl⟩
theorem dd_D_end_99 : ev_d prog_10_method_25_code 99 (.invokevirtual 203) 3 102 := ⟨by decide +kernel, rfl⟩
theorem dd_D_end_102 : ev_j prog_10_method_25_code 102 (fun o => .goto o) 105 162 := ⟨60, by decide +kernel, rfl, by decide⟩
theorem dd_D_end_105 : ev_d prog_10_method_25_code 105 (.aload_n 0) 1 106 := ⟨by decide +kernel, rfl⟩
theorem dd_D_end_106 : ev_d prog_10_method_25_code 106 (.getfield 150) 3 109 := ⟨by decide +kernel, rfl⟩
theorem dd_D_end_109 : ev_d prog_10_method_25_code 109 (.iconst 4) 1 110 := ⟨by decide +kernel, rfl⟩
theorem dd_D_end_110 : ev_d prog_10_method_25_code 110 (.iload_n 2) 1 111 := ⟨by decide +kernel, rfl⟩
theorem dd_D_end_111 : ev_d prog_10_method_25_code 111 .imul 1 112 := ⟨by decide +kernel, rfl⟩
theorem dd_D_end_112 : ev_d prog_10_method_25_code 112 (.aload_n 0) 1 113 := ⟨by decide +kernel, rfl⟩
theorem dd_D_end_113 : ev_d prog_10_method_25_code 113 (.getfield 7) 3 116 := ⟨by decide +kernel, rfl⟩
theorem dd_D_end_116 : ev_d prog_10_method_25_code 116 (.iload 5) 2 118 := ⟨by decide +kernel, rfl⟩
theorem dd_D_end_118 : ev_d prog_10_method_25_code 118 .iaload 1 119 := ⟨by decide +kernel, rfl⟩
theorem dd_D_end_119 : ev_d prog_10_method_25_code 119 .iadd 1 120 := ⟨by decide +kernel, rfl⟩
theorem dd_D_end_120 : ev_d prog_10_method_25_code 120 (.aload_n 0) 1 121 := ⟨by decide +kernel, rfl⟩
theorem dd_D_end_121 : ev_d prog_10_method_25_code 121 (.iload_n 2) 1 122 := ⟨by decide +kernel, rfl⟩
theorem dd_D_end_122 : ev_d prog_10_method_25_code 122 (.aload_n 0) 1 123 := ⟨by decide +kernel, rfl⟩
theorem dd_D_end_123 : ev_d prog_10_method_25_code 123 (.getfield 7) 3 126 := ⟨by decide +kernel, rfl⟩
theorem dd_D_end_126 : ev_d prog_10_method_25_code 126 (.iload 5) 2 128 := ⟨by decide +kernel, rfl⟩
theorem dd_D_end_128 : ev_d prog_10_method_25_code 128 .iaload 1 129 := ⟨by decide +kernel, rfl⟩
theorem dd_D_end_129 : ev_d prog_10_method_25_code 129 (.invokevirtual 206) 3 132 := ⟨by decide +kernel, rfl⟩
theorem dd_D_end_132 : ev_d prog_10_method_25_code 132 .iastore 1 133 := ⟨by decide +kernel, rfl⟩
theorem dd_D_end_133 : ev_d prog_10_method_25_code 133 (.aload_n 0) 1 134 := ⟨by decide +kernel, rfl⟩
theorem dd_D_end_134 : ev_d prog_10_method_25_code 134 (.bipush 6) 2 136 := ⟨by decide +kernel, rfl⟩
theorem dd_D_end_136 : ev_d prog_10_method_25_code 136 (.iconst 2) 1 137 := ⟨by decide +kernel, rfl⟩
theorem dd_D_end_137 : ev_d prog_10_method_25_code 137 (.aload_n 0) 1 138 := ⟨by decide +kernel, rfl⟩
theorem dd_D_end_138 : ev_d prog_10_method_25_code 138 (.getfield 150) 3 141 := ⟨by decide +kernel, rfl⟩
theorem dd_D_end_141 : ev_d prog_10_method_25_code 141 (.iconst 4) 1 142 := ⟨by decide +kernel, rfl⟩
theorem dd_D_end_142 : ev_d prog_10_method_25_code 142 (.iload_n 2) 1 143 := ⟨by decide +kernel, rfl⟩
theorem dd_D_end_143 : ev_d prog_10_method_25_code 143 .imul 1 144 := ⟨by decide +kernel, rfl⟩
theorem dd_D_end_144 : ev_d prog_10_method_25_code 144 (.aload_n 0) 1 145 := ⟨by decide +kernel, rfl⟩
theorem dd_D_end_145 : ev_d prog_10_method_25_code 145 (.getfield 7) 3 148 := ⟨by decide +kernel, rfl⟩
theorem dd_D_end_148 : ev_d prog_10_method_25_code 148 (.iload 5) 2 150 := ⟨by decide +kernel, rfl⟩
theorem dd_D_end_150 : ev_d prog_10_method_25_code 150 .iaload 1 151 := ⟨by decide +kernel, rfl⟩
theorem dd_D_end_151 : ev_d prog_10_method_25_code 151 .iadd 1 152 := ⟨by decide +kernel, rfl⟩
theorem dd_D_end_152 : ev_d prog_10_method_25_code 152 .iaload 1 153 := ⟨by decide +kernel, rfl⟩
theorem dd_D_end_153 : ev_d prog_10_method_25_code 153 .imul 1 154 := ⟨by decide +kernel, rfl⟩
theorem dd_D_end_154 : ev_d prog_10_method_25_code 154 .iadd 1 155 := ⟨by decide +kernel, rfl⟩
theorem dd_D_end_155 : ev_d prog_10_method_25_code 155 (.iload_n 2) 1 156 := ⟨by decide +kernel, rfl⟩
theorem dd_D_end_156 : ev_d prog_10_method_25_code 156 .iadd 1 157 := ⟨by decide +kernel, rfl⟩
theorem dd_D_end_157 : ev_d prog_10_method_25_code 157 (.iload 5) 2 159 := ⟨by decide +kernel, rfl⟩
theorem dd_D_end_159 : ev_d prog_10_method_25_code 159 (.invokevirtual 191) 3 162 := ⟨by decide +kernel, rfl⟩
theorem dd_D_end_162 : ev_j prog_10_method_25_code 162 (fun o => .goto o) 165 62 := ⟨(-100), by decide +kernel, rfl, by decide⟩
theorem dd_D_end_165 : ev_d prog_10_method_25_code 165 (.iconst 0) 1 166 := ⟨by decide +kernel, rfl⟩
theorem dd_D_end_166 : ev_d prog_10_method_25_code 166 (.istore 5) 2 168 := ⟨by decide +kernel, rfl⟩
theorem dd_D_end_168 : ev_d prog_10_method_25_code 168 (.iload 5) 2 170 := ⟨by decide +kernel, rfl⟩
theorem dd_D_end_170 : ev_d prog_10_method_25_code 170 (.iconst 4) 1 171 := ⟨by decide +kernel, rfl⟩
theorem dd_D_end_171 : ev_j prog_10_method_25_code 171 (fun o => .if_icmp .ge o) 174 213 := ⟨42, by decide +kernel, rfl, by decide⟩
theorem dd_D_end_174 : ev_d prog_10_method_25_code 174 (.aload_n 0) 1 175 := ⟨by decide +kernel, rfl⟩
theorem dd_D_end_175 : ev_d prog_10_method_25_code 175 (.getfield 150) 3 178 := ⟨by decide +kernel, rfl⟩
theorem dd_D_end_178 : ev_d prog_10_method_25_code 178 (.iconst 4) 1 179 := ⟨by decide +kernel, rfl⟩
theorem dd_D_end_179 : ev_d prog_10_method_25_code 179 (.iload_n 2) 1 180 := ⟨by decide +kernel, rfl⟩
theorem dd_D_end_180 : ev_d prog_10_method_25_code 180 .imul 1 181 := ⟨by decide +kernel, rfl⟩
theorem dd_D_end_181 : ev_d prog_10_method_25_code 181 (.iload 5) 2 183 := ⟨by decide +kernel, rfl⟩
theorem dd_D_end_183 : ev_d prog_10_method_25_code 183 .iadd 1 184 := ⟨by decide +kernel, rfl⟩
theorem dd_D_end_184 : ev_d prog_10_method_25_code 184 .iaload 1 185 := ⟨by decide +kernel, rfl⟩
theorem dd_D_end_185 : ev_d prog_10_method_25_code 185 (.iload_n 3) 1 186 := ⟨by decide +kernel, rfl⟩
theorem dd_D_end_186 : ev_j prog_10_method_25_code 186 (fun o => .if_icmp .ne o) 189 207 := ⟨21, by decide +kernel, rfl, by decide⟩
theorem dd_D_end_189 : ev_d prog_10_method_25_code 189 (.aload_n 0) 1 190 := ⟨by decide +kernel, rfl⟩
theorem dd_D_end_190 : ev_d prog_10_method_25_code 190 (.getfield 150) 3 193 := ⟨by decide +kernel, rfl⟩
theorem dd_D_end_193 : ev_d prog_10_method_25_code 193 (.iconst 4) 1 194 := ⟨by decide +kernel, rfl⟩
theorem dd_D_end_194 : ev_d prog_10_method_25_code 194 (.iload_n 2) 1 195 := ⟨by decide +kernel, rfl⟩
theorem dd_D_end_195 : ev_d prog_10_method_25_code 195 .imul 1 196 := ⟨by decide +kernel, rfl⟩
theorem dd_D_end_196 : ev_d prog_10_method_25_code 196 (.iload 5) 2 198 := ⟨by decide +kernel, rfl⟩
theorem dd_D_end_198 : ev_d prog_10_method_25_code 198 .iadd 1 199 := ⟨by decide +kernel, rfl⟩
theorem dd_D_end_199 : ev_d prog_10_method_25_code 199 (.aload_n 0) 1 200 := ⟨by decide +kernel, rfl⟩
theorem dd_D_end_200 : ev_d prog_10_method_25_code 200 (.iload_n 2) 1 201 := ⟨by decide +kernel, rfl⟩
theorem dd_D_end_201 : ev_d prog_10_method_25_code 201 (.iload 5) 2 203 := ⟨by decide +kernel, rfl⟩
theorem dd_D_end_203 : ev_d prog_10_method_25_code 203 (.invokevirtual 206) 3 206 := ⟨by decide +kernel, rfl⟩
theorem dd_D_end_206 : ev_d prog_10_method_25_code 206 .iastore 1 207 := ⟨by decide +kernel, rfl⟩
theorem dd_D_end_207 : ev_d prog_10_method_25_code 207 (.iinc 5 1) 3 210 := ⟨by decide +kernel, rfl⟩
theorem dd_D_end_210 : ev_j prog_10_method_25_code 210 (fun o => .goto o) 213 168 := ⟨(-42), by decide +kernel, rfl, by decide⟩
theorem dd_D_end_213 : ev_d prog_10_method_25_code 213 (.aload_n 0) 1 214 := ⟨by decide +kernel, rfl⟩
theorem dd_D_end_214 : ev_d prog_10_method_25_code 214 (.getfield 38) 3 217 := ⟨by decide +kernel, rfl⟩
theorem dd_D_end_217 : ev_d prog_10_method_25_code 217 (.bipush 18) 2 219 := ⟨by decide +kernel, rfl⟩
theorem dd_D_end_219 : ev_d prog_10_method_25_code 219 (.iload_n 2) 1 220 := ⟨by decide +kernel, rfl⟩
theorem dd_D_end_220 : ev_d prog_10_method_25_code 220 .iadd 1 221 := ⟨by decide +kernel, rfl⟩
theorem dd_D_end_221 : ev_d prog_10_method_25_code 221 .iaload 1 222 := ⟨by decide +kernel, rfl⟩
theorem dd_D_end_222 : ev_d prog_10_method_25_code 222 (.istore 5) 2 224 := ⟨by decide +kernel, rfl⟩
theorem dd_D_end_224 : ev_d prog_10_method_25_code 224 (.iconst 0) 1 225 := ⟨by decide +kernel, rfl⟩
theorem dd_D_end_225 : ev_d prog_10_method_25_code 225 (.istore 6) 2 227 := ⟨by decide +kernel, rfl⟩
theorem dd_D_end_227 : ev_d prog_10_method_25_code 227 (.iload 6) 2 229 := ⟨by decide +kernel, rfl⟩
theorem dd_D_end_229 : ev_d prog_10_method_25_code 229 (.iload 5) 2 231 := ⟨by decide +kernel, rfl⟩
theorem dd_D_end_231 : ev_j prog_10_method_25_code 231 (fun o => .if_icmp .ge o) 234 314 := ⟨83, by decide +kernel, rfl, by decide⟩
theorem dd_D_end_234 : ev_d prog_10_method_25_code 234 (.aload_n 0) 1 235 := ⟨by decide +kernel, rfl⟩
theorem dd_D_end_235 : ev_d prog_10_method_25_code 235 (.bipush 18) 2 237 := ⟨by decide +kernel, rfl⟩
theorem dd_D_end_237 : ev_d prog_10_method_25_code 237 (.iload_n 2) 1 238 := ⟨by decide +kernel, rfl⟩
theorem dd_D_end_238 : ev_d prog_10_method_25_code 238 .iadd 1 239 := ⟨by decide +kernel, rfl⟩
theorem dd_D_end_239 : ev_d prog_10_method_25_code 239 (.invokevirtual 163) 3 242 := ⟨by decide +kernel, rfl⟩
theorem dd_D_end_242 : ev_d prog_10_method_25_code 242 (.istore 7) 2 244 := ⟨by decide +kernel, rfl⟩
theorem dd_D_end_244 : ev_d prog_10_method_25_code 244 (.iload 4) 2 246 := ⟨by decide +kernel, rfl⟩
theorem dd_D_end_246 : ev_d prog_10_method_25_code 246 (.aload_n 0) 1 247 := ⟨by decide +kernel, rfl⟩
theorem dd_D_end_247 : ev_d prog_10_method_25_code 247 (.getfield 7) 3 250 := ⟨by decide +kernel, rfl⟩
theorem dd_D_end_250 : ev_d prog_10_method_25_code 250 (.iload 7) 2 252 := ⟨by decide +kernel, rfl⟩
theorem dd_D_end_252 : ev_d prog_10_method_25_code 252 .iaload 1 253 := ⟨by decide +kernel, rfl⟩
theorem dd_D_end_253 : ev_d prog_10_method_25_code 253 .ishr 1 254 := ⟨by decide +kernel, rfl⟩
theorem dd_D_end_254 : ev_d prog_10_method_25_code 254 (.iconst 1) 1 255 := ⟨by decide +kernel, rfl⟩
theorem dd_D_end_255 : ev_d prog_10_method_25_code 255 .iand 1 256 := ⟨by decide +kernel, rfl⟩
theorem dd_D_end_256 : ev_d prog_10_method_25_code 256 (.iconst 1) 1 257 := ⟨by decide +kernel, rfl⟩
theorem dd_D_end_257 : ev_j prog_10_method_25_code 257 (fun o => .if_icmp .ne o) 260 264 := ⟨7, by decide +kernel, rfl, by decide⟩
theorem dd_D_end_260 : ev_d prog_10_method_25_code 260 (.iconst 1) 1 261 := ⟨by decide +kernel, rfl⟩
theorem dd_D_end_261 : ev_j prog_10_method_25_code 261 (fun o => .goto o) 264 265 := ⟨4, by decide +kernel, rfl, by decide⟩
theorem dd_D_end_264 : ev_d prog_10_method_25_code 264 (.iconst 0) 1 265 := ⟨by decide +kernel, rfl⟩
theorem dd_D_end_265 : ev_d prog_10_method_25_code 265 (.istore 8) 2 267 := ⟨by decide +kernel, rfl⟩
theorem dd_D_end_267 : ev_d prog_10_method_25_code 267 (.aload_n 0) 1 268 := ⟨by decide +kernel, rfl⟩
theorem dd_D_end_268 : ev_d prog_10_method_25_code 268 (.iload 8) 2 270 := ⟨by decide +kernel, rfl⟩
theorem dd_D_end_270 : ev_j prog_10_method_25_code 270 (fun o => .ifCond .eq o) 273 299 := ⟨29, by decide +kernel, rfl, by decide⟩
theorem dd_D_end_273 : ev_d prog_10_method_25_code 273 (.bipush 6) 2 275 := ⟨by decide +kernel, rfl⟩
theorem dd_D_end_275 : ev_d prog_10_method_25_code 275 (.iconst 2) 1 276 := ⟨by decide +kernel, rfl⟩
theorem dd_D_end_276 : ev_d prog_10_method_25_code 276 (.aload_n 0) 1 277 := ⟨by decide +kernel, rfl⟩
theorem dd_D_end_277 : ev_d prog_10_method_25_code 277 (.getfield 150) 3 280 := ⟨by decide +kernel, rfl⟩
theorem dd_D_end_280 : ev_d prog_10_method_25_code 280 (.iconst 4) 1 281 := ⟨by decide +kernel, rfl⟩
theorem dd_D_end_281 : ev_d prog_10_method_25_code 281 (.iload_n 2) 1 282 := ⟨by decide +kernel, rfl⟩
theorem dd_D_end_282 : ev_d prog_10_method_25_code 282 .imul 1 283 := ⟨by decide +kernel, rfl⟩
theorem dd_D_end_283 : ev_d prog_10_method_25_code 283 (.aload_n 0) 1 284 := ⟨by decide +kernel, rfl⟩
theorem dd_D_end_284 : ev_d prog_10_method_25_code 284 (.getfield 7) 3 287 := ⟨by decide +kernel, rfl⟩
theorem dd_D_end_287 : ev_d prog_10_method_25_code 287 (.iload 7) 2 289 := ⟨by decide +kernel, rfl⟩
theorem dd_D_end_289 : ev_d prog_10_method_25_code 289 .iaload 1 290 := ⟨by decide +kernel, rfl⟩
theorem dd_D_end_290 : ev_d prog_10_method_25_code 290 .iadd 1 291 := ⟨by decide +kernel, rfl⟩
theorem dd_D_end_291 : ev_d prog_10_method_25_code 291 .iaload 1 292 := ⟨by decide +kernel, rfl⟩
theorem dd_D_end_292 : ev_d prog_10_method_25_code 292 .imul 1 293 := ⟨by decide +kernel, rfl⟩
theorem dd_D_end_293 : ev_d prog_10_method_25_code 293 .iadd 1 294 := ⟨by decide +kernel, rfl⟩
theorem dd_D_end_294 : ev_d prog_10_method_25_code 294 (.iload_n 2) 1 295 := ⟨by decide +kernel, rfl⟩
theorem dd_D_end_295 : ev_d prog_10_method_25_code 295 .iadd 1 296 := ⟨by decide +kernel, rfl⟩
theorem dd_D_end_296 : ev_j prog_10_method_25_code 296 (fun o => .goto o) 299 303 := ⟨7, by decide +kernel, rfl, by decide⟩
theorem dd_D_end_299 : ev_d prog_10_method_25_code 299 (.bipush 18) 2 301 := ⟨by decide +kernel, rfl⟩
theorem dd_D_end_301 : ev_d prog_10_method_25_code 301 (.iload_n 2) 1 302 := ⟨by decide +kernel, rfl⟩
theorem dd_D_end_302 : ev_d prog_10_method_25_code 302 .iadd 1 303 := ⟨by decide +kernel, rfl⟩
theorem dd_D_end_303 : ev_d prog_10_method_25_code 303 (.iload 7) 2 305 := ⟨by decide +kernel, rfl⟩
theorem dd_D_end_305 : ev_d prog_10_method_25_code 305 (.invokevirtual 191) 3 308 := ⟨by decide +kernel, rfl⟩
theorem dd_D_end_308 : ev_d prog_10_method_25_code 308 (.iinc 6 1) 3 311 := ⟨by decide +kernel, rfl⟩
theorem dd_D_end_311 : ev_j prog_10_method_25_code 311 (fun o => .goto o) 314 227 := ⟨(-84), by decide +kernel, rfl, by decide⟩
theorem dd_D_end_314 : ev_d prog_10_method_25_code 314 .return_ 1 315 := ⟨by decide +kernel, rfl⟩
-- D_send
theorem dd_D_send_0 : ev_d prog_10_method_35_code 0 (.aload_n 0) 1 1 := ⟨by decide +kernel, rfl⟩
theorem dd_D_send_1 : ev_d prog_10_method_35_code 1 (.getfield 41) 3 4 := ⟨by decide +kernel, rfl⟩
theorem dd_D_send_4 : ev_d prog_10_method_35_code 4 (.iload_n 1) 1 5 := ⟨by decide +kernel, rfl⟩
theorem dd_D_send_5 : ev_d prog_10_method_35_code 5 .iaload 1 6 := ⟨by decide +kernel, rfl⟩
theorem dd_D_send_6 : ev_d prog_10_method_35_code 6 (.istore_n 2) 1 7 := ⟨by decide +kernel, rfl⟩
theorem dd_D_send_7 : ev_d prog_10_method_35_code 7 (.aload_n 0) 1 8 := ⟨by decide +kernel, rfl⟩
theorem dd_D_send_8 : ev_d prog_10_method_35_code 8 (.getfield 102) 3 11 := ⟨by decide +kernel, rfl⟩
theorem dd_D_send_11 : ev_d prog_10_method_35_code 11 (.iload_n 1) 1 12 := ⟨by decide +kernel, rfl⟩
theorem dd_D_send_12 : ev_d prog_10_method_35_code 12 (.iload_n 2) 1 13 := ⟨by decide +kernel, rfl⟩
theorem dd_D_send_13 : ev_j prog_10_method_35_code 13 (fun o => .ifCond .ne o) 16 33 := ⟨20, by decide +kernel, rfl, by decide⟩
theorem dd_D_send_16 : ev_d prog_10_method_35_code 16 (.aload_n 0) 1 17 := ⟨by decide +kernel, rfl⟩
theorem dd_D_send_17 : ev_d prog_10_method_35_code 17 (.getfield 53) 3 20 := ⟨by decide +kernel, rfl⟩
theorem dd_D_send_20 : ev_d prog_10_method_35_code 20 (.iload_n 1) 1 21 := ⟨by decide +kernel, rfl⟩
theorem dd_D_send_21 : ev_d prog_10_method_35_code 21 .baload 1 22 := ⟨by decide +kernel, rfl⟩
theorem dd_D_send_22 : ev_j prog_10_method_35_code 22 (fun o => .ifCond .eq o) 25 29 := ⟨7, by decide +kernel, rfl, by decide⟩
theorem dd_D_send_25 : ev_d prog_10_method_35_code 25 (.iconst 3) 1 26 := ⟨by decide +kernel, rfl⟩
theorem dd_D_send_26 : ev_j prog_10_method_35_code 26 (fun o => .goto o) 29 52 := ⟨26, by decide +kernel, rfl, by decide⟩
theorem dd_D_send_29 : ev_d prog_10_method_35_code 29 (.iconst 0) 1 30 := ⟨by decide +kernel, rfl⟩
theorem dd_D_send_30 : ev_j prog_10_method_35_code 30 (fun o => .goto o) 33 52 := ⟨22, by decide +kernel, rfl, by decide⟩
theorem dd_D_send_33 : ev_d prog_10_method_35_code 33 (.iload_n 2) 1 34 := ⟨by decide +kernel, rfl⟩
theorem dd_D_send_34 : ev_d prog_10_method_35_code 34 (.iconst 1) 1 35 := ⟨by decide +kernel, rfl⟩
theorem dd_D_send_35 : ev_j prog_10_method_35_code 35 (fun o => .if_icmp .ne o) 38 42 := ⟨7, by decide +kernel, rfl, by decide⟩
theorem dd_D_send_38 : ev_d prog_10_method_35_code 38 (.iconst 1) 1 39 := ⟨by decide +kernel, rfl⟩
theorem dd_D_send_39 : ev_j prog_10_method_35_code 39 (fun o => .goto o) 42 52 := ⟨13, by decide +kernel, rfl, by decide⟩
theorem dd_D_send_42 : ev_d prog_10_method_35_code 42 (.iload_n 2) 1 43 := ⟨by decide +kernel, rfl⟩
theorem dd_D_send_43 : ev_d prog_10_method_35_code 43 (.iconst 2) 1 44 := ⟨by decide +kernel, rfl⟩
theorem dd_D_send_44 : ev_j prog_10_method_35_code 44 (fun o => .if_icmp .ne o) 47 51 := ⟨7, by decide +kernel, rfl, by decide⟩
theorem dd_D_send_47 : ev_d prog_10_method_35_code 47 (.iconst 2) 1 48 := ⟨by decide +kernel, rfl⟩
theorem dd_D_send_48 : ev_j prog_10_method_35_code 48 (fun o => .goto o) 51 52 := ⟨4, by decide +kernel, rfl, by decide⟩
theorem dd_D_send_51 : ev_d prog_10_method_35_code 51 (.iconst 4) 1 52 := ⟨by decide +kernel, rfl⟩
theorem dd_D_send_52 : ev_d prog_10_method_35_code 52 .iastore 1 53 := ⟨by decide +kernel, rfl⟩
theorem dd_D_send_53 : ev_d prog_10_method_35_code 53 (.aload_n 0) 1 54 := ⟨by decide +kernel, rfl⟩
theorem dd_D_send_54 : ev_d prog_10_method_35_code 54 (.getfield 53) 3 57 := ⟨by decide +kernel, rfl⟩
theorem dd_D_send_57 : ev_d prog_10_method_35_code 57 (.iload_n 1) 1 58 := ⟨by decide +kernel, rfl⟩
theorem dd_D_send_58 : ev_d prog_10_method_35_code 58 (.iconst 0) 1 59 := ⟨by decide +kernel, rfl⟩
theorem dd_D_send_59 : ev_d prog_10_method_35_code 59 .bastore 1 60 := ⟨by decide +kernel, rfl⟩
theorem dd_D_send_60 : ev_d prog_10_method_35_code 60 (.aload_n 0) 1 61 := ⟨by decide +kernel, rfl⟩
theorem dd_D_send_61 : ev_d prog_10_method_35_code 61 (.getfield 105) 3 64 := ⟨by decide +kernel, rfl⟩
theorem dd_D_send_64 : ev_d prog_10_method_35_code 64 (.iload_n 1) 1 65 := ⟨by decide +kernel, rfl⟩
theorem dd_D_send_65 : ev_d prog_10_method_35_code 65 (.aload_n 0) 1 66 := ⟨by decide +kernel, rfl⟩
theorem dd_D_send_66 : ev_d prog_10_method_35_code 66 (.getfield 47) 3 69 := ⟨by decide +kernel, rfl⟩
theorem dd_D_send_69 : ev_d prog_10_method_35_code 69 (.iload_n 1) 1 70 := ⟨by decide +kernel, rfl⟩
theorem dd_D_send_70 : ev_d prog_10_method_35_code 70 .iaload 1 71 := ⟨by decide +kernel, rfl⟩
theorem dd_D_send_71 : ev_d prog_10_method_35_code 71 .iastore 1 72 := ⟨by decide +kernel, rfl⟩
theorem dd_D_send_72 : ev_d prog_10_method_35_code 72 (.aload_n 0) 1 73 := ⟨by decide +kernel, rfl⟩
theorem dd_D_send_73 : ev_d prog_10_method_35_code 73 (.getfield 108) 3 76 := ⟨by decide +kernel, rfl⟩
theorem dd_D_send_76 : ev_d prog_10_method_35_code 76 (.iload_n 1) 1 77 := ⟨by decide +kernel, rfl⟩
theorem dd_D_send_77 : ev_d prog_10_method_35_code 77 (.aload_n 0) 1 78 := ⟨by decide +kernel, rfl⟩
theorem dd_D_send_78 : ev_d prog_10_method_35_code 78 (.getfield 57) 3 81 := ⟨by decide +kernel, rfl⟩
theorem dd_D_send_81 : ev_d prog_10_method_35_code 81 (.iload_n 1) 1 82 := ⟨by decide +kernel, rfl⟩
theorem dd_D_send_82 : ev_d prog_10_method_35_code 82 .iaload 1 83 := ⟨by decide +kernel, rfl⟩
theorem dd_D_send_83 : ev_d prog_10_method_35_code 83 .iastore 1 84 := ⟨by decide +kernel, rfl⟩
theorem dd_D_send_84 : ev_d prog_10_method_35_code 84 (.iload_n 2) 1 85 := ⟨by decide +kernel, rfl⟩
theorem dd_D_send_85 : ev_d prog_10_method_35_code 85 (.iconst 4) 1 86 := ⟨by decide +kernel, rfl⟩
theorem dd_D_send_86 : ev_j prog_10_method_35_code 86 (fun o => .if_icmp .ne o) 89 158 := ⟨72, by decide +kernel, rfl, by decide⟩
theorem dd_D_send_89 : ev_d prog_10_method_35_code 89 (.aload_n 0) 1 90 := ⟨by decide +kernel, rfl⟩
theorem dd_D_send_90 : ev_d prog_10_method_35_code 90 (.getfield 87) 3 93 := ⟨by decide +kernel, rfl⟩
theorem dd_D_send_93 : ev_d prog_10_method_35_code 93 (.iload_n 1) 1 94 := ⟨by decide +kernel, rfl⟩
theorem dd_D_send_94 : ev_d prog_10_method_35_code 94 .iaload 1 95 := ⟨by decide +kernel, rfl⟩
theorem dd_D_send_95 : ev_d prog_10_method_35_code 95 (.aload_n 0) 1 96 := ⟨by decide +kernel, rfl⟩
theorem dd_D_send_96 : ev_d prog_10_method_35_code 96 (.getfield 38) 3 99 := ⟨by decide +kernel, rfl⟩
theorem dd_D_send_99 : ev_d prog_10_method_35_code 99 (.iload_n 1) 1 100 := ⟨by decide +kernel, rfl⟩
theorem dd_D_send_100 : ev_d prog_10_method_35_code 100 .iaload 1 101 := ⟨by decide +kernel, rfl⟩
theorem dd_D_send_101 : ev_j prog_10_method_35_code 101 (fun o => .if_icmp .ge o) 104 158 := ⟨57, by decide +kernel, rfl, by decide⟩
theorem dd_D_send_104 : ev_d prog_10_method_35_code 104 (.aload_n 0) 1 105 := ⟨by decide +kernel, rfl⟩
theorem dd_D_send_105 : ev_d prog_10_method_35_code 105 (.iload_n 1) 1 106 := ⟨by decide +kernel, rfl⟩
theorem dd_D_send_106 : ev_d prog_10_method_35_code 106 (.aload_n 0) 1 107 := ⟨by decide +kernel, rfl⟩
theorem dd_D_send_107 : ev_d prog_10_method_35_code 107 (.iload_n 1) 1 108 := ⟨by decide +kernel, rfl⟩
theorem dd_D_send_108 : ev_d prog_10_method_35_code 108 (.aload_n 0) 1 109 := ⟨by decide +kernel, rfl⟩
theorem dd_D_send_109 : ev_d prog_10_method_35_code 109 (.getfield 87) 3 112 := ⟨by decide +kernel, rfl⟩
theorem dd_D_send_112 : ev_d prog_10_method_35_code 112 (.iload_n 1) 1 113 := ⟨by decide +kernel, rfl⟩
theorem dd_D_send_113 : ev_d prog_10_method_35_code 113 .iaload 1 114 := ⟨by decide +kernel, rfl⟩
theorem dd_D_send_114 : ev_d prog_10_method_35_code 114 (.invokevirtual 242) 3 117 := ⟨by decide +kernel, rfl⟩
theorem dd_D_send_117 : ev_d prog_10_method_35_code 117 (.aload_n 0) 1 118 := ⟨by decide +kernel, rfl⟩
theorem dd_D_send_118 : ev_d prog_10_method_35_code 118 (.getfield 57) 3 121 := ⟨by decide +kernel, rfl⟩
theorem dd_D_send_121 : ev_d prog_10_method_35_code 121 (.iload_n 1) 1 122 := ⟨by decide +kernel, rfl⟩
theorem dd_D_send_122 : ev_d prog_10_method_35_code 122 .iaload 1 123 := ⟨by decide +kernel, rfl⟩
theorem dd_D_send_123 : ev_d prog_10_method_35_code 123 (.aload_n 0) 1 124 := ⟨by decide +kernel, rfl⟩
theorem dd_D_send_124 : ev_d prog_10_method_35_code 124 (.getfield 38) 3 127 := ⟨by decide +kernel, rfl⟩
theorem dd_D_send_127 : ev_d prog_10_method_35_code 127 (.iload_n 1) 1 128 := ⟨by decide +kernel, rfl⟩
theorem dd_D_send_128 : ev_d prog_10_method_35_code 128 .iaload 1 129 := ⟨by decide +kernel, rfl⟩
theorem dd_D_send_129 : ev_d prog_10_method_35_code 129 .isub 1 130 := ⟨by decide +kernel, rfl⟩
theorem dd_D_send_130 : ev_d prog_10_method_35_code 130 (.iconst 1) 1 131 := ⟨by decide +kernel, rfl⟩
theorem dd_D_send_131 : ev_d prog_10_method_35_code 131 .iadd 1 132 := ⟨by decide +kernel, rfl⟩
theorem dd_D_send_132 : ev_d prog_10_method_35_code 132 (.aload_n 0) 1 133 := ⟨by decide +kernel, rfl⟩
theorem dd_D_send_133 : ev_d prog_10_method_35_code 133 (.getfield 87) 3 136 := ⟨by decide +kernel, rfl⟩
theorem dd_D_send_136 : ev_d prog_10_method_35_code 136 (.iload_n 1) 1 137 := ⟨by decide +kernel, rfl⟩
theorem dd_D_send_137 : ev_d prog_10_method_35_code 137 .iaload 1 138 := ⟨by decide +kernel, rfl⟩
theorem dd_D_send_138 : ev_d prog_10_method_35_code 138 .iadd 1 139 := ⟨by decide +kernel, rfl⟩
theorem dd_D_send_139 : ev_d prog_10_method_35_code 139 (.bipush 7) 2 141 := ⟨by decide +kernel, rfl⟩
theorem dd_D_send_141 : ev_d prog_10_method_35_code 141 .iand 1 142 := ⟨by decide +kernel, rfl⟩
theorem dd_D_send_142 : ev_d prog_10_method_35_code 142 (.invokevirtual 245) 3 145 := ⟨by decide +kernel, rfl⟩
theorem dd_D_send_145 : ev_d prog_10_method_35_code 145 (.aload_n 0) 1 146 := ⟨by decide +kernel, rfl⟩
theorem dd_D_send_146 : ev_d prog_10_method_35_code 146 (.getfield 87) 3 149 := ⟨by decide +kernel, rfl⟩
theorem dd_D_send_149 : ev_d prog_10_method_35_code 149 (.iload_n 1) 1 150 := ⟨by decide +kernel, rfl⟩
theorem dd_D_send_150 : ev_d prog_10_method_35_code 150 .dup2 1 151 := ⟨by decide +kernel, rfl⟩
theorem dd_D_send_151 : ev_d prog_10_method_35_code 151 .iaload 1 152 := ⟨by decide +kernel, rfl⟩
theorem dd_D_send_152 : ev_d prog_10_method_35_code 152 (.iconst 1) 1 153 := ⟨by decide +kernel, rfl⟩
theorem dd_D_send_153 : ev_d prog_10_method_35_code 153 .iadd 1 154 := ⟨by decide +kernel, rfl⟩
theorem dd_D_send_154 : ev_d prog_10_method_35_code 154 .iastore 1 155 := ⟨by decide +kernel, rfl⟩
theorem dd_D_send_155 : ev_j prog_10_method_35_code 155 (fun o => .goto o) 158 239 := ⟨84, by decide +kernel, rfl, by decide⟩
theorem dd_D_send_158 : ev_d prog_10_method_35_code 158 (.iload_n 2) 1 159 := ⟨by decide +kernel, rfl⟩
theorem dd_D_send_159 : ev_d prog_10_method_35_code 159 (.iconst 4) 1 160 := ⟨by decide +kernel, rfl⟩
theorem dd_D_send_160 : ev_j prog_10_method_35_code 160 (fun o => .if_icmp .ne o) 163 239 := ⟨79, by decide +kernel, rfl, by decide⟩
theorem dd_D_send_163 : ev_d prog_10_method_35_code 163 (.aload_n 0) 1 164 := ⟨by decide +kernel, rfl⟩
theorem dd_D_send_164 : ev_d prog_10_method_35_code 164 (.getfield 38) 3 167 := ⟨by decide +kernel, rfl⟩
theorem dd_D_send_167 : ev_d prog_10_method_35_code 167 (.bipush 6) 2 169 := ⟨by decide +kernel, rfl⟩
theorem dd_D_send_169 : ev_d prog_10_method_35_code 169 (.iload_n 1) 1 170 := ⟨by decide +kernel, rfl⟩
theorem dd_D_send_170 : ev_d prog_10_method_35_code 170 .iadd 1 171 := ⟨by decide +kernel, rfl⟩
theorem dd_D_send_171 : ev_d prog_10_method_35_code 171 .iaload 1 172 := ⟨by decide +kernel, rfl⟩
theorem dd_D_send_172 : ev_j prog_10_method_35_code 172 (fun o => .ifCond .le o) 175 239 := ⟨67, by decide +kernel, rfl, by decide⟩
theorem dd_D_send_175 : ev_d prog_10_method_35_code 175 (.aload_n 0) 1 176 := ⟨by decide +kernel, rfl⟩
theorem dd_D_send_176 : ev_d prog_10_method_35_code 176 (.getfield 38) 3 179 := ⟨by decide +kernel, rfl⟩
theorem dd_D_send_179 : ev_d prog_10_method_35_code 179 (.iload_n 1) 1 180 := ⟨by decide +kernel, rfl⟩
theorem dd_D_send_180 : ev_d prog_10_method_35_code 180 .iaload 1 181 := ⟨by decide +kernel, rfl⟩
theorem dd_D_send_181 : ev_d prog_10_method_35_code 181 (.iconst 5) 1 182 := ⟨by decide +kernel, rfl⟩
theorem dd_D_send_182 : ev_j prog_10_method_35_code 182 (fun o => .if_icmp .ge o) 185 239 := ⟨57, by decide +kernel, rfl, by decide⟩
theorem dd_D_send_185 : ev_d prog_10_method_35_code 185 (.aload_n 0) 1 186 := ⟨by decide +kernel, rfl⟩
theorem dd_D_send_186 : ev_d prog_10_method_35_code 186 (.bipush 6) 2 188 := ⟨by decide +kernel, rfl⟩
theorem dd_D_send_188 : ev_d prog_10_method_35_code 188 (.iload_n 1) 1 189 := ⟨by decide +kernel, rfl⟩
theorem dd_D_send_189 : ev_d prog_10_method_35_code 189 .iadd 1 190 := ⟨by decide +kernel, rfl⟩
theorem dd_D_send_190 : ev_d prog_10_method_35_code 190 (.invokevirtual 163) 3 193 := ⟨by decide +kernel, rfl⟩
theorem dd_D_send_193 : ev_d prog_10_method_35_code 193 (.istore_n 3) 1 194 := ⟨by decide +kernel, rfl⟩
theorem dd_D_send_194 : ev_d prog_10_method_35_code 194 (.aload_n 0) 1 195 := ⟨by decide +kernel, rfl⟩
theorem dd_D_send_195 : ev_d prog_10_method_35_code 195 (.getfield 57) 3 198 := ⟨by decide +kernel, rfl⟩
theorem dd_D_send_198 : ev_d prog_10_method_35_code 198 (.iload_n 1) 1 199 := ⟨by decide +kernel, rfl⟩
theorem dd_D_send_199 : ev_d prog_10_method_35_code 199 (.aload_n 0) 1 200 := ⟨by decide +kernel, rfl⟩
theorem dd_D_send_200 : ev_d prog_10_method_35_code 200 (.getfield 57) 3 203 := ⟨by decide +kernel, rfl⟩
theorem dd_D_send_203 : ev_d prog_10_method_35_code 203 (.iload_n 1) 1 204 := ⟨by decide +kernel, rfl⟩
theorem dd_D_send_204 : ev_d prog_10_method_35_code 204 .iaload 1 205 := ⟨by decide +kernel, rfl⟩
theorem dd_D_send_205 : ev_d prog_10_method_35_code 205 (.iconst 1) 1 206 := ⟨by decide +kernel, rfl⟩
theorem dd_D_send_206 : ev_d prog_10_method_35_code 206 .iadd 1 207 := ⟨by decide +kernel, rfl⟩
theorem dd_D_send_207 : ev_d prog_10_method_35_code 207 (.bipush 7) 2 209 := ⟨by decide +kernel, rfl⟩
theorem dd_D_send_209 : ev_d prog_10_method_35_code 209 .iand 1 210 := ⟨by decide +kernel, rfl⟩
theorem dd_D_send_210 : ev_d prog_10_method_35_code 210 .iastore 1 211 := ⟨by decide +kernel, rfl⟩
theorem dd_D_send_211 : ev_d prog_10_method_35_code 211 (.aload_n 0) 1 212 := ⟨by decide +kernel, rfl⟩
theorem dd_D_send_212 : ev_d prog_10_method_35_code 212 (.iload_n 1) 1 213 := ⟨by decide +kernel, rfl⟩
theorem dd_D_send_213 : ev_d prog_10_method_35_code 213 (.iload_n 3) 1 214 := ⟨by decide +kernel, rfl⟩
theorem dd_D_send_214 : ev_d prog_10_method_35_code 214 (.invokevirtual 191) 3 217 := ⟨by decide +kernel, rfl⟩
theorem dd_D_send_217 : ev_d prog_10_method_35_code 217 (.aload_n 0) 1 218 := ⟨by decide +kernel, rfl⟩
theorem dd_D_send_218 : ev_d prog_10_method_35_code 218 (.getfield 87) 3 221 := ⟨by decide +kernel, rfl⟩
theorem dd_D_send_221 : ev_d prog_10_method_35_code 221 (.iload_n 1) 1 222 := ⟨by decide +kernel, rfl⟩
theorem dd_D_send_222 : ev_d prog_10_method_35_code 222 .dup2 1 223 := ⟨by decide +kernel, rfl⟩
theorem dd_D_send_223 : ev_d prog_10_method_35_code 223 .iaload 1 224 := ⟨by decide +kernel, rfl⟩
theorem dd_D_send_224 : ev_d prog_10_method_35_code 224 (.iconst 1) 1 225 := ⟨by decide +kernel, rfl⟩
theorem dd_D_send_225 : ev_d prog_10_method_35_code 225 .iadd 1 226 := ⟨by decide +kernel, rfl⟩
theorem dd_D_send_226 : ev_d prog_10_method_35_code 226 .iastore 1 227 := ⟨by decide +kernel, rfl⟩
theorem dd_D_send_227 : ev_d prog_10_method_35_code 227 (.aload_n 0) 1 228 := ⟨by decide +kernel, rfl⟩
theorem dd_D_send_228 : ev_d prog_10_method_35_code 228 (.iload_n 1) 1 229 := ⟨by decide +kernel, rfl⟩
theorem dd_D_send_229 : ev_d prog_10_method_35_code 229 (.iload_n 3) 1 230 := ⟨by decide +kernel, rfl⟩
theorem dd_D_send_230 : ev_d prog_10_method_35_code 230 (.aload_n 0) 1 231 := ⟨by decide +kernel, rfl⟩
theorem dd_D_send_231 : ev_d prog_10_method_35_code 231 (.getfield 57) 3 234 := ⟨by decide +kernel, rfl⟩
theorem dd_D_send_234 : ev_d prog_10_method_35_code 234 (.iload_n 1) 1 235 := ⟨by decide +kernel, rfl⟩
theorem dd_D_send_235 : ev_d prog_10_method_35_code 235 .iaload 1 236 := ⟨by decide +kernel, rfl⟩
theorem dd_D_send_236 : ev_d prog_10_method_35_code 236 (.invokevirtual 245) 3 239 := ⟨by decide +kernel, rfl⟩
theorem dd_D_send_239 : ev_d prog_10_method_35_code 239 (.aload_n 0) 1 240 := ⟨by decide +kernel, rfl⟩
theorem dd_D_send_240 : ev_d prog_10_method_35_code 240 (.getfield 111) 3 243 := ⟨by decide +kernel, rfl⟩
theorem dd_D_send_243 : ev_d prog_10_method_35_code 243 (.iload_n 1) 1 244 := ⟨by decide +kernel, rfl⟩
theorem dd_D_send_244 : ev_d prog_10_method_35_code 244 (.aload_n 0) 1 245 := ⟨by decide +kernel, rfl⟩
theorem dd_D_send_245 : ev_d prog_10_method_35_code 245 (.getfield 63) 3 248 := ⟨by decide +kernel, rfl⟩
theorem dd_D_send_248 : ev_d prog_10_method_35_code 248 (.iload_n 1) 1 249 := ⟨by decide +kernel, rfl⟩
theorem dd_D_send_249 : ev_d prog_10_method_35_code 249 .iaload 1 250 := ⟨by decide +kernel, rfl⟩
theorem dd_D_send_250 : ev_d prog_10_method_35_code 250 .iastore 1 251 := ⟨by decide +kernel, rfl⟩
theorem dd_D_send_251 : ev_d prog_10_method_35_code 251 (.aload_n 0) 1 252 := ⟨by decide +kernel, rfl⟩
theorem dd_D_send_252 : ev_d prog_10_method_35_code 252 (.getfield 114) 3 255 := ⟨by decide +kernel, rfl⟩
theorem dd_D_send_255 : ev_d prog_10_method_35_code 255 (.iload_n 1) 1 256 := ⟨by decide +kernel, rfl⟩
theorem dd_D_send_256 : ev_d prog_10_method_35_code 256 (.aload_n 0) 1 257 := ⟨by decide +kernel, rfl⟩
theorem dd_D_send_257 : ev_d prog_10_method_35_code 257 (.getfield 60) 3 260 := ⟨by decide +kernel, rfl⟩
theorem dd_D_send_260 : ev_d prog_10_method_35_code 260 (.iload_n 1) 1 261 := ⟨by decide +kernel, rfl⟩
theorem dd_D_send_261 : ev_d prog_10_method_35_code 261 .iaload 1 262 := ⟨by decide +kernel, rfl⟩
theorem dd_D_send_262 : ev_d prog_10_method_35_code 262 .iastore 1 263 := ⟨by decide +kernel, rfl⟩
theorem dd_D_send_263 : ev_d prog_10_method_35_code 263 (.aload_n 0) 1 264 := ⟨by decide +kernel, rfl⟩
theorem dd_D_send_264 : ev_d prog_10_method_35_code 264 (.getfield 117) 3 267 := ⟨by decide +kernel, rfl⟩
theorem dd_D_send_267 : ev_d prog_10_method_35_code 267 (.iload_n 1) 1 268 := ⟨by decide +kernel, rfl⟩
theorem dd_D_send_268 : ev_d prog_10_method_35_code 268 (.aload_n 0) 1 269 := ⟨by decide +kernel, rfl⟩
theorem dd_D_send_269 : ev_d prog_10_method_35_code 269 (.getfield 66) 3 272 := ⟨by decide +kernel, rfl⟩
theorem dd_D_send_272 : ev_d prog_10_method_35_code 272 (.iload_n 1) 1 273 := ⟨by decide +kernel, rfl⟩
theorem dd_D_send_273 : ev_d prog_10_method_35_code 273 .iaload 1 274 := ⟨by decide +kernel, rfl⟩
theorem dd_D_send_274 : ev_d prog_10_method_35_code 274 .iastore 1 275 := ⟨by decide +kernel, rfl⟩
theorem dd_D_send_275 : ev_d prog_10_method_35_code 275 .return_ 1 276 := ⟨by decide +kernel, rfl⟩
-- D_at
theorem dd_D_at_0 : ev_d prog_10_method_7_code 0 (.aload_n 0) 1 1 := ⟨by decide +kernel, rfl⟩
theorem dd_D_at_1 : ev_d prog_10_method_7_code 1 (.getfield 32) 3 4 := ⟨by decide +kernel, rfl⟩
theorem dd_D_at_4 : ev_d prog_10_method_7_code 4 (.iload_n 1) 1 5 := ⟨by decide +kernel, rfl⟩
theorem dd_D_at_5 : ev_d prog_10_method_7_code 5 .iaload 1 6 := ⟨by decide +kernel, rfl⟩
theorem dd_D_at_6 : ev_d prog_10_method_7_code 6 (.istore_n 3) 1 7 := ⟨by decide +kernel, rfl⟩
theorem dd_D_at_7 : ev_d prog_10_method_7_code 7 (.iconst 0) 1 8 := ⟨by decide +kernel, rfl⟩
theorem dd_D_at_8 : ev_d prog_10_method_7_code 8 (.istore 4) 2 10 := ⟨by decide +kernel, rfl⟩
theorem dd_D_at_10 : ev_d prog_10_method_7_code 10 (.iload 4) 2 12 := ⟨by decide +kernel, rfl⟩
theorem dd_D_at_12 : ev_d prog_10_method_7_code 12 (.iload_n 2) 1 13 := ⟨by decide +kernel, rfl⟩
theorem dd_D_at_13 : ev_j prog_10_method_7_code 13 (fun o => .if_icmp .ge o) 16 29 := ⟨16, by decide +kernel, rfl, by decide⟩
theorem dd_D_at_16 : ev_d prog_10_method_7_code 16 (.aload_n 0) 1 17 := ⟨by decide +kernel, rfl⟩
theorem dd_D_at_17 : ev_d prog_10_method_7_code 17 (.getfield 25) 3 20 := ⟨by decide +kernel, rfl⟩
theorem dd_D_at_20 : ev_d prog_10_method_7_code 20 (.iload_n 3) 1 21 := ⟨by decide +kernel, rfl⟩
theorem dd_D_at_21 : ev_d prog_10_method_7_code 21 .iaload 1 22 := ⟨by decide +kernel, rfl⟩
theorem dd_D_at_22 : ev_d prog_10_method_7_code 22 (.istore_n 3) 1 23 := ⟨by decide +kernel, rfl⟩
theorem dd_D_at_23 : ev_d prog_10_method_7_code 23 (.iinc 4 1) 3 26 := ⟨by decide +kernel, rfl⟩
theorem dd_D_at_26 : ev_j prog_10_method_7_code 26 (fun o => .goto o) 29 10 := ⟨(-16), by decide +kernel, rfl, by decide⟩
theorem dd_D_at_29 : ev_d prog_10_method_7_code 29 (.iload_n 3) 1 30 := ⟨by decide +kernel, rfl⟩
theorem dd_D_at_30 : ev_d prog_10_method_7_code 30 .ireturn 1 31 := ⟨by decide +kernel, rfl⟩
-- D_carry
theorem dd_D_carry_0 : ev_d prog_10_method_34_code 0 (.aload_n 0) 1 1 := ⟨by decide +kernel, rfl⟩
theorem dd_D_carry_1 : ev_d prog_10_method_34_code 1 (.getfield 102) 3 4 := ⟨by decide +kernel, rfl⟩
theorem dd_D_carry_4 : ev_d prog_10_method_34_code 4 (.iload_n 1) 1 5 := ⟨by decide +kernel, rfl⟩
theorem dd_D_carry_5 : ev_d prog_10_method_34_code 5 (.iconst 5) 1 6 := ⟨by decide +kernel, rfl⟩
theorem dd_D_carry_6 : ev_d prog_10_method_34_code 6 .iastore 1 7 := ⟨by decide +kernel, rfl⟩
theorem dd_D_carry_7 : ev_d prog_10_method_34_code 7 (.aload_n 0) 1 8 := ⟨by decide +kernel, rfl⟩
theorem dd_D_carry_8 : ev_d prog_10_method_34_code 8 (.getfield 108) 3 11 := ⟨by decide +kernel, rfl⟩
theorem dd_D_carry_11 : ev_d prog_10_method_34_code 11 (.iload_n 1) 1 12 := ⟨by decide +kernel, rfl⟩
theorem dd_D_carry_12 : ev_d prog_10_method_34_code 12 (.iload_n 3) 1 13 := ⟨by decide +kernel, rfl⟩
theorem dd_D_carry_13 : ev_d prog_10_method_34_code 13 .iastore 1 14 := ⟨by decide +kernel, rfl⟩
theorem dd_D_carry_14 : ev_d prog_10_method_34_code 14 (.aload_n 0) 1 15 := ⟨by decide +kernel, rfl⟩
theorem dd_D_carry_15 : ev_d prog_10_method_34_code 15 (.getfield 120) 3 18 := ⟨by decide +kernel, rfl⟩
theorem dd_D_carry_18 : ev_d prog_10_method_34_code 18 (.iload_n 1) 1 19 := ⟨by decide +kernel, rfl⟩
theorem dd_D_carry_19 : ev_d prog_10_method_34_code 19 (.aload_n 0) 1 20 := ⟨by decide +kernel, rfl⟩
theorem dd_D_carry_20 : ev_d prog_10_method_34_code 20 (.getfield 7) 3 23 := ⟨by decide +kernel, rfl⟩
theorem dd_D_carry_23 : ev_d prog_10_method_34_code 23 (.iload_n 2) 1 24 := ⟨by decide +kernel, rfl⟩
theorem dd_D_carry_24 : ev_d prog_10_method_34_code 24 .iaload 1 25 := ⟨by decide +kernel, rfl⟩
theorem dd_D_carry_25 : ev_d prog_10_method_34_code 25 .iastore 1 26 := ⟨by decide +kernel, rfl⟩
theorem dd_D_carry_26 : ev_d prog_10_method_34_code 26 (.aload_n 0) 1 27 := ⟨by decide +kernel, rfl⟩
theorem dd_D_carry_27 : ev_d prog_10_method_34_code 27 (.getfield 123) 3 30 := ⟨by decide +kernel, rfl⟩
theorem dd_D_carry_30 : ev_d prog_10_method_34_code 30 (.iload_n 1) 1 31 := ⟨by decide +kernel, rfl⟩
theorem dd_D_carry_31 : ev_d prog_10_method_34_code 31 (.aload_n 0) 1 32 := ⟨by decide +kernel, rfl⟩
theorem dd_D_carry_32 : ev_d prog_10_method_34_code 32 (.getfield 13) 3 35 := ⟨by decide +kernel, rfl⟩
theorem dd_D_carry_35 : ev_d prog_10_method_34_code 35 (.iload_n 2) 1 36 := ⟨by decide +kernel, rfl⟩
theorem dd_D_carry_36 : ev_d prog_10_method_34_code 36 .iaload 1 37 := ⟨by decide +kernel, rfl⟩
theorem dd_D_carry_37 : ev_d prog_10_method_34_code 37 .iastore 1 38 := ⟨by decide +kernel, rfl⟩
theorem dd_D_carry_38 : ev_d prog_10_method_34_code 38 (.aload_n 0) 1 39 := ⟨by decide +kernel, rfl⟩
theorem dd_D_carry_39 : ev_d prog_10_method_34_code 39 (.getfield 126) 3 42 := ⟨by decide +kernel, rfl⟩
theorem dd_D_carry_42 : ev_d prog_10_method_34_code 42 (.iload_n 1) 1 43 := ⟨by decide +kernel, rfl⟩
theorem dd_D_carry_43 : ev_d prog_10_method_34_code 43 (.aload_n 0) 1 44 := ⟨by decide +kernel, rfl⟩
theorem dd_D_carry_44 : ev_d prog_10_method_34_code 44 (.getfield 16) 3 47 := ⟨by decide +kernel, rfl⟩
theorem dd_D_carry_47 : ev_d prog_10_method_34_code 47 (.iload_n 2) 1 48 := ⟨by decide +kernel, rfl⟩
theorem dd_D_carry_48 : ev_d prog_10_method_34_code 48 .iaload 1 49 := ⟨by decide +kernel, rfl⟩
theorem dd_D_carry_49 : ev_d prog_10_method_34_code 49 .iastore 1 50 := ⟨by decide +kernel, rfl⟩
theorem dd_D_carry_50 : ev_d prog_10_method_34_code 50 (.aload_n 0) 1 51 := ⟨by decide +kernel, rfl⟩
theorem dd_D_carry_51 : ev_d prog_10_method_34_code 51 (.getfield 129) 3 54 := ⟨by decide +kernel, rfl⟩
theorem dd_D_carry_54 : ev_d prog_10_method_34_code 54 (.iload_n 1) 1 55 := ⟨by decide +kernel, rfl⟩
theorem dd_D_carry_55 : ev_d prog_10_method_34_code 55 (.aload_n 0) 1 56 := ⟨by decide +kernel, rfl⟩
theorem dd_D_carry_56 : ev_d prog_10_method_34_code 56 (.getfield 19) 3 59 := ⟨by decide +kernel, rfl⟩
theorem dd_D_carry_59 : ev_d prog_10_method_34_code 59 (.iload_n 2) 1 60 := ⟨by decide +kernel, rfl⟩
theorem dd_D_carry_60 : ev_d prog_10_method_34_code 60 .iaload 1 61 := ⟨by decide +kernel, rfl⟩
theorem dd_D_carry_61 : ev_d prog_10_method_34_code 61 .iastore 1 62 := ⟨by decide +kernel, rfl⟩
theorem dd_D_carry_62 : ev_d prog_10_method_34_code 62 .return_ 1 63 := ⟨by decide +kernel, rfl⟩
-- D_submit
theorem dd_D_submit_0 : ev_d prog_10_method_38_code 0 (.aload_n 0) 1 1 := ⟨by decide +kernel, rfl⟩
theorem dd_D_submit_1 : ev_d prog_10_method_38_code 1 (.iload_n 1) 1 2 := ⟨by decide +kernel, rfl⟩
theorem dd_D_submit_2 : ev_d prog_10_method_38_code 2 (.iload_n 2) 1 3 := ⟨by decide +kernel, rfl⟩
theorem dd_D_submit_3 : ev_d prog_10_method_38_code 3 (.invokestatic 261) 3 6 := ⟨by decide +kernel, rfl⟩
theorem dd_D_submit_6 : ev_d prog_10_method_38_code 6 (.invokevirtual 177) 3 9 := ⟨by decide +kernel, rfl⟩
theorem dd_D_submit_9 : ev_j prog_10_method_38_code 9 (fun o => .ifCond .eq o) 12 14 := ⟨5, by decide +kernel, rfl, by decide⟩
theorem dd_D_submit_12 : ev_d prog_10_method_38_code 12 (.iconst 0) 1 13 := ⟨by decide +kernel, rfl⟩
theorem dd_D_submit_13 : ev_d prog_10_method_38_code 13 .ireturn 1 14 := ⟨by decide +kernel, rfl⟩
theorem dd_D_submit_14 : ev_d prog_10_method_38_code 14 (.iconst 4) 1 15 := ⟨by decide +kernel, rfl⟩
theorem dd_D_submit_15 : ev_d prog_10_method_38_code 15 (.iload_n 1) 1 16 := ⟨by decide +kernel, rfl⟩
theorem dd_D_submit_16 : ev_d prog_10_method_38_code 16 .imul 1 17 := ⟨by decide +kernel, rfl⟩
theorem dd_D_submit_17 : ev_d prog_10_method_38_code 17 (.iload_n 2) 1 18 := ⟨by decide +kernel, rfl⟩
theorem dd_D_submit_18 : ev_d prog_10_method_38_code 18 .iadd 1 19 := ⟨by decide +kernel, rfl⟩
theorem dd_D_submit_19 : ev_d prog_10_method_38_code 19 (.istore 4) 2 21 := ⟨by decide +kernel, rfl⟩
theorem dd_D_submit_21 : ev_d prog_10_method_38_code 21 (.aload_n 0) 1 22 := ⟨by decide +kernel, rfl⟩
theorem dd_D_submit_22 : ev_d prog_10_method_38_code 22 (.getfield 132) 3 25 := ⟨by decide +kernel, rfl⟩
theorem dd_D_submit_25 : ev_d prog_10_method_38_code 25 (.iconst 2) 1 26 := ⟨by decide +kernel, rfl⟩
theorem dd_D_submit_26 : ev_d prog_10_method_38_code 26 (.aload_n 0) 1 27 := ⟨by decide +kernel, rfl⟩
theorem dd_D_submit_27 : ev_d prog_10_method_38_code 27 (.getfield 150) 3 30 := ⟨by decide +kernel, rfl⟩
theorem dd_D_submit_30 : ev_d prog_10_method_38_code 30 (.iload 4) 2 32 := ⟨by decide +kernel, rfl⟩
theorem dd_D_submit_32 : ev_d prog_10_method_38_code 32 .iaload 1 33 := ⟨by decide +kernel, rfl⟩
theorem dd_D_submit_33 : ev_d prog_10_method_38_code 33 .imul 1 34 := ⟨by decide +kernel, rfl⟩
theorem dd_D_submit_34 : ev_d prog_10_method_38_code 34 (.iload_n 1) 1 35 := ⟨by decide +kernel, rfl⟩
theorem dd_D_submit_35 : ev_d prog_10_method_38_code 35 .iadd 1 36 := ⟨by decide +kernel, rfl⟩
theorem dd_D_submit_36 : ev_d prog_10_method_38_code 36 .iaload 1 37 := ⟨by decide +kernel, rfl⟩
theorem dd_D_submit_37 : ev_j prog_10_method_38_code 37 (fun o => .ifCond .le o) 40 74 := ⟨37, by decide +kernel, rfl, by decide⟩
theorem dd_D_submit_40 : ev_d prog_10_method_38_code 40 (.aload_n 0) 1 41 := ⟨by decide +kernel, rfl⟩
theorem dd_D_submit_41 : ev_d prog_10_method_38_code 41 (.getfield 38) 3 44 := ⟨by decide +kernel, rfl⟩
theorem dd_D_submit_44 : ev_d prog_10_method_38_code 44 (.bipush 18) 2 46 := ⟨by decide +kernel, rfl⟩
theorem dd_D_submit_46 : ev_d prog_10_method_38_code 46 (.iload_n 1) 1 47 := ⟨by decide +kernel, rfl⟩
theorem dd_D_submit_47 : ev_d prog_10_method_38_code 47 .iadd 1 48 := ⟨by decide +kernel, rfl⟩
theorem dd_D_submit_48 : ev_d prog_10_method_38_code 48 .iaload 1 49 := ⟨by decide +kernel, rfl⟩
theorem dd_D_submit_49 : ev_d prog_10_method_38_code 49 (.bipush 8) 2 51 := ⟨by decide +kernel, rfl⟩
theorem dd_D_submit_51 : ev_j prog_10_method_38_code 51 (fun o => .if_icmp .ne o) 54 56 := ⟨5, by decide +kernel, rfl, by decide⟩
theorem dd_D_submit_54 : ev_d prog_10_method_38_code 54 (.iconst 0) 1 55 := ⟨by decide +kernel, rfl⟩
theorem dd_D_submit_55 : ev_d prog_10_method_38_code 55 .ireturn 1 56 := ⟨by decide +kernel, rfl⟩
theorem dd_D_submit_56 : ev_d prog_10_method_38_code 56 (.aload_n 0) 1 57 := ⟨by decide +kernel, rfl⟩
theorem dd_D_submit_57 : ev_d prog_10_method_38_code 57 (.bipush 18) 2 59 := ⟨by decide +kernel, rfl⟩
theorem dd_D_submit_59 : ev_d prog_10_method_38_code 59 (.iload_n 1) 1 60 := ⟨by decide +kernel, rfl⟩
theorem dd_D_submit_60 : ev_d prog_10_method_38_code 60 .iadd 1 61 := ⟨by decide +kernel, rfl⟩
theorem dd_D_submit_61 : ev_d prog_10_method_38_code 61 (.aload_n 0) 1 62 := ⟨by decide +kernel, rfl⟩
theorem dd_D_submit_62 : ev_d prog_10_method_38_code 62 (.iload_n 2) 1 63 := ⟨by decide +kernel, rfl⟩
theorem dd_D_submit_63 : ev_d prog_10_method_38_code 63 (.iload_n 3) 1 64 := ⟨by decide +kernel, rfl⟩
theorem dd_D_submit_64 : ev_d prog_10_method_38_code 64 (.iconst 0) 1 65 := ⟨by decide +kernel, rfl⟩
theorem dd_D_submit_65 : ev_d prog_10_method_38_code 65 (.iconst 0) 1 66 := ⟨by decide +kernel, rfl⟩
theorem dd_D_submit_66 : ev_d prog_10_method_38_code 66 (.invokevirtual 210) 3 69 := ⟨by decide +kernel, rfl⟩
theorem dd_D_submit_69 : ev_d prog_10_method_38_code 69 (.invokevirtual 191) 3 72 := ⟨by decide +kernel, rfl⟩
theorem dd_D_submit_72 : ev_d prog_10_method_38_code 72 (.iconst 1) 1 73 := ⟨by decide +kernel, rfl⟩
theorem dd_D_submit_73 : ev_d prog_10_method_38_code 73 .ireturn 1 74 := ⟨by decide +kernel, rfl⟩
theorem dd_D_submit_74 : ev_d prog_10_method_38_code 74 (.iconst 2) 1 75 := ⟨by decide +kernel, rfl⟩
theorem dd_D_submit_75 : ev_d prog_10_method_38_code 75 (.aload_n 0) 1 76 := ⟨by decide +kernel, rfl⟩
theorem dd_D_submit_76 : ev_d prog_10_method_38_code 76 (.getfield 150) 3 79 := ⟨by decide +kernel, rfl⟩
theorem dd_D_submit_79 : ev_d prog_10_method_38_code 79 (.iload 4) 2 81 := ⟨by decide +kernel, rfl⟩
theorem dd_D_submit_81 : ev_d prog_10_method_38_code 81 .iaload 1 82 := ⟨by decide +kernel, rfl⟩
theorem dd_D_submit_82 : ev_d prog_10_method_38_code 82 .imul 1 83 := ⟨by decide +kernel, rfl⟩
theorem dd_D_submit_83 : ev_d prog_10_method_38_code 83 (.iload_n 1) 1 84 := ⟨by decide +kernel, rfl⟩
theorem dd_D_submit_84 : ev_d prog_10_method_38_code 84 .iadd 1 85 := ⟨by decide +kernel, rfl⟩
theorem dd_D_submit_85 : ev_d prog_10_method_38_code 85 (.istore 5) 2 87 := ⟨by decide +kernel, rfl⟩
theorem dd_D_submit_87 : ev_d prog_10_method_38_code 87 (.aload_n 0) 1 88 := ⟨by decide +kernel, rfl⟩
theorem dd_D_submit_88 : ev_d prog_10_method_38_code 88 (.iload 5) 2 90 := ⟨by decide +kernel, rfl⟩
theorem dd_D_submit_90 : ev_d prog_10_method_38_code 90 (.iload_n 2) 1 91 := ⟨by decide +kernel, rfl⟩
theorem dd_D_submit_91 : ev_d prog_10_method_38_code 91 (.invokevirtual 264) 3 94 := ⟨by decide +kernel, rfl⟩
theorem dd_D_submit_94 : ev_j prog_10_method_38_code 94 (fun o => .ifCond .ne o) 97 114 := ⟨20, by decide +kernel, rfl, by decide⟩
theorem dd_D_submit_97 : ev_d prog_10_method_38_code 97 (.aload_n 0) 1 98 := ⟨by decide +kernel, rfl⟩
theorem dd_D_submit_98 : ev_d prog_10_method_38_code 98 (.bipush 6) 2 100 := ⟨by decide +kernel, rfl⟩
theorem dd_D_submit_100 : ev_d prog_10_method_38_code 100 (.iload 5) 2 102 := ⟨by decide +kernel, rfl⟩
theorem dd_D_submit_102 : ev_d prog_10_method_38_code 102 .iadd 1 103 := ⟨by decide +kernel, rfl⟩
theorem dd_D_submit_103 : ev_d prog_10_method_38_code 103 (.iload_n 2) 1 104 := ⟨by decide +kernel, rfl⟩
theorem dd_D_submit_104 : ev_d prog_10_method_38_code 104 (.invokevirtual 264) 3 107 := ⟨by decide +kernel, rfl⟩
theorem dd_D_submit_107 : ev_j prog_10_method_38_code 107 (fun o => .ifCond .ne o) 110 114 := ⟨7, by decide +kernel, rfl, by decide⟩
theorem dd_D_submit_110 : ev_d prog_10_method_38_code 110 (.iconst 1) 1 111 := ⟨by decide +kernel, rfl⟩
theorem dd_D_submit_111 : ev_j prog_10_method_38_code 111 (fun o => .goto o) 114 115 := ⟨4, by decide +kernel, rfl, by decide⟩
theorem dd_D_submit_114 : ev_d prog_10_method_38_code 114 (.iconst 0) 1 115 := ⟨by decide +kernel, rfl⟩
theorem dd_D_submit_115 : ev_d prog_10_method_38_code 115 (.istore 6) 2 117 := ⟨by decide +kernel, rfl⟩
theorem dd_D_submit_117 : ev_d prog_10_method_38_code 117 (.iload 6) 2 119 := ⟨by decide +kernel, rfl⟩
theorem dd_D_submit_119 : ev_j prog_10_method_38_code 119 (fun o => .ifCond .ne o) 122 137 := ⟨18, by decide +kernel, rfl, by decide⟩
theorem dd_D_submit_122 : ev_d prog_10_method_38_code 122 (.aload_n 0) 1 123 := ⟨by decide +kernel, rfl⟩
theorem dd_D_submit_123 : ev_d prog_10_method_38_code 123 (.iload_n 1) 1 124 := ⟨by decide +kernel, rfl⟩
theorem dd_D_submit_124 : ev_d prog_10_method_38_code 124 (.aload_n 0) 1 125 := ⟨by decide +kernel, rfl⟩
theorem dd_D_submit_125 : ev_d prog_10_method_38_code 125 (.getfield 150) 3 128 := ⟨by decide +kernel, rfl⟩
theorem dd_D_submit_128 : ev_d prog_10_method_38_code 128 (.iload 4) 2 130 := ⟨by decide +kernel, rfl⟩
theorem dd_D_submit_130 : ev_d prog_10_method_38_code 130 .iaload 1 131 := ⟨by decide +kernel, rfl⟩
theorem dd_D_submit_131 : ev_d prog_10_method_38_code 131 (.invokevirtual 194) 3 134 := ⟨by decide +kernel, rfl⟩
theorem dd_D_submit_134 : ev_j prog_10_method_38_code 134 (fun o => .ifCond .ne o) 137 169 := ⟨35, by decide +kernel, rfl, by decide⟩
theorem dd_D_submit_137 : ev_d prog_10_method_38_code 137 (.aload_n 0) 1 138 := ⟨by decide +kernel, rfl⟩
theorem dd_D_submit_138 : ev_d prog_10_method_38_code 138 (.iload_n 1) 1 139 := ⟨by decide +kernel, rfl⟩
theorem dd_D_submit_139 : ev_d prog_10_method_38_code 139 (.iload_n 2) 1 140 := ⟨by decide +kernel, rfl⟩
theorem dd_D_submit_140 : ev_d prog_10_method_38_code 140 (.invokevirtual 206) 3 143 := ⟨by decide +kernel, rfl⟩
theorem dd_D_submit_143 : ev_d prog_10_method_38_code 143 (.istore 7) 2 145 := ⟨by decide +kernel, rfl⟩
theorem dd_D_submit_145 : ev_d prog_10_method_38_code 145 (.iload 7) 2 147 := ⟨by decide +kernel, rfl⟩
theorem dd_D_submit_147 : ev_j prog_10_method_38_code 147 (fun o => .ifCond .ge o) 150 152 := ⟨5, by decide +kernel, rfl, by decide⟩
theorem dd_D_submit_150 : ev_d prog_10_method_38_code 150 (.iconst 0) 1 151 := ⟨by decide +kernel, rfl⟩
theorem dd_D_submit_151 : ev_d prog_10_method_38_code 151 .ireturn 1 152 := ⟨by decide +kernel, rfl⟩
theorem dd_D_submit_152 : ev_d prog_10_method_38_code 152 (.aload_n 0) 1 153 := ⟨by decide +kernel, rfl⟩
theorem dd_D_submit_153 : ev_d prog_10_method_38_code 153 (.getfield 150) 3 156 := ⟨by decide +kernel, rfl⟩
theorem dd_D_submit_156 : ev_d prog_10_method_38_code 156 (.iload 4) 2 158 := ⟨by decide +kernel, rfl⟩
theorem dd_D_submit_158 : ev_d prog_10_method_38_code 158 (.iload 7) 2 160 := ⟨by decide +kernel, rfl⟩
theorem dd_D_submit_160 : ev_d prog_10_method_38_code 160 .iastore 1 161 := ⟨by decide +kernel, rfl⟩
theorem dd_D_submit_161 : ev_d prog_10_method_38_code 161 (.iconst 2) 1 162 := ⟨by decide +kernel, rfl⟩
theorem dd_D_submit_162 : ev_d prog_10_method_38_code 162 (.iload 7) 2 164 := ⟨by decide +kernel, rfl⟩
theorem dd_D_submit_164 : ev_d prog_10_method_38_code 164 .imul 1 165 := ⟨by decide +kernel, rfl⟩
theorem dd_D_submit_165 : ev_d prog_10_method_38_code 165 (.iload_n 1) 1 166 := ⟨by decide +kernel, rfl⟩
theorem dd_D_submit_166 : ev_d prog_10_method_38_code 166 .iadd 1 167 := ⟨by decide +kernel, rfl⟩
theorem dd_D_submit_167 : ev_d prog_10_method_38_code 167 (.istore 5) 2 169 := ⟨by decide +kernel, rfl⟩
theorem dd_D_submit_169 : ev_d prog_10_method_38_code 169 (.aload_n 0) 1 170 := ⟨by decide +kernel, rfl⟩
theorem dd_D_submit_170 : ev_d prog_10_method_38_code 170 (.getfield 38) 3 173 := ⟨by decide +kernel, rfl⟩
theorem dd_D_submit_173 : ev_d prog_10_method_38_code 173 (.bipush 6) 2 175 := ⟨by decide +kernel, rfl⟩
theorem dd_D_submit_175 : ev_d prog_10_method_38_code 175 (.iload 5) 2 177 := ⟨by decide +kernel, rfl⟩
theorem dd_D_submit_177 : ev_d prog_10_method_38_code 177 .iadd 1 178 := ⟨by decide +kernel, rfl⟩
theorem dd_D_submit_178 : ev_d prog_10_method_38_code 178 .iaload 1 179 := ⟨by decide +kernel, rfl⟩
theorem dd_D_submit_179 : ev_d prog_10_method_38_code 179 (.bipush 6) 2 181 := ⟨by decide +kernel, rfl⟩
theorem dd_D_submit_181 : ev_j prog_10_method_38_code 181 (fun o => .if_icmp .lt o) 184 186 := ⟨5, by decide +kernel, rfl, by decide⟩
theorem dd_D_submit_184 : ev_d prog_10_method_38_code 184 (.iconst 0) 1 185 := ⟨by decide +kernel, rfl⟩
theorem dd_D_submit_185 : ev_d prog_10_method_38_code 185 .ireturn 1 186 := ⟨by decide +kernel, rfl⟩
theorem dd_D_submit_186 : ev_d prog_10_method_38_code 186 (.aload_n 0) 1 187 := ⟨by decide +kernel, rfl⟩
theorem dd_D_submit_187 : ev_d prog_10_method_38_code 187 (.bipush 6) 2 189 := ⟨by decide +kernel, rfl⟩
theorem dd_D_submit_189 : ev_d prog_10_method_38_code 189 (.iload 5) 2 191 := ⟨by decide +kernel, rfl⟩
theorem dd_D_submit_191 : ev_d prog_10_method_38_code 191 .iadd 1 192 := ⟨by decide +kernel, rfl⟩
theorem dd_D_submit_192 : ev_d prog_10_method_38_code 192 (.aload_n 0) 1 193 := ⟨by decide +kernel, rfl⟩
theorem dd_D_submit_193 : ev_d prog_10_method_38_code 193 (.iload_n 2) 1 194 := ⟨by decide +kernel, rfl⟩
theorem dd_D_submit_194 : ev_d prog_10_method_38_code 194 (.iload_n 3) 1 195 := ⟨by decide +kernel, rfl⟩
theorem dd_D_submit_195 : ev_d prog_10_method_38_code 195 (.iconst 0) 1 196 := ⟨by decide +kernel, rfl⟩
theorem dd_D_submit_196 : ev_d prog_10_method_38_code 196 (.iconst 0) 1 197 := ⟨by decide +kernel, rfl⟩
theorem dd_D_submit_197 : ev_d prog_10_method_38_code 197 (.invokevirtual 210) 3 200 := ⟨by decide +kernel, rfl⟩
theorem dd_D_submit_200 : ev_d prog_10_method_38_code 200 (.invokevirtual 191) 3 203 := ⟨by decide +kernel, rfl⟩
theorem dd_D_submit_203 : ev_d prog_10_method_38_code 203 (.iconst 1) 1 204 := ⟨by decide +kernel, rfl⟩
theorem dd_D_submit_204 : ev_d prog_10_method_38_code 204 .ireturn 1 205 := ⟨by decide +kernel, rfl⟩
-- D_isClass
theorem dd_D_isClass_0 : ev_d prog_10_method_37_code 0 (.iload_n 0) 1 1 := ⟨by decide +kernel, rfl⟩
theorem dd_D_isClass_1 : ev_j prog_10_method_37_code 1 (fun o => .ifCond .lt o) 4 22 := ⟨21, by decide +kernel, rfl, by decide⟩
theorem dd_D_isClass_4 : ev_d prog_10_method_37_code 4 (.iload_n 0) 1 5 := ⟨by decide +kernel, rfl⟩
theorem dd_D_isClass_5 : ev_d prog_10_method_37_code 5 (.iconst 2) 1 6 := ⟨by decide +kernel, rfl⟩
theorem dd_D_isClass_6 : ev_j prog_10_method_37_code 6 (fun o => .if_icmp .ge o) 9 22 := ⟨16, by decide +kernel, rfl, by decide⟩
theorem dd_D_isClass_9 : ev_d prog_10_method_37_code 9 (.iload_n 1) 1 10 := ⟨by decide +kernel, rfl⟩
theorem dd_D_isClass_10 : ev_j prog_10_method_37_code 10 (fun o => .ifCond .lt o) 13 22 := ⟨12, by decide +kernel, rfl, by decide⟩
theorem dd_D_isClass_13 : ev_d prog_10_method_37_code 13 (.iload_n 1) 1 14 := ⟨by decide +kernel, rfl⟩
theorem dd_D_isClass_14 : ev_d prog_10_method_37_code 14 (.iconst 4) 1 15 := ⟨by decide +kernel, rfl⟩
theorem dd_D_isClass_15 : ev_j prog_10_method_37_code 15 (fun o => .if_icmp .ge o) 18 22 := ⟨7, by decide +kernel, rfl, by decide⟩
theorem dd_D_isClass_18 : ev_d prog_10_method_37_code 18 (.iconst 1) 1 19 := ⟨by decide +kernel, rfl⟩
theorem dd_D_isClass_19 : ev_j prog_10_method_37_code 19 (fun o => .goto o) 22 23 := ⟨4, by decide +kernel, rfl, by decide⟩
theorem dd_D_isClass_22 : ev_d prog_10_method_37_code 22 (.iconst 0) 1 23 := ⟨by decide +kernel, rfl⟩
theorem dd_D_isClass_23 : ev_d prog_10_method_37_code 23 .ireturn 1 24 := ⟨by decide +kernel, rfl⟩
-- D_hasClass
theorem dd_D_hasClass_0 : ev_d prog_10_method_8_code 0 (.iconst 0) 1 1 := ⟨by decide +kernel, rfl⟩
theorem dd_D_hasClass_1 : ev_d prog_10_method_8_code 1 (.istore_n 3) 1 2 := ⟨by decide +kernel, rfl⟩
theorem dd_D_hasClass_2 : ev_d prog_10_method_8_code 2 (.aload_n 0) 1 3 := ⟨by decide +kernel, rfl⟩
theorem dd_D_hasClass_3 : ev_d prog_10_method_8_code 3 (.getfield 32) 3 6 := ⟨by decide +kernel, rfl⟩
theorem dd_D_hasClass_6 : ev_d prog_10_method_8_code 6 (.iload_n 1) 1 7 := ⟨by decide +kernel, rfl⟩
theorem dd_D_hasClass_7 : ev_d prog_10_method_8_code 7 .iaload 1 8 := ⟨by decide +kernel, rfl⟩
theorem dd_D_hasClass_8 : ev_d prog_10_method_8_code 8 (.istore 4) 2 10 := ⟨by decide +kernel, rfl⟩
theorem dd_D_hasClass_10 : ev_d prog_10_method_8_code 10 (.iload 4) 2 12 := ⟨by decide +kernel, rfl⟩
theorem dd_D_hasClass_12 : ev_j prog_10_method_8_code 12 (fun o => .ifCond .lt o) 15 48 := ⟨36, by decide +kernel, rfl, by decide⟩
theorem dd_D_hasClass_15 : ev_d prog_10_method_8_code 15 (.iload_n 3) 1 16 := ⟨by decide +kernel, rfl⟩
theorem dd_D_hasClass_16 : ev_j prog_10_method_8_code 16 (fun o => .ifCond .ne o) 19 30 := ⟨14, by decide +kernel, rfl, by decide⟩
theorem dd_D_hasClass_19 : ev_d prog_10_method_8_code 19 (.aload_n 0) 1 20 := ⟨by decide +kernel, rfl⟩
theorem dd_D_hasClass_20 : ev_d prog_10_method_8_code 20 (.getfield 7) 3 23 := ⟨by decide +kernel, rfl⟩
theorem dd_D_hasClass_23 : ev_d prog_10_method_8_code 23 (.iload 4) 2 25 := ⟨by decide +kernel, rfl⟩
theorem dd_D_hasClass_25 : ev_d prog_10_method_8_code 25 .iaload 1 26 := ⟨by decide +kernel, rfl⟩
theorem dd_D_hasClass_26 : ev_d prog_10_method_8_code 26 (.iload_n 2) 1 27 := ⟨by decide +kernel, rfl⟩
theorem dd_D_hasClass_27 : ev_j prog_10_method_8_code 27 (fun o => .if_icmp .ne o) 30 34 := ⟨7, by decide +kernel, rfl, by decide⟩
theorem dd_D_hasClass_30 : ev_d prog_10_method_8_code 30 (.iconst 1) 1 31 := ⟨by decide +kernel, rfl⟩
theorem dd_D_hasClass_31 : ev_j prog_10_method_8_code 31 (fun o => .goto o) 34 35 := ⟨4, by decide +kernel, rfl, by decide⟩
theorem dd_D_hasClass_34 : ev_d prog_10_method_8_code 34 (.iconst 0) 1 35 := ⟨by decide +kernel, rfl⟩
theorem dd_D_hasClass_35 : ev_d prog_10_method_8_code 35 (.istore_n 3) 1 36 := ⟨by decide +kernel, rfl⟩
theorem dd_D_hasClass_36 : ev_d prog_10_method_8_code 36 (.aload_n 0) 1 37 := ⟨by decide +kernel, rfl⟩
theorem dd_D_hasClass_37 : ev_d prog_10_method_8_code 37 (.getfield 25) 3 40 := ⟨by decide +kernel, rfl⟩
theorem dd_D_hasClass_40 : ev_d prog_10_method_8_code 40 (.iload 4) 2 42 := ⟨by decide +kernel, rfl⟩
theorem dd_D_hasClass_42 : ev_d prog_10_method_8_code 42 .iaload 1 43 := ⟨by decide +kernel, rfl⟩
theorem dd_D_hasClass_43 : ev_d prog_10_method_8_code 43 (.istore 4) 2 45 := ⟨by decide +kernel, rfl⟩
theorem dd_D_hasClass_45 : ev_j prog_10_method_8_code 45 (fun o => .goto o) 48 10 := ⟨(-35), by decide +kernel, rfl, by decide⟩
theorem dd_D_hasClass_48 : ev_d prog_10_method_8_code 48 (.iload_n 3) 1 49 := ⟨by decide +kernel, rfl⟩
theorem dd_D_hasClass_49 : ev_d prog_10_method_8_code 49 .ireturn 1 50 := ⟨by decide +kernel, rfl⟩
-- D_state
theorem dd_D_state_0 : ev_d prog_10_method_39_code 0 (.aload_n 0) 1 1 := ⟨by decide +kernel, rfl⟩
theorem dd_D_state_1 : ev_d prog_10_method_39_code 1 (.iload_n 1) 1 2 := ⟨by decide +kernel, rfl⟩
theorem dd_D_state_2 : ev_d prog_10_method_39_code 2 (.iload_n 2) 1 3 := ⟨by decide +kernel, rfl⟩
theorem dd_D_state_3 : ev_d prog_10_method_39_code 3 (.invokestatic 173) 3 6 := ⟨by decide +kernel, rfl⟩
theorem dd_D_state_6 : ev_d prog_10_method_39_code 6 (.invokevirtual 177) 3 9 := ⟨by decide +kernel, rfl⟩
theorem dd_D_state_9 : ev_j prog_10_method_39_code 9 (fun o => .ifCond .eq o) 12 16 := ⟨7, by decide +kernel, rfl, by decide⟩
theorem dd_D_state_12 : ev_d prog_10_method_39_code 12 (.iconst 0) 1 13 := ⟨by decide +kernel, rfl⟩
theorem dd_D_state_13 : ev_j prog_10_method_39_code 13 (fun o => .goto o) 16 26 := ⟨13, by decide +kernel, rfl, by decide⟩
theorem dd_D_state_16 : ev_d prog_10_method_39_code 16 (.aload_n 0) 1 17 := ⟨by decide +kernel, rfl⟩
theorem dd_D_state_17 : ev_d prog_10_method_39_code 17 (.getfield 41) 3 20 := ⟨by decide +kernel, rfl⟩
theorem dd_D_state_20 : ev_d prog_10_method_39_code 20 (.iconst 2) 1 21 := ⟨by decide +kernel, rfl⟩
theorem dd_D_state_21 : ev_d prog_10_method_39_code 21 (.iload_n 1) 1 22 := ⟨by decide +kernel, rfl⟩
theorem dd_D_state_22 : ev_d prog_10_method_39_code 22 .imul 1 23 := ⟨by decide +kernel, rfl⟩
theorem dd_D_state_23 : ev_d prog_10_method_39_code 23 (.iload_n 2) 1 24 := ⟨by decide +kernel, rfl⟩
theorem dd_D_state_24 : ev_d prog_10_method_39_code 24 .iadd 1 25 := ⟨by decide +kernel, rfl⟩
theorem dd_D_state_25 : ev_d prog_10_method_39_code 25 .iaload 1 26 := ⟨by decide +kernel, rfl⟩
theorem dd_D_state_26 : ev_d prog_10_method_39_code 26 .ireturn 1 27 := ⟨by decide +kernel, rfl⟩
-- D_of
theorem dd_D_of_0 : ev_d prog_10_method_40_code 0 (.aload_n 0) 1 1 := ⟨by decide +kernel, rfl⟩
theorem dd_D_of_1 : ev_d prog_10_method_40_code 1 (.iload_n 1) 1 2 := ⟨by decide +kernel, rfl⟩
theorem dd_D_of_2 : ev_d prog_10_method_40_code 2 (.iload_n 2) 1 3 := ⟨by decide +kernel, rfl⟩
theorem dd_D_of_3 : ev_d prog_10_method_40_code 3 (.invokestatic 173) 3 6 := ⟨by decide +kernel, rfl⟩
theorem dd_D_of_6 : ev_j prog_10_method_40_code 6 (fun o => .ifCond .eq o) 9 23 := ⟨17, by decide +kernel, rfl, by decide⟩
theorem dd_D_of_9 : ev_d prog_10_method_40_code 9 (.iload_n 3) 1 10 := ⟨by decide +kernel, rfl⟩
theorem dd_D_of_10 : ev_j prog_10_method_40_code 10 (fun o => .ifCond .lt o) 13 23 := ⟨13, by decide +kernel, rfl, by decide⟩
theorem dd_D_of_13 : ev_d prog_10_method_40_code 13 (.iload_n 3) 1 14 := ⟨by decide +kernel, rfl⟩
theorem dd_D_of_14 : ev_d prog_10_method_40_code 14 (.bipush 13) 2 16 := ⟨by decide +kernel, rfl⟩
theorem dd_D_of_16 : ev_j prog_10_method_40_code 16 (fun o => .if_icmp .ge o) 19 23 := ⟨7, by decide +kernel, rfl, by decide⟩
theorem dd_D_of_19 : ev_d prog_10_method_40_code 19 (.iconst 1) 1 20 := ⟨by decide +kernel, rfl⟩
theorem dd_D_of_20 : ev_j prog_10_method_40_code 20 (fun o => .goto o) 23 24 := ⟨4, by decide +kernel, rfl, by decide⟩
theorem dd_D_of_23 : ev_d prog_10_method_40_code 23 (.iconst 0) 1 24 := ⟨by decide +kernel, rfl⟩
theorem dd_D_of_24 : ev_d prog_10_method_40_code 24 (.invokevirtual 177) 3 27 := ⟨by decide +kernel, rfl⟩
theorem dd_D_of_27 : ev_j prog_10_method_40_code 27 (fun o => .ifCond .eq o) 30 32 := ⟨5, by decide +kernel, rfl, by decide⟩
theorem dd_D_of_30 : ev_d prog_10_method_40_code 30 (.iconst 0) 1 31 := ⟨by decide +kernel, rfl⟩
theorem dd_D_of_31 : ev_d prog_10_method_40_code 31 .ireturn 1 32 := ⟨by decide +kernel, rfl⟩
theorem dd_D_of_32 : ev_d prog_10_method_40_code 32 (.iconst 2) 1 33 := ⟨by decide +kernel, rfl⟩
theorem dd_D_of_33 : ev_d prog_10_method_40_code 33 (.iload_n 1) 1 34 := ⟨by decide +kernel, rfl⟩
theorem dd_D_of_34 : ev_d prog_10_method_40_code 34 .imul 1 35 := ⟨by decide +kernel, rfl⟩
theorem dd_D_of_35 : ev_d prog_10_method_40_code 35 (.iload_n 2) 1 36 := ⟨by decide +kernel, rfl⟩
theorem dd_D_of_36 : ev_d prog_10_method_40_code 36 .iadd 1 37 := ⟨by decide +kernel, rfl⟩
theorem dd_D_of_37 : ev_d prog_10_method_40_code 37 (.istore 4) 2 39 := ⟨by decide +kernel, rfl⟩
theorem dd_D_of_39 : ev_d prog_10_method_40_code 39 (.iload_n 3) 1 40 := ⟨by decide +kernel, rfl⟩
theorem dd_D_of_40 : decode prog_10_method_40_code 40 = .ok ((.tableswitch 163 0 11 #[64, 72, 80, 88, 96, 104, 112, 120, 128, 136, 144, 155]), 64) := by decide +kernel
theorem dd_D_of_104 : ev_d prog_10_method_40_code 104 (.aload_n 0) 1 105 := ⟨by decide +kernel, rfl⟩
theorem dd_D_of_105 : ev_d prog_10_method_40_code 105 (.getfield 44) 3 108 := ⟨by decide +kernel, rfl⟩
theorem dd_D_of_108 : ev_d prog_10_method_40_code 108 (.iload 4) 2 110 := ⟨by decide +kernel, rfl⟩
theorem dd_D_of_110 : ev_d prog_10_method_40_code 110 .iaload 1 111 := ⟨by decide +kernel, rfl⟩
theorem dd_D_of_111 : ev_d prog_10_method_40_code 111 .ireturn 1 112 := ⟨by decide +kernel, rfl⟩
theorem dd_D_of_112 : ev_d prog_10_method_40_code 112 (.aload_n 0) 1 113 := ⟨by decide +kernel, rfl⟩
theorem dd_D_of_113 : ev_d prog_10_method_40_code 113 (.getfield 69) 3 116 := ⟨by decide +kernel, rfl⟩
theorem dd_D_of_116 : ev_d prog_10_method_40_code 116 (.iload 4) 2 118 := ⟨by decide +kernel, rfl⟩
theorem dd_D_of_118 : ev_d prog_10_method_40_code 118 .iaload 1 119 := ⟨by decide +kernel, rfl⟩
theorem dd_D_of_119 : ev_d prog_10_method_40_code 119 .ireturn 1 120 := ⟨by decide +kernel, rfl⟩
theorem dd_D_of_120 : ev_d prog_10_method_40_code 120 (.aload_n 0) 1 121 := ⟨by decide +kernel, rfl⟩
theorem dd_D_of_121 : ev_d prog_10_method_40_code 121 (.getfield 72) 3 124 := ⟨by decide +kernel, rfl⟩
theorem dd_D_of_124 : ev_d prog_10_method_40_code 124 (.iload 4) 2 126 := ⟨by decide +kernel, rfl⟩
theorem dd_D_of_126 : ev_d prog_10_method_40_code 126 .iaload 1 127 := ⟨by decide +kernel, rfl⟩
theorem dd_D_of_127 : ev_d prog_10_method_40_code 127 .ireturn 1 128 := ⟨by decide +kernel, rfl⟩
theorem dd_D_of_128 : ev_d prog_10_method_40_code 128 (.aload_n 0) 1 129 := ⟨by decide +kernel, rfl⟩
theorem dd_D_of_129 : ev_d prog_10_method_40_code 129 (.getfield 75) 3 132 := ⟨by decide +kernel, rfl⟩
theorem dd_D_of_132 : ev_d prog_10_method_40_code 132 (.iload 4) 2 134 := ⟨by decide +kernel, rfl⟩
theorem dd_D_of_134 : ev_d prog_10_method_40_code 134 .iaload 1 135 := ⟨by decide +kernel, rfl⟩
theorem dd_D_of_135 : ev_d prog_10_method_40_code 135 .ireturn 1 136 := ⟨by decide +kernel, rfl⟩
theorem dd_D_of_136 : ev_d prog_10_method_40_code 136 (.aload_n 0) 1 137 := ⟨by decide +kernel, rfl⟩
theorem dd_D_of_137 : ev_d prog_10_method_40_code 137 (.getfield 81) 3 140 := ⟨by decide +kernel, rfl⟩
theorem dd_D_of_140 : ev_d prog_10_method_40_code 140 (.iload 4) 2 142 := ⟨by decide +kernel, rfl⟩
theorem dd_D_of_142 : ev_d prog_10_method_40_code 142 .iaload 1 143 := ⟨by decide +kernel, rfl⟩
theorem dd_D_of_143 : ev_d prog_10_method_40_code 143 .ireturn 1 144 := ⟨by decide +kernel, rfl⟩
theorem dd_D_of_144 : ev_d prog_10_method_40_code 144 (.aload_n 0) 1 145 := ⟨by decide +kernel, rfl⟩
theorem dd_D_of_145 : ev_d prog_10_method_40_code 145 (.getfield 57) 3 148 := ⟨by decide +kernel, rfl⟩
theorem dd_D_of_148 : ev_d prog_10_method_40_code 148 (.iload 4) 2 150 := ⟨by decide +kernel, rfl⟩
theorem dd_D_of_150 : ev_d prog_10_method_40_code 150 .iaload 1 151 := ⟨by decide +kernel, rfl⟩
theorem dd_D_of_151 : ev_d prog_10_method_40_code 151 .ireturn 1 152 := ⟨by decide +kernel, rfl⟩
theorem dd_D_of_152 : ev_d prog_10_method_40_code 152 (.aload_n 0) 1 153 := ⟨by decide +kernel, rfl⟩
theorem dd_D_of_153 : ev_d prog_10_method_40_code 153 (.getfield 60) 3 156 := ⟨by decide +kernel, rfl⟩
theorem dd_D_of_156 : ev_d prog_10_method_40_code 156 (.iload 4) 2 158 := ⟨by decide +kernel, rfl⟩
theorem dd_D_of_158 : ev_d prog_10_method_40_code 158 .iaload 1 159 := ⟨by decide +kernel, rfl⟩
theorem dd_D_of_159 : ev_d prog_10_method_40_code 159 .ireturn 1 160 := ⟨by decide +kernel, rfl⟩
theorem dd_D_of_160 : ev_d prog_10_method_40_code 160 (.aload_n 0) 1 161 := ⟨by decide +kernel, rfl⟩
theorem dd_D_of_161 : ev_d prog_10_method_40_code 161 (.getfield 63) 3 164 := ⟨by decide +kernel, rfl⟩
theorem dd_D_of_164 : ev_d prog_10_method_40_code 164 (.iload 4) 2 166 := ⟨by decide +kernel, rfl⟩
theorem dd_D_of_166 : ev_d prog_10_method_40_code 166 .iaload 1 167 := ⟨by decide +kernel, rfl⟩
theorem dd_D_of_167 : ev_d prog_10_method_40_code 167 .ireturn 1 168 := ⟨by decide +kernel, rfl⟩
theorem dd_D_of_168 : ev_d prog_10_method_40_code 168 (.aload_n 0) 1 169 := ⟨by decide +kernel, rfl⟩
theorem dd_D_of_169 : ev_d prog_10_method_40_code 169 (.getfield 66) 3 172 := ⟨by decide +kernel, rfl⟩
theorem dd_D_of_172 : ev_d prog_10_method_40_code 172 (.iload 4) 2 174 := ⟨by decide +kernel, rfl⟩
theorem dd_D_of_174 : ev_d prog_10_method_40_code 174 .iaload 1 175 := ⟨by decide +kernel, rfl⟩
theorem dd_D_of_175 : ev_d prog_10_method_40_code 175 .ireturn 1 176 := ⟨by decide +kernel, rfl⟩
theorem dd_D_of_176 : ev_d prog_10_method_40_code 176 (.aload_n 0) 1 177 := ⟨by decide +kernel, rfl⟩
theorem dd_D_of_177 : ev_d prog_10_method_40_code 177 (.getfield 38) 3 180 := ⟨by decide +kernel, rfl⟩
theorem dd_D_of_180 : ev_d prog_10_method_40_code 180 (.iload 4) 2 182 := ⟨by decide +kernel, rfl⟩
theorem dd_D_of_182 : ev_d prog_10_method_40_code 182 .iaload 1 183 := ⟨by decide +kernel, rfl⟩
theorem dd_D_of_183 : ev_d prog_10_method_40_code 183 .ireturn 1 184 := ⟨by decide +kernel, rfl⟩
theorem dd_D_of_184 : ev_d prog_10_method_40_code 184 (.aload_n 0) 1 185 := ⟨by decide +kernel, rfl⟩
theorem dd_D_of_185 : ev_d prog_10_method_40_code 185 (.getfield 38) 3 188 := ⟨by decide +kernel, rfl⟩
theorem dd_D_of_188 : ev_d prog_10_method_40_code 188 (.bipush 6) 2 190 := ⟨by decide +kernel, rfl⟩
theorem dd_D_of_190 : ev_d prog_10_method_40_code 190 (.iload 4) 2 192 := ⟨by decide +kernel, rfl⟩
theorem dd_D_of_192 : ev_d prog_10_method_40_code 192 .iadd 1 193 := ⟨by decide +kernel, rfl⟩
theorem dd_D_of_193 : ev_d prog_10_method_40_code 193 .iaload 1 194 := ⟨by decide +kernel, rfl⟩
theorem dd_D_of_194 : ev_d prog_10_method_40_code 194 .ireturn 1 195 := ⟨by decide +kernel, rfl⟩
theorem dd_D_of_195 : ev_d prog_10_method_40_code 195 (.aload_n 0) 1 196 := ⟨by decide +kernel, rfl⟩
theorem dd_D_of_196 : ev_d prog_10_method_40_code 196 (.getfield 47) 3 199 := ⟨by decide +kernel, rfl⟩
theorem dd_D_of_199 : ev_d prog_10_method_40_code 199 (.iload 4) 2 201 := ⟨by decide +kernel, rfl⟩
theorem dd_D_of_201 : ev_d prog_10_method_40_code 201 .iaload 1 202 := ⟨by decide +kernel, rfl⟩
theorem dd_D_of_202 : ev_d prog_10_method_40_code 202 .ireturn 1 203 := ⟨by decide +kernel, rfl⟩
theorem dd_D_of_203 : ev_d prog_10_method_40_code 203 (.aload_n 0) 1 204 := ⟨by decide +kernel, rfl⟩
theorem dd_D_of_204 : ev_d prog_10_method_40_code 204 (.getfield 50) 3 207 := ⟨by decide +kernel, rfl⟩
theorem dd_D_of_207 : ev_d prog_10_method_40_code 207 (.iload 4) 2 209 := ⟨by decide +kernel, rfl⟩
theorem dd_D_of_209 : ev_d prog_10_method_40_code 209 .iaload 1 210 := ⟨by decide +kernel, rfl⟩
theorem dd_D_of_210 : ev_d prog_10_method_40_code 210 .ireturn 1 211 := ⟨by decide +kernel, rfl⟩
-- D_link
theorem dd_D_link_0 : ev_d prog_10_method_41_code 0 (.aload_n 0) 1 1 := ⟨by decide +kernel, rfl⟩
theorem dd_D_link_1 : ev_d prog_10_method_41_code 1 (.iload_n 1) 1 2 := ⟨by decide +kernel, rfl⟩
theorem dd_D_link_2 : ev_d prog_10_method_41_code 2 (.iload_n 2) 1 3 := ⟨by decide +kernel, rfl⟩
theorem dd_D_link_3 : ev_d prog_10_method_41_code 3 (.invokestatic 261) 3 6 := ⟨by decide +kernel, rfl⟩
theorem dd_D_link_6 : ev_d prog_10_method_41_code 6 (.invokevirtual 177) 3 9 := ⟨by decide +kernel, rfl⟩
theorem dd_D_link_9 : ev_j prog_10_method_41_code 9 (fun o => .ifCond .eq o) 12 16 := ⟨7, by decide +kernel, rfl, by decide⟩
theorem dd_D_link_12 : ev_d prog_10_method_41_code 12 (.iconst 0) 1 13 := ⟨by decide +kernel, rfl⟩
theorem dd_D_link_13 : ev_j prog_10_method_41_code 13 (fun o => .goto o) 16 26 := ⟨13, by decide +kernel, rfl, by decide⟩
theorem dd_D_link_16 : ev_d prog_10_method_41_code 16 (.aload_n 0) 1 17 := ⟨by decide +kernel, rfl⟩
theorem dd_D_link_17 : ev_d prog_10_method_41_code 17 (.getfield 150) 3 20 := ⟨by decide +kernel, rfl⟩
theorem dd_D_link_20 : ev_d prog_10_method_41_code 20 (.iconst 4) 1 21 := ⟨by decide +kernel, rfl⟩
theorem dd_D_link_21 : ev_d prog_10_method_41_code 21 (.iload_n 1) 1 22 := ⟨by decide +kernel, rfl⟩
theorem dd_D_link_22 : ev_d prog_10_method_41_code 22 .imul 1 23 := ⟨by decide +kernel, rfl⟩
theorem dd_D_link_23 : ev_d prog_10_method_41_code 23 (.iload_n 2) 1 24 := ⟨by decide +kernel, rfl⟩
theorem dd_D_link_24 : ev_d prog_10_method_41_code 24 .iadd 1 25 := ⟨by decide +kernel, rfl⟩
theorem dd_D_link_25 : ev_d prog_10_method_41_code 25 .iaload 1 26 := ⟨by decide +kernel, rfl⟩
theorem dd_D_link_26 : ev_d prog_10_method_41_code 26 .ireturn 1 27 := ⟨by decide +kernel, rfl⟩
-- D_changes
theorem dd_D_changes_0 : ev_d prog_10_method_42_code 0 (.aload_n 0) 1 1 := ⟨by decide +kernel, rfl⟩
theorem dd_D_changes_1 : ev_d prog_10_method_42_code 1 (.iload_n 1) 1 2 := ⟨by decide +kernel, rfl⟩
theorem dd_D_changes_2 : ev_d prog_10_method_42_code 2 (.iload_n 2) 1 3 := ⟨by decide +kernel, rfl⟩
theorem dd_D_changes_3 : ev_d prog_10_method_42_code 3 (.invokestatic 173) 3 6 := ⟨by decide +kernel, rfl⟩
theorem dd_D_changes_6 : ev_d prog_10_method_42_code 6 (.invokevirtual 177) 3 9 := ⟨by decide +kernel, rfl⟩
theorem dd_D_changes_9 : ev_j prog_10_method_42_code 9 (fun o => .ifCond .eq o) 12 16 := ⟨7, by decide +kernel, rfl, by decide⟩
theorem dd_D_changes_12 : ev_d prog_10_method_42_code 12 (.iconst 0) 1 13 := ⟨by decide +kernel, rfl⟩
theorem dd_D_changes_13 : ev_j prog_10_method_42_code 13 (fun o => .goto o) 16 26 := ⟨13, by decide +kernel, rfl, by decide⟩
theorem dd_D_changes_16 : ev_d prog_10_method_42_code 16 (.aload_n 0) 1 17 := ⟨by decide +kernel, rfl⟩
theorem dd_D_changes_17 : ev_d prog_10_method_42_code 17 (.getfield 132) 3 20 := ⟨by decide +kernel, rfl⟩
theorem dd_D_changes_20 : ev_d prog_10_method_42_code 20 (.iconst 2) 1 21 := ⟨by decide +kernel, rfl⟩
theorem dd_D_changes_21 : ev_d prog_10_method_42_code 21 (.iload_n 1) 1 22 := ⟨by decide +kernel, rfl⟩
theorem dd_D_changes_22 : ev_d prog_10_method_42_code 22 .imul 1 23 := ⟨by decide +kernel, rfl⟩
theorem dd_D_changes_23 : ev_d prog_10_method_42_code 23 (.iload_n 2) 1 24 := ⟨by decide +kernel, rfl⟩
theorem dd_D_changes_24 : ev_d prog_10_method_42_code 24 .iadd 1 25 := ⟨by decide +kernel, rfl⟩
theorem dd_D_changes_25 : ev_d prog_10_method_42_code 25 .iaload 1 26 := ⟨by decide +kernel, rfl⟩
theorem dd_D_changes_26 : ev_d prog_10_method_42_code 26 .ireturn 1 27 := ⟨by decide +kernel, rfl⟩
-- D_held
theorem dd_D_held_0 : ev_d prog_10_method_44_code 0 (.aload_n 0) 1 1 := ⟨by decide +kernel, rfl⟩
theorem dd_D_held_1 : ev_d prog_10_method_44_code 1 (.iload_n 1) 1 2 := ⟨by decide +kernel, rfl⟩
theorem dd_D_held_2 : ev_d prog_10_method_44_code 2 (.invokestatic 267) 3 5 := ⟨by decide +kernel, rfl⟩
theorem dd_D_held_5 : ev_d prog_10_method_44_code 5 (.invokevirtual 177) 3 8 := ⟨by decide +kernel, rfl⟩
theorem dd_D_held_8 : ev_j prog_10_method_44_code 8 (fun o => .ifCond .eq o) 11 15 := ⟨7, by decide +kernel, rfl, by decide⟩
theorem dd_D_held_11 : ev_d prog_10_method_44_code 11 (.iconst 0) 1 12 := ⟨by decide +kernel, rfl⟩
theorem dd_D_held_12 : ev_j prog_10_method_44_code 12 (fun o => .goto o) 15 24 := ⟨12, by decide +kernel, rfl, by decide⟩
theorem dd_D_held_15 : ev_d prog_10_method_44_code 15 (.aload_n 0) 1 16 := ⟨by decide +kernel, rfl⟩
theorem dd_D_held_16 : ev_d prog_10_method_44_code 16 (.getfield 38) 3 19 := ⟨by decide +kernel, rfl⟩
theorem dd_D_held_19 : ev_d prog_10_method_44_code 19 (.bipush 18) 2 21 := ⟨by decide +kernel, rfl⟩
theorem dd_D_held_21 : ev_d prog_10_method_44_code 21 (.iload_n 1) 1 22 := ⟨by decide +kernel, rfl⟩
theorem dd_D_held_22 : ev_d prog_10_method_44_code 22 .iadd 1 23 := ⟨by decide +kernel, rfl⟩
theorem dd_D_held_23 : ev_d prog_10_method_44_code 23 .iaload 1 24 := ⟨by decide +kernel, rfl⟩
theorem dd_D_held_24 : ev_d prog_10_method_44_code 24 .ireturn 1 25 := ⟨by decide +kernel, rfl⟩
-- D_isEnd
theorem dd_D_isEnd_0 : ev_d prog_10_method_43_code 0 (.iload_n 0) 1 1 := ⟨by decide +kernel, rfl⟩
theorem dd_D_isEnd_1 : ev_j prog_10_method_43_code 1 (fun o => .ifCond .eq o) 4 9 := ⟨8, by decide +kernel, rfl, by decide⟩
theorem dd_D_isEnd_4 : ev_d prog_10_method_43_code 4 (.iload_n 0) 1 5 := ⟨by decide +kernel, rfl⟩
theorem dd_D_isEnd_5 : ev_d prog_10_method_43_code 5 (.iconst 1) 1 6 := ⟨by decide +kernel, rfl⟩
theorem dd_D_isEnd_6 : ev_j prog_10_method_43_code 6 (fun o => .if_icmp .ne o) 9 13 := ⟨7, by decide +kernel, rfl, by decide⟩
theorem dd_D_isEnd_9 : ev_d prog_10_method_43_code 9 (.iconst 1) 1 10 := ⟨by decide +kernel, rfl⟩
theorem dd_D_isEnd_10 : ev_j prog_10_method_43_code 10 (fun o => .goto o) 13 14 := ⟨4, by decide +kernel, rfl, by decide⟩
theorem dd_D_isEnd_13 : ev_d prog_10_method_43_code 13 (.iconst 0) 1 14 := ⟨by decide +kernel, rfl⟩
theorem dd_D_isEnd_14 : ev_d prog_10_method_43_code 14 .ireturn 1 15 := ⟨by decide +kernel, rfl⟩
-- D_inbox
theorem dd_D_inbox_0 : ev_d prog_10_method_45_code 0 (.aload_n 0) 1 1 := ⟨by decide +kernel, rfl⟩
theorem dd_D_inbox_1 : ev_d prog_10_method_45_code 1 (.iload_n 1) 1 2 := ⟨by decide +kernel, rfl⟩
theorem dd_D_inbox_2 : ev_d prog_10_method_45_code 2 (.invokestatic 267) 3 5 := ⟨by decide +kernel, rfl⟩
theorem dd_D_inbox_5 : ev_d prog_10_method_45_code 5 (.invokevirtual 177) 3 8 := ⟨by decide +kernel, rfl⟩
theorem dd_D_inbox_8 : ev_j prog_10_method_45_code 8 (fun o => .ifCond .eq o) 11 15 := ⟨7, by decide +kernel, rfl, by decide⟩
theorem dd_D_inbox_11 : ev_d prog_10_method_45_code 11 (.iconst 0) 1 12 := ⟨by decide +kernel, rfl⟩
theorem dd_D_inbox_12 : ev_j prog_10_method_45_code 12 (fun o => .goto o) 15 24 := ⟨12, by decide +kernel, rfl, by decide⟩
theorem dd_D_inbox_15 : ev_d prog_10_method_45_code 15 (.aload_n 0) 1 16 := ⟨by decide +kernel, rfl⟩
theorem dd_D_inbox_16 : ev_d prog_10_method_45_code 16 (.getfield 38) 3 19 := ⟨by decide +kernel, rfl⟩
theorem dd_D_inbox_19 : ev_d prog_10_method_45_code 19 (.bipush 20) 2 21 := ⟨by decide +kernel, rfl⟩
theorem dd_D_inbox_21 : ev_d prog_10_method_45_code 21 (.iload_n 1) 1 22 := ⟨by decide +kernel, rfl⟩
theorem dd_D_inbox_22 : ev_d prog_10_method_45_code 22 .iadd 1 23 := ⟨by decide +kernel, rfl⟩
theorem dd_D_inbox_23 : ev_d prog_10_method_45_code 23 .iaload 1 24 := ⟨by decide +kernel, rfl⟩
theorem dd_D_inbox_24 : ev_d prog_10_method_45_code 24 .ireturn 1 25 := ⟨by decide +kernel, rfl⟩
-- D_take
theorem dd_D_take_0 : ev_d prog_10_method_46_code 0 (.aload_n 0) 1 1 := ⟨by decide +kernel, rfl⟩
theorem dd_D_take_1 : ev_d prog_10_method_46_code 1 (.iload_n 1) 1 2 := ⟨by decide +kernel, rfl⟩
theorem dd_D_take_2 : ev_d prog_10_method_46_code 2 (.invokestatic 267) 3 5 := ⟨by decide +kernel, rfl⟩
theorem dd_D_take_5 : ev_j prog_10_method_46_code 5 (fun o => .ifCond .ne o) 8 12 := ⟨7, by decide +kernel, rfl, by decide⟩
theorem dd_D_take_8 : ev_d prog_10_method_46_code 8 (.iconst 1) 1 9 := ⟨by decide +kernel, rfl⟩
theorem dd_D_take_9 : ev_j prog_10_method_46_code 9 (fun o => .goto o) 12 29 := ⟨20, by decide +kernel, rfl, by decide⟩
theorem dd_D_take_12 : ev_d prog_10_method_46_code 12 (.aload_n 0) 1 13 := ⟨by decide +kernel, rfl⟩
theorem dd_D_take_13 : ev_d prog_10_method_46_code 13 (.getfield 38) 3 16 := ⟨by decide +kernel, rfl⟩
theorem dd_D_take_16 : ev_d prog_10_method_46_code 16 (.bipush 20) 2 18 := ⟨by decide +kernel, rfl⟩
theorem dd_D_take_18 : ev_d prog_10_method_46_code 18 (.iload_n 1) 1 19 := ⟨by decide +kernel, rfl⟩
theorem dd_D_take_19 : ev_d prog_10_method_46_code 19 .iadd 1 20 := ⟨by decide +kernel, rfl⟩
theorem dd_D_take_20 : ev_d prog_10_method_46_code 20 .iaload 1 21 := ⟨by decide +kernel, rfl⟩
theorem dd_D_take_21 : ev_j prog_10_method_46_code 21 (fun o => .ifCond .ne o) 24 28 := ⟨7, by decide +kernel, rfl, by decide⟩
theorem dd_D_take_24 : ev_d prog_10_method_46_code 24 (.iconst 2) 1 25 := ⟨by decide +kernel, rfl⟩
theorem dd_D_take_25 : ev_j prog_10_method_46_code 25 (fun o => .goto o) 28 29 := ⟨4, by decide +kernel, rfl, by decide⟩
theorem dd_D_take_28 : ev_d prog_10_method_46_code 28 (.iconst 0) 1 29 := ⟨by decide +kernel, rfl⟩
theorem dd_D_take_29 : ev_d prog_10_method_46_code 29 (.putfield 157) 3 32 := ⟨by decide +kernel, rfl⟩
theorem dd_D_take_32 : ev_d prog_10_method_46_code 32 (.aload_n 0) 1 33 := ⟨by decide +kernel, rfl⟩
theorem dd_D_take_33 : ev_d prog_10_method_46_code 33 (.getfield 157) 3 36 := ⟨by decide +kernel, rfl⟩
theorem dd_D_take_36 : ev_j prog_10_method_46_code 36 (fun o => .ifCond .le o) 39 41 := ⟨5, by decide +kernel, rfl, by decide⟩
theorem dd_D_take_39 : ev_d prog_10_method_46_code 39 (.lconst 0) 1 40 := ⟨by decide +kernel, rfl⟩
theorem dd_D_take_40 : ev_d prog_10_method_46_code 40 .lreturn 1 41 := ⟨by decide +kernel, rfl⟩
theorem dd_D_take_41 : ev_d prog_10_method_46_code 41 (.aload_n 0) 1 42 := ⟨by decide +kernel, rfl⟩
theorem dd_D_take_42 : ev_d prog_10_method_46_code 42 (.bipush 20) 2 44 := ⟨by decide +kernel, rfl⟩
theorem dd_D_take_44 : ev_d prog_10_method_46_code 44 (.iload_n 1) 1 45 := ⟨by decide +kernel, rfl⟩
theorem dd_D_take_45 : ev_d prog_10_method_46_code 45 .iadd 1 46 := ⟨by decide +kernel, rfl⟩
theorem dd_D_take_46 : ev_d prog_10_method_46_code 46 (.invokevirtual 163) 3 49 := ⟨by decide +kernel, rfl⟩
theorem dd_D_take_49 : ev_d prog_10_method_46_code 49 (.istore_n 2) 1 50 := ⟨by decide +kernel, rfl⟩
theorem dd_D_take_50 : ev_d prog_10_method_46_code 50 (.aload_n 0) 1 51 := ⟨by decide +kernel, rfl⟩
theorem dd_D_take_51 : ev_d prog_10_method_46_code 51 (.getfield 7) 3 54 := ⟨by decide +kernel, rfl⟩
theorem dd_D_take_54 : ev_d prog_10_method_46_code 54 (.iload_n 2) 1 55 := ⟨by decide +kernel, rfl⟩
theorem dd_D_take_55 : ev_d prog_10_method_46_code 55 .iaload 1 56 := ⟨by decide +kernel, rfl⟩
theorem dd_D_take_56 : ev_d prog_10_method_46_code 56 .i2l 1 57 := ⟨by decide +kernel, rfl⟩
theorem dd_D_take_57 : ev_d prog_10_method_46_code 57 (.bipush 32) 2 59 := ⟨by decide +kernel, rfl⟩
theorem dd_D_take_59 : ev_d prog_10_method_46_code 59 .lshl 1 60 := ⟨by decide +kernel, rfl⟩
theorem dd_D_take_60 : ev_d prog_10_method_46_code 60 (.aload_n 0) 1 61 := ⟨by decide +kernel, rfl⟩
theorem dd_D_take_61 : ev_d prog_10_method_46_code 61 (.getfield 13) 3 64 := ⟨by decide +kernel, rfl⟩
theorem dd_D_take_64 : ev_d prog_10_method_46_code 64 (.iload_n 2) 1 65 := ⟨by decide +kernel, rfl⟩
theorem dd_D_take_65 : ev_d prog_10_method_46_code 65 .iaload 1 66 := ⟨by decide +kernel, rfl⟩
theorem dd_D_take_66 : ev_d prog_10_method_46_code 66 .i2l 1 67 := ⟨by decide +kernel, rfl⟩
theorem dd_D_take_67 : ev_d prog_10_method_46_code 67 (.ldc2_w 271) 3 70 := ⟨by decide +kernel, rfl⟩
theorem dd_D_take_70 : ev_d prog_10_method_46_code 70 .land 1 71 := ⟨by decide +kernel, rfl⟩
theorem dd_D_take_71 : ev_d prog_10_method_46_code 71 .lor 1 72 := ⟨by decide +kernel, rfl⟩
theorem dd_D_take_72 : ev_d prog_10_method_46_code 72 (.lstore_n 3) 1 73 := ⟨by decide +kernel, rfl⟩
theorem dd_D_take_73 : ev_d prog_10_method_46_code 73 (.aload_n 0) 1 74 := ⟨by decide +kernel, rfl⟩
theorem dd_D_take_74 : ev_d prog_10_method_46_code 74 (.iload_n 2) 1 75 := ⟨by decide +kernel, rfl⟩
theorem dd_D_take_75 : ev_d prog_10_method_46_code 75 (.invokevirtual 167) 3 78 := ⟨by decide +kernel, rfl⟩
theorem dd_D_take_78 : ev_d prog_10_method_46_code 78 (.lload_n 3) 1 79 := ⟨by decide +kernel, rfl⟩
theorem dd_D_take_79 : ev_d prog_10_method_46_code 79 .lreturn 1 80 := ⟨by decide +kernel, rfl⟩
-- D_lost
theorem dd_D_lost_0 : ev_d prog_10_method_47_code 0 (.aload_n 0) 1 1 := ⟨by decide +kernel, rfl⟩
theorem dd_D_lost_1 : ev_d prog_10_method_47_code 1 (.iconst 0) 1 2 := ⟨by decide +kernel, rfl⟩
theorem dd_D_lost_2 : ev_d prog_10_method_47_code 2 (.putfield 157) 3 5 := ⟨by decide +kernel, rfl⟩
theorem dd_D_lost_5 : ev_d prog_10_method_47_code 5 (.aload_n 0) 1 6 := ⟨by decide +kernel, rfl⟩
theorem dd_D_lost_6 : ev_d prog_10_method_47_code 6 (.getfield 200) 3 9 := ⟨by decide +kernel, rfl⟩
theorem dd_D_lost_9 : ev_d prog_10_method_47_code 9 .ireturn 1 10 := ⟨by decide +kernel, rfl⟩
