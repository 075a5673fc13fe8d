/-! decode rows (printed) -/
-- E_init
theorem dd_E_init_0 : ev_d prog_3_method_1_code 0 (.aload_n 0) 1 1 := ⟨by decide +kernel, rfl⟩
theorem dd_E_init_1 : ev_d prog_3_method_1_code 1 (.invokespecial 3) 3 4 := ⟨by decide +kernel, rfl⟩
theorem dd_E_init_4 : ev_d prog_3_method_1_code 4 (.aload_n 0) 1 5 := ⟨by decide +kernel, rfl⟩
theorem dd_E_init_5 : ev_d prog_3_method_1_code 5 (.iconst 3) 1 6 := ⟨by decide +kernel, rfl⟩
theorem dd_E_init_6 : ev_d prog_3_method_1_code 6 (.anewarray 9) 3 9 := ⟨by decide +kernel, rfl⟩
theorem dd_E_init_9 : ev_d prog_3_method_1_code 9 (.putfield 11) 3 12 := ⟨by decide +kernel, rfl⟩
theorem dd_E_init_12 : ev_d prog_3_method_1_code 12 (.aload_n 0) 1 13 := ⟨by decide +kernel, rfl⟩
theorem dd_E_init_13 : ev_d prog_3_method_1_code 13 (.iconst 3) 1 14 := ⟨by decide +kernel, rfl⟩
theorem dd_E_init_14 : ev_d prog_3_method_1_code 14 (.anewarray 17) 3 17 := ⟨by decide +kernel, rfl⟩
theorem dd_E_init_17 : ev_d prog_3_method_1_code 17 (.putfield 19) 3 20 := ⟨by decide +kernel, rfl⟩
theorem dd_E_init_20 : ev_d prog_3_method_1_code 20 (.iconst 0) 1 21 := ⟨by decide +kernel, rfl⟩
theorem dd_E_init_21 : ev_d prog_3_method_1_code 21 (.istore_n 1) 1 22 := ⟨by decide +kernel, rfl⟩
theorem dd_E_init_22 : ev_d prog_3_method_1_code 22 (.iload_n 1) 1 23 := ⟨by decide +kernel, rfl⟩
theorem dd_E_init_23 : ev_d prog_3_method_1_code 23 (.iconst 3) 1 24 := ⟨by decide +kernel, rfl⟩
theorem dd_E_init_24 : ev_j prog_3_method_1_code 24 (fun o => .if_icmp .ge o) 27 59 := ⟨35, by decide +kernel, rfl, by decide⟩
theorem dd_E_init_27 : ev_d prog_3_method_1_code 27 (.aload_n 0) 1 28 := ⟨by decide +kernel, rfl⟩
theorem dd_E_init_28 : ev_d prog_3_method_1_code 28 (.getfield 11) 3 31 := ⟨by decide +kernel, rfl⟩
theorem dd_E_init_31 : ev_d prog_3_method_1_code 31 (.iload_n 1) 1 32 := ⟨by decide +kernel, rfl⟩
theorem dd_E_init_32 : ev_d prog_3_method_1_code 32 (.new 9) 3 35 := ⟨by decide +kernel, rfl⟩
theorem dd_E_init_35 : ev_d prog_3_method_1_code 35 .dup 1 36 := ⟨by decide +kernel, rfl⟩
theorem dd_E_init_36 : ev_d prog_3_method_1_code 36 (.invokespecial 23) 3 39 := ⟨by decide +kernel, rfl⟩
theorem dd_E_init_39 : ev_d prog_3_method_1_code 39 .aastore 1 40 := ⟨by decide +kernel, rfl⟩
theorem dd_E_init_40 : ev_d prog_3_method_1_code 40 (.aload_n 0) 1 41 := ⟨by decide +kernel, rfl⟩
theorem dd_E_init_41 : ev_d prog_3_method_1_code 41 (.getfield 19) 3 44 := ⟨by decide +kernel, rfl⟩
theorem dd_E_init_44 : ev_d prog_3_method_1_code 44 (.iload_n 1) 1 45 := ⟨by decide +kernel, rfl⟩
theorem dd_E_init_45 : ev_d prog_3_method_1_code 45 (.new 17) 3 48 := ⟨by decide +kernel, rfl⟩
theorem dd_E_init_48 : ev_d prog_3_method_1_code 48 .dup 1 49 := ⟨by decide +kernel, rfl⟩
theorem dd_E_init_49 : ev_d prog_3_method_1_code 49 (.invokespecial 24) 3 52 := ⟨by decide +kernel, rfl⟩
theorem dd_E_init_52 : ev_d prog_3_method_1_code 52 .aastore 1 53 := ⟨by decide +kernel, rfl⟩
theorem dd_E_init_53 : ev_d prog_3_method_1_code 53 (.iinc 1 1) 3 56 := ⟨by decide +kernel, rfl⟩
theorem dd_E_init_56 : ev_j prog_3_method_1_code 56 (fun o => .goto o) 59 22 := ⟨(-34), by decide +kernel, rfl, by decide⟩
theorem dd_E_init_59 : ev_d prog_3_method_1_code 59 (.aload_n 0) 1 60 := ⟨by decide +kernel, rfl⟩
theorem dd_E_init_60 : ev_d prog_3_method_1_code 60 (.iconst 4) 1 61 := ⟨by decide +kernel, rfl⟩
theorem dd_E_init_61 : ev_d prog_3_method_1_code 61 (.newarray .int) 2 63 := ⟨by decide +kernel, rfl⟩
theorem dd_E_init_63 : ev_d prog_3_method_1_code 63 (.putfield 25) 3 66 := ⟨by decide +kernel, rfl⟩
theorem dd_E_init_66 : ev_d prog_3_method_1_code 66 (.aload_n 0) 1 67 := ⟨by decide +kernel, rfl⟩
theorem dd_E_init_67 : ev_d prog_3_method_1_code 67 (.iconst 4) 1 68 := ⟨by decide +kernel, rfl⟩
theorem dd_E_init_68 : ev_d prog_3_method_1_code 68 (.newarray .int) 2 70 := ⟨by decide +kernel, rfl⟩
theorem dd_E_init_70 : ev_d prog_3_method_1_code 70 (.putfield 29) 3 73 := ⟨by decide +kernel, rfl⟩
theorem dd_E_init_73 : ev_d prog_3_method_1_code 73 (.iconst 0) 1 74 := ⟨by decide +kernel, rfl⟩
theorem dd_E_init_74 : ev_d prog_3_method_1_code 74 (.istore_n 1) 1 75 := ⟨by decide +kernel, rfl⟩
theorem dd_E_init_75 : ev_d prog_3_method_1_code 75 (.iload_n 1) 1 76 := ⟨by decide +kernel, rfl⟩
theorem dd_E_init_76 : ev_d prog_3_method_1_code 76 (.iconst 4) 1 77 := ⟨by decide +kernel, rfl⟩
theorem dd_E_init_77 : ev_j prog_3_method_1_code 77 (fun o => .if_icmp .ge o) 80 95 := ⟨18, by decide +kernel, rfl, by decide⟩
theorem dd_E_init_80 : ev_d prog_3_method_1_code 80 (.aload_n 0) 1 81 := ⟨by decide +kernel, rfl⟩
theorem dd_E_init_81 : ev_d prog_3_method_1_code 81 (.getfield 25) 3 84 := ⟨by decide +kernel, rfl⟩
theorem dd_E_init_84 : ev_d prog_3_method_1_code 84 (.iload_n 1) 1 85 := ⟨by decide +kernel, rfl⟩
theorem dd_E_init_85 : ev_d prog_3_method_1_code 85 (.iload_n 1) 1 86 := ⟨by decide +kernel, rfl⟩
theorem dd_E_init_86 : ev_d prog_3_method_1_code 86 (.iconst 3) 1 87 := ⟨by decide +kernel, rfl⟩
theorem dd_E_init_87 : ev_d prog_3_method_1_code 87 .irem 1 88 := ⟨by decide +kernel, rfl⟩
theorem dd_E_init_88 : ev_d prog_3_method_1_code 88 .iastore 1 89 := ⟨by decide +kernel, rfl⟩
theorem dd_E_init_89 : ev_d prog_3_method_1_code 89 (.iinc 1 1) 3 92 := ⟨by decide +kernel, rfl⟩
theorem dd_E_init_92 : ev_j prog_3_method_1_code 92 (fun o => .goto o) 95 75 := ⟨(-17), by decide +kernel, rfl, by decide⟩
theorem dd_E_init_95 : ev_d prog_3_method_1_code 95 (.aload_n 0) 1 96 := ⟨by decide +kernel, rfl⟩
theorem dd_E_init_96 : ev_d prog_3_method_1_code 96 (.new 32) 3 99 := ⟨by decide +kernel, rfl⟩
theorem dd_E_init_99 : ev_d prog_3_method_1_code 99 .dup 1 100 := ⟨by decide +kernel, rfl⟩
theorem dd_E_init_100 : ev_d prog_3_method_1_code 100 (.invokespecial 34) 3 103 := ⟨by decide +kernel, rfl⟩
theorem dd_E_init_103 : ev_d prog_3_method_1_code 103 (.putfield 35) 3 106 := ⟨by decide +kernel, rfl⟩
theorem dd_E_init_106 : ev_d prog_3_method_1_code 106 (.aload_n 0) 1 107 := ⟨by decide +kernel, rfl⟩
theorem dd_E_init_107 : ev_d prog_3_method_1_code 107 (.new 32) 3 110 := ⟨by decide +kernel, rfl⟩
theorem dd_E_init_110 : ev_d prog_3_method_1_code 110 .dup 1 111 := ⟨by decide +kernel, rfl⟩
theorem dd_E_init_111 : ev_d prog_3_method_1_code 111 (.invokespecial 34) 3 114 := ⟨by decide +kernel, rfl⟩
theorem dd_E_init_114 : ev_d prog_3_method_1_code 114 (.putfield 39) 3 117 := ⟨by decide +kernel, rfl⟩
theorem dd_E_init_117 : ev_d prog_3_method_1_code 117 (.aload_n 0) 1 118 := ⟨by decide +kernel, rfl⟩
theorem dd_E_init_118 : ev_d prog_3_method_1_code 118 (.iconst 0) 1 119 := ⟨by decide +kernel, rfl⟩
theorem dd_E_init_119 : ev_d prog_3_method_1_code 119 (.putfield 42) 3 122 := ⟨by decide +kernel, rfl⟩
theorem dd_E_init_122 : ev_d prog_3_method_1_code 122 .return_ 1 123 := ⟨by decide +kernel, rfl⟩
-- S_init
theorem dd_S_init_0 : ev_d prog_7_method_1_code 0 (.aload_n 0) 1 1 := ⟨by decide +kernel, rfl⟩
theorem dd_S_init_1 : ev_d prog_7_method_1_code 1 (.invokespecial 3) 3 4 := ⟨by decide +kernel, rfl⟩
theorem dd_S_init_4 : ev_d prog_7_method_1_code 4 (.aload_n 0) 1 5 := ⟨by decide +kernel, rfl⟩
theorem dd_S_init_5 : ev_d prog_7_method_1_code 5 (.iconst 0) 1 6 := ⟨by decide +kernel, rfl⟩
theorem dd_S_init_6 : ev_d prog_7_method_1_code 6 (.putfield 9) 3 9 := ⟨by decide +kernel, rfl⟩
theorem dd_S_init_9 : ev_d prog_7_method_1_code 9 (.aload_n 0) 1 10 := ⟨by decide +kernel, rfl⟩
theorem dd_S_init_10 : ev_d prog_7_method_1_code 10 (.iconst 0) 1 11 := ⟨by decide +kernel, rfl⟩
theorem dd_S_init_11 : ev_d prog_7_method_1_code 11 (.putfield 15) 3 14 := ⟨by decide +kernel, rfl⟩
theorem dd_S_init_14 : ev_d prog_7_method_1_code 14 (.aload_n 0) 1 15 := ⟨by decide +kernel, rfl⟩
theorem dd_S_init_15 : ev_d prog_7_method_1_code 15 (.iconst 0) 1 16 := ⟨by decide +kernel, rfl⟩
theorem dd_S_init_16 : ev_d prog_7_method_1_code 16 (.putfield 18) 3 19 := ⟨by decide +kernel, rfl⟩
theorem dd_S_init_19 : ev_d prog_7_method_1_code 19 (.aload_n 0) 1 20 := ⟨by decide +kernel, rfl⟩
theorem dd_S_init_20 : ev_d prog_7_method_1_code 20 (.iconst 0) 1 21 := ⟨by decide +kernel, rfl⟩
theorem dd_S_init_21 : ev_d prog_7_method_1_code 21 (.putfield 21) 3 24 := ⟨by decide +kernel, rfl⟩
theorem dd_S_init_24 : ev_d prog_7_method_1_code 24 (.aload_n 0) 1 25 := ⟨by decide +kernel, rfl⟩
theorem dd_S_init_25 : ev_d prog_7_method_1_code 25 (.bipush 7) 2 27 := ⟨by decide +kernel, rfl⟩
theorem dd_S_init_27 : ev_d prog_7_method_1_code 27 (.putfield 24) 3 30 := ⟨by decide +kernel, rfl⟩
theorem dd_S_init_30 : ev_d prog_7_method_1_code 30 (.aload_n 0) 1 31 := ⟨by decide +kernel, rfl⟩
theorem dd_S_init_31 : ev_d prog_7_method_1_code 31 (.bipush 7) 2 33 := ⟨by decide +kernel, rfl⟩
theorem dd_S_init_33 : ev_d prog_7_method_1_code 33 (.putfield 27) 3 36 := ⟨by decide +kernel, rfl⟩
theorem dd_S_init_36 : ev_d prog_7_method_1_code 36 (.aload_n 0) 1 37 := ⟨by decide +kernel, rfl⟩
theorem dd_S_init_37 : ev_d prog_7_method_1_code 37 (.iconst 1) 1 38 := ⟨by decide +kernel, rfl⟩
theorem dd_S_init_38 : ev_d prog_7_method_1_code 38 (.putfield 30) 3 41 := ⟨by decide +kernel, rfl⟩
theorem dd_S_init_41 : ev_d prog_7_method_1_code 41 (.aload_n 0) 1 42 := ⟨by decide +kernel, rfl⟩
theorem dd_S_init_42 : ev_d prog_7_method_1_code 42 (.iconst 1) 1 43 := ⟨by decide +kernel, rfl⟩
theorem dd_S_init_43 : ev_d prog_7_method_1_code 43 (.putfield 33) 3 46 := ⟨by decide +kernel, rfl⟩
theorem dd_S_init_46 : ev_d prog_7_method_1_code 46 (.aload_n 0) 1 47 := ⟨by decide +kernel, rfl⟩
theorem dd_S_init_47 : ev_d prog_7_method_1_code 47 (.iconst 0) 1 48 := ⟨by decide +kernel, rfl⟩
theorem dd_S_init_48 : ev_d prog_7_method_1_code 48 (.putfield 36) 3 51 := ⟨by decide +kernel, rfl⟩
theorem dd_S_init_51 : ev_d prog_7_method_1_code 51 (.aload_n 0) 1 52 := ⟨by decide +kernel, rfl⟩
theorem dd_S_init_52 : ev_d prog_7_method_1_code 52 (.iconst 0) 1 53 := ⟨by decide +kernel, rfl⟩
theorem dd_S_init_53 : ev_d prog_7_method_1_code 53 (.putfield 39) 3 56 := ⟨by decide +kernel, rfl⟩
theorem dd_S_init_56 : ev_d prog_7_method_1_code 56 (.aload_n 0) 1 57 := ⟨by decide +kernel, rfl⟩
theorem dd_S_init_57 : ev_d prog_7_method_1_code 57 (.iconst 0) 1 58 := ⟨by decide +kernel, rfl⟩
theorem dd_S_init_58 : ev_d prog_7_method_1_code 58 (.putfield 42) 3 61 := ⟨by decide +kernel, rfl⟩
theorem dd_S_init_61 : ev_d prog_7_method_1_code 61 (.aload_n 0) 1 62 := ⟨by decide +kernel, rfl⟩
theorem dd_S_init_62 : ev_d prog_7_method_1_code 62 (.iconst 0) 1 63 := ⟨by decide +kernel, rfl⟩
theorem dd_S_init_63 : ev_d prog_7_method_1_code 63 (.putfield 45) 3 66 := ⟨by decide +kernel, rfl⟩
theorem dd_S_init_66 : ev_d prog_7_method_1_code 66 (.aload_n 0) 1 67 := ⟨by decide +kernel, rfl⟩
theorem dd_S_init_67 : ev_d prog_7_method_1_code 67 (.iconst 0) 1 68 := ⟨by decide +kernel, rfl⟩
theorem dd_S_init_68 : ev_d prog_7_method_1_code 68 (.putfield 48) 3 71 := ⟨by decide +kernel, rfl⟩
theorem dd_S_init_71 : ev_d prog_7_method_1_code 71 (.aload_n 0) 1 72 := ⟨by decide +kernel, rfl⟩
theorem dd_S_init_72 : ev_d prog_7_method_1_code 72 (.iconst 0) 1 73 := ⟨by decide +kernel, rfl⟩
theorem dd_S_init_73 : ev_d prog_7_method_1_code 73 (.putfield 51) 3 76 := ⟨by decide +kernel, rfl⟩
theorem dd_S_init_76 : ev_d prog_7_method_1_code 76 (.aload_n 0) 1 77 := ⟨by decide +kernel, rfl⟩
theorem dd_S_init_77 : ev_d prog_7_method_1_code 77 (.iconst 0) 1 78 := ⟨by decide +kernel, rfl⟩
theorem dd_S_init_78 : ev_d prog_7_method_1_code 78 (.putfield 54) 3 81 := ⟨by decide +kernel, rfl⟩
theorem dd_S_init_81 : ev_d prog_7_method_1_code 81 (.aload_n 0) 1 82 := ⟨by decide +kernel, rfl⟩
theorem dd_S_init_82 : ev_d prog_7_method_1_code 82 (.iconst 0) 1 83 := ⟨by decide +kernel, rfl⟩
theorem dd_S_init_83 : ev_d prog_7_method_1_code 83 (.putfield 58) 3 86 := ⟨by decide +kernel, rfl⟩
theorem dd_S_init_86 : ev_d prog_7_method_1_code 86 (.aload_n 0) 1 87 := ⟨by decide +kernel, rfl⟩
theorem dd_S_init_87 : ev_d prog_7_method_1_code 87 (.new 61) 3 90 := ⟨by decide +kernel, rfl⟩
theorem dd_S_init_90 : ev_d prog_7_method_1_code 90 .dup 1 91 := ⟨by decide +kernel, rfl⟩
theorem dd_S_init_91 : ev_d prog_7_method_1_code 91 (.invokespecial 63) 3 94 := ⟨by decide +kernel, rfl⟩
theorem dd_S_init_94 : ev_d prog_7_method_1_code 94 (.putfield 64) 3 97 := ⟨by decide +kernel, rfl⟩
theorem dd_S_init_97 : ev_d prog_7_method_1_code 97 (.aload_n 0) 1 98 := ⟨by decide +kernel, rfl⟩
theorem dd_S_init_98 : ev_d prog_7_method_1_code 98 (.new 61) 3 101 := ⟨by decide +kernel, rfl⟩
theorem dd_S_init_101 : ev_d prog_7_method_1_code 101 .dup 1 102 := ⟨by decide +kernel, rfl⟩
theorem dd_S_init_102 : ev_d prog_7_method_1_code 102 (.invokespecial 63) 3 105 := ⟨by decide +kernel, rfl⟩
theorem dd_S_init_105 : ev_d prog_7_method_1_code 105 (.putfield 68) 3 108 := ⟨by decide +kernel, rfl⟩
theorem dd_S_init_108 : ev_d prog_7_method_1_code 108 (.aload_n 0) 1 109 := ⟨by decide +kernel, rfl⟩
theorem dd_S_init_109 : ev_d prog_7_method_1_code 109 (.new 71) 3 112 := ⟨by decide +kernel, rfl⟩
theorem dd_S_init_112 : ev_d prog_7_method_1_code 112 .dup 1 113 := ⟨by decide +kernel, rfl⟩
theorem dd_S_init_113 : ev_d prog_7_method_1_code 113 (.invokespecial 73) 3 116 := ⟨by decide +kernel, rfl⟩
theorem dd_S_init_116 : ev_d prog_7_method_1_code 116 (.putfield 74) 3 119 := ⟨by decide +kernel, rfl⟩
theorem dd_S_init_119 : ev_d prog_7_method_1_code 119 (.aload_n 0) 1 120 := ⟨by decide +kernel, rfl⟩
theorem dd_S_init_120 : ev_d prog_7_method_1_code 120 (.new 78) 3 123 := ⟨by decide +kernel, rfl⟩
theorem dd_S_init_123 : ev_d prog_7_method_1_code 123 .dup 1 124 := ⟨by decide +kernel, rfl⟩
theorem dd_S_init_124 : ev_d prog_7_method_1_code 124 (.invokespecial 80) 3 127 := ⟨by decide +kernel, rfl⟩
theorem dd_S_init_127 : ev_d prog_7_method_1_code 127 (.putfield 81) 3 130 := ⟨by decide +kernel, rfl⟩
theorem dd_S_init_130 : ev_d prog_7_method_1_code 130 .return_ 1 131 := ⟨by decide +kernel, rfl⟩
-- E_damagedComes
theorem dd_E_damagedComes_0 : ev_d prog_3_method_4_code 0 (.aload_n 0) 1 1 := ⟨by decide +kernel, rfl⟩
theorem dd_E_damagedComes_1 : ev_d prog_3_method_4_code 1 (.getfield 11) 3 4 := ⟨by decide +kernel, rfl⟩
theorem dd_E_damagedComes_4 : ev_d prog_3_method_4_code 4 (.iload_n 1) 1 5 := ⟨by decide +kernel, rfl⟩
theorem dd_E_damagedComes_5 : ev_d prog_3_method_4_code 5 .aaload 1 6 := ⟨by decide +kernel, rfl⟩
theorem dd_E_damagedComes_6 : ev_d prog_3_method_4_code 6 (.invokevirtual 87) 3 9 := ⟨by decide +kernel, rfl⟩
theorem dd_E_damagedComes_9 : ev_j prog_3_method_4_code 9 (fun o => .ifCond .eq o) 12 17 := ⟨8, by decide +kernel, rfl, by decide⟩
theorem dd_E_damagedComes_12 : ev_d prog_3_method_4_code 12 (.aload_n 0) 1 13 := ⟨by decide +kernel, rfl⟩
theorem dd_E_damagedComes_13 : ev_d prog_3_method_4_code 13 (.iload_n 1) 1 14 := ⟨by decide +kernel, rfl⟩
theorem dd_E_damagedComes_14 : ev_d prog_3_method_4_code 14 (.invokevirtual 84) 3 17 := ⟨by decide +kernel, rfl⟩
theorem dd_E_damagedComes_17 : ev_d prog_3_method_4_code 17 .return_ 1 18 := ⟨by decide +kernel, rfl⟩
-- S_failsByDamage
theorem dd_S_failsByDamage_0 : ev_d prog_7_method_11_code 0 (.aload_n 0) 1 1 := ⟨by decide +kernel, rfl⟩
theorem dd_S_failsByDamage_1 : ev_d prog_7_method_11_code 1 (.getfield 9) 3 4 := ⟨by decide +kernel, rfl⟩
theorem dd_S_failsByDamage_4 : ev_d prog_7_method_11_code 4 (.iconst 4) 1 5 := ⟨by decide +kernel, rfl⟩
theorem dd_S_failsByDamage_5 : ev_j prog_7_method_11_code 5 (fun o => .if_icmp .ne o) 8 32 := ⟨27, by decide +kernel, rfl, by decide⟩
theorem dd_S_failsByDamage_8 : ev_d prog_7_method_11_code 8 (.aload_n 0) 1 9 := ⟨by decide +kernel, rfl⟩
theorem dd_S_failsByDamage_9 : ev_d prog_7_method_11_code 9 .dup 1 10 := ⟨by decide +kernel, rfl⟩
theorem dd_S_failsByDamage_10 : ev_d prog_7_method_11_code 10 (.getfield 42) 3 13 := ⟨by decide +kernel, rfl⟩
theorem dd_S_failsByDamage_13 : ev_d prog_7_method_11_code 13 (.iconst 1) 1 14 := ⟨by decide +kernel, rfl⟩
theorem dd_S_failsByDamage_14 : ev_d prog_7_method_11_code 14 .iadd 1 15 := ⟨by decide +kernel, rfl⟩
theorem dd_S_failsByDamage_15 : ev_d prog_7_method_11_code 15 (.putfield 42) 3 18 := ⟨by decide +kernel, rfl⟩
theorem dd_S_failsByDamage_18 : ev_d prog_7_method_11_code 18 (.aload_n 0) 1 19 := ⟨by decide +kernel, rfl⟩
theorem dd_S_failsByDamage_19 : ev_d prog_7_method_11_code 19 (.getfield 42) 3 22 := ⟨by decide +kernel, rfl⟩
theorem dd_S_failsByDamage_22 : ev_d prog_7_method_11_code 22 (.iconst 4) 1 23 := ⟨by decide +kernel, rfl⟩
theorem dd_S_failsByDamage_23 : ev_j prog_7_method_11_code 23 (fun o => .if_icmp .lt o) 26 30 := ⟨7, by decide +kernel, rfl, by decide⟩
theorem dd_S_failsByDamage_26 : ev_d prog_7_method_11_code 26 (.iconst 1) 1 27 := ⟨by decide +kernel, rfl⟩
theorem dd_S_failsByDamage_27 : ev_j prog_7_method_11_code 27 (fun o => .goto o) 30 31 := ⟨4, by decide +kernel, rfl, by decide⟩
theorem dd_S_failsByDamage_30 : ev_d prog_7_method_11_code 30 (.iconst 0) 1 31 := ⟨by decide +kernel, rfl⟩
theorem dd_S_failsByDamage_31 : ev_d prog_7_method_11_code 31 .ireturn 1 32 := ⟨by decide +kernel, rfl⟩
theorem dd_S_failsByDamage_32 : ev_d prog_7_method_11_code 32 (.aload_n 0) 1 33 := ⟨by decide +kernel, rfl⟩
theorem dd_S_failsByDamage_33 : ev_d prog_7_method_11_code 33 (.getfield 9) 3 36 := ⟨by decide +kernel, rfl⟩
theorem dd_S_failsByDamage_36 : ev_d prog_7_method_11_code 36 (.iconst 2) 1 37 := ⟨by decide +kernel, rfl⟩
theorem dd_S_failsByDamage_37 : ev_j prog_7_method_11_code 37 (fun o => .if_icmp .eq o) 40 42 := ⟨5, by decide +kernel, rfl, by decide⟩
theorem dd_S_failsByDamage_40 : ev_d prog_7_method_11_code 40 (.iconst 0) 1 41 := ⟨by decide +kernel, rfl⟩
theorem dd_S_failsByDamage_41 : ev_d prog_7_method_11_code 41 .ireturn 1 42 := ⟨by decide +kernel, rfl⟩
theorem dd_S_failsByDamage_42 : ev_d prog_7_method_11_code 42 (.aload_n 0) 1 43 := ⟨by decide +kernel, rfl⟩
theorem dd_S_failsByDamage_43 : ev_d prog_7_method_11_code 43 .dup 1 44 := ⟨by decide +kernel, rfl⟩
theorem dd_S_failsByDamage_44 : ev_d prog_7_method_11_code 44 (.getfield 36) 3 47 := ⟨by decide +kernel, rfl⟩
theorem dd_S_failsByDamage_47 : ev_d prog_7_method_11_code 47 (.iconst 1) 1 48 := ⟨by decide +kernel, rfl⟩
theorem dd_S_failsByDamage_48 : ev_d prog_7_method_11_code 48 .iadd 1 49 := ⟨by decide +kernel, rfl⟩
theorem dd_S_failsByDamage_49 : ev_d prog_7_method_11_code 49 (.putfield 36) 3 52 := ⟨by decide +kernel, rfl⟩
theorem dd_S_failsByDamage_52 : ev_d prog_7_method_11_code 52 (.aload_n 0) 1 53 := ⟨by decide +kernel, rfl⟩
theorem dd_S_failsByDamage_53 : ev_d prog_7_method_11_code 53 (.getfield 36) 3 56 := ⟨by decide +kernel, rfl⟩
theorem dd_S_failsByDamage_56 : ev_d prog_7_method_11_code 56 (.iconst 2) 1 57 := ⟨by decide +kernel, rfl⟩
theorem dd_S_failsByDamage_57 : ev_j prog_7_method_11_code 57 (fun o => .if_icmp .ge o) 60 62 := ⟨5, by decide +kernel, rfl, by decide⟩
theorem dd_S_failsByDamage_60 : ev_d prog_7_method_11_code 60 (.iconst 0) 1 61 := ⟨by decide +kernel, rfl⟩
theorem dd_S_failsByDamage_61 : ev_d prog_7_method_11_code 61 .ireturn 1 62 := ⟨by decide +kernel, rfl⟩
theorem dd_S_failsByDamage_62 : ev_d prog_7_method_11_code 62 (.aload_n 0) 1 63 := ⟨by decide +kernel, rfl⟩
theorem dd_S_failsByDamage_63 : ev_d prog_7_method_11_code 63 (.iconst 0) 1 64 := ⟨by decide +kernel, rfl⟩
theorem dd_S_failsByDamage_64 : ev_d prog_7_method_11_code 64 (.putfield 15) 3 67 := ⟨by decide +kernel, rfl⟩
theorem dd_S_failsByDamage_67 : ev_d prog_7_method_11_code 67 (.aload_n 0) 1 68 := ⟨by decide +kernel, rfl⟩
theorem dd_S_failsByDamage_68 : ev_d prog_7_method_11_code 68 (.iconst 0) 1 69 := ⟨by decide +kernel, rfl⟩
theorem dd_S_failsByDamage_69 : ev_d prog_7_method_11_code 69 (.putfield 36) 3 72 := ⟨by decide +kernel, rfl⟩
theorem dd_S_failsByDamage_72 : ev_d prog_7_method_11_code 72 (.aload_n 0) 1 73 := ⟨by decide +kernel, rfl⟩
theorem dd_S_failsByDamage_73 : ev_d prog_7_method_11_code 73 .dup 1 74 := ⟨by decide +kernel, rfl⟩
theorem dd_S_failsByDamage_74 : ev_d prog_7_method_11_code 74 (.getfield 39) 3 77 := ⟨by decide +kernel, rfl⟩
theorem dd_S_failsByDamage_77 : ev_d prog_7_method_11_code 77 (.iconst 1) 1 78 := ⟨by decide +kernel, rfl⟩
theorem dd_S_failsByDamage_78 : ev_d prog_7_method_11_code 78 .iadd 1 79 := ⟨by decide +kernel, rfl⟩
theorem dd_S_failsByDamage_79 : ev_d prog_7_method_11_code 79 (.putfield 39) 3 82 := ⟨by decide +kernel, rfl⟩
theorem dd_S_failsByDamage_82 : ev_d prog_7_method_11_code 82 (.aload_n 0) 1 83 := ⟨by decide +kernel, rfl⟩
theorem dd_S_failsByDamage_83 : ev_d prog_7_method_11_code 83 (.getfield 39) 3 86 := ⟨by decide +kernel, rfl⟩
theorem dd_S_failsByDamage_86 : ev_d prog_7_method_11_code 86 (.iconst 3) 1 87 := ⟨by decide +kernel, rfl⟩
theorem dd_S_failsByDamage_87 : ev_j prog_7_method_11_code 87 (fun o => .if_icmp .lt o) 90 94 := ⟨7, by decide +kernel, rfl, by decide⟩
theorem dd_S_failsByDamage_90 : ev_d prog_7_method_11_code 90 (.iconst 1) 1 91 := ⟨by decide +kernel, rfl⟩
theorem dd_S_failsByDamage_91 : ev_j prog_7_method_11_code 91 (fun o => .goto o) 94 95 := ⟨4, by decide +kernel, rfl, by decide⟩
theorem dd_S_failsByDamage_94 : ev_d prog_7_method_11_code 94 (.iconst 0) 1 95 := ⟨by decide +kernel, rfl⟩
theorem dd_S_failsByDamage_95 : ev_d prog_7_method_11_code 95 .ireturn 1 96 := ⟨by decide +kernel, rfl⟩
-- E_fall
theorem dd_E_fall_0 : ev_d prog_3_method_2_code 0 (.aload_n 0) 1 1 := ⟨by decide +kernel, rfl⟩
theorem dd_E_fall_1 : ev_d prog_3_method_2_code 1 (.getfield 11) 3 4 := ⟨by decide +kernel, rfl⟩
theorem dd_E_fall_4 : ev_d prog_3_method_2_code 4 (.iload_n 1) 1 5 := ⟨by decide +kernel, rfl⟩
theorem dd_E_fall_5 : ev_d prog_3_method_2_code 5 .aaload 1 6 := ⟨by decide +kernel, rfl⟩
theorem dd_E_fall_6 : ev_d prog_3_method_2_code 6 (.astore_n 2) 1 7 := ⟨by decide +kernel, rfl⟩
theorem dd_E_fall_7 : ev_d prog_3_method_2_code 7 (.aload_n 2) 1 8 := ⟨by decide +kernel, rfl⟩
theorem dd_E_fall_8 : ev_d prog_3_method_2_code 8 (.getfield 46) 3 11 := ⟨by decide +kernel, rfl⟩
theorem dd_E_fall_11 : ev_d prog_3_method_2_code 11 (.iconst 4) 1 12 := ⟨by decide +kernel, rfl⟩
theorem dd_E_fall_12 : ev_j prog_3_method_2_code 12 (fun o => .if_icmp .ne o) 15 19 := ⟨7, by decide +kernel, rfl, by decide⟩
theorem dd_E_fall_15 : ev_d prog_3_method_2_code 15 (.iconst 1) 1 16 := ⟨by decide +kernel, rfl⟩
theorem dd_E_fall_16 : ev_j prog_3_method_2_code 16 (fun o => .goto o) 19 20 := ⟨4, by decide +kernel, rfl, by decide⟩
theorem dd_E_fall_19 : ev_d prog_3_method_2_code 19 (.iconst 0) 1 20 := ⟨by decide +kernel, rfl⟩
theorem dd_E_fall_20 : ev_d prog_3_method_2_code 20 (.istore_n 3) 1 21 := ⟨by decide +kernel, rfl⟩
theorem dd_E_fall_21 : ev_d prog_3_method_2_code 21 (.aload_n 2) 1 22 := ⟨by decide +kernel, rfl⟩
theorem dd_E_fall_22 : ev_d prog_3_method_2_code 22 (.iconst 0) 1 23 := ⟨by decide +kernel, rfl⟩
theorem dd_E_fall_23 : ev_d prog_3_method_2_code 23 (.invokevirtual 49) 3 26 := ⟨by decide +kernel, rfl⟩
theorem dd_E_fall_26 : ev_d prog_3_method_2_code 26 (.aload_n 2) 1 27 := ⟨by decide +kernel, rfl⟩
theorem dd_E_fall_27 : ev_d prog_3_method_2_code 27 (.iconst 1) 1 28 := ⟨by decide +kernel, rfl⟩
theorem dd_E_fall_28 : ev_d prog_3_method_2_code 28 (.putfield 53) 3 31 := ⟨by decide +kernel, rfl⟩
theorem dd_E_fall_31 : ev_d prog_3_method_2_code 31 (.iload_n 3) 1 32 := ⟨by decide +kernel, rfl⟩
theorem dd_E_fall_32 : ev_j prog_3_method_2_code 32 (fun o => .ifCond .eq o) 35 60 := ⟨28, by decide +kernel, rfl, by decide⟩
theorem dd_E_fall_35 : ev_d prog_3_method_2_code 35 (.aload_n 2) 1 36 := ⟨by decide +kernel, rfl⟩
theorem dd_E_fall_36 : ev_d prog_3_method_2_code 36 (.getfield 57) 3 39 := ⟨by decide +kernel, rfl⟩
theorem dd_E_fall_39 : ev_d prog_3_method_2_code 39 (.aload_n 2) 1 40 := ⟨by decide +kernel, rfl⟩
theorem dd_E_fall_40 : ev_d prog_3_method_2_code 40 (.getfield 61) 3 43 := ⟨by decide +kernel, rfl⟩
theorem dd_E_fall_43 : ev_d prog_3_method_2_code 43 (.aload_n 2) 1 44 := ⟨by decide +kernel, rfl⟩
theorem dd_E_fall_44 : ev_d prog_3_method_2_code 44 (.getfield 64) 3 47 := ⟨by decide +kernel, rfl⟩
theorem dd_E_fall_47 : ev_d prog_3_method_2_code 47 (.invokevirtual 67) 3 50 := ⟨by decide +kernel, rfl⟩
theorem dd_E_fall_50 : ev_d prog_3_method_2_code 50 (.aload_n 0) 1 51 := ⟨by decide +kernel, rfl⟩
theorem dd_E_fall_51 : ev_d prog_3_method_2_code 51 (.getfield 19) 3 54 := ⟨by decide +kernel, rfl⟩
theorem dd_E_fall_54 : ev_d prog_3_method_2_code 54 (.iload_n 1) 1 55 := ⟨by decide +kernel, rfl⟩
theorem dd_E_fall_55 : ev_d prog_3_method_2_code 55 .aaload 1 56 := ⟨by decide +kernel, rfl⟩
theorem dd_E_fall_56 : ev_d prog_3_method_2_code 56 (.aload_n 2) 1 57 := ⟨by decide +kernel, rfl⟩
theorem dd_E_fall_57 : ev_d prog_3_method_2_code 57 (.invokevirtual 73) 3 60 := ⟨by decide +kernel, rfl⟩
theorem dd_E_fall_60 : ev_d prog_3_method_2_code 60 (.aload_n 2) 1 61 := ⟨by decide +kernel, rfl⟩
theorem dd_E_fall_61 : ev_d prog_3_method_2_code 61 (.invokevirtual 77) 3 64 := ⟨by decide +kernel, rfl⟩
theorem dd_E_fall_64 : ev_d prog_3_method_2_code 64 .return_ 1 65 := ⟨by decide +kernel, rfl⟩
-- S_comeTo
theorem dd_S_comeTo_0 : ev_d prog_7_method_3_code 0 (.aload_n 0) 1 1 := ⟨by decide +kernel, rfl⟩
theorem dd_S_comeTo_1 : ev_d prog_7_method_3_code 1 (.iload_n 1) 1 2 := ⟨by decide +kernel, rfl⟩
theorem dd_S_comeTo_2 : ev_d prog_7_method_3_code 2 (.putfield 9) 3 5 := ⟨by decide +kernel, rfl⟩
theorem dd_S_comeTo_5 : ev_d prog_7_method_3_code 5 (.aload_n 0) 1 6 := ⟨by decide +kernel, rfl⟩
theorem dd_S_comeTo_6 : ev_d prog_7_method_3_code 6 (.iconst 0) 1 7 := ⟨by decide +kernel, rfl⟩
theorem dd_S_comeTo_7 : ev_d prog_7_method_3_code 7 (.putfield 15) 3 10 := ⟨by decide +kernel, rfl⟩
theorem dd_S_comeTo_10 : ev_d prog_7_method_3_code 10 .return_ 1 11 := ⟨by decide +kernel, rfl⟩
-- S_clearRows
theorem dd_S_clearRows_0 : ev_d prog_7_method_4_code 0 (.aload_n 0) 1 1 := ⟨by decide +kernel, rfl⟩
theorem dd_S_clearRows_1 : ev_d prog_7_method_4_code 1 (.getfield 64) 3 4 := ⟨by decide +kernel, rfl⟩
theorem dd_S_clearRows_4 : ev_d prog_7_method_4_code 4 (.invokevirtual 92) 3 7 := ⟨by decide +kernel, rfl⟩
theorem dd_S_clearRows_7 : ev_d prog_7_method_4_code 7 (.aload_n 0) 1 8 := ⟨by decide +kernel, rfl⟩
theorem dd_S_clearRows_8 : ev_d prog_7_method_4_code 8 (.getfield 68) 3 11 := ⟨by decide +kernel, rfl⟩
theorem dd_S_clearRows_11 : ev_d prog_7_method_4_code 11 (.invokevirtual 92) 3 14 := ⟨by decide +kernel, rfl⟩
theorem dd_S_clearRows_14 : ev_d prog_7_method_4_code 14 (.aload_n 0) 1 15 := ⟨by decide +kernel, rfl⟩
theorem dd_S_clearRows_15 : ev_d prog_7_method_4_code 15 (.iconst 0) 1 16 := ⟨by decide +kernel, rfl⟩
theorem dd_S_clearRows_16 : ev_d prog_7_method_4_code 16 (.putfield 58) 3 19 := ⟨by decide +kernel, rfl⟩
theorem dd_S_clearRows_19 : ev_d prog_7_method_4_code 19 .return_ 1 20 := ⟨by decide +kernel, rfl⟩
-- E_numberedComes
theorem dd_E_numberedComes_0 : ev_d prog_3_method_9_code 0 (.aload_n 0) 1 1 := ⟨by decide +kernel, rfl⟩
theorem dd_E_numberedComes_1 : ev_d prog_3_method_9_code 1 (.getfield 11) 3 4 := ⟨by decide +kernel, rfl⟩
theorem dd_E_numberedComes_4 : ev_d prog_3_method_9_code 4 (.iload_n 1) 1 5 := ⟨by decide +kernel, rfl⟩
theorem dd_E_numberedComes_5 : ev_d prog_3_method_9_code 5 .aaload 1 6 := ⟨by decide +kernel, rfl⟩
theorem dd_E_numberedComes_6 : ev_d prog_3_method_9_code 6 (.astore_n 3) 1 7 := ⟨by decide +kernel, rfl⟩
theorem dd_E_numberedComes_7 : ev_d prog_3_method_9_code 7 (.aload_n 3) 1 8 := ⟨by decide +kernel, rfl⟩
theorem dd_E_numberedComes_8 : ev_d prog_3_method_9_code 8 (.getfield 46) 3 11 := ⟨by decide +kernel, rfl⟩
theorem dd_E_numberedComes_11 : ev_d prog_3_method_9_code 11 (.iconst 3) 1 12 := ⟨by decide +kernel, rfl⟩
theorem dd_E_numberedComes_12 : ev_j prog_3_method_9_code 12 (fun o => .if_icmp .ne o) 15 20 := ⟨8, by decide +kernel, rfl, by decide⟩
theorem dd_E_numberedComes_15 : ev_d prog_3_method_9_code 15 (.aload_n 3) 1 16 := ⟨by decide +kernel, rfl⟩
theorem dd_E_numberedComes_16 : ev_d prog_3_method_9_code 16 (.iconst 4) 1 17 := ⟨by decide +kernel, rfl⟩
theorem dd_E_numberedComes_17 : ev_d prog_3_method_9_code 17 (.invokevirtual 49) 3 20 := ⟨by decide +kernel, rfl⟩
theorem dd_E_numberedComes_20 : ev_d prog_3_method_9_code 20 (.aload_n 3) 1 21 := ⟨by decide +kernel, rfl⟩
theorem dd_E_numberedComes_21 : ev_d prog_3_method_9_code 21 (.getfield 46) 3 24 := ⟨by decide +kernel, rfl⟩
theorem dd_E_numberedComes_24 : ev_d prog_3_method_9_code 24 (.iconst 4) 1 25 := ⟨by decide +kernel, rfl⟩
theorem dd_E_numberedComes_25 : ev_j prog_3_method_9_code 25 (fun o => .if_icmp .eq o) 28 29 := ⟨4, by decide +kernel, rfl, by decide⟩
theorem dd_E_numberedComes_28 : ev_d prog_3_method_9_code 28 .return_ 1 29 := ⟨by decide +kernel, rfl⟩
theorem dd_E_numberedComes_29 : ev_d prog_3_method_9_code 29 (.aload_n 3) 1 30 := ⟨by decide +kernel, rfl⟩
theorem dd_E_numberedComes_30 : ev_d prog_3_method_9_code 30 (.invokevirtual 113) 3 33 := ⟨by decide +kernel, rfl⟩
theorem dd_E_numberedComes_33 : ev_d prog_3_method_9_code 33 (.aload_n 3) 1 34 := ⟨by decide +kernel, rfl⟩
theorem dd_E_numberedComes_34 : ev_d prog_3_method_9_code 34 (.aload_n 2) 1 35 := ⟨by decide +kernel, rfl⟩
theorem dd_E_numberedComes_35 : ev_d prog_3_method_9_code 35 (.getfield 116) 3 38 := ⟨by decide +kernel, rfl⟩
theorem dd_E_numberedComes_38 : ev_d prog_3_method_9_code 38 (.invokevirtual 117) 3 41 := ⟨by decide +kernel, rfl⟩
theorem dd_E_numberedComes_41 : ev_j prog_3_method_9_code 41 (fun o => .ifCond .ne o) 44 68 := ⟨27, by decide +kernel, rfl, by decide⟩
theorem dd_E_numberedComes_44 : ev_d prog_3_method_9_code 44 (.aload_n 3) 1 45 := ⟨by decide +kernel, rfl⟩
theorem dd_E_numberedComes_45 : ev_d prog_3_method_9_code 45 .dup 1 46 := ⟨by decide +kernel, rfl⟩
theorem dd_E_numberedComes_46 : ev_d prog_3_method_9_code 46 (.getfield 121) 3 49 := ⟨by decide +kernel, rfl⟩
theorem dd_E_numberedComes_49 : ev_d prog_3_method_9_code 49 (.iconst 1) 1 50 := ⟨by decide +kernel, rfl⟩
theorem dd_E_numberedComes_50 : ev_d prog_3_method_9_code 50 .iadd 1 51 := ⟨by decide +kernel, rfl⟩
theorem dd_E_numberedComes_51 : ev_d prog_3_method_9_code 51 (.putfield 121) 3 54 := ⟨by decide +kernel, rfl⟩
theorem dd_E_numberedComes_54 : ev_d prog_3_method_9_code 54 (.aload_n 3) 1 55 := ⟨by decide +kernel, rfl⟩
theorem dd_E_numberedComes_55 : ev_d prog_3_method_9_code 55 (.getfield 121) 3 58 := ⟨by decide +kernel, rfl⟩
theorem dd_E_numberedComes_58 : ev_d prog_3_method_9_code 58 (.iconst 2) 1 59 := ⟨by decide +kernel, rfl⟩
theorem dd_E_numberedComes_59 : ev_j prog_3_method_9_code 59 (fun o => .if_icmp .lt o) 62 67 := ⟨8, by decide +kernel, rfl, by decide⟩
theorem dd_E_numberedComes_62 : ev_d prog_3_method_9_code 62 (.aload_n 0) 1 63 := ⟨by decide +kernel, rfl⟩
theorem dd_E_numberedComes_63 : ev_d prog_3_method_9_code 63 (.iload_n 1) 1 64 := ⟨by decide +kernel, rfl⟩
theorem dd_E_numberedComes_64 : ev_d prog_3_method_9_code 64 (.invokevirtual 84) 3 67 := ⟨by decide +kernel, rfl⟩
theorem dd_E_numberedComes_67 : ev_d prog_3_method_9_code 67 .return_ 1 68 := ⟨by decide +kernel, rfl⟩
theorem dd_E_numberedComes_68 : ev_d prog_3_method_9_code 68 (.aload_n 3) 1 69 := ⟨by decide +kernel, rfl⟩
theorem dd_E_numberedComes_69 : ev_d prog_3_method_9_code 69 (.iconst 0) 1 70 := ⟨by decide +kernel, rfl⟩
theorem dd_E_numberedComes_70 : ev_d prog_3_method_9_code 70 (.putfield 121) 3 73 := ⟨by decide +kernel, rfl⟩
theorem dd_E_numberedComes_73 : ev_d prog_3_method_9_code 73 (.aload_n 3) 1 74 := ⟨by decide +kernel, rfl⟩
theorem dd_E_numberedComes_74 : ev_d prog_3_method_9_code 74 (.aload_n 2) 1 75 := ⟨by decide +kernel, rfl⟩
theorem dd_E_numberedComes_75 : ev_d prog_3_method_9_code 75 (.getfield 124) 3 78 := ⟨by decide +kernel, rfl⟩
theorem dd_E_numberedComes_78 : ev_d prog_3_method_9_code 78 (.invokevirtual 127) 3 81 := ⟨by decide +kernel, rfl⟩
theorem dd_E_numberedComes_81 : ev_d prog_3_method_9_code 81 (.aload_n 3) 1 82 := ⟨by decide +kernel, rfl⟩
theorem dd_E_numberedComes_82 : ev_d prog_3_method_9_code 82 (.aload_n 2) 1 83 := ⟨by decide +kernel, rfl⟩
theorem dd_E_numberedComes_83 : ev_d prog_3_method_9_code 83 (.invokevirtual 130) 3 86 := ⟨by decide +kernel, rfl⟩
theorem dd_E_numberedComes_86 : ev_d prog_3_method_9_code 86 (.astore 4) 2 88 := ⟨by decide +kernel, rfl⟩
theorem dd_E_numberedComes_88 : ev_d prog_3_method_9_code 88 (.aload 4) 2 90 := ⟨by decide +kernel, rfl⟩
theorem dd_E_numberedComes_90 : ev_j prog_3_method_9_code 90 (fun o => .ifnull o) 93 99 := ⟨9, by decide +kernel, rfl, by decide⟩
theorem dd_E_numberedComes_93 : ev_d prog_3_method_9_code 93 (.aload_n 0) 1 94 := ⟨by decide +kernel, rfl⟩
theorem dd_E_numberedComes_94 : ev_d prog_3_method_9_code 94 (.aload 4) 2 96 := ⟨by decide +kernel, rfl⟩
theorem dd_E_numberedComes_96 : ev_d prog_3_method_9_code 96 (.invokevirtual 134) 3 99 := ⟨by decide +kernel, rfl⟩
theorem dd_E_numberedComes_99 : ev_d prog_3_method_9_code 99 .return_ 1 100 := ⟨by decide +kernel, rfl⟩
-- S_countGood
theorem dd_S_countGood_0 : ev_d prog_7_method_7_code 0 (.aload_n 0) 1 1 := ⟨by decide +kernel, rfl⟩
theorem dd_S_countGood_1 : ev_d prog_7_method_7_code 1 .dup 1 2 := ⟨by decide +kernel, rfl⟩
theorem dd_S_countGood_2 : ev_d prog_7_method_7_code 2 (.getfield 45) 3 5 := ⟨by decide +kernel, rfl⟩
theorem dd_S_countGood_5 : ev_d prog_7_method_7_code 5 (.iconst 1) 1 6 := ⟨by decide +kernel, rfl⟩
theorem dd_S_countGood_6 : ev_d prog_7_method_7_code 6 .iadd 1 7 := ⟨by decide +kernel, rfl⟩
theorem dd_S_countGood_7 : ev_d prog_7_method_7_code 7 (.putfield 45) 3 10 := ⟨by decide +kernel, rfl⟩
theorem dd_S_countGood_10 : ev_d prog_7_method_7_code 10 (.aload_n 0) 1 11 := ⟨by decide +kernel, rfl⟩
theorem dd_S_countGood_11 : ev_d prog_7_method_7_code 11 (.getfield 45) 3 14 := ⟨by decide +kernel, rfl⟩
theorem dd_S_countGood_14 : ev_d prog_7_method_7_code 14 (.bipush 8) 2 16 := ⟨by decide +kernel, rfl⟩
theorem dd_S_countGood_16 : ev_j prog_7_method_7_code 16 (fun o => .if_icmp .lt o) 19 41 := ⟨25, by decide +kernel, rfl, by decide⟩
theorem dd_S_countGood_19 : ev_d prog_7_method_7_code 19 (.aload_n 0) 1 20 := ⟨by decide +kernel, rfl⟩
theorem dd_S_countGood_20 : ev_d prog_7_method_7_code 20 (.iconst 0) 1 21 := ⟨by decide +kernel, rfl⟩
theorem dd_S_countGood_21 : ev_d prog_7_method_7_code 21 (.putfield 45) 3 24 := ⟨by decide +kernel, rfl⟩
theorem dd_S_countGood_24 : ev_d prog_7_method_7_code 24 (.aload_n 0) 1 25 := ⟨by decide +kernel, rfl⟩
theorem dd_S_countGood_25 : ev_d prog_7_method_7_code 25 (.getfield 42) 3 28 := ⟨by decide +kernel, rfl⟩
theorem dd_S_countGood_28 : ev_j prog_7_method_7_code 28 (fun o => .ifCond .le o) 31 41 := ⟨13, by decide +kernel, rfl, by decide⟩
theorem dd_S_countGood_31 : ev_d prog_7_method_7_code 31 (.aload_n 0) 1 32 := ⟨by decide +kernel, rfl⟩
theorem dd_S_countGood_32 : ev_d prog_7_method_7_code 32 .dup 1 33 := ⟨by decide +kernel, rfl⟩
theorem dd_S_countGood_33 : ev_d prog_7_method_7_code 33 (.getfield 42) 3 36 := ⟨by decide +kernel, rfl⟩
theorem dd_S_countGood_36 : ev_d prog_7_method_7_code 36 (.iconst 1) 1 37 := ⟨by decide +kernel, rfl⟩
theorem dd_S_countGood_37 : ev_d prog_7_method_7_code 37 .isub 1 38 := ⟨by decide +kernel, rfl⟩
theorem dd_S_countGood_38 : ev_d prog_7_method_7_code 38 (.putfield 42) 3 41 := ⟨by decide +kernel, rfl⟩
theorem dd_S_countGood_41 : ev_d prog_7_method_7_code 41 .return_ 1 42 := ⟨by decide +kernel, rfl⟩
-- S_answered
theorem dd_S_answered_0 : ev_d prog_7_method_8_code 0 (.iload_n 1) 1 1 := ⟨by decide +kernel, rfl⟩
theorem dd_S_answered_1 : ev_d prog_7_method_8_code 1 (.aload_n 0) 1 2 := ⟨by decide +kernel, rfl⟩
theorem dd_S_answered_2 : ev_d prog_7_method_8_code 2 (.getfield 24) 3 5 := ⟨by decide +kernel, rfl⟩
theorem dd_S_answered_5 : ev_d prog_7_method_8_code 5 .isub 1 6 := ⟨by decide +kernel, rfl⟩
theorem dd_S_answered_6 : ev_d prog_7_method_8_code 6 (.aload_n 0) 1 7 := ⟨by decide +kernel, rfl⟩
theorem dd_S_answered_7 : ev_d prog_7_method_8_code 7 (.getfield 64) 3 10 := ⟨by decide +kernel, rfl⟩
theorem dd_S_answered_10 : ev_d prog_7_method_8_code 10 (.invokevirtual 99) 3 13 := ⟨by decide +kernel, rfl⟩
theorem dd_S_answered_13 : ev_d prog_7_method_8_code 13 .iadd 1 14 := ⟨by decide +kernel, rfl⟩
theorem dd_S_answered_14 : ev_d prog_7_method_8_code 14 (.bipush 8) 2 16 := ⟨by decide +kernel, rfl⟩
theorem dd_S_answered_16 : ev_d prog_7_method_8_code 16 (.invokestatic 112) 3 19 := ⟨by decide +kernel, rfl⟩
theorem dd_S_answered_19 : ev_d prog_7_method_8_code 19 (.istore_n 2) 1 20 := ⟨by decide +kernel, rfl⟩
theorem dd_S_answered_20 : ev_d prog_7_method_8_code 20 (.iload_n 2) 1 21 := ⟨by decide +kernel, rfl⟩
theorem dd_S_answered_21 : ev_d prog_7_method_8_code 21 (.aload_n 0) 1 22 := ⟨by decide +kernel, rfl⟩
theorem dd_S_answered_22 : ev_d prog_7_method_8_code 22 (.getfield 64) 3 25 := ⟨by decide +kernel, rfl⟩
theorem dd_S_answered_25 : ev_d prog_7_method_8_code 25 (.invokevirtual 99) 3 28 := ⟨by decide +kernel, rfl⟩
theorem dd_S_answered_28 : ev_j prog_7_method_8_code 28 (fun o => .if_icmp .le o) 31 33 := ⟨5, by decide +kernel, rfl, by decide⟩
theorem dd_S_answered_31 : ev_d prog_7_method_8_code 31 (.iconst 0) 1 32 := ⟨by decide +kernel, rfl⟩
theorem dd_S_answered_32 : ev_d prog_7_method_8_code 32 .ireturn 1 33 := ⟨by decide +kernel, rfl⟩
theorem dd_S_answered_33 : ev_d prog_7_method_8_code 33 (.aload_n 0) 1 34 := ⟨by decide +kernel, rfl⟩
theorem dd_S_answered_34 : ev_d prog_7_method_8_code 34 (.getfield 64) 3 37 := ⟨by decide +kernel, rfl⟩
theorem dd_S_answered_37 : ev_d prog_7_method_8_code 37 (.iload_n 2) 1 38 := ⟨by decide +kernel, rfl⟩
theorem dd_S_answered_38 : ev_d prog_7_method_8_code 38 (.invokestatic 118) 3 41 := ⟨by decide +kernel, rfl⟩
theorem dd_S_answered_41 : ev_d prog_7_method_8_code 41 (.aload_n 0) 1 42 := ⟨by decide +kernel, rfl⟩
theorem dd_S_answered_42 : ev_d prog_7_method_8_code 42 (.aload_n 0) 1 43 := ⟨by decide +kernel, rfl⟩
theorem dd_S_answered_43 : ev_d prog_7_method_8_code 43 (.getfield 58) 3 46 := ⟨by decide +kernel, rfl⟩
theorem dd_S_answered_46 : ev_d prog_7_method_8_code 46 (.aload_n 0) 1 47 := ⟨by decide +kernel, rfl⟩
theorem dd_S_answered_47 : ev_d prog_7_method_8_code 47 (.getfield 64) 3 50 := ⟨by decide +kernel, rfl⟩
theorem dd_S_answered_50 : ev_d prog_7_method_8_code 50 (.invokevirtual 99) 3 53 := ⟨by decide +kernel, rfl⟩
theorem dd_S_answered_53 : ev_d prog_7_method_8_code 53 (.invokestatic 122) 3 56 := ⟨by decide +kernel, rfl⟩
theorem dd_S_answered_56 : ev_d prog_7_method_8_code 56 (.putfield 58) 3 59 := ⟨by decide +kernel, rfl⟩
theorem dd_S_answered_59 : ev_d prog_7_method_8_code 59 (.iload_n 2) 1 60 := ⟨by decide +kernel, rfl⟩
theorem dd_S_answered_60 : ev_j prog_7_method_8_code 60 (fun o => .ifCond .le o) 63 68 := ⟨8, by decide +kernel, rfl, by decide⟩
theorem dd_S_answered_63 : ev_d prog_7_method_8_code 63 (.aload_n 0) 1 64 := ⟨by decide +kernel, rfl⟩
theorem dd_S_answered_64 : ev_d prog_7_method_8_code 64 (.iconst 0) 1 65 := ⟨by decide +kernel, rfl⟩
theorem dd_S_answered_65 : ev_d prog_7_method_8_code 65 (.putfield 48) 3 68 := ⟨by decide +kernel, rfl⟩
theorem dd_S_answered_68 : ev_d prog_7_method_8_code 68 (.iconst 1) 1 69 := ⟨by decide +kernel, rfl⟩
theorem dd_S_answered_69 : ev_d prog_7_method_8_code 69 .ireturn 1 70 := ⟨by decide +kernel, rfl⟩
-- S_followBackBit
theorem dd_S_followBackBit_0 : ev_d prog_7_method_9_code 0 (.iload_n 1) 1 1 := ⟨by decide +kernel, rfl⟩
theorem dd_S_followBackBit_1 : ev_d prog_7_method_9_code 1 (.aload_n 0) 1 2 := ⟨by decide +kernel, rfl⟩
theorem dd_S_followBackBit_2 : ev_d prog_7_method_9_code 2 (.getfield 30) 3 5 := ⟨by decide +kernel, rfl⟩
theorem dd_S_followBackBit_5 : ev_j prog_7_method_9_code 5 (fun o => .if_icmp .eq o) 8 24 := ⟨19, by decide +kernel, rfl, by decide⟩
theorem dd_S_followBackBit_8 : ev_d prog_7_method_9_code 8 (.aload_n 0) 1 9 := ⟨by decide +kernel, rfl⟩
theorem dd_S_followBackBit_9 : ev_d prog_7_method_9_code 9 (.iload_n 1) 1 10 := ⟨by decide +kernel, rfl⟩
theorem dd_S_followBackBit_10 : ev_d prog_7_method_9_code 10 (.putfield 30) 3 13 := ⟨by decide +kernel, rfl⟩
theorem dd_S_followBackBit_13 : ev_d prog_7_method_9_code 13 (.aload_n 0) 1 14 := ⟨by decide +kernel, rfl⟩
theorem dd_S_followBackBit_14 : ev_d prog_7_method_9_code 14 (.aload_n 0) 1 15 := ⟨by decide +kernel, rfl⟩
theorem dd_S_followBackBit_15 : ev_d prog_7_method_9_code 15 (.getfield 64) 3 18 := ⟨by decide +kernel, rfl⟩
theorem dd_S_followBackBit_18 : ev_d prog_7_method_9_code 18 (.invokevirtual 99) 3 21 := ⟨by decide +kernel, rfl⟩
theorem dd_S_followBackBit_21 : ev_d prog_7_method_9_code 21 (.putfield 58) 3 24 := ⟨by decide +kernel, rfl⟩
theorem dd_S_followBackBit_24 : ev_d prog_7_method_9_code 24 .return_ 1 25 := ⟨by decide +kernel, rfl⟩
-- S_nextIn
theorem dd_S_nextIn_0 : ev_d prog_7_method_10_code 0 (.aload_n 1) 1 1 := ⟨by decide +kernel, rfl⟩
theorem dd_S_nextIn_1 : ev_d prog_7_method_10_code 1 (.getfield 125) 3 4 := ⟨by decide +kernel, rfl⟩
theorem dd_S_nextIn_4 : ev_d prog_7_method_10_code 4 (.aload_n 0) 1 5 := ⟨by decide +kernel, rfl⟩
theorem dd_S_nextIn_5 : ev_d prog_7_method_10_code 5 (.getfield 33) 3 8 := ⟨by decide +kernel, rfl⟩
theorem dd_S_nextIn_8 : ev_j prog_7_method_10_code 8 (fun o => .if_icmp .eq o) 11 13 := ⟨5, by decide +kernel, rfl, by decide⟩
theorem dd_S_nextIn_11 : ev_d prog_7_method_10_code 11 .aconst_null 1 12 := ⟨by decide +kernel, rfl⟩
theorem dd_S_nextIn_12 : ev_d prog_7_method_10_code 12 .areturn 1 13 := ⟨by decide +kernel, rfl⟩
theorem dd_S_nextIn_13 : ev_d prog_7_method_10_code 13 (.aload_n 0) 1 14 := ⟨by decide +kernel, rfl⟩
theorem dd_S_nextIn_14 : ev_d prog_7_method_10_code 14 (.getfield 27) 3 17 := ⟨by decide +kernel, rfl⟩
theorem dd_S_nextIn_17 : ev_d prog_7_method_10_code 17 (.iconst 1) 1 18 := ⟨by decide +kernel, rfl⟩
theorem dd_S_nextIn_18 : ev_d prog_7_method_10_code 18 .iadd 1 19 := ⟨by decide +kernel, rfl⟩
theorem dd_S_nextIn_19 : ev_d prog_7_method_10_code 19 (.bipush 8) 2 21 := ⟨by decide +kernel, rfl⟩
theorem dd_S_nextIn_21 : ev_d prog_7_method_10_code 21 (.invokestatic 112) 3 24 := ⟨by decide +kernel, rfl⟩
theorem dd_S_nextIn_24 : ev_d prog_7_method_10_code 24 (.istore_n 2) 1 25 := ⟨by decide +kernel, rfl⟩
theorem dd_S_nextIn_25 : ev_d prog_7_method_10_code 25 (.aload_n 1) 1 26 := ⟨by decide +kernel, rfl⟩
theorem dd_S_nextIn_26 : ev_d prog_7_method_10_code 26 (.getfield 126) 3 29 := ⟨by decide +kernel, rfl⟩
theorem dd_S_nextIn_29 : ev_j prog_7_method_10_code 29 (fun o => .ifnull o) 32 50 := ⟨21, by decide +kernel, rfl, by decide⟩
theorem dd_S_nextIn_32 : ev_d prog_7_method_10_code 32 (.aload_n 1) 1 33 := ⟨by decide +kernel, rfl⟩
theorem dd_S_nextIn_33 : ev_d prog_7_method_10_code 33 (.getfield 130) 3 36 := ⟨by decide +kernel, rfl⟩
theorem dd_S_nextIn_36 : ev_d prog_7_method_10_code 36 (.iload_n 2) 1 37 := ⟨by decide +kernel, rfl⟩
theorem dd_S_nextIn_37 : ev_j prog_7_method_10_code 37 (fun o => .if_icmp .ne o) 40 50 := ⟨13, by decide +kernel, rfl, by decide⟩
theorem dd_S_nextIn_40 : ev_d prog_7_method_10_code 40 (.aload_n 0) 1 41 := ⟨by decide +kernel, rfl⟩
theorem dd_S_nextIn_41 : ev_d prog_7_method_10_code 41 (.iload_n 2) 1 42 := ⟨by decide +kernel, rfl⟩
theorem dd_S_nextIn_42 : ev_d prog_7_method_10_code 42 (.putfield 27) 3 45 := ⟨by decide +kernel, rfl⟩
theorem dd_S_nextIn_45 : ev_d prog_7_method_10_code 45 (.aload_n 1) 1 46 := ⟨by decide +kernel, rfl⟩
theorem dd_S_nextIn_46 : ev_d prog_7_method_10_code 46 (.getfield 126) 3 49 := ⟨by decide +kernel, rfl⟩
theorem dd_S_nextIn_49 : ev_d prog_7_method_10_code 49 .areturn 1 50 := ⟨by decide +kernel, rfl⟩
theorem dd_S_nextIn_50 : ev_d prog_7_method_10_code 50 (.aload_n 1) 1 51 := ⟨by decide +kernel, rfl⟩
theorem dd_S_nextIn_51 : ev_d prog_7_method_10_code 51 (.getfield 130) 3 54 := ⟨by decide +kernel, rfl⟩
theorem dd_S_nextIn_54 : ev_d prog_7_method_10_code 54 (.aload_n 0) 1 55 := ⟨by decide +kernel, rfl⟩
theorem dd_S_nextIn_55 : ev_d prog_7_method_10_code 55 (.getfield 27) 3 58 := ⟨by decide +kernel, rfl⟩
theorem dd_S_nextIn_58 : ev_j prog_7_method_10_code 58 (fun o => .if_icmp .eq o) 61 71 := ⟨13, by decide +kernel, rfl, by decide⟩
theorem dd_S_nextIn_61 : ev_d prog_7_method_10_code 61 (.aload_n 0) 1 62 := ⟨by decide +kernel, rfl⟩
theorem dd_S_nextIn_62 : ev_d prog_7_method_10_code 62 (.iconst 1) 1 63 := ⟨by decide +kernel, rfl⟩
theorem dd_S_nextIn_63 : ev_d prog_7_method_10_code 63 (.aload_n 0) 1 64 := ⟨by decide +kernel, rfl⟩
theorem dd_S_nextIn_64 : ev_d prog_7_method_10_code 64 (.getfield 33) 3 67 := ⟨by decide +kernel, rfl⟩
theorem dd_S_nextIn_67 : ev_d prog_7_method_10_code 67 .isub 1 68 := ⟨by decide +kernel, rfl⟩
theorem dd_S_nextIn_68 : ev_d prog_7_method_10_code 68 (.putfield 33) 3 71 := ⟨by decide +kernel, rfl⟩
theorem dd_S_nextIn_71 : ev_d prog_7_method_10_code 71 .aconst_null 1 72 := ⟨by decide +kernel, rfl⟩
theorem dd_S_nextIn_72 : ev_d prog_7_method_10_code 72 .areturn 1 73 := ⟨by decide +kernel, rfl⟩
-- E_takeIn
theorem dd_E_takeIn_0 : ev_d prog_3_method_10_code 0 (.aload_n 1) 1 1 := ⟨by decide +kernel, rfl⟩
theorem dd_E_takeIn_1 : ev_d prog_3_method_10_code 1 (.getfield 138) 3 4 := ⟨by decide +kernel, rfl⟩
theorem dd_E_takeIn_4 : ev_d prog_3_method_10_code 4 (.iconst 4) 1 5 := ⟨by decide +kernel, rfl⟩
theorem dd_E_takeIn_5 : ev_j prog_3_method_10_code 5 (fun o => .if_icmp .ne o) 8 16 := ⟨11, by decide +kernel, rfl, by decide⟩
theorem dd_E_takeIn_8 : ev_d prog_3_method_10_code 8 (.aload_n 0) 1 9 := ⟨by decide +kernel, rfl⟩
theorem dd_E_takeIn_9 : ev_d prog_3_method_10_code 9 (.aload_n 1) 1 10 := ⟨by decide +kernel, rfl⟩
theorem dd_E_takeIn_10 : ev_d prog_3_method_10_code 10 (.invokevirtual 143) 3 13 := ⟨by decide +kernel, rfl⟩
theorem dd_E_takeIn_13 : ev_j prog_3_method_10_code 13 (fun o => .goto o) 16 41 := ⟨28, by decide +kernel, rfl, by decide⟩
theorem dd_E_takeIn_16 : ev_d prog_3_method_10_code 16 (.aload_n 1) 1 17 := ⟨by decide +kernel, rfl⟩
theorem dd_E_takeIn_17 : ev_d prog_3_method_10_code 17 (.getfield 138) 3 20 := ⟨by decide +kernel, rfl⟩
theorem dd_E_takeIn_20 : ev_d prog_3_method_10_code 20 (.iconst 5) 1 21 := ⟨by decide +kernel, rfl⟩
theorem dd_E_takeIn_21 : ev_j prog_3_method_10_code 21 (fun o => .if_icmp .ne o) 24 32 := ⟨11, by decide +kernel, rfl, by decide⟩
theorem dd_E_takeIn_24 : ev_d prog_3_method_10_code 24 (.aload_n 0) 1 25 := ⟨by decide +kernel, rfl⟩
theorem dd_E_takeIn_25 : ev_d prog_3_method_10_code 25 (.aload_n 1) 1 26 := ⟨by decide +kernel, rfl⟩
theorem dd_E_takeIn_26 : ev_d prog_3_method_10_code 26 (.invokevirtual 146) 3 29 := ⟨by decide +kernel, rfl⟩
theorem dd_E_takeIn_29 : ev_j prog_3_method_10_code 29 (fun o => .goto o) 32 41 := ⟨12, by decide +kernel, rfl, by decide⟩
theorem dd_E_takeIn_32 : ev_d prog_3_method_10_code 32 (.aload_n 0) 1 33 := ⟨by decide +kernel, rfl⟩
theorem dd_E_takeIn_33 : ev_d prog_3_method_10_code 33 (.getfield 39) 3 36 := ⟨by decide +kernel, rfl⟩
theorem dd_E_takeIn_36 : ev_d prog_3_method_10_code 36 (.aload_n 1) 1 37 := ⟨by decide +kernel, rfl⟩
theorem dd_E_takeIn_37 : ev_d prog_3_method_10_code 37 (.invokevirtual 149) 3 40 := ⟨by decide +kernel, rfl⟩
theorem dd_E_takeIn_40 : ev_d prog_3_method_10_code 40 .pop 1 41 := ⟨by decide +kernel, rfl⟩
theorem dd_E_takeIn_41 : ev_d prog_3_method_10_code 41 .return_ 1 42 := ⟨by decide +kernel, rfl⟩
-- E_takeOrder
theorem dd_E_takeOrder_0 : ev_d prog_3_method_11_code 0 (.aload_n 1) 1 1 := ⟨by decide +kernel, rfl⟩
theorem dd_E_takeOrder_1 : ev_d prog_3_method_11_code 1 (.getfield 153) 3 4 := ⟨by decide +kernel, rfl⟩
theorem dd_E_takeOrder_4 : ev_d prog_3_method_11_code 4 (.istore_n 2) 1 5 := ⟨by decide +kernel, rfl⟩
theorem dd_E_takeOrder_5 : ev_d prog_3_method_11_code 5 (.aload_n 0) 1 6 := ⟨by decide +kernel, rfl⟩
theorem dd_E_takeOrder_6 : ev_d prog_3_method_11_code 6 (.getfield 11) 3 9 := ⟨by decide +kernel, rfl⟩
theorem dd_E_takeOrder_9 : ev_d prog_3_method_11_code 9 (.iload_n 2) 1 10 := ⟨by decide +kernel, rfl⟩
theorem dd_E_takeOrder_10 : ev_d prog_3_method_11_code 10 .aaload 1 11 := ⟨by decide +kernel, rfl⟩
theorem dd_E_takeOrder_11 : ev_d prog_3_method_11_code 11 (.astore_n 3) 1 12 := ⟨by decide +kernel, rfl⟩
theorem dd_E_takeOrder_12 : ev_d prog_3_method_11_code 12 (.aload_n 3) 1 13 := ⟨by decide +kernel, rfl⟩
theorem dd_E_takeOrder_13 : ev_d prog_3_method_11_code 13 (.getfield 46) 3 16 := ⟨by decide +kernel, rfl⟩
theorem dd_E_takeOrder_16 : ev_d prog_3_method_11_code 16 (.iconst 4) 1 17 := ⟨by decide +kernel, rfl⟩
theorem dd_E_takeOrder_17 : ev_j prog_3_method_11_code 17 (fun o => .if_icmp .ne o) 20 36 := ⟨19, by decide +kernel, rfl, by decide⟩
theorem dd_E_takeOrder_20 : ev_d prog_3_method_11_code 20 (.aload_n 3) 1 21 := ⟨by decide +kernel, rfl⟩
theorem dd_E_takeOrder_21 : ev_d prog_3_method_11_code 21 (.getfield 61) 3 24 := ⟨by decide +kernel, rfl⟩
theorem dd_E_takeOrder_24 : ev_d prog_3_method_11_code 24 (.aload_n 1) 1 25 := ⟨by decide +kernel, rfl⟩
theorem dd_E_takeOrder_25 : ev_d prog_3_method_11_code 25 (.getfield 156) 3 28 := ⟨by decide +kernel, rfl⟩
theorem dd_E_takeOrder_28 : ev_j prog_3_method_11_code 28 (fun o => .if_icmp .ne o) 31 36 := ⟨8, by decide +kernel, rfl, by decide⟩
theorem dd_E_takeOrder_31 : ev_d prog_3_method_11_code 31 (.aload_n 0) 1 32 := ⟨by decide +kernel, rfl⟩
theorem dd_E_takeOrder_32 : ev_d prog_3_method_11_code 32 (.iload_n 2) 1 33 := ⟨by decide +kernel, rfl⟩
theorem dd_E_takeOrder_33 : ev_d prog_3_method_11_code 33 (.invokevirtual 84) 3 36 := ⟨by decide +kernel, rfl⟩
theorem dd_E_takeOrder_36 : ev_d prog_3_method_11_code 36 (.aload_n 3) 1 37 := ⟨by decide +kernel, rfl⟩
theorem dd_E_takeOrder_37 : ev_d prog_3_method_11_code 37 (.getfield 57) 3 40 := ⟨by decide +kernel, rfl⟩
theorem dd_E_takeOrder_40 : ev_d prog_3_method_11_code 40 (.aload_n 1) 1 41 := ⟨by decide +kernel, rfl⟩
theorem dd_E_takeOrder_41 : ev_d prog_3_method_11_code 41 (.getfield 156) 3 44 := ⟨by decide +kernel, rfl⟩
theorem dd_E_takeOrder_44 : ev_d prog_3_method_11_code 44 (.invokevirtual 157) 3 47 := ⟨by decide +kernel, rfl⟩
theorem dd_E_takeOrder_47 : ev_d prog_3_method_11_code 47 (.istore 4) 2 49 := ⟨by decide +kernel, rfl⟩
theorem dd_E_takeOrder_49 : ev_d prog_3_method_11_code 49 (.aload_n 0) 1 50 := ⟨by decide +kernel, rfl⟩
theorem dd_E_takeOrder_50 : ev_d prog_3_method_11_code 50 (.new 139) 3 53 := ⟨by decide +kernel, rfl⟩
theorem dd_E_takeOrder_53 : ev_d prog_3_method_11_code 53 .dup 1 54 := ⟨by decide +kernel, rfl⟩
theorem dd_E_takeOrder_54 : ev_d prog_3_method_11_code 54 (.iconst 5) 1 55 := ⟨by decide +kernel, rfl⟩
theorem dd_E_takeOrder_55 : ev_d prog_3_method_11_code 55 (.iload_n 2) 1 56 := ⟨by decide +kernel, rfl⟩
theorem dd_E_takeOrder_56 : ev_d prog_3_method_11_code 56 (.iload 4) 2 58 := ⟨by decide +kernel, rfl⟩
theorem dd_E_takeOrder_58 : ev_d prog_3_method_11_code 58 (.aload_n 1) 1 59 := ⟨by decide +kernel, rfl⟩
theorem dd_E_takeOrder_59 : ev_d prog_3_method_11_code 59 (.getfield 156) 3 62 := ⟨by decide +kernel, rfl⟩
theorem dd_E_takeOrder_62 : ev_d prog_3_method_11_code 62 (.invokespecial 161) 3 65 := ⟨by decide +kernel, rfl⟩
theorem dd_E_takeOrder_65 : ev_d prog_3_method_11_code 65 (.invokevirtual 164) 3 68 := ⟨by decide +kernel, rfl⟩
theorem dd_E_takeOrder_68 : ev_d prog_3_method_11_code 68 (.aload_n 0) 1 69 := ⟨by decide +kernel, rfl⟩
theorem dd_E_takeOrder_69 : ev_d prog_3_method_11_code 69 (.getfield 19) 3 72 := ⟨by decide +kernel, rfl⟩
theorem dd_E_takeOrder_72 : ev_d prog_3_method_11_code 72 (.iload_n 2) 1 73 := ⟨by decide +kernel, rfl⟩
theorem dd_E_takeOrder_73 : ev_d prog_3_method_11_code 73 .aaload 1 74 := ⟨by decide +kernel, rfl⟩
theorem dd_E_takeOrder_74 : ev_d prog_3_method_11_code 74 (.astore 5) 2 76 := ⟨by decide +kernel, rfl⟩
theorem dd_E_takeOrder_76 : ev_d prog_3_method_11_code 76 (.aload 5) 2 78 := ⟨by decide +kernel, rfl⟩
theorem dd_E_takeOrder_78 : ev_d prog_3_method_11_code 78 (.getfield 167) 3 81 := ⟨by decide +kernel, rfl⟩
theorem dd_E_takeOrder_81 : ev_j prog_3_method_11_code 81 (fun o => .ifCond .eq o) 84 113 := ⟨32, by decide +kernel, rfl, by decide⟩
theorem dd_E_takeOrder_84 : ev_d prog_3_method_11_code 84 (.aload 5) 2 86 := ⟨by decide +kernel, rfl⟩
theorem dd_E_takeOrder_86 : ev_d prog_3_method_11_code 86 (.getfield 170) 3 89 := ⟨by decide +kernel, rfl⟩
theorem dd_E_takeOrder_89 : ev_j prog_3_method_11_code 89 (fun o => .ifCond .ne o) 92 113 := ⟨24, by decide +kernel, rfl, by decide⟩
theorem dd_E_takeOrder_92 : ev_d prog_3_method_11_code 92 (.aload 5) 2 94 := ⟨by decide +kernel, rfl⟩
theorem dd_E_takeOrder_94 : ev_d prog_3_method_11_code 94 (.getfield 173) 3 97 := ⟨by decide +kernel, rfl⟩
theorem dd_E_takeOrder_97 : ev_d prog_3_method_11_code 97 (.aload_n 1) 1 98 := ⟨by decide +kernel, rfl⟩
theorem dd_E_takeOrder_98 : ev_d prog_3_method_11_code 98 (.getfield 156) 3 101 := ⟨by decide +kernel, rfl⟩
theorem dd_E_takeOrder_101 : ev_j prog_3_method_11_code 101 (fun o => .if_icmp .ne o) 104 113 := ⟨12, by decide +kernel, rfl, by decide⟩
theorem dd_E_takeOrder_104 : ev_d prog_3_method_11_code 104 (.aload 5) 2 106 := ⟨by decide +kernel, rfl⟩
theorem dd_E_takeOrder_106 : ev_d prog_3_method_11_code 106 (.aload_n 1) 1 107 := ⟨by decide +kernel, rfl⟩
theorem dd_E_takeOrder_107 : ev_d prog_3_method_11_code 107 (.getfield 174) 3 110 := ⟨by decide +kernel, rfl⟩
theorem dd_E_takeOrder_110 : ev_d prog_3_method_11_code 110 (.invokevirtual 177) 3 113 := ⟨by decide +kernel, rfl⟩
theorem dd_E_takeOrder_113 : ev_d prog_3_method_11_code 113 .return_ 1 114 := ⟨by decide +kernel, rfl⟩
-- E_say
theorem dd_E_say_0 : ev_d prog_3_method_14_code 0 (.aload_n 0) 1 1 := ⟨by decide +kernel, rfl⟩
theorem dd_E_say_1 : ev_d prog_3_method_14_code 1 (.invokevirtual 181) 3 4 := ⟨by decide +kernel, rfl⟩
theorem dd_E_say_4 : ev_d prog_3_method_14_code 4 (.istore_n 2) 1 5 := ⟨by decide +kernel, rfl⟩
theorem dd_E_say_5 : ev_d prog_3_method_14_code 5 (.iload_n 2) 1 6 := ⟨by decide +kernel, rfl⟩
theorem dd_E_say_6 : ev_d prog_3_method_14_code 6 (.iconst (-1)) 1 7 := ⟨by decide +kernel, rfl⟩
theorem dd_E_say_7 : ev_j prog_3_method_14_code 7 (fun o => .if_icmp .eq o) 10 24 := ⟨17, by decide +kernel, rfl, by decide⟩
theorem dd_E_say_10 : ev_d prog_3_method_14_code 10 (.aload_n 0) 1 11 := ⟨by decide +kernel, rfl⟩
theorem dd_E_say_11 : ev_d prog_3_method_14_code 11 (.getfield 11) 3 14 := ⟨by decide +kernel, rfl⟩
theorem dd_E_say_14 : ev_d prog_3_method_14_code 14 (.iload_n 2) 1 15 := ⟨by decide +kernel, rfl⟩
theorem dd_E_say_15 : ev_d prog_3_method_14_code 15 .aaload 1 16 := ⟨by decide +kernel, rfl⟩
theorem dd_E_say_16 : ev_d prog_3_method_14_code 16 (.getfield 185) 3 19 := ⟨by decide +kernel, rfl⟩
theorem dd_E_say_19 : ev_d prog_3_method_14_code 19 (.aload_n 1) 1 20 := ⟨by decide +kernel, rfl⟩
theorem dd_E_say_20 : ev_d prog_3_method_14_code 20 (.invokevirtual 149) 3 23 := ⟨by decide +kernel, rfl⟩
theorem dd_E_say_23 : ev_d prog_3_method_14_code 23 .pop 1 24 := ⟨by decide +kernel, rfl⟩
theorem dd_E_say_24 : ev_d prog_3_method_14_code 24 .return_ 1 25 := ⟨by decide +kernel, rfl⟩
-- E_firstServing
theorem dd_E_firstServing_0 : ev_d prog_3_method_13_code 0 (.iconst 0) 1 1 := ⟨by decide +kernel, rfl⟩
theorem dd_E_firstServing_1 : ev_d prog_3_method_13_code 1 (.istore_n 1) 1 2 := ⟨by decide +kernel, rfl⟩
theorem dd_E_firstServing_2 : ev_d prog_3_method_13_code 2 (.iload_n 1) 1 3 := ⟨by decide +kernel, rfl⟩
theorem dd_E_firstServing_3 : ev_d prog_3_method_13_code 3 (.iconst 3) 1 4 := ⟨by decide +kernel, rfl⟩
theorem dd_E_firstServing_4 : ev_j prog_3_method_13_code 4 (fun o => .if_icmp .ge o) 7 28 := ⟨24, by decide +kernel, rfl, by decide⟩
theorem dd_E_firstServing_7 : ev_d prog_3_method_13_code 7 (.aload_n 0) 1 8 := ⟨by decide +kernel, rfl⟩
theorem dd_E_firstServing_8 : ev_d prog_3_method_13_code 8 (.getfield 11) 3 11 := ⟨by decide +kernel, rfl⟩
theorem dd_E_firstServing_11 : ev_d prog_3_method_13_code 11 (.iload_n 1) 1 12 := ⟨by decide +kernel, rfl⟩
theorem dd_E_firstServing_12 : ev_d prog_3_method_13_code 12 .aaload 1 13 := ⟨by decide +kernel, rfl⟩
theorem dd_E_firstServing_13 : ev_d prog_3_method_13_code 13 (.getfield 46) 3 16 := ⟨by decide +kernel, rfl⟩
theorem dd_E_firstServing_16 : ev_d prog_3_method_13_code 16 (.iconst 4) 1 17 := ⟨by decide +kernel, rfl⟩
theorem dd_E_firstServing_17 : ev_j prog_3_method_13_code 17 (fun o => .if_icmp .ne o) 20 22 := ⟨5, by decide +kernel, rfl, by decide⟩
theorem dd_E_firstServing_20 : ev_d prog_3_method_13_code 20 (.iload_n 1) 1 21 := ⟨by decide +kernel, rfl⟩
theorem dd_E_firstServing_21 : ev_d prog_3_method_13_code 21 .ireturn 1 22 := ⟨by decide +kernel, rfl⟩
theorem dd_E_firstServing_22 : ev_d prog_3_method_13_code 22 (.iinc 1 1) 3 25 := ⟨by decide +kernel, rfl⟩
theorem dd_E_firstServing_25 : ev_j prog_3_method_13_code 25 (fun o => .goto o) 28 2 := ⟨(-23), by decide +kernel, rfl, by decide⟩
theorem dd_E_firstServing_28 : ev_d prog_3_method_13_code 28 (.iconst (-1)) 1 29 := ⟨by decide +kernel, rfl⟩
theorem dd_E_firstServing_29 : ev_d prog_3_method_13_code 29 .ireturn 1 30 := ⟨by decide +kernel, rfl⟩
-- E_takeAnswer
theorem dd_E_takeAnswer_0 : ev_d prog_3_method_12_code 0 (.aload_n 0) 1 1 := ⟨by decide +kernel, rfl⟩
theorem dd_E_takeAnswer_1 : ev_d prog_3_method_12_code 1 (.getfield 19) 3 4 := ⟨by decide +kernel, rfl⟩
theorem dd_E_takeAnswer_4 : ev_d prog_3_method_12_code 4 (.aload_n 1) 1 5 := ⟨by decide +kernel, rfl⟩
theorem dd_E_takeAnswer_5 : ev_d prog_3_method_12_code 5 (.getfield 153) 3 8 := ⟨by decide +kernel, rfl⟩
theorem dd_E_takeAnswer_8 : ev_d prog_3_method_12_code 8 .aaload 1 9 := ⟨by decide +kernel, rfl⟩
theorem dd_E_takeAnswer_9 : ev_d prog_3_method_12_code 9 (.astore_n 2) 1 10 := ⟨by decide +kernel, rfl⟩
theorem dd_E_takeAnswer_10 : ev_d prog_3_method_12_code 10 (.aload_n 2) 1 11 := ⟨by decide +kernel, rfl⟩
theorem dd_E_takeAnswer_11 : ev_d prog_3_method_12_code 11 (.getfield 167) 3 14 := ⟨by decide +kernel, rfl⟩
theorem dd_E_takeAnswer_14 : ev_j prog_3_method_12_code 14 (fun o => .ifCond .eq o) 17 43 := ⟨29, by decide +kernel, rfl, by decide⟩
theorem dd_E_takeAnswer_17 : ev_d prog_3_method_12_code 17 (.aload_n 2) 1 18 := ⟨by decide +kernel, rfl⟩
theorem dd_E_takeAnswer_18 : ev_d prog_3_method_12_code 18 (.getfield 170) 3 21 := ⟨by decide +kernel, rfl⟩
theorem dd_E_takeAnswer_21 : ev_j prog_3_method_12_code 21 (fun o => .ifCond .ne o) 24 43 := ⟨22, by decide +kernel, rfl, by decide⟩
theorem dd_E_takeAnswer_24 : ev_d prog_3_method_12_code 24 (.aload_n 2) 1 25 := ⟨by decide +kernel, rfl⟩
theorem dd_E_takeAnswer_25 : ev_d prog_3_method_12_code 25 (.getfield 180) 3 28 := ⟨by decide +kernel, rfl⟩
theorem dd_E_takeAnswer_28 : ev_d prog_3_method_12_code 28 (.aload_n 1) 1 29 := ⟨by decide +kernel, rfl⟩
theorem dd_E_takeAnswer_29 : ev_d prog_3_method_12_code 29 (.getfield 156) 3 32 := ⟨by decide +kernel, rfl⟩
theorem dd_E_takeAnswer_32 : ev_j prog_3_method_12_code 32 (fun o => .if_icmp .ne o) 35 43 := ⟨11, by decide +kernel, rfl, by decide⟩
theorem dd_E_takeAnswer_35 : ev_d prog_3_method_12_code 35 (.aload_n 2) 1 36 := ⟨by decide +kernel, rfl⟩
theorem dd_E_takeAnswer_36 : ev_d prog_3_method_12_code 36 (.aload_n 1) 1 37 := ⟨by decide +kernel, rfl⟩
theorem dd_E_takeAnswer_37 : ev_d prog_3_method_12_code 37 (.getfield 174) 3 40 := ⟨by decide +kernel, rfl⟩
theorem dd_E_takeAnswer_40 : ev_d prog_3_method_12_code 40 (.invokevirtual 177) 3 43 := ⟨by decide +kernel, rfl⟩
theorem dd_E_takeAnswer_43 : ev_d prog_3_method_12_code 43 .return_ 1 44 := ⟨by decide +kernel, rfl⟩
-- E_statusComes
theorem dd_E_statusComes_0 : ev_d prog_3_method_5_code 0 (.aload_n 2) 1 1 := ⟨by decide +kernel, rfl⟩
theorem dd_E_statusComes_1 : ev_d prog_3_method_5_code 1 (.getfield 90) 3 4 := ⟨by decide +kernel, rfl⟩
theorem dd_E_statusComes_4 : decode prog_3_method_5_code 4 = .ok ((.lookupswitch 70 #[(2, 28), (3, 49)]), 28) := by decide +kernel
theorem dd_E_statusComes_32 : ev_d prog_3_method_5_code 32 (.aload_n 0) 1 33 := ⟨by decide +kernel, rfl⟩
theorem dd_E_statusComes_33 : ev_d prog_3_method_5_code 33 (.iload_n 1) 1 34 := ⟨by decide +kernel, rfl⟩
theorem dd_E_statusComes_34 : ev_d prog_3_method_5_code 34 (.invokevirtual 95) 3 37 := ⟨by decide +kernel, rfl⟩
theorem dd_E_statusComes_37 : ev_d prog_3_method_5_code 37 (.aload_n 0) 1 38 := ⟨by decide +kernel, rfl⟩
theorem dd_E_statusComes_38 : ev_d prog_3_method_5_code 38 (.getfield 11) 3 41 := ⟨by decide +kernel, rfl⟩
theorem dd_E_statusComes_41 : ev_d prog_3_method_5_code 41 (.iload_n 1) 1 42 := ⟨by decide +kernel, rfl⟩
theorem dd_E_statusComes_42 : ev_d prog_3_method_5_code 42 .aaload 1 43 := ⟨by decide +kernel, rfl⟩
theorem dd_E_statusComes_43 : ev_d prog_3_method_5_code 43 (.aload_n 2) 1 44 := ⟨by decide +kernel, rfl⟩
theorem dd_E_statusComes_44 : ev_d prog_3_method_5_code 44 (.getfield 98) 3 47 := ⟨by decide +kernel, rfl⟩
theorem dd_E_statusComes_47 : ev_d prog_3_method_5_code 47 (.putfield 61) 3 50 := ⟨by decide +kernel, rfl⟩
theorem dd_E_statusComes_50 : ev_j prog_3_method_5_code 50 (fun o => .goto o) 53 79 := ⟨29, by decide +kernel, rfl, by decide⟩
theorem dd_E_statusComes_53 : ev_d prog_3_method_5_code 53 (.aload_n 0) 1 54 := ⟨by decide +kernel, rfl⟩
theorem dd_E_statusComes_54 : ev_d prog_3_method_5_code 54 (.iload_n 1) 1 55 := ⟨by decide +kernel, rfl⟩
theorem dd_E_statusComes_55 : ev_d prog_3_method_5_code 55 (.invokevirtual 101) 3 58 := ⟨by decide +kernel, rfl⟩
theorem dd_E_statusComes_58 : ev_d prog_3_method_5_code 58 (.aload_n 0) 1 59 := ⟨by decide +kernel, rfl⟩
theorem dd_E_statusComes_59 : ev_d prog_3_method_5_code 59 (.getfield 11) 3 62 := ⟨by decide +kernel, rfl⟩
theorem dd_E_statusComes_62 : ev_d prog_3_method_5_code 62 (.iload_n 1) 1 63 := ⟨by decide +kernel, rfl⟩
theorem dd_E_statusComes_63 : ev_d prog_3_method_5_code 63 .aaload 1 64 := ⟨by decide +kernel, rfl⟩
theorem dd_E_statusComes_64 : ev_d prog_3_method_5_code 64 (.aload_n 2) 1 65 := ⟨by decide +kernel, rfl⟩
theorem dd_E_statusComes_65 : ev_d prog_3_method_5_code 65 (.getfield 98) 3 68 := ⟨by decide +kernel, rfl⟩
theorem dd_E_statusComes_68 : ev_d prog_3_method_5_code 68 (.putfield 61) 3 71 := ⟨by decide +kernel, rfl⟩
theorem dd_E_statusComes_71 : ev_j prog_3_method_5_code 71 (fun o => .goto o) 74 79 := ⟨8, by decide +kernel, rfl, by decide⟩
theorem dd_E_statusComes_74 : ev_d prog_3_method_5_code 74 (.aload_n 0) 1 75 := ⟨by decide +kernel, rfl⟩
theorem dd_E_statusComes_75 : ev_d prog_3_method_5_code 75 (.iload_n 1) 1 76 := ⟨by decide +kernel, rfl⟩
theorem dd_E_statusComes_76 : ev_d prog_3_method_5_code 76 (.invokevirtual 104) 3 79 := ⟨by decide +kernel, rfl⟩
theorem dd_E_statusComes_79 : ev_d prog_3_method_5_code 79 .return_ 1 80 := ⟨by decide +kernel, rfl⟩
-- E_seekComes
theorem dd_E_seekComes_0 : ev_d prog_3_method_6_code 0 (.aload_n 0) 1 1 := ⟨by decide +kernel, rfl⟩
theorem dd_E_seekComes_1 : ev_d prog_3_method_6_code 1 (.getfield 11) 3 4 := ⟨by decide +kernel, rfl⟩
theorem dd_E_seekComes_4 : ev_d prog_3_method_6_code 4 (.iload_n 1) 1 5 := ⟨by decide +kernel, rfl⟩
theorem dd_E_seekComes_5 : ev_d prog_3_method_6_code 5 .aaload 1 6 := ⟨by decide +kernel, rfl⟩
theorem dd_E_seekComes_6 : ev_d prog_3_method_6_code 6 (.astore_n 2) 1 7 := ⟨by decide +kernel, rfl⟩
theorem dd_E_seekComes_7 : ev_d prog_3_method_6_code 7 (.aload_n 2) 1 8 := ⟨by decide +kernel, rfl⟩
theorem dd_E_seekComes_8 : ev_d prog_3_method_6_code 8 (.getfield 46) 3 11 := ⟨by decide +kernel, rfl⟩
theorem dd_E_seekComes_11 : ev_d prog_3_method_6_code 11 (.iconst 1) 1 12 := ⟨by decide +kernel, rfl⟩
theorem dd_E_seekComes_12 : ev_j prog_3_method_6_code 12 (fun o => .if_icmp .ne o) 15 23 := ⟨11, by decide +kernel, rfl, by decide⟩
theorem dd_E_seekComes_15 : ev_d prog_3_method_6_code 15 (.aload_n 2) 1 16 := ⟨by decide +kernel, rfl⟩
theorem dd_E_seekComes_16 : ev_d prog_3_method_6_code 16 (.iconst 2) 1 17 := ⟨by decide +kernel, rfl⟩
theorem dd_E_seekComes_17 : ev_d prog_3_method_6_code 17 (.invokevirtual 49) 3 20 := ⟨by decide +kernel, rfl⟩
theorem dd_E_seekComes_20 : ev_j prog_3_method_6_code 20 (fun o => .goto o) 23 56 := ⟨36, by decide +kernel, rfl, by decide⟩
theorem dd_E_seekComes_23 : ev_d prog_3_method_6_code 23 (.aload_n 2) 1 24 := ⟨by decide +kernel, rfl⟩
theorem dd_E_seekComes_24 : ev_d prog_3_method_6_code 24 (.getfield 46) 3 27 := ⟨by decide +kernel, rfl⟩
theorem dd_E_seekComes_27 : ev_d prog_3_method_6_code 27 (.iconst 2) 1 28 := ⟨by decide +kernel, rfl⟩
theorem dd_E_seekComes_28 : ev_j prog_3_method_6_code 28 (fun o => .if_icmp .ne o) 31 44 := ⟨16, by decide +kernel, rfl, by decide⟩
theorem dd_E_seekComes_31 : ev_d prog_3_method_6_code 31 (.aload_n 2) 1 32 := ⟨by decide +kernel, rfl⟩
theorem dd_E_seekComes_32 : ev_d prog_3_method_6_code 32 (.iconst 0) 1 33 := ⟨by decide +kernel, rfl⟩
theorem dd_E_seekComes_33 : ev_d prog_3_method_6_code 33 (.putfield 107) 3 36 := ⟨by decide +kernel, rfl⟩
theorem dd_E_seekComes_36 : ev_d prog_3_method_6_code 36 (.aload_n 2) 1 37 := ⟨by decide +kernel, rfl⟩
theorem dd_E_seekComes_37 : ev_d prog_3_method_6_code 37 (.iconst 0) 1 38 := ⟨by decide +kernel, rfl⟩
theorem dd_E_seekComes_38 : ev_d prog_3_method_6_code 38 (.putfield 110) 3 41 := ⟨by decide +kernel, rfl⟩
theorem dd_E_seekComes_41 : ev_j prog_3_method_6_code 41 (fun o => .goto o) 44 56 := ⟨15, by decide +kernel, rfl, by decide⟩
theorem dd_E_seekComes_44 : ev_d prog_3_method_6_code 44 (.aload_n 2) 1 45 := ⟨by decide +kernel, rfl⟩
theorem dd_E_seekComes_45 : ev_d prog_3_method_6_code 45 (.getfield 46) 3 48 := ⟨by decide +kernel, rfl⟩
theorem dd_E_seekComes_48 : ev_j prog_3_method_6_code 48 (fun o => .ifCond .eq o) 51 56 := ⟨8, by decide +kernel, rfl, by decide⟩
theorem dd_E_seekComes_51 : ev_d prog_3_method_6_code 51 (.aload_n 0) 1 52 := ⟨by decide +kernel, rfl⟩
theorem dd_E_seekComes_52 : ev_d prog_3_method_6_code 52 (.iload_n 1) 1 53 := ⟨by decide +kernel, rfl⟩
theorem dd_E_seekComes_53 : ev_d prog_3_method_6_code 53 (.invokevirtual 84) 3 56 := ⟨by decide +kernel, rfl⟩
theorem dd_E_seekComes_56 : ev_d prog_3_method_6_code 56 .return_ 1 57 := ⟨by decide +kernel, rfl⟩
-- E_proveComes
theorem dd_E_proveComes_0 : ev_d prog_3_method_7_code 0 (.aload_n 0) 1 1 := ⟨by decide +kernel, rfl⟩
theorem dd_E_proveComes_1 : ev_d prog_3_method_7_code 1 (.getfield 11) 3 4 := ⟨by decide +kernel, rfl⟩
theorem dd_E_proveComes_4 : ev_d prog_3_method_7_code 4 (.iload_n 1) 1 5 := ⟨by decide +kernel, rfl⟩
theorem dd_E_proveComes_5 : ev_d prog_3_method_7_code 5 .aaload 1 6 := ⟨by decide +kernel, rfl⟩
theorem dd_E_proveComes_6 : ev_d prog_3_method_7_code 6 (.astore_n 2) 1 7 := ⟨by decide +kernel, rfl⟩
theorem dd_E_proveComes_7 : ev_d prog_3_method_7_code 7 (.aload_n 2) 1 8 := ⟨by decide +kernel, rfl⟩
theorem dd_E_proveComes_8 : ev_d prog_3_method_7_code 8 (.getfield 46) 3 11 := ⟨by decide +kernel, rfl⟩
theorem dd_E_proveComes_11 : ev_d prog_3_method_7_code 11 (.iconst 1) 1 12 := ⟨by decide +kernel, rfl⟩
theorem dd_E_proveComes_12 : ev_j prog_3_method_7_code 12 (fun o => .if_icmp .ne o) 15 23 := ⟨11, by decide +kernel, rfl, by decide⟩
theorem dd_E_proveComes_15 : ev_d prog_3_method_7_code 15 (.aload_n 2) 1 16 := ⟨by decide +kernel, rfl⟩
theorem dd_E_proveComes_16 : ev_d prog_3_method_7_code 16 (.iconst 2) 1 17 := ⟨by decide +kernel, rfl⟩
theorem dd_E_proveComes_17 : ev_d prog_3_method_7_code 17 (.invokevirtual 49) 3 20 := ⟨by decide +kernel, rfl⟩
theorem dd_E_proveComes_20 : ev_j prog_3_method_7_code 20 (fun o => .goto o) 23 36 := ⟨16, by decide +kernel, rfl, by decide⟩
theorem dd_E_proveComes_23 : ev_d prog_3_method_7_code 23 (.aload_n 2) 1 24 := ⟨by decide +kernel, rfl⟩
theorem dd_E_proveComes_24 : ev_d prog_3_method_7_code 24 (.getfield 46) 3 27 := ⟨by decide +kernel, rfl⟩
theorem dd_E_proveComes_27 : ev_d prog_3_method_7_code 27 (.iconst 4) 1 28 := ⟨by decide +kernel, rfl⟩
theorem dd_E_proveComes_28 : ev_j prog_3_method_7_code 28 (fun o => .if_icmp .ne o) 31 36 := ⟨8, by decide +kernel, rfl, by decide⟩
theorem dd_E_proveComes_31 : ev_d prog_3_method_7_code 31 (.aload_n 0) 1 32 := ⟨by decide +kernel, rfl⟩
theorem dd_E_proveComes_32 : ev_d prog_3_method_7_code 32 (.iload_n 1) 1 33 := ⟨by decide +kernel, rfl⟩
theorem dd_E_proveComes_33 : ev_d prog_3_method_7_code 33 (.invokevirtual 84) 3 36 := ⟨by decide +kernel, rfl⟩
theorem dd_E_proveComes_36 : ev_d prog_3_method_7_code 36 .return_ 1 37 := ⟨by decide +kernel, rfl⟩
-- E_outComes
theorem dd_E_outComes_0 : ev_d prog_3_method_8_code 0 (.aload_n 0) 1 1 := ⟨by decide +kernel, rfl⟩
theorem dd_E_outComes_1 : ev_d prog_3_method_8_code 1 (.getfield 11) 3 4 := ⟨by decide +kernel, rfl⟩
theorem dd_E_outComes_4 : ev_d prog_3_method_8_code 4 (.iload_n 1) 1 5 := ⟨by decide +kernel, rfl⟩
theorem dd_E_outComes_5 : ev_d prog_3_method_8_code 5 .aaload 1 6 := ⟨by decide +kernel, rfl⟩
theorem dd_E_outComes_6 : ev_d prog_3_method_8_code 6 (.getfield 46) 3 9 := ⟨by decide +kernel, rfl⟩
theorem dd_E_outComes_9 : ev_d prog_3_method_8_code 9 (.istore_n 2) 1 10 := ⟨by decide +kernel, rfl⟩
theorem dd_E_outComes_10 : ev_d prog_3_method_8_code 10 (.iload_n 2) 1 11 := ⟨by decide +kernel, rfl⟩
theorem dd_E_outComes_11 : ev_j prog_3_method_8_code 11 (fun o => .ifCond .eq o) 14 24 := ⟨13, by decide +kernel, rfl, by decide⟩
theorem dd_E_outComes_14 : ev_d prog_3_method_8_code 14 (.iload_n 2) 1 15 := ⟨by decide +kernel, rfl⟩
theorem dd_E_outComes_15 : ev_d prog_3_method_8_code 15 (.iconst 1) 1 16 := ⟨by decide +kernel, rfl⟩
theorem dd_E_outComes_16 : ev_j prog_3_method_8_code 16 (fun o => .if_icmp .eq o) 19 24 := ⟨8, by decide +kernel, rfl, by decide⟩
theorem dd_E_outComes_19 : ev_d prog_3_method_8_code 19 (.aload_n 0) 1 20 := ⟨by decide +kernel, rfl⟩
theorem dd_E_outComes_20 : ev_d prog_3_method_8_code 20 (.iload_n 1) 1 21 := ⟨by decide +kernel, rfl⟩
theorem dd_E_outComes_21 : ev_d prog_3_method_8_code 21 (.invokevirtual 84) 3 24 := ⟨by decide +kernel, rfl⟩
theorem dd_E_outComes_24 : ev_d prog_3_method_8_code 24 .return_ 1 25 := ⟨by decide +kernel, rfl⟩
-- E_age
theorem dd_E_age_0 : ev_d prog_3_method_3_code 0 (.aload_n 0) 1 1 := ⟨by decide +kernel, rfl⟩
theorem dd_E_age_1 : ev_d prog_3_method_3_code 1 (.getfield 11) 3 4 := ⟨by decide +kernel, rfl⟩
theorem dd_E_age_4 : ev_d prog_3_method_3_code 4 (.iload_n 1) 1 5 := ⟨by decide +kernel, rfl⟩
theorem dd_E_age_5 : ev_d prog_3_method_3_code 5 .aaload 1 6 := ⟨by decide +kernel, rfl⟩
theorem dd_E_age_6 : ev_d prog_3_method_3_code 6 (.invokevirtual 80) 3 9 := ⟨by decide +kernel, rfl⟩
theorem dd_E_age_9 : ev_j prog_3_method_3_code 9 (fun o => .ifCond .eq o) 12 17 := ⟨8, by decide +kernel, rfl, by decide⟩
theorem dd_E_age_12 : ev_d prog_3_method_3_code 12 (.aload_n 0) 1 13 := ⟨by decide +kernel, rfl⟩
theorem dd_E_age_13 : ev_d prog_3_method_3_code 13 (.iload_n 1) 1 14 := ⟨by decide +kernel, rfl⟩
theorem dd_E_age_14 : ev_d prog_3_method_3_code 14 (.invokevirtual 84) 3 17 := ⟨by decide +kernel, rfl⟩
theorem dd_E_age_17 : ev_d prog_3_method_3_code 17 .return_ 1 18 := ⟨by decide +kernel, rfl⟩
-- S_failsByAge
theorem dd_S_failsByAge_0 : ev_d prog_7_method_12_code 0 (.aload_n 0) 1 1 := ⟨by decide +kernel, rfl⟩
theorem dd_S_failsByAge_1 : ev_d prog_7_method_12_code 1 (.getfield 9) 3 4 := ⟨by decide +kernel, rfl⟩
theorem dd_S_failsByAge_4 : decode prog_7_method_12_code 4 = .ok ((.tableswitch 122 1 4 #[32, 57, 32, 83]), 32) := by decide +kernel
theorem dd_S_failsByAge_36 : ev_d prog_7_method_12_code 36 (.aload_n 0) 1 37 := ⟨by decide +kernel, rfl⟩
theorem dd_S_failsByAge_37 : ev_d prog_7_method_12_code 37 .dup 1 38 := ⟨by decide +kernel, rfl⟩
theorem dd_S_failsByAge_38 : ev_d prog_7_method_12_code 38 (.getfield 15) 3 41 := ⟨by decide +kernel, rfl⟩
theorem dd_S_failsByAge_41 : ev_d prog_7_method_12_code 41 (.iconst 1) 1 42 := ⟨by decide +kernel, rfl⟩
theorem dd_S_failsByAge_42 : ev_d prog_7_method_12_code 42 .iadd 1 43 := ⟨by decide +kernel, rfl⟩
theorem dd_S_failsByAge_43 : ev_d prog_7_method_12_code 43 (.putfield 15) 3 46 := ⟨by decide +kernel, rfl⟩
theorem dd_S_failsByAge_46 : ev_d prog_7_method_12_code 46 (.aload_n 0) 1 47 := ⟨by decide +kernel, rfl⟩
theorem dd_S_failsByAge_47 : ev_d prog_7_method_12_code 47 (.getfield 15) 3 50 := ⟨by decide +kernel, rfl⟩
theorem dd_S_failsByAge_50 : ev_d prog_7_method_12_code 50 (.bipush 15) 2 52 := ⟨by decide +kernel, rfl⟩
theorem dd_S_failsByAge_52 : ev_j prog_7_method_12_code 52 (fun o => .if_icmp .lt o) 55 59 := ⟨7, by decide +kernel, rfl, by decide⟩
theorem dd_S_failsByAge_55 : ev_d prog_7_method_12_code 55 (.iconst 1) 1 56 := ⟨by decide +kernel, rfl⟩
theorem dd_S_failsByAge_56 : ev_j prog_7_method_12_code 56 (fun o => .goto o) 59 60 := ⟨4, by decide +kernel, rfl, by decide⟩
theorem dd_S_failsByAge_59 : ev_d prog_7_method_12_code 59 (.iconst 0) 1 60 := ⟨by decide +kernel, rfl⟩
theorem dd_S_failsByAge_60 : ev_d prog_7_method_12_code 60 .ireturn 1 61 := ⟨by decide +kernel, rfl⟩
theorem dd_S_failsByAge_61 : ev_d prog_7_method_12_code 61 (.aload_n 0) 1 62 := ⟨by decide +kernel, rfl⟩
theorem dd_S_failsByAge_62 : ev_d prog_7_method_12_code 62 .dup 1 63 := ⟨by decide +kernel, rfl⟩
theorem dd_S_failsByAge_63 : ev_d prog_7_method_12_code 63 (.getfield 15) 3 66 := ⟨by decide +kernel, rfl⟩
theorem dd_S_failsByAge_66 : ev_d prog_7_method_12_code 66 (.iconst 1) 1 67 := ⟨by decide +kernel, rfl⟩
theorem dd_S_failsByAge_67 : ev_d prog_7_method_12_code 67 .iadd 1 68 := ⟨by decide +kernel, rfl⟩
theorem dd_S_failsByAge_68 : ev_d prog_7_method_12_code 68 (.putfield 15) 3 71 := ⟨by decide +kernel, rfl⟩
theorem dd_S_failsByAge_71 : ev_d prog_7_method_12_code 71 (.aload_n 0) 1 72 := ⟨by decide +kernel, rfl⟩
theorem dd_S_failsByAge_72 : ev_d prog_7_method_12_code 72 (.getfield 15) 3 75 := ⟨by decide +kernel, rfl⟩
theorem dd_S_failsByAge_75 : ev_d prog_7_method_12_code 75 (.bipush 6) 2 77 := ⟨by decide +kernel, rfl⟩
theorem dd_S_failsByAge_77 : ev_j prog_7_method_12_code 77 (fun o => .if_icmp .lt o) 80 85 := ⟨8, by decide +kernel, rfl, by decide⟩
theorem dd_S_failsByAge_80 : ev_d prog_7_method_12_code 80 (.aload_n 0) 1 81 := ⟨by decide +kernel, rfl⟩
theorem dd_S_failsByAge_81 : ev_d prog_7_method_12_code 81 (.iconst 3) 1 82 := ⟨by decide +kernel, rfl⟩
theorem dd_S_failsByAge_82 : ev_d prog_7_method_12_code 82 (.invokevirtual 85) 3 85 := ⟨by decide +kernel, rfl⟩
theorem dd_S_failsByAge_85 : ev_d prog_7_method_12_code 85 (.iconst 0) 1 86 := ⟨by decide +kernel, rfl⟩
theorem dd_S_failsByAge_86 : ev_d prog_7_method_12_code 86 .ireturn 1 87 := ⟨by decide +kernel, rfl⟩
theorem dd_S_failsByAge_87 : ev_d prog_7_method_12_code 87 (.aload_n 0) 1 88 := ⟨by decide +kernel, rfl⟩
theorem dd_S_failsByAge_88 : ev_d prog_7_method_12_code 88 (.aload_n 0) 1 89 := ⟨by decide +kernel, rfl⟩
theorem dd_S_failsByAge_89 : ev_d prog_7_method_12_code 89 (.getfield 64) 3 92 := ⟨by decide +kernel, rfl⟩
theorem dd_S_failsByAge_92 : ev_d prog_7_method_12_code 92 (.invokevirtual 131) 3 95 := ⟨by decide +kernel, rfl⟩
theorem dd_S_failsByAge_95 : ev_j prog_7_method_12_code 95 (fun o => .ifCond .eq o) 98 102 := ⟨7, by decide +kernel, rfl, by decide⟩
theorem dd_S_failsByAge_98 : ev_d prog_7_method_12_code 98 (.iconst 0) 1 99 := ⟨by decide +kernel, rfl⟩
theorem dd_S_failsByAge_99 : ev_j prog_7_method_12_code 99 (fun o => .goto o) 102 108 := ⟨9, by decide +kernel, rfl, by decide⟩
theorem dd_S_failsByAge_102 : ev_d prog_7_method_12_code 102 (.aload_n 0) 1 103 := ⟨by decide +kernel, rfl⟩
theorem dd_S_failsByAge_103 : ev_d prog_7_method_12_code 103 (.getfield 48) 3 106 := ⟨by decide +kernel, rfl⟩
theorem dd_S_failsByAge_106 : ev_d prog_7_method_12_code 106 (.iconst 1) 1 107 := ⟨by decide +kernel, rfl⟩
theorem dd_S_failsByAge_107 : ev_d prog_7_method_12_code 107 .iadd 1 108 := ⟨by decide +kernel, rfl⟩
theorem dd_S_failsByAge_108 : ev_d prog_7_method_12_code 108 (.putfield 48) 3 111 := ⟨by decide +kernel, rfl⟩
theorem dd_S_failsByAge_111 : ev_d prog_7_method_12_code 111 (.aload_n 0) 1 112 := ⟨by decide +kernel, rfl⟩
theorem dd_S_failsByAge_112 : ev_d prog_7_method_12_code 112 (.getfield 48) 3 115 := ⟨by decide +kernel, rfl⟩
theorem dd_S_failsByAge_115 : ev_d prog_7_method_12_code 115 (.bipush 12) 2 117 := ⟨by decide +kernel, rfl⟩
theorem dd_S_failsByAge_117 : ev_j prog_7_method_12_code 117 (fun o => .if_icmp .lt o) 120 124 := ⟨7, by decide +kernel, rfl, by decide⟩
theorem dd_S_failsByAge_120 : ev_d prog_7_method_12_code 120 (.iconst 1) 1 121 := ⟨by decide +kernel, rfl⟩
theorem dd_S_failsByAge_121 : ev_j prog_7_method_12_code 121 (fun o => .goto o) 124 125 := ⟨4, by decide +kernel, rfl, by decide⟩
theorem dd_S_failsByAge_124 : ev_d prog_7_method_12_code 124 (.iconst 0) 1 125 := ⟨by decide +kernel, rfl⟩
theorem dd_S_failsByAge_125 : ev_d prog_7_method_12_code 125 .ireturn 1 126 := ⟨by decide +kernel, rfl⟩
theorem dd_S_failsByAge_126 : ev_d prog_7_method_12_code 126 (.iconst 0) 1 127 := ⟨by decide +kernel, rfl⟩
theorem dd_S_failsByAge_127 : ev_d prog_7_method_12_code 127 .ireturn 1 128 := ⟨by decide +kernel, rfl⟩
-- E_changeOver
theorem dd_E_changeOver_0 : ev_d prog_3_method_19_code 0 (.aload_n 0) 1 1 := ⟨by decide +kernel, rfl⟩
theorem dd_E_changeOver_1 : ev_d prog_3_method_19_code 1 (.getfield 19) 3 4 := ⟨by decide +kernel, rfl⟩
theorem dd_E_changeOver_4 : ev_d prog_3_method_19_code 4 (.iload_n 1) 1 5 := ⟨by decide +kernel, rfl⟩
theorem dd_E_changeOver_5 : ev_d prog_3_method_19_code 5 .aaload 1 6 := ⟨by decide +kernel, rfl⟩
theorem dd_E_changeOver_6 : ev_d prog_3_method_19_code 6 (.astore_n 2) 1 7 := ⟨by decide +kernel, rfl⟩
theorem dd_E_changeOver_7 : ev_d prog_3_method_19_code 7 (.aload_n 2) 1 8 := ⟨by decide +kernel, rfl⟩
theorem dd_E_changeOver_8 : ev_d prog_3_method_19_code 8 (.getfield 167) 3 11 := ⟨by decide +kernel, rfl⟩
theorem dd_E_changeOver_11 : ev_j prog_3_method_19_code 11 (fun o => .ifCond .ne o) 14 15 := ⟨4, by decide +kernel, rfl, by decide⟩
theorem dd_E_changeOver_14 : ev_d prog_3_method_19_code 14 .return_ 1 15 := ⟨by decide +kernel, rfl⟩
theorem dd_E_changeOver_15 : ev_d prog_3_method_19_code 15 (.aload_n 0) 1 16 := ⟨by decide +kernel, rfl⟩
theorem dd_E_changeOver_16 : ev_d prog_3_method_19_code 16 (.invokevirtual 181) 3 19 := ⟨by decide +kernel, rfl⟩
theorem dd_E_changeOver_19 : ev_d prog_3_method_19_code 19 (.iconst (-1)) 1 20 := ⟨by decide +kernel, rfl⟩
theorem dd_E_changeOver_20 : ev_j prog_3_method_19_code 20 (fun o => .if_icmp .eq o) 23 27 := ⟨7, by decide +kernel, rfl, by decide⟩
theorem dd_E_changeOver_23 : ev_d prog_3_method_19_code 23 (.iconst 1) 1 24 := ⟨by decide +kernel, rfl⟩
theorem dd_E_changeOver_24 : ev_j prog_3_method_19_code 24 (fun o => .goto o) 27 28 := ⟨4, by decide +kernel, rfl, by decide⟩
theorem dd_E_changeOver_27 : ev_d prog_3_method_19_code 27 (.iconst 0) 1 28 := ⟨by decide +kernel, rfl⟩
theorem dd_E_changeOver_28 : ev_d prog_3_method_19_code 28 (.istore_n 3) 1 29 := ⟨by decide +kernel, rfl⟩
theorem dd_E_changeOver_29 : ev_d prog_3_method_19_code 29 (.aload_n 2) 1 30 := ⟨by decide +kernel, rfl⟩
theorem dd_E_changeOver_30 : ev_d prog_3_method_19_code 30 (.getfield 170) 3 33 := ⟨by decide +kernel, rfl⟩
theorem dd_E_changeOver_33 : ev_j prog_3_method_19_code 33 (fun o => .ifCond .ne o) 36 73 := ⟨40, by decide +kernel, rfl, by decide⟩
theorem dd_E_changeOver_36 : ev_d prog_3_method_19_code 36 (.aload_n 2) 1 37 := ⟨by decide +kernel, rfl⟩
theorem dd_E_changeOver_37 : ev_d prog_3_method_19_code 37 (.getfield 204) 3 40 := ⟨by decide +kernel, rfl⟩
theorem dd_E_changeOver_40 : ev_j prog_3_method_19_code 40 (fun o => .ifCond .ne o) 43 73 := ⟨33, by decide +kernel, rfl, by decide⟩
theorem dd_E_changeOver_43 : ev_d prog_3_method_19_code 43 (.iload_n 3) 1 44 := ⟨by decide +kernel, rfl⟩
theorem dd_E_changeOver_44 : ev_j prog_3_method_19_code 44 (fun o => .ifCond .eq o) 47 73 := ⟨29, by decide +kernel, rfl, by decide⟩
theorem dd_E_changeOver_47 : ev_d prog_3_method_19_code 47 (.aload_n 0) 1 48 := ⟨by decide +kernel, rfl⟩
theorem dd_E_changeOver_48 : ev_d prog_3_method_19_code 48 (.new 139) 3 51 := ⟨by decide +kernel, rfl⟩
theorem dd_E_changeOver_51 : ev_d prog_3_method_19_code 51 .dup 1 52 := ⟨by decide +kernel, rfl⟩
theorem dd_E_changeOver_52 : ev_d prog_3_method_19_code 52 (.iconst 4) 1 53 := ⟨by decide +kernel, rfl⟩
theorem dd_E_changeOver_53 : ev_d prog_3_method_19_code 53 (.iload_n 1) 1 54 := ⟨by decide +kernel, rfl⟩
theorem dd_E_changeOver_54 : ev_d prog_3_method_19_code 54 (.aload_n 2) 1 55 := ⟨by decide +kernel, rfl⟩
theorem dd_E_changeOver_55 : ev_d prog_3_method_19_code 55 (.getfield 207) 3 58 := ⟨by decide +kernel, rfl⟩
theorem dd_E_changeOver_58 : ev_d prog_3_method_19_code 58 (.aload_n 2) 1 59 := ⟨by decide +kernel, rfl⟩
theorem dd_E_changeOver_59 : ev_d prog_3_method_19_code 59 (.getfield 180) 3 62 := ⟨by decide +kernel, rfl⟩
theorem dd_E_changeOver_62 : ev_d prog_3_method_19_code 62 (.invokespecial 161) 3 65 := ⟨by decide +kernel, rfl⟩
theorem dd_E_changeOver_65 : ev_d prog_3_method_19_code 65 (.invokevirtual 164) 3 68 := ⟨by decide +kernel, rfl⟩
theorem dd_E_changeOver_68 : ev_d prog_3_method_19_code 68 (.aload_n 2) 1 69 := ⟨by decide +kernel, rfl⟩
theorem dd_E_changeOver_69 : ev_d prog_3_method_19_code 69 (.iconst 1) 1 70 := ⟨by decide +kernel, rfl⟩
theorem dd_E_changeOver_70 : ev_d prog_3_method_19_code 70 (.putfield 204) 3 73 := ⟨by decide +kernel, rfl⟩
theorem dd_E_changeOver_73 : ev_d prog_3_method_19_code 73 (.aload_n 2) 1 74 := ⟨by decide +kernel, rfl⟩
theorem dd_E_changeOver_74 : ev_d prog_3_method_19_code 74 .dup 1 75 := ⟨by decide +kernel, rfl⟩
theorem dd_E_changeOver_75 : ev_d prog_3_method_19_code 75 (.getfield 208) 3 78 := ⟨by decide +kernel, rfl⟩
theorem dd_E_changeOver_78 : ev_d prog_3_method_19_code 78 (.iconst 1) 1 79 := ⟨by decide +kernel, rfl⟩
theorem dd_E_changeOver_79 : ev_d prog_3_method_19_code 79 .iadd 1 80 := ⟨by decide +kernel, rfl⟩
theorem dd_E_changeOver_80 : ev_d prog_3_method_19_code 80 (.putfield 208) 3 83 := ⟨by decide +kernel, rfl⟩
theorem dd_E_changeOver_83 : ev_d prog_3_method_19_code 83 (.aload_n 2) 1 84 := ⟨by decide +kernel, rfl⟩
theorem dd_E_changeOver_84 : ev_d prog_3_method_19_code 84 (.getfield 208) 3 87 := ⟨by decide +kernel, rfl⟩
theorem dd_E_changeOver_87 : ev_d prog_3_method_19_code 87 (.bipush 20) 2 89 := ⟨by decide +kernel, rfl⟩
theorem dd_E_changeOver_89 : ev_j prog_3_method_19_code 89 (fun o => .if_icmp .lt o) 92 116 := ⟨27, by decide +kernel, rfl, by decide⟩
theorem dd_E_changeOver_92 : ev_d prog_3_method_19_code 92 (.aload_n 2) 1 93 := ⟨by decide +kernel, rfl⟩
theorem dd_E_changeOver_93 : ev_d prog_3_method_19_code 93 (.getfield 170) 3 96 := ⟨by decide +kernel, rfl⟩
theorem dd_E_changeOver_96 : ev_j prog_3_method_19_code 96 (fun o => .ifCond .ne o) 99 116 := ⟨20, by decide +kernel, rfl, by decide⟩
theorem dd_E_changeOver_99 : ev_d prog_3_method_19_code 99 (.iload_n 3) 1 100 := ⟨by decide +kernel, rfl⟩
theorem dd_E_changeOver_100 : ev_j prog_3_method_19_code 100 (fun o => .ifCond .eq o) 103 116 := ⟨16, by decide +kernel, rfl, by decide⟩
theorem dd_E_changeOver_103 : ev_d prog_3_method_19_code 103 (.aload_n 0) 1 104 := ⟨by decide +kernel, rfl⟩
theorem dd_E_changeOver_104 : ev_d prog_3_method_19_code 104 .dup 1 105 := ⟨by decide +kernel, rfl⟩
theorem dd_E_changeOver_105 : ev_d prog_3_method_19_code 105 (.getfield 42) 3 108 := ⟨by decide +kernel, rfl⟩
theorem dd_E_changeOver_108 : ev_d prog_3_method_19_code 108 (.aload_n 2) 1 109 := ⟨by decide +kernel, rfl⟩
theorem dd_E_changeOver_109 : ev_d prog_3_method_19_code 109 (.invokevirtual 211) 3 112 := ⟨by decide +kernel, rfl⟩
theorem dd_E_changeOver_112 : ev_d prog_3_method_19_code 112 .iadd 1 113 := ⟨by decide +kernel, rfl⟩
theorem dd_E_changeOver_113 : ev_d prog_3_method_19_code 113 (.putfield 42) 3 116 := ⟨by decide +kernel, rfl⟩
theorem dd_E_changeOver_116 : ev_d prog_3_method_19_code 116 (.aload_n 2) 1 117 := ⟨by decide +kernel, rfl⟩
theorem dd_E_changeOver_117 : ev_d prog_3_method_19_code 117 (.getfield 170) 3 120 := ⟨by decide +kernel, rfl⟩
theorem dd_E_changeOver_120 : ev_j prog_3_method_19_code 120 (fun o => .ifCond .eq o) 123 136 := ⟨16, by decide +kernel, rfl, by decide⟩
theorem dd_E_changeOver_123 : ev_d prog_3_method_19_code 123 (.aload_n 0) 1 124 := ⟨by decide +kernel, rfl⟩
theorem dd_E_changeOver_124 : ev_d prog_3_method_19_code 124 (.iload_n 1) 1 125 := ⟨by decide +kernel, rfl⟩
theorem dd_E_changeOver_125 : ev_d prog_3_method_19_code 125 (.invokevirtual 214) 3 128 := ⟨by decide +kernel, rfl⟩
theorem dd_E_changeOver_128 : ev_j prog_3_method_19_code 128 (fun o => .ifCond .eq o) 131 136 := ⟨8, by decide +kernel, rfl, by decide⟩
theorem dd_E_changeOver_131 : ev_d prog_3_method_19_code 131 (.aload_n 0) 1 132 := ⟨by decide +kernel, rfl⟩
theorem dd_E_changeOver_132 : ev_d prog_3_method_19_code 132 (.iload_n 1) 1 133 := ⟨by decide +kernel, rfl⟩
theorem dd_E_changeOver_133 : ev_d prog_3_method_19_code 133 (.invokevirtual 217) 3 136 := ⟨by decide +kernel, rfl⟩
theorem dd_E_changeOver_136 : ev_d prog_3_method_19_code 136 .return_ 1 137 := ⟨by decide +kernel, rfl⟩
-- E_someOpenBeside
theorem dd_E_someOpenBeside_0 : ev_d prog_3_method_20_code 0 (.iconst 0) 1 1 := ⟨by decide +kernel, rfl⟩
theorem dd_E_someOpenBeside_1 : ev_d prog_3_method_20_code 1 (.istore_n 2) 1 2 := ⟨by decide +kernel, rfl⟩
theorem dd_E_someOpenBeside_2 : ev_d prog_3_method_20_code 2 (.iload_n 2) 1 3 := ⟨by decide +kernel, rfl⟩
theorem dd_E_someOpenBeside_3 : ev_d prog_3_method_20_code 3 (.iconst 3) 1 4 := ⟨by decide +kernel, rfl⟩
theorem dd_E_someOpenBeside_4 : ev_j prog_3_method_20_code 4 (fun o => .if_icmp .ge o) 7 41 := ⟨37, by decide +kernel, rfl, by decide⟩
theorem dd_E_someOpenBeside_7 : ev_d prog_3_method_20_code 7 (.aload_n 0) 1 8 := ⟨by decide +kernel, rfl⟩
theorem dd_E_someOpenBeside_8 : ev_d prog_3_method_20_code 8 (.iload_n 2) 1 9 := ⟨by decide +kernel, rfl⟩
theorem dd_E_someOpenBeside_9 : ev_d prog_3_method_20_code 9 (.invokevirtual 188) 3 12 := ⟨by decide +kernel, rfl⟩
theorem dd_E_someOpenBeside_12 : ev_j prog_3_method_20_code 12 (fun o => .ifCond .ne o) 15 33 := ⟨21, by decide +kernel, rfl, by decide⟩
theorem dd_E_someOpenBeside_15 : ev_d prog_3_method_20_code 15 (.iload_n 2) 1 16 := ⟨by decide +kernel, rfl⟩
theorem dd_E_someOpenBeside_16 : ev_d prog_3_method_20_code 16 (.iload_n 1) 1 17 := ⟨by decide +kernel, rfl⟩
theorem dd_E_someOpenBeside_17 : ev_j prog_3_method_20_code 17 (fun o => .if_icmp .ne o) 20 35 := ⟨18, by decide +kernel, rfl, by decide⟩
theorem dd_E_someOpenBeside_20 : ev_d prog_3_method_20_code 20 (.aload_n 0) 1 21 := ⟨by decide +kernel, rfl⟩
theorem dd_E_someOpenBeside_21 : ev_d prog_3_method_20_code 21 (.getfield 11) 3 24 := ⟨by decide +kernel, rfl⟩
theorem dd_E_someOpenBeside_24 : ev_d prog_3_method_20_code 24 (.iload_n 2) 1 25 := ⟨by decide +kernel, rfl⟩
theorem dd_E_someOpenBeside_25 : ev_d prog_3_method_20_code 25 .aaload 1 26 := ⟨by decide +kernel, rfl⟩
theorem dd_E_someOpenBeside_26 : ev_d prog_3_method_20_code 26 (.getfield 46) 3 29 := ⟨by decide +kernel, rfl⟩
theorem dd_E_someOpenBeside_29 : ev_d prog_3_method_20_code 29 (.iconst 4) 1 30 := ⟨by decide +kernel, rfl⟩
theorem dd_E_someOpenBeside_30 : ev_j prog_3_method_20_code 30 (fun o => .if_icmp .ne o) 33 35 := ⟨5, by decide +kernel, rfl, by decide⟩
theorem dd_E_someOpenBeside_33 : ev_d prog_3_method_20_code 33 (.iconst 1) 1 34 := ⟨by decide +kernel, rfl⟩
theorem dd_E_someOpenBeside_34 : ev_d prog_3_method_20_code 34 .ireturn 1 35 := ⟨by decide +kernel, rfl⟩
theorem dd_E_someOpenBeside_35 : ev_d prog_3_method_20_code 35 (.iinc 2 1) 3 38 := ⟨by decide +kernel, rfl⟩
theorem dd_E_someOpenBeside_38 : ev_j prog_3_method_20_code 38 (fun o => .goto o) 41 2 := ⟨(-36), by decide +kernel, rfl, by decide⟩
theorem dd_E_someOpenBeside_41 : ev_d prog_3_method_20_code 41 (.iconst 0) 1 42 := ⟨by decide +kernel, rfl⟩
theorem dd_E_someOpenBeside_42 : ev_d prog_3_method_20_code 42 .ireturn 1 43 := ⟨by decide +kernel, rfl⟩
-- E_isOpen
theorem dd_E_isOpen_0 : ev_d prog_3_method_15_code 0 (.aload_n 0) 1 1 := ⟨by decide +kernel, rfl⟩
theorem dd_E_isOpen_1 : ev_d prog_3_method_15_code 1 (.getfield 11) 3 4 := ⟨by decide +kernel, rfl⟩
theorem dd_E_isOpen_4 : ev_d prog_3_method_15_code 4 (.iload_n 1) 1 5 := ⟨by decide +kernel, rfl⟩
theorem dd_E_isOpen_5 : ev_d prog_3_method_15_code 5 .aaload 1 6 := ⟨by decide +kernel, rfl⟩
theorem dd_E_isOpen_6 : ev_d prog_3_method_15_code 6 (.getfield 46) 3 9 := ⟨by decide +kernel, rfl⟩
theorem dd_E_isOpen_9 : ev_d prog_3_method_15_code 9 (.iconst 4) 1 10 := ⟨by decide +kernel, rfl⟩
theorem dd_E_isOpen_10 : ev_j prog_3_method_15_code 10 (fun o => .if_icmp .ne o) 13 29 := ⟨19, by decide +kernel, rfl, by decide⟩
theorem dd_E_isOpen_13 : ev_d prog_3_method_15_code 13 (.aload_n 0) 1 14 := ⟨by decide +kernel, rfl⟩
theorem dd_E_isOpen_14 : ev_d prog_3_method_15_code 14 (.getfield 19) 3 17 := ⟨by decide +kernel, rfl⟩
theorem dd_E_isOpen_17 : ev_d prog_3_method_15_code 17 (.iload_n 1) 1 18 := ⟨by decide +kernel, rfl⟩
theorem dd_E_isOpen_18 : ev_d prog_3_method_15_code 18 .aaload 1 19 := ⟨by decide +kernel, rfl⟩
theorem dd_E_isOpen_19 : ev_d prog_3_method_15_code 19 (.getfield 167) 3 22 := ⟨by decide +kernel, rfl⟩
theorem dd_E_isOpen_22 : ev_j prog_3_method_15_code 22 (fun o => .ifCond .ne o) 25 29 := ⟨7, by decide +kernel, rfl, by decide⟩
theorem dd_E_isOpen_25 : ev_d prog_3_method_15_code 25 (.iconst 1) 1 26 := ⟨by decide +kernel, rfl⟩
theorem dd_E_isOpen_26 : ev_j prog_3_method_15_code 26 (fun o => .goto o) 29 30 := ⟨4, by decide +kernel, rfl, by decide⟩
theorem dd_E_isOpen_29 : ev_d prog_3_method_15_code 29 (.iconst 0) 1 30 := ⟨by decide +kernel, rfl⟩
theorem dd_E_isOpen_30 : ev_d prog_3_method_15_code 30 .ireturn 1 31 := ⟨by decide +kernel, rfl⟩
-- E_finish
theorem dd_E_finish_0 : ev_d prog_3_method_21_code 0 (.aload_n 0) 1 1 := ⟨by decide +kernel, rfl⟩
theorem dd_E_finish_1 : ev_d prog_3_method_21_code 1 (.getfield 19) 3 4 := ⟨by decide +kernel, rfl⟩
theorem dd_E_finish_4 : ev_d prog_3_method_21_code 4 (.iload_n 1) 1 5 := ⟨by decide +kernel, rfl⟩
theorem dd_E_finish_5 : ev_d prog_3_method_21_code 5 .aaload 1 6 := ⟨by decide +kernel, rfl⟩
theorem dd_E_finish_6 : ev_d prog_3_method_21_code 6 (.astore_n 2) 1 7 := ⟨by decide +kernel, rfl⟩
theorem dd_E_finish_7 : ev_d prog_3_method_21_code 7 (.aload_n 2) 1 8 := ⟨by decide +kernel, rfl⟩
theorem dd_E_finish_8 : ev_d prog_3_method_21_code 8 (.iconst 0) 1 9 := ⟨by decide +kernel, rfl⟩
theorem dd_E_finish_9 : ev_d prog_3_method_21_code 9 (.putfield 167) 3 12 := ⟨by decide +kernel, rfl⟩
theorem dd_E_finish_12 : ev_d prog_3_method_21_code 12 (.aload_n 0) 1 13 := ⟨by decide +kernel, rfl⟩
theorem dd_E_finish_13 : ev_d prog_3_method_21_code 13 (.getfield 25) 3 16 := ⟨by decide +kernel, rfl⟩
theorem dd_E_finish_16 : ev_d prog_3_method_21_code 16 (.iconst 0) 1 17 := ⟨by decide +kernel, rfl⟩
theorem dd_E_finish_17 : ev_d prog_3_method_21_code 17 (.aload_n 0) 1 18 := ⟨by decide +kernel, rfl⟩
theorem dd_E_finish_18 : ev_d prog_3_method_21_code 18 (.getfield 29) 3 21 := ⟨by decide +kernel, rfl⟩
theorem dd_E_finish_21 : ev_d prog_3_method_21_code 21 (.iconst 0) 1 22 := ⟨by decide +kernel, rfl⟩
theorem dd_E_finish_22 : ev_d prog_3_method_21_code 22 (.iconst 4) 1 23 := ⟨by decide +kernel, rfl⟩
theorem dd_E_finish_23 : ev_d prog_3_method_21_code 23 (.invokestatic 220) 3 26 := ⟨by decide +kernel, rfl⟩
theorem dd_E_finish_26 : ev_d prog_3_method_21_code 26 (.iconst 0) 1 27 := ⟨by decide +kernel, rfl⟩
theorem dd_E_finish_27 : ev_d prog_3_method_21_code 27 (.istore_n 3) 1 28 := ⟨by decide +kernel, rfl⟩
theorem dd_E_finish_28 : ev_d prog_3_method_21_code 28 (.iload_n 3) 1 29 := ⟨by decide +kernel, rfl⟩
theorem dd_E_finish_29 : ev_d prog_3_method_21_code 29 (.aload_n 2) 1 30 := ⟨by decide +kernel, rfl⟩
theorem dd_E_finish_30 : ev_d prog_3_method_21_code 30 (.getfield 226) 3 33 := ⟨by decide +kernel, rfl⟩
theorem dd_E_finish_33 : ev_d prog_3_method_21_code 33 (.invokevirtual 201) 3 36 := ⟨by decide +kernel, rfl⟩
theorem dd_E_finish_36 : ev_j prog_3_method_21_code 36 (fun o => .if_icmp .ge o) 39 60 := ⟨24, by decide +kernel, rfl, by decide⟩
theorem dd_E_finish_39 : ev_d prog_3_method_21_code 39 (.aload_n 0) 1 40 := ⟨by decide +kernel, rfl⟩
theorem dd_E_finish_40 : ev_d prog_3_method_21_code 40 (.aload_n 2) 1 41 := ⟨by decide +kernel, rfl⟩
theorem dd_E_finish_41 : ev_d prog_3_method_21_code 41 (.getfield 226) 3 44 := ⟨by decide +kernel, rfl⟩
theorem dd_E_finish_44 : ev_d prog_3_method_21_code 44 (.iload_n 3) 1 45 := ⟨by decide +kernel, rfl⟩
theorem dd_E_finish_45 : ev_d prog_3_method_21_code 45 (.invokevirtual 229) 3 48 := ⟨by decide +kernel, rfl⟩
theorem dd_E_finish_48 : ev_d prog_3_method_21_code 48 (.checkcast 139) 3 51 := ⟨by decide +kernel, rfl⟩
theorem dd_E_finish_51 : ev_d prog_3_method_21_code 51 (.invokevirtual 233) 3 54 := ⟨by decide +kernel, rfl⟩
theorem dd_E_finish_54 : ev_d prog_3_method_21_code 54 (.iinc 3 1) 3 57 := ⟨by decide +kernel, rfl⟩
theorem dd_E_finish_57 : ev_j prog_3_method_21_code 57 (fun o => .goto o) 60 28 := ⟨(-29), by decide +kernel, rfl, by decide⟩
theorem dd_E_finish_60 : ev_d prog_3_method_21_code 60 (.aload_n 2) 1 61 := ⟨by decide +kernel, rfl⟩
theorem dd_E_finish_61 : ev_d prog_3_method_21_code 61 (.getfield 226) 3 64 := ⟨by decide +kernel, rfl⟩
theorem dd_E_finish_64 : ev_d prog_3_method_21_code 64 (.invokevirtual 236) 3 67 := ⟨by decide +kernel, rfl⟩
theorem dd_E_finish_67 : ev_d prog_3_method_21_code 67 (.iconst 0) 1 68 := ⟨by decide +kernel, rfl⟩
theorem dd_E_finish_68 : ev_d prog_3_method_21_code 68 (.istore_n 3) 1 69 := ⟨by decide +kernel, rfl⟩
theorem dd_E_finish_69 : ev_d prog_3_method_21_code 69 (.iload_n 3) 1 70 := ⟨by decide +kernel, rfl⟩
theorem dd_E_finish_70 : ev_d prog_3_method_21_code 70 (.iconst 4) 1 71 := ⟨by decide +kernel, rfl⟩
theorem dd_E_finish_71 : ev_j prog_3_method_21_code 71 (fun o => .if_icmp .ge o) 74 95 := ⟨24, by decide +kernel, rfl, by decide⟩
theorem dd_E_finish_74 : ev_d prog_3_method_21_code 74 (.aload_n 0) 1 75 := ⟨by decide +kernel, rfl⟩
theorem dd_E_finish_75 : ev_d prog_3_method_21_code 75 (.getfield 25) 3 78 := ⟨by decide +kernel, rfl⟩
theorem dd_E_finish_78 : ev_d prog_3_method_21_code 78 (.iload_n 3) 1 79 := ⟨by decide +kernel, rfl⟩
theorem dd_E_finish_79 : ev_d prog_3_method_21_code 79 .iaload 1 80 := ⟨by decide +kernel, rfl⟩
theorem dd_E_finish_80 : ev_d prog_3_method_21_code 80 (.iload_n 1) 1 81 := ⟨by decide +kernel, rfl⟩
theorem dd_E_finish_81 : ev_j prog_3_method_21_code 81 (fun o => .if_icmp .ne o) 84 89 := ⟨8, by decide +kernel, rfl, by decide⟩
theorem dd_E_finish_84 : ev_d prog_3_method_21_code 84 (.aload_n 0) 1 85 := ⟨by decide +kernel, rfl⟩
theorem dd_E_finish_85 : ev_d prog_3_method_21_code 85 (.iload_n 3) 1 86 := ⟨by decide +kernel, rfl⟩
theorem dd_E_finish_86 : ev_d prog_3_method_21_code 86 (.invokevirtual 239) 3 89 := ⟨by decide +kernel, rfl⟩
theorem dd_E_finish_89 : ev_d prog_3_method_21_code 89 (.iinc 3 1) 3 92 := ⟨by decide +kernel, rfl⟩
theorem dd_E_finish_92 : ev_j prog_3_method_21_code 92 (fun o => .goto o) 95 69 := ⟨(-23), by decide +kernel, rfl, by decide⟩
theorem dd_E_finish_95 : ev_d prog_3_method_21_code 95 (.aload_n 0) 1 96 := ⟨by decide +kernel, rfl⟩
theorem dd_E_finish_96 : ev_d prog_3_method_21_code 96 (.iload_n 1) 1 97 := ⟨by decide +kernel, rfl⟩
theorem dd_E_finish_97 : ev_d prog_3_method_21_code 97 (.invokevirtual 242) 3 100 := ⟨by decide +kernel, rfl⟩
theorem dd_E_finish_100 : ev_d prog_3_method_21_code 100 .return_ 1 101 := ⟨by decide +kernel, rfl⟩
-- E_passOn
theorem dd_E_passOn_0 : ev_d prog_3_method_22_code 0 (.aload_n 1) 1 1 := ⟨by decide +kernel, rfl⟩
theorem dd_E_passOn_1 : ev_d prog_3_method_22_code 1 (.invokevirtual 245) 3 4 := ⟨by decide +kernel, rfl⟩
theorem dd_E_passOn_4 : ev_j prog_3_method_22_code 4 (fun o => .ifCond .eq o) 7 40 := ⟨36, by decide +kernel, rfl, by decide⟩
theorem dd_E_passOn_7 : ev_d prog_3_method_22_code 7 (.aload_n 0) 1 8 := ⟨by decide +kernel, rfl⟩
theorem dd_E_passOn_8 : ev_d prog_3_method_22_code 8 (.aload_n 1) 1 9 := ⟨by decide +kernel, rfl⟩
theorem dd_E_passOn_9 : ev_d prog_3_method_22_code 9 (.getfield 138) 3 12 := ⟨by decide +kernel, rfl⟩
theorem dd_E_passOn_12 : ev_d prog_3_method_22_code 12 (.invokevirtual 239) 3 15 := ⟨by decide +kernel, rfl⟩
theorem dd_E_passOn_15 : ev_d prog_3_method_22_code 15 (.aload_n 0) 1 16 := ⟨by decide +kernel, rfl⟩
theorem dd_E_passOn_16 : ev_d prog_3_method_22_code 16 (.getfield 11) 3 19 := ⟨by decide +kernel, rfl⟩
theorem dd_E_passOn_19 : ev_d prog_3_method_22_code 19 (.aload_n 0) 1 20 := ⟨by decide +kernel, rfl⟩
theorem dd_E_passOn_20 : ev_d prog_3_method_22_code 20 (.getfield 25) 3 23 := ⟨by decide +kernel, rfl⟩
theorem dd_E_passOn_23 : ev_d prog_3_method_22_code 23 (.aload_n 1) 1 24 := ⟨by decide +kernel, rfl⟩
theorem dd_E_passOn_24 : ev_d prog_3_method_22_code 24 (.getfield 138) 3 27 := ⟨by decide +kernel, rfl⟩
theorem dd_E_passOn_27 : ev_d prog_3_method_22_code 27 .iaload 1 28 := ⟨by decide +kernel, rfl⟩
theorem dd_E_passOn_28 : ev_d prog_3_method_22_code 28 .aaload 1 29 := ⟨by decide +kernel, rfl⟩
theorem dd_E_passOn_29 : ev_d prog_3_method_22_code 29 (.getfield 185) 3 32 := ⟨by decide +kernel, rfl⟩
theorem dd_E_passOn_32 : ev_d prog_3_method_22_code 32 (.aload_n 1) 1 33 := ⟨by decide +kernel, rfl⟩
theorem dd_E_passOn_33 : ev_d prog_3_method_22_code 33 (.invokevirtual 149) 3 36 := ⟨by decide +kernel, rfl⟩
theorem dd_E_passOn_36 : ev_d prog_3_method_22_code 36 .pop 1 37 := ⟨by decide +kernel, rfl⟩
theorem dd_E_passOn_37 : ev_j prog_3_method_22_code 37 (fun o => .goto o) 40 45 := ⟨8, by decide +kernel, rfl, by decide⟩
theorem dd_E_passOn_40 : ev_d prog_3_method_22_code 40 (.aload_n 0) 1 41 := ⟨by decide +kernel, rfl⟩
theorem dd_E_passOn_41 : ev_d prog_3_method_22_code 41 (.aload_n 1) 1 42 := ⟨by decide +kernel, rfl⟩
theorem dd_E_passOn_42 : ev_d prog_3_method_22_code 42 (.invokevirtual 164) 3 45 := ⟨by decide +kernel, rfl⟩
theorem dd_E_passOn_45 : ev_d prog_3_method_22_code 45 .return_ 1 46 := ⟨by decide +kernel, rfl⟩
-- E_moveClass
theorem dd_E_moveClass_0 : ev_d prog_3_method_23_code 0 (.aload_n 0) 1 1 := ⟨by decide +kernel, rfl⟩
theorem dd_E_moveClass_1 : ev_d prog_3_method_23_code 1 (.iload_n 1) 1 2 := ⟨by decide +kernel, rfl⟩
theorem dd_E_moveClass_2 : ev_d prog_3_method_23_code 2 (.invokevirtual 198) 3 5 := ⟨by decide +kernel, rfl⟩
theorem dd_E_moveClass_5 : ev_d prog_3_method_23_code 5 (.istore_n 2) 1 6 := ⟨by decide +kernel, rfl⟩
theorem dd_E_moveClass_6 : ev_d prog_3_method_23_code 6 (.iload_n 2) 1 7 := ⟨by decide +kernel, rfl⟩
theorem dd_E_moveClass_7 : ev_d prog_3_method_23_code 7 (.iconst (-1)) 1 8 := ⟨by decide +kernel, rfl⟩
theorem dd_E_moveClass_8 : ev_j prog_3_method_23_code 8 (fun o => .if_icmp .eq o) 11 18 := ⟨10, by decide +kernel, rfl, by decide⟩
theorem dd_E_moveClass_11 : ev_d prog_3_method_23_code 11 (.aload_n 0) 1 12 := ⟨by decide +kernel, rfl⟩
theorem dd_E_moveClass_12 : ev_d prog_3_method_23_code 12 (.getfield 25) 3 15 := ⟨by decide +kernel, rfl⟩
theorem dd_E_moveClass_15 : ev_d prog_3_method_23_code 15 (.iload_n 1) 1 16 := ⟨by decide +kernel, rfl⟩
theorem dd_E_moveClass_16 : ev_d prog_3_method_23_code 16 (.iload_n 2) 1 17 := ⟨by decide +kernel, rfl⟩
theorem dd_E_moveClass_17 : ev_d prog_3_method_23_code 17 .iastore 1 18 := ⟨by decide +kernel, rfl⟩
theorem dd_E_moveClass_18 : ev_d prog_3_method_23_code 18 .return_ 1 19 := ⟨by decide +kernel, rfl⟩
-- E_choose
theorem dd_E_choose_0 : ev_d prog_3_method_16_code 0 (.iconst 0) 1 1 := ⟨by decide +kernel, rfl⟩
theorem dd_E_choose_1 : ev_d prog_3_method_16_code 1 (.istore_n 2) 1 2 := ⟨by decide +kernel, rfl⟩
theorem dd_E_choose_2 : ev_d prog_3_method_16_code 2 (.iload_n 2) 1 3 := ⟨by decide +kernel, rfl⟩
theorem dd_E_choose_3 : ev_d prog_3_method_16_code 3 (.iconst 3) 1 4 := ⟨by decide +kernel, rfl⟩
theorem dd_E_choose_4 : ev_j prog_3_method_16_code 4 (fun o => .if_icmp .ge o) 7 29 := ⟨25, by decide +kernel, rfl, by decide⟩
theorem dd_E_choose_7 : ev_d prog_3_method_16_code 7 (.iload_n 1) 1 8 := ⟨by decide +kernel, rfl⟩
theorem dd_E_choose_8 : ev_d prog_3_method_16_code 8 (.iload_n 2) 1 9 := ⟨by decide +kernel, rfl⟩
theorem dd_E_choose_9 : ev_d prog_3_method_16_code 9 .iadd 1 10 := ⟨by decide +kernel, rfl⟩
theorem dd_E_choose_10 : ev_d prog_3_method_16_code 10 (.iconst 3) 1 11 := ⟨by decide +kernel, rfl⟩
theorem dd_E_choose_11 : ev_d prog_3_method_16_code 11 .irem 1 12 := ⟨by decide +kernel, rfl⟩
theorem dd_E_choose_12 : ev_d prog_3_method_16_code 12 (.istore_n 3) 1 13 := ⟨by decide +kernel, rfl⟩
theorem dd_E_choose_13 : ev_d prog_3_method_16_code 13 (.aload_n 0) 1 14 := ⟨by decide +kernel, rfl⟩
theorem dd_E_choose_14 : ev_d prog_3_method_16_code 14 (.iload_n 3) 1 15 := ⟨by decide +kernel, rfl⟩
theorem dd_E_choose_15 : ev_d prog_3_method_16_code 15 (.invokevirtual 188) 3 18 := ⟨by decide +kernel, rfl⟩
theorem dd_E_choose_18 : ev_j prog_3_method_16_code 18 (fun o => .ifCond .eq o) 21 23 := ⟨5, by decide +kernel, rfl, by decide⟩
theorem dd_E_choose_21 : ev_d prog_3_method_16_code 21 (.iload_n 3) 1 22 := ⟨by decide +kernel, rfl⟩
theorem dd_E_choose_22 : ev_d prog_3_method_16_code 22 .ireturn 1 23 := ⟨by decide +kernel, rfl⟩
theorem dd_E_choose_23 : ev_d prog_3_method_16_code 23 (.iinc 2 1) 3 26 := ⟨by decide +kernel, rfl⟩
theorem dd_E_choose_26 : ev_j prog_3_method_16_code 26 (fun o => .goto o) 29 2 := ⟨(-24), by decide +kernel, rfl, by decide⟩
theorem dd_E_choose_29 : ev_d prog_3_method_16_code 29 (.iconst (-1)) 1 30 := ⟨by decide +kernel, rfl⟩
theorem dd_E_choose_30 : ev_d prog_3_method_16_code 30 .ireturn 1 31 := ⟨by decide +kernel, rfl⟩
-- E_letGoHeld
theorem dd_E_letGoHeld_0 : ev_d prog_3_method_24_code 0 (.iconst 0) 1 1 := ⟨by decide +kernel, rfl⟩
theorem dd_E_letGoHeld_1 : ev_d prog_3_method_24_code 1 (.istore_n 2) 1 2 := ⟨by decide +kernel, rfl⟩
theorem dd_E_letGoHeld_2 : ev_d prog_3_method_24_code 2 (.aload_n 0) 1 3 := ⟨by decide +kernel, rfl⟩
theorem dd_E_letGoHeld_3 : ev_d prog_3_method_24_code 3 (.getfield 35) 3 6 := ⟨by decide +kernel, rfl⟩
theorem dd_E_letGoHeld_6 : ev_d prog_3_method_24_code 6 (.invokevirtual 201) 3 9 := ⟨by decide +kernel, rfl⟩
theorem dd_E_letGoHeld_9 : ev_d prog_3_method_24_code 9 (.istore_n 3) 1 10 := ⟨by decide +kernel, rfl⟩
theorem dd_E_letGoHeld_10 : ev_d prog_3_method_24_code 10 (.iload_n 3) 1 11 := ⟨by decide +kernel, rfl⟩
theorem dd_E_letGoHeld_11 : ev_j prog_3_method_24_code 11 (fun o => .ifCond .le o) 14 97 := ⟨86, by decide +kernel, rfl, by decide⟩
theorem dd_E_letGoHeld_14 : ev_d prog_3_method_24_code 14 (.iload_n 2) 1 15 := ⟨by decide +kernel, rfl⟩
theorem dd_E_letGoHeld_15 : ev_d prog_3_method_24_code 15 (.aload_n 0) 1 16 := ⟨by decide +kernel, rfl⟩
theorem dd_E_letGoHeld_16 : ev_d prog_3_method_24_code 16 (.getfield 35) 3 19 := ⟨by decide +kernel, rfl⟩
theorem dd_E_letGoHeld_19 : ev_d prog_3_method_24_code 19 (.invokevirtual 201) 3 22 := ⟨by decide +kernel, rfl⟩
theorem dd_E_letGoHeld_22 : ev_j prog_3_method_24_code 22 (fun o => .if_icmp .ge o) 25 97 := ⟨75, by decide +kernel, rfl, by decide⟩
theorem dd_E_letGoHeld_25 : ev_d prog_3_method_24_code 25 (.aload_n 0) 1 26 := ⟨by decide +kernel, rfl⟩
theorem dd_E_letGoHeld_26 : ev_d prog_3_method_24_code 26 (.getfield 35) 3 29 := ⟨by decide +kernel, rfl⟩
theorem dd_E_letGoHeld_29 : ev_d prog_3_method_24_code 29 (.iload_n 2) 1 30 := ⟨by decide +kernel, rfl⟩
theorem dd_E_letGoHeld_30 : ev_d prog_3_method_24_code 30 (.invokevirtual 229) 3 33 := ⟨by decide +kernel, rfl⟩
theorem dd_E_letGoHeld_33 : ev_d prog_3_method_24_code 33 (.checkcast 139) 3 36 := ⟨by decide +kernel, rfl⟩
theorem dd_E_letGoHeld_36 : ev_d prog_3_method_24_code 36 (.astore 4) 2 38 := ⟨by decide +kernel, rfl⟩
theorem dd_E_letGoHeld_38 : ev_d prog_3_method_24_code 38 (.aload_n 0) 1 39 := ⟨by decide +kernel, rfl⟩
theorem dd_E_letGoHeld_39 : ev_d prog_3_method_24_code 39 (.getfield 29) 3 42 := ⟨by decide +kernel, rfl⟩
theorem dd_E_letGoHeld_42 : ev_d prog_3_method_24_code 42 (.aload 4) 2 44 := ⟨by decide +kernel, rfl⟩
theorem dd_E_letGoHeld_44 : ev_d prog_3_method_24_code 44 (.getfield 138) 3 47 := ⟨by decide +kernel, rfl⟩
theorem dd_E_letGoHeld_47 : ev_d prog_3_method_24_code 47 .iaload 1 48 := ⟨by decide +kernel, rfl⟩
theorem dd_E_letGoHeld_48 : ev_d prog_3_method_24_code 48 (.iload_n 1) 1 49 := ⟨by decide +kernel, rfl⟩
theorem dd_E_letGoHeld_49 : ev_j prog_3_method_24_code 49 (fun o => .if_icmp .ne o) 52 88 := ⟨39, by decide +kernel, rfl, by decide⟩
theorem dd_E_letGoHeld_52 : ev_d prog_3_method_24_code 52 (.aload_n 0) 1 53 := ⟨by decide +kernel, rfl⟩
theorem dd_E_letGoHeld_53 : ev_d prog_3_method_24_code 53 (.getfield 35) 3 56 := ⟨by decide +kernel, rfl⟩
theorem dd_E_letGoHeld_56 : ev_d prog_3_method_24_code 56 (.iload_n 2) 1 57 := ⟨by decide +kernel, rfl⟩
theorem dd_E_letGoHeld_57 : ev_d prog_3_method_24_code 57 (.invokevirtual 248) 3 60 := ⟨by decide +kernel, rfl⟩
theorem dd_E_letGoHeld_60 : ev_d prog_3_method_24_code 60 .pop 1 61 := ⟨by decide +kernel, rfl⟩
theorem dd_E_letGoHeld_61 : ev_d prog_3_method_24_code 61 (.aload_n 0) 1 62 := ⟨by decide +kernel, rfl⟩
theorem dd_E_letGoHeld_62 : ev_d prog_3_method_24_code 62 (.getfield 11) 3 65 := ⟨by decide +kernel, rfl⟩
theorem dd_E_letGoHeld_65 : ev_d prog_3_method_24_code 65 (.aload_n 0) 1 66 := ⟨by decide +kernel, rfl⟩
theorem dd_E_letGoHeld_66 : ev_d prog_3_method_24_code 66 (.getfield 25) 3 69 := ⟨by decide +kernel, rfl⟩
theorem dd_E_letGoHeld_69 : ev_d prog_3_method_24_code 69 (.aload 4) 2 71 := ⟨by decide +kernel, rfl⟩
theorem dd_E_letGoHeld_71 : ev_d prog_3_method_24_code 71 (.getfield 138) 3 74 := ⟨by decide +kernel, rfl⟩
theorem dd_E_letGoHeld_74 : ev_d prog_3_method_24_code 74 .iaload 1 75 := ⟨by decide +kernel, rfl⟩
theorem dd_E_letGoHeld_75 : ev_d prog_3_method_24_code 75 .aaload 1 76 := ⟨by decide +kernel, rfl⟩
theorem dd_E_letGoHeld_76 : ev_d prog_3_method_24_code 76 (.getfield 185) 3 79 := ⟨by decide +kernel, rfl⟩
theorem dd_E_letGoHeld_79 : ev_d prog_3_method_24_code 79 (.aload 4) 2 81 := ⟨by decide +kernel, rfl⟩
theorem dd_E_letGoHeld_81 : ev_d prog_3_method_24_code 81 (.invokevirtual 149) 3 84 := ⟨by decide +kernel, rfl⟩
theorem dd_E_letGoHeld_84 : ev_d prog_3_method_24_code 84 .pop 1 85 := ⟨by decide +kernel, rfl⟩
theorem dd_E_letGoHeld_85 : ev_j prog_3_method_24_code 85 (fun o => .goto o) 88 91 := ⟨6, by decide +kernel, rfl, by decide⟩
theorem dd_E_letGoHeld_88 : ev_d prog_3_method_24_code 88 (.iinc 2 1) 3 91 := ⟨by decide +kernel, rfl⟩
theorem dd_E_letGoHeld_91 : ev_d prog_3_method_24_code 91 (.iinc 3 (-1)) 3 94 := ⟨by decide +kernel, rfl⟩
theorem dd_E_letGoHeld_94 : ev_j prog_3_method_24_code 94 (fun o => .goto o) 97 10 := ⟨(-84), by decide +kernel, rfl, by decide⟩
theorem dd_E_letGoHeld_97 : ev_d prog_3_method_24_code 97 .return_ 1 98 := ⟨by decide +kernel, rfl⟩
-- S_send
theorem dd_S_send_0 : ev_d prog_7_method_13_code 0 (.aload_n 0) 1 1 := ⟨by decide +kernel, rfl⟩
theorem dd_S_send_1 : ev_d prog_7_method_13_code 1 (.getfield 81) 3 4 := ⟨by decide +kernel, rfl⟩
theorem dd_S_send_4 : ev_d prog_7_method_13_code 4 .aconst_null 1 5 := ⟨by decide +kernel, rfl⟩
theorem dd_S_send_5 : ev_d prog_7_method_13_code 5 (.putfield 126) 3 8 := ⟨by decide +kernel, rfl⟩
theorem dd_S_send_8 : ev_d prog_7_method_13_code 8 (.aload_n 0) 1 9 := ⟨by decide +kernel, rfl⟩
theorem dd_S_send_9 : ev_d prog_7_method_13_code 9 (.getfield 81) 3 12 := ⟨by decide +kernel, rfl⟩
theorem dd_S_send_12 : ev_d prog_7_method_13_code 12 (.aload_n 0) 1 13 := ⟨by decide +kernel, rfl⟩
theorem dd_S_send_13 : ev_d prog_7_method_13_code 13 (.getfield 18) 3 16 := ⟨by decide +kernel, rfl⟩
theorem dd_S_send_16 : ev_d prog_7_method_13_code 16 (.putfield 135) 3 19 := ⟨by decide +kernel, rfl⟩
theorem dd_S_send_19 : ev_d prog_7_method_13_code 19 (.aload_n 0) 1 20 := ⟨by decide +kernel, rfl⟩
theorem dd_S_send_20 : ev_d prog_7_method_13_code 20 (.getfield 9) 3 23 := ⟨by decide +kernel, rfl⟩
theorem dd_S_send_23 : decode prog_7_method_13_code 23 = .ok ((.tableswitch 58 1 4 #[29, 40, 51, 51]), 29) := by decide +kernel
theorem dd_S_send_52 : ev_d prog_7_method_13_code 52 (.aload_n 0) 1 53 := ⟨by decide +kernel, rfl⟩
theorem dd_S_send_53 : ev_d prog_7_method_13_code 53 (.getfield 81) 3 56 := ⟨by decide +kernel, rfl⟩
theorem dd_S_send_56 : ev_d prog_7_method_13_code 56 (.iconst 2) 1 57 := ⟨by decide +kernel, rfl⟩
theorem dd_S_send_57 : ev_d prog_7_method_13_code 57 (.putfield 136) 3 60 := ⟨by decide +kernel, rfl⟩
theorem dd_S_send_60 : ev_j prog_7_method_13_code 60 (fun o => .goto o) 63 100 := ⟨40, by decide +kernel, rfl, by decide⟩
theorem dd_S_send_63 : ev_d prog_7_method_13_code 63 (.aload_n 0) 1 64 := ⟨by decide +kernel, rfl⟩
theorem dd_S_send_64 : ev_d prog_7_method_13_code 64 (.getfield 81) 3 67 := ⟨by decide +kernel, rfl⟩
theorem dd_S_send_67 : ev_d prog_7_method_13_code 67 (.iconst 3) 1 68 := ⟨by decide +kernel, rfl⟩
theorem dd_S_send_68 : ev_d prog_7_method_13_code 68 (.putfield 136) 3 71 := ⟨by decide +kernel, rfl⟩
theorem dd_S_send_71 : ev_j prog_7_method_13_code 71 (fun o => .goto o) 74 100 := ⟨29, by decide +kernel, rfl, by decide⟩
theorem dd_S_send_74 : ev_d prog_7_method_13_code 74 (.aload_n 0) 1 75 := ⟨by decide +kernel, rfl⟩
theorem dd_S_send_75 : ev_d prog_7_method_13_code 75 (.invokevirtual 139) 3 78 := ⟨by decide +kernel, rfl⟩
theorem dd_S_send_78 : ev_j prog_7_method_13_code 78 (fun o => .goto o) 81 100 := ⟨22, by decide +kernel, rfl, by decide⟩
theorem dd_S_send_81 : ev_d prog_7_method_13_code 81 (.aload_n 0) 1 82 := ⟨by decide +kernel, rfl⟩
theorem dd_S_send_82 : ev_d prog_7_method_13_code 82 (.getfield 81) 3 85 := ⟨by decide +kernel, rfl⟩
theorem dd_S_send_85 : ev_d prog_7_method_13_code 85 (.aload_n 0) 1 86 := ⟨by decide +kernel, rfl⟩
theorem dd_S_send_86 : ev_d prog_7_method_13_code 86 (.getfield 54) 3 89 := ⟨by decide +kernel, rfl⟩
theorem dd_S_send_89 : ev_j prog_7_method_13_code 89 (fun o => .ifCond .eq o) 92 96 := ⟨7, by decide +kernel, rfl, by decide⟩
theorem dd_S_send_92 : ev_d prog_7_method_13_code 92 (.iconst 1) 1 93 := ⟨by decide +kernel, rfl⟩
theorem dd_S_send_93 : ev_j prog_7_method_13_code 93 (fun o => .goto o) 96 97 := ⟨4, by decide +kernel, rfl, by decide⟩
theorem dd_S_send_96 : ev_d prog_7_method_13_code 96 (.iconst 0) 1 97 := ⟨by decide +kernel, rfl⟩
theorem dd_S_send_97 : ev_d prog_7_method_13_code 97 (.putfield 136) 3 100 := ⟨by decide +kernel, rfl⟩
theorem dd_S_send_100 : ev_d prog_7_method_13_code 100 (.aload_n 0) 1 101 := ⟨by decide +kernel, rfl⟩
theorem dd_S_send_101 : ev_d prog_7_method_13_code 101 (.iconst 0) 1 102 := ⟨by decide +kernel, rfl⟩
theorem dd_S_send_102 : ev_d prog_7_method_13_code 102 (.putfield 54) 3 105 := ⟨by decide +kernel, rfl⟩
theorem dd_S_send_105 : ev_d prog_7_method_13_code 105 .return_ 1 106 := ⟨by decide +kernel, rfl⟩
-- S_sendNumbered
theorem dd_S_sendNumbered_0 : ev_d prog_7_method_14_code 0 (.aload_n 0) 1 1 := ⟨by decide +kernel, rfl⟩
theorem dd_S_sendNumbered_1 : ev_d prog_7_method_14_code 1 (.getfield 24) 3 4 := ⟨by decide +kernel, rfl⟩
theorem dd_S_sendNumbered_4 : ev_d prog_7_method_14_code 4 (.istore_n 1) 1 5 := ⟨by decide +kernel, rfl⟩
theorem dd_S_sendNumbered_5 : ev_d prog_7_method_14_code 5 (.aload_n 0) 1 6 := ⟨by decide +kernel, rfl⟩
theorem dd_S_sendNumbered_6 : ev_d prog_7_method_14_code 6 (.getfield 58) 3 9 := ⟨by decide +kernel, rfl⟩
theorem dd_S_sendNumbered_9 : ev_j prog_7_method_14_code 9 (fun o => .ifCond .le o) 12 85 := ⟨76, by decide +kernel, rfl, by decide⟩
theorem dd_S_sendNumbered_12 : ev_d prog_7_method_14_code 12 (.aload_n 0) 1 13 := ⟨by decide +kernel, rfl⟩
theorem dd_S_sendNumbered_13 : ev_d prog_7_method_14_code 13 (.getfield 58) 3 16 := ⟨by decide +kernel, rfl⟩
theorem dd_S_sendNumbered_16 : ev_d prog_7_method_14_code 16 (.aload_n 0) 1 17 := ⟨by decide +kernel, rfl⟩
theorem dd_S_sendNumbered_17 : ev_d prog_7_method_14_code 17 (.getfield 64) 3 20 := ⟨by decide +kernel, rfl⟩
theorem dd_S_sendNumbered_20 : ev_d prog_7_method_14_code 20 (.invokevirtual 99) 3 23 := ⟨by decide +kernel, rfl⟩
theorem dd_S_sendNumbered_23 : ev_j prog_7_method_14_code 23 (fun o => .if_icmp .gt o) 26 85 := ⟨62, by decide +kernel, rfl, by decide⟩
theorem dd_S_sendNumbered_26 : ev_d prog_7_method_14_code 26 (.aload_n 0) 1 27 := ⟨by decide +kernel, rfl⟩
theorem dd_S_sendNumbered_27 : ev_d prog_7_method_14_code 27 (.getfield 81) 3 30 := ⟨by decide +kernel, rfl⟩
theorem dd_S_sendNumbered_30 : ev_d prog_7_method_14_code 30 (.aload_n 0) 1 31 := ⟨by decide +kernel, rfl⟩
theorem dd_S_sendNumbered_31 : ev_d prog_7_method_14_code 31 (.getfield 64) 3 34 := ⟨by decide +kernel, rfl⟩
theorem dd_S_sendNumbered_34 : ev_d prog_7_method_14_code 34 (.aload_n 0) 1 35 := ⟨by decide +kernel, rfl⟩
theorem dd_S_sendNumbered_35 : ev_d prog_7_method_14_code 35 (.getfield 64) 3 38 := ⟨by decide +kernel, rfl⟩
theorem dd_S_sendNumbered_38 : ev_d prog_7_method_14_code 38 (.invokevirtual 99) 3 41 := ⟨by decide +kernel, rfl⟩
theorem dd_S_sendNumbered_41 : ev_d prog_7_method_14_code 41 (.aload_n 0) 1 42 := ⟨by decide +kernel, rfl⟩
theorem dd_S_sendNumbered_42 : ev_d prog_7_method_14_code 42 (.getfield 58) 3 45 := ⟨by decide +kernel, rfl⟩
theorem dd_S_sendNumbered_45 : ev_d prog_7_method_14_code 45 .isub 1 46 := ⟨by decide +kernel, rfl⟩
theorem dd_S_sendNumbered_46 : ev_d prog_7_method_14_code 46 (.invokevirtual 103) 3 49 := ⟨by decide +kernel, rfl⟩
theorem dd_S_sendNumbered_49 : ev_d prog_7_method_14_code 49 (.checkcast 107) 3 52 := ⟨by decide +kernel, rfl⟩
theorem dd_S_sendNumbered_52 : ev_d prog_7_method_14_code 52 (.putfield 126) 3 55 := ⟨by decide +kernel, rfl⟩
theorem dd_S_sendNumbered_55 : ev_d prog_7_method_14_code 55 (.aload_n 0) 1 56 := ⟨by decide +kernel, rfl⟩
theorem dd_S_sendNumbered_56 : ev_d prog_7_method_14_code 56 (.getfield 24) 3 59 := ⟨by decide +kernel, rfl⟩
theorem dd_S_sendNumbered_59 : ev_d prog_7_method_14_code 59 (.aload_n 0) 1 60 := ⟨by decide +kernel, rfl⟩
theorem dd_S_sendNumbered_60 : ev_d prog_7_method_14_code 60 (.getfield 58) 3 63 := ⟨by decide +kernel, rfl⟩
theorem dd_S_sendNumbered_63 : ev_d prog_7_method_14_code 63 .isub 1 64 := ⟨by decide +kernel, rfl⟩
theorem dd_S_sendNumbered_64 : ev_d prog_7_method_14_code 64 (.iconst 1) 1 65 := ⟨by decide +kernel, rfl⟩
theorem dd_S_sendNumbered_65 : ev_d prog_7_method_14_code 65 .iadd 1 66 := ⟨by decide +kernel, rfl⟩
theorem dd_S_sendNumbered_66 : ev_d prog_7_method_14_code 66 (.bipush 8) 2 68 := ⟨by decide +kernel, rfl⟩
theorem dd_S_sendNumbered_68 : ev_d prog_7_method_14_code 68 (.invokestatic 112) 3 71 := ⟨by decide +kernel, rfl⟩
theorem dd_S_sendNumbered_71 : ev_d prog_7_method_14_code 71 (.istore_n 1) 1 72 := ⟨by decide +kernel, rfl⟩
theorem dd_S_sendNumbered_72 : ev_d prog_7_method_14_code 72 (.aload_n 0) 1 73 := ⟨by decide +kernel, rfl⟩
theorem dd_S_sendNumbered_73 : ev_d prog_7_method_14_code 73 .dup 1 74 := ⟨by decide +kernel, rfl⟩
theorem dd_S_sendNumbered_74 : ev_d prog_7_method_14_code 74 (.getfield 58) 3 77 := ⟨by decide +kernel, rfl⟩
theorem dd_S_sendNumbered_77 : ev_d prog_7_method_14_code 77 (.iconst 1) 1 78 := ⟨by decide +kernel, rfl⟩
theorem dd_S_sendNumbered_78 : ev_d prog_7_method_14_code 78 .isub 1 79 := ⟨by decide +kernel, rfl⟩
theorem dd_S_sendNumbered_79 : ev_d prog_7_method_14_code 79 (.putfield 58) 3 82 := ⟨by decide +kernel, rfl⟩
theorem dd_S_sendNumbered_82 : ev_j prog_7_method_14_code 82 (fun o => .goto o) 85 159 := ⟨77, by decide +kernel, rfl, by decide⟩
theorem dd_S_sendNumbered_85 : ev_d prog_7_method_14_code 85 (.aload_n 0) 1 86 := ⟨by decide +kernel, rfl⟩
theorem dd_S_sendNumbered_86 : ev_d prog_7_method_14_code 86 (.getfield 68) 3 89 := ⟨by decide +kernel, rfl⟩
theorem dd_S_sendNumbered_89 : ev_d prog_7_method_14_code 89 (.invokevirtual 131) 3 92 := ⟨by decide +kernel, rfl⟩
theorem dd_S_sendNumbered_92 : ev_j prog_7_method_14_code 92 (fun o => .ifCond .ne o) 95 159 := ⟨67, by decide +kernel, rfl, by decide⟩
theorem dd_S_sendNumbered_95 : ev_d prog_7_method_14_code 95 (.aload_n 0) 1 96 := ⟨by decide +kernel, rfl⟩
theorem dd_S_sendNumbered_96 : ev_d prog_7_method_14_code 96 (.getfield 64) 3 99 := ⟨by decide +kernel, rfl⟩
theorem dd_S_sendNumbered_99 : ev_d prog_7_method_14_code 99 (.invokevirtual 99) 3 102 := ⟨by decide +kernel, rfl⟩
theorem dd_S_sendNumbered_102 : ev_d prog_7_method_14_code 102 (.iconst 5) 1 103 := ⟨by decide +kernel, rfl⟩
theorem dd_S_sendNumbered_103 : ev_j prog_7_method_14_code 103 (fun o => .if_icmp .ge o) 106 159 := ⟨56, by decide +kernel, rfl, by decide⟩
theorem dd_S_sendNumbered_106 : ev_d prog_7_method_14_code 106 (.aload_n 0) 1 107 := ⟨by decide +kernel, rfl⟩
theorem dd_S_sendNumbered_107 : ev_d prog_7_method_14_code 107 (.getfield 81) 3 110 := ⟨by decide +kernel, rfl⟩
theorem dd_S_sendNumbered_110 : ev_d prog_7_method_14_code 110 (.aload_n 0) 1 111 := ⟨by decide +kernel, rfl⟩
theorem dd_S_sendNumbered_111 : ev_d prog_7_method_14_code 111 (.getfield 68) 3 114 := ⟨by decide +kernel, rfl⟩
theorem dd_S_sendNumbered_114 : ev_d prog_7_method_14_code 114 (.iconst 0) 1 115 := ⟨by decide +kernel, rfl⟩
theorem dd_S_sendNumbered_115 : ev_d prog_7_method_14_code 115 (.invokevirtual 142) 3 118 := ⟨by decide +kernel, rfl⟩
theorem dd_S_sendNumbered_118 : ev_d prog_7_method_14_code 118 (.checkcast 107) 3 121 := ⟨by decide +kernel, rfl⟩
theorem dd_S_sendNumbered_121 : ev_d prog_7_method_14_code 121 (.putfield 126) 3 124 := ⟨by decide +kernel, rfl⟩
theorem dd_S_sendNumbered_124 : ev_d prog_7_method_14_code 124 (.aload_n 0) 1 125 := ⟨by decide +kernel, rfl⟩
theorem dd_S_sendNumbered_125 : ev_d prog_7_method_14_code 125 (.getfield 64) 3 128 := ⟨by decide +kernel, rfl⟩
theorem dd_S_sendNumbered_128 : ev_d prog_7_method_14_code 128 (.aload_n 0) 1 129 := ⟨by decide +kernel, rfl⟩
theorem dd_S_sendNumbered_129 : ev_d prog_7_method_14_code 129 (.getfield 81) 3 132 := ⟨by decide +kernel, rfl⟩
theorem dd_S_sendNumbered_132 : ev_d prog_7_method_14_code 132 (.getfield 126) 3 135 := ⟨by decide +kernel, rfl⟩
theorem dd_S_sendNumbered_135 : ev_d prog_7_method_14_code 135 (.invokevirtual 145) 3 138 := ⟨by decide +kernel, rfl⟩
theorem dd_S_sendNumbered_138 : ev_d prog_7_method_14_code 138 .pop 1 139 := ⟨by decide +kernel, rfl⟩
theorem dd_S_sendNumbered_139 : ev_d prog_7_method_14_code 139 (.aload_n 0) 1 140 := ⟨by decide +kernel, rfl⟩
theorem dd_S_sendNumbered_140 : ev_d prog_7_method_14_code 140 (.aload_n 0) 1 141 := ⟨by decide +kernel, rfl⟩
theorem dd_S_sendNumbered_141 : ev_d prog_7_method_14_code 141 (.getfield 24) 3 144 := ⟨by decide +kernel, rfl⟩
theorem dd_S_sendNumbered_144 : ev_d prog_7_method_14_code 144 (.iconst 1) 1 145 := ⟨by decide +kernel, rfl⟩
theorem dd_S_sendNumbered_145 : ev_d prog_7_method_14_code 145 .iadd 1 146 := ⟨by decide +kernel, rfl⟩
theorem dd_S_sendNumbered_146 : ev_d prog_7_method_14_code 146 (.bipush 8) 2 148 := ⟨by decide +kernel, rfl⟩
theorem dd_S_sendNumbered_148 : ev_d prog_7_method_14_code 148 (.invokestatic 112) 3 151 := ⟨by decide +kernel, rfl⟩
theorem dd_S_sendNumbered_151 : ev_d prog_7_method_14_code 151 (.putfield 24) 3 154 := ⟨by decide +kernel, rfl⟩
theorem dd_S_sendNumbered_154 : ev_d prog_7_method_14_code 154 (.aload_n 0) 1 155 := ⟨by decide +kernel, rfl⟩
theorem dd_S_sendNumbered_155 : ev_d prog_7_method_14_code 155 (.getfield 24) 3 158 := ⟨by decide +kernel, rfl⟩
theorem dd_S_sendNumbered_158 : ev_d prog_7_method_14_code 158 (.istore_n 1) 1 159 := ⟨by decide +kernel, rfl⟩
theorem dd_S_sendNumbered_159 : ev_d prog_7_method_14_code 159 (.aload_n 0) 1 160 := ⟨by decide +kernel, rfl⟩
theorem dd_S_sendNumbered_160 : ev_d prog_7_method_14_code 160 (.getfield 81) 3 163 := ⟨by decide +kernel, rfl⟩
theorem dd_S_sendNumbered_163 : ev_d prog_7_method_14_code 163 (.iconst 4) 1 164 := ⟨by decide +kernel, rfl⟩
theorem dd_S_sendNumbered_164 : ev_d prog_7_method_14_code 164 (.putfield 136) 3 167 := ⟨by decide +kernel, rfl⟩
theorem dd_S_sendNumbered_167 : ev_d prog_7_method_14_code 167 (.aload_n 0) 1 168 := ⟨by decide +kernel, rfl⟩
theorem dd_S_sendNumbered_168 : ev_d prog_7_method_14_code 168 (.getfield 81) 3 171 := ⟨by decide +kernel, rfl⟩
theorem dd_S_sendNumbered_171 : ev_d prog_7_method_14_code 171 (.iload_n 1) 1 172 := ⟨by decide +kernel, rfl⟩
theorem dd_S_sendNumbered_172 : ev_d prog_7_method_14_code 172 (.putfield 130) 3 175 := ⟨by decide +kernel, rfl⟩
theorem dd_S_sendNumbered_175 : ev_d prog_7_method_14_code 175 (.aload_n 0) 1 176 := ⟨by decide +kernel, rfl⟩
theorem dd_S_sendNumbered_176 : ev_d prog_7_method_14_code 176 (.getfield 81) 3 179 := ⟨by decide +kernel, rfl⟩
theorem dd_S_sendNumbered_179 : ev_d prog_7_method_14_code 179 (.aload_n 0) 1 180 := ⟨by decide +kernel, rfl⟩
theorem dd_S_sendNumbered_180 : ev_d prog_7_method_14_code 180 (.getfield 30) 3 183 := ⟨by decide +kernel, rfl⟩
theorem dd_S_sendNumbered_183 : ev_d prog_7_method_14_code 183 (.putfield 125) 3 186 := ⟨by decide +kernel, rfl⟩
theorem dd_S_sendNumbered_186 : ev_d prog_7_method_14_code 186 (.aload_n 0) 1 187 := ⟨by decide +kernel, rfl⟩
theorem dd_S_sendNumbered_187 : ev_d prog_7_method_14_code 187 (.getfield 81) 3 190 := ⟨by decide +kernel, rfl⟩
theorem dd_S_sendNumbered_190 : ev_d prog_7_method_14_code 190 (.aload_n 0) 1 191 := ⟨by decide +kernel, rfl⟩
theorem dd_S_sendNumbered_191 : ev_d prog_7_method_14_code 191 (.getfield 27) 3 194 := ⟨by decide +kernel, rfl⟩
theorem dd_S_sendNumbered_194 : ev_d prog_7_method_14_code 194 (.putfield 149) 3 197 := ⟨by decide +kernel, rfl⟩
theorem dd_S_sendNumbered_197 : ev_d prog_7_method_14_code 197 (.aload_n 0) 1 198 := ⟨by decide +kernel, rfl⟩
theorem dd_S_sendNumbered_198 : ev_d prog_7_method_14_code 198 (.getfield 81) 3 201 := ⟨by decide +kernel, rfl⟩
theorem dd_S_sendNumbered_201 : ev_d prog_7_method_14_code 201 (.aload_n 0) 1 202 := ⟨by decide +kernel, rfl⟩
theorem dd_S_sendNumbered_202 : ev_d prog_7_method_14_code 202 (.getfield 33) 3 205 := ⟨by decide +kernel, rfl⟩
theorem dd_S_sendNumbered_205 : ev_d prog_7_method_14_code 205 (.putfield 150) 3 208 := ⟨by decide +kernel, rfl⟩
theorem dd_S_sendNumbered_208 : ev_d prog_7_method_14_code 208 .return_ 1 209 := ⟨by decide +kernel, rfl⟩
-- S_begin
theorem dd_S_begin_0 : ev_d prog_7_method_2_code 0 (.aload_n 0) 1 1 := ⟨by decide +kernel, rfl⟩
theorem dd_S_begin_1 : ev_d prog_7_method_2_code 1 (.iconst 1) 1 2 := ⟨by decide +kernel, rfl⟩
theorem dd_S_begin_2 : ev_d prog_7_method_2_code 2 (.invokevirtual 85) 3 5 := ⟨by decide +kernel, rfl⟩
theorem dd_S_begin_5 : ev_d prog_7_method_2_code 5 (.aload_n 0) 1 6 := ⟨by decide +kernel, rfl⟩
theorem dd_S_begin_6 : ev_d prog_7_method_2_code 6 .dup 1 7 := ⟨by decide +kernel, rfl⟩
theorem dd_S_begin_7 : ev_d prog_7_method_2_code 7 (.getfield 18) 3 10 := ⟨by decide +kernel, rfl⟩
theorem dd_S_begin_10 : ev_d prog_7_method_2_code 10 (.iconst 1) 1 11 := ⟨by decide +kernel, rfl⟩
theorem dd_S_begin_11 : ev_d prog_7_method_2_code 11 .iadd 1 12 := ⟨by decide +kernel, rfl⟩
theorem dd_S_begin_12 : ev_d prog_7_method_2_code 12 (.putfield 18) 3 15 := ⟨by decide +kernel, rfl⟩
theorem dd_S_begin_15 : ev_d prog_7_method_2_code 15 (.aload_n 0) 1 16 := ⟨by decide +kernel, rfl⟩
theorem dd_S_begin_16 : ev_d prog_7_method_2_code 16 (.iconst 0) 1 17 := ⟨by decide +kernel, rfl⟩
theorem dd_S_begin_17 : ev_d prog_7_method_2_code 17 (.putfield 54) 3 20 := ⟨by decide +kernel, rfl⟩
theorem dd_S_begin_20 : ev_d prog_7_method_2_code 20 (.aload_n 0) 1 21 := ⟨by decide +kernel, rfl⟩
theorem dd_S_begin_21 : ev_d prog_7_method_2_code 21 (.bipush 7) 2 23 := ⟨by decide +kernel, rfl⟩
theorem dd_S_begin_23 : ev_d prog_7_method_2_code 23 (.putfield 24) 3 26 := ⟨by decide +kernel, rfl⟩
theorem dd_S_begin_26 : ev_d prog_7_method_2_code 26 (.aload_n 0) 1 27 := ⟨by decide +kernel, rfl⟩
theorem dd_S_begin_27 : ev_d prog_7_method_2_code 27 (.bipush 7) 2 29 := ⟨by decide +kernel, rfl⟩
theorem dd_S_begin_29 : ev_d prog_7_method_2_code 29 (.putfield 27) 3 32 := ⟨by decide +kernel, rfl⟩
theorem dd_S_begin_32 : ev_d prog_7_method_2_code 32 (.aload_n 0) 1 33 := ⟨by decide +kernel, rfl⟩
theorem dd_S_begin_33 : ev_d prog_7_method_2_code 33 (.iconst 1) 1 34 := ⟨by decide +kernel, rfl⟩
theorem dd_S_begin_34 : ev_d prog_7_method_2_code 34 (.putfield 30) 3 37 := ⟨by decide +kernel, rfl⟩
theorem dd_S_begin_37 : ev_d prog_7_method_2_code 37 (.aload_n 0) 1 38 := ⟨by decide +kernel, rfl⟩
theorem dd_S_begin_38 : ev_d prog_7_method_2_code 38 (.iconst 1) 1 39 := ⟨by decide +kernel, rfl⟩
theorem dd_S_begin_39 : ev_d prog_7_method_2_code 39 (.putfield 33) 3 42 := ⟨by decide +kernel, rfl⟩
theorem dd_S_begin_42 : ev_d prog_7_method_2_code 42 (.aload_n 0) 1 43 := ⟨by decide +kernel, rfl⟩
theorem dd_S_begin_43 : ev_d prog_7_method_2_code 43 (.iconst 0) 1 44 := ⟨by decide +kernel, rfl⟩
theorem dd_S_begin_44 : ev_d prog_7_method_2_code 44 (.putfield 36) 3 47 := ⟨by decide +kernel, rfl⟩
theorem dd_S_begin_47 : ev_d prog_7_method_2_code 47 (.aload_n 0) 1 48 := ⟨by decide +kernel, rfl⟩
theorem dd_S_begin_48 : ev_d prog_7_method_2_code 48 (.iconst 0) 1 49 := ⟨by decide +kernel, rfl⟩
theorem dd_S_begin_49 : ev_d prog_7_method_2_code 49 (.putfield 39) 3 52 := ⟨by decide +kernel, rfl⟩
theorem dd_S_begin_52 : ev_d prog_7_method_2_code 52 (.aload_n 0) 1 53 := ⟨by decide +kernel, rfl⟩
theorem dd_S_begin_53 : ev_d prog_7_method_2_code 53 (.iconst 0) 1 54 := ⟨by decide +kernel, rfl⟩
theorem dd_S_begin_54 : ev_d prog_7_method_2_code 54 (.putfield 42) 3 57 := ⟨by decide +kernel, rfl⟩
theorem dd_S_begin_57 : ev_d prog_7_method_2_code 57 (.aload_n 0) 1 58 := ⟨by decide +kernel, rfl⟩
theorem dd_S_begin_58 : ev_d prog_7_method_2_code 58 (.iconst 0) 1 59 := ⟨by decide +kernel, rfl⟩
theorem dd_S_begin_59 : ev_d prog_7_method_2_code 59 (.putfield 45) 3 62 := ⟨by decide +kernel, rfl⟩
theorem dd_S_begin_62 : ev_d prog_7_method_2_code 62 (.aload_n 0) 1 63 := ⟨by decide +kernel, rfl⟩
theorem dd_S_begin_63 : ev_d prog_7_method_2_code 63 (.iconst 0) 1 64 := ⟨by decide +kernel, rfl⟩
theorem dd_S_begin_64 : ev_d prog_7_method_2_code 64 (.putfield 48) 3 67 := ⟨by decide +kernel, rfl⟩
theorem dd_S_begin_67 : ev_d prog_7_method_2_code 67 (.aload_n 0) 1 68 := ⟨by decide +kernel, rfl⟩
theorem dd_S_begin_68 : ev_d prog_7_method_2_code 68 (.iconst 0) 1 69 := ⟨by decide +kernel, rfl⟩
theorem dd_S_begin_69 : ev_d prog_7_method_2_code 69 (.putfield 51) 3 72 := ⟨by decide +kernel, rfl⟩
theorem dd_S_begin_72 : ev_d prog_7_method_2_code 72 (.aload_n 0) 1 73 := ⟨by decide +kernel, rfl⟩
theorem dd_S_begin_73 : ev_d prog_7_method_2_code 73 (.invokevirtual 89) 3 76 := ⟨by decide +kernel, rfl⟩
theorem dd_S_begin_76 : ev_d prog_7_method_2_code 76 .return_ 1 77 := ⟨by decide +kernel, rfl⟩
-- E_accept
theorem dd_E_accept_0 : ev_d prog_3_method_17_code 0 (.aload_n 0) 1 1 := ⟨by decide +kernel, rfl⟩
theorem dd_E_accept_1 : ev_d prog_3_method_17_code 1 (.getfield 19) 3 4 := ⟨by decide +kernel, rfl⟩
theorem dd_E_accept_4 : ev_d prog_3_method_17_code 4 (.aload_n 0) 1 5 := ⟨by decide +kernel, rfl⟩
theorem dd_E_accept_5 : ev_d prog_3_method_17_code 5 (.getfield 25) 3 8 := ⟨by decide +kernel, rfl⟩
theorem dd_E_accept_8 : ev_d prog_3_method_17_code 8 (.iload_n 1) 1 9 := ⟨by decide +kernel, rfl⟩
theorem dd_E_accept_9 : ev_d prog_3_method_17_code 9 .iaload 1 10 := ⟨by decide +kernel, rfl⟩
theorem dd_E_accept_10 : ev_d prog_3_method_17_code 10 .aaload 1 11 := ⟨by decide +kernel, rfl⟩
theorem dd_E_accept_11 : ev_d prog_3_method_17_code 11 (.getfield 167) 3 14 := ⟨by decide +kernel, rfl⟩
theorem dd_E_accept_14 : ev_j prog_3_method_17_code 14 (fun o => .ifCond .eq o) 17 29 := ⟨15, by decide +kernel, rfl, by decide⟩
theorem dd_E_accept_17 : ev_d prog_3_method_17_code 17 (.aload_n 0) 1 18 := ⟨by decide +kernel, rfl⟩
theorem dd_E_accept_18 : ev_d prog_3_method_17_code 18 (.getfield 35) 3 21 := ⟨by decide +kernel, rfl⟩
theorem dd_E_accept_21 : ev_d prog_3_method_17_code 21 (.bipush 8) 2 23 := ⟨by decide +kernel, rfl⟩
theorem dd_E_accept_23 : ev_d prog_3_method_17_code 23 (.iload_n 1) 1 24 := ⟨by decide +kernel, rfl⟩
theorem dd_E_accept_24 : ev_d prog_3_method_17_code 24 (.iload_n 2) 1 25 := ⟨by decide +kernel, rfl⟩
theorem dd_E_accept_25 : ev_d prog_3_method_17_code 25 (.invokestatic 191) 3 28 := ⟨by decide +kernel, rfl⟩
theorem dd_E_accept_28 : ev_d prog_3_method_17_code 28 .ireturn 1 29 := ⟨by decide +kernel, rfl⟩
theorem dd_E_accept_29 : ev_d prog_3_method_17_code 29 (.aload_n 0) 1 30 := ⟨by decide +kernel, rfl⟩
theorem dd_E_accept_30 : ev_d prog_3_method_17_code 30 (.getfield 11) 3 33 := ⟨by decide +kernel, rfl⟩
theorem dd_E_accept_33 : ev_d prog_3_method_17_code 33 (.aload_n 0) 1 34 := ⟨by decide +kernel, rfl⟩
theorem dd_E_accept_34 : ev_d prog_3_method_17_code 34 (.getfield 25) 3 37 := ⟨by decide +kernel, rfl⟩
theorem dd_E_accept_37 : ev_d prog_3_method_17_code 37 (.iload_n 1) 1 38 := ⟨by decide +kernel, rfl⟩
theorem dd_E_accept_38 : ev_d prog_3_method_17_code 38 .iaload 1 39 := ⟨by decide +kernel, rfl⟩
theorem dd_E_accept_39 : ev_d prog_3_method_17_code 39 .aaload 1 40 := ⟨by decide +kernel, rfl⟩
theorem dd_E_accept_40 : ev_d prog_3_method_17_code 40 (.iload_n 1) 1 41 := ⟨by decide +kernel, rfl⟩
theorem dd_E_accept_41 : ev_d prog_3_method_17_code 41 (.invokevirtual 195) 3 44 := ⟨by decide +kernel, rfl⟩
theorem dd_E_accept_44 : ev_j prog_3_method_17_code 44 (fun o => .ifCond .eq o) 47 60 := ⟨16, by decide +kernel, rfl, by decide⟩
theorem dd_E_accept_47 : ev_d prog_3_method_17_code 47 (.aload_n 0) 1 48 := ⟨by decide +kernel, rfl⟩
theorem dd_E_accept_48 : ev_d prog_3_method_17_code 48 (.aload_n 0) 1 49 := ⟨by decide +kernel, rfl⟩
theorem dd_E_accept_49 : ev_d prog_3_method_17_code 49 (.getfield 25) 3 52 := ⟨by decide +kernel, rfl⟩
theorem dd_E_accept_52 : ev_d prog_3_method_17_code 52 (.iload_n 1) 1 53 := ⟨by decide +kernel, rfl⟩
theorem dd_E_accept_53 : ev_d prog_3_method_17_code 53 .iaload 1 54 := ⟨by decide +kernel, rfl⟩
theorem dd_E_accept_54 : ev_d prog_3_method_17_code 54 (.invokevirtual 188) 3 57 := ⟨by decide +kernel, rfl⟩
theorem dd_E_accept_57 : ev_j prog_3_method_17_code 57 (fun o => .ifCond .ne o) 60 80 := ⟨23, by decide +kernel, rfl, by decide⟩
theorem dd_E_accept_60 : ev_d prog_3_method_17_code 60 (.aload_n 0) 1 61 := ⟨by decide +kernel, rfl⟩
theorem dd_E_accept_61 : ev_d prog_3_method_17_code 61 (.iload_n 1) 1 62 := ⟨by decide +kernel, rfl⟩
theorem dd_E_accept_62 : ev_d prog_3_method_17_code 62 (.invokevirtual 198) 3 65 := ⟨by decide +kernel, rfl⟩
theorem dd_E_accept_65 : ev_d prog_3_method_17_code 65 (.istore_n 3) 1 66 := ⟨by decide +kernel, rfl⟩
theorem dd_E_accept_66 : ev_d prog_3_method_17_code 66 (.iload_n 3) 1 67 := ⟨by decide +kernel, rfl⟩
theorem dd_E_accept_67 : ev_d prog_3_method_17_code 67 (.iconst (-1)) 1 68 := ⟨by decide +kernel, rfl⟩
theorem dd_E_accept_68 : ev_j prog_3_method_17_code 68 (fun o => .if_icmp .ne o) 71 73 := ⟨5, by decide +kernel, rfl, by decide⟩
theorem dd_E_accept_71 : ev_d prog_3_method_17_code 71 (.iconst 0) 1 72 := ⟨by decide +kernel, rfl⟩
theorem dd_E_accept_72 : ev_d prog_3_method_17_code 72 .ireturn 1 73 := ⟨by decide +kernel, rfl⟩
theorem dd_E_accept_73 : ev_d prog_3_method_17_code 73 (.aload_n 0) 1 74 := ⟨by decide +kernel, rfl⟩
theorem dd_E_accept_74 : ev_d prog_3_method_17_code 74 (.getfield 25) 3 77 := ⟨by decide +kernel, rfl⟩
theorem dd_E_accept_77 : ev_d prog_3_method_17_code 77 (.iload_n 1) 1 78 := ⟨by decide +kernel, rfl⟩
theorem dd_E_accept_78 : ev_d prog_3_method_17_code 78 (.iload_n 3) 1 79 := ⟨by decide +kernel, rfl⟩
theorem dd_E_accept_79 : ev_d prog_3_method_17_code 79 .iastore 1 80 := ⟨by decide +kernel, rfl⟩
theorem dd_E_accept_80 : ev_d prog_3_method_17_code 80 (.aload_n 0) 1 81 := ⟨by decide +kernel, rfl⟩
theorem dd_E_accept_81 : ev_d prog_3_method_17_code 81 (.getfield 11) 3 84 := ⟨by decide +kernel, rfl⟩
theorem dd_E_accept_84 : ev_d prog_3_method_17_code 84 (.aload_n 0) 1 85 := ⟨by decide +kernel, rfl⟩
theorem dd_E_accept_85 : ev_d prog_3_method_17_code 85 (.getfield 25) 3 88 := ⟨by decide +kernel, rfl⟩
theorem dd_E_accept_88 : ev_d prog_3_method_17_code 88 (.iload_n 1) 1 89 := ⟨by decide +kernel, rfl⟩
theorem dd_E_accept_89 : ev_d prog_3_method_17_code 89 .iaload 1 90 := ⟨by decide +kernel, rfl⟩
theorem dd_E_accept_90 : ev_d prog_3_method_17_code 90 .aaload 1 91 := ⟨by decide +kernel, rfl⟩
theorem dd_E_accept_91 : ev_d prog_3_method_17_code 91 (.getfield 185) 3 94 := ⟨by decide +kernel, rfl⟩
theorem dd_E_accept_94 : ev_d prog_3_method_17_code 94 (.bipush 6) 2 96 := ⟨by decide +kernel, rfl⟩
theorem dd_E_accept_96 : ev_d prog_3_method_17_code 96 (.iload_n 1) 1 97 := ⟨by decide +kernel, rfl⟩
theorem dd_E_accept_97 : ev_d prog_3_method_17_code 97 (.iload_n 2) 1 98 := ⟨by decide +kernel, rfl⟩
theorem dd_E_accept_98 : ev_d prog_3_method_17_code 98 (.invokestatic 191) 3 101 := ⟨by decide +kernel, rfl⟩
theorem dd_E_accept_101 : ev_d prog_3_method_17_code 101 .ireturn 1 102 := ⟨by decide +kernel, rfl⟩
-- E_addBelow
theorem dd_E_addBelow_0 : ev_d prog_3_method_18_code 0 (.aload_n 0) 1 1 := ⟨by decide +kernel, rfl⟩
theorem dd_E_addBelow_1 : ev_d prog_3_method_18_code 1 (.invokevirtual 201) 3 4 := ⟨by decide +kernel, rfl⟩
theorem dd_E_addBelow_4 : ev_d prog_3_method_18_code 4 (.iload_n 1) 1 5 := ⟨by decide +kernel, rfl⟩
theorem dd_E_addBelow_5 : ev_j prog_3_method_18_code 5 (fun o => .if_icmp .lt o) 8 10 := ⟨5, by decide +kernel, rfl, by decide⟩
theorem dd_E_addBelow_8 : ev_d prog_3_method_18_code 8 (.iconst 0) 1 9 := ⟨by decide +kernel, rfl⟩
theorem dd_E_addBelow_9 : ev_d prog_3_method_18_code 9 .ireturn 1 10 := ⟨by decide +kernel, rfl⟩
theorem dd_E_addBelow_10 : ev_d prog_3_method_18_code 10 (.aload_n 0) 1 11 := ⟨by decide +kernel, rfl⟩
theorem dd_E_addBelow_11 : ev_d prog_3_method_18_code 11 (.new 139) 3 14 := ⟨by decide +kernel, rfl⟩
theorem dd_E_addBelow_14 : ev_d prog_3_method_18_code 14 .dup 1 15 := ⟨by decide +kernel, rfl⟩
theorem dd_E_addBelow_15 : ev_d prog_3_method_18_code 15 (.iload_n 2) 1 16 := ⟨by decide +kernel, rfl⟩
theorem dd_E_addBelow_16 : ev_d prog_3_method_18_code 16 (.iload_n 3) 1 17 := ⟨by decide +kernel, rfl⟩
theorem dd_E_addBelow_17 : ev_d prog_3_method_18_code 17 (.iconst (-1)) 1 18 := ⟨by decide +kernel, rfl⟩
theorem dd_E_addBelow_18 : ev_d prog_3_method_18_code 18 (.iconst (-1)) 1 19 := ⟨by decide +kernel, rfl⟩
theorem dd_E_addBelow_19 : ev_d prog_3_method_18_code 19 (.invokespecial 161) 3 22 := ⟨by decide +kernel, rfl⟩
theorem dd_E_addBelow_22 : ev_d prog_3_method_18_code 22 (.invokevirtual 149) 3 25 := ⟨by decide +kernel, rfl⟩
theorem dd_E_addBelow_25 : ev_d prog_3_method_18_code 25 .pop 1 26 := ⟨by decide +kernel, rfl⟩
theorem dd_E_addBelow_26 : ev_d prog_3_method_18_code 26 (.iconst 1) 1 27 := ⟨by decide +kernel, rfl⟩
theorem dd_E_addBelow_27 : ev_d prog_3_method_18_code 27 .ireturn 1 28 := ⟨by decide +kernel, rfl⟩
-- S_carries
theorem dd_S_carries_0 : ev_d prog_7_method_5_code 0 (.aload_n 0) 1 1 := ⟨by decide +kernel, rfl⟩
theorem dd_S_carries_1 : ev_d prog_7_method_5_code 1 (.getfield 64) 3 4 := ⟨by decide +kernel, rfl⟩
theorem dd_S_carries_4 : ev_d prog_7_method_5_code 4 (.iload_n 1) 1 5 := ⟨by decide +kernel, rfl⟩
theorem dd_S_carries_5 : ev_d prog_7_method_5_code 5 (.invokestatic 95) 3 8 := ⟨by decide +kernel, rfl⟩
theorem dd_S_carries_8 : ev_j prog_7_method_5_code 8 (fun o => .ifCond .ne o) 11 22 := ⟨14, by decide +kernel, rfl, by decide⟩
theorem dd_S_carries_11 : ev_d prog_7_method_5_code 11 (.aload_n 0) 1 12 := ⟨by decide +kernel, rfl⟩
theorem dd_S_carries_12 : ev_d prog_7_method_5_code 12 (.getfield 68) 3 15 := ⟨by decide +kernel, rfl⟩
theorem dd_S_carries_15 : ev_d prog_7_method_5_code 15 (.iload_n 1) 1 16 := ⟨by decide +kernel, rfl⟩
theorem dd_S_carries_16 : ev_d prog_7_method_5_code 16 (.invokestatic 95) 3 19 := ⟨by decide +kernel, rfl⟩
theorem dd_S_carries_19 : ev_j prog_7_method_5_code 19 (fun o => .ifCond .eq o) 22 26 := ⟨7, by decide +kernel, rfl, by decide⟩
theorem dd_S_carries_22 : ev_d prog_7_method_5_code 22 (.iconst 1) 1 23 := ⟨by decide +kernel, rfl⟩
theorem dd_S_carries_23 : ev_j prog_7_method_5_code 23 (fun o => .goto o) 26 27 := ⟨4, by decide +kernel, rfl, by decide⟩
theorem dd_S_carries_26 : ev_d prog_7_method_5_code 26 (.iconst 0) 1 27 := ⟨by decide +kernel, rfl⟩
theorem dd_S_carries_27 : ev_d prog_7_method_5_code 27 .ireturn 1 28 := ⟨by decide +kernel, rfl⟩
-- S_holds
theorem dd_S_holds_0 : ev_d prog_7_method_6_code 0 (.iconst 0) 1 1 := ⟨by decide +kernel, rfl⟩
theorem dd_S_holds_1 : ev_d prog_7_method_6_code 1 (.istore_n 2) 1 2 := ⟨by decide +kernel, rfl⟩
theorem dd_S_holds_2 : ev_d prog_7_method_6_code 2 (.iload_n 2) 1 3 := ⟨by decide +kernel, rfl⟩
theorem dd_S_holds_3 : ev_d prog_7_method_6_code 3 (.aload_n 0) 1 4 := ⟨by decide +kernel, rfl⟩
theorem dd_S_holds_4 : ev_d prog_7_method_6_code 4 (.invokevirtual 99) 3 7 := ⟨by decide +kernel, rfl⟩
theorem dd_S_holds_7 : ev_j prog_7_method_6_code 7 (fun o => .if_icmp .ge o) 10 33 := ⟨26, by decide +kernel, rfl, by decide⟩
theorem dd_S_holds_10 : ev_d prog_7_method_6_code 10 (.aload_n 0) 1 11 := ⟨by decide +kernel, rfl⟩
theorem dd_S_holds_11 : ev_d prog_7_method_6_code 11 (.iload_n 2) 1 12 := ⟨by decide +kernel, rfl⟩
theorem dd_S_holds_12 : ev_d prog_7_method_6_code 12 (.invokevirtual 103) 3 15 := ⟨by decide +kernel, rfl⟩
theorem dd_S_holds_15 : ev_d prog_7_method_6_code 15 (.checkcast 107) 3 18 := ⟨by decide +kernel, rfl⟩
theorem dd_S_holds_18 : ev_d prog_7_method_6_code 18 (.getfield 109) 3 21 := ⟨by decide +kernel, rfl⟩
theorem dd_S_holds_21 : ev_d prog_7_method_6_code 21 (.iload_n 1) 1 22 := ⟨by decide +kernel, rfl⟩
theorem dd_S_holds_22 : ev_j prog_7_method_6_code 22 (fun o => .if_icmp .ne o) 25 27 := ⟨5, by decide +kernel, rfl, by decide⟩
theorem dd_S_holds_25 : ev_d prog_7_method_6_code 25 (.iconst 1) 1 26 := ⟨by decide +kernel, rfl⟩
theorem dd_S_holds_26 : ev_d prog_7_method_6_code 26 .ireturn 1 27 := ⟨by decide +kernel, rfl⟩
theorem dd_S_holds_27 : ev_d prog_7_method_6_code 27 (.iinc 2 1) 3 30 := ⟨by decide +kernel, rfl⟩
theorem dd_S_holds_30 : ev_j prog_7_method_6_code 30 (fun o => .goto o) 33 2 := ⟨(-28), by decide +kernel, rfl, by decide⟩
theorem dd_S_holds_33 : ev_d prog_7_method_6_code 33 (.iconst 0) 1 34 := ⟨by decide +kernel, rfl⟩
theorem dd_S_holds_34 : ev_d prog_7_method_6_code 34 .ireturn 1 35 := ⟨by decide +kernel, rfl⟩
