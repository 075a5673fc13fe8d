/-! decode rows (printed) -/
-- W_start
theorem dd_W_start_0 : ev_d method_3_code 0 (.aload_n 3) 1 1 := ⟨by decide +kernel, rfl⟩
theorem dd_W_start_1 : ev_d method_3_code 1 (.iconst 0) 1 2 := ⟨by decide +kernel, rfl⟩
theorem dd_W_start_2 : ev_d method_3_code 2 (.aload_n 0) 1 3 := ⟨by decide +kernel, rfl⟩
theorem dd_W_start_3 : ev_d method_3_code 3 (.iload_n 1) 1 4 := ⟨by decide +kernel, rfl⟩
theorem dd_W_start_4 : ev_d method_3_code 4 (.iload_n 2) 1 5 := ⟨by decide +kernel, rfl⟩
theorem dd_W_start_5 : ev_d method_3_code 5 (.invokevirtual 7) 3 8 := ⟨by decide +kernel, rfl⟩
theorem dd_W_start_8 : ev_j method_3_code 8 (fun o => .ifCond .eq o) 11 15 := ⟨7, by decide +kernel, rfl, by decide⟩
theorem dd_W_start_11 : ev_d method_3_code 11 (.lconst 1) 1 12 := ⟨by decide +kernel, rfl⟩
theorem dd_W_start_12 : ev_j method_3_code 12 (fun o => .goto o) 15 16 := ⟨4, by decide +kernel, rfl, by decide⟩
theorem dd_W_start_15 : ev_d method_3_code 15 (.lconst 0) 1 16 := ⟨by decide +kernel, rfl⟩
theorem dd_W_start_16 : ev_d method_3_code 16 .lastore 1 17 := ⟨by decide +kernel, rfl⟩
theorem dd_W_start_17 : ev_j method_3_code 17 (fun o => .goto o) 20 24 := ⟨7, by decide +kernel, rfl, by decide⟩
theorem dd_W_start_20 : ev_d method_3_code 20 (.astore 4) 2 22 := ⟨by decide +kernel, rfl⟩
theorem dd_W_start_22 : ev_d method_3_code 22 (.iconst 1) 1 23 := ⟨by decide +kernel, rfl⟩
theorem dd_W_start_23 : ev_d method_3_code 23 .ireturn 1 24 := ⟨by decide +kernel, rfl⟩
theorem dd_W_start_24 : ev_d method_3_code 24 (.iconst 0) 1 25 := ⟨by decide +kernel, rfl⟩
theorem dd_W_start_25 : ev_d method_3_code 25 .ireturn 1 26 := ⟨by decide +kernel, rfl⟩
-- W_stop
theorem dd_W_stop_0 : ev_d method_4_code 0 (.aload_n 3) 1 1 := ⟨by decide +kernel, rfl⟩
theorem dd_W_stop_1 : ev_d method_4_code 1 (.iconst 0) 1 2 := ⟨by decide +kernel, rfl⟩
theorem dd_W_stop_2 : ev_d method_4_code 2 (.aload_n 0) 1 3 := ⟨by decide +kernel, rfl⟩
theorem dd_W_stop_3 : ev_d method_4_code 3 (.iload_n 1) 1 4 := ⟨by decide +kernel, rfl⟩
theorem dd_W_stop_4 : ev_d method_4_code 4 (.iload_n 2) 1 5 := ⟨by decide +kernel, rfl⟩
theorem dd_W_stop_5 : ev_d method_4_code 5 (.invokevirtual 15) 3 8 := ⟨by decide +kernel, rfl⟩
theorem dd_W_stop_8 : ev_j method_4_code 8 (fun o => .ifCond .eq o) 11 15 := ⟨7, by decide +kernel, rfl, by decide⟩
theorem dd_W_stop_11 : ev_d method_4_code 11 (.lconst 1) 1 12 := ⟨by decide +kernel, rfl⟩
theorem dd_W_stop_12 : ev_j method_4_code 12 (fun o => .goto o) 15 16 := ⟨4, by decide +kernel, rfl, by decide⟩
theorem dd_W_stop_15 : ev_d method_4_code 15 (.lconst 0) 1 16 := ⟨by decide +kernel, rfl⟩
theorem dd_W_stop_16 : ev_d method_4_code 16 .lastore 1 17 := ⟨by decide +kernel, rfl⟩
theorem dd_W_stop_17 : ev_j method_4_code 17 (fun o => .goto o) 20 24 := ⟨7, by decide +kernel, rfl, by decide⟩
theorem dd_W_stop_20 : ev_d method_4_code 20 (.astore 4) 2 22 := ⟨by decide +kernel, rfl⟩
theorem dd_W_stop_22 : ev_d method_4_code 22 (.iconst 1) 1 23 := ⟨by decide +kernel, rfl⟩
theorem dd_W_stop_23 : ev_d method_4_code 23 .ireturn 1 24 := ⟨by decide +kernel, rfl⟩
theorem dd_W_stop_24 : ev_d method_4_code 24 (.iconst 0) 1 25 := ⟨by decide +kernel, rfl⟩
theorem dd_W_stop_25 : ev_d method_4_code 25 .ireturn 1 26 := ⟨by decide +kernel, rfl⟩
-- W_fault
theorem dd_W_fault_0 : ev_d method_5_code 0 (.aload_n 0) 1 1 := ⟨by decide +kernel, rfl⟩
theorem dd_W_fault_1 : ev_d method_5_code 1 (.iload_n 1) 1 2 := ⟨by decide +kernel, rfl⟩
theorem dd_W_fault_2 : ev_d method_5_code 2 (.iload_n 2) 1 3 := ⟨by decide +kernel, rfl⟩
theorem dd_W_fault_3 : ev_d method_5_code 3 (.iload_n 3) 1 4 := ⟨by decide +kernel, rfl⟩
theorem dd_W_fault_4 : ev_d method_5_code 4 (.iload 4) 2 6 := ⟨by decide +kernel, rfl⟩
theorem dd_W_fault_6 : ev_d method_5_code 6 (.invokevirtual 18) 3 9 := ⟨by decide +kernel, rfl⟩
theorem dd_W_fault_9 : ev_j method_5_code 9 (fun o => .goto o) 12 20 := ⟨11, by decide +kernel, rfl, by decide⟩
theorem dd_W_fault_12 : ev_d method_5_code 12 (.astore 5) 2 14 := ⟨by decide +kernel, rfl⟩
theorem dd_W_fault_14 : ev_d method_5_code 14 (.iconst 1) 1 15 := ⟨by decide +kernel, rfl⟩
theorem dd_W_fault_15 : ev_d method_5_code 15 .ireturn 1 16 := ⟨by decide +kernel, rfl⟩
theorem dd_W_fault_16 : ev_d method_5_code 16 (.astore 5) 2 18 := ⟨by decide +kernel, rfl⟩
theorem dd_W_fault_18 : ev_d method_5_code 18 (.iconst 2) 1 19 := ⟨by decide +kernel, rfl⟩
theorem dd_W_fault_19 : ev_d method_5_code 19 .ireturn 1 20 := ⟨by decide +kernel, rfl⟩
theorem dd_W_fault_20 : ev_d method_5_code 20 (.iconst 0) 1 21 := ⟨by decide +kernel, rfl⟩
theorem dd_W_fault_21 : ev_d method_5_code 21 .ireturn 1 22 := ⟨by decide +kernel, rfl⟩
-- W_submit
theorem dd_W_submit_0 : ev_d method_6_code 0 (.aload 4) 2 2 := ⟨by decide +kernel, rfl⟩
theorem dd_W_submit_2 : ev_d method_6_code 2 (.iconst 0) 1 3 := ⟨by decide +kernel, rfl⟩
theorem dd_W_submit_3 : ev_d method_6_code 3 (.aload_n 0) 1 4 := ⟨by decide +kernel, rfl⟩
theorem dd_W_submit_4 : ev_d method_6_code 4 (.iload_n 1) 1 5 := ⟨by decide +kernel, rfl⟩
theorem dd_W_submit_5 : ev_d method_6_code 5 (.iload_n 2) 1 6 := ⟨by decide +kernel, rfl⟩
theorem dd_W_submit_6 : ev_d method_6_code 6 (.iload_n 3) 1 7 := ⟨by decide +kernel, rfl⟩
theorem dd_W_submit_7 : ev_d method_6_code 7 (.invokevirtual 24) 3 10 := ⟨by decide +kernel, rfl⟩
theorem dd_W_submit_10 : ev_j method_6_code 10 (fun o => .ifCond .eq o) 13 17 := ⟨7, by decide +kernel, rfl, by decide⟩
theorem dd_W_submit_13 : ev_d method_6_code 13 (.lconst 1) 1 14 := ⟨by decide +kernel, rfl⟩
theorem dd_W_submit_14 : ev_j method_6_code 14 (fun o => .goto o) 17 18 := ⟨4, by decide +kernel, rfl, by decide⟩
theorem dd_W_submit_17 : ev_d method_6_code 17 (.lconst 0) 1 18 := ⟨by decide +kernel, rfl⟩
theorem dd_W_submit_18 : ev_d method_6_code 18 .lastore 1 19 := ⟨by decide +kernel, rfl⟩
theorem dd_W_submit_19 : ev_j method_6_code 19 (fun o => .goto o) 22 26 := ⟨7, by decide +kernel, rfl, by decide⟩
theorem dd_W_submit_22 : ev_d method_6_code 22 (.astore 5) 2 24 := ⟨by decide +kernel, rfl⟩
theorem dd_W_submit_24 : ev_d method_6_code 24 (.iconst 1) 1 25 := ⟨by decide +kernel, rfl⟩
theorem dd_W_submit_25 : ev_d method_6_code 25 .ireturn 1 26 := ⟨by decide +kernel, rfl⟩
theorem dd_W_submit_26 : ev_d method_6_code 26 (.iconst 0) 1 27 := ⟨by decide +kernel, rfl⟩
theorem dd_W_submit_27 : ev_d method_6_code 27 .ireturn 1 28 := ⟨by decide +kernel, rfl⟩
-- W_state
theorem dd_W_state_0 : ev_d method_7_code 0 (.aload_n 3) 1 1 := ⟨by decide +kernel, rfl⟩
theorem dd_W_state_1 : ev_d method_7_code 1 (.iconst 0) 1 2 := ⟨by decide +kernel, rfl⟩
theorem dd_W_state_2 : ev_d method_7_code 2 (.aload_n 0) 1 3 := ⟨by decide +kernel, rfl⟩
theorem dd_W_state_3 : ev_d method_7_code 3 (.iload_n 1) 1 4 := ⟨by decide +kernel, rfl⟩
theorem dd_W_state_4 : ev_d method_7_code 4 (.iload_n 2) 1 5 := ⟨by decide +kernel, rfl⟩
theorem dd_W_state_5 : ev_d method_7_code 5 (.invokevirtual 28) 3 8 := ⟨by decide +kernel, rfl⟩
theorem dd_W_state_8 : ev_d method_7_code 8 .i2l 1 9 := ⟨by decide +kernel, rfl⟩
theorem dd_W_state_9 : ev_d method_7_code 9 .lastore 1 10 := ⟨by decide +kernel, rfl⟩
theorem dd_W_state_10 : ev_j method_7_code 10 (fun o => .goto o) 13 17 := ⟨7, by decide +kernel, rfl, by decide⟩
theorem dd_W_state_13 : ev_d method_7_code 13 (.astore 4) 2 15 := ⟨by decide +kernel, rfl⟩
theorem dd_W_state_15 : ev_d method_7_code 15 (.iconst 1) 1 16 := ⟨by decide +kernel, rfl⟩
theorem dd_W_state_16 : ev_d method_7_code 16 .ireturn 1 17 := ⟨by decide +kernel, rfl⟩
theorem dd_W_state_17 : ev_d method_7_code 17 (.iconst 0) 1 18 := ⟨by decide +kernel, rfl⟩
theorem dd_W_state_18 : ev_d method_7_code 18 .ireturn 1 19 := ⟨by decide +kernel, rfl⟩
-- W_of
theorem dd_W_of_0 : ev_d method_8_code 0 (.aload 4) 2 2 := ⟨by decide +kernel, rfl⟩
theorem dd_W_of_2 : ev_d method_8_code 2 (.iconst 0) 1 3 := ⟨by decide +kernel, rfl⟩
theorem dd_W_of_3 : ev_d method_8_code 3 (.aload_n 0) 1 4 := ⟨by decide +kernel, rfl⟩
theorem dd_W_of_4 : ev_d method_8_code 4 (.iload_n 1) 1 5 := ⟨by decide +kernel, rfl⟩
theorem dd_W_of_5 : ev_d method_8_code 5 (.iload_n 2) 1 6 := ⟨by decide +kernel, rfl⟩
theorem dd_W_of_6 : ev_d method_8_code 6 (.iload_n 3) 1 7 := ⟨by decide +kernel, rfl⟩
theorem dd_W_of_7 : ev_d method_8_code 7 (.invokevirtual 32) 3 10 := ⟨by decide +kernel, rfl⟩
theorem dd_W_of_10 : ev_d method_8_code 10 .i2l 1 11 := ⟨by decide +kernel, rfl⟩
theorem dd_W_of_11 : ev_d method_8_code 11 .lastore 1 12 := ⟨by decide +kernel, rfl⟩
theorem dd_W_of_12 : ev_j method_8_code 12 (fun o => .goto o) 15 19 := ⟨7, by decide +kernel, rfl, by decide⟩
theorem dd_W_of_15 : ev_d method_8_code 15 (.astore 5) 2 17 := ⟨by decide +kernel, rfl⟩
theorem dd_W_of_17 : ev_d method_8_code 17 (.iconst 1) 1 18 := ⟨by decide +kernel, rfl⟩
theorem dd_W_of_18 : ev_d method_8_code 18 .ireturn 1 19 := ⟨by decide +kernel, rfl⟩
theorem dd_W_of_19 : ev_d method_8_code 19 (.iconst 0) 1 20 := ⟨by decide +kernel, rfl⟩
theorem dd_W_of_20 : ev_d method_8_code 20 .ireturn 1 21 := ⟨by decide +kernel, rfl⟩
-- W_link
theorem dd_W_link_0 : ev_d method_9_code 0 (.aload_n 3) 1 1 := ⟨by decide +kernel, rfl⟩
theorem dd_W_link_1 : ev_d method_9_code 1 (.iconst 0) 1 2 := ⟨by decide +kernel, rfl⟩
theorem dd_W_link_2 : ev_d method_9_code 2 (.aload_n 0) 1 3 := ⟨by decide +kernel, rfl⟩
theorem dd_W_link_3 : ev_d method_9_code 3 (.iload_n 1) 1 4 := ⟨by decide +kernel, rfl⟩
theorem dd_W_link_4 : ev_d method_9_code 4 (.iload_n 2) 1 5 := ⟨by decide +kernel, rfl⟩
theorem dd_W_link_5 : ev_d method_9_code 5 (.invokevirtual 36) 3 8 := ⟨by decide +kernel, rfl⟩
theorem dd_W_link_8 : ev_d method_9_code 8 .i2l 1 9 := ⟨by decide +kernel, rfl⟩
theorem dd_W_link_9 : ev_d method_9_code 9 .lastore 1 10 := ⟨by decide +kernel, rfl⟩
theorem dd_W_link_10 : ev_j method_9_code 10 (fun o => .goto o) 13 17 := ⟨7, by decide +kernel, rfl, by decide⟩
theorem dd_W_link_13 : ev_d method_9_code 13 (.astore 4) 2 15 := ⟨by decide +kernel, rfl⟩
theorem dd_W_link_15 : ev_d method_9_code 15 (.iconst 1) 1 16 := ⟨by decide +kernel, rfl⟩
theorem dd_W_link_16 : ev_d method_9_code 16 .ireturn 1 17 := ⟨by decide +kernel, rfl⟩
theorem dd_W_link_17 : ev_d method_9_code 17 (.iconst 0) 1 18 := ⟨by decide +kernel, rfl⟩
theorem dd_W_link_18 : ev_d method_9_code 18 .ireturn 1 19 := ⟨by decide +kernel, rfl⟩
-- W_changes
theorem dd_W_changes_0 : ev_d method_10_code 0 (.aload_n 3) 1 1 := ⟨by decide +kernel, rfl⟩
theorem dd_W_changes_1 : ev_d method_10_code 1 (.iconst 0) 1 2 := ⟨by decide +kernel, rfl⟩
theorem dd_W_changes_2 : ev_d method_10_code 2 (.aload_n 0) 1 3 := ⟨by decide +kernel, rfl⟩
theorem dd_W_changes_3 : ev_d method_10_code 3 (.iload_n 1) 1 4 := ⟨by decide +kernel, rfl⟩
theorem dd_W_changes_4 : ev_d method_10_code 4 (.iload_n 2) 1 5 := ⟨by decide +kernel, rfl⟩
theorem dd_W_changes_5 : ev_d method_10_code 5 (.invokevirtual 39) 3 8 := ⟨by decide +kernel, rfl⟩
theorem dd_W_changes_8 : ev_d method_10_code 8 .i2l 1 9 := ⟨by decide +kernel, rfl⟩
theorem dd_W_changes_9 : ev_d method_10_code 9 .lastore 1 10 := ⟨by decide +kernel, rfl⟩
theorem dd_W_changes_10 : ev_j method_10_code 10 (fun o => .goto o) 13 17 := ⟨7, by decide +kernel, rfl, by decide⟩
theorem dd_W_changes_13 : ev_d method_10_code 13 (.astore 4) 2 15 := ⟨by decide +kernel, rfl⟩
theorem dd_W_changes_15 : ev_d method_10_code 15 (.iconst 1) 1 16 := ⟨by decide +kernel, rfl⟩
theorem dd_W_changes_16 : ev_d method_10_code 16 .ireturn 1 17 := ⟨by decide +kernel, rfl⟩
theorem dd_W_changes_17 : ev_d method_10_code 17 (.iconst 0) 1 18 := ⟨by decide +kernel, rfl⟩
theorem dd_W_changes_18 : ev_d method_10_code 18 .ireturn 1 19 := ⟨by decide +kernel, rfl⟩
-- W_held
theorem dd_W_held_0 : ev_d method_11_code 0 (.aload_n 2) 1 1 := ⟨by decide +kernel, rfl⟩
theorem dd_W_held_1 : ev_d method_11_code 1 (.iconst 0) 1 2 := ⟨by decide +kernel, rfl⟩
theorem dd_W_held_2 : ev_d method_11_code 2 (.aload_n 0) 1 3 := ⟨by decide +kernel, rfl⟩
theorem dd_W_held_3 : ev_d method_11_code 3 (.iload_n 1) 1 4 := ⟨by decide +kernel, rfl⟩
theorem dd_W_held_4 : ev_d method_11_code 4 (.invokevirtual 42) 3 7 := ⟨by decide +kernel, rfl⟩
theorem dd_W_held_7 : ev_d method_11_code 7 .i2l 1 8 := ⟨by decide +kernel, rfl⟩
theorem dd_W_held_8 : ev_d method_11_code 8 .lastore 1 9 := ⟨by decide +kernel, rfl⟩
theorem dd_W_held_9 : ev_j method_11_code 9 (fun o => .goto o) 12 15 := ⟨6, by decide +kernel, rfl, by decide⟩
theorem dd_W_held_12 : ev_d method_11_code 12 (.astore_n 3) 1 13 := ⟨by decide +kernel, rfl⟩
theorem dd_W_held_13 : ev_d method_11_code 13 (.iconst 1) 1 14 := ⟨by decide +kernel, rfl⟩
theorem dd_W_held_14 : ev_d method_11_code 14 .ireturn 1 15 := ⟨by decide +kernel, rfl⟩
theorem dd_W_held_15 : ev_d method_11_code 15 (.iconst 0) 1 16 := ⟨by decide +kernel, rfl⟩
theorem dd_W_held_16 : ev_d method_11_code 16 .ireturn 1 17 := ⟨by decide +kernel, rfl⟩
-- W_inbox
theorem dd_W_inbox_0 : ev_d method_12_code 0 (.aload_n 2) 1 1 := ⟨by decide +kernel, rfl⟩
theorem dd_W_inbox_1 : ev_d method_12_code 1 (.iconst 0) 1 2 := ⟨by decide +kernel, rfl⟩
theorem dd_W_inbox_2 : ev_d method_12_code 2 (.aload_n 0) 1 3 := ⟨by decide +kernel, rfl⟩
theorem dd_W_inbox_3 : ev_d method_12_code 3 (.iload_n 1) 1 4 := ⟨by decide +kernel, rfl⟩
theorem dd_W_inbox_4 : ev_d method_12_code 4 (.invokevirtual 46) 3 7 := ⟨by decide +kernel, rfl⟩
theorem dd_W_inbox_7 : ev_d method_12_code 7 .i2l 1 8 := ⟨by decide +kernel, rfl⟩
theorem dd_W_inbox_8 : ev_d method_12_code 8 .lastore 1 9 := ⟨by decide +kernel, rfl⟩
theorem dd_W_inbox_9 : ev_j method_12_code 9 (fun o => .goto o) 12 15 := ⟨6, by decide +kernel, rfl, by decide⟩
theorem dd_W_inbox_12 : ev_d method_12_code 12 (.astore_n 3) 1 13 := ⟨by decide +kernel, rfl⟩
theorem dd_W_inbox_13 : ev_d method_12_code 13 (.iconst 1) 1 14 := ⟨by decide +kernel, rfl⟩
theorem dd_W_inbox_14 : ev_d method_12_code 14 .ireturn 1 15 := ⟨by decide +kernel, rfl⟩
theorem dd_W_inbox_15 : ev_d method_12_code 15 (.iconst 0) 1 16 := ⟨by decide +kernel, rfl⟩
theorem dd_W_inbox_16 : ev_d method_12_code 16 .ireturn 1 17 := ⟨by decide +kernel, rfl⟩
-- W_take
theorem dd_W_take_0 : ev_d method_13_code 0 (.aload_n 2) 1 1 := ⟨by decide +kernel, rfl⟩
theorem dd_W_take_1 : ev_d method_13_code 1 (.iconst 0) 1 2 := ⟨by decide +kernel, rfl⟩
theorem dd_W_take_2 : ev_d method_13_code 2 (.aload_n 0) 1 3 := ⟨by decide +kernel, rfl⟩
theorem dd_W_take_3 : ev_d method_13_code 3 (.iload_n 1) 1 4 := ⟨by decide +kernel, rfl⟩
theorem dd_W_take_4 : ev_d method_13_code 4 (.invokevirtual 49) 3 7 := ⟨by decide +kernel, rfl⟩
theorem dd_W_take_7 : ev_d method_13_code 7 .lastore 1 8 := ⟨by decide +kernel, rfl⟩
theorem dd_W_take_8 : ev_j method_13_code 8 (fun o => .goto o) 11 17 := ⟨9, by decide +kernel, rfl, by decide⟩
theorem dd_W_take_11 : ev_d method_13_code 11 (.astore_n 3) 1 12 := ⟨by decide +kernel, rfl⟩
theorem dd_W_take_12 : ev_d method_13_code 12 (.iconst 1) 1 13 := ⟨by decide +kernel, rfl⟩
theorem dd_W_take_13 : ev_d method_13_code 13 .ireturn 1 14 := ⟨by decide +kernel, rfl⟩
theorem dd_W_take_14 : ev_d method_13_code 14 (.astore_n 3) 1 15 := ⟨by decide +kernel, rfl⟩
theorem dd_W_take_15 : ev_d method_13_code 15 (.iconst 2) 1 16 := ⟨by decide +kernel, rfl⟩
theorem dd_W_take_16 : ev_d method_13_code 16 .ireturn 1 17 := ⟨by decide +kernel, rfl⟩
theorem dd_W_take_17 : ev_d method_13_code 17 (.iconst 0) 1 18 := ⟨by decide +kernel, rfl⟩
theorem dd_W_take_18 : ev_d method_13_code 18 .ireturn 1 19 := ⟨by decide +kernel, rfl⟩
-- W_law
theorem dd_W_law_0 : ev_d code 0 (.new 8) 3 3 := ⟨by decide +kernel, rfl⟩
theorem dd_W_law_3 : ev_d code 3 .dup 1 4 := ⟨by decide +kernel, rfl⟩
theorem dd_W_law_4 : ev_d code 4 (.invokespecial 55) 3 7 := ⟨by decide +kernel, rfl⟩
theorem dd_W_law_7 : ev_d code 7 (.astore_n 1) 1 8 := ⟨by decide +kernel, rfl⟩
theorem dd_W_law_8 : ev_d code 8 (.new 56) 3 11 := ⟨by decide +kernel, rfl⟩
theorem dd_W_law_11 : ev_d code 11 .dup 1 12 := ⟨by decide +kernel, rfl⟩
theorem dd_W_law_12 : ev_d code 12 (.invokespecial 58) 3 15 := ⟨by decide +kernel, rfl⟩
theorem dd_W_law_15 : ev_d code 15 (.astore_n 2) 1 16 := ⟨by decide +kernel, rfl⟩
theorem dd_W_law_16 : ev_d code 16 (.iconst 1) 1 17 := ⟨by decide +kernel, rfl⟩
theorem dd_W_law_17 : ev_d code 17 (.newarray .long) 2 19 := ⟨by decide +kernel, rfl⟩
theorem dd_W_law_19 : ev_d code 19 (.astore_n 3) 1 20 := ⟨by decide +kernel, rfl⟩
theorem dd_W_law_20 : ev_d code 20 (.iconst 0) 1 21 := ⟨by decide +kernel, rfl⟩
theorem dd_W_law_21 : ev_d code 21 (.istore 4) 2 23 := ⟨by decide +kernel, rfl⟩
theorem dd_W_law_23 : ev_d code 23 (.iload 4) 2 25 := ⟨by decide +kernel, rfl⟩
theorem dd_W_law_25 : ev_d code 25 (.aload_n 0) 1 26 := ⟨by decide +kernel, rfl⟩
theorem dd_W_law_26 : ev_d code 26 .arraylength 1 27 := ⟨by decide +kernel, rfl⟩
theorem dd_W_law_27 : ev_d code 27 (.iconst 5) 1 28 := ⟨by decide +kernel, rfl⟩
theorem dd_W_law_28 : ev_d code 28 .isub 1 29 := ⟨by decide +kernel, rfl⟩
theorem dd_W_law_29 : ev_j code 29 (fun o => .if_icmp .gt o) 32 896 := ⟨867, by decide +kernel, rfl, by decide⟩
theorem dd_W_law_32 : ev_d code 32 (.aload_n 0) 1 33 := ⟨by decide +kernel, rfl⟩
theorem dd_W_law_33 : ev_d code 33 (.iload 4) 2 35 := ⟨by decide +kernel, rfl⟩
theorem dd_W_law_35 : ev_d code 35 .iaload 1 36 := ⟨by decide +kernel, rfl⟩
theorem dd_W_law_36 : ev_d code 36 (.bipush 15) 2 38 := ⟨by decide +kernel, rfl⟩
theorem dd_W_law_38 : ev_d code 38 .iand 1 39 := ⟨by decide +kernel, rfl⟩
theorem dd_W_law_39 : decode code 39 = .ok ((.tableswitch 851 0 12 #[65, 140, 215, 287, 374, 387, 455, 535, 603, 671, 727, 783, 838]), 65) := by decide +kernel
theorem dd_W_law_104 : ev_d code 104 (.aload_n 1) 1 105 := ⟨by decide +kernel, rfl⟩
theorem dd_W_law_105 : ev_d code 105 (.aload_n 0) 1 106 := ⟨by decide +kernel, rfl⟩
theorem dd_W_law_106 : ev_d code 106 (.iload 4) 2 108 := ⟨by decide +kernel, rfl⟩
theorem dd_W_law_108 : ev_d code 108 (.iconst 1) 1 109 := ⟨by decide +kernel, rfl⟩
theorem dd_W_law_109 : ev_d code 109 .iadd 1 110 := ⟨by decide +kernel, rfl⟩
theorem dd_W_law_110 : ev_d code 110 .iaload 1 111 := ⟨by decide +kernel, rfl⟩
theorem dd_W_law_111 : ev_d code 111 (.aload_n 0) 1 112 := ⟨by decide +kernel, rfl⟩
theorem dd_W_law_112 : ev_d code 112 (.iload 4) 2 114 := ⟨by decide +kernel, rfl⟩
theorem dd_W_law_114 : ev_d code 114 (.iconst 2) 1 115 := ⟨by decide +kernel, rfl⟩
theorem dd_W_law_115 : ev_d code 115 .iadd 1 116 := ⟨by decide +kernel, rfl⟩
theorem dd_W_law_116 : ev_d code 116 .iaload 1 117 := ⟨by decide +kernel, rfl⟩
theorem dd_W_law_117 : ev_d code 117 (.aload_n 3) 1 118 := ⟨by decide +kernel, rfl⟩
theorem dd_W_law_118 : ev_d code 118 (.invokestatic 59) 3 121 := ⟨by decide +kernel, rfl⟩
theorem dd_W_law_121 : ev_d code 121 (.istore 5) 2 123 := ⟨by decide +kernel, rfl⟩
theorem dd_W_law_123 : ev_d code 123 (.aload_n 2) 1 124 := ⟨by decide +kernel, rfl⟩
theorem dd_W_law_124 : ev_d code 124 (.aload_n 0) 1 125 := ⟨by decide +kernel, rfl⟩
theorem dd_W_law_125 : ev_d code 125 (.iload 4) 2 127 := ⟨by decide +kernel, rfl⟩
theorem dd_W_law_127 : ev_d code 127 (.iconst 1) 1 128 := ⟨by decide +kernel, rfl⟩
theorem dd_W_law_128 : ev_d code 128 .iadd 1 129 := ⟨by decide +kernel, rfl⟩
theorem dd_W_law_129 : ev_d code 129 .iaload 1 130 := ⟨by decide +kernel, rfl⟩
theorem dd_W_law_130 : ev_d code 130 (.aload_n 0) 1 131 := ⟨by decide +kernel, rfl⟩
theorem dd_W_law_131 : ev_d code 131 (.iload 4) 2 133 := ⟨by decide +kernel, rfl⟩
theorem dd_W_law_133 : ev_d code 133 (.iconst 2) 1 134 := ⟨by decide +kernel, rfl⟩
theorem dd_W_law_134 : ev_d code 134 .iadd 1 135 := ⟨by decide +kernel, rfl⟩
theorem dd_W_law_135 : ev_d code 135 .iaload 1 136 := ⟨by decide +kernel, rfl⟩
theorem dd_W_law_136 : ev_d code 136 (.invokevirtual 64) 3 139 := ⟨by decide +kernel, rfl⟩
theorem dd_W_law_139 : ev_d code 139 (.istore 6) 2 141 := ⟨by decide +kernel, rfl⟩
theorem dd_W_law_141 : ev_d code 141 (.aload_n 2) 1 142 := ⟨by decide +kernel, rfl⟩
theorem dd_W_law_142 : ev_d code 142 (.invokevirtual 65) 3 145 := ⟨by decide +kernel, rfl⟩
theorem dd_W_law_145 : ev_d code 145 (.iload 5) 2 147 := ⟨by decide +kernel, rfl⟩
theorem dd_W_law_147 : ev_j code 147 (fun o => .if_icmp .eq o) 150 152 := ⟨5, by decide +kernel, rfl, by decide⟩
theorem dd_W_law_150 : ev_d code 150 (.iconst 0) 1 151 := ⟨by decide +kernel, rfl⟩
theorem dd_W_law_151 : ev_d code 151 .ireturn 1 152 := ⟨by decide +kernel, rfl⟩
theorem dd_W_law_152 : ev_d code 152 (.iload 5) 2 154 := ⟨by decide +kernel, rfl⟩
theorem dd_W_law_154 : ev_j code 154 (fun o => .ifCond .ne o) 157 176 := ⟨22, by decide +kernel, rfl, by decide⟩
theorem dd_W_law_157 : ev_d code 157 (.aload_n 3) 1 158 := ⟨by decide +kernel, rfl⟩
theorem dd_W_law_158 : ev_d code 158 (.iconst 0) 1 159 := ⟨by decide +kernel, rfl⟩
theorem dd_W_law_159 : ev_d code 159 .laload 1 160 := ⟨by decide +kernel, rfl⟩
theorem dd_W_law_160 : ev_d code 160 (.iload 6) 2 162 := ⟨by decide +kernel, rfl⟩
theorem dd_W_law_162 : ev_j code 162 (fun o => .ifCond .eq o) 165 169 := ⟨7, by decide +kernel, rfl, by decide⟩
theorem dd_W_law_165 : ev_d code 165 (.lconst 1) 1 166 := ⟨by decide +kernel, rfl⟩
theorem dd_W_law_166 : ev_j code 166 (fun o => .goto o) 169 170 := ⟨4, by decide +kernel, rfl, by decide⟩
theorem dd_W_law_169 : ev_d code 169 (.lconst 0) 1 170 := ⟨by decide +kernel, rfl⟩
theorem dd_W_law_170 : ev_d code 170 .lcmp 1 171 := ⟨by decide +kernel, rfl⟩
theorem dd_W_law_171 : ev_j code 171 (fun o => .ifCond .eq o) 174 176 := ⟨5, by decide +kernel, rfl, by decide⟩
theorem dd_W_law_174 : ev_d code 174 (.iconst 0) 1 175 := ⟨by decide +kernel, rfl⟩
theorem dd_W_law_175 : ev_d code 175 .ireturn 1 176 := ⟨by decide +kernel, rfl⟩
theorem dd_W_law_176 : ev_j code 176 (fun o => .goto o) 179 890 := ⟨714, by decide +kernel, rfl, by decide⟩
theorem dd_W_law_179 : ev_d code 179 (.aload_n 1) 1 180 := ⟨by decide +kernel, rfl⟩
theorem dd_W_law_180 : ev_d code 180 (.aload_n 0) 1 181 := ⟨by decide +kernel, rfl⟩
theorem dd_W_law_181 : ev_d code 181 (.iload 4) 2 183 := ⟨by decide +kernel, rfl⟩
theorem dd_W_law_183 : ev_d code 183 (.iconst 1) 1 184 := ⟨by decide +kernel, rfl⟩
theorem dd_W_law_184 : ev_d code 184 .iadd 1 185 := ⟨by decide +kernel, rfl⟩
theorem dd_W_law_185 : ev_d code 185 .iaload 1 186 := ⟨by decide +kernel, rfl⟩
theorem dd_W_law_186 : ev_d code 186 (.aload_n 0) 1 187 := ⟨by decide +kernel, rfl⟩
theorem dd_W_law_187 : ev_d code 187 (.iload 4) 2 189 := ⟨by decide +kernel, rfl⟩
theorem dd_W_law_189 : ev_d code 189 (.iconst 2) 1 190 := ⟨by decide +kernel, rfl⟩
theorem dd_W_law_190 : ev_d code 190 .iadd 1 191 := ⟨by decide +kernel, rfl⟩
theorem dd_W_law_191 : ev_d code 191 .iaload 1 192 := ⟨by decide +kernel, rfl⟩
theorem dd_W_law_192 : ev_d code 192 (.aload_n 3) 1 193 := ⟨by decide +kernel, rfl⟩
theorem dd_W_law_193 : ev_d code 193 (.invokestatic 69) 3 196 := ⟨by decide +kernel, rfl⟩
theorem dd_W_law_196 : ev_d code 196 (.istore 5) 2 198 := ⟨by decide +kernel, rfl⟩
theorem dd_W_law_198 : ev_d code 198 (.aload_n 2) 1 199 := ⟨by decide +kernel, rfl⟩
theorem dd_W_law_199 : ev_d code 199 (.aload_n 0) 1 200 := ⟨by decide +kernel, rfl⟩
theorem dd_W_law_200 : ev_d code 200 (.iload 4) 2 202 := ⟨by decide +kernel, rfl⟩
theorem dd_W_law_202 : ev_d code 202 (.iconst 1) 1 203 := ⟨by decide +kernel, rfl⟩
theorem dd_W_law_203 : ev_d code 203 .iadd 1 204 := ⟨by decide +kernel, rfl⟩
theorem dd_W_law_204 : ev_d code 204 .iaload 1 205 := ⟨by decide +kernel, rfl⟩
theorem dd_W_law_205 : ev_d code 205 (.aload_n 0) 1 206 := ⟨by decide +kernel, rfl⟩
theorem dd_W_law_206 : ev_d code 206 (.iload 4) 2 208 := ⟨by decide +kernel, rfl⟩
theorem dd_W_law_208 : ev_d code 208 (.iconst 2) 1 209 := ⟨by decide +kernel, rfl⟩
theorem dd_W_law_209 : ev_d code 209 .iadd 1 210 := ⟨by decide +kernel, rfl⟩
theorem dd_W_law_210 : ev_d code 210 .iaload 1 211 := ⟨by decide +kernel, rfl⟩
theorem dd_W_law_211 : ev_d code 211 (.invokevirtual 71) 3 214 := ⟨by decide +kernel, rfl⟩
theorem dd_W_law_214 : ev_d code 214 (.istore 6) 2 216 := ⟨by decide +kernel, rfl⟩
theorem dd_W_law_216 : ev_d code 216 (.aload_n 2) 1 217 := ⟨by decide +kernel, rfl⟩
theorem dd_W_law_217 : ev_d code 217 (.invokevirtual 65) 3 220 := ⟨by decide +kernel, rfl⟩
theorem dd_W_law_220 : ev_d code 220 (.iload 5) 2 222 := ⟨by decide +kernel, rfl⟩
theorem dd_W_law_222 : ev_j code 222 (fun o => .if_icmp .eq o) 225 227 := ⟨5, by decide +kernel, rfl, by decide⟩
theorem dd_W_law_225 : ev_d code 225 (.iconst 0) 1 226 := ⟨by decide +kernel, rfl⟩
theorem dd_W_law_226 : ev_d code 226 .ireturn 1 227 := ⟨by decide +kernel, rfl⟩
theorem dd_W_law_227 : ev_d code 227 (.iload 5) 2 229 := ⟨by decide +kernel, rfl⟩
theorem dd_W_law_229 : ev_j code 229 (fun o => .ifCond .ne o) 232 251 := ⟨22, by decide +kernel, rfl, by decide⟩
theorem dd_W_law_232 : ev_d code 232 (.aload_n 3) 1 233 := ⟨by decide +kernel, rfl⟩
theorem dd_W_law_233 : ev_d code 233 (.iconst 0) 1 234 := ⟨by decide +kernel, rfl⟩
theorem dd_W_law_234 : ev_d code 234 .laload 1 235 := ⟨by decide +kernel, rfl⟩
theorem dd_W_law_235 : ev_d code 235 (.iload 6) 2 237 := ⟨by decide +kernel, rfl⟩
theorem dd_W_law_237 : ev_j code 237 (fun o => .ifCond .eq o) 240 244 := ⟨7, by decide +kernel, rfl, by decide⟩
theorem dd_W_law_240 : ev_d code 240 (.lconst 1) 1 241 := ⟨by decide +kernel, rfl⟩
theorem dd_W_law_241 : ev_j code 241 (fun o => .goto o) 244 245 := ⟨4, by decide +kernel, rfl, by decide⟩
theorem dd_W_law_244 : ev_d code 244 (.lconst 0) 1 245 := ⟨by decide +kernel, rfl⟩
theorem dd_W_law_245 : ev_d code 245 .lcmp 1 246 := ⟨by decide +kernel, rfl⟩
theorem dd_W_law_246 : ev_j code 246 (fun o => .ifCond .eq o) 249 251 := ⟨5, by decide +kernel, rfl, by decide⟩
theorem dd_W_law_249 : ev_d code 249 (.iconst 0) 1 250 := ⟨by decide +kernel, rfl⟩
theorem dd_W_law_250 : ev_d code 250 .ireturn 1 251 := ⟨by decide +kernel, rfl⟩
theorem dd_W_law_251 : ev_j code 251 (fun o => .goto o) 254 890 := ⟨639, by decide +kernel, rfl, by decide⟩
theorem dd_W_law_254 : ev_d code 254 (.aload_n 1) 1 255 := ⟨by decide +kernel, rfl⟩
theorem dd_W_law_255 : ev_d code 255 (.aload_n 0) 1 256 := ⟨by decide +kernel, rfl⟩
theorem dd_W_law_256 : ev_d code 256 (.iload 4) 2 258 := ⟨by decide +kernel, rfl⟩
theorem dd_W_law_258 : ev_d code 258 (.iconst 1) 1 259 := ⟨by decide +kernel, rfl⟩
theorem dd_W_law_259 : ev_d code 259 .iadd 1 260 := ⟨by decide +kernel, rfl⟩
theorem dd_W_law_260 : ev_d code 260 .iaload 1 261 := ⟨by decide +kernel, rfl⟩
theorem dd_W_law_261 : ev_d code 261 (.aload_n 0) 1 262 := ⟨by decide +kernel, rfl⟩
theorem dd_W_law_262 : ev_d code 262 (.iload 4) 2 264 := ⟨by decide +kernel, rfl⟩
theorem dd_W_law_264 : ev_d code 264 (.iconst 2) 1 265 := ⟨by decide +kernel, rfl⟩
theorem dd_W_law_265 : ev_d code 265 .iadd 1 266 := ⟨by decide +kernel, rfl⟩
theorem dd_W_law_266 : ev_d code 266 .iaload 1 267 := ⟨by decide +kernel, rfl⟩
theorem dd_W_law_267 : ev_d code 267 (.aload_n 0) 1 268 := ⟨by decide +kernel, rfl⟩
theorem dd_W_law_268 : ev_d code 268 (.iload 4) 2 270 := ⟨by decide +kernel, rfl⟩
theorem dd_W_law_270 : ev_d code 270 (.iconst 3) 1 271 := ⟨by decide +kernel, rfl⟩
theorem dd_W_law_271 : ev_d code 271 .iadd 1 272 := ⟨by decide +kernel, rfl⟩
theorem dd_W_law_272 : ev_d code 272 .iaload 1 273 := ⟨by decide +kernel, rfl⟩
theorem dd_W_law_273 : ev_d code 273 (.aload_n 0) 1 274 := ⟨by decide +kernel, rfl⟩
theorem dd_W_law_274 : ev_d code 274 (.iload 4) 2 276 := ⟨by decide +kernel, rfl⟩
theorem dd_W_law_276 : ev_d code 276 (.iconst 4) 1 277 := ⟨by decide +kernel, rfl⟩
theorem dd_W_law_277 : ev_d code 277 .iadd 1 278 := ⟨by decide +kernel, rfl⟩
theorem dd_W_law_278 : ev_d code 278 .iaload 1 279 := ⟨by decide +kernel, rfl⟩
theorem dd_W_law_279 : ev_d code 279 (.invokestatic 72) 3 282 := ⟨by decide +kernel, rfl⟩
theorem dd_W_law_282 : ev_d code 282 (.istore 5) 2 284 := ⟨by decide +kernel, rfl⟩
theorem dd_W_law_284 : ev_d code 284 (.aload_n 2) 1 285 := ⟨by decide +kernel, rfl⟩
theorem dd_W_law_285 : ev_d code 285 (.aload_n 0) 1 286 := ⟨by decide +kernel, rfl⟩
theorem dd_W_law_286 : ev_d code 286 (.iload 4) 2 288 := ⟨by decide +kernel, rfl⟩
theorem dd_W_law_288 : ev_d code 288 (.iconst 1) 1 289 := ⟨by decide +kernel, rfl⟩
theorem dd_W_law_289 : ev_d code 289 .iadd 1 290 := ⟨by decide +kernel, rfl⟩
theorem dd_W_law_290 : ev_d code 290 .iaload 1 291 := ⟨by decide +kernel, rfl⟩
theorem dd_W_law_291 : ev_d code 291 (.aload_n 0) 1 292 := ⟨by decide +kernel, rfl⟩
theorem dd_W_law_292 : ev_d code 292 (.iload 4) 2 294 := ⟨by decide +kernel, rfl⟩
theorem dd_W_law_294 : ev_d code 294 (.iconst 2) 1 295 := ⟨by decide +kernel, rfl⟩
theorem dd_W_law_295 : ev_d code 295 .iadd 1 296 := ⟨by decide +kernel, rfl⟩
theorem dd_W_law_296 : ev_d code 296 .iaload 1 297 := ⟨by decide +kernel, rfl⟩
theorem dd_W_law_297 : ev_d code 297 (.aload_n 0) 1 298 := ⟨by decide +kernel, rfl⟩
theorem dd_W_law_298 : ev_d code 298 (.iload 4) 2 300 := ⟨by decide +kernel, rfl⟩
theorem dd_W_law_300 : ev_d code 300 (.iconst 3) 1 301 := ⟨by decide +kernel, rfl⟩
theorem dd_W_law_301 : ev_d code 301 .iadd 1 302 := ⟨by decide +kernel, rfl⟩
theorem dd_W_law_302 : ev_d code 302 .iaload 1 303 := ⟨by decide +kernel, rfl⟩
theorem dd_W_law_303 : ev_d code 303 (.aload_n 0) 1 304 := ⟨by decide +kernel, rfl⟩
theorem dd_W_law_304 : ev_d code 304 (.iload 4) 2 306 := ⟨by decide +kernel, rfl⟩
theorem dd_W_law_306 : ev_d code 306 (.iconst 4) 1 307 := ⟨by decide +kernel, rfl⟩
theorem dd_W_law_307 : ev_d code 307 .iadd 1 308 := ⟨by decide +kernel, rfl⟩
theorem dd_W_law_308 : ev_d code 308 .iaload 1 309 := ⟨by decide +kernel, rfl⟩
theorem dd_W_law_309 : ev_d code 309 (.invokevirtual 75) 3 312 := ⟨by decide +kernel, rfl⟩
theorem dd_W_law_312 : ev_d code 312 (.aload_n 2) 1 313 := ⟨by decide +kernel, rfl⟩
theorem dd_W_law_313 : ev_d code 313 (.invokevirtual 65) 3 316 := ⟨by decide +kernel, rfl⟩
theorem dd_W_law_316 : ev_d code 316 (.iload 5) 2 318 := ⟨by decide +kernel, rfl⟩
theorem dd_W_law_318 : ev_j code 318 (fun o => .if_icmp .eq o) 321 323 := ⟨5, by decide +kernel, rfl, by decide⟩
theorem dd_W_law_321 : ev_d code 321 (.iconst 0) 1 322 := ⟨by decide +kernel, rfl⟩
theorem dd_W_law_322 : ev_d code 322 .ireturn 1 323 := ⟨by decide +kernel, rfl⟩
theorem dd_W_law_323 : ev_j code 323 (fun o => .goto o) 326 890 := ⟨567, by decide +kernel, rfl, by decide⟩
theorem dd_W_law_326 : ev_d code 326 (.aload_n 1) 1 327 := ⟨by decide +kernel, rfl⟩
theorem dd_W_law_327 : ev_d code 327 (.aload_n 0) 1 328 := ⟨by decide +kernel, rfl⟩
theorem dd_W_law_328 : ev_d code 328 (.iload 4) 2 330 := ⟨by decide +kernel, rfl⟩
theorem dd_W_law_330 : ev_d code 330 (.iconst 1) 1 331 := ⟨by decide +kernel, rfl⟩
theorem dd_W_law_331 : ev_d code 331 .iadd 1 332 := ⟨by decide +kernel, rfl⟩
theorem dd_W_law_332 : ev_d code 332 .iaload 1 333 := ⟨by decide +kernel, rfl⟩
theorem dd_W_law_333 : ev_d code 333 (.aload_n 0) 1 334 := ⟨by decide +kernel, rfl⟩
theorem dd_W_law_334 : ev_d code 334 (.iload 4) 2 336 := ⟨by decide +kernel, rfl⟩
theorem dd_W_law_336 : ev_d code 336 (.iconst 2) 1 337 := ⟨by decide +kernel, rfl⟩
theorem dd_W_law_337 : ev_d code 337 .iadd 1 338 := ⟨by decide +kernel, rfl⟩
theorem dd_W_law_338 : ev_d code 338 .iaload 1 339 := ⟨by decide +kernel, rfl⟩
theorem dd_W_law_339 : ev_d code 339 (.aload_n 0) 1 340 := ⟨by decide +kernel, rfl⟩
theorem dd_W_law_340 : ev_d code 340 (.iload 4) 2 342 := ⟨by decide +kernel, rfl⟩
theorem dd_W_law_342 : ev_d code 342 (.iconst 3) 1 343 := ⟨by decide +kernel, rfl⟩
theorem dd_W_law_343 : ev_d code 343 .iadd 1 344 := ⟨by decide +kernel, rfl⟩
theorem dd_W_law_344 : ev_d code 344 .iaload 1 345 := ⟨by decide +kernel, rfl⟩
theorem dd_W_law_345 : ev_d code 345 (.aload_n 3) 1 346 := ⟨by decide +kernel, rfl⟩
theorem dd_W_law_346 : ev_d code 346 (.invokestatic 76) 3 349 := ⟨by decide +kernel, rfl⟩
theorem dd_W_law_349 : ev_d code 349 (.istore 5) 2 351 := ⟨by decide +kernel, rfl⟩
theorem dd_W_law_351 : ev_d code 351 (.aload_n 2) 1 352 := ⟨by decide +kernel, rfl⟩
theorem dd_W_law_352 : ev_d code 352 (.aload_n 0) 1 353 := ⟨by decide +kernel, rfl⟩
theorem dd_W_law_353 : ev_d code 353 (.iload 4) 2 355 := ⟨by decide +kernel, rfl⟩
theorem dd_W_law_355 : ev_d code 355 (.iconst 1) 1 356 := ⟨by decide +kernel, rfl⟩
theorem dd_W_law_356 : ev_d code 356 .iadd 1 357 := ⟨by decide +kernel, rfl⟩
theorem dd_W_law_357 : ev_d code 357 .iaload 1 358 := ⟨by decide +kernel, rfl⟩
theorem dd_W_law_358 : ev_d code 358 (.aload_n 0) 1 359 := ⟨by decide +kernel, rfl⟩
theorem dd_W_law_359 : ev_d code 359 (.iload 4) 2 361 := ⟨by decide +kernel, rfl⟩
theorem dd_W_law_361 : ev_d code 361 (.iconst 2) 1 362 := ⟨by decide +kernel, rfl⟩
theorem dd_W_law_362 : ev_d code 362 .iadd 1 363 := ⟨by decide +kernel, rfl⟩
theorem dd_W_law_363 : ev_d code 363 .iaload 1 364 := ⟨by decide +kernel, rfl⟩
theorem dd_W_law_364 : ev_d code 364 (.aload_n 0) 1 365 := ⟨by decide +kernel, rfl⟩
theorem dd_W_law_365 : ev_d code 365 (.iload 4) 2 367 := ⟨by decide +kernel, rfl⟩
theorem dd_W_law_367 : ev_d code 367 (.iconst 3) 1 368 := ⟨by decide +kernel, rfl⟩
theorem dd_W_law_368 : ev_d code 368 .iadd 1 369 := ⟨by decide +kernel, rfl⟩
theorem dd_W_law_369 : ev_d code 369 .iaload 1 370 := ⟨by decide +kernel, rfl⟩
theorem dd_W_law_370 : ev_d code 370 (.invokevirtual 79) 3 373 := ⟨by decide +kernel, rfl⟩
theorem dd_W_law_373 : ev_d code 373 (.istore 6) 2 375 := ⟨by decide +kernel, rfl⟩
theorem dd_W_law_375 : ev_d code 375 (.aload_n 2) 1 376 := ⟨by decide +kernel, rfl⟩
theorem dd_W_law_376 : ev_d code 376 (.invokevirtual 65) 3 379 := ⟨by decide +kernel, rfl⟩
theorem dd_W_law_379 : ev_d code 379 (.iload 5) 2 381 := ⟨by decide +kernel, rfl⟩
theorem dd_W_law_381 : ev_j code 381 (fun o => .if_icmp .eq o) 384 386 := ⟨5, by decide +kernel, rfl, by decide⟩
theorem dd_W_law_384 : ev_d code 384 (.iconst 0) 1 385 := ⟨by decide +kernel, rfl⟩
theorem dd_W_law_385 : ev_d code 385 .ireturn 1 386 := ⟨by decide +kernel, rfl⟩
theorem dd_W_law_386 : ev_d code 386 (.iload 5) 2 388 := ⟨by decide +kernel, rfl⟩
theorem dd_W_law_388 : ev_j code 388 (fun o => .ifCond .ne o) 391 410 := ⟨22, by decide +kernel, rfl, by decide⟩
theorem dd_W_law_391 : ev_d code 391 (.aload_n 3) 1 392 := ⟨by decide +kernel, rfl⟩
theorem dd_W_law_392 : ev_d code 392 (.iconst 0) 1 393 := ⟨by decide +kernel, rfl⟩
theorem dd_W_law_393 : ev_d code 393 .laload 1 394 := ⟨by decide +kernel, rfl⟩
theorem dd_W_law_394 : ev_d code 394 (.iload 6) 2 396 := ⟨by decide +kernel, rfl⟩
theorem dd_W_law_396 : ev_j code 396 (fun o => .ifCond .eq o) 399 403 := ⟨7, by decide +kernel, rfl, by decide⟩
theorem dd_W_law_399 : ev_d code 399 (.lconst 1) 1 400 := ⟨by decide +kernel, rfl⟩
theorem dd_W_law_400 : ev_j code 400 (fun o => .goto o) 403 404 := ⟨4, by decide +kernel, rfl, by decide⟩
theorem dd_W_law_403 : ev_d code 403 (.lconst 0) 1 404 := ⟨by decide +kernel, rfl⟩
theorem dd_W_law_404 : ev_d code 404 .lcmp 1 405 := ⟨by decide +kernel, rfl⟩
theorem dd_W_law_405 : ev_j code 405 (fun o => .ifCond .eq o) 408 410 := ⟨5, by decide +kernel, rfl, by decide⟩
theorem dd_W_law_408 : ev_d code 408 (.iconst 0) 1 409 := ⟨by decide +kernel, rfl⟩
theorem dd_W_law_409 : ev_d code 409 .ireturn 1 410 := ⟨by decide +kernel, rfl⟩
theorem dd_W_law_410 : ev_j code 410 (fun o => .goto o) 413 890 := ⟨480, by decide +kernel, rfl, by decide⟩
theorem dd_W_law_413 : ev_d code 413 (.aload_n 1) 1 414 := ⟨by decide +kernel, rfl⟩
theorem dd_W_law_414 : ev_d code 414 (.invokevirtual 80) 3 417 := ⟨by decide +kernel, rfl⟩
theorem dd_W_law_417 : ev_d code 417 (.aload_n 2) 1 418 := ⟨by decide +kernel, rfl⟩
theorem dd_W_law_418 : ev_d code 418 (.invokevirtual 83) 3 421 := ⟨by decide +kernel, rfl⟩
theorem dd_W_law_421 : ev_j code 421 (fun o => .if_icmp .eq o) 424 890 := ⟨469, by decide +kernel, rfl, by decide⟩
theorem dd_W_law_424 : ev_d code 424 (.iconst 0) 1 425 := ⟨by decide +kernel, rfl⟩
theorem dd_W_law_425 : ev_d code 425 .ireturn 1 426 := ⟨by decide +kernel, rfl⟩
theorem dd_W_law_426 : ev_d code 426 (.aload_n 1) 1 427 := ⟨by decide +kernel, rfl⟩
theorem dd_W_law_427 : ev_d code 427 (.aload_n 0) 1 428 := ⟨by decide +kernel, rfl⟩
theorem dd_W_law_428 : ev_d code 428 (.iload 4) 2 430 := ⟨by decide +kernel, rfl⟩
theorem dd_W_law_430 : ev_d code 430 (.iconst 1) 1 431 := ⟨by decide +kernel, rfl⟩
theorem dd_W_law_431 : ev_d code 431 .iadd 1 432 := ⟨by decide +kernel, rfl⟩
theorem dd_W_law_432 : ev_d code 432 .iaload 1 433 := ⟨by decide +kernel, rfl⟩
theorem dd_W_law_433 : ev_d code 433 (.aload_n 0) 1 434 := ⟨by decide +kernel, rfl⟩
theorem dd_W_law_434 : ev_d code 434 (.iload 4) 2 436 := ⟨by decide +kernel, rfl⟩
theorem dd_W_law_436 : ev_d code 436 (.iconst 2) 1 437 := ⟨by decide +kernel, rfl⟩
theorem dd_W_law_437 : ev_d code 437 .iadd 1 438 := ⟨by decide +kernel, rfl⟩
theorem dd_W_law_438 : ev_d code 438 .iaload 1 439 := ⟨by decide +kernel, rfl⟩
theorem dd_W_law_439 : ev_d code 439 (.aload_n 3) 1 440 := ⟨by decide +kernel, rfl⟩
theorem dd_W_law_440 : ev_d code 440 (.invokestatic 84) 3 443 := ⟨by decide +kernel, rfl⟩
theorem dd_W_law_443 : ev_d code 443 (.istore 5) 2 445 := ⟨by decide +kernel, rfl⟩
theorem dd_W_law_445 : ev_d code 445 (.aload_n 2) 1 446 := ⟨by decide +kernel, rfl⟩
theorem dd_W_law_446 : ev_d code 446 (.aload_n 0) 1 447 := ⟨by decide +kernel, rfl⟩
theorem dd_W_law_447 : ev_d code 447 (.iload 4) 2 449 := ⟨by decide +kernel, rfl⟩
theorem dd_W_law_449 : ev_d code 449 (.iconst 1) 1 450 := ⟨by decide +kernel, rfl⟩
theorem dd_W_law_450 : ev_d code 450 .iadd 1 451 := ⟨by decide +kernel, rfl⟩
theorem dd_W_law_451 : ev_d code 451 .iaload 1 452 := ⟨by decide +kernel, rfl⟩
theorem dd_W_law_452 : ev_d code 452 (.aload_n 0) 1 453 := ⟨by decide +kernel, rfl⟩
theorem dd_W_law_453 : ev_d code 453 (.iload 4) 2 455 := ⟨by decide +kernel, rfl⟩
theorem dd_W_law_455 : ev_d code 455 (.iconst 2) 1 456 := ⟨by decide +kernel, rfl⟩
theorem dd_W_law_456 : ev_d code 456 .iadd 1 457 := ⟨by decide +kernel, rfl⟩
theorem dd_W_law_457 : ev_d code 457 .iaload 1 458 := ⟨by decide +kernel, rfl⟩
theorem dd_W_law_458 : ev_d code 458 (.invokevirtual 86) 3 461 := ⟨by decide +kernel, rfl⟩
theorem dd_W_law_461 : ev_d code 461 (.istore 6) 2 463 := ⟨by decide +kernel, rfl⟩
theorem dd_W_law_463 : ev_d code 463 (.aload_n 2) 1 464 := ⟨by decide +kernel, rfl⟩
theorem dd_W_law_464 : ev_d code 464 (.invokevirtual 65) 3 467 := ⟨by decide +kernel, rfl⟩
theorem dd_W_law_467 : ev_d code 467 (.iload 5) 2 469 := ⟨by decide +kernel, rfl⟩
theorem dd_W_law_469 : ev_j code 469 (fun o => .if_icmp .eq o) 472 474 := ⟨5, by decide +kernel, rfl, by decide⟩
theorem dd_W_law_472 : ev_d code 472 (.iconst 0) 1 473 := ⟨by decide +kernel, rfl⟩
theorem dd_W_law_473 : ev_d code 473 .ireturn 1 474 := ⟨by decide +kernel, rfl⟩
theorem dd_W_law_474 : ev_d code 474 (.iload 5) 2 476 := ⟨by decide +kernel, rfl⟩
theorem dd_W_law_476 : ev_j code 476 (fun o => .ifCond .ne o) 479 491 := ⟨15, by decide +kernel, rfl, by decide⟩
theorem dd_W_law_479 : ev_d code 479 (.aload_n 3) 1 480 := ⟨by decide +kernel, rfl⟩
theorem dd_W_law_480 : ev_d code 480 (.iconst 0) 1 481 := ⟨by decide +kernel, rfl⟩
theorem dd_W_law_481 : ev_d code 481 .laload 1 482 := ⟨by decide +kernel, rfl⟩
theorem dd_W_law_482 : ev_d code 482 (.iload 6) 2 484 := ⟨by decide +kernel, rfl⟩
theorem dd_W_law_484 : ev_d code 484 .i2l 1 485 := ⟨by decide +kernel, rfl⟩
theorem dd_W_law_485 : ev_d code 485 .lcmp 1 486 := ⟨by decide +kernel, rfl⟩
theorem dd_W_law_486 : ev_j code 486 (fun o => .ifCond .eq o) 489 491 := ⟨5, by decide +kernel, rfl, by decide⟩
theorem dd_W_law_489 : ev_d code 489 (.iconst 0) 1 490 := ⟨by decide +kernel, rfl⟩
theorem dd_W_law_490 : ev_d code 490 .ireturn 1 491 := ⟨by decide +kernel, rfl⟩
theorem dd_W_law_491 : ev_j code 491 (fun o => .goto o) 494 890 := ⟨399, by decide +kernel, rfl, by decide⟩
theorem dd_W_law_494 : ev_d code 494 (.aload_n 1) 1 495 := ⟨by decide +kernel, rfl⟩
theorem dd_W_law_495 : ev_d code 495 (.aload_n 0) 1 496 := ⟨by decide +kernel, rfl⟩
theorem dd_W_law_496 : ev_d code 496 (.iload 4) 2 498 := ⟨by decide +kernel, rfl⟩
theorem dd_W_law_498 : ev_d code 498 (.iconst 1) 1 499 := ⟨by decide +kernel, rfl⟩
theorem dd_W_law_499 : ev_d code 499 .iadd 1 500 := ⟨by decide +kernel, rfl⟩
theorem dd_W_law_500 : ev_d code 500 .iaload 1 501 := ⟨by decide +kernel, rfl⟩
theorem dd_W_law_501 : ev_d code 501 (.aload_n 0) 1 502 := ⟨by decide +kernel, rfl⟩
theorem dd_W_law_502 : ev_d code 502 (.iload 4) 2 504 := ⟨by decide +kernel, rfl⟩
theorem dd_W_law_504 : ev_d code 504 (.iconst 2) 1 505 := ⟨by decide +kernel, rfl⟩
theorem dd_W_law_505 : ev_d code 505 .iadd 1 506 := ⟨by decide +kernel, rfl⟩
theorem dd_W_law_506 : ev_d code 506 .iaload 1 507 := ⟨by decide +kernel, rfl⟩
theorem dd_W_law_507 : ev_d code 507 (.aload_n 0) 1 508 := ⟨by decide +kernel, rfl⟩
theorem dd_W_law_508 : ev_d code 508 (.iload 4) 2 510 := ⟨by decide +kernel, rfl⟩
theorem dd_W_law_510 : ev_d code 510 (.iconst 3) 1 511 := ⟨by decide +kernel, rfl⟩
theorem dd_W_law_511 : ev_d code 511 .iadd 1 512 := ⟨by decide +kernel, rfl⟩
theorem dd_W_law_512 : ev_d code 512 .iaload 1 513 := ⟨by decide +kernel, rfl⟩
theorem dd_W_law_513 : ev_d code 513 (.aload_n 3) 1 514 := ⟨by decide +kernel, rfl⟩
theorem dd_W_law_514 : ev_d code 514 (.invokestatic 87) 3 517 := ⟨by decide +kernel, rfl⟩
theorem dd_W_law_517 : ev_d code 517 (.istore 5) 2 519 := ⟨by decide +kernel, rfl⟩
theorem dd_W_law_519 : ev_d code 519 (.aload_n 2) 1 520 := ⟨by decide +kernel, rfl⟩
theorem dd_W_law_520 : ev_d code 520 (.aload_n 0) 1 521 := ⟨by decide +kernel, rfl⟩
theorem dd_W_law_521 : ev_d code 521 (.iload 4) 2 523 := ⟨by decide +kernel, rfl⟩
theorem dd_W_law_523 : ev_d code 523 (.iconst 1) 1 524 := ⟨by decide +kernel, rfl⟩
theorem dd_W_law_524 : ev_d code 524 .iadd 1 525 := ⟨by decide +kernel, rfl⟩
theorem dd_W_law_525 : ev_d code 525 .iaload 1 526 := ⟨by decide +kernel, rfl⟩
theorem dd_W_law_526 : ev_d code 526 (.aload_n 0) 1 527 := ⟨by decide +kernel, rfl⟩
theorem dd_W_law_527 : ev_d code 527 (.iload 4) 2 529 := ⟨by decide +kernel, rfl⟩
theorem dd_W_law_529 : ev_d code 529 (.iconst 2) 1 530 := ⟨by decide +kernel, rfl⟩
theorem dd_W_law_530 : ev_d code 530 .iadd 1 531 := ⟨by decide +kernel, rfl⟩
theorem dd_W_law_531 : ev_d code 531 .iaload 1 532 := ⟨by decide +kernel, rfl⟩
theorem dd_W_law_532 : ev_d code 532 (.aload_n 0) 1 533 := ⟨by decide +kernel, rfl⟩
theorem dd_W_law_533 : ev_d code 533 (.iload 4) 2 535 := ⟨by decide +kernel, rfl⟩
theorem dd_W_law_535 : ev_d code 535 (.iconst 3) 1 536 := ⟨by decide +kernel, rfl⟩
theorem dd_W_law_536 : ev_d code 536 .iadd 1 537 := ⟨by decide +kernel, rfl⟩
theorem dd_W_law_537 : ev_d code 537 .iaload 1 538 := ⟨by decide +kernel, rfl⟩
theorem dd_W_law_538 : ev_d code 538 (.invokevirtual 89) 3 541 := ⟨by decide +kernel, rfl⟩
theorem dd_W_law_541 : ev_d code 541 (.istore 6) 2 543 := ⟨by decide +kernel, rfl⟩
theorem dd_W_law_543 : ev_d code 543 (.aload_n 2) 1 544 := ⟨by decide +kernel, rfl⟩
theorem dd_W_law_544 : ev_d code 544 (.invokevirtual 65) 3 547 := ⟨by decide +kernel, rfl⟩
theorem dd_W_law_547 : ev_d code 547 (.iload 5) 2 549 := ⟨by decide +kernel, rfl⟩
theorem dd_W_law_549 : ev_j code 549 (fun o => .if_icmp .eq o) 552 554 := ⟨5, by decide +kernel, rfl, by decide⟩
theorem dd_W_law_552 : ev_d code 552 (.iconst 0) 1 553 := ⟨by decide +kernel, rfl⟩
theorem dd_W_law_553 : ev_d code 553 .ireturn 1 554 := ⟨by decide +kernel, rfl⟩
theorem dd_W_law_554 : ev_d code 554 (.iload 5) 2 556 := ⟨by decide +kernel, rfl⟩
theorem dd_W_law_556 : ev_j code 556 (fun o => .ifCond .ne o) 559 571 := ⟨15, by decide +kernel, rfl, by decide⟩
theorem dd_W_law_559 : ev_d code 559 (.aload_n 3) 1 560 := ⟨by decide +kernel, rfl⟩
theorem dd_W_law_560 : ev_d code 560 (.iconst 0) 1 561 := ⟨by decide +kernel, rfl⟩
theorem dd_W_law_561 : ev_d code 561 .laload 1 562 := ⟨by decide +kernel, rfl⟩
theorem dd_W_law_562 : ev_d code 562 (.iload 6) 2 564 := ⟨by decide +kernel, rfl⟩
theorem dd_W_law_564 : ev_d code 564 .i2l 1 565 := ⟨by decide +kernel, rfl⟩
theorem dd_W_law_565 : ev_d code 565 .lcmp 1 566 := ⟨by decide +kernel, rfl⟩
theorem dd_W_law_566 : ev_j code 566 (fun o => .ifCond .eq o) 569 571 := ⟨5, by decide +kernel, rfl, by decide⟩
theorem dd_W_law_569 : ev_d code 569 (.iconst 0) 1 570 := ⟨by decide +kernel, rfl⟩
theorem dd_W_law_570 : ev_d code 570 .ireturn 1 571 := ⟨by decide +kernel, rfl⟩
theorem dd_W_law_571 : ev_j code 571 (fun o => .goto o) 574 890 := ⟨319, by decide +kernel, rfl, by decide⟩
theorem dd_W_law_574 : ev_d code 574 (.aload_n 1) 1 575 := ⟨by decide +kernel, rfl⟩
theorem dd_W_law_575 : ev_d code 575 (.aload_n 0) 1 576 := ⟨by decide +kernel, rfl⟩
theorem dd_W_law_576 : ev_d code 576 (.iload 4) 2 578 := ⟨by decide +kernel, rfl⟩
theorem dd_W_law_578 : ev_d code 578 (.iconst 1) 1 579 := ⟨by decide +kernel, rfl⟩
theorem dd_W_law_579 : ev_d code 579 .iadd 1 580 := ⟨by decide +kernel, rfl⟩
theorem dd_W_law_580 : ev_d code 580 .iaload 1 581 := ⟨by decide +kernel, rfl⟩
theorem dd_W_law_581 : ev_d code 581 (.aload_n 0) 1 582 := ⟨by decide +kernel, rfl⟩
theorem dd_W_law_582 : ev_d code 582 (.iload 4) 2 584 := ⟨by decide +kernel, rfl⟩
theorem dd_W_law_584 : ev_d code 584 (.iconst 2) 1 585 := ⟨by decide +kernel, rfl⟩
theorem dd_W_law_585 : ev_d code 585 .iadd 1 586 := ⟨by decide +kernel, rfl⟩
theorem dd_W_law_586 : ev_d code 586 .iaload 1 587 := ⟨by decide +kernel, rfl⟩
theorem dd_W_law_587 : ev_d code 587 (.aload_n 3) 1 588 := ⟨by decide +kernel, rfl⟩
theorem dd_W_law_588 : ev_d code 588 (.invokestatic 90) 3 591 := ⟨by decide +kernel, rfl⟩
theorem dd_W_law_591 : ev_d code 591 (.istore 5) 2 593 := ⟨by decide +kernel, rfl⟩
theorem dd_W_law_593 : ev_d code 593 (.aload_n 2) 1 594 := ⟨by decide +kernel, rfl⟩
theorem dd_W_law_594 : ev_d code 594 (.aload_n 0) 1 595 := ⟨by decide +kernel, rfl⟩
theorem dd_W_law_595 : ev_d code 595 (.iload 4) 2 597 := ⟨by decide +kernel, rfl⟩
theorem dd_W_law_597 : ev_d code 597 (.iconst 1) 1 598 := ⟨by decide +kernel, rfl⟩
theorem dd_W_law_598 : ev_d code 598 .iadd 1 599 := ⟨by decide +kernel, rfl⟩
theorem dd_W_law_599 : ev_d code 599 .iaload 1 600 := ⟨by decide +kernel, rfl⟩
theorem dd_W_law_600 : ev_d code 600 (.aload_n 0) 1 601 := ⟨by decide +kernel, rfl⟩
theorem dd_W_law_601 : ev_d code 601 (.iload 4) 2 603 := ⟨by decide +kernel, rfl⟩
theorem dd_W_law_603 : ev_d code 603 (.iconst 2) 1 604 := ⟨by decide +kernel, rfl⟩
theorem dd_W_law_604 : ev_d code 604 .iadd 1 605 := ⟨by decide +kernel, rfl⟩
theorem dd_W_law_605 : ev_d code 605 .iaload 1 606 := ⟨by decide +kernel, rfl⟩
theorem dd_W_law_606 : ev_d code 606 (.invokevirtual 92) 3 609 := ⟨by decide +kernel, rfl⟩
theorem dd_W_law_609 : ev_d code 609 (.istore 6) 2 611 := ⟨by decide +kernel, rfl⟩
theorem dd_W_law_611 : ev_d code 611 (.aload_n 2) 1 612 := ⟨by decide +kernel, rfl⟩
theorem dd_W_law_612 : ev_d code 612 (.invokevirtual 65) 3 615 := ⟨by decide +kernel, rfl⟩
theorem dd_W_law_615 : ev_d code 615 (.iload 5) 2 617 := ⟨by decide +kernel, rfl⟩
theorem dd_W_law_617 : ev_j code 617 (fun o => .if_icmp .eq o) 620 622 := ⟨5, by decide +kernel, rfl, by decide⟩
theorem dd_W_law_620 : ev_d code 620 (.iconst 0) 1 621 := ⟨by decide +kernel, rfl⟩
theorem dd_W_law_621 : ev_d code 621 .ireturn 1 622 := ⟨by decide +kernel, rfl⟩
theorem dd_W_law_622 : ev_d code 622 (.iload 5) 2 624 := ⟨by decide +kernel, rfl⟩
theorem dd_W_law_624 : ev_j code 624 (fun o => .ifCond .ne o) 627 639 := ⟨15, by decide +kernel, rfl, by decide⟩
theorem dd_W_law_627 : ev_d code 627 (.aload_n 3) 1 628 := ⟨by decide +kernel, rfl⟩
theorem dd_W_law_628 : ev_d code 628 (.iconst 0) 1 629 := ⟨by decide +kernel, rfl⟩
theorem dd_W_law_629 : ev_d code 629 .laload 1 630 := ⟨by decide +kernel, rfl⟩
theorem dd_W_law_630 : ev_d code 630 (.iload 6) 2 632 := ⟨by decide +kernel, rfl⟩
theorem dd_W_law_632 : ev_d code 632 .i2l 1 633 := ⟨by decide +kernel, rfl⟩
theorem dd_W_law_633 : ev_d code 633 .lcmp 1 634 := ⟨by decide +kernel, rfl⟩
theorem dd_W_law_634 : ev_j code 634 (fun o => .ifCond .eq o) 637 639 := ⟨5, by decide +kernel, rfl, by decide⟩
theorem dd_W_law_637 : ev_d code 637 (.iconst 0) 1 638 := ⟨by decide +kernel, rfl⟩
theorem dd_W_law_638 : ev_d code 638 .ireturn 1 639 := ⟨by decide +kernel, rfl⟩
theorem dd_W_law_639 : ev_j code 639 (fun o => .goto o) 642 890 := ⟨251, by decide +kernel, rfl, by decide⟩
theorem dd_W_law_642 : ev_d code 642 (.aload_n 1) 1 643 := ⟨by decide +kernel, rfl⟩
theorem dd_W_law_643 : ev_d code 643 (.aload_n 0) 1 644 := ⟨by decide +kernel, rfl⟩
theorem dd_W_law_644 : ev_d code 644 (.iload 4) 2 646 := ⟨by decide +kernel, rfl⟩
theorem dd_W_law_646 : ev_d code 646 (.iconst 1) 1 647 := ⟨by decide +kernel, rfl⟩
theorem dd_W_law_647 : ev_d code 647 .iadd 1 648 := ⟨by decide +kernel, rfl⟩
theorem dd_W_law_648 : ev_d code 648 .iaload 1 649 := ⟨by decide +kernel, rfl⟩
theorem dd_W_law_649 : ev_d code 649 (.aload_n 0) 1 650 := ⟨by decide +kernel, rfl⟩
theorem dd_W_law_650 : ev_d code 650 (.iload 4) 2 652 := ⟨by decide +kernel, rfl⟩
theorem dd_W_law_652 : ev_d code 652 (.iconst 2) 1 653 := ⟨by decide +kernel, rfl⟩
theorem dd_W_law_653 : ev_d code 653 .iadd 1 654 := ⟨by decide +kernel, rfl⟩
theorem dd_W_law_654 : ev_d code 654 .iaload 1 655 := ⟨by decide +kernel, rfl⟩
theorem dd_W_law_655 : ev_d code 655 (.aload_n 3) 1 656 := ⟨by decide +kernel, rfl⟩
theorem dd_W_law_656 : ev_d code 656 (.invokestatic 93) 3 659 := ⟨by decide +kernel, rfl⟩
theorem dd_W_law_659 : ev_d code 659 (.istore 5) 2 661 := ⟨by decide +kernel, rfl⟩
theorem dd_W_law_661 : ev_d code 661 (.aload_n 2) 1 662 := ⟨by decide +kernel, rfl⟩
theorem dd_W_law_662 : ev_d code 662 (.aload_n 0) 1 663 := ⟨by decide +kernel, rfl⟩
theorem dd_W_law_663 : ev_d code 663 (.iload 4) 2 665 := ⟨by decide +kernel, rfl⟩
theorem dd_W_law_665 : ev_d code 665 (.iconst 1) 1 666 := ⟨by decide +kernel, rfl⟩
theorem dd_W_law_666 : ev_d code 666 .iadd 1 667 := ⟨by decide +kernel, rfl⟩
theorem dd_W_law_667 : ev_d code 667 .iaload 1 668 := ⟨by decide +kernel, rfl⟩
theorem dd_W_law_668 : ev_d code 668 (.aload_n 0) 1 669 := ⟨by decide +kernel, rfl⟩
theorem dd_W_law_669 : ev_d code 669 (.iload 4) 2 671 := ⟨by decide +kernel, rfl⟩
theorem dd_W_law_671 : ev_d code 671 (.iconst 2) 1 672 := ⟨by decide +kernel, rfl⟩
theorem dd_W_law_672 : ev_d code 672 .iadd 1 673 := ⟨by decide +kernel, rfl⟩
theorem dd_W_law_673 : ev_d code 673 .iaload 1 674 := ⟨by decide +kernel, rfl⟩
theorem dd_W_law_674 : ev_d code 674 (.invokevirtual 95) 3 677 := ⟨by decide +kernel, rfl⟩
theorem dd_W_law_677 : ev_d code 677 (.istore 6) 2 679 := ⟨by decide +kernel, rfl⟩
theorem dd_W_law_679 : ev_d code 679 (.aload_n 2) 1 680 := ⟨by decide +kernel, rfl⟩
theorem dd_W_law_680 : ev_d code 680 (.invokevirtual 65) 3 683 := ⟨by decide +kernel, rfl⟩
theorem dd_W_law_683 : ev_d code 683 (.iload 5) 2 685 := ⟨by decide +kernel, rfl⟩
theorem dd_W_law_685 : ev_j code 685 (fun o => .if_icmp .eq o) 688 690 := ⟨5, by decide +kernel, rfl, by decide⟩
theorem dd_W_law_688 : ev_d code 688 (.iconst 0) 1 689 := ⟨by decide +kernel, rfl⟩
theorem dd_W_law_689 : ev_d code 689 .ireturn 1 690 := ⟨by decide +kernel, rfl⟩
theorem dd_W_law_690 : ev_d code 690 (.iload 5) 2 692 := ⟨by decide +kernel, rfl⟩
theorem dd_W_law_692 : ev_j code 692 (fun o => .ifCond .ne o) 695 707 := ⟨15, by decide +kernel, rfl, by decide⟩
theorem dd_W_law_695 : ev_d code 695 (.aload_n 3) 1 696 := ⟨by decide +kernel, rfl⟩
theorem dd_W_law_696 : ev_d code 696 (.iconst 0) 1 697 := ⟨by decide +kernel, rfl⟩
theorem dd_W_law_697 : ev_d code 697 .laload 1 698 := ⟨by decide +kernel, rfl⟩
theorem dd_W_law_698 : ev_d code 698 (.iload 6) 2 700 := ⟨by decide +kernel, rfl⟩
theorem dd_W_law_700 : ev_d code 700 .i2l 1 701 := ⟨by decide +kernel, rfl⟩
theorem dd_W_law_701 : ev_d code 701 .lcmp 1 702 := ⟨by decide +kernel, rfl⟩
theorem dd_W_law_702 : ev_j code 702 (fun o => .ifCond .eq o) 705 707 := ⟨5, by decide +kernel, rfl, by decide⟩
theorem dd_W_law_705 : ev_d code 705 (.iconst 0) 1 706 := ⟨by decide +kernel, rfl⟩
theorem dd_W_law_706 : ev_d code 706 .ireturn 1 707 := ⟨by decide +kernel, rfl⟩
theorem dd_W_law_707 : ev_j code 707 (fun o => .goto o) 710 890 := ⟨183, by decide +kernel, rfl, by decide⟩
theorem dd_W_law_710 : ev_d code 710 (.aload_n 1) 1 711 := ⟨by decide +kernel, rfl⟩
theorem dd_W_law_711 : ev_d code 711 (.aload_n 0) 1 712 := ⟨by decide +kernel, rfl⟩
theorem dd_W_law_712 : ev_d code 712 (.iload 4) 2 714 := ⟨by decide +kernel, rfl⟩
theorem dd_W_law_714 : ev_d code 714 (.iconst 1) 1 715 := ⟨by decide +kernel, rfl⟩
theorem dd_W_law_715 : ev_d code 715 .iadd 1 716 := ⟨by decide +kernel, rfl⟩
theorem dd_W_law_716 : ev_d code 716 .iaload 1 717 := ⟨by decide +kernel, rfl⟩
theorem dd_W_law_717 : ev_d code 717 (.aload_n 3) 1 718 := ⟨by decide +kernel, rfl⟩
theorem dd_W_law_718 : ev_d code 718 (.invokestatic 96) 3 721 := ⟨by decide +kernel, rfl⟩
theorem dd_W_law_721 : ev_d code 721 (.istore 5) 2 723 := ⟨by decide +kernel, rfl⟩
theorem dd_W_law_723 : ev_d code 723 (.aload_n 2) 1 724 := ⟨by decide +kernel, rfl⟩
theorem dd_W_law_724 : ev_d code 724 (.aload_n 0) 1 725 := ⟨by decide +kernel, rfl⟩
theorem dd_W_law_725 : ev_d code 725 (.iload 4) 2 727 := ⟨by decide +kernel, rfl⟩
theorem dd_W_law_727 : ev_d code 727 (.iconst 1) 1 728 := ⟨by decide +kernel, rfl⟩
theorem dd_W_law_728 : ev_d code 728 .iadd 1 729 := ⟨by decide +kernel, rfl⟩
theorem dd_W_law_729 : ev_d code 729 .iaload 1 730 := ⟨by decide +kernel, rfl⟩
theorem dd_W_law_730 : ev_d code 730 (.invokevirtual 99) 3 733 := ⟨by decide +kernel, rfl⟩
theorem dd_W_law_733 : ev_d code 733 (.istore 6) 2 735 := ⟨by decide +kernel, rfl⟩
theorem dd_W_law_735 : ev_d code 735 (.aload_n 2) 1 736 := ⟨by decide +kernel, rfl⟩
theorem dd_W_law_736 : ev_d code 736 (.invokevirtual 65) 3 739 := ⟨by decide +kernel, rfl⟩
theorem dd_W_law_739 : ev_d code 739 (.iload 5) 2 741 := ⟨by decide +kernel, rfl⟩
theorem dd_W_law_741 : ev_j code 741 (fun o => .if_icmp .eq o) 744 746 := ⟨5, by decide +kernel, rfl, by decide⟩
theorem dd_W_law_744 : ev_d code 744 (.iconst 0) 1 745 := ⟨by decide +kernel, rfl⟩
theorem dd_W_law_745 : ev_d code 745 .ireturn 1 746 := ⟨by decide +kernel, rfl⟩
theorem dd_W_law_746 : ev_d code 746 (.iload 5) 2 748 := ⟨by decide +kernel, rfl⟩
theorem dd_W_law_748 : ev_j code 748 (fun o => .ifCond .ne o) 751 763 := ⟨15, by decide +kernel, rfl, by decide⟩
theorem dd_W_law_751 : ev_d code 751 (.aload_n 3) 1 752 := ⟨by decide +kernel, rfl⟩
theorem dd_W_law_752 : ev_d code 752 (.iconst 0) 1 753 := ⟨by decide +kernel, rfl⟩
theorem dd_W_law_753 : ev_d code 753 .laload 1 754 := ⟨by decide +kernel, rfl⟩
theorem dd_W_law_754 : ev_d code 754 (.iload 6) 2 756 := ⟨by decide +kernel, rfl⟩
theorem dd_W_law_756 : ev_d code 756 .i2l 1 757 := ⟨by decide +kernel, rfl⟩
theorem dd_W_law_757 : ev_d code 757 .lcmp 1 758 := ⟨by decide +kernel, rfl⟩
theorem dd_W_law_758 : ev_j code 758 (fun o => .ifCond .eq o) 761 763 := ⟨5, by decide +kernel, rfl, by decide⟩
theorem dd_W_law_761 : ev_d code 761 (.iconst 0) 1 762 := ⟨by decide +kernel, rfl⟩
theorem dd_W_law_762 : ev_d code 762 .ireturn 1 763 := ⟨by decide +kernel, rfl⟩
theorem dd_W_law_763 : ev_j code 763 (fun o => .goto o) 766 890 := ⟨127, by decide +kernel, rfl, by decide⟩
theorem dd_W_law_766 : ev_d code 766 (.aload_n 1) 1 767 := ⟨by decide +kernel, rfl⟩
theorem dd_W_law_767 : ev_d code 767 (.aload_n 0) 1 768 := ⟨by decide +kernel, rfl⟩
theorem dd_W_law_768 : ev_d code 768 (.iload 4) 2 770 := ⟨by decide +kernel, rfl⟩
theorem dd_W_law_770 : ev_d code 770 (.iconst 1) 1 771 := ⟨by decide +kernel, rfl⟩
theorem dd_W_law_771 : ev_d code 771 .iadd 1 772 := ⟨by decide +kernel, rfl⟩
theorem dd_W_law_772 : ev_d code 772 .iaload 1 773 := ⟨by decide +kernel, rfl⟩
theorem dd_W_law_773 : ev_d code 773 (.aload_n 3) 1 774 := ⟨by decide +kernel, rfl⟩
theorem dd_W_law_774 : ev_d code 774 (.invokestatic 100) 3 777 := ⟨by decide +kernel, rfl⟩
theorem dd_W_law_777 : ev_d code 777 (.istore 5) 2 779 := ⟨by decide +kernel, rfl⟩
theorem dd_W_law_779 : ev_d code 779 (.aload_n 2) 1 780 := ⟨by decide +kernel, rfl⟩
theorem dd_W_law_780 : ev_d code 780 (.aload_n 0) 1 781 := ⟨by decide +kernel, rfl⟩
theorem dd_W_law_781 : ev_d code 781 (.iload 4) 2 783 := ⟨by decide +kernel, rfl⟩
theorem dd_W_law_783 : ev_d code 783 (.iconst 1) 1 784 := ⟨by decide +kernel, rfl⟩
theorem dd_W_law_784 : ev_d code 784 .iadd 1 785 := ⟨by decide +kernel, rfl⟩
theorem dd_W_law_785 : ev_d code 785 .iaload 1 786 := ⟨by decide +kernel, rfl⟩
theorem dd_W_law_786 : ev_d code 786 (.invokevirtual 102) 3 789 := ⟨by decide +kernel, rfl⟩
theorem dd_W_law_789 : ev_d code 789 (.istore 6) 2 791 := ⟨by decide +kernel, rfl⟩
theorem dd_W_law_791 : ev_d code 791 (.aload_n 2) 1 792 := ⟨by decide +kernel, rfl⟩
theorem dd_W_law_792 : ev_d code 792 (.invokevirtual 65) 3 795 := ⟨by decide +kernel, rfl⟩
theorem dd_W_law_795 : ev_d code 795 (.iload 5) 2 797 := ⟨by decide +kernel, rfl⟩
theorem dd_W_law_797 : ev_j code 797 (fun o => .if_icmp .eq o) 800 802 := ⟨5, by decide +kernel, rfl, by decide⟩
theorem dd_W_law_800 : ev_d code 800 (.iconst 0) 1 801 := ⟨by decide +kernel, rfl⟩
theorem dd_W_law_801 : ev_d code 801 .ireturn 1 802 := ⟨by decide +kernel, rfl⟩
theorem dd_W_law_802 : ev_d code 802 (.iload 5) 2 804 := ⟨by decide +kernel, rfl⟩
theorem dd_W_law_804 : ev_j code 804 (fun o => .ifCond .ne o) 807 819 := ⟨15, by decide +kernel, rfl, by decide⟩
theorem dd_W_law_807 : ev_d code 807 (.aload_n 3) 1 808 := ⟨by decide +kernel, rfl⟩
theorem dd_W_law_808 : ev_d code 808 (.iconst 0) 1 809 := ⟨by decide +kernel, rfl⟩
theorem dd_W_law_809 : ev_d code 809 .laload 1 810 := ⟨by decide +kernel, rfl⟩
theorem dd_W_law_810 : ev_d code 810 (.iload 6) 2 812 := ⟨by decide +kernel, rfl⟩
theorem dd_W_law_812 : ev_d code 812 .i2l 1 813 := ⟨by decide +kernel, rfl⟩
theorem dd_W_law_813 : ev_d code 813 .lcmp 1 814 := ⟨by decide +kernel, rfl⟩
theorem dd_W_law_814 : ev_j code 814 (fun o => .ifCond .eq o) 817 819 := ⟨5, by decide +kernel, rfl, by decide⟩
theorem dd_W_law_817 : ev_d code 817 (.iconst 0) 1 818 := ⟨by decide +kernel, rfl⟩
theorem dd_W_law_818 : ev_d code 818 .ireturn 1 819 := ⟨by decide +kernel, rfl⟩
theorem dd_W_law_819 : ev_j code 819 (fun o => .goto o) 822 890 := ⟨71, by decide +kernel, rfl, by decide⟩
theorem dd_W_law_822 : ev_d code 822 (.aload_n 1) 1 823 := ⟨by decide +kernel, rfl⟩
theorem dd_W_law_823 : ev_d code 823 (.aload_n 0) 1 824 := ⟨by decide +kernel, rfl⟩
theorem dd_W_law_824 : ev_d code 824 (.iload 4) 2 826 := ⟨by decide +kernel, rfl⟩
theorem dd_W_law_826 : ev_d code 826 (.iconst 1) 1 827 := ⟨by decide +kernel, rfl⟩
theorem dd_W_law_827 : ev_d code 827 .iadd 1 828 := ⟨by decide +kernel, rfl⟩
theorem dd_W_law_828 : ev_d code 828 .iaload 1 829 := ⟨by decide +kernel, rfl⟩
theorem dd_W_law_829 : ev_d code 829 (.aload_n 3) 1 830 := ⟨by decide +kernel, rfl⟩
theorem dd_W_law_830 : ev_d code 830 (.invokestatic 103) 3 833 := ⟨by decide +kernel, rfl⟩
theorem dd_W_law_833 : ev_d code 833 (.istore 5) 2 835 := ⟨by decide +kernel, rfl⟩
theorem dd_W_law_835 : ev_d code 835 (.aload_n 2) 1 836 := ⟨by decide +kernel, rfl⟩
theorem dd_W_law_836 : ev_d code 836 (.aload_n 0) 1 837 := ⟨by decide +kernel, rfl⟩
theorem dd_W_law_837 : ev_d code 837 (.iload 4) 2 839 := ⟨by decide +kernel, rfl⟩
theorem dd_W_law_839 : ev_d code 839 (.iconst 1) 1 840 := ⟨by decide +kernel, rfl⟩
theorem dd_W_law_840 : ev_d code 840 .iadd 1 841 := ⟨by decide +kernel, rfl⟩
theorem dd_W_law_841 : ev_d code 841 .iaload 1 842 := ⟨by decide +kernel, rfl⟩
theorem dd_W_law_842 : ev_d code 842 (.invokevirtual 105) 3 845 := ⟨by decide +kernel, rfl⟩
theorem dd_W_law_845 : ev_d code 845 (.lstore 6) 2 847 := ⟨by decide +kernel, rfl⟩
theorem dd_W_law_847 : ev_d code 847 (.aload_n 2) 1 848 := ⟨by decide +kernel, rfl⟩
theorem dd_W_law_848 : ev_d code 848 (.invokevirtual 65) 3 851 := ⟨by decide +kernel, rfl⟩
theorem dd_W_law_851 : ev_d code 851 (.iload 5) 2 853 := ⟨by decide +kernel, rfl⟩
theorem dd_W_law_853 : ev_j code 853 (fun o => .if_icmp .eq o) 856 858 := ⟨5, by decide +kernel, rfl, by decide⟩
theorem dd_W_law_856 : ev_d code 856 (.iconst 0) 1 857 := ⟨by decide +kernel, rfl⟩
theorem dd_W_law_857 : ev_d code 857 .ireturn 1 858 := ⟨by decide +kernel, rfl⟩
theorem dd_W_law_858 : ev_d code 858 (.iload 5) 2 860 := ⟨by decide +kernel, rfl⟩
theorem dd_W_law_860 : ev_j code 860 (fun o => .ifCond .ne o) 863 874 := ⟨14, by decide +kernel, rfl, by decide⟩
theorem dd_W_law_863 : ev_d code 863 (.aload_n 3) 1 864 := ⟨by decide +kernel, rfl⟩
theorem dd_W_law_864 : ev_d code 864 (.iconst 0) 1 865 := ⟨by decide +kernel, rfl⟩
theorem dd_W_law_865 : ev_d code 865 .laload 1 866 := ⟨by decide +kernel, rfl⟩
theorem dd_W_law_866 : ev_d code 866 (.lload 6) 2 868 := ⟨by decide +kernel, rfl⟩
theorem dd_W_law_868 : ev_d code 868 .lcmp 1 869 := ⟨by decide +kernel, rfl⟩
theorem dd_W_law_869 : ev_j code 869 (fun o => .ifCond .eq o) 872 874 := ⟨5, by decide +kernel, rfl, by decide⟩
theorem dd_W_law_872 : ev_d code 872 (.iconst 0) 1 873 := ⟨by decide +kernel, rfl⟩
theorem dd_W_law_873 : ev_d code 873 .ireturn 1 874 := ⟨by decide +kernel, rfl⟩
theorem dd_W_law_874 : ev_j code 874 (fun o => .goto o) 877 890 := ⟨16, by decide +kernel, rfl, by decide⟩
theorem dd_W_law_877 : ev_d code 877 (.aload_n 1) 1 878 := ⟨by decide +kernel, rfl⟩
theorem dd_W_law_878 : ev_d code 878 (.invokevirtual 106) 3 881 := ⟨by decide +kernel, rfl⟩
theorem dd_W_law_881 : ev_d code 881 (.aload_n 2) 1 882 := ⟨by decide +kernel, rfl⟩
theorem dd_W_law_882 : ev_d code 882 (.invokevirtual 109) 3 885 := ⟨by decide +kernel, rfl⟩
theorem dd_W_law_885 : ev_j code 885 (fun o => .if_icmp .eq o) 888 890 := ⟨5, by decide +kernel, rfl, by decide⟩
theorem dd_W_law_888 : ev_d code 888 (.iconst 0) 1 889 := ⟨by decide +kernel, rfl⟩
theorem dd_W_law_889 : ev_d code 889 .ireturn 1 890 := ⟨by decide +kernel, rfl⟩
theorem dd_W_law_890 : ev_d code 890 (.iinc 4 5) 3 893 := ⟨by decide +kernel, rfl⟩
theorem dd_W_law_893 : ev_j code 893 (fun o => .goto o) 896 23 := ⟨(-870), by decide +kernel, rfl, by decide⟩
theorem dd_W_law_896 : ev_d code 896 (.iconst 1) 1 897 := ⟨by decide +kernel, rfl⟩
theorem dd_W_law_897 : ev_d code 897 .ireturn 1 898 := ⟨by decide +kernel, rfl⟩
