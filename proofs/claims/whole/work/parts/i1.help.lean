/-! the law's helpers -/
def ev_Y2 (G : ev_gx) : Prop := va_Nc "java/lang/IllegalArgumentException" "java/lang/IndexOutOfBoundsException" (ev_s0 G) ∧ va_Nc "java/util/NoSuchElementException" "java/lang/IndexOutOfBoundsException" (ev_s0 G)
section Law1
variable {G : ev_gx} {M : ev_mx} {d pc pc' tgt : Nat} {L : List (Nat × Value)} {st : List Value} {w w1 : ev_wd} {P : ev_r → ev_wd → Prop} {q0 mi n n' : Nat} {C C' : cr_C} {D D' : rf_C} {o : Int64}
theorem h_start_y {a0 a1 v : Int32} (hq : q0 < ev_b G) (h : LW G q0 w C n D o) (hc : ev_E G mm_P_start (d + 13) 0 (lv_args 0 (.ref (ev_b G + cr_o 12 0) :: [.int a0, .int a1])) [] w (cr_yi G q0 n' w Q00 (v, C'))) : ev_E G mm_W_start (d + 14) 0 (lv_args 0 [.ref (ev_b G + cr_o 12 0), .int a0, .int a1, .ref (ev_b G + 124)]) [] w (LY G q0 C' n' D 0 (if v = 0 then 0 else 1)) := by
  refine ev_aload_n dd_W_start_0 rfl ?_
  refine ev_ic (v := 0) dd_W_start_1 (by decide +kernel) ?_
  refine ev_aload_n dd_W_start_2 rfl ?_
  refine ev_iload_n dd_W_start_3 rfl ?_
  refine ev_iload_n dd_W_start_4 rfl ?_
  refine L_v [.int a0, .int a1] dd_W_start_5 ms_P_start iv_W_7 rfl (Nat.le_of_ble_eq_true rfl) (Nat.le_of_ble_eq_true rfl) h hc (fun w1 h1 => ?_)
  refine ev_if_eq dd_W_start_8 (fun c => ?_) (fun c => ?_)
  · rw [if_pos c]
    refine ev_lconst dd_W_start_15 ?_
    refine L_out hq dd_W_start_16 h1 (fun w2 h2 => ?_)
    refine ev_goto dd_W_start_17 ?_
    refine ev_ic (v := 0) dd_W_start_24 (by decide +kernel) ?_
    refine ev_iret dd_W_start_25 rfl rfl ?_
    exact ⟨rfl, _, fun _ => rfl, h2⟩
  · rw [if_neg c]
    refine ev_lconst dd_W_start_11 ?_
    refine ev_goto dd_W_start_12 ?_
    refine L_out hq dd_W_start_16 h1 (fun w2 h2 => ?_)
    refine ev_goto dd_W_start_17 ?_
    refine ev_ic (v := 0) dd_W_start_24 (by decide +kernel) ?_
    refine ev_iret dd_W_start_25 rfl rfl ?_
    exact ⟨rfl, _, fun _ => rfl, h2⟩
theorem h_start_n {a0 a1 : Int32} {ov : Int64} (h : LW G q0 w C n D o) (hc : ev_E G mm_P_start (d + 13) 0 (lv_args 0 (.ref (ev_b G + cr_o 12 0) :: [.int a0, .int a1])) [] w (cr_yt G q0 n' w Q00 10 C)) : ev_E G mm_W_start (d + 14) 0 (lv_args 0 [.ref (ev_b G + cr_o 12 0), .int a0, .int a1, .ref (ev_b G + 124)]) [] w (LY G q0 C n' D 1 ov) := by
  refine ev_aload_n dd_W_start_0 rfl ?_
  refine ev_ic (v := 0) dd_W_start_1 (by decide +kernel) ?_
  refine ev_aload_n dd_W_start_2 rfl ?_
  refine ev_iload_n dd_W_start_3 rfl ?_
  refine ev_iload_n dd_W_start_4 rfl ?_
  refine L_t [.int a0, .int a1] dd_W_start_5 ms_P_start iv_W_7 rfl (Nat.le_of_ble_eq_true rfl) (Nat.le_of_ble_eq_true rfl) h hc (fun x w1 hx hg h1 => ?_)
  refine ev_catch (t := []) rfl rfl (by decide) kl_W_13 hx hg rfl ?_
  refine ev_astore dd_W_start_20 (by decide) ?_
  refine ev_ic (v := 1) dd_W_start_22 (by decide +kernel) ?_
  refine ev_iret dd_W_start_23 rfl rfl ?_
  exact ⟨rfl, o, fun c => absurd c (by decide), h1⟩
theorem h_stop_y {a0 a1 v : Int32} (hq : q0 < ev_b G) (h : LW G q0 w C n D o) (hc : ev_E G mm_P_stop (d + 13) 0 (lv_args 0 (.ref (ev_b G + cr_o 12 0) :: [.int a0, .int a1])) [] w (cr_yi G q0 n' w Q00 (v, C'))) : ev_E G mm_W_stop (d + 14) 0 (lv_args 0 [.ref (ev_b G + cr_o 12 0), .int a0, .int a1, .ref (ev_b G + 124)]) [] w (LY G q0 C' n' D 0 (if v = 0 then 0 else 1)) := by
  refine ev_aload_n dd_W_stop_0 rfl ?_
  refine ev_ic (v := 0) dd_W_stop_1 (by decide +kernel) ?_
  refine ev_aload_n dd_W_stop_2 rfl ?_
  refine ev_iload_n dd_W_stop_3 rfl ?_
  refine ev_iload_n dd_W_stop_4 rfl ?_
  refine L_v [.int a0, .int a1] dd_W_stop_5 ms_P_stop iv_W_15 rfl (Nat.le_of_ble_eq_true rfl) (Nat.le_of_ble_eq_true rfl) h hc (fun w1 h1 => ?_)
  refine ev_if_eq dd_W_stop_8 (fun c => ?_) (fun c => ?_)
  · rw [if_pos c]
    refine ev_lconst dd_W_stop_15 ?_
    refine L_out hq dd_W_stop_16 h1 (fun w2 h2 => ?_)
    refine ev_goto dd_W_stop_17 ?_
    refine ev_ic (v := 0) dd_W_stop_24 (by decide +kernel) ?_
    refine ev_iret dd_W_stop_25 rfl rfl ?_
    exact ⟨rfl, _, fun _ => rfl, h2⟩
  · rw [if_neg c]
    refine ev_lconst dd_W_stop_11 ?_
    refine ev_goto dd_W_stop_12 ?_
    refine L_out hq dd_W_stop_16 h1 (fun w2 h2 => ?_)
    refine ev_goto dd_W_stop_17 ?_
    refine ev_ic (v := 0) dd_W_stop_24 (by decide +kernel) ?_
    refine ev_iret dd_W_stop_25 rfl rfl ?_
    exact ⟨rfl, _, fun _ => rfl, h2⟩
theorem h_stop_n {a0 a1 : Int32} {ov : Int64} (h : LW G q0 w C n D o) (hc : ev_E G mm_P_stop (d + 13) 0 (lv_args 0 (.ref (ev_b G + cr_o 12 0) :: [.int a0, .int a1])) [] w (cr_yt G q0 n' w Q00 10 C)) : ev_E G mm_W_stop (d + 14) 0 (lv_args 0 [.ref (ev_b G + cr_o 12 0), .int a0, .int a1, .ref (ev_b G + 124)]) [] w (LY G q0 C n' D 1 ov) := by
  refine ev_aload_n dd_W_stop_0 rfl ?_
  refine ev_ic (v := 0) dd_W_stop_1 (by decide +kernel) ?_
  refine ev_aload_n dd_W_stop_2 rfl ?_
  refine ev_iload_n dd_W_stop_3 rfl ?_
  refine ev_iload_n dd_W_stop_4 rfl ?_
  refine L_t [.int a0, .int a1] dd_W_stop_5 ms_P_stop iv_W_15 rfl (Nat.le_of_ble_eq_true rfl) (Nat.le_of_ble_eq_true rfl) h hc (fun x w1 hx hg h1 => ?_)
  refine ev_catch (t := []) rfl rfl (by decide) kl_W_13 hx hg rfl ?_
  refine ev_astore dd_W_stop_20 (by decide) ?_
  refine ev_ic (v := 1) dd_W_stop_22 (by decide +kernel) ?_
  refine ev_iret dd_W_stop_23 rfl rfl ?_
  exact ⟨rfl, o, fun c => absurd c (by decide), h1⟩
theorem h_submit_y {a0 a1 a2 v : Int32} (hq : q0 < ev_b G) (h : LW G q0 w C n D o) (hc : ev_E G mm_P_submit (d + 13) 0 (lv_args 0 (.ref (ev_b G + cr_o 12 0) :: [.int a0, .int a1, .int a2])) [] w (cr_yi G q0 n' w Q00 (v, C'))) : ev_E G mm_W_submit (d + 14) 0 (lv_args 0 [.ref (ev_b G + cr_o 12 0), .int a0, .int a1, .int a2, .ref (ev_b G + 124)]) [] w (LY G q0 C' n' D 0 (if v = 0 then 0 else 1)) := by
  refine ev_aload dd_W_submit_0 rfl ?_
  refine ev_ic (v := 0) dd_W_submit_2 (by decide +kernel) ?_
  refine ev_aload_n dd_W_submit_3 rfl ?_
  refine ev_iload_n dd_W_submit_4 rfl ?_
  refine ev_iload_n dd_W_submit_5 rfl ?_
  refine ev_iload_n dd_W_submit_6 rfl ?_
  refine L_v [.int a0, .int a1, .int a2] dd_W_submit_7 ms_P_submit iv_W_24 rfl (Nat.le_of_ble_eq_true rfl) (Nat.le_of_ble_eq_true rfl) h hc (fun w1 h1 => ?_)
  refine ev_if_eq dd_W_submit_10 (fun c => ?_) (fun c => ?_)
  · rw [if_pos c]
    refine ev_lconst dd_W_submit_17 ?_
    refine L_out hq dd_W_submit_18 h1 (fun w2 h2 => ?_)
    refine ev_goto dd_W_submit_19 ?_
    refine ev_ic (v := 0) dd_W_submit_26 (by decide +kernel) ?_
    refine ev_iret dd_W_submit_27 rfl rfl ?_
    exact ⟨rfl, _, fun _ => rfl, h2⟩
  · rw [if_neg c]
    refine ev_lconst dd_W_submit_13 ?_
    refine ev_goto dd_W_submit_14 ?_
    refine L_out hq dd_W_submit_18 h1 (fun w2 h2 => ?_)
    refine ev_goto dd_W_submit_19 ?_
    refine ev_ic (v := 0) dd_W_submit_26 (by decide +kernel) ?_
    refine ev_iret dd_W_submit_27 rfl rfl ?_
    exact ⟨rfl, _, fun _ => rfl, h2⟩
theorem h_submit_n {a0 a1 a2 : Int32} {ov : Int64} (h : LW G q0 w C n D o) (hc : ev_E G mm_P_submit (d + 13) 0 (lv_args 0 (.ref (ev_b G + cr_o 12 0) :: [.int a0, .int a1, .int a2])) [] w (cr_yt G q0 n' w Q00 10 C)) : ev_E G mm_W_submit (d + 14) 0 (lv_args 0 [.ref (ev_b G + cr_o 12 0), .int a0, .int a1, .int a2, .ref (ev_b G + 124)]) [] w (LY G q0 C n' D 1 ov) := by
  refine ev_aload dd_W_submit_0 rfl ?_
  refine ev_ic (v := 0) dd_W_submit_2 (by decide +kernel) ?_
  refine ev_aload_n dd_W_submit_3 rfl ?_
  refine ev_iload_n dd_W_submit_4 rfl ?_
  refine ev_iload_n dd_W_submit_5 rfl ?_
  refine ev_iload_n dd_W_submit_6 rfl ?_
  refine L_t [.int a0, .int a1, .int a2] dd_W_submit_7 ms_P_submit iv_W_24 rfl (Nat.le_of_ble_eq_true rfl) (Nat.le_of_ble_eq_true rfl) h hc (fun x w1 hx hg h1 => ?_)
  refine ev_catch (t := []) rfl rfl (by decide) kl_W_13 hx hg rfl ?_
  refine ev_astore dd_W_submit_22 (by decide) ?_
  refine ev_ic (v := 1) dd_W_submit_24 (by decide +kernel) ?_
  refine ev_iret dd_W_submit_25 rfl rfl ?_
  exact ⟨rfl, o, fun c => absurd c (by decide), h1⟩
theorem h_state_y {a0 a1 v : Int32} (hq : q0 < ev_b G) (h : LW G q0 w C n D o) (hc : ev_E G mm_P_state (d + 13) 0 (lv_args 0 (.ref (ev_b G + cr_o 12 0) :: [.int a0, .int a1])) [] w (cr_yi G q0 n' w Q00 (v, C'))) : ev_E G mm_W_state (d + 14) 0 (lv_args 0 [.ref (ev_b G + cr_o 12 0), .int a0, .int a1, .ref (ev_b G + 124)]) [] w (LY G q0 C' n' D 0 v.toInt64) := by
  refine ev_aload_n dd_W_state_0 rfl ?_
  refine ev_ic (v := 0) dd_W_state_1 (by decide +kernel) ?_
  refine ev_aload_n dd_W_state_2 rfl ?_
  refine ev_iload_n dd_W_state_3 rfl ?_
  refine ev_iload_n dd_W_state_4 rfl ?_
  refine L_v [.int a0, .int a1] dd_W_state_5 ms_P_state iv_W_28 rfl (Nat.le_of_ble_eq_true rfl) (Nat.le_of_ble_eq_true rfl) h hc (fun w1 h1 => ?_)
  refine ev_i2l dd_W_state_8 ?_
  refine L_out hq dd_W_state_9 h1 (fun w2 h2 => ?_)
  refine ev_goto dd_W_state_10 ?_
  refine ev_ic (v := 0) dd_W_state_17 (by decide +kernel) ?_
  refine ev_iret dd_W_state_18 rfl rfl ?_
  exact ⟨rfl, _, fun _ => rfl, h2⟩
theorem h_state_n {a0 a1 : Int32} {ov : Int64} (h : LW G q0 w C n D o) (hc : ev_E G mm_P_state (d + 13) 0 (lv_args 0 (.ref (ev_b G + cr_o 12 0) :: [.int a0, .int a1])) [] w (cr_yt G q0 n' w Q00 10 C)) : ev_E G mm_W_state (d + 14) 0 (lv_args 0 [.ref (ev_b G + cr_o 12 0), .int a0, .int a1, .ref (ev_b G + 124)]) [] w (LY G q0 C n' D 1 ov) := by
  refine ev_aload_n dd_W_state_0 rfl ?_
  refine ev_ic (v := 0) dd_W_state_1 (by decide +kernel) ?_
  refine ev_aload_n dd_W_state_2 rfl ?_
  refine ev_iload_n dd_W_state_3 rfl ?_
  refine ev_iload_n dd_W_state_4 rfl ?_
  refine L_t [.int a0, .int a1] dd_W_state_5 ms_P_state iv_W_28 rfl (Nat.le_of_ble_eq_true rfl) (Nat.le_of_ble_eq_true rfl) h hc (fun x w1 hx hg h1 => ?_)
  refine ev_catch (t := []) rfl rfl (by decide) kl_W_13 hx hg rfl ?_
  refine ev_astore dd_W_state_13 (by decide) ?_
  refine ev_ic (v := 1) dd_W_state_15 (by decide +kernel) ?_
  refine ev_iret dd_W_state_16 rfl rfl ?_
  exact ⟨rfl, o, fun c => absurd c (by decide), h1⟩
theorem h_of_y {a0 a1 a2 v : Int32} (hq : q0 < ev_b G) (h : LW G q0 w C n D o) (hc : ev_E G mm_P_of (d + 13) 0 (lv_args 0 (.ref (ev_b G + cr_o 12 0) :: [.int a0, .int a1, .int a2])) [] w (cr_yi G q0 n' w Q00 (v, C'))) : ev_E G mm_W_of (d + 14) 0 (lv_args 0 [.ref (ev_b G + cr_o 12 0), .int a0, .int a1, .int a2, .ref (ev_b G + 124)]) [] w (LY G q0 C' n' D 0 v.toInt64) := by
  refine ev_aload dd_W_of_0 rfl ?_
  refine ev_ic (v := 0) dd_W_of_2 (by decide +kernel) ?_
  refine ev_aload_n dd_W_of_3 rfl ?_
  refine ev_iload_n dd_W_of_4 rfl ?_
  refine ev_iload_n dd_W_of_5 rfl ?_
  refine ev_iload_n dd_W_of_6 rfl ?_
  refine L_v [.int a0, .int a1, .int a2] dd_W_of_7 ms_P_of iv_W_32 rfl (Nat.le_of_ble_eq_true rfl) (Nat.le_of_ble_eq_true rfl) h hc (fun w1 h1 => ?_)
  refine ev_i2l dd_W_of_10 ?_
  refine L_out hq dd_W_of_11 h1 (fun w2 h2 => ?_)
  refine ev_goto dd_W_of_12 ?_
  refine ev_ic (v := 0) dd_W_of_19 (by decide +kernel) ?_
  refine ev_iret dd_W_of_20 rfl rfl ?_
  exact ⟨rfl, _, fun _ => rfl, h2⟩
theorem h_of_n {a0 a1 a2 : Int32} {ov : Int64} (h : LW G q0 w C n D o) (hc : ev_E G mm_P_of (d + 13) 0 (lv_args 0 (.ref (ev_b G + cr_o 12 0) :: [.int a0, .int a1, .int a2])) [] w (cr_yt G q0 n' w Q00 10 C)) : ev_E G mm_W_of (d + 14) 0 (lv_args 0 [.ref (ev_b G + cr_o 12 0), .int a0, .int a1, .int a2, .ref (ev_b G + 124)]) [] w (LY G q0 C n' D 1 ov) := by
  refine ev_aload dd_W_of_0 rfl ?_
  refine ev_ic (v := 0) dd_W_of_2 (by decide +kernel) ?_
  refine ev_aload_n dd_W_of_3 rfl ?_
  refine ev_iload_n dd_W_of_4 rfl ?_
  refine ev_iload_n dd_W_of_5 rfl ?_
  refine ev_iload_n dd_W_of_6 rfl ?_
  refine L_t [.int a0, .int a1, .int a2] dd_W_of_7 ms_P_of iv_W_32 rfl (Nat.le_of_ble_eq_true rfl) (Nat.le_of_ble_eq_true rfl) h hc (fun x w1 hx hg h1 => ?_)
  refine ev_catch (t := []) rfl rfl (by decide) kl_W_13 hx hg rfl ?_
  refine ev_astore dd_W_of_15 (by decide) ?_
  refine ev_ic (v := 1) dd_W_of_17 (by decide +kernel) ?_
  refine ev_iret dd_W_of_18 rfl rfl ?_
  exact ⟨rfl, o, fun c => absurd c (by decide), h1⟩
theorem h_link_y {a0 a1 v : Int32} (hq : q0 < ev_b G) (h : LW G q0 w C n D o) (hc : ev_E G mm_P_link (d + 13) 0 (lv_args 0 (.ref (ev_b G + cr_o 12 0) :: [.int a0, .int a1])) [] w (cr_yi G q0 n' w Q00 (v, C'))) : ev_E G mm_W_link (d + 14) 0 (lv_args 0 [.ref (ev_b G + cr_o 12 0), .int a0, .int a1, .ref (ev_b G + 124)]) [] w (LY G q0 C' n' D 0 v.toInt64) := by
  refine ev_aload_n dd_W_link_0 rfl ?_
  refine ev_ic (v := 0) dd_W_link_1 (by decide +kernel) ?_
  refine ev_aload_n dd_W_link_2 rfl ?_
  refine ev_iload_n dd_W_link_3 rfl ?_
  refine ev_iload_n dd_W_link_4 rfl ?_
  refine L_v [.int a0, .int a1] dd_W_link_5 ms_P_link iv_W_36 rfl (Nat.le_of_ble_eq_true rfl) (Nat.le_of_ble_eq_true rfl) h hc (fun w1 h1 => ?_)
  refine ev_i2l dd_W_link_8 ?_
  refine L_out hq dd_W_link_9 h1 (fun w2 h2 => ?_)
  refine ev_goto dd_W_link_10 ?_
  refine ev_ic (v := 0) dd_W_link_17 (by decide +kernel) ?_
  refine ev_iret dd_W_link_18 rfl rfl ?_
  exact ⟨rfl, _, fun _ => rfl, h2⟩
theorem h_link_n {a0 a1 : Int32} {ov : Int64} (h : LW G q0 w C n D o) (hc : ev_E G mm_P_link (d + 13) 0 (lv_args 0 (.ref (ev_b G + cr_o 12 0) :: [.int a0, .int a1])) [] w (cr_yt G q0 n' w Q00 10 C)) : ev_E G mm_W_link (d + 14) 0 (lv_args 0 [.ref (ev_b G + cr_o 12 0), .int a0, .int a1, .ref (ev_b G + 124)]) [] w (LY G q0 C n' D 1 ov) := by
  refine ev_aload_n dd_W_link_0 rfl ?_
  refine ev_ic (v := 0) dd_W_link_1 (by decide +kernel) ?_
  refine ev_aload_n dd_W_link_2 rfl ?_
  refine ev_iload_n dd_W_link_3 rfl ?_
  refine ev_iload_n dd_W_link_4 rfl ?_
  refine L_t [.int a0, .int a1] dd_W_link_5 ms_P_link iv_W_36 rfl (Nat.le_of_ble_eq_true rfl) (Nat.le_of_ble_eq_true rfl) h hc (fun x w1 hx hg h1 => ?_)
  refine ev_catch (t := []) rfl rfl (by decide) kl_W_13 hx hg rfl ?_
  refine ev_astore dd_W_link_13 (by decide) ?_
  refine ev_ic (v := 1) dd_W_link_15 (by decide +kernel) ?_
  refine ev_iret dd_W_link_16 rfl rfl ?_
  exact ⟨rfl, o, fun c => absurd c (by decide), h1⟩
theorem h_changes_y {a0 a1 v : Int32} (hq : q0 < ev_b G) (h : LW G q0 w C n D o) (hc : ev_E G mm_P_changes (d + 13) 0 (lv_args 0 (.ref (ev_b G + cr_o 12 0) :: [.int a0, .int a1])) [] w (cr_yi G q0 n' w Q00 (v, C'))) : ev_E G mm_W_changes (d + 14) 0 (lv_args 0 [.ref (ev_b G + cr_o 12 0), .int a0, .int a1, .ref (ev_b G + 124)]) [] w (LY G q0 C' n' D 0 v.toInt64) := by
  refine ev_aload_n dd_W_changes_0 rfl ?_
  refine ev_ic (v := 0) dd_W_changes_1 (by decide +kernel) ?_
  refine ev_aload_n dd_W_changes_2 rfl ?_
  refine ev_iload_n dd_W_changes_3 rfl ?_
  refine ev_iload_n dd_W_changes_4 rfl ?_
  refine L_v [.int a0, .int a1] dd_W_changes_5 ms_P_changes iv_W_39 rfl (Nat.le_of_ble_eq_true rfl) (Nat.le_of_ble_eq_true rfl) h hc (fun w1 h1 => ?_)
  refine ev_i2l dd_W_changes_8 ?_
  refine L_out hq dd_W_changes_9 h1 (fun w2 h2 => ?_)
  refine ev_goto dd_W_changes_10 ?_
  refine ev_ic (v := 0) dd_W_changes_17 (by decide +kernel) ?_
  refine ev_iret dd_W_changes_18 rfl rfl ?_
  exact ⟨rfl, _, fun _ => rfl, h2⟩
theorem h_changes_n {a0 a1 : Int32} {ov : Int64} (h : LW G q0 w C n D o) (hc : ev_E G mm_P_changes (d + 13) 0 (lv_args 0 (.ref (ev_b G + cr_o 12 0) :: [.int a0, .int a1])) [] w (cr_yt G q0 n' w Q00 10 C)) : ev_E G mm_W_changes (d + 14) 0 (lv_args 0 [.ref (ev_b G + cr_o 12 0), .int a0, .int a1, .ref (ev_b G + 124)]) [] w (LY G q0 C n' D 1 ov) := by
  refine ev_aload_n dd_W_changes_0 rfl ?_
  refine ev_ic (v := 0) dd_W_changes_1 (by decide +kernel) ?_
  refine ev_aload_n dd_W_changes_2 rfl ?_
  refine ev_iload_n dd_W_changes_3 rfl ?_
  refine ev_iload_n dd_W_changes_4 rfl ?_
  refine L_t [.int a0, .int a1] dd_W_changes_5 ms_P_changes iv_W_39 rfl (Nat.le_of_ble_eq_true rfl) (Nat.le_of_ble_eq_true rfl) h hc (fun x w1 hx hg h1 => ?_)
  refine ev_catch (t := []) rfl rfl (by decide) kl_W_13 hx hg rfl ?_
  refine ev_astore dd_W_changes_13 (by decide) ?_
  refine ev_ic (v := 1) dd_W_changes_15 (by decide +kernel) ?_
  refine ev_iret dd_W_changes_16 rfl rfl ?_
  exact ⟨rfl, o, fun c => absurd c (by decide), h1⟩
theorem h_held_y {a0 v : Int32} (hq : q0 < ev_b G) (h : LW G q0 w C n D o) (hc : ev_E G mm_P_held (d + 13) 0 (lv_args 0 (.ref (ev_b G + cr_o 12 0) :: [.int a0])) [] w (cr_yi G q0 n' w Q00 (v, C'))) : ev_E G mm_W_held (d + 14) 0 (lv_args 0 [.ref (ev_b G + cr_o 12 0), .int a0, .ref (ev_b G + 124)]) [] w (LY G q0 C' n' D 0 v.toInt64) := by
  refine ev_aload_n dd_W_held_0 rfl ?_
  refine ev_ic (v := 0) dd_W_held_1 (by decide +kernel) ?_
  refine ev_aload_n dd_W_held_2 rfl ?_
  refine ev_iload_n dd_W_held_3 rfl ?_
  refine L_v [.int a0] dd_W_held_4 ms_P_held iv_W_42 rfl (Nat.le_of_ble_eq_true rfl) (Nat.le_of_ble_eq_true rfl) h hc (fun w1 h1 => ?_)
  refine ev_i2l dd_W_held_7 ?_
  refine L_out hq dd_W_held_8 h1 (fun w2 h2 => ?_)
  refine ev_goto dd_W_held_9 ?_
  refine ev_ic (v := 0) dd_W_held_15 (by decide +kernel) ?_
  refine ev_iret dd_W_held_16 rfl rfl ?_
  exact ⟨rfl, _, fun _ => rfl, h2⟩
theorem h_held_n {a0 : Int32} {ov : Int64} (h : LW G q0 w C n D o) (hc : ev_E G mm_P_held (d + 13) 0 (lv_args 0 (.ref (ev_b G + cr_o 12 0) :: [.int a0])) [] w (cr_yt G q0 n' w Q00 10 C)) : ev_E G mm_W_held (d + 14) 0 (lv_args 0 [.ref (ev_b G + cr_o 12 0), .int a0, .ref (ev_b G + 124)]) [] w (LY G q0 C n' D 1 ov) := by
  refine ev_aload_n dd_W_held_0 rfl ?_
  refine ev_ic (v := 0) dd_W_held_1 (by decide +kernel) ?_
  refine ev_aload_n dd_W_held_2 rfl ?_
  refine ev_iload_n dd_W_held_3 rfl ?_
  refine L_t [.int a0] dd_W_held_4 ms_P_held iv_W_42 rfl (Nat.le_of_ble_eq_true rfl) (Nat.le_of_ble_eq_true rfl) h hc (fun x w1 hx hg h1 => ?_)
  refine ev_catch (t := []) rfl rfl (by decide) kl_W_13 hx hg rfl ?_
  refine ev_astore_n dd_W_held_12 (by decide) ?_
  refine ev_ic (v := 1) dd_W_held_13 (by decide +kernel) ?_
  refine ev_iret dd_W_held_14 rfl rfl ?_
  exact ⟨rfl, o, fun c => absurd c (by decide), h1⟩
theorem h_inbox_y {a0 v : Int32} (hq : q0 < ev_b G) (h : LW G q0 w C n D o) (hc : ev_E G mm_P_inbox (d + 13) 0 (lv_args 0 (.ref (ev_b G + cr_o 12 0) :: [.int a0])) [] w (cr_yi G q0 n' w Q00 (v, C'))) : ev_E G mm_W_inbox (d + 14) 0 (lv_args 0 [.ref (ev_b G + cr_o 12 0), .int a0, .ref (ev_b G + 124)]) [] w (LY G q0 C' n' D 0 v.toInt64) := by
  refine ev_aload_n dd_W_inbox_0 rfl ?_
  refine ev_ic (v := 0) dd_W_inbox_1 (by decide +kernel) ?_
  refine ev_aload_n dd_W_inbox_2 rfl ?_
  refine ev_iload_n dd_W_inbox_3 rfl ?_
  refine L_v [.int a0] dd_W_inbox_4 ms_P_inbox iv_W_46 rfl (Nat.le_of_ble_eq_true rfl) (Nat.le_of_ble_eq_true rfl) h hc (fun w1 h1 => ?_)
  refine ev_i2l dd_W_inbox_7 ?_
  refine L_out hq dd_W_inbox_8 h1 (fun w2 h2 => ?_)
  refine ev_goto dd_W_inbox_9 ?_
  refine ev_ic (v := 0) dd_W_inbox_15 (by decide +kernel) ?_
  refine ev_iret dd_W_inbox_16 rfl rfl ?_
  exact ⟨rfl, _, fun _ => rfl, h2⟩
theorem h_inbox_n {a0 : Int32} {ov : Int64} (h : LW G q0 w C n D o) (hc : ev_E G mm_P_inbox (d + 13) 0 (lv_args 0 (.ref (ev_b G + cr_o 12 0) :: [.int a0])) [] w (cr_yt G q0 n' w Q00 10 C)) : ev_E G mm_W_inbox (d + 14) 0 (lv_args 0 [.ref (ev_b G + cr_o 12 0), .int a0, .ref (ev_b G + 124)]) [] w (LY G q0 C n' D 1 ov) := by
  refine ev_aload_n dd_W_inbox_0 rfl ?_
  refine ev_ic (v := 0) dd_W_inbox_1 (by decide +kernel) ?_
  refine ev_aload_n dd_W_inbox_2 rfl ?_
  refine ev_iload_n dd_W_inbox_3 rfl ?_
  refine L_t [.int a0] dd_W_inbox_4 ms_P_inbox iv_W_46 rfl (Nat.le_of_ble_eq_true rfl) (Nat.le_of_ble_eq_true rfl) h hc (fun x w1 hx hg h1 => ?_)
  refine ev_catch (t := []) rfl rfl (by decide) kl_W_13 hx hg rfl ?_
  refine ev_astore_n dd_W_inbox_12 (by decide) ?_
  refine ev_ic (v := 1) dd_W_inbox_13 (by decide +kernel) ?_
  refine ev_iret dd_W_inbox_14 rfl rfl ?_
  exact ⟨rfl, o, fun c => absurd c (by decide), h1⟩
theorem h_fault_y {a0 a1 a2 a3 : Int32} (h : LW G q0 w C n D o) (hc : ev_E G mm_P_fault (d + 13) 0 (lv_args 0 (.ref (ev_b G + cr_o 12 0) :: [.int a0, .int a1, .int a2, .int a3])) [] w (cr_yv G q0 n' w Q00 C')) : ev_E G mm_W_fault (d + 14) 0 (lv_args 0 [.ref (ev_b G + cr_o 12 0), .int a0, .int a1, .int a2, .int a3]) [] w (LY G q0 C' n' D 0 o) := by
  refine ev_aload_n dd_W_fault_0 rfl ?_
  refine ev_iload_n dd_W_fault_1 rfl ?_
  refine ev_iload_n dd_W_fault_2 rfl ?_
  refine ev_iload_n dd_W_fault_3 rfl ?_
  refine ev_iload dd_W_fault_4 rfl ?_
  refine L_vV [.int a0, .int a1, .int a2, .int a3] dd_W_fault_6 ms_P_fault iv_W_18 rfl (Nat.le_of_ble_eq_true rfl) (Nat.le_of_ble_eq_true rfl) h hc (fun w1 h1 => ?_)
  refine ev_goto dd_W_fault_9 ?_
  refine ev_ic (v := 0) dd_W_fault_20 (by decide +kernel) ?_
  refine ev_iret dd_W_fault_21 rfl rfl ?_
  exact ⟨rfl, o, fun _ => rfl, h1⟩
theorem h_fault_n {a0 a1 a2 a3 : Int32} {ov : Int64} (h : LW G q0 w C n D o) (hc : ev_E G mm_P_fault (d + 13) 0 (lv_args 0 (.ref (ev_b G + cr_o 12 0) :: [.int a0, .int a1, .int a2, .int a3])) [] w (cr_yt G q0 n' w Q00 10 C)) : ev_E G mm_W_fault (d + 14) 0 (lv_args 0 [.ref (ev_b G + cr_o 12 0), .int a0, .int a1, .int a2, .int a3]) [] w (LY G q0 C n' D 1 ov) := by
  refine ev_aload_n dd_W_fault_0 rfl ?_
  refine ev_iload_n dd_W_fault_1 rfl ?_
  refine ev_iload_n dd_W_fault_2 rfl ?_
  refine ev_iload_n dd_W_fault_3 rfl ?_
  refine ev_iload dd_W_fault_4 rfl ?_
  refine L_t [.int a0, .int a1, .int a2, .int a3] dd_W_fault_6 ms_P_fault iv_W_18 rfl (Nat.le_of_ble_eq_true rfl) (Nat.le_of_ble_eq_true rfl) h hc (fun x w1 hx hg h1 => ?_)
  refine ev_catch (t := [(0, 9, 16, 22)]) rfl rfl (by decide) kl_W_13 hx hg rfl ?_
  refine ev_astore dd_W_fault_12 (by decide) ?_
  refine ev_ic (v := 1) dd_W_fault_14 (by decide +kernel) ?_
  refine ev_iret dd_W_fault_15 rfl rfl ?_
  exact ⟨rfl, o, fun c => absurd c (by decide), h1⟩
theorem h_fault_n2 {a0 a1 a2 a3 : Int32} {ov : Int64} (Y2 : ev_Y2 G) (h : LW G q0 w C n D o) (hc : ev_E G mm_P_fault (d + 13) 0 (lv_args 0 (.ref (ev_b G + cr_o 12 0) :: [.int a0, .int a1, .int a2, .int a3])) [] w (cr_yt G q0 n' w Q00 11 C)) : ev_E G mm_W_fault (d + 14) 0 (lv_args 0 [.ref (ev_b G + cr_o 12 0), .int a0, .int a1, .int a2, .int a3]) [] w (LY G q0 C n' D 2 ov) := by
  refine ev_aload_n dd_W_fault_0 rfl ?_
  refine ev_iload_n dd_W_fault_1 rfl ?_
  refine ev_iload_n dd_W_fault_2 rfl ?_
  refine ev_iload_n dd_W_fault_3 rfl ?_
  refine ev_iload dd_W_fault_4 rfl ?_
  refine L_t [.int a0, .int a1, .int a2, .int a3] dd_W_fault_6 ms_P_fault iv_W_18 rfl (Nat.le_of_ble_eq_true rfl) (Nat.le_of_ble_eq_true rfl) h hc (fun x w1 hx hg h1 => ?_)
  refine ev_catch2 (t := []) rfl rfl rfl (by decide) (by decide) kl_W_13 Y2.1 kl_W_22 hx hg rfl ?_
  refine ev_astore dd_W_fault_16 (by decide) ?_
  refine ev_ic (v := 2) dd_W_fault_18 (by decide +kernel) ?_
  refine ev_iret dd_W_fault_19 rfl rfl ?_
  exact ⟨rfl, o, fun c => absurd c (by decide), h1⟩
theorem h_take_y {a0 : Int32} {v : Int64} (hq : q0 < ev_b G) (h : LW G q0 w C n D o) (hc : ev_E G mm_P_take (d + 13) 0 (lv_args 0 (.ref (ev_b G + cr_o 12 0) :: [.int a0])) [] w (cr_yl G q0 n' w Q00 (v, C'))) : ev_E G mm_W_take (d + 14) 0 (lv_args 0 [.ref (ev_b G + cr_o 12 0), .int a0, .ref (ev_b G + 124)]) [] w (LY G q0 C' n' D 0 v) := by
  refine ev_aload_n dd_W_take_0 rfl ?_
  refine ev_ic (v := 0) dd_W_take_1 (by decide +kernel) ?_
  refine ev_aload_n dd_W_take_2 rfl ?_
  refine ev_iload_n dd_W_take_3 rfl ?_
  refine L_vL [.int a0] dd_W_take_4 ms_P_take iv_W_49 rfl (Nat.le_of_ble_eq_true rfl) (Nat.le_of_ble_eq_true rfl) h hc (fun w1 h1 => ?_)
  refine L_out hq dd_W_take_7 h1 (fun w2 h2 => ?_)
  refine ev_goto dd_W_take_8 ?_
  refine ev_ic (v := 0) dd_W_take_17 (by decide +kernel) ?_
  refine ev_iret dd_W_take_18 rfl rfl ?_
  exact ⟨rfl, _, fun _ => rfl, h2⟩
theorem h_take_n {a0 : Int32} {ov : Int64} (h : LW G q0 w C n D o) (hc : ev_E G mm_P_take (d + 13) 0 (lv_args 0 (.ref (ev_b G + cr_o 12 0) :: [.int a0])) [] w (cr_yt G q0 n' w Q00 10 C)) : ev_E G mm_W_take (d + 14) 0 (lv_args 0 [.ref (ev_b G + cr_o 12 0), .int a0, .ref (ev_b G + 124)]) [] w (LY G q0 C n' D 1 ov) := by
  refine ev_aload_n dd_W_take_0 rfl ?_
  refine ev_ic (v := 0) dd_W_take_1 (by decide +kernel) ?_
  refine ev_aload_n dd_W_take_2 rfl ?_
  refine ev_iload_n dd_W_take_3 rfl ?_
  refine L_t [.int a0] dd_W_take_4 ms_P_take iv_W_49 rfl (Nat.le_of_ble_eq_true rfl) (Nat.le_of_ble_eq_true rfl) h hc (fun x w1 hx hg h1 => ?_)
  refine ev_catch (t := [(0, 8, 14, 53)]) rfl rfl (by decide) kl_W_13 hx hg rfl ?_
  refine ev_astore_n dd_W_take_11 (by decide) ?_
  refine ev_ic (v := 1) dd_W_take_12 (by decide +kernel) ?_
  refine ev_iret dd_W_take_13 rfl rfl ?_
  exact ⟨rfl, o, fun c => absurd c (by decide), h1⟩
theorem h_take_n2 {a0 : Int32} {ov : Int64} (Y2 : ev_Y2 G) (h : LW G q0 w C n D o) (hc : ev_E G mm_P_take (d + 13) 0 (lv_args 0 (.ref (ev_b G + cr_o 12 0) :: [.int a0])) [] w (cr_yt G q0 n' w Q00 12 C)) : ev_E G mm_W_take (d + 14) 0 (lv_args 0 [.ref (ev_b G + cr_o 12 0), .int a0, .ref (ev_b G + 124)]) [] w (LY G q0 C n' D 2 ov) := by
  refine ev_aload_n dd_W_take_0 rfl ?_
  refine ev_ic (v := 0) dd_W_take_1 (by decide +kernel) ?_
  refine ev_aload_n dd_W_take_2 rfl ?_
  refine ev_iload_n dd_W_take_3 rfl ?_
  refine L_t [.int a0] dd_W_take_4 ms_P_take iv_W_49 rfl (Nat.le_of_ble_eq_true rfl) (Nat.le_of_ble_eq_true rfl) h hc (fun x w1 hx hg h1 => ?_)
  refine ev_catch2 (t := []) rfl rfl rfl (by decide) (by decide) kl_W_13 Y2.2 kl_W_53 hx hg rfl ?_
  refine ev_astore_n dd_W_take_14 (by decide) ?_
  refine ev_ic (v := 2) dd_W_take_15 (by decide +kernel) ?_
  refine ev_iret dd_W_take_16 rfl rfl ?_
  exact ⟨rfl, o, fun c => absurd c (by decide), h1⟩
end Law1
