/-! the face of the reference -/
theorem rs_mis0a {D : rf_C} : (rs_D_missing D 0).1 = 1 := rfl
theorem rs_mis0b {D : rf_C} : (rs_D_missing D 0).2 = rf_sI D 0 0 1 := rfl
theorem rs_mis1a {D : rf_C} : (rs_D_missing D 1).1 = 0 := rfl
theorem rs_mis1b {D : rf_C} : (rs_D_missing D 1).2 = rf_sI D 0 0 0 := rfl
theorem rs_side1 {l e : Nat} (hl : l < 3) (he : e < 2) : rs_D_isSide (Int32.ofNat l) (Int32.ofNat e) = 1 := by
  rcases (show l = 0 ∨ l = 1 ∨ l = 2 by omega) with rfl | rfl | rfl <;> rcases (show e = 0 ∨ e = 1 by omega) with rfl | rfl <;> rfl
theorem rs_class1 {e k : Nat} (he : e < 2) (hk : k < 4) : rs_D_isClass (Int32.ofNat e) (Int32.ofNat k) = 1 := by
  rcases (show k = 0 ∨ k = 1 ∨ k = 2 ∨ k = 3 by omega) with rfl | rfl | rfl | rfl <;> rcases (show e = 0 ∨ e = 1 by omega) with rfl | rfl <;> rfl
theorem rs_end1 {e : Nat} (he : e < 2) : rs_D_isEnd (Int32.ofNat e) = 1 := by
  rcases (show e = 0 ∨ e = 1 by omega) with rfl | rfl <;> rfl
theorem rs_side0 {x y : Int32} (h : ¬ (cr_iv x 3 ∧ cr_iv y 2)) : rs_D_isSide x y = 0 := by
  unfold rs_D_isSide
  repeat' split
  all_goals first | rfl | skip
  rename_i a b c d
  exact absurd ⟨⟨a, Int32.not_le.mp b⟩, ⟨c, Int32.not_le.mp d⟩⟩ h
theorem rs_class0 {y x : Int32} (h : ¬ (cr_iv x 4 ∧ cr_iv y 2)) : rs_D_isClass y x = 0 := by
  unfold rs_D_isClass
  repeat' split
  all_goals first | rfl | skip
  rename_i a b c d
  exact absurd ⟨⟨c, Int32.not_le.mp d⟩, ⟨a, Int32.not_le.mp b⟩⟩ h
theorem rs_end0 {y : Int32} (h : ¬ cr_iv y 2) : rs_D_isEnd y = 0 := by
  unfold rs_D_isEnd
  repeat' split
  all_goals first | rfl | skip
  all_goals (rename_i a; first | exact absurd (by rw [a]; exact ⟨by decide, by decide⟩) h | skip)
section RgE
variable {G : ev_gx} {M : ev_mx} {d pc pc' tgt : Nat} {L : List (Nat × Value)} {st : List Value} {w w1 F : ev_wd} {P : ev_r → ev_wd → Prop} {D D' : rf_C} {H : Option (Nat × rf_m)} {Q : Nat → rf_m → Prop}
def rs_D_start (D : rf_C) (l : Nat) (e : Nat) : Int32 × rf_C := (if ((rf_sI D 0 0 0).1 12 ((2 * l) + e)) = 0 then (1, rs_D_begin (rf_sI (rs_D_come (rf_sI D 0 0 0) ((2 * l) + e) 1) 14 ((2 * l) + e) (((rs_D_come (rf_sI D 0 0 0) ((2 * l) + e) 1).1 14 ((2 * l) + e)) + 1)) ((2 * l) + e)) else (0, rf_sI D 0 0 0))
theorem k_D_start {l : Nat} {e : Nat} (hl : l < 3) (he : e < 2) (h : rf_K G w D none F rf_Q0) : ev_E G mm_D_start (d + 3) 0 (lv_args 0 [.ref (ev_b G + 77), .int (Int32.ofNat l), .int (Int32.ofNat e)]) [] w (rf_yi G F rf_Q0 none (rs_D_start D l e)) := by
  unfold rs_D_start
  refine ev_aload_n dd_D_start_0 rfl ?_
  refine ev_iload_n dd_D_start_1 rfl ?_
  refine ev_iload_n dd_D_start_2 rfl ?_
  refine ev_callsI [_, _] dd_D_start_3 ms_D_isSide is_D_173 rfl (Nat.le_of_ble_eq_true rfl) (Nat.le_of_ble_eq_true rfl) (k_D_isSide (Int32.ofNat l) (Int32.ofNat e)) ?_
  rw [rs_side1 hl he]
  refine ev_callvN2 [_] dd_D_start_6 ms_D_missing iv_D_177 h.ob h.tg rfl (Nat.le_of_ble_eq_true rfl) (Nat.le_of_ble_eq_true rfl) (k_D_missing 1 h) (fun w2 h2 => ?_)
  rw [rs_mis1b] at h2
  rw [rs_mis1a]
  refine ev_if_ne dd_D_start_9 (fun hc => absurd rfl hc) (fun _ => ?_)
  refine ev_aload_n dd_D_start_12 rfl ?_
  refine R_gA (k := 12) dd_D_start_13 fr_D_41 h2 rfl ?_
  refine ev_ic (v := 2) dd_D_start_16 (by decide +kernel) ?_
  refine ev_iload_n dd_D_start_17 rfl ?_
  refine ev_imul dd_D_start_18 ?_
  rw [show (2 : Int32) * (Int32.ofNat l) = Int32.ofNat (2 * l) from ms_mul 2 l]
  refine ev_iload_n dd_D_start_19 rfl ?_
  refine ev_iadd dd_D_start_20 ?_
  rw [show (Int32.ofNat (2 * l)) + (Int32.ofNat e) = Int32.ofNat ((2 * l) + e) from nI_add (2 * l) e]
  refine R_ld (k := 12) (j := (2 * l) + e) dd_D_start_21 h2 rfl (show (2 * l) + e < 6 by omega) ?_
  refine ev_if_eq dd_D_start_22 (fun c3 => ?_) (fun c3 => ?_)
  · rw [if_pos c3]
    refine ev_ic (v := 2) dd_D_start_27 (by decide +kernel) ?_
    refine ev_iload_n dd_D_start_28 rfl ?_
    refine ev_imul dd_D_start_29 ?_
    rw [show (2 : Int32) * (Int32.ofNat l) = Int32.ofNat (2 * l) from ms_mul 2 l]
    refine ev_iload_n dd_D_start_30 rfl ?_
    refine ev_iadd dd_D_start_31 ?_
    rw [show (Int32.ofNat (2 * l)) + (Int32.ofNat e) = Int32.ofNat ((2 * l) + e) from nI_add (2 * l) e]
    refine ev_istore_n dd_D_start_32 (by decide) ?_
    refine ev_aload_n dd_D_start_33 rfl ?_
    refine ev_iload_n dd_D_start_34 rfl ?_
    refine ev_ic (v := 1) dd_D_start_35 (by decide +kernel) ?_
    refine ev_callvV2 [_, _] dd_D_start_36 ms_D_come iv_D_181 h2.ob h2.tg rfl (Nat.le_of_ble_eq_true rfl) (Nat.le_of_ble_eq_true rfl) (k_D_come (show (2 * l) + e < 6 by omega) 1 h2) (fun w4 h4 => ?_)
    refine ev_aload_n dd_D_start_39 rfl ?_
    refine R_gA (k := 14) dd_D_start_40 fr_D_47 h4 rfl ?_
    refine ev_iload_n dd_D_start_43 rfl ?_
    refine ev_dup2 dd_D_start_44 rfl rfl ?_
    refine R_ld (k := 14) (j := (2 * l) + e) dd_D_start_45 h4 rfl (show (2 * l) + e < 6 by omega) ?_
    refine ev_ic (v := 1) dd_D_start_46 (by decide +kernel) ?_
    refine ev_iadd dd_D_start_47 ?_
    refine R_st (k := 14) (j := (2 * l) + e) dd_D_start_48 h4 rfl (show (2 * l) + e < 6 by omega) (fun w5 h5 => ?_)
    refine ev_aload_n dd_D_start_49 rfl ?_
    refine ev_iload_n dd_D_start_50 rfl ?_
    refine ev_callvV2 [_] dd_D_start_51 ms_D_begin iv_D_153 h5.ob h5.tg rfl (Nat.le_of_ble_eq_true rfl) (Nat.le_of_ble_eq_true rfl) (k_D_begin (show (2 * l) + e < 6 by omega) h5) (fun w6 h6 => ?_)
    refine ev_ic (v := 1) dd_D_start_54 (by decide +kernel) ?_
    refine ev_iret dd_D_start_55 rfl rfl ?_
    exact ⟨rfl, h6⟩
  · rw [if_neg c3]
    refine ev_ic (v := 0) dd_D_start_25 (by decide +kernel) ?_
    refine ev_iret dd_D_start_26 rfl rfl ?_
    exact ⟨rfl, h2⟩
def rs_D_stop (D : rf_C) (l : Nat) (e : Nat) : Int32 × rf_C := (if ((rf_sI D 0 0 0).1 12 ((2 * l) + e)) = 0 then (0, rf_sI D 0 0 0) else (1, rs_D_fall (rf_sI D 0 0 0) ((2 * l) + e)))
theorem k_D_stop {l : Nat} {e : Nat} (hl : l < 3) (he : e < 2) (hu : rf_hu D (2 * l + e)) (h : rf_K G w D none F rf_Q0) : ev_E G mm_D_stop (d + 3) 0 (lv_args 0 [.ref (ev_b G + 77), .int (Int32.ofNat l), .int (Int32.ofNat e)]) [] w (rf_yi G F rf_Q0 none (rs_D_stop D l e)) := by
  unfold rs_D_stop
  refine ev_aload_n dd_D_stop_0 rfl ?_
  refine ev_iload_n dd_D_stop_1 rfl ?_
  refine ev_iload_n dd_D_stop_2 rfl ?_
  refine ev_callsI [_, _] dd_D_stop_3 ms_D_isSide is_D_173 rfl (Nat.le_of_ble_eq_true rfl) (Nat.le_of_ble_eq_true rfl) (k_D_isSide (Int32.ofNat l) (Int32.ofNat e)) ?_
  rw [rs_side1 hl he]
  refine ev_callvN2 [_] dd_D_stop_6 ms_D_missing iv_D_177 h.ob h.tg rfl (Nat.le_of_ble_eq_true rfl) (Nat.le_of_ble_eq_true rfl) (k_D_missing 1 h) (fun w2 h2 => ?_)
  rw [rs_mis1b] at h2
  rw [rs_mis1a]
  refine ev_if_ne dd_D_stop_9 (fun hc => absurd rfl hc) (fun _ => ?_)
  refine ev_aload_n dd_D_stop_12 rfl ?_
  refine R_gA (k := 12) dd_D_stop_13 fr_D_41 h2 rfl ?_
  refine ev_ic (v := 2) dd_D_stop_16 (by decide +kernel) ?_
  refine ev_iload_n dd_D_stop_17 rfl ?_
  refine ev_imul dd_D_stop_18 ?_
  rw [show (2 : Int32) * (Int32.ofNat l) = Int32.ofNat (2 * l) from ms_mul 2 l]
  refine ev_iload_n dd_D_stop_19 rfl ?_
  refine ev_iadd dd_D_stop_20 ?_
  rw [show (Int32.ofNat (2 * l)) + (Int32.ofNat e) = Int32.ofNat ((2 * l) + e) from nI_add (2 * l) e]
  refine R_ld (k := 12) (j := (2 * l) + e) dd_D_stop_21 h2 rfl (show (2 * l) + e < 6 by omega) ?_
  refine ev_if_ne dd_D_stop_22 (fun c3 => ?_) (fun c3 => ?_)
  · rw [if_neg c3]
    refine ev_aload_n dd_D_stop_27 rfl ?_
    refine ev_ic (v := 2) dd_D_stop_28 (by decide +kernel) ?_
    refine ev_iload_n dd_D_stop_29 rfl ?_
    refine ev_imul dd_D_stop_30 ?_
    rw [show (2 : Int32) * (Int32.ofNat l) = Int32.ofNat (2 * l) from ms_mul 2 l]
    refine ev_iload_n dd_D_stop_31 rfl ?_
    refine ev_iadd dd_D_stop_32 ?_
    rw [show (Int32.ofNat (2 * l)) + (Int32.ofNat e) = Int32.ofNat ((2 * l) + e) from nI_add (2 * l) e]
    refine ev_callvV2 [_] dd_D_stop_33 ms_D_fall iv_D_188 h2.ob h2.tg rfl (Nat.le_of_ble_eq_true rfl) (Nat.le_of_ble_eq_true rfl) (k_D_fall (D := rf_sI D 0 0 0) (show (2 * l) + e < 6 by omega) hu h2) (fun w4 h4 => ?_)
    refine ev_ic (v := 1) dd_D_stop_36 (by decide +kernel) ?_
    refine ev_iret dd_D_stop_37 rfl rfl ?_
    exact ⟨rfl, h4⟩
  · rw [if_pos c3]
    refine ev_ic (v := 0) dd_D_stop_25 (by decide +kernel) ?_
    refine ev_iret dd_D_stop_26 rfl rfl ?_
    exact ⟨rfl, h2⟩
def rs_D_state (D : rf_C) (l : Nat) (e : Nat) : Int32 × rf_C := ((rf_sI D 0 0 0).1 12 ((2 * l) + e), rf_sI D 0 0 0)
theorem k_D_state {l : Nat} {e : Nat} (hl : l < 3) (he : e < 2) (h : rf_K G w D none F rf_Q0) : ev_E G mm_D_state (d + 1) 0 (lv_args 0 [.ref (ev_b G + 77), .int (Int32.ofNat l), .int (Int32.ofNat e)]) [] w (rf_yi G F rf_Q0 none (rs_D_state D l e)) := by
  unfold rs_D_state
  refine ev_aload_n dd_D_state_0 rfl ?_
  refine ev_iload_n dd_D_state_1 rfl ?_
  refine ev_iload_n dd_D_state_2 rfl ?_
  refine ev_callsI [_, _] dd_D_state_3 ms_D_isSide is_D_173 rfl (Nat.le_of_ble_eq_true rfl) (Nat.le_of_ble_eq_true rfl) (k_D_isSide (Int32.ofNat l) (Int32.ofNat e)) ?_
  rw [rs_side1 hl he]
  refine ev_callvN2 [_] dd_D_state_6 ms_D_missing iv_D_177 h.ob h.tg rfl (Nat.le_of_ble_eq_true rfl) (Nat.le_of_ble_eq_true rfl) (k_D_missing 1 h) (fun w2 h2 => ?_)
  rw [rs_mis1b] at h2
  rw [rs_mis1a]
  refine ev_if_eq dd_D_state_9 (fun _ => ?_) (fun hc => absurd (by decide) hc)
  refine ev_aload_n dd_D_state_16 rfl ?_
  refine R_gA (k := 12) dd_D_state_17 fr_D_41 h2 rfl ?_
  refine ev_ic (v := 2) dd_D_state_20 (by decide +kernel) ?_
  refine ev_iload_n dd_D_state_21 rfl ?_
  refine ev_imul dd_D_state_22 ?_
  rw [show (2 : Int32) * (Int32.ofNat l) = Int32.ofNat (2 * l) from ms_mul 2 l]
  refine ev_iload_n dd_D_state_23 rfl ?_
  refine ev_iadd dd_D_state_24 ?_
  rw [show (Int32.ofNat (2 * l)) + (Int32.ofNat e) = Int32.ofNat ((2 * l) + e) from nI_add (2 * l) e]
  refine R_ld (k := 12) (j := (2 * l) + e) dd_D_state_25 h2 rfl (show (2 * l) + e < 6 by omega) ?_
  refine ev_iret dd_D_state_26 rfl rfl ?_
  exact ⟨rfl, h2⟩
def rs_D_changes (D : rf_C) (l : Nat) (e : Nat) : Int32 × rf_C := ((rf_sI D 0 0 0).1 42 ((2 * l) + e), rf_sI D 0 0 0)
theorem k_D_changes {l : Nat} {e : Nat} (hl : l < 3) (he : e < 2) (h : rf_K G w D none F rf_Q0) : ev_E G mm_D_changes (d + 1) 0 (lv_args 0 [.ref (ev_b G + 77), .int (Int32.ofNat l), .int (Int32.ofNat e)]) [] w (rf_yi G F rf_Q0 none (rs_D_changes D l e)) := by
  unfold rs_D_changes
  refine ev_aload_n dd_D_changes_0 rfl ?_
  refine ev_iload_n dd_D_changes_1 rfl ?_
  refine ev_iload_n dd_D_changes_2 rfl ?_
  refine ev_callsI [_, _] dd_D_changes_3 ms_D_isSide is_D_173 rfl (Nat.le_of_ble_eq_true rfl) (Nat.le_of_ble_eq_true rfl) (k_D_isSide (Int32.ofNat l) (Int32.ofNat e)) ?_
  rw [rs_side1 hl he]
  refine ev_callvN2 [_] dd_D_changes_6 ms_D_missing iv_D_177 h.ob h.tg rfl (Nat.le_of_ble_eq_true rfl) (Nat.le_of_ble_eq_true rfl) (k_D_missing 1 h) (fun w2 h2 => ?_)
  rw [rs_mis1b] at h2
  rw [rs_mis1a]
  refine ev_if_eq dd_D_changes_9 (fun _ => ?_) (fun hc => absurd (by decide) hc)
  refine ev_aload_n dd_D_changes_16 rfl ?_
  refine R_gA (k := 42) dd_D_changes_17 fr_D_132 h2 rfl ?_
  refine ev_ic (v := 2) dd_D_changes_20 (by decide +kernel) ?_
  refine ev_iload_n dd_D_changes_21 rfl ?_
  refine ev_imul dd_D_changes_22 ?_
  rw [show (2 : Int32) * (Int32.ofNat l) = Int32.ofNat (2 * l) from ms_mul 2 l]
  refine ev_iload_n dd_D_changes_23 rfl ?_
  refine ev_iadd dd_D_changes_24 ?_
  rw [show (Int32.ofNat (2 * l)) + (Int32.ofNat e) = Int32.ofNat ((2 * l) + e) from nI_add (2 * l) e]
  refine R_ld (k := 42) (j := (2 * l) + e) dd_D_changes_25 h2 rfl (show (2 * l) + e < 6 by omega) ?_
  refine ev_iret dd_D_changes_26 rfl rfl ?_
  exact ⟨rfl, h2⟩
def rs_D_link (D : rf_C) (e : Nat) (k : Nat) : Int32 × rf_C := ((rf_sI D 0 0 0).1 48 ((4 * e) + k), rf_sI D 0 0 0)
theorem k_D_link {e : Nat} {k : Nat} (he : e < 2) (hk : k < 4) (h : rf_K G w D none F rf_Q0) : ev_E G mm_D_link (d + 1) 0 (lv_args 0 [.ref (ev_b G + 77), .int (Int32.ofNat e), .int (Int32.ofNat k)]) [] w (rf_yi G F rf_Q0 none (rs_D_link D e k)) := by
  unfold rs_D_link
  refine ev_aload_n dd_D_link_0 rfl ?_
  refine ev_iload_n dd_D_link_1 rfl ?_
  refine ev_iload_n dd_D_link_2 rfl ?_
  refine ev_callsI [_, _] dd_D_link_3 ms_D_isClass is_D_261 rfl (Nat.le_of_ble_eq_true rfl) (Nat.le_of_ble_eq_true rfl) (k_D_isClass (Int32.ofNat e) (Int32.ofNat k)) ?_
  rw [rs_class1 he hk]
  refine ev_callvN2 [_] dd_D_link_6 ms_D_missing iv_D_177 h.ob h.tg rfl (Nat.le_of_ble_eq_true rfl) (Nat.le_of_ble_eq_true rfl) (k_D_missing 1 h) (fun w2 h2 => ?_)
  rw [rs_mis1b] at h2
  rw [rs_mis1a]
  refine ev_if_eq dd_D_link_9 (fun _ => ?_) (fun hc => absurd (by decide) hc)
  refine ev_aload_n dd_D_link_16 rfl ?_
  refine R_gA (k := 48) dd_D_link_17 fr_D_150 h2 rfl ?_
  refine ev_ic (v := 4) dd_D_link_20 (by decide +kernel) ?_
  refine ev_iload_n dd_D_link_21 rfl ?_
  refine ev_imul dd_D_link_22 ?_
  rw [show (4 : Int32) * (Int32.ofNat e) = Int32.ofNat (4 * e) from ms_mul 4 e]
  refine ev_iload_n dd_D_link_23 rfl ?_
  refine ev_iadd dd_D_link_24 ?_
  rw [show (Int32.ofNat (4 * e)) + (Int32.ofNat k) = Int32.ofNat ((4 * e) + k) from nI_add (4 * e) k]
  refine R_ld (k := 48) (j := (4 * e) + k) dd_D_link_25 h2 rfl (show (4 * e) + k < 8 by omega) ?_
  refine ev_iret dd_D_link_26 rfl rfl ?_
  exact ⟨rfl, h2⟩
def rs_D_held (D : rf_C) (e : Nat) : Int32 × rf_C := (Int32.ofNat ((rf_sI D 0 0 0).2 (18 + e)).length, rf_sI D 0 0 0)
theorem k_D_held {e : Nat} (he : e < 2) (h : rf_K G w D none F rf_Q0) : ev_E G mm_D_held (d + 1) 0 (lv_args 0 [.ref (ev_b G + 77), .int (Int32.ofNat e)]) [] w (rf_yi G F rf_Q0 none (rs_D_held D e)) := by
  unfold rs_D_held
  refine ev_aload_n dd_D_held_0 rfl ?_
  refine ev_iload_n dd_D_held_1 rfl ?_
  refine ev_callsI [_] dd_D_held_2 ms_D_isEnd is_D_267 rfl (Nat.le_of_ble_eq_true rfl) (Nat.le_of_ble_eq_true rfl) (k_D_isEnd (Int32.ofNat e)) ?_
  rw [rs_end1 he]
  refine ev_callvN2 [_] dd_D_held_5 ms_D_missing iv_D_177 h.ob h.tg rfl (Nat.le_of_ble_eq_true rfl) (Nat.le_of_ble_eq_true rfl) (k_D_missing 1 h) (fun w2 h2 => ?_)
  rw [rs_mis1b] at h2
  rw [rs_mis1a]
  refine ev_if_eq dd_D_held_8 (fun _ => ?_) (fun hc => absurd (by decide) hc)
  refine ev_aload_n dd_D_held_15 rfl ?_
  refine R_gA (k := 11) dd_D_held_16 fr_D_38 h2 rfl ?_
  refine ev_bp (v := 18) dd_D_held_19 (by decide +kernel) ?_
  refine ev_iload_n dd_D_held_21 rfl ?_
  refine ev_iadd dd_D_held_22 ?_
  rw [show (18 : Int32) + (Int32.ofNat e) = Int32.ofNat (18 + e) from nI_add 18 e]
  refine R_sz (r := 18 + e) dd_D_held_23 h2 (show 18 + e < 22 by omega) ?_
  refine ev_iret dd_D_held_24 rfl rfl ?_
  exact ⟨rfl, h2⟩
def rs_D_inbox (D : rf_C) (e : Nat) : Int32 × rf_C := (Int32.ofNat ((rf_sI D 0 0 0).2 (20 + e)).length, rf_sI D 0 0 0)
theorem k_D_inbox {e : Nat} (he : e < 2) (h : rf_K G w D none F rf_Q0) : ev_E G mm_D_inbox (d + 1) 0 (lv_args 0 [.ref (ev_b G + 77), .int (Int32.ofNat e)]) [] w (rf_yi G F rf_Q0 none (rs_D_inbox D e)) := by
  unfold rs_D_inbox
  refine ev_aload_n dd_D_inbox_0 rfl ?_
  refine ev_iload_n dd_D_inbox_1 rfl ?_
  refine ev_callsI [_] dd_D_inbox_2 ms_D_isEnd is_D_267 rfl (Nat.le_of_ble_eq_true rfl) (Nat.le_of_ble_eq_true rfl) (k_D_isEnd (Int32.ofNat e)) ?_
  rw [rs_end1 he]
  refine ev_callvN2 [_] dd_D_inbox_5 ms_D_missing iv_D_177 h.ob h.tg rfl (Nat.le_of_ble_eq_true rfl) (Nat.le_of_ble_eq_true rfl) (k_D_missing 1 h) (fun w2 h2 => ?_)
  rw [rs_mis1b] at h2
  rw [rs_mis1a]
  refine ev_if_eq dd_D_inbox_8 (fun _ => ?_) (fun hc => absurd (by decide) hc)
  refine ev_aload_n dd_D_inbox_15 rfl ?_
  refine R_gA (k := 11) dd_D_inbox_16 fr_D_38 h2 rfl ?_
  refine ev_bp (v := 20) dd_D_inbox_19 (by decide +kernel) ?_
  refine ev_iload_n dd_D_inbox_21 rfl ?_
  refine ev_iadd dd_D_inbox_22 ?_
  rw [show (20 : Int32) + (Int32.ofNat e) = Int32.ofNat (20 + e) from nI_add 20 e]
  refine R_sz (r := 20 + e) dd_D_inbox_23 h2 (show 20 + e < 22 by omega) ?_
  refine ev_iret dd_D_inbox_24 rfl rfl ?_
  exact ⟨rfl, h2⟩
def rs_D_lost (D : rf_C)  : Int32 × rf_C := ((rf_sI D 0 0 0).1 49 0, rf_sI D 0 0 0)
theorem k_D_lost (h : rf_K G w D none F rf_Q0) : ev_E G mm_D_lost d 0 (lv_args 0 [.ref (ev_b G + 77)]) [] w (rf_yi G F rf_Q0 none (rs_D_lost D )) := by
  unfold rs_D_lost
  refine ev_aload_n dd_D_lost_0 rfl ?_
  refine ev_ic (v := 0) dd_D_lost_1 (by decide +kernel) ?_
  refine R_pI (k := 0) dd_D_lost_2 fk_D_157 h rfl (by decide) rfl rfl (fun w1 h1 => ?_)
  refine ev_aload_n dd_D_lost_5 rfl ?_
  refine R_gI (k := 49) dd_D_lost_6 fr_D_200 h1 rfl (by decide) ?_
  refine ev_iret dd_D_lost_9 rfl rfl ?_
  exact ⟨rfl, h1⟩
def rs_D_thrown (D : rf_C)  : Int32 × rf_C := (D.1 0 0, D)
theorem k_D_thrown (h : rf_K G w D none F rf_Q0) : ev_E G mm_D_thrown d 0 (lv_args 0 [.ref (ev_b G + 77)]) [] w (rf_yi G F rf_Q0 none (rs_D_thrown D )) := by
  unfold rs_D_thrown
  refine ev_aload_n dd_D_thrown_0 rfl ?_
  refine R_gI (k := 0) dd_D_thrown_1 fr_D_157 h rfl (by decide) ?_
  refine ev_iret dd_D_thrown_4 rfl rfl ?_
  exact ⟨rfl, h⟩
def rs_D_fault (D : rf_C) (l : Nat) (e : Nat) (x : Int32) (y : Int32) : rf_C := (if x < 0 then (rf_sI D 0 0 2) else (if 2 < x then (rf_sI D 0 0 2) else (if y < 0 then (rf_sI D 0 0 2) else (if y ≤ 99 then (rf_sI (rf_sI (rf_sI D 0 0 0) 30 ((2 * l) + e) x) 31 ((2 * l) + e) y) else (rf_sI D 0 0 2)))))
theorem k_D_fault {l : Nat} {e : Nat} (hl : l < 3) (he : e < 2) (x : Int32) (y : Int32) (h : rf_K G w D none F rf_Q0) : ev_E G mm_D_fault (d + 1) 0 (lv_args 0 [.ref (ev_b G + 77), .int (Int32.ofNat l), .int (Int32.ofNat e), .int x, .int y]) [] w (rf_yv G F rf_Q0 none (rs_D_fault D l e x y)) := by
  unfold rs_D_fault
  refine ev_aload_n dd_D_fault_0 rfl ?_
  refine ev_iload_n dd_D_fault_1 rfl ?_
  refine ev_iload_n dd_D_fault_2 rfl ?_
  refine ev_callsI [_, _] dd_D_fault_3 ms_D_isSide is_D_173 rfl (Nat.le_of_ble_eq_true rfl) (Nat.le_of_ble_eq_true rfl) (k_D_isSide (Int32.ofNat l) (Int32.ofNat e)) ?_
  rw [rs_side1 hl he]
  refine ev_if_ne dd_D_fault_6 (fun _ => ?_) (fun hc => absurd hc (by decide))
  refine ev_iload_n dd_D_fault_13 rfl ?_
  refine ev_if_lt dd_D_fault_14 (fun c2 => ?_) (fun c2 => ?_)
  · rw [if_pos c2]
    refine ev_ic (v := 2) dd_D_fault_34 (by decide +kernel) ?_
    refine ev_goto dd_D_fault_35 ?_
    refine R_pI (k := 0) dd_D_fault_39 fk_D_157 h rfl (by decide) rfl rfl (fun w3 h3 => ?_)
    refine ev_aload_n dd_D_fault_42 rfl ?_
    refine R_gI (k := 0) dd_D_fault_43 fr_D_157 h3 rfl (by decide) ?_
    rw [rf_sI_at D 0 0 2]
    refine ev_if_ne dd_D_fault_46 (fun _ => ?_) (fun hc => absurd hc (by decide))
    refine ev_vret dd_D_fault_72 rfl ?_
    exact ⟨rfl, h3⟩
  · rw [if_neg c2]
    refine ev_iload_n dd_D_fault_17 rfl ?_
    refine ev_ic (v := 2) dd_D_fault_18 (by decide +kernel) ?_
    refine ev_icmp_gt dd_D_fault_19 (fun c4 => ?_) (fun c4 => ?_)
    · rw [if_pos c4]
      refine ev_ic (v := 2) dd_D_fault_34 (by decide +kernel) ?_
      refine ev_goto dd_D_fault_35 ?_
      refine R_pI (k := 0) dd_D_fault_39 fk_D_157 h rfl (by decide) rfl rfl (fun w5 h5 => ?_)
      refine ev_aload_n dd_D_fault_42 rfl ?_
      refine R_gI (k := 0) dd_D_fault_43 fr_D_157 h5 rfl (by decide) ?_
      rw [rf_sI_at D 0 0 2]
      refine ev_if_ne dd_D_fault_46 (fun _ => ?_) (fun hc => absurd hc (by decide))
      refine ev_vret dd_D_fault_72 rfl ?_
      exact ⟨rfl, h5⟩
    · rw [if_neg c4]
      refine ev_iload dd_D_fault_22 rfl ?_
      refine ev_if_lt dd_D_fault_24 (fun c6 => ?_) (fun c6 => ?_)
      · rw [if_pos c6]
        refine ev_ic (v := 2) dd_D_fault_34 (by decide +kernel) ?_
        refine ev_goto dd_D_fault_35 ?_
        refine R_pI (k := 0) dd_D_fault_39 fk_D_157 h rfl (by decide) rfl rfl (fun w7 h7 => ?_)
        refine ev_aload_n dd_D_fault_42 rfl ?_
        refine R_gI (k := 0) dd_D_fault_43 fr_D_157 h7 rfl (by decide) ?_
        rw [rf_sI_at D 0 0 2]
        refine ev_if_ne dd_D_fault_46 (fun _ => ?_) (fun hc => absurd hc (by decide))
        refine ev_vret dd_D_fault_72 rfl ?_
        exact ⟨rfl, h7⟩
      · rw [if_neg c6]
        refine ev_iload dd_D_fault_27 rfl ?_
        refine ev_bp (v := 99) dd_D_fault_29 (by decide +kernel) ?_
        refine ev_icmp_le dd_D_fault_31 (fun c8 => ?_) (fun c8 => ?_)
        · rw [if_pos c8]
          refine ev_ic (v := 0) dd_D_fault_38 (by decide +kernel) ?_
          refine R_pI (k := 0) dd_D_fault_39 fk_D_157 h rfl (by decide) rfl rfl (fun w9 h9 => ?_)
          refine ev_aload_n dd_D_fault_42 rfl ?_
          refine R_gI (k := 0) dd_D_fault_43 fr_D_157 h9 rfl (by decide) ?_
          rw [rf_sI_at D 0 0 0]
          refine ev_if_ne dd_D_fault_46 (fun hc => absurd rfl hc) (fun _ => ?_)
          refine ev_aload_n dd_D_fault_49 rfl ?_
          refine R_gA (k := 30) dd_D_fault_50 fr_D_96 h9 rfl ?_
          refine ev_ic (v := 2) dd_D_fault_53 (by decide +kernel) ?_
          refine ev_iload_n dd_D_fault_54 rfl ?_
          refine ev_imul dd_D_fault_55 ?_
          rw [show (2 : Int32) * (Int32.ofNat l) = Int32.ofNat (2 * l) from ms_mul 2 l]
          refine ev_iload_n dd_D_fault_56 rfl ?_
          refine ev_iadd dd_D_fault_57 ?_
          rw [show (Int32.ofNat (2 * l)) + (Int32.ofNat e) = Int32.ofNat ((2 * l) + e) from nI_add (2 * l) e]
          refine ev_iload_n dd_D_fault_58 rfl ?_
          refine R_st (k := 30) (j := (2 * l) + e) dd_D_fault_59 h9 rfl (show (2 * l) + e < 6 by omega) (fun w10 h10 => ?_)
          refine ev_aload_n dd_D_fault_60 rfl ?_
          refine R_gA (k := 31) dd_D_fault_61 fr_D_99 h10 rfl ?_
          refine ev_ic (v := 2) dd_D_fault_64 (by decide +kernel) ?_
          refine ev_iload_n dd_D_fault_65 rfl ?_
          refine ev_imul dd_D_fault_66 ?_
          rw [show (2 : Int32) * (Int32.ofNat l) = Int32.ofNat (2 * l) from ms_mul 2 l]
          refine ev_iload_n dd_D_fault_67 rfl ?_
          refine ev_iadd dd_D_fault_68 ?_
          rw [show (Int32.ofNat (2 * l)) + (Int32.ofNat e) = Int32.ofNat ((2 * l) + e) from nI_add (2 * l) e]
          refine ev_iload dd_D_fault_69 rfl ?_
          refine R_st (k := 31) (j := (2 * l) + e) dd_D_fault_71 h10 rfl (show (2 * l) + e < 6 by omega) (fun w11 h11 => ?_)
          refine ev_vret dd_D_fault_72 rfl ?_
          exact ⟨rfl, h11⟩
        · rw [if_neg c8]
          refine ev_ic (v := 2) dd_D_fault_34 (by decide +kernel) ?_
          refine ev_goto dd_D_fault_35 ?_
          refine R_pI (k := 0) dd_D_fault_39 fk_D_157 h rfl (by decide) rfl rfl (fun w12 h12 => ?_)
          refine ev_aload_n dd_D_fault_42 rfl ?_
          refine R_gI (k := 0) dd_D_fault_43 fr_D_157 h12 rfl (by decide) ?_
          rw [rf_sI_at D 0 0 2]
          refine ev_if_ne dd_D_fault_46 (fun _ => ?_) (fun hc => absurd hc (by decide))
          refine ev_vret dd_D_fault_72 rfl ?_
          exact ⟨rfl, h12⟩
def rs_D_of0 (D : rf_C) (l : Nat) (e : Nat) : Int32 × rf_C := ((rf_sI D 0 0 0).1 13 ((2 * l) + e), rf_sI D 0 0 0)
theorem k_D_of0 {l : Nat} {e : Nat} (hl : l < 3) (he : e < 2) (h : rf_K G w D none F rf_Q0) : ev_E G mm_D_of (d + 1) 0 [(0, .ref (ev_b G + 77)), (1, .int (Int32.ofNat l)), (2, .int (Int32.ofNat e)), (3, .int 0)] [] w (rf_yi G F rf_Q0 none (rs_D_of0 D l e)) := by
  unfold rs_D_of0
  refine ev_aload_n dd_D_of_0 rfl ?_
  refine ev_iload_n dd_D_of_1 rfl ?_
  refine ev_iload_n dd_D_of_2 rfl ?_
  refine ev_callsI [_, _] dd_D_of_3 ms_D_isSide is_D_173 rfl (Nat.le_of_ble_eq_true rfl) (Nat.le_of_ble_eq_true rfl) (k_D_isSide (Int32.ofNat l) (Int32.ofNat e)) ?_
  rw [rs_side1 hl he]
  refine ev_if_eq dd_D_of_6 (fun hc => absurd hc (by decide)) (fun _ => ?_)
  refine ev_iload_n dd_D_of_9 rfl ?_
  refine ev_if_lt dd_D_of_10 (fun hc => absurd hc (by decide)) (fun _ => ?_)
  refine ev_iload_n dd_D_of_13 rfl ?_
  refine ev_bp (v := 13) dd_D_of_14 (by decide +kernel) ?_
  refine ev_icmp_ge dd_D_of_16 (fun hc => absurd hc (by decide)) (fun _ => ?_)
  refine ev_ic (v := 1) dd_D_of_19 (by decide +kernel) ?_
  refine ev_goto dd_D_of_20 ?_
  refine ev_callvN2 [_] dd_D_of_24 ms_D_missing iv_D_177 h.ob h.tg rfl (Nat.le_of_ble_eq_true rfl) (Nat.le_of_ble_eq_true rfl) (k_D_missing 1 h) (fun w2 h2 => ?_)
  rw [rs_mis1b] at h2
  rw [rs_mis1a]
  refine ev_if_eq dd_D_of_27 (fun _ => ?_) (fun hc => absurd (by decide) hc)
  refine ev_ic (v := 2) dd_D_of_32 (by decide +kernel) ?_
  refine ev_iload_n dd_D_of_33 rfl ?_
  refine ev_imul dd_D_of_34 ?_
  rw [show (2 : Int32) * (Int32.ofNat l) = Int32.ofNat (2 * l) from ms_mul 2 l]
  refine ev_iload_n dd_D_of_35 rfl ?_
  refine ev_iadd dd_D_of_36 ?_
  rw [show (Int32.ofNat (2 * l)) + (Int32.ofNat e) = Int32.ofNat ((2 * l) + e) from nI_add (2 * l) e]
  refine ev_istore dd_D_of_37 (by decide) ?_
  refine ev_iload_n dd_D_of_39 rfl ?_
  refine ev_tableIn (off := 64) dd_D_of_40 (by decide) (by decide) rfl (tgt := 104) rfl ?_
  refine ev_aload_n dd_D_of_104 rfl ?_
  refine R_gA (k := 13) dd_D_of_105 fr_D_44 h2 rfl ?_
  refine ev_iload dd_D_of_108 rfl ?_
  refine R_ld (k := 13) (j := (2 * l) + e) dd_D_of_110 h2 rfl (show (2 * l) + e < 6 by omega) ?_
  refine ev_iret dd_D_of_111 rfl rfl ?_
  exact ⟨rfl, h2⟩
def rs_D_of1 (D : rf_C) (l : Nat) (e : Nat) : Int32 × rf_C := ((rf_sI D 0 0 0).1 21 ((2 * l) + e), rf_sI D 0 0 0)
theorem k_D_of1 {l : Nat} {e : Nat} (hl : l < 3) (he : e < 2) (h : rf_K G w D none F rf_Q0) : ev_E G mm_D_of (d + 1) 0 [(0, .ref (ev_b G + 77)), (1, .int (Int32.ofNat l)), (2, .int (Int32.ofNat e)), (3, .int 1)] [] w (rf_yi G F rf_Q0 none (rs_D_of1 D l e)) := by
  unfold rs_D_of1
  refine ev_aload_n dd_D_of_0 rfl ?_
  refine ev_iload_n dd_D_of_1 rfl ?_
  refine ev_iload_n dd_D_of_2 rfl ?_
  refine ev_callsI [_, _] dd_D_of_3 ms_D_isSide is_D_173 rfl (Nat.le_of_ble_eq_true rfl) (Nat.le_of_ble_eq_true rfl) (k_D_isSide (Int32.ofNat l) (Int32.ofNat e)) ?_
  rw [rs_side1 hl he]
  refine ev_if_eq dd_D_of_6 (fun hc => absurd hc (by decide)) (fun _ => ?_)
  refine ev_iload_n dd_D_of_9 rfl ?_
  refine ev_if_lt dd_D_of_10 (fun hc => absurd hc (by decide)) (fun _ => ?_)
  refine ev_iload_n dd_D_of_13 rfl ?_
  refine ev_bp (v := 13) dd_D_of_14 (by decide +kernel) ?_
  refine ev_icmp_ge dd_D_of_16 (fun hc => absurd hc (by decide)) (fun _ => ?_)
  refine ev_ic (v := 1) dd_D_of_19 (by decide +kernel) ?_
  refine ev_goto dd_D_of_20 ?_
  refine ev_callvN2 [_] dd_D_of_24 ms_D_missing iv_D_177 h.ob h.tg rfl (Nat.le_of_ble_eq_true rfl) (Nat.le_of_ble_eq_true rfl) (k_D_missing 1 h) (fun w2 h2 => ?_)
  rw [rs_mis1b] at h2
  rw [rs_mis1a]
  refine ev_if_eq dd_D_of_27 (fun _ => ?_) (fun hc => absurd (by decide) hc)
  refine ev_ic (v := 2) dd_D_of_32 (by decide +kernel) ?_
  refine ev_iload_n dd_D_of_33 rfl ?_
  refine ev_imul dd_D_of_34 ?_
  rw [show (2 : Int32) * (Int32.ofNat l) = Int32.ofNat (2 * l) from ms_mul 2 l]
  refine ev_iload_n dd_D_of_35 rfl ?_
  refine ev_iadd dd_D_of_36 ?_
  rw [show (Int32.ofNat (2 * l)) + (Int32.ofNat e) = Int32.ofNat ((2 * l) + e) from nI_add (2 * l) e]
  refine ev_istore dd_D_of_37 (by decide) ?_
  refine ev_iload_n dd_D_of_39 rfl ?_
  refine ev_tableIn (off := 72) dd_D_of_40 (by decide) (by decide) rfl (tgt := 112) rfl ?_
  refine ev_aload_n dd_D_of_112 rfl ?_
  refine R_gA (k := 21) dd_D_of_113 fr_D_69 h2 rfl ?_
  refine ev_iload dd_D_of_116 rfl ?_
  refine R_ld (k := 21) (j := (2 * l) + e) dd_D_of_118 h2 rfl (show (2 * l) + e < 6 by omega) ?_
  refine ev_iret dd_D_of_119 rfl rfl ?_
  exact ⟨rfl, h2⟩
def rs_D_of2 (D : rf_C) (l : Nat) (e : Nat) : Int32 × rf_C := ((rf_sI D 0 0 0).1 22 ((2 * l) + e), rf_sI D 0 0 0)
theorem k_D_of2 {l : Nat} {e : Nat} (hl : l < 3) (he : e < 2) (h : rf_K G w D none F rf_Q0) : ev_E G mm_D_of (d + 1) 0 [(0, .ref (ev_b G + 77)), (1, .int (Int32.ofNat l)), (2, .int (Int32.ofNat e)), (3, .int 2)] [] w (rf_yi G F rf_Q0 none (rs_D_of2 D l e)) := by
  unfold rs_D_of2
  refine ev_aload_n dd_D_of_0 rfl ?_
  refine ev_iload_n dd_D_of_1 rfl ?_
  refine ev_iload_n dd_D_of_2 rfl ?_
  refine ev_callsI [_, _] dd_D_of_3 ms_D_isSide is_D_173 rfl (Nat.le_of_ble_eq_true rfl) (Nat.le_of_ble_eq_true rfl) (k_D_isSide (Int32.ofNat l) (Int32.ofNat e)) ?_
  rw [rs_side1 hl he]
  refine ev_if_eq dd_D_of_6 (fun hc => absurd hc (by decide)) (fun _ => ?_)
  refine ev_iload_n dd_D_of_9 rfl ?_
  refine ev_if_lt dd_D_of_10 (fun hc => absurd hc (by decide)) (fun _ => ?_)
  refine ev_iload_n dd_D_of_13 rfl ?_
  refine ev_bp (v := 13) dd_D_of_14 (by decide +kernel) ?_
  refine ev_icmp_ge dd_D_of_16 (fun hc => absurd hc (by decide)) (fun _ => ?_)
  refine ev_ic (v := 1) dd_D_of_19 (by decide +kernel) ?_
  refine ev_goto dd_D_of_20 ?_
  refine ev_callvN2 [_] dd_D_of_24 ms_D_missing iv_D_177 h.ob h.tg rfl (Nat.le_of_ble_eq_true rfl) (Nat.le_of_ble_eq_true rfl) (k_D_missing 1 h) (fun w2 h2 => ?_)
  rw [rs_mis1b] at h2
  rw [rs_mis1a]
  refine ev_if_eq dd_D_of_27 (fun _ => ?_) (fun hc => absurd (by decide) hc)
  refine ev_ic (v := 2) dd_D_of_32 (by decide +kernel) ?_
  refine ev_iload_n dd_D_of_33 rfl ?_
  refine ev_imul dd_D_of_34 ?_
  rw [show (2 : Int32) * (Int32.ofNat l) = Int32.ofNat (2 * l) from ms_mul 2 l]
  refine ev_iload_n dd_D_of_35 rfl ?_
  refine ev_iadd dd_D_of_36 ?_
  rw [show (Int32.ofNat (2 * l)) + (Int32.ofNat e) = Int32.ofNat ((2 * l) + e) from nI_add (2 * l) e]
  refine ev_istore dd_D_of_37 (by decide) ?_
  refine ev_iload_n dd_D_of_39 rfl ?_
  refine ev_tableIn (off := 80) dd_D_of_40 (by decide) (by decide) rfl (tgt := 120) rfl ?_
  refine ev_aload_n dd_D_of_120 rfl ?_
  refine R_gA (k := 22) dd_D_of_121 fr_D_72 h2 rfl ?_
  refine ev_iload dd_D_of_124 rfl ?_
  refine R_ld (k := 22) (j := (2 * l) + e) dd_D_of_126 h2 rfl (show (2 * l) + e < 6 by omega) ?_
  refine ev_iret dd_D_of_127 rfl rfl ?_
  exact ⟨rfl, h2⟩
def rs_D_of3 (D : rf_C) (l : Nat) (e : Nat) : Int32 × rf_C := ((rf_sI D 0 0 0).1 23 ((2 * l) + e), rf_sI D 0 0 0)
theorem k_D_of3 {l : Nat} {e : Nat} (hl : l < 3) (he : e < 2) (h : rf_K G w D none F rf_Q0) : ev_E G mm_D_of (d + 1) 0 [(0, .ref (ev_b G + 77)), (1, .int (Int32.ofNat l)), (2, .int (Int32.ofNat e)), (3, .int 3)] [] w (rf_yi G F rf_Q0 none (rs_D_of3 D l e)) := by
  unfold rs_D_of3
  refine ev_aload_n dd_D_of_0 rfl ?_
  refine ev_iload_n dd_D_of_1 rfl ?_
  refine ev_iload_n dd_D_of_2 rfl ?_
  refine ev_callsI [_, _] dd_D_of_3 ms_D_isSide is_D_173 rfl (Nat.le_of_ble_eq_true rfl) (Nat.le_of_ble_eq_true rfl) (k_D_isSide (Int32.ofNat l) (Int32.ofNat e)) ?_
  rw [rs_side1 hl he]
  refine ev_if_eq dd_D_of_6 (fun hc => absurd hc (by decide)) (fun _ => ?_)
  refine ev_iload_n dd_D_of_9 rfl ?_
  refine ev_if_lt dd_D_of_10 (fun hc => absurd hc (by decide)) (fun _ => ?_)
  refine ev_iload_n dd_D_of_13 rfl ?_
  refine ev_bp (v := 13) dd_D_of_14 (by decide +kernel) ?_
  refine ev_icmp_ge dd_D_of_16 (fun hc => absurd hc (by decide)) (fun _ => ?_)
  refine ev_ic (v := 1) dd_D_of_19 (by decide +kernel) ?_
  refine ev_goto dd_D_of_20 ?_
  refine ev_callvN2 [_] dd_D_of_24 ms_D_missing iv_D_177 h.ob h.tg rfl (Nat.le_of_ble_eq_true rfl) (Nat.le_of_ble_eq_true rfl) (k_D_missing 1 h) (fun w2 h2 => ?_)
  rw [rs_mis1b] at h2
  rw [rs_mis1a]
  refine ev_if_eq dd_D_of_27 (fun _ => ?_) (fun hc => absurd (by decide) hc)
  refine ev_ic (v := 2) dd_D_of_32 (by decide +kernel) ?_
  refine ev_iload_n dd_D_of_33 rfl ?_
  refine ev_imul dd_D_of_34 ?_
  rw [show (2 : Int32) * (Int32.ofNat l) = Int32.ofNat (2 * l) from ms_mul 2 l]
  refine ev_iload_n dd_D_of_35 rfl ?_
  refine ev_iadd dd_D_of_36 ?_
  rw [show (Int32.ofNat (2 * l)) + (Int32.ofNat e) = Int32.ofNat ((2 * l) + e) from nI_add (2 * l) e]
  refine ev_istore dd_D_of_37 (by decide) ?_
  refine ev_iload_n dd_D_of_39 rfl ?_
  refine ev_tableIn (off := 88) dd_D_of_40 (by decide) (by decide) rfl (tgt := 128) rfl ?_
  refine ev_aload_n dd_D_of_128 rfl ?_
  refine R_gA (k := 23) dd_D_of_129 fr_D_75 h2 rfl ?_
  refine ev_iload dd_D_of_132 rfl ?_
  refine R_ld (k := 23) (j := (2 * l) + e) dd_D_of_134 h2 rfl (show (2 * l) + e < 6 by omega) ?_
  refine ev_iret dd_D_of_135 rfl rfl ?_
  exact ⟨rfl, h2⟩
def rs_D_of4 (D : rf_C) (l : Nat) (e : Nat) : Int32 × rf_C := ((rf_sI D 0 0 0).1 25 ((2 * l) + e), rf_sI D 0 0 0)
theorem k_D_of4 {l : Nat} {e : Nat} (hl : l < 3) (he : e < 2) (h : rf_K G w D none F rf_Q0) : ev_E G mm_D_of (d + 1) 0 [(0, .ref (ev_b G + 77)), (1, .int (Int32.ofNat l)), (2, .int (Int32.ofNat e)), (3, .int 4)] [] w (rf_yi G F rf_Q0 none (rs_D_of4 D l e)) := by
  unfold rs_D_of4
  refine ev_aload_n dd_D_of_0 rfl ?_
  refine ev_iload_n dd_D_of_1 rfl ?_
  refine ev_iload_n dd_D_of_2 rfl ?_
  refine ev_callsI [_, _] dd_D_of_3 ms_D_isSide is_D_173 rfl (Nat.le_of_ble_eq_true rfl) (Nat.le_of_ble_eq_true rfl) (k_D_isSide (Int32.ofNat l) (Int32.ofNat e)) ?_
  rw [rs_side1 hl he]
  refine ev_if_eq dd_D_of_6 (fun hc => absurd hc (by decide)) (fun _ => ?_)
  refine ev_iload_n dd_D_of_9 rfl ?_
  refine ev_if_lt dd_D_of_10 (fun hc => absurd hc (by decide)) (fun _ => ?_)
  refine ev_iload_n dd_D_of_13 rfl ?_
  refine ev_bp (v := 13) dd_D_of_14 (by decide +kernel) ?_
  refine ev_icmp_ge dd_D_of_16 (fun hc => absurd hc (by decide)) (fun _ => ?_)
  refine ev_ic (v := 1) dd_D_of_19 (by decide +kernel) ?_
  refine ev_goto dd_D_of_20 ?_
  refine ev_callvN2 [_] dd_D_of_24 ms_D_missing iv_D_177 h.ob h.tg rfl (Nat.le_of_ble_eq_true rfl) (Nat.le_of_ble_eq_true rfl) (k_D_missing 1 h) (fun w2 h2 => ?_)
  rw [rs_mis1b] at h2
  rw [rs_mis1a]
  refine ev_if_eq dd_D_of_27 (fun _ => ?_) (fun hc => absurd (by decide) hc)
  refine ev_ic (v := 2) dd_D_of_32 (by decide +kernel) ?_
  refine ev_iload_n dd_D_of_33 rfl ?_
  refine ev_imul dd_D_of_34 ?_
  rw [show (2 : Int32) * (Int32.ofNat l) = Int32.ofNat (2 * l) from ms_mul 2 l]
  refine ev_iload_n dd_D_of_35 rfl ?_
  refine ev_iadd dd_D_of_36 ?_
  rw [show (Int32.ofNat (2 * l)) + (Int32.ofNat e) = Int32.ofNat ((2 * l) + e) from nI_add (2 * l) e]
  refine ev_istore dd_D_of_37 (by decide) ?_
  refine ev_iload_n dd_D_of_39 rfl ?_
  refine ev_tableIn (off := 96) dd_D_of_40 (by decide) (by decide) rfl (tgt := 136) rfl ?_
  refine ev_aload_n dd_D_of_136 rfl ?_
  refine R_gA (k := 25) dd_D_of_137 fr_D_81 h2 rfl ?_
  refine ev_iload dd_D_of_140 rfl ?_
  refine R_ld (k := 25) (j := (2 * l) + e) dd_D_of_142 h2 rfl (show (2 * l) + e < 6 by omega) ?_
  refine ev_iret dd_D_of_143 rfl rfl ?_
  exact ⟨rfl, h2⟩
def rs_D_of5 (D : rf_C) (l : Nat) (e : Nat) : Int32 × rf_C := ((rf_sI D 0 0 0).1 17 ((2 * l) + e), rf_sI D 0 0 0)
theorem k_D_of5 {l : Nat} {e : Nat} (hl : l < 3) (he : e < 2) (h : rf_K G w D none F rf_Q0) : ev_E G mm_D_of (d + 1) 0 [(0, .ref (ev_b G + 77)), (1, .int (Int32.ofNat l)), (2, .int (Int32.ofNat e)), (3, .int 5)] [] w (rf_yi G F rf_Q0 none (rs_D_of5 D l e)) := by
  unfold rs_D_of5
  refine ev_aload_n dd_D_of_0 rfl ?_
  refine ev_iload_n dd_D_of_1 rfl ?_
  refine ev_iload_n dd_D_of_2 rfl ?_
  refine ev_callsI [_, _] dd_D_of_3 ms_D_isSide is_D_173 rfl (Nat.le_of_ble_eq_true rfl) (Nat.le_of_ble_eq_true rfl) (k_D_isSide (Int32.ofNat l) (Int32.ofNat e)) ?_
  rw [rs_side1 hl he]
  refine ev_if_eq dd_D_of_6 (fun hc => absurd hc (by decide)) (fun _ => ?_)
  refine ev_iload_n dd_D_of_9 rfl ?_
  refine ev_if_lt dd_D_of_10 (fun hc => absurd hc (by decide)) (fun _ => ?_)
  refine ev_iload_n dd_D_of_13 rfl ?_
  refine ev_bp (v := 13) dd_D_of_14 (by decide +kernel) ?_
  refine ev_icmp_ge dd_D_of_16 (fun hc => absurd hc (by decide)) (fun _ => ?_)
  refine ev_ic (v := 1) dd_D_of_19 (by decide +kernel) ?_
  refine ev_goto dd_D_of_20 ?_
  refine ev_callvN2 [_] dd_D_of_24 ms_D_missing iv_D_177 h.ob h.tg rfl (Nat.le_of_ble_eq_true rfl) (Nat.le_of_ble_eq_true rfl) (k_D_missing 1 h) (fun w2 h2 => ?_)
  rw [rs_mis1b] at h2
  rw [rs_mis1a]
  refine ev_if_eq dd_D_of_27 (fun _ => ?_) (fun hc => absurd (by decide) hc)
  refine ev_ic (v := 2) dd_D_of_32 (by decide +kernel) ?_
  refine ev_iload_n dd_D_of_33 rfl ?_
  refine ev_imul dd_D_of_34 ?_
  rw [show (2 : Int32) * (Int32.ofNat l) = Int32.ofNat (2 * l) from ms_mul 2 l]
  refine ev_iload_n dd_D_of_35 rfl ?_
  refine ev_iadd dd_D_of_36 ?_
  rw [show (Int32.ofNat (2 * l)) + (Int32.ofNat e) = Int32.ofNat ((2 * l) + e) from nI_add (2 * l) e]
  refine ev_istore dd_D_of_37 (by decide) ?_
  refine ev_iload_n dd_D_of_39 rfl ?_
  refine ev_tableIn (off := 104) dd_D_of_40 (by decide) (by decide) rfl (tgt := 144) rfl ?_
  refine ev_aload_n dd_D_of_144 rfl ?_
  refine R_gA (k := 17) dd_D_of_145 fr_D_57 h2 rfl ?_
  refine ev_iload dd_D_of_148 rfl ?_
  refine R_ld (k := 17) (j := (2 * l) + e) dd_D_of_150 h2 rfl (show (2 * l) + e < 6 by omega) ?_
  refine ev_iret dd_D_of_151 rfl rfl ?_
  exact ⟨rfl, h2⟩
def rs_D_of6 (D : rf_C) (l : Nat) (e : Nat) : Int32 × rf_C := ((rf_sI D 0 0 0).1 18 ((2 * l) + e), rf_sI D 0 0 0)
theorem k_D_of6 {l : Nat} {e : Nat} (hl : l < 3) (he : e < 2) (h : rf_K G w D none F rf_Q0) : ev_E G mm_D_of (d + 1) 0 [(0, .ref (ev_b G + 77)), (1, .int (Int32.ofNat l)), (2, .int (Int32.ofNat e)), (3, .int 6)] [] w (rf_yi G F rf_Q0 none (rs_D_of6 D l e)) := by
  unfold rs_D_of6
  refine ev_aload_n dd_D_of_0 rfl ?_
  refine ev_iload_n dd_D_of_1 rfl ?_
  refine ev_iload_n dd_D_of_2 rfl ?_
  refine ev_callsI [_, _] dd_D_of_3 ms_D_isSide is_D_173 rfl (Nat.le_of_ble_eq_true rfl) (Nat.le_of_ble_eq_true rfl) (k_D_isSide (Int32.ofNat l) (Int32.ofNat e)) ?_
  rw [rs_side1 hl he]
  refine ev_if_eq dd_D_of_6 (fun hc => absurd hc (by decide)) (fun _ => ?_)
  refine ev_iload_n dd_D_of_9 rfl ?_
  refine ev_if_lt dd_D_of_10 (fun hc => absurd hc (by decide)) (fun _ => ?_)
  refine ev_iload_n dd_D_of_13 rfl ?_
  refine ev_bp (v := 13) dd_D_of_14 (by decide +kernel) ?_
  refine ev_icmp_ge dd_D_of_16 (fun hc => absurd hc (by decide)) (fun _ => ?_)
  refine ev_ic (v := 1) dd_D_of_19 (by decide +kernel) ?_
  refine ev_goto dd_D_of_20 ?_
  refine ev_callvN2 [_] dd_D_of_24 ms_D_missing iv_D_177 h.ob h.tg rfl (Nat.le_of_ble_eq_true rfl) (Nat.le_of_ble_eq_true rfl) (k_D_missing 1 h) (fun w2 h2 => ?_)
  rw [rs_mis1b] at h2
  rw [rs_mis1a]
  refine ev_if_eq dd_D_of_27 (fun _ => ?_) (fun hc => absurd (by decide) hc)
  refine ev_ic (v := 2) dd_D_of_32 (by decide +kernel) ?_
  refine ev_iload_n dd_D_of_33 rfl ?_
  refine ev_imul dd_D_of_34 ?_
  rw [show (2 : Int32) * (Int32.ofNat l) = Int32.ofNat (2 * l) from ms_mul 2 l]
  refine ev_iload_n dd_D_of_35 rfl ?_
  refine ev_iadd dd_D_of_36 ?_
  rw [show (Int32.ofNat (2 * l)) + (Int32.ofNat e) = Int32.ofNat ((2 * l) + e) from nI_add (2 * l) e]
  refine ev_istore dd_D_of_37 (by decide) ?_
  refine ev_iload_n dd_D_of_39 rfl ?_
  refine ev_tableIn (off := 112) dd_D_of_40 (by decide) (by decide) rfl (tgt := 152) rfl ?_
  refine ev_aload_n dd_D_of_152 rfl ?_
  refine R_gA (k := 18) dd_D_of_153 fr_D_60 h2 rfl ?_
  refine ev_iload dd_D_of_156 rfl ?_
  refine R_ld (k := 18) (j := (2 * l) + e) dd_D_of_158 h2 rfl (show (2 * l) + e < 6 by omega) ?_
  refine ev_iret dd_D_of_159 rfl rfl ?_
  exact ⟨rfl, h2⟩
def rs_D_of7 (D : rf_C) (l : Nat) (e : Nat) : Int32 × rf_C := ((rf_sI D 0 0 0).1 19 ((2 * l) + e), rf_sI D 0 0 0)
theorem k_D_of7 {l : Nat} {e : Nat} (hl : l < 3) (he : e < 2) (h : rf_K G w D none F rf_Q0) : ev_E G mm_D_of (d + 1) 0 [(0, .ref (ev_b G + 77)), (1, .int (Int32.ofNat l)), (2, .int (Int32.ofNat e)), (3, .int 7)] [] w (rf_yi G F rf_Q0 none (rs_D_of7 D l e)) := by
  unfold rs_D_of7
  refine ev_aload_n dd_D_of_0 rfl ?_
  refine ev_iload_n dd_D_of_1 rfl ?_
  refine ev_iload_n dd_D_of_2 rfl ?_
  refine ev_callsI [_, _] dd_D_of_3 ms_D_isSide is_D_173 rfl (Nat.le_of_ble_eq_true rfl) (Nat.le_of_ble_eq_true rfl) (k_D_isSide (Int32.ofNat l) (Int32.ofNat e)) ?_
  rw [rs_side1 hl he]
  refine ev_if_eq dd_D_of_6 (fun hc => absurd hc (by decide)) (fun _ => ?_)
  refine ev_iload_n dd_D_of_9 rfl ?_
  refine ev_if_lt dd_D_of_10 (fun hc => absurd hc (by decide)) (fun _ => ?_)
  refine ev_iload_n dd_D_of_13 rfl ?_
  refine ev_bp (v := 13) dd_D_of_14 (by decide +kernel) ?_
  refine ev_icmp_ge dd_D_of_16 (fun hc => absurd hc (by decide)) (fun _ => ?_)
  refine ev_ic (v := 1) dd_D_of_19 (by decide +kernel) ?_
  refine ev_goto dd_D_of_20 ?_
  refine ev_callvN2 [_] dd_D_of_24 ms_D_missing iv_D_177 h.ob h.tg rfl (Nat.le_of_ble_eq_true rfl) (Nat.le_of_ble_eq_true rfl) (k_D_missing 1 h) (fun w2 h2 => ?_)
  rw [rs_mis1b] at h2
  rw [rs_mis1a]
  refine ev_if_eq dd_D_of_27 (fun _ => ?_) (fun hc => absurd (by decide) hc)
  refine ev_ic (v := 2) dd_D_of_32 (by decide +kernel) ?_
  refine ev_iload_n dd_D_of_33 rfl ?_
  refine ev_imul dd_D_of_34 ?_
  rw [show (2 : Int32) * (Int32.ofNat l) = Int32.ofNat (2 * l) from ms_mul 2 l]
  refine ev_iload_n dd_D_of_35 rfl ?_
  refine ev_iadd dd_D_of_36 ?_
  rw [show (Int32.ofNat (2 * l)) + (Int32.ofNat e) = Int32.ofNat ((2 * l) + e) from nI_add (2 * l) e]
  refine ev_istore dd_D_of_37 (by decide) ?_
  refine ev_iload_n dd_D_of_39 rfl ?_
  refine ev_tableIn (off := 120) dd_D_of_40 (by decide) (by decide) rfl (tgt := 160) rfl ?_
  refine ev_aload_n dd_D_of_160 rfl ?_
  refine R_gA (k := 19) dd_D_of_161 fr_D_63 h2 rfl ?_
  refine ev_iload dd_D_of_164 rfl ?_
  refine R_ld (k := 19) (j := (2 * l) + e) dd_D_of_166 h2 rfl (show (2 * l) + e < 6 by omega) ?_
  refine ev_iret dd_D_of_167 rfl rfl ?_
  exact ⟨rfl, h2⟩
def rs_D_of8 (D : rf_C) (l : Nat) (e : Nat) : Int32 × rf_C := ((rf_sI D 0 0 0).1 20 ((2 * l) + e), rf_sI D 0 0 0)
theorem k_D_of8 {l : Nat} {e : Nat} (hl : l < 3) (he : e < 2) (h : rf_K G w D none F rf_Q0) : ev_E G mm_D_of (d + 1) 0 [(0, .ref (ev_b G + 77)), (1, .int (Int32.ofNat l)), (2, .int (Int32.ofNat e)), (3, .int 8)] [] w (rf_yi G F rf_Q0 none (rs_D_of8 D l e)) := by
  unfold rs_D_of8
  refine ev_aload_n dd_D_of_0 rfl ?_
  refine ev_iload_n dd_D_of_1 rfl ?_
  refine ev_iload_n dd_D_of_2 rfl ?_
  refine ev_callsI [_, _] dd_D_of_3 ms_D_isSide is_D_173 rfl (Nat.le_of_ble_eq_true rfl) (Nat.le_of_ble_eq_true rfl) (k_D_isSide (Int32.ofNat l) (Int32.ofNat e)) ?_
  rw [rs_side1 hl he]
  refine ev_if_eq dd_D_of_6 (fun hc => absurd hc (by decide)) (fun _ => ?_)
  refine ev_iload_n dd_D_of_9 rfl ?_
  refine ev_if_lt dd_D_of_10 (fun hc => absurd hc (by decide)) (fun _ => ?_)
  refine ev_iload_n dd_D_of_13 rfl ?_
  refine ev_bp (v := 13) dd_D_of_14 (by decide +kernel) ?_
  refine ev_icmp_ge dd_D_of_16 (fun hc => absurd hc (by decide)) (fun _ => ?_)
  refine ev_ic (v := 1) dd_D_of_19 (by decide +kernel) ?_
  refine ev_goto dd_D_of_20 ?_
  refine ev_callvN2 [_] dd_D_of_24 ms_D_missing iv_D_177 h.ob h.tg rfl (Nat.le_of_ble_eq_true rfl) (Nat.le_of_ble_eq_true rfl) (k_D_missing 1 h) (fun w2 h2 => ?_)
  rw [rs_mis1b] at h2
  rw [rs_mis1a]
  refine ev_if_eq dd_D_of_27 (fun _ => ?_) (fun hc => absurd (by decide) hc)
  refine ev_ic (v := 2) dd_D_of_32 (by decide +kernel) ?_
  refine ev_iload_n dd_D_of_33 rfl ?_
  refine ev_imul dd_D_of_34 ?_
  rw [show (2 : Int32) * (Int32.ofNat l) = Int32.ofNat (2 * l) from ms_mul 2 l]
  refine ev_iload_n dd_D_of_35 rfl ?_
  refine ev_iadd dd_D_of_36 ?_
  rw [show (Int32.ofNat (2 * l)) + (Int32.ofNat e) = Int32.ofNat ((2 * l) + e) from nI_add (2 * l) e]
  refine ev_istore dd_D_of_37 (by decide) ?_
  refine ev_iload_n dd_D_of_39 rfl ?_
  refine ev_tableIn (off := 128) dd_D_of_40 (by decide) (by decide) rfl (tgt := 168) rfl ?_
  refine ev_aload_n dd_D_of_168 rfl ?_
  refine R_gA (k := 20) dd_D_of_169 fr_D_66 h2 rfl ?_
  refine ev_iload dd_D_of_172 rfl ?_
  refine R_ld (k := 20) (j := (2 * l) + e) dd_D_of_174 h2 rfl (show (2 * l) + e < 6 by omega) ?_
  refine ev_iret dd_D_of_175 rfl rfl ?_
  exact ⟨rfl, h2⟩
def rs_D_of9 (D : rf_C) (l : Nat) (e : Nat) : Int32 × rf_C := (Int32.ofNat ((rf_sI D 0 0 0).2 ((2 * l) + e)).length, rf_sI D 0 0 0)
theorem k_D_of9 {l : Nat} {e : Nat} (hl : l < 3) (he : e < 2) (h : rf_K G w D none F rf_Q0) : ev_E G mm_D_of (d + 1) 0 [(0, .ref (ev_b G + 77)), (1, .int (Int32.ofNat l)), (2, .int (Int32.ofNat e)), (3, .int 9)] [] w (rf_yi G F rf_Q0 none (rs_D_of9 D l e)) := by
  unfold rs_D_of9
  refine ev_aload_n dd_D_of_0 rfl ?_
  refine ev_iload_n dd_D_of_1 rfl ?_
  refine ev_iload_n dd_D_of_2 rfl ?_
  refine ev_callsI [_, _] dd_D_of_3 ms_D_isSide is_D_173 rfl (Nat.le_of_ble_eq_true rfl) (Nat.le_of_ble_eq_true rfl) (k_D_isSide (Int32.ofNat l) (Int32.ofNat e)) ?_
  rw [rs_side1 hl he]
  refine ev_if_eq dd_D_of_6 (fun hc => absurd hc (by decide)) (fun _ => ?_)
  refine ev_iload_n dd_D_of_9 rfl ?_
  refine ev_if_lt dd_D_of_10 (fun hc => absurd hc (by decide)) (fun _ => ?_)
  refine ev_iload_n dd_D_of_13 rfl ?_
  refine ev_bp (v := 13) dd_D_of_14 (by decide +kernel) ?_
  refine ev_icmp_ge dd_D_of_16 (fun hc => absurd hc (by decide)) (fun _ => ?_)
  refine ev_ic (v := 1) dd_D_of_19 (by decide +kernel) ?_
  refine ev_goto dd_D_of_20 ?_
  refine ev_callvN2 [_] dd_D_of_24 ms_D_missing iv_D_177 h.ob h.tg rfl (Nat.le_of_ble_eq_true rfl) (Nat.le_of_ble_eq_true rfl) (k_D_missing 1 h) (fun w2 h2 => ?_)
  rw [rs_mis1b] at h2
  rw [rs_mis1a]
  refine ev_if_eq dd_D_of_27 (fun _ => ?_) (fun hc => absurd (by decide) hc)
  refine ev_ic (v := 2) dd_D_of_32 (by decide +kernel) ?_
  refine ev_iload_n dd_D_of_33 rfl ?_
  refine ev_imul dd_D_of_34 ?_
  rw [show (2 : Int32) * (Int32.ofNat l) = Int32.ofNat (2 * l) from ms_mul 2 l]
  refine ev_iload_n dd_D_of_35 rfl ?_
  refine ev_iadd dd_D_of_36 ?_
  rw [show (Int32.ofNat (2 * l)) + (Int32.ofNat e) = Int32.ofNat ((2 * l) + e) from nI_add (2 * l) e]
  refine ev_istore dd_D_of_37 (by decide) ?_
  refine ev_iload_n dd_D_of_39 rfl ?_
  refine ev_tableIn (off := 136) dd_D_of_40 (by decide) (by decide) rfl (tgt := 176) rfl ?_
  refine ev_aload_n dd_D_of_176 rfl ?_
  refine R_gA (k := 11) dd_D_of_177 fr_D_38 h2 rfl ?_
  refine ev_iload dd_D_of_180 rfl ?_
  refine R_sz (r := (2 * l) + e) dd_D_of_182 h2 (show (2 * l) + e < 22 by omega) ?_
  refine ev_iret dd_D_of_183 rfl rfl ?_
  exact ⟨rfl, h2⟩
def rs_D_of10 (D : rf_C) (l : Nat) (e : Nat) : Int32 × rf_C := (Int32.ofNat ((rf_sI D 0 0 0).2 (6 + ((2 * l) + e))).length, rf_sI D 0 0 0)
theorem k_D_of10 {l : Nat} {e : Nat} (hl : l < 3) (he : e < 2) (h : rf_K G w D none F rf_Q0) : ev_E G mm_D_of (d + 1) 0 [(0, .ref (ev_b G + 77)), (1, .int (Int32.ofNat l)), (2, .int (Int32.ofNat e)), (3, .int 10)] [] w (rf_yi G F rf_Q0 none (rs_D_of10 D l e)) := by
  unfold rs_D_of10
  refine ev_aload_n dd_D_of_0 rfl ?_
  refine ev_iload_n dd_D_of_1 rfl ?_
  refine ev_iload_n dd_D_of_2 rfl ?_
  refine ev_callsI [_, _] dd_D_of_3 ms_D_isSide is_D_173 rfl (Nat.le_of_ble_eq_true rfl) (Nat.le_of_ble_eq_true rfl) (k_D_isSide (Int32.ofNat l) (Int32.ofNat e)) ?_
  rw [rs_side1 hl he]
  refine ev_if_eq dd_D_of_6 (fun hc => absurd hc (by decide)) (fun _ => ?_)
  refine ev_iload_n dd_D_of_9 rfl ?_
  refine ev_if_lt dd_D_of_10 (fun hc => absurd hc (by decide)) (fun _ => ?_)
  refine ev_iload_n dd_D_of_13 rfl ?_
  refine ev_bp (v := 13) dd_D_of_14 (by decide +kernel) ?_
  refine ev_icmp_ge dd_D_of_16 (fun hc => absurd hc (by decide)) (fun _ => ?_)
  refine ev_ic (v := 1) dd_D_of_19 (by decide +kernel) ?_
  refine ev_goto dd_D_of_20 ?_
  refine ev_callvN2 [_] dd_D_of_24 ms_D_missing iv_D_177 h.ob h.tg rfl (Nat.le_of_ble_eq_true rfl) (Nat.le_of_ble_eq_true rfl) (k_D_missing 1 h) (fun w2 h2 => ?_)
  rw [rs_mis1b] at h2
  rw [rs_mis1a]
  refine ev_if_eq dd_D_of_27 (fun _ => ?_) (fun hc => absurd (by decide) hc)
  refine ev_ic (v := 2) dd_D_of_32 (by decide +kernel) ?_
  refine ev_iload_n dd_D_of_33 rfl ?_
  refine ev_imul dd_D_of_34 ?_
  rw [show (2 : Int32) * (Int32.ofNat l) = Int32.ofNat (2 * l) from ms_mul 2 l]
  refine ev_iload_n dd_D_of_35 rfl ?_
  refine ev_iadd dd_D_of_36 ?_
  rw [show (Int32.ofNat (2 * l)) + (Int32.ofNat e) = Int32.ofNat ((2 * l) + e) from nI_add (2 * l) e]
  refine ev_istore dd_D_of_37 (by decide) ?_
  refine ev_iload_n dd_D_of_39 rfl ?_
  refine ev_tableIn (off := 144) dd_D_of_40 (by decide) (by decide) rfl (tgt := 184) rfl ?_
  refine ev_aload_n dd_D_of_184 rfl ?_
  refine R_gA (k := 11) dd_D_of_185 fr_D_38 h2 rfl ?_
  refine ev_bp (v := 6) dd_D_of_188 (by decide +kernel) ?_
  refine ev_iload dd_D_of_190 rfl ?_
  refine ev_iadd dd_D_of_192 ?_
  rw [show (6 : Int32) + (Int32.ofNat ((2 * l) + e)) = Int32.ofNat (6 + ((2 * l) + e)) from nI_add 6 ((2 * l) + e)]
  refine R_sz (r := 6 + ((2 * l) + e)) dd_D_of_193 h2 (show 6 + ((2 * l) + e) < 22 by omega) ?_
  refine ev_iret dd_D_of_194 rfl rfl ?_
  exact ⟨rfl, h2⟩
def rs_D_of11 (D : rf_C) (l : Nat) (e : Nat) : Int32 × rf_C := ((rf_sI D 0 0 0).1 14 ((2 * l) + e), rf_sI D 0 0 0)
theorem k_D_of11 {l : Nat} {e : Nat} (hl : l < 3) (he : e < 2) (h : rf_K G w D none F rf_Q0) : ev_E G mm_D_of (d + 1) 0 [(0, .ref (ev_b G + 77)), (1, .int (Int32.ofNat l)), (2, .int (Int32.ofNat e)), (3, .int 11)] [] w (rf_yi G F rf_Q0 none (rs_D_of11 D l e)) := by
  unfold rs_D_of11
  refine ev_aload_n dd_D_of_0 rfl ?_
  refine ev_iload_n dd_D_of_1 rfl ?_
  refine ev_iload_n dd_D_of_2 rfl ?_
  refine ev_callsI [_, _] dd_D_of_3 ms_D_isSide is_D_173 rfl (Nat.le_of_ble_eq_true rfl) (Nat.le_of_ble_eq_true rfl) (k_D_isSide (Int32.ofNat l) (Int32.ofNat e)) ?_
  rw [rs_side1 hl he]
  refine ev_if_eq dd_D_of_6 (fun hc => absurd hc (by decide)) (fun _ => ?_)
  refine ev_iload_n dd_D_of_9 rfl ?_
  refine ev_if_lt dd_D_of_10 (fun hc => absurd hc (by decide)) (fun _ => ?_)
  refine ev_iload_n dd_D_of_13 rfl ?_
  refine ev_bp (v := 13) dd_D_of_14 (by decide +kernel) ?_
  refine ev_icmp_ge dd_D_of_16 (fun hc => absurd hc (by decide)) (fun _ => ?_)
  refine ev_ic (v := 1) dd_D_of_19 (by decide +kernel) ?_
  refine ev_goto dd_D_of_20 ?_
  refine ev_callvN2 [_] dd_D_of_24 ms_D_missing iv_D_177 h.ob h.tg rfl (Nat.le_of_ble_eq_true rfl) (Nat.le_of_ble_eq_true rfl) (k_D_missing 1 h) (fun w2 h2 => ?_)
  rw [rs_mis1b] at h2
  rw [rs_mis1a]
  refine ev_if_eq dd_D_of_27 (fun _ => ?_) (fun hc => absurd (by decide) hc)
  refine ev_ic (v := 2) dd_D_of_32 (by decide +kernel) ?_
  refine ev_iload_n dd_D_of_33 rfl ?_
  refine ev_imul dd_D_of_34 ?_
  rw [show (2 : Int32) * (Int32.ofNat l) = Int32.ofNat (2 * l) from ms_mul 2 l]
  refine ev_iload_n dd_D_of_35 rfl ?_
  refine ev_iadd dd_D_of_36 ?_
  rw [show (Int32.ofNat (2 * l)) + (Int32.ofNat e) = Int32.ofNat ((2 * l) + e) from nI_add (2 * l) e]
  refine ev_istore dd_D_of_37 (by decide) ?_
  refine ev_iload_n dd_D_of_39 rfl ?_
  refine ev_tableIn (off := 155) dd_D_of_40 (by decide) (by decide) rfl (tgt := 195) rfl ?_
  refine ev_aload_n dd_D_of_195 rfl ?_
  refine R_gA (k := 14) dd_D_of_196 fr_D_47 h2 rfl ?_
  refine ev_iload dd_D_of_199 rfl ?_
  refine R_ld (k := 14) (j := (2 * l) + e) dd_D_of_201 h2 rfl (show (2 * l) + e < 6 by omega) ?_
  refine ev_iret dd_D_of_202 rfl rfl ?_
  exact ⟨rfl, h2⟩
def rs_D_of12 (D : rf_C) (l : Nat) (e : Nat) : Int32 × rf_C := ((rf_sI D 0 0 0).1 15 ((2 * l) + e), rf_sI D 0 0 0)
theorem k_D_of12 {l : Nat} {e : Nat} (hl : l < 3) (he : e < 2) (h : rf_K G w D none F rf_Q0) : ev_E G mm_D_of (d + 1) 0 [(0, .ref (ev_b G + 77)), (1, .int (Int32.ofNat l)), (2, .int (Int32.ofNat e)), (3, .int 12)] [] w (rf_yi G F rf_Q0 none (rs_D_of12 D l e)) := by
  unfold rs_D_of12
  refine ev_aload_n dd_D_of_0 rfl ?_
  refine ev_iload_n dd_D_of_1 rfl ?_
  refine ev_iload_n dd_D_of_2 rfl ?_
  refine ev_callsI [_, _] dd_D_of_3 ms_D_isSide is_D_173 rfl (Nat.le_of_ble_eq_true rfl) (Nat.le_of_ble_eq_true rfl) (k_D_isSide (Int32.ofNat l) (Int32.ofNat e)) ?_
  rw [rs_side1 hl he]
  refine ev_if_eq dd_D_of_6 (fun hc => absurd hc (by decide)) (fun _ => ?_)
  refine ev_iload_n dd_D_of_9 rfl ?_
  refine ev_if_lt dd_D_of_10 (fun hc => absurd hc (by decide)) (fun _ => ?_)
  refine ev_iload_n dd_D_of_13 rfl ?_
  refine ev_bp (v := 13) dd_D_of_14 (by decide +kernel) ?_
  refine ev_icmp_ge dd_D_of_16 (fun hc => absurd hc (by decide)) (fun _ => ?_)
  refine ev_ic (v := 1) dd_D_of_19 (by decide +kernel) ?_
  refine ev_goto dd_D_of_20 ?_
  refine ev_callvN2 [_] dd_D_of_24 ms_D_missing iv_D_177 h.ob h.tg rfl (Nat.le_of_ble_eq_true rfl) (Nat.le_of_ble_eq_true rfl) (k_D_missing 1 h) (fun w2 h2 => ?_)
  rw [rs_mis1b] at h2
  rw [rs_mis1a]
  refine ev_if_eq dd_D_of_27 (fun _ => ?_) (fun hc => absurd (by decide) hc)
  refine ev_ic (v := 2) dd_D_of_32 (by decide +kernel) ?_
  refine ev_iload_n dd_D_of_33 rfl ?_
  refine ev_imul dd_D_of_34 ?_
  rw [show (2 : Int32) * (Int32.ofNat l) = Int32.ofNat (2 * l) from ms_mul 2 l]
  refine ev_iload_n dd_D_of_35 rfl ?_
  refine ev_iadd dd_D_of_36 ?_
  rw [show (Int32.ofNat (2 * l)) + (Int32.ofNat e) = Int32.ofNat ((2 * l) + e) from nI_add (2 * l) e]
  refine ev_istore dd_D_of_37 (by decide) ?_
  refine ev_iload_n dd_D_of_39 rfl ?_
  refine ev_tableOut dd_D_of_40 (by decide) (tgt := 203) rfl ?_
  refine ev_aload_n dd_D_of_203 rfl ?_
  refine R_gA (k := 15) dd_D_of_204 fr_D_50 h2 rfl ?_
  refine ev_iload dd_D_of_207 rfl ?_
  refine R_ld (k := 15) (j := (2 * l) + e) dd_D_of_209 h2 rfl (show (2 * l) + e < 6 by omega) ?_
  refine ev_iret dd_D_of_210 rfl rfl ?_
  exact ⟨rfl, h2⟩
def rs_D_start_no (D : rf_C) (x : Int32) (y : Int32) : Int32 × rf_C := (0, rf_sI D 0 0 1)
theorem k_D_start_no (x : Int32) (y : Int32) (hno : rs_D_isSide x y = 0) (h : rf_K G w D none F rf_Q0) : ev_E G mm_D_start (d + 3) 0 [(0, .ref (ev_b G + 77)), (1, .int x), (2, .int y)] [] w (rf_yi G F rf_Q0 none (rs_D_start_no D x y)) := by
  unfold rs_D_start_no
  refine ev_aload_n dd_D_start_0 rfl ?_
  refine ev_iload_n dd_D_start_1 rfl ?_
  refine ev_iload_n dd_D_start_2 rfl ?_
  refine ev_callsI [_, _] dd_D_start_3 ms_D_isSide is_D_173 rfl (Nat.le_of_ble_eq_true rfl) (Nat.le_of_ble_eq_true rfl) (k_D_isSide x y) ?_
  rw [hno]
  refine ev_callvN2 [_] dd_D_start_6 ms_D_missing iv_D_177 h.ob h.tg rfl (Nat.le_of_ble_eq_true rfl) (Nat.le_of_ble_eq_true rfl) (k_D_missing 0 h) (fun w2 h2 => ?_)
  rw [rs_mis0b] at h2
  rw [rs_mis0a]
  refine ev_if_ne dd_D_start_9 (fun _ => ?_) (fun hc => absurd hc (by decide))
  refine ev_ic (v := 0) dd_D_start_25 (by decide +kernel) ?_
  refine ev_iret dd_D_start_26 rfl rfl ?_
  exact ⟨rfl, h2⟩
def rs_D_stop_no (D : rf_C) (x : Int32) (y : Int32) : Int32 × rf_C := (0, rf_sI D 0 0 1)
theorem k_D_stop_no (x : Int32) (y : Int32) (hno : rs_D_isSide x y = 0) (h : rf_K G w D none F rf_Q0) : ev_E G mm_D_stop (d + 3) 0 [(0, .ref (ev_b G + 77)), (1, .int x), (2, .int y)] [] w (rf_yi G F rf_Q0 none (rs_D_stop_no D x y)) := by
  unfold rs_D_stop_no
  refine ev_aload_n dd_D_stop_0 rfl ?_
  refine ev_iload_n dd_D_stop_1 rfl ?_
  refine ev_iload_n dd_D_stop_2 rfl ?_
  refine ev_callsI [_, _] dd_D_stop_3 ms_D_isSide is_D_173 rfl (Nat.le_of_ble_eq_true rfl) (Nat.le_of_ble_eq_true rfl) (k_D_isSide x y) ?_
  rw [hno]
  refine ev_callvN2 [_] dd_D_stop_6 ms_D_missing iv_D_177 h.ob h.tg rfl (Nat.le_of_ble_eq_true rfl) (Nat.le_of_ble_eq_true rfl) (k_D_missing 0 h) (fun w2 h2 => ?_)
  rw [rs_mis0b] at h2
  rw [rs_mis0a]
  refine ev_if_ne dd_D_stop_9 (fun _ => ?_) (fun hc => absurd hc (by decide))
  refine ev_ic (v := 0) dd_D_stop_25 (by decide +kernel) ?_
  refine ev_iret dd_D_stop_26 rfl rfl ?_
  exact ⟨rfl, h2⟩
def rs_D_state_no (D : rf_C) (x : Int32) (y : Int32) : Int32 × rf_C := (0, rf_sI D 0 0 1)
theorem k_D_state_no (x : Int32) (y : Int32) (hno : rs_D_isSide x y = 0) (h : rf_K G w D none F rf_Q0) : ev_E G mm_D_state (d + 3) 0 [(0, .ref (ev_b G + 77)), (1, .int x), (2, .int y)] [] w (rf_yi G F rf_Q0 none (rs_D_state_no D x y)) := by
  unfold rs_D_state_no
  refine ev_aload_n dd_D_state_0 rfl ?_
  refine ev_iload_n dd_D_state_1 rfl ?_
  refine ev_iload_n dd_D_state_2 rfl ?_
  refine ev_callsI [_, _] dd_D_state_3 ms_D_isSide is_D_173 rfl (Nat.le_of_ble_eq_true rfl) (Nat.le_of_ble_eq_true rfl) (k_D_isSide x y) ?_
  rw [hno]
  refine ev_callvN2 [_] dd_D_state_6 ms_D_missing iv_D_177 h.ob h.tg rfl (Nat.le_of_ble_eq_true rfl) (Nat.le_of_ble_eq_true rfl) (k_D_missing 0 h) (fun w2 h2 => ?_)
  rw [rs_mis0b] at h2
  rw [rs_mis0a]
  refine ev_if_eq dd_D_state_9 (fun hc => absurd hc (by decide)) (fun _ => ?_)
  refine ev_ic (v := 0) dd_D_state_12 (by decide +kernel) ?_
  refine ev_goto dd_D_state_13 ?_
  refine ev_iret dd_D_state_26 rfl rfl ?_
  exact ⟨rfl, h2⟩
def rs_D_changes_no (D : rf_C) (x : Int32) (y : Int32) : Int32 × rf_C := (0, rf_sI D 0 0 1)
theorem k_D_changes_no (x : Int32) (y : Int32) (hno : rs_D_isSide x y = 0) (h : rf_K G w D none F rf_Q0) : ev_E G mm_D_changes (d + 3) 0 [(0, .ref (ev_b G + 77)), (1, .int x), (2, .int y)] [] w (rf_yi G F rf_Q0 none (rs_D_changes_no D x y)) := by
  unfold rs_D_changes_no
  refine ev_aload_n dd_D_changes_0 rfl ?_
  refine ev_iload_n dd_D_changes_1 rfl ?_
  refine ev_iload_n dd_D_changes_2 rfl ?_
  refine ev_callsI [_, _] dd_D_changes_3 ms_D_isSide is_D_173 rfl (Nat.le_of_ble_eq_true rfl) (Nat.le_of_ble_eq_true rfl) (k_D_isSide x y) ?_
  rw [hno]
  refine ev_callvN2 [_] dd_D_changes_6 ms_D_missing iv_D_177 h.ob h.tg rfl (Nat.le_of_ble_eq_true rfl) (Nat.le_of_ble_eq_true rfl) (k_D_missing 0 h) (fun w2 h2 => ?_)
  rw [rs_mis0b] at h2
  rw [rs_mis0a]
  refine ev_if_eq dd_D_changes_9 (fun hc => absurd hc (by decide)) (fun _ => ?_)
  refine ev_ic (v := 0) dd_D_changes_12 (by decide +kernel) ?_
  refine ev_goto dd_D_changes_13 ?_
  refine ev_iret dd_D_changes_26 rfl rfl ?_
  exact ⟨rfl, h2⟩
def rs_D_of_no (D : rf_C) (x : Int32) (y : Int32) (z : Int32) : Int32 × rf_C := (0, rf_sI D 0 0 1)
theorem k_D_of_no (x : Int32) (y : Int32) (z : Int32) (hno : rs_D_isSide x y = 0) (h : rf_K G w D none F rf_Q0) : ev_E G mm_D_of (d + 3) 0 [(0, .ref (ev_b G + 77)), (1, .int x), (2, .int y), (3, .int z)] [] w (rf_yi G F rf_Q0 none (rs_D_of_no D x y z)) := by
  unfold rs_D_of_no
  refine ev_aload_n dd_D_of_0 rfl ?_
  refine ev_iload_n dd_D_of_1 rfl ?_
  refine ev_iload_n dd_D_of_2 rfl ?_
  refine ev_callsI [_, _] dd_D_of_3 ms_D_isSide is_D_173 rfl (Nat.le_of_ble_eq_true rfl) (Nat.le_of_ble_eq_true rfl) (k_D_isSide x y) ?_
  rw [hno]
  refine ev_if_eq dd_D_of_6 (fun _ => ?_) (fun hc => absurd (by decide) hc)
  refine ev_ic (v := 0) dd_D_of_23 (by decide +kernel) ?_
  refine ev_callvN2 [_] dd_D_of_24 ms_D_missing iv_D_177 h.ob h.tg rfl (Nat.le_of_ble_eq_true rfl) (Nat.le_of_ble_eq_true rfl) (k_D_missing 0 h) (fun w2 h2 => ?_)
  rw [rs_mis0b] at h2
  rw [rs_mis0a]
  refine ev_if_eq dd_D_of_27 (fun hc => absurd hc (by decide)) (fun _ => ?_)
  refine ev_ic (v := 0) dd_D_of_30 (by decide +kernel) ?_
  refine ev_iret dd_D_of_31 rfl rfl ?_
  exact ⟨rfl, h2⟩
def rs_D_fault_no (D : rf_C) (x : Int32) (y : Int32) (z : Int32) (v : Int32) : rf_C := (rf_sI D 0 0 1)
theorem k_D_fault_no (x : Int32) (y : Int32) (z : Int32) (v : Int32) (hno : rs_D_isSide x y = 0) (h : rf_K G w D none F rf_Q0) : ev_E G mm_D_fault (d + 3) 0 [(0, .ref (ev_b G + 77)), (1, .int x), (2, .int y), (3, .int z), (4, .int v)] [] w (rf_yv G F rf_Q0 none (rs_D_fault_no D x y z v)) := by
  unfold rs_D_fault_no
  refine ev_aload_n dd_D_fault_0 rfl ?_
  refine ev_iload_n dd_D_fault_1 rfl ?_
  refine ev_iload_n dd_D_fault_2 rfl ?_
  refine ev_callsI [_, _] dd_D_fault_3 ms_D_isSide is_D_173 rfl (Nat.le_of_ble_eq_true rfl) (Nat.le_of_ble_eq_true rfl) (k_D_isSide x y) ?_
  rw [hno]
  refine ev_if_ne dd_D_fault_6 (fun hc => absurd rfl hc) (fun _ => ?_)
  refine ev_ic (v := 1) dd_D_fault_9 (by decide +kernel) ?_
  refine ev_goto dd_D_fault_10 ?_
  refine R_pI (k := 0) dd_D_fault_39 fk_D_157 h rfl (by decide) rfl rfl (fun w2 h2 => ?_)
  refine ev_aload_n dd_D_fault_42 rfl ?_
  refine R_gI (k := 0) dd_D_fault_43 fr_D_157 h2 rfl (by decide) ?_
  rw [rf_sI_at D 0 0 1]
  refine ev_if_ne dd_D_fault_46 (fun _ => ?_) (fun hc => absurd hc (by decide))
  refine ev_vret dd_D_fault_72 rfl ?_
  exact ⟨rfl, h2⟩
def rs_D_link_no (D : rf_C) (y : Int32) (x : Int32) : Int32 × rf_C := (0, rf_sI D 0 0 1)
theorem k_D_link_no (y : Int32) (x : Int32) (hno : rs_D_isClass y x = 0) (h : rf_K G w D none F rf_Q0) : ev_E G mm_D_link (d + 3) 0 [(0, .ref (ev_b G + 77)), (1, .int y), (2, .int x)] [] w (rf_yi G F rf_Q0 none (rs_D_link_no D y x)) := by
  unfold rs_D_link_no
  refine ev_aload_n dd_D_link_0 rfl ?_
  refine ev_iload_n dd_D_link_1 rfl ?_
  refine ev_iload_n dd_D_link_2 rfl ?_
  refine ev_callsI [_, _] dd_D_link_3 ms_D_isClass is_D_261 rfl (Nat.le_of_ble_eq_true rfl) (Nat.le_of_ble_eq_true rfl) (k_D_isClass y x) ?_
  rw [hno]
  refine ev_callvN2 [_] dd_D_link_6 ms_D_missing iv_D_177 h.ob h.tg rfl (Nat.le_of_ble_eq_true rfl) (Nat.le_of_ble_eq_true rfl) (k_D_missing 0 h) (fun w2 h2 => ?_)
  rw [rs_mis0b] at h2
  rw [rs_mis0a]
  refine ev_if_eq dd_D_link_9 (fun hc => absurd hc (by decide)) (fun _ => ?_)
  refine ev_ic (v := 0) dd_D_link_12 (by decide +kernel) ?_
  refine ev_goto dd_D_link_13 ?_
  refine ev_iret dd_D_link_26 rfl rfl ?_
  exact ⟨rfl, h2⟩
def rs_D_submit_no (D : rf_C) (y : Int32) (x : Int32) (z : Int32) : Int32 × rf_C := (0, rf_sI D 0 0 1)
theorem k_D_submit_no (y : Int32) (x : Int32) (z : Int32) (hno : rs_D_isClass y x = 0) (h : rf_K G w D none F rf_Q0) : ev_E G mm_D_submit (d + 3) 0 [(0, .ref (ev_b G + 77)), (1, .int y), (2, .int x), (3, .int z)] [] w (rf_yi G F rf_Q0 none (rs_D_submit_no D y x z)) := by
  unfold rs_D_submit_no
  refine ev_aload_n dd_D_submit_0 rfl ?_
  refine ev_iload_n dd_D_submit_1 rfl ?_
  refine ev_iload_n dd_D_submit_2 rfl ?_
  refine ev_callsI [_, _] dd_D_submit_3 ms_D_isClass is_D_261 rfl (Nat.le_of_ble_eq_true rfl) (Nat.le_of_ble_eq_true rfl) (k_D_isClass y x) ?_
  rw [hno]
  refine ev_callvN2 [_] dd_D_submit_6 ms_D_missing iv_D_177 h.ob h.tg rfl (Nat.le_of_ble_eq_true rfl) (Nat.le_of_ble_eq_true rfl) (k_D_missing 0 h) (fun w2 h2 => ?_)
  rw [rs_mis0b] at h2
  rw [rs_mis0a]
  refine ev_if_eq dd_D_submit_9 (fun hc => absurd hc (by decide)) (fun _ => ?_)
  refine ev_ic (v := 0) dd_D_submit_12 (by decide +kernel) ?_
  refine ev_iret dd_D_submit_13 rfl rfl ?_
  exact ⟨rfl, h2⟩
def rs_D_held_no (D : rf_C) (y : Int32) : Int32 × rf_C := (0, rf_sI D 0 0 1)
theorem k_D_held_no (y : Int32) (hno : rs_D_isEnd y = 0) (h : rf_K G w D none F rf_Q0) : ev_E G mm_D_held (d + 3) 0 [(0, .ref (ev_b G + 77)), (1, .int y)] [] w (rf_yi G F rf_Q0 none (rs_D_held_no D y)) := by
  unfold rs_D_held_no
  refine ev_aload_n dd_D_held_0 rfl ?_
  refine ev_iload_n dd_D_held_1 rfl ?_
  refine ev_callsI [_] dd_D_held_2 ms_D_isEnd is_D_267 rfl (Nat.le_of_ble_eq_true rfl) (Nat.le_of_ble_eq_true rfl) (k_D_isEnd y) ?_
  rw [hno]
  refine ev_callvN2 [_] dd_D_held_5 ms_D_missing iv_D_177 h.ob h.tg rfl (Nat.le_of_ble_eq_true rfl) (Nat.le_of_ble_eq_true rfl) (k_D_missing 0 h) (fun w2 h2 => ?_)
  rw [rs_mis0b] at h2
  rw [rs_mis0a]
  refine ev_if_eq dd_D_held_8 (fun hc => absurd hc (by decide)) (fun _ => ?_)
  refine ev_ic (v := 0) dd_D_held_11 (by decide +kernel) ?_
  refine ev_goto dd_D_held_12 ?_
  refine ev_iret dd_D_held_24 rfl rfl ?_
  exact ⟨rfl, h2⟩
def rs_D_inbox_no (D : rf_C) (y : Int32) : Int32 × rf_C := (0, rf_sI D 0 0 1)
theorem k_D_inbox_no (y : Int32) (hno : rs_D_isEnd y = 0) (h : rf_K G w D none F rf_Q0) : ev_E G mm_D_inbox (d + 3) 0 [(0, .ref (ev_b G + 77)), (1, .int y)] [] w (rf_yi G F rf_Q0 none (rs_D_inbox_no D y)) := by
  unfold rs_D_inbox_no
  refine ev_aload_n dd_D_inbox_0 rfl ?_
  refine ev_iload_n dd_D_inbox_1 rfl ?_
  refine ev_callsI [_] dd_D_inbox_2 ms_D_isEnd is_D_267 rfl (Nat.le_of_ble_eq_true rfl) (Nat.le_of_ble_eq_true rfl) (k_D_isEnd y) ?_
  rw [hno]
  refine ev_callvN2 [_] dd_D_inbox_5 ms_D_missing iv_D_177 h.ob h.tg rfl (Nat.le_of_ble_eq_true rfl) (Nat.le_of_ble_eq_true rfl) (k_D_missing 0 h) (fun w2 h2 => ?_)
  rw [rs_mis0b] at h2
  rw [rs_mis0a]
  refine ev_if_eq dd_D_inbox_8 (fun hc => absurd hc (by decide)) (fun _ => ?_)
  refine ev_ic (v := 0) dd_D_inbox_11 (by decide +kernel) ?_
  refine ev_goto dd_D_inbox_12 ?_
  refine ev_iret dd_D_inbox_24 rfl rfl ?_
  exact ⟨rfl, h2⟩
end RgE
