/-! the face of the class: what it answers -/
def cs_P_start (C : cr_C) (l e : Nat) : Int32 × cr_C := if C.1 1 (2 * l + e) 0 = 0 then (1, cs_S_begin C (2 * l + e)) else (0, C)
def cs_P_stop (C : cr_C) (l e : Nat) : Int32 × cr_C := if C.1 1 (2 * l + e) 0 = 0 then (0, C) else (1, cs_E_fall C e l)
def cs_P_fault (C : cr_C) (l e : Nat) (x y : Int32) : cr_C := cr_sI (cr_sI C 4 (2 * l + e) 0 x) 4 (2 * l + e) 1 (if x = 0 then 0 else y)
def cs_P_changes (C : cr_C) (s : Nat) : Int32 := if C.1 2 s 0 = 0 then 0 else if C.1 2 s 2 = 0 then 1 else 2
def cs_P_of (C : cr_C) (s j : Nat) : Int32 := match j with
  | 0 => C.1 1 s 1
  | 1 => C.1 1 s 8
  | 2 => C.1 1 s 9
  | 3 => C.1 1 s 10
  | 4 => C.1 1 s 12
  | 5 => C.1 1 s 4
  | 6 => C.1 1 s 5
  | 7 => C.1 1 s 6
  | 8 => C.1 1 s 7
  | 9 => Int32.ofNat (C.2.1 s).length
  | 10 => Int32.ofNat (C.2.1 (6 + s)).length
  | 11 => C.1 1 s 2
  | _ => C.1 1 s 3
/-- the number that a taken message is -/
def cr_lg (a b : Int32) : Int64 := (a.toInt64 <<< ((32 : Int32).toInt64 &&& 63)) ||| (b.toInt64 &&& 4294967295)
def cr_yl (G : ev_gx) (q0 n : Nat) (F : ev_wd) (Q : Nat → cr_m → Prop) (c : Int64 × cr_C) : ev_r → ev_wd → Prop := fun t w' => t = .inl (some (.long c.1)) ∧ cr_K G q0 w' c.2 n F Q
theorem cs_acc01 (C : cr_C) (e k l : Nat) (x : Int32) : (cs_E_acc1 C e k l x).1 = 0 ∨ (cs_E_acc1 C e k l x).1 = 1 := by
  unfold cs_E_acc1 cs_E_acc2
  repeat' split
  all_goals first | exact cs_below1 _ _ _ _ _ | exact Or.inl rfl
theorem cw_start (C : cr_C) {l e : Nat} (hl : l < 3) (he : e < 2) : cw C (cs_P_start C l e).2 0 := by
  unfold cs_P_start
  split
  · exact cw_begin C (by omega)
  · exact cw_refl C
theorem cw_stop (C : cr_C) {l e : Nat} (hl : l < 3) (he : e < 2) : cw C (cs_P_stop C l e).2 0 := by
  unfold cs_P_stop
  split
  · exact cw_refl C
  · exact cw_fall C he hl
theorem cw_fault (C : cr_C) (l e : Nat) (x y : Int32) : cw C (cs_P_fault C l e x y) 0 := cw_sI (cw_sI (cw_refl C) rfl) rfl
section CrY2
variable {G : ev_gx} {M : ev_mx} {d pc pc' tgt : Nat} {L : List (Nat × Value)} {st : List Value} {w w1 : ev_wd} {P : ev_r → ev_wd → Prop} {q0 mi n n' : Nat} {C : cr_C} {F : ev_wd} {Q : Nat → cr_m → Prop}
theorem k_P_start {l e : Nat} (hq : q0 < ev_b G) (hl : l < 3) (he : e < 2) (h' : cr_K G q0 w C n F Q) : ev_E G mm_P_start (d + 13) 0 (lv_args 0 [.ref (ev_b G + cr_o 12 0), .int (Int32.ofNat l), .int (Int32.ofNat e)]) [] w (cr_yi G q0 n F Q (cs_P_start C l e)) := by
  have h0 : 0 < 1 := Nat.zero_lt_one
  have hs : 2 * l + e < 6 := by omega
  refine ev_iload_n dd_P_start_0 rfl ?_
  refine ev_iload_n dd_P_start_1 rfl ?_
  refine ev_callsV [_, _] dd_P_start_2 ms_P_checkSide is_P_23 rfl (Nat.le_of_ble_eq_true rfl) (Nat.le_of_ble_eq_true rfl) (k_P_checkSide hl he h') (fun w1 h => ?_)
  refine ev_aload_n dd_P_start_5 rfl ?_
  refine K_gP (κ := 12) (q := cr_o 13 0) dd_P_start_6 fr_P_11 h h0 rfl ?_
  refine ev_iload_n dd_P_start_9 rfl ?_
  refine K_aald (κ := 13) (j := e) (t := 4) (q := cr_o 9 e) dd_P_start_10 h h0 rfl rfl he (by decide) (if_pos he) ?_
  refine K_gP (κ := 9) (q := cr_o 15 e) dd_P_start_11 fr_P_27 h he rfl ?_
  refine ev_iload_n dd_P_start_14 rfl ?_
  refine K_aald (κ := 15) (j := l) (t := 5) (q := cr_o 1 (2 * l + e)) dd_P_start_15 h he rfl rfl hl (by decide) (if_pos hl) ?_
  unfold cs_P_start
  refine ev_astore_n dd_P_start_16 (by decide) ?_
  refine ev_aload_n dd_P_start_17 rfl ?_
  refine K_gI (κ := 1) dd_P_start_18 fr_P_31 h hs rfl ?_
  refine ev_if_eq dd_P_start_21 (fun c => ?_) (fun c => ?_)
  · rw [if_pos c]
    refine ev_aload_n dd_P_start_26 rfl ?_
    refine ev_callvV [] dd_P_start_27 ms_S_begin iv_P_37 (h.al (κ := 1) hs) (h.tg (κ := 1) hs) rfl (Nat.le_of_ble_eq_true rfl) (Nat.le_of_ble_eq_true rfl) (k_S_begin hq hs h) (fun w2 h2 => ?_)
    refine ev_ic (v := 1) dd_P_start_30 (by decide +kernel) ?_
    refine ev_iret dd_P_start_31 rfl rfl ?_
    exact ⟨rfl, h2⟩
  · rw [if_neg c]
    refine ev_ic (v := 0) dd_P_start_24 (by decide +kernel) ?_
    refine ev_iret dd_P_start_25 rfl rfl ?_
    exact ⟨rfl, h⟩
theorem k_P_stop {l e : Nat} (hq : q0 < ev_b G) (J : ev_J G q0 mi) (hn : n ≤ 200000) (hz : cz C ≤ 8000) (hl : l < 3) (he : e < 2) (h' : cr_K G q0 w C n F Q) : ev_E G mm_P_stop (d + 13) 0 (lv_args 0 [.ref (ev_b G + cr_o 12 0), .int (Int32.ofNat l), .int (Int32.ofNat e)]) [] w (cr_yi G q0 n F Q (cs_P_stop C l e)) := by
  have h0 : 0 < 1 := Nat.zero_lt_one
  have hs : 2 * l + e < 6 := by omega
  refine ev_iload_n dd_P_stop_0 rfl ?_
  refine ev_iload_n dd_P_stop_1 rfl ?_
  refine ev_callsV [_, _] dd_P_stop_2 ms_P_checkSide is_P_23 rfl (Nat.le_of_ble_eq_true rfl) (Nat.le_of_ble_eq_true rfl) (k_P_checkSide hl he h') (fun w1 h => ?_)
  refine ev_aload_n dd_P_stop_5 rfl ?_
  refine K_gP (κ := 12) (q := cr_o 13 0) dd_P_stop_6 fr_P_11 h h0 rfl ?_
  refine ev_iload_n dd_P_stop_9 rfl ?_
  refine K_aald (κ := 13) (j := e) (t := 4) (q := cr_o 9 e) dd_P_stop_10 h h0 rfl rfl he (by decide) (if_pos he) ?_
  refine K_gP (κ := 9) (q := cr_o 15 e) dd_P_stop_11 fr_P_27 h he rfl ?_
  refine ev_iload_n dd_P_stop_14 rfl ?_
  refine K_aald (κ := 15) (j := l) (t := 5) (q := cr_o 1 (2 * l + e)) dd_P_stop_15 h he rfl rfl hl (by decide) (if_pos hl) ?_
  unfold cs_P_stop
  refine K_gI (κ := 1) dd_P_stop_16 fr_P_31 h hs rfl ?_
  refine ev_if_ne dd_P_stop_19 (fun c => ?_) (fun c => ?_)
  · rw [if_neg c]
    refine ev_aload_n dd_P_stop_24 rfl ?_
    refine K_gP (κ := 12) (q := cr_o 13 0) dd_P_stop_25 fr_P_11 h h0 rfl ?_
    refine ev_iload_n dd_P_stop_28 rfl ?_
    refine K_aald (κ := 13) (j := e) (t := 4) (q := cr_o 9 e) dd_P_stop_29 h h0 rfl rfl he (by decide) (if_pos he) ?_
    refine ev_iload_n dd_P_stop_30 rfl ?_
    refine ev_callvV [_] dd_P_stop_31 ms_E_fall iv_P_40 (h.al (κ := 9) he) (h.tg (κ := 9) he) rfl (Nat.le_of_ble_eq_true rfl) (Nat.le_of_ble_eq_true rfl) (k_E_fall (C := C) (l := l) hq J hn he hl (cr_b_of hs hz) h) (fun w2 h2 => ?_)
    refine ev_ic (v := 1) dd_P_stop_34 (by decide +kernel) ?_
    refine ev_iret dd_P_stop_35 rfl rfl ?_
    exact ⟨rfl, h2⟩
  · rw [if_pos c]
    refine ev_ic (v := 0) dd_P_stop_22 (by decide +kernel) ?_
    refine ev_iret dd_P_stop_23 rfl rfl ?_
    exact ⟨rfl, h⟩
theorem k_P_state {l e : Nat} (hl : l < 3) (he : e < 2) (h' : cr_K G q0 w C n F Q) : ev_E G mm_P_state (d + 13) 0 (lv_args 0 [.ref (ev_b G + cr_o 12 0), .int (Int32.ofNat l), .int (Int32.ofNat e)]) [] w (cr_yi G q0 n F Q (C.1 1 (2 * l + e) 0, C)) := by
  have h0 : 0 < 1 := Nat.zero_lt_one
  have hs : 2 * l + e < 6 := by omega
  refine ev_iload_n dd_P_state_0 rfl ?_
  refine ev_iload_n dd_P_state_1 rfl ?_
  refine ev_callsV [_, _] dd_P_state_2 ms_P_checkSide is_P_23 rfl (Nat.le_of_ble_eq_true rfl) (Nat.le_of_ble_eq_true rfl) (k_P_checkSide hl he h') (fun w1 h => ?_)
  refine ev_aload_n dd_P_state_5 rfl ?_
  refine K_gP (κ := 12) (q := cr_o 13 0) dd_P_state_6 fr_P_11 h h0 rfl ?_
  refine ev_iload_n dd_P_state_9 rfl ?_
  refine K_aald (κ := 13) (j := e) (t := 4) (q := cr_o 9 e) dd_P_state_10 h h0 rfl rfl he (by decide) (if_pos he) ?_
  refine K_gP (κ := 9) (q := cr_o 15 e) dd_P_state_11 fr_P_27 h he rfl ?_
  refine ev_iload_n dd_P_state_14 rfl ?_
  refine K_aald (κ := 15) (j := l) (t := 5) (q := cr_o 1 (2 * l + e)) dd_P_state_15 h he rfl rfl hl (by decide) (if_pos hl) ?_
  refine K_gI (κ := 1) dd_P_state_16 fr_P_31 h hs rfl ?_
  refine ev_iret dd_P_state_19 rfl rfl ?_
  exact ⟨rfl, h⟩
theorem k_P_changes {l e : Nat} (hl : l < 3) (he : e < 2) (h' : cr_K G q0 w C n F Q) : ev_E G mm_P_changes (d + 13) 0 (lv_args 0 [.ref (ev_b G + cr_o 12 0), .int (Int32.ofNat l), .int (Int32.ofNat e)]) [] w (cr_yi G q0 n F Q (cs_P_changes C (2 * l + e), C)) := by
  have h0 : 0 < 1 := Nat.zero_lt_one
  have hs : 2 * l + e < 6 := by omega
  refine ev_iload_n dd_P_changes_0 rfl ?_
  refine ev_iload_n dd_P_changes_1 rfl ?_
  refine ev_callsV [_, _] dd_P_changes_2 ms_P_checkSide is_P_23 rfl (Nat.le_of_ble_eq_true rfl) (Nat.le_of_ble_eq_true rfl) (k_P_checkSide hl he h') (fun w1 h => ?_)
  refine ev_aload_n dd_P_changes_5 rfl ?_
  refine K_gP (κ := 12) (q := cr_o 13 0) dd_P_changes_6 fr_P_11 h h0 rfl ?_
  refine ev_iload_n dd_P_changes_9 rfl ?_
  refine K_aald (κ := 13) (j := e) (t := 4) (q := cr_o 9 e) dd_P_changes_10 h h0 rfl rfl he (by decide) (if_pos he) ?_
  unfold cs_P_changes
  refine K_gP (κ := 9) (q := cr_o 16 e) dd_P_changes_11 fr_P_134 h he rfl ?_
  refine ev_iload_n dd_P_changes_14 rfl ?_
  refine K_aald (κ := 16) (j := l) (t := 6) (q := cr_o 2 (2 * l + e)) dd_P_changes_15 h he rfl rfl hl (by decide) (if_pos hl) ?_
  refine ev_astore_n dd_P_changes_16 (by decide) ?_
  refine ev_aload_n dd_P_changes_17 rfl ?_
  refine K_gI (κ := 2) dd_P_changes_18 fr_P_138 h hs rfl ?_
  refine ev_if_ne dd_P_changes_21 (fun c => ?_) (fun c => ?_)
  · rw [if_neg c]
    refine ev_aload_n dd_P_changes_26 rfl ?_
    refine K_gI (κ := 2) dd_P_changes_27 fr_P_144 h hs rfl ?_
    refine ev_if_eq dd_P_changes_30 (fun c2 => ?_) (fun c2 => ?_)
    · rw [if_pos c2]
      refine ev_ic (v := 1) dd_P_changes_37 (by decide +kernel) ?_
      refine ev_iret dd_P_changes_38 rfl rfl ?_
      exact ⟨rfl, h⟩
    · rw [if_neg c2]
      refine ev_ic (v := 2) dd_P_changes_33 (by decide +kernel) ?_
      refine ev_goto dd_P_changes_34 ?_
      refine ev_iret dd_P_changes_38 rfl rfl ?_
      exact ⟨rfl, h⟩
  · rw [if_pos c]
    refine ev_ic (v := 0) dd_P_changes_24 (by decide +kernel) ?_
    refine ev_iret dd_P_changes_25 rfl rfl ?_
    exact ⟨rfl, h⟩
theorem k_P_fault {l e : Nat} {x y : Int32} (hq : q0 < ev_b G) (hxy : ¬ x < 0 ∧ ¬ 2 < x ∧ ¬ y < 0 ∧ y ≤ 99) (hl : l < 3) (he : e < 2) (h' : cr_K G q0 w C n F Q) : ev_E G mm_P_fault (d + 13) 0 (lv_args 0 [.ref (ev_b G + cr_o 12 0), .int (Int32.ofNat l), .int (Int32.ofNat e), .int x, .int y]) [] w (cr_yv G q0 n F Q (cs_P_fault C l e x y)) := by
  have h0 : 0 < 1 := Nat.zero_lt_one
  have hs : 2 * l + e < 6 := by omega
  obtain ⟨a1, a2, a3, a4⟩ := hxy
  unfold cs_P_fault
  refine ev_iload_n dd_P_fault_0 rfl ?_
  refine ev_iload_n dd_P_fault_1 rfl ?_
  refine ev_callsV [_, _] dd_P_fault_2 ms_P_checkSide is_P_23 rfl (Nat.le_of_ble_eq_true rfl) (Nat.le_of_ble_eq_true rfl) (k_P_checkSide hl he h') (fun w1 h => ?_)
  refine ev_iload_n dd_P_fault_5 rfl ?_
  refine ev_if_lt dd_P_fault_6 (fun c => absurd c a1) (fun _ => ?_)
  refine ev_iload_n dd_P_fault_9 rfl ?_
  refine ev_ic (v := 2) dd_P_fault_10 (by decide +kernel) ?_
  refine ev_icmp_gt dd_P_fault_11 (fun c => absurd c a2) (fun _ => ?_)
  refine ev_iload dd_P_fault_14 rfl ?_
  refine ev_if_lt dd_P_fault_16 (fun c => absurd c a3) (fun _ => ?_)
  refine ev_iload dd_P_fault_19 rfl ?_
  refine ev_bp (v := 99) dd_P_fault_21 (by decide +kernel) ?_
  refine ev_icmp_le dd_P_fault_23 (fun _ => ?_) (fun c => absurd a4 c)
  refine ev_aload_n dd_P_fault_36 rfl ?_
  refine K_gP (κ := 12) (q := cr_o 14 0) dd_P_fault_37 fr_P_18 h h0 rfl ?_
  refine ev_iload_n dd_P_fault_40 rfl ?_
  refine ev_iload_n dd_P_fault_41 rfl ?_
  refine ev_callsI [_, _] dd_P_fault_42 ms_P_faultPlace is_P_51 rfl (Nat.le_of_ble_eq_true rfl) (Nat.le_of_ble_eq_true rfl) (k_P_place hl he) ?_
  refine K_aald (κ := 14) (j := 2 * l + e) (t := 7) (q := cr_o 4 (2 * l + e)) dd_P_fault_45 h h0 rfl rfl hs (by decide) (if_pos hs) ?_
  refine ev_astore dd_P_fault_46 (by decide) ?_
  refine ev_aload dd_P_fault_48 rfl ?_
  refine ev_iload_n dd_P_fault_50 rfl ?_
  refine K_pI (κ := 4) dd_P_fault_51 fk_P_55 h hq hs rfl rfl rfl (fun w2 h2 => ?_)
  refine ev_aload dd_P_fault_54 rfl ?_
  refine ev_iload_n dd_P_fault_56 rfl ?_
  refine ev_if_ne dd_P_fault_57 (fun c => ?_) (fun c => ?_)
  · rw [if_neg c]
    refine ev_iload dd_P_fault_64 rfl ?_
    refine K_pI (κ := 4) dd_P_fault_66 fk_P_58 h2 hq hs rfl rfl rfl (fun w3 h3 => ?_)
    refine ev_vret dd_P_fault_69 rfl ?_
    exact ⟨rfl, h3⟩
  · rw [if_pos c]
    refine ev_ic (v := 0) dd_P_fault_60 (by decide +kernel) ?_
    refine ev_goto dd_P_fault_61 ?_
    refine K_pI (κ := 4) dd_P_fault_66 fk_P_58 h2 hq hs rfl rfl rfl (fun w3 h3 => ?_)
    refine ev_vret dd_P_fault_69 rfl ?_
    exact ⟨rfl, h3⟩
theorem k_P_fault_no2 {l e : Nat} {x y : Int32} (Y : ev_Y G) (hq : q0 < ev_b G) (hn : n ≤ 200000) (hl : l < 3) (he : e < 2) (hno : ¬ (¬ x < 0 ∧ ¬ 2 < x ∧ ¬ y < 0 ∧ y ≤ 99)) (h' : cr_K G q0 w C n F Q) : ev_E G mm_P_fault (d + 13) 0 (lv_args 0 [.ref (ev_b G + cr_o 12 0), .int (Int32.ofNat l), .int (Int32.ofNat e), .int x, .int y]) [] w (cr_yt G q0 (n + 1) F Q 11 C) := by
  refine ev_iload_n dd_P_fault_0 rfl ?_
  refine ev_iload_n dd_P_fault_1 rfl ?_
  refine ev_callsV [_, _] dd_P_fault_2 ms_P_checkSide is_P_23 rfl (Nat.le_of_ble_eq_true rfl) (Nat.le_of_ble_eq_true rfl) (k_P_checkSide hl he h') (fun w1 h => ?_)
  have thr : ∀ L, ev_E G mm_P_fault (d + 13) 26 L [] w1 (cr_yt G q0 (n + 1) F Q 11 C) := fun L => K_thr11 (ix := 46) Y rfl rfl rfl dd_P_fault_26 dd_P_fault_29 dd_P_fault_30 dd_P_fault_32 dd_P_fault_35 hq hn (by omega) h
  refine ev_iload_n dd_P_fault_5 rfl ?_
  refine ev_if_lt dd_P_fault_6 (fun _ => thr _) (fun a1 => ?_)
  refine ev_iload_n dd_P_fault_9 rfl ?_
  refine ev_ic (v := 2) dd_P_fault_10 (by decide +kernel) ?_
  refine ev_icmp_gt dd_P_fault_11 (fun _ => thr _) (fun a2 => ?_)
  refine ev_iload dd_P_fault_14 rfl ?_
  refine ev_if_lt dd_P_fault_16 (fun _ => thr _) (fun a3 => ?_)
  refine ev_iload dd_P_fault_19 rfl ?_
  refine ev_bp (v := 99) dd_P_fault_21 (by decide +kernel) ?_
  exact ev_icmp_le dd_P_fault_23 (fun a4 => absurd ⟨a1, a2, a3, a4⟩ hno) (fun _ => thr _)
theorem k_P_of {l e : Nat} {j : Nat} (hj : j < 13) (hl : l < 3) (he : e < 2) (h' : cr_K G q0 w C n F Q) : ev_E G mm_P_of (d + 13) 0 (lv_args 0 [.ref (ev_b G + cr_o 12 0), .int (Int32.ofNat l), .int (Int32.ofNat e), .int (Int32.ofNat j)]) [] w (cr_yi G q0 n F Q (cs_P_of C (2 * l + e) j, C)) := by
  have h0 : 0 < 1 := Nat.zero_lt_one
  have hs : 2 * l + e < 6 := by omega
  refine ev_iload_n dd_P_of_0 rfl ?_
  refine ev_iload_n dd_P_of_1 rfl ?_
  refine ev_callsV [_, _] dd_P_of_2 ms_P_checkSide is_P_23 rfl (Nat.le_of_ble_eq_true rfl) (Nat.le_of_ble_eq_true rfl) (k_P_checkSide hl he h') (fun w1 h => ?_)
  refine ev_aload_n dd_P_of_5 rfl ?_
  refine K_gP (κ := 12) (q := cr_o 13 0) dd_P_of_6 fr_P_11 h h0 rfl ?_
  refine ev_iload_n dd_P_of_9 rfl ?_
  refine K_aald (κ := 13) (j := e) (t := 4) (q := cr_o 9 e) dd_P_of_10 h h0 rfl rfl he (by decide) (if_pos he) ?_
  refine K_gP (κ := 9) (q := cr_o 15 e) dd_P_of_11 fr_P_27 h he rfl ?_
  refine ev_iload_n dd_P_of_14 rfl ?_
  refine K_aald (κ := 15) (j := l) (t := 5) (q := cr_o 1 (2 * l + e)) dd_P_of_15 h he rfl rfl hl (by decide) (if_pos hl) ?_
  refine ev_astore dd_P_of_16 (by decide) ?_
  refine ev_iload_n dd_P_of_18 rfl ?_
  have hj13 : j = 0 ∨ j = 1 ∨ j = 2 ∨ j = 3 ∨ j = 4 ∨ j = 5 ∨ j = 6 ∨ j = 7 ∨ j = 8 ∨ j = 9 ∨ j = 10 ∨ j = 11 ∨ j = 12 := by omega
  rcases hj13 with rfl | rfl | rfl | rfl | rfl | rfl | rfl | rfl | rfl | rfl | rfl | rfl | rfl
  · refine ev_tableIn (off := 65) dd_P_of_19 (by decide) (by decide) rfl (tgt := 84) rfl ?_
    refine ev_aload dd_P_of_84 rfl ?_
    refine K_gI (κ := 1) dd_P_of_86 fr_P_80 h hs rfl ?_
    refine ev_iret dd_P_of_89 rfl rfl ?_
    exact ⟨rfl, h⟩
  · refine ev_tableIn (off := 71) dd_P_of_19 (by decide) (by decide) rfl (tgt := 90) rfl ?_
    refine ev_aload dd_P_of_90 rfl ?_
    refine K_gI (κ := 1) dd_P_of_92 fr_P_82 h hs rfl ?_
    refine ev_iret dd_P_of_95 rfl rfl ?_
    exact ⟨rfl, h⟩
  · refine ev_tableIn (off := 77) dd_P_of_19 (by decide) (by decide) rfl (tgt := 96) rfl ?_
    refine ev_aload dd_P_of_96 rfl ?_
    refine K_gI (κ := 1) dd_P_of_98 fr_P_85 h hs rfl ?_
    refine ev_iret dd_P_of_101 rfl rfl ?_
    exact ⟨rfl, h⟩
  · refine ev_tableIn (off := 83) dd_P_of_19 (by decide) (by decide) rfl (tgt := 102) rfl ?_
    refine ev_aload dd_P_of_102 rfl ?_
    refine K_gI (κ := 1) dd_P_of_104 fr_P_88 h hs rfl ?_
    refine ev_iret dd_P_of_107 rfl rfl ?_
    exact ⟨rfl, h⟩
  · refine ev_tableIn (off := 89) dd_P_of_19 (by decide) (by decide) rfl (tgt := 108) rfl ?_
    refine ev_aload dd_P_of_108 rfl ?_
    refine K_gI (κ := 1) dd_P_of_110 fr_P_91 h hs rfl ?_
    refine ev_iret dd_P_of_113 rfl rfl ?_
    exact ⟨rfl, h⟩
  · refine ev_tableIn (off := 95) dd_P_of_19 (by decide) (by decide) rfl (tgt := 114) rfl ?_
    refine ev_aload dd_P_of_114 rfl ?_
    refine K_gI (κ := 1) dd_P_of_116 fr_P_94 h hs rfl ?_
    refine ev_iret dd_P_of_119 rfl rfl ?_
    exact ⟨rfl, h⟩
  · refine ev_tableIn (off := 101) dd_P_of_19 (by decide) (by decide) rfl (tgt := 120) rfl ?_
    refine ev_aload dd_P_of_120 rfl ?_
    refine K_gI (κ := 1) dd_P_of_122 fr_P_97 h hs rfl ?_
    refine ev_iret dd_P_of_125 rfl rfl ?_
    exact ⟨rfl, h⟩
  · refine ev_tableIn (off := 107) dd_P_of_19 (by decide) (by decide) rfl (tgt := 126) rfl ?_
    refine ev_aload dd_P_of_126 rfl ?_
    refine K_gI (κ := 1) dd_P_of_128 fr_P_100 h hs rfl ?_
    refine ev_iret dd_P_of_131 rfl rfl ?_
    exact ⟨rfl, h⟩
  · refine ev_tableIn (off := 113) dd_P_of_19 (by decide) (by decide) rfl (tgt := 132) rfl ?_
    refine ev_aload dd_P_of_132 rfl ?_
    refine K_gI (κ := 1) dd_P_of_134 fr_P_103 h hs rfl ?_
    refine ev_iret dd_P_of_137 rfl rfl ?_
    exact ⟨rfl, h⟩
  · refine ev_tableIn (off := 119) dd_P_of_19 (by decide) (by decide) rfl (tgt := 138) rfl ?_
    refine ev_aload dd_P_of_138 rfl ?_
    have hr : 2 * l + e < 22 := by omega
    refine K_gP (κ := 1) (q := cr_o 11 (2 * l + e)) dd_P_of_140 fr_P_106 h hs rfl ?_
    refine ev_callvI [] dd_P_of_143 ms_AL_size iv_P_110 (h.al (κ := 11) hr) (h.tg (κ := 11) hr) rfl (Nat.le_of_ble_eq_true rfl) (Nat.le_of_ble_eq_true rfl) (K_size h hr) ?_
    refine ev_iret dd_P_of_146 rfl rfl ?_
    exact ⟨rfl, h⟩
  · refine ev_tableIn (off := 128) dd_P_of_19 (by decide) (by decide) rfl (tgt := 147) rfl ?_
    refine ev_aload dd_P_of_147 rfl ?_
    have hr : 6 + (2 * l + e) < 22 := by omega
    refine K_gP (κ := 1) (q := cr_o 11 (6 + (2 * l + e))) dd_P_of_149 fr_P_116 h hs rfl ?_
    refine ev_callvI [] dd_P_of_152 ms_AL_size iv_P_110 (h.al (κ := 11) hr) (h.tg (κ := 11) hr) rfl (Nat.le_of_ble_eq_true rfl) (Nat.le_of_ble_eq_true rfl) (K_size h hr) ?_
    refine ev_iret dd_P_of_155 rfl rfl ?_
    exact ⟨rfl, h⟩
  · refine ev_tableIn (off := 137) dd_P_of_19 (by decide) (by decide) rfl (tgt := 156) rfl ?_
    refine ev_aload dd_P_of_156 rfl ?_
    refine K_gI (κ := 1) dd_P_of_158 fr_P_119 h hs rfl ?_
    refine ev_iret dd_P_of_161 rfl rfl ?_
    exact ⟨rfl, h⟩
  · refine ev_tableIn (off := 143) dd_P_of_19 (by decide) (by decide) rfl (tgt := 162) rfl ?_
    refine ev_aload dd_P_of_162 rfl ?_
    refine K_gI (κ := 1) dd_P_of_164 fr_P_122 h hs rfl ?_
    refine ev_iret dd_P_of_167 rfl rfl ?_
    exact ⟨rfl, h⟩
theorem sw_0_12 {z : Int32} (h : ¬ cr_iv z 13) : z.toInt < 0 ∨ 12 < z.toInt := by
  rcases Int.lt_or_le z.toInt 0 with h1 | h1
  · exact Or.inl h1
  · rcases Int.lt_or_le 12 z.toInt with h2 | h2
    · exact Or.inr h2
    · refine absurd ⟨?_, ?_⟩ h
      · rw [Int32.lt_iff_toInt_lt]
        show ¬ z.toInt < 0
        omega
      · rw [Int32.lt_iff_toInt_lt]
        show z.toInt < 13
        omega
theorem k_P_of_no2 {l e : Nat} {z : Int32} (Y : ev_Y G) (hq : q0 < ev_b G) (hn : n ≤ 200000) (hno : ¬ cr_iv z 13) (hl : l < 3) (he : e < 2) (h' : cr_K G q0 w C n F Q) : ev_E G mm_P_of (d + 13) 0 (lv_args 0 [.ref (ev_b G + cr_o 12 0), .int (Int32.ofNat l), .int (Int32.ofNat e), .int z]) [] w (cr_yt G q0 (n + 1) F Q 10 C) := by
  have h0 : 0 < 1 := Nat.zero_lt_one
  have hs : 2 * l + e < 6 := by omega
  refine ev_iload_n dd_P_of_0 rfl ?_
  refine ev_iload_n dd_P_of_1 rfl ?_
  refine ev_callsV [_, _] dd_P_of_2 ms_P_checkSide is_P_23 rfl (Nat.le_of_ble_eq_true rfl) (Nat.le_of_ble_eq_true rfl) (k_P_checkSide hl he h') (fun w1 h => ?_)
  refine ev_aload_n dd_P_of_5 rfl ?_
  refine K_gP (κ := 12) (q := cr_o 13 0) dd_P_of_6 fr_P_11 h h0 rfl ?_
  refine ev_iload_n dd_P_of_9 rfl ?_
  refine K_aald (κ := 13) (j := e) (t := 4) (q := cr_o 9 e) dd_P_of_10 h h0 rfl rfl he (by decide) (if_pos he) ?_
  refine K_gP (κ := 9) (q := cr_o 15 e) dd_P_of_11 fr_P_27 h he rfl ?_
  refine ev_iload_n dd_P_of_14 rfl ?_
  refine K_aald (κ := 15) (j := l) (t := 5) (q := cr_o 1 (2 * l + e)) dd_P_of_15 h he rfl rfl hl (by decide) (if_pos hl) ?_
  refine ev_astore dd_P_of_16 (by decide) ?_
  refine ev_iload_n dd_P_of_18 rfl ?_
  refine ev_tableOut dd_P_of_19 (sw_0_12 hno) (tgt := 168) rfl ?_
  exact K_thr10 (ix := 127) Y rfl rfl (by omega) dd_P_of_168 dd_P_of_171 dd_P_of_172 dd_P_of_174 dd_P_of_177 hq hn (by omega) h
theorem k_P_submit {k e : Nat} (hq : q0 < ev_b G) (J : ev_J G q0 mi) (hn : n + 1 ≤ 200000) (hk : k < 4) (he : e < 2) (x : Int32) (hv : cv C) (hz : cz C ≤ 8000) (h' : cr_K G q0 w C n F Q) : ev_E G mm_P_submit (d + 13) 0 (lv_args 0 [.ref (ev_b G + cr_o 12 0), .int (Int32.ofNat e), .int (Int32.ofNat k), .int x]) [] w (cr_yi G q0 (n + 1) F Q (cs_E_accept C e k x)) := by
  have h0 : 0 < 1 := Nat.zero_lt_one
  refine ev_iload_n dd_P_submit_0 rfl ?_
  refine ev_iload_n dd_P_submit_1 rfl ?_
  refine ev_callsV [_, _] dd_P_submit_2 ms_P_checkClass is_P_61 rfl (Nat.le_of_ble_eq_true rfl) (Nat.le_of_ble_eq_true rfl) (k_P_checkClass hk he h') (fun w1 h => ?_)
  refine ev_aload_n dd_P_submit_5 rfl ?_
  refine K_gP (κ := 12) (q := cr_o 13 0) dd_P_submit_6 fr_P_11 h h0 rfl ?_
  refine ev_iload_n dd_P_submit_9 rfl ?_
  refine K_aald (κ := 13) (j := e) (t := 4) (q := cr_o 9 e) dd_P_submit_10 h h0 rfl rfl he (by decide) (if_pos he) ?_
  refine ev_iload_n dd_P_submit_11 rfl ?_
  refine ev_iload_n dd_P_submit_12 rfl ?_
  obtain ⟨hL, hl⟩ := hv.L he k hk
  refine ev_callvN [_, _] dd_P_submit_13 ms_E_accept iv_P_64 (h.al (κ := 9) he) (h.tg (κ := 9) he) rfl (Nat.le_of_ble_eq_true rfl) (Nat.le_of_ble_eq_true rfl) (k_E_acc1 hq J hn he hk hl hL x (fun q hq3 => by have := cz_len C (r := 6 + (2 * q + e)) (by omega); omega) (by have := cz_len C (r := 18 + e) (by omega); omega) h) (fun w2 h2 => ?_)
  refine ev_iret dd_P_submit_16 rfl (ms_nb (cs_acc01 _ _ _ _ _)) ?_
  exact ⟨rfl, h2⟩
theorem k_P_link {k e : Nat} (hk : k < 4) (he : e < 2) (h' : cr_K G q0 w C n F Q) : ev_E G mm_P_link (d + 13) 0 (lv_args 0 [.ref (ev_b G + cr_o 12 0), .int (Int32.ofNat e), .int (Int32.ofNat k)]) [] w (cr_yi G q0 n F Q (C.1 7 e k, C)) := by
  have h0 : 0 < 1 := Nat.zero_lt_one
  refine ev_iload_n dd_P_link_0 rfl ?_
  refine ev_iload_n dd_P_link_1 rfl ?_
  refine ev_callsV [_, _] dd_P_link_2 ms_P_checkClass is_P_61 rfl (Nat.le_of_ble_eq_true rfl) (Nat.le_of_ble_eq_true rfl) (k_P_checkClass hk he h') (fun w1 h => ?_)
  refine ev_aload_n dd_P_link_5 rfl ?_
  refine K_gP (κ := 12) (q := cr_o 13 0) dd_P_link_6 fr_P_11 h h0 rfl ?_
  refine ev_iload_n dd_P_link_9 rfl ?_
  refine K_aald (κ := 13) (j := e) (t := 4) (q := cr_o 9 e) dd_P_link_10 h h0 rfl rfl he (by decide) (if_pos he) ?_
  refine K_gP (κ := 9) (q := cr_o 7 e) dd_P_link_11 fr_P_130 h he rfl ?_
  refine ev_iload_n dd_P_link_14 rfl ?_
  refine K_iald (κ := 7) (j := k) dd_P_link_15 h he rfl hk (decide_eq_true hk) (by decide) ?_
  refine ev_iret dd_P_link_16 rfl rfl ?_
  exact ⟨rfl, h⟩
theorem k_P_held {e : Nat} (he : e < 2) (h' : cr_K G q0 w C n F Q) : ev_E G mm_P_held (d + 13) 0 (lv_args 0 [.ref (ev_b G + cr_o 12 0), .int (Int32.ofNat e)]) [] w (cr_yi G q0 n F Q (Int32.ofNat (C.2.1 (18 + e)).length, C)) := by
  have hr : 18 + e < 22 := by omega
  have h0 : 0 < 1 := Nat.zero_lt_one
  refine ev_iload_n dd_P_held_0 rfl ?_
  refine ev_callsV [_] dd_P_held_1 ms_P_checkEnd is_P_147 rfl (Nat.le_of_ble_eq_true rfl) (Nat.le_of_ble_eq_true rfl) (k_P_checkEnd he h') (fun w1 h => ?_)
  refine ev_aload_n dd_P_held_4 rfl ?_
  refine K_gP (κ := 12) (q := cr_o 13 0) dd_P_held_5 fr_P_11 h h0 rfl ?_
  refine ev_iload_n dd_P_held_8 rfl ?_
  refine K_aald (κ := 13) (j := e) (t := 4) (q := cr_o 9 e) dd_P_held_9 h h0 rfl rfl he (by decide) (if_pos he) ?_
  refine K_gP (κ := 9) (q := cr_o 11 (18 + e)) dd_P_held_10 fr_P_150 h he rfl ?_
  refine ev_callvI [] dd_P_held_13 ms_AL_size iv_P_110 (h.al (κ := 11) hr) (h.tg (κ := 11) hr) rfl (Nat.le_of_ble_eq_true rfl) (Nat.le_of_ble_eq_true rfl) (K_size h hr) ?_
  refine ev_iret dd_P_held_16 rfl rfl ?_
  exact ⟨rfl, h⟩
theorem k_P_inbox {e : Nat} (he : e < 2) (h' : cr_K G q0 w C n F Q) : ev_E G mm_P_inbox (d + 13) 0 (lv_args 0 [.ref (ev_b G + cr_o 12 0), .int (Int32.ofNat e)]) [] w (cr_yi G q0 n F Q (Int32.ofNat (C.2.1 (20 + e)).length, C)) := by
  have hr : 20 + e < 22 := by omega
  have h0 : 0 < 1 := Nat.zero_lt_one
  refine ev_iload_n dd_P_inbox_0 rfl ?_
  refine ev_callsV [_] dd_P_inbox_1 ms_P_checkEnd is_P_147 rfl (Nat.le_of_ble_eq_true rfl) (Nat.le_of_ble_eq_true rfl) (k_P_checkEnd he h') (fun w1 h => ?_)
  refine ev_aload_n dd_P_inbox_4 rfl ?_
  refine K_gP (κ := 12) (q := cr_o 13 0) dd_P_inbox_5 fr_P_11 h h0 rfl ?_
  refine ev_iload_n dd_P_inbox_8 rfl ?_
  refine K_aald (κ := 13) (j := e) (t := 4) (q := cr_o 9 e) dd_P_inbox_9 h h0 rfl rfl he (by decide) (if_pos he) ?_
  refine K_gP (κ := 9) (q := cr_o 11 (20 + e)) dd_P_inbox_10 fr_P_153 h he rfl ?_
  refine ev_callvI [] dd_P_inbox_13 ms_AL_size iv_P_110 (h.al (κ := 11) hr) (h.tg (κ := 11) hr) rfl (Nat.le_of_ble_eq_true rfl) (Nat.le_of_ble_eq_true rfl) (K_size h hr) ?_
  refine ev_iret dd_P_inbox_16 rfl rfl ?_
  exact ⟨rfl, h⟩
theorem k_P_take {e : Nat} {μ : cr_m} {zs : List cr_m} (hq : q0 < ev_b G) (he : e < 2) (hX : C.2.1 (20 + e) = μ :: zs) (h' : cr_K G q0 w C n F Q) : ev_E G mm_P_take (d + 13) 0 (lv_args 0 [.ref (ev_b G + cr_o 12 0), .int (Int32.ofNat e)]) [] w (cr_yl G q0 n F Q (cr_lg μ.1 μ.2.1, cr_sX C (20 + e) zs)) := by
  have hr : 20 + e < 22 := by omega
  have h0 : 0 < 1 := Nat.zero_lt_one
  refine ev_iload_n dd_P_take_0 rfl ?_
  refine ev_callsV [_] dd_P_take_1 ms_P_checkEnd is_P_147 rfl (Nat.le_of_ble_eq_true rfl) (Nat.le_of_ble_eq_true rfl) (k_P_checkEnd he h') (fun w1 h => ?_)
  refine ev_aload_n dd_P_take_4 rfl ?_
  refine K_gP (κ := 12) (q := cr_o 13 0) dd_P_take_5 fr_P_11 h h0 rfl ?_
  refine ev_iload_n dd_P_take_8 rfl ?_
  refine K_aald (κ := 13) (j := e) (t := 4) (q := cr_o 9 e) dd_P_take_9 h h0 rfl rfl he (by decide) (if_pos he) ?_
  refine K_gP (κ := 9) (q := cr_o 11 (20 + e)) dd_P_take_10 fr_P_153 h he rfl ?_
  refine ev_callvI [] dd_P_take_13 ms_AL_isEmpty iv_P_156 (h.al (κ := 11) hr) (h.tg (κ := 11) hr) rfl (Nat.le_of_ble_eq_true rfl) (Nat.le_of_ble_eq_true rfl) (K_isE h hr) ?_
  rw [hX]
  refine ev_if_eq dd_P_take_16 (fun _ => ?_) (fun c => absurd rfl c)
  refine ev_aload_n dd_P_take_29 rfl ?_
  refine K_gP (κ := 12) (q := cr_o 13 0) dd_P_take_30 fr_P_11 h h0 rfl ?_
  refine ev_iload_n dd_P_take_33 rfl ?_
  refine K_aald (κ := 13) (j := e) (t := 4) (q := cr_o 9 e) dd_P_take_34 h h0 rfl rfl he (by decide) (if_pos he) ?_
  refine K_gP (κ := 9) (q := cr_o 11 (20 + e)) dd_P_take_35 fr_P_153 h he rfl ?_
  refine ev_ic (v := 0) dd_P_take_38 (by decide +kernel) ?_
  refine ev_callv [.int (Int32.ofNat 0)] dd_P_take_39 ms_AL_remove iv_P_165 (h.al (κ := 11) hr) (h.tg (κ := 11) hr) rfl (Nat.le_of_ble_eq_true rfl) (Nat.le_of_ble_eq_true rfl) (K_remove (μ := μ) hq h hr (by rw [hX]; rfl)) (fun v w4 hp _ _ => ?_) (fun x w3 hp _ _ => by obtain ⟨⟨y, h1, -⟩, -⟩ := hp; cases h1)
  obtain ⟨⟨y, h1, hy⟩, h4⟩ := hp
  cases h1
  rw [hX] at h4
  refine ev_cast (c := 6) dd_P_take_42 kl_P_169 hy.1 hy.2.1 rfl ?_
  refine ev_astore_n dd_P_take_45 (by decide) ?_
  refine ev_aload_n dd_P_take_46 rfl ?_
  refine K_gM dd_P_take_47 fr_P_171 hy (by decide) ?_
  refine ev_i2l dd_P_take_50 ?_
  refine ev_bp (v := 32) dd_P_take_51 (by decide +kernel) ?_
  refine ev_lshl dd_P_take_53 ?_
  refine ev_aload_n dd_P_take_54 rfl ?_
  refine K_gM dd_P_take_55 fr_P_174 hy (by decide) ?_
  refine ev_i2l dd_P_take_58 ?_
  refine ev_ldc2 dd_P_take_59 cn_P_177 ?_
  refine ev_land dd_P_take_62 ?_
  refine ev_lor dd_P_take_63 ?_
  refine ev_lret dd_P_take_64 rfl ?_
  exact ⟨rfl, h4⟩
theorem k_P_take_no2 {e : Nat} (Y : ev_Y G) (hq : q0 < ev_b G) (hn : n ≤ 200000) (he : e < 2) (hX : C.2.1 (20 + e) = []) (h' : cr_K G q0 w C n F Q) : ev_E G mm_P_take (d + 13) 0 (lv_args 0 [.ref (ev_b G + cr_o 12 0), .int (Int32.ofNat e)]) [] w (cr_yt G q0 (n + 1) F Q 12 C) := by
  have hr : 20 + e < 22 := by omega
  have h0 : 0 < 1 := Nat.zero_lt_one
  refine ev_iload_n dd_P_take_0 rfl ?_
  refine ev_callsV [_] dd_P_take_1 ms_P_checkEnd is_P_147 rfl (Nat.le_of_ble_eq_true rfl) (Nat.le_of_ble_eq_true rfl) (k_P_checkEnd he h') (fun w1 h => ?_)
  refine ev_aload_n dd_P_take_4 rfl ?_
  refine K_gP (κ := 12) (q := cr_o 13 0) dd_P_take_5 fr_P_11 h h0 rfl ?_
  refine ev_iload_n dd_P_take_8 rfl ?_
  refine K_aald (κ := 13) (j := e) (t := 4) (q := cr_o 9 e) dd_P_take_9 h h0 rfl rfl he (by decide) (if_pos he) ?_
  refine K_gP (κ := 9) (q := cr_o 11 (20 + e)) dd_P_take_10 fr_P_153 h he rfl ?_
  refine ev_callvI [] dd_P_take_13 ms_AL_isEmpty iv_P_156 (h.al (κ := 11) hr) (h.tg (κ := 11) hr) rfl (Nat.le_of_ble_eq_true rfl) (Nat.le_of_ble_eq_true rfl) (K_isE h hr) ?_
  rw [hX]
  refine ev_if_eq dd_P_take_16 (fun c => absurd c (by decide)) (fun _ => ?_)
  exact K_thr12 (ix := 162) Y rfl rfl rfl dd_P_take_19 dd_P_take_22 dd_P_take_23 dd_P_take_25 dd_P_take_28 hq hn (by omega) h
theorem k_P_lost (h : cr_K G q0 w C n F Q) : ev_E G mm_P_lost (d + 13) 0 (lv_args 0 [.ref (ev_b G + cr_o 12 0)]) [] w (cr_yi G q0 n F Q (0 + C.1 9 0 6 + C.1 9 1 6, C)) := by
  have h0 : 0 < 1 := Nat.zero_lt_one
  refine ev_ic (v := 0) dd_P_lost_0 (by decide +kernel) ?_
  refine ev_istore_n dd_P_lost_1 (by decide) ?_
  refine ev_ic (v := 0) dd_P_lost_2 (by decide +kernel) ?_
  refine ev_istore_n dd_P_lost_3 (by decide) ?_
  refine ev_iload_n dd_P_lost_4 rfl ?_
  refine ev_ic (v := 2) dd_P_lost_5 (by decide +kernel) ?_
  refine ev_icmp_ge dd_P_lost_6 (fun hc => absurd hc (by decide)) (fun _ => ?_)
  refine ev_iload_n dd_P_lost_9 rfl ?_
  refine ev_aload_n dd_P_lost_10 rfl ?_
  refine K_gP (κ := 12) (q := cr_o 13 0) dd_P_lost_11 fr_P_11 h h0 rfl ?_
  refine ev_loc3 (i0 := 0) (i1 := 1) (i2 := 2) rfl rfl (v2 := .int (Int32.ofNat 0)) rfl ?_
  refine ev_iload_n dd_P_lost_14 rfl ?_
  refine K_aald (κ := 13) (j := 0) (t := 4) (q := cr_o 9 0) dd_P_lost_15 h h0 rfl rfl (by decide) (by decide) rfl ?_
  refine K_gI (κ := 9) dd_P_lost_16 fr_P_179 h (by decide) rfl ?_
  refine ev_iadd dd_P_lost_19 ?_
  refine ev_istore_n dd_P_lost_20 (by decide) ?_
  refine ev_iinc dd_P_lost_21 rfl (by decide) ?_
  refine ev_goto dd_P_lost_24 ?_
  refine ev_loc3 (i0 := 0) (i1 := 1) (i2 := 2) rfl rfl (v2 := .int (Int32.ofNat 1)) rfl ?_
  refine ev_iload_n dd_P_lost_4 rfl ?_
  refine ev_ic (v := 2) dd_P_lost_5 (by decide +kernel) ?_
  refine ev_icmp_ge dd_P_lost_6 (fun hc => absurd hc (by decide)) (fun _ => ?_)
  refine ev_iload_n dd_P_lost_9 rfl ?_
  refine ev_aload_n dd_P_lost_10 rfl ?_
  refine K_gP (κ := 12) (q := cr_o 13 0) dd_P_lost_11 fr_P_11 h h0 rfl ?_
  refine ev_iload_n dd_P_lost_14 rfl ?_
  refine K_aald (κ := 13) (j := 1) (t := 4) (q := cr_o 9 1) dd_P_lost_15 h h0 rfl rfl (by decide) (by decide) rfl ?_
  refine K_gI (κ := 9) dd_P_lost_16 fr_P_179 h (by decide) rfl ?_
  refine ev_iadd dd_P_lost_19 ?_
  refine ev_istore_n dd_P_lost_20 (by decide) ?_
  refine ev_iinc dd_P_lost_21 rfl (by decide) ?_
  refine ev_goto dd_P_lost_24 ?_
  refine ev_loc3 (i0 := 0) (i1 := 1) (i2 := 2) rfl rfl (v2 := .int (Int32.ofNat 2)) rfl ?_
  refine ev_iload_n dd_P_lost_4 rfl ?_
  refine ev_ic (v := 2) dd_P_lost_5 (by decide +kernel) ?_
  refine ev_icmp_ge dd_P_lost_6 (fun _ => ?_) (fun hc => absurd (by decide) hc)
  refine ev_iload_n dd_P_lost_27 rfl ?_
  refine ev_iret dd_P_lost_28 rfl rfl ?_
  exact ⟨rfl, h⟩
end CrY2
