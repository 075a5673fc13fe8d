/-! the open link for a class -/
section CrD
variable {G : ev_gx} {M : ev_mx} {d pc pc' tgt : Nat} {L : List (Nat × Value)} {st : List Value} {w w1 : ev_wd} {P : ev_r → ev_wd → Prop} {q0 mi n n' : Nat} {C : cr_C} {F : ev_wd} {Q : Nat → cr_m → Prop}
def cs_E_choose0 (C : cr_C) (e : Nat) : Int32 × cr_C := (if ((cs_E_isOpen C e 0).1) = 0 then (if ((cs_E_isOpen ((cs_E_isOpen C e 0).2) e 1).1) = 0 then (if ((cs_E_isOpen ((cs_E_isOpen ((cs_E_isOpen C e 0).2) e 1).2) e 2).1) = 0 then ((-1), (cs_E_isOpen ((cs_E_isOpen ((cs_E_isOpen C e 0).2) e 1).2) e 2).2) else (2, (cs_E_isOpen ((cs_E_isOpen ((cs_E_isOpen C e 0).2) e 1).2) e 2).2)) else (1, (cs_E_isOpen ((cs_E_isOpen C e 0).2) e 1).2)) else (0, (cs_E_isOpen C e 0).2))
theorem k_E_choose0 {e : Nat} (hq : q0 < ev_b G) (he : e < 2) (h : cr_K G q0 w C n F Q) : ev_E G mm_E_choose (d + 1) 0 [(0, .ref (ev_b G + cr_o 9 e)), (1, .int 0)] [] w (cr_yi G q0 n F Q (cs_E_choose0 C e)) := by
  unfold cs_E_choose0
  refine ev_ic (v := 0) dd_E_choose_0 (by decide +kernel) ?_
  refine ev_istore_n dd_E_choose_1 (by decide) ?_
  refine ev_iload_n dd_E_choose_2 rfl ?_
  refine ev_ic (v := 3) dd_E_choose_3 (by decide +kernel) ?_
  refine ev_icmp_ge dd_E_choose_4 (fun hc => absurd hc (by decide)) (fun _ => ?_)
  refine ev_iload_n dd_E_choose_7 rfl ?_
  refine ev_iload_n dd_E_choose_8 rfl ?_
  refine ev_iadd dd_E_choose_9 ?_
  refine ev_ic (v := 3) dd_E_choose_10 (by decide +kernel) ?_
  refine ev_irem dd_E_choose_11 (by decide) ?_
  refine ev_istore_n dd_E_choose_12 (by decide) ?_
  refine ev_loc4 (i0 := 0) (i1 := 1) (i2 := 2) (i3 := 3) rfl rfl rfl (v3 := .int 0) rfl ?_
  refine ev_aload_n dd_E_choose_13 rfl ?_
  refine ev_iload_n dd_E_choose_14 rfl ?_
  refine ev_callvN [_] dd_E_choose_15 ms_E_isOpen iv_E_188 (h.al (κ := 9) (show e < 2 by omega)) (h.tg (κ := 9) (show e < 2 by omega)) rfl (Nat.le_of_ble_eq_true rfl) (Nat.le_of_ble_eq_true rfl) (k_E_isOpen (l := 0) hq (show e < 2 by omega) (by decide) h) (fun w1 h1 => ?_)
  refine ev_if_eq dd_E_choose_18 (fun c2 => ?_) (fun c2 => ?_)
  · rw [if_pos c2]
    refine ev_iinc dd_E_choose_23 rfl (by decide) ?_
    refine ev_loc4 (i0 := 0) (i1 := 1) (i2 := 2) (i3 := 3) rfl rfl (v2 := .int 1) rfl rfl ?_
    refine ev_goto dd_E_choose_26 ?_
    refine ev_iload_n dd_E_choose_2 rfl ?_
    refine ev_ic (v := 3) dd_E_choose_3 (by decide +kernel) ?_
    refine ev_icmp_ge dd_E_choose_4 (fun hc => absurd hc (by decide)) (fun _ => ?_)
    refine ev_iload_n dd_E_choose_7 rfl ?_
    refine ev_iload_n dd_E_choose_8 rfl ?_
    refine ev_iadd dd_E_choose_9 ?_
    refine ev_ic (v := 3) dd_E_choose_10 (by decide +kernel) ?_
    refine ev_irem dd_E_choose_11 (by decide) ?_
    refine ev_istore_n dd_E_choose_12 (by decide) ?_
    refine ev_loc4 (i0 := 0) (i1 := 1) (i2 := 2) (i3 := 3) rfl rfl rfl (v3 := .int 1) rfl ?_
    refine ev_aload_n dd_E_choose_13 rfl ?_
    refine ev_iload_n dd_E_choose_14 rfl ?_
    refine ev_callvN [_] dd_E_choose_15 ms_E_isOpen iv_E_188 (h1.al (κ := 9) (show e < 2 by omega)) (h1.tg (κ := 9) (show e < 2 by omega)) rfl (Nat.le_of_ble_eq_true rfl) (Nat.le_of_ble_eq_true rfl) (k_E_isOpen (l := 1) hq (show e < 2 by omega) (by decide) h1) (fun w3 h3 => ?_)
    refine ev_if_eq dd_E_choose_18 (fun c4 => ?_) (fun c4 => ?_)
    · rw [if_pos c4]
      refine ev_iinc dd_E_choose_23 rfl (by decide) ?_
      refine ev_loc4 (i0 := 0) (i1 := 1) (i2 := 2) (i3 := 3) rfl rfl (v2 := .int 2) rfl rfl ?_
      refine ev_goto dd_E_choose_26 ?_
      refine ev_iload_n dd_E_choose_2 rfl ?_
      refine ev_ic (v := 3) dd_E_choose_3 (by decide +kernel) ?_
      refine ev_icmp_ge dd_E_choose_4 (fun hc => absurd hc (by decide)) (fun _ => ?_)
      refine ev_iload_n dd_E_choose_7 rfl ?_
      refine ev_iload_n dd_E_choose_8 rfl ?_
      refine ev_iadd dd_E_choose_9 ?_
      refine ev_ic (v := 3) dd_E_choose_10 (by decide +kernel) ?_
      refine ev_irem dd_E_choose_11 (by decide) ?_
      refine ev_istore_n dd_E_choose_12 (by decide) ?_
      refine ev_loc4 (i0 := 0) (i1 := 1) (i2 := 2) (i3 := 3) rfl rfl rfl (v3 := .int 2) rfl ?_
      refine ev_aload_n dd_E_choose_13 rfl ?_
      refine ev_iload_n dd_E_choose_14 rfl ?_
      refine ev_callvN [_] dd_E_choose_15 ms_E_isOpen iv_E_188 (h3.al (κ := 9) (show e < 2 by omega)) (h3.tg (κ := 9) (show e < 2 by omega)) rfl (Nat.le_of_ble_eq_true rfl) (Nat.le_of_ble_eq_true rfl) (k_E_isOpen (l := 2) hq (show e < 2 by omega) (by decide) h3) (fun w5 h5 => ?_)
      refine ev_if_eq dd_E_choose_18 (fun c6 => ?_) (fun c6 => ?_)
      · rw [if_pos c6]
        refine ev_iinc dd_E_choose_23 rfl (by decide) ?_
        refine ev_loc4 (i0 := 0) (i1 := 1) (i2 := 2) (i3 := 3) rfl rfl (v2 := .int 3) rfl rfl ?_
        refine ev_goto dd_E_choose_26 ?_
        refine ev_iload_n dd_E_choose_2 rfl ?_
        refine ev_ic (v := 3) dd_E_choose_3 (by decide +kernel) ?_
        refine ev_icmp_ge dd_E_choose_4 (fun _ => ?_) (fun hc => absurd hc (by decide))
        refine ev_ic (v := (-1)) dd_E_choose_29 (by decide +kernel) ?_
        refine ev_iret dd_E_choose_30 rfl rfl ?_
        exact ⟨rfl, h5⟩
      · rw [if_neg c6]
        refine ev_iload_n dd_E_choose_21 rfl ?_
        refine ev_iret dd_E_choose_22 rfl rfl ?_
        exact ⟨rfl, h5⟩
    · rw [if_neg c4]
      refine ev_iload_n dd_E_choose_21 rfl ?_
      refine ev_iret dd_E_choose_22 rfl rfl ?_
      exact ⟨rfl, h3⟩
  · rw [if_neg c2]
    refine ev_iload_n dd_E_choose_21 rfl ?_
    refine ev_iret dd_E_choose_22 rfl rfl ?_
    exact ⟨rfl, h1⟩
def cs_E_choose1 (C : cr_C) (e : Nat) : Int32 × cr_C := (if ((cs_E_isOpen C e 1).1) = 0 then (if ((cs_E_isOpen ((cs_E_isOpen C e 1).2) e 2).1) = 0 then (if ((cs_E_isOpen ((cs_E_isOpen ((cs_E_isOpen C e 1).2) e 2).2) e 0).1) = 0 then ((-1), (cs_E_isOpen ((cs_E_isOpen ((cs_E_isOpen C e 1).2) e 2).2) e 0).2) else (0, (cs_E_isOpen ((cs_E_isOpen ((cs_E_isOpen C e 1).2) e 2).2) e 0).2)) else (2, (cs_E_isOpen ((cs_E_isOpen C e 1).2) e 2).2)) else (1, (cs_E_isOpen C e 1).2))
theorem k_E_choose1 {e : Nat} (hq : q0 < ev_b G) (he : e < 2) (h : cr_K G q0 w C n F Q) : ev_E G mm_E_choose (d + 1) 0 [(0, .ref (ev_b G + cr_o 9 e)), (1, .int 1)] [] w (cr_yi G q0 n F Q (cs_E_choose1 C e)) := by
  unfold cs_E_choose1
  refine ev_ic (v := 0) dd_E_choose_0 (by decide +kernel) ?_
  refine ev_istore_n dd_E_choose_1 (by decide) ?_
  refine ev_iload_n dd_E_choose_2 rfl ?_
  refine ev_ic (v := 3) dd_E_choose_3 (by decide +kernel) ?_
  refine ev_icmp_ge dd_E_choose_4 (fun hc => absurd hc (by decide)) (fun _ => ?_)
  refine ev_iload_n dd_E_choose_7 rfl ?_
  refine ev_iload_n dd_E_choose_8 rfl ?_
  refine ev_iadd dd_E_choose_9 ?_
  refine ev_ic (v := 3) dd_E_choose_10 (by decide +kernel) ?_
  refine ev_irem dd_E_choose_11 (by decide) ?_
  refine ev_istore_n dd_E_choose_12 (by decide) ?_
  refine ev_loc4 (i0 := 0) (i1 := 1) (i2 := 2) (i3 := 3) rfl rfl rfl (v3 := .int 1) rfl ?_
  refine ev_aload_n dd_E_choose_13 rfl ?_
  refine ev_iload_n dd_E_choose_14 rfl ?_
  refine ev_callvN [_] dd_E_choose_15 ms_E_isOpen iv_E_188 (h.al (κ := 9) (show e < 2 by omega)) (h.tg (κ := 9) (show e < 2 by omega)) rfl (Nat.le_of_ble_eq_true rfl) (Nat.le_of_ble_eq_true rfl) (k_E_isOpen (l := 1) hq (show e < 2 by omega) (by decide) h) (fun w1 h1 => ?_)
  refine ev_if_eq dd_E_choose_18 (fun c2 => ?_) (fun c2 => ?_)
  · rw [if_pos c2]
    refine ev_iinc dd_E_choose_23 rfl (by decide) ?_
    refine ev_loc4 (i0 := 0) (i1 := 1) (i2 := 2) (i3 := 3) rfl rfl (v2 := .int 1) rfl rfl ?_
    refine ev_goto dd_E_choose_26 ?_
    refine ev_iload_n dd_E_choose_2 rfl ?_
    refine ev_ic (v := 3) dd_E_choose_3 (by decide +kernel) ?_
    refine ev_icmp_ge dd_E_choose_4 (fun hc => absurd hc (by decide)) (fun _ => ?_)
    refine ev_iload_n dd_E_choose_7 rfl ?_
    refine ev_iload_n dd_E_choose_8 rfl ?_
    refine ev_iadd dd_E_choose_9 ?_
    refine ev_ic (v := 3) dd_E_choose_10 (by decide +kernel) ?_
    refine ev_irem dd_E_choose_11 (by decide) ?_
    refine ev_istore_n dd_E_choose_12 (by decide) ?_
    refine ev_loc4 (i0 := 0) (i1 := 1) (i2 := 2) (i3 := 3) rfl rfl rfl (v3 := .int 2) rfl ?_
    refine ev_aload_n dd_E_choose_13 rfl ?_
    refine ev_iload_n dd_E_choose_14 rfl ?_
    refine ev_callvN [_] dd_E_choose_15 ms_E_isOpen iv_E_188 (h1.al (κ := 9) (show e < 2 by omega)) (h1.tg (κ := 9) (show e < 2 by omega)) rfl (Nat.le_of_ble_eq_true rfl) (Nat.le_of_ble_eq_true rfl) (k_E_isOpen (l := 2) hq (show e < 2 by omega) (by decide) h1) (fun w3 h3 => ?_)
    refine ev_if_eq dd_E_choose_18 (fun c4 => ?_) (fun c4 => ?_)
    · rw [if_pos c4]
      refine ev_iinc dd_E_choose_23 rfl (by decide) ?_
      refine ev_loc4 (i0 := 0) (i1 := 1) (i2 := 2) (i3 := 3) rfl rfl (v2 := .int 2) rfl rfl ?_
      refine ev_goto dd_E_choose_26 ?_
      refine ev_iload_n dd_E_choose_2 rfl ?_
      refine ev_ic (v := 3) dd_E_choose_3 (by decide +kernel) ?_
      refine ev_icmp_ge dd_E_choose_4 (fun hc => absurd hc (by decide)) (fun _ => ?_)
      refine ev_iload_n dd_E_choose_7 rfl ?_
      refine ev_iload_n dd_E_choose_8 rfl ?_
      refine ev_iadd dd_E_choose_9 ?_
      refine ev_ic (v := 3) dd_E_choose_10 (by decide +kernel) ?_
      refine ev_irem dd_E_choose_11 (by decide) ?_
      refine ev_istore_n dd_E_choose_12 (by decide) ?_
      refine ev_loc4 (i0 := 0) (i1 := 1) (i2 := 2) (i3 := 3) rfl rfl rfl (v3 := .int 0) rfl ?_
      refine ev_aload_n dd_E_choose_13 rfl ?_
      refine ev_iload_n dd_E_choose_14 rfl ?_
      refine ev_callvN [_] dd_E_choose_15 ms_E_isOpen iv_E_188 (h3.al (κ := 9) (show e < 2 by omega)) (h3.tg (κ := 9) (show e < 2 by omega)) rfl (Nat.le_of_ble_eq_true rfl) (Nat.le_of_ble_eq_true rfl) (k_E_isOpen (l := 0) hq (show e < 2 by omega) (by decide) h3) (fun w5 h5 => ?_)
      refine ev_if_eq dd_E_choose_18 (fun c6 => ?_) (fun c6 => ?_)
      · rw [if_pos c6]
        refine ev_iinc dd_E_choose_23 rfl (by decide) ?_
        refine ev_loc4 (i0 := 0) (i1 := 1) (i2 := 2) (i3 := 3) rfl rfl (v2 := .int 3) rfl rfl ?_
        refine ev_goto dd_E_choose_26 ?_
        refine ev_iload_n dd_E_choose_2 rfl ?_
        refine ev_ic (v := 3) dd_E_choose_3 (by decide +kernel) ?_
        refine ev_icmp_ge dd_E_choose_4 (fun _ => ?_) (fun hc => absurd hc (by decide))
        refine ev_ic (v := (-1)) dd_E_choose_29 (by decide +kernel) ?_
        refine ev_iret dd_E_choose_30 rfl rfl ?_
        exact ⟨rfl, h5⟩
      · rw [if_neg c6]
        refine ev_iload_n dd_E_choose_21 rfl ?_
        refine ev_iret dd_E_choose_22 rfl rfl ?_
        exact ⟨rfl, h5⟩
    · rw [if_neg c4]
      refine ev_iload_n dd_E_choose_21 rfl ?_
      refine ev_iret dd_E_choose_22 rfl rfl ?_
      exact ⟨rfl, h3⟩
  · rw [if_neg c2]
    refine ev_iload_n dd_E_choose_21 rfl ?_
    refine ev_iret dd_E_choose_22 rfl rfl ?_
    exact ⟨rfl, h1⟩
def cs_E_choose2 (C : cr_C) (e : Nat) : Int32 × cr_C := (if ((cs_E_isOpen C e 2).1) = 0 then (if ((cs_E_isOpen ((cs_E_isOpen C e 2).2) e 0).1) = 0 then (if ((cs_E_isOpen ((cs_E_isOpen ((cs_E_isOpen C e 2).2) e 0).2) e 1).1) = 0 then ((-1), (cs_E_isOpen ((cs_E_isOpen ((cs_E_isOpen C e 2).2) e 0).2) e 1).2) else (1, (cs_E_isOpen ((cs_E_isOpen ((cs_E_isOpen C e 2).2) e 0).2) e 1).2)) else (0, (cs_E_isOpen ((cs_E_isOpen C e 2).2) e 0).2)) else (2, (cs_E_isOpen C e 2).2))
theorem k_E_choose2 {e : Nat} (hq : q0 < ev_b G) (he : e < 2) (h : cr_K G q0 w C n F Q) : ev_E G mm_E_choose (d + 1) 0 [(0, .ref (ev_b G + cr_o 9 e)), (1, .int 2)] [] w (cr_yi G q0 n F Q (cs_E_choose2 C e)) := by
  unfold cs_E_choose2
  refine ev_ic (v := 0) dd_E_choose_0 (by decide +kernel) ?_
  refine ev_istore_n dd_E_choose_1 (by decide) ?_
  refine ev_iload_n dd_E_choose_2 rfl ?_
  refine ev_ic (v := 3) dd_E_choose_3 (by decide +kernel) ?_
  refine ev_icmp_ge dd_E_choose_4 (fun hc => absurd hc (by decide)) (fun _ => ?_)
  refine ev_iload_n dd_E_choose_7 rfl ?_
  refine ev_iload_n dd_E_choose_8 rfl ?_
  refine ev_iadd dd_E_choose_9 ?_
  refine ev_ic (v := 3) dd_E_choose_10 (by decide +kernel) ?_
  refine ev_irem dd_E_choose_11 (by decide) ?_
  refine ev_istore_n dd_E_choose_12 (by decide) ?_
  refine ev_loc4 (i0 := 0) (i1 := 1) (i2 := 2) (i3 := 3) rfl rfl rfl (v3 := .int 2) rfl ?_
  refine ev_aload_n dd_E_choose_13 rfl ?_
  refine ev_iload_n dd_E_choose_14 rfl ?_
  refine ev_callvN [_] dd_E_choose_15 ms_E_isOpen iv_E_188 (h.al (κ := 9) (show e < 2 by omega)) (h.tg (κ := 9) (show e < 2 by omega)) rfl (Nat.le_of_ble_eq_true rfl) (Nat.le_of_ble_eq_true rfl) (k_E_isOpen (l := 2) hq (show e < 2 by omega) (by decide) h) (fun w1 h1 => ?_)
  refine ev_if_eq dd_E_choose_18 (fun c2 => ?_) (fun c2 => ?_)
  · rw [if_pos c2]
    refine ev_iinc dd_E_choose_23 rfl (by decide) ?_
    refine ev_loc4 (i0 := 0) (i1 := 1) (i2 := 2) (i3 := 3) rfl rfl (v2 := .int 1) rfl rfl ?_
    refine ev_goto dd_E_choose_26 ?_
    refine ev_iload_n dd_E_choose_2 rfl ?_
    refine ev_ic (v := 3) dd_E_choose_3 (by decide +kernel) ?_
    refine ev_icmp_ge dd_E_choose_4 (fun hc => absurd hc (by decide)) (fun _ => ?_)
    refine ev_iload_n dd_E_choose_7 rfl ?_
    refine ev_iload_n dd_E_choose_8 rfl ?_
    refine ev_iadd dd_E_choose_9 ?_
    refine ev_ic (v := 3) dd_E_choose_10 (by decide +kernel) ?_
    refine ev_irem dd_E_choose_11 (by decide) ?_
    refine ev_istore_n dd_E_choose_12 (by decide) ?_
    refine ev_loc4 (i0 := 0) (i1 := 1) (i2 := 2) (i3 := 3) rfl rfl rfl (v3 := .int 0) rfl ?_
    refine ev_aload_n dd_E_choose_13 rfl ?_
    refine ev_iload_n dd_E_choose_14 rfl ?_
    refine ev_callvN [_] dd_E_choose_15 ms_E_isOpen iv_E_188 (h1.al (κ := 9) (show e < 2 by omega)) (h1.tg (κ := 9) (show e < 2 by omega)) rfl (Nat.le_of_ble_eq_true rfl) (Nat.le_of_ble_eq_true rfl) (k_E_isOpen (l := 0) hq (show e < 2 by omega) (by decide) h1) (fun w3 h3 => ?_)
    refine ev_if_eq dd_E_choose_18 (fun c4 => ?_) (fun c4 => ?_)
    · rw [if_pos c4]
      refine ev_iinc dd_E_choose_23 rfl (by decide) ?_
      refine ev_loc4 (i0 := 0) (i1 := 1) (i2 := 2) (i3 := 3) rfl rfl (v2 := .int 2) rfl rfl ?_
      refine ev_goto dd_E_choose_26 ?_
      refine ev_iload_n dd_E_choose_2 rfl ?_
      refine ev_ic (v := 3) dd_E_choose_3 (by decide +kernel) ?_
      refine ev_icmp_ge dd_E_choose_4 (fun hc => absurd hc (by decide)) (fun _ => ?_)
      refine ev_iload_n dd_E_choose_7 rfl ?_
      refine ev_iload_n dd_E_choose_8 rfl ?_
      refine ev_iadd dd_E_choose_9 ?_
      refine ev_ic (v := 3) dd_E_choose_10 (by decide +kernel) ?_
      refine ev_irem dd_E_choose_11 (by decide) ?_
      refine ev_istore_n dd_E_choose_12 (by decide) ?_
      refine ev_loc4 (i0 := 0) (i1 := 1) (i2 := 2) (i3 := 3) rfl rfl rfl (v3 := .int 1) rfl ?_
      refine ev_aload_n dd_E_choose_13 rfl ?_
      refine ev_iload_n dd_E_choose_14 rfl ?_
      refine ev_callvN [_] dd_E_choose_15 ms_E_isOpen iv_E_188 (h3.al (κ := 9) (show e < 2 by omega)) (h3.tg (κ := 9) (show e < 2 by omega)) rfl (Nat.le_of_ble_eq_true rfl) (Nat.le_of_ble_eq_true rfl) (k_E_isOpen (l := 1) hq (show e < 2 by omega) (by decide) h3) (fun w5 h5 => ?_)
      refine ev_if_eq dd_E_choose_18 (fun c6 => ?_) (fun c6 => ?_)
      · rw [if_pos c6]
        refine ev_iinc dd_E_choose_23 rfl (by decide) ?_
        refine ev_loc4 (i0 := 0) (i1 := 1) (i2 := 2) (i3 := 3) rfl rfl (v2 := .int 3) rfl rfl ?_
        refine ev_goto dd_E_choose_26 ?_
        refine ev_iload_n dd_E_choose_2 rfl ?_
        refine ev_ic (v := 3) dd_E_choose_3 (by decide +kernel) ?_
        refine ev_icmp_ge dd_E_choose_4 (fun _ => ?_) (fun hc => absurd hc (by decide))
        refine ev_ic (v := (-1)) dd_E_choose_29 (by decide +kernel) ?_
        refine ev_iret dd_E_choose_30 rfl rfl ?_
        exact ⟨rfl, h5⟩
      · rw [if_neg c6]
        refine ev_iload_n dd_E_choose_21 rfl ?_
        refine ev_iret dd_E_choose_22 rfl rfl ?_
        exact ⟨rfl, h5⟩
    · rw [if_neg c4]
      refine ev_iload_n dd_E_choose_21 rfl ?_
      refine ev_iret dd_E_choose_22 rfl rfl ?_
      exact ⟨rfl, h3⟩
  · rw [if_neg c2]
    refine ev_iload_n dd_E_choose_21 rfl ?_
    refine ev_iret dd_E_choose_22 rfl rfl ?_
    exact ⟨rfl, h1⟩
def cs_E_choose3 (C : cr_C) (e : Nat) : Int32 × cr_C := (if ((cs_E_isOpen C e 0).1) = 0 then (if ((cs_E_isOpen ((cs_E_isOpen C e 0).2) e 1).1) = 0 then (if ((cs_E_isOpen ((cs_E_isOpen ((cs_E_isOpen C e 0).2) e 1).2) e 2).1) = 0 then ((-1), (cs_E_isOpen ((cs_E_isOpen ((cs_E_isOpen C e 0).2) e 1).2) e 2).2) else (2, (cs_E_isOpen ((cs_E_isOpen ((cs_E_isOpen C e 0).2) e 1).2) e 2).2)) else (1, (cs_E_isOpen ((cs_E_isOpen C e 0).2) e 1).2)) else (0, (cs_E_isOpen C e 0).2))
theorem k_E_choose3 {e : Nat} (hq : q0 < ev_b G) (he : e < 2) (h : cr_K G q0 w C n F Q) : ev_E G mm_E_choose (d + 1) 0 [(0, .ref (ev_b G + cr_o 9 e)), (1, .int 3)] [] w (cr_yi G q0 n F Q (cs_E_choose3 C e)) := by
  unfold cs_E_choose3
  refine ev_ic (v := 0) dd_E_choose_0 (by decide +kernel) ?_
  refine ev_istore_n dd_E_choose_1 (by decide) ?_
  refine ev_iload_n dd_E_choose_2 rfl ?_
  refine ev_ic (v := 3) dd_E_choose_3 (by decide +kernel) ?_
  refine ev_icmp_ge dd_E_choose_4 (fun hc => absurd hc (by decide)) (fun _ => ?_)
  refine ev_iload_n dd_E_choose_7 rfl ?_
  refine ev_iload_n dd_E_choose_8 rfl ?_
  refine ev_iadd dd_E_choose_9 ?_
  refine ev_ic (v := 3) dd_E_choose_10 (by decide +kernel) ?_
  refine ev_irem dd_E_choose_11 (by decide) ?_
  refine ev_istore_n dd_E_choose_12 (by decide) ?_
  refine ev_loc4 (i0 := 0) (i1 := 1) (i2 := 2) (i3 := 3) rfl rfl rfl (v3 := .int 0) rfl ?_
  refine ev_aload_n dd_E_choose_13 rfl ?_
  refine ev_iload_n dd_E_choose_14 rfl ?_
  refine ev_callvN [_] dd_E_choose_15 ms_E_isOpen iv_E_188 (h.al (κ := 9) (show e < 2 by omega)) (h.tg (κ := 9) (show e < 2 by omega)) rfl (Nat.le_of_ble_eq_true rfl) (Nat.le_of_ble_eq_true rfl) (k_E_isOpen (l := 0) hq (show e < 2 by omega) (by decide) h) (fun w1 h1 => ?_)
  refine ev_if_eq dd_E_choose_18 (fun c2 => ?_) (fun c2 => ?_)
  · rw [if_pos c2]
    refine ev_iinc dd_E_choose_23 rfl (by decide) ?_
    refine ev_loc4 (i0 := 0) (i1 := 1) (i2 := 2) (i3 := 3) rfl rfl (v2 := .int 1) rfl rfl ?_
    refine ev_goto dd_E_choose_26 ?_
    refine ev_iload_n dd_E_choose_2 rfl ?_
    refine ev_ic (v := 3) dd_E_choose_3 (by decide +kernel) ?_
    refine ev_icmp_ge dd_E_choose_4 (fun hc => absurd hc (by decide)) (fun _ => ?_)
    refine ev_iload_n dd_E_choose_7 rfl ?_
    refine ev_iload_n dd_E_choose_8 rfl ?_
    refine ev_iadd dd_E_choose_9 ?_
    refine ev_ic (v := 3) dd_E_choose_10 (by decide +kernel) ?_
    refine ev_irem dd_E_choose_11 (by decide) ?_
    refine ev_istore_n dd_E_choose_12 (by decide) ?_
    refine ev_loc4 (i0 := 0) (i1 := 1) (i2 := 2) (i3 := 3) rfl rfl rfl (v3 := .int 1) rfl ?_
    refine ev_aload_n dd_E_choose_13 rfl ?_
    refine ev_iload_n dd_E_choose_14 rfl ?_
    refine ev_callvN [_] dd_E_choose_15 ms_E_isOpen iv_E_188 (h1.al (κ := 9) (show e < 2 by omega)) (h1.tg (κ := 9) (show e < 2 by omega)) rfl (Nat.le_of_ble_eq_true rfl) (Nat.le_of_ble_eq_true rfl) (k_E_isOpen (l := 1) hq (show e < 2 by omega) (by decide) h1) (fun w3 h3 => ?_)
    refine ev_if_eq dd_E_choose_18 (fun c4 => ?_) (fun c4 => ?_)
    · rw [if_pos c4]
      refine ev_iinc dd_E_choose_23 rfl (by decide) ?_
      refine ev_loc4 (i0 := 0) (i1 := 1) (i2 := 2) (i3 := 3) rfl rfl (v2 := .int 2) rfl rfl ?_
      refine ev_goto dd_E_choose_26 ?_
      refine ev_iload_n dd_E_choose_2 rfl ?_
      refine ev_ic (v := 3) dd_E_choose_3 (by decide +kernel) ?_
      refine ev_icmp_ge dd_E_choose_4 (fun hc => absurd hc (by decide)) (fun _ => ?_)
      refine ev_iload_n dd_E_choose_7 rfl ?_
      refine ev_iload_n dd_E_choose_8 rfl ?_
      refine ev_iadd dd_E_choose_9 ?_
      refine ev_ic (v := 3) dd_E_choose_10 (by decide +kernel) ?_
      refine ev_irem dd_E_choose_11 (by decide) ?_
      refine ev_istore_n dd_E_choose_12 (by decide) ?_
      refine ev_loc4 (i0 := 0) (i1 := 1) (i2 := 2) (i3 := 3) rfl rfl rfl (v3 := .int 2) rfl ?_
      refine ev_aload_n dd_E_choose_13 rfl ?_
      refine ev_iload_n dd_E_choose_14 rfl ?_
      refine ev_callvN [_] dd_E_choose_15 ms_E_isOpen iv_E_188 (h3.al (κ := 9) (show e < 2 by omega)) (h3.tg (κ := 9) (show e < 2 by omega)) rfl (Nat.le_of_ble_eq_true rfl) (Nat.le_of_ble_eq_true rfl) (k_E_isOpen (l := 2) hq (show e < 2 by omega) (by decide) h3) (fun w5 h5 => ?_)
      refine ev_if_eq dd_E_choose_18 (fun c6 => ?_) (fun c6 => ?_)
      · rw [if_pos c6]
        refine ev_iinc dd_E_choose_23 rfl (by decide) ?_
        refine ev_loc4 (i0 := 0) (i1 := 1) (i2 := 2) (i3 := 3) rfl rfl (v2 := .int 3) rfl rfl ?_
        refine ev_goto dd_E_choose_26 ?_
        refine ev_iload_n dd_E_choose_2 rfl ?_
        refine ev_ic (v := 3) dd_E_choose_3 (by decide +kernel) ?_
        refine ev_icmp_ge dd_E_choose_4 (fun _ => ?_) (fun hc => absurd hc (by decide))
        refine ev_ic (v := (-1)) dd_E_choose_29 (by decide +kernel) ?_
        refine ev_iret dd_E_choose_30 rfl rfl ?_
        exact ⟨rfl, h5⟩
      · rw [if_neg c6]
        refine ev_iload_n dd_E_choose_21 rfl ?_
        refine ev_iret dd_E_choose_22 rfl rfl ?_
        exact ⟨rfl, h5⟩
    · rw [if_neg c4]
      refine ev_iload_n dd_E_choose_21 rfl ?_
      refine ev_iret dd_E_choose_22 rfl rfl ?_
      exact ⟨rfl, h3⟩
  · rw [if_neg c2]
    refine ev_iload_n dd_E_choose_21 rfl ?_
    refine ev_iret dd_E_choose_22 rfl rfl ?_
    exact ⟨rfl, h1⟩
end CrD
