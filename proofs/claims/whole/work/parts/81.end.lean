/-! an end: its open links, the first that serves, a side falls -/
section CrY
variable {G : ev_gx} {M : ev_mx} {d pc pc' tgt : Nat} {L : List (Nat × Value)} {st : List Value} {w w1 : ev_wd} {P : ev_r → ev_wd → Prop} {q0 mi n n' : Nat} {C : cr_C} {F : ev_wd} {Q : Nat → cr_m → Prop}
def cs_E_isOpen (C : cr_C) (e : Nat) (l : Nat) : Int32 × cr_C := (if (C.1 1 (2 * l + e) 0) = 4 then (if (C.1 2 (2 * l + e) 0) = 0 then (1, C) else (0, C)) else (0, C))
theorem k_E_isOpen {e : Nat} {l : Nat} (hq : q0 < ev_b G) (he : e < 2) (hl : l < 3) (h : cr_K G q0 w C n F Q) : ev_E G mm_E_isOpen d 0 (lv_args 0 [.ref (ev_b G + cr_o 9 e), .int (Int32.ofNat l)]) [] w (cr_yi G q0 n F Q (cs_E_isOpen C e l)) := by
  unfold cs_E_isOpen
  refine ev_aload_n dd_E_isOpen_0 rfl ?_
  refine K_gP (κ := 9) (q := cr_o 15 e) dd_E_isOpen_1 fr_E_11 h (show e < 2 by omega) rfl ?_
  refine ev_iload_n dd_E_isOpen_4 rfl ?_
  refine K_aald (κ := 15) (j := l) (t := 5) (q := cr_o 1 (2 * l + e)) dd_E_isOpen_5 h (show e < 2 by omega) rfl rfl hl (by decide) (if_pos hl) ?_
  refine K_gI (κ := 1) dd_E_isOpen_6 fr_E_46 h (show 2 * l + e < 6 by omega) rfl ?_
  refine ev_ic (v := 4) dd_E_isOpen_9 (by decide +kernel) ?_
  refine ev_icmp_ne dd_E_isOpen_10 (fun c1 => ?_) (fun c1 => ?_)
  · rw [if_neg c1]
    refine ev_ic (v := 0) dd_E_isOpen_29 (by decide +kernel) ?_
    refine ev_iret dd_E_isOpen_30 rfl rfl ?_
    exact ⟨rfl, h⟩
  · rw [if_pos c1]
    refine ev_aload_n dd_E_isOpen_13 rfl ?_
    refine K_gP (κ := 9) (q := cr_o 16 e) dd_E_isOpen_14 fr_E_19 h (show e < 2 by omega) rfl ?_
    refine ev_iload_n dd_E_isOpen_17 rfl ?_
    refine K_aald (κ := 16) (j := l) (t := 6) (q := cr_o 2 (2 * l + e)) dd_E_isOpen_18 h (show e < 2 by omega) rfl rfl hl (by decide) (if_pos hl) ?_
    refine K_gI (κ := 2) dd_E_isOpen_19 fr_E_167 h (show 2 * l + e < 6 by omega) rfl ?_
    refine ev_if_ne dd_E_isOpen_22 (fun c2 => ?_) (fun c2 => ?_)
    · rw [if_neg c2]
      refine ev_ic (v := 0) dd_E_isOpen_29 (by decide +kernel) ?_
      refine ev_iret dd_E_isOpen_30 rfl rfl ?_
      exact ⟨rfl, h⟩
    · rw [if_pos c2]
      refine ev_ic (v := 1) dd_E_isOpen_25 (by decide +kernel) ?_
      refine ev_goto dd_E_isOpen_26 ?_
      refine ev_iret dd_E_isOpen_30 rfl rfl ?_
      exact ⟨rfl, h⟩
def cs_E_firstServing (C : cr_C) (e : Nat) : Int32 × cr_C := (if (C.1 1 (2 * 0 + e) 0) = 4 then (0, C) else (if (C.1 1 (2 * 1 + e) 0) = 4 then (1, C) else (if (C.1 1 (2 * 2 + e) 0) = 4 then (2, C) else ((-1), C))))
theorem k_E_firstServing {e : Nat} (hq : q0 < ev_b G) (he : e < 2) (h : cr_K G q0 w C n F Q) : ev_E G mm_E_firstServing d 0 (lv_args 0 [.ref (ev_b G + cr_o 9 e)]) [] w (cr_yi G q0 n F Q (cs_E_firstServing C e)) := by
  unfold cs_E_firstServing
  refine ev_ic (v := 0) dd_E_firstServing_0 (by decide +kernel) ?_
  refine ev_istore_n dd_E_firstServing_1 (by decide) ?_
  refine ev_iload_n dd_E_firstServing_2 rfl ?_
  refine ev_ic (v := 3) dd_E_firstServing_3 (by decide +kernel) ?_
  refine ev_icmp_ge dd_E_firstServing_4 (fun hc => absurd hc (by decide)) (fun _ => ?_)
  refine ev_aload_n dd_E_firstServing_7 rfl ?_
  refine K_gP (κ := 9) (q := cr_o 15 e) dd_E_firstServing_8 fr_E_11 h (show e < 2 by omega) rfl ?_
  refine ev_iload_n dd_E_firstServing_11 rfl ?_
  refine K_aald (κ := 15) (j := 0) (t := 5) (q := cr_o 1 (2 * 0 + e)) dd_E_firstServing_12 h (show e < 2 by omega) rfl rfl (by decide) (by decide) rfl ?_
  refine K_gI (κ := 1) dd_E_firstServing_13 fr_E_46 h (show 2 * 0 + e < 6 by omega) rfl ?_
  refine ev_ic (v := 4) dd_E_firstServing_16 (by decide +kernel) ?_
  refine ev_icmp_ne dd_E_firstServing_17 (fun c1 => ?_) (fun c1 => ?_)
  · rw [if_neg c1]
    refine ev_iinc dd_E_firstServing_22 rfl (by decide) ?_
    refine ev_loc2 (i0 := 0) (i1 := 1) rfl (v1 := .int 1) rfl ?_
    refine ev_goto dd_E_firstServing_25 ?_
    refine ev_iload_n dd_E_firstServing_2 rfl ?_
    refine ev_ic (v := 3) dd_E_firstServing_3 (by decide +kernel) ?_
    refine ev_icmp_ge dd_E_firstServing_4 (fun hc => absurd hc (by decide)) (fun _ => ?_)
    refine ev_aload_n dd_E_firstServing_7 rfl ?_
    refine K_gP (κ := 9) (q := cr_o 15 e) dd_E_firstServing_8 fr_E_11 h (show e < 2 by omega) rfl ?_
    refine ev_iload_n dd_E_firstServing_11 rfl ?_
    refine K_aald (κ := 15) (j := 1) (t := 5) (q := cr_o 1 (2 * 1 + e)) dd_E_firstServing_12 h (show e < 2 by omega) rfl rfl (by decide) (by decide) rfl ?_
    refine K_gI (κ := 1) dd_E_firstServing_13 fr_E_46 h (show 2 * 1 + e < 6 by omega) rfl ?_
    refine ev_ic (v := 4) dd_E_firstServing_16 (by decide +kernel) ?_
    refine ev_icmp_ne dd_E_firstServing_17 (fun c2 => ?_) (fun c2 => ?_)
    · rw [if_neg c2]
      refine ev_iinc dd_E_firstServing_22 rfl (by decide) ?_
      refine ev_loc2 (i0 := 0) (i1 := 1) rfl (v1 := .int 2) rfl ?_
      refine ev_goto dd_E_firstServing_25 ?_
      refine ev_iload_n dd_E_firstServing_2 rfl ?_
      refine ev_ic (v := 3) dd_E_firstServing_3 (by decide +kernel) ?_
      refine ev_icmp_ge dd_E_firstServing_4 (fun hc => absurd hc (by decide)) (fun _ => ?_)
      refine ev_aload_n dd_E_firstServing_7 rfl ?_
      refine K_gP (κ := 9) (q := cr_o 15 e) dd_E_firstServing_8 fr_E_11 h (show e < 2 by omega) rfl ?_
      refine ev_iload_n dd_E_firstServing_11 rfl ?_
      refine K_aald (κ := 15) (j := 2) (t := 5) (q := cr_o 1 (2 * 2 + e)) dd_E_firstServing_12 h (show e < 2 by omega) rfl rfl (by decide) (by decide) rfl ?_
      refine K_gI (κ := 1) dd_E_firstServing_13 fr_E_46 h (show 2 * 2 + e < 6 by omega) rfl ?_
      refine ev_ic (v := 4) dd_E_firstServing_16 (by decide +kernel) ?_
      refine ev_icmp_ne dd_E_firstServing_17 (fun c3 => ?_) (fun c3 => ?_)
      · rw [if_neg c3]
        refine ev_iinc dd_E_firstServing_22 rfl (by decide) ?_
        refine ev_loc2 (i0 := 0) (i1 := 1) rfl (v1 := .int 3) rfl ?_
        refine ev_goto dd_E_firstServing_25 ?_
        refine ev_iload_n dd_E_firstServing_2 rfl ?_
        refine ev_ic (v := 3) dd_E_firstServing_3 (by decide +kernel) ?_
        refine ev_icmp_ge dd_E_firstServing_4 (fun _ => ?_) (fun hc => absurd hc (by decide))
        refine ev_ic (v := (-1)) dd_E_firstServing_28 (by decide +kernel) ?_
        refine ev_iret dd_E_firstServing_29 rfl rfl ?_
        exact ⟨rfl, h⟩
      · rw [if_pos c3]
        refine ev_iload_n dd_E_firstServing_20 rfl ?_
        refine ev_iret dd_E_firstServing_21 rfl rfl ?_
        exact ⟨rfl, h⟩
    · rw [if_pos c2]
      refine ev_iload_n dd_E_firstServing_20 rfl ?_
      refine ev_iret dd_E_firstServing_21 rfl rfl ?_
      exact ⟨rfl, h⟩
  · rw [if_pos c1]
    refine ev_iload_n dd_E_firstServing_20 rfl ?_
    refine ev_iret dd_E_firstServing_21 rfl rfl ?_
    exact ⟨rfl, h⟩
def cs_E_fall (C : cr_C) (e : Nat) (l : Nat) : cr_C := (if (C.1 1 (2 * l + e) 0) = 4 then (cs_S_clearRows (cs_C_begin (cs_Y_keep (cr_sI (cs_S_comeTo C (2 * l + e) 0) 1 (2 * l + e) 14 1) (2 * l + e) ((cr_sI (cs_S_comeTo C (2 * l + e) 0) 1 (2 * l + e) 14 1).1 1 (2 * l + e) 3) ((cr_sI (cs_S_comeTo C (2 * l + e) 0) 1 (2 * l + e) 14 1).1 1 (2 * l + e) 5)) (2 * l + e)) (2 * l + e)) else (cs_S_clearRows (cr_sI (cs_S_comeTo C (2 * l + e) 0) 1 (2 * l + e) 14 1) (2 * l + e)))
theorem k_E_fall {e : Nat} {l : Nat} (hq : q0 < ev_b G) (J : ev_J G q0 mi) (hn : n ≤ 200000) (he : e < 2) (hl : l < 3) (hb : (C.2.1 (12 + (2 * l + e))).length + (C.2.1 (2 * l + e)).length + (C.2.1 (6 + (2 * l + e))).length ≤ 8192) (h : cr_K G q0 w C n F Q) : ev_E G mm_E_fall (d + 8) 0 (lv_args 0 [.ref (ev_b G + cr_o 9 e), .int (Int32.ofNat l)]) [] w (cr_yv G q0 n F Q (cs_E_fall C e l)) := by
  unfold cs_E_fall
  refine ev_aload_n dd_E_fall_0 rfl ?_
  refine K_gP (κ := 9) (q := cr_o 15 e) dd_E_fall_1 fr_E_11 h (show e < 2 by omega) rfl ?_
  refine ev_iload_n dd_E_fall_4 rfl ?_
  refine K_aald (κ := 15) (j := l) (t := 5) (q := cr_o 1 (2 * l + e)) dd_E_fall_5 h (show e < 2 by omega) rfl rfl hl (by decide) (if_pos hl) ?_
  refine ev_astore_n dd_E_fall_6 (by decide) ?_
  refine ev_aload_n dd_E_fall_7 rfl ?_
  refine K_gI (κ := 1) dd_E_fall_8 fr_E_46 h (show 2 * l + e < 6 by omega) rfl ?_
  refine ev_ic (v := 4) dd_E_fall_11 (by decide +kernel) ?_
  refine ev_icmp_ne dd_E_fall_12 (fun c1 => ?_) (fun c1 => ?_)
  · rw [if_neg c1]
    refine ev_ic (v := 0) dd_E_fall_19 (by decide +kernel) ?_
    refine ev_istore_n dd_E_fall_20 (by decide) ?_
    refine ev_aload_n dd_E_fall_21 rfl ?_
    refine ev_ic (v := 0) dd_E_fall_22 (by decide +kernel) ?_
    refine ev_callvV [_] dd_E_fall_23 ms_S_comeTo iv_E_49 (h.al (κ := 1) (show 2 * l + e < 6 by omega)) (h.tg (κ := 1) (show 2 * l + e < 6 by omega)) rfl (Nat.le_of_ble_eq_true rfl) (Nat.le_of_ble_eq_true rfl) (k_S_comeTo hq (show 2 * l + e < 6 by omega) 0 h) (fun w2 h2 => ?_)
    refine ev_aload_n dd_E_fall_26 rfl ?_
    refine ev_ic (v := 1) dd_E_fall_27 (by decide +kernel) ?_
    refine K_pI (κ := 1) dd_E_fall_28 fk_E_53 h2 hq (show 2 * l + e < 6 by omega) rfl rfl rfl (fun w3 h3 => ?_)
    refine ev_iload_n dd_E_fall_31 rfl ?_
    refine ev_if_eq dd_E_fall_32 (fun _ => ?_) (fun hc => absurd hc (by decide))
    refine ev_aload_n dd_E_fall_60 rfl ?_
    refine ev_callvV [] dd_E_fall_61 ms_S_clearRows iv_E_77 (h3.al (κ := 1) (show 2 * l + e < 6 by omega)) (h3.tg (κ := 1) (show 2 * l + e < 6 by omega)) rfl (Nat.le_of_ble_eq_true rfl) (Nat.le_of_ble_eq_true rfl) (k_S_clearRows hq (show 2 * l + e < 6 by omega) h3) (fun w4 h4 => ?_)
    refine ev_vret dd_E_fall_64 rfl ?_
    exact ⟨rfl, h4⟩
  · rw [if_pos c1]
    refine ev_ic (v := 1) dd_E_fall_15 (by decide +kernel) ?_
    refine ev_goto dd_E_fall_16 ?_
    refine ev_istore_n dd_E_fall_20 (by decide) ?_
    refine ev_aload_n dd_E_fall_21 rfl ?_
    refine ev_ic (v := 0) dd_E_fall_22 (by decide +kernel) ?_
    refine ev_callvV [_] dd_E_fall_23 ms_S_comeTo iv_E_49 (h.al (κ := 1) (show 2 * l + e < 6 by omega)) (h.tg (κ := 1) (show 2 * l + e < 6 by omega)) rfl (Nat.le_of_ble_eq_true rfl) (Nat.le_of_ble_eq_true rfl) (k_S_comeTo hq (show 2 * l + e < 6 by omega) 0 h) (fun w5 h5 => ?_)
    refine ev_aload_n dd_E_fall_26 rfl ?_
    refine ev_ic (v := 1) dd_E_fall_27 (by decide +kernel) ?_
    refine K_pI (κ := 1) dd_E_fall_28 fk_E_53 h5 hq (show 2 * l + e < 6 by omega) rfl rfl rfl (fun w6 h6 => ?_)
    refine ev_iload_n dd_E_fall_31 rfl ?_
    refine ev_if_eq dd_E_fall_32 (fun hc => absurd hc (by decide)) (fun _ => ?_)
    refine ev_aload_n dd_E_fall_35 rfl ?_
    refine K_gP (κ := 1) (q := cr_o 10 (2 * l + e)) dd_E_fall_36 fr_E_57 h6 (show 2 * l + e < 6 by omega) rfl ?_
    refine ev_aload_n dd_E_fall_39 rfl ?_
    refine K_gI (κ := 1) dd_E_fall_40 fr_E_61 h6 (show 2 * l + e < 6 by omega) rfl ?_
    refine ev_aload_n dd_E_fall_43 rfl ?_
    refine K_gI (κ := 1) dd_E_fall_44 fr_E_64 h6 (show 2 * l + e < 6 by omega) rfl ?_
    refine ev_callvV [_, _] dd_E_fall_47 ms_Y_keep iv_E_67 (h6.al (κ := 10) (show 2 * l + e < 6 by omega)) (h6.tg (κ := 10) (show 2 * l + e < 6 by omega)) rfl (Nat.le_of_ble_eq_true rfl) (Nat.le_of_ble_eq_true rfl) (k_Y_keep hq (show 2 * l + e < 6 by omega) ((cr_sI (cs_S_comeTo C (2 * l + e) 0) 1 (2 * l + e) 14 1).1 1 (2 * l + e) 3) ((cr_sI (cs_S_comeTo C (2 * l + e) 0) 1 (2 * l + e) 14 1).1 1 (2 * l + e) 5) h6) (fun w7 h7 => ?_)
    refine ev_aload_n dd_E_fall_50 rfl ?_
    refine K_gP (κ := 9) (q := cr_o 16 e) dd_E_fall_51 fr_E_19 h7 (show e < 2 by omega) rfl ?_
    refine ev_iload_n dd_E_fall_54 rfl ?_
    refine K_aald (κ := 16) (j := l) (t := 6) (q := cr_o 2 (2 * l + e)) dd_E_fall_55 h7 (show e < 2 by omega) rfl rfl hl (by decide) (if_pos hl) ?_
    refine ev_aload_n dd_E_fall_56 rfl ?_
    refine ev_callvV [_] dd_E_fall_57 ms_C_begin iv_E_73 (h7.al (κ := 2) (show 2 * l + e < 6 by omega)) (h7.tg (κ := 2) (show 2 * l + e < 6 by omega)) rfl (Nat.le_of_ble_eq_true rfl) (Nat.le_of_ble_eq_true rfl) (k_C_begin (C := cs_Y_keep (cr_sI (cs_S_comeTo C (2 * l + e) 0) 1 (2 * l + e) 14 1) (2 * l + e) ((cr_sI (cs_S_comeTo C (2 * l + e) 0) 1 (2 * l + e) 14 1).1 1 (2 * l + e) 3) ((cr_sI (cs_S_comeTo C (2 * l + e) 0) 1 (2 * l + e) 14 1).1 1 (2 * l + e) 5)) hq J hn (show 2 * l + e < 6 by omega) hb h7) (fun w8 h8 => ?_)
    refine ev_aload_n dd_E_fall_60 rfl ?_
    refine ev_callvV [] dd_E_fall_61 ms_S_clearRows iv_E_77 (h8.al (κ := 1) (show 2 * l + e < 6 by omega)) (h8.tg (κ := 1) (show 2 * l + e < 6 by omega)) rfl (Nat.le_of_ble_eq_true rfl) (Nat.le_of_ble_eq_true rfl) (k_S_clearRows hq (show 2 * l + e < 6 by omega) h8) (fun w9 h9 => ?_)
    refine ev_vret dd_E_fall_64 rfl ?_
    exact ⟨rfl, h9⟩
end CrY
