/-! whether some link would be open -/
section CrA
variable {G : ev_gx} {M : ev_mx} {d pc pc' tgt : Nat} {L : List (Nat × Value)} {st : List Value} {w w1 : ev_wd} {P : ev_r → ev_wd → Prop} {q0 mi n n' : Nat} {C : cr_C} {F : ev_wd} {Q : Nat → cr_m → Prop}
def cs_E_someOpenBeside (C : cr_C) (e : Nat) (x : Int32) : Int32 × cr_C := (if ((cs_E_isOpen C e 0).1) = 0 then (if 0 = x then (if (((cs_E_isOpen C e 0).2).1 1 (2 * 0 + e) 0) = 4 then (1, (cs_E_isOpen C e 0).2) else (if ((cs_E_isOpen ((cs_E_isOpen C e 0).2) e 1).1) = 0 then (if 1 = x then (if (((cs_E_isOpen ((cs_E_isOpen C e 0).2) e 1).2).1 1 (2 * 1 + e) 0) = 4 then (1, (cs_E_isOpen ((cs_E_isOpen C e 0).2) e 1).2) else (if ((cs_E_isOpen ((cs_E_isOpen ((cs_E_isOpen C e 0).2) e 1).2) e 2).1) = 0 then (if 2 = x then (if (((cs_E_isOpen ((cs_E_isOpen ((cs_E_isOpen C e 0).2) e 1).2) e 2).2).1 1 (2 * 2 + e) 0) = 4 then (1, (cs_E_isOpen ((cs_E_isOpen ((cs_E_isOpen C e 0).2) e 1).2) e 2).2) else (0, (cs_E_isOpen ((cs_E_isOpen ((cs_E_isOpen C e 0).2) e 1).2) e 2).2)) else (0, (cs_E_isOpen ((cs_E_isOpen ((cs_E_isOpen C e 0).2) e 1).2) e 2).2)) else (1, (cs_E_isOpen ((cs_E_isOpen ((cs_E_isOpen C e 0).2) e 1).2) e 2).2))) else (if ((cs_E_isOpen ((cs_E_isOpen ((cs_E_isOpen C e 0).2) e 1).2) e 2).1) = 0 then (if 2 = x then (if (((cs_E_isOpen ((cs_E_isOpen ((cs_E_isOpen C e 0).2) e 1).2) e 2).2).1 1 (2 * 2 + e) 0) = 4 then (1, (cs_E_isOpen ((cs_E_isOpen ((cs_E_isOpen C e 0).2) e 1).2) e 2).2) else (0, (cs_E_isOpen ((cs_E_isOpen ((cs_E_isOpen C e 0).2) e 1).2) e 2).2)) else (0, (cs_E_isOpen ((cs_E_isOpen ((cs_E_isOpen C e 0).2) e 1).2) e 2).2)) else (1, (cs_E_isOpen ((cs_E_isOpen ((cs_E_isOpen C e 0).2) e 1).2) e 2).2))) else (1, (cs_E_isOpen ((cs_E_isOpen C e 0).2) e 1).2))) else (if ((cs_E_isOpen ((cs_E_isOpen C e 0).2) e 1).1) = 0 then (if 1 = x then (if (((cs_E_isOpen ((cs_E_isOpen C e 0).2) e 1).2).1 1 (2 * 1 + e) 0) = 4 then (1, (cs_E_isOpen ((cs_E_isOpen C e 0).2) e 1).2) else (if ((cs_E_isOpen ((cs_E_isOpen ((cs_E_isOpen C e 0).2) e 1).2) e 2).1) = 0 then (if 2 = x then (if (((cs_E_isOpen ((cs_E_isOpen ((cs_E_isOpen C e 0).2) e 1).2) e 2).2).1 1 (2 * 2 + e) 0) = 4 then (1, (cs_E_isOpen ((cs_E_isOpen ((cs_E_isOpen C e 0).2) e 1).2) e 2).2) else (0, (cs_E_isOpen ((cs_E_isOpen ((cs_E_isOpen C e 0).2) e 1).2) e 2).2)) else (0, (cs_E_isOpen ((cs_E_isOpen ((cs_E_isOpen C e 0).2) e 1).2) e 2).2)) else (1, (cs_E_isOpen ((cs_E_isOpen ((cs_E_isOpen C e 0).2) e 1).2) e 2).2))) else (if ((cs_E_isOpen ((cs_E_isOpen ((cs_E_isOpen C e 0).2) e 1).2) e 2).1) = 0 then (if 2 = x then (if (((cs_E_isOpen ((cs_E_isOpen ((cs_E_isOpen C e 0).2) e 1).2) e 2).2).1 1 (2 * 2 + e) 0) = 4 then (1, (cs_E_isOpen ((cs_E_isOpen ((cs_E_isOpen C e 0).2) e 1).2) e 2).2) else (0, (cs_E_isOpen ((cs_E_isOpen ((cs_E_isOpen C e 0).2) e 1).2) e 2).2)) else (0, (cs_E_isOpen ((cs_E_isOpen ((cs_E_isOpen C e 0).2) e 1).2) e 2).2)) else (1, (cs_E_isOpen ((cs_E_isOpen ((cs_E_isOpen C e 0).2) e 1).2) e 2).2))) else (1, (cs_E_isOpen ((cs_E_isOpen C e 0).2) e 1).2))) else (1, (cs_E_isOpen C e 0).2))
theorem k_E_someOpenBeside {e : Nat} (hq : q0 < ev_b G) (he : e < 2) (x : Int32) (h : cr_K G q0 w C n F Q) : ev_E G mm_E_someOpenBeside (d + 1) 0 (lv_args 0 [.ref (ev_b G + cr_o 9 e), .int x]) [] w (cr_yi G q0 n F Q (cs_E_someOpenBeside C e x)) := by
  unfold cs_E_someOpenBeside
  refine ev_ic (v := 0) dd_E_someOpenBeside_0 (by decide +kernel) ?_
  refine ev_istore_n dd_E_someOpenBeside_1 (by decide) ?_
  refine ev_iload_n dd_E_someOpenBeside_2 rfl ?_
  refine ev_ic (v := 3) dd_E_someOpenBeside_3 (by decide +kernel) ?_
  refine ev_icmp_ge dd_E_someOpenBeside_4 (fun hc => absurd hc (by decide)) (fun _ => ?_)
  refine ev_aload_n dd_E_someOpenBeside_7 rfl ?_
  refine ev_iload_n dd_E_someOpenBeside_8 rfl ?_
  refine ev_callvN [_] dd_E_someOpenBeside_9 ms_E_isOpen iv_E_188 (h.al (κ := 9) (show e < 2 by omega)) (h.tg (κ := 9) (show e < 2 by omega)) rfl (Nat.le_of_ble_eq_true rfl) (Nat.le_of_ble_eq_true rfl) (k_E_isOpen (l := 0) hq (show e < 2 by omega) (by decide) h) (fun w1 h1 => ?_)
  refine ev_if_ne dd_E_someOpenBeside_12 (fun c2 => ?_) (fun c2 => ?_)
  · rw [if_neg c2]
    refine ev_ic (v := 1) dd_E_someOpenBeside_33 (by decide +kernel) ?_
    refine ev_iret dd_E_someOpenBeside_34 rfl rfl ?_
    exact ⟨rfl, h1⟩
  · rw [if_pos c2]
    refine ev_iload_n dd_E_someOpenBeside_15 rfl ?_
    refine ev_iload_n dd_E_someOpenBeside_16 rfl ?_
    refine ev_icmp_ne dd_E_someOpenBeside_17 (fun c3 => ?_) (fun c3 => ?_)
    · rw [if_neg c3]
      refine ev_iinc dd_E_someOpenBeside_35 rfl (by decide) ?_
      refine ev_loc3 (i0 := 0) (i1 := 1) (i2 := 2) rfl rfl (v2 := .int 1) rfl ?_
      refine ev_goto dd_E_someOpenBeside_38 ?_
      refine ev_iload_n dd_E_someOpenBeside_2 rfl ?_
      refine ev_ic (v := 3) dd_E_someOpenBeside_3 (by decide +kernel) ?_
      refine ev_icmp_ge dd_E_someOpenBeside_4 (fun hc => absurd hc (by decide)) (fun _ => ?_)
      refine ev_aload_n dd_E_someOpenBeside_7 rfl ?_
      refine ev_iload_n dd_E_someOpenBeside_8 rfl ?_
      refine ev_callvN [_] dd_E_someOpenBeside_9 ms_E_isOpen iv_E_188 (h1.al (κ := 9) (show e < 2 by omega)) (h1.tg (κ := 9) (show e < 2 by omega)) rfl (Nat.le_of_ble_eq_true rfl) (Nat.le_of_ble_eq_true rfl) (k_E_isOpen (l := 1) hq (show e < 2 by omega) (by decide) h1) (fun w4 h4 => ?_)
      refine ev_if_ne dd_E_someOpenBeside_12 (fun c5 => ?_) (fun c5 => ?_)
      · rw [if_neg c5]
        refine ev_ic (v := 1) dd_E_someOpenBeside_33 (by decide +kernel) ?_
        refine ev_iret dd_E_someOpenBeside_34 rfl rfl ?_
        exact ⟨rfl, h4⟩
      · rw [if_pos c5]
        refine ev_iload_n dd_E_someOpenBeside_15 rfl ?_
        refine ev_iload_n dd_E_someOpenBeside_16 rfl ?_
        refine ev_icmp_ne dd_E_someOpenBeside_17 (fun c6 => ?_) (fun c6 => ?_)
        · rw [if_neg c6]
          refine ev_iinc dd_E_someOpenBeside_35 rfl (by decide) ?_
          refine ev_loc3 (i0 := 0) (i1 := 1) (i2 := 2) rfl rfl (v2 := .int 2) rfl ?_
          refine ev_goto dd_E_someOpenBeside_38 ?_
          refine ev_iload_n dd_E_someOpenBeside_2 rfl ?_
          refine ev_ic (v := 3) dd_E_someOpenBeside_3 (by decide +kernel) ?_
          refine ev_icmp_ge dd_E_someOpenBeside_4 (fun hc => absurd hc (by decide)) (fun _ => ?_)
          refine ev_aload_n dd_E_someOpenBeside_7 rfl ?_
          refine ev_iload_n dd_E_someOpenBeside_8 rfl ?_
          refine ev_callvN [_] dd_E_someOpenBeside_9 ms_E_isOpen iv_E_188 (h4.al (κ := 9) (show e < 2 by omega)) (h4.tg (κ := 9) (show e < 2 by omega)) rfl (Nat.le_of_ble_eq_true rfl) (Nat.le_of_ble_eq_true rfl) (k_E_isOpen (l := 2) hq (show e < 2 by omega) (by decide) h4) (fun w7 h7 => ?_)
          refine ev_if_ne dd_E_someOpenBeside_12 (fun c8 => ?_) (fun c8 => ?_)
          · rw [if_neg c8]
            refine ev_ic (v := 1) dd_E_someOpenBeside_33 (by decide +kernel) ?_
            refine ev_iret dd_E_someOpenBeside_34 rfl rfl ?_
            exact ⟨rfl, h7⟩
          · rw [if_pos c8]
            refine ev_iload_n dd_E_someOpenBeside_15 rfl ?_
            refine ev_iload_n dd_E_someOpenBeside_16 rfl ?_
            refine ev_icmp_ne dd_E_someOpenBeside_17 (fun c9 => ?_) (fun c9 => ?_)
            · rw [if_neg c9]
              refine ev_iinc dd_E_someOpenBeside_35 rfl (by decide) ?_
              refine ev_loc3 (i0 := 0) (i1 := 1) (i2 := 2) rfl rfl (v2 := .int 3) rfl ?_
              refine ev_goto dd_E_someOpenBeside_38 ?_
              refine ev_iload_n dd_E_someOpenBeside_2 rfl ?_
              refine ev_ic (v := 3) dd_E_someOpenBeside_3 (by decide +kernel) ?_
              refine ev_icmp_ge dd_E_someOpenBeside_4 (fun _ => ?_) (fun hc => absurd hc (by decide))
              refine ev_ic (v := 0) dd_E_someOpenBeside_41 (by decide +kernel) ?_
              refine ev_iret dd_E_someOpenBeside_42 rfl rfl ?_
              exact ⟨rfl, h7⟩
            · rw [if_pos c9]
              refine ev_aload_n dd_E_someOpenBeside_20 rfl ?_
              refine K_gP (κ := 9) (q := cr_o 15 e) dd_E_someOpenBeside_21 fr_E_11 h7 (show e < 2 by omega) rfl ?_
              refine ev_iload_n dd_E_someOpenBeside_24 rfl ?_
              refine K_aald (κ := 15) (j := 2) (t := 5) (q := cr_o 1 (2 * 2 + e)) dd_E_someOpenBeside_25 h7 (show e < 2 by omega) rfl rfl (by decide) (by decide) rfl ?_
              refine K_gI (κ := 1) dd_E_someOpenBeside_26 fr_E_46 h7 (show 2 * 2 + e < 6 by omega) rfl ?_
              refine ev_ic (v := 4) dd_E_someOpenBeside_29 (by decide +kernel) ?_
              refine ev_icmp_ne dd_E_someOpenBeside_30 (fun c10 => ?_) (fun c10 => ?_)
              · rw [if_neg c10]
                refine ev_iinc dd_E_someOpenBeside_35 rfl (by decide) ?_
                refine ev_loc3 (i0 := 0) (i1 := 1) (i2 := 2) rfl rfl (v2 := .int 3) rfl ?_
                refine ev_goto dd_E_someOpenBeside_38 ?_
                refine ev_iload_n dd_E_someOpenBeside_2 rfl ?_
                refine ev_ic (v := 3) dd_E_someOpenBeside_3 (by decide +kernel) ?_
                refine ev_icmp_ge dd_E_someOpenBeside_4 (fun _ => ?_) (fun hc => absurd hc (by decide))
                refine ev_ic (v := 0) dd_E_someOpenBeside_41 (by decide +kernel) ?_
                refine ev_iret dd_E_someOpenBeside_42 rfl rfl ?_
                exact ⟨rfl, h7⟩
              · rw [if_pos c10]
                refine ev_ic (v := 1) dd_E_someOpenBeside_33 (by decide +kernel) ?_
                refine ev_iret dd_E_someOpenBeside_34 rfl rfl ?_
                exact ⟨rfl, h7⟩
        · rw [if_pos c6]
          refine ev_aload_n dd_E_someOpenBeside_20 rfl ?_
          refine K_gP (κ := 9) (q := cr_o 15 e) dd_E_someOpenBeside_21 fr_E_11 h4 (show e < 2 by omega) rfl ?_
          refine ev_iload_n dd_E_someOpenBeside_24 rfl ?_
          refine K_aald (κ := 15) (j := 1) (t := 5) (q := cr_o 1 (2 * 1 + e)) dd_E_someOpenBeside_25 h4 (show e < 2 by omega) rfl rfl (by decide) (by decide) rfl ?_
          refine K_gI (κ := 1) dd_E_someOpenBeside_26 fr_E_46 h4 (show 2 * 1 + e < 6 by omega) rfl ?_
          refine ev_ic (v := 4) dd_E_someOpenBeside_29 (by decide +kernel) ?_
          refine ev_icmp_ne dd_E_someOpenBeside_30 (fun c11 => ?_) (fun c11 => ?_)
          · rw [if_neg c11]
            refine ev_iinc dd_E_someOpenBeside_35 rfl (by decide) ?_
            refine ev_loc3 (i0 := 0) (i1 := 1) (i2 := 2) rfl rfl (v2 := .int 2) rfl ?_
            refine ev_goto dd_E_someOpenBeside_38 ?_
            refine ev_iload_n dd_E_someOpenBeside_2 rfl ?_
            refine ev_ic (v := 3) dd_E_someOpenBeside_3 (by decide +kernel) ?_
            refine ev_icmp_ge dd_E_someOpenBeside_4 (fun hc => absurd hc (by decide)) (fun _ => ?_)
            refine ev_aload_n dd_E_someOpenBeside_7 rfl ?_
            refine ev_iload_n dd_E_someOpenBeside_8 rfl ?_
            refine ev_callvN [_] dd_E_someOpenBeside_9 ms_E_isOpen iv_E_188 (h4.al (κ := 9) (show e < 2 by omega)) (h4.tg (κ := 9) (show e < 2 by omega)) rfl (Nat.le_of_ble_eq_true rfl) (Nat.le_of_ble_eq_true rfl) (k_E_isOpen (l := 2) hq (show e < 2 by omega) (by decide) h4) (fun w12 h12 => ?_)
            refine ev_if_ne dd_E_someOpenBeside_12 (fun c13 => ?_) (fun c13 => ?_)
            · rw [if_neg c13]
              refine ev_ic (v := 1) dd_E_someOpenBeside_33 (by decide +kernel) ?_
              refine ev_iret dd_E_someOpenBeside_34 rfl rfl ?_
              exact ⟨rfl, h12⟩
            · rw [if_pos c13]
              refine ev_iload_n dd_E_someOpenBeside_15 rfl ?_
              refine ev_iload_n dd_E_someOpenBeside_16 rfl ?_
              refine ev_icmp_ne dd_E_someOpenBeside_17 (fun c14 => ?_) (fun c14 => ?_)
              · rw [if_neg c14]
                refine ev_iinc dd_E_someOpenBeside_35 rfl (by decide) ?_
                refine ev_loc3 (i0 := 0) (i1 := 1) (i2 := 2) rfl rfl (v2 := .int 3) rfl ?_
                refine ev_goto dd_E_someOpenBeside_38 ?_
                refine ev_iload_n dd_E_someOpenBeside_2 rfl ?_
                refine ev_ic (v := 3) dd_E_someOpenBeside_3 (by decide +kernel) ?_
                refine ev_icmp_ge dd_E_someOpenBeside_4 (fun _ => ?_) (fun hc => absurd hc (by decide))
                refine ev_ic (v := 0) dd_E_someOpenBeside_41 (by decide +kernel) ?_
                refine ev_iret dd_E_someOpenBeside_42 rfl rfl ?_
                exact ⟨rfl, h12⟩
              · rw [if_pos c14]
                refine ev_aload_n dd_E_someOpenBeside_20 rfl ?_
                refine K_gP (κ := 9) (q := cr_o 15 e) dd_E_someOpenBeside_21 fr_E_11 h12 (show e < 2 by omega) rfl ?_
                refine ev_iload_n dd_E_someOpenBeside_24 rfl ?_
                refine K_aald (κ := 15) (j := 2) (t := 5) (q := cr_o 1 (2 * 2 + e)) dd_E_someOpenBeside_25 h12 (show e < 2 by omega) rfl rfl (by decide) (by decide) rfl ?_
                refine K_gI (κ := 1) dd_E_someOpenBeside_26 fr_E_46 h12 (show 2 * 2 + e < 6 by omega) rfl ?_
                refine ev_ic (v := 4) dd_E_someOpenBeside_29 (by decide +kernel) ?_
                refine ev_icmp_ne dd_E_someOpenBeside_30 (fun c15 => ?_) (fun c15 => ?_)
                · rw [if_neg c15]
                  refine ev_iinc dd_E_someOpenBeside_35 rfl (by decide) ?_
                  refine ev_loc3 (i0 := 0) (i1 := 1) (i2 := 2) rfl rfl (v2 := .int 3) rfl ?_
                  refine ev_goto dd_E_someOpenBeside_38 ?_
                  refine ev_iload_n dd_E_someOpenBeside_2 rfl ?_
                  refine ev_ic (v := 3) dd_E_someOpenBeside_3 (by decide +kernel) ?_
                  refine ev_icmp_ge dd_E_someOpenBeside_4 (fun _ => ?_) (fun hc => absurd hc (by decide))
                  refine ev_ic (v := 0) dd_E_someOpenBeside_41 (by decide +kernel) ?_
                  refine ev_iret dd_E_someOpenBeside_42 rfl rfl ?_
                  exact ⟨rfl, h12⟩
                · rw [if_pos c15]
                  refine ev_ic (v := 1) dd_E_someOpenBeside_33 (by decide +kernel) ?_
                  refine ev_iret dd_E_someOpenBeside_34 rfl rfl ?_
                  exact ⟨rfl, h12⟩
          · rw [if_pos c11]
            refine ev_ic (v := 1) dd_E_someOpenBeside_33 (by decide +kernel) ?_
            refine ev_iret dd_E_someOpenBeside_34 rfl rfl ?_
            exact ⟨rfl, h4⟩
    · rw [if_pos c3]
      refine ev_aload_n dd_E_someOpenBeside_20 rfl ?_
      refine K_gP (κ := 9) (q := cr_o 15 e) dd_E_someOpenBeside_21 fr_E_11 h1 (show e < 2 by omega) rfl ?_
      refine ev_iload_n dd_E_someOpenBeside_24 rfl ?_
      refine K_aald (κ := 15) (j := 0) (t := 5) (q := cr_o 1 (2 * 0 + e)) dd_E_someOpenBeside_25 h1 (show e < 2 by omega) rfl rfl (by decide) (by decide) rfl ?_
      refine K_gI (κ := 1) dd_E_someOpenBeside_26 fr_E_46 h1 (show 2 * 0 + e < 6 by omega) rfl ?_
      refine ev_ic (v := 4) dd_E_someOpenBeside_29 (by decide +kernel) ?_
      refine ev_icmp_ne dd_E_someOpenBeside_30 (fun c16 => ?_) (fun c16 => ?_)
      · rw [if_neg c16]
        refine ev_iinc dd_E_someOpenBeside_35 rfl (by decide) ?_
        refine ev_loc3 (i0 := 0) (i1 := 1) (i2 := 2) rfl rfl (v2 := .int 1) rfl ?_
        refine ev_goto dd_E_someOpenBeside_38 ?_
        refine ev_iload_n dd_E_someOpenBeside_2 rfl ?_
        refine ev_ic (v := 3) dd_E_someOpenBeside_3 (by decide +kernel) ?_
        refine ev_icmp_ge dd_E_someOpenBeside_4 (fun hc => absurd hc (by decide)) (fun _ => ?_)
        refine ev_aload_n dd_E_someOpenBeside_7 rfl ?_
        refine ev_iload_n dd_E_someOpenBeside_8 rfl ?_
        refine ev_callvN [_] dd_E_someOpenBeside_9 ms_E_isOpen iv_E_188 (h1.al (κ := 9) (show e < 2 by omega)) (h1.tg (κ := 9) (show e < 2 by omega)) rfl (Nat.le_of_ble_eq_true rfl) (Nat.le_of_ble_eq_true rfl) (k_E_isOpen (l := 1) hq (show e < 2 by omega) (by decide) h1) (fun w17 h17 => ?_)
        refine ev_if_ne dd_E_someOpenBeside_12 (fun c18 => ?_) (fun c18 => ?_)
        · rw [if_neg c18]
          refine ev_ic (v := 1) dd_E_someOpenBeside_33 (by decide +kernel) ?_
          refine ev_iret dd_E_someOpenBeside_34 rfl rfl ?_
          exact ⟨rfl, h17⟩
        · rw [if_pos c18]
          refine ev_iload_n dd_E_someOpenBeside_15 rfl ?_
          refine ev_iload_n dd_E_someOpenBeside_16 rfl ?_
          refine ev_icmp_ne dd_E_someOpenBeside_17 (fun c19 => ?_) (fun c19 => ?_)
          · rw [if_neg c19]
            refine ev_iinc dd_E_someOpenBeside_35 rfl (by decide) ?_
            refine ev_loc3 (i0 := 0) (i1 := 1) (i2 := 2) rfl rfl (v2 := .int 2) rfl ?_
            refine ev_goto dd_E_someOpenBeside_38 ?_
            refine ev_iload_n dd_E_someOpenBeside_2 rfl ?_
            refine ev_ic (v := 3) dd_E_someOpenBeside_3 (by decide +kernel) ?_
            refine ev_icmp_ge dd_E_someOpenBeside_4 (fun hc => absurd hc (by decide)) (fun _ => ?_)
            refine ev_aload_n dd_E_someOpenBeside_7 rfl ?_
            refine ev_iload_n dd_E_someOpenBeside_8 rfl ?_
            refine ev_callvN [_] dd_E_someOpenBeside_9 ms_E_isOpen iv_E_188 (h17.al (κ := 9) (show e < 2 by omega)) (h17.tg (κ := 9) (show e < 2 by omega)) rfl (Nat.le_of_ble_eq_true rfl) (Nat.le_of_ble_eq_true rfl) (k_E_isOpen (l := 2) hq (show e < 2 by omega) (by decide) h17) (fun w20 h20 => ?_)
            refine ev_if_ne dd_E_someOpenBeside_12 (fun c21 => ?_) (fun c21 => ?_)
            · rw [if_neg c21]
              refine ev_ic (v := 1) dd_E_someOpenBeside_33 (by decide +kernel) ?_
              refine ev_iret dd_E_someOpenBeside_34 rfl rfl ?_
              exact ⟨rfl, h20⟩
            · rw [if_pos c21]
              refine ev_iload_n dd_E_someOpenBeside_15 rfl ?_
              refine ev_iload_n dd_E_someOpenBeside_16 rfl ?_
              refine ev_icmp_ne dd_E_someOpenBeside_17 (fun c22 => ?_) (fun c22 => ?_)
              · rw [if_neg c22]
                refine ev_iinc dd_E_someOpenBeside_35 rfl (by decide) ?_
                refine ev_loc3 (i0 := 0) (i1 := 1) (i2 := 2) rfl rfl (v2 := .int 3) rfl ?_
                refine ev_goto dd_E_someOpenBeside_38 ?_
                refine ev_iload_n dd_E_someOpenBeside_2 rfl ?_
                refine ev_ic (v := 3) dd_E_someOpenBeside_3 (by decide +kernel) ?_
                refine ev_icmp_ge dd_E_someOpenBeside_4 (fun _ => ?_) (fun hc => absurd hc (by decide))
                refine ev_ic (v := 0) dd_E_someOpenBeside_41 (by decide +kernel) ?_
                refine ev_iret dd_E_someOpenBeside_42 rfl rfl ?_
                exact ⟨rfl, h20⟩
              · rw [if_pos c22]
                refine ev_aload_n dd_E_someOpenBeside_20 rfl ?_
                refine K_gP (κ := 9) (q := cr_o 15 e) dd_E_someOpenBeside_21 fr_E_11 h20 (show e < 2 by omega) rfl ?_
                refine ev_iload_n dd_E_someOpenBeside_24 rfl ?_
                refine K_aald (κ := 15) (j := 2) (t := 5) (q := cr_o 1 (2 * 2 + e)) dd_E_someOpenBeside_25 h20 (show e < 2 by omega) rfl rfl (by decide) (by decide) rfl ?_
                refine K_gI (κ := 1) dd_E_someOpenBeside_26 fr_E_46 h20 (show 2 * 2 + e < 6 by omega) rfl ?_
                refine ev_ic (v := 4) dd_E_someOpenBeside_29 (by decide +kernel) ?_
                refine ev_icmp_ne dd_E_someOpenBeside_30 (fun c23 => ?_) (fun c23 => ?_)
                · rw [if_neg c23]
                  refine ev_iinc dd_E_someOpenBeside_35 rfl (by decide) ?_
                  refine ev_loc3 (i0 := 0) (i1 := 1) (i2 := 2) rfl rfl (v2 := .int 3) rfl ?_
                  refine ev_goto dd_E_someOpenBeside_38 ?_
                  refine ev_iload_n dd_E_someOpenBeside_2 rfl ?_
                  refine ev_ic (v := 3) dd_E_someOpenBeside_3 (by decide +kernel) ?_
                  refine ev_icmp_ge dd_E_someOpenBeside_4 (fun _ => ?_) (fun hc => absurd hc (by decide))
                  refine ev_ic (v := 0) dd_E_someOpenBeside_41 (by decide +kernel) ?_
                  refine ev_iret dd_E_someOpenBeside_42 rfl rfl ?_
                  exact ⟨rfl, h20⟩
                · rw [if_pos c23]
                  refine ev_ic (v := 1) dd_E_someOpenBeside_33 (by decide +kernel) ?_
                  refine ev_iret dd_E_someOpenBeside_34 rfl rfl ?_
                  exact ⟨rfl, h20⟩
          · rw [if_pos c19]
            refine ev_aload_n dd_E_someOpenBeside_20 rfl ?_
            refine K_gP (κ := 9) (q := cr_o 15 e) dd_E_someOpenBeside_21 fr_E_11 h17 (show e < 2 by omega) rfl ?_
            refine ev_iload_n dd_E_someOpenBeside_24 rfl ?_
            refine K_aald (κ := 15) (j := 1) (t := 5) (q := cr_o 1 (2 * 1 + e)) dd_E_someOpenBeside_25 h17 (show e < 2 by omega) rfl rfl (by decide) (by decide) rfl ?_
            refine K_gI (κ := 1) dd_E_someOpenBeside_26 fr_E_46 h17 (show 2 * 1 + e < 6 by omega) rfl ?_
            refine ev_ic (v := 4) dd_E_someOpenBeside_29 (by decide +kernel) ?_
            refine ev_icmp_ne dd_E_someOpenBeside_30 (fun c24 => ?_) (fun c24 => ?_)
            · rw [if_neg c24]
              refine ev_iinc dd_E_someOpenBeside_35 rfl (by decide) ?_
              refine ev_loc3 (i0 := 0) (i1 := 1) (i2 := 2) rfl rfl (v2 := .int 2) rfl ?_
              refine ev_goto dd_E_someOpenBeside_38 ?_
              refine ev_iload_n dd_E_someOpenBeside_2 rfl ?_
              refine ev_ic (v := 3) dd_E_someOpenBeside_3 (by decide +kernel) ?_
              refine ev_icmp_ge dd_E_someOpenBeside_4 (fun hc => absurd hc (by decide)) (fun _ => ?_)
              refine ev_aload_n dd_E_someOpenBeside_7 rfl ?_
              refine ev_iload_n dd_E_someOpenBeside_8 rfl ?_
              refine ev_callvN [_] dd_E_someOpenBeside_9 ms_E_isOpen iv_E_188 (h17.al (κ := 9) (show e < 2 by omega)) (h17.tg (κ := 9) (show e < 2 by omega)) rfl (Nat.le_of_ble_eq_true rfl) (Nat.le_of_ble_eq_true rfl) (k_E_isOpen (l := 2) hq (show e < 2 by omega) (by decide) h17) (fun w25 h25 => ?_)
              refine ev_if_ne dd_E_someOpenBeside_12 (fun c26 => ?_) (fun c26 => ?_)
              · rw [if_neg c26]
                refine ev_ic (v := 1) dd_E_someOpenBeside_33 (by decide +kernel) ?_
                refine ev_iret dd_E_someOpenBeside_34 rfl rfl ?_
                exact ⟨rfl, h25⟩
              · rw [if_pos c26]
                refine ev_iload_n dd_E_someOpenBeside_15 rfl ?_
                refine ev_iload_n dd_E_someOpenBeside_16 rfl ?_
                refine ev_icmp_ne dd_E_someOpenBeside_17 (fun c27 => ?_) (fun c27 => ?_)
                · rw [if_neg c27]
                  refine ev_iinc dd_E_someOpenBeside_35 rfl (by decide) ?_
                  refine ev_loc3 (i0 := 0) (i1 := 1) (i2 := 2) rfl rfl (v2 := .int 3) rfl ?_
                  refine ev_goto dd_E_someOpenBeside_38 ?_
                  refine ev_iload_n dd_E_someOpenBeside_2 rfl ?_
                  refine ev_ic (v := 3) dd_E_someOpenBeside_3 (by decide +kernel) ?_
                  refine ev_icmp_ge dd_E_someOpenBeside_4 (fun _ => ?_) (fun hc => absurd hc (by decide))
                  refine ev_ic (v := 0) dd_E_someOpenBeside_41 (by decide +kernel) ?_
                  refine ev_iret dd_E_someOpenBeside_42 rfl rfl ?_
                  exact ⟨rfl, h25⟩
                · rw [if_pos c27]
                  refine ev_aload_n dd_E_someOpenBeside_20 rfl ?_
                  refine K_gP (κ := 9) (q := cr_o 15 e) dd_E_someOpenBeside_21 fr_E_11 h25 (show e < 2 by omega) rfl ?_
                  refine ev_iload_n dd_E_someOpenBeside_24 rfl ?_
                  refine K_aald (κ := 15) (j := 2) (t := 5) (q := cr_o 1 (2 * 2 + e)) dd_E_someOpenBeside_25 h25 (show e < 2 by omega) rfl rfl (by decide) (by decide) rfl ?_
                  refine K_gI (κ := 1) dd_E_someOpenBeside_26 fr_E_46 h25 (show 2 * 2 + e < 6 by omega) rfl ?_
                  refine ev_ic (v := 4) dd_E_someOpenBeside_29 (by decide +kernel) ?_
                  refine ev_icmp_ne dd_E_someOpenBeside_30 (fun c28 => ?_) (fun c28 => ?_)
                  · rw [if_neg c28]
                    refine ev_iinc dd_E_someOpenBeside_35 rfl (by decide) ?_
                    refine ev_loc3 (i0 := 0) (i1 := 1) (i2 := 2) rfl rfl (v2 := .int 3) rfl ?_
                    refine ev_goto dd_E_someOpenBeside_38 ?_
                    refine ev_iload_n dd_E_someOpenBeside_2 rfl ?_
                    refine ev_ic (v := 3) dd_E_someOpenBeside_3 (by decide +kernel) ?_
                    refine ev_icmp_ge dd_E_someOpenBeside_4 (fun _ => ?_) (fun hc => absurd hc (by decide))
                    refine ev_ic (v := 0) dd_E_someOpenBeside_41 (by decide +kernel) ?_
                    refine ev_iret dd_E_someOpenBeside_42 rfl rfl ?_
                    exact ⟨rfl, h25⟩
                  · rw [if_pos c28]
                    refine ev_ic (v := 1) dd_E_someOpenBeside_33 (by decide +kernel) ?_
                    refine ev_iret dd_E_someOpenBeside_34 rfl rfl ?_
                    exact ⟨rfl, h25⟩
            · rw [if_pos c24]
              refine ev_ic (v := 1) dd_E_someOpenBeside_33 (by decide +kernel) ?_
              refine ev_iret dd_E_someOpenBeside_34 rfl rfl ?_
              exact ⟨rfl, h17⟩
      · rw [if_pos c16]
        refine ev_ic (v := 1) dd_E_someOpenBeside_33 (by decide +kernel) ?_
        refine ev_iret dd_E_someOpenBeside_34 rfl rfl ?_
        exact ⟨rfl, h1⟩
end CrA
