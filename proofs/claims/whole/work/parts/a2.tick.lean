/-! a tick of the class -/
theorem ms_oth {e : Nat} (he : e < 2) : (1 : Int32) - Int32.ofNat e = Int32.ofNat (1 - e) := by
  rcases (show e = 0 ∨ e = 1 by omega) with rfl | rfl <;> decide
theorem ms_pl {l e : Nat} (hl : l < 3) (he : e < 2) : Int32.ofNat l * 2 + Int32.ofNat e = Int32.ofNat (2 * l + e) := by
  rcases (show l = 0 ∨ l = 1 ∨ l = 2 by omega) with rfl | rfl | rfl <;> rcases (show e = 0 ∨ e = 1 by omega) with rfl | rfl <;> decide
def cs_P_arr1 (C : cr_C) (l e t : Nat) : Int32 × cr_C := if C.1 4 (2 * l + e) 1 ≤ 0 then (if C.1 3 t 0 = 4 then (1, cs_E_numberedComes C e l t) else (1, cs_E_statusComes C e l t)) else if (cr_sI C 4 (2 * l + e) 1 (C.1 4 (2 * l + e) 1 - 1)).1 4 (2 * l + e) 0 = 2 then (0, cs_E_damagedComes (cr_sI C 4 (2 * l + e) 1 (C.1 4 (2 * l + e) 1 - 1)) e l) else (0, cr_sI C 4 (2 * l + e) 1 (C.1 4 (2 * l + e) 1 - 1))
def cs_P_arrive (C : cr_C) (l e : Nat) : Int32 × cr_C := if C.1 3 (2 * l + (1 - e)) 0 = 0 then (0, C) else cs_P_arr1 C l e (2 * l + (1 - e))
theorem cw_arrive (C : cr_C) {l e : Nat} (hl : l < 3) (he : e < 2) : cw C (cs_P_arrive C l e).2 1 := by
  unfold cs_P_arrive cs_P_arr1
  repeat' split
  · exact (cw_refl C).le (by omega)
  · exact cw_numbered C he hl (by omega)
  · exact (cw_status C _ he hl).le (by omega)
  · exact ((cw_sI (cw_refl C) rfl : cw C (cr_sI C 4 (2 * l + e) 1 (C.1 4 (2 * l + e) 1 - 1)) 0).then (cw_damaged _ he hl)).le (by omega)
  · exact (cw_sI (cw_refl C) rfl : cw C (cr_sI C 4 (2 * l + e) 1 (C.1 4 (2 * l + e) 1 - 1)) 0).le (by omega)
section CrV2
variable {G : ev_gx} {M : ev_mx} {d pc pc' tgt : Nat} {L : List (Nat × Value)} {st : List Value} {w w1 : ev_wd} {P : ev_r → ev_wd → Prop} {q0 mi n n' : Nat} {C : cr_C} {F : ev_wd} {Q : Nat → cr_m → Prop}
theorem k_P_place {l e : Nat} (hl : l < 3) (he : e < 2) : ev_E G mm_P_faultPlace d 0 (lv_args 0 [.int (Int32.ofNat l), .int (Int32.ofNat e)]) [] w (ev_ret (some (.int (Int32.ofNat (2 * l + e)))) w) := by
  refine ev_iload_n dd_P_faultPlace_0 rfl ?_
  refine ev_ic (v := 2) dd_P_faultPlace_1 (by decide +kernel) ?_
  refine ev_imul dd_P_faultPlace_2 ?_
  refine ev_iload_n dd_P_faultPlace_3 rfl ?_
  refine ev_iadd dd_P_faultPlace_4 ?_
  refine ev_iret dd_P_faultPlace_5 rfl rfl ?_
  rw [ms_pl hl he]
  exact ⟨rfl, rfl⟩
theorem k_P_arrive {l e : Nat} (hq : q0 < ev_b G) (J : ev_J G q0 mi) (hn : n + 1 ≤ 200000) (hl : l < 3) (he : e < 2) (hv : cv C) (hz : cz C ≤ 8000) (h : cr_K G q0 w C n F Q) :
    ev_E G mm_P_arrive (d + 12) 0 (lv_args 0 [.ref (ev_b G + cr_o 12 0), .int (Int32.ofNat l), .int (Int32.ofNat e)]) [] w (cr_yi G q0 (n + 1) F Q (cs_P_arrive C l e)) := by
  have h0 : 0 < 1 := Nat.zero_lt_one
  have hs : 2 * l + e < 6 := by omega
  have ho : 1 - e < 2 := by omega
  have ht : 2 * l + (1 - e) < 6 := by omega
  have hb : cr_b C (2 * l + e) := cr_b_of hs hz
  unfold cs_P_arrive
  refine ev_aload_n dd_P_arrive_0 rfl ?_
  refine K_gP (κ := 12) (q := cr_o 13 0) dd_P_arrive_1 fr_P_11 h h0 rfl ?_
  refine ev_ic (v := 1) dd_P_arrive_4 (by decide +kernel) ?_
  refine ev_iload_n dd_P_arrive_5 rfl ?_
  refine ev_isub dd_P_arrive_6 ?_
  rw [ms_oth he]
  refine K_aald (κ := 13) (j := 1 - e) (t := 4) (q := cr_o 9 (1 - e)) dd_P_arrive_7 h h0 rfl rfl ho (by decide) (if_pos ho) ?_
  refine K_gP (κ := 9) (q := cr_o 15 (1 - e)) dd_P_arrive_8 fr_P_27 h ho rfl ?_
  refine ev_iload_n dd_P_arrive_11 rfl ?_
  refine K_aald (κ := 15) (j := l) (t := 5) (q := cr_o 1 (2 * l + (1 - e))) dd_P_arrive_12 h ho rfl rfl hl (by decide) (if_pos hl) ?_
  refine K_gP (κ := 1) (q := cr_o 3 (2 * l + (1 - e))) dd_P_arrive_13 fr_P_188 h ht rfl ?_
  generalize 2 * l + (1 - e) = t at *
  refine ev_astore_n dd_P_arrive_16 (by decide) ?_
  refine ev_aload_n dd_P_arrive_17 rfl ?_
  refine K_gI (κ := 3) dd_P_arrive_18 fr_P_192 h ht rfl ?_
  refine ev_if_ne dd_P_arrive_21 (fun c => ?_) (fun c => ?_)
  · rw [if_neg c]
    unfold cs_P_arr1
    refine ev_aload_n dd_P_arrive_26 rfl ?_
    refine K_gP (κ := 12) (q := cr_o 14 0) dd_P_arrive_27 fr_P_18 h h0 rfl ?_
    refine ev_iload_n dd_P_arrive_30 rfl ?_
    refine ev_iload_n dd_P_arrive_31 rfl ?_
    refine ev_callsI [_, _] dd_P_arrive_32 ms_P_faultPlace is_P_51 rfl (Nat.le_of_ble_eq_true rfl) (Nat.le_of_ble_eq_true rfl) (k_P_place hl he) ?_
    refine K_aald (κ := 14) (j := 2 * l + e) (t := 7) (q := cr_o 4 (2 * l + e)) dd_P_arrive_35 h h0 rfl rfl hs (by decide) (if_pos hs) ?_
    refine ev_astore dd_P_arrive_36 (by decide) ?_
    refine ev_aload dd_P_arrive_38 rfl ?_
    refine K_gI (κ := 4) dd_P_arrive_40 fr_P_58 h hs rfl ?_
    refine ev_if_le dd_P_arrive_43 (fun c2 => ?_) (fun c2 => ?_)
    · rw [if_pos c2]
      refine ev_aload_n dd_P_arrive_78 rfl ?_
      refine K_gI (κ := 3) dd_P_arrive_79 fr_P_192 h ht rfl ?_
      refine ev_ic (v := 4) dd_P_arrive_82 (by decide +kernel) ?_
      refine ev_icmp_ne dd_P_arrive_83 (fun c3 => ?_) (fun c3 => ?_)
      · rw [if_neg c3]
        refine ev_aload_n dd_P_arrive_100 rfl ?_
        refine K_gP (κ := 12) (q := cr_o 13 0) dd_P_arrive_101 fr_P_11 h h0 rfl ?_
        refine ev_iload_n dd_P_arrive_104 rfl ?_
        refine K_aald (κ := 13) (j := e) (t := 4) (q := cr_o 9 e) dd_P_arrive_105 h h0 rfl rfl he (by decide) (if_pos he) ?_
        refine ev_iload_n dd_P_arrive_106 rfl ?_
        refine ev_aload_n dd_P_arrive_107 rfl ?_
        refine ev_callvV [_, _] dd_P_arrive_108 ms_E_statusComes iv_P_204 (h.al (κ := 9) he) (h.tg (κ := 9) he) rfl (Nat.le_of_ble_eq_true rfl) (Nat.le_of_ble_eq_true rfl) (k_E_statusComes (C := C) (l := l) hq J (by omega) he hl ht hb h) (fun w3 h3 => ?_)
        refine ev_ic (v := 1) dd_P_arrive_111 (by decide +kernel) ?_
        refine ev_iret dd_P_arrive_112 rfl rfl ?_
        exact ⟨rfl, h3.more (Nat.le_succ n)⟩
      · rw [if_pos c3]
        refine ev_aload_n dd_P_arrive_86 rfl ?_
        refine K_gP (κ := 12) (q := cr_o 13 0) dd_P_arrive_87 fr_P_11 h h0 rfl ?_
        refine ev_iload_n dd_P_arrive_90 rfl ?_
        refine K_aald (κ := 13) (j := e) (t := 4) (q := cr_o 9 e) dd_P_arrive_91 h h0 rfl rfl he (by decide) (if_pos he) ?_
        refine ev_iload_n dd_P_arrive_92 rfl ?_
        refine ev_aload_n dd_P_arrive_93 rfl ?_
        refine ev_callvV [_, _] dd_P_arrive_94 ms_E_numberedComes iv_P_200 (h.al (κ := 9) he) (h.tg (κ := 9) he) rfl (Nat.le_of_ble_eq_true rfl) (Nat.le_of_ble_eq_true rfl) (k_E_numberedComes hq J hn he hl ht hb (cr_nu_of he hl ht hv hz) (cr_nu_of he hl ht (cw_comeTo (cw_refl C) _ _ hv).1 hz) h) (fun w3 h3 => ?_)
        refine ev_goto dd_P_arrive_97 ?_
        refine ev_ic (v := 1) dd_P_arrive_111 (by decide +kernel) ?_
        refine ev_iret dd_P_arrive_112 rfl rfl ?_
        exact ⟨rfl, h3⟩
    · rw [if_neg c2]
      refine ev_aload dd_P_arrive_46 rfl ?_
      refine ev_dup dd_P_arrive_48 rfl ?_
      refine K_gI (κ := 4) dd_P_arrive_49 fr_P_58 h hs rfl ?_
      refine ev_ic (v := 1) dd_P_arrive_52 (by decide +kernel) ?_
      refine ev_isub dd_P_arrive_53 ?_
      refine K_pI (κ := 4) dd_P_arrive_54 fk_P_58 h hq hs rfl rfl rfl (fun w1 h1 => ?_)
      have hv1 := cw_sI (κ := 4) (i := 2 * l + e) (k := 1) (x := C.1 4 (2 * l + e) 1 - 1) (cw_refl C) rfl hv
      generalize cr_sI C 4 (2 * l + e) 1 (C.1 4 (2 * l + e) 1 - 1) = D at *
      refine ev_aload dd_P_arrive_57 rfl ?_
      refine K_gI (κ := 4) dd_P_arrive_59 fr_P_55 h1 hs rfl ?_
      refine ev_ic (v := 2) dd_P_arrive_62 (by decide +kernel) ?_
      refine ev_icmp_ne dd_P_arrive_63 (fun c3 => ?_) (fun c3 => ?_)
      · rw [if_neg c3]
        refine ev_ic (v := 0) dd_P_arrive_76 (by decide +kernel) ?_
        refine ev_iret dd_P_arrive_77 rfl rfl ?_
        exact ⟨rfl, h1.more (Nat.le_succ n)⟩
      · rw [if_pos c3]
        refine ev_aload_n dd_P_arrive_66 rfl ?_
        refine K_gP (κ := 12) (q := cr_o 13 0) dd_P_arrive_67 fr_P_11 h1 h0 rfl ?_
        refine ev_iload_n dd_P_arrive_70 rfl ?_
        refine K_aald (κ := 13) (j := e) (t := 4) (q := cr_o 9 e) dd_P_arrive_71 h1 h0 rfl rfl he (by decide) (if_pos he) ?_
        refine ev_iload_n dd_P_arrive_72 rfl ?_
        have hb1 : cr_b (cs_S_failsByDamage D (2 * l + e)).2 (2 * l + e) := cr_b_of hs (by have := (cw_fDam D (2 * l + e) hv1.1).2; omega)
        refine ev_callvV [_] dd_P_arrive_73 ms_E_damagedComes iv_P_197 (h1.al (κ := 9) he) (h1.tg (κ := 9) he) rfl (Nat.le_of_ble_eq_true rfl) (Nat.le_of_ble_eq_true rfl) (k_E_damagedComes (C := D) (l := l) hq J (by omega) he hl hb1 h1) (fun w3 h3 => ?_)
        refine ev_ic (v := 0) dd_P_arrive_76 (by decide +kernel) ?_
        refine ev_iret dd_P_arrive_77 rfl rfl ?_
        exact ⟨rfl, h3.more (Nat.le_succ n)⟩
  · rw [if_pos c]
    refine ev_ic (v := 0) dd_P_arrive_24 (by decide +kernel) ?_
    refine ev_iret dd_P_arrive_25 rfl rfl ?_
    exact ⟨rfl, h.more (Nat.le_succ n)⟩
end CrV2
