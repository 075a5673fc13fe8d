/-! a tick of the class: its loops -/
def cs_P_ar (p : Int32 × cr_C) (l e : Nat) : Int32 × cr_C := (p.1 + (cs_P_arrive p.2 l e).1, (cs_P_arrive p.2 l e).2)
def cs_P_t1 (C : cr_C) : Int32 × cr_C := (cs_P_ar (cs_P_ar (cs_P_ar (cs_P_ar (cs_P_ar (cs_P_ar (0, C) 0 0) 0 1) 1 0) 1 1) 2 0) 2 1)
def cs_P_t2 (C : cr_C) : cr_C := (cs_E_age (cs_E_age (cs_E_age (cs_E_age (cs_E_age (cs_E_age C 0 0) 1 0) 0 1) 1 1) 0 2) 1 2)
def cs_P_t3 (C : cr_C) : cr_C := (cs_E_changeOver (cs_E_changeOver (cs_E_changeOver (cs_E_changeOver (cs_E_changeOver (cs_E_changeOver C 0 0) 0 1) 0 2) 1 0) 1 1) 1 2)
def cs_P_t4 (C : cr_C) : cr_C := (cs_S_send (cs_S_send (cs_S_send (cs_S_send (cs_S_send (cs_S_send C 0) 1) 2) 3) 4) 5)
def cs_P_tick (C : cr_C) : Int32 × cr_C := ((cs_P_t1 C).1, cs_P_t4 (cs_P_t3 (cs_P_t2 (cs_P_t1 C).2)))
theorem cw_ar (p : Int32 × cr_C) {l e : Nat} (hl : l < 3) (he : e < 2) : cw p.2 (cs_P_ar p l e).2 1 := cw_arrive p.2 hl he
theorem cw_t1 (C : cr_C) : cw C (cs_P_t1 C).2 6 := by
  unfold cs_P_t1
  have h0 := cw_ar ((0, C) : Int32 × cr_C) (l := 0) (e := 0) (by decide) (by decide)
  have h1 := h0.then (cw_ar (cs_P_ar (0, C) 0 0) (l := 0) (e := 1) (by decide) (by decide))
  have h2 := h1.then (cw_ar (cs_P_ar (cs_P_ar (0, C) 0 0) 0 1) (l := 1) (e := 0) (by decide) (by decide))
  have h3 := h2.then (cw_ar (cs_P_ar (cs_P_ar (cs_P_ar (0, C) 0 0) 0 1) 1 0) (l := 1) (e := 1) (by decide) (by decide))
  have h4 := h3.then (cw_ar (cs_P_ar (cs_P_ar (cs_P_ar (cs_P_ar (0, C) 0 0) 0 1) 1 0) 1 1) (l := 2) (e := 0) (by decide) (by decide))
  have h5 := h4.then (cw_ar (cs_P_ar (cs_P_ar (cs_P_ar (cs_P_ar (cs_P_ar (0, C) 0 0) 0 1) 1 0) 1 1) 2 0) (l := 2) (e := 1) (by decide) (by decide))
  exact h5
theorem cw_t2 (C : cr_C) : cw C (cs_P_t2 C) 0 := by
  unfold cs_P_t2
  have h0 := cw_age C (l := 0) (e := 0) (by decide) (by decide)
  have h1 := h0.then (cw_age (cs_E_age C 0 0) (l := 0) (e := 1) (by decide) (by decide))
  have h2 := h1.then (cw_age (cs_E_age (cs_E_age C 0 0) 1 0) (l := 1) (e := 0) (by decide) (by decide))
  have h3 := h2.then (cw_age (cs_E_age (cs_E_age (cs_E_age C 0 0) 1 0) 0 1) (l := 1) (e := 1) (by decide) (by decide))
  have h4 := h3.then (cw_age (cs_E_age (cs_E_age (cs_E_age (cs_E_age C 0 0) 1 0) 0 1) 1 1) (l := 2) (e := 0) (by decide) (by decide))
  have h5 := h4.then (cw_age (cs_E_age (cs_E_age (cs_E_age (cs_E_age (cs_E_age C 0 0) 1 0) 0 1) 1 1) 0 2) (l := 2) (e := 1) (by decide) (by decide))
  exact h5
theorem cw_t3 (C : cr_C) : cw C (cs_P_t3 C) 6 := by
  unfold cs_P_t3
  have h0 := cw_over C (l := 0) (e := 0) (by decide) (by decide)
  have h1 := h0.then (cw_over (cs_E_changeOver C 0 0) (l := 1) (e := 0) (by decide) (by decide))
  have h2 := h1.then (cw_over (cs_E_changeOver (cs_E_changeOver C 0 0) 0 1) (l := 2) (e := 0) (by decide) (by decide))
  have h3 := h2.then (cw_over (cs_E_changeOver (cs_E_changeOver (cs_E_changeOver C 0 0) 0 1) 0 2) (l := 0) (e := 1) (by decide) (by decide))
  have h4 := h3.then (cw_over (cs_E_changeOver (cs_E_changeOver (cs_E_changeOver (cs_E_changeOver C 0 0) 0 1) 0 2) 1 0) (l := 1) (e := 1) (by decide) (by decide))
  have h5 := h4.then (cw_over (cs_E_changeOver (cs_E_changeOver (cs_E_changeOver (cs_E_changeOver (cs_E_changeOver C 0 0) 0 1) 0 2) 1 0) 1 1) (l := 2) (e := 1) (by decide) (by decide))
  exact h5
theorem cw_t4 (C : cr_C) : cw C (cs_P_t4 C) 0 := by
  unfold cs_P_t4
  have h0 := cw_send C (s := 0) (by decide)
  have h1 := h0.then (cw_send (cs_S_send C 0) (s := 1) (by decide))
  have h2 := h1.then (cw_send (cs_S_send (cs_S_send C 0) 1) (s := 2) (by decide))
  have h3 := h2.then (cw_send (cs_S_send (cs_S_send (cs_S_send C 0) 1) 2) (s := 3) (by decide))
  have h4 := h3.then (cw_send (cs_S_send (cs_S_send (cs_S_send (cs_S_send C 0) 1) 2) 3) (s := 4) (by decide))
  have h5 := h4.then (cw_send (cs_S_send (cs_S_send (cs_S_send (cs_S_send (cs_S_send C 0) 1) 2) 3) 4) (s := 5) (by decide))
  exact h5
theorem cw_tick (C : cr_C) : cw C (cs_P_tick C).2 12 := by
  unfold cs_P_tick
  have h1 := (cw_t1 C).then (cw_t2 (cs_P_t1 C).2)
  have h2 := h1.then (cw_t3 (cs_P_t2 (cs_P_t1 C).2))
  have h3 := h2.then (cw_t4 (cs_P_t3 (cs_P_t2 (cs_P_t1 C).2)))
  dsimp only
  exact h3
section CrW2
variable {G : ev_gx} {M : ev_mx} {d pc pc' tgt : Nat} {L : List (Nat × Value)} {st : List Value} {w w1 : ev_wd} {P : ev_r → ev_wd → Prop} {q0 mi n n' : Nat} {C : cr_C} {F : ev_wd} {Q : Nat → cr_m → Prop}
theorem k_P_t1s {l e : Nat} {p : Int32 × cr_C} (hq : q0 < ev_b G) (J : ev_J G q0 mi) (hn : n + 1 ≤ 200000) (hl : l < 3) (he : e < 2) (hv : cv p.2) (hz : cz p.2 ≤ 8000) (h : cr_K G q0 w p.2 n F Q)
    (kk : ∀ w1, cr_K G q0 w1 (cs_P_ar p l e).2 (n + 1) F Q → ev_E G mm_P_tick (d + 13) 11 [(0, .ref (ev_b G + cr_o 12 0)), (1, .int (cs_P_ar p l e).1), (2, .int (Int32.ofNat l)), (3, .int (Int32.ofNat (e + 1)))] [] w1 P) : ev_E G mm_P_tick (d + 13) 11 [(0, .ref (ev_b G + cr_o 12 0)), (1, .int p.1), (2, .int (Int32.ofNat l)), (3, .int (Int32.ofNat e))] [] w P := by
  have h0 : 0 < 1 := Nat.zero_lt_one
  refine ev_iload_n dd_P_tick_11 rfl ?_
  refine ev_ic (v := 2) dd_P_tick_12 (by decide +kernel) ?_
  refine ev_icmp_ge dd_P_tick_13 (fun hc => absurd hc (nI_ge (b := 2) he (by decide))) (fun _ => ?_)
  refine ev_iload_n dd_P_tick_16 rfl ?_
  refine ev_aload_n dd_P_tick_17 rfl ?_
  refine ev_iload_n dd_P_tick_18 rfl ?_
  refine ev_iload_n dd_P_tick_19 rfl ?_
  refine ev_callvN [_, _] dd_P_tick_20 ms_P_arrive iv_P_68 (h.al (κ := 12) h0) (h.tg (κ := 12) h0) rfl (Nat.le_of_ble_eq_true rfl) (Nat.le_of_ble_eq_true rfl) (k_P_arrive hq J hn hl he hv hz h) (fun w1 h1 => ?_)
  refine ev_iadd dd_P_tick_23 ?_
  refine ev_istore_n dd_P_tick_24 (by decide) ?_
  refine ev_iinc dd_P_tick_25 rfl (by decide) ?_
  refine ev_goto dd_P_tick_28 ?_
  refine ev_loc4 (i0 := 0) (i1 := 1) (i2 := 2) (i3 := 3) rfl rfl rfl (v3 := .int (Int32.ofNat (e + 1))) (by rw [show Int32.ofNat (e + 1) = Int32.ofNat e + Int32.ofInt 1 by rw [inc_ofNat]; rfl]; rfl) ?_
  exact kk w1 h1
theorem k_P_t2s {l e : Nat} {x : Int32} (hq : q0 < ev_b G) (J : ev_J G q0 mi) (hn : n ≤ 200000) (hl : l < 3) (he : e < 2) (hv : cv C) (hz : cz C ≤ 8000) (h : cr_K G q0 w C n F Q)
    (kk : ∀ w1, cr_K G q0 w1 (cs_E_age C e l) n F Q → ev_E G mm_P_tick (d + 13) 46 [(0, .ref (ev_b G + cr_o 12 0)), (1, .int x), (2, .int (Int32.ofNat l)), (3, .int (Int32.ofNat (e + 1)))] [] w1 P) : ev_E G mm_P_tick (d + 13) 46 [(0, .ref (ev_b G + cr_o 12 0)), (1, .int x), (2, .int (Int32.ofNat l)), (3, .int (Int32.ofNat e))] [] w P := by
  have h0 : 0 < 1 := Nat.zero_lt_one
  have hs : 2 * l + e < 6 := by omega
  have hb : cr_b (cs_S_failsByAge C (2 * l + e)).2 (2 * l + e) := cr_b_of hs (by have := (cw_fAge C (2 * l + e) hv).2; omega)
  refine ev_iload_n dd_P_tick_46 rfl ?_
  refine ev_ic (v := 2) dd_P_tick_47 (by decide +kernel) ?_
  refine ev_icmp_ge dd_P_tick_48 (fun hc => absurd hc (nI_ge (b := 2) he (by decide))) (fun _ => ?_)
  refine ev_aload_n dd_P_tick_51 rfl ?_
  refine K_gP (κ := 12) (q := cr_o 13 0) dd_P_tick_52 fr_P_11 h h0 rfl ?_
  refine ev_iload_n dd_P_tick_55 rfl ?_
  refine K_aald (κ := 13) (j := e) (t := 4) (q := cr_o 9 e) dd_P_tick_56 h h0 rfl rfl he (by decide) (if_pos he) ?_
  refine ev_iload_n dd_P_tick_57 rfl ?_
  refine ev_callvV [_] dd_P_tick_58 ms_E_age iv_P_71 (h.al (κ := 9) he) (h.tg (κ := 9) he) rfl (Nat.le_of_ble_eq_true rfl) (Nat.le_of_ble_eq_true rfl) (k_E_age (C := C) (l := l) hq J hn he hl hb h) (fun w1 h1 => ?_)
  refine ev_iinc dd_P_tick_61 rfl (by decide) ?_
  refine ev_goto dd_P_tick_64 ?_
  refine ev_loc4 (i0 := 0) (i1 := 1) (i2 := 2) (i3 := 3) rfl rfl rfl (v3 := .int (Int32.ofNat (e + 1))) (by rw [show Int32.ofNat (e + 1) = Int32.ofNat e + Int32.ofInt 1 by rw [inc_ofNat]; rfl]; rfl) ?_
  exact kk w1 h1
theorem k_P_t3s {l e : Nat} {x : Int32} (hq : q0 < ev_b G) (J : ev_J G q0 mi) (hn : n + 1 ≤ 200000) (hl : l < 3) (he : e < 2) (hv : cv C) (hz : cz C ≤ 8000) (h : cr_K G q0 w C n F Q)
    (kk : ∀ w1, cr_K G q0 w1 (cs_E_changeOver C e l) (n + 1) F Q → ev_E G mm_P_tick (d + 13) 82 [(0, .ref (ev_b G + cr_o 12 0)), (1, .int x), (2, .int (Int32.ofNat e)), (3, .int (Int32.ofNat (l + 1)))] [] w1 P) : ev_E G mm_P_tick (d + 13) 82 [(0, .ref (ev_b G + cr_o 12 0)), (1, .int x), (2, .int (Int32.ofNat e)), (3, .int (Int32.ofNat l))] [] w P := by
  have h0 : 0 < 1 := Nat.zero_lt_one
  have hs : 2 * l + e < 6 := by omega
  have hu := hv.2.1.2 (2 * l + e) hs
  refine ev_iload_n dd_P_tick_82 rfl ?_
  refine ev_ic (v := 3) dd_P_tick_83 (by decide +kernel) ?_
  refine ev_icmp_ge dd_P_tick_84 (fun hc => absurd hc (nI_ge (b := 3) hl (by decide))) (fun _ => ?_)
  refine ev_aload_n dd_P_tick_87 rfl ?_
  refine K_gP (κ := 12) (q := cr_o 13 0) dd_P_tick_88 fr_P_11 h h0 rfl ?_
  refine ev_iload_n dd_P_tick_91 rfl ?_
  refine K_aald (κ := 13) (j := e) (t := 4) (q := cr_o 9 e) dd_P_tick_92 h h0 rfl rfl he (by decide) (if_pos he) ?_
  refine ev_iload_n dd_P_tick_93 rfl ?_
  refine ev_callvV [_] dd_P_tick_94 ms_E_changeOver iv_P_74 (h.al (κ := 9) he) (h.tg (κ := 9) he) rfl (Nat.le_of_ble_eq_true rfl) (Nat.le_of_ble_eq_true rfl) (k_E_changeOver (C := C) (l := l) hq J hn he hl hu.1 (by omega) (cr_fi_of he hl hv hz) h) (fun w1 h1 => ?_)
  refine ev_iinc dd_P_tick_97 rfl (by decide) ?_
  refine ev_goto dd_P_tick_100 ?_
  refine ev_loc4 (i0 := 0) (i1 := 1) (i2 := 2) (i3 := 3) rfl rfl rfl (v3 := .int (Int32.ofNat (l + 1))) (by rw [show Int32.ofNat (l + 1) = Int32.ofNat l + Int32.ofInt 1 by rw [inc_ofNat]; rfl]; rfl) ?_
  exact kk w1 h1
theorem k_P_t4s {l e : Nat} {x : Int32} (hq : q0 < ev_b G) (J : ev_J G q0 mi) (hn : n ≤ 200000) (hl : l < 3) (he : e < 2) (h : cr_K G q0 w C n F Q)
    (kk : ∀ w1, cr_K G q0 w1 (cs_S_send C (2 * l + e)) n F Q → ev_E G mm_P_tick (d + 13) 118 [(0, .ref (ev_b G + cr_o 12 0)), (1, .int x), (2, .int (Int32.ofNat l)), (3, .int (Int32.ofNat (e + 1)))] [] w1 P) : ev_E G mm_P_tick (d + 13) 118 [(0, .ref (ev_b G + cr_o 12 0)), (1, .int x), (2, .int (Int32.ofNat l)), (3, .int (Int32.ofNat e))] [] w P := by
  have h0 : 0 < 1 := Nat.zero_lt_one
  have hs : 2 * l + e < 6 := by omega
  refine ev_iload_n dd_P_tick_118 rfl ?_
  refine ev_ic (v := 2) dd_P_tick_119 (by decide +kernel) ?_
  refine ev_icmp_ge dd_P_tick_120 (fun hc => absurd hc (nI_ge (b := 2) he (by decide))) (fun _ => ?_)
  refine ev_aload_n dd_P_tick_123 rfl ?_
  refine K_gP (κ := 12) (q := cr_o 13 0) dd_P_tick_124 fr_P_11 h h0 rfl ?_
  refine ev_iload_n dd_P_tick_127 rfl ?_
  refine K_aald (κ := 13) (j := e) (t := 4) (q := cr_o 9 e) dd_P_tick_128 h h0 rfl rfl he (by decide) (if_pos he) ?_
  refine K_gP (κ := 9) (q := cr_o 15 e) dd_P_tick_129 fr_P_27 h he rfl ?_
  refine ev_iload_n dd_P_tick_132 rfl ?_
  refine K_aald (κ := 15) (j := l) (t := 5) (q := cr_o 1 (2 * l + e)) dd_P_tick_133 h he rfl rfl hl (by decide) (if_pos hl) ?_
  refine ev_callvV [] dd_P_tick_134 ms_S_send iv_P_77 (h.al (κ := 1) hs) (h.tg (κ := 1) hs) rfl (Nat.le_of_ble_eq_true rfl) (Nat.le_of_ble_eq_true rfl) (k_S_send hq J hn hs h) (fun w1 h1 => ?_)
  refine ev_iinc dd_P_tick_137 rfl (by decide) ?_
  refine ev_goto dd_P_tick_140 ?_
  refine ev_loc4 (i0 := 0) (i1 := 1) (i2 := 2) (i3 := 3) rfl rfl rfl (v3 := .int (Int32.ofNat (e + 1))) (by rw [show Int32.ofNat (e + 1) = Int32.ofNat e + Int32.ofInt 1 by rw [inc_ofNat]; rfl]; rfl) ?_
  exact kk w1 h1
theorem k_P_t1o {a : Nat} {x : Int32} (ha : a + 1 < 3) (kk : ev_E G mm_P_tick (d + 13) 11 [(0, .ref (ev_b G + cr_o 12 0)), (1, .int x), (2, .int (Int32.ofNat (a + 1))), (3, .int (Int32.ofNat 0))] [] w P) : ev_E G mm_P_tick (d + 13) 11 [(0, .ref (ev_b G + cr_o 12 0)), (1, .int x), (2, .int (Int32.ofNat a)), (3, .int (Int32.ofNat 2))] [] w P := by
  refine ev_iload_n dd_P_tick_11 rfl ?_
  refine ev_ic (v := 2) dd_P_tick_12 (by decide +kernel) ?_
  refine ev_icmp_ge dd_P_tick_13 (fun _ => ?_) (fun hc => absurd (by decide) hc)
  refine ev_iinc dd_P_tick_31 rfl (by decide) ?_
  refine ev_goto dd_P_tick_34 ?_
  refine ev_loc4 (i0 := 0) (i1 := 1) (i2 := 2) (i3 := 3) rfl rfl (v2 := .int (Int32.ofNat (a + 1))) (by rw [show Int32.ofNat (a + 1) = Int32.ofNat a + Int32.ofInt 1 by rw [inc_ofNat]; rfl]; rfl) rfl ?_
  refine ev_iload_n dd_P_tick_4 rfl ?_
  refine ev_ic (v := 3) dd_P_tick_5 (by decide +kernel) ?_
  refine ev_icmp_ge dd_P_tick_6 (fun hc => absurd hc (nI_ge (b := 3) ha (by decide))) (fun _ => ?_)
  refine ev_ic (v := 0) dd_P_tick_9 (by decide +kernel) ?_
  refine ev_istore_n dd_P_tick_10 (by decide) ?_
  refine ev_loc4 (i0 := 0) (i1 := 1) (i2 := 2) (i3 := 3) rfl rfl rfl (v3 := .int (Int32.ofNat 0)) rfl ?_
  exact kk
theorem k_P_t1x {x : Int32} (kk : ev_E G mm_P_tick (d + 13) 46 [(0, .ref (ev_b G + cr_o 12 0)), (1, .int x), (2, .int (Int32.ofNat 0)), (3, .int (Int32.ofNat 0))] [] w P) : ev_E G mm_P_tick (d + 13) 11 [(0, .ref (ev_b G + cr_o 12 0)), (1, .int x), (2, .int (Int32.ofNat 2)), (3, .int (Int32.ofNat 2))] [] w P := by
  refine ev_iload_n dd_P_tick_11 rfl ?_
  refine ev_ic (v := 2) dd_P_tick_12 (by decide +kernel) ?_
  refine ev_icmp_ge dd_P_tick_13 (fun _ => ?_) (fun hc => absurd (by decide) hc)
  refine ev_iinc dd_P_tick_31 rfl (by decide) ?_
  refine ev_goto dd_P_tick_34 ?_
  refine ev_loc4 (i0 := 0) (i1 := 1) (i2 := 2) (i3 := 3) rfl rfl (v2 := .int (Int32.ofNat 3)) rfl rfl ?_
  refine ev_iload_n dd_P_tick_4 rfl ?_
  refine ev_ic (v := 3) dd_P_tick_5 (by decide +kernel) ?_
  refine ev_icmp_ge dd_P_tick_6 (fun _ => ?_) (fun hc => absurd (by decide) hc)
  refine ev_ic (v := 0) dd_P_tick_37 (by decide +kernel) ?_
  refine ev_istore_n dd_P_tick_38 (by decide) ?_
  refine ev_iload_n dd_P_tick_39 rfl ?_
  refine ev_ic (v := 3) dd_P_tick_40 (by decide +kernel) ?_
  refine ev_icmp_ge dd_P_tick_41 (fun hc => absurd hc (by decide)) (fun _ => ?_)
  refine ev_ic (v := 0) dd_P_tick_44 (by decide +kernel) ?_
  refine ev_istore_n dd_P_tick_45 (by decide) ?_
  refine ev_loc4 (i0 := 0) (i1 := 1) (i2 := 2) (i3 := 3) rfl rfl (v2 := .int (Int32.ofNat 0)) rfl (v3 := .int (Int32.ofNat 0)) rfl ?_
  exact kk
theorem k_P_t2o {a : Nat} {x : Int32} (ha : a + 1 < 3) (kk : ev_E G mm_P_tick (d + 13) 46 [(0, .ref (ev_b G + cr_o 12 0)), (1, .int x), (2, .int (Int32.ofNat (a + 1))), (3, .int (Int32.ofNat 0))] [] w P) : ev_E G mm_P_tick (d + 13) 46 [(0, .ref (ev_b G + cr_o 12 0)), (1, .int x), (2, .int (Int32.ofNat a)), (3, .int (Int32.ofNat 2))] [] w P := by
  refine ev_iload_n dd_P_tick_46 rfl ?_
  refine ev_ic (v := 2) dd_P_tick_47 (by decide +kernel) ?_
  refine ev_icmp_ge dd_P_tick_48 (fun _ => ?_) (fun hc => absurd (by decide) hc)
  refine ev_iinc dd_P_tick_67 rfl (by decide) ?_
  refine ev_goto dd_P_tick_70 ?_
  refine ev_loc4 (i0 := 0) (i1 := 1) (i2 := 2) (i3 := 3) rfl rfl (v2 := .int (Int32.ofNat (a + 1))) (by rw [show Int32.ofNat (a + 1) = Int32.ofNat a + Int32.ofInt 1 by rw [inc_ofNat]; rfl]; rfl) rfl ?_
  refine ev_iload_n dd_P_tick_39 rfl ?_
  refine ev_ic (v := 3) dd_P_tick_40 (by decide +kernel) ?_
  refine ev_icmp_ge dd_P_tick_41 (fun hc => absurd hc (nI_ge (b := 3) ha (by decide))) (fun _ => ?_)
  refine ev_ic (v := 0) dd_P_tick_44 (by decide +kernel) ?_
  refine ev_istore_n dd_P_tick_45 (by decide) ?_
  refine ev_loc4 (i0 := 0) (i1 := 1) (i2 := 2) (i3 := 3) rfl rfl rfl (v3 := .int (Int32.ofNat 0)) rfl ?_
  exact kk
theorem k_P_t2x {x : Int32} (kk : ev_E G mm_P_tick (d + 13) 82 [(0, .ref (ev_b G + cr_o 12 0)), (1, .int x), (2, .int (Int32.ofNat 0)), (3, .int (Int32.ofNat 0))] [] w P) : ev_E G mm_P_tick (d + 13) 46 [(0, .ref (ev_b G + cr_o 12 0)), (1, .int x), (2, .int (Int32.ofNat 2)), (3, .int (Int32.ofNat 2))] [] w P := by
  refine ev_iload_n dd_P_tick_46 rfl ?_
  refine ev_ic (v := 2) dd_P_tick_47 (by decide +kernel) ?_
  refine ev_icmp_ge dd_P_tick_48 (fun _ => ?_) (fun hc => absurd (by decide) hc)
  refine ev_iinc dd_P_tick_67 rfl (by decide) ?_
  refine ev_goto dd_P_tick_70 ?_
  refine ev_loc4 (i0 := 0) (i1 := 1) (i2 := 2) (i3 := 3) rfl rfl (v2 := .int (Int32.ofNat 3)) rfl rfl ?_
  refine ev_iload_n dd_P_tick_39 rfl ?_
  refine ev_ic (v := 3) dd_P_tick_40 (by decide +kernel) ?_
  refine ev_icmp_ge dd_P_tick_41 (fun _ => ?_) (fun hc => absurd (by decide) hc)
  refine ev_ic (v := 0) dd_P_tick_73 (by decide +kernel) ?_
  refine ev_istore_n dd_P_tick_74 (by decide) ?_
  refine ev_iload_n dd_P_tick_75 rfl ?_
  refine ev_ic (v := 2) dd_P_tick_76 (by decide +kernel) ?_
  refine ev_icmp_ge dd_P_tick_77 (fun hc => absurd hc (by decide)) (fun _ => ?_)
  refine ev_ic (v := 0) dd_P_tick_80 (by decide +kernel) ?_
  refine ev_istore_n dd_P_tick_81 (by decide) ?_
  refine ev_loc4 (i0 := 0) (i1 := 1) (i2 := 2) (i3 := 3) rfl rfl (v2 := .int (Int32.ofNat 0)) rfl (v3 := .int (Int32.ofNat 0)) rfl ?_
  exact kk
theorem k_P_t3o {a : Nat} {x : Int32} (ha : a + 1 < 2) (kk : ev_E G mm_P_tick (d + 13) 82 [(0, .ref (ev_b G + cr_o 12 0)), (1, .int x), (2, .int (Int32.ofNat (a + 1))), (3, .int (Int32.ofNat 0))] [] w P) : ev_E G mm_P_tick (d + 13) 82 [(0, .ref (ev_b G + cr_o 12 0)), (1, .int x), (2, .int (Int32.ofNat a)), (3, .int (Int32.ofNat 3))] [] w P := by
  refine ev_iload_n dd_P_tick_82 rfl ?_
  refine ev_ic (v := 3) dd_P_tick_83 (by decide +kernel) ?_
  refine ev_icmp_ge dd_P_tick_84 (fun _ => ?_) (fun hc => absurd (by decide) hc)
  refine ev_iinc dd_P_tick_103 rfl (by decide) ?_
  refine ev_goto dd_P_tick_106 ?_
  refine ev_loc4 (i0 := 0) (i1 := 1) (i2 := 2) (i3 := 3) rfl rfl (v2 := .int (Int32.ofNat (a + 1))) (by rw [show Int32.ofNat (a + 1) = Int32.ofNat a + Int32.ofInt 1 by rw [inc_ofNat]; rfl]; rfl) rfl ?_
  refine ev_iload_n dd_P_tick_75 rfl ?_
  refine ev_ic (v := 2) dd_P_tick_76 (by decide +kernel) ?_
  refine ev_icmp_ge dd_P_tick_77 (fun hc => absurd hc (nI_ge (b := 2) ha (by decide))) (fun _ => ?_)
  refine ev_ic (v := 0) dd_P_tick_80 (by decide +kernel) ?_
  refine ev_istore_n dd_P_tick_81 (by decide) ?_
  refine ev_loc4 (i0 := 0) (i1 := 1) (i2 := 2) (i3 := 3) rfl rfl rfl (v3 := .int (Int32.ofNat 0)) rfl ?_
  exact kk
theorem k_P_t3x {x : Int32} (kk : ev_E G mm_P_tick (d + 13) 118 [(0, .ref (ev_b G + cr_o 12 0)), (1, .int x), (2, .int (Int32.ofNat 0)), (3, .int (Int32.ofNat 0))] [] w P) : ev_E G mm_P_tick (d + 13) 82 [(0, .ref (ev_b G + cr_o 12 0)), (1, .int x), (2, .int (Int32.ofNat 1)), (3, .int (Int32.ofNat 3))] [] w P := by
  refine ev_iload_n dd_P_tick_82 rfl ?_
  refine ev_ic (v := 3) dd_P_tick_83 (by decide +kernel) ?_
  refine ev_icmp_ge dd_P_tick_84 (fun _ => ?_) (fun hc => absurd (by decide) hc)
  refine ev_iinc dd_P_tick_103 rfl (by decide) ?_
  refine ev_goto dd_P_tick_106 ?_
  refine ev_loc4 (i0 := 0) (i1 := 1) (i2 := 2) (i3 := 3) rfl rfl (v2 := .int (Int32.ofNat 2)) rfl rfl ?_
  refine ev_iload_n dd_P_tick_75 rfl ?_
  refine ev_ic (v := 2) dd_P_tick_76 (by decide +kernel) ?_
  refine ev_icmp_ge dd_P_tick_77 (fun _ => ?_) (fun hc => absurd (by decide) hc)
  refine ev_ic (v := 0) dd_P_tick_109 (by decide +kernel) ?_
  refine ev_istore_n dd_P_tick_110 (by decide) ?_
  refine ev_iload_n dd_P_tick_111 rfl ?_
  refine ev_ic (v := 3) dd_P_tick_112 (by decide +kernel) ?_
  refine ev_icmp_ge dd_P_tick_113 (fun hc => absurd hc (by decide)) (fun _ => ?_)
  refine ev_ic (v := 0) dd_P_tick_116 (by decide +kernel) ?_
  refine ev_istore_n dd_P_tick_117 (by decide) ?_
  refine ev_loc4 (i0 := 0) (i1 := 1) (i2 := 2) (i3 := 3) rfl rfl (v2 := .int (Int32.ofNat 0)) rfl (v3 := .int (Int32.ofNat 0)) rfl ?_
  exact kk
theorem k_P_t4o {a : Nat} {x : Int32} (ha : a + 1 < 3) (kk : ev_E G mm_P_tick (d + 13) 118 [(0, .ref (ev_b G + cr_o 12 0)), (1, .int x), (2, .int (Int32.ofNat (a + 1))), (3, .int (Int32.ofNat 0))] [] w P) : ev_E G mm_P_tick (d + 13) 118 [(0, .ref (ev_b G + cr_o 12 0)), (1, .int x), (2, .int (Int32.ofNat a)), (3, .int (Int32.ofNat 2))] [] w P := by
  refine ev_iload_n dd_P_tick_118 rfl ?_
  refine ev_ic (v := 2) dd_P_tick_119 (by decide +kernel) ?_
  refine ev_icmp_ge dd_P_tick_120 (fun _ => ?_) (fun hc => absurd (by decide) hc)
  refine ev_iinc dd_P_tick_143 rfl (by decide) ?_
  refine ev_goto dd_P_tick_146 ?_
  refine ev_loc4 (i0 := 0) (i1 := 1) (i2 := 2) (i3 := 3) rfl rfl (v2 := .int (Int32.ofNat (a + 1))) (by rw [show Int32.ofNat (a + 1) = Int32.ofNat a + Int32.ofInt 1 by rw [inc_ofNat]; rfl]; rfl) rfl ?_
  refine ev_iload_n dd_P_tick_111 rfl ?_
  refine ev_ic (v := 3) dd_P_tick_112 (by decide +kernel) ?_
  refine ev_icmp_ge dd_P_tick_113 (fun hc => absurd hc (nI_ge (b := 3) ha (by decide))) (fun _ => ?_)
  refine ev_ic (v := 0) dd_P_tick_116 (by decide +kernel) ?_
  refine ev_istore_n dd_P_tick_117 (by decide) ?_
  refine ev_loc4 (i0 := 0) (i1 := 1) (i2 := 2) (i3 := 3) rfl rfl rfl (v3 := .int (Int32.ofNat 0)) rfl ?_
  exact kk
theorem k_P_t4x {x : Int32} (kk : P (.inl (some (.int x))) w) : ev_E G mm_P_tick (d + 13) 118 [(0, .ref (ev_b G + cr_o 12 0)), (1, .int x), (2, .int (Int32.ofNat 2)), (3, .int (Int32.ofNat 2))] [] w P := by
  refine ev_iload_n dd_P_tick_118 rfl ?_
  refine ev_ic (v := 2) dd_P_tick_119 (by decide +kernel) ?_
  refine ev_icmp_ge dd_P_tick_120 (fun _ => ?_) (fun hc => absurd (by decide) hc)
  refine ev_iinc dd_P_tick_143 rfl (by decide) ?_
  refine ev_goto dd_P_tick_146 ?_
  refine ev_loc4 (i0 := 0) (i1 := 1) (i2 := 2) (i3 := 3) rfl rfl (v2 := .int (Int32.ofNat 3)) rfl rfl ?_
  refine ev_iload_n dd_P_tick_111 rfl ?_
  refine ev_ic (v := 3) dd_P_tick_112 (by decide +kernel) ?_
  refine ev_icmp_ge dd_P_tick_113 (fun _ => ?_) (fun hc => absurd (by decide) hc)
  refine ev_iload_n dd_P_tick_149 rfl ?_
  refine ev_iret dd_P_tick_150 rfl rfl ?_
  exact kk
theorem k_P_tick0 {p : Int32 × cr_C} {D2 D3 D4 : cr_C} (e1 : (cs_P_ar (cs_P_ar (cs_P_ar (cs_P_ar (cs_P_ar (cs_P_ar ((0, C) : Int32 × cr_C) 0 0) 0 1) 1 0) 1 1) 2 0) 2 1) = p) (e2 : (cs_E_age (cs_E_age (cs_E_age (cs_E_age (cs_E_age (cs_E_age p.2 0 0) 1 0) 0 1) 1 1) 0 2) 1 2) = D2) (e3 : (cs_E_changeOver (cs_E_changeOver (cs_E_changeOver (cs_E_changeOver (cs_E_changeOver (cs_E_changeOver D2 0 0) 0 1) 0 2) 1 0) 1 1) 1 2) = D3) (e4 : (cs_S_send (cs_S_send (cs_S_send (cs_S_send (cs_S_send (cs_S_send D3 0) 1) 2) 3) 4) 5) = D4) (hq : q0 < ev_b G) (J : ev_J G q0 mi) (hn : n + 12 ≤ 200000) (hv : cv C) (hz : cz C ≤ 7900) (h : cr_K G q0 w C n F Q) :
    ev_E G mm_P_tick (d + 13) 0 (lv_args 0 [.ref (ev_b G + cr_o 12 0)]) [] w (fun t w' => t = .inl (some (.int p.1)) ∧ cr_K G q0 w' D4 (n + 12) F Q) := by
  refine ev_ic (v := 0) dd_P_tick_0 (by decide +kernel) ?_
  refine ev_istore_n dd_P_tick_1 (by decide) ?_
  refine ev_ic (v := 0) dd_P_tick_2 (by decide +kernel) ?_
  refine ev_istore_n dd_P_tick_3 (by decide) ?_
  refine ev_iload_n dd_P_tick_4 rfl ?_
  refine ev_ic (v := 3) dd_P_tick_5 (by decide +kernel) ?_
  refine ev_icmp_ge dd_P_tick_6 (fun hc => absurd hc (by decide)) (fun _ => ?_)
  refine ev_ic (v := 0) dd_P_tick_9 (by decide +kernel) ?_
  refine ev_istore_n dd_P_tick_10 (by decide) ?_
  refine ev_loc4 (i0 := 0) (i1 := 1) (i2 := 2) (i3 := 3) rfl (v1 := .int ((0, C) : Int32 × cr_C).1) rfl (v2 := .int (Int32.ofNat 0)) rfl (v3 := .int (Int32.ofNat 0)) rfl ?_
  have v0 : cv ((0, C) : Int32 × cr_C).2 := hv
  have z0 : cz ((0, C) : Int32 × cr_C).2 ≤ 7900 := hz
  obtain ⟨v1, z1⟩ := cw_ar ((0, C) : Int32 × cr_C) (l := 0) (e := 0) (by decide) (by decide) v0
  refine k_P_t1s (p := ((0, C) : Int32 × cr_C)) (l := 0) (e := 0) hq J (by omega) (by decide) (by decide) v0 (by omega) h (fun w1 h1 => ?_)
  obtain ⟨v2, z2⟩ := cw_ar (cs_P_ar ((0, C) : Int32 × cr_C) 0 0) (l := 0) (e := 1) (by decide) (by decide) v1
  refine k_P_t1s (p := (cs_P_ar ((0, C) : Int32 × cr_C) 0 0)) (l := 0) (e := 1) hq J (by omega) (by decide) (by decide) v1 (by omega) h1 (fun w2 h2 => ?_)
  refine k_P_t1o (by decide) ?_
  obtain ⟨v3, z3⟩ := cw_ar (cs_P_ar (cs_P_ar ((0, C) : Int32 × cr_C) 0 0) 0 1) (l := 1) (e := 0) (by decide) (by decide) v2
  refine k_P_t1s (p := (cs_P_ar (cs_P_ar ((0, C) : Int32 × cr_C) 0 0) 0 1)) (l := 1) (e := 0) hq J (by omega) (by decide) (by decide) v2 (by omega) h2 (fun w3 h3 => ?_)
  obtain ⟨v4, z4⟩ := cw_ar (cs_P_ar (cs_P_ar (cs_P_ar ((0, C) : Int32 × cr_C) 0 0) 0 1) 1 0) (l := 1) (e := 1) (by decide) (by decide) v3
  refine k_P_t1s (p := (cs_P_ar (cs_P_ar (cs_P_ar ((0, C) : Int32 × cr_C) 0 0) 0 1) 1 0)) (l := 1) (e := 1) hq J (by omega) (by decide) (by decide) v3 (by omega) h3 (fun w4 h4 => ?_)
  refine k_P_t1o (by decide) ?_
  obtain ⟨v5, z5⟩ := cw_ar (cs_P_ar (cs_P_ar (cs_P_ar (cs_P_ar ((0, C) : Int32 × cr_C) 0 0) 0 1) 1 0) 1 1) (l := 2) (e := 0) (by decide) (by decide) v4
  refine k_P_t1s (p := (cs_P_ar (cs_P_ar (cs_P_ar (cs_P_ar ((0, C) : Int32 × cr_C) 0 0) 0 1) 1 0) 1 1)) (l := 2) (e := 0) hq J (by omega) (by decide) (by decide) v4 (by omega) h4 (fun w5 h5 => ?_)
  obtain ⟨v6, z6⟩ := cw_ar (cs_P_ar (cs_P_ar (cs_P_ar (cs_P_ar (cs_P_ar ((0, C) : Int32 × cr_C) 0 0) 0 1) 1 0) 1 1) 2 0) (l := 2) (e := 1) (by decide) (by decide) v5
  refine k_P_t1s (p := (cs_P_ar (cs_P_ar (cs_P_ar (cs_P_ar (cs_P_ar ((0, C) : Int32 × cr_C) 0 0) 0 1) 1 0) 1 1) 2 0)) (l := 2) (e := 1) hq J (by omega) (by decide) (by decide) v5 (by omega) h5 (fun w6 h6 => ?_)
  refine k_P_t1x ?_
  have z7 : cz (cs_P_ar (cs_P_ar (cs_P_ar (cs_P_ar (cs_P_ar (cs_P_ar ((0, C) : Int32 × cr_C) 0 0) 0 1) 1 0) 1 1) 2 0) 2 1).2 ≤ 7906 := by omega
  clear z1 z2 z3 z4 z5 z6 v1 v2 v3 v4 v5
  rw [e1] at v6 z7 h6 ⊢
  have v10 := v6
  have z10 := z7
  have h10 := h6
  obtain ⟨v11, z11⟩ := cw_age p.2 (l := 0) (e := 0) (by decide) (by decide) v10
  refine k_P_t2s (C := p.2) (l := 0) (e := 0) hq J (by omega) (by decide) (by decide) v10 (by omega) h10 (fun w11 h11 => ?_)
  obtain ⟨v12, z12⟩ := cw_age (cs_E_age p.2 0 0) (l := 0) (e := 1) (by decide) (by decide) v11
  refine k_P_t2s (C := (cs_E_age p.2 0 0)) (l := 0) (e := 1) hq J (by omega) (by decide) (by decide) v11 (by omega) h11 (fun w12 h12 => ?_)
  refine k_P_t2o (by decide) ?_
  obtain ⟨v13, z13⟩ := cw_age (cs_E_age (cs_E_age p.2 0 0) 1 0) (l := 1) (e := 0) (by decide) (by decide) v12
  refine k_P_t2s (C := (cs_E_age (cs_E_age p.2 0 0) 1 0)) (l := 1) (e := 0) hq J (by omega) (by decide) (by decide) v12 (by omega) h12 (fun w13 h13 => ?_)
  obtain ⟨v14, z14⟩ := cw_age (cs_E_age (cs_E_age (cs_E_age p.2 0 0) 1 0) 0 1) (l := 1) (e := 1) (by decide) (by decide) v13
  refine k_P_t2s (C := (cs_E_age (cs_E_age (cs_E_age p.2 0 0) 1 0) 0 1)) (l := 1) (e := 1) hq J (by omega) (by decide) (by decide) v13 (by omega) h13 (fun w14 h14 => ?_)
  refine k_P_t2o (by decide) ?_
  obtain ⟨v15, z15⟩ := cw_age (cs_E_age (cs_E_age (cs_E_age (cs_E_age p.2 0 0) 1 0) 0 1) 1 1) (l := 2) (e := 0) (by decide) (by decide) v14
  refine k_P_t2s (C := (cs_E_age (cs_E_age (cs_E_age (cs_E_age p.2 0 0) 1 0) 0 1) 1 1)) (l := 2) (e := 0) hq J (by omega) (by decide) (by decide) v14 (by omega) h14 (fun w15 h15 => ?_)
  obtain ⟨v16, z16⟩ := cw_age (cs_E_age (cs_E_age (cs_E_age (cs_E_age (cs_E_age p.2 0 0) 1 0) 0 1) 1 1) 0 2) (l := 2) (e := 1) (by decide) (by decide) v15
  refine k_P_t2s (C := (cs_E_age (cs_E_age (cs_E_age (cs_E_age (cs_E_age p.2 0 0) 1 0) 0 1) 1 1) 0 2)) (l := 2) (e := 1) hq J (by omega) (by decide) (by decide) v15 (by omega) h15 (fun w16 h16 => ?_)
  refine k_P_t2x ?_
  have z20 : cz (cs_E_age (cs_E_age (cs_E_age (cs_E_age (cs_E_age (cs_E_age p.2 0 0) 1 0) 0 1) 1 1) 0 2) 1 2) ≤ 7906 := by omega
  clear z11 z12 z13 z14 z15 z16 v11 v12 v13 v14 v15
  rw [e2] at v16 z20 h16
  have v20 := v16
  have h20 := h16
  obtain ⟨v21, z21⟩ := cw_over D2 (l := 0) (e := 0) (by decide) (by decide) v20
  refine k_P_t3s (C := D2) (l := 0) (e := 0) hq J (by omega) (by decide) (by decide) v20 (by omega) h20 (fun w21 h21 => ?_)
  obtain ⟨v22, z22⟩ := cw_over (cs_E_changeOver D2 0 0) (l := 1) (e := 0) (by decide) (by decide) v21
  refine k_P_t3s (C := (cs_E_changeOver D2 0 0)) (l := 1) (e := 0) hq J (by omega) (by decide) (by decide) v21 (by omega) h21 (fun w22 h22 => ?_)
  obtain ⟨v23, z23⟩ := cw_over (cs_E_changeOver (cs_E_changeOver D2 0 0) 0 1) (l := 2) (e := 0) (by decide) (by decide) v22
  refine k_P_t3s (C := (cs_E_changeOver (cs_E_changeOver D2 0 0) 0 1)) (l := 2) (e := 0) hq J (by omega) (by decide) (by decide) v22 (by omega) h22 (fun w23 h23 => ?_)
  refine k_P_t3o (by decide) ?_
  obtain ⟨v24, z24⟩ := cw_over (cs_E_changeOver (cs_E_changeOver (cs_E_changeOver D2 0 0) 0 1) 0 2) (l := 0) (e := 1) (by decide) (by decide) v23
  refine k_P_t3s (C := (cs_E_changeOver (cs_E_changeOver (cs_E_changeOver D2 0 0) 0 1) 0 2)) (l := 0) (e := 1) hq J (by omega) (by decide) (by decide) v23 (by omega) h23 (fun w24 h24 => ?_)
  obtain ⟨v25, z25⟩ := cw_over (cs_E_changeOver (cs_E_changeOver (cs_E_changeOver (cs_E_changeOver D2 0 0) 0 1) 0 2) 1 0) (l := 1) (e := 1) (by decide) (by decide) v24
  refine k_P_t3s (C := (cs_E_changeOver (cs_E_changeOver (cs_E_changeOver (cs_E_changeOver D2 0 0) 0 1) 0 2) 1 0)) (l := 1) (e := 1) hq J (by omega) (by decide) (by decide) v24 (by omega) h24 (fun w25 h25 => ?_)
  obtain ⟨v26, z26⟩ := cw_over (cs_E_changeOver (cs_E_changeOver (cs_E_changeOver (cs_E_changeOver (cs_E_changeOver D2 0 0) 0 1) 0 2) 1 0) 1 1) (l := 2) (e := 1) (by decide) (by decide) v25
  refine k_P_t3s (C := (cs_E_changeOver (cs_E_changeOver (cs_E_changeOver (cs_E_changeOver (cs_E_changeOver D2 0 0) 0 1) 0 2) 1 0) 1 1)) (l := 2) (e := 1) hq J (by omega) (by decide) (by decide) v25 (by omega) h25 (fun w26 h26 => ?_)
  refine k_P_t3x ?_
  rw [e3] at h26
  have h30 := h26
  refine k_P_t4s (C := D3) (l := 0) (e := 0) hq J (by omega) (by decide) (by decide) h30 (fun w31 h31' => ?_)
  have h31 : cr_K G q0 w31 (cs_S_send D3 0) (n + 12) F Q := h31'
  refine k_P_t4s (C := (cs_S_send D3 0)) (l := 0) (e := 1) hq J (by omega) (by decide) (by decide) h31 (fun w32 h32' => ?_)
  have h32 : cr_K G q0 w32 (cs_S_send (cs_S_send D3 0) 1) (n + 12) F Q := h32'
  refine k_P_t4o (by decide) ?_
  refine k_P_t4s (C := (cs_S_send (cs_S_send D3 0) 1)) (l := 1) (e := 0) hq J (by omega) (by decide) (by decide) h32 (fun w33 h33' => ?_)
  have h33 : cr_K G q0 w33 (cs_S_send (cs_S_send (cs_S_send D3 0) 1) 2) (n + 12) F Q := h33'
  refine k_P_t4s (C := (cs_S_send (cs_S_send (cs_S_send D3 0) 1) 2)) (l := 1) (e := 1) hq J (by omega) (by decide) (by decide) h33 (fun w34 h34' => ?_)
  have h34 : cr_K G q0 w34 (cs_S_send (cs_S_send (cs_S_send (cs_S_send D3 0) 1) 2) 3) (n + 12) F Q := h34'
  refine k_P_t4o (by decide) ?_
  refine k_P_t4s (C := (cs_S_send (cs_S_send (cs_S_send (cs_S_send D3 0) 1) 2) 3)) (l := 2) (e := 0) hq J (by omega) (by decide) (by decide) h34 (fun w35 h35' => ?_)
  have h35 : cr_K G q0 w35 (cs_S_send (cs_S_send (cs_S_send (cs_S_send (cs_S_send D3 0) 1) 2) 3) 4) (n + 12) F Q := h35'
  refine k_P_t4s (C := (cs_S_send (cs_S_send (cs_S_send (cs_S_send (cs_S_send D3 0) 1) 2) 3) 4)) (l := 2) (e := 1) hq J (by omega) (by decide) (by decide) h35 (fun w36 h36' => ?_)
  have h36 : cr_K G q0 w36 (cs_S_send (cs_S_send (cs_S_send (cs_S_send (cs_S_send (cs_S_send D3 0) 1) 2) 3) 4) 5) (n + 12) F Q := h36'
  refine k_P_t4x ?_
  rw [e4] at h36
  exact ⟨rfl, h36⟩
theorem k_P_tick (hq : q0 < ev_b G) (J : ev_J G q0 mi) (hn : n + 12 ≤ 200000) (hv : cv C) (hz : cz C ≤ 7900) (h : cr_K G q0 w C n F Q) :
    ev_E G mm_P_tick (d + 13) 0 (lv_args 0 [.ref (ev_b G + cr_o 12 0)]) [] w (cr_yi G q0 (n + 12) F Q (cs_P_tick C)) := by
  unfold cr_yi cs_P_tick
  dsimp only
  unfold cs_P_t1 cs_P_t2 cs_P_t3 cs_P_t4
  exact k_P_tick0 rfl rfl rfl rfl hq J hn hv hz h
end CrW2
