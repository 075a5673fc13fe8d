/-! what comes to an end: a seek, a prove, an out; a damaged one; age -/
def cr_b (C : cr_C) (s : Nat) : Prop := (C.2.1 (12 + s)).length + (C.2.1 s).length + (C.2.1 (6 + s)).length ≤ 8192
section CrZ
variable {G : ev_gx} {M : ev_mx} {d pc pc' tgt : Nat} {L : List (Nat × Value)} {st : List Value} {w w1 : ev_wd} {P : ev_r → ev_wd → Prop} {q0 mi n n' : Nat} {C : cr_C} {F : ev_wd} {Q : Nat → cr_m → Prop}
def cs_E_seekComes (C : cr_C) (e : Nat) (l : Nat) : cr_C := (if (C.1 1 (2 * l + e) 0) = 1 then (cs_S_comeTo C (2 * l + e) 2) else (if (C.1 1 (2 * l + e) 0) = 2 then (cr_sI (cr_sI C 1 (2 * l + e) 1 0) 1 (2 * l + e) 8 0) else (if (C.1 1 (2 * l + e) 0) = 0 then C else (cs_E_fall C e l))))
theorem k_E_seekComes {e : Nat} {l : Nat} (hq : q0 < ev_b G) (J : ev_J G q0 mi) (hn : n ≤ 200000) (he : e < 2) (hl : l < 3) (hb : cr_b C (2 * l + e)) (h : cr_K G q0 w C n F Q) : ev_E G mm_E_seekComes (d + 9) 0 (lv_args 0 [.ref (ev_b G + cr_o 9 e), .int (Int32.ofNat l)]) [] w (cr_yv G q0 n F Q (cs_E_seekComes C e l)) := by
  unfold cs_E_seekComes
  refine ev_aload_n dd_E_seekComes_0 rfl ?_
  refine K_gP (κ := 9) (q := cr_o 15 e) dd_E_seekComes_1 fr_E_11 h (show e < 2 by omega) rfl ?_
  refine ev_iload_n dd_E_seekComes_4 rfl ?_
  refine K_aald (κ := 15) (j := l) (t := 5) (q := cr_o 1 (2 * l + e)) dd_E_seekComes_5 h (show e < 2 by omega) rfl rfl hl (by decide) (if_pos hl) ?_
  refine ev_astore_n dd_E_seekComes_6 (by decide) ?_
  refine ev_aload_n dd_E_seekComes_7 rfl ?_
  refine K_gI (κ := 1) dd_E_seekComes_8 fr_E_46 h (show 2 * l + e < 6 by omega) rfl ?_
  refine ev_ic (v := 1) dd_E_seekComes_11 (by decide +kernel) ?_
  refine ev_icmp_ne dd_E_seekComes_12 (fun c1 => ?_) (fun c1 => ?_)
  · rw [if_neg c1]
    refine ev_aload_n dd_E_seekComes_23 rfl ?_
    refine K_gI (κ := 1) dd_E_seekComes_24 fr_E_46 h (show 2 * l + e < 6 by omega) rfl ?_
    refine ev_ic (v := 2) dd_E_seekComes_27 (by decide +kernel) ?_
    refine ev_icmp_ne dd_E_seekComes_28 (fun c2 => ?_) (fun c2 => ?_)
    · rw [if_neg c2]
      refine ev_aload_n dd_E_seekComes_44 rfl ?_
      refine K_gI (κ := 1) dd_E_seekComes_45 fr_E_46 h (show 2 * l + e < 6 by omega) rfl ?_
      refine ev_if_eq dd_E_seekComes_48 (fun c3 => ?_) (fun c3 => ?_)
      · rw [if_pos c3]
        refine ev_vret dd_E_seekComes_56 rfl ?_
        exact ⟨rfl, h⟩
      · rw [if_neg c3]
        refine ev_aload_n dd_E_seekComes_51 rfl ?_
        refine ev_iload_n dd_E_seekComes_52 rfl ?_
        refine ev_callvV [_] dd_E_seekComes_53 ms_E_fall iv_E_84 (h.al (κ := 9) (show e < 2 by omega)) (h.tg (κ := 9) (show e < 2 by omega)) rfl (Nat.le_of_ble_eq_true rfl) (Nat.le_of_ble_eq_true rfl) (k_E_fall (C := C) (l := l) hq J hn (show e < 2 by omega) hl hb h) (fun w4 h4 => ?_)
        refine ev_vret dd_E_seekComes_56 rfl ?_
        exact ⟨rfl, h4⟩
    · rw [if_pos c2]
      refine ev_aload_n dd_E_seekComes_31 rfl ?_
      refine ev_ic (v := 0) dd_E_seekComes_32 (by decide +kernel) ?_
      refine K_pI (κ := 1) dd_E_seekComes_33 fk_E_107 h hq (show 2 * l + e < 6 by omega) rfl rfl rfl (fun w5 h5 => ?_)
      refine ev_aload_n dd_E_seekComes_36 rfl ?_
      refine ev_ic (v := 0) dd_E_seekComes_37 (by decide +kernel) ?_
      refine K_pI (κ := 1) dd_E_seekComes_38 fk_E_110 h5 hq (show 2 * l + e < 6 by omega) rfl rfl rfl (fun w6 h6 => ?_)
      refine ev_goto dd_E_seekComes_41 ?_
      refine ev_vret dd_E_seekComes_56 rfl ?_
      exact ⟨rfl, h6⟩
  · rw [if_pos c1]
    refine ev_aload_n dd_E_seekComes_15 rfl ?_
    refine ev_ic (v := 2) dd_E_seekComes_16 (by decide +kernel) ?_
    refine ev_callvV [_] dd_E_seekComes_17 ms_S_comeTo iv_E_49 (h.al (κ := 1) (show 2 * l + e < 6 by omega)) (h.tg (κ := 1) (show 2 * l + e < 6 by omega)) rfl (Nat.le_of_ble_eq_true rfl) (Nat.le_of_ble_eq_true rfl) (k_S_comeTo hq (show 2 * l + e < 6 by omega) 2 h) (fun w7 h7 => ?_)
    refine ev_goto dd_E_seekComes_20 ?_
    refine ev_vret dd_E_seekComes_56 rfl ?_
    exact ⟨rfl, h7⟩
def cs_E_proveComes (C : cr_C) (e : Nat) (l : Nat) : cr_C := (if (C.1 1 (2 * l + e) 0) = 1 then (cs_S_comeTo C (2 * l + e) 2) else (if (C.1 1 (2 * l + e) 0) = 4 then (cs_E_fall C e l) else C))
theorem k_E_proveComes {e : Nat} {l : Nat} (hq : q0 < ev_b G) (J : ev_J G q0 mi) (hn : n ≤ 200000) (he : e < 2) (hl : l < 3) (hb : cr_b C (2 * l + e)) (h : cr_K G q0 w C n F Q) : ev_E G mm_E_proveComes (d + 9) 0 (lv_args 0 [.ref (ev_b G + cr_o 9 e), .int (Int32.ofNat l)]) [] w (cr_yv G q0 n F Q (cs_E_proveComes C e l)) := by
  unfold cs_E_proveComes
  refine ev_aload_n dd_E_proveComes_0 rfl ?_
  refine K_gP (κ := 9) (q := cr_o 15 e) dd_E_proveComes_1 fr_E_11 h (show e < 2 by omega) rfl ?_
  refine ev_iload_n dd_E_proveComes_4 rfl ?_
  refine K_aald (κ := 15) (j := l) (t := 5) (q := cr_o 1 (2 * l + e)) dd_E_proveComes_5 h (show e < 2 by omega) rfl rfl hl (by decide) (if_pos hl) ?_
  refine ev_astore_n dd_E_proveComes_6 (by decide) ?_
  refine ev_aload_n dd_E_proveComes_7 rfl ?_
  refine K_gI (κ := 1) dd_E_proveComes_8 fr_E_46 h (show 2 * l + e < 6 by omega) rfl ?_
  refine ev_ic (v := 1) dd_E_proveComes_11 (by decide +kernel) ?_
  refine ev_icmp_ne dd_E_proveComes_12 (fun c1 => ?_) (fun c1 => ?_)
  · rw [if_neg c1]
    refine ev_aload_n dd_E_proveComes_23 rfl ?_
    refine K_gI (κ := 1) dd_E_proveComes_24 fr_E_46 h (show 2 * l + e < 6 by omega) rfl ?_
    refine ev_ic (v := 4) dd_E_proveComes_27 (by decide +kernel) ?_
    refine ev_icmp_ne dd_E_proveComes_28 (fun c2 => ?_) (fun c2 => ?_)
    · rw [if_neg c2]
      refine ev_vret dd_E_proveComes_36 rfl ?_
      exact ⟨rfl, h⟩
    · rw [if_pos c2]
      refine ev_aload_n dd_E_proveComes_31 rfl ?_
      refine ev_iload_n dd_E_proveComes_32 rfl ?_
      refine ev_callvV [_] dd_E_proveComes_33 ms_E_fall iv_E_84 (h.al (κ := 9) (show e < 2 by omega)) (h.tg (κ := 9) (show e < 2 by omega)) rfl (Nat.le_of_ble_eq_true rfl) (Nat.le_of_ble_eq_true rfl) (k_E_fall (C := C) (l := l) hq J hn (show e < 2 by omega) hl hb h) (fun w3 h3 => ?_)
      refine ev_vret dd_E_proveComes_36 rfl ?_
      exact ⟨rfl, h3⟩
  · rw [if_pos c1]
    refine ev_aload_n dd_E_proveComes_15 rfl ?_
    refine ev_ic (v := 2) dd_E_proveComes_16 (by decide +kernel) ?_
    refine ev_callvV [_] dd_E_proveComes_17 ms_S_comeTo iv_E_49 (h.al (κ := 1) (show 2 * l + e < 6 by omega)) (h.tg (κ := 1) (show 2 * l + e < 6 by omega)) rfl (Nat.le_of_ble_eq_true rfl) (Nat.le_of_ble_eq_true rfl) (k_S_comeTo hq (show 2 * l + e < 6 by omega) 2 h) (fun w4 h4 => ?_)
    refine ev_goto dd_E_proveComes_20 ?_
    refine ev_vret dd_E_proveComes_36 rfl ?_
    exact ⟨rfl, h4⟩
def cs_E_outComes (C : cr_C) (e : Nat) (l : Nat) : cr_C := (if (C.1 1 (2 * l + e) 0) = 0 then C else (if (C.1 1 (2 * l + e) 0) = 1 then C else (cs_E_fall C e l)))
theorem k_E_outComes {e : Nat} {l : Nat} (hq : q0 < ev_b G) (J : ev_J G q0 mi) (hn : n ≤ 200000) (he : e < 2) (hl : l < 3) (hb : cr_b C (2 * l + e)) (h : cr_K G q0 w C n F Q) : ev_E G mm_E_outComes (d + 9) 0 (lv_args 0 [.ref (ev_b G + cr_o 9 e), .int (Int32.ofNat l)]) [] w (cr_yv G q0 n F Q (cs_E_outComes C e l)) := by
  unfold cs_E_outComes
  refine ev_aload_n dd_E_outComes_0 rfl ?_
  refine K_gP (κ := 9) (q := cr_o 15 e) dd_E_outComes_1 fr_E_11 h (show e < 2 by omega) rfl ?_
  refine ev_iload_n dd_E_outComes_4 rfl ?_
  refine K_aald (κ := 15) (j := l) (t := 5) (q := cr_o 1 (2 * l + e)) dd_E_outComes_5 h (show e < 2 by omega) rfl rfl hl (by decide) (if_pos hl) ?_
  refine K_gI (κ := 1) dd_E_outComes_6 fr_E_46 h (show 2 * l + e < 6 by omega) rfl ?_
  refine ev_istore_n dd_E_outComes_9 (by decide) ?_
  refine ev_iload_n dd_E_outComes_10 rfl ?_
  refine ev_if_eq dd_E_outComes_11 (fun c1 => ?_) (fun c1 => ?_)
  · rw [if_pos c1]
    refine ev_vret dd_E_outComes_24 rfl ?_
    exact ⟨rfl, h⟩
  · rw [if_neg c1]
    refine ev_iload_n dd_E_outComes_14 rfl ?_
    refine ev_ic (v := 1) dd_E_outComes_15 (by decide +kernel) ?_
    refine ev_icmp_eq dd_E_outComes_16 (fun c2 => ?_) (fun c2 => ?_)
    · rw [if_pos c2]
      refine ev_vret dd_E_outComes_24 rfl ?_
      exact ⟨rfl, h⟩
    · rw [if_neg c2]
      refine ev_aload_n dd_E_outComes_19 rfl ?_
      refine ev_iload_n dd_E_outComes_20 rfl ?_
      refine ev_callvV [_] dd_E_outComes_21 ms_E_fall iv_E_84 (h.al (κ := 9) (show e < 2 by omega)) (h.tg (κ := 9) (show e < 2 by omega)) rfl (Nat.le_of_ble_eq_true rfl) (Nat.le_of_ble_eq_true rfl) (k_E_fall (C := C) (l := l) hq J hn (show e < 2 by omega) hl hb h) (fun w3 h3 => ?_)
      refine ev_vret dd_E_outComes_24 rfl ?_
      exact ⟨rfl, h3⟩
def cs_E_age (C : cr_C) (e : Nat) (l : Nat) : cr_C := (if ((cs_S_failsByAge C (2 * l + e)).1) = 0 then ((cs_S_failsByAge C (2 * l + e)).2) else (cs_E_fall ((cs_S_failsByAge C (2 * l + e)).2) e l))
theorem k_E_age {e : Nat} {l : Nat} (hq : q0 < ev_b G) (J : ev_J G q0 mi) (hn : n ≤ 200000) (he : e < 2) (hl : l < 3) (hb : cr_b (cs_S_failsByAge C (2 * l + e)).2 (2 * l + e)) (h : cr_K G q0 w C n F Q) : ev_E G mm_E_age (d + 9) 0 (lv_args 0 [.ref (ev_b G + cr_o 9 e), .int (Int32.ofNat l)]) [] w (cr_yv G q0 n F Q (cs_E_age C e l)) := by
  unfold cs_E_age
  refine ev_aload_n dd_E_age_0 rfl ?_
  refine K_gP (κ := 9) (q := cr_o 15 e) dd_E_age_1 fr_E_11 h (show e < 2 by omega) rfl ?_
  refine ev_iload_n dd_E_age_4 rfl ?_
  refine K_aald (κ := 15) (j := l) (t := 5) (q := cr_o 1 (2 * l + e)) dd_E_age_5 h (show e < 2 by omega) rfl rfl hl (by decide) (if_pos hl) ?_
  refine ev_callvN [] dd_E_age_6 ms_S_failsByAge iv_E_80 (h.al (κ := 1) (show 2 * l + e < 6 by omega)) (h.tg (κ := 1) (show 2 * l + e < 6 by omega)) rfl (Nat.le_of_ble_eq_true rfl) (Nat.le_of_ble_eq_true rfl) (k_S_failsByAge hq (show 2 * l + e < 6 by omega) h) (fun w1 h1 => ?_)
  refine ev_if_eq dd_E_age_9 (fun c2 => ?_) (fun c2 => ?_)
  · rw [if_pos c2]
    refine ev_vret dd_E_age_17 rfl ?_
    exact ⟨rfl, h1⟩
  · rw [if_neg c2]
    refine ev_aload_n dd_E_age_12 rfl ?_
    refine ev_iload_n dd_E_age_13 rfl ?_
    refine ev_callvV [_] dd_E_age_14 ms_E_fall iv_E_84 (h1.al (κ := 9) (show e < 2 by omega)) (h1.tg (κ := 9) (show e < 2 by omega)) rfl (Nat.le_of_ble_eq_true rfl) (Nat.le_of_ble_eq_true rfl) (k_E_fall (C := (cs_S_failsByAge C (2 * l + e)).2) (l := l) hq J hn (show e < 2 by omega) hl hb h1) (fun w3 h3 => ?_)
    refine ev_vret dd_E_age_17 rfl ?_
    exact ⟨rfl, h3⟩
def cs_E_damagedComes (C : cr_C) (e : Nat) (l : Nat) : cr_C := (if ((cs_S_failsByDamage C (2 * l + e)).1) = 0 then ((cs_S_failsByDamage C (2 * l + e)).2) else (cs_E_fall ((cs_S_failsByDamage C (2 * l + e)).2) e l))
theorem k_E_damagedComes {e : Nat} {l : Nat} (hq : q0 < ev_b G) (J : ev_J G q0 mi) (hn : n ≤ 200000) (he : e < 2) (hl : l < 3) (hb : cr_b (cs_S_failsByDamage C (2 * l + e)).2 (2 * l + e)) (h : cr_K G q0 w C n F Q) : ev_E G mm_E_damagedComes (d + 9) 0 (lv_args 0 [.ref (ev_b G + cr_o 9 e), .int (Int32.ofNat l)]) [] w (cr_yv G q0 n F Q (cs_E_damagedComes C e l)) := by
  unfold cs_E_damagedComes
  refine ev_aload_n dd_E_damagedComes_0 rfl ?_
  refine K_gP (κ := 9) (q := cr_o 15 e) dd_E_damagedComes_1 fr_E_11 h (show e < 2 by omega) rfl ?_
  refine ev_iload_n dd_E_damagedComes_4 rfl ?_
  refine K_aald (κ := 15) (j := l) (t := 5) (q := cr_o 1 (2 * l + e)) dd_E_damagedComes_5 h (show e < 2 by omega) rfl rfl hl (by decide) (if_pos hl) ?_
  refine ev_callvN [] dd_E_damagedComes_6 ms_S_failsByDamage iv_E_87 (h.al (κ := 1) (show 2 * l + e < 6 by omega)) (h.tg (κ := 1) (show 2 * l + e < 6 by omega)) rfl (Nat.le_of_ble_eq_true rfl) (Nat.le_of_ble_eq_true rfl) (k_S_failsByDamage hq (show 2 * l + e < 6 by omega) h) (fun w1 h1 => ?_)
  refine ev_if_eq dd_E_damagedComes_9 (fun c2 => ?_) (fun c2 => ?_)
  · rw [if_pos c2]
    refine ev_vret dd_E_damagedComes_17 rfl ?_
    exact ⟨rfl, h1⟩
  · rw [if_neg c2]
    refine ev_aload_n dd_E_damagedComes_12 rfl ?_
    refine ev_iload_n dd_E_damagedComes_13 rfl ?_
    refine ev_callvV [_] dd_E_damagedComes_14 ms_E_fall iv_E_84 (h1.al (κ := 9) (show e < 2 by omega)) (h1.tg (κ := 9) (show e < 2 by omega)) rfl (Nat.le_of_ble_eq_true rfl) (Nat.le_of_ble_eq_true rfl) (k_E_fall (C := (cs_S_failsByDamage C (2 * l + e)).2) (l := l) hq J hn (show e < 2 by omega) hl hb h1) (fun w3 h3 => ?_)
    refine ev_vret dd_E_damagedComes_17 rfl ?_
    exact ⟨rfl, h3⟩
end CrZ
