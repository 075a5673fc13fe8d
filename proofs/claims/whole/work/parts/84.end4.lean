/-! a unit without a number comes -/
theorem lk_E_statusComes {x : Int32} (h2 : ¬ x = 2) (h3 : ¬ x = 3) : Op.lookupswitch.offset [(2, 28), (3, 49)] 70 x.toInt = 70 := by
  rw [Op.lookupswitch.offset_cons, if_neg (fun e => h2 (Int32.toInt_inj.mp (e.symm.trans (by decide)))), Op.lookupswitch.offset_cons, if_neg (fun e => h3 (Int32.toInt_inj.mp (e.symm.trans (by decide)))), Op.lookupswitch.offset_nil]
section CrB
variable {G : ev_gx} {M : ev_mx} {d pc pc' tgt : Nat} {L : List (Nat × Value)} {st : List Value} {w w1 : ev_wd} {P : ev_r → ev_wd → Prop} {q0 mi n n' : Nat} {C : cr_C} {F : ev_wd} {Q : Nat → cr_m → Prop}
def cs_E_statusComes (C : cr_C) (e : Nat) (l : Nat) (t : Nat) : cr_C := (if (C.1 3 t 0) = 2 then (cr_sI (cs_E_seekComes C e l) 1 (2 * l + e) 3 ((cs_E_seekComes C e l).1 3 t 1)) else (if (C.1 3 t 0) = 3 then (cr_sI (cs_E_proveComes C e l) 1 (2 * l + e) 3 ((cs_E_proveComes C e l).1 3 t 1)) else (cs_E_outComes C e l)))
theorem k_E_statusComes {e : Nat} {l : Nat} {t : Nat} (hq : q0 < ev_b G) (J : ev_J G q0 mi) (hn : n ≤ 200000) (he : e < 2) (hl : l < 3) (ht : t < 6) (hb : cr_b C (2 * l + e)) (h : cr_K G q0 w C n F Q) : ev_E G mm_E_statusComes (d + 10) 0 (lv_args 0 [.ref (ev_b G + cr_o 9 e), .int (Int32.ofNat l), .ref (ev_b G + cr_o 3 t)]) [] w (cr_yv G q0 n F Q (cs_E_statusComes C e l t)) := by
  unfold cs_E_statusComes
  refine ev_aload_n dd_E_statusComes_0 rfl ?_
  refine K_gI (κ := 3) dd_E_statusComes_1 fr_E_90 h (show t < 6 by omega) rfl ?_
  by_cases c1 : (C.1 3 t 0) = 2
  · rw [if_pos c1]
    refine ev_lookup (off := 28) dd_E_statusComes_4 (by decide) (by rw [c1]; rfl) (tgt := 32) rfl ?_
    refine ev_aload_n dd_E_statusComes_32 rfl ?_
    refine ev_iload_n dd_E_statusComes_33 rfl ?_
    refine ev_callvV [_] dd_E_statusComes_34 ms_E_seekComes iv_E_95 (h.al (κ := 9) (show e < 2 by omega)) (h.tg (κ := 9) (show e < 2 by omega)) rfl (Nat.le_of_ble_eq_true rfl) (Nat.le_of_ble_eq_true rfl) (k_E_seekComes (C := C) (l := l) hq J hn (show e < 2 by omega) hl hb h) (fun w2 h2 => ?_)
    refine ev_aload_n dd_E_statusComes_37 rfl ?_
    refine K_gP (κ := 9) (q := cr_o 15 e) dd_E_statusComes_38 fr_E_11 h2 (show e < 2 by omega) rfl ?_
    refine ev_iload_n dd_E_statusComes_41 rfl ?_
    refine K_aald (κ := 15) (j := l) (t := 5) (q := cr_o 1 (2 * l + e)) dd_E_statusComes_42 h2 (show e < 2 by omega) rfl rfl hl (by decide) (if_pos hl) ?_
    refine ev_aload_n dd_E_statusComes_43 rfl ?_
    refine K_gI (κ := 3) dd_E_statusComes_44 fr_E_98 h2 (show t < 6 by omega) rfl ?_
    refine K_pI (κ := 1) dd_E_statusComes_47 fk_E_61 h2 hq (show 2 * l + e < 6 by omega) rfl rfl rfl (fun w3 h3 => ?_)
    refine ev_goto dd_E_statusComes_50 ?_
    refine ev_vret dd_E_statusComes_79 rfl ?_
    exact ⟨rfl, h3⟩
  · rw [if_neg c1]
    by_cases c4 : (C.1 3 t 0) = 3
    · rw [if_pos c4]
      refine ev_lookup (off := 49) dd_E_statusComes_4 (by decide) (by rw [c4]; rfl) (tgt := 53) rfl ?_
      refine ev_aload_n dd_E_statusComes_53 rfl ?_
      refine ev_iload_n dd_E_statusComes_54 rfl ?_
      refine ev_callvV [_] dd_E_statusComes_55 ms_E_proveComes iv_E_101 (h.al (κ := 9) (show e < 2 by omega)) (h.tg (κ := 9) (show e < 2 by omega)) rfl (Nat.le_of_ble_eq_true rfl) (Nat.le_of_ble_eq_true rfl) (k_E_proveComes (C := C) (l := l) hq J hn (show e < 2 by omega) hl hb h) (fun w5 h5 => ?_)
      refine ev_aload_n dd_E_statusComes_58 rfl ?_
      refine K_gP (κ := 9) (q := cr_o 15 e) dd_E_statusComes_59 fr_E_11 h5 (show e < 2 by omega) rfl ?_
      refine ev_iload_n dd_E_statusComes_62 rfl ?_
      refine K_aald (κ := 15) (j := l) (t := 5) (q := cr_o 1 (2 * l + e)) dd_E_statusComes_63 h5 (show e < 2 by omega) rfl rfl hl (by decide) (if_pos hl) ?_
      refine ev_aload_n dd_E_statusComes_64 rfl ?_
      refine K_gI (κ := 3) dd_E_statusComes_65 fr_E_98 h5 (show t < 6 by omega) rfl ?_
      refine K_pI (κ := 1) dd_E_statusComes_68 fk_E_61 h5 hq (show 2 * l + e < 6 by omega) rfl rfl rfl (fun w6 h6 => ?_)
      refine ev_goto dd_E_statusComes_71 ?_
      refine ev_vret dd_E_statusComes_79 rfl ?_
      exact ⟨rfl, h6⟩
    · rw [if_neg c4]
      refine ev_lookup (off := 70) dd_E_statusComes_4 (by decide) (lk_E_statusComes c1 c4) (tgt := 74) rfl ?_
      refine ev_aload_n dd_E_statusComes_74 rfl ?_
      refine ev_iload_n dd_E_statusComes_75 rfl ?_
      refine ev_callvV [_] dd_E_statusComes_76 ms_E_outComes iv_E_104 (h.al (κ := 9) (show e < 2 by omega)) (h.tg (κ := 9) (show e < 2 by omega)) rfl (Nat.le_of_ble_eq_true rfl) (Nat.le_of_ble_eq_true rfl) (k_E_outComes (C := C) (l := l) hq J hn (show e < 2 by omega) hl hb h) (fun w7 h7 => ?_)
      refine ev_vret dd_E_statusComes_79 rfl ?_
      exact ⟨rfl, h7⟩
end CrB
