/-! a tick of the reference -/
def rf_fold (f : rf_C → Nat → Nat → rf_C) : List (Nat × Nat) → rf_C → rf_C
  | [], D => D
  | (l, e) :: xs, D => rf_fold f xs (f D l e)
def rf_all (f : rf_C → Nat → Nat → rf_C) (p : rf_C → Nat → Nat → Prop) : List (Nat × Nat) → rf_C → Prop
  | [], _ => True
  | (l, e) :: xs, D => p D l e ∧ rf_all f p xs (f D l e)
def cr_le : List (Nat × Nat) := [(0, 0), (0, 1), (1, 0), (1, 1), (2, 0), (2, 1)]
def cr_el : List (Nat × Nat) := [(0, 0), (1, 0), (2, 0), (0, 1), (1, 1), (2, 1)]
def rs_age (D : rf_C) (l e : Nat) : rf_C := rs_D_age D (2 * l + e)
def rs_snd (D : rf_C) (l e : Nat) : rf_C := rs_send D (2 * l + e)
def rf_k2 (D : rf_C) (l e : Nat) : Prop := rf_hu D (2 * l + e)
def rf_k3 (D : rf_C) (l e : Nat) : Prop := rz D ≤ 2399 ∧ rf_fi D l e
def rf_k4 (D : rf_C) (l e : Nat) : Prop := D.1 27 (2 * l + e) = Int32.ofNat (rf_ag D (2 * l + e)) ∧ rf_ag D (2 * l + e) < 100
def rs_t0 (D : rf_C) : rf_C := rf_sI (rf_sI D 0 0 0) 50 0 0
def rs_t1 (D : rf_C) : rf_C := rf_fold rs_deliver cr_le D
def rs_t2 (D : rf_C) : rf_C := rf_fold rs_age cr_le D
def rs_t3 (D : rf_C) : rf_C := rf_fold rs_tickChange cr_el D
def rs_t4 (D : rf_C) : rf_C := rf_fold rs_snd cr_le D
def rs_tick (D : rf_C) : rf_C := rs_t4 (rs_t3 (rs_t2 (rs_t1 (rs_t0 D))))
section RgD
variable {G : ev_gx} {M : ev_mx} {d pc pc' tgt : Nat} {L : List (Nat × Value)} {st : List Value} {w w1 F : ev_wd} {P : ev_r → ev_wd → Prop} {D D' : rf_C} {H : Option (Nat × rf_m)} {Q : Nat → rf_m → Prop}
theorem k_D_t1s {l e : Nat} (hl : l < 3) (he : e < 2) (hk : rf_dk D l e) (h : rf_K G w D none F rf_Q0) (kk : ∀ w1, rf_K G w1 (rs_deliver D l e) none F rf_Q0 → ev_E G mm_D_tick (d + 7) 12 [(0, .ref (ev_b G + 77)), (1, .int (Int32.ofNat (2 * l + e + 1)))] [] w1 P) : ev_E G mm_D_tick (d + 7) 12 [(0, .ref (ev_b G + 77)), (1, .int (Int32.ofNat (2 * l + e)))] [] w P := by
  refine ev_iload_n dd_D_tick_12 rfl ?_
  refine ev_bp (v := 6) dd_D_tick_13 (by decide +kernel) ?_
  refine ev_icmp_ge dd_D_tick_15 (fun hc => absurd hc (nI_ge (b := 6) (show 2 * l + e < 6 by omega) (by decide))) (fun _ => ?_)
  refine ev_aload_n dd_D_tick_18 rfl ?_
  refine ev_iload_n dd_D_tick_19 rfl ?_
  refine ev_callvV2 [_] dd_D_tick_20 ms_D_deliver iv_D_249 h.ob h.tg rfl (Nat.le_of_ble_eq_true rfl) (Nat.le_of_ble_eq_true rfl) (k_D_deliver hl he hk h) (fun w1 h1 => ?_)
  refine ev_iinc dd_D_tick_23 rfl (by decide) ?_
  refine ev_goto dd_D_tick_26 ?_
  refine ev_loc2 (i0 := 0) (i1 := 1) rfl (v1 := .int (Int32.ofNat (2 * l + e + 1))) (by rw [show Int32.ofNat (2 * l + e + 1) = Int32.ofNat (2 * l + e) + Int32.ofInt 1 by rw [inc_ofNat]; rfl]; rfl) ?_
  exact kk w1 h1
theorem k_D_t2s {l e : Nat} (hl : l < 3) (he : e < 2) (hk : rf_k2 D l e) (h : rf_K G w D none F rf_Q0) (kk : ∀ w1, rf_K G w1 (rs_age D l e) none F rf_Q0 → ev_E G mm_D_tick (d + 7) 31 [(0, .ref (ev_b G + 77)), (1, .int (Int32.ofNat (2 * l + e + 1)))] [] w1 P) : ev_E G mm_D_tick (d + 7) 31 [(0, .ref (ev_b G + 77)), (1, .int (Int32.ofNat (2 * l + e)))] [] w P := by
  refine ev_iload_n dd_D_tick_31 rfl ?_
  refine ev_bp (v := 6) dd_D_tick_32 (by decide +kernel) ?_
  refine ev_icmp_ge dd_D_tick_34 (fun hc => absurd hc (nI_ge (b := 6) (show 2 * l + e < 6 by omega) (by decide))) (fun _ => ?_)
  refine ev_aload_n dd_D_tick_37 rfl ?_
  refine ev_iload_n dd_D_tick_38 rfl ?_
  refine ev_callvV2 [_] dd_D_tick_39 ms_D_age iv_D_252 h.ob h.tg rfl (Nat.le_of_ble_eq_true rfl) (Nat.le_of_ble_eq_true rfl) (k_D_age (show 2 * l + e < 6 by omega) hk h) (fun w1 h1 => ?_)
  refine ev_iinc dd_D_tick_42 rfl (by decide) ?_
  refine ev_goto dd_D_tick_45 ?_
  refine ev_loc2 (i0 := 0) (i1 := 1) rfl (v1 := .int (Int32.ofNat (2 * l + e + 1))) (by rw [show Int32.ofNat (2 * l + e + 1) = Int32.ofNat (2 * l + e) + Int32.ofInt 1 by rw [inc_ofNat]; rfl]; rfl) ?_
  exact kk w1 h1
theorem k_D_t4s {l e : Nat} (hl : l < 3) (he : e < 2) (hk : rf_k4 D l e) (h : rf_K G w D none F rf_Q0) (kk : ∀ w1, rf_K G w1 (rs_snd D l e) none F rf_Q0 → ev_E G mm_D_tick (d + 7) 85 [(0, .ref (ev_b G + 77)), (1, .int (Int32.ofNat (2 * l + e + 1)))] [] w1 P) : ev_E G mm_D_tick (d + 7) 85 [(0, .ref (ev_b G + 77)), (1, .int (Int32.ofNat (2 * l + e)))] [] w P := by
  refine ev_iload_n dd_D_tick_85 rfl ?_
  refine ev_bp (v := 6) dd_D_tick_86 (by decide +kernel) ?_
  refine ev_icmp_ge dd_D_tick_88 (fun hc => absurd hc (nI_ge (b := 6) (show 2 * l + e < 6 by omega) (by decide))) (fun _ => ?_)
  refine ev_aload_n dd_D_tick_91 rfl ?_
  refine ev_iload_n dd_D_tick_92 rfl ?_
  refine ev_callvV2 [_] dd_D_tick_93 ms_D_send iv_D_258 h.ob h.tg rfl (Nat.le_of_ble_eq_true rfl) (Nat.le_of_ble_eq_true rfl) (k_D_send (show 2 * l + e < 6 by omega) hk h) (fun w1 h1 => ?_)
  refine ev_iinc dd_D_tick_96 rfl (by decide) ?_
  refine ev_goto dd_D_tick_99 ?_
  refine ev_loc2 (i0 := 0) (i1 := 1) rfl (v1 := .int (Int32.ofNat (2 * l + e + 1))) (by rw [show Int32.ofNat (2 * l + e + 1) = Int32.ofNat (2 * l + e) + Int32.ofInt 1 by rw [inc_ofNat]; rfl]; rfl) ?_
  exact kk w1 h1
theorem k_D_t3s {l e : Nat} (hl : l < 3) (he : e < 2) (hk : rf_k3 D l e) (h : rf_K G w D none F rf_Q0) (kk : ∀ w1, rf_K G w1 (rs_tickChange D l e) none F rf_Q0 → ev_E G mm_D_tick (d + 7) 57 [(0, .ref (ev_b G + 77)), (1, .int (Int32.ofNat e)), (2, .int (Int32.ofNat (l + 1)))] [] w1 P) : ev_E G mm_D_tick (d + 7) 57 [(0, .ref (ev_b G + 77)), (1, .int (Int32.ofNat e)), (2, .int (Int32.ofNat l))] [] w P := by
  refine ev_iload_n dd_D_tick_57 rfl ?_
  refine ev_ic (v := 3) dd_D_tick_58 (by decide +kernel) ?_
  refine ev_icmp_ge dd_D_tick_59 (fun hc => absurd hc (nI_ge (b := 3) hl (by decide))) (fun _ => ?_)
  refine ev_aload_n dd_D_tick_62 rfl ?_
  refine ev_ic (v := 2) dd_D_tick_63 (by decide +kernel) ?_
  refine ev_iload_n dd_D_tick_64 rfl ?_
  refine ev_imul dd_D_tick_65 ?_
  refine ev_iload_n dd_D_tick_66 rfl ?_
  refine ev_iadd dd_D_tick_67 ?_
  rw [show (2 : Int32) * Int32.ofNat l = Int32.ofNat (2 * l) from ms_mul 2 l, show Int32.ofNat (2 * l) + Int32.ofNat e = Int32.ofNat (2 * l + e) from nI_add _ _]
  refine ev_callvV2 [_] dd_D_tick_68 ms_D_tickChange iv_D_255 h.ob h.tg rfl (Nat.le_of_ble_eq_true rfl) (Nat.le_of_ble_eq_true rfl) (k_D_tickChange hl he hk.1 hk.2 h) (fun w1 h1 => ?_)
  refine ev_iinc dd_D_tick_71 rfl (by decide) ?_
  refine ev_goto dd_D_tick_74 ?_
  refine ev_loc3 (i0 := 0) (i1 := 1) (i2 := 2) rfl rfl (v2 := .int (Int32.ofNat (l + 1))) (by rw [show Int32.ofNat (l + 1) = Int32.ofNat (l) + Int32.ofInt 1 by rw [inc_ofNat]; rfl]; rfl) ?_
  exact kk w1 h1
theorem rf_fold_cons (f : rf_C → Nat → Nat → rf_C) (l e : Nat) (xs : List (Nat × Nat)) (D : rf_C) : rf_fold f ((l, e) :: xs) D = rf_fold f xs (f D l e) := rfl
theorem rf_fold_nil (f : rf_C → Nat → Nat → rf_C) (D : rf_C) : rf_fold f [] D = D := rfl
theorem rf_all_cons (f : rf_C → Nat → Nat → rf_C) (p : rf_C → Nat → Nat → Prop) (l e : Nat) (xs : List (Nat × Nat)) (D : rf_C) : rf_all f p ((l, e) :: xs) D = (p D l e ∧ rf_all f p xs (f D l e)) := rfl
theorem rs_t1_eq (D0 : rf_C) : rs_t1 D0 = (rs_deliver (rs_deliver (rs_deliver (rs_deliver (rs_deliver (rs_deliver D0 0 0) 0 1) 1 0) 1 1) 2 0) 2 1) := by
  unfold rs_t1 cr_le
  rw [rf_fold_cons, rf_fold_cons, rf_fold_cons, rf_fold_cons, rf_fold_cons, rf_fold_cons, rf_fold_nil]
theorem rs_t2_eq (D1 : rf_C) : rs_t2 D1 = (rs_age (rs_age (rs_age (rs_age (rs_age (rs_age D1 0 0) 0 1) 1 0) 1 1) 2 0) 2 1) := by
  unfold rs_t2 cr_le
  rw [rf_fold_cons, rf_fold_cons, rf_fold_cons, rf_fold_cons, rf_fold_cons, rf_fold_cons, rf_fold_nil]
theorem rs_t3_eq (D2 : rf_C) : rs_t3 D2 = (rs_tickChange (rs_tickChange (rs_tickChange (rs_tickChange (rs_tickChange (rs_tickChange D2 0 0) 1 0) 2 0) 0 1) 1 1) 2 1) := by
  unfold rs_t3 cr_el
  rw [rf_fold_cons, rf_fold_cons, rf_fold_cons, rf_fold_cons, rf_fold_cons, rf_fold_cons, rf_fold_nil]
theorem rs_t4_eq (D3 : rf_C) : rs_t4 D3 = (rs_snd (rs_snd (rs_snd (rs_snd (rs_snd (rs_snd D3 0 0) 0 1) 1 0) 1 1) 2 0) 2 1) := by
  unfold rs_t4 cr_le
  rw [rf_fold_cons, rf_fold_cons, rf_fold_cons, rf_fold_cons, rf_fold_cons, rf_fold_cons, rf_fold_nil]
theorem k_D_tick0 {D0 D1 D2 D3 D4 : rf_C} {x : Int32} (e0 : rs_t0 D = D0) (e1 : (rs_deliver (rs_deliver (rs_deliver (rs_deliver (rs_deliver (rs_deliver D0 0 0) 0 1) 1 0) 1 1) 2 0) 2 1) = D1) (e2 : (rs_age (rs_age (rs_age (rs_age (rs_age (rs_age D1 0 0) 0 1) 1 0) 1 1) 2 0) 2 1) = D2) (e3 : (rs_tickChange (rs_tickChange (rs_tickChange (rs_tickChange (rs_tickChange (rs_tickChange D2 0 0) 1 0) 2 0) 0 1) 1 1) 2 1) = D3) (e4 : (rs_snd (rs_snd (rs_snd (rs_snd (rs_snd (rs_snd D3 0 0) 0 1) 1 0) 1 1) 2 0) 2 1) = D4) (e5 : D4.1 50 0 = x) (p0 : rf_dk D0 0 0) (p1 : rf_dk (rs_deliver D0 0 0) 0 1) (p2 : rf_dk (rs_deliver (rs_deliver D0 0 0) 0 1) 1 0) (p3 : rf_dk (rs_deliver (rs_deliver (rs_deliver D0 0 0) 0 1) 1 0) 1 1) (p4 : rf_dk (rs_deliver (rs_deliver (rs_deliver (rs_deliver D0 0 0) 0 1) 1 0) 1 1) 2 0) (p5 : rf_dk (rs_deliver (rs_deliver (rs_deliver (rs_deliver (rs_deliver D0 0 0) 0 1) 1 0) 1 1) 2 0) 2 1) (q0 : rf_k2 D1 0 0) (q1 : rf_k2 (rs_age D1 0 0) 0 1) (q2 : rf_k2 (rs_age (rs_age D1 0 0) 0 1) 1 0) (q3 : rf_k2 (rs_age (rs_age (rs_age D1 0 0) 0 1) 1 0) 1 1) (q4 : rf_k2 (rs_age (rs_age (rs_age (rs_age D1 0 0) 0 1) 1 0) 1 1) 2 0) (q5 : rf_k2 (rs_age (rs_age (rs_age (rs_age (rs_age D1 0 0) 0 1) 1 0) 1 1) 2 0) 2 1) (r0 : rf_k3 D2 0 0) (r1 : rf_k3 (rs_tickChange D2 0 0) 1 0) (r2 : rf_k3 (rs_tickChange (rs_tickChange D2 0 0) 1 0) 2 0) (r3 : rf_k3 (rs_tickChange (rs_tickChange (rs_tickChange D2 0 0) 1 0) 2 0) 0 1) (r4 : rf_k3 (rs_tickChange (rs_tickChange (rs_tickChange (rs_tickChange D2 0 0) 1 0) 2 0) 0 1) 1 1) (r5 : rf_k3 (rs_tickChange (rs_tickChange (rs_tickChange (rs_tickChange (rs_tickChange D2 0 0) 1 0) 2 0) 0 1) 1 1) 2 1) (u0 : rf_k4 D3 0 0) (u1 : rf_k4 (rs_snd D3 0 0) 0 1) (u2 : rf_k4 (rs_snd (rs_snd D3 0 0) 0 1) 1 0) (u3 : rf_k4 (rs_snd (rs_snd (rs_snd D3 0 0) 0 1) 1 0) 1 1) (u4 : rf_k4 (rs_snd (rs_snd (rs_snd (rs_snd D3 0 0) 0 1) 1 0) 1 1) 2 0) (u5 : rf_k4 (rs_snd (rs_snd (rs_snd (rs_snd (rs_snd D3 0 0) 0 1) 1 0) 1 1) 2 0) 2 1) (h : rf_K G w D none F rf_Q0) :
    ev_E G mm_D_tick (d + 7) 0 (lv_args 0 [.ref (ev_b G + 77)]) [] w (fun t w' => t = .inl (some (.int x)) ∧ rf_K G w' D4 none F rf_Q0) := by
  refine ev_aload_n dd_D_tick_0 rfl ?_
  refine ev_ic (v := 0) dd_D_tick_1 (by decide +kernel) ?_
  refine R_pI (k := 0) dd_D_tick_2 fk_D_157 h rfl (by decide) rfl rfl (fun w1 g1 => ?_)
  refine ev_aload_n dd_D_tick_5 rfl ?_
  refine ev_ic (v := 0) dd_D_tick_6 (by decide +kernel) ?_
  refine R_pI (k := 50) dd_D_tick_7 fk_D_233 g1 rfl (by decide) rfl rfl (fun w2 g2' => ?_)
  have g2 : rf_K G w2 D0 none F rf_Q0 := by rw [← e0]; exact g2'
  refine ev_ic (v := 0) dd_D_tick_10 (by decide +kernel) ?_
  refine ev_istore_n dd_D_tick_11 (by decide) ?_
  refine ev_loc2 (i0 := 0) (i1 := 1) rfl (v1 := .int (Int32.ofNat (2 * 0 + 0))) rfl ?_
  refine k_D_t1s (D := D0) (l := 0) (e := 0) (by decide) (by decide) p0 g2 (fun w10 g10 => ?_)
  refine k_D_t1s (D := (rs_deliver D0 0 0)) (l := 0) (e := 1) (by decide) (by decide) p1 g10 (fun w11 g11 => ?_)
  refine k_D_t1s (D := (rs_deliver (rs_deliver D0 0 0) 0 1)) (l := 1) (e := 0) (by decide) (by decide) p2 g11 (fun w12 g12 => ?_)
  refine k_D_t1s (D := (rs_deliver (rs_deliver (rs_deliver D0 0 0) 0 1) 1 0)) (l := 1) (e := 1) (by decide) (by decide) p3 g12 (fun w13 g13 => ?_)
  refine k_D_t1s (D := (rs_deliver (rs_deliver (rs_deliver (rs_deliver D0 0 0) 0 1) 1 0) 1 1)) (l := 2) (e := 0) (by decide) (by decide) p4 g13 (fun w14 g14 => ?_)
  refine k_D_t1s (D := (rs_deliver (rs_deliver (rs_deliver (rs_deliver (rs_deliver D0 0 0) 0 1) 1 0) 1 1) 2 0)) (l := 2) (e := 1) (by decide) (by decide) p5 g14 (fun w15 g15 => ?_)
  rw [e1] at g15
  refine ev_loc2 (i0 := 0) (i1 := 1) rfl (v1 := .int (Int32.ofNat 6)) rfl ?_
  refine ev_iload_n dd_D_tick_12 rfl ?_
  refine ev_bp (v := 6) dd_D_tick_13 (by decide +kernel) ?_
  refine ev_icmp_ge dd_D_tick_15 (fun _ => ?_) (fun hc => absurd (by decide) hc)
  refine ev_ic (v := 0) dd_D_tick_29 (by decide +kernel) ?_
  refine ev_istore_n dd_D_tick_30 (by decide) ?_
  refine ev_loc2 (i0 := 0) (i1 := 1) rfl (v1 := .int (Int32.ofNat (2 * 0 + 0))) rfl ?_
  refine k_D_t2s (D := D1) (l := 0) (e := 0) (by decide) (by decide) q0 g15 (fun w20 g30 => ?_)
  refine k_D_t2s (D := (rs_age D1 0 0)) (l := 0) (e := 1) (by decide) (by decide) q1 g30 (fun w21 g31 => ?_)
  refine k_D_t2s (D := (rs_age (rs_age D1 0 0) 0 1)) (l := 1) (e := 0) (by decide) (by decide) q2 g31 (fun w22 g32 => ?_)
  refine k_D_t2s (D := (rs_age (rs_age (rs_age D1 0 0) 0 1) 1 0)) (l := 1) (e := 1) (by decide) (by decide) q3 g32 (fun w23 g33 => ?_)
  refine k_D_t2s (D := (rs_age (rs_age (rs_age (rs_age D1 0 0) 0 1) 1 0) 1 1)) (l := 2) (e := 0) (by decide) (by decide) q4 g33 (fun w24 g34 => ?_)
  refine k_D_t2s (D := (rs_age (rs_age (rs_age (rs_age (rs_age D1 0 0) 0 1) 1 0) 1 1) 2 0)) (l := 2) (e := 1) (by decide) (by decide) q5 g34 (fun w25 g35 => ?_)
  rw [e2] at g35
  refine ev_loc2 (i0 := 0) (i1 := 1) rfl (v1 := .int (Int32.ofNat 6)) rfl ?_
  refine ev_iload_n dd_D_tick_31 rfl ?_
  refine ev_bp (v := 6) dd_D_tick_32 (by decide +kernel) ?_
  refine ev_icmp_ge dd_D_tick_34 (fun _ => ?_) (fun hc => absurd (by decide) hc)
  refine ev_ic (v := 0) dd_D_tick_48 (by decide +kernel) ?_
  refine ev_istore_n dd_D_tick_49 (by decide) ?_
  refine ev_iload_n dd_D_tick_50 rfl ?_
  refine ev_ic (v := 2) dd_D_tick_51 (by decide +kernel) ?_
  refine ev_icmp_ge dd_D_tick_52 (fun hc => absurd hc (by decide)) (fun _ => ?_)
  refine ev_ic (v := 0) dd_D_tick_55 (by decide +kernel) ?_
  refine ev_istore_n dd_D_tick_56 (by decide) ?_
  refine ev_loc3 (i0 := 0) (i1 := 1) (i2 := 2) rfl (v1 := .int (Int32.ofNat 0)) rfl (v2 := .int (Int32.ofNat 0)) rfl ?_
  refine k_D_t3s (D := D2) (l := 0) (e := 0) (by decide) (by decide) r0 g35 (fun w30 g50 => ?_)
  refine k_D_t3s (D := (rs_tickChange D2 0 0)) (l := 1) (e := 0) (by decide) (by decide) r1 g50 (fun w31 g51 => ?_)
  refine k_D_t3s (D := (rs_tickChange (rs_tickChange D2 0 0) 1 0)) (l := 2) (e := 0) (by decide) (by decide) r2 g51 (fun w32 g52 => ?_)
  refine ev_loc3 (i0 := 0) (i1 := 1) (i2 := 2) rfl rfl (v2 := .int (Int32.ofNat 3)) rfl ?_
  refine ev_iload_n dd_D_tick_57 rfl ?_
  refine ev_ic (v := 3) dd_D_tick_58 (by decide +kernel) ?_
  refine ev_icmp_ge dd_D_tick_59 (fun _ => ?_) (fun hc => absurd (by decide) hc)
  refine ev_iinc dd_D_tick_77 rfl (by decide) ?_
  refine ev_goto dd_D_tick_80 ?_
  refine ev_loc2 (i0 := 0) (i1 := 1) rfl (v1 := .int (Int32.ofNat 1)) rfl ?_
  refine ev_iload_n dd_D_tick_50 rfl ?_
  refine ev_ic (v := 2) dd_D_tick_51 (by decide +kernel) ?_
  refine ev_icmp_ge dd_D_tick_52 (fun hc => absurd hc (by decide)) (fun _ => ?_)
  refine ev_ic (v := 0) dd_D_tick_55 (by decide +kernel) ?_
  refine ev_istore_n dd_D_tick_56 (by decide) ?_
  refine ev_loc3 (i0 := 0) (i1 := 1) (i2 := 2) rfl (v1 := .int (Int32.ofNat 1)) rfl (v2 := .int (Int32.ofNat 0)) rfl ?_
  refine k_D_t3s (D := (rs_tickChange (rs_tickChange (rs_tickChange D2 0 0) 1 0) 2 0)) (l := 0) (e := 1) (by decide) (by decide) r3 g52 (fun w33 g53 => ?_)
  refine k_D_t3s (D := (rs_tickChange (rs_tickChange (rs_tickChange (rs_tickChange D2 0 0) 1 0) 2 0) 0 1)) (l := 1) (e := 1) (by decide) (by decide) r4 g53 (fun w34 g54 => ?_)
  refine k_D_t3s (D := (rs_tickChange (rs_tickChange (rs_tickChange (rs_tickChange (rs_tickChange D2 0 0) 1 0) 2 0) 0 1) 1 1)) (l := 2) (e := 1) (by decide) (by decide) r5 g54 (fun w35 g55 => ?_)
  rw [e3] at g55
  refine ev_loc3 (i0 := 0) (i1 := 1) (i2 := 2) rfl rfl (v2 := .int (Int32.ofNat 3)) rfl ?_
  refine ev_iload_n dd_D_tick_57 rfl ?_
  refine ev_ic (v := 3) dd_D_tick_58 (by decide +kernel) ?_
  refine ev_icmp_ge dd_D_tick_59 (fun _ => ?_) (fun hc => absurd (by decide) hc)
  refine ev_iinc dd_D_tick_77 rfl (by decide) ?_
  refine ev_goto dd_D_tick_80 ?_
  refine ev_loc2 (i0 := 0) (i1 := 1) rfl (v1 := .int (Int32.ofNat 2)) rfl ?_
  refine ev_iload_n dd_D_tick_50 rfl ?_
  refine ev_ic (v := 2) dd_D_tick_51 (by decide +kernel) ?_
  refine ev_icmp_ge dd_D_tick_52 (fun _ => ?_) (fun hc => absurd (by decide) hc)
  refine ev_ic (v := 0) dd_D_tick_83 (by decide +kernel) ?_
  refine ev_istore_n dd_D_tick_84 (by decide) ?_
  refine ev_loc2 (i0 := 0) (i1 := 1) rfl (v1 := .int (Int32.ofNat (2 * 0 + 0))) rfl ?_
  refine k_D_t4s (D := D3) (l := 0) (e := 0) (by decide) (by decide) u0 g55 (fun w40 g70 => ?_)
  refine k_D_t4s (D := (rs_snd D3 0 0)) (l := 0) (e := 1) (by decide) (by decide) u1 g70 (fun w41 g71 => ?_)
  refine k_D_t4s (D := (rs_snd (rs_snd D3 0 0) 0 1)) (l := 1) (e := 0) (by decide) (by decide) u2 g71 (fun w42 g72 => ?_)
  refine k_D_t4s (D := (rs_snd (rs_snd (rs_snd D3 0 0) 0 1) 1 0)) (l := 1) (e := 1) (by decide) (by decide) u3 g72 (fun w43 g73 => ?_)
  refine k_D_t4s (D := (rs_snd (rs_snd (rs_snd (rs_snd D3 0 0) 0 1) 1 0) 1 1)) (l := 2) (e := 0) (by decide) (by decide) u4 g73 (fun w44 g74 => ?_)
  refine k_D_t4s (D := (rs_snd (rs_snd (rs_snd (rs_snd (rs_snd D3 0 0) 0 1) 1 0) 1 1) 2 0)) (l := 2) (e := 1) (by decide) (by decide) u5 g74 (fun w45 g75 => ?_)
  rw [e4] at g75
  refine ev_loc2 (i0 := 0) (i1 := 1) rfl (v1 := .int (Int32.ofNat 6)) rfl ?_
  refine ev_iload_n dd_D_tick_85 rfl ?_
  refine ev_bp (v := 6) dd_D_tick_86 (by decide +kernel) ?_
  refine ev_icmp_ge dd_D_tick_88 (fun _ => ?_) (fun hc => absurd (by decide) hc)
  refine ev_aload_n dd_D_tick_102 rfl ?_
  refine R_gI (k := 50) dd_D_tick_103 fr_D_233 g75 rfl (by decide) ?_
  rw [e5]
  refine ev_iret dd_D_tick_106 rfl rfl ?_
  exact ⟨rfl, g75⟩
theorem k_D_tick (h1 : rf_all rs_deliver rf_dk cr_le (rs_t0 D)) (h2 : rf_all rs_age rf_k2 cr_le (rs_t1 (rs_t0 D))) (h3 : rf_all rs_tickChange rf_k3 cr_el (rs_t2 (rs_t1 (rs_t0 D)))) (h4 : rf_all rs_snd rf_k4 cr_le (rs_t3 (rs_t2 (rs_t1 (rs_t0 D))))) (h : rf_K G w D none F rf_Q0) :
    ev_E G mm_D_tick (d + 7) 0 (lv_args 0 [.ref (ev_b G + 77)]) [] w (fun t w' => t = .inl (some (.int ((rs_tick D).1 50 0))) ∧ rf_K G w' (rs_tick D) none F rf_Q0) := by
  unfold rs_tick
  unfold cr_le at h1 h2 h4
  unfold cr_el at h3
  rw [rf_all_cons, rf_all_cons, rf_all_cons, rf_all_cons, rf_all_cons, rf_all_cons] at h1 h2 h3 h4
  obtain ⟨p0, p1, p2, p3, p4, p5, -⟩ := h1
  obtain ⟨q0, q1, q2, q3, q4, q5, -⟩ := h2
  obtain ⟨r0, r1, r2, r3, r4, r5, -⟩ := h3
  obtain ⟨u0, u1, u2, u3, u4, u5, -⟩ := h4
  exact k_D_tick0 rfl (rs_t1_eq _).symm (rs_t2_eq _).symm (rs_t3_eq _).symm (rs_t4_eq _).symm rfl p0 p1 p2 p3 p4 p5 q0 q1 q2 q3 q4 q5 r0 r1 r2 r3 r4 r5 u0 u1 u2 u3 u4 u5 h
end RgD
