/-! the reference: a side falls; a changeover is given up; what comes without a number; age -/
theorem ms_rem16 : ∀ u : Fin 1024, Int32.ofNat u.1 - Int32.ofNat u.1 / 16 * 16 = Int32.ofNat (u.1 % 16) := by decide +kernel
def rf_hn (D : rf_C) (s : Nat) : Nat := (D.1 15 s).toNatClampNeg
def rf_hu (D : rf_C) (s : Nat) : Prop := D.1 15 s = Int32.ofNat (rf_hn D s) ∧ rf_hn D s < 1024
def rs_fa0 (D : rf_C) (s : Nat) : rf_C := rf_sI (rs_D_come D s 0) 16 s 1
def rs_fa1 (D : rf_C) (s : Nat) : rf_C := rf_sI (rf_sI (rs_fa0 D s) 28 (16 * s + rf_hn D s % 16) (D.1 15 s)) 29 (16 * s + rf_hn D s % 16) (D.1 18 s)
def rs_D_fall (D : rf_C) (s : Nat) : rf_C := if D.1 12 s = 4 then rs_change (rs_fa1 D s) s else rs_fa0 D s
section RfW
variable {G : ev_gx} {M : ev_mx} {d pc pc' tgt : Nat} {L : List (Nat × Value)} {st : List Value} {w w1 F : ev_wd} {P : ev_r → ev_wd → Prop} {D D' : rf_C} {H : Option (Nat × rf_m)} {Q : Nat → rf_m → Prop}
theorem k_D_fall {s : Nat} (hs : s < 6) (hu : rf_hu D s) (h : rf_K G w D none F rf_Q0) : ev_E G mm_D_fall (d + 2) 0 (lv_args 0 [.ref (ev_b G + 77), .int (Int32.ofNat s)]) [] w (rf_yv G F rf_Q0 none (rs_D_fall D s)) := by
  obtain ⟨hu1, hu2⟩ := hu
  have hrem := ms_rem16 ⟨rf_hn D s, hu2⟩
  have head : ∀ (L : List (Nat × Value)) (b : Int32), L.lookup 0 = some (.ref (ev_b G + 77)) → L.lookup 1 = some (.int (Int32.ofNat s)) → L.lookup 2 = some (.int b) →
      (∀ w1, rf_K G w1 (rs_fa0 D s) none F rf_Q0 → ev_E G mm_D_fall (d + 2) 30 [(0, .ref (ev_b G + 77)), (1, .int (Int32.ofNat s))] [.int b] w1 (rf_yv G F rf_Q0 none (rs_D_fall D s))) → ev_E G mm_D_fall (d + 2) 16 L [] w (rf_yv G F rf_Q0 none (rs_D_fall D s)) := by
    intro L b l0 l1 l2 kk
    refine ev_loc3 (i0 := 0) (i1 := 1) (i2 := 2) l0 l1 l2 ?_
    refine ev_aload_n dd_D_fall_16 rfl ?_
    refine ev_iload_n dd_D_fall_17 rfl ?_
    refine ev_ic (v := 0) dd_D_fall_18 (by decide +kernel) ?_
    refine ev_callvV2 [_, _] dd_D_fall_19 ms_D_come iv_D_181 h.ob h.tg rfl (Nat.le_of_ble_eq_true rfl) (Nat.le_of_ble_eq_true rfl) (k_D_come hs _ h) (fun w1 h1 => ?_)
    refine ev_aload_n dd_D_fall_22 rfl ?_
    refine R_gA (k := 16) dd_D_fall_23 fr_D_53 h1 rfl ?_
    refine ev_iload_n dd_D_fall_26 rfl ?_
    refine ev_ic (v := 1) dd_D_fall_27 (by decide +kernel) ?_
    refine R_stz (k := 16) (j := s) dd_D_fall_28 h1 rfl (show s < 6 by omega) rfl (fun w2 h2 => ?_)
    refine ev_iload_n dd_D_fall_29 rfl ?_
    refine ev_loc2 (i0 := 0) (i1 := 1) rfl rfl ?_
    exact kk w2 h2
  refine ev_aload_n dd_D_fall_0 rfl ?_
  refine R_gA (k := 12) dd_D_fall_1 fr_D_41 h rfl ?_
  refine ev_iload_n dd_D_fall_4 rfl ?_
  refine R_ld (k := 12) (j := s) dd_D_fall_5 h rfl (show s < 6 by omega) ?_
  refine ev_ic (v := 4) dd_D_fall_6 (by decide +kernel) ?_
  refine ev_icmp_ne dd_D_fall_7 (fun c => ?_) (fun c => ?_)
  · refine ev_ic (v := 0) dd_D_fall_14 (by decide +kernel) ?_
    refine ev_istore_n dd_D_fall_15 (by decide) ?_
    refine head _ 0 rfl rfl rfl (fun w1 h1 => ?_)
    unfold rs_D_fall
    rw [if_neg c]
    refine ev_if_eq dd_D_fall_30 (fun _ => ?_) (fun c2 => absurd rfl c2)
    refine ev_vret dd_D_fall_77 rfl ?_
    exact ⟨rfl, h1⟩
  · refine ev_ic (v := 1) dd_D_fall_10 (by decide +kernel) ?_
    refine ev_goto dd_D_fall_11 ?_
    refine ev_istore_n dd_D_fall_15 (by decide) ?_
    refine head _ 1 rfl rfl rfl (fun w1 h1 => ?_)
    unfold rs_D_fall
    rw [if_pos c]
    refine ev_if_eq dd_D_fall_30 (fun c2 => absurd c2 (by decide)) (fun _ => ?_)
    refine ev_bp (v := 16) dd_D_fall_33 (by decide +kernel) ?_
    refine ev_iload_n dd_D_fall_35 rfl ?_
    refine ev_imul dd_D_fall_36 ?_
    rw [show (16 : Int32) * Int32.ofNat s = Int32.ofNat (16 * s) from ms_mul 16 s]
    refine ev_aload_n dd_D_fall_37 rfl ?_
    refine R_gA (k := 15) dd_D_fall_38 fr_D_50 h1 rfl ?_
    refine ev_iload_n dd_D_fall_41 rfl ?_
    refine R_ld (k := 15) (j := s) dd_D_fall_42 h1 rfl (show s < 6 by omega) ?_
    rw [show (rs_fa0 D s).1 15 s = Int32.ofNat (rf_hn D s) from hu1]
    refine ev_bp (v := 16) dd_D_fall_43 (by decide +kernel) ?_
    refine ev_irem dd_D_fall_45 (by decide) ?_
    rw [hrem]
    refine ev_iadd dd_D_fall_46 ?_
    rw [show Int32.ofNat (16 * s) + Int32.ofNat (rf_hn D s % 16) = Int32.ofNat (16 * s + rf_hn D s % 16) from nI_add _ _]
    have hi : 16 * s + rf_hn D s % 16 < 96 := by omega
    refine ev_istore_n dd_D_fall_47 (by decide) ?_
    refine ev_aload_n dd_D_fall_48 rfl ?_
    refine R_gA (k := 28) dd_D_fall_49 fr_D_90 h1 rfl ?_
    refine ev_iload_n dd_D_fall_52 rfl ?_
    refine ev_aload_n dd_D_fall_53 rfl ?_
    refine R_gA (k := 15) dd_D_fall_54 fr_D_50 h1 rfl ?_
    refine ev_iload_n dd_D_fall_57 rfl ?_
    refine R_ld (k := 15) (j := s) dd_D_fall_58 h1 rfl (show s < 6 by omega) ?_
    refine R_st (k := 28) (j := 16 * s + rf_hn D s % 16) dd_D_fall_59 h1 rfl hi (fun w2 h2 => ?_)
    refine ev_aload_n dd_D_fall_60 rfl ?_
    refine R_gA (k := 29) dd_D_fall_61 fr_D_93 h2 rfl ?_
    refine ev_iload_n dd_D_fall_64 rfl ?_
    refine ev_aload_n dd_D_fall_65 rfl ?_
    refine R_gA (k := 18) dd_D_fall_66 fr_D_60 h2 rfl ?_
    refine ev_iload_n dd_D_fall_69 rfl ?_
    refine R_ld (k := 18) (j := s) dd_D_fall_70 h2 rfl (show s < 6 by omega) ?_
    refine R_st (k := 29) (j := 16 * s + rf_hn D s % 16) dd_D_fall_71 h2 rfl hi (fun w3 h3 => ?_)
    refine ev_aload_n dd_D_fall_72 rfl ?_
    refine ev_iload_n dd_D_fall_73 rfl ?_
    have h4 : rf_K G w3 (rs_fa1 D s) none F rf_Q0 := h3
    refine ev_callvV2 [_] dd_D_fall_74 ms_D_change iv_D_185 h4.ob h4.tg rfl (Nat.le_of_ble_eq_true rfl) (Nat.le_of_ble_eq_true rfl) (k_D_change hs h4) (fun w5 h5 => ?_)
    refine ev_vret dd_D_fall_77 rfl ?_
    exact ⟨rfl, h5⟩
def rf_gl : Int32 → List rf_m → Int32
  | y, [] => y
  | y, μ :: zs => rf_gl (if ¬ μ.2.2.2.2 < 0 ∧ μ.1 < 4 then y + 1 else y) zs
def rf_ng (μ : rf_m) : Bool := decide (μ.2.2.2.2 < 0)
def rs_gu (D : rf_C) (s : Nat) (zs pre : List rf_m) : rf_C := rf_sI (rf_sX D (12 + s) (pre ++ zs.filter rf_ng)) 49 0 (rf_gl (D.1 49 0) zs)
def rs_giveUp (D : rf_C) (s : Nat) : rf_C := rf_sI (rs_gu D s (D.2 (12 + s)) []) 42 s 2
theorem rf_sI_same (D : rf_C) (k j : Nat) : rf_sI D k j (D.1 k j) = D := by
  obtain ⟨I, Z⟩ := D
  unfold rf_sI rf_u
  congr
  funext k' j'
  by_cases e : k' = k ∧ j' = j
  · obtain ⟨rfl, rfl⟩ := e
    simp
  · simp only [if_neg e]
theorem rf_sI_two (D : rf_C) (k j : Nat) (x y : Int32) : rf_sI (rf_sI D k j x) k j y = rf_sI D k j y := by
  obtain ⟨I, Z⟩ := D
  unfold rf_sI rf_u
  congr
  funext k' j'
  by_cases e : k' = k ∧ j' = j
  · simp only [if_pos e]
  · simp only [if_neg e]
theorem rf_sI_X (D : rf_C) (k j : Nat) (x : Int32) (r : Nat) (zs : List rf_m) : rf_sX (rf_sI D k j x) r zs = rf_sI (rf_sX D r zs) k j x := rfl
theorem k_D_guL {s N : Nat} (hs : s < 6) (hN : N ≤ 2400) : ∀ (zs pre : List rf_m) (k : Nat) (D : rf_C) (w : ev_wd), k + zs.length = N → D.2 (12 + s) = zs ++ pre → rf_K G w D none F rf_Q0 →
    ev_E G mm_D_giveUp (d + 1) 12 [(0, .ref (ev_b G + 77)), (1, .int (Int32.ofNat s)), (2, .int (Int32.ofNat N)), (3, .int (Int32.ofNat k))] [] w (rf_yv G F rf_Q0 none (rf_sI (rs_gu D s zs pre) 42 s 2)) := by
  have hr : 12 + s < 22 := by omega
  intro zs
  induction zs with
  | nil =>
    intro pre k D w hk hz h
    rw [List.length_nil] at hk
    refine ev_iload_n dd_D_giveUp_12 rfl ?_
    refine ev_iload_n dd_D_giveUp_13 rfl ?_
    refine ev_icmp_ge dd_D_giveUp_14 (fun _ => ?_) (fun c => absurd (nI_le (by omega) (by omega)) c)
    refine ev_aload_n dd_D_giveUp_90 rfl ?_
    refine R_gA (k := 42) dd_D_giveUp_91 fr_D_132 h rfl ?_
    refine ev_iload_n dd_D_giveUp_94 rfl ?_
    refine ev_ic (v := 2) dd_D_giveUp_95 (by decide +kernel) ?_
    refine R_st (k := 42) (j := s) dd_D_giveUp_96 h rfl (show s < 6 by omega) (fun w1 h1 => ?_)
    refine ev_vret dd_D_giveUp_97 rfl ?_
    have e : rs_gu D s [] pre = D := by
      unfold rs_gu
      show rf_sI (rf_sX D (12 + s) (pre ++ [])) 49 0 (D.1 49 0) = D
      rw [List.append_nil, show pre = D.2 (12 + s) from hz.symm, rf_sX_same, rf_sI_same]
    rw [e]
    exact ⟨rfl, h1⟩
  | cons μ zs ih =>
    intro pre k D w hk hz h
    rw [List.length_cons] at hk
    have hz' : D.2 (12 + s) = μ :: (zs ++ pre) := hz
    refine ev_iload_n dd_D_giveUp_12 rfl ?_
    refine ev_iload_n dd_D_giveUp_13 rfl ?_
    refine ev_icmp_ge dd_D_giveUp_14 (fun c => absurd c (nI_ge (by omega) (by omega))) (fun _ => ?_)
    refine ev_aload_n dd_D_giveUp_17 rfl ?_
    refine ev_bp (v := 12) dd_D_giveUp_18 (by decide +kernel) ?_
    refine ev_iload_n dd_D_giveUp_20 rfl ?_
    refine ev_iadd dd_D_giveUp_21 ?_
    rw [show (12 : Int32) + Int32.ofNat s = Int32.ofNat (12 + s) from nI_add 12 s]
    refine ev_callv [.int (Int32.ofNat (12 + s))] dd_D_giveUp_22 ms_D_shift iv_D_163 h.ob h.tg rfl (Nat.le_of_ble_eq_true rfl) (Nat.le_of_ble_eq_true rfl) (k_D_shift hr hz' h) (fun v w1 hp _ _ => ?_) (fun x w3 hp _ _ => by obtain ⟨y, h1, -⟩ := hp; cases h1)
    obtain ⟨m, h1, -, h2⟩ := hp
    cases h1
    refine ev_istore dd_D_giveUp_25 (by decide) ?_
    refine ev_aload_n dd_D_giveUp_27 rfl ?_
    refine R_gA (k := 5) dd_D_giveUp_28 fr_D_22 h2 rfl ?_
    refine ev_iload dd_D_giveUp_31 rfl ?_
    refine R_mg (k := 5) dd_D_giveUp_33 h2.hand (Or.inr ⟨rfl, rfl⟩) (by decide) (by decide) ?_
    refine ev_if_ge dd_D_giveUp_34 (fun c => ?_) (fun c => ?_)
    · have hng : ¬ μ.2.2.2.2 < 0 := fun h => absurd (show (0 : Int32) ≤ μ.2.2.2.2 from c) (Int32.not_le.mpr h)
      have fin : ∀ (w3 : ev_wd) (y : Int32), y = (if ¬ μ.2.2.2.2 < 0 ∧ μ.1 < 4 then D.1 49 0 + 1 else D.1 49 0) → rf_K G w3 (rf_sI (rf_sX D (12 + s) (zs ++ pre)) 49 0 y) (some (m, μ)) F rf_Q0 → ev_E G mm_D_giveUp (d + 1) 78 [(0, .ref (ev_b G + 77)), (1, .int (Int32.ofNat s)), (2, .int (Int32.ofNat N)), (3, .int (Int32.ofNat k)), (4, .int (Int32.ofNat m))] [] w3 (rf_yv G F rf_Q0 none (rf_sI (rs_gu D s (μ :: zs) pre) 42 s 2)) := by
        intro w3 y ey h3
        refine ev_aload_n dd_D_giveUp_78 rfl ?_
        refine ev_iload dd_D_giveUp_79 rfl ?_
        refine ev_callvV2 [_] dd_D_giveUp_81 ms_D_give iv_D_167 h3.ob h3.tg rfl (Nat.le_of_ble_eq_true rfl) (Nat.le_of_ble_eq_true rfl) (k_D_give h3) (fun w4 h4 => ?_)
        refine ev_iinc dd_D_giveUp_84 rfl (by decide) ?_
        refine ev_goto dd_D_giveUp_87 ?_
        refine ev_loc4 (i0 := 0) (i1 := 1) (i2 := 2) (i3 := 3) rfl rfl rfl (v3 := .int (Int32.ofNat (k + 1))) (by rw [show Int32.ofNat (k + 1) = Int32.ofNat k + Int32.ofInt 1 by rw [inc_ofNat]; rfl]; rfl) ?_
        have ht := ih pre (k + 1) _ w4 (by omega) (show (rf_sI (rf_sX D (12 + s) (zs ++ pre)) 49 0 y).2 (12 + s) = zs ++ pre from rf_sX_at _ _ _) h4
        have e : rs_gu (rf_sI (rf_sX D (12 + s) (zs ++ pre)) 49 0 y) s zs pre = rs_gu D s (μ :: zs) pre := by
          unfold rs_gu
          rw [rf_sI_X, rf_sX_two, rf_sI_two, List.filter_cons, if_neg (show ¬ rf_ng μ = true from fun e => hng (of_decide_eq_true e))]
          rw [show (rf_sI (rf_sX D (12 + s) (zs ++ pre)) 49 0 y).1 49 0 = y from rf_u_at (rf_sX D (12 + s) (zs ++ pre)).1 49 0 y, ey]
          rfl
        rw [e] at ht
        exact ht
      refine ev_aload_n dd_D_giveUp_50 rfl ?_
      refine ev_aload_n dd_D_giveUp_51 rfl ?_
      refine R_gA (k := 1) dd_D_giveUp_52 fr_D_7 h2 rfl ?_
      refine ev_iload dd_D_giveUp_55 rfl ?_
      refine R_mg (k := 1) dd_D_giveUp_57 h2.hand (Or.inr ⟨rfl, rfl⟩) (by decide) (by decide) ?_
      refine ev_ic (v := 4) dd_D_giveUp_58 (by decide +kernel) ?_
      refine ev_icmp_ge dd_D_giveUp_59 (fun c2 => ?_) (fun c2 => ?_)
      · refine ev_aload_n dd_D_giveUp_71 rfl ?_
        refine R_gI (k := 49) dd_D_giveUp_72 fr_D_200 h2 rfl (by decide) ?_
        refine R_pI (k := 49) dd_D_giveUp_75 fk_D_200 h2 rfl (by decide) rfl rfl (fun w3 h3 => ?_)
        refine ev_loc5 (i0 := 0) (i1 := 1) (i2 := 2) (i3 := 3) (i4 := 4) rfl rfl rfl rfl rfl ?_
        exact fin w3 _ (by rw [if_neg (fun e => absurd (show (4 : Int32) ≤ μ.1 from c2) (Int32.not_le.mpr e.2))]; rfl) h3
      · refine ev_aload_n dd_D_giveUp_62 rfl ?_
        refine R_gI (k := 49) dd_D_giveUp_63 fr_D_200 h2 rfl (by decide) ?_
        refine ev_ic (v := 1) dd_D_giveUp_66 (by decide +kernel) ?_
        refine ev_iadd dd_D_giveUp_67 ?_
        refine ev_goto dd_D_giveUp_68 ?_
        refine R_pI (k := 49) dd_D_giveUp_75 fk_D_200 h2 rfl (by decide) rfl rfl (fun w3 h3 => ?_)
        refine ev_loc5 (i0 := 0) (i1 := 1) (i2 := 2) (i3 := 3) (i4 := 4) rfl rfl rfl rfl rfl ?_
        exact fin w3 _ (by rw [if_pos ⟨hng, Int32.not_le.mp (show ¬ (4 : Int32) ≤ μ.1 from c2)⟩]; rfl) h3
    · have hng : μ.2.2.2.2 < 0 := Int32.not_le.mp (show ¬ (0 : Int32) ≤ μ.2.2.2.2 from c)
      refine ev_aload_n dd_D_giveUp_37 rfl ?_
      refine ev_bp (v := 12) dd_D_giveUp_38 (by decide +kernel) ?_
      refine ev_iload_n dd_D_giveUp_40 rfl ?_
      refine ev_iadd dd_D_giveUp_41 ?_
      refine ev_iload dd_D_giveUp_42 rfl ?_
      rw [show (12 : Int32) + Int32.ofNat s = Int32.ofNat (12 + s) from nI_add 12 s]
      refine ev_callvV2 [_, _] dd_D_giveUp_44 ms_D_put iv_D_191 h2.ob h2.tg rfl (Nat.le_of_ble_eq_true rfl) (Nat.le_of_ble_eq_true rfl) (k_D_put hr h2) (fun w4 h4 => ?_)
      refine ev_goto dd_D_giveUp_47 ?_
      refine ev_iinc dd_D_giveUp_84 rfl (by decide) ?_
      refine ev_goto dd_D_giveUp_87 ?_
      refine ev_loc4 (i0 := 0) (i1 := 1) (i2 := 2) (i3 := 3) rfl rfl rfl (v3 := .int (Int32.ofNat (k + 1))) (by rw [show Int32.ofNat (k + 1) = Int32.ofNat k + Int32.ofInt 1 by rw [inc_ofNat]; rfl]; rfl) ?_
      rw [rf_sX_at, rf_sX_two, List.append_assoc] at h4
      have ht := ih (pre ++ [μ]) (k + 1) _ w4 (by omega) (rf_sX_at _ _ _) h4
      have e : rs_gu (rf_sX D (12 + s) (zs ++ (pre ++ [μ]))) s zs (pre ++ [μ]) = rs_gu D s (μ :: zs) pre := by
        unfold rs_gu
        rw [rf_sX_two, List.filter_cons, if_pos (show rf_ng μ = true from decide_eq_true hng), List.append_assoc]
        show rf_sI _ 49 0 (rf_gl (D.1 49 0) zs) = rf_sI _ 49 0 (rf_gl (if ¬ μ.2.2.2.2 < 0 ∧ μ.1 < 4 then D.1 49 0 + 1 else D.1 49 0) zs)
        rw [if_neg (fun e => e.1 hng)]
        rfl
      rw [e] at ht
      exact ht
theorem k_D_giveUp {s : Nat} (hs : s < 6) (h : rf_K G w D none F rf_Q0) : ev_E G mm_D_giveUp (d + 1) 0 (lv_args 0 [.ref (ev_b G + 77), .int (Int32.ofNat s)]) [] w (rf_yv G F rf_Q0 none (rs_giveUp D s)) := by
  have hr : 12 + s < 22 := by omega
  have hlen := h.len hr
  refine ev_aload_n dd_D_giveUp_0 rfl ?_
  refine R_gA (k := 11) dd_D_giveUp_1 fr_D_38 h rfl ?_
  refine ev_bp (v := 12) dd_D_giveUp_4 (by decide +kernel) ?_
  refine ev_iload_n dd_D_giveUp_6 rfl ?_
  refine ev_iadd dd_D_giveUp_7 ?_
  rw [show (12 : Int32) + Int32.ofNat s = Int32.ofNat (12 + s) from nI_add 12 s]
  refine R_sz dd_D_giveUp_8 h hr ?_
  refine ev_istore_n dd_D_giveUp_9 (by decide) ?_
  refine ev_ic (v := 0) dd_D_giveUp_10 (by decide +kernel) ?_
  refine ev_istore_n dd_D_giveUp_11 (by decide) ?_
  refine ev_loc4 (i0 := 0) (i1 := 1) (i2 := 2) (i3 := 3) rfl rfl rfl (v3 := .int (Int32.ofNat 0)) rfl ?_
  exact k_D_guL hs hlen (D.2 (12 + s)) [] 0 D w (by omega) (by rw [List.append_nil]) h
def rs_D_status (D : rf_C) (s : Nat) (t : Nat) : rf_C := (if (D.1 32 t) = 1 then (if (D.1 12 s) = 1 then (if ((rs_D_come D s 2).1 32 t) = 3 then (rf_sI (rs_D_come D s 2) 15 s ((rs_D_come D s 2).1 15 s)) else (rf_sI (rs_D_come D s 2) 15 s ((rs_D_come D s 2).1 33 t))) else (if (D.1 12 s) = 2 then (if ((rf_sI (rf_sI D 13 s 0) 21 s 0).1 32 t) = 3 then (rf_sI (rf_sI (rf_sI D 13 s 0) 21 s 0) 15 s ((rf_sI (rf_sI D 13 s 0) 21 s 0).1 15 s)) else (rf_sI (rf_sI (rf_sI D 13 s 0) 21 s 0) 15 s ((rf_sI (rf_sI D 13 s 0) 21 s 0).1 33 t))) else (if (D.1 12 s) ≤ 2 then (if (D.1 32 t) = 3 then (rf_sI D 15 s (D.1 15 s)) else (rf_sI D 15 s (D.1 33 t))) else (if ((rs_D_fall D s).1 32 t) = 3 then (rf_sI (rs_D_fall D s) 15 s ((rs_D_fall D s).1 15 s)) else (rf_sI (rs_D_fall D s) 15 s ((rs_D_fall D s).1 33 t)))))) else (if (D.1 32 t) = 2 then (if (D.1 12 s) = 1 then (if ((rs_D_come D s 2).1 32 t) = 3 then (rf_sI (rs_D_come D s 2) 15 s ((rs_D_come D s 2).1 15 s)) else (rf_sI (rs_D_come D s 2) 15 s ((rs_D_come D s 2).1 33 t))) else (if (D.1 12 s) = 4 then (if ((rs_D_fall D s).1 32 t) = 3 then (rf_sI (rs_D_fall D s) 15 s ((rs_D_fall D s).1 15 s)) else (rf_sI (rs_D_fall D s) 15 s ((rs_D_fall D s).1 33 t))) else (if (D.1 32 t) = 3 then (rf_sI D 15 s (D.1 15 s)) else (rf_sI D 15 s (D.1 33 t))))) else (if (D.1 12 s) ≤ 1 then (if (D.1 32 t) = 3 then (rf_sI D 15 s (D.1 15 s)) else (rf_sI D 15 s (D.1 33 t))) else (if ((rs_D_fall D s).1 32 t) = 3 then (rf_sI (rs_D_fall D s) 15 s ((rs_D_fall D s).1 15 s)) else (rf_sI (rs_D_fall D s) 15 s ((rs_D_fall D s).1 33 t))))))
theorem k_D_status {s : Nat} {t : Nat} (hs : s < 6) (ht : t < 6) (hu : rf_hu D s) (h : rf_K G w D none F rf_Q0) : ev_E G mm_D_status (d + 3) 0 (lv_args 0 [.ref (ev_b G + 77), .int (Int32.ofNat s), .int (Int32.ofNat t)]) [] w (rf_yv G F rf_Q0 none (rs_D_status D s t)) := by
  unfold rs_D_status
  refine ev_aload_n dd_D_status_0 rfl ?_
  refine R_gA (k := 12) dd_D_status_1 fr_D_41 h rfl ?_
  refine ev_iload_n dd_D_status_4 rfl ?_
  refine R_ld (k := 12) (j := s) dd_D_status_5 h rfl (show s < 6 by omega) ?_
  refine ev_istore_n dd_D_status_6 (by decide) ?_
  refine ev_aload_n dd_D_status_7 rfl ?_
  refine R_gA (k := 32) dd_D_status_8 fr_D_102 h rfl ?_
  refine ev_iload_n dd_D_status_11 rfl ?_
  refine R_ld (k := 32) (j := t) dd_D_status_12 h rfl (show t < 6 by omega) ?_
  refine ev_ic (v := 1) dd_D_status_13 (by decide +kernel) ?_
  refine ev_icmp_ne dd_D_status_14 (fun c1 => ?_) (fun c1 => ?_)
  · rw [if_neg c1]
    refine ev_aload_n dd_D_status_66 rfl ?_
    refine R_gA (k := 32) dd_D_status_67 fr_D_102 h rfl ?_
    refine ev_iload_n dd_D_status_70 rfl ?_
    refine R_ld (k := 32) (j := t) dd_D_status_71 h rfl (show t < 6 by omega) ?_
    refine ev_ic (v := 2) dd_D_status_72 (by decide +kernel) ?_
    refine ev_icmp_ne dd_D_status_73 (fun c2 => ?_) (fun c2 => ?_)
    · rw [if_neg c2]
      refine ev_iload_n dd_D_status_103 rfl ?_
      refine ev_ic (v := 1) dd_D_status_104 (by decide +kernel) ?_
      refine ev_icmp_le dd_D_status_105 (fun c3 => ?_) (fun c3 => ?_)
      · rw [if_pos c3]
        refine ev_aload_n dd_D_status_113 rfl ?_
        refine R_gA (k := 15) dd_D_status_114 fr_D_50 h rfl ?_
        refine ev_iload_n dd_D_status_117 rfl ?_
        refine ev_aload_n dd_D_status_118 rfl ?_
        refine R_gA (k := 32) dd_D_status_119 fr_D_102 h rfl ?_
        refine ev_iload_n dd_D_status_122 rfl ?_
        refine R_ld (k := 32) (j := t) dd_D_status_123 h rfl (show t < 6 by omega) ?_
        refine ev_ic (v := 3) dd_D_status_124 (by decide +kernel) ?_
        refine ev_icmp_ne dd_D_status_125 (fun c4 => ?_) (fun c4 => ?_)
        · rw [if_neg c4]
          refine ev_aload_n dd_D_status_137 rfl ?_
          refine R_gA (k := 33) dd_D_status_138 fr_D_105 h rfl ?_
          refine ev_iload_n dd_D_status_141 rfl ?_
          refine R_ld (k := 33) (j := t) dd_D_status_142 h rfl (show t < 6 by omega) ?_
          refine R_st (k := 15) (j := s) dd_D_status_143 h rfl (show s < 6 by omega) (fun w5 h5 => ?_)
          refine ev_vret dd_D_status_144 rfl ?_
          exact ⟨rfl, h5⟩
        · rw [if_pos c4]
          refine ev_aload_n dd_D_status_128 rfl ?_
          refine R_gA (k := 15) dd_D_status_129 fr_D_50 h rfl ?_
          refine ev_iload_n dd_D_status_132 rfl ?_
          refine R_ld (k := 15) (j := s) dd_D_status_133 h rfl (show s < 6 by omega) ?_
          refine ev_goto dd_D_status_134 ?_
          refine R_st (k := 15) (j := s) dd_D_status_143 h rfl (show s < 6 by omega) (fun w6 h6 => ?_)
          refine ev_vret dd_D_status_144 rfl ?_
          exact ⟨rfl, h6⟩
      · rw [if_neg c3]
        refine ev_aload_n dd_D_status_108 rfl ?_
        refine ev_iload_n dd_D_status_109 rfl ?_
        refine ev_callvV2 [_] dd_D_status_110 ms_D_fall iv_D_188 h.ob h.tg rfl (Nat.le_of_ble_eq_true rfl) (Nat.le_of_ble_eq_true rfl) (k_D_fall (D := D) (show s < 6 by omega) hu h) (fun w7 h7 => ?_)
        refine ev_aload_n dd_D_status_113 rfl ?_
        refine R_gA (k := 15) dd_D_status_114 fr_D_50 h7 rfl ?_
        refine ev_iload_n dd_D_status_117 rfl ?_
        refine ev_aload_n dd_D_status_118 rfl ?_
        refine R_gA (k := 32) dd_D_status_119 fr_D_102 h7 rfl ?_
        refine ev_iload_n dd_D_status_122 rfl ?_
        refine R_ld (k := 32) (j := t) dd_D_status_123 h7 rfl (show t < 6 by omega) ?_
        refine ev_ic (v := 3) dd_D_status_124 (by decide +kernel) ?_
        refine ev_icmp_ne dd_D_status_125 (fun c8 => ?_) (fun c8 => ?_)
        · rw [if_neg c8]
          refine ev_aload_n dd_D_status_137 rfl ?_
          refine R_gA (k := 33) dd_D_status_138 fr_D_105 h7 rfl ?_
          refine ev_iload_n dd_D_status_141 rfl ?_
          refine R_ld (k := 33) (j := t) dd_D_status_142 h7 rfl (show t < 6 by omega) ?_
          refine R_st (k := 15) (j := s) dd_D_status_143 h7 rfl (show s < 6 by omega) (fun w9 h9 => ?_)
          refine ev_vret dd_D_status_144 rfl ?_
          exact ⟨rfl, h9⟩
        · rw [if_pos c8]
          refine ev_aload_n dd_D_status_128 rfl ?_
          refine R_gA (k := 15) dd_D_status_129 fr_D_50 h7 rfl ?_
          refine ev_iload_n dd_D_status_132 rfl ?_
          refine R_ld (k := 15) (j := s) dd_D_status_133 h7 rfl (show s < 6 by omega) ?_
          refine ev_goto dd_D_status_134 ?_
          refine R_st (k := 15) (j := s) dd_D_status_143 h7 rfl (show s < 6 by omega) (fun w10 h10 => ?_)
          refine ev_vret dd_D_status_144 rfl ?_
          exact ⟨rfl, h10⟩
    · rw [if_pos c2]
      refine ev_iload_n dd_D_status_76 rfl ?_
      refine ev_ic (v := 1) dd_D_status_77 (by decide +kernel) ?_
      refine ev_icmp_ne dd_D_status_78 (fun c11 => ?_) (fun c11 => ?_)
      · rw [if_neg c11]
        refine ev_iload_n dd_D_status_90 rfl ?_
        refine ev_ic (v := 4) dd_D_status_91 (by decide +kernel) ?_
        refine ev_icmp_ne dd_D_status_92 (fun c12 => ?_) (fun c12 => ?_)
        · rw [if_neg c12]
          refine ev_aload_n dd_D_status_113 rfl ?_
          refine R_gA (k := 15) dd_D_status_114 fr_D_50 h rfl ?_
          refine ev_iload_n dd_D_status_117 rfl ?_
          refine ev_aload_n dd_D_status_118 rfl ?_
          refine R_gA (k := 32) dd_D_status_119 fr_D_102 h rfl ?_
          refine ev_iload_n dd_D_status_122 rfl ?_
          refine R_ld (k := 32) (j := t) dd_D_status_123 h rfl (show t < 6 by omega) ?_
          refine ev_ic (v := 3) dd_D_status_124 (by decide +kernel) ?_
          refine ev_icmp_ne dd_D_status_125 (fun c13 => ?_) (fun c13 => ?_)
          · rw [if_neg c13]
            refine ev_aload_n dd_D_status_137 rfl ?_
            refine R_gA (k := 33) dd_D_status_138 fr_D_105 h rfl ?_
            refine ev_iload_n dd_D_status_141 rfl ?_
            refine R_ld (k := 33) (j := t) dd_D_status_142 h rfl (show t < 6 by omega) ?_
            refine R_st (k := 15) (j := s) dd_D_status_143 h rfl (show s < 6 by omega) (fun w14 h14 => ?_)
            refine ev_vret dd_D_status_144 rfl ?_
            exact ⟨rfl, h14⟩
          · rw [if_pos c13]
            refine ev_aload_n dd_D_status_128 rfl ?_
            refine R_gA (k := 15) dd_D_status_129 fr_D_50 h rfl ?_
            refine ev_iload_n dd_D_status_132 rfl ?_
            refine R_ld (k := 15) (j := s) dd_D_status_133 h rfl (show s < 6 by omega) ?_
            refine ev_goto dd_D_status_134 ?_
            refine R_st (k := 15) (j := s) dd_D_status_143 h rfl (show s < 6 by omega) (fun w15 h15 => ?_)
            refine ev_vret dd_D_status_144 rfl ?_
            exact ⟨rfl, h15⟩
        · rw [if_pos c12]
          refine ev_aload_n dd_D_status_95 rfl ?_
          refine ev_iload_n dd_D_status_96 rfl ?_
          refine ev_callvV2 [_] dd_D_status_97 ms_D_fall iv_D_188 h.ob h.tg rfl (Nat.le_of_ble_eq_true rfl) (Nat.le_of_ble_eq_true rfl) (k_D_fall (D := D) (show s < 6 by omega) hu h) (fun w16 h16 => ?_)
          refine ev_goto dd_D_status_100 ?_
          refine ev_aload_n dd_D_status_113 rfl ?_
          refine R_gA (k := 15) dd_D_status_114 fr_D_50 h16 rfl ?_
          refine ev_iload_n dd_D_status_117 rfl ?_
          refine ev_aload_n dd_D_status_118 rfl ?_
          refine R_gA (k := 32) dd_D_status_119 fr_D_102 h16 rfl ?_
          refine ev_iload_n dd_D_status_122 rfl ?_
          refine R_ld (k := 32) (j := t) dd_D_status_123 h16 rfl (show t < 6 by omega) ?_
          refine ev_ic (v := 3) dd_D_status_124 (by decide +kernel) ?_
          refine ev_icmp_ne dd_D_status_125 (fun c17 => ?_) (fun c17 => ?_)
          · rw [if_neg c17]
            refine ev_aload_n dd_D_status_137 rfl ?_
            refine R_gA (k := 33) dd_D_status_138 fr_D_105 h16 rfl ?_
            refine ev_iload_n dd_D_status_141 rfl ?_
            refine R_ld (k := 33) (j := t) dd_D_status_142 h16 rfl (show t < 6 by omega) ?_
            refine R_st (k := 15) (j := s) dd_D_status_143 h16 rfl (show s < 6 by omega) (fun w18 h18 => ?_)
            refine ev_vret dd_D_status_144 rfl ?_
            exact ⟨rfl, h18⟩
          · rw [if_pos c17]
            refine ev_aload_n dd_D_status_128 rfl ?_
            refine R_gA (k := 15) dd_D_status_129 fr_D_50 h16 rfl ?_
            refine ev_iload_n dd_D_status_132 rfl ?_
            refine R_ld (k := 15) (j := s) dd_D_status_133 h16 rfl (show s < 6 by omega) ?_
            refine ev_goto dd_D_status_134 ?_
            refine R_st (k := 15) (j := s) dd_D_status_143 h16 rfl (show s < 6 by omega) (fun w19 h19 => ?_)
            refine ev_vret dd_D_status_144 rfl ?_
            exact ⟨rfl, h19⟩
      · rw [if_pos c11]
        refine ev_aload_n dd_D_status_81 rfl ?_
        refine ev_iload_n dd_D_status_82 rfl ?_
        refine ev_ic (v := 2) dd_D_status_83 (by decide +kernel) ?_
        refine ev_callvV2 [_, _] dd_D_status_84 ms_D_come iv_D_181 h.ob h.tg rfl (Nat.le_of_ble_eq_true rfl) (Nat.le_of_ble_eq_true rfl) (k_D_come (show s < 6 by omega) 2 h) (fun w20 h20 => ?_)
        refine ev_goto dd_D_status_87 ?_
        refine ev_aload_n dd_D_status_113 rfl ?_
        refine R_gA (k := 15) dd_D_status_114 fr_D_50 h20 rfl ?_
        refine ev_iload_n dd_D_status_117 rfl ?_
        refine ev_aload_n dd_D_status_118 rfl ?_
        refine R_gA (k := 32) dd_D_status_119 fr_D_102 h20 rfl ?_
        refine ev_iload_n dd_D_status_122 rfl ?_
        refine R_ld (k := 32) (j := t) dd_D_status_123 h20 rfl (show t < 6 by omega) ?_
        refine ev_ic (v := 3) dd_D_status_124 (by decide +kernel) ?_
        refine ev_icmp_ne dd_D_status_125 (fun c21 => ?_) (fun c21 => ?_)
        · rw [if_neg c21]
          refine ev_aload_n dd_D_status_137 rfl ?_
          refine R_gA (k := 33) dd_D_status_138 fr_D_105 h20 rfl ?_
          refine ev_iload_n dd_D_status_141 rfl ?_
          refine R_ld (k := 33) (j := t) dd_D_status_142 h20 rfl (show t < 6 by omega) ?_
          refine R_st (k := 15) (j := s) dd_D_status_143 h20 rfl (show s < 6 by omega) (fun w22 h22 => ?_)
          refine ev_vret dd_D_status_144 rfl ?_
          exact ⟨rfl, h22⟩
        · rw [if_pos c21]
          refine ev_aload_n dd_D_status_128 rfl ?_
          refine R_gA (k := 15) dd_D_status_129 fr_D_50 h20 rfl ?_
          refine ev_iload_n dd_D_status_132 rfl ?_
          refine R_ld (k := 15) (j := s) dd_D_status_133 h20 rfl (show s < 6 by omega) ?_
          refine ev_goto dd_D_status_134 ?_
          refine R_st (k := 15) (j := s) dd_D_status_143 h20 rfl (show s < 6 by omega) (fun w23 h23 => ?_)
          refine ev_vret dd_D_status_144 rfl ?_
          exact ⟨rfl, h23⟩
  · rw [if_pos c1]
    refine ev_iload_n dd_D_status_17 rfl ?_
    refine ev_ic (v := 1) dd_D_status_18 (by decide +kernel) ?_
    refine ev_icmp_ne dd_D_status_19 (fun c24 => ?_) (fun c24 => ?_)
    · rw [if_neg c24]
      refine ev_iload_n dd_D_status_31 rfl ?_
      refine ev_ic (v := 2) dd_D_status_32 (by decide +kernel) ?_
      refine ev_icmp_ne dd_D_status_33 (fun c25 => ?_) (fun c25 => ?_)
      · rw [if_neg c25]
        refine ev_iload_n dd_D_status_53 rfl ?_
        refine ev_ic (v := 2) dd_D_status_54 (by decide +kernel) ?_
        refine ev_icmp_le dd_D_status_55 (fun c26 => ?_) (fun c26 => ?_)
        · rw [if_pos c26]
          refine ev_aload_n dd_D_status_113 rfl ?_
          refine R_gA (k := 15) dd_D_status_114 fr_D_50 h rfl ?_
          refine ev_iload_n dd_D_status_117 rfl ?_
          refine ev_aload_n dd_D_status_118 rfl ?_
          refine R_gA (k := 32) dd_D_status_119 fr_D_102 h rfl ?_
          refine ev_iload_n dd_D_status_122 rfl ?_
          refine R_ld (k := 32) (j := t) dd_D_status_123 h rfl (show t < 6 by omega) ?_
          refine ev_ic (v := 3) dd_D_status_124 (by decide +kernel) ?_
          refine ev_icmp_ne dd_D_status_125 (fun c27 => ?_) (fun c27 => ?_)
          · rw [if_neg c27]
            refine ev_aload_n dd_D_status_137 rfl ?_
            refine R_gA (k := 33) dd_D_status_138 fr_D_105 h rfl ?_
            refine ev_iload_n dd_D_status_141 rfl ?_
            refine R_ld (k := 33) (j := t) dd_D_status_142 h rfl (show t < 6 by omega) ?_
            refine R_st (k := 15) (j := s) dd_D_status_143 h rfl (show s < 6 by omega) (fun w28 h28 => ?_)
            refine ev_vret dd_D_status_144 rfl ?_
            exact ⟨rfl, h28⟩
          · rw [if_pos c27]
            refine ev_aload_n dd_D_status_128 rfl ?_
            refine R_gA (k := 15) dd_D_status_129 fr_D_50 h rfl ?_
            refine ev_iload_n dd_D_status_132 rfl ?_
            refine R_ld (k := 15) (j := s) dd_D_status_133 h rfl (show s < 6 by omega) ?_
            refine ev_goto dd_D_status_134 ?_
            refine R_st (k := 15) (j := s) dd_D_status_143 h rfl (show s < 6 by omega) (fun w29 h29 => ?_)
            refine ev_vret dd_D_status_144 rfl ?_
            exact ⟨rfl, h29⟩
        · rw [if_neg c26]
          refine ev_aload_n dd_D_status_58 rfl ?_
          refine ev_iload_n dd_D_status_59 rfl ?_
          refine ev_callvV2 [_] dd_D_status_60 ms_D_fall iv_D_188 h.ob h.tg rfl (Nat.le_of_ble_eq_true rfl) (Nat.le_of_ble_eq_true rfl) (k_D_fall (D := D) (show s < 6 by omega) hu h) (fun w30 h30 => ?_)
          refine ev_goto dd_D_status_63 ?_
          refine ev_aload_n dd_D_status_113 rfl ?_
          refine R_gA (k := 15) dd_D_status_114 fr_D_50 h30 rfl ?_
          refine ev_iload_n dd_D_status_117 rfl ?_
          refine ev_aload_n dd_D_status_118 rfl ?_
          refine R_gA (k := 32) dd_D_status_119 fr_D_102 h30 rfl ?_
          refine ev_iload_n dd_D_status_122 rfl ?_
          refine R_ld (k := 32) (j := t) dd_D_status_123 h30 rfl (show t < 6 by omega) ?_
          refine ev_ic (v := 3) dd_D_status_124 (by decide +kernel) ?_
          refine ev_icmp_ne dd_D_status_125 (fun c31 => ?_) (fun c31 => ?_)
          · rw [if_neg c31]
            refine ev_aload_n dd_D_status_137 rfl ?_
            refine R_gA (k := 33) dd_D_status_138 fr_D_105 h30 rfl ?_
            refine ev_iload_n dd_D_status_141 rfl ?_
            refine R_ld (k := 33) (j := t) dd_D_status_142 h30 rfl (show t < 6 by omega) ?_
            refine R_st (k := 15) (j := s) dd_D_status_143 h30 rfl (show s < 6 by omega) (fun w32 h32 => ?_)
            refine ev_vret dd_D_status_144 rfl ?_
            exact ⟨rfl, h32⟩
          · rw [if_pos c31]
            refine ev_aload_n dd_D_status_128 rfl ?_
            refine R_gA (k := 15) dd_D_status_129 fr_D_50 h30 rfl ?_
            refine ev_iload_n dd_D_status_132 rfl ?_
            refine R_ld (k := 15) (j := s) dd_D_status_133 h30 rfl (show s < 6 by omega) ?_
            refine ev_goto dd_D_status_134 ?_
            refine R_st (k := 15) (j := s) dd_D_status_143 h30 rfl (show s < 6 by omega) (fun w33 h33 => ?_)
            refine ev_vret dd_D_status_144 rfl ?_
            exact ⟨rfl, h33⟩
      · rw [if_pos c25]
        refine ev_aload_n dd_D_status_36 rfl ?_
        refine R_gA (k := 13) dd_D_status_37 fr_D_44 h rfl ?_
        refine ev_iload_n dd_D_status_40 rfl ?_
        refine ev_ic (v := 0) dd_D_status_41 (by decide +kernel) ?_
        refine R_st (k := 13) (j := s) dd_D_status_42 h rfl (show s < 6 by omega) (fun w34 h34 => ?_)
        refine ev_aload_n dd_D_status_43 rfl ?_
        refine R_gA (k := 21) dd_D_status_44 fr_D_69 h34 rfl ?_
        refine ev_iload_n dd_D_status_47 rfl ?_
        refine ev_ic (v := 0) dd_D_status_48 (by decide +kernel) ?_
        refine R_st (k := 21) (j := s) dd_D_status_49 h34 rfl (show s < 6 by omega) (fun w35 h35 => ?_)
        refine ev_goto dd_D_status_50 ?_
        refine ev_aload_n dd_D_status_113 rfl ?_
        refine R_gA (k := 15) dd_D_status_114 fr_D_50 h35 rfl ?_
        refine ev_iload_n dd_D_status_117 rfl ?_
        refine ev_aload_n dd_D_status_118 rfl ?_
        refine R_gA (k := 32) dd_D_status_119 fr_D_102 h35 rfl ?_
        refine ev_iload_n dd_D_status_122 rfl ?_
        refine R_ld (k := 32) (j := t) dd_D_status_123 h35 rfl (show t < 6 by omega) ?_
        refine ev_ic (v := 3) dd_D_status_124 (by decide +kernel) ?_
        refine ev_icmp_ne dd_D_status_125 (fun c36 => ?_) (fun c36 => ?_)
        · rw [if_neg c36]
          refine ev_aload_n dd_D_status_137 rfl ?_
          refine R_gA (k := 33) dd_D_status_138 fr_D_105 h35 rfl ?_
          refine ev_iload_n dd_D_status_141 rfl ?_
          refine R_ld (k := 33) (j := t) dd_D_status_142 h35 rfl (show t < 6 by omega) ?_
          refine R_st (k := 15) (j := s) dd_D_status_143 h35 rfl (show s < 6 by omega) (fun w37 h37 => ?_)
          refine ev_vret dd_D_status_144 rfl ?_
          exact ⟨rfl, h37⟩
        · rw [if_pos c36]
          refine ev_aload_n dd_D_status_128 rfl ?_
          refine R_gA (k := 15) dd_D_status_129 fr_D_50 h35 rfl ?_
          refine ev_iload_n dd_D_status_132 rfl ?_
          refine R_ld (k := 15) (j := s) dd_D_status_133 h35 rfl (show s < 6 by omega) ?_
          refine ev_goto dd_D_status_134 ?_
          refine R_st (k := 15) (j := s) dd_D_status_143 h35 rfl (show s < 6 by omega) (fun w38 h38 => ?_)
          refine ev_vret dd_D_status_144 rfl ?_
          exact ⟨rfl, h38⟩
    · rw [if_pos c24]
      refine ev_aload_n dd_D_status_22 rfl ?_
      refine ev_iload_n dd_D_status_23 rfl ?_
      refine ev_ic (v := 2) dd_D_status_24 (by decide +kernel) ?_
      refine ev_callvV2 [_, _] dd_D_status_25 ms_D_come iv_D_181 h.ob h.tg rfl (Nat.le_of_ble_eq_true rfl) (Nat.le_of_ble_eq_true rfl) (k_D_come (show s < 6 by omega) 2 h) (fun w39 h39 => ?_)
      refine ev_goto dd_D_status_28 ?_
      refine ev_aload_n dd_D_status_113 rfl ?_
      refine R_gA (k := 15) dd_D_status_114 fr_D_50 h39 rfl ?_
      refine ev_iload_n dd_D_status_117 rfl ?_
      refine ev_aload_n dd_D_status_118 rfl ?_
      refine R_gA (k := 32) dd_D_status_119 fr_D_102 h39 rfl ?_
      refine ev_iload_n dd_D_status_122 rfl ?_
      refine R_ld (k := 32) (j := t) dd_D_status_123 h39 rfl (show t < 6 by omega) ?_
      refine ev_ic (v := 3) dd_D_status_124 (by decide +kernel) ?_
      refine ev_icmp_ne dd_D_status_125 (fun c40 => ?_) (fun c40 => ?_)
      · rw [if_neg c40]
        refine ev_aload_n dd_D_status_137 rfl ?_
        refine R_gA (k := 33) dd_D_status_138 fr_D_105 h39 rfl ?_
        refine ev_iload_n dd_D_status_141 rfl ?_
        refine R_ld (k := 33) (j := t) dd_D_status_142 h39 rfl (show t < 6 by omega) ?_
        refine R_st (k := 15) (j := s) dd_D_status_143 h39 rfl (show s < 6 by omega) (fun w41 h41 => ?_)
        refine ev_vret dd_D_status_144 rfl ?_
        exact ⟨rfl, h41⟩
      · rw [if_pos c40]
        refine ev_aload_n dd_D_status_128 rfl ?_
        refine R_gA (k := 15) dd_D_status_129 fr_D_50 h39 rfl ?_
        refine ev_iload_n dd_D_status_132 rfl ?_
        refine R_ld (k := 15) (j := s) dd_D_status_133 h39 rfl (show s < 6 by omega) ?_
        refine ev_goto dd_D_status_134 ?_
        refine R_st (k := 15) (j := s) dd_D_status_143 h39 rfl (show s < 6 by omega) (fun w42 h42 => ?_)
        refine ev_vret dd_D_status_144 rfl ?_
        exact ⟨rfl, h42⟩
def rs_D_damaged (D : rf_C) (s : Nat) : rf_C := (if (D.1 12 s) = 2 then (if ((rf_sI D 21 s ((D.1 21 s) + 1)).1 21 s) = 2 then (if ((rf_sI (rf_sI (rf_sI (rf_sI D 21 s ((D.1 21 s) + 1)) 13 s 0) 21 s 0) 22 s (((rf_sI (rf_sI (rf_sI D 21 s ((D.1 21 s) + 1)) 13 s 0) 21 s 0).1 22 s) + 1)).1 22 s) = 3 then (rs_D_fall (rf_sI (rf_sI (rf_sI (rf_sI D 21 s ((D.1 21 s) + 1)) 13 s 0) 21 s 0) 22 s (((rf_sI (rf_sI (rf_sI D 21 s ((D.1 21 s) + 1)) 13 s 0) 21 s 0).1 22 s) + 1)) s) else (rf_sI (rf_sI (rf_sI (rf_sI D 21 s ((D.1 21 s) + 1)) 13 s 0) 21 s 0) 22 s (((rf_sI (rf_sI (rf_sI D 21 s ((D.1 21 s) + 1)) 13 s 0) 21 s 0).1 22 s) + 1))) else (rf_sI D 21 s ((D.1 21 s) + 1))) else (if (D.1 12 s) = 4 then (if ((rf_sI D 23 s ((D.1 23 s) + 1)).1 23 s) = 4 then (rs_D_fall (rf_sI D 23 s ((D.1 23 s) + 1)) s) else (rf_sI D 23 s ((D.1 23 s) + 1))) else D))
theorem k_D_damaged {s : Nat} (hs : s < 6) (hu : rf_hu D s) (h : rf_K G w D none F rf_Q0) : ev_E G mm_D_damaged (d + 3) 0 (lv_args 0 [.ref (ev_b G + 77), .int (Int32.ofNat s)]) [] w (rf_yv G F rf_Q0 none (rs_D_damaged D s)) := by
  unfold rs_D_damaged
  refine ev_aload_n dd_D_damaged_0 rfl ?_
  refine R_gA (k := 12) dd_D_damaged_1 fr_D_41 h rfl ?_
  refine ev_iload_n dd_D_damaged_4 rfl ?_
  refine R_ld (k := 12) (j := s) dd_D_damaged_5 h rfl (show s < 6 by omega) ?_
  refine ev_ic (v := 2) dd_D_damaged_6 (by decide +kernel) ?_
  refine ev_icmp_ne dd_D_damaged_7 (fun c1 => ?_) (fun c1 => ?_)
  · rw [if_neg c1]
    refine ev_aload_n dd_D_damaged_72 rfl ?_
    refine R_gA (k := 12) dd_D_damaged_73 fr_D_41 h rfl ?_
    refine ev_iload_n dd_D_damaged_76 rfl ?_
    refine R_ld (k := 12) (j := s) dd_D_damaged_77 h rfl (show s < 6 by omega) ?_
    refine ev_ic (v := 4) dd_D_damaged_78 (by decide +kernel) ?_
    refine ev_icmp_ne dd_D_damaged_79 (fun c2 => ?_) (fun c2 => ?_)
    · rw [if_neg c2]
      refine ev_vret dd_D_damaged_107 rfl ?_
      exact ⟨rfl, h⟩
    · rw [if_pos c2]
      refine ev_aload_n dd_D_damaged_82 rfl ?_
      refine R_gA (k := 23) dd_D_damaged_83 fr_D_75 h rfl ?_
      refine ev_iload_n dd_D_damaged_86 rfl ?_
      refine ev_dup2 dd_D_damaged_87 rfl rfl ?_
      refine R_ld (k := 23) (j := s) dd_D_damaged_88 h rfl (show s < 6 by omega) ?_
      refine ev_ic (v := 1) dd_D_damaged_89 (by decide +kernel) ?_
      refine ev_iadd dd_D_damaged_90 ?_
      refine R_st (k := 23) (j := s) dd_D_damaged_91 h rfl (show s < 6 by omega) (fun w3 h3 => ?_)
      refine ev_aload_n dd_D_damaged_92 rfl ?_
      refine R_gA (k := 23) dd_D_damaged_93 fr_D_75 h3 rfl ?_
      refine ev_iload_n dd_D_damaged_96 rfl ?_
      refine R_ld (k := 23) (j := s) dd_D_damaged_97 h3 rfl (show s < 6 by omega) ?_
      refine ev_ic (v := 4) dd_D_damaged_98 (by decide +kernel) ?_
      refine ev_icmp_ne dd_D_damaged_99 (fun c4 => ?_) (fun c4 => ?_)
      · rw [if_neg c4]
        refine ev_vret dd_D_damaged_107 rfl ?_
        exact ⟨rfl, h3⟩
      · rw [if_pos c4]
        refine ev_aload_n dd_D_damaged_102 rfl ?_
        refine ev_iload_n dd_D_damaged_103 rfl ?_
        refine ev_callvV2 [_] dd_D_damaged_104 ms_D_fall iv_D_188 h3.ob h3.tg rfl (Nat.le_of_ble_eq_true rfl) (Nat.le_of_ble_eq_true rfl) (k_D_fall (D := rf_sI D 23 s ((D.1 23 s) + 1)) (show s < 6 by omega) hu h3) (fun w5 h5 => ?_)
        refine ev_vret dd_D_damaged_107 rfl ?_
        exact ⟨rfl, h5⟩
  · rw [if_pos c1]
    refine ev_aload_n dd_D_damaged_10 rfl ?_
    refine R_gA (k := 21) dd_D_damaged_11 fr_D_69 h rfl ?_
    refine ev_iload_n dd_D_damaged_14 rfl ?_
    refine ev_dup2 dd_D_damaged_15 rfl rfl ?_
    refine R_ld (k := 21) (j := s) dd_D_damaged_16 h rfl (show s < 6 by omega) ?_
    refine ev_ic (v := 1) dd_D_damaged_17 (by decide +kernel) ?_
    refine ev_iadd dd_D_damaged_18 ?_
    refine R_st (k := 21) (j := s) dd_D_damaged_19 h rfl (show s < 6 by omega) (fun w6 h6 => ?_)
    refine ev_aload_n dd_D_damaged_20 rfl ?_
    refine R_gA (k := 21) dd_D_damaged_21 fr_D_69 h6 rfl ?_
    refine ev_iload_n dd_D_damaged_24 rfl ?_
    refine R_ld (k := 21) (j := s) dd_D_damaged_25 h6 rfl (show s < 6 by omega) ?_
    refine ev_ic (v := 2) dd_D_damaged_26 (by decide +kernel) ?_
    refine ev_icmp_ne dd_D_damaged_27 (fun c7 => ?_) (fun c7 => ?_)
    · rw [if_neg c7]
      refine ev_vret dd_D_damaged_107 rfl ?_
      exact ⟨rfl, h6⟩
    · rw [if_pos c7]
      refine ev_aload_n dd_D_damaged_30 rfl ?_
      refine R_gA (k := 13) dd_D_damaged_31 fr_D_44 h6 rfl ?_
      refine ev_iload_n dd_D_damaged_34 rfl ?_
      refine ev_ic (v := 0) dd_D_damaged_35 (by decide +kernel) ?_
      refine R_st (k := 13) (j := s) dd_D_damaged_36 h6 rfl (show s < 6 by omega) (fun w8 h8 => ?_)
      refine ev_aload_n dd_D_damaged_37 rfl ?_
      refine R_gA (k := 21) dd_D_damaged_38 fr_D_69 h8 rfl ?_
      refine ev_iload_n dd_D_damaged_41 rfl ?_
      refine ev_ic (v := 0) dd_D_damaged_42 (by decide +kernel) ?_
      refine R_st (k := 21) (j := s) dd_D_damaged_43 h8 rfl (show s < 6 by omega) (fun w9 h9 => ?_)
      refine ev_aload_n dd_D_damaged_44 rfl ?_
      refine R_gA (k := 22) dd_D_damaged_45 fr_D_72 h9 rfl ?_
      refine ev_iload_n dd_D_damaged_48 rfl ?_
      refine ev_dup2 dd_D_damaged_49 rfl rfl ?_
      refine R_ld (k := 22) (j := s) dd_D_damaged_50 h9 rfl (show s < 6 by omega) ?_
      refine ev_ic (v := 1) dd_D_damaged_51 (by decide +kernel) ?_
      refine ev_iadd dd_D_damaged_52 ?_
      refine R_st (k := 22) (j := s) dd_D_damaged_53 h9 rfl (show s < 6 by omega) (fun w10 h10 => ?_)
      refine ev_aload_n dd_D_damaged_54 rfl ?_
      refine R_gA (k := 22) dd_D_damaged_55 fr_D_72 h10 rfl ?_
      refine ev_iload_n dd_D_damaged_58 rfl ?_
      refine R_ld (k := 22) (j := s) dd_D_damaged_59 h10 rfl (show s < 6 by omega) ?_
      refine ev_ic (v := 3) dd_D_damaged_60 (by decide +kernel) ?_
      refine ev_icmp_ne dd_D_damaged_61 (fun c11 => ?_) (fun c11 => ?_)
      · rw [if_neg c11]
        refine ev_vret dd_D_damaged_107 rfl ?_
        exact ⟨rfl, h10⟩
      · rw [if_pos c11]
        refine ev_aload_n dd_D_damaged_64 rfl ?_
        refine ev_iload_n dd_D_damaged_65 rfl ?_
        refine ev_callvV2 [_] dd_D_damaged_66 ms_D_fall iv_D_188 h10.ob h10.tg rfl (Nat.le_of_ble_eq_true rfl) (Nat.le_of_ble_eq_true rfl) (k_D_fall (D := rf_sI (rf_sI (rf_sI (rf_sI D 21 s ((D.1 21 s) + 1)) 13 s 0) 21 s 0) 22 s (((rf_sI (rf_sI (rf_sI D 21 s ((D.1 21 s) + 1)) 13 s 0) 21 s 0).1 22 s) + 1)) (show s < 6 by omega) hu h10) (fun w12 h12 => ?_)
        refine ev_goto dd_D_damaged_69 ?_
        refine ev_vret dd_D_damaged_107 rfl ?_
        exact ⟨rfl, h12⟩
def rs_D_age (D : rf_C) (s : Nat) : rf_C := (if (D.1 12 s) = 1 then (if ((rf_sI D 13 s ((D.1 13 s) + 1)).1 13 s) = 15 then (rs_D_fall (rf_sI D 13 s ((D.1 13 s) + 1)) s) else (rf_sI D 13 s ((D.1 13 s) + 1))) else (if (D.1 12 s) = 3 then (if ((rf_sI D 13 s ((D.1 13 s) + 1)).1 13 s) = 15 then (rs_D_fall (rf_sI D 13 s ((D.1 13 s) + 1)) s) else (rf_sI D 13 s ((D.1 13 s) + 1))) else (if (D.1 12 s) = 2 then (if ((rf_sI D 13 s ((D.1 13 s) + 1)).1 13 s) = 6 then (rs_D_come (rf_sI D 13 s ((D.1 13 s) + 1)) s 3) else (rf_sI D 13 s ((D.1 13 s) + 1))) else (if (D.1 12 s) = 4 then (if (Int32.ofNat (D.2 s).length) ≤ 0 then (if ((rf_sI D 25 s 0).1 25 s) = 12 then (rs_D_fall (rf_sI D 25 s 0) s) else (rf_sI D 25 s 0)) else (if ((rf_sI D 25 s ((D.1 25 s) + 1)).1 25 s) = 12 then (rs_D_fall (rf_sI D 25 s ((D.1 25 s) + 1)) s) else (rf_sI D 25 s ((D.1 25 s) + 1)))) else D))))
theorem k_D_age {s : Nat} (hs : s < 6) (hu : rf_hu D s) (h : rf_K G w D none F rf_Q0) : ev_E G mm_D_age (d + 3) 0 (lv_args 0 [.ref (ev_b G + 77), .int (Int32.ofNat s)]) [] w (rf_yv G F rf_Q0 none (rs_D_age D s)) := by
  unfold rs_D_age
  refine ev_aload_n dd_D_age_0 rfl ?_
  refine R_gA (k := 12) dd_D_age_1 fr_D_41 h rfl ?_
  refine ev_iload_n dd_D_age_4 rfl ?_
  refine R_ld (k := 12) (j := s) dd_D_age_5 h rfl (show s < 6 by omega) ?_
  refine ev_ic (v := 1) dd_D_age_6 (by decide +kernel) ?_
  refine ev_icmp_eq dd_D_age_7 (fun c1 => ?_) (fun c1 => ?_)
  · rw [if_pos c1]
    refine ev_aload_n dd_D_age_20 rfl ?_
    refine R_gA (k := 13) dd_D_age_21 fr_D_44 h rfl ?_
    refine ev_iload_n dd_D_age_24 rfl ?_
    refine ev_dup2 dd_D_age_25 rfl rfl ?_
    refine R_ld (k := 13) (j := s) dd_D_age_26 h rfl (show s < 6 by omega) ?_
    refine ev_ic (v := 1) dd_D_age_27 (by decide +kernel) ?_
    refine ev_iadd dd_D_age_28 ?_
    refine R_st (k := 13) (j := s) dd_D_age_29 h rfl (show s < 6 by omega) (fun w2 h2 => ?_)
    refine ev_aload_n dd_D_age_30 rfl ?_
    refine R_gA (k := 13) dd_D_age_31 fr_D_44 h2 rfl ?_
    refine ev_iload_n dd_D_age_34 rfl ?_
    refine R_ld (k := 13) (j := s) dd_D_age_35 h2 rfl (show s < 6 by omega) ?_
    refine ev_bp (v := 15) dd_D_age_36 (by decide +kernel) ?_
    refine ev_icmp_ne dd_D_age_38 (fun c3 => ?_) (fun c3 => ?_)
    · rw [if_neg c3]
      refine ev_vret dd_D_age_142 rfl ?_
      exact ⟨rfl, h2⟩
    · rw [if_pos c3]
      refine ev_aload_n dd_D_age_41 rfl ?_
      refine ev_iload_n dd_D_age_42 rfl ?_
      refine ev_callvV2 [_] dd_D_age_43 ms_D_fall iv_D_188 h2.ob h2.tg rfl (Nat.le_of_ble_eq_true rfl) (Nat.le_of_ble_eq_true rfl) (k_D_fall (D := rf_sI D 13 s ((D.1 13 s) + 1)) (show s < 6 by omega) hu h2) (fun w4 h4 => ?_)
      refine ev_goto dd_D_age_46 ?_
      refine ev_vret dd_D_age_142 rfl ?_
      exact ⟨rfl, h4⟩
  · rw [if_neg c1]
    refine ev_aload_n dd_D_age_10 rfl ?_
    refine R_gA (k := 12) dd_D_age_11 fr_D_41 h rfl ?_
    refine ev_iload_n dd_D_age_14 rfl ?_
    refine R_ld (k := 12) (j := s) dd_D_age_15 h rfl (show s < 6 by omega) ?_
    refine ev_ic (v := 3) dd_D_age_16 (by decide +kernel) ?_
    refine ev_icmp_ne dd_D_age_17 (fun c5 => ?_) (fun c5 => ?_)
    · rw [if_neg c5]
      refine ev_aload_n dd_D_age_49 rfl ?_
      refine R_gA (k := 12) dd_D_age_50 fr_D_41 h rfl ?_
      refine ev_iload_n dd_D_age_53 rfl ?_
      refine R_ld (k := 12) (j := s) dd_D_age_54 h rfl (show s < 6 by omega) ?_
      refine ev_ic (v := 2) dd_D_age_55 (by decide +kernel) ?_
      refine ev_icmp_ne dd_D_age_56 (fun c6 => ?_) (fun c6 => ?_)
      · rw [if_neg c6]
        refine ev_aload_n dd_D_age_89 rfl ?_
        refine R_gA (k := 12) dd_D_age_90 fr_D_41 h rfl ?_
        refine ev_iload_n dd_D_age_93 rfl ?_
        refine R_ld (k := 12) (j := s) dd_D_age_94 h rfl (show s < 6 by omega) ?_
        refine ev_ic (v := 4) dd_D_age_95 (by decide +kernel) ?_
        refine ev_icmp_ne dd_D_age_96 (fun c7 => ?_) (fun c7 => ?_)
        · rw [if_neg c7]
          refine ev_vret dd_D_age_142 rfl ?_
          exact ⟨rfl, h⟩
        · rw [if_pos c7]
          refine ev_aload_n dd_D_age_99 rfl ?_
          refine R_gA (k := 25) dd_D_age_100 fr_D_81 h rfl ?_
          refine ev_iload_n dd_D_age_103 rfl ?_
          refine ev_aload_n dd_D_age_104 rfl ?_
          refine R_gA (k := 11) dd_D_age_105 fr_D_38 h rfl ?_
          refine ev_iload_n dd_D_age_108 rfl ?_
          refine R_sz (r := s) dd_D_age_109 h (show s < 22 by omega) ?_
          refine ev_if_le dd_D_age_110 (fun c8 => ?_) (fun c8 => ?_)
          · rw [if_pos c8]
            refine ev_ic (v := 0) dd_D_age_124 (by decide +kernel) ?_
            refine R_st (k := 25) (j := s) dd_D_age_125 h rfl (show s < 6 by omega) (fun w9 h9 => ?_)
            refine ev_aload_n dd_D_age_126 rfl ?_
            refine R_gA (k := 25) dd_D_age_127 fr_D_81 h9 rfl ?_
            refine ev_iload_n dd_D_age_130 rfl ?_
            refine R_ld (k := 25) (j := s) dd_D_age_131 h9 rfl (show s < 6 by omega) ?_
            refine ev_bp (v := 12) dd_D_age_132 (by decide +kernel) ?_
            refine ev_icmp_ne dd_D_age_134 (fun c10 => ?_) (fun c10 => ?_)
            · rw [if_neg c10]
              refine ev_vret dd_D_age_142 rfl ?_
              exact ⟨rfl, h9⟩
            · rw [if_pos c10]
              refine ev_aload_n dd_D_age_137 rfl ?_
              refine ev_iload_n dd_D_age_138 rfl ?_
              refine ev_callvV2 [_] dd_D_age_139 ms_D_fall iv_D_188 h9.ob h9.tg rfl (Nat.le_of_ble_eq_true rfl) (Nat.le_of_ble_eq_true rfl) (k_D_fall (D := rf_sI D 25 s 0) (show s < 6 by omega) hu h9) (fun w11 h11 => ?_)
              refine ev_vret dd_D_age_142 rfl ?_
              exact ⟨rfl, h11⟩
          · rw [if_neg c8]
            refine ev_aload_n dd_D_age_113 rfl ?_
            refine R_gA (k := 25) dd_D_age_114 fr_D_81 h rfl ?_
            refine ev_iload_n dd_D_age_117 rfl ?_
            refine R_ld (k := 25) (j := s) dd_D_age_118 h rfl (show s < 6 by omega) ?_
            refine ev_ic (v := 1) dd_D_age_119 (by decide +kernel) ?_
            refine ev_iadd dd_D_age_120 ?_
            refine ev_goto dd_D_age_121 ?_
            refine R_st (k := 25) (j := s) dd_D_age_125 h rfl (show s < 6 by omega) (fun w12 h12 => ?_)
            refine ev_aload_n dd_D_age_126 rfl ?_
            refine R_gA (k := 25) dd_D_age_127 fr_D_81 h12 rfl ?_
            refine ev_iload_n dd_D_age_130 rfl ?_
            refine R_ld (k := 25) (j := s) dd_D_age_131 h12 rfl (show s < 6 by omega) ?_
            refine ev_bp (v := 12) dd_D_age_132 (by decide +kernel) ?_
            refine ev_icmp_ne dd_D_age_134 (fun c13 => ?_) (fun c13 => ?_)
            · rw [if_neg c13]
              refine ev_vret dd_D_age_142 rfl ?_
              exact ⟨rfl, h12⟩
            · rw [if_pos c13]
              refine ev_aload_n dd_D_age_137 rfl ?_
              refine ev_iload_n dd_D_age_138 rfl ?_
              refine ev_callvV2 [_] dd_D_age_139 ms_D_fall iv_D_188 h12.ob h12.tg rfl (Nat.le_of_ble_eq_true rfl) (Nat.le_of_ble_eq_true rfl) (k_D_fall (D := rf_sI D 25 s ((D.1 25 s) + 1)) (show s < 6 by omega) hu h12) (fun w14 h14 => ?_)
              refine ev_vret dd_D_age_142 rfl ?_
              exact ⟨rfl, h14⟩
      · rw [if_pos c6]
        refine ev_aload_n dd_D_age_59 rfl ?_
        refine R_gA (k := 13) dd_D_age_60 fr_D_44 h rfl ?_
        refine ev_iload_n dd_D_age_63 rfl ?_
        refine ev_dup2 dd_D_age_64 rfl rfl ?_
        refine R_ld (k := 13) (j := s) dd_D_age_65 h rfl (show s < 6 by omega) ?_
        refine ev_ic (v := 1) dd_D_age_66 (by decide +kernel) ?_
        refine ev_iadd dd_D_age_67 ?_
        refine R_st (k := 13) (j := s) dd_D_age_68 h rfl (show s < 6 by omega) (fun w15 h15 => ?_)
        refine ev_aload_n dd_D_age_69 rfl ?_
        refine R_gA (k := 13) dd_D_age_70 fr_D_44 h15 rfl ?_
        refine ev_iload_n dd_D_age_73 rfl ?_
        refine R_ld (k := 13) (j := s) dd_D_age_74 h15 rfl (show s < 6 by omega) ?_
        refine ev_bp (v := 6) dd_D_age_75 (by decide +kernel) ?_
        refine ev_icmp_ne dd_D_age_77 (fun c16 => ?_) (fun c16 => ?_)
        · rw [if_neg c16]
          refine ev_vret dd_D_age_142 rfl ?_
          exact ⟨rfl, h15⟩
        · rw [if_pos c16]
          refine ev_aload_n dd_D_age_80 rfl ?_
          refine ev_iload_n dd_D_age_81 rfl ?_
          refine ev_ic (v := 3) dd_D_age_82 (by decide +kernel) ?_
          refine ev_callvV2 [_, _] dd_D_age_83 ms_D_come iv_D_181 h15.ob h15.tg rfl (Nat.le_of_ble_eq_true rfl) (Nat.le_of_ble_eq_true rfl) (k_D_come (show s < 6 by omega) 3 h15) (fun w17 h17 => ?_)
          refine ev_goto dd_D_age_86 ?_
          refine ev_vret dd_D_age_142 rfl ?_
          exact ⟨rfl, h17⟩
    · rw [if_pos c5]
      refine ev_aload_n dd_D_age_20 rfl ?_
      refine R_gA (k := 13) dd_D_age_21 fr_D_44 h rfl ?_
      refine ev_iload_n dd_D_age_24 rfl ?_
      refine ev_dup2 dd_D_age_25 rfl rfl ?_
      refine R_ld (k := 13) (j := s) dd_D_age_26 h rfl (show s < 6 by omega) ?_
      refine ev_ic (v := 1) dd_D_age_27 (by decide +kernel) ?_
      refine ev_iadd dd_D_age_28 ?_
      refine R_st (k := 13) (j := s) dd_D_age_29 h rfl (show s < 6 by omega) (fun w18 h18 => ?_)
      refine ev_aload_n dd_D_age_30 rfl ?_
      refine R_gA (k := 13) dd_D_age_31 fr_D_44 h18 rfl ?_
      refine ev_iload_n dd_D_age_34 rfl ?_
      refine R_ld (k := 13) (j := s) dd_D_age_35 h18 rfl (show s < 6 by omega) ?_
      refine ev_bp (v := 15) dd_D_age_36 (by decide +kernel) ?_
      refine ev_icmp_ne dd_D_age_38 (fun c19 => ?_) (fun c19 => ?_)
      · rw [if_neg c19]
        refine ev_vret dd_D_age_142 rfl ?_
        exact ⟨rfl, h18⟩
      · rw [if_pos c19]
        refine ev_aload_n dd_D_age_41 rfl ?_
        refine ev_iload_n dd_D_age_42 rfl ?_
        refine ev_callvV2 [_] dd_D_age_43 ms_D_fall iv_D_188 h18.ob h18.tg rfl (Nat.le_of_ble_eq_true rfl) (Nat.le_of_ble_eq_true rfl) (k_D_fall (D := rf_sI D 13 s ((D.1 13 s) + 1)) (show s < 6 by omega) hu h18) (fun w20 h20 => ?_)
        refine ev_goto dd_D_age_46 ?_
        refine ev_vret dd_D_age_142 rfl ?_
        exact ⟨rfl, h20⟩
end RfW
