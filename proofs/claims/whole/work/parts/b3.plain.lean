/-! the reference: its plain methods -/
def rf_yv (G : ev_gx) (F : ev_wd) (Q : Nat → rf_m → Prop) (H : Option (Nat × rf_m)) (D : rf_C) : ev_r → ev_wd → Prop := fun t w' => t = .inl none ∧ rf_K G w' D H F Q
def rf_yi (G : ev_gx) (F : ev_wd) (Q : Nat → rf_m → Prop) (H : Option (Nat × rf_m)) (p : Int32 × rf_C) : ev_r → ev_wd → Prop := fun t w' => t = .inl (some (.int p.1)) ∧ rf_K G w' p.2 H F Q
theorem ms_mul (a b : Nat) : Int32.ofNat a * Int32.ofNat b = Int32.ofNat (a * b) := (Int32.ofNat_mul a b).symm
theorem ms_rem {l e : Nat} (hl : l < 3) (he : e < 2) : Int32.ofNat (2 * l + e) - Int32.ofNat (2 * l + e) / 2 * 2 = Int32.ofNat e := by
  rcases (show l = 0 ∨ l = 1 ∨ l = 2 by omega) with rfl | rfl | rfl <;> rcases (show e = 0 ∨ e = 1 by omega) with rfl | rfl <;> decide
theorem ms_div {l e : Nat} (hl : l < 3) (he : e < 2) : Int32.ofNat (2 * l + e) / 2 = Int32.ofNat l := by
  rcases (show l = 0 ∨ l = 1 ∨ l = 2 by omega) with rfl | rfl | rfl <;> rcases (show e = 0 ∨ e = 1 by omega) with rfl | rfl <;> decide
theorem ms_xor {l e : Nat} (hl : l < 3) (he : e < 2) : Int32.ofNat (2 * l + e) ^^^ 1 = Int32.ofNat (2 * l + (1 - e)) := by
  rcases (show l = 0 ∨ l = 1 ∨ l = 2 by omega) with rfl | rfl | rfl <;> rcases (show e = 0 ∨ e = 1 by omega) with rfl | rfl <;> decide
section RfT
variable {G : ev_gx} {M : ev_mx} {d pc pc' tgt : Nat} {L : List (Nat × Value)} {st : List Value} {w w1 F : ev_wd} {P : ev_r → ev_wd → Prop} {D D' : rf_C} {H : Option (Nat × rf_m)} {Q : Nat → rf_m → Prop}
theorem ev_callvV2 {index c b k : Nat} {M' : ev_mx} (As : List Value) (hd : ev_d M.2.1 pc (.invokevirtual index) 3 pc') (hm : ev_ms M' k) (hi : ev_Iv M.1.cls index c M') (hb : ev_b G ≤ b ∧ b < ev_z w) (ht : ev_g w b = c) (hn : As.length = k) (hst : (st.map fun v => v.category).sum + M'.2.2.1 ≤ 28) (hlen : (lg_sl (.ref b :: As)).length ≤ M'.2.2.1)
    (hc : ev_E G M' d 0 (lv_args 0 (.ref b :: As)) [] w (rf_yv G F Q H D')) (kk : ∀ w1, rf_K G w1 D' H F Q → ev_E G M (d + 1) pc' L st w1 P) : ev_E G M (d + 1) pc L (As.reverse ++ .ref b :: st) w P :=
  ev_callv As hd hm hi hb ht hn hst hlen hc (fun v' w' h _ _ => by obtain ⟨h1, h2⟩ := h; cases h1; exact kk _ h2) (fun x w' h _ _ => by obtain ⟨h1, -⟩ := h; cases h1)
theorem ev_callvN2 {index c b k : Nat} {M' : ev_mx} {p : Int32 × rf_C} (As : List Value) (hd : ev_d M.2.1 pc (.invokevirtual index) 3 pc') (hm : ev_ms M' k) (hi : ev_Iv M.1.cls index c M') (hb : ev_b G ≤ b ∧ b < ev_z w) (ht : ev_g w b = c) (hn : As.length = k) (hst : (st.map fun v => v.category).sum + M'.2.2.1 ≤ 28) (hlen : (lg_sl (.ref b :: As)).length ≤ M'.2.2.1)
    (hc : ev_E G M' d 0 (lv_args 0 (.ref b :: As)) [] w (rf_yi G F Q H p)) (kk : ∀ w1, rf_K G w1 p.2 H F Q → ev_E G M (d + 1) pc' L (.int p.1 :: st) w1 P) : ev_E G M (d + 1) pc L (As.reverse ++ .ref b :: st) w P :=
  ev_callv As hd hm hi hb ht hn hst hlen hc (fun v' w' h _ _ => by obtain ⟨h1, h2⟩ := h; cases h1; exact kk _ h2) (fun x w' h _ _ => by obtain ⟨h1, -⟩ := h; cases h1)
def rs_D_isSide (x : Int32) (y : Int32) : Int32 := (if x < 0 then (0) else (if 3 ≤ x then (0) else (if y < 0 then (0) else (if 2 ≤ y then (0) else (1)))))
theorem k_D_isSide (x : Int32) (y : Int32) : ev_E G mm_D_isSide d 0 (lv_args 0 [.int x, .int y]) [] w (ev_ret (some (.int (rs_D_isSide x y))) w) := by
  unfold rs_D_isSide
  refine ev_iload_n dd_D_isSide_0 rfl ?_
  refine ev_if_lt dd_D_isSide_1 (fun c1 => ?_) (fun c1 => ?_)
  · rw [if_pos c1]
    refine ev_ic (v := 0) dd_D_isSide_22 (by decide +kernel) ?_
    refine ev_iret dd_D_isSide_23 rfl rfl ?_
    exact ⟨rfl, rfl⟩
  · rw [if_neg c1]
    refine ev_iload_n dd_D_isSide_4 rfl ?_
    refine ev_ic (v := 3) dd_D_isSide_5 (by decide +kernel) ?_
    refine ev_icmp_ge dd_D_isSide_6 (fun c2 => ?_) (fun c2 => ?_)
    · rw [if_pos c2]
      refine ev_ic (v := 0) dd_D_isSide_22 (by decide +kernel) ?_
      refine ev_iret dd_D_isSide_23 rfl rfl ?_
      exact ⟨rfl, rfl⟩
    · rw [if_neg c2]
      refine ev_iload_n dd_D_isSide_9 rfl ?_
      refine ev_if_lt dd_D_isSide_10 (fun c3 => ?_) (fun c3 => ?_)
      · rw [if_pos c3]
        refine ev_ic (v := 0) dd_D_isSide_22 (by decide +kernel) ?_
        refine ev_iret dd_D_isSide_23 rfl rfl ?_
        exact ⟨rfl, rfl⟩
      · rw [if_neg c3]
        refine ev_iload_n dd_D_isSide_13 rfl ?_
        refine ev_ic (v := 2) dd_D_isSide_14 (by decide +kernel) ?_
        refine ev_icmp_ge dd_D_isSide_15 (fun c4 => ?_) (fun c4 => ?_)
        · rw [if_pos c4]
          refine ev_ic (v := 0) dd_D_isSide_22 (by decide +kernel) ?_
          refine ev_iret dd_D_isSide_23 rfl rfl ?_
          exact ⟨rfl, rfl⟩
        · rw [if_neg c4]
          refine ev_ic (v := 1) dd_D_isSide_18 (by decide +kernel) ?_
          refine ev_goto dd_D_isSide_19 ?_
          refine ev_iret dd_D_isSide_23 rfl rfl ?_
          exact ⟨rfl, rfl⟩
def rs_D_isClass (x : Int32) (y : Int32) : Int32 := (if x < 0 then (0) else (if 2 ≤ x then (0) else (if y < 0 then (0) else (if 4 ≤ y then (0) else (1)))))
theorem k_D_isClass (x : Int32) (y : Int32) : ev_E G mm_D_isClass d 0 (lv_args 0 [.int x, .int y]) [] w (ev_ret (some (.int (rs_D_isClass x y))) w) := by
  unfold rs_D_isClass
  refine ev_iload_n dd_D_isClass_0 rfl ?_
  refine ev_if_lt dd_D_isClass_1 (fun c1 => ?_) (fun c1 => ?_)
  · rw [if_pos c1]
    refine ev_ic (v := 0) dd_D_isClass_22 (by decide +kernel) ?_
    refine ev_iret dd_D_isClass_23 rfl rfl ?_
    exact ⟨rfl, rfl⟩
  · rw [if_neg c1]
    refine ev_iload_n dd_D_isClass_4 rfl ?_
    refine ev_ic (v := 2) dd_D_isClass_5 (by decide +kernel) ?_
    refine ev_icmp_ge dd_D_isClass_6 (fun c2 => ?_) (fun c2 => ?_)
    · rw [if_pos c2]
      refine ev_ic (v := 0) dd_D_isClass_22 (by decide +kernel) ?_
      refine ev_iret dd_D_isClass_23 rfl rfl ?_
      exact ⟨rfl, rfl⟩
    · rw [if_neg c2]
      refine ev_iload_n dd_D_isClass_9 rfl ?_
      refine ev_if_lt dd_D_isClass_10 (fun c3 => ?_) (fun c3 => ?_)
      · rw [if_pos c3]
        refine ev_ic (v := 0) dd_D_isClass_22 (by decide +kernel) ?_
        refine ev_iret dd_D_isClass_23 rfl rfl ?_
        exact ⟨rfl, rfl⟩
      · rw [if_neg c3]
        refine ev_iload_n dd_D_isClass_13 rfl ?_
        refine ev_ic (v := 4) dd_D_isClass_14 (by decide +kernel) ?_
        refine ev_icmp_ge dd_D_isClass_15 (fun c4 => ?_) (fun c4 => ?_)
        · rw [if_pos c4]
          refine ev_ic (v := 0) dd_D_isClass_22 (by decide +kernel) ?_
          refine ev_iret dd_D_isClass_23 rfl rfl ?_
          exact ⟨rfl, rfl⟩
        · rw [if_neg c4]
          refine ev_ic (v := 1) dd_D_isClass_18 (by decide +kernel) ?_
          refine ev_goto dd_D_isClass_19 ?_
          refine ev_iret dd_D_isClass_23 rfl rfl ?_
          exact ⟨rfl, rfl⟩
def rs_D_isEnd (x : Int32) : Int32 := (if x = 0 then (1) else (if x = 1 then (1) else (0)))
theorem k_D_isEnd (x : Int32) : ev_E G mm_D_isEnd d 0 (lv_args 0 [.int x]) [] w (ev_ret (some (.int (rs_D_isEnd x))) w) := by
  unfold rs_D_isEnd
  refine ev_iload_n dd_D_isEnd_0 rfl ?_
  refine ev_if_eq dd_D_isEnd_1 (fun c1 => ?_) (fun c1 => ?_)
  · rw [if_pos c1]
    refine ev_ic (v := 1) dd_D_isEnd_9 (by decide +kernel) ?_
    refine ev_goto dd_D_isEnd_10 ?_
    refine ev_iret dd_D_isEnd_14 rfl rfl ?_
    exact ⟨rfl, rfl⟩
  · rw [if_neg c1]
    refine ev_iload_n dd_D_isEnd_4 rfl ?_
    refine ev_ic (v := 1) dd_D_isEnd_5 (by decide +kernel) ?_
    refine ev_icmp_ne dd_D_isEnd_6 (fun c2 => ?_) (fun c2 => ?_)
    · rw [if_neg c2]
      refine ev_ic (v := 0) dd_D_isEnd_13 (by decide +kernel) ?_
      refine ev_iret dd_D_isEnd_14 rfl rfl ?_
      exact ⟨rfl, rfl⟩
    · rw [if_pos c2]
      refine ev_ic (v := 1) dd_D_isEnd_9 (by decide +kernel) ?_
      refine ev_goto dd_D_isEnd_10 ?_
      refine ev_iret dd_D_isEnd_14 rfl rfl ?_
      exact ⟨rfl, rfl⟩
def rs_D_missing (D : rf_C) (x : Int32) : Int32 × rf_C := (if x = 0 then (if x = 0 then (1, rf_sI D 0 0 1) else (0, rf_sI D 0 0 1)) else (if x = 0 then (1, rf_sI D 0 0 0) else (0, rf_sI D 0 0 0)))
theorem k_D_missing (x : Int32) (h : rf_K G w D H F Q) : ev_E G mm_D_missing d 0 (lv_args 0 [.ref (ev_b G + 77), .int x]) [] w (rf_yi G F Q H (rs_D_missing D x)) := by
  unfold rs_D_missing
  refine ev_aload_n dd_D_missing_0 rfl ?_
  refine ev_iload_n dd_D_missing_1 rfl ?_
  refine ev_if_eq dd_D_missing_2 (fun c1 => ?_) (fun c1 => ?_)
  · rw [if_pos c1]
    refine ev_ic (v := 1) dd_D_missing_9 (by decide +kernel) ?_
    refine R_pI (k := 0) dd_D_missing_10 fk_D_157 h rfl (by decide) rfl rfl (fun w2 h2 => ?_)
    refine ev_iload_n dd_D_missing_13 rfl ?_
    refine ev_if_ne dd_D_missing_14 (fun c3 => ?_) (fun c3 => ?_)
    · rw [if_neg c3]
      refine ev_ic (v := 0) dd_D_missing_21 (by decide +kernel) ?_
      refine ev_iret dd_D_missing_22 rfl rfl ?_
      exact ⟨rfl, h2⟩
    · rw [if_pos c3]
      refine ev_ic (v := 1) dd_D_missing_17 (by decide +kernel) ?_
      refine ev_goto dd_D_missing_18 ?_
      refine ev_iret dd_D_missing_22 rfl rfl ?_
      exact ⟨rfl, h2⟩
  · rw [if_neg c1]
    refine ev_ic (v := 0) dd_D_missing_5 (by decide +kernel) ?_
    refine ev_goto dd_D_missing_6 ?_
    refine R_pI (k := 0) dd_D_missing_10 fk_D_157 h rfl (by decide) rfl rfl (fun w4 h4 => ?_)
    refine ev_iload_n dd_D_missing_13 rfl ?_
    refine ev_if_ne dd_D_missing_14 (fun c5 => ?_) (fun c5 => ?_)
    · rw [if_neg c5]
      refine ev_ic (v := 0) dd_D_missing_21 (by decide +kernel) ?_
      refine ev_iret dd_D_missing_22 rfl rfl ?_
      exact ⟨rfl, h4⟩
    · rw [if_pos c5]
      refine ev_ic (v := 1) dd_D_missing_17 (by decide +kernel) ?_
      refine ev_goto dd_D_missing_18 ?_
      refine ev_iret dd_D_missing_22 rfl rfl ?_
      exact ⟨rfl, h4⟩
def rs_D_come (D : rf_C) (s : Nat) (x : Int32) : rf_C := (rf_sI (rf_sI D 12 s x) 13 s 0)
theorem k_D_come {s : Nat} (hs : s < 6) (x : Int32) (h : rf_K G w D H F Q) : ev_E G mm_D_come d 0 (lv_args 0 [.ref (ev_b G + 77), .int (Int32.ofNat s), .int x]) [] w (rf_yv G F Q H (rs_D_come D s x)) := by
  unfold rs_D_come
  refine ev_aload_n dd_D_come_0 rfl ?_
  refine R_gA (k := 12) dd_D_come_1 fr_D_41 h rfl ?_
  refine ev_iload_n dd_D_come_4 rfl ?_
  refine ev_iload_n dd_D_come_5 rfl ?_
  refine R_st (k := 12) (j := s) dd_D_come_6 h rfl (show s < 6 by omega) (fun w1 h1 => ?_)
  refine ev_aload_n dd_D_come_7 rfl ?_
  refine R_gA (k := 13) dd_D_come_8 fr_D_44 h1 rfl ?_
  refine ev_iload_n dd_D_come_11 rfl ?_
  refine ev_ic (v := 0) dd_D_come_12 (by decide +kernel) ?_
  refine R_st (k := 13) (j := s) dd_D_come_13 h1 rfl (show s < 6 by omega) (fun w2 h2 => ?_)
  refine ev_vret dd_D_come_14 rfl ?_
  exact ⟨rfl, h2⟩
def rs_D_begin (D : rf_C) (s : Nat) : rf_C := (rf_sX (rf_sX (rf_sI (rf_sI (rf_sI (rf_sI (rf_sI (rf_sI (rf_sI (rf_sI (rf_sI (rf_sI (rf_sI D 17 s 7) 18 s 7) 19 s 1) 20 s 1) 21 s 0) 22 s 0) 23 s 0) 24 s 0) 25 s 0) 26 s 0) 27 s 0) s []) (6 + s) [])
theorem k_D_begin {s : Nat} (hs : s < 6) (h : rf_K G w D none F rf_Q0) : ev_E G mm_D_begin (d + 2) 0 (lv_args 0 [.ref (ev_b G + 77), .int (Int32.ofNat s)]) [] w (rf_yv G F rf_Q0 none (rs_D_begin D s)) := by
  unfold rs_D_begin
  refine ev_aload_n dd_D_begin_0 rfl ?_
  refine R_gA (k := 17) dd_D_begin_1 fr_D_57 h rfl ?_
  refine ev_iload_n dd_D_begin_4 rfl ?_
  refine ev_bp (v := 7) dd_D_begin_5 (by decide +kernel) ?_
  refine R_st (k := 17) (j := s) dd_D_begin_7 h rfl (show s < 6 by omega) (fun w1 h1 => ?_)
  refine ev_aload_n dd_D_begin_8 rfl ?_
  refine R_gA (k := 18) dd_D_begin_9 fr_D_60 h1 rfl ?_
  refine ev_iload_n dd_D_begin_12 rfl ?_
  refine ev_bp (v := 7) dd_D_begin_13 (by decide +kernel) ?_
  refine R_st (k := 18) (j := s) dd_D_begin_15 h1 rfl (show s < 6 by omega) (fun w2 h2 => ?_)
  refine ev_aload_n dd_D_begin_16 rfl ?_
  refine R_gA (k := 19) dd_D_begin_17 fr_D_63 h2 rfl ?_
  refine ev_iload_n dd_D_begin_20 rfl ?_
  refine ev_ic (v := 1) dd_D_begin_21 (by decide +kernel) ?_
  refine R_st (k := 19) (j := s) dd_D_begin_22 h2 rfl (show s < 6 by omega) (fun w3 h3 => ?_)
  refine ev_aload_n dd_D_begin_23 rfl ?_
  refine R_gA (k := 20) dd_D_begin_24 fr_D_66 h3 rfl ?_
  refine ev_iload_n dd_D_begin_27 rfl ?_
  refine ev_ic (v := 1) dd_D_begin_28 (by decide +kernel) ?_
  refine R_st (k := 20) (j := s) dd_D_begin_29 h3 rfl (show s < 6 by omega) (fun w4 h4 => ?_)
  refine ev_aload_n dd_D_begin_30 rfl ?_
  refine R_gA (k := 21) dd_D_begin_31 fr_D_69 h4 rfl ?_
  refine ev_iload_n dd_D_begin_34 rfl ?_
  refine ev_ic (v := 0) dd_D_begin_35 (by decide +kernel) ?_
  refine R_st (k := 21) (j := s) dd_D_begin_36 h4 rfl (show s < 6 by omega) (fun w5 h5 => ?_)
  refine ev_aload_n dd_D_begin_37 rfl ?_
  refine R_gA (k := 22) dd_D_begin_38 fr_D_72 h5 rfl ?_
  refine ev_iload_n dd_D_begin_41 rfl ?_
  refine ev_ic (v := 0) dd_D_begin_42 (by decide +kernel) ?_
  refine R_st (k := 22) (j := s) dd_D_begin_43 h5 rfl (show s < 6 by omega) (fun w6 h6 => ?_)
  refine ev_aload_n dd_D_begin_44 rfl ?_
  refine R_gA (k := 23) dd_D_begin_45 fr_D_75 h6 rfl ?_
  refine ev_iload_n dd_D_begin_48 rfl ?_
  refine ev_ic (v := 0) dd_D_begin_49 (by decide +kernel) ?_
  refine R_st (k := 23) (j := s) dd_D_begin_50 h6 rfl (show s < 6 by omega) (fun w7 h7 => ?_)
  refine ev_aload_n dd_D_begin_51 rfl ?_
  refine R_gA (k := 24) dd_D_begin_52 fr_D_78 h7 rfl ?_
  refine ev_iload_n dd_D_begin_55 rfl ?_
  refine ev_ic (v := 0) dd_D_begin_56 (by decide +kernel) ?_
  refine R_st (k := 24) (j := s) dd_D_begin_57 h7 rfl (show s < 6 by omega) (fun w8 h8 => ?_)
  refine ev_aload_n dd_D_begin_58 rfl ?_
  refine R_gA (k := 25) dd_D_begin_59 fr_D_81 h8 rfl ?_
  refine ev_iload_n dd_D_begin_62 rfl ?_
  refine ev_ic (v := 0) dd_D_begin_63 (by decide +kernel) ?_
  refine R_st (k := 25) (j := s) dd_D_begin_64 h8 rfl (show s < 6 by omega) (fun w9 h9 => ?_)
  refine ev_aload_n dd_D_begin_65 rfl ?_
  refine R_gA (k := 26) dd_D_begin_66 fr_D_84 h9 rfl ?_
  refine ev_iload_n dd_D_begin_69 rfl ?_
  refine ev_ic (v := 0) dd_D_begin_70 (by decide +kernel) ?_
  refine R_st (k := 26) (j := s) dd_D_begin_71 h9 rfl (show s < 6 by omega) (fun w10 h10 => ?_)
  refine ev_aload_n dd_D_begin_72 rfl ?_
  refine R_gA (k := 27) dd_D_begin_73 fr_D_87 h10 rfl ?_
  refine ev_iload_n dd_D_begin_76 rfl ?_
  refine ev_ic (v := 0) dd_D_begin_77 (by decide +kernel) ?_
  refine R_st (k := 27) (j := s) dd_D_begin_78 h10 rfl (show s < 6 by omega) (fun w11 h11 => ?_)
  refine ev_aload_n dd_D_begin_79 rfl ?_
  refine ev_iload_n dd_D_begin_80 rfl ?_
  refine ev_callvV2 [_] dd_D_begin_81 ms_D_empty iv_D_170 h11.ob h11.tg rfl (Nat.le_of_ble_eq_true rfl) (Nat.le_of_ble_eq_true rfl) (k_D_empty (r := s) (show s < 22 by omega) _ _ _ rfl h11) (fun w12 h12 => ?_)
  refine ev_aload_n dd_D_begin_84 rfl ?_
  refine ev_bp (v := 6) dd_D_begin_85 (by decide +kernel) ?_
  refine ev_iload_n dd_D_begin_87 rfl ?_
  refine ev_iadd dd_D_begin_88 ?_
  rw [show (6 : Int32) + (Int32.ofNat s) = Int32.ofNat (6 + s) from nI_add 6 s]
  refine ev_callvV2 [_] dd_D_begin_89 ms_D_empty iv_D_170 h12.ob h12.tg rfl (Nat.le_of_ble_eq_true rfl) (Nat.le_of_ble_eq_true rfl) (k_D_empty (r := 6 + s) (show 6 + s < 22 by omega) _ _ _ rfl h12) (fun w13 h13 => ?_)
  refine ev_vret dd_D_begin_92 rfl ?_
  exact ⟨rfl, h13⟩
def rs_D_isOpen (D : rf_C) (e : Nat) (l : Nat) : Int32 × rf_C := (if (D.1 12 ((2 * l) + e)) = 4 then (if (D.1 42 ((2 * l) + e)) = 0 then (1, D) else (0, D)) else (0, D))
theorem k_D_isOpen {e : Nat} {l : Nat} (he : e < 2) (hl : l < 3) (h : rf_K G w D H F Q) : ev_E G mm_D_isOpen d 0 (lv_args 0 [.ref (ev_b G + 77), .int (Int32.ofNat e), .int (Int32.ofNat l)]) [] w (rf_yi G F Q H (rs_D_isOpen D e l)) := by
  unfold rs_D_isOpen
  refine ev_aload_n dd_D_isOpen_0 rfl ?_
  refine R_gA (k := 12) dd_D_isOpen_1 fr_D_41 h rfl ?_
  refine ev_ic (v := 2) dd_D_isOpen_4 (by decide +kernel) ?_
  refine ev_iload_n dd_D_isOpen_5 rfl ?_
  refine ev_imul dd_D_isOpen_6 ?_
  rw [show (2 : Int32) * (Int32.ofNat l) = Int32.ofNat (2 * l) from ms_mul 2 l]
  refine ev_iload_n dd_D_isOpen_7 rfl ?_
  refine ev_iadd dd_D_isOpen_8 ?_
  rw [show (Int32.ofNat (2 * l)) + (Int32.ofNat e) = Int32.ofNat ((2 * l) + e) from nI_add (2 * l) e]
  refine R_ld (k := 12) (j := (2 * l) + e) dd_D_isOpen_9 h rfl (show (2 * l) + e < 6 by omega) ?_
  refine ev_ic (v := 4) dd_D_isOpen_10 (by decide +kernel) ?_
  refine ev_icmp_ne dd_D_isOpen_11 (fun c1 => ?_) (fun c1 => ?_)
  · rw [if_neg c1]
    refine ev_ic (v := 0) dd_D_isOpen_31 (by decide +kernel) ?_
    refine ev_iret dd_D_isOpen_32 rfl rfl ?_
    exact ⟨rfl, h⟩
  · rw [if_pos c1]
    refine ev_aload_n dd_D_isOpen_14 rfl ?_
    refine R_gA (k := 42) dd_D_isOpen_15 fr_D_132 h rfl ?_
    refine ev_ic (v := 2) dd_D_isOpen_18 (by decide +kernel) ?_
    refine ev_iload_n dd_D_isOpen_19 rfl ?_
    refine ev_imul dd_D_isOpen_20 ?_
    rw [show (2 : Int32) * (Int32.ofNat l) = Int32.ofNat (2 * l) from ms_mul 2 l]
    refine ev_iload_n dd_D_isOpen_21 rfl ?_
    refine ev_iadd dd_D_isOpen_22 ?_
    rw [show (Int32.ofNat (2 * l)) + (Int32.ofNat e) = Int32.ofNat ((2 * l) + e) from nI_add (2 * l) e]
    refine R_ld (k := 42) (j := (2 * l) + e) dd_D_isOpen_23 h rfl (show (2 * l) + e < 6 by omega) ?_
    refine ev_if_ne dd_D_isOpen_24 (fun c2 => ?_) (fun c2 => ?_)
    · rw [if_neg c2]
      refine ev_ic (v := 0) dd_D_isOpen_31 (by decide +kernel) ?_
      refine ev_iret dd_D_isOpen_32 rfl rfl ?_
      exact ⟨rfl, h⟩
    · rw [if_pos c2]
      refine ev_ic (v := 1) dd_D_isOpen_27 (by decide +kernel) ?_
      refine ev_goto dd_D_isOpen_28 ?_
      refine ev_iret dd_D_isOpen_32 rfl rfl ?_
      exact ⟨rfl, h⟩
def rs_D_serving (D : rf_C) (e : Nat) : Int32 × rf_C := (if (D.1 12 (4 + e)) = 4 then (if (D.1 12 (2 + e)) = 4 then (if (D.1 12 (0 + e)) = 4 then (0, D) else (1, D)) else (if (D.1 12 (0 + e)) = 4 then (0, D) else (2, D))) else (if (D.1 12 (2 + e)) = 4 then (if (D.1 12 (0 + e)) = 4 then (0, D) else (1, D)) else (if (D.1 12 (0 + e)) = 4 then (0, D) else ((-1), D))))
theorem k_D_serving {e : Nat} (he : e < 2) (h : rf_K G w D H F Q) : ev_E G mm_D_serving d 0 (lv_args 0 [.ref (ev_b G + 77), .int (Int32.ofNat e)]) [] w (rf_yi G F Q H (rs_D_serving D e)) := by
  unfold rs_D_serving
  refine ev_ic (v := (-1)) dd_D_serving_0 (by decide +kernel) ?_
  refine ev_istore_n dd_D_serving_1 (by decide) ?_
  refine ev_ic (v := 2) dd_D_serving_2 (by decide +kernel) ?_
  refine ev_istore_n dd_D_serving_3 (by decide) ?_
  refine ev_iload_n dd_D_serving_4 rfl ?_
  refine ev_if_lt dd_D_serving_5 (fun hc => absurd hc (by decide)) (fun _ => ?_)
  refine ev_aload_n dd_D_serving_8 rfl ?_
  refine R_gA (k := 12) dd_D_serving_9 fr_D_41 h rfl ?_
  refine ev_ic (v := 2) dd_D_serving_12 (by decide +kernel) ?_
  refine ev_iload_n dd_D_serving_13 rfl ?_
  refine ev_imul dd_D_serving_14 ?_
  rw [show (2 : Int32) * 2 = 4 by decide]
  refine ev_iload_n dd_D_serving_15 rfl ?_
  refine ev_iadd dd_D_serving_16 ?_
  rw [show (4 : Int32) + (Int32.ofNat e) = Int32.ofNat (4 + e) from nI_add 4 e]
  refine R_ld (k := 12) (j := 4 + e) dd_D_serving_17 h rfl (show 4 + e < 6 by omega) ?_
  refine ev_ic (v := 4) dd_D_serving_18 (by decide +kernel) ?_
  refine ev_icmp_ne dd_D_serving_19 (fun c1 => ?_) (fun c1 => ?_)
  · rw [if_neg c1]
    refine ev_iload_n dd_D_serving_26 rfl ?_
    refine ev_istore_n dd_D_serving_27 (by decide) ?_
    refine ev_iinc dd_D_serving_28 rfl (by decide) ?_
    refine ev_loc4 (i0 := 0) (i1 := 1) (i2 := 2) (i3 := 3) rfl rfl rfl (v3 := .int 1) rfl ?_
    refine ev_goto dd_D_serving_31 ?_
    refine ev_iload_n dd_D_serving_4 rfl ?_
    refine ev_if_lt dd_D_serving_5 (fun hc => absurd hc (by decide)) (fun _ => ?_)
    refine ev_aload_n dd_D_serving_8 rfl ?_
    refine R_gA (k := 12) dd_D_serving_9 fr_D_41 h rfl ?_
    refine ev_ic (v := 2) dd_D_serving_12 (by decide +kernel) ?_
    refine ev_iload_n dd_D_serving_13 rfl ?_
    refine ev_imul dd_D_serving_14 ?_
    rw [show (2 : Int32) * 1 = 2 by decide]
    refine ev_iload_n dd_D_serving_15 rfl ?_
    refine ev_iadd dd_D_serving_16 ?_
    rw [show (2 : Int32) + (Int32.ofNat e) = Int32.ofNat (2 + e) from nI_add 2 e]
    refine R_ld (k := 12) (j := 2 + e) dd_D_serving_17 h rfl (show 2 + e < 6 by omega) ?_
    refine ev_ic (v := 4) dd_D_serving_18 (by decide +kernel) ?_
    refine ev_icmp_ne dd_D_serving_19 (fun c2 => ?_) (fun c2 => ?_)
    · rw [if_neg c2]
      refine ev_iload_n dd_D_serving_26 rfl ?_
      refine ev_istore_n dd_D_serving_27 (by decide) ?_
      refine ev_iinc dd_D_serving_28 rfl (by decide) ?_
      refine ev_loc4 (i0 := 0) (i1 := 1) (i2 := 2) (i3 := 3) rfl rfl rfl (v3 := .int 0) rfl ?_
      refine ev_goto dd_D_serving_31 ?_
      refine ev_iload_n dd_D_serving_4 rfl ?_
      refine ev_if_lt dd_D_serving_5 (fun hc => absurd hc (by decide)) (fun _ => ?_)
      refine ev_aload_n dd_D_serving_8 rfl ?_
      refine R_gA (k := 12) dd_D_serving_9 fr_D_41 h rfl ?_
      refine ev_ic (v := 2) dd_D_serving_12 (by decide +kernel) ?_
      refine ev_iload_n dd_D_serving_13 rfl ?_
      refine ev_imul dd_D_serving_14 ?_
      rw [show (2 : Int32) * 0 = 0 by decide]
      refine ev_iload_n dd_D_serving_15 rfl ?_
      refine ev_iadd dd_D_serving_16 ?_
      rw [show (0 : Int32) + (Int32.ofNat e) = Int32.ofNat (0 + e) from nI_add 0 e]
      refine R_ld (k := 12) (j := 0 + e) dd_D_serving_17 h rfl (show 0 + e < 6 by omega) ?_
      refine ev_ic (v := 4) dd_D_serving_18 (by decide +kernel) ?_
      refine ev_icmp_ne dd_D_serving_19 (fun c3 => ?_) (fun c3 => ?_)
      · rw [if_neg c3]
        refine ev_iload_n dd_D_serving_26 rfl ?_
        refine ev_istore_n dd_D_serving_27 (by decide) ?_
        refine ev_iinc dd_D_serving_28 rfl (by decide) ?_
        refine ev_loc4 (i0 := 0) (i1 := 1) (i2 := 2) (i3 := 3) rfl rfl rfl (v3 := .int (-1)) rfl ?_
        refine ev_goto dd_D_serving_31 ?_
        refine ev_iload_n dd_D_serving_4 rfl ?_
        refine ev_if_lt dd_D_serving_5 (fun _ => ?_) (fun hc => absurd (by decide) hc)
        refine ev_iload_n dd_D_serving_34 rfl ?_
        refine ev_iret dd_D_serving_35 rfl rfl ?_
        exact ⟨rfl, h⟩
      · rw [if_pos c3]
        refine ev_iload_n dd_D_serving_22 rfl ?_
        refine ev_goto dd_D_serving_23 ?_
        refine ev_istore_n dd_D_serving_27 (by decide) ?_
        refine ev_iinc dd_D_serving_28 rfl (by decide) ?_
        refine ev_loc4 (i0 := 0) (i1 := 1) (i2 := 2) (i3 := 3) rfl rfl rfl (v3 := .int (-1)) rfl ?_
        refine ev_goto dd_D_serving_31 ?_
        refine ev_iload_n dd_D_serving_4 rfl ?_
        refine ev_if_lt dd_D_serving_5 (fun _ => ?_) (fun hc => absurd (by decide) hc)
        refine ev_iload_n dd_D_serving_34 rfl ?_
        refine ev_iret dd_D_serving_35 rfl rfl ?_
        exact ⟨rfl, h⟩
    · rw [if_pos c2]
      refine ev_iload_n dd_D_serving_22 rfl ?_
      refine ev_goto dd_D_serving_23 ?_
      refine ev_istore_n dd_D_serving_27 (by decide) ?_
      refine ev_iinc dd_D_serving_28 rfl (by decide) ?_
      refine ev_loc4 (i0 := 0) (i1 := 1) (i2 := 2) (i3 := 3) rfl rfl rfl (v3 := .int 0) rfl ?_
      refine ev_goto dd_D_serving_31 ?_
      refine ev_iload_n dd_D_serving_4 rfl ?_
      refine ev_if_lt dd_D_serving_5 (fun hc => absurd hc (by decide)) (fun _ => ?_)
      refine ev_aload_n dd_D_serving_8 rfl ?_
      refine R_gA (k := 12) dd_D_serving_9 fr_D_41 h rfl ?_
      refine ev_ic (v := 2) dd_D_serving_12 (by decide +kernel) ?_
      refine ev_iload_n dd_D_serving_13 rfl ?_
      refine ev_imul dd_D_serving_14 ?_
      rw [show (2 : Int32) * 0 = 0 by decide]
      refine ev_iload_n dd_D_serving_15 rfl ?_
      refine ev_iadd dd_D_serving_16 ?_
      rw [show (0 : Int32) + (Int32.ofNat e) = Int32.ofNat (0 + e) from nI_add 0 e]
      refine R_ld (k := 12) (j := 0 + e) dd_D_serving_17 h rfl (show 0 + e < 6 by omega) ?_
      refine ev_ic (v := 4) dd_D_serving_18 (by decide +kernel) ?_
      refine ev_icmp_ne dd_D_serving_19 (fun c4 => ?_) (fun c4 => ?_)
      · rw [if_neg c4]
        refine ev_iload_n dd_D_serving_26 rfl ?_
        refine ev_istore_n dd_D_serving_27 (by decide) ?_
        refine ev_iinc dd_D_serving_28 rfl (by decide) ?_
        refine ev_loc4 (i0 := 0) (i1 := 1) (i2 := 2) (i3 := 3) rfl rfl rfl (v3 := .int (-1)) rfl ?_
        refine ev_goto dd_D_serving_31 ?_
        refine ev_iload_n dd_D_serving_4 rfl ?_
        refine ev_if_lt dd_D_serving_5 (fun _ => ?_) (fun hc => absurd (by decide) hc)
        refine ev_iload_n dd_D_serving_34 rfl ?_
        refine ev_iret dd_D_serving_35 rfl rfl ?_
        exact ⟨rfl, h⟩
      · rw [if_pos c4]
        refine ev_iload_n dd_D_serving_22 rfl ?_
        refine ev_goto dd_D_serving_23 ?_
        refine ev_istore_n dd_D_serving_27 (by decide) ?_
        refine ev_iinc dd_D_serving_28 rfl (by decide) ?_
        refine ev_loc4 (i0 := 0) (i1 := 1) (i2 := 2) (i3 := 3) rfl rfl rfl (v3 := .int (-1)) rfl ?_
        refine ev_goto dd_D_serving_31 ?_
        refine ev_iload_n dd_D_serving_4 rfl ?_
        refine ev_if_lt dd_D_serving_5 (fun _ => ?_) (fun hc => absurd (by decide) hc)
        refine ev_iload_n dd_D_serving_34 rfl ?_
        refine ev_iret dd_D_serving_35 rfl rfl ?_
        exact ⟨rfl, h⟩
  · rw [if_pos c1]
    refine ev_iload_n dd_D_serving_22 rfl ?_
    refine ev_goto dd_D_serving_23 ?_
    refine ev_istore_n dd_D_serving_27 (by decide) ?_
    refine ev_iinc dd_D_serving_28 rfl (by decide) ?_
    refine ev_loc4 (i0 := 0) (i1 := 1) (i2 := 2) (i3 := 3) rfl rfl rfl (v3 := .int 1) rfl ?_
    refine ev_goto dd_D_serving_31 ?_
    refine ev_iload_n dd_D_serving_4 rfl ?_
    refine ev_if_lt dd_D_serving_5 (fun hc => absurd hc (by decide)) (fun _ => ?_)
    refine ev_aload_n dd_D_serving_8 rfl ?_
    refine R_gA (k := 12) dd_D_serving_9 fr_D_41 h rfl ?_
    refine ev_ic (v := 2) dd_D_serving_12 (by decide +kernel) ?_
    refine ev_iload_n dd_D_serving_13 rfl ?_
    refine ev_imul dd_D_serving_14 ?_
    rw [show (2 : Int32) * 1 = 2 by decide]
    refine ev_iload_n dd_D_serving_15 rfl ?_
    refine ev_iadd dd_D_serving_16 ?_
    rw [show (2 : Int32) + (Int32.ofNat e) = Int32.ofNat (2 + e) from nI_add 2 e]
    refine R_ld (k := 12) (j := 2 + e) dd_D_serving_17 h rfl (show 2 + e < 6 by omega) ?_
    refine ev_ic (v := 4) dd_D_serving_18 (by decide +kernel) ?_
    refine ev_icmp_ne dd_D_serving_19 (fun c5 => ?_) (fun c5 => ?_)
    · rw [if_neg c5]
      refine ev_iload_n dd_D_serving_26 rfl ?_
      refine ev_istore_n dd_D_serving_27 (by decide) ?_
      refine ev_iinc dd_D_serving_28 rfl (by decide) ?_
      refine ev_loc4 (i0 := 0) (i1 := 1) (i2 := 2) (i3 := 3) rfl rfl rfl (v3 := .int 0) rfl ?_
      refine ev_goto dd_D_serving_31 ?_
      refine ev_iload_n dd_D_serving_4 rfl ?_
      refine ev_if_lt dd_D_serving_5 (fun hc => absurd hc (by decide)) (fun _ => ?_)
      refine ev_aload_n dd_D_serving_8 rfl ?_
      refine R_gA (k := 12) dd_D_serving_9 fr_D_41 h rfl ?_
      refine ev_ic (v := 2) dd_D_serving_12 (by decide +kernel) ?_
      refine ev_iload_n dd_D_serving_13 rfl ?_
      refine ev_imul dd_D_serving_14 ?_
      rw [show (2 : Int32) * 0 = 0 by decide]
      refine ev_iload_n dd_D_serving_15 rfl ?_
      refine ev_iadd dd_D_serving_16 ?_
      rw [show (0 : Int32) + (Int32.ofNat e) = Int32.ofNat (0 + e) from nI_add 0 e]
      refine R_ld (k := 12) (j := 0 + e) dd_D_serving_17 h rfl (show 0 + e < 6 by omega) ?_
      refine ev_ic (v := 4) dd_D_serving_18 (by decide +kernel) ?_
      refine ev_icmp_ne dd_D_serving_19 (fun c6 => ?_) (fun c6 => ?_)
      · rw [if_neg c6]
        refine ev_iload_n dd_D_serving_26 rfl ?_
        refine ev_istore_n dd_D_serving_27 (by decide) ?_
        refine ev_iinc dd_D_serving_28 rfl (by decide) ?_
        refine ev_loc4 (i0 := 0) (i1 := 1) (i2 := 2) (i3 := 3) rfl rfl rfl (v3 := .int (-1)) rfl ?_
        refine ev_goto dd_D_serving_31 ?_
        refine ev_iload_n dd_D_serving_4 rfl ?_
        refine ev_if_lt dd_D_serving_5 (fun _ => ?_) (fun hc => absurd (by decide) hc)
        refine ev_iload_n dd_D_serving_34 rfl ?_
        refine ev_iret dd_D_serving_35 rfl rfl ?_
        exact ⟨rfl, h⟩
      · rw [if_pos c6]
        refine ev_iload_n dd_D_serving_22 rfl ?_
        refine ev_goto dd_D_serving_23 ?_
        refine ev_istore_n dd_D_serving_27 (by decide) ?_
        refine ev_iinc dd_D_serving_28 rfl (by decide) ?_
        refine ev_loc4 (i0 := 0) (i1 := 1) (i2 := 2) (i3 := 3) rfl rfl rfl (v3 := .int (-1)) rfl ?_
        refine ev_goto dd_D_serving_31 ?_
        refine ev_iload_n dd_D_serving_4 rfl ?_
        refine ev_if_lt dd_D_serving_5 (fun _ => ?_) (fun hc => absurd (by decide) hc)
        refine ev_iload_n dd_D_serving_34 rfl ?_
        refine ev_iret dd_D_serving_35 rfl rfl ?_
        exact ⟨rfl, h⟩
    · rw [if_pos c5]
      refine ev_iload_n dd_D_serving_22 rfl ?_
      refine ev_goto dd_D_serving_23 ?_
      refine ev_istore_n dd_D_serving_27 (by decide) ?_
      refine ev_iinc dd_D_serving_28 rfl (by decide) ?_
      refine ev_loc4 (i0 := 0) (i1 := 1) (i2 := 2) (i3 := 3) rfl rfl rfl (v3 := .int 0) rfl ?_
      refine ev_goto dd_D_serving_31 ?_
      refine ev_iload_n dd_D_serving_4 rfl ?_
      refine ev_if_lt dd_D_serving_5 (fun hc => absurd hc (by decide)) (fun _ => ?_)
      refine ev_aload_n dd_D_serving_8 rfl ?_
      refine R_gA (k := 12) dd_D_serving_9 fr_D_41 h rfl ?_
      refine ev_ic (v := 2) dd_D_serving_12 (by decide +kernel) ?_
      refine ev_iload_n dd_D_serving_13 rfl ?_
      refine ev_imul dd_D_serving_14 ?_
      rw [show (2 : Int32) * 0 = 0 by decide]
      refine ev_iload_n dd_D_serving_15 rfl ?_
      refine ev_iadd dd_D_serving_16 ?_
      rw [show (0 : Int32) + (Int32.ofNat e) = Int32.ofNat (0 + e) from nI_add 0 e]
      refine R_ld (k := 12) (j := 0 + e) dd_D_serving_17 h rfl (show 0 + e < 6 by omega) ?_
      refine ev_ic (v := 4) dd_D_serving_18 (by decide +kernel) ?_
      refine ev_icmp_ne dd_D_serving_19 (fun c7 => ?_) (fun c7 => ?_)
      · rw [if_neg c7]
        refine ev_iload_n dd_D_serving_26 rfl ?_
        refine ev_istore_n dd_D_serving_27 (by decide) ?_
        refine ev_iinc dd_D_serving_28 rfl (by decide) ?_
        refine ev_loc4 (i0 := 0) (i1 := 1) (i2 := 2) (i3 := 3) rfl rfl rfl (v3 := .int (-1)) rfl ?_
        refine ev_goto dd_D_serving_31 ?_
        refine ev_iload_n dd_D_serving_4 rfl ?_
        refine ev_if_lt dd_D_serving_5 (fun _ => ?_) (fun hc => absurd (by decide) hc)
        refine ev_iload_n dd_D_serving_34 rfl ?_
        refine ev_iret dd_D_serving_35 rfl rfl ?_
        exact ⟨rfl, h⟩
      · rw [if_pos c7]
        refine ev_iload_n dd_D_serving_22 rfl ?_
        refine ev_goto dd_D_serving_23 ?_
        refine ev_istore_n dd_D_serving_27 (by decide) ?_
        refine ev_iinc dd_D_serving_28 rfl (by decide) ?_
        refine ev_loc4 (i0 := 0) (i1 := 1) (i2 := 2) (i3 := 3) rfl rfl rfl (v3 := .int (-1)) rfl ?_
        refine ev_goto dd_D_serving_31 ?_
        refine ev_iload_n dd_D_serving_4 rfl ?_
        refine ev_if_lt dd_D_serving_5 (fun _ => ?_) (fun hc => absurd (by decide) hc)
        refine ev_iload_n dd_D_serving_34 rfl ?_
        refine ev_iret dd_D_serving_35 rfl rfl ?_
        exact ⟨rfl, h⟩
def rs_D_chosen0 (D : rf_C) (e : Nat) : Int32 × rf_C := (if ((rs_D_isOpen D e 2).1) = 0 then (if ((rs_D_isOpen ((rs_D_isOpen D e 2).2) e 1).1) = 0 then (if ((rs_D_isOpen ((rs_D_isOpen ((rs_D_isOpen D e 2).2) e 1).2) e 0).1) = 0 then ((-1), (rs_D_isOpen ((rs_D_isOpen ((rs_D_isOpen D e 2).2) e 1).2) e 0).2) else (0, (rs_D_isOpen ((rs_D_isOpen ((rs_D_isOpen D e 2).2) e 1).2) e 0).2)) else (if ((rs_D_isOpen ((rs_D_isOpen ((rs_D_isOpen D e 2).2) e 1).2) e 0).1) = 0 then (1, (rs_D_isOpen ((rs_D_isOpen ((rs_D_isOpen D e 2).2) e 1).2) e 0).2) else (0, (rs_D_isOpen ((rs_D_isOpen ((rs_D_isOpen D e 2).2) e 1).2) e 0).2))) else (if ((rs_D_isOpen ((rs_D_isOpen D e 2).2) e 1).1) = 0 then (if ((rs_D_isOpen ((rs_D_isOpen ((rs_D_isOpen D e 2).2) e 1).2) e 0).1) = 0 then (2, (rs_D_isOpen ((rs_D_isOpen ((rs_D_isOpen D e 2).2) e 1).2) e 0).2) else (0, (rs_D_isOpen ((rs_D_isOpen ((rs_D_isOpen D e 2).2) e 1).2) e 0).2)) else (if ((rs_D_isOpen ((rs_D_isOpen ((rs_D_isOpen D e 2).2) e 1).2) e 0).1) = 0 then (1, (rs_D_isOpen ((rs_D_isOpen ((rs_D_isOpen D e 2).2) e 1).2) e 0).2) else (0, (rs_D_isOpen ((rs_D_isOpen ((rs_D_isOpen D e 2).2) e 1).2) e 0).2))))
theorem k_D_chosen0 {e : Nat} (he : e < 2) (h : rf_K G w D H F Q) : ev_E G mm_D_chosen (d + 1) 0 [(0, .ref (ev_b G + 77)), (1, .int (Int32.ofNat e)), (2, .int 0)] [] w (rf_yi G F Q H (rs_D_chosen0 D e)) := by
  unfold rs_D_chosen0
  refine ev_ic (v := (-1)) dd_D_chosen_0 (by decide +kernel) ?_
  refine ev_istore_n dd_D_chosen_1 (by decide) ?_
  refine ev_ic (v := 2) dd_D_chosen_2 (by decide +kernel) ?_
  refine ev_istore dd_D_chosen_3 (by decide) ?_
  refine ev_iload dd_D_chosen_5 rfl ?_
  refine ev_if_lt dd_D_chosen_7 (fun hc => absurd hc (by decide)) (fun _ => ?_)
  refine ev_iload_n dd_D_chosen_10 rfl ?_
  refine ev_iload dd_D_chosen_11 rfl ?_
  refine ev_iadd dd_D_chosen_13 ?_
  rw [show (0 : Int32) + 2 = 2 by decide]
  refine ev_ic (v := 3) dd_D_chosen_14 (by decide +kernel) ?_
  refine ev_irem dd_D_chosen_15 (by decide) ?_
  refine ev_istore dd_D_chosen_16 (by decide) ?_
  refine ev_loc6 (i0 := 0) (i1 := 1) (i2 := 2) (i3 := 3) (i4 := 4) (i5 := 5) rfl rfl rfl rfl rfl (v5 := .int 2) rfl ?_
  refine ev_aload_n dd_D_chosen_18 rfl ?_
  refine ev_iload_n dd_D_chosen_19 rfl ?_
  refine ev_iload dd_D_chosen_20 rfl ?_
  refine ev_callvN2 [_, _] dd_D_chosen_22 ms_D_isOpen iv_D_194 h.ob h.tg rfl (Nat.le_of_ble_eq_true rfl) (Nat.le_of_ble_eq_true rfl) (k_D_isOpen (show e < 2 by omega) (show 2 < 3 by omega) h) (fun w1 h1 => ?_)
  refine ev_if_eq dd_D_chosen_25 (fun c2 => ?_) (fun c2 => ?_)
  · rw [if_pos c2]
    refine ev_iload_n dd_D_chosen_33 rfl ?_
    refine ev_istore_n dd_D_chosen_34 (by decide) ?_
    refine ev_iinc dd_D_chosen_35 rfl (by decide) ?_
    refine ev_loc6 (i0 := 0) (i1 := 1) (i2 := 2) (i3 := 3) (i4 := 4) (i5 := 5) rfl rfl rfl rfl (v4 := .int 1) rfl rfl ?_
    refine ev_goto dd_D_chosen_38 ?_
    refine ev_iload dd_D_chosen_5 rfl ?_
    refine ev_if_lt dd_D_chosen_7 (fun hc => absurd hc (by decide)) (fun _ => ?_)
    refine ev_iload_n dd_D_chosen_10 rfl ?_
    refine ev_iload dd_D_chosen_11 rfl ?_
    refine ev_iadd dd_D_chosen_13 ?_
    rw [show (0 : Int32) + 1 = 1 by decide]
    refine ev_ic (v := 3) dd_D_chosen_14 (by decide +kernel) ?_
    refine ev_irem dd_D_chosen_15 (by decide) ?_
    refine ev_istore dd_D_chosen_16 (by decide) ?_
    refine ev_loc6 (i0 := 0) (i1 := 1) (i2 := 2) (i3 := 3) (i4 := 4) (i5 := 5) rfl rfl rfl rfl rfl (v5 := .int 1) rfl ?_
    refine ev_aload_n dd_D_chosen_18 rfl ?_
    refine ev_iload_n dd_D_chosen_19 rfl ?_
    refine ev_iload dd_D_chosen_20 rfl ?_
    refine ev_callvN2 [_, _] dd_D_chosen_22 ms_D_isOpen iv_D_194 h1.ob h1.tg rfl (Nat.le_of_ble_eq_true rfl) (Nat.le_of_ble_eq_true rfl) (k_D_isOpen (show e < 2 by omega) (show 1 < 3 by omega) h1) (fun w3 h3 => ?_)
    refine ev_if_eq dd_D_chosen_25 (fun c4 => ?_) (fun c4 => ?_)
    · rw [if_pos c4]
      refine ev_iload_n dd_D_chosen_33 rfl ?_
      refine ev_istore_n dd_D_chosen_34 (by decide) ?_
      refine ev_iinc dd_D_chosen_35 rfl (by decide) ?_
      refine ev_loc6 (i0 := 0) (i1 := 1) (i2 := 2) (i3 := 3) (i4 := 4) (i5 := 5) rfl rfl rfl rfl (v4 := .int 0) rfl rfl ?_
      refine ev_goto dd_D_chosen_38 ?_
      refine ev_iload dd_D_chosen_5 rfl ?_
      refine ev_if_lt dd_D_chosen_7 (fun hc => absurd hc (by decide)) (fun _ => ?_)
      refine ev_iload_n dd_D_chosen_10 rfl ?_
      refine ev_iload dd_D_chosen_11 rfl ?_
      refine ev_iadd dd_D_chosen_13 ?_
      rw [show (0 : Int32) + 0 = 0 by decide]
      refine ev_ic (v := 3) dd_D_chosen_14 (by decide +kernel) ?_
      refine ev_irem dd_D_chosen_15 (by decide) ?_
      refine ev_istore dd_D_chosen_16 (by decide) ?_
      refine ev_loc6 (i0 := 0) (i1 := 1) (i2 := 2) (i3 := 3) (i4 := 4) (i5 := 5) rfl rfl rfl rfl rfl (v5 := .int 0) rfl ?_
      refine ev_aload_n dd_D_chosen_18 rfl ?_
      refine ev_iload_n dd_D_chosen_19 rfl ?_
      refine ev_iload dd_D_chosen_20 rfl ?_
      refine ev_callvN2 [_, _] dd_D_chosen_22 ms_D_isOpen iv_D_194 h3.ob h3.tg rfl (Nat.le_of_ble_eq_true rfl) (Nat.le_of_ble_eq_true rfl) (k_D_isOpen (show e < 2 by omega) (show 0 < 3 by omega) h3) (fun w5 h5 => ?_)
      refine ev_if_eq dd_D_chosen_25 (fun c6 => ?_) (fun c6 => ?_)
      · rw [if_pos c6]
        refine ev_iload_n dd_D_chosen_33 rfl ?_
        refine ev_istore_n dd_D_chosen_34 (by decide) ?_
        refine ev_iinc dd_D_chosen_35 rfl (by decide) ?_
        refine ev_loc6 (i0 := 0) (i1 := 1) (i2 := 2) (i3 := 3) (i4 := 4) (i5 := 5) rfl rfl rfl rfl (v4 := .int (-1)) rfl rfl ?_
        refine ev_goto dd_D_chosen_38 ?_
        refine ev_iload dd_D_chosen_5 rfl ?_
        refine ev_if_lt dd_D_chosen_7 (fun _ => ?_) (fun hc => absurd (by decide) hc)
        refine ev_iload_n dd_D_chosen_41 rfl ?_
        refine ev_iret dd_D_chosen_42 rfl rfl ?_
        exact ⟨rfl, h5⟩
      · rw [if_neg c6]
        refine ev_iload dd_D_chosen_28 rfl ?_
        refine ev_goto dd_D_chosen_30 ?_
        refine ev_istore_n dd_D_chosen_34 (by decide) ?_
        refine ev_iinc dd_D_chosen_35 rfl (by decide) ?_
        refine ev_loc6 (i0 := 0) (i1 := 1) (i2 := 2) (i3 := 3) (i4 := 4) (i5 := 5) rfl rfl rfl rfl (v4 := .int (-1)) rfl rfl ?_
        refine ev_goto dd_D_chosen_38 ?_
        refine ev_iload dd_D_chosen_5 rfl ?_
        refine ev_if_lt dd_D_chosen_7 (fun _ => ?_) (fun hc => absurd (by decide) hc)
        refine ev_iload_n dd_D_chosen_41 rfl ?_
        refine ev_iret dd_D_chosen_42 rfl rfl ?_
        exact ⟨rfl, h5⟩
    · rw [if_neg c4]
      refine ev_iload dd_D_chosen_28 rfl ?_
      refine ev_goto dd_D_chosen_30 ?_
      refine ev_istore_n dd_D_chosen_34 (by decide) ?_
      refine ev_iinc dd_D_chosen_35 rfl (by decide) ?_
      refine ev_loc6 (i0 := 0) (i1 := 1) (i2 := 2) (i3 := 3) (i4 := 4) (i5 := 5) rfl rfl rfl rfl (v4 := .int 0) rfl rfl ?_
      refine ev_goto dd_D_chosen_38 ?_
      refine ev_iload dd_D_chosen_5 rfl ?_
      refine ev_if_lt dd_D_chosen_7 (fun hc => absurd hc (by decide)) (fun _ => ?_)
      refine ev_iload_n dd_D_chosen_10 rfl ?_
      refine ev_iload dd_D_chosen_11 rfl ?_
      refine ev_iadd dd_D_chosen_13 ?_
      rw [show (0 : Int32) + 0 = 0 by decide]
      refine ev_ic (v := 3) dd_D_chosen_14 (by decide +kernel) ?_
      refine ev_irem dd_D_chosen_15 (by decide) ?_
      refine ev_istore dd_D_chosen_16 (by decide) ?_
      refine ev_loc6 (i0 := 0) (i1 := 1) (i2 := 2) (i3 := 3) (i4 := 4) (i5 := 5) rfl rfl rfl rfl rfl (v5 := .int 0) rfl ?_
      refine ev_aload_n dd_D_chosen_18 rfl ?_
      refine ev_iload_n dd_D_chosen_19 rfl ?_
      refine ev_iload dd_D_chosen_20 rfl ?_
      refine ev_callvN2 [_, _] dd_D_chosen_22 ms_D_isOpen iv_D_194 h3.ob h3.tg rfl (Nat.le_of_ble_eq_true rfl) (Nat.le_of_ble_eq_true rfl) (k_D_isOpen (show e < 2 by omega) (show 0 < 3 by omega) h3) (fun w7 h7 => ?_)
      refine ev_if_eq dd_D_chosen_25 (fun c8 => ?_) (fun c8 => ?_)
      · rw [if_pos c8]
        refine ev_iload_n dd_D_chosen_33 rfl ?_
        refine ev_istore_n dd_D_chosen_34 (by decide) ?_
        refine ev_iinc dd_D_chosen_35 rfl (by decide) ?_
        refine ev_loc6 (i0 := 0) (i1 := 1) (i2 := 2) (i3 := 3) (i4 := 4) (i5 := 5) rfl rfl rfl rfl (v4 := .int (-1)) rfl rfl ?_
        refine ev_goto dd_D_chosen_38 ?_
        refine ev_iload dd_D_chosen_5 rfl ?_
        refine ev_if_lt dd_D_chosen_7 (fun _ => ?_) (fun hc => absurd (by decide) hc)
        refine ev_iload_n dd_D_chosen_41 rfl ?_
        refine ev_iret dd_D_chosen_42 rfl rfl ?_
        exact ⟨rfl, h7⟩
      · rw [if_neg c8]
        refine ev_iload dd_D_chosen_28 rfl ?_
        refine ev_goto dd_D_chosen_30 ?_
        refine ev_istore_n dd_D_chosen_34 (by decide) ?_
        refine ev_iinc dd_D_chosen_35 rfl (by decide) ?_
        refine ev_loc6 (i0 := 0) (i1 := 1) (i2 := 2) (i3 := 3) (i4 := 4) (i5 := 5) rfl rfl rfl rfl (v4 := .int (-1)) rfl rfl ?_
        refine ev_goto dd_D_chosen_38 ?_
        refine ev_iload dd_D_chosen_5 rfl ?_
        refine ev_if_lt dd_D_chosen_7 (fun _ => ?_) (fun hc => absurd (by decide) hc)
        refine ev_iload_n dd_D_chosen_41 rfl ?_
        refine ev_iret dd_D_chosen_42 rfl rfl ?_
        exact ⟨rfl, h7⟩
  · rw [if_neg c2]
    refine ev_iload dd_D_chosen_28 rfl ?_
    refine ev_goto dd_D_chosen_30 ?_
    refine ev_istore_n dd_D_chosen_34 (by decide) ?_
    refine ev_iinc dd_D_chosen_35 rfl (by decide) ?_
    refine ev_loc6 (i0 := 0) (i1 := 1) (i2 := 2) (i3 := 3) (i4 := 4) (i5 := 5) rfl rfl rfl rfl (v4 := .int 1) rfl rfl ?_
    refine ev_goto dd_D_chosen_38 ?_
    refine ev_iload dd_D_chosen_5 rfl ?_
    refine ev_if_lt dd_D_chosen_7 (fun hc => absurd hc (by decide)) (fun _ => ?_)
    refine ev_iload_n dd_D_chosen_10 rfl ?_
    refine ev_iload dd_D_chosen_11 rfl ?_
    refine ev_iadd dd_D_chosen_13 ?_
    rw [show (0 : Int32) + 1 = 1 by decide]
    refine ev_ic (v := 3) dd_D_chosen_14 (by decide +kernel) ?_
    refine ev_irem dd_D_chosen_15 (by decide) ?_
    refine ev_istore dd_D_chosen_16 (by decide) ?_
    refine ev_loc6 (i0 := 0) (i1 := 1) (i2 := 2) (i3 := 3) (i4 := 4) (i5 := 5) rfl rfl rfl rfl rfl (v5 := .int 1) rfl ?_
    refine ev_aload_n dd_D_chosen_18 rfl ?_
    refine ev_iload_n dd_D_chosen_19 rfl ?_
    refine ev_iload dd_D_chosen_20 rfl ?_
    refine ev_callvN2 [_, _] dd_D_chosen_22 ms_D_isOpen iv_D_194 h1.ob h1.tg rfl (Nat.le_of_ble_eq_true rfl) (Nat.le_of_ble_eq_true rfl) (k_D_isOpen (show e < 2 by omega) (show 1 < 3 by omega) h1) (fun w9 h9 => ?_)
    refine ev_if_eq dd_D_chosen_25 (fun c10 => ?_) (fun c10 => ?_)
    · rw [if_pos c10]
      refine ev_iload_n dd_D_chosen_33 rfl ?_
      refine ev_istore_n dd_D_chosen_34 (by decide) ?_
      refine ev_iinc dd_D_chosen_35 rfl (by decide) ?_
      refine ev_loc6 (i0 := 0) (i1 := 1) (i2 := 2) (i3 := 3) (i4 := 4) (i5 := 5) rfl rfl rfl rfl (v4 := .int 0) rfl rfl ?_
      refine ev_goto dd_D_chosen_38 ?_
      refine ev_iload dd_D_chosen_5 rfl ?_
      refine ev_if_lt dd_D_chosen_7 (fun hc => absurd hc (by decide)) (fun _ => ?_)
      refine ev_iload_n dd_D_chosen_10 rfl ?_
      refine ev_iload dd_D_chosen_11 rfl ?_
      refine ev_iadd dd_D_chosen_13 ?_
      rw [show (0 : Int32) + 0 = 0 by decide]
      refine ev_ic (v := 3) dd_D_chosen_14 (by decide +kernel) ?_
      refine ev_irem dd_D_chosen_15 (by decide) ?_
      refine ev_istore dd_D_chosen_16 (by decide) ?_
      refine ev_loc6 (i0 := 0) (i1 := 1) (i2 := 2) (i3 := 3) (i4 := 4) (i5 := 5) rfl rfl rfl rfl rfl (v5 := .int 0) rfl ?_
      refine ev_aload_n dd_D_chosen_18 rfl ?_
      refine ev_iload_n dd_D_chosen_19 rfl ?_
      refine ev_iload dd_D_chosen_20 rfl ?_
      refine ev_callvN2 [_, _] dd_D_chosen_22 ms_D_isOpen iv_D_194 h9.ob h9.tg rfl (Nat.le_of_ble_eq_true rfl) (Nat.le_of_ble_eq_true rfl) (k_D_isOpen (show e < 2 by omega) (show 0 < 3 by omega) h9) (fun w11 h11 => ?_)
      refine ev_if_eq dd_D_chosen_25 (fun c12 => ?_) (fun c12 => ?_)
      · rw [if_pos c12]
        refine ev_iload_n dd_D_chosen_33 rfl ?_
        refine ev_istore_n dd_D_chosen_34 (by decide) ?_
        refine ev_iinc dd_D_chosen_35 rfl (by decide) ?_
        refine ev_loc6 (i0 := 0) (i1 := 1) (i2 := 2) (i3 := 3) (i4 := 4) (i5 := 5) rfl rfl rfl rfl (v4 := .int (-1)) rfl rfl ?_
        refine ev_goto dd_D_chosen_38 ?_
        refine ev_iload dd_D_chosen_5 rfl ?_
        refine ev_if_lt dd_D_chosen_7 (fun _ => ?_) (fun hc => absurd (by decide) hc)
        refine ev_iload_n dd_D_chosen_41 rfl ?_
        refine ev_iret dd_D_chosen_42 rfl rfl ?_
        exact ⟨rfl, h11⟩
      · rw [if_neg c12]
        refine ev_iload dd_D_chosen_28 rfl ?_
        refine ev_goto dd_D_chosen_30 ?_
        refine ev_istore_n dd_D_chosen_34 (by decide) ?_
        refine ev_iinc dd_D_chosen_35 rfl (by decide) ?_
        refine ev_loc6 (i0 := 0) (i1 := 1) (i2 := 2) (i3 := 3) (i4 := 4) (i5 := 5) rfl rfl rfl rfl (v4 := .int (-1)) rfl rfl ?_
        refine ev_goto dd_D_chosen_38 ?_
        refine ev_iload dd_D_chosen_5 rfl ?_
        refine ev_if_lt dd_D_chosen_7 (fun _ => ?_) (fun hc => absurd (by decide) hc)
        refine ev_iload_n dd_D_chosen_41 rfl ?_
        refine ev_iret dd_D_chosen_42 rfl rfl ?_
        exact ⟨rfl, h11⟩
    · rw [if_neg c10]
      refine ev_iload dd_D_chosen_28 rfl ?_
      refine ev_goto dd_D_chosen_30 ?_
      refine ev_istore_n dd_D_chosen_34 (by decide) ?_
      refine ev_iinc dd_D_chosen_35 rfl (by decide) ?_
      refine ev_loc6 (i0 := 0) (i1 := 1) (i2 := 2) (i3 := 3) (i4 := 4) (i5 := 5) rfl rfl rfl rfl (v4 := .int 0) rfl rfl ?_
      refine ev_goto dd_D_chosen_38 ?_
      refine ev_iload dd_D_chosen_5 rfl ?_
      refine ev_if_lt dd_D_chosen_7 (fun hc => absurd hc (by decide)) (fun _ => ?_)
      refine ev_iload_n dd_D_chosen_10 rfl ?_
      refine ev_iload dd_D_chosen_11 rfl ?_
      refine ev_iadd dd_D_chosen_13 ?_
      rw [show (0 : Int32) + 0 = 0 by decide]
      refine ev_ic (v := 3) dd_D_chosen_14 (by decide +kernel) ?_
      refine ev_irem dd_D_chosen_15 (by decide) ?_
      refine ev_istore dd_D_chosen_16 (by decide) ?_
      refine ev_loc6 (i0 := 0) (i1 := 1) (i2 := 2) (i3 := 3) (i4 := 4) (i5 := 5) rfl rfl rfl rfl rfl (v5 := .int 0) rfl ?_
      refine ev_aload_n dd_D_chosen_18 rfl ?_
      refine ev_iload_n dd_D_chosen_19 rfl ?_
      refine ev_iload dd_D_chosen_20 rfl ?_
      refine ev_callvN2 [_, _] dd_D_chosen_22 ms_D_isOpen iv_D_194 h9.ob h9.tg rfl (Nat.le_of_ble_eq_true rfl) (Nat.le_of_ble_eq_true rfl) (k_D_isOpen (show e < 2 by omega) (show 0 < 3 by omega) h9) (fun w13 h13 => ?_)
      refine ev_if_eq dd_D_chosen_25 (fun c14 => ?_) (fun c14 => ?_)
      · rw [if_pos c14]
        refine ev_iload_n dd_D_chosen_33 rfl ?_
        refine ev_istore_n dd_D_chosen_34 (by decide) ?_
        refine ev_iinc dd_D_chosen_35 rfl (by decide) ?_
        refine ev_loc6 (i0 := 0) (i1 := 1) (i2 := 2) (i3 := 3) (i4 := 4) (i5 := 5) rfl rfl rfl rfl (v4 := .int (-1)) rfl rfl ?_
        refine ev_goto dd_D_chosen_38 ?_
        refine ev_iload dd_D_chosen_5 rfl ?_
        refine ev_if_lt dd_D_chosen_7 (fun _ => ?_) (fun hc => absurd (by decide) hc)
        refine ev_iload_n dd_D_chosen_41 rfl ?_
        refine ev_iret dd_D_chosen_42 rfl rfl ?_
        exact ⟨rfl, h13⟩
      · rw [if_neg c14]
        refine ev_iload dd_D_chosen_28 rfl ?_
        refine ev_goto dd_D_chosen_30 ?_
        refine ev_istore_n dd_D_chosen_34 (by decide) ?_
        refine ev_iinc dd_D_chosen_35 rfl (by decide) ?_
        refine ev_loc6 (i0 := 0) (i1 := 1) (i2 := 2) (i3 := 3) (i4 := 4) (i5 := 5) rfl rfl rfl rfl (v4 := .int (-1)) rfl rfl ?_
        refine ev_goto dd_D_chosen_38 ?_
        refine ev_iload dd_D_chosen_5 rfl ?_
        refine ev_if_lt dd_D_chosen_7 (fun _ => ?_) (fun hc => absurd (by decide) hc)
        refine ev_iload_n dd_D_chosen_41 rfl ?_
        refine ev_iret dd_D_chosen_42 rfl rfl ?_
        exact ⟨rfl, h13⟩
def rs_D_chosen1 (D : rf_C) (e : Nat) : Int32 × rf_C := (if ((rs_D_isOpen D e 0).1) = 0 then (if ((rs_D_isOpen ((rs_D_isOpen D e 0).2) e 2).1) = 0 then (if ((rs_D_isOpen ((rs_D_isOpen ((rs_D_isOpen D e 0).2) e 2).2) e 1).1) = 0 then ((-1), (rs_D_isOpen ((rs_D_isOpen ((rs_D_isOpen D e 0).2) e 2).2) e 1).2) else (1, (rs_D_isOpen ((rs_D_isOpen ((rs_D_isOpen D e 0).2) e 2).2) e 1).2)) else (if ((rs_D_isOpen ((rs_D_isOpen ((rs_D_isOpen D e 0).2) e 2).2) e 1).1) = 0 then (2, (rs_D_isOpen ((rs_D_isOpen ((rs_D_isOpen D e 0).2) e 2).2) e 1).2) else (1, (rs_D_isOpen ((rs_D_isOpen ((rs_D_isOpen D e 0).2) e 2).2) e 1).2))) else (if ((rs_D_isOpen ((rs_D_isOpen D e 0).2) e 2).1) = 0 then (if ((rs_D_isOpen ((rs_D_isOpen ((rs_D_isOpen D e 0).2) e 2).2) e 1).1) = 0 then (0, (rs_D_isOpen ((rs_D_isOpen ((rs_D_isOpen D e 0).2) e 2).2) e 1).2) else (1, (rs_D_isOpen ((rs_D_isOpen ((rs_D_isOpen D e 0).2) e 2).2) e 1).2)) else (if ((rs_D_isOpen ((rs_D_isOpen ((rs_D_isOpen D e 0).2) e 2).2) e 1).1) = 0 then (2, (rs_D_isOpen ((rs_D_isOpen ((rs_D_isOpen D e 0).2) e 2).2) e 1).2) else (1, (rs_D_isOpen ((rs_D_isOpen ((rs_D_isOpen D e 0).2) e 2).2) e 1).2))))
theorem k_D_chosen1 {e : Nat} (he : e < 2) (h : rf_K G w D H F Q) : ev_E G mm_D_chosen (d + 1) 0 [(0, .ref (ev_b G + 77)), (1, .int (Int32.ofNat e)), (2, .int 1)] [] w (rf_yi G F Q H (rs_D_chosen1 D e)) := by
  unfold rs_D_chosen1
  refine ev_ic (v := (-1)) dd_D_chosen_0 (by decide +kernel) ?_
  refine ev_istore_n dd_D_chosen_1 (by decide) ?_
  refine ev_ic (v := 2) dd_D_chosen_2 (by decide +kernel) ?_
  refine ev_istore dd_D_chosen_3 (by decide) ?_
  refine ev_iload dd_D_chosen_5 rfl ?_
  refine ev_if_lt dd_D_chosen_7 (fun hc => absurd hc (by decide)) (fun _ => ?_)
  refine ev_iload_n dd_D_chosen_10 rfl ?_
  refine ev_iload dd_D_chosen_11 rfl ?_
  refine ev_iadd dd_D_chosen_13 ?_
  rw [show (1 : Int32) + 2 = 3 by decide]
  refine ev_ic (v := 3) dd_D_chosen_14 (by decide +kernel) ?_
  refine ev_irem dd_D_chosen_15 (by decide) ?_
  refine ev_istore dd_D_chosen_16 (by decide) ?_
  refine ev_loc6 (i0 := 0) (i1 := 1) (i2 := 2) (i3 := 3) (i4 := 4) (i5 := 5) rfl rfl rfl rfl rfl (v5 := .int 0) rfl ?_
  refine ev_aload_n dd_D_chosen_18 rfl ?_
  refine ev_iload_n dd_D_chosen_19 rfl ?_
  refine ev_iload dd_D_chosen_20 rfl ?_
  refine ev_callvN2 [_, _] dd_D_chosen_22 ms_D_isOpen iv_D_194 h.ob h.tg rfl (Nat.le_of_ble_eq_true rfl) (Nat.le_of_ble_eq_true rfl) (k_D_isOpen (show e < 2 by omega) (show 0 < 3 by omega) h) (fun w1 h1 => ?_)
  refine ev_if_eq dd_D_chosen_25 (fun c2 => ?_) (fun c2 => ?_)
  · rw [if_pos c2]
    refine ev_iload_n dd_D_chosen_33 rfl ?_
    refine ev_istore_n dd_D_chosen_34 (by decide) ?_
    refine ev_iinc dd_D_chosen_35 rfl (by decide) ?_
    refine ev_loc6 (i0 := 0) (i1 := 1) (i2 := 2) (i3 := 3) (i4 := 4) (i5 := 5) rfl rfl rfl rfl (v4 := .int 1) rfl rfl ?_
    refine ev_goto dd_D_chosen_38 ?_
    refine ev_iload dd_D_chosen_5 rfl ?_
    refine ev_if_lt dd_D_chosen_7 (fun hc => absurd hc (by decide)) (fun _ => ?_)
    refine ev_iload_n dd_D_chosen_10 rfl ?_
    refine ev_iload dd_D_chosen_11 rfl ?_
    refine ev_iadd dd_D_chosen_13 ?_
    rw [show (1 : Int32) + 1 = 2 by decide]
    refine ev_ic (v := 3) dd_D_chosen_14 (by decide +kernel) ?_
    refine ev_irem dd_D_chosen_15 (by decide) ?_
    refine ev_istore dd_D_chosen_16 (by decide) ?_
    refine ev_loc6 (i0 := 0) (i1 := 1) (i2 := 2) (i3 := 3) (i4 := 4) (i5 := 5) rfl rfl rfl rfl rfl (v5 := .int 2) rfl ?_
    refine ev_aload_n dd_D_chosen_18 rfl ?_
    refine ev_iload_n dd_D_chosen_19 rfl ?_
    refine ev_iload dd_D_chosen_20 rfl ?_
    refine ev_callvN2 [_, _] dd_D_chosen_22 ms_D_isOpen iv_D_194 h1.ob h1.tg rfl (Nat.le_of_ble_eq_true rfl) (Nat.le_of_ble_eq_true rfl) (k_D_isOpen (show e < 2 by omega) (show 2 < 3 by omega) h1) (fun w3 h3 => ?_)
    refine ev_if_eq dd_D_chosen_25 (fun c4 => ?_) (fun c4 => ?_)
    · rw [if_pos c4]
      refine ev_iload_n dd_D_chosen_33 rfl ?_
      refine ev_istore_n dd_D_chosen_34 (by decide) ?_
      refine ev_iinc dd_D_chosen_35 rfl (by decide) ?_
      refine ev_loc6 (i0 := 0) (i1 := 1) (i2 := 2) (i3 := 3) (i4 := 4) (i5 := 5) rfl rfl rfl rfl (v4 := .int 0) rfl rfl ?_
      refine ev_goto dd_D_chosen_38 ?_
      refine ev_iload dd_D_chosen_5 rfl ?_
      refine ev_if_lt dd_D_chosen_7 (fun hc => absurd hc (by decide)) (fun _ => ?_)
      refine ev_iload_n dd_D_chosen_10 rfl ?_
      refine ev_iload dd_D_chosen_11 rfl ?_
      refine ev_iadd dd_D_chosen_13 ?_
      rw [show (1 : Int32) + 0 = 1 by decide]
      refine ev_ic (v := 3) dd_D_chosen_14 (by decide +kernel) ?_
      refine ev_irem dd_D_chosen_15 (by decide) ?_
      refine ev_istore dd_D_chosen_16 (by decide) ?_
      refine ev_loc6 (i0 := 0) (i1 := 1) (i2 := 2) (i3 := 3) (i4 := 4) (i5 := 5) rfl rfl rfl rfl rfl (v5 := .int 1) rfl ?_
      refine ev_aload_n dd_D_chosen_18 rfl ?_
      refine ev_iload_n dd_D_chosen_19 rfl ?_
      refine ev_iload dd_D_chosen_20 rfl ?_
      refine ev_callvN2 [_, _] dd_D_chosen_22 ms_D_isOpen iv_D_194 h3.ob h3.tg rfl (Nat.le_of_ble_eq_true rfl) (Nat.le_of_ble_eq_true rfl) (k_D_isOpen (show e < 2 by omega) (show 1 < 3 by omega) h3) (fun w5 h5 => ?_)
      refine ev_if_eq dd_D_chosen_25 (fun c6 => ?_) (fun c6 => ?_)
      · rw [if_pos c6]
        refine ev_iload_n dd_D_chosen_33 rfl ?_
        refine ev_istore_n dd_D_chosen_34 (by decide) ?_
        refine ev_iinc dd_D_chosen_35 rfl (by decide) ?_
        refine ev_loc6 (i0 := 0) (i1 := 1) (i2 := 2) (i3 := 3) (i4 := 4) (i5 := 5) rfl rfl rfl rfl (v4 := .int (-1)) rfl rfl ?_
        refine ev_goto dd_D_chosen_38 ?_
        refine ev_iload dd_D_chosen_5 rfl ?_
        refine ev_if_lt dd_D_chosen_7 (fun _ => ?_) (fun hc => absurd (by decide) hc)
        refine ev_iload_n dd_D_chosen_41 rfl ?_
        refine ev_iret dd_D_chosen_42 rfl rfl ?_
        exact ⟨rfl, h5⟩
      · rw [if_neg c6]
        refine ev_iload dd_D_chosen_28 rfl ?_
        refine ev_goto dd_D_chosen_30 ?_
        refine ev_istore_n dd_D_chosen_34 (by decide) ?_
        refine ev_iinc dd_D_chosen_35 rfl (by decide) ?_
        refine ev_loc6 (i0 := 0) (i1 := 1) (i2 := 2) (i3 := 3) (i4 := 4) (i5 := 5) rfl rfl rfl rfl (v4 := .int (-1)) rfl rfl ?_
        refine ev_goto dd_D_chosen_38 ?_
        refine ev_iload dd_D_chosen_5 rfl ?_
        refine ev_if_lt dd_D_chosen_7 (fun _ => ?_) (fun hc => absurd (by decide) hc)
        refine ev_iload_n dd_D_chosen_41 rfl ?_
        refine ev_iret dd_D_chosen_42 rfl rfl ?_
        exact ⟨rfl, h5⟩
    · rw [if_neg c4]
      refine ev_iload dd_D_chosen_28 rfl ?_
      refine ev_goto dd_D_chosen_30 ?_
      refine ev_istore_n dd_D_chosen_34 (by decide) ?_
      refine ev_iinc dd_D_chosen_35 rfl (by decide) ?_
      refine ev_loc6 (i0 := 0) (i1 := 1) (i2 := 2) (i3 := 3) (i4 := 4) (i5 := 5) rfl rfl rfl rfl (v4 := .int 0) rfl rfl ?_
      refine ev_goto dd_D_chosen_38 ?_
      refine ev_iload dd_D_chosen_5 rfl ?_
      refine ev_if_lt dd_D_chosen_7 (fun hc => absurd hc (by decide)) (fun _ => ?_)
      refine ev_iload_n dd_D_chosen_10 rfl ?_
      refine ev_iload dd_D_chosen_11 rfl ?_
      refine ev_iadd dd_D_chosen_13 ?_
      rw [show (1 : Int32) + 0 = 1 by decide]
      refine ev_ic (v := 3) dd_D_chosen_14 (by decide +kernel) ?_
      refine ev_irem dd_D_chosen_15 (by decide) ?_
      refine ev_istore dd_D_chosen_16 (by decide) ?_
      refine ev_loc6 (i0 := 0) (i1 := 1) (i2 := 2) (i3 := 3) (i4 := 4) (i5 := 5) rfl rfl rfl rfl rfl (v5 := .int 1) rfl ?_
      refine ev_aload_n dd_D_chosen_18 rfl ?_
      refine ev_iload_n dd_D_chosen_19 rfl ?_
      refine ev_iload dd_D_chosen_20 rfl ?_
      refine ev_callvN2 [_, _] dd_D_chosen_22 ms_D_isOpen iv_D_194 h3.ob h3.tg rfl (Nat.le_of_ble_eq_true rfl) (Nat.le_of_ble_eq_true rfl) (k_D_isOpen (show e < 2 by omega) (show 1 < 3 by omega) h3) (fun w7 h7 => ?_)
      refine ev_if_eq dd_D_chosen_25 (fun c8 => ?_) (fun c8 => ?_)
      · rw [if_pos c8]
        refine ev_iload_n dd_D_chosen_33 rfl ?_
        refine ev_istore_n dd_D_chosen_34 (by decide) ?_
        refine ev_iinc dd_D_chosen_35 rfl (by decide) ?_
        refine ev_loc6 (i0 := 0) (i1 := 1) (i2 := 2) (i3 := 3) (i4 := 4) (i5 := 5) rfl rfl rfl rfl (v4 := .int (-1)) rfl rfl ?_
        refine ev_goto dd_D_chosen_38 ?_
        refine ev_iload dd_D_chosen_5 rfl ?_
        refine ev_if_lt dd_D_chosen_7 (fun _ => ?_) (fun hc => absurd (by decide) hc)
        refine ev_iload_n dd_D_chosen_41 rfl ?_
        refine ev_iret dd_D_chosen_42 rfl rfl ?_
        exact ⟨rfl, h7⟩
      · rw [if_neg c8]
        refine ev_iload dd_D_chosen_28 rfl ?_
        refine ev_goto dd_D_chosen_30 ?_
        refine ev_istore_n dd_D_chosen_34 (by decide) ?_
        refine ev_iinc dd_D_chosen_35 rfl (by decide) ?_
        refine ev_loc6 (i0 := 0) (i1 := 1) (i2 := 2) (i3 := 3) (i4 := 4) (i5 := 5) rfl rfl rfl rfl (v4 := .int (-1)) rfl rfl ?_
        refine ev_goto dd_D_chosen_38 ?_
        refine ev_iload dd_D_chosen_5 rfl ?_
        refine ev_if_lt dd_D_chosen_7 (fun _ => ?_) (fun hc => absurd (by decide) hc)
        refine ev_iload_n dd_D_chosen_41 rfl ?_
        refine ev_iret dd_D_chosen_42 rfl rfl ?_
        exact ⟨rfl, h7⟩
  · rw [if_neg c2]
    refine ev_iload dd_D_chosen_28 rfl ?_
    refine ev_goto dd_D_chosen_30 ?_
    refine ev_istore_n dd_D_chosen_34 (by decide) ?_
    refine ev_iinc dd_D_chosen_35 rfl (by decide) ?_
    refine ev_loc6 (i0 := 0) (i1 := 1) (i2 := 2) (i3 := 3) (i4 := 4) (i5 := 5) rfl rfl rfl rfl (v4 := .int 1) rfl rfl ?_
    refine ev_goto dd_D_chosen_38 ?_
    refine ev_iload dd_D_chosen_5 rfl ?_
    refine ev_if_lt dd_D_chosen_7 (fun hc => absurd hc (by decide)) (fun _ => ?_)
    refine ev_iload_n dd_D_chosen_10 rfl ?_
    refine ev_iload dd_D_chosen_11 rfl ?_
    refine ev_iadd dd_D_chosen_13 ?_
    rw [show (1 : Int32) + 1 = 2 by decide]
    refine ev_ic (v := 3) dd_D_chosen_14 (by decide +kernel) ?_
    refine ev_irem dd_D_chosen_15 (by decide) ?_
    refine ev_istore dd_D_chosen_16 (by decide) ?_
    refine ev_loc6 (i0 := 0) (i1 := 1) (i2 := 2) (i3 := 3) (i4 := 4) (i5 := 5) rfl rfl rfl rfl rfl (v5 := .int 2) rfl ?_
    refine ev_aload_n dd_D_chosen_18 rfl ?_
    refine ev_iload_n dd_D_chosen_19 rfl ?_
    refine ev_iload dd_D_chosen_20 rfl ?_
    refine ev_callvN2 [_, _] dd_D_chosen_22 ms_D_isOpen iv_D_194 h1.ob h1.tg rfl (Nat.le_of_ble_eq_true rfl) (Nat.le_of_ble_eq_true rfl) (k_D_isOpen (show e < 2 by omega) (show 2 < 3 by omega) h1) (fun w9 h9 => ?_)
    refine ev_if_eq dd_D_chosen_25 (fun c10 => ?_) (fun c10 => ?_)
    · rw [if_pos c10]
      refine ev_iload_n dd_D_chosen_33 rfl ?_
      refine ev_istore_n dd_D_chosen_34 (by decide) ?_
      refine ev_iinc dd_D_chosen_35 rfl (by decide) ?_
      refine ev_loc6 (i0 := 0) (i1 := 1) (i2 := 2) (i3 := 3) (i4 := 4) (i5 := 5) rfl rfl rfl rfl (v4 := .int 0) rfl rfl ?_
      refine ev_goto dd_D_chosen_38 ?_
      refine ev_iload dd_D_chosen_5 rfl ?_
      refine ev_if_lt dd_D_chosen_7 (fun hc => absurd hc (by decide)) (fun _ => ?_)
      refine ev_iload_n dd_D_chosen_10 rfl ?_
      refine ev_iload dd_D_chosen_11 rfl ?_
      refine ev_iadd dd_D_chosen_13 ?_
      rw [show (1 : Int32) + 0 = 1 by decide]
      refine ev_ic (v := 3) dd_D_chosen_14 (by decide +kernel) ?_
      refine ev_irem dd_D_chosen_15 (by decide) ?_
      refine ev_istore dd_D_chosen_16 (by decide) ?_
      refine ev_loc6 (i0 := 0) (i1 := 1) (i2 := 2) (i3 := 3) (i4 := 4) (i5 := 5) rfl rfl rfl rfl rfl (v5 := .int 1) rfl ?_
      refine ev_aload_n dd_D_chosen_18 rfl ?_
      refine ev_iload_n dd_D_chosen_19 rfl ?_
      refine ev_iload dd_D_chosen_20 rfl ?_
      refine ev_callvN2 [_, _] dd_D_chosen_22 ms_D_isOpen iv_D_194 h9.ob h9.tg rfl (Nat.le_of_ble_eq_true rfl) (Nat.le_of_ble_eq_true rfl) (k_D_isOpen (show e < 2 by omega) (show 1 < 3 by omega) h9) (fun w11 h11 => ?_)
      refine ev_if_eq dd_D_chosen_25 (fun c12 => ?_) (fun c12 => ?_)
      · rw [if_pos c12]
        refine ev_iload_n dd_D_chosen_33 rfl ?_
        refine ev_istore_n dd_D_chosen_34 (by decide) ?_
        refine ev_iinc dd_D_chosen_35 rfl (by decide) ?_
        refine ev_loc6 (i0 := 0) (i1 := 1) (i2 := 2) (i3 := 3) (i4 := 4) (i5 := 5) rfl rfl rfl rfl (v4 := .int (-1)) rfl rfl ?_
        refine ev_goto dd_D_chosen_38 ?_
        refine ev_iload dd_D_chosen_5 rfl ?_
        refine ev_if_lt dd_D_chosen_7 (fun _ => ?_) (fun hc => absurd (by decide) hc)
        refine ev_iload_n dd_D_chosen_41 rfl ?_
        refine ev_iret dd_D_chosen_42 rfl rfl ?_
        exact ⟨rfl, h11⟩
      · rw [if_neg c12]
        refine ev_iload dd_D_chosen_28 rfl ?_
        refine ev_goto dd_D_chosen_30 ?_
        refine ev_istore_n dd_D_chosen_34 (by decide) ?_
        refine ev_iinc dd_D_chosen_35 rfl (by decide) ?_
        refine ev_loc6 (i0 := 0) (i1 := 1) (i2 := 2) (i3 := 3) (i4 := 4) (i5 := 5) rfl rfl rfl rfl (v4 := .int (-1)) rfl rfl ?_
        refine ev_goto dd_D_chosen_38 ?_
        refine ev_iload dd_D_chosen_5 rfl ?_
        refine ev_if_lt dd_D_chosen_7 (fun _ => ?_) (fun hc => absurd (by decide) hc)
        refine ev_iload_n dd_D_chosen_41 rfl ?_
        refine ev_iret dd_D_chosen_42 rfl rfl ?_
        exact ⟨rfl, h11⟩
    · rw [if_neg c10]
      refine ev_iload dd_D_chosen_28 rfl ?_
      refine ev_goto dd_D_chosen_30 ?_
      refine ev_istore_n dd_D_chosen_34 (by decide) ?_
      refine ev_iinc dd_D_chosen_35 rfl (by decide) ?_
      refine ev_loc6 (i0 := 0) (i1 := 1) (i2 := 2) (i3 := 3) (i4 := 4) (i5 := 5) rfl rfl rfl rfl (v4 := .int 0) rfl rfl ?_
      refine ev_goto dd_D_chosen_38 ?_
      refine ev_iload dd_D_chosen_5 rfl ?_
      refine ev_if_lt dd_D_chosen_7 (fun hc => absurd hc (by decide)) (fun _ => ?_)
      refine ev_iload_n dd_D_chosen_10 rfl ?_
      refine ev_iload dd_D_chosen_11 rfl ?_
      refine ev_iadd dd_D_chosen_13 ?_
      rw [show (1 : Int32) + 0 = 1 by decide]
      refine ev_ic (v := 3) dd_D_chosen_14 (by decide +kernel) ?_
      refine ev_irem dd_D_chosen_15 (by decide) ?_
      refine ev_istore dd_D_chosen_16 (by decide) ?_
      refine ev_loc6 (i0 := 0) (i1 := 1) (i2 := 2) (i3 := 3) (i4 := 4) (i5 := 5) rfl rfl rfl rfl rfl (v5 := .int 1) rfl ?_
      refine ev_aload_n dd_D_chosen_18 rfl ?_
      refine ev_iload_n dd_D_chosen_19 rfl ?_
      refine ev_iload dd_D_chosen_20 rfl ?_
      refine ev_callvN2 [_, _] dd_D_chosen_22 ms_D_isOpen iv_D_194 h9.ob h9.tg rfl (Nat.le_of_ble_eq_true rfl) (Nat.le_of_ble_eq_true rfl) (k_D_isOpen (show e < 2 by omega) (show 1 < 3 by omega) h9) (fun w13 h13 => ?_)
      refine ev_if_eq dd_D_chosen_25 (fun c14 => ?_) (fun c14 => ?_)
      · rw [if_pos c14]
        refine ev_iload_n dd_D_chosen_33 rfl ?_
        refine ev_istore_n dd_D_chosen_34 (by decide) ?_
        refine ev_iinc dd_D_chosen_35 rfl (by decide) ?_
        refine ev_loc6 (i0 := 0) (i1 := 1) (i2 := 2) (i3 := 3) (i4 := 4) (i5 := 5) rfl rfl rfl rfl (v4 := .int (-1)) rfl rfl ?_
        refine ev_goto dd_D_chosen_38 ?_
        refine ev_iload dd_D_chosen_5 rfl ?_
        refine ev_if_lt dd_D_chosen_7 (fun _ => ?_) (fun hc => absurd (by decide) hc)
        refine ev_iload_n dd_D_chosen_41 rfl ?_
        refine ev_iret dd_D_chosen_42 rfl rfl ?_
        exact ⟨rfl, h13⟩
      · rw [if_neg c14]
        refine ev_iload dd_D_chosen_28 rfl ?_
        refine ev_goto dd_D_chosen_30 ?_
        refine ev_istore_n dd_D_chosen_34 (by decide) ?_
        refine ev_iinc dd_D_chosen_35 rfl (by decide) ?_
        refine ev_loc6 (i0 := 0) (i1 := 1) (i2 := 2) (i3 := 3) (i4 := 4) (i5 := 5) rfl rfl rfl rfl (v4 := .int (-1)) rfl rfl ?_
        refine ev_goto dd_D_chosen_38 ?_
        refine ev_iload dd_D_chosen_5 rfl ?_
        refine ev_if_lt dd_D_chosen_7 (fun _ => ?_) (fun hc => absurd (by decide) hc)
        refine ev_iload_n dd_D_chosen_41 rfl ?_
        refine ev_iret dd_D_chosen_42 rfl rfl ?_
        exact ⟨rfl, h13⟩
def rs_D_chosen2 (D : rf_C) (e : Nat) : Int32 × rf_C := (if ((rs_D_isOpen D e 1).1) = 0 then (if ((rs_D_isOpen ((rs_D_isOpen D e 1).2) e 0).1) = 0 then (if ((rs_D_isOpen ((rs_D_isOpen ((rs_D_isOpen D e 1).2) e 0).2) e 2).1) = 0 then ((-1), (rs_D_isOpen ((rs_D_isOpen ((rs_D_isOpen D e 1).2) e 0).2) e 2).2) else (2, (rs_D_isOpen ((rs_D_isOpen ((rs_D_isOpen D e 1).2) e 0).2) e 2).2)) else (if ((rs_D_isOpen ((rs_D_isOpen ((rs_D_isOpen D e 1).2) e 0).2) e 2).1) = 0 then (0, (rs_D_isOpen ((rs_D_isOpen ((rs_D_isOpen D e 1).2) e 0).2) e 2).2) else (2, (rs_D_isOpen ((rs_D_isOpen ((rs_D_isOpen D e 1).2) e 0).2) e 2).2))) else (if ((rs_D_isOpen ((rs_D_isOpen D e 1).2) e 0).1) = 0 then (if ((rs_D_isOpen ((rs_D_isOpen ((rs_D_isOpen D e 1).2) e 0).2) e 2).1) = 0 then (1, (rs_D_isOpen ((rs_D_isOpen ((rs_D_isOpen D e 1).2) e 0).2) e 2).2) else (2, (rs_D_isOpen ((rs_D_isOpen ((rs_D_isOpen D e 1).2) e 0).2) e 2).2)) else (if ((rs_D_isOpen ((rs_D_isOpen ((rs_D_isOpen D e 1).2) e 0).2) e 2).1) = 0 then (0, (rs_D_isOpen ((rs_D_isOpen ((rs_D_isOpen D e 1).2) e 0).2) e 2).2) else (2, (rs_D_isOpen ((rs_D_isOpen ((rs_D_isOpen D e 1).2) e 0).2) e 2).2))))
theorem k_D_chosen2 {e : Nat} (he : e < 2) (h : rf_K G w D H F Q) : ev_E G mm_D_chosen (d + 1) 0 [(0, .ref (ev_b G + 77)), (1, .int (Int32.ofNat e)), (2, .int 2)] [] w (rf_yi G F Q H (rs_D_chosen2 D e)) := by
  unfold rs_D_chosen2
  refine ev_ic (v := (-1)) dd_D_chosen_0 (by decide +kernel) ?_
  refine ev_istore_n dd_D_chosen_1 (by decide) ?_
  refine ev_ic (v := 2) dd_D_chosen_2 (by decide +kernel) ?_
  refine ev_istore dd_D_chosen_3 (by decide) ?_
  refine ev_iload dd_D_chosen_5 rfl ?_
  refine ev_if_lt dd_D_chosen_7 (fun hc => absurd hc (by decide)) (fun _ => ?_)
  refine ev_iload_n dd_D_chosen_10 rfl ?_
  refine ev_iload dd_D_chosen_11 rfl ?_
  refine ev_iadd dd_D_chosen_13 ?_
  rw [show (2 : Int32) + 2 = 4 by decide]
  refine ev_ic (v := 3) dd_D_chosen_14 (by decide +kernel) ?_
  refine ev_irem dd_D_chosen_15 (by decide) ?_
  refine ev_istore dd_D_chosen_16 (by decide) ?_
  refine ev_loc6 (i0 := 0) (i1 := 1) (i2 := 2) (i3 := 3) (i4 := 4) (i5 := 5) rfl rfl rfl rfl rfl (v5 := .int 1) rfl ?_
  refine ev_aload_n dd_D_chosen_18 rfl ?_
  refine ev_iload_n dd_D_chosen_19 rfl ?_
  refine ev_iload dd_D_chosen_20 rfl ?_
  refine ev_callvN2 [_, _] dd_D_chosen_22 ms_D_isOpen iv_D_194 h.ob h.tg rfl (Nat.le_of_ble_eq_true rfl) (Nat.le_of_ble_eq_true rfl) (k_D_isOpen (show e < 2 by omega) (show 1 < 3 by omega) h) (fun w1 h1 => ?_)
  refine ev_if_eq dd_D_chosen_25 (fun c2 => ?_) (fun c2 => ?_)
  · rw [if_pos c2]
    refine ev_iload_n dd_D_chosen_33 rfl ?_
    refine ev_istore_n dd_D_chosen_34 (by decide) ?_
    refine ev_iinc dd_D_chosen_35 rfl (by decide) ?_
    refine ev_loc6 (i0 := 0) (i1 := 1) (i2 := 2) (i3 := 3) (i4 := 4) (i5 := 5) rfl rfl rfl rfl (v4 := .int 1) rfl rfl ?_
    refine ev_goto dd_D_chosen_38 ?_
    refine ev_iload dd_D_chosen_5 rfl ?_
    refine ev_if_lt dd_D_chosen_7 (fun hc => absurd hc (by decide)) (fun _ => ?_)
    refine ev_iload_n dd_D_chosen_10 rfl ?_
    refine ev_iload dd_D_chosen_11 rfl ?_
    refine ev_iadd dd_D_chosen_13 ?_
    rw [show (2 : Int32) + 1 = 3 by decide]
    refine ev_ic (v := 3) dd_D_chosen_14 (by decide +kernel) ?_
    refine ev_irem dd_D_chosen_15 (by decide) ?_
    refine ev_istore dd_D_chosen_16 (by decide) ?_
    refine ev_loc6 (i0 := 0) (i1 := 1) (i2 := 2) (i3 := 3) (i4 := 4) (i5 := 5) rfl rfl rfl rfl rfl (v5 := .int 0) rfl ?_
    refine ev_aload_n dd_D_chosen_18 rfl ?_
    refine ev_iload_n dd_D_chosen_19 rfl ?_
    refine ev_iload dd_D_chosen_20 rfl ?_
    refine ev_callvN2 [_, _] dd_D_chosen_22 ms_D_isOpen iv_D_194 h1.ob h1.tg rfl (Nat.le_of_ble_eq_true rfl) (Nat.le_of_ble_eq_true rfl) (k_D_isOpen (show e < 2 by omega) (show 0 < 3 by omega) h1) (fun w3 h3 => ?_)
    refine ev_if_eq dd_D_chosen_25 (fun c4 => ?_) (fun c4 => ?_)
    · rw [if_pos c4]
      refine ev_iload_n dd_D_chosen_33 rfl ?_
      refine ev_istore_n dd_D_chosen_34 (by decide) ?_
      refine ev_iinc dd_D_chosen_35 rfl (by decide) ?_
      refine ev_loc6 (i0 := 0) (i1 := 1) (i2 := 2) (i3 := 3) (i4 := 4) (i5 := 5) rfl rfl rfl rfl (v4 := .int 0) rfl rfl ?_
      refine ev_goto dd_D_chosen_38 ?_
      refine ev_iload dd_D_chosen_5 rfl ?_
      refine ev_if_lt dd_D_chosen_7 (fun hc => absurd hc (by decide)) (fun _ => ?_)
      refine ev_iload_n dd_D_chosen_10 rfl ?_
      refine ev_iload dd_D_chosen_11 rfl ?_
      refine ev_iadd dd_D_chosen_13 ?_
      rw [show (2 : Int32) + 0 = 2 by decide]
      refine ev_ic (v := 3) dd_D_chosen_14 (by decide +kernel) ?_
      refine ev_irem dd_D_chosen_15 (by decide) ?_
      refine ev_istore dd_D_chosen_16 (by decide) ?_
      refine ev_loc6 (i0 := 0) (i1 := 1) (i2 := 2) (i3 := 3) (i4 := 4) (i5 := 5) rfl rfl rfl rfl rfl (v5 := .int 2) rfl ?_
      refine ev_aload_n dd_D_chosen_18 rfl ?_
      refine ev_iload_n dd_D_chosen_19 rfl ?_
      refine ev_iload dd_D_chosen_20 rfl ?_
      refine ev_callvN2 [_, _] dd_D_chosen_22 ms_D_isOpen iv_D_194 h3.ob h3.tg rfl (Nat.le_of_ble_eq_true rfl) (Nat.le_of_ble_eq_true rfl) (k_D_isOpen (show e < 2 by omega) (show 2 < 3 by omega) h3) (fun w5 h5 => ?_)
      refine ev_if_eq dd_D_chosen_25 (fun c6 => ?_) (fun c6 => ?_)
      · rw [if_pos c6]
        refine ev_iload_n dd_D_chosen_33 rfl ?_
        refine ev_istore_n dd_D_chosen_34 (by decide) ?_
        refine ev_iinc dd_D_chosen_35 rfl (by decide) ?_
        refine ev_loc6 (i0 := 0) (i1 := 1) (i2 := 2) (i3 := 3) (i4 := 4) (i5 := 5) rfl rfl rfl rfl (v4 := .int (-1)) rfl rfl ?_
        refine ev_goto dd_D_chosen_38 ?_
        refine ev_iload dd_D_chosen_5 rfl ?_
        refine ev_if_lt dd_D_chosen_7 (fun _ => ?_) (fun hc => absurd (by decide) hc)
        refine ev_iload_n dd_D_chosen_41 rfl ?_
        refine ev_iret dd_D_chosen_42 rfl rfl ?_
        exact ⟨rfl, h5⟩
      · rw [if_neg c6]
        refine ev_iload dd_D_chosen_28 rfl ?_
        refine ev_goto dd_D_chosen_30 ?_
        refine ev_istore_n dd_D_chosen_34 (by decide) ?_
        refine ev_iinc dd_D_chosen_35 rfl (by decide) ?_
        refine ev_loc6 (i0 := 0) (i1 := 1) (i2 := 2) (i3 := 3) (i4 := 4) (i5 := 5) rfl rfl rfl rfl (v4 := .int (-1)) rfl rfl ?_
        refine ev_goto dd_D_chosen_38 ?_
        refine ev_iload dd_D_chosen_5 rfl ?_
        refine ev_if_lt dd_D_chosen_7 (fun _ => ?_) (fun hc => absurd (by decide) hc)
        refine ev_iload_n dd_D_chosen_41 rfl ?_
        refine ev_iret dd_D_chosen_42 rfl rfl ?_
        exact ⟨rfl, h5⟩
    · rw [if_neg c4]
      refine ev_iload dd_D_chosen_28 rfl ?_
      refine ev_goto dd_D_chosen_30 ?_
      refine ev_istore_n dd_D_chosen_34 (by decide) ?_
      refine ev_iinc dd_D_chosen_35 rfl (by decide) ?_
      refine ev_loc6 (i0 := 0) (i1 := 1) (i2 := 2) (i3 := 3) (i4 := 4) (i5 := 5) rfl rfl rfl rfl (v4 := .int 0) rfl rfl ?_
      refine ev_goto dd_D_chosen_38 ?_
      refine ev_iload dd_D_chosen_5 rfl ?_
      refine ev_if_lt dd_D_chosen_7 (fun hc => absurd hc (by decide)) (fun _ => ?_)
      refine ev_iload_n dd_D_chosen_10 rfl ?_
      refine ev_iload dd_D_chosen_11 rfl ?_
      refine ev_iadd dd_D_chosen_13 ?_
      rw [show (2 : Int32) + 0 = 2 by decide]
      refine ev_ic (v := 3) dd_D_chosen_14 (by decide +kernel) ?_
      refine ev_irem dd_D_chosen_15 (by decide) ?_
      refine ev_istore dd_D_chosen_16 (by decide) ?_
      refine ev_loc6 (i0 := 0) (i1 := 1) (i2 := 2) (i3 := 3) (i4 := 4) (i5 := 5) rfl rfl rfl rfl rfl (v5 := .int 2) rfl ?_
      refine ev_aload_n dd_D_chosen_18 rfl ?_
      refine ev_iload_n dd_D_chosen_19 rfl ?_
      refine ev_iload dd_D_chosen_20 rfl ?_
      refine ev_callvN2 [_, _] dd_D_chosen_22 ms_D_isOpen iv_D_194 h3.ob h3.tg rfl (Nat.le_of_ble_eq_true rfl) (Nat.le_of_ble_eq_true rfl) (k_D_isOpen (show e < 2 by omega) (show 2 < 3 by omega) h3) (fun w7 h7 => ?_)
      refine ev_if_eq dd_D_chosen_25 (fun c8 => ?_) (fun c8 => ?_)
      · rw [if_pos c8]
        refine ev_iload_n dd_D_chosen_33 rfl ?_
        refine ev_istore_n dd_D_chosen_34 (by decide) ?_
        refine ev_iinc dd_D_chosen_35 rfl (by decide) ?_
        refine ev_loc6 (i0 := 0) (i1 := 1) (i2 := 2) (i3 := 3) (i4 := 4) (i5 := 5) rfl rfl rfl rfl (v4 := .int (-1)) rfl rfl ?_
        refine ev_goto dd_D_chosen_38 ?_
        refine ev_iload dd_D_chosen_5 rfl ?_
        refine ev_if_lt dd_D_chosen_7 (fun _ => ?_) (fun hc => absurd (by decide) hc)
        refine ev_iload_n dd_D_chosen_41 rfl ?_
        refine ev_iret dd_D_chosen_42 rfl rfl ?_
        exact ⟨rfl, h7⟩
      · rw [if_neg c8]
        refine ev_iload dd_D_chosen_28 rfl ?_
        refine ev_goto dd_D_chosen_30 ?_
        refine ev_istore_n dd_D_chosen_34 (by decide) ?_
        refine ev_iinc dd_D_chosen_35 rfl (by decide) ?_
        refine ev_loc6 (i0 := 0) (i1 := 1) (i2 := 2) (i3 := 3) (i4 := 4) (i5 := 5) rfl rfl rfl rfl (v4 := .int (-1)) rfl rfl ?_
        refine ev_goto dd_D_chosen_38 ?_
        refine ev_iload dd_D_chosen_5 rfl ?_
        refine ev_if_lt dd_D_chosen_7 (fun _ => ?_) (fun hc => absurd (by decide) hc)
        refine ev_iload_n dd_D_chosen_41 rfl ?_
        refine ev_iret dd_D_chosen_42 rfl rfl ?_
        exact ⟨rfl, h7⟩
  · rw [if_neg c2]
    refine ev_iload dd_D_chosen_28 rfl ?_
    refine ev_goto dd_D_chosen_30 ?_
    refine ev_istore_n dd_D_chosen_34 (by decide) ?_
    refine ev_iinc dd_D_chosen_35 rfl (by decide) ?_
    refine ev_loc6 (i0 := 0) (i1 := 1) (i2 := 2) (i3 := 3) (i4 := 4) (i5 := 5) rfl rfl rfl rfl (v4 := .int 1) rfl rfl ?_
    refine ev_goto dd_D_chosen_38 ?_
    refine ev_iload dd_D_chosen_5 rfl ?_
    refine ev_if_lt dd_D_chosen_7 (fun hc => absurd hc (by decide)) (fun _ => ?_)
    refine ev_iload_n dd_D_chosen_10 rfl ?_
    refine ev_iload dd_D_chosen_11 rfl ?_
    refine ev_iadd dd_D_chosen_13 ?_
    rw [show (2 : Int32) + 1 = 3 by decide]
    refine ev_ic (v := 3) dd_D_chosen_14 (by decide +kernel) ?_
    refine ev_irem dd_D_chosen_15 (by decide) ?_
    refine ev_istore dd_D_chosen_16 (by decide) ?_
    refine ev_loc6 (i0 := 0) (i1 := 1) (i2 := 2) (i3 := 3) (i4 := 4) (i5 := 5) rfl rfl rfl rfl rfl (v5 := .int 0) rfl ?_
    refine ev_aload_n dd_D_chosen_18 rfl ?_
    refine ev_iload_n dd_D_chosen_19 rfl ?_
    refine ev_iload dd_D_chosen_20 rfl ?_
    refine ev_callvN2 [_, _] dd_D_chosen_22 ms_D_isOpen iv_D_194 h1.ob h1.tg rfl (Nat.le_of_ble_eq_true rfl) (Nat.le_of_ble_eq_true rfl) (k_D_isOpen (show e < 2 by omega) (show 0 < 3 by omega) h1) (fun w9 h9 => ?_)
    refine ev_if_eq dd_D_chosen_25 (fun c10 => ?_) (fun c10 => ?_)
    · rw [if_pos c10]
      refine ev_iload_n dd_D_chosen_33 rfl ?_
      refine ev_istore_n dd_D_chosen_34 (by decide) ?_
      refine ev_iinc dd_D_chosen_35 rfl (by decide) ?_
      refine ev_loc6 (i0 := 0) (i1 := 1) (i2 := 2) (i3 := 3) (i4 := 4) (i5 := 5) rfl rfl rfl rfl (v4 := .int 0) rfl rfl ?_
      refine ev_goto dd_D_chosen_38 ?_
      refine ev_iload dd_D_chosen_5 rfl ?_
      refine ev_if_lt dd_D_chosen_7 (fun hc => absurd hc (by decide)) (fun _ => ?_)
      refine ev_iload_n dd_D_chosen_10 rfl ?_
      refine ev_iload dd_D_chosen_11 rfl ?_
      refine ev_iadd dd_D_chosen_13 ?_
      rw [show (2 : Int32) + 0 = 2 by decide]
      refine ev_ic (v := 3) dd_D_chosen_14 (by decide +kernel) ?_
      refine ev_irem dd_D_chosen_15 (by decide) ?_
      refine ev_istore dd_D_chosen_16 (by decide) ?_
      refine ev_loc6 (i0 := 0) (i1 := 1) (i2 := 2) (i3 := 3) (i4 := 4) (i5 := 5) rfl rfl rfl rfl rfl (v5 := .int 2) rfl ?_
      refine ev_aload_n dd_D_chosen_18 rfl ?_
      refine ev_iload_n dd_D_chosen_19 rfl ?_
      refine ev_iload dd_D_chosen_20 rfl ?_
      refine ev_callvN2 [_, _] dd_D_chosen_22 ms_D_isOpen iv_D_194 h9.ob h9.tg rfl (Nat.le_of_ble_eq_true rfl) (Nat.le_of_ble_eq_true rfl) (k_D_isOpen (show e < 2 by omega) (show 2 < 3 by omega) h9) (fun w11 h11 => ?_)
      refine ev_if_eq dd_D_chosen_25 (fun c12 => ?_) (fun c12 => ?_)
      · rw [if_pos c12]
        refine ev_iload_n dd_D_chosen_33 rfl ?_
        refine ev_istore_n dd_D_chosen_34 (by decide) ?_
        refine ev_iinc dd_D_chosen_35 rfl (by decide) ?_
        refine ev_loc6 (i0 := 0) (i1 := 1) (i2 := 2) (i3 := 3) (i4 := 4) (i5 := 5) rfl rfl rfl rfl (v4 := .int (-1)) rfl rfl ?_
        refine ev_goto dd_D_chosen_38 ?_
        refine ev_iload dd_D_chosen_5 rfl ?_
        refine ev_if_lt dd_D_chosen_7 (fun _ => ?_) (fun hc => absurd (by decide) hc)
        refine ev_iload_n dd_D_chosen_41 rfl ?_
        refine ev_iret dd_D_chosen_42 rfl rfl ?_
        exact ⟨rfl, h11⟩
      · rw [if_neg c12]
        refine ev_iload dd_D_chosen_28 rfl ?_
        refine ev_goto dd_D_chosen_30 ?_
        refine ev_istore_n dd_D_chosen_34 (by decide) ?_
        refine ev_iinc dd_D_chosen_35 rfl (by decide) ?_
        refine ev_loc6 (i0 := 0) (i1 := 1) (i2 := 2) (i3 := 3) (i4 := 4) (i5 := 5) rfl rfl rfl rfl (v4 := .int (-1)) rfl rfl ?_
        refine ev_goto dd_D_chosen_38 ?_
        refine ev_iload dd_D_chosen_5 rfl ?_
        refine ev_if_lt dd_D_chosen_7 (fun _ => ?_) (fun hc => absurd (by decide) hc)
        refine ev_iload_n dd_D_chosen_41 rfl ?_
        refine ev_iret dd_D_chosen_42 rfl rfl ?_
        exact ⟨rfl, h11⟩
    · rw [if_neg c10]
      refine ev_iload dd_D_chosen_28 rfl ?_
      refine ev_goto dd_D_chosen_30 ?_
      refine ev_istore_n dd_D_chosen_34 (by decide) ?_
      refine ev_iinc dd_D_chosen_35 rfl (by decide) ?_
      refine ev_loc6 (i0 := 0) (i1 := 1) (i2 := 2) (i3 := 3) (i4 := 4) (i5 := 5) rfl rfl rfl rfl (v4 := .int 0) rfl rfl ?_
      refine ev_goto dd_D_chosen_38 ?_
      refine ev_iload dd_D_chosen_5 rfl ?_
      refine ev_if_lt dd_D_chosen_7 (fun hc => absurd hc (by decide)) (fun _ => ?_)
      refine ev_iload_n dd_D_chosen_10 rfl ?_
      refine ev_iload dd_D_chosen_11 rfl ?_
      refine ev_iadd dd_D_chosen_13 ?_
      rw [show (2 : Int32) + 0 = 2 by decide]
      refine ev_ic (v := 3) dd_D_chosen_14 (by decide +kernel) ?_
      refine ev_irem dd_D_chosen_15 (by decide) ?_
      refine ev_istore dd_D_chosen_16 (by decide) ?_
      refine ev_loc6 (i0 := 0) (i1 := 1) (i2 := 2) (i3 := 3) (i4 := 4) (i5 := 5) rfl rfl rfl rfl rfl (v5 := .int 2) rfl ?_
      refine ev_aload_n dd_D_chosen_18 rfl ?_
      refine ev_iload_n dd_D_chosen_19 rfl ?_
      refine ev_iload dd_D_chosen_20 rfl ?_
      refine ev_callvN2 [_, _] dd_D_chosen_22 ms_D_isOpen iv_D_194 h9.ob h9.tg rfl (Nat.le_of_ble_eq_true rfl) (Nat.le_of_ble_eq_true rfl) (k_D_isOpen (show e < 2 by omega) (show 2 < 3 by omega) h9) (fun w13 h13 => ?_)
      refine ev_if_eq dd_D_chosen_25 (fun c14 => ?_) (fun c14 => ?_)
      · rw [if_pos c14]
        refine ev_iload_n dd_D_chosen_33 rfl ?_
        refine ev_istore_n dd_D_chosen_34 (by decide) ?_
        refine ev_iinc dd_D_chosen_35 rfl (by decide) ?_
        refine ev_loc6 (i0 := 0) (i1 := 1) (i2 := 2) (i3 := 3) (i4 := 4) (i5 := 5) rfl rfl rfl rfl (v4 := .int (-1)) rfl rfl ?_
        refine ev_goto dd_D_chosen_38 ?_
        refine ev_iload dd_D_chosen_5 rfl ?_
        refine ev_if_lt dd_D_chosen_7 (fun _ => ?_) (fun hc => absurd (by decide) hc)
        refine ev_iload_n dd_D_chosen_41 rfl ?_
        refine ev_iret dd_D_chosen_42 rfl rfl ?_
        exact ⟨rfl, h13⟩
      · rw [if_neg c14]
        refine ev_iload dd_D_chosen_28 rfl ?_
        refine ev_goto dd_D_chosen_30 ?_
        refine ev_istore_n dd_D_chosen_34 (by decide) ?_
        refine ev_iinc dd_D_chosen_35 rfl (by decide) ?_
        refine ev_loc6 (i0 := 0) (i1 := 1) (i2 := 2) (i3 := 3) (i4 := 4) (i5 := 5) rfl rfl rfl rfl (v4 := .int (-1)) rfl rfl ?_
        refine ev_goto dd_D_chosen_38 ?_
        refine ev_iload dd_D_chosen_5 rfl ?_
        refine ev_if_lt dd_D_chosen_7 (fun _ => ?_) (fun hc => absurd (by decide) hc)
        refine ev_iload_n dd_D_chosen_41 rfl ?_
        refine ev_iret dd_D_chosen_42 rfl rfl ?_
        exact ⟨rfl, h13⟩
def rs_D_chosen3 (D : rf_C) (e : Nat) : Int32 × rf_C := (if ((rs_D_isOpen D e 2).1) = 0 then (if ((rs_D_isOpen ((rs_D_isOpen D e 2).2) e 1).1) = 0 then (if ((rs_D_isOpen ((rs_D_isOpen ((rs_D_isOpen D e 2).2) e 1).2) e 0).1) = 0 then ((-1), (rs_D_isOpen ((rs_D_isOpen ((rs_D_isOpen D e 2).2) e 1).2) e 0).2) else (0, (rs_D_isOpen ((rs_D_isOpen ((rs_D_isOpen D e 2).2) e 1).2) e 0).2)) else (if ((rs_D_isOpen ((rs_D_isOpen ((rs_D_isOpen D e 2).2) e 1).2) e 0).1) = 0 then (1, (rs_D_isOpen ((rs_D_isOpen ((rs_D_isOpen D e 2).2) e 1).2) e 0).2) else (0, (rs_D_isOpen ((rs_D_isOpen ((rs_D_isOpen D e 2).2) e 1).2) e 0).2))) else (if ((rs_D_isOpen ((rs_D_isOpen D e 2).2) e 1).1) = 0 then (if ((rs_D_isOpen ((rs_D_isOpen ((rs_D_isOpen D e 2).2) e 1).2) e 0).1) = 0 then (2, (rs_D_isOpen ((rs_D_isOpen ((rs_D_isOpen D e 2).2) e 1).2) e 0).2) else (0, (rs_D_isOpen ((rs_D_isOpen ((rs_D_isOpen D e 2).2) e 1).2) e 0).2)) else (if ((rs_D_isOpen ((rs_D_isOpen ((rs_D_isOpen D e 2).2) e 1).2) e 0).1) = 0 then (1, (rs_D_isOpen ((rs_D_isOpen ((rs_D_isOpen D e 2).2) e 1).2) e 0).2) else (0, (rs_D_isOpen ((rs_D_isOpen ((rs_D_isOpen D e 2).2) e 1).2) e 0).2))))
theorem k_D_chosen3 {e : Nat} (he : e < 2) (h : rf_K G w D H F Q) : ev_E G mm_D_chosen (d + 1) 0 [(0, .ref (ev_b G + 77)), (1, .int (Int32.ofNat e)), (2, .int 3)] [] w (rf_yi G F Q H (rs_D_chosen3 D e)) := by
  unfold rs_D_chosen3
  refine ev_ic (v := (-1)) dd_D_chosen_0 (by decide +kernel) ?_
  refine ev_istore_n dd_D_chosen_1 (by decide) ?_
  refine ev_ic (v := 2) dd_D_chosen_2 (by decide +kernel) ?_
  refine ev_istore dd_D_chosen_3 (by decide) ?_
  refine ev_iload dd_D_chosen_5 rfl ?_
  refine ev_if_lt dd_D_chosen_7 (fun hc => absurd hc (by decide)) (fun _ => ?_)
  refine ev_iload_n dd_D_chosen_10 rfl ?_
  refine ev_iload dd_D_chosen_11 rfl ?_
  refine ev_iadd dd_D_chosen_13 ?_
  rw [show (3 : Int32) + 2 = 5 by decide]
  refine ev_ic (v := 3) dd_D_chosen_14 (by decide +kernel) ?_
  refine ev_irem dd_D_chosen_15 (by decide) ?_
  refine ev_istore dd_D_chosen_16 (by decide) ?_
  refine ev_loc6 (i0 := 0) (i1 := 1) (i2 := 2) (i3 := 3) (i4 := 4) (i5 := 5) rfl rfl rfl rfl rfl (v5 := .int 2) rfl ?_
  refine ev_aload_n dd_D_chosen_18 rfl ?_
  refine ev_iload_n dd_D_chosen_19 rfl ?_
  refine ev_iload dd_D_chosen_20 rfl ?_
  refine ev_callvN2 [_, _] dd_D_chosen_22 ms_D_isOpen iv_D_194 h.ob h.tg rfl (Nat.le_of_ble_eq_true rfl) (Nat.le_of_ble_eq_true rfl) (k_D_isOpen (show e < 2 by omega) (show 2 < 3 by omega) h) (fun w1 h1 => ?_)
  refine ev_if_eq dd_D_chosen_25 (fun c2 => ?_) (fun c2 => ?_)
  · rw [if_pos c2]
    refine ev_iload_n dd_D_chosen_33 rfl ?_
    refine ev_istore_n dd_D_chosen_34 (by decide) ?_
    refine ev_iinc dd_D_chosen_35 rfl (by decide) ?_
    refine ev_loc6 (i0 := 0) (i1 := 1) (i2 := 2) (i3 := 3) (i4 := 4) (i5 := 5) rfl rfl rfl rfl (v4 := .int 1) rfl rfl ?_
    refine ev_goto dd_D_chosen_38 ?_
    refine ev_iload dd_D_chosen_5 rfl ?_
    refine ev_if_lt dd_D_chosen_7 (fun hc => absurd hc (by decide)) (fun _ => ?_)
    refine ev_iload_n dd_D_chosen_10 rfl ?_
    refine ev_iload dd_D_chosen_11 rfl ?_
    refine ev_iadd dd_D_chosen_13 ?_
    rw [show (3 : Int32) + 1 = 4 by decide]
    refine ev_ic (v := 3) dd_D_chosen_14 (by decide +kernel) ?_
    refine ev_irem dd_D_chosen_15 (by decide) ?_
    refine ev_istore dd_D_chosen_16 (by decide) ?_
    refine ev_loc6 (i0 := 0) (i1 := 1) (i2 := 2) (i3 := 3) (i4 := 4) (i5 := 5) rfl rfl rfl rfl rfl (v5 := .int 1) rfl ?_
    refine ev_aload_n dd_D_chosen_18 rfl ?_
    refine ev_iload_n dd_D_chosen_19 rfl ?_
    refine ev_iload dd_D_chosen_20 rfl ?_
    refine ev_callvN2 [_, _] dd_D_chosen_22 ms_D_isOpen iv_D_194 h1.ob h1.tg rfl (Nat.le_of_ble_eq_true rfl) (Nat.le_of_ble_eq_true rfl) (k_D_isOpen (show e < 2 by omega) (show 1 < 3 by omega) h1) (fun w3 h3 => ?_)
    refine ev_if_eq dd_D_chosen_25 (fun c4 => ?_) (fun c4 => ?_)
    · rw [if_pos c4]
      refine ev_iload_n dd_D_chosen_33 rfl ?_
      refine ev_istore_n dd_D_chosen_34 (by decide) ?_
      refine ev_iinc dd_D_chosen_35 rfl (by decide) ?_
      refine ev_loc6 (i0 := 0) (i1 := 1) (i2 := 2) (i3 := 3) (i4 := 4) (i5 := 5) rfl rfl rfl rfl (v4 := .int 0) rfl rfl ?_
      refine ev_goto dd_D_chosen_38 ?_
      refine ev_iload dd_D_chosen_5 rfl ?_
      refine ev_if_lt dd_D_chosen_7 (fun hc => absurd hc (by decide)) (fun _ => ?_)
      refine ev_iload_n dd_D_chosen_10 rfl ?_
      refine ev_iload dd_D_chosen_11 rfl ?_
      refine ev_iadd dd_D_chosen_13 ?_
      rw [show (3 : Int32) + 0 = 3 by decide]
      refine ev_ic (v := 3) dd_D_chosen_14 (by decide +kernel) ?_
      refine ev_irem dd_D_chosen_15 (by decide) ?_
      refine ev_istore dd_D_chosen_16 (by decide) ?_
      refine ev_loc6 (i0 := 0) (i1 := 1) (i2 := 2) (i3 := 3) (i4 := 4) (i5 := 5) rfl rfl rfl rfl rfl (v5 := .int 0) rfl ?_
      refine ev_aload_n dd_D_chosen_18 rfl ?_
      refine ev_iload_n dd_D_chosen_19 rfl ?_
      refine ev_iload dd_D_chosen_20 rfl ?_
      refine ev_callvN2 [_, _] dd_D_chosen_22 ms_D_isOpen iv_D_194 h3.ob h3.tg rfl (Nat.le_of_ble_eq_true rfl) (Nat.le_of_ble_eq_true rfl) (k_D_isOpen (show e < 2 by omega) (show 0 < 3 by omega) h3) (fun w5 h5 => ?_)
      refine ev_if_eq dd_D_chosen_25 (fun c6 => ?_) (fun c6 => ?_)
      · rw [if_pos c6]
        refine ev_iload_n dd_D_chosen_33 rfl ?_
        refine ev_istore_n dd_D_chosen_34 (by decide) ?_
        refine ev_iinc dd_D_chosen_35 rfl (by decide) ?_
        refine ev_loc6 (i0 := 0) (i1 := 1) (i2 := 2) (i3 := 3) (i4 := 4) (i5 := 5) rfl rfl rfl rfl (v4 := .int (-1)) rfl rfl ?_
        refine ev_goto dd_D_chosen_38 ?_
        refine ev_iload dd_D_chosen_5 rfl ?_
        refine ev_if_lt dd_D_chosen_7 (fun _ => ?_) (fun hc => absurd (by decide) hc)
        refine ev_iload_n dd_D_chosen_41 rfl ?_
        refine ev_iret dd_D_chosen_42 rfl rfl ?_
        exact ⟨rfl, h5⟩
      · rw [if_neg c6]
        refine ev_iload dd_D_chosen_28 rfl ?_
        refine ev_goto dd_D_chosen_30 ?_
        refine ev_istore_n dd_D_chosen_34 (by decide) ?_
        refine ev_iinc dd_D_chosen_35 rfl (by decide) ?_
        refine ev_loc6 (i0 := 0) (i1 := 1) (i2 := 2) (i3 := 3) (i4 := 4) (i5 := 5) rfl rfl rfl rfl (v4 := .int (-1)) rfl rfl ?_
        refine ev_goto dd_D_chosen_38 ?_
        refine ev_iload dd_D_chosen_5 rfl ?_
        refine ev_if_lt dd_D_chosen_7 (fun _ => ?_) (fun hc => absurd (by decide) hc)
        refine ev_iload_n dd_D_chosen_41 rfl ?_
        refine ev_iret dd_D_chosen_42 rfl rfl ?_
        exact ⟨rfl, h5⟩
    · rw [if_neg c4]
      refine ev_iload dd_D_chosen_28 rfl ?_
      refine ev_goto dd_D_chosen_30 ?_
      refine ev_istore_n dd_D_chosen_34 (by decide) ?_
      refine ev_iinc dd_D_chosen_35 rfl (by decide) ?_
      refine ev_loc6 (i0 := 0) (i1 := 1) (i2 := 2) (i3 := 3) (i4 := 4) (i5 := 5) rfl rfl rfl rfl (v4 := .int 0) rfl rfl ?_
      refine ev_goto dd_D_chosen_38 ?_
      refine ev_iload dd_D_chosen_5 rfl ?_
      refine ev_if_lt dd_D_chosen_7 (fun hc => absurd hc (by decide)) (fun _ => ?_)
      refine ev_iload_n dd_D_chosen_10 rfl ?_
      refine ev_iload dd_D_chosen_11 rfl ?_
      refine ev_iadd dd_D_chosen_13 ?_
      rw [show (3 : Int32) + 0 = 3 by decide]
      refine ev_ic (v := 3) dd_D_chosen_14 (by decide +kernel) ?_
      refine ev_irem dd_D_chosen_15 (by decide) ?_
      refine ev_istore dd_D_chosen_16 (by decide) ?_
      refine ev_loc6 (i0 := 0) (i1 := 1) (i2 := 2) (i3 := 3) (i4 := 4) (i5 := 5) rfl rfl rfl rfl rfl (v5 := .int 0) rfl ?_
      refine ev_aload_n dd_D_chosen_18 rfl ?_
      refine ev_iload_n dd_D_chosen_19 rfl ?_
      refine ev_iload dd_D_chosen_20 rfl ?_
      refine ev_callvN2 [_, _] dd_D_chosen_22 ms_D_isOpen iv_D_194 h3.ob h3.tg rfl (Nat.le_of_ble_eq_true rfl) (Nat.le_of_ble_eq_true rfl) (k_D_isOpen (show e < 2 by omega) (show 0 < 3 by omega) h3) (fun w7 h7 => ?_)
      refine ev_if_eq dd_D_chosen_25 (fun c8 => ?_) (fun c8 => ?_)
      · rw [if_pos c8]
        refine ev_iload_n dd_D_chosen_33 rfl ?_
        refine ev_istore_n dd_D_chosen_34 (by decide) ?_
        refine ev_iinc dd_D_chosen_35 rfl (by decide) ?_
        refine ev_loc6 (i0 := 0) (i1 := 1) (i2 := 2) (i3 := 3) (i4 := 4) (i5 := 5) rfl rfl rfl rfl (v4 := .int (-1)) rfl rfl ?_
        refine ev_goto dd_D_chosen_38 ?_
        refine ev_iload dd_D_chosen_5 rfl ?_
        refine ev_if_lt dd_D_chosen_7 (fun _ => ?_) (fun hc => absurd (by decide) hc)
        refine ev_iload_n dd_D_chosen_41 rfl ?_
        refine ev_iret dd_D_chosen_42 rfl rfl ?_
        exact ⟨rfl, h7⟩
      · rw [if_neg c8]
        refine ev_iload dd_D_chosen_28 rfl ?_
        refine ev_goto dd_D_chosen_30 ?_
        refine ev_istore_n dd_D_chosen_34 (by decide) ?_
        refine ev_iinc dd_D_chosen_35 rfl (by decide) ?_
        refine ev_loc6 (i0 := 0) (i1 := 1) (i2 := 2) (i3 := 3) (i4 := 4) (i5 := 5) rfl rfl rfl rfl (v4 := .int (-1)) rfl rfl ?_
        refine ev_goto dd_D_chosen_38 ?_
        refine ev_iload dd_D_chosen_5 rfl ?_
        refine ev_if_lt dd_D_chosen_7 (fun _ => ?_) (fun hc => absurd (by decide) hc)
        refine ev_iload_n dd_D_chosen_41 rfl ?_
        refine ev_iret dd_D_chosen_42 rfl rfl ?_
        exact ⟨rfl, h7⟩
  · rw [if_neg c2]
    refine ev_iload dd_D_chosen_28 rfl ?_
    refine ev_goto dd_D_chosen_30 ?_
    refine ev_istore_n dd_D_chosen_34 (by decide) ?_
    refine ev_iinc dd_D_chosen_35 rfl (by decide) ?_
    refine ev_loc6 (i0 := 0) (i1 := 1) (i2 := 2) (i3 := 3) (i4 := 4) (i5 := 5) rfl rfl rfl rfl (v4 := .int 1) rfl rfl ?_
    refine ev_goto dd_D_chosen_38 ?_
    refine ev_iload dd_D_chosen_5 rfl ?_
    refine ev_if_lt dd_D_chosen_7 (fun hc => absurd hc (by decide)) (fun _ => ?_)
    refine ev_iload_n dd_D_chosen_10 rfl ?_
    refine ev_iload dd_D_chosen_11 rfl ?_
    refine ev_iadd dd_D_chosen_13 ?_
    rw [show (3 : Int32) + 1 = 4 by decide]
    refine ev_ic (v := 3) dd_D_chosen_14 (by decide +kernel) ?_
    refine ev_irem dd_D_chosen_15 (by decide) ?_
    refine ev_istore dd_D_chosen_16 (by decide) ?_
    refine ev_loc6 (i0 := 0) (i1 := 1) (i2 := 2) (i3 := 3) (i4 := 4) (i5 := 5) rfl rfl rfl rfl rfl (v5 := .int 1) rfl ?_
    refine ev_aload_n dd_D_chosen_18 rfl ?_
    refine ev_iload_n dd_D_chosen_19 rfl ?_
    refine ev_iload dd_D_chosen_20 rfl ?_
    refine ev_callvN2 [_, _] dd_D_chosen_22 ms_D_isOpen iv_D_194 h1.ob h1.tg rfl (Nat.le_of_ble_eq_true rfl) (Nat.le_of_ble_eq_true rfl) (k_D_isOpen (show e < 2 by omega) (show 1 < 3 by omega) h1) (fun w9 h9 => ?_)
    refine ev_if_eq dd_D_chosen_25 (fun c10 => ?_) (fun c10 => ?_)
    · rw [if_pos c10]
      refine ev_iload_n dd_D_chosen_33 rfl ?_
      refine ev_istore_n dd_D_chosen_34 (by decide) ?_
      refine ev_iinc dd_D_chosen_35 rfl (by decide) ?_
      refine ev_loc6 (i0 := 0) (i1 := 1) (i2 := 2) (i3 := 3) (i4 := 4) (i5 := 5) rfl rfl rfl rfl (v4 := .int 0) rfl rfl ?_
      refine ev_goto dd_D_chosen_38 ?_
      refine ev_iload dd_D_chosen_5 rfl ?_
      refine ev_if_lt dd_D_chosen_7 (fun hc => absurd hc (by decide)) (fun _ => ?_)
      refine ev_iload_n dd_D_chosen_10 rfl ?_
      refine ev_iload dd_D_chosen_11 rfl ?_
      refine ev_iadd dd_D_chosen_13 ?_
      rw [show (3 : Int32) + 0 = 3 by decide]
      refine ev_ic (v := 3) dd_D_chosen_14 (by decide +kernel) ?_
      refine ev_irem dd_D_chosen_15 (by decide) ?_
      refine ev_istore dd_D_chosen_16 (by decide) ?_
      refine ev_loc6 (i0 := 0) (i1 := 1) (i2 := 2) (i3 := 3) (i4 := 4) (i5 := 5) rfl rfl rfl rfl rfl (v5 := .int 0) rfl ?_
      refine ev_aload_n dd_D_chosen_18 rfl ?_
      refine ev_iload_n dd_D_chosen_19 rfl ?_
      refine ev_iload dd_D_chosen_20 rfl ?_
      refine ev_callvN2 [_, _] dd_D_chosen_22 ms_D_isOpen iv_D_194 h9.ob h9.tg rfl (Nat.le_of_ble_eq_true rfl) (Nat.le_of_ble_eq_true rfl) (k_D_isOpen (show e < 2 by omega) (show 0 < 3 by omega) h9) (fun w11 h11 => ?_)
      refine ev_if_eq dd_D_chosen_25 (fun c12 => ?_) (fun c12 => ?_)
      · rw [if_pos c12]
        refine ev_iload_n dd_D_chosen_33 rfl ?_
        refine ev_istore_n dd_D_chosen_34 (by decide) ?_
        refine ev_iinc dd_D_chosen_35 rfl (by decide) ?_
        refine ev_loc6 (i0 := 0) (i1 := 1) (i2 := 2) (i3 := 3) (i4 := 4) (i5 := 5) rfl rfl rfl rfl (v4 := .int (-1)) rfl rfl ?_
        refine ev_goto dd_D_chosen_38 ?_
        refine ev_iload dd_D_chosen_5 rfl ?_
        refine ev_if_lt dd_D_chosen_7 (fun _ => ?_) (fun hc => absurd (by decide) hc)
        refine ev_iload_n dd_D_chosen_41 rfl ?_
        refine ev_iret dd_D_chosen_42 rfl rfl ?_
        exact ⟨rfl, h11⟩
      · rw [if_neg c12]
        refine ev_iload dd_D_chosen_28 rfl ?_
        refine ev_goto dd_D_chosen_30 ?_
        refine ev_istore_n dd_D_chosen_34 (by decide) ?_
        refine ev_iinc dd_D_chosen_35 rfl (by decide) ?_
        refine ev_loc6 (i0 := 0) (i1 := 1) (i2 := 2) (i3 := 3) (i4 := 4) (i5 := 5) rfl rfl rfl rfl (v4 := .int (-1)) rfl rfl ?_
        refine ev_goto dd_D_chosen_38 ?_
        refine ev_iload dd_D_chosen_5 rfl ?_
        refine ev_if_lt dd_D_chosen_7 (fun _ => ?_) (fun hc => absurd (by decide) hc)
        refine ev_iload_n dd_D_chosen_41 rfl ?_
        refine ev_iret dd_D_chosen_42 rfl rfl ?_
        exact ⟨rfl, h11⟩
    · rw [if_neg c10]
      refine ev_iload dd_D_chosen_28 rfl ?_
      refine ev_goto dd_D_chosen_30 ?_
      refine ev_istore_n dd_D_chosen_34 (by decide) ?_
      refine ev_iinc dd_D_chosen_35 rfl (by decide) ?_
      refine ev_loc6 (i0 := 0) (i1 := 1) (i2 := 2) (i3 := 3) (i4 := 4) (i5 := 5) rfl rfl rfl rfl (v4 := .int 0) rfl rfl ?_
      refine ev_goto dd_D_chosen_38 ?_
      refine ev_iload dd_D_chosen_5 rfl ?_
      refine ev_if_lt dd_D_chosen_7 (fun hc => absurd hc (by decide)) (fun _ => ?_)
      refine ev_iload_n dd_D_chosen_10 rfl ?_
      refine ev_iload dd_D_chosen_11 rfl ?_
      refine ev_iadd dd_D_chosen_13 ?_
      rw [show (3 : Int32) + 0 = 3 by decide]
      refine ev_ic (v := 3) dd_D_chosen_14 (by decide +kernel) ?_
      refine ev_irem dd_D_chosen_15 (by decide) ?_
      refine ev_istore dd_D_chosen_16 (by decide) ?_
      refine ev_loc6 (i0 := 0) (i1 := 1) (i2 := 2) (i3 := 3) (i4 := 4) (i5 := 5) rfl rfl rfl rfl rfl (v5 := .int 0) rfl ?_
      refine ev_aload_n dd_D_chosen_18 rfl ?_
      refine ev_iload_n dd_D_chosen_19 rfl ?_
      refine ev_iload dd_D_chosen_20 rfl ?_
      refine ev_callvN2 [_, _] dd_D_chosen_22 ms_D_isOpen iv_D_194 h9.ob h9.tg rfl (Nat.le_of_ble_eq_true rfl) (Nat.le_of_ble_eq_true rfl) (k_D_isOpen (show e < 2 by omega) (show 0 < 3 by omega) h9) (fun w13 h13 => ?_)
      refine ev_if_eq dd_D_chosen_25 (fun c14 => ?_) (fun c14 => ?_)
      · rw [if_pos c14]
        refine ev_iload_n dd_D_chosen_33 rfl ?_
        refine ev_istore_n dd_D_chosen_34 (by decide) ?_
        refine ev_iinc dd_D_chosen_35 rfl (by decide) ?_
        refine ev_loc6 (i0 := 0) (i1 := 1) (i2 := 2) (i3 := 3) (i4 := 4) (i5 := 5) rfl rfl rfl rfl (v4 := .int (-1)) rfl rfl ?_
        refine ev_goto dd_D_chosen_38 ?_
        refine ev_iload dd_D_chosen_5 rfl ?_
        refine ev_if_lt dd_D_chosen_7 (fun _ => ?_) (fun hc => absurd (by decide) hc)
        refine ev_iload_n dd_D_chosen_41 rfl ?_
        refine ev_iret dd_D_chosen_42 rfl rfl ?_
        exact ⟨rfl, h13⟩
      · rw [if_neg c14]
        refine ev_iload dd_D_chosen_28 rfl ?_
        refine ev_goto dd_D_chosen_30 ?_
        refine ev_istore_n dd_D_chosen_34 (by decide) ?_
        refine ev_iinc dd_D_chosen_35 rfl (by decide) ?_
        refine ev_loc6 (i0 := 0) (i1 := 1) (i2 := 2) (i3 := 3) (i4 := 4) (i5 := 5) rfl rfl rfl rfl (v4 := .int (-1)) rfl rfl ?_
        refine ev_goto dd_D_chosen_38 ?_
        refine ev_iload dd_D_chosen_5 rfl ?_
        refine ev_if_lt dd_D_chosen_7 (fun _ => ?_) (fun hc => absurd (by decide) hc)
        refine ev_iload_n dd_D_chosen_41 rfl ?_
        refine ev_iret dd_D_chosen_42 rfl rfl ?_
        exact ⟨rfl, h13⟩
def rs_D_carry (D : rf_C) (s : Nat) (μ : rf_m) (y : Int32) : rf_C := (rf_sI (rf_sI (rf_sI (rf_sI (rf_sI (rf_sI D 32 s 5) 34 s y) 38 s (rf_mk μ 1)) 39 s (rf_mk μ 2)) 40 s (rf_mk μ 3)) 41 s (rf_mk μ 4))
theorem k_D_carry {s : Nat} {x : Nat} {μ : rf_m} (hs : s < 6) (hm : Q x μ) (y : Int32) (h : rf_K G w D H F Q) : ev_E G mm_D_carry d 0 (lv_args 0 [.ref (ev_b G + 77), .int (Int32.ofNat s), .int (Int32.ofNat x), .int y]) [] w (rf_yv G F Q H (rs_D_carry D s μ y)) := by
  unfold rs_D_carry
  refine ev_aload_n dd_D_carry_0 rfl ?_
  refine R_gA (k := 32) dd_D_carry_1 fr_D_102 h rfl ?_
  refine ev_iload_n dd_D_carry_4 rfl ?_
  refine ev_ic (v := 5) dd_D_carry_5 (by decide +kernel) ?_
  refine R_st (k := 32) (j := s) dd_D_carry_6 h rfl (show s < 6 by omega) (fun w1 h1 => ?_)
  refine ev_aload_n dd_D_carry_7 rfl ?_
  refine R_gA (k := 34) dd_D_carry_8 fr_D_108 h1 rfl ?_
  refine ev_iload_n dd_D_carry_11 rfl ?_
  refine ev_iload_n dd_D_carry_12 rfl ?_
  refine R_st (k := 34) (j := s) dd_D_carry_13 h1 rfl (show s < 6 by omega) (fun w2 h2 => ?_)
  refine ev_aload_n dd_D_carry_14 rfl ?_
  refine R_gA (k := 38) dd_D_carry_15 fr_D_120 h2 rfl ?_
  refine ev_iload_n dd_D_carry_18 rfl ?_
  refine ev_aload_n dd_D_carry_19 rfl ?_
  refine R_gA (k := 1) dd_D_carry_20 fr_D_7 h2 rfl ?_
  refine ev_iload_n dd_D_carry_23 rfl ?_
  refine R_mg (k := 1) dd_D_carry_24 h2 hm (by decide) (by decide) ?_
  refine R_st (k := 38) (j := s) dd_D_carry_25 h2 rfl (show s < 6 by omega) (fun w3 h3 => ?_)
  refine ev_aload_n dd_D_carry_26 rfl ?_
  refine R_gA (k := 39) dd_D_carry_27 fr_D_123 h3 rfl ?_
  refine ev_iload_n dd_D_carry_30 rfl ?_
  refine ev_aload_n dd_D_carry_31 rfl ?_
  refine R_gA (k := 2) dd_D_carry_32 fr_D_13 h3 rfl ?_
  refine ev_iload_n dd_D_carry_35 rfl ?_
  refine R_mg (k := 2) dd_D_carry_36 h3 hm (by decide) (by decide) ?_
  refine R_st (k := 39) (j := s) dd_D_carry_37 h3 rfl (show s < 6 by omega) (fun w4 h4 => ?_)
  refine ev_aload_n dd_D_carry_38 rfl ?_
  refine R_gA (k := 40) dd_D_carry_39 fr_D_126 h4 rfl ?_
  refine ev_iload_n dd_D_carry_42 rfl ?_
  refine ev_aload_n dd_D_carry_43 rfl ?_
  refine R_gA (k := 3) dd_D_carry_44 fr_D_16 h4 rfl ?_
  refine ev_iload_n dd_D_carry_47 rfl ?_
  refine R_mg (k := 3) dd_D_carry_48 h4 hm (by decide) (by decide) ?_
  refine R_st (k := 40) (j := s) dd_D_carry_49 h4 rfl (show s < 6 by omega) (fun w5 h5 => ?_)
  refine ev_aload_n dd_D_carry_50 rfl ?_
  refine R_gA (k := 41) dd_D_carry_51 fr_D_129 h5 rfl ?_
  refine ev_iload_n dd_D_carry_54 rfl ?_
  refine ev_aload_n dd_D_carry_55 rfl ?_
  refine R_gA (k := 4) dd_D_carry_56 fr_D_19 h5 rfl ?_
  refine ev_iload_n dd_D_carry_59 rfl ?_
  refine R_mg (k := 4) dd_D_carry_60 h5 hm (by decide) (by decide) ?_
  refine R_st (k := 41) (j := s) dd_D_carry_61 h5 rfl (show s < 6 by omega) (fun w6 h6 => ?_)
  refine ev_vret dd_D_carry_62 rfl ?_
  exact ⟨rfl, h6⟩
end RfT
