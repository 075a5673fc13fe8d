/-! calls by what they mean; the side's methods without loops, walked by program -/
def cr_yv (G : ev_gx) (q0 n : Nat) (F : ev_wd) (Q : Nat → cr_m → Prop) (c : cr_C) : ev_r → ev_wd → Prop := fun t w' => t = .inl none ∧ cr_K G q0 w' c n F Q
def cr_yi (G : ev_gx) (q0 n : Nat) (F : ev_wd) (Q : Nat → cr_m → Prop) (c : Int32 × cr_C) : ev_r → ev_wd → Prop := fun t w' => t = .inl (some (.int c.1)) ∧ cr_K G q0 w' c.2 n F Q
def cr_ym (G : ev_gx) (q0 n : Nat) (F : ev_wd) (Q : Nat → cr_m → Prop) (c : Option cr_m × cr_C) : ev_r → ev_wd → Prop := fun t w' => ∃ u, t = .inl (some (va_rf u)) ∧ cr_un G w' u c.1 ∧ cr_K G q0 w' c.2 n F Q
theorem sw_1_4 {x : Int32} (h1 : ¬ x = 1) (h2 : ¬ x = 2) (h3 : ¬ x = 3) (h4 : ¬ x = 4) : x.toInt < 1 ∨ 4 < x.toInt := by
  by_cases a : x.toInt < 1
  · exact Or.inl a
  · by_cases b : 4 < x.toInt
    · exact Or.inr b
    · exfalso
      have c : x.toInt = 1 ∨ x.toInt = 2 ∨ x.toInt = 3 ∨ x.toInt = 4 := by omega
      rcases c with c | c | c | c
      · exact h1 (Int32.toInt_inj.mp (c.trans (by decide)))
      · exact h2 (Int32.toInt_inj.mp (c.trans (by decide)))
      · exact h3 (Int32.toInt_inj.mp (c.trans (by decide)))
      · exact h4 (Int32.toInt_inj.mp (c.trans (by decide)))
def cr_e (zs : List cr_m) : Int32 := if zs = [] then 1 else 0
section CrS
variable {G : ev_gx} {M : ev_mx} {d pc pc' tgt : Nat} {L : List (Nat × Value)} {st : List Value} {w w1 : ev_wd} {P : ev_r → ev_wd → Prop} {q0 mi n n' : Nat} {C : cr_C} {F : ev_wd} {Q : Nat → cr_m → Prop}
theorem ev_callsI {index k : Nat} {M' : ev_mx} (As : List Value) {v : Value} (hd : ev_d M.2.1 pc (.invokestatic index) 3 pc') (hm : ev_ms M' k) (hi : ev_Is M.1.cls index M') (hn : As.length = k) (hst : (st.map fun v => v.category).sum + M'.2.2.1 ≤ 28) (hlen : (lg_sl As).length ≤ M'.2.2.1)
    (hc : ev_E G M' d 0 (lv_args 0 As) [] w (ev_ret (some v) w1)) (kk : ev_E G M (d + 1) pc' L (v :: st) w1 P) : ev_E G M (d + 1) pc L (As.reverse ++ st) w P := ev_callsR As hd hm hi hn hst hlen hc kk
theorem ev_callvI {index c b k : Nat} {M' : ev_mx} (As : List Value) {v : Value} (hd : ev_d M.2.1 pc (.invokevirtual index) 3 pc') (hm : ev_ms M' k) (hi : ev_Iv M.1.cls index c M') (hb : ev_b G ≤ b ∧ b < ev_z w) (ht : ev_g w b = c) (hn : As.length = k) (hst : (st.map fun v => v.category).sum + M'.2.2.1 ≤ 28) (hlen : (lg_sl (.ref b :: As)).length ≤ M'.2.2.1)
    (hc : ev_E G M' d 0 (lv_args 0 (.ref b :: As)) [] w (ev_ret (some v) w1)) (kk : ev_E G M (d + 1) pc' L (v :: st) w1 P) : ev_E G M (d + 1) pc L (As.reverse ++ .ref b :: st) w P := ev_callvR As hd hm hi hb ht hn hst hlen hc kk
theorem ev_callvV {index c b k : Nat} {M' : ev_mx} {C' : cr_C} (As : List Value) (hd : ev_d M.2.1 pc (.invokevirtual index) 3 pc') (hm : ev_ms M' k) (hi : ev_Iv M.1.cls index c M') (hb : ev_b G ≤ b ∧ b < ev_z w) (ht : ev_g w b = c) (hn : As.length = k) (hst : (st.map fun v => v.category).sum + M'.2.2.1 ≤ 28) (hlen : (lg_sl (.ref b :: As)).length ≤ M'.2.2.1)
    (hc : ev_E G M' d 0 (lv_args 0 (.ref b :: As)) [] w (cr_yv G q0 n' F Q C')) (kk : ∀ w1, cr_K G q0 w1 C' n' F Q → ev_E G M (d + 1) pc' L st w1 P) : ev_E G M (d + 1) pc L (As.reverse ++ .ref b :: st) w P :=
  ev_callv As hd hm hi hb ht hn hst hlen hc (fun v' w' h _ _ => by obtain ⟨h1, h2⟩ := h; cases h1; exact kk _ h2) (fun x w' h _ _ => by obtain ⟨h1, -⟩ := h; cases h1)
theorem ev_callvN {index c b k : Nat} {M' : ev_mx} {C' : Int32 × cr_C} (As : List Value) (hd : ev_d M.2.1 pc (.invokevirtual index) 3 pc') (hm : ev_ms M' k) (hi : ev_Iv M.1.cls index c M') (hb : ev_b G ≤ b ∧ b < ev_z w) (ht : ev_g w b = c) (hn : As.length = k) (hst : (st.map fun v => v.category).sum + M'.2.2.1 ≤ 28) (hlen : (lg_sl (.ref b :: As)).length ≤ M'.2.2.1)
    (hc : ev_E G M' d 0 (lv_args 0 (.ref b :: As)) [] w (cr_yi G q0 n' F Q C')) (kk : ∀ w1, cr_K G q0 w1 C'.2 n' F Q → ev_E G M (d + 1) pc' L (.int C'.1 :: st) w1 P) : ev_E G M (d + 1) pc L (As.reverse ++ .ref b :: st) w P :=
  ev_callv As hd hm hi hb ht hn hst hlen hc (fun v' w' h _ _ => by obtain ⟨h1, h2⟩ := h; cases h1; exact kk _ h2) (fun x w' h _ _ => by obtain ⟨h1, -⟩ := h; cases h1)
theorem ev_callsV {index k : Nat} {M' : ev_mx} {C' : cr_C} (As : List Value) (hd : ev_d M.2.1 pc (.invokestatic index) 3 pc') (hm : ev_ms M' k) (hi : ev_Is M.1.cls index M') (hn : As.length = k) (hst : (st.map fun v => v.category).sum + M'.2.2.1 ≤ 28) (hlen : (lg_sl As).length ≤ M'.2.2.1)
    (hc : ev_E G M' d 0 (lv_args 0 As) [] w (cr_yv G q0 n' F Q C')) (kk : ∀ w1, cr_K G q0 w1 C' n' F Q → ev_E G M (d + 1) pc' L st w1 P) : ev_E G M (d + 1) pc L (As.reverse ++ st) w P :=
  ev_calls As hd hm hi hn hst hlen hc (fun v' w' h _ _ => by obtain ⟨h1, h2⟩ := h; cases h1; exact kk _ h2) (fun x w' h _ _ => by obtain ⟨h1, -⟩ := h; cases h1)
theorem ev_callsN {index k : Nat} {M' : ev_mx} {C' : Int32 × cr_C} (As : List Value) (hd : ev_d M.2.1 pc (.invokestatic index) 3 pc') (hm : ev_ms M' k) (hi : ev_Is M.1.cls index M') (hn : As.length = k) (hst : (st.map fun v => v.category).sum + M'.2.2.1 ≤ 28) (hlen : (lg_sl As).length ≤ M'.2.2.1)
    (hc : ev_E G M' d 0 (lv_args 0 As) [] w (cr_yi G q0 n' F Q C')) (kk : ∀ w1, cr_K G q0 w1 C'.2 n' F Q → ev_E G M (d + 1) pc' L (.int C'.1 :: st) w1 P) : ev_E G M (d + 1) pc L (As.reverse ++ st) w P :=
  ev_calls As hd hm hi hn hst hlen hc (fun v' w' h _ _ => by obtain ⟨h1, h2⟩ := h; cases h1; exact kk _ h2) (fun x w' h _ _ => by obtain ⟨h1, -⟩ := h; cases h1)
theorem K_isE (h : cr_K G q0 w C n F Q) {r : Nat} (hr : r < 22) : ev_E G mm_AL_isEmpty d 0 (lv_args 0 [.ref (ev_b G + cr_o 11 r)]) [] w (ev_ret (some (.int (cr_e (C.2.1 r)))) w) := K_isEmpty h hr
def cs_S_comeTo (C : cr_C) (s : Nat) (x : Int32) : cr_C := (cr_sI (cr_sI C 1 s 0 x) 1 s 1 0)
theorem k_S_comeTo {s : Nat} (hq : q0 < ev_b G) (hs : s < 6) (x : Int32) (h : cr_K G q0 w C n F Q) : ev_E G mm_S_comeTo d 0 (lv_args 0 [.ref (ev_b G + cr_o 1 s), .int x]) [] w (cr_yv G q0 n F Q (cs_S_comeTo C s x)) := by
  unfold cs_S_comeTo
  refine ev_aload_n dd_S_comeTo_0 rfl ?_
  refine ev_iload_n dd_S_comeTo_1 rfl ?_
  refine K_pI (κ := 1) dd_S_comeTo_2 fk_S_9 h hq (show s < 6 by omega) rfl rfl rfl (fun w1 h1 => ?_)
  refine ev_aload_n dd_S_comeTo_5 rfl ?_
  refine ev_ic (v := 0) dd_S_comeTo_6 (by decide +kernel) ?_
  refine K_pI (κ := 1) dd_S_comeTo_7 fk_S_15 h1 hq (show s < 6 by omega) rfl rfl rfl (fun w2 h2 => ?_)
  refine ev_vret dd_S_comeTo_10 rfl ?_
  exact ⟨rfl, h2⟩
def cs_S_countGood (C : cr_C) (s : Nat) : cr_C := (if ((cr_sI C 1 s 11 ((C.1 1 s 11) + 1)).1 1 s 11) < 8 then (cr_sI C 1 s 11 ((C.1 1 s 11) + 1)) else (if ((cr_sI (cr_sI C 1 s 11 ((C.1 1 s 11) + 1)) 1 s 11 0).1 1 s 10) ≤ 0 then (cr_sI (cr_sI C 1 s 11 ((C.1 1 s 11) + 1)) 1 s 11 0) else (cr_sI (cr_sI (cr_sI C 1 s 11 ((C.1 1 s 11) + 1)) 1 s 11 0) 1 s 10 (((cr_sI (cr_sI C 1 s 11 ((C.1 1 s 11) + 1)) 1 s 11 0).1 1 s 10) - 1))))
theorem k_S_countGood {s : Nat} (hq : q0 < ev_b G) (hs : s < 6) (h : cr_K G q0 w C n F Q) : ev_E G mm_S_countGood d 0 (lv_args 0 [.ref (ev_b G + cr_o 1 s)]) [] w (cr_yv G q0 n F Q (cs_S_countGood C s)) := by
  unfold cs_S_countGood
  refine ev_aload_n dd_S_countGood_0 rfl ?_
  refine ev_dup dd_S_countGood_1 rfl ?_
  refine K_gI (κ := 1) dd_S_countGood_2 fr_S_45 h (show s < 6 by omega) rfl ?_
  refine ev_ic (v := 1) dd_S_countGood_5 (by decide +kernel) ?_
  refine ev_iadd dd_S_countGood_6 ?_
  refine K_pI (κ := 1) dd_S_countGood_7 fk_S_45 h hq (show s < 6 by omega) rfl rfl rfl (fun w1 h1 => ?_)
  refine ev_aload_n dd_S_countGood_10 rfl ?_
  refine K_gI (κ := 1) dd_S_countGood_11 fr_S_45 h1 (show s < 6 by omega) rfl ?_
  refine ev_bp (v := 8) dd_S_countGood_14 (by decide +kernel) ?_
  refine ev_icmp_lt dd_S_countGood_16 (fun c2 => ?_) (fun c2 => ?_)
  · rw [if_pos c2]
    refine ev_vret dd_S_countGood_41 rfl ?_
    exact ⟨rfl, h1⟩
  · rw [if_neg c2]
    refine ev_aload_n dd_S_countGood_19 rfl ?_
    refine ev_ic (v := 0) dd_S_countGood_20 (by decide +kernel) ?_
    refine K_pI (κ := 1) dd_S_countGood_21 fk_S_45 h1 hq (show s < 6 by omega) rfl rfl rfl (fun w3 h3 => ?_)
    refine ev_aload_n dd_S_countGood_24 rfl ?_
    refine K_gI (κ := 1) dd_S_countGood_25 fr_S_42 h3 (show s < 6 by omega) rfl ?_
    refine ev_if_le dd_S_countGood_28 (fun c4 => ?_) (fun c4 => ?_)
    · rw [if_pos c4]
      refine ev_vret dd_S_countGood_41 rfl ?_
      exact ⟨rfl, h3⟩
    · rw [if_neg c4]
      refine ev_aload_n dd_S_countGood_31 rfl ?_
      refine ev_dup dd_S_countGood_32 rfl ?_
      refine K_gI (κ := 1) dd_S_countGood_33 fr_S_42 h3 (show s < 6 by omega) rfl ?_
      refine ev_ic (v := 1) dd_S_countGood_36 (by decide +kernel) ?_
      refine ev_isub dd_S_countGood_37 ?_
      refine K_pI (κ := 1) dd_S_countGood_38 fk_S_42 h3 hq (show s < 6 by omega) rfl rfl rfl (fun w5 h5 => ?_)
      refine ev_vret dd_S_countGood_41 rfl ?_
      exact ⟨rfl, h5⟩
def cs_S_failsByDamage (C : cr_C) (s : Nat) : Int32 × cr_C := (if (C.1 1 s 0) = 4 then (if ((cr_sI C 1 s 10 ((C.1 1 s 10) + 1)).1 1 s 10) < 4 then (0, cr_sI C 1 s 10 ((C.1 1 s 10) + 1)) else (1, cr_sI C 1 s 10 ((C.1 1 s 10) + 1))) else (if (C.1 1 s 0) = 2 then (if 2 ≤ ((cr_sI C 1 s 8 ((C.1 1 s 8) + 1)).1 1 s 8) then (if ((cr_sI (cr_sI (cr_sI (cr_sI C 1 s 8 ((C.1 1 s 8) + 1)) 1 s 1 0) 1 s 8 0) 1 s 9 (((cr_sI (cr_sI (cr_sI C 1 s 8 ((C.1 1 s 8) + 1)) 1 s 1 0) 1 s 8 0).1 1 s 9) + 1)).1 1 s 9) < 3 then (0, cr_sI (cr_sI (cr_sI (cr_sI C 1 s 8 ((C.1 1 s 8) + 1)) 1 s 1 0) 1 s 8 0) 1 s 9 (((cr_sI (cr_sI (cr_sI C 1 s 8 ((C.1 1 s 8) + 1)) 1 s 1 0) 1 s 8 0).1 1 s 9) + 1)) else (1, cr_sI (cr_sI (cr_sI (cr_sI C 1 s 8 ((C.1 1 s 8) + 1)) 1 s 1 0) 1 s 8 0) 1 s 9 (((cr_sI (cr_sI (cr_sI C 1 s 8 ((C.1 1 s 8) + 1)) 1 s 1 0) 1 s 8 0).1 1 s 9) + 1))) else (0, cr_sI C 1 s 8 ((C.1 1 s 8) + 1))) else (0, C)))
theorem k_S_failsByDamage {s : Nat} (hq : q0 < ev_b G) (hs : s < 6) (h : cr_K G q0 w C n F Q) : ev_E G mm_S_failsByDamage d 0 (lv_args 0 [.ref (ev_b G + cr_o 1 s)]) [] w (cr_yi G q0 n F Q (cs_S_failsByDamage C s)) := by
  unfold cs_S_failsByDamage
  refine ev_aload_n dd_S_failsByDamage_0 rfl ?_
  refine K_gI (κ := 1) dd_S_failsByDamage_1 fr_S_9 h (show s < 6 by omega) rfl ?_
  refine ev_ic (v := 4) dd_S_failsByDamage_4 (by decide +kernel) ?_
  refine ev_icmp_ne dd_S_failsByDamage_5 (fun c1 => ?_) (fun c1 => ?_)
  · rw [if_neg c1]
    refine ev_aload_n dd_S_failsByDamage_32 rfl ?_
    refine K_gI (κ := 1) dd_S_failsByDamage_33 fr_S_9 h (show s < 6 by omega) rfl ?_
    refine ev_ic (v := 2) dd_S_failsByDamage_36 (by decide +kernel) ?_
    refine ev_icmp_eq dd_S_failsByDamage_37 (fun c2 => ?_) (fun c2 => ?_)
    · rw [if_pos c2]
      refine ev_aload_n dd_S_failsByDamage_42 rfl ?_
      refine ev_dup dd_S_failsByDamage_43 rfl ?_
      refine K_gI (κ := 1) dd_S_failsByDamage_44 fr_S_36 h (show s < 6 by omega) rfl ?_
      refine ev_ic (v := 1) dd_S_failsByDamage_47 (by decide +kernel) ?_
      refine ev_iadd dd_S_failsByDamage_48 ?_
      refine K_pI (κ := 1) dd_S_failsByDamage_49 fk_S_36 h hq (show s < 6 by omega) rfl rfl rfl (fun w3 h3 => ?_)
      refine ev_aload_n dd_S_failsByDamage_52 rfl ?_
      refine K_gI (κ := 1) dd_S_failsByDamage_53 fr_S_36 h3 (show s < 6 by omega) rfl ?_
      refine ev_ic (v := 2) dd_S_failsByDamage_56 (by decide +kernel) ?_
      refine ev_icmp_ge dd_S_failsByDamage_57 (fun c4 => ?_) (fun c4 => ?_)
      · rw [if_pos c4]
        refine ev_aload_n dd_S_failsByDamage_62 rfl ?_
        refine ev_ic (v := 0) dd_S_failsByDamage_63 (by decide +kernel) ?_
        refine K_pI (κ := 1) dd_S_failsByDamage_64 fk_S_15 h3 hq (show s < 6 by omega) rfl rfl rfl (fun w5 h5 => ?_)
        refine ev_aload_n dd_S_failsByDamage_67 rfl ?_
        refine ev_ic (v := 0) dd_S_failsByDamage_68 (by decide +kernel) ?_
        refine K_pI (κ := 1) dd_S_failsByDamage_69 fk_S_36 h5 hq (show s < 6 by omega) rfl rfl rfl (fun w6 h6 => ?_)
        refine ev_aload_n dd_S_failsByDamage_72 rfl ?_
        refine ev_dup dd_S_failsByDamage_73 rfl ?_
        refine K_gI (κ := 1) dd_S_failsByDamage_74 fr_S_39 h6 (show s < 6 by omega) rfl ?_
        refine ev_ic (v := 1) dd_S_failsByDamage_77 (by decide +kernel) ?_
        refine ev_iadd dd_S_failsByDamage_78 ?_
        refine K_pI (κ := 1) dd_S_failsByDamage_79 fk_S_39 h6 hq (show s < 6 by omega) rfl rfl rfl (fun w7 h7 => ?_)
        refine ev_aload_n dd_S_failsByDamage_82 rfl ?_
        refine K_gI (κ := 1) dd_S_failsByDamage_83 fr_S_39 h7 (show s < 6 by omega) rfl ?_
        refine ev_ic (v := 3) dd_S_failsByDamage_86 (by decide +kernel) ?_
        refine ev_icmp_lt dd_S_failsByDamage_87 (fun c8 => ?_) (fun c8 => ?_)
        · rw [if_pos c8]
          refine ev_ic (v := 0) dd_S_failsByDamage_94 (by decide +kernel) ?_
          refine ev_iret dd_S_failsByDamage_95 rfl rfl ?_
          exact ⟨rfl, h7⟩
        · rw [if_neg c8]
          refine ev_ic (v := 1) dd_S_failsByDamage_90 (by decide +kernel) ?_
          refine ev_goto dd_S_failsByDamage_91 ?_
          refine ev_iret dd_S_failsByDamage_95 rfl rfl ?_
          exact ⟨rfl, h7⟩
      · rw [if_neg c4]
        refine ev_ic (v := 0) dd_S_failsByDamage_60 (by decide +kernel) ?_
        refine ev_iret dd_S_failsByDamage_61 rfl rfl ?_
        exact ⟨rfl, h3⟩
    · rw [if_neg c2]
      refine ev_ic (v := 0) dd_S_failsByDamage_40 (by decide +kernel) ?_
      refine ev_iret dd_S_failsByDamage_41 rfl rfl ?_
      exact ⟨rfl, h⟩
  · rw [if_pos c1]
    refine ev_aload_n dd_S_failsByDamage_8 rfl ?_
    refine ev_dup dd_S_failsByDamage_9 rfl ?_
    refine K_gI (κ := 1) dd_S_failsByDamage_10 fr_S_42 h (show s < 6 by omega) rfl ?_
    refine ev_ic (v := 1) dd_S_failsByDamage_13 (by decide +kernel) ?_
    refine ev_iadd dd_S_failsByDamage_14 ?_
    refine K_pI (κ := 1) dd_S_failsByDamage_15 fk_S_42 h hq (show s < 6 by omega) rfl rfl rfl (fun w9 h9 => ?_)
    refine ev_aload_n dd_S_failsByDamage_18 rfl ?_
    refine K_gI (κ := 1) dd_S_failsByDamage_19 fr_S_42 h9 (show s < 6 by omega) rfl ?_
    refine ev_ic (v := 4) dd_S_failsByDamage_22 (by decide +kernel) ?_
    refine ev_icmp_lt dd_S_failsByDamage_23 (fun c10 => ?_) (fun c10 => ?_)
    · rw [if_pos c10]
      refine ev_ic (v := 0) dd_S_failsByDamage_30 (by decide +kernel) ?_
      refine ev_iret dd_S_failsByDamage_31 rfl rfl ?_
      exact ⟨rfl, h9⟩
    · rw [if_neg c10]
      refine ev_ic (v := 1) dd_S_failsByDamage_26 (by decide +kernel) ?_
      refine ev_goto dd_S_failsByDamage_27 ?_
      refine ev_iret dd_S_failsByDamage_31 rfl rfl ?_
      exact ⟨rfl, h9⟩
def cs_S_clearRows (C : cr_C) (s : Nat) : cr_C := (cr_sI (cr_sX (cr_sX C s []) (6 + s) []) 1 s 15 0)
theorem k_S_clearRows {s : Nat} (hq : q0 < ev_b G) (hs : s < 6) (h : cr_K G q0 w C n F Q) : ev_E G mm_S_clearRows (d + 1) 0 (lv_args 0 [.ref (ev_b G + cr_o 1 s)]) [] w (cr_yv G q0 n F Q (cs_S_clearRows C s)) := by
  unfold cs_S_clearRows
  refine ev_aload_n dd_S_clearRows_0 rfl ?_
  refine K_gP (κ := 1) (q := cr_o 11 s) dd_S_clearRows_1 fr_S_64 h (show s < 6 by omega) rfl ?_
  refine ev_callvV [] dd_S_clearRows_4 ms_AL_clear iv_S_92 (h.al (κ := 11) (show s < 22 by omega)) (h.tg (κ := 11) (show s < 22 by omega)) rfl (Nat.le_of_ble_eq_true rfl) (Nat.le_of_ble_eq_true rfl) (K_clear hq h (show s < 22 by omega)) (fun w1 h1 => ?_)
  refine ev_aload_n dd_S_clearRows_7 rfl ?_
  refine K_gP (κ := 1) (q := cr_o 11 (6 + s)) dd_S_clearRows_8 fr_S_68 h1 (show s < 6 by omega) rfl ?_
  refine ev_callvV [] dd_S_clearRows_11 ms_AL_clear iv_S_92 (h1.al (κ := 11) (show 6 + s < 22 by omega)) (h1.tg (κ := 11) (show 6 + s < 22 by omega)) rfl (Nat.le_of_ble_eq_true rfl) (Nat.le_of_ble_eq_true rfl) (K_clear hq h1 (show 6 + s < 22 by omega)) (fun w2 h2 => ?_)
  refine ev_aload_n dd_S_clearRows_14 rfl ?_
  refine ev_ic (v := 0) dd_S_clearRows_15 (by decide +kernel) ?_
  refine K_pI (κ := 1) dd_S_clearRows_16 fk_S_58 h2 hq (show s < 6 by omega) rfl rfl rfl (fun w3 h3 => ?_)
  refine ev_vret dd_S_clearRows_19 rfl ?_
  exact ⟨rfl, h3⟩
def cs_S_begin (C : cr_C) (s : Nat) : cr_C := (cs_S_clearRows (cr_sI (cr_sI (cr_sI (cr_sI (cr_sI (cr_sI (cr_sI (cr_sI (cr_sI (cr_sI (cr_sI (cr_sI (cs_S_comeTo C s 1) 1 s 2 (((cs_S_comeTo C s 1).1 1 s 2) + 1)) 1 s 14 0) 1 s 4 7) 1 s 5 7) 1 s 6 1) 1 s 7 1) 1 s 8 0) 1 s 9 0) 1 s 10 0) 1 s 11 0) 1 s 12 0) 1 s 13 0) s)
theorem k_S_begin {s : Nat} (hq : q0 < ev_b G) (hs : s < 6) (h : cr_K G q0 w C n F Q) : ev_E G mm_S_begin (d + 2) 0 (lv_args 0 [.ref (ev_b G + cr_o 1 s)]) [] w (cr_yv G q0 n F Q (cs_S_begin C s)) := by
  unfold cs_S_begin
  refine ev_aload_n dd_S_begin_0 rfl ?_
  refine ev_ic (v := 1) dd_S_begin_1 (by decide +kernel) ?_
  refine ev_callvV [_] dd_S_begin_2 ms_S_comeTo iv_S_85 (h.al (κ := 1) (show s < 6 by omega)) (h.tg (κ := 1) (show s < 6 by omega)) rfl (Nat.le_of_ble_eq_true rfl) (Nat.le_of_ble_eq_true rfl) (k_S_comeTo hq (show s < 6 by omega) 1 h) (fun w1 h1 => ?_)
  refine ev_aload_n dd_S_begin_5 rfl ?_
  refine ev_dup dd_S_begin_6 rfl ?_
  refine K_gI (κ := 1) dd_S_begin_7 fr_S_18 h1 (show s < 6 by omega) rfl ?_
  refine ev_ic (v := 1) dd_S_begin_10 (by decide +kernel) ?_
  refine ev_iadd dd_S_begin_11 ?_
  refine K_pI (κ := 1) dd_S_begin_12 fk_S_18 h1 hq (show s < 6 by omega) rfl rfl rfl (fun w2 h2 => ?_)
  refine ev_aload_n dd_S_begin_15 rfl ?_
  refine ev_ic (v := 0) dd_S_begin_16 (by decide +kernel) ?_
  refine K_pI (κ := 1) dd_S_begin_17 fk_S_54 h2 hq (show s < 6 by omega) rfl rfl rfl (fun w3 h3 => ?_)
  refine ev_aload_n dd_S_begin_20 rfl ?_
  refine ev_bp (v := 7) dd_S_begin_21 (by decide +kernel) ?_
  refine K_pI (κ := 1) dd_S_begin_23 fk_S_24 h3 hq (show s < 6 by omega) rfl rfl rfl (fun w4 h4 => ?_)
  refine ev_aload_n dd_S_begin_26 rfl ?_
  refine ev_bp (v := 7) dd_S_begin_27 (by decide +kernel) ?_
  refine K_pI (κ := 1) dd_S_begin_29 fk_S_27 h4 hq (show s < 6 by omega) rfl rfl rfl (fun w5 h5 => ?_)
  refine ev_aload_n dd_S_begin_32 rfl ?_
  refine ev_ic (v := 1) dd_S_begin_33 (by decide +kernel) ?_
  refine K_pI (κ := 1) dd_S_begin_34 fk_S_30 h5 hq (show s < 6 by omega) rfl rfl rfl (fun w6 h6 => ?_)
  refine ev_aload_n dd_S_begin_37 rfl ?_
  refine ev_ic (v := 1) dd_S_begin_38 (by decide +kernel) ?_
  refine K_pI (κ := 1) dd_S_begin_39 fk_S_33 h6 hq (show s < 6 by omega) rfl rfl rfl (fun w7 h7 => ?_)
  refine ev_aload_n dd_S_begin_42 rfl ?_
  refine ev_ic (v := 0) dd_S_begin_43 (by decide +kernel) ?_
  refine K_pI (κ := 1) dd_S_begin_44 fk_S_36 h7 hq (show s < 6 by omega) rfl rfl rfl (fun w8 h8 => ?_)
  refine ev_aload_n dd_S_begin_47 rfl ?_
  refine ev_ic (v := 0) dd_S_begin_48 (by decide +kernel) ?_
  refine K_pI (κ := 1) dd_S_begin_49 fk_S_39 h8 hq (show s < 6 by omega) rfl rfl rfl (fun w9 h9 => ?_)
  refine ev_aload_n dd_S_begin_52 rfl ?_
  refine ev_ic (v := 0) dd_S_begin_53 (by decide +kernel) ?_
  refine K_pI (κ := 1) dd_S_begin_54 fk_S_42 h9 hq (show s < 6 by omega) rfl rfl rfl (fun w10 h10 => ?_)
  refine ev_aload_n dd_S_begin_57 rfl ?_
  refine ev_ic (v := 0) dd_S_begin_58 (by decide +kernel) ?_
  refine K_pI (κ := 1) dd_S_begin_59 fk_S_45 h10 hq (show s < 6 by omega) rfl rfl rfl (fun w11 h11 => ?_)
  refine ev_aload_n dd_S_begin_62 rfl ?_
  refine ev_ic (v := 0) dd_S_begin_63 (by decide +kernel) ?_
  refine K_pI (κ := 1) dd_S_begin_64 fk_S_48 h11 hq (show s < 6 by omega) rfl rfl rfl (fun w12 h12 => ?_)
  refine ev_aload_n dd_S_begin_67 rfl ?_
  refine ev_ic (v := 0) dd_S_begin_68 (by decide +kernel) ?_
  refine K_pI (κ := 1) dd_S_begin_69 fk_S_51 h12 hq (show s < 6 by omega) rfl rfl rfl (fun w13 h13 => ?_)
  refine ev_aload_n dd_S_begin_72 rfl ?_
  refine ev_callvV [] dd_S_begin_73 ms_S_clearRows iv_S_89 (h13.al (κ := 1) (show s < 6 by omega)) (h13.tg (κ := 1) (show s < 6 by omega)) rfl (Nat.le_of_ble_eq_true rfl) (Nat.le_of_ble_eq_true rfl) (k_S_clearRows hq (show s < 6 by omega) h13) (fun w14 h14 => ?_)
  refine ev_vret dd_S_begin_76 rfl ?_
  exact ⟨rfl, h14⟩
def cs_S_followBackBit (C : cr_C) (s : Nat) (x : Int32) : cr_C := (if x = (C.1 1 s 6) then C else (cr_sI (cr_sI C 1 s 6 x) 1 s 15 (Int32.ofNat ((cr_sI C 1 s 6 x).2.1 s).length)))
theorem k_S_followBackBit {s : Nat} (hq : q0 < ev_b G) (hs : s < 6) (x : Int32) (h : cr_K G q0 w C n F Q) : ev_E G mm_S_followBackBit (d + 1) 0 (lv_args 0 [.ref (ev_b G + cr_o 1 s), .int x]) [] w (cr_yv G q0 n F Q (cs_S_followBackBit C s x)) := by
  unfold cs_S_followBackBit
  refine ev_iload_n dd_S_followBackBit_0 rfl ?_
  refine ev_aload_n dd_S_followBackBit_1 rfl ?_
  refine K_gI (κ := 1) dd_S_followBackBit_2 fr_S_30 h (show s < 6 by omega) rfl ?_
  refine ev_icmp_eq dd_S_followBackBit_5 (fun c1 => ?_) (fun c1 => ?_)
  · rw [if_pos c1]
    refine ev_vret dd_S_followBackBit_24 rfl ?_
    exact ⟨rfl, h⟩
  · rw [if_neg c1]
    refine ev_aload_n dd_S_followBackBit_8 rfl ?_
    refine ev_iload_n dd_S_followBackBit_9 rfl ?_
    refine K_pI (κ := 1) dd_S_followBackBit_10 fk_S_30 h hq (show s < 6 by omega) rfl rfl rfl (fun w2 h2 => ?_)
    refine ev_aload_n dd_S_followBackBit_13 rfl ?_
    refine ev_aload_n dd_S_followBackBit_14 rfl ?_
    refine K_gP (κ := 1) (q := cr_o 11 s) dd_S_followBackBit_15 fr_S_64 h2 (show s < 6 by omega) rfl ?_
    refine ev_callvI [] dd_S_followBackBit_18 ms_AL_size iv_S_99 (h2.al (κ := 11) (show s < 22 by omega)) (h2.tg (κ := 11) (show s < 22 by omega)) rfl (Nat.le_of_ble_eq_true rfl) (Nat.le_of_ble_eq_true rfl) (K_size h2 (show s < 22 by omega)) ?_
    refine K_pI (κ := 1) dd_S_followBackBit_21 fk_S_58 h2 hq (show s < 6 by omega) rfl rfl rfl (fun w4 h4 => ?_)
    refine ev_vret dd_S_followBackBit_24 rfl ?_
    exact ⟨rfl, h4⟩
def cs_S_failsByAge (C : cr_C) (s : Nat) : Int32 × cr_C := (if (C.1 1 s 0) = 1 then (if ((cr_sI C 1 s 1 ((C.1 1 s 1) + 1)).1 1 s 1) < 15 then (0, cr_sI C 1 s 1 ((C.1 1 s 1) + 1)) else (1, cr_sI C 1 s 1 ((C.1 1 s 1) + 1))) else (if (C.1 1 s 0) = 2 then (if ((cr_sI C 1 s 1 ((C.1 1 s 1) + 1)).1 1 s 1) < 6 then (0, cr_sI C 1 s 1 ((C.1 1 s 1) + 1)) else (0, cs_S_comeTo (cr_sI C 1 s 1 ((C.1 1 s 1) + 1)) s 3)) else (if (C.1 1 s 0) = 3 then (if ((cr_sI C 1 s 1 ((C.1 1 s 1) + 1)).1 1 s 1) < 15 then (0, cr_sI C 1 s 1 ((C.1 1 s 1) + 1)) else (1, cr_sI C 1 s 1 ((C.1 1 s 1) + 1))) else (if (C.1 1 s 0) = 4 then (if (cr_e (C.2.1 s)) = 0 then (if ((cr_sI C 1 s 12 ((C.1 1 s 12) + 1)).1 1 s 12) < 12 then (0, cr_sI C 1 s 12 ((C.1 1 s 12) + 1)) else (1, cr_sI C 1 s 12 ((C.1 1 s 12) + 1))) else (if ((cr_sI C 1 s 12 0).1 1 s 12) < 12 then (0, cr_sI C 1 s 12 0) else (1, cr_sI C 1 s 12 0))) else (0, C)))))
theorem k_S_failsByAge {s : Nat} (hq : q0 < ev_b G) (hs : s < 6) (h : cr_K G q0 w C n F Q) : ev_E G mm_S_failsByAge (d + 1) 0 (lv_args 0 [.ref (ev_b G + cr_o 1 s)]) [] w (cr_yi G q0 n F Q (cs_S_failsByAge C s)) := by
  unfold cs_S_failsByAge
  refine ev_aload_n dd_S_failsByAge_0 rfl ?_
  refine K_gI (κ := 1) dd_S_failsByAge_1 fr_S_9 h (show s < 6 by omega) rfl ?_
  by_cases c1 : (C.1 1 s 0) = 1
  · rw [if_pos c1]
    refine ev_tableIn (off := 32) dd_S_failsByAge_4 (by rw [c1]; decide) (by rw [c1]; decide) (by rw [c1]; rfl) (tgt := 36) rfl ?_
    refine ev_aload_n dd_S_failsByAge_36 rfl ?_
    refine ev_dup dd_S_failsByAge_37 rfl ?_
    refine K_gI (κ := 1) dd_S_failsByAge_38 fr_S_15 h (show s < 6 by omega) rfl ?_
    refine ev_ic (v := 1) dd_S_failsByAge_41 (by decide +kernel) ?_
    refine ev_iadd dd_S_failsByAge_42 ?_
    refine K_pI (κ := 1) dd_S_failsByAge_43 fk_S_15 h hq (show s < 6 by omega) rfl rfl rfl (fun w2 h2 => ?_)
    refine ev_aload_n dd_S_failsByAge_46 rfl ?_
    refine K_gI (κ := 1) dd_S_failsByAge_47 fr_S_15 h2 (show s < 6 by omega) rfl ?_
    refine ev_bp (v := 15) dd_S_failsByAge_50 (by decide +kernel) ?_
    refine ev_icmp_lt dd_S_failsByAge_52 (fun c3 => ?_) (fun c3 => ?_)
    · rw [if_pos c3]
      refine ev_ic (v := 0) dd_S_failsByAge_59 (by decide +kernel) ?_
      refine ev_iret dd_S_failsByAge_60 rfl rfl ?_
      exact ⟨rfl, h2⟩
    · rw [if_neg c3]
      refine ev_ic (v := 1) dd_S_failsByAge_55 (by decide +kernel) ?_
      refine ev_goto dd_S_failsByAge_56 ?_
      refine ev_iret dd_S_failsByAge_60 rfl rfl ?_
      exact ⟨rfl, h2⟩
  · rw [if_neg c1]
    by_cases c4 : (C.1 1 s 0) = 2
    · rw [if_pos c4]
      refine ev_tableIn (off := 57) dd_S_failsByAge_4 (by rw [c4]; decide) (by rw [c4]; decide) (by rw [c4]; rfl) (tgt := 61) rfl ?_
      refine ev_aload_n dd_S_failsByAge_61 rfl ?_
      refine ev_dup dd_S_failsByAge_62 rfl ?_
      refine K_gI (κ := 1) dd_S_failsByAge_63 fr_S_15 h (show s < 6 by omega) rfl ?_
      refine ev_ic (v := 1) dd_S_failsByAge_66 (by decide +kernel) ?_
      refine ev_iadd dd_S_failsByAge_67 ?_
      refine K_pI (κ := 1) dd_S_failsByAge_68 fk_S_15 h hq (show s < 6 by omega) rfl rfl rfl (fun w5 h5 => ?_)
      refine ev_aload_n dd_S_failsByAge_71 rfl ?_
      refine K_gI (κ := 1) dd_S_failsByAge_72 fr_S_15 h5 (show s < 6 by omega) rfl ?_
      refine ev_bp (v := 6) dd_S_failsByAge_75 (by decide +kernel) ?_
      refine ev_icmp_lt dd_S_failsByAge_77 (fun c6 => ?_) (fun c6 => ?_)
      · rw [if_pos c6]
        refine ev_ic (v := 0) dd_S_failsByAge_85 (by decide +kernel) ?_
        refine ev_iret dd_S_failsByAge_86 rfl rfl ?_
        exact ⟨rfl, h5⟩
      · rw [if_neg c6]
        refine ev_aload_n dd_S_failsByAge_80 rfl ?_
        refine ev_ic (v := 3) dd_S_failsByAge_81 (by decide +kernel) ?_
        refine ev_callvV [_] dd_S_failsByAge_82 ms_S_comeTo iv_S_85 (h5.al (κ := 1) (show s < 6 by omega)) (h5.tg (κ := 1) (show s < 6 by omega)) rfl (Nat.le_of_ble_eq_true rfl) (Nat.le_of_ble_eq_true rfl) (k_S_comeTo hq (show s < 6 by omega) 3 h5) (fun w7 h7 => ?_)
        refine ev_ic (v := 0) dd_S_failsByAge_85 (by decide +kernel) ?_
        refine ev_iret dd_S_failsByAge_86 rfl rfl ?_
        exact ⟨rfl, h7⟩
    · rw [if_neg c4]
      by_cases c8 : (C.1 1 s 0) = 3
      · rw [if_pos c8]
        refine ev_tableIn (off := 32) dd_S_failsByAge_4 (by rw [c8]; decide) (by rw [c8]; decide) (by rw [c8]; rfl) (tgt := 36) rfl ?_
        refine ev_aload_n dd_S_failsByAge_36 rfl ?_
        refine ev_dup dd_S_failsByAge_37 rfl ?_
        refine K_gI (κ := 1) dd_S_failsByAge_38 fr_S_15 h (show s < 6 by omega) rfl ?_
        refine ev_ic (v := 1) dd_S_failsByAge_41 (by decide +kernel) ?_
        refine ev_iadd dd_S_failsByAge_42 ?_
        refine K_pI (κ := 1) dd_S_failsByAge_43 fk_S_15 h hq (show s < 6 by omega) rfl rfl rfl (fun w9 h9 => ?_)
        refine ev_aload_n dd_S_failsByAge_46 rfl ?_
        refine K_gI (κ := 1) dd_S_failsByAge_47 fr_S_15 h9 (show s < 6 by omega) rfl ?_
        refine ev_bp (v := 15) dd_S_failsByAge_50 (by decide +kernel) ?_
        refine ev_icmp_lt dd_S_failsByAge_52 (fun c10 => ?_) (fun c10 => ?_)
        · rw [if_pos c10]
          refine ev_ic (v := 0) dd_S_failsByAge_59 (by decide +kernel) ?_
          refine ev_iret dd_S_failsByAge_60 rfl rfl ?_
          exact ⟨rfl, h9⟩
        · rw [if_neg c10]
          refine ev_ic (v := 1) dd_S_failsByAge_55 (by decide +kernel) ?_
          refine ev_goto dd_S_failsByAge_56 ?_
          refine ev_iret dd_S_failsByAge_60 rfl rfl ?_
          exact ⟨rfl, h9⟩
      · rw [if_neg c8]
        by_cases c11 : (C.1 1 s 0) = 4
        · rw [if_pos c11]
          refine ev_tableIn (off := 83) dd_S_failsByAge_4 (by rw [c11]; decide) (by rw [c11]; decide) (by rw [c11]; rfl) (tgt := 87) rfl ?_
          refine ev_aload_n dd_S_failsByAge_87 rfl ?_
          refine ev_aload_n dd_S_failsByAge_88 rfl ?_
          refine K_gP (κ := 1) (q := cr_o 11 s) dd_S_failsByAge_89 fr_S_64 h (show s < 6 by omega) rfl ?_
          refine ev_callvI [] dd_S_failsByAge_92 ms_AL_isEmpty iv_S_131 (h.al (κ := 11) (show s < 22 by omega)) (h.tg (κ := 11) (show s < 22 by omega)) rfl (Nat.le_of_ble_eq_true rfl) (Nat.le_of_ble_eq_true rfl) (K_isE h (show s < 22 by omega)) ?_
          refine ev_if_eq dd_S_failsByAge_95 (fun c13 => ?_) (fun c13 => ?_)
          · rw [if_pos c13]
            refine ev_aload_n dd_S_failsByAge_102 rfl ?_
            refine K_gI (κ := 1) dd_S_failsByAge_103 fr_S_48 h (show s < 6 by omega) rfl ?_
            refine ev_ic (v := 1) dd_S_failsByAge_106 (by decide +kernel) ?_
            refine ev_iadd dd_S_failsByAge_107 ?_
            refine K_pI (κ := 1) dd_S_failsByAge_108 fk_S_48 h hq (show s < 6 by omega) rfl rfl rfl (fun w14 h14 => ?_)
            refine ev_aload_n dd_S_failsByAge_111 rfl ?_
            refine K_gI (κ := 1) dd_S_failsByAge_112 fr_S_48 h14 (show s < 6 by omega) rfl ?_
            refine ev_bp (v := 12) dd_S_failsByAge_115 (by decide +kernel) ?_
            refine ev_icmp_lt dd_S_failsByAge_117 (fun c15 => ?_) (fun c15 => ?_)
            · rw [if_pos c15]
              refine ev_ic (v := 0) dd_S_failsByAge_124 (by decide +kernel) ?_
              refine ev_iret dd_S_failsByAge_125 rfl rfl ?_
              exact ⟨rfl, h14⟩
            · rw [if_neg c15]
              refine ev_ic (v := 1) dd_S_failsByAge_120 (by decide +kernel) ?_
              refine ev_goto dd_S_failsByAge_121 ?_
              refine ev_iret dd_S_failsByAge_125 rfl rfl ?_
              exact ⟨rfl, h14⟩
          · rw [if_neg c13]
            refine ev_ic (v := 0) dd_S_failsByAge_98 (by decide +kernel) ?_
            refine ev_goto dd_S_failsByAge_99 ?_
            refine K_pI (κ := 1) dd_S_failsByAge_108 fk_S_48 h hq (show s < 6 by omega) rfl rfl rfl (fun w16 h16 => ?_)
            refine ev_aload_n dd_S_failsByAge_111 rfl ?_
            refine K_gI (κ := 1) dd_S_failsByAge_112 fr_S_48 h16 (show s < 6 by omega) rfl ?_
            refine ev_bp (v := 12) dd_S_failsByAge_115 (by decide +kernel) ?_
            refine ev_icmp_lt dd_S_failsByAge_117 (fun c17 => ?_) (fun c17 => ?_)
            · rw [if_pos c17]
              refine ev_ic (v := 0) dd_S_failsByAge_124 (by decide +kernel) ?_
              refine ev_iret dd_S_failsByAge_125 rfl rfl ?_
              exact ⟨rfl, h16⟩
            · rw [if_neg c17]
              refine ev_ic (v := 1) dd_S_failsByAge_120 (by decide +kernel) ?_
              refine ev_goto dd_S_failsByAge_121 ?_
              refine ev_iret dd_S_failsByAge_125 rfl rfl ?_
              exact ⟨rfl, h16⟩
        · rw [if_neg c11]
          refine ev_tableOut dd_S_failsByAge_4 (sw_1_4 c1 c4 c8 c11) (tgt := 126) rfl ?_
          refine ev_ic (v := 0) dd_S_failsByAge_126 (by decide +kernel) ?_
          refine ev_iret dd_S_failsByAge_127 rfl rfl ?_
          exact ⟨rfl, h⟩
end CrS
