/-! the reference: a changeover goes on; an order, an answer, a message is taken -/
theorem rf_sI_ne (D : rf_C) {k j k' j' : Nat} (x : Int32) (h : ¬ (k' = k ∧ j' = j)) : (rf_sI D k j x).1 k' j' = D.1 k' j' := if_neg h
theorem rf_sI_at (D : rf_C) (k j : Nat) (x : Int32) : (rf_sI D k j x).1 k j = x := if_pos ⟨rfl, rfl⟩
theorem rs_op_of {D : rf_C} {e : Nat} (h : (rs_D_chosen D e 0).1 ≠ -1) : rf_op D e := by
  intro k hk
  have h' : (rs_D_chosen0 D e).1 ≠ -1 := h
  unfold rs_D_chosen0 at h'
  simp only [rs_isOpen2] at h'
  rcases (show k = 0 ∨ k = 1 ∨ k = 2 ∨ k = 3 by omega) with rfl | rfl | rfl | rfl
  · exact h
  · show (rs_D_chosen1 D e).1 ≠ -1
    unfold rs_D_chosen1
    simp only [rs_isOpen2]
    by_cases c0 : (rs_D_isOpen D e 0).1 = 0 <;> by_cases c1 : (rs_D_isOpen D e 1).1 = 0 <;> by_cases c2 : (rs_D_isOpen D e 2).1 = 0 <;> simp only [c0, c1, c2, if_true, if_false] at h' ⊢ <;> first | decide | exact absurd rfl h'
  · show (rs_D_chosen2 D e).1 ≠ -1
    unfold rs_D_chosen2
    simp only [rs_isOpen2]
    by_cases c0 : (rs_D_isOpen D e 0).1 = 0 <;> by_cases c1 : (rs_D_isOpen D e 1).1 = 0 <;> by_cases c2 : (rs_D_isOpen D e 2).1 = 0 <;> simp only [c0, c1, c2, if_true, if_false] at h' ⊢ <;> first | decide | exact absurd rfl h'
  · show (rs_D_chosen3 D e).1 ≠ -1
    unfold rs_D_chosen3
    simp only [rs_isOpen2]
    by_cases c0 : (rs_D_isOpen D e 0).1 = 0 <;> by_cases c1 : (rs_D_isOpen D e 1).1 = 0 <;> by_cases c2 : (rs_D_isOpen D e 2).1 = 0 <;> simp only [c0, c1, c2, if_true, if_false] at h' ⊢ <;> first | decide | exact absurd rfl h'
def rf_fi (D : rf_C) (l e : Nat) : Prop := (∀ μ ∈ D.2 (12 + (2 * l + e)), rf_mo μ) ∧ (∀ μ ∈ D.2 (18 + e), rf_mc μ) ∧ rf_Lk D e
def rs_tc3 (D : rf_C) (l e : Nat) : rf_C := if D.1 42 (2 * l + e) = 2 then (if (rs_D_chosen (rf_sI D 42 (2 * l + e) 0) e 0).1 < 0 then rf_sI D 42 (2 * l + e) 2 else rs_end (rf_sI D 42 (2 * l + e) 2) l e) else D
def rs_tc2 (D : rf_C) (s : Nat) (b : Int32) : rf_C := if D.1 44 s < 20 then D else if D.1 42 s = 1 then (if b = 0 then D else rs_giveUp D s) else D
def rs_or (D : rf_C) (l e : Nat) : rf_C := rf_sI (rs_say D e (4, D.1 47 (2 * l + e), Int32.ofNat l, D.1 45 (2 * l + e), -1)) 43 (2 * l + e) 1
def rs_tc1 (D : rf_C) (l e : Nat) (b : Int32) : rf_C := if D.1 42 (2 * l + e) = 1 then (if D.1 43 (2 * l + e) = 0 then (if b = 0 then D else rs_or D l e) else D) else D
def rs_tw (D : rf_C) (s : Nat) : rf_C := rf_sI D 44 s (D.1 44 s + 1)
def rf_sm (D : rf_C) (e : Nat) : Int32 := if (rs_D_serving D e).1 < 0 then 0 else 1
def rs_tickChange (D : rf_C) (l e : Nat) : rf_C := if D.1 42 (2 * l + e) = 0 then D else rs_tc3 (rs_tc2 (rs_tw (rs_tc1 D l e (rf_sm D e)) (2 * l + e)) (2 * l + e) (rf_sm D e)) l e
theorem rs_say_row (D : rf_C) {e r : Nat} (μ : rf_m) (he : e < 2) (hr : r < 6 ∨ 12 ≤ r) : (rs_say D e μ).2 r = D.2 r := by
  have h1 := rs_say_X D (D.2 r) μ he hr
  rw [rf_sX_same] at h1
  rw [h1, rf_sX_at]
section RfZ
variable {G : ev_gx} {M : ev_mx} {d pc pc' tgt : Nat} {L : List (Nat × Value)} {st : List Value} {w w1 F : ev_wd} {P : ev_r → ev_wd → Prop} {D D' : rf_C} {H : Option (Nat × rf_m)} {Q : Nat → rf_m → Prop}
theorem k_D_tc3 {l e : Nat} {b : Int32} (hl : l < 3) (he : e < 2) (hf : rf_fi D l e) (h : rf_K G w D none F rf_Q0) : ev_E G mm_D_tickChange (d + 3) 123 [(0, .ref (ev_b G + 77)), (1, .int (Int32.ofNat (2 * l + e))), (2, .int (Int32.ofNat e)), (3, .int b)] [] w (rf_yv G F rf_Q0 none (rs_tc3 D l e)) := by
  have hs : 2 * l + e < 6 := by omega
  obtain ⟨f1, f2, f3⟩ := hf
  unfold rs_tc3
  refine ev_aload_n dd_D_tickChange_123 rfl ?_
  refine R_gA (k := 42) dd_D_tickChange_124 fr_D_132 h rfl ?_
  refine ev_iload_n dd_D_tickChange_127 rfl ?_
  refine R_ld (k := 42) (j := 2 * l + e) dd_D_tickChange_128 h rfl (show 2 * l + e < 6 by omega) ?_
  refine ev_ic (v := 2) dd_D_tickChange_129 (by decide +kernel) ?_
  refine ev_icmp_ne dd_D_tickChange_130 (fun c => ?_) (fun c => ?_)
  · rw [if_neg c]
    refine ev_vret dd_D_tickChange_173 rfl ?_
    exact ⟨rfl, h⟩
  · rw [if_pos c]
    refine ev_aload_n dd_D_tickChange_133 rfl ?_
    refine R_gA (k := 42) dd_D_tickChange_134 fr_D_132 h rfl ?_
    refine ev_iload_n dd_D_tickChange_137 rfl ?_
    refine ev_ic (v := 0) dd_D_tickChange_138 (by decide +kernel) ?_
    refine R_st (k := 42) (j := 2 * l + e) dd_D_tickChange_139 h rfl (show 2 * l + e < 6 by omega) (fun w1 h1 => ?_)
    refine ev_aload_n dd_D_tickChange_140 rfl ?_
    refine ev_iload_n dd_D_tickChange_141 rfl ?_
    refine ev_ic (v := 0) dd_D_tickChange_142 (by decide +kernel) ?_
    refine ev_callvN2 [_, _] dd_D_tickChange_143 ms_D_chosen iv_D_206 h1.ob h1.tg rfl (Nat.le_of_ble_eq_true rfl) (Nat.le_of_ble_eq_true rfl) (k_D_chosen (k := 0) he (by decide) h1) (fun w2 h2 => ?_)
    rw [rs_chosen2] at h2
    refine ev_if_lt dd_D_tickChange_146 (fun c2 => ?_) (fun c2 => ?_)
    · rw [if_pos c2]
      refine ev_ic (v := 0) dd_D_tickChange_153 (by decide +kernel) ?_
      refine ev_istore dd_D_tickChange_154 (by decide) ?_
      refine ev_aload_n dd_D_tickChange_156 rfl ?_
      refine R_gA (k := 42) dd_D_tickChange_157 fr_D_132 h2 rfl ?_
      refine ev_iload_n dd_D_tickChange_160 rfl ?_
      refine ev_ic (v := 2) dd_D_tickChange_161 (by decide +kernel) ?_
      refine R_st (k := 42) (j := 2 * l + e) dd_D_tickChange_162 h2 rfl (show 2 * l + e < 6 by omega) (fun w3 h3 => ?_)
      rw [rf_sI_two] at h3
      refine ev_iload dd_D_tickChange_163 rfl ?_
      refine ev_if_eq dd_D_tickChange_165 (fun _ => ?_) (fun c3 => absurd rfl c3)
      refine ev_vret dd_D_tickChange_173 rfl ?_
      exact ⟨rfl, h3⟩
    · rw [if_neg c2]
      refine ev_ic (v := 1) dd_D_tickChange_149 (by decide +kernel) ?_
      refine ev_goto dd_D_tickChange_150 ?_
      refine ev_istore dd_D_tickChange_154 (by decide) ?_
      refine ev_aload_n dd_D_tickChange_156 rfl ?_
      refine R_gA (k := 42) dd_D_tickChange_157 fr_D_132 h2 rfl ?_
      refine ev_iload_n dd_D_tickChange_160 rfl ?_
      refine ev_ic (v := 2) dd_D_tickChange_161 (by decide +kernel) ?_
      refine R_st (k := 42) (j := 2 * l + e) dd_D_tickChange_162 h2 rfl (show 2 * l + e < 6 by omega) (fun w3 h3 => ?_)
      rw [rf_sI_two] at h3
      refine ev_iload dd_D_tickChange_163 rfl ?_
      refine ev_if_eq dd_D_tickChange_165 (fun c3 => absurd c3 (by decide)) (fun _ => ?_)
      refine ev_aload_n dd_D_tickChange_168 rfl ?_
      refine ev_iload_n dd_D_tickChange_169 rfl ?_
      have hop : rf_op (rf_sI (rf_sI D 42 (2 * l + e) 2) 42 (2 * l + e) 0) e := by
        rw [rf_sI_two]
        refine rs_op_of (fun e1 => c2 ?_)
        rw [e1]
        decide
      refine ev_callvV2 [_] dd_D_tickChange_170 ms_D_end iv_D_217 h3.ob h3.tg rfl (Nat.le_of_ble_eq_true rfl) (Nat.le_of_ble_eq_true rfl) (k_D_end (D := rf_sI D 42 (2 * l + e) 2) hl he f1 f2 (fun k hk => f3 k hk) hop h3) (fun w4 h4 => ?_)
      refine ev_vret dd_D_tickChange_173 rfl ?_
      exact ⟨rfl, h4⟩
theorem rf_fi_gu {l e : Nat} (hl : l < 3) (he : e < 2) (hf : rf_fi D l e) : rf_fi (rs_giveUp D (2 * l + e)) l e := by
  obtain ⟨f1, f2, f3⟩ := hf
  refine ⟨fun μ hμ => f1 μ ?_, fun μ hμ => f2 μ ?_, fun k hk => f3 k hk⟩
  · have e1 : (rs_giveUp D (2 * l + e)).2 (12 + (2 * l + e)) = [] ++ (D.2 (12 + (2 * l + e))).filter rf_ng := rf_sX_at _ _ _
    rw [e1, List.nil_append] at hμ
    exact (List.mem_filter.mp hμ).1
  · have e1 : (rs_giveUp D (2 * l + e)).2 (18 + e) = D.2 (18 + e) := rf_sX_ne _ _ (by omega)
    rw [e1] at hμ
    exact hμ
theorem rf_fi_tc2 {l e : Nat} (b : Int32) (hl : l < 3) (he : e < 2) (hf : rf_fi D l e) : rf_fi (rs_tc2 D (2 * l + e) b) l e := by
  unfold rs_tc2
  repeat' split
  all_goals first | exact hf | exact rf_fi_gu hl he hf
theorem rf_fi_tc1 {l e : Nat} (b : Int32) (hl : l < 3) (he : e < 2) (hf : rf_fi D l e) : rf_fi (rs_tc1 D l e b) l e := by
  have h1 : rf_fi (rs_or D l e) l e := by
    obtain ⟨f1, f2, f3⟩ := hf
    refine ⟨fun μ hμ => f1 μ ?_, fun μ hμ => f2 μ ?_, fun k hk => ?_⟩
    · have e1 : (rs_or D l e).2 (12 + (2 * l + e)) = D.2 (12 + (2 * l + e)) := rs_say_row D _ he (by omega)
      rw [e1] at hμ
      exact hμ
    · have e1 : (rs_or D l e).2 (18 + e) = D.2 (18 + e) := rs_say_row D _ he (by omega)
      rw [e1] at hμ
      exact hμ
    · have e1 : (rs_or D l e).1 48 (4 * e + k) = D.1 48 (4 * e + k) := by
        unfold rs_or
        rw [rf_sI_ne _ _ (by omega), rs_say_I]
      have := f3 k hk
      unfold rf_lk at this ⊢
      rw [e1]
      exact this
  unfold rs_tc1
  repeat' split
  all_goals first | exact hf | exact h1
theorem k_D_tc2 {l e : Nat} {b : Int32} (hl : l < 3) (he : e < 2) (hf : rf_fi D l e) (h : rf_K G w D none F rf_Q0) : ev_E G mm_D_tickChange (d + 3) 83 [(0, .ref (ev_b G + 77)), (1, .int (Int32.ofNat (2 * l + e))), (2, .int (Int32.ofNat e)), (3, .int b)] [] w (rf_yv G F rf_Q0 none (rs_tc3 (rs_tc2 (rs_tw D (2 * l + e)) (2 * l + e) b) l e)) := by
  have hs : 2 * l + e < 6 := by omega
  have hf1 : rf_fi (rs_tw D (2 * l + e)) l e := ⟨hf.1, hf.2.1, fun k hk => hf.2.2 k hk⟩
  have hf2 := rf_fi_tc2 b hl he hf1
  refine ev_aload_n dd_D_tickChange_83 rfl ?_
  refine R_gA (k := 44) dd_D_tickChange_84 fr_D_138 h rfl ?_
  refine ev_iload_n dd_D_tickChange_87 rfl ?_
  refine ev_dup2 dd_D_tickChange_88 rfl rfl ?_
  refine R_ld (k := 44) (j := 2 * l + e) dd_D_tickChange_89 h rfl (show 2 * l + e < 6 by omega) ?_
  refine ev_ic (v := 1) dd_D_tickChange_90 (by decide +kernel) ?_
  refine ev_iadd dd_D_tickChange_91 ?_
  refine R_st (k := 44) (j := 2 * l + e) dd_D_tickChange_92 h rfl (show 2 * l + e < 6 by omega) (fun w1 h1' => ?_)
  have h1 : rf_K G w1 (rs_tw D (2 * l + e)) none F rf_Q0 := h1'
  generalize rs_tw D (2 * l + e) = D1 at *
  unfold rs_tc2 at hf2 ⊢
  refine ev_aload_n dd_D_tickChange_93 rfl ?_
  refine R_gA (k := 44) dd_D_tickChange_94 fr_D_138 h1 rfl ?_
  refine ev_iload_n dd_D_tickChange_97 rfl ?_
  refine R_ld (k := 44) (j := 2 * l + e) dd_D_tickChange_98 h1 rfl (show 2 * l + e < 6 by omega) ?_
  refine ev_bp (v := 20) dd_D_tickChange_99 (by decide +kernel) ?_
  refine ev_icmp_lt dd_D_tickChange_101 (fun c => ?_) (fun c => ?_)
  · rw [if_pos c] at hf2 ⊢
    exact k_D_tc3 hl he hf2 h1
  · rw [if_neg c] at hf2 ⊢
    refine ev_aload_n dd_D_tickChange_104 rfl ?_
    refine R_gA (k := 42) dd_D_tickChange_105 fr_D_132 h1 rfl ?_
    refine ev_iload_n dd_D_tickChange_108 rfl ?_
    refine R_ld (k := 42) (j := 2 * l + e) dd_D_tickChange_109 h1 rfl (show 2 * l + e < 6 by omega) ?_
    refine ev_ic (v := 1) dd_D_tickChange_110 (by decide +kernel) ?_
    refine ev_icmp_ne dd_D_tickChange_111 (fun c2 => ?_) (fun c2 => ?_)
    · rw [if_neg c2] at hf2 ⊢
      exact k_D_tc3 hl he hf2 h1
    · rw [if_pos c2] at hf2 ⊢
      refine ev_iload_n dd_D_tickChange_114 rfl ?_
      refine ev_if_eq dd_D_tickChange_115 (fun c3 => ?_) (fun c3 => ?_)
      · rw [if_pos c3] at hf2 ⊢
        exact k_D_tc3 hl he hf2 h1
      · rw [if_neg c3] at hf2 ⊢
        refine ev_aload_n dd_D_tickChange_118 rfl ?_
        refine ev_iload_n dd_D_tickChange_119 rfl ?_
        refine ev_callvV2 [_] dd_D_tickChange_120 ms_D_giveUp iv_D_214 h1.ob h1.tg rfl (Nat.le_of_ble_eq_true rfl) (Nat.le_of_ble_eq_true rfl) (k_D_giveUp hs h1) (fun w2 h2 => ?_)
        exact k_D_tc3 hl he hf2 h2
theorem k_D_tickChange {l e : Nat} (hl : l < 3) (he : e < 2) (hz : rz D ≤ 2399) (hf : rf_fi D l e) (h : rf_K G w D none F rf_Q0) : ev_E G mm_D_tickChange (d + 3) 0 (lv_args 0 [.ref (ev_b G + 77), .int (Int32.ofNat (2 * l + e))]) [] w (rf_yv G F rf_Q0 none (rs_tickChange D l e)) := by
  have hs : 2 * l + e < 6 := by omega
  unfold rs_tickChange
  refine ev_iload_n dd_D_tickChange_0 rfl ?_
  refine ev_ic (v := 2) dd_D_tickChange_1 (by decide +kernel) ?_
  refine ev_irem dd_D_tickChange_2 (by decide) ?_
  rw [ms_rem hl he]
  refine ev_istore_n dd_D_tickChange_3 (by decide) ?_
  refine ev_aload_n dd_D_tickChange_4 rfl ?_
  refine R_gA (k := 42) dd_D_tickChange_5 fr_D_132 h rfl ?_
  refine ev_iload_n dd_D_tickChange_8 rfl ?_
  refine R_ld (k := 42) (j := 2 * l + e) dd_D_tickChange_9 h rfl (show 2 * l + e < 6 by omega) ?_
  refine ev_if_ne dd_D_tickChange_10 (fun c => ?_) (fun c => ?_)
  · rw [if_neg c]
    refine ev_aload_n dd_D_tickChange_14 rfl ?_
    refine ev_iload_n dd_D_tickChange_15 rfl ?_
    refine ev_callvN2 [_] dd_D_tickChange_16 ms_D_serving iv_D_197 h.ob h.tg rfl (Nat.le_of_ble_eq_true rfl) (Nat.le_of_ble_eq_true rfl) (k_D_serving he h) (fun w1 h1 => ?_)
    rw [rs_serving2] at h1
    have body : ∀ (b : Int32), b = rf_sm D e → ev_E G mm_D_tickChange (d + 3) 28 [(0, .ref (ev_b G + 77)), (1, .int (Int32.ofNat (2 * l + e))), (2, .int (Int32.ofNat e)), (3, .int b)] [] w1 (rf_yv G F rf_Q0 none (rs_tc3 (rs_tc2 (rs_tw (rs_tc1 D l e (rf_sm D e)) (2 * l + e)) (2 * l + e) (rf_sm D e)) l e)) := by
      intro b eb
      rw [← eb]
      have hf1 := rf_fi_tc1 b hl he hf
      unfold rs_tc1 at hf1 ⊢
      refine ev_aload_n dd_D_tickChange_28 rfl ?_
      refine R_gA (k := 42) dd_D_tickChange_29 fr_D_132 h1 rfl ?_
      refine ev_iload_n dd_D_tickChange_32 rfl ?_
      refine R_ld (k := 42) (j := 2 * l + e) dd_D_tickChange_33 h1 rfl (show 2 * l + e < 6 by omega) ?_
      refine ev_ic (v := 1) dd_D_tickChange_34 (by decide +kernel) ?_
      refine ev_icmp_ne dd_D_tickChange_35 (fun c1 => ?_) (fun c1 => ?_)
      · rw [if_neg c1] at hf1 ⊢
        exact k_D_tc2 hl he hf1 h1
      · rw [if_pos c1] at hf1 ⊢
        refine ev_aload_n dd_D_tickChange_38 rfl ?_
        refine R_gA (k := 43) dd_D_tickChange_39 fr_D_135 h1 rfl ?_
        refine ev_iload_n dd_D_tickChange_42 rfl ?_
        refine R_ldz (k := 43) (j := 2 * l + e) dd_D_tickChange_43 h1 rfl (show 2 * l + e < 6 by omega) ?_
        refine ev_if_ne dd_D_tickChange_44 (fun c2 => ?_) (fun c2 => ?_)
        · rw [if_neg c2] at hf1 ⊢
          exact k_D_tc2 hl he hf1 h1
        · rw [if_pos c2] at hf1 ⊢
          refine ev_iload_n dd_D_tickChange_47 rfl ?_
          refine ev_if_eq dd_D_tickChange_48 (fun c3 => ?_) (fun c3 => ?_)
          · rw [if_pos c3] at hf1 ⊢
            exact k_D_tc2 hl he hf1 h1
          · rw [if_neg c3] at hf1 ⊢
            refine ev_aload_n dd_D_tickChange_51 rfl ?_
            refine ev_iload_n dd_D_tickChange_52 rfl ?_
            refine ev_aload_n dd_D_tickChange_53 rfl ?_
            refine ev_ic (v := 4) dd_D_tickChange_54 (by decide +kernel) ?_
            refine ev_aload_n dd_D_tickChange_55 rfl ?_
            refine R_gA (k := 47) dd_D_tickChange_56 fr_D_147 h1 rfl ?_
            refine ev_iload_n dd_D_tickChange_59 rfl ?_
            refine R_ld (k := 47) (j := 2 * l + e) dd_D_tickChange_60 h1 rfl (show 2 * l + e < 6 by omega) ?_
            refine ev_iload_n dd_D_tickChange_61 rfl ?_
            refine ev_ic (v := 2) dd_D_tickChange_62 (by decide +kernel) ?_
            refine ev_idiv dd_D_tickChange_63 (by decide) ?_
            rw [ms_div hl he]
            refine ev_aload_n dd_D_tickChange_64 rfl ?_
            refine R_gA (k := 45) dd_D_tickChange_65 fr_D_141 h1 rfl ?_
            refine ev_iload_n dd_D_tickChange_68 rfl ?_
            refine R_ld (k := 45) (j := 2 * l + e) dd_D_tickChange_69 h1 rfl (show 2 * l + e < 6 by omega) ?_
            refine ev_callv [.int 4, .int (D.1 47 (2 * l + e)), .int (Int32.ofNat l), .int (D.1 45 (2 * l + e))] dd_D_tickChange_70 ms_D_message iv_D_210 h1.ob h1.tg rfl (Nat.le_of_ble_eq_true rfl) (Nat.le_of_ble_eq_true rfl) (k_D_message _ _ _ _ hz h1) (fun v w2 hp _ _ => ?_) (fun x w3 hp _ _ => by obtain ⟨y, h1, -⟩ := hp; cases h1)
            obtain ⟨m, hv, -, h2⟩ := hp
            cases hv
            refine ev_callvV2 [_, _] dd_D_tickChange_73 ms_D_say iv_D_203 h2.ob h2.tg rfl (Nat.le_of_ble_eq_true rfl) (Nat.le_of_ble_eq_true rfl) (k_D_say he h2) (fun w3 h3 => ?_)
            refine ev_aload_n dd_D_tickChange_76 rfl ?_
            refine R_gA (k := 43) dd_D_tickChange_77 fr_D_135 h3 rfl ?_
            refine ev_iload_n dd_D_tickChange_80 rfl ?_
            refine ev_ic (v := 1) dd_D_tickChange_81 (by decide +kernel) ?_
            refine R_stz (k := 43) (j := 2 * l + e) dd_D_tickChange_82 h3 rfl (show 2 * l + e < 6 by omega) rfl (fun w4 h4' => ?_)
            have h4 : rf_K G w4 (rs_or D l e) none F rf_Q0 := h4'
            exact k_D_tc2 hl he hf1 h4
    refine ev_if_lt dd_D_tickChange_19 (fun c2 => ?_) (fun c2 => ?_)
    · refine ev_ic (v := 0) dd_D_tickChange_26 (by decide +kernel) ?_
      refine ev_istore_n dd_D_tickChange_27 (by decide) ?_
      refine ev_loc4 (i0 := 0) (i1 := 1) (i2 := 2) (i3 := 3) rfl rfl rfl rfl ?_
      exact body 0 (if_pos c2).symm
    · refine ev_ic (v := 1) dd_D_tickChange_22 (by decide +kernel) ?_
      refine ev_goto dd_D_tickChange_23 ?_
      refine ev_istore_n dd_D_tickChange_27 (by decide) ?_
      refine ev_loc4 (i0 := 0) (i1 := 1) (i2 := 2) (i3 := 3) rfl rfl rfl rfl ?_
      exact body 1 (if_neg c2).symm
  · rw [if_pos c]
    refine ev_vret dd_D_tickChange_13 rfl ?_
    exact ⟨rfl, h⟩
end RfZ
