/-! the reference: a message is said; a changeover begins -/
theorem rs_serving2 (D : rf_C) (e : Nat) : (rs_D_serving D e).2 = D := by
  unfold rs_D_serving
  repeat' split
  all_goals rfl
theorem rs_serving1 (D : rf_C) (e : Nat) : (rs_D_serving D e).1 = 0 ∨ (rs_D_serving D e).1 = 1 ∨ (rs_D_serving D e).1 = 2 ∨ (rs_D_serving D e).1 = -1 := by
  unfold rs_D_serving
  repeat' split
  all_goals (first | exact Or.inl rfl | exact Or.inr (Or.inl rfl) | exact Or.inr (Or.inr (Or.inl rfl)) | exact Or.inr (Or.inr (Or.inr rfl)))
theorem ms_row {l e : Nat} (hl : l < 3) (he : e < 2) : (6 : Int32) + 2 * Int32.ofNat l + Int32.ofNat e = Int32.ofNat (6 + (2 * l + e)) := by
  rcases (show l = 0 ∨ l = 1 ∨ l = 2 by omega) with rfl | rfl | rfl <;> rcases (show e = 0 ∨ e = 1 by omega) with rfl | rfl <;> decide
def rf_n1 (μ : rf_m) : rf_m := (μ.1, μ.2.1, μ.2.2.1, μ.2.2.2.1, -1)
def rs_put (D : rf_C) (r : Nat) (μ : rf_m) : rf_C := rf_sX D r (D.2 r ++ [μ])
def rs_say (D : rf_C) (e : Nat) (μ : rf_m) : rf_C := if (rs_D_serving D e).1 = 0 then rs_put D (6 + (2 * 0 + e)) (rf_n1 μ) else if (rs_D_serving D e).1 = 1 then rs_put D (6 + (2 * 1 + e)) (rf_n1 μ) else if (rs_D_serving D e).1 = 2 then rs_put D (6 + (2 * 2 + e)) (rf_n1 μ) else D
section RfU
variable {G : ev_gx} {M : ev_mx} {d pc pc' tgt : Nat} {L : List (Nat × Value)} {st : List Value} {w w1 F : ev_wd} {P : ev_r → ev_wd → Prop} {D D' : rf_C} {H : Option (Nat × rf_m)} {Q : Nat → rf_m → Prop}
theorem k_D_say {e x : Nat} {μ : rf_m} (he : e < 2) (h : rf_K G w D (some (x, μ)) F rf_Q0) : ev_E G mm_D_say (d + 1) 0 (lv_args 0 [.ref (ev_b G + 77), .int (Int32.ofNat e), .int (Int32.ofNat x)]) [] w (rf_yv G F rf_Q0 none (rs_say D e μ)) := by
  unfold rs_say
  refine ev_aload_n dd_D_say_0 rfl ?_
  refine ev_iload_n dd_D_say_1 rfl ?_
  refine ev_callvN2 [_] dd_D_say_2 ms_D_serving iv_D_197 h.ob h.tg rfl (Nat.le_of_ble_eq_true rfl) (Nat.le_of_ble_eq_true rfl) (k_D_serving he h) (fun w1 h1 => ?_)
  rw [rs_serving2] at h1
  rcases rs_serving1 D e with e1 | e1 | e1 | e1
  · rw [e1, if_pos rfl]
    refine ev_istore_n dd_D_say_5 (by decide) ?_
    refine ev_iload_n dd_D_say_6 rfl ?_
    refine ev_if_ge dd_D_say_7 (fun _ => ?_) (fun c => absurd (by decide) c)
    refine ev_aload_n dd_D_say_18 rfl ?_
    refine R_gA (k := 5) dd_D_say_19 fr_D_22 h1 rfl ?_
    refine ev_iload_n dd_D_say_22 rfl ?_
    refine ev_ic (v := (-1)) dd_D_say_23 (by decide +kernel) ?_
    refine R_hn dd_D_say_24 h1 (fun w2 h2 => ?_)
    refine ev_aload_n dd_D_say_25 rfl ?_
    refine ev_bp (v := 6) dd_D_say_26 (by decide +kernel) ?_
    refine ev_ic (v := 2) dd_D_say_28 (by decide +kernel) ?_
    refine ev_iload_n dd_D_say_29 rfl ?_
    refine ev_imul dd_D_say_30 ?_
    refine ev_iadd dd_D_say_31 ?_
    refine ev_iload_n dd_D_say_32 rfl ?_
    refine ev_iadd dd_D_say_33 ?_
    refine ev_iload_n dd_D_say_34 rfl ?_
    rw [show (6 : Int32) + 2 * 0 + Int32.ofNat e = Int32.ofNat (6 + (2 * 0 + e)) from ms_row (l := 0) (by decide) he]
    refine ev_callvV2 [_, _] dd_D_say_35 ms_D_put iv_D_191 h2.ob h2.tg rfl (Nat.le_of_ble_eq_true rfl) (Nat.le_of_ble_eq_true rfl) (k_D_put (show 6 + (2 * 0 + e) < 22 by omega) h2) (fun w3 h3 => ?_)
    refine ev_vret dd_D_say_38 rfl ?_
    exact ⟨rfl, h3⟩
  · rw [e1, if_neg (by decide), if_pos rfl]
    refine ev_istore_n dd_D_say_5 (by decide) ?_
    refine ev_iload_n dd_D_say_6 rfl ?_
    refine ev_if_ge dd_D_say_7 (fun _ => ?_) (fun c => absurd (by decide) c)
    refine ev_aload_n dd_D_say_18 rfl ?_
    refine R_gA (k := 5) dd_D_say_19 fr_D_22 h1 rfl ?_
    refine ev_iload_n dd_D_say_22 rfl ?_
    refine ev_ic (v := (-1)) dd_D_say_23 (by decide +kernel) ?_
    refine R_hn dd_D_say_24 h1 (fun w2 h2 => ?_)
    refine ev_aload_n dd_D_say_25 rfl ?_
    refine ev_bp (v := 6) dd_D_say_26 (by decide +kernel) ?_
    refine ev_ic (v := 2) dd_D_say_28 (by decide +kernel) ?_
    refine ev_iload_n dd_D_say_29 rfl ?_
    refine ev_imul dd_D_say_30 ?_
    refine ev_iadd dd_D_say_31 ?_
    refine ev_iload_n dd_D_say_32 rfl ?_
    refine ev_iadd dd_D_say_33 ?_
    refine ev_iload_n dd_D_say_34 rfl ?_
    rw [show (6 : Int32) + 2 * 1 + Int32.ofNat e = Int32.ofNat (6 + (2 * 1 + e)) from ms_row (l := 1) (by decide) he]
    refine ev_callvV2 [_, _] dd_D_say_35 ms_D_put iv_D_191 h2.ob h2.tg rfl (Nat.le_of_ble_eq_true rfl) (Nat.le_of_ble_eq_true rfl) (k_D_put (show 6 + (2 * 1 + e) < 22 by omega) h2) (fun w3 h3 => ?_)
    refine ev_vret dd_D_say_38 rfl ?_
    exact ⟨rfl, h3⟩
  · rw [e1, if_neg (by decide), if_neg (by decide), if_pos rfl]
    refine ev_istore_n dd_D_say_5 (by decide) ?_
    refine ev_iload_n dd_D_say_6 rfl ?_
    refine ev_if_ge dd_D_say_7 (fun _ => ?_) (fun c => absurd (by decide) c)
    refine ev_aload_n dd_D_say_18 rfl ?_
    refine R_gA (k := 5) dd_D_say_19 fr_D_22 h1 rfl ?_
    refine ev_iload_n dd_D_say_22 rfl ?_
    refine ev_ic (v := (-1)) dd_D_say_23 (by decide +kernel) ?_
    refine R_hn dd_D_say_24 h1 (fun w2 h2 => ?_)
    refine ev_aload_n dd_D_say_25 rfl ?_
    refine ev_bp (v := 6) dd_D_say_26 (by decide +kernel) ?_
    refine ev_ic (v := 2) dd_D_say_28 (by decide +kernel) ?_
    refine ev_iload_n dd_D_say_29 rfl ?_
    refine ev_imul dd_D_say_30 ?_
    refine ev_iadd dd_D_say_31 ?_
    refine ev_iload_n dd_D_say_32 rfl ?_
    refine ev_iadd dd_D_say_33 ?_
    refine ev_iload_n dd_D_say_34 rfl ?_
    rw [show (6 : Int32) + 2 * 2 + Int32.ofNat e = Int32.ofNat (6 + (2 * 2 + e)) from ms_row (l := 2) (by decide) he]
    refine ev_callvV2 [_, _] dd_D_say_35 ms_D_put iv_D_191 h2.ob h2.tg rfl (Nat.le_of_ble_eq_true rfl) (Nat.le_of_ble_eq_true rfl) (k_D_put (show 6 + (2 * 2 + e) < 22 by omega) h2) (fun w3 h3 => ?_)
    refine ev_vret dd_D_say_38 rfl ?_
    exact ⟨rfl, h3⟩
  · rw [e1, if_neg (by decide), if_neg (by decide), if_neg (by decide)]
    refine ev_istore_n dd_D_say_5 (by decide) ?_
    refine ev_iload_n dd_D_say_6 rfl ?_
    refine ev_if_ge dd_D_say_7 (fun c => absurd c (by decide)) (fun _ => ?_)
    refine ev_aload_n dd_D_say_10 rfl ?_
    refine ev_iload_n dd_D_say_11 rfl ?_
    refine ev_callvV2 [_] dd_D_say_12 ms_D_give iv_D_167 h1.ob h1.tg rfl (Nat.le_of_ble_eq_true rfl) (Nat.le_of_ble_eq_true rfl) (k_D_give h1) (fun w3 h3 => ?_)
    refine ev_goto dd_D_say_15 ?_
    refine ev_vret dd_D_say_38 rfl ?_
    exact ⟨rfl, h3⟩
def rf_num (a : Int32) : Int32 → List rf_m → List rf_m
  | _, [] => []
  | x, μ :: zs => (μ.1, μ.2.1, μ.2.2.1, μ.2.2.2.1, if a = 0 then -1 else (x + 1) &&& 7) :: rf_num a (x + 1) zs
theorem rf_sX_ne (D : rf_C) {r q : Nat} (zs : List rf_m) (h : q ≠ r) : (rf_sX D r zs).2 q = D.2 q := by simp only [rf_sX, if_neg h]
theorem rf_sX_comm (D : rf_C) {r q : Nat} (a b : List rf_m) (h : q ≠ r) : rf_sX (rf_sX D r a) q b = rf_sX (rf_sX D q b) r a := by
  obtain ⟨I, Z⟩ := D
  unfold rf_sX
  congr
  funext p
  by_cases e : p = q
  · subst e
    simp [h]
  · by_cases e2 : p = r
    · subst e2
      simp [e]
    · simp [e, e2]
def rs_mvA (D : rf_C) (s : Nat) (a x : Int32) : rf_C := rf_sX (rf_sX D s []) (12 + s) (D.2 (12 + s) ++ rf_num a x (D.2 s))
def rs_mvB (D : rf_C) (s : Nat) : rf_C := rf_sX (rf_sX D (6 + s) []) (12 + s) (D.2 (12 + s) ++ (D.2 (6 + s)).map rf_n1)
theorem k_D_chA {s : Nat} {a : Int32} (hs : s < 6) : ∀ (zs : List rf_m) (x : Int32) (D : rf_C) (w : ev_wd), D.2 s = zs → (∀ w1 y, rf_K G w1 (rs_mvA D s a x) none F rf_Q0 → ev_E G mm_D_change (d + 1) 144 [(0, .ref (ev_b G + 77)), (1, .int (Int32.ofNat s)), (2, .int a), (3, .int y)] [] w1 P) → rf_K G w D none F rf_Q0 →
    ev_E G mm_D_change (d + 1) 93 [(0, .ref (ev_b G + 77)), (1, .int (Int32.ofNat s)), (2, .int a), (3, .int x)] [] w P := by
  have hr : s < 22 := by omega
  intro zs
  induction zs with
  | nil =>
    intro x D w hz kk h
    refine ev_aload_n dd_D_change_93 rfl ?_
    refine R_gA (k := 11) dd_D_change_94 fr_D_38 h rfl ?_
    refine ev_iload_n dd_D_change_97 rfl ?_
    refine R_sz dd_D_change_98 h hr ?_
    rw [hz]
    refine ev_if_le dd_D_change_99 (fun _ => ?_) (fun c => absurd (by decide) c)
    have e : rs_mvA D s a x = D := by
      unfold rs_mvA
      rw [hz]
      show rf_sX (rf_sX D s []) (12 + s) (D.2 (12 + s) ++ []) = D
      rw [List.append_nil, rf_sX_comm _ _ _ (by omega), rf_sX_same, ← hz, rf_sX_same]
    exact kk w x (by rw [e]; exact h)
  | cons μ zs ih =>
    intro x D w hz kk h
    have hlen := h.len hr
    rw [hz, List.length_cons] at hlen
    refine ev_aload_n dd_D_change_93 rfl ?_
    refine R_gA (k := 11) dd_D_change_94 fr_D_38 h rfl ?_
    refine ev_iload_n dd_D_change_97 rfl ?_
    refine R_sz dd_D_change_98 h hr ?_
    rw [hz]
    refine ev_if_le dd_D_change_99 (fun c => absurd c (nI_nle (by rw [List.length_cons]; omega) (by rw [List.length_cons]; omega))) (fun _ => ?_)
    refine ev_aload_n dd_D_change_102 rfl ?_
    refine ev_iload_n dd_D_change_103 rfl ?_
    refine ev_callv [.int (Int32.ofNat s)] dd_D_change_104 ms_D_shift iv_D_163 h.ob h.tg rfl (Nat.le_of_ble_eq_true rfl) (Nat.le_of_ble_eq_true rfl) (k_D_shift hr hz h) (fun v w1 hp _ _ => ?_) (fun x w3 hp _ _ => by obtain ⟨y, h1, -⟩ := hp; cases h1)
    obtain ⟨m, h1, -, h2⟩ := hp
    cases h1
    have tail : ∀ (w3 : ev_wd), rf_K G w3 (rf_sX D s zs) (some (m, (μ.1, μ.2.1, μ.2.2.1, μ.2.2.2.1, if a = 0 then -1 else (x + 1) &&& 7))) F rf_Q0 → ev_E G mm_D_change (d + 1) 131 [(0, .ref (ev_b G + 77)), (1, .int (Int32.ofNat s)), (2, .int a), (3, .int (x + 1)), (4, .int (Int32.ofNat m))] [] w3 P := by
      intro w3 h3
      refine ev_aload_n dd_D_change_131 rfl ?_
      refine ev_bp (v := 12) dd_D_change_132 (by decide +kernel) ?_
      refine ev_iload_n dd_D_change_134 rfl ?_
      refine ev_iadd dd_D_change_135 ?_
      refine ev_iload dd_D_change_136 rfl ?_
      rw [show (12 : Int32) + Int32.ofNat s = Int32.ofNat (12 + s) from nI_add 12 s]
      refine ev_callvV2 [_, _] dd_D_change_138 ms_D_put iv_D_191 h3.ob h3.tg rfl (Nat.le_of_ble_eq_true rfl) (Nat.le_of_ble_eq_true rfl) (k_D_put (show 12 + s < 22 by omega) h3) (fun w4 h4 => ?_)
      refine ev_goto dd_D_change_141 ?_
      refine ev_loc4 (i0 := 0) (i1 := 1) (i2 := 2) (i3 := 3) rfl rfl rfl rfl ?_
      refine ih (x + 1) _ w4 (by rw [rf_sX_ne _ _ (by omega), rf_sX_at]) (fun w5 y h5 => kk w5 y ?_) h4
      have e : rs_mvA (rf_sX (rf_sX D s zs) (12 + s) ((rf_sX D s zs).2 (12 + s) ++ [(μ.1, μ.2.1, μ.2.2.1, μ.2.2.2.1, if a = 0 then -1 else (x + 1) &&& 7)])) s a (x + 1) = rs_mvA D s a x := by
        unfold rs_mvA
        rw [rf_sX_at, rf_sX_ne _ _ (show s ≠ 12 + s by omega), rf_sX_at, rf_sX_comm _ _ _ (show s ≠ 12 + s by omega), rf_sX_two, rf_sX_two, rf_sX_ne _ _ (show 12 + s ≠ s by omega), hz, List.append_assoc]
        rfl
      rw [← e]
      exact h5
    refine ev_istore dd_D_change_107 (by decide) ?_
    refine ev_iinc dd_D_change_109 rfl (by decide) ?_
    refine ev_aload_n dd_D_change_112 rfl ?_
    refine R_gA (k := 5) dd_D_change_113 fr_D_22 h2 rfl ?_
    refine ev_iload dd_D_change_116 rfl ?_
    refine ev_iload_n dd_D_change_118 rfl ?_
    refine ev_if_eq dd_D_change_119 (fun c => ?_) (fun c => ?_)
    · refine ev_ic (v := (-1)) dd_D_change_129 (by decide +kernel) ?_
      refine R_hn dd_D_change_130 h2 (fun w3 h3 => ?_)
      refine ev_loc5 (i0 := 0) (i1 := 1) (i2 := 2) (i3 := 3) (i4 := 4) rfl rfl rfl (v3 := .int (x + 1)) rfl rfl ?_
      exact tail w3 (by rw [if_pos c]; exact h3)
    · refine ev_iload_n dd_D_change_122 rfl ?_
      refine ev_bp (v := 7) dd_D_change_123 (by decide +kernel) ?_
      refine ev_iand dd_D_change_125 ?_
      refine ev_goto dd_D_change_126 ?_
      refine R_hn dd_D_change_130 h2 (fun w3 h3 => ?_)
      refine ev_loc5 (i0 := 0) (i1 := 1) (i2 := 2) (i3 := 3) (i4 := 4) rfl rfl rfl (v3 := .int (x + 1)) rfl rfl ?_
      exact tail w3 (by rw [if_neg c]; exact h3)
theorem k_D_chB {s : Nat} {a y : Int32} (hs : s < 6) : ∀ (zs : List rf_m) (D : rf_C) (w : ev_wd) (L : List (Nat × Value)), L.lookup 0 = some (.ref (ev_b G + 77)) → L.lookup 1 = some (.int (Int32.ofNat s)) → D.2 (6 + s) = zs → rf_K G w D none F rf_Q0 →
    ev_E G mm_D_change (d + 1) 144 L [] w (rf_yv G F rf_Q0 none (rf_sI (rs_mvB D s) 27 s 0)) := by
  have hr : 6 + s < 22 := by omega
  intro zs
  induction zs with
  | nil =>
    intro D w L l0 l1 hz h
    refine ev_loc2 (i0 := 0) (i1 := 1) l0 l1 ?_
    refine ev_aload_n dd_D_change_144 rfl ?_
    refine R_gA (k := 11) dd_D_change_145 fr_D_38 h rfl ?_
    refine ev_bp (v := 6) dd_D_change_148 (by decide +kernel) ?_
    refine ev_iload_n dd_D_change_150 rfl ?_
    refine ev_iadd dd_D_change_151 ?_
    rw [show (6 : Int32) + Int32.ofNat s = Int32.ofNat (6 + s) from nI_add 6 s]
    refine R_sz dd_D_change_152 h hr ?_
    rw [hz]
    refine ev_if_le dd_D_change_153 (fun _ => ?_) (fun c => absurd (by decide) c)
    refine ev_aload_n dd_D_change_187 rfl ?_
    refine R_gA (k := 27) dd_D_change_188 fr_D_87 h rfl ?_
    refine ev_iload_n dd_D_change_191 rfl ?_
    refine ev_ic (v := 0) dd_D_change_192 (by decide +kernel) ?_
    refine R_st (k := 27) (j := s) dd_D_change_193 h rfl (show s < 6 by omega) (fun w1 h1 => ?_)
    refine ev_vret dd_D_change_194 rfl ?_
    have e : rs_mvB D s = D := by
      unfold rs_mvB
      rw [hz, List.map_nil, List.append_nil, rf_sX_comm _ _ _ (by omega), rf_sX_same, ← hz, rf_sX_same]
    rw [e]
    exact ⟨rfl, h1⟩
  | cons μ zs ih =>
    intro D w L l0 l1 hz h
    have hlen := h.len hr
    rw [hz, List.length_cons] at hlen
    refine ev_loc2 (i0 := 0) (i1 := 1) l0 l1 ?_
    refine ev_aload_n dd_D_change_144 rfl ?_
    refine R_gA (k := 11) dd_D_change_145 fr_D_38 h rfl ?_
    refine ev_bp (v := 6) dd_D_change_148 (by decide +kernel) ?_
    refine ev_iload_n dd_D_change_150 rfl ?_
    refine ev_iadd dd_D_change_151 ?_
    rw [show (6 : Int32) + Int32.ofNat s = Int32.ofNat (6 + s) from nI_add 6 s]
    refine R_sz dd_D_change_152 h hr ?_
    rw [hz]
    refine ev_if_le dd_D_change_153 (fun c => absurd c (nI_nle (by rw [List.length_cons]; omega) (by rw [List.length_cons]; omega))) (fun _ => ?_)
    refine ev_aload_n dd_D_change_156 rfl ?_
    refine ev_bp (v := 6) dd_D_change_157 (by decide +kernel) ?_
    refine ev_iload_n dd_D_change_159 rfl ?_
    refine ev_iadd dd_D_change_160 ?_
    rw [show (6 : Int32) + Int32.ofNat s = Int32.ofNat (6 + s) from nI_add 6 s]
    refine ev_callv [.int (Int32.ofNat (6 + s))] dd_D_change_161 ms_D_shift iv_D_163 h.ob h.tg rfl (Nat.le_of_ble_eq_true rfl) (Nat.le_of_ble_eq_true rfl) (k_D_shift hr hz h) (fun v w1 hp _ _ => ?_) (fun x w3 hp _ _ => by obtain ⟨y, h1, -⟩ := hp; cases h1)
    obtain ⟨m, h1, -, h2⟩ := hp
    cases h1
    refine ev_istore dd_D_change_164 (by decide) ?_
    refine ev_aload_n dd_D_change_166 rfl ?_
    refine R_gA (k := 5) dd_D_change_167 fr_D_22 h2 rfl ?_
    refine ev_iload dd_D_change_170 rfl ?_
    refine ev_ic (v := (-1)) dd_D_change_172 (by decide +kernel) ?_
    refine R_hn dd_D_change_173 h2 (fun w3 h3 => ?_)
    refine ev_aload_n dd_D_change_174 rfl ?_
    refine ev_bp (v := 12) dd_D_change_175 (by decide +kernel) ?_
    refine ev_iload_n dd_D_change_177 rfl ?_
    refine ev_iadd dd_D_change_178 ?_
    refine ev_iload dd_D_change_179 rfl ?_
    rw [show (12 : Int32) + Int32.ofNat s = Int32.ofNat (12 + s) from nI_add 12 s]
    refine ev_callvV2 [_, _] dd_D_change_181 ms_D_put iv_D_191 h3.ob h3.tg rfl (Nat.le_of_ble_eq_true rfl) (Nat.le_of_ble_eq_true rfl) (k_D_put (show 12 + s < 22 by omega) h3) (fun w4 h4 => ?_)
    refine ev_goto dd_D_change_184 ?_
    have e : rs_mvB (rf_sX (rf_sX D (6 + s) zs) (12 + s) ((rf_sX D (6 + s) zs).2 (12 + s) ++ [rf_n1 μ])) s = rs_mvB D s := by
      unfold rs_mvB
      rw [rf_sX_at, rf_sX_ne _ _ (show 6 + s ≠ 12 + s by omega), rf_sX_at, rf_sX_comm _ _ _ (show 6 + s ≠ 12 + s by omega), rf_sX_two, rf_sX_two, rf_sX_ne _ _ (show 12 + s ≠ 6 + s by omega), hz, List.append_assoc]
      rfl
    rw [← e]
    exact ih _ w4 _ rfl rfl (by rw [rf_sX_ne _ _ (by omega), rf_sX_at]) h4
def rs_chN (D : rf_C) (s : Nat) : rf_C := rf_sI (rf_sI (rf_sI (rf_sI (rf_sI D 42 s 1) 44 s 0) 45 s (D.1 14 s)) 46 s (D.1 15 s)) 47 s (D.1 18 s)
def rs_ch1 (D : rf_C) (s : Nat) (a : Int32) : rf_C := rf_sI (rs_mvB (rs_mvA (rf_sI D 43 s 0) s a (D.1 17 s - Int32.ofNat (D.2 s).length + 8)) s) 27 s 0
def rs_change (D : rf_C) (s : Nat) : rf_C := if D.1 42 s = 0 then rs_ch1 (rs_chN D s) s 1 else rs_ch1 D s 0
theorem k_D_ch1 {s : Nat} {a : Int32} (hs : s < 6) (h : rf_K G w D none F rf_Q0) : ev_E G mm_D_change (d + 1) 69 [(0, .ref (ev_b G + 77)), (1, .int (Int32.ofNat s)), (2, .int a)] [] w (rf_yv G F rf_Q0 none (rs_ch1 D s a)) := by
  unfold rs_ch1
  refine ev_aload_n dd_D_change_69 rfl ?_
  refine R_gA (k := 43) dd_D_change_70 fr_D_135 h rfl ?_
  refine ev_iload_n dd_D_change_73 rfl ?_
  refine ev_ic (v := 0) dd_D_change_74 (by decide +kernel) ?_
  refine R_stz (k := 43) (j := s) dd_D_change_75 h rfl (show s < 6 by omega) rfl (fun w1 h1 => ?_)
  refine ev_aload_n dd_D_change_76 rfl ?_
  refine R_gA (k := 17) dd_D_change_77 fr_D_57 h1 rfl ?_
  refine ev_iload_n dd_D_change_80 rfl ?_
  refine R_ld (k := 17) (j := s) dd_D_change_81 h1 rfl (show s < 6 by omega) ?_
  refine ev_aload_n dd_D_change_82 rfl ?_
  refine R_gA (k := 11) dd_D_change_83 fr_D_38 h1 rfl ?_
  refine ev_iload_n dd_D_change_86 rfl ?_
  refine R_sz (r := s) dd_D_change_87 h1 (by omega) ?_
  refine ev_isub dd_D_change_88 ?_
  refine ev_bp (v := 8) dd_D_change_89 (by decide +kernel) ?_
  refine ev_iadd dd_D_change_91 ?_
  refine ev_istore_n dd_D_change_92 (by decide) ?_
  refine ev_loc4 (i0 := 0) (i1 := 1) (i2 := 2) (i3 := 3) rfl rfl rfl (v3 := .int (D.1 17 s - Int32.ofNat (D.2 s).length + 8)) rfl ?_
  refine k_D_chA hs _ _ _ w1 rfl (fun w2 y h2 => ?_) h1
  exact k_D_chB (a := a) (y := y) hs _ _ w2 _ rfl rfl rfl h2
theorem k_D_change {s : Nat} (hs : s < 6) (h : rf_K G w D none F rf_Q0) : ev_E G mm_D_change (d + 1) 0 (lv_args 0 [.ref (ev_b G + 77), .int (Int32.ofNat s)]) [] w (rf_yv G F rf_Q0 none (rs_change D s)) := by
  unfold rs_change
  refine ev_aload_n dd_D_change_0 rfl ?_
  refine R_gA (k := 42) dd_D_change_1 fr_D_132 h rfl ?_
  refine ev_iload_n dd_D_change_4 rfl ?_
  refine R_ld (k := 42) (j := s) dd_D_change_5 h rfl (show s < 6 by omega) ?_
  refine ev_if_ne dd_D_change_6 (fun c => ?_) (fun c => ?_)
  · rw [if_neg c]
    refine ev_ic (v := 0) dd_D_change_13 (by decide +kernel) ?_
    refine ev_istore_n dd_D_change_14 (by decide) ?_
    refine ev_iload_n dd_D_change_15 rfl ?_
    refine ev_if_eq dd_D_change_16 (fun _ => ?_) (fun c2 => absurd rfl c2)
    refine ev_loc3 (i0 := 0) (i1 := 1) (i2 := 2) rfl rfl rfl ?_
    exact k_D_ch1 hs h
  · rw [if_pos c]
    refine ev_ic (v := 1) dd_D_change_9 (by decide +kernel) ?_
    refine ev_goto dd_D_change_10 ?_
    refine ev_istore_n dd_D_change_14 (by decide) ?_
    refine ev_iload_n dd_D_change_15 rfl ?_
    refine ev_if_eq dd_D_change_16 (fun c2 => absurd c2 (by decide)) (fun _ => ?_)
    refine ev_aload_n dd_D_change_19 rfl ?_
    refine R_gA (k := 42) dd_D_change_20 fr_D_132 h rfl ?_
    refine ev_iload_n dd_D_change_23 rfl ?_
    refine ev_ic (v := 1) dd_D_change_24 (by decide +kernel) ?_
    refine R_st (k := 42) (j := s) dd_D_change_25 h rfl (show s < 6 by omega) (fun w1 h1 => ?_)
    refine ev_aload_n dd_D_change_26 rfl ?_
    refine R_gA (k := 44) dd_D_change_27 fr_D_138 h1 rfl ?_
    refine ev_iload_n dd_D_change_30 rfl ?_
    refine ev_ic (v := 0) dd_D_change_31 (by decide +kernel) ?_
    refine R_st (k := 44) (j := s) dd_D_change_32 h1 rfl (show s < 6 by omega) (fun w2 h2 => ?_)
    refine ev_aload_n dd_D_change_33 rfl ?_
    refine R_gA (k := 45) dd_D_change_34 fr_D_141 h2 rfl ?_
    refine ev_iload_n dd_D_change_37 rfl ?_
    refine ev_aload_n dd_D_change_38 rfl ?_
    refine R_gA (k := 14) dd_D_change_39 fr_D_47 h2 rfl ?_
    refine ev_iload_n dd_D_change_42 rfl ?_
    refine R_ld (k := 14) (j := s) dd_D_change_43 h2 rfl (show s < 6 by omega) ?_
    refine R_st (k := 45) (j := s) dd_D_change_44 h2 rfl (show s < 6 by omega) (fun w3 h3 => ?_)
    refine ev_aload_n dd_D_change_45 rfl ?_
    refine R_gA (k := 46) dd_D_change_46 fr_D_144 h3 rfl ?_
    refine ev_iload_n dd_D_change_49 rfl ?_
    refine ev_aload_n dd_D_change_50 rfl ?_
    refine R_gA (k := 15) dd_D_change_51 fr_D_50 h3 rfl ?_
    refine ev_iload_n dd_D_change_54 rfl ?_
    refine R_ld (k := 15) (j := s) dd_D_change_55 h3 rfl (show s < 6 by omega) ?_
    refine R_st (k := 46) (j := s) dd_D_change_56 h3 rfl (show s < 6 by omega) (fun w4 h4 => ?_)
    refine ev_aload_n dd_D_change_57 rfl ?_
    refine R_gA (k := 47) dd_D_change_58 fr_D_147 h4 rfl ?_
    refine ev_iload_n dd_D_change_61 rfl ?_
    refine ev_aload_n dd_D_change_62 rfl ?_
    refine R_gA (k := 18) dd_D_change_63 fr_D_60 h4 rfl ?_
    refine ev_iload_n dd_D_change_66 rfl ?_
    refine R_ld (k := 18) (j := s) dd_D_change_67 h4 rfl (show s < 6 by omega) ?_
    refine R_st (k := 47) (j := s) dd_D_change_68 h4 rfl (show s < 6 by omega) (fun w5 h5 => ?_)
    refine ev_loc3 (i0 := 0) (i1 := 1) (i2 := 2) rfl rfl rfl ?_
    have h6 : rf_K G w5 (rs_chN D s) none F rf_Q0 := h5
    exact k_D_ch1 hs h6
end RfU
