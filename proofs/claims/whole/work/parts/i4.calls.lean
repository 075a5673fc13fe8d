/-! the law: each call, the two side by side -/
theorem isSide0 {x y : Int32} (h : ¬ (cr_iv x 3 ∧ cr_iv y 2)) : rs_D_isSide x y = 0 := by
  unfold rs_D_isSide
  by_cases c1 : x < 0
  · rw [if_pos c1]
  · rw [if_neg c1]
    by_cases c2 : 3 ≤ x
    · rw [if_pos c2]
    · rw [if_neg c2]
      by_cases c3 : y < 0
      · rw [if_pos c3]
      · rw [if_neg c3]
        by_cases c4 : 2 ≤ y
        · rw [if_pos c4]
        · exact absurd ⟨⟨c1, Int32.not_le.mp c2⟩, ⟨c3, Int32.not_le.mp c4⟩⟩ h
theorem isClass0 {x y : Int32} (h : ¬ (cr_iv y 4 ∧ cr_iv x 2)) : rs_D_isClass x y = 0 := by
  unfold rs_D_isClass
  by_cases c1 : x < 0
  · rw [if_pos c1]
  · rw [if_neg c1]
    by_cases c2 : 2 ≤ x
    · rw [if_pos c2]
    · rw [if_neg c2]
      by_cases c3 : y < 0
      · rw [if_pos c3]
      · rw [if_neg c3]
        by_cases c4 : 4 ≤ y
        · rw [if_pos c4]
        · exact absurd ⟨⟨c3, Int32.not_le.mp c4⟩, ⟨c1, Int32.not_le.mp c2⟩⟩ h
theorem isEnd0 {x : Int32} (h : ¬ cr_iv x 2) : rs_D_isEnd x = 0 := by
  unfold rs_D_isEnd
  by_cases c1 : x = 0
  · exact absurd (by rw [c1]; exact ⟨by decide, by decide⟩) h
  · rw [if_neg c1]
    by_cases c2 : x = 1
    · exact absurd (by rw [c2]; exact ⟨by decide, by decide⟩) h
    · rw [if_neg c2]
theorem iv2 {y : Int32} {N : Nat} (hN : N < 2 ^ 31) (h : cr_iv y N) : ∃ e, e < N ∧ y = Int32.ofNat e := cr_iv_of hN h
section Law4
variable {G : ev_gx} {d : Nat} {w : ev_wd} {P : ev_r → ev_wd → Prop} {q0 mi n bb Ls m : Nat} {C : cr_C} {D : rf_C} {o : Int64} {xs : Nat → Int32} {hh : List (Nat × Nat × Nat × Nat)}
def KK (G : ev_gx) (q0 bb m d : Nat) (hh : List (Nat × Nat × Nat × Nat)) (P : ev_r → ev_wd → Prop) : Prop := ∀ w' C' n' D' o', LW G q0 w' C' n' D' o' → RR (m + 1) C' D' → ib C' → n' ≤ 12 * (m + 1) → ev_E G (mm_W hh) (d + 15) 890 (L5 G bb m) [] w' P
theorem do_start (hq : q0 < ev_b G) (J : ev_J G q0 mi) (Y : ev_Y G) (Y2 : ev_Y2 G) (hX : va_X bb Ls xs (ev_s0 G) (ev_s0 G).heap) (hbl : bb < ev_b G) (hL : Ls ≤ 2560) (hm : 5 * m + 5 ≤ Ls) (h : LW G q0 w C n D o) (hR : RR m C D) (hI : ib C) (hn : n ≤ 12 * m) (kk : KK G q0 bb m d hh P) : ev_E G (mm_W hh) (d + 15) 104 (L5 G bb m) [] w P := by
  have hm1 : m ≤ 511 := by omega
  by_cases hv : cr_iv (xs (5 * m + 1)) 3 ∧ cr_iv (xs (5 * m + 2)) 2
  · obtain ⟨l, hl, e1⟩ := iv2 (by decide) hv.1
    obtain ⟨e, he, e2⟩ := iv2 (by decide) hv.2
    obtain ⟨k1, k2⟩ := hR.start hl he
    exact lc_start (kv := 0) (ov := if (cs_P_start C l e).1 = 0 then 0 else 1) (rv := (rs_D_start D l e).1) (D' := (rs_D_start D l e).2) (C' := (cs_P_start C l e).2) (n' := n) hq hX hbl hL hm h (by rw [e1, e2]; exact h_start_y (v := (cs_P_start C l e).1) hq h (k_P_start hq hl he h.1)) (fun w1 h1 => by rw [e1, e2]; exact k_D_start hl he h1) (z_start D l e) (fun _ => by rw [k1]) (fun w' o' h' => kk w' _ _ _ o' h' k2 (ib_start hI hl he) (by omega))
  · have hno := isSide0 hv
    exact lc_start (kv := 1) (ov := 0) (rv := 0) (D' := rf_sI D 0 0 1) (C' := C) (n' := n + 1) hq hX hbl hL hm h (h_start_n h (k_P_start_no Y hq (by omega) hv h.1)) (fun w1 h1 => k_D_start_no _ _ hno h1) (rf_sI_at _ _ _ _) (fun c => absurd c (by decide)) (fun w' o' h' => kk w' _ _ _ o' h' (hR.same _) hI (by omega))
theorem do_stop (hq : q0 < ev_b G) (J : ev_J G q0 mi) (Y : ev_Y G) (Y2 : ev_Y2 G) (hX : va_X bb Ls xs (ev_s0 G) (ev_s0 G).heap) (hbl : bb < ev_b G) (hL : Ls ≤ 2560) (hm : 5 * m + 5 ≤ Ls) (h : LW G q0 w C n D o) (hR : RR m C D) (hI : ib C) (hn : n ≤ 12 * m) (kk : KK G q0 bb m d hh P) : ev_E G (mm_W hh) (d + 15) 179 (L5 G bb m) [] w P := by
  have hm1 : m ≤ 511 := by omega
  by_cases hv : cr_iv (xs (5 * m + 1)) 3 ∧ cr_iv (xs (5 * m + 2)) 2
  · obtain ⟨l, hl, e1⟩ := iv2 (by decide) hv.1
    obtain ⟨e, he, e2⟩ := iv2 (by decide) hv.2
    obtain ⟨k0, k1, k2⟩ := hR.stop (by omega) hl he
    exact lc_stop (kv := 0) (ov := if (cs_P_stop C l e).1 = 0 then 0 else 1) (rv := (rs_D_stop D l e).1) (D' := (rs_D_stop D l e).2) (C' := (cs_P_stop C l e).2) (n' := n) hq hX hbl hL hm h (by rw [e1, e2]; exact h_stop_y (v := (cs_P_stop C l e).1) hq h (k_P_stop hq J (by omega) (hR.zC (by omega)) hl he h.1)) (fun w1 h1 => by rw [e1, e2]; exact k_D_stop hl he k0 h1) (z_stop D l e) (fun _ => by rw [k1]) (fun w' o' h' => kk w' _ _ _ o' h' k2 (ib_stop hI hl he) (by omega))
  · have hno := isSide0 hv
    exact lc_stop (kv := 1) (ov := 0) (rv := 0) (D' := rf_sI D 0 0 1) (C' := C) (n' := n + 1) hq hX hbl hL hm h (h_stop_n h (k_P_stop_no Y hq (by omega) hv h.1)) (fun w1 h1 => k_D_stop_no _ _ hno h1) (rf_sI_at _ _ _ _) (fun c => absurd c (by decide)) (fun w' o' h' => kk w' _ _ _ o' h' (hR.same _) hI (by omega))
theorem do_fault (hq : q0 < ev_b G) (J : ev_J G q0 mi) (Y : ev_Y G) (Y2 : ev_Y2 G) (hX : va_X bb Ls xs (ev_s0 G) (ev_s0 G).heap) (hbl : bb < ev_b G) (hL : Ls ≤ 2560) (hm : 5 * m + 5 ≤ Ls) (h : LW G q0 w C n D o) (hR : RR m C D) (hI : ib C) (hn : n ≤ 12 * m) (kk : KK G q0 bb m d hh P) : ev_E G (mm_W hh) (d + 15) 254 (L5 G bb m) [] w P := by
  have hm1 : m ≤ 511 := by omega
  by_cases hv : cr_iv (xs (5 * m + 1)) 3 ∧ cr_iv (xs (5 * m + 2)) 2
  · obtain ⟨l, hl, e1⟩ := iv2 (by decide) hv.1
    obtain ⟨e, he, e2⟩ := iv2 (by decide) hv.2
    by_cases hxy : ¬ (xs (5 * m + 3)) < 0 ∧ ¬ 2 < (xs (5 * m + 3)) ∧ ¬ (xs (5 * m + 4)) < 0 ∧ (xs (5 * m + 4)) ≤ 99
    · have k2 := hR.fault hl he hxy
      have kz : (rs_D_fault D l e (xs (5 * m + 3)) (xs (5 * m + 4))).1 0 0 = 0 := by
        unfold rs_D_fault
        rw [if_neg hxy.1, if_neg hxy.2.1, if_neg hxy.2.2.1, if_pos hxy.2.2.2, rf_sI_ne _ _ (by omega), rf_sI_ne _ _ (by omega), rf_sI_at]
      exact lc_fault (kv := 0) (ov := o) (D' := rs_D_fault D l e (xs (5 * m + 3)) (xs (5 * m + 4))) (C' := cs_P_fault C l e (xs (5 * m + 3)) (xs (5 * m + 4))) (n' := n) hq hX hbl hL hm h (by rw [e1, e2]; exact h_fault_y h (k_P_fault hq hxy hl he h.1)) (fun w1 h1 => by rw [e1, e2]; exact k_D_fault hl he _ _ h1) kz (fun w' o' h' => kk w' _ _ _ o' h' k2 hI (by omega))
    · have kf : rs_D_fault D l e (xs (5 * m + 3)) (xs (5 * m + 4)) = rf_sI D 0 0 2 := by
        unfold rs_D_fault
        by_cases c1 : (xs (5 * m + 3)) < 0
        · rw [if_pos c1]
        · rw [if_neg c1]
          by_cases c2 : 2 < (xs (5 * m + 3))
          · rw [if_pos c2]
          · rw [if_neg c2]
            by_cases c3 : (xs (5 * m + 4)) < 0
            · rw [if_pos c3]
            · rw [if_neg c3]
              by_cases c4 : (xs (5 * m + 4)) ≤ 99
              · exact absurd ⟨c1, c2, c3, c4⟩ hxy
              · rw [if_neg c4]
      exact lc_fault (kv := 2) (ov := 0) (D' := rf_sI D 0 0 2) (C' := C) (n' := n + 1) hq hX hbl hL hm h (by rw [e1, e2]; exact h_fault_n2 Y2 h (k_P_fault_no2 Y hq (by omega) hl he hxy h.1)) (fun w1 h1 => by rw [e1, e2, ← kf]; exact k_D_fault hl he _ _ h1) (rf_sI_at _ _ _ _) (fun w' o' h' => kk w' _ _ _ o' h' (hR.same _) hI (by omega))
  · have hno := isSide0 hv
    exact lc_fault (kv := 1) (ov := 0) (D' := rf_sI D 0 0 1) (C' := C) (n' := n + 1) hq hX hbl hL hm h (h_fault_n h (k_P_fault_no Y hq (by omega) hv h.1)) (fun w1 h1 => k_D_fault_no _ _ _ _ hno h1) (rf_sI_at _ _ _ _) (fun w' o' h' => kk w' _ _ _ o' h' (hR.same _) hI (by omega))
theorem do_submit (hq : q0 < ev_b G) (J : ev_J G q0 mi) (Y : ev_Y G) (Y2 : ev_Y2 G) (hX : va_X bb Ls xs (ev_s0 G) (ev_s0 G).heap) (hbl : bb < ev_b G) (hL : Ls ≤ 2560) (hm : 5 * m + 5 ≤ Ls) (h : LW G q0 w C n D o) (hR : RR m C D) (hI : ib C) (hn : n ≤ 12 * m) (kk : KK G q0 bb m d hh P) : ev_E G (mm_W hh) (d + 15) 326 (L5 G bb m) [] w P := by
  have hm1 : m ≤ 511 := by omega
  by_cases hv : cr_iv (xs (5 * m + 2)) 4 ∧ cr_iv (xs (5 * m + 1)) 2
  · obtain ⟨k, hk, e2⟩ := iv2 (by decide) hv.1
    obtain ⟨e, he, e1⟩ := iv2 (by decide) hv.2
    obtain ⟨k0, kL, k1, k2⟩ := hR.submit (by omega) he hk (xs (5 * m + 3))
    exact lc_submit (kv := 0) (ov := if (cs_E_accept C e k (xs (5 * m + 3))).1 = 0 then 0 else 1) (rv := (rs_submit D e k (xs (5 * m + 3))).1) (D' := (rs_submit D e k (xs (5 * m + 3))).2) (C' := (cs_E_accept C e k (xs (5 * m + 3))).2) (n' := n + 1) hq hX hbl hL hm h (by rw [e1, e2]; exact h_submit_y (v := (cs_E_accept C e k (xs (5 * m + 3))).1) hq h (k_P_submit hq J (by omega) hk he _ hR.2.1.1.1.1 (hR.zC (by omega)) h.1)) (fun w1 h1 => by rw [e1, e2]; exact k_D_submit he hk k0 kL h1) (z_submit D e k _) (fun _ => by rw [k1]) (fun w' o' h' => kk w' _ _ _ o' h' k2 (ib_accept hR.2.1.1.1.1 hI _ he hk) (by omega))
  · have hno := isClass0 hv
    exact lc_submit (kv := 1) (ov := 0) (rv := 0) (D' := rf_sI D 0 0 1) (C' := C) (n' := n + 1) hq hX hbl hL hm h (h_submit_n h (k_P_submit_no Y hq (by omega) hv h.1)) (fun w1 h1 => k_D_submit_no _ _ _ hno h1) (rf_sI_at _ _ _ _) (fun c => absurd c (by decide)) (fun w' o' h' => kk w' _ _ _ o' h' (hR.same _) hI (by omega))
theorem do_state (hq : q0 < ev_b G) (J : ev_J G q0 mi) (Y : ev_Y G) (Y2 : ev_Y2 G) (hX : va_X bb Ls xs (ev_s0 G) (ev_s0 G).heap) (hbl : bb < ev_b G) (hL : Ls ≤ 2560) (hm : 5 * m + 5 ≤ Ls) (h : LW G q0 w C n D o) (hR : RR m C D) (hI : ib C) (hn : n ≤ 12 * m) (kk : KK G q0 bb m d hh P) : ev_E G (mm_W hh) (d + 15) 426 (L5 G bb m) [] w P := by
  have hm1 : m ≤ 511 := by omega
  by_cases hv : cr_iv (xs (5 * m + 1)) 3 ∧ cr_iv (xs (5 * m + 2)) 2
  · obtain ⟨l, hl, e1⟩ := iv2 (by decide) hv.1
    obtain ⟨e, he, e2⟩ := iv2 (by decide) hv.2
    have ev : (rf_sI D 0 0 0).1 12 (2 * l + e) = C.1 1 (2 * l + e) 0 := by rw [rf_sI_ne _ _ (by omega)]; exact hR.1.g (k := 0) (by omega) (by omega)
    exact lc_state (kv := 0) (ov := (C.1 1 (2 * l + e) 0).toInt64) (rv := (rf_sI D 0 0 0).1 12 (2 * l + e)) (D' := rf_sI D 0 0 0) (C' := C) (n' := n) hq hX hbl hL hm h (by rw [e1, e2]; exact h_state_y (v := C.1 1 (2 * l + e) 0) hq h (k_P_state hl he h.1)) (fun w1 h1 => by rw [e1, e2]; exact k_D_state hl he h1) (rf_sI_at _ _ _ _) (fun _ => by rw [ev]) (fun w' o' h' => kk w' _ _ _ o' h' (hR.same _) hI (by omega))
  · have hno := isSide0 hv
    exact lc_state (kv := 1) (ov := 0) (rv := 0) (D' := rf_sI D 0 0 1) (C' := C) (n' := n + 1) hq hX hbl hL hm h (h_state_n h (k_P_state_no Y hq (by omega) hv h.1)) (fun w1 h1 => k_D_state_no _ _ hno h1) (rf_sI_at _ _ _ _) (fun c => absurd c (by decide)) (fun w' o' h' => kk w' _ _ _ o' h' (hR.same _) hI (by omega))
theorem do_changes (hq : q0 < ev_b G) (J : ev_J G q0 mi) (Y : ev_Y G) (Y2 : ev_Y2 G) (hX : va_X bb Ls xs (ev_s0 G) (ev_s0 G).heap) (hbl : bb < ev_b G) (hL : Ls ≤ 2560) (hm : 5 * m + 5 ≤ Ls) (h : LW G q0 w C n D o) (hR : RR m C D) (hI : ib C) (hn : n ≤ 12 * m) (kk : KK G q0 bb m d hh P) : ev_E G (mm_W hh) (d + 15) 642 (L5 G bb m) [] w P := by
  have hm1 : m ≤ 511 := by omega
  by_cases hv : cr_iv (xs (5 * m + 1)) 3 ∧ cr_iv (xs (5 * m + 2)) 2
  · obtain ⟨l, hl, e1⟩ := iv2 (by decide) hv.1
    obtain ⟨e, he, e2⟩ := iv2 (by decide) hv.2
    have ev : (rf_sI D 0 0 0).1 42 (2 * l + e) = cs_P_changes C (2 * l + e) := by rw [rf_sI_ne _ _ (by omega)]; exact (hR.1.1 _ (by omega)).2.1.2.2.2.2.2.1
    exact lc_changes (kv := 0) (ov := (cs_P_changes C (2 * l + e)).toInt64) (rv := (rf_sI D 0 0 0).1 42 (2 * l + e)) (D' := rf_sI D 0 0 0) (C' := C) (n' := n) hq hX hbl hL hm h (by rw [e1, e2]; exact h_changes_y (v := cs_P_changes C (2 * l + e)) hq h (k_P_changes hl he h.1)) (fun w1 h1 => by rw [e1, e2]; exact k_D_changes hl he h1) (rf_sI_at _ _ _ _) (fun _ => by rw [ev]) (fun w' o' h' => kk w' _ _ _ o' h' (hR.same _) hI (by omega))
  · have hno := isSide0 hv
    exact lc_changes (kv := 1) (ov := 0) (rv := 0) (D' := rf_sI D 0 0 1) (C' := C) (n' := n + 1) hq hX hbl hL hm h (h_changes_n h (k_P_changes_no Y hq (by omega) hv h.1)) (fun w1 h1 => k_D_changes_no _ _ hno h1) (rf_sI_at _ _ _ _) (fun c => absurd c (by decide)) (fun w' o' h' => kk w' _ _ _ o' h' (hR.same _) hI (by omega))
theorem do_link (hq : q0 < ev_b G) (J : ev_J G q0 mi) (Y : ev_Y G) (Y2 : ev_Y2 G) (hX : va_X bb Ls xs (ev_s0 G) (ev_s0 G).heap) (hbl : bb < ev_b G) (hL : Ls ≤ 2560) (hm : 5 * m + 5 ≤ Ls) (h : LW G q0 w C n D o) (hR : RR m C D) (hI : ib C) (hn : n ≤ 12 * m) (kk : KK G q0 bb m d hh P) : ev_E G (mm_W hh) (d + 15) 574 (L5 G bb m) [] w P := by
  have hm1 : m ≤ 511 := by omega
  by_cases hv : cr_iv (xs (5 * m + 2)) 4 ∧ cr_iv (xs (5 * m + 1)) 2
  · obtain ⟨k, hk, e2⟩ := iv2 (by decide) hv.1
    obtain ⟨e, he, e1⟩ := iv2 (by decide) hv.2
    have ev : (rf_sI D 0 0 0).1 48 (4 * e + k) = C.1 7 e k := by rw [rf_sI_ne _ _ (by omega)]; exact hR.1.2.2.1 e k he hk
    exact lc_link (kv := 0) (ov := (C.1 7 e k).toInt64) (rv := (rf_sI D 0 0 0).1 48 (4 * e + k)) (D' := rf_sI D 0 0 0) (C' := C) (n' := n) hq hX hbl hL hm h (by rw [e1, e2]; exact h_link_y (v := C.1 7 e k) hq h (k_P_link hk he h.1)) (fun w1 h1 => by rw [e1, e2]; exact k_D_link he hk h1) (rf_sI_at _ _ _ _) (fun _ => by rw [ev]) (fun w' o' h' => kk w' _ _ _ o' h' (hR.same _) hI (by omega))
  · have hno := isClass0 hv
    exact lc_link (kv := 1) (ov := 0) (rv := 0) (D' := rf_sI D 0 0 1) (C' := C) (n' := n + 1) hq hX hbl hL hm h (h_link_n h (k_P_link_no Y hq (by omega) hv h.1)) (fun w1 h1 => k_D_link_no _ _ hno h1) (rf_sI_at _ _ _ _) (fun c => absurd c (by decide)) (fun w' o' h' => kk w' _ _ _ o' h' (hR.same _) hI (by omega))
theorem do_held (hq : q0 < ev_b G) (J : ev_J G q0 mi) (Y : ev_Y G) (Y2 : ev_Y2 G) (hX : va_X bb Ls xs (ev_s0 G) (ev_s0 G).heap) (hbl : bb < ev_b G) (hL : Ls ≤ 2560) (hm : 5 * m + 5 ≤ Ls) (h : LW G q0 w C n D o) (hR : RR m C D) (hI : ib C) (hn : n ≤ 12 * m) (kk : KK G q0 bb m d hh P) : ev_E G (mm_W hh) (d + 15) 710 (L5 G bb m) [] w P := by
  have hm1 : m ≤ 511 := by omega
  by_cases hv : cr_iv (xs (5 * m + 1)) 2
  · obtain ⟨e, he, e1⟩ := iv2 (by decide) hv
    have ev : Int32.ofNat ((rf_sI D 0 0 0).2 (18 + e)).length = Int32.ofNat (C.2.1 (18 + e)).length := by rw [show (rf_sI D 0 0 0).2 (18 + e) = D.2 (18 + e) from rfl, hR.1.2.1 (18 + e) (by omega) (by omega), List.length_map]
    exact lc_held (kv := 0) (ov := (Int32.ofNat (C.2.1 (18 + e)).length).toInt64) (rv := Int32.ofNat ((rf_sI D 0 0 0).2 (18 + e)).length) (D' := rf_sI D 0 0 0) (C' := C) (n' := n) hq hX hbl hL hm h (by rw [e1]; exact h_held_y (v := Int32.ofNat (C.2.1 (18 + e)).length) hq h (k_P_held he h.1)) (fun w1 h1 => by rw [e1]; exact k_D_held he h1) (rf_sI_at _ _ _ _) (fun _ => by rw [ev]) (fun w' o' h' => kk w' _ _ _ o' h' (hR.same _) hI (by omega))
  · have hno := isEnd0 hv
    exact lc_held (kv := 1) (ov := 0) (rv := 0) (D' := rf_sI D 0 0 1) (C' := C) (n' := n + 1) hq hX hbl hL hm h (h_held_n h (k_P_held_no Y hq (by omega) hv h.1)) (fun w1 h1 => k_D_held_no _ hno h1) (rf_sI_at _ _ _ _) (fun c => absurd c (by decide)) (fun w' o' h' => kk w' _ _ _ o' h' (hR.same _) hI (by omega))
theorem do_inbox (hq : q0 < ev_b G) (J : ev_J G q0 mi) (Y : ev_Y G) (Y2 : ev_Y2 G) (hX : va_X bb Ls xs (ev_s0 G) (ev_s0 G).heap) (hbl : bb < ev_b G) (hL : Ls ≤ 2560) (hm : 5 * m + 5 ≤ Ls) (h : LW G q0 w C n D o) (hR : RR m C D) (hI : ib C) (hn : n ≤ 12 * m) (kk : KK G q0 bb m d hh P) : ev_E G (mm_W hh) (d + 15) 766 (L5 G bb m) [] w P := by
  have hm1 : m ≤ 511 := by omega
  by_cases hv : cr_iv (xs (5 * m + 1)) 2
  · obtain ⟨e, he, e1⟩ := iv2 (by decide) hv
    have ev : Int32.ofNat ((rf_sI D 0 0 0).2 (20 + e)).length = Int32.ofNat (C.2.1 (20 + e)).length := by rw [show (rf_sI D 0 0 0).2 (20 + e) = D.2 (20 + e) from rfl, hR.1.2.1 (20 + e) (by omega) (by omega), List.length_map]
    exact lc_inbox (kv := 0) (ov := (Int32.ofNat (C.2.1 (20 + e)).length).toInt64) (rv := Int32.ofNat ((rf_sI D 0 0 0).2 (20 + e)).length) (D' := rf_sI D 0 0 0) (C' := C) (n' := n) hq hX hbl hL hm h (by rw [e1]; exact h_inbox_y (v := Int32.ofNat (C.2.1 (20 + e)).length) hq h (k_P_inbox he h.1)) (fun w1 h1 => by rw [e1]; exact k_D_inbox he h1) (rf_sI_at _ _ _ _) (fun _ => by rw [ev]) (fun w' o' h' => kk w' _ _ _ o' h' (hR.same _) hI (by omega))
  · have hno := isEnd0 hv
    exact lc_inbox (kv := 1) (ov := 0) (rv := 0) (D' := rf_sI D 0 0 1) (C' := C) (n' := n + 1) hq hX hbl hL hm h (h_inbox_n h (k_P_inbox_no Y hq (by omega) hv h.1)) (fun w1 h1 => k_D_inbox_no _ hno h1) (rf_sI_at _ _ _ _) (fun c => absurd c (by decide)) (fun w' o' h' => kk w' _ _ _ o' h' (hR.same _) hI (by omega))
theorem of_eq (hR : RR m C D) {l e j : Nat} (hl : l < 3) (he : e < 2) (hj : j < 13) {w1 : ev_wd} (h1 : rf_K G w1 D none w1 rf_Q0) : ev_E G mm_D_of (d + 1) 0 (lv_args 0 (.ref (ev_b G + 77) :: [.int (Int32.ofNat l), .int (Int32.ofNat e), .int (Int32.ofNat j)])) [] w1 (rf_yi G w1 rf_Q0 none (cs_P_of C (2 * l + e) j, rf_sI D 0 0 0)) := by
  have hs : 2 * l + e < 6 := by omega
  rcases (show j = 0 ∨ j = 1 ∨ j = 2 ∨ j = 3 ∨ j = 4 ∨ j = 5 ∨ j = 6 ∨ j = 7 ∨ j = 8 ∨ j = 9 ∨ j = 10 ∨ j = 11 ∨ j = 12 by omega) with rfl | rfl | rfl | rfl | rfl | rfl | rfl | rfl | rfl | rfl | rfl | rfl | rfl
  · rw [show cs_P_of C (2 * l + e) 0 = (rf_sI D 0 0 0).1 13 (2 * l + e) from by rw [rf_sI_ne _ _ (by omega)]; exact (hR.1.g (k := 1) hs (by omega)).symm]
    exact k_D_of0 hl he h1
  · rw [show cs_P_of C (2 * l + e) 1 = (rf_sI D 0 0 0).1 21 (2 * l + e) from by rw [rf_sI_ne _ _ (by omega)]; exact (hR.1.g (k := 8) hs (by omega)).symm]
    exact k_D_of1 hl he h1
  · rw [show cs_P_of C (2 * l + e) 2 = (rf_sI D 0 0 0).1 22 (2 * l + e) from by rw [rf_sI_ne _ _ (by omega)]; exact (hR.1.g (k := 9) hs (by omega)).symm]
    exact k_D_of2 hl he h1
  · rw [show cs_P_of C (2 * l + e) 3 = (rf_sI D 0 0 0).1 23 (2 * l + e) from by rw [rf_sI_ne _ _ (by omega)]; exact (hR.1.g (k := 10) hs (by omega)).symm]
    exact k_D_of3 hl he h1
  · rw [show cs_P_of C (2 * l + e) 4 = (rf_sI D 0 0 0).1 25 (2 * l + e) from by rw [rf_sI_ne _ _ (by omega)]; exact (hR.1.g (k := 12) hs (by omega)).symm]
    exact k_D_of4 hl he h1
  · rw [show cs_P_of C (2 * l + e) 5 = (rf_sI D 0 0 0).1 17 (2 * l + e) from by rw [rf_sI_ne _ _ (by omega)]; exact (hR.1.g (k := 4) hs (by omega)).symm]
    exact k_D_of5 hl he h1
  · rw [show cs_P_of C (2 * l + e) 6 = (rf_sI D 0 0 0).1 18 (2 * l + e) from by rw [rf_sI_ne _ _ (by omega)]; exact (hR.1.g (k := 5) hs (by omega)).symm]
    exact k_D_of6 hl he h1
  · rw [show cs_P_of C (2 * l + e) 7 = (rf_sI D 0 0 0).1 19 (2 * l + e) from by rw [rf_sI_ne _ _ (by omega)]; exact (hR.1.g (k := 6) hs (by omega)).symm]
    exact k_D_of7 hl he h1
  · rw [show cs_P_of C (2 * l + e) 8 = (rf_sI D 0 0 0).1 20 (2 * l + e) from by rw [rf_sI_ne _ _ (by omega)]; exact (hR.1.g (k := 7) hs (by omega)).symm]
    exact k_D_of8 hl he h1
  · rw [show cs_P_of C (2 * l + e) 9 = Int32.ofNat ((rf_sI D 0 0 0).2 (2 * l + e)).length from by rw [show (rf_sI D 0 0 0).2 (2 * l + e) = D.2 (2 * l + e) from rfl, hR.1.2.1 (2 * l + e) (by omega) (by omega), List.length_map]; rfl]
    exact k_D_of9 hl he h1
  · rw [show cs_P_of C (2 * l + e) 10 = Int32.ofNat ((rf_sI D 0 0 0).2 (6 + (2 * l + e))).length from by rw [show (rf_sI D 0 0 0).2 (6 + (2 * l + e)) = D.2 (6 + (2 * l + e)) from rfl, hR.1.2.1 (6 + (2 * l + e)) (by omega) (by omega), List.length_map]; rfl]
    exact k_D_of10 hl he h1
  · rw [show cs_P_of C (2 * l + e) 11 = (rf_sI D 0 0 0).1 14 (2 * l + e) from by rw [rf_sI_ne _ _ (by omega)]; exact (hR.1.g (k := 2) hs (by omega)).symm]
    exact k_D_of11 hl he h1
  · rw [show cs_P_of C (2 * l + e) 12 = (rf_sI D 0 0 0).1 15 (2 * l + e) from by rw [rf_sI_ne _ _ (by omega)]; exact (hR.1.g (k := 3) hs (by omega)).symm]
    exact k_D_of12 hl he h1
theorem do_of (hq : q0 < ev_b G) (J : ev_J G q0 mi) (Y : ev_Y G) (Y2 : ev_Y2 G) (hX : va_X bb Ls xs (ev_s0 G) (ev_s0 G).heap) (hbl : bb < ev_b G) (hL : Ls ≤ 2560) (hm : 5 * m + 5 ≤ Ls) (h : LW G q0 w C n D o) (hR : RR m C D) (hI : ib C) (hn : n ≤ 12 * m) (kk : KK G q0 bb m d hh P) : ev_E G (mm_W hh) (d + 15) 494 (L5 G bb m) [] w P := by
  have hm1 : m ≤ 511 := by omega
  by_cases hv : cr_iv (xs (5 * m + 1)) 3 ∧ cr_iv (xs (5 * m + 2)) 2
  · obtain ⟨l, hl, e1⟩ := iv2 (by decide) hv.1
    obtain ⟨e, he, e2⟩ := iv2 (by decide) hv.2
    by_cases hj : cr_iv (xs (5 * m + 3)) 13
    · obtain ⟨j, hj, e3⟩ := iv2 (by decide) hj
      exact lc_of (kv := 0) (ov := (cs_P_of C (2 * l + e) j).toInt64) (rv := cs_P_of C (2 * l + e) j) (D' := rf_sI D 0 0 0) (C' := C) (n' := n) hq hX hbl hL hm h (by rw [e1, e2, e3]; exact h_of_y (v := cs_P_of C (2 * l + e) j) hq h (k_P_of hj hl he h.1)) (fun w1 h1 => by rw [e1, e2, e3]; exact of_eq (d := d + 13) hR hl he hj h1) (rf_sI_at _ _ _ _) (fun _ => rfl) (fun w' o' h' => kk w' _ _ _ o' h' (hR.same _) hI (by omega))
    · skip
      exact lc_of (kv := 1) (ov := 0) (rv := 0) (D' := rf_sI D 0 0 1) (C' := C) (n' := n + 1) hq hX hbl hL hm h (by rw [e1, e2]; exact h_of_n h (k_P_of_no2 Y hq (by omega) hj hl he h.1)) (fun w1 h1 => by rw [e1, e2]; exact k_D_of_no2 hl he hj h1) (rf_sI_at _ _ _ _) (fun c => absurd c (by decide)) (fun w' o' h' => kk w' _ _ _ o' h' (hR.same _) hI (by omega))
  · have hno := isSide0 hv
    exact lc_of (kv := 1) (ov := 0) (rv := 0) (D' := rf_sI D 0 0 1) (C' := C) (n' := n + 1) hq hX hbl hL hm h (h_of_n h (k_P_of_no Y hq (by omega) hv h.1)) (fun w1 h1 => k_D_of_no _ _ _ hno h1) (rf_sI_at _ _ _ _) (fun c => absurd c (by decide)) (fun w' o' h' => kk w' _ _ _ o' h' (hR.same _) hI (by omega))
theorem do_take (hq : q0 < ev_b G) (J : ev_J G q0 mi) (Y : ev_Y G) (Y2 : ev_Y2 G) (hX : va_X bb Ls xs (ev_s0 G) (ev_s0 G).heap) (hbl : bb < ev_b G) (hL : Ls ≤ 2560) (hm : 5 * m + 5 ≤ Ls) (h : LW G q0 w C n D o) (hR : RR m C D) (hI : ib C) (hn : n ≤ 12 * m) (kk : KK G q0 bb m d hh P) : ev_E G (mm_W hh) (d + 15) 822 (L5 G bb m) [] w P := by
  have hm1 : m ≤ 511 := by omega
  by_cases hv : cr_iv (xs (5 * m + 1)) 2
  · obtain ⟨e, he, e1⟩ := iv2 (by decide) hv
    cases hc : C.2.1 (20 + e) with
    | nil =>
      have hd : D.2 (20 + e) = [] := by rw [hR.1.2.1 (20 + e) (by omega) (by omega), hc]; rfl
      exact lc_take (kv := 2) (ov := 0) (rl := 0) (D' := rf_sI D 0 0 2) (C' := C) (n' := n + 1) hq hX hbl hL hm h (by rw [e1]; exact h_take_n2 Y2 h (k_P_take_no2 Y hq (by omega) he hc h.1)) (fun w1 h1 => by rw [e1]; exact k_D_take_no2 he hd h1) (rf_sI_at _ _ _ _) (fun c => absurd c (by decide)) (fun w' o' h' => kk w' _ _ _ o' h' (hR.same _) hI (by omega))
    | cons μ zs =>
      obtain ⟨k1, k2⟩ := hR.take he hc
      obtain ⟨b1, b2, b3⟩ := ib_take hI he hc
      have em : cr_lg (sm_m μ).1 (sm_m μ).2.1 = cr_lg μ.1 μ.2.1 := by
        unfold sm_m
        rw [if_neg (fun c => c.elim b2 b3)]
      exact lc_take (kv := 0) (ov := cr_lg μ.1 μ.2.1) (rl := cr_lg (sm_m μ).1 (sm_m μ).2.1) (D' := rf_sX (rf_sI D 0 0 0) (20 + e) (zs.map sm_m)) (C' := cr_sX C (20 + e) zs) (n' := n) hq hX hbl hL hm h (by rw [e1]; exact h_take_y hq h (k_P_take hq he hc h.1)) (fun w1 h1 => by rw [e1]; exact k_D_take he k1 h1) (show (rf_sI D 0 0 0).1 0 0 = 0 from rf_sI_at _ _ _ _) (fun _ => em.symm) (fun w' o' h' => kk w' _ _ _ o' h' k2 b1 (by omega))
  · have hno := isEnd0 hv
    exact lc_take (kv := 1) (ov := 0) (rl := 0) (D' := rf_sI D 0 0 1) (C' := C) (n' := n + 1) hq hX hbl hL hm h (h_take_n h (k_P_take_no Y hq (by omega) hv h.1)) (fun w1 h1 => k_D_take_no hno h1) (rf_sI_at _ _ _ _) (fun c => absurd c (by decide)) (fun w' o' h' => kk w' _ _ _ o' h' (hR.same _) hI (by omega))
end Law4
