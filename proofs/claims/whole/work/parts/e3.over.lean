/-! side by side: a changeover goes on -/
/-- what is so of a changeover under way -/
def iv_c (C : cr_C) (s : Nat) : Prop := C.1 2 s 0 ≠ 0 ∧ (C.1 2 s 2 ≠ 0 → cr_nb C s = 0)
theorem iv_c.of {C C' : cr_C} {s : Nat} (h : iv_c C s) (h0 : C'.1 2 s 0 = C.1 2 s 0) (h2 : C'.1 2 s 2 = C.1 2 s 2) (h7 : C'.1 2 s 7 = C.1 2 s 7) : iv_c C' s := by
  unfold iv_c cr_nb at h ⊢
  rw [h0, h2, h7]
  exact h
theorem sm_co3 {C : cr_C} {D : rf_C} (h : sm C D) {e l : Nat} (he : e < 2) (hl : l < 3) (hv : cv C) (hc : iv_c C (2 * l + e)) : sm (cs_E_co3 C e l) (rs_tc3 D l e) := by
  have hs : 2 * l + e < 6 := by omega
  have v6 := (h.1 _ hs).2.1.2.2.2.2.2.1
  have hb := sm_beside h he hl
  unfold cs_E_co3 rs_tc3
  rw [if_neg hc.1] at v6
  by_cases c : C.1 2 (2 * l + e) 2 = 0
  · rw [if_pos c] at v6
    rw [if_pos c, v6, if_neg (by decide)]
    exact h
  · rw [if_neg c] at v6
    have e1 : rf_sI D 42 (2 * l + e) 2 = D := by rw [← v6, rf_sI_same]
    rw [if_neg c, if_pos v6, e1]
    by_cases c2 : (cs_E_someOpenBeside C e (Int32.ofNat l)).1 = 0
    · rw [if_pos c2, if_pos (hb.mpr c2)]
      exact h
    · rw [if_neg c2, if_neg (fun e => c2 (hb.mp e))]
      refine sm_finish h he hl hv (hc.2 c) (rs_op_of (fun e2 => c2 (hb.mp ?_)))
      rw [e2]
      decide
theorem sm_co2 {C : cr_C} {D : rf_C} (h : sm C D) {e l : Nat} (he : e < 2) (hl : l < 3) (hv : cv C) (hc : iv_c C (2 * l + e)) (b : Int32) : sm (cs_E_co2 C e l b) (rs_tc2 D (2 * l + e) b) ∧ cv (cs_E_co2 C e l b) ∧ iv_c (cs_E_co2 C e l b) (2 * l + e) := by
  have hs : 2 * l + e < 6 := by omega
  have v2 : D.1 44 (2 * l + e) = C.1 2 (2 * l + e) 3 := (h.1 _ hs).2.1.2.1
  have h42 := sm_42 h hs
  have hv2 := (cw_co2 C b he hl hv).1
  have hG := sm_giveUp h he hl hc.1
  have iG : iv_c (cs_E_gu C e l) (2 * l + e) := by
    unfold iv_c cr_nb cs_E_gu cs_C_giveUp
    generalize 2 * l + e = s at *
    dsimp only
    rw [cr_sI_ne _ _ (by omega), cr_sI_ne _ _ (by omega), cr_sI_ne _ _ (by omega), cr_sX_I, cr_sI_ne _ _ (show ¬ (2 = 9 ∧ s = e ∧ 7 = 6) by omega), cr_sI_ne _ _ (show ¬ (2 = 2 ∧ s = s ∧ 7 = 2) by omega), cr_sI_at]
    exact ⟨hc.1, fun _ => rfl⟩
  refine ⟨?_, hv2, ?_⟩
  · unfold cs_E_co2 rs_tc2
    rw [v2]
    by_cases c : C.1 2 (2 * l + e) 3 < 20
    · rw [if_pos c, if_pos c]
      exact h
    · rw [if_neg c, if_neg c]
      by_cases c2 : C.1 2 (2 * l + e) 2 = 0
      · rw [if_pos c2, if_pos (h42.mpr ⟨hc.1, c2⟩)]
        by_cases c3 : b = 0
        · rw [if_pos c3, if_pos c3]
          exact h
        · rw [if_neg c3, if_neg c3]
          exact hG
      · rw [if_neg c2, if_neg (fun e => c2 (h42.mp e).2)]
        exact h
  · unfold cs_E_co2
    repeat' split
    all_goals first | exact hc | exact iG
theorem sm_over {C : cr_C} {D : rf_C} (h : sm C D) {e l : Nat} (he : e < 2) (hl : l < 3) (hv : cv C) (hc : C.1 2 (2 * l + e) 0 ≠ 0 → iv_c C (2 * l + e)) : sm (cs_E_changeOver C e l) (rs_tickChange D l e) := by
  have hs : 2 * l + e < 6 := by omega
  obtain ⟨v1, v2, v3, v4, v5, v6, v7⟩ := (h.1 _ hs).2.1
  have h42 := sm_42 h hs
  have hb := sm_sm h he
  unfold cs_E_changeOver rs_tickChange
  rw [hb]
  by_cases c : C.1 2 (2 * l + e) 0 = 0
  · rw [if_pos c] at v6
    rw [if_pos c, if_pos v6]
    exact h
  · have hc1 := hc c
    have n0 : ¬ D.1 42 (2 * l + e) = 0 := by
      rw [v6, if_neg c]
      by_cases c2 : C.1 2 (2 * l + e) 2 = 0
      · rw [if_pos c2]; decide
      · rw [if_neg c2]; decide
    rw [if_neg c, if_neg n0]
    generalize cr_sm C e = b at *
    -- the order
    have hor : sm (cs_E_or C e l) (rs_or D l e) := by
      unfold cs_E_or rs_or
      rw [v5, v3]
      refine sm_v (sm_say h he _ ?_) hs (Or.inl ⟨rfl, rfl⟩) 1
      unfold rf_n1 sm_m
      rw [if_pos (Or.inl rfl)]
    have ior : iv_c (cs_E_or C e l) (2 * l + e) := by
      refine hc1.of ?_ ?_ ?_ <;> (unfold cs_E_or; rw [cr_sI_ne _ _ (by omega), cs_say_I])
    have h1 : sm (cs_E_co0 C e l b) (rs_tc1 D l e b) ∧ iv_c (cs_E_co0 C e l b) (2 * l + e) := by
      unfold cs_E_co0 rs_tc1
      rw [v1]
      by_cases c2 : C.1 2 (2 * l + e) 2 = 0
      · rw [if_pos c2, if_pos (h42.mpr ⟨c, c2⟩)]
        by_cases c3 : C.1 2 (2 * l + e) 1 = 0
        · rw [if_pos c3, if_pos c3]
          by_cases c4 : b = 0
          · rw [if_pos c4, if_pos c4]
            exact ⟨h, hc1⟩
          · rw [if_neg c4, if_neg c4]
            exact ⟨hor, ior⟩
        · rw [if_neg c3, if_neg c3]
          exact ⟨h, hc1⟩
      · rw [if_neg c2, if_neg (fun e => c2 (h42.mp e).2)]
        exact ⟨h, hc1⟩
    have hv1 := (cw_co0 C b he hl hv).1
    obtain ⟨g1, g2⟩ := h1
    generalize cs_E_co0 C e l b = C1 at *
    generalize rs_tc1 D l e b = D1 at *
    -- the wait
    have w2 : D1.1 44 (2 * l + e) = C1.1 2 (2 * l + e) 3 := (g1.1 _ hs).2.1.2.1
    have g3 : sm (cr_sI C1 2 (2 * l + e) 3 (C1.1 2 (2 * l + e) 3 + 1)) (rs_tw D1 (2 * l + e)) := by
      unfold rs_tw
      rw [w2]
      exact sm_v g1 hs (Or.inr ⟨rfl, rfl⟩) _
    have hv2 : cv (cr_sI C1 2 (2 * l + e) 3 (C1.1 2 (2 * l + e) 3 + 1)) := (cw_sI (cw_refl C1) rfl hv1).1
    have i2 : iv_c (cr_sI C1 2 (2 * l + e) 3 (C1.1 2 (2 * l + e) 3 + 1)) (2 * l + e) := g2.of (cr_sI_ne _ _ (by omega)) (cr_sI_ne _ _ (by omega)) (cr_sI_ne _ _ (by omega))
    unfold cs_E_co1
    generalize cr_sI C1 2 (2 * l + e) 3 (C1.1 2 (2 * l + e) 3 + 1) = C2 at *
    generalize rs_tw D1 (2 * l + e) = D2 at *
    obtain ⟨k1, k2, k3⟩ := sm_co2 g3 he hl hv2 i2 b
    exact sm_co3 k1 he hl k2 k3
