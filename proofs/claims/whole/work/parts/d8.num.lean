/-! side by side: a numbered unit comes; what comes to a side -/
theorem sm_form {C : cr_C} {D : rf_C} (h : sm C D) {t : Nat} (ht : t < 6) (hf4 : C.1 3 t 0 = 4) : D.1 34 t = C.1 3 t 2 ∧ D.1 35 t = C.1 3 t 3 ∧ D.1 36 t = C.1 3 t 4 ∧ D.1 37 t = C.1 3 t 5 ∧ ((C.2.2 t = none ∧ D.1 32 t = 4) ∨ ∃ μ, C.2.2 t = some μ ∧ D.1 32 t = 5 ∧ D.1 38 t = (sm_m μ).1 ∧ D.1 39 t = (sm_m μ).2.1 ∧ D.1 40 t = (sm_m μ).2.2.1 ∧ D.1 41 t = (sm_m μ).2.2.2.1) := by
  obtain ⟨u1, hU⟩ := (h.1 t ht).2.2.1
  rcases hU with ⟨f, -⟩ | ⟨f, -⟩ | ⟨f, -⟩ | ⟨f, -⟩ | ⟨f, a, b, c, d, g⟩
  · rw [hf4] at f; exact absurd f (by decide)
  · rw [hf4] at f; exact absurd f (by decide)
  · rw [hf4] at f; exact absurd f (by decide)
  · rw [hf4] at f; exact absurd f (by decide)
  · exact ⟨a, b, c, d, g⟩
/-- what has to be so of the message that a unit carries, and of the state in which it is taken in -/
def iv_t (C : cr_C) (e : Nat) (μ : cr_m) : Prop := cv_m μ ∧ (cr_mk μ 0 = 4 ∨ cr_mk μ 0 = 5 → (cr_mk μ 2 = -1 ∨ nb (cr_mk μ 2) 8) ∧ nb (cr_mk μ 3) 1024) ∧ (∀ l, l < 3 → iv_s C (2 * l + e)) ∧ cv C ∧ ∀ l, l < 3 → iv_s (cs_E_ord0 C e l μ) (2 * l + e)
theorem sm_sv5 {C : cr_C} {D : rf_C} (h : sm C D) {e l t : Nat} (he : e < 2) (hl : l < 3) (ht : t < 6) (hf4 : C.1 3 t 0 = 4) (hm : ∀ μ, (cs_S_nextIn C (2 * l + e) t).1 = some μ → iv_t (cs_S_nextIn C (2 * l + e) t).2 e μ) : sm (cs_E_numT C e l t) (rs_sv5 D l e t) := by
  have hs : 2 * l + e < 6 := by omega
  obtain ⟨u2, u3, u4, u5, hU⟩ := sm_form h ht hf4
  have g5 : D.1 18 (2 * l + e) = C.1 1 (2 * l + e) 5 := h.g (k := 5) hs (by omega)
  have g7 : D.1 20 (2 * l + e) = C.1 1 (2 * l + e) 7 := h.g (k := 7) hs (by omega)
  unfold cs_E_numT rs_sv5 rs_svB
  generalize 2 * l + e = s at *
  rw [u2, u3, g5, g7]
  have hflip : sm (cr_sI C 1 s 7 (1 - C.1 1 s 7)) (rf_sI D 20 s (1 - C.1 1 s 7)) := sm_up (k := 7) h hs (by omega) (by omega) _
  unfold cs_S_nextIn at hm ⊢
  by_cases c : C.1 3 t 3 = C.1 1 s 7
  · simp only [if_pos c] at hm ⊢
    rcases hU with ⟨un, d32⟩ | ⟨μ, us, d32, d38, d39, d40, d41⟩
    · have n5 : ¬ D.1 32 t = 5 := by rw [d32]; decide
      simp only [if_pos un, if_neg n5] at hm ⊢
      by_cases c2 : C.1 3 t 2 = C.1 1 s 5
      · simp only [if_pos c2]
        exact h
      · simp only [if_neg c2]
        exact hflip
    · have nn : ¬ C.2.2 t = none := by rw [us]; exact fun e => by cases e
      simp only [if_neg nn, if_pos d32] at hm ⊢
      rw [ms_and7]
      by_cases c2 : C.1 3 t 2 = Int32.ofNat (cr_f8 (C.1 1 s 5 + 1))
      · simp only [if_pos c2] at hm ⊢
        have us' : (cr_sI C 1 s 5 (Int32.ofNat (cr_f8 (C.1 1 s 5 + 1)))).2.2 t = some μ := us
        obtain ⟨m1, m2, m3, m4, m5⟩ := hm μ us'
        rw [us']
        have hB : sm (cr_sI C 1 s 5 (Int32.ofNat (cr_f8 (C.1 1 s 5 + 1)))) (rf_sI D 18 s (Int32.ofNat (cr_f8 (C.1 1 s 5 + 1)))) := sm_up (k := 5) h hs (by omega) (by omega) _
        rw [c2]
        refine sm_takeIn hB he μ m1 ?_ ?_ ?_ ?_ m2 m3 m4 m5
        · rw [rf_sI_ne _ _ (by omega)]; exact d38
        · rw [rf_sI_ne _ _ (by omega)]; exact d39
        · rw [rf_sI_ne _ _ (by omega)]; exact d40
        · rw [rf_sI_ne _ _ (by omega)]; exact d41
      · simp only [if_neg c2]
        by_cases c3 : C.1 3 t 2 = C.1 1 s 5
        · simp only [if_pos c3]
          exact h
        · simp only [if_neg c3]
          exact hflip
  · simp only [if_neg c]
    exact h
theorem cs_good_I (C : cr_C) (s : Nat) (κ i k : Nat) (h : ¬ (κ = 1 ∧ (k = 10 ∨ k = 11))) : (cs_S_countGood C s).1 κ i k = C.1 κ i k := by
  unfold cs_S_countGood
  repeat' split
  · rw [cr_sI_ne _ _ (by omega)]
  · rw [cr_sI_ne _ _ (by omega), cr_sI_ne _ _ (by omega)]
  · rw [cr_sI_ne _ _ (by omega), cr_sI_ne _ _ (by omega), cr_sI_ne _ _ (by omega)]
/-- what has to be so before a numbered unit comes to a serving side -/
def iv_n (C : cr_C) (e l t : Nat) : Prop := iv_s C (2 * l + e) ∧ nb (C.1 1 (2 * l + e) 11) 8 ∧ nb (C.1 1 (2 * l + e) 10) 100 ∧ nb (C.1 1 (2 * l + e) 13) 2 ∧ ∀ μ, (cs_S_nextIn (cs_E_numG (cs_E_numA C e l t).2 e l t) (2 * l + e) t).1 = some μ → iv_t (cs_S_nextIn (cs_E_numG (cs_E_numA C e l t).2 e l t) (2 * l + e) t).2 e μ
theorem sm_nums {C : cr_C} {D : rf_C} (h : sm C D) {e l t : Nat} (he : e < 2) (hl : l < 3) (ht : t < 6) (hf4 : C.1 3 t 0 = 4) (hi : iv_n C e l t) : sm (cs_E_num1 C e l t) (rs_served D l e t) := by
  have hs : 2 * l + e < 6 := by omega
  obtain ⟨i1, i2, i3, i4, i5⟩ := hi
  have hG := sm_good h hs i2 i3
  have gX := cs_good_X C (2 * l + e)
  have k4 : (cs_S_countGood C (2 * l + e)).1 3 t 0 = 4 := by rw [cs_good_I _ _ _ _ _ (by omega)]; exact hf4
  obtain ⟨p1, p2, p3⟩ := sm_svP hG he hl ht (by rw [gX]; exact i1.2.1) k4
  have j13 : nb ((cs_S_countGood C (2 * l + e)).1 1 (2 * l + e) 13) 2 := by rw [cs_good_I _ _ _ _ _ (by omega)]; exact i4
  have jS : iv_s (cs_S_countGood C (2 * l + e)) (2 * l + e) := i1.of (cs_good_I _ _ _ _ _ (by omega)) (cs_good_I _ _ _ _ _ (by omega)) (fun k => cs_good_I _ _ _ _ _ (by omega)) gX
  unfold cs_E_num1 rs_served rs_sv0
  unfold cs_E_numA at i5 ⊢
  generalize cs_S_countGood C (2 * l + e) = C1 at *
  generalize rs_good D (2 * l + e) = D1 at *
  by_cases c : (cs_S_answered C1 (2 * l + e) (C1.1 3 t 4)).1 = 0
  · rw [if_pos c, if_neg (p1.mp c), p2 c]
    unfold cs_E_numF cs_E_odd rs_odd
    have hF : ∀ C' D', sm C' D' → iv_s C' (2 * l + e) → sm (cs_E_fall C' e l) (rs_D_fall D' (2 * l + e)) := fun C' D' a b => sm_fall a he hl b
    have g13 : D1.1 26 (2 * l + e) = C1.1 1 (2 * l + e) 13 := hG.g (k := 13) hs (by omega)
    have h13 : sm (cr_sI C1 1 (2 * l + e) 13 (C1.1 1 (2 * l + e) 13 + 1)) (rf_sI D1 26 (2 * l + e) (D1.1 26 (2 * l + e) + 1)) := sm_inc (k := 13) hG hs (by omega) (by omega)
    have iO : iv_s (cr_sI C1 1 (2 * l + e) 13 (C1.1 1 (2 * l + e) 13 + 1)) (2 * l + e) := jS.num (by omega) (by omega)
    have hb := j13.up (by omega)
    rw [cr_sI_at, rf_sI_at]
    by_cases c2 : C1.1 1 (2 * l + e) 13 + 1 < 2
    · rw [if_pos c2, if_neg (show ¬ D1.1 26 (2 * l + e) + 1 = 2 from fun e => (hb.mpr (by rw [← g13]; exact e)) c2)]
      exact h13
    · rw [if_neg c2, if_pos (show D1.1 26 (2 * l + e) + 1 = 2 by rw [g13]; exact hb.mp c2)]
      exact hF _ _ h13 iO
  · have hle : Int32.ofNat (rf_dn D1 (2 * l + e) t) ≤ Int32.ofNat (D1.2 (2 * l + e)).length := Decidable.not_not.mp (fun e => c (p1.mpr e))
    rw [if_neg c, if_pos hle]
    have hP := p3 c
    refine sm_sv5 hP he hl ht ?_ i5
    -- the unit's form stands
    have e1 : ∀ (C' : cr_C) (x : Int32), (cs_S_followBackBit C' (2 * l + e) x).1 3 t 0 = C'.1 3 t 0 := fun C' x => by
      unfold cs_S_followBackBit
      split
      · rfl
      · rw [cr_sI_ne _ _ (by omega), cr_sI_ne _ _ (by omega)]
    have e2 : (cs_S_answered C1 (2 * l + e) (C1.1 3 t 4)).2.1 3 t 0 = C1.1 3 t 0 := by
      unfold cs_S_answered
      split
      · split
        · rw [cr_sI_ne _ _ (by omega)]; rfl
        · rw [cr_sI_ne _ _ (by omega), cr_sI_ne _ _ (by omega)]; rfl
      · rfl
    unfold cs_E_numG
    rw [e1, cr_sI_ne _ _ (by omega), e2]
    exact k4
/-- a numbered unit comes to a side -/
theorem sm_numbered {C : cr_C} {D : rf_C} (h : sm C D) {e l t : Nat} (he : e < 2) (hl : l < 3) (ht : t < 6) (hf4 : C.1 3 t 0 = 4) (hi : C.1 1 (2 * l + e) 0 = 4 → iv_n C e l t) (hi3 : C.1 1 (2 * l + e) 0 = 3 → iv_n (cs_S_comeTo C (2 * l + e) 4) e l t) : sm (cs_E_numberedComes C e l t) (rs_dl2 D l e t) := by
  have hs : 2 * l + e < 6 := by omega
  have g0 : D.1 12 (2 * l + e) = C.1 1 (2 * l + e) 0 := h.g (k := 0) hs (by omega)
  have h32 : (4 : Int32) ≤ D.1 32 t := by
    obtain ⟨-, -, -, -, hU⟩ := sm_form h ht hf4
    rcases hU with ⟨-, d⟩ | ⟨μ, -, d, -⟩ <;> rw [d] <;> decide
  unfold cs_E_numberedComes rs_dl2 rs_dl3
  rw [if_pos h32, g0]
  by_cases c3 : C.1 1 (2 * l + e) 0 = 3
  · rw [if_pos c3, if_pos c3]
    have hc := sm_come h hs (x := 4) (by decide)
    have d4 : (rs_D_come D (2 * l + e) 4).1 12 (2 * l + e) = 4 := by
      unfold rs_D_come
      rw [rf_sI_ne _ _ (by omega), rf_sI_at]
    rw [if_pos d4]
    refine sm_nums hc he hl ht ?_ (hi3 c3)
    unfold cs_S_comeTo
    rw [cr_sI_ne _ _ (by omega), cr_sI_ne _ _ (by omega)]
    exact hf4
  · rw [if_neg c3, if_neg c3]
    by_cases c4 : C.1 1 (2 * l + e) 0 = 4
    · rw [if_pos c4, if_pos c4]
      exact sm_nums h he hl ht hf4 (hi c4)
    · rw [if_neg c4, if_neg c4]
      exact h
