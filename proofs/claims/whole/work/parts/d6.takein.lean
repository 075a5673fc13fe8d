/-! side by side: an order, an answer, a message is taken in -/
theorem sm_42 {C : cr_C} {D : rf_C} (h : sm C D) {s : Nat} (hs : s < 6) : D.1 42 s = 1 ↔ (C.1 2 s 0 ≠ 0 ∧ C.1 2 s 2 = 0) := by
  have v6 := (h.1 s hs).2.1.2.2.2.2.2.1
  rw [v6]
  by_cases c : C.1 2 s 0 = 0
  · simp [c]
  · by_cases c2 : C.1 2 s 2 = 0 <;> simp [c, c2]
theorem iv_nb {C : cr_C} {s : Nat} (hs : s < 6) (hv : cv C) : C.1 2 s 7 = Int32.ofNat (cr_nb C s) ∧ cr_nb C s ≤ 5 := hv.2.1.2 s hs
theorem sm_ord2 {C : cr_C} {D : rf_C} (h : sm C D) {s : Nat} (hs : s < 6) (hn5 : C.1 2 s 7 = Int32.ofNat (cr_nb C s) ∧ cr_nb C s ≤ 5) (hkn : cr_nb C s ≤ (C.2.1 (12 + s)).length) (μ : cr_m) {x y : Int32} (ex : cr_mk μ 2 = x) (ey : cr_mk μ 3 = y) (hx : x = -1 ∨ nb x 8) : sm (cs_E_ord2 C s μ) (rs_od2 D s x y) := by
  have v4 : D.1 46 s = C.1 2 s 5 := (h.1 s hs).2.1.2.2.2.1
  have h42 := sm_42 h hs
  unfold cs_E_ord2 rs_od2
  rw [ex, ey, v4]
  by_cases c : C.1 2 s 0 = 0
  · rw [if_pos c, if_neg (fun e => (h42.mp e).1 c)]
    exact h
  · rw [if_neg c]
    by_cases c2 : C.1 2 s 2 = 0
    · rw [if_pos c2, if_pos (h42.mpr ⟨c, c2⟩)]
      by_cases c3 : C.1 2 s 5 = y
      · rw [if_pos c3, if_pos c3]
        exact sm_settle h hs hn5 hkn c hx
      · rw [if_neg c3, if_neg c3]
        exact h
    · rw [if_neg c2, if_neg (fun e => c2 (h42.mp e).2)]
      exact h
theorem sm_answer {C : cr_C} {D : rf_C} (h : sm C D) {e l : Nat} (he : e < 2) (hl : l < 3) (hn5 : C.1 2 (2 * l + e) 7 = Int32.ofNat (cr_nb C (2 * l + e)) ∧ cr_nb C (2 * l + e) ≤ 5) (hkn : cr_nb C (2 * l + e) ≤ (C.2.1 (12 + (2 * l + e))).length) (μ : cr_m) {x y : Int32} (ex : cr_mk μ 2 = x) (ey : cr_mk μ 3 = y) (hx : x = -1 ∨ nb x 8) : sm (cs_E_takeAnswer C e l μ) (if D.1 42 (2 * l + e) = 1 then (if D.1 45 (2 * l + e) = y then rs_settle D (2 * l + e) x else D) else D) := by
  have hs : 2 * l + e < 6 := by omega
  have v3 : D.1 45 (2 * l + e) = C.1 2 (2 * l + e) 4 := (h.1 _ hs).2.1.2.2.1
  have h42 := sm_42 h hs
  unfold cs_E_takeAnswer
  rw [ex, ey, v3]
  generalize 2 * l + e = s at *
  by_cases c : C.1 2 s 0 = 0
  · rw [if_pos c, if_neg (fun e => (h42.mp e).1 c)]
    exact h
  · rw [if_neg c]
    by_cases c2 : C.1 2 s 2 = 0
    · rw [if_pos c2, if_pos (h42.mpr ⟨c, c2⟩)]
      by_cases c3 : C.1 2 s 4 = y
      · rw [if_pos c3, if_pos c3]
        exact sm_settle h hs hn5 hkn c hx
      · rw [if_neg c3, if_neg c3]
        exact h
    · rw [if_neg c2, if_neg (fun e => c2 (h42.mp e).2)]
      exact h
theorem sm_ord0 {C : cr_C} {D : rf_C} (h : sm C D) {e l : Nat} (he : e < 2) (hl : l < 3) (hi : iv_s C (2 * l + e)) (μ : cr_m) {y : Int32} (ey : cr_mk μ 3 = y) : sm (cs_E_ord0 C e l μ) (rs_od0 D (2 * l + e) y) := by
  have hs : 2 * l + e < 6 := by omega
  have hF := sm_fall h he hl hi
  have g0 : D.1 12 (2 * l + e) = C.1 1 (2 * l + e) 0 := h.g (k := 0) hs (by omega)
  have g3 : D.1 15 (2 * l + e) = C.1 1 (2 * l + e) 3 := h.g (k := 3) hs (by omega)
  unfold cs_E_ord0 rs_od0
  rw [ey, g0, g3]
  repeat' split
  · exact hF
  · exact h
  · exact h
theorem sm_back {C : cr_C} {D : rf_C} (h : sm C D) {s u : Nat} (hs : s < 6) (hu : u < 1024) : (if D.1 28 (16 * s + u % 16) = Int32.ofNat u then D.1 29 (16 * s + u % 16) else -1) = (cs_Y_backFor C s (Int32.ofNat u)).1 := by
  unfold cs_Y_backFor
  rw [cr_f16_of hu]
  rcases (h.1 s hs).2.2.2.2 (u % 16) (by omega) with ⟨a, b⟩ | ⟨a, b, c⟩
  · rw [a, b]
    split <;> rfl
  · have n1 : ¬ (-1 : Int32) = Int32.ofNat u := fun e => by
      have h1 := ev_on u (show u < 2 ^ 31 by omega)
      rw [← e] at h1
      exact h1 (by decide)
    rw [c, if_neg n1, a, b]
    split <;> rfl
theorem sm_order {C : cr_C} {D : rf_C} (h : sm C D) {e l u : Nat} (he : e < 2) (hl : l < 3) (hu : u < 1024) (hi : iv_s C (2 * l + e)) (μ : cr_m) {x : Int32} (hi1 : iv_s (cs_E_ord0 C e l μ) (2 * l + e)) (hv1 : cv (cs_E_ord0 C e l μ)) (ex : cr_mk μ 2 = x) (ey : cr_mk μ 3 = Int32.ofNat u) (hx : x = -1 ∨ nb x 8) : sm (cs_E_takeOrder C e l μ) (rs_takeOrder D e l u x) := by
  have hs : 2 * l + e < 6 := by omega
  have h0 := sm_ord0 h he hl hi μ ey
  unfold cs_E_takeOrder rs_takeOrder
  generalize cs_E_ord0 C e l μ = C1 at *
  generalize rs_od0 D (2 * l + e) (Int32.ofNat u) = D1 at *
  unfold cs_E_ord1
  rw [ey]
  have h1 : sm (cs_E_say C1 e (5, Int32.ofNat l, (cs_Y_backFor C1 (2 * l + e) (Int32.ofNat u)).1, Int32.ofNat u)) (rs_od1 D1 l e u (Int32.ofNat u)) := by
    unfold rs_od1
    rw [sm_back h0 hs hu]
    refine sm_say h0 he _ ?_
    unfold rf_n1 sm_m
    rw [if_pos (Or.inr rfl)]
  have hn := iv_nb hs hv1
  refine sm_ord2 h1 hs ?_ ?_ μ ex ey hx
  · unfold cr_nb at hn ⊢
    rw [cs_say_I]
    exact hn
  · unfold cr_nb
    rw [cs_say_I, cs_say_ne _ _ he (by omega)]
    exact hi1.2.2.2.1
/-- what the unit t carries is taken in -/
theorem sm_takeIn {C : cr_C} {D : rf_C} (h : sm C D) {e t : Nat} (he : e < 2) (μ : cr_m) (hm : cv_m μ) (d38 : D.1 38 t = (sm_m μ).1) (d39 : D.1 39 t = (sm_m μ).2.1) (d40 : D.1 40 t = (sm_m μ).2.2.1) (d41 : D.1 41 t = (sm_m μ).2.2.2.1)
    (hx : cr_mk μ 0 = 4 ∨ cr_mk μ 0 = 5 → (cr_mk μ 2 = -1 ∨ nb (cr_mk μ 2) 8) ∧ nb (cr_mk μ 3) 1024) (hi : ∀ l, l < 3 → iv_s C (2 * l + e)) (hv : cv C) (hi1 : ∀ l, l < 3 → iv_s (cs_E_ord0 C e l μ) (2 * l + e)) : sm (cs_E_takeIn C e (cr_wl μ) μ) (rs_isTaken D e t) := by
  unfold cs_E_takeIn rs_isTaken
  by_cases c : μ.1 = 4 ∨ μ.1 = 5
  · have em : sm_m μ = (μ.1, μ.2.2.1, μ.2.1, μ.2.2.2, -1) := if_pos c
    rw [em] at d38 d39 d40 d41
    obtain ⟨hx1, u, hu, eu⟩ := hx c
    obtain ⟨w1, w2⟩ := hm.wl c
    have al : rf_al D t = cr_wl μ := by
      unfold rf_al cr_wl
      rw [d40]
      rfl
    have tu : rf_tu D t = u := by
      unfold rf_tu
      rw [d41]
      show (cr_mk μ 3).toNatClampNeg = u
      rw [eu]
      exact ev_cl u (by omega)
    rw [d38, d39, d41, al, tu]
    by_cases c4 : μ.1 = 4
    · rw [if_pos (show cr_mk μ 0 = 4 from c4), if_pos c4]
      exact sm_order h he w1 hu (hi _ w1) μ (hi1 _ w1) ((cw_ord0 C μ he w1) hv).1 rfl eu hx1
    · have c5 : μ.1 = 5 := c.resolve_left c4
      rw [if_neg (show ¬ cr_mk μ 0 = 4 from c4), if_neg c4, if_pos (show cr_mk μ 0 = 5 from c5), if_pos c5]
      exact sm_answer h he w1 (iv_nb (by omega) hv) (hi _ w1).2.2.2.1 μ rfl rfl hx1
  · have em : sm_m μ = (μ.1, μ.2.1, 0, 0, -1) := if_neg c
    rw [em] at d38 d39
    rw [d38, d39, if_neg (show ¬ cr_mk μ 0 = 4 from fun e => c (Or.inl e)), if_neg (show ¬ cr_mk μ 0 = 5 from fun e => c (Or.inr e)), if_neg (fun e => c (Or.inl e)), if_neg (fun e => c (Or.inr e))]
    have h1 := sm_put h (r := 20 + e) (by omega) (by omega) μ
    rw [em] at h1
    exact h1
