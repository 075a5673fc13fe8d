/-! side by side: fall, age, damage, what comes without a number -/
/-- what is so of one side of the class between the steps -/
def iv_s (C : cr_C) (s : Nat) : Prop := (C.1 1 s 0 ≠ 4 → C.2.1 s = [] ∧ C.2.1 (6 + s) = []) ∧ (C.2.1 s).length ≤ 5 ∧ (C.1 2 s 0 = 0 → C.2.1 (12 + s) = []) ∧ cr_nb C s ≤ (C.2.1 (12 + s)).length ∧ ∃ u, u < 1024 ∧ C.1 1 s 3 = Int32.ofNat u
theorem iv_s.of {C C' : cr_C} {s : Nat} (h : iv_s C s) (h0 : C'.1 1 s 0 = C.1 1 s 0) (h3 : C'.1 1 s 3 = C.1 1 s 3) (h2 : ∀ k, C'.1 2 s k = C.1 2 s k) (hX : C'.2.1 = C.2.1) : iv_s C' s := by
  unfold iv_s cr_nb at h ⊢
  rw [h0, h3, hX, h2 0, h2 7]
  exact h
theorem sm_fall {C : cr_C} {D : rf_C} (h : sm C D) {e l : Nat} (he : e < 2) (hl : l < 3) (hi : iv_s C (2 * l + e)) : sm (cs_E_fall C e l) (rs_D_fall D (2 * l + e)) := by
  have hs : 2 * l + e < 6 := by omega
  unfold cs_E_fall
  generalize 2 * l + e = s at *
  obtain ⟨i1, i2, i3, i4, u, hu, e3⟩ := hi
  have g0 : D.1 12 s = C.1 1 s 0 := h.g (k := 0) hs (by omega)
  have g3 : D.1 15 s = C.1 1 s 3 := h.g (k := 3) hs (by omega)
  have g5 : D.1 18 s = C.1 1 s 5 := h.g (k := 5) hs (by omega)
  have hA := sm_up (k := 1) (sm_st h hs 0 1 1 (fun _ => rfl)) hs (by omega) (by omega) 0
  have eC : cr_sI (cr_sI (cr_sI C 1 s 0 0) 1 s 14 1) 1 s 1 0 = cr_sI (cs_S_comeTo C s 0) 1 s 14 1 := by
    unfold cs_S_comeTo
    rw [cr_sI_comm _ _ _ (by omega)]
  have eD : rf_sI (rf_sI (rf_sI D 12 s 0) 16 s 1) (sm_g 1) s 0 = rs_fa0 D s := by
    unfold rs_fa0 rs_D_come
    show rf_sI (rf_sI (rf_sI D 12 s 0) 16 s 1) 13 s 0 = _
    rw [rf_sI_comm _ _ _ (by omega)]
  rw [eC, eD] at hA
  have r0 : ∀ κ k, ¬ (κ = 1 ∧ (k = 0 ∨ k = 1 ∨ k = 14)) → (cr_sI (cs_S_comeTo C s 0) 1 s 14 1).1 κ s k = C.1 κ s k := fun κ k hne => by
    unfold cs_S_comeTo
    simp only [cr_sI, cr_u]
    rw [if_neg (by omega), if_neg (by omega), if_neg (by omega)]
  have rX : (cr_sI (cs_S_comeTo C s 0) 1 s 14 1).2.1 = C.2.1 := rfl
  unfold rs_D_fall
  by_cases c : C.1 1 s 0 = 4
  · rw [if_pos c, if_pos (g0.trans c), r0 1 3 (by omega), r0 1 5 (by omega)]
    generalize cr_sI (cs_S_comeTo C s 0) 1 s 14 1 = C1 at *
    have hn : rf_hn D s = u := by
      unfold rf_hn
      rw [g3, e3]
      exact ev_cl u (by omega)
    have hB := sm_keep hA hs hu (C.1 1 s 5)
    have eF : rs_fa1 D s = rf_sI (rf_sI (rs_fa0 D s) 28 (16 * s + u % 16) (Int32.ofNat u)) 29 (16 * s + u % 16) (C.1 1 s 5) := by
      unfold rs_fa1
      rw [hn, g3, e3, g5]
    rw [eF, e3]
    have k0 : ∀ κ k, κ ≠ 5 → κ ≠ 6 → (cs_Y_keep C1 s (Int32.ofNat u) (C.1 1 s 5)).1 κ s k = C1.1 κ s k := fun κ k a b => by
      unfold cs_Y_keep
      simp only [cr_sI, cr_u]
      rw [if_neg (fun e => b e.1), if_neg (fun e => a e.1)]
    have kX : (cs_Y_keep C1 s (Int32.ofNat u) (C.1 1 s 5)).2.1 = C.2.1 := rX
    refine sm_change hB hs (by rw [kX]; exact i2) (fun e0 => ?_) ?_
    · rw [k0 2 0 (by omega) (by omega), r0 2 0 (by omega)] at e0
      rw [kX]
      exact i3 e0
    · unfold cr_nb at i4 ⊢
      rw [k0 2 7 (by omega) (by omega), r0 2 7 (by omega), kX]
      exact i4
  · rw [if_neg c, if_neg (fun e => c (g0.symm.trans e))]
    obtain ⟨x1, x2⟩ := i1 c
    obtain ⟨a, a1, a2, a3⟩ := (h.1 s hs).1.2.2
    have ec : cs_S_clearRows (cr_sI (cs_S_comeTo C s 0) 1 s 14 1) s = cr_sI (cs_S_comeTo C s 0) 1 s 14 1 := by
      have h15 : (cr_sI (cs_S_comeTo C s 0) 1 s 14 1).1 1 s 15 = 0 := by
        rw [r0 1 15 (by omega), a3, x1]
        show Int32.ofNat (0 - a) = 0
        rw [Nat.zero_sub]
        rfl
      generalize cr_sI (cs_S_comeTo C s 0) 1 s 14 1 = C1 at *
      unfold cs_S_clearRows
      rw [show cr_sX C1 s [] = C1 by rw [← x1, ← rX, cr_sX_same], show cr_sX C1 (6 + s) [] = C1 by rw [← x2, ← rX, cr_sX_same], ← h15, cr_sI_same]
    rw [ec]
    exact hA
theorem nb_eq {u N : Nat} (hu : u < 2 ^ 30) (hN : N < 2 ^ 30) : (Int32.ofNat u + 1 = Int32.ofNat N) ↔ u + 1 = N := by
  rw [show Int32.ofNat u + 1 = Int32.ofNat (u + 1) from nI_1 u]
  exact nI_eq (by omega) (by omega)
theorem nb_lt {u N : Nat} (hu : u < 2 ^ 30) (hN : N < 2 ^ 30) : (Int32.ofNat u + 1 < Int32.ofNat N) ↔ u + 1 < N := by
  rw [show Int32.ofNat u + 1 = Int32.ofNat (u + 1) from nI_1 u]
  constructor
  · intro h
    rcases Nat.lt_or_ge (u + 1) N with h1 | h1
    · exact h1
    · exact absurd h (nI_nlt h1 (by omega))
  · intro h
    exact nI_lt h (by omega)
/-- a number below its bound -/
def nb (x : Int32) (N : Nat) : Prop := ∃ u, u < N ∧ x = Int32.ofNat u
theorem nb.up {x : Int32} {N : Nat} (h : nb x N) (hN : N < 2 ^ 30) : (¬ x + 1 < Int32.ofNat N) ↔ x + 1 = Int32.ofNat N := by
  obtain ⟨u, hu, rfl⟩ := h
  rw [nb_lt (by omega) hN, nb_eq (by omega) hN]
  omega
theorem sm_inc {C : cr_C} {D : rf_C} (h : sm C D) {s k : Nat} (hs : s < 6) (hk : 1 ≤ k) (hk13 : k ≤ 13) : sm (cr_sI C 1 s k (C.1 1 s k + 1)) (rf_sI D (sm_g k) s (D.1 (sm_g k) s + 1)) := by
  rw [h.g hs hk13]
  exact sm_up h hs hk hk13 _
theorem iv_s.num {C : cr_C} {s k : Nat} {x : Int32} (h : iv_s C s) (hk : k ≠ 0) (hk3 : k ≠ 3) : iv_s (cr_sI C 1 s k x) s := by
  refine h.of ?_ ?_ (fun k' => ?_) rfl
  · simp only [cr_sI, cr_u]; rw [if_neg (by omega)]
  · simp only [cr_sI, cr_u]; rw [if_neg (by omega)]
  · simp only [cr_sI, cr_u]; rw [if_neg (by omega)]
theorem sm_age {C : cr_C} {D : rf_C} (h : sm C D) {e l : Nat} (he : e < 2) (hl : l < 3) (hi : iv_s C (2 * l + e)) (hst : nb (C.1 1 (2 * l + e) 0) 5) (ha1 : C.1 1 (2 * l + e) 0 = 1 ∨ C.1 1 (2 * l + e) 0 = 3 → nb (C.1 1 (2 * l + e) 1) 15) (ha2 : C.1 1 (2 * l + e) 0 = 2 → nb (C.1 1 (2 * l + e) 1) 6) (ha4 : C.1 1 (2 * l + e) 0 = 4 → nb (C.1 1 (2 * l + e) 12) 12) : sm (cs_E_age C e l) (rs_D_age D (2 * l + e)) := by
  have hs : 2 * l + e < 6 := by omega
  have hfall : ∀ C' D', sm C' D' → iv_s C' (2 * l + e) → sm (cs_E_fall C' e l) (rs_D_fall D' (2 * l + e)) := fun C' D' a b => sm_fall a he hl b
  unfold cs_E_age
  generalize cs_E_fall = fc0 at *
  generalize hsd : 2 * l + e = s at *
  have g0 : D.1 12 s = C.1 1 s 0 := h.g (k := 0) hs (by omega)
  have g1 : D.1 13 s = C.1 1 s 1 := h.g (k := 1) hs (by omega)
  have g12 : D.1 25 s = C.1 1 s 12 := h.g (k := 12) hs (by omega)
  have h1 : sm (cr_sI C 1 s 1 (C.1 1 s 1 + 1)) (rf_sI D 13 s (D.1 13 s + 1)) := sm_inc (k := 1) h hs (by omega) (by omega)
  have i1 : iv_s (cr_sI C 1 s 1 (C.1 1 s 1 + 1)) s := hi.num (by omega) (by omega)
  have h12 : sm (cr_sI C 1 s 12 (C.1 1 s 12 + 1)) (rf_sI D 25 s (D.1 25 s + 1)) := sm_inc (k := 12) h hs (by omega) (by omega)
  have i12 : ∀ x, iv_s (cr_sI C 1 s 12 x) s := fun x => hi.num (by omega) (by omega)
  have h120 : sm (cr_sI C 1 s 12 0) (rf_sI D 25 s 0) := sm_up (k := 12) h hs (by omega) (by omega) 0
  unfold cs_S_failsByAge rs_D_age
  rw [g0]
  obtain ⟨st, hst5, est⟩ := hst
  simp only [cr_sI_at, rf_sI_at]
  by_cases c1 : C.1 1 s 0 = 1
  · simp only [if_pos c1]
    have hb := (ha1 (Or.inl c1)).up (by omega)
    by_cases c : C.1 1 s 1 + 1 < 15
    · rw [if_pos c, if_neg (show ¬ D.1 13 s + 1 = 15 from fun e => (hb.mpr (by rw [← g1]; exact e)) c)]
      exact h1
    · rw [if_neg c, if_pos (show D.1 13 s + 1 = 15 by rw [g1]; exact hb.mp c)]
      exact hfall _ _ h1 i1
  · simp only [if_neg c1]
    by_cases c2 : C.1 1 s 0 = 2
    · have n3 : ¬ C.1 1 s 0 = 3 := by rw [c2]; decide
      simp only [if_pos c2, if_neg n3]
      have hb := (ha2 c2).up (by omega)
      by_cases c : C.1 1 s 1 + 1 < 6
      · rw [if_pos c, if_neg (show ¬ D.1 13 s + 1 = 6 from fun e => (hb.mpr (by rw [← g1]; exact e)) c)]
        exact h1
      · rw [if_neg c, if_pos (show D.1 13 s + 1 = 6 by rw [g1]; exact hb.mp c)]
        exact sm_come h1 hs (by decide)
    · simp only [if_neg c2]
      by_cases c3 : C.1 1 s 0 = 3
      · simp only [if_pos c3]
        have hb := (ha1 (Or.inr c3)).up (by omega)
        by_cases c : C.1 1 s 1 + 1 < 15
        · rw [if_pos c, if_neg (show ¬ D.1 13 s + 1 = 15 from fun e => (hb.mpr (by rw [← g1]; exact e)) c)]
          exact h1
        · rw [if_neg c, if_pos (show D.1 13 s + 1 = 15 by rw [g1]; exact hb.mp c)]
          exact hfall _ _ h1 i1
      · simp only [if_neg c3]
        by_cases c4 : C.1 1 s 0 = 4
        · simp only [if_pos c4]
          have hb := (ha4 c4).up (by omega)
          have hrow := h.2.1 s (by omega) (by omega)
          by_cases cz : C.2.1 s = []
          · have e1 : (D.2 s).length = 0 := by rw [hrow, cz]; rfl
            rw [e1, if_pos (show Int32.ofNat 0 ≤ 0 by decide), if_neg (show ¬ (0 : Int32) = 12 by decide), if_neg (show ¬ cr_e (C.2.1 s) = 0 by unfold cr_e; rw [if_pos cz]; decide), if_pos (show (0 : Int32) < 12 by decide)]
            exact h120
          · have e1 : (D.2 s).length = (C.2.1 s).length := by rw [hrow, List.length_map]
            have e2 : 0 < (C.2.1 s).length := List.length_pos_iff.mpr cz
            have e3 := hi.2.1
            rw [e1, if_neg (show ¬ Int32.ofNat (C.2.1 s).length ≤ 0 from nI_nle e2 (by omega)), if_pos (show cr_e (C.2.1 s) = 0 by unfold cr_e; rw [if_neg cz])]
            by_cases c : C.1 1 s 12 + 1 < 12
            · rw [if_pos c, if_neg (show ¬ D.1 25 s + 1 = 12 from fun e => (hb.mpr (by rw [← g12]; exact e)) c)]
              exact h12
            · rw [if_neg c, if_pos (show D.1 25 s + 1 = 12 by rw [g12]; exact hb.mp c)]
              exact hfall _ _ h12 (i12 _)
        · simp only [if_neg c4]
          exact h
