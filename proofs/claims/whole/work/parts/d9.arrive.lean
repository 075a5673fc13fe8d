/-! side by side: what comes to a side -/
/-- what is not of the relation may differ -/
theorem sm_of {C : cr_C} {D D' : rf_C} (h : sm C D) (hI : ∀ k j, k ≠ 0 → k ≠ 50 → D'.1 k j = D.1 k j) (hX : D'.2 = D.2) : sm C D' := by
  refine ⟨fun s hs => ?_, ?_, ?_⟩
  · obtain ⟨hS, hV, hU, hF, hY⟩ := h.1 s hs
    refine ⟨?_, ?_, ?_, ?_, ?_⟩
    · unfold sm_S at hS ⊢
      simp only [hI 12 _ (by omega) (by omega), hI 13 _ (by omega) (by omega), hI 14 _ (by omega) (by omega), hI 15 _ (by omega) (by omega), hI 16 _ (by omega) (by omega), hI 17 _ (by omega) (by omega), hI 18 _ (by omega) (by omega), hI 19 _ (by omega) (by omega), hI 20 _ (by omega) (by omega), hI 21 _ (by omega) (by omega), hI 22 _ (by omega) (by omega), hI 23 _ (by omega) (by omega), hI 24 _ (by omega) (by omega), hI 25 _ (by omega) (by omega), hI 26 _ (by omega) (by omega), hI 27 _ (by omega) (by omega)]
      exact hS
    · unfold sm_V at hV ⊢
      simp only [hX, hI 42 _ (by omega) (by omega), hI 43 _ (by omega) (by omega), hI 44 _ (by omega) (by omega), hI 45 _ (by omega) (by omega), hI 46 _ (by omega) (by omega), hI 47 _ (by omega) (by omega)]
      exact hV
    · unfold sm_U at hU ⊢
      simp only [hI 32 _ (by omega) (by omega), hI 33 _ (by omega) (by omega), hI 34 _ (by omega) (by omega), hI 35 _ (by omega) (by omega), hI 36 _ (by omega) (by omega), hI 37 _ (by omega) (by omega), hI 38 _ (by omega) (by omega), hI 39 _ (by omega) (by omega), hI 40 _ (by omega) (by omega), hI 41 _ (by omega) (by omega)]
      exact hU
    · unfold sm_F at hF ⊢
      simp only [hI 30 _ (by omega) (by omega), hI 31 _ (by omega) (by omega)]
      exact hF
    · intro i hi
      rw [hI 28 _ (by omega) (by omega), hI 29 _ (by omega) (by omega)]
      exact hY i hi
  · intro r hr hr2
    rw [hX]
    exact h.2.1 r hr hr2
  · refine ⟨fun e k he hk => ?_, ?_⟩
    · rw [hI 48 _ (by omega) (by omega)]
      exact h.2.2.1 e k he hk
    · rw [hI 49 _ (by omega) (by omega)]
      exact h.2.2.2
theorem sm_50 {C : cr_C} {D : rf_C} (h : sm C D) {k : Nat} (hk : k = 0 ∨ k = 50) (x : Int32) : sm C (rf_sI D k 0 x) := sm_of h (fun k' j a b => rf_sI_ne _ _ (by omega)) rfl
/-- the faults of a side are set on both -/
theorem sm_flt {C : cr_C} {D : rf_C} (h : sm C D) {s : Nat} (hs : s < 6) (x y z : Int32) (hf : (x ≠ 0 ∧ z = y) ∨ (x = 0 ∧ y = 0)) : sm (cr_sI (cr_sI C 4 s 0 x) 4 s 1 y) (rf_sI (rf_sI D 30 s x) 31 s z) := by
  obtain ⟨hS, hV, hU, hF, hY⟩ := h.1 s hs
  have cn : ∀ κ k, κ ≠ 4 → (cr_sI (cr_sI C 4 s 0 x) 4 s 1 y).1 κ s k = C.1 κ s k := fun κ k hne => by rw [cr_sI_ne _ _ (by omega), cr_sI_ne _ _ (by omega)]
  have dn : ∀ k j, k ≠ 30 → k ≠ 31 → (rf_sI (rf_sI D 30 s x) 31 s z).1 k j = D.1 k j := fun k j a b => by rw [rf_sI_ne _ _ (by omega), rf_sI_ne _ _ (by omega)]
  refine h.at (fc_sI (fc_sI (fc_refl C s) (by omega)) (by omega)) (fd_sI (fd_sI (fd_refl D s) (by omega)) (by omega)) ⟨?_, ?_, ?_, ?_, ?_⟩ h.2.1
  · unfold sm_S at hS ⊢
    have c1 : ∀ k, (cr_sI (cr_sI C 4 s 0 x) 4 s 1 y).1 1 s k = C.1 1 s k := fun k => cn 1 k (by omega)
    simp only [c1, dn 12 s (by omega) (by omega), dn 13 s (by omega) (by omega), dn 14 s (by omega) (by omega), dn 15 s (by omega) (by omega), dn 16 s (by omega) (by omega), dn 17 s (by omega) (by omega), dn 18 s (by omega) (by omega), dn 19 s (by omega) (by omega), dn 20 s (by omega) (by omega), dn 21 s (by omega) (by omega), dn 22 s (by omega) (by omega), dn 23 s (by omega) (by omega), dn 24 s (by omega) (by omega), dn 25 s (by omega) (by omega), dn 26 s (by omega) (by omega), dn 27 s (by omega) (by omega)]
    exact hS
  · unfold sm_V cr_nb at hV ⊢
    have c1 : ∀ k, (cr_sI (cr_sI C 4 s 0 x) 4 s 1 y).1 2 s k = C.1 2 s k := fun k => cn 2 k (by omega)
    simp only [c1, dn 42 s (by omega) (by omega), dn 43 s (by omega) (by omega), dn 44 s (by omega) (by omega), dn 45 s (by omega) (by omega), dn 46 s (by omega) (by omega), dn 47 s (by omega) (by omega)]
    exact hV
  · unfold sm_U at hU ⊢
    have c1 : ∀ k, (cr_sI (cr_sI C 4 s 0 x) 4 s 1 y).1 3 s k = C.1 3 s k := fun k => cn 3 k (by omega)
    simp only [c1, dn 32 s (by omega) (by omega), dn 33 s (by omega) (by omega), dn 34 s (by omega) (by omega), dn 35 s (by omega) (by omega), dn 36 s (by omega) (by omega), dn 37 s (by omega) (by omega), dn 38 s (by omega) (by omega), dn 39 s (by omega) (by omega), dn 40 s (by omega) (by omega), dn 41 s (by omega) (by omega)]
    exact hU
  · unfold sm_F
    rw [cr_sI_at, cr_sI_ne _ _ (by omega), cr_sI_at, rf_sI_at, rf_sI_ne _ _ (by omega), rf_sI_at]
    exact ⟨rfl, hf⟩
  · intro i hi
    rw [cn 5 i (by omega), cn 6 i (by omega), dn 28 _ (by omega) (by omega), dn 29 _ (by omega) (by omega)]
    exact hY i hi
/-- what has to be so before something comes to a side -/
def iv_a (C : cr_C) (l e : Nat) : Prop := nb (C.1 4 (2 * l + e) 1) 100 ∧ iv_s C (2 * l + e) ∧ nb (C.1 1 (2 * l + e) 0) 5 ∧ (C.1 1 (2 * l + e) 0 = 2 → nb (C.1 1 (2 * l + e) 8) 2 ∧ nb (C.1 1 (2 * l + e) 9) 3) ∧ (C.1 1 (2 * l + e) 0 = 4 → nb (C.1 1 (2 * l + e) 10) 4) ∧ (C.1 1 (2 * l + e) 0 = 4 → C.1 3 (2 * l + (1 - e)) 0 = 4 → iv_n C e l (2 * l + (1 - e))) ∧ (C.1 1 (2 * l + e) 0 = 3 → C.1 3 (2 * l + (1 - e)) 0 = 4 → iv_n (cs_S_comeTo C (2 * l + e) 4) e l (2 * l + (1 - e)))
theorem sm_arrive {C : cr_C} {D : rf_C} (h : sm C D) {l e : Nat} (hl : l < 3) (he : e < 2) (hi : iv_a C l e) : sm (cs_P_arrive C l e).2 (rs_deliver D l e) := by
  have hs : 2 * l + e < 6 := by omega
  have ht : 2 * l + (1 - e) < 6 := by omega
  have hts : 2 * l + (1 - e) ≠ 2 * l + e := by omega
  obtain ⟨i1, i2, i3, i4, i5, i6, i7⟩ := hi
  unfold cs_P_arrive rs_deliver cs_P_arr1 rs_dl0
  generalize htd : 2 * l + (1 - e) = t at *
  have hU := (h.1 t ht).2.2.1
  have z0 : D.1 32 t = 0 ↔ C.1 3 t 0 = 0 := by
    obtain ⟨-, hU⟩ := hU
    rcases hU with ⟨f, d⟩ | ⟨f, d⟩ | ⟨f, d⟩ | ⟨f, d⟩ | ⟨f, -, -, -, -, g⟩
    · rw [f, d]
    · rw [f, d]; exact ⟨fun e => absurd e (by decide), fun e => absurd e (by decide)⟩
    · rw [f, d]; exact ⟨fun e => absurd e (by decide), fun e => absurd e (by decide)⟩
    · rw [f, d]; exact ⟨fun e => absurd e (by decide), fun e => absurd e (by decide)⟩
    · rcases g with ⟨-, d⟩ | ⟨μ, -, d, -⟩ <;> rw [f, d] <;> exact ⟨fun e => absurd e (by decide), fun e => absurd e (by decide)⟩
  obtain ⟨f30, f31⟩ := (h.1 (2 * l + e) hs).2.2.2.1
  -- what comes as it is
  have norm : ∀ (y : Int32), ((C.1 4 (2 * l + e) 0 ≠ 0 ∧ y = C.1 4 (2 * l + e) 1) ∨ (C.1 4 (2 * l + e) 0 = 0 ∧ C.1 4 (2 * l + e) 1 = 0)) → ¬ C.1 3 t 0 = 0 → sm (if C.1 3 t 0 = 4 then ((1 : Int32), cs_E_numberedComes C e l t) else (1, cs_E_statusComes C e l t)).2 (rs_dl1 (rf_sI D 31 (2 * l + e) y) l e t 0) := by
    intro y hy c0
    have h1 : sm C (rf_sI D 31 (2 * l + e) y) := by
      have h2 := sm_flt h hs (C.1 4 (2 * l + e) 0) (C.1 4 (2 * l + e) 1) y hy
      have e1 : cr_sI (cr_sI C 4 (2 * l + e) 0 (C.1 4 (2 * l + e) 0)) 4 (2 * l + e) 1 (C.1 4 (2 * l + e) 1) = C := by rw [cr_sI_same, cr_sI_same]
      have e2 : rf_sI (rf_sI D 30 (2 * l + e) (C.1 4 (2 * l + e) 0)) 31 (2 * l + e) y = rf_sI D 31 (2 * l + e) y := by rw [← f30, rf_sI_same]
      rw [e1, e2] at h2
      exact h2
    unfold rs_dl1
    rw [if_neg (show ¬ (0 : Int32) = 2 by decide), if_pos rfl]
    have h3 := sm_50 h1 (Or.inr rfl) ((rf_sI D 31 (2 * l + e) y).1 50 0 + 1)
    generalize rf_sI (rf_sI D 31 (2 * l + e) y) 50 0 ((rf_sI D 31 (2 * l + e) y).1 50 0 + 1) = D1 at *
    by_cases c4 : C.1 3 t 0 = 4
    · rw [if_pos c4]
      exact sm_numbered h3 he hl ht c4 (fun x => i6 x c4) (fun x => i7 x c4)
    · rw [if_neg c4]
      have n4 : ¬ (4 : Int32) ≤ D1.1 32 t := by
        obtain ⟨-, hU1⟩ := (h3.1 t ht).2.2.1
        rcases hU1 with ⟨f, d⟩ | ⟨f, d⟩ | ⟨f, d⟩ | ⟨f, d⟩ | ⟨f, -⟩
        · rw [d]; decide
        · rw [d]; decide
        · rw [d]; decide
        · rw [d]; decide
        · exact absurd f c4
      unfold rs_dl2
      rw [if_neg n4]
      exact sm_status h3 he hl ht hts i2 i3 c0 c4
  by_cases c0 : C.1 3 t 0 = 0
  · rw [if_pos c0, if_pos (z0.mpr c0)]
    exact h
  · rw [if_neg c0, if_neg (fun e => c0 (z0.mp e))]
    obtain ⟨u, hu, eu⟩ := i1
    rcases f31 with ⟨a, b⟩ | ⟨a, b⟩
    · rw [b]
      by_cases cl : C.1 4 (2 * l + e) 1 ≤ 0
      · rw [if_pos cl, if_pos cl]
        have e0 : C.1 4 (2 * l + e) 1 = 0 := by
          rw [eu] at cl ⊢
          rcases Nat.eq_zero_or_pos u with h3 | h3
          · rw [h3]
            rfl
          · exact absurd cl (nI_nle h3 (by omega))
        exact norm 0 (Or.inl ⟨a, e0.symm⟩) c0
      · rw [if_neg cl, if_neg cl]
        have h1 := sm_flt h hs (C.1 4 (2 * l + e) 0) (C.1 4 (2 * l + e) 1 - 1) (C.1 4 (2 * l + e) 1 - 1) (Or.inl ⟨a, rfl⟩)
        rw [cr_sI_same, ← f30, rf_sI_same] at h1
        rw [f30]
        unfold rs_dl1
        rw [cr_sI_ne _ _ (by omega)]
        have q2 : iv_s (cr_sI C 4 (2 * l + e) 1 (C.1 4 (2 * l + e) 1 - 1)) (2 * l + e) := i2.of (cr_sI_ne _ _ (by omega)) (cr_sI_ne _ _ (by omega)) (fun k => cr_sI_ne _ _ (by omega)) rfl
        have e1 : ∀ k, (cr_sI C 4 (2 * l + e) 1 (C.1 4 (2 * l + e) 1 - 1)).1 1 (2 * l + e) k = C.1 1 (2 * l + e) k := fun k => cr_sI_ne _ _ (by omega)
        by_cases c2 : C.1 4 (2 * l + e) 0 = 2
        · rw [if_pos c2, if_pos c2]
          exact sm_damaged h1 he hl q2 (by rw [e1, e1, e1]; exact i4) (by rw [e1, e1]; exact i5)
        · rw [if_neg c2, if_neg c2, if_neg a]
          exact h1
    · rw [b, if_pos (show (0 : Int32) ≤ 0 by decide), f30, a]
      by_cases cl : D.1 31 (2 * l + e) ≤ 0
      · rw [if_pos cl]
        exact norm 0 (Or.inr ⟨a, b⟩) c0
      · rw [if_neg cl]
        exact norm _ (Or.inr ⟨a, b⟩) c0
