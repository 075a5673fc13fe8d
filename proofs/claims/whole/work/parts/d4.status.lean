/-! side by side: damage, what comes without a number -/
theorem cr_sI_ne (C : cr_C) {κ i k κ' i' k' : Nat} (x : Int32) (h : ¬ (κ' = κ ∧ i' = i ∧ k' = k)) : (cr_sI C κ i k x).1 κ' i' k' = C.1 κ' i' k' := by
  simp only [cr_sI, cr_u]
  rw [if_neg h]
theorem sm_damaged {C : cr_C} {D : rf_C} (h : sm C D) {e l : Nat} (he : e < 2) (hl : l < 3) (hi : iv_s C (2 * l + e)) (ha2 : C.1 1 (2 * l + e) 0 = 2 → nb (C.1 1 (2 * l + e) 8) 2 ∧ nb (C.1 1 (2 * l + e) 9) 3) (ha4 : C.1 1 (2 * l + e) 0 = 4 → nb (C.1 1 (2 * l + e) 10) 4) : sm (cs_E_damagedComes C e l) (rs_D_damaged D (2 * l + e)) := by
  have hs : 2 * l + e < 6 := by omega
  have hfall : ∀ C' D', sm C' D' → iv_s C' (2 * l + e) → sm (cs_E_fall C' e l) (rs_D_fall D' (2 * l + e)) := fun C' D' a b => sm_fall a he hl b
  unfold cs_E_damagedComes
  generalize cs_E_fall = fc0 at *
  generalize hsd : 2 * l + e = s at *
  have g0 : D.1 12 s = C.1 1 s 0 := h.g (k := 0) hs (by omega)
  have g8 : D.1 21 s = C.1 1 s 8 := h.g (k := 8) hs (by omega)
  have g9 : D.1 22 s = C.1 1 s 9 := h.g (k := 9) hs (by omega)
  have g10 : D.1 23 s = C.1 1 s 10 := h.g (k := 10) hs (by omega)
  have h8 : sm (cr_sI C 1 s 8 (C.1 1 s 8 + 1)) (rf_sI D 21 s (D.1 21 s + 1)) := sm_inc (k := 8) h hs (by omega) (by omega)
  have h10 : sm (cr_sI C 1 s 10 (C.1 1 s 10 + 1)) (rf_sI D 23 s (D.1 23 s + 1)) := sm_inc (k := 10) h hs (by omega) (by omega)
  have i10 : iv_s (cr_sI C 1 s 10 (C.1 1 s 10 + 1)) s := hi.num (by omega) (by omega)
  have i8 : iv_s (cr_sI C 1 s 8 (C.1 1 s 8 + 1)) s := hi.num (by omega) (by omega)
  unfold cs_S_failsByDamage rs_D_damaged
  rw [g0]
  simp only [cr_sI_at, rf_sI_at]
  by_cases c4 : C.1 1 s 0 = 4
  · have n2 : ¬ C.1 1 s 0 = 2 := by rw [c4]; decide
    simp only [if_pos c4, if_neg n2]
    have hb := (ha4 c4).up (by omega)
    by_cases c : C.1 1 s 10 + 1 < 4
    · rw [if_pos c, if_neg (show ¬ D.1 23 s + 1 = 4 from fun e => (hb.mpr (by rw [← g10]; exact e)) c)]
      exact h10
    · rw [if_neg c, if_pos (show D.1 23 s + 1 = 4 by rw [g10]; exact hb.mp c)]
      exact hfall _ _ h10 i10
  · simp only [if_neg c4]
    by_cases c2 : C.1 1 s 0 = 2
    · simp only [if_pos c2]
      obtain ⟨b8, b9⟩ := ha2 c2
      have hb8 := b8.up (by omega)
      have hb9 := b9.up (by omega)
      by_cases c : C.1 1 s 8 + 1 < 2
      · rw [if_neg (show ¬ (2 : Int32) ≤ C.1 1 s 8 + 1 from Int32.not_le.mpr c), if_neg (show ¬ D.1 21 s + 1 = 2 from fun e => (hb8.mpr (by rw [← g8]; exact e)) c)]
        exact h8
      · rw [if_pos (show (2 : Int32) ≤ C.1 1 s 8 + 1 from Int32.not_lt.mp c), if_pos (show D.1 21 s + 1 = 2 by rw [g8]; exact hb8.mp c)]
        have hA : sm (cr_sI (cr_sI (cr_sI C 1 s 8 (C.1 1 s 8 + 1)) 1 s 1 0) 1 s 8 0) (rf_sI (rf_sI (rf_sI D 21 s (D.1 21 s + 1)) 13 s 0) 21 s 0) := sm_up (k := 8) (sm_up (k := 1) h8 hs (by omega) (by omega) 0) hs (by omega) (by omega) 0
        have iA : iv_s (cr_sI (cr_sI (cr_sI C 1 s 8 (C.1 1 s 8 + 1)) 1 s 1 0) 1 s 8 0) s := (i8.num (by omega) (by omega)).num (by omega) (by omega)
        have e9 : (cr_sI (cr_sI (cr_sI C 1 s 8 (C.1 1 s 8 + 1)) 1 s 1 0) 1 s 8 0).1 1 s 9 = C.1 1 s 9 := by rw [cr_sI_ne _ _ (by omega), cr_sI_ne _ _ (by omega), cr_sI_ne _ _ (by omega)]
        have d9 : (rf_sI (rf_sI (rf_sI D 21 s (D.1 21 s + 1)) 13 s 0) 21 s 0).1 22 s = C.1 1 s 9 := by rw [rf_sI_ne _ _ (by omega), rf_sI_ne _ _ (by omega), rf_sI_ne _ _ (by omega)]; exact g9
        rw [e9, d9]
        have hB : sm (cr_sI (cr_sI (cr_sI (cr_sI C 1 s 8 (C.1 1 s 8 + 1)) 1 s 1 0) 1 s 8 0) 1 s 9 (C.1 1 s 9 + 1)) (rf_sI (rf_sI (rf_sI (rf_sI D 21 s (D.1 21 s + 1)) 13 s 0) 21 s 0) 22 s (C.1 1 s 9 + 1)) := sm_up (k := 9) hA hs (by omega) (by omega) _
        have iB : iv_s (cr_sI (cr_sI (cr_sI (cr_sI C 1 s 8 (C.1 1 s 8 + 1)) 1 s 1 0) 1 s 8 0) 1 s 9 (C.1 1 s 9 + 1)) s := iA.num (by omega) (by omega)
        by_cases c9 : C.1 1 s 9 + 1 < 3
        · rw [if_pos c9, if_neg (show ¬ C.1 1 s 9 + 1 = 3 from fun e => hb9.mpr e c9)]
          exact hB
        · rw [if_neg c9, if_pos (show C.1 1 s 9 + 1 = 3 from hb9.mp c9)]
          exact hfall _ _ hB iB
    · simp only [if_neg c2]
      exact h
theorem cs_fall_fc (C : cr_C) {e l : Nat} (he : e < 2) (hl : l < 3) : fc C (cs_E_fall C e l) (2 * l + e) := by
  have hs : 2 * l + e < 6 := by omega
  unfold cs_E_fall cs_S_comeTo
  split
  · refine fc.then ?_ (cs_chg_fc _ hs)
    unfold cs_Y_keep
    repeat (first | exact fc_refl _ _ | refine fc_sI ?_ (by omega))
  · unfold cs_S_clearRows
    repeat (first | exact fc_refl _ _ | refine fc_sI ?_ (by omega) | refine fc_sX ?_ (fun i hi his => by omega))
theorem rs_fall_fd (D : rf_C) {s : Nat} (hs : s < 6) : fd D (rs_D_fall D s) s := by
  unfold rs_D_fall
  split
  · refine fd.then ?_ (rs_chg_fd _ hs)
    unfold rs_fa1 rs_fa0 rs_D_come
    exact fd_28 (fd_28 (fd_sI (fd_sI (fd_sI (fd_refl D s) (by omega)) (by omega)) (by omega)) (Or.inl rfl) (by omega)) (Or.inr rfl) (by omega)
  · unfold rs_fa0 rs_D_come
    repeat (first | exact fd_refl _ _ | refine fd_sI ?_ (by omega))
/-- a seek, a prove, an out comes: the unit t of the other side -/
theorem sm_status {C : cr_C} {D : rf_C} (h : sm C D) {e l t : Nat} (he : e < 2) (hl : l < 3) (ht : t < 6) (hts : t ≠ 2 * l + e) (hi : iv_s C (2 * l + e)) (hst : nb (C.1 1 (2 * l + e) 0) 5) (hf0 : C.1 3 t 0 ≠ 0) (hf4 : C.1 3 t 0 ≠ 4) : sm (cs_E_statusComes C e l t) (rs_D_status D (2 * l + e) t) := by
  have hs : 2 * l + e < 6 := by omega
  have hF := sm_fall h he hl hi
  have fcF := (cs_fall_fc C he hl).1 3 t 1 (Or.inl hts)
  have fdF : ∀ k, 12 ≤ k → k < 48 → k ≠ 28 → k ≠ 29 → (rs_D_fall D (2 * l + e)).1 k t = D.1 k t := fun k a b c d => (rs_fall_fd D hs).1 k t a b c d hts
  obtain ⟨u1, hU⟩ := (h.1 t ht).2.2.1
  obtain ⟨st, hst5, est⟩ := hst
  unfold cs_E_statusComes cs_E_seekComes cs_E_proveComes cs_E_outComes
  generalize cs_E_fall C e l = CF at *
  generalize 2 * l + e = s at *
  have g0 : D.1 12 s = C.1 1 s 0 := h.g (k := 0) hs (by omega)
  have hcome : sm (cs_S_comeTo C s 2) (rs_D_come D s 2) := sm_come h hs (by decide)
  have cc : (cs_S_comeTo C s 2).1 3 t 1 = C.1 3 t 1 := by
    unfold cs_S_comeTo
    rw [cr_sI_ne _ _ (by omega), cr_sI_ne _ _ (by omega)]
  have dc : ∀ k, k ≠ 12 → k ≠ 13 → (rs_D_come D s 2).1 k t = D.1 k t := fun k a b => by
    unfold rs_D_come
    rw [rf_sI_ne _ _ (by omega), rf_sI_ne _ _ (by omega)]
  have hp2 : sm (cr_sI (cr_sI C 1 s 1 0) 1 s 8 0) (rf_sI (rf_sI D 13 s 0) 21 s 0) := sm_up (k := 8) (sm_up (k := 1) h hs (by omega) (by omega) 0) hs (by omega) (by omega) 0
  have cp : (cr_sI (cr_sI C 1 s 1 0) 1 s 8 0).1 3 t 1 = C.1 3 t 1 := by rw [cr_sI_ne _ _ (by omega), cr_sI_ne _ _ (by omega)]
  have dp : ∀ k, k ≠ 13 → k ≠ 21 → (rf_sI (rf_sI D 13 s 0) 21 s 0).1 k t = D.1 k t := fun k a b => by rw [rf_sI_ne _ _ (by omega), rf_sI_ne _ _ (by omega)]
  have up : ∀ {C' : cr_C} {D' : rf_C} (x : Int32), sm C' D' → sm (cr_sI C' 1 s 3 x) (rf_sI D' 15 s x) := fun x a => sm_up (k := 3) a hs (by omega) (by omega) x
  have hle : ∀ (n : Nat), n < 100 → (C.1 1 s 0 ≤ Int32.ofNat n ↔ st ≤ n) := fun n hn => by
    rw [est]
    exact nI_leI (by omega) (by omega)
  have heq : ∀ (n : Nat), n < 100 → (C.1 1 s 0 = Int32.ofNat n ↔ st = n) := fun n hn => by
    rw [est]
    exact nI_eq (by omega) (by omega)
  have q0 : C.1 1 s 0 = 0 ↔ st = 0 := heq 0 (by omega)
  have q1 : C.1 1 s 0 = 1 ↔ st = 1 := heq 1 (by omega)
  have q2 : C.1 1 s 0 = 2 ↔ st = 2 := heq 2 (by omega)
  have p1 : C.1 1 s 0 ≤ 1 ↔ st ≤ 1 := hle 1 (by omega)
  have p2 : C.1 1 s 0 ≤ 2 ↔ st ≤ 2 := hle 2 (by omega)
  unfold rs_D_status
  rw [g0]
  rcases hU with ⟨f, d⟩ | ⟨f, d⟩ | ⟨f, d⟩ | ⟨f, d⟩ | ⟨f, -⟩
  · exact absurd f hf0
  · -- out
    have e1 : ¬ C.1 3 t 0 = 2 := by rw [f]; decide
    have e2 : ¬ C.1 3 t 0 = 3 := by rw [f]; decide
    have d1 : ¬ D.1 32 t = 1 := by rw [d]; decide
    have d2 : ¬ D.1 32 t = 2 := by rw [d]; decide
    rw [if_neg e1, if_neg e2, if_neg d1, if_neg d2]
    by_cases c : st ≤ 1
    · rw [if_pos (p1.mpr c), if_pos d, rf_sI_same]
      have c01 : st = 0 ∨ st = 1 := by omega
      rcases c01 with c0 | c1
      · rw [if_pos (q0.mpr c0)]
        exact h
      · rw [if_neg (fun e => by have := q0.mp e; omega), if_pos (q1.mpr c1)]
        exact h
    · rw [if_neg (fun e => c (p1.mp e)), if_neg (fun e => by have := q0.mp e; omega), if_neg (fun e => by have := q1.mp e; omega)]
      rw [fdF 32 (by omega) (by omega) (by omega) (by omega), if_pos d, rf_sI_same]
      exact hF
  · -- seek
    have d3 : ¬ D.1 32 t = 3 := by rw [d]; decide
    rw [if_pos f, if_pos d, fdF 32 (by omega) (by omega) (by omega) (by omega), dc 32 (by omega) (by omega), dp 32 (by omega) (by omega), if_neg d3, if_neg d3, if_neg d3, if_neg d3, fdF 33 (by omega) (by omega) (by omega) (by omega), dc 33 (by omega) (by omega), dp 33 (by omega) (by omega), u1]
    by_cases c1 : st = 1
    · have c1' := q1.mpr c1
      rw [if_pos c1', if_pos (show C.1 1 s 0 = 1 from c1'), cc]
      exact up _ hcome
    · have n1 : ¬ C.1 1 s 0 = 1 := fun e => c1 (q1.mp e)
      rw [if_neg n1, if_neg n1]
      by_cases c2 : st = 2
      · have c2' : C.1 1 s 0 = 2 := q2.mpr c2
        rw [if_pos c2', if_pos c2', cp]
        exact up _ hp2
      · have n2 : ¬ C.1 1 s 0 = 2 := fun e => c2 (q2.mp e)
        rw [if_neg n2, if_neg n2]
        by_cases c0 : st = 0
        · have c0' : C.1 1 s 0 = 0 := q0.mpr c0
          rw [if_pos c0', if_pos (show C.1 1 s 0 ≤ 2 from p2.mpr (by omega))]
          exact up _ h
        · rw [if_neg (fun e => c0 (q0.mp e)), if_neg (fun e => by have := p2.mp e; omega), fcF]
          exact up _ hF
  · -- prove
    have e1 : ¬ C.1 3 t 0 = 2 := by rw [f]; decide
    have d1 : ¬ D.1 32 t = 1 := by rw [d]; decide
    have d3 : ¬ D.1 32 t = 3 := by rw [d]; decide
    rw [if_neg e1, if_pos f, if_neg d1, if_pos d, fdF 32 (by omega) (by omega) (by omega) (by omega), dc 32 (by omega) (by omega), if_neg d3, if_neg d3, if_neg d3, fdF 33 (by omega) (by omega) (by omega) (by omega), dc 33 (by omega) (by omega), u1]
    by_cases c1 : C.1 1 s 0 = 1
    · rw [if_pos c1, if_pos c1, cc]
      exact up _ hcome
    · rw [if_neg c1, if_neg c1]
      by_cases c4 : C.1 1 s 0 = 4
      · rw [if_pos c4, if_pos c4, fcF]
        exact up _ hF
      · rw [if_neg c4, if_neg c4]
        exact up _ h
  · exact absurd f hf4
