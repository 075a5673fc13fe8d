/-! side by side: numbers of a side; a side falls -/
def sm_g (k : Nat) : Nat := if k < 4 then 12 + k else 13 + k
theorem sm.g {C : cr_C} {D : rf_C} (h : sm C D) {s k : Nat} (hs : s < 6) (hk : k ≤ 13) : D.1 (sm_g k) s = C.1 1 s k := by
  obtain ⟨⟨h0, h1, h2, h3, h4, h5, h6, h7, h8, h9, h10, h11, h12, h13⟩, -⟩ := (h.1 s hs).1
  rcases (show k = 0 ∨ k = 1 ∨ k = 2 ∨ k = 3 ∨ k = 4 ∨ k = 5 ∨ k = 6 ∨ k = 7 ∨ k = 8 ∨ k = 9 ∨ k = 10 ∨ k = 11 ∨ k = 12 ∨ k = 13 by omega) with rfl | rfl | rfl | rfl | rfl | rfl | rfl | rfl | rfl | rfl | rfl | rfl | rfl | rfl <;> assumption
/-- a number of a side is set on both -/
theorem sm_up {C : cr_C} {D : rf_C} (h : sm C D) {s k : Nat} (hs : s < 6) (hk : 1 ≤ k) (hk13 : k ≤ 13) (x : Int32) : sm (cr_sI C 1 s k x) (rf_sI D (sm_g k) s x) := by
  have hg : 13 ≤ sm_g k ∧ sm_g k ≤ 26 ∧ sm_g k ≠ 16 := by
    unfold sm_g
    split <;> omega
  refine h.at (fc_sI (fc_refl C s) (by omega)) (fd_sI (fd_refl D s) (by omega)) ?_ h.2.1
  obtain ⟨⟨hS1, hS2, hS3⟩, hV, hU, hF, hY⟩ := h.1 s hs
  have cne : ∀ κ k', κ ≠ 1 → (cr_sI C 1 s k x).1 κ s k' = C.1 κ s k' := fun κ k' hne => by
    simp only [cr_sI, cr_u]
    rw [if_neg (fun e => hne e.1)]
  have cn1 : ∀ k', k' ≠ k → (cr_sI C 1 s k x).1 1 s k' = C.1 1 s k' := fun k' hne => by
    simp only [cr_sI, cr_u]
    rw [if_neg (fun e => hne e.2.2)]
  have dne : ∀ k' j, k' ≠ sm_g k → (rf_sI D (sm_g k) s x).1 k' j = D.1 k' j := fun k' j hne => rf_sI_ne _ _ (fun e => hne e.1)
  refine ⟨⟨?_, ?_, ?_⟩, ?_, ?_, ?_, ?_⟩
  · have step : ∀ k', k' ≤ 13 → (rf_sI D (sm_g k) s x).1 (sm_g k') s = (cr_sI C 1 s k x).1 1 s k' := by
      intro k' hk'
      by_cases e : k' = k
      · subst e
        rw [rf_sI_at, cr_sI_at]
      · rw [cn1 k' e, dne _ _ (fun e2 => e (by unfold sm_g at e2; split at e2 <;> split at e2 <;> omega))]
        exact h.g hs hk'
    exact ⟨step 0 (by omega), step 1 (by omega), step 2 (by omega), step 3 (by omega), step 4 (by omega), step 5 (by omega), step 6 (by omega), step 7 (by omega), step 8 (by omega), step 9 (by omega), step 10 (by omega), step 11 (by omega), step 12 (by omega), step 13 (by omega)⟩
  · rw [cn1 0 (by omega), cn1 14 (by omega), dne 16 s (by omega)]
    exact hS2
  · rw [cn1 15 (by omega), dne 27 s (by omega)]
    exact hS3
  · unfold sm_V cr_nb at hV ⊢
    simp only [cne 2 _ (by omega), dne 42 s (by omega), dne 43 s (by omega), dne 44 s (by omega), dne 45 s (by omega), dne 46 s (by omega), dne 47 s (by omega)]
    exact hV
  · unfold sm_U at hU ⊢
    simp only [cne 3 _ (by omega), dne 32 s (by omega), dne 33 s (by omega), dne 34 s (by omega), dne 35 s (by omega), dne 36 s (by omega), dne 37 s (by omega), dne 38 s (by omega), dne 39 s (by omega), dne 40 s (by omega), dne 41 s (by omega)]
    exact hU
  · unfold sm_F at hF ⊢
    simp only [cne 4 _ (by omega), dne 30 s (by omega), dne 31 s (by omega)]
    exact hF
  · intro i hi
    rw [cne 5 i (by omega), cne 6 i (by omega), dne 28 _ (by omega), dne 29 _ (by omega)]
    exact hY i hi
/-- the state of a side, and whether it fell, are set on both -/
theorem sm_st {C : cr_C} {D : rf_C} (h : sm C D) {s : Nat} (hs : s < 6) (x y y' : Int32) (hf : x = 0 → y' = y) : sm (cr_sI (cr_sI C 1 s 0 x) 1 s 14 y) (rf_sI (rf_sI D 12 s x) 16 s y') := by
  refine h.at (fc_sI (fc_sI (fc_refl C s) (by omega)) (by omega)) (fd_sI (fd_sI (fd_refl D s) (by omega)) (by omega)) ?_ h.2.1
  obtain ⟨⟨⟨h0, h1, h2, h3, h4, h5, h6, h7, h8, h9, h10, h11, h12, h13⟩, hS2, hS3⟩, hV, hU, hF, hY⟩ := h.1 s hs
  have cn : ∀ κ k', ¬ (κ = 1 ∧ (k' = 0 ∨ k' = 14)) → (cr_sI (cr_sI C 1 s 0 x) 1 s 14 y).1 κ s k' = C.1 κ s k' := fun κ k' hne => by
    simp only [cr_sI, cr_u]
    rw [if_neg (fun e => hne ⟨e.1, Or.inr e.2.2⟩), if_neg (fun e => hne ⟨e.1, Or.inl e.2.2⟩)]
  have dn : ∀ k' j, k' ≠ 12 → k' ≠ 16 → (rf_sI (rf_sI D 12 s x) 16 s y').1 k' j = D.1 k' j := fun k' j a b => by rw [rf_sI_ne _ _ (fun e => b e.1), rf_sI_ne _ _ (fun e => a e.1)]
  have c0 : (cr_sI (cr_sI C 1 s 0 x) 1 s 14 y).1 1 s 0 = x := by simp [cr_sI, cr_u]
  have c14 : (cr_sI (cr_sI C 1 s 0 x) 1 s 14 y).1 1 s 14 = y := cr_sI_at _ _ _ _ _
  have d12 : (rf_sI (rf_sI D 12 s x) 16 s y').1 12 s = x := by rw [rf_sI_ne _ _ (by omega), rf_sI_at]
  have d16 : (rf_sI (rf_sI D 12 s x) 16 s y').1 16 s = y' := rf_sI_at _ _ _ _
  refine ⟨⟨⟨?_, ?_, ?_, ?_, ?_, ?_, ?_, ?_, ?_, ?_, ?_, ?_, ?_, ?_⟩, ?_, ?_⟩, ?_, ?_, ?_, ?_⟩
  · rw [c0, d12]
  · rw [cn 1 1 (by omega), dn 13 s (by omega) (by omega)]; exact h1
  · rw [cn 1 2 (by omega), dn 14 s (by omega) (by omega)]; exact h2
  · rw [cn 1 3 (by omega), dn 15 s (by omega) (by omega)]; exact h3
  · rw [cn 1 4 (by omega), dn 17 s (by omega) (by omega)]; exact h4
  · rw [cn 1 5 (by omega), dn 18 s (by omega) (by omega)]; exact h5
  · rw [cn 1 6 (by omega), dn 19 s (by omega) (by omega)]; exact h6
  · rw [cn 1 7 (by omega), dn 20 s (by omega) (by omega)]; exact h7
  · rw [cn 1 8 (by omega), dn 21 s (by omega) (by omega)]; exact h8
  · rw [cn 1 9 (by omega), dn 22 s (by omega) (by omega)]; exact h9
  · rw [cn 1 10 (by omega), dn 23 s (by omega) (by omega)]; exact h10
  · rw [cn 1 11 (by omega), dn 24 s (by omega) (by omega)]; exact h11
  · rw [cn 1 12 (by omega), dn 25 s (by omega) (by omega)]; exact h12
  · rw [cn 1 13 (by omega), dn 26 s (by omega) (by omega)]; exact h13
  · rw [c0, c14, d16]
    exact hf
  · rw [cn 1 15 (by omega), dn 27 s (by omega) (by omega)]
    exact hS3
  · unfold sm_V cr_nb at hV ⊢
    simp only [cn 2 _ (by omega), dn 42 s (by omega) (by omega), dn 43 s (by omega) (by omega), dn 44 s (by omega) (by omega), dn 45 s (by omega) (by omega), dn 46 s (by omega) (by omega), dn 47 s (by omega) (by omega)]
    exact hV
  · unfold sm_U at hU ⊢
    simp only [cn 3 _ (by omega), dn 32 s (by omega) (by omega), dn 33 s (by omega) (by omega), dn 34 s (by omega) (by omega), dn 35 s (by omega) (by omega), dn 36 s (by omega) (by omega), dn 37 s (by omega) (by omega), dn 38 s (by omega) (by omega), dn 39 s (by omega) (by omega), dn 40 s (by omega) (by omega), dn 41 s (by omega) (by omega)]
    exact hU
  · unfold sm_F at hF ⊢
    simp only [cn 4 _ (by omega), dn 30 s (by omega) (by omega), dn 31 s (by omega) (by omega)]
    exact hF
  · intro i hi
    rw [cn 5 i (by omega), cn 6 i (by omega), dn 28 _ (by omega) (by omega), dn 29 _ (by omega) (by omega)]
    exact hY i hi
theorem cr_sI_same (C : cr_C) (κ i k : Nat) : cr_sI C κ i k (C.1 κ i k) = C := by
  obtain ⟨I, Z, V⟩ := C
  unfold cr_sI cr_u
  congr
  funext κ' i' k'
  by_cases e : κ' = κ ∧ i' = i ∧ k' = k
  · obtain ⟨rfl, rfl, rfl⟩ := e
    simp
  · simp only [if_neg e]
theorem cr_sI_comm (C : cr_C) {κ i k κ' i' k' : Nat} (x y : Int32) (h : ¬ (κ = κ' ∧ i = i' ∧ k = k')) : cr_sI (cr_sI C κ i k x) κ' i' k' y = cr_sI (cr_sI C κ' i' k' y) κ i k x := by
  obtain ⟨I, Z, V⟩ := C
  unfold cr_sI cr_u
  congr
  funext a b c
  by_cases e : a = κ ∧ b = i ∧ c = k
  · obtain ⟨rfl, rfl, rfl⟩ := e
    simp [h]
  · simp [e]
theorem rf_sI_comm (D : rf_C) {k j k' j' : Nat} (x y : Int32) (h : ¬ (k = k' ∧ j = j')) : rf_sI (rf_sI D k j x) k' j' y = rf_sI (rf_sI D k' j' y) k j x := by
  obtain ⟨I, Z⟩ := D
  unfold rf_sI rf_u
  congr
  funext a b
  by_cases e : a = k ∧ b = j
  · obtain ⟨rfl, rfl⟩ := e
    simp [h]
  · simp [e]
/-- a side comes to another state than out -/
theorem sm_come {C : cr_C} {D : rf_C} (h : sm C D) {s : Nat} (hs : s < 6) {x : Int32} (hx : x ≠ 0) : sm (cs_S_comeTo C s x) (rs_D_come D s x) := by
  have h1 := sm_st h hs x (C.1 1 s 14) (D.1 16 s) (fun e => absurd e hx)
  have e1 : cr_sI (cr_sI C 1 s 0 x) 1 s 14 (C.1 1 s 14) = cr_sI C 1 s 0 x := by
    rw [cr_sI_comm _ _ _ (by omega), cr_sI_same]
  have e2 : rf_sI (rf_sI D 12 s x) 16 s (D.1 16 s) = rf_sI D 12 s x := by
    rw [rf_sI_comm _ _ _ (by omega), rf_sI_same]
  rw [e1, e2] at h1
  exact sm_up (k := 1) h1 hs (by omega) (by omega) 0
