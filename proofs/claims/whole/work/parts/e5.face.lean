/-! side by side: the face -/
theorem sm_begin {C : cr_C} {D : rf_C} (h : sm C D) {s : Nat} (hs : s < 6) : sm (cs_S_begin C s) (rs_D_begin (rf_sI (rs_D_come D s 1) 14 s ((rs_D_come D s 1).1 14 s + 1)) s) := by
  have g2 : D.1 14 s = C.1 1 s 2 := h.g (k := 2) hs (by omega)
  have h1 := sm_st h hs 1 0 (D.1 16 s) (fun e => absurd e (by decide))
  have e2 : rf_sI (rf_sI D 12 s 1) 16 s (D.1 16 s) = rf_sI D 12 s 1 := by
    rw [rf_sI_comm _ _ _ (by omega), rf_sI_same]
  rw [e2] at h1
  have h2 := sm_up (k := 2) (sm_up (k := 1) h1 hs (by omega) (by omega) 0) hs (by omega) (by omega) (C.1 1 s 2 + 1)
  have ec : cr_sI (cr_sI (cr_sI (cr_sI C 1 s 0 1) 1 s 14 0) 1 s 1 0) 1 s 2 (C.1 1 s 2 + 1) = cr_sI (cr_sI (cs_S_comeTo C s 1) 1 s 2 ((cs_S_comeTo C s 1).1 1 s 2 + 1)) 1 s 14 0 := by
    have e3 : (cs_S_comeTo C s 1).1 1 s 2 = C.1 1 s 2 := by
      unfold cs_S_comeTo
      rw [cr_sI_ne _ _ (by omega), cr_sI_ne _ _ (by omega)]
    rw [e3]
    unfold cs_S_comeTo
    rw [cr_sI_comm (cr_sI C 1 s 0 1) (k := 14) (k' := 1) _ _ (by omega), cr_sI_comm (cr_sI (cr_sI C 1 s 0 1) 1 s 1 0) (k := 14) (k' := 2) _ _ (by omega)]
  have ed : rf_sI (rf_sI (rf_sI D 12 s 1) (sm_g 1) s 0) (sm_g 2) s (C.1 1 s 2 + 1) = rf_sI (rs_D_come D s 1) 14 s ((rs_D_come D s 1).1 14 s + 1) := by
    have e3 : (rs_D_come D s 1).1 14 s = C.1 1 s 2 := by
      unfold rs_D_come
      rw [rf_sI_ne _ _ (by omega), rf_sI_ne _ _ (by omega), g2]
    rw [e3]
    rfl
  rw [ec, ed] at h2
  unfold cs_S_begin rs_D_begin cs_S_clearRows
  generalize cr_sI (cr_sI (cs_S_comeTo C s 1) 1 s 2 ((cs_S_comeTo C s 1).1 1 s 2 + 1)) 1 s 14 0 = C1 at *
  generalize rf_sI (rs_D_come D s 1) 14 s ((rs_D_come D s 1).1 14 s + 1) = D1 at *
  have h4 := sm_up (k := 4) h2 hs (by omega) (by omega) 7
  have h5 := sm_up (k := 5) h4 hs (by omega) (by omega) 7
  have h6 := sm_up (k := 6) h5 hs (by omega) (by omega) 1
  have h7 := sm_up (k := 7) h6 hs (by omega) (by omega) 1
  have h8 := sm_up (k := 8) h7 hs (by omega) (by omega) 0
  have h9 := sm_up (k := 9) h8 hs (by omega) (by omega) 0
  have h10 := sm_up (k := 10) h9 hs (by omega) (by omega) 0
  have h11 := sm_up (k := 11) h10 hs (by omega) (by omega) 0
  have h12 := sm_up (k := 12) h11 hs (by omega) (by omega) 0
  have h13 := sm_up (k := 13) h12 hs (by omega) (by omega) 0
  have h15 := sm_row h13 hs [] (a := 0) (Nat.le_refl _) rfl rfl
  exact sm_setrow h15 (r := 6 + s) (by omega) (by omega) []
theorem sm_start {C : cr_C} {D : rf_C} (h : sm C D) {l e : Nat} (hl : l < 3) (he : e < 2) : (rs_D_start D l e).1 = (cs_P_start C l e).1 ∧ sm (cs_P_start C l e).2 (rs_D_start D l e).2 := by
  have h0 := sm_50 h (k := 0) (Or.inl rfl) 0
  have hs : 2 * l + e < 6 := by omega
  have g0 : (rf_sI D 0 0 0).1 12 (2 * l + e) = C.1 1 (2 * l + e) 0 := h0.g (k := 0) hs (by omega)
  unfold rs_D_start cs_P_start
  rw [g0]
  by_cases c : C.1 1 (2 * l + e) 0 = 0
  · rw [if_pos c, if_pos c]
    exact ⟨rfl, sm_begin h0 hs⟩
  · rw [if_neg c, if_neg c]
    exact ⟨rfl, h0⟩
theorem sm_stop {C : cr_C} {D : rf_C} (h : sm C D) {l e : Nat} (hl : l < 3) (he : e < 2) (hi : iv_s C (2 * l + e)) : (rs_D_stop D l e).1 = (cs_P_stop C l e).1 ∧ sm (cs_P_stop C l e).2 (rs_D_stop D l e).2 := by
  have h0 := sm_50 h (k := 0) (Or.inl rfl) 0
  have hs : 2 * l + e < 6 := by omega
  have g0 : (rf_sI D 0 0 0).1 12 (2 * l + e) = C.1 1 (2 * l + e) 0 := h0.g (k := 0) hs (by omega)
  unfold rs_D_stop cs_P_stop
  rw [g0]
  by_cases c : C.1 1 (2 * l + e) 0 = 0
  · rw [if_pos c, if_pos c]
    exact ⟨rfl, h0⟩
  · rw [if_neg c, if_neg c]
    exact ⟨rfl, sm_fall h0 he hl hi⟩
theorem sm_fault {C : cr_C} {D : rf_C} (h : sm C D) {l e : Nat} (hl : l < 3) (he : e < 2) {x y : Int32} (hxy : ¬ x < 0 ∧ ¬ 2 < x ∧ ¬ y < 0 ∧ y ≤ 99) : sm (cs_P_fault C l e x y) (rs_D_fault D l e x y) := by
  have h0 := sm_50 h (k := 0) (Or.inl rfl) 0
  have hs : 2 * l + e < 6 := by omega
  obtain ⟨a, b, c, d⟩ := hxy
  unfold cs_P_fault rs_D_fault
  rw [if_neg a, if_neg b, if_neg c, if_pos d]
  refine sm_flt h0 hs _ _ _ ?_
  by_cases cx : x = 0
  · rw [if_pos cx]
    exact Or.inr ⟨cx, rfl⟩
  · rw [if_neg cx]
    exact Or.inl ⟨cx, rfl⟩
theorem sm_take {C : cr_C} {D : rf_C} (h : sm C D) {e : Nat} (he : e < 2) {μ : cr_m} {zs : List cr_m} (hX : C.2.1 (20 + e) = μ :: zs) : D.2 (20 + e) = sm_m μ :: zs.map sm_m ∧ sm (cr_sX C (20 + e) zs) (rf_sX (rf_sI D 0 0 0) (20 + e) (zs.map sm_m)) := by
  refine ⟨?_, sm_setrow (sm_50 h (k := 0) (Or.inl rfl) 0) (by omega) (by omega) zs⟩
  rw [h.2.1 (20 + e) (by omega) (by omega), hX]
  rfl
theorem sm_hs (zs : List cr_m) (x : Int32) : rf_hs (zs.map sm_m) x = cr_hs zs x := by
  have e : (∃ μ ∈ zs.map sm_m, μ.1 = x) ↔ ∃ μ ∈ zs, μ.1 = x := by
    constructor
    · rintro ⟨μ, hm, hx⟩
      obtain ⟨ν, hν, rfl⟩ := List.mem_map.mp hm
      exact ⟨ν, hν, by rw [← hx, (sm_kd ν).2]⟩
    · rintro ⟨ν, hν, hx⟩
      exact ⟨sm_m ν, List.mem_map.mpr ⟨ν, hν, rfl⟩, by rw [← hx, (sm_kd ν).2]⟩
  unfold rf_hs cr_hs
  by_cases c : ∃ μ ∈ zs, μ.1 = x
  · rw [if_pos c, if_pos (e.mpr c)]
  · rw [if_neg c, if_neg (fun q => c (e.mp q))]
theorem sm_new {k : Nat} (hk : k < 4) (x : Int32) : sm_m (Int32.ofNat k, x, -1, -1) = (Int32.ofNat k, x, 0, 0, -1) := by
  unfold sm_m
  rw [if_neg]
  rintro (e | e)
  · have := (nI_eq (a := k) (b := 4) (by omega) (by omega)).mp e
    omega
  · have := (nI_eq (a := k) (b := 5) (by omega) (by omega)).mp e
    omega
theorem sm_below {C : cr_C} {D : rf_C} (h : sm C D) {e k l : Nat} (he : e < 2) (hk : k < 4) (hl : l < 3) (x : Int32) : (rs_sbT D e k l x).1 = (cs_E_addBelow C (6 + (2 * l + e)) 6 (Int32.ofNat k) x).1 ∧ sm (cs_E_addBelow C (6 + (2 * l + e)) 6 (Int32.ofNat k) x).2 (rs_sbT D e k l x).2 := by
  unfold rs_sbT cs_E_addBelow
  rw [h.2.1 (6 + (2 * l + e)) (by omega) (by omega), List.length_map, ← sm_new hk x]
  split
  · exact ⟨rfl, sm_put h (by omega) (by omega) _⟩
  · exact ⟨rfl, h⟩
theorem sm_acc2 {C : cr_C} {D : rf_C} (h : sm C D) {e k : Nat} (he : e < 2) (hk : k < 4) (x : Int32) : (rs_sb2 D e k x).1 = (cs_E_acc2 C e k x).1 ∧ sm (cs_E_acc2 C e k x).2 (rs_sb2 D e k x).2 := by
  have hc := sm_chosen h he hk
  unfold rs_sb2 cs_E_acc2 rs_move
  rw [hc]
  by_cases c0 : (cs_E_choose C e k).1 = 0
  · rw [if_pos c0, if_pos c0, c0]
    exact sm_below (sm_link h he hk 0) he hk (by omega) x
  · rw [if_neg c0, if_neg c0]
    by_cases c1 : (cs_E_choose C e k).1 = 1
    · rw [if_pos c1, if_pos c1, c1]
      exact sm_below (sm_link h he hk 1) he hk (by omega) x
    · rw [if_neg c1, if_neg c1]
      by_cases c2 : (cs_E_choose C e k).1 = 2
      · rw [if_pos c2, if_pos c2, c2]
        exact sm_below (sm_link h he hk 2) he hk (by omega) x
      · rw [if_neg c2, if_neg c2]
        exact ⟨rfl, h⟩
theorem sm_accept {C : cr_C} {D : rf_C} (h : sm C D) {e k : Nat} (he : e < 2) (hk : k < 4) (hL : cr_L C e) (h8 : (C.2.1 (18 + e)).length ≤ 8) (x : Int32) : (rs_submit D e k x).1 = (cs_E_accept C e k x).1 ∧ sm (cs_E_accept C e k x).2 (rs_submit D e k x).2 := by
  have h0 := sm_50 h (k := 0) (Or.inl rfl) 0
  have hl : cr_lk C e k < 3 := (hL k hk).2
  unfold rs_submit cs_E_accept
  rw [sm_lk h he hk]
  generalize cr_lk C e k = l at *
  generalize rf_sI D 0 0 0 = D0 at *
  have hs : 2 * l + e < 6 := by omega
  obtain ⟨v1, v2, v3, v4, v5, v6, v7⟩ := (h0.1 _ hs).2.1
  unfold rs_sb0 cs_E_acc1
  rw [v6]
  by_cases cu : C.1 2 (2 * l + e) 0 = 0
  · rw [if_pos cu, if_pos cu, if_pos (show (0 : Int32) ≤ 0 by decide)]
    unfold rs_sb1 rs_sbO cs_S_carries
    rw [h0.2.1 (2 * l + e) (by omega) (by omega), h0.2.1 (6 + (2 * l + e)) (by omega) (by omega), sm_hs, sm_hs, sm_isOpen h0 he hl]
    have a2 := sm_acc2 h0 he hk x
    have a3 := sm_below h0 he hk hl x
    generalize rs_sb2 D0 e k x = R2 at *
    generalize rs_sbT D0 e k l x = R3 at *
    generalize cs_E_acc2 C e k x = S2 at *
    generalize cs_E_addBelow C (6 + (2 * l + e)) 6 (Int32.ofNat k) x = S3 at *
    by_cases c1 : cr_hs (C.2.1 (2 * l + e)) (Int32.ofNat k) = 0
    · rw [if_pos c1, if_pos c1]
      by_cases c2 : cr_hs (C.2.1 (6 + (2 * l + e))) (Int32.ofNat k) = 0
      · rw [if_pos c2, if_pos c2, if_pos rfl]
        exact a2
      · rw [if_neg c2, if_neg c2, if_neg (show ¬ (1 : Int32) = 0 by decide)]
        by_cases c3 : (cs_E_isOpen C e l).1 = 0
        · rw [if_pos c3, if_pos c3]
          exact a2
        · rw [if_neg c3, if_neg c3]
          exact a3
    · rw [if_neg c1, if_neg c1, if_neg (show ¬ (1 : Int32) = 0 by decide)]
      by_cases c3 : (cs_E_isOpen C e l).1 = 0
      · rw [if_pos c3, if_pos c3]
        exact a2
      · rw [if_neg c3, if_neg c3]
        exact a3
  · have n0 : ¬ (if C.1 2 (2 * l + e) 0 = 0 then (0 : Int32) else if C.1 2 (2 * l + e) 2 = 0 then 1 else 2) ≤ 0 := by
      rw [if_neg cu]
      split <;> decide
    rw [if_neg n0, if_neg cu]
    unfold cs_E_addBelow
    rw [h0.2.1 (18 + e) (by omega) (by omega), List.length_map, ← sm_new hk x]
    by_cases c8 : (C.2.1 (18 + e)).length = 8
    · rw [c8, if_pos (show Int32.ofNat 8 = 8 from rfl), if_neg (show ¬ Int32.ofNat 8 < 8 by decide)]
      exact ⟨rfl, h0⟩
    · rw [if_neg (show ¬ Int32.ofNat (C.2.1 (18 + e)).length = 8 from fun q => c8 ((nI_eq (a := (C.2.1 (18 + e)).length) (b := 8) (by omega) (by omega)).mp q)), if_pos (show Int32.ofNat (C.2.1 (18 + e)).length < 8 from nI_lt (b := 8) (by omega) (by omega))]
      exact ⟨rfl, sm_put h0 (by omega) (by omega) _⟩
