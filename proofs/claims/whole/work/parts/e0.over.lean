/-! side by side: a changeover is given up, goes on; moves of classes -/
theorem sm_isOpen {C : cr_C} {D : rf_C} (h : sm C D) {e l : Nat} (he : e < 2) (hl : l < 3) : (rs_D_isOpen D e l).1 = (cs_E_isOpen C e l).1 := by
  have hs : 2 * l + e < 6 := by omega
  have g0 : D.1 12 (2 * l + e) = C.1 1 (2 * l + e) 0 := h.g (k := 0) hs (by omega)
  have v6 := (h.1 _ hs).2.1.2.2.2.2.2.1
  have h42 : D.1 42 (2 * l + e) = 0 ↔ C.1 2 (2 * l + e) 0 = 0 := by
    rw [v6]
    by_cases c : C.1 2 (2 * l + e) 0 = 0
    · simp [c]
    · by_cases c2 : C.1 2 (2 * l + e) 2 = 0 <;> simp [c, c2]
  unfold rs_D_isOpen cs_E_isOpen
  rw [g0]
  by_cases c : C.1 1 (2 * l + e) 0 = 4
  · by_cases c2 : C.1 2 (2 * l + e) 0 = 0
    · simp only [if_pos c, if_pos c2, if_pos (h42.mpr c2)]
    · simp only [if_pos c, if_neg c2, if_neg (fun e => c2 (h42.mp e))]
  · simp only [if_neg c]
theorem sm_chosen {C : cr_C} {D : rf_C} (h : sm C D) {e k : Nat} (he : e < 2) (hk : k < 4) : (rs_D_chosen D e k).1 = (cs_E_choose C e k).1 := by
  have o0 := sm_isOpen h he (l := 0) (by omega)
  have o1 := sm_isOpen h he (l := 1) (by omega)
  have o2 := sm_isOpen h he (l := 2) (by omega)
  rcases (show k = 0 ∨ k = 1 ∨ k = 2 ∨ k = 3 by omega) with rfl | rfl | rfl | rfl
  · show (rs_D_chosen0 D e).1 = (cs_E_choose0 C e).1
    unfold rs_D_chosen0 cs_E_choose0
    simp only [rs_isOpen2, cs_isOpen2, o0, o1, o2]
    generalize (cs_E_isOpen C e 0).1 = x0
    generalize (cs_E_isOpen C e 1).1 = x1
    generalize (cs_E_isOpen C e 2).1 = x2
    by_cases c0 : x0 = 0 <;> by_cases c1 : x1 = 0 <;> by_cases c2 : x2 = 0 <;> simp [c0, c1, c2]
  · show (rs_D_chosen1 D e).1 = (cs_E_choose1 C e).1
    unfold rs_D_chosen1 cs_E_choose1
    simp only [rs_isOpen2, cs_isOpen2, o0, o1, o2]
    generalize (cs_E_isOpen C e 0).1 = x0
    generalize (cs_E_isOpen C e 1).1 = x1
    generalize (cs_E_isOpen C e 2).1 = x2
    by_cases c0 : x0 = 0 <;> by_cases c1 : x1 = 0 <;> by_cases c2 : x2 = 0 <;> simp [c0, c1, c2]
  · show (rs_D_chosen2 D e).1 = (cs_E_choose2 C e).1
    unfold rs_D_chosen2 cs_E_choose2
    simp only [rs_isOpen2, cs_isOpen2, o0, o1, o2]
    generalize (cs_E_isOpen C e 0).1 = x0
    generalize (cs_E_isOpen C e 1).1 = x1
    generalize (cs_E_isOpen C e 2).1 = x2
    by_cases c0 : x0 = 0 <;> by_cases c1 : x1 = 0 <;> by_cases c2 : x2 = 0 <;> simp [c0, c1, c2]
  · show (rs_D_chosen3 D e).1 = (cs_E_choose3 C e).1
    unfold rs_D_chosen3 cs_E_choose3
    simp only [rs_isOpen2, cs_isOpen2, o0, o1, o2]
    generalize (cs_E_isOpen C e 0).1 = x0
    generalize (cs_E_isOpen C e 1).1 = x1
    generalize (cs_E_isOpen C e 2).1 = x2
    by_cases c0 : x0 = 0 <;> by_cases c1 : x1 = 0 <;> by_cases c2 : x2 = 0 <;> simp [c0, c1, c2]
/-- a link of a class is set on both -/
theorem sm_link {C : cr_C} {D : rf_C} (h : sm C D) {e k : Nat} (he : e < 2) (hk : k < 4) (x : Int32) : sm (cr_sI C 7 e k x) (rf_sI D 48 (4 * e + k) x) := by
  have cn : ∀ κ i k', κ ≠ 7 → (cr_sI C 7 e k x).1 κ i k' = C.1 κ i k' := fun κ i k' hne => cr_sI_ne _ _ (by omega)
  have dn : ∀ k' j, k' ≠ 48 → (rf_sI D 48 (4 * e + k) x).1 k' j = D.1 k' j := fun k' j a => rf_sI_ne _ _ (by omega)
  refine ⟨fun s hs => ?_, h.2.1, fun e' k' he' hk' => ?_, ?_⟩
  · obtain ⟨hS, hV, hU, hF, hY⟩ := h.1 s hs
    refine ⟨?_, ?_, ?_, ?_, ?_⟩
    · unfold sm_S at hS ⊢
      have c1 : ∀ k', (cr_sI C 7 e k x).1 1 s k' = C.1 1 s k' := fun k' => cn 1 s k' (by omega)
      simp only [c1, dn 12 s (by omega), dn 13 s (by omega), dn 14 s (by omega), dn 15 s (by omega), dn 16 s (by omega), dn 17 s (by omega), dn 18 s (by omega), dn 19 s (by omega), dn 20 s (by omega), dn 21 s (by omega), dn 22 s (by omega), dn 23 s (by omega), dn 24 s (by omega), dn 25 s (by omega), dn 26 s (by omega), dn 27 s (by omega)]
      exact hS
    · unfold sm_V cr_nb at hV ⊢
      have c1 : ∀ k', (cr_sI C 7 e k x).1 2 s k' = C.1 2 s k' := fun k' => cn 2 s k' (by omega)
      simp only [c1, dn 42 s (by omega), dn 43 s (by omega), dn 44 s (by omega), dn 45 s (by omega), dn 46 s (by omega), dn 47 s (by omega)]
      exact hV
    · unfold sm_U at hU ⊢
      have c1 : ∀ k', (cr_sI C 7 e k x).1 3 s k' = C.1 3 s k' := fun k' => cn 3 s k' (by omega)
      simp only [c1, dn 32 s (by omega), dn 33 s (by omega), dn 34 s (by omega), dn 35 s (by omega), dn 36 s (by omega), dn 37 s (by omega), dn 38 s (by omega), dn 39 s (by omega), dn 40 s (by omega), dn 41 s (by omega)]
      exact hU
    · unfold sm_F at hF ⊢
      have c1 : ∀ k', (cr_sI C 7 e k x).1 4 s k' = C.1 4 s k' := fun k' => cn 4 s k' (by omega)
      simp only [c1, dn 30 s (by omega), dn 31 s (by omega)]
      exact hF
    · intro i hi
      rw [cn 5 s i (by omega), cn 6 s i (by omega), dn 28 _ (by omega), dn 29 _ (by omega)]
      exact hY i hi
  · by_cases e1 : e' = e ∧ k' = k
    · obtain ⟨rfl, rfl⟩ := e1
      rw [rf_sI_at, cr_sI_at]
    · rw [rf_sI_ne _ _ (by omega), cr_sI_ne _ _ (by omega)]
      exact h.2.2.1 e' k' he' hk'
  · rw [dn 49 0 (by omega), cn 9 0 6 (by omega), cn 9 1 6 (by omega)]
    exact h.2.2.2
theorem sm_move {C : cr_C} {D : rf_C} (h : sm C D) {e k : Nat} (he : e < 2) (hk : k < 4) (ho : (rs_D_chosen D e k).1 ≠ -1) : sm (cs_E_moveClass C e k) (rs_move D e k) := by
  have ec := sm_chosen h he hk
  unfold cs_E_moveClass rs_move
  rw [ec] at ho ⊢
  rw [if_neg ho]
  exact sm_link h he hk _
theorem sm_lk {C : cr_C} {D : rf_C} (h : sm C D) {e k : Nat} (he : e < 2) (hk : k < 4) : rf_lk D e k = cr_lk C e k := by
  unfold rf_lk cr_lk
  rw [h.2.2.1 e k he hk]
theorem sm_Lk {C : cr_C} {D : rf_C} (h : sm C D) {e : Nat} (he : e < 2) (hL : cr_L C e) : rf_Lk D e := fun k hk => by
  rw [sm_lk h he hk, h.2.2.1 e k he hk]
  exact hL k hk
theorem sm_kd (μ : cr_m) : rf_kd (sm_m μ) = cr_kd μ ∧ (sm_m μ).1 = μ.1 := by
  unfold rf_kd cr_kd sm_m
  split <;> exact ⟨rfl, rfl⟩
theorem sm_passOn {C : cr_C} {D : rf_C} (h : sm C D) {e : Nat} (he : e < 2) (hL : cr_L C e) (ho : rf_op D e) (μ : cr_m) (hm : cv_m μ) : sm (cs_E_passOn C e μ) (rs_passOn D e (sm_m μ)) := by
  obtain ⟨k1, k2⟩ := sm_kd μ
  unfold cs_E_passOn rs_passOn
  rw [k2]
  by_cases c : (4 : Int32) ≤ μ.1
  · rw [if_pos c, if_pos c]
    exact sm_say h he μ (sm_m_n1 μ)
  · rw [if_neg c, if_neg c]
    have hk := (hm.mo c).2
    have h1 := sm_move h he hk (ho _ hk)
    have hl := (cr_L_move hL (cr_kd μ) _ hk).2
    unfold cs_E_pass rs_pass
    rw [k1, sm_lk h1 he hk]
    exact sm_put h1 (by omega) (by omega) μ
theorem sm_pas {e : Nat} (he : e < 2) : ∀ (zs : List cr_m) (C : cr_C) (D : rf_C), sm C D → cr_L C e → rf_op D e → (∀ μ ∈ zs, cv_m μ) → sm (cs_E_pas e zs C) (rs_pas e (zs.map sm_m) D) := by
  intro zs
  induction zs with
  | nil => intro C D h _ _ _; exact h
  | cons μ zs ih =>
    intro C D h hL ho hm
    have hm1 := hm μ List.mem_cons_self
    exact ih (cs_E_passOn C e μ) (rs_passOn D e (sm_m μ)) (sm_passOn h he hL ho μ hm1) (cr_L_pass hL μ) (ho.of (fun k j hk => rs_passOn_J D e (sm_m μ) k j (by omega))) (fun ν hν => hm ν (List.mem_cons_of_mem _ hν))
theorem sm_mv {C : cr_C} {D : rf_C} (h : sm C D) {e k : Nat} (l : Nat) (he : e < 2) (hk : k < 4) (ho : rf_op D e) : sm (cs_E_mv C e l k) (rs_mv D e l k) := by
  unfold cs_E_mv rs_mv
  rw [h.2.2.1 e k he hk]
  by_cases c : C.1 7 e k = Int32.ofNat l
  · rw [if_pos c, if_pos c]
    exact sm_move h he hk (ho k hk)
  · rw [if_neg c, if_neg c]
    exact h
theorem sm_mvs {C : cr_C} {D : rf_C} (h : sm C D) {e : Nat} (l : Nat) (he : e < 2) (ho : rf_op D e) : sm (cs_E_mvs C e l) (rs_mvs D e l) := by
  have o1 : rf_op (rs_mv D e l 0) e := ho.of (fun k j hk => rs_mv_J _ _ _ _ k j (by omega))
  have o2 : rf_op (rs_mv (rs_mv D e l 0) e l 1) e := o1.of (fun k j hk => rs_mv_J _ _ _ _ k j (by omega))
  have o3 : rf_op (rs_mv (rs_mv (rs_mv D e l 0) e l 1) e l 2) e := o2.of (fun k j hk => rs_mv_J _ _ _ _ k j (by omega))
  have h1 := sm_mv h l he (k := 0) (by omega) ho
  have h2 := sm_mv h1 l he (k := 1) (by omega) o1
  have h3 := sm_mv h2 l he (k := 2) (by omega) o2
  have h4 := sm_mv h3 l he (k := 3) (by omega) o3
  unfold cs_E_mvs rs_mvs
  exact h4
