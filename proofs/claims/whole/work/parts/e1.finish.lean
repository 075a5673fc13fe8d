/-! side by side: a changeover comes to its end -/
theorem cr_sX_comm (C : cr_C) {r q : Nat} (a b : List cr_m) (h : q ≠ r) : cr_sX (cr_sX C r a) q b = cr_sX (cr_sX C q b) r a := by
  obtain ⟨I, Z, V⟩ := C
  unfold cr_sX
  congr
  funext p
  by_cases e : p = q
  · subst e
    simp [h]
  · by_cases e2 : p = r
    · subst e2
      simp [e]
    · simp [e, e2]
theorem cr_sX_I (C : cr_C) (r : Nat) (zs : List cr_m) (κ i k : Nat) : (cr_sX C r zs).1 κ i k = C.1 κ i k := rfl
theorem cs_put_X (C : cr_C) {r q : Nat} (zs : List cr_m) (μ : cr_m) (h : q ≠ r) : cs_put (cr_sX C r zs) q μ = cr_sX (cs_put C q μ) r zs := by
  unfold cs_put
  rw [cr_sX_ne _ _ h, cr_sX_comm _ _ _ h]
theorem cs_first_I {C C' : cr_C} (h : C'.1 = C.1) (e : Nat) : (cs_E_firstServing C' e).1 = (cs_E_firstServing C e).1 := by
  unfold cs_E_firstServing
  rw [h]
  repeat' split
  all_goals first | rfl | contradiction
theorem cs_isOpen_I {C C' : cr_C} (h : C'.1 = C.1) (e l : Nat) : (cs_E_isOpen C' e l).1 = (cs_E_isOpen C e l).1 := by
  unfold cs_E_isOpen
  rw [h]
  repeat' split
  all_goals first | rfl | contradiction
theorem cs_choose_I {C C' : cr_C} (h : C'.1 = C.1) (e k : Nat) : (cs_E_choose C' e k).1 = (cs_E_choose C e k).1 := by
  unfold cs_E_choose
  split
  · unfold cs_E_choose0
    simp only [cs_isOpen2, cs_isOpen_I h]
    repeat' split
    all_goals first | rfl | contradiction
  · unfold cs_E_choose1
    simp only [cs_isOpen2, cs_isOpen_I h]
    repeat' split
    all_goals first | rfl | contradiction
  · unfold cs_E_choose2
    simp only [cs_isOpen2, cs_isOpen_I h]
    repeat' split
    all_goals first | rfl | contradiction
  · unfold cs_E_choose3
    simp only [cs_isOpen2, cs_isOpen_I h]
    repeat' split
    all_goals first | rfl | contradiction
theorem cs_say_X (C : cr_C) {e r : Nat} (zs : List cr_m) (μ : cr_m) (he : e < 2) (hr : r < 6 ∨ 12 ≤ r) : cs_E_say (cr_sX C r zs) e μ = cr_sX (cs_E_say C e μ) r zs := by
  unfold cs_E_say
  rw [cs_first_I (show (cr_sX C r zs).1 = C.1 from rfl)]
  repeat' split
  · exact cs_put_X _ _ _ (by omega)
  · exact cs_put_X _ _ _ (by omega)
  · exact cs_put_X _ _ _ (by omega)
  · rfl
theorem cs_moveX (C : cr_C) (e k r : Nat) (zs : List cr_m) : cs_E_moveClass (cr_sX C r zs) e k = cr_sX (cs_E_moveClass C e k) r zs := by
  unfold cs_E_moveClass
  rw [cs_choose_I (show (cr_sX C r zs).1 = C.1 from rfl)]
  split <;> rfl
theorem cs_passOn_X {C : cr_C} {e r : Nat} (zs : List cr_m) {μ : cr_m} (he : e < 2) (hL : cr_L C e) (hm : cr_mo μ) (hr : r < 6 ∨ 12 ≤ r) : cs_E_passOn (cr_sX C r zs) e μ = cr_sX (cs_E_passOn C e μ) r zs := by
  unfold cs_E_passOn
  split
  · exact cs_say_X _ _ _ he hr
  · rename_i c
    unfold cs_E_pass
    rw [cs_moveX]
    have hl := (cr_L_move hL (cr_kd μ) _ (hm c).2).2
    show cs_put (cr_sX (cs_E_moveClass C e (cr_kd μ)) r zs) (6 + (2 * cr_lk (cs_E_moveClass C e (cr_kd μ)) e (cr_kd μ) + e)) μ = _
    exact cs_put_X _ _ _ (by omega)
theorem cs_pas_X {e r : Nat} (he : e < 2) (hr : r < 6 ∨ 12 ≤ r) (ys : List cr_m) : ∀ (zs : List cr_m) (C : cr_C), cr_L C e → (∀ μ ∈ zs, cr_mo μ) → cs_E_pas e zs (cr_sX C r ys) = cr_sX (cs_E_pas e zs C) r ys := by
  intro zs
  induction zs with
  | nil => intro C _ _; rfl
  | cons μ zs ih =>
    intro C hL hm
    show cs_E_pas e zs (cs_E_passOn (cr_sX C r ys) e μ) = cr_sX (cs_E_pas e zs (cs_E_passOn C e μ)) r ys
    rw [cs_passOn_X ys he hL (hm μ List.mem_cons_self) hr]
    exact ih _ (cr_L_pass hL μ) (fun ν hν => hm ν (List.mem_cons_of_mem _ hν))
theorem cs_passOn_8 (C : cr_C) (e : Nat) (μ : cr_m) (e' k : Nat) : (cs_E_passOn C e μ).1 8 e' k = C.1 8 e' k := by
  unfold cs_E_passOn
  split
  · rw [cs_say_I]
  · show (cs_E_moveClass C e (cr_kd μ)).1 8 e' k = _
    unfold cs_E_moveClass
    split
    · rfl
    · exact cr_sI_ne _ _ (by omega)
theorem cs_pas_8 (e : Nat) : ∀ (zs : List cr_m) (C : cr_C) (e' k : Nat), (cs_E_pas e zs C).1 8 e' k = C.1 8 e' k := by
  intro zs
  induction zs with
  | nil => intro C _ _; rfl
  | cons μ zs ih =>
    intro C e' k
    exact (ih (cs_E_passOn C e μ) e' k).trans (cs_passOn_8 C e μ e' k)
theorem cs_mvs_8 (C : cr_C) (e l e' k : Nat) : (cs_E_mvs C e l).1 8 e' k = C.1 8 e' k := by
  have h1 : ∀ (C : cr_C) (q : Nat), (cs_E_mv C e l q).1 8 e' k = C.1 8 e' k := fun C q => by
    unfold cs_E_mv cs_E_moveClass
    repeat' split
    · rfl
    · exact cr_sI_ne _ _ (by omega)
    · rfl
  unfold cs_E_mvs
  rw [h1, h1, h1, h1]
/-- the row of what is held stands for itself -/
theorem sm_held {C : cr_C} {D : rf_C} {e : Nat} (he : e < 2) (h : sm (cr_sX C (18 + e) []) (rf_sX D (18 + e) [])) (hr : D.2 (18 + e) = (C.2.1 (18 + e)).map sm_m) : sm C D := by
  refine ⟨fun s hs => ?_, fun r hr1 hr2 => ?_, h.2.2⟩
  · obtain ⟨hS, hV, hU, hF, hY⟩ := h.1 s hs
    refine ⟨?_, ?_, hU, hF, hY⟩
    · unfold sm_S at hS ⊢
      rw [cr_sX_ne _ _ (by omega)] at hS
      exact hS
    · unfold sm_V at hV ⊢
      rw [cr_sX_ne _ _ (by omega), rf_sX_ne _ _ (by omega)] at hV
      exact hV
  · by_cases e1 : r = 18 + e
    · rw [e1]
      exact hr
    · have := h.2.1 r hr1 hr2
      rw [cr_sX_ne _ _ e1, rf_sX_ne _ _ e1] at this
      exact this
theorem sm_unheld {C : cr_C} {D : rf_C} {e : Nat} (he : e < 2) (h : sm C D) : sm (cr_sX C (18 + e) []) (rf_sX D (18 + e) []) := by
  refine ⟨fun s hs => ?_, fun r hr1 hr2 => ?_, h.2.2⟩
  · obtain ⟨hS, hV, hU, hF, hY⟩ := h.1 s hs
    refine ⟨?_, ?_, hU, hF, hY⟩
    · unfold sm_S at hS ⊢
      rw [cr_sX_ne _ _ (by omega)]
      exact hS
    · unfold sm_V at hV ⊢
      rw [cr_sX_ne _ _ (by omega), rf_sX_ne _ _ (by omega)]
      exact hV
  · by_cases e1 : r = 18 + e
    · rw [e1, cr_sX_at, rf_sX_at]
      rfl
    · rw [cr_sX_ne _ _ e1, rf_sX_ne _ _ e1]
      exact h.2.1 r hr1 hr2
theorem sm_lgh {e l : Nat} {y : Int32} (he : e < 2) : ∀ (zs pre : List cr_m) (C : cr_C) (D : rf_C), sm (cr_sX C (18 + e) []) (rf_sX D (18 + e) []) → C.2.1 (18 + e) = pre ++ zs → D.2 (18 + e) = (zs ++ pre).map sm_m → (∀ μ ∈ zs, cr_mc μ) → cr_L C e → (∀ k, k < 4 → (((y >>> (Int32.ofNat k &&& 31)) &&& 1) = 1 ↔ C.1 8 e k = Int32.ofNat l)) →
    sm (cs_E_lgh e l zs pre C) (rs_lgC e y (zs.map sm_m) (pre.map sm_m) D) := by
  intro zs
  induction zs with
  | nil =>
    intro pre C D h hC hD hm hL hy
    show sm C D
    refine sm_held he h ?_
    rw [hD, hC, List.append_nil]
    rfl
  | cons μ zs ih =>
    intro pre C D h hC hD hm hL hy
    obtain ⟨m1, m2⟩ := hm μ List.mem_cons_self
    obtain ⟨k1, k2⟩ := sm_kd μ
    have hyk := hy (cr_kd μ) m2
    have hl := (hL _ m2).2
    have elk : rf_lk D e (cr_kd μ) = cr_lk C e (cr_kd μ) := sm_lk h he m2
    show sm (if C.1 8 e (cr_kd μ) = Int32.ofNat l then _ else _) (if ((y >>> ((sm_m μ).1 &&& 31)) &&& 1) = 1 then _ else _)
    rw [k2, m1]
    by_cases c : C.1 8 e (cr_kd μ) = Int32.ofNat l
    · rw [if_pos c, if_pos (hyk.mpr c), k1, elk]
      have e1 : (zs.map sm_m) ++ (pre.map sm_m) = (zs ++ pre).map sm_m := by rw [List.map_append]
      rw [e1]
      refine ih pre _ _ ?_ ?_ ?_ (fun ν hν => hm ν (List.mem_cons_of_mem _ hν)) (fun q hq => hL q hq) (fun q hq => hy q hq)
      · have e2 : cr_sX (cs_put (cr_sX C (18 + e) (pre ++ zs)) (6 + (2 * cr_lk C e (cr_kd μ) + e)) μ) (18 + e) [] = cs_put (cr_sX C (18 + e) []) (6 + (2 * cr_lk C e (cr_kd μ) + e)) μ := by
          rw [← cs_put_X _ _ _ (by omega), cr_sX_two]
        have e3 : rf_sX (rs_put (rf_sX D (18 + e) ((zs ++ pre).map sm_m)) (6 + (2 * cr_lk C e (cr_kd μ) + e)) (sm_m μ)) (18 + e) [] = rs_put (rf_sX D (18 + e) []) (6 + (2 * cr_lk C e (cr_kd μ) + e)) (sm_m μ) := by
          rw [← rs_put_X _ _ _ (by omega), rf_sX_two]
        rw [e2, e3]
        exact sm_put h (by omega) (by omega) μ
      · rw [cs_put_ne _ _ (by omega), cr_sX_at]
      · unfold rs_put
        rw [rf_sX_ne _ _ (by omega), rf_sX_at]
    · rw [if_neg c, if_neg (fun e => c (hyk.mp e))]
      have e1 : (pre.map sm_m) ++ [sm_m μ] = (pre ++ [μ]).map sm_m := by rw [List.map_append]; rfl
      rw [e1, show zs.map sm_m ++ (pre ++ [μ]).map sm_m = (zs ++ (pre ++ [μ])).map sm_m from (List.map_append ..).symm]
      refine ih (pre ++ [μ]) C _ ?_ ?_ ?_ (fun ν hν => hm ν (List.mem_cons_of_mem _ hν)) hL hy
      · rw [rf_sX_two]
        exact h
      · rw [hC, List.append_assoc]
        rfl
      · rw [rf_sX_at]
/-- the changeover is at its end: it is not under way, nothing is kept -/
theorem sm_fin0 {C : cr_C} {D : rf_C} (h : sm C D) {e l : Nat} (he : e < 2) (hl : l < 3) : sm (cr_sX (cs_E_fin0 C e l) (12 + (2 * l + e)) []) (rf_sX (rf_sI D 42 (2 * l + e) 0) (12 + (2 * l + e)) []) := by
  have hs : 2 * l + e < 6 := by omega
  unfold cs_E_fin0 cs_copy
  generalize 2 * l + e = s at *
  have cn : ∀ κ i k, κ ≠ 8 → ¬ (κ = 2 ∧ i = s ∧ k = 0) → (cr_sX (cr_sI (cr_sI (cr_sI (cr_sI (cr_sI C 2 s 0 0) 8 e 0 ((cr_sI C 2 s 0 0).1 7 e 0)) 8 e 1 ((cr_sI C 2 s 0 0).1 7 e 1)) 8 e 2 ((cr_sI C 2 s 0 0).1 7 e 2)) 8 e 3 ((cr_sI C 2 s 0 0).1 7 e 3)) (12 + s) []).1 κ i k = C.1 κ i k := fun κ i k a b => by
    rw [cr_sX_I, cr_sI_ne _ _ (by omega), cr_sI_ne _ _ (by omega), cr_sI_ne _ _ (by omega), cr_sI_ne _ _ (by omega), cr_sI_ne _ _ (by omega)]
  have c0 : (cr_sX (cr_sI (cr_sI (cr_sI (cr_sI (cr_sI C 2 s 0 0) 8 e 0 ((cr_sI C 2 s 0 0).1 7 e 0)) 8 e 1 ((cr_sI C 2 s 0 0).1 7 e 1)) 8 e 2 ((cr_sI C 2 s 0 0).1 7 e 2)) 8 e 3 ((cr_sI C 2 s 0 0).1 7 e 3)) (12 + s) []).1 2 s 0 = 0 := by
    rw [cr_sX_I, cr_sI_ne _ _ (by omega), cr_sI_ne _ _ (by omega), cr_sI_ne _ _ (by omega), cr_sI_ne _ _ (by omega), cr_sI_at]
  have cX : ∀ r, r ≠ 12 + s → (cr_sX (cr_sI (cr_sI (cr_sI (cr_sI (cr_sI C 2 s 0 0) 8 e 0 ((cr_sI C 2 s 0 0).1 7 e 0)) 8 e 1 ((cr_sI C 2 s 0 0).1 7 e 1)) 8 e 2 ((cr_sI C 2 s 0 0).1 7 e 2)) 8 e 3 ((cr_sI C 2 s 0 0).1 7 e 3)) (12 + s) []).2.1 r = C.2.1 r := fun r hr => cr_sX_ne _ _ hr
  have c12 : (cr_sX (cr_sI (cr_sI (cr_sI (cr_sI (cr_sI C 2 s 0 0) 8 e 0 ((cr_sI C 2 s 0 0).1 7 e 0)) 8 e 1 ((cr_sI C 2 s 0 0).1 7 e 1)) 8 e 2 ((cr_sI C 2 s 0 0).1 7 e 2)) 8 e 3 ((cr_sI C 2 s 0 0).1 7 e 3)) (12 + s) []).2.1 (12 + s) = [] := cr_sX_at _ _ _
  have cU : (cr_sX (cr_sI (cr_sI (cr_sI (cr_sI (cr_sI C 2 s 0 0) 8 e 0 ((cr_sI C 2 s 0 0).1 7 e 0)) 8 e 1 ((cr_sI C 2 s 0 0).1 7 e 1)) 8 e 2 ((cr_sI C 2 s 0 0).1 7 e 2)) 8 e 3 ((cr_sI C 2 s 0 0).1 7 e 3)) (12 + s) []).2.2 = C.2.2 := rfl
  generalize cr_sX (cr_sI (cr_sI (cr_sI (cr_sI (cr_sI C 2 s 0 0) 8 e 0 ((cr_sI C 2 s 0 0).1 7 e 0)) 8 e 1 ((cr_sI C 2 s 0 0).1 7 e 1)) 8 e 2 ((cr_sI C 2 s 0 0).1 7 e 2)) 8 e 3 ((cr_sI C 2 s 0 0).1 7 e 3)) (12 + s) [] = C1 at *
  have dn : ∀ k j, ¬ (k = 42 ∧ j = s) → (rf_sX (rf_sI D 42 s 0) (12 + s) []).1 k j = D.1 k j := fun k j a => rf_sI_ne _ _ a
  refine ⟨fun t ht => ?_, fun r hr1 hr2 => ?_, fun e' k' he' hk' => ?_, ?_⟩
  · obtain ⟨hS, ⟨v1, v2, v3, v4, v5, v6, v7⟩, hU, hF, hY⟩ := h.1 t ht
    refine ⟨?_, ?_, ?_, ?_, ?_⟩
    · unfold sm_S at hS ⊢
      have c1 : ∀ k', C1.1 1 t k' = C.1 1 t k' := fun k' => cn 1 t k' (by omega) (by omega)
      simp only [c1, cX t (by omega), dn 12 t (by omega), dn 13 t (by omega), dn 14 t (by omega), dn 15 t (by omega), dn 16 t (by omega), dn 17 t (by omega), dn 18 t (by omega), dn 19 t (by omega), dn 20 t (by omega), dn 21 t (by omega), dn 22 t (by omega), dn 23 t (by omega), dn 24 t (by omega), dn 25 t (by omega), dn 26 t (by omega), dn 27 t (by omega)]
      exact hS
    · unfold sm_V
      rw [cn 2 t 1 (by omega) (by omega), cn 2 t 3 (by omega) (by omega), cn 2 t 4 (by omega) (by omega), cn 2 t 5 (by omega) (by omega), cn 2 t 6 (by omega) (by omega), dn 43 t (by omega), dn 44 t (by omega), dn 45 t (by omega), dn 46 t (by omega), dn 47 t (by omega)]
      refine ⟨v1, v2, v3, v4, v5, ?_, ?_⟩
      · by_cases e1 : t = s
        · rw [e1, c0, if_pos rfl]
          exact rf_sI_at _ _ _ _
        · rw [cn 2 t 0 (by omega) (by omega), cn 2 t 2 (by omega) (by omega), dn 42 t (by omega)]
          exact v6
      · by_cases e1 : t = s
        · rw [e1, c12, rf_sX_at]
          cases cr_nb C1 s <;> rfl
        · rw [cX _ (by omega), rf_sX_ne _ _ (by omega), cn 2 t 8 (by omega) (by omega)]
          unfold cr_nb
          rw [cn 2 t 7 (by omega) (by omega)]
          exact v7
    · unfold sm_U at hU ⊢
      have c1 : ∀ k', C1.1 3 t k' = C.1 3 t k' := fun k' => cn 3 t k' (by omega) (by omega)
      simp only [c1, cU, dn 32 t (by omega), dn 33 t (by omega), dn 34 t (by omega), dn 35 t (by omega), dn 36 t (by omega), dn 37 t (by omega), dn 38 t (by omega), dn 39 t (by omega), dn 40 t (by omega), dn 41 t (by omega)]
      exact hU
    · unfold sm_F at hF ⊢
      have c1 : ∀ k', C1.1 4 t k' = C.1 4 t k' := fun k' => cn 4 t k' (by omega) (by omega)
      simp only [c1, dn 30 t (by omega), dn 31 t (by omega)]
      exact hF
    · intro i hi
      rw [cn 5 t i (by omega) (by omega), cn 6 t i (by omega) (by omega), dn 28 _ (by omega), dn 29 _ (by omega)]
      exact hY i hi
  · rw [cX r (by omega), rf_sX_ne _ _ (by omega)]
    exact h.2.1 r hr1 hr2
  · rw [cn 7 e' k' (by omega) (by omega), dn 48 _ (by omega)]
    exact h.2.2.1 e' k' he' hk'
  · rw [cn 9 0 6 (by omega) (by omega), cn 9 1 6 (by omega) (by omega), dn 49 _ (by omega)]
    exact h.2.2.2
/-- a settled changeover comes to its end -/
theorem sm_finish {C : cr_C} {D : rf_C} (h : sm C D) {e l : Nat} (he : e < 2) (hl : l < 3) (hv : cv C) (hn : cr_nb C (2 * l + e) = 0) (ho : rf_op (rf_sI D 42 (2 * l + e) 0) e) : sm (cs_E_finish C e l) (rs_end D l e) := by
  have hs : 2 * l + e < 6 := by omega
  have hr : 12 + (2 * l + e) < 22 := by omega
  have h0 := sm_fin0 h he hl
  have hL : cr_L C e := hv.L he
  have hkept : D.2 (12 + (2 * l + e)) = (C.2.1 (12 + (2 * l + e))).map sm_m := by
    have v7 := (h.1 _ hs).2.1.2.2.2.2.2.2
    rw [hn, sm_k_0] at v7
    exact v7
  have hwf : ∀ μ ∈ C.2.1 (12 + (2 * l + e)), cv_m μ := hv.1.1 _ hr
  have hL0 : cr_L (cs_E_fin0 C e l) e := cr_L_of hL (fun k => by simp [cs_E_fin0, cs_copy, cr_sI, cr_u])
  have hX0 : (cs_E_fin0 C e l).2.1 = C.2.1 := rfl
  have h8 : ∀ k, k < 4 → (cs_E_fin0 C e l).1 8 e k = C.1 7 e k := fun k hk => by
    rcases (show k = 0 ∨ k = 1 ∨ k = 2 ∨ k = 3 by omega) with rfl | rfl | rfl | rfl <;> simp [cs_E_fin0, cs_copy, cr_sI, cr_u]
  have hmi : ∀ k, k < 4 → (((rf_mi (rf_sI D 42 (2 * l + e) 0) e l >>> (Int32.ofNat k &&& 31)) &&& 1) = 1 ↔ C.1 7 e k = Int32.ofNat l) := fun k hk => by
    rw [rf_mi_bit _ _ _ hk, rf_sI_ne _ _ (by omega), h.2.2.1 e k he hk]
  unfold cs_E_finish rs_end rs_en1 rs_en2 cs_E_letGoHeld
  rw [show (rf_sI D 42 (2 * l + e) 0).2 (12 + (2 * l + e)) = (C.2.1 (12 + (2 * l + e))).map sm_m from hkept]
  have efin : cs_E_fin1 (cs_E_fin0 C e l) e l = cs_E_pas e (C.2.1 (12 + (2 * l + e))) (cr_sX (cs_E_fin0 C e l) (12 + (2 * l + e)) []) := by
    unfold cs_E_fin1
    rw [hX0]
    exact (cs_pas_X he (by omega) [] _ _ hL0 (fun μ hμ => (hwf μ hμ).mo)).symm
  rw [efin]
  have hL1 : cr_L (cr_sX (cs_E_fin0 C e l) (12 + (2 * l + e)) []) e := hL0
  have ho1 : rf_op (rf_sX (rf_sI D 42 (2 * l + e) 0) (12 + (2 * l + e)) []) e := ho.of (fun _ _ _ => rfl)
  have h81 : ∀ k, k < 4 → (cr_sX (cs_E_fin0 C e l) (12 + (2 * l + e)) []).1 8 e k = C.1 7 e k := h8
  have hh1 : (cr_sX (cs_E_fin0 C e l) (12 + (2 * l + e)) []).2.1 (18 + e) = C.2.1 (18 + e) := cr_sX_ne _ _ (by omega)
  generalize rf_mi (rf_sI D 42 (2 * l + e) 0) e l = y at *
  generalize cr_sX (cs_E_fin0 C e l) (12 + (2 * l + e)) [] = C1 at *
  generalize rf_sX (rf_sI D 42 (2 * l + e) 0) (12 + (2 * l + e)) [] = D1 at *
  have h1 := sm_pas he (C.2.1 (12 + (2 * l + e))) C1 D1 h0 hL1 ho1 hwf
  obtain ⟨pL, pX, -⟩ := cs_pas_ok e he (C.2.1 (12 + (2 * l + e))) C1 hL1 (fun μ hμ => (hwf μ hμ).mo)
  obtain ⟨-, qI, -⟩ := rs_pas_ok he ((C.2.1 (12 + (2 * l + e))).map sm_m) D1 (sm_Lk h0 he hL1) ho1 (fun μ hμ => by
    obtain ⟨ν, hν, rfl⟩ := List.mem_map.mp hμ
    obtain ⟨k1, k2⟩ := sm_kd ν
    intro c
    rw [k2] at c
    have := (hwf ν hν).mo c
    exact ⟨by rw [k2, k1]; exact this.1, by rw [k1]; exact this.2⟩)
  have p8 : ∀ k, k < 4 → (cs_E_pas e (C.2.1 (12 + (2 * l + e))) C1).1 8 e k = C.1 7 e k := fun k hk => (cs_pas_8 e _ C1 e k).trans (h81 k hk)
  have pH : (cs_E_pas e (C.2.1 (12 + (2 * l + e))) C1).2.1 (18 + e) = C.2.1 (18 + e) := (pX _ (by omega)).trans hh1
  have ho2 : rf_op (rs_pas e ((C.2.1 (12 + (2 * l + e))).map sm_m) D1) e := ho1.of (fun k j hk => qI k j (by omega))
  generalize cs_E_pas e (C.2.1 (12 + (2 * l + e))) C1 = C2 at *
  generalize rs_pas e ((C.2.1 (12 + (2 * l + e))).map sm_m) D1 = D2 at *
  have h2 := sm_mvs h1 l he ho2
  have mL : cr_L (cs_E_mvs C2 e l) e := cr_L_mv (cr_L_mv (cr_L_mv (cr_L_mv pL l 0) l 1) l 2) l 3
  have mX := cs_mvs_X C2 e l
  have m8 := cs_mvs_8 C2 e l e
  generalize cs_E_mvs C2 e l = C3 at *
  generalize rs_mvs D2 e l = D3 at *
  have hrow := h2.2.1 (18 + e) (by omega) (by omega)
  rw [hrow]
  have ht := sm_lgh (l := l) (y := y) he (C3.2.1 (18 + e)) [] C3 D3 (sm_unheld he h2) (List.nil_append _).symm (by rw [List.append_nil]; exact hrow) (by rw [mX, pH]; exact hv.1.2.1 _ (by omega) (by omega)) mL (fun k hk => by rw [m8 k, p8 k hk]; exact hmi k hk)
  exact ht
