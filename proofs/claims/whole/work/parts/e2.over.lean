/-! side by side: a changeover goes on -/
theorem sm_set {C : cr_C} {D : rf_C} (h : sm C D) {s : Nat} (hs : s < 6) (hu : C.1 2 s 0 ≠ 0) (p : Nat) : sm (cr_sI (cr_sI (cr_sX C (12 + s) ((C.2.1 (12 + s)).drop p)) 2 s 7 0) 2 s 2 1) (rf_sI (rf_sX D (12 + s) (((C.2.1 (12 + s)).drop p).map sm_m)) 42 s 2) := by
  obtain ⟨hS, ⟨v1, v2, v3, v4, v5, v6, v7⟩, hU, hF, hY⟩ := h.1 s hs
  have x12 : (cr_sI (cr_sI (cr_sX C (12 + s) ((C.2.1 (12 + s)).drop p)) 2 s 7 0) 2 s 2 1).2.1 (12 + s) = (C.2.1 (12 + s)).drop p := cr_sX_at _ _ _
  have xs : (cr_sI (cr_sI (cr_sX C (12 + s) ((C.2.1 (12 + s)).drop p)) 2 s 7 0) 2 s 2 1).2.1 s = C.2.1 s := cr_sX_ne _ _ (by omega)
  have cn : ∀ κ k, ¬ (κ = 2 ∧ (k = 7 ∨ k = 2)) → (cr_sI (cr_sI (cr_sX C (12 + s) ((C.2.1 (12 + s)).drop p)) 2 s 7 0) 2 s 2 1).1 κ s k = C.1 κ s k := fun κ k hne => by
    rw [cr_sI_ne _ _ (by omega), cr_sI_ne _ _ (by omega)]
    rfl
  have dn : ∀ k j, k ≠ 42 → (rf_sI (rf_sX D (12 + s) (((C.2.1 (12 + s)).drop p).map sm_m)) 42 s 2).1 k j = D.1 k j := fun k j hne => by
    rw [rf_sI_ne _ _ (by omega)]
    rfl
  have c7 : cr_nb (cr_sI (cr_sI (cr_sX C (12 + s) ((C.2.1 (12 + s)).drop p)) 2 s 7 0) 2 s 2 1) s = 0 := by
    unfold cr_nb
    rw [cr_sI_ne _ _ (by omega), cr_sI_at]
    rfl
  refine h.at (fc_sI (fc_sI (fc_sX (fc_refl C s) (fun i hi his => by omega)) (by omega)) (by omega)) (fd_sI (fd_sX (fd_refl D s) (fun i hi his => by omega)) (by omega)) ⟨?_, ?_, hU, hF, ?_⟩ ?_
  · unfold sm_S at hS ⊢
    have c1 : ∀ k, (cr_sI (cr_sI (cr_sX C (12 + s) ((C.2.1 (12 + s)).drop p)) 2 s 7 0) 2 s 2 1).1 1 s k = C.1 1 s k := fun k => cn 1 k (by omega)
    simp only [c1, xs, dn 12 s (by omega), dn 13 s (by omega), dn 14 s (by omega), dn 15 s (by omega), dn 16 s (by omega), dn 17 s (by omega), dn 18 s (by omega), dn 19 s (by omega), dn 20 s (by omega), dn 21 s (by omega), dn 22 s (by omega), dn 23 s (by omega), dn 24 s (by omega), dn 25 s (by omega), dn 26 s (by omega), dn 27 s (by omega)]
    exact hS
  · unfold sm_V
    rw [c7, sm_k_0, x12, cn 2 1 (by omega), cn 2 3 (by omega), cn 2 4 (by omega), cn 2 5 (by omega), cn 2 6 (by omega), cn 2 0 (by omega), dn 43 s (by omega), dn 44 s (by omega), dn 45 s (by omega), dn 46 s (by omega), dn 47 s (by omega), rf_sI_at, cr_sI_at, if_neg hu, if_neg (by decide)]
    exact ⟨v1, v2, v3, v4, v5, rfl, rf_sX_at _ _ _⟩
  · intro i hi
    rw [cn 5 i (by omega), cn 6 i (by omega), dn 28 _ (by omega), dn 29 _ (by omega)]
    exact hY i hi
  · intro r hr hr2
    show (rf_sX D (12 + s) _).2 r = ((cr_sX C (12 + s) _).2.1 r).map sm_m
    rw [rf_sX_ne _ _ (by omega), cr_sX_ne _ _ (by omega)]
    exact h.2.1 r hr hr2
theorem sm_lost {C : cr_C} {D : rf_C} (h : sm C D) {e : Nat} (he : e < 2) (x : Int32) : sm (cr_sI C 9 e 6 (C.1 9 e 6 + x)) (rf_sI D 49 0 (D.1 49 0 + x)) := by
  have cn : ∀ κ i k, κ ≠ 9 → (cr_sI C 9 e 6 (C.1 9 e 6 + x)).1 κ i k = C.1 κ i k := fun κ i k hne => cr_sI_ne _ _ (by omega)
  have dn : ∀ k j, k ≠ 49 → (rf_sI D 49 0 (D.1 49 0 + x)).1 k j = D.1 k j := fun k j a => rf_sI_ne _ _ (by omega)
  refine ⟨fun s hs => ?_, h.2.1, fun e' k' he' hk' => ?_, ?_⟩
  · obtain ⟨hS, hV, hU, hF, hY⟩ := h.1 s hs
    refine ⟨?_, ?_, ?_, ?_, ?_⟩
    · unfold sm_S at hS ⊢
      have c1 : ∀ k, (cr_sI C 9 e 6 (C.1 9 e 6 + x)).1 1 s k = C.1 1 s k := fun k => cn 1 s k (by omega)
      simp only [c1, dn 12 s (by omega), dn 13 s (by omega), dn 14 s (by omega), dn 15 s (by omega), dn 16 s (by omega), dn 17 s (by omega), dn 18 s (by omega), dn 19 s (by omega), dn 20 s (by omega), dn 21 s (by omega), dn 22 s (by omega), dn 23 s (by omega), dn 24 s (by omega), dn 25 s (by omega), dn 26 s (by omega), dn 27 s (by omega)]
      exact hS
    · unfold sm_V cr_nb at hV ⊢
      have c1 : ∀ k, (cr_sI C 9 e 6 (C.1 9 e 6 + x)).1 2 s k = C.1 2 s k := fun k => cn 2 s k (by omega)
      simp only [c1, dn 42 s (by omega), dn 43 s (by omega), dn 44 s (by omega), dn 45 s (by omega), dn 46 s (by omega), dn 47 s (by omega)]
      exact hV
    · unfold sm_U at hU ⊢
      have c1 : ∀ k, (cr_sI C 9 e 6 (C.1 9 e 6 + x)).1 3 s k = C.1 3 s k := fun k => cn 3 s k (by omega)
      simp only [c1, dn 32 s (by omega), dn 33 s (by omega), dn 34 s (by omega), dn 35 s (by omega), dn 36 s (by omega), dn 37 s (by omega), dn 38 s (by omega), dn 39 s (by omega), dn 40 s (by omega), dn 41 s (by omega)]
      exact hU
    · unfold sm_F at hF ⊢
      have c1 : ∀ k, (cr_sI C 9 e 6 (C.1 9 e 6 + x)).1 4 s k = C.1 4 s k := fun k => cn 4 s k (by omega)
      simp only [c1, dn 30 s (by omega), dn 31 s (by omega)]
      exact hF
    · intro i hi
      rw [cn 5 s i (by omega), cn 6 s i (by omega), dn 28 _ (by omega), dn 29 _ (by omega)]
      exact hY i hi
  · rw [cn 7 e' k' (by omega), dn 48 _ (by omega)]
    exact h.2.2.1 e' k' he' hk'
  · rw [rf_sI_at, h.2.2.2]
    rcases (show e = 0 ∨ e = 1 by omega) with rfl | rfl
    · rw [cr_sI_at, cr_sI_ne _ _ (by omega), Int32.add_assoc, Int32.add_assoc, Int32.add_comm x]
    · rw [cr_sI_at, cr_sI_ne _ _ (by omega), Int32.add_assoc]
theorem sm_v {C : cr_C} {D : rf_C} (h : sm C D) {s k q : Nat} (hs : s < 6) (hk : (k = 1 ∧ q = 43) ∨ (k = 3 ∧ q = 44)) (x : Int32) : sm (cr_sI C 2 s k x) (rf_sI D q s x) := by
  obtain ⟨hS, ⟨v1, v2, v3, v4, v5, v6, v7⟩, hU, hF, hY⟩ := h.1 s hs
  have cn : ∀ κ k', ¬ (κ = 2 ∧ k' = k) → (cr_sI C 2 s k x).1 κ s k' = C.1 κ s k' := fun κ k' hne => cr_sI_ne _ _ (by omega)
  have dn : ∀ k' j, k' ≠ q → (rf_sI D q s x).1 k' j = D.1 k' j := fun k' j hne => rf_sI_ne _ _ (by omega)
  refine h.at (fc_sI (fc_refl C s) (by omega)) (fd_sI (fd_refl D s) (by omega)) ⟨?_, ?_, ?_, ?_, ?_⟩ h.2.1
  · unfold sm_S at hS ⊢
    have c1 : ∀ k', (cr_sI C 2 s k x).1 1 s k' = C.1 1 s k' := fun k' => cn 1 k' (by omega)
    simp only [c1, dn 12 s (by omega), dn 13 s (by omega), dn 14 s (by omega), dn 15 s (by omega), dn 16 s (by omega), dn 17 s (by omega), dn 18 s (by omega), dn 19 s (by omega), dn 20 s (by omega), dn 21 s (by omega), dn 22 s (by omega), dn 23 s (by omega), dn 24 s (by omega), dn 25 s (by omega), dn 26 s (by omega), dn 27 s (by omega)]
    exact hS
  · unfold cr_nb at v7
    unfold sm_V cr_nb
    rw [cn 2 4 (by omega), cn 2 5 (by omega), cn 2 6 (by omega), cn 2 0 (by omega), cn 2 2 (by omega), cn 2 7 (by omega), cn 2 8 (by omega), dn 45 s (by omega), dn 46 s (by omega), dn 47 s (by omega), dn 42 s (by omega)]
    rcases hk with ⟨rfl, rfl⟩ | ⟨rfl, rfl⟩
    · rw [cr_sI_at, rf_sI_at, cn 2 3 (by omega), dn 44 s (by omega)]
      exact ⟨rfl, v2, v3, v4, v5, v6, v7⟩
    · rw [cr_sI_at, rf_sI_at, cn 2 1 (by omega), dn 43 s (by omega)]
      exact ⟨v1, rfl, v3, v4, v5, v6, v7⟩
  · unfold sm_U at hU ⊢
    have c1 : ∀ k', (cr_sI C 2 s k x).1 3 s k' = C.1 3 s k' := fun k' => cn 3 k' (by omega)
    simp only [c1, dn 32 s (by omega), dn 33 s (by omega), dn 34 s (by omega), dn 35 s (by omega), dn 36 s (by omega), dn 37 s (by omega), dn 38 s (by omega), dn 39 s (by omega), dn 40 s (by omega), dn 41 s (by omega)]
    exact hU
  · unfold sm_F at hF ⊢
    have c1 : ∀ k', (cr_sI C 2 s k x).1 4 s k' = C.1 4 s k' := fun k' => cn 4 k' (by omega)
    simp only [c1, dn 30 s (by omega), dn 31 s (by omega)]
    exact hF
  · intro i hi
    rw [cn 5 i (by omega), cn 6 i (by omega), dn 28 _ (by omega), dn 29 _ (by omega)]
    exact hY i hi
theorem sm_k_fil : ∀ (zs : List cr_m) (n : Nat) (f : Int32), (sm_k f n zs).filter rf_ng = (zs.drop n).map sm_m := by
  intro zs
  induction zs with
  | nil => intro n f; cases n <;> rfl
  | cons μ zs ih =>
    intro n f
    cases n with
    | zero =>
      rw [sm_k_0, List.drop_zero, List.filter_eq_self]
      intro ν hν
      obtain ⟨ξ, -, rfl⟩ := List.mem_map.mp hν
      unfold rf_ng
      rw [sm_m_num]
      rfl
    | succ n =>
      have hf := cr_f8lt f
      show List.filter rf_ng (((sm_m μ).1, (sm_m μ).2.1, (sm_m μ).2.2.1, (sm_m μ).2.2.2.1, Int32.ofNat (cr_f8 f)) :: sm_k (f + 1) n zs) = (zs.drop n).map sm_m
      rw [List.filter_cons, if_neg (show ¬ rf_ng ((sm_m μ).1, (sm_m μ).2.1, (sm_m μ).2.2.1, (sm_m μ).2.2.2.1, Int32.ofNat (cr_f8 f)) = true from fun e => absurd (of_decide_eq_true e) (ev_on _ (by omega)))]
      exact ih n (f + 1)
theorem rf_gl_none : ∀ (zs : List cr_m) (y : Int32), rf_gl y (zs.map sm_m) = y := by
  intro zs
  induction zs with
  | nil => intro y; rfl
  | cons μ zs ih =>
    intro y
    show rf_gl (if ¬ (sm_m μ).2.2.2.2 < 0 ∧ (sm_m μ).1 < 4 then y + 1 else y) (zs.map sm_m) = y
    rw [sm_m_num, if_neg (fun e => e.1 (by decide))]
    exact ih y
theorem sm_k_gl : ∀ (zs : List cr_m) (n : Nat) (f y : Int32), rf_gl y (sm_k f n zs) = y + Int32.ofNat (cr_cn (zs.take n)) := by
  intro zs
  induction zs with
  | nil =>
    intro n f y
    rw [List.take_nil]
    cases n <;> exact (Int32.add_zero y).symm
  | cons μ zs ih =>
    intro n f y
    cases n with
    | zero =>
      rw [sm_k_0, rf_gl_none, List.take_zero]
      exact (Int32.add_zero y).symm
    | succ n =>
      have hf := cr_f8lt f
      have k2 := (sm_kd μ).2
      show rf_gl (if ¬ Int32.ofNat (cr_f8 f) < 0 ∧ (sm_m μ).1 < 4 then y + 1 else y) (sm_k (f + 1) n zs) = y + Int32.ofNat (cr_cn (μ :: zs.take n))
      have e1 : cr_cn (μ :: zs.take n) = cr_cn (zs.take n) + if ¬ (4 : Int32) ≤ μ.1 then 1 else 0 := by
        unfold cr_cn
        rw [List.countP_cons]
        by_cases c : (4 : Int32) ≤ μ.1
        · rw [if_neg (by simp [c]), if_neg (fun e => e c)]
        · rw [if_pos (by simp [c]), if_pos c]
      rw [e1, k2, ih]
      by_cases c : (4 : Int32) ≤ μ.1
      · rw [if_neg (fun e => absurd c (Int32.not_le.mpr e.2)), if_neg (fun e => e c), Nat.add_zero]
      · rw [if_pos ⟨ev_on _ (by omega), Int32.not_le.mp c⟩, if_pos c, Int32.add_assoc, Int32.add_comm 1, show Int32.ofNat (cr_cn (zs.take n)) + 1 = Int32.ofNat (cr_cn (zs.take n) + 1) from nI_1 _]
theorem sm_giveUp {C : cr_C} {D : rf_C} (h : sm C D) {e l : Nat} (he : e < 2) (hl : l < 3) (hu : C.1 2 (2 * l + e) 0 ≠ 0) : sm (cs_E_gu C e l) (rs_giveUp D (2 * l + e)) := by
  have hs : 2 * l + e < 6 := by omega
  have v7 := (h.1 _ hs).2.1.2.2.2.2.2.2
  have h1 := sm_lost (sm_set h hs hu (cr_nb C (2 * l + e))) he (Int32.ofNat (cr_cn ((C.2.1 (12 + (2 * l + e))).take (cr_nb C (2 * l + e)))))
  unfold cs_E_gu cs_C_giveUp rs_giveUp rs_gu
  rw [v7, sm_k_fil, sm_k_gl, List.nil_append]
  generalize 2 * l + e = s at *
  rw [cr_sI_ne _ _ (by omega), cr_sI_ne _ _ (by omega), cr_sX_I, rf_sI_ne _ _ (by omega)] at h1
  rw [rf_sI_comm _ _ _ (by omega)]
  exact h1
theorem sm_sm {C : cr_C} {D : rf_C} (h : sm C D) {e : Nat} (he : e < 2) : rf_sm D e = cr_sm C e := by
  unfold rf_sm cr_sm
  rw [sm_serving h he]
  rcases cs_first1 C e with e1 | e1 | e1 | e1 <;> rw [e1] <;> rfl
/-- whether some link would be open if the changeover were at its end -/
theorem sm_beside {C : cr_C} {D : rf_C} (h : sm C D) {e l : Nat} (he : e < 2) (hl : l < 3) : (rs_D_chosen (rf_sI D 42 (2 * l + e) 0) e 0).1 < 0 ↔ (cs_E_someOpenBeside C e (Int32.ofNat l)).1 = 0 := by
  have o : ∀ q, q < 3 → q ≠ l → (rs_D_isOpen (rf_sI D 42 (2 * l + e) 0) e q).1 = (cs_E_isOpen C e q).1 := fun q hq hne => by
    rw [← sm_isOpen h he hq]
    unfold rs_D_isOpen
    rw [rf_sI_ne _ _ (by omega), rf_sI_ne _ _ (by omega)]
    repeat' split
    all_goals first | rfl | contradiction
  have oo : (rs_D_isOpen (rf_sI D 42 (2 * l + e) 0) e l).1 = if C.1 1 (2 * l + e) 0 = 4 then 1 else 0 := by
    have g0 : D.1 12 (2 * l + e) = C.1 1 (2 * l + e) 0 := h.g (k := 0) (by omega) (by omega)
    unfold rs_D_isOpen
    rw [rf_sI_ne _ _ (by omega), rf_sI_at, g0]
    by_cases c : C.1 1 (2 * l + e) 0 = 4 <;> simp [c]
  have oc : C.1 1 (2 * l + e) 0 ≠ 4 → (cs_E_isOpen C e l).1 = 0 := fun c => by
    unfold cs_E_isOpen
    rw [if_neg c]
  have n10 : ¬ (1 : Int32) = 0 := by decide
  have hch : (rs_D_chosen (rf_sI D 42 (2 * l + e) 0) e 0).1 = (rs_D_chosen0 (rf_sI D 42 (2 * l + e) 0) e).1 := rfl
  rw [hch]
  unfold rs_D_chosen0 cs_E_someOpenBeside
  simp only [rs_isOpen2, cs_isOpen2]
  rcases (show l = 0 ∨ l = 1 ∨ l = 2 by omega) with rfl | rfl | rfl
  · have a1 := o 1 (by omega) (by omega)
    have a2 := o 2 (by omega) (by omega)
    rw [a1, a2, oo]
    rw [if_pos (show (0 : Int32) = Int32.ofNat 0 by decide), if_neg (show ¬ (1 : Int32) = Int32.ofNat 0 by decide), if_neg (show ¬ (2 : Int32) = Int32.ofNat 0 by decide)]
    by_cases c : C.1 1 (2 * 0 + e) 0 = 4
    · by_cases c0 : (cs_E_isOpen C e 0).1 = 0 <;> by_cases c1 : (cs_E_isOpen C e 1).1 = 0 <;> by_cases c2 : (cs_E_isOpen C e 2).1 = 0 <;> simp only [c, c0, c1, c2, n10, if_true, if_false] <;> decide
    · have c0 := oc c
      by_cases c1 : (cs_E_isOpen C e 1).1 = 0 <;> by_cases c2 : (cs_E_isOpen C e 2).1 = 0 <;> simp only [c, c0, c1, c2, n10, if_true, if_false] <;> decide
  · have a1 := o 0 (by omega) (by omega)
    have a2 := o 2 (by omega) (by omega)
    rw [a1, a2, oo]
    rw [if_neg (show ¬ (0 : Int32) = Int32.ofNat 1 by decide), if_pos (show (1 : Int32) = Int32.ofNat 1 by decide), if_neg (show ¬ (2 : Int32) = Int32.ofNat 1 by decide)]
    by_cases c : C.1 1 (2 * 1 + e) 0 = 4
    · by_cases c0 : (cs_E_isOpen C e 0).1 = 0 <;> by_cases c1 : (cs_E_isOpen C e 1).1 = 0 <;> by_cases c2 : (cs_E_isOpen C e 2).1 = 0 <;> simp only [c, c0, c1, c2, n10, if_true, if_false] <;> decide
    · have c1 := oc c
      by_cases c0 : (cs_E_isOpen C e 0).1 = 0 <;> by_cases c2 : (cs_E_isOpen C e 2).1 = 0 <;> simp only [c, c0, c1, c2, n10, if_true, if_false] <;> decide
  · have a1 := o 0 (by omega) (by omega)
    have a2 := o 1 (by omega) (by omega)
    rw [a1, a2, oo]
    rw [if_neg (show ¬ (0 : Int32) = Int32.ofNat 2 by decide), if_neg (show ¬ (1 : Int32) = Int32.ofNat 2 by decide), if_pos (show (2 : Int32) = Int32.ofNat 2 by decide)]
    by_cases c : C.1 1 (2 * 2 + e) 0 = 4
    · by_cases c0 : (cs_E_isOpen C e 0).1 = 0 <;> by_cases c1 : (cs_E_isOpen C e 1).1 = 0 <;> by_cases c2 : (cs_E_isOpen C e 2).1 = 0 <;> simp only [c, c0, c1, c2, n10, if_true, if_false] <;> decide
    · have c2 := oc c
      by_cases c0 : (cs_E_isOpen C e 0).1 = 0 <;> by_cases c1 : (cs_E_isOpen C e 1).1 = 0 <;> simp only [c, c0, c1, c2, n10, if_true, if_false] <;> decide
