/-! side by side: a message is put, is said; a changeover is settled -/
theorem sm_put {C : cr_C} {D : rf_C} (h : sm C D) {r : Nat} (hr : 6 ≤ r) (hr2 : r < 12 ∨ 18 ≤ r) (μ : cr_m) : sm (cs_put C r μ) (rs_put D r (sm_m μ)) := by
  refine ⟨fun s hs => ?_, fun q hq hq2 => ?_, h.2.2⟩
  · obtain ⟨hS, hV, hU, hF, hY⟩ := h.1 s hs
    have x1 : (cs_put C r μ).2.1 s = C.2.1 s := cs_put_ne _ _ (by omega)
    have x2 : (cs_put C r μ).2.1 (12 + s) = C.2.1 (12 + s) := cs_put_ne _ _ (by omega)
    have x3 : (rs_put D r (sm_m μ)).2 (12 + s) = D.2 (12 + s) := rf_sX_ne _ _ (by omega)
    refine ⟨?_, ?_, hU, hF, hY⟩
    · unfold sm_S at hS ⊢
      rw [x1]
      exact hS
    · unfold sm_V at hV ⊢
      rw [x2, x3]
      exact hV
  · by_cases e : q = r
    · subst e
      show (rf_sX D q (D.2 q ++ [sm_m μ])).2 q = ((cr_sX C q (C.2.1 q ++ [μ])).2.1 q).map sm_m
      rw [rf_sX_at, cr_sX_at, List.map_append, h.2.1 q hq hq2]
      rfl
    · rw [cs_put_ne _ _ e, show (rs_put D r (sm_m μ)).2 q = D.2 q from rf_sX_ne _ _ e]
      exact h.2.1 q hq hq2
theorem sm_serving {C : cr_C} {D : rf_C} (h : sm C D) {e : Nat} (he : e < 2) : (rs_D_serving D e).1 = (cs_E_firstServing C e).1 := by
  have g0 : D.1 12 (0 + e) = C.1 1 (2 * 0 + e) 0 := h.g (k := 0) (s := 0 + e) (by omega) (by omega)
  have g1 : D.1 12 (2 + e) = C.1 1 (2 * 1 + e) 0 := h.g (k := 0) (s := 2 + e) (by omega) (by omega)
  have g2 : D.1 12 (4 + e) = C.1 1 (2 * 2 + e) 0 := h.g (k := 0) (s := 4 + e) (by omega) (by omega)
  unfold rs_D_serving cs_E_firstServing
  rw [g0, g1, g2]
  generalize C.1 1 (2 * 0 + e) 0 = x0
  generalize C.1 1 (2 * 1 + e) 0 = x1
  generalize C.1 1 (2 * 2 + e) 0 = x2
  by_cases c0 : x0 = 4 <;> by_cases c1 : x1 = 4 <;> by_cases c2 : x2 = 4 <;> simp [c0, c1, c2]
theorem sm_say {C : cr_C} {D : rf_C} (h : sm C D) {e : Nat} (he : e < 2) (μ : cr_m) {ν : rf_m} (hν : rf_n1 ν = sm_m μ) : sm (cs_E_say C e μ) (rs_say D e ν) := by
  unfold cs_E_say rs_say
  rw [sm_serving h he, hν]
  repeat' split
  · exact sm_put h (by omega) (by omega) μ
  · exact sm_put h (by omega) (by omega) μ
  · exact sm_put h (by omega) (by omega) μ
  · exact h
theorem f8_sub (x f : Int32) : cr_f8 (x - (f + 1)) = (cr_f8 (x - f) + 7) % 8 := by
  rw [cr_f8_nat, cr_f8_nat]
  have e1 : (x - (f + 1)).toBitVec = x.toBitVec - (f.toBitVec + 1#32) := rfl
  have e2 : (x - f).toBitVec = x.toBitVec - f.toBitVec := rfl
  rw [e1, e2, BitVec.toNat_sub, BitVec.toNat_sub, BitVec.toNat_add]
  have h1 := x.toBitVec.isLt
  have h2 := f.toBitVec.isLt
  have h3 : (1#32 : BitVec 32).toNat = 1 := rfl
  rw [h3]
  omega
theorem f8_zero {b : Nat} (hb : b < 8) (f : Int32) : (Int32.ofNat (cr_f8 f) = Int32.ofNat b) ↔ cr_f8 (Int32.ofNat b - f) = 0 := by
  have hf := cr_f8lt f
  rw [show (Int32.ofNat (cr_f8 f) = Int32.ofNat b) ↔ cr_f8 f = b from nI_eq (by omega) (by omega), cr_f8_nat, cr_f8_nat]
  have e2 : (Int32.ofNat b - f).toBitVec = BitVec.ofNat 32 b - f.toBitVec := rfl
  rw [e2, BitVec.toNat_sub, BitVec.toNat_ofNat]
  have h2 := f.toBitVec.isLt
  omega
theorem rf_up_done (x : Int32) : ∀ (zs : List rf_m) (k u : Nat), u ≠ 0 → rf_up x k u zs = u := by
  intro zs
  induction zs with
  | nil => intro k u _; rfl
  | cons μ zs ih =>
    intro k u hu
    show rf_up x (k + 1) (if ¬ μ.2.2.2.2 < 0 ∧ μ.2.2.2.2 = x ∧ u = 0 then k + 1 else u) zs = u
    rw [if_neg (fun e => hu e.2.2)]
    exact ih (k + 1) u hu
theorem sm_m_num (μ : cr_m) : (sm_m μ).2.2.2.2 = -1 := by
  unfold sm_m
  split <;> rfl
theorem rf_up_none (x : Int32) : ∀ (zs : List cr_m) (k : Nat), rf_up x k 0 (zs.map sm_m) = 0 := by
  intro zs
  induction zs with
  | nil => intro k; rfl
  | cons μ zs ih =>
    intro k
    show rf_up x (k + 1) (if ¬ (sm_m μ).2.2.2.2 < 0 ∧ (sm_m μ).2.2.2.2 = x ∧ 0 = 0 then k + 1 else 0) (zs.map sm_m) = 0
    rw [sm_m_num, if_neg (fun e => e.1 (by decide))]
    exact ih (k + 1)
theorem rf_up_k {b : Nat} (hb : b < 8) : ∀ (zs : List cr_m) (n k : Nat) (f : Int32), n ≤ zs.length → rf_up (Int32.ofNat b) k 0 (sm_k f n zs) = if cr_f8 (Int32.ofNat b - f) < n then k + cr_f8 (Int32.ofNat b - f) + 1 else 0 := by
  intro zs
  induction zs with
  | nil =>
    intro n k f hn
    have e : n = 0 := by rw [List.length_nil] at hn; omega
    rw [e, if_neg (by omega)]
    rfl
  | cons μ zs ih =>
    intro n k f hn
    cases n with
    | zero => rw [sm_k_0, rf_up_none, if_neg (by omega)]
    | succ n =>
      have hf := cr_f8lt f
      have hp := cr_f8lt (Int32.ofNat b - f)
      show rf_up (Int32.ofNat b) (k + 1) (if ¬ Int32.ofNat (cr_f8 f) < 0 ∧ Int32.ofNat (cr_f8 f) = Int32.ofNat b ∧ 0 = 0 then k + 1 else 0) (sm_k (f + 1) n zs) = _
      by_cases c : cr_f8 (Int32.ofNat b - f) = 0
      · rw [if_pos ⟨ev_on _ (by omega), (f8_zero hb f).mpr c, rfl⟩, rf_up_done _ _ _ _ (by omega), c, if_pos (by omega)]
      · rw [if_neg (fun e => c ((f8_zero hb f).mp e.2.1)), ih n (k + 1) (f + 1) (by rw [List.length_cons] at hn; omega), f8_sub]
        by_cases c2 : cr_f8 (Int32.ofNat b - f) < n + 1
        · rw [if_pos c2, if_pos (by omega)]
          omega
        · rw [if_neg c2, if_neg (by omega)]
theorem rf_up_neg : ∀ (zs : List cr_m) (n k : Nat) (f : Int32), rf_up (-1) k 0 (sm_k f n zs) = 0 := by
  intro zs
  induction zs with
  | nil => intro n k f; cases n <;> rfl
  | cons μ zs ih =>
    intro n k f
    cases n with
    | zero => rw [sm_k_0, rf_up_none]
    | succ n =>
      have hf := cr_f8lt f
      show rf_up (-1) (k + 1) (if ¬ Int32.ofNat (cr_f8 f) < 0 ∧ Int32.ofNat (cr_f8 f) = -1 ∧ 0 = 0 then k + 1 else 0) (sm_k (f + 1) n zs) = _
      rw [if_neg (fun e => by
        have h1 := e.1
        rw [e.2.1] at h1
        exact h1 (by decide))]
      exact ih n (k + 1) (f + 1)
theorem sm_k_n1 : ∀ (zs : List cr_m) (n : Nat) (f : Int32), (sm_k f n zs).map rf_n1 = zs.map sm_m := by
  intro zs
  induction zs with
  | nil => intro n f; cases n <;> rfl
  | cons μ zs ih =>
    intro n f
    cases n with
    | zero => rw [sm_k_0, sm_map_n1]
    | succ n =>
      show rf_n1 _ :: (sm_k (f + 1) n zs).map rf_n1 = sm_m μ :: zs.map sm_m
      rw [ih, ← sm_m_n1 μ]
      rfl
/-- a changeover is settled by a number, or by none -/
theorem sm_settle {C : cr_C} {D : rf_C} (h : sm C D) {s : Nat} (hs : s < 6) (hn5 : C.1 2 s 7 = Int32.ofNat (cr_nb C s) ∧ cr_nb C s ≤ 5) (hkn : cr_nb C s ≤ (C.2.1 (12 + s)).length) (hu : C.1 2 s 0 ≠ 0) {x : Int32} (hx : x = -1 ∨ nb x 8) : sm (cs_C_settle C s x) (rs_settle D s x) := by
  obtain ⟨hS, ⟨v1, v2, v3, v4, v5, v6, v7⟩, hU, hF, hY⟩ := h.1 s hs
  -- both drop the same number
  have key : ∃ p, cs_C_settle C s x = cr_sI (cr_sI (cr_sX C (12 + s) ((C.2.1 (12 + s)).drop p)) 2 s 7 0) 2 s 2 1 ∧ rf_up x 0 0 (D.2 (12 + s)) = p := by
    have d0 : cr_sX C (12 + s) ((C.2.1 (12 + s)).drop 0) = C := by rw [List.drop_zero, cr_sX_same]
    unfold cs_C_settle
    rw [v7]
    rcases hx with rfl | ⟨b, hb, rfl⟩
    · refine ⟨0, ?_, rf_up_neg _ _ _ _⟩
      rw [if_pos rfl, d0]
    · have nx : ¬ Int32.ofNat b = -1 := fun e => by
        have h1 := ev_on b (show b < 2 ^ 31 by omega)
        rw [e] at h1
        exact h1 (by decide)
      have hp := cr_f8lt (Int32.ofNat b - C.1 2 s 8)
      rw [if_neg nx, rf_up_k hb _ _ _ _ hkn, hn5.1]
      by_cases c : cr_nb C s ≤ cr_f8 (Int32.ofNat b - C.1 2 s 8)
      · refine ⟨0, ?_, if_neg (by omega)⟩
        rw [if_pos (show Int32.ofNat (cr_nb C s) ≤ Int32.ofNat (cr_f8 (Int32.ofNat b - C.1 2 s 8)) from nI_le c (by omega)), d0]
      · refine ⟨cr_f8 (Int32.ofNat b - C.1 2 s 8) + 1, ?_, ?_⟩
        · rw [if_neg (show ¬ Int32.ofNat (cr_nb C s) ≤ Int32.ofNat (cr_f8 (Int32.ofNat b - C.1 2 s 8)) from nI_ge (by omega) (by omega))]
        · rw [if_pos (by omega)]
          omega
  obtain ⟨p, e1, e2⟩ := key
  rw [e1]
  unfold rs_settle
  rw [e2]
  have x12 : (cr_sI (cr_sI (cr_sX C (12 + s) ((C.2.1 (12 + s)).drop p)) 2 s 7 0) 2 s 2 1).2.1 (12 + s) = (C.2.1 (12 + s)).drop p := cr_sX_at _ _ _
  have xs : (cr_sI (cr_sI (cr_sX C (12 + s) ((C.2.1 (12 + s)).drop p)) 2 s 7 0) 2 s 2 1).2.1 s = C.2.1 s := cr_sX_ne _ _ (by omega)
  have cn : ∀ κ k, ¬ (κ = 2 ∧ (k = 7 ∨ k = 2)) → (cr_sI (cr_sI (cr_sX C (12 + s) ((C.2.1 (12 + s)).drop p)) 2 s 7 0) 2 s 2 1).1 κ s k = C.1 κ s k := fun κ k hne => by
    rw [cr_sI_ne _ _ (by omega), cr_sI_ne _ _ (by omega)]
    rfl
  have dn : ∀ k j, k ≠ 42 → (rf_sI (rf_sX D (12 + s) (((D.2 (12 + s)).drop p).map rf_n1)) 42 s 2).1 k j = D.1 k j := fun k j hne => by
    rw [rf_sI_ne _ _ (by omega)]
    rfl
  have c7 : cr_nb (cr_sI (cr_sI (cr_sX C (12 + s) ((C.2.1 (12 + s)).drop p)) 2 s 7 0) 2 s 2 1) s = 0 := by
    unfold cr_nb
    rw [cr_sI_ne _ _ (by omega), cr_sI_at]
    rfl
  refine h.at (fc_sI (fc_sI (fc_sX (fc_refl C s) (fun i hi his => by omega)) (by omega)) (by omega)) (fd_sI (fd_sX (fd_refl D s) (fun i hi his => by omega)) (by omega)) ⟨?_, ?_, hU, ?_, ?_⟩ ?_
  · unfold sm_S at hS ⊢
    have c1 : ∀ k, (cr_sI (cr_sI (cr_sX C (12 + s) ((C.2.1 (12 + s)).drop p)) 2 s 7 0) 2 s 2 1).1 1 s k = C.1 1 s k := fun k => cn 1 k (by omega)
    simp only [c1, xs, dn 12 s (by omega), dn 13 s (by omega), dn 14 s (by omega), dn 15 s (by omega), dn 16 s (by omega), dn 17 s (by omega), dn 18 s (by omega), dn 19 s (by omega), dn 20 s (by omega), dn 21 s (by omega), dn 22 s (by omega), dn 23 s (by omega), dn 24 s (by omega), dn 25 s (by omega), dn 26 s (by omega), dn 27 s (by omega)]
    exact hS
  · unfold sm_V
    rw [c7, sm_k_0, x12, cn 2 1 (by omega), cn 2 3 (by omega), cn 2 4 (by omega), cn 2 5 (by omega), cn 2 6 (by omega), cn 2 0 (by omega), dn 43 s (by omega), dn 44 s (by omega), dn 45 s (by omega), dn 46 s (by omega), dn 47 s (by omega), rf_sI_at, cr_sI_at, if_neg hu, if_neg (by decide)]
    refine ⟨v1, v2, v3, v4, v5, rfl, ?_⟩
    show (rf_sX D (12 + s) (((D.2 (12 + s)).drop p).map rf_n1)).2 (12 + s) = _
    rw [rf_sX_at, v7, List.map_drop, sm_k_n1, ← List.map_drop]
  · exact hF
  · intro i hi
    rw [cn 5 i (by omega), cn 6 i (by omega), dn 28 _ (by omega), dn 29 _ (by omega)]
    exact hY i hi
  · intro r hr hr2
    show (rf_sX D (12 + s) _).2 r = ((cr_sX C (12 + s) _).2.1 r).map sm_m
    rw [rf_sX_ne _ _ (by omega), cr_sX_ne _ _ (by omega)]
    exact h.2.1 r hr hr2
