/-! side by side: a side falls -/
theorem sm_m_n1 (μ : cr_m) : rf_n1 (sm_m μ) = sm_m μ := by
  unfold rf_n1 sm_m
  split <;> rfl
theorem sm_k_0 : ∀ (zs : List cr_m) (f : Int32), sm_k f 0 zs = zs.map sm_m := by
  intro zs
  induction zs with
  | nil => intro f; rfl
  | cons μ zs ih =>
    intro f
    show sm_m μ :: sm_k f 0 zs = _
    rw [ih]
    rfl
theorem sm_k_app : ∀ (zs ys : List cr_m) (n : Nat) (f : Int32), n ≤ zs.length → sm_k f n (zs ++ ys) = sm_k f n zs ++ ys.map sm_m := by
  intro zs
  induction zs with
  | nil =>
    intro ys n f hn
    have e : n = 0 := by rw [List.length_nil] at hn; omega
    rw [e, List.nil_append, sm_k_0]
    rfl
  | cons μ zs ih =>
    intro ys n f hn
    cases n with
    | zero => rw [sm_k_0, sm_k_0, List.map_append]
    | succ n =>
      show _ :: sm_k (f + 1) n (zs ++ ys) = (_ :: sm_k (f + 1) n zs) ++ _
      rw [ih ys n (f + 1) (by rw [List.length_cons] at hn; omega)]
      rfl
theorem sm_map_n1 (zs : List cr_m) : (zs.map sm_m).map rf_n1 = zs.map sm_m := by
  rw [List.map_map]
  exact List.map_congr_left (fun μ _ => sm_m_n1 μ)
theorem sm_num0 : ∀ (zs : List cr_m) (x : Int32), rf_num 0 x (zs.map sm_m) = zs.map sm_m := by
  intro zs
  induction zs with
  | nil => intro x; rfl
  | cons μ zs ih =>
    intro x
    show (_, _, _, _, if (0 : Int32) = 0 then (-1 : Int32) else _) :: rf_num 0 (x + 1) (zs.map sm_m) = sm_m μ :: zs.map sm_m
    rw [ih, if_pos rfl]
    have := sm_m_n1 μ
    unfold rf_n1 at this
    rw [this]
theorem cr_f8_nat (x : Int32) : cr_f8 x = x.toBitVec.toNat % 8 := by
  unfold cr_f8
  have h2 : x.toInt = x.toBitVec.toInt := rfl
  have h3 := BitVec.toInt_eq_toNat_cond x.toBitVec
  have h4 := x.toBitVec.isLt
  rw [h2, h3]
  split <;> omega
theorem cr_f8_8 (f : Int32) : cr_f8 (f + 8) = cr_f8 f := by
  rw [cr_f8_nat, cr_f8_nat]
  have e : (f + 8).toBitVec = f.toBitVec + 8#32 := rfl
  rw [e, BitVec.toNat_add]
  show (f.toBitVec.toNat + 8) % 2 ^ 32 % 8 = _
  omega
theorem sm_num1 : ∀ (zs : List cr_m) (x f : Int32), x + 1 = f + 8 → rf_num 1 x (zs.map sm_m) = sm_k f zs.length zs := by
  intro zs
  induction zs with
  | nil => intro x f _; rfl
  | cons μ zs ih =>
    intro x f h
    show (_, _, _, _, if (1 : Int32) = 0 then (-1 : Int32) else (x + 1) &&& 7) :: rf_num 1 (x + 1) (zs.map sm_m) = _ :: sm_k (f + 1) zs.length zs
    rw [ih (x + 1) (f + 1) (by rw [h, Int32.add_assoc, Int32.add_assoc, Int32.add_comm 8 1]), if_neg (by decide), ms_and7, h, cr_f8_8]
theorem cs_chg_I (C : cr_C) (s κ k : Nat) (h : κ ≠ 2) (h15 : ¬ (κ = 1 ∧ k = 15)) : (cs_S_clearRows (cs_C_begin C s) s).1 κ s k = C.1 κ s k := by
  unfold cs_S_clearRows cs_C_begin cs_C_tail
  split <;> simp [cr_sI, cr_sX, cr_u, h, h15]
theorem cs_chg_fc (C : cr_C) {s : Nat} (hs : s < 6) : fc C (cs_S_clearRows (cs_C_begin C s) s) s := by
  unfold cs_S_clearRows cs_C_begin cs_C_tail
  split
  all_goals repeat (first | exact fc_refl _ _ | refine fc_sI ?_ (by omega) | refine fc_sX ?_ (fun i hi his => by omega))
theorem rs_chg_I (D : rf_C) (s k j : Nat) (h27 : k ≠ 27) (h : k < 42 ∨ 48 ≤ k) : (rs_change D s).1 k j = D.1 k j := by
  have a1 : k ≠ 42 := by omega
  have a2 : k ≠ 43 := by omega
  have a3 : k ≠ 44 := by omega
  have a4 : k ≠ 45 := by omega
  have a5 : k ≠ 46 := by omega
  have a6 : k ≠ 47 := by omega
  unfold rs_change rs_ch1 rs_mvB rs_mvA rs_chN
  split <;> simp [rf_sI, rf_sX, rf_u, h27, a1, a2, a3, a4, a5, a6]
theorem rs_chg_fd (D : rf_C) {s : Nat} (hs : s < 6) : fd D (rs_change D s) s := by
  unfold rs_change rs_ch1 rs_mvB rs_mvA rs_chN
  split
  all_goals repeat (first | exact fd_refl _ _ | refine fd_sI ?_ (by omega) | refine fd_sX ?_ (fun i hi his => by omega))
theorem cs_chg_X (C : cr_C) (s : Nat) : (cs_S_clearRows (cs_C_begin C s) s).2.1 = (cr_fX C s).2.1 := by
  unfold cs_S_clearRows cs_C_begin
  split <;> rfl
theorem rs_chg_X (D : rf_C) {s : Nat} (hs : s < 6) : (rs_change D s).2 = (rf_sX (rf_sX (rf_sX D (12 + s) (D.2 (12 + s) ++ rf_num (if D.1 42 s = 0 then 1 else 0) (D.1 17 s - Int32.ofNat (D.2 s).length + 8) (D.2 s) ++ (D.2 (6 + s)).map rf_n1)) s []) (6 + s) []).2 := by
  have key : ∀ (D : rf_C) (a x : Int32), (rs_mvB (rs_mvA D s a x) s).2 = (rf_sX (rf_sX (rf_sX D (12 + s) (D.2 (12 + s) ++ rf_num a x (D.2 s) ++ (D.2 (6 + s)).map rf_n1)) s []) (6 + s) []).2 := by
    intro D a x
    unfold rs_mvB rs_mvA
    rw [rf_sX_at, rf_sX_ne _ _ (show 6 + s ≠ 12 + s by omega), rf_sX_ne _ _ (show 6 + s ≠ s by omega)]
    funext q
    by_cases e1 : q = 12 + s
    · subst e1
      rw [rf_sX_at, rf_sX_ne _ _ (show 12 + s ≠ 6 + s by omega), rf_sX_ne _ _ (show 12 + s ≠ s by omega), rf_sX_at]
    · rw [rf_sX_ne _ _ e1]
      by_cases e2 : q = 6 + s
      · subst e2
        rw [rf_sX_at, rf_sX_at]
      · rw [rf_sX_ne _ _ e2, rf_sX_ne _ _ e1, rf_sX_ne _ _ e2]
        by_cases e3 : q = s
        · subst e3
          rw [rf_sX_at, rf_sX_at]
        · rw [rf_sX_ne _ _ e3, rf_sX_ne _ _ e3, rf_sX_ne _ _ e1]
  unfold rs_change
  split
  · show (rs_mvB (rs_mvA (rf_sI (rs_chN D s) 43 s 0) s 1 ((rs_chN D s).1 17 s - Int32.ofNat ((rs_chN D s).2 s).length + 8)) s).2 = _
    rw [key]
    have e17 : (rs_chN D s).1 17 s = D.1 17 s := by simp [rs_chN, rf_sI, rf_u]
    rw [e17]
    rfl
  · show (rs_mvB (rs_mvA (rf_sI D 43 s 0) s 0 (D.1 17 s - Int32.ofNat (D.2 s).length + 8)) s).2 = _
    rw [key]
    rfl
/-- a changeover begins, the rows are cleared -/
theorem sm_change {C : cr_C} {D : rf_C} (h : sm C D) {s : Nat} (hs : s < 6) (h5 : (C.2.1 s).length ≤ 5) (hk0 : C.1 2 s 0 = 0 → C.2.1 (12 + s) = []) (hkn : cr_nb C s ≤ (C.2.1 (12 + s)).length) : sm (cs_S_clearRows (cs_C_begin C s) s) (rs_change D s) := by
  obtain ⟨⟨⟨h0, h1, h2, h3, h4, h5', h6, h7, h8, h9, h10, h11, h12, h13⟩, hS2, hS3⟩, ⟨v1, v2, v3, v4, v5, v6, v7⟩, hU, hF, hY⟩ := h.1 s hs
  have hX := cs_chg_X C s
  have hDX := rs_chg_X D hs
  have hRs := h.2.1 s (by omega) (by omega)
  have hR6 := h.2.1 (6 + s) (by omega) (by omega)
  have cI := cs_chg_I C s
  have dI := rs_chg_I D s
  have hlen : (D.2 s).length = (C.2.1 s).length := by rw [hRs, List.length_map]
  have hch : (D.1 42 s = 0) ↔ (C.1 2 s 0 = 0) := by
    rw [v6]
    by_cases c : C.1 2 s 0 = 0
    · simp [c]
    · by_cases c2 : C.1 2 s 2 = 0 <;> simp [c, c2]
  have hC12 : (cs_S_clearRows (cs_C_begin C s) s).2.1 (12 + s) = C.2.1 (12 + s) ++ C.2.1 s ++ C.2.1 (6 + s) := by
    rw [hX]
    unfold cr_fX
    rw [cr_sX_ne _ _ (by omega), cr_sX_ne _ _ (by omega), cr_sX_at]
  have hCs : (cs_S_clearRows (cs_C_begin C s) s).2.1 s = [] := by
    rw [hX]
    unfold cr_fX
    rw [cr_sX_ne _ _ (by omega), cr_sX_at]
  have hD12 : (rs_change D s).2 (12 + s) = D.2 (12 + s) ++ rf_num (if D.1 42 s = 0 then 1 else 0) (D.1 17 s - Int32.ofNat (D.2 s).length + 8) (D.2 s) ++ (D.2 (6 + s)).map rf_n1 := by
    rw [hDX, rf_sX_ne _ _ (by omega), rf_sX_ne _ _ (by omega), rf_sX_at]
  refine h.at (cs_chg_fc C hs) (rs_chg_fd D hs) ⟨⟨?_, ?_, ?_⟩, ?_, ?_, ?_, ?_⟩ ?_
  · rw [cI 1 0 (by omega) (by omega), cI 1 1 (by omega) (by omega), cI 1 2 (by omega) (by omega), cI 1 3 (by omega) (by omega), cI 1 4 (by omega) (by omega), cI 1 5 (by omega) (by omega), cI 1 6 (by omega) (by omega), cI 1 7 (by omega) (by omega), cI 1 8 (by omega) (by omega), cI 1 9 (by omega) (by omega), cI 1 10 (by omega) (by omega), cI 1 11 (by omega) (by omega), cI 1 12 (by omega) (by omega), cI 1 13 (by omega) (by omega), dI 12 s (by omega) (by omega), dI 13 s (by omega) (by omega), dI 14 s (by omega) (by omega), dI 15 s (by omega) (by omega), dI 17 s (by omega) (by omega), dI 18 s (by omega) (by omega), dI 19 s (by omega) (by omega), dI 20 s (by omega) (by omega), dI 21 s (by omega) (by omega), dI 22 s (by omega) (by omega), dI 23 s (by omega) (by omega), dI 24 s (by omega) (by omega), dI 25 s (by omega) (by omega), dI 26 s (by omega) (by omega)]
    exact ⟨h0, h1, h2, h3, h4, h5', h6, h7, h8, h9, h10, h11, h12, h13⟩
  · rw [cI 1 0 (by omega) (by omega), cI 1 14 (by omega) (by omega), dI 16 s (by omega) (by omega)]
    exact hS2
  · refine ⟨0, Nat.zero_le _, ?_, ?_⟩
    · unfold rs_change rs_ch1
      split <;> exact rf_sI_at _ _ _ _
    · rw [hCs]
      exact cr_sI_at _ _ _ _ _
  · by_cases c : C.1 2 s 0 = 0
    · have c' : D.1 42 s = 0 := hch.mpr c
      have n7 : (cs_S_clearRows (cs_C_begin C s) s).1 2 s 7 = Int32.ofNat (C.2.1 s).length := by
        unfold cs_S_clearRows cs_C_begin cs_C_tail
        rw [if_pos (show (cr_sI C 2 s 1 0).1 2 s 0 = 0 by simpa [cr_sI, cr_u] using c)]
        simp [cr_sI, cr_sX, cr_u]
      have n8 : (cs_S_clearRows (cs_C_begin C s) s).1 2 s 8 = C.1 1 s 4 - Int32.ofNat (C.2.1 s).length + 1 := by
        unfold cs_S_clearRows cs_C_begin cs_C_tail
        rw [if_pos (show (cr_sI C 2 s 1 0).1 2 s 0 = 0 by simpa [cr_sI, cr_u] using c)]
        simp [cr_sI, cr_sX, cr_u]
      have nb : cr_nb (cs_S_clearRows (cs_C_begin C s) s) s = (C.2.1 s).length := by
        unfold cr_nb
        rw [n7]
        exact ev_cl _ (by omega)
      unfold sm_V
      rw [nb, n8, hC12, hD12, if_pos c', hk0 c]
      refine ⟨?_, ?_, ?_, ?_, ?_, ?_, ?_⟩
      · unfold rs_change rs_ch1 rs_mvB rs_mvA rs_chN cs_S_clearRows cs_C_begin cs_C_tail
        rw [if_pos c', if_pos (show (cr_sI C 2 s 1 0).1 2 s 0 = 0 by simpa [cr_sI, cr_u] using c)]
        simp [cr_sI, cr_sX, cr_u, rf_sI, rf_sX, rf_u]
      · unfold rs_change rs_ch1 rs_mvB rs_mvA rs_chN cs_S_clearRows cs_C_begin cs_C_tail
        rw [if_pos c', if_pos (show (cr_sI C 2 s 1 0).1 2 s 0 = 0 by simpa [cr_sI, cr_u] using c)]
        simp [cr_sI, cr_sX, cr_u, rf_sI, rf_sX, rf_u]
      · unfold rs_change rs_ch1 rs_mvB rs_mvA rs_chN cs_S_clearRows cs_C_begin cs_C_tail
        rw [if_pos c', if_pos (show (cr_sI C 2 s 1 0).1 2 s 0 = 0 by simpa [cr_sI, cr_u] using c)]
        simp [cr_sI, cr_sX, cr_u, rf_sI, rf_sX, rf_u, h2]
      · unfold rs_change rs_ch1 rs_mvB rs_mvA rs_chN cs_S_clearRows cs_C_begin cs_C_tail
        rw [if_pos c', if_pos (show (cr_sI C 2 s 1 0).1 2 s 0 = 0 by simpa [cr_sI, cr_u] using c)]
        simp [cr_sI, cr_sX, cr_u, rf_sI, rf_sX, rf_u, h3]
      · unfold rs_change rs_ch1 rs_mvB rs_mvA rs_chN cs_S_clearRows cs_C_begin cs_C_tail
        rw [if_pos c', if_pos (show (cr_sI C 2 s 1 0).1 2 s 0 = 0 by simpa [cr_sI, cr_u] using c)]
        simp [cr_sI, cr_sX, cr_u, rf_sI, rf_sX, rf_u, h5']
      · unfold rs_change rs_ch1 rs_mvB rs_mvA rs_chN cs_S_clearRows cs_C_begin cs_C_tail
        rw [if_pos c', if_pos (show (cr_sI C 2 s 1 0).1 2 s 0 = 0 by simpa [cr_sI, cr_u] using c)]
        simp [cr_sI, cr_sX, cr_u, rf_sI, rf_sX, rf_u]
      · rw [v7, hk0 c, hRs, hR6, sm_map_n1, List.length_map, h4, sm_num1 _ _ (C.1 1 s 4 - Int32.ofNat (C.2.1 s).length + 1) (by rw [Int32.add_assoc, Int32.add_assoc, Int32.add_comm 8 1]), List.nil_append, sm_k_app _ _ _ _ (Nat.le_refl _)]
        rfl
    · have c' : ¬ D.1 42 s = 0 := fun e => c (hch.mp e)
      have n7 : ∀ k, k ≠ 1 → (cs_S_clearRows (cs_C_begin C s) s).1 2 s k = C.1 2 s k := fun k hk => by
        unfold cs_S_clearRows cs_C_begin cs_C_tail
        rw [if_neg (show ¬ (cr_sI C 2 s 1 0).1 2 s 0 = 0 by simpa [cr_sI, cr_u] using c)]
        simp [cr_sI, cr_sX, cr_u, hk]
      have nb : cr_nb (cs_S_clearRows (cs_C_begin C s) s) s = cr_nb C s := by
        unfold cr_nb
        rw [n7 7 (by omega)]
      have m1 : (cs_S_clearRows (cs_C_begin C s) s).1 2 s 1 = 0 := by
        unfold cs_S_clearRows cs_C_begin cs_C_tail
        rw [if_neg (show ¬ (cr_sI C 2 s 1 0).1 2 s 0 = 0 by simpa [cr_sI, cr_u] using c)]
        simp [cr_sI, cr_sX, cr_u]
      have d42 : ∀ k, 42 ≤ k → k < 48 → k ≠ 43 → (rs_change D s).1 k s = D.1 k s := fun k a b hk => by
        have k27 : k ≠ 27 := by omega
        unfold rs_change rs_ch1 rs_mvB rs_mvA
        rw [if_neg c']
        simp [rf_sI, rf_sX, rf_u, hk, k27]
      have d43 : (rs_change D s).1 43 s = 0 := by
        unfold rs_change rs_ch1 rs_mvB rs_mvA
        rw [if_neg c']
        simp [rf_sI, rf_sX, rf_u]
      unfold sm_V
      rw [nb, n7 8 (by omega), n7 3 (by omega), n7 4 (by omega), n7 5 (by omega), n7 6 (by omega), n7 0 (by omega), n7 2 (by omega), m1, d43, d42 44 (by omega) (by omega) (by omega), d42 45 (by omega) (by omega) (by omega), d42 46 (by omega) (by omega) (by omega), d42 47 (by omega) (by omega) (by omega), d42 42 (by omega) (by omega) (by omega), hC12, hD12, if_neg c']
      refine ⟨rfl, v2, v3, v4, v5, v6, ?_⟩
      rw [v7, hRs, hR6, sm_map_n1, sm_num0, List.append_assoc, List.append_assoc, sm_k_app _ _ _ _ hkn, List.map_append]
  · unfold sm_U at hU ⊢
    have hu2 : (cs_S_clearRows (cs_C_begin C s) s).2.2 = C.2.2 := by
      unfold cs_S_clearRows cs_C_begin
      split <;> rfl
    have c3 : ∀ k, (cs_S_clearRows (cs_C_begin C s) s).1 3 s k = C.1 3 s k := fun k => cI 3 k (by omega) (by omega)
    simp only [c3, hu2, dI 32 s (by omega) (by omega), dI 33 s (by omega) (by omega), dI 34 s (by omega) (by omega), dI 35 s (by omega) (by omega), dI 36 s (by omega) (by omega), dI 37 s (by omega) (by omega), dI 38 s (by omega) (by omega), dI 39 s (by omega) (by omega), dI 40 s (by omega) (by omega), dI 41 s (by omega) (by omega)]
    exact hU
  · unfold sm_F at hF ⊢
    have c4 : ∀ k, (cs_S_clearRows (cs_C_begin C s) s).1 4 s k = C.1 4 s k := fun k => cI 4 k (by omega) (by omega)
    simp only [c4, dI 30 s (by omega) (by omega), dI 31 s (by omega) (by omega)]
    exact hF
  · intro i hi
    rw [cI 5 i (by omega) (by omega), cI 6 i (by omega) (by omega), dI 28 _ (by omega) (by omega), dI 29 _ (by omega) (by omega)]
    exact hY i hi
  · intro r hr hr2
    rw [hX, hDX]
    unfold cr_fX
    by_cases e2 : r = 6 + s
    · rw [e2, cr_sX_at, rf_sX_at]
      rfl
    · rw [cr_sX_ne _ _ e2, rf_sX_ne _ _ e2]
      by_cases e3 : r = s
      · rw [e3, cr_sX_at, rf_sX_at]
        rfl
      · rw [cr_sX_ne _ _ e3, rf_sX_ne _ _ e3, cr_sX_ne _ _ (by omega), rf_sX_ne _ _ (by omega)]
        exact h.2.1 r hr hr2
theorem cr_f16_of {u : Nat} (hu : u < 1024) : cr_f16 (Int32.ofNat u) = u % 16 := by
  unfold cr_f16
  rw [show (Int32.ofNat u).toInt = (u : Int) from nI_toInt (by omega)]
  omega
/-- the back is kept in the memory -/
theorem sm_keep {C : cr_C} {D : rf_C} (h : sm C D) {s u : Nat} (hs : s < 6) (hu : u < 1024) (y : Int32) : sm (cs_Y_keep C s (Int32.ofNat u) y) (rf_sI (rf_sI D 28 (16 * s + u % 16) (Int32.ofNat u)) 29 (16 * s + u % 16) y) := by
  obtain ⟨hS, hV, hU, hF, hY⟩ := h.1 s hs
  unfold cs_Y_keep
  rw [cr_f16_of hu]
  have cn : ∀ κ k', κ ≠ 5 → κ ≠ 6 → (cr_sI (cr_sI C 5 s (u % 16) (Int32.ofNat u)) 6 s (u % 16) y).1 κ s k' = C.1 κ s k' := fun κ k' a b => by
    simp only [cr_sI, cr_u]
    rw [if_neg (fun e => b e.1), if_neg (fun e => a e.1)]
  have dn : ∀ k' j, k' ≠ 28 → k' ≠ 29 → (rf_sI (rf_sI D 28 (16 * s + u % 16) (Int32.ofNat u)) 29 (16 * s + u % 16) y).1 k' j = D.1 k' j := fun k' j a b => by rw [rf_sI_ne _ _ (fun e => b e.1), rf_sI_ne _ _ (fun e => a e.1)]
  refine h.at (fc_sI (fc_sI (fc_refl C s) (by omega)) (by omega)) (fd_28 (fd_28 (fd_refl D s) (Or.inl rfl) (by omega)) (Or.inr rfl) (by omega)) ⟨?_, ?_, ?_, ?_, ?_⟩ h.2.1
  · unfold sm_S at hS ⊢
    have c1 : ∀ k, (cr_sI (cr_sI C 5 s (u % 16) (Int32.ofNat u)) 6 s (u % 16) y).1 1 s k = C.1 1 s k := fun k => cn 1 k (by omega) (by omega)
    simp only [c1, dn 12 s (by omega) (by omega), dn 13 s (by omega) (by omega), dn 14 s (by omega) (by omega), dn 15 s (by omega) (by omega), dn 16 s (by omega) (by omega), dn 17 s (by omega) (by omega), dn 18 s (by omega) (by omega), dn 19 s (by omega) (by omega), dn 20 s (by omega) (by omega), dn 21 s (by omega) (by omega), dn 22 s (by omega) (by omega), dn 23 s (by omega) (by omega), dn 24 s (by omega) (by omega), dn 25 s (by omega) (by omega), dn 26 s (by omega) (by omega), dn 27 s (by omega) (by omega)]
    exact hS
  · unfold sm_V cr_nb at hV ⊢
    have c1 : ∀ k, (cr_sI (cr_sI C 5 s (u % 16) (Int32.ofNat u)) 6 s (u % 16) y).1 2 s k = C.1 2 s k := fun k => cn 2 k (by omega) (by omega)
    simp only [c1, dn 42 s (by omega) (by omega), dn 43 s (by omega) (by omega), dn 44 s (by omega) (by omega), dn 45 s (by omega) (by omega), dn 46 s (by omega) (by omega), dn 47 s (by omega) (by omega)]
    exact hV
  · unfold sm_U at hU ⊢
    have c1 : ∀ k, (cr_sI (cr_sI C 5 s (u % 16) (Int32.ofNat u)) 6 s (u % 16) y).1 3 s k = C.1 3 s k := fun k => cn 3 k (by omega) (by omega)
    simp only [c1, dn 32 s (by omega) (by omega), dn 33 s (by omega) (by omega), dn 34 s (by omega) (by omega), dn 35 s (by omega) (by omega), dn 36 s (by omega) (by omega), dn 37 s (by omega) (by omega), dn 38 s (by omega) (by omega), dn 39 s (by omega) (by omega), dn 40 s (by omega) (by omega), dn 41 s (by omega) (by omega)]
    exact hU
  · unfold sm_F at hF ⊢
    have c1 : ∀ k, (cr_sI (cr_sI C 5 s (u % 16) (Int32.ofNat u)) 6 s (u % 16) y).1 4 s k = C.1 4 s k := fun k => cn 4 k (by omega) (by omega)
    simp only [c1, dn 30 s (by omega) (by omega), dn 31 s (by omega) (by omega)]
    exact hF
  · intro i hi
    by_cases e : i = u % 16
    · subst e
      refine Or.inl ⟨?_, ?_⟩
      · rw [rf_sI_ne _ _ (by omega), rf_sI_at]
        simp [cr_sI, cr_u]
      · rw [rf_sI_at, cr_sI_at]
    · have c5 : (cr_sI (cr_sI C 5 s (u % 16) (Int32.ofNat u)) 6 s (u % 16) y).1 5 s i = C.1 5 s i := by simp [cr_sI, cr_u, e]
      have c6 : (cr_sI (cr_sI C 5 s (u % 16) (Int32.ofNat u)) 6 s (u % 16) y).1 6 s i = C.1 6 s i := by simp [cr_sI, cr_u, e]
      rw [c5, c6, rf_sI_ne _ _ (by omega), rf_sI_ne _ _ (by omega), rf_sI_ne _ _ (by omega), rf_sI_ne _ _ (by omega)]
      exact hY i hi
