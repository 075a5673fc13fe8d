/-! side by side: a serving side is served -/
theorem i_le {a b : Nat} (h : a ≤ b) (hb : b < 2 ^ 31) : Int32.ofNat a ≤ Int32.ofNat b := nI_le h hb
theorem i_ge {a b : Nat} (h : a < b) (hb : b < 2 ^ 31) : ¬ Int32.ofNat b ≤ Int32.ofNat a := nI_ge h hb
theorem i_lt {a b : Nat} (h : a < b) (hb : b < 2 ^ 31) : Int32.ofNat a < Int32.ofNat b := nI_lt h hb
theorem i_nlt {a b : Nat} (h : b ≤ a) (hb : a < 2 ^ 31) : ¬ Int32.ofNat a < Int32.ofNat b := nI_nlt h hb
/-- the row of those sent, and how many are due again, are set on both -/
theorem sm_row {C : cr_C} {D : rf_C} (h : sm C D) {s : Nat} (hs : s < 6) (zs : List cr_m) {a : Nat} (ha : a ≤ zs.length) {x y : Int32} (hx : x = Int32.ofNat (zs.length - a)) (hy : y = Int32.ofNat a) : sm (cr_sI (cr_sX C s zs) 1 s 15 x) (rf_sI (rf_sX D s (zs.map sm_m)) 27 s y) := by
  obtain ⟨⟨hS1, hS2, hS3⟩, hV, hU, hF, hY⟩ := h.1 s hs
  have cn : ∀ κ k, ¬ (κ = 1 ∧ k = 15) → (cr_sI (cr_sX C s zs) 1 s 15 x).1 κ s k = C.1 κ s k := fun κ k hne => by
    rw [cr_sI_ne _ _ (by omega)]
    rfl
  have dn : ∀ k j, k ≠ 27 → (rf_sI (rf_sX D s (zs.map sm_m)) 27 s y).1 k j = D.1 k j := fun k j hne => by
    rw [rf_sI_ne _ _ (by omega)]
    rfl
  have x12 : (cr_sI (cr_sX C s zs) 1 s 15 x).2.1 (12 + s) = C.2.1 (12 + s) := cr_sX_ne _ _ (by omega)
  have y12 : (rf_sI (rf_sX D s (zs.map sm_m)) 27 s y).2 (12 + s) = D.2 (12 + s) := rf_sX_ne _ _ (by omega)
  have xs : (cr_sI (cr_sX C s zs) 1 s 15 x).2.1 s = zs := cr_sX_at _ _ _
  refine h.at (fc_sI (fc_sX (fc_refl C s) (fun i hi his => by omega)) (by omega)) (fd_sI (fd_sX (fd_refl D s) (fun i hi his => by omega)) (by omega)) ⟨⟨?_, ?_, ?_⟩, ?_, hU, hF, ?_⟩ ?_
  · have c1 : ∀ k, k < 15 → (cr_sI (cr_sX C s zs) 1 s 15 x).1 1 s k = C.1 1 s k := fun k hk => cn 1 k (by omega)
    rw [c1 0 (by omega), c1 1 (by omega), c1 2 (by omega), c1 3 (by omega), c1 4 (by omega), c1 5 (by omega), c1 6 (by omega), c1 7 (by omega), c1 8 (by omega), c1 9 (by omega), c1 10 (by omega), c1 11 (by omega), c1 12 (by omega), c1 13 (by omega), dn 12 s (by omega), dn 13 s (by omega), dn 14 s (by omega), dn 15 s (by omega), dn 17 s (by omega), dn 18 s (by omega), dn 19 s (by omega), dn 20 s (by omega), dn 21 s (by omega), dn 22 s (by omega), dn 23 s (by omega), dn 24 s (by omega), dn 25 s (by omega), dn 26 s (by omega)]
    exact hS1
  · rw [cn 1 0 (by omega), cn 1 14 (by omega), dn 16 s (by omega)]
    exact hS2
  · refine ⟨a, by rw [xs]; exact ha, ?_, ?_⟩
    · rw [rf_sI_at]
      exact hy
    · rw [cr_sI_at, xs]
      exact hx
  · unfold sm_V cr_nb at hV ⊢
    have c1 : ∀ k, (cr_sI (cr_sX C s zs) 1 s 15 x).1 2 s k = C.1 2 s k := fun k => cn 2 k (by omega)
    simp only [c1, x12, y12, dn 42 s (by omega), dn 43 s (by omega), dn 44 s (by omega), dn 45 s (by omega), dn 46 s (by omega), dn 47 s (by omega)]
    exact hV
  · intro i hi
    rw [cn 5 i (by omega), cn 6 i (by omega), dn 28 _ (by omega), dn 29 _ (by omega)]
    exact hY i hi
  · intro r hr hr2
    show (rf_sX D s _).2 r = ((cr_sX C s _).2.1 r).map sm_m
    by_cases e : r = s
    · rw [e, rf_sX_at, cr_sX_at]
    · rw [rf_sX_ne _ _ e, cr_sX_ne _ _ e]
      exact h.2.1 r hr hr2
theorem sm_good {C : cr_C} {D : rf_C} (h : sm C D) {s : Nat} (hs : s < 6) (hg : nb (C.1 1 s 11) 8) (hbk : nb (C.1 1 s 10) 100) : sm (cs_S_countGood C s) (rs_good D s) := by
  have g11 : D.1 24 s = C.1 1 s 11 := h.g (k := 11) hs (by omega)
  have g10 : D.1 23 s = C.1 1 s 10 := h.g (k := 10) hs (by omega)
  have h1 : sm (cr_sI C 1 s 11 (C.1 1 s 11 + 1)) (rf_sI D 24 s (D.1 24 s + 1)) := sm_inc (k := 11) h hs (by omega) (by omega)
  have h2 : sm (cr_sI (cr_sI C 1 s 11 (C.1 1 s 11 + 1)) 1 s 11 0) (rf_sI (rf_sI D 24 s (D.1 24 s + 1)) 24 s 0) := sm_up (k := 11) h1 hs (by omega) (by omega) 0
  have hb := hg.up (by omega)
  obtain ⟨u, hu, eu⟩ := hbk
  unfold cs_S_countGood rs_good
  simp only [cr_sI_at, rf_sI_at]
  have e10 : (cr_sI (cr_sI C 1 s 11 (C.1 1 s 11 + 1)) 1 s 11 0).1 1 s 10 = C.1 1 s 10 := by rw [cr_sI_ne _ _ (by omega), cr_sI_ne _ _ (by omega)]
  rw [e10, g10]
  by_cases c : C.1 1 s 11 + 1 < 8
  · rw [if_pos c, if_neg (show ¬ D.1 24 s + 1 = 8 from fun e => (hb.mpr (by rw [← g11]; exact e)) c)]
    exact h1
  · rw [if_neg c, if_pos (show D.1 24 s + 1 = 8 by rw [g11]; exact hb.mp c)]
    by_cases c2 : C.1 1 s 10 ≤ 0
    · rw [if_pos c2, if_pos c2]
      have e0 : C.1 1 s 10 = 0 := by
        rw [eu] at c2 ⊢
        rcases Nat.eq_zero_or_pos u with h3 | h3
        · rw [h3]
          rfl
        · exact absurd c2 (nI_nle h3 (by omega))
      have h3 := sm_up (k := 10) h2 hs (by omega) (by omega) 0
      have e1 : cr_sI (cr_sI (cr_sI C 1 s 11 (C.1 1 s 11 + 1)) 1 s 11 0) 1 s 10 0 = cr_sI (cr_sI C 1 s 11 (C.1 1 s 11 + 1)) 1 s 11 0 := by
        have := cr_sI_same (cr_sI (cr_sI C 1 s 11 (C.1 1 s 11 + 1)) 1 s 11 0) 1 s 10
        rw [e10, e0] at this
        exact this
      rw [e1] at h3
      exact h3
    · rw [if_neg c2, if_neg c2]
      exact sm_up (k := 10) h2 hs (by omega) (by omega) _
theorem f8_dn (x f : Int32) (n : Nat) (hn : n < 2 ^ 30) : cr_f8 (x - ((f - Int32.ofNat n) &&& 7)) = cr_f8 (x - f + Int32.ofNat n) := by
  rw [ms_and7, cr_f8_nat (x - Int32.ofNat (cr_f8 (f - Int32.ofNat n))), cr_f8_nat (x - f + Int32.ofNat n)]
  have h8 := cr_f8_nat (f - Int32.ofNat n)
  have e0 : (f - Int32.ofNat n).toBitVec = f.toBitVec - BitVec.ofNat 32 n := rfl
  have e1 : (x - Int32.ofNat (cr_f8 (f - Int32.ofNat n))).toBitVec = x.toBitVec - BitVec.ofNat 32 (cr_f8 (f - Int32.ofNat n)) := rfl
  have e2 : (x - f + Int32.ofNat n).toBitVec = x.toBitVec - f.toBitVec + BitVec.ofNat 32 n := rfl
  rw [e0, BitVec.toNat_sub, BitVec.toNat_ofNat] at h8
  rw [e1, e2, BitVec.toNat_sub, BitVec.toNat_add, BitVec.toNat_sub, BitVec.toNat_ofNat, BitVec.toNat_ofNat]
  have h1 := x.toBitVec.isLt
  have h2 := f.toBitVec.isLt
  have h3 := cr_f8lt (f - Int32.ofNat n)
  omega
/-- the state before the message of a numbered unit, when the answer can be -/
theorem sm_svP {C : cr_C} {D : rf_C} (h : sm C D) {e l t : Nat} (he : e < 2) (hl : l < 3) (ht : t < 6) (h5 : (C.2.1 (2 * l + e)).length ≤ 5) (hf4 : C.1 3 t 0 = 4) :
    ((cs_S_answered C (2 * l + e) (C.1 3 t 4)).1 = 0 ↔ ¬ Int32.ofNat (rf_dn D (2 * l + e) t) ≤ Int32.ofNat (D.2 (2 * l + e)).length) ∧
    ((cs_S_answered C (2 * l + e) (C.1 3 t 4)).1 = 0 → (cs_S_answered C (2 * l + e) (C.1 3 t 4)).2 = C) ∧
    ((cs_S_answered C (2 * l + e) (C.1 3 t 4)).1 ≠ 0 → sm (cs_E_numG (cs_S_answered C (2 * l + e) (C.1 3 t 4)).2 e l t) (rs_svP D l e t)) := by
  have hs : 2 * l + e < 6 := by omega
  obtain ⟨u1, hU⟩ := (h.1 t ht).2.2.1
  have hU4 : D.1 34 t = C.1 3 t 2 ∧ D.1 35 t = C.1 3 t 3 ∧ D.1 36 t = C.1 3 t 4 ∧ D.1 37 t = C.1 3 t 5 := by
    rcases hU with ⟨f, -⟩ | ⟨f, -⟩ | ⟨f, -⟩ | ⟨f, -⟩ | ⟨f, a, b, c, d, -⟩
    · rw [hf4] at f; exact absurd f (by decide)
    · rw [hf4] at f; exact absurd f (by decide)
    · rw [hf4] at f; exact absurd f (by decide)
    · rw [hf4] at f; exact absurd f (by decide)
    · exact ⟨a, b, c, d⟩
  unfold cs_E_numG rs_svP
  generalize 2 * l + e = s at *
  have g4 : D.1 17 s = C.1 1 s 4 := h.g (k := 4) hs (by omega)
  have g6 : D.1 19 s = C.1 1 s 6 := h.g (k := 6) hs (by omega)
  have g12 : D.1 25 s = C.1 1 s 12 := h.g (k := 12) hs (by omega)
  have hrow := h.2.1 s (by omega) (by omega)
  have hlen : (D.2 s).length = (C.2.1 s).length := by rw [hrow, List.length_map]
  obtain ⟨a, a1, a2, a3⟩ := (h.1 s hs).1.2.2
  have edn : rf_dn D s t = cr_f8 ((C.1 3 t 4 - C.1 1 s 4) + Int32.ofNat (C.2.1 s).length) := by
    unfold rf_dn
    rw [hU4.2.2.1, g4, hlen]
    exact f8_dn _ _ _ (by omega)
  have hn8 : rf_dn D s t < 8 := cr_f8lt _
  unfold cs_S_answered
  rw [← edn, hlen]
  generalize hn : rf_dn D s t = n at *
  by_cases c : n ≤ (C.2.1 s).length
  · have c' : Int32.ofNat n ≤ Int32.ofNat (C.2.1 s).length := nI_le c (by omega)
    simp only [if_pos c']
    have hlz : ((C.2.1 s).drop n).length = (C.2.1 s).length - n := List.length_drop
    -- the number due after the answer
    have hdue : (if Int32.ofNat ((cr_sX C s ((C.2.1 s).drop n)).2.1 s).length < (cr_sX C s ((C.2.1 s).drop n)).1 1 s 15 then Int32.ofNat ((cr_sX C s ((C.2.1 s).drop n)).2.1 s).length else (cr_sX C s ((C.2.1 s).drop n)).1 1 s 15) = Int32.ofNat (((C.2.1 s).drop n).length - (a - n)) := by
      rw [cr_sX_at]
      show (if Int32.ofNat ((C.2.1 s).drop n).length < C.1 1 s 15 then Int32.ofNat ((C.2.1 s).drop n).length else C.1 1 s 15) = _
      rw [a3, hlz]
      by_cases c3 : (C.2.1 s).length - n < (C.2.1 s).length - a
      · rw [if_pos (i_lt c3 (by omega))]
        congr 1
        omega
      · rw [if_neg (i_nlt (by omega) (by omega))]
        congr 1
        omega
    rw [hdue]
    have hag : (if (rs_sv2 (rs_sv1 D s n) s n).1 27 s ≤ Int32.ofNat n then 0 else (rs_sv2 (rs_sv1 D s n) s n).1 27 s - Int32.ofNat n) = Int32.ofNat (a - n) := by
      have e27 : (rs_sv2 (rs_sv1 D s n) s n).1 27 s = Int32.ofNat a := by
        show (rf_sI (rf_sI D 26 s 0) 25 s (if Int32.ofNat n ≤ 0 then D.1 25 s else 0)).1 27 s = _
        rw [rf_sI_ne _ _ (by omega), rf_sI_ne _ _ (by omega)]
        exact a2
      rw [e27]
      by_cases c3 : a ≤ n
      · rw [if_pos (i_le c3 (by omega)), show a - n = 0 by omega]
        rfl
      · rw [if_neg (i_ge (by omega) (by omega)), Int32.ofNat_sub _ _ (by omega)]
    -- the state after it, with what is not odd any more
    have hA : ∀ (y : Int32), sm (cr_sI (cr_sX (cr_sI (cr_sI C 1 s 13 0) 1 s 12 y) s ((C.2.1 s).drop n)) 1 s 15 (Int32.ofNat (((C.2.1 s).drop n).length - (a - n)))) (rf_sI (rf_sX (rf_sI (rf_sI D 26 s 0) 25 s y) s (((C.2.1 s).drop n).map sm_m)) 27 s (Int32.ofNat (a - n))) := fun y => sm_row (sm_up (k := 12) (sm_up (k := 13) h hs (by omega) (by omega) 0) hs (by omega) (by omega) y) hs _ (by omega) rfl rfl
    have hD3 : rs_sv3 (rs_sv2 (rs_sv1 D s n) s n) s n = rf_sI (rf_sX (rf_sI (rf_sI D 26 s 0) 25 s (if Int32.ofNat n ≤ 0 then C.1 1 s 12 else 0)) s (((C.2.1 s).drop n).map sm_m)) 27 s (Int32.ofNat (a - n)) := by
      unfold rs_sv3
      rw [hag]
      unfold rs_sv2 rs_sv1
      rw [g12]
      show rf_sI (rf_sX (rf_sI (rf_sI D 26 s 0) 25 s _) s ((D.2 s).drop n)) 27 s _ = _
      rw [hrow, List.map_drop]
    -- followed by the bit
    have fin : ∀ (C3 : cr_C), sm C3 (rs_sv3 (rs_sv2 (rs_sv1 D s n) s n) s n) → C3.1 3 t 5 = C.1 3 t 5 → C3.1 1 s 6 = C.1 1 s 6 → C3.2.1 s = (C.2.1 s).drop n → sm (cs_S_followBackBit C3 s (C3.1 3 t 5)) (rs_sv4 (rs_sv3 (rs_sv2 (rs_sv1 D s n) s n) s n) s t) := by
      intro C3 h3 e5 e6 eX
      have k37 : (rs_sv3 (rs_sv2 (rs_sv1 D s n) s n) s n).1 37 t = C.1 3 t 5 := by
        unfold rs_sv3
        rw [rf_sI_ne _ _ (by omega)]
        show (rf_sI (rf_sI D 26 s 0) 25 s (if Int32.ofNat n ≤ 0 then D.1 25 s else 0)).1 37 t = _
        rw [rf_sI_ne _ _ (by omega), rf_sI_ne _ _ (by omega)]
        exact hU4.2.2.2
      have k19 : (rs_sv3 (rs_sv2 (rs_sv1 D s n) s n) s n).1 19 s = C3.1 1 s 6 := h3.g (k := 6) hs (by omega)
      have kr := h3.2.1 s (by omega) (by omega)
      generalize rs_sv3 (rs_sv2 (rs_sv1 D s n) s n) s n = D3 at *
      unfold cs_S_followBackBit rs_sv4
      rw [e5, k37, k19]
      by_cases cb : C.1 3 t 5 = C3.1 1 s 6
      · rw [if_pos cb, if_pos cb]
        exact h3
      · rw [if_neg cb, if_neg cb]
        have h4 : sm (cr_sI C3 1 s 6 (C.1 3 t 5)) (rf_sI D3 19 s (C.1 3 t 5)) := sm_up (k := 6) h3 hs (by omega) (by omega) _
        have h5' := sm_row h4 hs (C3.2.1 s) (a := 0) (Nat.zero_le _) rfl (y := 0) rfl
        have e1 : cr_sX (cr_sI C3 1 s 6 (C.1 3 t 5)) s (C3.2.1 s) = cr_sI C3 1 s 6 (C.1 3 t 5) := cr_sX_same (cr_sI C3 1 s 6 (C.1 3 t 5)) s
        have e2 : rf_sX (rf_sI D3 19 s (C.1 3 t 5)) s ((C3.2.1 s).map sm_m) = rf_sI D3 19 s (C.1 3 t 5) := by
          rw [← kr]
          exact rf_sX_same (rf_sI D3 19 s (C.1 3 t 5)) s
        rw [e1, e2] at h5'
        exact h5'
    rw [hD3] at fin
    rw [hD3]
    by_cases c2 : Int32.ofNat n ≤ 0
    · simp only [if_pos c2] at fin ⊢
      refine ⟨⟨fun e => absurd e (by decide), fun e => absurd c' e⟩, fun e => absurd e (by decide), fun _ => ?_⟩
      have e1 : cr_sI (cr_sI (cr_sX C s ((C.2.1 s).drop n)) 1 s 15 (Int32.ofNat (((C.2.1 s).drop n).length - (a - n)))) 1 s 13 0 = cr_sI (cr_sX (cr_sI (cr_sI C 1 s 13 0) 1 s 12 (C.1 1 s 12)) s ((C.2.1 s).drop n)) 1 s 15 (Int32.ofNat (((C.2.1 s).drop n).length - (a - n))) := by
        have e0 : cr_sI (cr_sI C 1 s 13 0) 1 s 12 (C.1 1 s 12) = cr_sI C 1 s 13 0 := by
          rw [cr_sI_comm _ _ _ (by omega), cr_sI_same]
        rw [e0, cr_sI_comm _ _ _ (by omega)]
        rfl
      rw [e1]
      refine fin _ (hA _) ?_ ?_ ?_
      · rw [← e1, cr_sI_ne _ _ (by omega), cr_sI_ne _ _ (by omega)]
        rfl
      · rw [← e1, cr_sI_ne _ _ (by omega), cr_sI_ne _ _ (by omega)]
        rfl
      · exact cr_sX_at _ _ _
    · simp only [if_neg c2] at fin ⊢
      refine ⟨⟨fun e => absurd e (by decide), fun e => absurd c' e⟩, fun e => absurd e (by decide), fun _ => ?_⟩
      have e1 : cr_sI (cr_sI (cr_sI (cr_sX C s ((C.2.1 s).drop n)) 1 s 15 (Int32.ofNat (((C.2.1 s).drop n).length - (a - n)))) 1 s 12 0) 1 s 13 0 = cr_sI (cr_sX (cr_sI (cr_sI C 1 s 13 0) 1 s 12 0) s ((C.2.1 s).drop n)) 1 s 15 (Int32.ofNat (((C.2.1 s).drop n).length - (a - n))) := by
        rw [cr_sI_comm _ _ _ (show ¬ (1 = 1 ∧ s = s ∧ 15 = 12) by omega), cr_sI_comm _ _ _ (show ¬ (1 = 1 ∧ s = s ∧ 15 = 13) by omega), cr_sI_comm _ _ _ (show ¬ (1 = 1 ∧ s = s ∧ 12 = 13) by omega)]
        rfl
      rw [e1]
      refine fin _ (hA _) ?_ ?_ ?_
      · rw [← e1, cr_sI_ne _ _ (by omega), cr_sI_ne _ _ (by omega), cr_sI_ne _ _ (by omega)]
        rfl
      · rw [← e1, cr_sI_ne _ _ (by omega), cr_sI_ne _ _ (by omega), cr_sI_ne _ _ (by omega)]
        rfl
      · exact cr_sX_at _ _ _
  · have c' : ¬ Int32.ofNat n ≤ Int32.ofNat (C.2.1 s).length := nI_ge (by omega) (by omega)
    simp only [if_neg c']
    refine ⟨⟨fun _ => c', fun _ => ?_⟩, fun _ => ?_, fun e => ?_⟩
    · first | rfl | trivial
    · first | rfl | trivial
    · first | exact absurd rfl e | exact absurd trivial e
