/-! the invariant: a changeover, second half -/
theorem fin_facts (C : cr_C) {e l : Nat} (he : e < 2) (hl : l < 3) : (∀ κ i j, ¬ (κ = 8 ∧ i = e) → ¬ (κ = 2 ∧ i = 2 * l + e ∧ j = 0) → (cr_sX (cs_E_fin0 C e l) (12 + (2 * l + e)) []).1 κ i j = C.1 κ i j) ∧ (∀ k, k < 4 → (cr_sX (cs_E_fin0 C e l) (12 + (2 * l + e)) []).1 8 e k = C.1 7 e k) ∧ (cr_sX (cs_E_fin0 C e l) (12 + (2 * l + e)) []).1 2 (2 * l + e) 0 = 0 ∧ (∀ r, r ≠ 12 + (2 * l + e) → (cr_sX (cs_E_fin0 C e l) (12 + (2 * l + e)) []).2.1 r = C.2.1 r) ∧ (cr_sX (cs_E_fin0 C e l) (12 + (2 * l + e)) []).2.1 (12 + (2 * l + e)) = [] ∧ (cr_sX (cs_E_fin0 C e l) (12 + (2 * l + e)) []).2.2 = C.2.2 := by
  refine ⟨fun κ i j h1 h2 => ?_, fun k hk => ?_, ?_, fun r hr => cr_sX_ne _ _ hr, cr_sX_at _ _ _, rfl⟩
  · rw [cr_sX_I]
    unfold cs_E_fin0 cs_copy
    rw [cr_sI_ne _ _ (by omega), cr_sI_ne _ _ (by omega), cr_sI_ne _ _ (by omega), cr_sI_ne _ _ (by omega), cr_sI_ne _ _ (by omega)]
  · rw [cr_sX_I]
    rcases (show k = 0 ∨ k = 1 ∨ k = 2 ∨ k = 3 by omega) with rfl | rfl | rfl | rfl <;> simp [cs_E_fin0, cs_copy, cr_sI, cr_u]
  · rw [cr_sX_I]
    unfold cs_E_fin0 cs_copy
    rw [cr_sI_ne _ _ (by omega), cr_sI_ne _ _ (by omega), cr_sI_ne _ _ (by omega), cr_sI_ne _ _ (by omega), cr_sI_at]
theorem iz_fin {N : Nat} {C : cr_C} (h : iz N C) {e l : Nat} (he : e < 2) (hl : l < 3) (hn : cr_nb C (2 * l + e) = 0) : iz N (cr_sX (cs_E_fin0 C e l) (12 + (2 * l + e)) []) := by
  have hs : 2 * l + e < 6 := by omega
  have hv : cv (cr_sX (cs_E_fin0 C e l) (12 + (2 * l + e)) []) := (cw_nil (cw_fin0 C e l) (by omega) h.1).1
  obtain ⟨n1, n8, n20, xr, x12, eU⟩ := fin_facts C he hl
  generalize cr_sX (cs_E_fin0 C e l) (12 + (2 * l + e)) [] = C1 at *
  refine ⟨hv, fun t ht => ?_, fun q hq ν hν => ?_, ?_, fun e' he' => ?_⟩
  · obtain ⟨hA, hB, hD, hE⟩ := h.2.1 t ht
    refine ⟨hA.of (fun j _ => n1 _ _ _ (by omega) (by omega)), hB.of (fun j _ => n1 _ _ _ (by omega) (by omega)) (n1 _ _ _ (by omega) (by omega)), ?_, hE.of (n1 _ _ _ (by omega) (by omega)) (xr _ (by omega)) (fun _ => xr _ (by omega)) (n1 _ _ _ (by omega) (by omega))⟩
    by_cases e2 : t = 2 * l + e
    · rw [e2] at hD ⊢
      obtain ⟨d1, d2, d3, d4, d5, d6, d7⟩ := hD
      have en : cr_nb C1 (2 * l + e) = 0 := by
        unfold cr_nb at hn ⊢
        rw [n1 2 _ 7 (by omega) (by omega)]
        exact hn
      unfold iD
      rw [en, x12, n1 2 _ 4 (by omega) (by omega), n1 2 _ 5 (by omega) (by omega), n1 2 _ 6 (by omega) (by omega)]
      exact ⟨d1, d2, d3, fun _ => rfl, Nat.zero_le _, fun _ => rfl, fun i hi => by rw [n1 6 _ i (by omega) (by omega)]; exact d7 i hi⟩
    · exact hD.of (fun j _ _ => n1 _ _ _ (by omega) (by omega)) (fun i => n1 _ _ _ (by omega) (by omega)) (xr _ (by omega))
  · by_cases c : q = 12 + (2 * l + e)
    · rw [c, x12] at hν
      exact absurd hν List.not_mem_nil
    · rw [xr _ c] at hν
      exact h.2.2.1 q hq ν hν
  · rw [eU]
    exact h.2.2.2.1
  · rw [xr _ (by omega)]
    exact h.2.2.2.2 e' he'
theorem Po_fin (m : Nat) (C : cr_C) {e l : Nat} (he : e < 2) (hl : l < 3) : Po m (cr_sX (cs_E_fin0 C e l) (12 + (2 * l + e)) []) + 3 * ((C.2.1 (12 + (2 * l + e))).length + wn (C.2.1 (12 + (2 * l + e)))) ≤ Po m C := by
  have hs : 2 * l + e < 6 := by omega
  have w := wA_sX (cs_E_fin0 C e l) [] (show 12 + (2 * l + e) < 22 by omega)
  have ex : (cs_E_fin0 C e l).2.1 = C.2.1 := rfl
  rw [wr_hi (by omega) (by omega), wr_hi (by omega) (by omega), ex, show wA (cs_E_fin0 C e l) = wA C from wA_X rfl] at w
  simp only [List.length_nil, wn] at w
  obtain ⟨n1, n8, n20, xr, x12, eU⟩ := fin_facts C he hl
  generalize cr_sX (cs_E_fin0 C e l) (12 + (2 * l + e)) [] = C1 at *
  have cq1 : ∀ t, t < 6 → cq C C1 t := fun t ht => ⟨n1 _ _ _ (by omega) (by omega), n1 _ _ _ (by omega) (by omega), n1 _ _ _ (by omega) (by omega), fun _ => n1 _ _ _ (by omega) (by omega), by rw [eU], xr _ (by omega)⟩
  have key : cr_su (bs C1 m) 6 ≤ cr_su (bs C m) 6 := su_le (fun t ht => by
    have a := bs_core (k := m) cq1 (fun t ht => n1 _ _ _ (by omega) (by omega)) ht
    have b : cg C1 t ≤ cg C t := by
      by_cases c : t = 2 * l + e
      · rw [c, show cg C1 (2 * l + e) = 0 from if_neg (fun x => x.1 n20)]
        exact Nat.zero_le _
      · rw [cg_of (C := C) (C' := C1) (n1 _ _ _ (by omega) (by omega)) (n1 _ _ _ (by omega) (by omega)) (n1 _ _ _ (by omega) (by omega))]
        exact Nat.le_refl _
    omega)
  unfold Po
  omega
theorem IW_finish {N m : Nat} {C : cr_C} (h : IW N C) {e l : Nat} (he : e < 2) (hl : l < 3) (hn : cr_nb C (2 * l + e) = 0) (ho : op (cr_sI C 2 (2 * l + e) 0 0) e) : IW N (cs_E_finish C e l) ∧ Po m (cs_E_finish C e l) ≤ Po m C := by
  have hs : 2 * l + e < 6 := by omega
  have hL : cr_L C e := h.1.1.L he
  have hwf : ∀ μ ∈ C.2.1 (12 + (2 * l + e)), cv_m μ := h.1.1.1.1 _ (by omega)
  have hww : ∀ μ ∈ C.2.1 (12 + (2 * l + e)), mw N μ := h.1.2.2.1 _ (by omega)
  have z1 := iz_fin h.1 he hl hn
  have p1 := Po_fin m C he hl
  have hL0 : cr_L (cs_E_fin0 C e l) e := cr_L_of hL (fun k => by simp [cs_E_fin0, cs_copy, cr_sI, cr_u])
  have hX0 : (cs_E_fin0 C e l).2.1 = C.2.1 := rfl
  have efin : cs_E_fin1 (cs_E_fin0 C e l) e l = cs_E_pas e (C.2.1 (12 + (2 * l + e))) (cr_sX (cs_E_fin0 C e l) (12 + (2 * l + e)) []) := by
    unfold cs_E_fin1
    rw [hX0]
    exact (cs_pas_X he (by omega) [] _ _ hL0 (fun μ hμ => (hwf μ hμ).mo)).symm
  unfold cs_E_finish cs_E_letGoHeld
  rw [efin]
  obtain ⟨n1, n8, n20, xr, x12, eU⟩ := fin_facts C he hl
  generalize cr_sX (cs_E_fin0 C e l) (12 + (2 * l + e)) [] = C1 at *
  have cq1 : ∀ t, t < 6 → cq C C1 t := fun t ht => ⟨n1 _ _ _ (by omega) (by omega), n1 _ _ _ (by omega) (by omega), n1 _ _ _ (by omega) (by omega), fun _ => n1 _ _ _ (by omega) (by omega), by rw [eU], xr _ (by omega)⟩
  have i1 : IW N C1 := ⟨z1, IW.core h.2 cq1⟩
  have ho1 : op C1 e := by
    obtain ⟨q, hq, a, b⟩ := ho
    rw [cr_sI_ne _ _ (by omega)] at a
    refine ⟨q, hq, (n1 _ _ _ (by omega) (by omega)).trans a, ?_⟩
    by_cases eq : q = l
    · rw [eq]; exact n20
    · rw [cr_sI_ne _ _ (by omega)] at b
      exact (n1 _ _ _ (by omega) (by omega)).trans b
  obtain ⟨a2, b2, c2, d2⟩ := IW_pas (k := m) he (C.2.1 (12 + (2 * l + e))) C1 i1 ho1 (fun μ hμ => ⟨hwf μ hμ, hww μ hμ⟩)
  generalize cs_E_pas e (C.2.1 (12 + (2 * l + e))) C1 = C2 at *
  obtain ⟨a3, b3, c3, d3⟩ := IW_mvs (m := m) a2 (ho1.of c2) l
  generalize cs_E_mvs C2 e l = C3 at *
  have hsl : ∀ k, k < 4 → C3.1 8 e k = Int32.ofNat l → sl C3 e (C3.1 7 e k) := fun k hk ck => by
    have x1 : C.1 7 e k = Int32.ofNat l := by
      rw [← n8 k hk, ← c2 8 e k (by omega), ← c3 8 e k (by omega)]
      exact ck
    have x2 : C1.1 7 e k = Int32.ofNat l := (n1 7 e k (by omega) (by omega)).trans x1
    have p : C2.1 7 e k = Int32.ofNat l ∨ sl C2 e (C2.1 7 e k) := by
      rcases d2 k with x | ⟨q, hq, ex, s4⟩
      · exact Or.inl (x.trans x2)
      · exact Or.inr ⟨q, hq, ex, (c2 1 _ _ (by omega)).trans s4⟩
    obtain ⟨q, hq, ex, s4⟩ := d3 k hk p
    exact ⟨q, hq, ex, (c3 1 _ _ (by omega)).trans s4⟩
  obtain ⟨a4, b4⟩ := IW_lgh (m := m) (l := l) he (C3.2.1 (18 + e)) [] C3 (List.nil_append _).symm a3 hsl
  exact ⟨a4, by omega⟩
theorem IW_co3 {N m : Nat} {C : cr_C} (h : IW N C) {e l : Nat} (he : e < 2) (hl : l < 3) : IW N (cs_E_co3 C e l) ∧ Po m (cs_E_co3 C e l) ≤ Po m C := by
  unfold cs_E_co3
  by_cases c : C.1 2 (2 * l + e) 2 = 0
  · rw [if_pos c]
    exact ⟨h, Nat.le_refl _⟩
  · rw [if_neg c]
    by_cases c2 : (cs_E_someOpenBeside C e (Int32.ofNat l)).1 = 0
    · rw [if_pos c2]
      exact ⟨h, Nat.le_refl _⟩
    · rw [if_neg c2]
      exact IW_finish h he hl ((h.1.2.1 _ (show 2 * l + e < 6 by omega)).2.2.1.2.2.2.2.2.1 c) (beside_op hl c2)
theorem IW_co2 {N m : Nat} {C : cr_C} (h : IW N C) {e l : Nat} (he : e < 2) (hl : l < 3) (b : Int32) : IW N (cs_E_co2 C e l b) ∧ Po m (cs_E_co2 C e l b) ≤ Po m C := by
  have hs : 2 * l + e < 6 := by omega
  have g : IW N (cs_E_gu C e l) ∧ Po m (cs_E_gu C e l) ≤ Po m C := by
    unfold cs_E_gu
    have e1 : (cs_C_giveUp C (2 * l + e) (cr_nb C (2 * l + e))).2 = cs_set C (2 * l + e) (cr_nb C (2 * l + e)) := rfl
    rw [e1]
    have z := iz_set h.1 hs (cr_nb C (2 * l + e))
    have p := Po_set (k := m) C hs (cr_nb C (2 * l + e))
    have q := IW.core h.2 (fun t ht => set_cq C (2 * l + e) (cr_nb C (2 * l + e)) ht)
    generalize cs_set C (2 * l + e) (cr_nb C (2 * l + e)) = C1 at *
    have hv : ∀ x, cv (cr_sI C1 9 e 6 x) := fun x => ((cw_sI (cw_refl C1) rfl : cw C1 (cr_sI C1 9 e 6 x) 0) z.1).1
    refine ⟨⟨iz_num z (Or.inr (Or.inl (by omega))) (hv _) (fun x => absurd x (by omega)), IW.core q (fun t (_ : t < 6) => flt_cq C1 (Or.inr (Or.inr (by omega))) t)⟩, ?_⟩
    rw [Po_num m C1 (Or.inr (Or.inl (by omega)))]
    exact p
  unfold cs_E_co2
  repeat' split
  all_goals first | exact ⟨h, Nat.le_refl _⟩ | exact g
theorem IW_or {N m : Nat} {C : cr_C} (h : IW N C) {e l : Nat} (he : e < 2) (hl : l < 3) (c0 : C.1 2 (2 * l + e) 0 ≠ 0) (c2 : C.1 2 (2 * l + e) 2 = 0) (c1 : C.1 2 (2 * l + e) 1 = 0) : IW N (cs_E_or C e l) ∧ Po m (cs_E_or C e l) ≤ Po m C := by
  have hs : 2 * l + e < 6 := by omega
  obtain ⟨hA, hB, hD, hE⟩ := h.1.2.1 _ hs
  have hw : mw N (4, Int32.ofNat l, C.1 2 (2 * l + e) 6, C.1 2 (2 * l + e) 4) := fun _ => ⟨Or.inr hD.2.2.1, hD.1⟩
  have hm : cv_m (4, Int32.ofNat l, C.1 2 (2 * l + e) 6, C.1 2 (2 * l + e) 4) := cv_m5 hl _ _ 4 (Or.inl rfl)
  have z := iz_say h.1 he hw hm
  have p := Po_say (k := m) C he (4, Int32.ofNat l, C.1 2 (2 * l + e) 6, C.1 2 (2 * l + e) 4)
  rw [if_neg (show ¬ (4 : Int32) = 5 by decide)] at p
  have q := IW.core h.2 (fun _ ht => say_cq C (e := e) (4, Int32.ofNat l, C.1 2 (2 * l + e) 6, C.1 2 (2 * l + e) 4) ht)
  have n := cs_say_num C e (4, Int32.ofNat l, C.1 2 (2 * l + e) 6, C.1 2 (2 * l + e) 4)
  unfold cs_E_or
  generalize cs_E_say C e (4, Int32.ofNat l, C.1 2 (2 * l + e) 6, C.1 2 (2 * l + e) 4) = C1 at *
  generalize 2 * l + e = s at *
  have hv : cv (cr_sI C1 2 s 1 1) := ((cw_sI (cw_refl C1) rfl : cw C1 (cr_sI C1 2 s 1 1) 0) z.1).1
  have hc : ∀ t, cq C1 (cr_sI C1 2 s 1 1) t := fun t => flt_cq C1 (Or.inl rfl) t
  refine ⟨⟨iz_num z (Or.inr (Or.inr ⟨rfl, Or.inr rfl⟩)) hv (fun x => absurd x (by omega)), IW.core q (fun t _ => hc t)⟩, ?_⟩
  have g1 : cg (cr_sI C1 2 s 1 1) s = 0 := if_neg (fun x => absurd ((cr_sI_at C1 2 s 1 1).symm.trans x.2.2) (by decide))
  have g2 : cg C1 s = 2 := if_pos ⟨by rw [n]; exact c0, by rw [n]; exact c2, by rw [n]; exact c1⟩
  have key : cr_su (bs (cr_sI C1 2 s 1 1) m) 6 + 6 ≤ cr_su (bs C1 m) 6 + 0 := by
    refine su_at hs ?_ (fun t ht e => ?_)
    · have := bs_core (k := m) (fun t _ => hc t) (fun t _ => cr_sI_ne _ _ (by omega)) hs
      omega
    · have := bs_core (k := m) (fun t _ => hc t) (fun t _ => cr_sI_ne _ _ (by omega)) ht
      have : cg (cr_sI C1 2 s 1 1) t = cg C1 t := cg_of (cr_sI_ne _ _ (by omega)) (cr_sI_ne _ _ (by omega)) (cr_sI_ne _ _ (by omega))
      omega
  have w : wA (cr_sI C1 2 s 1 1) = wA C1 := wA_X rfl
  unfold Po at p ⊢
  omega
theorem IW_over {N : Nat} (m : Nat) {C : cr_C} (h : IW N C) {e l : Nat} (he : e < 2) (hl : l < 3) : IW N (cs_E_changeOver C e l) ∧ Po m (cs_E_changeOver C e l) ≤ Po m C := by
  unfold cs_E_changeOver
  by_cases c0 : C.1 2 (2 * l + e) 0 = 0
  · rw [if_pos c0]
    exact ⟨h, Nat.le_refl _⟩
  · rw [if_neg c0]
    generalize cr_sm C e = b
    have h0 : IW N (cs_E_co0 C e l b) ∧ Po m (cs_E_co0 C e l b) ≤ Po m C := by
      unfold cs_E_co0
      by_cases c2 : C.1 2 (2 * l + e) 2 = 0
      · rw [if_pos c2]
        by_cases c1 : C.1 2 (2 * l + e) 1 = 0
        · rw [if_pos c1]
          by_cases cb : b = 0
          · rw [if_pos cb]
            exact ⟨h, Nat.le_refl _⟩
          · rw [if_neg cb]
            exact IW_or h he hl c0 c2 c1
        · rw [if_neg c1]
          exact ⟨h, Nat.le_refl _⟩
      · rw [if_neg c2]
        exact ⟨h, Nat.le_refl _⟩
    generalize cs_E_co0 C e l b = C1 at *
    obtain ⟨h1, p1⟩ := h0
    unfold cs_E_co1
    have hv : cv (cr_sI C1 2 (2 * l + e) 3 (C1.1 2 (2 * l + e) 3 + 1)) := ((cw_sI (cw_refl C1) rfl : cw C1 (cr_sI C1 2 (2 * l + e) 3 (C1.1 2 (2 * l + e) 3 + 1)) 0) h1.1.1).1
    have h2 : IW N (cr_sI C1 2 (2 * l + e) 3 (C1.1 2 (2 * l + e) 3 + 1)) ∧ Po m (cr_sI C1 2 (2 * l + e) 3 (C1.1 2 (2 * l + e) 3 + 1)) = Po m C1 := ⟨⟨iz_num h1.1 (Or.inr (Or.inr ⟨rfl, Or.inl rfl⟩)) hv (fun x => absurd x (by omega)), IW.core h1.2 (fun t (_ : t < 6) => flt_cq C1 (Or.inl rfl) t)⟩, Po_num m C1 (Or.inr (Or.inr ⟨rfl, rfl⟩))⟩
    generalize cr_sI C1 2 (2 * l + e) 3 (C1.1 2 (2 * l + e) 3 + 1) = C2 at *
    obtain ⟨a3, b3⟩ := IW_co2 (m := m) h2.1 he hl b
    generalize cs_E_co2 C2 e l b = C3 at *
    obtain ⟨a4, b4⟩ := IW_co3 (m := m) a3 he hl
    exact ⟨a4, by have := h2.2; omega⟩
theorem iv_c_of {N : Nat} {C : cr_C} (h : iz N C) {s : Nat} (hs : s < 6) (c : C.1 2 s 0 ≠ 0) : iv_c C s := ⟨c, (h.2.1 s hs).2.2.1.2.2.2.2.2.1⟩
