/-! side by side: what a side sends -/
theorem sm_snd {C C' : cr_C} {D D' : rf_C} (h : sm C D) {s : Nat} (hs : s < 6) (hC : ∀ κ i k, ¬ (i = s ∧ (κ = 3 ∨ (κ = 1 ∧ k = 14))) → C'.1 κ i k = C.1 κ i k) (hV : ∀ i, i ≠ s → C'.2.2 i = C.2.2 i) (hX : ∀ r, C'.2.1 r = C.2.1 r)
    (hD : ∀ k j, ¬ (j = s ∧ (k = 16 ∨ (32 ≤ k ∧ k < 42))) → D'.1 k j = D.1 k j) (hX' : ∀ r, D'.2 r = D.2 r) (h14 : C'.1 1 s 14 = 0) (h16 : D'.1 16 s = 0) (hu : sm_U C' D' s) : sm C' D' := by
  obtain ⟨⟨hS1, hS2, hS3⟩, hV', hU, hF, hY⟩ := h.1 s hs
  have c1 : ∀ k, k ≠ 14 → C'.1 1 s k = C.1 1 s k := fun k hk => hC 1 s k (by omega)
  have c2 : ∀ k, C'.1 2 s k = C.1 2 s k := fun k => hC 2 s k (by omega)
  refine h.at ⟨fun κ i k hi => hC κ i k (by omega), fun i hi => hV i hi, fun i _ _ => ⟨hX i, hX (12 + i)⟩⟩ ⟨fun k j _ _ _ _ hj => hD k j (by omega), fun k t i hk _ _ => hD k _ (by omega), fun k j hk => hD k j (by omega), fun i _ _ => hX' (12 + i)⟩ ⟨⟨?_, ?_, ?_⟩, ?_, hu, ?_, ?_⟩ ?_
  · rw [c1 0 (by omega), c1 1 (by omega), c1 2 (by omega), c1 3 (by omega), c1 4 (by omega), c1 5 (by omega), c1 6 (by omega), c1 7 (by omega), c1 8 (by omega), c1 9 (by omega), c1 10 (by omega), c1 11 (by omega), c1 12 (by omega), c1 13 (by omega), hD 12 s (by omega), hD 13 s (by omega), hD 14 s (by omega), hD 15 s (by omega), hD 17 s (by omega), hD 18 s (by omega), hD 19 s (by omega), hD 20 s (by omega), hD 21 s (by omega), hD 22 s (by omega), hD 23 s (by omega), hD 24 s (by omega), hD 25 s (by omega), hD 26 s (by omega)]
    exact hS1
  · intro _
    rw [h14, h16]
  · rw [c1 15 (by omega), hD 27 s (by omega), hX s]
    exact hS3
  · unfold sm_V cr_nb at hV' ⊢
    simp only [c2, hX, hX', hD 42 s (by omega), hD 43 s (by omega), hD 44 s (by omega), hD 45 s (by omega), hD 46 s (by omega), hD 47 s (by omega)]
    exact hV'
  · unfold sm_F at hF ⊢
    simp only [hC 4 s 0 (by omega), hC 4 s 1 (by omega), hD 30 s (by omega), hD 31 s (by omega)]
    exact hF
  · intro i hi
    rw [hC 5 s i (by omega), hC 6 s i (by omega), hD 28 _ (by omega), hD 29 _ (by omega)]
    exact hY i hi
  · intro r hr hr2
    rw [hX, hX']
    exact h.2.1 r hr hr2
/-- a row that is no row of those sent or kept is set on both -/
theorem sm_setrow {C : cr_C} {D : rf_C} (h : sm C D) {r : Nat} (hr : 6 ≤ r) (hr2 : r < 12 ∨ 18 ≤ r) (zs : List cr_m) : sm (cr_sX C r zs) (rf_sX D r (zs.map sm_m)) := by
  refine ⟨fun s hs => ?_, fun q hq hq2 => ?_, h.2.2⟩
  · obtain ⟨hS, hV, hU, hF, hY⟩ := h.1 s hs
    have x1 : (cr_sX C r zs).2.1 s = C.2.1 s := cr_sX_ne _ _ (by omega)
    have x2 : (cr_sX C r zs).2.1 (12 + s) = C.2.1 (12 + s) := cr_sX_ne _ _ (by omega)
    have x3 : (rf_sX D r (zs.map sm_m)).2 (12 + s) = D.2 (12 + s) := rf_sX_ne _ _ (by omega)
    refine ⟨?_, ?_, hU, hF, hY⟩
    · unfold sm_S at hS ⊢
      rw [x1]
      exact hS
    · unfold sm_V at hV ⊢
      rw [x2, x3]
      exact hV
  · by_cases e : q = r
    · subst e
      rw [rf_sX_at, cr_sX_at]
    · rw [cr_sX_ne _ _ e, rf_sX_ne _ _ e]
      exact h.2.1 q hq hq2
theorem cs_fill_I (C : cr_C) (s : Nat) (x : Int32) (κ i k : Nat) (h : ¬ (κ = 3 ∧ i = s)) : (cs_S_fill C s x).1 κ i k = C.1 κ i k := by
  unfold cs_S_fill
  rw [cr_sI_ne _ _ (by omega), cr_sI_ne _ _ (by omega), cr_sI_ne _ _ (by omega), cr_sI_ne _ _ (by omega), cr_sI_ne _ _ (by omega)]
theorem cs_fill_at (C : cr_C) (s : Nat) (x : Int32) : (cs_S_fill C s x).1 3 s 0 = 4 ∧ (cs_S_fill C s x).1 3 s 1 = C.1 3 s 1 ∧ (cs_S_fill C s x).1 3 s 2 = x ∧ (cs_S_fill C s x).1 3 s 3 = C.1 1 s 6 ∧ (cs_S_fill C s x).1 3 s 4 = C.1 1 s 5 ∧ (cs_S_fill C s x).1 3 s 5 = C.1 1 s 7 := by
  unfold cs_S_fill
  refine ⟨?_, ?_, ?_, ?_, ?_, ?_⟩ <;> simp [cr_sI, cr_u]
theorem rs_sn_I (D : rf_C) (s k j : Nat) (h : ¬ (j = s ∧ (k = 16 ∨ (32 ≤ k ∧ k < 42)))) : (rs_snE (rs_sn0 D s) s).1 k j = D.1 k j := by
  unfold rs_snE rs_sn0
  rw [rf_sI_ne _ _ (by omega), rf_sI_ne _ _ (by omega), rf_sI_ne _ _ (by omega), rf_sI_ne _ _ (by omega), rf_sI_ne _ _ (by omega), rf_sI_ne _ _ (by omega), rf_sI_ne _ _ (by omega)]
theorem rs_snE_I (D : rf_C) (s k j : Nat) (h : ¬ (j = s ∧ (35 ≤ k ∧ k < 38))) : (rs_snE D s).1 k j = D.1 k j := by
  unfold rs_snE
  rw [rf_sI_ne _ _ (by omega), rf_sI_ne _ _ (by omega), rf_sI_ne _ _ (by omega)]
theorem rs_snE_at (D : rf_C) (s : Nat) : (rs_snE D s).1 35 s = D.1 19 s ∧ (rs_snE D s).1 36 s = D.1 18 s ∧ (rs_snE D s).1 37 s = D.1 20 s := by
  unfold rs_snE
  refine ⟨?_, ?_, ?_⟩ <;> simp [rf_sI, rf_u]
theorem rs_sn0_at (D : rf_C) (s : Nat) : (rs_sn0 D s).1 32 s = rf_sv D s ∧ (rs_sn0 D s).1 16 s = 0 ∧ (rs_sn0 D s).1 33 s = D.1 14 s ∧ (rs_sn0 D s).1 34 s = D.1 17 s := by
  unfold rs_sn0
  refine ⟨?_, ?_, ?_, ?_⟩ <;> simp [rf_sI, rf_u]
theorem rs_sn0_I (D : rf_C) (s k j : Nat) (h : ¬ (j = s ∧ (k = 16 ∨ (32 ≤ k ∧ k < 35)))) : (rs_sn0 D s).1 k j = D.1 k j := by
  unfold rs_sn0
  rw [rf_sI_ne _ _ (by omega), rf_sI_ne _ _ (by omega), rf_sI_ne _ _ (by omega), rf_sI_ne _ _ (by omega)]
def cs_sn0 (C : cr_C) (s : Nat) : cr_C := cr_sI (cr_sU C s none) 3 s 1 (C.1 1 s 2)
theorem cs_sn0_I (C : cr_C) (s κ i k : Nat) (h : ¬ (κ = 3 ∧ i = s)) : (cs_sn0 C s).1 κ i k = C.1 κ i k := by
  unfold cs_sn0
  rw [cr_sI_ne _ _ (by omega)]
  rfl
theorem cs_sn0_U (C : cr_C) (s i : Nat) (h : i ≠ s) : (cs_sn0 C s).2.2 i = C.2.2 i := if_neg h
theorem cs_sn0_Us (C : cr_C) (s : Nat) : (cs_sn0 C s).2.2 s = none := if_pos rfl
theorem cs_sn0_1 (C : cr_C) (s : Nat) : (cs_sn0 C s).1 3 s 1 = C.1 1 s 2 := cr_sI_at _ _ _ _ _
/-- without a number -/
theorem sm_sform {C : cr_C} {D : rf_C} (h : sm C D) {s : Nat} (hs : s < 6) {x y : Int32} (hf : (x = 0 ∧ y = 0) ∨ (x = 1 ∧ y = 3) ∨ (x = 2 ∧ y = 1) ∨ (x = 3 ∧ y = 2)) (hv : rf_sv D s = y) : sm (cr_sI (cr_sI (cs_sn0 C s) 3 s 0 x) 1 s 14 0) (rs_snE (rs_sn0 D s) s) := by
  have g2 : D.1 14 s = C.1 1 s 2 := h.g (k := 2) hs (by omega)
  refine sm_snd h hs (fun κ i k hne => ?_) (fun i hi => cs_sn0_U C s i hi) (fun _ => rfl) (fun k j hne => rs_sn_I D s k j hne) (fun _ => rfl) (cr_sI_at _ _ _ _ _) ?_ ?_
  · rw [cr_sI_ne _ _ (by omega), cr_sI_ne _ _ (by omega), cs_sn0_I _ _ _ _ _ (by omega)]
  · rw [rs_snE_I _ _ _ _ (by omega), (rs_sn0_at D s).2.1]
  · have e0 : (cr_sI (cr_sI (cs_sn0 C s) 3 s 0 x) 1 s 14 0).1 3 s 0 = x := by rw [cr_sI_ne _ _ (by omega), cr_sI_at]
    have e1 : (cr_sI (cr_sI (cs_sn0 C s) 3 s 0 x) 1 s 14 0).1 3 s 1 = C.1 1 s 2 := by rw [cr_sI_ne _ _ (by omega), cr_sI_ne _ _ (by omega), cs_sn0_1]
    have d0 : (rs_snE (rs_sn0 D s) s).1 32 s = y := by rw [rs_snE_I _ _ _ _ (by omega), (rs_sn0_at D s).1, hv]
    have d1 : (rs_snE (rs_sn0 D s) s).1 33 s = D.1 14 s := by rw [rs_snE_I _ _ _ _ (by omega), (rs_sn0_at D s).2.2.1]
    unfold sm_U
    rw [e0, e1, d0, d1]
    refine ⟨g2, ?_⟩
    rcases hf with ⟨a, b⟩ | ⟨a, b⟩ | ⟨a, b⟩ | ⟨a, b⟩
    · exact Or.inl ⟨a, b⟩
    · exact Or.inr (Or.inl ⟨a, b⟩)
    · exact Or.inr (Or.inr (Or.inl ⟨a, b⟩))
    · exact Or.inr (Or.inr (Or.inr (Or.inl ⟨a, b⟩)))
/-- a fill -/
theorem sm_sfill {C : cr_C} {D : rf_C} (h : sm C D) {s : Nat} (hs : s < 6) (hv : rf_sv D s = 4) : sm (cr_sI (cs_S_fill (cs_sn0 C s) s (C.1 1 s 4)) 1 s 14 0) (rs_snE (rs_sn0 D s) s) := by
  have g2 : D.1 14 s = C.1 1 s 2 := h.g (k := 2) hs (by omega)
  have g4 : D.1 17 s = C.1 1 s 4 := h.g (k := 4) hs (by omega)
  have g5 : D.1 18 s = C.1 1 s 5 := h.g (k := 5) hs (by omega)
  have g6 : D.1 19 s = C.1 1 s 6 := h.g (k := 6) hs (by omega)
  have g7 : D.1 20 s = C.1 1 s 7 := h.g (k := 7) hs (by omega)
  refine sm_snd h hs (fun κ i k hne => ?_) (fun i hi => cs_sn0_U C s i hi) (fun _ => rfl) (fun k j hne => rs_sn_I D s k j hne) (fun _ => rfl) (cr_sI_at _ _ _ _ _) ?_ ?_
  · rw [cr_sI_ne _ _ (by omega), cs_fill_I _ _ _ _ _ _ (by omega), cs_sn0_I _ _ _ _ _ (by omega)]
  · rw [rs_snE_I _ _ _ _ (by omega), (rs_sn0_at D s).2.1]
  · obtain ⟨f0, f1, f2, f3, f4, f5⟩ := cs_fill_at (cs_sn0 C s) s (C.1 1 s 4)
    obtain ⟨n32, n16, n33, n34⟩ := rs_sn0_at D s
    obtain ⟨E35, E36, E37⟩ := rs_snE_at (rs_sn0 D s) s
    have c3 : ∀ k, (cr_sI (cs_S_fill (cs_sn0 C s) s (C.1 1 s 4)) 1 s 14 0).1 3 s k = (cs_S_fill (cs_sn0 C s) s (C.1 1 s 4)).1 3 s k := fun k => cr_sI_ne _ _ (by omega)
    have cu : (cr_sI (cs_S_fill (cs_sn0 C s) s (C.1 1 s 4)) 1 s 14 0).2.2 s = none := cs_sn0_Us C s
    unfold sm_U
    rw [c3, c3, c3, c3, c3, c3, cu, f0, f1, f2, f3, f4, f5, cs_sn0_1, cs_sn0_I _ _ _ _ _ (by omega), cs_sn0_I _ _ _ _ _ (by omega), cs_sn0_I _ _ _ _ _ (by omega), rs_snE_I _ _ 33 _ (by omega), rs_snE_I _ _ 34 _ (by omega), rs_snE_I _ _ 32 _ (by omega), E35, E36, E37, n32, n33, n34, rs_sn0_I _ _ 19 _ (by omega), rs_sn0_I _ _ 18 _ (by omega), rs_sn0_I _ _ 20 _ (by omega)]
    exact ⟨g2, Or.inr (Or.inr (Or.inr (Or.inr ⟨rfl, g4, g6, g5, g7, Or.inl ⟨rfl, hv⟩⟩)))⟩
/-- a message -/
theorem sm_smsg {C1 Ca : cr_C} {D1 Da : rf_C} {s : Nat} (hs : s < 6) (μ : cr_m) {x y : Int32} (h : sm C1 D1) (hxy : y = x) (g2 : D1.1 14 s = C1.1 1 s 2)
    (hCa : ∀ κ i k, ¬ (i = s ∧ κ = 3) → Ca.1 κ i k = C1.1 κ i k) (hC1 : Ca.1 3 s 1 = C1.1 1 s 2) (hVa : ∀ i, i ≠ s → Ca.2.2 i = C1.2.2 i) (hVs : Ca.2.2 s = some μ) (hXa : ∀ r, Ca.2.1 r = C1.2.1 r)
    (hDa : ∀ k j, ¬ (j = s ∧ (k = 16 ∨ (32 ≤ k ∧ k < 42))) → Da.1 k j = D1.1 k j) (hXd : ∀ r, Da.2 r = D1.2 r) (d16 : Da.1 16 s = 0) (d33 : Da.1 33 s = D1.1 14 s) (d32 : Da.1 32 s = 5) (d34 : Da.1 34 s = y) (d38 : Da.1 38 s = (sm_m μ).1) (d39 : Da.1 39 s = (sm_m μ).2.1) (d40 : Da.1 40 s = (sm_m μ).2.2.1) (d41 : Da.1 41 s = (sm_m μ).2.2.2.1) :
    sm (cr_sI (cs_S_fill Ca s x) 1 s 14 0) (rs_snE Da s) := by
  have g5 : D1.1 18 s = C1.1 1 s 5 := h.g (k := 5) hs (by omega)
  have g6 : D1.1 19 s = C1.1 1 s 6 := h.g (k := 6) hs (by omega)
  have g7 : D1.1 20 s = C1.1 1 s 7 := h.g (k := 7) hs (by omega)
  refine sm_snd h hs (fun κ i k hne => ?_) (fun i hi => hVa i hi) (fun r => hXa r) (fun k j hne => ?_) (fun r => hXd r) (cr_sI_at _ _ _ _ _) ?_ ?_
  · rw [cr_sI_ne _ _ (by omega), cs_fill_I _ _ _ _ _ _ (by omega), hCa _ _ _ (by omega)]
  · rw [rs_snE_I _ _ _ _ (by omega), hDa _ _ hne]
  · rw [rs_snE_I _ _ _ _ (by omega), d16]
  · obtain ⟨f0, f1, f2, f3, f4, f5⟩ := cs_fill_at Ca s x
    obtain ⟨E35, E36, E37⟩ := rs_snE_at Da s
    have c3 : ∀ k, (cr_sI (cs_S_fill Ca s x) 1 s 14 0).1 3 s k = (cs_S_fill Ca s x).1 3 s k := fun k => cr_sI_ne _ _ (by omega)
    have cu : (cr_sI (cs_S_fill Ca s x) 1 s 14 0).2.2 s = some μ := hVs
    unfold sm_U
    rw [c3, c3, c3, c3, c3, c3, cu, f0, f1, f2, f3, f4, f5, hC1, hCa _ _ _ (by omega), hCa _ _ _ (by omega), hCa _ _ _ (by omega), rs_snE_I _ _ 33 _ (by omega), rs_snE_I _ _ 34 _ (by omega), rs_snE_I _ _ 32 _ (by omega), rs_snE_I _ _ 38 _ (by omega), rs_snE_I _ _ 39 _ (by omega), rs_snE_I _ _ 40 _ (by omega), rs_snE_I _ _ 41 _ (by omega), E35, E36, E37, d32, d33, d34, d38, d39, d40, d41, hDa 19 _ (by omega), hDa 18 _ (by omega), hDa 20 _ (by omega)]
    exact ⟨g2, Or.inr (Or.inr (Or.inr (Or.inr ⟨rfl, hxy, g6, g5, g7, Or.inr ⟨μ, rfl, rfl, rfl, rfl, rfl, rfl⟩⟩)))⟩
theorem cs_send_eq (C : cr_C) (s : Nat) : cs_S_send C s = if C.1 1 s 0 = 1 then cr_sI (cr_sI (cs_sn0 C s) 3 s 0 2) 1 s 14 0 else if C.1 1 s 0 = 2 then cr_sI (cr_sI (cs_sn0 C s) 3 s 0 3) 1 s 14 0 else if C.1 1 s 0 = 3 then cr_sI (cs_S_sendNumbered (cs_sn0 C s) s) 1 s 14 0 else if C.1 1 s 0 = 4 then cr_sI (cs_S_sendNumbered (cs_sn0 C s) s) 1 s 14 0 else if C.1 1 s 14 = 0 then cr_sI (cr_sI (cs_sn0 C s) 3 s 0 0) 1 s 14 0 else cr_sI (cr_sI (cs_sn0 C s) 3 s 0 1) 1 s 14 0 := by
  have e0 : (cs_sn0 C s).1 1 s 0 = C.1 1 s 0 := cs_sn0_I _ _ _ _ _ (by omega)
  have e14 : (cs_sn0 C s).1 1 s 14 = C.1 1 s 14 := cs_sn0_I _ _ _ _ _ (by omega)
  rw [← e0, ← e14]
  rfl
theorem cs_num_eq (C : cr_C) (s : Nat) : cs_S_sendNumbered (cs_sn0 C s) s = if C.1 1 s 15 ≤ 0 then cs_S_new (cs_sn0 C s) s else if Int32.ofNat (C.2.1 s).length < C.1 1 s 15 then cs_S_new (cs_sn0 C s) s else cs_S_again (cs_sn0 C s) s := by
  have e15 : (cs_sn0 C s).1 1 s 15 = C.1 1 s 15 := cs_sn0_I _ _ _ _ _ (by omega)
  rw [← e15]
  rfl
theorem nI_dn {a b : Nat} (h : a ≤ b) : Int32.ofNat (b - a) = Int32.ofNat b - Int32.ofNat a := by
  have e : Int32.ofNat b = Int32.ofNat (b - a) + Int32.ofNat a := by
    rw [show Int32.ofNat (b - a) + Int32.ofNat a = Int32.ofNat (b - a + a) from nI_add (b - a) a, Nat.sub_add_cancel h]
  rw [e]
  grind
theorem sm_snew {C : cr_C} {D : rf_C} (h : sm C D) {s : Nat} (hs : s < 6) (hv : rf_sv D s = 4) (h5 : (C.2.1 s).length ≤ 5) (ha : D.1 27 s = Int32.ofNat (C.2.1 s).length) : sm (cr_sI (cs_S_new (cs_sn0 C s) s) 1 s 14 0) (rs_snE (rs_new (rs_sn0 D s) s) s) := by
  have g2 : D.1 14 s = C.1 1 s 2 := h.g (k := 2) hs (by omega)
  have g4 : D.1 17 s = C.1 1 s 4 := h.g (k := 4) hs (by omega)
  have hrow := h.2.1 s (by omega) (by omega)
  have hrow6 := h.2.1 (6 + s) (by omega) (by omega)
  have hlen : (D.2 s).length = (C.2.1 s).length := by rw [hrow, List.length_map]
  have e4 : (cs_sn0 C s).1 1 s 4 = C.1 1 s 4 := cs_sn0_I _ _ _ _ _ (by omega)
  have eX : ∀ r, (cs_sn0 C s).2.1 r = C.2.1 r := fun _ => rfl
  have dX : ∀ r, (rs_sn0 D s).2 r = D.2 r := fun _ => rfl
  unfold cs_S_new rs_new
  rw [e4, eX, eX, dX, dX, hrow6]
  cases hq : C.2.1 (6 + s) with
  | nil =>
    rw [if_neg (show ¬ cr_e [] = 0 by unfold cr_e; rw [if_pos rfl]; decide)]
    exact sm_sfill h hs hv
  | cons μ q =>
    rw [if_pos (show cr_e (μ :: q) = 0 by unfold cr_e; rw [if_neg (by simp)]), hlen]
    show sm _ (rs_snE (if 5 ≤ Int32.ofNat (C.2.1 s).length then rs_sn0 D s else rs_first (rs_sn0 D s) s (sm_m μ) (q.map sm_m)) s)
    by_cases c5 : 5 ≤ Int32.ofNat (C.2.1 s).length
    · rw [if_pos c5, if_pos c5]
      exact sm_sfill h hs hv
    · rw [if_neg c5, if_neg c5]
      have k1 := sm_setrow h (r := 6 + s) (by omega) (by omega) q
      have k2 := sm_row k1 hs (C.2.1 s ++ [μ]) (a := (C.2.1 s).length + 1) (by rw [List.length_append]; exact Nat.le_refl _) rfl rfl
      have k3 : sm (cr_sI (cr_sI (cr_sX (cr_sX C (6 + s) q) s (C.2.1 s ++ [μ])) 1 s 15 (Int32.ofNat ((C.2.1 s ++ [μ]).length - ((C.2.1 s).length + 1)))) 1 s 4 (Int32.ofNat (cr_f8 (C.1 1 s 4 + 1)))) (rf_sI (rf_sI (rf_sX (rf_sX D (6 + s) (q.map sm_m)) s ((C.2.1 s ++ [μ]).map sm_m)) 27 s (Int32.ofNat ((C.2.1 s).length + 1))) 17 s (Int32.ofNat (cr_f8 (C.1 1 s 4 + 1)))) := sm_up k2 (k := 4) hs (by omega) (by omega) (Int32.ofNat (cr_f8 (C.1 1 s 4 + 1)))
      obtain ⟨a, a1, a2, a3⟩ := (h.1 s hs).1.2.2
      have ea : a = (C.2.1 s).length := by
        rw [ha] at a2
        have := (nI_eq (a := (C.2.1 s).length) (b := a) (by omega) (by omega)).mp a2
        omega
      have e15 : C.1 1 s 15 = Int32.ofNat ((C.2.1 s ++ [μ]).length - ((C.2.1 s).length + 1)) := by
        rw [a3, ea, List.length_append, List.length_singleton, Nat.sub_self, Nat.sub_self]
      have eC : cs_S_first (cs_sn0 C s) s = cs_S_fill (cr_sI (cr_sX (cr_sU (cr_sX (cs_sn0 C s) (6 + s) q) s (some μ)) s (C.2.1 s ++ [μ])) 1 s 4 (Int32.ofNat (cr_f8 (C.1 1 s 4 + 1)))) s (Int32.ofNat (cr_f8 (C.1 1 s 4 + 1))) := by
        unfold cs_S_first
        rw [e4, eX, eX, hq]
        rfl
      rw [eC]
      unfold rs_first
      have d17 : (rs_sn0 D s).1 17 s = C.1 1 s 4 := (rs_sn0_I _ _ _ _ (by omega)).trans g4
      have d27 : (rs_sn0 D s).1 27 s = Int32.ofNat (C.2.1 s).length := (rs_sn0_I _ _ _ _ (by omega)).trans ha
      have ef : (rs_sn0 D s).1 17 s + 1 &&& 7 = Int32.ofNat (cr_f8 (C.1 1 s 4 + 1)) := by rw [d17, ms_and7]
      rw [ef]
      refine sm_smsg hs μ k3 rfl ?_ (fun κ i k hne => ?_) ?_ (fun i hi => ?_) ?_ (fun r => ?_) (fun k j hne => ?_) (fun r => ?_) ?_ ?_ ?_ ?_ ?_ ?_ ?_ ?_
      · exact k3.g (k := 2) hs (by omega)
      · by_cases c4 : κ = 1 ∧ i = s ∧ k = 4
        · obtain ⟨rfl, rfl, rfl⟩ := c4
          rw [cr_sI_at, cr_sI_at]
        · rw [cr_sI_ne _ _ (by omega), cr_sI_ne _ _ (by omega)]
          show (cs_sn0 C s).1 κ i k = _
          rw [cs_sn0_I _ _ _ _ _ (by omega)]
          by_cases c15 : κ = 1 ∧ i = s ∧ k = 15
          · obtain ⟨rfl, rfl, rfl⟩ := c15
            rw [cr_sI_at]
            exact e15
          · rw [cr_sI_ne _ _ (by omega)]
            rfl
      · rw [cr_sI_ne _ _ (by omega), cr_sI_ne _ _ (by omega), cr_sI_ne _ _ (by omega)]
        exact cs_sn0_1 C s
      · show (if i = s then some μ else (cs_sn0 C s).2.2 i) = C.2.2 i
        rw [if_neg hi]
        exact cs_sn0_U C s i hi
      · show (if s = s then some μ else (cs_sn0 C s).2.2 s) = some μ
        rw [if_pos rfl]
      · show (if r = s then C.2.1 s ++ [μ] else if r = 6 + s then q else C.2.1 r) = (if r = s then C.2.1 s ++ [μ] else if r = 6 + s then q else C.2.1 r)
        rfl
      · unfold rs_D_carry rs_fi1 rs_fi0
        rw [ef]
        have z : ∀ (E : rf_C) (k j : Nat), (rs_put E s (sm_m μ)).1 k j = E.1 k j := fun _ _ _ => rfl
        have z2 : ∀ (E : rf_C) (zs : List rf_m) (r k j : Nat), (rf_sX E r zs).1 k j = E.1 k j := fun _ _ _ _ _ => rfl
        rw [rf_sI_ne _ _ (by omega), rf_sI_ne _ _ (by omega), rf_sI_ne _ _ (by omega), rf_sI_ne _ _ (by omega), rf_sI_ne _ _ (by omega), rf_sI_ne _ _ (by omega)]
        by_cases c27 : k = 27 ∧ j = s
        · obtain ⟨rfl, rfl⟩ := c27
          rw [rf_sI_at, rf_sI_ne _ _ (by omega), z2, d27, rf_sI_ne _ _ (by omega), rf_sI_at]
          exact nI_1 _
        · rw [rf_sI_ne _ _ c27, z]
          by_cases c17 : k = 17 ∧ j = s
          · obtain ⟨rfl, rfl⟩ := c17
            rw [rf_sI_at]
            exact (rf_sI_at _ _ _ _).symm
          · rw [rf_sI_ne _ _ c17, z2, rs_sn0_I _ _ _ _ (by omega)]
            rw [rf_sI_ne _ _ (fun e => c17 e), rf_sI_ne _ _ c27]
            rfl
      · show (if r = s then (if s = 6 + s then q.map sm_m else D.2 s) ++ [sm_m μ] else if r = 6 + s then q.map sm_m else D.2 r) = (if r = s then (C.2.1 s ++ [μ]).map sm_m else if r = 6 + s then q.map sm_m else D.2 r)
        rw [if_neg (show ¬ s = 6 + s by omega), hrow, List.map_append]
        rfl
      · unfold rs_D_carry rs_fi1 rs_fi0
        rw [rf_sI_ne _ _ (by omega), rf_sI_ne _ _ (by omega), rf_sI_ne _ _ (by omega), rf_sI_ne _ _ (by omega), rf_sI_ne _ _ (by omega), rf_sI_ne _ _ (by omega), rf_sI_ne _ _ (by omega)]
        rw [show ∀ (E : rf_C) (k j : Nat), (rs_put E s (sm_m μ)).1 k j = E.1 k j from fun _ _ _ => rfl, rf_sI_ne _ _ (by omega)]
        exact (rs_sn0_at D s).2.1
      · unfold rs_D_carry rs_fi1 rs_fi0
        rw [rf_sI_ne _ _ (by omega), rf_sI_ne _ _ (by omega), rf_sI_ne _ _ (by omega), rf_sI_ne _ _ (by omega), rf_sI_ne _ _ (by omega), rf_sI_ne _ _ (by omega), rf_sI_ne _ _ (by omega)]
        rw [show ∀ (E : rf_C) (k j : Nat), (rs_put E s (sm_m μ)).1 k j = E.1 k j from fun _ _ _ => rfl, rf_sI_ne _ _ (by omega)]
        show (rs_sn0 D s).1 33 s = _
        rw [(rs_sn0_at D s).2.2.1, rf_sI_ne _ _ (by omega), rf_sI_ne _ _ (by omega)]
        rfl
      · unfold rs_D_carry
        simp [rf_sI, rf_u]
      · unfold rs_D_carry
        simp [rf_sI, rf_u]
      · unfold rs_D_carry
        simp [rf_sI, rf_u, rf_mk]
      · unfold rs_D_carry
        simp [rf_sI, rf_u, rf_mk]
      · unfold rs_D_carry
        simp [rf_sI, rf_u, rf_mk]
      · unfold rs_D_carry
        simp [rf_sI, rf_u, rf_mk]
theorem sm_sagain {C : cr_C} {D : rf_C} (h : sm C D) {s a : Nat} (hs : s < 6) (h5 : (C.2.1 s).length ≤ 5) (ha : D.1 27 s = Int32.ofNat a) (hal : a < (C.2.1 s).length) (hd : C.1 1 s 15 = Int32.ofNat ((C.2.1 s).length - a)) : sm (cr_sI (cs_S_again (cs_sn0 C s) s) 1 s 14 0) (rs_snE (rs_again (rs_sn0 D s) s) s) := by
  have g4 : D.1 17 s = C.1 1 s 4 := h.g (k := 4) hs (by omega)
  have hrow := h.2.1 s (by omega) (by omega)
  have hlen : (D.2 s).length = (C.2.1 s).length := by rw [hrow, List.length_map]
  have e4 : (cs_sn0 C s).1 1 s 4 = C.1 1 s 4 := cs_sn0_I _ _ _ _ _ (by omega)
  have e15 : (cs_sn0 C s).1 1 s 15 = Int32.ofNat ((C.2.1 s).length - a) := (cs_sn0_I _ _ _ _ _ (by omega)).trans hd
  have eX : ∀ r, (cs_sn0 C s).2.1 r = C.2.1 r := fun _ => rfl
  have dX : ∀ r, (rs_sn0 D s).2 r = D.2 r := fun _ => rfl
  have d17 : (rs_sn0 D s).1 17 s = C.1 1 s 4 := (rs_sn0_I _ _ _ _ (by omega)).trans g4
  have d27 : (rs_sn0 D s).1 27 s = Int32.ofNat a := (rs_sn0_I _ _ _ _ (by omega)).trans ha
  obtain ⟨μ, hμ⟩ : ∃ μ, (C.2.1 s)[a]? = some μ := ⟨_, List.getElem?_eq_getElem hal⟩
  have k1 := sm_row h hs (C.2.1 s) (a := a + 1) (by omega) rfl rfl
  rw [cr_sX_same, ← hrow, rf_sX_same] at k1
  have em : Int32.ofNat ((C.2.1 s).length - a) - 1 = Int32.ofNat ((C.2.1 s).length - (a + 1)) := by
    rw [show (C.2.1 s).length - (a + 1) = ((C.2.1 s).length - a) - 1 by omega]
    exact (nI_dn (a := 1) (by omega)).symm
  have eC : cs_S_again (cs_sn0 C s) s = cs_S_fill (cr_sI (cr_sU (cs_sn0 C s) s (some μ)) 1 s 15 (Int32.ofNat ((C.2.1 s).length - (a + 1)))) s (Int32.ofNat (cr_f8 (C.1 1 s 4 - Int32.ofNat ((C.2.1 s).length - a) + 1))) := by
    unfold cs_S_again
    rw [e4, eX, e15, ev_cl _ (by omega), show (C.2.1 s).length - ((C.2.1 s).length - a) = a by omega, hμ, em]
  have eat : rf_at (rs_sn0 D s) s (rf_ag (rs_sn0 D s) s) = sm_m μ := by
    unfold rf_at rf_ag
    rw [d27, ev_cl _ (by omega), dX, hrow, List.getElem?_map, hμ]
    rfl
  have ey : ((rs_sn0 D s).1 17 s - Int32.ofNat ((rs_sn0 D s).2 s).length + 1 + (rs_sn0 D s).1 27 s) &&& 7 = Int32.ofNat (cr_f8 (C.1 1 s 4 - Int32.ofNat ((C.2.1 s).length - a) + 1)) := by
    rw [d17, d27, dX, hlen, ms_and7, nI_dn (show a ≤ (C.2.1 s).length by omega)]
    congr 2
    grind
  rw [eC]
  unfold rs_again
  rw [eat, ey, d27, show Int32.ofNat a + 1 = Int32.ofNat (a + 1) from nI_1 a]
  refine sm_smsg hs μ k1 rfl ?_ (fun κ i k hne => ?_) ?_ (fun i hi => ?_) ?_ (fun r => rfl) (fun k j hne => ?_) (fun r => rfl) ?_ ?_ ?_ ?_ ?_ ?_ ?_ ?_
  · exact k1.g (k := 2) hs (by omega)
  · by_cases c15 : κ = 1 ∧ i = s ∧ k = 15
    · obtain ⟨rfl, rfl, rfl⟩ := c15
      rw [cr_sI_at, cr_sI_at]
    · rw [cr_sI_ne _ _ (by omega), cr_sI_ne _ _ (by omega)]
      exact cs_sn0_I _ _ _ _ _ (by omega)
  · rw [cr_sI_ne _ _ (by omega), cr_sI_ne _ _ (by omega)]
    exact cs_sn0_1 C s
  · show (if i = s then some μ else (cs_sn0 C s).2.2 i) = C.2.2 i
    rw [if_neg hi]
    exact cs_sn0_U C s i hi
  · show (if s = s then some μ else (cs_sn0 C s).2.2 s) = some μ
    rw [if_pos rfl]
  · unfold rs_D_carry
    by_cases c27 : k = 27 ∧ j = s
    · obtain ⟨rfl, rfl⟩ := c27
      rw [rf_sI_at, rf_sI_at]
    · rw [rf_sI_ne _ _ c27, rf_sI_ne _ _ (by omega), rf_sI_ne _ _ (by omega), rf_sI_ne _ _ (by omega), rf_sI_ne _ _ (by omega), rf_sI_ne _ _ (by omega), rf_sI_ne _ _ (by omega), rs_sn0_I _ _ _ _ (by omega), rf_sI_ne _ _ c27]
  · unfold rs_D_carry
    rw [rf_sI_ne _ _ (by omega), rf_sI_ne _ _ (by omega), rf_sI_ne _ _ (by omega), rf_sI_ne _ _ (by omega), rf_sI_ne _ _ (by omega), rf_sI_ne _ _ (by omega), rf_sI_ne _ _ (by omega)]
    exact (rs_sn0_at D s).2.1
  · unfold rs_D_carry
    rw [rf_sI_ne _ _ (by omega), rf_sI_ne _ _ (by omega), rf_sI_ne _ _ (by omega), rf_sI_ne _ _ (by omega), rf_sI_ne _ _ (by omega), rf_sI_ne _ _ (by omega), rf_sI_ne _ _ (by omega), (rs_sn0_at D s).2.2.1, rf_sI_ne _ _ (by omega)]
  · unfold rs_D_carry
    simp [rf_sI, rf_u]
  · unfold rs_D_carry
    simp [rf_sI, rf_u]
  · unfold rs_D_carry
    simp [rf_sI, rf_u, rf_mk]
  · unfold rs_D_carry
    simp [rf_sI, rf_u, rf_mk]
  · unfold rs_D_carry
    simp [rf_sI, rf_u, rf_mk]
  · unfold rs_D_carry
    simp [rf_sI, rf_u, rf_mk]
theorem sm_send {C : cr_C} {D : rf_C} (h : sm C D) {s : Nat} (hs : s < 6) (hst : nb (C.1 1 s 0) 5) (hi : iv_s C s) : sm (cs_S_send C s) (rs_send D s) := by
  have g0 : D.1 12 s = C.1 1 s 0 := h.g (k := 0) hs (by omega)
  obtain ⟨i1, i2, -⟩ := hi
  have hrow := h.2.1 s (by omega) (by omega)
  have hlen : (D.2 s).length = (C.2.1 s).length := by rw [hrow, List.length_map]
  obtain ⟨a, a1, a2, a3⟩ := (h.1 s hs).1.2.2
  have hs2 := (h.1 s hs).1.2.1
  obtain ⟨x, hx, ex⟩ := hst
  rw [cs_send_eq]
  unfold rs_send
  rw [g0]
  rcases (show x = 0 ∨ x = 1 ∨ x = 2 ∨ x = 3 ∨ x = 4 by omega) with rfl | rfl | rfl | rfl | rfl
  · have c : C.1 1 s 0 = 0 := ex
    have hf := hs2 c
    rw [c, if_neg (show ¬ (0 : Int32) = 1 by decide), if_neg (show ¬ (0 : Int32) = 2 by decide), if_neg (show ¬ (0 : Int32) = 3 by decide), if_neg (show ¬ (0 : Int32) = 4 by decide), if_neg (show ¬ (0 : Int32) = 4 by decide)]
    by_cases cf : C.1 1 s 14 = 0
    · rw [if_pos cf]
      exact sm_sform h hs (Or.inl ⟨rfl, rfl⟩) (by unfold rf_sv; rw [g0, if_pos c, hf, if_pos cf])
    · rw [if_neg cf]
      exact sm_sform h hs (Or.inr (Or.inl ⟨rfl, rfl⟩)) (by unfold rf_sv; rw [g0, if_pos c, hf, if_neg cf])
  · have c : C.1 1 s 0 = 1 := ex
    rw [if_pos c, if_neg (show ¬ C.1 1 s 0 = 4 by rw [c]; decide)]
    exact sm_sform h hs (Or.inr (Or.inr (Or.inl ⟨rfl, rfl⟩))) (by unfold rf_sv; rw [g0, c, if_neg (by decide), if_pos rfl])
  · have c : C.1 1 s 0 = 2 := ex
    rw [c, if_neg (by decide), if_pos rfl, if_neg (by decide)]
    exact sm_sform h hs (Or.inr (Or.inr (Or.inr ⟨rfl, rfl⟩))) (by unfold rf_sv; rw [g0, c, if_neg (by decide), if_neg (by decide), if_pos rfl])
  · have c : C.1 1 s 0 = 3 := ex
    have hv : rf_sv D s = 4 := by unfold rf_sv; rw [g0, c, if_neg (by decide), if_neg (by decide), if_neg (by decide)]
    rw [c, if_neg (by decide), if_neg (by decide), if_pos rfl, if_neg (by decide), cs_num_eq]
    obtain ⟨x1, x2⟩ := i1 (by rw [c]; decide)
    have hd0 : C.1 1 s 15 ≤ 0 := by
      rw [a3, x1]
      show Int32.ofNat (0 - a) ≤ 0
      rw [Nat.zero_sub]
      decide
    rw [if_pos hd0]
    unfold cs_S_new
    rw [show (cs_sn0 C s).2.1 (6 + s) = [] from x2, if_neg (show ¬ cr_e [] = 0 by unfold cr_e; rw [if_pos rfl]; decide), show (cs_sn0 C s).1 1 s 4 = C.1 1 s 4 from cs_sn0_I _ _ _ _ _ (by omega)]
    exact sm_sfill h hs hv
  · have c : C.1 1 s 0 = 4 := ex
    have hv : rf_sv D s = 4 := by unfold rf_sv; rw [g0, c, if_neg (by decide), if_neg (by decide), if_neg (by decide)]
    rw [c, if_neg (by decide), if_neg (by decide), if_neg (by decide), if_pos rfl, if_pos rfl, cs_num_eq]
    unfold rs_sn1
    rw [show (rs_sn0 D s).1 27 s = Int32.ofNat a from (rs_sn0_I _ _ _ _ (by omega)).trans a2, show ((rs_sn0 D s).2 s).length = (C.2.1 s).length from hlen, a3]
    by_cases ca : a < (C.2.1 s).length
    · rw [if_neg (show ¬ Int32.ofNat ((C.2.1 s).length - a) ≤ 0 from nI_nle (by omega) (by omega)), if_neg (i_nlt (by omega) (by omega)), if_neg (i_ge ca (by omega))]
      exact sm_sagain h hs i2 a2 ca a3
    · have ea : a = (C.2.1 s).length := by omega
      rw [if_pos (show Int32.ofNat ((C.2.1 s).length - a) ≤ 0 by rw [ea, Nat.sub_self]; decide), if_pos (i_le (by omega) (by omega))]
      exact sm_snew h hs hv i2 (by rw [a2, ea])
