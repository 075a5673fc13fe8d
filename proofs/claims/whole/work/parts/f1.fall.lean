/-! the invariant: what it reads; a side falls -/
theorem iA.of {C C' : cr_C} {s : Nat} (h : iA C s) (e : ∀ k, k = 0 ∨ k = 1 ∨ (8 ≤ k ∧ k ≤ 13) → C'.1 1 s k = C.1 1 s k) : iA C' s := by
  unfold iA at h ⊢
  rw [e 0 (by omega), e 1 (by omega), e 8 (by omega), e 9 (by omega), e 10 (by omega), e 11 (by omega), e 12 (by omega), e 13 (by omega)]
  exact h
theorem iB.of {N : Nat} {C C' : cr_C} {s : Nat} (h : iB N C s) (e : ∀ k, k = 0 ∨ (2 ≤ k ∧ k ≤ 5) → C'.1 1 s k = C.1 1 s k) (u : C'.1 3 s 1 = C.1 3 s 1) : iB N C' s := by
  unfold iB at h ⊢
  rw [e 0 (by omega), e 2 (by omega), e 3 (by omega), e 4 (by omega), e 5 (by omega), u]
  exact h
theorem iD.of {N : Nat} {C C' : cr_C} {s : Nat} (h : iD N C s) (e : ∀ k, k ≠ 1 → k ≠ 3 → C'.1 2 s k = C.1 2 s k) (m : ∀ i, C'.1 6 s i = C.1 6 s i) (x : C'.2.1 (12 + s) = C.2.1 (12 + s)) : iD N C' s := by
  unfold iD cr_nb at h ⊢
  rw [e 0 (by omega) (by omega), e 2 (by omega) (by omega), e 4 (by omega) (by omega), e 5 (by omega) (by omega), e 6 (by omega) (by omega), e 7 (by omega) (by omega), x]
  simp only [m]
  exact h
theorem iE.of {C C' : cr_C} {s : Nat} (h : iE C s) (e : C'.1 1 s 0 = C.1 1 s 0) (x : C'.2.1 s = C.2.1 s) (x6 : C.1 1 s 0 ≠ 4 → C'.2.1 (6 + s) = C.2.1 (6 + s)) (f : C'.1 4 s 1 = C.1 4 s 1) : iE C' s := by
  unfold iE at h ⊢
  rw [e, x, f]
  refine ⟨fun c => ?_, h.2⟩
  rw [x6 c]
  exact h.1 c
/-- what of a side the others may see -/
def cq (C C' : cr_C) (t : Nat) : Prop := C'.1 1 t 0 = C.1 1 t 0 ∧ C'.1 1 t 4 = C.1 1 t 4 ∧ C'.1 1 t 5 = C.1 1 t 5 ∧ (∀ k, C'.1 3 t k = C.1 3 t k) ∧ C'.2.2 t = C.2.2 t ∧ C'.2.1 t = C.2.1 t
theorem cq.refl (C : cr_C) (t : Nat) : cq C C t := ⟨rfl, rfl, rfl, fun _ => rfl, rfl, rfl⟩
theorem q1.of {C C' : cr_C} {s : Nat} (h : q1 C s) (a : cq C C' s) (b : cq C C' (ot s)) : q1 C' s := by
  obtain ⟨a0, a4, a5, a3, aU, aX⟩ := a
  obtain ⟨b0, b4, b5, b3, bU, bX⟩ := b
  unfold q1 pr dd jj at h ⊢
  rw [a0, a4, a3 0, a3 2, aU, aX, b0, b5]
  exact h
theorem q2.of {k : Nat} {C C' : cr_C} {s : Nat} (h : q2 k C s) (a : cq C C' s) (b : cq C C' (ot s)) : q2 k C' s := by
  obtain ⟨a0, a4, a5, a3, aU, aX⟩ := a
  obtain ⟨b0, b4, b5, b3, bU, bX⟩ := b
  unfold q2 at h ⊢
  rw [a0, a5, a3 0, a3 4, aU, b3 0]
  exact h
theorem un_of {C C' : cr_C} {s : Nat} (a : cq C C' s) (b : cq C C' (ot s)) : un C' s = un C s := by
  obtain ⟨a0, a4, a5, a3, aU, aX⟩ := a
  obtain ⟨b0, b4, b5, b3, bU, bX⟩ := b
  unfold un pr dd
  rw [a0, a4, aX, b0, b5]
theorem um_of {C C' : cr_C} {k s : Nat} (a : cq C C' s) : um C' k s = um C k s := by
  obtain ⟨a0, a4, a5, a3, aU, aX⟩ := a
  unfold um
  rw [a0, a3 0, aU]
theorem be_of {C C' : cr_C} {s : Nat} (a : C'.1 1 s 0 = C.1 1 s 0) (b : C'.1 1 s 1 = C.1 1 s 1) : be C' s = be C s := by
  unfold be
  rw [a, b]
theorem cg_of {C C' : cr_C} {s : Nat} (a : C'.1 2 s 0 = C.1 2 s 0) (b : C'.1 2 s 1 = C.1 2 s 1) (c : C'.1 2 s 2 = C.1 2 s 2) : cg C' s = cg C s := by
  unfold cg
  rw [a, b, c]
theorem mw.up {N M : Nat} {μ : cr_m} (h : mw N μ) (hM : N ≤ M) : mw M μ := fun c => by
  obtain ⟨a, u, hu, e⟩ := h c
  exact ⟨a, u, by omega, e⟩
/-! a side falls -/
def Fa (C C' : cr_C) (s : Nat) : Prop :=
  C'.1 1 s 0 = 0 ∧ (∀ k, 2 ≤ k → k ≤ 13 → C'.1 1 s k = C.1 1 s k) ∧ (∀ κ k, κ = 3 ∨ κ = 4 → C'.1 κ s k = C.1 κ s k) ∧ (∀ i, C'.1 6 s i = C.1 6 s i ∨ C'.1 6 s i = C.1 1 s 5) ∧ (∀ κ i k, (i ≠ s ∨ 7 ≤ κ) → C'.1 κ i k = C.1 κ i k) ∧ C'.2.2 = C.2.2 ∧
  ((C.1 1 s 0 = 4 ∧ C'.2.1 = (cr_fX C s).2.1 ∧ C'.1 2 s 1 = 0 ∧ ((C.1 2 s 0 = 0 ∧ C'.1 2 s 2 = 0 ∧ C'.1 2 s 0 = 1 ∧ C'.1 2 s 4 = C.1 1 s 2 ∧ C'.1 2 s 5 = C.1 1 s 3 ∧ C'.1 2 s 6 = C.1 1 s 5 ∧ C'.1 2 s 7 = Int32.ofNat (C.2.1 s).length) ∨ (C.1 2 s 0 ≠ 0 ∧ ∀ k, k ≠ 1 → C'.1 2 s k = C.1 2 s k))) ∨
   (C.1 1 s 0 ≠ 4 ∧ C'.2.1 = (cr_sX (cr_sX C s []) (6 + s) []).2.1 ∧ ∀ k, C'.1 2 s k = C.1 2 s k))
theorem fall_Fa (C : cr_C) {e l : Nat} (he : e < 2) (hl : l < 3) : Fa C (cs_E_fall C e l) (2 * l + e) := by
  have hfc := cs_fall_fc C he hl
  have hU := cs_fall_U C e l
  by_cases c : C.1 1 (2 * l + e) 0 = 4
  · have hX := cs_fall_X C e l c
    refine ⟨?_, ?_, ?_, ?_, hfc.1, hU, Or.inl ⟨c, hX, ?_⟩⟩
    all_goals unfold cs_E_fall
    all_goals rw [if_pos c]
    all_goals generalize 2 * l + e = s at *
    · rw [cs_chg_I _ _ _ _ (by omega) (by omega)]
      simp [cs_Y_keep, cs_S_comeTo, cr_sI, cr_u]
    · intro k h2 h13
      rw [cs_chg_I _ _ _ _ (by omega) (by omega)]
      have a0 : k ≠ 0 := by omega
      have a1 : k ≠ 1 := by omega
      have a14 : k ≠ 14 := by omega
      simp [cs_Y_keep, cs_S_comeTo, cr_sI, cr_u, a0, a1, a14]
    · rintro κ k (rfl | rfl)
      · rw [cs_chg_I _ _ _ _ (by omega) (by omega)]
        simp [cs_Y_keep, cs_S_comeTo, cr_sI, cr_u]
      · rw [cs_chg_I _ _ _ _ (by omega) (by omega)]
        simp [cs_Y_keep, cs_S_comeTo, cr_sI, cr_u]
    · intro i
      rw [cs_chg_I _ _ _ _ (by omega) (by omega)]
      unfold cs_Y_keep
      by_cases ci : i = cr_f16 ((cr_sI (cs_S_comeTo C s 0) 1 s 14 1).1 1 s 3)
      · right
        rw [ci, cr_sI_at]
        simp [cs_S_comeTo, cr_sI, cr_u]
      · left
        rw [cr_sI_ne _ _ (by omega), cr_sI_ne _ _ (by omega)]
        simp [cs_S_comeTo, cr_sI, cr_u]
    · have e0 : (cr_sI (cs_Y_keep (cr_sI (cs_S_comeTo C s 0) 1 s 14 1) s ((cr_sI (cs_S_comeTo C s 0) 1 s 14 1).1 1 s 3) ((cr_sI (cs_S_comeTo C s 0) 1 s 14 1).1 1 s 5)) 2 s 1 0).1 2 s 0 = C.1 2 s 0 := by
        simp [cs_Y_keep, cs_S_comeTo, cr_sI, cr_u]
      unfold cs_S_clearRows cs_C_begin cs_C_tail
      rw [e0]
      by_cases c0 : C.1 2 s 0 = 0
      · rw [if_pos c0]
        refine ⟨?_, Or.inl ⟨c0, ?_, ?_, ?_, ?_, ?_, ?_⟩⟩
        all_goals simp [cs_Y_keep, cs_S_comeTo, cr_sI, cr_sX, cr_u]
      · rw [if_neg c0]
        refine ⟨?_, Or.inr ⟨c0, fun k hk => ?_⟩⟩
        · simp [cr_sI, cr_sX, cr_u]
        · simp [cs_Y_keep, cs_S_comeTo, cr_sI, cr_sX, cr_u, hk]
  · refine ⟨?_, ?_, ?_, ?_, hfc.1, hU, Or.inr ⟨c, ?_, ?_⟩⟩
    all_goals unfold cs_E_fall
    all_goals rw [if_neg c]
    all_goals unfold cs_S_clearRows cs_S_comeTo
    all_goals generalize 2 * l + e = s at *
    · simp [cr_sI, cr_sX, cr_u]
    · intro k h2 h13
      have a0 : k ≠ 0 := by omega
      have a1 : k ≠ 1 := by omega
      have a14 : k ≠ 14 := by omega
      have a15 : k ≠ 15 := by omega
      simp [cr_sI, cr_sX, cr_u, a0, a1, a14, a15]
    · rintro κ k (rfl | rfl) <;> simp [cr_sI, cr_sX, cr_u]
    · intro i
      left
      simp [cr_sI, cr_sX, cr_u]
    · rfl
    · intro k
      simp [cr_sI, cr_sX, cr_u]
theorem Fa.row {C C' : cr_C} {s : Nat} (h : Fa C C' s) {r : Nat} (h1 : r ≠ s) (h2 : r ≠ 6 + s) (h3 : r ≠ 12 + s) : C'.2.1 r = C.2.1 r := by
  obtain ⟨-, -, -, -, -, -, ⟨-, hX, -⟩ | ⟨-, hX, -⟩⟩ := h
  · rw [hX]
    unfold cr_fX
    rw [cr_sX_ne _ _ h2, cr_sX_ne _ _ h1, cr_sX_ne _ _ h3]
  · rw [hX, cr_sX_ne _ _ h2, cr_sX_ne _ _ h1]
theorem Fa.sent {C C' : cr_C} {s : Nat} (h : Fa C C' s) : C'.2.1 s = [] ∧ C'.2.1 (6 + s) = [] := by
  obtain ⟨-, -, -, -, -, -, ⟨-, hX, -⟩ | ⟨-, hX, -⟩⟩ := h
  · rw [hX]
    unfold cr_fX
    exact ⟨by rw [cr_sX_ne _ _ (by omega), cr_sX_at], by rw [cr_sX_at]⟩
  · rw [hX]
    exact ⟨by rw [cr_sX_ne _ _ (by omega), cr_sX_at], by rw [cr_sX_at]⟩
theorem Fa.cq {C C' : cr_C} {s : Nat} (h : Fa C C' s) {t : Nat} (ht : t < 6) (hts : t ≠ s) : cq C C' t :=
  ⟨h.2.2.2.2.1 _ _ _ (Or.inl hts), h.2.2.2.2.1 _ _ _ (Or.inl hts), h.2.2.2.2.1 _ _ _ (Or.inl hts), fun _ => h.2.2.2.2.1 _ _ _ (Or.inl hts), by rw [h.2.2.2.2.2.1], h.row hts (by omega) (by omega)⟩
/-- as the invariant, but the counts of one side may be at their bounds -/
def iy (N : Nat) (C : cr_C) (s : Nat) : Prop := cv C ∧ (∀ t, t < 6 → (t ≠ s → iA C t) ∧ iB N C t ∧ iD N C t ∧ iE C t) ∧ iM N C
theorem iz.y {N : Nat} {C : cr_C} (h : iz N C) (s : Nat) : iy N C s := ⟨h.1, fun t ht => ⟨fun _ => (h.2.1 t ht).1, (h.2.1 t ht).2⟩, h.2.2⟩
theorem Fa.i1 {N : Nat} {C C' : cr_C} {s : Nat} (h : Fa C C' s) (hs : s < 6) (hz : iy N C s) : ∀ t, t < 6 → i1 N C' t := by
  intro t ht
  obtain ⟨hA, hB, hD, hE⟩ := hz.2.1 t ht
  by_cases e : t = s
  · subst e
    have hr := h.sent
    obtain ⟨f0, f1, f3, f6, f5, fU, f2⟩ := h
    refine ⟨?_, ?_, ?_, ?_⟩
    · unfold iA
      rw [f0]
      exact ⟨⟨0, by omega, rfl⟩, fun c => by rcases c with c | c <;> exact absurd c (by decide), fun c => absurd c (by decide), fun c => absurd rfl c⟩
    · obtain ⟨b1, b2, -, b4, b5, b6⟩ := hB
      unfold iB
      rw [f0, f1 4 (by omega) (by omega), f1 5 (by omega) (by omega), f1 2 (by omega) (by omega), f1 3 (by omega) (by omega), f3 3 1 (Or.inl rfl)]
      exact ⟨b1, b2, fun c => absurd rfl c, b4, b5, b6⟩
    · obtain ⟨d1, d2, d3, d4, d5, d6, d7⟩ := hD
      have dm : ∀ i, i < 16 → C'.1 6 t i = -1 ∨ nb (C'.1 6 t i) 8 := fun i hi => by
        rcases f6 i with e6 | e6
        · rw [e6]; exact d7 i hi
        · rw [e6]; exact Or.inr hB.2.1
      rcases f2 with ⟨c4, hX, g1, ⟨c0, g2, g0, g4, g5, g6, g7⟩ | ⟨c0, g⟩⟩ | ⟨c4, hX, g⟩
      · have x12 : C'.2.1 (12 + t) = C.2.1 (12 + t) ++ C.2.1 t ++ C.2.1 (6 + t) := by
          rw [hX]
          unfold cr_fX
          rw [cr_sX_ne _ _ (by omega), cr_sX_ne _ _ (by omega), cr_sX_at]
        have h5 := hz.1.1.2.2 t ht
        have en : cr_nb C' t = (C.2.1 t).length := by
          unfold cr_nb
          rw [g7]
          exact ev_cl _ (by omega)
        unfold iD
        rw [g0, g2, g4, g5, g6, en, x12]
        refine ⟨hB.2.2.2.1, hB.2.2.2.2.1, hB.2.1, fun c => absurd c (by decide), ?_, fun c => absurd rfl c, dm⟩
        rw [List.length_append, List.length_append]
        omega
      · have x12 : C'.2.1 (12 + t) = C.2.1 (12 + t) ++ C.2.1 t ++ C.2.1 (6 + t) := by
          rw [hX]
          unfold cr_fX
          rw [cr_sX_ne _ _ (by omega), cr_sX_ne _ _ (by omega), cr_sX_at]
        have en : cr_nb C' t = cr_nb C t := by
          unfold cr_nb
          rw [g 7 (by omega)]
        unfold iD
        rw [g 0 (by omega), g 2 (by omega), g 4 (by omega), g 5 (by omega), g 6 (by omega), en, x12]
        refine ⟨d1, d2, d3, fun c => absurd c c0, ?_, d6, dm⟩
        rw [List.length_append, List.length_append]
        omega
      · have x12 : C'.2.1 (12 + t) = C.2.1 (12 + t) := by
          rw [hX, cr_sX_ne _ _ (by omega), cr_sX_ne _ _ (by omega)]
        have en : cr_nb C' t = cr_nb C t := by
          unfold cr_nb
          rw [g 7]
        unfold iD
        rw [g 0, g 2, g 4, g 5, g 6, en, x12]
        exact ⟨d1, d2, d3, d4, d5, d6, dm⟩
    · unfold iE
      rw [f3 4 1 (Or.inr rfl)]
      exact ⟨fun _ => hr, hE.2⟩
  · have f5 := h.2.2.2.2.1
    refine ⟨(hA e).of (fun k _ => f5 _ _ _ (Or.inl e)), hB.of (fun k _ => f5 _ _ _ (Or.inl e)) (f5 _ _ _ (Or.inl e)), hD.of (fun k _ _ => f5 _ _ _ (Or.inl e)) (fun i => f5 _ _ _ (Or.inl e)) (h.row (by omega) (by omega) (by omega)), hE.of (f5 _ _ _ (Or.inl e)) (h.row e (by omega) (by omega)) (fun _ => h.row (by omega) (by omega) (by omega)) (f5 _ _ _ (Or.inl e))⟩
theorem Fa.iM {N : Nat} {C C' : cr_C} {s : Nat} (h : Fa C C' s) (hs : s < 6) (hM : iM N C) : iM N C' := by
  obtain ⟨m1, m2, m3⟩ := hM
  refine ⟨fun r hr μ hμ => ?_, fun t ht μ hμ => ?_, fun e he => ?_⟩
  · by_cases e1 : r = s
    · rw [e1, h.sent.1] at hμ
      exact absurd hμ List.not_mem_nil
    · by_cases e2 : r = 6 + s
      · rw [e2, h.sent.2] at hμ
        exact absurd hμ List.not_mem_nil
      · by_cases e3 : r = 12 + s
        · obtain ⟨-, -, -, -, -, -, ⟨-, hX, -⟩ | ⟨-, hX, -⟩⟩ := h
          · rw [hX, e3] at hμ
            unfold cr_fX at hμ
            rw [cr_sX_ne _ _ (by omega), cr_sX_ne _ _ (by omega), cr_sX_at] at hμ
            rcases List.mem_append.mp hμ with q | q
            · rcases List.mem_append.mp q with q | q
              · exact m1 _ (by omega) μ q
              · exact m1 _ (by omega) μ q
            · exact m1 _ (by omega) μ q
          · rw [hX, e3, cr_sX_ne _ _ (by omega), cr_sX_ne _ _ (by omega)] at hμ
            exact m1 _ (by omega) μ hμ
        · rw [h.row e1 e2 e3] at hμ
          exact m1 r hr μ hμ
  · rw [h.2.2.2.2.2.1] at hμ
    exact m2 t ht μ hμ
  · rw [h.row (by omega) (by omega) (by omega)]
    exact m3 e he
