/-! the invariant: age, damage -/
theorem LoW {N k b : Nat} {C C' : cr_C} {s : Nat} (h : IW N C) (L : Lo C C' s) (hs : s < 6) (e0 : C'.1 1 s 0 = C.1 1 s 0) (e4 : C'.1 1 s 4 = C.1 1 s 4) (e5 : C'.1 1 s 5 = C.1 1 s 5) (b' : iB N C' s) (hb : be C' s ≤ be C s + b) : iy N C' s ∧ (∀ t, t < 6 → q1 C' t) ∧ Po k C' ≤ Po k C + b :=
  ⟨L.ky (h.1.y s) b' (by rw [e0]; exact fun x => x), IW.core h.2 (L.cqa e0 e4 e5), L.kPo hs (by rw [e0]) e4 e5 (by rw [e0]; exact fun x => x) hb⟩
theorem LoV {N k b : Nat} {C C' : cr_C} {s : Nat} (h : IV N k C) (L : Lo C C' s) (hs : s < 6) (e0 : C'.1 1 s 0 = C.1 1 s 0) (e4 : C'.1 1 s 4 = C.1 1 s 4) (e5 : C'.1 1 s 5 = C.1 1 s 5) (b' : iB N C' s) (hb : be C' s ≤ be C s + b) : iy N C' s ∧ (∀ t, t < 6 → q1 C' t) ∧ (∀ t, t < 6 → q2 k C' t) ∧ Po k C' ≤ Po k C + b := by
  obtain ⟨a, q, p⟩ := LoW (k := k) h.1 L hs e0 e4 e5 b' hb
  exact ⟨a, q, IV.core h.2 (L.cqa e0 e4 e5), p⟩
theorem iB.num {N : Nat} {C : cr_C} {s k : Nat} {x : Int32} (h : iB N C s) (hk : k = 1 ∨ 6 ≤ k) : iB N (cr_sI C 1 s k x) s := h.of (fun j hj => cr_sI_ne _ _ (by omega)) (cr_sI_ne _ _ (by omega))
theorem be_num {C : cr_C} {s k : Nat} {x : Int32} (hk : 2 ≤ k) : be (cr_sI C 1 s k x) s = be C s := be_of (cr_sI_ne _ _ (by omega)) (cr_sI_ne _ _ (by omega))
theorem be_age {C : cr_C} {s : Nat} {x : Int32} (hc : C.1 1 s 0 ≠ 2) : be (cr_sI C 1 s 1 x) s = be C s := by
  unfold be
  rw [cr_sI_ne _ _ (by omega), if_neg hc, if_neg hc]
theorem IW_age {N : Nat} (k : Nat) {C : cr_C} (h : IW N C) {e l : Nat} (he : e < 2) (hl : l < 3) : IW N (cs_E_age C e l) ∧ Po k (cs_E_age C e l) ≤ Po k C + 2 := by
  have hs : 2 * l + e < 6 := by omega
  have hfall : ∀ C' b, iy N C' (2 * l + e) ∧ (∀ t, t < 6 → q1 C' t) ∧ Po k C' ≤ Po k C + b → b ≤ 2 → IW N (cs_E_fall C' e l) ∧ Po k (cs_E_fall C' e l) ≤ Po k C + 2 := fun C' b x hb2 => ⟨⟨x.1.fall he hl, q1_fall x.2.1 he hl⟩, by have := Po_fall k x.1.1 he hl; omega⟩
  have hstay : ∀ C' b, iy N C' (2 * l + e) ∧ (∀ t, t < 6 → q1 C' t) ∧ Po k C' ≤ Po k C + b → b ≤ 2 → iA C' (2 * l + e) → IW N C' ∧ Po k C' ≤ Po k C + 2 := fun C' b x hb2 a => ⟨⟨x.1.z a, x.2.1⟩, by have := x.2.2; omega⟩
  unfold cs_E_age
  generalize cs_E_fall = fc0 at *
  generalize hsd : 2 * l + e = s at *
  obtain ⟨hA, hB, hD, hE⟩ := h.1.2.1 s hs
  have La : ∀ x, Lo C (cr_sI C 1 s 1 x) s := fun x => (Lo.refl C s).sI
  have Li : ∀ x, Lo C (cr_sI C 1 s 12 x) s := fun x => (Lo.refl C s).sI
  have wi : ∀ x, iy N (cr_sI C 1 s 12 x) s ∧ (∀ t, t < 6 → q1 (cr_sI C 1 s 12 x) t) ∧ Po k (cr_sI C 1 s 12 x) ≤ Po k C + 0 := fun x => LoW h (Li x) hs (cr_sI_ne _ _ (by omega)) (cr_sI_ne _ _ (by omega)) (cr_sI_ne _ _ (by omega)) (hB.num (by omega)) (by rw [be_num (by omega)]; exact Nat.le_refl _)
  have wa : ∀ x b, be (cr_sI C 1 s 1 x) s ≤ be C s + b → iy N (cr_sI C 1 s 1 x) s ∧ (∀ t, t < 6 → q1 (cr_sI C 1 s 1 x) t) ∧ Po k (cr_sI C 1 s 1 x) ≤ Po k C + b := fun x b hb => LoW h (La x) hs (cr_sI_ne _ _ (by omega)) (cr_sI_ne _ _ (by omega)) (cr_sI_ne _ _ (by omega)) (hB.num (by omega)) hb
  have iAa : ∀ x, (C.1 1 s 0 = 1 ∨ C.1 1 s 0 = 3 → nb x 15) → (C.1 1 s 0 = 2 → nb x 6) → iA (cr_sI C 1 s 1 x) s := fun x a b => by
    unfold iA
    rw [cr_sI_at, cr_sI_ne _ _ (by omega), cr_sI_ne _ _ (by omega), cr_sI_ne _ _ (by omega), cr_sI_ne _ _ (by omega), cr_sI_ne _ _ (by omega), cr_sI_ne _ _ (by omega), cr_sI_ne _ _ (by omega)]
    exact ⟨hA.1, a, b, hA.2.2.2⟩
  have iAi : ∀ x, nb x 12 → iA (cr_sI C 1 s 12 x) s := fun x a => by
    unfold iA
    rw [cr_sI_at, cr_sI_ne _ _ (by omega), cr_sI_ne _ _ (by omega), cr_sI_ne _ _ (by omega), cr_sI_ne _ _ (by omega), cr_sI_ne _ _ (by omega), cr_sI_ne _ _ (by omega), cr_sI_ne _ _ (by omega)]
    exact ⟨hA.1, hA.2.1, hA.2.2.1, fun c => ⟨(hA.2.2.2 c).1, (hA.2.2.2 c).2.1, (hA.2.2.2 c).2.2.1, (hA.2.2.2 c).2.2.2.1, a, (hA.2.2.2 c).2.2.2.2.2⟩⟩
  unfold cs_S_failsByAge
  simp only [cr_sI_at]
  by_cases c1 : C.1 1 s 0 = 1
  · simp only [if_pos c1]
    have w := wa (C.1 1 s 1 + 1) 0 (by rw [be_age (by rw [c1]; decide)]; exact Nat.le_refl _)
    by_cases c : C.1 1 s 1 + 1 < 15
    · rw [if_pos c]
      exact hstay _ 0 w (by omega) (iAa _ (fun x => (hA.2.1 x).inc (M := 15) (by omega) (by omega) c) (fun x => absurd (c1.symm.trans x) (by decide)))
    · rw [if_neg c]
      exact hfall _ 0 w (by omega)
  · simp only [if_neg c1]
    by_cases c2 : C.1 1 s 0 = 2
    · have n3 : ¬ C.1 1 s 0 = 3 := by rw [c2]; decide
      simp only [if_pos c2, if_neg n3]
      obtain ⟨u, hu, eu⟩ := hA.2.2.1 c2
      have eu1 : C.1 1 s 1 + 1 = Int32.ofNat (u + 1) := by rw [eu]; exact nI_1 u
      have b0 : be C s = 12 + 2 * u := by rw [be_st.2.1 c2, eu, ev_cl _ (by omega)]
      have b1 : be (cr_sI C 1 s 1 (C.1 1 s 1 + 1)) s = 12 + 2 * (u + 1) := by
        rw [be_st.2.1 (by rw [cr_sI_ne _ _ (by omega)]; exact c2), cr_sI_at, eu1, ev_cl _ (by omega)]
      by_cases c : C.1 1 s 1 + 1 < 6
      · rw [if_pos c]
        exact hstay _ 2 (wa _ 2 (by omega)) (by omega) (iAa _ (fun x => by rcases x with x | x <;> exact absurd (c2.symm.trans x) (by decide)) (fun x => (hA.2.2.1 x).inc (M := 6) (by omega) (by omega) c))
      · rw [if_neg c]
        have e6 := ((hA.2.2.1 c2).up (by omega)).mp c
        rw [eu1] at e6
        have hu5 : u + 1 = 6 := (nI_eq (a := u + 1) (b := 6) (by omega) (by omega)).mp e6
        have L : Lo C (cs_S_comeTo (cr_sI C 1 s 1 (C.1 1 s 1 + 1)) s 3) s := (La _).comeTo
        have e0 : (cs_S_comeTo (cr_sI C 1 s 1 (C.1 1 s 1 + 1)) s 3).1 1 s 0 = 3 := by simp [cs_S_comeTo, cr_sI, cr_u]
        have ek : ∀ j, 2 ≤ j → (cs_S_comeTo (cr_sI C 1 s 1 (C.1 1 s 1 + 1)) s 3).1 1 s j = C.1 1 s j := fun j hj => by
          unfold cs_S_comeTo
          rw [cr_sI_ne _ _ (by omega), cr_sI_ne _ _ (by omega), cr_sI_ne _ _ (by omega)]
        have e1 : (cs_S_comeTo (cr_sI C 1 s 1 (C.1 1 s 1 + 1)) s 3).1 1 s 1 = 0 := cr_sI_at _ _ _ _ _
        generalize cs_S_comeTo (cr_sI C 1 s 1 (C.1 1 s 1 + 1)) s 3 = C' at *
        have hh : h2 (C'.1 1 s 0) ↔ h2 (C.1 1 s 0) := by
          rw [e0, c2]
          exact ⟨fun _ => by decide, fun _ => by decide⟩
        have bB : iB N C' s := hB.st (fun j hj => ek j hj.1) (L.1 _ _ _ (by omega)) (fun _ _ => by rw [c2]; exact ⟨by decide, by decide⟩)
        have y := L.ky (h.1.y s) bB (fun _ => by rw [c2]; decide)
        refine hstay C' 2 ⟨y, L.kq1 h.2 hh (ek 4 (by omega)) (ek 5 (by omega)) (fun x => absurd (e0.symm.trans x) (by decide)), L.kPo hs hh (ek 4 (by omega)) (ek 5 (by omega)) (fun _ => by rw [c2]; decide) (by rw [be_st.2.2 (Or.inl e0)]; omega)⟩ (by omega) ?_
        unfold iA
        rw [e0, e1, ek 8 (by omega), ek 9 (by omega), ek 10 (by omega), ek 11 (by omega), ek 12 (by omega), ek 13 (by omega)]
        exact ⟨⟨3, by omega, rfl⟩, fun _ => nb_0 (by omega), fun x => absurd x (by decide), fun _ => hA.2.2.2 (by rw [c2]; decide)⟩
    · simp only [if_neg c2]
      by_cases c3 : C.1 1 s 0 = 3
      · simp only [if_pos c3]
        have w := wa (C.1 1 s 1 + 1) 0 (by rw [be_age (by rw [c3]; decide)]; exact Nat.le_refl _)
        by_cases c : C.1 1 s 1 + 1 < 15
        · rw [if_pos c]
          exact hstay _ 0 w (by omega) (iAa _ (fun x => (hA.2.1 x).inc (M := 15) (by omega) (by omega) c) (fun x => absurd (c3.symm.trans x) (by decide)))
        · rw [if_neg c]
          exact hfall _ 0 w (by omega)
      · simp only [if_neg c3]
        by_cases c4 : C.1 1 s 0 = 4
        · simp only [if_pos c4]
          by_cases cz : cr_e (C.2.1 s) = 0
          · rw [if_pos cz]
            by_cases c : C.1 1 s 12 + 1 < 12
            · rw [if_pos c]
              exact hstay _ 0 (wi _) (by omega) (iAi _ ((hA.2.2.2 (by rw [c4]; decide)).2.2.2.2.1.inc (M := 12) (by omega) (by omega) c))
            · rw [if_neg c]
              exact hfall _ 0 (wi _) (by omega)
          · rw [if_neg cz, if_pos (show (0 : Int32) < 12 by decide)]
            exact hstay _ 0 (wi 0) (by omega) (iAi _ (nb_0 (by omega)))
        · simp only [if_neg c4]
          show IW N C ∧ Po k C ≤ Po k C + 2
          exact ⟨h, by omega⟩
theorem IV_damaged {N k : Nat} {C : cr_C} (h : IV N k C) {e l : Nat} (he : e < 2) (hl : l < 3) : IV N k (cs_E_damagedComes C e l) ∧ Po k (cs_E_damagedComes C e l) ≤ Po k C := by
  have hs : 2 * l + e < 6 := by omega
  have hfall : ∀ C', iy N C' (2 * l + e) ∧ (∀ t, t < 6 → q1 C' t) ∧ (∀ t, t < 6 → q2 k C' t) ∧ Po k C' ≤ Po k C + 0 → IV N k (cs_E_fall C' e l) ∧ Po k (cs_E_fall C' e l) ≤ Po k C := fun C' x => ⟨⟨⟨x.1.fall he hl, q1_fall x.2.1 he hl⟩, q2_fall x.2.2.1 he hl⟩, by have := Po_fall k x.1.1 he hl; omega⟩
  have hstay : ∀ C', iy N C' (2 * l + e) ∧ (∀ t, t < 6 → q1 C' t) ∧ (∀ t, t < 6 → q2 k C' t) ∧ Po k C' ≤ Po k C + 0 → iA C' (2 * l + e) → IV N k C' ∧ Po k C' ≤ Po k C := fun C' x a => ⟨⟨⟨x.1.z a, x.2.1⟩, x.2.2.1⟩, by have := x.2.2.2; omega⟩
  unfold cs_E_damagedComes
  generalize cs_E_fall = fc0 at *
  generalize hsd : 2 * l + e = s at *
  obtain ⟨hA, hB, hD, hE⟩ := h.1.1.2.1 s hs
  unfold cs_S_failsByDamage
  simp only [cr_sI_at]
  by_cases c4 : C.1 1 s 0 = 4
  · simp only [if_pos c4]
    have w : iy N (cr_sI C 1 s 10 (C.1 1 s 10 + 1)) s ∧ (∀ t, t < 6 → q1 (cr_sI C 1 s 10 (C.1 1 s 10 + 1)) t) ∧ (∀ t, t < 6 → q2 k (cr_sI C 1 s 10 (C.1 1 s 10 + 1)) t) ∧ Po k (cr_sI C 1 s 10 (C.1 1 s 10 + 1)) ≤ Po k C + 0 := LoV h (Lo.refl C s).sI hs (cr_sI_ne _ _ (by omega)) (cr_sI_ne _ _ (by omega)) (cr_sI_ne _ _ (by omega)) (hB.num (by omega)) (by rw [be_num (by omega)]; exact Nat.le_refl _)
    obtain ⟨a8, a9, a10, a11, a12, a13⟩ := hA.2.2.2 (by rw [c4]; decide)
    by_cases c : C.1 1 s 10 + 1 < 4
    · rw [if_pos c]
      refine hstay (cr_sI C 1 s 10 (C.1 1 s 10 + 1)) w ?_
      unfold iA
      rw [cr_sI_at, cr_sI_ne _ _ (by omega), cr_sI_ne _ _ (by omega), cr_sI_ne _ _ (by omega), cr_sI_ne _ _ (by omega), cr_sI_ne _ _ (by omega), cr_sI_ne _ _ (by omega), cr_sI_ne _ _ (by omega)]
      exact ⟨hA.1, hA.2.1, hA.2.2.1, fun _ => ⟨a8, a9, a10.inc (M := 4) (by omega) (by omega) c, a11, a12, a13⟩⟩
    · rw [if_neg c]
      exact hfall _ w
  · simp only [if_neg c4]
    by_cases c2 : C.1 1 s 0 = 2
    · simp only [if_pos c2]
      obtain ⟨a8, a9, a10, a11, a12, a13⟩ := hA.2.2.2 (by rw [c2]; decide)
      by_cases c : 2 ≤ C.1 1 s 8 + 1
      · simp only [if_pos c]
        have t9 : (cr_sI (cr_sI (cr_sI C 1 s 8 (C.1 1 s 8 + 1)) 1 s 1 0) 1 s 8 0).1 1 s 9 = C.1 1 s 9 := by rw [cr_sI_ne _ _ (by omega), cr_sI_ne _ _ (by omega), cr_sI_ne _ _ (by omega)]
        rw [t9]
        have L : Lo C (cr_sI (cr_sI (cr_sI (cr_sI C 1 s 8 (C.1 1 s 8 + 1)) 1 s 1 0) 1 s 8 0) 1 s 9 (C.1 1 s 9 + 1)) s := (Lo.refl C s).sI.sI.sI.sI
        have ek : ∀ j, j = 0 ∨ (2 ≤ j ∧ j ≤ 5) ∨ 10 ≤ j → (cr_sI (cr_sI (cr_sI (cr_sI C 1 s 8 (C.1 1 s 8 + 1)) 1 s 1 0) 1 s 8 0) 1 s 9 (C.1 1 s 9 + 1)).1 1 s j = C.1 1 s j := fun j hj => by rw [cr_sI_ne _ _ (by omega), cr_sI_ne _ _ (by omega), cr_sI_ne _ _ (by omega), cr_sI_ne _ _ (by omega)]
        have e9 : (cr_sI (cr_sI (cr_sI (cr_sI C 1 s 8 (C.1 1 s 8 + 1)) 1 s 1 0) 1 s 8 0) 1 s 9 (C.1 1 s 9 + 1)).1 1 s 9 = C.1 1 s 9 + 1 := cr_sI_at _ _ _ _ _
        have e8 : (cr_sI (cr_sI (cr_sI (cr_sI C 1 s 8 (C.1 1 s 8 + 1)) 1 s 1 0) 1 s 8 0) 1 s 9 (C.1 1 s 9 + 1)).1 1 s 8 = 0 := by rw [cr_sI_ne _ _ (by omega), cr_sI_at]
        have e1 : (cr_sI (cr_sI (cr_sI (cr_sI C 1 s 8 (C.1 1 s 8 + 1)) 1 s 1 0) 1 s 8 0) 1 s 9 (C.1 1 s 9 + 1)).1 1 s 1 = 0 := by rw [cr_sI_ne _ _ (by omega), cr_sI_ne _ _ (by omega), cr_sI_at]
        generalize cr_sI (cr_sI (cr_sI (cr_sI C 1 s 8 (C.1 1 s 8 + 1)) 1 s 1 0) 1 s 8 0) 1 s 9 (C.1 1 s 9 + 1) = C' at *
        have w : iy N C' s ∧ (∀ t, t < 6 → q1 C' t) ∧ (∀ t, t < 6 → q2 k C' t) ∧ Po k C' ≤ Po k C + 0 := LoV h L hs (ek 0 (by omega)) (ek 4 (by omega)) (ek 5 (by omega)) (hB.of (fun j hj => ek j (by omega)) (L.1 _ _ _ (by omega))) (by
          rw [be_st.2.1 ((ek 0 (by omega)).trans c2), e1, be_st.2.1 c2]
          exact Nat.add_le_add_left (Nat.zero_le _) 12)
        by_cases c3 : C.1 1 s 9 + 1 < 3
        · rw [if_pos c3]
          refine hstay C' w ?_
          unfold iA
          rw [ek 0 (by omega), e1, e8, e9, ek 10 (by omega), ek 11 (by omega), ek 12 (by omega), ek 13 (by omega)]
          exact ⟨hA.1, fun _ => nb_0 (by omega), fun _ => nb_0 (by omega), fun _ => ⟨nb_0 (by omega), a9.inc (M := 3) (by omega) (by omega) c3, a10, a11, a12, a13⟩⟩
        · rw [if_neg c3]
          exact hfall _ w
      · simp only [if_neg c]
        have w : iy N (cr_sI C 1 s 8 (C.1 1 s 8 + 1)) s ∧ (∀ t, t < 6 → q1 (cr_sI C 1 s 8 (C.1 1 s 8 + 1)) t) ∧ (∀ t, t < 6 → q2 k (cr_sI C 1 s 8 (C.1 1 s 8 + 1)) t) ∧ Po k (cr_sI C 1 s 8 (C.1 1 s 8 + 1)) ≤ Po k C + 0 := LoV h (Lo.refl C s).sI hs (cr_sI_ne _ _ (by omega)) (cr_sI_ne _ _ (by omega)) (cr_sI_ne _ _ (by omega)) (hB.num (by omega)) (by rw [be_num (by omega)]; exact Nat.le_refl _)
        refine hstay (cr_sI C 1 s 8 (C.1 1 s 8 + 1)) w ?_
        unfold iA
        rw [cr_sI_at, cr_sI_ne _ _ (by omega), cr_sI_ne _ _ (by omega), cr_sI_ne _ _ (by omega), cr_sI_ne _ _ (by omega), cr_sI_ne _ _ (by omega), cr_sI_ne _ _ (by omega), cr_sI_ne _ _ (by omega)]
        refine ⟨hA.1, hA.2.1, hA.2.2.1, fun _ => ⟨?_, a9, a10, a11, a12, a13⟩⟩
        obtain ⟨u, hu, eu⟩ := a8
        rw [eu, show Int32.ofNat u + 1 = Int32.ofNat (u + 1) from nI_1 u] at c ⊢
        refine ⟨u + 1, ?_, rfl⟩
        rcases Nat.lt_or_ge (u + 1) 2 with q | q
        · exact q
        · exact absurd (i_le q (by omega)) c
    · simp only [if_neg c2]
      show IV N k C ∧ Po k C ≤ Po k C
      exact ⟨h, Nat.le_refl _⟩
