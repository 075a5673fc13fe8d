/-! the invariant: what comes without a number -/
theorem IV_heard {N k : Nat} {C : cr_C} (h : IV N k C) {s : Nat} (hs : s < 6) {x : Int32} (hx : nb x (N + 1)) : IV N k (cr_sI C 1 s 3 x) ∧ Po k (cr_sI C 1 s 3 x) ≤ Po k C := by
  obtain ⟨hA, hB, hD, hE⟩ := h.1.1.2.1 s hs
  have bB : iB N (cr_sI C 1 s 3 x) s := by
    obtain ⟨b1, b2, b3, b4, b5, b6⟩ := hB
    unfold iB
    rw [cr_sI_at, cr_sI_ne _ _ (by omega), cr_sI_ne _ _ (by omega), cr_sI_ne _ _ (by omega), cr_sI_ne _ _ (by omega), cr_sI_ne _ _ (by omega)]
    exact ⟨b1, b2, b3, b4, hx, b6⟩
  obtain ⟨y, q, p, w⟩ := LoV (k := k) (b := 0) h (Lo.refl C s).sI hs (cr_sI_ne _ x (by omega)) (cr_sI_ne _ _ (by omega)) (cr_sI_ne _ _ (by omega)) bB (by rw [be_num (by omega)]; exact Nat.le_refl _)
  exact ⟨⟨⟨y.z (hA.of (fun j hj => cr_sI_ne _ _ (by omega))), q⟩, p⟩, w⟩
theorem st_2 {x : Int32} (h : nb x 5) (h2 : h2 x) (h3 : x ≠ 3) (h4 : x ≠ 4) : x = 2 := by
  obtain ⟨u, hu, rfl⟩ := h
  rcases (show u = 0 ∨ u = 1 ∨ u = 2 ∨ u = 3 ∨ u = 4 by omega) with rfl | rfl | rfl | rfl | rfl
  · exact absurd rfl h2.1
  · exact absurd rfl h2.2
  · rfl
  · exact absurd rfl h3
  · exact absurd rfl h4
theorem IV_come2 {N k : Nat} {C : cr_C} (h : IV N k C) {s : Nat} (hs : s < 6) (c1 : C.1 1 s 0 = 1) (hf : C.1 3 (ot s) 0 = 2 ∨ C.1 3 (ot s) 0 = 3) : IV N k (cs_S_comeTo C s 2) ∧ Po k (cs_S_comeTo C s 2) ≤ Po k C := by
  have ho := ot_lt hs
  have hne := ot_ne s
  obtain ⟨hA, hB, hD, hE⟩ := h.1.1.2.1 s hs
  obtain ⟨oA, oB, oD, oE⟩ := h.1.1.2.1 _ ho
  have hX : C.2.1 s = [] := (hE.1 (by rw [c1]; decide)).1
  have f7 := hB.2.2.1 (by rw [c1]; decide) (by rw [c1]; decide)
  have o34 := (h.2 _ ho).2.1 hf
  have L : Lo C (cs_S_comeTo C s 2) s := (Lo.refl C s).comeTo
  have e0 : (cs_S_comeTo C s 2).1 1 s 0 = 2 := by simp [cs_S_comeTo, cr_sI, cr_u]
  have ek : ∀ j, 2 ≤ j → (cs_S_comeTo C s 2).1 1 s j = C.1 1 s j := fun j hj => by
    unfold cs_S_comeTo
    rw [cr_sI_ne _ _ (by omega), cr_sI_ne _ _ (by omega)]
  have e1 : (cs_S_comeTo C s 2).1 1 s 1 = 0 := cr_sI_at _ _ _ _ _
  generalize cs_S_comeTo C s 2 = C' at *
  have o0 : C'.1 1 (ot s) 0 = C.1 1 (ot s) 0 := L.1 _ _ _ (by omega)
  have p2 : h2 (C.1 1 (ot s) 0) → C.1 1 (ot s) 0 = 2 := fun x => st_2 oA.1 x o34.1 o34.2
  have o7 : h2 (C.1 1 (ot s) 0) → C.1 1 (ot s) 4 = 7 ∧ C.1 1 (ot s) 5 = 7 := fun x => oB.2.2.1 x.1 (by rw [p2 x]; decide)
  have bB : iB N C' s := hB.st (fun j hj => ek j hj.1) (L.1 _ _ _ (by omega)) (fun _ _ => by rw [c1]; exact ⟨by decide, by decide⟩)
  have aA : iA C' s := by
    unfold iA
    rw [e0, e1, ek 8 (by omega), ek 9 (by omega), ek 10 (by omega), ek 11 (by omega), ek 12 (by omega), ek 13 (by omega)]
    exact ⟨⟨2, by omega, rfl⟩, fun x => by rcases x with x | x <;> exact absurd x (by decide), fun _ => nb_0 (by omega), fun _ => hA.2.2.2 (by rw [c1]; decide)⟩
  have f3 : ∀ t j, C'.1 3 t j = C.1 3 t j := fun t j => L.1 _ _ _ (by omega)
  refine ⟨⟨⟨(L.ky (h.1.1.y s) bB (fun _ => by rw [c1]; decide)).z aA, fun t ht => ?_⟩, fun t ht => ?_⟩, ?_⟩
  · by_cases e : t = s
    · subst e
      refine ⟨fun p => ?_, fun c => absurd (e0.symm.trans c) (by decide)⟩
      unfold dd
      rw [ek 4 (by omega), L.1 1 (ot t) 5 (by omega), f7.1, (o7 (by rw [← o0]; exact p.2)).2]
      exact Nat.zero_le _
    · by_cases e' : ot t = s
      · have et : t = ot s := by rw [← e', ot_ot]
        refine ⟨fun p => ?_, fun c => ?_⟩
        · unfold dd
          rw [e', ek 5 (by omega), L.1 1 t 4 (by omega), f7.2, et, (o7 (by rw [← o0, ← et]; exact p.1)).1]
          exact Nat.zero_le _
        · rw [et, o0] at c
          exact absurd c o34.2
      · exact (h.1.2 t ht).of (L.cqn e) (L.cqn e')
  · have q := h.2 t ht
    by_cases e : t = s
    · subst e
      refine ⟨fun _ x => absurd e0 x, fun _ => ?_, fun _ _ => ?_, fun _ _ => ?_⟩
      · rw [e0]; exact ⟨by decide, by decide⟩
      · rw [e0]; decide
      · rw [f3]; exact hf
    · obtain ⟨a0, a4, a5, a3, aU, aX⟩ := L.cqn e
      unfold q2 at q ⊢
      rw [a0, a5, f3 t 0, f3 t 4, f3 (ot t) 0, aU]
      exact q
  · have uz : ∀ t, C.2.1 t = [] → un C' t = 0 := fun t e => by
      unfold un
      rw [L.2, e]
      split
      · simp [wn]
      · rfl
    have key : cr_su (bs C' k) 6 + 0 ≤ cr_su (bs C k) 6 + 0 := by
      refine su_at hs ?_ (fun t ht e => ?_)
      · have a1 := uz s hX
        have a2 : cg C' s = cg C s := cg_of (L.1 _ _ _ (by omega)) (L.1 _ _ _ (by omega)) (L.1 _ _ _ (by omega))
        have a3 : um C' k s = um C k s := by
          unfold um
          rw [f3, e0, c1, L.2]
          simp only [show ((2 : Int32) ≠ 4) = True from eq_true (by decide), show ((1 : Int32) ≠ 4) = True from eq_true (by decide)]
        have a4 : be C' s = 12 := by rw [be_st.2.1 e0, e1]; rfl
        have a5 : be C s = 12 := be_st.1 c1
        unfold bs
        omega
      · have a2 : cg C' t = cg C t := cg_of (L.1 _ _ _ (by omega)) (L.1 _ _ _ (by omega)) (L.1 _ _ _ (by omega))
        have a3 : um C' k t = um C k t := um_of (L.cqn e)
        have a4 : be C' t = be C t := be_of (L.1 _ _ _ (by omega)) (L.1 _ _ _ (by omega))
        have a1 : un C' t ≤ un C t := by
          by_cases e' : ot t = s
          · have et : t = ot s := by rw [← e', ot_ot]
            by_cases p : pr C' t
            · have : C.1 1 (ot s) 0 = 2 := p2 (by rw [← o0, ← et]; exact p.1)
              rw [uz t (by rw [et]; exact (oE.1 (by rw [this]; decide)).1)]
              exact Nat.zero_le _
            · rw [show un C' t = 0 from if_neg p]
              exact Nat.zero_le _
          · rw [un_of (L.cqn e) (L.cqn e')]
            exact Nat.le_refl _
        unfold bs
        omega
    have : wA C' = wA C := wA_X (by rw [L.2])
    unfold Po
    omega
theorem IV_seek {N k : Nat} {C : cr_C} (h : IV N k C) {e l : Nat} (he : e < 2) (hl : l < 3) (hf : C.1 3 (ot (2 * l + e)) 0 = 2 ∨ C.1 3 (ot (2 * l + e)) 0 = 3) : IV N k (cs_E_seekComes C e l) ∧ Po k (cs_E_seekComes C e l) ≤ Po k C := by
  have hs : 2 * l + e < 6 := by omega
  unfold cs_E_seekComes
  by_cases c1 : C.1 1 (2 * l + e) 0 = 1
  · rw [if_pos c1]
    exact IV_come2 h hs c1 hf
  · rw [if_neg c1]
    by_cases c2 : C.1 1 (2 * l + e) 0 = 2
    · rw [if_pos c2]
      generalize 2 * l + e = s at *
      obtain ⟨hA, hB, hD, hE⟩ := h.1.1.2.1 s hs
      obtain ⟨a8, a9, a10, a11, a12, a13⟩ := hA.2.2.2 (by rw [c2]; decide)
      obtain ⟨y, q, p, w⟩ := LoV (k := k) (b := 0) (C' := cr_sI (cr_sI C 1 s 1 0) 1 s 8 0) h (Lo.refl C s).sI.sI hs (by rw [cr_sI_ne _ _ (by omega), cr_sI_ne _ _ (by omega)]) (by rw [cr_sI_ne _ _ (by omega), cr_sI_ne _ _ (by omega)]) (by rw [cr_sI_ne _ _ (by omega), cr_sI_ne _ _ (by omega)]) ((hB.num (by omega)).num (by omega)) (by
        rw [be_st.2.1 (by rw [cr_sI_ne _ _ (by omega), cr_sI_ne _ _ (by omega)]; exact c2), cr_sI_ne _ _ (by omega), cr_sI_at, be_st.2.1 c2]
        exact Nat.add_le_add_left (Nat.zero_le _) 12)
      refine ⟨⟨⟨y.z ?_, q⟩, p⟩, w⟩
      unfold iA
      have ek : ∀ j, j ≠ 1 → j ≠ 8 → (cr_sI (cr_sI C 1 s 1 0) 1 s 8 0).1 1 s j = C.1 1 s j := fun j x y => by rw [cr_sI_ne _ _ (by omega), cr_sI_ne _ _ (by omega)]
      have e8 : (cr_sI (cr_sI C 1 s 1 0) 1 s 8 0).1 1 s 8 = 0 := cr_sI_at _ _ _ _ _
      have e1 : (cr_sI (cr_sI C 1 s 1 0) 1 s 8 0).1 1 s 1 = 0 := by rw [cr_sI_ne _ _ (by omega), cr_sI_at]
      rw [ek 0 (by omega) (by omega), e1, e8, ek 9 (by omega) (by omega), ek 10 (by omega) (by omega), ek 11 (by omega) (by omega), ek 12 (by omega) (by omega), ek 13 (by omega) (by omega)]
      exact ⟨hA.1, fun _ => nb_0 (by omega), fun _ => nb_0 (by omega), fun _ => ⟨nb_0 (by omega), a9, a10, a11, a12, a13⟩⟩
    · rw [if_neg c2]
      by_cases c0 : C.1 1 (2 * l + e) 0 = 0
      · rw [if_pos c0]
        exact ⟨h, Nat.le_refl _⟩
      · rw [if_neg c0]
        exact ⟨h.fall he hl, Po_fall k h.1.1.1 he hl⟩
theorem IV_prove {N k : Nat} {C : cr_C} (h : IV N k C) {e l : Nat} (he : e < 2) (hl : l < 3) (hf : C.1 3 (ot (2 * l + e)) 0 = 2 ∨ C.1 3 (ot (2 * l + e)) 0 = 3) : IV N k (cs_E_proveComes C e l) ∧ Po k (cs_E_proveComes C e l) ≤ Po k C := by
  have hs : 2 * l + e < 6 := by omega
  unfold cs_E_proveComes
  by_cases c1 : C.1 1 (2 * l + e) 0 = 1
  · rw [if_pos c1]
    exact IV_come2 h hs c1 hf
  · rw [if_neg c1]
    by_cases c4 : C.1 1 (2 * l + e) 0 = 4
    · rw [if_pos c4]
      exact ⟨h.fall he hl, Po_fall k h.1.1.1 he hl⟩
    · rw [if_neg c4]
      exact ⟨h, Nat.le_refl _⟩
theorem IV_status {N k : Nat} {C : cr_C} (h : IV N k C) {e l t : Nat} (he : e < 2) (hl : l < 3) (ht : t = ot (2 * l + e)) : IV N k (cs_E_statusComes C e l t) ∧ Po k (cs_E_statusComes C e l t) ≤ Po k C := by
  have hs : 2 * l + e < 6 := by omega
  have ht6 : t < 6 := by rw [ht]; exact ot_lt hs
  unfold cs_E_statusComes
  by_cases c2 : C.1 3 t 0 = 2
  · rw [if_pos c2]
    obtain ⟨a, b⟩ := IV_seek h he hl (Or.inl (by rw [← ht]; exact c2))
    have x := a.1.1.2.1 t ht6
    obtain ⟨a', b'⟩ := IV_heard a hs x.2.1.2.2.2.2.2
    exact ⟨a', by omega⟩
  · rw [if_neg c2]
    by_cases c3 : C.1 3 t 0 = 3
    · rw [if_pos c3]
      obtain ⟨a, b⟩ := IV_prove h he hl (Or.inr (by rw [← ht]; exact c3))
      have x := a.1.1.2.1 t ht6
      obtain ⟨a', b'⟩ := IV_heard a hs x.2.1.2.2.2.2.2
      exact ⟨a', by omega⟩
    · rw [if_neg c3]
      unfold cs_E_outComes
      repeat' split
      · exact ⟨h, Nat.le_refl _⟩
      · exact ⟨h, Nat.le_refl _⟩
      · exact ⟨h.fall he hl, Po_fall k h.1.1.1 he hl⟩
