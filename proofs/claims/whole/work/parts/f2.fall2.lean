/-! the invariant: a side falls, and the weight -/
theorem Fa.kq1 {C C' : cr_C} {s : Nat} (h : Fa C C' s) (hs : s < 6) (hq : ∀ t, t < 6 → q1 C t) : ∀ t, t < 6 → q1 C' t := by
  intro t ht
  by_cases e : t = s
  · subst e
    exact ⟨fun p => absurd h.1 p.1.1, fun c => absurd (h.1.symm.trans c) (by decide)⟩
  · have a := h.cq ht e
    by_cases e2 : ot t = s
    · refine ⟨fun p => absurd (by rw [e2]; exact h.1) p.2.1, ?_⟩
      have q := (hq t ht).2
      obtain ⟨a0, a4, a5, a3, aU, aX⟩ := a
      unfold jj at q ⊢
      rw [a0, a4, a3 0, a3 2, aU, aX]
      exact q
    · exact (hq t ht).of a (h.cq (ot_lt ht) e2)
theorem Fa.kq2 {k : Nat} {C C' : cr_C} {s : Nat} (h : Fa C C' s) (hq : ∀ t, t < 6 → q2 k C t) : ∀ t, t < 6 → q2 k C' t := by
  intro t ht
  have f3 : ∀ t k, C'.1 3 t k = C.1 3 t k := fun t k => by
    by_cases e : t = s
    · rw [e]; exact h.2.2.1 3 k (Or.inl rfl)
    · exact h.2.2.2.2.1 _ _ _ (Or.inl e)
  by_cases e : t = s
  · subst e
    refine ⟨fun p => absurd h.1 p.1, fun _ => ?_, fun _ _ => ?_, fun _ c => ?_⟩
    · rw [h.1]; exact ⟨by decide, by decide⟩
    · rw [h.1]; decide
    · rw [h.1] at c; exact absurd c (by decide)
  · obtain ⟨a0, a4, a5, a3, aU, aX⟩ := h.cq ht e
    have q := hq t ht
    unfold q2 at q ⊢
    rw [a0, a5, f3 t 0, f3 t 4, f3 (ot t) 0, aU]
    exact q
theorem Fa.kw {C C' : cr_C} {s : Nat} (h : Fa C C' s) (hs : s < 6) : (C.1 1 s 0 = 4 → wA C' ≤ wA C + wn (C.2.1 s)) ∧ (C.1 1 s 0 ≠ 4 → wA C' ≤ wA C) := by
  refine ⟨fun c => ?_, fun c => ?_⟩
  · obtain ⟨-, -, -, -, -, -, ⟨-, hX, -⟩ | ⟨c4, -⟩⟩ := h
    · have a1 := wA_sX C (C.2.1 (12 + s) ++ C.2.1 s ++ C.2.1 (6 + s)) (show 12 + s < 22 by omega)
      have a2 := wA_sX (cr_sX C (12 + s) (C.2.1 (12 + s) ++ C.2.1 s ++ C.2.1 (6 + s))) [] (show s < 22 by omega)
      have a3 := wA_sX (cr_sX (cr_sX C (12 + s) (C.2.1 (12 + s) ++ C.2.1 s ++ C.2.1 (6 + s))) s []) [] (show 6 + s < 22 by omega)
      rw [cr_sX_ne _ _ (show s ≠ 12 + s by omega), wr_lo (Or.inl hs), wr_lo (Or.inl hs)] at a2
      rw [cr_sX_ne _ _ (show 6 + s ≠ s by omega), cr_sX_ne _ _ (show 6 + s ≠ 12 + s by omega), wr_hi (by omega) (by omega), wr_hi (by omega) (by omega)] at a3
      rw [wr_hi (by omega) (by omega), wr_hi (by omega) (by omega)] at a1
      simp only [List.length_append, wn_app, List.length_nil, wn] at a1 a2 a3
      rw [show wA C' = wA (cr_fX C s) from wA_X hX]
      unfold cr_fX
      omega
    · exact absurd c c4
  · obtain ⟨-, -, -, -, -, -, ⟨c4, -⟩ | ⟨-, hX, -⟩⟩ := h
    · exact absurd c4 c
    · have a2 := wA_sX C [] (show s < 22 by omega)
      have a3 := wA_sX (cr_sX C s []) [] (show 6 + s < 22 by omega)
      rw [wr_lo (Or.inl hs), wr_lo (Or.inl hs)] at a2
      rw [wr_hi (by omega) (by omega), wr_hi (by omega) (by omega)] at a3
      simp only [List.length_nil, wn] at a2 a3
      rw [show wA C' = wA (cr_sX (cr_sX C s []) (6 + s) []) from wA_X hX]
      omega
theorem cg_le (C : cr_C) (s : Nat) : cg C s ≤ 2 := by
  unfold cg
  split <;> omega
theorem um_le (C : cr_C) (k s : Nat) : um C k s ≤ 1 := by
  have := uk_le (C.2.2 s)
  unfold um
  split <;> omega
theorem Fa.kPo {k : Nat} {C C' : cr_C} {s : Nat} (h : Fa C C' s) (hs : s < 6) (h5 : (C.2.1 s).length ≤ 5) : Po k C' ≤ Po k C := by
  have u0 : un C' s = 0 := if_neg (fun p => p.1.1 h.1)
  have b0 : be C' s = 0 := if_pos h.1
  have key : cr_su (bs C' k) 6 + 3 * wA C' ≤ cr_su (bs C k) 6 + 3 * wA C := by
    refine su_at hs ?_ (fun t ht e => ?_)
    · show 3 * (un C' s + cg C' s + um C' k s) + be C' s + 3 * wA C' ≤ 3 * (un C s + cg C s + um C k s) + be C s + 3 * wA C
      rw [u0, b0]
      obtain ⟨w1, w2⟩ := h.kw hs
      by_cases c : C.1 1 s 0 = 4
      · have b24 : be C s = 24 := by
          unfold be
          rw [c, if_neg (by decide), if_neg (by decide), if_neg (by decide)]
        have := w1 c
        have := wn_le (C.2.1 s)
        have := cg_le C' s
        have := um_le C' k s
        omega
      · have := w2 c
        obtain ⟨f0, f1, f3, f6, f5, fU, ⟨c4, -⟩ | ⟨-, -, g⟩⟩ := h
        · exact absurd c4 c
        · have e1 : cg C' s = cg C s := cg_of (g 0) (g 1) (g 2)
          have e2 : um C' k s = um C k s := by
            unfold um
            rw [f3 3 0 (Or.inl rfl), f0, fU]
            by_cases cc : k ≤ ot s ∧ C.1 3 s 0 = 4
            · rw [if_pos ⟨cc.1, cc.2, by decide⟩, if_pos ⟨cc.1, cc.2, c⟩]
            · rw [if_neg (fun q => cc ⟨q.1, q.2.1⟩), if_neg (fun q => cc ⟨q.1, q.2.1⟩)]
          omega
    · have a := h.cq ht e
      have f5 := h.2.2.2.2.1
      have e1 : cg C' t = cg C t := cg_of (f5 _ _ _ (Or.inl e)) (f5 _ _ _ (Or.inl e)) (f5 _ _ _ (Or.inl e))
      have e2 : um C' k t = um C k t := um_of a
      have e3 : be C' t = be C t := be_of (f5 _ _ _ (Or.inl e)) (f5 _ _ _ (Or.inl e))
      have e4 : un C' t ≤ un C t := by
        by_cases e5 : ot t = s
        · rw [show un C' t = 0 from if_neg (fun p => p.2.1 (by rw [e5]; exact h.1))]
          exact Nat.zero_le _
        · rw [un_of a (h.cq (ot_lt ht) e5)]
          exact Nat.le_refl _
      unfold bs
      omega
  unfold Po
  omega
theorem iy.fall {N : Nat} {C : cr_C} {e l : Nat} (h : iy N C (2 * l + e)) (he : e < 2) (hl : l < 3) : iz N (cs_E_fall C e l) :=
  ⟨(cw_fall C he hl h.1).1, (fall_Fa C he hl).i1 (by omega) h, (fall_Fa C he hl).iM (by omega) h.2.2⟩
theorem q1_fall {C : cr_C} (h : ∀ s, s < 6 → q1 C s) {e l : Nat} (he : e < 2) (hl : l < 3) : ∀ s, s < 6 → q1 (cs_E_fall C e l) s := (fall_Fa C he hl).kq1 (by omega) h
theorem q2_fall {k : Nat} {C : cr_C} (h : ∀ s, s < 6 → q2 k C s) {e l : Nat} (he : e < 2) (hl : l < 3) : ∀ s, s < 6 → q2 k (cs_E_fall C e l) s := (fall_Fa C he hl).kq2 h
theorem Po_fall {C : cr_C} (k : Nat) (h : cv C) {e l : Nat} (he : e < 2) (hl : l < 3) : Po k (cs_E_fall C e l) ≤ Po k C := (fall_Fa C he hl).kPo (by omega) (h.1.2.2 _ (by omega))
theorem IW.fall {N : Nat} {C : cr_C} (h : IW N C) {e l : Nat} (he : e < 2) (hl : l < 3) : IW N (cs_E_fall C e l) := ⟨(h.1.y _).fall he hl, q1_fall h.2 he hl⟩
theorem IV.fall {N k : Nat} {C : cr_C} (h : IV N k C) {e l : Nat} (he : e < 2) (hl : l < 3) : IV N k (cs_E_fall C e l) := ⟨h.1.fall he hl, q2_fall h.2 he hl⟩
/-! more units have come -/
theorem q2.up {k m : Nat} {C : cr_C} {s : Nat} (h : q2 k C s) (hm : k ≤ m) : q2 m C s := by
  obtain ⟨a, b⟩ := h
  exact ⟨fun x y z => ⟨fun w => (a x y z).1 (by omega), (a x y z).2⟩, b⟩
theorem IV.up {N k m : Nat} {C : cr_C} (h : IV N k C) (hm : k ≤ m) : IV N m C := ⟨h.1, fun s hs => (h.2 s hs).up hm⟩
theorem um_up (C : cr_C) {k m : Nat} (s : Nat) (hm : k ≤ m) : um C m s ≤ um C k s := by
  unfold um
  by_cases c : m ≤ ot s ∧ C.1 3 s 0 = 4 ∧ C.1 1 s 0 ≠ 4
  · rw [if_pos c, if_pos ⟨by omega, c.2⟩]
    exact Nat.le_refl _
  · rw [if_neg c]
    exact Nat.zero_le _
theorem Po_up (C : cr_C) {k m : Nat} (hm : k ≤ m) : Po m C ≤ Po k C := by
  have : cr_su (bs C m) 6 ≤ cr_su (bs C k) 6 := su_le (fun t _ => by
    have := um_up C t hm
    unfold bs
    omega)
  unfold Po
  omega
/-! what changes no side's outside -/
/-- only rows of those queued, kept, held, come and numbers besides changed -/
theorem IW.core {C C' : cr_C} (hq : ∀ s, s < 6 → q1 C s) (a : ∀ t, t < 6 → cq C C' t) : ∀ s, s < 6 → q1 C' s := fun s hs => (hq s hs).of (a s hs) (a _ (ot_lt hs))
theorem IV.core {k : Nat} {C C' : cr_C} (hq : ∀ s, s < 6 → q2 k C s) (a : ∀ t, t < 6 → cq C C' t) : ∀ s, s < 6 → q2 k C' s := fun s hs => (hq s hs).of (a s hs) (a _ (ot_lt hs))
