/-! the invariant: rows are put to, a changeover is settled -/
theorem bs_core {k : Nat} {C C' : cr_C} (a : ∀ t, t < 6 → cq C C' t) (ha : ∀ t, t < 6 → C'.1 1 t 1 = C.1 1 t 1) {t : Nat} (ht : t < 6) : bs C' k t + 3 * cg C t = bs C k t + 3 * cg C' t := by
  have e1 := un_of (a t ht) (a _ (ot_lt ht))
  have e2 := um_of (k := k) (a t ht)
  have e3 : be C' t = be C t := be_of (a t ht).1 (ha t ht)
  unfold bs
  omega
theorem put_cq (C : cr_C) {r : Nat} (μ : cr_m) (hr : 6 ≤ r) {t : Nat} (ht : t < 6) : cq C (cs_put C r μ) t := ⟨rfl, rfl, rfl, fun _ => rfl, rfl, cs_put_ne _ _ (by omega)⟩
theorem iz_put {N : Nat} {C : cr_C} {r : Nat} {μ : cr_m} (h : iz N C) (hr : 6 ≤ r) (hr2 : r < 12 ∨ 20 ≤ r) (hst : r < 12 → C.1 1 (r - 6) 0 = 4) (hm : mw N μ) (hc : cv (cs_put C r μ)) : iz N (cs_put C r μ) := by
  refine ⟨hc, fun t ht => ?_, fun q hq ν hν => ?_, h.2.2.2.1, fun e he => ?_⟩
  · obtain ⟨hA, hB, hD, hE⟩ := h.2.1 t ht
    refine ⟨hA, hB, hD.of (fun _ _ _ => rfl) (fun _ => rfl) (cs_put_ne _ _ (by omega)), hE.of rfl (cs_put_ne _ _ (by omega)) (fun c => cs_put_ne _ _ (fun e => c ?_)) rfl⟩
    have := hst (by omega)
    rw [← e, show 6 + t - 6 = t by omega] at this
    exact this
  · by_cases e : q = r
    · subst e
      unfold cs_put at hν
      rw [cr_sX_at] at hν
      rcases List.mem_append.mp hν with x | x
      · exact h.2.2.1 q hq ν x
      · rw [List.mem_singleton.mp x]
        exact hm
    · rw [cs_put_ne _ _ e] at hν
      exact h.2.2.1 q hq ν hν
  · rw [cs_put_ne _ _ (by omega)]
    exact h.2.2.2.2 e he
theorem Po_put {k : Nat} (C : cr_C) {r : Nat} (μ : cr_m) (hr : 6 ≤ r) (hr22 : r < 22) : Po k (cs_put C r μ) ≤ Po k C + 3 * (if 20 ≤ r ∨ μ.1 = 5 then 1 else 2) := by
  have h1 := wA_put C μ hr22
  have h2 : cr_su (bs (cs_put C r μ) k) 6 ≤ cr_su (bs C k) 6 := su_le (fun t ht => by
    have := bs_core (k := k) (fun t ht => put_cq C μ hr ht) (fun _ _ => rfl) ht
    have : cg (cs_put C r μ) t = cg C t := rfl
    omega)
  unfold Po
  omega
theorem say_cq (C : cr_C) {e : Nat} (μ : cr_m) {t : Nat} (ht : t < 6) : cq C (cs_E_say C e μ) t := by
  unfold cs_E_say
  repeat' split
  · exact put_cq C μ (by omega) ht
  · exact put_cq C μ (by omega) ht
  · exact put_cq C μ (by omega) ht
  · exact cq.refl C t
theorem first_st {C : cr_C} {e : Nat} : ((cs_E_firstServing C e).1 = 0 → C.1 1 (2 * 0 + e) 0 = 4) ∧ ((cs_E_firstServing C e).1 = 1 → C.1 1 (2 * 1 + e) 0 = 4) ∧ ((cs_E_firstServing C e).1 = 2 → C.1 1 (2 * 2 + e) 0 = 4) := by
  unfold cs_E_firstServing
  by_cases c0 : C.1 1 (2 * 0 + e) 0 = 4
  · rw [if_pos c0]
    exact ⟨fun _ => c0, fun x => absurd x (by show ¬ (0 : Int32) = 1; decide), fun x => absurd x (by show ¬ (0 : Int32) = 2; decide)⟩
  · rw [if_neg c0]
    by_cases c1 : C.1 1 (2 * 1 + e) 0 = 4
    · rw [if_pos c1]
      exact ⟨fun x => absurd x (by show ¬ (1 : Int32) = 0; decide), fun _ => c1, fun x => absurd x (by show ¬ (1 : Int32) = 2; decide)⟩
    · rw [if_neg c1]
      by_cases c2 : C.1 1 (2 * 2 + e) 0 = 4
      · rw [if_pos c2]
        exact ⟨fun x => absurd x (by show ¬ (2 : Int32) = 0; decide), fun x => absurd x (by show ¬ (2 : Int32) = 1; decide), fun _ => c2⟩
      · rw [if_neg c2]
        exact ⟨fun x => absurd x (by show ¬ (-1 : Int32) = 0; decide), fun x => absurd x (by show ¬ (-1 : Int32) = 1; decide), fun x => absurd x (by show ¬ (-1 : Int32) = 2; decide)⟩
theorem iz_say {N : Nat} {C : cr_C} (h : iz N C) {e : Nat} (he : e < 2) {μ : cr_m} (hm : mw N μ) (hv : cv_m μ) : iz N (cs_E_say C e μ) := by
  have hc := (cw_say (cw_refl C) he (fun _ => hv) h.1).1
  obtain ⟨s0, s1, s2⟩ := first_st (C := C) (e := e)
  unfold cs_E_say at hc ⊢
  by_cases c0 : (cs_E_firstServing C e).1 = 0
  · rw [if_pos c0] at hc ⊢
    exact iz_put h (by omega) (by omega) (fun _ => by rw [show 6 + (2 * 0 + e) - 6 = 2 * 0 + e by omega]; exact s0 c0) hm hc
  · rw [if_neg c0] at hc ⊢
    by_cases c1 : (cs_E_firstServing C e).1 = 1
    · rw [if_pos c1] at hc ⊢
      exact iz_put h (by omega) (by omega) (fun _ => by rw [show 6 + (2 * 1 + e) - 6 = 2 * 1 + e by omega]; exact s1 c1) hm hc
    · rw [if_neg c1] at hc ⊢
      by_cases c2 : (cs_E_firstServing C e).1 = 2
      · rw [if_pos c2] at hc ⊢
        exact iz_put h (by omega) (by omega) (fun _ => by rw [show 6 + (2 * 2 + e) - 6 = 2 * 2 + e by omega]; exact s2 c2) hm hc
      · rw [if_neg c2] at hc ⊢
        exact h
theorem Po_say {k : Nat} (C : cr_C) {e : Nat} (he : e < 2) (μ : cr_m) : Po k (cs_E_say C e μ) ≤ Po k C + 3 * (if μ.1 = 5 then 1 else 2) := by
  have key : ∀ l, l < 3 → Po k (cs_put C (6 + (2 * l + e)) μ) ≤ Po k C + 3 * (if μ.1 = 5 then 1 else 2) := fun l hl => by
    have := Po_put (k := k) C μ (show 6 ≤ 6 + (2 * l + e) by omega) (by omega)
    by_cases c : μ.1 = 5
    · rw [if_pos (Or.inr c)] at this
      rw [if_pos c]
      exact this
    · rw [if_neg (by rintro (x | x); omega; exact c x)] at this
      rw [if_neg c]
      exact this
  generalize 3 * (if μ.1 = 5 then 1 else 2) = B at *
  unfold cs_E_say
  repeat' split
  all_goals first | exact key 0 (by omega) | exact key 1 (by omega) | exact key 2 (by omega) | omega
/-- a changeover is settled -/
def cs_set (C : cr_C) (s p : Nat) : cr_C := cr_sI (cr_sI (cr_sX C (12 + s) ((C.2.1 (12 + s)).drop p)) 2 s 7 0) 2 s 2 1
theorem settle_set (C : cr_C) (s : Nat) (x : Int32) : ∃ p, cs_C_settle C s x = cs_set C s p := by
  have e0 : cs_set C s 0 = cr_sI (cr_sI C 2 s 7 0) 2 s 2 1 := by
    unfold cs_set
    rw [List.drop_zero, cr_sX_same]
  unfold cs_C_settle
  repeat' split
  · exact ⟨0, e0.symm⟩
  · exact ⟨0, e0.symm⟩
  · exact ⟨_, rfl⟩
theorem set_cq (C : cr_C) (s p : Nat) {t : Nat} (ht : t < 6) : cq C (cs_set C s p) t := by
  unfold cs_set
  refine ⟨?_, ?_, ?_, fun _ => ?_, rfl, cr_sX_ne _ _ (by omega)⟩
  all_goals rw [cr_sI_ne _ _ (by omega), cr_sI_ne _ _ (by omega)]; rfl
theorem iz_set {N : Nat} {C : cr_C} (h : iz N C) {s : Nat} (hs : s < 6) (p : Nat) : iz N (cs_set C s p) := by
  have e2 : ∀ κ t j, ¬ (κ = 2 ∧ t = s ∧ (j = 7 ∨ j = 2)) → (cs_set C s p).1 κ t j = C.1 κ t j := fun κ t j hne => by
    unfold cs_set
    rw [cr_sI_ne _ _ (by omega), cr_sI_ne _ _ (by omega)]
    rfl
  have x12 : (cs_set C s p).2.1 (12 + s) = (C.2.1 (12 + s)).drop p := cr_sX_at _ _ _
  have xr : ∀ r, r ≠ 12 + s → (cs_set C s p).2.1 r = C.2.1 r := fun r hr => cr_sX_ne _ _ hr
  have hn : cr_nb (cs_set C s p) s = 0 := by
    unfold cr_nb cs_set
    rw [cr_sI_ne _ _ (by omega), cr_sI_at]
    rfl
  refine ⟨?_, fun t ht => ?_, fun q hq ν hν => ?_, h.2.2.2.1, fun e he => ?_⟩
  · have := cw_sI (i := s) (k := 2) (x := 1) (κ := 2) (cw_0 (s := s) (cw_drop (cw_refl C) (r := 12 + s) (k := p) (by omega))) rfl h.1
    exact this.1
  · obtain ⟨hA, hB, hD, hE⟩ := h.2.1 t ht
    refine ⟨hA.of (fun j _ => e2 _ _ _ (by omega)), hB.of (fun j _ => e2 _ _ _ (by omega)) (e2 _ _ _ (by omega)), ?_, hE.of (e2 _ _ _ (by omega)) (xr _ (by omega)) (fun _ => xr _ (by omega)) (e2 _ _ _ (by omega))⟩
    by_cases e : t = s
    · subst e
      obtain ⟨d1, d2, d3, d4, d5, d6, d7⟩ := hD
      unfold iD
      rw [hn, x12, e2 2 t 4 (by omega), e2 2 t 5 (by omega), e2 2 t 6 (by omega), e2 2 t 0 (by omega)]
      refine ⟨d1, d2, d3, fun c => by rw [d4 c]; exact List.drop_nil, Nat.zero_le _, fun _ => rfl, fun i hi => ?_⟩
      rw [e2 6 t i (by omega)]
      exact d7 i hi
    · exact hD.of (fun j _ _ => e2 _ _ _ (by omega)) (fun i => e2 _ _ _ (by omega)) (xr _ (by omega))
  · by_cases e : q = 12 + s
    · rw [e, x12] at hν
      exact h.2.2.1 (12 + s) (by omega) ν (List.mem_of_mem_drop hν)
    · rw [xr _ e] at hν
      exact h.2.2.1 q hq ν hν
  · rw [xr _ (by omega)]
    exact h.2.2.2.2 e he
theorem Po_set {k : Nat} (C : cr_C) {s : Nat} (hs : s < 6) (p : Nat) : Po k (cs_set C s p) ≤ Po k C := by
  have h1 : wA (cs_set C s p) ≤ wA C := by
    have a := wA_sX C ((C.2.1 (12 + s)).drop p) (show 12 + s < 22 by omega)
    rw [wr_hi (by omega) (by omega), wr_hi (by omega) (by omega), List.length_drop] at a
    have b := wn_drop p (C.2.1 (12 + s))
    have c : wA (cs_set C s p) = wA (cr_sX C (12 + s) ((C.2.1 (12 + s)).drop p)) := wA_X rfl
    omega
  have h2 : cr_su (bs (cs_set C s p) k) 6 ≤ cr_su (bs C k) 6 := su_le (fun t ht => by
    have a := bs_core (k := k) (fun t ht => set_cq C s p ht) (fun t ht => by unfold cs_set; rw [cr_sI_ne _ _ (by omega), cr_sI_ne _ _ (by omega)]; rfl) ht
    have b : cg (cs_set C s p) t ≤ cg C t := by
      by_cases e : t = s
      · subst e
        have e2 : (cs_set C t p).1 2 t 2 = 1 := cr_sI_at _ _ _ _ _
        unfold cg
        rw [if_neg (fun x => absurd (e2.symm.trans x.2.1) (by decide))]
        exact Nat.zero_le _
      · have : cg (cs_set C s p) t = cg C t := cg_of (by unfold cs_set; rw [cr_sI_ne _ _ (by omega), cr_sI_ne _ _ (by omega)]; rfl) (by unfold cs_set; rw [cr_sI_ne _ _ (by omega), cr_sI_ne _ _ (by omega)]; rfl) (by unfold cs_set; rw [cr_sI_ne _ _ (by omega), cr_sI_ne _ _ (by omega)]; rfl)
        omega
    omega)
  unfold Po
  omega
theorem IV_set {N k : Nat} {C : cr_C} (h : IV N k C) {s : Nat} (hs : s < 6) (x : Int32) : IV N k (cs_C_settle C s x) ∧ Po k (cs_C_settle C s x) ≤ Po k C := by
  obtain ⟨p, e⟩ := settle_set C s x
  rw [e]
  exact ⟨⟨⟨iz_set h.1.1 hs p, IW.core h.1.2 (fun t ht => set_cq C s p ht)⟩, IV.core h.2 (fun t ht => set_cq C s p ht)⟩, Po_set C hs p⟩
theorem IV_say {N k : Nat} {C : cr_C} (h : IV N k C) {e : Nat} (he : e < 2) {μ : cr_m} (hm : mw N μ) (hv : cv_m μ) : IV N k (cs_E_say C e μ) ∧ Po k (cs_E_say C e μ) ≤ Po k C + 3 * (if μ.1 = 5 then 1 else 2) :=
  ⟨⟨⟨iz_say h.1.1 he hm hv, IW.core h.1.2 (fun _ ht => say_cq C μ ht)⟩, IV.core h.2 (fun _ ht => say_cq C μ ht)⟩, Po_say C he μ⟩
theorem IV_ord0 {N k : Nat} {C : cr_C} (h : IV N k C) {e l : Nat} (he : e < 2) (hl : l < 3) (μ : cr_m) : IV N k (cs_E_ord0 C e l μ) ∧ Po k (cs_E_ord0 C e l μ) ≤ Po k C := by
  unfold cs_E_ord0
  repeat' split
  all_goals first | exact ⟨h, Nat.le_refl _⟩ | exact ⟨h.fall he hl, Po_fall k h.1.1.1 he hl⟩
theorem IV_takeOrder {N k : Nat} {C : cr_C} (h : IV N k C) {e l : Nat} (he : e < 2) (hl : l < 3) (μ : cr_m) (ht : nb (cr_mk μ 3) (N + 1)) : IV N k (cs_E_takeOrder C e l μ) ∧ Po k (cs_E_takeOrder C e l μ) ≤ Po k C + 3 := by
  unfold cs_E_takeOrder cs_E_ord1 cs_E_ord2
  obtain ⟨a, b⟩ := IV_ord0 h he hl μ
  generalize cs_E_ord0 C e l μ = C1 at *
  have hb : (cs_Y_backFor C1 (2 * l + e) (cr_mk μ 3)).1 = -1 ∨ nb (cs_Y_backFor C1 (2 * l + e) (cr_mk μ 3)).1 8 := by
    unfold cs_Y_backFor
    split
    · exact (a.1.1.2.1 (2 * l + e) (by omega)).2.2.1.2.2.2.2.2.2 _ (cr_f16lt _)
    · exact Or.inl rfl
  generalize (cs_Y_backFor C1 (2 * l + e) (cr_mk μ 3)).1 = y at *
  obtain ⟨a2, b2⟩ := IV_say a he (μ := (5, Int32.ofNat l, y, cr_mk μ 3)) (fun _ => ⟨hb, ht⟩) (cv_m5 hl _ _ _ (Or.inr rfl))
  rw [if_pos rfl] at b2
  generalize cs_E_say C1 e (5, Int32.ofNat l, y, cr_mk μ 3) = C2 at *
  repeat' split
  all_goals first | exact ⟨a2, by omega⟩ | exact ⟨(IV_set a2 (by omega) _).1, by have := (IV_set a2 (show 2 * l + e < 6 by omega) (cr_mk μ 2)).2; omega⟩
theorem IV_takeAnswer {N k : Nat} {C : cr_C} (h : IV N k C) {e l : Nat} (he : e < 2) (hl : l < 3) (μ : cr_m) : IV N k (cs_E_takeAnswer C e l μ) ∧ Po k (cs_E_takeAnswer C e l μ) ≤ Po k C := by
  unfold cs_E_takeAnswer
  repeat' split
  all_goals first | exact ⟨h, Nat.le_refl _⟩ | exact IV_set h (by omega) _
theorem IV_takeIn {N k : Nat} {C : cr_C} (h : IV N k C) {e l : Nat} (he : e < 2) {μ : cr_m} (hm : cv_m μ) (hw : mw N μ) (hl : cr_mk μ 0 = 4 ∨ cr_mk μ 0 = 5 → l < 3) : IV N k (cs_E_takeIn C e l μ) ∧ Po k (cs_E_takeIn C e l μ) ≤ Po k C + 3 * uk (some μ) := by
  unfold cs_E_takeIn
  by_cases c4 : cr_mk μ 0 = 4
  · rw [if_pos c4, show uk (some μ) = 1 from if_neg (fun x => absurd (c4.symm.trans x) (by decide))]
    exact IV_takeOrder h he (hl (Or.inl c4)) μ (hw (Or.inl c4)).2
  · rw [if_neg c4]
    by_cases c5 : cr_mk μ 0 = 5
    · rw [if_pos c5]
      obtain ⟨a, b⟩ := IV_takeAnswer h he (hl (Or.inr c5)) μ
      exact ⟨a, by omega⟩
    · rw [if_neg c5, show uk (some μ) = 1 from if_neg c5]
      have hc : cv (cs_put C (20 + e) μ) := (cw_put (cw_refl C) (r := 20 + e) (by omega) (by omega) (fun _ => ⟨hm, fun _ x => by omega⟩) h.1.1.1).1
      have hp := Po_put (k := k) C μ (show 6 ≤ 20 + e by omega) (by omega)
      rw [if_pos (Or.inl (by omega))] at hp
      exact ⟨⟨⟨iz_put h.1.1 (by omega) (by omega) (fun x => by omega) hw hc, IW.core h.1.2 (fun _ ht => put_cq C μ (by omega) ht)⟩, IV.core h.2 (fun _ ht => put_cq C μ (by omega) ht)⟩, hp⟩
