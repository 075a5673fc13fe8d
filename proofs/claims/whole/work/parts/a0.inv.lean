/-! what stays so of the class's state: its messages and links are such, its rows don't grow by more than so many -/
def cv_m (μ : cr_m) : Prop := cr_mc μ ∨ ((μ.1 = 4 ∨ μ.1 = 5) ∧ μ.2.1 = Int32.ofNat (cr_wl μ) ∧ cr_wl μ < 3)
def cv_X (X : Nat → List cr_m) : Prop := (∀ r, r < 22 → ∀ μ ∈ X r, cv_m μ) ∧ (∀ r, 18 ≤ r → r < 20 → ∀ μ ∈ X r, cr_mc μ) ∧ ∀ s, s < 6 → (X s).length ≤ 5
def cv_I (I : cr_I) : Prop := (∀ e k, e < 2 → k < 4 → I 7 e k = Int32.ofNat (I 7 e k).toNatClampNeg ∧ (I 7 e k).toNatClampNeg < 3) ∧ ∀ s, s < 6 → I 2 s 7 = Int32.ofNat (I 2 s 7).toNatClampNeg ∧ (I 2 s 7).toNatClampNeg ≤ 5
def cv_U (U : Nat → Option cr_m) : Prop := ∀ s, s < 6 → ∀ μ, U s = some μ → cv_m μ
def cv (C : cr_C) : Prop := cv_X C.2.1 ∧ cv_I C.1 ∧ cv_U C.2.2
/-- how many messages are in rows -/
def cz (C : cr_C) : Nat := cr_su (fun r => (C.2.1 r).length) 22
def cw (C D : cr_C) (a : Nat) : Prop := cv C → cv D ∧ cz D ≤ cz C + a
theorem cv_m.mo {μ : cr_m} (h : cv_m μ) : cr_mo μ := by
  intro c
  rcases h with h | ⟨h | h, -⟩
  · exact h
  · exact absurd (by rw [h]; decide) c
  · exact absurd (by rw [h]; decide) c
theorem cz_X {C D : cr_C} (h : D.2.1 = C.2.1) : cz D = cz C := by unfold cz; rw [h]
theorem cz_sX (C : cr_C) {r : Nat} (zs : List cr_m) (hr : r < 22) : cz (cr_sX C r zs) + (C.2.1 r).length = cz C + zs.length := by
  have e : (fun q => ((cr_sX C r zs).2.1 q).length) = cr_a (fun q => (C.2.1 q).length) r zs.length := by
    funext q
    unfold cr_a
    simp only [cr_sX]
    split <;> rfl
  unfold cz
  rw [e]
  exact cr_su_up (fun q => (C.2.1 q).length) r zs.length 22 hr
theorem cr_sX_ne (C : cr_C) {r q : Nat} (zs : List cr_m) (h : q ≠ r) : (cr_sX C r zs).2.1 q = C.2.1 q := by simp only [cr_sX, if_neg h]
theorem cz_len (C : cr_C) {r : Nat} (hr : r < 22) : (C.2.1 r).length ≤ cz C := by
  have := cz_sX C [] hr
  rw [List.length_nil] at this
  omega
theorem cz_len3 (C : cr_C) {a b c : Nat} (ha : a < 22) (hb : b < 22) (hc : c < 22) (h1 : b ≠ a) (h2 : c ≠ a) (h3 : c ≠ b) : (C.2.1 a).length + (C.2.1 b).length + (C.2.1 c).length ≤ cz C := by
  have a1 := cz_sX C [] ha
  have a2 := cz_sX (cr_sX C a []) [] hb
  have a3 := cz_sX (cr_sX (cr_sX C a []) b []) [] hc
  rw [cr_sX_ne _ _ h1] at a2
  rw [cr_sX_ne _ _ h3, cr_sX_ne _ _ h2] at a3
  rw [List.length_nil] at a1 a2 a3
  omega
theorem cvI_sI {C : cr_C} {κ i k : Nat} {x : Int32} (h : cv_I C.1) (hk : (κ == 7 || (κ == 2 && k == 7)) = false) : cv_I (cr_sI C κ i k x).1 := by
  have h7 : κ ≠ 7 := fun e => by rw [e] at hk; cases hk
  have h27 : ¬ (κ = 2 ∧ k = 7) := fun e => by rw [e.1, e.2] at hk; cases hk
  refine ⟨fun e k' he hk' => ?_, fun s hs => ?_⟩
  · have e1 : (cr_sI C κ i k x).1 7 e k' = C.1 7 e k' := by
      simp only [cr_sI, cr_u]
      rw [if_neg (fun q => h7 q.1.symm)]
    rw [e1]
    exact h.1 e k' he hk'
  · have e1 : (cr_sI C κ i k x).1 2 s 7 = C.1 2 s 7 := by
      simp only [cr_sI, cr_u]
      rw [if_neg (fun q => h27 ⟨q.1.symm, q.2.2.symm⟩)]
    rw [e1]
    exact h.2 s hs
theorem cvI_27 {C : cr_C} {s u : Nat} (h : cv_I C.1) (hu : u ≤ 5) : cv_I (cr_sI C 2 s 7 (Int32.ofNat u)).1 := by
  refine ⟨fun e k' he hk' => ?_, fun t ht => ?_⟩
  · have e1 : (cr_sI C 2 s 7 (Int32.ofNat u)).1 7 e k' = C.1 7 e k' := by simp [cr_sI, cr_u]
    rw [e1]
    exact h.1 e k' he hk'
  · by_cases e : t = s
    · subst e
      rw [cr_sI_at, ev_cl u (by omega)]
      exact ⟨rfl, hu⟩
    · have e1 : (cr_sI C 2 s 7 (Int32.ofNat u)).1 2 t 7 = C.1 2 t 7 := by simp [cr_sI, cr_u, e]
      rw [e1]
      exact h.2 t ht
theorem cvI_7 {C : cr_C} {e k l : Nat} (h : cv_I C.1) (hl : l < 3) : cv_I (cr_sI C 7 e k (Int32.ofNat l)).1 := by
  refine ⟨fun e' k' he hk' => ?_, fun t ht => ?_⟩
  · by_cases e1 : e' = e ∧ k' = k
    · obtain ⟨rfl, rfl⟩ := e1
      rw [cr_sI_at, ev_cl l (by omega)]
      exact ⟨rfl, hl⟩
    · have e2 : (cr_sI C 7 e k (Int32.ofNat l)).1 7 e' k' = C.1 7 e' k' := by
        simp only [cr_sI, cr_u]
        rw [if_neg (fun q => e1 q.2)]
      rw [e2]
      exact h.1 e' k' he hk'
  · have e1 : (cr_sI C 7 e k (Int32.ofNat l)).1 2 t 7 = C.1 2 t 7 := by simp [cr_sI, cr_u]
    rw [e1]
    exact h.2 t ht
theorem cvX_sX {C : cr_C} {r : Nat} {zs : List cr_m} (h : cv_X C.2.1) (hz : ∀ μ ∈ zs, cv_m μ ∧ (18 ≤ r → r < 20 → cr_mc μ)) (h5 : r < 6 → zs.length ≤ 5) : cv_X (cr_sX C r zs).2.1 := by
  refine ⟨fun q hq μ hμ => ?_, fun q h1 h2 μ hμ => ?_, fun s hs => ?_⟩
  · by_cases e : q = r
    · subst e
      rw [cr_sX_at] at hμ
      exact (hz μ hμ).1
    · rw [cr_sX_ne _ _ e] at hμ
      exact h.1 q hq μ hμ
  · by_cases e : q = r
    · subst e
      rw [cr_sX_at] at hμ
      exact (hz μ hμ).2 h1 h2
    · rw [cr_sX_ne _ _ e] at hμ
      exact h.2.1 q h1 h2 μ hμ
  · by_cases e : s = r
    · subst e
      rw [cr_sX_at]
      exact h5 hs
    · rw [cr_sX_ne _ _ e]
      exact h.2.2 s hs
theorem cw_refl (C : cr_C) : cw C C 0 := fun h => ⟨h, Nat.le_refl _⟩
theorem cw.then {C D E : cr_C} {a b : Nat} (h1 : cw C D a) (h2 : cw D E b) : cw C E (a + b) := fun h => by
  obtain ⟨k1, k2⟩ := h1 h
  obtain ⟨k3, k4⟩ := h2 k1
  exact ⟨k3, by omega⟩
theorem cw.le {C D : cr_C} {a b : Nat} (h1 : cw C D a) (h : a ≤ b) : cw C D b := fun h0 => ⟨(h1 h0).1, by have := (h1 h0).2; omega⟩
theorem cw_sI {C D : cr_C} {κ i k a : Nat} {x : Int32} (h : cw C D a) (hk : (κ == 7 || (κ == 2 && k == 7)) = false) : cw C (cr_sI D κ i k x) a := fun h0 => ⟨⟨(h h0).1.1, cvI_sI (h h0).1.2.1 hk, (h h0).1.2.2⟩, (h h0).2⟩
theorem cw_27 {C D : cr_C} {s u a : Nat} (h : cw C D a) (hu : u ≤ 5) : cw C (cr_sI D 2 s 7 (Int32.ofNat u)) a := fun h0 => ⟨⟨(h h0).1.1, cvI_27 (h h0).1.2.1 hu, (h h0).1.2.2⟩, (h h0).2⟩
theorem cw_0 {C D : cr_C} {s a : Nat} (h : cw C D a) : cw C (cr_sI D 2 s 7 0) a := cw_27 (u := 0) h (by omega)
theorem cw_7 {C D : cr_C} {e k l a : Nat} (h : cw C D a) (hl : l < 3) : cw C (cr_sI D 7 e k (Int32.ofNat l)) a := fun h0 => ⟨⟨(h h0).1.1, cvI_7 (h h0).1.2.1 hl, (h h0).1.2.2⟩, (h h0).2⟩
theorem cw_sub {C D : cr_C} {r a : Nat} {zs : List cr_m} (h : cw C D a) (hr : r < 22) (hz : ∀ μ ∈ zs, μ ∈ D.2.1 r) (hl : zs.length ≤ (D.2.1 r).length) : cw C (cr_sX D r zs) a := fun h0 => by
  obtain ⟨k1, k2⟩ := h h0
  have := cz_sX D zs hr
  refine ⟨⟨cvX_sX k1.1 (fun μ hμ => ⟨k1.1.1 r hr μ (hz μ hμ), fun a b => k1.1.2.1 r a b μ (hz μ hμ)⟩) (fun h6 => ?_), k1.2.1, k1.2.2⟩, by omega⟩
  have := k1.1.2.2 r h6
  omega
theorem cw_drop {C D : cr_C} {r a k : Nat} (h : cw C D a) (hr : r < 22) : cw C (cr_sX D r ((D.2.1 r).drop k)) a := cw_sub h hr (fun _ hμ => List.mem_of_mem_drop hμ) (by rw [List.length_drop]; omega)
theorem cw_nil {C D : cr_C} {r a : Nat} (h : cw C D a) (hr : r < 22) : cw C (cr_sX D r []) a := cw_sub h hr (fun _ hμ => absurd hμ List.not_mem_nil) (Nat.zero_le _)
theorem cw_put {C D : cr_C} {r a : Nat} {μ : cr_m} (h : cw C D a) (hr : r < 22) (h6 : 6 ≤ r) (hm : cv D → cv_m μ ∧ (18 ≤ r → r < 20 → cr_mc μ)) : cw C (cs_put D r μ) (a + 1) := fun h0 => by
  obtain ⟨k1, k2⟩ := h h0
  have e := cz_sX D (D.2.1 r ++ [μ]) hr
  rw [List.length_append, List.length_singleton] at e
  refine ⟨⟨cvX_sX k1.1 (fun ν hν => ?_) (fun h => by omega), k1.2.1, k1.2.2⟩, ?_⟩
  · rcases List.mem_append.mp hν with h1 | h1
    · exact ⟨k1.1.1 r hr ν h1, fun a b => k1.1.2.1 r a b ν h1⟩
    · rw [List.mem_singleton.mp h1]
      exact hm k1
  · show cz (cr_sX D r (D.2.1 r ++ [μ])) ≤ _
    omega
theorem cw_sU {C D : cr_C} {s a : Nat} {v : Option cr_m} (h : cw C D a) (hv : cv D → ∀ μ, v = some μ → cv_m μ) : cw C (cr_sU D s v) a := fun h0 => by
  obtain ⟨k1, k2⟩ := h h0
  refine ⟨⟨k1.1, k1.2.1, fun t ht μ hμ => ?_⟩, k2⟩
  by_cases e : t = s
  · simp only [cr_sU, if_pos e] at hμ
    exact hv k1 μ hμ
  · simp only [cr_sU, if_neg e] at hμ
    exact k1.2.2 t ht μ hμ
/- the steps of the class -/
theorem cw_comeTo {C D : cr_C} {a : Nat} (h : cw C D a) (s : Nat) (x : Int32) : cw C (cs_S_comeTo D s x) a := cw_sI (cw_sI h rfl) rfl
theorem cw_good (C : cr_C) (s : Nat) : cw C (cs_S_countGood C s) 0 := by
  unfold cs_S_countGood
  repeat' split
  all_goals repeat (first | exact cw_refl _ | refine cw_sI ?_ rfl)
theorem cw_follow (C : cr_C) (s : Nat) (x : Int32) : cw C (cs_S_followBackBit C s x) 0 := by
  unfold cs_S_followBackBit
  repeat' split
  all_goals repeat (first | exact cw_refl _ | refine cw_sI ?_ rfl)
theorem cw_fAge (C : cr_C) (s : Nat) : cw C (cs_S_failsByAge C s).2 0 := by
  unfold cs_S_failsByAge
  repeat' split
  all_goals dsimp only
  all_goals repeat (first | exact cw_refl _ | refine cw_sI ?_ rfl | refine cw_comeTo ?_ _ _)
theorem cw_fDam (C : cr_C) (s : Nat) : cw C (cs_S_failsByDamage C s).2 0 := by
  unfold cs_S_failsByDamage
  repeat' split
  all_goals dsimp only
  all_goals repeat (first | exact cw_refl _ | refine cw_sI ?_ rfl | refine cw_comeTo ?_ _ _)
theorem cw_answered (C : cr_C) {s : Nat} (hs : s < 6) (x : Int32) : cw C (cs_S_answered C s x).2 0 := by
  unfold cs_S_answered
  repeat' split
  all_goals dsimp only
  all_goals repeat (first | exact cw_refl _ | refine cw_sI ?_ rfl | refine cw_drop ?_ (by omega))
theorem cw_clear {C D : cr_C} {a s : Nat} (h : cw C D a) (hs : s < 6) : cw C (cs_S_clearRows D s) a := by
  unfold cs_S_clearRows
  exact cw_sI (cw_nil (cw_nil h (by omega)) (by omega)) rfl
theorem cw_begin (C : cr_C) {s : Nat} (hs : s < 6) : cw C (cs_S_begin C s) 0 := by
  unfold cs_S_begin
  refine cw_clear ?_ hs
  repeat (first | exact cw_refl _ | refine cw_sI ?_ rfl | refine cw_comeTo ?_ _ _)
theorem cw_settle (C : cr_C) {s : Nat} (hs : s < 6) (x : Int32) : cw C (cs_C_settle C s x) 0 := by
  unfold cs_C_settle
  repeat' split
  all_goals repeat (first | exact cw_refl _ | refine cw_0 ?_ | refine cw_sI ?_ rfl | refine cw_drop ?_ (by omega))
theorem cw_giveUp (C : cr_C) {s : Nat} (hs : s < 6) (u : Nat) : cw C (cs_C_giveUp C s u).2 0 := by
  unfold cs_C_giveUp
  exact cw_sI (cw_0 (cw_drop (cw_refl C) (by omega))) rfl
/-- the rows after a serving side fell -/
def cr_fX (C : cr_C) (s : Nat) : cr_C := cr_sX (cr_sX (cr_sX C (12 + s) (C.2.1 (12 + s) ++ C.2.1 s ++ C.2.1 (6 + s))) s []) (6 + s) []
theorem cs_fall_X (C : cr_C) (e l : Nat) (c : C.1 1 (2 * l + e) 0 = 4) : (cs_E_fall C e l).2.1 = (cr_fX C (2 * l + e)).2.1 := by
  unfold cs_E_fall
  rw [if_pos c]
  unfold cs_C_begin
  split <;> rfl
theorem cs_fall_U (C : cr_C) (e l : Nat) : (cs_E_fall C e l).2.2 = C.2.2 := by
  unfold cs_E_fall
  split
  · unfold cs_C_begin
    split <;> rfl
  · rfl
theorem cw_fall (C : cr_C) {e l : Nat} (he : e < 2) (hl : l < 3) : cw C (cs_E_fall C e l) 0 := by
  have hs : 2 * l + e < 6 := by omega
  by_cases c : C.1 1 (2 * l + e) 0 = 4
  · intro h
    have hX := cs_fall_X C e l c
    have h5 := h.1.2.2 _ hs
    refine ⟨⟨?_, ?_, ?_⟩, ?_⟩
    · rw [hX]
      refine cvX_sX (cvX_sX (cvX_sX h.1 (fun μ hμ => ?_) (fun h => by omega)) (fun μ hμ => absurd hμ List.not_mem_nil) (fun _ => Nat.zero_le _)) (fun μ hμ => absurd hμ List.not_mem_nil) (fun _ => Nat.zero_le _)
      refine ⟨?_, fun a b => by omega⟩
      rcases List.mem_append.mp hμ with h1 | h1
      · rcases List.mem_append.mp h1 with h2 | h2
        · exact h.1.1 _ (by omega) μ h2
        · exact h.1.1 _ (by omega) μ h2
      · exact h.1.1 _ (by omega) μ h1
    · have hI := h.2.1
      unfold cs_E_fall
      rw [if_pos c]
      unfold cs_C_begin
      split
      · unfold cs_S_clearRows cs_C_tail cs_Y_keep cs_S_comeTo
        repeat (first | exact hI | refine cvI_sI ?_ rfl | refine cvI_27 ?_ h5 | (show cv_I (Prod.fst (cr_sI _ _ _ _ _))))
      · unfold cs_S_clearRows cs_C_tail cs_Y_keep cs_S_comeTo
        repeat (first | exact hI | refine cvI_sI ?_ rfl | refine cvI_27 ?_ h5 | (show cv_I (Prod.fst (cr_sI _ _ _ _ _))))
    · rw [cs_fall_U]
      exact h.2.2
    · have e1 : cz (cs_E_fall C e l) = cz (cr_fX C (2 * l + e)) := cz_X hX
      have a1 := cz_sX C (C.2.1 (12 + (2 * l + e)) ++ C.2.1 (2 * l + e) ++ C.2.1 (6 + (2 * l + e))) (show 12 + (2 * l + e) < 22 by omega)
      have a2 := cz_sX (cr_sX C (12 + (2 * l + e)) (C.2.1 (12 + (2 * l + e)) ++ C.2.1 (2 * l + e) ++ C.2.1 (6 + (2 * l + e)))) [] (show 2 * l + e < 22 by omega)
      have a3 := cz_sX (cr_sX (cr_sX C (12 + (2 * l + e)) (C.2.1 (12 + (2 * l + e)) ++ C.2.1 (2 * l + e) ++ C.2.1 (6 + (2 * l + e)))) (2 * l + e) []) [] (show 6 + (2 * l + e) < 22 by omega)
      rw [cr_sX_ne _ _ (show 2 * l + e ≠ 12 + (2 * l + e) by omega)] at a2
      rw [cr_sX_ne _ _ (show 6 + (2 * l + e) ≠ 2 * l + e by omega), cr_sX_ne _ _ (show 6 + (2 * l + e) ≠ 12 + (2 * l + e) by omega)] at a3
      rw [List.length_nil] at a2 a3
      simp only [List.length_append] at a1
      rw [e1]
      unfold cr_fX
      omega
  · unfold cs_E_fall
    rw [if_neg c]
    exact cw_clear (cw_sI (cw_comeTo (cw_refl C) _ _) rfl) hs
theorem cw_seek (C : cr_C) {e l : Nat} (he : e < 2) (hl : l < 3) : cw C (cs_E_seekComes C e l) 0 := by
  unfold cs_E_seekComes
  repeat' split
  all_goals first | exact cw_refl _ | exact cw_fall C he hl | exact cw_comeTo (cw_refl C) _ _ | exact cw_sI (cw_sI (cw_refl C) rfl) rfl
theorem cw_prove (C : cr_C) {e l : Nat} (he : e < 2) (hl : l < 3) : cw C (cs_E_proveComes C e l) 0 := by
  unfold cs_E_proveComes
  repeat' split
  all_goals first | exact cw_refl _ | exact cw_fall C he hl | exact cw_comeTo (cw_refl C) _ _
theorem cw_out (C : cr_C) {e l : Nat} (he : e < 2) (hl : l < 3) : cw C (cs_E_outComes C e l) 0 := by
  unfold cs_E_outComes
  repeat' split
  all_goals first | exact cw_refl _ | exact cw_fall C he hl
theorem cw_status (C : cr_C) {e l : Nat} (t : Nat) (he : e < 2) (hl : l < 3) : cw C (cs_E_statusComes C e l t) 0 := by
  unfold cs_E_statusComes
  repeat' split
  · exact cw_sI (cw_seek C he hl) rfl
  · exact cw_sI (cw_prove C he hl) rfl
  · exact cw_out C he hl
theorem cw_age (C : cr_C) {e l : Nat} (he : e < 2) (hl : l < 3) : cw C (cs_E_age C e l) 0 := by
  unfold cs_E_age
  split
  · exact cw_fAge C _
  · exact (cw_fAge C _).then (cw_fall _ he hl)
theorem cw_damaged (C : cr_C) {e l : Nat} (he : e < 2) (hl : l < 3) : cw C (cs_E_damagedComes C e l) 0 := by
  unfold cs_E_damagedComes
  split
  · exact cw_fDam C _
  · exact (cw_fDam C _).then (cw_fall _ he hl)
theorem cw_say {C D : cr_C} {a e : Nat} {μ : cr_m} (h : cw C D a) (he : e < 2) (hm : cv D → cv_m μ) : cw C (cs_E_say D e μ) (a + 1) := by
  unfold cs_E_say
  repeat' split
  · exact cw_put h (by omega) (by omega) (fun k => ⟨hm k, fun _ _ => by omega⟩)
  · exact cw_put h (by omega) (by omega) (fun k => ⟨hm k, fun _ _ => by omega⟩)
  · exact cw_put h (by omega) (by omega) (fun k => ⟨hm k, fun _ _ => by omega⟩)
  · exact h.le (Nat.le_succ a)
theorem cw_takeAnswer (C : cr_C) {e l : Nat} (μ : cr_m) (he : e < 2) (hl : l < 3) : cw C (cs_E_takeAnswer C e l μ) 0 := by
  unfold cs_E_takeAnswer
  repeat' split
  all_goals first | exact cw_refl _ | exact cw_settle C (by omega) _
theorem cw_ord0 (C : cr_C) {e l : Nat} (μ : cr_m) (he : e < 2) (hl : l < 3) : cw C (cs_E_ord0 C e l μ) 0 := by
  unfold cs_E_ord0
  repeat' split
  all_goals first | exact cw_refl _ | exact cw_fall C he hl
theorem cw_ord2 (C : cr_C) {s : Nat} (μ : cr_m) (hs : s < 6) : cw C (cs_E_ord2 C s μ) 0 := by
  unfold cs_E_ord2
  repeat' split
  all_goals first | exact cw_refl _ | exact cw_settle C hs _
theorem cv_m5 {l : Nat} (hl : l < 3) (x y : Int32) (k : Int32) (hk : k = 4 ∨ k = 5) : cv_m (k, Int32.ofNat l, x, y) := by
  have e : cr_wl (k, Int32.ofNat l, x, y) = l := ev_cl l (by omega)
  exact Or.inr ⟨hk, by rw [e], by rw [e]; exact hl⟩
theorem cw_takeOrder (C : cr_C) {e l : Nat} (μ : cr_m) (he : e < 2) (hl : l < 3) : cw C (cs_E_takeOrder C e l μ) 1 := by
  unfold cs_E_takeOrder cs_E_ord1
  exact ((cw_ord0 C μ he hl).then (cw_say (cw_refl _) he (fun _ => cv_m5 hl _ _ 5 (Or.inr rfl)))).then (cw_ord2 _ μ (by omega))
theorem cw_takeIn (C : cr_C) {e l : Nat} (μ : cr_m) (he : e < 2) (hm : cv_m μ) (hl : cr_mk μ 0 = 4 ∨ cr_mk μ 0 = 5 → l < 3) : cw C (cs_E_takeIn C e l μ) 1 := by
  unfold cs_E_takeIn
  split
  · rename_i c
    exact cw_takeOrder C μ he (hl (Or.inl c))
  · split
    · rename_i c
      exact (cw_takeAnswer C μ he (hl (Or.inr c))).le (by omega)
    · exact cw_put (cw_refl C) (by omega) (by omega) (fun _ => ⟨hm, fun _ _ => by omega⟩)
theorem cv_m.wl {μ : cr_m} (h : cv_m μ) (hk : cr_mk μ 0 = 4 ∨ cr_mk μ 0 = 5) : cr_wl μ < 3 ∧ cr_mk μ 1 = Int32.ofNat (cr_wl μ) := by
  rcases h with ⟨h1, h2⟩ | ⟨-, h1, h2⟩
  · have h3 : cr_mk μ 0 = Int32.ofNat (cr_kd μ) := h1
    have h4 : cr_kd μ = 0 ∨ cr_kd μ = 1 ∨ cr_kd μ = 2 ∨ cr_kd μ = 3 := by omega
    rcases h4 with e | e | e | e <;> rw [e] at h3 <;> rcases hk with k | k <;> rw [h3] at k <;> exact absurd k (by decide)
  · exact ⟨h2, h1⟩
theorem cw_nextIn (C : cr_C) (s t : Nat) : cw C (cs_S_nextIn C s t).2 0 := by
  unfold cs_S_nextIn
  repeat' split
  all_goals dsimp only
  all_goals repeat (first | exact cw_refl _ | refine cw_sI ?_ rfl)
theorem cs_nextIn1 (C : cr_C) (s t : Nat) {μ : cr_m} (h : (cs_S_nextIn C s t).1 = some μ) : C.2.2 t = some μ := by
  unfold cs_S_nextIn at h
  repeat' split at h
  all_goals first | exact h | cases h
theorem cw_numT (C : cr_C) {e l t : Nat} (he : e < 2) (ht : t < 6) : cw C (cs_E_numT C e l t) 1 := by
  intro h
  unfold cs_E_numT
  split
  · exact (cw_nextIn C (2 * l + e) t).le (by omega) h
  · rename_i μ e1
    have hm : cv_m μ := h.2.2 t ht μ (cs_nextIn1 C _ t e1)
    exact (cw_nextIn C (2 * l + e) t).then (cw_takeIn _ μ he hm (fun hk => (hm.wl hk).1)) h
theorem cw_numG (C : cr_C) (e l t : Nat) : cw C (cs_E_numG C e l t) 0 := by
  have h1 : cw C (cr_sI C 1 (2 * l + e) 13 0) 0 := cw_sI (cw_refl C) rfl
  unfold cs_E_numG
  exact h1.then (cw_follow (cr_sI C 1 (2 * l + e) 13 0) (2 * l + e) ((cr_sI C 1 (2 * l + e) 13 0).1 3 t 5))
theorem cw_numA (C : cr_C) {e l : Nat} (t : Nat) (he : e < 2) (hl : l < 3) : cw C (cs_E_numA C e l t).2 0 := by
  unfold cs_E_numA
  exact (cw_good C (2 * l + e)).then (cw_answered (cs_S_countGood C (2 * l + e)) (by omega) ((cs_S_countGood C (2 * l + e)).1 3 t 4))
theorem cw_numF (C : cr_C) {e l : Nat} (he : e < 2) (hl : l < 3) : cw C (cs_E_numF C e l) 0 := by
  have h1 : cw C (cs_E_odd C (2 * l + e)) 0 := cw_sI (cw_refl C) rfl
  unfold cs_E_numF
  split
  · exact h1
  · exact h1.then (cw_fall (cs_E_odd C (2 * l + e)) he hl)
theorem cw_num1 (C : cr_C) {e l t : Nat} (he : e < 2) (hl : l < 3) (ht : t < 6) : cw C (cs_E_num1 C e l t) 1 := by
  have hs : 2 * l + e < 6 := by omega
  have hA := cw_numA C t he hl
  unfold cs_E_num1
  split
  · exact (hA.then (cw_numF (cs_E_numA C e l t).2 he hl)).le (by omega)
  · exact ((hA.then (cw_numG (cs_E_numA C e l t).2 e l t)).then (cw_numT (cs_E_numG (cs_E_numA C e l t).2 e l t) he ht)).le (by omega)
theorem cw_numbered (C : cr_C) {e l t : Nat} (he : e < 2) (hl : l < 3) (ht : t < 6) : cw C (cs_E_numberedComes C e l t) 1 := by
  unfold cs_E_numberedComes
  repeat' split
  · exact ((cw_comeTo (cw_refl C) _ _).then (cw_num1 _ he hl ht)).le (by omega)
  · exact cw_num1 C he hl ht
  · exact (cw_refl C).le (by omega)
/-- the message of a unit may be taken in -/
theorem cr_nu_of {C : cr_C} {e l t : Nat} (he : e < 2) (hl : l < 3) (ht : t < 6) (h : cv C) (hz : cz C ≤ 8000) : cr_nu C e l t := by
  have hs : 2 * l + e < 6 := by omega
  have hA := cw_numA C t he hl
  have hG := cw_numG (cs_E_numA C e l t).2 e l t
  have hN := (hA.then hG).then (cw_nextIn (cs_E_numG (cs_E_numA C e l t).2 e l t) (2 * l + e) t)
  intro μ hμ
  have hm : cv_m μ := ((hA.then hG) h).1.2.2 t ht μ (cs_nextIn1 _ _ t hμ)
  obtain ⟨k1, k2⟩ := hN h
  generalize (cs_S_nextIn (cs_E_numG (cs_E_numA C e l t).2 e l t) (2 * l + e) t).2 = D at *
  refine ⟨fun hk => hm.wl hk, fun hk => ?_, ?_⟩
  · have hw := (hm.wl (Or.inl hk)).1
    refine ⟨?_, fun k hk3 => ?_⟩
    · have := cz_len3 D (a := 12 + (2 * cr_wl μ + e)) (b := 2 * cr_wl μ + e) (c := 6 + (2 * cr_wl μ + e)) (by omega) (by omega) (by omega) (by omega) (by omega) (by omega)
      unfold cr_b
      omega
    · have h1 := (cw_ord0 D μ he hw k1).2
      have h2 := cz_len (cs_E_ord0 D e (cr_wl μ) μ) (r := 6 + (2 * k + e)) (by omega)
      omega
  · have := cz_len D (r := 20 + e) (by omega)
    omega
theorem cr_b_of {C : cr_C} {s : Nat} (hs : s < 6) (hz : cz C ≤ 8000) : cr_b C s := by
  have := cz_len3 C (a := 12 + s) (b := s) (c := 6 + s) (by omega) (by omega) (by omega) (by omega) (by omega) (by omega)
  unfold cr_b
  omega
