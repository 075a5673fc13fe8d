/-! what comes to an inbox is of a class -/
def ix (C C' : cr_C) : Prop := ∀ r, 20 ≤ r → r < 22 → ∀ μ ∈ C'.2.1 r, μ ∈ C.2.1 r ∨ (μ.1 ≠ 4 ∧ μ.1 ≠ 5)
def ib (C : cr_C) : Prop := ∀ r, 20 ≤ r → r < 22 → ∀ μ ∈ C.2.1 r, μ.1 ≠ 4 ∧ μ.1 ≠ 5
theorem ix.b {C C' : cr_C} (h : ix C C') (hb : ib C) : ib C' := fun r h1 h2 μ hμ => by
  rcases h r h1 h2 μ hμ with x | x
  · exact hb r h1 h2 μ x
  · exact x
theorem ix_refl (C : cr_C) : ix C C := fun _ _ _ _ h => Or.inl h
theorem ix.t {C D E : cr_C} (h : ix C D) (h' : ix D E) : ix C E := fun r h1 h2 μ hμ => by
  rcases h' r h1 h2 μ hμ with x | x
  · exact h r h1 h2 μ x
  · exact Or.inr x
theorem ix_row {C C' : cr_C} (h : ∀ r, 20 ≤ r → C'.2.1 r = C.2.1 r) : ix C C' := fun r h1 _ μ hμ => Or.inl (by rw [← h r h1]; exact hμ)
theorem ix_sI {C C' : cr_C} {κ i k : Nat} {x : Int32} (h : ix C C') : ix C (cr_sI C' κ i k x) := h
theorem ix_sX {C C' : cr_C} {r : Nat} {zs : List cr_m} (h : ix C C') (hr : r < 20) : ix C (cr_sX C' r zs) := h.t (ix_row (fun q hq => cr_sX_ne _ _ (by omega)))
theorem ix_put {C C' : cr_C} {r : Nat} {μ : cr_m} (h : ix C C') (hr : r < 20) : ix C (cs_put C' r μ) := ix_sX h hr
theorem ix_fall (C : cr_C) {e l : Nat} (he : e < 2) (hl : l < 3) : ix C (cs_E_fall C e l) := ix_row (fun r hr => (fall_Fa C he hl).row (by omega) (by omega) (by omega))
theorem ix_come (C : cr_C) (s : Nat) (x : Int32) : ix C (cs_S_comeTo C s x) := ix_refl C
theorem ix_age (C : cr_C) {e l : Nat} (he : e < 2) (hl : l < 3) : ix C (cs_E_age C e l) := by
  have hF : ∀ C', ix C' (cs_E_fall C' e l) := fun C' => ix_fall C' he hl
  unfold cs_E_age
  have h2 : ix C (cs_S_failsByAge C (2 * l + e)).2 := by
    unfold cs_S_failsByAge
    repeat' split
    all_goals exact ix_refl C
  generalize cs_E_fall = f at *
  repeat' split
  all_goals first | exact h2 | exact h2.t (hF _) | exact ix_refl C
theorem ix_dam (C : cr_C) {e l : Nat} (he : e < 2) (hl : l < 3) : ix C (cs_E_damagedComes C e l) := by
  have hF : ∀ C', ix C' (cs_E_fall C' e l) := fun C' => ix_fall C' he hl
  unfold cs_E_damagedComes
  have h2 : ix C (cs_S_failsByDamage C (2 * l + e)).2 := by
    unfold cs_S_failsByDamage
    repeat' split
    all_goals exact ix_refl C
  generalize cs_E_fall = f at *
  repeat' split
  all_goals first | exact h2 | exact h2.t (hF _) | exact ix_refl C
theorem ix_status (C : cr_C) {e l : Nat} (t : Nat) (he : e < 2) (hl : l < 3) : ix C (cs_E_statusComes C e l t) := by
  have hF := ix_fall C he hl
  have h1 : ix C (cs_E_seekComes C e l) := by
    unfold cs_E_seekComes
    generalize cs_E_fall = f at *
    repeat' split
    all_goals first | exact ix_refl C | exact hF
  have h2 : ix C (cs_E_proveComes C e l) := by
    unfold cs_E_proveComes
    generalize cs_E_fall = f at *
    repeat' split
    all_goals first | exact ix_refl C | exact hF
  have h3 : ix C (cs_E_outComes C e l) := by
    unfold cs_E_outComes
    generalize cs_E_fall = f at *
    repeat' split
    all_goals first | exact ix_refl C | exact hF
  unfold cs_E_statusComes
  generalize cs_E_seekComes C e l = c1 at *
  generalize cs_E_proveComes C e l = c2 at *
  generalize cs_E_outComes C e l = c3 at *
  repeat' split
  all_goals first | exact ix_sI h1 | exact ix_sI h2 | exact h3
theorem ix_say (C : cr_C) {e : Nat} (μ : cr_m) (he : e < 2) : ix C (cs_E_say C e μ) := by
  unfold cs_E_say
  repeat' split
  · exact ix_put (ix_refl C) (by omega)
  · exact ix_put (ix_refl C) (by omega)
  · exact ix_put (ix_refl C) (by omega)
  · exact ix_refl C
theorem ix_set (C : cr_C) {s : Nat} (p : Nat) (hs : s < 6) : ix C (cs_set C s p) := ix_sI (ix_sI (ix_sX (ix_refl C) (by omega)))
theorem ix_settle (C : cr_C) {s : Nat} (x : Int32) (hs : s < 6) : ix C (cs_C_settle C s x) := by
  obtain ⟨p, e⟩ := settle_set C s x
  rw [e]
  exact ix_set C p hs
theorem ix_order (C : cr_C) {e l : Nat} (μ : cr_m) (he : e < 2) (hl : l < 3) : ix C (cs_E_takeOrder C e l μ) := by
  have h0 : ix C (cs_E_ord0 C e l μ) := by
    unfold cs_E_ord0
    repeat' split
    all_goals first | exact ix_refl C | exact ix_fall C he hl
  unfold cs_E_takeOrder
  generalize cs_E_ord0 C e l μ = C1 at *
  unfold cs_E_ord1
  have h1 := h0.t (ix_say C1 (5, Int32.ofNat l, (cs_Y_backFor C1 (2 * l + e) (cr_mk μ 3)).1, cr_mk μ 3) he)
  generalize cs_E_say C1 e (5, Int32.ofNat l, (cs_Y_backFor C1 (2 * l + e) (cr_mk μ 3)).1, cr_mk μ 3) = C2 at *
  unfold cs_E_ord2
  repeat' split
  all_goals first | exact h1 | exact h1.t (ix_settle C2 _ (by omega))
theorem ix_takeIn (C : cr_C) {e l : Nat} (μ : cr_m) (he : e < 2) (hl : cr_mk μ 0 = 4 ∨ cr_mk μ 0 = 5 → l < 3) : ix C (cs_E_takeIn C e l μ) := by
  unfold cs_E_takeIn
  by_cases c4 : cr_mk μ 0 = 4
  · rw [if_pos c4]
    exact ix_order C μ he (hl (Or.inl c4))
  · rw [if_neg c4]
    by_cases c5 : cr_mk μ 0 = 5
    · rw [if_pos c5]
      have hl' := hl (Or.inr c5)
      unfold cs_E_takeAnswer
      repeat' split
      all_goals first | exact ix_refl C | exact ix_settle C _ (by omega)
    · rw [if_neg c5]
      intro r h1 h2 ν hν
      by_cases e1 : r = 20 + e
      · rw [e1] at hν ⊢
        unfold cs_put at hν
        rw [cr_sX_at] at hν
        rcases List.mem_append.mp hν with x | x
        · exact Or.inl x
        · rw [List.mem_singleton.mp x]
          exact Or.inr ⟨c4, c5⟩
      · rw [cs_put_ne _ _ e1] at hν
        exact Or.inl hν
theorem ix_num1 (C : cr_C) {e l t : Nat} (he : e < 2) (hl : l < 3) (ht : t < 6) (hv : cv C) : ix C (cs_E_num1 C e l t) := by
  have hA : ix C (cs_E_numA C e l t).2 := by
    unfold cs_E_numA
    have h1 : ix C (cs_S_countGood C (2 * l + e)) := by
      unfold cs_S_countGood
      repeat' split
      all_goals exact ix_refl C
    generalize cs_S_countGood C (2 * l + e) = C1 at *
    refine h1.t ?_
    refine ix_row (fun r hr => ?_)
    unfold cs_S_answered
    split
    · split
      · exact cr_sX_ne _ _ (by omega)
      · exact cr_sX_ne _ _ (by omega)
    · rfl
  have hvA : cv (cs_E_numA C e l t).2 := (cw_numA C t he hl hv).1
  unfold cs_E_num1
  generalize cs_E_numA C e l t = v at *
  split
  · refine hA.t ?_
    unfold cs_E_numF cs_E_odd
    split
    · exact ix_refl _
    · exact (ix_refl _ : ix v.2 (cr_sI v.2 1 (2 * l + e) 13 (v.2.1 1 (2 * l + e) 13 + 1))).t (ix_fall _ he hl)
  · refine hA.t ?_
    have hG : ix v.2 (cs_E_numG v.2 e l t) := by
      unfold cs_E_numG cs_S_followBackBit
      split
      · exact ix_refl _
      · exact ix_refl _
    have hvG := (cw_numG v.2 e l t hvA).1
    generalize cs_E_numG v.2 e l t = C3 at *
    refine hG.t ?_
    unfold cs_E_numT
    rcases nextIn_or C3 (2 * l + e) t with x | x | ⟨μ, hμ, c2, x⟩
    · rw [x]
      exact ix_refl _
    · rw [x]
      exact ix_refl C3
    · rw [x]
      have hm : cv_m μ := hvG.2.2 t ht μ hμ
      exact (ix_refl C3 : ix C3 (cr_sI C3 1 (2 * l + e) 5 (Int32.ofNat (cr_f8 (C3.1 1 (2 * l + e) 5 + 1))))).t (ix_takeIn _ μ he (fun c => (hm.wl c).1))
theorem ix_arrive (C : cr_C) {l e : Nat} (hl : l < 3) (he : e < 2) (hv : cv C) : ix C (cs_P_arrive C l e).2 := by
  have ht : 2 * l + (1 - e) < 6 := by omega
  unfold cs_P_arrive cs_P_arr1
  generalize 2 * l + (1 - e) = t at *
  by_cases c0 : C.1 3 t 0 = 0
  · rw [if_pos c0]
    exact ix_refl C
  · rw [if_neg c0]
    by_cases cl : C.1 4 (2 * l + e) 1 ≤ 0
    · rw [if_pos cl]
      by_cases c4 : C.1 3 t 0 = 4
      · rw [if_pos c4]
        show ix C (cs_E_numberedComes C e l t)
        unfold cs_E_numberedComes
        by_cases c3 : C.1 1 (2 * l + e) 0 = 3
        · rw [if_pos c3]
          exact (ix_come C (2 * l + e) 4).t (ix_num1 _ he hl ht (cw_comeTo (cw_refl C) _ _ hv).1)
        · rw [if_neg c3]
          by_cases c5 : C.1 1 (2 * l + e) 0 = 4
          · rw [if_pos c5]
            exact ix_num1 C he hl ht hv
          · rw [if_neg c5]
            exact ix_refl C
      · rw [if_neg c4]
        exact ix_status C t he hl
    · rw [if_neg cl]
      have h1 : ix C (cr_sI C 4 (2 * l + e) 1 (C.1 4 (2 * l + e) 1 - 1)) := ix_refl C
      generalize cr_sI C 4 (2 * l + e) 1 (C.1 4 (2 * l + e) 1 - 1) = C1 at *
      by_cases c2 : C1.1 4 (2 * l + e) 0 = 2
      · rw [if_pos c2]
        exact h1.t (ix_dam C1 he hl)
      · rw [if_neg c2]
        exact h1
theorem ix_lgh {e l : Nat} (he : e < 2) : ∀ (zs pre : List cr_m) (C : cr_C), (∀ μ ∈ zs, cr_mc μ) → cr_L C e → ix C (cs_E_lgh e l zs pre C) := by
  intro zs
  induction zs with
  | nil => intro pre C _ _; exact ix_refl C
  | cons μ zs ih =>
    intro pre C hm hL
    have hk := (hm μ List.mem_cons_self).2
    have hlk := (hL _ hk).2
    have ed : cs_E_lgh e l (μ :: zs) pre C = if C.1 8 e (cr_kd μ) = Int32.ofNat l then cs_E_lgh e l zs pre (cs_put (cr_sX C (18 + e) (pre ++ zs)) (6 + (2 * cr_lk C e (cr_kd μ) + e)) μ) else cs_E_lgh e l zs (pre ++ [μ]) C := rfl
    rw [ed]
    split
    · exact (ix_put (ix_sX (ix_refl C) (by omega)) (by omega)).t (ih _ _ (fun ν hν => hm ν (List.mem_cons_of_mem _ hν)) hL)
    · exact ih _ _ (fun ν hν => hm ν (List.mem_cons_of_mem _ hν)) hL
theorem ix_finish (C : cr_C) {e l : Nat} (he : e < 2) (hl : l < 3) (hv : cv C) : ix C (cs_E_finish C e l) := by
  unfold cs_E_finish cs_E_letGoHeld
  have h0 : ix C (cs_E_fin0 C e l) := ix_refl C
  have v0 := (cw_fin0 C e l hv).1
  generalize cs_E_fin0 C e l = C1 at *
  have h1 : ix C1 (cs_E_fin1 C1 e l) := by
    unfold cs_E_fin1
    refine ix_sX (ix_row (fun r hr => ?_)) (by omega)
    exact (cs_pas_ok e he (C1.2.1 (12 + (2 * l + e))) C1 (v0.L he) (fun μ hμ => (v0.1.1 _ (by omega) μ hμ).mo)).2.1 r (by omega)
  have v1 := (cw_fin1 C1 he hl v0).1
  generalize cs_E_fin1 C1 e l = C2 at *
  have h2 : ix C2 (cs_E_mvs C2 e l) := ix_row (fun r _ => by rw [cs_mvs_X])
  have v2 := (cw_mvs C2 e l v1).1
  generalize cs_E_mvs C2 e l = C3 at *
  exact ((h0.t h1).t h2).t (ix_lgh he _ _ C3 (v2.1.2.1 _ (by omega) (by omega)) (v2.L he))
theorem ix_over (C : cr_C) {e l : Nat} (he : e < 2) (hl : l < 3) (hv : cv C) : ix C (cs_E_changeOver C e l) := by
  unfold cs_E_changeOver
  split
  · exact ix_refl C
  · have h0 : ix C (cs_E_co0 C e l (cr_sm C e)) := by
      unfold cs_E_co0 cs_E_or
      repeat' split
      all_goals first | exact ix_refl C | exact ix_sI (ix_say C _ he)
    have v0 := (cw_co0 C (cr_sm C e) he hl hv).1
    generalize cs_E_co0 C e l (cr_sm C e) = C1 at *
    generalize cr_sm C e = b
    unfold cs_E_co1
    have h1 : ix C1 (cr_sI C1 2 (2 * l + e) 3 (C1.1 2 (2 * l + e) 3 + 1)) := ix_refl C1
    have v1 : cv (cr_sI C1 2 (2 * l + e) 3 (C1.1 2 (2 * l + e) 3 + 1)) := ((cw_sI (cw_refl C1) rfl : cw C1 (cr_sI C1 2 (2 * l + e) 3 (C1.1 2 (2 * l + e) 3 + 1)) 0) v0).1
    generalize cr_sI C1 2 (2 * l + e) 3 (C1.1 2 (2 * l + e) 3 + 1) = C2 at *
    have h2 : ix C2 (cs_E_co2 C2 e l b) := by
      have hg : ix C2 (cs_E_gu C2 e l) := ix_sI (ix_set C2 (cr_nb C2 (2 * l + e)) (show 2 * l + e < 6 by omega))
      unfold cs_E_co2
      repeat' split
      all_goals first | exact ix_refl C2 | exact hg
    have v2 := (cw_co2 C2 b he hl v1).1
    generalize cs_E_co2 C2 e l b = C3 at *
    refine ((h0.t h1).t h2).t ?_
    unfold cs_E_co3
    repeat' split
    · exact ix_refl C3
    · exact ix_refl C3
    · exact ix_finish C3 he hl v2
theorem ix_send (C : cr_C) {s : Nat} (hs : s < 6) : ix C (cs_S_send C s) := by
  have h0 : ix C (cs_sn0 C s) := ix_refl C
  have hN : ix C (cs_S_sendNumbered (cs_sn0 C s) s) := by
    generalize cs_sn0 C s = C1 at *
    refine h0.t ?_
    have hf : ∀ E x, ix E (cs_S_fill E s x) := fun E x => ix_refl E
    have hn : ix C1 (cs_S_new C1 s) := by
      unfold cs_S_new
      repeat' split
      · exact hf _ _
      · unfold cs_S_first
        exact (ix_sI (ix_sX (show ix C1 (cr_sU (cr_sX C1 (6 + s) ((C1.2.1 (6 + s)).eraseIdx 0)) s ((C1.2.1 (6 + s))[0]?)) from ix_sX (ix_refl C1) (by omega)) (by omega))).t (hf _ _)
      · exact hf _ _
    unfold cs_S_sendNumbered
    repeat' split
    · exact hn
    · exact hn
    · unfold cs_S_again
      exact (ix_refl C1 : ix C1 (cr_sI (cr_sU C1 s ((C1.2.1 s)[(C1.2.1 s).length - (C1.1 1 s 15).toNatClampNeg]?)) 1 s 15 (C1.1 1 s 15 - 1))).t (hf _ _)
  rw [cs_send_eq]
  repeat' split
  all_goals first | exact ix_sI hN | exact h0
theorem ib_tick {C : cr_C} (hv : cv C) (hb : ib C) : ib (cs_P_tick C).2 := by
  have s1 : ∀ (p : Int32 × cr_C) (l e : Nat), l < 3 → e < 2 → cv p.2 ∧ ib p.2 → cv (cs_P_ar p l e).2 ∧ ib (cs_P_ar p l e).2 := fun p l e hl he h => ⟨(cw_ar p hl he h.1).1, (ix_arrive p.2 hl he h.1).b h.2⟩
  have s2 : ∀ (D : cr_C) (e l : Nat), l < 3 → e < 2 → cv D ∧ ib D → cv (cs_E_age D e l) ∧ ib (cs_E_age D e l) := fun D e l hl he h => ⟨(cw_age D he hl h.1).1, (ix_age D he hl).b h.2⟩
  have s3 : ∀ (D : cr_C) (e l : Nat), l < 3 → e < 2 → cv D ∧ ib D → cv (cs_E_changeOver D e l) ∧ ib (cs_E_changeOver D e l) := fun D e l hl he h => ⟨(cw_over D he hl h.1).1, (ix_over D he hl h.1).b h.2⟩
  have s4 : ∀ (D : cr_C) (s : Nat), s < 6 → cv D ∧ ib D → cv (cs_S_send D s) ∧ ib (cs_S_send D s) := fun D s hs h => ⟨(cw_send D hs h.1).1, (ix_send D hs).b h.2⟩
  unfold cs_P_tick
  dsimp only
  have h1 : cv (cs_P_t1 C).2 ∧ ib (cs_P_t1 C).2 := by
    unfold cs_P_t1
    exact s1 _ 2 1 (by omega) (by omega) (s1 _ 2 0 (by omega) (by omega) (s1 _ 1 1 (by omega) (by omega) (s1 _ 1 0 (by omega) (by omega) (s1 _ 0 1 (by omega) (by omega) (s1 (0, C) 0 0 (by omega) (by omega) ⟨hv, hb⟩)))))
  generalize (cs_P_t1 C).2 = C1 at *
  have h2 : cv (cs_P_t2 C1) ∧ ib (cs_P_t2 C1) := by
    unfold cs_P_t2
    exact s2 _ 1 2 (by omega) (by omega) (s2 _ 0 2 (by omega) (by omega) (s2 _ 1 1 (by omega) (by omega) (s2 _ 0 1 (by omega) (by omega) (s2 _ 1 0 (by omega) (by omega) (s2 C1 0 0 (by omega) (by omega) h1)))))
  generalize cs_P_t2 C1 = C2 at *
  have h3 : cv (cs_P_t3 C2) ∧ ib (cs_P_t3 C2) := by
    unfold cs_P_t3
    exact s3 _ 1 2 (by omega) (by omega) (s3 _ 1 1 (by omega) (by omega) (s3 _ 1 0 (by omega) (by omega) (s3 _ 0 2 (by omega) (by omega) (s3 _ 0 1 (by omega) (by omega) (s3 C2 0 0 (by omega) (by omega) h2)))))
  generalize cs_P_t3 C2 = C3 at *
  unfold cs_P_t4
  exact (s4 _ 5 (by omega) (s4 _ 4 (by omega) (s4 _ 3 (by omega) (s4 _ 2 (by omega) (s4 _ 1 (by omega) (s4 C3 0 (by omega) h3)))))).2
theorem ib_start {C : cr_C} (hb : ib C) {l e : Nat} (hl : l < 3) (he : e < 2) : ib (cs_P_start C l e).2 := by
  unfold cs_P_start
  split
  · refine ix.b ?_ hb
    unfold cs_S_begin cs_S_clearRows
    exact ix_sI (ix_sX (ix_sX (ix_refl C) (by omega)) (by omega))
  · exact hb
theorem ib_stop {C : cr_C} (hb : ib C) {l e : Nat} (hl : l < 3) (he : e < 2) : ib (cs_P_stop C l e).2 := by
  unfold cs_P_stop
  split
  · exact hb
  · exact (ix_fall C he hl).b hb
theorem ib_accept {C : cr_C} (hv : cv C) (hb : ib C) {e k : Nat} (x : Int32) (he : e < 2) (hk : k < 4) : ib (cs_E_accept C e k x).2 := by
  have hl : cr_lk C e k < 3 := (hv.L he k hk).2
  have hB : ∀ E r y a b, r < 20 → ix E (cs_E_addBelow E r y a b).2 := fun E r y a b hr => by
    unfold cs_E_addBelow
    split
    · exact ix_put (ix_refl E) hr
    · exact ix_refl E
  have h2 : ix C (cs_E_acc2 C e k x).2 := by
    unfold cs_E_acc2
    repeat' split
    · exact (ix_refl C : ix C (cr_sI C 7 e k 0)).t (hB _ _ _ _ _ (by omega))
    · exact (ix_refl C : ix C (cr_sI C 7 e k 1)).t (hB _ _ _ _ _ (by omega))
    · exact (ix_refl C : ix C (cr_sI C 7 e k 2)).t (hB _ _ _ _ _ (by omega))
    · exact ix_refl C
  refine ix.b ?_ hb
  unfold cs_E_accept cs_E_acc1
  generalize cr_lk C e k = l at *
  repeat' split
  · exact h2
  · exact h2
  · exact hB _ _ _ _ _ (by omega)
  · exact hB _ _ _ _ _ (by omega)
theorem ib_take {C : cr_C} (hb : ib C) {e : Nat} (he : e < 2) {μ : cr_m} {zs : List cr_m} (hX : C.2.1 (20 + e) = μ :: zs) : ib (cr_sX C (20 + e) zs) ∧ μ.1 ≠ 4 ∧ μ.1 ≠ 5 := by
  refine ⟨fun r h1 h2 ν hν => ?_, hb (20 + e) (by omega) (by omega) μ (by rw [hX]; exact List.mem_cons_self)⟩
  by_cases c : r = 20 + e
  · rw [c, cr_sX_at] at hν
    exact hb (20 + e) (by omega) (by omega) ν (by rw [hX]; exact List.mem_cons_of_mem _ hν)
  · rw [cr_sX_ne _ _ c] at hν
    exact hb r h1 h2 ν hν
