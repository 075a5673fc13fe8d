/-! what stays so of the class's state: a changeover's end, what is sent, what is accepted -/
theorem cw_move {C D : cr_C} {a : Nat} (h : cw C D a) (e k : Nat) : cw C (cs_E_moveClass D e k) a := by
  unfold cs_E_moveClass
  split
  · exact h
  · rename_i c
    rcases cs_choose1 D e k with e1 | e1 | e1 | e1
    · rw [e1]; exact cw_7 (l := 0) h (by omega)
    · rw [e1]; exact cw_7 (l := 1) h (by omega)
    · rw [e1]; exact cw_7 (l := 2) h (by omega)
    · exact absurd e1 c
theorem cv.L {C : cr_C} (h : cv C) {e : Nat} (he : e < 2) : cr_L C e := fun k hk => h.2.1.1 e k he hk
theorem cw_pass (C : cr_C) {e : Nat} {μ : cr_m} (he : e < 2) (hm : cv_m μ) : cw C (cs_E_passOn C e μ) 1 := by
  intro h
  unfold cs_E_passOn
  split
  · exact cw_say (cw_refl C) he (fun _ => hm) h
  · rename_i c
    have hl := (cr_L_move (h.L he) (cr_kd μ) (cr_kd μ) (hm.mo c).2).2
    unfold cs_E_pass
    exact cw_put (cw_move (cw_refl C) e (cr_kd μ)) (by omega) (by omega) (fun _ => ⟨hm, fun _ _ => by omega⟩) h
theorem cw_pas {e : Nat} (he : e < 2) : ∀ (zs : List cr_m) (C : cr_C), (∀ μ ∈ zs, cv_m μ) → cw C (cs_E_pas e zs C) zs.length := by
  intro zs
  induction zs with
  | nil => intro C _; exact cw_refl C
  | cons μ zs ih =>
    intro C hz
    exact ((cw_pass C he (hz μ List.mem_cons_self)).then (ih (cs_E_passOn C e μ) (fun ν hν => hz ν (List.mem_cons_of_mem _ hν)))).le (by rw [List.length_cons]; omega)
theorem cw_fin0 (C : cr_C) (e l : Nat) : cw C (cs_E_fin0 C e l) 0 := by
  unfold cs_E_fin0 cs_copy
  exact cw_sI (cw_sI (cw_sI (cw_sI (cw_sI (cw_refl C) rfl) rfl) rfl) rfl) rfl
theorem cw_fin1 (C : cr_C) {e l : Nat} (he : e < 2) (hl : l < 3) : cw C (cs_E_fin1 C e l) 0 := by
  intro h
  have hr : 12 + (2 * l + e) < 22 := by omega
  have hz := h.1.1 (12 + (2 * l + e)) hr
  obtain ⟨k1, k2⟩ := cw_pas he (C.2.1 (12 + (2 * l + e))) C hz h
  have h3 := (cs_pas_ok e he (C.2.1 (12 + (2 * l + e))) C (h.L he) (fun μ hμ => (hz μ hμ).mo)).2.1 (12 + (2 * l + e)) (by omega)
  have h4 := cz_sX (cs_E_pas e (C.2.1 (12 + (2 * l + e))) C) [] hr
  rw [h3, List.length_nil] at h4
  refine ⟨(cw_nil (cw_refl _) hr k1).1, ?_⟩
  show cz (cr_sX (cs_E_pas e (C.2.1 (12 + (2 * l + e))) C) (12 + (2 * l + e)) []) ≤ _
  omega
theorem cw_mv (C : cr_C) (e l k : Nat) : cw C (cs_E_mv C e l k) 0 := by
  unfold cs_E_mv
  split
  · exact cw_move (cw_refl C) e k
  · exact cw_refl C
theorem cw_mvs (C : cr_C) (e l : Nat) : cw C (cs_E_mvs C e l) 0 := by
  unfold cs_E_mvs
  exact (((cw_mv C e l 0).then (cw_mv (cs_E_mv C e l 0) e l 1)).then (cw_mv (cs_E_mv (cs_E_mv C e l 0) e l 1) e l 2)).then (cw_mv (cs_E_mv (cs_E_mv (cs_E_mv C e l 0) e l 1) e l 2) e l 3)
theorem cw_lgh {e l : Nat} (he : e < 2) : ∀ (zs pre : List cr_m) (C : cr_C), C.2.1 (18 + e) = pre ++ zs → cw C (cs_E_lgh e l zs pre C) 0 := by
  have hr : 18 + e < 22 := by omega
  intro zs
  induction zs with
  | nil => intro pre C _; exact cw_refl C
  | cons μ zs ih =>
    intro pre C hX h
    show cv (if C.1 8 e (cr_kd μ) = Int32.ofNat l then _ else _) ∧ cz (if C.1 8 e (cr_kd μ) = Int32.ofNat l then _ else _) ≤ _
    split
    · have hin : μ ∈ C.2.1 (18 + e) := by rw [hX]; exact List.mem_append_right _ List.mem_cons_self
      have hmc := h.1.2.1 (18 + e) (by omega) (by omega) μ hin
      have hl := (h.L he _ hmc.2).2
      have k1 : cv (cr_sX C (18 + e) (pre ++ zs)) := (cw_sub (cw_refl C) hr (fun ν hν => by
        rw [hX]
        rcases List.mem_append.mp hν with h1 | h1
        · exact List.mem_append_left _ h1
        · exact List.mem_append_right _ (List.mem_cons_of_mem _ h1)) (by rw [hX, List.length_append, List.length_append, List.length_cons]; omega) h).1
      have k2 := cz_sX C (pre ++ zs) hr
      rw [hX, List.length_append, List.length_append, List.length_cons] at k2
      obtain ⟨k3, k4⟩ := cw_put (r := 6 + (2 * cr_lk C e (cr_kd μ) + e)) (μ := μ) (cw_refl (cr_sX C (18 + e) (pre ++ zs))) (by omega) (by omega) (fun _ => ⟨Or.inl hmc, fun _ _ => by omega⟩) k1
      obtain ⟨k5, k6⟩ := ih pre (cs_put (cr_sX C (18 + e) (pre ++ zs)) (6 + (2 * cr_lk C e (cr_kd μ) + e)) μ) (by rw [cs_put_ne _ _ (by omega), cr_sX_at]) k3
      exact ⟨k5, by omega⟩
    · exact ih (pre ++ [μ]) C (by rw [hX, List.append_assoc]; rfl) h
theorem cw_letGo (C : cr_C) {e : Nat} (l : Nat) (he : e < 2) : cw C (cs_E_letGoHeld C e l) 0 := by
  unfold cs_E_letGoHeld
  exact cw_lgh he (C.2.1 (18 + e)) [] C (List.nil_append _).symm
theorem cw_finish (C : cr_C) {e l : Nat} (he : e < 2) (hl : l < 3) : cw C (cs_E_finish C e l) 0 := by
  unfold cs_E_finish
  have h1 := (cw_fin0 C e l).then (cw_fin1 (cs_E_fin0 C e l) he hl)
  have h2 := h1.then (cw_mvs (cs_E_fin1 (cs_E_fin0 C e l) e l) e l)
  exact h2.then (cw_letGo (cs_E_mvs (cs_E_fin1 (cs_E_fin0 C e l) e l) e l) l he)
theorem cw_co3 (C : cr_C) {e l : Nat} (he : e < 2) (hl : l < 3) : cw C (cs_E_co3 C e l) 0 := by
  unfold cs_E_co3
  repeat' split
  · exact cw_refl C
  · exact cw_refl C
  · exact cw_finish C he hl
theorem cw_co2 (C : cr_C) {e l : Nat} (x : Int32) (he : e < 2) (hl : l < 3) : cw C (cs_E_co2 C e l x) 0 := by
  unfold cs_E_co2
  repeat' split
  all_goals first | exact cw_refl C | exact cw_sI (cw_giveUp C (by omega) _) rfl
theorem cw_co0 (C : cr_C) {e l : Nat} (x : Int32) (he : e < 2) (hl : l < 3) : cw C (cs_E_co0 C e l x) 1 := by
  unfold cs_E_co0
  repeat' split
  all_goals first | exact (cw_refl C).le (by omega) | exact cw_sI (cw_say (cw_refl C) he (fun _ => cv_m5 hl _ _ 4 (Or.inl rfl))) rfl
theorem cw_over (C : cr_C) {e l : Nat} (he : e < 2) (hl : l < 3) : cw C (cs_E_changeOver C e l) 1 := by
  unfold cs_E_changeOver
  split
  · exact (cw_refl C).le (by omega)
  · have h1 := cw_co0 C (cr_sm C e) he hl
    generalize cs_E_co0 C e l (cr_sm C e) = D at *
    unfold cs_E_co1
    have h2 : cw D (cr_sI D 2 (2 * l + e) 3 (D.1 2 (2 * l + e) 3 + 1)) 0 := cw_sI (cw_refl D) rfl
    have h3 := (h1.then h2).then (cw_co2 (cr_sI D 2 (2 * l + e) 3 (D.1 2 (2 * l + e) 3 + 1)) (cr_sm C e) he hl)
    exact h3.then (cw_co3 (cs_E_co2 (cr_sI D 2 (2 * l + e) 3 (D.1 2 (2 * l + e) 3 + 1)) e l (cr_sm C e)) he hl)
/-- before a changeover goes on -/
theorem cr_fi_of {C : cr_C} {e l : Nat} (he : e < 2) (hl : l < 3) (h : cv C) (hz : cz C ≤ 8000) : cr_fi C e l 8191 := by
  refine ⟨h.L he, fun μ hμ => (h.1.1 _ (by omega) μ hμ).mo, h.1.2.1 _ (by omega) (by omega), fun k hk => ?_⟩
  have := cz_len3 C (a := 6 + (2 * k + e)) (b := 12 + (2 * l + e)) (c := 18 + e) (by omega) (by omega) (by omega) (by omega) (by omega) (by omega)
  omega
theorem cw_fill {C D : cr_C} {a : Nat} (h : cw C D a) (s : Nat) (x : Int32) : cw C (cs_S_fill D s x) a := by
  unfold cs_S_fill
  repeat (first | exact h | refine cw_sI ?_ rfl)
theorem cw_again (C : cr_C) {s : Nat} (hs : s < 6) : cw C (cs_S_again C s) 0 := by
  unfold cs_S_again
  exact cw_fill (cw_sI (cw_sU (cw_refl C) (fun h μ hμ => h.1.1 s (by omega) μ (List.mem_of_getElem? hμ))) rfl) _ _
theorem cw_first (C : cr_C) {s : Nat} (hs : s < 6) (hlt : (C.2.1 s).length < 5) : cw C (cs_S_first C s) 0 := by
  unfold cs_S_first
  refine cw_fill (cw_sI ?_ rfl) _ _
  intro h
  have hr : 6 + s < 22 := by omega
  have hw := h.1.1 (6 + s) hr
  have k1 := cz_sX C ((C.2.1 (6 + s)).eraseIdx 0) hr
  have hE : cv (cr_sX C (6 + s) ((C.2.1 (6 + s)).eraseIdx 0)) := (cw_sub (cw_refl C) hr (fun ν hν => List.mem_of_mem_eraseIdx hν) (by rw [List.length_eraseIdx]; split <;> omega) h).1
  have hU := (cw_sU (s := s) (v := (C.2.1 (6 + s))[0]?) (cw_refl (cr_sX C (6 + s) ((C.2.1 (6 + s)).eraseIdx 0))) (fun _ μ hμ => hw μ (List.mem_of_getElem? hμ)) hE).1
  generalize hD : cr_sU (cr_sX C (6 + s) ((C.2.1 (6 + s)).eraseIdx 0)) s ((C.2.1 (6 + s))[0]?) = D at *
  have hDX : D.2.1 = (cr_sX C (6 + s) ((C.2.1 (6 + s)).eraseIdx 0)).2.1 := by rw [← hD]; rfl
  have hDs : D.2.1 s = C.2.1 s := by rw [hDX, cr_sX_ne _ _ (by omega)]
  have k2 := cz_sX D (C.2.1 s ++ ((C.2.1 (6 + s))[0]?).toList) (show s < 22 by omega)
  have k3 : cz D = cz (cr_sX C (6 + s) ((C.2.1 (6 + s)).eraseIdx 0)) := cz_X hDX
  rw [hDs, List.length_append] at k2
  have k4 : ((C.2.1 (6 + s))[0]?).toList.length + ((C.2.1 (6 + s)).eraseIdx 0).length = (C.2.1 (6 + s)).length := by
    rcases C.2.1 (6 + s) with _ | ⟨μ, zs⟩
    · rfl
    · show 1 + zs.length = zs.length + 1
      omega
  have k5 : ((C.2.1 (6 + s))[0]?).toList.length ≤ 1 := by
    rcases C.2.1 (6 + s) with _ | ⟨μ, zs⟩
    · exact Nat.zero_le _
    · exact Nat.le_refl _
  refine ⟨⟨cvX_sX hU.1 (fun ν hν => ⟨?_, fun _ _ => by omega⟩) (fun _ => ?_), hU.2.1, hU.2.2⟩, by omega⟩
  · rcases List.mem_append.mp hν with h1 | h1
    · exact h.1.1 s (by omega) ν h1
    · exact hw ν (List.mem_of_getElem? (Option.mem_toList.mp h1))
  · rw [List.length_append]
    omega
theorem cw_new (C : cr_C) {s : Nat} (hs : s < 6) : cw C (cs_S_new C s) 0 := by
  unfold cs_S_new
  split
  · split
    · exact cw_fill (cw_refl C) _ _
    · rename_i c
      intro h
      refine cw_first C hs ?_ h
      have h5 := h.1.2.2 s hs
      rcases Nat.lt_or_ge (C.2.1 s).length 5 with h6 | h6
      · exact h6
      · have e : (C.2.1 s).length = 5 := by omega
        rw [e] at c
        exact absurd (by decide) c
  · exact cw_fill (cw_refl C) _ _
theorem cw_sendN (C : cr_C) {s : Nat} (hs : s < 6) : cw C (cs_S_sendNumbered C s) 0 := by
  unfold cs_S_sendNumbered
  repeat' split
  · exact cw_new C hs
  · exact cw_new C hs
  · exact cw_again C hs
theorem cw_send (C : cr_C) {s : Nat} (hs : s < 6) : cw C (cs_S_send C s) 0 := by
  have h1 : cw C (cr_sI (cr_sU C s none) 3 s 1 ((cr_sU C s none).1 1 s 2)) 0 := cw_sI (cw_sU (cw_refl C) (fun _ _ h => by cases h)) rfl
  unfold cs_S_send
  repeat' split
  all_goals first | exact cw_sI (cw_sI h1 rfl) rfl | exact cw_sI (h1.then (cw_sendN _ hs)) rfl
theorem cr_mc_of {k : Nat} (hk : k < 4) (x y z : Int32) : cr_mc (Int32.ofNat k, x, y, z) := by
  have e : cr_kd (Int32.ofNat k, x, y, z) = k := ev_cl k (by omega)
  exact ⟨by rw [e], by rw [e]; exact hk⟩
theorem cw_below {C D : cr_C} {a r k : Nat} (h : cw C D a) (hr : r < 22) (h6 : 6 ≤ r) (hk : k < 4) (x b : Int32) : cw C (cs_E_addBelow D r x (Int32.ofNat k) b).2 (a + 1) := by
  unfold cs_E_addBelow
  split
  · exact cw_put h hr h6 (fun _ => ⟨Or.inl (cr_mc_of hk _ _ _), fun _ _ => cr_mc_of hk _ _ _⟩)
  · exact h.le (Nat.le_succ a)
theorem cw_acc2 (C : cr_C) {e k : Nat} (x : Int32) (he : e < 2) (hk : k < 4) : cw C (cs_E_acc2 C e k x).2 1 := by
  unfold cs_E_acc2
  repeat' split
  · exact cw_below (cw_7 (l := 0) (cw_refl C) (by omega)) (by omega) (by omega) hk _ _
  · exact cw_below (cw_7 (l := 1) (cw_refl C) (by omega)) (by omega) (by omega) hk _ _
  · exact cw_below (cw_7 (l := 2) (cw_refl C) (by omega)) (by omega) (by omega) hk _ _
  · exact (cw_refl C).le (by omega)
theorem cw_accept (C : cr_C) {e k : Nat} (x : Int32) (he : e < 2) (hk : k < 4) : cw C (cs_E_accept C e k x).2 1 := by
  intro h
  have hl := (h.L he k hk).2
  unfold cs_E_accept cs_E_acc1
  repeat' split
  · exact cw_acc2 C x he hk h
  · exact cw_acc2 C x he hk h
  · exact cw_below (cw_refl C) (by omega) (by omega) hk _ _ h
  · exact cw_below (cw_refl C) (by omega) (by omega) hk _ _ h
