/-! a changeover comes to its end -/
def cs_copy (C : cr_C) (e : Nat) : cr_C := cr_sI (cr_sI (cr_sI (cr_sI C 8 e 0 (C.1 7 e 0)) 8 e 1 (C.1 7 e 1)) 8 e 2 (C.1 7 e 2)) 8 e 3 (C.1 7 e 3)
theorem ev_cpy4 (w : ev_wd) (src dst : Nat) (x : Nat → Value) (hv : ∀ j, j < 4 → ev_v w src j = x j) : ev_cpy w src dst 0 0 4 = ev_set (ev_set (ev_set (ev_set w dst 0 (x 0)) dst 1 (x 1)) dst 2 (x 2)) dst 3 (x 3) := by
  refine Prod.ext rfl (Prod.ext rfl (Prod.ext (funext fun q => funext fun j => ?_) rfl))
  show (if q = dst then va_cpy (ev_v w src) (ev_v w dst) 0 0 4 j else w.2.2.1 q j) = if q = dst ∧ j = 3 then x 3 else if q = dst ∧ j = 2 then x 2 else if q = dst ∧ j = 1 then x 1 else if q = dst ∧ j = 0 then x 0 else w.2.2.1 q j
  by_cases e : q = dst
  · subst e
    rw [if_pos rfl]
    unfold va_cpy
    by_cases hj : j < 4
    · rw [if_pos (show 0 ≤ j ∧ j < 0 + 4 by omega), show 0 + (j - 0) = j by omega, hv j hj]
      rcases (show j = 0 ∨ j = 1 ∨ j = 2 ∨ j = 3 by omega) with rfl | rfl | rfl | rfl <;> simp
    · rw [if_neg (show ¬ (0 ≤ j ∧ j < 0 + 4) by omega), if_neg (show ¬ (q = q ∧ j = 3) by omega), if_neg (show ¬ (q = q ∧ j = 2) by omega), if_neg (show ¬ (q = q ∧ j = 1) by omega), if_neg (show ¬ (q = q ∧ j = 0) by omega)]
  · rw [if_neg e, if_neg (fun h => e h.1), if_neg (fun h => e h.1), if_neg (fun h => e h.1), if_neg (fun h => e h.1)]
def cs_E_pas (e : Nat) : List cr_m → cr_C → cr_C
  | [], C => C
  | μ :: zs, C => cs_E_pas e zs (cs_E_passOn C e μ)
def cs_E_mv (C : cr_C) (e l k : Nat) : cr_C := if C.1 7 e k = Int32.ofNat l then cs_E_moveClass C e k else C
def cs_E_mvs (C : cr_C) (e l : Nat) : cr_C := cs_E_mv (cs_E_mv (cs_E_mv (cs_E_mv C e l 0) e l 1) e l 2) e l 3
def cs_E_fin0 (C : cr_C) (e l : Nat) : cr_C := cs_copy (cr_sI C 2 (2 * l + e) 0 0) e
def cs_E_fin1 (C : cr_C) (e l : Nat) : cr_C := cr_sX (cs_E_pas e (C.2.1 (12 + (2 * l + e))) C) (12 + (2 * l + e)) []
def cs_E_finish (C : cr_C) (e l : Nat) : cr_C := cs_E_letGoHeld (cs_E_mvs (cs_E_fin1 (cs_E_fin0 C e l) e l) e l) e l
theorem cs_mv_X (C : cr_C) (e l k : Nat) : (cs_E_mv C e l k).2.1 = C.2.1 := by
  unfold cs_E_mv
  split
  · exact cs_move_X _ _ _
  · rfl
theorem cs_mvs_X (C : cr_C) (e l : Nat) : (cs_E_mvs C e l).2.1 = C.2.1 := by
  unfold cs_E_mvs
  rw [cs_mv_X, cs_mv_X, cs_mv_X, cs_mv_X]
theorem cr_L_mv {C : cr_C} {e : Nat} (h : cr_L C e) (l k : Nat) : cr_L (cs_E_mv C e l k) e := by
  unfold cs_E_mv
  split
  · exact cr_L_move h k
  · exact h
theorem cr_L_of {C D : cr_C} {e : Nat} (h : cr_L C e) (hI : ∀ k, D.1 7 e k = C.1 7 e k) : cr_L D e := by
  intro k hk
  have h1 := h k hk
  unfold cr_lk at h1 ⊢
  rw [hI]
  exact h1
theorem cs_pas_ok (e : Nat) (he : e < 2) : ∀ (zs : List cr_m) (C : cr_C), cr_L C e → (∀ μ ∈ zs, cr_mo μ) → cr_L (cs_E_pas e zs C) e ∧ (∀ q, (q < 6 ∨ 12 ≤ q) → (cs_E_pas e zs C).2.1 q = C.2.1 q) ∧ ∀ q, ((cs_E_pas e zs C).2.1 q).length ≤ (C.2.1 q).length + zs.length := by
  intro zs
  induction zs with
  | nil => intro C hL _; exact ⟨hL, fun _ _ => rfl, fun _ => Nat.le_refl _⟩
  | cons μ zs ih =>
    intro C hL hm
    obtain ⟨a, b, c⟩ := ih (cs_E_passOn C e μ) (cr_L_pass hL μ) (fun ν hν => hm ν (List.mem_cons_of_mem _ hν))
    refine ⟨a, fun q hq => (b q hq).trans (cs_pass_ne hL (hm μ List.mem_cons_self) he hq), fun q => ?_⟩
    have h1 := c q
    have h2 := cs_pass_len C e q μ
    rw [List.length_cons]
    show ((cs_E_pas e zs (cs_E_passOn C e μ)).2.1 q).length ≤ _
    omega
section CrT2
variable {G : ev_gx} {M : ev_mx} {d pc pc' tgt : Nat} {L : List (Nat × Value)} {st : List Value} {w w1 : ev_wd} {P : ev_r → ev_wd → Prop} {q0 mi n n' : Nat} {C : cr_C} {F : ev_wd} {Q : Nat → cr_m → Prop}
theorem K_copy {e : Nat} {L : List (Nat × Value)} (h : cr_K G q0 w C n F Q) (hq : q0 < ev_b G) (he : e < 2) (kk : ∀ w1, cr_K G q0 w1 (cs_copy C e) n F Q → ev_E G mm_E_finish (d + 1) 26 L [] w1 P) : ev_E G mm_E_finish (d + 1) 23 L [.int 4, .int 0, .ref (ev_b G + cr_o 8 e), .int 0, .ref (ev_b G + cr_o 7 e)] w P := by
  have hv : ∀ j, j < 4 → ev_v w (ev_b G + cr_o 7 e) j = .int (C.1 7 e j) := by
    obtain ⟨X, Ar, Cp, U, hR, -⟩ := id h
    exact fun j hj => hR.2.2.1 7 e j he (decide_eq_true hj)
  have hn7 : ev_n w (ev_b G + cr_o 7 e) = 4 := by
    obtain ⟨X, Ar, Cp, U, hR, -⟩ := id h
    exact (hR.2.1 7 e he).2 (by decide)
  have hn8 : ev_n w (ev_b G + cr_o 8 e) = 4 := by
    obtain ⟨X, Ar, Cp, U, hR, -⟩ := id h
    exact (hR.2.1 8 e he).2 (by decide)
  refine ev_copy (t := 0) (ty := .int) dd_E_finish_23 ml_E_220 nt_ac sc_ac in_SY (h.al (κ := 7) he) (h.al (κ := 8) he) (h.tg (κ := 7) he) (h.tg (κ := 8) he) rfl (by decide) (by decide) (by decide) (by rw [hn7]; decide) (by rw [hn8]; decide) (Or.inl ⟨rfl, fun i hi => ⟨C.1 7 e i, by rw [show (0 : Int32).toNatClampNeg + i = i from Nat.zero_add i]; exact hv i hi⟩⟩) (by decide) ?_
  have ew := ev_cpy4 w (ev_b G + cr_o 7 e) (ev_b G + cr_o 8 e) (fun j => .int (C.1 7 e j)) hv
  rw [show (0 : Int32).toNatClampNeg = 0 by decide, show (4 : Int32).toNatClampNeg = 4 by decide, ew]
  exact kk _ ((((h.setI hq (κ := 8) he rfl _).setI hq (κ := 8) he rfl _).setI hq (κ := 8) he rfl _).setI hq (κ := 8) he rfl _)
theorem k_E_pas {e l : Nat} (hq : q0 < ev_b G) (J : ev_J G q0 mi) (hn : n ≤ 200000) (he : e < 2) (hl : l < 3) (ys : List cr_m) (hys : ∀ μ ∈ ys, cr_mo μ) (hyl : ys.length < 2 ^ 30) :
    ∀ (zs : List cr_m) (k : Nat) (C : cr_C) (w : ev_wd), ys.drop k = zs → k ≤ ys.length → C.2.1 (12 + (2 * l + e)) = ys → cr_L C e → (∀ q, q < 3 → (C.2.1 (6 + (2 * q + e))).length + zs.length ≤ 8192) → (∀ w1, cr_K G q0 w1 (cs_E_pas e zs C) n F Q → ev_E G mm_E_finish (d + 9) 60 [(0, .ref (ev_b G + cr_o 9 e)), (1, .int (Int32.ofNat l)), (2, .ref (ev_b G + cr_o 2 (2 * l + e)))] [] w1 P) → cr_K G q0 w C n F Q →
      ev_E G mm_E_finish (d + 9) 28 [(0, .ref (ev_b G + cr_o 9 e)), (1, .int (Int32.ofNat l)), (2, .ref (ev_b G + cr_o 2 (2 * l + e))), (3, .int (Int32.ofNat k))] [] w P := by
  have hs : 2 * l + e < 6 := by omega
  have hr : 12 + (2 * l + e) < 22 := by omega
  intro zs
  induction zs with
  | nil =>
    intro k C w hd hk hX hL hb kk h
    have hk2 : ys.length ≤ k := List.drop_eq_nil_iff.mp hd
    refine ev_iload_n dd_E_finish_28 rfl ?_
    refine ev_aload_n dd_E_finish_29 rfl ?_
    refine K_gP (κ := 2) (q := cr_o 11 (12 + (2 * l + e))) dd_E_finish_30 fr_E_226 h hs rfl ?_
    refine ev_callvI [] dd_E_finish_33 ms_AL_size iv_E_201 (h.al (κ := 11) hr) (h.tg (κ := 11) hr) rfl (Nat.le_of_ble_eq_true rfl) (Nat.le_of_ble_eq_true rfl) (K_size h hr) ?_
    rw [hX]
    refine ev_icmp_ge dd_E_finish_36 (fun _ => ?_) (fun hc => absurd (nI_le hk2 (by omega)) hc)
    refine ev_loc3 (i0 := 0) (i1 := 1) (i2 := 2) rfl rfl rfl ?_
    exact kk w h
  | cons μ zs ih =>
    intro k C w hd hk hX hL hb kk h
    have hkl : k < ys.length := by
      rcases Nat.lt_or_ge k ys.length with h1 | h1
      · exact h1
      · rw [List.drop_of_length_le h1] at hd
        cases hd
    have hcons := List.drop_eq_getElem_cons hkl
    rw [hd] at hcons
    injection hcons with hc1 hc2
    have hx : (C.2.1 (12 + (2 * l + e)))[k]? = some μ := by
      rw [hX, hc1]
      exact List.getElem?_eq_getElem hkl
    have hmo : cr_mo μ := hys μ (by rw [hc1]; exact List.getElem_mem hkl)
    refine ev_iload_n dd_E_finish_28 rfl ?_
    refine ev_aload_n dd_E_finish_29 rfl ?_
    refine K_gP (κ := 2) (q := cr_o 11 (12 + (2 * l + e))) dd_E_finish_30 fr_E_226 h hs rfl ?_
    refine ev_callvI [] dd_E_finish_33 ms_AL_size iv_E_201 (h.al (κ := 11) hr) (h.tg (κ := 11) hr) rfl (Nat.le_of_ble_eq_true rfl) (Nat.le_of_ble_eq_true rfl) (K_size h hr) ?_
    rw [hX]
    refine ev_icmp_ge dd_E_finish_36 (fun hc => absurd hc (nI_ge hkl (by omega))) (fun _ => ?_)
    refine ev_aload_n dd_E_finish_39 rfl ?_
    refine ev_aload_n dd_E_finish_40 rfl ?_
    refine K_gP (κ := 2) (q := cr_o 11 (12 + (2 * l + e))) dd_E_finish_41 fr_E_226 h hs rfl ?_
    refine ev_iload_n dd_E_finish_44 rfl ?_
    refine ev_callv [.int (Int32.ofNat k)] dd_E_finish_45 ms_AL_get iv_E_229 (h.al (κ := 11) hr) (h.tg (κ := 11) hr) rfl (Nat.le_of_ble_eq_true rfl) (Nat.le_of_ble_eq_true rfl) (K_get h hr hx) (fun v w3 hp _ _ => ?_) (fun x w3 hp _ _ => by obtain ⟨-, y, h1, -⟩ := hp; cases h1)
    obtain ⟨rfl, y, h1, hy⟩ := hp
    cases h1
    refine ev_cast (c := 6) dd_E_finish_48 kl_E_139 hy.1 hy.2.1 rfl ?_
    have h' := h.know hy
    refine ev_callvV [_] dd_E_finish_51 ms_E_passOn iv_E_233 (h'.al (κ := 9) he) (h'.tg (κ := 9) he) rfl (Nat.le_of_ble_eq_true rfl) (Nat.le_of_ble_eq_true rfl) (k_E_passOn hq J hn he (Or.inr ⟨rfl, rfl⟩) hL hmo (fun q hq3 => by have := hb q hq3; rw [List.length_cons] at this; omega) h') (fun w4 h4 => ?_)
    refine ev_iinc dd_E_finish_54 rfl (by decide) ?_
    refine ev_goto dd_E_finish_57 ?_
    refine ev_loc4 (i0 := 0) (i1 := 1) (i2 := 2) (i3 := 3) rfl rfl rfl (v3 := .int (Int32.ofNat (k + 1))) (by rw [show Int32.ofNat (k + 1) = Int32.ofNat k + Int32.ofInt 1 by rw [inc_ofNat]; rfl]; rfl) ?_
    refine ih (k + 1) _ _ hc2.symm (by omega) ?_ (cr_L_pass hL μ) (fun q hq3 => ?_) kk (h4.less (fun _ _ hx => Or.inl hx))
    · rw [cs_pass_ne hL hmo he (by omega)]
      exact hX
    · have h5 := cs_pass_len C e (6 + (2 * q + e)) μ
      have := hb q hq3
      rw [List.length_cons] at this
      omega
theorem k_E_mv {e l k : Nat} (hq : q0 < ev_b G) (he : e < 2) (hk : k < 4) (hL : C.1 7 e k = Int32.ofNat (cr_lk C e k) ∧ cr_lk C e k < 3) (h : cr_K G q0 w C n F Q)
    (kk : ∀ w1, cr_K G q0 w1 (cs_E_mv C e l k) n F Q → ev_E G mm_E_finish (d + 9) 69 [(0, .ref (ev_b G + cr_o 9 e)), (1, .int (Int32.ofNat l)), (2, .ref (ev_b G + cr_o 2 (2 * l + e))), (3, .int (Int32.ofNat (k + 1)))] [] w1 P) :
    ev_E G mm_E_finish (d + 9) 69 [(0, .ref (ev_b G + cr_o 9 e)), (1, .int (Int32.ofNat l)), (2, .ref (ev_b G + cr_o 2 (2 * l + e))), (3, .int (Int32.ofNat k))] [] w P := by
  unfold cs_E_mv at kk
  refine ev_iload_n dd_E_finish_69 rfl ?_
  refine ev_ic (v := 4) dd_E_finish_70 (by decide +kernel) ?_
  refine ev_icmp_ge dd_E_finish_71 (fun hc => absurd hc (nI_ge (b := 4) hk (by decide))) (fun _ => ?_)
  refine ev_aload_n dd_E_finish_74 rfl ?_
  refine K_gP (κ := 9) (q := cr_o 7 e) dd_E_finish_75 fr_E_25 h he rfl ?_
  refine ev_iload_n dd_E_finish_78 rfl ?_
  refine K_iald (κ := 7) (j := k) dd_E_finish_79 h he rfl hk (decide_eq_true hk) (by decide) ?_
  refine ev_iload_n dd_E_finish_80 rfl ?_
  refine ev_icmp_ne dd_E_finish_81 (fun c => ?_) (fun c => ?_)
  · rw [if_neg c] at kk
    refine ev_iinc dd_E_finish_89 rfl (by decide) ?_
    refine ev_goto dd_E_finish_92 ?_
    refine ev_loc4 (i0 := 0) (i1 := 1) (i2 := 2) (i3 := 3) rfl rfl rfl (v3 := .int (Int32.ofNat (k + 1))) (by rw [show Int32.ofNat (k + 1) = Int32.ofNat k + Int32.ofInt 1 by rw [inc_ofNat]; rfl]; rfl) ?_
    exact kk _ h
  · rw [if_pos c] at kk
    refine ev_aload_n dd_E_finish_84 rfl ?_
    refine ev_iload_n dd_E_finish_85 rfl ?_
    refine ev_callvV [_] dd_E_finish_86 ms_E_moveClass iv_E_239 (h.al (κ := 9) he) (h.tg (κ := 9) he) rfl (Nat.le_of_ble_eq_true rfl) (Nat.le_of_ble_eq_true rfl) (k_E_moveClass hq he hk h) (fun w3 h3 => ?_)
    refine ev_iinc dd_E_finish_89 rfl (by decide) ?_
    refine ev_goto dd_E_finish_92 ?_
    refine ev_loc4 (i0 := 0) (i1 := 1) (i2 := 2) (i3 := 3) rfl rfl rfl (v3 := .int (Int32.ofNat (k + 1))) (by rw [show Int32.ofNat (k + 1) = Int32.ofNat k + Int32.ofInt 1 by rw [inc_ofNat]; rfl]; rfl) ?_
    exact kk _ h3
/-- what has to be so before a changeover comes to its end -/
def cr_fi (C : cr_C) (e l b : Nat) : Prop := cr_L C e ∧ (∀ μ ∈ C.2.1 (12 + (2 * l + e)), cr_mo μ) ∧ (∀ μ ∈ C.2.1 (18 + e), cr_mc μ) ∧ ∀ k, k < 3 → (C.2.1 (6 + (2 * k + e))).length + (C.2.1 (12 + (2 * l + e))).length + (C.2.1 (18 + e)).length ≤ b
theorem k_E_finish {e l : Nat} (hq : q0 < ev_b G) (J : ev_J G q0 mi) (hn : n ≤ 200000) (he : e < 2) (hl : l < 3) (hf : cr_fi C e l 8192) (h : cr_K G q0 w C n F Q) :
    ev_E G mm_E_finish (d + 9) 0 (lv_args 0 [.ref (ev_b G + cr_o 9 e), .int (Int32.ofNat l)]) [] w (cr_yv G q0 n F Q (cs_E_finish C e l)) := by
  have hs : 2 * l + e < 6 := by omega
  have hr : 12 + (2 * l + e) < 22 := by omega
  obtain ⟨f1, f2, f3, f4⟩ := hf
  have hlen := h.len hr
  unfold cs_E_finish
  refine ev_aload_n dd_E_finish_0 rfl ?_
  refine K_gP (κ := 9) (q := cr_o 16 e) dd_E_finish_1 fr_E_19 h he rfl ?_
  refine ev_iload_n dd_E_finish_4 rfl ?_
  refine K_aald (κ := 16) (j := l) (t := 6) (q := cr_o 2 (2 * l + e)) dd_E_finish_5 h he rfl rfl hl (by decide) (if_pos hl) ?_
  refine ev_astore_n dd_E_finish_6 (by decide) ?_
  refine ev_aload_n dd_E_finish_7 rfl ?_
  refine ev_ic (v := 0) dd_E_finish_8 (by decide +kernel) ?_
  refine K_pI (κ := 2) dd_E_finish_9 fk_E_167 h hq hs rfl rfl rfl (fun w1 h1 => ?_)
  refine ev_aload_n dd_E_finish_12 rfl ?_
  refine K_gP (κ := 9) (q := cr_o 7 e) dd_E_finish_13 fr_E_25 h1 he rfl ?_
  refine ev_ic (v := 0) dd_E_finish_16 (by decide +kernel) ?_
  refine ev_aload_n dd_E_finish_17 rfl ?_
  refine K_gP (κ := 9) (q := cr_o 8 e) dd_E_finish_18 fr_E_29 h1 he rfl ?_
  refine ev_ic (v := 0) dd_E_finish_21 (by decide +kernel) ?_
  refine ev_ic (v := 4) dd_E_finish_22 (by decide +kernel) ?_
  refine K_copy h1 hq he (fun w2 h2 => ?_)
  have g1 : cr_L (cs_E_fin0 C e l) e := cr_L_of f1 (fun k => by simp [cs_E_fin0, cs_copy, cr_sI, cr_u])
  have gX : (cs_E_fin0 C e l).2.1 = C.2.1 := rfl
  have h2' : cr_K G q0 w2 (cs_E_fin0 C e l) n F Q := h2
  generalize cs_E_fin0 C e l = D at *
  rw [← gX] at f2 f3 f4 hlen
  obtain ⟨p1, p2, p3⟩ := cs_pas_ok e he (D.2.1 (12 + (2 * l + e))) D g1 f2
  refine ev_ic (v := 0) dd_E_finish_26 (by decide +kernel) ?_
  refine ev_istore_n dd_E_finish_27 (by decide) ?_
  refine ev_loc4 (i0 := 0) (i1 := 1) (i2 := 2) (i3 := 3) rfl rfl rfl (v3 := .int (Int32.ofNat 0)) rfl ?_
  refine k_E_pas (zs := D.2.1 (12 + (2 * l + e))) hq J hn he hl (D.2.1 (12 + (2 * l + e))) f2 (by omega) 0 D w2 rfl (Nat.zero_le _) rfl g1 (fun q hq3 => by have := f4 q hq3; omega) (fun w3 h3 => ?_) h2'
  refine ev_aload_n dd_E_finish_60 rfl ?_
  refine K_gP (κ := 2) (q := cr_o 11 (12 + (2 * l + e))) dd_E_finish_61 fr_E_226 h3 hs rfl ?_
  refine ev_callvV [] dd_E_finish_64 ms_AL_clear iv_E_236 (h3.al (κ := 11) hr) (h3.tg (κ := 11) hr) rfl (Nat.le_of_ble_eq_true rfl) (Nat.le_of_ble_eq_true rfl) (K_clear hq h3 hr) (fun w4 h4' => ?_)
  have h4 : cr_K G q0 w4 (cs_E_fin1 D e l) n F Q := h4'
  have q1 : cr_L (cs_E_fin1 D e l) e := cr_L_of p1 (fun _ => rfl)
  have qne : ∀ q, q ≠ 12 + (2 * l + e) → (cs_E_fin1 D e l).2.1 q = (cs_E_pas e (D.2.1 (12 + (2 * l + e))) D).2.1 q := fun q hq1 => by
    unfold cs_E_fin1
    simp only [cr_sX, if_neg hq1]
  refine ev_ic (v := 0) dd_E_finish_67 (by decide +kernel) ?_
  refine ev_istore_n dd_E_finish_68 (by decide) ?_
  refine ev_loc4 (i0 := 0) (i1 := 1) (i2 := 2) (i3 := 3) rfl rfl rfl (v3 := .int (Int32.ofNat 0)) rfl ?_
  refine k_E_mv hq he (by decide) (q1 0 (by decide)) h4 (fun w5 h5 => ?_)
  have r1 := cr_L_mv q1 l 0
  refine k_E_mv hq he (by decide) (r1 1 (by decide)) h5 (fun w6 h6 => ?_)
  have r2 := cr_L_mv r1 l 1
  refine k_E_mv hq he (by decide) (r2 2 (by decide)) h6 (fun w7 h7 => ?_)
  have r3 := cr_L_mv r2 l 2
  refine k_E_mv hq he (by decide) (r3 3 (by decide)) h7 (fun w8 h8' => ?_)
  have r4 := cr_L_mv r3 l 3
  have h8 : cr_K G q0 w8 (cs_E_mvs (cs_E_fin1 D e l) e l) n F Q := h8'
  have r5 : cr_L (cs_E_mvs (cs_E_fin1 D e l) e l) e := r4
  refine ev_iload_n dd_E_finish_69 rfl ?_
  refine ev_ic (v := 4) dd_E_finish_70 (by decide +kernel) ?_
  refine ev_icmp_ge dd_E_finish_71 (fun _ => ?_) (fun hc => absurd (by decide) hc)
  refine ev_aload_n dd_E_finish_95 rfl ?_
  refine ev_iload_n dd_E_finish_96 rfl ?_
  have hheld : (cs_E_mvs (cs_E_fin1 D e l) e l).2.1 (18 + e) = D.2.1 (18 + e) := by
    rw [cs_mvs_X, qne _ (by omega), p2 _ (by omega)]
  refine ev_callvV [_] dd_E_finish_97 ms_E_letGoHeld iv_E_242 (h8.al (κ := 9) he) (h8.tg (κ := 9) he) rfl (Nat.le_of_ble_eq_true rfl) (Nat.le_of_ble_eq_true rfl) (k_E_letGoHeld (C := cs_E_mvs (cs_E_fin1 D e l) e l) hq J hn he (by rw [hheld]; exact f3) r5 (fun k hk => ?_) h8) (fun w9 h9 => ?_)
  · rw [hheld, cs_mvs_X, qne _ (by omega)]
    have := p3 (6 + (2 * k + e))
    have := f4 k hk
    omega
  · refine ev_vret dd_E_finish_100 rfl ?_
    exact ⟨rfl, h9⟩
end CrT2
