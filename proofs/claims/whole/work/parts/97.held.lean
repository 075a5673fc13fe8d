/-! what was held goes -/
theorem ms_dec (k : Nat) : Int32.ofNat (k + 1) + Int32.ofInt (-1) = Int32.ofNat k := by
  rw [show Int32.ofNat (k + 1) = Int32.ofNat k + Int32.ofInt 1 by rw [inc_ofNat]; rfl, Int32.add_assoc, show Int32.ofInt 1 + Int32.ofInt (-1) = 0 by decide +kernel, Int32.add_zero]
def cs_E_lgh (e l : Nat) : List cr_m → List cr_m → cr_C → cr_C
  | [], _, C => C
  | μ :: zs, pre, C => if C.1 8 e (cr_kd μ) = Int32.ofNat l then cs_E_lgh e l zs pre (cs_put (cr_sX C (18 + e) (pre ++ zs)) (6 + (2 * cr_lk C e (cr_kd μ) + e)) μ) else cs_E_lgh e l zs (pre ++ [μ]) C
def cs_E_letGoHeld (C : cr_C) (e l : Nat) : cr_C := cs_E_lgh e l (C.2.1 (18 + e)) [] C
/-- a message of a class -/
def cr_mc (μ : cr_m) : Prop := μ.1 = Int32.ofNat (cr_kd μ) ∧ cr_kd μ < 4
section CrS2
variable {G : ev_gx} {M : ev_mx} {d pc pc' tgt : Nat} {L : List (Nat × Value)} {st : List Value} {w w1 : ev_wd} {P : ev_r → ev_wd → Prop} {q0 mi n n' : Nat} {C : cr_C} {F : ev_wd} {Q : Nat → cr_m → Prop}
theorem k_E_lgh {e l : Nat} (hq : q0 < ev_b G) (J : ev_J G q0 mi) (hn : n ≤ 200000) (he : e < 2) : ∀ (zs pre : List cr_m) (C : cr_C) (w : ev_wd), C.2.1 (18 + e) = pre ++ zs → (∀ μ ∈ zs, cr_mc μ) → cr_L C e → (∀ k, k < 3 → (C.2.1 (6 + (2 * k + e))).length + zs.length ≤ 8192) → cr_K G q0 w C n F Q →
    ev_E G mm_E_letGoHeld (d + 7) 10 [(0, .ref (ev_b G + cr_o 9 e)), (1, .int (Int32.ofNat l)), (2, .int (Int32.ofNat pre.length)), (3, .int (Int32.ofNat zs.length))] [] w (cr_yv G q0 n F Q (cs_E_lgh e l zs pre C)) := by
  have hr : 18 + e < 22 := by omega
  intro zs
  induction zs with
  | nil =>
    intro pre C w hX hm hL hb h
    refine ev_iload_n dd_E_letGoHeld_10 rfl ?_
    refine ev_if_le dd_E_letGoHeld_11 (fun _ => ?_) (fun hc => absurd (by decide) hc)
    refine ev_vret dd_E_letGoHeld_97 rfl ?_
    exact ⟨rfl, h⟩
  | cons μ zs ih =>
    intro pre C w hX hm hL hb h
    have hlen := h.len hr
    rw [hX] at hlen
    have hlen2 : pre.length + zs.length + 1 < 2 ^ 31 := by
      simp only [List.length_append, List.length_cons] at hlen
      omega
    obtain ⟨hk0, hk⟩ := hm μ List.mem_cons_self
    have hk1 : cr_mk μ 0 = Int32.ofNat (cr_kd μ) := hk0
    obtain ⟨hl0, hl⟩ := hL (cr_kd μ) hk
    have hx : (C.2.1 (18 + e))[pre.length]? = some μ := by
      rw [hX, List.getElem?_append_right (Nat.le_refl _), Nat.sub_self]
      rfl
    refine ev_iload_n dd_E_letGoHeld_10 rfl ?_
    refine ev_if_le dd_E_letGoHeld_11 (fun hc => absurd hc (nI_nle (by rw [List.length_cons]; omega) (by rw [List.length_cons]; omega))) (fun _ => ?_)
    refine ev_iload_n dd_E_letGoHeld_14 rfl ?_
    refine ev_aload_n dd_E_letGoHeld_15 rfl ?_
    refine K_gP (κ := 9) (q := cr_o 11 (18 + e)) dd_E_letGoHeld_16 fr_E_35 h he rfl ?_
    refine ev_callvI [] dd_E_letGoHeld_19 ms_AL_size iv_E_201 (h.al (κ := 11) hr) (h.tg (κ := 11) hr) rfl (Nat.le_of_ble_eq_true rfl) (Nat.le_of_ble_eq_true rfl) (K_size h hr) ?_
    refine ev_icmp_ge dd_E_letGoHeld_22 (fun hc => absurd hc (nI_ge (by rw [hX, List.length_append, List.length_cons]; omega) (by rw [hX, List.length_append, List.length_cons]; omega))) (fun _ => ?_)
    refine ev_aload_n dd_E_letGoHeld_25 rfl ?_
    refine K_gP (κ := 9) (q := cr_o 11 (18 + e)) dd_E_letGoHeld_26 fr_E_35 h he rfl ?_
    refine ev_iload_n dd_E_letGoHeld_29 rfl ?_
    refine ev_callv [.int (Int32.ofNat pre.length)] dd_E_letGoHeld_30 ms_AL_get iv_E_229 (h.al (κ := 11) hr) (h.tg (κ := 11) hr) rfl (Nat.le_of_ble_eq_true rfl) (Nat.le_of_ble_eq_true rfl) (K_get h hr hx) (fun v w3 hp _ _ => ?_) (fun x w3 hp _ _ => by obtain ⟨-, y, h1, -⟩ := hp; cases h1)
    obtain ⟨rfl, y, h1, hy⟩ := hp
    cases h1
    refine ev_cast (c := 6) dd_E_letGoHeld_33 kl_E_139 hy.1 hy.2.1 rfl ?_
    refine ev_astore (x := y) dd_E_letGoHeld_36 (by decide) ?_
    refine ev_aload_n dd_E_letGoHeld_38 rfl ?_
    refine K_gP (κ := 9) (q := cr_o 8 e) dd_E_letGoHeld_39 fr_E_29 h he rfl ?_
    refine ev_aload dd_E_letGoHeld_42 rfl ?_
    refine K_gM dd_E_letGoHeld_44 fr_E_138 hy (by decide) ?_
    rw [hk1]
    refine K_iald (κ := 8) (j := cr_kd μ) dd_E_letGoHeld_47 h he rfl hk (decide_eq_true hk) (by decide) ?_
    refine ev_iload_n dd_E_letGoHeld_48 rfl ?_
    refine ev_icmp_ne dd_E_letGoHeld_49 (fun c => ?_) (fun c => ?_)
    · have e0 : cs_E_lgh e l (μ :: zs) pre C = cs_E_lgh e l zs (pre ++ [μ]) C := by
        show (if C.1 8 e (cr_kd μ) = Int32.ofNat l then _ else _) = _
        rw [if_neg c]
      rw [e0]
      refine ev_iinc dd_E_letGoHeld_88 rfl (by decide) ?_
      refine ev_iinc dd_E_letGoHeld_91 rfl (by decide) ?_
      refine ev_goto dd_E_letGoHeld_94 ?_
      refine ev_loc4 (i0 := 0) (i1 := 1) (i2 := 2) (i3 := 3) rfl rfl (v2 := .int (Int32.ofNat (pre ++ [μ]).length)) (by rw [List.length_append, List.length_singleton, show Int32.ofNat (pre.length + 1) = Int32.ofNat pre.length + Int32.ofInt 1 by rw [inc_ofNat]; rfl]; rfl) (v3 := .int (Int32.ofNat zs.length)) (by rw [show Int32.ofNat zs.length = Int32.ofNat (zs.length + 1) + Int32.ofInt (-1) from (ms_dec _).symm]; rfl) ?_
      exact ih (pre ++ [μ]) C _ (by rw [hX, List.append_assoc]; rfl) (fun ν hν => hm ν (List.mem_cons_of_mem _ hν)) hL (fun k hk => by have := hb k hk; rw [List.length_cons] at this; omega) h
    · have e0 : cs_E_lgh e l (μ :: zs) pre C = cs_E_lgh e l zs pre (cs_put (cr_sX C (18 + e) (pre ++ zs)) (6 + (2 * cr_lk C e (cr_kd μ) + e)) μ) := by
        show (if C.1 8 e (cr_kd μ) = Int32.ofNat l then _ else _) = _
        rw [if_pos c]
      rw [e0]
      have hrow : 6 + (2 * cr_lk C e (cr_kd μ) + e) < 22 := by omega
      have hs : 2 * cr_lk C e (cr_kd μ) + e < 6 := by omega
      have h' := h.know hy
      refine ev_aload_n dd_E_letGoHeld_52 rfl ?_
      refine K_gP (κ := 9) (q := cr_o 11 (18 + e)) dd_E_letGoHeld_53 fr_E_35 h' he rfl ?_
      refine ev_iload_n dd_E_letGoHeld_56 rfl ?_
      refine ev_callv [.int (Int32.ofNat pre.length)] dd_E_letGoHeld_57 ms_AL_remove iv_E_248 (h'.al (κ := 11) hr) (h'.tg (κ := 11) hr) rfl (Nat.le_of_ble_eq_true rfl) (Nat.le_of_ble_eq_true rfl) (K_remove hq h' hr hx) (fun v w4 hp _ _ => ?_) (fun x w3 hp _ _ => by obtain ⟨⟨y, h1, -⟩, -⟩ := hp; cases h1)
      obtain ⟨⟨y2, h1, -⟩, h4⟩ := hp
      cases h1
      have e4 : (C.2.1 (18 + e)).eraseIdx pre.length = pre ++ zs := by
        rw [hX, List.eraseIdx_append_of_length_le (Nat.le_refl _), Nat.sub_self]
        rfl
      rw [e4] at h4
      have hm4 := h4.ms (Or.inr ⟨rfl, rfl⟩)
      refine ev_pop dd_E_letGoHeld_60 rfl ?_
      refine ev_aload_n dd_E_letGoHeld_61 rfl ?_
      refine K_gP (κ := 9) (q := cr_o 15 e) dd_E_letGoHeld_62 fr_E_11 h4 he rfl ?_
      refine ev_aload_n dd_E_letGoHeld_65 rfl ?_
      refine K_gP (κ := 9) (q := cr_o 7 e) dd_E_letGoHeld_66 fr_E_25 h4 he rfl ?_
      refine ev_aload dd_E_letGoHeld_69 rfl ?_
      refine K_gM dd_E_letGoHeld_71 fr_E_138 hm4 (by decide) ?_
      rw [hk1]
      refine K_iald (κ := 7) (j := cr_kd μ) dd_E_letGoHeld_74 h4 he rfl hk (decide_eq_true hk) (by decide) ?_
      rw [show (cr_sX C (18 + e) (pre ++ zs)).1 7 e (cr_kd μ) = Int32.ofNat (cr_lk C e (cr_kd μ)) from hl0]
      refine K_aald (κ := 15) (j := cr_lk C e (cr_kd μ)) (t := 5) (q := cr_o 1 (2 * cr_lk C e (cr_kd μ) + e)) dd_E_letGoHeld_75 h4 he rfl rfl hl (by decide) (if_pos hl) ?_
      refine K_gP (κ := 1) (q := cr_o 11 (6 + (2 * cr_lk C e (cr_kd μ) + e))) dd_E_letGoHeld_76 fr_E_185 h4 hs rfl ?_
      refine ev_aload dd_E_letGoHeld_79 rfl ?_
      have hz : ∀ k, k < 3 → (cr_sX C (18 + e) (pre ++ zs)).2.1 (6 + (2 * k + e)) = C.2.1 (6 + (2 * k + e)) := fun k hk => by
        simp only [cr_sX]
        rw [if_neg (by omega)]
      refine ev_callv [.ref y] dd_E_letGoHeld_81 ms_AL_add1 iv_E_149 (h4.al (κ := 11) hrow) (h4.tg (κ := 11) hrow) rfl (Nat.le_of_ble_eq_true rfl) (Nat.le_of_ble_eq_true rfl) (K_add J h4 hrow (by rw [hz _ hl]; have := hb _ hl; rw [List.length_cons] at this; omega) hn hm4) (fun v w5 hp _ _ => ?_) (fun x w3 hp _ _ => by obtain ⟨h1, -⟩ := hp; cases h1)
      obtain ⟨h1, h5⟩ := hp
      cases h1
      refine ev_pop dd_E_letGoHeld_84 rfl ?_
      refine ev_goto dd_E_letGoHeld_85 ?_
      refine ev_iinc dd_E_letGoHeld_91 rfl (by decide) ?_
      refine ev_goto dd_E_letGoHeld_94 ?_
      refine ev_loc4 (i0 := 0) (i1 := 1) (i2 := 2) (i3 := 3) rfl rfl rfl (v3 := .int (Int32.ofNat zs.length)) (by rw [show Int32.ofNat zs.length = Int32.ofNat (zs.length + 1) + Int32.ofInt (-1) from (ms_dec _).symm]; rfl) ?_
      refine ih pre _ _ ?_ (fun ν hν => hm ν (List.mem_cons_of_mem _ hν)) (fun k hk => hL k hk) (fun k hk => ?_) (h5.less (fun _ _ hx => Or.inl hx))
      · rw [cs_put_ne _ _ (by omega), cr_sX_at]
      · have h6 := cs_put_len (cr_sX C (18 + e) (pre ++ zs)) (6 + (2 * cr_lk C e (cr_kd μ) + e)) (6 + (2 * k + e)) μ
        rw [hz k hk] at h6
        have := hb k hk
        rw [List.length_cons] at this
        omega
theorem k_E_letGoHeld {e l : Nat} (hq : q0 < ev_b G) (J : ev_J G q0 mi) (hn : n ≤ 200000) (he : e < 2) (hm : ∀ μ ∈ C.2.1 (18 + e), cr_mc μ) (hL : cr_L C e) (hb : ∀ k, k < 3 → (C.2.1 (6 + (2 * k + e))).length + (C.2.1 (18 + e)).length ≤ 8192) (h : cr_K G q0 w C n F Q) :
    ev_E G mm_E_letGoHeld (d + 7) 0 (lv_args 0 [.ref (ev_b G + cr_o 9 e), .int (Int32.ofNat l)]) [] w (cr_yv G q0 n F Q (cs_E_letGoHeld C e l)) := by
  have hr : 18 + e < 22 := by omega
  refine ev_ic (v := 0) dd_E_letGoHeld_0 (by decide +kernel) ?_
  refine ev_istore_n dd_E_letGoHeld_1 (by decide) ?_
  refine ev_aload_n dd_E_letGoHeld_2 rfl ?_
  refine K_gP (κ := 9) (q := cr_o 11 (18 + e)) dd_E_letGoHeld_3 fr_E_35 h he rfl ?_
  refine ev_callvI [] dd_E_letGoHeld_6 ms_AL_size iv_E_201 (h.al (κ := 11) hr) (h.tg (κ := 11) hr) rfl (Nat.le_of_ble_eq_true rfl) (Nat.le_of_ble_eq_true rfl) (K_size h hr) ?_
  refine ev_istore_n dd_E_letGoHeld_9 (by decide) ?_
  refine ev_loc4 (i0 := 0) (i1 := 1) (i2 := 2) (i3 := 3) rfl rfl (v2 := .int (Int32.ofNat ([] : List cr_m).length)) rfl rfl ?_
  exact k_E_lgh hq J hn he (C.2.1 (18 + e)) [] C w rfl hm hL hb h
end CrS2
