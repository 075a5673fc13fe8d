/-! a message is passed on -/
def cr_kd (μ : cr_m) : Nat := (cr_mk μ 0).toNatClampNeg
def cs_E_pass (C : cr_C) (e : Nat) (μ : cr_m) : cr_C := cs_put (cs_E_moveClass C e (cr_kd μ)) (6 + (2 * cr_lk (cs_E_moveClass C e (cr_kd μ)) e (cr_kd μ) + e)) μ
def cs_E_passOn (C : cr_C) (e : Nat) (μ : cr_m) : cr_C := if (4 : Int32) ≤ μ.1 then cs_E_say C e μ else cs_E_pass C e μ
/-- the links of an end are links -/
def cr_L (C : cr_C) (e : Nat) : Prop := ∀ k, k < 4 → C.1 7 e k = Int32.ofNat (cr_lk C e k) ∧ cr_lk C e k < 3
/-- a message of a class is of one of the four -/
def cr_mo (μ : cr_m) : Prop := ¬ (4 : Int32) ≤ μ.1 → μ.1 = Int32.ofNat (cr_kd μ) ∧ cr_kd μ < 4
theorem cs_move_X (C : cr_C) (e k : Nat) : (cs_E_moveClass C e k).2.1 = C.2.1 := by
  unfold cs_E_moveClass
  split <;> rfl
theorem cr_L_move {C : cr_C} {e : Nat} (h : cr_L C e) (k : Nat) : cr_L (cs_E_moveClass C e k) e := by
  unfold cs_E_moveClass
  split
  · exact h
  · rename_i c
    intro k' hk'
    unfold cr_lk
    by_cases e1 : k' = k
    · subst e1
      rw [cr_sI_at]
      rcases cs_choose1 C e k' with e2 | e2 | e2 | e2
      · rw [e2]; exact ⟨by decide, by decide⟩
      · rw [e2]; exact ⟨by decide, by decide⟩
      · rw [e2]; exact ⟨by decide, by decide⟩
      · exact absurd e2 c
    · have e3 : (cr_sI C 7 e k (cs_E_choose C e k).1).1 7 e k' = C.1 7 e k' := by simp [cr_sI, cr_u, e1]
      rw [e3]
      exact h k' hk'
theorem cs_put_len (C : cr_C) (r q : Nat) (μ : cr_m) : ((cs_put C r μ).2.1 q).length ≤ (C.2.1 q).length + 1 := by
  unfold cs_put
  by_cases e : q = r
  · subst e
    rw [cr_sX_at, List.length_append]
    exact Nat.le_refl _
  · simp only [cr_sX, if_neg e]
    omega
theorem cs_put_ne (C : cr_C) {r q : Nat} (μ : cr_m) (h : q ≠ r) : (cs_put C r μ).2.1 q = C.2.1 q := by
  unfold cs_put
  simp only [cr_sX, if_neg h]
theorem cs_say_len (C : cr_C) (e q : Nat) (μ : cr_m) : ((cs_E_say C e μ).2.1 q).length ≤ (C.2.1 q).length + 1 := by
  unfold cs_E_say
  split
  · exact cs_put_len _ _ _ _
  · split
    · exact cs_put_len _ _ _ _
    · split
      · exact cs_put_len _ _ _ _
      · omega
theorem cs_say_ne (C : cr_C) {e q : Nat} (μ : cr_m) (he : e < 2) (h : q < 6 ∨ 12 ≤ q) : (cs_E_say C e μ).2.1 q = C.2.1 q := by
  unfold cs_E_say
  split
  · exact cs_put_ne _ _ (by omega)
  · split
    · exact cs_put_ne _ _ (by omega)
    · split
      · exact cs_put_ne _ _ (by omega)
      · rfl
theorem cs_say_I (C : cr_C) (e : Nat) (μ : cr_m) : (cs_E_say C e μ).1 = C.1 := by
  unfold cs_E_say
  repeat' split
  all_goals rfl
theorem cs_pass_len (C : cr_C) (e q : Nat) (μ : cr_m) : ((cs_E_passOn C e μ).2.1 q).length ≤ (C.2.1 q).length + 1 := by
  unfold cs_E_passOn
  split
  · exact cs_say_len _ _ _ _
  · unfold cs_E_pass
    have := cs_put_len (cs_E_moveClass C e (cr_kd μ)) (6 + (2 * cr_lk (cs_E_moveClass C e (cr_kd μ)) e (cr_kd μ) + e)) q μ
    rw [cs_move_X] at this
    exact this
theorem cs_pass_ne {C : cr_C} {e q : Nat} {μ : cr_m} (hL : cr_L C e) (hm : cr_mo μ) (he : e < 2) (h : q < 6 ∨ 12 ≤ q) : (cs_E_passOn C e μ).2.1 q = C.2.1 q := by
  unfold cs_E_passOn
  split
  · exact cs_say_ne _ _ he h
  · rename_i c
    unfold cs_E_pass
    have h1 := (cr_L_move hL (cr_kd μ) (cr_kd μ) (hm c).2).2
    rw [cs_put_ne _ _ (by omega), cs_move_X]
theorem cr_L_pass {C : cr_C} {e : Nat} (hL : cr_L C e) (μ : cr_m) : cr_L (cs_E_passOn C e μ) e := by
  unfold cs_E_passOn
  split
  · intro k hk
    have h1 := hL k hk
    unfold cr_lk at h1 ⊢
    rw [cs_say_I]
    exact h1
  · exact cr_L_move hL (cr_kd μ)
section CrR2
variable {G : ev_gx} {M : ev_mx} {d pc pc' tgt : Nat} {L : List (Nat × Value)} {st : List Value} {w w1 : ev_wd} {P : ev_r → ev_wd → Prop} {q0 mi n n' : Nat} {C : cr_C} {F : ev_wd} {Q : Nat → cr_m → Prop}
theorem k_E_passOn {e x : Nat} {μ : cr_m} (hq : q0 < ev_b G) (J : ev_J G q0 mi) (hn : n ≤ 200000) (he : e < 2) (hx : Q x μ) (hL : cr_L C e) (hmo : cr_mo μ) (hb : ∀ l, l < 3 → (C.2.1 (6 + (2 * l + e))).length ≤ 8191) (h : cr_K G q0 w C n F Q) :
    ev_E G mm_E_passOn (d + 8) 0 (lv_args 0 [.ref (ev_b G + cr_o 9 e), .ref x]) [] w (cr_yv G q0 n F Q (cs_E_passOn C e μ)) := by
  have hm := h.ms hx
  unfold cs_E_passOn
  refine ev_aload_n dd_E_passOn_0 rfl ?_
  refine ev_callvI [] dd_E_passOn_1 ms_G_isOfClass iv_E_245 hm.1 hm.2.1 rfl (Nat.le_of_ble_eq_true rfl) (Nat.le_of_ble_eq_true rfl) (k_G_isOfClass hm) ?_
  by_cases c : (4 : Int32) ≤ μ.1
  · rw [if_pos c, if_pos c]
    refine ev_if_eq dd_E_passOn_4 (fun _ => ?_) (fun hc => absurd rfl hc)
    refine ev_aload_n dd_E_passOn_40 rfl ?_
    refine ev_aload_n dd_E_passOn_41 rfl ?_
    refine ev_callvV [_] dd_E_passOn_42 ms_E_say iv_E_164 (h.al (κ := 9) he) (h.tg (κ := 9) he) rfl (Nat.le_of_ble_eq_true rfl) (Nat.le_of_ble_eq_true rfl) (k_E_say hq J hn he hx hb h) (fun w3 h3 => ?_)
    refine ev_vret dd_E_passOn_45 rfl ?_
    exact ⟨rfl, h3⟩
  · rw [if_neg c, if_neg c]
    obtain ⟨hk0, hk⟩ := hmo c
    obtain ⟨hl0, hl⟩ := cr_L_move hL (cr_kd μ) (cr_kd μ) hk
    have hk1 : cr_mk μ 0 = Int32.ofNat (cr_kd μ) := hk0
    have hr : 6 + (2 * cr_lk (cs_E_moveClass C e (cr_kd μ)) e (cr_kd μ) + e) < 22 := by omega
    have hs : 2 * cr_lk (cs_E_moveClass C e (cr_kd μ)) e (cr_kd μ) + e < 6 := by omega
    refine ev_if_eq dd_E_passOn_4 (fun hc => absurd hc (by decide)) (fun _ => ?_)
    refine ev_aload_n dd_E_passOn_7 rfl ?_
    refine ev_aload_n dd_E_passOn_8 rfl ?_
    refine K_gM dd_E_passOn_9 fr_E_138 hm (by decide) ?_
    rw [hk1]
    refine ev_callvV [_] dd_E_passOn_12 ms_E_moveClass iv_E_239 (h.al (κ := 9) he) (h.tg (κ := 9) he) rfl (Nat.le_of_ble_eq_true rfl) (Nat.le_of_ble_eq_true rfl) (k_E_moveClass hq he hk h) (fun w3 h3 => ?_)
    have hm3 := h3.ms hx
    unfold cs_E_pass
    generalize hD : cs_E_moveClass C e (cr_kd μ) = D at *
    refine ev_aload_n dd_E_passOn_15 rfl ?_
    refine K_gP (κ := 9) (q := cr_o 15 e) dd_E_passOn_16 fr_E_11 h3 he rfl ?_
    refine ev_aload_n dd_E_passOn_19 rfl ?_
    refine K_gP (κ := 9) (q := cr_o 7 e) dd_E_passOn_20 fr_E_25 h3 he rfl ?_
    refine ev_aload_n dd_E_passOn_23 rfl ?_
    refine K_gM dd_E_passOn_24 fr_E_138 hm3 (by decide) ?_
    rw [hk1]
    refine K_iald (κ := 7) (j := cr_kd μ) dd_E_passOn_27 h3 he rfl hk (decide_eq_true hk) (by decide) ?_
    rw [hl0]
    refine K_aald (κ := 15) (j := cr_lk D e (cr_kd μ)) (t := 5) (q := cr_o 1 (2 * cr_lk D e (cr_kd μ) + e)) dd_E_passOn_28 h3 he rfl rfl hl (by decide) (if_pos hl) ?_
    refine K_gP (κ := 1) (q := cr_o 11 (6 + (2 * cr_lk D e (cr_kd μ) + e))) dd_E_passOn_29 fr_E_185 h3 hs rfl ?_
    refine ev_aload_n dd_E_passOn_32 rfl ?_
    refine ev_callv [.ref x] dd_E_passOn_33 ms_AL_add1 iv_E_149 (h3.al (κ := 11) hr) (h3.tg (κ := 11) hr) rfl (Nat.le_of_ble_eq_true rfl) (Nat.le_of_ble_eq_true rfl) (K_add J h3 hr (by rw [← hD, cs_move_X, hD]; exact hb _ hl) hn hm3) (fun v w5 hp _ _ => ?_) (fun x w3 hp _ _ => by obtain ⟨h1, -⟩ := hp; cases h1)
    obtain ⟨h1, h5⟩ := hp
    cases h1
    refine ev_pop dd_E_passOn_36 rfl ?_
    refine ev_goto dd_E_passOn_37 ?_
    refine ev_vret dd_E_passOn_45 rfl ?_
    exact ⟨rfl, h5⟩
end CrR2
