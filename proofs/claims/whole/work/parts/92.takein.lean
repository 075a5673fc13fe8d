/-! a message is taken in -/
section CrM2
variable {G : ev_gx} {M : ev_mx} {d pc pc' tgt : Nat} {L : List (Nat × Value)} {st : List Value} {w w1 : ev_wd} {P : ev_r → ev_wd → Prop} {q0 mi n n' : Nat} {C : cr_C} {F : ev_wd} {Q : Nat → cr_m → Prop}
def cs_E_takeIn (C : cr_C) (e l : Nat) (μ : cr_m) : cr_C := if cr_mk μ 0 = 4 then cs_E_takeOrder C e l μ else if cr_mk μ 0 = 5 then cs_E_takeAnswer C e l μ else cs_put C (20 + e) μ
/-- what has to be so before a message is taken in: an order's and an answer's link, room in the rows -/
def cr_ti (C : cr_C) (e l : Nat) (μ : cr_m) : Prop := (cr_mk μ 0 = 4 ∨ cr_mk μ 0 = 5 → l < 3 ∧ cr_mk μ 1 = Int32.ofNat l) ∧ (cr_mk μ 0 = 4 → cr_b C (2 * l + e) ∧ ∀ k, k < 3 → ((cs_E_ord0 C e l μ).2.1 (6 + (2 * k + e))).length ≤ 8191) ∧ (C.2.1 (20 + e)).length ≤ 8191
theorem k_E_takeIn {e x l : Nat} {μ : cr_m} (hq : q0 < ev_b G) (J : ev_J G q0 mi) (hn : n + 1 ≤ 200000) (he : e < 2) (hx : Q x μ) (ht : cr_ti C e l μ) (h : cr_K G q0 w C n F Q) : ev_E G mm_E_takeIn (d + 10) 0 (lv_args 0 [.ref (ev_b G + cr_o 9 e), .ref x]) [] w (cr_yv G q0 (n + 1) F Q (cs_E_takeIn C e l μ)) := by
  have hm := h.ms hx
  have hr : 20 + e < 22 := by omega
  obtain ⟨t1, t2, t3⟩ := ht
  unfold cs_E_takeIn
  refine ev_aload_n dd_E_takeIn_0 rfl ?_
  refine K_gM dd_E_takeIn_1 fr_E_138 hm (by decide) ?_
  refine ev_ic (v := 4) dd_E_takeIn_4 (by decide +kernel) ?_
  refine ev_icmp_ne dd_E_takeIn_5 (fun c => ?_) (fun c => ?_)
  · rw [if_neg c]
    refine ev_aload_n dd_E_takeIn_16 rfl ?_
    refine K_gM dd_E_takeIn_17 fr_E_138 hm (by decide) ?_
    refine ev_ic (v := 5) dd_E_takeIn_20 (by decide +kernel) ?_
    refine ev_icmp_ne dd_E_takeIn_21 (fun c2 => ?_) (fun c2 => ?_)
    · rw [if_neg c2]
      refine ev_aload_n dd_E_takeIn_32 rfl ?_
      refine K_gP (κ := 9) (q := cr_o 11 (20 + e)) dd_E_takeIn_33 fr_E_39 h he rfl ?_
      refine ev_aload_n dd_E_takeIn_36 rfl ?_
      refine ev_callv [.ref x] dd_E_takeIn_37 ms_AL_add1 iv_E_149 (h.al (κ := 11) hr) (h.tg (κ := 11) hr) rfl (Nat.le_of_ble_eq_true rfl) (Nat.le_of_ble_eq_true rfl) (K_add J h hr t3 (by omega) hm) (fun v w5 hp _ _ => ?_) (fun x w3 hp _ _ => by obtain ⟨h1, -⟩ := hp; cases h1)
      obtain ⟨h1, h5⟩ := hp
      cases h1
      refine ev_pop dd_E_takeIn_40 rfl ?_
      refine ev_vret dd_E_takeIn_41 rfl ?_
      exact ⟨rfl, h5.more (Nat.le_succ n)⟩
    · rw [if_pos c2]
      obtain ⟨hl, hw⟩ := t1 (Or.inr c2)
      refine ev_aload_n dd_E_takeIn_24 rfl ?_
      refine ev_aload_n dd_E_takeIn_25 rfl ?_
      refine ev_callvV [_] dd_E_takeIn_26 ms_E_takeAnswer iv_E_146 (h.al (κ := 9) he) (h.tg (κ := 9) he) rfl (Nat.le_of_ble_eq_true rfl) (Nat.le_of_ble_eq_true rfl) (k_E_takeAnswer hq he hl hx hw h) (fun w5 h5 => ?_)
      refine ev_goto dd_E_takeIn_29 ?_
      refine ev_vret dd_E_takeIn_41 rfl ?_
      exact ⟨rfl, h5.more (Nat.le_succ n)⟩
  · rw [if_pos c]
    obtain ⟨hl, hw⟩ := t1 (Or.inl c)
    refine ev_aload_n dd_E_takeIn_8 rfl ?_
    refine ev_aload_n dd_E_takeIn_9 rfl ?_
    refine ev_callvV [_] dd_E_takeIn_10 ms_E_takeOrder iv_E_143 (h.al (κ := 9) he) (h.tg (κ := 9) he) rfl (Nat.le_of_ble_eq_true rfl) (Nat.le_of_ble_eq_true rfl) (k_E_takeOrder hq J hn he hl hx hw (t2 c).1 (t2 c).2 h) (fun w5 h5 => ?_)
    refine ev_goto dd_E_takeIn_13 ?_
    refine ev_vret dd_E_takeIn_41 rfl ?_
    exact ⟨rfl, h5⟩
end CrM2
