/-! an answer comes -/
section CrK2
variable {G : ev_gx} {M : ev_mx} {d pc pc' tgt : Nat} {L : List (Nat × Value)} {st : List Value} {w w1 : ev_wd} {P : ev_r → ev_wd → Prop} {q0 mi n n' : Nat} {C : cr_C} {F : ev_wd} {Q : Nat → cr_m → Prop}
def cs_E_takeAnswer (C : cr_C) (e l : Nat) (μ : cr_m) : cr_C := if C.1 2 (2 * l + e) 0 = 0 then C else if C.1 2 (2 * l + e) 2 = 0 then (if C.1 2 (2 * l + e) 4 = cr_mk μ 3 then cs_C_settle C (2 * l + e) (cr_mk μ 2) else C) else C
theorem k_E_takeAnswer {e x l : Nat} {μ : cr_m} (hq : q0 < ev_b G) (he : e < 2) (hl : l < 3) (hx : Q x μ) (hw : cr_mk μ 1 = Int32.ofNat l) (h : cr_K G q0 w C n F Q) : ev_E G mm_E_takeAnswer (d + 5) 0 (lv_args 0 [.ref (ev_b G + cr_o 9 e), .ref x]) [] w (cr_yv G q0 n F Q (cs_E_takeAnswer C e l μ)) := by
  have hs : 2 * l + e < 6 := by omega
  have hm := h.ms hx
  unfold cs_E_takeAnswer
  refine ev_aload_n dd_E_takeAnswer_0 rfl ?_
  refine K_gP (κ := 9) (q := cr_o 16 e) dd_E_takeAnswer_1 fr_E_19 h he rfl ?_
  refine ev_aload_n dd_E_takeAnswer_4 rfl ?_
  refine K_gM dd_E_takeAnswer_5 fr_E_153 hm (by decide) ?_
  rw [hw]
  refine K_aald (κ := 16) (j := l) (t := 6) (q := cr_o 2 (2 * l + e)) dd_E_takeAnswer_8 h he rfl rfl hl (by decide) (if_pos hl) ?_
  refine ev_astore_n dd_E_takeAnswer_9 (by decide) ?_
  refine ev_aload_n dd_E_takeAnswer_10 rfl ?_
  refine K_gI (κ := 2) dd_E_takeAnswer_11 fr_E_167 h hs rfl ?_
  refine ev_if_eq dd_E_takeAnswer_14 (fun c => ?_) (fun c => ?_)
  · rw [if_pos c]
    refine ev_vret dd_E_takeAnswer_43 rfl ?_
    exact ⟨rfl, h⟩
  · rw [if_neg c]
    refine ev_aload_n dd_E_takeAnswer_17 rfl ?_
    refine K_gI (κ := 2) dd_E_takeAnswer_18 fr_E_170 h hs rfl ?_
    refine ev_if_ne dd_E_takeAnswer_21 (fun c2 => ?_) (fun c2 => ?_)
    · rw [if_neg c2]
      refine ev_vret dd_E_takeAnswer_43 rfl ?_
      exact ⟨rfl, h⟩
    · rw [if_pos c2]
      refine ev_aload_n dd_E_takeAnswer_24 rfl ?_
      refine K_gI (κ := 2) dd_E_takeAnswer_25 fr_E_180 h hs rfl ?_
      refine ev_aload_n dd_E_takeAnswer_28 rfl ?_
      refine K_gM dd_E_takeAnswer_29 fr_E_156 hm (by decide) ?_
      refine ev_icmp_ne dd_E_takeAnswer_32 (fun c3 => ?_) (fun c3 => ?_)
      · rw [if_neg c3]
        refine ev_vret dd_E_takeAnswer_43 rfl ?_
        exact ⟨rfl, h⟩
      · rw [if_pos c3]
        refine ev_aload_n dd_E_takeAnswer_35 rfl ?_
        refine ev_aload_n dd_E_takeAnswer_36 rfl ?_
        refine K_gM dd_E_takeAnswer_37 fr_E_174 hm (by decide) ?_
        refine ev_callvV [_] dd_E_takeAnswer_40 ms_C_settle iv_E_177 (h.al (κ := 2) hs) (h.tg (κ := 2) hs) rfl (Nat.le_of_ble_eq_true rfl) (Nat.le_of_ble_eq_true rfl) (k_C_settle hq hs _ h) (fun w5 h5 => ?_)
        refine ev_vret dd_E_takeAnswer_43 rfl ?_
        exact ⟨rfl, h5⟩
end CrK2
