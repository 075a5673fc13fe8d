/-! a changeover is given up -/
section CrH
variable {G : ev_gx} {M : ev_mx} {d pc pc' tgt : Nat} {L : List (Nat × Value)} {st : List Value} {w w1 : ev_wd} {P : ev_r → ev_wd → Prop} {q0 mi n n' : Nat} {C : cr_C} {F : ev_wd} {Q : Nat → cr_m → Prop}
def cr_cn (zs : List cr_m) : Nat := zs.countP fun μ => decide (¬ (4 : Int32) ≤ μ.1)
def cs_C_giveUp (C : cr_C) (s u : Nat) : Int32 × cr_C := (Int32.ofNat (cr_cn ((C.2.1 (12 + s)).take u)), cr_sI (cr_sI (cr_sX C (12 + s) ((C.2.1 (12 + s)).drop u)) 2 s 7 0) 2 s 2 1)
theorem k_C_giveUp {s u : Nat} (hq : q0 < ev_b G) (hs : s < 6) (hu : C.1 2 s 7 = Int32.ofNat u) (hu2 : u < 2 ^ 30) (h : cr_K G q0 w C n F Q) : ev_E G mm_C_giveUp (d + 4) 0 (lv_args 0 [.ref (ev_b G + cr_o 2 s)]) [] w (cr_yi G q0 n F Q (cs_C_giveUp C s u)) := by
  have hr : 12 + s < 22 := by omega
  have hlen := h.len hr
  have tail : ∀ k, cr_cn ((C.2.1 (12 + s)).take k) = cr_cn ((C.2.1 (12 + s)).take u) → ev_E G mm_C_giveUp (d + 4) 49 [(0, .ref (ev_b G + cr_o 2 s)), (1, .int (Int32.ofNat (cr_cn ((C.2.1 (12 + s)).take k)))), (2, .int (Int32.ofNat k))] [] w (cr_yi G q0 n F Q (cs_C_giveUp C s u)) := by
    intro k hk
    rw [hk]
    refine ev_aload_n dd_C_giveUp_49 rfl ?_
    refine K_gP (κ := 2) (q := cr_o 11 (12 + s)) dd_C_giveUp_50 fr_C_43 h hs rfl ?_
    refine ev_aload_n dd_C_giveUp_53 rfl ?_
    refine K_gI (κ := 2) dd_C_giveUp_54 fr_C_34 h hs rfl ?_
    rw [hu]
    refine ev_callsV [_, _] dd_C_giveUp_57 ms_P_dropFirst is_C_81 rfl (Nat.le_of_ble_eq_true rfl) (Nat.le_of_ble_eq_true rfl) (k_P_dropFirst (c := u) hq hr hu2 h) (fun w1 h1 => ?_)
    refine ev_aload_n dd_C_giveUp_60 rfl ?_
    refine ev_ic (v := 0) dd_C_giveUp_61 (by decide +kernel) ?_
    refine K_pI (κ := 2) dd_C_giveUp_62 fk_C_34 h1 hq hs rfl rfl rfl (fun w2 h2 => ?_)
    refine ev_aload_n dd_C_giveUp_65 rfl ?_
    refine ev_ic (v := 1) dd_C_giveUp_66 (by decide +kernel) ?_
    refine K_pI (κ := 2) dd_C_giveUp_67 fk_C_18 h2 hq hs rfl rfl rfl (fun w3 h3 => ?_)
    refine ev_iload_n dd_C_giveUp_70 rfl ?_
    refine ev_iret dd_C_giveUp_71 rfl rfl ?_
    exact ⟨rfl, h3⟩
  have loop : ∀ (m k : Nat), k + m = min u (C.2.1 (12 + s)).length →
      ev_E G mm_C_giveUp (d + 4) 4 [(0, .ref (ev_b G + cr_o 2 s)), (1, .int (Int32.ofNat (cr_cn ((C.2.1 (12 + s)).take k)))), (2, .int (Int32.ofNat k))] [] w (cr_yi G q0 n F Q (cs_C_giveUp C s u)) := by
    intro m
    induction m with
    | zero =>
      intro k hk
      refine ev_iload_n dd_C_giveUp_4 rfl ?_
      refine ev_aload_n dd_C_giveUp_5 rfl ?_
      refine K_gI (κ := 2) dd_C_giveUp_6 fr_C_34 h hs rfl ?_
      rw [hu]
      refine ev_icmp_ge dd_C_giveUp_9 (fun hc => ?_) (fun hc => ?_)
      · have hc' := (nI_leI (a := u) (b := k) (by omega) (by omega)).mp hc
        refine tail k ?_
        rw [show k = u by omega]
      · have hc' : ¬ u ≤ k := fun e => hc (nI_le e (by omega))
        refine ev_iload_n dd_C_giveUp_12 rfl ?_
        refine ev_aload_n dd_C_giveUp_13 rfl ?_
        refine K_gP (κ := 2) (q := cr_o 11 (12 + s)) dd_C_giveUp_14 fr_C_43 h hs rfl ?_
        refine ev_callvI [] dd_C_giveUp_17 ms_AL_size iv_C_55 (h.al (κ := 11) hr) (h.tg (κ := 11) hr) rfl (Nat.le_of_ble_eq_true rfl) (Nat.le_of_ble_eq_true rfl) (K_size h hr) ?_
        refine ev_icmp_ge dd_C_giveUp_20 (fun _ => ?_) (fun h => absurd (nI_le (by omega) (by omega)) h)
        refine tail k ?_
        rw [List.take_of_length_le (show (C.2.1 (12 + s)).length ≤ k by omega), List.take_of_length_le (show (C.2.1 (12 + s)).length ≤ u by omega)]
    | succ m ih =>
      intro k hk
      have hkl : k < (C.2.1 (12 + s)).length := by omega
      have hx : (C.2.1 (12 + s))[k]? = some (C.2.1 (12 + s))[k] := List.getElem?_eq_getElem hkl
      have ht : (C.2.1 (12 + s)).take (k + 1) = (C.2.1 (12 + s)).take k ++ [(C.2.1 (12 + s))[k]] := by
        rw [List.take_succ, hx]
        rfl
      refine ev_iload_n dd_C_giveUp_4 rfl ?_
      refine ev_aload_n dd_C_giveUp_5 rfl ?_
      refine K_gI (κ := 2) dd_C_giveUp_6 fr_C_34 h hs rfl ?_
      rw [hu]
      refine ev_icmp_ge dd_C_giveUp_9 (fun h => absurd h (nI_ge (by omega) (by omega))) (fun _ => ?_)
      refine ev_iload_n dd_C_giveUp_12 rfl ?_
      refine ev_aload_n dd_C_giveUp_13 rfl ?_
      refine K_gP (κ := 2) (q := cr_o 11 (12 + s)) dd_C_giveUp_14 fr_C_43 h hs rfl ?_
      refine ev_callvI [] dd_C_giveUp_17 ms_AL_size iv_C_55 (h.al (κ := 11) hr) (h.tg (κ := 11) hr) rfl (Nat.le_of_ble_eq_true rfl) (Nat.le_of_ble_eq_true rfl) (K_size h hr) ?_
      refine ev_icmp_ge dd_C_giveUp_20 (fun h => absurd h (nI_ge (by omega) (by omega))) (fun _ => ?_)
      refine ev_aload_n dd_C_giveUp_23 rfl ?_
      refine K_gP (κ := 2) (q := cr_o 11 (12 + s)) dd_C_giveUp_24 fr_C_43 h hs rfl ?_
      refine ev_iload_n dd_C_giveUp_27 rfl ?_
      refine ev_callv [.int (Int32.ofNat k)] dd_C_giveUp_28 ms_AL_get iv_C_62 (h.al (κ := 11) hr) (h.tg (κ := 11) hr) rfl (Nat.le_of_ble_eq_true rfl) (Nat.le_of_ble_eq_true rfl) (K_get h hr hx) (fun v w3 hp _ _ => ?_) (fun x w3 hp _ _ => by obtain ⟨-, y, h1, -⟩ := hp; cases h1)
      obtain ⟨rfl, y, h1, hy⟩ := hp
      cases h1
      refine ev_cast (c := 6) dd_C_giveUp_31 kl_C_66 hy.1 hy.2.1 rfl ?_
      refine ev_callvI [] dd_C_giveUp_34 ms_G_isOfClass iv_C_85 hy.1 hy.2.1 rfl (Nat.le_of_ble_eq_true rfl) (Nat.le_of_ble_eq_true rfl) (k_G_isOfClass hy) ?_
      by_cases c4 : (4 : Int32) ≤ (C.2.1 (12 + s))[k].1
      · rw [if_pos c4]
        refine ev_if_eq dd_C_giveUp_37 (fun _ => ?_) (fun hc => absurd rfl hc)
        refine ev_iinc dd_C_giveUp_43 rfl (by decide) ?_
        refine ev_goto dd_C_giveUp_46 ?_
        refine ev_loc3 (i0 := 0) (i1 := 1) (i2 := 2) rfl (v1 := .int (Int32.ofNat (cr_cn ((C.2.1 (12 + s)).take (k + 1))))) (by rw [show cr_cn ((C.2.1 (12 + s)).take (k + 1)) = cr_cn ((C.2.1 (12 + s)).take k) by rw [ht]; unfold cr_cn; rw [List.countP_append, List.countP_singleton, if_neg (by rw [decide_eq_true_eq]; exact fun h => h c4)]; rfl]; rfl) (v2 := .int (Int32.ofNat (k + 1))) (by rw [show Int32.ofNat (k + 1) = Int32.ofNat k + Int32.ofInt 1 by rw [inc_ofNat]; rfl]; rfl) ?_
        exact ih (k + 1) (by omega)
      · rw [if_neg c4]
        refine ev_if_eq dd_C_giveUp_37 (fun hc => absurd hc (by decide)) (fun _ => ?_)
        refine ev_iinc dd_C_giveUp_40 rfl (by decide) ?_
        refine ev_iinc dd_C_giveUp_43 rfl (by decide) ?_
        refine ev_goto dd_C_giveUp_46 ?_
        refine ev_loc3 (i0 := 0) (i1 := 1) (i2 := 2) rfl (v1 := .int (Int32.ofNat (cr_cn ((C.2.1 (12 + s)).take (k + 1))))) (by rw [show cr_cn ((C.2.1 (12 + s)).take (k + 1)) = cr_cn ((C.2.1 (12 + s)).take k) + 1 by rw [ht]; unfold cr_cn; rw [List.countP_append, List.countP_singleton, if_pos (by rw [decide_eq_true_eq]; exact c4)], show Int32.ofNat (cr_cn ((C.2.1 (12 + s)).take k) + 1) = Int32.ofNat (cr_cn ((C.2.1 (12 + s)).take k)) + Int32.ofInt 1 by rw [inc_ofNat]; rfl]; rfl) (v2 := .int (Int32.ofNat (k + 1))) (by rw [show Int32.ofNat (k + 1) = Int32.ofNat k + Int32.ofInt 1 by rw [inc_ofNat]; rfl]; rfl) ?_
        exact ih (k + 1) (by omega)
  refine ev_ic (v := 0) dd_C_giveUp_0 (by decide +kernel) ?_
  refine ev_istore_n dd_C_giveUp_1 (by decide) ?_
  refine ev_ic (v := 0) dd_C_giveUp_2 (by decide +kernel) ?_
  refine ev_istore_n dd_C_giveUp_3 (by decide) ?_
  refine ev_loc3 (i0 := 0) (i1 := 1) (i2 := 2) rfl (v1 := .int (Int32.ofNat (cr_cn ((C.2.1 (12 + s)).take 0)))) rfl (v2 := .int (Int32.ofNat 0)) rfl ?_
  exact loop _ 0 (Nat.zero_add _)
end CrH
