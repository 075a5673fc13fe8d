/-! a memory; what is answered; a kind looked for in a row -/
section CrU
variable {G : ev_gx} {M : ev_mx} {d pc pc' tgt : Nat} {L : List (Nat × Value)} {st : List Value} {w w1 : ev_wd} {P : ev_r → ev_wd → Prop} {q0 mi n n' : Nat} {C : cr_C} {F : ev_wd} {Q : Nat → cr_m → Prop}
def cs_Y_keep (C : cr_C) (s : Nat) (x : Int32) (y : Int32) : cr_C := (cr_sI (cr_sI C 5 s (cr_f16 x) x) 6 s (cr_f16 x) y)
theorem k_Y_keep {s : Nat} (hq : q0 < ev_b G) (hs : s < 6) (x : Int32) (y : Int32) (h : cr_K G q0 w C n F Q) : ev_E G mm_Y_keep (d + 1) 0 (lv_args 0 [.ref (ev_b G + cr_o 10 s), .int x, .int y]) [] w (cr_yv G q0 n F Q (cs_Y_keep C s x y)) := by
  unfold cs_Y_keep
  refine ev_iload_n dd_Y_keep_0 rfl ?_
  refine ev_bp (v := 16) dd_Y_keep_1 (by decide +kernel) ?_
  refine ev_callsI [_, _] dd_Y_keep_3 ms_MA_floorMod is_Y_24 rfl (Nat.le_of_ble_eq_true rfl) (Nat.le_of_ble_eq_true rfl) (c_fm16 _) ?_
  refine ev_istore_n dd_Y_keep_6 (by decide) ?_
  refine ev_aload_n dd_Y_keep_7 rfl ?_
  refine K_gP (κ := 10) (q := cr_o 5 s) dd_Y_keep_8 fr_Y_11 h (show s < 6 by omega) rfl ?_
  refine ev_iload_n dd_Y_keep_11 rfl ?_
  refine ev_iload_n dd_Y_keep_12 rfl ?_
  refine K_iast (κ := 5) (j := cr_f16 x) dd_Y_keep_13 h hq (show s < 6 by omega) rfl (cr_f16lt _) (decide_eq_true (cr_f16lt _)) (by decide) (fun w2 h2 => ?_)
  refine ev_aload_n dd_Y_keep_14 rfl ?_
  refine K_gP (κ := 10) (q := cr_o 6 s) dd_Y_keep_15 fr_Y_15 h2 (show s < 6 by omega) rfl ?_
  refine ev_iload_n dd_Y_keep_18 rfl ?_
  refine ev_iload_n dd_Y_keep_19 rfl ?_
  refine K_iast (κ := 6) (j := cr_f16 x) dd_Y_keep_20 h2 hq (show s < 6 by omega) rfl (cr_f16lt _) (decide_eq_true (cr_f16lt _)) (by decide) (fun w3 h3 => ?_)
  refine ev_vret dd_Y_keep_21 rfl ?_
  exact ⟨rfl, h3⟩
def cs_Y_backFor (C : cr_C) (s : Nat) (x : Int32) : Int32 × cr_C := (if (C.1 5 s (cr_f16 x)) = x then (C.1 6 s (cr_f16 x), C) else ((-1), C))
theorem k_Y_backFor {s : Nat} (hq : q0 < ev_b G) (hs : s < 6) (x : Int32) (h : cr_K G q0 w C n F Q) : ev_E G mm_Y_backFor (d + 1) 0 (lv_args 0 [.ref (ev_b G + cr_o 10 s), .int x]) [] w (cr_yi G q0 n F Q (cs_Y_backFor C s x)) := by
  unfold cs_Y_backFor
  refine ev_iload_n dd_Y_backFor_0 rfl ?_
  refine ev_bp (v := 16) dd_Y_backFor_1 (by decide +kernel) ?_
  refine ev_callsI [_, _] dd_Y_backFor_3 ms_MA_floorMod is_Y_24 rfl (Nat.le_of_ble_eq_true rfl) (Nat.le_of_ble_eq_true rfl) (c_fm16 _) ?_
  refine ev_istore_n dd_Y_backFor_6 (by decide) ?_
  refine ev_aload_n dd_Y_backFor_7 rfl ?_
  refine K_gP (κ := 10) (q := cr_o 5 s) dd_Y_backFor_8 fr_Y_11 h (show s < 6 by omega) rfl ?_
  refine ev_iload_n dd_Y_backFor_11 rfl ?_
  refine K_iald (κ := 5) (j := cr_f16 x) dd_Y_backFor_12 h (show s < 6 by omega) rfl (cr_f16lt _) (decide_eq_true (cr_f16lt _)) (by decide) ?_
  refine ev_iload_n dd_Y_backFor_13 rfl ?_
  refine ev_icmp_ne dd_Y_backFor_14 (fun c2 => ?_) (fun c2 => ?_)
  · rw [if_neg c2]
    refine ev_ic (v := (-1)) dd_Y_backFor_26 (by decide +kernel) ?_
    refine ev_iret dd_Y_backFor_27 rfl rfl ?_
    exact ⟨rfl, h⟩
  · rw [if_pos c2]
    refine ev_aload_n dd_Y_backFor_17 rfl ?_
    refine K_gP (κ := 10) (q := cr_o 6 s) dd_Y_backFor_18 fr_Y_15 h (show s < 6 by omega) rfl ?_
    refine ev_iload_n dd_Y_backFor_21 rfl ?_
    refine K_iald (κ := 6) (j := cr_f16 x) dd_Y_backFor_22 h (show s < 6 by omega) rfl (cr_f16lt _) (decide_eq_true (cr_f16lt _)) (by decide) ?_
    refine ev_goto dd_Y_backFor_23 ?_
    refine ev_iret dd_Y_backFor_27 rfl rfl ?_
    exact ⟨rfl, h⟩
def cs_S_answered (C : cr_C) (s : Nat) (x : Int32) : Int32 × cr_C := (if (Int32.ofNat (cr_f8 ((x - (C.1 1 s 4)) + (Int32.ofNat (C.2.1 s).length)))) ≤ (Int32.ofNat (C.2.1 s).length) then (if (Int32.ofNat (cr_f8 ((x - (C.1 1 s 4)) + (Int32.ofNat (C.2.1 s).length)))) ≤ 0 then (1, cr_sI (cr_sX C s ((C.2.1 s).drop (cr_f8 ((x - (C.1 1 s 4)) + (Int32.ofNat (C.2.1 s).length))))) 1 s 15 (if (Int32.ofNat ((cr_sX C s ((C.2.1 s).drop (cr_f8 ((x - (C.1 1 s 4)) + (Int32.ofNat (C.2.1 s).length))))).2.1 s).length) < ((cr_sX C s ((C.2.1 s).drop (cr_f8 ((x - (C.1 1 s 4)) + (Int32.ofNat (C.2.1 s).length))))).1 1 s 15) then (Int32.ofNat ((cr_sX C s ((C.2.1 s).drop (cr_f8 ((x - (C.1 1 s 4)) + (Int32.ofNat (C.2.1 s).length))))).2.1 s).length) else ((cr_sX C s ((C.2.1 s).drop (cr_f8 ((x - (C.1 1 s 4)) + (Int32.ofNat (C.2.1 s).length))))).1 1 s 15))) else (1, cr_sI (cr_sI (cr_sX C s ((C.2.1 s).drop (cr_f8 ((x - (C.1 1 s 4)) + (Int32.ofNat (C.2.1 s).length))))) 1 s 15 (if (Int32.ofNat ((cr_sX C s ((C.2.1 s).drop (cr_f8 ((x - (C.1 1 s 4)) + (Int32.ofNat (C.2.1 s).length))))).2.1 s).length) < ((cr_sX C s ((C.2.1 s).drop (cr_f8 ((x - (C.1 1 s 4)) + (Int32.ofNat (C.2.1 s).length))))).1 1 s 15) then (Int32.ofNat ((cr_sX C s ((C.2.1 s).drop (cr_f8 ((x - (C.1 1 s 4)) + (Int32.ofNat (C.2.1 s).length))))).2.1 s).length) else ((cr_sX C s ((C.2.1 s).drop (cr_f8 ((x - (C.1 1 s 4)) + (Int32.ofNat (C.2.1 s).length))))).1 1 s 15))) 1 s 12 0)) else (0, C))
theorem k_S_answered {s : Nat} (hq : q0 < ev_b G) (hs : s < 6) (x : Int32) (h : cr_K G q0 w C n F Q) : ev_E G mm_S_answered (d + 4) 0 (lv_args 0 [.ref (ev_b G + cr_o 1 s), .int x]) [] w (cr_yi G q0 n F Q (cs_S_answered C s x)) := by
  unfold cs_S_answered
  refine ev_iload_n dd_S_answered_0 rfl ?_
  refine ev_aload_n dd_S_answered_1 rfl ?_
  refine K_gI (κ := 1) dd_S_answered_2 fr_S_24 h (show s < 6 by omega) rfl ?_
  refine ev_isub dd_S_answered_5 ?_
  refine ev_aload_n dd_S_answered_6 rfl ?_
  refine K_gP (κ := 1) (q := cr_o 11 s) dd_S_answered_7 fr_S_64 h (show s < 6 by omega) rfl ?_
  refine ev_callvI [] dd_S_answered_10 ms_AL_size iv_S_99 (h.al (κ := 11) (show s < 22 by omega)) (h.tg (κ := 11) (show s < 22 by omega)) rfl (Nat.le_of_ble_eq_true rfl) (Nat.le_of_ble_eq_true rfl) (K_size h (show s < 22 by omega)) ?_
  refine ev_iadd dd_S_answered_13 ?_
  refine ev_bp (v := 8) dd_S_answered_14 (by decide +kernel) ?_
  refine ev_callsI [_, _] dd_S_answered_16 ms_MA_floorMod is_S_112 rfl (Nat.le_of_ble_eq_true rfl) (Nat.le_of_ble_eq_true rfl) (c_fm8 _) ?_
  refine ev_istore_n dd_S_answered_19 (by decide) ?_
  refine ev_iload_n dd_S_answered_20 rfl ?_
  refine ev_aload_n dd_S_answered_21 rfl ?_
  refine K_gP (κ := 1) (q := cr_o 11 s) dd_S_answered_22 fr_S_64 h (show s < 6 by omega) rfl ?_
  refine ev_callvI [] dd_S_answered_25 ms_AL_size iv_S_99 (h.al (κ := 11) (show s < 22 by omega)) (h.tg (κ := 11) (show s < 22 by omega)) rfl (Nat.le_of_ble_eq_true rfl) (Nat.le_of_ble_eq_true rfl) (K_size h (show s < 22 by omega)) ?_
  refine ev_icmp_le dd_S_answered_28 (fun c4 => ?_) (fun c4 => ?_)
  · rw [if_pos c4]
    refine ev_aload_n dd_S_answered_33 rfl ?_
    refine K_gP (κ := 1) (q := cr_o 11 s) dd_S_answered_34 fr_S_64 h (show s < 6 by omega) rfl ?_
    refine ev_iload_n dd_S_answered_37 rfl ?_
    refine ev_callsV [_, _] dd_S_answered_38 ms_P_dropFirst is_S_118 rfl (Nat.le_of_ble_eq_true rfl) (Nat.le_of_ble_eq_true rfl) (k_P_dropFirst (c := cr_f8 ((x - (C.1 1 s 4)) + (Int32.ofNat (C.2.1 s).length))) hq (show s < 22 by omega) (Nat.lt_trans (cr_f8lt _) (by decide)) h) (fun w5 h5 => ?_)
    refine ev_aload_n dd_S_answered_41 rfl ?_
    refine ev_aload_n dd_S_answered_42 rfl ?_
    refine K_gI (κ := 1) dd_S_answered_43 fr_S_58 h5 (show s < 6 by omega) rfl ?_
    refine ev_aload_n dd_S_answered_46 rfl ?_
    refine K_gP (κ := 1) (q := cr_o 11 s) dd_S_answered_47 fr_S_64 h5 (show s < 6 by omega) rfl ?_
    refine ev_callvI [] dd_S_answered_50 ms_AL_size iv_S_99 (h5.al (κ := 11) (show s < 22 by omega)) (h5.tg (κ := 11) (show s < 22 by omega)) rfl (Nat.le_of_ble_eq_true rfl) (Nat.le_of_ble_eq_true rfl) (K_size h5 (show s < 22 by omega)) ?_
    refine ev_callsI [_, _] dd_S_answered_53 ms_MA_min is_S_122 rfl (Nat.le_of_ble_eq_true rfl) (Nat.le_of_ble_eq_true rfl) (c_MA_min _ _) ?_
    refine K_pI (κ := 1) dd_S_answered_56 fk_S_58 h5 hq (show s < 6 by omega) rfl rfl rfl (fun w8 h8 => ?_)
    refine ev_iload_n dd_S_answered_59 rfl ?_
    refine ev_if_le dd_S_answered_60 (fun c9 => ?_) (fun c9 => ?_)
    · rw [if_pos c9]
      refine ev_ic (v := 1) dd_S_answered_68 (by decide +kernel) ?_
      refine ev_iret dd_S_answered_69 rfl rfl ?_
      exact ⟨rfl, h8⟩
    · rw [if_neg c9]
      refine ev_aload_n dd_S_answered_63 rfl ?_
      refine ev_ic (v := 0) dd_S_answered_64 (by decide +kernel) ?_
      refine K_pI (κ := 1) dd_S_answered_65 fk_S_48 h8 hq (show s < 6 by omega) rfl rfl rfl (fun w10 h10 => ?_)
      refine ev_ic (v := 1) dd_S_answered_68 (by decide +kernel) ?_
      refine ev_iret dd_S_answered_69 rfl rfl ?_
      exact ⟨rfl, h10⟩
  · rw [if_neg c4]
    refine ev_ic (v := 0) dd_S_answered_31 (by decide +kernel) ?_
    refine ev_iret dd_S_answered_32 rfl rfl ?_
    exact ⟨rfl, h⟩
/-- whether a row holds a message of a kind -/
def cr_hs (zs : List cr_m) (x : Int32) : Int32 := if ∃ μ ∈ zs, μ.1 = x then 1 else 0
theorem k_S_holds {r : Nat} (hq : q0 < ev_b G) (hr : r < 22) (x : Int32) (h : cr_K G q0 w C n F Q) : ev_E G mm_S_holds (d + 3) 0 (lv_args 0 [.ref (ev_b G + cr_o 11 r), .int x]) [] w (ev_ret (some (.int (cr_hs (C.2.1 r) x))) w) := by
  have hlen : (C.2.1 r).length < 2 ^ 30 := by
    obtain ⟨X, Ar, Cp, U, hR, hX, -⟩ := h
    obtain ⟨⟨-, h1, h2, -⟩, -⟩ := hR.2.2.2.2.1 r hr
    rw [← (hX r hr).1]
    omega
  have loop : ∀ (m k : Nat), k + m = (C.2.1 r).length → (∀ j μ, j < k → (C.2.1 r)[j]? = some μ → ¬ μ.1 = x) →
      ev_E G mm_S_holds (d + 3) 2 [(0, .ref (ev_b G + cr_o 11 r)), (1, .int x), (2, .int (Int32.ofNat k))] [] w (ev_ret (some (.int (cr_hs (C.2.1 r) x))) w) := by
    intro m
    induction m with
    | zero =>
      intro k hk hno
      refine ev_iload_n dd_S_holds_2 rfl ?_
      refine ev_aload_n dd_S_holds_3 rfl ?_
      refine ev_callvI [] dd_S_holds_4 ms_AL_size iv_S_99 (h.al (κ := 11) hr) (h.tg (κ := 11) hr) rfl (Nat.le_of_ble_eq_true rfl) (Nat.le_of_ble_eq_true rfl) (K_size h hr) ?_
      refine ev_icmp_ge dd_S_holds_7 (fun _ => ?_) (fun h => absurd (nI_le (by omega) (by omega)) h)
      refine ev_ic (v := 0) dd_S_holds_33 (by decide +kernel) ?_
      refine ev_iret dd_S_holds_34 rfl rfl ?_
      refine ⟨?_, rfl⟩
      unfold cr_hs
      rw [if_neg]
      rintro ⟨μ, hμ, e⟩
      obtain ⟨j, hj, e2⟩ := List.getElem_of_mem hμ
      exact hno j μ (by omega) (by rw [List.getElem?_eq_getElem hj, e2]) e
    | succ m ih =>
      intro k hk hno
      have hkl : k < (C.2.1 r).length := by omega
      have hx : (C.2.1 r)[k]? = some (C.2.1 r)[k] := List.getElem?_eq_getElem hkl
      refine ev_iload_n dd_S_holds_2 rfl ?_
      refine ev_aload_n dd_S_holds_3 rfl ?_
      refine ev_callvI [] dd_S_holds_4 ms_AL_size iv_S_99 (h.al (κ := 11) hr) (h.tg (κ := 11) hr) rfl (Nat.le_of_ble_eq_true rfl) (Nat.le_of_ble_eq_true rfl) (K_size h hr) ?_
      refine ev_icmp_ge dd_S_holds_7 (fun h => absurd h (nI_ge (by omega) (by omega))) (fun _ => ?_)
      refine ev_aload_n dd_S_holds_10 rfl ?_
      refine ev_iload_n dd_S_holds_11 rfl ?_
      refine ev_callv [.int (Int32.ofNat k)] dd_S_holds_12 ms_AL_get iv_S_103 (h.al (κ := 11) hr) (h.tg (κ := 11) hr) rfl (Nat.le_of_ble_eq_true rfl) (Nat.le_of_ble_eq_true rfl) (K_get h hr hx) (fun v w3 hp _ _ => ?_) (fun x w3 hp _ _ => by obtain ⟨-, y, h1, -⟩ := hp; cases h1)
      obtain ⟨rfl, y, h1, hy⟩ := hp
      cases h1
      refine ev_cast (c := 6) dd_S_holds_15 kl_S_107 hy.1 hy.2.1 rfl ?_
      refine K_gM dd_S_holds_18 fr_S_109 hy (by decide) ?_
      refine ev_iload_n dd_S_holds_21 rfl ?_
      refine ev_icmp_ne dd_S_holds_22 (fun c => ?_) (fun c => ?_)
      · refine ev_iinc dd_S_holds_27 rfl (by decide) ?_
        refine ev_goto dd_S_holds_30 ?_
        refine ev_loc3 (i0 := 0) (i1 := 1) (i2 := 2) rfl rfl (v2 := .int (Int32.ofNat (k + 1))) (by rw [show Int32.ofNat (k + 1) = Int32.ofNat k + Int32.ofInt 1 by rw [inc_ofNat]; rfl]; rfl) ?_
        refine ih (k + 1) (by omega) (fun j μ hj hμ => ?_)
        by_cases e : j = k
        · subst e
          rw [hx] at hμ
          cases hμ
          exact c
        · exact hno j μ (by omega) hμ
      · refine ev_ic (v := 1) dd_S_holds_25 (by decide +kernel) ?_
        refine ev_iret dd_S_holds_26 rfl rfl ?_
        refine ⟨?_, rfl⟩
        unfold cr_hs
        rw [if_pos ⟨_, List.getElem_mem hkl, c⟩]
  refine ev_ic (v := 0) dd_S_holds_0 (by decide +kernel) ?_
  refine ev_istore_n dd_S_holds_1 (by decide) ?_
  refine ev_loc3 (i0 := 0) (i1 := 1) (i2 := 2) rfl rfl (v2 := .int (Int32.ofNat 0)) rfl ?_
  exact loop (C.2.1 r).length 0 (by omega) (fun j μ hj => by omega)
end CrU
