/-! a changeover begins, is settled -/
section CrX
variable {G : ev_gx} {M : ev_mx} {d pc pc' tgt : Nat} {L : List (Nat × Value)} {st : List Value} {w w1 : ev_wd} {P : ev_r → ev_wd → Prop} {q0 mi n n' : Nat} {C : cr_C} {F : ev_wd} {Q : Nat → cr_m → Prop}
def cs_C_settle (C : cr_C) (s : Nat) (x : Int32) : cr_C := (if x = ((-1)) then (cr_sI (cr_sI C 2 s 7 0) 2 s 2 1) else (if (C.1 2 s 7) ≤ (Int32.ofNat (cr_f8 (x - (C.1 2 s 8)))) then (cr_sI (cr_sI C 2 s 7 0) 2 s 2 1) else (cr_sI (cr_sI (cr_sX C (12 + s) ((C.2.1 (12 + s)).drop ((cr_f8 (x - (C.1 2 s 8))) + 1))) 2 s 7 0) 2 s 2 1)))
theorem k_C_settle {s : Nat} (hq : q0 < ev_b G) (hs : s < 6) (x : Int32) (h : cr_K G q0 w C n F Q) : ev_E G mm_C_settle (d + 4) 0 (lv_args 0 [.ref (ev_b G + cr_o 2 s), .int x]) [] w (cr_yv G q0 n F Q (cs_C_settle C s x)) := by
  unfold cs_C_settle
  refine ev_iload_n dd_C_settle_0 rfl ?_
  refine ev_ic (v := (-1)) dd_C_settle_1 (by decide +kernel) ?_
  refine ev_icmp_eq dd_C_settle_2 (fun c1 => ?_) (fun c1 => ?_)
  · rw [if_pos c1]
    refine ev_aload_n dd_C_settle_35 rfl ?_
    refine ev_ic (v := 0) dd_C_settle_36 (by decide +kernel) ?_
    refine K_pI (κ := 2) dd_C_settle_37 fk_C_34 h hq (show s < 6 by omega) rfl rfl rfl (fun w2 h2 => ?_)
    refine ev_aload_n dd_C_settle_40 rfl ?_
    refine ev_ic (v := 1) dd_C_settle_41 (by decide +kernel) ?_
    refine K_pI (κ := 2) dd_C_settle_42 fk_C_18 h2 hq (show s < 6 by omega) rfl rfl rfl (fun w3 h3 => ?_)
    refine ev_vret dd_C_settle_45 rfl ?_
    exact ⟨rfl, h3⟩
  · rw [if_neg c1]
    refine ev_iload_n dd_C_settle_5 rfl ?_
    refine ev_aload_n dd_C_settle_6 rfl ?_
    refine K_gI (κ := 2) dd_C_settle_7 fr_C_37 h (show s < 6 by omega) rfl ?_
    refine ev_isub dd_C_settle_10 ?_
    refine ev_bp (v := 8) dd_C_settle_11 (by decide +kernel) ?_
    refine ev_callsI [_, _] dd_C_settle_13 ms_MA_floorMod is_C_75 rfl (Nat.le_of_ble_eq_true rfl) (Nat.le_of_ble_eq_true rfl) (c_fm8 _) ?_
    refine ev_istore_n dd_C_settle_16 (by decide) ?_
    refine ev_iload_n dd_C_settle_17 rfl ?_
    refine ev_aload_n dd_C_settle_18 rfl ?_
    refine K_gI (κ := 2) dd_C_settle_19 fr_C_34 h (show s < 6 by omega) rfl ?_
    refine ev_icmp_ge dd_C_settle_22 (fun c5 => ?_) (fun c5 => ?_)
    · rw [if_pos c5]
      refine ev_aload_n dd_C_settle_35 rfl ?_
      refine ev_ic (v := 0) dd_C_settle_36 (by decide +kernel) ?_
      refine K_pI (κ := 2) dd_C_settle_37 fk_C_34 h hq (show s < 6 by omega) rfl rfl rfl (fun w6 h6 => ?_)
      refine ev_aload_n dd_C_settle_40 rfl ?_
      refine ev_ic (v := 1) dd_C_settle_41 (by decide +kernel) ?_
      refine K_pI (κ := 2) dd_C_settle_42 fk_C_18 h6 hq (show s < 6 by omega) rfl rfl rfl (fun w7 h7 => ?_)
      refine ev_vret dd_C_settle_45 rfl ?_
      exact ⟨rfl, h7⟩
    · rw [if_neg c5]
      refine ev_aload_n dd_C_settle_25 rfl ?_
      refine K_gP (κ := 2) (q := cr_o 11 (12 + s)) dd_C_settle_26 fr_C_43 h (show s < 6 by omega) rfl ?_
      refine ev_iload_n dd_C_settle_29 rfl ?_
      refine ev_ic (v := 1) dd_C_settle_30 (by decide +kernel) ?_
      refine ev_iadd dd_C_settle_31 ?_
      rw [show (Int32.ofNat (cr_f8 (x - (C.1 2 s 8)))) + 1 = Int32.ofNat ((cr_f8 (x - (C.1 2 s 8))) + 1) from nI_1 _]
      refine ev_callsV [_, _] dd_C_settle_32 ms_P_dropFirst is_C_81 rfl (Nat.le_of_ble_eq_true rfl) (Nat.le_of_ble_eq_true rfl) (k_P_dropFirst (c := (cr_f8 (x - (C.1 2 s 8))) + 1) hq (show 12 + s < 22 by omega) (Nat.lt_trans (Nat.succ_lt_succ (cr_f8lt _)) (by decide)) h) (fun w8 h8 => ?_)
      refine ev_aload_n dd_C_settle_35 rfl ?_
      refine ev_ic (v := 0) dd_C_settle_36 (by decide +kernel) ?_
      refine K_pI (κ := 2) dd_C_settle_37 fk_C_34 h8 hq (show s < 6 by omega) rfl rfl rfl (fun w9 h9 => ?_)
      refine ev_aload_n dd_C_settle_40 rfl ?_
      refine ev_ic (v := 1) dd_C_settle_41 (by decide +kernel) ?_
      refine K_pI (κ := 2) dd_C_settle_42 fk_C_18 h9 hq (show s < 6 by omega) rfl rfl rfl (fun w10 h10 => ?_)
      refine ev_vret dd_C_settle_45 rfl ?_
      exact ⟨rfl, h10⟩
theorem k_C_loop1 {s : Nat} (hq : q0 < ev_b G) (J : ev_J G q0 mi) (hn : n ≤ 200000) (hs : s < 6) (hl : (C.2.1 (12 + s)).length + (C.2.1 (s)).length ≤ 8192)
    (kk : ∀ w3, cr_K G q0 w3 (cr_sX C (12 + s) (C.2.1 (12 + s) ++ C.2.1 (s))) n F Q → ev_E G mm_C_begin (d + 7) 118 [(0, .ref (ev_b G + cr_o 2 s)), (1, .ref (ev_b G + cr_o 1 s)), (2, .int (Int32.ofNat (C.2.1 (s)).length))] [] w3 P) :
    ∀ (m k : Nat) (w2 : ev_wd), k + m = (C.2.1 (s)).length → cr_K G q0 w2 (cr_sX C (12 + s) (C.2.1 (12 + s) ++ (C.2.1 (s)).take k)) n F Q →
      ev_E G mm_C_begin (d + 7) 82 [(0, .ref (ev_b G + cr_o 2 s)), (1, .ref (ev_b G + cr_o 1 s)), (2, .int (Int32.ofNat k))] [] w2 P := by
  have hr : s < 22 := by omega
  have hk12 : 12 + s < 22 := by omega
  have hz : ∀ ys, (cr_sX C (12 + s) ys).2.1 (s) = C.2.1 (s) := fun ys => by
    simp only [cr_sX]
    rw [if_neg (by omega)]
  intro m
  induction m with
  | zero =>
    intro k w2 hk hK
    refine ev_iload_n dd_C_begin_82 rfl ?_
    refine ev_aload_n dd_C_begin_83 rfl ?_
    refine K_gP (κ := 1) (q := cr_o 11 (s)) dd_C_begin_84 fr_C_52 hK hs rfl ?_
    refine ev_callvI [] dd_C_begin_87 ms_AL_size iv_C_55 (hK.al (κ := 11) hr) (hK.tg (κ := 11) hr) rfl (Nat.le_of_ble_eq_true rfl) (Nat.le_of_ble_eq_true rfl) (K_size hK hr) ?_
    rw [hz]
    refine ev_icmp_ge dd_C_begin_90 (fun _ => ?_) (fun h => absurd (nI_le (by omega) (by omega)) h)
    have e : k = (C.2.1 (s)).length := by omega
    subst e
    rw [List.take_length] at hK
    exact kk w2 hK
  | succ m ih =>
    intro k w2 hk hK
    have hkl : k < (C.2.1 (s)).length := by omega
    have hx : (C.2.1 (s))[k]? = some (C.2.1 (s))[k] := List.getElem?_eq_getElem hkl
    refine ev_iload_n dd_C_begin_82 rfl ?_
    refine ev_aload_n dd_C_begin_83 rfl ?_
    refine K_gP (κ := 1) (q := cr_o 11 (s)) dd_C_begin_84 fr_C_52 hK hs rfl ?_
    refine ev_callvI [] dd_C_begin_87 ms_AL_size iv_C_55 (hK.al (κ := 11) hr) (hK.tg (κ := 11) hr) rfl (Nat.le_of_ble_eq_true rfl) (Nat.le_of_ble_eq_true rfl) (K_size hK hr) ?_
    rw [hz]
    refine ev_icmp_ge dd_C_begin_90 (fun h => absurd h (nI_ge (by omega) (by omega))) (fun _ => ?_)
    refine ev_aload_n dd_C_begin_93 rfl ?_
    refine K_gP (κ := 2) (q := cr_o 11 (12 + s)) dd_C_begin_94 fr_C_43 hK hs rfl ?_
    refine ev_aload_n dd_C_begin_97 rfl ?_
    refine K_gP (κ := 1) (q := cr_o 11 (s)) dd_C_begin_98 fr_C_52 hK hs rfl ?_
    refine ev_iload_n dd_C_begin_101 rfl ?_
    refine ev_callv [.int (Int32.ofNat k)] dd_C_begin_102 ms_AL_get iv_C_62 (hK.al (κ := 11) hr) (hK.tg (κ := 11) hr) rfl (Nat.le_of_ble_eq_true rfl) (Nat.le_of_ble_eq_true rfl) (K_get hK hr (by rw [hz]; exact hx)) (fun v w3 hp _ _ => ?_) (fun x w3 hp _ _ => by obtain ⟨-, y, h1, -⟩ := hp; cases h1)
    obtain ⟨rfl, y, h1, hy⟩ := hp
    cases h1
    refine ev_cast (c := 6) dd_C_begin_105 kl_C_66 hy.1 hy.2.1 rfl ?_
    refine ev_callv [.ref y] dd_C_begin_108 ms_AL_add1 iv_C_68 (hK.al (κ := 11) hk12) (hK.tg (κ := 11) hk12) rfl (Nat.le_of_ble_eq_true rfl) (Nat.le_of_ble_eq_true rfl) (K_add J hK hk12 (by rw [cr_sX_at, List.length_append, List.length_take]; omega) hn hy) (fun v w5 hp _ _ => ?_) (fun x w3 hp _ _ => by obtain ⟨h1, -⟩ := hp; cases h1)
    obtain ⟨h1, h5⟩ := hp
    cases h1
    rw [cr_sX_at, cr_sX_two, List.append_assoc] at h5
    have e5 : (C.2.1 (s)).take k ++ [(C.2.1 (s))[k]] = (C.2.1 (s)).take (k + 1) := by
      rw [List.take_succ, hx]
      rfl
    rw [e5] at h5
    refine ev_pop dd_C_begin_111 rfl ?_
    refine ev_iinc dd_C_begin_112 rfl (by decide) ?_
    refine ev_goto dd_C_begin_115 ?_
    refine ev_loc3 (i0 := 0) (i1 := 1) (i2 := 2) rfl rfl (v2 := .int (Int32.ofNat (k + 1))) (by rw [show Int32.ofNat (k + 1) = Int32.ofNat k + Int32.ofInt 1 by rw [inc_ofNat]; rfl]; rfl) ?_
    exact ih (k + 1) _ (by omega) h5
theorem k_C_loop2 {s : Nat} (hq : q0 < ev_b G) (J : ev_J G q0 mi) (hn : n ≤ 200000) (hs : s < 6) (hl : (C.2.1 (12 + s)).length + (C.2.1 (6 + s)).length ≤ 8192)
    (kk : ∀ w3, cr_K G q0 w3 (cr_sX C (12 + s) (C.2.1 (12 + s) ++ C.2.1 (6 + s))) n F Q → ev_E G mm_C_begin (d + 7) 156 [(0, .ref (ev_b G + cr_o 2 s)), (1, .ref (ev_b G + cr_o 1 s)), (2, .int (Int32.ofNat (C.2.1 (6 + s)).length))] [] w3 P) :
    ∀ (m k : Nat) (w2 : ev_wd), k + m = (C.2.1 (6 + s)).length → cr_K G q0 w2 (cr_sX C (12 + s) (C.2.1 (12 + s) ++ (C.2.1 (6 + s)).take k)) n F Q →
      ev_E G mm_C_begin (d + 7) 120 [(0, .ref (ev_b G + cr_o 2 s)), (1, .ref (ev_b G + cr_o 1 s)), (2, .int (Int32.ofNat k))] [] w2 P := by
  have hr : 6 + s < 22 := by omega
  have hk12 : 12 + s < 22 := by omega
  have hz : ∀ ys, (cr_sX C (12 + s) ys).2.1 (6 + s) = C.2.1 (6 + s) := fun ys => by
    simp only [cr_sX]
    rw [if_neg (by omega)]
  intro m
  induction m with
  | zero =>
    intro k w2 hk hK
    refine ev_iload_n dd_C_begin_120 rfl ?_
    refine ev_aload_n dd_C_begin_121 rfl ?_
    refine K_gP (κ := 1) (q := cr_o 11 (6 + s)) dd_C_begin_122 fr_C_72 hK hs rfl ?_
    refine ev_callvI [] dd_C_begin_125 ms_AL_size iv_C_55 (hK.al (κ := 11) hr) (hK.tg (κ := 11) hr) rfl (Nat.le_of_ble_eq_true rfl) (Nat.le_of_ble_eq_true rfl) (K_size hK hr) ?_
    rw [hz]
    refine ev_icmp_ge dd_C_begin_128 (fun _ => ?_) (fun h => absurd (nI_le (by omega) (by omega)) h)
    have e : k = (C.2.1 (6 + s)).length := by omega
    subst e
    rw [List.take_length] at hK
    exact kk w2 hK
  | succ m ih =>
    intro k w2 hk hK
    have hkl : k < (C.2.1 (6 + s)).length := by omega
    have hx : (C.2.1 (6 + s))[k]? = some (C.2.1 (6 + s))[k] := List.getElem?_eq_getElem hkl
    refine ev_iload_n dd_C_begin_120 rfl ?_
    refine ev_aload_n dd_C_begin_121 rfl ?_
    refine K_gP (κ := 1) (q := cr_o 11 (6 + s)) dd_C_begin_122 fr_C_72 hK hs rfl ?_
    refine ev_callvI [] dd_C_begin_125 ms_AL_size iv_C_55 (hK.al (κ := 11) hr) (hK.tg (κ := 11) hr) rfl (Nat.le_of_ble_eq_true rfl) (Nat.le_of_ble_eq_true rfl) (K_size hK hr) ?_
    rw [hz]
    refine ev_icmp_ge dd_C_begin_128 (fun h => absurd h (nI_ge (by omega) (by omega))) (fun _ => ?_)
    refine ev_aload_n dd_C_begin_131 rfl ?_
    refine K_gP (κ := 2) (q := cr_o 11 (12 + s)) dd_C_begin_132 fr_C_43 hK hs rfl ?_
    refine ev_aload_n dd_C_begin_135 rfl ?_
    refine K_gP (κ := 1) (q := cr_o 11 (6 + s)) dd_C_begin_136 fr_C_72 hK hs rfl ?_
    refine ev_iload_n dd_C_begin_139 rfl ?_
    refine ev_callv [.int (Int32.ofNat k)] dd_C_begin_140 ms_AL_get iv_C_62 (hK.al (κ := 11) hr) (hK.tg (κ := 11) hr) rfl (Nat.le_of_ble_eq_true rfl) (Nat.le_of_ble_eq_true rfl) (K_get hK hr (by rw [hz]; exact hx)) (fun v w3 hp _ _ => ?_) (fun x w3 hp _ _ => by obtain ⟨-, y, h1, -⟩ := hp; cases h1)
    obtain ⟨rfl, y, h1, hy⟩ := hp
    cases h1
    refine ev_cast (c := 6) dd_C_begin_143 kl_C_66 hy.1 hy.2.1 rfl ?_
    refine ev_callv [.ref y] dd_C_begin_146 ms_AL_add1 iv_C_68 (hK.al (κ := 11) hk12) (hK.tg (κ := 11) hk12) rfl (Nat.le_of_ble_eq_true rfl) (Nat.le_of_ble_eq_true rfl) (K_add J hK hk12 (by rw [cr_sX_at, List.length_append, List.length_take]; omega) hn hy) (fun v w5 hp _ _ => ?_) (fun x w3 hp _ _ => by obtain ⟨h1, -⟩ := hp; cases h1)
    obtain ⟨h1, h5⟩ := hp
    cases h1
    rw [cr_sX_at, cr_sX_two, List.append_assoc] at h5
    have e5 : (C.2.1 (6 + s)).take k ++ [(C.2.1 (6 + s))[k]] = (C.2.1 (6 + s)).take (k + 1) := by
      rw [List.take_succ, hx]
      rfl
    rw [e5] at h5
    refine ev_pop dd_C_begin_149 rfl ?_
    refine ev_iinc dd_C_begin_150 rfl (by decide) ?_
    refine ev_goto dd_C_begin_153 ?_
    refine ev_loc3 (i0 := 0) (i1 := 1) (i2 := 2) rfl rfl (v2 := .int (Int32.ofNat (k + 1))) (by rw [show Int32.ofNat (k + 1) = Int32.ofNat k + Int32.ofInt 1 by rw [inc_ofNat]; rfl]; rfl) ?_
    exact ih (k + 1) _ (by omega) h5
def cs_C_tail (C : cr_C) (s : Nat) : cr_C := cr_sX C (12 + s) (C.2.1 (12 + s) ++ C.2.1 s ++ C.2.1 (6 + s))
theorem k_C_tail {s : Nat} (hq : q0 < ev_b G) (J : ev_J G q0 mi) (hn : n ≤ 200000) (hs : s < 6) (hl : (C.2.1 (12 + s)).length + (C.2.1 s).length + (C.2.1 (6 + s)).length ≤ 8192) (h : cr_K G q0 w C n F Q) : ev_E G mm_C_begin (d + 7) 80 [(0, .ref (ev_b G + cr_o 2 s)), (1, .ref (ev_b G + cr_o 1 s))] [] w (cr_yv G q0 n F Q (cs_C_tail C s)) := by
  unfold cs_C_tail
  refine ev_ic (v := 0) dd_C_begin_80 (by decide +kernel) ?_
  refine ev_istore_n dd_C_begin_81 (by decide) ?_
  refine ev_loc3 (i0 := 0) (i1 := 1) (i2 := 2) rfl rfl (v2 := .int (Int32.ofNat 0)) rfl ?_
  refine k_C_loop1 (C := C) hq J hn hs (by omega) (fun w3 h3 => ?_) (C.2.1 s).length 0 w (by omega) (by rw [List.take_zero, List.append_nil, cr_sX_same]; exact h)
  refine ev_ic (v := 0) dd_C_begin_118 (by decide +kernel) ?_
  refine ev_istore_n dd_C_begin_119 (by decide) ?_
  refine ev_loc3 (i0 := 0) (i1 := 1) (i2 := 2) rfl rfl (v2 := .int (Int32.ofNat 0)) rfl ?_
  have hz : (cr_sX C (12 + s) (C.2.1 (12 + s) ++ C.2.1 s)).2.1 (6 + s) = C.2.1 (6 + s) := by
    simp only [cr_sX]
    rw [if_neg (by omega)]
  refine k_C_loop2 hq J hn hs (by rw [hz, cr_sX_at, List.length_append]; omega) (fun w4 h4 => ?_) _ 0 w3 (Nat.zero_add _) (by rw [List.take_zero, List.append_nil, cr_sX_same]; exact h3)
  refine ev_vret dd_C_begin_156 rfl ?_
  rw [cr_sX_at, hz, cr_sX_two] at h4
  exact ⟨rfl, h4⟩
def cs_C_begin (C : cr_C) (s : Nat) : cr_C := (if ((cr_sI C 2 s 1 0).1 2 s 0) = 0 then (cs_C_tail (cr_sI (cr_sI (cr_sI (cr_sI (cr_sI (cr_sI (cr_sI (cr_sI (cr_sI C 2 s 1 0) 2 s 0 1) 2 s 2 0) 2 s 3 0) 2 s 4 ((cr_sI (cr_sI (cr_sI (cr_sI C 2 s 1 0) 2 s 0 1) 2 s 2 0) 2 s 3 0).1 1 s 2)) 2 s 5 ((cr_sI (cr_sI (cr_sI (cr_sI (cr_sI C 2 s 1 0) 2 s 0 1) 2 s 2 0) 2 s 3 0) 2 s 4 ((cr_sI (cr_sI (cr_sI (cr_sI C 2 s 1 0) 2 s 0 1) 2 s 2 0) 2 s 3 0).1 1 s 2)).1 1 s 3)) 2 s 6 ((cr_sI (cr_sI (cr_sI (cr_sI (cr_sI (cr_sI C 2 s 1 0) 2 s 0 1) 2 s 2 0) 2 s 3 0) 2 s 4 ((cr_sI (cr_sI (cr_sI (cr_sI C 2 s 1 0) 2 s 0 1) 2 s 2 0) 2 s 3 0).1 1 s 2)) 2 s 5 ((cr_sI (cr_sI (cr_sI (cr_sI (cr_sI C 2 s 1 0) 2 s 0 1) 2 s 2 0) 2 s 3 0) 2 s 4 ((cr_sI (cr_sI (cr_sI (cr_sI C 2 s 1 0) 2 s 0 1) 2 s 2 0) 2 s 3 0).1 1 s 2)).1 1 s 3)).1 1 s 5)) 2 s 7 (Int32.ofNat ((cr_sI (cr_sI (cr_sI (cr_sI (cr_sI (cr_sI (cr_sI C 2 s 1 0) 2 s 0 1) 2 s 2 0) 2 s 3 0) 2 s 4 ((cr_sI (cr_sI (cr_sI (cr_sI C 2 s 1 0) 2 s 0 1) 2 s 2 0) 2 s 3 0).1 1 s 2)) 2 s 5 ((cr_sI (cr_sI (cr_sI (cr_sI (cr_sI C 2 s 1 0) 2 s 0 1) 2 s 2 0) 2 s 3 0) 2 s 4 ((cr_sI (cr_sI (cr_sI (cr_sI C 2 s 1 0) 2 s 0 1) 2 s 2 0) 2 s 3 0).1 1 s 2)).1 1 s 3)) 2 s 6 ((cr_sI (cr_sI (cr_sI (cr_sI (cr_sI (cr_sI C 2 s 1 0) 2 s 0 1) 2 s 2 0) 2 s 3 0) 2 s 4 ((cr_sI (cr_sI (cr_sI (cr_sI C 2 s 1 0) 2 s 0 1) 2 s 2 0) 2 s 3 0).1 1 s 2)) 2 s 5 ((cr_sI (cr_sI (cr_sI (cr_sI (cr_sI C 2 s 1 0) 2 s 0 1) 2 s 2 0) 2 s 3 0) 2 s 4 ((cr_sI (cr_sI (cr_sI (cr_sI C 2 s 1 0) 2 s 0 1) 2 s 2 0) 2 s 3 0).1 1 s 2)).1 1 s 3)).1 1 s 5)).2.1 s).length)) 2 s 8 ((((cr_sI (cr_sI (cr_sI (cr_sI (cr_sI (cr_sI (cr_sI (cr_sI C 2 s 1 0) 2 s 0 1) 2 s 2 0) 2 s 3 0) 2 s 4 ((cr_sI (cr_sI (cr_sI (cr_sI C 2 s 1 0) 2 s 0 1) 2 s 2 0) 2 s 3 0).1 1 s 2)) 2 s 5 ((cr_sI (cr_sI (cr_sI (cr_sI (cr_sI C 2 s 1 0) 2 s 0 1) 2 s 2 0) 2 s 3 0) 2 s 4 ((cr_sI (cr_sI (cr_sI (cr_sI C 2 s 1 0) 2 s 0 1) 2 s 2 0) 2 s 3 0).1 1 s 2)).1 1 s 3)) 2 s 6 ((cr_sI (cr_sI (cr_sI (cr_sI (cr_sI (cr_sI C 2 s 1 0) 2 s 0 1) 2 s 2 0) 2 s 3 0) 2 s 4 ((cr_sI (cr_sI (cr_sI (cr_sI C 2 s 1 0) 2 s 0 1) 2 s 2 0) 2 s 3 0).1 1 s 2)) 2 s 5 ((cr_sI (cr_sI (cr_sI (cr_sI (cr_sI C 2 s 1 0) 2 s 0 1) 2 s 2 0) 2 s 3 0) 2 s 4 ((cr_sI (cr_sI (cr_sI (cr_sI C 2 s 1 0) 2 s 0 1) 2 s 2 0) 2 s 3 0).1 1 s 2)).1 1 s 3)).1 1 s 5)) 2 s 7 (Int32.ofNat ((cr_sI (cr_sI (cr_sI (cr_sI (cr_sI (cr_sI (cr_sI C 2 s 1 0) 2 s 0 1) 2 s 2 0) 2 s 3 0) 2 s 4 ((cr_sI (cr_sI (cr_sI (cr_sI C 2 s 1 0) 2 s 0 1) 2 s 2 0) 2 s 3 0).1 1 s 2)) 2 s 5 ((cr_sI (cr_sI (cr_sI (cr_sI (cr_sI C 2 s 1 0) 2 s 0 1) 2 s 2 0) 2 s 3 0) 2 s 4 ((cr_sI (cr_sI (cr_sI (cr_sI C 2 s 1 0) 2 s 0 1) 2 s 2 0) 2 s 3 0).1 1 s 2)).1 1 s 3)) 2 s 6 ((cr_sI (cr_sI (cr_sI (cr_sI (cr_sI (cr_sI C 2 s 1 0) 2 s 0 1) 2 s 2 0) 2 s 3 0) 2 s 4 ((cr_sI (cr_sI (cr_sI (cr_sI C 2 s 1 0) 2 s 0 1) 2 s 2 0) 2 s 3 0).1 1 s 2)) 2 s 5 ((cr_sI (cr_sI (cr_sI (cr_sI (cr_sI C 2 s 1 0) 2 s 0 1) 2 s 2 0) 2 s 3 0) 2 s 4 ((cr_sI (cr_sI (cr_sI (cr_sI C 2 s 1 0) 2 s 0 1) 2 s 2 0) 2 s 3 0).1 1 s 2)).1 1 s 3)).1 1 s 5)).2.1 s).length)).1 1 s 4) - (Int32.ofNat ((cr_sI (cr_sI (cr_sI (cr_sI (cr_sI (cr_sI (cr_sI (cr_sI C 2 s 1 0) 2 s 0 1) 2 s 2 0) 2 s 3 0) 2 s 4 ((cr_sI (cr_sI (cr_sI (cr_sI C 2 s 1 0) 2 s 0 1) 2 s 2 0) 2 s 3 0).1 1 s 2)) 2 s 5 ((cr_sI (cr_sI (cr_sI (cr_sI (cr_sI C 2 s 1 0) 2 s 0 1) 2 s 2 0) 2 s 3 0) 2 s 4 ((cr_sI (cr_sI (cr_sI (cr_sI C 2 s 1 0) 2 s 0 1) 2 s 2 0) 2 s 3 0).1 1 s 2)).1 1 s 3)) 2 s 6 ((cr_sI (cr_sI (cr_sI (cr_sI (cr_sI (cr_sI C 2 s 1 0) 2 s 0 1) 2 s 2 0) 2 s 3 0) 2 s 4 ((cr_sI (cr_sI (cr_sI (cr_sI C 2 s 1 0) 2 s 0 1) 2 s 2 0) 2 s 3 0).1 1 s 2)) 2 s 5 ((cr_sI (cr_sI (cr_sI (cr_sI (cr_sI C 2 s 1 0) 2 s 0 1) 2 s 2 0) 2 s 3 0) 2 s 4 ((cr_sI (cr_sI (cr_sI (cr_sI C 2 s 1 0) 2 s 0 1) 2 s 2 0) 2 s 3 0).1 1 s 2)).1 1 s 3)).1 1 s 5)) 2 s 7 (Int32.ofNat ((cr_sI (cr_sI (cr_sI (cr_sI (cr_sI (cr_sI (cr_sI C 2 s 1 0) 2 s 0 1) 2 s 2 0) 2 s 3 0) 2 s 4 ((cr_sI (cr_sI (cr_sI (cr_sI C 2 s 1 0) 2 s 0 1) 2 s 2 0) 2 s 3 0).1 1 s 2)) 2 s 5 ((cr_sI (cr_sI (cr_sI (cr_sI (cr_sI C 2 s 1 0) 2 s 0 1) 2 s 2 0) 2 s 3 0) 2 s 4 ((cr_sI (cr_sI (cr_sI (cr_sI C 2 s 1 0) 2 s 0 1) 2 s 2 0) 2 s 3 0).1 1 s 2)).1 1 s 3)) 2 s 6 ((cr_sI (cr_sI (cr_sI (cr_sI (cr_sI (cr_sI C 2 s 1 0) 2 s 0 1) 2 s 2 0) 2 s 3 0) 2 s 4 ((cr_sI (cr_sI (cr_sI (cr_sI C 2 s 1 0) 2 s 0 1) 2 s 2 0) 2 s 3 0).1 1 s 2)) 2 s 5 ((cr_sI (cr_sI (cr_sI (cr_sI (cr_sI C 2 s 1 0) 2 s 0 1) 2 s 2 0) 2 s 3 0) 2 s 4 ((cr_sI (cr_sI (cr_sI (cr_sI C 2 s 1 0) 2 s 0 1) 2 s 2 0) 2 s 3 0).1 1 s 2)).1 1 s 3)).1 1 s 5)).2.1 s).length)).2.1 s).length)) + 1)) s) else (cs_C_tail (cr_sI C 2 s 1 0) s))
theorem k_C_begin {s : Nat} (hq : q0 < ev_b G) (J : ev_J G q0 mi) (hn : n ≤ 200000) (hs : s < 6) (hl : (C.2.1 (12 + s)).length + (C.2.1 s).length + (C.2.1 (6 + s)).length ≤ 8192) (h : cr_K G q0 w C n F Q) : ev_E G mm_C_begin (d + 7) 0 (lv_args 0 [.ref (ev_b G + cr_o 2 s), .ref (ev_b G + cr_o 1 s)]) [] w (cr_yv G q0 n F Q (cs_C_begin C s)) := by
  unfold cs_C_begin
  refine ev_aload_n dd_C_begin_0 rfl ?_
  refine ev_ic (v := 0) dd_C_begin_1 (by decide +kernel) ?_
  refine K_pI (κ := 2) dd_C_begin_2 fk_C_15 h hq (show s < 6 by omega) rfl rfl rfl (fun w1 h1 => ?_)
  refine ev_aload_n dd_C_begin_5 rfl ?_
  refine K_gI (κ := 2) dd_C_begin_6 fr_C_9 h1 (show s < 6 by omega) rfl ?_
  refine ev_if_ne dd_C_begin_9 (fun c2 => ?_) (fun c2 => ?_)
  · rw [if_neg c2]
    refine ev_loc2 (i0 := 0) (i1 := 1) rfl rfl ?_
    exact k_C_tail hq J hn hs hl h1
  · rw [if_pos c2]
    refine ev_aload_n dd_C_begin_12 rfl ?_
    refine ev_ic (v := 1) dd_C_begin_13 (by decide +kernel) ?_
    refine K_pI (κ := 2) dd_C_begin_14 fk_C_9 h1 hq (show s < 6 by omega) rfl rfl rfl (fun w3 h3 => ?_)
    refine ev_aload_n dd_C_begin_17 rfl ?_
    refine ev_ic (v := 0) dd_C_begin_18 (by decide +kernel) ?_
    refine K_pI (κ := 2) dd_C_begin_19 fk_C_18 h3 hq (show s < 6 by omega) rfl rfl rfl (fun w4 h4 => ?_)
    refine ev_aload_n dd_C_begin_22 rfl ?_
    refine ev_ic (v := 0) dd_C_begin_23 (by decide +kernel) ?_
    refine K_pI (κ := 2) dd_C_begin_24 fk_C_21 h4 hq (show s < 6 by omega) rfl rfl rfl (fun w5 h5 => ?_)
    refine ev_aload_n dd_C_begin_27 rfl ?_
    refine ev_aload_n dd_C_begin_28 rfl ?_
    refine K_gI (κ := 1) dd_C_begin_29 fr_C_47 h5 (show s < 6 by omega) rfl ?_
    refine K_pI (κ := 2) dd_C_begin_32 fk_C_25 h5 hq (show s < 6 by omega) rfl rfl rfl (fun w6 h6 => ?_)
    refine ev_aload_n dd_C_begin_35 rfl ?_
    refine ev_aload_n dd_C_begin_36 rfl ?_
    refine K_gI (κ := 1) dd_C_begin_37 fr_C_50 h6 (show s < 6 by omega) rfl ?_
    refine K_pI (κ := 2) dd_C_begin_40 fk_C_28 h6 hq (show s < 6 by omega) rfl rfl rfl (fun w7 h7 => ?_)
    refine ev_aload_n dd_C_begin_43 rfl ?_
    refine ev_aload_n dd_C_begin_44 rfl ?_
    refine K_gI (κ := 1) dd_C_begin_45 fr_C_51 h7 (show s < 6 by omega) rfl ?_
    refine K_pI (κ := 2) dd_C_begin_48 fk_C_31 h7 hq (show s < 6 by omega) rfl rfl rfl (fun w8 h8 => ?_)
    refine ev_aload_n dd_C_begin_51 rfl ?_
    refine ev_aload_n dd_C_begin_52 rfl ?_
    refine K_gP (κ := 1) (q := cr_o 11 s) dd_C_begin_53 fr_C_52 h8 (show s < 6 by omega) rfl ?_
    refine ev_callvI [] dd_C_begin_56 ms_AL_size iv_C_55 (h8.al (κ := 11) (show s < 22 by omega)) (h8.tg (κ := 11) (show s < 22 by omega)) rfl (Nat.le_of_ble_eq_true rfl) (Nat.le_of_ble_eq_true rfl) (K_size h8 (show s < 22 by omega)) ?_
    refine K_pI (κ := 2) dd_C_begin_59 fk_C_34 h8 hq (show s < 6 by omega) rfl rfl rfl (fun w10 h10 => ?_)
    refine ev_aload_n dd_C_begin_62 rfl ?_
    refine ev_aload_n dd_C_begin_63 rfl ?_
    refine K_gI (κ := 1) dd_C_begin_64 fr_C_59 h10 (show s < 6 by omega) rfl ?_
    refine ev_aload_n dd_C_begin_67 rfl ?_
    refine K_gP (κ := 1) (q := cr_o 11 s) dd_C_begin_68 fr_C_52 h10 (show s < 6 by omega) rfl ?_
    refine ev_callvI [] dd_C_begin_71 ms_AL_size iv_C_55 (h10.al (κ := 11) (show s < 22 by omega)) (h10.tg (κ := 11) (show s < 22 by omega)) rfl (Nat.le_of_ble_eq_true rfl) (Nat.le_of_ble_eq_true rfl) (K_size h10 (show s < 22 by omega)) ?_
    refine ev_isub dd_C_begin_74 ?_
    refine ev_ic (v := 1) dd_C_begin_75 (by decide +kernel) ?_
    refine ev_iadd dd_C_begin_76 ?_
    refine K_pI (κ := 2) dd_C_begin_77 fk_C_37 h10 hq (show s < 6 by omega) rfl rfl rfl (fun w12 h12 => ?_)
    refine ev_loc2 (i0 := 0) (i1 := 1) rfl rfl ?_
    exact k_C_tail hq J hn hs hl h12
end CrX
