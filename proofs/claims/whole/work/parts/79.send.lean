/-! what a side sends -/
section CrW
variable {G : ev_gx} {M : ev_mx} {d pc pc' tgt : Nat} {L : List (Nat × Value)} {st : List Value} {w w1 : ev_wd} {P : ev_r → ev_wd → Prop} {q0 mi n n' : Nat} {C : cr_C} {F : ev_wd} {Q : Nat → cr_m → Prop}
def cs_S_again (C : cr_C) (s : Nat) : cr_C :=
  cs_S_fill (cr_sI (cr_sU C s ((C.2.1 s)[(C.2.1 s).length - (C.1 1 s 15).toNatClampNeg]?)) 1 s 15 (C.1 1 s 15 - 1)) s (Int32.ofNat (cr_f8 (C.1 1 s 4 - C.1 1 s 15 + 1)))
def cs_S_first (C : cr_C) (s : Nat) : cr_C :=
  cs_S_fill (cr_sI (cr_sX (cr_sU (cr_sX C (6 + s) ((C.2.1 (6 + s)).eraseIdx 0)) s ((C.2.1 (6 + s))[0]?)) s (C.2.1 s ++ ((C.2.1 (6 + s))[0]?).toList)) 1 s 4 (Int32.ofNat (cr_f8 (C.1 1 s 4 + 1)))) s (Int32.ofNat (cr_f8 (C.1 1 s 4 + 1)))
def cs_S_new (C : cr_C) (s : Nat) : cr_C := if cr_e (C.2.1 (6 + s)) = 0 then (if 5 ≤ Int32.ofNat (C.2.1 s).length then cs_S_fill C s (C.1 1 s 4) else cs_S_first C s) else cs_S_fill C s (C.1 1 s 4)
def cs_S_sendNumbered (C : cr_C) (s : Nat) : cr_C := if C.1 1 s 15 ≤ 0 then cs_S_new C s else if Int32.ofNat (C.2.1 s).length < C.1 1 s 15 then cs_S_new C s else cs_S_again C s
theorem cr_K.len (h : cr_K G q0 w C n F Q) {r : Nat} (hr : r < 22) : (C.2.1 r).length < 2 ^ 30 := by
  obtain ⟨X, Ar, Cp, U, hR, hX, -⟩ := h
  obtain ⟨⟨-, h1, h2, -⟩, -⟩ := hR.2.2.2.2.1 r hr
  rw [← (hX r hr).1]
  omega
theorem k_S_new {s : Nat} (hq : q0 < ev_b G) (J : ev_J G q0 mi) (hn : n ≤ 200000) (hs : s < 6) (h : cr_K G q0 w C n F Q) : ev_E G mm_S_sendNumbered (d + 7) 85 [(0, .ref (ev_b G + cr_o 1 s)), (1, .int (C.1 1 s 4))] [] w (cr_yv G q0 n F Q (cs_S_new C s)) := by
  have hr : 6 + s < 22 := by omega
  have hr' : s < 22 := by omega
  have hlen := h.len hr'
  unfold cs_S_new
  refine ev_aload_n dd_S_sendNumbered_85 rfl ?_
  refine K_gP (κ := 1) (q := cr_o 11 (6 + s)) dd_S_sendNumbered_86 fr_S_68 h hs rfl ?_
  refine ev_callvI [] dd_S_sendNumbered_89 ms_AL_isEmpty iv_S_131 (h.al (κ := 11) hr) (h.tg (κ := 11) hr) rfl (Nat.le_of_ble_eq_true rfl) (Nat.le_of_ble_eq_true rfl) (K_isE h hr) ?_
  refine ev_if_ne dd_S_sendNumbered_92 (fun c => ?_) (fun c => ?_)
  · rw [if_neg c]
    exact k_S_fill hq hs _ h
  · rw [if_pos c]
    refine ev_aload_n dd_S_sendNumbered_95 rfl ?_
    refine K_gP (κ := 1) (q := cr_o 11 s) dd_S_sendNumbered_96 fr_S_64 h hs rfl ?_
    refine ev_callvI [] dd_S_sendNumbered_99 ms_AL_size iv_S_99 (h.al (κ := 11) hr') (h.tg (κ := 11) hr') rfl (Nat.le_of_ble_eq_true rfl) (Nat.le_of_ble_eq_true rfl) (K_size h hr') ?_
    refine ev_ic (v := 5) dd_S_sendNumbered_102 (by decide +kernel) ?_
    refine ev_icmp_ge dd_S_sendNumbered_103 (fun c2 => ?_) (fun c2 => ?_)
    · rw [if_pos c2]
      exact k_S_fill hq hs _ h
    · rw [if_neg c2]
      have hl5 : (C.2.1 s).length < 5 := by
        by_cases e : (C.2.1 s).length < 5
        · exact e
        · exact absurd (nI_le (a := 5) (b := (C.2.1 s).length) (by omega) (by omega)) c2
      have hne : ¬ C.2.1 (6 + s) = [] := fun e => by
        unfold cr_e at c
        rw [if_pos e] at c
        exact absurd c (by decide)
      obtain ⟨μ, t, ht⟩ := List.exists_cons_of_ne_nil hne
      have h0 : (C.2.1 (6 + s))[0]? = some μ := by rw [ht]; rfl
      refine ev_aload_n dd_S_sendNumbered_106 rfl ?_
      refine K_gP (κ := 1) (q := cr_o 3 s) dd_S_sendNumbered_107 fr_S_81 h hs rfl ?_
      refine ev_aload_n dd_S_sendNumbered_110 rfl ?_
      refine K_gP (κ := 1) (q := cr_o 11 (6 + s)) dd_S_sendNumbered_111 fr_S_68 h hs rfl ?_
      refine ev_ic (v := 0) dd_S_sendNumbered_114 (by decide +kernel) ?_
      refine ev_callv [.int (Int32.ofNat 0)] dd_S_sendNumbered_115 ms_AL_remove iv_S_142 (h.al (κ := 11) hr) (h.tg (κ := 11) hr) rfl (Nat.le_of_ble_eq_true rfl) (Nat.le_of_ble_eq_true rfl) (K_remove (j := 0) (μ := μ) hq h hr h0) (fun v w3 hp _ _ => ?_) (fun x w3 hp _ _ => by obtain ⟨⟨y, h1, -⟩, -⟩ := hp; cases h1)
      obtain ⟨⟨y, h1, hy⟩, hK⟩ := hp
      cases h1
      refine ev_cast (c := 6) dd_S_sendNumbered_118 kl_S_107 hy.1 hy.2.1 rfl ?_
      refine K_pU (u := some y) (v := some μ) dd_S_sendNumbered_121 fk_S_126 hK hq hs (Or.inr ⟨y, μ, rfl, rfl, hy⟩) (fun w4 h4 => ?_)
      refine ev_aload_n dd_S_sendNumbered_124 rfl ?_
      refine K_gP (κ := 1) (q := cr_o 11 s) dd_S_sendNumbered_125 fr_S_64 h4 hs rfl ?_
      refine ev_aload_n dd_S_sendNumbered_128 rfl ?_
      refine K_gP (κ := 1) (q := cr_o 3 s) dd_S_sendNumbered_129 fr_S_81 h4 hs rfl ?_
      refine K_gU dd_S_sendNumbered_132 fr_S_126 h4 hs (fun u hu => ?_)
      have hv : (cr_sU (cr_sX C (6 + s) ((C.2.1 (6 + s)).eraseIdx 0)) s (some μ)).2.2 s = some μ := by simp [cr_sU]
      rw [hv] at hu
      rcases hu with ⟨-, hu⟩ | ⟨y2, μ2, rfl, e2, hy2⟩
      · cases hu
      · cases e2
        have hz : (cr_sU (cr_sX C (6 + s) ((C.2.1 (6 + s)).eraseIdx 0)) s (some μ)).2.1 s = C.2.1 s := by
          simp only [cr_sU, cr_sX]
          rw [if_neg (by omega)]
        refine ev_callv [.ref y2] dd_S_sendNumbered_135 ms_AL_add1 iv_S_145 (h4.al (κ := 11) hr') (h4.tg (κ := 11) hr') rfl (Nat.le_of_ble_eq_true rfl) (Nat.le_of_ble_eq_true rfl) (K_add J h4 hr' (by rw [hz]; omega) hn hy2) (fun v w5 hp _ _ => ?_) (fun x w3 hp _ _ => by obtain ⟨h1, -⟩ := hp; cases h1)
        obtain ⟨h1, h5⟩ := hp
        cases h1
        rw [hz] at h5
        refine ev_pop dd_S_sendNumbered_138 rfl ?_
        refine ev_aload_n dd_S_sendNumbered_139 rfl ?_
        refine ev_aload_n dd_S_sendNumbered_140 rfl ?_
        refine K_gI (κ := 1) dd_S_sendNumbered_141 fr_S_24 h5 hs rfl ?_
        refine ev_ic (v := 1) dd_S_sendNumbered_144 (by decide +kernel) ?_
        refine ev_iadd dd_S_sendNumbered_145 ?_
        refine ev_bp (v := 8) dd_S_sendNumbered_146 (by decide +kernel) ?_
        refine ev_callsI [_, _] dd_S_sendNumbered_148 ms_MA_floorMod is_S_112 rfl (Nat.le_of_ble_eq_true rfl) (Nat.le_of_ble_eq_true rfl) (c_fm8 _) ?_
        refine K_pI (κ := 1) dd_S_sendNumbered_151 fk_S_24 h5 hq hs rfl rfl rfl (fun w6 h6 => ?_)
        refine ev_aload_n dd_S_sendNumbered_154 rfl ?_
        refine K_gI (κ := 1) dd_S_sendNumbered_155 fr_S_24 h6 hs rfl ?_
        refine ev_istore_n dd_S_sendNumbered_158 (by decide) ?_
        have e7 : ∀ (D : cr_C) (x : Int32), (cr_sI D 1 s 4 x).1 1 s 4 = x := fun D x => by simp [cr_sI, cr_u]
        rw [e7]
        refine ev_loc2 (i0 := 0) (i1 := 1) rfl rfl ?_
        have hK7 := k_S_fill (d := d + 7) (G := G) (q0 := q0) (n := n) (F := F) (Q := Q) hq hs (Int32.ofNat (cr_f8 (C.1 1 s 4 + 1))) h6
        unfold cs_S_first
        rw [h0]
        exact hK7
theorem k_S_sendNumbered {s : Nat} (hq : q0 < ev_b G) (J : ev_J G q0 mi) (hn : n ≤ 200000) (hs : s < 6) (h : cr_K G q0 w C n F Q) : ev_E G mm_S_sendNumbered (d + 7) 0 (lv_args 0 [.ref (ev_b G + cr_o 1 s)]) [] w (cr_yv G q0 n F Q (cs_S_sendNumbered C s)) := by
  have hr' : s < 22 := by omega
  have hlen := h.len hr'
  unfold cs_S_sendNumbered
  refine ev_aload_n dd_S_sendNumbered_0 rfl ?_
  refine K_gI (κ := 1) dd_S_sendNumbered_1 fr_S_24 h hs rfl ?_
  refine ev_istore_n dd_S_sendNumbered_4 (by decide) ?_
  refine ev_loc2 (i0 := 0) (i1 := 1) rfl rfl ?_
  refine ev_aload_n dd_S_sendNumbered_5 rfl ?_
  refine K_gI (κ := 1) dd_S_sendNumbered_6 fr_S_58 h hs rfl ?_
  refine ev_if_le dd_S_sendNumbered_9 (fun c => ?_) (fun c => ?_)
  · rw [if_pos c]
    exact k_S_new hq J hn hs h
  · rw [if_neg c]
    refine ev_aload_n dd_S_sendNumbered_12 rfl ?_
    refine K_gI (κ := 1) dd_S_sendNumbered_13 fr_S_58 h hs rfl ?_
    refine ev_aload_n dd_S_sendNumbered_16 rfl ?_
    refine K_gP (κ := 1) (q := cr_o 11 s) dd_S_sendNumbered_17 fr_S_64 h hs rfl ?_
    refine ev_callvI [] dd_S_sendNumbered_20 ms_AL_size iv_S_99 (h.al (κ := 11) hr') (h.tg (κ := 11) hr') rfl (Nat.le_of_ble_eq_true rfl) (Nat.le_of_ble_eq_true rfl) (K_size h hr') ?_
    refine ev_icmp_gt dd_S_sendNumbered_23 (fun c2 => ?_) (fun c2 => ?_)
    · rw [if_pos c2]
      exact k_S_new hq J hn hs h
    · rw [if_neg c2]
      have hc0 : ¬ C.1 1 s 15 < 0 := fun e => c (Int32.le_of_lt e)
      obtain ⟨u, hu, eu⟩ := nI_of hc0
      have eu' : C.1 1 s 15 = Int32.ofNat u := eu
      have hu0 : 0 < u := by
        by_cases e : 0 < u
        · exact e
        · exfalso
          have e0 : u = 0 := by omega
          rw [eu', e0] at c
          exact c (by decide)
      have hul : u ≤ (C.2.1 s).length := by
        by_cases e : u ≤ (C.2.1 s).length
        · exact e
        · exfalso
          rw [eu'] at c2
          exact c2 (nI_lt (by omega) (by omega))
      have hcl : (C.1 1 s 15).toNatClampNeg = u := by rw [eu']; exact ev_cl u (by omega)
      have hx : (C.2.1 s)[(C.2.1 s).length - u]? = some (C.2.1 s)[(C.2.1 s).length - u] := List.getElem?_eq_getElem (by omega)
      have hsub : Int32.ofNat (C.2.1 s).length - C.1 1 s 15 = Int32.ofNat ((C.2.1 s).length - u) := by
        rw [eu']
        have e1 : Int32.ofNat (C.2.1 s).length = Int32.ofNat ((C.2.1 s).length - u) + Int32.ofNat u := by
          have e2 := nI_add ((C.2.1 s).length - u) u
          rw [Nat.sub_add_cancel hul] at e2
          exact e2.symm
        rw [e1, Int32.add_sub_cancel]
      refine ev_aload_n dd_S_sendNumbered_26 rfl ?_
      refine K_gP (κ := 1) (q := cr_o 3 s) dd_S_sendNumbered_27 fr_S_81 h hs rfl ?_
      refine ev_aload_n dd_S_sendNumbered_30 rfl ?_
      refine K_gP (κ := 1) (q := cr_o 11 s) dd_S_sendNumbered_31 fr_S_64 h hs rfl ?_
      refine ev_aload_n dd_S_sendNumbered_34 rfl ?_
      refine K_gP (κ := 1) (q := cr_o 11 s) dd_S_sendNumbered_35 fr_S_64 h hs rfl ?_
      refine ev_callvI [] dd_S_sendNumbered_38 ms_AL_size iv_S_99 (h.al (κ := 11) hr') (h.tg (κ := 11) hr') rfl (Nat.le_of_ble_eq_true rfl) (Nat.le_of_ble_eq_true rfl) (K_size h hr') ?_
      refine ev_aload_n dd_S_sendNumbered_41 rfl ?_
      refine K_gI (κ := 1) dd_S_sendNumbered_42 fr_S_58 h hs rfl ?_
      refine ev_isub dd_S_sendNumbered_45 ?_
      rw [hsub]
      refine ev_callv [.int (Int32.ofNat ((C.2.1 s).length - u))] dd_S_sendNumbered_46 ms_AL_get iv_S_103 (h.al (κ := 11) hr') (h.tg (κ := 11) hr') rfl (Nat.le_of_ble_eq_true rfl) (Nat.le_of_ble_eq_true rfl) (K_get h hr' hx) (fun v w3 hp _ _ => ?_) (fun x w3 hp _ _ => by obtain ⟨-, y, h1, -⟩ := hp; cases h1)
      obtain ⟨rfl, y, h1, hy⟩ := hp
      cases h1
      refine ev_cast (c := 6) dd_S_sendNumbered_49 kl_S_107 hy.1 hy.2.1 rfl ?_
      refine K_pU (u := some y) (v := some _) dd_S_sendNumbered_52 fk_S_126 h hq hs (Or.inr ⟨y, _, rfl, rfl, hy⟩) (fun w4 h4 => ?_)
      refine ev_aload_n dd_S_sendNumbered_55 rfl ?_
      refine K_gI (κ := 1) dd_S_sendNumbered_56 fr_S_24 h4 hs rfl ?_
      refine ev_aload_n dd_S_sendNumbered_59 rfl ?_
      refine K_gI (κ := 1) dd_S_sendNumbered_60 fr_S_58 h4 hs rfl ?_
      refine ev_isub dd_S_sendNumbered_63 ?_
      refine ev_ic (v := 1) dd_S_sendNumbered_64 (by decide +kernel) ?_
      refine ev_iadd dd_S_sendNumbered_65 ?_
      refine ev_bp (v := 8) dd_S_sendNumbered_66 (by decide +kernel) ?_
      refine ev_callsI [_, _] dd_S_sendNumbered_68 ms_MA_floorMod is_S_112 rfl (Nat.le_of_ble_eq_true rfl) (Nat.le_of_ble_eq_true rfl) (c_fm8 _) ?_
      refine ev_istore_n dd_S_sendNumbered_71 (by decide) ?_
      refine ev_aload_n dd_S_sendNumbered_72 rfl ?_
      refine ev_dup dd_S_sendNumbered_73 rfl ?_
      refine K_gI (κ := 1) dd_S_sendNumbered_74 fr_S_58 h4 hs rfl ?_
      refine ev_ic (v := 1) dd_S_sendNumbered_77 (by decide +kernel) ?_
      refine ev_isub dd_S_sendNumbered_78 ?_
      refine K_pI (κ := 1) dd_S_sendNumbered_79 fk_S_58 h4 hq hs rfl rfl rfl (fun w6 h6 => ?_)
      refine ev_goto dd_S_sendNumbered_82 ?_
      refine ev_loc2 (i0 := 0) (i1 := 1) rfl rfl ?_
      unfold cs_S_again
      rw [hcl, hx]
      exact k_S_fill hq hs _ h6
def cs_S_send (C : cr_C) (s : Nat) : cr_C := (if ((cr_sI (cr_sU C s none) 3 s 1 ((cr_sU C s none).1 1 s 2)).1 1 s 0) = 1 then (cr_sI (cr_sI (cr_sI (cr_sU C s none) 3 s 1 ((cr_sU C s none).1 1 s 2)) 3 s 0 2) 1 s 14 0) else (if ((cr_sI (cr_sU C s none) 3 s 1 ((cr_sU C s none).1 1 s 2)).1 1 s 0) = 2 then (cr_sI (cr_sI (cr_sI (cr_sU C s none) 3 s 1 ((cr_sU C s none).1 1 s 2)) 3 s 0 3) 1 s 14 0) else (if ((cr_sI (cr_sU C s none) 3 s 1 ((cr_sU C s none).1 1 s 2)).1 1 s 0) = 3 then (cr_sI (cs_S_sendNumbered (cr_sI (cr_sU C s none) 3 s 1 ((cr_sU C s none).1 1 s 2)) s) 1 s 14 0) else (if ((cr_sI (cr_sU C s none) 3 s 1 ((cr_sU C s none).1 1 s 2)).1 1 s 0) = 4 then (cr_sI (cs_S_sendNumbered (cr_sI (cr_sU C s none) 3 s 1 ((cr_sU C s none).1 1 s 2)) s) 1 s 14 0) else (if ((cr_sI (cr_sU C s none) 3 s 1 ((cr_sU C s none).1 1 s 2)).1 1 s 14) = 0 then (cr_sI (cr_sI (cr_sI (cr_sU C s none) 3 s 1 ((cr_sU C s none).1 1 s 2)) 3 s 0 0) 1 s 14 0) else (cr_sI (cr_sI (cr_sI (cr_sU C s none) 3 s 1 ((cr_sU C s none).1 1 s 2)) 3 s 0 1) 1 s 14 0))))))
theorem k_S_send {s : Nat} (hq : q0 < ev_b G) (J : ev_J G q0 mi) (hn : n ≤ 200000) (hs : s < 6) (h : cr_K G q0 w C n F Q) : ev_E G mm_S_send (d + 8) 0 (lv_args 0 [.ref (ev_b G + cr_o 1 s)]) [] w (cr_yv G q0 n F Q (cs_S_send C s)) := by
  unfold cs_S_send
  refine ev_aload_n dd_S_send_0 rfl ?_
  refine K_gP (κ := 1) (q := cr_o 3 s) dd_S_send_1 fr_S_81 h (show s < 6 by omega) rfl ?_
  refine ev_null dd_S_send_4 ?_
  refine K_pU (u := none) (v := none) dd_S_send_5 fk_S_126 h hq (show s < 6 by omega) (Or.inl ⟨rfl, rfl⟩) (fun w1 h1 => ?_)
  refine ev_aload_n dd_S_send_8 rfl ?_
  refine K_gP (κ := 1) (q := cr_o 3 s) dd_S_send_9 fr_S_81 h1 (show s < 6 by omega) rfl ?_
  refine ev_aload_n dd_S_send_12 rfl ?_
  refine K_gI (κ := 1) dd_S_send_13 fr_S_18 h1 (show s < 6 by omega) rfl ?_
  refine K_pI (κ := 3) dd_S_send_16 fk_S_135 h1 hq (show s < 6 by omega) rfl rfl rfl (fun w2 h2 => ?_)
  refine ev_aload_n dd_S_send_19 rfl ?_
  refine K_gI (κ := 1) dd_S_send_20 fr_S_9 h2 (show s < 6 by omega) rfl ?_
  by_cases c3 : ((cr_sI (cr_sU C s none) 3 s 1 ((cr_sU C s none).1 1 s 2)).1 1 s 0) = 1
  · rw [if_pos c3]
    refine ev_tableIn (off := 29) dd_S_send_23 (by rw [c3]; decide) (by rw [c3]; decide) (by rw [c3]; rfl) (tgt := 52) rfl ?_
    refine ev_aload_n dd_S_send_52 rfl ?_
    refine K_gP (κ := 1) (q := cr_o 3 s) dd_S_send_53 fr_S_81 h2 (show s < 6 by omega) rfl ?_
    refine ev_ic (v := 2) dd_S_send_56 (by decide +kernel) ?_
    refine K_pI (κ := 3) dd_S_send_57 fk_S_136 h2 hq (show s < 6 by omega) rfl rfl rfl (fun w4 h4 => ?_)
    refine ev_goto dd_S_send_60 ?_
    refine ev_aload_n dd_S_send_100 rfl ?_
    refine ev_ic (v := 0) dd_S_send_101 (by decide +kernel) ?_
    refine K_pI (κ := 1) dd_S_send_102 fk_S_54 h4 hq (show s < 6 by omega) rfl rfl rfl (fun w5 h5 => ?_)
    refine ev_vret dd_S_send_105 rfl ?_
    exact ⟨rfl, h5⟩
  · rw [if_neg c3]
    by_cases c6 : ((cr_sI (cr_sU C s none) 3 s 1 ((cr_sU C s none).1 1 s 2)).1 1 s 0) = 2
    · rw [if_pos c6]
      refine ev_tableIn (off := 40) dd_S_send_23 (by rw [c6]; decide) (by rw [c6]; decide) (by rw [c6]; rfl) (tgt := 63) rfl ?_
      refine ev_aload_n dd_S_send_63 rfl ?_
      refine K_gP (κ := 1) (q := cr_o 3 s) dd_S_send_64 fr_S_81 h2 (show s < 6 by omega) rfl ?_
      refine ev_ic (v := 3) dd_S_send_67 (by decide +kernel) ?_
      refine K_pI (κ := 3) dd_S_send_68 fk_S_136 h2 hq (show s < 6 by omega) rfl rfl rfl (fun w7 h7 => ?_)
      refine ev_goto dd_S_send_71 ?_
      refine ev_aload_n dd_S_send_100 rfl ?_
      refine ev_ic (v := 0) dd_S_send_101 (by decide +kernel) ?_
      refine K_pI (κ := 1) dd_S_send_102 fk_S_54 h7 hq (show s < 6 by omega) rfl rfl rfl (fun w8 h8 => ?_)
      refine ev_vret dd_S_send_105 rfl ?_
      exact ⟨rfl, h8⟩
    · rw [if_neg c6]
      by_cases c9 : ((cr_sI (cr_sU C s none) 3 s 1 ((cr_sU C s none).1 1 s 2)).1 1 s 0) = 3
      · rw [if_pos c9]
        refine ev_tableIn (off := 51) dd_S_send_23 (by rw [c9]; decide) (by rw [c9]; decide) (by rw [c9]; rfl) (tgt := 74) rfl ?_
        refine ev_aload_n dd_S_send_74 rfl ?_
        refine ev_callvV [] dd_S_send_75 ms_S_sendNumbered iv_S_139 (h2.al (κ := 1) (show s < 6 by omega)) (h2.tg (κ := 1) (show s < 6 by omega)) rfl (Nat.le_of_ble_eq_true rfl) (Nat.le_of_ble_eq_true rfl) (k_S_sendNumbered hq J hn (show s < 6 by omega) h2) (fun w10 h10 => ?_)
        refine ev_goto dd_S_send_78 ?_
        refine ev_aload_n dd_S_send_100 rfl ?_
        refine ev_ic (v := 0) dd_S_send_101 (by decide +kernel) ?_
        refine K_pI (κ := 1) dd_S_send_102 fk_S_54 h10 hq (show s < 6 by omega) rfl rfl rfl (fun w11 h11 => ?_)
        refine ev_vret dd_S_send_105 rfl ?_
        exact ⟨rfl, h11⟩
      · rw [if_neg c9]
        by_cases c12 : ((cr_sI (cr_sU C s none) 3 s 1 ((cr_sU C s none).1 1 s 2)).1 1 s 0) = 4
        · rw [if_pos c12]
          refine ev_tableIn (off := 51) dd_S_send_23 (by rw [c12]; decide) (by rw [c12]; decide) (by rw [c12]; rfl) (tgt := 74) rfl ?_
          refine ev_aload_n dd_S_send_74 rfl ?_
          refine ev_callvV [] dd_S_send_75 ms_S_sendNumbered iv_S_139 (h2.al (κ := 1) (show s < 6 by omega)) (h2.tg (κ := 1) (show s < 6 by omega)) rfl (Nat.le_of_ble_eq_true rfl) (Nat.le_of_ble_eq_true rfl) (k_S_sendNumbered hq J hn (show s < 6 by omega) h2) (fun w13 h13 => ?_)
          refine ev_goto dd_S_send_78 ?_
          refine ev_aload_n dd_S_send_100 rfl ?_
          refine ev_ic (v := 0) dd_S_send_101 (by decide +kernel) ?_
          refine K_pI (κ := 1) dd_S_send_102 fk_S_54 h13 hq (show s < 6 by omega) rfl rfl rfl (fun w14 h14 => ?_)
          refine ev_vret dd_S_send_105 rfl ?_
          exact ⟨rfl, h14⟩
        · rw [if_neg c12]
          refine ev_tableOut dd_S_send_23 (sw_1_4 c3 c6 c9 c12) (tgt := 81) rfl ?_
          refine ev_aload_n dd_S_send_81 rfl ?_
          refine K_gP (κ := 1) (q := cr_o 3 s) dd_S_send_82 fr_S_81 h2 (show s < 6 by omega) rfl ?_
          refine ev_aload_n dd_S_send_85 rfl ?_
          refine K_gI (κ := 1) dd_S_send_86 fr_S_54 h2 (show s < 6 by omega) rfl ?_
          refine ev_if_eq dd_S_send_89 (fun c15 => ?_) (fun c15 => ?_)
          · rw [if_pos c15]
            refine ev_ic (v := 0) dd_S_send_96 (by decide +kernel) ?_
            refine K_pI (κ := 3) dd_S_send_97 fk_S_136 h2 hq (show s < 6 by omega) rfl rfl rfl (fun w16 h16 => ?_)
            refine ev_aload_n dd_S_send_100 rfl ?_
            refine ev_ic (v := 0) dd_S_send_101 (by decide +kernel) ?_
            refine K_pI (κ := 1) dd_S_send_102 fk_S_54 h16 hq (show s < 6 by omega) rfl rfl rfl (fun w17 h17 => ?_)
            refine ev_vret dd_S_send_105 rfl ?_
            exact ⟨rfl, h17⟩
          · rw [if_neg c15]
            refine ev_ic (v := 1) dd_S_send_92 (by decide +kernel) ?_
            refine ev_goto dd_S_send_93 ?_
            refine K_pI (κ := 3) dd_S_send_97 fk_S_136 h2 hq (show s < 6 by omega) rfl rfl rfl (fun w18 h18 => ?_)
            refine ev_aload_n dd_S_send_100 rfl ?_
            refine ev_ic (v := 0) dd_S_send_101 (by decide +kernel) ?_
            refine K_pI (κ := 1) dd_S_send_102 fk_S_54 h18 hq (show s < 6 by omega) rfl rfl rfl (fun w19 h19 => ?_)
            refine ev_vret dd_S_send_105 rfl ?_
            exact ⟨rfl, h19⟩
end CrW
