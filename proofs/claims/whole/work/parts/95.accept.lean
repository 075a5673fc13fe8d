/-! an end accepts a message or not -/
def cs_E_acc2 (C : cr_C) (e k : Nat) (x : Int32) : Int32 × cr_C := if (cs_E_choose C e k).1 = 0 then cs_E_addBelow (cr_sI C 7 e k 0) (6 + (2 * 0 + e)) 6 (Int32.ofNat k) x else if (cs_E_choose C e k).1 = 1 then cs_E_addBelow (cr_sI C 7 e k 1) (6 + (2 * 1 + e)) 6 (Int32.ofNat k) x else if (cs_E_choose C e k).1 = 2 then cs_E_addBelow (cr_sI C 7 e k 2) (6 + (2 * 2 + e)) 6 (Int32.ofNat k) x else (0, C)
def cs_E_acc1 (C : cr_C) (e k l : Nat) (x : Int32) : Int32 × cr_C := if C.1 2 (2 * l + e) 0 = 0 then (if (cs_S_carries C (2 * l + e) (Int32.ofNat k)).1 = 0 then cs_E_acc2 C e k x else if (cs_E_isOpen C e l).1 = 0 then cs_E_acc2 C e k x else cs_E_addBelow C (6 + (2 * l + e)) 6 (Int32.ofNat k) x) else cs_E_addBelow C (18 + e) 8 (Int32.ofNat k) x
def cr_lk (C : cr_C) (e k : Nat) : Nat := (C.1 7 e k).toNatClampNeg
def cs_E_accept (C : cr_C) (e k : Nat) (x : Int32) : Int32 × cr_C := cs_E_acc1 C e k (cr_lk C e k) x
theorem ms_nb {x : Int32} (h : x = 0 ∨ x = 1) : narrow .boolean (.int x) = .int x := by
  rcases h with rfl | rfl <;> rfl
theorem cs_below1 (C : cr_C) (r : Nat) (x a b : Int32) : (cs_E_addBelow C r x a b).1 = 0 ∨ (cs_E_addBelow C r x a b).1 = 1 := by
  unfold cs_E_addBelow
  split
  · exact Or.inr rfl
  · exact Or.inl rfl
theorem cs_carries2 (C : cr_C) (s : Nat) (x : Int32) : (cs_S_carries C s x).2 = C := by
  unfold cs_S_carries
  repeat' split
  all_goals rfl
theorem cr_sI_at (C : cr_C) (κ i k : Nat) (x : Int32) : (cr_sI C κ i k x).1 κ i k = x := by simp [cr_sI, cr_u]
section CrQ2
variable {G : ev_gx} {M : ev_mx} {d pc pc' tgt : Nat} {L : List (Nat × Value)} {st : List Value} {w w1 : ev_wd} {P : ev_r → ev_wd → Prop} {q0 mi n n' : Nat} {C : cr_C} {F : ev_wd} {Q : Nat → cr_m → Prop}
theorem k_E_accT {e k l : Nat} {L : List (Nat × Value)} (hq : q0 < ev_b G) (J : ev_J G q0 mi) (hn : n + 1 ≤ 200000) (he : e < 2) (hk : k < 4) (hl : l < 3) (x : Int32) (h0 : L.lookup 0 = some (.ref (ev_b G + cr_o 9 e))) (h1 : L.lookup 1 = some (.int (Int32.ofNat k))) (h2 : L.lookup 2 = some (.int x)) (hL : C.1 7 e k = Int32.ofNat l) (hb : (C.2.1 (6 + (2 * l + e))).length ≤ 8191) (h : cr_K G q0 w C n F Q) :
    ev_E G mm_E_accept (d + 8) 80 L [] w (cr_yi G q0 (n + 1) F Q (cs_E_addBelow C (6 + (2 * l + e)) 6 (Int32.ofNat k) x)) := by
  have hs : 2 * l + e < 6 := by omega
  have hr : 6 + (2 * l + e) < 22 := by omega
  refine ev_loc3 (i0 := 0) (i1 := 1) (i2 := 2) h0 h1 h2 ?_
  refine ev_aload_n dd_E_accept_80 rfl ?_
  refine K_gP (κ := 9) (q := cr_o 15 e) dd_E_accept_81 fr_E_11 h he rfl ?_
  refine ev_aload_n dd_E_accept_84 rfl ?_
  refine K_gP (κ := 9) (q := cr_o 7 e) dd_E_accept_85 fr_E_25 h he rfl ?_
  refine ev_iload_n dd_E_accept_88 rfl ?_
  refine K_iald (κ := 7) (j := k) dd_E_accept_89 h he rfl hk (decide_eq_true hk) (by decide) ?_
  rw [hL]
  refine K_aald (κ := 15) (j := l) (t := 5) (q := cr_o 1 (2 * l + e)) dd_E_accept_90 h he rfl rfl hl (by decide) (if_pos hl) ?_
  refine K_gP (κ := 1) (q := cr_o 11 (6 + (2 * l + e))) dd_E_accept_91 fr_E_185 h hs rfl ?_
  refine ev_bp (v := 6) dd_E_accept_94 (by decide +kernel) ?_
  refine ev_iload_n dd_E_accept_96 rfl ?_
  refine ev_iload_n dd_E_accept_97 rfl ?_
  refine ev_callsN [_, _, _, _] dd_E_accept_98 ms_E_addBelow is_E_191 rfl (Nat.le_of_ble_eq_true rfl) (Nat.le_of_ble_eq_true rfl) (k_E_addBelow hq J hn hr _ _ _ hb h) (fun w3 h3 => ?_)
  refine ev_iret dd_E_accept_101 rfl (ms_nb (cs_below1 _ _ _ _ _)) ?_
  exact ⟨rfl, h3⟩
theorem k_E_acc2 {e k : Nat} {L : List (Nat × Value)} (hq : q0 < ev_b G) (J : ev_J G q0 mi) (hn : n + 1 ≤ 200000) (he : e < 2) (hk : k < 4) (x : Int32) (hb : ∀ l, l < 3 → (C.2.1 (6 + (2 * l + e))).length ≤ 8191) (h : cr_K G q0 w C n F Q) :
    ev_E G mm_E_accept (d + 8) 60 [(0, .ref (ev_b G + cr_o 9 e)), (1, .int (Int32.ofNat k)), (2, .int x)] [] w (cr_yi G q0 (n + 1) F Q (cs_E_acc2 C e k x)) := by
  unfold cs_E_acc2
  refine ev_aload_n dd_E_accept_60 rfl ?_
  refine ev_iload_n dd_E_accept_61 rfl ?_
  refine ev_callvN [_] dd_E_accept_62 ms_E_choose iv_E_198 (h.al (κ := 9) he) (h.tg (κ := 9) he) rfl (Nat.le_of_ble_eq_true rfl) (Nat.le_of_ble_eq_true rfl) (k_E_choose hq he hk h) (fun w1 h1 => ?_)
  rw [cs_choose2] at h1
  rcases cs_choose1 C e k with e1 | e1 | e1 | e1
  · rw [e1, if_pos rfl]
    refine ev_istore_n dd_E_accept_65 (by decide) ?_
    refine ev_iload_n dd_E_accept_66 rfl ?_
    refine ev_ic (v := (-1)) dd_E_accept_67 (by decide +kernel) ?_
    refine ev_icmp_ne dd_E_accept_68 (fun _ => ?_) (fun hc => absurd hc (by decide))
    refine ev_aload_n dd_E_accept_73 rfl ?_
    refine K_gP (κ := 9) (q := cr_o 7 e) dd_E_accept_74 fr_E_25 h1 he rfl ?_
    refine ev_iload_n dd_E_accept_77 rfl ?_
    refine ev_iload_n dd_E_accept_78 rfl ?_
    refine K_iast (κ := 7) (j := k) dd_E_accept_79 h1 hq he rfl hk (decide_eq_true hk) (by decide) (fun w2 h2 => ?_)
    exact k_E_accT (l := 0) hq J hn he hk (by decide) x rfl rfl rfl (cr_sI_at _ _ _ _ _) (hb 0 (by decide)) h2
  · rw [e1, if_neg (by decide), if_pos rfl]
    refine ev_istore_n dd_E_accept_65 (by decide) ?_
    refine ev_iload_n dd_E_accept_66 rfl ?_
    refine ev_ic (v := (-1)) dd_E_accept_67 (by decide +kernel) ?_
    refine ev_icmp_ne dd_E_accept_68 (fun _ => ?_) (fun hc => absurd hc (by decide))
    refine ev_aload_n dd_E_accept_73 rfl ?_
    refine K_gP (κ := 9) (q := cr_o 7 e) dd_E_accept_74 fr_E_25 h1 he rfl ?_
    refine ev_iload_n dd_E_accept_77 rfl ?_
    refine ev_iload_n dd_E_accept_78 rfl ?_
    refine K_iast (κ := 7) (j := k) dd_E_accept_79 h1 hq he rfl hk (decide_eq_true hk) (by decide) (fun w2 h2 => ?_)
    exact k_E_accT (l := 1) hq J hn he hk (by decide) x rfl rfl rfl (cr_sI_at _ _ _ _ _) (hb 1 (by decide)) h2
  · rw [e1, if_neg (by decide), if_neg (by decide), if_pos rfl]
    refine ev_istore_n dd_E_accept_65 (by decide) ?_
    refine ev_iload_n dd_E_accept_66 rfl ?_
    refine ev_ic (v := (-1)) dd_E_accept_67 (by decide +kernel) ?_
    refine ev_icmp_ne dd_E_accept_68 (fun _ => ?_) (fun hc => absurd hc (by decide))
    refine ev_aload_n dd_E_accept_73 rfl ?_
    refine K_gP (κ := 9) (q := cr_o 7 e) dd_E_accept_74 fr_E_25 h1 he rfl ?_
    refine ev_iload_n dd_E_accept_77 rfl ?_
    refine ev_iload_n dd_E_accept_78 rfl ?_
    refine K_iast (κ := 7) (j := k) dd_E_accept_79 h1 hq he rfl hk (decide_eq_true hk) (by decide) (fun w2 h2 => ?_)
    exact k_E_accT (l := 2) hq J hn he hk (by decide) x rfl rfl rfl (cr_sI_at _ _ _ _ _) (hb 2 (by decide)) h2
  · rw [e1, if_neg (by decide), if_neg (by decide), if_neg (by decide)]
    refine ev_istore_n dd_E_accept_65 (by decide) ?_
    refine ev_iload_n dd_E_accept_66 rfl ?_
    refine ev_ic (v := (-1)) dd_E_accept_67 (by decide +kernel) ?_
    refine ev_icmp_ne dd_E_accept_68 (fun hc => absurd rfl hc) (fun _ => ?_)
    refine ev_ic (v := 0) dd_E_accept_71 (by decide +kernel) ?_
    refine ev_iret dd_E_accept_72 rfl rfl ?_
    exact ⟨rfl, h1.more (Nat.le_succ n)⟩
theorem k_E_acc1 {e k l : Nat} (hq : q0 < ev_b G) (J : ev_J G q0 mi) (hn : n + 1 ≤ 200000) (he : e < 2) (hk : k < 4) (hl : l < 3) (hL : C.1 7 e k = Int32.ofNat l) (x : Int32) (hb : ∀ l, l < 3 → (C.2.1 (6 + (2 * l + e))).length ≤ 8191) (hb2 : (C.2.1 (18 + e)).length ≤ 8191) (h : cr_K G q0 w C n F Q) :
    ev_E G mm_E_accept (d + 8) 0 (lv_args 0 [.ref (ev_b G + cr_o 9 e), .int (Int32.ofNat k), .int x]) [] w (cr_yi G q0 (n + 1) F Q (cs_E_acc1 C e k l x)) := by
  have hs : 2 * l + e < 6 := by omega
  have hr : 18 + e < 22 := by omega
  unfold cs_E_acc1
  refine ev_aload_n dd_E_accept_0 rfl ?_
  refine K_gP (κ := 9) (q := cr_o 16 e) dd_E_accept_1 fr_E_19 h he rfl ?_
  refine ev_aload_n dd_E_accept_4 rfl ?_
  refine K_gP (κ := 9) (q := cr_o 7 e) dd_E_accept_5 fr_E_25 h he rfl ?_
  refine ev_iload_n dd_E_accept_8 rfl ?_
  refine K_iald (κ := 7) (j := k) dd_E_accept_9 h he rfl hk (decide_eq_true hk) (by decide) ?_
  rw [hL]
  refine K_aald (κ := 16) (j := l) (t := 6) (q := cr_o 2 (2 * l + e)) dd_E_accept_10 h he rfl rfl hl (by decide) (if_pos hl) ?_
  refine K_gI (κ := 2) dd_E_accept_11 fr_E_167 h hs rfl ?_
  refine ev_if_eq dd_E_accept_14 (fun c => ?_) (fun c => ?_)
  · rw [if_pos c]
    refine ev_aload_n dd_E_accept_29 rfl ?_
    refine K_gP (κ := 9) (q := cr_o 15 e) dd_E_accept_30 fr_E_11 h he rfl ?_
    refine ev_aload_n dd_E_accept_33 rfl ?_
    refine K_gP (κ := 9) (q := cr_o 7 e) dd_E_accept_34 fr_E_25 h he rfl ?_
    refine ev_iload_n dd_E_accept_37 rfl ?_
    refine K_iald (κ := 7) (j := k) dd_E_accept_38 h he rfl hk (decide_eq_true hk) (by decide) ?_
    rw [hL]
    refine K_aald (κ := 15) (j := l) (t := 5) (q := cr_o 1 (2 * l + e)) dd_E_accept_39 h he rfl rfl hl (by decide) (if_pos hl) ?_
    refine ev_iload_n dd_E_accept_40 rfl ?_
    refine ev_callvN [_] dd_E_accept_41 ms_S_carries iv_E_195 (h.al (κ := 1) hs) (h.tg (κ := 1) hs) rfl (Nat.le_of_ble_eq_true rfl) (Nat.le_of_ble_eq_true rfl) (k_S_carries hq hs _ h) (fun w1 h1 => ?_)
    rw [cs_carries2] at h1
    refine ev_if_eq dd_E_accept_44 (fun c2 => ?_) (fun c2 => ?_)
    · rw [if_pos c2]
      refine ev_loc3 (i0 := 0) (i1 := 1) (i2 := 2) rfl rfl rfl ?_
      exact k_E_acc2 (L := []) hq J hn he hk x hb h1
    · rw [if_neg c2]
      refine ev_aload_n dd_E_accept_47 rfl ?_
      refine ev_aload_n dd_E_accept_48 rfl ?_
      refine K_gP (κ := 9) (q := cr_o 7 e) dd_E_accept_49 fr_E_25 h1 he rfl ?_
      refine ev_iload_n dd_E_accept_52 rfl ?_
      refine K_iald (κ := 7) (j := k) dd_E_accept_53 h1 he rfl hk (decide_eq_true hk) (by decide) ?_
      rw [hL]
      refine ev_callvN [_] dd_E_accept_54 ms_E_isOpen iv_E_188 (h1.al (κ := 9) he) (h1.tg (κ := 9) he) rfl (Nat.le_of_ble_eq_true rfl) (Nat.le_of_ble_eq_true rfl) (k_E_isOpen hq he hl h1) (fun w2 h2 => ?_)
      rw [cs_isOpen2] at h2
      refine ev_if_ne dd_E_accept_57 (fun c3 => ?_) (fun c3 => ?_)
      · rw [if_neg c3]
        exact k_E_accT hq J hn he hk hl x rfl rfl rfl hL (hb l hl) h2
      · rw [if_pos c3]
        refine ev_loc3 (i0 := 0) (i1 := 1) (i2 := 2) rfl rfl rfl ?_
        exact k_E_acc2 (L := []) hq J hn he hk x hb h2
  · rw [if_neg c]
    refine ev_aload_n dd_E_accept_17 rfl ?_
    refine K_gP (κ := 9) (q := cr_o 11 (18 + e)) dd_E_accept_18 fr_E_35 h he rfl ?_
    refine ev_bp (v := 8) dd_E_accept_21 (by decide +kernel) ?_
    refine ev_iload_n dd_E_accept_23 rfl ?_
    refine ev_iload_n dd_E_accept_24 rfl ?_
    refine ev_callsN [_, _, _, _] dd_E_accept_25 ms_E_addBelow is_E_191 rfl (Nat.le_of_ble_eq_true rfl) (Nat.le_of_ble_eq_true rfl) (k_E_addBelow hq J hn hr _ _ _ hb2 h) (fun w3 h3 => ?_)
    refine ev_iret dd_E_accept_28 rfl (ms_nb (cs_below1 _ _ _ _ _)) ?_
    exact ⟨rfl, h3⟩
end CrQ2
