/-! a class is moved; a message is added to a row below its bound -/
section CrJ
variable {G : ev_gx} {M : ev_mx} {d pc pc' tgt : Nat} {L : List (Nat × Value)} {st : List Value} {w w1 : ev_wd} {P : ev_r → ev_wd → Prop} {q0 mi n n' : Nat} {C : cr_C} {F : ev_wd} {Q : Nat → cr_m → Prop}
def cs_E_moveClass (C : cr_C) (e k : Nat) : cr_C := if (cs_E_choose C e k).1 = -1 then C else cr_sI C 7 e k (cs_E_choose C e k).1
theorem k_E_moveClass {e k : Nat} (hq : q0 < ev_b G) (he : e < 2) (hk : k < 4) (h : cr_K G q0 w C n F Q) : ev_E G mm_E_moveClass (d + 2) 0 (lv_args 0 [.ref (ev_b G + cr_o 9 e), .int (Int32.ofNat k)]) [] w (cr_yv G q0 n F Q (cs_E_moveClass C e k)) := by
  unfold cs_E_moveClass
  refine ev_aload_n dd_E_moveClass_0 rfl ?_
  refine ev_iload_n dd_E_moveClass_1 rfl ?_
  refine ev_callvN [_] dd_E_moveClass_2 ms_E_choose iv_E_198 (h.al (κ := 9) he) (h.tg (κ := 9) he) rfl (Nat.le_of_ble_eq_true rfl) (Nat.le_of_ble_eq_true rfl) (k_E_choose hq he hk h) (fun w1 h1 => ?_)
  rw [cs_choose2] at h1
  refine ev_istore_n dd_E_moveClass_5 (by decide) ?_
  refine ev_iload_n dd_E_moveClass_6 rfl ?_
  refine ev_ic (v := (-1)) dd_E_moveClass_7 (by decide +kernel) ?_
  refine ev_icmp_eq dd_E_moveClass_8 (fun c => ?_) (fun c => ?_)
  · rw [if_pos c]
    refine ev_vret dd_E_moveClass_18 rfl ?_
    exact ⟨rfl, h1⟩
  · rw [if_neg c]
    refine ev_aload_n dd_E_moveClass_11 rfl ?_
    refine K_gP (κ := 9) (q := cr_o 7 e) dd_E_moveClass_12 fr_E_25 h1 he rfl ?_
    refine ev_iload_n dd_E_moveClass_15 rfl ?_
    refine ev_iload_n dd_E_moveClass_16 rfl ?_
    refine K_iast (κ := 7) (j := k) dd_E_moveClass_17 h1 hq he rfl hk (decide_eq_true hk) (by decide) (fun w2 h2 => ?_)
    refine ev_vret dd_E_moveClass_18 rfl ?_
    exact ⟨rfl, h2⟩
def cs_E_addBelow (C : cr_C) (r : Nat) (x a b : Int32) : Int32 × cr_C := if Int32.ofNat (C.2.1 r).length < x then (1, cs_put C r (a, b, -1, -1)) else (0, C)
theorem k_E_addBelow {r : Nat} (hq : q0 < ev_b G) (J : ev_J G q0 mi) (hn : n + 1 ≤ 200000) (hr : r < 22) (x a b : Int32) (hb : (C.2.1 r).length ≤ 8191) (h : cr_K G q0 w C n F Q) : ev_E G mm_E_addBelow (d + 7) 0 (lv_args 0 [.ref (ev_b G + cr_o 11 r), .int x, .int a, .int b]) [] w (cr_yi G q0 (n + 1) F Q (cs_E_addBelow C r x a b)) := by
  unfold cs_E_addBelow
  refine ev_aload_n dd_E_addBelow_0 rfl ?_
  refine ev_callvI [] dd_E_addBelow_1 ms_AL_size iv_E_201 (h.al (κ := 11) hr) (h.tg (κ := 11) hr) rfl (Nat.le_of_ble_eq_true rfl) (Nat.le_of_ble_eq_true rfl) (K_size h hr) ?_
  refine ev_iload_n dd_E_addBelow_4 rfl ?_
  refine ev_icmp_lt dd_E_addBelow_5 (fun c => ?_) (fun c => ?_)
  · rw [if_pos c]
    refine ev_aload_n dd_E_addBelow_10 rfl ?_
    refine K_new dd_E_addBelow_11 kl_E_139 h hq (by omega) (fun _ => ?_)
    refine ev_dup dd_E_addBelow_14 rfl ?_
    refine ev_iload_n dd_E_addBelow_15 rfl ?_
    refine ev_iload_n dd_E_addBelow_16 rfl ?_
    refine ev_ic (v := (-1)) dd_E_addBelow_17 (by decide +kernel) ?_
    refine ev_ic (v := (-1)) dd_E_addBelow_18 (by decide +kernel) ?_
    refine ev_calli [.int a, .int b, .int (-1), .int (-1)] dd_E_addBelow_19 ms_G_init ii_E_161 rfl (Nat.le_of_ble_eq_true rfl) (Nat.le_of_ble_eq_true rfl) (k_G_init hq a b (-1) (-1) h) (fun v w2 hp _ _ => ?_) (fun x w3 hp _ _ => by obtain ⟨h1, -⟩ := hp; cases h1)
    obtain ⟨h1, h2⟩ := hp
    cases h1
    refine ev_callv [.ref (ev_z w)] dd_E_addBelow_22 ms_AL_add1 iv_E_149 (h2.al (κ := 11) hr) (h2.tg (κ := 11) hr) rfl (Nat.le_of_ble_eq_true rfl) (Nat.le_of_ble_eq_true rfl) (K_add J h2 hr hb hn (h2.ms (Or.inr ⟨rfl, rfl⟩))) (fun v w5 hp _ _ => ?_) (fun x w3 hp _ _ => by obtain ⟨h1, -⟩ := hp; cases h1)
    obtain ⟨h3, h5⟩ := hp
    cases h3
    refine ev_pop dd_E_addBelow_25 rfl ?_
    refine ev_ic (v := 1) dd_E_addBelow_26 (by decide +kernel) ?_
    refine ev_iret dd_E_addBelow_27 rfl rfl ?_
    exact ⟨rfl, h5.less (fun _ _ hx => Or.inl hx)⟩
  · rw [if_neg c]
    refine ev_ic (v := 0) dd_E_addBelow_8 (by decide +kernel) ?_
    refine ev_iret dd_E_addBelow_9 rfl rfl ?_
    exact ⟨rfl, h.more (Nat.le_succ n)⟩
end CrJ
