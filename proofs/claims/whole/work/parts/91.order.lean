/-! an order comes -/
theorem cs_backFor2 (C : cr_C) (s : Nat) (x : Int32) : (cs_Y_backFor C s x).2 = C := by
  unfold cs_Y_backFor
  repeat' split
  all_goals rfl
section CrL2
variable {G : ev_gx} {M : ev_mx} {d pc pc' tgt : Nat} {L : List (Nat × Value)} {st : List Value} {w w1 : ev_wd} {P : ev_r → ev_wd → Prop} {q0 mi n n' : Nat} {C : cr_C} {F : ev_wd} {Q : Nat → cr_m → Prop}
def cs_E_ord2 (C : cr_C) (s : Nat) (μ : cr_m) : cr_C := if C.1 2 s 0 = 0 then C else if C.1 2 s 2 = 0 then (if C.1 2 s 5 = cr_mk μ 3 then cs_C_settle C s (cr_mk μ 2) else C) else C
def cs_E_ord1 (C : cr_C) (e l : Nat) (μ : cr_m) : cr_C := cs_E_ord2 (cs_E_say C e (5, Int32.ofNat l, (cs_Y_backFor C (2 * l + e) (cr_mk μ 3)).1, cr_mk μ 3)) (2 * l + e) μ
def cs_E_ord0 (C : cr_C) (e l : Nat) (μ : cr_m) : cr_C := if C.1 1 (2 * l + e) 0 = 4 then (if C.1 1 (2 * l + e) 3 = cr_mk μ 3 then cs_E_fall C e l else C) else C
def cs_E_takeOrder (C : cr_C) (e l : Nat) (μ : cr_m) : cr_C := cs_E_ord1 (cs_E_ord0 C e l μ) e l μ
theorem k_E_ord1 {e x l : Nat} {μ : cr_m} (hq : q0 < ev_b G) (J : ev_J G q0 mi) (hn : n + 1 ≤ 200000) (he : e < 2) (hl : l < 3) (hx : Q x μ) (hb : ∀ l, l < 3 → (C.2.1 (6 + (2 * l + e))).length ≤ 8191) (h : cr_K G q0 w C n F Q) :
    ev_E G mm_E_takeOrder (d + 9) 36 [(0, .ref (ev_b G + cr_o 9 e)), (1, .ref x), (2, .int (Int32.ofNat l)), (3, .ref (ev_b G + cr_o 1 (2 * l + e)))] [] w (cr_yv G q0 (n + 1) F Q (cs_E_ord1 C e l μ)) := by
  have hs : 2 * l + e < 6 := by omega
  unfold cs_E_ord1
  refine ev_aload_n dd_E_takeOrder_36 rfl ?_
  refine K_gP (κ := 1) (q := cr_o 10 (2 * l + e)) dd_E_takeOrder_37 fr_E_57 h hs rfl ?_
  refine ev_aload_n dd_E_takeOrder_40 rfl ?_
  refine K_gM dd_E_takeOrder_41 fr_E_156 (h.ms hx) (by decide) ?_
  refine ev_callvN [_] dd_E_takeOrder_44 ms_Y_backFor iv_E_157 (h.al (κ := 10) hs) (h.tg (κ := 10) hs) rfl (Nat.le_of_ble_eq_true rfl) (Nat.le_of_ble_eq_true rfl) (k_Y_backFor hq hs _ h) (fun w1 h1 => ?_)
  rw [cs_backFor2] at h1
  refine ev_istore dd_E_takeOrder_47 (by decide) ?_
  refine ev_aload_n dd_E_takeOrder_49 rfl ?_
  refine K_new dd_E_takeOrder_50 kl_E_139 h1 hq (by omega) (fun hN => ?_)
  refine ev_dup dd_E_takeOrder_53 rfl ?_
  refine ev_ic (v := 5) dd_E_takeOrder_54 (by decide +kernel) ?_
  refine ev_iload_n dd_E_takeOrder_55 rfl ?_
  refine ev_iload dd_E_takeOrder_56 rfl ?_
  refine ev_aload_n dd_E_takeOrder_58 rfl ?_
  refine K_gM dd_E_takeOrder_59 fr_E_156 (hN.ms hx) (by decide) ?_
  refine ev_calli [.int 5, .int (Int32.ofNat l), .int (cs_Y_backFor C (2 * l + e) (cr_mk μ 3)).1, .int (cr_mk μ 3)] dd_E_takeOrder_62 ms_G_init ii_E_161 rfl (Nat.le_of_ble_eq_true rfl) (Nat.le_of_ble_eq_true rfl) (k_G_init hq 5 (Int32.ofNat l) (cs_Y_backFor C (2 * l + e) (cr_mk μ 3)).1 (cr_mk μ 3) h1) (fun v w2 hp _ _ => ?_) (fun x w3 hp _ _ => by obtain ⟨h1, -⟩ := hp; cases h1)
  obtain ⟨hv, h2⟩ := hp
  cases hv
  refine ev_callvV [_] dd_E_takeOrder_65 ms_E_say iv_E_164 (h2.al (κ := 9) he) (h2.tg (κ := 9) he) rfl (Nat.le_of_ble_eq_true rfl) (Nat.le_of_ble_eq_true rfl) (k_E_say hq J hn he (Or.inr ⟨rfl, rfl⟩) hb h2) (fun w3 h3' => ?_)
  have h3 := h3'.less (Q' := Q) (fun _ _ hx => Or.inl hx)
  have hm := h3.ms hx
  generalize cs_E_say C e (5, Int32.ofNat l, (cs_Y_backFor C (2 * l + e) (cr_mk μ 3)).1, cr_mk μ 3) = D at h3 ⊢
  unfold cs_E_ord2
  refine ev_aload_n dd_E_takeOrder_68 rfl ?_
  refine K_gP (κ := 9) (q := cr_o 16 e) dd_E_takeOrder_69 fr_E_19 h3 he rfl ?_
  refine ev_iload_n dd_E_takeOrder_72 rfl ?_
  refine K_aald (κ := 16) (j := l) (t := 6) (q := cr_o 2 (2 * l + e)) dd_E_takeOrder_73 h3 he rfl rfl hl (by decide) (if_pos hl) ?_
  refine ev_astore dd_E_takeOrder_74 (by decide) ?_
  refine ev_aload dd_E_takeOrder_76 rfl ?_
  refine K_gI (κ := 2) dd_E_takeOrder_78 fr_E_167 h3 hs rfl ?_
  refine ev_if_eq dd_E_takeOrder_81 (fun c => ?_) (fun c => ?_)
  · rw [if_pos c]
    refine ev_vret dd_E_takeOrder_113 rfl ?_
    exact ⟨rfl, h3⟩
  · rw [if_neg c]
    refine ev_aload dd_E_takeOrder_84 rfl ?_
    refine K_gI (κ := 2) dd_E_takeOrder_86 fr_E_170 h3 hs rfl ?_
    refine ev_if_ne dd_E_takeOrder_89 (fun c2 => ?_) (fun c2 => ?_)
    · rw [if_neg c2]
      refine ev_vret dd_E_takeOrder_113 rfl ?_
      exact ⟨rfl, h3⟩
    · rw [if_pos c2]
      refine ev_aload dd_E_takeOrder_92 rfl ?_
      refine K_gI (κ := 2) dd_E_takeOrder_94 fr_E_173 h3 hs rfl ?_
      refine ev_aload_n dd_E_takeOrder_97 rfl ?_
      refine K_gM dd_E_takeOrder_98 fr_E_156 hm (by decide) ?_
      refine ev_icmp_ne dd_E_takeOrder_101 (fun c3 => ?_) (fun c3 => ?_)
      · rw [if_neg c3]
        refine ev_vret dd_E_takeOrder_113 rfl ?_
        exact ⟨rfl, h3⟩
      · rw [if_pos c3]
        refine ev_aload dd_E_takeOrder_104 rfl ?_
        refine ev_aload_n dd_E_takeOrder_106 rfl ?_
        refine K_gM dd_E_takeOrder_107 fr_E_174 hm (by decide) ?_
        refine ev_callvV [_] dd_E_takeOrder_110 ms_C_settle iv_E_177 (h3.al (κ := 2) hs) (h3.tg (κ := 2) hs) rfl (Nat.le_of_ble_eq_true rfl) (Nat.le_of_ble_eq_true rfl) (k_C_settle hq hs _ h3) (fun w5 h5 => ?_)
        refine ev_vret dd_E_takeOrder_113 rfl ?_
        exact ⟨rfl, h5⟩
theorem k_E_takeOrder {e x l : Nat} {μ : cr_m} (hq : q0 < ev_b G) (J : ev_J G q0 mi) (hn : n + 1 ≤ 200000) (he : e < 2) (hl : l < 3) (hx : Q x μ) (hw : cr_mk μ 1 = Int32.ofNat l) (hb : cr_b C (2 * l + e)) (hb2 : ∀ k, k < 3 → ((cs_E_ord0 C e l μ).2.1 (6 + (2 * k + e))).length ≤ 8191) (h : cr_K G q0 w C n F Q) :
    ev_E G mm_E_takeOrder (d + 9) 0 (lv_args 0 [.ref (ev_b G + cr_o 9 e), .ref x]) [] w (cr_yv G q0 (n + 1) F Q (cs_E_takeOrder C e l μ)) := by
  have hs : 2 * l + e < 6 := by omega
  have hm := h.ms hx
  unfold cs_E_takeOrder
  refine ev_aload_n dd_E_takeOrder_0 rfl ?_
  refine K_gM dd_E_takeOrder_1 fr_E_153 hm (by decide) ?_
  rw [hw]
  refine ev_istore_n dd_E_takeOrder_4 (by decide) ?_
  refine ev_aload_n dd_E_takeOrder_5 rfl ?_
  refine K_gP (κ := 9) (q := cr_o 15 e) dd_E_takeOrder_6 fr_E_11 h he rfl ?_
  refine ev_iload_n dd_E_takeOrder_9 rfl ?_
  refine K_aald (κ := 15) (j := l) (t := 5) (q := cr_o 1 (2 * l + e)) dd_E_takeOrder_10 h he rfl rfl hl (by decide) (if_pos hl) ?_
  refine ev_astore_n dd_E_takeOrder_11 (by decide) ?_
  refine ev_aload_n dd_E_takeOrder_12 rfl ?_
  refine K_gI (κ := 1) dd_E_takeOrder_13 fr_E_46 h hs rfl ?_
  refine ev_ic (v := 4) dd_E_takeOrder_16 (by decide +kernel) ?_
  refine ev_icmp_ne dd_E_takeOrder_17 (fun c => ?_) (fun c => ?_)
  · have e0 : cs_E_ord0 C e l μ = C := by unfold cs_E_ord0; rw [if_neg c]
    rw [e0] at hb2 ⊢
    refine ev_loc4 (i0 := 0) (i1 := 1) (i2 := 2) (i3 := 3) rfl rfl rfl rfl ?_
    exact k_E_ord1 hq J hn he hl hx hb2 h
  · refine ev_aload_n dd_E_takeOrder_20 rfl ?_
    refine K_gI (κ := 1) dd_E_takeOrder_21 fr_E_61 h hs rfl ?_
    refine ev_aload_n dd_E_takeOrder_24 rfl ?_
    refine K_gM dd_E_takeOrder_25 fr_E_156 hm (by decide) ?_
    refine ev_icmp_ne dd_E_takeOrder_28 (fun c2 => ?_) (fun c2 => ?_)
    · have e0 : cs_E_ord0 C e l μ = C := by unfold cs_E_ord0; rw [if_pos c, if_neg c2]
      rw [e0] at hb2 ⊢
      refine ev_loc4 (i0 := 0) (i1 := 1) (i2 := 2) (i3 := 3) rfl rfl rfl rfl ?_
      exact k_E_ord1 hq J hn he hl hx hb2 h
    · have e0 : cs_E_ord0 C e l μ = cs_E_fall C e l := by unfold cs_E_ord0; rw [if_pos c, if_pos c2]
      rw [e0] at hb2 ⊢
      refine ev_aload_n dd_E_takeOrder_31 rfl ?_
      refine ev_iload_n dd_E_takeOrder_32 rfl ?_
      refine ev_callvV [_] dd_E_takeOrder_33 ms_E_fall iv_E_84 (h.al (κ := 9) he) (h.tg (κ := 9) he) rfl (Nat.le_of_ble_eq_true rfl) (Nat.le_of_ble_eq_true rfl) (k_E_fall (C := C) hq J (by omega) he hl hb h) (fun w4 h4 => ?_)
      refine ev_loc4 (i0 := 0) (i1 := 1) (i2 := 2) (i3 := 3) rfl rfl rfl rfl ?_
      exact k_E_ord1 hq J hn he hl hx hb2 h4
end CrL2
