/-! a changeover goes on -/
def cs_E_co3 (C : cr_C) (e l : Nat) : cr_C := if C.1 2 (2 * l + e) 2 = 0 then C else if (cs_E_someOpenBeside C e (Int32.ofNat l)).1 = 0 then C else cs_E_finish C e l
/-- given up -/
def cr_nb (C : cr_C) (s : Nat) : Nat := (C.1 2 s 7).toNatClampNeg
def cs_E_gu (C : cr_C) (e l : Nat) : cr_C := cr_sI (cs_C_giveUp C (2 * l + e) (cr_nb C (2 * l + e))).2 9 e 6 (C.1 9 e 6 + (cs_C_giveUp C (2 * l + e) (cr_nb C (2 * l + e))).1)
def cs_E_co2 (C : cr_C) (e l : Nat) (b : Int32) : cr_C := if C.1 2 (2 * l + e) 3 < 20 then C else if C.1 2 (2 * l + e) 2 = 0 then (if b = 0 then C else cs_E_gu C e l) else C
def cs_E_co1 (C : cr_C) (e l : Nat) (b : Int32) : cr_C := cs_E_co3 (cs_E_co2 (cr_sI C 2 (2 * l + e) 3 (C.1 2 (2 * l + e) 3 + 1)) e l b) e l
def cs_E_or (C : cr_C) (e l : Nat) : cr_C := cr_sI (cs_E_say C e (4, Int32.ofNat l, C.1 2 (2 * l + e) 6, C.1 2 (2 * l + e) 4)) 2 (2 * l + e) 1 1
def cs_E_co0 (C : cr_C) (e l : Nat) (b : Int32) : cr_C := if C.1 2 (2 * l + e) 2 = 0 then (if C.1 2 (2 * l + e) 1 = 0 then (if b = 0 then C else cs_E_or C e l) else C) else C
def cr_sm (C : cr_C) (e : Nat) : Int32 := if (cs_E_firstServing C e).1 = -1 then 0 else 1
def cs_E_changeOver (C : cr_C) (e l : Nat) : cr_C := if C.1 2 (2 * l + e) 0 = 0 then C else cs_E_co1 (cs_E_co0 C e l (cr_sm C e)) e l (cr_sm C e)
theorem cs_sob2 (C : cr_C) (e : Nat) (x : Int32) : (cs_E_someOpenBeside C e x).2 = C := by
  unfold cs_E_someOpenBeside
  simp only [cs_isOpen2]
  repeat' split
  all_goals rfl
section CrU2
variable {G : ev_gx} {M : ev_mx} {d pc pc' tgt : Nat} {L : List (Nat × Value)} {st : List Value} {w w1 : ev_wd} {P : ev_r → ev_wd → Prop} {q0 mi n n' : Nat} {C : cr_C} {F : ev_wd} {Q : Nat → cr_m → Prop}
theorem k_E_co3 {e l : Nat} {b : Int32} (hq : q0 < ev_b G) (J : ev_J G q0 mi) (hn : n ≤ 200000) (he : e < 2) (hl : l < 3) (hf : cr_fi C e l 8192) (h : cr_K G q0 w C n F Q) :
    ev_E G mm_E_changeOver (d + 10) 116 [(0, .ref (ev_b G + cr_o 9 e)), (1, .int (Int32.ofNat l)), (2, .ref (ev_b G + cr_o 2 (2 * l + e))), (3, .int b)] [] w (cr_yv G q0 n F Q (cs_E_co3 C e l)) := by
  have hs : 2 * l + e < 6 := by omega
  unfold cs_E_co3
  refine ev_aload_n dd_E_changeOver_116 rfl ?_
  refine K_gI (κ := 2) dd_E_changeOver_117 fr_E_170 h hs rfl ?_
  refine ev_if_eq dd_E_changeOver_120 (fun c => ?_) (fun c => ?_)
  · rw [if_pos c]
    refine ev_vret dd_E_changeOver_136 rfl ?_
    exact ⟨rfl, h⟩
  · rw [if_neg c]
    refine ev_aload_n dd_E_changeOver_123 rfl ?_
    refine ev_iload_n dd_E_changeOver_124 rfl ?_
    refine ev_callvN [_] dd_E_changeOver_125 ms_E_someOpenBeside iv_E_214 (h.al (κ := 9) he) (h.tg (κ := 9) he) rfl (Nat.le_of_ble_eq_true rfl) (Nat.le_of_ble_eq_true rfl) (k_E_someOpenBeside hq he _ h) (fun w1 h1 => ?_)
    rw [cs_sob2] at h1
    refine ev_if_eq dd_E_changeOver_128 (fun c2 => ?_) (fun c2 => ?_)
    · rw [if_pos c2]
      refine ev_vret dd_E_changeOver_136 rfl ?_
      exact ⟨rfl, h1⟩
    · rw [if_neg c2]
      refine ev_aload_n dd_E_changeOver_131 rfl ?_
      refine ev_iload_n dd_E_changeOver_132 rfl ?_
      refine ev_callvV [_] dd_E_changeOver_133 ms_E_finish iv_E_217 (h1.al (κ := 9) he) (h1.tg (κ := 9) he) rfl (Nat.le_of_ble_eq_true rfl) (Nat.le_of_ble_eq_true rfl) (k_E_finish hq J hn he hl hf h1) (fun w2 h2 => ?_)
      refine ev_vret dd_E_changeOver_136 rfl ?_
      exact ⟨rfl, h2⟩
theorem cr_fi_gu {e l b : Nat} (he : e < 2) (hl : l < 3) (hf : cr_fi C e l b) : cr_fi (cs_E_gu C e l) e l b := by
  obtain ⟨f1, f2, f3, f4⟩ := hf
  have e1 : (cs_E_gu C e l).2.1 (12 + (2 * l + e)) = (C.2.1 (12 + (2 * l + e))).drop (cr_nb C (2 * l + e)) := by
    unfold cs_E_gu cs_C_giveUp
    simp [cr_sI, cr_sX]
  have e2 : ∀ q, q ≠ 12 + (2 * l + e) → (cs_E_gu C e l).2.1 q = C.2.1 q := fun q hq1 => by
    unfold cs_E_gu cs_C_giveUp
    simp [cr_sI, cr_sX, hq1]
  refine ⟨cr_L_of f1 (fun k => by simp [cs_E_gu, cs_C_giveUp, cr_sI, cr_sX, cr_u]), fun μ hμ => ?_, fun μ hμ => ?_, fun k hk => ?_⟩
  · rw [e1] at hμ
    exact f2 μ (List.mem_of_mem_drop hμ)
  · rw [e2 _ (by omega)] at hμ
    exact f3 μ hμ
  · rw [e1, e2 _ (by omega), e2 _ (by omega), List.length_drop]
    have := f4 k hk
    omega
theorem cr_fi_co2 {e l b : Nat} (he : e < 2) (hl : l < 3) (x : Int32) (hf : cr_fi C e l b) : cr_fi (cs_E_co2 C e l x) e l b := by
  unfold cs_E_co2
  repeat' split
  all_goals first | exact hf | exact cr_fi_gu he hl hf
theorem k_E_co1 {e l u : Nat} {b : Int32} (hq : q0 < ev_b G) (J : ev_J G q0 mi) (hn : n ≤ 200000) (he : e < 2) (hl : l < 3) (hu : C.1 2 (2 * l + e) 7 = Int32.ofNat u) (hu2 : u < 2 ^ 30) (hf : cr_fi C e l 8192) (h : cr_K G q0 w C n F Q) :
    ev_E G mm_E_changeOver (d + 10) 73 [(0, .ref (ev_b G + cr_o 9 e)), (1, .int (Int32.ofNat l)), (2, .ref (ev_b G + cr_o 2 (2 * l + e))), (3, .int b)] [] w (cr_yv G q0 n F Q (cs_E_co1 C e l b)) := by
  have hs : 2 * l + e < 6 := by omega
  have hf1 : cr_fi (cr_sI C 2 (2 * l + e) 3 (C.1 2 (2 * l + e) 3 + 1)) e l 8192 := ⟨cr_L_of hf.1 (fun k => by simp [cr_sI, cr_u]), hf.2⟩
  have hf2 := cr_fi_co2 he hl b hf1
  have hu1 : (cr_sI C 2 (2 * l + e) 3 (C.1 2 (2 * l + e) 3 + 1)).1 2 (2 * l + e) 7 = Int32.ofNat u := by
    rw [← hu]
    simp [cr_sI, cr_u]
  unfold cs_E_co1
  refine ev_aload_n dd_E_changeOver_73 rfl ?_
  refine ev_dup dd_E_changeOver_74 rfl ?_
  refine K_gI (κ := 2) dd_E_changeOver_75 fr_E_208 h hs rfl ?_
  refine ev_ic (v := 1) dd_E_changeOver_78 (by decide +kernel) ?_
  refine ev_iadd dd_E_changeOver_79 ?_
  refine K_pI (κ := 2) dd_E_changeOver_80 fk_E_208 h hq hs rfl rfl rfl (fun w1 h1 => ?_)
  generalize cr_sI C 2 (2 * l + e) 3 (C.1 2 (2 * l + e) 3 + 1) = D at *
  unfold cs_E_co2 at hf2 ⊢
  refine ev_aload_n dd_E_changeOver_83 rfl ?_
  refine K_gI (κ := 2) dd_E_changeOver_84 fr_E_208 h1 hs rfl ?_
  refine ev_bp (v := 20) dd_E_changeOver_87 (by decide +kernel) ?_
  refine ev_icmp_lt dd_E_changeOver_89 (fun c => ?_) (fun c => ?_)
  · rw [if_pos c] at hf2 ⊢
    exact k_E_co3 hq J hn he hl hf2 h1
  · rw [if_neg c] at hf2 ⊢
    refine ev_aload_n dd_E_changeOver_92 rfl ?_
    refine K_gI (κ := 2) dd_E_changeOver_93 fr_E_170 h1 hs rfl ?_
    refine ev_if_ne dd_E_changeOver_96 (fun c2 => ?_) (fun c2 => ?_)
    · rw [if_neg c2] at hf2 ⊢
      exact k_E_co3 hq J hn he hl hf2 h1
    · rw [if_pos c2] at hf2 ⊢
      refine ev_iload_n dd_E_changeOver_99 rfl ?_
      refine ev_if_eq dd_E_changeOver_100 (fun c3 => ?_) (fun c3 => ?_)
      · rw [if_pos c3] at hf2 ⊢
        exact k_E_co3 hq J hn he hl hf2 h1
      · rw [if_neg c3] at hf2 ⊢
        have enb : cr_nb D (2 * l + e) = u := by
          unfold cr_nb
          rw [hu1]
          exact ev_cl u (by omega)
        refine ev_aload_n dd_E_changeOver_103 rfl ?_
        refine ev_dup dd_E_changeOver_104 rfl ?_
        refine K_gI (κ := 9) dd_E_changeOver_105 fr_E_42 h1 he rfl ?_
        refine ev_aload_n dd_E_changeOver_108 rfl ?_
        refine ev_callvN [] dd_E_changeOver_109 ms_C_giveUp iv_E_211 (h1.al (κ := 2) hs) (h1.tg (κ := 2) hs) rfl (Nat.le_of_ble_eq_true rfl) (Nat.le_of_ble_eq_true rfl) (k_C_giveUp hq hs hu1 hu2 h1) (fun w2 h2 => ?_)
        refine ev_iadd dd_E_changeOver_112 ?_
        refine K_pI (κ := 9) dd_E_changeOver_113 fk_E_42 h2 hq he rfl rfl rfl (fun w3 h3 => ?_)
        rw [← enb] at h3
        exact k_E_co3 hq J hn he hl hf2 h3
theorem k_E_co0 {e l u : Nat} {b : Int32} (hq : q0 < ev_b G) (J : ev_J G q0 mi) (hn : n + 1 ≤ 200000) (he : e < 2) (hl : l < 3) (hu : C.1 2 (2 * l + e) 7 = Int32.ofNat u) (hu2 : u < 2 ^ 30) (hf : cr_fi C e l 8191) (h : cr_K G q0 w C n F Q) :
    ev_E G mm_E_changeOver (d + 10) 29 [(0, .ref (ev_b G + cr_o 9 e)), (1, .int (Int32.ofNat l)), (2, .ref (ev_b G + cr_o 2 (2 * l + e))), (3, .int b)] [] w (cr_yv G q0 (n + 1) F Q (cs_E_co1 (cs_E_co0 C e l b) e l b)) := by
  have hs : 2 * l + e < 6 := by omega
  have hf0 : cr_fi C e l 8192 := ⟨hf.1, hf.2.1, hf.2.2.1, fun k hk => Nat.le_succ_of_le (hf.2.2.2 k hk)⟩
  unfold cs_E_co0
  refine ev_aload_n dd_E_changeOver_29 rfl ?_
  refine K_gI (κ := 2) dd_E_changeOver_30 fr_E_170 h hs rfl ?_
  refine ev_if_ne dd_E_changeOver_33 (fun c => ?_) (fun c => ?_)
  · rw [if_neg c]
    exact k_E_co1 hq J hn he hl hu hu2 hf0 (h.more (Nat.le_succ n))
  · rw [if_pos c]
    refine ev_aload_n dd_E_changeOver_36 rfl ?_
    refine K_gI (κ := 2) dd_E_changeOver_37 fr_E_204 h hs rfl ?_
    refine ev_if_ne dd_E_changeOver_40 (fun c2 => ?_) (fun c2 => ?_)
    · rw [if_neg c2]
      exact k_E_co1 hq J hn he hl hu hu2 hf0 (h.more (Nat.le_succ n))
    · rw [if_pos c2]
      refine ev_iload_n dd_E_changeOver_43 rfl ?_
      refine ev_if_eq dd_E_changeOver_44 (fun c3 => ?_) (fun c3 => ?_)
      · rw [if_pos c3]
        exact k_E_co1 hq J hn he hl hu hu2 hf0 (h.more (Nat.le_succ n))
      · rw [if_neg c3]
        refine ev_aload_n dd_E_changeOver_47 rfl ?_
        refine K_new dd_E_changeOver_48 kl_E_139 h hq (by omega) (fun hN => ?_)
        refine ev_dup dd_E_changeOver_51 rfl ?_
        refine ev_ic (v := 4) dd_E_changeOver_52 (by decide +kernel) ?_
        refine ev_iload_n dd_E_changeOver_53 rfl ?_
        refine ev_aload_n dd_E_changeOver_54 rfl ?_
        refine K_gI (κ := 2) dd_E_changeOver_55 fr_E_207 hN hs rfl ?_
        refine ev_aload_n dd_E_changeOver_58 rfl ?_
        refine K_gI (κ := 2) dd_E_changeOver_59 fr_E_180 hN hs rfl ?_
        refine ev_calli [.int 4, .int (Int32.ofNat l), .int (C.1 2 (2 * l + e) 6), .int (C.1 2 (2 * l + e) 4)] dd_E_changeOver_62 ms_G_init ii_E_161 rfl (Nat.le_of_ble_eq_true rfl) (Nat.le_of_ble_eq_true rfl) (k_G_init hq 4 (Int32.ofNat l) (C.1 2 (2 * l + e) 6) (C.1 2 (2 * l + e) 4) h) (fun v w2 hp _ _ => ?_) (fun x w3 hp _ _ => by obtain ⟨h1, -⟩ := hp; cases h1)
        obtain ⟨hv, h2⟩ := hp
        cases hv
        refine ev_callvV [_] dd_E_changeOver_65 ms_E_say iv_E_164 (h2.al (κ := 9) he) (h2.tg (κ := 9) he) rfl (Nat.le_of_ble_eq_true rfl) (Nat.le_of_ble_eq_true rfl) (k_E_say hq J hn he (Or.inr ⟨rfl, rfl⟩) (fun k hk => by have := hf.2.2.2 k hk; omega) h2) (fun w3 h3' => ?_)
        have h3 := h3'.less (Q' := Q) (fun _ _ hx => Or.inl hx)
        refine ev_aload_n dd_E_changeOver_68 rfl ?_
        refine ev_ic (v := 1) dd_E_changeOver_69 (by decide +kernel) ?_
        refine K_pI (κ := 2) dd_E_changeOver_70 fk_E_204 h3 hq hs rfl rfl rfl (fun w4 h4' => ?_)
        have h4 : cr_K G q0 w4 (cs_E_or C e l) (n + 1) F Q := h4'
        refine k_E_co1 hq J hn he hl (u := u) ?_ hu2 ⟨cr_L_of hf.1 (fun k => ?_), ?_, ?_, fun k hk => ?_⟩ h4
        · rw [← hu, ← cs_say_I C e (4, Int32.ofNat l, C.1 2 (2 * l + e) 6, C.1 2 (2 * l + e) 4)]
          simp [cs_E_or, cr_sI, cr_u]
        · rw [← cs_say_I C e (4, Int32.ofNat l, C.1 2 (2 * l + e) 6, C.1 2 (2 * l + e) 4)]
          simp [cs_E_or, cr_sI, cr_u]
        · show ∀ μ ∈ (cs_E_say C e (4, Int32.ofNat l, C.1 2 (2 * l + e) 6, C.1 2 (2 * l + e) 4)).2.1 (12 + (2 * l + e)), cr_mo μ
          rw [cs_say_ne _ _ he (by omega)]
          exact hf.2.1
        · show ∀ μ ∈ (cs_E_say C e (4, Int32.ofNat l, C.1 2 (2 * l + e) 6, C.1 2 (2 * l + e) 4)).2.1 (18 + e), cr_mc μ
          rw [cs_say_ne _ _ he (by omega)]
          exact hf.2.2.1
        · show ((cs_E_say C e (4, Int32.ofNat l, C.1 2 (2 * l + e) 6, C.1 2 (2 * l + e) 4)).2.1 (6 + (2 * k + e))).length + ((cs_E_say C e (4, Int32.ofNat l, C.1 2 (2 * l + e) 6, C.1 2 (2 * l + e) 4)).2.1 (12 + (2 * l + e))).length + ((cs_E_say C e (4, Int32.ofNat l, C.1 2 (2 * l + e) 6, C.1 2 (2 * l + e) 4)).2.1 (18 + e)).length ≤ 8192
          rw [cs_say_ne _ _ he (show 12 + (2 * l + e) < 6 ∨ 12 ≤ 12 + (2 * l + e) by omega), cs_say_ne _ _ he (show 18 + e < 6 ∨ 12 ≤ 18 + e by omega)]
          have h6 := cs_say_len C e (6 + (2 * k + e)) (4, Int32.ofNat l, C.1 2 (2 * l + e) 6, C.1 2 (2 * l + e) 4)
          have := hf.2.2.2 k hk
          omega
theorem k_E_changeOver {e l u : Nat} (hq : q0 < ev_b G) (J : ev_J G q0 mi) (hn : n + 1 ≤ 200000) (he : e < 2) (hl : l < 3) (hu : C.1 2 (2 * l + e) 7 = Int32.ofNat u) (hu2 : u < 2 ^ 30) (hf : cr_fi C e l 8191) (h : cr_K G q0 w C n F Q) :
    ev_E G mm_E_changeOver (d + 10) 0 (lv_args 0 [.ref (ev_b G + cr_o 9 e), .int (Int32.ofNat l)]) [] w (cr_yv G q0 (n + 1) F Q (cs_E_changeOver C e l)) := by
  have hs : 2 * l + e < 6 := by omega
  unfold cs_E_changeOver
  refine ev_aload_n dd_E_changeOver_0 rfl ?_
  refine K_gP (κ := 9) (q := cr_o 16 e) dd_E_changeOver_1 fr_E_19 h he rfl ?_
  refine ev_iload_n dd_E_changeOver_4 rfl ?_
  refine K_aald (κ := 16) (j := l) (t := 6) (q := cr_o 2 (2 * l + e)) dd_E_changeOver_5 h he rfl rfl hl (by decide) (if_pos hl) ?_
  refine ev_astore_n dd_E_changeOver_6 (by decide) ?_
  refine ev_aload_n dd_E_changeOver_7 rfl ?_
  refine K_gI (κ := 2) dd_E_changeOver_8 fr_E_167 h hs rfl ?_
  refine ev_if_ne dd_E_changeOver_11 (fun c => ?_) (fun c => ?_)
  · rw [if_neg c]
    refine ev_aload_n dd_E_changeOver_15 rfl ?_
    refine ev_callvN [] dd_E_changeOver_16 ms_E_firstServing iv_E_181 (h.al (κ := 9) he) (h.tg (κ := 9) he) rfl (Nat.le_of_ble_eq_true rfl) (Nat.le_of_ble_eq_true rfl) (k_E_firstServing hq he h) (fun w1 h1 => ?_)
    rw [cs_first2] at h1
    refine ev_ic (v := (-1)) dd_E_changeOver_19 (by decide +kernel) ?_
    refine ev_icmp_eq dd_E_changeOver_20 (fun c2 => ?_) (fun c2 => ?_)
    · have e1 : cr_sm C e = 0 := if_pos c2
      rw [e1]
      refine ev_ic (v := 0) dd_E_changeOver_27 (by decide +kernel) ?_
      refine ev_istore_n dd_E_changeOver_28 (by decide) ?_
      refine ev_loc4 (i0 := 0) (i1 := 1) (i2 := 2) (i3 := 3) rfl rfl rfl rfl ?_
      exact k_E_co0 hq J hn he hl hu hu2 hf h1
    · have e1 : cr_sm C e = 1 := if_neg c2
      rw [e1]
      refine ev_ic (v := 1) dd_E_changeOver_23 (by decide +kernel) ?_
      refine ev_goto dd_E_changeOver_24 ?_
      refine ev_istore_n dd_E_changeOver_28 (by decide) ?_
      refine ev_loc4 (i0 := 0) (i1 := 1) (i2 := 2) (i3 := 3) rfl rfl rfl rfl ?_
      exact k_E_co0 hq J hn he hl hu hu2 hf h1
  · rw [if_pos c]
    refine ev_vret dd_E_changeOver_14 rfl ?_
    exact ⟨rfl, h.more (Nat.le_succ n)⟩
end CrU2
