/-! a numbered unit comes -/
theorem cs_comeTo0 (C : cr_C) (s : Nat) (x : Int32) : (cs_S_comeTo C s x).1 1 s 0 = x := by simp [cs_S_comeTo, cr_sI, cr_u]
theorem cs_good_X (C : cr_C) (s : Nat) : (cs_S_countGood C s).2.1 = C.2.1 := by
  unfold cs_S_countGood
  repeat' split
  all_goals rfl
theorem cs_answered_X (C : cr_C) (s : Nat) (x : Int32) (r : Nat) : ((cs_S_answered C s x).2.2.1 r).length ≤ (C.2.1 r).length := by
  have hd : ∀ k, ((cr_sX C s ((C.2.1 s).drop k)).2.1 r).length ≤ (C.2.1 r).length := by
    intro k
    by_cases e : r = s
    · simp only [cr_sX, if_pos e, List.length_drop]
      rw [e]
      omega
    · simp only [cr_sX, if_neg e]
      exact Nat.le_refl _
  unfold cs_S_answered
  split
  · split <;> exact hd _
  · exact Nat.le_refl _
def cs_E_numA (C : cr_C) (e l t : Nat) : Int32 × cr_C := cs_S_answered (cs_S_countGood C (2 * l + e)) (2 * l + e) ((cs_S_countGood C (2 * l + e)).1 3 t 4)
def cs_E_odd (C : cr_C) (s : Nat) : cr_C := cr_sI C 1 s 13 (C.1 1 s 13 + 1)
def cs_E_numF (C : cr_C) (e l : Nat) : cr_C := if (cs_E_odd C (2 * l + e)).1 1 (2 * l + e) 13 < 2 then cs_E_odd C (2 * l + e) else cs_E_fall (cs_E_odd C (2 * l + e)) e l
def cs_E_numG (C : cr_C) (e l t : Nat) : cr_C := cs_S_followBackBit (cr_sI C 1 (2 * l + e) 13 0) (2 * l + e) ((cr_sI C 1 (2 * l + e) 13 0).1 3 t 5)
def cs_E_num1 (C : cr_C) (e l t : Nat) : cr_C := if (cs_E_numA C e l t).1 = 0 then cs_E_numF (cs_E_numA C e l t).2 e l else cs_E_numT (cs_E_numG (cs_E_numA C e l t).2 e l t) e l t
def cs_E_numberedComes (C : cr_C) (e l t : Nat) : cr_C := if C.1 1 (2 * l + e) 0 = 3 then cs_E_num1 (cs_S_comeTo C (2 * l + e) 4) e l t else if C.1 1 (2 * l + e) 0 = 4 then cs_E_num1 C e l t else C
/-- what has to be so of the message of a numbered unit -/
def cr_nu (C : cr_C) (e l t : Nat) : Prop := ∀ μ, (cs_S_nextIn (cs_E_numG (cs_E_numA C e l t).2 e l t) (2 * l + e) t).1 = some μ → cr_ti (cs_S_nextIn (cs_E_numG (cs_E_numA C e l t).2 e l t) (2 * l + e) t).2 e (cr_wl μ) μ
section CrP2
variable {G : ev_gx} {M : ev_mx} {d pc pc' tgt : Nat} {L : List (Nat × Value)} {st : List Value} {w w1 : ev_wd} {P : ev_r → ev_wd → Prop} {q0 mi n n' : Nat} {C : cr_C} {F : ev_wd} {Q : Nat → cr_m → Prop}
theorem k_E_num1 {e l t : Nat} (hq : q0 < ev_b G) (J : ev_J G q0 mi) (hn : n + 1 ≤ 200000) (he : e < 2) (hl : l < 3) (ht : t < 6) (hb : cr_b C (2 * l + e)) (hti : cr_nu C e l t) (h : cr_K G q0 w C n F Q) :
    ev_E G mm_E_numberedComes (d + 11) 29 [(0, .ref (ev_b G + cr_o 9 e)), (1, .int (Int32.ofNat l)), (2, .ref (ev_b G + cr_o 3 t)), (3, .ref (ev_b G + cr_o 1 (2 * l + e)))] [] w (cr_yv G q0 (n + 1) F Q (cs_E_num1 C e l t)) := by
  have hs : 2 * l + e < 6 := by omega
  unfold cs_E_num1
  refine ev_aload_n dd_E_numberedComes_29 rfl ?_
  refine ev_callvV [] dd_E_numberedComes_30 ms_S_countGood iv_E_113 (h.al (κ := 1) hs) (h.tg (κ := 1) hs) rfl (Nat.le_of_ble_eq_true rfl) (Nat.le_of_ble_eq_true rfl) (k_S_countGood hq hs h) (fun w1 h1 => ?_)
  refine ev_aload_n dd_E_numberedComes_33 rfl ?_
  refine ev_aload_n dd_E_numberedComes_34 rfl ?_
  refine K_gI (κ := 3) dd_E_numberedComes_35 fr_E_116 h1 ht rfl ?_
  refine ev_callvN [_] dd_E_numberedComes_38 ms_S_answered iv_E_117 (h1.al (κ := 1) hs) (h1.tg (κ := 1) hs) rfl (Nat.le_of_ble_eq_true rfl) (Nat.le_of_ble_eq_true rfl) (k_S_answered hq hs _ h1) (fun w2 h2' => ?_)
  have h2 : cr_K G q0 w2 (cs_E_numA C e l t).2 n F Q := h2'
  refine ev_if_ne dd_E_numberedComes_41 (fun c => ?_) (fun c => ?_)
  · rw [if_neg (show ¬ (cs_E_numA C e l t).1 = 0 from c)]
    refine ev_aload_n dd_E_numberedComes_68 rfl ?_
    refine ev_ic (v := 0) dd_E_numberedComes_69 (by decide +kernel) ?_
    refine K_pI (κ := 1) dd_E_numberedComes_70 fk_E_121 h2 hq hs rfl rfl rfl (fun w3 h3 => ?_)
    refine ev_aload_n dd_E_numberedComes_73 rfl ?_
    refine ev_aload_n dd_E_numberedComes_74 rfl ?_
    refine K_gI (κ := 3) dd_E_numberedComes_75 fr_E_124 h3 ht rfl ?_
    refine ev_callvV [_] dd_E_numberedComes_78 ms_S_followBackBit iv_E_127 (h3.al (κ := 1) hs) (h3.tg (κ := 1) hs) rfl (Nat.le_of_ble_eq_true rfl) (Nat.le_of_ble_eq_true rfl) (k_S_followBackBit hq hs _ h3) (fun w4 h4 => ?_)
    exact k_E_numT hq J hn he hl ht hti h4
  · rw [if_pos (show (cs_E_numA C e l t).1 = 0 from c)]
    have hb2 : cr_b (cs_E_odd (cs_E_numA C e l t).2 (2 * l + e)) (2 * l + e) := by
      unfold cr_b at hb ⊢
      have e1 : ∀ r, (((cs_E_odd (cs_E_numA C e l t).2 (2 * l + e))).2.1 r).length ≤ (C.2.1 r).length := fun r => by
        have := cs_answered_X (cs_S_countGood C (2 * l + e)) (2 * l + e) ((cs_S_countGood C (2 * l + e)).1 3 t 4) r
        rw [cs_good_X] at this
        exact this
      have a1 := e1 (12 + (2 * l + e))
      have a2 := e1 (2 * l + e)
      have a3 := e1 (6 + (2 * l + e))
      omega
    unfold cs_E_numF
    refine ev_aload_n dd_E_numberedComes_44 rfl ?_
    refine ev_dup dd_E_numberedComes_45 rfl ?_
    refine K_gI (κ := 1) dd_E_numberedComes_46 fr_E_121 h2 hs rfl ?_
    refine ev_ic (v := 1) dd_E_numberedComes_49 (by decide +kernel) ?_
    refine ev_iadd dd_E_numberedComes_50 ?_
    refine K_pI (κ := 1) dd_E_numberedComes_51 fk_E_121 h2 hq hs rfl rfl rfl (fun w3 h3' => ?_)
    have h3 : cr_K G q0 w3 (cs_E_odd (cs_E_numA C e l t).2 (2 * l + e)) n F Q := h3'
    refine ev_aload_n dd_E_numberedComes_54 rfl ?_
    refine K_gI (κ := 1) dd_E_numberedComes_55 fr_E_121 h3 hs rfl ?_
    refine ev_ic (v := 2) dd_E_numberedComes_58 (by decide +kernel) ?_
    refine ev_icmp_lt dd_E_numberedComes_59 (fun c2 => ?_) (fun c2 => ?_)
    · rw [if_pos c2]
      refine ev_vret dd_E_numberedComes_67 rfl ?_
      exact ⟨rfl, h3.more (Nat.le_succ n)⟩
    · rw [if_neg c2]
      refine ev_aload_n dd_E_numberedComes_62 rfl ?_
      refine ev_iload_n dd_E_numberedComes_63 rfl ?_
      refine ev_callvV [_] dd_E_numberedComes_64 ms_E_fall iv_E_84 (h3.al (κ := 9) he) (h3.tg (κ := 9) he) rfl (Nat.le_of_ble_eq_true rfl) (Nat.le_of_ble_eq_true rfl) (k_E_fall (C := cs_E_odd (cs_E_numA C e l t).2 (2 * l + e)) hq J (by omega) he hl hb2 h3) (fun w4 h4 => ?_)
      refine ev_vret dd_E_numberedComes_67 rfl ?_
      exact ⟨rfl, h4.more (Nat.le_succ n)⟩
theorem k_E_numberedComes {e l t : Nat} (hq : q0 < ev_b G) (J : ev_J G q0 mi) (hn : n + 1 ≤ 200000) (he : e < 2) (hl : l < 3) (ht : t < 6) (hb : cr_b C (2 * l + e)) (hti : cr_nu C e l t) (hti4 : cr_nu (cs_S_comeTo C (2 * l + e) 4) e l t) (h : cr_K G q0 w C n F Q) :
    ev_E G mm_E_numberedComes (d + 11) 0 (lv_args 0 [.ref (ev_b G + cr_o 9 e), .int (Int32.ofNat l), .ref (ev_b G + cr_o 3 t)]) [] w (cr_yv G q0 (n + 1) F Q (cs_E_numberedComes C e l t)) := by
  have hs : 2 * l + e < 6 := by omega
  unfold cs_E_numberedComes
  refine ev_aload_n dd_E_numberedComes_0 rfl ?_
  refine K_gP (κ := 9) (q := cr_o 15 e) dd_E_numberedComes_1 fr_E_11 h he rfl ?_
  refine ev_iload_n dd_E_numberedComes_4 rfl ?_
  refine K_aald (κ := 15) (j := l) (t := 5) (q := cr_o 1 (2 * l + e)) dd_E_numberedComes_5 h he rfl rfl hl (by decide) (if_pos hl) ?_
  refine ev_astore_n dd_E_numberedComes_6 (by decide) ?_
  refine ev_aload_n dd_E_numberedComes_7 rfl ?_
  refine K_gI (κ := 1) dd_E_numberedComes_8 fr_E_46 h hs rfl ?_
  refine ev_ic (v := 3) dd_E_numberedComes_11 (by decide +kernel) ?_
  refine ev_icmp_ne dd_E_numberedComes_12 (fun c => ?_) (fun c => ?_)
  · rw [if_neg c]
    refine ev_aload_n dd_E_numberedComes_20 rfl ?_
    refine K_gI (κ := 1) dd_E_numberedComes_21 fr_E_46 h hs rfl ?_
    refine ev_ic (v := 4) dd_E_numberedComes_24 (by decide +kernel) ?_
    refine ev_icmp_eq dd_E_numberedComes_25 (fun c2 => ?_) (fun c2 => ?_)
    · rw [if_pos c2]
      refine ev_loc4 (i0 := 0) (i1 := 1) (i2 := 2) (i3 := 3) rfl rfl rfl rfl ?_
      exact k_E_num1 hq J hn he hl ht hb hti h
    · rw [if_neg c2]
      refine ev_vret dd_E_numberedComes_28 rfl ?_
      exact ⟨rfl, h.more (Nat.le_succ n)⟩
  · rw [if_pos c]
    refine ev_aload_n dd_E_numberedComes_15 rfl ?_
    refine ev_ic (v := 4) dd_E_numberedComes_16 (by decide +kernel) ?_
    refine ev_callvV [_] dd_E_numberedComes_17 ms_S_comeTo iv_E_49 (h.al (κ := 1) hs) (h.tg (κ := 1) hs) rfl (Nat.le_of_ble_eq_true rfl) (Nat.le_of_ble_eq_true rfl) (k_S_comeTo hq hs _ h) (fun w1 h1 => ?_)
    refine ev_aload_n dd_E_numberedComes_20 rfl ?_
    refine K_gI (κ := 1) dd_E_numberedComes_21 fr_E_46 h1 hs rfl ?_
    rw [cs_comeTo0]
    refine ev_ic (v := 4) dd_E_numberedComes_24 (by decide +kernel) ?_
    refine ev_icmp_eq dd_E_numberedComes_25 (fun _ => ?_) (fun c2 => absurd rfl c2)
    refine ev_loc4 (i0 := 0) (i1 := 1) (i2 := 2) (i3 := 3) rfl rfl rfl rfl ?_
    exact k_E_num1 hq J hn he hl ht hb hti4 h1
end CrP2
