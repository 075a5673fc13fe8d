/-! an end says a message -/
section CrG
variable {G : ev_gx} {M : ev_mx} {d pc pc' tgt : Nat} {L : List (Nat × Value)} {st : List Value} {w w1 : ev_wd} {P : ev_r → ev_wd → Prop} {q0 mi n n' : Nat} {C : cr_C} {F : ev_wd} {Q : Nat → cr_m → Prop}
def cs_put (C : cr_C) (r : Nat) (μ : cr_m) : cr_C := cr_sX C r (C.2.1 r ++ [μ])
def cs_E_say (C : cr_C) (e : Nat) (μ : cr_m) : cr_C := if (cs_E_firstServing C e).1 = 0 then cs_put C (6 + (2 * 0 + e)) μ else if (cs_E_firstServing C e).1 = 1 then cs_put C (6 + (2 * 1 + e)) μ else if (cs_E_firstServing C e).1 = 2 then cs_put C (6 + (2 * 2 + e)) μ else C
theorem k_E_sayT {e x l : Nat} {μ : cr_m} (hq : q0 < ev_b G) (J : ev_J G q0 mi) (hn : n ≤ 200000) (he : e < 2) (hl : l < 3) (hx : Q x μ) (hb : (C.2.1 (6 + (2 * l + e))).length ≤ 8191) (h : cr_K G q0 w C n F Q) : ev_E G mm_E_say (d + 7) 10 [(0, .ref (ev_b G + cr_o 9 e)), (1, .ref x), (2, .int (Int32.ofNat l))] [] w (cr_yv G q0 n F Q (cs_put C (6 + (2 * l + e)) μ)) := by
  have hs : 2 * l + e < 6 := by omega
  have hr : 6 + (2 * l + e) < 22 := by omega
  refine ev_aload_n dd_E_say_10 rfl ?_
  refine K_gP (κ := 9) (q := cr_o 15 e) dd_E_say_11 fr_E_11 h he rfl ?_
  refine ev_iload_n dd_E_say_14 rfl ?_
  refine K_aald (κ := 15) (j := l) (t := 5) (q := cr_o 1 (2 * l + e)) dd_E_say_15 h he rfl rfl hl (by decide) (if_pos hl) ?_
  refine K_gP (κ := 1) (q := cr_o 11 (6 + (2 * l + e))) dd_E_say_16 fr_E_185 h hs rfl ?_
  refine ev_aload_n dd_E_say_19 rfl ?_
  refine ev_callv [.ref x] dd_E_say_20 ms_AL_add1 iv_E_149 (h.al (κ := 11) hr) (h.tg (κ := 11) hr) rfl (Nat.le_of_ble_eq_true rfl) (Nat.le_of_ble_eq_true rfl) (K_add J h hr hb hn (h.ms hx)) (fun v w5 hp _ _ => ?_) (fun x w3 hp _ _ => by obtain ⟨h1, -⟩ := hp; cases h1)
  obtain ⟨h1, h5⟩ := hp
  cases h1
  refine ev_pop dd_E_say_23 rfl ?_
  refine ev_vret dd_E_say_24 rfl ?_
  exact ⟨rfl, h5⟩
theorem k_E_say {e x : Nat} {μ : cr_m} (hq : q0 < ev_b G) (J : ev_J G q0 mi) (hn : n ≤ 200000) (he : e < 2) (hx : Q x μ) (hb : ∀ l, l < 3 → (C.2.1 (6 + (2 * l + e))).length ≤ 8191) (h : cr_K G q0 w C n F Q) : ev_E G mm_E_say (d + 7) 0 (lv_args 0 [.ref (ev_b G + cr_o 9 e), .ref x]) [] w (cr_yv G q0 n F Q (cs_E_say C e μ)) := by
  unfold cs_E_say
  refine ev_aload_n dd_E_say_0 rfl ?_
  refine ev_callvN [] dd_E_say_1 ms_E_firstServing iv_E_181 (h.al (κ := 9) he) (h.tg (κ := 9) he) rfl (Nat.le_of_ble_eq_true rfl) (Nat.le_of_ble_eq_true rfl) (k_E_firstServing hq he h) (fun w1 h1 => ?_)
  rw [cs_first2] at h1
  rcases cs_first1 C e with e1 | e1 | e1 | e1
  · rw [e1, if_pos rfl]
    refine ev_istore_n dd_E_say_4 (by decide) ?_
    refine ev_iload_n dd_E_say_5 rfl ?_
    refine ev_ic (v := (-1)) dd_E_say_6 (by decide +kernel) ?_
    refine ev_icmp_eq dd_E_say_7 (fun hc => absurd hc (by decide)) (fun _ => ?_)
    refine ev_loc3 (i0 := 0) (i1 := 1) (i2 := 2) rfl rfl (v2 := .int (Int32.ofNat 0)) rfl ?_
    exact k_E_sayT hq J hn he (by decide) hx (hb 0 (by decide)) h1
  · rw [e1, if_neg (by decide), if_pos rfl]
    refine ev_istore_n dd_E_say_4 (by decide) ?_
    refine ev_iload_n dd_E_say_5 rfl ?_
    refine ev_ic (v := (-1)) dd_E_say_6 (by decide +kernel) ?_
    refine ev_icmp_eq dd_E_say_7 (fun hc => absurd hc (by decide)) (fun _ => ?_)
    refine ev_loc3 (i0 := 0) (i1 := 1) (i2 := 2) rfl rfl (v2 := .int (Int32.ofNat 1)) rfl ?_
    exact k_E_sayT hq J hn he (by decide) hx (hb 1 (by decide)) h1
  · rw [e1, if_neg (by decide), if_neg (by decide), if_pos rfl]
    refine ev_istore_n dd_E_say_4 (by decide) ?_
    refine ev_iload_n dd_E_say_5 rfl ?_
    refine ev_ic (v := (-1)) dd_E_say_6 (by decide +kernel) ?_
    refine ev_icmp_eq dd_E_say_7 (fun hc => absurd hc (by decide)) (fun _ => ?_)
    refine ev_loc3 (i0 := 0) (i1 := 1) (i2 := 2) rfl rfl (v2 := .int (Int32.ofNat 2)) rfl ?_
    exact k_E_sayT hq J hn he (by decide) hx (hb 2 (by decide)) h1
  · rw [e1, if_neg (by decide), if_neg (by decide), if_neg (by decide)]
    refine ev_istore_n dd_E_say_4 (by decide) ?_
    refine ev_iload_n dd_E_say_5 rfl ?_
    refine ev_ic (v := (-1)) dd_E_say_6 (by decide +kernel) ?_
    refine ev_icmp_eq dd_E_say_7 (fun _ => ?_) (fun hc => absurd rfl hc)
    refine ev_vret dd_E_say_24 rfl ?_
    exact ⟨rfl, h1⟩
end CrG
