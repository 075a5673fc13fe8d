/-! the reference's constructor: its loops -/
def A0 : rf_A := fun k _ => if k = 7 then -1 else 0
theorem la_at {n i : Nat} (h : i < n) : (la n)[i]? = some (ga i) := by
  unfold la
  rw [List.getElem?_map, List.getElem?_range h]
  rfl
theorem d_R0 {G : ev_gx} {w0 : ev_wd} (y : Nat) (hw : ev_z w0 = ev_b G + 77) : rf_R G (wl w0 ((8, 0, fn (ev_z w0) 1 46) :: la 46) y) A0 := by
  have e77 : ev_b G + 77 = ev_z w0 + 0 := by omega
  have v0 : ev_v (wl w0 ((8, 0, fn (ev_z w0) 1 46) :: la 46) y) (ev_b G + 77) = fn (ev_z w0) 1 46 := by
    rw [e77]
    exact wl_v (i := 0) (c := (8, 0, fn (ev_z w0) 1 46)) rfl
  refine ⟨?_, ?_, fun k hk => ?_, fun k hk => ?_⟩
  · rw [wl_len, List.length_cons, la_len]
    omega
  · rw [e77]
    exact wl_g (i := 0) (c := (8, 0, fn (ev_z w0) 1 46)) rfl
  · rw [v0]
    unfold fn A0
    rw [if_neg (fun x => rf_ia hk x.1)]
    have h1 := of_decide_eq_true hk
    rcases h1 with rfl | rfl | rfl | rfl | rfl
    · rfl
    · rfl
    · rfl
    · rfl
    · rfl
  · have ho := rf_off hk
    have ei : ev_b G + rf_o k = ev_z w0 + (1 + (rf_o k - 78)) := by omega
    have hi : rf_o k - 78 < 46 := by omega
    have ek : kn (rf_o k - 78) = k := by
      obtain ⟨h1, h2⟩ := kn_a hi
      exact rf_inj h1 hk (by omega)
    have hc : ((8, 0, fn (ev_z w0) 1 46) :: la 46)[1 + (rf_o k - 78)]? = some (ga (rf_o k - 78)) := by
      rw [Nat.add_comm]
      exact la_at hi
    refine ⟨?_, ?_, ?_, fun j hj => ?_⟩
    · rw [v0]
      unfold fn
      rw [if_pos ⟨hk, by omega⟩, show ev_z w0 + (rf_o k - 77) = ev_b G + rf_o k by omega]
    · rw [ei, wl_g hc]
      unfold ga rf_b
      rw [ek]
      by_cases c : k = 16 ∨ k = 43
      · rw [if_pos c, if_pos (decide_eq_true c)]
      · rw [if_neg c, if_neg (fun x => c (of_decide_eq_true x))]
    · rw [ei, wl_n hc]
      unfold ga
      rw [ek]
    · rw [ei, wl_v hc]
      unfold ga A0
      have h7 : k ≠ 7 := fun e => by rw [e] at hk; cases hk
      rw [if_neg h7]
def A1 (i : Nat) : rf_A := fun k j => if (k = 9 ∨ k = 10) ∧ j < i then -1 else A0 k j
def A2 (i : Nat) : rf_A := fun k j => if k = 28 ∧ j < i then -1 else A1 22 k j
def lk0 (j : Nat) : Int32 := (Int32.ofNat j - Int32.ofNat j / 4 * 4) - (Int32.ofNat j - Int32.ofNat j / 4 * 4) / 3 * 3
def A3 (i : Nat) : rf_A := fun k j => if k = 48 ∧ j < i then lk0 j else A2 96 k j
theorem A1_0 : A1 0 = A0 := funext fun k => funext fun j => if_neg (fun x => Nat.not_lt_zero j x.2)
theorem A2_0 : A2 0 = A1 22 := funext fun k => funext fun j => if_neg (fun x => Nat.not_lt_zero j x.2)
theorem A3_0 : A3 0 = A2 96 := funext fun k => funext fun j => if_neg (fun x => Nat.not_lt_zero j x.2)
theorem A1_s (i : Nat) : rf_u (rf_u (A1 i) 9 i (-1)) 10 i (-1) = A1 (i + 1) := by
  funext k j
  unfold rf_u A1
  by_cases e : k = 10 ∧ j = i
  · rw [if_pos e, if_pos ⟨Or.inr e.1, by omega⟩]
  · rw [if_neg e]
    by_cases e2 : k = 9 ∧ j = i
    · rw [if_pos e2, if_pos ⟨Or.inl e2.1, by omega⟩]
    · rw [if_neg e2]
      by_cases c : (k = 9 ∨ k = 10) ∧ j < i
      · rw [if_pos c, if_pos ⟨c.1, by omega⟩]
      · rw [if_neg c, if_neg (fun x => by omega)]
theorem A2_s (i : Nat) : rf_u (A2 i) 28 i (-1) = A2 (i + 1) := by
  funext k j
  unfold rf_u A2
  by_cases e : k = 28 ∧ j = i
  · rw [if_pos e, if_pos ⟨e.1, by omega⟩]
  · rw [if_neg e]
    by_cases c : k = 28 ∧ j < i
    · rw [if_pos c, if_pos ⟨c.1, by omega⟩]
    · rw [if_neg c, if_neg (fun x => by omega)]
theorem A3_s (i : Nat) : rf_u (A3 i) 48 i (lk0 i) = A3 (i + 1) := by
  funext k j
  unfold rf_u A3
  by_cases e : k = 48 ∧ j = i
  · rw [if_pos e, if_pos ⟨e.1, by omega⟩, e.2]
  · rw [if_neg e]
    by_cases c : k = 48 ∧ j < i
    · rw [if_pos c, if_pos ⟨c.1, by omega⟩]
    · rw [if_neg c, if_neg (fun x => by omega)]
/-- how the reference begins -/
def D00 : rf_C := (A3 8, fun _ => [])
def D01 : rf_C := rs_D_begin (rs_D_begin (rs_D_begin (rs_D_begin (rs_D_begin (rs_D_begin D00 0) 1) 2) 3) 4) 5
section BldF
variable {G : ev_gx} {M : ev_mx} {d pc pc2 pc3 tgt : Nat} {L : List (Nat × Value)} {st : List Value} {w w0 F : ev_wd} {P : ev_r → ev_wd → Prop} {u : Nat} {D : rf_C}
theorem d_K0 (h : rf_M G w (A3 8) F) : rf_K G w D00 none F rf_Q0 := by
  refine ⟨A3 8, fun _ => [], fun _ => 0, [], 0, h, ?_, fun _ _ _ => rfl, fun _ _ => rfl, fun x μ h => (by cases h), fun x μ h => (by cases h)⟩
  refine ⟨⟨rfl, by omega, by decide⟩, ⟨rfl, List.nodup_nil, fun x hx => absurd hx List.not_mem_nil⟩, fun r hr => ⟨?_, ?_, rfl, List.nodup_nil, fun x hx => absurd hx List.not_mem_nil⟩, fun x hx => (by cases hx)⟩
  · show A3 8 9 r = -1
    unfold A3 A2 A1
    rw [if_neg (by omega), if_neg (by omega), if_pos ⟨Or.inl rfl, hr⟩]
  · show A3 8 10 r = -1
    unfold A3 A2 A1
    rw [if_neg (by omega), if_neg (by omega), if_pos ⟨Or.inr rfl, hr⟩]
theorem d_l1 : ∀ (n i : Nat) (w : ev_wd), i + n = 22 → rf_M G w (A1 i) F → (∀ w1, rf_M G w1 (A1 22) F → ev_E G mm_D_init d 411 [(0, .ref (ev_b G + 77))] [] w1 P) → ev_E G mm_D_init d 385 [(0, .ref (ev_b G + 77)), (1, .int (Int32.ofNat i))] [] w P := by
  intro n
  induction n with
  | zero =>
    intro i w hi h kk
    have e : i = 22 := by omega
    rw [e] at h ⊢
    refine ev_iload_n dd_D_init_385 rfl ?_
    refine ev_bp (v := 22) dd_D_init_386 (by decide +kernel) ?_
    refine ev_icmp_ge dd_D_init_388 (fun _ => ?_) (fun hc => absurd (by decide) hc)
    refine ev_loc1 (i0 := 0) rfl ?_
    exact kk w h
  | succ n ih =>
    intro i w hi h kk
    refine ev_iload_n dd_D_init_385 rfl ?_
    refine ev_bp (v := 22) dd_D_init_386 (by decide +kernel) ?_
    refine ev_icmp_ge dd_D_init_388 (fun hc => absurd hc (i_ge (a := i) (b := 22) (by omega) (by omega))) (fun _ => ?_)
    refine ev_aload_n dd_D_init_391 rfl ?_
    refine M_gA (k := 9) dd_D_init_392 fr_D_32 h rfl ?_
    refine ev_iload_n dd_D_init_395 rfl ?_
    refine ev_ic (v := (-1)) dd_D_init_396 (by decide +kernel) ?_
    refine M_st (k := 9) (j := i) dd_D_init_397 h rfl rfl (show i < 22 by omega) (fun w1 h1 => ?_)
    refine ev_aload_n dd_D_init_398 rfl ?_
    refine M_gA (k := 10) dd_D_init_399 fr_D_35 h1 rfl ?_
    refine ev_iload_n dd_D_init_402 rfl ?_
    refine ev_ic (v := (-1)) dd_D_init_403 (by decide +kernel) ?_
    refine M_st (k := 10) (j := i) dd_D_init_404 h1 rfl rfl (show i < 22 by omega) (fun w2 h2 => ?_)
    rw [A1_s] at h2
    refine ev_iinc dd_D_init_405 rfl (by decide) ?_
    refine ev_goto dd_D_init_408 ?_
    refine ev_loc2 (i0 := 0) (i1 := 1) rfl (v1 := .int (Int32.ofNat (i + 1))) (by rw [show Int32.ofNat (i + 1) = Int32.ofNat i + Int32.ofInt 1 by rw [inc_ofNat]; rfl]; rfl) ?_
    exact ih (i + 1) w2 (by omega) h2 kk
theorem d_l2 : ∀ (n i : Nat) (w : ev_wd), i + n = 96 → rf_M G w (A2 i) F → (∀ w1, rf_M G w1 (A2 96) F → ev_E G mm_D_init d 432 [(0, .ref (ev_b G + 77))] [] w1 P) → ev_E G mm_D_init d 413 [(0, .ref (ev_b G + 77)), (1, .int (Int32.ofNat i))] [] w P := by
  intro n
  induction n with
  | zero =>
    intro i w hi h kk
    have e : i = 96 := by omega
    rw [e] at h ⊢
    refine ev_iload_n dd_D_init_413 rfl ?_
    refine ev_bp (v := 96) dd_D_init_414 (by decide +kernel) ?_
    refine ev_icmp_ge dd_D_init_416 (fun _ => ?_) (fun hc => absurd (by decide) hc)
    refine ev_loc1 (i0 := 0) rfl ?_
    exact kk w h
  | succ n ih =>
    intro i w hi h kk
    refine ev_iload_n dd_D_init_413 rfl ?_
    refine ev_bp (v := 96) dd_D_init_414 (by decide +kernel) ?_
    refine ev_icmp_ge dd_D_init_416 (fun hc => absurd hc (i_ge (a := i) (b := 96) (by omega) (by omega))) (fun _ => ?_)
    refine ev_aload_n dd_D_init_419 rfl ?_
    refine M_gA (k := 28) dd_D_init_420 fr_D_90 h rfl ?_
    refine ev_iload_n dd_D_init_423 rfl ?_
    refine ev_ic (v := (-1)) dd_D_init_424 (by decide +kernel) ?_
    refine M_st (k := 28) (j := i) dd_D_init_425 h rfl rfl (show i < 96 by omega) (fun w1 h1 => ?_)
    rw [A2_s] at h1
    refine ev_iinc dd_D_init_426 rfl (by decide) ?_
    refine ev_goto dd_D_init_429 ?_
    refine ev_loc2 (i0 := 0) (i1 := 1) rfl (v1 := .int (Int32.ofNat (i + 1))) (by rw [show Int32.ofNat (i + 1) = Int32.ofNat i + Int32.ofInt 1 by rw [inc_ofNat]; rfl]; rfl) ?_
    exact ih (i + 1) w1 (by omega) h1 kk
theorem d_l3 : ∀ (n i : Nat) (w : ev_wd), i + n = 8 → rf_M G w (A3 i) F → (∀ w1, rf_M G w1 (A3 8) F → ev_E G mm_D_init d 457 [(0, .ref (ev_b G + 77))] [] w1 P) → ev_E G mm_D_init d 434 [(0, .ref (ev_b G + 77)), (1, .int (Int32.ofNat i))] [] w P := by
  intro n
  induction n with
  | zero =>
    intro i w hi h kk
    have e : i = 8 := by omega
    rw [e] at h ⊢
    refine ev_iload_n dd_D_init_434 rfl ?_
    refine ev_bp (v := 8) dd_D_init_435 (by decide +kernel) ?_
    refine ev_icmp_ge dd_D_init_437 (fun _ => ?_) (fun hc => absurd (by decide) hc)
    refine ev_loc1 (i0 := 0) rfl ?_
    exact kk w h
  | succ n ih =>
    intro i w hi h kk
    refine ev_iload_n dd_D_init_434 rfl ?_
    refine ev_bp (v := 8) dd_D_init_435 (by decide +kernel) ?_
    refine ev_icmp_ge dd_D_init_437 (fun hc => absurd hc (i_ge (a := i) (b := 8) (by omega) (by omega))) (fun _ => ?_)
    refine ev_aload_n dd_D_init_440 rfl ?_
    refine M_gA (k := 48) dd_D_init_441 fr_D_150 h rfl ?_
    refine ev_iload_n dd_D_init_444 rfl ?_
    refine ev_iload_n dd_D_init_445 rfl ?_
    refine ev_ic (v := 4) dd_D_init_446 (by decide +kernel) ?_
    refine ev_irem dd_D_init_447 (by decide) ?_
    refine ev_ic (v := 3) dd_D_init_448 (by decide +kernel) ?_
    refine ev_irem dd_D_init_449 (by decide) ?_
    refine M_st (k := 48) (j := i) dd_D_init_450 h rfl rfl (show i < 8 by omega) (fun w1 h1 => ?_)
    have h2 : rf_M G w1 (rf_u (A3 i) 48 i (lk0 i)) F := h1
    rw [A3_s] at h2
    refine ev_iinc dd_D_init_451 rfl (by decide) ?_
    refine ev_goto dd_D_init_454 ?_
    refine ev_loc2 (i0 := 0) (i1 := 1) rfl (v1 := .int (Int32.ofNat (i + 1))) (by rw [show Int32.ofNat (i + 1) = Int32.ofNat i + Int32.ofInt 1 by rw [inc_ofNat]; rfl]; rfl) ?_
    exact ih (i + 1) w1 (by omega) h2 kk
theorem d_l4 {i : Nat} (hi : i < 6) (h : rf_K G w D none F rf_Q0) (kk : ∀ w1, rf_K G w1 (rs_D_begin D i) none F rf_Q0 → ev_E G mm_D_init (d + 3) 459 [(0, .ref (ev_b G + 77)), (1, .int (Int32.ofNat (i + 1)))] [] w1 P) : ev_E G mm_D_init (d + 3) 459 [(0, .ref (ev_b G + 77)), (1, .int (Int32.ofNat i))] [] w P := by
  refine ev_iload_n dd_D_init_459 rfl ?_
  refine ev_bp (v := 6) dd_D_init_460 (by decide +kernel) ?_
  refine ev_icmp_ge dd_D_init_462 (fun hc => absurd hc (i_ge (a := i) (b := 6) (by omega) (by omega))) (fun _ => ?_)
  refine ev_aload_n dd_D_init_465 rfl ?_
  refine ev_iload_n dd_D_init_466 rfl ?_
  refine ev_callvV2 [_] dd_D_init_467 ms_D_begin iv_D_153 h.ob h.tg rfl (Nat.le_of_ble_eq_true rfl) (Nat.le_of_ble_eq_true rfl) (k_D_begin hi h) (fun w1 h1 => ?_)
  refine ev_iinc dd_D_init_470 rfl (by decide) ?_
  refine ev_goto dd_D_init_473 ?_
  refine ev_loc2 (i0 := 0) (i1 := 1) rfl (v1 := .int (Int32.ofNat (i + 1))) (by rw [show Int32.ofNat (i + 1) = Int32.ofNat i + Int32.ofInt 1 by rw [inc_ofNat]; rfl]; rfl) ?_
  exact kk w1 h1
theorem c_D_init (hw : ev_z w0 = ev_b G + 77) (hu : u + 14870 ≤ 7293034) : ev_E G mm_D_init (d + 3) 0 (lv_args 0 [.ref (ev_z w0 + 0)]) [] (wl w0 [(8, 0, fun k => defaultValue (nm_ft 8 k))] u) (fun t w' => t = .inl none ∧ ∃ y, y ≤ u + 14870 ∧ rf_K G w' D01 none (wl w0 ((8, 0, fn (ev_z w0) 1 46) :: la 46) y) rf_Q0) := by
  refine d_arrays (d := d + 2) (by omega) (by omega) hu (fun y hy => ?_)
  have hR := d_R0 y hw
  generalize hF : wl w0 ((8, 0, fn (ev_z w0) 1 46) :: la 46) y = F at *
  have h0 : rf_M G F A0 F := ⟨hR, rfl, rfl, rfl, rfl, fun _ _ => rfl⟩
  refine ev_ic (v := 0) dd_D_init_383 (by decide +kernel) ?_
  refine ev_istore_n dd_D_init_384 (by decide) ?_
  rw [← A1_0] at h0
  refine ev_loc2 (i0 := 0) (i1 := 1) (v0 := .ref (ev_b G + 77)) (by rw [← hw]; rfl) (v1 := .int (Int32.ofNat 0)) rfl ?_
  refine d_l1 22 0 F (by omega) h0 (fun w1 h1 => ?_)
  refine ev_ic (v := 0) dd_D_init_411 (by decide +kernel) ?_
  refine ev_istore_n dd_D_init_412 (by decide) ?_
  rw [← A2_0] at h1
  refine ev_loc2 (i0 := 0) (i1 := 1) rfl (v1 := .int (Int32.ofNat 0)) rfl ?_
  refine d_l2 96 0 w1 (by omega) h1 (fun w2 h2 => ?_)
  refine ev_ic (v := 0) dd_D_init_432 (by decide +kernel) ?_
  refine ev_istore_n dd_D_init_433 (by decide) ?_
  rw [← A3_0] at h2
  refine ev_loc2 (i0 := 0) (i1 := 1) rfl (v1 := .int (Int32.ofNat 0)) rfl ?_
  refine d_l3 8 0 w2 (by omega) h2 (fun w3 h3 => ?_)
  have k0 := d_K0 h3
  refine ev_ic (v := 0) dd_D_init_457 (by decide +kernel) ?_
  refine ev_istore_n dd_D_init_458 (by decide) ?_
  refine ev_loc2 (i0 := 0) (i1 := 1) rfl (v1 := .int (Int32.ofNat 0)) rfl ?_
  unfold D01
  generalize D00 = E0 at *
  refine d_l4 (i := 0) (by omega) k0 (fun w4 k1 => ?_)
  generalize rs_D_begin E0 0 = E1 at *
  refine d_l4 (i := 1) (by omega) k1 (fun w5 k2 => ?_)
  generalize rs_D_begin E1 1 = E2 at *
  refine d_l4 (i := 2) (by omega) k2 (fun w6 k3 => ?_)
  generalize rs_D_begin E2 2 = E3 at *
  refine d_l4 (i := 3) (by omega) k3 (fun w7 k4 => ?_)
  generalize rs_D_begin E3 3 = E4 at *
  refine d_l4 (i := 4) (by omega) k4 (fun w8 k5 => ?_)
  generalize rs_D_begin E4 4 = E5 at *
  refine d_l4 (i := 5) (by omega) k5 (fun w9 k6 => ?_)
  generalize rs_D_begin E5 5 = E6 at *
  refine ev_iload_n dd_D_init_459 rfl ?_
  refine ev_bp (v := 6) dd_D_init_460 (by decide +kernel) ?_
  refine ev_icmp_ge dd_D_init_462 (fun _ => ?_) (fun hc => absurd (by decide) hc)
  refine ev_vret dd_D_init_476 rfl ?_
  exact ⟨rfl, y, hy, by rw [hF]; exact k6⟩
end BldF
