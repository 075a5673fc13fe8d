/-! the pair's constructor -/
def cF : ce := (4, 0, up (up (fd0 4) 0 (.int 0)) 1 (.int 0))
def fl (z j : Nat) : List ce := (107, 6, fun k => if k < j then .ref (z + (71 + k)) else .null) :: List.replicate j cF
def lHd (z : Nat) : List ce := [(0, 0, up (up (fd0 0) 0 (.ref (z + 1))) 1 (.ref (z + 70))), (104, 2, up (up (fun _ => .null) 0 (.ref (z + 2))) 1 (.ref (z + 36)))]
def lPa (l : Nat → List ce) (z : Nat) : List ce := (lHd z ++ l (z + 2) ++ l (z + 36)) ++ fl z 6
theorem md_ap (f : ce → ce) : ∀ (A B : List ce) (i : Nat), md f (A.length + i) (A ++ B) = A ++ md f i B := by
  intro A
  induction A with
  | nil => intro B i; rw [List.length_nil, Nat.zero_add]; rfl
  | cons a A ih =>
    intro B i
    rw [show (a :: A).length + i = (A.length + i) + 1 by rw [List.length_cons]; omega]
    show a :: md f (A.length + i) (A ++ B) = a :: (A ++ md f i B)
    rw [ih]
theorem ap_at {A B : List ce} {n i : Nat} (h : A.length = n) : (A ++ B)[n + i]? = B[i]? := by
  rw [List.getElem?_append_right (by omega), show n + i - A.length = i by omega]
theorem ap_lo {A B : List ce} {i : Nat} {c : ce} (h : A[i]? = some c) : (A ++ B)[i]? = some c := by
  rw [List.getElem?_append_left (wl_lt h)]
  exact h
theorem fl_len (z j : Nat) : (fl z j).length = 1 + j := by
  unfold fl
  rw [List.length_cons, List.length_replicate]
  omega
theorem fl_s (z j : Nat) : cu j (.ref (z + (71 + j))) (107, 6, fun k => if k < j then .ref (z + (71 + k)) else .null) :: (List.replicate j cF ++ [cF]) = fl z (j + 1) := by
  unfold fl
  rw [List.replicate_succ']
  congr 1
  refine Prod.ext rfl (Prod.ext rfl (funext fun k => ?_))
  show (if k = j then Value.ref (z + (71 + j)) else if k < j then .ref (z + (71 + k)) else .null) = if k < j + 1 then .ref (z + (71 + k)) else .null
  by_cases e : k = j
  · rw [if_pos e, if_pos (by omega), e]
  · rw [if_neg e]
    by_cases l : k < j
    · rw [if_pos l, if_pos (by omega)]
    · rw [if_neg l, if_neg (by omega)]
section BldD
variable {G : ev_gx} {M : ev_mx} {d pc pc' tgt : Nat} {L : List (Nat × Value)} {st : List Value} {w w0 w' : ev_wd} {P : ev_r → ev_wd → Prop} {cs : List ce} {u q0 mi : Nat}
theorem ev_eqw (h : w = w') (k : ev_E G M d pc L st w' P) : ev_E G M d pc L st w P := by rw [h]; exact k
theorem pf_loop {A : List ce} {c0 : ce} (hb : ev_b G ≤ ev_z w0) (hz : ev_z w0 + 77 ≤ ev_b G + 601024) (hA : A.length = 70) (h0 : A[0]? = some c0) (hc : c0.1 = 0) (hf : c0.2.2 1 = .ref (ev_z w0 + 70)) : ∀ (n j v : Nat), j + n = 6 → v + 2 * n ≤ 7293034 → ev_E G mm_P_init (d + 6) 49 [(0, .ref (ev_z w0 + 0)), (1, .int (Int32.ofNat j))] [] (wl w0 (A ++ fl (ev_z w0) j) v) (fun t w' => t = .inl none ∧ ∃ y, y ≤ v + 2 * n ∧ w' = wl w0 (A ++ fl (ev_z w0) 6) y) := by
  intro n
  induction n with
  | zero =>
    intro j v hj hv
    have e : j = 6 := by omega
    rw [e]
    refine ev_iload_n dd_P_init_49 rfl ?_
    refine ev_bp (v := 6) dd_P_init_50 (by decide +kernel) ?_
    refine ev_icmp_ge dd_P_init_52 (fun _ => ?_) (fun hc => absurd (by decide) hc)
    refine ev_vret dd_P_init_74 rfl ?_
    exact ⟨rfl, v, by omega, rfl⟩
  | succ n ih =>
    intro j v hj hv
    refine ev_iload_n dd_P_init_49 rfl ?_
    refine ev_bp (v := 6) dd_P_init_50 (by decide +kernel) ?_
    refine ev_icmp_ge dd_P_init_52 (fun h => absurd h (i_ge (a := j) (b := 6) (by omega) (by omega))) (fun _ => ?_)
    refine ev_aload_n dd_P_init_55 rfl ?_
    refine B_get (i := 0) dd_P_init_56 fr_P_18 hb (ap_lo h0) hc hf ?_
    refine ev_iload_n dd_P_init_59 rfl ?_
    refine B_new (n := 71 + j) dd_P_init_60 rfl ck_4 kl_P_16 (by rw [List.length_append, hA, fl_len]; omega) (by omega) (show v + 2 ≤ 7293034 by omega) ?_
    refine ev_dup dd_P_init_63 rfl ?_
    refine B_call (k := 71 + j) dd_P_init_64 ms_F_init ii_P_22 (Nat.le_of_ble_eq_true rfl) (Nat.le_of_ble_eq_true rfl) (bc_F (d := d + 4)) (by rw [List.length_append, hA, fl_len]; omega) hb (by omega) (show v + 2 + 0 ≤ 7293034 by omega) (fun v2 hv2 => ?_)
    have hv3 : v2 ≤ v + 2 := hv2
    have e1 : (A ++ fl (ev_z w0) j ++ lFa)[70]? = some (107, 6, fun k => if k < j then .ref (ev_z w0 + (71 + k)) else .null) := by
      rw [List.append_assoc]
      exact ap_at (i := 0) hA
    have e2 : (A ++ fl (ev_z w0) j ++ lFa)[71 + j]? = some cF := by
      have hl : (A ++ fl (ev_z w0) j).length = 71 + j := by rw [List.length_append, hA, fl_len]; omega
      exact ap_at (i := 0) hl
    refine B_aast (i := 70) (j := j) (v := 71 + j) (cl := 4) (t := 7) (E := "ThreeLinkPair$Fault") dd_P_init_67 hb e1 rfl rfl (show j < 6 by omega) (by omega) (show 6 ≤ 2400 by omega) e2 rfl rfl rfl ?_
    have e3 : md (cu j (.ref (ev_z w0 + (71 + j)))) 70 (A ++ fl (ev_z w0) j ++ lFa) = A ++ fl (ev_z w0) (j + 1) := by
      rw [List.append_assoc, ← fl_s]
      have := md_ap (cu j (.ref (ev_z w0 + (71 + j)))) A (fl (ev_z w0) j ++ lFa) 0
      rw [hA] at this
      exact this
    rw [e3]
    refine ev_iinc dd_P_init_68 rfl (by decide) ?_
    refine ev_goto dd_P_init_71 ?_
    refine ev_loc2 (i0 := 0) (i1 := 1) rfl (v1 := .int (Int32.ofNat (j + 1))) (by rw [show Int32.ofNat (j + 1) = Int32.ofNat j + Int32.ofInt 1 by rw [inc_ofNat]; rfl]; rfl) ?_
    exact ev_mono (fun t w' hp => ⟨hp.1, hp.2.choose, by have := hp.2.choose_spec.1; omega, hp.2.choose_spec.2⟩) (ih (j + 1) v2 (by omega) (by omega))
theorem bc_P0 {l : Nat → List ce} (hE : bc G mm_E_init (d + 5) l 1 34 260) (hl : ∀ z, (l z).length = 34) (h0 : ∀ z, ∃ c, (l z)[0]? = some c ∧ c.1 = 1) : bc G mm_P_init (d + 6) (lPa l) 0 77 554 := by
  intro w0 u hb hz hu
  refine ev_aload_n dd_P_init_0 rfl ?_
  refine ev_obji dd_P_init_1 oi_P_1 oi_i oi_c (Nat.le_of_ble_eq_true rfl) ?_
  refine ev_aload_n dd_P_init_4 rfl ?_
  refine ev_ic (v := 2) dd_P_init_5 (by decide +kernel) ?_
  refine B_anew (t := 4) (m := 2) (n := 1) dd_P_init_6 rfl kl_P_9 ao_E rfl (by omega) (by omega) (by omega) ?_
  refine B_putF (i := 0) dd_P_init_9 fk_P_11 rfl hb rfl rfl rfl rfl ?_
  refine ev_ic (v := 0) dd_P_init_12 (by decide +kernel) ?_
  refine ev_istore_n dd_P_init_13 (by decide) ?_
  refine ev_loc2 (i0 := 0) (i1 := 1) rfl (v1 := .int (Int32.ofNat 0)) rfl ?_
  refine ev_eqw (w' := wl w0 [(0, 0, up (fd0 0) 0 (.ref (ev_z w0 + 1))), (104, 2, fun _ => .null)] (u + 2)) rfl ?_
  refine ev_iload_n dd_P_init_14 rfl ?_
  refine ev_ic (v := 2) dd_P_init_15 (by decide +kernel) ?_
  refine ev_icmp_ge dd_P_init_16 (fun hc => absurd hc (by decide)) (fun _ => ?_)
  refine ev_aload_n dd_P_init_19 rfl ?_
  refine B_get (i := 0) dd_P_init_20 fr_P_11 hb rfl rfl rfl ?_
  refine ev_iload_n dd_P_init_23 rfl ?_
  refine B_new (n := 2) dd_P_init_24 rfl ck_1 kl_P_9 rfl (by omega) (show u + 2 + 7 ≤ 7293034 by omega) ?_
  refine ev_dup dd_P_init_27 rfl ?_
  refine B_call (k := 2) dd_P_init_28 ms_E_init ii_P_15 (Nat.le_of_ble_eq_true rfl) (Nat.le_of_ble_eq_true rfl) hE rfl hb (by omega) (show u + 2 + 7 + 260 ≤ 7293034 by omega) (fun a1 ha1 => ?_)
  have hd1 : a1 ≤ u + 2 + 7 + 260 := ha1
  obtain ⟨cE, k1, k2⟩ := h0 (ev_z w0 + 2)
  refine B_aast (i := 1) (j := 0) (v := 2) (cv := cE) (cl := 1) (t := 4) (E := "ThreeLinkPair$End") dd_P_init_31 hb rfl rfl rfl (show 0 < 2 by omega) (by omega) (show 2 ≤ 2400 by omega) k1 k2 rfl rfl ?_
  refine ev_iinc dd_P_init_32 rfl (by decide) ?_
  refine ev_goto dd_P_init_35 ?_
  refine ev_loc2 (i0 := 0) (i1 := 1) rfl (v1 := .int (Int32.ofNat 1)) rfl ?_
  refine ev_eqw (w' := wl w0 ([(0, 0, up (fd0 0) 0 (.ref (ev_z w0 + 1))), (104, 2, up (fun _ => .null) 0 (.ref (ev_z w0 + 2)))] ++ l (ev_z w0 + 2)) a1) rfl ?_
  have hl1 : ([(0, 0, up (fd0 0) 0 (.ref (ev_z w0 + 1))), (104, 2, up (fun _ => .null) 0 (.ref (ev_z w0 + 2)))] ++ l (ev_z w0 + 2)).length = 36 := by rw [List.length_append, hl]; rfl
  refine ev_iload_n dd_P_init_14 rfl ?_
  refine ev_ic (v := 2) dd_P_init_15 (by decide +kernel) ?_
  refine ev_icmp_ge dd_P_init_16 (fun hc => absurd hc (by decide)) (fun _ => ?_)
  refine ev_aload_n dd_P_init_19 rfl ?_
  refine B_get (i := 0) dd_P_init_20 fr_P_11 hb rfl rfl rfl ?_
  refine ev_iload_n dd_P_init_23 rfl ?_
  refine B_new (n := 36) dd_P_init_24 rfl ck_1 kl_P_9 hl1 (by omega) (show a1 + 7 ≤ 7293034 by omega) ?_
  refine ev_dup dd_P_init_27 rfl ?_
  refine B_call (k := 36) dd_P_init_28 ms_E_init ii_P_15 (Nat.le_of_ble_eq_true rfl) (Nat.le_of_ble_eq_true rfl) hE hl1 hb (by omega) (show a1 + 7 + 260 ≤ 7293034 by omega) (fun a2 ha2 => ?_)
  have hd2 : a2 ≤ a1 + 7 + 260 := ha2
  obtain ⟨cE2, k3, k4⟩ := h0 (ev_z w0 + 36)
  refine B_aast (i := 1) (j := 1) (v := 36) (cv := cE2) (cl := 1) (t := 4) (E := "ThreeLinkPair$End") dd_P_init_31 hb rfl rfl rfl (show 1 < 2 by omega) (by omega) (show 2 ≤ 2400 by omega) ((ap_at (i := 0) hl1).trans k3) k4 rfl rfl ?_
  refine ev_iinc dd_P_init_32 rfl (by decide) ?_
  refine ev_goto dd_P_init_35 ?_
  refine ev_loc2 (i0 := 0) (i1 := 1) rfl (v1 := .int (Int32.ofNat 2)) rfl ?_
  refine ev_eqw (w' := wl w0 ([(0, 0, up (fd0 0) 0 (.ref (ev_z w0 + 1))), (104, 2, up (up (fun _ => .null) 0 (.ref (ev_z w0 + 2))) 1 (.ref (ev_z w0 + 36)))] ++ l (ev_z w0 + 2) ++ l (ev_z w0 + 36)) a2) rfl ?_
  have hl2 : ([(0, 0, up (fd0 0) 0 (.ref (ev_z w0 + 1))), (104, 2, up (up (fun _ => .null) 0 (.ref (ev_z w0 + 2))) 1 (.ref (ev_z w0 + 36)))] ++ l (ev_z w0 + 2) ++ l (ev_z w0 + 36)).length = 70 := by rw [List.length_append, List.length_append, hl, hl]; rfl
  refine ev_iload_n dd_P_init_14 rfl ?_
  refine ev_ic (v := 2) dd_P_init_15 (by decide +kernel) ?_
  refine ev_icmp_ge dd_P_init_16 (fun _ => ?_) (fun hc => absurd (by decide) hc)
  refine ev_aload_n dd_P_init_38 rfl ?_
  refine ev_bp (v := 6) dd_P_init_39 (by decide +kernel) ?_
  refine B_anew (t := 7) (m := 6) (n := 70) dd_P_init_41 rfl kl_P_16 ao_F hl2 (by omega) (by omega) (by omega) ?_
  refine B_putF (i := 0) dd_P_init_44 fk_P_18 rfl hb rfl rfl rfl rfl ?_
  refine ev_ic (v := 0) dd_P_init_47 (by decide +kernel) ?_
  refine ev_istore_n dd_P_init_48 (by decide) ?_
  refine ev_loc2 (i0 := 0) (i1 := 1) rfl (v1 := .int (Int32.ofNat 0)) rfl ?_
  have ef : fl (ev_z w0) 0 = [(107, 6, fun _ => .null)] := by
    unfold fl
    congr 1
  refine ev_eqw (w' := wl w0 ((lHd (ev_z w0) ++ l (ev_z w0 + 2) ++ l (ev_z w0 + 36)) ++ fl (ev_z w0) 0) (a2 + 6)) (by rw [ef]; rfl) ?_
  have hl3 : (lHd (ev_z w0) ++ l (ev_z w0 + 2) ++ l (ev_z w0 + 36)).length = 70 := by rw [List.length_append, List.length_append, hl, hl]; rfl
  exact ev_mono (fun t w' hp => ⟨hp.1, hp.2.choose, by have := hp.2.choose_spec.1; omega, hp.2.choose_spec.2⟩) (pf_loop (d := d) (c0 := (0, 0, up (up (fd0 0) 0 (.ref (ev_z w0 + 1))) 1 (.ref (ev_z w0 + 70)))) hb hz hl3 rfl rfl rfl 6 0 (a2 + 6) (by omega) (by omega))
theorem bc_P (J : ev_J G q0 mi) : bc G mm_P_init (d + 6) (lPa (lEn q0)) 0 77 554 := bc_P0 (bc_E (d := d) J) (fun _ => rfl) (fun _ => ⟨_, rfl, rfl⟩)
end BldD
