/-! the reference: a changeover comes to its end, goes on -/
theorem rs_mv_L {D : rf_C} {e : Nat} (h : rf_Lk D e) (ho : rf_op D e) (l : Nat) {k : Nat} (hk : k < 4) : rf_Lk (rs_mv D e l k) e := by
  unfold rs_mv
  split
  · exact rs_move_L h (ho k hk)
  · exact h
theorem rs_mv_J (D : rf_C) (e l k : Nat) (q j : Nat) (hq : q ≠ 48) : (rs_mv D e l k).1 q j = D.1 q j := by
  unfold rs_mv
  split
  · exact rf_u_ne D.1 _ (fun e => hq e.1)
  · rfl
theorem rs_mv_X (D : rf_C) (e l k : Nat) : (rs_mv D e l k).2 = D.2 := by
  unfold rs_mv
  split <;> rfl
section RfY
variable {G : ev_gx} {M : ev_mx} {d pc pc' tgt : Nat} {L : List (Nat × Value)} {st : List Value} {w w1 F : ev_wd} {P : ev_r → ev_wd → Prop} {D D' : rf_C} {H : Option (Nat × rf_m)} {Q : Nat → rf_m → Prop}
theorem k_D_end {l e : Nat} (hl : l < 3) (he : e < 2) (hm : ∀ μ ∈ D.2 (12 + (2 * l + e)), rf_mo μ) (hc : ∀ μ ∈ D.2 (18 + e), rf_mc μ) (hL : rf_Lk D e) (ho : rf_op (rf_sI D 42 (2 * l + e) 0) e) (h : rf_K G w D none F rf_Q0) :
    ev_E G mm_D_end (d + 2) 0 (lv_args 0 [.ref (ev_b G + 77), .int (Int32.ofNat (2 * l + e))]) [] w (rf_yv G F rf_Q0 none (rs_end D l e)) := by
  have hs : 2 * l + e < 6 := by omega
  have hr : 18 + e < 22 := by omega
  unfold rs_end
  refine ev_iload_n dd_D_end_0 rfl ?_
  refine ev_ic (v := 2) dd_D_end_1 (by decide +kernel) ?_
  refine ev_irem dd_D_end_2 (by decide) ?_
  rw [ms_rem hl he]
  refine ev_istore_n dd_D_end_3 (by decide) ?_
  refine ev_iload_n dd_D_end_4 rfl ?_
  refine ev_ic (v := 2) dd_D_end_5 (by decide +kernel) ?_
  refine ev_idiv dd_D_end_6 (by decide) ?_
  rw [ms_div hl he]
  refine ev_istore_n dd_D_end_7 (by decide) ?_
  refine ev_aload_n dd_D_end_8 rfl ?_
  refine R_gA (k := 42) dd_D_end_9 fr_D_132 h rfl ?_
  refine ev_iload_n dd_D_end_12 rfl ?_
  refine ev_ic (v := 0) dd_D_end_13 (by decide +kernel) ?_
  refine R_st (k := 42) (j := 2 * l + e) dd_D_end_14 h rfl (show 2 * l + e < 6 by omega) (fun w1 h1 => ?_)
  have hL1 : rf_Lk (rf_sI D 42 (2 * l + e) 0) e := fun k hk => hL k hk
  have hm1 : ∀ μ ∈ (rf_sI D 42 (2 * l + e) 0).2 (12 + (2 * l + e)), rf_mo μ := hm
  have hc1 : ∀ μ ∈ (rf_sI D 42 (2 * l + e) 0).2 (18 + e), rf_mc μ := hc
  generalize rf_sI D 42 (2 * l + e) 0 = D1 at *
  refine ev_ic (v := 0) dd_D_end_15 (by decide +kernel) ?_
  refine ev_istore dd_D_end_16 (by decide) ?_
  refine ev_ic (v := 0) dd_D_end_18 (by decide +kernel) ?_
  refine ev_istore dd_D_end_19 (by decide) ?_
  refine ev_loc6 (i0 := 0) (i1 := 1) (i2 := 2) (i3 := 3) (i4 := 4) (i5 := 5) rfl rfl rfl rfl (v4 := .int 0) rfl (v5 := .int (Int32.ofNat 0)) rfl ?_
  refine k_D_enM (L := []) he (by decide) h1 ?_
  refine k_D_enM (L := []) he (by decide) h1 ?_
  refine k_D_enM (L := []) he (by decide) h1 ?_
  refine k_D_enM (L := []) he (by decide) h1 ?_
  show ev_E G mm_D_end (d + 2) 21 [(0, .ref (ev_b G + 77)), (1, .int (Int32.ofNat (2 * l + e))), (2, .int (Int32.ofNat e)), (3, .int (Int32.ofNat l)), (4, .int (rf_mi D1 e l)), (5, .int (Int32.ofNat 4))] [] w1 _
  generalize rf_mi D1 e l = y
  refine ev_iload dd_D_end_21 rfl ?_
  refine ev_ic (v := 4) dd_D_end_23 (by decide +kernel) ?_
  refine ev_icmp_ge dd_D_end_24 (fun _ => ?_) (fun c => absurd (by decide) c)
  obtain ⟨p1, p2, p3⟩ := rs_pas_ok he (D1.2 (12 + (2 * l + e))) (rf_sX D1 (12 + (2 * l + e)) []) (fun k hk => hL1 k hk) (ho.of (fun _ _ _ => rfl)) hm1
  refine k_D_enA (y := y) he hl _ D1 w1 _ rfl rfl rfl rfl rfl rfl hm1 hL1 ho h1 (fun w2 h2' => ?_)
  have h2 : rf_K G w2 (rs_en1 D1 e l) none F rf_Q0 := h2'
  have q1 : rf_Lk (rs_en1 D1 e l) e := p1
  have qo : rf_op (rs_en1 D1 e l) e := ho.of (fun k j hk => p2 k j (by omega))
  have q3 : (rs_en1 D1 e l).2 (18 + e) = D1.2 (18 + e) := (p3 (18 + e) (by omega)).trans (rf_sX_ne _ _ (by omega))
  generalize rs_en1 D1 e l = D2 at *
  refine ev_ic (v := 0) dd_D_end_165 (by decide +kernel) ?_
  refine ev_istore dd_D_end_166 (by decide) ?_
  refine ev_loc6 (i0 := 0) (i1 := 1) (i2 := 2) (i3 := 3) (i4 := 4) (i5 := 5) rfl rfl rfl rfl rfl (v5 := .int (Int32.ofNat 0)) rfl ?_
  refine k_D_enB he (by decide) h2 (fun w3 h3 => ?_)
  have r1 := rs_mv_L q1 qo l (k := 0) (by decide)
  have o1 : rf_op (rs_mv D2 e l 0) e := qo.of (fun k j hk => rs_mv_J _ _ _ _ k j (by omega))
  refine k_D_enB he (by decide) h3 (fun w4 h4 => ?_)
  have r2 := rs_mv_L r1 o1 l (k := 1) (by decide)
  have o2 : rf_op (rs_mv (rs_mv D2 e l 0) e l 1) e := o1.of (fun k j hk => rs_mv_J _ _ _ _ k j (by omega))
  refine k_D_enB he (by decide) h4 (fun w5 h5 => ?_)
  have r3 := rs_mv_L r2 o2 l (k := 2) (by decide)
  have o3 : rf_op (rs_mv (rs_mv (rs_mv D2 e l 0) e l 1) e l 2) e := o2.of (fun k j hk => rs_mv_J _ _ _ _ k j (by omega))
  refine k_D_enB he (by decide) h5 (fun w6 h6' => ?_)
  have r4 : rf_Lk (rs_mvs D2 e l) e := rs_mv_L r3 o3 l (k := 3) (by decide)
  have h6 : rf_K G w6 (rs_mvs D2 e l) none F rf_Q0 := h6'
  have hx : (rs_mvs D2 e l).2 = D2.2 := by
    unfold rs_mvs
    rw [rs_mv_X, rs_mv_X, rs_mv_X, rs_mv_X]
  have hlen := h6.len hr
  refine ev_iload dd_D_end_168 rfl ?_
  refine ev_ic (v := 4) dd_D_end_170 (by decide +kernel) ?_
  refine ev_icmp_ge dd_D_end_171 (fun _ => ?_) (fun c => absurd (by decide) c)
  refine ev_aload_n dd_D_end_213 rfl ?_
  refine R_gA (k := 11) dd_D_end_214 fr_D_38 h6 rfl ?_
  refine ev_bp (v := 18) dd_D_end_217 (by decide +kernel) ?_
  refine ev_iload_n dd_D_end_219 rfl ?_
  refine ev_iadd dd_D_end_220 ?_
  rw [show (18 : Int32) + Int32.ofNat e = Int32.ofNat (18 + e) from nI_add 18 e]
  refine R_sz dd_D_end_221 h6 hr ?_
  refine ev_istore dd_D_end_222 (by decide) ?_
  refine ev_ic (v := 0) dd_D_end_224 (by decide +kernel) ?_
  refine ev_istore dd_D_end_225 (by decide) ?_
  unfold rs_en2
  exact k_D_enC he hlen _ [] 0 _ w6 _ rfl rfl rfl rfl rfl (by omega) (by rw [List.append_nil]) (by rw [hx, q3]; exact hc1) r4 h6
end RfY
