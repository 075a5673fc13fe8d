/-! the law: its loop -/
theorem and15 (x : Int32) : ∃ k, k < 16 ∧ x &&& 15 = Int32.ofNat k := by
  refine ⟨x.toBitVec.toNat % 16, Nat.mod_lt _ (by omega), ?_⟩
  apply Int32.toBitVec_inj.mp
  apply BitVec.eq_of_toNat_eq
  show (x.toBitVec &&& 15#32).toNat = (BitVec.ofNat 32 (x.toBitVec.toNat % 16)).toNat
  have h1 : x.toBitVec.toNat &&& 15 = x.toBitVec.toNat % 16 := Nat.and_two_pow_sub_one_eq_mod x.toBitVec.toNat 4
  rw [BitVec.toNat_and]
  show x.toBitVec.toNat &&& 15 = (BitVec.ofNat 32 (x.toBitVec.toNat % 16)).toNat
  rw [h1, BitVec.toNat_ofNat]
  omega
theorem not_gt {Ls k : Nat} (hL : Ls ≤ 2560) (hk : k < 2 ^ 30) (h : ¬ Int32.ofNat Ls - 5 < Int32.ofNat k) : k + 5 ≤ Ls := by
  by_cases c : 5 ≤ Ls
  · have e : Int32.ofNat Ls - 5 = Int32.ofNat (Ls - 5) := (nI_dn (a := 5) c).symm
    rw [e] at h
    rcases Nat.lt_or_ge (Ls - 5) k with y | y
    · exact absurd (nI_lt y (by omega)) h
    · omega
  · have h0 : (0 : Int32) ≤ Int32.ofNat k := Int32.not_lt.mp (ev_on k (by omega))
    refine absurd (Int32.lt_of_lt_of_le ?_ h0) h
    rcases (show Ls = 0 ∨ Ls = 1 ∨ Ls = 2 ∨ Ls = 3 ∨ Ls = 4 by omega) with rfl | rfl | rfl | rfl | rfl <;> decide
section Law6
variable {G : ev_gx} {d : Nat} {q0 mi bb Ls : Nat} {xs : Nat → Int32} {hh : List (Nat × Nat × Nat × Nat)}
def Pfin : ev_r → ev_wd → Prop := fun t _ => t = .inl (some (.int 1))
theorem law_loop (hq : q0 < ev_b G) (J : ev_J G q0 mi) (Y : ev_Y G) (Y2 : ev_Y2 G) (hX : va_X bb Ls xs (ev_s0 G) (ev_s0 G).heap) (hbl : bb < ev_b G) (hL : Ls ≤ 2560) : ∀ (k m : Nat) (w : ev_wd) (C : cr_C) (n : Nat) (D : rf_C) (o : Int64), Ls ≤ 5 * (m + k) → 5 * m ≤ Ls → LW G q0 w C n D o → RR m C D → ib C → n ≤ 12 * m → ev_E G (mm_W hh) (d + 15) 23 (L5 G bb m) [] w Pfin := by
  intro k
  induction k with
  | zero =>
    intro m w C n D o hk hle h hR hI hn
    refine ev_iload dd_W_law_23 rfl ?_
    refine ev_aload_n dd_W_law_25 rfl ?_
    refine ev_slen hX hbl dd_W_law_26 ?_
    refine ev_ic (v := 5) dd_W_law_27 (by decide +kernel) ?_
    refine ev_isub dd_W_law_28 ?_
    refine ev_icmp_gt dd_W_law_29 (fun _ => ?_) (fun hc => absurd (not_gt hL (by omega) hc) (by omega))
    refine ev_ic (v := 1) dd_W_law_896 (by decide +kernel) ?_
    refine ev_iret dd_W_law_897 rfl rfl ?_
    rfl
  | succ k ih =>
    intro m w C n D o hk hle h hR hI hn
    refine ev_iload dd_W_law_23 rfl ?_
    refine ev_aload_n dd_W_law_25 rfl ?_
    refine ev_slen hX hbl dd_W_law_26 ?_
    refine ev_ic (v := 5) dd_W_law_27 (by decide +kernel) ?_
    refine ev_isub dd_W_law_28 ?_
    refine ev_icmp_gt dd_W_law_29 (fun _ => ?_) (fun hc => ?_)
    · refine ev_ic (v := 1) dd_W_law_896 (by decide +kernel) ?_
      refine ev_iret dd_W_law_897 rfl rfl ?_
      rfl
    · have hm : 5 * m + 5 ≤ Ls := not_gt hL (by omega) hc
      have kk : KK G q0 bb m d hh Pfin := fun w' C' n' D' o' h' hR' hI' hn' => by
        refine ev_iinc dd_W_law_890 rfl (Nat.le_of_ble_eq_true rfl) ?_
        refine ev_goto dd_W_law_893 ?_
        refine ev_loc5 (i0 := 0) (i1 := 1) (i2 := 2) (i3 := 3) (i4 := 4) rfl rfl rfl rfl (v4 := .int (Int32.ofNat (5 * (m + 1)))) (by rw [show 5 * (m + 1) = 5 * m + 5 by omega, ← show Int32.ofNat (5 * m) + Int32.ofNat 5 = Int32.ofNat (5 * m + 5) from nI_add _ _]; rfl) ?_
        exact ih (m + 1) w' C' n' D' o' (by omega) (by omega) h' hR' hI' hn'
      refine ev_aload_n dd_W_law_32 rfl ?_
      refine ev_iload dd_W_law_33 rfl ?_
      refine ev_sld hX hbl dd_W_law_35 (nI_in (show 5 * m < Ls by omega) (by omega)) ?_
      rw [ev_cl _ (by omega)]
      refine ev_bp (v := 15) dd_W_law_36 (by decide +kernel) ?_
      refine ev_iand dd_W_law_38 ?_
      obtain ⟨y, hy, ey⟩ := and15 (xs (5 * m))
      rw [ey]
      rcases (show y = 0 ∨ y = 1 ∨ y = 2 ∨ y = 3 ∨ y = 4 ∨ y = 5 ∨ y = 6 ∨ y = 7 ∨ y = 8 ∨ y = 9 ∨ y = 10 ∨ y = 11 ∨ y = 12 ∨ y = 13 ∨ y = 14 ∨ y = 15 by omega) with rfl | rfl | rfl | rfl | rfl | rfl | rfl | rfl | rfl | rfl | rfl | rfl | rfl | rfl | rfl | rfl
      · exact ev_tableIn (tgt := 104) dd_W_law_39 (by decide) (by decide) rfl (by decide) (do_start hq J Y Y2 hX hbl hL hm h hR hI hn kk)
      · exact ev_tableIn (tgt := 179) dd_W_law_39 (by decide) (by decide) rfl (by decide) (do_stop hq J Y Y2 hX hbl hL hm h hR hI hn kk)
      · exact ev_tableIn (tgt := 254) dd_W_law_39 (by decide) (by decide) rfl (by decide) (do_fault hq J Y Y2 hX hbl hL hm h hR hI hn kk)
      · exact ev_tableIn (tgt := 326) dd_W_law_39 (by decide) (by decide) rfl (by decide) (do_submit hq J Y Y2 hX hbl hL hm h hR hI hn kk)
      · exact ev_tableIn (tgt := 413) dd_W_law_39 (by decide) (by decide) rfl (by decide) (do_tick hq J Y Y2 hX hbl hL hm h hR hI hn kk)
      · exact ev_tableIn (tgt := 426) dd_W_law_39 (by decide) (by decide) rfl (by decide) (do_state hq J Y Y2 hX hbl hL hm h hR hI hn kk)
      · exact ev_tableIn (tgt := 494) dd_W_law_39 (by decide) (by decide) rfl (by decide) (do_of hq J Y Y2 hX hbl hL hm h hR hI hn kk)
      · exact ev_tableIn (tgt := 574) dd_W_law_39 (by decide) (by decide) rfl (by decide) (do_link hq J Y Y2 hX hbl hL hm h hR hI hn kk)
      · exact ev_tableIn (tgt := 642) dd_W_law_39 (by decide) (by decide) rfl (by decide) (do_changes hq J Y Y2 hX hbl hL hm h hR hI hn kk)
      · exact ev_tableIn (tgt := 710) dd_W_law_39 (by decide) (by decide) rfl (by decide) (do_held hq J Y Y2 hX hbl hL hm h hR hI hn kk)
      · exact ev_tableIn (tgt := 766) dd_W_law_39 (by decide) (by decide) rfl (by decide) (do_inbox hq J Y Y2 hX hbl hL hm h hR hI hn kk)
      · exact ev_tableIn (tgt := 822) dd_W_law_39 (by decide) (by decide) rfl (by decide) (do_take hq J Y Y2 hX hbl hL hm h hR hI hn kk)
      · exact ev_tableIn (tgt := 877) dd_W_law_39 (by decide) (by decide) rfl (by decide) (do_lost hq J Y Y2 hX hbl hL hm h hR hI hn kk)
      all_goals exact ev_tableOut (tgt := 890) dd_W_law_39 (by decide) (by decide) (kk w C n D o h ⟨hR.1, hR.2.1.upN (by omega), by have := hR.2.2; omega⟩ hI (by omega))
/-- the law's body from its first instruction: the world is empty -/
theorem law_body (hq : q0 < ev_b G) (J : ev_J G q0 mi) (Y : ev_Y G) (Y2 : ev_Y2 G) (hX : va_X bb Ls xs (ev_s0 G) (ev_s0 G).heap) (hbl : bb < ev_b G) (hL : Ls ≤ 2560) {w : ev_wd} (hz : ev_z w = ev_b G) (hu : ev_u w = 0) : ev_E G (mm_W hh) (d + 15) 0 [(0, .ref bb)] [] w Pfin := by
  have e0 : w = wl w [] 0 := by
    have h := wl_nil w
    rw [hu] at h
    exact h.symm
  refine ev_eqw e0 ?_
  refine B_new (n := 0) dd_W_law_0 rfl ck_0 kl_W_8 rfl (by omega) (show 0 + 2 ≤ 7293034 by omega) ?_
  refine ev_dup dd_W_law_3 rfl ?_
  refine B_call (k := 0) dd_W_law_4 ms_P_init ii_W_55 (Nat.le_of_ble_eq_true rfl) (Nat.le_of_ble_eq_true rfl) (bc_P (d := d + 8) J) rfl (by omega) (by omega) (show 0 + 2 + 554 ≤ 7293034 by omega) (fun v1 hv1 => ?_)
  have hv2 : v1 ≤ 556 := hv1
  have hlen : ([] ++ lPa (lEn q0) (ev_z w + 0)).length = 77 := rfl
  refine ev_astore_n dd_W_law_7 (Nat.le_of_ble_eq_true rfl) ?_
  refine B_new (n := 77) dd_W_law_8 rfl ck_8 kl_W_56 hlen (by omega) (show v1 + 51 ≤ 7293034 by omega) ?_
  refine ev_dup dd_W_law_11 rfl ?_
  have ew : wl w ([] ++ lPa (lEn q0) (ev_z w + 0) ++ [(8, 0, fun k => defaultValue (nm_ft 8 k))]) (v1 + 51) = wl (wl w (lPa (lEn q0) (ev_z w)) v1) [(8, 0, fun k => defaultValue (nm_ft 8 k))] (v1 + 51) := by
    rw [wl_ap]
    rfl
  refine ev_eqw ew ?_
  have hz1 : ev_z (wl w (lPa (lEn q0) (ev_z w)) v1) = ev_b G + 77 := by
    show ev_z w + 77 = ev_b G + 77
    omega
  have hcell : ∀ i c, (lPa (lEn q0) (ev_b G))[i]? = some c → ev_g (wl w (lPa (lEn q0) (ev_z w)) v1) (ev_b G + i) = c.1 ∧ ev_n (wl w (lPa (lEn q0) (ev_z w)) v1) (ev_b G + i) = c.2.1 ∧ ev_v (wl w (lPa (lEn q0) (ev_z w)) v1) (ev_b G + i) = c.2.2 := fun i c hc => by
    rw [← hz] at hc ⊢
    exact ⟨wl_g hc, wl_n hc, wl_v hc⟩
  generalize wl w (lPa (lEn q0) (ev_z w)) v1 = w1 at *
  have hD := c_D_init (G := G) (w0 := w1) (u := v1 + 51) (d := d + 11) hz1 (by omega)
  refine ev_calli [] dd_W_law_12 ms_D_init ii_W_58 rfl (Nat.le_of_ble_eq_true rfl) (Nat.le_of_ble_eq_true rfl) (b := ev_z w + 77) (by rw [show ev_z w + 77 = ev_z w1 + 0 by omega]; exact hD) (fun v w2 hp hzz _ => ?_) (fun x w3 hp _ _ => by obtain ⟨h1, -⟩ := hp; cases h1)
  obtain ⟨h1, y, hy, hK⟩ := hp
  cases h1
  have hf : rf_f G w2 (wl w1 ((8, 0, fn (ev_z w1) 1 46) :: la 46) y) := by
    obtain ⟨A, xs', own, fs, mk, ⟨-, hf⟩, -⟩ := hK
    exact hf
  have hz2 : ev_z w2 = ev_b G + 124 := by
    rw [hf.1, wl_len, List.length_cons, la_len]
    omega
  have hu2 : ev_u w2 = y := hf.2.1
  refine ev_astore_n dd_W_law_15 (Nat.le_of_ble_eq_true rfl) ?_
  refine ev_ic (v := 1) dd_W_law_16 (by decide +kernel) ?_
  refine ev_newa (t := 2) (n := 1) dd_W_law_17 rfl ac_long (by decide) (by decide) (by omega) (by rw [hu2]; show y + 1 ≤ 7293034; omega) ?_
  have hg3 : ∀ a, a < ev_b G + 124 → ev_g (ev_add w2 (100 + 2) (1 : Int32).toNatClampNeg (fun _ => defaultValue (newarray.typeOf .long)) (1 : Int32).toNatClampNeg) a = ev_g w2 a ∧ ev_n (ev_add w2 (100 + 2) (1 : Int32).toNatClampNeg (fun _ => defaultValue (newarray.typeOf .long)) (1 : Int32).toNatClampNeg) a = ev_n w2 a ∧ ev_v (ev_add w2 (100 + 2) (1 : Int32).toNatClampNeg (fun _ => defaultValue (newarray.typeOf .long)) (1 : Int32).toNatClampNeg) a = ev_v w2 a := fun a ha => by
    have hne : ¬ a = ev_z w2 := by omega
    exact ⟨if_neg hne, if_neg hne, funext fun j => if_neg hne⟩
  have hat : ev_g (ev_add w2 (100 + 2) (1 : Int32).toNatClampNeg (fun _ => defaultValue (newarray.typeOf .long)) (1 : Int32).toNatClampNeg) (ev_b G + 124) = 102 ∧ ev_n (ev_add w2 (100 + 2) (1 : Int32).toNatClampNeg (fun _ => defaultValue (newarray.typeOf .long)) (1 : Int32).toNatClampNeg) (ev_b G + 124) = 1 ∧ ev_v (ev_add w2 (100 + 2) (1 : Int32).toNatClampNeg (fun _ => defaultValue (newarray.typeOf .long)) (1 : Int32).toNatClampNeg) (ev_b G + 124) 0 = .long 0 := ⟨if_pos hz2.symm, if_pos hz2.symm, if_pos hz2.symm⟩
  have hz3 : ev_z (ev_add w2 (100 + 2) (1 : Int32).toNatClampNeg (fun _ => defaultValue (newarray.typeOf .long)) (1 : Int32).toNatClampNeg) = ev_b G + 125 := by
    show ev_z w2 + 1 = _
    omega
  have hu3 : ev_u (ev_add w2 (100 + 2) (1 : Int32).toNatClampNeg (fun _ => defaultValue (newarray.typeOf .long)) (1 : Int32).toNatClampNeg) ≤ 500000 := by
    show ev_u w2 + 1 ≤ _
    omega
  generalize ev_add w2 (100 + 2) (1 : Int32).toNatClampNeg (fun _ => defaultValue (newarray.typeOf .long)) (1 : Int32).toNatClampNeg = w3 at *
  have hc3 : ∀ i c, (lPa (lEn q0) (ev_b G))[i]? = some c → ev_g w3 (ev_b G + i) = c.1 ∧ ev_n w3 (ev_b G + i) = c.2.1 ∧ ev_v w3 (ev_b G + i) = c.2.2 := fun i c hc => by
    have hi : i < 77 := wl_lt hc
    obtain ⟨a1, a2, a3⟩ := hcell i c hc
    obtain ⟨b1, b2, b3⟩ := hg3 (ev_b G + i) (by omega)
    have lo : ev_b G + i < ev_z w1 := by omega
    refine ⟨?_, ?_, ?_⟩
    · rw [b1, hf.2.2.1]
      exact (wp_lo lo).trans a1
    · rw [b2, hf.2.2.2.1]
      exact (wp_lo lo).trans a2
    · rw [b3, hf.2.2.2.2 _ (Or.inl (by omega))]
      exact (wp_lo lo).trans a3
  have hC : cr_K G q0 w3 C00 0 w3 Q00 := c_K0 hc3 hz3 hu3 (fun a _ _ => ⟨rfl, rfl, rfl⟩)
  have hLW : LW G q0 w3 C00 0 D01 0 := ⟨hC, hK.mv (by omega) (fun a _ h2 => hg3 a h2), hat.1, hat.2.1, hat.2.2⟩
  rw [hz2]
  refine ev_astore_n dd_W_law_19 (Nat.le_of_ble_eq_true rfl) ?_
  refine ev_ic (v := 0) dd_W_law_20 (by decide +kernel) ?_
  refine ev_istore dd_W_law_21 (Nat.le_of_ble_eq_true rfl) ?_
  refine ev_loc5 (i0 := 0) (i1 := 1) (i2 := 2) (i3 := 3) (i4 := 4) rfl (v1 := .ref (ev_b G + cr_o 12 0)) (by rw [← hz]; rfl) (v2 := .ref (ev_b G + 77)) (by rw [← hz]; rfl) rfl (v4 := .int (Int32.ofNat (5 * 0))) rfl ?_
  exact law_loop hq J Y Y2 hX hbl hL Ls 0 w3 C00 0 D01 0 (by omega) (by omega) hLW RR0 (fun r _ _ μ hμ => absurd hμ List.not_mem_nil) (Nat.le_refl _)
end Law6
