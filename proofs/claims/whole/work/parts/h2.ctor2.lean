/-! the constructors of an end and of the pair -/
def lEn (q0 z : Nat) : List ce := [(1, 0, up (up (up (up (up (up (up (fd0 1) 0 (.ref (z + 1))) 1 (.ref (z + 2))) 2 (.ref (z + 30))) 3 (.ref (z + 31))) 4 (.ref (z + 32))) 5 (.ref (z + 33))) 6 (.int 0)), (105, 3, up (up (up (fun _ => .null) 0 (.ref (z + 3))) 1 (.ref (z + 12))) 2 (.ref (z + 21))), (106, 3, up (up (up (fun _ => .null) 0 (.ref (z + 10))) 1 (.ref (z + 19))) 2 (.ref (z + 28)))] ++ lSi q0 (z + 3) ++ lCh q0 (z + 10) ++ lSi q0 (z + 12) ++ lCh q0 (z + 19) ++ lSi q0 (z + 21) ++ lCh q0 (z + 28) ++ [(100, 4, up (up (up (up (fun _ => .int 0) 0 (.int (Int32.ofNat 0 - Int32.ofNat 0 / 3 * 3))) 1 (.int (Int32.ofNat 1 - Int32.ofNat 1 / 3 * 3))) 2 (.int (Int32.ofNat 2 - Int32.ofNat 2 / 3 * 3))) 3 (.int (Int32.ofNat 3 - Int32.ofNat 3 / 3 * 3))), (100, 4, fun _ => .int 0), cA q0, cA q0]
section BldC
variable {G : ev_gx} {M : ev_mx} {d pc pc' tgt : Nat} {L : List (Nat × Value)} {st : List Value} {w0 : ev_wd} {P : ev_r → ev_wd → Prop} {cs : List ce} {u q0 mi : Nat}
theorem bc_E (J : ev_J G q0 mi) : bc G mm_E_init (d + 5) (lEn q0) 1 34 260 := by
  intro w0 u hb hz hu
  refine ev_aload_n dd_E_init_0 rfl ?_
  refine ev_obji dd_E_init_1 oi_E_3 oi_i oi_c (Nat.le_of_ble_eq_true rfl) ?_
  refine ev_aload_n dd_E_init_4 rfl ?_
  refine ev_ic (v := 3) dd_E_init_5 (by decide +kernel) ?_
  refine B_anew (t := 5) (m := 3) (n := 1) dd_E_init_6 rfl kl_E_9 ao_S rfl (by omega) (by omega) (by omega) ?_
  refine B_putF (i := 0) dd_E_init_9 fk_E_11 rfl hb rfl rfl rfl rfl ?_
  refine ev_aload_n dd_E_init_12 rfl ?_
  refine ev_ic (v := 3) dd_E_init_13 (by decide +kernel) ?_
  refine B_anew (t := 6) (m := 3) (n := 2) dd_E_init_14 rfl kl_E_17 ao_C rfl (by omega) (by omega) (by omega) ?_
  refine B_putF (i := 0) dd_E_init_17 fk_E_19 rfl hb rfl rfl rfl rfl ?_
  refine ev_ic (v := 0) dd_E_init_20 (by decide +kernel) ?_
  refine ev_istore_n dd_E_init_21 (by decide) ?_
  refine ev_loc2 (i0 := 0) (i1 := 1) rfl (v1 := .int (Int32.ofNat 0)) rfl ?_
  obtain ⟨a0, ha0⟩ : ∃ a0, a0 = u + 3 + 3 := ⟨_, rfl⟩
  rw [← ha0]
  refine ev_iload_n dd_E_init_22 rfl ?_
  refine ev_ic (v := 3) dd_E_init_23 (by decide +kernel) ?_
  refine ev_icmp_ge dd_E_init_24 (fun hc => absurd hc (by decide)) (fun _ => ?_)
  refine ev_aload_n dd_E_init_27 rfl ?_
  refine B_get (i := 0) dd_E_init_28 fr_E_11 hb rfl rfl rfl ?_
  refine ev_iload_n dd_E_init_31 rfl ?_
  refine B_new (n := 3) dd_E_init_32 rfl ck_2 kl_E_9 rfl (by omega) (show a0 + 20 ≤ 7293034 by omega) ?_
  refine ev_dup dd_E_init_35 rfl ?_
  refine B_call (k := 3) dd_E_init_36 ms_S_init ii_E_23 (Nat.le_of_ble_eq_true rfl) (Nat.le_of_ble_eq_true rfl) (bc_S (d := d) J) rfl hb (by omega) (show a0 + 20 + 47 ≤ 7293034 by omega) (fun b0 hb0 => ?_)
  have hc0 : b0 ≤ a0 + 20 + 47 := hb0
  refine B_aast (i := 1) (j := 0) (v := 3) (cl := 2) (t := 5) (E := "ThreeLinkPair$Side") dd_E_init_39 hb rfl rfl rfl (show 0 < 3 by omega) (by omega) (show 3 ≤ 2400 by omega) rfl rfl rfl rfl ?_
  refine ev_aload_n dd_E_init_40 rfl ?_
  refine B_get (i := 0) dd_E_init_41 fr_E_19 hb rfl rfl rfl ?_
  refine ev_iload_n dd_E_init_44 rfl ?_
  refine B_new (n := 10) dd_E_init_45 rfl ck_3 kl_E_17 rfl (by omega) (show b0 + 10 ≤ 7293034 by omega) ?_
  refine ev_dup dd_E_init_48 rfl ?_
  refine B_call (k := 10) dd_E_init_49 ms_C_init ii_E_24 (Nat.le_of_ble_eq_true rfl) (Nat.le_of_ble_eq_true rfl) (bc_C (d := d) J) rfl hb (by omega) (show b0 + 10 + 3 ≤ 7293034 by omega) (fun a1 ha1 => ?_)
  have hd0 : a1 ≤ b0 + 10 + 3 := ha1
  refine B_aast (i := 2) (j := 0) (v := 10) (cl := 3) (t := 6) (E := "ThreeLinkPair$Changeover") dd_E_init_52 hb rfl rfl rfl (show 0 < 3 by omega) (by omega) (show 3 ≤ 2400 by omega) rfl rfl rfl rfl ?_
  refine ev_iinc dd_E_init_53 rfl (by decide) ?_
  refine ev_goto dd_E_init_56 ?_
  refine ev_loc2 (i0 := 0) (i1 := 1) rfl (v1 := .int (Int32.ofNat 1)) rfl ?_
  refine ev_iload_n dd_E_init_22 rfl ?_
  refine ev_ic (v := 3) dd_E_init_23 (by decide +kernel) ?_
  refine ev_icmp_ge dd_E_init_24 (fun hc => absurd hc (by decide)) (fun _ => ?_)
  refine ev_aload_n dd_E_init_27 rfl ?_
  refine B_get (i := 0) dd_E_init_28 fr_E_11 hb rfl rfl rfl ?_
  refine ev_iload_n dd_E_init_31 rfl ?_
  refine B_new (n := 12) dd_E_init_32 rfl ck_2 kl_E_9 rfl (by omega) (show a1 + 20 ≤ 7293034 by omega) ?_
  refine ev_dup dd_E_init_35 rfl ?_
  refine B_call (k := 12) dd_E_init_36 ms_S_init ii_E_23 (Nat.le_of_ble_eq_true rfl) (Nat.le_of_ble_eq_true rfl) (bc_S (d := d) J) rfl hb (by omega) (show a1 + 20 + 47 ≤ 7293034 by omega) (fun b1 hb1 => ?_)
  have hc1 : b1 ≤ a1 + 20 + 47 := hb1
  refine B_aast (i := 1) (j := 1) (v := 12) (cl := 2) (t := 5) (E := "ThreeLinkPair$Side") dd_E_init_39 hb rfl rfl rfl (show 1 < 3 by omega) (by omega) (show 3 ≤ 2400 by omega) rfl rfl rfl rfl ?_
  refine ev_aload_n dd_E_init_40 rfl ?_
  refine B_get (i := 0) dd_E_init_41 fr_E_19 hb rfl rfl rfl ?_
  refine ev_iload_n dd_E_init_44 rfl ?_
  refine B_new (n := 19) dd_E_init_45 rfl ck_3 kl_E_17 rfl (by omega) (show b1 + 10 ≤ 7293034 by omega) ?_
  refine ev_dup dd_E_init_48 rfl ?_
  refine B_call (k := 19) dd_E_init_49 ms_C_init ii_E_24 (Nat.le_of_ble_eq_true rfl) (Nat.le_of_ble_eq_true rfl) (bc_C (d := d) J) rfl hb (by omega) (show b1 + 10 + 3 ≤ 7293034 by omega) (fun a2 ha2 => ?_)
  have hd1 : a2 ≤ b1 + 10 + 3 := ha2
  refine B_aast (i := 2) (j := 1) (v := 19) (cl := 3) (t := 6) (E := "ThreeLinkPair$Changeover") dd_E_init_52 hb rfl rfl rfl (show 1 < 3 by omega) (by omega) (show 3 ≤ 2400 by omega) rfl rfl rfl rfl ?_
  refine ev_iinc dd_E_init_53 rfl (by decide) ?_
  refine ev_goto dd_E_init_56 ?_
  refine ev_loc2 (i0 := 0) (i1 := 1) rfl (v1 := .int (Int32.ofNat 2)) rfl ?_
  refine ev_iload_n dd_E_init_22 rfl ?_
  refine ev_ic (v := 3) dd_E_init_23 (by decide +kernel) ?_
  refine ev_icmp_ge dd_E_init_24 (fun hc => absurd hc (by decide)) (fun _ => ?_)
  refine ev_aload_n dd_E_init_27 rfl ?_
  refine B_get (i := 0) dd_E_init_28 fr_E_11 hb rfl rfl rfl ?_
  refine ev_iload_n dd_E_init_31 rfl ?_
  refine B_new (n := 21) dd_E_init_32 rfl ck_2 kl_E_9 rfl (by omega) (show a2 + 20 ≤ 7293034 by omega) ?_
  refine ev_dup dd_E_init_35 rfl ?_
  refine B_call (k := 21) dd_E_init_36 ms_S_init ii_E_23 (Nat.le_of_ble_eq_true rfl) (Nat.le_of_ble_eq_true rfl) (bc_S (d := d) J) rfl hb (by omega) (show a2 + 20 + 47 ≤ 7293034 by omega) (fun b2 hb2 => ?_)
  have hc2 : b2 ≤ a2 + 20 + 47 := hb2
  refine B_aast (i := 1) (j := 2) (v := 21) (cl := 2) (t := 5) (E := "ThreeLinkPair$Side") dd_E_init_39 hb rfl rfl rfl (show 2 < 3 by omega) (by omega) (show 3 ≤ 2400 by omega) rfl rfl rfl rfl ?_
  refine ev_aload_n dd_E_init_40 rfl ?_
  refine B_get (i := 0) dd_E_init_41 fr_E_19 hb rfl rfl rfl ?_
  refine ev_iload_n dd_E_init_44 rfl ?_
  refine B_new (n := 28) dd_E_init_45 rfl ck_3 kl_E_17 rfl (by omega) (show b2 + 10 ≤ 7293034 by omega) ?_
  refine ev_dup dd_E_init_48 rfl ?_
  refine B_call (k := 28) dd_E_init_49 ms_C_init ii_E_24 (Nat.le_of_ble_eq_true rfl) (Nat.le_of_ble_eq_true rfl) (bc_C (d := d) J) rfl hb (by omega) (show b2 + 10 + 3 ≤ 7293034 by omega) (fun a3 ha3 => ?_)
  have hd2 : a3 ≤ b2 + 10 + 3 := ha3
  refine B_aast (i := 2) (j := 2) (v := 28) (cl := 3) (t := 6) (E := "ThreeLinkPair$Changeover") dd_E_init_52 hb rfl rfl rfl (show 2 < 3 by omega) (by omega) (show 3 ≤ 2400 by omega) rfl rfl rfl rfl ?_
  refine ev_iinc dd_E_init_53 rfl (by decide) ?_
  refine ev_goto dd_E_init_56 ?_
  refine ev_loc2 (i0 := 0) (i1 := 1) rfl (v1 := .int (Int32.ofNat 3)) rfl ?_
  refine ev_iload_n dd_E_init_22 rfl ?_
  refine ev_ic (v := 3) dd_E_init_23 (by decide +kernel) ?_
  refine ev_icmp_ge dd_E_init_24 (fun _ => ?_) (fun hc => absurd (by decide) hc)
  refine ev_aload_n dd_E_init_59 rfl ?_
  refine ev_ic (v := 4) dd_E_init_60 (by decide +kernel) ?_
  refine B_newi (m := 4) (n := 30) dd_E_init_61 rfl (by omega) (by omega) (by omega) ?_
  refine B_putF (i := 0) dd_E_init_63 fk_E_25 rfl hb rfl rfl rfl rfl ?_
  refine ev_aload_n dd_E_init_66 rfl ?_
  refine ev_ic (v := 4) dd_E_init_67 (by decide +kernel) ?_
  refine B_newi (m := 4) (n := 31) dd_E_init_68 rfl (by omega) (by omega) (by omega) ?_
  refine B_putF (i := 0) dd_E_init_70 fk_E_29 rfl hb rfl rfl rfl rfl ?_
  refine ev_ic (v := 0) dd_E_init_73 (by decide +kernel) ?_
  refine ev_istore_n dd_E_init_74 (by decide) ?_
  refine ev_loc2 (i0 := 0) (i1 := 1) rfl (v1 := .int (Int32.ofNat 0)) rfl ?_
  refine ev_iload_n dd_E_init_75 rfl ?_
  refine ev_ic (v := 4) dd_E_init_76 (by decide +kernel) ?_
  refine ev_icmp_ge dd_E_init_77 (fun hc => absurd hc (by decide)) (fun _ => ?_)
  refine ev_aload_n dd_E_init_80 rfl ?_
  refine B_get (i := 0) dd_E_init_81 fr_E_25 hb rfl rfl rfl ?_
  refine ev_iload_n dd_E_init_84 rfl ?_
  refine ev_iload_n dd_E_init_85 rfl ?_
  refine ev_ic (v := 3) dd_E_init_86 (by decide +kernel) ?_
  refine ev_irem dd_E_init_87 (by decide) ?_
  refine B_iast (i := 30) (j := 0) dd_E_init_88 hb rfl rfl (show 0 < 4 by omega) (show 4 ≤ 2400 by omega) ?_
  refine ev_iinc dd_E_init_89 rfl (by decide) ?_
  refine ev_goto dd_E_init_92 ?_
  refine ev_loc2 (i0 := 0) (i1 := 1) rfl (v1 := .int (Int32.ofNat 1)) rfl ?_
  refine ev_iload_n dd_E_init_75 rfl ?_
  refine ev_ic (v := 4) dd_E_init_76 (by decide +kernel) ?_
  refine ev_icmp_ge dd_E_init_77 (fun hc => absurd hc (by decide)) (fun _ => ?_)
  refine ev_aload_n dd_E_init_80 rfl ?_
  refine B_get (i := 0) dd_E_init_81 fr_E_25 hb rfl rfl rfl ?_
  refine ev_iload_n dd_E_init_84 rfl ?_
  refine ev_iload_n dd_E_init_85 rfl ?_
  refine ev_ic (v := 3) dd_E_init_86 (by decide +kernel) ?_
  refine ev_irem dd_E_init_87 (by decide) ?_
  refine B_iast (i := 30) (j := 1) dd_E_init_88 hb rfl rfl (show 1 < 4 by omega) (show 4 ≤ 2400 by omega) ?_
  refine ev_iinc dd_E_init_89 rfl (by decide) ?_
  refine ev_goto dd_E_init_92 ?_
  refine ev_loc2 (i0 := 0) (i1 := 1) rfl (v1 := .int (Int32.ofNat 2)) rfl ?_
  refine ev_iload_n dd_E_init_75 rfl ?_
  refine ev_ic (v := 4) dd_E_init_76 (by decide +kernel) ?_
  refine ev_icmp_ge dd_E_init_77 (fun hc => absurd hc (by decide)) (fun _ => ?_)
  refine ev_aload_n dd_E_init_80 rfl ?_
  refine B_get (i := 0) dd_E_init_81 fr_E_25 hb rfl rfl rfl ?_
  refine ev_iload_n dd_E_init_84 rfl ?_
  refine ev_iload_n dd_E_init_85 rfl ?_
  refine ev_ic (v := 3) dd_E_init_86 (by decide +kernel) ?_
  refine ev_irem dd_E_init_87 (by decide) ?_
  refine B_iast (i := 30) (j := 2) dd_E_init_88 hb rfl rfl (show 2 < 4 by omega) (show 4 ≤ 2400 by omega) ?_
  refine ev_iinc dd_E_init_89 rfl (by decide) ?_
  refine ev_goto dd_E_init_92 ?_
  refine ev_loc2 (i0 := 0) (i1 := 1) rfl (v1 := .int (Int32.ofNat 3)) rfl ?_
  refine ev_iload_n dd_E_init_75 rfl ?_
  refine ev_ic (v := 4) dd_E_init_76 (by decide +kernel) ?_
  refine ev_icmp_ge dd_E_init_77 (fun hc => absurd hc (by decide)) (fun _ => ?_)
  refine ev_aload_n dd_E_init_80 rfl ?_
  refine B_get (i := 0) dd_E_init_81 fr_E_25 hb rfl rfl rfl ?_
  refine ev_iload_n dd_E_init_84 rfl ?_
  refine ev_iload_n dd_E_init_85 rfl ?_
  refine ev_ic (v := 3) dd_E_init_86 (by decide +kernel) ?_
  refine ev_irem dd_E_init_87 (by decide) ?_
  refine B_iast (i := 30) (j := 3) dd_E_init_88 hb rfl rfl (show 3 < 4 by omega) (show 4 ≤ 2400 by omega) ?_
  refine ev_iinc dd_E_init_89 rfl (by decide) ?_
  refine ev_goto dd_E_init_92 ?_
  refine ev_loc2 (i0 := 0) (i1 := 1) rfl (v1 := .int (Int32.ofNat 4)) rfl ?_
  refine ev_iload_n dd_E_init_75 rfl ?_
  refine ev_ic (v := 4) dd_E_init_76 (by decide +kernel) ?_
  refine ev_icmp_ge dd_E_init_77 (fun _ => ?_) (fun hc => absurd (by decide) hc)
  refine ev_aload_n dd_E_init_95 rfl ?_
  refine B_new (n := 32) dd_E_init_96 rfl ck_9 kl_E_32 rfl (by omega) (show a3 + 4 + 4 + 3 ≤ 7293034 by omega) ?_
  refine ev_dup dd_E_init_99 rfl ?_
  refine B_call (k := 32) dd_E_init_100 ms_AL_init ii_E_34 (Nat.le_of_ble_eq_true rfl) (Nat.le_of_ble_eq_true rfl) (bc_AL (d := d + 1) J) rfl hb (by omega) (show a3 + 4 + 4 + 3 + 0 ≤ 7293034 by omega) (fun e1 he1 => ?_)
  have hf1 : e1 ≤ a3 + 4 + 4 + 3 := he1
  refine B_putF (i := 0) dd_E_init_103 fk_E_35 rfl hb rfl rfl rfl rfl ?_
  refine ev_aload_n dd_E_init_106 rfl ?_
  refine B_new (n := 33) dd_E_init_107 rfl ck_9 kl_E_32 rfl (by omega) (show e1 + 3 ≤ 7293034 by omega) ?_
  refine ev_dup dd_E_init_110 rfl ?_
  refine B_call (k := 33) dd_E_init_111 ms_AL_init ii_E_34 (Nat.le_of_ble_eq_true rfl) (Nat.le_of_ble_eq_true rfl) (bc_AL (d := d + 1) J) rfl hb (by omega) (show e1 + 3 + 0 ≤ 7293034 by omega) (fun e2 he2 => ?_)
  have hf2 : e2 ≤ e1 + 3 := he2
  refine B_putF (i := 0) dd_E_init_114 fk_E_39 rfl hb rfl rfl rfl rfl ?_
  refine ev_aload_n dd_E_init_117 rfl ?_
  refine ev_ic (v := 0) dd_E_init_118 (by decide +kernel) ?_
  refine B_put (i := 0) dd_E_init_119 fk_E_42 hb rfl rfl rfl rfl ?_
  refine ev_vret dd_E_init_122 rfl ?_
  exact ⟨rfl, e2, by omega, rfl⟩
end BldC
