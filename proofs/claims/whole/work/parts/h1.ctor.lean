/-! the constructors of the class -/
theorem wl_g {w0 : ev_wd} {cs : List ce} {u i : Nat} {c : ce} (h : cs[i]? = some c) : ev_g (wl w0 cs u) (ev_z w0 + i) = c.1 := wp_at h
theorem wl_n {w0 : ev_wd} {cs : List ce} {u i : Nat} {c : ce} (h : cs[i]? = some c) : ev_n (wl w0 cs u) (ev_z w0 + i) = c.2.1 := wp_at h
theorem wl_v {w0 : ev_wd} {cs : List ce} {u i : Nat} {c : ce} (h : cs[i]? = some c) : ev_v (wl w0 cs u) (ev_z w0 + i) = c.2.2 := wp_at h
def fd0 (cl : Nat) : Nat → Value := fun k => defaultValue (nm_ft cl k)
def cA (q0 : Nat) : ce := (9, 0, up (up (fd0 9) 0 (.int 0)) 1 (.ref q0))
def lMe (z : Nat) : List ce := [(5, 0, up (up (fd0 5) 0 (.ref (z + 1))) 1 (.ref (z + 2))), (100, 16, fun _ => .int 0), ff 16 (.int (-1)) (100, 16, fun _ => .int 0)]
def lUn : List ce := [(7, 0, up (fd0 7) 0 (.int 0))]
def lSi (q0 z : Nat) : List ce := [(2, 0, up (up (up (up (up (up (up (up (up (up (up (up (up (up (up (up (up (up (up (up (fd0 2) 0 (.int 0)) 1 (.int 0)) 2 (.int 0)) 3 (.int 0)) 4 (.int 7)) 5 (.int 7)) 6 (.int 1)) 7 (.int 1)) 8 (.int 0)) 9 (.int 0)) 10 (.int 0)) 11 (.int 0)) 12 (.int 0)) 13 (.int 0)) 14 (.int 0)) 15 (.int 0)) 16 (.ref (z + 1))) 17 (.ref (z + 2))) 18 (.ref (z + 3))) 19 (.ref (z + 6))), cA q0, cA q0] ++ lMe (z + 3) ++ lUn
def lCh (q0 z : Nat) : List ce := [(3, 0, up (up (up (up (up (up (up (up (up (up (fd0 3) 0 (.int 0)) 1 (.int 0)) 2 (.int 0)) 3 (.int 0)) 4 (.int 0)) 5 (.int 0)) 6 (.int 0)) 7 (.int 0)) 8 (.int 0)) 9 (.ref (z + 1))), cA q0]
def lFa : List ce := [(4, 0, up (up (fd0 4) 0 (.int 0)) 1 (.int 0))]
section BldB
variable {G : ev_gx} {M : ev_mx} {d pc pc' tgt : Nat} {L : List (Nat × Value)} {st : List Value} {w0 : ev_wd} {P : ev_r → ev_wd → Prop} {cs : List ce} {u q0 mi : Nat}
theorem bc_AL (J : ev_J G q0 mi) : bc G mm_AL_init (d + 3) (fun _ => [cA q0]) 9 1 0 := by
  intro w0 u hb hz hu
  have h := c_AL_init (G := G) (w := wl w0 [(9, 0, fun k => defaultValue (nm_ft 9 k))] u) (d := d) (a := ev_z w0 + 0) J ⟨by omega, by rw [wl_len]; show ev_z w0 + 0 < ev_z w0 + 1; omega⟩ (wl_g (i := 0) (c := (9, 0, fun k => defaultValue (nm_ft 9 k))) rfl)
  rw [wl_set w0 [(9, 0, fun k => defaultValue (nm_ft 9 k))] u 0 0 (.int 0) rfl, wl_set w0 (md (cu 0 (.int 0)) 0 [(9, 0, fun k => defaultValue (nm_ft 9 k))]) u 0 1 (.ref q0) rfl] at h
  exact ev_mono (fun t w' hp => ⟨hp.1, u, by omega, hp.2⟩) h
theorem bc_Y : bc G mm_Y_init (d + 1) lMe 5 3 32 := by
  intro w0 u hb hz hu
  refine ev_aload_n dd_Y_init_0 rfl ?_
  refine ev_obji dd_Y_init_1 oi_Y_3 oi_i oi_c (Nat.le_of_ble_eq_true rfl) ?_
  refine ev_aload_n dd_Y_init_4 rfl ?_
  refine ev_bp (v := 16) dd_Y_init_5 (by decide +kernel) ?_
  refine B_newi (m := 16) (n := 1) dd_Y_init_7 rfl (by omega) (by omega) (by omega) ?_
  refine B_putF (i := 0) dd_Y_init_9 fk_Y_11 rfl hb rfl rfl rfl rfl ?_
  refine ev_aload_n dd_Y_init_12 rfl ?_
  refine ev_bp (v := 16) dd_Y_init_13 (by decide +kernel) ?_
  refine B_newi (m := 16) (n := 2) dd_Y_init_15 rfl (by omega) (by omega) (by omega) ?_
  refine B_putF (i := 0) dd_Y_init_17 fk_Y_15 rfl hb rfl rfl rfl rfl ?_
  refine ev_aload_n dd_Y_init_20 rfl ?_
  refine B_get (i := 0) dd_Y_init_21 fr_Y_15 hb rfl rfl rfl ?_
  refine ev_ic (v := (-1)) dd_Y_init_24 (by decide +kernel) ?_
  refine ev_callsR [.ref (ev_z w0 + 2), .int (-1)] dd_Y_init_25 ms_AR_fill is_Y_18 rfl (Nat.le_of_ble_eq_true rfl) (Nat.le_of_ble_eq_true rfl) (c_fill (n := 16) (i := 2) hb rfl rfl rfl (by omega)) ?_
  refine ev_vret dd_Y_init_28 rfl ?_
  exact ⟨rfl, u + 16 + 16, by omega, rfl⟩
theorem bc_N : bc G mm_N_init (d + 1) (fun _ => lUn) 7 1 0 := by
  intro w0 u hb hz hu
  refine ev_aload_n dd_N_init_0 rfl ?_
  refine ev_obji dd_N_init_1 oi_N_1 oi_i oi_c (Nat.le_of_ble_eq_true rfl) ?_
  refine ev_aload_n dd_N_init_4 rfl ?_
  refine ev_ic (v := 0) dd_N_init_5 (by decide +kernel) ?_
  refine B_put (i := 0) dd_N_init_6 fk_N_9 hb rfl rfl rfl rfl ?_
  refine ev_vret dd_N_init_9 rfl ?_
  exact ⟨rfl, u, by omega, rfl⟩
theorem bc_F : bc G mm_F_init (d + 1) (fun _ => lFa) 4 1 0 := by
  intro w0 u hb hz hu
  refine ev_aload_n dd_F_init_0 rfl ?_
  refine ev_obji dd_F_init_1 oi_F_3 oi_i oi_c (Nat.le_of_ble_eq_true rfl) ?_
  refine ev_aload_n dd_F_init_4 rfl ?_
  refine ev_ic (v := 0) dd_F_init_5 (by decide +kernel) ?_
  refine B_put (i := 0) dd_F_init_6 fk_F_9 hb rfl rfl rfl rfl ?_
  refine ev_aload_n dd_F_init_9 rfl ?_
  refine ev_ic (v := 0) dd_F_init_10 (by decide +kernel) ?_
  refine B_put (i := 0) dd_F_init_11 fk_F_15 hb rfl rfl rfl rfl ?_
  refine ev_vret dd_F_init_14 rfl ?_
  exact ⟨rfl, u, by omega, rfl⟩
theorem bc_C (J : ev_J G q0 mi) : bc G mm_C_init (d + 4) (lCh q0) 3 2 3 := by
  intro w0 u hb hz hu
  refine ev_aload_n dd_C_init_0 rfl ?_
  refine ev_obji dd_C_init_1 oi_C_3 oi_i oi_c (Nat.le_of_ble_eq_true rfl) ?_
  refine ev_aload_n dd_C_init_4 rfl ?_
  refine ev_ic (v := 0) dd_C_init_5 (by decide +kernel) ?_
  refine B_put (i := 0) dd_C_init_6 fk_C_9 hb rfl rfl rfl rfl ?_
  refine ev_aload_n dd_C_init_9 rfl ?_
  refine ev_ic (v := 0) dd_C_init_10 (by decide +kernel) ?_
  refine B_put (i := 0) dd_C_init_11 fk_C_15 hb rfl rfl rfl rfl ?_
  refine ev_aload_n dd_C_init_14 rfl ?_
  refine ev_ic (v := 0) dd_C_init_15 (by decide +kernel) ?_
  refine B_put (i := 0) dd_C_init_16 fk_C_18 hb rfl rfl rfl rfl ?_
  refine ev_aload_n dd_C_init_19 rfl ?_
  refine ev_ic (v := 0) dd_C_init_20 (by decide +kernel) ?_
  refine B_put (i := 0) dd_C_init_21 fk_C_21 hb rfl rfl rfl rfl ?_
  refine ev_aload_n dd_C_init_24 rfl ?_
  refine ev_ic (v := 0) dd_C_init_25 (by decide +kernel) ?_
  refine B_put (i := 0) dd_C_init_26 fk_C_25 hb rfl rfl rfl rfl ?_
  refine ev_aload_n dd_C_init_29 rfl ?_
  refine ev_ic (v := 0) dd_C_init_30 (by decide +kernel) ?_
  refine B_put (i := 0) dd_C_init_31 fk_C_28 hb rfl rfl rfl rfl ?_
  refine ev_aload_n dd_C_init_34 rfl ?_
  refine ev_ic (v := 0) dd_C_init_35 (by decide +kernel) ?_
  refine B_put (i := 0) dd_C_init_36 fk_C_31 hb rfl rfl rfl rfl ?_
  refine ev_aload_n dd_C_init_39 rfl ?_
  refine ev_ic (v := 0) dd_C_init_40 (by decide +kernel) ?_
  refine B_put (i := 0) dd_C_init_41 fk_C_34 hb rfl rfl rfl rfl ?_
  refine ev_aload_n dd_C_init_44 rfl ?_
  refine ev_ic (v := 0) dd_C_init_45 (by decide +kernel) ?_
  refine B_put (i := 0) dd_C_init_46 fk_C_37 hb rfl rfl rfl rfl ?_
  refine ev_aload_n dd_C_init_49 rfl ?_
  refine B_new (n := 1) dd_C_init_50 rfl ck_9 kl_C_40 rfl (by omega) (show u + 3 ≤ 7293034 by omega) ?_
  refine ev_dup dd_C_init_53 rfl ?_
  refine B_call (cs := _) (k := 1) dd_C_init_54 ms_AL_init ii_C_42 (Nat.le_of_ble_eq_true rfl) (Nat.le_of_ble_eq_true rfl) (bc_AL (d := d) J) rfl hb (by omega) (show u + 3 + 0 ≤ 7293034 by omega) (fun v hv => ?_)
  refine B_putF (i := 0) dd_C_init_57 fk_C_43 rfl hb rfl rfl rfl rfl ?_
  refine ev_vret dd_C_init_60 rfl ?_
  exact ⟨rfl, v, hv, rfl⟩
theorem bc_S (J : ev_J G q0 mi) : bc G mm_S_init (d + 4) (lSi q0) 2 7 47 := by
  intro w0 u hb hz hu
  refine ev_aload_n dd_S_init_0 rfl ?_
  refine ev_obji dd_S_init_1 oi_S_3 oi_i oi_c (Nat.le_of_ble_eq_true rfl) ?_
  refine ev_aload_n dd_S_init_4 rfl ?_
  refine ev_ic (v := 0) dd_S_init_5 (by decide +kernel) ?_
  refine B_put (i := 0) dd_S_init_6 fk_S_9 hb rfl rfl rfl rfl ?_
  refine ev_aload_n dd_S_init_9 rfl ?_
  refine ev_ic (v := 0) dd_S_init_10 (by decide +kernel) ?_
  refine B_put (i := 0) dd_S_init_11 fk_S_15 hb rfl rfl rfl rfl ?_
  refine ev_aload_n dd_S_init_14 rfl ?_
  refine ev_ic (v := 0) dd_S_init_15 (by decide +kernel) ?_
  refine B_put (i := 0) dd_S_init_16 fk_S_18 hb rfl rfl rfl rfl ?_
  refine ev_aload_n dd_S_init_19 rfl ?_
  refine ev_ic (v := 0) dd_S_init_20 (by decide +kernel) ?_
  refine B_put (i := 0) dd_S_init_21 fk_S_21 hb rfl rfl rfl rfl ?_
  refine ev_aload_n dd_S_init_24 rfl ?_
  refine ev_bp (v := 7) dd_S_init_25 (by decide +kernel) ?_
  refine B_put (i := 0) dd_S_init_27 fk_S_24 hb rfl rfl rfl rfl ?_
  refine ev_aload_n dd_S_init_30 rfl ?_
  refine ev_bp (v := 7) dd_S_init_31 (by decide +kernel) ?_
  refine B_put (i := 0) dd_S_init_33 fk_S_27 hb rfl rfl rfl rfl ?_
  refine ev_aload_n dd_S_init_36 rfl ?_
  refine ev_ic (v := 1) dd_S_init_37 (by decide +kernel) ?_
  refine B_put (i := 0) dd_S_init_38 fk_S_30 hb rfl rfl rfl rfl ?_
  refine ev_aload_n dd_S_init_41 rfl ?_
  refine ev_ic (v := 1) dd_S_init_42 (by decide +kernel) ?_
  refine B_put (i := 0) dd_S_init_43 fk_S_33 hb rfl rfl rfl rfl ?_
  refine ev_aload_n dd_S_init_46 rfl ?_
  refine ev_ic (v := 0) dd_S_init_47 (by decide +kernel) ?_
  refine B_put (i := 0) dd_S_init_48 fk_S_36 hb rfl rfl rfl rfl ?_
  refine ev_aload_n dd_S_init_51 rfl ?_
  refine ev_ic (v := 0) dd_S_init_52 (by decide +kernel) ?_
  refine B_put (i := 0) dd_S_init_53 fk_S_39 hb rfl rfl rfl rfl ?_
  refine ev_aload_n dd_S_init_56 rfl ?_
  refine ev_ic (v := 0) dd_S_init_57 (by decide +kernel) ?_
  refine B_put (i := 0) dd_S_init_58 fk_S_42 hb rfl rfl rfl rfl ?_
  refine ev_aload_n dd_S_init_61 rfl ?_
  refine ev_ic (v := 0) dd_S_init_62 (by decide +kernel) ?_
  refine B_put (i := 0) dd_S_init_63 fk_S_45 hb rfl rfl rfl rfl ?_
  refine ev_aload_n dd_S_init_66 rfl ?_
  refine ev_ic (v := 0) dd_S_init_67 (by decide +kernel) ?_
  refine B_put (i := 0) dd_S_init_68 fk_S_48 hb rfl rfl rfl rfl ?_
  refine ev_aload_n dd_S_init_71 rfl ?_
  refine ev_ic (v := 0) dd_S_init_72 (by decide +kernel) ?_
  refine B_put (i := 0) dd_S_init_73 fk_S_51 hb rfl rfl rfl rfl ?_
  refine ev_aload_n dd_S_init_76 rfl ?_
  refine ev_ic (v := 0) dd_S_init_77 (by decide +kernel) ?_
  refine B_put (i := 0) dd_S_init_78 fk_S_54 hb rfl rfl rfl rfl ?_
  refine ev_aload_n dd_S_init_81 rfl ?_
  refine ev_ic (v := 0) dd_S_init_82 (by decide +kernel) ?_
  refine B_put (i := 0) dd_S_init_83 fk_S_58 hb rfl rfl rfl rfl ?_
  refine ev_aload_n dd_S_init_86 rfl ?_
  refine B_new (n := 1) dd_S_init_87 rfl ck_9 kl_S_61 rfl (by omega) (show u + 3 ≤ 7293034 by omega) ?_
  refine ev_dup dd_S_init_90 rfl ?_
  refine B_call (k := 1) dd_S_init_91 ms_AL_init ii_S_63 (Nat.le_of_ble_eq_true rfl) (Nat.le_of_ble_eq_true rfl) (bc_AL (d := d) J) rfl hb (by omega) (show u + 3 + 0 ≤ 7293034 by omega) (fun v1 hv1 => ?_)
  have h1 : v1 ≤ u + 3 := hv1
  refine B_putF (i := 0) dd_S_init_94 fk_S_64 rfl hb rfl rfl rfl rfl ?_
  refine ev_aload_n dd_S_init_97 rfl ?_
  refine B_new (n := 2) dd_S_init_98 rfl ck_9 kl_S_61 rfl (by omega) (show v1 + 3 ≤ 7293034 by omega) ?_
  refine ev_dup dd_S_init_101 rfl ?_
  refine B_call (k := 2) dd_S_init_102 ms_AL_init ii_S_63 (Nat.le_of_ble_eq_true rfl) (Nat.le_of_ble_eq_true rfl) (bc_AL (d := d) J) rfl hb (by omega) (show v1 + 3 + 0 ≤ 7293034 by omega) (fun v2 hv2 => ?_)
  have h2 : v2 ≤ v1 + 3 := hv2
  refine B_putF (i := 0) dd_S_init_105 fk_S_68 rfl hb rfl rfl rfl rfl ?_
  refine ev_aload_n dd_S_init_108 rfl ?_
  refine B_new (n := 3) dd_S_init_109 rfl ck_5 kl_S_71 rfl (by omega) (show v2 + 2 ≤ 7293034 by omega) ?_
  refine ev_dup dd_S_init_112 rfl ?_
  refine B_call (k := 3) dd_S_init_113 ms_Y_init ii_S_73 (Nat.le_of_ble_eq_true rfl) (Nat.le_of_ble_eq_true rfl) (bc_Y (d := d + 2)) rfl hb (by omega) (show v2 + 2 + 32 ≤ 7293034 by omega) (fun v3 hv3 => ?_)
  have h3 : v3 ≤ v2 + 2 + 32 := hv3
  refine B_putF (i := 0) dd_S_init_116 fk_S_74 rfl hb rfl rfl rfl rfl ?_
  refine ev_aload_n dd_S_init_119 rfl ?_
  refine B_new (n := 6) dd_S_init_120 rfl ck_7 kl_S_78 rfl (by omega) (show v3 + 7 ≤ 7293034 by omega) ?_
  refine ev_dup dd_S_init_123 rfl ?_
  refine B_call (k := 6) dd_S_init_124 ms_N_init ii_S_80 (Nat.le_of_ble_eq_true rfl) (Nat.le_of_ble_eq_true rfl) (bc_N (d := d + 2)) rfl hb (by omega) (show v3 + 7 + 0 ≤ 7293034 by omega) (fun v4 hv4 => ?_)
  have h4 : v4 ≤ v3 + 7 := hv4
  refine B_putF (i := 0) dd_S_init_127 fk_S_81 rfl hb rfl rfl rfl rfl ?_
  refine ev_vret dd_S_init_130 rfl ?_
  exact ⟨rfl, v4, by omega, rfl⟩
end BldB
