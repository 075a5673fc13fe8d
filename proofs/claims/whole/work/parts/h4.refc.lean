/-! the reference's constructor: its arrays -/
def kn (n : Nat) : Nat := if n < 6 then n + 1 else n + 3
def ga (n : Nat) : ce := (if kn n = 16 ∨ kn n = 43 then 101 else 100, rf_n (kn n), fun _ => .int 0)
def la (n : Nat) : List ce := (List.range n).map ga
def fn (z p n : Nat) : Nat → Value := fun k => if rf_a k = true ∧ rf_o k < 78 + n then .ref (z + (rf_o k - 77)) else if k = 7 ∧ p = 1 then .int (-1) else fd0 8 k
theorem la_len (n : Nat) : (la n).length = n := by
  unfold la
  rw [List.length_map, List.length_range]
theorem la_s (n : Nat) : la n ++ [ga n] = la (n + 1) := by
  unfold la
  rw [List.range_succ, List.map_append]
  rfl
theorem kn_a {n : Nat} (hn : n < 46) : rf_a (kn n) = true ∧ rf_o (kn n) = 78 + n := by
  unfold kn rf_a rf_o
  by_cases h : n < 6
  · rw [if_pos h, if_pos (by omega)]
    exact ⟨decide_eq_true (by omega), by omega⟩
  · rw [if_neg h, if_neg (by omega)]
    exact ⟨decide_eq_true (by omega), by omega⟩
theorem fn_s (z p : Nat) {n : Nat} (hn : n < 46) : up (fn z p n) (kn n) (.ref (z + (n + 1))) = fn z p (n + 1) := by
  obtain ⟨h1, h2⟩ := kn_a hn
  funext k
  unfold up fn
  by_cases e : k = kn n
  · rw [if_pos e, e, if_pos ⟨h1, by omega⟩, h2, show 78 + n - 77 = n + 1 by omega]
  · rw [if_neg e]
    by_cases c : rf_a k = true ∧ rf_o k < 78 + n
    · rw [if_pos c, if_pos ⟨c.1, by omega⟩]
    · have c2 : ¬ (rf_a k = true ∧ rf_o k < 78 + (n + 1)) := fun x => by
        by_cases l : rf_o k < 78 + n
        · exact c ⟨x.1, l⟩
        · exact e (rf_inj x.1 h1 (by have := x.2; omega))
      rw [if_neg c, if_neg c2]
theorem fn_7 (z : Nat) : up (fn z 0 6) 7 (.int (-1)) = fn z 1 6 := by
  funext k
  unfold up fn
  by_cases e : k = 7
  · rw [if_pos e, e, if_neg (fun x => absurd x.1 (by decide)), if_pos ⟨rfl, rfl⟩]
  · rw [if_neg e]
    by_cases c : rf_a k = true ∧ rf_o k < 78 + 6
    · rw [if_pos c, if_pos c]
    · rw [if_neg c, if_neg c, if_neg (fun x => absurd x.2 (by decide)), if_neg (fun x => e x.1)]
theorem fn_0 (z : Nat) : fd0 8 = fn z 0 0 := by
  funext k
  unfold fn
  have c2 : ¬ (rf_a k = true ∧ rf_o k < 78 + 0) := fun x => by
    have := (rf_off x.1).1
    omega
  rw [if_neg c2, if_neg (fun x => absurd x.2 (by decide))]
theorem D_step (w0 : ev_wd) (p x : Nat) {n : Nat} (hn : n < 46) : wl w0 ((8, 0, up (fn (ev_z w0) p n) (kn n) (.ref (ev_z w0 + (n + 1)))) :: (la n ++ [ga n])) x = wl w0 ((8, 0, fn (ev_z w0) p (n + 1)) :: la (n + 1)) x := by
  rw [fn_s _ _ hn, la_s]
section BldE
variable {G : ev_gx} {M : ev_mx} {d pc pc2 pc3 tgt : Nat} {L : List (Nat × Value)} {st : List Value} {w0 : ev_wd} {P : ev_r → ev_wd → Prop} {as : List ce} {f : Nat → Value} {u : Nat}
theorem B_arr {index k m n p : Nat} (hd1 : ev_d M.2.1 pc (.newarray .int) 2 pc2) (hd2 : ev_d M.2.1 pc2 (.putfield index) 3 pc3) (hF : ev_F M.1.cls index 8 k true) (hM : M.1.name = "<init>") (hk : k = kn n) (hg : ga n = (100, m, fun _ => .int 0)) (hb : ev_b G ≤ ev_z w0) (hm : m ≤ 2400) (hz : ev_z w0 + 47 ≤ ev_b G + 601024) (hn46 : n < 46) (hu : u + m ≤ 7293034) (hn : ∀ x, narrow (nm_ft 8 k) (.ref x) = .ref x) (hfit : ∀ x, fits (nm_ft 8 k) (.ref x) = true)
    (kk : ev_E G M d pc3 L st (wl w0 ((8, 0, fn (ev_z w0) p (n + 1)) :: la (n + 1)) (u + m)) P) : ev_E G M d pc L (.int (Int32.ofNat m) :: .ref (ev_z w0 + 0) :: st) (wl w0 ((8, 0, fn (ev_z w0) p n) :: la n) u) P := by
  refine B_newi (n := n + 1) hd1 (by rw [List.length_cons, la_len]) hm (by omega) hu ?_
  refine B_putF (i := 0) hd2 hF hM hb rfl rfl (hn _) (hfit _) ?_
  have e := D_step w0 p (u + m) hn46
  rw [← hk, hg] at e
  exact ev_eqw e kk
theorem B_arrz {index k m n p : Nat} (hd1 : ev_d M.2.1 pc (.newarray .boolean) 2 pc2) (hd2 : ev_d M.2.1 pc2 (.putfield index) 3 pc3) (hF : ev_F M.1.cls index 8 k true) (hM : M.1.name = "<init>") (hk : k = kn n) (hg : ga n = (101, m, fun _ => .int 0)) (hb : ev_b G ≤ ev_z w0) (hm : m ≤ 2400) (hz : ev_z w0 + 47 ≤ ev_b G + 601024) (hn46 : n < 46) (hu : u + m ≤ 7293034) (hn : ∀ x, narrow (nm_ft 8 k) (.ref x) = .ref x) (hfit : ∀ x, fits (nm_ft 8 k) (.ref x) = true)
    (kk : ev_E G M d pc3 L st (wl w0 ((8, 0, fn (ev_z w0) p (n + 1)) :: la (n + 1)) (u + m)) P) : ev_E G M d pc L (.int (Int32.ofNat m) :: .ref (ev_z w0 + 0) :: st) (wl w0 ((8, 0, fn (ev_z w0) p n) :: la n) u) P := by
  refine B_newz (n := n + 1) hd1 (by rw [List.length_cons, la_len]) hm (by omega) hu ?_
  refine B_putF (i := 0) hd2 hF hM hb rfl rfl (hn _) (hfit _) ?_
  have e := D_step w0 p (u + m) hn46
  rw [← hk, hg] at e
  exact ev_eqw e kk
theorem d_arrays (hb : ev_b G ≤ ev_z w0) (hz : ev_z w0 + 47 ≤ ev_b G + 601024) (hu : u + 14870 ≤ 7293034) (kk : ∀ y, y ≤ u + 14870 → ev_E G mm_D_init (d + 1) 383 [(0, .ref (ev_z w0 + 0))] [] (wl w0 ((8, 0, fn (ev_z w0) 1 46) :: la 46) y) P) : ev_E G mm_D_init (d + 1) 0 (lv_args 0 [.ref (ev_z w0 + 0)]) [] (wl w0 [(8, 0, fun k => defaultValue (nm_ft 8 k))] u) P := by
  refine ev_aload_n dd_D_init_0 rfl ?_
  refine ev_obji dd_D_init_1 oi_D_1 oi_i oi_c (Nat.le_of_ble_eq_true rfl) ?_
  refine ev_eqw (w' := wl w0 ((8, 0, fn (ev_z w0) 0 0) :: la 0) u) (by rw [← fn_0]; rfl) ?_
  obtain ⟨y0, hy0⟩ : ∃ y0, y0 = u := ⟨_, rfl⟩
  rw [← hy0]
  refine ev_aload_n dd_D_init_4 rfl ?_
  refine ev_sp (v := 2400) dd_D_init_5 (by decide +kernel) ?_
  refine B_arr (m := 2400) (n := 0) dd_D_init_8 dd_D_init_10 fk_D_7 rfl rfl rfl hb (by omega) hz (by omega) (show y0 + 2400 ≤ 7293034 by omega) (fun _ => rfl) (fun _ => rfl) ?_
  obtain ⟨y1, hy1⟩ : ∃ y1, y1 = u + 2400 := ⟨_, rfl⟩
  rw [show y0 + 2400 = y1 by omega]
  clear hy0
  refine ev_aload_n dd_D_init_13 rfl ?_
  refine ev_sp (v := 2400) dd_D_init_14 (by decide +kernel) ?_
  refine B_arr (m := 2400) (n := 1) dd_D_init_17 dd_D_init_19 fk_D_13 rfl rfl rfl hb (by omega) hz (by omega) (show y1 + 2400 ≤ 7293034 by omega) (fun _ => rfl) (fun _ => rfl) ?_
  obtain ⟨y2, hy2⟩ : ∃ y2, y2 = u + 4800 := ⟨_, rfl⟩
  rw [show y1 + 2400 = y2 by omega]
  clear hy1
  refine ev_aload_n dd_D_init_22 rfl ?_
  refine ev_sp (v := 2400) dd_D_init_23 (by decide +kernel) ?_
  refine B_arr (m := 2400) (n := 2) dd_D_init_26 dd_D_init_28 fk_D_16 rfl rfl rfl hb (by omega) hz (by omega) (show y2 + 2400 ≤ 7293034 by omega) (fun _ => rfl) (fun _ => rfl) ?_
  obtain ⟨y3, hy3⟩ : ∃ y3, y3 = u + 7200 := ⟨_, rfl⟩
  rw [show y2 + 2400 = y3 by omega]
  clear hy2
  refine ev_aload_n dd_D_init_31 rfl ?_
  refine ev_sp (v := 2400) dd_D_init_32 (by decide +kernel) ?_
  refine B_arr (m := 2400) (n := 3) dd_D_init_35 dd_D_init_37 fk_D_19 rfl rfl rfl hb (by omega) hz (by omega) (show y3 + 2400 ≤ 7293034 by omega) (fun _ => rfl) (fun _ => rfl) ?_
  obtain ⟨y4, hy4⟩ : ∃ y4, y4 = u + 9600 := ⟨_, rfl⟩
  rw [show y3 + 2400 = y4 by omega]
  clear hy3
  refine ev_aload_n dd_D_init_40 rfl ?_
  refine ev_sp (v := 2400) dd_D_init_41 (by decide +kernel) ?_
  refine B_arr (m := 2400) (n := 4) dd_D_init_44 dd_D_init_46 fk_D_22 rfl rfl rfl hb (by omega) hz (by omega) (show y4 + 2400 ≤ 7293034 by omega) (fun _ => rfl) (fun _ => rfl) ?_
  obtain ⟨y5, hy5⟩ : ∃ y5, y5 = u + 12000 := ⟨_, rfl⟩
  rw [show y4 + 2400 = y5 by omega]
  clear hy4
  refine ev_aload_n dd_D_init_49 rfl ?_
  refine ev_sp (v := 2400) dd_D_init_50 (by decide +kernel) ?_
  refine B_arr (m := 2400) (n := 5) dd_D_init_53 dd_D_init_55 fk_D_25 rfl rfl rfl hb (by omega) hz (by omega) (show y5 + 2400 ≤ 7293034 by omega) (fun _ => rfl) (fun _ => rfl) ?_
  obtain ⟨y6, hy6⟩ : ∃ y6, y6 = u + 14400 := ⟨_, rfl⟩
  rw [show y5 + 2400 = y6 by omega]
  clear hy5
  refine ev_aload_n dd_D_init_58 rfl ?_
  refine ev_ic (v := (-1)) dd_D_init_59 (by decide +kernel) ?_
  refine B_put (i := 0) dd_D_init_60 fk_D_28 hb rfl rfl rfl rfl ?_
  refine ev_eqw (w' := wl w0 ((8, 0, fn (ev_z w0) 1 6) :: la 6) y6) (by rw [← fn_7]; rfl) ?_
  refine ev_aload_n dd_D_init_63 rfl ?_
  refine ev_bp (v := 22) dd_D_init_64 (by decide +kernel) ?_
  refine B_arr (m := 22) (n := 6) dd_D_init_66 dd_D_init_68 fk_D_32 rfl rfl rfl hb (by omega) hz (by omega) (show y6 + 22 ≤ 7293034 by omega) (fun _ => rfl) (fun _ => rfl) ?_
  obtain ⟨y7, hy7⟩ : ∃ y7, y7 = u + 14422 := ⟨_, rfl⟩
  rw [show y6 + 22 = y7 by omega]
  clear hy6
  refine ev_aload_n dd_D_init_71 rfl ?_
  refine ev_bp (v := 22) dd_D_init_72 (by decide +kernel) ?_
  refine B_arr (m := 22) (n := 7) dd_D_init_74 dd_D_init_76 fk_D_35 rfl rfl rfl hb (by omega) hz (by omega) (show y7 + 22 ≤ 7293034 by omega) (fun _ => rfl) (fun _ => rfl) ?_
  obtain ⟨y8, hy8⟩ : ∃ y8, y8 = u + 14444 := ⟨_, rfl⟩
  rw [show y7 + 22 = y8 by omega]
  clear hy7
  refine ev_aload_n dd_D_init_79 rfl ?_
  refine ev_bp (v := 22) dd_D_init_80 (by decide +kernel) ?_
  refine B_arr (m := 22) (n := 8) dd_D_init_82 dd_D_init_84 fk_D_38 rfl rfl rfl hb (by omega) hz (by omega) (show y8 + 22 ≤ 7293034 by omega) (fun _ => rfl) (fun _ => rfl) ?_
  obtain ⟨y9, hy9⟩ : ∃ y9, y9 = u + 14466 := ⟨_, rfl⟩
  rw [show y8 + 22 = y9 by omega]
  clear hy8
  refine ev_aload_n dd_D_init_87 rfl ?_
  refine ev_bp (v := 6) dd_D_init_88 (by decide +kernel) ?_
  refine B_arr (m := 6) (n := 9) dd_D_init_90 dd_D_init_92 fk_D_41 rfl rfl rfl hb (by omega) hz (by omega) (show y9 + 6 ≤ 7293034 by omega) (fun _ => rfl) (fun _ => rfl) ?_
  obtain ⟨y10, hy10⟩ : ∃ y10, y10 = u + 14472 := ⟨_, rfl⟩
  rw [show y9 + 6 = y10 by omega]
  clear hy9
  refine ev_aload_n dd_D_init_95 rfl ?_
  refine ev_bp (v := 6) dd_D_init_96 (by decide +kernel) ?_
  refine B_arr (m := 6) (n := 10) dd_D_init_98 dd_D_init_100 fk_D_44 rfl rfl rfl hb (by omega) hz (by omega) (show y10 + 6 ≤ 7293034 by omega) (fun _ => rfl) (fun _ => rfl) ?_
  obtain ⟨y11, hy11⟩ : ∃ y11, y11 = u + 14478 := ⟨_, rfl⟩
  rw [show y10 + 6 = y11 by omega]
  clear hy10
  refine ev_aload_n dd_D_init_103 rfl ?_
  refine ev_bp (v := 6) dd_D_init_104 (by decide +kernel) ?_
  refine B_arr (m := 6) (n := 11) dd_D_init_106 dd_D_init_108 fk_D_47 rfl rfl rfl hb (by omega) hz (by omega) (show y11 + 6 ≤ 7293034 by omega) (fun _ => rfl) (fun _ => rfl) ?_
  obtain ⟨y12, hy12⟩ : ∃ y12, y12 = u + 14484 := ⟨_, rfl⟩
  rw [show y11 + 6 = y12 by omega]
  clear hy11
  refine ev_aload_n dd_D_init_111 rfl ?_
  refine ev_bp (v := 6) dd_D_init_112 (by decide +kernel) ?_
  refine B_arr (m := 6) (n := 12) dd_D_init_114 dd_D_init_116 fk_D_50 rfl rfl rfl hb (by omega) hz (by omega) (show y12 + 6 ≤ 7293034 by omega) (fun _ => rfl) (fun _ => rfl) ?_
  obtain ⟨y13, hy13⟩ : ∃ y13, y13 = u + 14490 := ⟨_, rfl⟩
  rw [show y12 + 6 = y13 by omega]
  clear hy12
  refine ev_aload_n dd_D_init_119 rfl ?_
  refine ev_bp (v := 6) dd_D_init_120 (by decide +kernel) ?_
  refine B_arrz (m := 6) (n := 13) dd_D_init_122 dd_D_init_124 fk_D_53 rfl rfl rfl hb (by omega) hz (by omega) (show y13 + 6 ≤ 7293034 by omega) (fun _ => rfl) (fun _ => rfl) ?_
  obtain ⟨y14, hy14⟩ : ∃ y14, y14 = u + 14496 := ⟨_, rfl⟩
  rw [show y13 + 6 = y14 by omega]
  clear hy13
  refine ev_aload_n dd_D_init_127 rfl ?_
  refine ev_bp (v := 6) dd_D_init_128 (by decide +kernel) ?_
  refine B_arr (m := 6) (n := 14) dd_D_init_130 dd_D_init_132 fk_D_57 rfl rfl rfl hb (by omega) hz (by omega) (show y14 + 6 ≤ 7293034 by omega) (fun _ => rfl) (fun _ => rfl) ?_
  obtain ⟨y15, hy15⟩ : ∃ y15, y15 = u + 14502 := ⟨_, rfl⟩
  rw [show y14 + 6 = y15 by omega]
  clear hy14
  refine ev_aload_n dd_D_init_135 rfl ?_
  refine ev_bp (v := 6) dd_D_init_136 (by decide +kernel) ?_
  refine B_arr (m := 6) (n := 15) dd_D_init_138 dd_D_init_140 fk_D_60 rfl rfl rfl hb (by omega) hz (by omega) (show y15 + 6 ≤ 7293034 by omega) (fun _ => rfl) (fun _ => rfl) ?_
  obtain ⟨y16, hy16⟩ : ∃ y16, y16 = u + 14508 := ⟨_, rfl⟩
  rw [show y15 + 6 = y16 by omega]
  clear hy15
  refine ev_aload_n dd_D_init_143 rfl ?_
  refine ev_bp (v := 6) dd_D_init_144 (by decide +kernel) ?_
  refine B_arr (m := 6) (n := 16) dd_D_init_146 dd_D_init_148 fk_D_63 rfl rfl rfl hb (by omega) hz (by omega) (show y16 + 6 ≤ 7293034 by omega) (fun _ => rfl) (fun _ => rfl) ?_
  obtain ⟨y17, hy17⟩ : ∃ y17, y17 = u + 14514 := ⟨_, rfl⟩
  rw [show y16 + 6 = y17 by omega]
  clear hy16
  refine ev_aload_n dd_D_init_151 rfl ?_
  refine ev_bp (v := 6) dd_D_init_152 (by decide +kernel) ?_
  refine B_arr (m := 6) (n := 17) dd_D_init_154 dd_D_init_156 fk_D_66 rfl rfl rfl hb (by omega) hz (by omega) (show y17 + 6 ≤ 7293034 by omega) (fun _ => rfl) (fun _ => rfl) ?_
  obtain ⟨y18, hy18⟩ : ∃ y18, y18 = u + 14520 := ⟨_, rfl⟩
  rw [show y17 + 6 = y18 by omega]
  clear hy17
  refine ev_aload_n dd_D_init_159 rfl ?_
  refine ev_bp (v := 6) dd_D_init_160 (by decide +kernel) ?_
  refine B_arr (m := 6) (n := 18) dd_D_init_162 dd_D_init_164 fk_D_69 rfl rfl rfl hb (by omega) hz (by omega) (show y18 + 6 ≤ 7293034 by omega) (fun _ => rfl) (fun _ => rfl) ?_
  obtain ⟨y19, hy19⟩ : ∃ y19, y19 = u + 14526 := ⟨_, rfl⟩
  rw [show y18 + 6 = y19 by omega]
  clear hy18
  refine ev_aload_n dd_D_init_167 rfl ?_
  refine ev_bp (v := 6) dd_D_init_168 (by decide +kernel) ?_
  refine B_arr (m := 6) (n := 19) dd_D_init_170 dd_D_init_172 fk_D_72 rfl rfl rfl hb (by omega) hz (by omega) (show y19 + 6 ≤ 7293034 by omega) (fun _ => rfl) (fun _ => rfl) ?_
  obtain ⟨y20, hy20⟩ : ∃ y20, y20 = u + 14532 := ⟨_, rfl⟩
  rw [show y19 + 6 = y20 by omega]
  clear hy19
  refine ev_aload_n dd_D_init_175 rfl ?_
  refine ev_bp (v := 6) dd_D_init_176 (by decide +kernel) ?_
  refine B_arr (m := 6) (n := 20) dd_D_init_178 dd_D_init_180 fk_D_75 rfl rfl rfl hb (by omega) hz (by omega) (show y20 + 6 ≤ 7293034 by omega) (fun _ => rfl) (fun _ => rfl) ?_
  obtain ⟨y21, hy21⟩ : ∃ y21, y21 = u + 14538 := ⟨_, rfl⟩
  rw [show y20 + 6 = y21 by omega]
  clear hy20
  refine ev_aload_n dd_D_init_183 rfl ?_
  refine ev_bp (v := 6) dd_D_init_184 (by decide +kernel) ?_
  refine B_arr (m := 6) (n := 21) dd_D_init_186 dd_D_init_188 fk_D_78 rfl rfl rfl hb (by omega) hz (by omega) (show y21 + 6 ≤ 7293034 by omega) (fun _ => rfl) (fun _ => rfl) ?_
  obtain ⟨y22, hy22⟩ : ∃ y22, y22 = u + 14544 := ⟨_, rfl⟩
  rw [show y21 + 6 = y22 by omega]
  clear hy21
  refine ev_aload_n dd_D_init_191 rfl ?_
  refine ev_bp (v := 6) dd_D_init_192 (by decide +kernel) ?_
  refine B_arr (m := 6) (n := 22) dd_D_init_194 dd_D_init_196 fk_D_81 rfl rfl rfl hb (by omega) hz (by omega) (show y22 + 6 ≤ 7293034 by omega) (fun _ => rfl) (fun _ => rfl) ?_
  obtain ⟨y23, hy23⟩ : ∃ y23, y23 = u + 14550 := ⟨_, rfl⟩
  rw [show y22 + 6 = y23 by omega]
  clear hy22
  refine ev_aload_n dd_D_init_199 rfl ?_
  refine ev_bp (v := 6) dd_D_init_200 (by decide +kernel) ?_
  refine B_arr (m := 6) (n := 23) dd_D_init_202 dd_D_init_204 fk_D_84 rfl rfl rfl hb (by omega) hz (by omega) (show y23 + 6 ≤ 7293034 by omega) (fun _ => rfl) (fun _ => rfl) ?_
  obtain ⟨y24, hy24⟩ : ∃ y24, y24 = u + 14556 := ⟨_, rfl⟩
  rw [show y23 + 6 = y24 by omega]
  clear hy23
  refine ev_aload_n dd_D_init_207 rfl ?_
  refine ev_bp (v := 6) dd_D_init_208 (by decide +kernel) ?_
  refine B_arr (m := 6) (n := 24) dd_D_init_210 dd_D_init_212 fk_D_87 rfl rfl rfl hb (by omega) hz (by omega) (show y24 + 6 ≤ 7293034 by omega) (fun _ => rfl) (fun _ => rfl) ?_
  obtain ⟨y25, hy25⟩ : ∃ y25, y25 = u + 14562 := ⟨_, rfl⟩
  rw [show y24 + 6 = y25 by omega]
  clear hy24
  refine ev_aload_n dd_D_init_215 rfl ?_
  refine ev_bp (v := 96) dd_D_init_216 (by decide +kernel) ?_
  refine B_arr (m := 96) (n := 25) dd_D_init_218 dd_D_init_220 fk_D_90 rfl rfl rfl hb (by omega) hz (by omega) (show y25 + 96 ≤ 7293034 by omega) (fun _ => rfl) (fun _ => rfl) ?_
  obtain ⟨y26, hy26⟩ : ∃ y26, y26 = u + 14658 := ⟨_, rfl⟩
  rw [show y25 + 96 = y26 by omega]
  clear hy25
  refine ev_aload_n dd_D_init_223 rfl ?_
  refine ev_bp (v := 96) dd_D_init_224 (by decide +kernel) ?_
  refine B_arr (m := 96) (n := 26) dd_D_init_226 dd_D_init_228 fk_D_93 rfl rfl rfl hb (by omega) hz (by omega) (show y26 + 96 ≤ 7293034 by omega) (fun _ => rfl) (fun _ => rfl) ?_
  obtain ⟨y27, hy27⟩ : ∃ y27, y27 = u + 14754 := ⟨_, rfl⟩
  rw [show y26 + 96 = y27 by omega]
  clear hy26
  refine ev_aload_n dd_D_init_231 rfl ?_
  refine ev_bp (v := 6) dd_D_init_232 (by decide +kernel) ?_
  refine B_arr (m := 6) (n := 27) dd_D_init_234 dd_D_init_236 fk_D_96 rfl rfl rfl hb (by omega) hz (by omega) (show y27 + 6 ≤ 7293034 by omega) (fun _ => rfl) (fun _ => rfl) ?_
  obtain ⟨y28, hy28⟩ : ∃ y28, y28 = u + 14760 := ⟨_, rfl⟩
  rw [show y27 + 6 = y28 by omega]
  clear hy27
  refine ev_aload_n dd_D_init_239 rfl ?_
  refine ev_bp (v := 6) dd_D_init_240 (by decide +kernel) ?_
  refine B_arr (m := 6) (n := 28) dd_D_init_242 dd_D_init_244 fk_D_99 rfl rfl rfl hb (by omega) hz (by omega) (show y28 + 6 ≤ 7293034 by omega) (fun _ => rfl) (fun _ => rfl) ?_
  obtain ⟨y29, hy29⟩ : ∃ y29, y29 = u + 14766 := ⟨_, rfl⟩
  rw [show y28 + 6 = y29 by omega]
  clear hy28
  refine ev_aload_n dd_D_init_247 rfl ?_
  refine ev_bp (v := 6) dd_D_init_248 (by decide +kernel) ?_
  refine B_arr (m := 6) (n := 29) dd_D_init_250 dd_D_init_252 fk_D_102 rfl rfl rfl hb (by omega) hz (by omega) (show y29 + 6 ≤ 7293034 by omega) (fun _ => rfl) (fun _ => rfl) ?_
  obtain ⟨y30, hy30⟩ : ∃ y30, y30 = u + 14772 := ⟨_, rfl⟩
  rw [show y29 + 6 = y30 by omega]
  clear hy29
  refine ev_aload_n dd_D_init_255 rfl ?_
  refine ev_bp (v := 6) dd_D_init_256 (by decide +kernel) ?_
  refine B_arr (m := 6) (n := 30) dd_D_init_258 dd_D_init_260 fk_D_105 rfl rfl rfl hb (by omega) hz (by omega) (show y30 + 6 ≤ 7293034 by omega) (fun _ => rfl) (fun _ => rfl) ?_
  obtain ⟨y31, hy31⟩ : ∃ y31, y31 = u + 14778 := ⟨_, rfl⟩
  rw [show y30 + 6 = y31 by omega]
  clear hy30
  refine ev_aload_n dd_D_init_263 rfl ?_
  refine ev_bp (v := 6) dd_D_init_264 (by decide +kernel) ?_
  refine B_arr (m := 6) (n := 31) dd_D_init_266 dd_D_init_268 fk_D_108 rfl rfl rfl hb (by omega) hz (by omega) (show y31 + 6 ≤ 7293034 by omega) (fun _ => rfl) (fun _ => rfl) ?_
  obtain ⟨y32, hy32⟩ : ∃ y32, y32 = u + 14784 := ⟨_, rfl⟩
  rw [show y31 + 6 = y32 by omega]
  clear hy31
  refine ev_aload_n dd_D_init_271 rfl ?_
  refine ev_bp (v := 6) dd_D_init_272 (by decide +kernel) ?_
  refine B_arr (m := 6) (n := 32) dd_D_init_274 dd_D_init_276 fk_D_111 rfl rfl rfl hb (by omega) hz (by omega) (show y32 + 6 ≤ 7293034 by omega) (fun _ => rfl) (fun _ => rfl) ?_
  obtain ⟨y33, hy33⟩ : ∃ y33, y33 = u + 14790 := ⟨_, rfl⟩
  rw [show y32 + 6 = y33 by omega]
  clear hy32
  refine ev_aload_n dd_D_init_279 rfl ?_
  refine ev_bp (v := 6) dd_D_init_280 (by decide +kernel) ?_
  refine B_arr (m := 6) (n := 33) dd_D_init_282 dd_D_init_284 fk_D_114 rfl rfl rfl hb (by omega) hz (by omega) (show y33 + 6 ≤ 7293034 by omega) (fun _ => rfl) (fun _ => rfl) ?_
  obtain ⟨y34, hy34⟩ : ∃ y34, y34 = u + 14796 := ⟨_, rfl⟩
  rw [show y33 + 6 = y34 by omega]
  clear hy33
  refine ev_aload_n dd_D_init_287 rfl ?_
  refine ev_bp (v := 6) dd_D_init_288 (by decide +kernel) ?_
  refine B_arr (m := 6) (n := 34) dd_D_init_290 dd_D_init_292 fk_D_117 rfl rfl rfl hb (by omega) hz (by omega) (show y34 + 6 ≤ 7293034 by omega) (fun _ => rfl) (fun _ => rfl) ?_
  obtain ⟨y35, hy35⟩ : ∃ y35, y35 = u + 14802 := ⟨_, rfl⟩
  rw [show y34 + 6 = y35 by omega]
  clear hy34
  refine ev_aload_n dd_D_init_295 rfl ?_
  refine ev_bp (v := 6) dd_D_init_296 (by decide +kernel) ?_
  refine B_arr (m := 6) (n := 35) dd_D_init_298 dd_D_init_300 fk_D_120 rfl rfl rfl hb (by omega) hz (by omega) (show y35 + 6 ≤ 7293034 by omega) (fun _ => rfl) (fun _ => rfl) ?_
  obtain ⟨y36, hy36⟩ : ∃ y36, y36 = u + 14808 := ⟨_, rfl⟩
  rw [show y35 + 6 = y36 by omega]
  clear hy35
  refine ev_aload_n dd_D_init_303 rfl ?_
  refine ev_bp (v := 6) dd_D_init_304 (by decide +kernel) ?_
  refine B_arr (m := 6) (n := 36) dd_D_init_306 dd_D_init_308 fk_D_123 rfl rfl rfl hb (by omega) hz (by omega) (show y36 + 6 ≤ 7293034 by omega) (fun _ => rfl) (fun _ => rfl) ?_
  obtain ⟨y37, hy37⟩ : ∃ y37, y37 = u + 14814 := ⟨_, rfl⟩
  rw [show y36 + 6 = y37 by omega]
  clear hy36
  refine ev_aload_n dd_D_init_311 rfl ?_
  refine ev_bp (v := 6) dd_D_init_312 (by decide +kernel) ?_
  refine B_arr (m := 6) (n := 37) dd_D_init_314 dd_D_init_316 fk_D_126 rfl rfl rfl hb (by omega) hz (by omega) (show y37 + 6 ≤ 7293034 by omega) (fun _ => rfl) (fun _ => rfl) ?_
  obtain ⟨y38, hy38⟩ : ∃ y38, y38 = u + 14820 := ⟨_, rfl⟩
  rw [show y37 + 6 = y38 by omega]
  clear hy37
  refine ev_aload_n dd_D_init_319 rfl ?_
  refine ev_bp (v := 6) dd_D_init_320 (by decide +kernel) ?_
  refine B_arr (m := 6) (n := 38) dd_D_init_322 dd_D_init_324 fk_D_129 rfl rfl rfl hb (by omega) hz (by omega) (show y38 + 6 ≤ 7293034 by omega) (fun _ => rfl) (fun _ => rfl) ?_
  obtain ⟨y39, hy39⟩ : ∃ y39, y39 = u + 14826 := ⟨_, rfl⟩
  rw [show y38 + 6 = y39 by omega]
  clear hy38
  refine ev_aload_n dd_D_init_327 rfl ?_
  refine ev_bp (v := 6) dd_D_init_328 (by decide +kernel) ?_
  refine B_arr (m := 6) (n := 39) dd_D_init_330 dd_D_init_332 fk_D_132 rfl rfl rfl hb (by omega) hz (by omega) (show y39 + 6 ≤ 7293034 by omega) (fun _ => rfl) (fun _ => rfl) ?_
  obtain ⟨y40, hy40⟩ : ∃ y40, y40 = u + 14832 := ⟨_, rfl⟩
  rw [show y39 + 6 = y40 by omega]
  clear hy39
  refine ev_aload_n dd_D_init_335 rfl ?_
  refine ev_bp (v := 6) dd_D_init_336 (by decide +kernel) ?_
  refine B_arrz (m := 6) (n := 40) dd_D_init_338 dd_D_init_340 fk_D_135 rfl rfl rfl hb (by omega) hz (by omega) (show y40 + 6 ≤ 7293034 by omega) (fun _ => rfl) (fun _ => rfl) ?_
  obtain ⟨y41, hy41⟩ : ∃ y41, y41 = u + 14838 := ⟨_, rfl⟩
  rw [show y40 + 6 = y41 by omega]
  clear hy40
  refine ev_aload_n dd_D_init_343 rfl ?_
  refine ev_bp (v := 6) dd_D_init_344 (by decide +kernel) ?_
  refine B_arr (m := 6) (n := 41) dd_D_init_346 dd_D_init_348 fk_D_138 rfl rfl rfl hb (by omega) hz (by omega) (show y41 + 6 ≤ 7293034 by omega) (fun _ => rfl) (fun _ => rfl) ?_
  obtain ⟨y42, hy42⟩ : ∃ y42, y42 = u + 14844 := ⟨_, rfl⟩
  rw [show y41 + 6 = y42 by omega]
  clear hy41
  refine ev_aload_n dd_D_init_351 rfl ?_
  refine ev_bp (v := 6) dd_D_init_352 (by decide +kernel) ?_
  refine B_arr (m := 6) (n := 42) dd_D_init_354 dd_D_init_356 fk_D_141 rfl rfl rfl hb (by omega) hz (by omega) (show y42 + 6 ≤ 7293034 by omega) (fun _ => rfl) (fun _ => rfl) ?_
  obtain ⟨y43, hy43⟩ : ∃ y43, y43 = u + 14850 := ⟨_, rfl⟩
  rw [show y42 + 6 = y43 by omega]
  clear hy42
  refine ev_aload_n dd_D_init_359 rfl ?_
  refine ev_bp (v := 6) dd_D_init_360 (by decide +kernel) ?_
  refine B_arr (m := 6) (n := 43) dd_D_init_362 dd_D_init_364 fk_D_144 rfl rfl rfl hb (by omega) hz (by omega) (show y43 + 6 ≤ 7293034 by omega) (fun _ => rfl) (fun _ => rfl) ?_
  obtain ⟨y44, hy44⟩ : ∃ y44, y44 = u + 14856 := ⟨_, rfl⟩
  rw [show y43 + 6 = y44 by omega]
  clear hy43
  refine ev_aload_n dd_D_init_367 rfl ?_
  refine ev_bp (v := 6) dd_D_init_368 (by decide +kernel) ?_
  refine B_arr (m := 6) (n := 44) dd_D_init_370 dd_D_init_372 fk_D_147 rfl rfl rfl hb (by omega) hz (by omega) (show y44 + 6 ≤ 7293034 by omega) (fun _ => rfl) (fun _ => rfl) ?_
  obtain ⟨y45, hy45⟩ : ∃ y45, y45 = u + 14862 := ⟨_, rfl⟩
  rw [show y44 + 6 = y45 by omega]
  clear hy44
  refine ev_aload_n dd_D_init_375 rfl ?_
  refine ev_bp (v := 8) dd_D_init_376 (by decide +kernel) ?_
  refine B_arr (m := 8) (n := 45) dd_D_init_378 dd_D_init_380 fk_D_150 rfl rfl rfl hb (by omega) hz (by omega) (show y45 + 8 ≤ 7293034 by omega) (fun _ => rfl) (fun _ => rfl) ?_
  obtain ⟨y46, hy46⟩ : ∃ y46, y46 = u + 14870 := ⟨_, rfl⟩
  rw [show y45 + 8 = y46 by omega]
  clear hy45
  refine ev_loc1 (i0 := 0) rfl ?_
  exact kk _ (by omega)
end BldE
