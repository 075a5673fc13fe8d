/-! the reference: a changeover is settled, is given up -/
def rf_up (x : Int32) : Nat → Nat → List rf_m → Nat
  | _, u, [] => u
  | k, u, μ :: zs => rf_up x (k + 1) (if ¬ μ.2.2.2.2 < 0 ∧ μ.2.2.2.2 = x ∧ u = 0 then k + 1 else u) zs
theorem rf_up_le (x : Int32) : ∀ (zs : List rf_m) (k u : Nat), u ≤ k → rf_up x k u zs ≤ k + zs.length := by
  intro zs
  induction zs with
  | nil => intro k u h; exact h
  | cons μ zs ih =>
    intro k u h
    have h1 := ih (k + 1) (if ¬ μ.2.2.2.2 < 0 ∧ μ.2.2.2.2 = x ∧ u = 0 then k + 1 else u) (by split <;> omega)
    rw [List.length_cons]
    show rf_up x (k + 1) _ zs ≤ _
    omega
def rs_settle (D : rf_C) (s : Nat) (x : Int32) : rf_C := rf_sI (rf_sX D (12 + s) (((D.2 (12 + s)).drop (rf_up x 0 0 (D.2 (12 + s)))).map rf_n1)) 42 s 2
section RfV
variable {G : ev_gx} {M : ev_mx} {d pc pc' tgt : Nat} {L : List (Nat × Value)} {st : List Value} {w w1 F : ev_wd} {P : ev_r → ev_wd → Prop} {D D' : rf_C} {H : Option (Nat × rf_m)} {Q : Nat → rf_m → Prop}
theorem k_D_up {s : Nat} {x : Int32} {A : rf_A} (hM : rf_M G w A F) : ∀ (ys : List Nat) (p : Int32) (k u : Nat), k + ys.length ≤ 2400 → u ≤ k → rf_ch (A 6) p ys → (∀ y ∈ ys, y < 2400) →
    (ev_E G mm_D_settle d 68 [(0, .ref (ev_b G + 77)), (1, .int (Int32.ofNat s)), (3, .int (Int32.ofNat (rf_up x k u (ys.map (rf_val A)))))] [] w P) →
    ev_E G mm_D_settle d 16 [(0, .ref (ev_b G + 77)), (1, .int (Int32.ofNat s)), (2, .int x), (3, .int (Int32.ofNat u)), (4, .int (Int32.ofNat k)), (5, .int p)] [] w P := by
  intro ys
  induction ys with
  | nil =>
    intro p k u hk hu hc hlt kk
    have e : p = -1 := hc
    rw [e]
    refine ev_iload dd_D_settle_16 rfl ?_
    refine ev_if_lt dd_D_settle_18 (fun _ => ?_) (fun c => absurd (by decide) c)
    refine ev_loc3 (i0 := 0) (i1 := 1) (i2 := 3) rfl rfl rfl ?_
    exact kk
  | cons y ys ih =>
    intro p k u hk hu hc hlt kk
    rw [List.length_cons] at hk
    have hy := hlt y List.mem_cons_self
    have hy6 : y < rf_n 6 := hy
    have hy5 : y < rf_n 5 := hy
    rw [hc.1]
    have step : ∀ (u2 : Nat), u2 = (if ¬ (rf_val A y).2.2.2.2 < 0 ∧ (rf_val A y).2.2.2.2 = x ∧ u = 0 then k + 1 else u) →
        ev_E G mm_D_settle d 55 [(0, .ref (ev_b G + 77)), (1, .int (Int32.ofNat s)), (2, .int x), (3, .int (Int32.ofNat u)), (4, .int (Int32.ofNat (k + 1))), (5, .int (Int32.ofNat y))] [.int (Int32.ofNat u2)] w P := by
      intro u2 e2
      refine ev_istore_n dd_D_settle_55 (by decide) ?_
      refine ev_aload_n dd_D_settle_56 rfl ?_
      refine M_gA (k := 6) dd_D_settle_57 fr_D_25 hM rfl ?_
      refine ev_iload dd_D_settle_60 rfl ?_
      refine M_ld (k := 6) dd_D_settle_62 hM rfl rfl hy6 ?_
      refine ev_istore dd_D_settle_63 (by decide) ?_
      refine ev_goto dd_D_settle_65 ?_
      refine ev_loc6 (i0 := 0) (i1 := 1) (i2 := 2) (i3 := 3) (i4 := 4) (i5 := 5) rfl rfl rfl rfl rfl rfl ?_
      refine ih _ (k + 1) u2 (by omega) (by rw [e2]; split <;> omega) hc.2 (fun z hz => hlt z (List.mem_cons_of_mem _ hz)) ?_
      rw [e2]
      exact kk
    refine ev_iload dd_D_settle_16 rfl ?_
    refine ev_if_lt dd_D_settle_18 (fun c => absurd c (ev_on y (by omega))) (fun _ => ?_)
    refine ev_iinc dd_D_settle_21 rfl (by decide) ?_
    refine ev_aload_n dd_D_settle_24 rfl ?_
    refine M_gA (k := 5) dd_D_settle_25 fr_D_22 hM rfl ?_
    refine ev_loc6 (i0 := 0) (i1 := 1) (i2 := 2) (i3 := 3) (i4 := 4) (i5 := 5) rfl rfl rfl rfl (v4 := .int (Int32.ofNat (k + 1))) (by rw [show Int32.ofNat (k + 1) = Int32.ofNat k + Int32.ofInt 1 by rw [inc_ofNat]; rfl]; rfl) rfl ?_
    refine ev_iload dd_D_settle_28 rfl ?_
    refine M_ld (k := 5) dd_D_settle_30 hM rfl rfl hy5 ?_
    refine ev_if_lt dd_D_settle_31 (fun c => ?_) (fun c => ?_)
    · refine ev_iload_n dd_D_settle_54 rfl ?_
      exact step u (by rw [if_neg (fun e => e.1 c)])
    · refine ev_aload_n dd_D_settle_34 rfl ?_
      refine M_gA (k := 5) dd_D_settle_35 fr_D_22 hM rfl ?_
      refine ev_iload dd_D_settle_38 rfl ?_
      refine M_ld (k := 5) dd_D_settle_40 hM rfl rfl hy5 ?_
      refine ev_iload_n dd_D_settle_41 rfl ?_
      refine ev_icmp_ne dd_D_settle_42 (fun c2 => ?_) (fun c2 => ?_)
      · refine ev_iload_n dd_D_settle_54 rfl ?_
        exact step u (by rw [if_neg (fun e => c2 e.2.1)])
      · refine ev_iload_n dd_D_settle_45 rfl ?_
        refine ev_if_ne dd_D_settle_46 (fun c3 => ?_) (fun c3 => ?_)
        · refine ev_iload_n dd_D_settle_54 rfl ?_
          exact step u (by rw [if_neg (fun e => c3 (by rw [e.2.2]; rfl))])
        · refine ev_iload dd_D_settle_49 rfl ?_
          refine ev_goto dd_D_settle_51 ?_
          refine step (k + 1) ?_
          have hu0 : u = 0 := by
            rcases Nat.eq_zero_or_pos u with h | h
            · exact h
            · exact absurd c3 (nI_ne0 h (by omega))
          rw [if_pos ⟨c, c2, hu0⟩]
theorem k_D_drop {s u : Nat} (hs : s < 6) (hu : u ≤ 2400) : ∀ (n i : Nat) (D : rf_C) (w : ev_wd), i + n = u → n ≤ (D.2 (12 + s)).length → rf_K G w D none F Q → (∀ w1, rf_K G w1 (rf_sX D (12 + s) ((D.2 (12 + s)).drop n)) none F Q → ev_E G mm_D_settle (d + 1) 95 [(0, .ref (ev_b G + 77)), (1, .int (Int32.ofNat s))] [] w1 P) →
    ev_E G mm_D_settle (d + 1) 71 [(0, .ref (ev_b G + 77)), (1, .int (Int32.ofNat s)), (3, .int (Int32.ofNat u)), (5, .int (Int32.ofNat i))] [] w P := by
  have hr : 12 + s < 22 := by omega
  intro n
  induction n with
  | zero =>
    intro i D w hi hn h kk
    refine ev_iload dd_D_settle_71 rfl ?_
    refine ev_iload_n dd_D_settle_73 rfl ?_
    refine ev_icmp_ge dd_D_settle_74 (fun _ => ?_) (fun c => absurd (nI_le (by omega) (by omega)) c)
    refine ev_loc2 (i0 := 0) (i1 := 1) rfl rfl ?_
    refine kk w ?_
    rw [List.drop_zero, rf_sX_same]
    exact h
  | succ n ih =>
    intro i D w hi hn h kk
    rcases hz : D.2 (12 + s) with _ | ⟨μ, zs⟩
    · rw [hz] at hn
      exact absurd hn (by rw [List.length_nil]; omega)
    refine ev_iload dd_D_settle_71 rfl ?_
    refine ev_iload_n dd_D_settle_73 rfl ?_
    refine ev_icmp_ge dd_D_settle_74 (fun c => absurd c (nI_ge (by omega) (by omega))) (fun _ => ?_)
    refine ev_aload_n dd_D_settle_77 rfl ?_
    refine ev_aload_n dd_D_settle_78 rfl ?_
    refine ev_bp (v := 12) dd_D_settle_79 (by decide +kernel) ?_
    refine ev_iload_n dd_D_settle_81 rfl ?_
    refine ev_iadd dd_D_settle_82 ?_
    rw [show (12 : Int32) + Int32.ofNat s = Int32.ofNat (12 + s) from nI_add 12 s]
    refine ev_callv [.int (Int32.ofNat (12 + s))] dd_D_settle_83 ms_D_shift iv_D_163 h.ob h.tg rfl (Nat.le_of_ble_eq_true rfl) (Nat.le_of_ble_eq_true rfl) (k_D_shift hr hz h) (fun v w1 hp _ _ => ?_) (fun x w3 hp _ _ => by obtain ⟨y, h1, -⟩ := hp; cases h1)
    obtain ⟨m, h1, -, h2⟩ := hp
    cases h1
    refine ev_callvV2 [_] dd_D_settle_86 ms_D_give iv_D_167 h2.ob h2.tg rfl (Nat.le_of_ble_eq_true rfl) (Nat.le_of_ble_eq_true rfl) (k_D_give h2) (fun w3 h3 => ?_)
    refine ev_iinc dd_D_settle_89 rfl (by decide) ?_
    refine ev_goto dd_D_settle_92 ?_
    refine ev_loc4 (i0 := 0) (i1 := 1) (i2 := 3) (i3 := 5) rfl rfl rfl (v3 := .int (Int32.ofNat (i + 1))) (by rw [show Int32.ofNat (i + 1) = Int32.ofNat i + Int32.ofInt 1 by rw [inc_ofNat]; rfl]; rfl) ?_
    refine ih (i + 1) _ w3 (by omega) (by rw [rf_sX_at]; rw [hz, List.length_cons] at hn; omega) h3 (fun w4 h4 => kk w4 ?_)
    rw [rf_sX_at, rf_sX_two] at h4
    rw [hz]
    exact h4
theorem k_D_unn {s : Nat} : ∀ (ys : List Nat) (p : Int32) (A : rf_A) (w : ev_wd), rf_M G w A F → rf_ch (A 6) p ys → (∀ y ∈ ys, y < 2400) →
    (∀ w1 B, rf_M G w1 B F → (∀ k j, B k j = if k = 5 ∧ j ∈ ys then -1 else A k j) → ev_E G mm_D_settle d 131 [(0, .ref (ev_b G + 77)), (1, .int (Int32.ofNat s))] [] w1 P) →
    ev_E G mm_D_settle d 106 [(0, .ref (ev_b G + 77)), (1, .int (Int32.ofNat s)), (5, .int p)] [] w P := by
  intro ys
  induction ys with
  | nil =>
    intro p A w hM hc hlt kk
    have e : p = -1 := hc
    rw [e]
    refine ev_iload dd_D_settle_106 rfl ?_
    refine ev_if_lt dd_D_settle_108 (fun _ => ?_) (fun c => absurd (by decide) c)
    refine ev_loc2 (i0 := 0) (i1 := 1) rfl rfl ?_
    exact kk w A hM (fun k j => by rw [if_neg (fun e => absurd e.2 List.not_mem_nil)])
  | cons y ys ih =>
    intro p A w hM hc hlt kk
    have hy := hlt y List.mem_cons_self
    have hy6 : y < rf_n 6 := hy
    have hy5 : y < rf_n 5 := hy
    rw [hc.1]
    refine ev_iload dd_D_settle_106 rfl ?_
    refine ev_if_lt dd_D_settle_108 (fun c => absurd c (ev_on y (by omega))) (fun _ => ?_)
    refine ev_aload_n dd_D_settle_111 rfl ?_
    refine M_gA (k := 5) dd_D_settle_112 fr_D_22 hM rfl ?_
    refine ev_iload dd_D_settle_115 rfl ?_
    refine ev_ic (v := (-1)) dd_D_settle_117 (by decide +kernel) ?_
    refine M_st (k := 5) dd_D_settle_118 hM rfl rfl hy5 (fun w1 h1 => ?_)
    refine ev_aload_n dd_D_settle_119 rfl ?_
    refine M_gA (k := 6) dd_D_settle_120 fr_D_25 h1 rfl ?_
    refine ev_iload dd_D_settle_123 rfl ?_
    refine M_ld (k := 6) dd_D_settle_125 h1 rfl rfl hy6 ?_
    refine ev_istore dd_D_settle_126 (by decide) ?_
    refine ev_goto dd_D_settle_128 ?_
    refine ev_loc3 (i0 := 0) (i1 := 1) (i2 := 5) rfl rfl rfl ?_
    refine ih _ _ w1 h1 ?_ (fun z hz => hlt z (List.mem_cons_of_mem _ hz)) (fun w2 B hB e => kk w2 B hB (fun k j => ?_))
    · rw [rf_u_k (k' := 6) _ _ (by omega)]
      exact hc.2
    · rw [e k j]
      by_cases e1 : k = 5 ∧ j ∈ ys
      · rw [if_pos e1, if_pos ⟨e1.1, List.mem_cons_of_mem _ e1.2⟩]
      · rw [if_neg e1]
        by_cases e2 : k = 5 ∧ j = y
        · rw [e2.1, e2.2, rf_u_at, if_pos ⟨rfl, List.mem_cons_self⟩]
        · rw [rf_u_ne _ _ e2, if_neg (fun e3 => by
            rcases List.mem_cons.mp e3.2 with h4 | h4
            · exact e2 ⟨e3.1, h4⟩
            · exact e1 ⟨e3.1, h4⟩)]
theorem k_D_settle {s : Nat} (hs : s < 6) (x : Int32) (h : rf_K G w D none F rf_Q0) : ev_E G mm_D_settle (d + 1) 0 (lv_args 0 [.ref (ev_b G + 77), .int (Int32.ofNat s), .int x]) [] w (rf_yv G F rf_Q0 none (rs_settle D s x)) := by
  have hr : 12 + s < 22 := by omega
  have hlen := h.len hr
  unfold rs_settle
  have hup := rf_up_le x (D.2 (12 + s)) 0 0 (Nat.le_refl _)
  refine ev_ic (v := 0) dd_D_settle_0 (by decide +kernel) ?_
  refine ev_istore_n dd_D_settle_1 (by decide) ?_
  refine ev_ic (v := 0) dd_D_settle_2 (by decide +kernel) ?_
  refine ev_istore dd_D_settle_3 (by decide) ?_
  refine ev_aload_n dd_D_settle_5 rfl ?_
  refine R_gA (k := 9) dd_D_settle_6 fr_D_32 h rfl ?_
  refine ev_bp (v := 12) dd_D_settle_9 (by decide +kernel) ?_
  refine ev_iload_n dd_D_settle_11 rfl ?_
  refine ev_iadd dd_D_settle_12 ?_
  rw [show (12 : Int32) + Int32.ofNat s = Int32.ofNat (12 + s) from nI_add 12 s]
  obtain ⟨A, xs, own, fs, mk, hM, hL, hI, hD, hV, hQ⟩ := id h
  obtain ⟨x1, x2, x3, x4, x5⟩ := hL.2.2.1 (12 + s) hr
  have hl2 := hL.1.2.1
  refine M_ld (k := 9) dd_D_settle_13 hM rfl rfl hr ?_
  refine ev_istore dd_D_settle_14 (by decide) ?_
  refine ev_loc6 (i0 := 0) (i1 := 1) (i2 := 2) (i3 := 3) (i4 := 4) (i5 := 5) rfl rfl rfl (v3 := .int (Int32.ofNat 0)) rfl (v4 := .int (Int32.ofNat 0)) rfl rfl ?_
  refine k_D_up hM (xs (12 + s)) _ 0 0 (by rw [hD _ hr, List.length_map] at hlen; omega) (Nat.le_refl _) x1 (fun y hy => by have := (x5 y hy).1; omega) ?_
  rw [← hD _ hr]
  generalize hU : rf_up x 0 0 (D.2 (12 + s)) = u at *
  refine ev_ic (v := 0) dd_D_settle_68 (by decide +kernel) ?_
  refine ev_istore dd_D_settle_69 (by decide) ?_
  refine ev_loc4 (i0 := 0) (i1 := 1) (i2 := 3) (i3 := 5) rfl rfl rfl (v3 := .int (Int32.ofNat 0)) rfl ?_
  refine k_D_drop hs (by omega) u 0 D w (by omega) (by omega) h (fun w1 h1 => ?_)
  refine ev_aload_n dd_D_settle_95 rfl ?_
  refine R_gA (k := 9) dd_D_settle_96 fr_D_32 h1 rfl ?_
  refine ev_bp (v := 12) dd_D_settle_99 (by decide +kernel) ?_
  refine ev_iload_n dd_D_settle_101 rfl ?_
  refine ev_iadd dd_D_settle_102 ?_
  rw [show (12 : Int32) + Int32.ofNat s = Int32.ofNat (12 + s) from nI_add 12 s]
  clear hM hL hI hD hV hQ x1 x2 x3 x4 x5 hl2
  obtain ⟨A, xs, own, fs, mk, hM, hL, hI, hD, hV, hQ⟩ := h1
  obtain ⟨x1, x2, x3, x4, x5⟩ := hL.2.2.1 (12 + s) hr
  have hl2 := hL.1.2.1
  refine M_ld (k := 9) dd_D_settle_103 hM rfl rfl hr ?_
  refine ev_istore dd_D_settle_104 (by decide) ?_
  refine ev_loc3 (i0 := 0) (i1 := 1) (i2 := 5) rfl rfl rfl ?_
  refine k_D_unn (xs (12 + s)) _ A w1 hM x1 (fun y hy => by have := (x5 y hy).1; omega) (fun w2 B hB e => ?_)
  have hK : rf_K G w2 (rf_sX D (12 + s) (((D.2 (12 + s)).drop u).map rf_n1)) none F rf_Q0 := by
    refine ⟨B, xs, own, fs, mk, hB, hL.congr (fun k j a b => by rw [e, if_neg (fun e1 => by omega)]), fun k j hk => ?_, fun r hr2 => ?_, (fun y ν hy => by cases hy), fun y ν hy => hy.elim⟩
    · rw [e, if_neg (fun e1 => by omega)]
      exact hI k j hk
    · by_cases er : r = 12 + s
      · subst er
        have hd := hD (12 + s) hr
        rw [rf_sX_at] at hd
        rw [rf_sX_at, hd, List.map_map]
        refine List.map_congr_left (fun y hy => ?_)
        show rf_n1 (rf_val A y) = rf_val B y
        unfold rf_val rf_n1
        rw [e 1 y, e 2 y, e 3 y, e 4 y, e 5 y, if_neg (fun e1 => by omega), if_neg (fun e1 => by omega), if_neg (fun e1 => by omega), if_neg (fun e1 => by omega), if_pos ⟨rfl, hy⟩]
      · have hd := hD r hr2
        rw [rf_sX_ne _ _ er] at hd
        rw [rf_sX_ne _ _ er, hd]
        refine List.map_congr_left (fun y hy => (rf_val_eq (fun k a b => ?_)).symm)
        rw [e, if_neg (fun e1 => by
          have h1 := ((hL.2.2.1 r hr2).2.2.2.2 y hy).2
          have h2 := (x5 y e1.2).2
          exact er (h1.symm.trans h2))]
  refine ev_aload_n dd_D_settle_131 rfl ?_
  refine R_gA (k := 42) dd_D_settle_132 fr_D_132 hK rfl ?_
  refine ev_iload_n dd_D_settle_135 rfl ?_
  refine ev_ic (v := 2) dd_D_settle_136 (by decide +kernel) ?_
  refine R_st (k := 42) (j := s) dd_D_settle_137 hK rfl (show s < 6 by omega) (fun w3 h3 => ?_)
  refine ev_vret dd_D_settle_138 rfl ?_
  exact ⟨rfl, h3⟩
end RfV
