/-! the reference: an order, an answer, a message is taken -/
def rs_od0 (D : rf_C) (s : Nat) (y : Int32) : rf_C := if D.1 12 s = 4 then (if D.1 15 s = y then rs_D_fall D s else D) else D
def rs_od1 (D : rf_C) (l e u : Nat) (y : Int32) : rf_C := rs_say D e (5, (if D.1 28 (16 * (2 * l + e) + u % 16) = y then D.1 29 (16 * (2 * l + e) + u % 16) else -1), Int32.ofNat l, y, -1)
def rs_od2 (D : rf_C) (s : Nat) (x y : Int32) : rf_C := if D.1 42 s = 1 then (if D.1 46 s = y then rs_settle D s x else D) else D
def rs_takeOrder (D : rf_C) (e l u : Nat) (x : Int32) : rf_C := rs_od2 (rs_od1 (rs_od0 D (2 * l + e) (Int32.ofNat u)) l e u (Int32.ofNat u)) (2 * l + e) x (Int32.ofNat u)
section RgA
variable {G : ev_gx} {M : ev_mx} {d pc pc' tgt : Nat} {L : List (Nat × Value)} {st : List Value} {w w1 F : ev_wd} {P : ev_r → ev_wd → Prop} {D D' : rf_C} {H : Option (Nat × rf_m)} {Q : Nat → rf_m → Prop}
theorem k_D_takeOrder {e l u : Nat} (he : e < 2) (hl : l < 3) (hu : u < 1024) (x : Int32) (hh : rf_hu D (2 * l + e)) (hz : rz (rs_od0 D (2 * l + e) (Int32.ofNat u)) ≤ 2399) (h : rf_K G w D none F rf_Q0) :
    ev_E G mm_D_takeOrder (d + 3) 0 (lv_args 0 [.ref (ev_b G + 77), .int (Int32.ofNat e), .int (Int32.ofNat l), .int x, .int (Int32.ofNat u)]) [] w (rf_yv G F rf_Q0 none (rs_takeOrder D e l u x)) := by
  have hs : 2 * l + e < 6 := by omega
  have hrem := ms_rem16 ⟨u, hu⟩
  have hi : 16 * (2 * l + e) + u % 16 < 96 := by omega
  unfold rs_takeOrder
  have body : ∀ (D1 : rf_C) (w1 : ev_wd) (L : List (Nat × Value)), rz D1 ≤ 2399 → L.lookup 0 = some (.ref (ev_b G + 77)) → L.lookup 1 = some (.int (Int32.ofNat e)) → L.lookup 2 = some (.int (Int32.ofNat l)) → L.lookup 3 = some (.int x) → L.lookup 4 = some (.int (Int32.ofNat u)) → L.lookup 5 = some (.int (Int32.ofNat (2 * l + e))) → rf_K G w1 D1 none F rf_Q0 →
      ev_E G mm_D_takeOrder (d + 3) 36 L [] w1 (rf_yv G F rf_Q0 none (rs_od2 (rs_od1 D1 l e u (Int32.ofNat u)) (2 * l + e) x (Int32.ofNat u))) := by
    intro D1 w1 L hz1 l0 l1 l2 l3 l4 l5 h1
    refine ev_loc6 (i0 := 0) (i1 := 1) (i2 := 2) (i3 := 3) (i4 := 4) (i5 := 5) l0 l1 l2 l3 l4 l5 ?_
    refine ev_bp (v := 16) dd_D_takeOrder_36 (by decide +kernel) ?_
    refine ev_iload dd_D_takeOrder_38 rfl ?_
    refine ev_imul dd_D_takeOrder_40 ?_
    rw [show (16 : Int32) * Int32.ofNat (2 * l + e) = Int32.ofNat (16 * (2 * l + e)) from ms_mul 16 _]
    refine ev_iload dd_D_takeOrder_41 rfl ?_
    refine ev_bp (v := 16) dd_D_takeOrder_43 (by decide +kernel) ?_
    refine ev_irem dd_D_takeOrder_45 (by decide) ?_
    rw [hrem]
    refine ev_iadd dd_D_takeOrder_46 ?_
    rw [show Int32.ofNat (16 * (2 * l + e)) + Int32.ofNat (u % 16) = Int32.ofNat (16 * (2 * l + e) + u % 16) from nI_add _ _]
    have tail : ∀ (a : Int32) (L : List (Nat × Value)), L.lookup 0 = some (.ref (ev_b G + 77)) → L.lookup 2 = some (.int (Int32.ofNat l)) → L.lookup 3 = some (.int x) → L.lookup 4 = some (.int (Int32.ofNat u)) → L.lookup 5 = some (.int (Int32.ofNat (2 * l + e))) → a = (if D1.1 28 (16 * (2 * l + e) + u % 16) = Int32.ofNat u then D1.1 29 (16 * (2 * l + e) + u % 16) else -1) →
        ev_E G mm_D_takeOrder (d + 3) 76 L [.int a, .int 5, .ref (ev_b G + 77), .int (Int32.ofNat e), .ref (ev_b G + 77)] w1 (rf_yv G F rf_Q0 none (rs_od2 (rs_od1 D1 l e u (Int32.ofNat u)) (2 * l + e) x (Int32.ofNat u))) := by
      intro a L k0 k2 k3 k4 k5 ea
      refine ev_loc5 (i0 := 0) (i1 := 2) (i2 := 3) (i3 := 4) (i4 := 5) k0 k2 k3 k4 k5 ?_
      refine ev_iload_n dd_D_takeOrder_76 rfl ?_
      refine ev_iload dd_D_takeOrder_77 rfl ?_
      refine ev_callv [.int 5, .int a, .int (Int32.ofNat l), .int (Int32.ofNat u)] dd_D_takeOrder_79 ms_D_message iv_D_210 h1.ob h1.tg rfl (Nat.le_of_ble_eq_true rfl) (Nat.le_of_ble_eq_true rfl) (k_D_message _ _ _ _ hz1 h1) (fun v w2 hp _ _ => ?_) (fun x w3 hp _ _ => by obtain ⟨y, h1, -⟩ := hp; cases h1)
      obtain ⟨m, hv, -, h2⟩ := hp
      cases hv
      refine ev_callvV2 [_, _] dd_D_takeOrder_82 ms_D_say iv_D_203 h2.ob h2.tg rfl (Nat.le_of_ble_eq_true rfl) (Nat.le_of_ble_eq_true rfl) (k_D_say he h2) (fun w3 h3' => ?_)
      rw [ea] at h3'
      have h3 : rf_K G w3 (rs_od1 D1 l e u (Int32.ofNat u)) none F rf_Q0 := h3'
      generalize rs_od1 D1 l e u (Int32.ofNat u) = D2 at *
      unfold rs_od2
      refine ev_aload_n dd_D_takeOrder_85 rfl ?_
      refine R_gA (k := 42) dd_D_takeOrder_86 fr_D_132 h3 rfl ?_
      refine ev_iload dd_D_takeOrder_89 rfl ?_
      refine R_ld (k := 42) (j := 2 * l + e) dd_D_takeOrder_91 h3 rfl (show 2 * l + e < 6 by omega) ?_
      refine ev_ic (v := 1) dd_D_takeOrder_92 (by decide +kernel) ?_
      refine ev_icmp_ne dd_D_takeOrder_93 (fun c => ?_) (fun c => ?_)
      · rw [if_neg c]
        refine ev_vret dd_D_takeOrder_115 rfl ?_
        exact ⟨rfl, h3⟩
      · rw [if_pos c]
        refine ev_aload_n dd_D_takeOrder_96 rfl ?_
        refine R_gA (k := 46) dd_D_takeOrder_97 fr_D_144 h3 rfl ?_
        refine ev_iload dd_D_takeOrder_100 rfl ?_
        refine R_ld (k := 46) (j := 2 * l + e) dd_D_takeOrder_102 h3 rfl (show 2 * l + e < 6 by omega) ?_
        refine ev_iload dd_D_takeOrder_103 rfl ?_
        refine ev_icmp_ne dd_D_takeOrder_105 (fun c2 => ?_) (fun c2 => ?_)
        · rw [if_neg c2]
          refine ev_vret dd_D_takeOrder_115 rfl ?_
          exact ⟨rfl, h3⟩
        · rw [if_pos c2]
          refine ev_aload_n dd_D_takeOrder_108 rfl ?_
          refine ev_iload dd_D_takeOrder_109 rfl ?_
          refine ev_iload_n dd_D_takeOrder_111 rfl ?_
          refine ev_callvV2 [_, _] dd_D_takeOrder_112 ms_D_settle iv_D_220 h3.ob h3.tg rfl (Nat.le_of_ble_eq_true rfl) (Nat.le_of_ble_eq_true rfl) (k_D_settle hs _ h3) (fun w4 h4 => ?_)
          refine ev_vret dd_D_takeOrder_115 rfl ?_
          exact ⟨rfl, h4⟩
    refine ev_istore dd_D_takeOrder_47 (by decide) ?_
    refine ev_aload_n dd_D_takeOrder_49 rfl ?_
    refine ev_iload_n dd_D_takeOrder_50 rfl ?_
    refine ev_aload_n dd_D_takeOrder_51 rfl ?_
    refine ev_ic (v := 5) dd_D_takeOrder_52 (by decide +kernel) ?_
    refine ev_aload_n dd_D_takeOrder_53 rfl ?_
    refine R_gA (k := 28) dd_D_takeOrder_54 fr_D_90 h1 rfl ?_
    refine ev_iload dd_D_takeOrder_57 rfl ?_
    refine R_ld (k := 28) (j := 16 * (2 * l + e) + u % 16) dd_D_takeOrder_59 h1 rfl hi ?_
    refine ev_iload dd_D_takeOrder_60 rfl ?_
    refine ev_icmp_ne dd_D_takeOrder_62 (fun c => ?_) (fun c => ?_)
    · refine ev_ic (v := (-1)) dd_D_takeOrder_75 (by decide +kernel) ?_
      exact tail (-1) _ rfl rfl rfl rfl rfl (if_neg c).symm
    · refine ev_aload_n dd_D_takeOrder_65 rfl ?_
      refine R_gA (k := 29) dd_D_takeOrder_66 fr_D_93 h1 rfl ?_
      refine ev_iload dd_D_takeOrder_69 rfl ?_
      refine R_ld (k := 29) (j := 16 * (2 * l + e) + u % 16) dd_D_takeOrder_71 h1 rfl hi ?_
      refine ev_goto dd_D_takeOrder_72 ?_
      exact tail _ _ rfl rfl rfl rfl rfl (if_pos c).symm
  unfold rs_od0 at hz ⊢
  refine ev_ic (v := 2) dd_D_takeOrder_0 (by decide +kernel) ?_
  refine ev_iload_n dd_D_takeOrder_1 rfl ?_
  refine ev_imul dd_D_takeOrder_2 ?_
  refine ev_iload_n dd_D_takeOrder_3 rfl ?_
  refine ev_iadd dd_D_takeOrder_4 ?_
  rw [show (2 : Int32) * Int32.ofNat l = Int32.ofNat (2 * l) from ms_mul 2 l, show Int32.ofNat (2 * l) + Int32.ofNat e = Int32.ofNat (2 * l + e) from nI_add _ _]
  refine ev_istore dd_D_takeOrder_5 (by decide) ?_
  refine ev_aload_n dd_D_takeOrder_7 rfl ?_
  refine R_gA (k := 12) dd_D_takeOrder_8 fr_D_41 h rfl ?_
  refine ev_iload dd_D_takeOrder_11 rfl ?_
  refine R_ld (k := 12) (j := 2 * l + e) dd_D_takeOrder_13 h rfl (show 2 * l + e < 6 by omega) ?_
  refine ev_ic (v := 4) dd_D_takeOrder_14 (by decide +kernel) ?_
  refine ev_icmp_ne dd_D_takeOrder_15 (fun c => ?_) (fun c => ?_)
  · rw [if_neg c] at hz ⊢
    exact body D w _ hz rfl rfl rfl rfl rfl rfl h
  · rw [if_pos c] at hz ⊢
    refine ev_aload_n dd_D_takeOrder_18 rfl ?_
    refine R_gA (k := 15) dd_D_takeOrder_19 fr_D_50 h rfl ?_
    refine ev_iload dd_D_takeOrder_22 rfl ?_
    refine R_ld (k := 15) (j := 2 * l + e) dd_D_takeOrder_24 h rfl (show 2 * l + e < 6 by omega) ?_
    refine ev_iload dd_D_takeOrder_25 rfl ?_
    refine ev_icmp_ne dd_D_takeOrder_27 (fun c2 => ?_) (fun c2 => ?_)
    · rw [if_neg c2] at hz ⊢
      exact body D w _ hz rfl rfl rfl rfl rfl rfl h
    · rw [if_pos c2] at hz ⊢
      refine ev_aload_n dd_D_takeOrder_30 rfl ?_
      refine ev_iload dd_D_takeOrder_31 rfl ?_
      refine ev_callvV2 [_] dd_D_takeOrder_33 ms_D_fall iv_D_188 h.ob h.tg rfl (Nat.le_of_ble_eq_true rfl) (Nat.le_of_ble_eq_true rfl) (k_D_fall (D := D) hs hh h) (fun w1 h1 => ?_)
      exact body _ w1 _ hz rfl rfl rfl rfl rfl rfl h1
/-- what a unit carries is taken: the link that it is about, its turn -/
def rf_al (D : rf_C) (t : Nat) : Nat := (D.1 40 t).toNatClampNeg
def rf_tu (D : rf_C) (t : Nat) : Nat := (D.1 41 t).toNatClampNeg
def rs_isTaken (D : rf_C) (e t : Nat) : rf_C := if D.1 38 t = 4 then rs_takeOrder D e (rf_al D t) (rf_tu D t) (D.1 39 t) else if D.1 38 t = 5 then (if D.1 42 (2 * rf_al D t + e) = 1 then (if D.1 45 (2 * rf_al D t + e) = D.1 41 t then rs_settle D (2 * rf_al D t + e) (D.1 39 t) else D) else D) else rs_put D (20 + e) (D.1 38 t, D.1 39 t, 0, 0, -1)
def rf_tk (D : rf_C) (e t : Nat) : Prop := ((D.1 38 t = 4 ∨ D.1 38 t = 5) → D.1 40 t = Int32.ofNat (rf_al D t) ∧ rf_al D t < 3) ∧ (D.1 38 t = 4 → D.1 41 t = Int32.ofNat (rf_tu D t) ∧ rf_tu D t < 1024 ∧ rf_hu D (2 * rf_al D t + e) ∧ rz (rs_od0 D (2 * rf_al D t + e) (Int32.ofNat (rf_tu D t))) ≤ 2399) ∧ rz D ≤ 2399
theorem k_D_isTaken {l e t : Nat} (hl : l < 3) (he : e < 2) (ht : t < 6) (hk : rf_tk D e t) (h : rf_K G w D none F rf_Q0) : ev_E G mm_D_isTaken (d + 4) 0 (lv_args 0 [.ref (ev_b G + 77), .int (Int32.ofNat (2 * l + e)), .int (Int32.ofNat t)]) [] w (rf_yv G F rf_Q0 none (rs_isTaken D e t)) := by
  obtain ⟨k1, k2, k3⟩ := hk
  unfold rs_isTaken
  refine ev_iload_n dd_D_isTaken_0 rfl ?_
  refine ev_ic (v := 2) dd_D_isTaken_1 (by decide +kernel) ?_
  refine ev_irem dd_D_isTaken_2 (by decide) ?_
  rw [ms_rem hl he]
  refine ev_istore_n dd_D_isTaken_3 (by decide) ?_
  refine ev_aload_n dd_D_isTaken_4 rfl ?_
  refine R_gA (k := 40) dd_D_isTaken_5 fr_D_126 h rfl ?_
  refine ev_iload_n dd_D_isTaken_8 rfl ?_
  refine R_ld (k := 40) (j := t) dd_D_isTaken_9 h rfl (show t < 6 by omega) ?_
  refine ev_istore dd_D_isTaken_10 (by decide) ?_
  refine ev_aload_n dd_D_isTaken_12 rfl ?_
  refine R_gA (k := 38) dd_D_isTaken_13 fr_D_120 h rfl ?_
  refine ev_iload_n dd_D_isTaken_16 rfl ?_
  refine R_ld (k := 38) (j := t) dd_D_isTaken_17 h rfl (show t < 6 by omega) ?_
  refine ev_ic (v := 4) dd_D_isTaken_18 (by decide +kernel) ?_
  refine ev_icmp_ne dd_D_isTaken_19 (fun c => ?_) (fun c => ?_)
  · rw [if_neg c]
    refine ev_aload_n dd_D_isTaken_44 rfl ?_
    refine R_gA (k := 38) dd_D_isTaken_45 fr_D_120 h rfl ?_
    refine ev_iload_n dd_D_isTaken_48 rfl ?_
    refine R_ld (k := 38) (j := t) dd_D_isTaken_49 h rfl (show t < 6 by omega) ?_
    refine ev_ic (v := 5) dd_D_isTaken_50 (by decide +kernel) ?_
    refine ev_icmp_ne dd_D_isTaken_51 (fun c2 => ?_) (fun c2 => ?_)
    · rw [if_neg c2]
      refine ev_aload_n dd_D_isTaken_108 rfl ?_
      refine ev_bp (v := 20) dd_D_isTaken_109 (by decide +kernel) ?_
      refine ev_iload_n dd_D_isTaken_111 rfl ?_
      refine ev_iadd dd_D_isTaken_112 ?_
      rw [show (20 : Int32) + Int32.ofNat e = Int32.ofNat (20 + e) from nI_add 20 e]
      refine ev_aload_n dd_D_isTaken_113 rfl ?_
      refine ev_aload_n dd_D_isTaken_114 rfl ?_
      refine R_gA (k := 38) dd_D_isTaken_115 fr_D_120 h rfl ?_
      refine ev_iload_n dd_D_isTaken_118 rfl ?_
      refine R_ld (k := 38) (j := t) dd_D_isTaken_119 h rfl (show t < 6 by omega) ?_
      refine ev_aload_n dd_D_isTaken_120 rfl ?_
      refine R_gA (k := 39) dd_D_isTaken_121 fr_D_123 h rfl ?_
      refine ev_iload_n dd_D_isTaken_124 rfl ?_
      refine R_ld (k := 39) (j := t) dd_D_isTaken_125 h rfl (show t < 6 by omega) ?_
      refine ev_ic (v := 0) dd_D_isTaken_126 (by decide +kernel) ?_
      refine ev_ic (v := 0) dd_D_isTaken_127 (by decide +kernel) ?_
      refine ev_callv [.int (D.1 38 t), .int (D.1 39 t), .int 0, .int 0] dd_D_isTaken_128 ms_D_message iv_D_210 h.ob h.tg rfl (Nat.le_of_ble_eq_true rfl) (Nat.le_of_ble_eq_true rfl) (k_D_message _ _ _ _ k3 h) (fun v w2 hp _ _ => ?_) (fun x w3 hp _ _ => by obtain ⟨y, h1, -⟩ := hp; cases h1)
      obtain ⟨m, hv, -, h2⟩ := hp
      cases hv
      refine ev_callvV2 [_, _] dd_D_isTaken_131 ms_D_put iv_D_191 h2.ob h2.tg rfl (Nat.le_of_ble_eq_true rfl) (Nat.le_of_ble_eq_true rfl) (k_D_put (show 20 + e < 22 by omega) h2) (fun w3 h3 => ?_)
      refine ev_vret dd_D_isTaken_134 rfl ?_
      exact ⟨rfl, h3⟩
    · rw [if_pos c2]
      obtain ⟨a1, a2⟩ := k1 (Or.inr c2)
      have hs : 2 * rf_al D t + e < 6 := by omega
      refine ev_aload_n dd_D_isTaken_54 rfl ?_
      refine R_gA (k := 42) dd_D_isTaken_55 fr_D_132 h rfl ?_
      refine ev_ic (v := 2) dd_D_isTaken_58 (by decide +kernel) ?_
      refine ev_iload dd_D_isTaken_59 rfl ?_
      refine ev_imul dd_D_isTaken_61 ?_
      refine ev_iload_n dd_D_isTaken_62 rfl ?_
      refine ev_iadd dd_D_isTaken_63 ?_
      rw [a1, show (2 : Int32) * Int32.ofNat (rf_al D t) = Int32.ofNat (2 * rf_al D t) from ms_mul 2 _, show Int32.ofNat (2 * rf_al D t) + Int32.ofNat e = Int32.ofNat (2 * rf_al D t + e) from nI_add _ _]
      refine R_ld (k := 42) (j := 2 * rf_al D t + e) dd_D_isTaken_64 h rfl hs ?_
      refine ev_ic (v := 1) dd_D_isTaken_65 (by decide +kernel) ?_
      refine ev_icmp_ne dd_D_isTaken_66 (fun c3 => ?_) (fun c3 => ?_)
      · rw [if_neg c3]
        refine ev_vret dd_D_isTaken_134 rfl ?_
        exact ⟨rfl, h⟩
      · rw [if_pos c3]
        refine ev_aload_n dd_D_isTaken_69 rfl ?_
        refine R_gA (k := 45) dd_D_isTaken_70 fr_D_141 h rfl ?_
        refine ev_ic (v := 2) dd_D_isTaken_73 (by decide +kernel) ?_
        refine ev_iload dd_D_isTaken_74 rfl ?_
        refine ev_imul dd_D_isTaken_76 ?_
        refine ev_iload_n dd_D_isTaken_77 rfl ?_
        refine ev_iadd dd_D_isTaken_78 ?_
        rw [show (2 : Int32) * Int32.ofNat (rf_al D t) = Int32.ofNat (2 * rf_al D t) from ms_mul 2 _, show Int32.ofNat (2 * rf_al D t) + Int32.ofNat e = Int32.ofNat (2 * rf_al D t + e) from nI_add _ _]
        refine R_ld (k := 45) (j := 2 * rf_al D t + e) dd_D_isTaken_79 h rfl hs ?_
        refine ev_aload_n dd_D_isTaken_80 rfl ?_
        refine R_gA (k := 41) dd_D_isTaken_81 fr_D_129 h rfl ?_
        refine ev_iload_n dd_D_isTaken_84 rfl ?_
        refine R_ld (k := 41) (j := t) dd_D_isTaken_85 h rfl (show t < 6 by omega) ?_
        refine ev_icmp_ne dd_D_isTaken_86 (fun c4 => ?_) (fun c4 => ?_)
        · rw [if_neg c4]
          refine ev_vret dd_D_isTaken_134 rfl ?_
          exact ⟨rfl, h⟩
        · rw [if_pos c4]
          refine ev_aload_n dd_D_isTaken_89 rfl ?_
          refine ev_ic (v := 2) dd_D_isTaken_90 (by decide +kernel) ?_
          refine ev_iload dd_D_isTaken_91 rfl ?_
          refine ev_imul dd_D_isTaken_93 ?_
          refine ev_iload_n dd_D_isTaken_94 rfl ?_
          refine ev_iadd dd_D_isTaken_95 ?_
          rw [show (2 : Int32) * Int32.ofNat (rf_al D t) = Int32.ofNat (2 * rf_al D t) from ms_mul 2 _, show Int32.ofNat (2 * rf_al D t) + Int32.ofNat e = Int32.ofNat (2 * rf_al D t + e) from nI_add _ _]
          refine ev_aload_n dd_D_isTaken_96 rfl ?_
          refine R_gA (k := 39) dd_D_isTaken_97 fr_D_123 h rfl ?_
          refine ev_iload_n dd_D_isTaken_100 rfl ?_
          refine R_ld (k := 39) (j := t) dd_D_isTaken_101 h rfl (show t < 6 by omega) ?_
          refine ev_callvV2 [_, _] dd_D_isTaken_102 ms_D_settle iv_D_220 h.ob h.tg rfl (Nat.le_of_ble_eq_true rfl) (Nat.le_of_ble_eq_true rfl) (k_D_settle hs _ h) (fun w4 h4 => ?_)
          refine ev_goto dd_D_isTaken_105 ?_
          refine ev_vret dd_D_isTaken_134 rfl ?_
          exact ⟨rfl, h4⟩
  · rw [if_pos c]
    obtain ⟨a1, a2⟩ := k1 (Or.inl c)
    obtain ⟨b1, b2, b3, b4⟩ := k2 c
    refine ev_aload_n dd_D_isTaken_22 rfl ?_
    refine ev_iload_n dd_D_isTaken_23 rfl ?_
    refine ev_iload dd_D_isTaken_24 rfl ?_
    refine ev_aload_n dd_D_isTaken_26 rfl ?_
    rw [a1]
    refine R_gA (k := 39) dd_D_isTaken_27 fr_D_123 h rfl ?_
    refine ev_iload_n dd_D_isTaken_30 rfl ?_
    refine R_ld (k := 39) (j := t) dd_D_isTaken_31 h rfl (show t < 6 by omega) ?_
    refine ev_aload_n dd_D_isTaken_32 rfl ?_
    refine R_gA (k := 41) dd_D_isTaken_33 fr_D_129 h rfl ?_
    refine ev_iload_n dd_D_isTaken_36 rfl ?_
    refine R_ld (k := 41) (j := t) dd_D_isTaken_37 h rfl (show t < 6 by omega) ?_
    rw [b1]
    refine ev_callvV2 [_, _, _, _] dd_D_isTaken_38 ms_D_takeOrder iv_D_223 h.ob h.tg rfl (Nat.le_of_ble_eq_true rfl) (Nat.le_of_ble_eq_true rfl) (k_D_takeOrder (D := D) he a2 b2 _ b3 b4 h) (fun w4 h4 => ?_)
    refine ev_goto dd_D_isTaken_41 ?_
    refine ev_vret dd_D_isTaken_134 rfl ?_
    exact ⟨rfl, h4⟩
end RgA
