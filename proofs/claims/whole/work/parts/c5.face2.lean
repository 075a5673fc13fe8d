/-! the face of the reference: submit, take -/
def rs_sbT (D : rf_C) (e k l : Nat) (x : Int32) : Int32 × rf_C := if Int32.ofNat (D.2 (6 + (2 * l + e))).length < 6 then (1, rs_put D (6 + (2 * l + e)) (Int32.ofNat k, x, 0, 0, -1)) else (0, D)
def rs_sb2 (D : rf_C) (e k : Nat) (x : Int32) : Int32 × rf_C := if (rs_D_chosen D e k).1 = 0 then rs_sbT (rs_move D e k) e k 0 x else if (rs_D_chosen D e k).1 = 1 then rs_sbT (rs_move D e k) e k 1 x else if (rs_D_chosen D e k).1 = 2 then rs_sbT (rs_move D e k) e k 2 x else (0, D)
def rs_sbO (D : rf_C) (e k l : Nat) (x : Int32) : Int32 × rf_C := if (rs_D_isOpen D e l).1 = 0 then rs_sb2 D e k x else rs_sbT D e k l x
def rs_sb1 (D : rf_C) (e k l : Nat) (x : Int32) : Int32 × rf_C := if rf_hs (D.2 (2 * l + e)) (Int32.ofNat k) = 0 then (if rf_hs (D.2 (6 + (2 * l + e))) (Int32.ofNat k) = 0 then rs_sb2 D e k x else rs_sbO D e k l x) else rs_sbO D e k l x
def rs_sb0 (D : rf_C) (e k l : Nat) (x : Int32) : Int32 × rf_C := if D.1 42 (2 * l + e) ≤ 0 then rs_sb1 D e k l x else if Int32.ofNat (D.2 (18 + e)).length = 8 then (0, D) else (1, rs_put D (18 + e) (Int32.ofNat k, x, 0, 0, -1))
def rs_submit (D : rf_C) (e k : Nat) (x : Int32) : Int32 × rf_C := rs_sb0 (rf_sI D 0 0 0) e k (rf_lk D e k) x
section RgF
variable {G : ev_gx} {M : ev_mx} {d pc pc' tgt : Nat} {L : List (Nat × Value)} {st : List Value} {w w1 F : ev_wd} {P : ev_r → ev_wd → Prop} {D D' : rf_C} {H : Option (Nat × rf_m)} {Q : Nat → rf_m → Prop}
theorem k_D_sbT {e k l : Nat} {x : Int32} {L : List (Nat × Value)} (he : e < 2) (hk : k < 4) (hl : l < 3) (hz : rz D ≤ 2399) (l0 : L.lookup 0 = some (.ref (ev_b G + 77))) (l2 : L.lookup 2 = some (.int (Int32.ofNat k))) (l3 : L.lookup 3 = some (.int x)) (l5 : L.lookup 5 = some (.int (Int32.ofNat (2 * l + e)))) (h : rf_K G w D none F rf_Q0) : ev_E G mm_D_submit (d + 3) 169 L [] w (rf_yi G F rf_Q0 none (rs_sbT D e k l x)) := by
  have hr : 6 + (2 * l + e) < 22 := by omega
  refine ev_loc4 (i0 := 0) (i1 := 2) (i2 := 3) (i3 := 5) l0 l2 l3 l5 ?_
  unfold rs_sbT
  refine ev_aload_n dd_D_submit_169 rfl ?_
  refine R_gA (k := 11) dd_D_submit_170 fr_D_38 h rfl ?_
  refine ev_bp (v := 6) dd_D_submit_173 (by decide +kernel) ?_
  refine ev_iload dd_D_submit_175 rfl ?_
  refine ev_iadd dd_D_submit_177 ?_
  rw [show (6 : Int32) + Int32.ofNat (2 * l + e) = Int32.ofNat (6 + (2 * l + e)) from nI_add 6 _]
  refine R_sz dd_D_submit_178 h hr ?_
  refine ev_bp (v := 6) dd_D_submit_179 (by decide +kernel) ?_
  refine ev_icmp_lt dd_D_submit_181 (fun c => ?_) (fun c => ?_)
  · rw [if_pos c]
    refine ev_aload_n dd_D_submit_186 rfl ?_
    refine ev_bp (v := 6) dd_D_submit_187 (by decide +kernel) ?_
    refine ev_iload dd_D_submit_189 rfl ?_
    refine ev_iadd dd_D_submit_191 ?_
    rw [show (6 : Int32) + Int32.ofNat (2 * l + e) = Int32.ofNat (6 + (2 * l + e)) from nI_add 6 _]
    refine ev_aload_n dd_D_submit_192 rfl ?_
    refine ev_iload_n dd_D_submit_193 rfl ?_
    refine ev_iload_n dd_D_submit_194 rfl ?_
    refine ev_ic (v := 0) dd_D_submit_195 (by decide +kernel) ?_
    refine ev_ic (v := 0) dd_D_submit_196 (by decide +kernel) ?_
    refine ev_callv [.int (Int32.ofNat k), .int x, .int 0, .int 0] dd_D_submit_197 ms_D_message iv_D_210 h.ob h.tg rfl (Nat.le_of_ble_eq_true rfl) (Nat.le_of_ble_eq_true rfl) (k_D_message _ _ _ _ hz h) (fun v w2 hp _ _ => ?_) (fun x w3 hp _ _ => by obtain ⟨y, h1, -⟩ := hp; cases h1)
    obtain ⟨m, hv, -, h2⟩ := hp
    cases hv
    refine ev_callvV2 [_, _] dd_D_submit_200 ms_D_put iv_D_191 h2.ob h2.tg rfl (Nat.le_of_ble_eq_true rfl) (Nat.le_of_ble_eq_true rfl) (k_D_put hr h2) (fun w3 h3 => ?_)
    refine ev_ic (v := 1) dd_D_submit_203 (by decide +kernel) ?_
    refine ev_iret dd_D_submit_204 rfl rfl ?_
    exact ⟨rfl, h3⟩
  · rw [if_neg c]
    refine ev_ic (v := 0) dd_D_submit_184 (by decide +kernel) ?_
    refine ev_iret dd_D_submit_185 rfl rfl ?_
    exact ⟨rfl, h⟩
theorem rz_move (D : rf_C) (e k : Nat) : rz (rs_move D e k) = rz D := rfl
theorem k_D_sb2 {e k : Nat} {x : Int32} {L : List (Nat × Value)} (he : e < 2) (hk : k < 4) (hz : rz D ≤ 2399) (l0 : L.lookup 0 = some (.ref (ev_b G + 77))) (l1 : L.lookup 1 = some (.int (Int32.ofNat e))) (l2 : L.lookup 2 = some (.int (Int32.ofNat k))) (l3 : L.lookup 3 = some (.int x)) (l4 : L.lookup 4 = some (.int (Int32.ofNat (4 * e + k)))) (h : rf_K G w D none F rf_Q0) : ev_E G mm_D_submit (d + 3) 137 L [] w (rf_yi G F rf_Q0 none (rs_sb2 D e k x)) := by
  refine ev_loc5 (i0 := 0) (i1 := 1) (i2 := 2) (i3 := 3) (i4 := 4) l0 l1 l2 l3 l4 ?_
  unfold rs_sb2
  refine ev_aload_n dd_D_submit_137 rfl ?_
  refine ev_iload_n dd_D_submit_138 rfl ?_
  refine ev_iload_n dd_D_submit_139 rfl ?_
  refine ev_callvN2 [_, _] dd_D_submit_140 ms_D_chosen iv_D_206 h.ob h.tg rfl (Nat.le_of_ble_eq_true rfl) (Nat.le_of_ble_eq_true rfl) (k_D_chosen he hk h) (fun w2 h2 => ?_)
  rw [rs_chosen2] at h2
  have body : ∀ (l : Nat), l < 3 → (rs_D_chosen D e k).1 = Int32.ofNat l → ev_E G mm_D_submit (d + 3) 143 [(0, .ref (ev_b G + 77)), (1, .int (Int32.ofNat e)), (2, .int (Int32.ofNat k)), (3, .int x), (4, .int (Int32.ofNat (4 * e + k)))] [.int (Int32.ofNat l)] w2 (rf_yi G F rf_Q0 none (rs_sbT (rs_move D e k) e k l x)) := by
    intro l hl el
    refine ev_istore dd_D_submit_143 (by decide) ?_
    refine ev_iload dd_D_submit_145 rfl ?_
    refine ev_if_ge dd_D_submit_147 (fun _ => ?_) (fun c => absurd (nI_pos' (by omega)) c)
    refine ev_aload_n dd_D_submit_152 rfl ?_
    refine R_gA (k := 48) dd_D_submit_153 fr_D_150 h2 rfl ?_
    refine ev_iload dd_D_submit_156 rfl ?_
    refine ev_iload dd_D_submit_158 rfl ?_
    refine R_st (k := 48) (j := 4 * e + k) dd_D_submit_160 h2 rfl (show 4 * e + k < 8 by omega) (fun w3 h3' => ?_)
    have h3 : rf_K G w3 (rs_move D e k) none F rf_Q0 := by
      unfold rs_move
      rw [el]
      exact h3'
    refine ev_ic (v := 2) dd_D_submit_161 (by decide +kernel) ?_
    refine ev_iload dd_D_submit_162 rfl ?_
    refine ev_imul dd_D_submit_164 ?_
    refine ev_iload_n dd_D_submit_165 rfl ?_
    refine ev_iadd dd_D_submit_166 ?_
    rw [show (2 : Int32) * Int32.ofNat l = Int32.ofNat (2 * l) from ms_mul 2 l, show Int32.ofNat (2 * l) + Int32.ofNat e = Int32.ofNat (2 * l + e) from nI_add _ _]
    refine ev_istore dd_D_submit_167 (by decide) ?_
    exact k_D_sbT he hk hl hz rfl rfl rfl rfl h3
  rcases rs_chosen1 D e k with e1 | e1 | e1 | e1
  · have hb := body 0 (by decide) e1
    rw [e1, if_pos rfl]
    exact hb
  · have hb := body 1 (by decide) e1
    rw [e1, if_neg (by decide), if_pos rfl]
    exact hb
  · have hb := body 2 (by decide) e1
    rw [e1, if_neg (by decide), if_neg (by decide), if_pos rfl]
    exact hb
  · rw [e1, if_neg (by decide), if_neg (by decide), if_neg (by decide)]
    refine ev_istore dd_D_submit_143 (by decide) ?_
    refine ev_iload dd_D_submit_145 rfl ?_
    refine ev_if_ge dd_D_submit_147 (fun c => absurd c (by decide)) (fun _ => ?_)
    refine ev_ic (v := 0) dd_D_submit_150 (by decide +kernel) ?_
    refine ev_iret dd_D_submit_151 rfl rfl ?_
    exact ⟨rfl, h2⟩
theorem k_D_submit {e k : Nat} {x : Int32} (he : e < 2) (hk : k < 4) (hz : rz D ≤ 2399) (hL : rf_Lk D e) (h : rf_K G w D none F rf_Q0) : ev_E G mm_D_submit (d + 3) 0 (lv_args 0 [.ref (ev_b G + 77), .int (Int32.ofNat e), .int (Int32.ofNat k), .int x]) [] w (rf_yi G F rf_Q0 none (rs_submit D e k x)) := by
  obtain ⟨hl0, hl⟩ := hL k hk
  unfold rs_submit
  refine ev_aload_n dd_D_submit_0 rfl ?_
  refine ev_iload_n dd_D_submit_1 rfl ?_
  refine ev_iload_n dd_D_submit_2 rfl ?_
  refine ev_callsI [_, _] dd_D_submit_3 ms_D_isClass is_D_261 rfl (Nat.le_of_ble_eq_true rfl) (Nat.le_of_ble_eq_true rfl) (k_D_isClass _ _) ?_
  rw [rs_class1 he hk]
  refine ev_callvN2 [_] dd_D_submit_6 ms_D_missing iv_D_177 h.ob h.tg rfl (Nat.le_of_ble_eq_true rfl) (Nat.le_of_ble_eq_true rfl) (k_D_missing _ h) (fun w1 h1 => ?_)
  rw [rs_mis1b] at h1
  rw [rs_mis1a]
  have hz1 : rz (rf_sI D 0 0 0) ≤ 2399 := hz
  have hl1 : (rf_sI D 0 0 0).1 48 (4 * e + k) = Int32.ofNat (rf_lk D e k) := hl0
  generalize rf_lk D e k = l at *
  generalize rf_sI D 0 0 0 = D1 at *
  have hs : 2 * l + e < 6 := by omega
  unfold rs_sb0
  refine ev_if_eq dd_D_submit_9 (fun _ => ?_) (fun c => absurd rfl c)
  refine ev_ic (v := 4) dd_D_submit_14 (by decide +kernel) ?_
  refine ev_iload_n dd_D_submit_15 rfl ?_
  refine ev_imul dd_D_submit_16 ?_
  refine ev_iload_n dd_D_submit_17 rfl ?_
  refine ev_iadd dd_D_submit_18 ?_
  rw [show (4 : Int32) * Int32.ofNat e = Int32.ofNat (4 * e) from ms_mul 4 e, show Int32.ofNat (4 * e) + Int32.ofNat k = Int32.ofNat (4 * e + k) from nI_add _ _]
  refine ev_istore dd_D_submit_19 (by decide) ?_
  refine ev_aload_n dd_D_submit_21 rfl ?_
  refine R_gA (k := 42) dd_D_submit_22 fr_D_132 h1 rfl ?_
  refine ev_ic (v := 2) dd_D_submit_25 (by decide +kernel) ?_
  refine ev_aload_n dd_D_submit_26 rfl ?_
  refine R_gA (k := 48) dd_D_submit_27 fr_D_150 h1 rfl ?_
  refine ev_iload dd_D_submit_30 rfl ?_
  refine R_ld (k := 48) (j := 4 * e + k) dd_D_submit_32 h1 rfl (show 4 * e + k < 8 by omega) ?_
  rw [hl1]
  refine ev_imul dd_D_submit_33 ?_
  refine ev_iload_n dd_D_submit_34 rfl ?_
  refine ev_iadd dd_D_submit_35 ?_
  rw [show (2 : Int32) * Int32.ofNat l = Int32.ofNat (2 * l) from ms_mul 2 l, show Int32.ofNat (2 * l) + Int32.ofNat e = Int32.ofNat (2 * l + e) from nI_add _ _]
  refine R_ld (k := 42) (j := 2 * l + e) dd_D_submit_36 h1 rfl hs ?_
  refine ev_if_le dd_D_submit_37 (fun c => ?_) (fun c => ?_)
  · rw [if_pos c]
    unfold rs_sb1
    refine ev_ic (v := 2) dd_D_submit_74 (by decide +kernel) ?_
    refine ev_aload_n dd_D_submit_75 rfl ?_
    refine R_gA (k := 48) dd_D_submit_76 fr_D_150 h1 rfl ?_
    refine ev_iload dd_D_submit_79 rfl ?_
    refine R_ld (k := 48) (j := 4 * e + k) dd_D_submit_81 h1 rfl (show 4 * e + k < 8 by omega) ?_
    rw [hl1]
    refine ev_imul dd_D_submit_82 ?_
    refine ev_iload_n dd_D_submit_83 rfl ?_
    refine ev_iadd dd_D_submit_84 ?_
    rw [show (2 : Int32) * Int32.ofNat l = Int32.ofNat (2 * l) from ms_mul 2 l, show Int32.ofNat (2 * l) + Int32.ofNat e = Int32.ofNat (2 * l + e) from nI_add _ _]
    have fO : ∀ (L : List (Nat × Value)), L.lookup 0 = some (.ref (ev_b G + 77)) → L.lookup 1 = some (.int (Int32.ofNat e)) → L.lookup 2 = some (.int (Int32.ofNat k)) → L.lookup 3 = some (.int x) → L.lookup 4 = some (.int (Int32.ofNat (4 * e + k))) → L.lookup 5 = some (.int (Int32.ofNat (2 * l + e))) → ev_E G mm_D_submit (d + 3) 115 L [.int 0] w1 (rf_yi G F rf_Q0 none (rs_sbO D1 e k l x)) := by
      intro L l0 l1 l2 l3 l4 l5
      refine ev_loc6 (i0 := 0) (i1 := 1) (i2 := 2) (i3 := 3) (i4 := 4) (i5 := 5) l0 l1 l2 l3 l4 l5 ?_
      unfold rs_sbO
      refine ev_istore dd_D_submit_115 (by decide) ?_
      refine ev_iload dd_D_submit_117 rfl ?_
      refine ev_if_ne dd_D_submit_119 (fun c => absurd rfl c) (fun _ => ?_)
      refine ev_aload_n dd_D_submit_122 rfl ?_
      refine ev_iload_n dd_D_submit_123 rfl ?_
      refine ev_aload_n dd_D_submit_124 rfl ?_
      refine R_gA (k := 48) dd_D_submit_125 fr_D_150 h1 rfl ?_
      refine ev_iload dd_D_submit_128 rfl ?_
      refine R_ld (k := 48) (j := 4 * e + k) dd_D_submit_130 h1 rfl (show 4 * e + k < 8 by omega) ?_
      rw [hl1]
      refine ev_callvN2 [_, _] dd_D_submit_131 ms_D_isOpen iv_D_194 h1.ob h1.tg rfl (Nat.le_of_ble_eq_true rfl) (Nat.le_of_ble_eq_true rfl) (k_D_isOpen he hl h1) (fun w2 h2 => ?_)
      rw [rs_isOpen2] at h2
      refine ev_if_ne dd_D_submit_134 (fun c2 => ?_) (fun c2 => ?_)
      · rw [if_neg c2]
        exact k_D_sbT he hk hl hz1 rfl rfl rfl rfl h2
      · rw [if_pos c2]
        exact k_D_sb2 he hk hz1 rfl rfl rfl rfl rfl h2
    refine ev_istore dd_D_submit_85 (by decide) ?_
    refine ev_aload_n dd_D_submit_87 rfl ?_
    refine ev_iload dd_D_submit_88 rfl ?_
    refine ev_iload_n dd_D_submit_90 rfl ?_
    refine ev_callvI [_, _] dd_D_submit_91 ms_D_hasClass iv_D_264 h1.ob h1.tg rfl (Nat.le_of_ble_eq_true rfl) (Nat.le_of_ble_eq_true rfl) (k_D_hasClass (r := 2 * l + e) (by omega) _ h1) ?_
    refine ev_if_ne dd_D_submit_94 (fun c2 => ?_) (fun c2 => ?_)
    · rw [if_neg c2]
      refine ev_ic (v := 0) dd_D_submit_114 (by decide +kernel) ?_
      exact fO _ rfl rfl rfl rfl rfl rfl
    · rw [if_pos c2]
      refine ev_aload_n dd_D_submit_97 rfl ?_
      refine ev_bp (v := 6) dd_D_submit_98 (by decide +kernel) ?_
      refine ev_iload dd_D_submit_100 rfl ?_
      refine ev_iadd dd_D_submit_102 ?_
      rw [show (6 : Int32) + Int32.ofNat (2 * l + e) = Int32.ofNat (6 + (2 * l + e)) from nI_add 6 _]
      refine ev_iload_n dd_D_submit_103 rfl ?_
      refine ev_callvI [_, _] dd_D_submit_104 ms_D_hasClass iv_D_264 h1.ob h1.tg rfl (Nat.le_of_ble_eq_true rfl) (Nat.le_of_ble_eq_true rfl) (k_D_hasClass (r := 6 + (2 * l + e)) (by omega) _ h1) ?_
      refine ev_if_ne dd_D_submit_107 (fun c3 => ?_) (fun c3 => ?_)
      · rw [if_neg c3]
        refine ev_ic (v := 0) dd_D_submit_114 (by decide +kernel) ?_
        exact fO _ rfl rfl rfl rfl rfl rfl
      · rw [if_pos c3]
        refine ev_ic (v := 1) dd_D_submit_110 (by decide +kernel) ?_
        refine ev_goto dd_D_submit_111 ?_
        refine ev_istore dd_D_submit_115 (by decide) ?_
        refine ev_iload dd_D_submit_117 rfl ?_
        refine ev_if_ne dd_D_submit_119 (fun _ => ?_) (fun c4 => absurd c4 (by decide))
        exact k_D_sb2 he hk hz1 rfl rfl rfl rfl rfl h1
  · rw [if_neg c]
    have hr : 18 + e < 22 := by omega
    refine ev_aload_n dd_D_submit_40 rfl ?_
    refine R_gA (k := 11) dd_D_submit_41 fr_D_38 h1 rfl ?_
    refine ev_bp (v := 18) dd_D_submit_44 (by decide +kernel) ?_
    refine ev_iload_n dd_D_submit_46 rfl ?_
    refine ev_iadd dd_D_submit_47 ?_
    rw [show (18 : Int32) + Int32.ofNat e = Int32.ofNat (18 + e) from nI_add 18 e]
    refine R_sz dd_D_submit_48 h1 hr ?_
    refine ev_bp (v := 8) dd_D_submit_49 (by decide +kernel) ?_
    refine ev_icmp_ne dd_D_submit_51 (fun c2 => ?_) (fun c2 => ?_)
    · rw [if_neg c2]
      refine ev_aload_n dd_D_submit_56 rfl ?_
      refine ev_bp (v := 18) dd_D_submit_57 (by decide +kernel) ?_
      refine ev_iload_n dd_D_submit_59 rfl ?_
      refine ev_iadd dd_D_submit_60 ?_
      rw [show (18 : Int32) + Int32.ofNat e = Int32.ofNat (18 + e) from nI_add 18 e]
      refine ev_aload_n dd_D_submit_61 rfl ?_
      refine ev_iload_n dd_D_submit_62 rfl ?_
      refine ev_iload_n dd_D_submit_63 rfl ?_
      refine ev_ic (v := 0) dd_D_submit_64 (by decide +kernel) ?_
      refine ev_ic (v := 0) dd_D_submit_65 (by decide +kernel) ?_
      refine ev_callv [.int (Int32.ofNat k), .int x, .int 0, .int 0] dd_D_submit_66 ms_D_message iv_D_210 h1.ob h1.tg rfl (Nat.le_of_ble_eq_true rfl) (Nat.le_of_ble_eq_true rfl) (k_D_message _ _ _ _ hz1 h1) (fun v w2 hp _ _ => ?_) (fun x w3 hp _ _ => by obtain ⟨y, h1, -⟩ := hp; cases h1)
      obtain ⟨m, hv, -, h2⟩ := hp
      cases hv
      refine ev_callvV2 [_, _] dd_D_submit_69 ms_D_put iv_D_191 h2.ob h2.tg rfl (Nat.le_of_ble_eq_true rfl) (Nat.le_of_ble_eq_true rfl) (k_D_put hr h2) (fun w3 h3 => ?_)
      refine ev_ic (v := 1) dd_D_submit_72 (by decide +kernel) ?_
      refine ev_iret dd_D_submit_73 rfl rfl ?_
      exact ⟨rfl, h3⟩
    · rw [if_pos c2]
      refine ev_ic (v := 0) dd_D_submit_54 (by decide +kernel) ?_
      refine ev_iret dd_D_submit_55 rfl rfl ?_
      exact ⟨rfl, h1⟩
def rf_yl (G : ev_gx) (F : ev_wd) (p : Int64 × rf_C) : ev_r → ev_wd → Prop := fun t w' => t = .inl (some (.long p.1)) ∧ rf_K G w' p.2 none F rf_Q0
theorem k_D_take_no {y : Int32} (hno : rs_D_isEnd y = 0) (h : rf_K G w D none F rf_Q0) : ev_E G mm_D_take (d + 3) 0 (lv_args 0 [.ref (ev_b G + 77), .int y]) [] w (rf_yl G F (0, rf_sI D 0 0 1)) := by
  refine ev_aload_n dd_D_take_0 rfl ?_
  refine ev_iload_n dd_D_take_1 rfl ?_
  refine ev_callsI [_] dd_D_take_2 ms_D_isEnd is_D_267 rfl (Nat.le_of_ble_eq_true rfl) (Nat.le_of_ble_eq_true rfl) (k_D_isEnd _) ?_
  rw [hno]
  refine ev_if_ne dd_D_take_5 (fun c => absurd rfl c) (fun _ => ?_)
  refine ev_ic (v := 1) dd_D_take_8 (by decide +kernel) ?_
  refine ev_goto dd_D_take_9 ?_
  refine R_pI (k := 0) dd_D_take_29 fk_D_157 h rfl (by decide) rfl rfl (fun w1 h1 => ?_)
  refine ev_aload_n dd_D_take_32 rfl ?_
  refine R_gI (k := 0) dd_D_take_33 fr_D_157 h1 rfl (by decide) ?_
  rw [rf_sI_at D 0 0 1]
  refine ev_if_le dd_D_take_36 (fun c => absurd c (by decide)) (fun _ => ?_)
  refine ev_lconst dd_D_take_39 ?_
  refine ev_lret dd_D_take_40 rfl ?_
  exact ⟨rfl, h1⟩
theorem k_D_take_no2 {e : Nat} (he : e < 2) (hz : D.2 (20 + e) = []) (h : rf_K G w D none F rf_Q0) : ev_E G mm_D_take (d + 3) 0 (lv_args 0 [.ref (ev_b G + 77), .int (Int32.ofNat e)]) [] w (rf_yl G F (0, rf_sI D 0 0 2)) := by
  refine ev_aload_n dd_D_take_0 rfl ?_
  refine ev_iload_n dd_D_take_1 rfl ?_
  refine ev_callsI [_] dd_D_take_2 ms_D_isEnd is_D_267 rfl (Nat.le_of_ble_eq_true rfl) (Nat.le_of_ble_eq_true rfl) (k_D_isEnd _) ?_
  rw [rs_end1 he]
  refine ev_if_ne dd_D_take_5 (fun _ => ?_) (fun c => absurd c (by decide))
  refine ev_aload_n dd_D_take_12 rfl ?_
  refine R_gA (k := 11) dd_D_take_13 fr_D_38 h rfl ?_
  refine ev_bp (v := 20) dd_D_take_16 (by decide +kernel) ?_
  refine ev_iload_n dd_D_take_18 rfl ?_
  refine ev_iadd dd_D_take_19 ?_
  rw [show (20 : Int32) + Int32.ofNat e = Int32.ofNat (20 + e) from nI_add 20 e]
  refine R_sz dd_D_take_20 h (by omega) ?_
  rw [hz]
  refine ev_if_ne dd_D_take_21 (fun c => absurd rfl c) (fun _ => ?_)
  refine ev_ic (v := 2) dd_D_take_24 (by decide +kernel) ?_
  refine ev_goto dd_D_take_25 ?_
  refine R_pI (k := 0) dd_D_take_29 fk_D_157 h rfl (by decide) rfl rfl (fun w1 h1 => ?_)
  refine ev_aload_n dd_D_take_32 rfl ?_
  refine R_gI (k := 0) dd_D_take_33 fr_D_157 h1 rfl (by decide) ?_
  rw [rf_sI_at D 0 0 2]
  refine ev_if_le dd_D_take_36 (fun c => absurd c (by decide)) (fun _ => ?_)
  refine ev_lconst dd_D_take_39 ?_
  refine ev_lret dd_D_take_40 rfl ?_
  exact ⟨rfl, h1⟩
theorem k_D_take {e : Nat} {μ : rf_m} {zs : List rf_m} (he : e < 2) (hz : D.2 (20 + e) = μ :: zs) (h : rf_K G w D none F rf_Q0) : ev_E G mm_D_take (d + 3) 0 (lv_args 0 [.ref (ev_b G + 77), .int (Int32.ofNat e)]) [] w (rf_yl G F (cr_lg μ.1 μ.2.1, rf_sX (rf_sI D 0 0 0) (20 + e) zs)) := by
  have hr : 20 + e < 22 := by omega
  have hlen := h.len hr
  rw [hz, List.length_cons] at hlen
  refine ev_aload_n dd_D_take_0 rfl ?_
  refine ev_iload_n dd_D_take_1 rfl ?_
  refine ev_callsI [_] dd_D_take_2 ms_D_isEnd is_D_267 rfl (Nat.le_of_ble_eq_true rfl) (Nat.le_of_ble_eq_true rfl) (k_D_isEnd _) ?_
  rw [rs_end1 he]
  refine ev_if_ne dd_D_take_5 (fun _ => ?_) (fun c => absurd c (by decide))
  refine ev_aload_n dd_D_take_12 rfl ?_
  refine R_gA (k := 11) dd_D_take_13 fr_D_38 h rfl ?_
  refine ev_bp (v := 20) dd_D_take_16 (by decide +kernel) ?_
  refine ev_iload_n dd_D_take_18 rfl ?_
  refine ev_iadd dd_D_take_19 ?_
  rw [show (20 : Int32) + Int32.ofNat e = Int32.ofNat (20 + e) from nI_add 20 e]
  refine R_sz dd_D_take_20 h hr ?_
  rw [hz]
  refine ev_if_ne dd_D_take_21 (fun _ => ?_) (fun c => absurd c (nI_ne0 (by rw [List.length_cons]; omega) (by rw [List.length_cons]; omega)))
  refine ev_ic (v := 0) dd_D_take_28 (by decide +kernel) ?_
  refine R_pI (k := 0) dd_D_take_29 fk_D_157 h rfl (by decide) rfl rfl (fun w1 h1 => ?_)
  refine ev_aload_n dd_D_take_32 rfl ?_
  refine R_gI (k := 0) dd_D_take_33 fr_D_157 h1 rfl (by decide) ?_
  rw [rf_sI_at D 0 0 0]
  refine ev_if_le dd_D_take_36 (fun _ => ?_) (fun c => absurd (by decide) c)
  refine ev_aload_n dd_D_take_41 rfl ?_
  refine ev_bp (v := 20) dd_D_take_42 (by decide +kernel) ?_
  refine ev_iload_n dd_D_take_44 rfl ?_
  refine ev_iadd dd_D_take_45 ?_
  rw [show (20 : Int32) + Int32.ofNat e = Int32.ofNat (20 + e) from nI_add 20 e]
  refine ev_callv [.int (Int32.ofNat (20 + e))] dd_D_take_46 ms_D_shift iv_D_163 h1.ob h1.tg rfl (Nat.le_of_ble_eq_true rfl) (Nat.le_of_ble_eq_true rfl) (k_D_shift (D := rf_sI D 0 0 0) hr hz h1) (fun v w2 hp _ _ => ?_) (fun x w3 hp _ _ => by obtain ⟨y, h1, -⟩ := hp; cases h1)
  obtain ⟨m, h2, -, h3⟩ := hp
  cases h2
  refine ev_istore_n dd_D_take_49 (by decide) ?_
  refine ev_aload_n dd_D_take_50 rfl ?_
  refine R_gA (k := 1) dd_D_take_51 fr_D_7 h3 rfl ?_
  refine ev_iload_n dd_D_take_54 rfl ?_
  refine R_mg (k := 1) dd_D_take_55 h3.hand (Or.inr ⟨rfl, rfl⟩) (by decide) (by decide) ?_
  refine ev_i2l dd_D_take_56 ?_
  refine ev_bp (v := 32) dd_D_take_57 (by decide +kernel) ?_
  refine ev_lshl dd_D_take_59 ?_
  refine ev_aload_n dd_D_take_60 rfl ?_
  refine R_gA (k := 2) dd_D_take_61 fr_D_13 h3 rfl ?_
  refine ev_iload_n dd_D_take_64 rfl ?_
  refine R_mg (k := 2) dd_D_take_65 h3.hand (Or.inr ⟨rfl, rfl⟩) (by decide) (by decide) ?_
  refine ev_i2l dd_D_take_66 ?_
  refine ev_ldc2 dd_D_take_67 cn_D_271 ?_
  refine ev_land dd_D_take_70 ?_
  refine ev_lor dd_D_take_71 ?_
  refine ev_lstore_n dd_D_take_72 (by decide) ?_
  refine ev_aload_n dd_D_take_73 rfl ?_
  refine ev_iload_n dd_D_take_74 rfl ?_
  refine ev_callvV2 [_] dd_D_take_75 ms_D_give iv_D_167 h3.ob h3.tg rfl (Nat.le_of_ble_eq_true rfl) (Nat.le_of_ble_eq_true rfl) (k_D_give h3) (fun w4 h4 => ?_)
  refine ev_lload_n dd_D_take_78 rfl ?_
  refine ev_lret dd_D_take_79 rfl ?_
  exact ⟨rfl, h4⟩
theorem k_D_of_no2 {l e : Nat} {z : Int32} (hl : l < 3) (he : e < 2) (hno : ¬ cr_iv z 13) (h : rf_K G w D none F rf_Q0) : ev_E G mm_D_of (d + 3) 0 (lv_args 0 [.ref (ev_b G + 77), .int (Int32.ofNat l), .int (Int32.ofNat e), .int z]) [] w (rf_yi G F rf_Q0 none (0, rf_sI D 0 0 1)) := by
  refine ev_aload_n dd_D_of_0 rfl ?_
  refine ev_iload_n dd_D_of_1 rfl ?_
  refine ev_iload_n dd_D_of_2 rfl ?_
  refine ev_callsI [_, _] dd_D_of_3 ms_D_isSide is_D_173 rfl (Nat.le_of_ble_eq_true rfl) (Nat.le_of_ble_eq_true rfl) (k_D_isSide _ _) ?_
  rw [rs_side1 hl he]
  have tail : ∀ (L : List (Nat × Value)), ev_E G mm_D_of (d + 3) 24 L [.int 0, .ref (ev_b G + 77)] w (rf_yi G F rf_Q0 none (0, rf_sI D 0 0 1)) := by
    intro L
    refine ev_callvN2 [_] dd_D_of_24 ms_D_missing iv_D_177 h.ob h.tg rfl (Nat.le_of_ble_eq_true rfl) (Nat.le_of_ble_eq_true rfl) (k_D_missing _ h) (fun w1 h1 => ?_)
    rw [rs_mis0b] at h1
    rw [rs_mis0a]
    refine ev_if_eq dd_D_of_27 (fun c => absurd c (by decide)) (fun _ => ?_)
    refine ev_ic (v := 0) dd_D_of_30 (by decide +kernel) ?_
    refine ev_iret dd_D_of_31 rfl rfl ?_
    exact ⟨rfl, h1⟩
  refine ev_if_eq dd_D_of_6 (fun c => absurd c (by decide)) (fun _ => ?_)
  refine ev_iload_n dd_D_of_9 rfl ?_
  refine ev_if_lt dd_D_of_10 (fun _ => ?_) (fun c => ?_)
  · refine ev_ic (v := 0) dd_D_of_23 (by decide +kernel) ?_
    exact tail _
  · refine ev_iload_n dd_D_of_13 rfl ?_
    refine ev_bp (v := 13) dd_D_of_14 (by decide +kernel) ?_
    refine ev_icmp_ge dd_D_of_16 (fun _ => ?_) (fun c2 => absurd ⟨c, Int32.not_le.mp c2⟩ hno)
    refine ev_ic (v := 0) dd_D_of_23 (by decide +kernel) ?_
    exact tail _
end RgF
