/-! the reference: what a side sends; what comes to a side -/
def rf_sv (D : rf_C) (s : Nat) : Int32 := if D.1 12 s = 0 then (if D.1 16 s = 0 then 0 else 3) else if D.1 12 s = 1 then 1 else if D.1 12 s = 2 then 2 else 4
def rs_sn0 (D : rf_C) (s : Nat) : rf_C := rf_sI (rf_sI (rf_sI (rf_sI D 32 s (rf_sv D s)) 16 s 0) 33 s (D.1 14 s)) 34 s (D.1 17 s)
def rs_snE (D : rf_C) (s : Nat) : rf_C := rf_sI (rf_sI (rf_sI D 35 s (D.1 19 s)) 36 s (D.1 18 s)) 37 s (D.1 20 s)
def rf_ag (D : rf_C) (s : Nat) : Nat := (D.1 27 s).toNatClampNeg
def rf_at (D : rf_C) (s k : Nat) : rf_m := ((D.2 s)[k]?).getD (0, 0, 0, 0, 0)
def rs_again (D : rf_C) (s : Nat) : rf_C := rf_sI (rs_D_carry D s (rf_at D s (rf_ag D s)) ((D.1 17 s - Int32.ofNat (D.2 s).length + 1 + D.1 27 s) &&& 7)) 27 s (D.1 27 s + 1)
def rs_fi0 (D : rf_C) (s : Nat) (zs : List rf_m) : rf_C := rf_sI (rf_sX D (6 + s) zs) 17 s ((D.1 17 s + 1) &&& 7)
def rs_fi1 (D : rf_C) (s : Nat) (μ : rf_m) : rf_C := rf_sI (rs_put D s μ) 27 s (D.1 27 s + 1)
def rs_first (D : rf_C) (s : Nat) (μ : rf_m) (zs : List rf_m) : rf_C := rs_D_carry (rs_fi1 (rs_fi0 D s zs) s μ) s μ ((D.1 17 s + 1) &&& 7)
def rs_new (D : rf_C) (s : Nat) : rf_C := match D.2 (6 + s) with
  | [] => D
  | μ :: zs => if 5 ≤ Int32.ofNat (D.2 s).length then D else rs_first D s μ zs
def rs_sn1 (D : rf_C) (s : Nat) : rf_C := if Int32.ofNat (D.2 s).length ≤ D.1 27 s then rs_new D s else rs_again D s
def rs_send (D : rf_C) (s : Nat) : rf_C := if D.1 12 s = 4 then rs_snE (rs_sn1 (rs_sn0 D s) s) s else rs_snE (rs_sn0 D s) s
section RgC
variable {G : ev_gx} {M : ev_mx} {d pc pc' tgt : Nat} {L : List (Nat × Value)} {st : List Value} {w w1 F : ev_wd} {P : ev_r → ev_wd → Prop} {D D' : rf_C} {H : Option (Nat × rf_m)} {Q : Nat → rf_m → Prop}
theorem k_D_snE {s : Nat} {L : List (Nat × Value)} (hs : s < 6) (l0 : L.lookup 0 = some (.ref (ev_b G + 77))) (l1 : L.lookup 1 = some (.int (Int32.ofNat s))) (h : rf_K G w D none F Q) : ev_E G mm_D_send d 239 L [] w (rf_yv G F Q none (rs_snE D s)) := by
  refine ev_loc2 (i0 := 0) (i1 := 1) l0 l1 ?_
  unfold rs_snE
  refine ev_aload_n dd_D_send_239 rfl ?_
  refine R_gA (k := 35) dd_D_send_240 fr_D_111 h rfl ?_
  refine ev_iload_n dd_D_send_243 rfl ?_
  refine ev_aload_n dd_D_send_244 rfl ?_
  refine R_gA (k := 19) dd_D_send_245 fr_D_63 h rfl ?_
  refine ev_iload_n dd_D_send_248 rfl ?_
  refine R_ld (k := 19) (j := s) dd_D_send_249 h rfl (show s < 6 by omega) ?_
  refine R_st (k := 35) (j := s) dd_D_send_250 h rfl (show s < 6 by omega) (fun w1 h1 => ?_)
  refine ev_aload_n dd_D_send_251 rfl ?_
  refine R_gA (k := 36) dd_D_send_252 fr_D_114 h1 rfl ?_
  refine ev_iload_n dd_D_send_255 rfl ?_
  refine ev_aload_n dd_D_send_256 rfl ?_
  refine R_gA (k := 18) dd_D_send_257 fr_D_60 h1 rfl ?_
  refine ev_iload_n dd_D_send_260 rfl ?_
  refine R_ld (k := 18) (j := s) dd_D_send_261 h1 rfl (show s < 6 by omega) ?_
  refine R_st (k := 36) (j := s) dd_D_send_262 h1 rfl (show s < 6 by omega) (fun w2 h2 => ?_)
  refine ev_aload_n dd_D_send_263 rfl ?_
  refine R_gA (k := 37) dd_D_send_264 fr_D_117 h2 rfl ?_
  refine ev_iload_n dd_D_send_267 rfl ?_
  refine ev_aload_n dd_D_send_268 rfl ?_
  refine R_gA (k := 20) dd_D_send_269 fr_D_66 h2 rfl ?_
  refine ev_iload_n dd_D_send_272 rfl ?_
  refine R_ld (k := 20) (j := s) dd_D_send_273 h2 rfl (show s < 6 by omega) ?_
  refine R_st (k := 37) (j := s) dd_D_send_274 h2 rfl (show s < 6 by omega) (fun w3 h3 => ?_)
  refine ev_vret dd_D_send_275 rfl ?_
  exact ⟨rfl, h3⟩
theorem k_D_sn1 {s : Nat} (hs : s < 6) (hg : D.1 27 s = Int32.ofNat (rf_ag D s) ∧ rf_ag D s < 100) (h : rf_K G w D none F rf_Q0) : ev_E G mm_D_send (d + 1) 89 [(0, .ref (ev_b G + 77)), (1, .int (Int32.ofNat s)), (2, .int 4)] [] w (rf_yv G F rf_Q0 none (rs_snE (rs_sn1 D s) s)) := by
  have hr : s < 22 := by omega
  have hlen := h.len hr
  unfold rs_sn1
  refine ev_aload_n dd_D_send_89 rfl ?_
  refine R_gA (k := 27) dd_D_send_90 fr_D_87 h rfl ?_
  refine ev_iload_n dd_D_send_93 rfl ?_
  refine R_ld (k := 27) (j := s) dd_D_send_94 h rfl (show s < 6 by omega) ?_
  refine ev_aload_n dd_D_send_95 rfl ?_
  refine R_gA (k := 11) dd_D_send_96 fr_D_38 h rfl ?_
  refine ev_iload_n dd_D_send_99 rfl ?_
  refine R_sz (r := s) dd_D_send_100 h hr ?_
  refine ev_icmp_ge dd_D_send_101 (fun c => ?_) (fun c => ?_)
  · rw [if_pos c]
    refine ev_iload_n dd_D_send_158 rfl ?_
    refine ev_ic (v := 4) dd_D_send_159 (by decide +kernel) ?_
    refine ev_icmp_ne dd_D_send_160 (fun c2 => absurd rfl c2) (fun _ => ?_)
    refine ev_aload_n dd_D_send_163 rfl ?_
    refine R_gA (k := 11) dd_D_send_164 fr_D_38 h rfl ?_
    refine ev_bp (v := 6) dd_D_send_167 (by decide +kernel) ?_
    refine ev_iload_n dd_D_send_169 rfl ?_
    refine ev_iadd dd_D_send_170 ?_
    rw [show (6 : Int32) + Int32.ofNat s = Int32.ofNat (6 + s) from nI_add 6 s]
    refine R_sz (r := 6 + s) dd_D_send_171 h (by omega) ?_
    have hlen6 := h.len (show 6 + s < 22 by omega)
    unfold rs_new
    split
    · rename_i hz
      rw [hz]
      refine ev_if_le dd_D_send_172 (fun _ => ?_) (fun c => absurd (by decide) c)
      exact k_D_snE hs rfl rfl h
    · rename_i μ zs hz
      rw [hz, List.length_cons] at hlen6
      rw [hz]
      refine ev_if_le dd_D_send_172 (fun c => absurd c (nI_nle (by rw [List.length_cons]; omega) (by rw [List.length_cons]; omega))) (fun _ => ?_)
      refine ev_aload_n dd_D_send_175 rfl ?_
      refine R_gA (k := 11) dd_D_send_176 fr_D_38 h rfl ?_
      refine ev_iload_n dd_D_send_179 rfl ?_
      refine R_sz (r := s) dd_D_send_180 h hr ?_
      refine ev_ic (v := 5) dd_D_send_181 (by decide +kernel) ?_
      refine ev_icmp_ge dd_D_send_182 (fun c3 => ?_) (fun c3 => ?_)
      · rw [if_pos c3]
        exact k_D_snE hs rfl rfl h
      · rw [if_neg c3]
        refine ev_aload_n dd_D_send_185 rfl ?_
        refine ev_bp (v := 6) dd_D_send_186 (by decide +kernel) ?_
        refine ev_iload_n dd_D_send_188 rfl ?_
        refine ev_iadd dd_D_send_189 ?_
        rw [show (6 : Int32) + Int32.ofNat s = Int32.ofNat (6 + s) from nI_add 6 s]
        refine ev_callv [.int (Int32.ofNat (6 + s))] dd_D_send_190 ms_D_shift iv_D_163 h.ob h.tg rfl (Nat.le_of_ble_eq_true rfl) (Nat.le_of_ble_eq_true rfl) (k_D_shift (show 6 + s < 22 by omega) hz h) (fun v w1 hp _ _ => ?_) (fun x w3 hp _ _ => by obtain ⟨y, h1, -⟩ := hp; cases h1)
        obtain ⟨m, h1, -, h2'⟩ := hp
        cases h1
        have h2 := h2'.hand
        refine ev_istore_n dd_D_send_193 (by decide) ?_
        refine ev_aload_n dd_D_send_194 rfl ?_
        refine R_gA (k := 17) dd_D_send_195 fr_D_57 h2 rfl ?_
        refine ev_iload_n dd_D_send_198 rfl ?_
        refine ev_aload_n dd_D_send_199 rfl ?_
        refine R_gA (k := 17) dd_D_send_200 fr_D_57 h2 rfl ?_
        refine ev_iload_n dd_D_send_203 rfl ?_
        refine R_ld (k := 17) (j := s) dd_D_send_204 h2 rfl (show s < 6 by omega) ?_
        refine ev_ic (v := 1) dd_D_send_205 (by decide +kernel) ?_
        refine ev_iadd dd_D_send_206 ?_
        refine ev_bp (v := 7) dd_D_send_207 (by decide +kernel) ?_
        refine ev_iand dd_D_send_209 ?_
        refine R_st (k := 17) (j := s) dd_D_send_210 h2 rfl (show s < 6 by omega) (fun w3 h3' => ?_)
        have h3 : rf_K G w3 (rs_fi0 D s zs) (some (m, μ)) F (fun y ν => rf_Q0 y ν ∨ (y = m ∧ ν = μ)) := h3'
        have e17 : (rs_fi0 D s zs).1 17 s = (D.1 17 s + 1) &&& 7 := rf_sI_at _ _ _ _
        refine ev_aload_n dd_D_send_211 rfl ?_
        refine ev_iload_n dd_D_send_212 rfl ?_
        refine ev_iload_n dd_D_send_213 rfl ?_
        refine ev_callvV2 [_, _] dd_D_send_214 ms_D_put iv_D_191 h3.ob h3.tg rfl (Nat.le_of_ble_eq_true rfl) (Nat.le_of_ble_eq_true rfl) (k_D_put hr h3) (fun w4 h4 => ?_)
        refine ev_aload_n dd_D_send_217 rfl ?_
        refine R_gA (k := 27) dd_D_send_218 fr_D_87 h4 rfl ?_
        refine ev_iload_n dd_D_send_221 rfl ?_
        refine ev_dup2 dd_D_send_222 rfl rfl ?_
        refine R_ld (k := 27) (j := s) dd_D_send_223 h4 rfl (show s < 6 by omega) ?_
        refine ev_ic (v := 1) dd_D_send_224 (by decide +kernel) ?_
        refine ev_iadd dd_D_send_225 ?_
        refine R_st (k := 27) (j := s) dd_D_send_226 h4 rfl (show s < 6 by omega) (fun w5 h5' => ?_)
        have h5 : rf_K G w5 (rs_fi1 (rs_fi0 D s zs) s μ) none F (fun y ν => rf_Q0 y ν ∨ (y = m ∧ ν = μ)) := h5'
        have e17b : (rs_fi1 (rs_fi0 D s zs) s μ).1 17 s = (D.1 17 s + 1) &&& 7 := e17
        refine ev_aload_n dd_D_send_227 rfl ?_
        refine ev_iload_n dd_D_send_228 rfl ?_
        refine ev_iload_n dd_D_send_229 rfl ?_
        refine ev_aload_n dd_D_send_230 rfl ?_
        refine R_gA (k := 17) dd_D_send_231 fr_D_57 h5 rfl ?_
        refine ev_iload_n dd_D_send_234 rfl ?_
        refine R_ld (k := 17) (j := s) dd_D_send_235 h5 rfl (show s < 6 by omega) ?_
        rw [e17b]
        refine ev_callvV2 [_, _, _] dd_D_send_236 ms_D_carry iv_D_245 h5.ob h5.tg rfl (Nat.le_of_ble_eq_true rfl) (Nat.le_of_ble_eq_true rfl) (k_D_carry hs (Or.inr ⟨rfl, rfl⟩) _ h5) (fun w6 h6 => ?_)
        exact k_D_snE hs rfl rfl (h6.less (fun _ _ hx => Or.inl hx))
  · rw [if_neg c]
    obtain ⟨g1, g2⟩ := hg
    have hgl : rf_ag D s < (D.2 s).length := by
      rcases Nat.lt_or_ge (rf_ag D s) (D.2 s).length with h1 | h1
      · exact h1
      · exact absurd (by rw [g1]; exact nI_le h1 (by omega)) c
    have hx : (D.2 s)[rf_ag D s]? = some (rf_at D s (rf_ag D s)) := by
      unfold rf_at
      rw [List.getElem?_eq_getElem hgl]
      rfl
    unfold rs_again
    refine ev_aload_n dd_D_send_104 rfl ?_
    refine ev_iload_n dd_D_send_105 rfl ?_
    refine ev_aload_n dd_D_send_106 rfl ?_
    refine ev_iload_n dd_D_send_107 rfl ?_
    refine ev_aload_n dd_D_send_108 rfl ?_
    refine R_gA (k := 27) dd_D_send_109 fr_D_87 h rfl ?_
    refine ev_iload_n dd_D_send_112 rfl ?_
    refine R_ld (k := 27) (j := s) dd_D_send_113 h rfl (show s < 6 by omega) ?_
    rw [g1]
    refine ev_callv [.int (Int32.ofNat s), .int (Int32.ofNat (rf_ag D s))] dd_D_send_114 ms_D_at iv_D_242 h.ob h.tg rfl (Nat.le_of_ble_eq_true rfl) (Nat.le_of_ble_eq_true rfl) (k_D_at hr hx h) (fun v w1 hp _ _ => ?_) (fun x w3 hp _ _ => by obtain ⟨-, y, h1, -⟩ := hp; cases h1)
    obtain ⟨rfl, m, h1, h2⟩ := hp
    cases h1
    refine ev_aload_n dd_D_send_117 rfl ?_
    refine R_gA (k := 17) dd_D_send_118 fr_D_57 h2 rfl ?_
    refine ev_iload_n dd_D_send_121 rfl ?_
    refine R_ld (k := 17) (j := s) dd_D_send_122 h2 rfl (show s < 6 by omega) ?_
    refine ev_aload_n dd_D_send_123 rfl ?_
    refine R_gA (k := 11) dd_D_send_124 fr_D_38 h2 rfl ?_
    refine ev_iload_n dd_D_send_127 rfl ?_
    refine R_sz (r := s) dd_D_send_128 h2 hr ?_
    refine ev_isub dd_D_send_129 ?_
    refine ev_ic (v := 1) dd_D_send_130 (by decide +kernel) ?_
    refine ev_iadd dd_D_send_131 ?_
    refine ev_aload_n dd_D_send_132 rfl ?_
    refine R_gA (k := 27) dd_D_send_133 fr_D_87 h2 rfl ?_
    refine ev_iload_n dd_D_send_136 rfl ?_
    refine R_ld (k := 27) (j := s) dd_D_send_137 h2 rfl (show s < 6 by omega) ?_
    refine ev_iadd dd_D_send_138 ?_
    refine ev_bp (v := 7) dd_D_send_139 (by decide +kernel) ?_
    refine ev_iand dd_D_send_141 ?_
    refine ev_callvV2 [_, _, _] dd_D_send_142 ms_D_carry iv_D_245 h2.ob h2.tg rfl (Nat.le_of_ble_eq_true rfl) (Nat.le_of_ble_eq_true rfl) (k_D_carry hs (Or.inr ⟨rfl, rfl⟩) _ h2) (fun w6 h6 => ?_)
    refine ev_aload_n dd_D_send_145 rfl ?_
    refine R_gA (k := 27) dd_D_send_146 fr_D_87 h6 rfl ?_
    refine ev_iload_n dd_D_send_149 rfl ?_
    refine ev_dup2 dd_D_send_150 rfl rfl ?_
    refine R_ld (k := 27) (j := s) dd_D_send_151 h6 rfl (show s < 6 by omega) ?_
    refine ev_ic (v := 1) dd_D_send_152 (by decide +kernel) ?_
    refine ev_iadd dd_D_send_153 ?_
    refine R_st (k := 27) (j := s) dd_D_send_154 h6 rfl (show s < 6 by omega) (fun w7 h7 => ?_)
    refine ev_goto dd_D_send_155 ?_
    rw [← g1]
    exact k_D_snE hs rfl rfl (h7.less (fun _ _ hx => Or.inl hx))
theorem k_D_send {s : Nat} (hs : s < 6) (hg : D.1 27 s = Int32.ofNat (rf_ag D s) ∧ rf_ag D s < 100) (h : rf_K G w D none F rf_Q0) : ev_E G mm_D_send (d + 1) 0 (lv_args 0 [.ref (ev_b G + 77), .int (Int32.ofNat s)]) [] w (rf_yv G F rf_Q0 none (rs_send D s)) := by
  have body : ∀ (v : Int32) (L : List (Nat × Value)), L.lookup 0 = some (.ref (ev_b G + 77)) → L.lookup 1 = some (.int (Int32.ofNat s)) → L.lookup 2 = some (.int (D.1 12 s)) → v = rf_sv D s → ev_E G mm_D_send (d + 1) 52 L [.int v, .int (Int32.ofNat s), .ref (ev_b G + rf_o 32)] w (rf_yv G F rf_Q0 none (rs_send D s)) := by
    intro v L l0 l1 l2 ev
    refine ev_loc3 (i0 := 0) (i1 := 1) (i2 := 2) l0 l1 l2 ?_
    rw [ev]
    refine R_st (k := 32) (j := s) dd_D_send_52 h rfl (show s < 6 by omega) (fun w1 h1 => ?_)
    refine ev_aload_n dd_D_send_53 rfl ?_
    refine R_gA (k := 16) dd_D_send_54 fr_D_53 h1 rfl ?_
    refine ev_iload_n dd_D_send_57 rfl ?_
    refine ev_ic (v := 0) dd_D_send_58 (by decide +kernel) ?_
    refine R_stz (k := 16) (j := s) dd_D_send_59 h1 rfl (show s < 6 by omega) rfl (fun w2 h2 => ?_)
    refine ev_aload_n dd_D_send_60 rfl ?_
    refine R_gA (k := 33) dd_D_send_61 fr_D_105 h2 rfl ?_
    refine ev_iload_n dd_D_send_64 rfl ?_
    refine ev_aload_n dd_D_send_65 rfl ?_
    refine R_gA (k := 14) dd_D_send_66 fr_D_47 h2 rfl ?_
    refine ev_iload_n dd_D_send_69 rfl ?_
    refine R_ld (k := 14) (j := s) dd_D_send_70 h2 rfl (show s < 6 by omega) ?_
    refine R_st (k := 33) (j := s) dd_D_send_71 h2 rfl (show s < 6 by omega) (fun w3 h3 => ?_)
    refine ev_aload_n dd_D_send_72 rfl ?_
    refine R_gA (k := 34) dd_D_send_73 fr_D_108 h3 rfl ?_
    refine ev_iload_n dd_D_send_76 rfl ?_
    refine ev_aload_n dd_D_send_77 rfl ?_
    refine R_gA (k := 17) dd_D_send_78 fr_D_57 h3 rfl ?_
    refine ev_iload_n dd_D_send_81 rfl ?_
    refine R_ld (k := 17) (j := s) dd_D_send_82 h3 rfl (show s < 6 by omega) ?_
    refine R_st (k := 34) (j := s) dd_D_send_83 h3 rfl (show s < 6 by omega) (fun w4 h4' => ?_)
    have h4 : rf_K G w4 (rs_sn0 D s) none F rf_Q0 := h4'
    unfold rs_send
    refine ev_iload_n dd_D_send_84 rfl ?_
    refine ev_ic (v := 4) dd_D_send_85 (by decide +kernel) ?_
    refine ev_icmp_ne dd_D_send_86 (fun c => ?_) (fun c => ?_)
    · rw [if_neg c]
      refine ev_iload_n dd_D_send_158 rfl ?_
      refine ev_ic (v := 4) dd_D_send_159 (by decide +kernel) ?_
      refine ev_icmp_ne dd_D_send_160 (fun _ => ?_) (fun c2 => absurd c2 c)
      exact k_D_snE hs rfl rfl h4
    · rw [if_pos c]
      rw [show (Value.int (D.1 12 s)) = Value.int 4 by rw [c]]
      have hg' : (rs_sn0 D s).1 27 s = Int32.ofNat (rf_ag (rs_sn0 D s) s) ∧ rf_ag (rs_sn0 D s) s < 100 := hg
      exact k_D_sn1 (D := rs_sn0 D s) hs hg' h4
  refine ev_aload_n dd_D_send_0 rfl ?_
  refine R_gA (k := 12) dd_D_send_1 fr_D_41 h rfl ?_
  refine ev_iload_n dd_D_send_4 rfl ?_
  refine R_ld (k := 12) (j := s) dd_D_send_5 h rfl (show s < 6 by omega) ?_
  refine ev_istore_n dd_D_send_6 (by decide) ?_
  refine ev_aload_n dd_D_send_7 rfl ?_
  refine R_gA (k := 32) dd_D_send_8 fr_D_102 h rfl ?_
  refine ev_iload_n dd_D_send_11 rfl ?_
  refine ev_iload_n dd_D_send_12 rfl ?_
  refine ev_if_ne dd_D_send_13 (fun c => ?_) (fun c => ?_)
  · refine ev_iload_n dd_D_send_33 rfl ?_
    refine ev_ic (v := 1) dd_D_send_34 (by decide +kernel) ?_
    refine ev_icmp_ne dd_D_send_35 (fun c2 => ?_) (fun c2 => ?_)
    · refine ev_iload_n dd_D_send_42 rfl ?_
      refine ev_ic (v := 2) dd_D_send_43 (by decide +kernel) ?_
      refine ev_icmp_ne dd_D_send_44 (fun c3 => ?_) (fun c3 => ?_)
      · refine ev_ic (v := 4) dd_D_send_51 (by decide +kernel) ?_
        exact body 4 _ rfl rfl rfl (by unfold rf_sv; rw [if_neg c, if_neg c2, if_neg c3])
      · refine ev_ic (v := 2) dd_D_send_47 (by decide +kernel) ?_
        refine ev_goto dd_D_send_48 ?_
        exact body 2 _ rfl rfl rfl (by unfold rf_sv; rw [if_neg c, if_neg c2, if_pos c3])
    · refine ev_ic (v := 1) dd_D_send_38 (by decide +kernel) ?_
      refine ev_goto dd_D_send_39 ?_
      exact body 1 _ rfl rfl rfl (by unfold rf_sv; rw [if_neg c, if_pos c2])
  · refine ev_aload_n dd_D_send_16 rfl ?_
    refine R_gA (k := 16) dd_D_send_17 fr_D_53 h rfl ?_
    refine ev_iload_n dd_D_send_20 rfl ?_
    refine R_ldz (k := 16) (j := s) dd_D_send_21 h rfl (show s < 6 by omega) ?_
    refine ev_if_eq dd_D_send_22 (fun c2 => ?_) (fun c2 => ?_)
    · refine ev_ic (v := 0) dd_D_send_29 (by decide +kernel) ?_
      refine ev_goto dd_D_send_30 ?_
      exact body 0 _ rfl rfl rfl (by unfold rf_sv; rw [if_pos c, if_pos c2])
    · refine ev_ic (v := 3) dd_D_send_25 (by decide +kernel) ?_
      refine ev_goto dd_D_send_26 ?_
      exact body 3 _ rfl rfl rfl (by unfold rf_sv; rw [if_pos c, if_neg c2])
def rs_dl3 (D : rf_C) (l e t : Nat) : rf_C := if D.1 12 (2 * l + e) = 4 then rs_served D l e t else D
def rs_dl2 (D : rf_C) (l e t : Nat) : rf_C := if 4 ≤ D.1 32 t then (if D.1 12 (2 * l + e) = 3 then rs_dl3 (rs_D_come D (2 * l + e) 4) l e t else rs_dl3 D l e t) else rs_D_status D (2 * l + e) t
def rs_dl1 (D : rf_C) (l e t : Nat) (y : Int32) : rf_C := if y = 2 then rs_D_damaged D (2 * l + e) else if y = 0 then rs_dl2 (rf_sI D 50 0 (D.1 50 0 + 1)) l e t else D
def rs_dl0 (D : rf_C) (l e t : Nat) : rf_C := if D.1 31 (2 * l + e) ≤ 0 then rs_dl1 (rf_sI D 31 (2 * l + e) 0) l e t 0 else rs_dl1 (rf_sI D 31 (2 * l + e) (D.1 31 (2 * l + e) - 1)) l e t (D.1 30 (2 * l + e))
def rs_deliver (D : rf_C) (l e : Nat) : rf_C := if D.1 32 (2 * l + (1 - e)) = 0 then D else rs_dl0 D l e (2 * l + (1 - e))
def rf_sk (D : rf_C) (l e t : Nat) : Prop := (rs_svP (rs_good D (2 * l + e)) l e t).1 32 t = 5 → rf_tk (rf_sI (rs_svP (rs_good D (2 * l + e)) l e t) 18 (2 * l + e) ((rs_svP (rs_good D (2 * l + e)) l e t).1 34 t)) e t
/-- what has to be so before something comes to a side -/
def rf_dk (D : rf_C) (l e : Nat) : Prop := rf_hu D (2 * l + e) ∧ ∀ y, rf_sk (rf_sI (rf_sI D 31 (2 * l + e) y) 50 0 (D.1 50 0 + 1)) l e (2 * l + (1 - e)) ∧ rf_sk (rs_D_come (rf_sI (rf_sI D 31 (2 * l + e) y) 50 0 (D.1 50 0 + 1)) (2 * l + e) 4) l e (2 * l + (1 - e))
theorem k_D_dl1 {l e t : Nat} {y x : Int32} {L : List (Nat × Value)} (hl : l < 3) (he : e < 2) (ht : t < 6) (l0 : L.lookup 0 = some (.ref (ev_b G + 77))) (l1 : L.lookup 1 = some (.int (Int32.ofNat (2 * l + e)))) (l2 : L.lookup 2 = some (.int (Int32.ofNat t))) (l3 : L.lookup 3 = some (.int y)) (hu : rf_hu D (2 * l + e)) (hk : rf_sk (rf_sI D 50 0 (D.1 50 0 + 1)) l e t) (hk4 : rf_sk (rs_D_come (rf_sI D 50 0 (D.1 50 0 + 1)) (2 * l + e) 4) l e t) (h : rf_K G w D none F rf_Q0) : ev_E G mm_D_deliver (d + 6) 61 L [] w (rf_yv G F rf_Q0 none (rs_dl1 D l e t y)) := by
  have hs : 2 * l + e < 6 := by omega
  refine ev_loc4 (i0 := 0) (i1 := 1) (i2 := 2) (i3 := 3) l0 l1 l2 l3 ?_
  unfold rs_dl1
  refine ev_iload_n dd_D_deliver_61 rfl ?_
  refine ev_ic (v := 2) dd_D_deliver_62 (by decide +kernel) ?_
  refine ev_icmp_ne dd_D_deliver_63 (fun c => ?_) (fun c => ?_)
  · rw [if_neg c]
    refine ev_iload_n dd_D_deliver_74 rfl ?_
    refine ev_if_ne dd_D_deliver_75 (fun c2 => ?_) (fun c2 => ?_)
    · rw [if_neg c2]
      refine ev_vret dd_D_deliver_139 rfl ?_
      exact ⟨rfl, h⟩
    · rw [if_pos c2]
      refine ev_aload_n dd_D_deliver_78 rfl ?_
      refine ev_dup dd_D_deliver_79 rfl ?_
      refine R_gI (k := 50) dd_D_deliver_80 fr_D_233 h rfl (by decide) ?_
      refine ev_ic (v := 1) dd_D_deliver_83 (by decide +kernel) ?_
      refine ev_iadd dd_D_deliver_84 ?_
      refine R_pI (k := 50) dd_D_deliver_85 fk_D_233 h rfl (by decide) rfl rfl (fun w1 h1 => ?_)
      have hu1 : rf_hu (rf_sI D 50 0 (D.1 50 0 + 1)) (2 * l + e) := hu
      generalize rf_sI D 50 0 (D.1 50 0 + 1) = D1 at *
      unfold rs_dl2
      refine ev_aload_n dd_D_deliver_88 rfl ?_
      refine R_gA (k := 32) dd_D_deliver_89 fr_D_102 h1 rfl ?_
      refine ev_iload_n dd_D_deliver_92 rfl ?_
      refine R_ld (k := 32) (j := t) dd_D_deliver_93 h1 rfl (show t < 6 by omega) ?_
      refine ev_ic (v := 4) dd_D_deliver_94 (by decide +kernel) ?_
      refine ev_icmp_ge dd_D_deliver_95 (fun c3 => ?_) (fun c3 => ?_)
      · rw [if_pos c3]
        have tail : ∀ (D2 : rf_C) (w2 : ev_wd), rf_hu D2 (2 * l + e) → rf_sk D2 l e t → rf_K G w2 D2 none F rf_Q0 → ev_E G mm_D_deliver (d + 6) 123 [(0, .ref (ev_b G + 77)), (1, .int (Int32.ofNat (2 * l + e))), (2, .int (Int32.ofNat t)), (3, .int y)] [] w2 (rf_yv G F rf_Q0 none (rs_dl3 D2 l e t)) := by
          intro D2 w2 hu2 hk2 h2
          unfold rs_dl3
          refine ev_aload_n dd_D_deliver_123 rfl ?_
          refine R_gA (k := 12) dd_D_deliver_124 fr_D_41 h2 rfl ?_
          refine ev_iload_n dd_D_deliver_127 rfl ?_
          refine R_ld (k := 12) (j := 2 * l + e) dd_D_deliver_128 h2 rfl (show 2 * l + e < 6 by omega) ?_
          refine ev_ic (v := 4) dd_D_deliver_129 (by decide +kernel) ?_
          refine ev_icmp_ne dd_D_deliver_130 (fun c4 => ?_) (fun c4 => ?_)
          · rw [if_neg c4]
            refine ev_vret dd_D_deliver_139 rfl ?_
            exact ⟨rfl, h2⟩
          · rw [if_pos c4]
            refine ev_aload_n dd_D_deliver_133 rfl ?_
            refine ev_iload_n dd_D_deliver_134 rfl ?_
            refine ev_iload_n dd_D_deliver_135 rfl ?_
            refine ev_callvV2 [_, _] dd_D_deliver_136 ms_D_served iv_D_239 h2.ob h2.tg rfl (Nat.le_of_ble_eq_true rfl) (Nat.le_of_ble_eq_true rfl) (k_D_served hl he ht hu2 hk2 h2) (fun w3 h3 => ?_)
            refine ev_vret dd_D_deliver_139 rfl ?_
            exact ⟨rfl, h3⟩
        refine ev_aload_n dd_D_deliver_107 rfl ?_
        refine R_gA (k := 12) dd_D_deliver_108 fr_D_41 h1 rfl ?_
        refine ev_iload_n dd_D_deliver_111 rfl ?_
        refine R_ld (k := 12) (j := 2 * l + e) dd_D_deliver_112 h1 rfl (show 2 * l + e < 6 by omega) ?_
        refine ev_ic (v := 3) dd_D_deliver_113 (by decide +kernel) ?_
        refine ev_icmp_ne dd_D_deliver_114 (fun c4 => ?_) (fun c4 => ?_)
        · rw [if_neg c4]
          exact tail D1 w1 hu1 hk h1
        · rw [if_pos c4]
          refine ev_aload_n dd_D_deliver_117 rfl ?_
          refine ev_iload_n dd_D_deliver_118 rfl ?_
          refine ev_ic (v := 4) dd_D_deliver_119 (by decide +kernel) ?_
          refine ev_callvV2 [_, _] dd_D_deliver_120 ms_D_come iv_D_181 h1.ob h1.tg rfl (Nat.le_of_ble_eq_true rfl) (Nat.le_of_ble_eq_true rfl) (k_D_come hs _ h1) (fun w3 h3 => ?_)
          exact tail _ w3 hu1 hk4 h3
      · rw [if_neg c3]
        refine ev_aload_n dd_D_deliver_98 rfl ?_
        refine ev_iload_n dd_D_deliver_99 rfl ?_
        refine ev_iload_n dd_D_deliver_100 rfl ?_
        refine ev_callvV2 [_, _] dd_D_deliver_101 ms_D_status iv_D_236 h1.ob h1.tg rfl (Nat.le_of_ble_eq_true rfl) (Nat.le_of_ble_eq_true rfl) (k_D_status hs ht hu1 h1) (fun w3 h3 => ?_)
        refine ev_goto dd_D_deliver_104 ?_
        refine ev_vret dd_D_deliver_139 rfl ?_
        exact ⟨rfl, h3⟩
  · rw [if_pos c]
    refine ev_aload_n dd_D_deliver_66 rfl ?_
    refine ev_iload_n dd_D_deliver_67 rfl ?_
    refine ev_callvV2 [_] dd_D_deliver_68 ms_D_damaged iv_D_230 h.ob h.tg rfl (Nat.le_of_ble_eq_true rfl) (Nat.le_of_ble_eq_true rfl) (k_D_damaged hs hu h) (fun w3 h3 => ?_)
    refine ev_goto dd_D_deliver_71 ?_
    refine ev_vret dd_D_deliver_139 rfl ?_
    exact ⟨rfl, h3⟩
theorem k_D_deliver {l e : Nat} (hl : l < 3) (he : e < 2) (hk : rf_dk D l e) (h : rf_K G w D none F rf_Q0) : ev_E G mm_D_deliver (d + 6) 0 (lv_args 0 [.ref (ev_b G + 77), .int (Int32.ofNat (2 * l + e))]) [] w (rf_yv G F rf_Q0 none (rs_deliver D l e)) := by
  have hs : 2 * l + e < 6 := by omega
  have ht : 2 * l + (1 - e) < 6 := by omega
  obtain ⟨hu, hk⟩ := hk
  unfold rs_deliver
  refine ev_iload_n dd_D_deliver_0 rfl ?_
  refine ev_ic (v := 1) dd_D_deliver_1 (by decide +kernel) ?_
  refine ev_ixor dd_D_deliver_2 ?_
  rw [ms_xor hl he]
  generalize 2 * l + (1 - e) = t at *
  refine ev_istore_n dd_D_deliver_3 (by decide) ?_
  refine ev_aload_n dd_D_deliver_4 rfl ?_
  refine R_gA (k := 32) dd_D_deliver_5 fr_D_102 h rfl ?_
  refine ev_iload_n dd_D_deliver_8 rfl ?_
  refine R_ld (k := 32) (j := t) dd_D_deliver_9 h rfl (show t < 6 by omega) ?_
  refine ev_if_ne dd_D_deliver_10 (fun c => ?_) (fun c => ?_)
  · rw [if_neg c]
    unfold rs_dl0
    refine ev_aload_n dd_D_deliver_14 rfl ?_
    refine R_gA (k := 31) dd_D_deliver_15 fr_D_99 h rfl ?_
    refine ev_iload_n dd_D_deliver_18 rfl ?_
    refine R_ld (k := 31) (j := 2 * l + e) dd_D_deliver_19 h rfl (show 2 * l + e < 6 by omega) ?_
    refine ev_if_le dd_D_deliver_20 (fun c2 => ?_) (fun c2 => ?_)
    · rw [if_pos c2]
      refine ev_ic (v := 0) dd_D_deliver_32 (by decide +kernel) ?_
      refine ev_istore_n dd_D_deliver_33 (by decide) ?_
      refine ev_aload_n dd_D_deliver_34 rfl ?_
      refine R_gA (k := 31) dd_D_deliver_35 fr_D_99 h rfl ?_
      refine ev_iload_n dd_D_deliver_38 rfl ?_
      refine ev_aload_n dd_D_deliver_39 rfl ?_
      refine R_gA (k := 31) dd_D_deliver_40 fr_D_99 h rfl ?_
      refine ev_iload_n dd_D_deliver_43 rfl ?_
      refine R_ld (k := 31) (j := 2 * l + e) dd_D_deliver_44 h rfl (show 2 * l + e < 6 by omega) ?_
      refine ev_if_le dd_D_deliver_45 (fun _ => ?_) (fun c3 => absurd c2 c3)
      refine ev_ic (v := 0) dd_D_deliver_59 (by decide +kernel) ?_
      refine R_st (k := 31) (j := 2 * l + e) dd_D_deliver_60 h rfl (show 2 * l + e < 6 by omega) (fun w1 h1 => ?_)
      exact k_D_dl1 (D := rf_sI D 31 (2 * l + e) 0) (x := 0) hl he ht rfl rfl rfl rfl hu (hk 0).1 (hk 0).2 h1
    · rw [if_neg c2]
      refine ev_aload_n dd_D_deliver_23 rfl ?_
      refine R_gA (k := 30) dd_D_deliver_24 fr_D_96 h rfl ?_
      refine ev_iload_n dd_D_deliver_27 rfl ?_
      refine R_ld (k := 30) (j := 2 * l + e) dd_D_deliver_28 h rfl (show 2 * l + e < 6 by omega) ?_
      refine ev_goto dd_D_deliver_29 ?_
      refine ev_istore_n dd_D_deliver_33 (by decide) ?_
      refine ev_aload_n dd_D_deliver_34 rfl ?_
      refine R_gA (k := 31) dd_D_deliver_35 fr_D_99 h rfl ?_
      refine ev_iload_n dd_D_deliver_38 rfl ?_
      refine ev_aload_n dd_D_deliver_39 rfl ?_
      refine R_gA (k := 31) dd_D_deliver_40 fr_D_99 h rfl ?_
      refine ev_iload_n dd_D_deliver_43 rfl ?_
      refine R_ld (k := 31) (j := 2 * l + e) dd_D_deliver_44 h rfl (show 2 * l + e < 6 by omega) ?_
      refine ev_if_le dd_D_deliver_45 (fun c3 => absurd c3 c2) (fun _ => ?_)
      refine ev_aload_n dd_D_deliver_48 rfl ?_
      refine R_gA (k := 31) dd_D_deliver_49 fr_D_99 h rfl ?_
      refine ev_iload_n dd_D_deliver_52 rfl ?_
      refine R_ld (k := 31) (j := 2 * l + e) dd_D_deliver_53 h rfl (show 2 * l + e < 6 by omega) ?_
      refine ev_ic (v := 1) dd_D_deliver_54 (by decide +kernel) ?_
      refine ev_isub dd_D_deliver_55 ?_
      refine ev_goto dd_D_deliver_56 ?_
      refine R_st (k := 31) (j := 2 * l + e) dd_D_deliver_60 h rfl (show 2 * l + e < 6 by omega) (fun w1 h1 => ?_)
      exact k_D_dl1 (D := rf_sI D 31 (2 * l + e) (D.1 31 (2 * l + e) - 1)) (x := 0) hl he ht rfl rfl rfl rfl hu (hk _).1 (hk _).2 h1
  · rw [if_pos c]
    refine ev_vret dd_D_deliver_13 rfl ?_
    exact ⟨rfl, h⟩
end RgC
