/-! the law: one call of each kind -/
abbrev mm_W (hh : List (Nat × Nat × Nat × Nat)) : ev_mx := (x, code, 8, ret, hh)
theorem lg_self (x : Int64) : lg_cmp x x = 0 := by unfold lg_cmp; simp
def L5 (G : ev_gx) (bb m : Nat) : List (Nat × Value) := [(0, .ref bb), (1, .ref (ev_b G + cr_o 12 0)), (2, .ref (ev_b G + 77)), (3, .ref (ev_b G + 124)), (4, .int (Int32.ofNat (5 * m)))]
section Law2
variable {G : ev_gx} {M : ev_mx} {d pc pc' tgt : Nat} {L : List (Nat × Value)} {st : List Value} {w w1 : ev_wd} {P : ev_r → ev_wd → Prop} {q0 mi n n' bb Ls m : Nat} {C C' : cr_C} {D D' : rf_C} {o ov : Int64} {xs : Nat → Int32} {hh : List (Nat × Nat × Nat × Nat)} {kv rv : Int32}
theorem L_el {c : Nat} (hX : va_X bb Ls xs (ev_s0 G) (ev_s0 G).heap) (hbl : bb < ev_b G) (hL : Ls ≤ 2560) (hm : 5 * m + c < Ls) (hd : ev_d M.2.1 pc .iaload 1 pc') (kk : ev_E G M d pc' L (.int (xs (5 * m + c)) :: st) w P) : ev_E G M d pc L (.int (Int32.ofNat (5 * m) + Int32.ofNat c) :: .ref bb :: st) w P := by
  rw [show Int32.ofNat (5 * m) + Int32.ofNat c = Int32.ofNat (5 * m + c) from nI_add _ _]
  refine ev_sld hX hbl hd (nI_in hm (by omega)) ?_
  rw [ev_cl _ (by omega)]
  exact kk
theorem L_ld (hd : ev_d M.2.1 pc .laload 1 pc') (h : LW G q0 w C n D o) (kk : ev_E G M d pc' L (.long o :: st) w P) : ev_E G M d pc L (.int 0 :: .ref (ev_b G + 124) :: st) w P := by
  have hz := h.z
  refine ev_lald (t := 2) hd ⟨by omega, by omega⟩ h.2.2.1 rfl (by rw [h.2.2.2.1]; exact nI_in (show 0 < 1 by omega) (by omega)) (v := .long o) ?_ kk
  exact h.2.2.2.2
theorem lc_start (hq : q0 < ev_b G) (hX : va_X bb Ls xs (ev_s0 G) (ev_s0 G).heap) (hbl : bb < ev_b G) (hL : Ls ≤ 2560) (hm : 5 * m + 5 ≤ Ls) (h : LW G q0 w C n D o) (hH : ev_E G mm_W_start (d + 14) 0 (lv_args 0 [.ref (ev_b G + cr_o 12 0), .int (xs (5 * m + 1)), .int (xs (5 * m + 2)), .ref (ev_b G + 124)]) [] w (LY G q0 C' n' D kv ov)) (hRf : ∀ w1, rf_K G w1 D none w1 rf_Q0 → ev_E G mm_D_start (d + 14) 0 (lv_args 0 (.ref (ev_b G + 77) :: [.int (xs (5 * m + 1)), .int (xs (5 * m + 2))])) [] w1 (rf_yi G w1 rf_Q0 none (rv, D'))) (ht : D'.1 0 0 = kv) (he : kv = 0 → ov = (if rv = 0 then 0 else 1)) (kk : ∀ w' o', LW G q0 w' C' n' D' o' → ev_E G (mm_W hh) (d + 15) 890 (L5 G bb m) [] w' P) : ev_E G (mm_W hh) (d + 15) 104 (L5 G bb m) [] w P := by
  refine ev_aload_n dd_W_law_104 rfl ?_
  refine ev_aload_n dd_W_law_105 rfl ?_
  refine ev_iload dd_W_law_106 rfl ?_
  refine ev_ic (v := 1) dd_W_law_108 (by decide +kernel) ?_
  refine ev_iadd dd_W_law_109 ?_
  refine L_el (c := 1) hX hbl hL (by omega) dd_W_law_110 ?_
  refine ev_aload_n dd_W_law_111 rfl ?_
  refine ev_iload dd_W_law_112 rfl ?_
  refine ev_ic (v := 2) dd_W_law_114 (by decide +kernel) ?_
  refine ev_iadd dd_W_law_115 ?_
  refine L_el (c := 2) hX hbl hL (by omega) dd_W_law_116 ?_
  refine ev_aload_n dd_W_law_117 rfl ?_
  refine L_s [.ref (ev_b G + cr_o 12 0), .int (xs (5 * m + 1)), .int (xs (5 * m + 2)), .ref (ev_b G + 124)] dd_W_law_118 ms_W_start is_W_59 rfl (Nat.le_of_ble_eq_true rfl) (Nat.le_of_ble_eq_true rfl) hH (fun w1 o1 ho1 h1 => ?_)
  refine ev_istore dd_W_law_121 (Nat.le_of_ble_eq_true rfl) ?_
  refine ev_aload_n dd_W_law_123 rfl ?_
  refine ev_aload_n dd_W_law_124 rfl ?_
  refine ev_iload dd_W_law_125 rfl ?_
  refine ev_ic (v := 1) dd_W_law_127 (by decide +kernel) ?_
  refine ev_iadd dd_W_law_128 ?_
  refine L_el (c := 1) hX hbl hL (by omega) dd_W_law_129 ?_
  refine ev_aload_n dd_W_law_130 rfl ?_
  refine ev_iload dd_W_law_131 rfl ?_
  refine ev_ic (v := 2) dd_W_law_133 (by decide +kernel) ?_
  refine ev_iadd dd_W_law_134 ?_
  refine L_el (c := 2) hX hbl hL (by omega) dd_W_law_135 ?_
  refine L_r [.int (xs (5 * m + 1)), .int (xs (5 * m + 2))] hq dd_W_law_136 ms_D_start iv_W_64 rfl (Nat.le_of_ble_eq_true rfl) (Nat.le_of_ble_eq_true rfl) h1 (hRf w1 h1.2.1) (fun w2 h2 => ?_)
  refine ev_istore dd_W_law_139 (Nat.le_of_ble_eq_true rfl) ?_
  refine ev_aload_n dd_W_law_141 rfl ?_
  refine L_r [] (v := D'.1 0 0) (D' := D') hq dd_W_law_142 ms_D_thrown iv_W_65 rfl (Nat.le_of_ble_eq_true rfl) (Nat.le_of_ble_eq_true rfl) h2 (k_D_thrown h2.2.1) (fun w3 h3 => ?_)
  refine ev_iload dd_W_law_145 rfl ?_
  refine ev_icmp_eq dd_W_law_147 (fun _ => ?_) (fun hne => absurd ht hne)
  refine ev_iload dd_W_law_152 rfl ?_
  refine ev_if_ne dd_W_law_154 (fun _ => ?_) (fun hk0 => ?_)
  · refine ev_goto dd_W_law_176 ?_
    refine ev_loc5 (i0 := 0) (i1 := 1) (i2 := 2) (i3 := 3) (i4 := 4) rfl rfl rfl rfl rfl ?_
    exact kk _ _ h3
  · have e1 : o1 = ov := ho1 hk0
    rw [e1, he hk0] at h3
    refine ev_aload_n dd_W_law_157 rfl ?_
    refine ev_ic (v := 0) dd_W_law_158 (by decide +kernel) ?_
    refine L_ld dd_W_law_159 h3 ?_
    refine ev_iload dd_W_law_160 rfl ?_
    refine ev_if_eq dd_W_law_162 (fun c => ?_) (fun c => ?_)
    · rw [if_pos c] at h3 ⊢
      refine ev_lconst dd_W_law_169 ?_
      refine ev_lcmp dd_W_law_170 ?_
      refine ev_if_eq dd_W_law_171 (fun _ => ?_) (fun hne => absurd (lg_self _) hne)
      refine ev_goto dd_W_law_176 ?_
      refine ev_loc5 (i0 := 0) (i1 := 1) (i2 := 2) (i3 := 3) (i4 := 4) rfl rfl rfl rfl rfl ?_
      exact kk _ _ h3
    · rw [if_neg c] at h3 ⊢
      refine ev_lconst dd_W_law_165 ?_
      refine ev_goto dd_W_law_166 ?_
      refine ev_lcmp dd_W_law_170 ?_
      refine ev_if_eq dd_W_law_171 (fun _ => ?_) (fun hne => absurd (lg_self _) hne)
      refine ev_goto dd_W_law_176 ?_
      refine ev_loc5 (i0 := 0) (i1 := 1) (i2 := 2) (i3 := 3) (i4 := 4) rfl rfl rfl rfl rfl ?_
      exact kk _ _ h3
theorem lc_stop (hq : q0 < ev_b G) (hX : va_X bb Ls xs (ev_s0 G) (ev_s0 G).heap) (hbl : bb < ev_b G) (hL : Ls ≤ 2560) (hm : 5 * m + 5 ≤ Ls) (h : LW G q0 w C n D o) (hH : ev_E G mm_W_stop (d + 14) 0 (lv_args 0 [.ref (ev_b G + cr_o 12 0), .int (xs (5 * m + 1)), .int (xs (5 * m + 2)), .ref (ev_b G + 124)]) [] w (LY G q0 C' n' D kv ov)) (hRf : ∀ w1, rf_K G w1 D none w1 rf_Q0 → ev_E G mm_D_stop (d + 14) 0 (lv_args 0 (.ref (ev_b G + 77) :: [.int (xs (5 * m + 1)), .int (xs (5 * m + 2))])) [] w1 (rf_yi G w1 rf_Q0 none (rv, D'))) (ht : D'.1 0 0 = kv) (he : kv = 0 → ov = (if rv = 0 then 0 else 1)) (kk : ∀ w' o', LW G q0 w' C' n' D' o' → ev_E G (mm_W hh) (d + 15) 890 (L5 G bb m) [] w' P) : ev_E G (mm_W hh) (d + 15) 179 (L5 G bb m) [] w P := by
  refine ev_aload_n dd_W_law_179 rfl ?_
  refine ev_aload_n dd_W_law_180 rfl ?_
  refine ev_iload dd_W_law_181 rfl ?_
  refine ev_ic (v := 1) dd_W_law_183 (by decide +kernel) ?_
  refine ev_iadd dd_W_law_184 ?_
  refine L_el (c := 1) hX hbl hL (by omega) dd_W_law_185 ?_
  refine ev_aload_n dd_W_law_186 rfl ?_
  refine ev_iload dd_W_law_187 rfl ?_
  refine ev_ic (v := 2) dd_W_law_189 (by decide +kernel) ?_
  refine ev_iadd dd_W_law_190 ?_
  refine L_el (c := 2) hX hbl hL (by omega) dd_W_law_191 ?_
  refine ev_aload_n dd_W_law_192 rfl ?_
  refine L_s [.ref (ev_b G + cr_o 12 0), .int (xs (5 * m + 1)), .int (xs (5 * m + 2)), .ref (ev_b G + 124)] dd_W_law_193 ms_W_stop is_W_69 rfl (Nat.le_of_ble_eq_true rfl) (Nat.le_of_ble_eq_true rfl) hH (fun w1 o1 ho1 h1 => ?_)
  refine ev_istore dd_W_law_196 (Nat.le_of_ble_eq_true rfl) ?_
  refine ev_aload_n dd_W_law_198 rfl ?_
  refine ev_aload_n dd_W_law_199 rfl ?_
  refine ev_iload dd_W_law_200 rfl ?_
  refine ev_ic (v := 1) dd_W_law_202 (by decide +kernel) ?_
  refine ev_iadd dd_W_law_203 ?_
  refine L_el (c := 1) hX hbl hL (by omega) dd_W_law_204 ?_
  refine ev_aload_n dd_W_law_205 rfl ?_
  refine ev_iload dd_W_law_206 rfl ?_
  refine ev_ic (v := 2) dd_W_law_208 (by decide +kernel) ?_
  refine ev_iadd dd_W_law_209 ?_
  refine L_el (c := 2) hX hbl hL (by omega) dd_W_law_210 ?_
  refine L_r [.int (xs (5 * m + 1)), .int (xs (5 * m + 2))] hq dd_W_law_211 ms_D_stop iv_W_71 rfl (Nat.le_of_ble_eq_true rfl) (Nat.le_of_ble_eq_true rfl) h1 (hRf w1 h1.2.1) (fun w2 h2 => ?_)
  refine ev_istore dd_W_law_214 (Nat.le_of_ble_eq_true rfl) ?_
  refine ev_aload_n dd_W_law_216 rfl ?_
  refine L_r [] (v := D'.1 0 0) (D' := D') hq dd_W_law_217 ms_D_thrown iv_W_65 rfl (Nat.le_of_ble_eq_true rfl) (Nat.le_of_ble_eq_true rfl) h2 (k_D_thrown h2.2.1) (fun w3 h3 => ?_)
  refine ev_iload dd_W_law_220 rfl ?_
  refine ev_icmp_eq dd_W_law_222 (fun _ => ?_) (fun hne => absurd ht hne)
  refine ev_iload dd_W_law_227 rfl ?_
  refine ev_if_ne dd_W_law_229 (fun _ => ?_) (fun hk0 => ?_)
  · refine ev_goto dd_W_law_251 ?_
    refine ev_loc5 (i0 := 0) (i1 := 1) (i2 := 2) (i3 := 3) (i4 := 4) rfl rfl rfl rfl rfl ?_
    exact kk _ _ h3
  · have e1 : o1 = ov := ho1 hk0
    rw [e1, he hk0] at h3
    refine ev_aload_n dd_W_law_232 rfl ?_
    refine ev_ic (v := 0) dd_W_law_233 (by decide +kernel) ?_
    refine L_ld dd_W_law_234 h3 ?_
    refine ev_iload dd_W_law_235 rfl ?_
    refine ev_if_eq dd_W_law_237 (fun c => ?_) (fun c => ?_)
    · rw [if_pos c] at h3 ⊢
      refine ev_lconst dd_W_law_244 ?_
      refine ev_lcmp dd_W_law_245 ?_
      refine ev_if_eq dd_W_law_246 (fun _ => ?_) (fun hne => absurd (lg_self _) hne)
      refine ev_goto dd_W_law_251 ?_
      refine ev_loc5 (i0 := 0) (i1 := 1) (i2 := 2) (i3 := 3) (i4 := 4) rfl rfl rfl rfl rfl ?_
      exact kk _ _ h3
    · rw [if_neg c] at h3 ⊢
      refine ev_lconst dd_W_law_240 ?_
      refine ev_goto dd_W_law_241 ?_
      refine ev_lcmp dd_W_law_245 ?_
      refine ev_if_eq dd_W_law_246 (fun _ => ?_) (fun hne => absurd (lg_self _) hne)
      refine ev_goto dd_W_law_251 ?_
      refine ev_loc5 (i0 := 0) (i1 := 1) (i2 := 2) (i3 := 3) (i4 := 4) rfl rfl rfl rfl rfl ?_
      exact kk _ _ h3
theorem lc_fault (hq : q0 < ev_b G) (hX : va_X bb Ls xs (ev_s0 G) (ev_s0 G).heap) (hbl : bb < ev_b G) (hL : Ls ≤ 2560) (hm : 5 * m + 5 ≤ Ls) (h : LW G q0 w C n D o) (hH : ev_E G mm_W_fault (d + 14) 0 (lv_args 0 [.ref (ev_b G + cr_o 12 0), .int (xs (5 * m + 1)), .int (xs (5 * m + 2)), .int (xs (5 * m + 3)), .int (xs (5 * m + 4))]) [] w (LY G q0 C' n' D kv ov)) (hRf : ∀ w1, rf_K G w1 D none w1 rf_Q0 → ev_E G mm_D_fault (d + 14) 0 (lv_args 0 (.ref (ev_b G + 77) :: [.int (xs (5 * m + 1)), .int (xs (5 * m + 2)), .int (xs (5 * m + 3)), .int (xs (5 * m + 4))])) [] w1 (rf_yv G w1 rf_Q0 none D')) (ht : D'.1 0 0 = kv) (kk : ∀ w' o', LW G q0 w' C' n' D' o' → ev_E G (mm_W hh) (d + 15) 890 (L5 G bb m) [] w' P) : ev_E G (mm_W hh) (d + 15) 254 (L5 G bb m) [] w P := by
  refine ev_aload_n dd_W_law_254 rfl ?_
  refine ev_aload_n dd_W_law_255 rfl ?_
  refine ev_iload dd_W_law_256 rfl ?_
  refine ev_ic (v := 1) dd_W_law_258 (by decide +kernel) ?_
  refine ev_iadd dd_W_law_259 ?_
  refine L_el (c := 1) hX hbl hL (by omega) dd_W_law_260 ?_
  refine ev_aload_n dd_W_law_261 rfl ?_
  refine ev_iload dd_W_law_262 rfl ?_
  refine ev_ic (v := 2) dd_W_law_264 (by decide +kernel) ?_
  refine ev_iadd dd_W_law_265 ?_
  refine L_el (c := 2) hX hbl hL (by omega) dd_W_law_266 ?_
  refine ev_aload_n dd_W_law_267 rfl ?_
  refine ev_iload dd_W_law_268 rfl ?_
  refine ev_ic (v := 3) dd_W_law_270 (by decide +kernel) ?_
  refine ev_iadd dd_W_law_271 ?_
  refine L_el (c := 3) hX hbl hL (by omega) dd_W_law_272 ?_
  refine ev_aload_n dd_W_law_273 rfl ?_
  refine ev_iload dd_W_law_274 rfl ?_
  refine ev_ic (v := 4) dd_W_law_276 (by decide +kernel) ?_
  refine ev_iadd dd_W_law_277 ?_
  refine L_el (c := 4) hX hbl hL (by omega) dd_W_law_278 ?_
  refine L_s [.ref (ev_b G + cr_o 12 0), .int (xs (5 * m + 1)), .int (xs (5 * m + 2)), .int (xs (5 * m + 3)), .int (xs (5 * m + 4))] dd_W_law_279 ms_W_fault is_W_72 rfl (Nat.le_of_ble_eq_true rfl) (Nat.le_of_ble_eq_true rfl) hH (fun w1 o1 ho1 h1 => ?_)
  refine ev_istore dd_W_law_282 (Nat.le_of_ble_eq_true rfl) ?_
  refine ev_aload_n dd_W_law_284 rfl ?_
  refine ev_aload_n dd_W_law_285 rfl ?_
  refine ev_iload dd_W_law_286 rfl ?_
  refine ev_ic (v := 1) dd_W_law_288 (by decide +kernel) ?_
  refine ev_iadd dd_W_law_289 ?_
  refine L_el (c := 1) hX hbl hL (by omega) dd_W_law_290 ?_
  refine ev_aload_n dd_W_law_291 rfl ?_
  refine ev_iload dd_W_law_292 rfl ?_
  refine ev_ic (v := 2) dd_W_law_294 (by decide +kernel) ?_
  refine ev_iadd dd_W_law_295 ?_
  refine L_el (c := 2) hX hbl hL (by omega) dd_W_law_296 ?_
  refine ev_aload_n dd_W_law_297 rfl ?_
  refine ev_iload dd_W_law_298 rfl ?_
  refine ev_ic (v := 3) dd_W_law_300 (by decide +kernel) ?_
  refine ev_iadd dd_W_law_301 ?_
  refine L_el (c := 3) hX hbl hL (by omega) dd_W_law_302 ?_
  refine ev_aload_n dd_W_law_303 rfl ?_
  refine ev_iload dd_W_law_304 rfl ?_
  refine ev_ic (v := 4) dd_W_law_306 (by decide +kernel) ?_
  refine ev_iadd dd_W_law_307 ?_
  refine L_el (c := 4) hX hbl hL (by omega) dd_W_law_308 ?_
  refine L_rV [.int (xs (5 * m + 1)), .int (xs (5 * m + 2)), .int (xs (5 * m + 3)), .int (xs (5 * m + 4))] hq dd_W_law_309 ms_D_fault iv_W_75 rfl (Nat.le_of_ble_eq_true rfl) (Nat.le_of_ble_eq_true rfl) h1 (hRf w1 h1.2.1) (fun w2 h2 => ?_)
  refine ev_aload_n dd_W_law_312 rfl ?_
  refine L_r [] (v := D'.1 0 0) (D' := D') hq dd_W_law_313 ms_D_thrown iv_W_65 rfl (Nat.le_of_ble_eq_true rfl) (Nat.le_of_ble_eq_true rfl) h2 (k_D_thrown h2.2.1) (fun w3 h3 => ?_)
  refine ev_iload dd_W_law_316 rfl ?_
  refine ev_icmp_eq dd_W_law_318 (fun _ => ?_) (fun hne => absurd ht hne)
  refine ev_goto dd_W_law_323 ?_
  refine ev_loc5 (i0 := 0) (i1 := 1) (i2 := 2) (i3 := 3) (i4 := 4) rfl rfl rfl rfl rfl ?_
  exact kk _ _ h3
theorem lc_submit (hq : q0 < ev_b G) (hX : va_X bb Ls xs (ev_s0 G) (ev_s0 G).heap) (hbl : bb < ev_b G) (hL : Ls ≤ 2560) (hm : 5 * m + 5 ≤ Ls) (h : LW G q0 w C n D o) (hH : ev_E G mm_W_submit (d + 14) 0 (lv_args 0 [.ref (ev_b G + cr_o 12 0), .int (xs (5 * m + 1)), .int (xs (5 * m + 2)), .int (xs (5 * m + 3)), .ref (ev_b G + 124)]) [] w (LY G q0 C' n' D kv ov)) (hRf : ∀ w1, rf_K G w1 D none w1 rf_Q0 → ev_E G mm_D_submit (d + 14) 0 (lv_args 0 (.ref (ev_b G + 77) :: [.int (xs (5 * m + 1)), .int (xs (5 * m + 2)), .int (xs (5 * m + 3))])) [] w1 (rf_yi G w1 rf_Q0 none (rv, D'))) (ht : D'.1 0 0 = kv) (he : kv = 0 → ov = (if rv = 0 then 0 else 1)) (kk : ∀ w' o', LW G q0 w' C' n' D' o' → ev_E G (mm_W hh) (d + 15) 890 (L5 G bb m) [] w' P) : ev_E G (mm_W hh) (d + 15) 326 (L5 G bb m) [] w P := by
  refine ev_aload_n dd_W_law_326 rfl ?_
  refine ev_aload_n dd_W_law_327 rfl ?_
  refine ev_iload dd_W_law_328 rfl ?_
  refine ev_ic (v := 1) dd_W_law_330 (by decide +kernel) ?_
  refine ev_iadd dd_W_law_331 ?_
  refine L_el (c := 1) hX hbl hL (by omega) dd_W_law_332 ?_
  refine ev_aload_n dd_W_law_333 rfl ?_
  refine ev_iload dd_W_law_334 rfl ?_
  refine ev_ic (v := 2) dd_W_law_336 (by decide +kernel) ?_
  refine ev_iadd dd_W_law_337 ?_
  refine L_el (c := 2) hX hbl hL (by omega) dd_W_law_338 ?_
  refine ev_aload_n dd_W_law_339 rfl ?_
  refine ev_iload dd_W_law_340 rfl ?_
  refine ev_ic (v := 3) dd_W_law_342 (by decide +kernel) ?_
  refine ev_iadd dd_W_law_343 ?_
  refine L_el (c := 3) hX hbl hL (by omega) dd_W_law_344 ?_
  refine ev_aload_n dd_W_law_345 rfl ?_
  refine L_s [.ref (ev_b G + cr_o 12 0), .int (xs (5 * m + 1)), .int (xs (5 * m + 2)), .int (xs (5 * m + 3)), .ref (ev_b G + 124)] dd_W_law_346 ms_W_submit is_W_76 rfl (Nat.le_of_ble_eq_true rfl) (Nat.le_of_ble_eq_true rfl) hH (fun w1 o1 ho1 h1 => ?_)
  refine ev_istore dd_W_law_349 (Nat.le_of_ble_eq_true rfl) ?_
  refine ev_aload_n dd_W_law_351 rfl ?_
  refine ev_aload_n dd_W_law_352 rfl ?_
  refine ev_iload dd_W_law_353 rfl ?_
  refine ev_ic (v := 1) dd_W_law_355 (by decide +kernel) ?_
  refine ev_iadd dd_W_law_356 ?_
  refine L_el (c := 1) hX hbl hL (by omega) dd_W_law_357 ?_
  refine ev_aload_n dd_W_law_358 rfl ?_
  refine ev_iload dd_W_law_359 rfl ?_
  refine ev_ic (v := 2) dd_W_law_361 (by decide +kernel) ?_
  refine ev_iadd dd_W_law_362 ?_
  refine L_el (c := 2) hX hbl hL (by omega) dd_W_law_363 ?_
  refine ev_aload_n dd_W_law_364 rfl ?_
  refine ev_iload dd_W_law_365 rfl ?_
  refine ev_ic (v := 3) dd_W_law_367 (by decide +kernel) ?_
  refine ev_iadd dd_W_law_368 ?_
  refine L_el (c := 3) hX hbl hL (by omega) dd_W_law_369 ?_
  refine L_r [.int (xs (5 * m + 1)), .int (xs (5 * m + 2)), .int (xs (5 * m + 3))] hq dd_W_law_370 ms_D_submit iv_W_79 rfl (Nat.le_of_ble_eq_true rfl) (Nat.le_of_ble_eq_true rfl) h1 (hRf w1 h1.2.1) (fun w2 h2 => ?_)
  refine ev_istore dd_W_law_373 (Nat.le_of_ble_eq_true rfl) ?_
  refine ev_aload_n dd_W_law_375 rfl ?_
  refine L_r [] (v := D'.1 0 0) (D' := D') hq dd_W_law_376 ms_D_thrown iv_W_65 rfl (Nat.le_of_ble_eq_true rfl) (Nat.le_of_ble_eq_true rfl) h2 (k_D_thrown h2.2.1) (fun w3 h3 => ?_)
  refine ev_iload dd_W_law_379 rfl ?_
  refine ev_icmp_eq dd_W_law_381 (fun _ => ?_) (fun hne => absurd ht hne)
  refine ev_iload dd_W_law_386 rfl ?_
  refine ev_if_ne dd_W_law_388 (fun _ => ?_) (fun hk0 => ?_)
  · refine ev_goto dd_W_law_410 ?_
    refine ev_loc5 (i0 := 0) (i1 := 1) (i2 := 2) (i3 := 3) (i4 := 4) rfl rfl rfl rfl rfl ?_
    exact kk _ _ h3
  · have e1 : o1 = ov := ho1 hk0
    rw [e1, he hk0] at h3
    refine ev_aload_n dd_W_law_391 rfl ?_
    refine ev_ic (v := 0) dd_W_law_392 (by decide +kernel) ?_
    refine L_ld dd_W_law_393 h3 ?_
    refine ev_iload dd_W_law_394 rfl ?_
    refine ev_if_eq dd_W_law_396 (fun c => ?_) (fun c => ?_)
    · rw [if_pos c] at h3 ⊢
      refine ev_lconst dd_W_law_403 ?_
      refine ev_lcmp dd_W_law_404 ?_
      refine ev_if_eq dd_W_law_405 (fun _ => ?_) (fun hne => absurd (lg_self _) hne)
      refine ev_goto dd_W_law_410 ?_
      refine ev_loc5 (i0 := 0) (i1 := 1) (i2 := 2) (i3 := 3) (i4 := 4) rfl rfl rfl rfl rfl ?_
      exact kk _ _ h3
    · rw [if_neg c] at h3 ⊢
      refine ev_lconst dd_W_law_399 ?_
      refine ev_goto dd_W_law_400 ?_
      refine ev_lcmp dd_W_law_404 ?_
      refine ev_if_eq dd_W_law_405 (fun _ => ?_) (fun hne => absurd (lg_self _) hne)
      refine ev_goto dd_W_law_410 ?_
      refine ev_loc5 (i0 := 0) (i1 := 1) (i2 := 2) (i3 := 3) (i4 := 4) rfl rfl rfl rfl rfl ?_
      exact kk _ _ h3
theorem lc_state (hq : q0 < ev_b G) (hX : va_X bb Ls xs (ev_s0 G) (ev_s0 G).heap) (hbl : bb < ev_b G) (hL : Ls ≤ 2560) (hm : 5 * m + 5 ≤ Ls) (h : LW G q0 w C n D o) (hH : ev_E G mm_W_state (d + 14) 0 (lv_args 0 [.ref (ev_b G + cr_o 12 0), .int (xs (5 * m + 1)), .int (xs (5 * m + 2)), .ref (ev_b G + 124)]) [] w (LY G q0 C' n' D kv ov)) (hRf : ∀ w1, rf_K G w1 D none w1 rf_Q0 → ev_E G mm_D_state (d + 14) 0 (lv_args 0 (.ref (ev_b G + 77) :: [.int (xs (5 * m + 1)), .int (xs (5 * m + 2))])) [] w1 (rf_yi G w1 rf_Q0 none (rv, D'))) (ht : D'.1 0 0 = kv) (he : kv = 0 → ov = rv.toInt64) (kk : ∀ w' o', LW G q0 w' C' n' D' o' → ev_E G (mm_W hh) (d + 15) 890 (L5 G bb m) [] w' P) : ev_E G (mm_W hh) (d + 15) 426 (L5 G bb m) [] w P := by
  refine ev_aload_n dd_W_law_426 rfl ?_
  refine ev_aload_n dd_W_law_427 rfl ?_
  refine ev_iload dd_W_law_428 rfl ?_
  refine ev_ic (v := 1) dd_W_law_430 (by decide +kernel) ?_
  refine ev_iadd dd_W_law_431 ?_
  refine L_el (c := 1) hX hbl hL (by omega) dd_W_law_432 ?_
  refine ev_aload_n dd_W_law_433 rfl ?_
  refine ev_iload dd_W_law_434 rfl ?_
  refine ev_ic (v := 2) dd_W_law_436 (by decide +kernel) ?_
  refine ev_iadd dd_W_law_437 ?_
  refine L_el (c := 2) hX hbl hL (by omega) dd_W_law_438 ?_
  refine ev_aload_n dd_W_law_439 rfl ?_
  refine L_s [.ref (ev_b G + cr_o 12 0), .int (xs (5 * m + 1)), .int (xs (5 * m + 2)), .ref (ev_b G + 124)] dd_W_law_440 ms_W_state is_W_84 rfl (Nat.le_of_ble_eq_true rfl) (Nat.le_of_ble_eq_true rfl) hH (fun w1 o1 ho1 h1 => ?_)
  refine ev_istore dd_W_law_443 (Nat.le_of_ble_eq_true rfl) ?_
  refine ev_aload_n dd_W_law_445 rfl ?_
  refine ev_aload_n dd_W_law_446 rfl ?_
  refine ev_iload dd_W_law_447 rfl ?_
  refine ev_ic (v := 1) dd_W_law_449 (by decide +kernel) ?_
  refine ev_iadd dd_W_law_450 ?_
  refine L_el (c := 1) hX hbl hL (by omega) dd_W_law_451 ?_
  refine ev_aload_n dd_W_law_452 rfl ?_
  refine ev_iload dd_W_law_453 rfl ?_
  refine ev_ic (v := 2) dd_W_law_455 (by decide +kernel) ?_
  refine ev_iadd dd_W_law_456 ?_
  refine L_el (c := 2) hX hbl hL (by omega) dd_W_law_457 ?_
  refine L_r [.int (xs (5 * m + 1)), .int (xs (5 * m + 2))] hq dd_W_law_458 ms_D_state iv_W_86 rfl (Nat.le_of_ble_eq_true rfl) (Nat.le_of_ble_eq_true rfl) h1 (hRf w1 h1.2.1) (fun w2 h2 => ?_)
  refine ev_istore dd_W_law_461 (Nat.le_of_ble_eq_true rfl) ?_
  refine ev_aload_n dd_W_law_463 rfl ?_
  refine L_r [] (v := D'.1 0 0) (D' := D') hq dd_W_law_464 ms_D_thrown iv_W_65 rfl (Nat.le_of_ble_eq_true rfl) (Nat.le_of_ble_eq_true rfl) h2 (k_D_thrown h2.2.1) (fun w3 h3 => ?_)
  refine ev_iload dd_W_law_467 rfl ?_
  refine ev_icmp_eq dd_W_law_469 (fun _ => ?_) (fun hne => absurd ht hne)
  refine ev_iload dd_W_law_474 rfl ?_
  refine ev_if_ne dd_W_law_476 (fun _ => ?_) (fun hk0 => ?_)
  · refine ev_goto dd_W_law_491 ?_
    refine ev_loc5 (i0 := 0) (i1 := 1) (i2 := 2) (i3 := 3) (i4 := 4) rfl rfl rfl rfl rfl ?_
    exact kk _ _ h3
  · have e1 : o1 = ov := ho1 hk0
    rw [e1, he hk0] at h3
    refine ev_aload_n dd_W_law_479 rfl ?_
    refine ev_ic (v := 0) dd_W_law_480 (by decide +kernel) ?_
    refine L_ld dd_W_law_481 h3 ?_
    refine ev_iload dd_W_law_482 rfl ?_
    refine ev_i2l dd_W_law_484 ?_
    refine ev_lcmp dd_W_law_485 ?_
    refine ev_if_eq dd_W_law_486 (fun _ => ?_) (fun hne => absurd (lg_self _) hne)
    refine ev_goto dd_W_law_491 ?_
    refine ev_loc5 (i0 := 0) (i1 := 1) (i2 := 2) (i3 := 3) (i4 := 4) rfl rfl rfl rfl rfl ?_
    exact kk _ _ h3
theorem lc_of (hq : q0 < ev_b G) (hX : va_X bb Ls xs (ev_s0 G) (ev_s0 G).heap) (hbl : bb < ev_b G) (hL : Ls ≤ 2560) (hm : 5 * m + 5 ≤ Ls) (h : LW G q0 w C n D o) (hH : ev_E G mm_W_of (d + 14) 0 (lv_args 0 [.ref (ev_b G + cr_o 12 0), .int (xs (5 * m + 1)), .int (xs (5 * m + 2)), .int (xs (5 * m + 3)), .ref (ev_b G + 124)]) [] w (LY G q0 C' n' D kv ov)) (hRf : ∀ w1, rf_K G w1 D none w1 rf_Q0 → ev_E G mm_D_of (d + 14) 0 (lv_args 0 (.ref (ev_b G + 77) :: [.int (xs (5 * m + 1)), .int (xs (5 * m + 2)), .int (xs (5 * m + 3))])) [] w1 (rf_yi G w1 rf_Q0 none (rv, D'))) (ht : D'.1 0 0 = kv) (he : kv = 0 → ov = rv.toInt64) (kk : ∀ w' o', LW G q0 w' C' n' D' o' → ev_E G (mm_W hh) (d + 15) 890 (L5 G bb m) [] w' P) : ev_E G (mm_W hh) (d + 15) 494 (L5 G bb m) [] w P := by
  refine ev_aload_n dd_W_law_494 rfl ?_
  refine ev_aload_n dd_W_law_495 rfl ?_
  refine ev_iload dd_W_law_496 rfl ?_
  refine ev_ic (v := 1) dd_W_law_498 (by decide +kernel) ?_
  refine ev_iadd dd_W_law_499 ?_
  refine L_el (c := 1) hX hbl hL (by omega) dd_W_law_500 ?_
  refine ev_aload_n dd_W_law_501 rfl ?_
  refine ev_iload dd_W_law_502 rfl ?_
  refine ev_ic (v := 2) dd_W_law_504 (by decide +kernel) ?_
  refine ev_iadd dd_W_law_505 ?_
  refine L_el (c := 2) hX hbl hL (by omega) dd_W_law_506 ?_
  refine ev_aload_n dd_W_law_507 rfl ?_
  refine ev_iload dd_W_law_508 rfl ?_
  refine ev_ic (v := 3) dd_W_law_510 (by decide +kernel) ?_
  refine ev_iadd dd_W_law_511 ?_
  refine L_el (c := 3) hX hbl hL (by omega) dd_W_law_512 ?_
  refine ev_aload_n dd_W_law_513 rfl ?_
  refine L_s [.ref (ev_b G + cr_o 12 0), .int (xs (5 * m + 1)), .int (xs (5 * m + 2)), .int (xs (5 * m + 3)), .ref (ev_b G + 124)] dd_W_law_514 ms_W_of is_W_87 rfl (Nat.le_of_ble_eq_true rfl) (Nat.le_of_ble_eq_true rfl) hH (fun w1 o1 ho1 h1 => ?_)
  refine ev_istore dd_W_law_517 (Nat.le_of_ble_eq_true rfl) ?_
  refine ev_aload_n dd_W_law_519 rfl ?_
  refine ev_aload_n dd_W_law_520 rfl ?_
  refine ev_iload dd_W_law_521 rfl ?_
  refine ev_ic (v := 1) dd_W_law_523 (by decide +kernel) ?_
  refine ev_iadd dd_W_law_524 ?_
  refine L_el (c := 1) hX hbl hL (by omega) dd_W_law_525 ?_
  refine ev_aload_n dd_W_law_526 rfl ?_
  refine ev_iload dd_W_law_527 rfl ?_
  refine ev_ic (v := 2) dd_W_law_529 (by decide +kernel) ?_
  refine ev_iadd dd_W_law_530 ?_
  refine L_el (c := 2) hX hbl hL (by omega) dd_W_law_531 ?_
  refine ev_aload_n dd_W_law_532 rfl ?_
  refine ev_iload dd_W_law_533 rfl ?_
  refine ev_ic (v := 3) dd_W_law_535 (by decide +kernel) ?_
  refine ev_iadd dd_W_law_536 ?_
  refine L_el (c := 3) hX hbl hL (by omega) dd_W_law_537 ?_
  refine L_r [.int (xs (5 * m + 1)), .int (xs (5 * m + 2)), .int (xs (5 * m + 3))] hq dd_W_law_538 ms_D_of iv_W_89 rfl (Nat.le_of_ble_eq_true rfl) (Nat.le_of_ble_eq_true rfl) h1 (hRf w1 h1.2.1) (fun w2 h2 => ?_)
  refine ev_istore dd_W_law_541 (Nat.le_of_ble_eq_true rfl) ?_
  refine ev_aload_n dd_W_law_543 rfl ?_
  refine L_r [] (v := D'.1 0 0) (D' := D') hq dd_W_law_544 ms_D_thrown iv_W_65 rfl (Nat.le_of_ble_eq_true rfl) (Nat.le_of_ble_eq_true rfl) h2 (k_D_thrown h2.2.1) (fun w3 h3 => ?_)
  refine ev_iload dd_W_law_547 rfl ?_
  refine ev_icmp_eq dd_W_law_549 (fun _ => ?_) (fun hne => absurd ht hne)
  refine ev_iload dd_W_law_554 rfl ?_
  refine ev_if_ne dd_W_law_556 (fun _ => ?_) (fun hk0 => ?_)
  · refine ev_goto dd_W_law_571 ?_
    refine ev_loc5 (i0 := 0) (i1 := 1) (i2 := 2) (i3 := 3) (i4 := 4) rfl rfl rfl rfl rfl ?_
    exact kk _ _ h3
  · have e1 : o1 = ov := ho1 hk0
    rw [e1, he hk0] at h3
    refine ev_aload_n dd_W_law_559 rfl ?_
    refine ev_ic (v := 0) dd_W_law_560 (by decide +kernel) ?_
    refine L_ld dd_W_law_561 h3 ?_
    refine ev_iload dd_W_law_562 rfl ?_
    refine ev_i2l dd_W_law_564 ?_
    refine ev_lcmp dd_W_law_565 ?_
    refine ev_if_eq dd_W_law_566 (fun _ => ?_) (fun hne => absurd (lg_self _) hne)
    refine ev_goto dd_W_law_571 ?_
    refine ev_loc5 (i0 := 0) (i1 := 1) (i2 := 2) (i3 := 3) (i4 := 4) rfl rfl rfl rfl rfl ?_
    exact kk _ _ h3
theorem lc_link (hq : q0 < ev_b G) (hX : va_X bb Ls xs (ev_s0 G) (ev_s0 G).heap) (hbl : bb < ev_b G) (hL : Ls ≤ 2560) (hm : 5 * m + 5 ≤ Ls) (h : LW G q0 w C n D o) (hH : ev_E G mm_W_link (d + 14) 0 (lv_args 0 [.ref (ev_b G + cr_o 12 0), .int (xs (5 * m + 1)), .int (xs (5 * m + 2)), .ref (ev_b G + 124)]) [] w (LY G q0 C' n' D kv ov)) (hRf : ∀ w1, rf_K G w1 D none w1 rf_Q0 → ev_E G mm_D_link (d + 14) 0 (lv_args 0 (.ref (ev_b G + 77) :: [.int (xs (5 * m + 1)), .int (xs (5 * m + 2))])) [] w1 (rf_yi G w1 rf_Q0 none (rv, D'))) (ht : D'.1 0 0 = kv) (he : kv = 0 → ov = rv.toInt64) (kk : ∀ w' o', LW G q0 w' C' n' D' o' → ev_E G (mm_W hh) (d + 15) 890 (L5 G bb m) [] w' P) : ev_E G (mm_W hh) (d + 15) 574 (L5 G bb m) [] w P := by
  refine ev_aload_n dd_W_law_574 rfl ?_
  refine ev_aload_n dd_W_law_575 rfl ?_
  refine ev_iload dd_W_law_576 rfl ?_
  refine ev_ic (v := 1) dd_W_law_578 (by decide +kernel) ?_
  refine ev_iadd dd_W_law_579 ?_
  refine L_el (c := 1) hX hbl hL (by omega) dd_W_law_580 ?_
  refine ev_aload_n dd_W_law_581 rfl ?_
  refine ev_iload dd_W_law_582 rfl ?_
  refine ev_ic (v := 2) dd_W_law_584 (by decide +kernel) ?_
  refine ev_iadd dd_W_law_585 ?_
  refine L_el (c := 2) hX hbl hL (by omega) dd_W_law_586 ?_
  refine ev_aload_n dd_W_law_587 rfl ?_
  refine L_s [.ref (ev_b G + cr_o 12 0), .int (xs (5 * m + 1)), .int (xs (5 * m + 2)), .ref (ev_b G + 124)] dd_W_law_588 ms_W_link is_W_90 rfl (Nat.le_of_ble_eq_true rfl) (Nat.le_of_ble_eq_true rfl) hH (fun w1 o1 ho1 h1 => ?_)
  refine ev_istore dd_W_law_591 (Nat.le_of_ble_eq_true rfl) ?_
  refine ev_aload_n dd_W_law_593 rfl ?_
  refine ev_aload_n dd_W_law_594 rfl ?_
  refine ev_iload dd_W_law_595 rfl ?_
  refine ev_ic (v := 1) dd_W_law_597 (by decide +kernel) ?_
  refine ev_iadd dd_W_law_598 ?_
  refine L_el (c := 1) hX hbl hL (by omega) dd_W_law_599 ?_
  refine ev_aload_n dd_W_law_600 rfl ?_
  refine ev_iload dd_W_law_601 rfl ?_
  refine ev_ic (v := 2) dd_W_law_603 (by decide +kernel) ?_
  refine ev_iadd dd_W_law_604 ?_
  refine L_el (c := 2) hX hbl hL (by omega) dd_W_law_605 ?_
  refine L_r [.int (xs (5 * m + 1)), .int (xs (5 * m + 2))] hq dd_W_law_606 ms_D_link iv_W_92 rfl (Nat.le_of_ble_eq_true rfl) (Nat.le_of_ble_eq_true rfl) h1 (hRf w1 h1.2.1) (fun w2 h2 => ?_)
  refine ev_istore dd_W_law_609 (Nat.le_of_ble_eq_true rfl) ?_
  refine ev_aload_n dd_W_law_611 rfl ?_
  refine L_r [] (v := D'.1 0 0) (D' := D') hq dd_W_law_612 ms_D_thrown iv_W_65 rfl (Nat.le_of_ble_eq_true rfl) (Nat.le_of_ble_eq_true rfl) h2 (k_D_thrown h2.2.1) (fun w3 h3 => ?_)
  refine ev_iload dd_W_law_615 rfl ?_
  refine ev_icmp_eq dd_W_law_617 (fun _ => ?_) (fun hne => absurd ht hne)
  refine ev_iload dd_W_law_622 rfl ?_
  refine ev_if_ne dd_W_law_624 (fun _ => ?_) (fun hk0 => ?_)
  · refine ev_goto dd_W_law_639 ?_
    refine ev_loc5 (i0 := 0) (i1 := 1) (i2 := 2) (i3 := 3) (i4 := 4) rfl rfl rfl rfl rfl ?_
    exact kk _ _ h3
  · have e1 : o1 = ov := ho1 hk0
    rw [e1, he hk0] at h3
    refine ev_aload_n dd_W_law_627 rfl ?_
    refine ev_ic (v := 0) dd_W_law_628 (by decide +kernel) ?_
    refine L_ld dd_W_law_629 h3 ?_
    refine ev_iload dd_W_law_630 rfl ?_
    refine ev_i2l dd_W_law_632 ?_
    refine ev_lcmp dd_W_law_633 ?_
    refine ev_if_eq dd_W_law_634 (fun _ => ?_) (fun hne => absurd (lg_self _) hne)
    refine ev_goto dd_W_law_639 ?_
    refine ev_loc5 (i0 := 0) (i1 := 1) (i2 := 2) (i3 := 3) (i4 := 4) rfl rfl rfl rfl rfl ?_
    exact kk _ _ h3
theorem lc_changes (hq : q0 < ev_b G) (hX : va_X bb Ls xs (ev_s0 G) (ev_s0 G).heap) (hbl : bb < ev_b G) (hL : Ls ≤ 2560) (hm : 5 * m + 5 ≤ Ls) (h : LW G q0 w C n D o) (hH : ev_E G mm_W_changes (d + 14) 0 (lv_args 0 [.ref (ev_b G + cr_o 12 0), .int (xs (5 * m + 1)), .int (xs (5 * m + 2)), .ref (ev_b G + 124)]) [] w (LY G q0 C' n' D kv ov)) (hRf : ∀ w1, rf_K G w1 D none w1 rf_Q0 → ev_E G mm_D_changes (d + 14) 0 (lv_args 0 (.ref (ev_b G + 77) :: [.int (xs (5 * m + 1)), .int (xs (5 * m + 2))])) [] w1 (rf_yi G w1 rf_Q0 none (rv, D'))) (ht : D'.1 0 0 = kv) (he : kv = 0 → ov = rv.toInt64) (kk : ∀ w' o', LW G q0 w' C' n' D' o' → ev_E G (mm_W hh) (d + 15) 890 (L5 G bb m) [] w' P) : ev_E G (mm_W hh) (d + 15) 642 (L5 G bb m) [] w P := by
  refine ev_aload_n dd_W_law_642 rfl ?_
  refine ev_aload_n dd_W_law_643 rfl ?_
  refine ev_iload dd_W_law_644 rfl ?_
  refine ev_ic (v := 1) dd_W_law_646 (by decide +kernel) ?_
  refine ev_iadd dd_W_law_647 ?_
  refine L_el (c := 1) hX hbl hL (by omega) dd_W_law_648 ?_
  refine ev_aload_n dd_W_law_649 rfl ?_
  refine ev_iload dd_W_law_650 rfl ?_
  refine ev_ic (v := 2) dd_W_law_652 (by decide +kernel) ?_
  refine ev_iadd dd_W_law_653 ?_
  refine L_el (c := 2) hX hbl hL (by omega) dd_W_law_654 ?_
  refine ev_aload_n dd_W_law_655 rfl ?_
  refine L_s [.ref (ev_b G + cr_o 12 0), .int (xs (5 * m + 1)), .int (xs (5 * m + 2)), .ref (ev_b G + 124)] dd_W_law_656 ms_W_changes is_W_93 rfl (Nat.le_of_ble_eq_true rfl) (Nat.le_of_ble_eq_true rfl) hH (fun w1 o1 ho1 h1 => ?_)
  refine ev_istore dd_W_law_659 (Nat.le_of_ble_eq_true rfl) ?_
  refine ev_aload_n dd_W_law_661 rfl ?_
  refine ev_aload_n dd_W_law_662 rfl ?_
  refine ev_iload dd_W_law_663 rfl ?_
  refine ev_ic (v := 1) dd_W_law_665 (by decide +kernel) ?_
  refine ev_iadd dd_W_law_666 ?_
  refine L_el (c := 1) hX hbl hL (by omega) dd_W_law_667 ?_
  refine ev_aload_n dd_W_law_668 rfl ?_
  refine ev_iload dd_W_law_669 rfl ?_
  refine ev_ic (v := 2) dd_W_law_671 (by decide +kernel) ?_
  refine ev_iadd dd_W_law_672 ?_
  refine L_el (c := 2) hX hbl hL (by omega) dd_W_law_673 ?_
  refine L_r [.int (xs (5 * m + 1)), .int (xs (5 * m + 2))] hq dd_W_law_674 ms_D_changes iv_W_95 rfl (Nat.le_of_ble_eq_true rfl) (Nat.le_of_ble_eq_true rfl) h1 (hRf w1 h1.2.1) (fun w2 h2 => ?_)
  refine ev_istore dd_W_law_677 (Nat.le_of_ble_eq_true rfl) ?_
  refine ev_aload_n dd_W_law_679 rfl ?_
  refine L_r [] (v := D'.1 0 0) (D' := D') hq dd_W_law_680 ms_D_thrown iv_W_65 rfl (Nat.le_of_ble_eq_true rfl) (Nat.le_of_ble_eq_true rfl) h2 (k_D_thrown h2.2.1) (fun w3 h3 => ?_)
  refine ev_iload dd_W_law_683 rfl ?_
  refine ev_icmp_eq dd_W_law_685 (fun _ => ?_) (fun hne => absurd ht hne)
  refine ev_iload dd_W_law_690 rfl ?_
  refine ev_if_ne dd_W_law_692 (fun _ => ?_) (fun hk0 => ?_)
  · refine ev_goto dd_W_law_707 ?_
    refine ev_loc5 (i0 := 0) (i1 := 1) (i2 := 2) (i3 := 3) (i4 := 4) rfl rfl rfl rfl rfl ?_
    exact kk _ _ h3
  · have e1 : o1 = ov := ho1 hk0
    rw [e1, he hk0] at h3
    refine ev_aload_n dd_W_law_695 rfl ?_
    refine ev_ic (v := 0) dd_W_law_696 (by decide +kernel) ?_
    refine L_ld dd_W_law_697 h3 ?_
    refine ev_iload dd_W_law_698 rfl ?_
    refine ev_i2l dd_W_law_700 ?_
    refine ev_lcmp dd_W_law_701 ?_
    refine ev_if_eq dd_W_law_702 (fun _ => ?_) (fun hne => absurd (lg_self _) hne)
    refine ev_goto dd_W_law_707 ?_
    refine ev_loc5 (i0 := 0) (i1 := 1) (i2 := 2) (i3 := 3) (i4 := 4) rfl rfl rfl rfl rfl ?_
    exact kk _ _ h3
theorem lc_held (hq : q0 < ev_b G) (hX : va_X bb Ls xs (ev_s0 G) (ev_s0 G).heap) (hbl : bb < ev_b G) (hL : Ls ≤ 2560) (hm : 5 * m + 5 ≤ Ls) (h : LW G q0 w C n D o) (hH : ev_E G mm_W_held (d + 14) 0 (lv_args 0 [.ref (ev_b G + cr_o 12 0), .int (xs (5 * m + 1)), .ref (ev_b G + 124)]) [] w (LY G q0 C' n' D kv ov)) (hRf : ∀ w1, rf_K G w1 D none w1 rf_Q0 → ev_E G mm_D_held (d + 14) 0 (lv_args 0 (.ref (ev_b G + 77) :: [.int (xs (5 * m + 1))])) [] w1 (rf_yi G w1 rf_Q0 none (rv, D'))) (ht : D'.1 0 0 = kv) (he : kv = 0 → ov = rv.toInt64) (kk : ∀ w' o', LW G q0 w' C' n' D' o' → ev_E G (mm_W hh) (d + 15) 890 (L5 G bb m) [] w' P) : ev_E G (mm_W hh) (d + 15) 710 (L5 G bb m) [] w P := by
  refine ev_aload_n dd_W_law_710 rfl ?_
  refine ev_aload_n dd_W_law_711 rfl ?_
  refine ev_iload dd_W_law_712 rfl ?_
  refine ev_ic (v := 1) dd_W_law_714 (by decide +kernel) ?_
  refine ev_iadd dd_W_law_715 ?_
  refine L_el (c := 1) hX hbl hL (by omega) dd_W_law_716 ?_
  refine ev_aload_n dd_W_law_717 rfl ?_
  refine L_s [.ref (ev_b G + cr_o 12 0), .int (xs (5 * m + 1)), .ref (ev_b G + 124)] dd_W_law_718 ms_W_held is_W_96 rfl (Nat.le_of_ble_eq_true rfl) (Nat.le_of_ble_eq_true rfl) hH (fun w1 o1 ho1 h1 => ?_)
  refine ev_istore dd_W_law_721 (Nat.le_of_ble_eq_true rfl) ?_
  refine ev_aload_n dd_W_law_723 rfl ?_
  refine ev_aload_n dd_W_law_724 rfl ?_
  refine ev_iload dd_W_law_725 rfl ?_
  refine ev_ic (v := 1) dd_W_law_727 (by decide +kernel) ?_
  refine ev_iadd dd_W_law_728 ?_
  refine L_el (c := 1) hX hbl hL (by omega) dd_W_law_729 ?_
  refine L_r [.int (xs (5 * m + 1))] hq dd_W_law_730 ms_D_held iv_W_99 rfl (Nat.le_of_ble_eq_true rfl) (Nat.le_of_ble_eq_true rfl) h1 (hRf w1 h1.2.1) (fun w2 h2 => ?_)
  refine ev_istore dd_W_law_733 (Nat.le_of_ble_eq_true rfl) ?_
  refine ev_aload_n dd_W_law_735 rfl ?_
  refine L_r [] (v := D'.1 0 0) (D' := D') hq dd_W_law_736 ms_D_thrown iv_W_65 rfl (Nat.le_of_ble_eq_true rfl) (Nat.le_of_ble_eq_true rfl) h2 (k_D_thrown h2.2.1) (fun w3 h3 => ?_)
  refine ev_iload dd_W_law_739 rfl ?_
  refine ev_icmp_eq dd_W_law_741 (fun _ => ?_) (fun hne => absurd ht hne)
  refine ev_iload dd_W_law_746 rfl ?_
  refine ev_if_ne dd_W_law_748 (fun _ => ?_) (fun hk0 => ?_)
  · refine ev_goto dd_W_law_763 ?_
    refine ev_loc5 (i0 := 0) (i1 := 1) (i2 := 2) (i3 := 3) (i4 := 4) rfl rfl rfl rfl rfl ?_
    exact kk _ _ h3
  · have e1 : o1 = ov := ho1 hk0
    rw [e1, he hk0] at h3
    refine ev_aload_n dd_W_law_751 rfl ?_
    refine ev_ic (v := 0) dd_W_law_752 (by decide +kernel) ?_
    refine L_ld dd_W_law_753 h3 ?_
    refine ev_iload dd_W_law_754 rfl ?_
    refine ev_i2l dd_W_law_756 ?_
    refine ev_lcmp dd_W_law_757 ?_
    refine ev_if_eq dd_W_law_758 (fun _ => ?_) (fun hne => absurd (lg_self _) hne)
    refine ev_goto dd_W_law_763 ?_
    refine ev_loc5 (i0 := 0) (i1 := 1) (i2 := 2) (i3 := 3) (i4 := 4) rfl rfl rfl rfl rfl ?_
    exact kk _ _ h3
theorem lc_inbox (hq : q0 < ev_b G) (hX : va_X bb Ls xs (ev_s0 G) (ev_s0 G).heap) (hbl : bb < ev_b G) (hL : Ls ≤ 2560) (hm : 5 * m + 5 ≤ Ls) (h : LW G q0 w C n D o) (hH : ev_E G mm_W_inbox (d + 14) 0 (lv_args 0 [.ref (ev_b G + cr_o 12 0), .int (xs (5 * m + 1)), .ref (ev_b G + 124)]) [] w (LY G q0 C' n' D kv ov)) (hRf : ∀ w1, rf_K G w1 D none w1 rf_Q0 → ev_E G mm_D_inbox (d + 14) 0 (lv_args 0 (.ref (ev_b G + 77) :: [.int (xs (5 * m + 1))])) [] w1 (rf_yi G w1 rf_Q0 none (rv, D'))) (ht : D'.1 0 0 = kv) (he : kv = 0 → ov = rv.toInt64) (kk : ∀ w' o', LW G q0 w' C' n' D' o' → ev_E G (mm_W hh) (d + 15) 890 (L5 G bb m) [] w' P) : ev_E G (mm_W hh) (d + 15) 766 (L5 G bb m) [] w P := by
  refine ev_aload_n dd_W_law_766 rfl ?_
  refine ev_aload_n dd_W_law_767 rfl ?_
  refine ev_iload dd_W_law_768 rfl ?_
  refine ev_ic (v := 1) dd_W_law_770 (by decide +kernel) ?_
  refine ev_iadd dd_W_law_771 ?_
  refine L_el (c := 1) hX hbl hL (by omega) dd_W_law_772 ?_
  refine ev_aload_n dd_W_law_773 rfl ?_
  refine L_s [.ref (ev_b G + cr_o 12 0), .int (xs (5 * m + 1)), .ref (ev_b G + 124)] dd_W_law_774 ms_W_inbox is_W_100 rfl (Nat.le_of_ble_eq_true rfl) (Nat.le_of_ble_eq_true rfl) hH (fun w1 o1 ho1 h1 => ?_)
  refine ev_istore dd_W_law_777 (Nat.le_of_ble_eq_true rfl) ?_
  refine ev_aload_n dd_W_law_779 rfl ?_
  refine ev_aload_n dd_W_law_780 rfl ?_
  refine ev_iload dd_W_law_781 rfl ?_
  refine ev_ic (v := 1) dd_W_law_783 (by decide +kernel) ?_
  refine ev_iadd dd_W_law_784 ?_
  refine L_el (c := 1) hX hbl hL (by omega) dd_W_law_785 ?_
  refine L_r [.int (xs (5 * m + 1))] hq dd_W_law_786 ms_D_inbox iv_W_102 rfl (Nat.le_of_ble_eq_true rfl) (Nat.le_of_ble_eq_true rfl) h1 (hRf w1 h1.2.1) (fun w2 h2 => ?_)
  refine ev_istore dd_W_law_789 (Nat.le_of_ble_eq_true rfl) ?_
  refine ev_aload_n dd_W_law_791 rfl ?_
  refine L_r [] (v := D'.1 0 0) (D' := D') hq dd_W_law_792 ms_D_thrown iv_W_65 rfl (Nat.le_of_ble_eq_true rfl) (Nat.le_of_ble_eq_true rfl) h2 (k_D_thrown h2.2.1) (fun w3 h3 => ?_)
  refine ev_iload dd_W_law_795 rfl ?_
  refine ev_icmp_eq dd_W_law_797 (fun _ => ?_) (fun hne => absurd ht hne)
  refine ev_iload dd_W_law_802 rfl ?_
  refine ev_if_ne dd_W_law_804 (fun _ => ?_) (fun hk0 => ?_)
  · refine ev_goto dd_W_law_819 ?_
    refine ev_loc5 (i0 := 0) (i1 := 1) (i2 := 2) (i3 := 3) (i4 := 4) rfl rfl rfl rfl rfl ?_
    exact kk _ _ h3
  · have e1 : o1 = ov := ho1 hk0
    rw [e1, he hk0] at h3
    refine ev_aload_n dd_W_law_807 rfl ?_
    refine ev_ic (v := 0) dd_W_law_808 (by decide +kernel) ?_
    refine L_ld dd_W_law_809 h3 ?_
    refine ev_iload dd_W_law_810 rfl ?_
    refine ev_i2l dd_W_law_812 ?_
    refine ev_lcmp dd_W_law_813 ?_
    refine ev_if_eq dd_W_law_814 (fun _ => ?_) (fun hne => absurd (lg_self _) hne)
    refine ev_goto dd_W_law_819 ?_
    refine ev_loc5 (i0 := 0) (i1 := 1) (i2 := 2) (i3 := 3) (i4 := 4) rfl rfl rfl rfl rfl ?_
    exact kk _ _ h3
theorem lc_take {rl : Int64} (hq : q0 < ev_b G) (hX : va_X bb Ls xs (ev_s0 G) (ev_s0 G).heap) (hbl : bb < ev_b G) (hL : Ls ≤ 2560) (hm : 5 * m + 5 ≤ Ls) (h : LW G q0 w C n D o) (hH : ev_E G mm_W_take (d + 14) 0 (lv_args 0 [.ref (ev_b G + cr_o 12 0), .int (xs (5 * m + 1)), .ref (ev_b G + 124)]) [] w (LY G q0 C' n' D kv ov)) (hRf : ∀ w1, rf_K G w1 D none w1 rf_Q0 → ev_E G mm_D_take (d + 14) 0 (lv_args 0 (.ref (ev_b G + 77) :: [.int (xs (5 * m + 1))])) [] w1 (rf_yl G w1 (rl, D'))) (ht : D'.1 0 0 = kv) (he : kv = 0 → ov = rl) (kk : ∀ w' o', LW G q0 w' C' n' D' o' → ev_E G (mm_W hh) (d + 15) 890 (L5 G bb m) [] w' P) : ev_E G (mm_W hh) (d + 15) 822 (L5 G bb m) [] w P := by
  refine ev_aload_n dd_W_law_822 rfl ?_
  refine ev_aload_n dd_W_law_823 rfl ?_
  refine ev_iload dd_W_law_824 rfl ?_
  refine ev_ic (v := 1) dd_W_law_826 (by decide +kernel) ?_
  refine ev_iadd dd_W_law_827 ?_
  refine L_el (c := 1) hX hbl hL (by omega) dd_W_law_828 ?_
  refine ev_aload_n dd_W_law_829 rfl ?_
  refine L_s [.ref (ev_b G + cr_o 12 0), .int (xs (5 * m + 1)), .ref (ev_b G + 124)] dd_W_law_830 ms_W_take is_W_103 rfl (Nat.le_of_ble_eq_true rfl) (Nat.le_of_ble_eq_true rfl) hH (fun w1 o1 ho1 h1 => ?_)
  refine ev_istore dd_W_law_833 (Nat.le_of_ble_eq_true rfl) ?_
  refine ev_aload_n dd_W_law_835 rfl ?_
  refine ev_aload_n dd_W_law_836 rfl ?_
  refine ev_iload dd_W_law_837 rfl ?_
  refine ev_ic (v := 1) dd_W_law_839 (by decide +kernel) ?_
  refine ev_iadd dd_W_law_840 ?_
  refine L_el (c := 1) hX hbl hL (by omega) dd_W_law_841 ?_
  refine L_rL [.int (xs (5 * m + 1))] hq dd_W_law_842 ms_D_take iv_W_105 rfl (Nat.le_of_ble_eq_true rfl) (Nat.le_of_ble_eq_true rfl) h1 (hRf w1 h1.2.1) (fun w2 h2 => ?_)
  refine ev_lstore dd_W_law_845 (Nat.le_of_ble_eq_true rfl) ?_
  refine ev_aload_n dd_W_law_847 rfl ?_
  refine L_r [] (v := D'.1 0 0) (D' := D') hq dd_W_law_848 ms_D_thrown iv_W_65 rfl (Nat.le_of_ble_eq_true rfl) (Nat.le_of_ble_eq_true rfl) h2 (k_D_thrown h2.2.1) (fun w3 h3 => ?_)
  refine ev_iload dd_W_law_851 rfl ?_
  refine ev_icmp_eq dd_W_law_853 (fun _ => ?_) (fun hne => absurd ht hne)
  refine ev_iload dd_W_law_858 rfl ?_
  refine ev_if_ne dd_W_law_860 (fun _ => ?_) (fun hk0 => ?_)
  · refine ev_goto dd_W_law_874 ?_
    refine ev_loc5 (i0 := 0) (i1 := 1) (i2 := 2) (i3 := 3) (i4 := 4) rfl rfl rfl rfl rfl ?_
    exact kk _ _ h3
  · have e1 : o1 = ov := ho1 hk0
    rw [e1, he hk0] at h3
    refine ev_aload_n dd_W_law_863 rfl ?_
    refine ev_ic (v := 0) dd_W_law_864 (by decide +kernel) ?_
    refine L_ld dd_W_law_865 h3 ?_
    refine ev_lload dd_W_law_866 rfl ?_
    refine ev_lcmp dd_W_law_868 ?_
    refine ev_if_eq dd_W_law_869 (fun _ => ?_) (fun hne => absurd (lg_self _) hne)
    refine ev_goto dd_W_law_874 ?_
    refine ev_loc5 (i0 := 0) (i1 := 1) (i2 := 2) (i3 := 3) (i4 := 4) rfl rfl rfl rfl rfl ?_
    exact kk _ _ h3
theorem lc_tick (hq : q0 < ev_b G) (h : LW G q0 w C n D o) (hc : ev_E G mm_P_tick (d + 14) 0 (lv_args 0 (.ref (ev_b G + cr_o 12 0) :: [])) [] w (cr_yi G q0 n' w Q00 (kv, C'))) (hRf : ∀ w1, rf_K G w1 D none w1 rf_Q0 → ev_E G mm_D_tick (d + 14) 0 (lv_args 0 (.ref (ev_b G + 77) :: [])) [] w1 (rf_yi G w1 rf_Q0 none (rv, D'))) (he : kv = rv) (kk : ∀ w' o', LW G q0 w' C' n' D' o' → ev_E G (mm_W hh) (d + 15) 890 (L5 G bb m) [] w' P) : ev_E G (mm_W hh) (d + 15) 413 (L5 G bb m) [] w P := by
  refine ev_aload_n dd_W_law_413 rfl ?_
  refine L_v [] dd_W_law_414 ms_P_tick iv_W_80 rfl (Nat.le_of_ble_eq_true rfl) (Nat.le_of_ble_eq_true rfl) h hc (fun w1 h1 => ?_)
  refine ev_aload_n dd_W_law_417 rfl ?_
  refine L_r [] hq dd_W_law_418 ms_D_tick iv_W_83 rfl (Nat.le_of_ble_eq_true rfl) (Nat.le_of_ble_eq_true rfl) h1 (hRf w1 h1.2.1) (fun w2 h2 => ?_)
  refine ev_icmp_eq dd_W_law_421 (fun _ => ?_) (fun hne => absurd he hne)
  exact kk _ _ h2
theorem lc_lost (hq : q0 < ev_b G) (h : LW G q0 w C n D o) (hc : ev_E G mm_P_lost (d + 14) 0 (lv_args 0 (.ref (ev_b G + cr_o 12 0) :: [])) [] w (cr_yi G q0 n' w Q00 (kv, C'))) (hRf : ∀ w1, rf_K G w1 D none w1 rf_Q0 → ev_E G mm_D_lost (d + 14) 0 (lv_args 0 (.ref (ev_b G + 77) :: [])) [] w1 (rf_yi G w1 rf_Q0 none (rv, D'))) (he : kv = rv) (kk : ∀ w' o', LW G q0 w' C' n' D' o' → ev_E G (mm_W hh) (d + 15) 890 (L5 G bb m) [] w' P) : ev_E G (mm_W hh) (d + 15) 877 (L5 G bb m) [] w P := by
  refine ev_aload_n dd_W_law_877 rfl ?_
  refine L_v [] dd_W_law_878 ms_P_lost iv_W_106 rfl (Nat.le_of_ble_eq_true rfl) (Nat.le_of_ble_eq_true rfl) h hc (fun w1 h1 => ?_)
  refine ev_aload_n dd_W_law_881 rfl ?_
  refine L_r [] hq dd_W_law_882 ms_D_lost iv_W_109 rfl (Nat.le_of_ble_eq_true rfl) (Nat.le_of_ble_eq_true rfl) h1 (hRf w1 h1.2.1) (fun w2 h2 => ?_)
  refine ev_icmp_eq dd_W_law_885 (fun _ => ?_) (fun hne => absurd he hne)
  exact kk _ _ h2
end Law2
