/-! the reference: a serving side is served -/
theorem ms_and7 (x : Int32) : x &&& 7 = Int32.ofNat (cr_f8 x) := by
  apply Int32.toBitVec_inj.mp
  apply BitVec.eq_of_toNat_eq
  show (x.toBitVec &&& 7#32).toNat = (BitVec.ofNat 32 (cr_f8 x)).toNat
  have h1 : x.toBitVec.toNat &&& 7 = x.toBitVec.toNat % 8 := Nat.and_two_pow_sub_one_eq_mod x.toBitVec.toNat 3
  rw [BitVec.toNat_and]
  show x.toBitVec.toNat &&& 7 = (BitVec.ofNat 32 (cr_f8 x)).toNat
  rw [h1, BitVec.toNat_ofNat]
  unfold cr_f8
  have h2 : x.toInt = x.toBitVec.toInt := rfl
  have h3 := BitVec.toInt_eq_toNat_cond x.toBitVec
  have h4 := x.toBitVec.isLt
  rw [h2, h3]
  split <;> omega
def rs_good (D : rf_C) (s : Nat) : rf_C := if (rf_sI D 24 s (D.1 24 s + 1)).1 24 s = 8 then rf_sI (rf_sI (rf_sI D 24 s (D.1 24 s + 1)) 24 s 0) 23 s (if D.1 23 s ≤ 0 then 0 else D.1 23 s - 1) else rf_sI D 24 s (D.1 24 s + 1)
def rf_dn (D : rf_C) (s t : Nat) : Nat := cr_f8 (D.1 36 t - ((D.1 17 s - Int32.ofNat (D.2 s).length) &&& 7))
def rs_odd (D : rf_C) (s : Nat) : rf_C := if (rf_sI D 26 s (D.1 26 s + 1)).1 26 s = 2 then rs_D_fall (rf_sI D 26 s (D.1 26 s + 1)) s else rf_sI D 26 s (D.1 26 s + 1)
def rs_sv1 (D : rf_C) (s n : Nat) : rf_C := rf_sI (rf_sI D 26 s 0) 25 s (if Int32.ofNat n ≤ 0 then D.1 25 s else 0)
def rs_sv2 (D : rf_C) (s n : Nat) : rf_C := rf_sX D s ((D.2 s).drop n)
def rs_sv3 (D : rf_C) (s n : Nat) : rf_C := rf_sI D 27 s (if D.1 27 s ≤ Int32.ofNat n then 0 else D.1 27 s - Int32.ofNat n)
def rs_sv4 (D : rf_C) (s t : Nat) : rf_C := if D.1 37 t = D.1 19 s then D else rf_sI (rf_sI D 19 s (D.1 37 t)) 27 s 0
def rs_svB (D : rf_C) (s t : Nat) : rf_C := if D.1 34 t = D.1 18 s then D else rf_sI D 20 s (1 - D.1 20 s)
def rs_sv5 (D : rf_C) (l e t : Nat) : rf_C := if D.1 35 t = D.1 20 (2 * l + e) then (if D.1 32 t = 5 then (if D.1 34 t = (D.1 18 (2 * l + e) + 1) &&& 7 then rs_isTaken (rf_sI D 18 (2 * l + e) (D.1 34 t)) e t else rs_svB D (2 * l + e) t) else rs_svB D (2 * l + e) t) else D
def rs_svP (D : rf_C) (l e t : Nat) : rf_C := rs_sv4 (rs_sv3 (rs_sv2 (rs_sv1 D (2 * l + e) (rf_dn D (2 * l + e) t)) (2 * l + e) (rf_dn D (2 * l + e) t)) (2 * l + e) (rf_dn D (2 * l + e) t)) (2 * l + e) t
def rs_sv0 (D : rf_C) (l e t : Nat) : rf_C := if Int32.ofNat (rf_dn D (2 * l + e) t) ≤ Int32.ofNat (D.2 (2 * l + e)).length then rs_sv5 (rs_svP D l e t) l e t else rs_odd D (2 * l + e)
def rs_served (D : rf_C) (l e t : Nat) : rf_C := rs_sv0 (rs_good D (2 * l + e)) l e t
section RgB
variable {G : ev_gx} {M : ev_mx} {d pc pc' tgt : Nat} {L : List (Nat × Value)} {st : List Value} {w w1 F : ev_wd} {P : ev_r → ev_wd → Prop} {D D' : rf_C} {H : Option (Nat × rf_m)} {Q : Nat → rf_m → Prop}
theorem k_D_sv5 {l e t : Nat} {L : List (Nat × Value)} (hl : l < 3) (he : e < 2) (ht : t < 6) (l0 : L.lookup 0 = some (.ref (ev_b G + 77))) (l1 : L.lookup 1 = some (.int (Int32.ofNat (2 * l + e)))) (l2 : L.lookup 2 = some (.int (Int32.ofNat t))) (hk : D.1 32 t = 5 → rf_tk (rf_sI D 18 (2 * l + e) (D.1 34 t)) e t) (h : rf_K G w D none F rf_Q0) : ev_E G mm_D_served (d + 5) 239 L [] w (rf_yv G F rf_Q0 none (rs_sv5 D l e t)) := by
  have hs : 2 * l + e < 6 := by omega
  refine ev_loc3 (i0 := 0) (i1 := 1) (i2 := 2) l0 l1 l2 ?_
  unfold rs_sv5
  have fB : ev_E G mm_D_served (d + 5) 305 [(0, .ref (ev_b G + 77)), (1, .int (Int32.ofNat (2 * l + e))), (2, .int (Int32.ofNat t))] [] w (rf_yv G F rf_Q0 none (rs_svB D (2 * l + e) t)) := by
    unfold rs_svB
    refine ev_aload_n dd_D_served_305 rfl ?_
    refine R_gA (k := 34) dd_D_served_306 fr_D_108 h rfl ?_
    refine ev_iload_n dd_D_served_309 rfl ?_
    refine R_ld (k := 34) (j := t) dd_D_served_310 h rfl (show t < 6 by omega) ?_
    refine ev_aload_n dd_D_served_311 rfl ?_
    refine R_gA (k := 18) dd_D_served_312 fr_D_60 h rfl ?_
    refine ev_iload_n dd_D_served_315 rfl ?_
    refine R_ld (k := 18) (j := 2 * l + e) dd_D_served_316 h rfl (show 2 * l + e < 6 by omega) ?_
    refine ev_icmp_eq dd_D_served_317 (fun c => ?_) (fun c => ?_)
    · rw [if_pos c]
      refine ev_vret dd_D_served_334 rfl ?_
      exact ⟨rfl, h⟩
    · rw [if_neg c]
      refine ev_aload_n dd_D_served_320 rfl ?_
      refine R_gA (k := 20) dd_D_served_321 fr_D_66 h rfl ?_
      refine ev_iload_n dd_D_served_324 rfl ?_
      refine ev_ic (v := 1) dd_D_served_325 (by decide +kernel) ?_
      refine ev_aload_n dd_D_served_326 rfl ?_
      refine R_gA (k := 20) dd_D_served_327 fr_D_66 h rfl ?_
      refine ev_iload_n dd_D_served_330 rfl ?_
      refine R_ld (k := 20) (j := 2 * l + e) dd_D_served_331 h rfl (show 2 * l + e < 6 by omega) ?_
      refine ev_isub dd_D_served_332 ?_
      refine R_st (k := 20) (j := 2 * l + e) dd_D_served_333 h rfl (show 2 * l + e < 6 by omega) (fun w1 h1 => ?_)
      refine ev_vret dd_D_served_334 rfl ?_
      exact ⟨rfl, h1⟩
  refine ev_aload_n dd_D_served_239 rfl ?_
  refine R_gA (k := 35) dd_D_served_240 fr_D_111 h rfl ?_
  refine ev_iload_n dd_D_served_243 rfl ?_
  refine R_ld (k := 35) (j := t) dd_D_served_244 h rfl (show t < 6 by omega) ?_
  refine ev_aload_n dd_D_served_245 rfl ?_
  refine R_gA (k := 20) dd_D_served_246 fr_D_66 h rfl ?_
  refine ev_iload_n dd_D_served_249 rfl ?_
  refine R_ld (k := 20) (j := 2 * l + e) dd_D_served_250 h rfl (show 2 * l + e < 6 by omega) ?_
  refine ev_icmp_ne dd_D_served_251 (fun c => ?_) (fun c => ?_)
  · rw [if_neg c]
    refine ev_vret dd_D_served_334 rfl ?_
    exact ⟨rfl, h⟩
  · rw [if_pos c]
    refine ev_aload_n dd_D_served_254 rfl ?_
    refine R_gA (k := 32) dd_D_served_255 fr_D_102 h rfl ?_
    refine ev_iload_n dd_D_served_258 rfl ?_
    refine R_ld (k := 32) (j := t) dd_D_served_259 h rfl (show t < 6 by omega) ?_
    refine ev_ic (v := 5) dd_D_served_260 (by decide +kernel) ?_
    refine ev_icmp_ne dd_D_served_261 (fun c2 => ?_) (fun c2 => ?_)
    · rw [if_neg c2]
      exact fB
    · rw [if_pos c2]
      refine ev_aload_n dd_D_served_264 rfl ?_
      refine R_gA (k := 34) dd_D_served_265 fr_D_108 h rfl ?_
      refine ev_iload_n dd_D_served_268 rfl ?_
      refine R_ld (k := 34) (j := t) dd_D_served_269 h rfl (show t < 6 by omega) ?_
      refine ev_aload_n dd_D_served_270 rfl ?_
      refine R_gA (k := 18) dd_D_served_271 fr_D_60 h rfl ?_
      refine ev_iload_n dd_D_served_274 rfl ?_
      refine R_ld (k := 18) (j := 2 * l + e) dd_D_served_275 h rfl (show 2 * l + e < 6 by omega) ?_
      refine ev_ic (v := 1) dd_D_served_276 (by decide +kernel) ?_
      refine ev_iadd dd_D_served_277 ?_
      refine ev_bp (v := 7) dd_D_served_278 (by decide +kernel) ?_
      refine ev_iand dd_D_served_280 ?_
      refine ev_icmp_ne dd_D_served_281 (fun c3 => ?_) (fun c3 => ?_)
      · rw [if_neg c3]
        exact fB
      · rw [if_pos c3]
        refine ev_aload_n dd_D_served_284 rfl ?_
        refine R_gA (k := 18) dd_D_served_285 fr_D_60 h rfl ?_
        refine ev_iload_n dd_D_served_288 rfl ?_
        refine ev_aload_n dd_D_served_289 rfl ?_
        refine R_gA (k := 34) dd_D_served_290 fr_D_108 h rfl ?_
        refine ev_iload_n dd_D_served_293 rfl ?_
        refine R_ld (k := 34) (j := t) dd_D_served_294 h rfl (show t < 6 by omega) ?_
        refine R_st (k := 18) (j := 2 * l + e) dd_D_served_295 h rfl (show 2 * l + e < 6 by omega) (fun w1 h1 => ?_)
        refine ev_aload_n dd_D_served_296 rfl ?_
        refine ev_iload_n dd_D_served_297 rfl ?_
        refine ev_iload_n dd_D_served_298 rfl ?_
        refine ev_callvV2 [_, _] dd_D_served_299 ms_D_isTaken iv_D_227 h1.ob h1.tg rfl (Nat.le_of_ble_eq_true rfl) (Nat.le_of_ble_eq_true rfl) (k_D_isTaken (D := rf_sI D 18 (2 * l + e) (D.1 34 t)) hl he ht (hk c2) h1) (fun w2 h2 => ?_)
        refine ev_goto dd_D_served_302 ?_
        refine ev_vret dd_D_served_334 rfl ?_
        exact ⟨rfl, h2⟩
theorem k_D_svd {s t n : Nat} (hs : s < 6) (hn : n < 8) : ∀ (j i : Nat) (D : rf_C) (w : ev_wd), i + j = n → j ≤ (D.2 s).length → rf_K G w D none F rf_Q0 → (∀ w1, rf_K G w1 (rf_sX D s ((D.2 s).drop j)) none F rf_Q0 → ev_E G mm_D_served (d + 1) 175 [(0, .ref (ev_b G + 77)), (1, .int (Int32.ofNat s)), (2, .int (Int32.ofNat t)), (4, .int (Int32.ofNat n))] [] w1 P) →
    ev_E G mm_D_served (d + 1) 153 [(0, .ref (ev_b G + 77)), (1, .int (Int32.ofNat s)), (2, .int (Int32.ofNat t)), (4, .int (Int32.ofNat n)), (5, .int (Int32.ofNat i))] [] w P := by
  have hr : s < 22 := by omega
  intro j
  induction j with
  | zero =>
    intro i D w hi hj h kk
    refine ev_iload dd_D_served_153 rfl ?_
    refine ev_iload dd_D_served_155 rfl ?_
    refine ev_icmp_ge dd_D_served_157 (fun _ => ?_) (fun c => absurd (nI_le (by omega) (by omega)) c)
    refine ev_loc4 (i0 := 0) (i1 := 1) (i2 := 2) (i3 := 4) rfl rfl rfl rfl ?_
    refine kk w ?_
    rw [List.drop_zero, rf_sX_same]
    exact h
  | succ j ih =>
    intro i D w hi hj h kk
    rcases hz : D.2 s with _ | ⟨μ, zs⟩
    · rw [hz] at hj
      exact absurd hj (by rw [List.length_nil]; omega)
    refine ev_iload dd_D_served_153 rfl ?_
    refine ev_iload dd_D_served_155 rfl ?_
    refine ev_icmp_ge dd_D_served_157 (fun c => absurd c (nI_ge (by omega) (by omega))) (fun _ => ?_)
    refine ev_aload_n dd_D_served_160 rfl ?_
    refine ev_aload_n dd_D_served_161 rfl ?_
    refine ev_iload_n dd_D_served_162 rfl ?_
    refine ev_callv [.int (Int32.ofNat s)] dd_D_served_163 ms_D_shift iv_D_163 h.ob h.tg rfl (Nat.le_of_ble_eq_true rfl) (Nat.le_of_ble_eq_true rfl) (k_D_shift hr hz h) (fun v w1 hp _ _ => ?_) (fun x w3 hp _ _ => by obtain ⟨y, h1, -⟩ := hp; cases h1)
    obtain ⟨m, h1, -, h2⟩ := hp
    cases h1
    refine ev_callvV2 [_] dd_D_served_166 ms_D_give iv_D_167 h2.ob h2.tg rfl (Nat.le_of_ble_eq_true rfl) (Nat.le_of_ble_eq_true rfl) (k_D_give h2) (fun w3 h3 => ?_)
    refine ev_iinc dd_D_served_169 rfl (by decide) ?_
    refine ev_goto dd_D_served_172 ?_
    refine ev_loc5 (i0 := 0) (i1 := 1) (i2 := 2) (i3 := 4) (i4 := 5) rfl rfl rfl rfl (v4 := .int (Int32.ofNat (i + 1))) (by rw [show Int32.ofNat (i + 1) = Int32.ofNat i + Int32.ofInt 1 by rw [inc_ofNat]; rfl]; rfl) ?_
    refine ih (i + 1) _ w3 (by omega) (by rw [rf_sX_at]; rw [hz, List.length_cons] at hj; omega) h3 (fun w4 h4 => kk w4 ?_)
    rw [rf_sX_at, rf_sX_two] at h4
    rw [hz]
    exact h4
theorem k_D_sv0 {l e t : Nat} {L : List (Nat × Value)} (hl : l < 3) (he : e < 2) (ht : t < 6) (l0 : L.lookup 0 = some (.ref (ev_b G + 77))) (l1 : L.lookup 1 = some (.int (Int32.ofNat (2 * l + e)))) (l2 : L.lookup 2 = some (.int (Int32.ofNat t))) (hu : rf_hu D (2 * l + e)) (hk : (rs_svP D l e t).1 32 t = 5 → rf_tk (rf_sI (rs_svP D l e t) 18 (2 * l + e) ((rs_svP D l e t).1 34 t)) e t) (h : rf_K G w D none F rf_Q0) : ev_E G mm_D_served (d + 5) 55 L [] w (rf_yv G F rf_Q0 none (rs_sv0 D l e t)) := by
  have hs : 2 * l + e < 6 := by omega
  have hlen := h.len (show 2 * l + e < 22 by omega)
  have hn8 : rf_dn D (2 * l + e) t < 8 := cr_f8lt _
  refine ev_loc3 (i0 := 0) (i1 := 1) (i2 := 2) l0 l1 l2 ?_
  unfold rs_sv0
  refine ev_aload_n dd_D_served_55 rfl ?_
  refine R_gA (k := 17) dd_D_served_56 fr_D_57 h rfl ?_
  refine ev_iload_n dd_D_served_59 rfl ?_
  refine R_ld (k := 17) (j := 2 * l + e) dd_D_served_60 h rfl (show 2 * l + e < 6 by omega) ?_
  refine ev_aload_n dd_D_served_61 rfl ?_
  refine R_gA (k := 11) dd_D_served_62 fr_D_38 h rfl ?_
  refine ev_iload_n dd_D_served_65 rfl ?_
  refine R_sz (r := 2 * l + e) dd_D_served_66 h (by omega) ?_
  refine ev_isub dd_D_served_67 ?_
  refine ev_bp (v := 7) dd_D_served_68 (by decide +kernel) ?_
  refine ev_iand dd_D_served_70 ?_
  refine ev_istore_n dd_D_served_71 (by decide) ?_
  refine ev_aload_n dd_D_served_72 rfl ?_
  refine R_gA (k := 36) dd_D_served_73 fr_D_114 h rfl ?_
  refine ev_iload_n dd_D_served_76 rfl ?_
  refine R_ld (k := 36) (j := t) dd_D_served_77 h rfl (show t < 6 by omega) ?_
  refine ev_iload_n dd_D_served_78 rfl ?_
  refine ev_isub dd_D_served_79 ?_
  refine ev_bp (v := 7) dd_D_served_80 (by decide +kernel) ?_
  refine ev_iand dd_D_served_82 ?_
  rw [ms_and7 (D.1 36 t - _), show cr_f8 (D.1 36 t - ((D.1 17 (2 * l + e) - Int32.ofNat (D.2 (2 * l + e)).length) &&& 7)) = rf_dn D (2 * l + e) t from rfl]
  refine ev_istore dd_D_served_83 (by decide) ?_
  refine ev_iload dd_D_served_85 rfl ?_
  refine ev_aload_n dd_D_served_87 rfl ?_
  refine R_gA (k := 11) dd_D_served_88 fr_D_38 h rfl ?_
  refine ev_iload_n dd_D_served_91 rfl ?_
  refine R_sz (r := 2 * l + e) dd_D_served_92 h (by omega) ?_
  refine ev_icmp_le dd_D_served_93 (fun c => ?_) (fun c => ?_)
  · rw [if_pos c]
    have hle : rf_dn D (2 * l + e) t ≤ (D.2 (2 * l + e)).length := (nI_leI (by omega) (by omega)).mp c
    unfold rs_svP at hk ⊢
    generalize rf_dn D (2 * l + e) t = n at *
    refine ev_aload_n dd_D_served_122 rfl ?_
    refine R_gA (k := 26) dd_D_served_123 fr_D_84 h rfl ?_
    refine ev_iload_n dd_D_served_126 rfl ?_
    refine ev_ic (v := 0) dd_D_served_127 (by decide +kernel) ?_
    refine R_st (k := 26) (j := 2 * l + e) dd_D_served_128 h rfl (show 2 * l + e < 6 by omega) (fun w1 h1 => ?_)
    have step : ∀ (w2 : ev_wd) (L : List (Nat × Value)), L.lookup 0 = some (.ref (ev_b G + 77)) → L.lookup 1 = some (.int (Int32.ofNat (2 * l + e))) → L.lookup 2 = some (.int (Int32.ofNat t)) → L.lookup 4 = some (.int (Int32.ofNat n)) → rf_K G w2 (rs_sv1 D (2 * l + e) n) none F rf_Q0 → ev_E G mm_D_served (d + 5) 150 L [] w2 (rf_yv G F rf_Q0 none (rs_sv5 (rs_sv4 (rs_sv3 (rs_sv2 (rs_sv1 D (2 * l + e) n) (2 * l + e) n) (2 * l + e) n) (2 * l + e) t) l e t)) := by
      intro w2 L m0 m1 m2 m4 h2
      have hx : (rs_sv1 D (2 * l + e) n).2 (2 * l + e) = D.2 (2 * l + e) := rfl
      refine ev_loc4 (i0 := 0) (i1 := 1) (i2 := 2) (i3 := 4) m0 m1 m2 m4 ?_
      generalize rs_sv1 D (2 * l + e) n = D1 at *
      refine ev_ic (v := 0) dd_D_served_150 (by decide +kernel) ?_
      refine ev_istore dd_D_served_151 (by decide) ?_
      refine ev_loc5 (i0 := 0) (i1 := 1) (i2 := 2) (i3 := 4) (i4 := 5) rfl rfl rfl rfl (v4 := .int (Int32.ofNat 0)) rfl ?_
      refine k_D_svd hs hn8 n 0 D1 w2 (by omega) (by rw [hx]; exact hle) h2 (fun w3 h3' => ?_)
      have h3 : rf_K G w3 (rs_sv2 D1 (2 * l + e) n) none F rf_Q0 := h3'
      generalize rs_sv2 D1 (2 * l + e) n = D2 at *
      have step2 : ∀ (w4 : ev_wd) (L : List (Nat × Value)), L.lookup 0 = some (.ref (ev_b G + 77)) → L.lookup 1 = some (.int (Int32.ofNat (2 * l + e))) → L.lookup 2 = some (.int (Int32.ofNat t)) → rf_K G w4 (rs_sv3 D2 (2 * l + e) n) none F rf_Q0 → ev_E G mm_D_served (d + 5) 205 L [] w4 (rf_yv G F rf_Q0 none (rs_sv5 (rs_sv4 (rs_sv3 D2 (2 * l + e) n) (2 * l + e) t) l e t)) := by
        intro w4 L p0 p1 p2 h4
        refine ev_loc3 (i0 := 0) (i1 := 1) (i2 := 2) p0 p1 p2 ?_
        generalize rs_sv3 D2 (2 * l + e) n = D3 at *
        unfold rs_sv4 at hk ⊢
        refine ev_aload_n dd_D_served_205 rfl ?_
        refine R_gA (k := 37) dd_D_served_206 fr_D_117 h4 rfl ?_
        refine ev_iload_n dd_D_served_209 rfl ?_
        refine R_ld (k := 37) (j := t) dd_D_served_210 h4 rfl (show t < 6 by omega) ?_
        refine ev_aload_n dd_D_served_211 rfl ?_
        refine R_gA (k := 19) dd_D_served_212 fr_D_63 h4 rfl ?_
        refine ev_iload_n dd_D_served_215 rfl ?_
        refine R_ld (k := 19) (j := 2 * l + e) dd_D_served_216 h4 rfl (show 2 * l + e < 6 by omega) ?_
        refine ev_icmp_eq dd_D_served_217 (fun c4 => ?_) (fun c4 => ?_)
        · rw [if_pos c4] at hk ⊢
          exact k_D_sv5 hl he ht rfl rfl rfl hk h4
        · rw [if_neg c4] at hk ⊢
          refine ev_aload_n dd_D_served_220 rfl ?_
          refine R_gA (k := 19) dd_D_served_221 fr_D_63 h4 rfl ?_
          refine ev_iload_n dd_D_served_224 rfl ?_
          refine ev_aload_n dd_D_served_225 rfl ?_
          refine R_gA (k := 37) dd_D_served_226 fr_D_117 h4 rfl ?_
          refine ev_iload_n dd_D_served_229 rfl ?_
          refine R_ld (k := 37) (j := t) dd_D_served_230 h4 rfl (show t < 6 by omega) ?_
          refine R_st (k := 19) (j := 2 * l + e) dd_D_served_231 h4 rfl (show 2 * l + e < 6 by omega) (fun w5 h5 => ?_)
          refine ev_aload_n dd_D_served_232 rfl ?_
          refine R_gA (k := 27) dd_D_served_233 fr_D_87 h5 rfl ?_
          refine ev_iload_n dd_D_served_236 rfl ?_
          refine ev_ic (v := 0) dd_D_served_237 (by decide +kernel) ?_
          refine R_st (k := 27) (j := 2 * l + e) dd_D_served_238 h5 rfl (show 2 * l + e < 6 by omega) (fun w6 h6 => ?_)
          exact k_D_sv5 hl he ht rfl rfl rfl hk h6
      refine ev_aload_n dd_D_served_175 rfl ?_
      refine R_gA (k := 27) dd_D_served_176 fr_D_87 h3 rfl ?_
      refine ev_iload_n dd_D_served_179 rfl ?_
      refine ev_aload_n dd_D_served_180 rfl ?_
      refine R_gA (k := 27) dd_D_served_181 fr_D_87 h3 rfl ?_
      refine ev_iload_n dd_D_served_184 rfl ?_
      refine R_ld (k := 27) (j := 2 * l + e) dd_D_served_185 h3 rfl (show 2 * l + e < 6 by omega) ?_
      refine ev_iload dd_D_served_186 rfl ?_
      refine ev_icmp_le dd_D_served_188 (fun c3 => ?_) (fun c3 => ?_)
      · refine ev_ic (v := 0) dd_D_served_203 (by decide +kernel) ?_
        refine R_st (k := 27) (j := 2 * l + e) dd_D_served_204 h3 rfl (show 2 * l + e < 6 by omega) (fun w4 h4 => ?_)
        exact step2 w4 _ rfl rfl rfl (by unfold rs_sv3; rw [if_pos c3]; exact h4)
      · refine ev_aload_n dd_D_served_191 rfl ?_
        refine R_gA (k := 27) dd_D_served_192 fr_D_87 h3 rfl ?_
        refine ev_iload_n dd_D_served_195 rfl ?_
        refine R_ld (k := 27) (j := 2 * l + e) dd_D_served_196 h3 rfl (show 2 * l + e < 6 by omega) ?_
        refine ev_iload dd_D_served_197 rfl ?_
        refine ev_isub dd_D_served_199 ?_
        refine ev_goto dd_D_served_200 ?_
        refine R_st (k := 27) (j := 2 * l + e) dd_D_served_204 h3 rfl (show 2 * l + e < 6 by omega) (fun w4 h4 => ?_)
        exact step2 w4 _ rfl rfl rfl (by unfold rs_sv3; rw [if_neg c3]; exact h4)
    refine ev_aload_n dd_D_served_129 rfl ?_
    refine R_gA (k := 25) dd_D_served_130 fr_D_81 h1 rfl ?_
    refine ev_iload_n dd_D_served_133 rfl ?_
    refine ev_iload dd_D_served_134 rfl ?_
    refine ev_if_le dd_D_served_136 (fun c2 => ?_) (fun c2 => ?_)
    · refine ev_aload_n dd_D_served_143 rfl ?_
      refine R_gA (k := 25) dd_D_served_144 fr_D_81 h1 rfl ?_
      refine ev_iload_n dd_D_served_147 rfl ?_
      refine R_ld (k := 25) (j := 2 * l + e) dd_D_served_148 h1 rfl (show 2 * l + e < 6 by omega) ?_
      refine R_st (k := 25) (j := 2 * l + e) dd_D_served_149 h1 rfl (show 2 * l + e < 6 by omega) (fun w2 h2 => ?_)
      exact step w2 _ rfl rfl rfl rfl (by unfold rs_sv1; rw [if_pos c2]; exact h2)
    · refine ev_ic (v := 0) dd_D_served_139 (by decide +kernel) ?_
      refine ev_goto dd_D_served_140 ?_
      refine R_st (k := 25) (j := 2 * l + e) dd_D_served_149 h1 rfl (show 2 * l + e < 6 by omega) (fun w2 h2 => ?_)
      exact step w2 _ rfl rfl rfl rfl (by unfold rs_sv1; rw [if_neg c2]; exact h2)
  · rw [if_neg c]
    unfold rs_odd
    refine ev_aload_n dd_D_served_96 rfl ?_
    refine R_gA (k := 26) dd_D_served_97 fr_D_84 h rfl ?_
    refine ev_iload_n dd_D_served_100 rfl ?_
    refine ev_dup2 dd_D_served_101 rfl rfl ?_
    refine R_ld (k := 26) (j := 2 * l + e) dd_D_served_102 h rfl (show 2 * l + e < 6 by omega) ?_
    refine ev_ic (v := 1) dd_D_served_103 (by decide +kernel) ?_
    refine ev_iadd dd_D_served_104 ?_
    refine R_st (k := 26) (j := 2 * l + e) dd_D_served_105 h rfl (show 2 * l + e < 6 by omega) (fun w1 h1 => ?_)
    refine ev_aload_n dd_D_served_106 rfl ?_
    refine R_gA (k := 26) dd_D_served_107 fr_D_84 h1 rfl ?_
    refine ev_iload_n dd_D_served_110 rfl ?_
    refine R_ld (k := 26) (j := 2 * l + e) dd_D_served_111 h1 rfl (show 2 * l + e < 6 by omega) ?_
    refine ev_ic (v := 2) dd_D_served_112 (by decide +kernel) ?_
    refine ev_icmp_ne dd_D_served_113 (fun c2 => ?_) (fun c2 => ?_)
    · rw [if_neg c2]
      refine ev_vret dd_D_served_121 rfl ?_
      exact ⟨rfl, h1⟩
    · rw [if_pos c2]
      refine ev_aload_n dd_D_served_116 rfl ?_
      refine ev_iload_n dd_D_served_117 rfl ?_
      refine ev_callvV2 [_] dd_D_served_118 ms_D_fall iv_D_188 h1.ob h1.tg rfl (Nat.le_of_ble_eq_true rfl) (Nat.le_of_ble_eq_true rfl) (k_D_fall (D := rf_sI D 26 (2 * l + e) (D.1 26 (2 * l + e) + 1)) hs hu h1) (fun w2 h2 => ?_)
      refine ev_vret dd_D_served_121 rfl ?_
      exact ⟨rfl, h2⟩
theorem k_D_served {l e t : Nat} (hl : l < 3) (he : e < 2) (ht : t < 6) (hu : rf_hu D (2 * l + e)) (hk : (rs_svP (rs_good D (2 * l + e)) l e t).1 32 t = 5 → rf_tk (rf_sI (rs_svP (rs_good D (2 * l + e)) l e t) 18 (2 * l + e) ((rs_svP (rs_good D (2 * l + e)) l e t).1 34 t)) e t) (h : rf_K G w D none F rf_Q0) : ev_E G mm_D_served (d + 5) 0 (lv_args 0 [.ref (ev_b G + 77), .int (Int32.ofNat (2 * l + e)), .int (Int32.ofNat t)]) [] w (rf_yv G F rf_Q0 none (rs_served D l e t)) := by
  have hs : 2 * l + e < 6 := by omega
  unfold rs_served
  unfold rs_good at hk ⊢
  refine ev_aload_n dd_D_served_0 rfl ?_
  refine R_gA (k := 24) dd_D_served_1 fr_D_78 h rfl ?_
  refine ev_iload_n dd_D_served_4 rfl ?_
  refine ev_dup2 dd_D_served_5 rfl rfl ?_
  refine R_ld (k := 24) (j := 2 * l + e) dd_D_served_6 h rfl (show 2 * l + e < 6 by omega) ?_
  refine ev_ic (v := 1) dd_D_served_7 (by decide +kernel) ?_
  refine ev_iadd dd_D_served_8 ?_
  refine R_st (k := 24) (j := 2 * l + e) dd_D_served_9 h rfl (show 2 * l + e < 6 by omega) (fun w1 h1 => ?_)
  refine ev_aload_n dd_D_served_10 rfl ?_
  refine R_gA (k := 24) dd_D_served_11 fr_D_78 h1 rfl ?_
  refine ev_iload_n dd_D_served_14 rfl ?_
  refine R_ld (k := 24) (j := 2 * l + e) dd_D_served_15 h1 rfl (show 2 * l + e < 6 by omega) ?_
  refine ev_bp (v := 8) dd_D_served_16 (by decide +kernel) ?_
  refine ev_icmp_ne dd_D_served_18 (fun c => ?_) (fun c => ?_)
  · rw [if_neg c] at hk ⊢
    exact k_D_sv0 (D := rf_sI D 24 (2 * l + e) (D.1 24 (2 * l + e) + 1)) hl he ht rfl rfl rfl hu hk h1
  · rw [if_pos c] at hk ⊢
    refine ev_aload_n dd_D_served_21 rfl ?_
    refine R_gA (k := 24) dd_D_served_22 fr_D_78 h1 rfl ?_
    refine ev_iload_n dd_D_served_25 rfl ?_
    refine ev_ic (v := 0) dd_D_served_26 (by decide +kernel) ?_
    refine R_st (k := 24) (j := 2 * l + e) dd_D_served_27 h1 rfl (show 2 * l + e < 6 by omega) (fun w2 h2 => ?_)
    refine ev_aload_n dd_D_served_28 rfl ?_
    refine R_gA (k := 23) dd_D_served_29 fr_D_75 h2 rfl ?_
    refine ev_iload_n dd_D_served_32 rfl ?_
    refine ev_aload_n dd_D_served_33 rfl ?_
    refine R_gA (k := 23) dd_D_served_34 fr_D_75 h2 rfl ?_
    refine ev_iload_n dd_D_served_37 rfl ?_
    refine R_ld (k := 23) (j := 2 * l + e) dd_D_served_38 h2 rfl (show 2 * l + e < 6 by omega) ?_
    rw [show (rf_sI (rf_sI D 24 (2 * l + e) (D.1 24 (2 * l + e) + 1)) 24 (2 * l + e) 0).1 23 (2 * l + e) = D.1 23 (2 * l + e) from rfl]
    refine ev_if_le dd_D_served_39 (fun c2 => ?_) (fun c2 => ?_)
    · rw [if_pos c2] at hk ⊢
      refine ev_ic (v := 0) dd_D_served_53 (by decide +kernel) ?_
      refine R_st (k := 23) (j := 2 * l + e) dd_D_served_54 h2 rfl (show 2 * l + e < 6 by omega) (fun w3 h3 => ?_)
      exact k_D_sv0 (D := rf_sI (rf_sI (rf_sI D 24 (2 * l + e) (D.1 24 (2 * l + e) + 1)) 24 (2 * l + e) 0) 23 (2 * l + e) 0) hl he ht rfl rfl rfl hu hk h3
    · rw [if_neg c2] at hk ⊢
      refine ev_aload_n dd_D_served_42 rfl ?_
      refine R_gA (k := 23) dd_D_served_43 fr_D_75 h2 rfl ?_
      refine ev_iload_n dd_D_served_46 rfl ?_
      refine R_ld (k := 23) (j := 2 * l + e) dd_D_served_47 h2 rfl (show 2 * l + e < 6 by omega) ?_
      refine ev_ic (v := 1) dd_D_served_48 (by decide +kernel) ?_
      refine ev_isub dd_D_served_49 ?_
      refine ev_goto dd_D_served_50 ?_
      refine R_st (k := 23) (j := 2 * l + e) dd_D_served_54 h2 rfl (show 2 * l + e < 6 by omega) (fun w3 h3 => ?_)
      exact k_D_sv0 (D := rf_sI (rf_sI (rf_sI D 24 (2 * l + e) (D.1 24 (2 * l + e) + 1)) 24 (2 * l + e) 0) 23 (2 * l + e) (D.1 23 (2 * l + e) - 1)) hl he ht rfl rfl rfl hu hk h3
end RgB
