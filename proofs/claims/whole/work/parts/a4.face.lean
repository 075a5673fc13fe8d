/-! the face of the class: what is refused -/
def cr_nm : List String := ["java/lang/RuntimeException", "java/lang/Exception"]
/-- the bytes of those constructors, and of the one whose pool has another number -/
def cr_by : ByteArray := ⟨#[0x2a, 0x2b, 0xb7, 0x00, 0x0d, 0xb1]⟩
/-- what the first state says of throwing: no stack traces, the texts, the constructors -/
def ev_Y (G : ev_gx) : Prop := G.2.2.1.platform.stackTraces = false ∧ (∀ ix, (ix = 182 ∨ ix = 184 ∨ ix = 186 ∨ ix = 127 ∨ ix = 46 ∨ ix = 162) → ∃ tx qs, vk_R "ThreeLinkPair" ix tx qs (ev_s0 G)) ∧ ev_atX G "ThreeLinkPair" 129 "java/lang/IndexOutOfBoundsException" 7 Bundle.six cr_nm ∧ ev_atX G "ThreeLinkPair" 48 "java/lang/IllegalArgumentException" 7 Bundle.six cr_nm ∧ ev_atX G "ThreeLinkPair" 164 "java/util/NoSuchElementException" 13 cr_by cr_nm
def cr_yt (G : ev_gx) (q0 n : Nat) (F : ev_wd) (Q : Nat → cr_m → Prop) (c : Nat) (C : cr_C) : ev_r → ev_wd → Prop := fun t w' => ∃ x, t = .inr x ∧ (ev_b G ≤ x ∧ x < ev_z w') ∧ ev_g w' x = c ∧ cr_K G q0 w' C n F Q
def cr_iv (y : Int32) (N : Nat) : Prop := ¬ y < 0 ∧ y < Int32.ofNat N
theorem cr_iv_of {y : Int32} {N : Nat} (hN : N < 2 ^ 31) (h : cr_iv y N) : ∃ e, e < N ∧ y = Int32.ofNat e := by
  obtain ⟨u, hu, eu⟩ := nI_of h.1
  refine ⟨u, ?_, eu⟩
  have h2 := h.2
  rw [eu] at h2
  rcases Nat.lt_or_ge u N with h3 | h3
  · exact h3
  · exact absurd h2 (nI_nlt h3 hu)
theorem cr_of_iv {e N : Nat} (hN : N < 2 ^ 31) (h : e < N) : cr_iv (Int32.ofNat e) N := ⟨ev_on e (by omega), nI_lt h hN⟩
section CrX2
variable {G : ev_gx} {M : ev_mx} {d pc pc' tgt : Nat} {L : List (Nat × Value)} {st : List Value} {w w1 : ev_wd} {P : ev_r → ev_wd → Prop} {q0 mi n n' : Nat} {C : cr_C} {F : ev_wd} {Q : Nat → cr_m → Prop}
theorem K_thr10 {ix p1 p2 p3 p4 p5 : Nat} (Y : ev_Y G) (hMc : M.1.cls = "ThreeLinkPair") (hM : M.2.2.2.2 = []) (hix : ix = 182 ∨ ix = 184 ∨ ix = 186 ∨ ix = 127) (hd0 : ev_d M.2.1 pc (.new 125) 3 p1) (hd1 : ev_d M.2.1 p1 .dup 1 p2) (hd2 : ev_d M.2.1 p2 (.ldc ix) 2 p3) (hd3 : ev_d M.2.1 p3 (.invokespecial 129) 3 p4) (hd4 : ev_d M.2.1 p4 .athrow 1 p5) (hq : q0 < ev_b G) (hn : n ≤ 200000) (hd : 7 ≤ d) (h : cr_K G q0 w C n F Q) : ev_E G M d pc L [] w (cr_yt G q0 (n + 1) F Q 10 C) := by
  have hr := h.room hn
  have hz := h.z
  obtain ⟨tx, qs, hZ⟩ := Y.2.1 ix (by omega)
  refine ev_throwX (c := 10) (names := cr_nm) Bundle.six_0 Bundle.six_1 Bundle.six_2 Bundle.six_5 Y.1 hd0 hd1 hd2 hd3 hd4 rfl ck_10 (by rw [hMc]; exact kl_P_125) hr.1 hr.2 (by rw [hMc]; exact hZ) (by decide +kernel) (by decide +kernel) (by rw [hMc]; exact Y.2.2.1) (by rw [hM]; exact fun _ h => absurd h List.not_mem_nil) (show 2 + 3 < d by omega) (by decide) (by decide) (fun f => ?_)
  exact ⟨ev_z w, rfl, ⟨by omega, Nat.lt_succ_self _⟩, (ev_add_at _ _ _ _ _).1, h.fr0 hq (ev_fr.add _ _ _ _ _) (Nat.le_refl _) (Nat.le_refl _)⟩
theorem K_thr11 {ix p1 p2 p3 p4 p5 : Nat} (Y : ev_Y G) (hMc : M.1.cls = "ThreeLinkPair") (hM : M.2.2.2.2 = []) (hix : ix = 46) (hd0 : ev_d M.2.1 pc (.new 44) 3 p1) (hd1 : ev_d M.2.1 p1 .dup 1 p2) (hd2 : ev_d M.2.1 p2 (.ldc ix) 2 p3) (hd3 : ev_d M.2.1 p3 (.invokespecial 48) 3 p4) (hd4 : ev_d M.2.1 p4 .athrow 1 p5) (hq : q0 < ev_b G) (hn : n ≤ 200000) (hd : 7 ≤ d) (h : cr_K G q0 w C n F Q) : ev_E G M d pc L [] w (cr_yt G q0 (n + 1) F Q 11 C) := by
  have hr := h.room hn
  have hz := h.z
  obtain ⟨tx, qs, hZ⟩ := Y.2.1 ix (by omega)
  refine ev_throwX (c := 11) (names := cr_nm) Bundle.six_0 Bundle.six_1 Bundle.six_2 Bundle.six_5 Y.1 hd0 hd1 hd2 hd3 hd4 rfl ck_11 (by rw [hMc]; exact kl_P_44) hr.1 hr.2 (by rw [hMc]; exact hZ) (by decide +kernel) (by decide +kernel) (by rw [hMc]; exact Y.2.2.2.1) (by rw [hM]; exact fun _ h => absurd h List.not_mem_nil) (show 2 + 3 < d by omega) (by decide) (by decide) (fun f => ?_)
  exact ⟨ev_z w, rfl, ⟨by omega, Nat.lt_succ_self _⟩, (ev_add_at _ _ _ _ _).1, h.fr0 hq (ev_fr.add _ _ _ _ _) (Nat.le_refl _) (Nat.le_refl _)⟩
theorem K_thr12 {ix p1 p2 p3 p4 p5 : Nat} (Y : ev_Y G) (hMc : M.1.cls = "ThreeLinkPair") (hM : M.2.2.2.2 = []) (hix : ix = 162) (hd0 : ev_d M.2.1 pc (.new 160) 3 p1) (hd1 : ev_d M.2.1 p1 .dup 1 p2) (hd2 : ev_d M.2.1 p2 (.ldc ix) 2 p3) (hd3 : ev_d M.2.1 p3 (.invokespecial 164) 3 p4) (hd4 : ev_d M.2.1 p4 .athrow 1 p5) (hq : q0 < ev_b G) (hn : n ≤ 200000) (hd : 7 ≤ d) (h : cr_K G q0 w C n F Q) : ev_E G M d pc L [] w (cr_yt G q0 (n + 1) F Q 12 C) := by
  have hr := h.room hn
  have hz := h.z
  obtain ⟨tx, qs, hZ⟩ := Y.2.1 ix (by omega)
  refine ev_throwX (c := 12) (jx := 13) (rx := cr_by) (names := cr_nm) (by decide +kernel) (by decide +kernel) (by decide +kernel) (by decide +kernel) Y.1 hd0 hd1 hd2 hd3 hd4 rfl ck_12 (by rw [hMc]; exact kl_P_160) hr.1 hr.2 (by rw [hMc]; exact hZ) (by decide +kernel) (by decide +kernel) (by rw [hMc]; exact Y.2.2.2.2) (by rw [hM]; exact fun _ h => absurd h List.not_mem_nil) (show 2 + 3 < d by omega) (by decide) (by decide) (fun f => ?_)
  exact ⟨ev_z w, rfl, ⟨by omega, Nat.lt_succ_self _⟩, (ev_add_at _ _ _ _ _).1, h.fr0 hq (ev_fr.add _ _ _ _ _) (Nat.le_refl _) (Nat.le_refl _)⟩
theorem ev_callsT {index k c : Nat} {M' : ev_mx} (As : List Value) (hd : ev_d M.2.1 pc (.invokestatic index) 3 pc') (hm : ev_ms M' k) (hi : ev_Is M.1.cls index M') (hn : As.length = k) (hst : (st.map fun v => v.category).sum + M'.2.2.1 ≤ 28) (hlen : (lg_sl As).length ≤ M'.2.2.1) (hM : M.2.2.2.2 = [])
    (hc : ev_E G M' d 0 (lv_args 0 As) [] w (cr_yt G q0 n F Q c C)) : ev_E G M (d + 1) pc L (As.reverse ++ st) w (cr_yt G q0 n F Q c C) :=
  ev_calls As hd hm hi hn hst hlen hc (fun v w' h _ _ => by obtain ⟨x, h1, -⟩ := h; cases h1) (fun x w' h _ _ => ev_leave (by rw [hM]; exact fun _ h => absurd h List.not_mem_nil) h)
theorem k_P_checkEnd {e : Nat} (he : e < 2) (h : cr_K G q0 w C n F Q) : ev_E G mm_P_checkEnd d 0 (lv_args 0 [.int (Int32.ofNat e)]) [] w (cr_yv G q0 n F Q C) := by
  refine ev_iload_n dd_P_checkEnd_0 rfl ?_
  refine ev_if_lt dd_P_checkEnd_1 (fun hc => absurd hc (ev_on e (by omega))) (fun _ => ?_)
  refine ev_iload_n dd_P_checkEnd_4 rfl ?_
  refine ev_ic (v := 2) dd_P_checkEnd_5 (by decide +kernel) ?_
  refine ev_icmp_lt dd_P_checkEnd_6 (fun _ => ?_) (fun hc => absurd (nI_lt (b := 2) he (by decide)) hc)
  refine ev_vret dd_P_checkEnd_19 rfl ?_
  exact ⟨rfl, h⟩
theorem k_P_checkEnd_no {y : Int32} (Y : ev_Y G) (hq : q0 < ev_b G) (hn : n ≤ 200000) (hy : ¬ cr_iv y 2) (h : cr_K G q0 w C n F Q) : ev_E G mm_P_checkEnd (d + 7) 0 (lv_args 0 [.int y]) [] w (cr_yt G q0 (n + 1) F Q 10 C) := by
  have thr : ∀ L, ev_E G mm_P_checkEnd (d + 7) 9 L [] w (cr_yt G q0 (n + 1) F Q 10 C) := fun L => K_thr10 (ix := 182) Y rfl rfl (by omega) dd_P_checkEnd_9 dd_P_checkEnd_12 dd_P_checkEnd_13 dd_P_checkEnd_15 dd_P_checkEnd_18 hq hn (by omega) h
  refine ev_iload_n dd_P_checkEnd_0 rfl ?_
  refine ev_if_lt dd_P_checkEnd_1 (fun _ => thr _) (fun c => ?_)
  refine ev_iload_n dd_P_checkEnd_4 rfl ?_
  refine ev_ic (v := 2) dd_P_checkEnd_5 (by decide +kernel) ?_
  exact ev_icmp_lt dd_P_checkEnd_6 (fun c2 => absurd ⟨c, c2⟩ hy) (fun _ => thr _)
theorem k_P_checkSide {l e : Nat} (hl : l < 3) (he : e < 2) (h : cr_K G q0 w C n F Q) : ev_E G mm_P_checkSide (d + 1) 0 (lv_args 0 [.int (Int32.ofNat l), .int (Int32.ofNat e)]) [] w (cr_yv G q0 n F Q C) := by
  refine ev_iload_n dd_P_checkSide_0 rfl ?_
  refine ev_callsV [_] dd_P_checkSide_1 ms_P_checkEnd is_P_147 rfl (Nat.le_of_ble_eq_true rfl) (Nat.le_of_ble_eq_true rfl) (k_P_checkEnd he h) (fun w1 h1 => ?_)
  refine ev_iload_n dd_P_checkSide_4 rfl ?_
  refine ev_if_lt dd_P_checkSide_5 (fun hc => absurd hc (ev_on l (by omega))) (fun _ => ?_)
  refine ev_iload_n dd_P_checkSide_8 rfl ?_
  refine ev_ic (v := 3) dd_P_checkSide_9 (by decide +kernel) ?_
  refine ev_icmp_lt dd_P_checkSide_10 (fun _ => ?_) (fun hc => absurd (nI_lt (b := 3) hl (by decide)) hc)
  refine ev_vret dd_P_checkSide_23 rfl ?_
  exact ⟨rfl, h1⟩
theorem k_P_checkSide_no {x y : Int32} (Y : ev_Y G) (hq : q0 < ev_b G) (hn : n ≤ 200000) (hno : ¬ (cr_iv x 3 ∧ cr_iv y 2)) (h : cr_K G q0 w C n F Q) : ev_E G mm_P_checkSide (d + 8) 0 (lv_args 0 [.int x, .int y]) [] w (cr_yt G q0 (n + 1) F Q 10 C) := by
  by_cases hy : cr_iv y 2
  · obtain ⟨e, he, rfl⟩ := cr_iv_of (by decide) hy
    have thr : ∀ L w1, cr_K G q0 w1 C n F Q → ev_E G mm_P_checkSide (d + 8) 13 L [] w1 (cr_yt G q0 (n + 1) F Q 10 C) := fun L w1 h1 => K_thr10 (ix := 184) Y rfl rfl (by omega) dd_P_checkSide_13 dd_P_checkSide_16 dd_P_checkSide_17 dd_P_checkSide_19 dd_P_checkSide_22 hq hn (by omega) h1
    refine ev_iload_n dd_P_checkSide_0 rfl ?_
    refine ev_callsV [_] dd_P_checkSide_1 ms_P_checkEnd is_P_147 rfl (Nat.le_of_ble_eq_true rfl) (Nat.le_of_ble_eq_true rfl) (k_P_checkEnd he h) (fun w1 h1 => ?_)
    refine ev_iload_n dd_P_checkSide_4 rfl ?_
    refine ev_if_lt dd_P_checkSide_5 (fun _ => thr _ _ h1) (fun c => ?_)
    refine ev_iload_n dd_P_checkSide_8 rfl ?_
    refine ev_ic (v := 3) dd_P_checkSide_9 (by decide +kernel) ?_
    exact ev_icmp_lt dd_P_checkSide_10 (fun c2 => absurd ⟨⟨c, c2⟩, hy⟩ hno) (fun _ => thr _ _ h1)
  · refine ev_iload_n dd_P_checkSide_0 rfl ?_
    exact ev_callsT [_] dd_P_checkSide_1 ms_P_checkEnd is_P_147 rfl (Nat.le_of_ble_eq_true rfl) (Nat.le_of_ble_eq_true rfl) rfl (k_P_checkEnd_no Y hq hn hy h)
theorem k_P_checkClass {l e : Nat} (hl : l < 4) (he : e < 2) (h : cr_K G q0 w C n F Q) : ev_E G mm_P_checkClass (d + 1) 0 (lv_args 0 [.int (Int32.ofNat e), .int (Int32.ofNat l)]) [] w (cr_yv G q0 n F Q C) := by
  refine ev_iload_n dd_P_checkClass_0 rfl ?_
  refine ev_callsV [_] dd_P_checkClass_1 ms_P_checkEnd is_P_147 rfl (Nat.le_of_ble_eq_true rfl) (Nat.le_of_ble_eq_true rfl) (k_P_checkEnd he h) (fun w1 h1 => ?_)
  refine ev_iload_n dd_P_checkClass_4 rfl ?_
  refine ev_if_lt dd_P_checkClass_5 (fun hc => absurd hc (ev_on l (by omega))) (fun _ => ?_)
  refine ev_iload_n dd_P_checkClass_8 rfl ?_
  refine ev_ic (v := 4) dd_P_checkClass_9 (by decide +kernel) ?_
  refine ev_icmp_lt dd_P_checkClass_10 (fun _ => ?_) (fun hc => absurd (nI_lt (b := 4) hl (by decide)) hc)
  refine ev_vret dd_P_checkClass_23 rfl ?_
  exact ⟨rfl, h1⟩
theorem k_P_checkClass_no {x y : Int32} (Y : ev_Y G) (hq : q0 < ev_b G) (hn : n ≤ 200000) (hno : ¬ (cr_iv x 4 ∧ cr_iv y 2)) (h : cr_K G q0 w C n F Q) : ev_E G mm_P_checkClass (d + 8) 0 (lv_args 0 [.int y, .int x]) [] w (cr_yt G q0 (n + 1) F Q 10 C) := by
  by_cases hy : cr_iv y 2
  · obtain ⟨e, he, rfl⟩ := cr_iv_of (by decide) hy
    have thr : ∀ L w1, cr_K G q0 w1 C n F Q → ev_E G mm_P_checkClass (d + 8) 13 L [] w1 (cr_yt G q0 (n + 1) F Q 10 C) := fun L w1 h1 => K_thr10 (ix := 186) Y rfl rfl (by omega) dd_P_checkClass_13 dd_P_checkClass_16 dd_P_checkClass_17 dd_P_checkClass_19 dd_P_checkClass_22 hq hn (by omega) h1
    refine ev_iload_n dd_P_checkClass_0 rfl ?_
    refine ev_callsV [_] dd_P_checkClass_1 ms_P_checkEnd is_P_147 rfl (Nat.le_of_ble_eq_true rfl) (Nat.le_of_ble_eq_true rfl) (k_P_checkEnd he h) (fun w1 h1 => ?_)
    refine ev_iload_n dd_P_checkClass_4 rfl ?_
    refine ev_if_lt dd_P_checkClass_5 (fun _ => thr _ _ h1) (fun c => ?_)
    refine ev_iload_n dd_P_checkClass_8 rfl ?_
    refine ev_ic (v := 4) dd_P_checkClass_9 (by decide +kernel) ?_
    exact ev_icmp_lt dd_P_checkClass_10 (fun c2 => absurd ⟨⟨c, c2⟩, hy⟩ hno) (fun _ => thr _ _ h1)
  · refine ev_iload_n dd_P_checkClass_0 rfl ?_
    exact ev_callsT [_] dd_P_checkClass_1 ms_P_checkEnd is_P_147 rfl (Nat.le_of_ble_eq_true rfl) (Nat.le_of_ble_eq_true rfl) rfl (k_P_checkEnd_no Y hq hn hy h)
theorem k_P_start_no {x y : Int32} (Y : ev_Y G) (hq : q0 < ev_b G) (hn : n ≤ 200000) (hno : ¬ (cr_iv x 3 ∧ cr_iv y 2)) (h : cr_K G q0 w C n F Q) : ev_E G mm_P_start (d + 13) 0 (lv_args 0 [.ref (ev_b G + cr_o 12 0), .int x, .int y]) [] w (cr_yt G q0 (n + 1) F Q 10 C) := by
  refine ev_iload_n dd_P_start_0 rfl ?_
  refine ev_iload_n dd_P_start_1 rfl ?_
  exact ev_callsT [_, _] dd_P_start_2 ms_P_checkSide is_P_23 rfl (Nat.le_of_ble_eq_true rfl) (Nat.le_of_ble_eq_true rfl) rfl (k_P_checkSide_no Y hq hn hno h)
theorem k_P_stop_no {x y : Int32} (Y : ev_Y G) (hq : q0 < ev_b G) (hn : n ≤ 200000) (hno : ¬ (cr_iv x 3 ∧ cr_iv y 2)) (h : cr_K G q0 w C n F Q) : ev_E G mm_P_stop (d + 13) 0 (lv_args 0 [.ref (ev_b G + cr_o 12 0), .int x, .int y]) [] w (cr_yt G q0 (n + 1) F Q 10 C) := by
  refine ev_iload_n dd_P_stop_0 rfl ?_
  refine ev_iload_n dd_P_stop_1 rfl ?_
  exact ev_callsT [_, _] dd_P_stop_2 ms_P_checkSide is_P_23 rfl (Nat.le_of_ble_eq_true rfl) (Nat.le_of_ble_eq_true rfl) rfl (k_P_checkSide_no Y hq hn hno h)
theorem k_P_state_no {x y : Int32} (Y : ev_Y G) (hq : q0 < ev_b G) (hn : n ≤ 200000) (hno : ¬ (cr_iv x 3 ∧ cr_iv y 2)) (h : cr_K G q0 w C n F Q) : ev_E G mm_P_state (d + 13) 0 (lv_args 0 [.ref (ev_b G + cr_o 12 0), .int x, .int y]) [] w (cr_yt G q0 (n + 1) F Q 10 C) := by
  refine ev_iload_n dd_P_state_0 rfl ?_
  refine ev_iload_n dd_P_state_1 rfl ?_
  exact ev_callsT [_, _] dd_P_state_2 ms_P_checkSide is_P_23 rfl (Nat.le_of_ble_eq_true rfl) (Nat.le_of_ble_eq_true rfl) rfl (k_P_checkSide_no Y hq hn hno h)
theorem k_P_changes_no {x y : Int32} (Y : ev_Y G) (hq : q0 < ev_b G) (hn : n ≤ 200000) (hno : ¬ (cr_iv x 3 ∧ cr_iv y 2)) (h : cr_K G q0 w C n F Q) : ev_E G mm_P_changes (d + 13) 0 (lv_args 0 [.ref (ev_b G + cr_o 12 0), .int x, .int y]) [] w (cr_yt G q0 (n + 1) F Q 10 C) := by
  refine ev_iload_n dd_P_changes_0 rfl ?_
  refine ev_iload_n dd_P_changes_1 rfl ?_
  exact ev_callsT [_, _] dd_P_changes_2 ms_P_checkSide is_P_23 rfl (Nat.le_of_ble_eq_true rfl) (Nat.le_of_ble_eq_true rfl) rfl (k_P_checkSide_no Y hq hn hno h)
theorem k_P_of_no {x y z : Int32} (Y : ev_Y G) (hq : q0 < ev_b G) (hn : n ≤ 200000) (hno : ¬ (cr_iv x 3 ∧ cr_iv y 2)) (h : cr_K G q0 w C n F Q) : ev_E G mm_P_of (d + 13) 0 (lv_args 0 [.ref (ev_b G + cr_o 12 0), .int x, .int y, .int z]) [] w (cr_yt G q0 (n + 1) F Q 10 C) := by
  refine ev_iload_n dd_P_of_0 rfl ?_
  refine ev_iload_n dd_P_of_1 rfl ?_
  exact ev_callsT [_, _] dd_P_of_2 ms_P_checkSide is_P_23 rfl (Nat.le_of_ble_eq_true rfl) (Nat.le_of_ble_eq_true rfl) rfl (k_P_checkSide_no Y hq hn hno h)
theorem k_P_fault_no {x y z v : Int32} (Y : ev_Y G) (hq : q0 < ev_b G) (hn : n ≤ 200000) (hno : ¬ (cr_iv x 3 ∧ cr_iv y 2)) (h : cr_K G q0 w C n F Q) : ev_E G mm_P_fault (d + 13) 0 (lv_args 0 [.ref (ev_b G + cr_o 12 0), .int x, .int y, .int z, .int v]) [] w (cr_yt G q0 (n + 1) F Q 10 C) := by
  refine ev_iload_n dd_P_fault_0 rfl ?_
  refine ev_iload_n dd_P_fault_1 rfl ?_
  exact ev_callsT [_, _] dd_P_fault_2 ms_P_checkSide is_P_23 rfl (Nat.le_of_ble_eq_true rfl) (Nat.le_of_ble_eq_true rfl) rfl (k_P_checkSide_no Y hq hn hno h)
theorem k_P_submit_no {y x z : Int32} (Y : ev_Y G) (hq : q0 < ev_b G) (hn : n ≤ 200000) (hno : ¬ (cr_iv x 4 ∧ cr_iv y 2)) (h : cr_K G q0 w C n F Q) : ev_E G mm_P_submit (d + 13) 0 (lv_args 0 [.ref (ev_b G + cr_o 12 0), .int y, .int x, .int z]) [] w (cr_yt G q0 (n + 1) F Q 10 C) := by
  refine ev_iload_n dd_P_submit_0 rfl ?_
  refine ev_iload_n dd_P_submit_1 rfl ?_
  exact ev_callsT [_, _] dd_P_submit_2 ms_P_checkClass is_P_61 rfl (Nat.le_of_ble_eq_true rfl) (Nat.le_of_ble_eq_true rfl) rfl (k_P_checkClass_no Y hq hn hno h)
theorem k_P_link_no {y x : Int32} (Y : ev_Y G) (hq : q0 < ev_b G) (hn : n ≤ 200000) (hno : ¬ (cr_iv x 4 ∧ cr_iv y 2)) (h : cr_K G q0 w C n F Q) : ev_E G mm_P_link (d + 13) 0 (lv_args 0 [.ref (ev_b G + cr_o 12 0), .int y, .int x]) [] w (cr_yt G q0 (n + 1) F Q 10 C) := by
  refine ev_iload_n dd_P_link_0 rfl ?_
  refine ev_iload_n dd_P_link_1 rfl ?_
  exact ev_callsT [_, _] dd_P_link_2 ms_P_checkClass is_P_61 rfl (Nat.le_of_ble_eq_true rfl) (Nat.le_of_ble_eq_true rfl) rfl (k_P_checkClass_no Y hq hn hno h)
theorem k_P_held_no {y : Int32} (Y : ev_Y G) (hq : q0 < ev_b G) (hn : n ≤ 200000) (hno : ¬ cr_iv y 2) (h : cr_K G q0 w C n F Q) : ev_E G mm_P_held (d + 13) 0 (lv_args 0 [.ref (ev_b G + cr_o 12 0), .int y]) [] w (cr_yt G q0 (n + 1) F Q 10 C) := by
  refine ev_iload_n dd_P_held_0 rfl ?_
  exact ev_callsT [_] dd_P_held_1 ms_P_checkEnd is_P_147 rfl (Nat.le_of_ble_eq_true rfl) (Nat.le_of_ble_eq_true rfl) rfl (k_P_checkEnd_no Y hq hn hno h)
theorem k_P_inbox_no {y : Int32} (Y : ev_Y G) (hq : q0 < ev_b G) (hn : n ≤ 200000) (hno : ¬ cr_iv y 2) (h : cr_K G q0 w C n F Q) : ev_E G mm_P_inbox (d + 13) 0 (lv_args 0 [.ref (ev_b G + cr_o 12 0), .int y]) [] w (cr_yt G q0 (n + 1) F Q 10 C) := by
  refine ev_iload_n dd_P_inbox_0 rfl ?_
  exact ev_callsT [_] dd_P_inbox_1 ms_P_checkEnd is_P_147 rfl (Nat.le_of_ble_eq_true rfl) (Nat.le_of_ble_eq_true rfl) rfl (k_P_checkEnd_no Y hq hn hno h)
theorem k_P_take_no {y : Int32} (Y : ev_Y G) (hq : q0 < ev_b G) (hn : n ≤ 200000) (hno : ¬ cr_iv y 2) (h : cr_K G q0 w C n F Q) : ev_E G mm_P_take (d + 13) 0 (lv_args 0 [.ref (ev_b G + cr_o 12 0), .int y]) [] w (cr_yt G q0 (n + 1) F Q 10 C) := by
  refine ev_iload_n dd_P_take_0 rfl ?_
  exact ev_callsT [_] dd_P_take_1 ms_P_checkEnd is_P_147 rfl (Nat.le_of_ble_eq_true rfl) (Nat.le_of_ble_eq_true rfl) rfl (k_P_checkEnd_no Y hq hn hno h)
end CrX2
