/-! a tick, side by side -/
def R1 (N k B : Nat) (p : Int32 × cr_C) (D : rf_C) : Prop := sm p.2 D ∧ IV N k p.2 ∧ Po k p.2 ≤ B ∧ D.1 50 0 = p.1 ∧ D.1 0 0 = 0
def R2 (N B : Nat) (x : Int32) (C : cr_C) (D : rf_C) : Prop := sm C D ∧ IW N C ∧ Po 6 C ≤ B ∧ D.1 50 0 = x ∧ D.1 0 0 = 0
theorem R1.s {N k B l e : Nat} {p : Int32 × cr_C} {D : rf_C} (h : R1 N k B p D) (hk : k = 2 * l + e) (hl : l < 3) (he : e < 2) (hN : N < 1024) (hB : B ≤ 7197) : rf_dk D l e ∧ R1 N (k + 1) B (cs_P_ar p l e) (rs_deliver D l e) := by
  obtain ⟨h1, h2, h3, h4, h5⟩ := h
  rw [hk] at h2 h3 ⊢
  have hz := Po_cz (2 * l + e) p.2
  obtain ⟨a, b⟩ := IV_arrive h2 hl he
  obtain ⟨c, d⟩ := dl_came h1 hl he
  refine ⟨rf_dk_of h1 h2.1.1 hN (by omega) hl he, sm_arrive h1 hl he (iv_a_of h2 hN hl he), a, Nat.le_trans b h3, ?_, c.trans h5⟩
  rw [d, h4]
  rfl
theorem R2.a {N B l e : Nat} {x : Int32} {C : cr_C} {D : rf_C} (h : R2 N B x C D) (hl : l < 3) (he : e < 2) (hN : N < 1024) : rf_k2 D l e ∧ R2 N (B + 2) x (cs_E_age C e l) (rs_age D l e) := by
  obtain ⟨h1, h2, h3, h4, h5⟩ := h
  have hs : 2 * l + e < 6 := by omega
  obtain ⟨a, b⟩ := IW_age 6 h2 he hl
  have z := zk_age D (2 * l + e)
  obtain ⟨hA, hB, hD, hE⟩ := h2.1.2.1 _ hs
  refine ⟨rf_hu_of h1 h2.1 hN hs, sm_age h1 he hl (iv_s_of h2.1 hN hs) hA.1 (fun c => hA.2.1 c) (fun c => hA.2.2.1 c) (fun c => (hA.2.2.2 (by rw [c]; decide)).2.2.2.2.1), a, by omega, (z 50 (Or.inr rfl)).trans h4, (z 0 (Or.inl rfl)).trans h5⟩
theorem R2.c {N B l e : Nat} {x : Int32} {C : cr_C} {D : rf_C} (h : R2 N B x C D) (hl : l < 3) (he : e < 2) (hB : B ≤ 7197) : rf_k3 D l e ∧ R2 N B x (cs_E_changeOver C e l) (rs_tickChange D l e) := by
  obtain ⟨h1, h2, h3, h4, h5⟩ := h
  have hs : 2 * l + e < 6 := by omega
  have hz := Po_cz 6 C
  obtain ⟨a, b⟩ := IW_over 6 h2 he hl
  have z := zk_tc D l e
  exact ⟨rf_k3_of h1 h2.1 (by omega) hl he, sm_over h1 he hl h2.1.1 (fun c => iv_c_of h2.1 hs c), a, Nat.le_trans b h3, (z 50 (Or.inr rfl)).trans h4, (z 0 (Or.inl rfl)).trans h5⟩
theorem R2.d {N B s l e : Nat} {x : Int32} {C : cr_C} {D : rf_C} (h : R2 N B x C D) (hq : ∀ t, t < s → q3 C t) (hk : s = 2 * l + e) (hl : l < 3) (he : e < 2) (hN : N < 1024) : rf_k4 D l e ∧ R2 N B x (cs_S_send C s) (rs_snd D l e) ∧ ∀ t, t < s + 1 → q3 (cs_S_send C s) t := by
  obtain ⟨h1, h2, h3, h4, h5⟩ := h
  have hs : s < 6 := by omega
  obtain ⟨a0, b1, -, b2⟩ := (h1.1 s hs).1.2.2
  obtain ⟨a, b, c, d, f⟩ := IW_send h2 hs ⟨a0, b1, b2⟩
  have es : rs_snd D l e = rs_send D s := by rw [hk]; rfl
  rw [es]
  have z := zk_send D s
  refine ⟨rf_k4_of h1 h2.1 hl he, ⟨sm_send h1 hs (h2.1.2.1 s hs).1.1 (iv_s_of h2.1 hN hs), a, Nat.le_trans b h3, (z 50 (Or.inr rfl)).trans h4, (z 0 (Or.inl rfl)).trans h5⟩, fun t ht => ?_⟩
  by_cases e : t = s
  · rw [e]
    exact c
  · exact (hq t (by omega)).of (fun κ j => d κ t j e) (f t e)
theorem Po_60 {C : cr_C} (h : ∀ t, t < 6 → q3 C t) : Po 0 C = Po 6 C := by
  have h3 : ∀ t, t < 6 → bs C 0 t = bs C 6 t := fun t ht => by
    unfold bs
    rw [um_q3 (h t ht) 0, um_q3 (h t ht) 6]
  have h2 : cr_su (bs C 0) 6 = cr_su (bs C 6) 6 := Nat.le_antisymm (su_le (fun t ht => Nat.le_of_eq (h3 t ht))) (su_le (fun t ht => Nat.le_of_eq (h3 t ht).symm))
  unfold Po
  rw [h2]
theorem tick_t1 {N B : Nat} {C : cr_C} {D : rf_C} (h : R1 N 0 B (0, C) D) (hN : N < 1024) (hB : B ≤ 7197) : rf_all rs_deliver rf_dk cr_le D ∧ R1 N 6 B (cs_P_t1 C) (rs_t1 D) := by
  rw [rs_t1_eq]
  unfold cs_P_t1 cr_le
  rw [rf_all_cons, rf_all_cons, rf_all_cons, rf_all_cons, rf_all_cons, rf_all_cons]
  obtain ⟨p0, g0⟩ := h.s (l := 0) (e := 0) rfl (by omega) (by omega) hN hB
  generalize cs_P_ar (0, C) 0 0 = c0 at *
  generalize rs_deliver D 0 0 = D0 at *
  obtain ⟨p1, g1⟩ := g0.s (l := 0) (e := 1) rfl (by omega) (by omega) hN hB
  generalize cs_P_ar c0 0 1 = c1 at *
  generalize rs_deliver D0 0 1 = D1 at *
  obtain ⟨p2, g2⟩ := g1.s (l := 1) (e := 0) rfl (by omega) (by omega) hN hB
  generalize cs_P_ar c1 1 0 = c2 at *
  generalize rs_deliver D1 1 0 = D2 at *
  obtain ⟨p3, g3⟩ := g2.s (l := 1) (e := 1) rfl (by omega) (by omega) hN hB
  generalize cs_P_ar c2 1 1 = c3 at *
  generalize rs_deliver D2 1 1 = D3 at *
  obtain ⟨p4, g4⟩ := g3.s (l := 2) (e := 0) rfl (by omega) (by omega) hN hB
  generalize cs_P_ar c3 2 0 = c4 at *
  generalize rs_deliver D3 2 0 = D4 at *
  obtain ⟨p5, g5⟩ := g4.s (l := 2) (e := 1) rfl (by omega) (by omega) hN hB
  exact ⟨⟨p0, p1, p2, p3, p4, p5, trivial⟩, g5⟩
theorem tick_t2 {N B : Nat} {x : Int32} {C : cr_C} {D : rf_C} (h : R2 N B x C D) (hN : N < 1024) : rf_all rs_age rf_k2 cr_le D ∧ R2 N (B + 12) x (cs_P_t2 C) (rs_t2 D) := by
  rw [rs_t2_eq]
  unfold cs_P_t2 cr_le
  rw [rf_all_cons, rf_all_cons, rf_all_cons, rf_all_cons, rf_all_cons, rf_all_cons]
  obtain ⟨p0, g0⟩ := h.a (l := 0) (e := 0) (by omega) (by omega) hN
  generalize cs_E_age C 0 0 = c0 at *
  generalize rs_age D 0 0 = D0 at *
  obtain ⟨p1, g1⟩ := g0.a (l := 0) (e := 1) (by omega) (by omega) hN
  generalize cs_E_age c0 1 0 = c1 at *
  generalize rs_age D0 0 1 = D1 at *
  obtain ⟨p2, g2⟩ := g1.a (l := 1) (e := 0) (by omega) (by omega) hN
  generalize cs_E_age c1 0 1 = c2 at *
  generalize rs_age D1 1 0 = D2 at *
  obtain ⟨p3, g3⟩ := g2.a (l := 1) (e := 1) (by omega) (by omega) hN
  generalize cs_E_age c2 1 1 = c3 at *
  generalize rs_age D2 1 1 = D3 at *
  obtain ⟨p4, g4⟩ := g3.a (l := 2) (e := 0) (by omega) (by omega) hN
  generalize cs_E_age c3 0 2 = c4 at *
  generalize rs_age D3 2 0 = D4 at *
  obtain ⟨p5, g5⟩ := g4.a (l := 2) (e := 1) (by omega) (by omega) hN
  exact ⟨⟨p0, p1, p2, p3, p4, p5, trivial⟩, g5⟩
theorem tick_t3 {N B : Nat} {x : Int32} {C : cr_C} {D : rf_C} (h : R2 N B x C D) (hB : B ≤ 7197) : rf_all rs_tickChange rf_k3 cr_el D ∧ R2 N B x (cs_P_t3 C) (rs_t3 D) := by
  rw [rs_t3_eq]
  unfold cs_P_t3 cr_el
  rw [rf_all_cons, rf_all_cons, rf_all_cons, rf_all_cons, rf_all_cons, rf_all_cons]
  obtain ⟨p0, g0⟩ := h.c (l := 0) (e := 0) (by omega) (by omega) hB
  generalize cs_E_changeOver C 0 0 = c0 at *
  generalize rs_tickChange D 0 0 = D0 at *
  obtain ⟨p1, g1⟩ := g0.c (l := 1) (e := 0) (by omega) (by omega) hB
  generalize cs_E_changeOver c0 0 1 = c1 at *
  generalize rs_tickChange D0 1 0 = D1 at *
  obtain ⟨p2, g2⟩ := g1.c (l := 2) (e := 0) (by omega) (by omega) hB
  generalize cs_E_changeOver c1 0 2 = c2 at *
  generalize rs_tickChange D1 2 0 = D2 at *
  obtain ⟨p3, g3⟩ := g2.c (l := 0) (e := 1) (by omega) (by omega) hB
  generalize cs_E_changeOver c2 1 0 = c3 at *
  generalize rs_tickChange D2 0 1 = D3 at *
  obtain ⟨p4, g4⟩ := g3.c (l := 1) (e := 1) (by omega) (by omega) hB
  generalize cs_E_changeOver c3 1 1 = c4 at *
  generalize rs_tickChange D3 1 1 = D4 at *
  obtain ⟨p5, g5⟩ := g4.c (l := 2) (e := 1) (by omega) (by omega) hB
  exact ⟨⟨p0, p1, p2, p3, p4, p5, trivial⟩, g5⟩
theorem tick_t4 {N B : Nat} {x : Int32} {C : cr_C} {D : rf_C} (h : R2 N B x C D) (hN : N < 1024) : rf_all rs_snd rf_k4 cr_le D ∧ R2 N B x (cs_P_t4 C) (rs_t4 D) ∧ ∀ t, t < 6 → q3 (cs_P_t4 C) t := by
  rw [rs_t4_eq]
  unfold cs_P_t4 cr_le
  rw [rf_all_cons, rf_all_cons, rf_all_cons, rf_all_cons, rf_all_cons, rf_all_cons]
  obtain ⟨p0, g0, k0⟩ := h.d (s := 0) (l := 0) (e := 0) (fun t ht => absurd ht (by omega)) rfl (by omega) (by omega) hN
  generalize cs_S_send C 0 = c0 at *
  generalize rs_snd D 0 0 = D0 at *
  obtain ⟨p1, g1, k1⟩ := g0.d (s := 1) (l := 0) (e := 1) k0 rfl (by omega) (by omega) hN
  generalize cs_S_send c0 1 = c1 at *
  generalize rs_snd D0 0 1 = D1 at *
  obtain ⟨p2, g2, k2⟩ := g1.d (s := 2) (l := 1) (e := 0) k1 rfl (by omega) (by omega) hN
  generalize cs_S_send c1 2 = c2 at *
  generalize rs_snd D1 1 0 = D2 at *
  obtain ⟨p3, g3, k3⟩ := g2.d (s := 3) (l := 1) (e := 1) k2 rfl (by omega) (by omega) hN
  generalize cs_S_send c2 3 = c3 at *
  generalize rs_snd D2 1 1 = D3 at *
  obtain ⟨p4, g4, k4⟩ := g3.d (s := 4) (l := 2) (e := 0) k3 rfl (by omega) (by omega) hN
  generalize cs_S_send c3 4 = c4 at *
  generalize rs_snd D3 2 0 = D4 at *
  obtain ⟨p5, g5, k5⟩ := g4.d (s := 5) (l := 2) (e := 1) k4 rfl (by omega) (by omega) hN
  exact ⟨⟨p0, p1, p2, p3, p4, p5, trivial⟩, g5, k5⟩
/-- the two, between the calls -/
def RR (N : Nat) (C : cr_C) (D : rf_C) : Prop := sm C D ∧ IV N 0 C ∧ Po 0 C ≤ 12 * N
theorem RR.tick {N : Nat} {C : cr_C} {D : rf_C} (h : RR N C D) (hN : N ≤ 512) : rf_all rs_deliver rf_dk cr_le (rs_t0 D) ∧ rf_all rs_age rf_k2 cr_le (rs_t1 (rs_t0 D)) ∧ rf_all rs_tickChange rf_k3 cr_el (rs_t2 (rs_t1 (rs_t0 D))) ∧ rf_all rs_snd rf_k4 cr_le (rs_t3 (rs_t2 (rs_t1 (rs_t0 D)))) ∧ RR (N + 1) (cs_P_tick C).2 (rs_tick D) ∧ (rs_tick D).1 50 0 = (cs_P_tick C).1 ∧ (rs_tick D).1 0 0 = 0 := by
  obtain ⟨h1, h2, h3⟩ := h
  have r0 : R1 N 0 (12 * N) (0, C) (rs_t0 D) := ⟨sm_50 (sm_50 h1 (Or.inl rfl) 0) (Or.inr rfl) 0, h2, h3, rf_sI_at _ _ _ _, by unfold rs_t0; rw [rf_sI_ne _ _ (by omega), rf_sI_at]⟩
  unfold rs_tick cs_P_tick
  dsimp only
  generalize rs_t0 D = D0 at *
  obtain ⟨a1, g1⟩ := tick_t1 r0 (by omega) (by omega)
  generalize cs_P_t1 C = c1 at *
  generalize rs_t1 D0 = D1 at *
  obtain ⟨s1, i1, p1, q1, z1⟩ := g1
  have r1 : R2 N (12 * N) c1.1 c1.2 D1 := ⟨s1, i1.1, p1, q1, z1⟩
  obtain ⟨a2, g2⟩ := tick_t2 r1 (by omega)
  generalize cs_P_t2 c1.2 = c2 at *
  generalize rs_t2 D1 = D2 at *
  obtain ⟨a3, g3⟩ := tick_t3 g2 (by omega)
  generalize cs_P_t3 c2 = c3 at *
  generalize rs_t3 D2 = D3 at *
  obtain ⟨a4, g4, q4⟩ := tick_t4 g3 (by omega)
  generalize cs_P_t4 c3 = c4 at *
  generalize rs_t4 D3 = D4 at *
  obtain ⟨s4, i4, p4, k4, z4⟩ := g4
  have e := Po_60 q4
  exact ⟨a1, a2, a3, a4, ⟨s4, IV.upN ⟨i4, fun t ht => (q4 t ht).two⟩ (by omega), by omega⟩, k4, z4⟩
theorem RR.start {N : Nat} {C : cr_C} {D : rf_C} (h : RR N C D) {l e : Nat} (hl : l < 3) (he : e < 2) : (rs_D_start D l e).1 = (cs_P_start C l e).1 ∧ RR (N + 1) (cs_P_start C l e).2 (rs_D_start D l e).2 := by
  obtain ⟨h1, h2, h3⟩ := h
  obtain ⟨a, b⟩ := sm_start h1 hl he
  obtain ⟨c, d⟩ := IV_start h2 hl he
  exact ⟨a, b, c, by omega⟩
theorem RR.stop {N : Nat} {C : cr_C} {D : rf_C} (h : RR N C D) (hN : N < 1024) {l e : Nat} (hl : l < 3) (he : e < 2) : rf_hu D (2 * l + e) ∧ (rs_D_stop D l e).1 = (cs_P_stop C l e).1 ∧ RR (N + 1) (cs_P_stop C l e).2 (rs_D_stop D l e).2 := by
  obtain ⟨h1, h2, h3⟩ := h
  obtain ⟨a, b⟩ := sm_stop h1 hl he (iv_s_of h2.1.1 hN (by omega))
  obtain ⟨c, d⟩ := IV_stop h2 hl he
  exact ⟨rf_hu_of h1 h2.1.1 hN (by omega), a, b, c, by omega⟩
theorem RR.fault {N : Nat} {C : cr_C} {D : rf_C} (h : RR N C D) {l e : Nat} (hl : l < 3) (he : e < 2) {x y : Int32} (hxy : ¬ x < 0 ∧ ¬ 2 < x ∧ ¬ y < 0 ∧ y ≤ 99) : RR (N + 1) (cs_P_fault C l e x y) (rs_D_fault D l e x y) := by
  obtain ⟨h1, h2, h3⟩ := h
  have hy : nb y 100 := cr_iv_of (by decide) ⟨hxy.2.2.1, by
    have a := hxy.2.2.2
    rw [Int32.le_iff_toInt_le] at a
    rw [Int32.lt_iff_toInt_lt]
    have e1 : (99 : Int32).toInt = 99 := by decide
    have e2 : (Int32.ofNat 100).toInt = 100 := by decide
    omega⟩
  obtain ⟨c, d⟩ := IV_fault (l := l) (e := e) (x := x) h2 hy
  exact ⟨sm_fault h1 hl he hxy, c, by omega⟩
theorem RR.submit {N : Nat} {C : cr_C} {D : rf_C} (h : RR N C D) (hN : N ≤ 512) {e k : Nat} (he : e < 2) (hk : k < 4) (x : Int32) : rz D ≤ 2399 ∧ rf_Lk D e ∧ (rs_submit D e k x).1 = (cs_E_accept C e k x).1 ∧ RR (N + 1) (cs_E_accept C e k x).2 (rs_submit D e k x).2 := by
  obtain ⟨h1, h2, h3⟩ := h
  have hz := Po_cz 0 C
  obtain ⟨a, b⟩ := sm_accept h1 he hk (h2.1.1.1.L he) (h2.1.1.2.2.2.2 e he) x
  obtain ⟨c, d⟩ := IV_accept h2 he hk x
  exact ⟨by rw [rz_cz h1]; omega, sm_Lk h1 he (h2.1.1.1.L he), a, b, c, by omega⟩
theorem RR.take {N : Nat} {C : cr_C} {D : rf_C} (h : RR N C D) {e : Nat} (he : e < 2) {μ : cr_m} {zs : List cr_m} (hX : C.2.1 (20 + e) = μ :: zs) : D.2 (20 + e) = sm_m μ :: zs.map sm_m ∧ RR (N + 1) (cr_sX C (20 + e) zs) (rf_sX (rf_sI D 0 0 0) (20 + e) (zs.map sm_m)) := by
  obtain ⟨h1, h2, h3⟩ := h
  obtain ⟨a, b⟩ := sm_take h1 he hX
  obtain ⟨c, d⟩ := IV_take h2 he hX
  exact ⟨a, b, c, by omega⟩
/-- a call that changes nothing but what was thrown -/
theorem RR.same {N : Nat} {C : cr_C} {D : rf_C} (h : RR N C D) (x : Int32) : RR (N + 1) C (rf_sI D 0 0 x) := ⟨sm_50 h.1 (Or.inl rfl) x, h.2.1.upN (by omega), by have := h.2.2; omega⟩
theorem RR.zC {N : Nat} {C : cr_C} {D : rf_C} (h : RR N C D) (hN : N ≤ 512) : cz C ≤ 8000 := by
  have a := h.2.2
  have b := Po_cz 0 C
  omega
