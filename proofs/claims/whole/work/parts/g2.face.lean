/-! the invariant: the face's calls -/
theorem nb.le {x : Int32} {N M : Nat} (h : nb x N) (hM : N ≤ M) : nb x M := by
  obtain ⟨u, hu, e⟩ := h
  exact ⟨u, by omega, e⟩
theorem iz.up {N M : Nat} {C : cr_C} (h : iz N C) (hM : N ≤ M) : iz M C := by
  obtain ⟨v, i, m1, m2, m3⟩ := h
  refine ⟨v, fun s hs => ?_, fun r hr μ hμ => (m1 r hr μ hμ).up hM, fun s hs μ hμ => (m2 s hs μ hμ).up hM, m3⟩
  obtain ⟨hA, ⟨b1, b2, b3, b4, b5, b6⟩, ⟨d1, d2, d3⟩, hE⟩ := i s hs
  exact ⟨hA, ⟨b1, b2, b3, b4.le (by omega), b5.le (by omega), b6.le (by omega)⟩, ⟨d1.le (by omega), d2.le (by omega), d3⟩, hE⟩
theorem IV.upN {N M k : Nat} {C : cr_C} (h : IV N k C) (hM : N ≤ M) : IV M k C := ⟨⟨h.1.1.up hM, h.1.2⟩, h.2⟩
theorem IV_begin {N : Nat} {C : cr_C} (h : IV N 0 C) {s : Nat} (hs : s < 6) (c0 : C.1 1 s 0 = 0) : IV (N + 1) 0 (cs_S_begin C s) ∧ Po 0 (cs_S_begin C s) ≤ Po 0 C + 12 := by
  have ho := ot_lt hs
  have hne := ot_ne s
  obtain ⟨hA, hB, hD, hE⟩ := h.1.1.2.1 s hs
  obtain ⟨x1, x2⟩ := hE.1 (by rw [c0]; decide)
  have hL : Lo C (cs_S_begin C s) s := by
    unfold cs_S_begin cs_S_clearRows
    refine Lo.sI ⟨fun κ i k hne => ?_, ?_⟩
    · show (cr_sI (cr_sI (cr_sI (cr_sI (cr_sI (cr_sI (cr_sI (cr_sI (cr_sI (cr_sI (cr_sI (cr_sI (cs_S_comeTo C s 1) 1 s 2 (((cs_S_comeTo C s 1).1 1 s 2) + 1)) 1 s 14 0) 1 s 4 7) 1 s 5 7) 1 s 6 1) 1 s 7 1) 1 s 8 0) 1 s 9 0) 1 s 10 0) 1 s 11 0) 1 s 12 0) 1 s 13 0).1 κ i k = C.1 κ i k
      exact ((Lo.refl C s).comeTo.sI.sI.sI.sI.sI.sI.sI.sI.sI.sI.sI.sI : Lo C (cr_sI (cr_sI (cr_sI (cr_sI (cr_sI (cr_sI (cr_sI (cr_sI (cr_sI (cr_sI (cr_sI (cr_sI (cs_S_comeTo C s 1) 1 s 2 (((cs_S_comeTo C s 1).1 1 s 2) + 1)) 1 s 14 0) 1 s 4 7) 1 s 5 7) 1 s 6 1) 1 s 7 1) 1 s 8 0) 1 s 9 0) 1 s 10 0) 1 s 11 0) 1 s 12 0) 1 s 13 0) s).1 κ i k hne
    · refine Prod.ext (funext fun r => ?_) rfl
      show (if r = 6 + s then [] else if r = s then [] else C.2.1 r) = C.2.1 r
      by_cases e6 : r = 6 + s
      · rw [if_pos e6, e6, x2]
      · rw [if_neg e6]
        by_cases e : r = s
        · rw [if_pos e, e, x1]
        · rw [if_neg e]
  have hv : cv (cs_S_begin C s) := (cw_begin C hs h.1.1.1).1
  have e0 : (cs_S_begin C s).1 1 s 0 = 1 := by simp [cs_S_begin, cs_S_clearRows, cs_S_comeTo, cr_sI, cr_sX, cr_u]
  have e1 : (cs_S_begin C s).1 1 s 1 = 0 := by simp [cs_S_begin, cs_S_clearRows, cs_S_comeTo, cr_sI, cr_sX, cr_u]
  have e2 : (cs_S_begin C s).1 1 s 2 = C.1 1 s 2 + 1 := by simp [cs_S_begin, cs_S_clearRows, cs_S_comeTo, cr_sI, cr_sX, cr_u]
  have e3 : (cs_S_begin C s).1 1 s 3 = C.1 1 s 3 := by simp [cs_S_begin, cs_S_clearRows, cs_S_comeTo, cr_sI, cr_sX, cr_u]
  have e4 : (cs_S_begin C s).1 1 s 4 = 7 ∧ (cs_S_begin C s).1 1 s 5 = 7 := by simp [cs_S_begin, cs_S_clearRows, cs_S_comeTo, cr_sI, cr_sX, cr_u]
  have e8 : (cs_S_begin C s).1 1 s 8 = 0 ∧ (cs_S_begin C s).1 1 s 9 = 0 ∧ (cs_S_begin C s).1 1 s 10 = 0 ∧ (cs_S_begin C s).1 1 s 11 = 0 ∧ (cs_S_begin C s).1 1 s 12 = 0 ∧ (cs_S_begin C s).1 1 s 13 = 0 := by simp [cs_S_begin, cs_S_clearRows, cs_S_comeTo, cr_sI, cr_sX, cr_u]
  generalize cs_S_begin C s = C' at *
  have f3 : ∀ t j, C'.1 3 t j = C.1 3 t j := fun t j => hL.1 _ _ _ (by omega)
  have hz := (h.1.1.up (show N ≤ N + 1 by omega)).y s
  obtain ⟨b1, b2, b3, b4, b5, b6⟩ := hB
  have bB : iB (N + 1) C' s := by
    unfold iB
    rw [e4.1, e4.2, e2, e3, f3]
    refine ⟨⟨7, by omega, rfl⟩, ⟨7, by omega, rfl⟩, fun _ _ => ⟨rfl, rfl⟩, ?_, b5.le (by omega), b6.le (by omega)⟩
    obtain ⟨u, hu, eu⟩ := b4
    exact ⟨u + 1, by omega, by rw [eu]; exact nI_1 u⟩
  have aA : iA C' s := by
    obtain ⟨k8, k9, k10, k11, k12, k13⟩ := e8
    unfold iA
    rw [e0, e1, k8, k9, k10, k11, k12, k13]
    exact ⟨⟨1, by omega, rfl⟩, fun _ => nb_0 (by omega), fun _ => nb_0 (by omega), fun _ => ⟨nb_0 (by omega), nb_0 (by omega), nb_0 (by omega), nb_0 (by omega), nb_0 (by omega), nb_0 (by omega)⟩⟩
  have np : ¬ pr C' s := fun p => p.1.2 e0
  have no : ∀ t, ot t = s → ¬ pr C' t := fun t e p => p.2.2 (by rw [e]; exact e0)
  refine ⟨⟨⟨(hL.ky hz bB (fun _ => by rw [c0]; decide)).z aA, fun t ht => ?_⟩, fun t ht => ?_⟩, ?_⟩
  · by_cases e : t = s
    · rw [e]
      exact ⟨fun p => absurd p np, fun c => absurd (e0.symm.trans c) (by decide)⟩
    · by_cases e' : ot t = s
      · refine ⟨fun p => absurd p (no t e'), ?_⟩
        have q := (h.1.2 t ht).2
        obtain ⟨a0, a4, a5, a3, aU, aX⟩ := hL.cqn e
        unfold jj at q ⊢
        rw [a0, a4, a3 0, a3 2, aU, aX]
        exact q
      · exact (h.1.2 t ht).of (hL.cqn e) (hL.cqn e')
  · by_cases e : t = s
    · rw [e]
      refine ⟨fun p => absurd e0 p.2, fun _ => ?_, fun _ _ => ?_, fun _ c => ?_⟩
      · rw [e0]; exact ⟨by decide, by decide⟩
      · rw [e0]; decide
      · rw [e0] at c; exact absurd c (by decide)
    · obtain ⟨a0, a4, a5, a3, aU, aX⟩ := hL.cqn e
      have q := h.2 t ht
      unfold q2 at q ⊢
      rw [a0, a5, f3 t 0, f3 t 4, f3 (ot t) 0, aU]
      exact q
  · have key : cr_su (bs C' 0) 6 + 0 ≤ cr_su (bs C 0) 6 + 12 := by
      refine su_at hs ?_ (fun t ht e => ?_)
      · have a1 : un C' s = 0 := if_neg np
        have a2 : cg C' s = cg C s := cg_of (hL.1 _ _ _ (by omega)) (hL.1 _ _ _ (by omega)) (hL.1 _ _ _ (by omega))
        have a3 : um C' 0 s = um C 0 s := by
          unfold um
          rw [f3, e0, c0, hL.2]
          simp only [show ((1 : Int32) ≠ 4) = True from eq_true (by decide), show ((0 : Int32) ≠ 4) = True from eq_true (by decide)]
        have a4 : be C' s = 12 := be_st.1 e0
        unfold bs
        omega
      · have a2 : cg C' t = cg C t := cg_of (hL.1 _ _ _ (by omega)) (hL.1 _ _ _ (by omega)) (hL.1 _ _ _ (by omega))
        have a3 : um C' 0 t = um C 0 t := um_of (hL.cqn e)
        have a4 : be C' t = be C t := be_of (hL.1 _ _ _ (by omega)) (hL.1 _ _ _ (by omega))
        have a1 : un C' t ≤ un C t := by
          by_cases e' : ot t = s
          · rw [show un C' t = 0 from if_neg (no t e')]
            exact Nat.zero_le _
          · rw [un_of (hL.cqn e) (hL.cqn e')]
            exact Nat.le_refl _
        unfold bs
        omega
    have : wA C' = wA C := wA_X (by rw [hL.2])
    unfold Po
    omega
theorem IV_start {N : Nat} {C : cr_C} (h : IV N 0 C) {l e : Nat} (hl : l < 3) (he : e < 2) : IV (N + 1) 0 (cs_P_start C l e).2 ∧ Po 0 (cs_P_start C l e).2 ≤ Po 0 C + 12 := by
  unfold cs_P_start
  by_cases c : C.1 1 (2 * l + e) 0 = 0
  · rw [if_pos c]
    exact IV_begin h (by omega) c
  · rw [if_neg c]
    exact ⟨h.upN (by omega), Nat.le_add_right _ _⟩
theorem IV_stop {N : Nat} {C : cr_C} (h : IV N 0 C) {l e : Nat} (hl : l < 3) (he : e < 2) : IV (N + 1) 0 (cs_P_stop C l e).2 ∧ Po 0 (cs_P_stop C l e).2 ≤ Po 0 C + 12 := by
  unfold cs_P_stop
  by_cases c : C.1 1 (2 * l + e) 0 = 0
  · rw [if_pos c]
    exact ⟨h.upN (by omega), Nat.le_add_right _ _⟩
  · rw [if_neg c]
    exact ⟨(h.fall he hl).upN (by omega), Nat.le_trans (Po_fall 0 h.1.1.1 he hl) (Nat.le_add_right _ _)⟩
theorem IV_fault {N : Nat} {C : cr_C} (h : IV N 0 C) {l e : Nat} {x y : Int32} (hy : nb y 100) : IV (N + 1) 0 (cs_P_fault C l e x y) ∧ Po 0 (cs_P_fault C l e x y) ≤ Po 0 C + 12 := by
  unfold cs_P_fault
  obtain ⟨a, b⟩ := IV_flt h (s := 2 * l + e) (j := 0) x (fun c => absurd c (by omega))
  obtain ⟨a2, b2⟩ := IV_flt a (s := 2 * l + e) (j := 1) (if x = 0 then 0 else y) (fun _ => by
    by_cases c : x = 0
    · rw [if_pos c]
      exact nb_0 (by omega)
    · rw [if_neg c]
      exact hy)
  exact ⟨a2.upN (by omega), by omega⟩
theorem IV_take {N : Nat} {C : cr_C} (h : IV N 0 C) {e : Nat} (he : e < 2) {μ : cr_m} {zs : List cr_m} (hX : C.2.1 (20 + e) = μ :: zs) : IV (N + 1) 0 (cr_sX C (20 + e) zs) ∧ Po 0 (cr_sX C (20 + e) zs) ≤ Po 0 C + 12 := by
  have z := iz_sub h.1.1 (r := 20 + e) (zs := zs) (by omega) (by omega) (fun ν hν => by rw [hX]; exact List.mem_cons_of_mem _ hν) (by rw [hX, List.length_cons]; omega)
  have w := Po_row 0 C (r := 20 + e) zs (by omega) (by omega)
  rw [wr_lo (Or.inr (by omega)), wr_lo (Or.inr (by omega)), hX, List.length_cons] at w
  have hc : ∀ t, t < 6 → cq C (cr_sX C (20 + e) zs) t := fun t ht => row_cq C zs (by omega) ht
  exact ⟨IV.upN ⟨⟨z, IW.core h.1.2 hc⟩, IV.core h.2 hc⟩ (by omega), by omega⟩
/-- a message is put to those held -/
theorem iz_hold {N : Nat} {C : cr_C} {e : Nat} {μ : cr_m} (h : iz N C) (he : e < 2) (h8 : (C.2.1 (18 + e)).length < 8) (hm : mw N μ) (hc : cv (cs_put C (18 + e) μ)) : iz N (cs_put C (18 + e) μ) := by
  refine ⟨hc, fun t ht => ?_, fun q hq ν hν => ?_, h.2.2.2.1, fun e' he' => ?_⟩
  · obtain ⟨hA, hB, hD, hE⟩ := h.2.1 t ht
    exact ⟨hA, hB, hD.of (fun _ _ _ => rfl) (fun _ => rfl) (cs_put_ne _ _ (by omega)), hE.of rfl (cs_put_ne _ _ (by omega)) (fun _ => cs_put_ne _ _ (by omega)) rfl⟩
  · by_cases c : q = 18 + e
    · rw [c] at hν
      unfold cs_put at hν
      rw [cr_sX_at] at hν
      rcases List.mem_append.mp hν with x | x
      · exact h.2.2.1 (18 + e) (by omega) ν x
      · rw [List.mem_singleton.mp x]
        exact hm
    · rw [cs_put_ne _ _ c] at hν
      exact h.2.2.1 q hq ν hν
  · by_cases c : e' = e
    · rw [c]
      unfold cs_put
      rw [cr_sX_at, List.length_append, List.length_singleton]
      omega
    · rw [cs_put_ne _ _ (by omega)]
      exact h.2.2.2.2 e' he'
theorem mw_new (N : Nat) {k : Nat} (hk : k < 4) (x : Int32) : mw N (Int32.ofNat k, x, -1, -1) := fun c => by
  have c' : Int32.ofNat k = 4 ∨ Int32.ofNat k = 5 := c
  rcases (show k = 0 ∨ k = 1 ∨ k = 2 ∨ k = 3 by omega) with rfl | rfl | rfl | rfl <;> exact absurd c' (by decide)
theorem Po_put6 {k : Nat} (C : cr_C) {r : Nat} (μ : cr_m) (hr : 6 ≤ r) (hr22 : r < 22) : Po k (cs_put C r μ) ≤ Po k C + 6 := by
  have := Po_put (k := k) C μ hr hr22
  by_cases c : 20 ≤ r ∨ μ.1 = 5
  · rw [if_pos c] at this
    omega
  · rw [if_neg c] at this
    omega
/-- below the bound it is queued on a link that serves -/
theorem IV_below {N : Nat} {C : cr_C} (h : IV N 0 C) {e l k : Nat} (he : e < 2) (hl : l < 3) (hk : k < 4) (hs : C.1 1 (2 * l + e) 0 = 4) (y x : Int32) : IV N 0 (cs_E_addBelow C (6 + (2 * l + e)) y (Int32.ofNat k) x).2 ∧ Po 0 (cs_E_addBelow C (6 + (2 * l + e)) y (Int32.ofNat k) x).2 ≤ Po 0 C + 6 := by
  unfold cs_E_addBelow
  by_cases c : Int32.ofNat (C.2.1 (6 + (2 * l + e))).length < y
  · rw [if_pos c]
    have hm : cv_m (Int32.ofNat k, x, -1, -1) := Or.inl (cr_mc_of hk x (-1) (-1))
    have hc : cv (cs_put C (6 + (2 * l + e)) (Int32.ofNat k, x, -1, -1)) := (cw_put (cw_refl C) (r := 6 + (2 * l + e)) (by omega) (by omega) (fun _ => ⟨hm, fun x _ => by omega⟩) h.1.1.1).1
    have hq : ∀ t, t < 6 → cq C (cs_put C (6 + (2 * l + e)) (Int32.ofNat k, x, -1, -1)) t := fun t ht => put_cq C _ (by omega) ht
    exact ⟨⟨⟨iz_put h.1.1 (by omega) (by omega) (fun _ => by rw [show 6 + (2 * l + e) - 6 = 2 * l + e by omega]; exact hs) (mw_new N hk x) hc, IW.core h.1.2 hq⟩, IV.core h.2 hq⟩, Po_put6 C _ (by omega) (by omega)⟩
  · rw [if_neg c]
    exact ⟨h, Nat.le_add_right _ _⟩
theorem IV_lnk {N : Nat} {C : cr_C} (h : IV N 0 C) {e k q : Nat} (hq : q < 3) : IV N 0 (cr_sI C 7 e k (Int32.ofNat q)) ∧ Po 0 (cr_sI C 7 e k (Int32.ofNat q)) = Po 0 C := by
  have hv1 : cv (cr_sI C 7 e k (Int32.ofNat q)) := ((cw_7 (cw_refl C) hq : cw C (cr_sI C 7 e k (Int32.ofNat q)) 0) h.1.1.1).1
  have hc : ∀ t, t < 6 → cq C (cr_sI C 7 e k (Int32.ofNat q)) t := fun t _ => flt_cq C (Or.inr (Or.inr (by omega))) t
  exact ⟨⟨⟨iz_num h.1.1 (Or.inr (Or.inl (by omega))) hv1 (fun x => absurd x (by omega)), IW.core h.1.2 hc⟩, IV.core h.2 hc⟩, Po_num 0 C (Or.inr (Or.inl (by omega)))⟩
theorem IV_acc2 {N : Nat} {C : cr_C} (h : IV N 0 C) {e k : Nat} (he : e < 2) (hk : k < 4) (x : Int32) : IV N 0 (cs_E_acc2 C e k x).2 ∧ Po 0 (cs_E_acc2 C e k x).2 ≤ Po 0 C + 6 := by
  have key : ∀ q, q < 3 → (cs_E_choose C e k).1 = Int32.ofNat q → IV N 0 (cs_E_addBelow (cr_sI C 7 e k (Int32.ofNat q)) (6 + (2 * q + e)) 6 (Int32.ofNat k) x).2 ∧ Po 0 (cs_E_addBelow (cr_sI C 7 e k (Int32.ofNat q)) (6 + (2 * q + e)) 6 (Int32.ofNat k) x).2 ≤ Po 0 C + 6 := fun q hq eq => by
    have s4 : C.1 1 (2 * q + e) 0 = 4 := by
      rcases choose_or C e k with ⟨y, -⟩ | ⟨q', hq', y, s⟩
      · rw [eq] at y
        rcases (show q = 0 ∨ q = 1 ∨ q = 2 by omega) with rfl | rfl | rfl <;> exact absurd y (by decide)
      · rw [eq] at y
        rw [(nI_eq (a := q) (b := q') (by omega) (by omega)).mp y]
        exact s
    obtain ⟨a, b⟩ := IV_lnk h (e := e) (k := k) hq
    rw [← b]
    exact IV_below a he hq hk (by rw [cr_sI_ne _ _ (by omega)]; exact s4) 6 x
  unfold cs_E_acc2
  by_cases c0 : (cs_E_choose C e k).1 = 0
  · rw [if_pos c0]
    exact key 0 (by omega) c0
  · rw [if_neg c0]
    by_cases c1 : (cs_E_choose C e k).1 = 1
    · rw [if_pos c1]
      exact key 1 (by omega) c1
    · rw [if_neg c1]
      by_cases c2 : (cs_E_choose C e k).1 = 2
      · rw [if_pos c2]
        exact key 2 (by omega) c2
      · rw [if_neg c2]
        exact ⟨h, Nat.le_add_right _ _⟩
theorem IV_accept {N : Nat} {C : cr_C} (h : IV N 0 C) {e k : Nat} (he : e < 2) (hk : k < 4) (x : Int32) : IV (N + 1) 0 (cs_E_accept C e k x).2 ∧ Po 0 (cs_E_accept C e k x).2 ≤ Po 0 C + 12 := by
  have hl : cr_lk C e k < 3 := (h.1.1.1.L he k hk).2
  have main : IV N 0 (cs_E_accept C e k x).2 ∧ Po 0 (cs_E_accept C e k x).2 ≤ Po 0 C + 6 := by
    unfold cs_E_accept cs_E_acc1
    generalize cr_lk C e k = l at *
    by_cases c : C.1 2 (2 * l + e) 0 = 0
    · rw [if_pos c]
      by_cases c2 : (cs_S_carries C (2 * l + e) (Int32.ofNat k)).1 = 0
      · rw [if_pos c2]
        exact IV_acc2 h he hk x
      · rw [if_neg c2]
        by_cases c3 : (cs_E_isOpen C e l).1 = 0
        · rw [if_pos c3]
          exact IV_acc2 h he hk x
        · rw [if_neg c3]
          exact IV_below h he hl hk (open_st c3).1 6 x
    · rw [if_neg c]
      unfold cs_E_addBelow
      by_cases c4 : Int32.ofNat (C.2.1 (18 + e)).length < 8
      · rw [if_pos c4]
        have h8 : (C.2.1 (18 + e)).length < 8 := by
          have h88 := h.1.1.2.2.2.2 e he
          rcases Nat.lt_or_ge (C.2.1 (18 + e)).length 8 with y | y
          · exact y
          · exact absurd c4 (i_nlt (b := 8) y (by omega))
        have hm : cv_m (Int32.ofNat k, x, -1, -1) := Or.inl (cr_mc_of hk x (-1) (-1))
        have hc : cv (cs_put C (18 + e) (Int32.ofNat k, x, -1, -1)) := (cw_put (cw_refl C) (r := 18 + e) (by omega) (by omega) (fun _ => ⟨hm, fun _ _ => cr_mc_of hk x (-1) (-1)⟩) h.1.1.1).1
        have hq : ∀ t, t < 6 → cq C (cs_put C (18 + e) (Int32.ofNat k, x, -1, -1)) t := fun t ht => put_cq C _ (by omega) ht
        exact ⟨⟨⟨iz_hold h.1.1 he h8 (mw_new N hk x) hc, IW.core h.1.2 hq⟩, IV.core h.2 hq⟩, Po_put6 C _ (by omega) (by omega)⟩
      · rw [if_neg c4]
        exact ⟨h, Nat.le_add_right _ _⟩
  exact ⟨main.1.upN (by omega), by have := main.2; omega⟩
