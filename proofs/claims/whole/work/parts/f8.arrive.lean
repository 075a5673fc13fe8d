/-! the invariant: what comes with a number, second half; what comes -/
theorem IV_odd {N k : Nat} {C : cr_C} (h : IV N k C) {e l : Nat} (he : e < 2) (hl : l < 3) (c4 : C.1 1 (2 * l + e) 0 = 4) : IV N k (cs_E_numF C e l) ∧ Po k (cs_E_numF C e l) ≤ Po k C := by
  have hs : 2 * l + e < 6 := by omega
  have hfall : ∀ C', iy N C' (2 * l + e) ∧ (∀ t, t < 6 → q1 C' t) ∧ (∀ t, t < 6 → q2 k C' t) ∧ Po k C' ≤ Po k C + 0 → IV N k (cs_E_fall C' e l) ∧ Po k (cs_E_fall C' e l) ≤ Po k C := fun C' x => ⟨⟨⟨x.1.fall he hl, q1_fall x.2.1 he hl⟩, q2_fall x.2.2.1 he hl⟩, by have := Po_fall k x.1.1 he hl; omega⟩
  unfold cs_E_numF cs_E_odd
  rw [cr_sI_at]
  generalize cs_E_fall = fc0 at *
  generalize hsd : 2 * l + e = s at *
  obtain ⟨hA, hB, hD, hE⟩ := h.1.1.2.1 s hs
  obtain ⟨a8, a9, a10, a11, a12, a13⟩ := hA.2.2.2 (by rw [c4]; decide)
  have w : iy N (cr_sI C 1 s 13 (C.1 1 s 13 + 1)) s ∧ (∀ t, t < 6 → q1 (cr_sI C 1 s 13 (C.1 1 s 13 + 1)) t) ∧ (∀ t, t < 6 → q2 k (cr_sI C 1 s 13 (C.1 1 s 13 + 1)) t) ∧ Po k (cr_sI C 1 s 13 (C.1 1 s 13 + 1)) ≤ Po k C + 0 := LoV h (Lo.refl C s).sI hs (cr_sI_ne _ _ (by omega)) (cr_sI_ne _ _ (by omega)) (cr_sI_ne _ _ (by omega)) (hB.num (by omega)) (by rw [be_num (by omega)]; exact Nat.le_refl _)
  by_cases c : C.1 1 s 13 + 1 < 2
  · rw [if_pos c]
    refine ⟨⟨⟨w.1.z ?_, w.2.1⟩, w.2.2.1⟩, w.2.2.2⟩
    unfold iA
    rw [cr_sI_at, cr_sI_ne _ _ (by omega), cr_sI_ne _ _ (by omega), cr_sI_ne _ _ (by omega), cr_sI_ne _ _ (by omega), cr_sI_ne _ _ (by omega), cr_sI_ne _ _ (by omega), cr_sI_ne _ _ (by omega)]
    exact ⟨hA.1, hA.2.1, hA.2.2.1, fun _ => ⟨a8, a9, a10, a11, a12, a13.inc (M := 2) (by omega) (by omega) c⟩⟩
  · rw [if_neg c]
    exact hfall _ w
theorem IV_numG {N k : Nat} {C : cr_C} (h : IV N k C) {e l : Nat} (he : e < 2) (hl : l < 3) (c4 : C.1 1 (2 * l + e) 0 = 4) (t : Nat) : IV N k (cs_E_numG C e l t) ∧ Po k (cs_E_numG C e l t) ≤ Po k C ∧ (cs_E_numG C e l t).1 1 (2 * l + e) 0 = 4 ∧ (∀ κ i j, κ ≠ 1 → (cs_E_numG C e l t).1 κ i j = C.1 κ i j) ∧ (cs_E_numG C e l t).2 = C.2 := by
  have hs : 2 * l + e < 6 := by omega
  have hf : Lo C (cs_E_numG C e l t) (2 * l + e) ∧ (∀ j, j ≠ 6 → j ≠ 13 → j ≠ 15 → (cs_E_numG C e l t).1 1 (2 * l + e) j = C.1 1 (2 * l + e) j) ∧ (cs_E_numG C e l t).1 1 (2 * l + e) 13 = 0 := by
    unfold cs_E_numG cs_S_followBackBit
    split
    · exact ⟨(Lo.refl C _).sI, fun j a b c => cr_sI_ne _ _ (by omega), cr_sI_at _ _ _ _ _⟩
    · exact ⟨(Lo.refl C _).sI.sI.sI, fun j a b c => by rw [cr_sI_ne _ _ (by omega), cr_sI_ne _ _ (by omega), cr_sI_ne _ _ (by omega)], by rw [cr_sI_ne _ _ (by omega), cr_sI_ne _ _ (by omega), cr_sI_at]⟩
  generalize cs_E_numG C e l t = C' at *
  generalize 2 * l + e = s at *
  obtain ⟨L, ek, e13⟩ := hf
  obtain ⟨hA, hB, hD, hE⟩ := h.1.1.2.1 s hs
  obtain ⟨a8, a9, a10, a11, a12, a13⟩ := hA.2.2.2 (by rw [c4]; decide)
  have e0 := ek 0 (by omega) (by omega) (by omega)
  obtain ⟨y, q, p, w⟩ := LoV (k := k) (b := 0) h L hs e0 (ek 4 (by omega) (by omega) (by omega)) (ek 5 (by omega) (by omega) (by omega)) (hB.of (fun j hj => ek j (by omega) (by omega) (by omega)) (L.1 _ _ _ (by omega))) (by rw [be_of (C := C) (C' := C') e0 (ek 1 (by omega) (by omega) (by omega))]; exact Nat.le_refl _)
  refine ⟨⟨⟨y.z ?_, q⟩, p⟩, w, e0.trans c4, fun κ i j hne => L.1 _ _ _ (by omega), L.2⟩
  unfold iA
  rw [e0, ek 1 (by omega) (by omega) (by omega), ek 8 (by omega) (by omega) (by omega), ek 9 (by omega) (by omega) (by omega), ek 10 (by omega) (by omega) (by omega), ek 11 (by omega) (by omega) (by omega), ek 12 (by omega) (by omega) (by omega), e13]
  exact ⟨hA.1, hA.2.1, hA.2.2.1, fun _ => ⟨a8, a9, a10, a11, a12, nb_0 (by omega)⟩⟩
theorem IV_flip {N k : Nat} {C : cr_C} (h : IV N k C) {s : Nat} (hs : s < 6) (x : Int32) : IV N k (cr_sI C 1 s 7 x) ∧ Po k (cr_sI C 1 s 7 x) ≤ Po k C := by
  obtain ⟨hA, hB, hD, hE⟩ := h.1.1.2.1 s hs
  obtain ⟨y, q, p, w⟩ := LoV (k := k) (b := 0) (C' := cr_sI C 1 s 7 x) h (Lo.refl C s).sI hs (cr_sI_ne _ x (by omega)) (cr_sI_ne _ _ (by omega)) (cr_sI_ne _ _ (by omega)) (hB.num (by omega)) (by rw [be_num (by omega)]; exact Nat.le_refl _)
  exact ⟨⟨⟨y.z (hA.of (fun j hj => cr_sI_ne _ _ (by omega))), q⟩, p⟩, w⟩
theorem f8_next {F B X : Int32} (hX : X = Int32.ofNat (cr_f8 (B + 1))) (hj : cr_f8 (F - X) ≤ 4) : cr_f8 (F - B) = cr_f8 (F - X) + 1 := by
  have h1 := F.toBitVec.isLt
  have h2 := B.toBitVec.isLt
  have g1 := cr_f8_nat (F - X)
  rw [show (F - X).toBitVec = F.toBitVec - X.toBitVec from rfl, BitVec.toNat_sub] at g1
  have g2 := cr_f8_nat (F - B)
  rw [show (F - B).toBitVec = F.toBitVec - B.toBitVec from rfl, BitVec.toNat_sub] at g2
  have h3 := cr_f8lt (B + 1)
  have h4 := cr_f8_nat (B + 1)
  rw [show (B + 1).toBitVec = B.toBitVec + 1#32 from rfl, BitVec.toNat_add, show (1#32 : BitVec 32).toNat = 1 from rfl] at h4
  have e3 : X.toBitVec.toNat = cr_f8 (B + 1) := by
    rw [hX, show (Int32.ofNat (cr_f8 (B + 1))).toBitVec = BitVec.ofNat 32 (cr_f8 (B + 1)) from rfl, BitVec.toNat_ofNat]
    omega
  rw [e3] at g1
  generalize cr_f8 (F - X) = a at *
  generalize cr_f8 (F - B) = b at *
  generalize cr_f8 (B + 1) = c at *
  omega
theorem IV_next {N : Nat} {C : cr_C} {s t : Nat} (h : IV N s C) (hs : s < 6) (ht : t = ot s) (c4 : C.1 1 s 0 = 4) (f4 : C.1 3 t 0 = 4) {μ : cr_m} (hμ : C.2.2 t = some μ) (hX : C.1 3 t 2 = Int32.ofNat (cr_f8 (C.1 1 s 5 + 1))) : IV N (s + 1) (cr_sI C 1 s 5 (Int32.ofNat (cr_f8 (C.1 1 s 5 + 1)))) ∧ Po (s + 1) (cr_sI C 1 s 5 (Int32.ofNat (cr_f8 (C.1 1 s 5 + 1)))) + 3 * uk (some μ) ≤ Po s C := by
  have ht6 : t < 6 := by rw [ht]; exact ot_lt hs
  have hts : t ≠ s := by rw [ht]; exact ot_ne s
  have hst : ot t = s := by rw [ht, ot_ot]
  obtain ⟨sA, sB, sD, sE⟩ := h.1.1.2.1 s hs
  obtain ⟨tA, tB, tD, tE⟩ := h.1.1.2.1 t ht6
  obtain ⟨t1, t2, t3, t4⟩ := h.2 t ht6
  obtain ⟨s1, s2, s3, s4⟩ := h.2 s hs
  have n3 : C.1 1 t 0 ≠ 3 := t3 f4 (by rw [hμ]; exact fun x => by cases x)
  have n2 : C.1 1 t 0 ≠ 2 := fun x => by
    have y := t4 f4 x
    rw [hst] at y
    exact (s2 y).2 c4
  have hh : h2 (C.1 1 t 0) → C.1 1 t 0 = 4 := fun x => Decidable.byContradiction (fun n4 => n2 (st_2 tA.1 x n3 n4))
  have hj : C.1 1 t 0 = 4 → jj C t ≤ 4 ∧ dd C t = jj C t + 1 ∧ jj C t < (C.2.1 t).length ∧ (C.2.1 t)[(C.2.1 t).length - 1 - jj C t]? = some μ := fun c => by
    obtain ⟨r1, r2⟩ := h.1.2 t ht6
    obtain ⟨j1, j2⟩ := r2 c f4 μ hμ
    have d1 : dd C t = jj C t + 1 := by
      unfold jj at j1
      unfold dd jj
      rw [hst]
      exact f8_next hX j1
    have d2 := r1 ⟨by rw [c]; decide, by rw [hst, c4]; decide⟩
    exact ⟨j1, d1, by omega, j2 (by omega)⟩
  have L : Lo C (cr_sI C 1 s 5 (Int32.ofNat (cr_f8 (C.1 1 s 5 + 1)))) s := (Lo.refl C s).sI
  have e5 : (cr_sI C 1 s 5 (Int32.ofNat (cr_f8 (C.1 1 s 5 + 1)))).1 1 s 5 = Int32.ofNat (cr_f8 (C.1 1 s 5 + 1)) := cr_sI_at _ _ _ _ _
  have ek : ∀ j, j ≠ 5 → (cr_sI C 1 s 5 (Int32.ofNat (cr_f8 (C.1 1 s 5 + 1)))).1 1 s j = C.1 1 s j := fun j hj => cr_sI_ne _ _ (by omega)
  generalize cr_sI C 1 s 5 (Int32.ofNat (cr_f8 (C.1 1 s 5 + 1))) = C' at *
  have f3 : ∀ u j, C'.1 3 u j = C.1 3 u j := fun u j => L.1 _ _ _ (by omega)
  have f0 : ∀ u, C'.1 1 u 0 = C.1 1 u 0 := fun u => by
    by_cases e : u = s
    · rw [e]; exact ek 0 (by omega)
    · exact L.1 _ _ _ (by omega)
  have g4 : ∀ u, C'.1 1 u 4 = C.1 1 u 4 := fun u => by
    by_cases e : u = s
    · rw [e]; exact ek 4 (by omega)
    · exact L.1 _ _ _ (by omega)
  have pe : ∀ u, pr C' u ↔ pr C u := fun u => by
    unfold pr
    rw [f0 u, f0 (ot u)]
  have de : ∀ u, u ≠ t → dd C' u = dd C u := fun u hu => by
    have : ot u ≠ s := fun e => hu (by rw [ht, ← e, ot_ot])
    unfold dd
    rw [g4 u, L.1 1 (ot u) 5 (by omega)]
  have dt : dd C' t = jj C t := by
    unfold dd jj
    rw [g4 t, hst, e5, ← hX]
  have je : ∀ u, jj C' u = jj C u := fun u => by
    unfold jj
    rw [g4 u, f3 u 2]
  have bB : iB N C' s := by
    obtain ⟨b1, b2, b3, b4, b5, b6⟩ := sB
    unfold iB
    rw [ek 0 (by omega), e5, ek 4 (by omega), ek 2 (by omega), ek 3 (by omega), f3 s 1]
    exact ⟨b1, ⟨_, cr_f8lt _, rfl⟩, fun _ x => absurd c4 x, b4, b5, b6⟩
  have aA : iA C' s := sA.of (fun j hj => ek j (by omega))
  refine ⟨⟨⟨(L.ky (h.1.1.y s) bB (fun x => by rw [← ek 0 (by omega)]; exact x)).z aA, fun u hu => ?_⟩, fun u hu => ?_⟩, ?_⟩
  · obtain ⟨r1, r2⟩ := h.1.2 u hu
    refine ⟨fun p => ?_, fun x f μ' hμ' => ?_⟩
    · rw [L.2]
      by_cases e : u = t
      · rw [e] at p ⊢
        rw [dt]
        have := (hj (hh ((pe t).mp p).1)).2.2.1
        omega
      · rw [de u e]
        exact r1 ((pe u).mp p)
    · rw [f0 u] at x
      rw [f3 u 0] at f
      rw [L.2] at hμ'
      rw [je u, L.2]
      exact r2 x f μ' hμ'
  · by_cases e : u = s
    · rw [e]
      refine ⟨fun _ _ x => ⟨fun y => absurd y (by omega), Or.inr ?_⟩, ?_, ?_, ?_⟩
      · rw [f3 s 0] at x
        rw [e5, f3 s 4, (s1 (by rw [c4]; decide) (by rw [c4]; decide) x).1 (Nat.le_refl _)]
      · rw [f3 s 0, f0 s]; exact s2
      · rw [f3 s 0, f0 s, L.2]; exact s3
      · rw [f3 s 0, f0 s, f3 (ot s) 0]; exact s4
    · have q := (h.2 u hu).up (show s ≤ s + 1 by omega)
      unfold q2 at q ⊢
      rw [f0 u, L.1 1 u 5 (by omega), f3 u 0, f3 u 4, f3 (ot u) 0, L.2]
      exact q
  · have cge : ∀ u, cg C' u = cg C u := fun u => cg_of (L.1 _ _ _ (by omega)) (L.1 _ _ _ (by omega)) (L.1 _ _ _ (by omega))
    have bee : ∀ u, be C' u = be C u := fun u => be_of (f0 u) (by
      by_cases e : u = s
      · rw [e]; exact ek 1 (by omega)
      · exact L.1 _ _ _ (by omega))
    have ume : ∀ m u, um C' m u = um C m u := fun m u => by
      unfold um
      rw [f3 u 0, f0 u, L.2]
    have key : cr_su (bs C' (s + 1)) 6 + 3 * uk (some μ) ≤ cr_su (bs C s) 6 + 0 := by
      refine su_at ht6 ?_ (fun u hu e => ?_)
      · have a1 := cge t
        have a2 := bee t
        have a3 := ume (s + 1) t
        by_cases c : C.1 1 t 0 = 4
        · obtain ⟨j1, j2, j3, j4⟩ := hj c
          have p : pr C t := ⟨by rw [c]; decide, by rw [hst, c4]; decide⟩
          have u1 : un C t = uk (some μ) + un C' t := by
            unfold un
            rw [if_pos p, if_pos ((pe t).mpr p), dt, j2, L.2]
            have := wn_cons_drop j4
            rw [show (C.2.1 t).length - 1 - jj C t + 1 = (C.2.1 t).length - jj C t by omega] at this
            rw [show (C.2.1 t).length - (jj C t + 1) = (C.2.1 t).length - 1 - jj C t by omega]
            exact this
          have u2 := um_up C t (show s ≤ s + 1 by omega)
          unfold bs
          omega
        · have u1 : un C' t = 0 := if_neg (fun p => c (hh ((pe t).mp p).1))
          have u2 : um C s t = uk (some μ) := by
            unfold um
            rw [if_pos ⟨by omega, f4, c⟩, hμ]
          have u3 : um C (s + 1) t = 0 := if_neg (fun x => by have := x.1; omega)
          unfold bs
          omega
      · have a1 := cge u
        have a2 := bee u
        have a3 := ume (s + 1) u
        have a4 := um_up C u (show s ≤ s + 1 by omega)
        have a5 : un C' u = un C u := by
          unfold un
          rw [de u e, L.2]
          by_cases p : pr C u
          · rw [if_pos p, if_pos ((pe u).mpr p)]
          · rw [if_neg p, if_neg (fun x => p ((pe u).mp x))]
        unfold bs
        omega
    have : wA C' = wA C := wA_X (by rw [L.2])
    unfold Po
    omega
theorem nextIn_or (C : cr_C) (s t : Nat) : cs_S_nextIn C s t = (none, C) ∨ cs_S_nextIn C s t = (none, cr_sI C 1 s 7 (1 - C.1 1 s 7)) ∨ ∃ μ, C.2.2 t = some μ ∧ C.1 3 t 2 = Int32.ofNat (cr_f8 (C.1 1 s 5 + 1)) ∧ cs_S_nextIn C s t = (some μ, cr_sI C 1 s 5 (Int32.ofNat (cr_f8 (C.1 1 s 5 + 1)))) := by
  unfold cs_S_nextIn
  by_cases c : C.1 3 t 3 = C.1 1 s 7
  · rw [if_pos c]
    by_cases un : C.2.2 t = none
    · rw [if_pos un]
      by_cases c2 : C.1 3 t 2 = C.1 1 s 5
      · rw [if_pos c2]; exact Or.inl rfl
      · rw [if_neg c2]; exact Or.inr (Or.inl rfl)
    · rw [if_neg un]
      by_cases c2 : C.1 3 t 2 = Int32.ofNat (cr_f8 (C.1 1 s 5 + 1))
      · rw [if_pos c2]
        obtain ⟨μ, hμ⟩ : ∃ μ, C.2.2 t = some μ := by
          cases hv : C.2.2 t with
          | none => exact absurd hv un
          | some μ => exact ⟨μ, rfl⟩
        have e : (cr_sI C 1 s 5 (Int32.ofNat (cr_f8 (C.1 1 s 5 + 1)))).2.2 t = some μ := hμ
        exact Or.inr (Or.inr ⟨μ, hμ, c2, by rw [e]⟩)
      · rw [if_neg c2]
        by_cases c3 : C.1 3 t 2 = C.1 1 s 5
        · rw [if_pos c3]; exact Or.inl rfl
        · rw [if_neg c3]; exact Or.inr (Or.inl rfl)
  · rw [if_neg c]; exact Or.inl rfl
theorem IV_nextIn {N : Nat} {C : cr_C} {s t : Nat} (h : IV N s C) (hs : s < 6) (ht : t = ot s) (c4 : C.1 1 s 0 = 4) (f4 : C.1 3 t 0 = 4) : IV N (s + 1) (cs_S_nextIn C s t).2 := by
  rcases nextIn_or C s t with x | x | ⟨μ, hμ, c2, x⟩
  · rw [x]
    exact h.up (by omega)
  · rw [x]
    exact (IV_flip h hs (1 - C.1 1 s 7)).1.up (by omega)
  · rw [x]
    exact (IV_next h hs ht c4 f4 hμ c2).1
theorem IV_numT {N : Nat} {C : cr_C} {e l t : Nat} (h : IV N (2 * l + e) C) (he : e < 2) (hl : l < 3) (ht : t = ot (2 * l + e)) (c4 : C.1 1 (2 * l + e) 0 = 4) (f4 : C.1 3 t 0 = 4) : IV N (2 * l + e + 1) (cs_E_numT C e l t) ∧ Po (2 * l + e + 1) (cs_E_numT C e l t) ≤ Po (2 * l + e) C := by
  have hs : 2 * l + e < 6 := by omega
  have ht6 : t < 6 := by rw [ht]; exact ot_lt hs
  unfold cs_E_numT
  rcases nextIn_or C (2 * l + e) t with x | x | ⟨μ, hμ, c2, x⟩
  · rw [x]
    exact ⟨h.up (by omega), Po_up C (by omega)⟩
  · rw [x]
    obtain ⟨a, b⟩ := IV_flip h hs (1 - C.1 1 (2 * l + e) 7)
    exact ⟨a.up (by omega), Nat.le_trans (Po_up _ (by omega)) b⟩
  · rw [x]
    obtain ⟨a, b⟩ := IV_next h hs ht c4 f4 hμ c2
    have hv : cv_m μ := h.1.1.1.2.2 t ht6 μ hμ
    have hw : mw N μ := h.1.1.2.2.2.1 t ht6 μ hμ
    obtain ⟨a2, b2⟩ := IV_takeIn (l := cr_wl μ) a he hv hw (fun c => (hv.wl c).1)
    exact ⟨a2, Nat.le_trans b2 b⟩
theorem ans_no (C : cr_C) (s : Nat) (x : Int32) (c : (cs_S_answered C s x).1 = 0) : (cs_S_answered C s x).2 = C := by
  unfold cs_S_answered at c ⊢
  by_cases h : Int32.ofNat (cr_f8 ((x - C.1 1 s 4) + Int32.ofNat (C.2.1 s).length)) ≤ Int32.ofNat (C.2.1 s).length
  · rw [if_pos h] at c
    by_cases h2 : Int32.ofNat (cr_f8 ((x - C.1 1 s 4) + Int32.ofNat (C.2.1 s).length)) ≤ 0
    · rw [if_pos h2] at c
      exact absurd (show (1 : Int32) = 0 from c) (by decide)
    · rw [if_neg h2] at c
      exact absurd (show (1 : Int32) = 0 from c) (by decide)
  · simp only [if_neg h]
theorem ans_I (C : cr_C) (s : Nat) (x : Int32) (t j : Nat) : (cs_S_answered C s x).2.1 3 t j = C.1 3 t j := by
  unfold cs_S_answered
  split
  · split
    · rw [cr_sI_ne _ _ (by omega)]; rfl
    · rw [cr_sI_ne _ _ (by omega), cr_sI_ne _ _ (by omega)]; rfl
  · rfl
theorem IV_numA {N k : Nat} {C : cr_C} {e l t : Nat} (h : IV N k C) (he : e < 2) (hl : l < 3) (ht : t = ot (2 * l + e)) (c4 : C.1 1 (2 * l + e) 0 = 4) (f4 : C.1 3 t 0 = 4) : IV N k (cs_E_numA C e l t).2 ∧ Po k (cs_E_numA C e l t).2 ≤ Po k C ∧ (cs_E_numA C e l t).2.1 1 (2 * l + e) 0 = 4 ∧ (cs_E_numA C e l t).2.1 3 t 0 = 4 := by
  have hs : 2 * l + e < 6 := by omega
  obtain ⟨a1, b1⟩ := IV_good h hs c4
  have d4 : (cs_S_countGood C (2 * l + e)).1 1 (2 * l + e) 0 = 4 := by rw [cs_good_I _ _ _ _ _ (by omega)]; exact c4
  have g4 : (cs_S_countGood C (2 * l + e)).1 3 t 0 = 4 := by rw [cs_good_I _ _ _ _ _ (by omega)]; exact f4
  unfold cs_E_numA
  generalize cs_S_countGood C (2 * l + e) = C1 at *
  have k4 := (ans_I C1 (2 * l + e) (C1.1 3 t 4) t 0).trans g4
  by_cases c : (cs_S_answered C1 (2 * l + e) (C1.1 3 t 4)).1 = 0
  · rw [ans_no C1 _ _ c]
    exact ⟨a1, b1, d4, g4⟩
  · obtain ⟨a2, b2, h4⟩ := IV_answered a1 hs ht d4 g4 c
    exact ⟨a2, Nat.le_trans b2 b1, h4, k4⟩
theorem IV_num1 {N : Nat} {C : cr_C} {e l t : Nat} (h : IV N (2 * l + e) C) (he : e < 2) (hl : l < 3) (ht : t = ot (2 * l + e)) (c4 : C.1 1 (2 * l + e) 0 = 4) (f4 : C.1 3 t 0 = 4) : IV N (2 * l + e + 1) (cs_E_num1 C e l t) ∧ Po (2 * l + e + 1) (cs_E_num1 C e l t) ≤ Po (2 * l + e) C := by
  obtain ⟨a, b, h4, k4⟩ := IV_numA h he hl ht c4 f4
  unfold cs_E_num1
  generalize cs_E_numA C e l t = v at *
  by_cases c : v.1 = 0
  · rw [if_pos c]
    obtain ⟨a2, b2⟩ := IV_odd a he hl h4
    exact ⟨a2.up (by omega), Nat.le_trans (Po_up _ (by omega)) (Nat.le_trans b2 b)⟩
  · rw [if_neg c]
    obtain ⟨a3, b3, h5, h6, h7⟩ := IV_numG a he hl h4 t
    have k5 : (cs_E_numG v.2 e l t).1 3 t 0 = 4 := (h6 3 t 0 (by omega)).trans k4
    generalize cs_E_numG v.2 e l t = C3 at *
    obtain ⟨a4, b4⟩ := IV_numT a3 he hl ht h5 k5
    exact ⟨a4, Nat.le_trans b4 (Nat.le_trans b3 b)⟩
theorem IV_numbered {N : Nat} {C : cr_C} {e l t : Nat} (h : IV N (2 * l + e) C) (he : e < 2) (hl : l < 3) (ht : t = ot (2 * l + e)) (f4 : C.1 3 t 0 = 4) : IV N (2 * l + e + 1) (cs_E_numberedComes C e l t) ∧ Po (2 * l + e + 1) (cs_E_numberedComes C e l t) ≤ Po (2 * l + e) C := by
  have hs : 2 * l + e < 6 := by omega
  unfold cs_E_numberedComes
  by_cases c3 : C.1 1 (2 * l + e) 0 = 3
  · rw [if_pos c3]
    obtain ⟨a, b⟩ := IV_come4 h hs c3
    have e0 : (cs_S_comeTo C (2 * l + e) 4).1 1 (2 * l + e) 0 = 4 := by simp [cs_S_comeTo, cr_sI, cr_u]
    have e3 : (cs_S_comeTo C (2 * l + e) 4).1 3 t 0 = 4 := by
      unfold cs_S_comeTo
      rw [cr_sI_ne _ _ (by omega), cr_sI_ne _ _ (by omega)]
      exact f4
    generalize cs_S_comeTo C (2 * l + e) 4 = C1 at *
    obtain ⟨a2, b2⟩ := IV_num1 a he hl ht e0 e3
    exact ⟨a2, Nat.le_trans b2 b⟩
  · rw [if_neg c3]
    by_cases c4 : C.1 1 (2 * l + e) 0 = 4
    · rw [if_pos c4]
      exact IV_num1 h he hl ht c4 f4
    · rw [if_neg c4]
      exact ⟨h.up (by omega), Po_up C (by omega)⟩
/-- numbers that nothing of it reads -/
theorem flt_cq (C : cr_C) {κ i j : Nat} {x : Int32} (hκ : κ = 2 ∨ κ = 4 ∨ 7 ≤ κ) (t : Nat) : cq C (cr_sI C κ i j x) t := ⟨cr_sI_ne _ _ (by omega), cr_sI_ne _ _ (by omega), cr_sI_ne _ _ (by omega), fun _ => cr_sI_ne _ _ (by omega), rfl, rfl⟩
theorem Po_num (k : Nat) (C : cr_C) {κ i j : Nat} {x : Int32} (hκ : κ = 4 ∨ 7 ≤ κ ∨ (κ = 2 ∧ j = 3)) : Po k (cr_sI C κ i j x) = Po k C := by
  have hc : ∀ t, cq C (cr_sI C κ i j x) t := fun t => ⟨cr_sI_ne _ _ (by omega), cr_sI_ne _ _ (by omega), cr_sI_ne _ _ (by omega), fun _ => cr_sI_ne _ _ (by omega), rfl, rfl⟩
  have h1 : wA (cr_sI C κ i j x) = wA C := wA_X rfl
  have h2 : bs (cr_sI C κ i j x) k = bs C k := funext fun t => by
    have e1 := un_of (hc t) (hc (ot t))
    have e2 := um_of (k := k) (hc t)
    have e3 : be (cr_sI C κ i j x) t = be C t := be_of (cr_sI_ne _ _ (by omega)) (cr_sI_ne _ _ (by omega))
    have e4 : cg (cr_sI C κ i j x) t = cg C t := cg_of (cr_sI_ne _ _ (by omega)) (cr_sI_ne _ _ (by omega)) (cr_sI_ne _ _ (by omega))
    unfold bs
    rw [e1, e2, e3, e4]
  unfold Po
  rw [h1, h2]
theorem iz_num {N : Nat} {C : cr_C} (h : iz N C) {κ i j : Nat} {x : Int32} (hκ : κ = 4 ∨ 7 ≤ κ ∨ (κ = 2 ∧ (j = 3 ∨ j = 1))) (hv : cv (cr_sI C κ i j x)) (hx : κ = 4 → j = 1 → nb x 100) : iz N (cr_sI C κ i j x) := by
  refine ⟨hv, fun t ht => ?_, ?_⟩
  · obtain ⟨hA, hB, hD, hE⟩ := h.2.1 t ht
    refine ⟨hA.of (fun q _ => cr_sI_ne _ _ (by omega)), hB.of (fun q _ => cr_sI_ne _ _ (by omega)) (cr_sI_ne _ _ (by omega)), hD.of (fun q _ _ => cr_sI_ne _ _ (by omega)) (fun q => cr_sI_ne _ _ (by omega)) rfl, ?_⟩
    have e0 : (cr_sI C κ i j x).1 1 t 0 = C.1 1 t 0 := cr_sI_ne _ _ (by omega)
    refine ⟨?_, ?_⟩
    · rw [e0]
      exact hE.1
    · by_cases c : κ = 4 ∧ t = i ∧ j = 1
      · obtain ⟨rfl, rfl, rfl⟩ := c
        rw [cr_sI_at]
        exact hx rfl rfl
      · rw [cr_sI_ne _ _ (by omega)]
        exact hE.2
  · have := h.2.2
    unfold iM at this ⊢
    exact this
theorem IV_flt {N k : Nat} {C : cr_C} (h : IV N k C) {s j : Nat} (x : Int32) (hx : j = 1 → nb x 100) : IV N k (cr_sI C 4 s j x) ∧ Po k (cr_sI C 4 s j x) ≤ Po k C := by
  have hv : cv (cr_sI C 4 s j x) := ((cw_sI (cw_refl C) rfl : cw C (cr_sI C 4 s j x) 0) h.1.1.1).1
  have hc : ∀ t, t < 6 → cq C (cr_sI C 4 s j x) t := fun t _ => flt_cq C (Or.inr (Or.inl rfl)) t
  refine ⟨⟨⟨iz_num h.1.1 (Or.inl rfl) hv (fun _ => hx), IW.core h.1.2 hc⟩, IV.core h.2 hc⟩, ?_⟩
  rw [Po_num k C (Or.inl rfl)]
  exact Nat.le_refl _
theorem IV_arrive {N : Nat} {C : cr_C} {l e : Nat} (h : IV N (2 * l + e) C) (hl : l < 3) (he : e < 2) : IV N (2 * l + e + 1) (cs_P_arrive C l e).2 ∧ Po (2 * l + e + 1) (cs_P_arrive C l e).2 ≤ Po (2 * l + e) C := by
  have hs : 2 * l + e < 6 := by omega
  have ht := (ot_le (l := l) he).symm
  have up : ∀ C', IV N (2 * l + e) C' ∧ Po (2 * l + e) C' ≤ Po (2 * l + e) C → IV N (2 * l + e + 1) C' ∧ Po (2 * l + e + 1) C' ≤ Po (2 * l + e) C := fun C' x => ⟨x.1.up (by omega), Nat.le_trans (Po_up _ (by omega)) x.2⟩
  unfold cs_P_arrive cs_P_arr1
  generalize 2 * l + (1 - e) = t at *
  by_cases c0 : C.1 3 t 0 = 0
  · rw [if_pos c0]
    exact up C ⟨h, Nat.le_refl _⟩
  · rw [if_neg c0]
    by_cases cl : C.1 4 (2 * l + e) 1 ≤ 0
    · rw [if_pos cl]
      by_cases c4 : C.1 3 t 0 = 4
      · rw [if_pos c4]
        exact IV_numbered h he hl ht c4
      · rw [if_neg c4]
        exact up _ (IV_status h he hl ht)
    · rw [if_neg cl]
      have hb : nb (C.1 4 (2 * l + e) 1 - 1) 100 := by
        obtain ⟨u, hu, eu⟩ := (h.1.1.2.1 _ hs).2.2.2.2
        rw [eu] at cl ⊢
        have hu0 : 1 ≤ u := by
          rcases Nat.eq_zero_or_pos u with x | x
          · rw [x] at cl; exact absurd (by decide) cl
          · exact x
        exact ⟨u - 1, by omega, (nI_dn (a := 1) hu0).symm⟩
      obtain ⟨a, b⟩ := IV_flt h (s := 2 * l + e) (j := 1) (C.1 4 (2 * l + e) 1 - 1) (fun _ => hb)
      generalize cr_sI C 4 (2 * l + e) 1 (C.1 4 (2 * l + e) 1 - 1) = C1 at *
      by_cases c2 : C1.1 4 (2 * l + e) 0 = 2
      · rw [if_pos c2]
        obtain ⟨a2, b2⟩ := IV_damaged a he hl
        exact up _ ⟨a2, Nat.le_trans b2 b⟩
      · rw [if_neg c2]
        exact up _ ⟨a, b⟩
/-! what the two, side by side, want of it -/
theorem iv_s_of {N : Nat} {C : cr_C} (h : iz N C) (hN : N < 1024) {s : Nat} (hs : s < 6) : iv_s C s := by
  obtain ⟨hA, hB, hD, hE⟩ := h.2.1 s hs
  obtain ⟨u, hu, eu⟩ := hB.2.2.2.2.1
  exact ⟨hE.1, h.1.1.2.2 s hs, hD.2.2.2.1, hD.2.2.2.2.1, u, by omega, eu⟩
theorem iv_t_of {N k : Nat} {C : cr_C} (h : IV N k C) (hN : N < 1024) {e : Nat} (he : e < 2) {μ : cr_m} (hv : cv_m μ) (hw : mw N μ) : iv_t C e μ := by
  refine ⟨hv, fun c => ?_, fun l hl => iv_s_of h.1.1 hN (by omega), h.1.1.1, fun l hl => iv_s_of (IV_ord0 h he hl μ).1.1.1 hN (by omega)⟩
  obtain ⟨a, u, hu, eu⟩ := hw c
  exact ⟨a, u, by omega, eu⟩
theorem iv_n_of {N : Nat} {C : cr_C} {e l t : Nat} (h : IV N (2 * l + e) C) (hN : N < 1024) (he : e < 2) (hl : l < 3) (ht : t = ot (2 * l + e)) (c4 : C.1 1 (2 * l + e) 0 = 4) (f4 : C.1 3 t 0 = 4) : iv_n C e l t := by
  have hs : 2 * l + e < 6 := by omega
  have ht6 : t < 6 := by rw [ht]; exact ot_lt hs
  obtain ⟨hA, hB, hD, hE⟩ := h.1.1.2.1 _ hs
  obtain ⟨a8, a9, ⟨u, hu, eu⟩, a11, a12, a13⟩ := hA.2.2.2 (by rw [c4]; decide)
  refine ⟨iv_s_of h.1.1 hN hs, a11, ⟨u, by omega, eu⟩, a13, fun μ hμ => ?_⟩
  obtain ⟨a, b, h4, k4⟩ := IV_numA h he hl ht c4 f4
  generalize (cs_E_numA C e l t).2 = C2 at *
  obtain ⟨a3, b3, h5, h6, h7⟩ := IV_numG a he hl h4 t
  have k5 : (cs_E_numG C2 e l t).1 3 t 0 = 4 := (h6 3 t 0 (by omega)).trans k4
  generalize cs_E_numG C2 e l t = C3 at *
  have hU : C3.2.2 t = some μ := cs_nextIn1 C3 (2 * l + e) t hμ
  exact iv_t_of (IV_nextIn a3 hs ht h5 k5) hN he (a3.1.1.1.2.2 t ht6 μ hU) (a3.1.1.2.2.2.1 t ht6 μ hU)
theorem iv_a_of {N : Nat} {C : cr_C} {l e : Nat} (h : IV N (2 * l + e) C) (hN : N < 1024) (hl : l < 3) (he : e < 2) : iv_a C l e := by
  have hs : 2 * l + e < 6 := by omega
  have ht := (ot_le (l := l) he).symm
  obtain ⟨hA, hB, hD, hE⟩ := h.1.1.2.1 _ hs
  refine ⟨hE.2, iv_s_of h.1.1 hN hs, hA.1, fun c => ⟨(hA.2.2.2 (by rw [c]; decide)).1, (hA.2.2.2 (by rw [c]; decide)).2.1⟩, fun c => (hA.2.2.2 (by rw [c]; decide)).2.2.1, fun c f => iv_n_of h hN he hl ht c f, fun c f => ?_⟩
  refine iv_n_of (IV_come4 h hs c).1 hN he hl ht ?_ ?_
  · simp [cs_S_comeTo, cr_sI, cr_u]
  · unfold cs_S_comeTo
    rw [cr_sI_ne _ _ (by omega), cr_sI_ne _ _ (by omega)]
    exact f
