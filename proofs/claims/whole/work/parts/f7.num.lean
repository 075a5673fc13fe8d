/-! the invariant: what comes with a number, first half -/
theorem IV_come4 {N k : Nat} {C : cr_C} (h : IV N k C) {s : Nat} (hs : s < 6) (c3 : C.1 1 s 0 = 3) : IV N k (cs_S_comeTo C s 4) ∧ Po k (cs_S_comeTo C s 4) ≤ Po k C := by
  obtain ⟨hA, hB, hD, hE⟩ := h.1.1.2.1 s hs
  have L : Lo C (cs_S_comeTo C s 4) s := (Lo.refl C s).comeTo
  have e0 : (cs_S_comeTo C s 4).1 1 s 0 = 4 := by simp [cs_S_comeTo, cr_sI, cr_u]
  have ek : ∀ j, 2 ≤ j → (cs_S_comeTo C s 4).1 1 s j = C.1 1 s j := fun j hj => by
    unfold cs_S_comeTo
    rw [cr_sI_ne _ _ (by omega), cr_sI_ne _ _ (by omega)]
  generalize cs_S_comeTo C s 4 = C' at *
  have f3 : ∀ t j, C'.1 3 t j = C.1 3 t j := fun t j => L.1 _ _ _ (by omega)
  have hh : h2 (C'.1 1 s 0) ↔ h2 (C.1 1 s 0) := by
    rw [e0, c3]
    exact ⟨fun _ => by decide, fun _ => by decide⟩
  obtain ⟨p1, p2, p3, p4⟩ := h.2 s hs
  have bB : iB N C' s := hB.st (fun j hj => ek j hj.1) (L.1 _ _ _ (by omega)) (fun _ x => absurd e0 x)
  have aA : iA C' s := by
    unfold iA
    rw [e0, ek 8 (by omega), ek 9 (by omega), ek 10 (by omega), ek 11 (by omega), ek 12 (by omega), ek 13 (by omega)]
    exact ⟨⟨4, by omega, rfl⟩, fun x => by rcases x with x | x <;> exact absurd x (by decide), fun x => absurd x (by decide), fun _ => hA.2.2.2 (by rw [c3]; decide)⟩
  refine ⟨⟨⟨(L.ky (h.1.1.y s) bB (fun x => absurd e0 x)).z aA, L.kq1 h.1.2 hh (ek 4 (by omega)) (ek 5 (by omega)) (fun _ => Or.inr (fun x => p3 x.1 x.2 c3))⟩, fun t ht => ?_⟩, L.kPo (b := 0) hs hh (ek 4 (by omega)) (ek 5 (by omega)) (fun x => absurd e0 x) (by rw [be_st.2.2 (Or.inr e0), be_st.2.2 (Or.inl c3)]; omega)⟩
  by_cases e : t = s
  · subst e
    refine ⟨fun _ _ x => ?_, fun x => ?_, fun _ _ => by rw [e0]; decide, fun _ x => absurd (e0.symm.trans x) (by decide)⟩
    · rw [ek 5 (by omega), f3]
      exact p1 (by rw [c3]; decide) (by rw [c3]; decide) (by rw [← f3]; exact x)
    · rw [f3] at x
      exact absurd c3 (p2 x).1
  · obtain ⟨a0, a4, a5, a3, aU, aX⟩ := L.cqn e
    have q := h.2 t ht
    unfold q2 at q ⊢
    rw [a0, a5, f3 t 0, f3 t 4, f3 (ot t) 0, aU]
    exact q
theorem IV_good {N k : Nat} {C : cr_C} (h : IV N k C) {s : Nat} (hs : s < 6) (c4 : C.1 1 s 0 = 4) : IV N k (cs_S_countGood C s) ∧ Po k (cs_S_countGood C s) ≤ Po k C := by
  obtain ⟨hA, hB, hD, hE⟩ := h.1.1.2.1 s hs
  obtain ⟨a8, a9, a10, a11, a12, a13⟩ := hA.2.2.2 (by rw [c4]; decide)
  have eI := cs_good_I C s
  have L : Lo C (cs_S_countGood C s) s := by
    unfold cs_S_countGood
    repeat' split
    · exact (Lo.refl C s).sI
    · exact (Lo.refl C s).sI.sI
    · exact (Lo.refl C s).sI.sI.sI
  have hn : nb ((cs_S_countGood C s).1 1 s 10) 4 ∧ nb ((cs_S_countGood C s).1 1 s 11) 8 := by
    unfold cs_S_countGood
    rw [cr_sI_at]
    by_cases c : C.1 1 s 11 + 1 < 8
    · rw [if_pos c]
      refine ⟨?_, ?_⟩
      · rw [cr_sI_ne _ _ (by omega)]; exact a10
      · rw [cr_sI_at]; exact a11.inc (M := 8) (by omega) (by omega) c
    · rw [if_neg c]
      have e10 : (cr_sI (cr_sI C 1 s 11 (C.1 1 s 11 + 1)) 1 s 11 0).1 1 s 10 = C.1 1 s 10 := by rw [cr_sI_ne _ _ (by omega), cr_sI_ne _ _ (by omega)]
      rw [e10]
      by_cases c0 : C.1 1 s 10 ≤ 0
      · rw [if_pos c0]
        refine ⟨?_, ?_⟩
        · rw [e10]; exact a10
        · rw [cr_sI_at]; exact nb_0 (by omega)
      · rw [if_neg c0]
        refine ⟨?_, ?_⟩
        · rw [cr_sI_at]
          obtain ⟨u, hu, eu⟩ := a10
          rw [eu] at c0 ⊢
          have hu0 : 1 ≤ u := by
            rcases Nat.eq_zero_or_pos u with x | x
            · rw [x] at c0; exact absurd (by decide) c0
            · exact x
          exact ⟨u - 1, by omega, (nI_dn (a := 1) hu0).symm⟩
        · rw [cr_sI_ne _ _ (by omega), cr_sI_at]; exact nb_0 (by omega)
  generalize cs_S_countGood C s = C' at *
  obtain ⟨y, q, p, w⟩ := LoV (k := k) (b := 0) h L hs (eI _ _ _ (by omega)) (eI _ _ _ (by omega)) (eI _ _ _ (by omega)) (hB.of (fun j hj => eI _ _ _ (by omega)) (eI _ _ _ (by omega))) (by rw [be_of (C := C) (C' := C') (eI _ _ _ (by omega)) (eI _ _ _ (by omega))]; exact Nat.le_refl _)
  refine ⟨⟨⟨y.z ?_, q⟩, p⟩, w⟩
  unfold iA
  rw [eI 1 s 0 (by omega), eI 1 s 1 (by omega), eI 1 s 8 (by omega), eI 1 s 9 (by omega), eI 1 s 12 (by omega), eI 1 s 13 (by omega)]
  exact ⟨hA.1, hA.2.1, hA.2.2.1, fun _ => ⟨a8, a9, hn.1, hn.2, a12, a13⟩⟩
theorem f8_ans {F B X : Int32} {n : Nat} (hn : n ≤ 5) (hc : cr_f8 (X - F + Int32.ofNat n) ≤ n) (hD : cr_f8 (F - B) ≤ n) (hB : B = X ∨ B = Int32.ofNat (cr_f8 (X + 1))) : cr_f8 (F - B) ≤ n - cr_f8 (X - F + Int32.ofNat n) := by
  have h1 := X.toBitVec.isLt
  have h2 := F.toBitVec.isLt
  have e1 : (X - F + Int32.ofNat n).toBitVec = X.toBitVec - F.toBitVec + BitVec.ofNat 32 n := rfl
  have e2 : (F - B).toBitVec = F.toBitVec - B.toBitVec := rfl
  have g1 := cr_f8_nat (X - F + Int32.ofNat n)
  rw [e1, BitVec.toNat_add, BitVec.toNat_sub, BitVec.toNat_ofNat] at g1
  have g2 := cr_f8_nat (F - B)
  rw [e2, BitVec.toNat_sub] at g2
  generalize cr_f8 (X - F + Int32.ofNat n) = c at *
  generalize cr_f8 (F - B) = d at *
  rcases hB with rfl | rfl
  · omega
  · have e3 : (Int32.ofNat (cr_f8 (X + 1))).toBitVec = BitVec.ofNat 32 (cr_f8 (X + 1)) := rfl
    have e4 : (X + 1).toBitVec = X.toBitVec + 1#32 := rfl
    have h3 := cr_f8lt (X + 1)
    have h4 := cr_f8_nat (X + 1)
    rw [e4, BitVec.toNat_add, show (1#32 : BitVec 32).toNat = 1 from rfl] at h4
    rw [e3, BitVec.toNat_ofNat] at g2
    omega
theorem wn_cons_drop {zs : List cr_m} {j : Nat} {μ : cr_m} (h : zs[j]? = some μ) : wn (zs.drop j) = uk (some μ) + wn (zs.drop (j + 1)) := by
  obtain ⟨hj, e⟩ := List.getElem?_eq_some_iff.mp h
  rw [List.drop_eq_getElem_cons hj, e]
  rfl
/-- the answer can be: so many are sent no more -/
theorem IV_answered {N k : Nat} {C : cr_C} (h : IV N k C) {s t : Nat} (hs : s < 6) (ht : t = ot s) (c4 : C.1 1 s 0 = 4) (f4 : C.1 3 t 0 = 4) (hok : (cs_S_answered C s (C.1 3 t 4)).1 ≠ 0) : IV N k (cs_S_answered C s (C.1 3 t 4)).2 ∧ Po k (cs_S_answered C s (C.1 3 t 4)).2 ≤ Po k C ∧ (cs_S_answered C s (C.1 3 t 4)).2.1 1 s 0 = 4 := by
  have ht6 : t < 6 := by rw [ht]; exact ot_lt hs
  have hts : t ≠ s := by rw [ht]; exact ot_ne s
  have h5 := h.1.1.1.1.2.2 s hs
  have hcv := (cw_answered C hs (C.1 3 t 4) h.1.1.1).1
  generalize hX : C.1 3 t 4 = X at *
  -- what it is
  have hd : cr_f8 ((X - C.1 1 s 4) + Int32.ofNat (C.2.1 s).length) ≤ (C.2.1 s).length ∧ ∃ y z, (cs_S_answered C s X).2 = cr_sI (cr_sI (cr_sX C s ((C.2.1 s).drop (cr_f8 ((X - C.1 1 s 4) + Int32.ofNat (C.2.1 s).length)))) 1 s 15 y) 1 s 12 z ∧ (z = 0 ∨ z = C.1 1 s 12) := by
    have h8 := cr_f8lt ((X - C.1 1 s 4) + Int32.ofNat (C.2.1 s).length)
    unfold cs_S_answered at hok ⊢
    generalize cr_f8 ((X - C.1 1 s 4) + Int32.ofNat (C.2.1 s).length) = c at *
    by_cases cl : Int32.ofNat c ≤ Int32.ofNat (C.2.1 s).length
    · refine ⟨?_, ?_⟩
      · rcases Nat.lt_or_ge (C.2.1 s).length c with x | x
        · exact absurd cl (i_ge x (by omega))
        · exact x
      · rw [if_pos cl]
        by_cases c0 : Int32.ofNat c ≤ 0
        · rw [if_pos c0]
          have e12 : ∀ y, (cr_sI (cr_sX C s ((C.2.1 s).drop c)) 1 s 15 y).1 1 s 12 = C.1 1 s 12 := fun y => by rw [cr_sI_ne _ _ (by omega)]; rfl
          have := cr_sI_same (cr_sI (cr_sX C s ((C.2.1 s).drop c)) 1 s 15 (if Int32.ofNat ((cr_sX C s ((C.2.1 s).drop c)).2.1 s).length < (cr_sX C s ((C.2.1 s).drop c)).1 1 s 15 then Int32.ofNat ((cr_sX C s ((C.2.1 s).drop c)).2.1 s).length else (cr_sX C s ((C.2.1 s).drop c)).1 1 s 15)) 1 s 12
          rw [e12] at this
          exact ⟨_, C.1 1 s 12, this.symm, Or.inr rfl⟩
        · rw [if_neg c0]
          exact ⟨_, 0, rfl, Or.inl rfl⟩
    · rw [if_neg cl] at hok
      exact absurd rfl hok
  obtain ⟨hc, y, z, eC, hz⟩ := hd
  rw [eC] at hcv ⊢
  clear eC
  have eI : ∀ κ i j, ¬ (κ = 1 ∧ i = s ∧ (j = 15 ∨ j = 12)) → (cr_sI (cr_sI (cr_sX C s ((C.2.1 s).drop (cr_f8 ((X - C.1 1 s 4) + Int32.ofNat (C.2.1 s).length)))) 1 s 15 y) 1 s 12 z).1 κ i j = C.1 κ i j := fun κ i j hne => by
    rw [cr_sI_ne _ _ (by omega), cr_sI_ne _ _ (by omega)]
    rfl
  have e12 : (cr_sI (cr_sI (cr_sX C s ((C.2.1 s).drop (cr_f8 ((X - C.1 1 s 4) + Int32.ofNat (C.2.1 s).length)))) 1 s 15 y) 1 s 12 z).1 1 s 12 = z := cr_sI_at _ _ _ _ _
  have xs : (cr_sI (cr_sI (cr_sX C s ((C.2.1 s).drop (cr_f8 ((X - C.1 1 s 4) + Int32.ofNat (C.2.1 s).length)))) 1 s 15 y) 1 s 12 z).2.1 s = (C.2.1 s).drop (cr_f8 ((X - C.1 1 s 4) + Int32.ofNat (C.2.1 s).length)) := cr_sX_at _ _ _
  have xr : ∀ r, r ≠ s → (cr_sI (cr_sI (cr_sX C s ((C.2.1 s).drop (cr_f8 ((X - C.1 1 s 4) + Int32.ofNat (C.2.1 s).length)))) 1 s 15 y) 1 s 12 z).2.1 r = C.2.1 r := fun r hr => cr_sX_ne _ _ hr
  have eU : (cr_sI (cr_sI (cr_sX C s ((C.2.1 s).drop (cr_f8 ((X - C.1 1 s 4) + Int32.ofNat (C.2.1 s).length)))) 1 s 15 y) 1 s 12 z).2.2 = C.2.2 := rfl
  have eA : wA (cr_sI (cr_sI (cr_sX C s ((C.2.1 s).drop (cr_f8 ((X - C.1 1 s 4) + Int32.ofNat (C.2.1 s).length)))) 1 s 15 y) 1 s 12 z) + (C.2.1 s).length = wA C + ((C.2.1 s).length - cr_f8 ((X - C.1 1 s 4) + Int32.ofNat (C.2.1 s).length)) := by
    have a := wA_sX C ((C.2.1 s).drop (cr_f8 ((X - C.1 1 s 4) + Int32.ofNat (C.2.1 s).length))) (show s < 22 by omega)
    rw [wr_lo (Or.inl hs), wr_lo (Or.inl hs), List.length_drop] at a
    exact a
  generalize cr_sI (cr_sI (cr_sX C s ((C.2.1 s).drop (cr_f8 ((X - C.1 1 s 4) + Int32.ofNat (C.2.1 s).length)))) 1 s 15 y) 1 s 12 z = C' at *
  -- how many have not come
  have hP1 : pr C s → dd C s ≤ (C.2.1 s).length - cr_f8 ((X - C.1 1 s 4) + Int32.ofNat (C.2.1 s).length) := by
    intro p
    have hD := (h.1.2 s hs).1 p
    unfold dd at hD ⊢
    rw [← ht] at hD ⊢
    refine f8_ans h5 hc hD ?_
    obtain ⟨p1, p2, p3, p4⟩ := h.2 t ht6
    have n2 : C.1 1 t 0 ≠ 2 := fun x => by
      have y := p4 f4 x
      rw [show ot t = s by rw [ht, ot_ot]] at y
      exact ((h.2 s hs).2.1 y).2 c4
    have hp : h2 (C.1 1 t 0) := by rw [ht]; exact p.2
    rw [← hX]
    exact (p1 hp n2 f4).2
  generalize cr_f8 ((X - C.1 1 s 4) + Int32.ofNat (C.2.1 s).length) = c at *
  have pe : ∀ t, pr C' t ↔ pr C t := fun t => by
    unfold pr
    rw [eI 1 t 0 (by omega), eI 1 (ot t) 0 (by omega)]
  have de : ∀ t, dd C' t = dd C t := fun t => by
    unfold dd
    rw [eI 1 t 4 (by omega), eI 1 (ot t) 5 (by omega)]
  have je : ∀ t, jj C' t = jj C t := fun t => by
    unfold jj
    rw [eI 1 t 4 (by omega), eI 3 t 2 (by omega)]
  have hls : (C'.2.1 s).length = (C.2.1 s).length - c := by rw [xs, List.length_drop]
  refine ⟨⟨⟨⟨hcv, fun u hu => ?_, fun q hq ν hν => ?_, ?_, fun e he => ?_⟩, fun u hu => ?_⟩, fun u hu => ?_⟩, ?_, (eI 1 s 0 (by omega)).trans c4⟩
  · obtain ⟨hA, hB, hD, hE⟩ := h.1.1.2.1 u hu
    refine ⟨?_, hB.of (fun j _ => eI _ _ _ (by omega)) (eI _ _ _ (by omega)), hD.of (fun j _ _ => eI _ _ _ (by omega)) (fun i => eI _ _ _ (by omega)) (xr _ (by omega)), ?_⟩
    · by_cases e : u = s
      · subst e
        obtain ⟨a8, a9, a10, a11, a12, a13⟩ := hA.2.2.2 (by rw [c4]; decide)
        unfold iA
        rw [eI 1 u 0 (by omega), eI 1 u 1 (by omega), eI 1 u 8 (by omega), eI 1 u 9 (by omega), eI 1 u 10 (by omega), eI 1 u 11 (by omega), eI 1 u 13 (by omega), e12]
        refine ⟨hA.1, hA.2.1, hA.2.2.1, fun _ => ⟨a8, a9, a10, a11, ?_, a13⟩⟩
        rcases hz with rfl | rfl
        · exact nb_0 (by omega)
        · exact a12
      · exact hA.of (fun j _ => eI _ _ _ (by omega))
    · by_cases e : u = s
      · subst e
        refine ⟨fun x => absurd ((eI 1 u 0 (by omega)).trans c4) x, ?_⟩
        rw [eI 4 u 1 (by omega)]
        exact hE.2
      · exact hE.of (eI _ _ _ (by omega)) (xr _ e) (fun _ => xr _ (by omega)) (eI _ _ _ (by omega))
  · by_cases e : q = s
    · rw [e, xs] at hν
      exact h.1.1.2.2.1 s (by omega) ν (List.mem_of_mem_drop hν)
    · rw [xr _ e] at hν
      exact h.1.1.2.2.1 q hq ν hν
  · rw [eU]
    exact h.1.1.2.2.2.1
  · rw [xr _ (by omega)]
    exact h.1.1.2.2.2.2 e he
  · obtain ⟨r1, r2⟩ := h.1.2 u hu
    by_cases e : u = s
    · subst e
      refine ⟨fun p => ?_, fun x f μ hμ => ?_⟩
      · rw [de, hls]
        exact hP1 ((pe u).mp p)
      · rw [eU] at hμ
        rw [eI 3 u 0 (by omega)] at f
        obtain ⟨j1, j2⟩ := r2 c4 f μ hμ
        rw [je, hls]
        refine ⟨j1, fun jl => ?_⟩
        rw [xs, List.getElem?_drop, show c + ((C.2.1 u).length - c - 1 - jj C u) = (C.2.1 u).length - 1 - jj C u by omega]
        exact j2 (by omega)
    · refine ⟨fun p => ?_, fun x f μ hμ => ?_⟩
      · rw [de, xr _ e]
        exact r1 ((pe u).mp p)
      · rw [eU] at hμ
        rw [eI 3 u 0 (by omega)] at f
        rw [eI 1 u 0 (by omega)] at x
        rw [je, xr _ e]
        exact r2 x f μ hμ
  · have q := h.2 u hu
    unfold q2 at q ⊢
    rw [eI 1 u 0 (by omega), eI 1 u 5 (by omega), eI 3 u 0 (by omega), eI 3 u 4 (by omega), eI 3 (ot u) 0 (by omega), eU]
    exact q
  · have key : cr_su (bs C' k) 6 ≤ cr_su (bs C k) 6 := su_le (fun u hu => by
      have a1 : un C' u = un C u := by
        unfold un
        rw [de]
        by_cases p : pr C u
        · rw [if_pos p, if_pos ((pe u).mpr p)]
          by_cases e : u = s
          · subst e
            have := hP1 p
            rw [hls, xs, List.drop_drop, show c + ((C.2.1 u).length - c - dd C u) = (C.2.1 u).length - dd C u by omega]
          · rw [xr _ e]
        · rw [if_neg p, if_neg (fun x => p ((pe u).mp x))]
      have a2 : cg C' u = cg C u := cg_of (eI _ _ _ (by omega)) (eI _ _ _ (by omega)) (eI _ _ _ (by omega))
      have a3 : um C' k u = um C k u := by
        unfold um
        rw [eI 3 u 0 (by omega), eI 1 u 0 (by omega), eU]
      have a4 : be C' u = be C u := be_of (eI _ _ _ (by omega)) (eI _ _ _ (by omega))
      unfold bs
      omega)
    unfold Po
    omega
