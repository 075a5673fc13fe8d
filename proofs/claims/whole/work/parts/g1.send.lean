/-! the invariant: what a side sends -/
def p1 (C : cr_C) (s : Nat) : Prop := pr C s → dd C s ≤ (C.2.1 s).length
def p3 (C : cr_C) (s : Nat) : Prop := C.1 1 s 0 = 4 → C.1 3 s 0 = 4 → ∀ μ, C.2.2 s = some μ → jj C s ≤ 4 ∧ (jj C s < (C.2.1 s).length → (C.2.1 s)[(C.2.1 s).length - 1 - jj C s]? = some μ)
/-- what is so of a side and its unit once it has sent -/
def q3 (C : cr_C) (s : Nat) : Prop := (C.1 3 s 0 = 4 → (C.1 1 s 0 = 3 ∨ C.1 1 s 0 = 4) ∧ C.1 1 s 5 = C.1 3 s 4 ∧ (C.2.2 s = none ∨ C.1 1 s 0 = 4)) ∧ (C.1 3 s 0 = 2 ∨ C.1 3 s 0 = 3 → C.1 1 s 0 ≠ 3 ∧ C.1 1 s 0 ≠ 4)
theorem q3.two {C : cr_C} {s : Nat} (h : q3 C s) : q2 0 C s := by
  refine ⟨fun _ _ f => ⟨fun _ => (h.1 f).2.1, Or.inl (h.1 f).2.1⟩, h.2, fun f u x => ?_, fun f x => ?_⟩
  · rcases (h.1 f).2.2 with y | y
    · exact u y
    · rw [x] at y
      exact absurd y (by decide)
  · rcases (h.1 f).1 with y | y <;> rw [x] at y <;> exact absurd y (by decide)
theorem um_q3 {C : cr_C} {s : Nat} (h : q3 C s) (k : Nat) : um C k s = 0 := by
  unfold um
  by_cases c : k ≤ ot s ∧ C.1 3 s 0 = 4 ∧ C.1 1 s 0 ≠ 4
  · rw [if_pos c]
    rcases (h.1 c.2.1).2.2 with y | y
    · rw [y]
      rfl
    · exact absurd y c.2.2
  · exact if_neg c
theorem q3.of {C C' : cr_C} {s : Nat} (h : q3 C s) (n : ∀ κ j, C'.1 κ s j = C.1 κ s j) (u : C'.2.2 s = C.2.2 s) : q3 C' s := by
  unfold q3 at h ⊢
  rw [n 3 0, n 1 0, n 1 5, n 3 4, u]
  exact h
theorem um_6 (C : cr_C) {t : Nat} (ht : t < 6) : um C 6 t = 0 := if_neg (fun x => by have := ot_lt ht; omega)
def Sn (N : Nat) (C C' : cr_C) (s : Nat) : Prop := (∀ κ i j, ¬ (i = s ∧ (κ = 3 ∨ (κ = 1 ∧ (j = 14 ∨ j = 15)))) → C'.1 κ i j = C.1 κ i j) ∧ C'.2.1 = C.2.1 ∧ (∀ t, t ≠ s → C'.2.2 t = C.2.2 t) ∧ nb (C'.1 3 s 1) (N + 1) ∧ (∀ μ, C'.2.2 s = some μ → mw N μ) ∧ p3 C' s
theorem Sn.k {N : Nat} {C C' : cr_C} {s : Nat} (S : Sn N C C' s) (hz : iz N C) (h1 : ∀ t, t < 6 → p1 C t) (h3 : ∀ t, t < 6 → t ≠ s → p3 C t) (hv : cv C') : IW N C' ∧ Po 6 C' = Po 6 C := by
  obtain ⟨n, eX, eU, hb, hm, h3'⟩ := S
  have n0 : ∀ t j, j ≠ 14 → j ≠ 15 → C'.1 1 t j = C.1 1 t j := fun t j a b => n _ _ _ (by omega)
  refine ⟨⟨⟨hv, fun t ht => ?_, ?_⟩, fun t ht => ⟨?_, ?_⟩⟩, ?_⟩
  · obtain ⟨hA, hB, hD, hE⟩ := hz.2.1 t ht
    refine ⟨hA.of (fun j _ => n0 _ _ (by omega) (by omega)), ?_, hD.of (fun j _ _ => n _ _ _ (by omega)) (fun i => n _ _ _ (by omega)) (by rw [eX]), hE.of (n0 _ _ (by omega) (by omega)) (by rw [eX]) (fun _ => by rw [eX]) (n _ _ _ (by omega))⟩
    by_cases e : t = s
    · rw [e] at hB ⊢
      obtain ⟨b1, b2, b3, b4, b5, b6⟩ := hB
      unfold iB
      rw [n0 s 0 (by omega) (by omega), n0 s 2 (by omega) (by omega), n0 s 3 (by omega) (by omega), n0 s 4 (by omega) (by omega), n0 s 5 (by omega) (by omega)]
      exact ⟨b1, b2, b3, b4, b5, hb⟩
    · exact hB.of (fun j _ => n0 _ _ (by omega) (by omega)) (n _ _ _ (by omega))
  · obtain ⟨m1, m2, m3⟩ := hz.2.2
    refine ⟨by rw [eX]; exact m1, fun t ht μ hμ => ?_, by rw [eX]; exact m3⟩
    by_cases e : t = s
    · rw [e] at hμ
      exact hm μ hμ
    · rw [eU t e] at hμ
      exact m2 t ht μ hμ
  · intro p
    have x : dd C' t = dd C t := by
      unfold dd
      rw [n0 t 4 (by omega) (by omega), n0 (ot t) 5 (by omega) (by omega)]
    rw [x, eX]
    exact h1 t ht ⟨by rw [← n0 t 0 (by omega) (by omega)]; exact p.1, by rw [← n0 (ot t) 0 (by omega) (by omega)]; exact p.2⟩
  · by_cases e : t = s
    · rw [e]
      exact h3'
    · have q := h3 t ht e
      unfold p3 jj at q
      unfold jj
      rw [n0 t 0 (by omega) (by omega), n0 t 4 (by omega) (by omega), n 3 t 0 (by omega), n 3 t 2 (by omega), eU t e, eX]
      exact q
  · have hb : ∀ t, t < 6 → bs C' 6 t = bs C 6 t := fun t ht => by
      have a1 : un C' t = un C t := by
        unfold un pr dd
        rw [n0 t 0 (by omega) (by omega), n0 t 4 (by omega) (by omega), n0 (ot t) 0 (by omega) (by omega), n0 (ot t) 5 (by omega) (by omega), eX]
      have a2 : cg C' t = cg C t := cg_of (n _ _ _ (by omega)) (n _ _ _ (by omega)) (n _ _ _ (by omega))
      have a3 : be C' t = be C t := be_of (n0 _ _ (by omega) (by omega)) (n0 _ _ (by omega) (by omega))
      unfold bs
      rw [a1, a2, a3, um_6 C' ht, um_6 C ht]
    have h2 : cr_su (bs C' 6) 6 = cr_su (bs C 6) 6 := Nat.le_antisymm (su_le (fun t ht => Nat.le_of_eq (hb t ht))) (su_le (fun t ht => Nat.le_of_eq (hb t ht).symm))
    unfold Po
    rw [h2, wA_X eX]
theorem Sn_form {N : Nat} {C : cr_C} {s : Nat} (hb : nb (C.1 1 s 2) (N + 1)) (x : Int32) (hx : x ≠ 4) (h23 : x = 2 ∨ x = 3 → C.1 1 s 0 ≠ 3 ∧ C.1 1 s 0 ≠ 4) : Sn N C (cr_sI (cr_sI (cs_sn0 C s) 3 s 0 x) 1 s 14 0) s ∧ q3 (cr_sI (cr_sI (cs_sn0 C s) 3 s 0 x) 1 s 14 0) s := by
  have e1 : (cr_sI (cr_sI (cs_sn0 C s) 3 s 0 x) 1 s 14 0).1 3 s 1 = C.1 1 s 2 := by rw [cr_sI_ne _ _ (by omega), cr_sI_ne _ _ (by omega), cs_sn0_1]
  have e0 : (cr_sI (cr_sI (cs_sn0 C s) 3 s 0 x) 1 s 14 0).1 3 s 0 = x := by rw [cr_sI_ne _ _ (by omega), cr_sI_at]
  have eu : (cr_sI (cr_sI (cs_sn0 C s) 3 s 0 x) 1 s 14 0).2.2 s = none := cs_sn0_Us C s
  have en : ∀ κ i j, ¬ (i = s ∧ (κ = 3 ∨ (κ = 1 ∧ (j = 14 ∨ j = 15)))) → (cr_sI (cr_sI (cs_sn0 C s) 3 s 0 x) 1 s 14 0).1 κ i j = C.1 κ i j := fun κ i j hne => by rw [cr_sI_ne _ _ (by omega), cr_sI_ne _ _ (by omega), cs_sn0_I _ _ _ _ _ (by omega)]
  refine ⟨⟨en, rfl, fun t ht => cs_sn0_U C s t ht, by rw [e1]; exact hb, fun μ hμ => ?_, fun _ f => ?_⟩, fun f => ?_, fun f => ?_⟩
  · rw [eu] at hμ
    cases hμ
  · exact absurd (e0.symm.trans f) hx
  · exact absurd (e0.symm.trans f) hx
  · rw [e0] at f
    rw [en 1 s 0 (by omega)]
    exact h23 f
theorem Sn_fill {N : Nat} {C Ca : cr_C} {s : Nat} {x : Int32} (hCa : ∀ κ i j, ¬ (i = s ∧ (κ = 3 ∨ (κ = 1 ∧ j = 15))) → Ca.1 κ i j = C.1 κ i j) (hC1 : Ca.1 3 s 1 = C.1 1 s 2) (hX : Ca.2.1 = C.2.1) (hU : ∀ t, t ≠ s → Ca.2.2 t = C.2.2 t) (hb : nb (C.1 1 s 2) (N + 1)) (hst : C.1 1 s 0 = 3 ∨ C.1 1 s 0 = 4)
    (hm : ∀ μ, Ca.2.2 s = some μ → mw N μ ∧ C.1 1 s 0 = 4 ∧ cr_f8 (C.1 1 s 4 - x) ≤ 4 ∧ (C.2.1 s)[(C.2.1 s).length - 1 - cr_f8 (C.1 1 s 4 - x)]? = some μ) : Sn N C (cr_sI (cs_S_fill Ca s x) 1 s 14 0) s ∧ q3 (cr_sI (cs_S_fill Ca s x) 1 s 14 0) s := by
  obtain ⟨f0, f1, f2, f3, f4, f5⟩ := cs_fill_at Ca s x
  have c3 : ∀ k, (cr_sI (cs_S_fill Ca s x) 1 s 14 0).1 3 s k = (cs_S_fill Ca s x).1 3 s k := fun k => cr_sI_ne _ _ (by omega)
  have en : ∀ κ i j, ¬ (i = s ∧ (κ = 3 ∨ (κ = 1 ∧ (j = 14 ∨ j = 15)))) → (cr_sI (cs_S_fill Ca s x) 1 s 14 0).1 κ i j = C.1 κ i j := fun κ i j hne => by rw [cr_sI_ne _ _ (by omega), cs_fill_I _ _ _ _ _ _ (by omega), hCa _ _ _ (by omega)]
  have eu : ∀ t, (cr_sI (cs_S_fill Ca s x) 1 s 14 0).2.2 t = Ca.2.2 t := fun _ => rfl
  have eX : (cr_sI (cs_S_fill Ca s x) 1 s 14 0).2.1 = C.2.1 := hX
  have g0 : (cr_sI (cs_S_fill Ca s x) 1 s 14 0).1 3 s 0 = 4 := (c3 0).trans f0
  have g1 : (cr_sI (cs_S_fill Ca s x) 1 s 14 0).1 3 s 1 = C.1 1 s 2 := (c3 1).trans (f1.trans hC1)
  have g2 : (cr_sI (cs_S_fill Ca s x) 1 s 14 0).1 3 s 2 = x := (c3 2).trans f2
  have g4 : (cr_sI (cs_S_fill Ca s x) 1 s 14 0).1 3 s 4 = C.1 1 s 5 := (c3 4).trans (f4.trans (hCa _ _ _ (by omega)))
  generalize cr_sI (cs_S_fill Ca s x) 1 s 14 0 = C' at *
  have ej : jj C' s = cr_f8 (C.1 1 s 4 - x) := by
    unfold jj
    rw [g2, en 1 s 4 (by omega)]
  refine ⟨⟨en, eX, fun t ht => (eu t).trans (hU t ht), by rw [g1]; exact hb, fun μ hμ => ?_, fun _ _ μ hμ => ?_⟩, fun _ => ⟨?_, ?_, ?_⟩, fun f => ?_⟩
  · rw [eu] at hμ
    exact (hm μ hμ).1
  · rw [eu] at hμ
    rw [ej, eX]
    exact ⟨(hm μ hμ).2.2.1, fun _ => (hm μ hμ).2.2.2⟩
  · rw [en 1 s 0 (by omega)]
    exact hst
  · rw [en 1 s 5 (by omega), g4]
  · rw [eu, en 1 s 0 (by omega)]
    cases hv : Ca.2.2 s with
    | none => exact Or.inl rfl
    | some μ => exact Or.inr (hm μ hv).2.1
  · rw [g0] at f
    rcases f with f | f <;> exact absurd f (by decide)
theorem f8_up {F B : Int32} (h : cr_f8 (F - B) ≤ 6) : cr_f8 (Int32.ofNat (cr_f8 (F + 1)) - B) = cr_f8 (F - B) + 1 := by
  have h1 := F.toBitVec.isLt
  have h2 := B.toBitVec.isLt
  have g2 := cr_f8_nat (F - B)
  rw [show (F - B).toBitVec = F.toBitVec - B.toBitVec from rfl, BitVec.toNat_sub] at g2
  have g1 := cr_f8_nat (Int32.ofNat (cr_f8 (F + 1)) - B)
  rw [show (Int32.ofNat (cr_f8 (F + 1)) - B).toBitVec = BitVec.ofNat 32 (cr_f8 (F + 1)) - B.toBitVec from rfl, BitVec.toNat_sub, BitVec.toNat_ofNat] at g1
  have h3 := cr_f8lt (F + 1)
  have h4 := cr_f8_nat (F + 1)
  rw [show (F + 1).toBitVec = F.toBitVec + 1#32 from rfl, BitVec.toNat_add, show (1#32 : BitVec 32).toNat = 1 from rfl] at h4
  generalize cr_f8 (Int32.ofNat (cr_f8 (F + 1)) - B) = a at *
  generalize cr_f8 (F - B) = b at *
  generalize cr_f8 (F + 1) = c at *
  omega
theorem f8_ag {F : Int32} {n : Nat} (h1 : 1 ≤ n) (h5 : n ≤ 5) : cr_f8 (F - Int32.ofNat (cr_f8 (F - Int32.ofNat n + 1))) = n - 1 := by
  have k1 := F.toBitVec.isLt
  have g1 := cr_f8_nat (F - Int32.ofNat (cr_f8 (F - Int32.ofNat n + 1)))
  rw [show (F - Int32.ofNat (cr_f8 (F - Int32.ofNat n + 1))).toBitVec = F.toBitVec - BitVec.ofNat 32 (cr_f8 (F - Int32.ofNat n + 1)) from rfl, BitVec.toNat_sub, BitVec.toNat_ofNat] at g1
  have h3 := cr_f8lt (F - Int32.ofNat n + 1)
  have h4 := cr_f8_nat (F - Int32.ofNat n + 1)
  rw [show (F - Int32.ofNat n + 1).toBitVec = F.toBitVec - BitVec.ofNat 32 n + 1#32 from rfl, BitVec.toNat_add, BitVec.toNat_sub, BitVec.toNat_ofNat, show (1#32 : BitVec 32).toNat = 1 from rfl] at h4
  generalize cr_f8 (F - Int32.ofNat (cr_f8 (F - Int32.ofNat n + 1))) = a at *
  generalize cr_f8 (F - Int32.ofNat n + 1) = c at *
  omega
theorem f8_self (x : Int32) : cr_f8 (x - x) = 0 := by
  have g := cr_f8_nat (x - x)
  rw [show (x - x).toBitVec = x.toBitVec - x.toBitVec from rfl, BitVec.sub_self] at g
  exact g
/-- the first of those queued goes to those sent -/
def cs_rm (C : cr_C) (s : Nat) (μ : cr_m) (zs : List cr_m) : cr_C := cr_sI (cr_sX (cr_sX C (6 + s) zs) s (C.2.1 s ++ [μ])) 1 s 4 (Int32.ofNat (cr_f8 (C.1 1 s 4 + 1)))
theorem IW_rm {N : Nat} {C : cr_C} (h : IW N C) {s : Nat} (hs : s < 6) (c4 : C.1 1 s 0 = 4) {μ : cr_m} {zs : List cr_m} (hq : C.2.1 (6 + s) = μ :: zs) (h5 : (C.2.1 s).length < 5) : iz N (cs_rm C s μ zs) ∧ (∀ t, t < 6 → p1 (cs_rm C s μ zs) t) ∧ (∀ t, t < 6 → t ≠ s → p3 (cs_rm C s μ zs) t) ∧ Po 6 (cs_rm C s μ zs) ≤ Po 6 C := by
  have n1 : ∀ κ i j, ¬ (κ = 1 ∧ i = s ∧ j = 4) → (cs_rm C s μ zs).1 κ i j = C.1 κ i j := fun κ i j hne => by
    unfold cs_rm
    rw [cr_sI_ne _ _ hne]
    rfl
  have n4 : (cs_rm C s μ zs).1 1 s 4 = Int32.ofNat (cr_f8 (C.1 1 s 4 + 1)) := cr_sI_at _ _ _ _ _
  have xs : (cs_rm C s μ zs).2.1 s = C.2.1 s ++ [μ] := cr_sX_at _ _ _
  have x6 : (cs_rm C s μ zs).2.1 (6 + s) = zs := (cr_sX_ne (cr_sX C (6 + s) zs) _ (show 6 + s ≠ s by omega)).trans (cr_sX_at _ _ _)
  have xr : ∀ r, r ≠ s → r ≠ 6 + s → (cs_rm C s μ zs).2.1 r = C.2.1 r := fun r a b => (cr_sX_ne (cr_sX C (6 + s) zs) _ a).trans (cr_sX_ne _ _ b)
  have eU : (cs_rm C s μ zs).2.2 = C.2.2 := rfl
  have hμ6 : μ ∈ C.2.1 (6 + s) := by rw [hq]; exact List.mem_cons_self
  have hz6 : ∀ ν ∈ zs, ν ∈ C.2.1 (6 + s) := fun ν hν => by rw [hq]; exact List.mem_cons_of_mem _ hν
  have w : wA (cs_rm C s μ zs) + uk (some μ) = wA C := by
    have a1 := wA_sX C zs (show 6 + s < 22 by omega)
    have a2 := wA_sX (cr_sX C (6 + s) zs) (C.2.1 s ++ [μ]) (show s < 22 by omega)
    rw [hq, wr_hi (by omega) (by omega), wr_hi (by omega) (by omega)] at a1
    rw [cr_sX_ne _ _ (show s ≠ 6 + s by omega), wr_lo (Or.inl hs), wr_lo (Or.inl hs), List.length_append, List.length_singleton] at a2
    have a3 : wA (cs_rm C s μ zs) = wA (cr_sX (cr_sX C (6 + s) zs) s (C.2.1 s ++ [μ])) := wA_X rfl
    have a4 : wn (μ :: zs) = uk (some μ) + wn zs := rfl
    rw [List.length_cons, a4] at a1
    omega
  have hv : cv (cs_rm C s μ zs) := by
    obtain ⟨v1, v2, v3⟩ := h.1.1
    refine ⟨?_, cvI_sI (C := cr_sX (cr_sX C (6 + s) zs) s (C.2.1 s ++ [μ])) v2 rfl, v3⟩
    refine cvX_sX (C := cr_sX C (6 + s) zs) (cvX_sX (C := C) v1 (fun ν hν => ⟨v1.1 _ (by omega) ν (hz6 ν hν), fun _ x => by omega⟩) (fun x => by omega)) (fun ν hν => ⟨?_, fun x => by omega⟩) (fun _ => by rw [List.length_append, List.length_singleton]; omega)
    rcases List.mem_append.mp hν with x | x
    · exact v1.1 s (by omega) ν x
    · rw [List.mem_singleton.mp x]
      exact v1.1 (6 + s) (by omega) μ hμ6
  generalize cs_rm C s μ zs = C1 at *
  have pe : ∀ t, pr C1 t ↔ pr C t := fun t => by
    unfold pr
    rw [n1 1 t 0 (by omega), n1 1 (ot t) 0 (by omega)]
  have dn : ∀ t, t ≠ s → dd C1 t = dd C t := fun t e => by
    unfold dd
    rw [n1 1 t 4 (by omega), n1 1 (ot t) 5 (by omega)]
  have ds : pr C s → dd C s ≤ (C.2.1 s).length ∧ dd C1 s = dd C s + 1 := fun p => by
    have d0 := (h.2 s hs).1 p
    refine ⟨d0, ?_⟩
    unfold dd at d0 ⊢
    rw [n4, n1 1 (ot s) 5 (by omega)]
    exact f8_up (by omega)
  refine ⟨⟨hv, fun t ht => ?_, fun q hq' ν hν => ?_, by rw [eU]; exact h.1.2.2.2.1, fun e he => ?_⟩, fun t ht p => ?_, fun t ht e => ?_, ?_⟩
  · obtain ⟨hA, hB, hD, hE⟩ := h.1.2.1 t ht
    refine ⟨hA.of (fun j _ => n1 _ _ _ (by omega)), ?_, hD.of (fun j _ _ => n1 _ _ _ (by omega)) (fun i => n1 _ _ _ (by omega)) (xr _ (by omega) (by omega)), ?_⟩
    · by_cases e : t = s
      · rw [e] at hB ⊢
        obtain ⟨b1, b2, b3, b4, b5, b6⟩ := hB
        unfold iB
        rw [n4, n1 1 s 0 (by omega), n1 1 s 5 (by omega), n1 1 s 2 (by omega), n1 1 s 3 (by omega), n1 3 s 1 (by omega)]
        exact ⟨⟨_, cr_f8lt _, rfl⟩, b2, fun _ x => absurd c4 x, b4, b5, b6⟩
      · exact hB.of (fun j _ => n1 _ _ _ (by omega)) (n1 _ _ _ (by omega))
    · by_cases e : t = s
      · rw [e] at hE ⊢
        refine ⟨fun x => absurd ((n1 1 s 0 (by omega)).trans c4) x, ?_⟩
        rw [n1 4 s 1 (by omega)]
        exact hE.2
      · exact hE.of (n1 _ _ _ (by omega)) (xr _ e (by omega)) (fun _ => xr _ (by omega) (by omega)) (n1 _ _ _ (by omega))
  · by_cases e : q = s
    · rw [e, xs] at hν
      rcases List.mem_append.mp hν with x | x
      · exact h.1.2.2.1 s (by omega) ν x
      · rw [List.mem_singleton.mp x]
        exact h.1.2.2.1 (6 + s) (by omega) μ hμ6
    · by_cases e6 : q = 6 + s
      · rw [e6, x6] at hν
        exact h.1.2.2.1 (6 + s) (by omega) ν (hz6 ν hν)
      · rw [xr _ e e6] at hν
        exact h.1.2.2.1 q hq' ν hν
  · rw [xr _ (by omega) (by omega)]
    exact h.1.2.2.2.2 e he
  · by_cases e : t = s
    · rw [e] at p ⊢
      obtain ⟨d0, d1⟩ := ds ((pe s).mp p)
      rw [d1, xs, List.length_append, List.length_singleton]
      omega
    · rw [dn t e, xr _ e (by omega)]
      exact (h.2 t ht).1 ((pe t).mp p)
  · have q := (h.2 t ht).2
    unfold p3 jj
    unfold jj at q
    rw [n1 1 t 0 (by omega), n1 1 t 4 (by omega), n1 3 t 0 (by omega), n1 3 t 2 (by omega), eU, xr _ e (by omega)]
    exact q
  · have key : cr_su (bs C1 6) 6 + 0 ≤ cr_su (bs C 6) 6 + 3 * uk (some μ) := by
      refine su_at hs ?_ (fun t ht e => ?_)
      · have a2 : cg C1 s = cg C s := cg_of (n1 _ _ _ (by omega)) (n1 _ _ _ (by omega)) (n1 _ _ _ (by omega))
        have a3 : be C1 s = be C s := be_of (n1 _ _ _ (by omega)) (n1 _ _ _ (by omega))
        have a4 := um_6 C hs
        have a5 := um_6 C1 hs
        have a1 : un C1 s ≤ un C s + uk (some μ) := by
          unfold un
          by_cases p : pr C s
          · obtain ⟨d0, d1⟩ := ds p
            rw [if_pos p, if_pos ((pe s).mpr p), d1, xs, List.length_append, List.length_singleton, show (C.2.1 s).length + 1 - (dd C s + 1) = (C.2.1 s).length - dd C s by omega, List.drop_append_of_le_length (by omega), wn_app]
            exact Nat.le_refl _
          · rw [if_neg (fun x => p ((pe s).mp x))]
            exact Nat.zero_le _
        unfold bs
        omega
      · have a2 : cg C1 t = cg C t := cg_of (n1 _ _ _ (by omega)) (n1 _ _ _ (by omega)) (n1 _ _ _ (by omega))
        have a3 : be C1 t = be C t := be_of (n1 _ _ _ (by omega)) (n1 _ _ _ (by omega))
        have a4 := um_6 C ht
        have a5 := um_6 C1 ht
        have a1 : un C1 t = un C t := by
          unfold un
          rw [dn t e, xr _ e (by omega)]
          by_cases p : pr C t
          · rw [if_pos p, if_pos ((pe t).mpr p)]
          · rw [if_neg p, if_neg (fun x => p ((pe t).mp x))]
        unfold bs
        omega
    unfold Po
    omega
theorem IW_send {N : Nat} {C : cr_C} (h : IW N C) {s : Nat} (hs : s < 6) (hd : ∃ a, a ≤ (C.2.1 s).length ∧ C.1 1 s 15 = Int32.ofNat ((C.2.1 s).length - a)) : IW N (cs_S_send C s) ∧ Po 6 (cs_S_send C s) ≤ Po 6 C ∧ q3 (cs_S_send C s) s ∧ (∀ κ i j, i ≠ s → (cs_S_send C s).1 κ i j = C.1 κ i j) ∧ ∀ t, t ≠ s → (cs_S_send C s).2.2 t = C.2.2 t := by
  have hv : cv (cs_S_send C s) := (cw_send C hs h.1.1).1
  obtain ⟨hA, hB, hD, hE⟩ := h.1.2.1 s hs
  have hb : nb (C.1 1 s 2) (N + 1) := hB.2.2.2.1
  have h5 := h.1.1.1.2.2 s hs
  have gen : ∀ C1 C', iz N C1 → (∀ t, t < 6 → p1 C1 t) → (∀ t, t < 6 → t ≠ s → p3 C1 t) → Po 6 C1 ≤ Po 6 C → (∀ κ i j, i ≠ s → C1.1 κ i j = C.1 κ i j) → C1.2.2 = C.2.2 → cv C' → Sn N C1 C' s ∧ q3 C' s → IW N C' ∧ Po 6 C' ≤ Po 6 C ∧ q3 C' s ∧ (∀ κ i j, i ≠ s → C'.1 κ i j = C.1 κ i j) ∧ ∀ t, t ≠ s → C'.2.2 t = C.2.2 t := fun C1 C' z g1 g3 w n u v S => by
    obtain ⟨a, b⟩ := S.1.k z g1 g3 v
    refine ⟨a, by omega, S.2, fun κ i j hi => (S.1.1 κ i j (by omega)).trans (n κ i j hi), fun t ht => (S.1.2.2.1 t ht).trans (by rw [u])⟩
  have don : ∀ C', cv C' → Sn N C C' s ∧ q3 C' s → IW N C' ∧ Po 6 C' ≤ Po 6 C ∧ q3 C' s ∧ (∀ κ i j, i ≠ s → C'.1 κ i j = C.1 κ i j) ∧ ∀ t, t ≠ s → C'.2.2 t = C.2.2 t := fun C' v S => gen C C' h.1 (fun t ht => (h.2 t ht).1) (fun t ht _ => (h.2 t ht).2) (Nat.le_refl _) (fun _ _ _ _ => rfl) rfl v S
  have fil : C.1 1 s 0 = 3 ∨ C.1 1 s 0 = 4 → ∀ x, Sn N C (cr_sI (cs_S_fill (cs_sn0 C s) s x) 1 s 14 0) s ∧ q3 (cr_sI (cs_S_fill (cs_sn0 C s) s x) 1 s 14 0) s := fun hst x => Sn_fill (fun κ i j hne => cs_sn0_I _ _ _ _ _ (by omega)) (cs_sn0_1 C s) rfl (fun t ht => cs_sn0_U C s t ht) hb hst (fun μ hμ => by rw [cs_sn0_Us] at hμ; cases hμ)
  have e4 : (cs_sn0 C s).1 1 s 4 = C.1 1 s 4 := cs_sn0_I _ _ _ _ _ (by omega)
  have eX : ∀ r, (cs_sn0 C s).2.1 r = C.2.1 r := fun _ => rfl
  obtain ⟨a, ha, e15⟩ := hd
  obtain ⟨x, hx, ex⟩ := hA.1
  rw [cs_send_eq] at hv ⊢
  rcases (show x = 0 ∨ x = 1 ∨ x = 2 ∨ x = 3 ∨ x = 4 by omega) with rfl | rfl | rfl | rfl | rfl
  · have c : C.1 1 s 0 = 0 := ex
    rw [if_neg (show ¬ C.1 1 s 0 = 1 by rw [c]; decide), if_neg (show ¬ C.1 1 s 0 = 2 by rw [c]; decide), if_neg (show ¬ C.1 1 s 0 = 3 by rw [c]; decide), if_neg (show ¬ C.1 1 s 0 = 4 by rw [c]; decide)] at hv ⊢
    by_cases cf : C.1 1 s 14 = 0
    · rw [if_pos cf] at hv ⊢
      exact don _ hv (Sn_form hb 0 (by decide) (fun _ => by rw [c]; exact ⟨by decide, by decide⟩))
    · rw [if_neg cf] at hv ⊢
      exact don _ hv (Sn_form hb 1 (by decide) (fun _ => by rw [c]; exact ⟨by decide, by decide⟩))
  · have c : C.1 1 s 0 = 1 := ex
    rw [if_pos c] at hv ⊢
    exact don _ hv (Sn_form hb 2 (by decide) (fun _ => by rw [c]; exact ⟨by decide, by decide⟩))
  · have c : C.1 1 s 0 = 2 := ex
    rw [if_neg (show ¬ C.1 1 s 0 = 1 by rw [c]; decide), if_pos c] at hv ⊢
    exact don _ hv (Sn_form hb 3 (by decide) (fun _ => by rw [c]; exact ⟨by decide, by decide⟩))
  · have c : C.1 1 s 0 = 3 := ex
    rw [if_neg (show ¬ C.1 1 s 0 = 1 by rw [c]; decide), if_neg (show ¬ C.1 1 s 0 = 2 by rw [c]; decide), if_pos c, cs_num_eq] at hv ⊢
    obtain ⟨x1, x2⟩ := hE.1 (by rw [c]; decide)
    have hd0 : C.1 1 s 15 ≤ 0 := by
      rw [e15, x1]
      show Int32.ofNat (0 - a) ≤ 0
      rw [Nat.zero_sub]
      decide
    rw [if_pos hd0] at hv ⊢
    unfold cs_S_new at hv ⊢
    rw [show (cs_sn0 C s).2.1 (6 + s) = [] from x2, if_neg (show ¬ cr_e [] = 0 by unfold cr_e; rw [if_pos rfl]; decide)] at hv ⊢
    exact don _ hv (fil (Or.inl c) _)
  · have c : C.1 1 s 0 = 4 := ex
    rw [if_neg (show ¬ C.1 1 s 0 = 1 by rw [c]; decide), if_neg (show ¬ C.1 1 s 0 = 2 by rw [c]; decide), if_neg (show ¬ C.1 1 s 0 = 3 by rw [c]; decide), if_pos c, cs_num_eq, e15] at hv ⊢
    by_cases ca : a < (C.2.1 s).length
    · rw [if_neg (show ¬ Int32.ofNat ((C.2.1 s).length - a) ≤ 0 from nI_nle (by omega) (by omega)), if_neg (i_nlt (by omega) (by omega))] at hv ⊢
      obtain ⟨μ, hμ⟩ : ∃ μ, (C.2.1 s)[a]? = some μ := ⟨_, List.getElem?_eq_getElem ca⟩
      have f15 : (cs_sn0 C s).1 1 s 15 = Int32.ofNat ((C.2.1 s).length - a) := (cs_sn0_I _ _ _ _ _ (by omega)).trans e15
      have eC : cs_S_again (cs_sn0 C s) s = cs_S_fill (cr_sI (cr_sU (cs_sn0 C s) s (some μ)) 1 s 15 (Int32.ofNat ((C.2.1 s).length - a) - 1)) s (Int32.ofNat (cr_f8 (C.1 1 s 4 - Int32.ofNat ((C.2.1 s).length - a) + 1))) := by
        unfold cs_S_again
        rw [e4, eX, f15, ev_cl _ (by omega), show (C.2.1 s).length - ((C.2.1 s).length - a) = a by omega, hμ]
      rw [eC] at hv ⊢
      refine don _ hv (Sn_fill (fun κ i j hne => ?_) ?_ rfl (fun t ht => ?_) hb (Or.inr c) (fun ν hν => ?_))
      · rw [cr_sI_ne _ _ (by omega)]
        exact cs_sn0_I _ _ _ _ _ (by omega)
      · rw [cr_sI_ne _ _ (by omega)]
        exact cs_sn0_1 C s
      · show (if t = s then some μ else (cs_sn0 C s).2.2 t) = C.2.2 t
        rw [if_neg ht]
        exact cs_sn0_U C s t ht
      · have e2 : (if s = s then some μ else (cs_sn0 C s).2.2 s) = some ν := hν
        rw [if_pos rfl] at e2
        cases e2
        have f := f8_ag (F := C.1 1 s 4) (n := (C.2.1 s).length - a) (by omega) (by omega)
        rw [f]
        refine ⟨h.1.2.2.1 s (by omega) μ (List.mem_of_getElem? hμ), c, by omega, ?_⟩
        rw [show (C.2.1 s).length - 1 - ((C.2.1 s).length - a - 1) = a by omega]
        exact hμ
    · have ea : a = (C.2.1 s).length := by omega
      rw [if_pos (show Int32.ofNat ((C.2.1 s).length - a) ≤ 0 by rw [ea, Nat.sub_self]; decide)] at hv ⊢
      unfold cs_S_new at hv ⊢
      rw [eX, eX] at hv ⊢
      cases hq : C.2.1 (6 + s) with
      | nil =>
        rw [hq, if_neg (show ¬ cr_e [] = 0 by unfold cr_e; rw [if_pos rfl]; decide)] at hv
        rw [if_neg (show ¬ cr_e [] = 0 by unfold cr_e; rw [if_pos rfl]; decide)]
        exact don _ hv (fil (Or.inr c) _)
      | cons μ zs =>
        rw [hq, if_pos (show cr_e (μ :: zs) = 0 by unfold cr_e; rw [if_neg (by simp)])] at hv
        rw [if_pos (show cr_e (μ :: zs) = 0 by unfold cr_e; rw [if_neg (by simp)])]
        by_cases c5 : 5 ≤ Int32.ofNat (C.2.1 s).length
        · rw [if_pos c5] at hv ⊢
          exact don _ hv (fil (Or.inr c) _)
        · rw [if_neg c5] at hv ⊢
          have l5 : (C.2.1 s).length < 5 := by
            rcases Nat.lt_or_ge (C.2.1 s).length 5 with y | y
            · exact y
            · exact absurd (i_le y (by omega)) c5
          have eC : cs_S_first (cs_sn0 C s) s = cs_S_fill (cr_sI (cr_sX (cr_sU (cr_sX (cs_sn0 C s) (6 + s) zs) s (some μ)) s (C.2.1 s ++ [μ])) 1 s 4 (Int32.ofNat (cr_f8 (C.1 1 s 4 + 1)))) s (Int32.ofNat (cr_f8 (C.1 1 s 4 + 1))) := by
            unfold cs_S_first
            rw [e4, eX, eX, hq]
            rfl
          rw [eC] at hv ⊢
          obtain ⟨z, g1, g3, w⟩ := IW_rm h hs c hq l5
          have n4 : (cs_rm C s μ zs).1 1 s 4 = Int32.ofNat (cr_f8 (C.1 1 s 4 + 1)) := cr_sI_at _ _ _ _ _
          have n1 : ∀ κ i j, ¬ (κ = 1 ∧ i = s ∧ j = 4) → (cs_rm C s μ zs).1 κ i j = C.1 κ i j := fun κ i j hne => by
            unfold cs_rm
            rw [cr_sI_ne _ _ hne]
            rfl
          have xs : (cs_rm C s μ zs).2.1 s = C.2.1 s ++ [μ] := cr_sX_at _ _ _
          have xR : (cs_rm C s μ zs).2.1 = fun r => if r = s then C.2.1 s ++ [μ] else if r = 6 + s then zs else C.2.1 r := rfl
          have eU : (cs_rm C s μ zs).2.2 = C.2.2 := rfl
          have z6 := z.2.2.1 s (by omega) μ (by rw [xs]; exact List.mem_append_right _ (List.mem_singleton.mpr rfl))
          generalize cs_rm C s μ zs = C1 at *
          refine gen C1 _ z g1 g3 w (fun κ i j hi => n1 _ _ _ (by omega)) eU hv (Sn_fill (fun κ i j hne => ?_) ?_ ?_ (fun t ht => ?_) ?_ ?_ (fun ν hν => ?_))
          · by_cases c4 : κ = 1 ∧ i = s ∧ j = 4
            · obtain ⟨rfl, rfl, rfl⟩ := c4
              rw [cr_sI_at, n4]
            · rw [cr_sI_ne _ _ c4, n1 _ _ _ c4]
              exact cs_sn0_I _ _ _ _ _ (by omega)
          · rw [cr_sI_ne _ _ (by omega), n1 _ _ _ (by omega)]
            exact cs_sn0_1 C s
          · rw [xR]
            rfl
          · rw [eU]
            show (if t = s then some μ else (cs_sn0 C s).2.2 t) = C.2.2 t
            rw [if_neg ht]
            exact cs_sn0_U C s t ht
          · rw [n1 _ _ _ (by omega)]
            exact hb
          · rw [n1 _ _ _ (by omega)]
            exact Or.inr c
          · have e2 : (if s = s then some μ else (cs_sn0 C s).2.2 s) = some ν := hν
            rw [if_pos rfl] at e2
            cases e2
            rw [n4, f8_self, xs, n1 _ _ _ (by omega)]
            refine ⟨z6, c, by omega, ?_⟩
            rw [List.length_append, List.length_singleton, List.getElem?_append_right (by omega), show (C.2.1 s).length + 1 - 1 - 0 - (C.2.1 s).length = 0 by omega]
            rfl
