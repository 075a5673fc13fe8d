/-! the invariant: numbers of one side change -/
def Lo (C C' : cr_C) (s : Nat) : Prop := (∀ κ i k, ¬ (κ = 1 ∧ i = s) → C'.1 κ i k = C.1 κ i k) ∧ C'.2 = C.2
theorem Lo.refl (C : cr_C) (s : Nat) : Lo C C s := ⟨fun _ _ _ _ => rfl, rfl⟩
theorem Lo.sI {C C' : cr_C} {s k : Nat} {x : Int32} (h : Lo C C' s) : Lo C (cr_sI C' 1 s k x) s := ⟨fun κ i k' hne => by rw [cr_sI_ne _ _ (by omega)]; exact h.1 κ i k' hne, h.2⟩
theorem Lo.comeTo {C C' : cr_C} {s : Nat} {x : Int32} (h : Lo C C' s) : Lo C (cs_S_comeTo C' s x) s := h.sI.sI
theorem Lo.kv {C C' : cr_C} {s : Nat} (h : Lo C C' s) (hv : cv C) : cv C' := by
  obtain ⟨h1, h2⟩ := h
  refine ⟨by rw [h2]; exact hv.1, ⟨fun e k he hk => ?_, fun t ht => ?_⟩, by rw [h2]; exact hv.2.2⟩
  · rw [h1 7 e k (by omega)]
    exact hv.2.1.1 e k he hk
  · rw [h1 2 t 7 (by omega)]
    exact hv.2.1.2 t ht
theorem Lo.kM {N : Nat} {C C' : cr_C} {s : Nat} (h : Lo C C' s) (hM : iM N C) : iM N C' := by
  unfold iM at hM ⊢
  rw [h.2]
  exact hM
theorem Lo.cqn {C C' : cr_C} {s t : Nat} (h : Lo C C' s) (e : t ≠ s) : cq C C' t := ⟨h.1 _ _ _ (by omega), h.1 _ _ _ (by omega), h.1 _ _ _ (by omega), fun _ => h.1 _ _ _ (by omega), by rw [h.2], by rw [h.2]⟩
theorem Lo.ky {N : Nat} {C C' : cr_C} {s : Nat} (h : Lo C C' s) (hz : iy N C s) (b : iB N C' s) (c : C'.1 1 s 0 ≠ 4 → C.1 1 s 0 ≠ 4) : iy N C' s := by
  refine ⟨h.kv hz.1, fun t ht => ?_, h.kM hz.2.2⟩
  obtain ⟨hA, hB, hD, hE⟩ := hz.2.1 t ht
  refine ⟨fun e => (hA e).of (fun k _ => h.1 _ _ _ (by omega)), ?_, hD.of (fun k _ _ => h.1 _ _ _ (by omega)) (fun i => h.1 _ _ _ (by omega)) (by rw [h.2]), ?_⟩
  · by_cases e : t = s
    · rw [e]; exact b
    · exact hB.of (fun k _ => h.1 _ _ _ (by omega)) (h.1 _ _ _ (by omega))
  · by_cases e : t = s
    · subst e
      unfold iE at hE ⊢
      rw [h.2, h.1 4 t 1 (by omega)]
      exact ⟨fun c' => hE.1 (c c'), hE.2⟩
    · exact hE.of (h.1 _ _ _ (by omega)) (by rw [h.2]) (fun _ => by rw [h.2]) (h.1 _ _ _ (by omega))
theorem iy.z {N : Nat} {C : cr_C} {s : Nat} (h : iy N C s) (a : iA C s) : iz N C := by
  refine ⟨h.1, fun t ht => ⟨?_, (h.2.1 t ht).2⟩, h.2.2⟩
  by_cases e : t = s
  · rw [e]; exact a
  · exact (h.2.1 t ht).1 e
theorem Lo.kq1 {C C' : cr_C} {s : Nat} (h : Lo C C' s) (hq : ∀ t, t < 6 → q1 C t) (hh : h2 (C'.1 1 s 0) ↔ h2 (C.1 1 s 0)) (e4 : C'.1 1 s 4 = C.1 1 s 4) (e5 : C'.1 1 s 5 = C.1 1 s 5) (c4 : C'.1 1 s 0 = 4 → C.1 1 s 0 = 4 ∨ ¬ (C.1 3 s 0 = 4 ∧ C.2.2 s ≠ none)) : ∀ t, t < 6 → q1 C' t := by
  have gh : ∀ t, h2 (C'.1 1 t 0) ↔ h2 (C.1 1 t 0) := fun t => by
    by_cases e : t = s
    · rw [e]; exact hh
    · rw [h.1 _ _ _ (by omega)]
  have g4 : ∀ t, C'.1 1 t 4 = C.1 1 t 4 := fun t => by
    by_cases e : t = s
    · rw [e]; exact e4
    · exact h.1 _ _ _ (by omega)
  have g5 : ∀ t, C'.1 1 t 5 = C.1 1 t 5 := fun t => by
    by_cases e : t = s
    · rw [e]; exact e5
    · exact h.1 _ _ _ (by omega)
  intro t ht
  obtain ⟨q, p⟩ := hq t ht
  unfold dd at q
  unfold jj at p
  unfold q1 dd jj
  rw [g4, g5, h.2, h.1 3 t 0 (by omega), h.1 3 t 2 (by omega)]
  refine ⟨fun x => q ⟨(gh _).mp x.1, (gh _).mp x.2⟩, fun c f μ hμ => ?_⟩
  by_cases e : t = s
  · subst e
    rcases c4 c with d | d
    · exact p d f μ hμ
    · exact absurd ⟨f, by rw [hμ]; exact fun x => by cases x⟩ d
  · exact p (by rw [← h.1 1 t 0 (by omega)]; exact c) f μ hμ
theorem Lo.kPo {k b : Nat} {C C' : cr_C} {s : Nat} (h : Lo C C' s) (hs : s < 6) (hh : h2 (C'.1 1 s 0) ↔ h2 (C.1 1 s 0)) (e4 : C'.1 1 s 4 = C.1 1 s 4) (e5 : C'.1 1 s 5 = C.1 1 s 5) (c : C'.1 1 s 0 ≠ 4 → C.1 1 s 0 ≠ 4) (hb : be C' s ≤ be C s + b) : Po k C' ≤ Po k C + b := by
  have gh : ∀ t, h2 (C'.1 1 t 0) ↔ h2 (C.1 1 t 0) := fun t => by
    by_cases e : t = s
    · rw [e]; exact hh
    · rw [h.1 _ _ _ (by omega)]
  have g4 : ∀ t, C'.1 1 t 4 = C.1 1 t 4 := fun t => by
    by_cases e : t = s
    · rw [e]; exact e4
    · exact h.1 _ _ _ (by omega)
  have g5 : ∀ t, C'.1 1 t 5 = C.1 1 t 5 := fun t => by
    by_cases e : t = s
    · rw [e]; exact e5
    · exact h.1 _ _ _ (by omega)
  have gu : ∀ t, un C' t = un C t := fun t => by
    unfold un dd
    rw [g4, g5, h.2]
    by_cases p : pr C t
    · rw [if_pos p, if_pos ⟨(gh _).mpr p.1, (gh _).mpr p.2⟩]
    · rw [if_neg p, if_neg (fun x => p ⟨(gh _).mp x.1, (gh _).mp x.2⟩)]
  have gc : ∀ t, cg C' t = cg C t := fun t => cg_of (h.1 _ _ _ (by omega)) (h.1 _ _ _ (by omega)) (h.1 _ _ _ (by omega))
  have gm : um C' k s ≤ um C k s := by
    unfold um
    rw [h.1 3 s 0 (by omega), h.2]
    by_cases x : k ≤ ot s ∧ C.1 3 s 0 = 4 ∧ C'.1 1 s 0 ≠ 4
    · rw [if_pos x, if_pos ⟨x.1, x.2.1, c x.2.2⟩]
      exact Nat.le_refl _
    · rw [if_neg x]
      exact Nat.zero_le _
  have key : cr_su (bs C' k) 6 + 0 ≤ cr_su (bs C k) 6 + b := by
    refine su_at hs ?_ (fun t ht e => ?_)
    · have := gu s
      have := gc s
      unfold bs
      omega
    · have := gu t
      have := gc t
      have := um_of (k := k) (h.cqn e)
      have : be C' t = be C t := be_of (h.1 _ _ _ (by omega)) (h.1 _ _ _ (by omega))
      unfold bs
      omega
  have : wA C' = wA C := wA_X (by rw [h.2])
  unfold Po
  omega
/-- the outside of the side stands too -/
theorem Lo.cqa {C C' : cr_C} {s : Nat} (h : Lo C C' s) (e0 : C'.1 1 s 0 = C.1 1 s 0) (e4 : C'.1 1 s 4 = C.1 1 s 4) (e5 : C'.1 1 s 5 = C.1 1 s 5) : ∀ t, t < 6 → cq C C' t := fun t _ => by
  by_cases e : t = s
  · subst e
    exact ⟨e0, e4, e5, fun _ => h.1 _ _ _ (by omega), by rw [h.2], by rw [h.2]⟩
  · exact h.cqn e
theorem nb.inc {x : Int32} {N M : Nat} (h : nb x N) (hN : N < 2 ^ 30) (hM : M ≤ N) (c : x + 1 < Int32.ofNat M) : nb (x + 1) M := by
  obtain ⟨u, hu, rfl⟩ := h
  refine ⟨u + 1, (nb_lt (by omega) (by omega)).mp c, nI_1 u⟩
theorem nb_0 {N : Nat} (h : 0 < N) : nb 0 N := ⟨0, h, rfl⟩
/-! age -/
theorem iB.st {N : Nat} {C C' : cr_C} {s : Nat} (h : iB N C s) (e : ∀ k, 2 ≤ k ∧ k ≤ 5 → C'.1 1 s k = C.1 1 s k) (u : C'.1 3 s 1 = C.1 3 s 1) (c : C'.1 1 s 0 ≠ 0 → C'.1 1 s 0 ≠ 4 → C.1 1 s 0 ≠ 0 ∧ C.1 1 s 0 ≠ 4) : iB N C' s := by
  obtain ⟨b1, b2, b3, b4, b5, b6⟩ := h
  unfold iB
  rw [e 2 (by omega), e 3 (by omega), e 4 (by omega), e 5 (by omega), u]
  exact ⟨b1, b2, fun x y => b3 (c x y).1 (c x y).2, b4, b5, b6⟩
theorem be_st {C : cr_C} {s : Nat} : (C.1 1 s 0 = 1 → be C s = 12) ∧ (C.1 1 s 0 = 2 → be C s = 12 + 2 * (C.1 1 s 1).toNatClampNeg) ∧ (C.1 1 s 0 = 3 ∨ C.1 1 s 0 = 4 → be C s = 24) := by
  unfold be
  refine ⟨fun c => ?_, fun c => ?_, fun c => ?_⟩
  · rw [c, if_neg (by decide), if_pos rfl]
  · rw [c, if_neg (by decide), if_neg (by decide), if_pos rfl]
  · rcases c with c | c <;> rw [c, if_neg (by decide), if_neg (by decide), if_neg (by decide)]
