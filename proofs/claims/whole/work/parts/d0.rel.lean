/-! the class and the reference side by side -/
/-- a message of the class as the reference has it -/
def sm_m (μ : cr_m) : rf_m := if μ.1 = 4 ∨ μ.1 = 5 then (μ.1, μ.2.2.1, μ.2.1, μ.2.2.2, -1) else (μ.1, μ.2.1, 0, 0, -1)
/-- the kept ones: the first so many have numbers -/
def sm_k (f : Int32) : Nat → List cr_m → List rf_m
  | _, [] => []
  | 0, μ :: zs => sm_m μ :: sm_k f 0 zs
  | n + 1, μ :: zs => ((sm_m μ).1, (sm_m μ).2.1, (sm_m μ).2.2.1, (sm_m μ).2.2.2.1, Int32.ofNat (cr_f8 f)) :: sm_k (f + 1) n zs
def sm_S (C : cr_C) (D : rf_C) (s : Nat) : Prop :=
  (D.1 12 s = C.1 1 s 0 ∧ D.1 13 s = C.1 1 s 1 ∧ D.1 14 s = C.1 1 s 2 ∧ D.1 15 s = C.1 1 s 3 ∧ D.1 17 s = C.1 1 s 4 ∧ D.1 18 s = C.1 1 s 5 ∧ D.1 19 s = C.1 1 s 6 ∧ D.1 20 s = C.1 1 s 7 ∧ D.1 21 s = C.1 1 s 8 ∧ D.1 22 s = C.1 1 s 9 ∧ D.1 23 s = C.1 1 s 10 ∧ D.1 24 s = C.1 1 s 11 ∧ D.1 25 s = C.1 1 s 12 ∧ D.1 26 s = C.1 1 s 13) ∧
  (C.1 1 s 0 = 0 → D.1 16 s = C.1 1 s 14) ∧ ∃ a, a ≤ (C.2.1 s).length ∧ D.1 27 s = Int32.ofNat a ∧ C.1 1 s 15 = Int32.ofNat ((C.2.1 s).length - a)
def sm_V (C : cr_C) (D : rf_C) (s : Nat) : Prop :=
  D.1 43 s = C.1 2 s 1 ∧ D.1 44 s = C.1 2 s 3 ∧ D.1 45 s = C.1 2 s 4 ∧ D.1 46 s = C.1 2 s 5 ∧ D.1 47 s = C.1 2 s 6 ∧ D.1 42 s = (if C.1 2 s 0 = 0 then 0 else if C.1 2 s 2 = 0 then 1 else 2) ∧ D.2 (12 + s) = sm_k (C.1 2 s 8) (cr_nb C s) (C.2.1 (12 + s))
def sm_U (C : cr_C) (D : rf_C) (s : Nat) : Prop :=
  D.1 33 s = C.1 3 s 1 ∧ ((C.1 3 s 0 = 0 ∧ D.1 32 s = 0) ∨ (C.1 3 s 0 = 1 ∧ D.1 32 s = 3) ∨ (C.1 3 s 0 = 2 ∧ D.1 32 s = 1) ∨ (C.1 3 s 0 = 3 ∧ D.1 32 s = 2) ∨
    (C.1 3 s 0 = 4 ∧ D.1 34 s = C.1 3 s 2 ∧ D.1 35 s = C.1 3 s 3 ∧ D.1 36 s = C.1 3 s 4 ∧ D.1 37 s = C.1 3 s 5 ∧ ((C.2.2 s = none ∧ D.1 32 s = 4) ∨ ∃ μ, C.2.2 s = some μ ∧ D.1 32 s = 5 ∧ D.1 38 s = (sm_m μ).1 ∧ D.1 39 s = (sm_m μ).2.1 ∧ D.1 40 s = (sm_m μ).2.2.1 ∧ D.1 41 s = (sm_m μ).2.2.2.1)))
def sm_F (C : cr_C) (D : rf_C) (s : Nat) : Prop := D.1 30 s = C.1 4 s 0 ∧ ((C.1 4 s 0 ≠ 0 ∧ D.1 31 s = C.1 4 s 1) ∨ (C.1 4 s 0 = 0 ∧ C.1 4 s 1 = 0))
def sm_Y (C : cr_C) (D : rf_C) (s : Nat) : Prop := ∀ i, i < 16 → (C.1 5 s i = D.1 28 (16 * s + i) ∧ C.1 6 s i = D.1 29 (16 * s + i)) ∨ (C.1 5 s i = 0 ∧ C.1 6 s i = -1 ∧ D.1 28 (16 * s + i) = -1)
/-- all that is of one side -/
def sm_1 (C : cr_C) (D : rf_C) (s : Nat) : Prop := sm_S C D s ∧ sm_V C D s ∧ sm_U C D s ∧ sm_F C D s ∧ sm_Y C D s
def sm_R (C : cr_C) (D : rf_C) : Prop := ∀ r, r < 22 → (r < 12 ∨ 18 ≤ r) → D.2 r = (C.2.1 r).map sm_m
def sm_G (C : cr_C) (D : rf_C) : Prop := (∀ e k, e < 2 → k < 4 → D.1 48 (4 * e + k) = C.1 7 e k) ∧ D.1 49 0 = C.1 9 0 6 + C.1 9 1 6
def sm (C : cr_C) (D : rf_C) : Prop := (∀ s, s < 6 → sm_1 C D s) ∧ sm_R C D ∧ sm_G C D
/-- only what is of the side s changed; the rows of the others stand -/
def fc (C C' : cr_C) (s : Nat) : Prop := (∀ κ i k, (i ≠ s ∨ 7 ≤ κ) → C'.1 κ i k = C.1 κ i k) ∧ (∀ i, i ≠ s → C'.2.2 i = C.2.2 i) ∧ ∀ i, i < 6 → i ≠ s → C'.2.1 i = C.2.1 i ∧ C'.2.1 (12 + i) = C.2.1 (12 + i)
def fd (D D' : rf_C) (s : Nat) : Prop := (∀ k j, 12 ≤ k → k < 48 → k ≠ 28 → k ≠ 29 → j ≠ s → D'.1 k j = D.1 k j) ∧ (∀ k t i, (k = 28 ∨ k = 29) → i < 16 → t ≠ s → D'.1 k (16 * t + i) = D.1 k (16 * t + i)) ∧ (∀ k j, k = 48 ∨ k = 49 → D'.1 k j = D.1 k j) ∧ ∀ i, i < 6 → i ≠ s → D'.2 (12 + i) = D.2 (12 + i)
theorem sm_1.keep {C C' : cr_C} {D D' : rf_C} {s t : Nat} (h : sm_1 C D t) (ht : t < 6) (hts : t ≠ s) (hc : fc C C' s) (hd : fd D D' s) : sm_1 C' D' t := by
  obtain ⟨hS, hV, hU, hF, hY⟩ := h
  obtain ⟨c1, c2, c3⟩ := hc
  obtain ⟨d1, d2, d3, d4⟩ := hd
  have cI : ∀ κ k, C'.1 κ t k = C.1 κ t k := fun κ k => c1 κ t k (Or.inl hts)
  have dI : ∀ k, 12 ≤ k → k < 48 → k ≠ 28 → k ≠ 29 → D'.1 k t = D.1 k t := fun k a b c d => d1 k t a b c d hts
  obtain ⟨x1, x2⟩ := c3 t ht hts
  refine ⟨?_, ?_, ?_, ?_, ?_⟩
  · unfold sm_S at hS ⊢
    simp only [cI, x1, dI 12 (by omega) (by omega) (by omega) (by omega), dI 13 (by omega) (by omega) (by omega) (by omega), dI 14 (by omega) (by omega) (by omega) (by omega), dI 15 (by omega) (by omega) (by omega) (by omega), dI 16 (by omega) (by omega) (by omega) (by omega), dI 17 (by omega) (by omega) (by omega) (by omega), dI 18 (by omega) (by omega) (by omega) (by omega), dI 19 (by omega) (by omega) (by omega) (by omega), dI 20 (by omega) (by omega) (by omega) (by omega), dI 21 (by omega) (by omega) (by omega) (by omega), dI 22 (by omega) (by omega) (by omega) (by omega), dI 23 (by omega) (by omega) (by omega) (by omega), dI 24 (by omega) (by omega) (by omega) (by omega), dI 25 (by omega) (by omega) (by omega) (by omega), dI 26 (by omega) (by omega) (by omega) (by omega), dI 27 (by omega) (by omega) (by omega) (by omega)]
    exact hS
  · unfold sm_V cr_nb at hV ⊢
    simp only [cI, x2, d4 t ht hts, dI 42 (by omega) (by omega) (by omega) (by omega), dI 43 (by omega) (by omega) (by omega) (by omega), dI 44 (by omega) (by omega) (by omega) (by omega), dI 45 (by omega) (by omega) (by omega) (by omega), dI 46 (by omega) (by omega) (by omega) (by omega), dI 47 (by omega) (by omega) (by omega) (by omega)]
    exact hV
  · unfold sm_U at hU ⊢
    simp only [cI, c2 t hts, dI 32 (by omega) (by omega) (by omega) (by omega), dI 33 (by omega) (by omega) (by omega) (by omega), dI 34 (by omega) (by omega) (by omega) (by omega), dI 35 (by omega) (by omega) (by omega) (by omega), dI 36 (by omega) (by omega) (by omega) (by omega), dI 37 (by omega) (by omega) (by omega) (by omega), dI 38 (by omega) (by omega) (by omega) (by omega), dI 39 (by omega) (by omega) (by omega) (by omega), dI 40 (by omega) (by omega) (by omega) (by omega), dI 41 (by omega) (by omega) (by omega) (by omega)]
    exact hU
  · unfold sm_F at hF ⊢
    simp only [cI, dI 30 (by omega) (by omega) (by omega) (by omega), dI 31 (by omega) (by omega) (by omega) (by omega)]
    exact hF
  · intro i hi
    rw [cI 5 i, cI 6 i, d2 28 t i (Or.inl rfl) hi hts, d2 29 t i (Or.inr rfl) hi hts]
    exact hY i hi
/-- a step at one side -/
theorem sm.at {C C' : cr_C} {D D' : rf_C} {s : Nat} (h : sm C D) (hc : fc C C' s) (hd : fd D D' s) (h1 : sm_1 C' D' s) (hR : sm_R C' D') : sm C' D' := by
  refine ⟨fun t ht => ?_, hR, ?_, ?_⟩
  · by_cases e : t = s
    · rw [e]
      exact h1
    · exact (h.1 t ht).keep ht e hc hd
  · intro e k he hk
    rw [hd.2.2.1 48 _ (Or.inl rfl), hc.1 7 e k (Or.inr (by omega))]
    exact h.2.2.1 e k he hk
  · rw [hd.2.2.1 49 _ (Or.inr rfl), hc.1 9 0 6 (Or.inr (by omega)), hc.1 9 1 6 (Or.inr (by omega))]
    exact h.2.2.2
theorem fc_refl (C : cr_C) (s : Nat) : fc C C s := ⟨fun _ _ _ _ => rfl, fun _ _ => rfl, fun _ _ _ => ⟨rfl, rfl⟩⟩
theorem fc_sI {C C' : cr_C} {s κ k : Nat} {x : Int32} (h : fc C C' s) (hκ : κ < 7) : fc C (cr_sI C' κ s k x) s := by
  refine ⟨fun κ' i k' hi => ?_, h.2.1, h.2.2⟩
  have e : (cr_sI C' κ s k x).1 κ' i k' = C'.1 κ' i k' := by
    simp only [cr_sI, cr_u]
    rw [if_neg (by omega)]
  rw [e]
  exact h.1 κ' i k' hi
theorem fc_sX {C C' : cr_C} {s r : Nat} {zs : List cr_m} (h : fc C C' s) (hr : ∀ i, i < 6 → i ≠ s → i ≠ r ∧ 12 + i ≠ r) : fc C (cr_sX C' r zs) s := by
  refine ⟨h.1, h.2.1, fun i hi his => ?_⟩
  obtain ⟨a, b⟩ := hr i hi his
  rw [cr_sX_ne _ _ a, cr_sX_ne _ _ b]
  exact h.2.2 i hi his
theorem fc_sU {C C' : cr_C} {s : Nat} {v : Option cr_m} (h : fc C C' s) : fc C (cr_sU C' s v) s := by
  refine ⟨h.1, fun i hi => ?_, h.2.2⟩
  have e : (cr_sU C' s v).2.2 i = C'.2.2 i := by simp only [cr_sU, if_neg hi]
  rw [e]
  exact h.2.1 i hi
theorem fc.then {C C' C'' : cr_C} {s : Nat} (h : fc C C' s) (h' : fc C' C'' s) : fc C C'' s := ⟨fun κ i k hi => (h'.1 κ i k hi).trans (h.1 κ i k hi), fun i hi => (h'.2.1 i hi).trans (h.2.1 i hi), fun i hi his => ⟨(h'.2.2 i hi his).1.trans (h.2.2 i hi his).1, (h'.2.2 i hi his).2.trans (h.2.2 i hi his).2⟩⟩
theorem fd_refl (D : rf_C) (s : Nat) : fd D D s := ⟨fun _ _ _ _ _ _ _ => rfl, fun _ _ _ _ _ _ => rfl, fun _ _ _ => rfl, fun _ _ _ => rfl⟩
theorem fd_sI {D D' : rf_C} {s k : Nat} {x : Int32} (h : fd D D' s) (hk : k ≠ 28 ∧ k ≠ 29 ∧ k < 48) : fd D (rf_sI D' k s x) s := by
  refine ⟨fun k' j a b c d e => ?_, fun k' t i a b c => ?_, fun k' j a => ?_, h.2.2.2⟩
  · rw [rf_sI_ne _ _ (by omega)]
    exact h.1 k' j a b c d e
  · rw [rf_sI_ne _ _ (by omega)]
    exact h.2.1 k' t i a b c
  · rw [rf_sI_ne _ _ (by omega)]
    exact h.2.2.1 k' j a
theorem fd_0 {D D' : rf_C} {s k : Nat} {x : Int32} (h : fd D D' s) (hk : k = 0 ∨ k = 50) : fd D (rf_sI D' k 0 x) s := by
  refine ⟨fun k' j a b c d e => ?_, fun k' t i a b c => ?_, fun k' j a => ?_, h.2.2.2⟩
  · rw [rf_sI_ne _ _ (by omega)]
    exact h.1 k' j a b c d e
  · rw [rf_sI_ne _ _ (by omega)]
    exact h.2.1 k' t i a b c
  · rw [rf_sI_ne _ _ (by omega)]
    exact h.2.2.1 k' j a
theorem fd_28 {D D' : rf_C} {s k i : Nat} {x : Int32} (h : fd D D' s) (hk : k = 28 ∨ k = 29) (hi : i < 16) : fd D (rf_sI D' k (16 * s + i) x) s := by
  refine ⟨fun k' j a b c d e => ?_, fun k' t i' a b c => ?_, fun k' j a => ?_, h.2.2.2⟩
  · rw [rf_sI_ne _ _ (by omega)]
    exact h.1 k' j a b c d e
  · rw [rf_sI_ne _ _ (by omega)]
    exact h.2.1 k' t i' a b c
  · rw [rf_sI_ne _ _ (by omega)]
    exact h.2.2.1 k' j a
theorem fd_sX {D D' : rf_C} {s r : Nat} {zs : List rf_m} (h : fd D D' s) (hr : ∀ i, i < 6 → i ≠ s → 12 + i ≠ r) : fd D (rf_sX D' r zs) s := by
  refine ⟨h.1, h.2.1, h.2.2.1, fun i hi his => ?_⟩
  rw [rf_sX_ne _ _ (hr i hi his)]
  exact h.2.2.2 i hi his
theorem fd.then {D D' D'' : rf_C} {s : Nat} (h : fd D D' s) (h' : fd D' D'' s) : fd D D'' s := ⟨fun k j a b c d e => (h'.1 k j a b c d e).trans (h.1 k j a b c d e), fun k t i a b c => (h'.2.1 k t i a b c).trans (h.2.1 k t i a b c), fun k j a => (h'.2.2.1 k j a).trans (h.2.2.1 k j a), fun i hi his => (h'.2.2.2 i hi his).trans (h.2.2.2 i hi his)⟩
