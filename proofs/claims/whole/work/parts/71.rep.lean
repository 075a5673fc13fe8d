/-! the class's own cells: where they lie, what they are, which of their fields are numbers, which point where -/
/- kinds: 1 side, 2 changeover, 3 unit, 4 fault, 5 a memory's turns, 6 its backs, 7 an end's links, 8 its links before, 9 end, 10 memory, 11 list, 12 the pair, 13 its ends, 14 its faults, 15 an end's sides, 16 its changeovers -/
def cr_S (i : Nat) : Nat := 5 + 34 * (i % 2) + 9 * (i / 2)
def cr_o (κ i : Nat) : Nat := match κ with
  | 1 => cr_S i
  | 2 => cr_S i + 7
  | 3 => cr_S i + 6
  | 4 => 71 + i
  | 5 => cr_S i + 4
  | 6 => cr_S i + 5
  | 7 => 32 + 34 * i
  | 8 => 33 + 34 * i
  | 9 => 2 + 34 * i
  | 10 => cr_S i + 3
  | 11 => if i < 6 then cr_S i + 1 else if i < 12 then cr_S (i - 6) + 2 else if i < 18 then cr_S (i - 12) + 8 else if i < 20 then 34 + 34 * (i - 18) else 35 + 34 * (i - 20)
  | 12 => 0
  | 13 => 1
  | 14 => 70
  | 15 => 3 + 34 * i
  | _ => 4 + 34 * i
def cr_c (κ : Nat) : Nat := match κ with
  | 1 => 6 | 2 => 6 | 3 => 6 | 4 => 6 | 5 => 6 | 6 => 6 | 7 => 2 | 8 => 2 | 9 => 2 | 10 => 6 | 11 => 22 | 12 => 1 | 13 => 1 | 14 => 1 | 15 => 2 | 16 => 2 | _ => 0
def cr_t (κ : Nat) : Nat := match κ with
  | 1 => 2 | 2 => 3 | 3 => 7 | 4 => 4 | 5 => 100 | 6 => 100 | 7 => 100 | 8 => 100 | 9 => 1 | 10 => 5 | 11 => 9 | 12 => 0 | 13 => 104 | 14 => 107 | 15 => 105 | _ => 106
def cr_n (κ : Nat) : Nat := match κ with
  | 5 => 16 | 6 => 16 | 7 => 4 | 8 => 4 | 13 => 2 | 14 => 6 | 15 => 3 | _ => 3
def cr_i (κ k : Nat) : Bool := match κ with
  | 1 => decide (k < 16) | 2 => decide (k < 9) | 3 => decide (k < 6) | 4 => decide (k < 2) | 5 => decide (k < 16) | 6 => decide (k < 16) | 7 => decide (k < 4) | 8 => decide (k < 4) | 9 => decide (k = 6) | _ => false
def cr_p (κ i k : Nat) : Option Nat := match κ with
  | 1 => if k = 16 then some (cr_o 11 i) else if k = 17 then some (cr_o 11 (6 + i)) else if k = 18 then some (cr_o 10 i) else if k = 19 then some (cr_o 3 i) else none
  | 2 => if k = 9 then some (cr_o 11 (12 + i)) else none
  | 9 => if k = 0 then some (cr_o 15 i) else if k = 1 then some (cr_o 16 i) else if k = 2 then some (cr_o 7 i) else if k = 3 then some (cr_o 8 i) else if k = 4 then some (cr_o 11 (18 + i)) else if k = 5 then some (cr_o 11 (20 + i)) else none
  | 10 => if k = 0 then some (cr_o 5 i) else if k = 1 then some (cr_o 6 i) else none
  | 12 => if k = 0 then some (cr_o 13 0) else if k = 1 then some (cr_o 14 0) else none
  | 13 => if k < 2 then some (cr_o 9 k) else none
  | 14 => if k < 6 then some (cr_o 4 k) else none
  | 15 => if k < 3 then some (cr_o 1 (2 * k + i)) else none
  | 16 => if k < 3 then some (cr_o 2 (2 * k + i)) else none
  | _ => none
theorem cr_lt : ∀ κ, κ < 17 → ∀ i, i < cr_c κ → cr_o κ i < 77 := by decide +kernel
theorem cr_big (κ : Nat) (h : 17 ≤ κ) : cr_c κ = 0 := by
  unfold cr_c
  split <;> first | omega | rfl
def cr_ok : Bool := (List.range 17).all fun κ => (List.range (cr_c κ)).all fun i => (List.range 17).all fun κ' => (List.range (cr_c κ')).all fun i' => !(cr_o κ i == cr_o κ' i') || (κ == κ' && i == i')
theorem cr_okT : cr_ok = true := by decide +kernel
theorem cr_inj0 (κ : Nat) (hκ : κ < 17) (i : Nat) (hi : i < cr_c κ) (κ' : Nat) (hκ' : κ' < 17) (i' : Nat) (hi' : i' < cr_c κ') (e : cr_o κ i = cr_o κ' i') : κ = κ' ∧ i = i' := by
  have h := cr_okT
  unfold cr_ok at h
  have h1 := List.all_eq_true.mp (List.all_eq_true.mp (List.all_eq_true.mp (List.all_eq_true.mp h κ (List.mem_range.mpr hκ)) i (List.mem_range.mpr hi)) κ' (List.mem_range.mpr hκ')) i' (List.mem_range.mpr hi')
  simp only [Bool.or_eq_true, Bool.and_eq_true, beq_iff_eq, Bool.not_eq_true', beq_eq_false_iff_ne] at h1
  rcases h1 with h1 | h1
  · exact absurd e h1
  · exact h1
theorem cr_in {κ i : Nat} (h : i < cr_c κ) : κ < 17 := by
  by_cases hk : κ < 17
  · exact hk
  · rw [cr_big κ (by omega)] at h
    omega
theorem cr_inj {κ i κ' i' : Nat} (h : i < cr_c κ) (h' : i' < cr_c κ') (e : cr_o κ i = cr_o κ' i') : κ = κ' ∧ i = i' := cr_inj0 κ (cr_in h) i h κ' (cr_in h') i' h' e
theorem cr_off {κ i : Nat} (h : i < cr_c κ) : cr_o κ i < 77 := cr_lt κ (cr_in h) i h
theorem cr_pi (κ i k : Nat) (h : cr_i κ k = true) : cr_p κ i k = none := by
  unfold cr_i at h
  unfold cr_p
  split at h <;> first | (cases h; done) | skip
  all_goals simp only [decide_eq_true_eq] at h
  all_goals first | rfl | ((repeat rw [if_neg (by omega)]); first | done | rfl)
abbrev cr_I : Type := Nat → Nat → Nat → Int32
def cr_u (I : cr_I) (κ i k : Nat) (x : Int32) : cr_I := fun κ' i' k' => if κ' = κ ∧ i' = i ∧ k' = k then x else I κ' i' k'
/-- the cells as they stand: the numbers I, the lists' messages X in arrays Ar of lengths Cp, what the units carry U -/
def cr_R (G : ev_gx) (q0 : Nat) (w : ev_wd) (I : cr_I) (X : Nat → List Nat) (Ar Cp : Nat → Nat) (U : Nat → Option Nat) : Prop :=
  ev_b G + 125 ≤ ev_z w ∧
  (∀ κ i, i < cr_c κ → ev_g w (ev_b G + cr_o κ i) = cr_t κ ∧ (100 ≤ cr_t κ → ev_n w (ev_b G + cr_o κ i) = cr_n κ)) ∧
  (∀ κ i k, i < cr_c κ → cr_i κ k = true → ev_v w (ev_b G + cr_o κ i) k = .int (I κ i k)) ∧
  (∀ κ i k q, i < cr_c κ → cr_p κ i k = some q → ev_v w (ev_b G + cr_o κ i) k = .ref (ev_b G + q)) ∧
  (∀ r, r < 22 → ev_li G q0 w (ev_b G + cr_o 11 r) (Ar r) (Cp r) (X r) ∧ (Ar r = q0 ∨ ev_b G + 125 ≤ Ar r)) ∧
  (∀ r r', r < 22 → r' < 22 → r ≠ r' → Ar r = q0 ∨ Ar r ≠ Ar r') ∧
  (∀ s, s < 6 → ev_v w (ev_b G + cr_o 3 s) 6 = va_rf (U s) ∧ ∀ x, U s = some x → (ev_b G ≤ x ∧ x < ev_z w) ∧ ev_g w x = 6)
theorem ev_li.keep {G : ev_gx} {q0 a arr cap : Nat} {xs : List Nat} {w w' : ev_wd} {S : Nat → Prop} (h : ev_li G q0 w a arr cap xs) (hf : ev_fr w w' S) (ha : ¬ S a) (hr : arr = q0 ∨ ¬ S arr) (hq : q0 < ev_b G) : ev_li G q0 w' a arr cap xs := by
  obtain ⟨⟨mc, ha1, ht, h0, h1, h2⟩, hlen, hc1, hxs, hcase⟩ := h
  have hv := (hf.2.2 a ha1.2).2.2 ha
  refine ⟨⟨mc, ⟨ha1.1, Nat.lt_of_lt_of_le ha1.2 hf.1⟩, (hf.2.2 a ha1.2).1.trans ht, by rw [hv]; exact h0, by rw [hv]; exact h1, by rw [hv]; exact h2⟩, hlen, hc1, fun x hx => ?_, ?_⟩
  · obtain ⟨x1, x2⟩ := hxs x hx
    exact ⟨⟨x1.1, Nat.lt_of_lt_of_le x1.2 hf.1⟩, (hf.2.2 x x1.2).1.trans x2⟩
  · rcases hcase with h | ⟨hr1, hg, hn, h10, hel⟩
    · exact Or.inl h
    · have hne : ¬ S arr := by
        rcases hr with h | h
        · omega
        · exact h
      exact Or.inr ⟨⟨hr1.1, Nat.lt_of_lt_of_le hr1.2 hf.1⟩, (hf.2.2 arr hr1.2).1.trans hg, (hf.2.2 arr hr1.2).2.1.trans hn, h10, fun i x hx => by rw [(hf.2.2 arr hr1.2).2.2 hne]; exact hel i x hx⟩
section CrR
variable {G : ev_gx} {M : ev_mx} {d pc pc' tgt : Nat} {L : List (Nat × Value)} {st : List Value} {w : ev_wd} {P : ev_r → ev_wd → Prop} {q0 : Nat} {I : cr_I} {X : Nat → List Nat} {Ar Cp : Nat → Nat} {U : Nat → Option Nat}
theorem cr_R.al (h : cr_R G q0 w I X Ar Cp U) {κ i : Nat} (hi : i < cr_c κ) : ev_b G ≤ ev_b G + cr_o κ i ∧ ev_b G + cr_o κ i < ev_z w := by
  have h1 := h.1
  have h2 := cr_off hi
  exact ⟨Nat.le_add_right _ _, by omega⟩
theorem cr_R.setI (h : cr_R G q0 w I X Ar Cp U) (hq : q0 < ev_b G) {κ i k : Nat} (hi : i < cr_c κ) (hk : cr_i κ k = true) (x : Int32) : cr_R G q0 (ev_set w (ev_b G + cr_o κ i) k (.int x)) (cr_u I κ i k x) X Ar Cp U := by
  obtain ⟨h1, h2, h3, h4, h5, h6, h7⟩ := h
  have h11 : κ ≠ 11 := fun e => by rw [e] at hk; cases hk
  have hfr : ev_fr w (ev_set w (ev_b G + cr_o κ i) k (.int x)) (fun q => q = ev_b G + cr_o κ i) := ev_fr.set _ _ _ _ (fun _ => rfl)
  have hoff := cr_off hi
  refine ⟨h1, h2, fun κ' i' k' hi' hk' => ?_, fun κ' i' k' q hi' hp => ?_, fun r hr => ⟨?_, (h5 r hr).2⟩, h6, fun s hs => ⟨?_, (h7 s hs).2⟩⟩
  · by_cases e : κ' = κ ∧ i' = i
    · obtain ⟨rfl, rfl⟩ := e
      rw [ev_set_at]
      by_cases e2 : k' = k
      · simp [updV, cr_u, e2]
      · simp only [updV, cr_u, if_neg e2]
        rw [if_neg (by simp [e2])]
        exact h3 _ _ _ hi' hk'
    · rw [ev_set_ne _ _ _ (fun e2 => e (cr_inj hi' hi (Nat.add_left_cancel e2)))]
      rw [h3 _ _ _ hi' hk']
      unfold cr_u
      rw [if_neg (fun e3 => e ⟨e3.1, e3.2.1⟩)]
  · by_cases e : κ' = κ ∧ i' = i
    · obtain ⟨rfl, rfl⟩ := e
      rw [ev_set_at]
      have e2 : ¬ k' = k := fun e2 => by
        rw [e2, cr_pi _ _ _ hk] at hp
        cases hp
      simp only [updV, if_neg e2]
      exact h4 _ _ _ _ hi' hp
    · rw [ev_set_ne _ _ _ (fun e2 => e (cr_inj hi' hi (Nat.add_left_cancel e2)))]
      exact h4 _ _ _ _ hi' hp
  · refine (h5 r hr).1.keep hfr (fun e => ?_) ?_ hq
    · exact h11 (cr_inj (κ := 11) (i := r) hr hi (Nat.add_left_cancel e)).1.symm
    · rcases (h5 r hr).2 with e | e
      · exact Or.inl e
      · refine Or.inr (fun e2 => ?_)
        have e3 : Ar r = ev_b G + cr_o κ i := e2
        omega
  · by_cases e : κ = 3 ∧ i = s
    · obtain ⟨rfl, rfl⟩ := e
      rw [ev_set_at]
      have hk6 : ¬ 6 = k := fun e2 => by rw [← e2] at hk; cases hk
      simp only [updV, if_neg hk6]
      exact (h7 i hs).1
    · rw [ev_set_ne _ _ _ (fun e2 => e (by obtain ⟨e3, e4⟩ := cr_inj (κ := 3) (i := s) hs hi (Nat.add_left_cancel e2); exact ⟨e3.symm, e4.symm⟩))]
      exact (h7 s hs).1
/-- a number of a cell is read, is written; what a cell points to is read -/
theorem cr_gI {index κ i k : Nat} (hd : ev_d M.2.1 pc (.getfield index) 3 pc') (hF : ev_F0 M.1.cls index (cr_t κ) k) (h : cr_R G q0 w I X Ar Cp U) (hi : i < cr_c κ) (hk : cr_i κ k = true) (kk : ev_E G M d pc' L (.int (I κ i k) :: st) w P) : ev_E G M d pc L (.ref (ev_b G + cr_o κ i) :: st) w P := ev_getf hd hF (h.al hi) (h.2.1 κ i hi).1 (h.2.2.1 κ i k hi hk) kk
theorem cr_gP {index κ i k q : Nat} (hd : ev_d M.2.1 pc (.getfield index) 3 pc') (hF : ev_F0 M.1.cls index (cr_t κ) k) (h : cr_R G q0 w I X Ar Cp U) (hi : i < cr_c κ) (hq : cr_p κ i k = some q) (kk : ev_E G M d pc' L (.ref (ev_b G + q) :: st) w P) : ev_E G M d pc L (.ref (ev_b G + cr_o κ i) :: st) w P := ev_getf hd hF (h.al hi) (h.2.1 κ i hi).1 (h.2.2.2.1 κ i k q hi hq) kk
theorem cr_pI {index κ i k : Nat} {x : Int32} (hd : ev_d M.2.1 pc (.putfield index) 3 pc') (hF : ev_F M.1.cls index (cr_t κ) k false) (h : cr_R G q0 w I X Ar Cp U) (hq : q0 < ev_b G) (hi : i < cr_c κ) (hk : cr_i κ k = true) (hn : narrow (nm_ft (cr_t κ) k) (.int x) = .int x) (hfit : fits (nm_ft (cr_t κ) k) (.int x) = true)
    (kk : ∀ w1, cr_R G q0 w1 (cr_u I κ i k x) X Ar Cp U → ev_z w1 = ev_z w → ev_u w1 = ev_u w → ev_E G M d pc' L st w1 P) : ev_E G M d pc L (.int x :: .ref (ev_b G + cr_o κ i) :: st) w P :=
  ev_putf hd hF (h.al hi) (h.2.1 κ i hi).1 hn hfit (kk _ (h.setI hq hi hk x) rfl rfl)
end CrR
