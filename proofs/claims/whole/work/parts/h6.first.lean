/-! how the class begins -/
def fS (z : Nat) : Nat → Value := up (up (up (up (up (up (up (up (up (up (up (up (up (up (up (up (up (up (up (up (fd0 2) 0 (.int 0)) 1 (.int 0)) 2 (.int 0)) 3 (.int 0)) 4 (.int 7)) 5 (.int 7)) 6 (.int 1)) 7 (.int 1)) 8 (.int 0)) 9 (.int 0)) 10 (.int 0)) 11 (.int 0)) 12 (.int 0)) 13 (.int 0)) 14 (.int 0)) 15 (.int 0)) 16 (.ref (z + 1))) 17 (.ref (z + 2))) 18 (.ref (z + 3))) 19 (.ref (z + 6))
def fC (z : Nat) : Nat → Value := up (up (up (up (up (up (up (up (up (up (fd0 3) 0 (.int 0)) 1 (.int 0)) 2 (.int 0)) 3 (.int 0)) 4 (.int 0)) 5 (.int 0)) 6 (.int 0)) 7 (.int 0)) 8 (.int 0)) 9 (.ref (z + 1))
def I0 : cr_I := fun κ _ k => if κ = 1 then (if k = 4 ∨ k = 5 then 7 else if k = 6 ∨ k = 7 then 1 else 0) else if κ = 6 then -1 else if κ = 7 then (Int32.ofNat k - Int32.ofNat k / 3 * 3) else 0
def C00 : cr_C := (I0, fun _ => [], fun _ => none)
theorem T1 (q0 z : Nat) {e j : Nat} (he : e < 2) (hj : j < 34) : (lPa (lEn q0) z)[2 + 34 * e + j]? = (lEn q0 (z + (2 + 34 * e)))[j]? := by
  have h34 : ∀ y, (lEn q0 y).length = 34 := fun _ => rfl
  have hA : (lHd z ++ lEn q0 (z + 2)).length = 36 := by rw [List.length_append, h34]; rfl
  have hB : (lHd z ++ lEn q0 (z + 2) ++ lEn q0 (z + 36)).length = 70 := by rw [List.length_append, List.length_append, h34, h34]; rfl
  unfold lPa
  rw [List.getElem?_append_left (by omega)]
  rcases (show e = 0 ∨ e = 1 by omega) with rfl | rfl
  · rw [List.getElem?_append_left (by omega)]
    exact ap_at (n := 2) (i := j) rfl
  · rw [show 2 + 34 * 1 + j = 36 + j by omega]
    exact ap_at hA
theorem T2 (q0 y : Nat) {l j : Nat} (hl : l < 3) (hj : j < 7) : (lEn q0 y)[3 + 9 * l + j]? = (lSi q0 (y + (3 + 9 * l)))[j]? := by
  rcases (show l = 0 ∨ l = 1 ∨ l = 2 by omega) with rfl | rfl | rfl <;> rcases (show j = 0 ∨ j = 1 ∨ j = 2 ∨ j = 3 ∨ j = 4 ∨ j = 5 ∨ j = 6 by omega) with rfl | rfl | rfl | rfl | rfl | rfl | rfl <;> rfl
theorem T3 (q0 y : Nat) {l j : Nat} (hl : l < 3) (hj : j < 2) : (lEn q0 y)[10 + 9 * l + j]? = (lCh q0 (y + (10 + 9 * l)))[j]? := by
  rcases (show l = 0 ∨ l = 1 ∨ l = 2 by omega) with rfl | rfl | rfl <;> rcases (show j = 0 ∨ j = 1 by omega) with rfl | rfl <;> rfl
theorem sideat (q0 z : Nat) {s j : Nat} (hs : s < 6) (hj : j < 7) : (lPa (lEn q0) z)[cr_S s + j]? = (lSi q0 (z + cr_S s))[j]? := by
  have h1 := T1 q0 z (e := s % 2) (j := 3 + 9 * (s / 2) + j) (by omega) (by omega)
  rw [T2 q0 _ (by omega) hj, show z + (2 + 34 * (s % 2)) + (3 + 9 * (s / 2)) = z + cr_S s by unfold cr_S; omega, show 2 + 34 * (s % 2) + (3 + 9 * (s / 2) + j) = cr_S s + j by unfold cr_S; omega] at h1
  exact h1
theorem chat (q0 z : Nat) {s j : Nat} (hs : s < 6) (hj : j < 2) : (lPa (lEn q0) z)[cr_S s + 7 + j]? = (lCh q0 (z + (cr_S s + 7)))[j]? := by
  have h1 := T1 q0 z (e := s % 2) (j := 10 + 9 * (s / 2) + j) (by omega) (by omega)
  rw [T3 q0 _ (by omega) hj, show z + (2 + 34 * (s % 2)) + (10 + 9 * (s / 2)) = z + (cr_S s + 7) by unfold cr_S; omega, show 2 + 34 * (s % 2) + (10 + 9 * (s / 2) + j) = cr_S s + 7 + j by unfold cr_S; omega] at h1
  exact h1
def cok (q0 z κ i : Nat) : Prop := ∃ c, (lPa (lEn q0) z)[cr_o κ i]? = some c ∧ c.1 = cr_t κ ∧ (100 ≤ cr_t κ → c.2.1 = cr_n κ) ∧ (∀ k, cr_i κ k = true → c.2.2 k = .int (I0 κ i k)) ∧ ∀ k q, cr_p κ i k = some q → c.2.2 k = .ref (z + q)
theorem o11 {i : Nat} (hi : i < 6) : cr_o 11 i = cr_S i + 1 ∧ cr_o 11 (6 + i) = cr_S i + 2 ∧ cr_o 11 (12 + i) = cr_S i + 8 := by
  rcases (show i = 0 ∨ i = 1 ∨ i = 2 ∨ i = 3 ∨ i = 4 ∨ i = 5 by omega) with rfl | rfl | rfl | rfl | rfl | rfl <;> exact ⟨rfl, rfl, rfl⟩

theorem ck1 (q0 z : Nat) {i : Nat} (hi : i < 6) : cok q0 z 1 i := by
  refine ⟨(2, 0, fS (z + cr_S i)), sideat q0 z (j := 0) hi (by omega), rfl, fun h => absurd h (by decide), fun k hk => ?_, fun k q h => ?_⟩
  · have hk' : k < 16 := of_decide_eq_true hk
    rcases (show k = 0 ∨ k = 1 ∨ k = 2 ∨ k = 3 ∨ k = 4 ∨ k = 5 ∨ k = 6 ∨ k = 7 ∨ k = 8 ∨ k = 9 ∨ k = 10 ∨ k = 11 ∨ k = 12 ∨ k = 13 ∨ k = 14 ∨ k = 15 by omega) with rfl | rfl | rfl | rfl | rfl | rfl | rfl | rfl | rfl | rfl | rfl | rfl | rfl | rfl | rfl | rfl <;> rfl
  · have h' : (if k = 16 then some (cr_o 11 i) else if k = 17 then some (cr_o 11 (6 + i)) else if k = 18 then some (cr_o 10 i) else if k = 19 then some (cr_o 3 i) else none) = some q := h
    obtain ⟨o1, o2, -⟩ := o11 hi
    by_cases e : k = 16
    · rw [if_pos e, o1] at h'
      cases h'
      rw [e]
      rfl
    · rw [if_neg e] at h'
      by_cases e : k = 17
      · rw [if_pos e, o2] at h'
        cases h'
        rw [e]
        rfl
      · rw [if_neg e] at h'
        by_cases e : k = 18
        · rw [if_pos e] at h'
          cases h'
          rw [e]
          rfl
        · rw [if_neg e] at h'
          by_cases e : k = 19
          · rw [if_pos e] at h'
            cases h'
            rw [e]
            rfl
          · rw [if_neg e] at h'
            cases h'
theorem ck2 (q0 z : Nat) {i : Nat} (hi : i < 6) : cok q0 z 2 i := by
  refine ⟨(3, 0, fC (z + (cr_S i + 7))), chat q0 z (j := 0) hi (by omega), rfl, fun h => absurd h (by decide), fun k hk => ?_, fun k q h => ?_⟩
  · have hk' : k < 9 := of_decide_eq_true hk
    rcases (show k = 0 ∨ k = 1 ∨ k = 2 ∨ k = 3 ∨ k = 4 ∨ k = 5 ∨ k = 6 ∨ k = 7 ∨ k = 8 by omega) with rfl | rfl | rfl | rfl | rfl | rfl | rfl | rfl | rfl <;> rfl
  · have h' : (if k = 9 then some (cr_o 11 (12 + i)) else none) = some q := h
    by_cases e : k = 9
    · rw [if_pos e, (o11 hi).2.2] at h'
      cases h'
      rw [e]
      rfl
    · rw [if_neg e] at h'
      cases h'
theorem ck3 (q0 z : Nat) {i : Nat} (hi : i < 6) : cok q0 z 3 i := by
  refine ⟨(7, 0, up (fd0 7) 0 (.int 0)), sideat q0 z (j := 6) hi (by omega), rfl, fun h => absurd h (by decide), fun k hk => ?_, fun k q h => ?_⟩
  · have hk' : k < 6 := of_decide_eq_true hk
    rcases (show k = 0 ∨ k = 1 ∨ k = 2 ∨ k = 3 ∨ k = 4 ∨ k = 5 by omega) with rfl | rfl | rfl | rfl | rfl | rfl <;> rfl
  · have h' : (none : Option Nat) = some q := h
    cases h'
theorem fl_at (q0 z : Nat) {i : Nat} (hi : i < 7) : (lPa (lEn q0) z)[70 + i]? = (fl z 6)[i]? := by
  have h34 : ∀ y, (lEn q0 y).length = 34 := fun _ => rfl
  have hB : (lHd z ++ lEn q0 (z + 2) ++ lEn q0 (z + 36)).length = 70 := by rw [List.length_append, List.length_append, h34, h34]; rfl
  exact ap_at hB
theorem ck4 (q0 z : Nat) {i : Nat} (hi : i < 6) : cok q0 z 4 i := by
  have e0 : (lPa (lEn q0) z)[71 + i]? = some cF := by
    have h := fl_at q0 z (i := 1 + i) (by omega)
    rw [show 70 + (1 + i) = 71 + i by omega] at h
    rw [h]
    rcases (show i = 0 ∨ i = 1 ∨ i = 2 ∨ i = 3 ∨ i = 4 ∨ i = 5 by omega) with rfl | rfl | rfl | rfl | rfl | rfl <;> rfl
  refine ⟨cF, e0, rfl, fun h => absurd h (by decide), fun k hk => ?_, fun k q h => ?_⟩
  · have hk' : k < 2 := of_decide_eq_true hk
    rcases (show k = 0 ∨ k = 1 by omega) with rfl | rfl <;> rfl
  · have h' : (none : Option Nat) = some q := h
    cases h'
theorem ck5 (q0 z : Nat) {i : Nat} (hi : i < 6) : cok q0 z 5 i := by
  refine ⟨(100, 16, fun _ => .int 0), sideat q0 z (j := 4) hi (by omega), rfl, fun _ => rfl, fun k hk => rfl, fun k q h => ?_⟩
  have h' : (none : Option Nat) = some q := h
  cases h'
theorem ck6 (q0 z : Nat) {i : Nat} (hi : i < 6) : cok q0 z 6 i := by
  refine ⟨ff 16 (.int (-1)) (100, 16, fun _ => .int 0), sideat q0 z (j := 5) hi (by omega), rfl, fun _ => rfl, fun k hk => ?_, fun k q h => ?_⟩
  · have hk' : k < 16 := of_decide_eq_true hk
    exact if_pos hk'
  · have h' : (none : Option Nat) = some q := h
    cases h'
theorem ck7 (q0 z : Nat) {i : Nat} (hi : i < 2) : cok q0 z 7 i := by
  have h := T1 q0 z (e := i) (j := 30) hi (by omega)
  rw [show 2 + 34 * i + 30 = 32 + 34 * i by omega] at h
  refine ⟨_, h.trans rfl, rfl, fun _ => rfl, fun k hk => ?_, fun k q h => ?_⟩
  · have hk' : k < 4 := of_decide_eq_true hk
    rcases (show k = 0 ∨ k = 1 ∨ k = 2 ∨ k = 3 by omega) with rfl | rfl | rfl | rfl <;> rfl
  · have h' : (none : Option Nat) = some q := h
    cases h'
theorem ck8 (q0 z : Nat) {i : Nat} (hi : i < 2) : cok q0 z 8 i := by
  have h := T1 q0 z (e := i) (j := 31) hi (by omega)
  rw [show 2 + 34 * i + 31 = 33 + 34 * i by omega] at h
  refine ⟨_, h.trans rfl, rfl, fun _ => rfl, fun k hk => rfl, fun k q h => ?_⟩
  have h' : (none : Option Nat) = some q := h
  cases h'
theorem ck9 (q0 z : Nat) {i : Nat} (hi : i < 2) : cok q0 z 9 i := by
  have h := T1 q0 z (e := i) (j := 0) hi (by omega)
  refine ⟨_, h.trans rfl, rfl, fun h => absurd h (by decide), fun k hk => ?_, fun k q h => ?_⟩
  · have hk' : k = 6 := of_decide_eq_true hk
    rw [hk']
    rfl
  · have h' : (if k = 0 then some (cr_o 15 i) else if k = 1 then some (cr_o 16 i) else if k = 2 then some (cr_o 7 i) else if k = 3 then some (cr_o 8 i) else if k = 4 then some (cr_o 11 (18 + i)) else if k = 5 then some (cr_o 11 (20 + i)) else none) = some q := h
    rcases (show i = 0 ∨ i = 1 by omega) with rfl | rfl
    all_goals
      by_cases e : k = 0
      · rw [if_pos e] at h'
        cases h'
        rw [e]
        rfl
      rw [if_neg e] at h'
      clear e
      by_cases e : k = 1
      · rw [if_pos e] at h'
        cases h'
        rw [e]
        rfl
      rw [if_neg e] at h'
      clear e
      by_cases e : k = 2
      · rw [if_pos e] at h'
        cases h'
        rw [e]
        rfl
      rw [if_neg e] at h'
      clear e
      by_cases e : k = 3
      · rw [if_pos e] at h'
        cases h'
        rw [e]
        rfl
      rw [if_neg e] at h'
      clear e
      by_cases e : k = 4
      · rw [if_pos e] at h'
        cases h'
        rw [e]
        rfl
      rw [if_neg e] at h'
      clear e
      by_cases e : k = 5
      · rw [if_pos e] at h'
        cases h'
        rw [e]
        rfl
      rw [if_neg e] at h'
      cases h'
theorem ck10 (q0 z : Nat) {i : Nat} (hi : i < 6) : cok q0 z 10 i := by
  refine ⟨_, (sideat q0 z (j := 3) hi (by omega)).trans rfl, rfl, fun h => absurd h (by decide), fun k hk => (by cases hk), fun k q h => ?_⟩
  have h' : (if k = 0 then some (cr_o 5 i) else if k = 1 then some (cr_o 6 i) else none) = some q := h
  by_cases e : k = 0
  · rw [if_pos e] at h'
    cases h'
    rw [e]
    rfl
  · rw [if_neg e] at h'
    by_cases e : k = 1
    · rw [if_pos e] at h'
      cases h'
      rw [e]
      rfl
    · rw [if_neg e] at h'
      cases h'
theorem ck11 (q0 z : Nat) {r : Nat} (hr : r < 22) : (lPa (lEn q0) z)[cr_o 11 r]? = some (cA q0) := by
  by_cases h1 : r < 6
  · rw [(o11 h1).1]
    exact sideat q0 z (j := 1) h1 (by omega)
  · by_cases h2 : r < 12
    · have := (o11 (i := r - 6) (by omega)).2.1
      rw [show 6 + (r - 6) = r by omega] at this
      rw [this]
      exact sideat q0 z (s := r - 6) (j := 2) (by omega) (by omega)
    · by_cases h3 : r < 18
      · have := (o11 (i := r - 12) (by omega)).2.2
        rw [show 12 + (r - 12) = r by omega] at this
        rw [this]
        exact chat q0 z (s := r - 12) (j := 1) (by omega) (by omega)
      · rcases (show r = 18 ∨ r = 19 ∨ r = 20 ∨ r = 21 by omega) with rfl | rfl | rfl | rfl
        · exact (T1 q0 z (e := 0) (j := 32) (by omega) (by omega)).trans rfl
        · exact (T1 q0 z (e := 1) (j := 32) (by omega) (by omega)).trans rfl
        · exact (T1 q0 z (e := 0) (j := 33) (by omega) (by omega)).trans rfl
        · exact (T1 q0 z (e := 1) (j := 33) (by omega) (by omega)).trans rfl
theorem ck12 (q0 z : Nat) : cok q0 z 12 0 := by
  refine ⟨_, rfl, rfl, fun h => absurd h (by decide), fun k hk => (by cases hk), fun k q h => ?_⟩
  have h' : (if k = 0 then some (cr_o 13 0) else if k = 1 then some (cr_o 14 0) else none) = some q := h
  by_cases e : k = 0
  · rw [if_pos e] at h'
    cases h'
    rw [e]
    rfl
  · rw [if_neg e] at h'
    by_cases e : k = 1
    · rw [if_pos e] at h'
      cases h'
      rw [e]
      rfl
    · rw [if_neg e] at h'
      cases h'
theorem ck13 (q0 z : Nat) : cok q0 z 13 0 := by
  refine ⟨_, rfl, rfl, fun _ => rfl, fun k hk => (by cases hk), fun k q h => ?_⟩
  have h' : (if k < 2 then some (cr_o 9 k) else none) = some q := h
  by_cases e : k < 2
  · rw [if_pos e] at h'
    cases h'
    rcases (show k = 0 ∨ k = 1 by omega) with rfl | rfl <;> rfl
  · rw [if_neg e] at h'
    cases h'
theorem ck14 (q0 z : Nat) : cok q0 z 14 0 := by
  refine ⟨_, (fl_at q0 z (i := 0) (by omega)).trans rfl, rfl, fun _ => rfl, fun k hk => (by cases hk), fun k q h => ?_⟩
  have h' : (if k < 6 then some (cr_o 4 k) else none) = some q := h
  by_cases e : k < 6
  · rw [if_pos e] at h'
    cases h'
    exact if_pos e
  · rw [if_neg e] at h'
    cases h'
theorem ck15 (q0 z : Nat) {i : Nat} (hi : i < 2) : cok q0 z 15 i := by
  have h := T1 q0 z (e := i) (j := 1) hi (by omega)
  rw [show 2 + 34 * i + 1 = 3 + 34 * i by omega] at h
  refine ⟨_, h.trans rfl, rfl, fun _ => rfl, fun k hk => (by cases hk), fun k q h => ?_⟩
  have h' : (if k < 3 then some (cr_o 1 (2 * k + i)) else none) = some q := h
  by_cases e : k < 3
  · rw [if_pos e] at h'
    cases h'
    rcases (show i = 0 ∨ i = 1 by omega) with rfl | rfl <;> rcases (show k = 0 ∨ k = 1 ∨ k = 2 by omega) with rfl | rfl | rfl <;> rfl
  · rw [if_neg e] at h'
    cases h'
theorem ck16 (q0 z : Nat) {i : Nat} (hi : i < 2) : cok q0 z 16 i := by
  have h := T1 q0 z (e := i) (j := 2) hi (by omega)
  rw [show 2 + 34 * i + 2 = 4 + 34 * i by omega] at h
  refine ⟨_, h.trans rfl, rfl, fun _ => rfl, fun k hk => (by cases hk), fun k q h => ?_⟩
  have h' : (if k < 3 then some (cr_o 2 (2 * k + i)) else none) = some q := h
  by_cases e : k < 3
  · rw [if_pos e] at h'
    cases h'
    rcases (show i = 0 ∨ i = 1 by omega) with rfl | rfl <;> rcases (show k = 0 ∨ k = 1 ∨ k = 2 by omega) with rfl | rfl | rfl <;> rfl
  · rw [if_neg e] at h'
    cases h'
theorem ckA (q0 z : Nat) {κ i : Nat} (hi : i < cr_c κ) : cok q0 z κ i := by
  have hκ := cr_in hi
  rcases (show κ = 0 ∨ κ = 1 ∨ κ = 2 ∨ κ = 3 ∨ κ = 4 ∨ κ = 5 ∨ κ = 6 ∨ κ = 7 ∨ κ = 8 ∨ κ = 9 ∨ κ = 10 ∨ κ = 11 ∨ κ = 12 ∨ κ = 13 ∨ κ = 14 ∨ κ = 15 ∨ κ = 16 by omega) with rfl | rfl | rfl | rfl | rfl | rfl | rfl | rfl | rfl | rfl | rfl | rfl | rfl | rfl | rfl | rfl | rfl
  · exact absurd hi (Nat.not_lt_zero i)
  · exact ck1 q0 z hi
  · exact ck2 q0 z hi
  · exact ck3 q0 z hi
  · exact ck4 q0 z hi
  · exact ck5 q0 z hi
  · exact ck6 q0 z hi
  · exact ck7 q0 z hi
  · exact ck8 q0 z hi
  · exact ck9 q0 z hi
  · exact ck10 q0 z hi
  · exact ⟨cA q0, ck11 q0 z hi, rfl, fun h => absurd h (by decide), fun k hk => (by cases hk), fun k q h => (by
      have h' : (none : Option Nat) = some q := h
      cases h')⟩
  · have e : i = 0 := Nat.lt_one_iff.mp hi
    rw [e]
    exact ck12 q0 z
  · have e : i = 0 := Nat.lt_one_iff.mp hi
    rw [e]
    exact ck13 q0 z
  · have e : i = 0 := Nat.lt_one_iff.mp hi
    rw [e]
    exact ck14 q0 z
  · exact ck15 q0 z hi
  · exact ck16 q0 z hi
theorem c_K0 {G : ev_gx} {q0 : Nat} {w F : ev_wd} (hw : ∀ i c, (lPa (lEn q0) (ev_b G))[i]? = some c → ev_g w (ev_b G + i) = c.1 ∧ ev_n w (ev_b G + i) = c.2.1 ∧ ev_v w (ev_b G + i) = c.2.2) (hz : ev_z w = ev_b G + 125) (hu : ev_u w ≤ 500000) (hf : cr_f G w F) : cr_K G q0 w C00 0 F (fun _ _ => False) := by
  refine ⟨fun _ => [], fun _ => q0, fun _ => 0, fun _ => none, ⟨by omega, fun κ i hi => ?_, fun κ i k hi hk => ?_, fun κ i k q hi hp => ?_, fun r hr => ⟨?_, Or.inl rfl⟩, fun _ _ _ _ _ => Or.inl rfl, fun s hs => ⟨?_, fun x h => (by cases h)⟩⟩, fun r hr => ⟨rfl, fun i x h => (by cases h)⟩, fun s hs => Or.inl ⟨rfl, rfl⟩, ⟨fun _ _ => Nat.zero_le _, by omega, by omega⟩, hf, fun _ _ h => h.elim⟩
  · obtain ⟨c, h1, h2, h3, -⟩ := ckA q0 (ev_b G) hi
    obtain ⟨a, b, -⟩ := hw _ c h1
    exact ⟨a.trans h2, fun h => b.trans (h3 h)⟩
  · obtain ⟨c, h1, -, -, h4, -⟩ := ckA q0 (ev_b G) hi
    obtain ⟨-, -, v⟩ := hw _ c h1
    rw [v]
    exact h4 k hk
  · obtain ⟨c, h1, -, -, -, h5⟩ := ckA q0 (ev_b G) hi
    obtain ⟨-, -, v⟩ := hw _ c h1
    rw [v]
    exact h5 k q hp
  · obtain ⟨a, b, v⟩ := hw _ _ (ck11 q0 (ev_b G) hr)
    have ho : cr_o 11 r < 77 := cr_off (κ := 11) hr
    refine ⟨⟨0, ⟨by omega, by omega⟩, a, ?_, ?_, ?_⟩, Nat.le_refl _, Nat.zero_le _, fun x hx => absurd hx List.not_mem_nil, Or.inl ⟨rfl, rfl⟩⟩
    · rw [v]; rfl
    · rw [v]; rfl
    · rw [v]; rfl
  · obtain ⟨a, b, v⟩ := hw _ _ (sideat q0 (ev_b G) (j := 6) hs (by omega))
    show ev_v w (ev_b G + (cr_S s + 6)) 6 = _
    rw [v]
    rfl
