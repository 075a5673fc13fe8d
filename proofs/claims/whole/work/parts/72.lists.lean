/-! the lists within the picture of the class's cells; arrays of numbers and of cells; a message -/
def cr_l (X : Nat → List Nat) (r : Nat) (ys : List Nat) : Nat → List Nat := fun q => if q = r then ys else X q
def cr_a (A : Nat → Nat) (r v : Nat) : Nat → Nat := fun q => if q = r then v else A q
section CrL
variable {G : ev_gx} {M : ev_mx} {d pc pc' tgt : Nat} {L : List (Nat × Value)} {st : List Value} {w : ev_wd} {P : ev_r → ev_wd → Prop} {q0 mi : Nat} {I : cr_I} {X : Nat → List Nat} {Ar Cp : Nat → Nat} {U : Nat → Option Nat}
theorem cr_R.list (h : cr_R G q0 w I X Ar Cp U) (hq : q0 < ev_b G) {r arr cap : Nat} {ys : List Nat} {w' : ev_wd} (hr : r < 22) (hf : ev_fr w w' (fun q => q = ev_b G + cr_o 11 r ∨ q = Ar r)) (hl : ev_li G q0 w' (ev_b G + cr_o 11 r) arr cap ys) (harr : arr = Ar r ∨ arr = ev_z w) : cr_R G q0 w' I (cr_l X r ys) (cr_a Ar r arr) (cr_a Cp r cap) U := by
  have hal := fun {κ i : Nat} (hi : i < cr_c κ) => h.al hi
  obtain ⟨h1, h2, h3, h4, h5, h6, h7⟩ := h
  have hr11 : r < cr_c 11 := hr
  have hout : ∀ {κ i : Nat}, i < cr_c κ → κ ≠ 11 → ¬ (ev_b G + cr_o κ i = ev_b G + cr_o 11 r ∨ ev_b G + cr_o κ i = Ar r) := by
    intro κ i hi hκ e
    have := cr_off hi
    rcases e with e | e
    · exact hκ (cr_inj hi hr11 (Nat.add_left_cancel e)).1
    · rcases (h5 r hr).2 with e2 | e2 <;> omega
  have hv : ∀ {κ i : Nat}, i < cr_c κ → κ ≠ 11 → ev_v w' (ev_b G + cr_o κ i) = ev_v w (ev_b G + cr_o κ i) := fun hi hκ => (hf.2.2 _ (hal hi).2).2.2 (hout hi hκ)
  have harz : ∀ r', r' < 22 → Ar r' = q0 ∨ Ar r' < ev_z w := by
    intro r' hr'
    obtain ⟨-, -, -, -, hc⟩ := (h5 r' hr').1
    rcases hc with ⟨e, -⟩ | ⟨e, -⟩
    · exact Or.inl e
    · exact Or.inr e.2
  refine ⟨Nat.le_trans h1 hf.1, fun κ i hi => ?_, fun κ i k hi hk => ?_, fun κ i k q hi hp => ?_, fun r' hr' => ?_, fun r1 r2 hr1 hr2 hne => ?_, fun s hs => ?_⟩
  · rw [(hf.2.2 _ (hal hi).2).1, (hf.2.2 _ (hal hi).2).2.1]
    exact h2 κ i hi
  · have hκ : κ ≠ 11 := fun e => by rw [e] at hk; cases hk
    rw [hv hi hκ]
    exact h3 κ i k hi hk
  · have hκ : κ ≠ 11 := fun e => by rw [e] at hp; cases hp
    rw [hv hi hκ]
    exact h4 κ i k q hi hp
  · by_cases e : r' = r
    · subst e
      simp only [cr_l, cr_a, if_true]
      refine ⟨hl, ?_⟩
      rcases harr with e | e
      · rw [e]; exact (h5 r' hr').2
      · rw [e]; exact Or.inr h1
    · simp only [cr_l, cr_a, if_neg e]
      refine ⟨(h5 r' hr').1.keep hf (fun e2 => ?_) ?_ hq, (h5 r' hr').2⟩
      · have h77 := cr_off (κ := 11) (i := r') hr'
        rcases e2 with e2 | e2
        · exact e (cr_inj (κ := 11) (κ' := 11) hr' hr11 (Nat.add_left_cancel e2)).2
        · rcases (h5 r hr).2 with e3 | e3 <;> omega
      · rcases h6 r' r hr' hr e with e2 | e2
        · exact Or.inl e2
        · by_cases hz : Ar r' = q0
          · exact Or.inl hz
          · refine Or.inr (fun e3 => ?_)
            have h77 := cr_off (κ := 11) (i := r) hr11
            rcases e3 with e3 | e3
            · rcases (h5 r' hr').2 with e4 | e4 <;> omega
            · exact e2 e3
  · by_cases e1 : r1 = r
    · by_cases e2 : r2 = r
      · exact absurd (e1.trans e2.symm) hne
      · simp only [cr_a, if_neg e2, if_pos e1]
        rcases harr with e | e
        · rw [e, ← e1]; exact h6 r1 r2 hr1 hr2 hne
        · rw [e]
          refine Or.inr (fun e3 => ?_)
          have hb : ev_b G + 125 ≤ ev_z w := h1
          rcases harz r2 hr2 with e4 | e4 <;> omega
    · by_cases e2 : r2 = r
      · simp only [cr_a, if_neg e1, if_pos e2]
        rcases harr with e | e
        · rw [e, ← e2]; exact h6 r1 r2 hr1 hr2 hne
        · rw [e]
          have hb : ev_b G + 125 ≤ ev_z w := h1
          rcases harz r1 hr1 with e4 | e4
          · exact Or.inl e4
          · exact Or.inr (by omega)
      · simp only [cr_a, if_neg e1, if_neg e2]
        exact h6 r1 r2 hr1 hr2 hne
  · obtain ⟨k1, k2⟩ := h7 s hs
    refine ⟨by rw [hv (κ := 3) (i := s) hs (by decide)]; exact k1, fun x hx => ?_⟩
    obtain ⟨y1, y2⟩ := k2 x hx
    exact ⟨⟨y1.1, Nat.lt_of_lt_of_le y1.2 hf.1⟩, (hf.2.2 x y1.2).1.trans y2⟩
/-- new cells change nothing -/
theorem cr_R.fr0 (h : cr_R G q0 w I X Ar Cp U) (hq : q0 < ev_b G) {w' : ev_wd} (hf : ev_fr w w' (fun _ => False)) : cr_R G q0 w' I X Ar Cp U := by
  have hal := fun {κ i : Nat} (hi : i < cr_c κ) => h.al hi
  obtain ⟨h1, h2, h3, h4, h5, h6, h7⟩ := h
  have hv : ∀ {κ i : Nat}, i < cr_c κ → ev_v w' (ev_b G + cr_o κ i) = ev_v w (ev_b G + cr_o κ i) := fun hi => (hf.2.2 _ (hal hi).2).2.2 (fun e => e)
  refine ⟨Nat.le_trans h1 hf.1, fun κ i hi => ?_, fun κ i k hi hk => by rw [hv hi]; exact h3 κ i k hi hk, fun κ i k q hi hp => by rw [hv hi]; exact h4 κ i k q hi hp, fun r hr => ⟨(h5 r hr).1.keep hf (fun e => e) (Or.inr fun e => e) hq, (h5 r hr).2⟩, h6, fun s hs => ?_⟩
  · rw [(hf.2.2 _ (hal hi).2).1, (hf.2.2 _ (hal hi).2).2.1]
    exact h2 κ i hi
  · obtain ⟨k1, k2⟩ := h7 s hs
    refine ⟨by rw [hv (κ := 3) (i := s) hs]; exact k1, fun x hx => ?_⟩
    obtain ⟨y1, y2⟩ := k2 x hx
    exact ⟨⟨y1.1, Nat.lt_of_lt_of_le y1.2 hf.1⟩, (hf.2.2 x y1.2).1.trans y2⟩
theorem k_size (h : cr_R G q0 w I X Ar Cp U) {r : Nat} (hr : r < 22) : ev_E G mm_AL_size d 0 (lv_args 0 [.ref (ev_b G + cr_o 11 r)]) [] w (ev_ret (some (.int (Int32.ofNat (X r).length))) w) := by
  obtain ⟨⟨mc, hal⟩, -⟩ := (h.2.2.2.2.1 r hr).1
  exact c_AL_size hal
theorem k_isEmpty (h : cr_R G q0 w I X Ar Cp U) {r : Nat} (hr : r < 22) : ev_E G mm_AL_isEmpty d 0 (lv_args 0 [.ref (ev_b G + cr_o 11 r)]) [] w (ev_ret (some (.int (if X r = [] then 1 else 0))) w) := by
  obtain ⟨⟨mc, hal⟩, hle, hc, -⟩ := (h.2.2.2.2.1 r hr).1
  have e : (if Int32.ofNat (X r).length = 0 then (1 : Int32) else 0) = if X r = [] then 1 else 0 := by
    by_cases hx : X r = []
    · rw [if_pos hx, hx]; rfl
    · rw [if_neg hx, if_neg (show ¬ Int32.ofNat (X r).length = 0 from nI_ne0 (List.length_pos_iff.mpr hx) (by omega))]
  rw [← e]
  exact c_AL_isEmpty hal
theorem k_get (h : cr_R G q0 w I X Ar Cp U) {r j x : Nat} (hr : r < 22) (hx : (X r)[j]? = some x) : ev_E G mm_AL_get (d + 2) 0 (lv_args 0 [.ref (ev_b G + cr_o 11 r), .int (Int32.ofNat j)]) [] w (ev_ret (some (.ref x)) w) := by
  obtain ⟨⟨mc, hal⟩, hle, hc, hxs, hcase⟩ := (h.2.2.2.2.1 r hr).1
  have hj : j < (X r).length := (List.getElem?_eq_some_iff.mp hx).1
  rcases hcase with ⟨-, e⟩ | ⟨hr1, hg, hn, h10, hel⟩
  · omega
  · exact c_AL_get hal (ev_on j (by omega)) (nI_lt hj (by omega)) hr1 hg (by rw [hn]; exact nI_in (by omega) (by omega)) (by rw [ev_cl j (by omega)]; exact hel j x hx)
/-- how the cells and slots made go up with an add -/
def cr_g (Cp Cp' : Nat → Nat) (r : Nat) (w w' : ev_wd) : Prop := (Cp' = Cp ∧ ev_z w' = ev_z w ∧ ev_u w' = ev_u w) ∨ (Cp' = cr_a Cp r (ev_nx (Cp r)) ∧ ev_z w' = ev_z w + 1 ∧ ev_u w' = ev_u w + ev_nx (Cp r))
theorem cr_same (A : Nat → Nat) (r : Nat) : cr_a A r (A r) = A := by
  funext q
  by_cases e : q = r <;> simp [cr_a, e]
theorem k_add (J : ev_J G q0 mi) (h : cr_R G q0 w I X Ar Cp U) {r x : Nat} (hr : r < 22) (hcap : Cp r ≤ 60000) (hx : (ev_b G ≤ x ∧ x < ev_z w) ∧ ev_g w x = 6) (hz : ev_z w + 1 ≤ ev_b G + 601024) (hu : ev_u w + ev_nx (Cp r) ≤ 7293034) :
    ev_E G mm_AL_add1 (d + 6) 0 (lv_args 0 [.ref (ev_b G + cr_o 11 r), .ref x]) [] w (fun t w' => t = .inl (some (.int 1)) ∧ ∃ Ar' Cp', cr_R G q0 w' I (cr_l X r (X r ++ [x])) Ar' Cp' U ∧ cr_g Cp Cp' r w w' ∧ (Cp' r ≤ Cp r ∨ (X r).length = Cp r)) := by
  refine ev_mono (fun t w' ht => ?_) (c_AL_add1 J (h.2.2.2.2.1 r hr).1 hcap hx hz hu)
  obtain ⟨h1, h2, h3⟩ := ht
  refine ⟨h1, ?_⟩
  rcases h3 with ⟨z1, u1, -, li⟩ | ⟨z1, u1, e1, li⟩
  · have k := h.list J.lt hr h2 li (Or.inl rfl)
    rw [cr_same, cr_same] at k
    exact ⟨_, _, k, Or.inl ⟨rfl, z1, u1⟩, Or.inl (Nat.le_refl _)⟩
  · exact ⟨_, _, h.list J.lt hr h2 li (Or.inr rfl), Or.inr ⟨rfl, z1, u1⟩, Or.inr e1⟩
theorem k_remove (hq : q0 < ev_b G) (h : cr_R G q0 w I X Ar Cp U) {r j x : Nat} (hr : r < 22) (hx : (X r)[j]? = some x) :
    ev_E G mm_AL_remove (d + 2) 0 (lv_args 0 [.ref (ev_b G + cr_o 11 r), .int (Int32.ofNat j)]) [] w (fun t w' => t = .inl (some (.ref x)) ∧ cr_R G q0 w' I (cr_l X r ((X r).eraseIdx j)) Ar Cp U ∧ ev_z w' = ev_z w ∧ ev_u w' = ev_u w) := by
  refine ev_mono (fun t w' ht => ?_) (c_AL_remove (h.2.2.2.2.1 r hr).1 hx)
  obtain ⟨h1, h2, z1, u1, li⟩ := ht
  have k := h.list hq hr h2 li (Or.inl rfl)
  rw [cr_same, cr_same] at k
  exact ⟨h1, k, z1, u1⟩
theorem k_clear (hq : q0 < ev_b G) (h : cr_R G q0 w I X Ar Cp U) {r : Nat} (hr : r < 22) :
    ev_E G mm_AL_clear d 0 (lv_args 0 [.ref (ev_b G + cr_o 11 r)]) [] w (fun t w' => t = .inl none ∧ cr_R G q0 w' I (cr_l X r []) Ar Cp U ∧ ev_z w' = ev_z w ∧ ev_u w' = ev_u w) := by
  refine ev_mono (fun t w' ht => ?_) (c_AL_clear (h.2.2.2.2.1 r hr).1 hq)
  obtain ⟨h1, h2, z1, u1, li⟩ := ht
  have k := h.list hq hr h2 li (Or.inl rfl)
  rw [cr_same, cr_same] at k
  exact ⟨h1, k, z1, u1⟩
/-- numbers in an array; a cell in an array of cells -/
theorem cr_iald {κ i j : Nat} (hd : ev_d M.2.1 pc .iaload 1 pc') (h : cr_R G q0 w I X Ar Cp U) (hi : i < cr_c κ) (ht : cr_t κ = 100) (hj : j < cr_n κ) (hk : cr_i κ j = true) (hn : cr_n κ < 1000) (kk : ev_E G M d pc' L (.int (I κ i j) :: st) w P) : ev_E G M d pc L (.int (Int32.ofNat j) :: .ref (ev_b G + cr_o κ i) :: st) w P := by
  obtain ⟨h2, h3⟩ := h.2.1 κ i hi
  refine ev_iald (t := 0) hd (h.al hi) (h2.trans ht) rfl (by rw [h3 (by omega)]; exact nI_in hj (by omega)) (v := .int (I κ i j)) ?_ kk
  rw [ev_cl j (by omega)]
  exact h.2.2.1 κ i j hi hk
theorem cr_iast {κ i j : Nat} {x : Int32} (hd : ev_d M.2.1 pc .iastore 1 pc') (h : cr_R G q0 w I X Ar Cp U) (hq : q0 < ev_b G) (hi : i < cr_c κ) (ht : cr_t κ = 100) (hj : j < cr_n κ) (hk : cr_i κ j = true) (hn : cr_n κ < 1000)
    (kk : ∀ w1, cr_R G q0 w1 (cr_u I κ i j x) X Ar Cp U → ev_z w1 = ev_z w → ev_u w1 = ev_u w → ev_E G M d pc' L st w1 P) : ev_E G M d pc L (.int x :: .int (Int32.ofNat j) :: .ref (ev_b G + cr_o κ i) :: st) w P := by
  obtain ⟨h2, h3⟩ := h.2.1 κ i hi
  refine ev_iast (t := 0) hd (h.al hi) (h2.trans ht) rfl (by rw [h3 (by omega)]; exact nI_in hj (by omega)) ?_
  rw [ev_cl j (by omega)]
  exact kk _ (h.setI hq hi hk x) rfl rfl
theorem cr_aald {κ i j t q : Nat} {C : String} (hd : ev_d M.2.1 pc .aaload 1 pc') (h : cr_R G q0 w I X Ar Cp U) (hi : i < cr_c κ) (ht : cr_t κ = 100 + t) (hty : nm_at[t]? = some (.object C)) (hj : j < cr_n κ) (hn : cr_n κ < 1000) (hp : cr_p κ i j = some q) (kk : ev_E G M d pc' L (.ref (ev_b G + q) :: st) w P) : ev_E G M d pc L (.int (Int32.ofNat j) :: .ref (ev_b G + cr_o κ i) :: st) w P := by
  obtain ⟨h2, h3⟩ := h.2.1 κ i hi
  refine ev_aald (t := t) hd (h.al hi) (h2.trans ht) hty (by rw [h3 (by omega)]; exact nI_in hj (by omega)) (v := .ref (ev_b G + q)) ?_ kk
  rw [ev_cl j (by omega)]
  exact h.2.2.2.1 κ i j q hi hp
end CrL
