/-! the invariant: a changeover goes on and comes to its end -/
/-- a link that serves -/
def sl (C : cr_C) (e : Nat) (x : Int32) : Prop := ∃ q, q < 3 ∧ x = Int32.ofNat q ∧ C.1 1 (2 * q + e) 0 = 4
/-- some link is open -/
def op (C : cr_C) (e : Nat) : Prop := ∃ q, q < 3 ∧ C.1 1 (2 * q + e) 0 = 4 ∧ C.1 2 (2 * q + e) 0 = 0
theorem op.of {C C' : cr_C} {e : Nat} (h : op C e) (c : ∀ κ i j, ¬ (κ = 7 ∧ i = e) → C'.1 κ i j = C.1 κ i j) : op C' e := by
  obtain ⟨q, hq, a, b⟩ := h
  exact ⟨q, hq, (c 1 _ _ (by omega)).trans a, (c 2 _ _ (by omega)).trans b⟩
theorem open_st {C : cr_C} {e q : Nat} (h : (cs_E_isOpen C e q).1 ≠ 0) : C.1 1 (2 * q + e) 0 = 4 ∧ C.1 2 (2 * q + e) 0 = 0 := by
  unfold cs_E_isOpen at h
  by_cases c : C.1 1 (2 * q + e) 0 = 4
  · rw [if_pos c] at h
    by_cases c2 : C.1 2 (2 * q + e) 0 = 0
    · exact ⟨c, c2⟩
    · rw [if_neg c2] at h
      exact absurd rfl h
  · rw [if_neg c] at h
    exact absurd rfl h
theorem st_open {C : cr_C} {e q : Nat} (c : C.1 1 (2 * q + e) 0 = 4) (c2 : C.1 2 (2 * q + e) 0 = 0) : (cs_E_isOpen C e q).1 ≠ 0 := by
  unfold cs_E_isOpen
  rw [if_pos c, if_pos c2]
  show (1 : Int32) ≠ 0
  decide
theorem ch_or {P : Int32 → Prop} {x y z a b c : Int32} (ha : ¬ x = 0 → P a) (hb : ¬ y = 0 → P b) (hc : ¬ z = 0 → P c) : ((if x = 0 then (if y = 0 then (if z = 0 then (-1 : Int32) else c) else b) else a) = -1 ∧ x = 0 ∧ y = 0 ∧ z = 0) ∨ P (if x = 0 then (if y = 0 then (if z = 0 then (-1 : Int32) else c) else b) else a) := by
  by_cases cx : x = 0
  · by_cases cy : y = 0
    · by_cases cz' : z = 0
      · left
        rw [if_pos cx, if_pos cy, if_pos cz']
        exact ⟨rfl, cx, cy, cz'⟩
      · right
        rw [if_pos cx, if_pos cy, if_neg cz']
        exact hc cz'
    · right
      rw [if_pos cx, if_neg cy]
      exact hb cy
  · right
    rw [if_neg cx]
    exact ha cx
theorem choose_or (C : cr_C) (e k : Nat) : ((cs_E_choose C e k).1 = -1 ∧ (cs_E_isOpen C e 0).1 = 0 ∧ (cs_E_isOpen C e 1).1 = 0 ∧ (cs_E_isOpen C e 2).1 = 0) ∨ sl C e (cs_E_choose C e k).1 := by
  have s0 : ¬ (cs_E_isOpen C e 0).1 = 0 → sl C e 0 := fun x => ⟨0, by omega, rfl, (open_st x).1⟩
  have s1 : ¬ (cs_E_isOpen C e 1).1 = 0 → sl C e 1 := fun x => ⟨1, by omega, rfl, (open_st x).1⟩
  have s2 : ¬ (cs_E_isOpen C e 2).1 = 0 → sl C e 2 := fun x => ⟨2, by omega, rfl, (open_st x).1⟩
  have g0 : (cs_E_choose0 C e).1 = if (cs_E_isOpen C e 0).1 = 0 then (if (cs_E_isOpen C e 1).1 = 0 then (if (cs_E_isOpen C e 2).1 = 0 then -1 else 2) else 1) else 0 := by
    unfold cs_E_choose0
    simp only [cs_isOpen2]
    repeat' split
    all_goals rfl
  have g1 : (cs_E_choose1 C e).1 = if (cs_E_isOpen C e 1).1 = 0 then (if (cs_E_isOpen C e 2).1 = 0 then (if (cs_E_isOpen C e 0).1 = 0 then -1 else 0) else 2) else 1 := by
    unfold cs_E_choose1
    simp only [cs_isOpen2]
    repeat' split
    all_goals rfl
  have g2 : (cs_E_choose2 C e).1 = if (cs_E_isOpen C e 2).1 = 0 then (if (cs_E_isOpen C e 0).1 = 0 then (if (cs_E_isOpen C e 1).1 = 0 then -1 else 1) else 0) else 2 := by
    unfold cs_E_choose2
    simp only [cs_isOpen2]
    repeat' split
    all_goals rfl
  have g3 : (cs_E_choose3 C e).1 = if (cs_E_isOpen C e 0).1 = 0 then (if (cs_E_isOpen C e 1).1 = 0 then (if (cs_E_isOpen C e 2).1 = 0 then -1 else 2) else 1) else 0 := by
    unfold cs_E_choose3
    simp only [cs_isOpen2]
    repeat' split
    all_goals rfl
  match k with
  | 0 =>
    rw [show (cs_E_choose C e 0).1 = (cs_E_choose0 C e).1 from rfl, g0]
    exact ch_or (P := sl C e) s0 s1 s2
  | 1 =>
    rw [show (cs_E_choose C e 1).1 = (cs_E_choose1 C e).1 from rfl, g1]
    rcases ch_or (P := sl C e) s1 s2 s0 with ⟨a, b, c, d⟩ | x
    · exact Or.inl ⟨a, d, b, c⟩
    · exact Or.inr x
  | 2 =>
    rw [show (cs_E_choose C e 2).1 = (cs_E_choose2 C e).1 from rfl, g2]
    rcases ch_or (P := sl C e) s2 s0 s1 with ⟨a, b, c, d⟩ | x
    · exact Or.inl ⟨a, c, d, b⟩
    · exact Or.inr x
  | (n + 3) =>
    rw [show (cs_E_choose C e (n + 3)).1 = (cs_E_choose3 C e).1 from rfl, g3]
    exact ch_or (P := sl C e) s0 s1 s2
theorem choose_sl {C : cr_C} {e : Nat} (ho : op C e) (k : Nat) : sl C e (cs_E_choose C e k).1 := by
  rcases choose_or C e k with ⟨-, x0, x1, x2⟩ | x
  · obtain ⟨q, hq, c, c2⟩ := ho
    have := st_open c c2
    rcases (show q = 0 ∨ q = 1 ∨ q = 2 by omega) with rfl | rfl | rfl
    · exact absurd x0 this
    · exact absurd x1 this
    · exact absurd x2 this
  · exact x
theorem move_of {C : cr_C} {e : Nat} (ho : op C e) (k : Nat) : ∃ x, cs_E_moveClass C e k = cr_sI C 7 e k x ∧ sl C e x := by
  have h := choose_sl ho k
  refine ⟨(cs_E_choose C e k).1, ?_, h⟩
  have hne : ¬ (cs_E_choose C e k).1 = -1 := by
    obtain ⟨q, hq, ex, -⟩ := h
    rw [ex]
    rcases (show q = 0 ∨ q = 1 ∨ q = 2 by omega) with rfl | rfl | rfl <;> decide
  unfold cs_E_moveClass
  rw [if_neg hne]
theorem beside_op {C : cr_C} {e l : Nat} (hl : l < 3) (h : ¬ (cs_E_someOpenBeside C e (Int32.ofNat l)).1 = 0) : op (cr_sI C 2 (2 * l + e) 0 0) e := by
  refine Classical.byContradiction (fun hn => h ?_)
  have n1 : ∀ q, (cr_sI C 2 (2 * l + e) 0 0).1 1 (2 * q + e) 0 = C.1 1 (2 * q + e) 0 := fun q => cr_sI_ne _ _ (by omega)
  have st : ¬ C.1 1 (2 * l + e) 0 = 4 := fun c => hn ⟨l, hl, (n1 l).trans c, cr_sI_at _ _ _ _ _⟩
  have o : ∀ q, q < 3 → (cs_E_isOpen C e q).1 = 0 := fun q hq => Decidable.byContradiction (fun x => by
    obtain ⟨a, b⟩ := open_st x
    by_cases eq : q = l
    · rw [eq] at a
      exact st a
    · exact hn ⟨q, hq, (n1 q).trans a, by rw [cr_sI_ne _ _ (by omega)]; exact b⟩)
  have o0 := o 0 (by omega)
  have o1 := o 1 (by omega)
  have o2 := o 2 (by omega)
  unfold cs_E_someOpenBeside
  simp only [cs_isOpen2]
  rcases (show l = 0 ∨ l = 1 ∨ l = 2 by omega) with rfl | rfl | rfl
  · rw [if_pos (show (0 : Int32) = Int32.ofNat 0 by decide), if_neg (show ¬ (1 : Int32) = Int32.ofNat 0 by decide), if_neg (show ¬ (2 : Int32) = Int32.ofNat 0 by decide)]
    simp only [o0, o1, o2, st, if_true, if_false]
  · rw [if_neg (show ¬ (0 : Int32) = Int32.ofNat 1 by decide), if_pos (show (1 : Int32) = Int32.ofNat 1 by decide), if_neg (show ¬ (2 : Int32) = Int32.ofNat 1 by decide)]
    simp only [o0, o1, o2, st, if_true, if_false]
  · rw [if_neg (show ¬ (0 : Int32) = Int32.ofNat 2 by decide), if_neg (show ¬ (1 : Int32) = Int32.ofNat 2 by decide), if_pos (show (2 : Int32) = Int32.ofNat 2 by decide)]
    simp only [o0, o1, o2, st, if_true, if_false]
theorem cs_say_num (C : cr_C) (e : Nat) (μ : cr_m) : (cs_E_say C e μ).1 = C.1 := by
  unfold cs_E_say
  repeat' split
  all_goals rfl
theorem IW_passOn {N k : Nat} {C : cr_C} (h : IW N C) {e : Nat} (he : e < 2) (ho : op C e) {μ : cr_m} (hm : cv_m μ) (hw : mw N μ) : IW N (cs_E_passOn C e μ) ∧ Po k (cs_E_passOn C e μ) ≤ Po k C + 3 * (if μ.1 = 5 then 1 else 2) ∧ (∀ κ i j, ¬ (κ = 7 ∧ i = e) → (cs_E_passOn C e μ).1 κ i j = C.1 κ i j) ∧ ∀ j, (cs_E_passOn C e μ).1 7 e j = C.1 7 e j ∨ sl C e ((cs_E_passOn C e μ).1 7 e j) := by
  unfold cs_E_passOn
  by_cases c : (4 : Int32) ≤ μ.1
  · rw [if_pos c]
    have e1 := cs_say_num C e μ
    exact ⟨⟨iz_say h.1 he hw hm, IW.core h.2 (fun _ ht => say_cq C μ ht)⟩, Po_say C he μ, fun κ i j _ => by rw [e1], fun j => Or.inl (by rw [e1])⟩
  · rw [if_neg c]
    have hk := (hm.mo c).2
    obtain ⟨x, ex, q, hq, rfl, hs4⟩ := move_of ho (cr_kd μ)
    unfold cs_E_pass
    rw [ex]
    have elk : cr_lk (cr_sI C 7 e (cr_kd μ) (Int32.ofNat q)) e (cr_kd μ) = q := by
      unfold cr_lk
      rw [cr_sI_at]
      exact ev_cl _ (by omega)
    rw [elk]
    have hv1 : cv (cr_sI C 7 e (cr_kd μ) (Int32.ofNat q)) := ((cw_7 (cw_refl C) hq : cw C (cr_sI C 7 e (cr_kd μ) (Int32.ofNat q)) 0) h.1.1).1
    have z1 : iz N (cr_sI C 7 e (cr_kd μ) (Int32.ofNat q)) := iz_num h.1 (Or.inr (Or.inl (by omega))) hv1 (fun x => absurd x (by omega))
    have w1 := Po_num k C (κ := 7) (i := e) (j := cr_kd μ) (x := Int32.ofNat q) (Or.inr (Or.inl (by omega)))
    have q11 := IW.core h.2 (fun t (_ : t < 6) => flt_cq C (κ := 7) (i := e) (j := cr_kd μ) (x := Int32.ofNat q) (Or.inr (Or.inr (by omega))) t)
    have n1 : ∀ κ i j, ¬ (κ = 7 ∧ i = e) → (cr_sI C 7 e (cr_kd μ) (Int32.ofNat q)).1 κ i j = C.1 κ i j := fun κ i j hne => cr_sI_ne _ _ (by omega)
    have n7 : ∀ j, (cr_sI C 7 e (cr_kd μ) (Int32.ofNat q)).1 7 e j = C.1 7 e j ∨ sl C e ((cr_sI C 7 e (cr_kd μ) (Int32.ofNat q)).1 7 e j) := fun j => by
      by_cases ej : j = cr_kd μ
      · rw [ej, cr_sI_at]
        exact Or.inr ⟨q, hq, rfl, hs4⟩
      · exact Or.inl (cr_sI_ne _ _ (by omega))
    have s4 : (cr_sI C 7 e (cr_kd μ) (Int32.ofNat q)).1 1 (2 * q + e) 0 = 4 := (n1 _ _ _ (by omega)).trans hs4
    generalize cr_sI C 7 e (cr_kd μ) (Int32.ofNat q) = C1 at *
    have hc : cv (cs_put C1 (6 + (2 * q + e)) μ) := (cw_put (cw_refl C1) (r := 6 + (2 * q + e)) (by omega) (by omega) (fun _ => ⟨hm, fun x _ => by omega⟩) hv1).1
    have hp := Po_put (k := k) C1 μ (show 6 ≤ 6 + (2 * q + e) by omega) (by omega)
    refine ⟨⟨iz_put z1 (by omega) (by omega) (fun _ => ?_) hw hc, IW.core q11 (fun _ ht => put_cq C1 μ (by omega) ht)⟩, ?_, n1, n7⟩
    · rw [show 6 + (2 * q + e) - 6 = 2 * q + e by omega]
      exact s4
    · rw [w1] at hp
      by_cases c5 : μ.1 = 5
      · rw [if_pos (Or.inr c5)] at hp
        rw [if_pos c5]
        exact hp
      · rw [if_neg (by rintro (x | x); omega; exact c5 x)] at hp
        rw [if_neg c5]
        exact hp
theorem IW_pas {N k e : Nat} (he : e < 2) : ∀ (zs : List cr_m) (C : cr_C), IW N C → op C e → (∀ μ ∈ zs, cv_m μ ∧ mw N μ) → IW N (cs_E_pas e zs C) ∧ Po k (cs_E_pas e zs C) ≤ Po k C + 3 * (zs.length + wn zs) ∧ (∀ κ i j, ¬ (κ = 7 ∧ i = e) → (cs_E_pas e zs C).1 κ i j = C.1 κ i j) ∧ ∀ j, (cs_E_pas e zs C).1 7 e j = C.1 7 e j ∨ sl C e ((cs_E_pas e zs C).1 7 e j) := by
  intro zs
  induction zs with
  | nil => intro C h _ _; exact ⟨h, Nat.le_add_right _ _, fun _ _ _ _ => rfl, fun _ => Or.inl rfl⟩
  | cons μ zs ih =>
    intro C h ho hz
    obtain ⟨a, b, c, d⟩ := IW_passOn (k := k) h he ho (hz μ List.mem_cons_self).1 (hz μ List.mem_cons_self).2
    obtain ⟨a2, b2, c2, d2⟩ := ih (cs_E_passOn C e μ) a (ho.of c) (fun ν hν => hz ν (List.mem_cons_of_mem _ hν))
    have ed : cs_E_pas e (μ :: zs) C = cs_E_pas e zs (cs_E_passOn C e μ) := rfl
    rw [ed]
    have ew : wn (μ :: zs) + 1 = (if μ.1 = 5 then 1 else 2) + wn zs := by
      by_cases c5 : μ.1 = 5 <;> simp only [wn, c5, if_true, if_false] <;> omega
    generalize cs_E_pas e zs (cs_E_passOn C e μ) = C2 at *
    generalize cs_E_passOn C e μ = C1 at *
    refine ⟨a2, ?_, fun κ i j hne => (c2 κ i j hne).trans (c κ i j hne), fun j => ?_⟩
    · rw [List.length_cons]
      generalize (if μ.1 = 5 then 1 else 2) = B at *
      omega
    · rcases d2 j with x | ⟨q, hq, ex, s4⟩
      · rw [x]
        exact d j
      · exact Or.inr ⟨q, hq, ex, by rw [← c 1 (2 * q + e) 0 (by omega)]; exact s4⟩
theorem IW_mv {N m : Nat} {C : cr_C} (h : IW N C) {e : Nat} (ho : op C e) (l k : Nat) : IW N (cs_E_mv C e l k) ∧ Po m (cs_E_mv C e l k) = Po m C ∧ (∀ κ i j, ¬ (κ = 7 ∧ i = e) → (cs_E_mv C e l k).1 κ i j = C.1 κ i j) ∧ (∀ j, (cs_E_mv C e l k).1 7 e j = C.1 7 e j ∨ sl C e ((cs_E_mv C e l k).1 7 e j)) ∧ (C.1 7 e k = Int32.ofNat l → sl C e ((cs_E_mv C e l k).1 7 e k)) := by
  unfold cs_E_mv
  by_cases c : C.1 7 e k = Int32.ofNat l
  · rw [if_pos c]
    obtain ⟨x, ex, q, hq, rfl, hs4⟩ := move_of ho k
    rw [ex]
    have hv1 : cv (cr_sI C 7 e k (Int32.ofNat q)) := ((cw_7 (cw_refl C) hq : cw C (cr_sI C 7 e k (Int32.ofNat q)) 0) h.1.1).1
    refine ⟨⟨iz_num h.1 (Or.inr (Or.inl (by omega))) hv1 (fun x => absurd x (by omega)), IW.core h.2 (fun t (_ : t < 6) => flt_cq C (Or.inr (Or.inr (by omega))) t)⟩, Po_num m C (Or.inr (Or.inl (by omega))), fun κ i j hne => cr_sI_ne _ _ (by omega), fun j => ?_, fun _ => ?_⟩
    · by_cases ej : j = k
      · rw [ej, cr_sI_at]
        exact Or.inr ⟨q, hq, rfl, hs4⟩
      · exact Or.inl (cr_sI_ne _ _ (by omega))
    · rw [cr_sI_at]
      exact ⟨q, hq, rfl, hs4⟩
  · rw [if_neg c]
    exact ⟨h, rfl, fun _ _ _ _ => rfl, fun _ => Or.inl rfl, fun x => absurd x c⟩
theorem IW_mvs {N m : Nat} {C : cr_C} (h : IW N C) {e : Nat} (ho : op C e) (l : Nat) : IW N (cs_E_mvs C e l) ∧ Po m (cs_E_mvs C e l) = Po m C ∧ (∀ κ i j, ¬ (κ = 7 ∧ i = e) → (cs_E_mvs C e l).1 κ i j = C.1 κ i j) ∧ ∀ k, k < 4 → C.1 7 e k = Int32.ofNat l ∨ sl C e (C.1 7 e k) → sl C e ((cs_E_mvs C e l).1 7 e k) := by
  have step : ∀ (D : cr_C) (k : Nat), IW N D → (∀ κ i j, ¬ (κ = 7 ∧ i = e) → D.1 κ i j = C.1 κ i j) → IW N (cs_E_mv D e l k) ∧ Po m (cs_E_mv D e l k) = Po m D ∧ (∀ κ i j, ¬ (κ = 7 ∧ i = e) → (cs_E_mv D e l k).1 κ i j = C.1 κ i j) ∧ (∀ j, sl C e (D.1 7 e j) → sl C e ((cs_E_mv D e l k).1 7 e j)) ∧ (∀ j, D.1 7 e j = Int32.ofNat l ∨ sl C e (D.1 7 e j) → (cs_E_mv D e l k).1 7 e j = Int32.ofNat l ∨ sl C e ((cs_E_mv D e l k).1 7 e j)) ∧ (D.1 7 e k = Int32.ofNat l ∨ sl C e (D.1 7 e k) → sl C e ((cs_E_mv D e l k).1 7 e k)) := by
    intro D k hD hn
    have sDC : ∀ x, sl D e x → sl C e x := fun x ⟨q, hq, ex, s4⟩ => ⟨q, hq, ex, by rw [← hn 1 (2 * q + e) 0 (by omega)]; exact s4⟩
    obtain ⟨a, b, c, d, f⟩ := IW_mv (m := m) hD (ho.of hn) l k
    generalize cs_E_mv D e l k = D1 at *
    have ss : ∀ j, sl C e (D.1 7 e j) → sl C e (D1.1 7 e j) := fun j s => by
      rcases d j with x | x
      · rw [x]; exact s
      · exact sDC _ x
    refine ⟨a, b, fun κ i j hne => (c κ i j hne).trans (hn κ i j hne), ss, fun j s => ?_, fun s => ?_⟩
    · rcases d j with x | x
      · rw [x]; exact s
      · exact Or.inr (sDC _ x)
    · rcases s with s | s
      · exact sDC _ (f s)
      · exact ss k s
  unfold cs_E_mvs
  obtain ⟨a0, b0, c0, d0, f0, g0⟩ := step C 0 h (fun _ _ _ _ => rfl)
  generalize cs_E_mv C e l 0 = C1 at *
  obtain ⟨a1, b1, c1, d1, f1, g1⟩ := step C1 1 a0 c0
  generalize cs_E_mv C1 e l 1 = C2 at *
  obtain ⟨a2, b2, c2, d2, f2, g2⟩ := step C2 2 a1 c1
  generalize cs_E_mv C2 e l 2 = C3 at *
  obtain ⟨a3, b3, c3, d3, f3, g3⟩ := step C3 3 a2 c2
  generalize cs_E_mv C3 e l 3 = C4 at *
  refine ⟨a3, b3.trans (b2.trans (b1.trans b0)), c3, fun k hk p => ?_⟩
  rcases (show k = 0 ∨ k = 1 ∨ k = 2 ∨ k = 3 by omega) with rfl | rfl | rfl | rfl
  · exact d3 _ (d2 _ (d1 _ (g0 p)))
  · exact d3 _ (d2 _ (g1 (f0 _ p)))
  · exact d3 _ (g2 (f1 _ (f0 _ p)))
  · exact g3 (f2 _ (f1 _ (f0 _ p)))
theorem iz_sub {N : Nat} {C : cr_C} (h : iz N C) {r : Nat} (hr : 18 ≤ r) (hr2 : r < 22) {zs : List cr_m} (hz : ∀ μ ∈ zs, μ ∈ C.2.1 r) (hl : zs.length ≤ (C.2.1 r).length) : iz N (cr_sX C r zs) := by
  have xr : ∀ q, q ≠ r → (cr_sX C r zs).2.1 q = C.2.1 q := fun q hq => cr_sX_ne _ _ hq
  refine ⟨(cw_sub (cw_refl C) hr2 hz hl h.1).1, fun t ht => ?_, fun q hq ν hν => ?_, h.2.2.2.1, fun e he => ?_⟩
  · obtain ⟨hA, hB, hD, hE⟩ := h.2.1 t ht
    exact ⟨hA, hB, hD.of (fun _ _ _ => rfl) (fun _ => rfl) (xr _ (by omega)), hE.of rfl (xr _ (by omega)) (fun _ => xr _ (by omega)) rfl⟩
  · by_cases e : q = r
    · rw [e, cr_sX_at] at hν
      exact h.2.2.1 r hr2 ν (hz ν hν)
    · rw [xr _ e] at hν
      exact h.2.2.1 q hq ν hν
  · by_cases c : 18 + e = r
    · have := h.2.2.2.2 e he
      rw [c] at this ⊢
      rw [cr_sX_at]
      omega
    · rw [xr _ c]
      exact h.2.2.2.2 e he
theorem row_cq (C : cr_C) {r : Nat} (zs : List cr_m) (hr : 6 ≤ r) {t : Nat} (ht : t < 6) : cq C (cr_sX C r zs) t := ⟨rfl, rfl, rfl, fun _ => rfl, rfl, cr_sX_ne _ _ (by omega)⟩
theorem Po_row (k : Nat) (C : cr_C) {r : Nat} (zs : List cr_m) (hr : 6 ≤ r) (hr2 : r < 22) : Po k (cr_sX C r zs) + 3 * wr r (C.2.1 r) = Po k C + 3 * wr r zs := by
  have h1 := wA_sX C zs hr2
  have h3 : ∀ t, t < 6 → bs (cr_sX C r zs) k t = bs C k t := fun t ht => by
    have := bs_core (k := k) (fun t ht => row_cq C zs hr ht) (fun _ _ => rfl) ht
    have : cg (cr_sX C r zs) t = cg C t := rfl
    omega
  have h2 : cr_su (bs (cr_sX C r zs) k) 6 = cr_su (bs C k) 6 := Nat.le_antisymm (su_le (fun t ht => Nat.le_of_eq (h3 t ht))) (su_le (fun t ht => Nat.le_of_eq (h3 t ht).symm))
  unfold Po
  omega
theorem IW_lgh {N m e l : Nat} (he : e < 2) : ∀ (zs pre : List cr_m) (C : cr_C), C.2.1 (18 + e) = pre ++ zs → IW N C → (∀ k, k < 4 → C.1 8 e k = Int32.ofNat l → sl C e (C.1 7 e k)) → IW N (cs_E_lgh e l zs pre C) ∧ Po m (cs_E_lgh e l zs pre C) ≤ Po m C := by
  intro zs
  induction zs with
  | nil => intro pre C _ h _; exact ⟨h, Nat.le_refl _⟩
  | cons μ zs ih =>
    intro pre C hX h hs
    have hin : μ ∈ C.2.1 (18 + e) := by rw [hX]; exact List.mem_append_right _ List.mem_cons_self
    have hmc := h.1.1.1.2.1 (18 + e) (by omega) (by omega) μ hin
    have hw := h.1.2.2.1 (18 + e) (by omega) μ hin
    have ed : cs_E_lgh e l (μ :: zs) pre C = if C.1 8 e (cr_kd μ) = Int32.ofNat l then cs_E_lgh e l zs pre (cs_put (cr_sX C (18 + e) (pre ++ zs)) (6 + (2 * cr_lk C e (cr_kd μ) + e)) μ) else cs_E_lgh e l zs (pre ++ [μ]) C := rfl
    rw [ed]
    by_cases c : C.1 8 e (cr_kd μ) = Int32.ofNat l
    · obtain ⟨q, hq, ex, s4⟩ := hs _ hmc.2 c
      have elk : cr_lk C e (cr_kd μ) = q := by
        unfold cr_lk
        rw [ex]
        exact ev_cl _ (by omega)
      rw [if_pos c, elk]
      have z1 : iz N (cr_sX C (18 + e) (pre ++ zs)) := iz_sub h.1 (by omega) (by omega) (fun ν hν => by
        rw [hX]
        rcases List.mem_append.mp hν with h1 | h1
        · exact List.mem_append_left _ h1
        · exact List.mem_append_right _ (List.mem_cons_of_mem _ h1)) (by rw [hX, List.length_append, List.length_append, List.length_cons]; omega)
      have w1 := Po_row m C (r := 18 + e) (pre ++ zs) (by omega) (by omega)
      rw [hX, wr_hi (by omega) (by omega), wr_hi (by omega) (by omega)] at w1
      simp only [List.length_append, List.length_cons, wn_app, wn] at w1
      have q11 := IW.core h.2 (fun t ht => row_cq C (r := 18 + e) (pre ++ zs) (by omega) ht)
      have x1 : (cr_sX C (18 + e) (pre ++ zs)).2.1 (18 + e) = pre ++ zs := cr_sX_at _ _ _
      have n1 : (cr_sX C (18 + e) (pre ++ zs)).1 = C.1 := rfl
      generalize cr_sX C (18 + e) (pre ++ zs) = C1 at *
      have hc : cv (cs_put C1 (6 + (2 * q + e)) μ) := (cw_put (cw_refl C1) (r := 6 + (2 * q + e)) (by omega) (by omega) (fun _ => ⟨Or.inl hmc, fun x _ => by omega⟩) z1.1).1
      have hp := Po_put (k := m) C1 μ (show 6 ≤ 6 + (2 * q + e) by omega) (by omega)
      have i2 : IW N (cs_put C1 (6 + (2 * q + e)) μ) := ⟨iz_put z1 (by omega) (by omega) (fun _ => by rw [show 6 + (2 * q + e) - 6 = 2 * q + e by omega, n1]; exact s4) hw hc, IW.core q11 (fun _ ht => put_cq C1 μ (by omega) ht)⟩
      have e1 : (cs_put C1 (6 + (2 * q + e)) μ).1 = C.1 := n1
      obtain ⟨a, b⟩ := ih pre (cs_put C1 (6 + (2 * q + e)) μ) (by rw [cs_put_ne _ _ (by omega)]; exact x1) i2 (fun k hk ck => by
        unfold sl
        rw [e1] at ck ⊢
        exact hs k hk ck)
      refine ⟨a, Nat.le_trans b ?_⟩
      by_cases c5 : μ.1 = 5
      · rw [if_pos (Or.inr c5)] at hp
        rw [if_pos c5] at w1
        omega
      · rw [if_neg (by rintro (x | x); omega; exact c5 x)] at hp
        rw [if_neg c5] at w1
        omega
    · rw [if_neg c]
      exact ih (pre ++ [μ]) C (by rw [hX, List.append_assoc]; rfl) h hs
