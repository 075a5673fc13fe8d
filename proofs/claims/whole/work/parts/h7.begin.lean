/-! how the two begin, side by side -/
theorem beg_ne (D : rf_C) {s k j : Nat} (h : j ≠ s ∨ k < 17 ∨ 27 < k) : (rs_D_begin D s).1 k j = D.1 k j := by
  unfold rs_D_begin
  show (rf_sI (rf_sI (rf_sI (rf_sI (rf_sI (rf_sI (rf_sI (rf_sI (rf_sI (rf_sI (rf_sI D 17 s 7) 18 s 7) 19 s 1) 20 s 1) 21 s 0) 22 s 0) 23 s 0) 24 s 0) 25 s 0) 26 s 0) 27 s 0).1 k j = D.1 k j
  rw [rf_sI_ne _ _ (by omega), rf_sI_ne _ _ (by omega), rf_sI_ne _ _ (by omega), rf_sI_ne _ _ (by omega), rf_sI_ne _ _ (by omega), rf_sI_ne _ _ (by omega), rf_sI_ne _ _ (by omega), rf_sI_ne _ _ (by omega), rf_sI_ne _ _ (by omega), rf_sI_ne _ _ (by omega), rf_sI_ne _ _ (by omega)]
def bP (D : rf_C) (s : Nat) : Prop := D.1 17 s = 7 ∧ D.1 18 s = 7 ∧ D.1 19 s = 1 ∧ D.1 20 s = 1 ∧ D.1 21 s = 0 ∧ D.1 22 s = 0 ∧ D.1 23 s = 0 ∧ D.1 24 s = 0 ∧ D.1 25 s = 0 ∧ D.1 26 s = 0 ∧ D.1 27 s = 0
theorem bP_at (D : rf_C) (s : Nat) : bP (rs_D_begin D s) s := by
  refine ⟨?_, ?_, ?_, ?_, ?_, ?_, ?_, ?_, ?_, ?_, ?_⟩ <;> simp [rs_D_begin, rf_sI, rf_sX, rf_u]
theorem bP.k {D : rf_C} {s t : Nat} (h : bP D s) (hne : s ≠ t) : bP (rs_D_begin D t) s := by
  unfold bP at h ⊢
  rw [beg_ne _ (Or.inl hne), beg_ne _ (Or.inl hne), beg_ne _ (Or.inl hne), beg_ne _ (Or.inl hne), beg_ne _ (Or.inl hne), beg_ne _ (Or.inl hne), beg_ne _ (Or.inl hne), beg_ne _ (Or.inl hne), beg_ne _ (Or.inl hne), beg_ne _ (Or.inl hne), beg_ne _ (Or.inl hne)]
  exact h
theorem beg_X {D : rf_C} (h : ∀ r, D.2 r = []) (s r : Nat) : (rs_D_begin D s).2 r = [] := by
  show (if r = 6 + s then [] else if r = s then [] else D.2 r) = []
  by_cases e : r = 6 + s
  · rw [if_pos e]
  · rw [if_neg e]
    by_cases e2 : r = s
    · rw [if_pos e2]
    · rw [if_neg e2]
      exact h r
theorem D01_P {s : Nat} (hs : s < 6) : bP D01 s := by
  unfold D01
  rcases (show s = 0 ∨ s = 1 ∨ s = 2 ∨ s = 3 ∨ s = 4 ∨ s = 5 by omega) with rfl | rfl | rfl | rfl | rfl | rfl
  · exact (((((bP_at _ 0).k (by omega)).k (by omega)).k (by omega)).k (by omega)).k (by omega)
  · exact ((((bP_at _ 1).k (by omega)).k (by omega)).k (by omega)).k (by omega)
  · exact (((bP_at _ 2).k (by omega)).k (by omega)).k (by omega)
  · exact ((bP_at _ 3).k (by omega)).k (by omega)
  · exact (bP_at _ 4).k (by omega)
  · exact bP_at _ 5
theorem D01_I {k j : Nat} (h : k < 17 ∨ 27 < k) : D01.1 k j = A3 8 k j := by
  unfold D01
  rw [beg_ne _ (Or.inr h), beg_ne _ (Or.inr h), beg_ne _ (Or.inr h), beg_ne _ (Or.inr h), beg_ne _ (Or.inr h), beg_ne _ (Or.inr h)]
  rfl
theorem D01_X (r : Nat) : D01.2 r = [] := beg_X (beg_X (beg_X (beg_X (beg_X (beg_X (fun _ => rfl) 0) 1) 2) 3) 4) 5 r
theorem A3_z {k j : Nat} (h : k ≠ 7 ∧ k ≠ 9 ∧ k ≠ 10 ∧ k ≠ 28 ∧ k ≠ 48) : A3 8 k j = 0 := by
  unfold A3 A2 A1 A0
  rw [if_neg (by omega), if_neg (by omega), if_neg (by omega), if_neg (by omega)]
theorem D01_0 {k j : Nat} (h : k < 17 ∨ 27 < k) (h2 : k ≠ 7 ∧ k ≠ 9 ∧ k ≠ 10 ∧ k ≠ 28 ∧ k ≠ 48) : D01.1 k j = 0 := (D01_I h).trans (A3_z h2)
theorem sm0 : sm C00 D01 := by
  refine ⟨fun s hs => ⟨⟨?_, fun _ => ?_, ?_⟩, ⟨?_, ?_, ?_, ?_, ?_, ?_, ?_⟩, ⟨?_, Or.inl ⟨rfl, ?_⟩⟩, ⟨?_, Or.inr ⟨rfl, rfl⟩⟩, fun i hi => Or.inr ⟨rfl, rfl, ?_⟩⟩, fun r hr _ => ?_, fun e k he hk => ?_, ?_⟩
  · obtain ⟨a17, a18, a19, a20, a21, a22, a23, a24, a25, a26, a27⟩ := D01_P hs
    exact ⟨D01_0 (by omega) (by omega), D01_0 (by omega) (by omega), D01_0 (by omega) (by omega), D01_0 (by omega) (by omega), a17, a18, a19, a20, a21, a22, a23, a24, a25, a26⟩
  · exact D01_0 (by omega) (by omega)
  · exact ⟨0, Nat.zero_le _, (D01_P hs).2.2.2.2.2.2.2.2.2.2, rfl⟩
  · exact D01_0 (by omega) (by omega)
  · exact D01_0 (by omega) (by omega)
  · exact D01_0 (by omega) (by omega)
  · exact D01_0 (by omega) (by omega)
  · exact D01_0 (by omega) (by omega)
  · exact D01_0 (by omega) (by omega)
  · rw [D01_X]
    cases cr_nb C00 s <;> rfl
  · exact D01_0 (by omega) (by omega)
  · exact D01_0 (by omega) (by omega)
  · exact D01_0 (by omega) (by omega)
  · rw [D01_I (by omega)]
    unfold A3 A2
    rw [if_neg (by omega), if_pos ⟨rfl, by omega⟩]
  · rw [D01_X]
    rfl
  · rw [D01_I (by omega)]
    unfold A3
    rw [if_pos ⟨rfl, by omega⟩]
    show lk0 (4 * e + k) = Int32.ofNat k - Int32.ofNat k / 3 * 3
    unfold lk0
    rcases (show e = 0 ∨ e = 1 by omega) with rfl | rfl <;> rcases (show k = 0 ∨ k = 1 ∨ k = 2 ∨ k = 3 by omega) with rfl | rfl | rfl | rfl <;> decide
  · rw [D01_0 (by omega) (by omega)]
    rfl
theorem nb00 {N : Nat} (h : 0 < N) {x : Int32} (e : x = 0) : nb x N := ⟨0, h, e⟩
theorem cv0 : cv C00 := by
  refine ⟨⟨fun r hr μ hμ => absurd hμ List.not_mem_nil, fun r _ _ μ hμ => absurd hμ List.not_mem_nil, fun s hs => Nat.zero_le _⟩, ⟨fun e k he hk => ?_, fun s hs => ⟨rfl, Nat.zero_le _⟩⟩, fun s hs μ hμ => (by cases hμ)⟩
  show (Int32.ofNat k - Int32.ofNat k / 3 * 3) = Int32.ofNat (Int32.ofNat k - Int32.ofNat k / 3 * 3).toNatClampNeg ∧ (Int32.ofNat k - Int32.ofNat k / 3 * 3).toNatClampNeg < 3
  rcases (show k = 0 ∨ k = 1 ∨ k = 2 ∨ k = 3 by omega) with rfl | rfl | rfl | rfl <;> decide
theorem IV0 : IV 0 0 C00 := by
  refine ⟨⟨⟨cv0, fun s hs => ⟨?_, ?_, ?_, ?_⟩, fun r hr μ hμ => absurd hμ List.not_mem_nil, fun s hs μ hμ => (by cases hμ), fun e he => Nat.zero_le _⟩, fun s hs => ?_⟩, fun s hs => ?_⟩
  · exact ⟨nb_0 (by omega), fun c => absurd c (by show ¬ ((0 : Int32) = 1 ∨ (0 : Int32) = 3); decide), fun c => absurd c (by show ¬ (0 : Int32) = 2; decide), fun c => absurd rfl c⟩
  · exact ⟨⟨7, by omega, rfl⟩, ⟨7, by omega, rfl⟩, fun c => absurd rfl c, nb_0 (by omega), nb_0 (by omega), nb_0 (by omega)⟩
  · exact ⟨nb_0 (by omega), nb_0 (by omega), nb_0 (by omega), fun _ => rfl, Nat.zero_le _, fun c => absurd rfl c, fun i hi => Or.inl rfl⟩
  · exact ⟨fun _ => ⟨rfl, rfl⟩, nb_0 (by omega)⟩
  · exact ⟨fun p => absurd rfl p.1.1, fun c => absurd c (by show ¬ (0 : Int32) = 4; decide)⟩
  · exact ⟨fun p => absurd rfl p.1, fun _ => ⟨by show ¬ (0 : Int32) = 3; decide, by show ¬ (0 : Int32) = 4; decide⟩, fun c => absurd c (by show ¬ (0 : Int32) = 4; decide), fun c => absurd c (by show ¬ (0 : Int32) = 4; decide)⟩
theorem Po0 : Po 0 C00 = 0 := by
  have h1 : wA C00 = 0 := by
    show cr_su (fun r => wr r []) 22 = 0
    decide
  have h2 : ∀ t, bs C00 0 t = 0 := fun t => by
    have a1 : un C00 t = 0 := if_neg (fun p => p.1.1 rfl)
    have a2 : cg C00 t = 0 := if_neg (fun p => p.1 rfl)
    have a3 : um C00 0 t = 0 := if_neg (fun p => absurd p.2.1 (by show ¬ (0 : Int32) = 4; decide))
    have a4 : be C00 t = 0 := if_pos rfl
    unfold bs
    omega
  unfold Po
  rw [h1, su6, h2, h2, h2, h2, h2, h2]
theorem RR0 : RR 0 C00 D01 := ⟨sm0, IV0, by rw [Po0]; exact Nat.le_refl _⟩
/-! the two pictures, one after the other -/
section Two
variable {G : ev_gx} {w w' F : ev_wd} {q0 n : Nat} {C : cr_C} {D : rf_C} {Q : Nat → cr_m → Prop}
theorem rf_K.mv (h : rf_K G w D none F rf_Q0) (hz : ev_z w ≤ ev_z w') (hc : ∀ a, ev_b G + 77 ≤ a → a < ev_b G + 124 → ev_g w' a = ev_g w a ∧ ev_n w' a = ev_n w a ∧ ev_v w' a = ev_v w a) : rf_K G w' D none w' rf_Q0 := by
  obtain ⟨A, xs, own, fs, mk, ⟨⟨h1, h2, h3, h4⟩, -⟩, rest⟩ := h
  refine ⟨A, xs, own, fs, mk, ⟨⟨by omega, ?_, fun k hk => ?_, fun k hk => ?_⟩, rfl, rfl, rfl, rfl, fun _ _ => rfl⟩, rest⟩
  · rw [(hc (ev_b G + 77) (by omega) (by omega)).1]
    exact h2
  · rw [(hc (ev_b G + 77) (by omega) (by omega)).2.2]
    exact h3 k hk
  · have ho := rf_off hk
    obtain ⟨a1, a2, a3, a4⟩ := h4 k hk
    obtain ⟨c1, c2, c3⟩ := hc (ev_b G + rf_o k) (by omega) (by omega)
    refine ⟨?_, by rw [c1]; exact a2, by rw [c2]; exact a3, fun j hj => by rw [c3]; exact a4 j hj⟩
    rw [(hc (ev_b G + 77) (by omega) (by omega)).2.2]
    exact a1
theorem rf_K.t6 (h : rf_K G w D none F rf_Q0) {a : Nat} (h1 : ev_b G + 77 ≤ a) (h2 : a < ev_b G + 124) : ev_g w a ≠ 6 := by
  obtain ⟨A, xs, own, fs, mk, ⟨⟨k1, k2, k3, k4⟩, -⟩, -⟩ := h
  by_cases e : a = ev_b G + 77
  · rw [e, k2]
    decide
  · obtain ⟨n1, n2⟩ := kn_a (n := a - (ev_b G + 78)) (by omega)
    obtain ⟨-, a2, -⟩ := k4 _ n1
    rw [n2, show ev_b G + (78 + (a - (ev_b G + 78))) = a by omega] at a2
    rw [a2]
    split <;> decide
theorem cr_K.ref (hq : q0 < ev_b G) (h : cr_K G q0 w C n F Q) (hf : rf_f G w' w) (ht : ∀ a, ev_b G + 77 ≤ a → a < ev_b G + 124 → ev_g w a ≠ 6) : cr_K G q0 w' C n w' Q := by
  obtain ⟨X, Ar, Cp, U, ⟨r1, r2, r3, r4, r5, r6, r7⟩, hX, hU, ⟨c1, c2, c3⟩, hF, hm⟩ := h
  obtain ⟨ez, eu, eg, en, ev⟩ := hf
  have ms : ∀ x μ, cr_ms G w x μ → cr_ms G w' x μ := fun x μ ⟨a, b, c⟩ => by
    have hx : x < ev_b G + 77 ∨ ev_b G + 124 ≤ x := by
      by_cases l : x < ev_b G + 77
      · exact Or.inl l
      · by_cases l2 : x < ev_b G + 124
        · exact absurd b (ht x (by omega) l2)
        · exact Or.inr (by omega)
    exact ⟨⟨a.1, by rw [ez]; exact a.2⟩, by rw [eg]; exact b, fun k hk => by rw [ev x hx]; exact c k hk⟩
  refine ⟨X, Ar, Cp, U, ⟨by rw [ez]; exact r1, fun κ i hi => ?_, fun κ i k hi hk => ?_, fun κ i k q hi hp => ?_, fun r hr => ⟨?_, (r5 r hr).2⟩, r6, fun s hs => ⟨?_, fun x hx => ?_⟩⟩, fun r hr => ⟨(hX r hr).1, fun i x hx => ?_⟩, fun s hs => ?_, ⟨c1, by rw [ez]; exact c2, by rw [eu]; exact c3⟩, fun a _ _ => ⟨rfl, rfl, rfl⟩, fun x μ hx => ms x μ (hm x μ hx)⟩
  · rw [eg, en]
    exact r2 κ i hi
  · have ho := cr_off hi
    rw [ev _ (Or.inl (by omega))]
    exact r3 κ i k hi hk
  · have ho := cr_off hi
    rw [ev _ (Or.inl (by omega))]
    exact r4 κ i k q hi hp
  · have ho : cr_o 11 r < 77 := cr_off (κ := 11) hr
    obtain ⟨⟨⟨mc, m1, m2, m3, m4, m5⟩, l2, l3, l4, l5⟩, ha⟩ := r5 r hr
    have e0 := ev (ev_b G + cr_o 11 r) (Or.inl (by omega))
    refine ⟨⟨mc, ⟨m1.1, by rw [ez]; exact m1.2⟩, by rw [eg]; exact m2, by rw [e0]; exact m3, by rw [e0]; exact m4, by rw [e0]; exact m5⟩, l2, l3, fun x hx => ?_, ?_⟩
    · rw [ez, eg]
      exact l4 x hx
    · rcases l5 with l5 | ⟨b1, b2, b3, b4, b5⟩
      · exact Or.inl l5
      · have hA : ev_v w' (Ar r) = ev_v w (Ar r) := ev _ (Or.inr (by
          rcases ha with ha | ha
          · rw [ha] at b1
            omega
          · omega))
        refine Or.inr ⟨by rw [ez]; exact b1, by rw [eg]; exact b2, by rw [en]; exact b3, b4, fun i x hx => ?_⟩
        rw [hA]
        exact b5 i x hx
  · have ho : cr_o 3 s < 77 := cr_off (κ := 3) hs
    rw [ev _ (Or.inl (by omega))]
    exact (r7 s hs).1
  · rw [ez, eg]
    exact (r7 s hs).2 x hx
  · obtain ⟨μ, k1, k2⟩ := (hX r hr).2 i x hx
    exact ⟨μ, k1, ms x μ k2⟩
  · rcases hU s hs with k | ⟨x, μ, k1, k2, k3⟩
    · exact Or.inl k
    · exact Or.inr ⟨x, μ, k1, k2, ms x μ k3⟩
end Two
