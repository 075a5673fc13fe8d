/-! the law: its script, its state -/
def Q00 : Nat → cr_m → Prop := fun _ _ => False
def LW (G : ev_gx) (q0 : Nat) (w : ev_wd) (C : cr_C) (n : Nat) (D : rf_C) (o : Int64) : Prop := cr_K G q0 w C n w Q00 ∧ rf_K G w D none w rf_Q0 ∧ ev_g w (ev_b G + 124) = 102 ∧ ev_n w (ev_b G + 124) = 1 ∧ ev_v w (ev_b G + 124) 0 = .long o
section Law0
variable {G : ev_gx} {M : ev_mx} {d pc pc' tgt : Nat} {L : List (Nat × Value)} {st : List Value} {w w1 : ev_wd} {P : ev_r → ev_wd → Prop} {q0 mi n n' : Nat} {C C' : cr_C} {D D' : rf_C} {o : Int64} {F : ev_wd} {Q : Nat → cr_m → Prop}
theorem ev_slen {bb Ls : Nat} {xs : Nat → Int32} (hX : va_X bb Ls xs (ev_s0 G) (ev_s0 G).heap) (hbl : bb < ev_b G) (hd : ev_d M.2.1 pc .arraylength 1 pc') (kk : ev_E G M d pc' L (.int (Int32.ofNat Ls) :: st) w P) : ev_E G M d pc L (.ref bb :: st) w P := by
  obtain ⟨hd, rfl⟩ := hd
  intro R s m args below meth c' w0 H locs ls X O hH hl
  obtain ⟨scr, h1, h2, h3, h4, h5⟩ := va_X.moved X.2.2.2.1.alike hX
  exact W.alen (n := Int32.ofNat Ls) X.1 X.2.1 (by rw [hH.2.2.2 bb hbl]; exact h1) h2 (by rw [h4] <;> rfl) rfl rfl hd (kk R s m args below meth c' w0 H locs ls X O hH hl)
theorem ev_sld {bb Ls : Nat} {xs : Nat → Int32} {j : Int32} (hX : va_X bb Ls xs (ev_s0 G) (ev_s0 G).heap) (hbl : bb < ev_b G) (hd : ev_d M.2.1 pc .iaload 1 pc') (hin : vp_in j Ls) (kk : ev_E G M d pc' L (.int (xs j.toNatClampNeg) :: st) w P) : ev_E G M d pc L (.int j :: .ref bb :: st) w P := by
  obtain ⟨hd, rfl⟩ := hd
  intro R s m args below meth c' w0 H locs ls X O hH hl
  obtain ⟨scr, h1, h2, h3, h4, h5⟩ := va_X.moved X.2.2.2.1.alike hX
  have hlt : j.toNatClampNeg < Ls := Nat.not_le.mp fun q => hin (Or.inr q)
  exact W.iald (v := .int (xs j.toNatClampNeg)) X.1 X.2.1 (by rw [hH.2.2.2 bb hbl]; exact h1) h2 h3 (by rw [h4]; exact hin) (h5 _ hlt) rfl rfl hd (kk R s m args below meth c' w0 H locs ls X O hH hl)
/-- only values of the reference's cells and of the law's long changed -/
theorem cr_K.any (hq : q0 < ev_b G) (h : cr_K G q0 w C n F Q) (ez : ev_z w1 = ev_z w) (eu : ev_u w1 = ev_u w) (eg : ev_g w1 = ev_g w) (en : ev_n w1 = ev_n w) (ev : ∀ a, (a < ev_b G + 77 ∨ ev_b G + 125 ≤ a) → ev_v w1 a = ev_v w a) (ht : ∀ a, ev_b G + 77 ≤ a → a < ev_b G + 125 → ev_g w a ≠ 6) : cr_K G q0 w1 C n w1 Q := by
  obtain ⟨X, Ar, Cp, U, ⟨r1, r2, r3, r4, r5, r6, r7⟩, hX, hU, ⟨c1, c2, c3⟩, hF, hm⟩ := h
  have ms : ∀ x μ, cr_ms G w x μ → cr_ms G w1 x μ := fun x μ ⟨a, b, c⟩ => by
    have hx : x < ev_b G + 77 ∨ ev_b G + 125 ≤ x := by
      by_cases l : x < ev_b G + 77
      · exact Or.inl l
      · by_cases l2 : x < ev_b G + 125
        · exact absurd b (ht x (by omega) l2)
        · exact Or.inr (by omega)
    exact ⟨⟨a.1, by rw [ez]; exact a.2⟩, by rw [eg]; exact b, fun k hk => by rw [ev x hx]; exact c k hk⟩
  refine ⟨X, Ar, Cp, U, ⟨by rw [ez]; exact r1, fun κ i hi => ?_, fun κ i k hi hk => ?_, fun κ i k q hi hp => ?_, fun r hr => ⟨?_, (r5 r hr).2⟩, r6, fun s hs => ⟨?_, fun x hx => ?_⟩⟩, fun r hr => ⟨(hX r hr).1, fun i x hx => ?_⟩, fun s hs => ?_, ⟨c1, by rw [ez]; exact c2, by rw [eu]; exact c3⟩, fun a _ _ => ⟨rfl, rfl, rfl⟩, fun x μ hx => ms x μ (hm x μ hx)⟩
  · rw [eg, en]
    exact r2 κ i hi
  · have ho := cr_off hi
    rw [ev _ (Or.inl (by omega))]
    exact r3 κ i k hi hk
  · have ho := cr_off hi
    rw [ev _ (Or.inl (by omega))]
    exact r4 κ i k q hi hp
  · have ho : cr_o 11 r < 77 := cr_off (κ := 11) hr
    obtain ⟨⟨⟨mc, m1, m2, m3, m4, m5⟩, l2, l3, l4, l5⟩, ha⟩ := r5 r hr
    have e0 := ev (ev_b G + cr_o 11 r) (Or.inl (by omega))
    refine ⟨⟨mc, ⟨m1.1, by rw [ez]; exact m1.2⟩, by rw [eg]; exact m2, by rw [e0]; exact m3, by rw [e0]; exact m4, by rw [e0]; exact m5⟩, l2, l3, fun x hx => ?_, ?_⟩
    · rw [ez, eg]
      exact l4 x hx
    · rcases l5 with l5 | ⟨b1, b2, b3, b4, b5⟩
      · exact Or.inl l5
      · have hA : ev_v w1 (Ar r) = ev_v w (Ar r) := ev _ (Or.inr (by
          rcases ha with ha | ha
          · rw [ha] at b1
            omega
          · omega))
        refine Or.inr ⟨by rw [ez]; exact b1, by rw [eg]; exact b2, by rw [en]; exact b3, b4, fun i x hx => ?_⟩
        rw [hA]
        exact b5 i x hx
  · have ho : cr_o 3 s < 77 := cr_off (κ := 3) hs
    rw [ev _ (Or.inl (by omega))]
    exact (r7 s hs).1
  · rw [ez, eg]
    exact (r7 s hs).2 x hx
  · obtain ⟨μ, k1, k2⟩ := (hX r hr).2 i x hx
    exact ⟨μ, k1, ms x μ k2⟩
  · rcases hU s hs with k | ⟨x, μ, k1, k2, k3⟩
    · exact Or.inl k
    · exact Or.inr ⟨x, μ, k1, k2, ms x μ k3⟩
theorem LW.z (h : LW G q0 w C n D o) : ev_b G + 125 ≤ ev_z w := by
  obtain ⟨X, Ar, Cp, U, hR, -⟩ := h.1
  exact hR.1
theorem LW.cl (h : LW G q0 w C n D o) (hz : ev_z w ≤ ev_z w1) (h1 : cr_K G q0 w1 C' n' w Q00) : LW G q0 w1 C' n' D o := by
  obtain ⟨X, Ar, Cp, U, a1, a2, a3, a4, f, a5⟩ := h1
  obtain ⟨f1, f2, f3⟩ := f (ev_b G + 124) (by omega) (by omega)
  refine ⟨⟨X, Ar, Cp, U, a1, a2, a3, a4, fun a _ _ => ⟨rfl, rfl, rfl⟩, a5⟩, h.2.1.mv hz (fun a x y => f a x (by omega)), ?_, ?_, ?_⟩
  · rw [f1]
    exact h.2.2.1
  · rw [f2]
    exact h.2.2.2.1
  · rw [f3]
    exact h.2.2.2.2
theorem LW.rf (hq : q0 < ev_b G) (h : LW G q0 w C n D o) (h1 : rf_K G w1 D' none w rf_Q0) : LW G q0 w1 C n D' o := by
  have hf : rf_f G w1 w := by
    obtain ⟨A, xs, own, fs, mk, ⟨-, hf⟩, -⟩ := h1
    exact hf
  refine ⟨h.1.ref hq hf (fun a x y => h.2.1.t6 x y), h1.mv (Nat.le_refl _) (fun _ _ _ => ⟨rfl, rfl, rfl⟩), ?_, ?_, ?_⟩
  · rw [hf.2.2.1]
    exact h.2.2.1
  · rw [hf.2.2.2.1]
    exact h.2.2.2.1
  · rw [hf.2.2.2.2 _ (Or.inr (Nat.le_refl _))]
    exact h.2.2.2.2
theorem LW.out (hq : q0 < ev_b G) (h : LW G q0 w C n D o) (x : Int64) : LW G q0 (ev_set w (ev_b G + 124) 0 (.long x)) C n D x := by
  refine ⟨h.1.any hq rfl rfl rfl rfl (fun a ha => ?_) (fun a h1 h2 => ?_), h.2.1.mv (Nat.le_refl _) (fun a x y => ⟨rfl, rfl, ?_⟩), h.2.2.1, h.2.2.2.1, ?_⟩
  · exact funext fun j => by rw [ev_set_ne _ _ _ (by omega)]
  · by_cases l : a < ev_b G + 124
    · exact h.2.1.t6 h1 l
    · rw [show a = ev_b G + 124 by omega, h.2.2.1]
      decide
  · exact funext fun j => by rw [ev_set_ne _ _ _ (by omega)]
  · rw [ev_set_at]
    simp [updV]
/-- a call of the class that answers a number -/
theorem L_v {index k : Nat} {M' : ev_mx} {v : Int32} (As : List Value) (hd : ev_d M.2.1 pc (.invokevirtual index) 3 pc') (hm : ev_ms M' k) (hi : ev_Iv M.1.cls index 0 M') (hn : As.length = k) (hst : (st.map fun v => v.category).sum + M'.2.2.1 ≤ 28) (hlen : (lg_sl (.ref (ev_b G + cr_o 12 0) :: As)).length ≤ M'.2.2.1) (h : LW G q0 w C n D o)
    (hc : ev_E G M' d 0 (lv_args 0 (.ref (ev_b G + cr_o 12 0) :: As)) [] w (cr_yi G q0 n' w Q00 (v, C'))) (kk : ∀ w1, LW G q0 w1 C' n' D o → ev_E G M (d + 1) pc' L (.int v :: st) w1 P) : ev_E G M (d + 1) pc L (As.reverse ++ .ref (ev_b G + cr_o 12 0) :: st) w P :=
  ev_callv As hd hm hi (h.1.al (κ := 12) Nat.zero_lt_one) (h.1.tg (κ := 12) Nat.zero_lt_one) hn hst hlen hc (fun v' w' hp hz _ => by obtain ⟨h1, h2⟩ := hp; cases h1; exact kk w' (h.cl hz h2)) (fun x w' hp _ _ => by obtain ⟨h1, -⟩ := hp; cases h1)
theorem L_vV {index k : Nat} {M' : ev_mx} (As : List Value) (hd : ev_d M.2.1 pc (.invokevirtual index) 3 pc') (hm : ev_ms M' k) (hi : ev_Iv M.1.cls index 0 M') (hn : As.length = k) (hst : (st.map fun v => v.category).sum + M'.2.2.1 ≤ 28) (hlen : (lg_sl (.ref (ev_b G + cr_o 12 0) :: As)).length ≤ M'.2.2.1) (h : LW G q0 w C n D o)
    (hc : ev_E G M' d 0 (lv_args 0 (.ref (ev_b G + cr_o 12 0) :: As)) [] w (cr_yv G q0 n' w Q00 C')) (kk : ∀ w1, LW G q0 w1 C' n' D o → ev_E G M (d + 1) pc' L st w1 P) : ev_E G M (d + 1) pc L (As.reverse ++ .ref (ev_b G + cr_o 12 0) :: st) w P :=
  ev_callv As hd hm hi (h.1.al (κ := 12) Nat.zero_lt_one) (h.1.tg (κ := 12) Nat.zero_lt_one) hn hst hlen hc (fun v' w' hp hz _ => by obtain ⟨h1, h2⟩ := hp; cases h1; exact kk w' (h.cl hz h2)) (fun x w' hp _ _ => by obtain ⟨h1, -⟩ := hp; cases h1)
theorem L_vL {index k : Nat} {M' : ev_mx} {v : Int64} (As : List Value) (hd : ev_d M.2.1 pc (.invokevirtual index) 3 pc') (hm : ev_ms M' k) (hi : ev_Iv M.1.cls index 0 M') (hn : As.length = k) (hst : (st.map fun v => v.category).sum + M'.2.2.1 ≤ 28) (hlen : (lg_sl (.ref (ev_b G + cr_o 12 0) :: As)).length ≤ M'.2.2.1) (h : LW G q0 w C n D o)
    (hc : ev_E G M' d 0 (lv_args 0 (.ref (ev_b G + cr_o 12 0) :: As)) [] w (cr_yl G q0 n' w Q00 (v, C'))) (kk : ∀ w1, LW G q0 w1 C' n' D o → ev_E G M (d + 1) pc' L (.long v :: st) w1 P) : ev_E G M (d + 1) pc L (As.reverse ++ .ref (ev_b G + cr_o 12 0) :: st) w P :=
  ev_callv As hd hm hi (h.1.al (κ := 12) Nat.zero_lt_one) (h.1.tg (κ := 12) Nat.zero_lt_one) hn hst hlen hc (fun v' w' hp hz _ => by obtain ⟨h1, h2⟩ := hp; cases h1; exact kk w' (h.cl hz h2)) (fun x w' hp _ _ => by obtain ⟨h1, -⟩ := hp; cases h1)
/-- a call of the class that throws -/
theorem L_t {index k c : Nat} {M' : ev_mx} (As : List Value) (hd : ev_d M.2.1 pc (.invokevirtual index) 3 pc') (hm : ev_ms M' k) (hi : ev_Iv M.1.cls index 0 M') (hn : As.length = k) (hst : (st.map fun v => v.category).sum + M'.2.2.1 ≤ 28) (hlen : (lg_sl (.ref (ev_b G + cr_o 12 0) :: As)).length ≤ M'.2.2.1) (h : LW G q0 w C n D o)
    (hc : ev_E G M' d 0 (lv_args 0 (.ref (ev_b G + cr_o 12 0) :: As)) [] w (cr_yt G q0 n' w Q00 c C)) (kt : ∀ x w1, (ev_b G ≤ x ∧ x < ev_z w1) → ev_g w1 x = c → LW G q0 w1 C n' D o → ev_T G M (d + 1) pc L x w1 P) : ev_E G M (d + 1) pc L (As.reverse ++ .ref (ev_b G + cr_o 12 0) :: st) w P :=
  ev_callv As hd hm hi (h.1.al (κ := 12) Nat.zero_lt_one) (h.1.tg (κ := 12) Nat.zero_lt_one) hn hst hlen hc (fun v' w' hp _ _ => by obtain ⟨x, h1, -⟩ := hp; cases h1) (fun x w' hp hz _ => by obtain ⟨x', h1, h2, h3, h4⟩ := hp; cases h1; exact kt x w' h2 h3 (h.cl hz h4))
/-- a call of the reference -/
theorem L_r {index k : Nat} {M' : ev_mx} {v : Int32} (As : List Value) (hq : q0 < ev_b G) (hd : ev_d M.2.1 pc (.invokevirtual index) 3 pc') (hm : ev_ms M' k) (hi : ev_Iv M.1.cls index 8 M') (hn : As.length = k) (hst : (st.map fun v => v.category).sum + M'.2.2.1 ≤ 28) (hlen : (lg_sl (.ref (ev_b G + 77) :: As)).length ≤ M'.2.2.1) (h : LW G q0 w C n D o)
    (hc : ev_E G M' d 0 (lv_args 0 (.ref (ev_b G + 77) :: As)) [] w (rf_yi G w rf_Q0 none (v, D'))) (kk : ∀ w1, LW G q0 w1 C n D' o → ev_E G M (d + 1) pc' L (.int v :: st) w1 P) : ev_E G M (d + 1) pc L (As.reverse ++ .ref (ev_b G + 77) :: st) w P :=
  ev_callv As hd hm hi h.2.1.ob h.2.1.tg hn hst hlen hc (fun v' w' hp _ _ => by obtain ⟨h1, h2⟩ := hp; cases h1; exact kk w' (h.rf hq h2)) (fun x w' hp _ _ => by obtain ⟨h1, -⟩ := hp; cases h1)
theorem L_rV {index k : Nat} {M' : ev_mx} (As : List Value) (hq : q0 < ev_b G) (hd : ev_d M.2.1 pc (.invokevirtual index) 3 pc') (hm : ev_ms M' k) (hi : ev_Iv M.1.cls index 8 M') (hn : As.length = k) (hst : (st.map fun v => v.category).sum + M'.2.2.1 ≤ 28) (hlen : (lg_sl (.ref (ev_b G + 77) :: As)).length ≤ M'.2.2.1) (h : LW G q0 w C n D o)
    (hc : ev_E G M' d 0 (lv_args 0 (.ref (ev_b G + 77) :: As)) [] w (rf_yv G w rf_Q0 none D')) (kk : ∀ w1, LW G q0 w1 C n D' o → ev_E G M (d + 1) pc' L st w1 P) : ev_E G M (d + 1) pc L (As.reverse ++ .ref (ev_b G + 77) :: st) w P :=
  ev_callv As hd hm hi h.2.1.ob h.2.1.tg hn hst hlen hc (fun v' w' hp _ _ => by obtain ⟨h1, h2⟩ := hp; cases h1; exact kk w' (h.rf hq h2)) (fun x w' hp _ _ => by obtain ⟨h1, -⟩ := hp; cases h1)
theorem L_rL {index k : Nat} {M' : ev_mx} {v : Int64} (As : List Value) (hq : q0 < ev_b G) (hd : ev_d M.2.1 pc (.invokevirtual index) 3 pc') (hm : ev_ms M' k) (hi : ev_Iv M.1.cls index 8 M') (hn : As.length = k) (hst : (st.map fun v => v.category).sum + M'.2.2.1 ≤ 28) (hlen : (lg_sl (.ref (ev_b G + 77) :: As)).length ≤ M'.2.2.1) (h : LW G q0 w C n D o)
    (hc : ev_E G M' d 0 (lv_args 0 (.ref (ev_b G + 77) :: As)) [] w (rf_yl G w (v, D'))) (kk : ∀ w1, LW G q0 w1 C n D' o → ev_E G M (d + 1) pc' L (.long v :: st) w1 P) : ev_E G M (d + 1) pc L (As.reverse ++ .ref (ev_b G + 77) :: st) w P :=
  ev_callv As hd hm hi h.2.1.ob h.2.1.tg hn hst hlen hc (fun v' w' hp _ _ => by obtain ⟨h1, h2⟩ := hp; cases h1; exact kk w' (h.rf hq h2)) (fun x w' hp _ _ => by obtain ⟨h1, -⟩ := hp; cases h1)
/-- the law's long is set -/
theorem L_out (hq : q0 < ev_b G) {x : Int64} (hd : ev_d M.2.1 pc .lastore 1 pc') (h : LW G q0 w C n D o) (kk : ∀ w1, LW G q0 w1 C n D x → ev_E G M d pc' L st w1 P) : ev_E G M d pc L (.long x :: .int 0 :: .ref (ev_b G + 124) :: st) w P := by
  have hz := h.z
  exact ev_last (t := 2) hd ⟨by omega, by omega⟩ h.2.2.1 rfl (by rw [h.2.2.2.1]; exact nI_in (show 0 < 1 by omega) (by omega)) (kk _ (h.out hq x))
/-- what a helper of the law leaves -/
def LY (G : ev_gx) (q0 : Nat) (C : cr_C) (n : Nat) (D : rf_C) (k : Int32) (ov : Int64) : ev_r → ev_wd → Prop := fun t w' => t = .inl (some (.int k)) ∧ ∃ o', (k = 0 → o' = ov) ∧ LW G q0 w' C n D o'
theorem L_s {index k : Nat} {M' : ev_mx} {v : Int32} {ov : Int64} (As : List Value) (hd : ev_d M.2.1 pc (.invokestatic index) 3 pc') (hm : ev_ms M' k) (hi : ev_Is M.1.cls index M') (hn : As.length = k) (hst : (st.map fun v => v.category).sum + M'.2.2.1 ≤ 28) (hlen : (lg_sl As).length ≤ M'.2.2.1)
    (hc : ev_E G M' d 0 (lv_args 0 As) [] w (LY G q0 C' n' D v ov)) (kk : ∀ w1 o', (v = 0 → o' = ov) → LW G q0 w1 C' n' D o' → ev_E G M (d + 1) pc' L (.int v :: st) w1 P) : ev_E G M (d + 1) pc L (As.reverse ++ st) w P :=
  ev_calls As hd hm hi hn hst hlen hc (fun v' w' hp _ _ => by obtain ⟨h1, o', h2, h3⟩ := hp; cases h1; exact kk w' o' h2 h3) (fun x w' hp _ _ => by obtain ⟨h1, -⟩ := hp; cases h1)
end Law0
