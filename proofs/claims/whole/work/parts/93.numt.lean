/-! a numbered unit comes: its message -/
def cr_wl (μ : cr_m) : Nat := (cr_mk μ 1).toNatClampNeg
section CrN2
variable {G : ev_gx} {M : ev_mx} {d pc pc' tgt : Nat} {L : List (Nat × Value)} {st : List Value} {w w1 : ev_wd} {P : ev_r → ev_wd → Prop} {q0 mi n n' : Nat} {C : cr_C} {F : ev_wd} {Q : Nat → cr_m → Prop}
theorem ev_callvM {index c b k : Nat} {M' : ev_mx} {C' : Option cr_m × cr_C} (As : List Value) (hd : ev_d M.2.1 pc (.invokevirtual index) 3 pc') (hm : ev_ms M' k) (hi : ev_Iv M.1.cls index c M') (hb : ev_b G ≤ b ∧ b < ev_z w) (ht : ev_g w b = c) (hn : As.length = k) (hst : (st.map fun v => v.category).sum + M'.2.2.1 ≤ 28) (hlen : (lg_sl (.ref b :: As)).length ≤ M'.2.2.1)
    (hc : ev_E G M' d 0 (lv_args 0 (.ref b :: As)) [] w (cr_ym G q0 n' F Q C')) (kk : ∀ u w1, cr_un G w1 u C'.1 → cr_K G q0 w1 C'.2 n' F Q → ev_E G M (d + 1) pc' L (va_rf u :: st) w1 P) : ev_E G M (d + 1) pc L (As.reverse ++ .ref b :: st) w P :=
  ev_callv As hd hm hi hb ht hn hst hlen hc (fun v' w' h _ _ => by obtain ⟨u, h1, h2, h3⟩ := h; cases h1; exact kk _ _ h2 h3) (fun x w' h _ _ => by obtain ⟨u, h1, -⟩ := h; cases h1)
def cs_E_numT (C : cr_C) (e l t : Nat) : cr_C := match (cs_S_nextIn C (2 * l + e) t).1 with
  | none => (cs_S_nextIn C (2 * l + e) t).2
  | some μ => cs_E_takeIn (cs_S_nextIn C (2 * l + e) t).2 e (cr_wl μ) μ
theorem k_E_numT {e l t : Nat} (hq : q0 < ev_b G) (J : ev_J G q0 mi) (hn : n + 1 ≤ 200000) (he : e < 2) (hl : l < 3) (ht : t < 6) (hti : ∀ μ, (cs_S_nextIn C (2 * l + e) t).1 = some μ → cr_ti (cs_S_nextIn C (2 * l + e) t).2 e (cr_wl μ) μ) (h : cr_K G q0 w C n F Q) :
    ev_E G mm_E_numberedComes (d + 11) 81 [(0, .ref (ev_b G + cr_o 9 e)), (1, .int (Int32.ofNat l)), (2, .ref (ev_b G + cr_o 3 t)), (3, .ref (ev_b G + cr_o 1 (2 * l + e)))] [] w (cr_yv G q0 (n + 1) F Q (cs_E_numT C e l t)) := by
  have hs : 2 * l + e < 6 := by omega
  unfold cs_E_numT
  refine ev_aload_n dd_E_numberedComes_81 rfl ?_
  refine ev_aload_n dd_E_numberedComes_82 rfl ?_
  refine ev_callvM [_] dd_E_numberedComes_83 ms_S_nextIn iv_E_130 (h.al (κ := 1) hs) (h.tg (κ := 1) hs) rfl (Nat.le_of_ble_eq_true rfl) (Nat.le_of_ble_eq_true rfl) (k_S_nextIn hq hs ht h) (fun u w1 hu h1 => ?_)
  rcases hu with ⟨rfl, e1⟩ | ⟨y, μ, rfl, e1, hy⟩
  · rw [e1]
    refine ev_astoreN dd_E_numberedComes_86 (by decide) ?_
    refine ev_aloadN dd_E_numberedComes_88 rfl ?_
    refine ev_ifnullN dd_E_numberedComes_90 ?_
    refine ev_vret dd_E_numberedComes_99 rfl ?_
    exact ⟨rfl, h1.more (Nat.le_succ n)⟩
  · have ht1 := hti μ e1
    rw [e1]
    refine ev_astore (x := y) dd_E_numberedComes_86 (by decide) ?_
    refine ev_aload dd_E_numberedComes_88 rfl ?_
    refine ev_ifnull (x := y) dd_E_numberedComes_90 ?_
    refine ev_aload_n dd_E_numberedComes_93 rfl ?_
    refine ev_aload dd_E_numberedComes_94 rfl ?_
    have h2 := h1.know hy
    refine ev_callvV [_] dd_E_numberedComes_96 ms_E_takeIn iv_E_134 (h2.al (κ := 9) he) (h2.tg (κ := 9) he) rfl (Nat.le_of_ble_eq_true rfl) (Nat.le_of_ble_eq_true rfl) (k_E_takeIn hq J hn he (Or.inr ⟨rfl, rfl⟩) ht1 h2) (fun w5 h5 => ?_)
    refine ev_vret dd_E_numberedComes_99 rfl ?_
    exact ⟨rfl, h5.less (fun _ _ hx => Or.inl hx)⟩
end CrN2
