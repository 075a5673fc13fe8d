/-! the law: tick and lost -/
section Law5
variable {G : ev_gx} {d : Nat} {w : ev_wd} {P : ev_r → ev_wd → Prop} {q0 mi n bb Ls m : Nat} {C : cr_C} {D : rf_C} {o : Int64} {xs : Nat → Int32} {hh : List (Nat × Nat × Nat × Nat)}
theorem do_tick (hq : q0 < ev_b G) (J : ev_J G q0 mi) (Y : ev_Y G) (Y2 : ev_Y2 G) (hX : va_X bb Ls xs (ev_s0 G) (ev_s0 G).heap) (hbl : bb < ev_b G) (hL : Ls ≤ 2560) (hm : 5 * m + 5 ≤ Ls) (h : LW G q0 w C n D o) (hR : RR m C D) (hI : ib C) (hn : n ≤ 12 * m) (kk : KK G q0 bb m d hh P) : ev_E G (mm_W hh) (d + 15) 413 (L5 G bb m) [] w P := by
  have hm1 : m ≤ 511 := by omega
  obtain ⟨t1, t2, t3, t4, t5, t6, t7⟩ := hR.tick (by omega)
  have hz : cz C ≤ 7900 := by
    have a := hR.2.2
    have b := Po_cz 0 C
    omega
  have hP := k_P_tick (d := d + 1) hq J (show n + 12 ≤ 200000 by omega) hR.2.1.1.1.1 hz h.1
  have hi := ib_tick hR.2.1.1.1.1 hI
  have hD : ∀ w1, rf_K G w1 D none w1 rf_Q0 → ev_E G mm_D_tick (d + 14) 0 (lv_args 0 (.ref (ev_b G + 77) :: [])) [] w1 (fun t w' => t = .inl (some (.int ((rs_tick D).1 50 0))) ∧ rf_K G w' (rs_tick D) none w1 rf_Q0) := fun w1 h1 => k_D_tick (d := d + 7) t1 t2 t3 t4 h1
  clear t1 t2 t3 t4
  generalize cs_P_tick C = T at *
  generalize rs_tick D = E at *
  exact lc_tick (kv := T.1) (rv := E.1 50 0) (D' := E) (C' := T.2) (n' := n + 12) hq h hP hD t6.symm (fun w' o' h' => kk w' _ _ _ o' h' t5 hi (by omega))
theorem do_lost (hq : q0 < ev_b G) (J : ev_J G q0 mi) (Y : ev_Y G) (Y2 : ev_Y2 G) (hX : va_X bb Ls xs (ev_s0 G) (ev_s0 G).heap) (hbl : bb < ev_b G) (hL : Ls ≤ 2560) (hm : 5 * m + 5 ≤ Ls) (h : LW G q0 w C n D o) (hR : RR m C D) (hI : ib C) (hn : n ≤ 12 * m) (kk : KK G q0 bb m d hh P) : ev_E G (mm_W hh) (d + 15) 877 (L5 G bb m) [] w P := by
  have hm1 : m ≤ 511 := by omega
  exact lc_lost (kv := 0 + C.1 9 0 6 + C.1 9 1 6) (rv := (rf_sI D 0 0 0).1 49 0) (D' := rf_sI D 0 0 0) (C' := C) (n' := n) hq h (k_P_lost h.1) (fun w1 h1 => k_D_lost h1) (by rw [rf_sI_ne _ _ (by omega), hR.1.2.2.2, Int32.zero_add]) (fun w' o' h' => kk w' _ _ _ o' h' (hR.same _) hI (by omega))
end Law5
