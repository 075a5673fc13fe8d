/-! a new message; rows with loops: the first so many dropped, a kind looked for; a memory -/
section CrT
variable {G : ev_gx} {M : ev_mx} {d pc pc' tgt : Nat} {L : List (Nat × Value)} {st : List Value} {w w1 : ev_wd} {P : ev_r → ev_wd → Prop} {q0 mi n n' : Nat} {C : cr_C} {F : ev_wd} {Q : Nat → cr_m → Prop}
theorem cr_sf0 (G : ev_gx) (w : ev_wd) : cr_sf G w (fun _ => False) := ⟨fun _ _ _ h => h, fun _ _ _ h => h⟩
/-- a cell more, which the state doesn't know -/
theorem cr_K.fr0 (h : cr_K G q0 w C n F Q) (hq : q0 < ev_b G) {w' : ev_wd} (hf : ev_fr w w' (fun _ => False)) (hz : ev_z w' ≤ ev_z w + 1) (hu : ev_u w' ≤ ev_u w + 6) : cr_K G q0 w' C (n + 1) F Q := by
  obtain ⟨X, Ar, Cp, U, hR, hX, hU, ⟨q1, q2, q3⟩, hF, hM⟩ := h
  have hs := cr_sf0 G w
  exact ⟨X, Ar, Cp, U, hR.fr0 hq hf, fun r hr => (hX r hr).keep hf hs, fun s hs' => (hU s hs').keep hf hs, ⟨q1, by omega, by omega⟩, hF.keep hR.1 hf hs, fun y ν hy => (hM y ν hy).keep hf hs⟩
theorem cr_K.z (h : cr_K G q0 w C n F Q) : ev_b G + 125 ≤ ev_z w := by
  obtain ⟨X, Ar, Cp, U, hR, -⟩ := h
  exact hR.1
theorem cr_K.room (h : cr_K G q0 w C n F Q) (hn : n ≤ 200000) : ev_z w + 1 ≤ ev_b G + 601024 ∧ ev_u w + 6 ≤ 7293034 := by
  obtain ⟨X, Ar, Cp, U, hR, hX, hU, ⟨q1, q2, q3⟩, hF, hM⟩ := h
  have hsum := cr_su_le Cp 12288 22 q1
  exact ⟨by omega, by omega⟩
def cr_nw (w : ev_wd) : ev_wd := ev_add w 6 0 (fun k => defaultValue (nm_ft 6 k)) 4
theorem K_new {index : Nat} (hd : ev_d M.2.1 pc (.new index) 3 pc') (hlk : Cond.classLink M.1.cls index "ThreeLinkPair$Message" ∈ lw_tbl) (h : cr_K G q0 w C n F Q) (hq : q0 < ev_b G) (hn : n ≤ 200000)
    (kk : cr_K G q0 (cr_nw w) C (n + 1) F Q → ev_E G M d pc' L (.ref (ev_z w) :: st) (cr_nw w) P) : ev_E G M d pc L st w P := by
  have hr := h.room hn
  exact ev_new (c := 6) hd rfl ck_6 hlk hr.1 (show ev_u w + 4 ≤ 7293034 by omega) (kk (h.fr0 hq (ev_fr.add _ _ _ _ _) (Nat.le_refl _) (show ev_u w + 4 ≤ ev_u w + 6 by omega)))
theorem k_G_init (hq : q0 < ev_b G) (a b c e : Int32) (h : cr_K G q0 w C n F Q) : ev_E G mm_G_init (d + 1) 0 (lv_args 0 [.ref (ev_z w), .int a, .int b, .int c, .int e]) [] (cr_nw w) (cr_yv G q0 (n + 1) F (fun y ν => Q y ν ∨ (y = ev_z w ∧ ν = (a, b, c, e))) C) := by
  have hz := h.z
  have ha : ev_b G ≤ ev_z w ∧ ev_z w < ev_z (cr_nw w) := ⟨by omega, Nat.lt_succ_self _⟩
  have ht : ev_g (cr_nw w) (ev_z w) = 6 := (ev_add_at _ _ _ _ _).1
  refine ev_aload_n dd_G_init_0 rfl ?_
  refine ev_obji dd_G_init_1 oi_G_3 oi_i oi_c (Nat.le_of_ble_eq_true rfl) ?_
  refine ev_aload_n dd_G_init_4 rfl ?_
  refine ev_iload_n dd_G_init_5 rfl ?_
  refine ev_putF dd_G_init_6 fk_G_9 rfl ha ht rfl rfl ?_
  refine ev_aload_n dd_G_init_9 rfl ?_
  refine ev_iload_n dd_G_init_10 rfl ?_
  refine ev_putF dd_G_init_11 fk_G_15 rfl ha ht rfl rfl ?_
  refine ev_aload_n dd_G_init_14 rfl ?_
  refine ev_iload_n dd_G_init_15 rfl ?_
  refine ev_putF dd_G_init_16 fk_G_18 rfl ha ht rfl rfl ?_
  refine ev_aload_n dd_G_init_19 rfl ?_
  refine ev_iload dd_G_init_20 rfl ?_
  refine ev_putF dd_G_init_22 fk_G_21 rfl ha ht rfl rfl ?_
  refine ev_vret dd_G_init_25 rfl ?_
  have hf : ev_fr w (ev_set (ev_set (ev_set (ev_set (cr_nw w) (ev_z w) 0 (.int a)) (ev_z w) 1 (.int b)) (ev_z w) 2 (.int c)) (ev_z w) 3 (.int e)) (fun q => q = ev_z w) :=
    ((((ev_fr.add (S := fun q => q = ev_z w) w 6 0 _ 4).trans (ev_fr.set (S := fun q => q = ev_z w) _ _ _ _ (fun _ => rfl))).trans (ev_fr.set (S := fun q => q = ev_z w) _ _ _ _ (fun _ => rfl))).trans (ev_fr.set (S := fun q => q = ev_z w) _ _ _ _ (fun _ => rfl))).trans (ev_fr.set (S := fun q => q = ev_z w) _ _ _ _ (fun _ => rfl))
  have hf0 := hf.mono (S' := fun _ => False) (fun q hq e => by have e1 : q = ev_z w := e; omega)
  have hk := h.fr0 hq hf0 (Nat.le_refl _) (show ev_u w + 4 ≤ ev_u w + 6 by omega)
  refine ⟨rfl, hk.know ⟨ha, ht, fun k hk4 => ?_⟩⟩
  have hk4' : k = 0 ∨ k = 1 ∨ k = 2 ∨ k = 3 := by omega
  rcases hk4' with rfl | rfl | rfl | rfl <;> simp [ev_set_at, updV, cr_mk]
theorem k_G_isOfClass {x : Nat} {μ : cr_m} (h : cr_ms G w x μ) : ev_E G mm_G_isOfClass d 0 (lv_args 0 [.ref x]) [] w (ev_ret (some (.int (if (4 : Int32) ≤ μ.1 then 0 else 1))) w) := by
  refine ev_aload_n dd_G_isOfClass_0 rfl ?_
  refine K_gM dd_G_isOfClass_1 fr_G_9 h (by decide) ?_
  refine ev_ic (v := 4) dd_G_isOfClass_4 (by decide +kernel) ?_
  refine ev_icmp_ge dd_G_isOfClass_5 (fun c => ?_) (fun c => ?_)
  · refine ev_ic (v := 0) dd_G_isOfClass_12 (by decide +kernel) ?_
    refine ev_iret dd_G_isOfClass_13 rfl rfl ?_
    exact ⟨by rw [if_pos (show (4 : Int32) ≤ μ.1 from c)], rfl⟩
  · refine ev_ic (v := 1) dd_G_isOfClass_8 (by decide +kernel) ?_
    refine ev_goto dd_G_isOfClass_9 ?_
    refine ev_iret dd_G_isOfClass_13 rfl rfl ?_
    exact ⟨by rw [if_neg (show ¬ (4 : Int32) ≤ μ.1 from c)], rfl⟩
theorem cr_sX_same (C : cr_C) (r : Nat) : cr_sX C r (C.2.1 r) = C := by
  obtain ⟨I, Z, V⟩ := C
  unfold cr_sX
  congr
  funext q
  by_cases e : q = r <;> simp [e]
theorem cr_sX_two (C : cr_C) (r : Nat) (a b : List cr_m) : cr_sX (cr_sX C r a) r b = cr_sX C r b := by
  obtain ⟨I, Z, V⟩ := C
  unfold cr_sX
  congr
  funext q
  by_cases e : q = r <;> simp [e]
theorem cr_sX_at (C : cr_C) (r : Nat) (a : List cr_m) : (cr_sX C r a).2.1 r = a := by simp [cr_sX]
/-- the first so many dropped -/
theorem k_P_dropFirst {r c : Nat} (hq : q0 < ev_b G) (hr : r < 22) (hc : c < 2 ^ 30) (h : cr_K G q0 w C n F Q) : ev_E G mm_P_dropFirst (d + 3) 0 (lv_args 0 [.ref (ev_b G + cr_o 11 r), .int (Int32.ofNat c)]) [] w (cr_yv G q0 n F Q (cr_sX C r ((C.2.1 r).drop c))) := by
  have loop : ∀ (m k : Nat) (w2 : ev_wd), k + m = c → cr_K G q0 w2 (cr_sX C r ((C.2.1 r).drop k)) n F Q →
      ev_E G mm_P_dropFirst (d + 3) 2 [(0, .ref (ev_b G + cr_o 11 r)), (1, .int (Int32.ofNat c)), (2, .int (Int32.ofNat k))] [] w2 (cr_yv G q0 n F Q (cr_sX C r ((C.2.1 r).drop c))) := by
    intro m
    induction m with
    | zero =>
      intro k w2 hk hK
      refine ev_iload_n dd_P_dropFirst_2 rfl ?_
      refine ev_iload_n dd_P_dropFirst_3 rfl ?_
      refine ev_icmp_ge dd_P_dropFirst_4 (fun _ => ?_) (fun h => absurd (nI_le (by omega) (by omega)) h)
      refine ev_vret dd_P_dropFirst_26 rfl ?_
      have e : k = c := by omega
      subst e
      exact ⟨rfl, hK⟩
    | succ m ih =>
      intro k w2 hk hK
      refine ev_iload_n dd_P_dropFirst_2 rfl ?_
      refine ev_iload_n dd_P_dropFirst_3 rfl ?_
      refine ev_icmp_ge dd_P_dropFirst_4 (fun h => absurd h (nI_ge (by omega) (by omega))) (fun _ => ?_)
      refine ev_aload_n dd_P_dropFirst_7 rfl ?_
      refine ev_callvI [] dd_P_dropFirst_8 ms_AL_isEmpty iv_P_156 (hK.al (κ := 11) hr) (hK.tg (κ := 11) hr) rfl (Nat.le_of_ble_eq_true rfl) (Nat.le_of_ble_eq_true rfl) (K_isE hK hr) ?_
      rw [cr_sX_at]
      refine ev_if_ne dd_P_dropFirst_11 (fun he => ?_) (fun he => ?_)
      · have he2 : (C.2.1 r).drop k = [] := by
          by_cases e : (C.2.1 r).drop k = []
          · exact e
          · exact absurd (by unfold cr_e; rw [if_neg e]) he
        refine ev_vret dd_P_dropFirst_26 rfl ?_
        have e3 : (C.2.1 r).drop c = [] := by
          rw [List.drop_eq_nil_iff] at he2 ⊢
          omega
        rw [e3, ← he2]
        exact ⟨rfl, hK⟩
      · have he2 : ¬ (C.2.1 r).drop k = [] := fun e => by
          unfold cr_e at he
          rw [if_pos e] at he
          exact absurd he (by decide)
        obtain ⟨μ, t, ht⟩ := List.exists_cons_of_ne_nil he2
        refine ev_aload_n dd_P_dropFirst_14 rfl ?_
        refine ev_ic (v := 0) dd_P_dropFirst_15 (by decide +kernel) ?_
        refine ev_callv [.int (Int32.ofNat 0)] dd_P_dropFirst_16 ms_AL_remove iv_P_165 (hK.al (κ := 11) hr) (hK.tg (κ := 11) hr) rfl (Nat.le_of_ble_eq_true rfl) (Nat.le_of_ble_eq_true rfl) (K_remove (j := 0) (μ := μ) hq hK hr (by rw [cr_sX_at, ht]; rfl)) (fun v w3 hp _ _ => ?_) (fun x w3 hp _ _ => by obtain ⟨⟨y, h1, -⟩, -⟩ := hp; cases h1)
        obtain ⟨⟨y, h1, -⟩, hK2⟩ := hp
        cases h1
        refine ev_pop dd_P_dropFirst_19 rfl ?_
        refine ev_iinc dd_P_dropFirst_20 rfl (by decide) ?_
        refine ev_goto dd_P_dropFirst_23 ?_
        refine ev_loc3 (i0 := 0) (i1 := 1) (i2 := 2) rfl rfl (v2 := .int (Int32.ofNat (k + 1))) (by rw [show Int32.ofNat (k + 1) = Int32.ofNat k + Int32.ofInt 1 by rw [inc_ofNat]; rfl]; rfl) ?_
        refine ih (k + 1) _ (by omega) ?_
        rw [cr_sX_at, cr_sX_two] at hK2
        have e4 : ((C.2.1 r).drop k).eraseIdx 0 = (C.2.1 r).drop (k + 1) := by
          rw [ht, List.eraseIdx_cons_zero, ← List.drop_drop (i := 1) (j := k), ht]
          rfl
        rw [e4] at hK2
        exact hK2
  refine ev_ic (v := 0) dd_P_dropFirst_0 (by decide +kernel) ?_
  refine ev_istore_n dd_P_dropFirst_1 (by decide) ?_
  refine ev_loc3 (i0 := 0) (i1 := 1) (i2 := 2) rfl rfl (v2 := .int (Int32.ofNat 0)) rfl ?_
  exact loop c 0 w (by omega) (by rw [List.drop_zero, cr_sX_same]; exact h)
end CrT
