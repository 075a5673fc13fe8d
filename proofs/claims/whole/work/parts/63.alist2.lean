/-! an array list made, cleared, an element taken out -/
section EvO
variable {G : ev_gx} {M : ev_mx} {d pc pc' tgt : Nat} {L : List (Nat × Value)} {st : List Value} {w : ev_wd} {P : ev_r → ev_wd → Prop}
theorem ev_loc1 {i0 : Nat} {v0 : Value} (h0 : L.lookup i0 = some v0) (k : ev_E G M d pc [(i0, v0)] st w P) : ev_E G M d pc L st w P := ev_loc [(i0, v0)] (List.forall_mem_cons.mpr ⟨ev_mem h0, (fun _ h => absurd h List.not_mem_nil)⟩) k
theorem ev_loc2 {i0 i1 : Nat} {v0 v1 : Value} (h0 : L.lookup i0 = some v0) (h1 : L.lookup i1 = some v1) (k : ev_E G M d pc [(i0, v0), (i1, v1)] st w P) : ev_E G M d pc L st w P := ev_loc [(i0, v0), (i1, v1)] (List.forall_mem_cons.mpr ⟨ev_mem h0, (List.forall_mem_cons.mpr ⟨ev_mem h1, (fun _ h => absurd h List.not_mem_nil)⟩)⟩) k
theorem ev_loc3 {i0 i1 i2 : Nat} {v0 v1 v2 : Value} (h0 : L.lookup i0 = some v0) (h1 : L.lookup i1 = some v1) (h2 : L.lookup i2 = some v2) (k : ev_E G M d pc [(i0, v0), (i1, v1), (i2, v2)] st w P) : ev_E G M d pc L st w P := ev_loc [(i0, v0), (i1, v1), (i2, v2)] (List.forall_mem_cons.mpr ⟨ev_mem h0, (List.forall_mem_cons.mpr ⟨ev_mem h1, (List.forall_mem_cons.mpr ⟨ev_mem h2, (fun _ h => absurd h List.not_mem_nil)⟩)⟩)⟩) k
theorem ev_loc4 {i0 i1 i2 i3 : Nat} {v0 v1 v2 v3 : Value} (h0 : L.lookup i0 = some v0) (h1 : L.lookup i1 = some v1) (h2 : L.lookup i2 = some v2) (h3 : L.lookup i3 = some v3) (k : ev_E G M d pc [(i0, v0), (i1, v1), (i2, v2), (i3, v3)] st w P) : ev_E G M d pc L st w P := ev_loc [(i0, v0), (i1, v1), (i2, v2), (i3, v3)] (List.forall_mem_cons.mpr ⟨ev_mem h0, (List.forall_mem_cons.mpr ⟨ev_mem h1, (List.forall_mem_cons.mpr ⟨ev_mem h2, (List.forall_mem_cons.mpr ⟨ev_mem h3, (fun _ h => absurd h List.not_mem_nil)⟩)⟩)⟩)⟩) k
theorem ev_loc5 {i0 i1 i2 i3 i4 : Nat} {v0 v1 v2 v3 v4 : Value} (h0 : L.lookup i0 = some v0) (h1 : L.lookup i1 = some v1) (h2 : L.lookup i2 = some v2) (h3 : L.lookup i3 = some v3) (h4 : L.lookup i4 = some v4) (k : ev_E G M d pc [(i0, v0), (i1, v1), (i2, v2), (i3, v3), (i4, v4)] st w P) : ev_E G M d pc L st w P := ev_loc [(i0, v0), (i1, v1), (i2, v2), (i3, v3), (i4, v4)] (List.forall_mem_cons.mpr ⟨ev_mem h0, (List.forall_mem_cons.mpr ⟨ev_mem h1, (List.forall_mem_cons.mpr ⟨ev_mem h2, (List.forall_mem_cons.mpr ⟨ev_mem h3, (List.forall_mem_cons.mpr ⟨ev_mem h4, (fun _ h => absurd h List.not_mem_nil)⟩)⟩)⟩)⟩)⟩) k
theorem ev_loc6 {i0 i1 i2 i3 i4 i5 : Nat} {v0 v1 v2 v3 v4 v5 : Value} (h0 : L.lookup i0 = some v0) (h1 : L.lookup i1 = some v1) (h2 : L.lookup i2 = some v2) (h3 : L.lookup i3 = some v3) (h4 : L.lookup i4 = some v4) (h5 : L.lookup i5 = some v5) (k : ev_E G M d pc [(i0, v0), (i1, v1), (i2, v2), (i3, v3), (i4, v4), (i5, v5)] st w P) : ev_E G M d pc L st w P := ev_loc [(i0, v0), (i1, v1), (i2, v2), (i3, v3), (i4, v4), (i5, v5)] (List.forall_mem_cons.mpr ⟨ev_mem h0, (List.forall_mem_cons.mpr ⟨ev_mem h1, (List.forall_mem_cons.mpr ⟨ev_mem h2, (List.forall_mem_cons.mpr ⟨ev_mem h3, (List.forall_mem_cons.mpr ⟨ev_mem h4, (List.forall_mem_cons.mpr ⟨ev_mem h5, (fun _ h => absurd h List.not_mem_nil)⟩)⟩)⟩)⟩)⟩)⟩) k
theorem ev_loc7 {i0 i1 i2 i3 i4 i5 i6 : Nat} {v0 v1 v2 v3 v4 v5 v6 : Value} (h0 : L.lookup i0 = some v0) (h1 : L.lookup i1 = some v1) (h2 : L.lookup i2 = some v2) (h3 : L.lookup i3 = some v3) (h4 : L.lookup i4 = some v4) (h5 : L.lookup i5 = some v5) (h6 : L.lookup i6 = some v6) (k : ev_E G M d pc [(i0, v0), (i1, v1), (i2, v2), (i3, v3), (i4, v4), (i5, v5), (i6, v6)] st w P) : ev_E G M d pc L st w P := ev_loc [(i0, v0), (i1, v1), (i2, v2), (i3, v3), (i4, v4), (i5, v5), (i6, v6)] (List.forall_mem_cons.mpr ⟨ev_mem h0, (List.forall_mem_cons.mpr ⟨ev_mem h1, (List.forall_mem_cons.mpr ⟨ev_mem h2, (List.forall_mem_cons.mpr ⟨ev_mem h3, (List.forall_mem_cons.mpr ⟨ev_mem h4, (List.forall_mem_cons.mpr ⟨ev_mem h5, (List.forall_mem_cons.mpr ⟨ev_mem h6, (fun _ h => absurd h List.not_mem_nil)⟩)⟩)⟩)⟩)⟩)⟩)⟩) k
theorem ev_loc8 {i0 i1 i2 i3 i4 i5 i6 i7 : Nat} {v0 v1 v2 v3 v4 v5 v6 v7 : Value} (h0 : L.lookup i0 = some v0) (h1 : L.lookup i1 = some v1) (h2 : L.lookup i2 = some v2) (h3 : L.lookup i3 = some v3) (h4 : L.lookup i4 = some v4) (h5 : L.lookup i5 = some v5) (h6 : L.lookup i6 = some v6) (h7 : L.lookup i7 = some v7) (k : ev_E G M d pc [(i0, v0), (i1, v1), (i2, v2), (i3, v3), (i4, v4), (i5, v5), (i6, v6), (i7, v7)] st w P) : ev_E G M d pc L st w P := ev_loc [(i0, v0), (i1, v1), (i2, v2), (i3, v3), (i4, v4), (i5, v5), (i6, v6), (i7, v7)] (List.forall_mem_cons.mpr ⟨ev_mem h0, (List.forall_mem_cons.mpr ⟨ev_mem h1, (List.forall_mem_cons.mpr ⟨ev_mem h2, (List.forall_mem_cons.mpr ⟨ev_mem h3, (List.forall_mem_cons.mpr ⟨ev_mem h4, (List.forall_mem_cons.mpr ⟨ev_mem h5, (List.forall_mem_cons.mpr ⟨ev_mem h6, (List.forall_mem_cons.mpr ⟨ev_mem h7, (fun _ h => absurd h List.not_mem_nil)⟩)⟩)⟩)⟩)⟩)⟩)⟩)⟩) k
theorem c_AC_init (a : Nat) : ev_E G mm_AC_init (d + 1) 0 (lv_args 0 [.ref a]) [] w (ev_ret none w) := by
  refine ev_aload_n dd_AC_init_0 rfl ?_
  refine ev_obji dd_AC_init_1 oi_AC_1 oi_i oi_c (Nat.le_of_ble_eq_true rfl) ?_
  refine ev_vret dd_AC_init_4 rfl ?_
  exact ⟨rfl, rfl⟩
theorem c_AB_init {a : Nat} (ha : ev_b G ≤ a ∧ a < ev_z w) (ht : ev_g w a = 9) : ev_E G mm_AB_init (d + 2) 0 (lv_args 0 [.ref a]) [] w (ev_ret none (ev_set w a 0 (.int 0))) := by
  refine ev_aload_n dd_AB_init_0 rfl ?_
  refine ev_calliR [] dd_AB_init_1 ms_AC_init ii_AB_1 rfl (Nat.le_of_ble_eq_true rfl) (Nat.le_of_ble_eq_true rfl) (c_AC_init a) ?_
  refine ev_aload_n dd_AB_init_4 rfl ?_
  refine ev_ic (v := 0) dd_AB_init_5 (by decide +kernel) ?_
  refine ev_putf dd_AB_init_6 fk_AB_7 ha ht rfl rfl ?_
  refine ev_vret dd_AB_init_9 rfl ?_
  exact ⟨rfl, rfl⟩
theorem c_AL_init {q0 mi a : Nat} (J : ev_J G q0 mi) (ha : ev_b G ≤ a ∧ a < ev_z w) (ht : ev_g w a = 9) : ev_E G mm_AL_init (d + 3) 0 (lv_args 0 [.ref a]) [] w (ev_ret none (ev_set (ev_set w a 0 (.int 0)) a 1 (.ref q0))) := by
  refine ev_aload_n dd_AL_init_0 rfl ?_
  refine ev_calliR [] dd_AL_init_1 ms_AB_init ii_AL_1 rfl (Nat.le_of_ble_eq_true rfl) (Nat.le_of_ble_eq_true rfl) (c_AB_init ha ht) ?_
  refine ev_aload_n dd_AL_init_4 rfl ?_
  refine ev_gets dd_AL_init_5 fl_AL_39 J.1 ?_
  refine ev_putf dd_AL_init_8 fk_AL_9 ha ht rfl rfl ?_
  refine ev_vret dd_AL_init_11 rfl ?_
  exact ⟨rfl, rfl⟩
/-- what happened to a list, without anything made -/
def ev_now (G : ev_gx) (q0 : Nat) (w : ev_wd) (a arr cap : Nat) (ys : List Nat) (w' : ev_wd) : Prop := ev_fr w w' (fun q => q = a ∨ q = arr) ∧ ev_z w' = ev_z w ∧ ev_u w' = ev_u w ∧ ev_li G q0 w' a arr cap ys
theorem c_AL_clear {q0 a arr cap : Nat} {xs : List Nat} (h : ev_li G q0 w a arr cap xs) (hq0 : q0 < ev_b G) : ev_E G mm_AL_clear d 0 (lv_args 0 [.ref a]) [] w (fun r w' => r = .inl none ∧ ev_now G q0 w a arr cap [] w') := by
  have hli := h
  obtain ⟨⟨mc, ha, ht, h0, h1, h2⟩, hlen, hc1, hxs, hcase⟩ := h
  have hne : arr ≠ a := fun e => by
    rcases hcase with ⟨h, -⟩ | ⟨-, h, -⟩
    · omega
    · rw [e, ht] at h; exact absurd h (by decide)
  refine ev_aload_n dd_AL_clear_0 rfl ?_
  refine ev_dup dd_AL_clear_1 rfl ?_
  refine ev_getf dd_AL_clear_2 fr_AL_63 ha ht h0 ?_
  refine ev_ic (v := 1) dd_AL_clear_5 (by decide +kernel) ?_
  refine ev_iadd dd_AL_clear_6 ?_
  refine ev_putf dd_AL_clear_7 fk_AL_63 ha ht rfl rfl ?_
  have e1 : ev_v (ev_set w a 0 (.int (mc + 1))) a 1 = .ref arr := by rw [ev_set_at]; exact h1
  have e2 : ev_v (ev_set w a 0 (.int (mc + 1))) a 2 = .int (Int32.ofNat xs.length) := by rw [ev_set_at]; exact h2
  refine ev_aload_n dd_AL_clear_10 rfl ?_
  refine ev_getf dd_AL_clear_11 fr_AL_9 ha ht e1 ?_
  refine ev_astore_n dd_AL_clear_14 (by decide) ?_
  refine ev_aload_n dd_AL_clear_15 rfl ?_
  refine ev_getf dd_AL_clear_16 fr_AL_48 ha ht e2 ?_
  refine ev_istore_n dd_AL_clear_19 (by decide) ?_
  refine ev_aload_n dd_AL_clear_20 rfl ?_
  refine ev_ic (v := 0) dd_AL_clear_21 (by decide +kernel) ?_
  refine ev_dup_x1 dd_AL_clear_22 rfl rfl ?_
  refine ev_putf dd_AL_clear_23 fk_AL_48 ha ht rfl rfl ?_
  refine ev_istore_n dd_AL_clear_26 (by decide) ?_
  have hW : ev_fr w (ev_set (ev_set w a 0 (.int (mc + 1))) a 2 (.int 0)) (fun q => q = a ∨ q = arr) := (ev_fr.set _ _ _ _ (fun _ => Or.inl rfl)).trans (ev_fr.set _ _ _ _ (fun _ => Or.inl rfl))
  generalize hw1 : ev_set (ev_set w a 0 (.int (mc + 1))) a 2 (.int 0) = w1 at hW
  have f0 : ev_v w1 a 0 = .int (mc + 1) ∧ ev_v w1 a 1 = .ref arr ∧ ev_v w1 a 2 = .int 0 ∧ ev_z w1 = ev_z w ∧ ev_u w1 = ev_u w := by
    rw [← hw1, ev_set_at, ev_set_at]
    exact ⟨rfl, h1, rfl, rfl, rfl⟩
  refine ev_loc4 (i0 := 0) (i1 := 1) (i2 := 2) (i3 := 3) rfl rfl rfl (v3 := .int (Int32.ofNat 0)) rfl ?_
  clear e1 e2 hw1
  have loop : ∀ (m k : Nat) (w2 : ev_wd), k + m = xs.length → ev_fr w w2 (fun q => q = a ∨ q = arr) → ev_v w2 a = ev_v w1 a → ev_z w2 = ev_z w → ev_u w2 = ev_u w →
      ev_E G mm_AL_clear d 27 [(0, .ref a), (1, .ref arr), (2, .int (Int32.ofNat xs.length)), (3, .int (Int32.ofNat k))] [] w2 (fun r w' => r = .inl none ∧ ev_now G q0 w a arr cap [] w') := by
    intro m
    induction m with
    | zero =>
      intro k w2 hk hf hv hz hu
      refine ev_iload_n dd_AL_clear_27 rfl ?_
      refine ev_iload_n dd_AL_clear_28 rfl ?_
      refine ev_icmp_ge dd_AL_clear_29 (fun _ => ?_) (fun h => absurd (nI_le (by omega) (by omega)) h)
      refine ev_vret dd_AL_clear_42 rfl ?_
      refine ⟨rfl, hf, hz, hu, ⟨mc + 1, ⟨ha.1, by omega⟩, (hf.2.2 a ha.2).1.trans ht, ?_, ?_, ?_⟩, Nat.zero_le _, hc1, (fun x hx => by cases hx), ?_⟩
      · rw [hv]; exact f0.1
      · rw [hv]; exact f0.2.1
      · rw [hv]; exact f0.2.2.1
      · rcases hcase with h | ⟨hr, hg, hn, h10, -⟩
        · exact Or.inl h
        · exact Or.inr ⟨⟨hr.1, by omega⟩, (hf.2.2 arr hr.2).1.trans hg, (hf.2.2 arr hr.2).2.1.trans hn, h10, fun i x hx => by cases hx⟩
    | succ m ih =>
      intro k w2 hk hf hv hz hu
      obtain ⟨hr, hg, hn, h10, -⟩ : (ev_b G ≤ arr ∧ arr < ev_z w) ∧ ev_g w arr = 103 ∧ ev_n w arr = cap ∧ 10 ≤ cap ∧ True := by
        rcases hcase with ⟨-, h⟩ | ⟨hr, hg, hn, h10, -⟩
        · omega
        · exact ⟨hr, hg, hn, h10, trivial⟩
      refine ev_iload_n dd_AL_clear_27 rfl ?_
      refine ev_iload_n dd_AL_clear_28 rfl ?_
      refine ev_icmp_ge dd_AL_clear_29 (fun h => absurd h (nI_ge (by omega) (by omega))) (fun _ => ?_)
      refine ev_aload_n dd_AL_clear_32 rfl ?_
      refine ev_iload_n dd_AL_clear_33 rfl ?_
      refine ev_null dd_AL_clear_34 ?_
      refine ev_aastN (t := 3) dd_AL_clear_35 ⟨hr.1, by omega⟩ ((hf.2.2 arr hr.2).1.trans hg) rfl ?_ ?_
      · rw [(hf.2.2 arr hr.2).2.1, hn]
        exact nI_in (by omega) (by omega)
      refine ev_iinc dd_AL_clear_36 rfl (by decide) ?_
      refine ev_goto dd_AL_clear_39 ?_
      refine ev_loc4 (i0 := 0) (i1 := 1) (i2 := 2) (i3 := 3) rfl rfl rfl (v3 := .int (Int32.ofNat (k + 1))) (by rw [show Int32.ofNat (k + 1) = Int32.ofNat k + Int32.ofInt 1 by rw [inc_ofNat]; rfl]; rfl) ?_
      refine ih (k + 1) _ (by omega) (hf.trans (ev_fr.set _ _ _ _ (fun _ => Or.inr rfl))) ?_ hz hu
      rw [ev_set_ne _ _ _ (Ne.symm hne)]
      exact hv
  exact loop xs.length 0 w1 (by omega) hW rfl f0.2.2.2.1 f0.2.2.2.2
end EvO
