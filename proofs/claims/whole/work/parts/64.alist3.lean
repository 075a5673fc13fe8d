/-! an element is taken out of an array list -/
section EvQ
variable {G : ev_gx} {M : ev_mx} {d pc pc' tgt : Nat} {L : List (Nat × Value)} {st : List Value} {w : ev_wd} {P : ev_r → ev_wd → Prop}
theorem c_AL_fastRemove {q0 a arr cap j : Nat} {xs : List Nat} (h : ev_li G q0 w a arr cap xs) (hj : j < xs.length) : ev_E G mm_AL_fastRemove (d + 1) 0 (lv_args 0 [.ref a, .ref arr, .int (Int32.ofNat j)]) [] w (fun r w' => r = .inl none ∧ ev_now G q0 w a arr cap (xs.eraseIdx j) w') := by
  have hli := h
  obtain ⟨⟨mc, ha, ht, h0, h1, h2⟩, hlen, hc1, hxs, hcase⟩ := h
  obtain ⟨hr, hg, hn, h10, hel⟩ : (ev_b G ≤ arr ∧ arr < ev_z w) ∧ ev_g w arr = 103 ∧ ev_n w arr = cap ∧ 10 ≤ cap ∧ ∀ i x, xs[i]? = some x → ev_v w arr i = .ref x := by
    rcases hcase with ⟨-, h⟩ | h
    · omega
    · exact h
  have hne : arr ≠ a := fun e => by rw [e, ht] at hg; exact absurd hg (by decide)
  refine ev_aload_n dd_AL_fastRemove_0 rfl ?_
  refine ev_dup dd_AL_fastRemove_1 rfl ?_
  refine ev_getf dd_AL_fastRemove_2 fr_AL_63 ha ht h0 ?_
  refine ev_ic (v := 1) dd_AL_fastRemove_5 (by decide +kernel) ?_
  refine ev_iadd dd_AL_fastRemove_6 ?_
  refine ev_putf dd_AL_fastRemove_7 fk_AL_63 ha ht rfl rfl ?_
  have e1 : ev_v (ev_set w a 0 (.int (mc + 1))) a 1 = .ref arr := by rw [ev_set_at]; exact h1
  have e2 : ev_v (ev_set w a 0 (.int (mc + 1))) a 2 = .int (Int32.ofNat xs.length) := by rw [ev_set_at]; exact h2
  have e3 : ev_v (ev_set w a 0 (.int (mc + 1))) arr = ev_v w arr := ev_set_ne _ _ _ hne
  have hf0 : ev_fr w (ev_set w a 0 (.int (mc + 1))) (fun q => q = a ∨ q = arr) := ev_fr.set _ _ _ _ (fun _ => Or.inl rfl)
  have e0 : ev_v (ev_set w a 0 (.int (mc + 1))) a 0 = .int (mc + 1) := by rw [ev_set_at]; rfl
  refine ev_aload_n dd_AL_fastRemove_10 rfl ?_
  refine ev_getf dd_AL_fastRemove_11 fr_AL_48 ha ht e2 ?_
  refine ev_ic (v := 1) dd_AL_fastRemove_14 (by decide +kernel) ?_
  refine ev_isub dd_AL_fastRemove_15 ?_
  rw [show Int32.ofNat xs.length - 1 = Int32.ofNat (xs.length - 1) from pk_sub (a := xs.length) (b := 1) (by omega)]
  refine ev_dup dd_AL_fastRemove_16 rfl ?_
  refine ev_istore_n dd_AL_fastRemove_17 (by decide) ?_
  refine ev_iload_n dd_AL_fastRemove_18 rfl ?_
  have hz0 : ev_z (ev_set w a 0 (.int (mc + 1))) = ev_z w := rfl
  have hu0 : ev_u (ev_set w a 0 (.int (mc + 1))) = ev_u w := rfl
  generalize ev_set w a 0 (.int (mc + 1)) = w1 at e0 e1 e2 e3 hf0 hz0 hu0 ⊢
  have tail : ∀ (w2 : ev_wd) (L1 : List (Nat × Value)), L1.lookup 0 = some (.ref a) → L1.lookup 1 = some (.ref arr) → L1.lookup 3 = some (.int (Int32.ofNat (xs.length - 1))) → ev_fr w w2 (fun q => q = a ∨ q = arr) → ev_z w2 = ev_z w → ev_u w2 = ev_u w → ev_v w2 a = ev_v w1 a → (∀ i x, (xs.eraseIdx j)[i]? = some x → ev_v w2 arr i = .ref x) →
      ev_E G mm_AL_fastRemove (d + 1) 34 L1 [] w2 (fun r w' => r = .inl none ∧ ev_now G q0 w a arr cap (xs.eraseIdx j) w') := by
    intro w2 L1 l0 l1 l3 hf hz hu hv hel2
    refine ev_aload_n dd_AL_fastRemove_34 l1 ?_
    refine ev_aload_n dd_AL_fastRemove_35 l0 ?_
    refine ev_iload_n dd_AL_fastRemove_36 l3 ?_
    refine ev_dup_x1 dd_AL_fastRemove_37 rfl rfl ?_
    refine ev_putf dd_AL_fastRemove_38 fk_AL_48 ⟨ha.1, by omega⟩ ((hf.2.2 a ha.2).1.trans ht) rfl rfl ?_
    refine ev_null dd_AL_fastRemove_41 ?_
    refine ev_aastN (t := 3) dd_AL_fastRemove_42 ⟨hr.1, by show arr < ev_z w2; omega⟩ ((hf.2.2 arr hr.2).1.trans hg) rfl ?_ ?_
    · show vp_in _ (ev_n w2 arr)
      rw [(hf.2.2 arr hr.2).2.1, hn]
      exact nI_in (by omega) (by omega)
    rw [ev_cl (xs.length - 1) (by omega)]
    refine ev_vret dd_AL_fastRemove_43 rfl ⟨rfl, (hf.trans (ev_fr.set _ _ _ _ (fun _ => Or.inl rfl))).trans (ev_fr.set _ _ _ _ (fun _ => Or.inr rfl)), hz, hu, ⟨mc + 1, ⟨ha.1, by show a < ev_z w2; omega⟩, (hf.2.2 a ha.2).1.trans ht, ?_, ?_, ?_⟩, ?_, hc1, ?_, Or.inr ⟨⟨hr.1, by show arr < ev_z w2; omega⟩, (hf.2.2 arr hr.2).1.trans hg, (hf.2.2 arr hr.2).2.1.trans hn, h10, ?_⟩⟩
    · rw [ev_set_ne _ _ _ (Ne.symm hne), ev_set_at, hv]; exact e0
    · rw [ev_set_ne _ _ _ (Ne.symm hne), ev_set_at, hv]; exact e1
    · rw [ev_set_ne _ _ _ (Ne.symm hne), ev_set_at, List.length_eraseIdx, if_pos hj]; rfl
    · rw [List.length_eraseIdx, if_pos hj]; omega
    · intro x hx
      obtain ⟨x1, x2⟩ := hxs x (List.mem_of_mem_eraseIdx hx)
      exact ⟨⟨x1.1, by show x < ev_z w2; omega⟩, (hf.2.2 x x1.2).1.trans x2⟩
    · intro i x hx
      have hi : i < xs.length - 1 := by
        have := (List.getElem?_eq_some_iff.mp hx).1
        rw [List.length_eraseIdx, if_pos hj] at this
        exact this
      rw [ev_set_at, ev_set_ne _ _ _ hne]
      simp only [updV]
      rw [if_neg (by omega)]
      exact hel2 i x hx
  refine ev_icmp_le dd_AL_fastRemove_19 (fun hle => ?_) (fun hle => ?_)
  · have hle' : xs.length - 1 ≤ j := (nI_leI (by omega) (by omega)).mp hle
    refine tail w1 _ rfl rfl rfl hf0 hz0 hu0 rfl (fun i x hx => ?_)
    have hi : i < xs.length - 1 := by
      have := (List.getElem?_eq_some_iff.mp hx).1
      rw [List.length_eraseIdx, if_pos hj] at this
      exact this
    rw [List.getElem?_eraseIdx, if_pos (by omega)] at hx
    rw [e3]
    exact hel i x hx
  · have hlt : j < xs.length - 1 := by
      have : ¬ xs.length - 1 ≤ j := fun q => hle ((nI_leI (by omega) (by omega)).mpr q)
      omega
    refine ev_aload_n dd_AL_fastRemove_22 rfl ?_
    refine ev_iload_n dd_AL_fastRemove_23 rfl ?_
    refine ev_ic (v := 1) dd_AL_fastRemove_24 (by decide +kernel) ?_
    refine ev_iadd dd_AL_fastRemove_25 ?_
    rw [show Int32.ofNat j + 1 = Int32.ofNat (j + 1) from (inc_ofNat j).symm]
    refine ev_aload_n dd_AL_fastRemove_26 rfl ?_
    refine ev_iload_n dd_AL_fastRemove_27 rfl ?_
    refine ev_iload_n dd_AL_fastRemove_28 rfl ?_
    refine ev_iload_n dd_AL_fastRemove_29 rfl ?_
    refine ev_isub dd_AL_fastRemove_30 ?_
    rw [show Int32.ofNat (xs.length - 1) - Int32.ofNat j = Int32.ofNat (xs.length - 1 - j) from pk_sub (by omega)]
    have c1 := ev_cl (j + 1) (by omega)
    have c2 := ev_cl j (by omega)
    have c3 := ev_cl (xs.length - 1 - j) (by omega)
    have har : ev_b G ≤ arr ∧ arr < ev_z w1 := ⟨hr.1, by omega⟩
    have hg1 := (hf0.2.2 arr hr.2).1.trans hg
    have hn1 := (hf0.2.2 arr hr.2).2.1.trans hn
    refine ev_copy (t := 3) dd_AL_fastRemove_31 ml_AL_112 nt_ac sc_ac in_SY har har hg1 hg1 rfl (ev_on _ (by omega)) (ev_on _ (by omega)) (ev_on _ (by omega)) (by rw [c1, c3, hn1]; omega) (by rw [c2, c3, hn1]; omega) (Or.inr ⟨_, rfl, fun i hi => Or.inr ?_⟩) (Nat.le_of_ble_eq_true rfl) ?_
    · rw [c3] at hi
      rw [c1, e3]
      have hi2 : j + 1 + i < xs.length := by omega
      obtain ⟨y2, y3⟩ := hxs _ (List.getElem_mem hi2)
      exact ⟨xs[j + 1 + i], 6, ("ThreeLinkPair$Message", nm_T6, 4), hel _ _ (List.getElem?_eq_getElem hi2), ⟨y2.1, by omega⟩, (hf0.2.2 _ y2.2).1.trans y3, rfl, ca_G_OO⟩
    · rw [c1, c2, c3]
      refine tail _ _ rfl rfl rfl (hf0.trans (ev_fr.cpy _ _ _ _ _ _ (fun _ => Or.inr rfl))) hz0 hu0 ?_ (fun i x hx => ?_)
      · funext k
        simp [ev_cpy, ev_v, Ne.symm hne]
      · have hi : i < xs.length - 1 := by
          have := (List.getElem?_eq_some_iff.mp hx).1
          rw [List.length_eraseIdx, if_pos hj] at this
          exact this
        have hv : ev_v (ev_cpy w1 arr arr (j + 1) j (xs.length - 1 - j)) arr i = va_cpy (ev_v w1 arr) (ev_v w1 arr) (j + 1) j (xs.length - 1 - j) i := by simp [ev_cpy, ev_v]
        rw [hv, e3]
        rw [List.getElem?_eraseIdx] at hx
        unfold va_cpy
        by_cases hij : i < j
        · rw [if_pos hij] at hx
          rw [if_neg (by omega)]
          exact hel i x hx
        · rw [if_neg hij] at hx
          rw [if_pos (by omega), show j + 1 + (i - j) = i + 1 by omega]
          exact hel (i + 1) x hx
theorem c_AL_remove {q0 a arr cap j x : Nat} {xs : List Nat} (h : ev_li G q0 w a arr cap xs) (hj : xs[j]? = some x) : ev_E G mm_AL_remove (d + 2) 0 (lv_args 0 [.ref a, .int (Int32.ofNat j)]) [] w (fun r w' => r = .inl (some (.ref x)) ∧ ev_now G q0 w a arr cap (xs.eraseIdx j) w') := by
  have hli := h
  have hjl : j < xs.length := (List.getElem?_eq_some_iff.mp hj).1
  obtain ⟨⟨mc, ha, ht, h0, h1, h2⟩, hlen, hc1, hxs, hcase⟩ := h
  obtain ⟨hr, hg, hn, h10, hel⟩ : (ev_b G ≤ arr ∧ arr < ev_z w) ∧ ev_g w arr = 103 ∧ ev_n w arr = cap ∧ 10 ≤ cap ∧ ∀ i x, xs[i]? = some x → ev_v w arr i = .ref x := by
    rcases hcase with ⟨-, h⟩ | h
    · omega
    · exact h
  refine ev_iload_n dd_AL_remove_0 rfl ?_
  refine ev_aload_n dd_AL_remove_1 rfl ?_
  refine ev_getf dd_AL_remove_2 fr_AL_48 ha ht h2 ?_
  refine ev_callsR [.int (Int32.ofNat j), .int (Int32.ofNat xs.length)] dd_AL_remove_5 ms_OB_checkIndex is_AL_118 rfl (Nat.le_of_ble_eq_true rfl) (Nat.le_of_ble_eq_true rfl) (c_OB_checkIndex _ _ (ev_on _ (by omega)) (nI_lt hjl (by omega))) ?_
  refine ev_pop dd_AL_remove_8 rfl ?_
  refine ev_aload_n dd_AL_remove_9 rfl ?_
  refine ev_getf dd_AL_remove_10 fr_AL_9 ha ht h1 ?_
  refine ev_astore_n dd_AL_remove_13 (by decide) ?_
  refine ev_aload_n dd_AL_remove_14 rfl ?_
  refine ev_iload_n dd_AL_remove_15 rfl ?_
  refine ev_aald (t := 3) dd_AL_remove_16 hr hg rfl (by rw [hn]; exact nI_in (by omega) (by omega)) (v := .ref x) (by rw [ev_cl j (by omega)]; exact hel j x hj) ?_
  refine ev_astore_n dd_AL_remove_17 (by decide) ?_
  refine ev_aload_n dd_AL_remove_18 rfl ?_
  refine ev_aload_n dd_AL_remove_19 rfl ?_
  refine ev_iload_n dd_AL_remove_20 rfl ?_
  refine ev_callv [.ref arr, .int (Int32.ofNat j)] dd_AL_remove_21 ms_AL_fastRemove iv_AL_144 ha ht rfl (Nat.le_of_ble_eq_true rfl) (Nat.le_of_ble_eq_true rfl) (c_AL_fastRemove hli hjl) (fun v w' hp _ _ => ?_) (fun x w' hp _ _ => by obtain ⟨hp, -⟩ := hp; cases hp)
  obtain ⟨hp, hq⟩ := hp
  cases hp
  refine ev_aload_n dd_AL_remove_24 rfl ?_
  exact ev_aret dd_AL_remove_25 rfl (Or.inl ⟨_, rfl⟩) (Or.inr ⟨_, rfl⟩) ⟨rfl, hq⟩
end EvQ
