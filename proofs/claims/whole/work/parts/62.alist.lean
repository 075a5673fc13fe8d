/-! an array list: what it holds, and its members -/
/-- nothing but the contents of the cells S has changed; cells may be new -/
def ev_fr (w w' : ev_wd) (S : Nat → Prop) : Prop := ev_z w ≤ ev_z w' ∧ ev_u w ≤ ev_u w' ∧ ∀ q : Nat, q < ev_z w → ev_g w' q = ev_g w q ∧ ev_n w' q = ev_n w q ∧ (¬ S q → ev_v w' q = ev_v w q)
theorem ev_fr.refl (w : ev_wd) (S : Nat → Prop) : ev_fr w w S := ⟨Nat.le_refl _, Nat.le_refl _, fun _ _ => ⟨rfl, rfl, fun _ => rfl⟩⟩
theorem ev_fr.trans {w w1 w2 : ev_wd} {S : Nat → Prop} (h : ev_fr w w1 S) (k : ev_fr w1 w2 S) : ev_fr w w2 S :=
  ⟨Nat.le_trans h.1 k.1, Nat.le_trans h.2.1 k.2.1, fun q hq => by
    obtain ⟨a1, a2, a3⟩ := h.2.2 q hq
    obtain ⟨b1, b2, b3⟩ := k.2.2 q (Nat.lt_of_lt_of_le hq h.1)
    exact ⟨b1.trans a1, b2.trans a2, fun hs => (b3 hs).trans (a3 hs)⟩⟩
theorem ev_fr.mono {w w1 : ev_wd} {S S' : Nat → Prop} (h : ev_fr w w1 S) (hS : ∀ q, q < ev_z w → S q → S' q) : ev_fr w w1 S' :=
  ⟨h.1, h.2.1, fun q hq => ⟨(h.2.2 q hq).1, (h.2.2 q hq).2.1, fun hs => (h.2.2 q hq).2.2 fun z => hs (hS q hq z)⟩⟩
theorem ev_fr.set {S : Nat → Prop} (w : ev_wd) (a k : Nat) (x : Value) (ha : a < ev_z w → S a) : ev_fr w (ev_set w a k x) S :=
  ⟨Nat.le_refl _, Nat.le_refl _, fun q hq => ⟨rfl, rfl, fun hs => ev_set_ne w k x (fun e => hs (by subst e; exact ha hq))⟩⟩
theorem ev_fr.add {S : Nat → Prop} (w : ev_wd) (t n : Nat) (f : Nat → Value) (u : Nat) : ev_fr w (ev_add w t n f u) S :=
  ⟨Nat.le_succ _, Nat.le_add_right _ _, fun q hq => by
    obtain ⟨a1, a2, a3⟩ := ev_add_ne w t n f u (Nat.ne_of_lt hq)
    exact ⟨a1, a2, fun _ => a3⟩⟩
theorem ev_fr.cpy {S : Nat → Prop} (w : ev_wd) (src dst sp dp n : Nat) (hd : dst < ev_z w → S dst) : ev_fr w (ev_cpy w src dst sp dp n) S :=
  ⟨Nat.le_refl _, Nat.le_refl _, fun q hq => ⟨rfl, rfl, fun hs => by
    funext j
    have hne : ¬ q = dst := fun e => hs (by subst e; exact hd hq)
    simp [ev_cpy, ev_v, hne]⟩⟩
/-- an array list at a with the array arr of length cap, holding the messages xs -/
def ev_li (G : ev_gx) (q0 : Nat) (w : ev_wd) (a arr cap : Nat) (xs : List Nat) : Prop :=
  (∃ mc, ev_al G w a mc arr (Int32.ofNat xs.length)) ∧ xs.length ≤ cap ∧ cap ≤ 100000 ∧ (∀ x ∈ xs, (ev_b G ≤ x ∧ x < ev_z w) ∧ ev_g w x = 6) ∧
  ((arr = q0 ∧ cap = 0) ∨ ((ev_b G ≤ arr ∧ arr < ev_z w) ∧ ev_g w arr = 103 ∧ ev_n w arr = cap ∧ 10 ≤ cap ∧ ∀ i x, xs[i]? = some x → ev_v w arr i = .ref x))
/-- the array's next length -/
def ev_nx (cap : Nat) : Nat := if cap = 0 then 10 else cap + cap / 2
section EvN
variable {G : ev_gx} {M : ev_mx} {d pc pc' tgt : Nat} {L : List (Nat × Value)} {st : List Value} {w : ev_wd} {P : ev_r → ev_wd → Prop}
theorem ev_shr1 {n : Nat} (h : n < 2 ^ 31) : Int32.ofNat n >>> ((1 : Int32) &&& 31) = Int32.ofNat (n / 2) := by
  have k := pk_shrN (n := n) h ((1 : Int32) &&& 31) 1 (by decide)
  rw [Nat.pow_one] at k
  exact k
theorem ev_sub1 (n : Nat) : Int32.ofNat (n + 1) - Int32.ofNat n = 1 := by
  have e : Int32.ofNat (n + 1) = Int32.ofNat n + 1 := inc_ofNat n
  rw [e, Int32.add_comm]
  exact Int32.add_sub_cancel _ _
/-- grow(int) of a full list -/
theorem c_AL_grow1 {q0 mi a arr cap : Nat} {xs : List Nat} (J : ev_J G q0 mi) (h : ev_li G q0 w a arr cap xs) (hfull : xs.length = cap) (hcap : cap ≤ 60000) (hz : ev_z w + 1 ≤ ev_b G + 601024) (hu : ev_u w + ev_nx cap ≤ 7293034) :
    ev_E G mm_AL_grow1 (d + 3) 0 (lv_args 0 [.ref a, .int (Int32.ofNat (cap + 1))]) [] w (fun r w' => r = .inl (some (.ref (ev_z w))) ∧ ev_fr w w' (fun q => q = a) ∧ ev_z w' = ev_z w + 1 ∧ ev_u w' = ev_u w + ev_nx cap ∧ ev_g w' (ev_z w) = 103 ∧ ev_n w' (ev_z w) = ev_nx cap ∧
      ev_v w' a 0 = ev_v w a 0 ∧ ev_v w' a 1 = .ref (ev_z w) ∧ ev_v w' a 2 = ev_v w a 2 ∧ ∀ i x, xs[i]? = some x → ev_v w' (ev_z w) i = .ref x) := by
  obtain ⟨⟨mc, ha, ht, h0, h1, h2⟩, hlen, hc1, hxs, hcase⟩ := h
  have hza : ev_z w ≠ a := Nat.ne_of_gt ha.2
  refine ev_aload_n dd_AL_grow1_0 rfl ?_
  refine ev_getf dd_AL_grow1_1 fr_AL_9 ha ht h1 ?_
  rcases hcase with ⟨hq, hcap0⟩ | ⟨hr, hg, hn, h10, hel⟩
  · subst hq
    subst hcap0
    obtain ⟨f, hT⟩ := J.2.1
    refine ev_alenO dd_AL_grow1_4 hT ?_
    refine ev_istore_n dd_AL_grow1_5 (by decide) ?_
    refine ev_iload_n dd_AL_grow1_6 rfl ?_
    refine ev_if_gt dd_AL_grow1_7 (fun h => absurd h (by decide)) (fun _ => ?_)
    refine ev_aload_n dd_AL_grow1_10 rfl ?_
    refine ev_getf dd_AL_grow1_11 fr_AL_9 ha ht h1 ?_
    refine ev_gets dd_AL_grow1_14 fl_AL_39 J.1 ?_
    refine ev_acmpR_eq dd_AL_grow1_17 (fun _ => ?_) (fun h => absurd rfl h)
    refine ev_aload_n dd_AL_grow1_45 rfl ?_
    refine ev_bp (v := 10) dd_AL_grow1_46 (by decide +kernel) ?_
    refine ev_iload_n dd_AL_grow1_48 rfl ?_
    refine ev_callsR [.int 10, .int (Int32.ofNat (0 + 1))] dd_AL_grow1_49 ms_MA_max is_AL_79 rfl (Nat.le_of_ble_eq_true rfl) (Nat.le_of_ble_eq_true rfl) (c_MA_max _ _) ?_
    rw [show (if (10 : Int32) < Int32.ofNat (0 + 1) then Int32.ofNat (0 + 1) else 10) = Int32.ofNat 10 by decide]
    refine ev_anewN (t := 3) (m := 10) dd_AL_grow1_52 rfl kl_AL_7 ao_OO (by omega) hz hu ?_
    obtain ⟨b1, b2, b3⟩ := ev_add_at w 103 10 (fun _ => .null) 10
    obtain ⟨a1, a2, a3⟩ := ev_add_ne w 103 10 (fun _ => .null) 10 (Nat.ne_of_lt ha.2)
    refine ev_dup_x1 dd_AL_grow1_55 rfl rfl ?_
    refine ev_putf dd_AL_grow1_56 fk_AL_9 ⟨ha.1, Nat.lt_succ_of_lt ha.2⟩ (a1.trans ht) rfl rfl ?_
    have hxs0 : xs = [] := List.length_eq_zero_iff.mp hfull
    refine ev_aret dd_AL_grow1_59 rfl (Or.inr ⟨_, rfl⟩) (Or.inr ⟨_, rfl⟩) ⟨rfl, (ev_fr.add w 103 10 (fun _ => .null) 10).trans (ev_fr.set _ _ _ _ (fun _ => rfl)), rfl, rfl, b1, b2, ?_, ?_, ?_, ?_⟩
    · rw [ev_set_at, a3]; rfl
    · rw [ev_set_at]; rfl
    · rw [ev_set_at, a3]; rfl
    · intro i x hx
      rw [hxs0] at hx
      cases hx
  · have e2 : ev_nx cap = cap + cap / 2 := by unfold ev_nx; rw [if_neg (by omega)]
    rw [e2] at hu ⊢
    refine ev_alen (t := 3) dd_AL_grow1_4 hr hg rfl hn ?_
    refine ev_istore_n dd_AL_grow1_5 (by decide) ?_
    refine ev_iload_n dd_AL_grow1_6 rfl ?_
    refine ev_if_gt dd_AL_grow1_7 (fun _ => ?_) (fun h => absurd (nI_lt (a := 0) (b := cap) (by omega) (by omega)) h)
    refine ev_iload_n dd_AL_grow1_20 rfl ?_
    refine ev_iload_n dd_AL_grow1_21 rfl ?_
    refine ev_iload_n dd_AL_grow1_22 rfl ?_
    refine ev_isub dd_AL_grow1_23 ?_
    refine ev_iload_n dd_AL_grow1_24 rfl ?_
    refine ev_ic (v := 1) dd_AL_grow1_25 (by decide +kernel) ?_
    refine ev_ishr dd_AL_grow1_26 ?_
    rw [ev_sub1, ev_shr1 (by omega)]
    refine ev_callsR [.int (Int32.ofNat cap), .int 1, .int (Int32.ofNat (cap / 2))] dd_AL_grow1_27 ms_AS_newLength is_AL_73 rfl (Nat.le_of_ble_eq_true rfl) (Nat.le_of_ble_eq_true rfl) (c_AS_newLength _ _ _ (Int32.ofNat (cap + cap / 2)) ?_ ?_ ?_) ?_
    · rw [if_pos (show (1 : Int32) < Int32.ofNat (cap / 2) from nI_lt (a := 1) (by omega) (by omega))]
      exact nI_add cap (cap / 2)
    · exact nI_ge (a := 0) (by omega) (by omega)
    · exact nI_nlt (a := 2147483639) (b := cap + cap / 2) (by omega) (by decide)
    refine ev_istore_n dd_AL_grow1_30 (by decide) ?_
    refine ev_aload_n dd_AL_grow1_31 rfl ?_
    refine ev_aload_n dd_AL_grow1_32 rfl ?_
    refine ev_getf dd_AL_grow1_33 fr_AL_9 ha ht h1 ?_
    refine ev_iload_n dd_AL_grow1_36 rfl ?_
    have hel' : ∀ i, i < cap → ∃ y, ev_v w arr i = .ref y ∧ (ev_b G ≤ y ∧ y < ev_z w) ∧ ev_g w y = 6 := by
      intro i hi
      have hi' : i < xs.length := by omega
      refine ⟨xs[i], hel i _ (List.getElem?_eq_getElem hi'), hxs _ (List.getElem_mem hi')⟩
    refine ev_callsR [.ref arr, .int (Int32.ofNat (cap + cap / 2))] dd_AL_grow1_37 ms_AR_copyOf2 is_AL_66 rfl (Nat.le_of_ble_eq_true rfl) (Nat.le_of_ble_eq_true rfl) (c_AR_copyOf2 (n := cap) (m := cap + cap / 2) J hr hg hn (by omega) (by omega) hel' hz hu) ?_
    obtain ⟨b1, b2, b3⟩ := ev_add_at w 103 (cap + cap / 2) (fun _ => .null) (cap + cap / 2)
    obtain ⟨a1, a2, a3⟩ := ev_add_ne w 103 (cap + cap / 2) (fun _ => .null) (cap + cap / 2) (Nat.ne_of_lt ha.2)
    obtain ⟨r1, r2, r3⟩ := ev_add_ne w 103 (cap + cap / 2) (fun _ => .null) (cap + cap / 2) (Nat.ne_of_lt hr.2)
    refine ev_dup_x1 dd_AL_grow1_40 rfl rfl ?_
    refine ev_putf dd_AL_grow1_41 fk_AL_9 ⟨ha.1, Nat.lt_succ_of_lt ha.2⟩ (a1.trans ht) rfl rfl ?_
    have ca : ev_v (ev_cpy (ev_add w 103 (cap + cap / 2) (fun _ => .null) (cap + cap / 2)) arr (ev_z w) 0 0 cap) a = ev_v w a := by
      rw [← a3]
      funext j
      simp [ev_cpy, ev_v, Ne.symm hza]
    refine ev_aret dd_AL_grow1_44 rfl (Or.inr ⟨_, rfl⟩) (Or.inr ⟨_, rfl⟩) ⟨rfl, (((ev_fr.add (S := fun q => q = a ∨ q = ev_z w) w 103 (cap + cap / 2) (fun _ => .null) (cap + cap / 2)).trans (ev_fr.cpy _ _ _ _ _ _ (fun _ => Or.inr rfl))).trans (ev_fr.set _ _ _ _ (fun _ => Or.inl rfl))).mono (fun q hq h => h.resolve_right (Nat.ne_of_lt hq)), rfl, rfl, b1, b2, ?_, ?_, ?_, ?_⟩
    · rw [ev_set_at, ca]; rfl
    · rw [ev_set_at]; rfl
    · rw [ev_set_at, ca]; rfl
    · intro i x hx
      have hi : i < xs.length := (List.getElem?_eq_some_iff.mp hx).1
      rw [ev_set_ne _ _ _ hza]
      have : ev_v (ev_cpy (ev_add w 103 (cap + cap / 2) (fun _ => .null) (cap + cap / 2)) arr (ev_z w) 0 0 cap) (ev_z w) i = ev_v w arr i := by
        rw [← r3]
        simp [ev_cpy, ev_v, va_cpy]
        intro hh
        omega
      rw [this]
      exact hel i x hx
theorem c_AL_grow0 {q0 mi a arr cap : Nat} {xs : List Nat} (J : ev_J G q0 mi) (h : ev_li G q0 w a arr cap xs) (hfull : xs.length = cap) (hcap : cap ≤ 60000) (hz : ev_z w + 1 ≤ ev_b G + 601024) (hu : ev_u w + ev_nx cap ≤ 7293034) :
    ev_E G mm_AL_grow0 (d + 4) 0 (lv_args 0 [.ref a]) [] w (fun r w' => r = .inl (some (.ref (ev_z w))) ∧ ev_fr w w' (fun q => q = a) ∧ ev_z w' = ev_z w + 1 ∧ ev_u w' = ev_u w + ev_nx cap ∧ ev_g w' (ev_z w) = 103 ∧ ev_n w' (ev_z w) = ev_nx cap ∧
      ev_v w' a 0 = ev_v w a 0 ∧ ev_v w' a 1 = .ref (ev_z w) ∧ ev_v w' a 2 = ev_v w a 2 ∧ ∀ i x, xs[i]? = some x → ev_v w' (ev_z w) i = .ref x) := by
  have hli := h
  obtain ⟨⟨mc, ha, ht, h0, h1, h2⟩, -⟩ := h
  refine ev_aload_n dd_AL_grow0_0 rfl ?_
  refine ev_aload_n dd_AL_grow0_1 rfl ?_
  refine ev_getf dd_AL_grow0_2 fr_AL_48 ha ht h2 ?_
  refine ev_ic (v := 1) dd_AL_grow0_5 (by decide +kernel) ?_
  refine ev_iadd dd_AL_grow0_6 ?_
  rw [show Int32.ofNat xs.length + 1 = Int32.ofNat (cap + 1) by rw [hfull]; exact (inc_ofNat cap).symm]
  refine ev_callv [.int (Int32.ofNat (cap + 1))] dd_AL_grow0_7 ms_AL_grow1 iv_AL_69 ha ht rfl (Nat.le_of_ble_eq_true rfl) (Nat.le_of_ble_eq_true rfl) (c_AL_grow1 J hli hfull hcap hz hu) (fun v w' hp _ _ => ?_) (fun x w' hp _ _ => by obtain ⟨hp, -⟩ := hp; cases hp)
  obtain ⟨hp, hq⟩ := hp
  cases hp
  exact ev_aret dd_AL_grow0_10 rfl (Or.inr ⟨_, rfl⟩) (Or.inr ⟨_, rfl⟩) ⟨rfl, hq⟩
/-- what add does -/
def ev_added (G : ev_gx) (q0 : Nat) (w : ev_wd) (a arr cap : Nat) (xs : List Nat) (x : Nat) (w' : ev_wd) : Prop :=
  ev_fr w w' (fun q => q = a ∨ q = arr) ∧ ((ev_z w' = ev_z w ∧ ev_u w' = ev_u w ∧ xs.length < cap ∧ ev_li G q0 w' a arr cap (xs ++ [x])) ∨ (ev_z w' = ev_z w + 1 ∧ ev_u w' = ev_u w + ev_nx cap ∧ xs.length = cap ∧ ev_li G q0 w' a (ev_z w) (ev_nx cap) (xs ++ [x])))
theorem c_AL_add3 {q0 mi a arr cap x : Nat} {xs : List Nat} (J : ev_J G q0 mi) (h : ev_li G q0 w a arr cap xs) (hcap : cap ≤ 60000) (hx : (ev_b G ≤ x ∧ x < ev_z w) ∧ ev_g w x = 6) (hz : ev_z w + 1 ≤ ev_b G + 601024) (hu : ev_u w + ev_nx cap ≤ 7293034) :
    ev_E G mm_AL_add3 (d + 5) 0 (lv_args 0 [.ref a, .ref x, .ref arr, .int (Int32.ofNat xs.length)]) [] w (fun r w' => r = .inl none ∧ ev_added G q0 w a arr cap xs x w') := by
  generalize hPP : (fun (r : ev_r) (w' : ev_wd) => r = .inl none ∧ ev_added G q0 w a arr cap xs x w') = P
  have hli := h
  obtain ⟨⟨mc, ha, ht, h0, h1, h2⟩, hlen, hc1, hxs, hcase⟩ := h
  have hxa : x ≠ a := fun e => by rw [e, ht] at hx; exact absurd hx.2 (by decide)
  refine ev_iload_n dd_AL_add3_0 rfl ?_
  refine ev_aload_n dd_AL_add3_1 rfl ?_
  have hfin : ∀ (w1 : ev_wd) (arr1 cap1 : Nat), ev_fr w w1 (fun q => q = a) → (ev_b G ≤ arr1 ∧ arr1 < ev_z w1) → ev_g w1 arr1 = 103 → ev_n w1 arr1 = cap1 → 10 ≤ cap1 → cap1 ≤ 100000 → xs.length < cap1 → ev_v w1 a 0 = .int mc → ev_v w1 a 1 = .ref arr1 → (∀ i y, xs[i]? = some y → ev_v w1 arr1 i = .ref y) →
      ev_fr w (ev_set (ev_set w1 arr1 xs.length (.ref x)) a 2 (.int (Int32.ofNat (xs.length + 1)))) (fun q => q = a ∨ q = arr1) ∧ ev_li G q0 (ev_set (ev_set w1 arr1 xs.length (.ref x)) a 2 (.int (Int32.ofNat (xs.length + 1)))) a arr1 cap1 (xs ++ [x]) := by
    intro w1 arr1 cap1 hfr hr1 hg1 hn1 h10 hc100 hlt hv0 hv1 hel1
    have hga : ev_g w1 a = 9 := by rw [(hfr.2.2 a ha.2).1]; exact ht
    have har : arr1 ≠ a := fun e => by rw [e, hga] at hg1; exact absurd hg1 (by decide)
    refine ⟨((hfr.mono (S' := fun q => q = a ∨ q = arr1) (fun q _ h => Or.inl h)).trans (ev_fr.set _ _ _ _ (fun _ => Or.inr rfl))).trans (ev_fr.set _ _ _ _ (fun _ => Or.inl rfl)), ⟨mc, ⟨ha.1, Nat.lt_of_lt_of_le ha.2 hfr.1⟩, hga, ?_, ?_, ?_⟩, ?_, hc100, ?_, Or.inr ⟨hr1, hg1, hn1, h10, ?_⟩⟩
    · rw [ev_set_at, ev_set_ne _ _ _ (Ne.symm har)]; exact hv0
    · rw [ev_set_at, ev_set_ne _ _ _ (Ne.symm har)]; exact hv1
    · rw [ev_set_at, List.length_append]; rfl
    · rw [List.length_append]; exact hlt
    · intro y hy
      rcases List.mem_append.mp hy with hy | hy
      · obtain ⟨y1, y2⟩ := hxs y hy
        exact ⟨⟨y1.1, Nat.lt_of_lt_of_le y1.2 hfr.1⟩, by rw [← y2]; exact (hfr.2.2 y y1.2).1⟩
      · rw [List.mem_singleton.mp hy]
        exact ⟨⟨hx.1.1, Nat.lt_of_lt_of_le hx.1.2 hfr.1⟩, by rw [← hx.2]; exact (hfr.2.2 x hx.1.2).1⟩
    · intro i y hy
      rw [ev_set_ne _ _ _ har, ev_set_at]
      by_cases hi : i = xs.length
      · subst hi
        rw [List.getElem?_append_right (Nat.le_refl _), Nat.sub_self] at hy
        cases hy
        simp [updV]
      · have hi2 : i < xs.length := by
          have := (List.getElem?_eq_some_iff.mp hy).1
          rw [List.length_append] at this
          simp only [List.length_cons, List.length_nil] at this
          omega
        rw [List.getElem?_append_left hi2] at hy
        simp only [updV, if_neg hi]
        exact hel1 i y hy
  have e1 := ev_cl xs.length (by omega)
  have tail : ∀ (w1 : ev_wd) (arr1 cap1 : Nat) (L1 : List (Nat × Value)), L1.lookup 0 = some (.ref a) → L1.lookup 1 = some (.ref x) → L1.lookup 2 = some (.ref arr1) → L1.lookup 3 = some (.int (Int32.ofNat xs.length)) → ev_fr w w1 (fun q => q = a) → (ev_b G ≤ arr1 ∧ arr1 < ev_z w1) → ev_g w1 arr1 = 103 → ev_n w1 arr1 = cap1 → cap1 ≤ 100000 → xs.length < cap1 →
      P (.inl none) (ev_set (ev_set w1 arr1 xs.length (.ref x)) a 2 (.int (Int32.ofNat (xs.length + 1)))) → ev_E G mm_AL_add3 (d + 5) 11 L1 [] w1 P := by
    intro w1 arr1 cap1 L1 l0 l1 l2 l3 hfr hr1 hg1 hn1 hc100 hlt hP
    refine ev_aload_n dd_AL_add3_11 l2 ?_
    refine ev_iload_n dd_AL_add3_12 l3 ?_
    refine ev_aload_n dd_AL_add3_13 l1 ?_
    refine ev_aast (t := 3) dd_AL_add3_14 hr1 hg1 rfl ?_ ⟨hx.1.1, Nat.lt_of_lt_of_le hx.1.2 hfr.1⟩ ((hfr.2.2 x hx.1.2).1.trans hx.2) rfl (Or.inr ca_G_OO) ?_
    · rw [hn1]
      exact nI_in hlt (by omega)
    · rw [e1]
      refine ev_aload_n dd_AL_add3_15 l0 ?_
      refine ev_iload_n dd_AL_add3_16 l3 ?_
      refine ev_ic (v := 1) dd_AL_add3_17 (by decide +kernel) ?_
      refine ev_iadd dd_AL_add3_18 ?_
      rw [show Int32.ofNat xs.length + 1 = Int32.ofNat (xs.length + 1) from (inc_ofNat _).symm]
      refine ev_putf dd_AL_add3_19 fk_AL_48 ⟨ha.1, Nat.lt_of_lt_of_le ha.2 hfr.1⟩ ((hfr.2.2 a ha.2).1.trans ht) rfl rfl ?_
      exact ev_vret dd_AL_add3_22 rfl hP
  have grown : ∀ (hn0 : xs.length = cap), ev_E G mm_AL_add3 (d + 5) 6 (lv_args 0 [.ref a, .ref x, .ref arr, .int (Int32.ofNat xs.length)]) [] w P := by
    intro hn0
    have hnx : 10 ≤ ev_nx cap ∧ ev_nx cap ≤ 100000 ∧ cap < ev_nx cap := by
      unfold ev_nx
      rcases hcase with ⟨-, h⟩ | ⟨-, -, -, h, -⟩
      · rw [if_pos h]; omega
      · rw [if_neg (by omega)]; omega
    refine ev_aload_n dd_AL_add3_6 rfl ?_
    refine ev_callv [] dd_AL_add3_7 ms_AL_grow0 iv_AL_129 ha ht rfl (Nat.le_of_ble_eq_true rfl) (Nat.le_of_ble_eq_true rfl) (c_AL_grow0 J hli hn0 hcap hz hu) (fun v w1 hp _ _ => ?_) (fun x w' hp _ _ => by obtain ⟨hp, -⟩ := hp; cases hp)
    obtain ⟨hp, hfr, hz1, hu1, hg1, hn1, hv0, hv1, hv2, hel1⟩ := hp
    cases hp
    refine ev_astore_n dd_AL_add3_10 (by decide) ?_
    have hb : ev_b G ≤ ev_z w := Nat.le_trans ha.1 (Nat.le_of_lt ha.2)
    have hlt : xs.length < ev_nx cap := by omega
    obtain ⟨f1, f2⟩ := hfin w1 (ev_z w) (ev_nx cap) hfr ⟨hb, by omega⟩ hg1 hn1 hnx.1 hnx.2.1 hlt (hv0.trans h0) hv1 hel1
    refine tail w1 (ev_z w) (ev_nx cap) _ rfl rfl rfl rfl hfr ⟨hb, by omega⟩ hg1 hn1 hnx.2.1 hlt ?_
    rw [← hPP]
    exact ⟨rfl, f1.mono (fun q hq h => Or.inl (h.resolve_right (Nat.ne_of_lt hq))), Or.inr ⟨hz1, hu1, hn0, f2⟩⟩
  rcases hcase with ⟨hq, hcap0⟩ | ⟨hr, hg, hn, h10, hel⟩
  · subst hq
    obtain ⟨f, hT⟩ := J.2.1
    refine ev_alenO dd_AL_add3_2 hT ?_
    have hn0 : xs.length = cap := by omega
    refine ev_icmp_ne dd_AL_add3_3 (fun h => absurd (by rw [hn0, hcap0]; rfl) h) (fun _ => grown hn0)
  · refine ev_alen (t := 3) dd_AL_add3_2 hr hg rfl hn ?_
    refine ev_icmp_ne dd_AL_add3_3 (fun h => ?_) (fun h => grown ((nI_eq (by omega) (by omega)).mp h))
    have hlt : xs.length < cap := by
      have : xs.length ≠ cap := fun e => h (by rw [e])
      omega
    obtain ⟨f1, f2⟩ := hfin w arr cap (ev_fr.refl _ _) hr hg hn h10 hc1 hlt h0 h1 hel
    refine tail w arr cap _ rfl rfl rfl rfl (ev_fr.refl _ _) hr hg hn hc1 hlt ?_
    rw [← hPP]
    exact ⟨rfl, f1, Or.inl ⟨rfl, rfl, hlt, f2⟩⟩
theorem ev_li.fr {q0 a arr cap : Nat} {xs : List Nat} {w' : ev_wd} (h : ev_li G q0 w a arr cap xs) (hf : ev_fr w w' (fun q => q = a)) (hv1 : ev_v w' a 1 = ev_v w a 1) (hv2 : ev_v w' a 2 = ev_v w a 2) (hv0 : ∃ mc, ev_v w' a 0 = .int mc) : ev_li G q0 w' a arr cap xs := by
  obtain ⟨⟨mc, ha, ht, h0, h1, h2⟩, hlen, hc1, hxs, hcase⟩ := h
  obtain ⟨mc', hmc⟩ := hv0
  refine ⟨⟨mc', ⟨ha.1, Nat.lt_of_lt_of_le ha.2 hf.1⟩, (hf.2.2 a ha.2).1.trans ht, hmc, hv1.trans h1, hv2.trans h2⟩, hlen, hc1, fun x hx => ?_, ?_⟩
  · obtain ⟨x1, x2⟩ := hxs x hx
    exact ⟨⟨x1.1, Nat.lt_of_lt_of_le x1.2 hf.1⟩, (hf.2.2 x x1.2).1.trans x2⟩
  · rcases hcase with h | ⟨hr, hg, hn, h10, hel⟩
    · exact Or.inl h
    · have hne : ¬ arr = a := fun e => by rw [e, ht] at hg; exact absurd hg (by decide)
      refine Or.inr ⟨⟨hr.1, Nat.lt_of_lt_of_le hr.2 hf.1⟩, (hf.2.2 arr hr.2).1.trans hg, (hf.2.2 arr hr.2).2.1.trans hn, h10, fun i x hx => ?_⟩
      rw [(hf.2.2 arr hr.2).2.2 hne]
      exact hel i x hx
theorem c_AL_add1 {q0 mi a arr cap x : Nat} {xs : List Nat} (J : ev_J G q0 mi) (h : ev_li G q0 w a arr cap xs) (hcap : cap ≤ 60000) (hx : (ev_b G ≤ x ∧ x < ev_z w) ∧ ev_g w x = 6) (hz : ev_z w + 1 ≤ ev_b G + 601024) (hu : ev_u w + ev_nx cap ≤ 7293034) :
    ev_E G mm_AL_add1 (d + 6) 0 (lv_args 0 [.ref a, .ref x]) [] w (fun r w' => r = .inl (some (.int 1)) ∧ ev_added G q0 w a arr cap xs x w') := by
  have hli := h
  obtain ⟨⟨mc, ha, ht, h0, h1, h2⟩, -⟩ := h
  refine ev_aload_n dd_AL_add1_0 rfl ?_
  refine ev_dup dd_AL_add1_1 rfl ?_
  refine ev_getf dd_AL_add1_2 fr_AL_63 ha ht h0 ?_
  refine ev_ic (v := 1) dd_AL_add1_5 (by decide +kernel) ?_
  refine ev_iadd dd_AL_add1_6 ?_
  refine ev_putf dd_AL_add1_7 fk_AL_63 ha ht rfl rfl ?_
  have hf : ev_fr w (ev_set w a 0 (.int (mc + 1))) (fun q => q = a) := ev_fr.set _ _ _ _ (fun _ => rfl)
  have e1 : ev_v (ev_set w a 0 (.int (mc + 1))) a 1 = .ref arr := by rw [ev_set_at]; exact h1
  have e2 : ev_v (ev_set w a 0 (.int (mc + 1))) a 2 = .int (Int32.ofNat xs.length) := by rw [ev_set_at]; exact h2
  have hli2 : ev_li G q0 (ev_set w a 0 (.int (mc + 1))) a arr cap xs := hli.fr hf (e1.trans h1.symm) (e2.trans h2.symm) ⟨mc + 1, by rw [ev_set_at]; rfl⟩
  refine ev_aload_n dd_AL_add1_10 rfl ?_
  refine ev_aload_n dd_AL_add1_11 rfl ?_
  refine ev_aload_n dd_AL_add1_12 rfl ?_
  refine ev_getf dd_AL_add1_13 fr_AL_9 ha ht e1 ?_
  refine ev_aload_n dd_AL_add1_16 rfl ?_
  refine ev_getf dd_AL_add1_17 fr_AL_48 ha ht e2 ?_
  refine ev_callv [.ref x, .ref arr, .int (Int32.ofNat xs.length)] dd_AL_add1_20 ms_AL_add3 iv_AL_131 ha ht rfl (Nat.le_of_ble_eq_true rfl) (Nat.le_of_ble_eq_true rfl) (c_AL_add3 J hli2 hcap hx hz hu) (fun v w' hp _ _ => ?_) (fun x w' hp _ _ => by obtain ⟨hp, -⟩ := hp; cases hp)
  obtain ⟨hp, hq1, hq2⟩ := hp
  cases hp
  refine ev_ic (v := 1) dd_AL_add1_23 (by decide +kernel) ?_
  refine ev_iret dd_AL_add1_24 rfl rfl ⟨rfl, (hf.mono (fun q _ h => Or.inl h)).trans hq1, hq2⟩
end EvN
