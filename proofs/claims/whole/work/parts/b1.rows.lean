/-! the reference's rows: a message is put behind, taken from before, made, given back -/
section RfP
variable {G : ev_gx} {M : ev_mx} {d pc pc' tgt : Nat} {L : List (Nat × Value)} {st : List Value} {w w1 F : ev_wd} {P : ev_r → ev_wd → Prop} {A : rf_A} {D : rf_C} {H : Option (Nat × rf_m)} {Q : Nat → rf_m → Prop}
theorem rf_val_eq {A B : rf_A} {x : Nat} (h : ∀ k, 1 ≤ k → k ≤ 5 → B k x = A k x) : rf_val B x = rf_val A x := by
  unfold rf_val
  rw [h 1 (by omega) (by omega), h 2 (by omega) (by omega), h 3 (by omega) (by omega), h 4 (by omega) (by omega), h 5 (by omega) (by omega)]
theorem rf_map_eq {A B : rf_A} {xs : List Nat} (h : ∀ x ∈ xs, ∀ k, 1 ≤ k → k ≤ 5 → B k x = A k x) : xs.map (rf_val B) = xs.map (rf_val A) := List.map_congr_left (fun x hx => rf_val_eq (h x hx))
def rf_xu (xs : Nat → List Nat) (r : Nat) (ys : List Nat) : Nat → List Nat := fun q => if q = r then ys else xs q
theorem rf_xu_len (xs : Nat → List Nat) {r : Nat} (ys : List Nat) (hr : r < 22) : cr_su (fun q => (rf_xu xs r ys q).length) 22 + (xs r).length = cr_su (fun q => (xs q).length) 22 + ys.length := by
  have e : (fun q => (rf_xu xs r ys q).length) = cr_a (fun q => (xs q).length) r ys.length := by
    funext q
    unfold cr_a rf_xu
    split <;> rfl
  rw [e]
  exact cr_su_up (fun q => (xs q).length) r ys.length 22 hr
/-- a message in hand is put behind a row -/
theorem k_D_put {r m : Nat} {μ : rf_m} (hr : r < 22) (h : rf_K G w D (some (m, μ)) F Q) : ev_E G mm_D_put d 0 (lv_args 0 [.ref (ev_b G + 77), .int (Int32.ofNat r), .int (Int32.ofNat m)]) [] w (fun t w' => t = .inl none ∧ rf_K G w' (rf_sX D r (D.2 r ++ [μ])) none F Q) := by
  obtain ⟨A, xs, own, fs, mk, hM, ⟨⟨l1, l2, l3⟩, ⟨f1, f2, f3⟩, hX, hH⟩, hI, hD, hV, hQ⟩ := h
  obtain ⟨x1, x2, x3, x4, x5⟩ := hX r hr
  obtain ⟨m1, m2⟩ := hH m rfl
  have hm6 : m < rf_n 6 := show m < 2400 by omega
  have hmx : ∀ q, q < 22 → m ∉ xs q := fun q hq hin => by have := ((hX q hq).2.2.2.2 m hin).2; omega
  have hmf : m ∉ fs := fun hin => by have := (f3 m hin).2; omega
  have tail : ∀ (A2 : rf_A) (w2 : ev_wd), rf_M G w2 A2 F → (∀ k j, k ≠ 6 → ¬ (k = 9 ∧ j = r) → A2 k j = A k j) → rf_ch (A2 6) (A2 9 r) (xs r ++ [m]) → (∀ q, q < 22 → q ≠ r → ∀ x ∈ xs q, A2 6 x = A 6 x) → (∀ x ∈ fs, A2 6 x = A 6 x) →
      ev_E G mm_D_put d 38 [(0, .ref (ev_b G + 77)), (1, .int (Int32.ofNat r)), (2, .int (Int32.ofNat m))] [] w2 (fun t w' => t = .inl none ∧ rf_K G w' (rf_sX D r (D.2 r ++ [μ])) none F Q) := by
    intro A2 w2 h2 t1 t2 t3 t4
    refine ev_aload_n dd_D_put_38 rfl ?_
    refine M_gA (k := 10) dd_D_put_39 fr_D_35 h2 rfl ?_
    refine ev_iload_n dd_D_put_42 rfl ?_
    refine ev_iload_n dd_D_put_43 rfl ?_
    refine M_st (k := 10) dd_D_put_44 h2 rfl rfl hr (fun w3 h3 => ?_)
    refine ev_aload_n dd_D_put_45 rfl ?_
    refine M_gA (k := 11) dd_D_put_46 fr_D_38 h3 rfl ?_
    refine ev_iload_n dd_D_put_49 rfl ?_
    refine ev_dup2 dd_D_put_50 rfl rfl ?_
    refine M_ld (k := 11) dd_D_put_51 h3 rfl rfl hr ?_
    rw [rf_u_ne _ _ (by omega), t1 11 r (by omega) (by omega), x3]
    refine ev_ic (v := 1) dd_D_put_52 (by decide +kernel) ?_
    refine ev_iadd dd_D_put_53 ?_
    refine M_st (k := 11) dd_D_put_54 h3 rfl rfl hr (fun w4 h4 => ?_)
    refine ev_vret dd_D_put_55 rfl ?_
    rw [show Int32.ofNat (xs r).length + 1 = Int32.ofNat ((xs r).length + 1) from nI_1 _] at h4
    have eA : ∀ k j, k ≠ 6 → ¬ (k = 9 ∧ j = r) → ¬ (k = 10 ∧ j = r) → ¬ (k = 11 ∧ j = r) → rf_u (rf_u A2 10 r (Int32.ofNat m)) 11 r (Int32.ofNat ((xs r).length + 1)) k j = A k j := fun k j a1 a2 a3 a4 => by rw [rf_u_ne _ _ a4, rf_u_ne _ _ a3, t1 k j a1 a2]
    have e6 : rf_u (rf_u A2 10 r (Int32.ofNat m)) 11 r (Int32.ofNat ((xs r).length + 1)) 6 = A2 6 := by rw [rf_u_k _ _ (by omega), rf_u_k _ _ (by omega)]
    have e9 : rf_u (rf_u A2 10 r (Int32.ofNat m)) 11 r (Int32.ofNat ((xs r).length + 1)) 9 = A2 9 := by rw [rf_u_k _ _ (by omega), rf_u_k _ _ (by omega)]
    have hval : ∀ x, rf_val (rf_u (rf_u A2 10 r (Int32.ofNat m)) 11 r (Int32.ofNat ((xs r).length + 1))) x = rf_val A x := fun x => rf_val_eq (fun k a b => eA k x (by omega) (by omega) (by omega) (by omega))
    refine ⟨rfl, _, rf_xu xs r (xs r ++ [m]), fun x => if x = m then r else own x, fs, mk, h4, ⟨⟨?_, l2, ?_⟩, ⟨?_, f2, fun x hx => ⟨(f3 x hx).1, ?_⟩⟩, fun q hq => ?_, fun x hx => by cases hx⟩, fun k j hk => ?_, fun q hq => ?_, (fun x ν hx => by cases hx), fun x ν hx => ⟨(hQ x ν hx).1, (hval x).trans (hQ x ν hx).2⟩⟩
    · rw [eA 8 0 (by omega) (by omega) (by omega) (by omega)]; exact l1
    · have := rf_xu_len xs (xs r ++ [m]) hr
      rw [List.length_append, List.length_singleton] at this
      have e1 : rf_1 (Option.map Prod.fst (some (m, μ))) = 1 := rfl
      have e0 : rf_1 (Option.map Prod.fst (none : Option (Nat × rf_m))) = 0 := rfl
      rw [e1] at l3
      rw [e0]
      omega
    · rw [e6, eA 7 0 (by omega) (by omega) (by omega) (by omega)]
      exact rf_ch_congr t4 f1
    · show (if x = m then r else own x) = 22
      rw [if_neg (fun e => hmf (by rw [← e]; exact hx))]
      exact (f3 x hx).2
    · obtain ⟨y1, y2, y3, y4, y5⟩ := hX q hq
      by_cases e : q = r
      · subst e
        have ex : rf_xu xs q (xs q ++ [m]) q = xs q ++ [m] := if_pos rfl
        rw [ex, e6, e9]
        refine ⟨t2, ?_, ?_, ?_, ?_⟩
        · rw [rf_u_ne _ _ (by omega), rf_u_at, rf_la_snoc]
        · rw [rf_u_at, List.length_append, List.length_singleton]
        · rw [List.nodup_append]
          exact ⟨y4, List.nodup_cons.mpr ⟨List.not_mem_nil, List.nodup_nil⟩, fun a ha b hb e => hmx q hq (by rw [List.mem_singleton.mp hb] at e; rw [← e]; exact ha)⟩
        · intro x hx
          rcases List.mem_append.mp hx with h5 | h5
          · refine ⟨(y5 x h5).1, ?_⟩
            show (if x = m then q else own x) = q
            split
            · rfl
            · exact (y5 x h5).2
          · rw [List.mem_singleton.mp h5]
            exact ⟨m1, if_pos rfl⟩
      · have ex : rf_xu xs r (xs r ++ [m]) q = xs q := if_neg e
        rw [ex, e6, eA 9 q (by omega) (by omega) (by omega) (by omega), eA 10 q (by omega) (by omega) (by omega) (by omega), eA 11 q (by omega) (by omega) (by omega) (by omega)]
        refine ⟨rf_ch_congr (t3 q hq e) y1, y2, y3, y4, fun x hx => ⟨(y5 x hx).1, ?_⟩⟩
        show (if x = m then r else own x) = q
        rw [if_neg (fun e2 => hmx q hq (by rw [← e2]; exact hx))]
        exact (y5 x hx).2
    · rw [eA k j (by omega) (by omega) (by omega) (by omega)]
      exact hI k j hk
    · by_cases e : q = r
      · subst e
        have ex : rf_xu xs q (xs q ++ [m]) q = xs q ++ [m] := if_pos rfl
        show (if q = q then D.2 q ++ [μ] else D.2 q) = _
        rw [if_pos rfl, ex, List.map_append, hD q hq]
        congr 1
        · exact List.map_congr_left (fun x _ => (hval x).symm)
        · show [μ] = [rf_val _ m]
          rw [hval, hV m μ rfl]
      · have ex : rf_xu xs r (xs r ++ [m]) q = xs q := if_neg e
        show (if q = r then D.2 r ++ [μ] else D.2 q) = _
        rw [if_neg e, ex, hD q hq]
        exact List.map_congr_left (fun x _ => (hval x).symm)
  refine ev_aload_n dd_D_put_0 rfl ?_
  refine M_gA (k := 6) dd_D_put_1 fr_D_25 hM rfl ?_
  refine ev_iload_n dd_D_put_4 rfl ?_
  refine ev_ic (v := (-1)) dd_D_put_5 (by decide +kernel) ?_
  refine M_st (k := 6) dd_D_put_6 hM rfl rfl hm6 (fun w1 h1 => ?_)
  refine ev_aload_n dd_D_put_7 rfl ?_
  refine M_gA (k := 10) dd_D_put_8 fr_D_35 h1 rfl ?_
  refine ev_iload_n dd_D_put_11 rfl ?_
  refine M_ld (k := 10) dd_D_put_12 h1 rfl rfl hr ?_
  rw [rf_u_ne _ _ (by omega), x2]
  by_cases hxs : xs r = []
  · rw [hxs]
    refine ev_if_lt dd_D_put_13 (fun _ => ?_) (fun c => absurd (by decide) c)
    refine ev_aload_n dd_D_put_31 rfl ?_
    refine M_gA (k := 9) dd_D_put_32 fr_D_32 h1 rfl ?_
    refine ev_iload_n dd_D_put_35 rfl ?_
    refine ev_iload_n dd_D_put_36 rfl ?_
    refine M_st (k := 9) dd_D_put_37 h1 rfl rfl hr (fun w2 h2 => ?_)
    refine ev_loc3 (i0 := 0) (i1 := 1) (i2 := 2) rfl rfl rfl ?_
    refine tail _ w2 h2 (fun k j a1 a2 => by rw [rf_u_ne _ _ a2, rf_u_ne _ _ (fun e => a1 e.1)]) ?_ (fun q hq hqr x hx => ?_) (fun x hx => ?_)
    · rw [hxs, rf_u_at, rf_u_k _ _ (by omega)]
      exact ⟨rfl, rf_u_at _ _ _ _⟩
    · rw [rf_u_k _ _ (by omega), rf_u_ne _ _ (fun e => hmx q hq (by rw [← e.2]; exact hx))]
    · rw [rf_u_k _ _ (by omega), rf_u_ne _ _ (fun e => hmf (by rw [← e.2]; exact hx))]
  · obtain ⟨z, hz, ez⟩ := rf_la_mem hxs
    have hz1 := x5 z hz
    have hz6 : z < rf_n 6 := show z < 2400 by omega
    rw [ez]
    refine ev_if_lt dd_D_put_13 (fun c => absurd c (ev_on z (by omega))) (fun _ => ?_)
    refine ev_aload_n dd_D_put_16 rfl ?_
    refine M_gA (k := 6) dd_D_put_17 fr_D_25 h1 rfl ?_
    refine ev_aload_n dd_D_put_20 rfl ?_
    refine M_gA (k := 10) dd_D_put_21 fr_D_35 h1 rfl ?_
    refine ev_iload_n dd_D_put_24 rfl ?_
    refine M_ld (k := 10) dd_D_put_25 h1 rfl rfl hr ?_
    rw [rf_u_ne _ _ (by omega), x2, ez]
    refine ev_iload_n dd_D_put_26 rfl ?_
    refine M_st (k := 6) dd_D_put_27 h1 rfl rfl hz6 (fun w2 h2 => ?_)
    refine ev_goto dd_D_put_28 ?_
    refine ev_loc3 (i0 := 0) (i1 := 1) (i2 := 2) rfl rfl rfl ?_
    have hzm : m ≠ z := fun e => hmx r hr (e ▸ hz)
    refine tail _ w2 h2 (fun k j a1 a2 => by rw [rf_u_ne _ _ (fun e => a1 e.1), rf_u_ne _ _ (fun e => a1 e.1)]) ?_ (fun q hq hqr x hx => ?_) (fun x hx => ?_)
    · rw [rf_u_k (k' := 9) _ _ (by omega), rf_u_k (k' := 9) _ _ (by omega)]
      refine rf_ch_snoc (by rw [rf_u_ne _ _ (fun e => hzm e.2), rf_u_at]) x4 hxs (fun x hx e => ?_) (fun x hx e => ?_) (fun x hx => by have := (x5 x hx).1; omega) x1
      · have hx1 := (x5 x hx).1
        have e2 : z = x := (nI_eq (by omega) (by omega)).mp (ez.symm.trans e)
        rw [← e2, rf_u_at]
      · rw [rf_u_ne _ _ (fun e2 => e (by rw [e2.2]; exact ez)), rf_u_ne _ _ (fun e2 => hmx r hr (by rw [← e2.2]; exact hx))]
    · rw [rf_u_ne _ _ (fun e => by have := ((hX q hq).2.2.2.2 x hx).2; rw [e.2] at this; omega), rf_u_ne _ _ (fun e => hmx q hq (by rw [← e.2]; exact hx))]
    · rw [rf_u_ne _ _ (fun e => by have := (f3 x hx).2; rw [e.2] at this; omega), rf_u_ne _ _ (fun e => hmf (by rw [← e.2]; exact hx))]
theorem rf_ch_pos {N : Nat → Int32} {p : Int32} {ys : List Nat} (h : rf_ch N p ys) (hlt : ∀ y ∈ ys, y < 2400) : ((0 : Int32) ≤ p ↔ ys ≠ []) := by
  cases ys with
  | nil =>
    have e : p = -1 := h
    rw [e]
    exact ⟨fun h => absurd h (by decide), fun h => absurd rfl h⟩
  | cons y ys =>
    have e : p = Int32.ofNat y := h.1
    rw [e]
    have := hlt y List.mem_cons_self
    exact ⟨fun _ h => (by cases h), fun _ => nI_pos' (by omega)⟩
/-- the first of a row is taken in hand -/
theorem k_D_shift {r : Nat} {μ : rf_m} {zs : List rf_m} (hr : r < 22) (hz : D.2 r = μ :: zs) (h : rf_K G w D none F Q) : ev_E G mm_D_shift d 0 (lv_args 0 [.ref (ev_b G + 77), .int (Int32.ofNat r)]) [] w (fun t w' => ∃ m, t = .inl (some (.int (Int32.ofNat m))) ∧ m < 2400 ∧ rf_K G w' (rf_sX D r zs) (some (m, μ)) F Q) := by
  obtain ⟨A, xs, own, fs, mk, hM, ⟨⟨l1, l2, l3⟩, ⟨f1, f2, f3⟩, hX, hH⟩, hI, hD, hV, hQ⟩ := h
  obtain ⟨x1, x2, x3, x4, x5⟩ := hX r hr
  have hDr := hD r hr
  rw [hz] at hDr
  rcases hxr : xs r with _ | ⟨x, ys⟩
  · rw [hxr] at hDr
    cases hDr
  rw [hxr] at x1 x2 x3 x4 x5 hDr
  injection hDr with hD1 hD2
  have hxm := x5 x List.mem_cons_self
  have hx6 : x < rf_n 6 := show x < 2400 by omega
  have hxy : x ∉ ys := (List.nodup_cons.mp x4).1
  have tail : ∀ (w1 : ev_wd), rf_M G w1 (rf_u A 9 r (A 6 x)) F → ev_E G mm_D_shift d 43 [(0, .ref (ev_b G + 77)), (1, .int (Int32.ofNat r)), (2, .int (Int32.ofNat x))] [.int (rf_la ys), .int (Int32.ofNat r), .ref (ev_b G + rf_o 10)] w1 (fun t w' => ∃ m, t = .inl (some (.int (Int32.ofNat m))) ∧ m < 2400 ∧ rf_K G w' (rf_sX D r zs) (some (m, μ)) F Q) := by
    intro w1 h1
    refine M_st (k := 10) dd_D_shift_43 h1 rfl rfl hr (fun w2 h2 => ?_)
    refine ev_aload_n dd_D_shift_44 rfl ?_
    refine M_gA (k := 11) dd_D_shift_45 fr_D_38 h2 rfl ?_
    refine ev_iload_n dd_D_shift_48 rfl ?_
    refine ev_dup2 dd_D_shift_49 rfl rfl ?_
    refine M_ld (k := 11) dd_D_shift_50 h2 rfl rfl hr ?_
    rw [rf_u_ne _ _ (by omega), rf_u_ne _ _ (by omega), x3]
    refine ev_ic (v := 1) dd_D_shift_51 (by decide +kernel) ?_
    refine ev_isub dd_D_shift_52 ?_
    rw [show Int32.ofNat (x :: ys).length - 1 = Int32.ofNat ys.length from nI_pred _]
    refine M_st (k := 11) dd_D_shift_53 h2 rfl rfl hr (fun w3 h3 => ?_)
    refine ev_iload_n dd_D_shift_54 rfl ?_
    refine ev_iret dd_D_shift_55 rfl rfl ?_
    have eA : ∀ k j, ¬ (k = 9 ∧ j = r) → ¬ (k = 10 ∧ j = r) → ¬ (k = 11 ∧ j = r) → rf_u (rf_u (rf_u A 9 r (A 6 x)) 10 r (rf_la ys)) 11 r (Int32.ofNat ys.length) k j = A k j := fun k j a2 a3 a4 => by rw [rf_u_ne _ _ a4, rf_u_ne _ _ a3, rf_u_ne _ _ a2]
    have e6 : rf_u (rf_u (rf_u A 9 r (A 6 x)) 10 r (rf_la ys)) 11 r (Int32.ofNat ys.length) 6 = A 6 := by rw [rf_u_k _ _ (by omega), rf_u_k _ _ (by omega), rf_u_k _ _ (by omega)]
    have hval : ∀ y, rf_val (rf_u (rf_u (rf_u A 9 r (A 6 x)) 10 r (rf_la ys)) 11 r (Int32.ofNat ys.length)) y = rf_val A y := fun y => rf_val_eq (fun k a b => eA k y (by omega) (by omega) (by omega))
    refine ⟨x, rfl, hx6, _, rf_xu xs r ys, fun y => if y = x then 23 else own y, fs, mk, h3, ⟨⟨?_, l2, ?_⟩, ⟨?_, f2, fun y hy => ⟨(f3 y hy).1, ?_⟩⟩, fun q hq => ?_, fun y hy => ?_⟩, fun k j hk => ?_, fun q hq => ?_, fun y ν hy => ?_, fun y ν hy => ⟨(hQ y ν hy).1, (hval y).trans (hQ y ν hy).2⟩⟩
    · rw [eA 8 0 (by omega) (by omega) (by omega)]; exact l1
    · have := rf_xu_len xs ys hr
      rw [hxr, List.length_cons] at this
      have e1 : rf_1 (Option.map Prod.fst (some (x, μ))) = 1 := rfl
      have e0 : rf_1 (Option.map Prod.fst (none : Option (Nat × rf_m))) = 0 := rfl
      rw [e0] at l3
      rw [e1]
      omega
    · rw [e6, eA 7 0 (by omega) (by omega) (by omega)]
      exact f1
    · show (if y = x then 23 else own y) = 22
      rw [if_neg (fun e => by have := (f3 y hy).2; rw [e] at this; omega)]
      exact (f3 y hy).2
    · obtain ⟨y1, y2, y3, y4, y5⟩ := hX q hq
      by_cases e : q = r
      · subst e
        have ex : rf_xu xs q ys q = ys := if_pos rfl
        rw [ex, e6, rf_u_ne (k' := 9) _ _ (by omega), rf_u_ne (k' := 9) _ _ (by omega), rf_u_at, rf_u_ne (k' := 10) _ _ (by omega), rf_u_at, rf_u_at]
        refine ⟨x1.2, rfl, rfl, (List.nodup_cons.mp x4).2, fun y hy => ⟨(x5 y (List.mem_cons_of_mem _ hy)).1, ?_⟩⟩
        show (if y = x then 23 else own y) = q
        rw [if_neg (fun e => hxy (by rw [← e]; exact hy))]
        exact (x5 y (List.mem_cons_of_mem _ hy)).2
      · have ex : rf_xu xs r ys q = xs q := if_neg e
        rw [ex, e6, eA 9 q (by omega) (by omega) (by omega), eA 10 q (by omega) (by omega) (by omega), eA 11 q (by omega) (by omega) (by omega)]
        refine ⟨y1, y2, y3, y4, fun y hy => ⟨(y5 y hy).1, ?_⟩⟩
        show (if y = x then 23 else own y) = q
        rw [if_neg (fun e2 => by have := (y5 y hy).2; rw [e2] at this; omega)]
        exact (y5 y hy).2
    · cases hy
      exact ⟨hxm.1, if_pos rfl⟩
    · rw [eA k j (by omega) (by omega) (by omega)]
      exact hI k j hk
    · by_cases e : q = r
      · subst e
        have ex : rf_xu xs q ys q = ys := if_pos rfl
        show (if q = q then zs else D.2 q) = _
        rw [if_pos rfl, ex, hD2]
        exact List.map_congr_left (fun y _ => (hval y).symm)
      · have ex : rf_xu xs r ys q = xs q := if_neg e
        show (if q = r then zs else D.2 q) = _
        rw [if_neg e, ex, hD q hq]
        exact List.map_congr_left (fun y _ => (hval y).symm)
    · cases hy
      rw [hval]
      exact hD1.symm
  refine ev_aload_n dd_D_shift_0 rfl ?_
  refine M_gA (k := 9) dd_D_shift_1 fr_D_32 hM rfl ?_
  refine ev_iload_n dd_D_shift_4 rfl ?_
  refine M_ld (k := 9) dd_D_shift_5 hM rfl rfl hr ?_
  rw [x1.1]
  refine ev_istore_n dd_D_shift_6 (by decide) ?_
  refine ev_aload_n dd_D_shift_7 rfl ?_
  refine M_gA (k := 9) dd_D_shift_8 fr_D_32 hM rfl ?_
  refine ev_iload_n dd_D_shift_11 rfl ?_
  refine ev_aload_n dd_D_shift_12 rfl ?_
  refine M_gA (k := 6) dd_D_shift_13 fr_D_25 hM rfl ?_
  refine ev_iload_n dd_D_shift_16 rfl ?_
  refine M_ld (k := 6) dd_D_shift_17 hM rfl rfl hx6 ?_
  refine M_st (k := 9) dd_D_shift_18 hM rfl rfl hr (fun w1 h1 => ?_)
  refine ev_aload_n dd_D_shift_19 rfl ?_
  refine M_gA (k := 10) dd_D_shift_20 fr_D_35 h1 rfl ?_
  refine ev_iload_n dd_D_shift_23 rfl ?_
  refine ev_aload_n dd_D_shift_24 rfl ?_
  refine M_gA (k := 9) dd_D_shift_25 fr_D_32 h1 rfl ?_
  refine ev_iload_n dd_D_shift_28 rfl ?_
  refine M_ld (k := 9) dd_D_shift_29 h1 rfl rfl hr ?_
  rw [rf_u_at]
  have hpos := rf_ch_pos x1.2 (fun y hy => by have := (x5 y (List.mem_cons_of_mem _ hy)).1; omega)
  refine ev_if_ge dd_D_shift_30 (fun c => ?_) (fun c => ?_)
  · have hne := hpos.mp c
    refine ev_aload_n dd_D_shift_37 rfl ?_
    refine M_gA (k := 10) dd_D_shift_38 fr_D_35 h1 rfl ?_
    refine ev_iload_n dd_D_shift_41 rfl ?_
    refine M_ld (k := 10) dd_D_shift_42 h1 rfl rfl hr ?_
    rw [rf_u_ne _ _ (by omega), x2, show rf_la (x :: ys) = rf_la ys by cases ys with | nil => exact absurd rfl hne | cons y ys => rfl]
    refine ev_loc3 (i0 := 0) (i1 := 1) (i2 := 2) rfl rfl rfl ?_
    exact tail w1 h1
  · have hnil : ys = [] := by
      cases ys with
      | nil => rfl
      | cons y ys => exact absurd (hpos.mpr (fun h => by cases h)) c
    refine ev_ic (v := (-1)) dd_D_shift_33 (by decide +kernel) ?_
    refine ev_goto dd_D_shift_34 ?_
    refine ev_loc3 (i0 := 0) (i1 := 1) (i2 := 2) rfl rfl rfl ?_
    have ht := tail w1 h1
    rw [hnil] at ht
    exact ht
/-- what is in hand is given back -/
theorem k_D_give {m : Nat} {μ : rf_m} (h : rf_K G w D (some (m, μ)) F Q) : ev_E G mm_D_give d 0 (lv_args 0 [.ref (ev_b G + 77), .int (Int32.ofNat m)]) [] w (fun t w' => t = .inl none ∧ rf_K G w' D none F Q) := by
  obtain ⟨A, xs, own, fs, mk, hM, ⟨⟨l1, l2, l3⟩, ⟨f1, f2, f3⟩, hX, hH⟩, hI, hD, hV, hQ⟩ := h
  obtain ⟨m1, m2⟩ := hH m rfl
  have hm6 : m < rf_n 6 := show m < 2400 by omega
  have hmx : ∀ q, q < 22 → m ∉ xs q := fun q hq hin => by have := ((hX q hq).2.2.2.2 m hin).2; omega
  have hmf : m ∉ fs := fun hin => by have := (f3 m hin).2; omega
  refine ev_aload_n dd_D_give_0 rfl ?_
  refine M_gA (k := 6) dd_D_give_1 fr_D_25 hM rfl ?_
  refine ev_iload_n dd_D_give_4 rfl ?_
  refine ev_aload_n dd_D_give_5 rfl ?_
  refine M_gI (k := 7) dd_D_give_6 fr_D_28 hM rfl ?_
  refine M_st (k := 6) dd_D_give_9 hM rfl rfl hm6 (fun w1 h1 => ?_)
  refine ev_aload_n dd_D_give_10 rfl ?_
  refine ev_iload_n dd_D_give_11 rfl ?_
  refine M_pI (k := 7) dd_D_give_12 fk_D_28 h1 rfl rfl rfl (fun w2 h2 => ?_)
  refine ev_vret dd_D_give_15 rfl ?_
  have eA : ∀ k j, ¬ (k = 6 ∧ j = m) → ¬ (k = 7 ∧ j = 0) → rf_u (rf_u A 6 m (A 7 0)) 7 0 (Int32.ofNat m) k j = A k j := fun k j a2 a3 => by rw [rf_u_ne _ _ a3, rf_u_ne _ _ a2]
  have hval : ∀ y, rf_val (rf_u (rf_u A 6 m (A 7 0)) 7 0 (Int32.ofNat m)) y = rf_val A y := fun y => rf_val_eq (fun k a b => eA k y (by omega) (by omega))
  refine ⟨rfl, _, xs, fun x => if x = m then 22 else own x, m :: fs, mk, h2, ⟨⟨?_, l2, ?_⟩, ⟨?_, List.nodup_cons.mpr ⟨hmf, f2⟩, fun x hx => ?_⟩, fun q hq => ?_, fun x hx => by cases hx⟩, fun k j hk => ?_, fun q hq => ?_, (fun x ν hx => by cases hx), fun y ν hy => ⟨(hQ y ν hy).1, (hval y).trans (hQ y ν hy).2⟩⟩
  · rw [eA 8 0 (by omega) (by omega)]; exact l1
  · have e1 : rf_1 (Option.map Prod.fst (some (m, μ))) = 1 := rfl
    have e0 : rf_1 (Option.map Prod.fst (none : Option (Nat × rf_m))) = 0 := rfl
    rw [e1] at l3
    rw [e0, List.length_cons]
    omega
  · refine ⟨rf_u_at _ _ _ _, ?_⟩
    have e1 : rf_u (rf_u A 6 m (A 7 0)) 7 0 (Int32.ofNat m) 6 m = A 7 0 := by rw [rf_u_ne _ _ (by omega), rf_u_at]
    rw [e1]
    exact rf_ch_congr (fun x hx => eA 6 x (fun e => hmf (by rw [← e.2]; exact hx)) (by omega)) f1
  · rcases List.mem_cons.mp hx with h5 | h5
    · rw [h5]
      exact ⟨m1, if_pos rfl⟩
    · refine ⟨(f3 x h5).1, ?_⟩
      show (if x = m then 22 else own x) = 22
      split
      · rfl
      · exact (f3 x h5).2
  · obtain ⟨y1, y2, y3, y4, y5⟩ := hX q hq
    rw [eA 9 q (by omega) (by omega), eA 10 q (by omega) (by omega), eA 11 q (by omega) (by omega)]
    refine ⟨rf_ch_congr (fun x hx => eA 6 x (fun e => hmx q hq (by rw [← e.2]; exact hx)) (by omega)) y1, y2, y3, y4, fun x hx => ⟨(y5 x hx).1, ?_⟩⟩
    show (if x = m then 22 else own x) = q
    rw [if_neg (fun e => hmx q hq (by rw [← e]; exact hx))]
    exact (y5 x hx).2
  · rw [eA k j (by omega) (by omega)]
    exact hI k j hk
  · rw [hD q hq]
    exact List.map_congr_left (fun y _ => (hval y).symm)
end RfP
