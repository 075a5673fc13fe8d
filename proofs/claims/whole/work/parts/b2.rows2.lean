/-! the reference: the rows of its walks over its state; a message is made; a row is looked through, is emptied -/
def rf_mk (μ : rf_m) (k : Nat) : Int32 := match k with
  | 1 => μ.1
  | 2 => μ.2.1
  | 3 => μ.2.2.1
  | 4 => μ.2.2.2.1
  | _ => μ.2.2.2.2
def rf_Q0 : Nat → rf_m → Prop := fun _ _ => False
/-- how many messages are in rows -/
def rz (D : rf_C) : Nat := cr_su (fun r => (D.2 r).length) 22
section RfQ
variable {G : ev_gx} {M : ev_mx} {d pc pc' tgt : Nat} {L : List (Nat × Value)} {st : List Value} {w w1 F : ev_wd} {P : ev_r → ev_wd → Prop} {A B : rf_A} {D : rf_C} {H : Option (Nat × rf_m)} {Q : Nat → rf_m → Prop}
theorem rf_L.congr {xs : Nat → List Nat} {own : Nat → Nat} {fs : List Nat} {mk : Nat} {H : Option Nat} (h : rf_L A xs own fs mk H) (e : ∀ k j, 6 ≤ k → k ≤ 11 → B k j = A k j) : rf_L B xs own fs mk H := by
  obtain ⟨⟨l1, l2, l3⟩, ⟨f1, f2, f3⟩, hX, hH⟩ := h
  refine ⟨⟨by rw [e 8 0 (by omega) (by omega)]; exact l1, l2, l3⟩, ⟨?_, f2, f3⟩, fun r hr => ?_, hH⟩
  · rw [e 7 0 (by omega) (by omega)]
    exact rf_ch_congr (fun x _ => e 6 x (by omega) (by omega)) f1
  · obtain ⟨y1, y2, y3, y4, y5⟩ := hX r hr
    rw [e 9 r (by omega) (by omega), e 10 r (by omega) (by omega), e 11 r (by omega) (by omega)]
    exact ⟨rf_ch_congr (fun x _ => e 6 x (by omega) (by omega)) y1, y2, y3, y4, y5⟩
theorem rf_K.ob (h : rf_K G w D H F Q) : ev_b G ≤ ev_b G + 77 ∧ ev_b G + 77 < ev_z w := by
  obtain ⟨A, xs, own, fs, mk, hM, -⟩ := h
  exact hM.1.ob
theorem rf_K.tg (h : rf_K G w D H F Q) : ev_g w (ev_b G + 77) = 8 := by
  obtain ⟨A, xs, own, fs, mk, hM, -⟩ := h
  exact hM.1.2.1
theorem rf_K.less (h : rf_K G w D H F Q) {Q' : Nat → rf_m → Prop} (hq : ∀ x μ, Q' x μ → Q x μ) : rf_K G w D H F Q' := by
  obtain ⟨A, xs, own, fs, mk, hM, hL, hI, hD, hV, hQ⟩ := h
  exact ⟨A, xs, own, fs, mk, hM, hL, hI, hD, hV, fun x μ hx => hQ x μ (hq x μ hx)⟩
theorem rf_K.hand {x : Nat} {μ : rf_m} (h : rf_K G w D (some (x, μ)) F Q) : rf_K G w D (some (x, μ)) F (fun y ν => Q y ν ∨ (y = x ∧ ν = μ)) := by
  obtain ⟨A, xs, own, fs, mk, hM, hL, hI, hD, hV, hQ⟩ := h
  refine ⟨A, xs, own, fs, mk, hM, hL, hI, hD, hV, fun y ν hy => ?_⟩
  rcases hy with hy | ⟨rfl, rfl⟩
  · exact hQ y ν hy
  · have := (hL.2.2.2 y rfl).1
    have := hL.1.2.1
    exact ⟨by omega, hV y ν rfl⟩
theorem rf_K.len (h : rf_K G w D H F Q) {r : Nat} (hr : r < 22) : (D.2 r).length ≤ 2400 := by
  obtain ⟨A, xs, own, fs, mk, hM, hL, hI, hD, hV, hQ⟩ := h
  have h1 := hL.1
  rw [hD r hr, List.length_map]
  have h2 := cr_su_up (fun q => (xs q).length) r 0 22 hr
  omega
theorem R_gA {index k : Nat} (hd : ev_d M.2.1 pc (.getfield index) 3 pc') (hF : ev_F0 M.1.cls index 8 k) (h : rf_K G w D H F Q) (hk : rf_a k = true) (kk : ev_E G M d pc' L (.ref (ev_b G + rf_o k) :: st) w P) : ev_E G M d pc L (.ref (ev_b G + 77) :: st) w P := by
  obtain ⟨A, xs, own, fs, mk, hM, -⟩ := h
  exact M_gA hd hF hM hk kk
theorem R_gI {index k : Nat} (hd : ev_d M.2.1 pc (.getfield index) 3 pc') (hF : ev_F0 M.1.cls index 8 k) (h : rf_K G w D H F Q) (hk : rf_i k = true) (h12 : k = 0 ∨ 12 ≤ k) (kk : ev_E G M d pc' L (.int (D.1 k 0) :: st) w P) : ev_E G M d pc L (.ref (ev_b G + 77) :: st) w P := by
  obtain ⟨A, xs, own, fs, mk, hM, hL, hI, -⟩ := h
  rw [← hI k 0 h12] at kk
  exact M_gI hd hF hM hk kk
theorem rf_K.set {A' : rf_A} {k j : Nat} {x : Int32} {xs : Nat → List Nat} {own : Nat → Nat} {fs : List Nat} {mk : Nat} (hM : rf_M G w1 (rf_u A k j x) F) (hL : rf_L A xs own fs mk (H.map Prod.fst)) (hI : ∀ k j, (k = 0 ∨ 12 ≤ k) → A k j = D.1 k j) (hD : ∀ r, r < 22 → D.2 r = (xs r).map (rf_val A)) (hV : ∀ x μ, H = some (x, μ) → rf_val A x = μ) (hQ : ∀ x μ, Q x μ → x < 2400 ∧ rf_val A x = μ) (h12 : k = 0 ∨ 12 ≤ k) : rf_K G w1 (rf_sI D k j x) H F Q := by
  have hval : ∀ y, rf_val (rf_u A k j x) y = rf_val A y := fun y => rf_val_eq (fun k' a b => rf_u_ne _ _ (by omega))
  refine ⟨_, xs, own, fs, mk, hM, hL.congr (fun k' j' a b => rf_u_ne _ _ (by omega)), fun k' j' hk' => ?_, fun r hr => ?_, fun y ν hy => (hval y).trans (hV y ν hy), fun y ν hy => ⟨(hQ y ν hy).1, (hval y).trans (hQ y ν hy).2⟩⟩
  · show rf_u A k j x k' j' = rf_u D.1 k j x k' j'
    unfold rf_u
    split
    · rfl
    · exact hI k' j' hk'
  · show D.2 r = _
    rw [hD r hr]
    exact List.map_congr_left (fun y _ => (hval y).symm)
theorem R_pI {index k : Nat} {x : Int32} (hd : ev_d M.2.1 pc (.putfield index) 3 pc') (hF : ev_F M.1.cls index 8 k false) (h : rf_K G w D H F Q) (hk : rf_i k = true) (h12 : k = 0 ∨ 12 ≤ k) (hn : narrow (nm_ft 8 k) (.int x) = .int x) (hfit : fits (nm_ft 8 k) (.int x) = true) (kk : ∀ w1, rf_K G w1 (rf_sI D k 0 x) H F Q → ev_E G M d pc' L st w1 P) : ev_E G M d pc L (.int x :: .ref (ev_b G + 77) :: st) w P := by
  obtain ⟨A, xs, own, fs, mk, hM, hL, hI, hD, hV, hQ⟩ := h
  exact M_pI hd hF hM hk hn hfit (fun w1 h1 => kk w1 (rf_K.set (A' := A) h1 hL hI hD hV hQ h12))
theorem R_ld {k j : Nat} (hd : ev_d M.2.1 pc .iaload 1 pc') (h : rf_K G w D H F Q) (hk : (rf_a k && !rf_b k && decide (12 ≤ k)) = true) (hj : j < rf_n k) (kk : ev_E G M d pc' L (.int (D.1 k j) :: st) w P) : ev_E G M d pc L (.int (Int32.ofNat j) :: .ref (ev_b G + rf_o k) :: st) w P := by
  simp only [Bool.and_eq_true, Bool.not_eq_true', decide_eq_true_eq] at hk
  obtain ⟨A, xs, own, fs, mk, hM, hL, hI, -⟩ := h
  rw [← hI k j (Or.inr hk.2)] at kk
  exact M_ld hd hM hk.1.1 hk.1.2 hj kk
theorem R_ldz {k j : Nat} (hd : ev_d M.2.1 pc .baload 1 pc') (h : rf_K G w D H F Q) (hk : (rf_a k && rf_b k && decide (12 ≤ k)) = true) (hj : j < rf_n k) (kk : ev_E G M d pc' L (.int (D.1 k j) :: st) w P) : ev_E G M d pc L (.int (Int32.ofNat j) :: .ref (ev_b G + rf_o k) :: st) w P := by
  simp only [Bool.and_eq_true, decide_eq_true_eq] at hk
  obtain ⟨A, xs, own, fs, mk, hM, hL, hI, -⟩ := h
  rw [← hI k j (Or.inr hk.2)] at kk
  exact M_ldz hd hM hk.1.1 hk.1.2 hj kk
theorem R_st {k j : Nat} {x : Int32} (hd : ev_d M.2.1 pc .iastore 1 pc') (h : rf_K G w D H F Q) (hk : (rf_a k && !rf_b k && decide (12 ≤ k)) = true) (hj : j < rf_n k) (kk : ∀ w1, rf_K G w1 (rf_sI D k j x) H F Q → ev_E G M d pc' L st w1 P) : ev_E G M d pc L (.int x :: .int (Int32.ofNat j) :: .ref (ev_b G + rf_o k) :: st) w P := by
  simp only [Bool.and_eq_true, Bool.not_eq_true', decide_eq_true_eq] at hk
  obtain ⟨A, xs, own, fs, mk, hM, hL, hI, hD, hV, hQ⟩ := h
  exact M_st hd hM hk.1.1 hk.1.2 hj (fun w1 h1 => kk w1 (rf_K.set (A' := A) h1 hL hI hD hV hQ (Or.inr hk.2)))
theorem R_stz {k j : Nat} {x : Int32} (hd : ev_d M.2.1 pc .bastore 1 pc') (h : rf_K G w D H F Q) (hk : (rf_a k && rf_b k && decide (12 ≤ k)) = true) (hj : j < rf_n k) (hx : narrow .boolean (.int x) = .int x) (kk : ∀ w1, rf_K G w1 (rf_sI D k j x) H F Q → ev_E G M d pc' L st w1 P) : ev_E G M d pc L (.int x :: .int (Int32.ofNat j) :: .ref (ev_b G + rf_o k) :: st) w P := by
  simp only [Bool.and_eq_true, decide_eq_true_eq] at hk
  obtain ⟨A, xs, own, fs, mk, hM, hL, hI, hD, hV, hQ⟩ := h
  exact M_stz hd hM hk.1.1 hk.1.2 hj hx (fun w1 h1 => kk w1 (rf_K.set (A' := A) h1 hL hI hD hV hQ (Or.inr hk.2)))
theorem R_sz {r : Nat} (hd : ev_d M.2.1 pc .iaload 1 pc') (h : rf_K G w D H F Q) (hr : r < 22) (kk : ev_E G M d pc' L (.int (Int32.ofNat (D.2 r).length) :: st) w P) : ev_E G M d pc L (.int (Int32.ofNat r) :: .ref (ev_b G + rf_o 11) :: st) w P := by
  obtain ⟨A, xs, own, fs, mk, hM, hL, hI, hD, -⟩ := h
  rw [hD r hr, List.length_map, ← (hL.2.2.1 r hr).2.2.1] at kk
  exact M_ld (k := 11) hd hM rfl rfl hr kk
/-- a number of a known message is read; the number of the one in hand is set -/
theorem R_mg {k x : Nat} {μ : rf_m} (hd : ev_d M.2.1 pc .iaload 1 pc') (h : rf_K G w D H F Q) (hx : Q x μ) (hk : 1 ≤ k) (hk5 : k ≤ 5) (kk : ev_E G M d pc' L (.int (rf_mk μ k) :: st) w P) : ev_E G M d pc L (.int (Int32.ofNat x) :: .ref (ev_b G + rf_o k) :: st) w P := by
  obtain ⟨A, xs, own, fs, mk, hM, hL, hI, hD, hV, hQ⟩ := h
  obtain ⟨x1, x2⟩ := hQ x μ hx
  have hk15 : k = 1 ∨ k = 2 ∨ k = 3 ∨ k = 4 ∨ k = 5 := by omega
  have e : A k x = rf_mk μ k := by
    rw [← x2]
    rcases hk15 with rfl | rfl | rfl | rfl | rfl <;> rfl
  rw [← e] at kk
  refine M_ld hd hM ?_ ?_ ?_ kk
  · rcases hk15 with rfl | rfl | rfl | rfl | rfl <;> rfl
  · rcases hk15 with rfl | rfl | rfl | rfl | rfl <;> rfl
  · rcases hk15 with rfl | rfl | rfl | rfl | rfl <;> exact x1
theorem R_hn {x : Nat} {v : Int32} {μ : rf_m} (hd : ev_d M.2.1 pc .iastore 1 pc') (h : rf_K G w D (some (x, μ)) F rf_Q0) (kk : ∀ w1, rf_K G w1 D (some (x, (μ.1, μ.2.1, μ.2.2.1, μ.2.2.2.1, v))) F rf_Q0 → ev_E G M d pc' L st w1 P) : ev_E G M d pc L (.int v :: .int (Int32.ofNat x) :: .ref (ev_b G + rf_o 5) :: st) w P := by
  obtain ⟨A, xs, own, fs, mk, hM, hL, hI, hD, hV, hQ⟩ := h
  obtain ⟨m1, m2⟩ := hL.2.2.2 x rfl
  have hmk := hL.1.2.1
  refine M_st (k := 5) hd hM rfl rfl (show x < 2400 by omega) (fun w1 h1 => kk w1 ⟨_, xs, own, fs, mk, h1, hL.congr (fun k' j' a b => rf_u_ne _ _ (by omega)), fun k' j' hk' => ?_, fun r hr => ?_, fun y ν hy => ?_, fun y ν hy => hy.elim⟩)
  · rw [rf_u_ne _ _ (by omega)]
    exact hI k' j' hk'
  · rw [hD r hr]
    refine List.map_congr_left (fun y hy => (rf_val_eq (fun k' a b => rf_u_ne _ _ (fun e => ?_))).symm)
    have := ((hL.2.2.1 r hr).2.2.2.2 y hy).2
    rw [e.2] at this
    omega
  · cases hy
    have hv := hV x μ rfl
    rw [← hv]
    unfold rf_val
    rw [rf_u_at, rf_u_ne (k' := 1) _ _ (by omega), rf_u_ne (k' := 2) _ _ (by omega), rf_u_ne (k' := 3) _ _ (by omega), rf_u_ne (k' := 4) _ _ (by omega)]
/-- a message is made -/
theorem k_D_message (a b c e : Int32) (hl : rz D ≤ 2399) (h : rf_K G w D none F rf_Q0) : ev_E G mm_D_message d 0 (lv_args 0 [.ref (ev_b G + 77), .int a, .int b, .int c, .int e]) [] w (fun t w' => ∃ m, t = .inl (some (.int (Int32.ofNat m))) ∧ m < 2400 ∧ rf_K G w' D (some (m, (a, b, c, e, -1))) F rf_Q0) := by
  obtain ⟨A, xs, own, fs, mk, hM, ⟨⟨l1, l2, l3⟩, ⟨f1, f2, f3⟩, hX, hH⟩, hI, hD, hV, hQ⟩ := h
  have e0 : rf_1 (Option.map Prod.fst (none : Option (Nat × rf_m))) = 0 := rfl
  rw [e0] at l3
  have hsum : cr_su (fun r => (xs r).length) 22 = rz D := by
    have : ∀ N, N ≤ 22 → cr_su (fun r => (xs r).length) N = cr_su (fun r => (D.2 r).length) N := by
      intro N
      induction N with
      | zero => intro _; rfl
      | succ k ih =>
        intro hk
        show cr_su _ k + (xs k).length = cr_su _ k + (D.2 k).length
        rw [ih (by omega), hD k (by omega), List.length_map]
    exact this 22 (Nat.le_refl _)
  have tail : ∀ (A1 : rf_A) (w1 : ev_wd) (m mk1 : Nat) (fs1 : List Nat), rf_M G w1 A1 F → (∀ k j, k ≠ 7 → k ≠ 8 → A1 k j = A k j) → (A1 8 0 = Int32.ofNat mk1 ∧ mk1 ≤ 2400 ∧ mk1 = cr_su (fun r => (xs r).length) 22 + fs1.length + 1) → rf_ch (A 6) (A1 7 0) fs1 → fs1.Nodup → (∀ x ∈ fs1, x < mk1 ∧ own x = 22 ∧ x ≠ m) → m < mk1 → mk ≤ mk1 → (∀ q, q < 22 → m ∉ xs q) →
      ev_E G mm_D_message d 41 [(0, .ref (ev_b G + 77)), (1, .int a), (2, .int b), (3, .int c), (4, .int e), (5, .int (Int32.ofNat m))] [] w1 (fun t w' => ∃ m, t = .inl (some (.int (Int32.ofNat m))) ∧ m < 2400 ∧ rf_K G w' D (some (m, (a, b, c, e, -1))) F rf_Q0) := by
    intro A1 w1 m mk1 fs1 h1 t1 t2 t3 t4 t5 t6 t7 t8
    have hm : m < 2400 := by omega
    refine ev_aload_n dd_D_message_41 rfl ?_
    refine M_gA (k := 1) dd_D_message_42 fr_D_7 h1 rfl ?_
    refine ev_iload dd_D_message_45 rfl ?_
    refine ev_iload_n dd_D_message_47 rfl ?_
    refine M_st (k := 1) dd_D_message_48 h1 rfl rfl hm (fun w2 h2 => ?_)
    refine ev_aload_n dd_D_message_49 rfl ?_
    refine M_gA (k := 2) dd_D_message_50 fr_D_13 h2 rfl ?_
    refine ev_iload dd_D_message_53 rfl ?_
    refine ev_iload_n dd_D_message_55 rfl ?_
    refine M_st (k := 2) dd_D_message_56 h2 rfl rfl hm (fun w3 h3 => ?_)
    refine ev_aload_n dd_D_message_57 rfl ?_
    refine M_gA (k := 3) dd_D_message_58 fr_D_16 h3 rfl ?_
    refine ev_iload dd_D_message_61 rfl ?_
    refine ev_iload_n dd_D_message_63 rfl ?_
    refine M_st (k := 3) dd_D_message_64 h3 rfl rfl hm (fun w4 h4 => ?_)
    refine ev_aload_n dd_D_message_65 rfl ?_
    refine M_gA (k := 4) dd_D_message_66 fr_D_19 h4 rfl ?_
    refine ev_iload dd_D_message_69 rfl ?_
    refine ev_iload dd_D_message_71 rfl ?_
    refine M_st (k := 4) dd_D_message_73 h4 rfl rfl hm (fun w5 h5 => ?_)
    refine ev_aload_n dd_D_message_74 rfl ?_
    refine M_gA (k := 5) dd_D_message_75 fr_D_22 h5 rfl ?_
    refine ev_iload dd_D_message_78 rfl ?_
    refine ev_ic (v := (-1)) dd_D_message_80 (by decide +kernel) ?_
    refine M_st (k := 5) dd_D_message_81 h5 rfl rfl hm (fun w6 h6 => ?_)
    refine ev_iload dd_D_message_82 rfl ?_
    refine ev_iret dd_D_message_84 rfl rfl ?_
    have eA : ∀ k j, ¬ (1 ≤ k ∧ k ≤ 5 ∧ j = m) → rf_u (rf_u (rf_u (rf_u (rf_u A1 1 m a) 2 m b) 3 m c) 4 m e) 5 m (-1) k j = A1 k j := fun k j hk => by rw [rf_u_ne _ _ (by omega), rf_u_ne _ _ (by omega), rf_u_ne _ _ (by omega), rf_u_ne _ _ (by omega), rf_u_ne _ _ (by omega)]
    refine ⟨m, rfl, hm, _, xs, fun x => if x = m then 23 else own x, fs1, mk1, h6, ⟨⟨?_, t2.2.1, t2.2.2⟩, ⟨?_, t4, fun x hx => ⟨(t5 x hx).1, ?_⟩⟩, fun q hq => ?_, fun x hx => ?_⟩, fun k j hk => ?_, fun q hq => ?_, fun x ν hx => ?_, fun x ν hx => hx.elim⟩
    · rw [eA 8 0 (by omega)]
      exact t2.1
    · rw [eA 7 0 (by omega)]
      exact rf_ch_congr (fun x _ => by rw [eA 6 x (by omega), t1 6 x (by omega) (by omega)]) t3
    · show (if x = m then 23 else own x) = 22
      rw [if_neg (t5 x hx).2.2]
      exact (t5 x hx).2.1
    · obtain ⟨y1, y2, y3, y4, y5⟩ := hX q hq
      rw [eA 9 q (by omega), eA 10 q (by omega), eA 11 q (by omega), t1 9 q (by omega) (by omega), t1 10 q (by omega) (by omega), t1 11 q (by omega) (by omega)]
      refine ⟨rf_ch_congr (fun x _ => by rw [eA 6 x (by omega), t1 6 x (by omega) (by omega)]) y1, y2, y3, y4, fun x hx => ⟨by have := (y5 x hx).1; omega, ?_⟩⟩
      show (if x = m then 23 else own x) = q
      rw [if_neg (fun e => t8 q hq (by rw [← e]; exact hx))]
      exact (y5 x hx).2
    · cases hx
      exact ⟨t6, if_pos rfl⟩
    · rw [eA k j (by omega), t1 k j (by omega) (by omega)]
      exact hI k j hk
    · rw [hD q hq]
      refine List.map_congr_left (fun y hy => (rf_val_eq (fun k a b => ?_)).symm)
      rw [eA k y (fun e => t8 q hq (by rw [← e.2.2]; exact hy)), t1 k y (by omega) (by omega)]
    · cases hx
      unfold rf_val
      simp [rf_u]
  refine ev_aload_n dd_D_message_0 rfl ?_
  refine M_gI (k := 7) dd_D_message_1 fr_D_28 hM rfl ?_
  have hpos := rf_ch_pos f1 (fun y hy => by have := (f3 y hy).1; omega)
  refine ev_istore dd_D_message_4 (by decide) ?_
  refine ev_iload dd_D_message_6 rfl ?_
  refine ev_if_lt dd_D_message_8 (fun c => ?_) (fun c => ?_)
  · have hnil : fs = [] := by
      cases fs with
      | nil => rfl
      | cons y ys => exact absurd c (by rw [f1.1]; exact ev_on y (by have := (f3 y List.mem_cons_self).1; omega))
    subst hnil
    rw [List.length_nil] at l3
    refine ev_aload_n dd_D_message_25 rfl ?_
    refine M_gI (k := 8) dd_D_message_26 fr_D_160 hM rfl ?_
    refine ev_istore dd_D_message_29 (by decide) ?_
    refine ev_aload_n dd_D_message_31 rfl ?_
    refine ev_dup dd_D_message_32 rfl ?_
    refine M_gI (k := 8) dd_D_message_33 fr_D_160 hM rfl ?_
    refine ev_ic (v := 1) dd_D_message_36 (by decide +kernel) ?_
    refine ev_iadd dd_D_message_37 ?_
    refine M_pI (k := 8) dd_D_message_38 fk_D_160 hM rfl rfl rfl (fun w1 h1 => ?_)
    refine ev_loc6 (i0 := 0) (i1 := 1) (i2 := 2) (i3 := 3) (i4 := 4) (i5 := 5) rfl rfl rfl rfl rfl (v5 := .int (Int32.ofNat mk)) (by rw [← l1]; rfl) ?_
    refine tail _ w1 mk (mk + 1) [] h1 (fun k j a1 a2 => rf_u_ne _ _ (fun e => a2 e.1)) ⟨by rw [rf_u_at, l1]; exact nI_1 mk, by omega, by rw [List.length_nil]; omega⟩ (by rw [rf_u_ne _ _ (by omega)]; exact f1) List.nodup_nil (fun x hx => absurd hx List.not_mem_nil) (by omega) (by omega) (fun q hq hin => by have := ((hX q hq).2.2.2.2 mk hin).1; omega)
  · cases fs with
    | nil =>
      have e : A 7 0 = -1 := f1
      exact absurd (by rw [e]; decide) c
    | cons y ys =>
      have hy := f3 y List.mem_cons_self
      have hy6 : y < rf_n 6 := show y < 2400 by omega
      have e7 : A 7 0 = Int32.ofNat y := f1.1
      rw [e7]
      refine ev_aload_n dd_D_message_11 rfl ?_
      refine ev_aload_n dd_D_message_12 rfl ?_
      refine M_gA (k := 6) dd_D_message_13 fr_D_25 hM rfl ?_
      refine ev_iload dd_D_message_16 rfl ?_
      refine M_ld (k := 6) dd_D_message_18 hM rfl rfl hy6 ?_
      refine M_pI (k := 7) dd_D_message_19 fk_D_28 hM rfl rfl rfl (fun w1 h1 => ?_)
      refine ev_goto dd_D_message_22 ?_
      refine ev_loc6 (i0 := 0) (i1 := 1) (i2 := 2) (i3 := 3) (i4 := 4) (i5 := 5) rfl rfl rfl rfl rfl rfl ?_
      have hnd := List.nodup_cons.mp f2
      rw [List.length_cons] at l3
      refine tail _ w1 y mk ys h1 (fun k j a1 a2 => rf_u_ne _ _ (fun e => a1 e.1)) ⟨by rw [rf_u_ne _ _ (by omega)]; exact l1, l2, by omega⟩ (by rw [rf_u_at]; exact f1.2) hnd.2 (fun x hx => ⟨(f3 x (List.mem_cons_of_mem _ hx)).1, (f3 x (List.mem_cons_of_mem _ hx)).2, fun e => hnd.1 (by rw [← e]; exact hx)⟩) hy.1 (Nat.le_refl _) (fun q hq hin => by have := ((hX q hq).2.2.2.2 y hin).2; omega)
/-- the one at a place of a row -/
theorem k_D_at {r k : Nat} {μ : rf_m} (hr : r < 22) (hz : (D.2 r)[k]? = some μ) (h : rf_K G w D H F Q) : ev_E G mm_D_at d 0 (lv_args 0 [.ref (ev_b G + 77), .int (Int32.ofNat r), .int (Int32.ofNat k)]) [] w (fun t w' => w' = w ∧ ∃ m, t = .inl (some (.int (Int32.ofNat m))) ∧ rf_K G w D H F (fun y ν => Q y ν ∨ (y = m ∧ ν = μ))) := by
  have hlen := h.len hr
  obtain ⟨A, xs, own, fs, mk, hM, hL, hI, hD, hV, hQ⟩ := h
  have hl2 := hL.1.2.1
  obtain ⟨x1, x2, x3, x4, x5⟩ := hL.2.2.1 r hr
  have hk : k < 2400 := by
    have := (List.getElem?_eq_some_iff.mp hz).1
    omega
  rw [hD r hr, List.getElem?_map] at hz
  rcases hx : (xs r)[k]? with _ | x
  · rw [hx] at hz
    cases hz
  rw [hx] at hz
  injection hz with hz
  have hxm := x5 x (List.mem_of_getElem? hx)
  have loop : ∀ (n i : Nat) (p : Int32) (ys : List Nat), i + n = k → rf_ch (A 6) p ys → (∀ y ∈ ys, y < 2400) → ys[n]? = some x →
      ev_E G mm_D_at d 10 [(0, .ref (ev_b G + 77)), (2, .int (Int32.ofNat k)), (3, .int p), (4, .int (Int32.ofNat i))] [] w (fun t w' => w' = w ∧ ∃ m, t = .inl (some (.int (Int32.ofNat m))) ∧ rf_K G w D H F (fun y ν => Q y ν ∨ (y = m ∧ ν = μ))) := by
    intro n
    induction n with
    | zero =>
      intro i p ys hi hc hlt hy
      cases ys with
      | nil => cases hy
      | cons y ys =>
        have e : y = x := by injection hy
        refine ev_iload dd_D_at_10 rfl ?_
        refine ev_iload_n dd_D_at_12 rfl ?_
        refine ev_icmp_ge dd_D_at_13 (fun _ => ?_) (fun c => absurd (nI_le (by omega) (by omega)) c)
        rw [hc.1, e]
        refine ev_iload_n dd_D_at_29 rfl ?_
        refine ev_iret dd_D_at_30 rfl rfl ?_
        refine ⟨rfl, x, rfl, A, xs, own, fs, mk, hM, hL, hI, hD, hV, fun y ν hy => ?_⟩
        rcases hy with hy | ⟨rfl, rfl⟩
        · exact hQ y ν hy
        · exact ⟨by omega, hz⟩
    | succ n ih =>
      intro i p ys hi hc hlt hy
      cases ys with
      | nil => cases hy
      | cons y ys =>
        have hy6 : y < rf_n 6 := hlt y List.mem_cons_self
        refine ev_iload dd_D_at_10 rfl ?_
        refine ev_iload_n dd_D_at_12 rfl ?_
        refine ev_icmp_ge dd_D_at_13 (fun c => absurd c (nI_ge (by omega) (by omega))) (fun _ => ?_)
        rw [hc.1]
        refine ev_aload_n dd_D_at_16 rfl ?_
        refine M_gA (k := 6) dd_D_at_17 fr_D_25 hM rfl ?_
        refine ev_iload_n dd_D_at_20 rfl ?_
        refine M_ld (k := 6) dd_D_at_21 hM rfl rfl hy6 ?_
        refine ev_istore_n dd_D_at_22 (by decide) ?_
        refine ev_iinc dd_D_at_23 rfl (by decide) ?_
        refine ev_goto dd_D_at_26 ?_
        refine ev_loc4 (i0 := 0) (i1 := 2) (i2 := 3) (i3 := 4) rfl rfl rfl (v3 := .int (Int32.ofNat (i + 1))) (by rw [show Int32.ofNat (i + 1) = Int32.ofNat i + Int32.ofInt 1 by rw [inc_ofNat]; rfl]; rfl) ?_
        exact ih (i + 1) _ ys (by omega) hc.2 (fun z hz => hlt z (List.mem_cons_of_mem _ hz)) hy
  refine ev_aload_n dd_D_at_0 rfl ?_
  refine M_gA (k := 9) dd_D_at_1 fr_D_32 hM rfl ?_
  refine ev_iload_n dd_D_at_4 rfl ?_
  refine M_ld (k := 9) dd_D_at_5 hM rfl rfl hr ?_
  refine ev_istore_n dd_D_at_6 (by decide) ?_
  refine ev_ic (v := 0) dd_D_at_7 (by decide +kernel) ?_
  refine ev_istore dd_D_at_8 (by decide) ?_
  refine ev_loc4 (i0 := 0) (i1 := 2) (i2 := 3) (i3 := 4) rfl rfl rfl (v3 := .int (Int32.ofNat 0)) rfl ?_
  exact loop k 0 _ (xs r) (by omega) x1 (fun y hy => by have := (x5 y hy).1; omega) hx
def rf_hs (zs : List rf_m) (x : Int32) : Int32 := if ∃ μ ∈ zs, μ.1 = x then 1 else 0
theorem rf_hs_cons (μ : rf_m) (zs : List rf_m) (x : Int32) : rf_hs (μ :: zs) x = if μ.1 = x then 1 else rf_hs zs x := by
  unfold rf_hs
  by_cases e : μ.1 = x
  · rw [if_pos e, if_pos ⟨μ, List.mem_cons_self, e⟩]
  · rw [if_neg e]
    by_cases e2 : ∃ ν ∈ zs, ν.1 = x
    · obtain ⟨ν, h1, h2⟩ := e2
      rw [if_pos ⟨ν, List.mem_cons_of_mem _ h1, h2⟩, if_pos ⟨ν, h1, h2⟩]
    · rw [if_neg e2, if_neg]
      rintro ⟨ν, h1, h2⟩
      rcases List.mem_cons.mp h1 with h3 | h3
      · exact e (h3 ▸ h2)
      · exact e2 ⟨ν, h3, h2⟩
theorem k_D_hasClass {r : Nat} (hr : r < 22) (x : Int32) (h : rf_K G w D H F Q) : ev_E G mm_D_hasClass d 0 (lv_args 0 [.ref (ev_b G + 77), .int (Int32.ofNat r), .int x]) [] w (ev_ret (some (.int (rf_hs (D.2 r) x))) w) := by
  obtain ⟨A, xs, own, fs, mk, hM, hL, hI, hD, hV, hQ⟩ := h
  have hl2 := hL.1.2.1
  obtain ⟨x1, x2, x3, x4, x5⟩ := hL.2.2.1 r hr
  have loop : ∀ (ys : List Nat) (p acc : Int32), (acc = 0 ∨ acc = 1) → rf_ch (A 6) p ys → (∀ y ∈ ys, y < 2400) →
      ev_E G mm_D_hasClass d 10 [(0, .ref (ev_b G + 77)), (2, .int x), (3, .int acc), (4, .int p)] [] w (ev_ret (some (.int (if acc = 1 then 1 else rf_hs (ys.map (rf_val A)) x))) w) := by
    intro ys
    induction ys with
    | nil =>
      intro p acc ha hc hlt
      have e : p = -1 := hc
      rw [e]
      refine ev_iload dd_D_hasClass_10 rfl ?_
      refine ev_if_lt dd_D_hasClass_12 (fun _ => ?_) (fun c => absurd (by decide) c)
      refine ev_iload_n dd_D_hasClass_48 rfl ?_
      refine ev_iret dd_D_hasClass_49 rfl (ms_nb ha) ?_
      refine ⟨?_, rfl⟩
      rcases ha with rfl | rfl
      · rfl
      · rfl
    | cons y ys ih =>
      intro p acc ha hc hlt
      have hy := hlt y List.mem_cons_self
      have hy6 : y < rf_n 6 := hy
      have hy1 : y < rf_n 1 := hy
      rw [hc.1]
      have step : ∀ (a2 : Int32), (a2 = 0 ∨ a2 = 1) → (if acc = 1 then (1 : Int32) else rf_hs ((y :: ys).map (rf_val A)) x) = (if a2 = 1 then 1 else rf_hs (ys.map (rf_val A)) x) →
          ev_E G mm_D_hasClass d 35 [(0, .ref (ev_b G + 77)), (2, .int x), (3, .int acc), (4, .int (Int32.ofNat y))] [.int a2] w (ev_ret (some (.int (if acc = 1 then 1 else rf_hs ((y :: ys).map (rf_val A)) x))) w) := by
        intro a2 h2 e2
        rw [e2]
        refine ev_istore_n dd_D_hasClass_35 (by decide) ?_
        refine ev_aload_n dd_D_hasClass_36 rfl ?_
        refine M_gA (k := 6) dd_D_hasClass_37 fr_D_25 hM rfl ?_
        refine ev_iload dd_D_hasClass_40 rfl ?_
        refine M_ld (k := 6) dd_D_hasClass_42 hM rfl rfl hy6 ?_
        refine ev_istore dd_D_hasClass_43 (by decide) ?_
        refine ev_goto dd_D_hasClass_45 ?_
        refine ev_loc4 (i0 := 0) (i1 := 2) (i2 := 3) (i3 := 4) rfl rfl rfl rfl ?_
        exact ih _ a2 h2 hc.2 (fun z hz => hlt z (List.mem_cons_of_mem _ hz))
      refine ev_iload dd_D_hasClass_10 rfl ?_
      refine ev_if_lt dd_D_hasClass_12 (fun c => absurd c (ev_on y (by omega))) (fun _ => ?_)
      refine ev_iload_n dd_D_hasClass_15 rfl ?_
      refine ev_if_ne dd_D_hasClass_16 (fun c => ?_) (fun c => ?_)
      · have e1 : acc = 1 := ha.resolve_left c
        refine ev_ic (v := 1) dd_D_hasClass_30 (by decide +kernel) ?_
        refine ev_goto dd_D_hasClass_31 ?_
        exact step 1 (Or.inr rfl) (by rw [if_pos e1, if_pos rfl])
      · refine ev_aload_n dd_D_hasClass_19 rfl ?_
        refine M_gA (k := 1) dd_D_hasClass_20 fr_D_7 hM rfl ?_
        refine ev_iload dd_D_hasClass_23 rfl ?_
        refine M_ld (k := 1) dd_D_hasClass_25 hM rfl rfl hy1 ?_
        refine ev_iload_n dd_D_hasClass_26 rfl ?_
        refine ev_icmp_ne dd_D_hasClass_27 (fun c2 => ?_) (fun c2 => ?_)
        · refine ev_ic (v := 0) dd_D_hasClass_34 (by decide +kernel) ?_
          exact step 0 (Or.inl rfl) (by rw [c, if_neg (by decide), if_neg (by decide), List.map_cons, rf_hs_cons, if_neg (show ¬ (rf_val A y).1 = x from c2)])
        · refine ev_ic (v := 1) dd_D_hasClass_30 (by decide +kernel) ?_
          refine ev_goto dd_D_hasClass_31 ?_
          exact step 1 (Or.inr rfl) (by rw [c, if_neg (by decide), if_pos rfl, List.map_cons, rf_hs_cons, if_pos (show (rf_val A y).1 = x from c2)])
  refine ev_ic (v := 0) dd_D_hasClass_0 (by decide +kernel) ?_
  refine ev_istore_n dd_D_hasClass_1 (by decide) ?_
  refine ev_aload_n dd_D_hasClass_2 rfl ?_
  refine M_gA (k := 9) dd_D_hasClass_3 fr_D_32 hM rfl ?_
  refine ev_iload_n dd_D_hasClass_6 rfl ?_
  refine M_ld (k := 9) dd_D_hasClass_7 hM rfl rfl hr ?_
  refine ev_istore dd_D_hasClass_8 (by decide) ?_
  refine ev_loc4 (i0 := 0) (i1 := 2) (i2 := 3) (i3 := 4) rfl rfl rfl rfl ?_
  have ht := loop (xs r) _ 0 (Or.inl rfl) x1 (fun y hy => by have := (x5 y hy).1; omega)
  rw [if_neg (by decide), ← hD r hr] at ht
  exact ht
theorem rf_sX_two (D : rf_C) (r : Nat) (a b : List rf_m) : rf_sX (rf_sX D r a) r b = rf_sX D r b := by
  obtain ⟨I, Z⟩ := D
  unfold rf_sX
  congr
  funext q
  by_cases e : q = r <;> simp [e]
theorem rf_sX_same (D : rf_C) (r : Nat) : rf_sX D r (D.2 r) = D := by
  obtain ⟨I, Z⟩ := D
  unfold rf_sX
  congr
  funext q
  by_cases e : q = r <;> simp [e]
theorem rf_sX_at (D : rf_C) (r : Nat) (a : List rf_m) : (rf_sX D r a).2 r = a := by simp [rf_sX]
theorem k_D_empty {r : Nat} (hr : r < 22) : ∀ (zs : List rf_m) (D : rf_C) (w : ev_wd), D.2 r = zs → rf_K G w D none F Q → ev_E G mm_D_empty (d + 1) 0 (lv_args 0 [.ref (ev_b G + 77), .int (Int32.ofNat r)]) [] w (fun t w' => t = .inl none ∧ rf_K G w' (rf_sX D r []) none F Q) := by
  intro zs
  induction zs with
  | nil =>
    intro D w hz h
    refine ev_aload_n dd_D_empty_0 rfl ?_
    refine R_gA (k := 11) dd_D_empty_1 fr_D_38 h rfl ?_
    refine ev_iload_n dd_D_empty_4 rfl ?_
    refine R_sz dd_D_empty_5 h hr ?_
    rw [hz]
    refine ev_if_le dd_D_empty_6 (fun _ => ?_) (fun c => absurd (by decide) c)
    refine ev_vret dd_D_empty_21 rfl ?_
    refine ⟨rfl, ?_⟩
    rw [← hz, rf_sX_same]
    exact h
  | cons μ zs ih =>
    intro D w hz h
    have hlen := h.len hr
    rw [hz, List.length_cons] at hlen
    refine ev_aload_n dd_D_empty_0 rfl ?_
    refine R_gA (k := 11) dd_D_empty_1 fr_D_38 h rfl ?_
    refine ev_iload_n dd_D_empty_4 rfl ?_
    refine R_sz dd_D_empty_5 h hr ?_
    rw [hz]
    refine ev_if_le dd_D_empty_6 (fun c => absurd c (nI_nle (by rw [List.length_cons]; omega) (by rw [List.length_cons]; omega))) (fun _ => ?_)
    refine ev_aload_n dd_D_empty_9 rfl ?_
    refine ev_aload_n dd_D_empty_10 rfl ?_
    refine ev_iload_n dd_D_empty_11 rfl ?_
    refine ev_callv [.int (Int32.ofNat r)] dd_D_empty_12 ms_D_shift iv_D_163 h.ob h.tg rfl (Nat.le_of_ble_eq_true rfl) (Nat.le_of_ble_eq_true rfl) (k_D_shift hr hz h) (fun v w1 hp _ _ => ?_) (fun x w3 hp _ _ => by obtain ⟨y, h1, -⟩ := hp; cases h1)
    obtain ⟨m, h1, -, h2⟩ := hp
    cases h1
    refine ev_callv [.int (Int32.ofNat m)] dd_D_empty_15 ms_D_give iv_D_167 h2.ob h2.tg rfl (Nat.le_of_ble_eq_true rfl) (Nat.le_of_ble_eq_true rfl) (k_D_give h2) (fun v w3 hp _ _ => ?_) (fun x w3 hp _ _ => by obtain ⟨h1, -⟩ := hp; cases h1)
    obtain ⟨h3, h4⟩ := hp
    cases h3
    refine ev_goto dd_D_empty_18 ?_
    have ht := ih (rf_sX D r zs) w3 (rf_sX_at _ _ _) h4
    rw [rf_sX_two] at ht
    exact ht
end RfQ
