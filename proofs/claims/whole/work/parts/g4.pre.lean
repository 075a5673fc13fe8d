/-! what the reference wants, out of the class's invariant -/
theorem rz_sX (D : rf_C) {r : Nat} (zs : List rf_m) (hr : r < 22) : rz (rf_sX D r zs) + (D.2 r).length = rz D + zs.length := by
  have e : (fun q => ((rf_sX D r zs).2 q).length) = cr_a (fun q => (D.2 q).length) r zs.length := by
    funext q
    unfold cr_a
    simp only [rf_sX]
    split <;> rfl
  unfold rz
  rw [e]
  exact cr_su_up (fun q => (D.2 q).length) r zs.length 22 hr
theorem rz_X {D D' : rf_C} (h : D'.2 = D.2) : rz D' = rz D := by unfold rz; rw [h]
theorem rf_num_len (a : Int32) : ∀ (zs : List rf_m) (x : Int32), (rf_num a x zs).length = zs.length := by
  intro zs
  induction zs with
  | nil => intro x; rfl
  | cons μ zs ih => intro x; simp only [rf_num, List.length_cons, ih]
theorem rz_ch1 (D : rf_C) {s : Nat} (hs : s < 6) (a : Int32) : rz (rs_ch1 D s a) = rz D := by
  unfold rs_ch1
  generalize D.1 17 s - Int32.ofNat (D.2 s).length + 8 = x
  have e0 : rz (rf_sI D 43 s 0) = rz D := rz_X rfl
  generalize rf_sI D 43 s 0 = E at *
  have e1 : rz (rs_mvA E s a x) = rz E := by
    unfold rs_mvA
    have a1 := rz_sX E [] (show s < 22 by omega)
    have a2 := rz_sX (rf_sX E s []) (E.2 (12 + s) ++ rf_num a x (E.2 s)) (show 12 + s < 22 by omega)
    rw [rf_sX_ne _ _ (show 12 + s ≠ s by omega), List.length_append, rf_num_len] at a2
    rw [List.length_nil] at a1
    omega
  generalize rs_mvA E s a x = E1 at *
  have e2 : rz (rs_mvB E1 s) = rz E1 := by
    unfold rs_mvB
    have a1 := rz_sX E1 [] (show 6 + s < 22 by omega)
    have a2 := rz_sX (rf_sX E1 (6 + s) []) (E1.2 (12 + s) ++ (E1.2 (6 + s)).map rf_n1) (show 12 + s < 22 by omega)
    rw [rf_sX_ne _ _ (show 12 + s ≠ 6 + s by omega), List.length_append, List.length_map] at a2
    rw [List.length_nil] at a1
    omega
  rw [show rz (rf_sI (rs_mvB E1 s) 27 s 0) = rz (rs_mvB E1 s) from rz_X rfl]
  omega
theorem rz_fall (D : rf_C) {s : Nat} (hs : s < 6) : rz (rs_D_fall D s) = rz D := by
  unfold rs_D_fall
  split
  · unfold rs_change
    split
    · rw [rz_ch1 _ hs, show rz (rs_chN (rs_fa1 D s) s) = rz D from rz_X rfl]
    · rw [rz_ch1 _ hs, show rz (rs_fa1 D s) = rz D from rz_X rfl]
  · exact rz_X rfl
theorem rz_od0 (D : rf_C) {s : Nat} (hs : s < 6) (y : Int32) : rz (rs_od0 D s y) = rz D := by
  unfold rs_od0
  repeat' split
  · exact rz_fall D hs
  · rfl
  · rfl
theorem cr_su_congr {f g : Nat → Nat} : ∀ n, (∀ r, r < n → f r = g r) → cr_su f n = cr_su g n := by
  intro n
  induction n with
  | zero => intro _; rfl
  | succ n ih =>
    intro h
    simp only [cr_su]
    rw [ih (fun r hr => h r (by omega)), h n (by omega)]
theorem sm_k_len : ∀ (zs : List cr_m) (n : Nat) (f : Int32), (sm_k f n zs).length = zs.length := by
  intro zs
  induction zs with
  | nil => intro n f; cases n <;> rfl
  | cons μ zs ih => intro n f; cases n <;> simp only [sm_k, List.length_cons, ih]
theorem sm_k_kd : ∀ (zs : List cr_m) (n : Nat) (f : Int32), ∀ μ ∈ sm_k f n zs, ∃ ν ∈ zs, μ.1 = ν.1 := by
  intro zs
  induction zs with
  | nil => intro n f μ hμ; cases n <;> exact absurd hμ List.not_mem_nil
  | cons ν zs ih =>
    intro n f μ hμ
    cases n with
    | zero =>
      simp only [sm_k] at hμ
      rcases List.mem_cons.mp hμ with x | x
      · exact ⟨ν, List.mem_cons_self, by rw [x]; exact (sm_kd ν).2⟩
      · obtain ⟨ν', h1, h2⟩ := ih 0 f μ x
        exact ⟨ν', List.mem_cons_of_mem _ h1, h2⟩
    | succ n =>
      simp only [sm_k] at hμ
      rcases List.mem_cons.mp hμ with x | x
      · exact ⟨ν, List.mem_cons_self, by rw [x]; exact (sm_kd ν).2⟩
      · obtain ⟨ν', h1, h2⟩ := ih n (f + 1) μ x
        exact ⟨ν', List.mem_cons_of_mem _ h1, h2⟩
theorem rz_cz {C : cr_C} {D : rf_C} (h : sm C D) : rz D = cz C := by
  unfold rz cz
  refine cr_su_congr 22 (fun r hr => ?_)
  by_cases c : r < 12 ∨ 18 ≤ r
  · rw [h.2.1 r hr c, List.length_map]
  · have v := (h.1 (r - 12) (by omega)).2.1.2.2.2.2.2.2
    rw [show 12 + (r - 12) = r by omega] at v
    rw [v, sm_k_len]
theorem rf_hu_of {N : Nat} {C : cr_C} {D : rf_C} (h : sm C D) (hz : iz N C) (hN : N < 1024) {s : Nat} (hs : s < 6) : rf_hu D s := by
  have g3 : D.1 15 s = C.1 1 s 3 := h.g (k := 3) hs (by omega)
  obtain ⟨u, hu, eu⟩ := (hz.2.1 s hs).2.1.2.2.2.2.1
  have e : rf_hn D s = u := by
    unfold rf_hn
    rw [g3, eu]
    exact ev_cl _ (by omega)
  unfold rf_hu
  rw [e, g3, eu]
  exact ⟨rfl, by omega⟩
theorem rf_k4_of {N : Nat} {C : cr_C} {D : rf_C} (h : sm C D) (hz : iz N C) {l e : Nat} (hl : l < 3) (he : e < 2) : rf_k4 D l e := by
  have hs : 2 * l + e < 6 := by omega
  have h5 := hz.1.1.2.2 _ hs
  obtain ⟨a, a1, a2, -⟩ := (h.1 _ hs).1.2.2
  have ea : rf_ag D (2 * l + e) = a := by
    unfold rf_ag
    rw [a2]
    exact ev_cl _ (by omega)
  unfold rf_k4
  rw [ea]
  exact ⟨a2, by omega⟩
theorem rf_fi_of {N : Nat} {C : cr_C} {D : rf_C} (h : sm C D) (hz : iz N C) {l e : Nat} (hl : l < 3) (he : e < 2) : rf_fi D l e := by
  have hs : 2 * l + e < 6 := by omega
  refine ⟨fun μ hμ => ?_, fun μ hμ => ?_, sm_Lk h he (hz.1.L he)⟩
  · rw [(h.1 _ hs).2.1.2.2.2.2.2.2] at hμ
    obtain ⟨ν, h1, h2⟩ := sm_k_kd _ _ _ μ hμ
    have hm := (hz.1.1.1 _ (show 12 + (2 * l + e) < 22 by omega) ν h1).mo
    intro c
    have ek : rf_kd μ = cr_kd ν := by
      unfold rf_kd
      rw [h2]
      rfl
    rw [ek, h2]
    exact hm (by rw [← h2]; exact c)
  · rw [h.2.1 _ (by omega) (by omega)] at hμ
    obtain ⟨ν, h1, rfl⟩ := List.mem_map.mp hμ
    obtain ⟨k1, k2⟩ := sm_kd ν
    have hm := hz.1.1.2.1 _ (by omega) (by omega) ν h1
    unfold rf_mc
    rw [k1, k2]
    exact hm
theorem rf_k3_of {N : Nat} {C : cr_C} {D : rf_C} (h : sm C D) (hz : iz N C) (hr : cz C ≤ 2399) {l e : Nat} (hl : l < 3) (he : e < 2) : rf_k3 D l e := ⟨by rw [rz_cz h]; exact hr, rf_fi_of h hz hl he⟩
theorem svP_I (D : rf_C) (l e t k j : Nat) (h : ¬ (j = 2 * l + e ∧ (k = 19 ∨ (23 ≤ k ∧ k < 28)))) : (rs_svP (rs_good D (2 * l + e)) l e t).1 k j = D.1 k j := by
  have hg : (rs_good D (2 * l + e)).1 k j = D.1 k j := by
    unfold rs_good
    split
    · rw [rf_sI_ne _ _ (by omega), rf_sI_ne _ _ (by omega), rf_sI_ne _ _ (by omega)]
    · rw [rf_sI_ne _ _ (by omega)]
  generalize rs_good D (2 * l + e) = E at *
  rw [← hg]
  unfold rs_svP
  generalize rf_dn E (2 * l + e) t = n
  have h1 : (rs_sv1 E (2 * l + e) n).1 k j = E.1 k j := by
    unfold rs_sv1
    rw [rf_sI_ne _ _ (by omega), rf_sI_ne _ _ (by omega)]
  generalize rs_sv1 E (2 * l + e) n = E1 at *
  have h2 : (rs_sv2 E1 (2 * l + e) n).1 k j = E1.1 k j := rfl
  generalize rs_sv2 E1 (2 * l + e) n = E2 at *
  have h3 : (rs_sv3 E2 (2 * l + e) n).1 k j = E2.1 k j := by
    unfold rs_sv3
    rw [rf_sI_ne _ _ (by omega)]
  generalize rs_sv3 E2 (2 * l + e) n = E3 at *
  have h4 : (rs_sv4 E3 (2 * l + e) t).1 k j = E3.1 k j := by
    unfold rs_sv4
    split
    · rfl
    · rw [rf_sI_ne _ _ (by omega), rf_sI_ne _ _ (by omega)]
  rw [h4, h3, h2, h1]
theorem rz_svP (D : rf_C) {l e : Nat} (hl : l < 3) (he : e < 2) (t : Nat) : rz (rs_svP (rs_good D (2 * l + e)) l e t) ≤ rz D := by
  have hg : rz (rs_good D (2 * l + e)) = rz D := by
    unfold rs_good
    split <;> exact rz_X rfl
  generalize rs_good D (2 * l + e) = E at *
  rw [← hg]
  unfold rs_svP
  generalize rf_dn E (2 * l + e) t = n
  have h1 : rz (rs_sv1 E (2 * l + e) n) = rz E := rz_X rfl
  generalize rs_sv1 E (2 * l + e) n = E1 at *
  have h2 : rz (rs_sv2 E1 (2 * l + e) n) ≤ rz E1 := by
    unfold rs_sv2
    have a := rz_sX E1 ((E1.2 (2 * l + e)).drop n) (show 2 * l + e < 22 by omega)
    rw [List.length_drop] at a
    omega
  generalize rs_sv2 E1 (2 * l + e) n = E2 at *
  have h3 : rz (rs_sv3 E2 (2 * l + e) n) = rz E2 := rz_X rfl
  generalize rs_sv3 E2 (2 * l + e) n = E3 at *
  have h4 : rz (rs_sv4 E3 (2 * l + e) t) = rz E3 := by
    unfold rs_sv4
    split
    · rfl
    · exact rz_X rfl
  omega
theorem rf_sk_of {N : Nat} {C : cr_C} {D D' : rf_C} (h : sm C D) (hz : iz N C) (hN : N < 1024) (hr : cz C ≤ 2399) {l e t : Nat} (hl : l < 3) (he : e < 2) (ht : t < 6) (hI : ∀ k j, k = 15 ∨ (32 ≤ k ∧ k < 42) → D'.1 k j = D.1 k j) (hX : D'.2 = D.2) : rf_sk D' l e t := by
  intro h5
  rw [svP_I _ _ _ _ _ _ (by omega), hI 32 t (by omega)] at h5
  have kI : ∀ k j, k = 15 ∨ (32 ≤ k ∧ k < 42) → (rf_sI (rs_svP (rs_good D' (2 * l + e)) l e t) 18 (2 * l + e) ((rs_svP (rs_good D' (2 * l + e)) l e t).1 34 t)).1 k j = D.1 k j := fun k j hk => by
    rw [rf_sI_ne _ _ (by omega), svP_I _ _ _ _ _ _ (by omega), hI k j hk]
  have hzr : rz (rf_sI (rs_svP (rs_good D' (2 * l + e)) l e t) 18 (2 * l + e) ((rs_svP (rs_good D' (2 * l + e)) l e t).1 34 t)) ≤ 2399 := by
    have a := rz_svP D' hl he t
    have b : rz D' = rz D := rz_X hX
    have c := rz_cz h
    have d : rz (rf_sI (rs_svP (rs_good D' (2 * l + e)) l e t) 18 (2 * l + e) ((rs_svP (rs_good D' (2 * l + e)) l e t).1 34 t)) = rz (rs_svP (rs_good D' (2 * l + e)) l e t) := rz_X rfl
    omega
  generalize rf_sI (rs_svP (rs_good D' (2 * l + e)) l e t) 18 (2 * l + e) ((rs_svP (rs_good D' (2 * l + e)) l e t).1 34 t) = E at *
  obtain ⟨-, hU⟩ := (h.1 t ht).2.2.1
  have n5 : ∀ x : Int32, D.1 32 t = x → x = 5 := fun x hx => hx.symm.trans h5
  obtain ⟨μ, hμ, d38, d40, d41⟩ : ∃ μ, C.2.2 t = some μ ∧ D.1 38 t = (sm_m μ).1 ∧ D.1 40 t = (sm_m μ).2.2.1 ∧ D.1 41 t = (sm_m μ).2.2.2.1 := by
    rcases hU with ⟨-, d⟩ | ⟨-, d⟩ | ⟨-, d⟩ | ⟨-, d⟩ | ⟨-, -, -, -, -, ⟨-, d⟩ | ⟨μ, a, -, b, -, c, d⟩⟩
    · exact absurd (n5 _ d) (by decide)
    · exact absurd (n5 _ d) (by decide)
    · exact absurd (n5 _ d) (by decide)
    · exact absurd (n5 _ d) (by decide)
    · exact absurd (n5 _ d) (by decide)
    · exact ⟨μ, a, b, c, d⟩
  have hv : cv_m μ := hz.1.2.2 t ht μ hμ
  have hw : mw N μ := hz.2.2.2.1 t ht μ hμ
  have e38 : E.1 38 t = μ.1 := (kI 38 t (by omega)).trans (d38.trans (sm_kd μ).2)
  have hm : (μ.1 = 4 ∨ μ.1 = 5) → E.1 40 t = μ.2.1 ∧ E.1 41 t = μ.2.2.2 := fun c => by
    rw [kI 40 t (by omega), kI 41 t (by omega), d40, d41]
    unfold sm_m
    rw [if_pos c]
    exact ⟨rfl, rfl⟩
  have hal : (μ.1 = 4 ∨ μ.1 = 5) → E.1 40 t = Int32.ofNat (rf_al E t) ∧ rf_al E t < 3 := fun c => by
    have w := hv.wl c
    have ea : rf_al E t = cr_wl μ := by
      unfold rf_al
      rw [(hm c).1]
      rfl
    rw [ea, (hm c).1]
    exact ⟨w.2, w.1⟩
  refine ⟨fun c => hal (by rw [← e38]; exact c), fun c => ?_, hzr⟩
  have c4 : μ.1 = 4 := by rw [← e38]; exact c
  obtain ⟨k1, k2⟩ := hal (Or.inl c4)
  obtain ⟨u, hu, eu⟩ := (hw (Or.inl c4)).2
  have et : rf_tu E t = u := by
    unfold rf_tu
    rw [(hm (Or.inl c4)).2, eu]
    exact ev_cl _ (by omega)
  have hs' : 2 * rf_al E t + e < 6 := by omega
  refine ⟨by rw [et, (hm (Or.inl c4)).2, eu], by omega, ?_, by rw [rz_od0 _ hs']; exact hzr⟩
  have hh := rf_hu_of h hz hN hs'
  unfold rf_hu rf_hn at hh ⊢
  rw [kI 15 _ (by omega)]
  exact hh
theorem rf_dk_of {N : Nat} {C : cr_C} {D : rf_C} (h : sm C D) (hz : iz N C) (hN : N < 1024) (hr : cz C ≤ 2399) {l e : Nat} (hl : l < 3) (he : e < 2) : rf_dk D l e := by
  refine ⟨rf_hu_of h hz hN (by omega), fun y => ⟨rf_sk_of h hz hN hr hl he (by omega) (fun k j hk => ?_) rfl, rf_sk_of h hz hN hr hl he (by omega) (fun k j hk => ?_) rfl⟩⟩
  · rw [rf_sI_ne _ _ (by omega), rf_sI_ne _ _ (by omega)]
  · unfold rs_D_come
    rw [rf_sI_ne _ _ (by omega), rf_sI_ne _ _ (by omega), rf_sI_ne _ _ (by omega), rf_sI_ne _ _ (by omega)]
