/-! the reference: what was thrown, how many came: who changes it -/
def zk (D D' : rf_C) : Prop := ∀ k, k = 0 ∨ k = 50 → D'.1 k 0 = D.1 k 0
theorem zk_refl (D : rf_C) : zk D D := fun _ _ => rfl
theorem zk.t {D E F : rf_C} (h : zk D E) (h' : zk E F) : zk D F := fun k hk => (h' k hk).trans (h k hk)
theorem zk_sI {D D' : rf_C} {k j : Nat} {x : Int32} (h : zk D D') (hk : k ≠ 0 ∧ k ≠ 50) : zk D (rf_sI D' k j x) := fun q hq => (rf_sI_ne _ _ (by omega)).trans (h q hq)
theorem zk_sX {D D' : rf_C} {r : Nat} {zs : List rf_m} (h : zk D D') : zk D (rf_sX D' r zs) := h
theorem zk_put (D : rf_C) (r : Nat) (μ : rf_m) : zk D (rs_put D r μ) := zk_sX (zk_refl D)
theorem zk_come (D : rf_C) (s : Nat) (x : Int32) : zk D (rs_D_come D s x) := zk_sI (zk_sI (zk_refl D) (by decide)) (by decide)
theorem zk_ch1 (D : rf_C) (s : Nat) (a : Int32) : zk D (rs_ch1 D s a) := by
  unfold rs_ch1 rs_mvB rs_mvA
  exact zk_sI (zk_sX (zk_sX (zk_sX (zk_sX (zk_sI (zk_refl D) (by decide)))))) (by decide)
theorem zk_chN (D : rf_C) (s : Nat) : zk D (rs_chN D s) := by
  unfold rs_chN
  exact zk_sI (zk_sI (zk_sI (zk_sI (zk_sI (zk_refl D) (by decide)) (by decide)) (by decide)) (by decide)) (by decide)
theorem zk_change (D : rf_C) (s : Nat) : zk D (rs_change D s) := by
  unfold rs_change
  split
  · exact (zk_chN D s).t (zk_ch1 _ _ _)
  · exact zk_ch1 _ _ _
theorem zk_fa0 (D : rf_C) (s : Nat) : zk D (rs_fa0 D s) := zk_sI (zk_come D s 0) (by decide)
theorem zk_fa1 (D : rf_C) (s : Nat) : zk D (rs_fa1 D s) := zk_sI (zk_sI (zk_fa0 D s) (by decide)) (by decide)
theorem zk_fall (D : rf_C) (s : Nat) : zk D (rs_D_fall D s) := by
  unfold rs_D_fall
  split
  · exact (zk_fa1 D s).t (zk_change _ _)
  · exact zk_fa0 D s
theorem zk_settle (D : rf_C) (s : Nat) (x : Int32) : zk D (rs_settle D s x) := zk_sI (zk_sX (zk_refl D)) (by decide)
theorem zk_say (D : rf_C) (e : Nat) (μ : rf_m) : zk D (rs_say D e μ) := by
  unfold rs_say
  repeat' split
  · exact zk_put _ _ _
  · exact zk_put _ _ _
  · exact zk_put _ _ _
  · exact zk_refl D
theorem zk_giveUp (D : rf_C) (s : Nat) : zk D (rs_giveUp D s) := by
  unfold rs_giveUp rs_gu
  exact zk_sI (zk_sI (zk_sX (zk_refl D)) (by decide)) (by decide)
theorem zk_status (D : rf_C) (s t : Nat) : zk D (rs_D_status D s t) := by
  have hF := zk_fall
  have hC := zk_come
  unfold rs_D_status
  generalize rs_D_fall = f at *
  generalize rs_D_come = c at *
  repeat' split
  all_goals repeat first | exact zk_refl D | exact hC _ _ _ | exact hF _ _ | refine zk_sI ?_ (by decide) | refine zk.t ?_ (hF _ _) | refine zk.t ?_ (hC _ _ _)
theorem zk_damaged (D : rf_C) (s : Nat) : zk D (rs_D_damaged D s) := by
  have hF := zk_fall
  have hC := zk_come
  unfold rs_D_damaged
  generalize rs_D_fall = f at *
  generalize rs_D_come = c at *
  repeat' split
  all_goals repeat first | exact zk_refl D | exact hC _ _ _ | exact hF _ _ | refine zk_sI ?_ (by decide) | refine zk.t ?_ (hF _ _) | refine zk.t ?_ (hC _ _ _)
theorem zk_age (D : rf_C) (s : Nat) : zk D (rs_D_age D s) := by
  have hF := zk_fall
  have hC := zk_come
  unfold rs_D_age
  generalize rs_D_fall = f at *
  generalize rs_D_come = c at *
  repeat' split
  all_goals repeat first | exact zk_refl D | exact hC _ _ _ | exact hF _ _ | refine zk_sI ?_ (by decide) | refine zk.t ?_ (hF _ _) | refine zk.t ?_ (hC _ _ _)
theorem zk_od0 (D : rf_C) (s : Nat) (y : Int32) : zk D (rs_od0 D s y) := by
  unfold rs_od0
  repeat' split
  · exact zk_fall _ _
  · exact zk_refl D
  · exact zk_refl D
theorem zk_od2 (D : rf_C) (s : Nat) (x y : Int32) : zk D (rs_od2 D s x y) := by
  unfold rs_od2
  repeat' split
  · exact zk_settle _ _ _
  · exact zk_refl D
  · exact zk_refl D
theorem zk_order (D : rf_C) (e l u : Nat) (x : Int32) : zk D (rs_takeOrder D e l u x) := by
  unfold rs_takeOrder rs_od1
  exact ((zk_od0 _ _ _).t (zk_say _ _ _)).t (zk_od2 _ _ _ _)
theorem zk_taken (D : rf_C) (e t : Nat) : zk D (rs_isTaken D e t) := by
  unfold rs_isTaken
  repeat' split
  · exact zk_order _ _ _ _ _
  · exact zk_settle _ _ _
  · exact zk_refl D
  · exact zk_refl D
  · exact zk_put _ _ _
theorem zk_good (D : rf_C) (s : Nat) : zk D (rs_good D s) := by
  unfold rs_good
  split
  · exact zk_sI (zk_sI (zk_sI (zk_refl D) (by decide)) (by decide)) (by decide)
  · exact zk_sI (zk_refl D) (by decide)
theorem zk_odd (D : rf_C) (s : Nat) : zk D (rs_odd D s) := by
  unfold rs_odd
  split
  · exact (zk_sI (zk_refl D) (by decide) : zk D (rf_sI D 26 s (D.1 26 s + 1))).t (zk_fall _ _)
  · exact zk_sI (zk_refl D) (by decide)
theorem zk_svP (D : rf_C) (l e t : Nat) : zk D (rs_svP D l e t) := by
  have h1 : ∀ E s n, zk E (rs_sv1 E s n) := fun E s n => zk_sI (zk_sI (zk_refl E) (by decide)) (by decide)
  have h2 : ∀ E s n, zk E (rs_sv2 E s n) := fun E s n => zk_sX (zk_refl E)
  have h3 : ∀ E s n, zk E (rs_sv3 E s n) := fun E s n => zk_sI (zk_refl E) (by decide)
  have h4 : ∀ E s n, zk E (rs_sv4 E s n) := fun E s n => by
    unfold rs_sv4
    split
    · exact zk_refl E
    · exact zk_sI (zk_sI (zk_refl E) (by decide)) (by decide)
  unfold rs_svP
  exact (((h1 _ _ _).t (h2 _ _ _)).t (h3 _ _ _)).t (h4 _ _ _)
theorem zk_svB (D : rf_C) (s t : Nat) : zk D (rs_svB D s t) := by
  unfold rs_svB
  split
  · exact zk_refl D
  · exact zk_sI (zk_refl D) (by decide)
theorem zk_sv5 (D : rf_C) (l e t : Nat) : zk D (rs_sv5 D l e t) := by
  unfold rs_sv5
  repeat' split
  · exact (zk_sI (zk_refl D) (by decide) : zk D (rf_sI D 18 (2 * l + e) (D.1 34 t))).t (zk_taken _ _ _)
  · exact zk_svB _ _ _
  · exact zk_svB _ _ _
  · exact zk_refl D
theorem zk_served (D : rf_C) (l e t : Nat) : zk D (rs_served D l e t) := by
  unfold rs_served rs_sv0
  have g := zk_good D (2 * l + e)
  generalize rs_good D (2 * l + e) = E at *
  split
  · exact g.t ((zk_svP _ _ _ _).t (zk_sv5 _ _ _ _))
  · exact g.t (zk_odd _ _)
theorem zk_dl2 (D : rf_C) (l e t : Nat) : zk D (rs_dl2 D l e t) := by
  have h3 : ∀ E, zk E (rs_dl3 E l e t) := fun E => by
    unfold rs_dl3
    split
    · exact zk_served _ _ _ _
    · exact zk_refl E
  unfold rs_dl2
  repeat' split
  · exact (zk_come _ _ _).t (h3 _)
  · exact h3 _
  · exact zk_status _ _ _
/-- what comes is counted -/
theorem dl_came {C : cr_C} {D : rf_C} (h : sm C D) {l e : Nat} (hl : l < 3) (he : e < 2) : (rs_deliver D l e).1 0 0 = D.1 0 0 ∧ (rs_deliver D l e).1 50 0 = D.1 50 0 + (cs_P_arrive C l e).1 := by
  have hs : 2 * l + e < 6 := by omega
  have ht : 2 * l + (1 - e) < 6 := by omega
  have y0 : D.1 50 0 + (0 : Int32) = D.1 50 0 := Int32.add_zero _
  unfold rs_deliver cs_P_arrive cs_P_arr1 rs_dl0
  generalize 2 * l + (1 - e) = t at *
  have z0 : D.1 32 t = 0 ↔ C.1 3 t 0 = 0 := by
    obtain ⟨-, hU⟩ := (h.1 t ht).2.2.1
    rcases hU with ⟨f, d⟩ | ⟨f, d⟩ | ⟨f, d⟩ | ⟨f, d⟩ | ⟨f, -, -, -, -, g⟩
    · rw [f, d]
    · rw [f, d]; exact ⟨fun e => absurd e (by decide), fun e => absurd e (by decide)⟩
    · rw [f, d]; exact ⟨fun e => absurd e (by decide), fun e => absurd e (by decide)⟩
    · rw [f, d]; exact ⟨fun e => absurd e (by decide), fun e => absurd e (by decide)⟩
    · rcases g with ⟨-, d⟩ | ⟨μ, -, d, -⟩ <;> rw [f, d] <;> exact ⟨fun e => absurd e (by decide), fun e => absurd e (by decide)⟩
  obtain ⟨f30, f31⟩ := (h.1 (2 * l + e) hs).2.2.2.1
  have norm : ∀ (y : Int32), (rs_dl1 (rf_sI D 31 (2 * l + e) y) l e t 0).1 0 0 = D.1 0 0 ∧ (rs_dl1 (rf_sI D 31 (2 * l + e) y) l e t 0).1 50 0 = D.1 50 0 + 1 := fun y => by
    unfold rs_dl1
    rw [if_neg (show ¬ (0 : Int32) = 2 by decide), if_pos rfl]
    have z := zk_dl2 (rf_sI (rf_sI D 31 (2 * l + e) y) 50 0 ((rf_sI D 31 (2 * l + e) y).1 50 0 + 1)) l e t
    refine ⟨(z 0 (Or.inl rfl)).trans ?_, (z 50 (Or.inr rfl)).trans ?_⟩
    · rw [rf_sI_ne _ _ (by omega), rf_sI_ne _ _ (by omega)]
    · rw [rf_sI_at, rf_sI_ne _ _ (by omega)]
  by_cases c0 : C.1 3 t 0 = 0
  · rw [if_pos c0, if_pos (z0.mpr c0)]
    exact ⟨rfl, y0.symm⟩
  · rw [if_neg c0, if_neg (fun e => c0 (z0.mp e))]
    have one : ∀ (a b : cr_C), (if C.1 3 t 0 = 4 then ((1 : Int32), a) else (1, b)).1 = 1 := fun a b => by split <;> rfl
    rcases f31 with ⟨a, b⟩ | ⟨a, b⟩
    · rw [b]
      by_cases cl : C.1 4 (2 * l + e) 1 ≤ 0
      · rw [if_pos cl, if_pos cl, one]
        exact norm 0
      · rw [if_neg cl, if_neg cl, f30, cr_sI_ne _ _ (by omega)]
        unfold rs_dl1
        have zz : zk D (rf_sI D 31 (2 * l + e) (C.1 4 (2 * l + e) 1 - 1)) := zk_sI (zk_refl D) (by decide)
        by_cases c2 : C.1 4 (2 * l + e) 0 = 2
        · rw [if_pos c2, if_pos c2]
          have z := zz.t (zk_damaged _ (2 * l + e))
          exact ⟨z 0 (Or.inl rfl), (z 50 (Or.inr rfl)).trans y0.symm⟩
        · rw [if_neg c2, if_neg c2, if_neg a]
          exact ⟨zz 0 (Or.inl rfl), (zz 50 (Or.inr rfl)).trans y0.symm⟩
    · rw [b, if_pos (show (0 : Int32) ≤ 0 by decide), f30, a, one]
      split
      · exact norm 0
      · exact norm _
theorem zk_send (D : rf_C) (s : Nat) : zk D (rs_send D s) := by
  have h0 : zk D (rs_sn0 D s) := by
    unfold rs_sn0
    exact zk_sI (zk_sI (zk_sI (zk_sI (zk_refl D) (by decide)) (by decide)) (by decide)) (by decide)
  have hE : ∀ E, zk E (rs_snE E s) := fun E => by
    unfold rs_snE
    exact zk_sI (zk_sI (zk_sI (zk_refl E) (by decide)) (by decide)) (by decide)
  have hc : ∀ E μ y, zk E (rs_D_carry E s μ y) := fun E μ y => by
    unfold rs_D_carry
    exact zk_sI (zk_sI (zk_sI (zk_sI (zk_sI (zk_sI (zk_refl E) (by decide)) (by decide)) (by decide)) (by decide)) (by decide)) (by decide)
  have hf : ∀ E μ zs, zk E (rs_first E s μ zs) := fun E μ zs => by
    unfold rs_first rs_fi1 rs_fi0 rs_put
    exact (zk_sI (zk_sX (zk_sI (zk_sX (zk_refl E)) (by decide))) (by decide)).t (hc _ _ _)
  have ha : ∀ E, zk E (rs_again E s) := fun E => by
    unfold rs_again
    exact zk_sI (hc _ _ _) (by decide)
  have hn : ∀ E, zk E (rs_new E s) := fun E => by
    unfold rs_new
    repeat' split
    all_goals first | exact zk_refl E | exact hf _ _ _
  have h1 : ∀ E, zk E (rs_sn1 E s) := fun E => by
    unfold rs_sn1
    split
    · exact hn E
    · exact ha E
  unfold rs_send
  split
  · exact h0.t ((h1 _).t (hE _))
  · exact h0.t (hE _)
theorem zk_move (D : rf_C) (e k : Nat) : zk D (rs_move D e k) := zk_sI (zk_refl D) (by decide)
theorem zk_pass (D : rf_C) (e : Nat) (μ : rf_m) : zk D (rs_passOn D e μ) := by
  unfold rs_passOn
  split
  · exact zk_say _ _ _
  · exact (zk_move _ _ _).t (zk_put _ _ _)
theorem zk_pas (e : Nat) : ∀ (zs : List rf_m) (D : rf_C), zk D (rs_pas e zs D) := by
  intro zs
  induction zs with
  | nil => intro D; exact zk_refl D
  | cons μ zs ih => intro D; exact (zk_pass D e μ).t (ih _)
theorem zk_mvs (D : rf_C) (e l : Nat) : zk D (rs_mvs D e l) := by
  have h : ∀ E k, zk E (rs_mv E e l k) := fun E k => by
    unfold rs_mv
    split
    · exact zk_move _ _ _
    · exact zk_refl E
  unfold rs_mvs
  exact (((h _ _).t (h _ _)).t (h _ _)).t (h _ _)
theorem zk_lgC (e : Nat) (y : Int32) : ∀ (zs pre : List rf_m) (D : rf_C), zk D (rs_lgC e y zs pre D) := by
  intro zs
  induction zs with
  | nil => intro pre D; exact zk_refl D
  | cons μ zs ih =>
    intro pre D
    have ed : rs_lgC e y (μ :: zs) pre D = if ((y >>> (μ.1 &&& 31)) &&& 1) = 1 then rs_lgC e y zs pre (rs_put (rf_sX D (18 + e) (zs ++ pre)) (6 + (2 * rf_lk D e (rf_kd μ) + e)) μ) else rs_lgC e y zs (pre ++ [μ]) (rf_sX D (18 + e) (zs ++ (pre ++ [μ]))) := rfl
    rw [ed]
    split
    · exact ((zk_sX (zk_refl D)).t (zk_put _ _ _)).t (ih _ _)
    · exact (zk_sX (zk_refl D)).t (ih _ _)
theorem zk_end (D : rf_C) (l e : Nat) : zk D (rs_end D l e) := by
  unfold rs_end rs_en2 rs_en1
  have h0 : zk D (rf_sI D 42 (2 * l + e) 0) := zk_sI (zk_refl D) (by decide)
  exact ((h0.t ((zk_sX (zk_refl _)).t (zk_pas _ _ _))).t (zk_mvs _ _ _)).t (zk_lgC _ _ _ _ _)
theorem zk_tc (D : rf_C) (l e : Nat) : zk D (rs_tickChange D l e) := by
  unfold rs_tickChange
  split
  · exact zk_refl D
  · have h1 : zk D (rs_tc1 D l e (rf_sm D e)) := by
      unfold rs_tc1 rs_or
      repeat' split
      · exact zk_refl D
      · exact zk_sI (zk_say _ _ _) (by decide)
      · exact zk_refl D
      · exact zk_refl D
    have h2 : ∀ E, zk E (rs_tw E (2 * l + e)) := fun E => zk_sI (zk_refl E) (by decide)
    have h3 : ∀ E, zk E (rs_tc2 E (2 * l + e) (rf_sm D e)) := fun E => by
      unfold rs_tc2
      repeat' split
      · exact zk_refl E
      · exact zk_refl E
      · exact zk_giveUp _ _
      · exact zk_refl E
    have h4 : ∀ E, zk E (rs_tc3 E l e) := fun E => by
      unfold rs_tc3
      repeat' split
      · exact zk_sI (zk_refl E) (by decide)
      · exact (zk_sI (zk_refl E) (by decide) : zk E (rf_sI E 42 (2 * l + e) 2)).t (zk_end _ _ _)
      · exact zk_refl E
    exact ((h1.t (h2 _)).t (h3 _)).t (h4 _)
/-! what was thrown after the face's calls -/
theorem z_start (D : rf_C) (l e : Nat) : (rs_D_start D l e).2.1 0 0 = 0 := by
  have h0 : (rf_sI D 0 0 0).1 0 0 = 0 := rf_sI_at _ _ _ _
  unfold rs_D_start
  split
  · have z : zk (rf_sI D 0 0 0) (rs_D_begin (rf_sI (rs_D_come (rf_sI D 0 0 0) (2 * l + e) 1) 14 (2 * l + e) ((rs_D_come (rf_sI D 0 0 0) (2 * l + e) 1).1 14 (2 * l + e) + 1)) (2 * l + e)) := by
      have z1 : zk (rf_sI D 0 0 0) (rf_sI (rs_D_come (rf_sI D 0 0 0) (2 * l + e) 1) 14 (2 * l + e) ((rs_D_come (rf_sI D 0 0 0) (2 * l + e) 1).1 14 (2 * l + e) + 1)) := zk_sI (zk_come _ _ _) (by decide)
      generalize rf_sI (rs_D_come (rf_sI D 0 0 0) (2 * l + e) 1) 14 (2 * l + e) ((rs_D_come (rf_sI D 0 0 0) (2 * l + e) 1).1 14 (2 * l + e) + 1) = E at *
      unfold rs_D_begin
      exact zk_sX (zk_sX (zk_sI (zk_sI (zk_sI (zk_sI (zk_sI (zk_sI (zk_sI (zk_sI (zk_sI (zk_sI (zk_sI z1 (by decide)) (by decide)) (by decide)) (by decide)) (by decide)) (by decide)) (by decide)) (by decide)) (by decide)) (by decide)) (by decide)))
    exact (z 0 (Or.inl rfl)).trans h0
  · exact h0
theorem z_stop (D : rf_C) (l e : Nat) : (rs_D_stop D l e).2.1 0 0 = 0 := by
  have h0 : (rf_sI D 0 0 0).1 0 0 = 0 := rf_sI_at _ _ _ _
  unfold rs_D_stop
  split
  · exact h0
  · exact (zk_fall _ _ 0 (Or.inl rfl)).trans h0
theorem z_submit (D : rf_C) (e k : Nat) (x : Int32) : (rs_submit D e k x).2.1 0 0 = 0 := by
  have h0 : (rf_sI D 0 0 0).1 0 0 = 0 := rf_sI_at _ _ _ _
  have hT : ∀ E l, zk E (rs_sbT E e k l x).2 := fun E l => by
    unfold rs_sbT
    split
    · exact zk_put _ _ _
    · exact zk_refl E
  have h2 : ∀ E, zk E (rs_sb2 E e k x).2 := fun E => by
    unfold rs_sb2
    repeat' split
    · exact (zk_move _ _ _).t (hT _ _)
    · exact (zk_move _ _ _).t (hT _ _)
    · exact (zk_move _ _ _).t (hT _ _)
    · exact zk_refl E
  have hO : ∀ E l, zk E (rs_sbO E e k l x).2 := fun E l => by
    unfold rs_sbO
    split
    · exact h2 E
    · exact hT E l
  have h1 : ∀ E l, zk E (rs_sb1 E e k l x).2 := fun E l => by
    unfold rs_sb1
    repeat' split
    · exact h2 E
    · exact hO E l
    · exact hO E l
  have h : zk (rf_sI D 0 0 0) (rs_submit D e k x).2 := by
    unfold rs_submit rs_sb0
    repeat' split
    · exact h1 _ _
    · exact zk_refl _
    · exact zk_put _ _ _
  exact (h 0 (Or.inl rfl)).trans h0
