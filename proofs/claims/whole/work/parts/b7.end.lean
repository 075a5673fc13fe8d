/-! the reference: the open link for a class; a changeover comes to its end -/
def rs_D_chosen (D : rf_C) (e k : Nat) : Int32 × rf_C := match k with
  | 0 => rs_D_chosen0 D e
  | 1 => rs_D_chosen1 D e
  | 2 => rs_D_chosen2 D e
  | _ => rs_D_chosen3 D e
theorem rs_isOpen2 (D : rf_C) (e l : Nat) : (rs_D_isOpen D e l).2 = D := by
  unfold rs_D_isOpen
  repeat' split
  all_goals rfl
theorem rs_chosen2 (D : rf_C) (e k : Nat) : (rs_D_chosen D e k).2 = D := by
  unfold rs_D_chosen
  split
  · unfold rs_D_chosen0
    simp only [rs_isOpen2]
    repeat' split
    all_goals rfl
  · unfold rs_D_chosen1
    simp only [rs_isOpen2]
    repeat' split
    all_goals rfl
  · unfold rs_D_chosen2
    simp only [rs_isOpen2]
    repeat' split
    all_goals rfl
  · unfold rs_D_chosen3
    simp only [rs_isOpen2]
    repeat' split
    all_goals rfl
theorem rs_chosen1 (D : rf_C) (e k : Nat) : (rs_D_chosen D e k).1 = 0 ∨ (rs_D_chosen D e k).1 = 1 ∨ (rs_D_chosen D e k).1 = 2 ∨ (rs_D_chosen D e k).1 = -1 := by
  unfold rs_D_chosen
  split
  · unfold rs_D_chosen0
    repeat' split
    all_goals (first | exact Or.inl rfl | exact Or.inr (Or.inl rfl) | exact Or.inr (Or.inr (Or.inl rfl)) | exact Or.inr (Or.inr (Or.inr rfl)))
  · unfold rs_D_chosen1
    repeat' split
    all_goals (first | exact Or.inl rfl | exact Or.inr (Or.inl rfl) | exact Or.inr (Or.inr (Or.inl rfl)) | exact Or.inr (Or.inr (Or.inr rfl)))
  · unfold rs_D_chosen2
    repeat' split
    all_goals (first | exact Or.inl rfl | exact Or.inr (Or.inl rfl) | exact Or.inr (Or.inr (Or.inl rfl)) | exact Or.inr (Or.inr (Or.inr rfl)))
  · unfold rs_D_chosen3
    repeat' split
    all_goals (first | exact Or.inl rfl | exact Or.inr (Or.inl rfl) | exact Or.inr (Or.inr (Or.inl rfl)) | exact Or.inr (Or.inr (Or.inr rfl)))
/-- some link of an end is open -/
def rf_op (D : rf_C) (e : Nat) : Prop := ∀ k, k < 4 → (rs_D_chosen D e k).1 ≠ -1
def rf_kd (μ : rf_m) : Nat := μ.1.toNatClampNeg
def rf_lk (D : rf_C) (e k : Nat) : Nat := (D.1 48 (4 * e + k)).toNatClampNeg
def rf_Lk (D : rf_C) (e : Nat) : Prop := ∀ k, k < 4 → D.1 48 (4 * e + k) = Int32.ofNat (rf_lk D e k) ∧ rf_lk D e k < 3
def rf_mo (μ : rf_m) : Prop := ¬ (4 : Int32) ≤ μ.1 → μ.1 = Int32.ofNat (rf_kd μ) ∧ rf_kd μ < 4
def rf_mc (μ : rf_m) : Prop := μ.1 = Int32.ofNat (rf_kd μ) ∧ rf_kd μ < 4
def rs_move (D : rf_C) (e k : Nat) : rf_C := rf_sI D 48 (4 * e + k) (rs_D_chosen D e k).1
def rs_pass (D : rf_C) (e : Nat) (μ : rf_m) : rf_C := rs_put (rs_move D e (rf_kd μ)) (6 + (2 * rf_lk (rs_move D e (rf_kd μ)) e (rf_kd μ) + e)) μ
def rs_passOn (D : rf_C) (e : Nat) (μ : rf_m) : rf_C := if (4 : Int32) ≤ μ.1 then rs_say D e μ else rs_pass D e μ
def rs_pas (e : Nat) : List rf_m → rf_C → rf_C
  | [], D => D
  | μ :: zs, D => rs_pas e zs (rs_passOn D e μ)
def rf_mst (D : rf_C) (e l : Nat) (x : Int32) (c : Nat) : Int32 := if D.1 48 (4 * e + c) = Int32.ofNat l then x ||| ((1 : Int32) <<< (Int32.ofNat c &&& 31)) else x
def rf_mi (D : rf_C) (e l : Nat) : Int32 := rf_mst D e l (rf_mst D e l (rf_mst D e l (rf_mst D e l 0 0) 1) 2) 3
theorem rf_mi_bit (D : rf_C) (e l : Nat) {k : Nat} (hk : k < 4) : ((rf_mi D e l >>> (Int32.ofNat k &&& 31)) &&& 1) = 1 ↔ D.1 48 (4 * e + k) = Int32.ofNat l := by
  unfold rf_mi rf_mst
  rcases (show k = 0 ∨ k = 1 ∨ k = 2 ∨ k = 3 by omega) with rfl | rfl | rfl | rfl
  all_goals
    by_cases h0 : D.1 48 (4 * e + 0) = Int32.ofNat l <;> by_cases h1 : D.1 48 (4 * e + 1) = Int32.ofNat l <;> by_cases h2 : D.1 48 (4 * e + 2) = Int32.ofNat l <;> by_cases h3 : D.1 48 (4 * e + 3) = Int32.ofNat l <;> simp only [h0, h1, h2, h3, if_true, if_false, iff_true, iff_false] <;> decide
def rs_lgC (e : Nat) (y : Int32) : List rf_m → List rf_m → rf_C → rf_C
  | [], _, D => D
  | μ :: zs, pre, D => if ((y >>> (μ.1 &&& 31)) &&& 1) = 1 then rs_lgC e y zs pre (rs_put (rf_sX D (18 + e) (zs ++ pre)) (6 + (2 * rf_lk D e (rf_kd μ) + e)) μ) else rs_lgC e y zs (pre ++ [μ]) (rf_sX D (18 + e) (zs ++ (pre ++ [μ])))
def rs_mv (D : rf_C) (e l k : Nat) : rf_C := if D.1 48 (4 * e + k) = Int32.ofNat l then rs_move D e k else D
def rs_mvs (D : rf_C) (e l : Nat) : rf_C := rs_mv (rs_mv (rs_mv (rs_mv D e l 0) e l 1) e l 2) e l 3
def rs_en1 (D : rf_C) (e l : Nat) : rf_C := rs_pas e (D.2 (12 + (2 * l + e))) (rf_sX D (12 + (2 * l + e)) [])
def rs_en2 (D : rf_C) (e : Nat) (y : Int32) : rf_C := rs_lgC e y (D.2 (18 + e)) [] D
def rs_end (D : rf_C) (l e : Nat) : rf_C := rs_en2 (rs_mvs (rs_en1 (rf_sI D 42 (2 * l + e) 0) e l) e l) e (rf_mi (rf_sI D 42 (2 * l + e) 0) e l)
theorem rs_move_L {D : rf_C} {e k : Nat} (h : rf_Lk D e) (ho : (rs_D_chosen D e k).1 ≠ -1) : rf_Lk (rs_move D e k) e := by
  intro k' hk'
  unfold rf_lk rs_move
  by_cases e1 : k' = k
  · subst e1
    have e2 : (rf_sI D 48 (4 * e + k') (rs_D_chosen D e k').1).1 48 (4 * e + k') = (rs_D_chosen D e k').1 := rf_u_at D.1 48 (4 * e + k') (rs_D_chosen D e k').1
    rw [e2]
    rcases rs_chosen1 D e k' with e3 | e3 | e3 | e3
    · rw [e3]; exact ⟨by decide, by decide⟩
    · rw [e3]; exact ⟨by decide, by decide⟩
    · rw [e3]; exact ⟨by decide, by decide⟩
    · exact absurd e3 ho
  · have e2 : (rf_sI D 48 (4 * e + k) (rs_D_chosen D e k).1).1 48 (4 * e + k') = D.1 48 (4 * e + k') := rf_u_ne D.1 _ (by omega)
    rw [e2]
    exact h k' hk'
theorem rs_serving_I {D D' : rf_C} (h : D'.1 = D.1) (e : Nat) : (rs_D_serving D' e).1 = (rs_D_serving D e).1 := by
  unfold rs_D_serving
  rw [h]
  repeat' split
  all_goals first | rfl | contradiction
theorem rs_isOpen_I {D D' : rf_C} (h : D'.1 = D.1) (e l : Nat) : (rs_D_isOpen D' e l).1 = (rs_D_isOpen D e l).1 := by
  unfold rs_D_isOpen
  rw [h]
  repeat' split
  all_goals first | rfl | contradiction
theorem rs_isOpen_J {D D' : rf_C} (h : ∀ k j, k = 12 ∨ k = 42 → D'.1 k j = D.1 k j) (e l : Nat) : (rs_D_isOpen D' e l).1 = (rs_D_isOpen D e l).1 := by
  unfold rs_D_isOpen
  rw [h 12 _ (Or.inl rfl), h 42 _ (Or.inr rfl)]
  repeat' split
  all_goals first | rfl | contradiction
/-- the choice hangs on the states and the changeovers alone -/
theorem rs_chosen_J {D D' : rf_C} (h : ∀ k j, k = 12 ∨ k = 42 → D'.1 k j = D.1 k j) (e k : Nat) : (rs_D_chosen D' e k).1 = (rs_D_chosen D e k).1 := by
  unfold rs_D_chosen
  split
  · unfold rs_D_chosen0
    simp only [rs_isOpen2, rs_isOpen_J h]
    repeat' split
    all_goals first | rfl | contradiction
  · unfold rs_D_chosen1
    simp only [rs_isOpen2, rs_isOpen_J h]
    repeat' split
    all_goals first | rfl | contradiction
  · unfold rs_D_chosen2
    simp only [rs_isOpen2, rs_isOpen_J h]
    repeat' split
    all_goals first | rfl | contradiction
  · unfold rs_D_chosen3
    simp only [rs_isOpen2, rs_isOpen_J h]
    repeat' split
    all_goals first | rfl | contradiction
theorem rf_op.of {D D' : rf_C} {e : Nat} (ho : rf_op D e) (h : ∀ k j, k = 12 ∨ k = 42 → D'.1 k j = D.1 k j) : rf_op D' e := fun k hk => by rw [rs_chosen_J h]; exact ho k hk
theorem rs_put_X (D : rf_C) {r q : Nat} (zs : List rf_m) (μ : rf_m) (h : q ≠ r) : rs_put (rf_sX D r zs) q μ = rf_sX (rs_put D q μ) r zs := by
  unfold rs_put
  rw [rf_sX_ne _ _ h, rf_sX_comm _ _ _ h]
theorem rs_say_X (D : rf_C) {e r : Nat} (zs : List rf_m) (μ : rf_m) (he : e < 2) (hr : r < 6 ∨ 12 ≤ r) : rs_say (rf_sX D r zs) e μ = rf_sX (rs_say D e μ) r zs := by
  unfold rs_say
  rw [rs_serving_I (show (rf_sX D r zs).1 = D.1 from rfl)]
  repeat' split
  · exact rs_put_X _ _ _ (by omega)
  · exact rs_put_X _ _ _ (by omega)
  · exact rs_put_X _ _ _ (by omega)
  · rfl
theorem rs_move_X (D : rf_C) (e k r : Nat) (zs : List rf_m) : rs_move (rf_sX D r zs) e k = rf_sX (rs_move D e k) r zs := by
  unfold rs_move
  rw [rs_chosen_J (D' := rf_sX D r zs) (D := D) (fun _ _ _ => rfl)]
  rfl
theorem rs_passOn_X {D : rf_C} {e r : Nat} (zs : List rf_m) {μ : rf_m} (he : e < 2) (hL : rf_Lk D e) (ho : rf_op D e) (hm : rf_mo μ) (hr : r < 6 ∨ 12 ≤ r) : rs_passOn (rf_sX D r zs) e μ = rf_sX (rs_passOn D e μ) r zs := by
  unfold rs_passOn
  split
  · exact rs_say_X _ _ _ he hr
  · rename_i c
    unfold rs_pass
    rw [rs_move_X]
    have hk := (hm c).2
    have hl := (rs_move_L hL (ho _ hk) _ hk).2
    show rs_put (rf_sX (rs_move D e (rf_kd μ)) r zs) (6 + (2 * rf_lk (rs_move D e (rf_kd μ)) e (rf_kd μ) + e)) μ = _
    exact rs_put_X _ _ _ (by omega)
theorem rs_say_I (D : rf_C) (e : Nat) (μ : rf_m) : (rs_say D e μ).1 = D.1 := by
  unfold rs_say
  repeat' split
  all_goals rfl
theorem rs_passOn_J (D : rf_C) (e : Nat) (μ : rf_m) (k j : Nat) (hk : k ≠ 48) : (rs_passOn D e μ).1 k j = D.1 k j := by
  unfold rs_passOn
  split
  · rw [rs_say_I]
  · exact rf_u_ne D.1 _ (fun e => hk e.1)
theorem rs_passOn_L {D : rf_C} {e : Nat} {μ : rf_m} (hL : rf_Lk D e) (ho : rf_op D e) (hm : rf_mo μ) : rf_Lk (rs_passOn D e μ) e := by
  unfold rs_passOn
  split
  · intro k hk
    have := hL k hk
    unfold rf_lk at this ⊢
    rw [rs_say_I]
    exact this
  · rename_i c
    exact rs_move_L hL (ho _ (hm c).2)
theorem rs_passOn_row {D : rf_C} {e r : Nat} {μ : rf_m} (he : e < 2) (hL : rf_Lk D e) (ho : rf_op D e) (hm : rf_mo μ) (hr : r < 6 ∨ 12 ≤ r) : (rs_passOn D e μ).2 r = D.2 r := by
  have h1 := rs_passOn_X (D.2 r) he hL ho hm hr
  rw [rf_sX_same] at h1
  rw [h1, rf_sX_at]
theorem rs_pas_ok {e : Nat} (he : e < 2) : ∀ (zs : List rf_m) (D : rf_C), rf_Lk D e → rf_op D e → (∀ μ ∈ zs, rf_mo μ) → rf_Lk (rs_pas e zs D) e ∧ (∀ k j, k ≠ 48 → (rs_pas e zs D).1 k j = D.1 k j) ∧ ∀ r, (r < 6 ∨ 12 ≤ r) → (rs_pas e zs D).2 r = D.2 r := by
  intro zs
  induction zs with
  | nil => intro D hL _ _; exact ⟨hL, fun _ _ _ => rfl, fun _ _ => rfl⟩
  | cons μ zs ih =>
    intro D hL ho hm
    have hm1 := hm μ List.mem_cons_self
    obtain ⟨a, b, c⟩ := ih (rs_passOn D e μ) (rs_passOn_L hL ho hm1) (ho.of (fun k j hk => rs_passOn_J D e μ k j (by omega))) (fun ν hν => hm ν (List.mem_cons_of_mem _ hν))
    exact ⟨a, fun k j hk => (b k j hk).trans (rs_passOn_J D e μ k j hk), fun r hr => (c r hr).trans (rs_passOn_row he hL ho hm1 hr)⟩
section RfX
variable {G : ev_gx} {M : ev_mx} {d pc pc' tgt : Nat} {L : List (Nat × Value)} {st : List Value} {w w1 F : ev_wd} {P : ev_r → ev_wd → Prop} {D D' : rf_C} {H : Option (Nat × rf_m)} {Q : Nat → rf_m → Prop}
theorem k_D_chosen {e k : Nat} (he : e < 2) (hk : k < 4) (h : rf_K G w D H F Q) : ev_E G mm_D_chosen (d + 1) 0 (lv_args 0 [.ref (ev_b G + 77), .int (Int32.ofNat e), .int (Int32.ofNat k)]) [] w (rf_yi G F Q H (rs_D_chosen D e k)) := by
  have hk4 : k = 0 ∨ k = 1 ∨ k = 2 ∨ k = 3 := by omega
  rcases hk4 with rfl | rfl | rfl | rfl
  · exact k_D_chosen0 he h
  · exact k_D_chosen1 he h
  · exact k_D_chosen2 he h
  · exact k_D_chosen3 he h
theorem k_D_enM {e l c : Nat} {x : Int32} {L : List (Nat × Value)} (he : e < 2) (hc : c < 4) (h : rf_K G w D H F Q)
    (kk : ev_E G mm_D_end (d + 1) 21 [(0, .ref (ev_b G + 77)), (1, .int (Int32.ofNat (2 * l + e))), (2, .int (Int32.ofNat e)), (3, .int (Int32.ofNat l)), (4, .int (rf_mst D e l x c)), (5, .int (Int32.ofNat (c + 1)))] [] w P) :
    ev_E G mm_D_end (d + 1) 21 [(0, .ref (ev_b G + 77)), (1, .int (Int32.ofNat (2 * l + e))), (2, .int (Int32.ofNat e)), (3, .int (Int32.ofNat l)), (4, .int x), (5, .int (Int32.ofNat c))] [] w P := by
  unfold rf_mst at kk
  refine ev_iload dd_D_end_21 rfl ?_
  refine ev_ic (v := 4) dd_D_end_23 (by decide +kernel) ?_
  refine ev_icmp_ge dd_D_end_24 (fun hc2 => absurd hc2 (nI_ge (b := 4) hc (by decide))) (fun _ => ?_)
  refine ev_aload_n dd_D_end_27 rfl ?_
  refine R_gA (k := 48) dd_D_end_28 fr_D_150 h rfl ?_
  refine ev_ic (v := 4) dd_D_end_31 (by decide +kernel) ?_
  refine ev_iload_n dd_D_end_32 rfl ?_
  refine ev_imul dd_D_end_33 ?_
  refine ev_iload dd_D_end_34 rfl ?_
  refine ev_iadd dd_D_end_36 ?_
  rw [show (4 : Int32) * Int32.ofNat e = Int32.ofNat (4 * e) from ms_mul 4 e, show Int32.ofNat (4 * e) + Int32.ofNat c = Int32.ofNat (4 * e + c) from nI_add _ _]
  refine R_ld (k := 48) (j := 4 * e + c) dd_D_end_37 h rfl (show 4 * e + c < 8 by omega) ?_
  refine ev_iload_n dd_D_end_38 rfl ?_
  refine ev_icmp_ne dd_D_end_39 (fun c2 => ?_) (fun c2 => ?_)
  · rw [if_neg c2] at kk
    refine ev_iload dd_D_end_52 rfl ?_
    refine ev_istore dd_D_end_54 (by decide) ?_
    refine ev_iinc dd_D_end_56 rfl (by decide) ?_
    refine ev_goto dd_D_end_59 ?_
    refine ev_loc6 (i0 := 0) (i1 := 1) (i2 := 2) (i3 := 3) (i4 := 4) (i5 := 5) rfl rfl rfl rfl rfl (v5 := .int (Int32.ofNat (c + 1))) (by rw [show Int32.ofNat (c + 1) = Int32.ofNat c + Int32.ofInt 1 by rw [inc_ofNat]; rfl]; rfl) ?_
    exact kk
  · rw [if_pos c2] at kk
    refine ev_iload dd_D_end_42 rfl ?_
    refine ev_ic (v := 1) dd_D_end_44 (by decide +kernel) ?_
    refine ev_iload dd_D_end_45 rfl ?_
    refine ev_ishl dd_D_end_47 ?_
    refine ev_ior dd_D_end_48 ?_
    refine ev_goto dd_D_end_49 ?_
    refine ev_istore dd_D_end_54 (by decide) ?_
    refine ev_iinc dd_D_end_56 rfl (by decide) ?_
    refine ev_goto dd_D_end_59 ?_
    refine ev_loc6 (i0 := 0) (i1 := 1) (i2 := 2) (i3 := 3) (i4 := 4) (i5 := 5) rfl rfl rfl rfl rfl (v5 := .int (Int32.ofNat (c + 1))) (by rw [show Int32.ofNat (c + 1) = Int32.ofNat c + Int32.ofInt 1 by rw [inc_ofNat]; rfl]; rfl) ?_
    exact kk
theorem k_D_enC {e N : Nat} {y : Int32} (he : e < 2) (hN : N ≤ 2400) : ∀ (zs pre : List rf_m) (k : Nat) (D : rf_C) (w : ev_wd) (L : List (Nat × Value)), L.lookup 0 = some (.ref (ev_b G + 77)) → L.lookup 2 = some (.int (Int32.ofNat e)) → L.lookup 4 = some (.int y) → L.lookup 5 = some (.int (Int32.ofNat N)) → L.lookup 6 = some (.int (Int32.ofNat k)) → k + zs.length = N → D.2 (18 + e) = zs ++ pre → (∀ μ ∈ zs, rf_mc μ) → rf_Lk D e → rf_K G w D none F rf_Q0 →
    ev_E G mm_D_end (d + 2) 227 L [] w (rf_yv G F rf_Q0 none (rs_lgC e y zs pre D)) := by
  have hr : 18 + e < 22 := by omega
  intro zs
  induction zs with
  | nil =>
    intro pre k D w L l0 l2 l4 l5 l6 hk hz hm hL h
    rw [List.length_nil] at hk
    refine ev_loc5 (i0 := 0) (i1 := 2) (i2 := 4) (i3 := 5) (i4 := 6) l0 l2 l4 l5 l6 ?_
    refine ev_iload dd_D_end_227 rfl ?_
    refine ev_iload dd_D_end_229 rfl ?_
    refine ev_icmp_ge dd_D_end_231 (fun _ => ?_) (fun c => absurd (nI_le (by omega) (by omega)) c)
    refine ev_vret dd_D_end_314 rfl ?_
    exact ⟨rfl, h⟩
  | cons μ zs ih =>
    intro pre k D w L l0 l2 l4 l5 l6 hk hz hm hL h
    rw [List.length_cons] at hk
    have hz' : D.2 (18 + e) = μ :: (zs ++ pre) := hz
    obtain ⟨hk1, hk2⟩ := hm μ List.mem_cons_self
    obtain ⟨hl1, hl2⟩ := hL (rf_kd μ) hk2
    have hmk : rf_mk μ 1 = Int32.ofNat (rf_kd μ) := hk1
    refine ev_loc5 (i0 := 0) (i1 := 2) (i2 := 4) (i3 := 5) (i4 := 6) l0 l2 l4 l5 l6 ?_
    refine ev_iload dd_D_end_227 rfl ?_
    refine ev_iload dd_D_end_229 rfl ?_
    refine ev_icmp_ge dd_D_end_231 (fun c => absurd c (nI_ge (by omega) (by omega))) (fun _ => ?_)
    refine ev_aload_n dd_D_end_234 rfl ?_
    refine ev_bp (v := 18) dd_D_end_235 (by decide +kernel) ?_
    refine ev_iload_n dd_D_end_237 rfl ?_
    refine ev_iadd dd_D_end_238 ?_
    rw [show (18 : Int32) + Int32.ofNat e = Int32.ofNat (18 + e) from nI_add 18 e]
    refine ev_callv [.int (Int32.ofNat (18 + e))] dd_D_end_239 ms_D_shift iv_D_163 h.ob h.tg rfl (Nat.le_of_ble_eq_true rfl) (Nat.le_of_ble_eq_true rfl) (k_D_shift hr hz' h) (fun v w1 hp _ _ => ?_) (fun x w3 hp _ _ => by obtain ⟨y, h1, -⟩ := hp; cases h1)
    obtain ⟨m, h1, -, h2⟩ := hp
    cases h1
    refine ev_istore dd_D_end_242 (by decide) ?_
    refine ev_iload dd_D_end_244 rfl ?_
    refine ev_aload_n dd_D_end_246 rfl ?_
    refine R_gA (k := 1) dd_D_end_247 fr_D_7 h2 rfl ?_
    refine ev_iload dd_D_end_250 rfl ?_
    refine R_mg (k := 1) dd_D_end_252 h2.hand (Or.inr ⟨rfl, rfl⟩) (by decide) (by decide) ?_
    refine ev_ishr dd_D_end_253 ?_
    refine ev_ic (v := 1) dd_D_end_254 (by decide +kernel) ?_
    refine ev_iand dd_D_end_255 ?_
    refine ev_ic (v := 1) dd_D_end_256 (by decide +kernel) ?_
    refine ev_icmp_ne dd_D_end_257 (fun c => ?_) (fun c => ?_)
    · have e0 : rs_lgC e y (μ :: zs) pre D = rs_lgC e y zs (pre ++ [μ]) (rf_sX D (18 + e) (zs ++ (pre ++ [μ]))) := by
        show (if ((y >>> (μ.1 &&& 31)) &&& 1) = 1 then _ else _) = _
        rw [if_neg (show ¬ ((y >>> (μ.1 &&& 31)) &&& 1) = 1 from c)]
      rw [e0]
      refine ev_ic (v := 0) dd_D_end_264 (by decide +kernel) ?_
      refine ev_istore dd_D_end_265 (by decide) ?_
      refine ev_aload_n dd_D_end_267 rfl ?_
      refine ev_iload dd_D_end_268 rfl ?_
      refine ev_if_eq dd_D_end_270 (fun _ => ?_) (fun c2 => absurd rfl c2)
      refine ev_bp (v := 18) dd_D_end_299 (by decide +kernel) ?_
      refine ev_iload_n dd_D_end_301 rfl ?_
      refine ev_iadd dd_D_end_302 ?_
      refine ev_iload dd_D_end_303 rfl ?_
      rw [show (18 : Int32) + Int32.ofNat e = Int32.ofNat (18 + e) from nI_add 18 e]
      refine ev_callvV2 [_, _] dd_D_end_305 ms_D_put iv_D_191 h2.ob h2.tg rfl (Nat.le_of_ble_eq_true rfl) (Nat.le_of_ble_eq_true rfl) (k_D_put hr h2) (fun w4 h4 => ?_)
      rw [rf_sX_at, rf_sX_two, List.append_assoc] at h4
      refine ev_iinc dd_D_end_308 rfl (by decide) ?_
      refine ev_goto dd_D_end_311 ?_
      exact ih (pre ++ [μ]) (k + 1) _ w4 _ rfl rfl rfl rfl (by rw [show Int32.ofNat (k + 1) = Int32.ofNat k + Int32.ofInt 1 by rw [inc_ofNat]; rfl]; rfl) (by omega) (rf_sX_at _ _ _) (fun ν hν => hm ν (List.mem_cons_of_mem _ hν)) (fun q hq => hL q hq) h4
    · have e0 : rs_lgC e y (μ :: zs) pre D = rs_lgC e y zs pre (rs_put (rf_sX D (18 + e) (zs ++ pre)) (6 + (2 * rf_lk D e (rf_kd μ) + e)) μ) := by
        show (if ((y >>> (μ.1 &&& 31)) &&& 1) = 1 then _ else _) = _
        rw [if_pos (show ((y >>> (μ.1 &&& 31)) &&& 1) = 1 from c)]
      rw [e0]
      refine ev_ic (v := 1) dd_D_end_260 (by decide +kernel) ?_
      refine ev_goto dd_D_end_261 ?_
      refine ev_istore dd_D_end_265 (by decide) ?_
      refine ev_aload_n dd_D_end_267 rfl ?_
      refine ev_iload dd_D_end_268 rfl ?_
      refine ev_if_eq dd_D_end_270 (fun c2 => absurd c2 (by decide)) (fun _ => ?_)
      refine ev_bp (v := 6) dd_D_end_273 (by decide +kernel) ?_
      refine ev_ic (v := 2) dd_D_end_275 (by decide +kernel) ?_
      refine ev_aload_n dd_D_end_276 rfl ?_
      refine R_gA (k := 48) dd_D_end_277 fr_D_150 h2 rfl ?_
      refine ev_ic (v := 4) dd_D_end_280 (by decide +kernel) ?_
      refine ev_iload_n dd_D_end_281 rfl ?_
      refine ev_imul dd_D_end_282 ?_
      refine ev_aload_n dd_D_end_283 rfl ?_
      refine R_gA (k := 1) dd_D_end_284 fr_D_7 h2 rfl ?_
      refine ev_iload dd_D_end_287 rfl ?_
      refine R_mg (k := 1) dd_D_end_289 h2.hand (Or.inr ⟨rfl, rfl⟩) (by decide) (by decide) ?_
      rw [hmk]
      refine ev_iadd dd_D_end_290 ?_
      rw [show (4 : Int32) * Int32.ofNat e = Int32.ofNat (4 * e) from ms_mul 4 e, show Int32.ofNat (4 * e) + Int32.ofNat (rf_kd μ) = Int32.ofNat (4 * e + rf_kd μ) from nI_add _ _]
      refine R_ld (k := 48) (j := 4 * e + rf_kd μ) dd_D_end_291 h2 rfl (show 4 * e + rf_kd μ < 8 by omega) ?_
      rw [show (rf_sX D (18 + e) (zs ++ pre)).1 48 (4 * e + rf_kd μ) = Int32.ofNat (rf_lk D e (rf_kd μ)) from hl1]
      refine ev_imul dd_D_end_292 ?_
      refine ev_iadd dd_D_end_293 ?_
      refine ev_iload_n dd_D_end_294 rfl ?_
      refine ev_iadd dd_D_end_295 ?_
      refine ev_goto dd_D_end_296 ?_
      refine ev_iload dd_D_end_303 rfl ?_
      rw [ms_row hl2 he]
      refine ev_callvV2 [_, _] dd_D_end_305 ms_D_put iv_D_191 h2.ob h2.tg rfl (Nat.le_of_ble_eq_true rfl) (Nat.le_of_ble_eq_true rfl) (k_D_put (show 6 + (2 * rf_lk D e (rf_kd μ) + e) < 22 by omega) h2) (fun w4 h4 => ?_)
      refine ev_iinc dd_D_end_308 rfl (by decide) ?_
      refine ev_goto dd_D_end_311 ?_
      exact ih pre (k + 1) _ w4 _ rfl rfl rfl rfl (by rw [show Int32.ofNat (k + 1) = Int32.ofNat k + Int32.ofInt 1 by rw [inc_ofNat]; rfl]; rfl) (by omega) (by unfold rs_put; rw [rf_sX_ne _ _ (by omega), rf_sX_at]) (fun ν hν => hm ν (List.mem_cons_of_mem _ hν)) (fun q hq => hL q hq) h4
theorem k_D_enA {e l : Nat} {y : Int32} (he : e < 2) (hl : l < 3) : ∀ (zs : List rf_m) (D : rf_C) (w : ev_wd) (L : List (Nat × Value)), L.lookup 0 = some (.ref (ev_b G + 77)) → L.lookup 1 = some (.int (Int32.ofNat (2 * l + e))) → L.lookup 2 = some (.int (Int32.ofNat e)) → L.lookup 3 = some (.int (Int32.ofNat l)) → L.lookup 4 = some (.int y) → D.2 (12 + (2 * l + e)) = zs → (∀ μ ∈ zs, rf_mo μ) → rf_Lk D e → rf_op D e → rf_K G w D none F rf_Q0 →
    (∀ w1, rf_K G w1 (rs_pas e zs (rf_sX D (12 + (2 * l + e)) [])) none F rf_Q0 → ev_E G mm_D_end (d + 2) 165 [(0, .ref (ev_b G + 77)), (1, .int (Int32.ofNat (2 * l + e))), (2, .int (Int32.ofNat e)), (3, .int (Int32.ofNat l)), (4, .int y)] [] w1 P) → ev_E G mm_D_end (d + 2) 62 L [] w P := by
  have hr : 12 + (2 * l + e) < 22 := by omega
  intro zs
  induction zs with
  | nil =>
    intro D w L l0 l1 l2 l3 l4 hz hm hL ho h kk
    refine ev_loc5 (i0 := 0) (i1 := 1) (i2 := 2) (i3 := 3) (i4 := 4) l0 l1 l2 l3 l4 ?_
    refine ev_aload_n dd_D_end_62 rfl ?_
    refine R_gA (k := 11) dd_D_end_63 fr_D_38 h rfl ?_
    refine ev_bp (v := 12) dd_D_end_66 (by decide +kernel) ?_
    refine ev_iload_n dd_D_end_68 rfl ?_
    refine ev_iadd dd_D_end_69 ?_
    rw [show (12 : Int32) + Int32.ofNat (2 * l + e) = Int32.ofNat (12 + (2 * l + e)) from nI_add 12 _]
    refine R_sz dd_D_end_70 h hr ?_
    rw [hz]
    refine ev_if_le dd_D_end_71 (fun _ => ?_) (fun c => absurd (by decide) c)
    refine kk w ?_
    show rf_K G w (rf_sX D (12 + (2 * l + e)) []) none F rf_Q0
    rw [← hz, rf_sX_same]
    exact h
  | cons μ zs ih =>
    intro D w L l0 l1 l2 l3 l4 hz hm hL ho h kk
    have hlen := h.len hr
    rw [hz, List.length_cons] at hlen
    have hm1 := hm μ List.mem_cons_self
    refine ev_loc5 (i0 := 0) (i1 := 1) (i2 := 2) (i3 := 3) (i4 := 4) l0 l1 l2 l3 l4 ?_
    refine ev_aload_n dd_D_end_62 rfl ?_
    refine R_gA (k := 11) dd_D_end_63 fr_D_38 h rfl ?_
    refine ev_bp (v := 12) dd_D_end_66 (by decide +kernel) ?_
    refine ev_iload_n dd_D_end_68 rfl ?_
    refine ev_iadd dd_D_end_69 ?_
    rw [show (12 : Int32) + Int32.ofNat (2 * l + e) = Int32.ofNat (12 + (2 * l + e)) from nI_add 12 _]
    refine R_sz dd_D_end_70 h hr ?_
    rw [hz]
    refine ev_if_le dd_D_end_71 (fun c => absurd c (nI_nle (by rw [List.length_cons]; omega) (by rw [List.length_cons]; omega))) (fun _ => ?_)
    refine ev_aload_n dd_D_end_74 rfl ?_
    refine ev_bp (v := 12) dd_D_end_75 (by decide +kernel) ?_
    refine ev_iload_n dd_D_end_77 rfl ?_
    refine ev_iadd dd_D_end_78 ?_
    rw [show (12 : Int32) + Int32.ofNat (2 * l + e) = Int32.ofNat (12 + (2 * l + e)) from nI_add 12 _]
    refine ev_callv [.int (Int32.ofNat (12 + (2 * l + e)))] dd_D_end_79 ms_D_shift iv_D_163 h.ob h.tg rfl (Nat.le_of_ble_eq_true rfl) (Nat.le_of_ble_eq_true rfl) (k_D_shift hr hz h) (fun v w1 hp _ _ => ?_) (fun x w3 hp _ _ => by obtain ⟨y, h1, -⟩ := hp; cases h1)
    obtain ⟨m, h1, -, h2⟩ := hp
    cases h1
    have hL1 : rf_Lk (rf_sX D (12 + (2 * l + e)) zs) e := fun q hq => hL q hq
    have ho1 : rf_op (rf_sX D (12 + (2 * l + e)) zs) e := ho.of (fun _ _ _ => rfl)
    have fin : ∀ (w3 : ev_wd) (L : List (Nat × Value)), L.lookup 0 = some (.ref (ev_b G + 77)) → L.lookup 1 = some (.int (Int32.ofNat (2 * l + e))) → L.lookup 2 = some (.int (Int32.ofNat e)) → L.lookup 3 = some (.int (Int32.ofNat l)) → L.lookup 4 = some (.int y) → rf_K G w3 (rs_passOn (rf_sX D (12 + (2 * l + e)) zs) e μ) none F rf_Q0 → ev_E G mm_D_end (d + 2) 162 L [] w3 P := by
      intro w3 L' k0 k1 k2 k3 k4 h3
      refine ev_goto dd_D_end_162 ?_
      refine ih _ w3 L' k0 k1 k2 k3 k4 (by rw [rs_passOn_row he hL1 ho1 hm1 (by omega), rf_sX_at]) (fun ν hν => hm ν (List.mem_cons_of_mem _ hν)) (rs_passOn_L hL1 ho1 hm1) (ho1.of (fun k j hk => rs_passOn_J _ e μ k j (by omega))) h3 (fun w4 h4 => kk w4 ?_)
      have e1 : rf_sX (rs_passOn (rf_sX D (12 + (2 * l + e)) zs) e μ) (12 + (2 * l + e)) [] = rs_passOn (rf_sX D (12 + (2 * l + e)) []) e μ := by
        rw [← rs_passOn_X [] he hL1 ho1 hm1 (by omega), rf_sX_two]
      rw [e1] at h4
      exact h4
    have hK := h2.hand
    refine ev_istore dd_D_end_82 (by decide) ?_
    refine ev_aload_n dd_D_end_84 rfl ?_
    refine R_gA (k := 1) dd_D_end_85 fr_D_7 h2 rfl ?_
    refine ev_iload dd_D_end_88 rfl ?_
    refine R_mg (k := 1) dd_D_end_90 hK (Or.inr ⟨rfl, rfl⟩) (by decide) (by decide) ?_
    refine ev_ic (v := 4) dd_D_end_91 (by decide +kernel) ?_
    refine ev_icmp_lt dd_D_end_92 (fun c => ?_) (fun c => ?_)
    · have c4 : ¬ (4 : Int32) ≤ μ.1 := Int32.not_le.mpr c
      obtain ⟨hk1, hk2⟩ := hm1 c4
      have hmk : rf_mk μ 1 = Int32.ofNat (rf_kd μ) := hk1
      have e0 : rs_passOn (rf_sX D (12 + (2 * l + e)) zs) e μ = rs_pass (rf_sX D (12 + (2 * l + e)) zs) e μ := if_neg c4
      rw [e0] at fin
      obtain ⟨hl1, hl2⟩ := rs_move_L hL1 (ho1 _ hk2) _ hk2
      unfold rs_pass at fin
      generalize hD1 : rf_sX D (12 + (2 * l + e)) zs = D1 at *
      refine ev_aload_n dd_D_end_105 rfl ?_
      refine R_gA (k := 48) dd_D_end_106 fr_D_150 h2 rfl ?_
      refine ev_ic (v := 4) dd_D_end_109 (by decide +kernel) ?_
      refine ev_iload_n dd_D_end_110 rfl ?_
      refine ev_imul dd_D_end_111 ?_
      refine ev_aload_n dd_D_end_112 rfl ?_
      refine R_gA (k := 1) dd_D_end_113 fr_D_7 h2 rfl ?_
      refine ev_iload dd_D_end_116 rfl ?_
      refine R_mg (k := 1) dd_D_end_118 hK (Or.inr ⟨rfl, rfl⟩) (by decide) (by decide) ?_
      rw [hmk]
      refine ev_iadd dd_D_end_119 ?_
      refine ev_aload_n dd_D_end_120 rfl ?_
      refine ev_iload_n dd_D_end_121 rfl ?_
      refine ev_aload_n dd_D_end_122 rfl ?_
      refine R_gA (k := 1) dd_D_end_123 fr_D_7 h2 rfl ?_
      refine ev_iload dd_D_end_126 rfl ?_
      refine R_mg (k := 1) dd_D_end_128 hK (Or.inr ⟨rfl, rfl⟩) (by decide) (by decide) ?_
      rw [hmk]
      refine ev_callvN2 [_, _] dd_D_end_129 ms_D_chosen iv_D_206 h2.ob h2.tg rfl (Nat.le_of_ble_eq_true rfl) (Nat.le_of_ble_eq_true rfl) (k_D_chosen he hk2 h2) (fun w3 h3 => ?_)
      rw [rs_chosen2] at h3
      rw [show (4 : Int32) * Int32.ofNat e = Int32.ofNat (4 * e) from ms_mul 4 e, show Int32.ofNat (4 * e) + Int32.ofNat (rf_kd μ) = Int32.ofNat (4 * e + rf_kd μ) from nI_add _ _]
      refine R_st (k := 48) (j := 4 * e + rf_kd μ) dd_D_end_132 h3 rfl (show 4 * e + rf_kd μ < 8 by omega) (fun w4 h4' => ?_)
      have h4 : rf_K G w4 (rs_move D1 e (rf_kd μ)) (some (m, μ)) F rf_Q0 := h4'
      refine ev_aload_n dd_D_end_133 rfl ?_
      refine ev_bp (v := 6) dd_D_end_134 (by decide +kernel) ?_
      refine ev_ic (v := 2) dd_D_end_136 (by decide +kernel) ?_
      refine ev_aload_n dd_D_end_137 rfl ?_
      refine R_gA (k := 48) dd_D_end_138 fr_D_150 h4 rfl ?_
      refine ev_ic (v := 4) dd_D_end_141 (by decide +kernel) ?_
      refine ev_iload_n dd_D_end_142 rfl ?_
      refine ev_imul dd_D_end_143 ?_
      refine ev_aload_n dd_D_end_144 rfl ?_
      refine R_gA (k := 1) dd_D_end_145 fr_D_7 h4 rfl ?_
      refine ev_iload dd_D_end_148 rfl ?_
      refine R_mg (k := 1) dd_D_end_150 h4.hand (Or.inr ⟨rfl, rfl⟩) (by decide) (by decide) ?_
      rw [hmk]
      refine ev_iadd dd_D_end_151 ?_
      rw [show (4 : Int32) * Int32.ofNat e = Int32.ofNat (4 * e) from ms_mul 4 e, show Int32.ofNat (4 * e) + Int32.ofNat (rf_kd μ) = Int32.ofNat (4 * e + rf_kd μ) from nI_add _ _]
      refine R_ld (k := 48) (j := 4 * e + rf_kd μ) dd_D_end_152 h4 rfl (show 4 * e + rf_kd μ < 8 by omega) ?_
      rw [hl1]
      refine ev_imul dd_D_end_153 ?_
      refine ev_iadd dd_D_end_154 ?_
      refine ev_iload_n dd_D_end_155 rfl ?_
      refine ev_iadd dd_D_end_156 ?_
      refine ev_iload dd_D_end_157 rfl ?_
      rw [ms_row hl2 he]
      refine ev_callvV2 [_, _] dd_D_end_159 ms_D_put iv_D_191 h4.ob h4.tg rfl (Nat.le_of_ble_eq_true rfl) (Nat.le_of_ble_eq_true rfl) (k_D_put (show 6 + (2 * rf_lk (rs_move D1 e (rf_kd μ)) e (rf_kd μ) + e) < 22 by omega) h4) (fun w5 h5 => ?_)
      exact fin w5 _ rfl rfl rfl rfl rfl h5
    · have c4 : (4 : Int32) ≤ μ.1 := Int32.not_lt.mp c
      have e0 : rs_passOn (rf_sX D (12 + (2 * l + e)) zs) e μ = rs_say (rf_sX D (12 + (2 * l + e)) zs) e μ := if_pos c4
      rw [e0] at fin
      refine ev_aload_n dd_D_end_95 rfl ?_
      refine ev_iload_n dd_D_end_96 rfl ?_
      refine ev_iload dd_D_end_97 rfl ?_
      refine ev_callvV2 [_, _] dd_D_end_99 ms_D_say iv_D_203 h2.ob h2.tg rfl (Nat.le_of_ble_eq_true rfl) (Nat.le_of_ble_eq_true rfl) (k_D_say he h2) (fun w5 h5 => ?_)
      refine ev_goto dd_D_end_102 ?_
      exact fin w5 _ rfl rfl rfl rfl rfl h5
theorem k_D_enB {e l c : Nat} {y : Int32} (he : e < 2) (hc : c < 4) (h : rf_K G w D none F rf_Q0)
    (kk : ∀ w1, rf_K G w1 (rs_mv D e l c) none F rf_Q0 → ev_E G mm_D_end (d + 2) 168 [(0, .ref (ev_b G + 77)), (1, .int (Int32.ofNat (2 * l + e))), (2, .int (Int32.ofNat e)), (3, .int (Int32.ofNat l)), (4, .int y), (5, .int (Int32.ofNat (c + 1)))] [] w1 P) :
    ev_E G mm_D_end (d + 2) 168 [(0, .ref (ev_b G + 77)), (1, .int (Int32.ofNat (2 * l + e))), (2, .int (Int32.ofNat e)), (3, .int (Int32.ofNat l)), (4, .int y), (5, .int (Int32.ofNat c))] [] w P := by
  unfold rs_mv at kk
  refine ev_iload dd_D_end_168 rfl ?_
  refine ev_ic (v := 4) dd_D_end_170 (by decide +kernel) ?_
  refine ev_icmp_ge dd_D_end_171 (fun hc2 => absurd hc2 (nI_ge (b := 4) hc (by decide))) (fun _ => ?_)
  refine ev_aload_n dd_D_end_174 rfl ?_
  refine R_gA (k := 48) dd_D_end_175 fr_D_150 h rfl ?_
  refine ev_ic (v := 4) dd_D_end_178 (by decide +kernel) ?_
  refine ev_iload_n dd_D_end_179 rfl ?_
  refine ev_imul dd_D_end_180 ?_
  refine ev_iload dd_D_end_181 rfl ?_
  refine ev_iadd dd_D_end_183 ?_
  rw [show (4 : Int32) * Int32.ofNat e = Int32.ofNat (4 * e) from ms_mul 4 e, show Int32.ofNat (4 * e) + Int32.ofNat c = Int32.ofNat (4 * e + c) from nI_add _ _]
  refine R_ld (k := 48) (j := 4 * e + c) dd_D_end_184 h rfl (show 4 * e + c < 8 by omega) ?_
  refine ev_iload_n dd_D_end_185 rfl ?_
  refine ev_icmp_ne dd_D_end_186 (fun c2 => ?_) (fun c2 => ?_)
  · rw [if_neg c2] at kk
    refine ev_iinc dd_D_end_207 rfl (by decide) ?_
    refine ev_goto dd_D_end_210 ?_
    refine ev_loc6 (i0 := 0) (i1 := 1) (i2 := 2) (i3 := 3) (i4 := 4) (i5 := 5) rfl rfl rfl rfl rfl (v5 := .int (Int32.ofNat (c + 1))) (by rw [show Int32.ofNat (c + 1) = Int32.ofNat c + Int32.ofInt 1 by rw [inc_ofNat]; rfl]; rfl) ?_
    exact kk w h
  · rw [if_pos c2] at kk
    refine ev_aload_n dd_D_end_189 rfl ?_
    refine R_gA (k := 48) dd_D_end_190 fr_D_150 h rfl ?_
    refine ev_ic (v := 4) dd_D_end_193 (by decide +kernel) ?_
    refine ev_iload_n dd_D_end_194 rfl ?_
    refine ev_imul dd_D_end_195 ?_
    refine ev_iload dd_D_end_196 rfl ?_
    refine ev_iadd dd_D_end_198 ?_
    refine ev_aload_n dd_D_end_199 rfl ?_
    refine ev_iload_n dd_D_end_200 rfl ?_
    refine ev_iload dd_D_end_201 rfl ?_
    rw [show (4 : Int32) * Int32.ofNat e = Int32.ofNat (4 * e) from ms_mul 4 e, show Int32.ofNat (4 * e) + Int32.ofNat c = Int32.ofNat (4 * e + c) from nI_add _ _]
    refine ev_callvN2 [_, _] dd_D_end_203 ms_D_chosen iv_D_206 h.ob h.tg rfl (Nat.le_of_ble_eq_true rfl) (Nat.le_of_ble_eq_true rfl) (k_D_chosen he hc h) (fun w3 h3 => ?_)
    rw [rs_chosen2] at h3
    refine R_st (k := 48) (j := 4 * e + c) dd_D_end_206 h3 rfl (show 4 * e + c < 8 by omega) (fun w4 h4 => ?_)
    refine ev_iinc dd_D_end_207 rfl (by decide) ?_
    refine ev_goto dd_D_end_210 ?_
    refine ev_loc6 (i0 := 0) (i1 := 1) (i2 := 2) (i3 := 3) (i4 := 4) (i5 := 5) rfl rfl rfl rfl rfl (v5 := .int (Int32.ofNat (c + 1))) (by rw [show Int32.ofNat (c + 1) = Int32.ofNat c + Int32.ofInt 1 by rw [inc_ofNat]; rfl]; rfl) ?_
    exact kk w4 h4
end RfX
