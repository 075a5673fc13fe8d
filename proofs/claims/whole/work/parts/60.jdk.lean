/-! members of the JDK: numbers, an index checked, an array list's readers -/
def ev_ret (v : Option Value) (w : ev_wd) : ev_r → ev_wd → Prop := fun r w' => r = .inl v ∧ w' = w
section EvJ
variable {G : ev_gx} {M : ev_mx} {d pc pc' tgt : Nat} {L : List (Nat × Value)} {st : List Value} {w : ev_wd} {P : ev_r → ev_wd → Prop}
theorem ev_ic {n : Int} {v : Int32} (hd : ev_d M.2.1 pc (.iconst n) 1 pc') (hv : Int32.ofInt n = v) (k : ev_E G M d pc' L (.int v :: st) w P) : ev_E G M d pc L st w P := ev_iconst hd (by rw [hv]; exact k)
theorem ev_bp {n : Int} {v : Int32} (hd : ev_d M.2.1 pc (.bipush n) 2 pc') (hv : (Int8.ofInt n).toInt32 = v) (k : ev_E G M d pc' L (.int v :: st) w P) : ev_E G M d pc L st w P := ev_bipush hd (by rw [hv]; exact k)
theorem ev_sp {n : Int} {v : Int32} (hd : ev_d M.2.1 pc (.sipush n) 3 pc') (hv : (Int16.ofInt n).toInt32 = v) (k : ev_E G M d pc' L (.int v :: st) w P) : ev_E G M d pc L st w P := ev_sipush hd (by rw [hv]; exact k)
/-- calls of a method that answers v and leaves the world w1 -/
theorem ev_callsR {index n : Nat} {M' : ev_mx} (As : List Value) {v : Option Value} {w1 : ev_wd} (hd : ev_d M.2.1 pc (.invokestatic index) 3 pc') (hm : ev_ms M' n) (hi : ev_Is M.1.cls index M') (hn : As.length = n) (hst : (st.map fun v => v.category).sum + M'.2.2.1 ≤ 28) (hlen : (lg_sl As).length ≤ M'.2.2.1)
    (hc : ev_E G M' d 0 (lv_args 0 As) [] w (ev_ret v w1)) (k : ev_E G M (d + 1) pc' L (v.toList ++ st) w1 P) : ev_E G M (d + 1) pc L (As.reverse ++ st) w P :=
  ev_calls As hd hm hi hn hst hlen hc (fun v' w' h _ _ => by obtain ⟨h1, rfl⟩ := h; cases h1; exact k) (fun x w' h _ _ => by obtain ⟨h1, -⟩ := h; cases h1)
theorem ev_callvR {index c b n : Nat} {M' : ev_mx} (As : List Value) {v : Option Value} {w1 : ev_wd} (hd : ev_d M.2.1 pc (.invokevirtual index) 3 pc') (hm : ev_ms M' n) (hi : ev_Iv M.1.cls index c M') (hb : ev_b G ≤ b ∧ b < ev_z w) (ht : ev_g w b = c) (hn : As.length = n) (hst : (st.map fun v => v.category).sum + M'.2.2.1 ≤ 28) (hlen : (lg_sl (.ref b :: As)).length ≤ M'.2.2.1)
    (hc : ev_E G M' d 0 (lv_args 0 (.ref b :: As)) [] w (ev_ret v w1)) (k : ev_E G M (d + 1) pc' L (v.toList ++ st) w1 P) : ev_E G M (d + 1) pc L (As.reverse ++ .ref b :: st) w P :=
  ev_callv As hd hm hi hb ht hn hst hlen hc (fun v' w' h _ _ => by obtain ⟨h1, rfl⟩ := h; cases h1; exact k) (fun x w' h _ _ => by obtain ⟨h1, -⟩ := h; cases h1)
theorem ev_calliR {index b n : Nat} {M' : ev_mx} (As : List Value) {v : Option Value} {w1 : ev_wd} (hd : ev_d M.2.1 pc (.invokespecial index) 3 pc') (hm : ev_ms M' n) (hi : ev_Ii M.1.cls index M') (hn : As.length = n) (hst : (st.map fun v => v.category).sum + M'.2.2.1 ≤ 28) (hlen : (lg_sl (.ref b :: As)).length ≤ M'.2.2.1)
    (hc : ev_E G M' d 0 (lv_args 0 (.ref b :: As)) [] w (ev_ret v w1)) (k : ev_E G M (d + 1) pc' L (v.toList ++ st) w1 P) : ev_E G M (d + 1) pc L (As.reverse ++ .ref b :: st) w P :=
  ev_calli As hd hm hi hn hst hlen hc (fun v' w' h _ _ => by obtain ⟨h1, rfl⟩ := h; cases h1; exact k) (fun x w' h _ _ => by obtain ⟨h1, -⟩ := h; cases h1)
/-- the length of an array that was there before -/
theorem ev_alenO {t : Nat} {E : String} {f : Nat → Value} (hd : ev_d M.2.1 pc .arraylength 1 pc') (hT : va_T (.object E) t 0 f (fun q => ev_b G ≤ q) (ev_s0 G) (ev_s0 G).heap) (kk : ev_E G M d pc' L (.int 0 :: st) w P) : ev_E G M d pc L (.ref t :: st) w P := by
  obtain ⟨hd, rfl⟩ := hd
  intro R s m args below meth c' w0 H locs ls X O hH hl
  obtain ⟨cell, h1, h2, h3, h4, h5, h6, h7⟩ := va_T.moved X.2.2.2.1.alike hT
  exact W.alen (n := 0) X.1 X.2.1 (by rw [hH.2.2.2 t (Nat.not_le.mp h7)]; exact h1) h2 h5 rfl rfl hd (kk R s m args below meth c' w0 H locs ls X O hH hl)
theorem c_MA_min (x y : Int32) : ev_E G mm_MA_min d 0 (lv_args 0 [.int x, .int y]) [] w (ev_ret (some (.int (if y < x then y else x))) w) := by
  refine ev_iload_n dd_MA_min_0 rfl ?_
  refine ev_iload_n dd_MA_min_1 rfl ?_
  refine ev_icmp_gt dd_MA_min_2 (fun h => ?_) (fun h => ?_)
  · refine ev_iload_n dd_MA_min_9 rfl ?_
    refine ev_iret dd_MA_min_10 rfl rfl ?_
    exact ⟨by rw [if_pos h], rfl⟩
  · refine ev_iload_n dd_MA_min_5 rfl ?_
    refine ev_goto dd_MA_min_6 ?_
    refine ev_iret dd_MA_min_10 rfl rfl ?_
    exact ⟨by rw [if_neg h], rfl⟩
theorem c_MA_max (x y : Int32) : ev_E G mm_MA_max d 0 (lv_args 0 [.int x, .int y]) [] w (ev_ret (some (.int (if x < y then y else x))) w) := by
  refine ev_iload_n dd_MA_max_0 rfl ?_
  refine ev_iload_n dd_MA_max_1 rfl ?_
  refine ev_icmp_lt dd_MA_max_2 (fun h => ?_) (fun h => ?_)
  · refine ev_iload_n dd_MA_max_9 rfl ?_
    refine ev_iret dd_MA_max_10 rfl rfl ?_
    exact ⟨by rw [if_pos h], rfl⟩
  · refine ev_iload_n dd_MA_max_5 rfl ?_
    refine ev_goto dd_MA_max_6 ?_
    refine ev_iret dd_MA_max_10 rfl rfl ?_
    exact ⟨by rw [if_neg h], rfl⟩
def ev_fmod (x y : Int32) : Int32 := if 0 ≤ (x ^^^ y) then x - x / y * y else if x - x / y * y = 0 then x - x / y * y else x - x / y * y + y
theorem c_MA_floorMod (x y : Int32) (hy : ¬ y = 0) : ev_E G mm_MA_floorMod d 0 (lv_args 0 [.int x, .int y]) [] w (ev_ret (some (.int (ev_fmod x y))) w) := by
  refine ev_iload_n dd_MA_floorMod_0 rfl ?_
  refine ev_iload_n dd_MA_floorMod_1 rfl ?_
  refine ev_irem dd_MA_floorMod_2 hy ?_
  refine ev_istore_n dd_MA_floorMod_3 (by decide) ?_
  refine ev_iload_n dd_MA_floorMod_4 rfl ?_
  refine ev_iload_n dd_MA_floorMod_5 rfl ?_
  refine ev_ixor dd_MA_floorMod_6 ?_
  refine ev_if_ge dd_MA_floorMod_7 (fun h => ?_) (fun h => ?_)
  · refine ev_iload_n dd_MA_floorMod_18 rfl ?_
    refine ev_iret dd_MA_floorMod_19 rfl rfl ?_
    exact ⟨by unfold ev_fmod; rw [if_pos h], rfl⟩
  · refine ev_iload_n dd_MA_floorMod_10 rfl ?_
    refine ev_if_eq dd_MA_floorMod_11 (fun h2 => ?_) (fun h2 => ?_)
    · refine ev_iload_n dd_MA_floorMod_18 rfl ?_
      refine ev_iret dd_MA_floorMod_19 rfl rfl ?_
      exact ⟨by unfold ev_fmod; rw [if_neg h, if_pos h2], rfl⟩
    · refine ev_iload_n dd_MA_floorMod_14 rfl ?_
      refine ev_iload_n dd_MA_floorMod_15 rfl ?_
      refine ev_iadd dd_MA_floorMod_16 ?_
      refine ev_iret dd_MA_floorMod_17 rfl rfl ?_
      exact ⟨by unfold ev_fmod; rw [if_neg h, if_neg h2], rfl⟩
theorem c_PR_checkIndex (x y : Int32) (h0 : ¬ x < 0) (h1 : x < y) : ev_E G mm_PR_checkIndex d 0 (lv_args 0 [.int x, .int y, .null]) [] w (ev_ret (some (.int x)) w) := by
  refine ev_iload_n dd_PR_checkIndex_0 rfl ?_
  refine ev_if_lt dd_PR_checkIndex_1 (fun h => absurd h h0) (fun h => ?_)
  refine ev_iload_n dd_PR_checkIndex_4 rfl ?_
  refine ev_iload_n dd_PR_checkIndex_5 rfl ?_
  refine ev_icmp_lt dd_PR_checkIndex_6 (fun h => ?_) (fun h => absurd h1 h)
  refine ev_iload_n dd_PR_checkIndex_16 rfl ?_
  refine ev_iret dd_PR_checkIndex_17 rfl rfl ?_
  exact ⟨rfl, rfl⟩
theorem c_OB_checkIndex (x y : Int32) (h0 : ¬ x < 0) (h1 : x < y) : ev_E G mm_OB_checkIndex (d + 1) 0 (lv_args 0 [.int x, .int y]) [] w (ev_ret (some (.int x)) w) := by
  refine ev_iload_n dd_OB_checkIndex_0 rfl ?_
  refine ev_iload_n dd_OB_checkIndex_1 rfl ?_
  refine ev_null dd_OB_checkIndex_2 ?_
  refine ev_callsR [.int x, .int y, .null] dd_OB_checkIndex_3 ms_PR_checkIndex is_OB_105 rfl (Nat.le_of_ble_eq_true rfl) (Nat.le_of_ble_eq_true rfl) (c_PR_checkIndex x y h0 h1) ?_
  refine ev_iret dd_OB_checkIndex_6 rfl rfl ?_
  exact ⟨rfl, rfl⟩
/-- an array list at a: how often changed, its array, its size -/
def ev_al (G : ev_gx) (w : ev_wd) (a : Nat) (mc : Int32) (arr : Nat) (n : Int32) : Prop := (ev_b G ≤ a ∧ a < ev_z w) ∧ ev_g w a = 9 ∧ ev_v w a 0 = .int mc ∧ ev_v w a 1 = .ref arr ∧ ev_v w a 2 = .int n
theorem c_AL_size {a arr : Nat} {mc n : Int32} (h : ev_al G w a mc arr n) : ev_E G mm_AL_size d 0 (lv_args 0 [.ref a]) [] w (ev_ret (some (.int n)) w) := by
  obtain ⟨ha, ht, h0, h1, h2⟩ := h
  refine ev_aload_n dd_AL_size_0 rfl ?_
  refine ev_getf dd_AL_size_1 fr_AL_48 ha ht h2 ?_
  refine ev_iret dd_AL_size_4 rfl rfl ?_
  exact ⟨rfl, rfl⟩
theorem c_AL_isEmpty {a arr : Nat} {mc n : Int32} (h : ev_al G w a mc arr n) : ev_E G mm_AL_isEmpty d 0 (lv_args 0 [.ref a]) [] w (ev_ret (some (.int (if n = 0 then 1 else 0))) w) := by
  obtain ⟨ha, ht, h0, h1, h2⟩ := h
  refine ev_aload_n dd_AL_isEmpty_0 rfl ?_
  refine ev_getf dd_AL_isEmpty_1 fr_AL_48 ha ht h2 ?_
  refine ev_if_ne dd_AL_isEmpty_4 (fun h => ?_) (fun h => ?_)
  · refine ev_ic (v := 0) dd_AL_isEmpty_11 (by decide +kernel) ?_
    refine ev_iret dd_AL_isEmpty_12 rfl rfl ?_
    exact ⟨by rw [if_neg h], rfl⟩
  · refine ev_ic (v := 1) dd_AL_isEmpty_7 (by decide +kernel) ?_
    refine ev_goto dd_AL_isEmpty_8 ?_
    refine ev_iret dd_AL_isEmpty_12 rfl rfl ?_
    exact ⟨by rw [if_pos (by simpa using h)], rfl⟩
theorem c_AL_elementData {a arr i : Nat} {mc n j : Int32} {x : Nat} (h : ev_al G w a mc arr n) (hr : ev_b G ≤ arr ∧ arr < ev_z w) (hg : ev_g w arr = 103) (hin : vp_in j (ev_n w arr)) (hx : ev_v w arr j.toNatClampNeg = .ref x) : ev_E G mm_AL_elementData d 0 (lv_args 0 [.ref a, .int j]) [] w (ev_ret (some (.ref x)) w) := by
  obtain ⟨ha, ht, h0, h1, h2⟩ := h
  refine ev_aload_n dd_AL_elementData_0 rfl ?_
  refine ev_getf dd_AL_elementData_1 fr_AL_9 ha ht h1 ?_
  refine ev_iload_n dd_AL_elementData_4 rfl ?_
  refine ev_aald (t := 3) dd_AL_elementData_5 hr hg rfl hin hx ?_
  exact ev_aret dd_AL_elementData_6 rfl (Or.inl ⟨_, rfl⟩) (Or.inr ⟨_, rfl⟩) ⟨rfl, rfl⟩
theorem c_AL_get {a arr : Nat} {mc n j : Int32} {x : Nat} (h : ev_al G w a mc arr n) (hj0 : ¬ j < 0) (hj1 : j < n) (hr : ev_b G ≤ arr ∧ arr < ev_z w) (hg : ev_g w arr = 103) (hin : vp_in j (ev_n w arr)) (hx : ev_v w arr j.toNatClampNeg = .ref x) : ev_E G mm_AL_get (d + 2) 0 (lv_args 0 [.ref a, .int j]) [] w (ev_ret (some (.ref x)) w) := by
  have hal := h
  obtain ⟨ha, ht, h0, h1, h2⟩ := h
  refine ev_iload_n dd_AL_get_0 rfl ?_
  refine ev_aload_n dd_AL_get_1 rfl ?_
  refine ev_getf dd_AL_get_2 fr_AL_48 ha ht h2 ?_
  refine ev_callsR [.int j, .int n] dd_AL_get_5 ms_OB_checkIndex is_AL_118 rfl (Nat.le_of_ble_eq_true rfl) (Nat.le_of_ble_eq_true rfl) (c_OB_checkIndex j n hj0 hj1) ?_
  refine ev_pop dd_AL_get_8 rfl ?_
  refine ev_aload_n dd_AL_get_9 rfl ?_
  refine ev_iload_n dd_AL_get_10 rfl ?_
  refine ev_callvR [.int j] dd_AL_get_11 ms_AL_elementData iv_AL_123 ha ht rfl (Nat.le_of_ble_eq_true rfl) (Nat.le_of_ble_eq_true rfl) (c_AL_elementData (i := 0) hal hr hg hin hx) ?_
  exact ev_aret dd_AL_get_14 rfl (Or.inl ⟨_, rfl⟩) (Or.inr ⟨_, rfl⟩) ⟨rfl, rfl⟩
end EvJ
