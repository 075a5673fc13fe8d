/-! the next message of a unit; what a side sends -/
theorem va_rfv (u : Option Nat) : va_rf u = .null ∨ ∃ a, va_rf u = .ref a := by
  cases u with
  | none => exact Or.inl rfl
  | some x => exact Or.inr ⟨x, rfl⟩
theorem cr_un.no {G : ev_gx} {w : ev_wd} {u : Option Nat} {v : Option cr_m} (h : cr_un G w u v) (e : v = none) : u = none := by
  rcases h with h | ⟨x, μ, -, h, -⟩
  · exact h.1
  · rw [e] at h; cases h
theorem cr_un.yes {G : ev_gx} {w : ev_wd} {u : Option Nat} {v : Option cr_m} (h : cr_un G w u v) (e : ¬ v = none) : ∃ x, u = some x := by
  rcases h with h | ⟨x, μ, h, -, -⟩
  · exact absurd h.2 e
  · exact ⟨x, h⟩
section CrV
variable {G : ev_gx} {M : ev_mx} {d pc pc' tgt : Nat} {L : List (Nat × Value)} {st : List Value} {w w1 : ev_wd} {P : ev_r → ev_wd → Prop} {q0 mi n n' : Nat} {C : cr_C} {F : ev_wd} {Q : Nat → cr_m → Prop}
def cs_S_carries (C : cr_C) (s : Nat) (x : Int32) : Int32 × cr_C := (if (cr_hs (C.2.1 s) x) = 0 then (if (cr_hs (C.2.1 (6 + s)) x) = 0 then (0, C) else (1, C)) else (1, C))
theorem k_S_carries {s : Nat} (hq : q0 < ev_b G) (hs : s < 6) (x : Int32) (h : cr_K G q0 w C n F Q) : ev_E G mm_S_carries (d + 4) 0 (lv_args 0 [.ref (ev_b G + cr_o 1 s), .int x]) [] w (cr_yi G q0 n F Q (cs_S_carries C s x)) := by
  unfold cs_S_carries
  refine ev_aload_n dd_S_carries_0 rfl ?_
  refine K_gP (κ := 1) (q := cr_o 11 s) dd_S_carries_1 fr_S_64 h (show s < 6 by omega) rfl ?_
  refine ev_iload_n dd_S_carries_4 rfl ?_
  refine ev_callsI [_, _] dd_S_carries_5 ms_S_holds is_S_95 rfl (Nat.le_of_ble_eq_true rfl) (Nat.le_of_ble_eq_true rfl) (k_S_holds hq (show s < 22 by omega) _ h) ?_
  refine ev_if_ne dd_S_carries_8 (fun c2 => ?_) (fun c2 => ?_)
  · rw [if_neg c2]
    refine ev_ic (v := 1) dd_S_carries_22 (by decide +kernel) ?_
    refine ev_goto dd_S_carries_23 ?_
    refine ev_iret dd_S_carries_27 rfl rfl ?_
    exact ⟨rfl, h⟩
  · rw [if_pos c2]
    refine ev_aload_n dd_S_carries_11 rfl ?_
    refine K_gP (κ := 1) (q := cr_o 11 (6 + s)) dd_S_carries_12 fr_S_68 h (show s < 6 by omega) rfl ?_
    refine ev_iload_n dd_S_carries_15 rfl ?_
    refine ev_callsI [_, _] dd_S_carries_16 ms_S_holds is_S_95 rfl (Nat.le_of_ble_eq_true rfl) (Nat.le_of_ble_eq_true rfl) (k_S_holds hq (show 6 + s < 22 by omega) _ h) ?_
    refine ev_if_eq dd_S_carries_19 (fun c4 => ?_) (fun c4 => ?_)
    · rw [if_pos c4]
      refine ev_ic (v := 0) dd_S_carries_26 (by decide +kernel) ?_
      refine ev_iret dd_S_carries_27 rfl rfl ?_
      exact ⟨rfl, h⟩
    · rw [if_neg c4]
      refine ev_ic (v := 1) dd_S_carries_22 (by decide +kernel) ?_
      refine ev_goto dd_S_carries_23 ?_
      refine ev_iret dd_S_carries_27 rfl rfl ?_
      exact ⟨rfl, h⟩
def cs_S_nextIn (C : cr_C) (s : Nat) (t : Nat) : Option cr_m × cr_C := (if (C.1 3 t 3) = (C.1 1 s 7) then (if C.2.2 t = none then (if (C.1 3 t 2) = (C.1 1 s 5) then (none, C) else (none, cr_sI C 1 s 7 (1 - (C.1 1 s 7)))) else (if (C.1 3 t 2) = (Int32.ofNat (cr_f8 ((C.1 1 s 5) + 1))) then ((cr_sI C 1 s 5 (Int32.ofNat (cr_f8 ((C.1 1 s 5) + 1)))).2.2 t, cr_sI C 1 s 5 (Int32.ofNat (cr_f8 ((C.1 1 s 5) + 1)))) else (if (C.1 3 t 2) = (C.1 1 s 5) then (none, C) else (none, cr_sI C 1 s 7 (1 - (C.1 1 s 7)))))) else (none, C))
theorem k_S_nextIn {s : Nat} {t : Nat} (hq : q0 < ev_b G) (hs : s < 6) (ht : t < 6) (h : cr_K G q0 w C n F Q) : ev_E G mm_S_nextIn (d + 1) 0 (lv_args 0 [.ref (ev_b G + cr_o 1 s), .ref (ev_b G + cr_o 3 t)]) [] w (cr_ym G q0 n F Q (cs_S_nextIn C s t)) := by
  unfold cs_S_nextIn
  refine ev_aload_n dd_S_nextIn_0 rfl ?_
  refine K_gI (κ := 3) dd_S_nextIn_1 fr_S_125 h (show t < 6 by omega) rfl ?_
  refine ev_aload_n dd_S_nextIn_4 rfl ?_
  refine K_gI (κ := 1) dd_S_nextIn_5 fr_S_33 h (show s < 6 by omega) rfl ?_
  refine ev_icmp_eq dd_S_nextIn_8 (fun c1 => ?_) (fun c1 => ?_)
  · rw [if_pos c1]
    refine ev_aload_n dd_S_nextIn_13 rfl ?_
    refine K_gI (κ := 1) dd_S_nextIn_14 fr_S_27 h (show s < 6 by omega) rfl ?_
    refine ev_ic (v := 1) dd_S_nextIn_17 (by decide +kernel) ?_
    refine ev_iadd dd_S_nextIn_18 ?_
    refine ev_bp (v := 8) dd_S_nextIn_19 (by decide +kernel) ?_
    refine ev_callsI [_, _] dd_S_nextIn_21 ms_MA_floorMod is_S_112 rfl (Nat.le_of_ble_eq_true rfl) (Nat.le_of_ble_eq_true rfl) (c_fm8 _) ?_
    refine ev_istore_n dd_S_nextIn_24 (by decide) ?_
    refine ev_aload_n dd_S_nextIn_25 rfl ?_
    refine K_gU dd_S_nextIn_26 fr_S_126 h (show t < 6 by omega) (fun u3 hu3 => ?_)
    by_cases c4 : C.2.2 t = none
    · rw [if_pos c4]
      obtain rfl := cr_un.no hu3 c4
      refine ev_ifnullN dd_S_nextIn_29 ?_
      refine ev_aload_n dd_S_nextIn_50 rfl ?_
      refine K_gI (κ := 3) dd_S_nextIn_51 fr_S_130 h (show t < 6 by omega) rfl ?_
      refine ev_aload_n dd_S_nextIn_54 rfl ?_
      refine K_gI (κ := 1) dd_S_nextIn_55 fr_S_27 h (show s < 6 by omega) rfl ?_
      refine ev_icmp_eq dd_S_nextIn_58 (fun c5 => ?_) (fun c5 => ?_)
      · rw [if_pos c5]
        refine ev_null dd_S_nextIn_71 ?_
        exact ev_aret dd_S_nextIn_72 rfl (Or.inl ⟨_, rfl⟩) (Or.inl rfl) ⟨none, rfl, Or.inl ⟨rfl, rfl⟩, h⟩
      · rw [if_neg c5]
        refine ev_aload_n dd_S_nextIn_61 rfl ?_
        refine ev_ic (v := 1) dd_S_nextIn_62 (by decide +kernel) ?_
        refine ev_aload_n dd_S_nextIn_63 rfl ?_
        refine K_gI (κ := 1) dd_S_nextIn_64 fr_S_33 h (show s < 6 by omega) rfl ?_
        refine ev_isub dd_S_nextIn_67 ?_
        refine K_pI (κ := 1) dd_S_nextIn_68 fk_S_33 h hq (show s < 6 by omega) rfl rfl rfl (fun w6 h6 => ?_)
        refine ev_null dd_S_nextIn_71 ?_
        exact ev_aret dd_S_nextIn_72 rfl (Or.inl ⟨_, rfl⟩) (Or.inl rfl) ⟨none, rfl, Or.inl ⟨rfl, rfl⟩, h6⟩
    · rw [if_neg c4]
      obtain ⟨x4, rfl⟩ := cr_un.yes hu3 c4
      refine ev_ifnull (x := x4) dd_S_nextIn_29 ?_
      refine ev_aload_n dd_S_nextIn_32 rfl ?_
      refine K_gI (κ := 3) dd_S_nextIn_33 fr_S_130 h (show t < 6 by omega) rfl ?_
      refine ev_iload_n dd_S_nextIn_36 rfl ?_
      refine ev_icmp_ne dd_S_nextIn_37 (fun c7 => ?_) (fun c7 => ?_)
      · rw [if_neg c7]
        refine ev_aload_n dd_S_nextIn_50 rfl ?_
        refine K_gI (κ := 3) dd_S_nextIn_51 fr_S_130 h (show t < 6 by omega) rfl ?_
        refine ev_aload_n dd_S_nextIn_54 rfl ?_
        refine K_gI (κ := 1) dd_S_nextIn_55 fr_S_27 h (show s < 6 by omega) rfl ?_
        refine ev_icmp_eq dd_S_nextIn_58 (fun c8 => ?_) (fun c8 => ?_)
        · rw [if_pos c8]
          refine ev_null dd_S_nextIn_71 ?_
          exact ev_aret dd_S_nextIn_72 rfl (Or.inl ⟨_, rfl⟩) (Or.inl rfl) ⟨none, rfl, Or.inl ⟨rfl, rfl⟩, h⟩
        · rw [if_neg c8]
          refine ev_aload_n dd_S_nextIn_61 rfl ?_
          refine ev_ic (v := 1) dd_S_nextIn_62 (by decide +kernel) ?_
          refine ev_aload_n dd_S_nextIn_63 rfl ?_
          refine K_gI (κ := 1) dd_S_nextIn_64 fr_S_33 h (show s < 6 by omega) rfl ?_
          refine ev_isub dd_S_nextIn_67 ?_
          refine K_pI (κ := 1) dd_S_nextIn_68 fk_S_33 h hq (show s < 6 by omega) rfl rfl rfl (fun w9 h9 => ?_)
          refine ev_null dd_S_nextIn_71 ?_
          exact ev_aret dd_S_nextIn_72 rfl (Or.inl ⟨_, rfl⟩) (Or.inl rfl) ⟨none, rfl, Or.inl ⟨rfl, rfl⟩, h9⟩
      · rw [if_pos c7]
        refine ev_aload_n dd_S_nextIn_40 rfl ?_
        refine ev_iload_n dd_S_nextIn_41 rfl ?_
        refine K_pI (κ := 1) dd_S_nextIn_42 fk_S_27 h hq (show s < 6 by omega) rfl rfl rfl (fun w10 h10 => ?_)
        refine ev_aload_n dd_S_nextIn_45 rfl ?_
        refine K_gU dd_S_nextIn_46 fr_S_126 h10 (show t < 6 by omega) (fun u11 hu11 => ?_)
        exact ev_aret dd_S_nextIn_49 rfl (Or.inl ⟨_, rfl⟩) (va_rfv u11) ⟨u11, rfl, hu11, h10⟩
  · rw [if_neg c1]
    refine ev_null dd_S_nextIn_11 ?_
    exact ev_aret dd_S_nextIn_12 rfl (Or.inl ⟨_, rfl⟩) (Or.inl rfl) ⟨none, rfl, Or.inl ⟨rfl, rfl⟩, h⟩
def cs_S_fill (C : cr_C) (s : Nat) (x : Int32) : cr_C := (cr_sI (cr_sI (cr_sI (cr_sI (cr_sI C 3 s 0 4) 3 s 2 x) 3 s 3 ((cr_sI (cr_sI C 3 s 0 4) 3 s 2 x).1 1 s 6)) 3 s 4 ((cr_sI (cr_sI (cr_sI C 3 s 0 4) 3 s 2 x) 3 s 3 ((cr_sI (cr_sI C 3 s 0 4) 3 s 2 x).1 1 s 6)).1 1 s 5)) 3 s 5 ((cr_sI (cr_sI (cr_sI (cr_sI C 3 s 0 4) 3 s 2 x) 3 s 3 ((cr_sI (cr_sI C 3 s 0 4) 3 s 2 x).1 1 s 6)) 3 s 4 ((cr_sI (cr_sI (cr_sI C 3 s 0 4) 3 s 2 x) 3 s 3 ((cr_sI (cr_sI C 3 s 0 4) 3 s 2 x).1 1 s 6)).1 1 s 5)).1 1 s 7))
theorem k_S_fill {s : Nat} (hq : q0 < ev_b G) (hs : s < 6) (x : Int32) (h : cr_K G q0 w C n F Q) : ev_E G mm_S_sendNumbered d 159 [(0, .ref (ev_b G + cr_o 1 s)), (1, .int x)] [] w (cr_yv G q0 n F Q (cs_S_fill C s x)) := by
  unfold cs_S_fill
  refine ev_aload_n dd_S_sendNumbered_159 rfl ?_
  refine K_gP (κ := 1) (q := cr_o 3 s) dd_S_sendNumbered_160 fr_S_81 h (show s < 6 by omega) rfl ?_
  refine ev_ic (v := 4) dd_S_sendNumbered_163 (by decide +kernel) ?_
  refine K_pI (κ := 3) dd_S_sendNumbered_164 fk_S_136 h hq (show s < 6 by omega) rfl rfl rfl (fun w1 h1 => ?_)
  refine ev_aload_n dd_S_sendNumbered_167 rfl ?_
  refine K_gP (κ := 1) (q := cr_o 3 s) dd_S_sendNumbered_168 fr_S_81 h1 (show s < 6 by omega) rfl ?_
  refine ev_iload_n dd_S_sendNumbered_171 rfl ?_
  refine K_pI (κ := 3) dd_S_sendNumbered_172 fk_S_130 h1 hq (show s < 6 by omega) rfl rfl rfl (fun w2 h2 => ?_)
  refine ev_aload_n dd_S_sendNumbered_175 rfl ?_
  refine K_gP (κ := 1) (q := cr_o 3 s) dd_S_sendNumbered_176 fr_S_81 h2 (show s < 6 by omega) rfl ?_
  refine ev_aload_n dd_S_sendNumbered_179 rfl ?_
  refine K_gI (κ := 1) dd_S_sendNumbered_180 fr_S_30 h2 (show s < 6 by omega) rfl ?_
  refine K_pI (κ := 3) dd_S_sendNumbered_183 fk_S_125 h2 hq (show s < 6 by omega) rfl rfl rfl (fun w3 h3 => ?_)
  refine ev_aload_n dd_S_sendNumbered_186 rfl ?_
  refine K_gP (κ := 1) (q := cr_o 3 s) dd_S_sendNumbered_187 fr_S_81 h3 (show s < 6 by omega) rfl ?_
  refine ev_aload_n dd_S_sendNumbered_190 rfl ?_
  refine K_gI (κ := 1) dd_S_sendNumbered_191 fr_S_27 h3 (show s < 6 by omega) rfl ?_
  refine K_pI (κ := 3) dd_S_sendNumbered_194 fk_S_149 h3 hq (show s < 6 by omega) rfl rfl rfl (fun w4 h4 => ?_)
  refine ev_aload_n dd_S_sendNumbered_197 rfl ?_
  refine K_gP (κ := 1) (q := cr_o 3 s) dd_S_sendNumbered_198 fr_S_81 h4 (show s < 6 by omega) rfl ?_
  refine ev_aload_n dd_S_sendNumbered_201 rfl ?_
  refine K_gI (κ := 1) dd_S_sendNumbered_202 fr_S_33 h4 (show s < 6 by omega) rfl ?_
  refine K_pI (κ := 3) dd_S_sendNumbered_205 fk_S_150 h4 hq (show s < 6 by omega) rfl rfl rfl (fun w5 h5 => ?_)
  refine ev_vret dd_S_sendNumbered_208 rfl ?_
  exact ⟨rfl, h5⟩
end CrV
