/-! looking changes nothing; what the choice gives -/
theorem cs_isOpen2 (C : cr_C) (e l : Nat) : (cs_E_isOpen C e l).2 = C := by
  unfold cs_E_isOpen
  repeat' split
  all_goals rfl
theorem cs_first2 (C : cr_C) (e : Nat) : (cs_E_firstServing C e).2 = C := by
  unfold cs_E_firstServing
  repeat' split
  all_goals rfl
theorem cs_first1 (C : cr_C) (e : Nat) : (cs_E_firstServing C e).1 = 0 ∨ (cs_E_firstServing C e).1 = 1 ∨ (cs_E_firstServing C e).1 = 2 ∨ (cs_E_firstServing C e).1 = -1 := by
  unfold cs_E_firstServing
  repeat' split
  all_goals (first | exact Or.inl rfl | exact Or.inr (Or.inl rfl) | exact Or.inr (Or.inr (Or.inl rfl)) | exact Or.inr (Or.inr (Or.inr rfl)))
def cs_E_choose (C : cr_C) (e k : Nat) : Int32 × cr_C := match k with
  | 0 => cs_E_choose0 C e
  | 1 => cs_E_choose1 C e
  | 2 => cs_E_choose2 C e
  | _ => cs_E_choose3 C e
theorem cs_choose2 (C : cr_C) (e k : Nat) : (cs_E_choose C e k).2 = C := by
  unfold cs_E_choose
  split
  · unfold cs_E_choose0
    simp only [cs_isOpen2]
    repeat' split
    all_goals rfl
  · unfold cs_E_choose1
    simp only [cs_isOpen2]
    repeat' split
    all_goals rfl
  · unfold cs_E_choose2
    simp only [cs_isOpen2]
    repeat' split
    all_goals rfl
  · unfold cs_E_choose3
    simp only [cs_isOpen2]
    repeat' split
    all_goals rfl
theorem cs_choose1 (C : cr_C) (e k : Nat) : (cs_E_choose C e k).1 = 0 ∨ (cs_E_choose C e k).1 = 1 ∨ (cs_E_choose C e k).1 = 2 ∨ (cs_E_choose C e k).1 = -1 := by
  unfold cs_E_choose
  split
  · unfold cs_E_choose0
    repeat' split
    all_goals (first | exact Or.inl rfl | exact Or.inr (Or.inl rfl) | exact Or.inr (Or.inr (Or.inl rfl)) | exact Or.inr (Or.inr (Or.inr rfl)))
  · unfold cs_E_choose1
    repeat' split
    all_goals (first | exact Or.inl rfl | exact Or.inr (Or.inl rfl) | exact Or.inr (Or.inr (Or.inl rfl)) | exact Or.inr (Or.inr (Or.inr rfl)))
  · unfold cs_E_choose2
    repeat' split
    all_goals (first | exact Or.inl rfl | exact Or.inr (Or.inl rfl) | exact Or.inr (Or.inr (Or.inl rfl)) | exact Or.inr (Or.inr (Or.inr rfl)))
  · unfold cs_E_choose3
    repeat' split
    all_goals (first | exact Or.inl rfl | exact Or.inr (Or.inl rfl) | exact Or.inr (Or.inr (Or.inl rfl)) | exact Or.inr (Or.inr (Or.inr rfl)))
section CrE
variable {G : ev_gx} {M : ev_mx} {d pc pc' tgt : Nat} {L : List (Nat × Value)} {st : List Value} {w w1 : ev_wd} {P : ev_r → ev_wd → Prop} {q0 mi n n' : Nat} {C : cr_C} {F : ev_wd} {Q : Nat → cr_m → Prop}
theorem k_E_choose {e k : Nat} (hq : q0 < ev_b G) (he : e < 2) (hk : k < 4) (h : cr_K G q0 w C n F Q) : ev_E G mm_E_choose (d + 1) 0 (lv_args 0 [.ref (ev_b G + cr_o 9 e), .int (Int32.ofNat k)]) [] w (cr_yi G q0 n F Q (cs_E_choose C e k)) := by
  have hk4 : k = 0 ∨ k = 1 ∨ k = 2 ∨ k = 3 := by omega
  rcases hk4 with rfl | rfl | rfl | rfl
  · exact k_E_choose0 hq he h
  · exact k_E_choose1 hq he h
  · exact k_E_choose2 hq he h
  · exact k_E_choose3 hq he h
end CrE
