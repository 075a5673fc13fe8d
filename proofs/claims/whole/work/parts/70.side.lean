/-! objects by their numbers; the side's own small methods -/
/-- an object of class c at a, whose first n fields are the numbers f -/
def ev_ov (G : ev_gx) (w : ev_wd) (a c n : Nat) (f : Nat → Int32) : Prop := (ev_b G ≤ a ∧ a < ev_z w) ∧ ev_g w a = c ∧ ∀ k, k < n → ev_v w a k = .int (f k)
/-- nothing but the first n fields of a has changed -/
def ev_sm (n : Nat) (w w' : ev_wd) (a : Nat) : Prop := ev_fr w w' (fun q => q = a) ∧ ev_z w' = ev_z w ∧ ev_u w' = ev_u w ∧ ∀ j, n ≤ j → ev_v w' a j = ev_v w a j
theorem ev_sm.refl (n : Nat) (w : ev_wd) (a : Nat) : ev_sm n w w a := ⟨ev_fr.refl _ _, rfl, rfl, fun _ _ => rfl⟩
theorem ev_sm.trans {n a : Nat} {w w1 w2 : ev_wd} (h : ev_sm n w w1 a) (k : ev_sm n w1 w2 a) : ev_sm n w w2 a := ⟨h.1.trans k.1, k.2.1.trans h.2.1, k.2.2.1.trans h.2.2.1, fun j hj => (k.2.2.2 j hj).trans (h.2.2.2 j hj)⟩
theorem ev_ov.to {G : ev_gx} {w : ev_wd} {a c n : Nat} {f f' : Nat → Int32} (h : ev_ov G w a c n f) (hf : ∀ k, k < n → f k = f' k) : ev_ov G w a c n f' := ⟨h.1, h.2.1, fun k hk => by rw [← hf k hk]; exact h.2.2 k hk⟩
theorem ev_ov.fr {G : ev_gx} {w w' : ev_wd} {a c n : Nat} {f : Nat → Int32} {S : Nat → Prop} (h : ev_ov G w a c n f) (hf : ev_fr w w' S) (hS : ¬ S a) : ev_ov G w' a c n f := ⟨⟨h.1.1, Nat.lt_of_lt_of_le h.1.2 hf.1⟩, (hf.2.2 a h.1.2).1.trans h.2.1, fun k hk => by rw [(hf.2.2 a h.1.2).2.2 hS]; exact h.2.2 k hk⟩
section EvV
variable {G : ev_gx} {M : ev_mx} {d pc pc' tgt : Nat} {L : List (Nat × Value)} {st : List Value} {w : ev_wd} {P : ev_r → ev_wd → Prop}
theorem ev_gI {index c k a n : Nat} {f : Nat → Int32} (hd : ev_d M.2.1 pc (.getfield index) 3 pc') (hF : ev_F0 M.1.cls index c k) (h : ev_ov G w a c n f) (hk : k < n) (kk : ev_E G M d pc' L (.int (f k) :: st) w P) : ev_E G M d pc L (.ref a :: st) w P := ev_getf hd hF h.1 h.2.1 (h.2.2 k hk) kk
theorem ev_pI {index c k a n : Nat} {f : Nat → Int32} {x : Int32} (hd : ev_d M.2.1 pc (.putfield index) 3 pc') (hF : ev_F M.1.cls index c k false) (h : ev_ov G w a c n f) (hk : k < n) (hn : narrow (nm_ft c k) (.int x) = .int x) (hfit : fits (nm_ft c k) (.int x) = true)
    (kk : ∀ w1, ev_ov G w1 a c n (upd f k x) → ev_sm n w w1 a → ev_E G M d pc' L st w1 P) : ev_E G M d pc L (.int x :: .ref a :: st) w P := by
  refine ev_putf hd hF h.1 h.2.1 hn hfit (kk _ ⟨h.1, h.2.1, fun j hj => ?_⟩ ⟨ev_fr.set _ _ _ _ (fun _ => rfl), rfl, rfl, fun j hj => ?_⟩)
  · rw [ev_set_at]
    by_cases e : j = k
    · simp [updV, upd, e]
    · simp only [updV, upd, if_neg e]
      exact h.2.2 j hj
  · rw [ev_set_at]
    simp only [updV]
    rw [if_neg (by omega)]
theorem c_S_comeTo {a : Nat} {f : Nat → Int32} (x : Int32) (h : ev_ov G w a 2 16 f) : ev_E G mm_S_comeTo d 0 (lv_args 0 [.ref a, .int x]) [] w (fun r w' => r = .inl none ∧ ev_ov G w' a 2 16 (upd (upd f 0 x) 1 0) ∧ ev_sm 16 w w' a) := by
  refine ev_aload_n dd_S_comeTo_0 rfl ?_
  refine ev_iload_n dd_S_comeTo_1 rfl ?_
  refine ev_pI dd_S_comeTo_2 fk_S_9 h (by decide) rfl rfl (fun w1 h1 s1 => ?_)
  refine ev_aload_n dd_S_comeTo_5 rfl ?_
  refine ev_ic (v := 0) dd_S_comeTo_6 (by decide +kernel) ?_
  refine ev_pI dd_S_comeTo_7 fk_S_15 h1 (by decide) rfl rfl (fun w2 h2 s2 => ?_)
  refine ev_vret dd_S_comeTo_10 rfl ?_
  exact ⟨rfl, h2, s1.trans s2⟩
def sd_good (f : Nat → Int32) : Nat → Int32 := if f 11 + 1 < 8 then upd f 11 (f 11 + 1) else if f 10 ≤ 0 then upd f 11 0 else upd (upd f 11 0) 10 (f 10 - 1)
theorem c_S_countGood {a : Nat} {f : Nat → Int32} (h : ev_ov G w a 2 16 f) : ev_E G mm_S_countGood d 0 (lv_args 0 [.ref a]) [] w (fun r w' => r = .inl none ∧ ev_ov G w' a 2 16 (sd_good f) ∧ ev_sm 16 w w' a) := by
  refine ev_aload_n dd_S_countGood_0 rfl ?_
  refine ev_dup dd_S_countGood_1 rfl ?_
  refine ev_gI dd_S_countGood_2 fr_S_45 h (by decide) ?_
  refine ev_ic (v := 1) dd_S_countGood_5 (by decide +kernel) ?_
  refine ev_iadd dd_S_countGood_6 ?_
  refine ev_pI dd_S_countGood_7 fk_S_45 h (by decide) rfl rfl (fun w1 h1 s1 => ?_)
  refine ev_aload_n dd_S_countGood_10 rfl ?_
  refine ev_gI dd_S_countGood_11 fr_S_45 h1 (by decide) ?_
  refine ev_bp (v := 8) dd_S_countGood_14 (by decide +kernel) ?_
  refine ev_icmp_lt dd_S_countGood_16 (fun hc => ?_) (fun hc => ?_)
  · refine ev_vret dd_S_countGood_41 rfl ?_
    exact ⟨rfl, h1.to (fun k _ => by unfold sd_good; rw [if_pos (by simpa [upd] using hc)]), s1⟩
  · refine ev_aload_n dd_S_countGood_19 rfl ?_
    refine ev_ic (v := 0) dd_S_countGood_20 (by decide +kernel) ?_
    refine ev_pI dd_S_countGood_21 fk_S_45 h1 (by decide) rfl rfl (fun w2 h2 s2 => ?_)
    refine ev_aload_n dd_S_countGood_24 rfl ?_
    refine ev_gI dd_S_countGood_25 fr_S_42 h2 (by decide) ?_
    refine ev_if_le dd_S_countGood_28 (fun hd => ?_) (fun hd => ?_)
    · refine ev_vret dd_S_countGood_41 rfl ?_
      refine ⟨rfl, h2.to (fun k _ => ?_), s1.trans s2⟩
      unfold sd_good
      rw [if_neg (by simpa [upd] using hc), if_pos (by simpa [upd] using hd)]
      by_cases e : k = 11 <;> simp [upd, e]
    · refine ev_aload_n dd_S_countGood_31 rfl ?_
      refine ev_dup dd_S_countGood_32 rfl ?_
      refine ev_gI dd_S_countGood_33 fr_S_42 h2 (by decide) ?_
      refine ev_ic (v := 1) dd_S_countGood_36 (by decide +kernel) ?_
      refine ev_isub dd_S_countGood_37 ?_
      refine ev_pI dd_S_countGood_38 fk_S_42 h2 (by decide) rfl rfl (fun w3 h3 s3 => ?_)
      refine ev_vret dd_S_countGood_41 rfl ?_
      refine ⟨rfl, h3.to (fun k _ => ?_), s1.trans (s2.trans s3)⟩
      unfold sd_good
      rw [if_neg (by simpa [upd] using hc), if_neg (by simpa [upd] using hd)]
      by_cases e : k = 10
      · simp [upd, e]
      · by_cases e2 : k = 11 <;> simp [upd, e, e2]
/-- a damaged unit: the numbers behind it, and whether the side has to fall -/
def sd_dmg (f : Nat → Int32) : Nat → Int32 := if f 0 = 4 then upd f 10 (f 10 + 1) else if f 0 = 2 then (if 2 ≤ f 8 + 1 then upd (upd (upd f 1 0) 8 0) 9 (f 9 + 1) else upd f 8 (f 8 + 1)) else f
def sd_dmgR (f : Nat → Int32) : Int32 := if f 0 = 4 then (if f 10 + 1 < 4 then 0 else 1) else if f 0 = 2 then (if 2 ≤ f 8 + 1 then (if f 9 + 1 < 3 then 0 else 1) else 0) else 0
theorem c_S_failsByDamage {a : Nat} {f : Nat → Int32} (h : ev_ov G w a 2 16 f) : ev_E G mm_S_failsByDamage d 0 (lv_args 0 [.ref a]) [] w (fun r w' => r = .inl (some (.int (sd_dmgR f))) ∧ ev_ov G w' a 2 16 (sd_dmg f) ∧ ev_sm 16 w w' a) := by
  refine ev_aload_n dd_S_failsByDamage_0 rfl ?_
  refine ev_gI dd_S_failsByDamage_1 fr_S_9 h (by decide) ?_
  refine ev_ic (v := 4) dd_S_failsByDamage_4 (by decide +kernel) ?_
  refine ev_icmp_ne dd_S_failsByDamage_5 (fun h4 => ?_) (fun h4 => ?_)
  · refine ev_aload_n dd_S_failsByDamage_32 rfl ?_
    refine ev_gI dd_S_failsByDamage_33 fr_S_9 h (by decide) ?_
    refine ev_ic (v := 2) dd_S_failsByDamage_36 (by decide +kernel) ?_
    refine ev_icmp_eq dd_S_failsByDamage_37 (fun h2 => ?_) (fun h2 => ?_)
    · refine ev_aload_n dd_S_failsByDamage_42 rfl ?_
      refine ev_dup dd_S_failsByDamage_43 rfl ?_
      refine ev_gI dd_S_failsByDamage_44 fr_S_36 h (by decide) ?_
      refine ev_ic (v := 1) dd_S_failsByDamage_47 (by decide +kernel) ?_
      refine ev_iadd dd_S_failsByDamage_48 ?_
      refine ev_pI dd_S_failsByDamage_49 fk_S_36 h (by decide) rfl rfl (fun w1 h1 s1 => ?_)
      refine ev_aload_n dd_S_failsByDamage_52 rfl ?_
      refine ev_gI dd_S_failsByDamage_53 fr_S_36 h1 (by decide) ?_
      refine ev_ic (v := 2) dd_S_failsByDamage_56 (by decide +kernel) ?_
      refine ev_icmp_ge dd_S_failsByDamage_57 (fun hc => ?_) (fun hc => ?_)
      · have hc' : 2 ≤ f 8 + 1 := by simpa [upd] using hc
        refine ev_aload_n dd_S_failsByDamage_62 rfl ?_
        refine ev_ic (v := 0) dd_S_failsByDamage_63 (by decide +kernel) ?_
        refine ev_pI dd_S_failsByDamage_64 fk_S_15 h1 (by decide) rfl rfl (fun w2 h2' s2 => ?_)
        refine ev_aload_n dd_S_failsByDamage_67 rfl ?_
        refine ev_ic (v := 0) dd_S_failsByDamage_68 (by decide +kernel) ?_
        refine ev_pI dd_S_failsByDamage_69 fk_S_36 h2' (by decide) rfl rfl (fun w3 h3 s3 => ?_)
        refine ev_aload_n dd_S_failsByDamage_72 rfl ?_
        refine ev_dup dd_S_failsByDamage_73 rfl ?_
        refine ev_gI dd_S_failsByDamage_74 fr_S_39 h3 (by decide) ?_
        refine ev_ic (v := 1) dd_S_failsByDamage_77 (by decide +kernel) ?_
        refine ev_iadd dd_S_failsByDamage_78 ?_
        refine ev_pI dd_S_failsByDamage_79 fk_S_39 h3 (by decide) rfl rfl (fun w4 h4' s4 => ?_)
        refine ev_aload_n dd_S_failsByDamage_82 rfl ?_
        refine ev_gI dd_S_failsByDamage_83 fr_S_39 h4' (by decide) ?_
        refine ev_ic (v := 3) dd_S_failsByDamage_86 (by decide +kernel) ?_
        have hT : ∀ k, k < 16 → upd (upd (upd (upd f 8 (f 8 + 1)) 1 0) 8 0) 9 ((upd (upd (upd f 8 (f 8 + 1)) 1 0) 8 0) 9 + 1) k = sd_dmg f k := by
          intro k _
          unfold sd_dmg
          rw [if_neg h4, if_pos h2, if_pos hc']
          by_cases e : k = 9
          · simp [upd, e]
          · by_cases e2 : k = 8
            · simp [upd, e2]
            · simp [upd, e, e2]
        refine ev_icmp_lt dd_S_failsByDamage_87 (fun he => ?_) (fun he => ?_)
        · refine ev_ic (v := 0) dd_S_failsByDamage_94 (by decide +kernel) ?_
          refine ev_iret dd_S_failsByDamage_95 rfl rfl ?_
          refine ⟨?_, h4'.to hT, s1.trans (s2.trans (s3.trans s4))⟩
          unfold sd_dmgR
          rw [if_neg h4, if_pos h2, if_pos hc', if_pos (by simpa [upd] using he)]
        · refine ev_ic (v := 1) dd_S_failsByDamage_90 (by decide +kernel) ?_
          refine ev_goto dd_S_failsByDamage_91 ?_
          refine ev_iret dd_S_failsByDamage_95 rfl rfl ?_
          refine ⟨?_, h4'.to hT, s1.trans (s2.trans (s3.trans s4))⟩
          unfold sd_dmgR
          rw [if_neg h4, if_pos h2, if_pos hc', if_neg (by simpa [upd] using he)]
      · have hc' : ¬ 2 ≤ f 8 + 1 := by simpa [upd] using hc
        refine ev_ic (v := 0) dd_S_failsByDamage_60 (by decide +kernel) ?_
        refine ev_iret dd_S_failsByDamage_61 rfl rfl ?_
        refine ⟨?_, h1.to (fun k _ => ?_), s1⟩
        · unfold sd_dmgR
          rw [if_neg h4, if_pos h2, if_neg hc']
        · unfold sd_dmg
          rw [if_neg h4, if_pos h2, if_neg hc']
    · refine ev_ic (v := 0) dd_S_failsByDamage_40 (by decide +kernel) ?_
      refine ev_iret dd_S_failsByDamage_41 rfl rfl ?_
      refine ⟨?_, h.to (fun k _ => ?_), ev_sm.refl _ _ _⟩
      · unfold sd_dmgR
        rw [if_neg h4, if_neg h2]
      · unfold sd_dmg
        rw [if_neg h4, if_neg h2]
  · refine ev_aload_n dd_S_failsByDamage_8 rfl ?_
    refine ev_dup dd_S_failsByDamage_9 rfl ?_
    refine ev_gI dd_S_failsByDamage_10 fr_S_42 h (by decide) ?_
    refine ev_ic (v := 1) dd_S_failsByDamage_13 (by decide +kernel) ?_
    refine ev_iadd dd_S_failsByDamage_14 ?_
    refine ev_pI dd_S_failsByDamage_15 fk_S_42 h (by decide) rfl rfl (fun w1 h1 s1 => ?_)
    refine ev_aload_n dd_S_failsByDamage_18 rfl ?_
    refine ev_gI dd_S_failsByDamage_19 fr_S_42 h1 (by decide) ?_
    refine ev_ic (v := 4) dd_S_failsByDamage_22 (by decide +kernel) ?_
    have hT : ∀ k, k < 16 → upd f 10 (f 10 + 1) k = sd_dmg f k := by
      intro k _
      unfold sd_dmg
      rw [if_pos h4]
    refine ev_icmp_lt dd_S_failsByDamage_23 (fun he => ?_) (fun he => ?_)
    · refine ev_ic (v := 0) dd_S_failsByDamage_30 (by decide +kernel) ?_
      refine ev_iret dd_S_failsByDamage_31 rfl rfl ?_
      refine ⟨?_, h1.to hT, s1⟩
      unfold sd_dmgR
      rw [if_pos h4, if_pos (by simpa [upd] using he)]
    · refine ev_ic (v := 1) dd_S_failsByDamage_26 (by decide +kernel) ?_
      refine ev_goto dd_S_failsByDamage_27 ?_
      refine ev_iret dd_S_failsByDamage_31 rfl rfl ?_
      refine ⟨?_, h1.to hT, s1⟩
      unfold sd_dmgR
      rw [if_pos h4, if_neg (by simpa [upd] using he)]
end EvV
