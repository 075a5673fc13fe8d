/-! an array list's array grows -/
/-- what stands fast of the JDK's own objects: the empty array, the class of Object[] -/
def ev_J (G : ev_gx) (q0 mi : Nat) : Prop := va_Z "java/util/ArrayList" "DEFAULTCAPACITY_EMPTY_ELEMENTDATA" "[Ljava/lang/Object;" (.ref q0) (fun q => ev_b G ≤ q) (ev_s0 G) (ev_s0 G).heap ∧ (∃ f, va_T (.object "java/lang/Object") q0 0 f (fun q => ev_b G ≤ q) (ev_s0 G) (ev_s0 G).heap) ∧ va_Mi "[Ljava/lang/Object;" mi (ev_s0 G)
theorem ev_J.lt {G : ev_gx} {q0 mi : Nat} (J : ev_J G q0 mi) : q0 < ev_b G := by
  obtain ⟨-, ⟨f, cell, -, -, -, -, -, -, h⟩, -⟩ := J
  exact Nat.not_le.mp h
theorem ev_cl (n : Nat) (h : n < 2 ^ 31) : (Int32.ofNat n).toNatClampNeg = n := clamp_of rfl h
theorem ev_on (n : Nat) (h : n < 2 ^ 31) : ¬ Int32.ofNat n < 0 := nI_pos h
section EvL
variable {G : ev_gx} {M : ev_mx} {d pc pc' tgt : Nat} {L : List (Nat × Value)} {st : List Value} {w : ev_wd} {P : ev_r → ev_wd → Prop}
theorem ev_anewN {index t m : Nat} {C : String} (hd : ev_d M.2.1 pc (.anewarray index) 3 pc') (hty : nm_at[t]? = some (.object C)) (hlk : Cond.classLink M.1.cls index C ∈ lw_tbl) (hw : Cond.arrayOver (.object C) ∈ lw_tbl) (hm : m ≤ 1000000) (hz : ev_z w + 1 ≤ ev_b G + 601024) (hu : ev_u w + m ≤ 7293034) (kk : ev_E G M d pc' L (.ref (ev_z w) :: st) (ev_add w (100 + t) m (fun _ => .null) m) P) : ev_E G M d pc L (.int (Int32.ofNat m) :: st) w P := by
  have e := ev_cl m (by omega)
  refine ev_anew hd hty hlk hw (ev_on m (by omega)) (by rw [e]; omega) hz (by rw [e]; exact hu) ?_
  rw [e]
  exact kk
theorem c_AS_newLength (x y z p : Int32) (hp : x + (if y < z then z else y) = p) (h1 : ¬ p ≤ 0) (h2 : ¬ 2147483639 < p) : ev_E G mm_AS_newLength (d + 1) 0 (lv_args 0 [.int x, .int y, .int z]) [] w (ev_ret (some (.int p)) w) := by
  refine ev_iload_n dd_AS_newLength_0 rfl ?_
  refine ev_iload_n dd_AS_newLength_1 rfl ?_
  refine ev_iload_n dd_AS_newLength_2 rfl ?_
  refine ev_callsR [.int y, .int z] dd_AS_newLength_3 ms_MA_max is_AS_194 rfl (Nat.le_of_ble_eq_true rfl) (Nat.le_of_ble_eq_true rfl) (c_MA_max y z) ?_
  refine ev_iadd dd_AS_newLength_6 ?_
  rw [hp]
  refine ev_istore_n dd_AS_newLength_7 (by decide) ?_
  refine ev_ic (v := 0) dd_AS_newLength_8 (by decide +kernel) ?_
  refine ev_iload_n dd_AS_newLength_9 rfl ?_
  refine ev_icmp_ge dd_AS_newLength_10 (fun h => absurd h h1) (fun h => ?_)
  refine ev_iload_n dd_AS_newLength_13 rfl ?_
  refine ev_ldc dd_AS_newLength_14 cn_AS_200 ?_
  refine ev_icmp_gt dd_AS_newLength_16 (fun h => absurd h h2) (fun _ => ?_)
  refine ev_iload_n dd_AS_newLength_19 rfl ?_
  refine ev_iret dd_AS_newLength_20 rfl rfl ?_
  exact ⟨rfl, rfl⟩
theorem c_AR_copyOf3 {q0 mi arr n m : Nat} (J : ev_J G q0 mi) (ha : ev_b G ≤ arr ∧ arr < ev_z w) (hg : ev_g w arr = 103) (hn : ev_n w arr = n) (hnm : n ≤ m) (hm : m ≤ 200000) (hel : ∀ i, i < n → ∃ y, ev_v w arr i = .ref y ∧ (ev_b G ≤ y ∧ y < ev_z w) ∧ ev_g w y = 6) (hz : ev_z w + 1 ≤ ev_b G + 601024) (hu : ev_u w + m ≤ 7293034) :
    ev_E G mm_AR_copyOf3 (d + 1) 0 (lv_args 0 [.ref arr, .int (Int32.ofNat m), .ref mi]) [] w (ev_ret (some (.ref (ev_z w))) (ev_cpy (ev_add w 103 m (fun _ => .null) m) arr (ev_z w) 0 0 n)) := by
  refine ev_aload_n dd_AR_copyOf3_0 rfl ?_
  refine ev_ldcM dd_AR_copyOf3_1 kl_AR_110 J.2.2 ?_
  refine ev_acmpR_ne dd_AR_copyOf3_3 (fun h => absurd rfl h) (fun _ => ?_)
  refine ev_iload_n dd_AR_copyOf3_6 rfl ?_
  refine ev_anewN (t := 3) dd_AR_copyOf3_7 rfl kl_AR_2 ao_OO (by omega) hz hu ?_
  refine ev_goto dd_AR_copyOf3_10 ?_
  refine ev_astore_n dd_AR_copyOf3_24 (by decide) ?_
  refine ev_aload_n dd_AR_copyOf3_25 rfl ?_
  refine ev_ic (v := 0) dd_AR_copyOf3_26 (by decide +kernel) ?_
  refine ev_aload_n dd_AR_copyOf3_27 rfl ?_
  refine ev_ic (v := 0) dd_AR_copyOf3_28 (by decide +kernel) ?_
  refine ev_aload_n dd_AR_copyOf3_29 rfl ?_
  obtain ⟨a1, a2, a3⟩ := ev_add_ne w 103 m (fun _ => .null) m (Nat.ne_of_lt ha.2)
  obtain ⟨b1, b2, b3⟩ := ev_add_at w 103 m (fun _ => .null) m
  refine ev_alen (t := 3) dd_AR_copyOf3_30 ⟨ha.1, Nat.lt_succ_of_lt ha.2⟩ (a1.trans hg) rfl (a2.trans hn) ?_
  refine ev_iload_n dd_AR_copyOf3_31 rfl ?_
  refine ev_callsR [.int (Int32.ofNat n), .int (Int32.ofNat m)] dd_AR_copyOf3_32 ms_MA_min is_AR_304 rfl (Nat.le_of_ble_eq_true rfl) (Nat.le_of_ble_eq_true rfl) (c_MA_min _ _) ?_
  rw [if_neg (show ¬ Int32.ofNat m < Int32.ofNat n from nI_nlt hnm (by omega))]
  have e := ev_cl n (by omega)
  have e0 : (0 : Int32).toNatClampNeg = 0 := by decide +kernel
  have hb : ev_b G ≤ ev_z w := Nat.le_trans ha.1 (Nat.le_of_lt ha.2)
  refine ev_copy (t := 3) dd_AR_copyOf3_35 ml_AR_150 nt_ac sc_ac in_SY ⟨ha.1, Nat.lt_succ_of_lt ha.2⟩ ⟨hb, Nat.lt_succ_self _⟩ (a1.trans hg) b1 rfl (by decide +kernel) (by decide +kernel) (ev_on n (by omega)) (by rw [e0, e, a2, hn]; omega) (by rw [e0, e, b2]; omega)
    (Or.inr ⟨_, rfl, fun i hi => Or.inr ?_⟩) (Nat.le_of_ble_eq_true rfl) ?_
  · rw [e] at hi
    obtain ⟨y, y1, y2, y3⟩ := hel i hi
    refine ⟨y, 6, ("ThreeLinkPair$Message", nm_T6, 4), ?_, ⟨y2.1, Nat.lt_succ_of_lt y2.2⟩, ?_, rfl, ca_G_OO⟩
    · rw [e0, a3, Nat.zero_add]; exact y1
    · rw [(ev_add_ne w 103 m (fun _ => .null) m (Nat.ne_of_lt y2.2)).1]; exact y3
  · rw [e0, e]
    refine ev_aload_n dd_AR_copyOf3_38 rfl ?_
    exact ev_aret dd_AR_copyOf3_39 rfl (Or.inr ⟨_, rfl⟩) (Or.inr ⟨_, rfl⟩) ⟨rfl, rfl⟩
theorem c_AR_copyOf2 {q0 mi arr n m : Nat} (J : ev_J G q0 mi) (ha : ev_b G ≤ arr ∧ arr < ev_z w) (hg : ev_g w arr = 103) (hn : ev_n w arr = n) (hnm : n ≤ m) (hm : m ≤ 200000) (hel : ∀ i, i < n → ∃ y, ev_v w arr i = .ref y ∧ (ev_b G ≤ y ∧ y < ev_z w) ∧ ev_g w y = 6) (hz : ev_z w + 1 ≤ ev_b G + 601024) (hu : ev_u w + m ≤ 7293034) :
    ev_E G mm_AR_copyOf2 (d + 2) 0 (lv_args 0 [.ref arr, .int (Int32.ofNat m)]) [] w (ev_ret (some (.ref (ev_z w))) (ev_cpy (ev_add w 103 m (fun _ => .null) m) arr (ev_z w) 0 0 n)) := by
  refine ev_aload_n dd_AR_copyOf2_0 rfl ?_
  refine ev_iload_n dd_AR_copyOf2_1 rfl ?_
  refine ev_aload_n dd_AR_copyOf2_2 rfl ?_
  refine ev_getC (t := 3) dd_AR_copyOf2_3 ml_AR_86 dc_gc se_gc im_gc nt_gc J.2.2 ha hg rfl (by decide +kernel) (Nat.le_of_ble_eq_true rfl) ?_
  refine ev_callsR [.ref arr, .int (Int32.ofNat m), .ref mi] dd_AR_copyOf2_6 ms_AR_copyOf3 is_AR_300 rfl (Nat.le_of_ble_eq_true rfl) (Nat.le_of_ble_eq_true rfl) (c_AR_copyOf3 J ha hg hn hnm hm hel hz hu) ?_
  exact ev_aret dd_AR_copyOf2_9 rfl (Or.inr ⟨_, rfl⟩) (Or.inr ⟨_, rfl⟩) ⟨rfl, rfl⟩
end EvL
