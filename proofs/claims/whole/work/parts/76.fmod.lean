/-! the rest by 8, by 16 -/
theorem ev_xs (x y : Int32) (hy : y.toBitVec.msb = false) : (0 ≤ x ^^^ y) ↔ 0 ≤ x := by
  have m := BitVec.msb_eq_toInt (x := (x ^^^ y).toBitVec)
  have m2 := BitVec.msb_eq_toInt (x := x.toBitVec)
  rw [Int32.toBitVec_xor, BitVec.msb_xor, hy, Bool.xor_false, m2] at m
  have m3 : (x.toInt < 0) ↔ ((x ^^^ y).toInt < 0) := decide_eq_decide.mp m
  rw [Int32.le_iff_toInt_le, Int32.le_iff_toInt_le]
  have z : (0 : Int32).toInt = 0 := by decide
  rw [z]
  omega
theorem ev_rng (x : Int32) : -2147483648 ≤ x.toInt ∧ x.toInt < 2147483648 := ⟨Int32.le_toInt x, Int32.toInt_lt x⟩
theorem ev_bm {a : Int} (h1 : -2147483648 ≤ a) (h2 : a < 2147483648) : a.bmod (2 ^ 32) = a := by
  unfold Int.bmod
  simp only []
  split <;> omega
theorem ev_td (x y : Int32) (k : Int) (hk : y.toInt = k) (h0 : 0 < k) : ∃ t : Int, (x / y).toInt = t ∧ ((0 ≤ x.toInt ∧ t = x.toInt / k) ∨ (x.toInt < 0 ∧ t = -((-x.toInt) / k))) := by
  have hr := ev_rng x
  refine ⟨_, rfl, ?_⟩
  rw [Int32.toInt_div, hk]
  by_cases h : 0 ≤ x.toInt
  · refine Or.inl ⟨h, ?_⟩
    rw [Int.tdiv_eq_ediv_of_nonneg h]
    have a1 := Int.ediv_nonneg h (Int.le_of_lt h0)
    have a2 := Int.ediv_le_self k h
    exact ev_bm (by omega) (by omega)
  · refine Or.inr ⟨by omega, ?_⟩
    have e : x.toInt = - (- x.toInt) := by omega
    have h' : 0 ≤ - x.toInt := by omega
    have a1 := Int.ediv_nonneg h' (Int.le_of_lt h0)
    have a2 := Int.ediv_le_self k h'
    rw [e, Int.neg_tdiv, Int.tdiv_eq_ediv_of_nonneg h', ← e]
    exact ev_bm (by omega) (by omega)
theorem ev_fm8 (x : Int32) : ev_fmod x 8 = Int32.ofNat (x.toInt % 8).toNat := by
  have hr := ev_rng x
  obtain ⟨t, ht, hc⟩ := ev_td x 8 8 (by decide) (by decide)
  have hm : (x / 8 * 8).toInt = t * 8 := by
    rw [Int32.toInt_mul, ht, show (8 : Int32).toInt = 8 by decide]
    exact ev_bm (by omega) (by omega)
  have hs : (x - x / 8 * 8).toInt = x.toInt - t * 8 := by
    rw [Int32.toInt_sub, hm]
    exact ev_bm (by omega) (by omega)
  have hx := ev_xs x 8 (by decide)
  have hz : (0 : Int32).toInt = 0 := by decide
  rw [Int32.le_iff_toInt_le (x := 0) (y := x), hz] at hx
  have hn : (Int32.ofNat (x.toInt % 8).toNat).toInt = x.toInt % 8 := by
    have e := nI_toInt (show (x.toInt % 8).toNat < 2 ^ 31 by omega)
    exact e.trans (by omega)
  apply Int32.toInt_inj.mp
  rw [hn]
  unfold ev_fmod
  split
  · rename_i h
    have h0 := hx.mp h
    rw [hs]
    omega
  · rename_i h
    have h0 : ¬ 0 ≤ x.toInt := fun q => h (hx.mpr q)
    split
    · rename_i h2
      have h3 : (x - x / 8 * 8).toInt = 0 := by rw [h2]; exact hz
      rw [hs] at h3 ⊢
      omega
    · rename_i h2
      have h3 : ¬ x.toInt - t * 8 = 0 := fun q => h2 (Int32.toInt_inj.mp (by rw [hs, hz]; exact q))
      rw [Int32.toInt_add, hs, show (8 : Int32).toInt = 8 by decide, ev_bm (by omega) (by omega)]
      omega
theorem ev_fm16 (x : Int32) : ev_fmod x 16 = Int32.ofNat (x.toInt % 16).toNat := by
  have hr := ev_rng x
  obtain ⟨t, ht, hc⟩ := ev_td x 16 16 (by decide) (by decide)
  have hm : (x / 16 * 16).toInt = t * 16 := by
    rw [Int32.toInt_mul, ht, show (16 : Int32).toInt = 16 by decide]
    exact ev_bm (by omega) (by omega)
  have hs : (x - x / 16 * 16).toInt = x.toInt - t * 16 := by
    rw [Int32.toInt_sub, hm]
    exact ev_bm (by omega) (by omega)
  have hx := ev_xs x 16 (by decide)
  have hz : (0 : Int32).toInt = 0 := by decide
  rw [Int32.le_iff_toInt_le (x := 0) (y := x), hz] at hx
  have hn : (Int32.ofNat (x.toInt % 16).toNat).toInt = x.toInt % 16 := by
    have e := nI_toInt (show (x.toInt % 16).toNat < 2 ^ 31 by omega)
    exact e.trans (by omega)
  apply Int32.toInt_inj.mp
  rw [hn]
  unfold ev_fmod
  split
  · rename_i h
    have h0 := hx.mp h
    rw [hs]
    omega
  · rename_i h
    have h0 : ¬ 0 ≤ x.toInt := fun q => h (hx.mpr q)
    split
    · rename_i h2
      have h3 : (x - x / 16 * 16).toInt = 0 := by rw [h2]; exact hz
      rw [hs] at h3 ⊢
      omega
    · rename_i h2
      have h3 : ¬ x.toInt - t * 16 = 0 := fun q => h2 (Int32.toInt_inj.mp (by rw [hs, hz]; exact q))
      rw [Int32.toInt_add, hs, show (16 : Int32).toInt = 16 by decide, ev_bm (by omega) (by omega)]
      omega
def cr_f8 (x : Int32) : Nat := (x.toInt % 8).toNat
def cr_f16 (x : Int32) : Nat := (x.toInt % 16).toNat
theorem cr_f8lt (x : Int32) : cr_f8 x < 8 := by unfold cr_f8; omega
theorem cr_f16lt (x : Int32) : cr_f16 x < 16 := by unfold cr_f16; omega
theorem c_fm8 {G : ev_gx} {d : Nat} {w : ev_wd} (x : Int32) : ev_E G mm_MA_floorMod d 0 (lv_args 0 [.int x, .int 8]) [] w (ev_ret (some (.int (Int32.ofNat (cr_f8 x)))) w) := by
  have h := c_MA_floorMod (G := G) (d := d) (w := w) x 8 (by decide)
  rw [ev_fm8] at h
  exact h
theorem c_fm16 {G : ev_gx} {d : Nat} {w : ev_wd} (x : Int32) : ev_E G mm_MA_floorMod d 0 (lv_args 0 [.int x, .int 16]) [] w (ev_ret (some (.int (Int32.ofNat (cr_f16 x)))) w) := by
  have h := c_MA_floorMod (G := G) (d := d) (w := w) x 16 (by decide)
  rw [ev_fm16] at h
  exact h
