/-! what stays so of the class's state, and its weight -/
def ot (s : Nat) : Nat := if s % 2 = 0 then s + 1 else s - 1
theorem ot_le {l e : Nat} (he : e < 2) : ot (2 * l + e) = 2 * l + (1 - e) := by
  unfold ot
  split <;> omega
theorem ot_lt {s : Nat} (hs : s < 6) : ot s < 6 := by
  unfold ot
  split <;> omega
theorem ot_ne (s : Nat) : ot s ≠ s := by
  unfold ot
  split <;> omega
theorem ot_ot (s : Nat) : ot (ot s) = s := by
  unfold ot
  split <;> split <;> omega
abbrev h2 (x : Int32) : Prop := x ≠ 0 ∧ x ≠ 1
def iA (C : cr_C) (s : Nat) : Prop := nb (C.1 1 s 0) 5 ∧ (C.1 1 s 0 = 1 ∨ C.1 1 s 0 = 3 → nb (C.1 1 s 1) 15) ∧ (C.1 1 s 0 = 2 → nb (C.1 1 s 1) 6) ∧ (C.1 1 s 0 ≠ 0 → nb (C.1 1 s 8) 2 ∧ nb (C.1 1 s 9) 3 ∧ nb (C.1 1 s 10) 4 ∧ nb (C.1 1 s 11) 8 ∧ nb (C.1 1 s 12) 12 ∧ nb (C.1 1 s 13) 2)
def iB (N : Nat) (C : cr_C) (s : Nat) : Prop := nb (C.1 1 s 4) 8 ∧ nb (C.1 1 s 5) 8 ∧ (C.1 1 s 0 ≠ 0 → C.1 1 s 0 ≠ 4 → C.1 1 s 4 = 7 ∧ C.1 1 s 5 = 7) ∧ nb (C.1 1 s 2) (N + 1) ∧ nb (C.1 1 s 3) (N + 1) ∧ nb (C.1 3 s 1) (N + 1)
def iD (N : Nat) (C : cr_C) (s : Nat) : Prop := nb (C.1 2 s 4) (N + 1) ∧ nb (C.1 2 s 5) (N + 1) ∧ nb (C.1 2 s 6) 8 ∧ (C.1 2 s 0 = 0 → C.2.1 (12 + s) = []) ∧ cr_nb C s ≤ (C.2.1 (12 + s)).length ∧ (C.1 2 s 2 ≠ 0 → cr_nb C s = 0) ∧ ∀ i, i < 16 → C.1 6 s i = -1 ∨ nb (C.1 6 s i) 8
def iE (C : cr_C) (s : Nat) : Prop := (C.1 1 s 0 ≠ 4 → C.2.1 s = [] ∧ C.2.1 (6 + s) = []) ∧ nb (C.1 4 s 1) 100
def mw (N : Nat) (μ : cr_m) : Prop := (μ.1 = 4 ∨ μ.1 = 5) → (μ.2.2.1 = -1 ∨ nb μ.2.2.1 8) ∧ nb μ.2.2.2 (N + 1)
def iM (N : Nat) (C : cr_C) : Prop := (∀ r, r < 22 → ∀ μ ∈ C.2.1 r, mw N μ) ∧ (∀ s, s < 6 → ∀ μ, C.2.2 s = some μ → mw N μ) ∧ ∀ e, e < 2 → (C.2.1 (18 + e)).length ≤ 8
def i1 (N : Nat) (C : cr_C) (s : Nat) : Prop := iA C s ∧ iB N C s ∧ iD N C s ∧ iE C s
def iz (N : Nat) (C : cr_C) : Prop := cv C ∧ (∀ s, s < 6 → i1 N C s) ∧ iM N C
/-- how many of those sent have not come -/
def dd (C : cr_C) (s : Nat) : Nat := cr_f8 (C.1 1 s 4 - C.1 1 (ot s) 5)
abbrev pr (C : cr_C) (s : Nat) : Prop := h2 (C.1 1 s 0) ∧ h2 (C.1 1 (ot s) 0)
def jj (C : cr_C) (s : Nat) : Nat := cr_f8 (C.1 1 s 4 - C.1 3 s 2)
def q1 (C : cr_C) (s : Nat) : Prop := (pr C s → dd C s ≤ (C.2.1 s).length) ∧ (C.1 1 s 0 = 4 → C.1 3 s 0 = 4 → ∀ μ, C.2.2 s = some μ → jj C s ≤ 4 ∧ (jj C s < (C.2.1 s).length → (C.2.1 s)[(C.2.1 s).length - 1 - jj C s]? = some μ))
def q2 (k : Nat) (C : cr_C) (s : Nat) : Prop := (h2 (C.1 1 s 0) → C.1 1 s 0 ≠ 2 → C.1 3 s 0 = 4 → (k ≤ s → C.1 1 s 5 = C.1 3 s 4) ∧ (C.1 1 s 5 = C.1 3 s 4 ∨ C.1 1 s 5 = Int32.ofNat (cr_f8 (C.1 3 s 4 + 1)))) ∧ (C.1 3 s 0 = 2 ∨ C.1 3 s 0 = 3 → C.1 1 s 0 ≠ 3 ∧ C.1 1 s 0 ≠ 4) ∧ (C.1 3 s 0 = 4 → C.2.2 s ≠ none → C.1 1 s 0 ≠ 3) ∧ (C.1 3 s 0 = 4 → C.1 1 s 0 = 2 → C.1 3 (ot s) 0 = 2 ∨ C.1 3 (ot s) 0 = 3)
/-- after what came -/
def IW (N : Nat) (C : cr_C) : Prop := iz N C ∧ ∀ s, s < 6 → q1 C s
/-- while it comes, and between the calls -/
def IV (N k : Nat) (C : cr_C) : Prop := IW N C ∧ ∀ s, s < 6 → q2 k C s
/-! the weight -/
def wn : List cr_m → Nat
  | [] => 0
  | μ :: zs => (if μ.1 = 5 then 0 else 1) + wn zs
theorem wn_app : ∀ (zs ys : List cr_m), wn (zs ++ ys) = wn zs + wn ys := by
  intro zs
  induction zs with
  | nil => intro ys; simp [wn]
  | cons μ zs ih =>
    intro ys
    simp only [List.cons_append, wn, ih]
    omega
theorem wn_le : ∀ (zs : List cr_m), wn zs ≤ zs.length := by
  intro zs
  induction zs with
  | nil => simp [wn]
  | cons μ zs ih =>
    simp only [wn, List.length_cons]
    split <;> omega
theorem wn_drop : ∀ (k : Nat) (zs : List cr_m), wn (zs.drop k) ≤ wn zs := by
  intro k
  induction k with
  | zero => intro zs; exact Nat.le_refl _
  | succ k ih =>
    intro zs
    cases zs with
    | nil => simp [wn]
    | cons μ zs =>
      rw [List.drop_succ_cons]
      have := ih zs
      simp only [wn]
      omega
def wr (r : Nat) (zs : List cr_m) : Nat := if r < 6 ∨ 20 ≤ r then zs.length else zs.length + wn zs
theorem wr_lo {r : Nat} (hr : r < 6 ∨ 20 ≤ r) (zs : List cr_m) : wr r zs = zs.length := if_pos hr
theorem wr_hi {r : Nat} (hr : 6 ≤ r) (hr2 : r < 20) (zs : List cr_m) : wr r zs = zs.length + wn zs := if_neg (by omega)
def wA (C : cr_C) : Nat := cr_su (fun r => wr r (C.2.1 r)) 22
theorem wA_X {C D : cr_C} (h : D.2.1 = C.2.1) : wA D = wA C := by unfold wA; rw [h]
theorem wA_sX (C : cr_C) {r : Nat} (zs : List cr_m) (hr : r < 22) : wA (cr_sX C r zs) + wr r (C.2.1 r) = wA C + wr r zs := by
  have e : (fun q => wr q ((cr_sX C r zs).2.1 q)) = cr_a (fun q => wr q (C.2.1 q)) r (wr r zs) := by
    funext q
    unfold cr_a
    simp only [cr_sX]
    split
    · rename_i h
      rw [h]
    · rfl
  unfold wA
  rw [e]
  exact cr_su_up (fun q => wr q (C.2.1 q)) r (wr r zs) 22 hr
theorem wA_put (C : cr_C) {r : Nat} (μ : cr_m) (hr : r < 22) : wA (cs_put C r μ) ≤ wA C + (if 20 ≤ r ∨ μ.1 = 5 then 1 else 2) := by
  have h := wA_sX C (C.2.1 r ++ [μ]) hr
  have e : wr r (C.2.1 r ++ [μ]) ≤ wr r (C.2.1 r) + (if 20 ≤ r ∨ μ.1 = 5 then 1 else 2) := by
    unfold wr
    simp only [List.length_append, List.length_singleton, wn_app, wn]
    by_cases c : 20 ≤ r <;> by_cases c2 : μ.1 = 5 <;> by_cases c3 : r < 6 <;> simp [c, c2, c3] <;> omega
  unfold cs_put
  omega
def un (C : cr_C) (s : Nat) : Nat := if pr C s then wn ((C.2.1 s).drop ((C.2.1 s).length - dd C s)) else 0
def cg (C : cr_C) (s : Nat) : Nat := if C.1 2 s 0 ≠ 0 ∧ C.1 2 s 2 = 0 ∧ C.1 2 s 1 = 0 then 2 else 0
def uk : Option cr_m → Nat
  | none => 0
  | some μ => if μ.1 = 5 then 0 else 1
theorem uk_le (v : Option cr_m) : uk v ≤ 1 := by
  cases v with
  | none => exact Nat.zero_le _
  | some μ =>
    show (if μ.1 = 5 then 0 else 1) ≤ 1
    split <;> omega
def um (C : cr_C) (k s : Nat) : Nat := if k ≤ ot s ∧ C.1 3 s 0 = 4 ∧ C.1 1 s 0 ≠ 4 then uk (C.2.2 s) else 0
def be (C : cr_C) (s : Nat) : Nat := if C.1 1 s 0 = 0 then 0 else if C.1 1 s 0 = 1 then 12 else if C.1 1 s 0 = 2 then 12 + 2 * (C.1 1 s 1).toNatClampNeg else 24
def bs (C : cr_C) (k s : Nat) : Nat := 3 * (un C s + cg C s + um C k s) + be C s
def Po (k : Nat) (C : cr_C) : Nat := 3 * wA C + cr_su (bs C k) 6
theorem su6 (f : Nat → Nat) : cr_su f 6 = f 0 + f 1 + f 2 + f 3 + f 4 + f 5 := by
  simp [cr_su]
theorem su_at {f g : Nat → Nat} {s a b : Nat} (hs : s < 6) (h1 : f s + a ≤ g s + b) (h2 : ∀ t, t < 6 → t ≠ s → f t ≤ g t) : cr_su f 6 + a ≤ cr_su g 6 + b := by
  rw [su6, su6]
  have k : ∀ t, t < 6 → t ≠ s → f t ≤ g t := h2
  rcases (show s = 0 ∨ s = 1 ∨ s = 2 ∨ s = 3 ∨ s = 4 ∨ s = 5 by omega) with rfl | rfl | rfl | rfl | rfl | rfl
  · have := k 1 (by omega) (by omega); have := k 2 (by omega) (by omega); have := k 3 (by omega) (by omega); have := k 4 (by omega) (by omega); have := k 5 (by omega) (by omega); omega
  · have := k 0 (by omega) (by omega); have := k 2 (by omega) (by omega); have := k 3 (by omega) (by omega); have := k 4 (by omega) (by omega); have := k 5 (by omega) (by omega); omega
  · have := k 0 (by omega) (by omega); have := k 1 (by omega) (by omega); have := k 3 (by omega) (by omega); have := k 4 (by omega) (by omega); have := k 5 (by omega) (by omega); omega
  · have := k 0 (by omega) (by omega); have := k 1 (by omega) (by omega); have := k 2 (by omega) (by omega); have := k 4 (by omega) (by omega); have := k 5 (by omega) (by omega); omega
  · have := k 0 (by omega) (by omega); have := k 1 (by omega) (by omega); have := k 2 (by omega) (by omega); have := k 3 (by omega) (by omega); have := k 5 (by omega) (by omega); omega
  · have := k 0 (by omega) (by omega); have := k 1 (by omega) (by omega); have := k 2 (by omega) (by omega); have := k 3 (by omega) (by omega); have := k 4 (by omega) (by omega); omega
theorem su_le {f g : Nat → Nat} (h : ∀ t, t < 6 → f t ≤ g t) : cr_su f 6 ≤ cr_su g 6 := by
  have := su_at (f := f) (g := g) (s := 0) (a := 0) (b := 0) (by omega) (h 0 (by omega)) (fun t ht _ => h t ht)
  omega
theorem cz_wA (C : cr_C) : cz C ≤ wA C := by
  unfold cz wA
  have : ∀ n, cr_su (fun r => (C.2.1 r).length) n ≤ cr_su (fun r => wr r (C.2.1 r)) n := by
    intro n
    induction n with
    | zero => exact Nat.le_refl _
    | succ n ih =>
      simp only [cr_su]
      have : (C.2.1 n).length ≤ wr n (C.2.1 n) := by unfold wr; split <;> omega
      omega
  exact this 22
theorem Po_cz (k : Nat) (C : cr_C) : 3 * cz C ≤ Po k C := by
  have := cz_wA C
  unfold Po
  omega
