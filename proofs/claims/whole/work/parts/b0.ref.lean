/-! the reference's own cells: its object and its arrays, by the slot of the field that holds them -/
def rf_o (k : Nat) : Nat := if k < 7 then 77 + k else 75 + k
def rf_n (k : Nat) : Nat := if k < 7 then 2400 else if k < 12 then 22 else if k = 28 ∨ k = 29 then 96 else if k = 48 then 8 else 6
def rf_a (k : Nat) : Bool := decide ((1 ≤ k ∧ k ≤ 6) ∨ (9 ≤ k ∧ k ≤ 48))
def rf_b (k : Nat) : Bool := decide (k = 16 ∨ k = 43)
def rf_i (k : Nat) : Bool := decide (k = 0 ∨ k = 7 ∨ k = 8 ∨ k = 49 ∨ k = 50)
abbrev rf_A : Type := Nat → Nat → Int32
def rf_u (A : rf_A) (k j : Nat) (x : Int32) : rf_A := fun k' j' => if k' = k ∧ j' = j then x else A k' j'
def rf_R (G : ev_gx) (w : ev_wd) (A : rf_A) : Prop := ev_b G + 124 ≤ ev_z w ∧ ev_g w (ev_b G + 77) = 8 ∧ (∀ k, rf_i k = true → ev_v w (ev_b G + 77) k = .int (A k 0)) ∧
  ∀ k, rf_a k = true → ev_v w (ev_b G + 77) k = .ref (ev_b G + rf_o k) ∧ ev_g w (ev_b G + rf_o k) = (if rf_b k = true then 101 else 100) ∧ ev_n w (ev_b G + rf_o k) = rf_n k ∧ ∀ j, j < rf_n k → ev_v w (ev_b G + rf_o k) j = .int (A k j)
theorem rf_off {k : Nat} (h : rf_a k = true) : 78 ≤ rf_o k ∧ rf_o k < 124 := by
  have h1 := of_decide_eq_true h
  unfold rf_o
  split <;> omega
theorem rf_inj {k k' : Nat} (h : rf_a k = true) (h' : rf_a k' = true) (e : rf_o k = rf_o k') : k = k' := by
  have h1 := of_decide_eq_true h
  have h2 := of_decide_eq_true h'
  unfold rf_o at e
  split at e <;> split at e <;> omega
theorem rf_ia {k : Nat} (h : rf_i k = true) (h' : rf_a k = true) : False := by
  have h1 := of_decide_eq_true h
  have h2 := of_decide_eq_true h'
  omega
theorem rf_n_lt (k : Nat) : rf_n k ≤ 2400 := by
  unfold rf_n
  repeat' split
  all_goals omega
section RfR
variable {G : ev_gx} {M : ev_mx} {d pc pc' tgt : Nat} {L : List (Nat × Value)} {st : List Value} {w w1 : ev_wd} {P : ev_r → ev_wd → Prop} {A : rf_A}
theorem rf_R.al (h : rf_R G w A) {k : Nat} (hk : rf_a k = true) : ev_b G ≤ ev_b G + rf_o k ∧ ev_b G + rf_o k < ev_z w := by
  have h1 := h.1
  have h2 := rf_off hk
  exact ⟨Nat.le_add_right _ _, by omega⟩
theorem rf_R.ob (h : rf_R G w A) : ev_b G ≤ ev_b G + 77 ∧ ev_b G + 77 < ev_z w := by
  have h1 := h.1
  exact ⟨Nat.le_add_right _ _, by omega⟩
theorem rf_R.setA (h : rf_R G w A) {k j : Nat} (hk : rf_a k = true) (x : Int32) : rf_R G (ev_set w (ev_b G + rf_o k) j (.int x)) (rf_u A k j x) := by
  obtain ⟨h1, h2, h3, h4⟩ := h
  have ho := rf_off hk
  refine ⟨h1, h2, fun k' hk' => ?_, fun k' hk' => ?_⟩
  · rw [ev_set_ne _ _ _ (by omega), h3 k' hk']
    unfold rf_u
    rw [if_neg (fun e => rf_ia hk' (by rw [e.1]; exact hk))]
  · obtain ⟨a1, a2, a3, a4⟩ := h4 k' hk'
    refine ⟨by rw [ev_set_ne _ _ _ (by omega)]; exact a1, a2, a3, fun j' hj' => ?_⟩
    by_cases e : k' = k
    · subst e
      rw [ev_set_at]
      by_cases e2 : j' = j
      · simp [updV, rf_u, e2]
      · simp only [updV, rf_u, if_neg e2]
        rw [if_neg (fun e3 => e2 e3.2)]
        exact a4 j' hj'
    · rw [ev_set_ne _ _ _ (fun e2 => e (rf_inj hk' hk (Nat.add_left_cancel e2))), a4 j' hj']
      unfold rf_u
      rw [if_neg (fun e3 => e e3.1)]
theorem rf_R.setI (h : rf_R G w A) {k : Nat} (hk : rf_i k = true) (x : Int32) : rf_R G (ev_set w (ev_b G + 77) k (.int x)) (rf_u A k 0 x) := by
  obtain ⟨h1, h2, h3, h4⟩ := h
  refine ⟨h1, h2, fun k' hk' => ?_, fun k' hk' => ?_⟩
  · rw [ev_set_at]
    by_cases e : k' = k
    · simp [updV, rf_u, e]
    · simp only [updV, rf_u, if_neg e]
      rw [if_neg (fun e3 => e e3.1)]
      exact h3 k' hk'
  · obtain ⟨a1, a2, a3, a4⟩ := h4 k' hk'
    have ho := rf_off hk'
    have hne : k' ≠ k := fun e => rf_ia hk (by rw [← e]; exact hk')
    refine ⟨?_, a2, a3, fun j' hj' => ?_⟩
    · rw [ev_set_at]
      simp only [updV, if_neg hne]
      exact a1
    · rw [ev_set_ne _ _ _ (by omega), a4 j' hj']
      unfold rf_u
      rw [if_neg (fun e3 => hne e3.1)]
/-- the rows of a walk of the reference -/
theorem rf_gA {index k : Nat} (hd : ev_d M.2.1 pc (.getfield index) 3 pc') (hF : ev_F0 M.1.cls index 8 k) (h : rf_R G w A) (hk : rf_a k = true) (kk : ev_E G M d pc' L (.ref (ev_b G + rf_o k) :: st) w P) : ev_E G M d pc L (.ref (ev_b G + 77) :: st) w P := ev_getf hd hF h.ob h.2.1 (h.2.2.2 k hk).1 kk
theorem rf_gI {index k : Nat} (hd : ev_d M.2.1 pc (.getfield index) 3 pc') (hF : ev_F0 M.1.cls index 8 k) (h : rf_R G w A) (hk : rf_i k = true) (kk : ev_E G M d pc' L (.int (A k 0) :: st) w P) : ev_E G M d pc L (.ref (ev_b G + 77) :: st) w P := ev_getf hd hF h.ob h.2.1 (h.2.2.1 k hk) kk
theorem rf_pI {index k : Nat} {x : Int32} (hd : ev_d M.2.1 pc (.putfield index) 3 pc') (hF : ev_F M.1.cls index 8 k false) (h : rf_R G w A) (hk : rf_i k = true) (hn : narrow (nm_ft 8 k) (.int x) = .int x) (hfit : fits (nm_ft 8 k) (.int x) = true)
    (kk : rf_R G (ev_set w (ev_b G + 77) k (.int x)) (rf_u A k 0 x) → ev_E G M d pc' L st (ev_set w (ev_b G + 77) k (.int x)) P) : ev_E G M d pc L (.int x :: .ref (ev_b G + 77) :: st) w P := ev_putf hd hF h.ob h.2.1 hn hfit (kk (h.setI hk x))
theorem rf_ld {k j : Nat} (hd : ev_d M.2.1 pc .iaload 1 pc') (h : rf_R G w A) (hk : rf_a k = true) (hb : rf_b k = false) (hj : j < rf_n k) (kk : ev_E G M d pc' L (.int (A k j) :: st) w P) : ev_E G M d pc L (.int (Int32.ofNat j) :: .ref (ev_b G + rf_o k) :: st) w P := by
  obtain ⟨-, a2, a3, a4⟩ := h.2.2.2 k hk
  rw [hb] at a2
  have hn := rf_n_lt k
  refine ev_iald (t := 0) hd (h.al hk) a2 rfl (by rw [a3]; exact nI_in hj (by omega)) (v := .int (A k j)) ?_ kk
  rw [ev_cl j (by omega)]
  exact a4 j hj
theorem rf_st {k j : Nat} {x : Int32} (hd : ev_d M.2.1 pc .iastore 1 pc') (h : rf_R G w A) (hk : rf_a k = true) (hb : rf_b k = false) (hj : j < rf_n k)
    (kk : rf_R G (ev_set w (ev_b G + rf_o k) j (.int x)) (rf_u A k j x) → ev_E G M d pc' L st (ev_set w (ev_b G + rf_o k) j (.int x)) P) : ev_E G M d pc L (.int x :: .int (Int32.ofNat j) :: .ref (ev_b G + rf_o k) :: st) w P := by
  obtain ⟨-, a2, a3, a4⟩ := h.2.2.2 k hk
  rw [hb] at a2
  have hn := rf_n_lt k
  refine ev_iast (t := 0) hd (h.al hk) a2 rfl (by rw [a3]; exact nI_in hj (by omega)) ?_
  rw [ev_cl j (by omega)]
  exact kk (h.setA hk x)
theorem rf_ldz {k j : Nat} (hd : ev_d M.2.1 pc .baload 1 pc') (h : rf_R G w A) (hk : rf_a k = true) (hb : rf_b k = true) (hj : j < rf_n k) (kk : ev_E G M d pc' L (.int (A k j) :: st) w P) : ev_E G M d pc L (.int (Int32.ofNat j) :: .ref (ev_b G + rf_o k) :: st) w P := by
  obtain ⟨-, a2, a3, a4⟩ := h.2.2.2 k hk
  rw [hb] at a2
  have hn := rf_n_lt k
  refine ev_zald (t := 1) hd (h.al hk) a2 rfl (by rw [a3]; exact nI_in hj (by omega)) (v := .int (A k j)) ?_ kk
  rw [ev_cl j (by omega)]
  exact a4 j hj
theorem rf_stz {k j : Nat} {x : Int32} (hd : ev_d M.2.1 pc .bastore 1 pc') (h : rf_R G w A) (hk : rf_a k = true) (hb : rf_b k = true) (hj : j < rf_n k) (hx : narrow .boolean (.int x) = .int x)
    (kk : rf_R G (ev_set w (ev_b G + rf_o k) j (.int x)) (rf_u A k j x) → ev_E G M d pc' L st (ev_set w (ev_b G + rf_o k) j (.int x)) P) : ev_E G M d pc L (.int x :: .int (Int32.ofNat j) :: .ref (ev_b G + rf_o k) :: st) w P := by
  obtain ⟨-, a2, a3, a4⟩ := h.2.2.2 k hk
  rw [hb] at a2
  have hn := rf_n_lt k
  refine ev_zast (t := 1) hd (h.al hk) a2 rfl (by rw [a3]; exact nI_in hj (by omega)) hx ?_
  rw [ev_cl j (by omega)]
  exact kk (h.setA hk x)
end RfR
/-! the reference's rows: chains of indices; what is spare; what is in hand -/
abbrev rf_m : Type := Int32 × Int32 × Int32 × Int32 × Int32
abbrev rf_C : Type := rf_A × (Nat → List rf_m)
def rf_val (A : rf_A) (x : Nat) : rf_m := (A 1 x, A 2 x, A 3 x, A 4 x, A 5 x)
def rf_ch (N : Nat → Int32) : Int32 → List Nat → Prop
  | p, [] => p = -1
  | p, x :: xs => p = Int32.ofNat x ∧ rf_ch N (N x) xs
def rf_la : List Nat → Int32
  | [] => -1
  | [x] => Int32.ofNat x
  | _ :: y :: xs => rf_la (y :: xs)
def rf_1 (H : Option Nat) : Nat := match H with
  | none => 0
  | some _ => 1
def rf_L (A : rf_A) (xs : Nat → List Nat) (own : Nat → Nat) (fs : List Nat) (mk : Nat) (H : Option Nat) : Prop :=
  (A 8 0 = Int32.ofNat mk ∧ mk ≤ 2400 ∧ mk = cr_su (fun r => (xs r).length) 22 + fs.length + rf_1 H) ∧ (rf_ch (A 6) (A 7 0) fs ∧ fs.Nodup ∧ ∀ x ∈ fs, x < mk ∧ own x = 22) ∧
  (∀ r, r < 22 → rf_ch (A 6) (A 9 r) (xs r) ∧ A 10 r = rf_la (xs r) ∧ A 11 r = Int32.ofNat (xs r).length ∧ (xs r).Nodup ∧ ∀ x ∈ xs r, x < mk ∧ own x = r) ∧
  ∀ x, H = some x → x < mk ∧ own x = 23
def rf_f (G : ev_gx) (w F : ev_wd) : Prop := ev_z w = ev_z F ∧ ev_u w = ev_u F ∧ ev_g w = ev_g F ∧ ev_n w = ev_n F ∧ ∀ a, (a < ev_b G + 77 ∨ ev_b G + 124 ≤ a) → ev_v w a = ev_v F a
/-- D: the state; H: the message in hand; F: how the other cells stand; Q: messages known -/
def rf_K (G : ev_gx) (w : ev_wd) (D : rf_C) (H : Option (Nat × rf_m)) (F : ev_wd) (Q : Nat → rf_m → Prop) : Prop :=
  ∃ A xs own fs mk, (rf_R G w A ∧ rf_f G w F) ∧ rf_L A xs own fs mk (H.map Prod.fst) ∧ (∀ k j, (k = 0 ∨ 12 ≤ k) → A k j = D.1 k j) ∧ (∀ r, r < 22 → D.2 r = (xs r).map (rf_val A)) ∧ (∀ x μ, H = some (x, μ) → rf_val A x = μ) ∧ ∀ x μ, Q x μ → x < 2400 ∧ rf_val A x = μ
def rf_sI (D : rf_C) (k j : Nat) (x : Int32) : rf_C := (rf_u D.1 k j x, D.2)
def rf_sX (D : rf_C) (r : Nat) (zs : List rf_m) : rf_C := (D.1, fun q => if q = r then zs else D.2 q)
theorem rf_ch_congr {N N' : Nat → Int32} : ∀ {xs : List Nat} {p : Int32}, (∀ x ∈ xs, N' x = N x) → rf_ch N p xs → rf_ch N' p xs := by
  intro xs
  induction xs with
  | nil => intro p _ h; exact h
  | cons x xs ih =>
    intro p he h
    refine ⟨h.1, ?_⟩
    rw [he x List.mem_cons_self]
    exact ih (fun y hy => he y (List.mem_cons_of_mem _ hy)) h.2
theorem rf_la_mem : ∀ {xs : List Nat}, xs ≠ [] → ∃ x ∈ xs, rf_la xs = Int32.ofNat x := by
  intro xs
  induction xs with
  | nil => intro h; exact absurd rfl h
  | cons x xs ih =>
    intro _
    cases xs with
    | nil => exact ⟨x, List.mem_cons_self, rfl⟩
    | cons y ys =>
      obtain ⟨z, hz, e⟩ := ih (fun h => by cases h)
      exact ⟨z, List.mem_cons_of_mem _ hz, e⟩
theorem rf_la_snoc (xs : List Nat) (m : Nat) : rf_la (xs ++ [m]) = Int32.ofNat m := by
  induction xs with
  | nil => rfl
  | cons x xs ih =>
    cases xs with
    | nil => rfl
    | cons y ys => exact ih
/-- a chain with one more behind: the last one's next is set -/
theorem rf_ch_snoc {N N' : Nat → Int32} {m : Nat} (hm : N' m = -1) : ∀ {xs : List Nat} {p : Int32}, xs.Nodup → xs ≠ [] → (∀ x ∈ xs, rf_la xs = Int32.ofNat x → N' x = Int32.ofNat m) → (∀ x ∈ xs, rf_la xs ≠ Int32.ofNat x → N' x = N x) → (∀ x ∈ xs, x < 2400) → rf_ch N p xs → rf_ch N' p (xs ++ [m]) := by
  intro xs
  induction xs with
  | nil => intro p _ h; exact absurd rfl h
  | cons x xs ih =>
    intro p hnd _ h1 h2 hlt h
    cases xs with
    | nil =>
      refine ⟨h.1, ?_⟩
      rw [h1 x List.mem_cons_self rfl]
      exact ⟨rfl, hm⟩
    | cons y ys =>
      refine ⟨h.1, ?_⟩
      have hx : rf_la (x :: y :: ys) ≠ Int32.ofNat x := by
        intro e
        obtain ⟨z, hz, ez⟩ := rf_la_mem (xs := y :: ys) (fun h => by cases h)
        have e2 : Int32.ofNat z = Int32.ofNat x := ez.symm.trans e
        have hz2 := hlt z (List.mem_cons_of_mem _ hz)
        have hx2 := hlt x List.mem_cons_self
        have e3 : z = x := (nI_eq (by omega) (by omega)).mp e2
        rw [e3] at hz
        exact (List.nodup_cons.mp hnd).1 hz
      rw [h2 x List.mem_cons_self hx]
      exact ih (List.nodup_cons.mp hnd).2 (fun h => by cases h) (fun z hz ez => h1 z (List.mem_cons_of_mem _ hz) ez) (fun z hz ez => h2 z (List.mem_cons_of_mem _ hz) ez) (fun z hz => hlt z (List.mem_cons_of_mem _ hz)) h.2
def rf_M (G : ev_gx) (w : ev_wd) (A : rf_A) (F : ev_wd) : Prop := rf_R G w A ∧ rf_f G w F
section RfM
variable {G : ev_gx} {M : ev_mx} {d pc pc' tgt : Nat} {L : List (Nat × Value)} {st : List Value} {w w1 F : ev_wd} {P : ev_r → ev_wd → Prop} {A : rf_A} {D : rf_C} {H : Option (Nat × rf_m)}
theorem rf_f.set {o j : Nat} {v : Value} (h : rf_f G w F) (h1 : 77 ≤ o) (h2 : o < 124) : rf_f G (ev_set w (ev_b G + o) j v) F := ⟨h.1, h.2.1, h.2.2.1, h.2.2.2.1, fun a ha => by rw [ev_set_ne _ _ _ (by omega)]; exact h.2.2.2.2 a ha⟩
theorem M_gA {index k : Nat} (hd : ev_d M.2.1 pc (.getfield index) 3 pc') (hF : ev_F0 M.1.cls index 8 k) (h : rf_M G w A F) (hk : rf_a k = true) (kk : ev_E G M d pc' L (.ref (ev_b G + rf_o k) :: st) w P) : ev_E G M d pc L (.ref (ev_b G + 77) :: st) w P := rf_gA hd hF h.1 hk kk
theorem M_gI {index k : Nat} (hd : ev_d M.2.1 pc (.getfield index) 3 pc') (hF : ev_F0 M.1.cls index 8 k) (h : rf_M G w A F) (hk : rf_i k = true) (kk : ev_E G M d pc' L (.int (A k 0) :: st) w P) : ev_E G M d pc L (.ref (ev_b G + 77) :: st) w P := rf_gI hd hF h.1 hk kk
theorem M_pI {index k : Nat} {x : Int32} (hd : ev_d M.2.1 pc (.putfield index) 3 pc') (hF : ev_F M.1.cls index 8 k false) (h : rf_M G w A F) (hk : rf_i k = true) (hn : narrow (nm_ft 8 k) (.int x) = .int x) (hfit : fits (nm_ft 8 k) (.int x) = true) (kk : ∀ w1, rf_M G w1 (rf_u A k 0 x) F → ev_E G M d pc' L st w1 P) : ev_E G M d pc L (.int x :: .ref (ev_b G + 77) :: st) w P :=
  rf_pI hd hF h.1 hk hn hfit (fun h1 => kk _ ⟨h1, h.2.set (by omega) (by omega)⟩)
theorem M_ld {k j : Nat} (hd : ev_d M.2.1 pc .iaload 1 pc') (h : rf_M G w A F) (hk : rf_a k = true) (hb : rf_b k = false) (hj : j < rf_n k) (kk : ev_E G M d pc' L (.int (A k j) :: st) w P) : ev_E G M d pc L (.int (Int32.ofNat j) :: .ref (ev_b G + rf_o k) :: st) w P := rf_ld hd h.1 hk hb hj kk
theorem M_st {k j : Nat} {x : Int32} (hd : ev_d M.2.1 pc .iastore 1 pc') (h : rf_M G w A F) (hk : rf_a k = true) (hb : rf_b k = false) (hj : j < rf_n k) (kk : ∀ w1, rf_M G w1 (rf_u A k j x) F → ev_E G M d pc' L st w1 P) : ev_E G M d pc L (.int x :: .int (Int32.ofNat j) :: .ref (ev_b G + rf_o k) :: st) w P := by
  have ho := rf_off hk
  exact rf_st hd h.1 hk hb hj (fun h1 => kk _ ⟨h1, h.2.set (by omega) (by omega)⟩)
theorem M_ldz {k j : Nat} (hd : ev_d M.2.1 pc .baload 1 pc') (h : rf_M G w A F) (hk : rf_a k = true) (hb : rf_b k = true) (hj : j < rf_n k) (kk : ev_E G M d pc' L (.int (A k j) :: st) w P) : ev_E G M d pc L (.int (Int32.ofNat j) :: .ref (ev_b G + rf_o k) :: st) w P := rf_ldz hd h.1 hk hb hj kk
theorem M_stz {k j : Nat} {x : Int32} (hd : ev_d M.2.1 pc .bastore 1 pc') (h : rf_M G w A F) (hk : rf_a k = true) (hb : rf_b k = true) (hj : j < rf_n k) (hx : narrow .boolean (.int x) = .int x) (kk : ∀ w1, rf_M G w1 (rf_u A k j x) F → ev_E G M d pc' L st w1 P) : ev_E G M d pc L (.int x :: .int (Int32.ofNat j) :: .ref (ev_b G + rf_o k) :: st) w P := by
  have ho := rf_off hk
  exact rf_stz hd h.1 hk hb hj hx (fun h1 => kk _ ⟨h1, h.2.set (by omega) (by omega)⟩)
end RfM
theorem rf_u_ne (A : rf_A) {k j k' j' : Nat} (x : Int32) (h : ¬ (k' = k ∧ j' = j)) : rf_u A k j x k' j' = A k' j' := if_neg h
theorem rf_u_at (A : rf_A) (k j : Nat) (x : Int32) : rf_u A k j x k j = x := if_pos ⟨rfl, rfl⟩
theorem rf_u_k (A : rf_A) {k j k' : Nat} (x : Int32) (h : k' ≠ k) : rf_u A k j x k' = A k' := by
  funext j'
  exact if_neg (fun e => h e.1)
