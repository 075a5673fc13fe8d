/-! the state of the class: its numbers, its rows of messages by what they say, what the units carry; all that a walk needs in one word -/
abbrev cr_m : Type := Int32 × Int32 × Int32 × Int32
def cr_mk (μ : cr_m) (k : Nat) : Int32 := match k with
  | 0 => μ.1
  | 1 => μ.2.1
  | 2 => μ.2.2.1
  | _ => μ.2.2.2
def cr_ms (G : ev_gx) (w : ev_wd) (x : Nat) (μ : cr_m) : Prop := (ev_b G ≤ x ∧ x < ev_z w) ∧ ev_g w x = 6 ∧ ∀ k, k < 4 → ev_v w x k = .int (cr_mk μ k)
def cr_rw (G : ev_gx) (w : ev_wd) (xs : List Nat) (zs : List cr_m) : Prop := xs.length = zs.length ∧ ∀ (i x : Nat), xs[i]? = some x → ∃ μ, zs[i]? = some μ ∧ cr_ms G w x μ
def cr_un (G : ev_gx) (w : ev_wd) (u : Option Nat) (v : Option cr_m) : Prop := (u = none ∧ v = none) ∨ ∃ x μ, u = some x ∧ v = some μ ∧ cr_ms G w x μ
def cr_su (A : Nat → Nat) : Nat → Nat
  | 0 => 0
  | n + 1 => cr_su A n + A n
def cr_q (G : ev_gx) (w : ev_wd) (Cp : Nat → Nat) (n : Nat) : Prop := (∀ r, r < 22 → Cp r ≤ 12288) ∧ ev_z w ≤ ev_b G + 125 + n + cr_su Cp 22 ∧ ev_u w ≤ 500000 + 6 * n + 4 * cr_su Cp 22
def cr_f (G : ev_gx) (w F : ev_wd) : Prop := ∀ a, ev_b G + 77 ≤ a → a < ev_b G + 125 → ev_g w a = ev_g F a ∧ ev_n w a = ev_n F a ∧ ev_v w a = ev_v F a
abbrev cr_C : Type := cr_I × (Nat → List cr_m) × (Nat → Option cr_m)
/-- C: the state; n: how many messages and throwables were made; F: how the other cells stand; Q: messages known -/
def cr_K (G : ev_gx) (q0 : Nat) (w : ev_wd) (C : cr_C) (n : Nat) (F : ev_wd) (Q : Nat → cr_m → Prop) : Prop :=
  ∃ X Ar Cp U, cr_R G q0 w C.1 X Ar Cp U ∧ (∀ r, r < 22 → cr_rw G w (X r) (C.2.1 r)) ∧ (∀ s, s < 6 → cr_un G w (U s) (C.2.2 s)) ∧ cr_q G w Cp n ∧ cr_f G w F ∧ ∀ x μ, Q x μ → cr_ms G w x μ
def cr_sI (C : cr_C) (κ i k : Nat) (x : Int32) : cr_C := (cr_u C.1 κ i k x, C.2.1, C.2.2)
def cr_sX (C : cr_C) (r : Nat) (zs : List cr_m) : cr_C := (C.1, (fun q => if q = r then zs else C.2.1 q), C.2.2)
def cr_sU (C : cr_C) (s : Nat) (v : Option cr_m) : cr_C := (C.1, C.2.1, fun q => if q = s then v else C.2.2 q)
theorem cr_su_ge (A : Nat → Nat) (r v : Nat) : ∀ N, N ≤ r → cr_su (cr_a A r v) N = cr_su A N := by
  intro N
  induction N with
  | zero => intro _; rfl
  | succ k ih =>
    intro h
    have e : cr_a A r v k = A k := by unfold cr_a; rw [if_neg (by omega)]
    show cr_su (cr_a A r v) k + cr_a A r v k = cr_su A k + A k
    rw [ih (by omega), e]
theorem cr_su_up (A : Nat → Nat) (r v : Nat) : ∀ N, r < N → cr_su (cr_a A r v) N + A r = cr_su A N + v := by
  intro N
  induction N with
  | zero => intro h; omega
  | succ k ih =>
    intro h
    show cr_su (cr_a A r v) k + cr_a A r v k + A r = cr_su A k + A k + v
    by_cases e : r = k
    · subst e
      have e1 : cr_a A r v r = v := by unfold cr_a; rw [if_pos rfl]
      rw [cr_su_ge A r v r (Nat.le_refl _), e1]
      omega
    · have e1 : cr_a A r v k = A k := by unfold cr_a; rw [if_neg (fun e2 => e e2.symm)]
      have := ih (by omega)
      rw [e1]
      omega
theorem cr_su_le (A : Nat → Nat) (B : Nat) : ∀ N, (∀ r, r < N → A r ≤ B) → cr_su A N ≤ N * B := by
  intro N
  induction N with
  | zero => intro _; exact Nat.le_of_eq (Nat.zero_mul B).symm
  | succ k ih =>
    intro h
    have h1 := ih (fun r hr => h r (by omega))
    have h2 := h k (by omega)
    show cr_su A k + A k ≤ (k + 1) * B
    rw [Nat.succ_mul]
    omega
theorem cr_t6 : ∀ κ, κ < 17 → cr_t κ ≠ 6 := by decide +kernel
def cr_sf (G : ev_gx) (w : ev_wd) (S : Nat → Prop) : Prop := (∀ x, ev_b G ≤ x → ev_g w x = 6 → ¬ S x) ∧ ∀ a, ev_b G + 77 ≤ a → a < ev_b G + 125 → ¬ S a
section CrK
variable {G : ev_gx} {M : ev_mx} {d pc pc' tgt : Nat} {L : List (Nat × Value)} {st : List Value} {w w1 : ev_wd} {P : ev_r → ev_wd → Prop} {q0 mi n : Nat} {I : cr_I} {X : Nat → List Nat} {Ar Cp : Nat → Nat} {U : Nat → Option Nat} {C : cr_C} {F : ev_wd} {Q : Nat → cr_m → Prop} {S : Nat → Prop}
theorem cr_ms.keep {x : Nat} {μ : cr_m} (h : cr_ms G w x μ) (hf : ev_fr w w1 S) (hs : cr_sf G w S) : cr_ms G w1 x μ := by
  obtain ⟨a, b, c⟩ := h
  obtain ⟨k1, -, k3⟩ := hf.2.2 x a.2
  exact ⟨⟨a.1, Nat.lt_of_lt_of_le a.2 hf.1⟩, k1.trans b, fun k hk => by rw [k3 (hs.1 x a.1 b)]; exact c k hk⟩
theorem cr_rw.keep {xs : List Nat} {zs : List cr_m} (h : cr_rw G w xs zs) (hf : ev_fr w w1 S) (hs : cr_sf G w S) : cr_rw G w1 xs zs := by
  refine ⟨h.1, fun i x hx => ?_⟩
  obtain ⟨μ, h1, h2⟩ := h.2 i x hx
  exact ⟨μ, h1, h2.keep hf hs⟩
theorem cr_un.keep {u : Option Nat} {v : Option cr_m} (h : cr_un G w u v) (hf : ev_fr w w1 S) (hs : cr_sf G w S) : cr_un G w1 u v := by
  rcases h with h | ⟨x, μ, h1, h2, h3⟩
  · exact Or.inl h
  · exact Or.inr ⟨x, μ, h1, h2, h3.keep hf hs⟩
theorem cr_f.keep (h : cr_f G w F) (hz : ev_b G + 125 ≤ ev_z w) (hf : ev_fr w w1 S) (hs : cr_sf G w S) : cr_f G w1 F := by
  intro a h1 h2
  obtain ⟨a1, a2, a3⟩ := h a h1 h2
  obtain ⟨k1, k2, k3⟩ := hf.2.2 a (by omega)
  exact ⟨k1.trans a1, k2.trans a2, (k3 (hs.2 a h1 h2)).trans a3⟩
theorem cr_R.sf (h : cr_R G q0 w I X Ar Cp U) {κ i : Nat} (hi : i < cr_c κ) : cr_sf G w (fun q => q = ev_b G + cr_o κ i) := by
  refine ⟨fun x _ hx e => ?_, fun a h1 _ e => ?_⟩
  · have e1 : x = ev_b G + cr_o κ i := e
    rw [e1, (h.2.1 κ i hi).1] at hx
    exact cr_t6 κ (cr_in hi) hx
  · have := cr_off hi
    have e1 : a = ev_b G + cr_o κ i := e
    omega
theorem cr_R.sfl (h : cr_R G q0 w I X Ar Cp U) (hq : q0 < ev_b G) {r : Nat} (hr : r < 22) : cr_sf G w (fun q => q = ev_b G + cr_o 11 r ∨ q = Ar r) := by
  have h0 := h.sf (κ := 11) (i := r) hr
  refine ⟨fun x hb hx e => ?_, fun a h1 h2 e => ?_⟩
  · rcases e with e | e
    · exact h0.1 x hb hx e
    · obtain ⟨⟨-, -, -, -, hc⟩, -⟩ := h.2.2.2.2.1 r hr
      rcases hc with ⟨e2, -⟩ | ⟨-, e2, -⟩
      · omega
      · rw [e, e2] at hx
        cases hx
  · rcases e with e | e
    · exact h0.2 a h1 h2 e
    · rcases (h.2.2.2.2.1 r hr).2 with e2 | e2 <;> omega
theorem cr_K.al (h : cr_K G q0 w C n F Q) {κ i : Nat} (hi : i < cr_c κ) : ev_b G ≤ ev_b G + cr_o κ i ∧ ev_b G + cr_o κ i < ev_z w := by
  obtain ⟨X, Ar, Cp, U, hR, -⟩ := h
  exact hR.al hi
theorem cr_K.tg (h : cr_K G q0 w C n F Q) {κ i : Nat} (hi : i < cr_c κ) : ev_g w (ev_b G + cr_o κ i) = cr_t κ := by
  obtain ⟨X, Ar, Cp, U, hR, -⟩ := h
  exact (hR.2.1 κ i hi).1
theorem cr_K.ms (h : cr_K G q0 w C n F Q) {x : Nat} {μ : cr_m} (hx : Q x μ) : cr_ms G w x μ := by
  obtain ⟨X, Ar, Cp, U, hR, -, -, -, -, hM⟩ := h
  exact hM x μ hx
theorem cr_K.know (h : cr_K G q0 w C n F Q) {x : Nat} {μ : cr_m} (hx : cr_ms G w x μ) : cr_K G q0 w C n F (fun y ν => Q y ν ∨ (y = x ∧ ν = μ)) := by
  obtain ⟨X, Ar, Cp, U, hR, hX, hU, hQ, hF, hM⟩ := h
  refine ⟨X, Ar, Cp, U, hR, hX, hU, hQ, hF, fun y ν hy => ?_⟩
  rcases hy with hy | ⟨rfl, rfl⟩
  · exact hM y ν hy
  · exact hx
theorem cr_K.less (h : cr_K G q0 w C n F Q) {Q' : Nat → cr_m → Prop} (hx : ∀ x μ, Q' x μ → Q x μ) : cr_K G q0 w C n F Q' := by
  obtain ⟨X, Ar, Cp, U, hR, hX, hU, hQ, hF, hM⟩ := h
  exact ⟨X, Ar, Cp, U, hR, hX, hU, hQ, hF, fun y ν hy => hM y ν (hx y ν hy)⟩
theorem cr_K.more (h : cr_K G q0 w C n F Q) {n' : Nat} (hn : n ≤ n') : cr_K G q0 w C n' F Q := by
  obtain ⟨X, Ar, Cp, U, hR, hX, hU, ⟨q1, q2, q3⟩, hF, hM⟩ := h
  exact ⟨X, Ar, Cp, U, hR, hX, hU, ⟨q1, by omega, by omega⟩, hF, hM⟩
theorem cr_K.setI (h : cr_K G q0 w C n F Q) (hq : q0 < ev_b G) {κ i k : Nat} (hi : i < cr_c κ) (hk : cr_i κ k = true) (x : Int32) : cr_K G q0 (ev_set w (ev_b G + cr_o κ i) k (.int x)) (cr_sI C κ i k x) n F Q := by
  obtain ⟨X, Ar, Cp, U, hR, hX, hU, hQ, hF, hM⟩ := h
  have hs := hR.sf hi
  have hf : ev_fr w (ev_set w (ev_b G + cr_o κ i) k (.int x)) (fun q => q = ev_b G + cr_o κ i) := ev_fr.set _ _ _ _ (fun _ => rfl)
  exact ⟨X, Ar, Cp, U, hR.setI hq hi hk x, fun r hr => (hX r hr).keep hf hs, fun s hs' => (hU s hs').keep hf hs, hQ, hF.keep hR.1 hf hs, fun y μ hy => (hM y μ hy).keep hf hs⟩
theorem cr_R.setU (h : cr_R G q0 w I X Ar Cp U) (hq : q0 < ev_b G) {s : Nat} (hs : s < 6) (v : Option Nat) (hv : ∀ x, v = some x → (ev_b G ≤ x ∧ x < ev_z w) ∧ ev_g w x = 6) : cr_R G q0 (ev_set w (ev_b G + cr_o 3 s) 6 (va_rf v)) I X Ar Cp (fun q => if q = s then v else U q) := by
  obtain ⟨h1, h2, h3, h4, h5, h6, h7⟩ := h
  have hi : s < cr_c 3 := hs
  have hfr : ev_fr w (ev_set w (ev_b G + cr_o 3 s) 6 (va_rf v)) (fun q => q = ev_b G + cr_o 3 s) := ev_fr.set _ _ _ _ (fun _ => rfl)
  have hoff := cr_off hi
  refine ⟨h1, h2, fun κ' i' k' hi' hk' => ?_, fun κ' i' k' q hi' hp => ?_, fun r hr => ⟨?_, (h5 r hr).2⟩, h6, fun t ht => ?_⟩
  · by_cases e : κ' = 3 ∧ i' = s
    · obtain ⟨rfl, rfl⟩ := e
      rw [ev_set_at]
      have e2 : ¬ k' = 6 := fun e2 => by rw [e2] at hk'; cases hk'
      simp only [updV, if_neg e2]
      exact h3 _ _ _ hi' hk'
    · rw [ev_set_ne _ _ _ (fun e2 => e (cr_inj hi' hi (Nat.add_left_cancel e2)))]
      exact h3 _ _ _ hi' hk'
  · by_cases e : κ' = 3 ∧ i' = s
    · obtain ⟨rfl, rfl⟩ := e
      cases hp
    · rw [ev_set_ne _ _ _ (fun e2 => e (cr_inj hi' hi (Nat.add_left_cancel e2)))]
      exact h4 _ _ _ _ hi' hp
  · refine (h5 r hr).1.keep hfr (fun e => ?_) ?_ hq
    · have := (cr_inj (κ := 11) (i := r) hr hi (Nat.add_left_cancel e)).1
      omega
    · rcases (h5 r hr).2 with e | e
      · exact Or.inl e
      · refine Or.inr (fun e2 => ?_)
        have e3 : Ar r = ev_b G + cr_o 3 s := e2
        omega
  · by_cases e : t = s
    · subst e
      rw [ev_set_at]
      simp only [updV, if_true]
      exact ⟨trivial, hv⟩
    · rw [ev_set_ne _ _ _ (fun e2 => e (cr_inj (κ := 3) (i := t) ht hi (Nat.add_left_cancel e2)).2)]
      simp only [if_neg e]
      exact h7 t ht
theorem cr_K.setU (h : cr_K G q0 w C n F Q) (hq : q0 < ev_b G) {s : Nat} (hs : s < 6) {v : Option Nat} {v' : Option cr_m} (hv : cr_un G w v v') : cr_K G q0 (ev_set w (ev_b G + cr_o 3 s) 6 (va_rf v)) (cr_sU C s v') n F Q := by
  obtain ⟨X, Ar, Cp, U, hR, hX, hU, hQ, hF, hM⟩ := h
  have hi : s < cr_c 3 := hs
  have hs1 := hR.sf hi
  have hf : ev_fr w (ev_set w (ev_b G + cr_o 3 s) 6 (va_rf v)) (fun q => q = ev_b G + cr_o 3 s) := ev_fr.set _ _ _ _ (fun _ => rfl)
  refine ⟨X, Ar, Cp, _, hR.setU hq hs v (fun x hx => ?_), fun r hr => (hX r hr).keep hf hs1, fun t ht => ?_, hQ, hF.keep hR.1 hf hs1, fun y μ hy => (hM y μ hy).keep hf hs1⟩
  · rcases hv with ⟨e, -⟩ | ⟨y, μ, e, -, hy⟩
    · rw [e] at hx; cases hx
    · rw [e] at hx; cases hx
      exact ⟨hy.1, hy.2.1⟩
  · by_cases e : t = s
    · simp only [cr_sU, if_pos e]
      exact hv.keep hf hs1
    · simp only [cr_sU, if_neg e]
      exact (hU t ht).keep hf hs1
/-- the rows of a walk -/
theorem K_gI {index κ i k : Nat} (hd : ev_d M.2.1 pc (.getfield index) 3 pc') (hF : ev_F0 M.1.cls index (cr_t κ) k) (h : cr_K G q0 w C n F Q) (hi : i < cr_c κ) (hk : cr_i κ k = true) (kk : ev_E G M d pc' L (.int (C.1 κ i k) :: st) w P) : ev_E G M d pc L (.ref (ev_b G + cr_o κ i) :: st) w P := by
  obtain ⟨X, Ar, Cp, U, hR, -⟩ := h
  exact cr_gI hd hF hR hi hk kk
theorem K_gP {index κ i k q : Nat} (hd : ev_d M.2.1 pc (.getfield index) 3 pc') (hF : ev_F0 M.1.cls index (cr_t κ) k) (h : cr_K G q0 w C n F Q) (hi : i < cr_c κ) (hq : cr_p κ i k = some q) (kk : ev_E G M d pc' L (.ref (ev_b G + q) :: st) w P) : ev_E G M d pc L (.ref (ev_b G + cr_o κ i) :: st) w P := by
  obtain ⟨X, Ar, Cp, U, hR, -⟩ := h
  exact cr_gP hd hF hR hi hq kk
theorem K_pI {index κ i k : Nat} {x : Int32} (hd : ev_d M.2.1 pc (.putfield index) 3 pc') (hF : ev_F M.1.cls index (cr_t κ) k false) (h : cr_K G q0 w C n F Q) (hq : q0 < ev_b G) (hi : i < cr_c κ) (hk : cr_i κ k = true) (hn : narrow (nm_ft (cr_t κ) k) (.int x) = .int x) (hfit : fits (nm_ft (cr_t κ) k) (.int x) = true)
    (kk : ∀ w1, cr_K G q0 w1 (cr_sI C κ i k x) n F Q → ev_E G M d pc' L st w1 P) : ev_E G M d pc L (.int x :: .ref (ev_b G + cr_o κ i) :: st) w P :=
  ev_putf hd hF (h.al hi) (h.tg hi) hn hfit (kk _ (h.setI hq hi hk x))
theorem K_gU {index s : Nat} (hd : ev_d M.2.1 pc (.getfield index) 3 pc') (hF : ev_F0 M.1.cls index 7 6) (h : cr_K G q0 w C n F Q) (hs : s < 6) (kk : ∀ u, cr_un G w u (C.2.2 s) → ev_E G M d pc' L (va_rf u :: st) w P) : ev_E G M d pc L (.ref (ev_b G + cr_o 3 s) :: st) w P := by
  obtain ⟨X, Ar, Cp, U, hR, -, hU, -⟩ := h
  have hi : s < cr_c 3 := hs
  exact ev_getf hd hF (hR.al hi) (hR.2.1 3 s hi).1 (hR.2.2.2.2.2.2 s hs).1 (kk _ (hU s hs))
theorem K_pU {index s : Nat} {u : Option Nat} {v : Option cr_m} (hd : ev_d M.2.1 pc (.putfield index) 3 pc') (hF : ev_F M.1.cls index 7 6 false) (h : cr_K G q0 w C n F Q) (hq : q0 < ev_b G) (hs : s < 6) (hu : cr_un G w u v)
    (kk : ∀ w1, cr_K G q0 w1 (cr_sU C s v) n F Q → ev_E G M d pc' L st w1 P) : ev_E G M d pc L (va_rf u :: .ref (ev_b G + cr_o 3 s) :: st) w P := by
  have hi : s < cr_c 3 := hs
  refine ev_putf hd hF (h.al hi) (h.tg hi) ?_ ?_ (kk _ (h.setU hq hs hu))
  · cases u <;> rfl
  · cases u <;> rfl
theorem K_gM {index x k : Nat} {μ : cr_m} (hd : ev_d M.2.1 pc (.getfield index) 3 pc') (hF : ev_F0 M.1.cls index 6 k) (h : cr_ms G w x μ) (hk : k < 4) (kk : ev_E G M d pc' L (.int (cr_mk μ k) :: st) w P) : ev_E G M d pc L (.ref x :: st) w P := ev_getf hd hF h.1 h.2.1 (h.2.2 k hk) kk
theorem K_iald {κ i j : Nat} (hd : ev_d M.2.1 pc .iaload 1 pc') (h : cr_K G q0 w C n F Q) (hi : i < cr_c κ) (ht : cr_t κ = 100) (hj : j < cr_n κ) (hk : cr_i κ j = true) (hn : cr_n κ < 1000) (kk : ev_E G M d pc' L (.int (C.1 κ i j) :: st) w P) : ev_E G M d pc L (.int (Int32.ofNat j) :: .ref (ev_b G + cr_o κ i) :: st) w P := by
  obtain ⟨X, Ar, Cp, U, hR, -⟩ := h
  exact cr_iald hd hR hi ht hj hk hn kk
theorem K_iast {κ i j : Nat} {x : Int32} (hd : ev_d M.2.1 pc .iastore 1 pc') (h : cr_K G q0 w C n F Q) (hq : q0 < ev_b G) (hi : i < cr_c κ) (ht : cr_t κ = 100) (hj : j < cr_n κ) (hk : cr_i κ j = true) (hn : cr_n κ < 1000)
    (kk : ∀ w1, cr_K G q0 w1 (cr_sI C κ i j x) n F Q → ev_E G M d pc' L st w1 P) : ev_E G M d pc L (.int x :: .int (Int32.ofNat j) :: .ref (ev_b G + cr_o κ i) :: st) w P := by
  have hnn : ev_n w (ev_b G + cr_o κ i) = cr_n κ := by
    obtain ⟨X, Ar, Cp, U, hR, -⟩ := h
    exact (hR.2.1 κ i hi).2 (by omega)
  refine ev_iast (t := 0) hd (h.al hi) ((h.tg hi).trans ht) rfl (by rw [hnn]; exact nI_in hj (by omega)) ?_
  rw [ev_cl j (by omega)]
  exact kk _ (h.setI hq hi hk x)
theorem K_aald {κ i j t q : Nat} {N : String} (hd : ev_d M.2.1 pc .aaload 1 pc') (h : cr_K G q0 w C n F Q) (hi : i < cr_c κ) (ht : cr_t κ = 100 + t) (hty : nm_at[t]? = some (.object N)) (hj : j < cr_n κ) (hn : cr_n κ < 1000) (hp : cr_p κ i j = some q) (kk : ev_E G M d pc' L (.ref (ev_b G + q) :: st) w P) : ev_E G M d pc L (.int (Int32.ofNat j) :: .ref (ev_b G + cr_o κ i) :: st) w P := by
  obtain ⟨X, Ar, Cp, U, hR, -⟩ := h
  exact cr_aald hd hR hi ht hty hj hn hp kk
/-- the lists -/
theorem K_size (h : cr_K G q0 w C n F Q) {r : Nat} (hr : r < 22) : ev_E G mm_AL_size d 0 (lv_args 0 [.ref (ev_b G + cr_o 11 r)]) [] w (ev_ret (some (.int (Int32.ofNat (C.2.1 r).length))) w) := by
  obtain ⟨X, Ar, Cp, U, hR, hX, -⟩ := h
  rw [← (hX r hr).1]
  exact k_size hR hr
theorem K_isEmpty (h : cr_K G q0 w C n F Q) {r : Nat} (hr : r < 22) : ev_E G mm_AL_isEmpty d 0 (lv_args 0 [.ref (ev_b G + cr_o 11 r)]) [] w (ev_ret (some (.int (if C.2.1 r = [] then 1 else 0))) w) := by
  obtain ⟨X, Ar, Cp, U, hR, hX, -⟩ := h
  have e : (C.2.1 r = []) = (X r = []) := by
    have h1 := (hX r hr).1
    apply propext
    rw [← List.length_eq_zero_iff, ← List.length_eq_zero_iff, h1]
  simp only [e]
  exact k_isEmpty hR hr
theorem cr_rw.at {xs : List Nat} {zs : List cr_m} (h : cr_rw G w xs zs) {j : Nat} {μ : cr_m} (hz : zs[j]? = some μ) : ∃ x, xs[j]? = some x ∧ cr_ms G w x μ := by
  have hj : j < xs.length := by rw [h.1]; exact (List.getElem?_eq_some_iff.mp hz).1
  obtain ⟨ν, h1, h2⟩ := h.2 j _ (List.getElem?_eq_getElem hj)
  rw [hz] at h1
  cases h1
  exact ⟨_, List.getElem?_eq_getElem hj, h2⟩
theorem K_get (h : cr_K G q0 w C n F Q) {r j : Nat} {μ : cr_m} (hr : r < 22) (hx : (C.2.1 r)[j]? = some μ) : ev_E G mm_AL_get (d + 2) 0 (lv_args 0 [.ref (ev_b G + cr_o 11 r), .int (Int32.ofNat j)]) [] w (fun t w' => w' = w ∧ ∃ x, t = .inl (some (.ref x)) ∧ cr_ms G w x μ) := by
  obtain ⟨X, Ar, Cp, U, hR, hX, -⟩ := h
  obtain ⟨x, h1, h2⟩ := (hX r hr).at hx
  refine ev_mono (fun t w' ht => ?_) (k_get hR hr h1)
  exact ⟨ht.2, x, ht.1, h2⟩
theorem K_add (J : ev_J G q0 mi) (h : cr_K G q0 w C n F Q) {r x : Nat} {μ : cr_m} (hr : r < 22) (hl : (C.2.1 r).length ≤ 8191) (hn : n ≤ 200000) (hx : cr_ms G w x μ) :
    ev_E G mm_AL_add1 (d + 6) 0 (lv_args 0 [.ref (ev_b G + cr_o 11 r), .ref x]) [] w (fun t w' => t = .inl (some (.int 1)) ∧ cr_K G q0 w' (cr_sX C r (C.2.1 r ++ [μ])) n F Q) := by
  obtain ⟨X, Ar, Cp, U, hR, hX, hU, ⟨q1, q2, q3⟩, hF, hM⟩ := h
  have hsum := cr_su_le Cp 12288 22 q1
  have hc := q1 r hr
  have hnx : ev_nx (Cp r) ≤ 18500 := by unfold ev_nx; split <;> omega
  have hs := hR.sfl J.lt hr
  have hlx : (X r).length = (C.2.1 r).length := (hX r hr).1
  have hrow : ∀ {w' : ev_wd}, ev_fr w w' (fun q => q = ev_b G + cr_o 11 r ∨ q = Ar r) → ∀ r', r' < 22 → cr_rw G w' (cr_l X r (X r ++ [x]) r') ((cr_sX C r (C.2.1 r ++ [μ])).2.1 r') := by
    intro w' hf r' hr'
    by_cases e : r' = r
    · subst e
      simp only [cr_l, cr_sX, if_true]
      refine ⟨by simp [hlx], fun i y hy => ?_⟩
      rw [List.getElem?_append] at hy
      rw [List.getElem?_append, ← hlx]
      split at hy
      · rename_i hlt
        rw [if_pos hlt]
        obtain ⟨ν, n1, n2⟩ := (hX r' hr').2 i y hy
        exact ⟨ν, n1, n2.keep hf hs⟩
      · rename_i hlt
        rw [if_neg hlt]
        have hi0 : i - (X r').length = 0 := by
          have := (List.getElem?_eq_some_iff.mp hy).1
          simp at this
          omega
        rw [hi0] at hy
        rw [hi0]
        cases hy
        exact ⟨μ, rfl, hx.keep hf hs⟩
    · simp only [cr_l, cr_sX, if_neg e]
      exact (hX r' hr').keep hf hs
  refine ev_mono (fun t w' ht => ?_) (c_AL_add1 J (hR.2.2.2.2.1 r hr).1 (by omega) ⟨hx.1, hx.2.1⟩ (by omega) (by omega))
  obtain ⟨h1, h2, h3⟩ := ht
  refine ⟨h1, ?_⟩
  rcases h3 with ⟨z1, u1, -, li⟩ | ⟨z1, u1, e1, li⟩
  · have k := hR.list J.lt hr h2 li (Or.inl rfl)
    rw [cr_same, cr_same] at k
    exact ⟨_, _, _, _, k, hrow h2, fun s hs' => (hU s hs').keep h2 hs, ⟨q1, by omega, by omega⟩, hF.keep hR.1 h2 hs, fun y ν hy => (hM y ν hy).keep h2 hs⟩
  · have hup := cr_su_up Cp r (ev_nx (Cp r)) 22 hr
    have hten : Cp r = 0 ∨ 10 ≤ Cp r := by
      obtain ⟨⟨-, -, -, -, hcase⟩, -⟩ := hR.2.2.2.2.1 r hr
      rcases hcase with ⟨-, e⟩ | ⟨-, -, -, e, -⟩
      · exact Or.inl e
      · exact Or.inr e
    have hv : ev_nx (Cp r) = if Cp r = 0 then 10 else Cp r + Cp r / 2 := rfl
    have hv1 : ev_nx (Cp r) ≤ 12288 ∧ Cp r + 1 ≤ ev_nx (Cp r) ∧ ev_nx (Cp r) + 4 * Cp r ≤ 4 * ev_nx (Cp r) := by
      rw [hv]
      split <;> omega
    refine ⟨_, _, _, _, hR.list J.lt hr h2 li (Or.inr rfl), hrow h2, fun s hs' => (hU s hs').keep h2 hs, ⟨fun r' hr' => ?_, by omega, by omega⟩, hF.keep hR.1 h2 hs, fun y ν hy => (hM y ν hy).keep h2 hs⟩
    by_cases e : r' = r
    · simp only [cr_a, if_pos e]
      exact hv1.1
    · simp only [cr_a, if_neg e]
      exact q1 r' hr'
theorem K_remove (hq : q0 < ev_b G) (h : cr_K G q0 w C n F Q) {r j : Nat} {μ : cr_m} (hr : r < 22) (hx : (C.2.1 r)[j]? = some μ) :
    ev_E G mm_AL_remove (d + 2) 0 (lv_args 0 [.ref (ev_b G + cr_o 11 r), .int (Int32.ofNat j)]) [] w (fun t w' => (∃ x, t = .inl (some (.ref x)) ∧ cr_ms G w' x μ) ∧ cr_K G q0 w' (cr_sX C r ((C.2.1 r).eraseIdx j)) n F Q) := by
  obtain ⟨X, Ar, Cp, U, hR, hX, hU, hQ, hF, hM⟩ := h
  obtain ⟨x, x1, x2⟩ := (hX r hr).at hx
  have hs := hR.sfl hq hr
  refine ev_mono (fun t w' ht => ?_) (c_AL_remove (hR.2.2.2.2.1 r hr).1 x1)
  obtain ⟨h1, h2, z1, u1, li⟩ := ht
  have k := hR.list hq hr h2 li (Or.inl rfl)
  rw [cr_same, cr_same] at k
  refine ⟨⟨x, h1, x2.keep h2 hs⟩, _, _, _, _, k, fun r' hr' => ?_, fun s hs' => (hU s hs').keep h2 hs, ?_, hF.keep hR.1 h2 hs, fun y ν hy => (hM y ν hy).keep h2 hs⟩
  · by_cases e : r' = r
    · subst e
      simp only [cr_l, cr_sX, if_true]
      refine ⟨?_, fun i y hy => ?_⟩
      · rw [List.length_eraseIdx, List.length_eraseIdx, (hX r' hr').1]
      · rw [List.getElem?_eraseIdx] at hy
        rw [List.getElem?_eraseIdx]
        split at hy
        · rename_i hlt
          rw [if_pos hlt]
          obtain ⟨ν, n1, n2⟩ := (hX r' hr').2 i y hy
          exact ⟨ν, n1, n2.keep h2 hs⟩
        · rename_i hlt
          rw [if_neg hlt]
          obtain ⟨ν, n1, n2⟩ := (hX r' hr').2 (i + 1) y hy
          exact ⟨ν, n1, n2.keep h2 hs⟩
    · simp only [cr_l, cr_sX, if_neg e]
      exact (hX r' hr').keep h2 hs
  · obtain ⟨q1, q2, q3⟩ := hQ
    exact ⟨q1, by omega, by omega⟩
theorem K_clear (hq : q0 < ev_b G) (h : cr_K G q0 w C n F Q) {r : Nat} (hr : r < 22) :
    ev_E G mm_AL_clear d 0 (lv_args 0 [.ref (ev_b G + cr_o 11 r)]) [] w (fun t w' => t = .inl none ∧ cr_K G q0 w' (cr_sX C r []) n F Q) := by
  obtain ⟨X, Ar, Cp, U, hR, hX, hU, hQ, hF, hM⟩ := h
  have hs := hR.sfl hq hr
  refine ev_mono (fun t w' ht => ?_) (c_AL_clear (hR.2.2.2.2.1 r hr).1 hq)
  obtain ⟨h1, h2, z1, u1, li⟩ := ht
  have k := hR.list hq hr h2 li (Or.inl rfl)
  rw [cr_same, cr_same] at k
  refine ⟨h1, _, _, _, _, k, fun r' hr' => ?_, fun s hs' => (hU s hs').keep h2 hs, ?_, hF.keep hR.1 h2 hs, fun y ν hy => (hM y ν hy).keep h2 hs⟩
  · by_cases e : r' = r
    · subst e
      simp only [cr_l, cr_sX, if_true]
      exact ⟨rfl, fun i y hy => by simp at hy⟩
    · simp only [cr_l, cr_sX, if_neg e]
      exact (hX r' hr').keep h2 hs
  · obtain ⟨q1, q2, q3⟩ := hQ
    exact ⟨q1, by omega, by omega⟩
end CrK
