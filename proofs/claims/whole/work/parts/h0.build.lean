/-! cells made one after another, as a list -/
abbrev ce : Type := Nat × Nat × (Nat → Value)
def wp {α : Type} (z : Nat) (cs : List ce) (f : Nat → α) (p : ce → α) : Nat → α := fun q => if q < z then f q else match cs[q - z]? with
  | some c => p c
  | none => f q
def wl (w0 : ev_wd) (cs : List ce) (u : Nat) : ev_wd := (wp (ev_z w0) cs (ev_g w0) (fun c => c.1), wp (ev_z w0) cs (ev_n w0) (fun c => c.2.1), wp (ev_z w0) cs (ev_v w0) (fun c => c.2.2), ev_z w0 + cs.length, u)
theorem wp_lo {α : Type} {z : Nat} {cs : List ce} {f : Nat → α} {p : ce → α} {q : Nat} (h : q < z) : wp z cs f p q = f q := if_pos h
theorem wp_at {α : Type} {z : Nat} {cs : List ce} {f : Nat → α} {p : ce → α} {i : Nat} {c : ce} (h : cs[i]? = some c) : wp z cs f p (z + i) = p c := by
  unfold wp
  rw [if_neg (by omega), show z + i - z = i by omega, h]
theorem wp_no {α : Type} {z : Nat} {cs : List ce} {f : Nat → α} {p : ce → α} {q : Nat} (h : z + cs.length ≤ q) : wp z cs f p q = f q := by
  unfold wp
  rw [if_neg (by omega), List.getElem?_eq_none (by omega)]
theorem wp_hi {α : Type} {z : Nat} {cs : List ce} {f : Nat → α} {p : ce → α} {q : Nat} (h : z ≤ q) : wp z cs f p q = match cs[q - z]? with
  | some c => p c
  | none => f q := by
  unfold wp
  rw [if_neg (by omega)]
theorem wp_ap {α : Type} (z : Nat) (cs ds : List ce) (f : Nat → α) (p : ce → α) : wp (z + cs.length) ds (wp z cs f p) p = wp z (cs ++ ds) f p := by
  funext q
  by_cases h : q < z
  · rw [wp_lo h, wp_lo (by omega), wp_lo h]
  · by_cases l : q < z + cs.length
    · rw [wp_lo l, wp_hi (by omega), wp_hi (by omega), List.getElem?_append_left (by omega)]
    · rw [wp_hi (by omega), wp_no (cs := cs) (by omega), wp_hi (cs := cs ++ ds) (by omega), List.getElem?_append_right (by omega), show q - z - cs.length = q - (z + cs.length) by omega]
theorem wl_ap (w0 : ev_wd) (cs ds : List ce) (u u' : Nat) : wl (wl w0 cs u) ds u' = wl w0 (cs ++ ds) u' := by
  refine Prod.ext ?_ (Prod.ext ?_ (Prod.ext ?_ (Prod.ext ?_ rfl)))
  · exact wp_ap _ _ _ _ _
  · exact wp_ap _ _ _ _ _
  · exact wp_ap _ _ _ _ _
  · show ev_z w0 + cs.length + ds.length = ev_z w0 + (cs ++ ds).length
    rw [List.length_append]
    omega
theorem wl_nil (w0 : ev_wd) : wl w0 [] (ev_u w0) = w0 := by
  have h : ∀ {α : Type} (f : Nat → α) (p : ce → α), wp (ev_z w0) [] f p = f := fun f p => funext fun q => by
    by_cases h : q < ev_z w0
    · exact wp_lo h
    · exact wp_no (by rw [List.length_nil]; omega)
  exact Prod.ext (h _ (fun c => c.1)) (Prod.ext (h _ (fun c => c.2.1)) (Prod.ext (h _ (fun c => c.2.2)) (Prod.ext rfl rfl)))
theorem wl_one (w0 : ev_wd) (t n : Nat) (f : Nat → Value) (u : Nat) : ev_add w0 t n f u = wl w0 [(t, n, f)] (ev_u w0 + u) := by
  have h : ∀ {α : Type} (g : Nat → α) (p : ce → α), (fun q => if q = ev_z w0 then p (t, n, f) else g q) = wp (ev_z w0) [(t, n, f)] g p := fun g p => funext fun q => by
    by_cases h : q < ev_z w0
    · rw [wp_lo h, if_neg (by omega)]
    · by_cases e : q = ev_z w0
      · rw [if_pos e, e]
        exact (wp_at (i := 0) rfl).symm
      · rw [if_neg e, wp_no (by rw [List.length_singleton]; omega)]
  refine Prod.ext (h (ev_g w0) (fun c => c.1)) (Prod.ext (h (ev_n w0) (fun c => c.2.1)) (Prod.ext ?_ (Prod.ext rfl rfl)))
  show (fun q j => if q = ev_z w0 then f j else ev_v w0 q j) = wp (ev_z w0) [(t, n, f)] (ev_v w0) (fun c => c.2.2)
  rw [← h (ev_v w0) (fun c => c.2.2)]
  funext q j
  by_cases e : q = ev_z w0
  · rw [if_pos e, if_pos e]
  · rw [if_neg e, if_neg e]
theorem wl_add (w0 : ev_wd) (cs : List ce) (u t n : Nat) (f : Nat → Value) (du : Nat) : ev_add (wl w0 cs u) t n f du = wl w0 (cs ++ [(t, n, f)]) (u + du) := by
  rw [wl_one, wl_ap]
  rfl
/-- one of them changes -/
def md (f : ce → ce) : Nat → List ce → List ce
  | _, [] => []
  | 0, c :: cs => f c :: cs
  | n + 1, c :: cs => c :: md f n cs
theorem md_len (f : ce → ce) : ∀ (cs : List ce) (i : Nat), (md f i cs).length = cs.length := by
  intro cs
  induction cs with
  | nil => intro i; cases i <;> rfl
  | cons c cs ih => intro i; cases i <;> simp only [md, List.length_cons, ih]
theorem md_ne (f : ce → ce) : ∀ (cs : List ce) (i j : Nat), j ≠ i → (md f i cs)[j]? = cs[j]? := by
  intro cs
  induction cs with
  | nil => intro i j _; cases i <;> rfl
  | cons c cs ih =>
    intro i j h
    cases i with
    | zero =>
      cases j with
      | zero => exact absurd rfl h
      | succ j => rfl
    | succ i =>
      cases j with
      | zero => rfl
      | succ j => exact ih i j (fun e => h (by rw [e]))
theorem md_at (f : ce → ce) : ∀ (cs : List ce) (i : Nat) (c : ce), cs[i]? = some c → (md f i cs)[i]? = some (f c) := by
  intro cs
  induction cs with
  | nil => intro i c h; cases h
  | cons c cs ih =>
    intro i c' h
    cases i with
    | zero => cases h; rfl
    | succ i => exact ih i c' h
def up (f : Nat → Value) (k : Nat) (x : Value) : Nat → Value := fun j => if j = k then x else f j
def cu (k : Nat) (x : Value) (c : ce) : ce := (c.1, c.2.1, up c.2.2 k x)
theorem wp_md {α : Type} (z : Nat) (cs : List ce) (g : Nat → α) (p : ce → α) (f : ce → ce) (i : Nat) {c : ce} (hc : cs[i]? = some c) (h : p (f c) = p c) : wp z (md f i cs) g p = wp z cs g p := by
  funext q
  by_cases l : q < z
  · rw [wp_lo l, wp_lo l]
  · rw [wp_hi (by omega), wp_hi (by omega)]
    by_cases e : q - z = i
    · rw [e, md_at f cs i c hc, hc]
      exact h
    · rw [md_ne f cs i _ e]
theorem wl_set (w0 : ev_wd) (cs : List ce) (u i k : Nat) (x : Value) {c : ce} (hc : cs[i]? = some c) : ev_set (wl w0 cs u) (ev_z w0 + i) k x = wl w0 (md (cu k x) i cs) u := by
  refine Prod.ext (wp_md _ _ _ _ _ _ hc rfl).symm (Prod.ext (wp_md _ _ _ _ _ _ hc rfl).symm (Prod.ext ?_ (Prod.ext ?_ rfl)))
  · funext q j
    show (if q = ev_z w0 + i ∧ j = k then x else wp (ev_z w0) cs (ev_v w0) (fun c => c.2.2) q j) = wp (ev_z w0) (md (cu k x) i cs) (ev_v w0) (fun c => c.2.2) q j
    by_cases e : q = ev_z w0 + i
    · rw [e, wp_at hc, wp_at (md_at _ _ _ _ hc)]
      show _ = up c.2.2 k x j
      unfold up
      by_cases ej : j = k
      · rw [if_pos ⟨rfl, ej⟩, if_pos ej]
      · rw [if_neg (fun h => ej h.2), if_neg ej]
    · rw [if_neg (fun h => e h.1)]
      by_cases l : q < ev_z w0
      · rw [wp_lo l, wp_lo l]
      · rw [wp_hi (by omega), wp_hi (by omega), md_ne _ _ _ _ (by omega)]
  · show ev_z w0 + cs.length = ev_z w0 + (md (cu k x) i cs).length
    rw [md_len]
theorem wl_len (w0 : ev_wd) (cs : List ce) (u : Nat) : ev_z (wl w0 cs u) = ev_z w0 + cs.length := rfl
theorem wl_lt {cs : List ce} {i : Nat} {c : ce} (h : cs[i]? = some c) : i < cs.length := (List.getElem?_eq_some_iff.mp h).1
section BldA
variable {G : ev_gx} {M : ev_mx} {d pc pc' pc2 pc3 tgt : Nat} {L : List (Nat × Value)} {st : List Value} {w0 : ev_wd} {P : ev_r → ev_wd → Prop} {cs : List ce} {u : Nat}
theorem B_put {index cl k i : Nat} {v : Value} {c : ce} (hd : ev_d M.2.1 pc (.putfield index) 3 pc') (hF : ev_F M.1.cls index cl k false) (hb : ev_b G ≤ ev_z w0) (hi : cs[i]? = some c) (hc : c.1 = cl) (hn : narrow (nm_ft cl k) v = v) (hfit : fits (nm_ft cl k) v = true) (kk : ev_E G M d pc' L st (wl w0 (md (cu k v) i cs) u) P) : ev_E G M d pc L (v :: .ref (ev_z w0 + i) :: st) (wl w0 cs u) P := by
  have hl := wl_lt hi
  refine ev_putf hd hF ⟨by omega, by rw [wl_len]; omega⟩ ((wp_at hi).trans hc) hn hfit ?_
  rw [wl_set w0 cs u i k v hi]
  exact kk
theorem B_putF {index cl k i : Nat} {v : Value} {c : ce} (hd : ev_d M.2.1 pc (.putfield index) 3 pc') (hF : ev_F M.1.cls index cl k true) (hM : M.1.name = "<init>") (hb : ev_b G ≤ ev_z w0) (hi : cs[i]? = some c) (hc : c.1 = cl) (hn : narrow (nm_ft cl k) v = v) (hfit : fits (nm_ft cl k) v = true) (kk : ev_E G M d pc' L st (wl w0 (md (cu k v) i cs) u) P) : ev_E G M d pc L (v :: .ref (ev_z w0 + i) :: st) (wl w0 cs u) P := by
  have hl := wl_lt hi
  refine ev_putF hd hF hM ⟨by omega, by rw [wl_len]; omega⟩ ((wp_at hi).trans hc) hn hfit ?_
  rw [wl_set w0 cs u i k v hi]
  exact kk
theorem B_get {index cl k i : Nat} {v : Value} {c : ce} (hd : ev_d M.2.1 pc (.getfield index) 3 pc') (hF : ev_F0 M.1.cls index cl k) (hb : ev_b G ≤ ev_z w0) (hi : cs[i]? = some c) (hc : c.1 = cl) (hv : c.2.2 k = v) (kk : ev_E G M d pc' L (v :: st) (wl w0 cs u) P) : ev_E G M d pc L (.ref (ev_z w0 + i) :: st) (wl w0 cs u) P := by
  have hl := wl_lt hi
  refine ev_getf hd hF ⟨by omega, by rw [wl_len]; omega⟩ ((wp_at hi).trans hc) ?_ kk
  show wp (ev_z w0) cs (ev_v w0) (fun c => c.2.2) (ev_z w0 + i) k = v
  rw [wp_at hi]
  exact hv
theorem B_new {index cl n : Nat} {q : vw_C} (hd : ev_d M.2.1 pc (.new index) 3 pc') (hc : nm_cl[cl]? = some q) (hok : ev_clok cl q) (hlk : Cond.classLink M.1.cls index q.1 ∈ lw_tbl) (hl : cs.length = n) (hz : ev_z w0 + n + 1 ≤ ev_b G + 601024) (hu : u + nm_sl cl ≤ 7293034) (kk : ev_E G M d pc' L (.ref (ev_z w0 + n) :: st) (wl w0 (cs ++ [(cl, 0, fun k => defaultValue (nm_ft cl k))]) (u + nm_sl cl)) P) : ev_E G M d pc L st (wl w0 cs u) P := by
  refine ev_new hd hc hok hlk (by rw [wl_len, hl]; exact hz) hu ?_
  rw [wl_add, wl_len, hl]
  exact kk
theorem B_newi {n m : Nat} (hd : ev_d M.2.1 pc (.newarray .int) 2 pc') (hl : cs.length = n) (hm : m ≤ 2400) (hz : ev_z w0 + n + 1 ≤ ev_b G + 601024) (hu : u + m ≤ 7293034) (kk : ev_E G M d pc' L (.ref (ev_z w0 + n) :: st) (wl w0 (cs ++ [(100, m, fun _ => .int 0)]) (u + m)) P) : ev_E G M d pc L (.int (Int32.ofNat m) :: st) (wl w0 cs u) P := by
  have e : (Int32.ofNat m).toNatClampNeg = m := ev_cl m (by omega)
  refine ev_newa (t := 0) hd rfl ac_int (ev_on m (by omega)) (by rw [e]; show m * 4 ≤ 536870912; omega) (by rw [wl_len, hl]; exact hz) (by rw [e]; exact hu) ?_
  rw [e, wl_add, wl_len, hl]
  exact kk
theorem B_newz {n m : Nat} (hd : ev_d M.2.1 pc (.newarray .boolean) 2 pc') (hl : cs.length = n) (hm : m ≤ 2400) (hz : ev_z w0 + n + 1 ≤ ev_b G + 601024) (hu : u + m ≤ 7293034) (kk : ev_E G M d pc' L (.ref (ev_z w0 + n) :: st) (wl w0 (cs ++ [(101, m, fun _ => .int 0)]) (u + m)) P) : ev_E G M d pc L (.int (Int32.ofNat m) :: st) (wl w0 cs u) P := by
  have e : (Int32.ofNat m).toNatClampNeg = m := ev_cl m (by omega)
  refine ev_newa (t := 1) hd rfl ac_boolean (ev_on m (by omega)) (by rw [e]; show m * 1 ≤ 536870912; omega) (by rw [wl_len, hl]; exact hz) (by rw [e]; exact hu) ?_
  rw [e, wl_add, wl_len, hl]
  exact kk
theorem B_anew {index t n m : Nat} {C : String} (hd : ev_d M.2.1 pc (.anewarray index) 3 pc') (hty : nm_at[t]? = some (.object C)) (hlk : Cond.classLink M.1.cls index C ∈ lw_tbl) (hw : Cond.arrayOver (.object C) ∈ lw_tbl) (hl : cs.length = n) (hm : m ≤ 2400) (hz : ev_z w0 + n + 1 ≤ ev_b G + 601024) (hu : u + m ≤ 7293034) (kk : ev_E G M d pc' L (.ref (ev_z w0 + n) :: st) (wl w0 (cs ++ [(100 + t, m, fun _ => .null)]) (u + m)) P) : ev_E G M d pc L (.int (Int32.ofNat m) :: st) (wl w0 cs u) P := by
  have e : (Int32.ofNat m).toNatClampNeg = m := ev_cl m (by omega)
  refine ev_anew hd hty hlk hw (ev_on m (by omega)) (by rw [e]; omega) (by rw [wl_len, hl]; exact hz) (by rw [e]; exact hu) ?_
  rw [e, wl_add, wl_len, hl]
  exact kk
theorem B_aast {t i j v cl : Nat} {E : String} {q : vw_C} {c cv : ce} (hd : ev_d M.2.1 pc .aastore 1 pc') (hb : ev_b G ≤ ev_z w0) (hi : cs[i]? = some c) (hc : c.1 = 100 + t) (hty : nm_at[t]? = some (.object E)) (hj : j < c.2.1) (hj2 : j < 2400) (hn : c.2.1 ≤ 2400) (hv : cs[v]? = some cv) (hvc : cv.1 = cl) (hq : nm_cl[cl]? = some q) (hE : q.1 = E) (kk : ev_E G M d pc' L st (wl w0 (md (cu j (.ref (ev_z w0 + v))) i cs) u) P) : ev_E G M d pc L (.ref (ev_z w0 + v) :: .int (Int32.ofNat j) :: .ref (ev_z w0 + i) :: st) (wl w0 cs u) P := by
  have h1 := wl_lt hi
  have h2 := wl_lt hv
  have en : ev_n (wl w0 cs u) (ev_z w0 + i) = c.2.1 := wp_at hi
  refine ev_aast (t := t) hd ⟨by omega, by rw [wl_len]; omega⟩ ((wp_at hi).trans hc) hty (by rw [en]; exact nI_in hj (by omega)) ⟨by omega, by rw [wl_len]; omega⟩ ((wp_at hv).trans hvc) hq (Or.inl hE) ?_
  rw [ev_cl j (by omega), wl_set w0 cs u i j _ hi]
  exact kk
theorem B_iast {i j : Nat} {x : Int32} {c : ce} (hd : ev_d M.2.1 pc .iastore 1 pc') (hb : ev_b G ≤ ev_z w0) (hi : cs[i]? = some c) (hc : c.1 = 100) (hj : j < c.2.1) (hn : c.2.1 ≤ 2400) (kk : ev_E G M d pc' L st (wl w0 (md (cu j (.int x)) i cs) u) P) : ev_E G M d pc L (.int x :: .int (Int32.ofNat j) :: .ref (ev_z w0 + i) :: st) (wl w0 cs u) P := by
  have h1 := wl_lt hi
  have en : ev_n (wl w0 cs u) (ev_z w0 + i) = c.2.1 := wp_at hi
  refine ev_iast (t := 0) hd ⟨by omega, by rw [wl_len]; omega⟩ ((wp_at hi).trans hc) rfl (by rw [en]; exact nI_in hj (by omega)) ?_
  rw [ev_cl j (by omega), wl_set w0 cs u i j _ hi]
  exact kk
/-- a constructor's contract: it makes the cells l of the one it is called on -/
def bc (G : ev_gx) (M' : ev_mx) (d : Nat) (l : Nat → List ce) (cl n du : Nat) : Prop := ∀ (w0 : ev_wd) (u : Nat), ev_b G ≤ ev_z w0 → ev_z w0 + n ≤ ev_b G + 601024 → u + du ≤ 7293034 → ev_E G M' d 0 (lv_args 0 [.ref (ev_z w0 + 0)]) [] (wl w0 [(cl, 0, fun k => defaultValue (nm_ft cl k))] u) (fun t w' => t = .inl none ∧ ∃ v, v ≤ u + du ∧ w' = wl w0 (l (ev_z w0)) v)
theorem B_call {index cl n du k : Nat} {M' : ev_mx} {l : Nat → List ce} (hd : ev_d M.2.1 pc (.invokespecial index) 3 pc') (hm : ev_ms M' 0) (hi : ev_Ii M.1.cls index M') (hst : (st.map fun v => v.category).sum + M'.2.2.1 ≤ 28) (hlen : (lg_sl [Value.ref (ev_z w0 + k)]).length ≤ M'.2.2.1) (hc : bc G M' d l cl n du) (hk : cs.length = k) (hb : ev_b G ≤ ev_z w0) (hz : ev_z w0 + k + n ≤ ev_b G + 601024) (hu : u + du ≤ 7293034)
    (kk : ∀ v, v ≤ u + du → ev_E G M (d + 1) pc' L st (wl w0 (cs ++ l (ev_z w0 + k)) v) P) : ev_E G M (d + 1) pc L (.ref (ev_z w0 + k) :: st) (wl w0 (cs ++ [(cl, 0, fun k => defaultValue (nm_ft cl k))]) u) P := by
  have e0 : ev_z (wl w0 cs 0) = ev_z w0 + k := by rw [wl_len, hk]
  have h := hc (wl w0 cs 0) u (by rw [e0]; omega) (by rw [e0]; exact hz) hu
  rw [e0, wl_ap] at h
  refine ev_calli [] hd hm hi rfl hst hlen h (fun v w2 hp _ _ => ?_) (fun x w3 hp _ _ => by obtain ⟨h1, -⟩ := hp; cases h1)
  obtain ⟨h1, v2, hv2, h2⟩ := hp
  cases h1
  rw [h2, wl_ap]
  exact kk v2 hv2
theorem md_md (f g : ce → ce) : ∀ (cs : List ce) (i : Nat), md f i (md g i cs) = md (fun c => f (g c)) i cs := by
  intro cs
  induction cs with
  | nil => intro i; cases i <;> rfl
  | cons c cs ih =>
    intro i
    cases i with
    | zero => rfl
    | succ i => simp only [md, ih]
theorem md_eq {f g : ce → ce} : ∀ (cs : List ce) (i : Nat) (c : ce), cs[i]? = some c → f c = g c → md f i cs = md g i cs := by
  intro cs
  induction cs with
  | nil => intro i c h; cases h
  | cons c cs ih =>
    intro i c' h e
    cases i with
    | zero => cases h; simp only [md, e]
    | succ i => simp only [md, ih i c' h e]
theorem md_id {f : ce → ce} : ∀ (cs : List ce) (i : Nat) (c : ce), cs[i]? = some c → f c = c → md f i cs = cs := by
  intro cs
  induction cs with
  | nil => intro i c h; cases h
  | cons c cs ih =>
    intro i c' h e
    cases i with
    | zero => cases h; simp only [md, e]
    | succ i => simp only [md, ih i c' h e]
/-- the first j elements are x -/
def ff (j : Nat) (x : Value) (c : ce) : ce := (c.1, c.2.1, fun k => if k < j then x else c.2.2 k)
theorem ff_0 (x : Value) (c : ce) : ff 0 x c = c := by
  refine Prod.ext rfl (Prod.ext rfl (funext fun k => ?_))
  show (if k < 0 then x else c.2.2 k) = c.2.2 k
  rw [if_neg (Nat.not_lt_zero k)]
theorem ff_s (j : Nat) (x : Value) (c : ce) : cu j x (ff j x c) = ff (j + 1) x c := by
  refine Prod.ext rfl (Prod.ext rfl (funext fun k => ?_))
  show (if k = j then x else if k < j then x else c.2.2 k) = if k < j + 1 then x else c.2.2 k
  by_cases e : k = j
  · rw [if_pos e, if_pos (by omega)]
  · rw [if_neg e]
    by_cases l : k < j
    · rw [if_pos l, if_pos (by omega)]
    · rw [if_neg l, if_neg (by omega)]
theorem c_fillL {x : Int32} {i n : Nat} {c : ce} (hb : ev_b G ≤ ev_z w0) (hi : cs[i]? = some c) (hc : c.1 = 100) (hn : c.2.1 = n) (hn2 : n ≤ 2400) : ∀ (m j : Nat), j + m = n → ev_E G mm_AR_fill d 5 [(0, .ref (ev_z w0 + i)), (1, .int x), (2, .int (Int32.ofNat j)), (3, .int (Int32.ofNat n))] [] (wl w0 (md (ff j (.int x)) i cs) u) (ev_ret none (wl w0 (md (ff n (.int x)) i cs) u)) := by
  intro m
  induction m with
  | zero =>
    intro j hj
    have e : j = n := by omega
    rw [e]
    refine ev_iload_n dd_AR_fill_5 rfl ?_
    refine ev_iload_n dd_AR_fill_6 rfl ?_
    refine ev_icmp_ge dd_AR_fill_7 (fun _ => ?_) (fun h => absurd (i_le (Nat.le_refl n) (by omega)) h)
    refine ev_vret dd_AR_fill_20 rfl ?_
    exact ⟨rfl, rfl⟩
  | succ m ih =>
    intro j hj
    refine ev_iload_n dd_AR_fill_5 rfl ?_
    refine ev_iload_n dd_AR_fill_6 rfl ?_
    refine ev_icmp_ge dd_AR_fill_7 (fun h => absurd h (i_ge (a := j) (b := n) (by omega) (by omega))) (fun _ => ?_)
    refine ev_aload_n dd_AR_fill_10 rfl ?_
    refine ev_iload_n dd_AR_fill_11 rfl ?_
    refine ev_iload_n dd_AR_fill_12 rfl ?_
    refine B_iast (j := j) dd_AR_fill_13 hb (md_at _ _ _ _ hi) hc (show j < c.2.1 by omega) (show c.2.1 ≤ 2400 by omega) ?_
    rw [md_md, md_eq cs i c hi (ff_s j (.int x) c)]
    refine ev_iinc dd_AR_fill_14 rfl (by decide) ?_
    refine ev_goto dd_AR_fill_17 ?_
    refine ev_loc4 (i0 := 0) (i1 := 1) (i2 := 2) (i3 := 3) rfl rfl (v2 := .int (Int32.ofNat (j + 1))) (by rw [show Int32.ofNat (j + 1) = Int32.ofNat j + Int32.ofInt 1 by rw [inc_ofNat]; rfl]; rfl) rfl ?_
    exact ih (j + 1) (by omega)
theorem c_fill {x : Int32} {i n : Nat} {c : ce} (hb : ev_b G ≤ ev_z w0) (hi : cs[i]? = some c) (hc : c.1 = 100) (hn : c.2.1 = n) (hn2 : n ≤ 2400) : ev_E G mm_AR_fill d 0 (lv_args 0 [.ref (ev_z w0 + i), .int x]) [] (wl w0 cs u) (ev_ret none (wl w0 (md (ff n (.int x)) i cs) u)) := by
  have hl := wl_lt hi
  refine ev_ic (v := 0) dd_AR_fill_0 (by decide +kernel) ?_
  refine ev_istore_n dd_AR_fill_1 (by decide) ?_
  refine ev_aload_n dd_AR_fill_2 rfl ?_
  refine ev_alen (t := 0) dd_AR_fill_3 ⟨by omega, by rw [wl_len]; omega⟩ ((wp_at hi).trans hc) rfl (n := n) ((wp_at hi).trans hn) ?_
  refine ev_istore_n dd_AR_fill_4 (by decide) ?_
  refine ev_loc4 (i0 := 0) (i1 := 1) (i2 := 2) (i3 := 3) rfl rfl (v2 := .int (Int32.ofNat 0)) rfl (v3 := .int (Int32.ofNat n)) rfl ?_
  have h := c_fillL (G := G) (d := d) (u := u) (x := x) hb hi hc hn hn2 n 0 (by omega)
  rw [md_id cs i c hi (ff_0 (.int x) c)] at h
  exact h
end BldA
