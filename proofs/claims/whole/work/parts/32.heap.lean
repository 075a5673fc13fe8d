/-! rows that read and write the heap -/
theorem ev_set_at (w : ev_wd) (a k : Nat) (x : Value) : ev_v (ev_set w a k x) a = updV (ev_v w a) k x := by
  funext j
  by_cases h : j = k
  · simp [ev_set, ev_v, updV, h]
  · simp [ev_set, ev_v, updV, h]
theorem ev_set_ne (w : ev_wd) {a q : Nat} (k : Nat) (x : Value) (h : q ≠ a) : ev_v (ev_set w a k x) q = ev_v w q := by
  funext j
  simp [ev_set, ev_v, h]
theorem ev_add_at (w : ev_wd) (t n : Nat) (f : Nat → Value) (u : Nat) : ev_g (ev_add w t n f u) (ev_z w) = t ∧ ev_n (ev_add w t n f u) (ev_z w) = n ∧ ev_v (ev_add w t n f u) (ev_z w) = f := by
  refine ⟨by simp [ev_add, ev_g, ev_z], by simp [ev_add, ev_n, ev_z], ?_⟩
  funext j
  simp [ev_add, ev_v, ev_z]
theorem ev_add_ne (w : ev_wd) (t n : Nat) (f : Nat → Value) (u : Nat) {q : Nat} (h : q ≠ ev_z w) : ev_g (ev_add w t n f u) q = ev_g w q ∧ ev_n (ev_add w t n f u) q = ev_n w q ∧ ev_v (ev_add w t n f u) q = ev_v w q := by
  have h' : ¬ q = w.2.2.2.1 := h
  refine ⟨by simp [ev_add, ev_g, h'], by simp [ev_add, ev_n, h'], ?_⟩
  funext j
  simp [ev_add, ev_v, h']
theorem ev_at.to {D : va_G} {w w' : ev_wd} {H H' : Heap} {a : Nat} (h : ev_at D w H a) (hg : ev_g w' a = ev_g w a) (hn : ev_n w' a = ev_n w a) (hv : ev_v w' a = ev_v w a) (hh : H'[a]? = H[a]?) : ev_at D w' H' a := by
  unfold ev_at
  rw [hg, hn, hv, hh]
  rcases h with ⟨h1, h2⟩ | ⟨h1, q, h2, h3⟩
  · exact Or.inl ⟨h1, h2⟩
  · exact Or.inr ⟨h1, q, h2, h3.kept hh⟩
theorem ev_Hr.put {G : ev_gx} {w : ev_wd} {H H' : Heap} {a k : Nat} {x : Value} (h : ev_Hr G w H) (ha : ev_b G ≤ a) (hz : H'.size = H.size) (ho : ∀ q, q ≠ a → H'[q]? = H[q]?) (he : ev_at (ev_D G) (ev_set w a k x) H' a) : ev_Hr G (ev_set w a k x) H' := by
  obtain ⟨h1, h2, h3, h4⟩ := h
  refine ⟨hz.trans h1, h2, fun q hq1 hq2 => ?_, fun q hq => ?_⟩
  · by_cases hqa : q = a
    · rw [hqa]; exact he
    · exact (h3 q hq1 hq2).to rfl rfl (ev_set_ne w k x hqa) (ho q hqa)
  · rw [ho q (by omega)]
    exact h4 q hq
theorem ev_Hr.new {G : ev_gx} {w : ev_wd} {H H' : Heap} {t n u : Nat} {f : Nat → Value} (h : ev_Hr G w H) (hz : H'.size = H.size + 1) (ho : ∀ q, q < H.size → H'[q]? = H[q]?) (he : ev_at (ev_D G) (ev_add w t n f u) H' (ev_z w)) : ev_Hr G (ev_add w t n f u) H' := by
  obtain ⟨h1, h2, h3, h4⟩ := h
  refine ⟨by rw [hz, h1]; rfl, Nat.le_succ_of_le h2, fun q hq1 hq2 => ?_, fun q hq => ?_⟩
  · by_cases hqa : q = ev_z w
    · rw [hqa]; exact he
    · have hlt : q < ev_z w := by
        have : q < ev_z w + 1 := hq2
        omega
      obtain ⟨e1, e2, e3⟩ := ev_add_ne w t n f u hqa
      exact (h3 q hq1 hlt).to e1 e2 e3 (ho q (by rw [h1]; exact hlt))
  · rw [ho q (by rw [h1]; omega)]
    exact h4 q hq
theorem ev_Hr.arr {G : ev_gx} {w : ev_wd} {H : Heap} {a t : Nat} (h : ev_Hr G w H) (ha : ev_b G ≤ a ∧ a < ev_z w) (ht : ev_g w a = 100 + t) : H[a]? = some (arrV ((ev_D G).1 (100 + t)) (ev_n w a) (ev_v w a)) := by
  rcases h.2.2.1 a ha.1 ha.2 with ⟨h1, h2⟩ | ⟨h1, -⟩
  · rw [ht] at h2; exact h2
  · omega
theorem ev_Hr.obj {G : ev_gx} {w : ev_wd} {H : Heap} {a c : Nat} {q : vw_C} (h : ev_Hr G w H) (ha : ev_b G ≤ a ∧ a < ev_z w) (ht : ev_g w a = c) (hc : nm_cl[c]? = some q) : t_OB a ((ev_D G).1 c) q.2.2 ((ev_D G).2 c) H (ev_v w a) := by
  rcases h.2.2.1 a ha.1 ha.2 with ⟨h1, h2⟩ | ⟨h1, q', h2, h3⟩
  · have := nm_lt c q hc
    omega
  · subst ht
    cases h2.symm.trans hc
    exact h3
/-- a class's own words -/
def ev_clok (c : Nat) (q : vw_C) : Prop := (∀ x ∈ u_ws q.1 q.2.1 q.2.2, x ∈ lw_tbl) ∧ (∀ a, a < q.2.2 → ∀ b, b < q.2.2 → a ≠ b → (q.2.1 a).2.1 ≠ (q.2.1 b).2.1) ∧ (∀ k, k < q.2.2 → parseFieldDescriptor (q.2.1 k).2.2.1 = some (nm_ft c k)) ∧ Cond.instantiable q.1 (nm_sl c) ∈ lw_tbl ∧ Cond.initialized q.1 ∈ lw_tbl
/-- the pool's entry 'index' of class 'own' is field k of class c -/
def ev_F (own : String) (index c k : Nat) (fin : Bool) : Prop :=
  ∃ (q : vw_C) (ref : String), nm_cl[c]? = some q ∧ k < q.2.2 ∧ ev_clok c q ∧ Cond.fieldLink own index ref (q.2.1 k).2.1 (q.2.1 k).2.2.1 ∈ lw_tbl ∧ (ref = (q.2.1 k).1 ∨ Cond.sameField ref (q.2.1 k).1 (q.2.1 k).2.1 (q.2.1 k).2.2.1 ∈ lw_tbl) ∧ (q.2.1 k).2.2.2 = fin ∧ (fin = true → (q.2.1 k).1 = own)
def ev_F0 (own : String) (index c k : Nat) : Prop :=
  ∃ (q : vw_C) (ref : String), nm_cl[c]? = some q ∧ k < q.2.2 ∧ ev_clok c q ∧ Cond.fieldLink own index ref (q.2.1 k).2.1 (q.2.1 k).2.2.1 ∈ lw_tbl ∧ (ref = (q.2.1 k).1 ∨ Cond.sameField ref (q.2.1 k).1 (q.2.1 k).2.1 (q.2.1 k).2.2.1 ∈ lw_tbl)
theorem ev_F.r {own : String} {index c k : Nat} {fin : Bool} (h : ev_F own index c k fin) : ev_F0 own index c k := by
  obtain ⟨q, ref, h1, h2, h3, h4, h5, -⟩ := h
  exact ⟨q, ref, h1, h2, h3, h4, h5⟩
theorem ev_lay_good (C : String) (T : u_T) (k : Nat) : goodWord (u_lay C T k) = true := by
  unfold u_lay
  split <;> rfl
section EvH
variable {G : ev_gx} {M : ev_mx} {d pc pc' tgt : Nat} {L : List (Nat × Value)} {st : List Value} {w : ev_wd} {P : ev_r → ev_wd → Prop}
theorem ev_lays {R : Room} {s : State} {m : MethodId} {meth : Method} {c : Code} {w0 : ev_wd} (X : ev_cx G M d R s m meth c w0) {i : Nat} {q : vw_C} (h : ev_clok i q) (a' : Array Value) : ∀ x ∈ u_ws q.1 q.2.1 q.2.2, x.before a' s = true := by
  intro x hx
  obtain ⟨k, -, hk⟩ := List.mem_map.mp hx
  refine ev_word X (h.1 x hx) ?_ a'
  rw [← hk]
  exact ev_lay_good _ _ _
theorem ev_getf {index c k a : Nat} (hd : ev_d M.2.1 pc (.getfield index) 3 pc') (hF : ev_F0 M.1.cls index c k) (ha : ev_b G ≤ a ∧ a < ev_z w) (ht : ev_g w a = c) {v : Value} (hv : ev_v w a k = v) (kk : ev_E G M d pc' L (v :: st) w P) : ev_E G M d pc L (.ref a :: st) w P := by
  obtain ⟨hd, rfl⟩ := hd
  subst hv
  obtain ⟨q, ref, hc, hk, hok, hlk, hs⟩ := hF
  intro R s m args below meth c' w0 H locs ls X O hH hl
  obtain ⟨cell, q1, q2, q3, q4⟩ := hH.obj ha ht hc
  obtain ⟨hS, hfc, kC, hkC, hkind⟩ := (ev_Ks X).1 c q hc
  obtain ⟨cf, kf, fi, f, hi, hsl⟩ := hS k hk
  have hsame : s.fieldFound? ref (q.2.1 k).2.1 (q.2.1 k).2.2.1 = some (cf, kf, fi, f) := by
    rcases hs with h | h
    · rw [h]; exact hi
    · exact u_same (ev_word X h rfl args) _ hi
  refine W.getf X.1 X.2.1 (ev_own X) (ev_word X hlk rfl _) hsame (u_facts hfc hkC (u_lays (ev_lays X hok args) (fun w h => h) hk) hi).1 q1 (by rw [q3]; exact fun h => by cases h) (v := ev_v w a k) ?_ rfl rfl hd (kk R s m args below meth c' w0 H locs ls X O hH hl)
  rw [hsl, q4 k hk]
theorem ev_apart {R : Room} {s : State} {m : MethodId} {meth : Method} {c : Code} {w0 : ev_wd} (X : ev_cx G M d R s m meth c w0) {i : Nat} {q : vw_C} (hc : nm_cl[i]? = some q) (h : ev_clok i q) : ∀ a b, a < q.2.2 → b < q.2.2 → a ≠ b → (ev_D G).2 i a ≠ (ev_D G).2 i b := by
  intro x y hx hy hne
  obtain ⟨hS, -⟩ := (ev_Ks X).1 i q hc
  obtain ⟨_, _, _, fa, hia, ea⟩ := hS x hx
  obtain ⟨_, _, _, fb, hib, eb⟩ := hS y hy
  rw [← ea, ← eb]
  refine u_apart (u_lays (ev_lays X h #[]) (fun w h => h) hx) (u_lays (ev_lays X h #[]) (fun w h => h) hy) hia hib ?_
  rw [(State.fieldFound?_type hia (h.2.2.1 x hx)).1, (State.fieldFound?_type hib (h.2.2.1 y hy)).1]
  exact h.2.1 x hx y hy hne
theorem ev_ok.put {w0 : ev_wd} {locs : List Loc} {a i k : Nat} {x : Value} (O : ev_ok G w0 w locs) (ha : ev_b G ≤ a) : ev_ok G w0 (ev_set w a k x) (locs ++ [⟨a, i⟩]) := by
  refine ⟨fun q hq => ?_, O.2⟩
  rcases List.mem_append.mp hq with h | h
  · exact O.1 q h
  · rw [List.mem_singleton.mp h]
    exact ha
theorem ev_putf {index c k a : Nat} {v : Value} (hd : ev_d M.2.1 pc (.putfield index) 3 pc') (hF : ev_F M.1.cls index c k false) (ha : ev_b G ≤ a ∧ a < ev_z w) (ht : ev_g w a = c) (hn : narrow (nm_ft c k) v = v) (hfit : fits (nm_ft c k) v = true) (kk : ev_E G M d pc' L st (ev_set w a k v) P) : ev_E G M d pc L (v :: .ref a :: st) w P := by
  obtain ⟨hd, rfl⟩ := hd
  obtain ⟨q, ref, hc, hk, hok, hlk, hs, hfin, -⟩ := hF
  intro R s m args below meth c' w0 H locs ls X O hH hl
  have hap := ev_apart X hc hok
  obtain ⟨cell, q1, q2, q3, q4⟩ := hH.obj ha ht hc
  obtain ⟨hS, hfc, kC, hkC, hkind⟩ := (ev_Ks X).1 c q hc
  obtain ⟨cf, kf, fi, f, hi, hsl⟩ := hS k hk
  have hsame : s.fieldFound? ref (q.2.1 k).2.1 (q.2.1 k).2.2.1 = some (cf, kf, fi, f) := by
    rcases hs with h | h
    · rw [h]; exact hi
    · exact u_same (ev_word X h rfl args) _ hi
  have hlay := ev_lays X hok args _ (u_in_lay hk)
  unfold u_lay at hlay
  rw [if_neg (by rw [hfin]; decide)] at hlay
  have hst := (u_facts hfc hkC (u_lays (ev_lays X hok args) (fun w h => h) hk) hi).1
  have h6 := u_store hfc hkC hkind hlay hi (hok.2.2.1 k hk) hn hfit
  refine W.putK X.1 X.2.1 (f := f) ⟨ev_own X, ev_word X hlk rfl _, ⟨_, _, _, hsame⟩, hst⟩ (by rw [q2]; exact h6) q1 q3 (by rw [hsl]; exact k2_hasslot (q4 k hk)) rfl rfl hd fun H' e1 e2 e3 => ?_
  rw [hsl] at e1 ⊢
  refine kk R s m args below meth c' w0 H' _ ls X (O.put ha.1) (hH.put ha.1 e2 e3 (Or.inr ⟨?_, q, ?_, ?_⟩)) hl
  · show ev_g w a < 100
    rw [ht]; exact nm_lt c q hc
  · show nm_cl[ev_g w a]? = some q
    rw [ht]; exact hc
  · rw [ev_set_at]
    show t_OB a ((ev_D G).1 (ev_g w a)) q.2.2 ((ev_D G).2 (ev_g w a)) H' _
    rw [ht]
    exact ⟨_, e1, q2, q3, t_set q4 hap hk v⟩
theorem ev_putF {index c k a : Nat} {v : Value} (hd : ev_d M.2.1 pc (.putfield index) 3 pc') (hF : ev_F M.1.cls index c k true) (hM : M.1.name = "<init>") (ha : ev_b G ≤ a ∧ a < ev_z w) (ht : ev_g w a = c) (hn : narrow (nm_ft c k) v = v) (hfit : fits (nm_ft c k) v = true) (kk : ev_E G M d pc' L st (ev_set w a k v) P) : ev_E G M d pc L (v :: .ref a :: st) w P := by
  obtain ⟨hd, rfl⟩ := hd
  obtain ⟨q, ref, hc, hk, hok, hlk, hs, hfin, hdecl⟩ := hF
  intro R s m args below meth c' w0 H locs ls X O hH hl
  have hap := ev_apart X hc hok
  obtain ⟨cell, q1, q2, q3, q4⟩ := hH.obj ha ht hc
  obtain ⟨hS, hfc, kC, hkC, hkind⟩ := (ev_Ks X).1 c q hc
  obtain ⟨cf, kf, fi, f, hi, hsl⟩ := hS k hk
  have hsame : s.fieldFound? ref (q.2.1 k).2.1 (q.2.1 k).2.2.1 = some (cf, kf, fi, f) := by
    rcases hs with h | h
    · rw [h]; exact hi
    · exact u_same (ev_word X h rfl args) _ hi
  have hlay := ev_lays X hok args _ (u_in_lay hk)
  unfold u_lay at hlay
  rw [if_pos hfin] at hlay
  have hst := (u_facts hfc hkC (u_lays (ev_lays X hok args) (fun w h => h) hk) hi).1
  have hcf : m.cls = cf := by
    obtain ⟨_, _, c', _, _, _, -, -, hf', -, -, -, hown2, -⟩ := Cond.laysFinal_spec hlay
    have e1 : c' = cf := by have := hi.symm.trans hf'; simp at this; exact this.1.symm
    rw [hdecl rfl] at hown2
    rw [← e1]; exact Option.some.inj ((ev_own X).symm.trans hown2)
  have h6 := u_fits hfc hkC hkind (Or.inr hlay) hi (hok.2.2.1 k hk) hn hfit
  refine W.putFinK X.1 X.2.1 (ev_own X) (ev_word X hlk rfl _) hsame hst hcf (X.2.2.2.2.2.2.2.2.2.2.2.2.2.2.1.trans hM) (by rw [q2]; exact h6) q1 q3 (by rw [hsl]; exact k2_hasslot (q4 k hk)) rfl rfl hd fun H' e1 e2 e3 => ?_
  rw [hsl] at e1 ⊢
  refine kk R s m args below meth c' w0 H' _ ls X (O.put ha.1) (hH.put ha.1 e2 e3 (Or.inr ⟨?_, q, ?_, ?_⟩)) hl
  · show ev_g w a < 100
    rw [ht]; exact nm_lt c q hc
  · show nm_cl[ev_g w a]? = some q
    rw [ht]; exact hc
  · rw [ev_set_at]
    show t_OB a ((ev_D G).1 (ev_g w a)) q.2.2 ((ev_D G).2 (ev_g w a)) H' _
    rw [ht]
    exact ⟨_, e1, q2, q3, t_set q4 hap hk v⟩
theorem ev_alen {t a : Nat} {ty : FieldType} (hd : ev_d M.2.1 pc .arraylength 1 pc') (ha : ev_b G ≤ a ∧ a < ev_z w) (ht : ev_g w a = 100 + t) (hty : nm_at[t]? = some ty) {n : Nat} (hn : ev_n w a = n) (kk : ev_E G M d pc' L (.int (Int32.ofNat n) :: st) w P) : ev_E G M d pc L (.ref a :: st) w P := by
  obtain ⟨hd, rfl⟩ := hd
  subst hn
  intro R s m args below meth c' w0 H locs ls X O hH hl
  exact W.alen (n := Int32.ofNat (ev_n w a)) X.1 X.2.1 (hH.arr ha ht) (((ev_Ks X).2 t ty hty).1 (ev_n w a) (ev_v w a)) (by rw [arrV_size] <;> rfl) rfl rfl hd (kk R s m args below meth c' w0 H locs ls X O hH hl)
theorem ev_iald {t a : Nat} {j : Int32} (hd : ev_d M.2.1 pc .iaload 1 pc') (ha : ev_b G ≤ a ∧ a < ev_z w) (ht : ev_g w a = 100 + t) (hty : nm_at[t]? = some .int) (hin : vp_in j (ev_n w a)) {v : Value} (hv : ev_v w a j.toNatClampNeg = v) (kk : ev_E G M d pc' L (v :: st) w P) : ev_E G M d pc L (.int j :: .ref a :: st) w P := by
  obtain ⟨hd, rfl⟩ := hd
  subst hv
  intro R s m args below meth c' w0 H locs ls X O hH hl
  have hlt : j.toNatClampNeg < ev_n w a := Nat.not_le.mp fun q => hin (Or.inr q)
  exact W.iald X.1 X.2.1 (hH.arr ha ht) (((ev_Ks X).2 t _ hty).1 (ev_n w a) (ev_v w a)) (fun q => by cases q) (by rw [arrV_size]; exact hin) (arrV_read _ _ hlt) rfl rfl hd (kk R s m args below meth c' w0 H locs ls X O hH hl)
theorem ev_zald {t a : Nat} {j : Int32} (hd : ev_d M.2.1 pc .baload 1 pc') (ha : ev_b G ≤ a ∧ a < ev_z w) (ht : ev_g w a = 100 + t) (hty : nm_at[t]? = some .boolean) (hin : vp_in j (ev_n w a)) {v : Value} (hv : ev_v w a j.toNatClampNeg = v) (kk : ev_E G M d pc' L (v :: st) w P) : ev_E G M d pc L (.int j :: .ref a :: st) w P := by
  obtain ⟨hd, rfl⟩ := hd
  subst hv
  intro R s m args below meth c' w0 H locs ls X O hH hl
  have hlt : j.toNatClampNeg < ev_n w a := Nat.not_le.mp fun q => hin (Or.inr q)
  exact W.zald X.1 X.2.1 (hH.arr ha ht) (((ev_Ks X).2 t _ hty).1 (ev_n w a) (ev_v w a)) (fun q => by cases q) (by rw [arrV_size]; exact hin) (arrV_read _ _ hlt) rfl rfl hd (kk R s m args below meth c' w0 H locs ls X O hH hl)
theorem ev_lald {t a : Nat} {j : Int32} (hd : ev_d M.2.1 pc .laload 1 pc') (ha : ev_b G ≤ a ∧ a < ev_z w) (ht : ev_g w a = 100 + t) (hty : nm_at[t]? = some .long) (hin : vp_in j (ev_n w a)) {v : Value} (hv : ev_v w a j.toNatClampNeg = v) (kk : ev_E G M d pc' L (v :: st) w P) : ev_E G M d pc L (.int j :: .ref a :: st) w P := by
  obtain ⟨hd, rfl⟩ := hd
  subst hv
  intro R s m args below meth c' w0 H locs ls X O hH hl
  have hlt : j.toNatClampNeg < ev_n w a := Nat.not_le.mp fun q => hin (Or.inr q)
  exact W.lald X.1 X.2.1 (hH.arr ha ht) (((ev_Ks X).2 t _ hty).1 (ev_n w a) (ev_v w a)) (fun q => by cases q) (by rw [arrV_size]; exact hin) (arrV_read _ _ hlt) rfl rfl hd (kk R s m args below meth c' w0 H locs ls X O hH hl)
theorem ev_aald {t a : Nat} {j : Int32} {C : String} (hd : ev_d M.2.1 pc .aaload 1 pc') (ha : ev_b G ≤ a ∧ a < ev_z w) (ht : ev_g w a = 100 + t) (hty : nm_at[t]? = some (.object C)) (hin : vp_in j (ev_n w a)) {v : Value} (hv : ev_v w a j.toNatClampNeg = v) (kk : ev_E G M d pc' L (v :: st) w P) : ev_E G M d pc L (.int j :: .ref a :: st) w P := by
  obtain ⟨hd, rfl⟩ := hd
  subst hv
  intro R s m args below meth c' w0 H locs ls X O hH hl
  have hlt : j.toNatClampNeg < ev_n w a := Nat.not_le.mp fun q => hin (Or.inr q)
  exact W.aald (ty := .object C) X.1 X.2.1 (hH.arr ha ht) (((ev_Ks X).2 t _ hty).1 (ev_n w a) (ev_v w a)) rfl (fun q => by cases q) (by rw [arrV_size]; exact hin) (arrV_read _ _ hlt) rfl rfl hd (kk R s m args below meth c' w0 H locs ls X O hH hl)
/-- an array's cell behind a store -/
theorem ev_Hr.ast {H H' : Heap} {a t k : Nat} {x : Value} (hH : ev_Hr G w H) (ha : ev_b G ≤ a ∧ a < ev_z w) (ht : ev_g w a = 100 + t) (e1 : H'[a]? = some ((arrV ((ev_D G).1 (100 + t)) (ev_n w a) (ev_v w a)).setSlot k x)) (hz : H'.size = H.size) (ho : ∀ q, q ≠ a → H'[q]? = H[q]?) : ev_Hr G (ev_set w a k x) H' := by
  refine hH.put ha.1 hz ho (Or.inl ⟨?_, ?_⟩)
  · show 100 ≤ ev_g w a
    omega
  · rw [ev_set_at]
    show H'[a]? = some (arrV ((ev_D G).1 (ev_g w a)) (ev_n w a) _)
    rw [ht, e1, arrV_store]
theorem ev_iast {t a : Nat} {j x : Int32} (hd : ev_d M.2.1 pc .iastore 1 pc') (ha : ev_b G ≤ a ∧ a < ev_z w) (ht : ev_g w a = 100 + t) (hty : nm_at[t]? = some .int) (hin : vp_in j (ev_n w a)) (kk : ev_E G M d pc' L st (ev_set w a j.toNatClampNeg (.int x)) P) : ev_E G M d pc L (.int x :: .int j :: .ref a :: st) w P := by
  obtain ⟨hd, rfl⟩ := hd
  intro R s m args below meth c' w0 H locs ls X O hH hl
  exact W.iast X.1 X.2.1 (hH.arr ha ht) (((ev_Ks X).2 t _ hty).1 (ev_n w a) (ev_v w a)) (fun q => by cases q) (by rw [arrV_size]; exact hin) rfl rfl hd fun H' e z oq => kk R s m args below meth c' w0 H' _ ls X (O.put ha.1) (hH.ast ha ht e z oq) hl
theorem ev_zast {t a : Nat} {j x : Int32} (hd : ev_d M.2.1 pc .bastore 1 pc') (ha : ev_b G ≤ a ∧ a < ev_z w) (ht : ev_g w a = 100 + t) (hty : nm_at[t]? = some .boolean) (hin : vp_in j (ev_n w a)) (hx : narrow .boolean (.int x) = .int x) (kk : ev_E G M d pc' L st (ev_set w a j.toNatClampNeg (.int x)) P) : ev_E G M d pc L (.int x :: .int j :: .ref a :: st) w P := by
  obtain ⟨hd, rfl⟩ := hd
  intro R s m args below meth c' w0 H locs ls X O hH hl
  refine W.zast X.1 X.2.1 (hH.arr ha ht) (((ev_Ks X).2 t _ hty).1 (ev_n w a) (ev_v w a)) (fun q => by cases q) (by rw [arrV_size]; exact hin) rfl rfl hd fun H' e z oq => kk R s m args below meth c' w0 H' _ ls X (O.put ha.1) (hH.ast ha ht ?_ z oq) hl
  rw [← hx]
  exact e
theorem ev_last {t a : Nat} {j : Int32} {x : Int64} (hd : ev_d M.2.1 pc .lastore 1 pc') (ha : ev_b G ≤ a ∧ a < ev_z w) (ht : ev_g w a = 100 + t) (hty : nm_at[t]? = some .long) (hin : vp_in j (ev_n w a)) (kk : ev_E G M d pc' L st (ev_set w a j.toNatClampNeg (.long x)) P) : ev_E G M d pc L (.long x :: .int j :: .ref a :: st) w P := by
  obtain ⟨hd, rfl⟩ := hd
  intro R s m args below meth c' w0 H locs ls X O hH hl
  exact W.last X.1 X.2.1 (hH.arr ha ht) (((ev_Ks X).2 t _ hty).1 (ev_n w a) (ev_v w a)) (fun q => by cases q) (by rw [arrV_size]; exact hin) rfl rfl hd fun H' e z oq => kk R s m args below meth c' w0 H' _ ls X (O.put ha.1) (hH.ast ha ht e z oq) hl
theorem ev_aast {t a v c : Nat} {j : Int32} {E : String} {q : vw_C} (hd : ev_d M.2.1 pc .aastore 1 pc') (ha : ev_b G ≤ a ∧ a < ev_z w) (ht : ev_g w a = 100 + t) (hty : nm_at[t]? = some (.object E)) (hin : vp_in j (ev_n w a)) (hv : ev_b G ≤ v ∧ v < ev_z w) (hvc : ev_g w v = c) (hc : nm_cl[c]? = some q) (hE : q.1 = E ∨ Cond.castable q.1 E ∈ lw_tbl) (kk : ev_E G M d pc' L st (ev_set w a j.toNatClampNeg (.ref v)) P) : ev_E G M d pc L (.ref v :: .int j :: .ref a :: st) w P := by
  obtain ⟨hd, rfl⟩ := hd
  intro R s m args below meth c' w0 H locs ls X O hH hl
  have hlt : j.toNatClampNeg < ev_n w a := Nat.not_le.mp fun q => hin (Or.inr q)
  have h0 : ¬ j < 0 := fun q => hin (Or.inl q)
  obtain ⟨cellV, g1, g2, g3, -⟩ := hH.obj hv hvc hc
  have hcls := ((ev_Ks X).1 c q hc).2
  obtain ⟨kA, comp, k1, k2, k3, -⟩ := ((ev_Ks X).2 t _ hty).2
  obtain ⟨kE, hkE, -⟩ := Vm.findClass_spec k3
  obtain ⟨kC, hkC, -⟩ := hcls.2
  have hasg : s.vm.assignable ((ev_D G).1 c) comp = true := by
    rcases hE with h | h
    · rw [← h] at k3
      cases k3.symm.trans hcls.1
      exact va_assign hcls
    · obtain ⟨c0, t1, f1, f2, f3⟩ := Cond.castable_spec (va_Nw.use (A := args) rfl (va_Nw.warmC X.2.2.2.1 (va_Nw.of rfl (X.2.2.2.2.1 _ h))))
      cases hcls.1.symm.trans f1
      cases k3.symm.trans f2
      exact f3
  exact W.aast X.1 X.2.1 (hH.arr ha ht) (fun q h => by cases h) (fun h => by cases h) k1 k2 rfl hkE ⟨h0, by rw [arrV_size]; exact hlt⟩ g1 (fun q h => by rw [g3] at h; cases h) (by rw [g2]; exact hkC) (by rw [g2]; exact hasg) rfl rfl hd fun H' e z oq => kk R s m args below meth c' w0 H' _ ls X (O.put ha.1) (hH.ast ha ht e z oq) hl
theorem ev_aastN {t a : Nat} {j : Int32} {E : String} (hd : ev_d M.2.1 pc .aastore 1 pc') (ha : ev_b G ≤ a ∧ a < ev_z w) (ht : ev_g w a = 100 + t) (hty : nm_at[t]? = some (.object E)) (hin : vp_in j (ev_n w a)) (kk : ev_E G M d pc' L st (ev_set w a j.toNatClampNeg .null) P) : ev_E G M d pc L (.null :: .int j :: .ref a :: st) w P := by
  obtain ⟨hd, rfl⟩ := hd
  intro R s m args below meth c' w0 H locs ls X O hH hl
  exact va_WaastN (C := E) X.1 X.2.1 (hH.arr ha ht) (((ev_Ks X).2 t _ hty).1 (ev_n w a) (ev_v w a)) (fun q => by cases q) (by rw [arrV_size]; exact hin) rfl rfl hd fun H' e z oq => kk R s m args below meth c' w0 H' _ ls X (O.put ha.1) (hH.ast ha ht e z oq) hl
theorem ev_ok.new {w0 : ev_wd} {locs : List Loc} {t n u : Nat} {f : Nat → Value} (O : ev_ok G w0 w locs) (hz : ev_z w + 1 ≤ ev_b G + 601024) (hu : ev_u w + u ≤ 7293034) : ev_ok G w0 (ev_add w t n f u) locs := ⟨O.1, Nat.le_succ_of_le O.2.1, Nat.le_trans O.2.2.1 (Nat.le_add_right _ _), hz, hu⟩
theorem ev_new {index c : Nat} {q : vw_C} (hd : ev_d M.2.1 pc (.new index) 3 pc') (hc : nm_cl[c]? = some q) (hok : ev_clok c q) (hlk : Cond.classLink M.1.cls index q.1 ∈ lw_tbl) (hz : ev_z w + 1 ≤ ev_b G + 601024) (hu : ev_u w + nm_sl c ≤ 7293034) (kk : ev_E G M d pc' L (.ref (ev_z w) :: st) (ev_add w c 0 (fun k => defaultValue (nm_ft c k)) (nm_sl c)) P) : ev_E G M d pc L st w P := by
  obtain ⟨hd, rfl⟩ := hd
  intro R s m args below meth c' w0 H locs ls X O hH hl
  have hKn := (ev_Ks X).1 c q hc
  obtain ⟨-, -, -, -, -, -, -, -, -, -, -, -, r1, r2, -⟩ := id X
  obtain ⟨o1, o2, o3, o4, o5⟩ := id O
  have hH1 := hH.1
  refine W.newcK X.1 X.2.1 (ev_own X) (ev_word X hlk rfl _) (ev_word X hok.2.2.2.1 rfl _) (ev_word X hok.2.2.2.2 rfl _) rfl hd (by omega) (by omega) hKn.2.1 hH1 fun H1 kC hkC e1 z1 o1 => ?_
  have hk := kk R s m args below meth c' w0 H1 locs ls X (O.new hz hu) (hH.new (by rw [z1, hH1]) (fun x hx => o1 x (by rw [← hH1]; exact hx)) (Or.inr ?_)) hl
  · have e2 : ev_z (ev_add w c 0 (fun k => defaultValue (nm_ft c k)) (nm_sl c)) - ev_z w0 = ev_z w - ev_z w0 + 1 := by
      show ev_z w + 1 - ev_z w0 = _
      omega
    have e3 : ev_u (ev_add w c 0 (fun k => defaultValue (nm_ft c k)) (nm_sl c)) - ev_u w0 = ev_u w - ev_u w0 + nm_sl c := by
      show ev_u w + nm_sl c - ev_u w0 = _
      omega
    rw [e2, e3] at hk
    exact hk
  · obtain ⟨a1, a2, a3⟩ := ev_add_at w c 0 (fun k => defaultValue (nm_ft c k)) (nm_sl c)
    rw [a1, a3]
    exact ⟨nm_lt c q hc, q, hc, u_born (nm_ft c) (ev_lays X hok args) (fun w h => h) hKn hkC e1 hok.2.2.1⟩
theorem ev_newa {atype : ArrayType} {t : Nat} {n : Int32} (hd : ev_d M.2.1 pc (.newarray atype) 2 pc') (hty : nm_at[t]? = some (newarray.typeOf atype)) (hw : Cond.arrayClass (newarray.typeOf atype) ∈ lw_tbl) (hn : ¬ n < 0) (hbytes : n.toNatClampNeg * componentBytes (newarray.typeOf atype) ≤ 536870912) (hz : ev_z w + 1 ≤ ev_b G + 601024) (hu : ev_u w + n.toNatClampNeg ≤ 7293034) (kk : ev_E G M d pc' L (.ref (ev_z w) :: st) (ev_add w (100 + t) n.toNatClampNeg (fun _ => defaultValue (newarray.typeOf atype)) n.toNatClampNeg) P) : ev_E G M d pc L (.int n :: st) w P := by
  obtain ⟨hd, rfl⟩ := hd
  intro R s m args below meth c' w0 H locs ls X O hH hl
  obtain ⟨-, -, -, -, -, -, -, -, -, -, -, -, r1, r2, -⟩ := id X
  obtain ⟨o1, o2, o3, o4, o5⟩ := id O
  have hH1 := hH.1
  refine va_newaK X.1 X.2.1 (ev_word X hw rfl _) rfl hd rfl hn rfl hbytes (by omega) (by omega) hH1 fun H1 cA e1 z1 o1 hAr hNm => ?_
  have hcA : cA = (ev_D G).1 (100 + t) := by
    have h := ((ev_Ks X).2 t _ hty).2
    have h2 : s.vm.findClass ("[" ++ (newarray.typeOf atype).toString) = some ((ev_D G).1 (100 + t)) := by
      cases atype <;> exact h
    exact Option.some.inj (hNm.symm.trans h2)
  have hk := kk R s m args below meth c' w0 H1 locs ls X (O.new hz hu) (hH.new (by rw [z1, hH1]) (fun x hx => o1 x (by rw [← hH1]; exact hx)) (Or.inl ?_)) hl
  · have e2 : ev_z (ev_add w (100 + t) n.toNatClampNeg (fun _ => defaultValue (newarray.typeOf atype)) n.toNatClampNeg) - ev_z w0 = ev_z w - ev_z w0 + 1 := by
      show ev_z w + 1 - ev_z w0 = _
      omega
    have e3 : ev_u (ev_add w (100 + t) n.toNatClampNeg (fun _ => defaultValue (newarray.typeOf atype)) n.toNatClampNeg) - ev_u w0 = ev_u w - ev_u w0 + n.toNatClampNeg := by
      show ev_u w + n.toNatClampNeg - ev_u w0 = _
      omega
    rw [e2, e3] at hk
    exact hk
  · obtain ⟨a1, a2, a3⟩ := ev_add_at w (100 + t) n.toNatClampNeg (fun _ => defaultValue (newarray.typeOf atype)) n.toNatClampNeg
    rw [a1, a2, a3]
    exact ⟨by omega, by rw [← hcA]; exact e1⟩
theorem ev_anew {index t : Nat} {C : String} {n : Int32} (hd : ev_d M.2.1 pc (.anewarray index) 3 pc') (hty : nm_at[t]? = some (.object C)) (hlk : Cond.classLink M.1.cls index C ∈ lw_tbl) (hw : Cond.arrayOver (.object C) ∈ lw_tbl) (hn : ¬ n < 0) (hbytes : n.toNatClampNeg * 4 ≤ 536870912) (hz : ev_z w + 1 ≤ ev_b G + 601024) (hu : ev_u w + n.toNatClampNeg ≤ 7293034) (kk : ev_E G M d pc' L (.ref (ev_z w) :: st) (ev_add w (100 + t) n.toNatClampNeg (fun _ => .null) n.toNatClampNeg) P) : ev_E G M d pc L (.int n :: st) w P := by
  obtain ⟨hd, rfl⟩ := hd
  intro R s m args below meth c' w0 H locs ls X O hH hl
  obtain ⟨-, -, -, -, -, -, -, -, -, -, -, -, r1, r2, -⟩ := id X
  obtain ⟨o1, o2, o3, o4, o5⟩ := id O
  have hH1 := hH.1
  have hover : (Cond.arrayOver (.object C)).before args s = true := va_AO.use (va_AO.moved X.2.2.2.1.alike (va_AO.of (X.2.2.2.2.1 _ hw)))
  refine W.anew X.1 X.2.1 (ev_own X) (ev_word X hlk rfl _) hover rfl hd rfl hn hbytes (by omega) (by omega) fun cA kA comp f1 f2 f3 f4 => ?_
  generalize hHH : H.push ({ cls := cA, slots := Array.replicate n.toNatClampNeg .null, vm := .none } : Cell) = H1
  have z1 : H1.size = H.size + 1 := by rw [← hHH, Array.size_push]
  have e1 : H1[H.size]? = some (arrV cA n.toNatClampNeg (fun _ => .null)) := by rw [← hHH, Array.getElem?_push_size, ← arrV_new]
  have o1 : ∀ q : Nat, q < H.size → H1[q]? = H[q]? := fun q hq => by rw [← hHH, Array.getElem?_push, if_neg (Nat.ne_of_lt hq)]
  have hcA : cA = (ev_D G).1 (100 + t) := by
    obtain ⟨-, -, -, -, -, h4⟩ := ((ev_Ks X).2 t _ hty).2
    exact Option.some.inj (f1.symm.trans h4)
  have hk := kk R s m args below meth c' w0 H1 locs ls X (O.new hz hu) (hH.new z1 o1 (Or.inl ?_)) hl
  · have e2 : ev_z (ev_add w (100 + t) n.toNatClampNeg (fun _ => .null) n.toNatClampNeg) - ev_z w0 = ev_z w - ev_z w0 + 1 := by
      show ev_z w + 1 - ev_z w0 = _
      omega
    have e3 : ev_u (ev_add w (100 + t) n.toNatClampNeg (fun _ => .null) n.toNatClampNeg) - ev_u w0 = ev_u w - ev_u w0 + n.toNatClampNeg := by
      show ev_u w + n.toNatClampNeg - ev_u w0 = _
      omega
    rw [e2, e3] at hk
    rw [hH1]
    exact hk
  · obtain ⟨a1, a2, a3⟩ := ev_add_at w (100 + t) n.toNatClampNeg (fun _ => .null) n.toNatClampNeg
    rw [a1, a2, a3]
    exact ⟨by omega, by rw [← hcA, ← hH1]; exact e1⟩
/-- checkcast of an object to its own class -/
theorem ev_cast {index c a : Nat} {q : vw_C} (hd : ev_d M.2.1 pc (.checkcast index) 3 pc') (hlk : Cond.classLink M.1.cls index q.1 ∈ lw_tbl) (ha : ev_b G ≤ a ∧ a < ev_z w) (ht : ev_g w a = c) (hc : nm_cl[c]? = some q) (kk : ev_E G M d pc' L (.ref a :: st) w P) : ev_E G M d pc L (.ref a :: st) w P := by
  obtain ⟨hd, rfl⟩ := hd
  intro R s m args below meth c' w0 H locs ls X O hH hl
  obtain ⟨cellV, g1, g2, g3, -⟩ := hH.obj ha ht hc
  have hcls := ((ev_Ks X).1 c q hc).2
  exact va_castS X.1 X.2.1 (ev_own X) (ev_word X hlk rfl _) hcls ⟨cellV, g1, by rw [g3]; rfl, by rw [g2]; exact hcls.1⟩ hd (kk R s m args below meth c' w0 H locs ls X O hH hl)
/-- checkcast of an array to its own class -/
theorem ev_castA {index t a : Nat} {C : String} (hd : ev_d M.2.1 pc (.checkcast index) 3 pc') (hlk : Cond.classLink M.1.cls index ("[" ++ (FieldType.object C).toString) ∈ lw_tbl) (ha : ev_b G ≤ a ∧ a < ev_z w) (ht : ev_g w a = 100 + t) (hty : nm_at[t]? = some (.object C)) (kk : ev_E G M d pc' L (.ref a :: st) w P) : ev_E G M d pc L (.ref a :: st) w P := by
  obtain ⟨hd, rfl⟩ := hd
  intro R s m args below meth c' w0 H locs ls X O hH hl T hT S
  obtain ⟨-, -, -, -, -, h4⟩ := ((ev_Ks X).2 t _ hty).2
  obtain ⟨vm', X', stp⟩ := S.checkcastYes X.1 (ev_own X) (ev_word X hlk rfl _) (by rw [hT]; exact hH.arr ha ht) rfl h4 (va_asg _ _) (g := F0 m pc ls (.ref a :: st)) rfl rfl (by rw [X.2.1]; exact hd)
  obtain ⟨t2, a1, b1⟩ := kk R s m args below meth c' w0 H locs ls X O hH hl (T.setVm vm') hT X'
  exact ⟨t2, stp t2 a1, b1⟩
/-- two references are compared -/
theorem ev_acmpR_ne {x y : Nat} (hd : ev_j M.2.1 pc (fun o => .if_acmp .ne o) pc' tgt) (kt : ¬ x = y → ev_E G M d tgt L st w P) (kf : x = y → ev_E G M d pc' L st w P) : ev_E G M d pc L (.ref y :: .ref x :: st) w P :=
  ev_acmp_ne (rx := some x) (ry := some y) hd (fun h => kt fun e => h (by rw [e])) (fun h => kf (Option.some.inj h))
theorem ev_acmpR_eq {x y : Nat} (hd : ev_j M.2.1 pc (fun o => .if_acmp .eq o) pc' tgt) (kt : x = y → ev_E G M d tgt L st w P) (kf : ¬ x = y → ev_E G M d pc' L st w P) : ev_E G M d pc L (.ref y :: .ref x :: st) w P :=
  ev_acmp_eq (rx := some x) (ry := some y) hd (fun h => kt (Option.some.inj h)) (fun h => kf fun e => h (by rw [e]))
end EvH
