/-! the judgement: a world is a function of addresses (tag, length, contents), the heap's size and the slots made -/
abbrev ev_wd : Type := (Nat → Nat) × (Nat → Nat) × (Nat → Nat → Value) × Nat × Nat
abbrev ev_g (w : ev_wd) : Nat → Nat := w.1
abbrev ev_n (w : ev_wd) : Nat → Nat := w.2.1
abbrev ev_v (w : ev_wd) : Nat → Nat → Value := w.2.2.1
abbrev ev_z (w : ev_wd) : Nat := w.2.2.2.1
abbrev ev_u (w : ev_wd) : Nat := w.2.2.2.2
def ev_set (w : ev_wd) (a k : Nat) (x : Value) : ev_wd := (w.1, w.2.1, (fun q j => if q = a ∧ j = k then x else w.2.2.1 q j), w.2.2.2.1, w.2.2.2.2)
def ev_add (w : ev_wd) (t n : Nat) (f : Nat → Value) (u : Nat) : ev_wd :=
  ((fun q => if q = w.2.2.2.1 then t else w.1 q), (fun q => if q = w.2.2.2.1 then n else w.2.1 q), (fun q j => if q = w.2.2.2.1 then f j else w.2.2.1 q j), w.2.2.2.1 + 1, w.2.2.2.2 + u)
/-- program, launch, setting, the law's first state and arguments, the heap's first size, classes and slots -/
abbrev ev_gx : Type := Program × Launch × Env × State × Array Value × Nat × va_G
abbrev ev_s0 (G : ev_gx) : State := G.2.2.2.1
abbrev ev_b (G : ev_gx) : Nat := G.2.2.2.2.2.1
abbrev ev_D (G : ev_gx) : va_G := G.2.2.2.2.2.2
/-- name, bytes, places for locals, what it returns, its handlers -/
abbrev ev_mx : Type := MethodName × ByteArray × Nat × Option FieldType × List (Nat × Nat × Nat × Nat)
def ev_K (D : va_G) (s : State) : Prop := (∀ (c : Nat) (q : vw_C), nm_cl[c]? = some q → u_Kn s q.1 q.2.1 q.2.2 (D.1 c) (D.2 c)) ∧ ∀ (t : Nat) (ty : FieldType), nm_at[t]? = some ty → ArrOfT s (D.1 (100 + t)) ty ∧ va_RA s (D.1 (100 + t)) ty
theorem ev_K.moved {D : va_G} {u U : State} (hvm : u.vm.Alike U.vm) (h : ev_K D u) : ev_K D U := ⟨fun c q hq => u_Kn_moved hvm (h.1 c q hq), fun t ty ht => ⟨arrOfT_moved hvm (h.2 t ty ht).1, (h.2 t ty ht).2.moved hvm⟩⟩
def ev_at (D : va_G) (w : ev_wd) (H : Heap) (a : Nat) : Prop :=
  (100 ≤ ev_g w a ∧ H[a]? = some (arrV (D.1 (ev_g w a)) (ev_n w a) (ev_v w a))) ∨ (ev_g w a < 100 ∧ ∃ q : vw_C, nm_cl[ev_g w a]? = some q ∧ t_OB a (D.1 (ev_g w a)) q.2.2 (D.2 (ev_g w a)) H (ev_v w a))
def ev_Hr (G : ev_gx) (w : ev_wd) (H : Heap) : Prop :=
  H.size = ev_z w ∧ ev_b G ≤ ev_z w ∧ (∀ a : Nat, ev_b G ≤ a → a < ev_z w → ev_at (ev_D G) w H a) ∧ ∀ q : Nat, q < ev_b G → H[q]? = (ev_s0 G).heap[q]?
def ev_cx (G : ev_gx) (M : ev_mx) (d : Nat) (R : Room) (s : State) (m : MethodId) (meth : Method) (c : Code) (w0 : ev_wd) : Prop :=
  G.1.tables.exec = Jvm.exec ∧ c.code = M.2.1 ∧ s.methodNamed? M.1 = some m ∧ (ev_s0 G).WarmedH s.vm ∧ (∀ x ∈ lw_tbl, x.before G.2.2.2.2.1 (ev_s0 G) = true) ∧ ev_K (ev_D G) (ev_s0 G) ∧
  c.maxLocals = M.2.2.1 ∧ meth.sig.returnType = M.2.2.2.1 ∧ meth.locks = false ∧ c.exceptionTable.toList.map (fun h => (h.startPc, h.endPc, h.handlerPc, h.catchType)) = M.2.2.2.2 ∧
  d ≤ R.frames ∧ 39 * d ≤ R.locals ∧ ev_b G + 601024 ≤ R.cells + ev_z w0 ∧ 7293034 ≤ R.slots + ev_u w0 ∧ meth.name = M.1.name ∧ ∀ q : Nat, q < ev_b G → s.heap[q]? = (ev_s0 G).heap[q]?
def ev_ok (G : ev_gx) (w0 w : ev_wd) (locs : List Loc) : Prop := (∀ q ∈ locs, ev_b G ≤ q.base) ∧ ev_z w0 ≤ ev_z w ∧ ev_u w0 ≤ ev_u w ∧ ev_z w ≤ ev_b G + 601024 ∧ ev_u w ≤ 7293034
/-- what comes: a value, nothing, or what was thrown -/
abbrev ev_r : Type := Option Value ⊕ Nat
def ev_oc (r : ev_r) : Outcome := match r with
  | .inl v => .returned v
  | .inr a => .threw a
def ev_Q (G : ev_gx) (s : State) (below : List Frame) (w0 : ev_wd) (P : ev_r → ev_wd → Prop) : State → Prop := fun t =>
  ∃ (r : ev_r) (w1 : ev_wd) (L : List Loc), P r w1 ∧ t.status = .running ∧ Ended t below (ev_oc r) ∧ ev_Hr G w1 t.heap ∧ s.WarmedH t.vm ∧ s.sameButNew ({ t with vm := s.vm } : State) L (ev_z w1 - ev_z w0) (ev_u w1 - ev_u w0) ∧ ev_ok G w0 w1 L
def ev_E (G : ev_gx) (M : ev_mx) (d pc : Nat) (L : List (Nat × Value)) (st : List Value) (w : ev_wd) (P : ev_r → ev_wd → Prop) : Prop :=
  ∀ (R : Room) (s : State) (m : MethodId) (args : Array Value) (below : List Frame) (meth : Method) (c : Code) (w0 : ev_wd) (H : Heap) (locs : List Loc) (ls : Array Slot),
    ev_cx G M d R s m meth c w0 → ev_ok G w0 w locs → ev_Hr G w H → lv_has ls M.2.2.1 L →
    W G.1 G.2.1 G.2.2.1 R s m args below meth c H locs (ev_z w - ev_z w0) (ev_u w - ev_u w0) (ev_Q G s below w0 P) (F0 m pc ls st)
/-- 'a' is being thrown at pc -/
def ev_T (G : ev_gx) (M : ev_mx) (d pc : Nat) (L : List (Nat × Value)) (a : Nat) (w : ev_wd) (P : ev_r → ev_wd → Prop) : Prop :=
  ∀ (R : Room) (s : State) (m : MethodId) (args : Array Value) (below : List Frame) (meth : Method) (c : Code) (w0 : ev_wd) (T : State) (locs : List Loc) (ls : Array Slot) (st : List Value),
    ev_cx G M d R s m meth c w0 → ev_ok G w0 w locs → ev_Hr G w T.heap → lv_has ls M.2.2.1 L → Stand G.1 G.2.1 G.2.2.1 R s m args below meth c T locs (ev_z w - ev_z w0) (ev_u w - ev_u w0) →
    ∃ t, Steps G.1.tables G.2.2.1 below ((T.setTop (F0 m pc ls st)).pushFrame (.throwing a)) t ∧ ev_Q G s below w0 P t
section EvA
variable {G : ev_gx} {M : ev_mx} {d pc : Nat} {L : List (Nat × Value)} {st : List Value} {w : ev_wd} {P : ev_r → ev_wd → Prop}
theorem ev_word {R : Room} {s : State} {m : MethodId} {meth : Method} {c : Code} {w0 : ev_wd} (X : ev_cx G M d R s m meth c w0) {x : Cond} (hx : x ∈ lw_tbl) (hg : goodWord x = true) (a' : Array Value) : x.before a' s = true :=
  word_at X.2.2.2.1 (good_of_word hg) (X.2.2.2.2.1 x hx)
theorem ev_own {R : Room} {s : State} {m : MethodId} {meth : Method} {c : Code} {w0 : ev_wd} (X : ev_cx G M d R s m meth c w0) : s.vm.findClass M.1.cls = some m.cls := findClass_of_methodNamed X.2.2.1
theorem ev_Ks {R : Room} {s : State} {m : MethodId} {meth : Method} {c : Code} {w0 : ev_wd} (X : ev_cx G M d R s m meth c w0) : ev_K (ev_D G) s := X.2.2.2.2.2.1.moved X.2.2.2.1.alike
/-- a stronger end is enough -/
theorem ev_mono {P' : ev_r → ev_wd → Prop} (h : ∀ r w', P' r w' → P r w') (k : ev_E G M d pc L st w P') : ev_E G M d pc L st w P := by
  intro R s m args below meth c w0 H locs ls X O hH hl T hT S
  obtain ⟨t, a, r, w1, L1, b1, b2⟩ := k R s m args below meth c w0 H locs ls X O hH hl T hT S
  exact ⟨t, a, r, w1, L1, h _ _ b1, b2⟩
/-- fewer locals, or in another order -/
theorem ev_loc (L' : List (Nat × Value)) (h : ∀ q ∈ L', q ∈ L) (k : ev_E G M d pc L' st w P) : ev_E G M d pc L st w P := by
  intro R s m args below meth c w0 H locs ls X O hH hl
  exact k R s m args below meth c w0 H locs ls X O hH ⟨hl.1, hl.2.1, fun q hq => hl.2.2 q (h q hq)⟩
theorem ev_mem {i : Nat} {x : Value} (h : L.lookup i = some x) : (i, x) ∈ L := by
  induction L with
  | nil => cases h
  | cons q t ih =>
    obtain ⟨j, y⟩ := q
    unfold List.lookup at h
    cases hij : (i == j) with
    | true =>
      rw [hij] at h
      cases h
      rw [beq_iff_eq.mp hij]
      exact List.mem_cons_self
    | false =>
      rw [hij] at h
      exact List.mem_cons_of_mem _ (ih h)
theorem ev_look {ls : Array Slot} {n : Nat} {i : Nat} {x : Value} (hl : lv_has ls n L) (h : L.lookup i = some x) : ls[i]? = some (.val x) := hl.2.2 (i, x) (ev_mem h)
end EvA
