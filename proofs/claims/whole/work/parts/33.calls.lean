/-! rows that end a method, call one, throw, catch -/
theorem ev_weaken {tb : Tables} {e : Env} {mid below : List Frame} {a b : State} (h : Steps tb e (mid ++ below) a b) : Steps tb e below a b := by
  obtain ⟨n, hn, hw⟩ := h
  exact ⟨n, hn, fun k hk => (hw k hk).weaken⟩
section EvC
variable {G : ev_gx} {M : ev_mx} {d pc pc' tgt : Nat} {L : List (Nat × Value)} {st : List Value} {w : ev_wd} {P : ev_r → ev_wd → Prop}
theorem ev_iret {v : Int32} {ty : FieldType} (hd : ev_d M.2.1 pc .ireturn 1 pc') (hr : M.2.2.2.1 = some ty) (hn : narrow ty (.int v) = .int v) (h : P (.inl (some (.int v))) w) : ev_E G M d pc L [.int v] w P := by
  obtain ⟨hdg, -⟩ := hd
  intro R s m args below meth c w0 H locs ls X O hH hl T hT S
  obtain ⟨hexec, hb, -, -, -, -, -, hret0, hlocks, -⟩ := id X
  have hr' : meth.sig.returnType = some ty := hret0.trans hr
  obtain ⟨fs, hret, hrun, hended, hW, hframe⟩ := S.leave (v := some (.int v)) (fun h => by rw [hr'] at h; cases h)
  have hmeth' : T.vm.method? m = some meth := S.method'
  refine ⟨T.setFrames fs, ?_, .inl (some (.int v)), w, locs, h, hrun, hended, ?_, hW, hframe, O⟩
  · jvm_step S.here [S.here.top, hexec, hb, hdg, hmeth', hr', hn]
    (try refine ⟨rfl, ?_⟩); (try refine ⟨rfl, ?_⟩)
    first | (intro acts; rw [hret _ acts rfl rfl rfl]) | rw [hret _ _ rfl rfl rfl]
    exact Steps.refl _
  · show ev_Hr G w T.heap
    rw [hT]; exact hH
theorem ev_lret {v : Int64} (hd : ev_d M.2.1 pc .lreturn 1 pc') (hr : M.2.2.2.1 = some .long) (h : P (.inl (some (.long v))) w) : ev_E G M d pc L [.long v] w P := by
  obtain ⟨hdg, -⟩ := hd
  intro R s m args below meth c w0 H locs ls X O hH hl T hT S
  obtain ⟨hexec, hb, -, -, -, -, -, hret0, hlocks, -⟩ := id X
  have hr' : meth.sig.returnType = some .long := hret0.trans hr
  obtain ⟨fs, hret, hrun, hended, hW, hframe⟩ := S.leave (v := some (.long v)) (fun h => by rw [hr'] at h; cases h)
  have hmeth' : T.vm.method? m = some meth := S.method'
  refine ⟨T.setFrames fs, ?_, .inl (some (.long v)), w, locs, h, hrun, hended, ?_, hW, hframe, O⟩
  · jvm_step S.here [S.here.top, hexec, hb, hdg, hmeth', hr', narrow]
    (try refine ⟨rfl, ?_⟩); (try refine ⟨rfl, ?_⟩)
    first | (intro acts; rw [hret _ acts rfl rfl rfl]) | rw [hret _ _ rfl rfl rfl]
    exact Steps.refl _
  · show ev_Hr G w T.heap
    rw [hT]; exact hH
theorem ev_vret (hd : ev_d M.2.1 pc .return_ 1 pc') (hr : M.2.2.2.1 = none) (h : P (.inl none) w) : ev_E G M d pc L [] w P := by
  obtain ⟨hdg, -⟩ := hd
  intro R s m args below meth c w0 H locs ls X O hH hl T hT S
  obtain ⟨hexec, hb, -, -, -, -, -, hret0, hlocks, -⟩ := id X
  have hr' : meth.sig.returnType = none := hret0.trans hr
  obtain ⟨fs, hret, hrun, hended, hW, hframe⟩ := S.leave (v := none) (fun _ => rfl)
  have hmeth' : T.vm.method? m = some meth := S.method'
  refine ⟨T.setFrames fs, ?_, .inl none, w, locs, h, hrun, hended, ?_, hW, hframe, O⟩
  · jvm_step S.here [S.here.top, hexec, hb, hdg, hmeth', hr']
    (try refine ⟨rfl, ?_⟩); (try refine ⟨rfl, ?_⟩)
    first | (intro acts; rw [hret _ acts rfl rfl rfl]) | rw [hret _ _ rfl rfl rfl]
    exact Steps.refl _
  · show ev_Hr G w T.heap
    rw [hT]; exact hH
theorem ev_aret {v : Value} {rt : FieldType} (hd : ev_d M.2.1 pc .areturn 1 pc') (hr : M.2.2.2.1 = some rt) (hrt : (∃ n, rt = .object n) ∨ ∃ t, rt = .array t) (hv : v = .null ∨ ∃ a, v = .ref a) (h : P (.inl (some v)) w) : ev_E G M d pc L [v] w P := by
  obtain ⟨hdg, -⟩ := hd
  intro R s m args below meth c w0 H locs ls X O hH hl T hT S
  obtain ⟨hexec, hb, -, -, -, -, -, hret0, hlocks, -⟩ := id X
  have hr' : meth.sig.returnType = some rt := hret0.trans hr
  obtain ⟨fs, hret, hrun, hended, hW, hframe⟩ := S.leave (v := some v) (fun h => by rw [hr'] at h; cases h)
  have hmeth' : T.vm.method? m = some meth := S.method'
  refine ⟨T.setFrames fs, ?_, .inl (some v), w, locs, h, hrun, hended, ?_, hW, hframe, O⟩
  · rcases hrt with ⟨n, rfl⟩ | ⟨t, rfl⟩ <;> rcases hv with rfl | ⟨a, rfl⟩ <;>
      (jvm_step S.here [S.here.top, hexec, hb, hdg, hmeth', hr']
       (try refine ⟨rfl, ?_⟩); (try refine ⟨rfl, ?_⟩)
       first | (intro acts; rw [hret _ acts rfl rfl rfl]) | rw [hret _ _ rfl rfl rfl]
       exact Steps.refl _)
  · show ev_Hr G w T.heap
    rw [hT]; exact hH
/-- the word that says a method's code -/
def ev_code (M : ev_mx) : Cond := match M.2.2.2.2 with
  | [] => .code M.1 M.2.1 M.2.2.1 M.2.2.2.1
  | h :: t => .codeWith M.1 M.2.1 M.2.2.1 M.2.2.2.1 (h :: t)
theorem ev_code_spec {M : ev_mx} {a : Array Value} {s : State} (h : (ev_code M).before a s = true) : ∃ m meth c, s.methodNamed? M.1 = some m ∧ s.vm.method? m = some meth ∧ meth.code = some c ∧ c.code = M.2.1 ∧ c.maxLocals = M.2.2.1 ∧
    c.exceptionTable.toList.map (fun h => (h.startPc, h.endPc, h.handlerPc, h.catchType)) = M.2.2.2.2 ∧ meth.sig.returnType = M.2.2.2.1 ∧ meth.locks = false ∧ parseMethodDescriptor M.1.desc = some meth.sig := by
  obtain ⟨y, cc, ml, rt, hs⟩ := M
  cases hs with
  | nil =>
    obtain ⟨m, hm⟩ := Cond.code_named h
    obtain ⟨meth, c, h1, h2, h3, h4, h5, h6, h7, h8⟩ := Cond.code_spec hm h
    refine ⟨m, meth, c, hm, h1, h2, h3, h4, ?_, h5, h6, h8⟩
    have h9 : c.exceptionTable = #[] := by simpa using h7
    rw [h9]; rfl
  | cons q t => exact Cond.codeWith_spec h
theorem ev_code_good (M : ev_mx) : goodWord (ev_code M) = true := by
  obtain ⟨y, cc, ml, rt, hs⟩ := M
  cases hs <;> rfl
theorem ev_nest {R : Room} {s : State} {m : MethodId} {meth : Method} {c : Code} {w0 : ev_wd} (X : ev_cx G M d R s m meth c w0) {own host : String} {index : Nat} {y : MethodName} (h : Cond.methodLinkNest own index y host ∈ lw_tbl) (a' : Array Value) : (Cond.methodLinkNest own index y host).before a' s = true :=
  va_Nw.use rfl (va_Nw.warmM X.2.2.2.1 (va_Nw.of rfl (X.2.2.2.2.1 _ h)))
/-- into a method and out of it again -/
theorem ev_through {R : Room} {s : State} {m : MethodId} {args : Array Value} {below : List Frame} {meth : Method} {c : Code} {w0 : ev_wd} {T : State} {locs : List Loc} {ls : Array Slot}
    (X : ev_cx G M (d + 1) R s m meth c w0) (O : ev_ok G w0 w locs) (hH : ev_Hr G w T.heap) (hl : lv_has ls M.2.2.1 L) (S : Stand G.1 G.2.1 G.2.2.1 R s m args below meth c T locs (ev_z w - ev_z w0) (ev_u w - ev_u w0))
    {M' : ev_mx} (hcode : ev_code M' ∈ lw_tbl) (hplain : plainFor M'.1 = true) {mk : MethodId} (hnamed : s.methodNamed? M'.1 = some mk) {ig : Instr} (hdg : decode M.2.1 pc = .ok (ig, 3)) (As : List Value)
    (hst : (st.map fun v => v.category).sum + M'.2.2.1 ≤ 28) (hlen : (lg_sl As).length ≤ M'.2.2.1) {P' : ev_r → ev_wd → Prop} (hc : ev_E G M' d 0 (lv_args 0 As) [] w P')
    (kn : ∀ v w', P' (.inl v) w' → ev_z w ≤ ev_z w' → ev_u w ≤ ev_u w' → ev_E G M (d + 1) (pc + 3) L (v.toList ++ st) w' P)
    (kt : ∀ x w', P' (.inr x) w' → ev_z w ≤ ev_z w' → ev_u w ≤ ev_u w' → ev_T G M (d + 1) pc L x w' P) :
    ∃ t, (∀ acts, Steps G.1.tables G.2.2.1 below (doInvoke G.2.2.1 (T.setTop (F0 m pc ls st)) acts mk As.toArray).1 t) ∧ ev_Q G s below w0 P t := by
  obtain ⟨x1, x2, x3, x4, x5, x6, x7, x8, x9, x10, x11, x12, x13, x14, x15⟩ := id X
  obtain ⟨o1, o2, o3, o4, o5⟩ := id O
  obtain ⟨mk', methk, ck, n1, n2, n3, n4, n5, n6, n7, n8, n9⟩ := ev_code_spec (ev_word X hcode (ev_code_good M') args)
  cases hnamed.symm.trans n1
  have hmT : T.vm.method? mk = some methk := by rw [S.warmed.alike.method?]; exact n2
  have hnT : T.methodNamed? M'.1 = some mk := S.named hnamed
  have hpk : T.plainMethod mk := State.plainMethod.of_named hplain hnT hmT
  have hdg' : decode c.code (F0 m pc ls st).pc = .ok (ig, 3) := by rw [x2]; exact hdg
  have hmr : (F0 m pc ls st).monitorRoom = 0 := rfl
  have hR : (39 : Nat) * (d + 1) = 39 * d + 39 := by omega
  obtain ⟨Y, hdo⟩ := S.into (g := F0 m pc ls st) rfl (hl.1.trans x7.symm) hdg' As.toArray (R' := { frames := d, locals := 39 * d, cells := ev_b G + 601024 - ev_z w, slots := 7293034 - ev_u w }) hmT n3 n8 hpk
    (by show d + 1 ≤ R.frames; exact x11)
    (by rw [hmr, n5]; show 2 * 0 + (st.map fun v => v.category).sum + (M'.2.2.1 + 11) + 39 * d ≤ R.locals; omega)
    (by show _ + (ev_b G + 601024 - ev_z w) ≤ R.cells; omega) (by show _ + (7293034 - ev_u w) ≤ R.slots; omega)
  have hW1 : (ev_s0 G).WarmedH (T.calling (F0 m pc ls st) mk As.toArray).vm := State.WarmedH.trans x4 S.warmed
  have cx' : ev_cx G M' d { frames := d, locals := 39 * d, cells := ev_b G + 601024 - ev_z w, slots := 7293034 - ev_u w } (T.calling (F0 m pc ls st) mk As.toArray) mk methk ck w :=
    ⟨x1, n4, hnT, hW1, x5, x6, n5, n7, n8, n6, Nat.le_refl _, Nat.le_refl _, by show _ ≤ (ev_b G + 601024 - ev_z w) + ev_z w; omega, by show _ ≤ (7293034 - ev_u w) + ev_u w; omega, (name_of_methodNamed hnamed n2).1, hH.2.2.2⟩
  obtain ⟨t, h1, r, w1, L1, h2, h3, h4, h5, h6, h7, h8⟩ := hc _ _ mk As.toArray (.java (F0 m pc ls st) :: below) methk ck w T.heap [] _ cx' ⟨fun q hq => (by cases hq), Nat.le_refl _, Nat.le_refl _, o4, o5⟩ hH (lv_entry As hlen) ((T.setTop (F0 m pc ls st)).pushFrame (.java (entryFrame mk As.toArray ck.maxLocals))) rfl (by rw [Nat.sub_self, Nat.sub_self]; exact Y)
  obtain ⟨p1, p2, p3, p4, p5⟩ := id h8
  have h1' : ∀ acts, Steps G.1.tables G.2.2.1 below (doInvoke G.2.2.1 (T.setTop (F0 m pc ls st)) acts mk As.toArray).1 t := by
    intro acts
    rw [hdo acts, n5, lg_entry_eq]
    rw [n5, lg_entry_eq] at h1
    exact ev_weaken (mid := [.java (F0 m pc ls st)]) h1
  have ok1 : ev_ok G w0 w1 (locs ++ L1) := ⟨fun q hq => by
    rcases List.mem_append.mp hq with h | h
    · exact o1 q h
    · exact p1 q h, Nat.le_trans o2 p2, Nat.le_trans o3 p3, p4, p5⟩
  have ec : ev_z w - ev_z w0 + (ev_z w1 - ev_z w) = ev_z w1 - ev_z w0 := by omega
  have es : ev_u w - ev_u w0 + (ev_u w1 - ev_u w) = ev_u w1 - ev_u w0 := by omega
  cases r with
  | inl v =>
    obtain ⟨T', X', hW', -, ht⟩ := S.outOf (g := F0 m pc ls st) rfl hdg' h4 h6 h7
    have hheap : T'.heap = t.heap := by rw [ht]; rfl
    rw [ec, es] at X'
    obtain ⟨t2, k1, k2⟩ := kn v w1 h2 p2 p3 R s m args below meth c w0 T'.heap (locs ++ L1) ls X ok1 (by rw [hheap]; exact h5) hl T' rfl X'
    exact ⟨t2, fun acts => (h1' acts).trans (by rw [ht]; exact k1), k2⟩
  | inr x =>
    obtain ⟨T', X', hW', -, ht⟩ := S.outOfThrown (g := F0 m pc ls st) rfl h4 h6 h7
    have hheap : T'.heap = t.heap := by rw [ht]; rfl
    rw [ec, es] at X'
    obtain ⟨t2, k1, k2⟩ := kt x w1 h2 p2 p3 R s m args below meth c w0 T' (locs ++ L1) ls st X ok1 (by rw [hheap]; exact h5) hl X'
    exact ⟨t2, fun acts => (h1' acts).trans (by rw [ht]; exact k1), k2⟩
/-- what stands fast of a callee: its code, its name, how many it takes -/
def ev_ms (M' : ev_mx) (n : Nat) : Prop := ev_code M' ∈ lw_tbl ∧ plainFor M'.1 = true ∧ (M'.1.cls ≠ "java/lang/invoke/MethodHandle" ∧ M'.1.cls ≠ "java/lang/invoke/VarHandle") ∧ (parseMethodDescriptor M'.1.desc).map (fun d => d.parameters.length) = some n
/-- the pool's entry is a static method, an instance method (by which class's objects), a constructor; own or a nest mate's -/
def ev_Is (own : String) (index : Nat) (M' : ev_mx) : Prop := (Cond.methodLink own index M'.1 ∈ lw_tbl ∨ ∃ host, Cond.methodLinkNest own index M'.1 host ∈ lw_tbl) ∧ Cond.static M'.1 ∈ lw_tbl ∧ Cond.initialized M'.1.cls ∈ lw_tbl
def ev_Iv (own : String) (index c : Nat) (M' : ev_mx) : Prop := ∃ q : vw_C, nm_cl[c]? = some q ∧ (Cond.methodLink own index M'.1 ∈ lw_tbl ∨ ∃ host, Cond.methodLinkNest own index M'.1 host ∈ lw_tbl) ∧ Cond.instanceMethod M'.1 ∈ lw_tbl ∧ Cond.selects q.1 M'.1 M'.1 ∈ lw_tbl
def ev_Ii (own : String) (index : Nat) (M' : ev_mx) : Prop := (Cond.methodLink own index M'.1 ∈ lw_tbl ∨ ∃ host, Cond.methodLinkNest own index M'.1 host ∈ lw_tbl) ∧ Cond.instanceMethod M'.1 ∈ lw_tbl ∧ M'.1.name = "<init>" ∧ M'.2.2.2.1 = none ∧ M'.2.2.2.2 = []
theorem ev_params {M' : ev_mx} {n : Nat} {sig : MethodDescriptor} (h : (parseMethodDescriptor M'.1.desc).map (fun d => d.parameters.length) = some n) (hs : parseMethodDescriptor M'.1.desc = some sig) : n = sig.parameters.length := by
  rw [hs] at h
  exact (Option.some.inj h).symm
theorem ev_calls {index n : Nat} {M' : ev_mx} (As : List Value) {P' : ev_r → ev_wd → Prop} (hd : ev_d M.2.1 pc (.invokestatic index) 3 pc') (hm : ev_ms M' n) (hi : ev_Is M.1.cls index M') (hn : As.length = n) (hst : (st.map fun v => v.category).sum + M'.2.2.1 ≤ 28) (hlen : (lg_sl As).length ≤ M'.2.2.1)
    (hc : ev_E G M' d 0 (lv_args 0 As) [] w P') (kn : ∀ v w', P' (.inl v) w' → ev_z w ≤ ev_z w' → ev_u w ≤ ev_u w' → ev_E G M (d + 1) pc' L (v.toList ++ st) w' P) (kt : ∀ x w', P' (.inr x) w' → ev_z w ≤ ev_z w' → ev_u w ≤ ev_u w' → ev_T G M (d + 1) pc L x w' P) : ev_E G M (d + 1) pc L (As.reverse ++ st) w P := by
  obtain ⟨hdg, rfl⟩ := hd
  obtain ⟨hcode, hplain, hy, hpar⟩ := hm
  obtain ⟨hlk, hstat, hinit⟩ := hi
  intro R s m args below meth c w0 H locs ls X O hH hl T hT S
  obtain ⟨mk, methk, ck, n1, n2, n3, n4, n5, n6, n7, n8, n9⟩ := ev_code_spec (ev_word X hcode (ev_code_good M') args)
  obtain ⟨kP, hkP, -⟩ := className_of_methodNamed n1
  have hinitP : kP.init = .initialized := Cond.initialized_spec (findClass_of_methodNamed n1) hkP (ev_word X hinit rfl args)
  have hstatic : methk.isStatic = true := Cond.static_spec n1 n2 (ev_word X hstat rfl args)
  have hdg' : decode c.code (F0 m pc ls (As.reverse ++ st)).pc = .ok (.invokestatic index, 3) := by rw [X.2.1]; exact hdg
  have hln : As.length = methk.sig.parameters.length := hn.trans (ev_params hpar n9)
  have hstep : ∃ vm', Stand G.1 G.2.1 G.2.2.1 R s m args below meth c (T.setVm vm') locs (ev_z w - ev_z w0) (ev_u w - ev_u w0) ∧ ∀ target, (∀ acts, Steps G.1.tables G.2.2.1 below (doInvoke G.2.2.1 ((T.setVm vm').setTop { F0 m pc ls (As.reverse ++ st) with stack := st }) acts mk As.toArray).1 target) → Steps G.1.tables G.2.2.1 below (T.setTop (F0 m pc ls (As.reverse ++ st))) target := by
    rcases hlk with h | ⟨host, h⟩
    · exact S.invokestatic X.1 (ev_own X) (ev_word X h rfl args) n1 n2 hstatic hkP hinitP hy rfl hln rfl hdg'
    · exact S.invokestaticNest X.1 (ev_own X) (ev_nest X h args) n1 n2 hstatic hkP hinitP hy rfl hln rfl hdg'
  obtain ⟨vm', S', hs⟩ := hstep
  obtain ⟨t, t1, t2⟩ := ev_through X O (T := T.setVm vm') (by show ev_Hr G w T.heap; rw [hT]; exact hH) hl S' hcode hplain n1 hdg As hst hlen hc kn kt
  exact ⟨t, hs t t1, t2⟩
theorem ev_callv {index c b n : Nat} {M' : ev_mx} (As : List Value) {P' : ev_r → ev_wd → Prop} (hd : ev_d M.2.1 pc (.invokevirtual index) 3 pc') (hm : ev_ms M' n) (hi : ev_Iv M.1.cls index c M') (hb : ev_b G ≤ b ∧ b < ev_z w) (ht : ev_g w b = c) (hn : As.length = n) (hst : (st.map fun v => v.category).sum + M'.2.2.1 ≤ 28) (hlen : (lg_sl (.ref b :: As)).length ≤ M'.2.2.1)
    (hc : ev_E G M' d 0 (lv_args 0 (.ref b :: As)) [] w P') (kn : ∀ v w', P' (.inl v) w' → ev_z w ≤ ev_z w' → ev_u w ≤ ev_u w' → ev_E G M (d + 1) pc' L (v.toList ++ st) w' P) (kt : ∀ x w', P' (.inr x) w' → ev_z w ≤ ev_z w' → ev_u w ≤ ev_u w' → ev_T G M (d + 1) pc L x w' P) : ev_E G M (d + 1) pc L (As.reverse ++ .ref b :: st) w P := by
  obtain ⟨hdg, rfl⟩ := hd
  obtain ⟨hcode, hplain, hy, hpar⟩ := hm
  obtain ⟨q, hq, hlk, hinst, hsel⟩ := hi
  intro R s m args below meth c' w0 H locs ls X O hH hl T hT S
  obtain ⟨mk, methk, ck, n1, n2, n3, n4, n5, n6, n7, n8, n9⟩ := ev_code_spec (ev_word X hcode (ev_code_good M') args)
  obtain ⟨mk2, methM, m1, m2, hstM, habM⟩ := Cond.instanceMethod_spec (ev_word X hinst rfl args)
  cases n1.symm.trans m1
  cases n2.symm.trans m2
  obtain ⟨cellB, g1, g2, g3, -⟩ := hH.obj hb ht hq
  have hcls : s.vm.findClass q.1 = some cellB.cls := by rw [g2]; exact ((ev_Ks X).1 c q hq).2.1
  obtain ⟨c2, r2, m2, q1, q2, q3, q4, kP, hkP, hkPi⟩ := Cond.selects_spec (ev_word X hsel rfl args)
  cases hcls.symm.trans q1
  cases (State.methodFound?_of_named n1 hy).symm.trans q2
  cases n1.symm.trans q3
  have hselP : selectMethod G.2.2.1.platform s.vm cellB.cls mk = .method mk := by rw [Launch.admits_selectMethod S.admits]; exact q4
  have hdg' : decode c'.code (F0 m pc ls (As.reverse ++ .ref b :: st)).pc = .ok (.invokevirtual index, 3) := by rw [X.2.1]; exact hdg
  have hln : As.length = methk.sig.parameters.length := hn.trans (ev_params hpar n9)
  have hcell : T.heap[b]? = some cellB := by rw [hT]; exact g1
  have hobj : ∀ z, cellB.vm ≠ .statics z := fun z h => by rw [g3] at h; cases h
  have hstep : ∃ vm', Stand G.1 G.2.1 G.2.2.1 R s m args below meth c' (T.setVm vm') locs (ev_z w - ev_z w0) (ev_u w - ev_u w0) ∧ ∀ target, (∀ acts, Steps G.1.tables G.2.2.1 below (doInvoke G.2.2.1 ((T.setVm vm').setTop { F0 m pc ls (As.reverse ++ .ref b :: st) with stack := st }) acts mk (Value.ref b :: As).toArray).1 target) → Steps G.1.tables G.2.2.1 below (T.setTop (F0 m pc ls (As.reverse ++ .ref b :: st))) target := by
    rcases hlk with h | ⟨host, h⟩
    · exact S.invokevirtual X.1 (ev_own X) (ev_word X h rfl args) n1 n2 hstM hkP hkPi hy hcell hobj hselP n2 habM hkP hkPi rfl hln rfl hdg'
    · exact S.invokevirtualNest X.1 (ev_own X) (ev_nest X h args) n1 n2 hstM hkP hkPi hy hcell hobj hselP n2 habM hkP hkPi rfl hln rfl hdg'
  obtain ⟨vm', S', hs⟩ := hstep
  obtain ⟨t, t1, t2⟩ := ev_through X O (T := T.setVm vm') (by show ev_Hr G w T.heap; rw [hT]; exact hH) hl S' hcode hplain n1 hdg (.ref b :: As) hst hlen hc kn kt
  exact ⟨t, hs t t1, t2⟩
theorem ev_calli {index b n : Nat} {M' : ev_mx} (As : List Value) {P' : ev_r → ev_wd → Prop} (hd : ev_d M.2.1 pc (.invokespecial index) 3 pc') (hm : ev_ms M' n) (hi : ev_Ii M.1.cls index M') (hn : As.length = n) (hst : (st.map fun v => v.category).sum + M'.2.2.1 ≤ 28) (hlen : (lg_sl (.ref b :: As)).length ≤ M'.2.2.1)
    (hc : ev_E G M' d 0 (lv_args 0 (.ref b :: As)) [] w P') (kn : ∀ v w', P' (.inl v) w' → ev_z w ≤ ev_z w' → ev_u w ≤ ev_u w' → ev_E G M (d + 1) pc' L (v.toList ++ st) w' P) (kt : ∀ x w', P' (.inr x) w' → ev_z w ≤ ev_z w' → ev_u w ≤ ev_u w' → ev_T G M (d + 1) pc L x w' P) : ev_E G M (d + 1) pc L (As.reverse ++ .ref b :: st) w P := by
  obtain ⟨hdg, rfl⟩ := hd
  obtain ⟨hcode, hplain, hy, hpar⟩ := hm
  obtain ⟨hlk, hinst, hinitn, hvoid, hnoh⟩ := hi
  intro R s m args below meth c' w0 H locs ls X O hH hl T hT S
  obtain ⟨mk, methk, ck, n1, n2, n3, n4, n5, n6, n7, n8, n9⟩ := ev_code_spec (ev_word X hcode (ev_code_good M') args)
  have hcw : (Cond.code M'.1 M'.2.1 M'.2.2.1 none).before args s = true := by
    have h := ev_word X hcode (ev_code_good M') args
    unfold ev_code at h
    rw [hnoh, hvoid] at h
    exact h
  have hdg' : decode c'.code (F0 m pc ls (As.reverse ++ .ref b :: st)).pc = .ok (.invokespecial index, 3) := by rw [X.2.1]; exact hdg
  have hln : ∀ sig, parseMethodDescriptor M'.1.desc = some sig → As.length = sig.parameters.length := fun sig h => hn.trans (ev_params hpar h)
  have hpl : G.2.2.1.platform.magicAccessors = ({} : Platform).magicAccessors := by rw [S.admits.platform]
  have hstep : ∃ vm', Stand G.1 G.2.1 G.2.2.1 R s m args below meth c' (T.setVm vm') locs (ev_z w - ev_z w0) (ev_u w - ev_u w0) ∧ ∀ target, (∀ acts, Steps G.1.tables G.2.2.1 below (doInvoke G.2.2.1 ((T.setVm vm').setTop { F0 m pc ls (As.reverse ++ .ref b :: st) with stack := st }) acts mk (Value.ref b :: As).toArray).1 target) → Steps G.1.tables G.2.2.1 below (T.setTop (F0 m pc ls (As.reverse ++ .ref b :: st))) target := by
    rcases hlk with h | ⟨host, h⟩
    · obtain ⟨mk2, -, -, -, vm₁, hn2, -, -, -, -, -, -, -, hW₁, hs⟩ := Steps.initColdArgs (e := G.2.2.1) S.here X.1 S.warmed hpl (ev_own X) hinitn hy (ev_word X h rfl args) (ev_word X hinst rfl args) hcw (f := F0 m pc ls (As.reverse ++ .ref b :: st)) rfl hln rfl hdg'
      cases n1.symm.trans hn2
      exact ⟨vm₁, S.noted hW₁, hs⟩
    · obtain ⟨mk2, -, -, -, vm₁, hn2, -, -, -, -, -, -, -, hW₁, hs⟩ := Steps.initColdArgsNest (e := G.2.2.1) S.here X.1 S.warmed hpl (ev_own X) hinitn hy (ev_nest X h args) (ev_word X hinst rfl args) hcw (f := F0 m pc ls (As.reverse ++ .ref b :: st)) rfl hln rfl hdg'
      cases n1.symm.trans hn2
      exact ⟨vm₁, S.noted hW₁, hs⟩
  obtain ⟨vm', S', hs⟩ := hstep
  obtain ⟨t, t1, t2⟩ := ev_through X O (T := T.setVm vm') (by show ev_Hr G w T.heap; rw [hT]; exact hH) hl S' hcode hplain n1 hdg (.ref b :: As) hst hlen hc kn kt
  exact ⟨t, hs t t1, t2⟩
/-- Object's constructor -/
theorem ev_obji {index a : Nat} (hd : ev_d M.2.1 pc (.invokespecial index) 3 pc') (h1 : Cond.methodLink M.1.cls index Lib.objectInit ∈ lw_tbl) (h2 : Cond.instanceMethod Lib.objectInit ∈ lw_tbl) (h3 : Cond.code Lib.objectInit ⟨#[0xb1]⟩ 1 none ∈ lw_tbl) (hst : (st.map fun v => v.category).sum ≤ 27) (kk : ev_E G M (d + 1) pc' L st w P) : ev_E G M (d + 1) pc L (.ref a :: st) w P := by
  obtain ⟨hdg, rfl⟩ := hd
  intro R s m args below meth c' w0 H locs ls X O hH hl
  obtain ⟨x1, x2, x3, x4, x5, x6, x7, x8, x9, x10, x11, x12, x13, x14, x15⟩ := id X
  have hmr : (F0 m pc ls (.ref a :: st)).monitorRoom = 0 := rfl
  exact W.objInit x1 x2 (ev_own X) (ev_word X h1 rfl _) (ev_word X h2 rfl _) (ev_word X h3 rfl _) rfl (hl.1.trans x7.symm) rfl hdg (by omega) (by rw [hmr]; omega) (kk R s m args below meth c' w0 H locs ls X O hH hl)
/-- a throw that no handler of the method covers leaves it -/
theorem ev_leave {x : Nat} (hout : ∀ h ∈ M.2.2.2.2, (decide (h.1 ≤ pc) && decide (pc < h.2.1)) = false) (h : P (.inr x) w) : ev_T G M d pc L x w P := by
  intro R s m args below meth c w0 T locs ls st X O hH hl S
  obtain ⟨x1, x2, x3, x4, x5, x6, x7, x8, x9, x10, x11⟩ := id X
  have hout' : ∀ y ∈ c.exceptionTable.toList, covers y (F0 m pc ls st).pc = false := by
    intro y hy
    have := hout (y.startPc, y.endPc, y.handlerPc, y.catchType) (by rw [← x10]; exact List.mem_map.mpr ⟨y, hy, rfl⟩)
    exact this
  obtain ⟨a1, a2, a3, a4, a5⟩ := S.leaveThrown x (g := F0 m pc ls st) rfl rfl rfl hout' x9
  exact ⟨_, a1, .inr x, w, locs, h, a2, a3, hH, a4, a5, O⟩
theorem ev_athrow {x : Nat} (hd : ev_d M.2.1 pc .athrow 1 pc') (hout : ∀ h ∈ M.2.2.2.2, (decide (h.1 ≤ pc) && decide (pc < h.2.1)) = false) (h : P (.inr x) w) : ev_E G M d pc L (.ref x :: st) w P := by
  obtain ⟨hdg, -⟩ := hd
  intro R s m args below meth c w0 H locs ls X O hH hl T hT S
  obtain ⟨x1, x2, x3, x4, x5, x6, x7, x8, x9, x10, x11⟩ := id X
  have hout' : ∀ y ∈ c.exceptionTable.toList, covers y (F0 m pc ls (.ref x :: st)).pc = false := by
    intro y hy
    have := hout (y.startPc, y.endPc, y.handlerPc, y.catchType) (by rw [← x10]; exact List.mem_map.mpr ⟨y, hy, rfl⟩)
    exact this
  obtain ⟨a1, a2, a3, a4, a5⟩ := S.athrowLeaves x1 (g := F0 m pc ls (.ref x :: st)) rfl rfl rfl hout' rfl (by rw [x2]; exact hdg) x9
  exact ⟨_, a1, .inr x, w, locs, h, a2, a3, by show ev_Hr G w T.heap; rw [hT]; exact hH, a4, a5, O⟩
end EvC
