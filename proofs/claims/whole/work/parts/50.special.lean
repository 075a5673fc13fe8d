/-! rows for what is seldom: a catch, a static, a constant text, a class object, arraycopy -/
theorem ev_goCold {E : CtlPost} {e : Env} {d : Bool} {acts : List Action} {s : State} {f : JFrame} {a : Addr} {Q : Handler → Pre} {x : ExceptionTableEntry} {t : List ExceptionTableEntry} {c : ClassId} {cell : Cell} {vm' : Vm} (hx : covers x f.pc = true) (h0 : x.catchType ≠ 0)
    (hg : (Jvm.resolveClass f.method.cls x.catchType).Gives e.toSetting s.vm (.ok c) vm') (hsz : vm'.classes.size ≤ s.vm.classes.size) (hcell : s.heap[a]? = some cell) (hobj : ∀ k, cell.vm ≠ .statics k)
    (hk : ∃ k, vm'.classes[cell.cls]? = some k) (hc : ∃ k, vm'.classes[c]? = some k) :
    wp (findHandler.go f a (x :: t)) Q E e d acts s ↔
      if vm'.assignable cell.cls c = true then Q (.found x.handlerPc) d acts (s.setVm vm') else wp (findHandler.go f a t) Q E e d acts (s.setVm vm') := by
  simp only [covers] at hx
  obtain ⟨ha, ht⟩ := hg.op (op := VmOp.resolveClass f.method.cls x.catchType) rfl
  cases hfit : vm'.assignable cell.cls c <;>
    simp [findHandler.go, hx, h0, ha, ht, hsz, hcell, hobj, hk, hc, hfit, VmOp.dirties, VmOp.acts]
theorem ev_caught {tb : Tables} {e : Env} {s target : State} {g : JFrame} {c : Code} {below : List Frame} {a : Addr} {pc : Nat} {vm' : Vm} (h : At s g.method c below)
    (hfind : ∀ (Q : Handler → Pre) (E : CtlPost) (d : Bool) (acts : List Action), wp (findHandler g a) Q E e d acts ((s.setTop g).pushFrame (.throwing a)) ↔ Q (.found pc) d acts (((s.setTop g).pushFrame (.throwing a)).setVm vm'))
    (hrest : Steps tb e below ((s.setVm vm').setTop { g with pc := pc, stack := [.ref a] }) target) : Steps tb e below ((s.setTop g).pushFrame (.throwing a)) target := by
  obtain ⟨hgo, hw⟩ := h.throwing a
  refine Steps.head hgo hw ?_
  rw [stepThread_throwing (frames_entered h.top _)]
  have key : (stepThrowing e ((s.setTop g).pushFrame (.throwing a)) a (.java g :: s.frames.tail)).1 = (((s.setTop g).pushFrame (.throwing a)).setVm vm').setFrames (.java { g with pc := pc, stack := [.ref a] } :: s.frames.tail) := by
    simp only [stepThrowing, searchFrame, vmDo]
    generalize hr : Sem.go _ e false [] ((s.setTop g).pushFrame (.throwing a)) = res
    obtain ⟨as, rfl, ha⟩ := Sem.eq_ok_of hr (a := Handler.found pc) (s' := ((s.setTop g).pushFrame (.throwing a)).setVm vm') (acts' := []) (by simp [hfind _ _ _ _])
    rfl
  rw [key]
  obtain ⟨g₀, hg⟩ := Option.isSome_iff_exists.mp h.top
  obtain ⟨r, hr⟩ := State.topJava?_eq_some.mp hg
  have hr' : (s.setVm vm').frames = .java g₀ :: r := hr
  rw [State.setTop_of_frames _ hr'] at hrest
  have e1 : ∀ F : List Frame, ((((s.setTop g).pushFrame (.throwing a)).setVm vm').setFrames F) = (s.setVm vm').setFrames F := by
    intro F
    show (((s.setTop g).pushFrame (.throwing a)).setFrames F).setVm vm' = (s.setFrames F).setVm vm'
    rw [State.pushFrame, State.setFrames_setFrames, State.setTop_of_frames _ hr, State.setFrames_setFrames]
  rw [e1, hr]
  exact hrest
section EvS
variable {G : ev_gx} {M : ev_mx} {d pc pc' tgt : Nat} {L : List (Nat × Value)} {st : List Value} {w : ev_wd} {P : ev_r → ev_wd → Prop}
theorem ev_catch {x c s1 e1 h1 c1 : Nat} {t : List (Nat × Nat × Nat × Nat)} {q : vw_C} (hh : M.2.2.2.2 = (s1, e1, h1, c1) :: t) (hcov : (decide (s1 ≤ pc) && decide (pc < e1)) = true) (h0 : c1 ≠ 0) (hlk : Cond.classLink M.1.cls c1 q.1 ∈ lw_tbl) (ha : ev_b G ≤ x ∧ x < ev_z w) (ht : ev_g w x = c) (hc : nm_cl[c]? = some q)
    (kk : ev_E G M d h1 L [.ref x] w P) : ev_T G M d pc L x w P := by
  intro R s m args below meth c' w0 T locs ls st X O hH hl S
  obtain ⟨x1, x2, x3, x4, x5, x6, x7, x8, x9, x10, x11⟩ := id X
  have hpl : G.2.2.1.platform.magicAccessors = ({} : Platform).magicAccessors := by rw [S.admits.platform]
  obtain ⟨cT, hcT, hcl⟩ := Cond.classLink_spec (ev_own X) (ev_word X hlk rfl args) G.2.2.1.platform hpl
  obtain ⟨dk, _, _, kt, hd, _, _, _, _, hkt, _, hopen⟩ := hcl.here
  have hcl₀ := S.warmed.classLinks hcl
  have hW' : s.WarmedH (T.vm.noted m.cls c1 (.cls cT)) := S.warmed.noted hd hopen (State.rightAt_cls hcl)
  obtain ⟨cell, g1, g2, g3, -⟩ := hH.obj ha ht hc
  have hcls := ((ev_Ks X).1 c q hc).2
  cases hcT.symm.trans hcls.1
  obtain ⟨kC, hkC, hkind⟩ := hcls.2
  obtain ⟨k', hk', -⟩ := hW'.alike.2.2 _ _ hkC
  rw [hh] at x10
  cases htab : c'.exceptionTable.toList with
  | nil => rw [htab] at x10; cases x10
  | cons y ys =>
    rw [htab, List.map_cons] at x10
    obtain ⟨y1, y2⟩ := List.cons.inj x10
    have e1' : y.startPc = s1 := congrArg (fun z => z.1) y1
    have e2' : y.endPc = e1 := congrArg (fun z => z.2.1) y1
    have e3' : y.handlerPc = h1 := congrArg (fun z => z.2.2.1) y1
    have e4' : y.catchType = c1 := congrArg (fun z => z.2.2.2) y1
    subst e1' e2' e3' e4'
    have hasg : (T.vm.noted m.cls y.catchType (.cls ((ev_D G).1 c))).assignable cell.cls ((ev_D G).1 c) = true := by
      rw [hW'.alike.assignable, g2]
      exact va_assign hcls
    obtain ⟨t2, k1, k2⟩ := kk R s m args below meth c' w0 T.heap locs ls X O hH hl (T.setVm (T.vm.noted m.cls y.catchType (.cls ((ev_D G).1 c)))) rfl (S.noted hW')
    refine ⟨t2, ?_, k2⟩
    refine ev_caught (g := F0 m pc ls st) (c := c') S.here (pc := y.handlerPc) (vm' := T.vm.noted m.cls y.catchType (.cls ((ev_D G).1 c))) (fun Q E d acts => ?_) k1
    rw [W.findHandler_eq (meth := meth) (code := c') (S.method') S.code, htab]
    have hv : ((T.setTop (F0 m pc ls st)).pushFrame (.throwing x)).vm = T.vm := Stand.throwing_vm T _ x
    have hhp : ((T.setTop (F0 m pc ls st)).pushFrame (.throwing x)).heap = T.heap := Stand.throwing_heap T _ x
    rw [ev_goCold (s := (T.setTop (F0 m pc ls st)).pushFrame (.throwing x)) (c := (ev_D G).1 c) (cell := cell) (vm' := T.vm.noted m.cls y.catchType (.cls ((ev_D G).1 c))) hcov h0 (by rw [hv]; exact resolveClass_links G.2.2.1.toSetting hcl₀) (by rw [hv]; no_record) (by rw [hhp]; exact g1) (fun z h => by rw [g3] at h; cases h) ⟨k', by rw [g2]; exact hk'⟩ ⟨k', hk'⟩, if_pos hasg]
theorem ev_gets {index : Nat} {C n ds : String} {v : Value} (hd : ev_d M.2.1 pc (.getstatic index) 3 pc') (hlk : Cond.fieldLink M.1.cls index C n ds ∈ lw_tbl) (hZ : va_Z C n ds v (fun q => ev_b G ≤ q) (ev_s0 G) (ev_s0 G).heap) (kk : ev_E G M d pc' L (v :: st) w P) : ev_E G M d pc L st w P := by
  obtain ⟨hdg, rfl⟩ := hd
  intro R s m args below meth c' w0 H locs ls X O hH hl
  obtain ⟨cf, kf, fi, f, a, cell, h1, h2, h3, h4, h5, h6, h7, h8⟩ := va_Z.moved X.2.2.2.1.alike hZ
  exact W.gets X.1 X.2.1 (ev_own X) (ev_word X hlk rfl _) h1 h2 h3 h4 (by rw [hH.2.2.2 a (Nat.not_le.mp h8)]; exact h5) (fun e => by rw [e] at h6; cases h6) h7 rfl hdg (kk R s m args below meth c' w0 H locs ls X O hH hl)
theorem ev_ldcS {index q : Nat} {tx : String} (hd : ev_d M.2.1 pc (.ldc index) 2 pc') (hZ : vk_R M.1.cls index tx q (ev_s0 G)) (kk : ev_E G M d pc' L (.ref q :: st) w P) : ev_E G M d pc L st w P := by
  obtain ⟨hdg, rfl⟩ := hd
  intro R s m args below meth c' w0 H locs ls X O hH hl
  exact va_ldcS X.1 X.2.1 (ev_own X) (vk_R.warm X.2.2.2.1 hZ) hdg (kk R s m args below meth c' w0 H locs ls X O hH hl)
theorem ev_ldcM {index mi : Nat} {C : String} (hd : ev_d M.2.1 pc (.ldc index) 2 pc') (hlk : Cond.classLink M.1.cls index C ∈ lw_tbl) (hM : va_Mi C mi (ev_s0 G)) (kk : ev_E G M d pc' L (.ref mi :: st) w P) : ev_E G M d pc L st w P := by
  obtain ⟨hdg, rfl⟩ := hd
  intro R s m args below meth c' w0 H locs ls X O hH hl
  exact va_ldcM X.1 X.2.1 (ev_own X) (ev_word X hlk rfl _) (hM.moved X.2.2.2.1.alike) hdg (kk R s m args below meth c' w0 H locs ls X O hH hl)
/-- the world behind a copy -/
def ev_cpy (w : ev_wd) (src dst sp dp n : Nat) : ev_wd := (w.1, w.2.1, (fun q j => if q = dst then va_cpy (ev_v w src) (ev_v w dst) sp dp n j else w.2.2.1 q j), w.2.2.2.1, w.2.2.2.2)
theorem ev_clampI {z : Int32} (hz : ¬ z < 0) : z.toInt = (z.toNatClampNeg : Int) := by
  have hz0 : (0 : Int) ≤ z.toInt := by
    have := Int32.not_lt.mp hz
    simpa using Int32.le_iff_toInt_le.mp this
  show z.toInt = ((z.toInt.toNat : Nat) : Int)
  omega
theorem ev_copy {index src dst t : Nat} {ty : FieldType} {sp dp n : Int32} (hd : ev_d M.2.1 pc (.invokestatic index) 3 pc') (hlk : Cond.methodLink M.1.cls index arraycopyName ∈ lw_tbl) (hnat : Cond.native arraycopyName ∈ lw_tbl) (hstat : Cond.static arraycopyName ∈ lw_tbl) (hini : Cond.initialized "java/lang/System" ∈ lw_tbl)
    (ha : ev_b G ≤ src ∧ src < ev_z w) (hb : ev_b G ≤ dst ∧ dst < ev_z w) (hs : ev_g w src = 100 + t) (ht : ev_g w dst = 100 + t) (hty : nm_at[t]? = some ty) (h1 : ¬ sp < 0) (h2 : ¬ dp < 0) (h3 : ¬ n < 0) (h4 : sp.toNatClampNeg + n.toNatClampNeg ≤ ev_n w src) (h5 : dp.toNatClampNeg + n.toNatClampNeg ≤ ev_n w dst)
    (hel : (ty = .int ∧ ∀ i, i < n.toNatClampNeg → ∃ x, ev_v w src (sp.toNatClampNeg + i) = .int x) ∨ (∃ E, ty = .object E ∧ ∀ i, i < n.toNatClampNeg → ev_v w src (sp.toNatClampNeg + i) = .null ∨ ∃ (y c : Nat) (q : vw_C), ev_v w src (sp.toNatClampNeg + i) = .ref y ∧ (ev_b G ≤ y ∧ y < ev_z w) ∧ ev_g w y = c ∧ nm_cl[c]? = some q ∧ Cond.castable q.1 E ∈ lw_tbl))
    (hst : (st.map fun v => v.category).sum ≤ 8) (kk : ev_E G M (d + 1) pc' L st (ev_cpy w src dst sp.toNatClampNeg dp.toNatClampNeg n.toNatClampNeg) P) : ev_E G M (d + 1) pc L (.int n :: .int dp :: .ref dst :: .int sp :: .ref src :: st) w P := by
  obtain ⟨hdg, rfl⟩ := hd
  intro R s m args below meth c' w0 H locs ls X O hH hl T hT S
  obtain ⟨x1, x2, x3, x4, x5, x6, x7, x8, x9, x10, x11, x12, x13⟩ := id X
  have hc0 : T.heap[src]? = some (arrV ((ev_D G).1 (100 + t)) (ev_n w src) (ev_v w src)) := by rw [hT]; exact hH.arr ha hs
  have hc1 : T.heap[dst]? = some (arrV ((ev_D G).1 (100 + t)) (ev_n w dst) (ev_v w dst)) := by rw [hT]; exact hH.arr hb ht
  have hK := (ev_Ks X).2 t ty hty
  obtain ⟨-, k0, hk0, cm0, hkk0⟩ := hK.1 (ev_n w src) (ev_v w src)
  have hnw : nativeFrameWords "java/lang/System" "arraycopy" 5 ≤ 20 := by decide +kernel
  have hmr : (F0 m pc ls (.int n :: .int dp :: .ref dst :: .int sp :: .ref src :: st)).monitorRoom = 0 := rfl
  obtain ⟨vm', X', step⟩ := S.arraycopy x1 (ev_own X) (ev_word X hlk rfl _) (ev_word X hnat rfl _) (ev_word X hstat rfl _) (ev_word X hini rfl _) (src := src) (dst := dst) (srcPos := sp) (destPos := dp) (n := n) hc0 hc1
    (fun _ h => by cases h) (fun _ h => by cases h) (fun h => by cases h) (fun h => by cases h) hk0 hk0 hkk0 hkk0 (by rcases hel with ⟨e, -⟩ | ⟨E, e, -⟩ <;> (rw [e]; rfl)) h1 h2 h3
    (by rw [ev_clampI h1, ev_clampI h3, arrV_size]; omega) (by rw [ev_clampI h2, ev_clampI h3, arrV_size]; omega)
    (fun vm₁ hal i hi => by
      have e : (arrV ((ev_D G).1 (100 + t)) (ev_n w src) (ev_v w src)).slots.getD (sp.toNatClampNeg + i) .null = ev_v w src (sp.toNatClampNeg + i) := by
        rw [Array.getD_eq_getD_getElem?, arrV_read _ _ (by omega)]
        rfl
      rw [e]
      rcases hel with ⟨e1, h⟩ | ⟨E, e1, h⟩
      · obtain ⟨z, hz⟩ := h i hi
        rw [hz, e1]
        exact ⟨rfl, trivial⟩
      · rcases h i hi with hz | ⟨y, c, q, hz, hy, hg, hq, hcs⟩
        · rw [hz, e1]
          exact ⟨rfl, trivial⟩
        · rw [hz, e1]
          subst e1
          obtain ⟨cellV, g1, g2, g3, -⟩ := hH.obj hy hg hq
          have hcls := ((ev_Ks X).1 c q hq).2
          obtain ⟨kC, hkC, -⟩ := hcls.2
          obtain ⟨kA, comp, r1, r2, r3, -⟩ := hK.2
          cases hk0.symm.trans r1
          cases hkk0.symm.trans r2
          obtain ⟨kE, hkE, -⟩ := Vm.findClass_spec r3
          obtain ⟨kC', hkC', -⟩ := hal.2.2 _ _ hkC
          obtain ⟨kE', hkE', -⟩ := hal.2.2 _ _ hkE
          obtain ⟨cc0, t1, f1, f2, f3⟩ := Cond.castable_spec (va_Nw.use (A := args) rfl (va_Nw.warmC X.2.2.2.1 (va_Nw.of rfl (X.2.2.2.2.1 _ hcs))))
          cases hcls.1.symm.trans f1
          cases r3.symm.trans f2
          refine ⟨rfl, cellV, (show T.heap[y]? = some cellV by rw [hT]; exact g1), (fun q h => by rw [g3] at h; cases h), ⟨kC', by rw [g2]; exact hkC'⟩, ⟨kE', hkE'⟩, ?_⟩
          show vm₁.assignable cellV.cls _ = true
          rw [hal.assignable, g2]
          exact f3)
    (g := F0 m pc ls (.int n :: .int dp :: .ref dst :: .int sp :: .ref src :: st)) rfl (hl.1.trans x7.symm) rfl (by rw [x2]; exact hdg) (by omega) (by rw [hmr]; omega)
  have hcopy : copied (arrV ((ev_D G).1 (100 + t)) (ev_n w src) (ev_v w src)) (arrV ((ev_D G).1 (100 + t)) (ev_n w dst) (ev_v w dst)) sp dp n = arrV ((ev_D G).1 (100 + t)) (ev_n w dst) (va_cpy (ev_v w src) (ev_v w dst) sp.toNatClampNeg dp.toNatClampNeg n.toNatClampNeg) :=
    va_copied (fun v => v) _ _ _ _ h4
  have hlt : dst < T.heap.size := (Array.getElem?_eq_some_iff.mp hc1).1
  have hH' : ev_Hr G (ev_cpy w src dst sp.toNatClampNeg dp.toNatClampNeg n.toNatClampNeg) ((T.setVm vm').setCell dst (copied (arrV ((ev_D G).1 (100 + t)) (ev_n w src) (ev_v w src)) (arrV ((ev_D G).1 (100 + t)) (ev_n w dst) (ev_v w dst)) sp dp n)).heap := by
    obtain ⟨z1, z2, z3, z4⟩ := hH
    refine ⟨by rw [size_setCell]; exact (congrArg Array.size hT).trans z1, z2, fun q hq1 hq2 => ?_, fun q hq => ?_⟩
    · by_cases hqd : q = dst
      · subst hqd
        refine Or.inl ⟨by show 100 ≤ ev_g w q; omega, ?_⟩
        rw [heapAt_setCell_self (s := T.setVm vm') _ hlt, hcopy]
        have e2 : ev_v (ev_cpy w src q sp.toNatClampNeg dp.toNatClampNeg n.toNatClampNeg) q = va_cpy (ev_v w src) (ev_v w q) sp.toNatClampNeg dp.toNatClampNeg n.toNatClampNeg := by
          funext j
          simp [ev_cpy, ev_v]
        rw [e2]
        show _ = some (arrV ((ev_D G).1 (ev_g w q)) (ev_n w q) _)
        rw [ht]
      · have e2 : ev_v (ev_cpy w src dst sp.toNatClampNeg dp.toNatClampNeg n.toNatClampNeg) q = ev_v w q := by
          funext j
          simp [ev_cpy, ev_v, hqd]
        refine (z3 q hq1 hq2).to rfl rfl e2 ?_
        rw [heapAt_setCell_ne _ (Ne.symm hqd)]
        exact congrArg (fun (h : Heap) => h[q]?) hT
    · rw [heapAt_setCell_ne _ (show dst ≠ q by omega)]
      exact (congrArg (fun (h : Heap) => h[q]?) hT).trans (z4 q hq)
  obtain ⟨t2, a1, b1⟩ := kk R s m args below meth c' w0 _ _ ls X ⟨fun q hq => by
    rcases List.mem_append.mp hq with h | h
    · exact O.1 q h
    · obtain ⟨z, -, hz⟩ := List.mem_map.mp h
      rw [← hz]
      exact hb.1, O.2⟩ hH' hl _ rfl X'
  exact ⟨t2, step t2 a1, b1⟩
end EvS
