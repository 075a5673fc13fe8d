/-! the second clause of a catch; the class of an array -/
section EvM
variable {G : ev_gx} {M : ev_mx} {d pc pc' : Nat} {L : List (Nat × Value)} {st : List Value} {w : ev_wd} {P : ev_r → ev_wd → Prop}
theorem ev_catch2 {x c s1 e1 h1 c1 s2 e2 h2 c2 : Nat} {t : List (Nat × Nat × Nat × Nat)} {q : vw_C} {A : String} (hh : M.2.2.2.2 = (s1, e1, h1, c1) :: (s2, e2, h2, c2) :: t) (hcov1 : (decide (s1 ≤ pc) && decide (pc < e1)) = true) (hcov2 : (decide (s2 ≤ pc) && decide (pc < e2)) = true) (h0 : c1 ≠ 0) (h02 : c2 ≠ 0)
    (hlk1 : Cond.classLink M.1.cls c1 A ∈ lw_tbl) (hno : va_Nc q.1 A (ev_s0 G)) (hlk : Cond.classLink M.1.cls c2 q.1 ∈ lw_tbl) (ha : ev_b G ≤ x ∧ x < ev_z w) (ht : ev_g w x = c) (hc : nm_cl[c]? = some q)
    (kk : ev_E G M d h2 L [.ref x] w P) : ev_T G M d pc L x w P := by
  intro R s m args below meth c' w0 T locs ls st X O hH hl S
  obtain ⟨x1, x2, x3, x4, x5, x6, x7, x8, x9, x10, x11⟩ := id X
  have hpl : G.2.2.1.platform.magicAccessors = ({} : Platform).magicAccessors := by rw [S.admits.platform]
  obtain ⟨cA, hcA, hclA⟩ := Cond.classLink_spec (ev_own X) (ev_word X hlk1 rfl args) G.2.2.1.platform hpl
  obtain ⟨dkA, _, _, ktA, hdA, _, _, _, _, hktA, _, hopenA⟩ := hclA.here
  have hcl1 := S.warmed.classLinks hclA
  have hW1 : s.WarmedH (T.vm.noted m.cls c1 (.cls cA)) := S.warmed.noted hdA hopenA (State.rightAt_cls hclA)
  have S1 := S.noted hW1
  obtain ⟨cT, hcT, hcl⟩ := Cond.classLink_spec (ev_own X) (ev_word X hlk rfl args) G.2.2.1.platform hpl
  obtain ⟨dk, _, _, kt, hd, _, _, _, _, hkt, _, hopen⟩ := hcl.here
  have hcl₀ := S1.warmed.classLinks hcl
  have hW' : s.WarmedH ((T.setVm (T.vm.noted m.cls c1 (.cls cA))).vm.noted m.cls c2 (.cls cT)) := S1.warmed.noted hd hopen (State.rightAt_cls hcl)
  obtain ⟨cell, g1, g2, g3, -⟩ := hH.obj ha ht hc
  have hcls := ((ev_Ks X).1 c q hc).2
  cases hcT.symm.trans hcls.1
  obtain ⟨kC, hkC, hkind⟩ := hcls.2
  obtain ⟨k1, hk1, -⟩ := hW1.alike.2.2 _ _ hkC
  obtain ⟨kA1, hkA1, -⟩ := hW1.alike.2.2 _ _ hktA
  obtain ⟨k', hk', -⟩ := hW'.alike.2.2 _ _ hkC
  obtain ⟨n1, n2, hn1, hn2, hnot⟩ := va_Nc.moved x4.alike hno
  cases hn1.symm.trans hcls.1
  cases hn2.symm.trans hcA
  rw [hh] at x10
  cases htab : c'.exceptionTable.toList with
  | nil => rw [htab] at x10; cases x10
  | cons y ys =>
    rw [htab, List.map_cons] at x10
    obtain ⟨y1, y2⟩ := List.cons.inj x10
    cases hys : ys with
    | nil => rw [hys] at y2; cases y2
    | cons z zs =>
      rw [hys, List.map_cons] at y2
      obtain ⟨y3, y4⟩ := List.cons.inj y2
      have e1' : y.startPc = s1 := congrArg (fun z => z.1) y1
      have e2' : y.endPc = e1 := congrArg (fun z => z.2.1) y1
      have e3' : y.handlerPc = h1 := congrArg (fun z => z.2.2.1) y1
      have e4' : y.catchType = c1 := congrArg (fun z => z.2.2.2) y1
      have f1' : z.startPc = s2 := congrArg (fun z => z.1) y3
      have f2' : z.endPc = e2 := congrArg (fun z => z.2.1) y3
      have f3' : z.handlerPc = h2 := congrArg (fun z => z.2.2.1) y3
      have f4' : z.catchType = c2 := congrArg (fun z => z.2.2.2) y3
      subst e1' e2' e3' e4' f1' f2' f3' f4'
      have hasg : ((T.setVm (T.vm.noted m.cls y.catchType (.cls cA))).vm.noted m.cls z.catchType (.cls ((ev_D G).1 c))).assignable cell.cls ((ev_D G).1 c) = true := by
        rw [hW'.alike.assignable, g2]
        exact va_assign hcls
      have hnot1 : (T.vm.noted m.cls y.catchType (.cls cA)).assignable cell.cls cA = false := by
        rw [hW1.alike.assignable, g2]
        exact hnot
      obtain ⟨t2, q1, q2⟩ := kk R s m args below meth c' w0 T.heap locs ls X O hH hl ((T.setVm (T.vm.noted m.cls y.catchType (.cls cA))).setVm ((T.setVm (T.vm.noted m.cls y.catchType (.cls cA))).vm.noted m.cls z.catchType (.cls ((ev_D G).1 c)))) rfl (S1.noted hW')
      refine ⟨t2, ?_, q2⟩
      refine ev_caught (g := F0 m pc ls st) (c := c') S.here (pc := z.handlerPc) (vm' := (T.setVm (T.vm.noted m.cls y.catchType (.cls cA))).vm.noted m.cls z.catchType (.cls ((ev_D G).1 c))) (fun Q E d acts => ?_) q1
      rw [W.findHandler_eq (meth := meth) (code := c') (S.method') S.code, htab, hys]
      have hv : ((T.setTop (F0 m pc ls st)).pushFrame (.throwing x)).vm = T.vm := Stand.throwing_vm T _ x
      have hhp : ((T.setTop (F0 m pc ls st)).pushFrame (.throwing x)).heap = T.heap := Stand.throwing_heap T _ x
      rw [ev_goCold (s := (T.setTop (F0 m pc ls st)).pushFrame (.throwing x)) (c := cA) (cell := cell) (vm' := T.vm.noted m.cls y.catchType (.cls cA)) hcov1 h0 (by rw [hv]; exact resolveClass_links G.2.2.1.toSetting hcl1) (by rw [hv]; no_record) (by rw [hhp]; exact g1) (fun z h => by rw [g3] at h; cases h) ⟨k1, by rw [g2]; exact hk1⟩ ⟨kA1, hkA1⟩, if_neg (by rw [hnot1]; decide)]
      rw [ev_goCold (s := ((T.setTop (F0 m pc ls st)).pushFrame (.throwing x)).setVm (T.vm.noted m.cls y.catchType (.cls cA))) (c := (ev_D G).1 c) (cell := cell) (vm' := (T.setVm (T.vm.noted m.cls y.catchType (.cls cA))).vm.noted m.cls z.catchType (.cls ((ev_D G).1 c))) hcov2 h02 (resolveClass_links G.2.2.1.toSetting hcl₀) (by show _ ≤ (T.vm.noted m.cls y.catchType (.cls cA)).classes.size; no_record) (by show ((T.setTop (F0 m pc ls st)).pushFrame (.throwing x)).heap[x]? = _; rw [hhp]; exact g1) (fun z h => by rw [g3] at h; cases h) ⟨k', by rw [g2]; exact hk'⟩ ⟨k', hk'⟩, if_pos hasg]
      rfl
/-- getClass of an array of objects -/
theorem ev_getC {index t a mi : Nat} {C nm : String} (hd : ev_d M.2.1 pc (.invokevirtual index) 3 pc') (hlk : Cond.methodLink M.1.cls index ⟨"java/lang/Object", "getClass", "()Ljava/lang/Class;"⟩ ∈ lw_tbl) (hdc : Cond.declares ⟨"java/lang/Object", "getClass", "()Ljava/lang/Class;"⟩ ∈ lw_tbl)
    (hsel : Cond.selects nm ⟨"java/lang/Object", "getClass", "()Ljava/lang/Class;"⟩ ⟨"java/lang/Object", "getClass", "()Ljava/lang/Class;"⟩ ∈ lw_tbl) (hinst : Cond.instanceMethod ⟨"java/lang/Object", "getClass", "()Ljava/lang/Class;"⟩ ∈ lw_tbl) (hnat : Cond.native ⟨"java/lang/Object", "getClass", "()Ljava/lang/Class;"⟩ ∈ lw_tbl) (hM : va_Mi nm mi (ev_s0 G))
    (ha : ev_b G ≤ a ∧ a < ev_z w) (ht : ev_g w a = 100 + t) (hty : nm_at[t]? = some (.object C)) (hnm : "[" ++ (FieldType.object C).toString = nm) (hst : (st.map fun v => v.category).sum ≤ 8) (kk : ev_E G M (d + 1) pc' L (.ref mi :: st) w P) : ev_E G M (d + 1) pc L (.ref a :: st) w P := by
  obtain ⟨hdg, rfl⟩ := hd
  intro R s m args below meth c' w0 H locs ls X O hH hl
  obtain ⟨x1, x2, x3, x4, x5, x6, x7, x8, x9, x10, x11, x12, x13⟩ := id X
  have hcls : s.vm.findClass nm = some ((ev_D G).1 (100 + t)) := va_nmO ((ev_Ks X).2 t _ hty).2 hnm
  exact va_getC X.1 X.2.1 (x7.trans hl.1.symm) (ev_own X) (ev_word X hlk rfl _) (va_Dc.use (va_Dc.moved x4.alike (va_Dc.of (x5 _ hdc)))) (ev_word X hsel rfl _) (ev_word X hinst rfl _) (ev_word X hnat rfl _) (hM.moved x4.alike) ⟨_, hH.arr ha ht, rfl, hcls⟩ (by omega) (by omega) hdg (kk R s m args below meth c' w0 H locs ls X O hH hl)
end EvM
