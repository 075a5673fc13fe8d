/-! 'throw new E(text)' where E's own constructor names the next one by another number of its pool -/
section EvTX
variable {G : ev_gx} {M : ev_mx} {d pc : Nat} {L : List (Nat × Value)} {st : List Value} {w : ev_wd} {P : ev_r → ev_wd → Prop}
/-- the constructors of E and of those above it: E's own bytes are rx, its pool's number is jx -/
def ev_chX (X : String) (jx : Nat) (rx : ByteArray) (names : List String) : List Cond := match names with
  | [] => Bundle.passSAtoms X Bundle.tN jx rx
  | Y :: r => Bundle.passSAtoms X Y jx rx ++ Bundle.chainSAtoms Y r
theorem ev_chainX {args : Array Value} {s : State} {pl : Platform} (hpl : pl.magicAccessors = ({} : Platform).magicAccessors) {top : MethodId} (htop : s.methodNamed? (Bundle.initS Bundle.tN) = some top) {jx : Nat} {rx : ByteArray} (x0 : decode rx 0 = .ok (.aload_n 0, 1)) (x1 : decode rx 1 = .ok (.aload_n 1, 1)) (x2 : decode rx 2 = .ok (.invokespecial jx, 3)) (x5 : decode rx 5 = .ok (.return_, 1)) (names : List String) (X : String) (hX : Bundle.fit X = true) (hn : ∀ n ∈ names, Bundle.fit n = true) (h : ∀ c ∈ ev_chX X jx rx names, c.before args s = true) :
    ∃ (P1 : PassC) (Ps : List PassC), Ps.length = names.length ∧ P1.LinksS pl s ∧ (∀ P, P ∈ Ps → P.LinksS pl s) ∧ s.methodNamed? (Bundle.initS X) = some P1.m ∧ P1.sup = firstOf top (Ps.map (·.toPassT)) ∧ PassesOn top (Ps.map (·.toPassT)) := by
  cases names with
  | nil =>
    obtain ⟨P, L, hm, hs⟩ := PassC.ofS_atoms (args := args) (s := s) hpl (X := X) (Y := Bundle.tN) (Bundle.fit_spec hX).1 (by decide) x0 x1 x2 x5 h
    exact ⟨P, [], rfl, L, (fun _ hP => by cases hP), hm, Option.some.inj (hs.symm.trans htop), trivial⟩
  | cons Y r =>
    obtain ⟨P, L, hm, hs⟩ := PassC.ofS_atoms (args := args) (s := s) hpl (X := X) (Y := Y) (Bundle.fit_spec hX).1 (Bundle.fit_spec (hn Y List.mem_cons_self)).2 x0 x1 x2 x5 (fun c hc => h c (List.mem_append_left _ hc))
    obtain ⟨P', Ps, hlen, L', hL, hm', hsup, hpass⟩ := Bundle.chainS (args := args) hpl htop r Y (hn Y List.mem_cons_self) (fun n hn' => hn n (List.mem_cons_of_mem _ hn')) (fun c hc => h c (List.mem_append_right _ hc))
    refine ⟨P, P' :: Ps, by simp [hlen], L, ?_, hm, Option.some.inj (hs.symm.trans hm'), hsup, hpass⟩
    intro Q hQ
    rcases List.mem_cons.mp hQ with rfl | hQ
    · exact L'
    · exact hL Q hQ
/-- what is asked of E itself -/
def ev_oaE (own : String) (ic : Nat) (X : String) : List Cond :=
  [.methodLink own ic (Bundle.initS X), .instantiable X 6, .castable X X, .selects X Bundle.tFill0 Bundle.tFill0, .selects X Bundle.tFill Bundle.tFill,
   .lays X Bundle.tN "cause" "Ljava/lang/Throwable;", .lays X Bundle.tN "stackTrace" Bundle.steD, .lays X Bundle.tN "suppressedExceptions" Bundle.listD, .lays X Bundle.tN "detailMessage" "Ljava/lang/String;", .lays X Bundle.tN "backtrace" "Ljava/lang/Object;"]
/-- what is asked of Throwable beside the library's words -/
def ev_oaT : List Cond := [.fieldLink Bundle.tN 198 Bundle.tN "backtrace" "Ljava/lang/Object;", .lays Bundle.tN Bundle.tN "backtrace" "Ljava/lang/Object;", .isRef (.static Bundle.tN "UNASSIGNED_STACK" Bundle.steD), .isRef (.static Bundle.tN "SUPPRESSED_SENTINEL" Bundle.listD)]
def ev_oaX (own : String) (ic : Nat) (X : String) (jx : Nat) (rx : ByteArray) (names : List String) : List Cond := (Bundle.throwableAtoms ++ Bundle.throwableSAtoms) ++ (ev_chX X jx rx names ++ (ev_oaE own ic X ++ ev_oaT))
def ev_atX (G : ev_gx) (own : String) (ic : Nat) (X : String) (jx : Nat) (rx : ByteArray) (names : List String) : Prop :=
  ∀ a ∈ ev_oaX own ic X jx rx names, ∀ (s : State) (args : Array Value), (ev_s0 G).WarmedH s.vm → (∀ j : Nat, j < ev_b G → s.heap[j]? = (ev_s0 G).heap[j]?) → a.before args s = true
set_option maxHeartbeats 1000000 in
theorem ev_throwX {index ix ic jx c p1 p2 p3 p4 p5 qs : Nat} {q : vw_C} {names : List String} {tx : String} {rx : ByteArray} (x0 : decode rx 0 = .ok (.aload_n 0, 1)) (x1' : decode rx 1 = .ok (.aload_n 1, 1)) (x2' : decode rx 2 = .ok (.invokespecial jx, 3)) (x5' : decode rx 5 = .ok (.return_, 1)) (htr : G.2.2.1.platform.stackTraces = false)
    (hd0 : ev_d M.2.1 pc (.new index) 3 p1) (hd1 : ev_d M.2.1 p1 .dup 1 p2) (hd2 : ev_d M.2.1 p2 (.ldc ix) 2 p3) (hd3 : ev_d M.2.1 p3 (.invokespecial ic) 3 p4) (hd4 : ev_d M.2.1 p4 .athrow 1 p5)
    (hc : nm_cl[c]? = some q) (hok : ev_clok c q) (hlk : Cond.classLink M.1.cls index q.1 ∈ lw_tbl) (hz : ev_z w + 1 ≤ ev_b G + 601024) (hu : ev_u w + nm_sl c ≤ 7293034) (hZ : vk_R M.1.cls ix tx qs (ev_s0 G))
    (hcls : Bundle.fit q.1 = true) (hnames : ∀ n ∈ names, Bundle.fit n = true) (hat : ev_atX G M.1.cls ic q.1 jx rx names) (hout : ∀ h ∈ M.2.2.2.2, (decide (h.1 ≤ p4) && decide (p4 < h.2.1)) = false) (hfr : names.length + 3 < d) (hlen : names.length ≤ 3) (hst : (st.map fun v => v.category).sum ≤ 8)
    (h : ∀ f, P (.inr (ev_z w)) (ev_add w c 0 f (nm_sl c))) : ev_E G M d pc L st w P := by
  obtain ⟨hd0, rfl⟩ := hd0
  obtain ⟨hd1, rfl⟩ := hd1
  obtain ⟨hd2, rfl⟩ := hd2
  obtain ⟨hd3, rfl⟩ := hd3
  obtain ⟨hd4, -⟩ := hd4
  intro R s m args below meth c' w0 H locs ls X O hH hl
  have hKn := (ev_Ks X).1 c q hc
  obtain ⟨x1, x2, x3, x4, x5, x6, x7, x8, x9, x10, x11, x12, r1, r2, x15, x16⟩ := id X
  obtain ⟨o1, o2, o3, o4, o5⟩ := id O
  have hH1 := hH.1
  intro T0 hT0 S0
  have hsT : s.heap.size ≤ H.size := by
    have h1 : s.heap.size ≤ T0.heap.size := S0.same.2.1
    rw [hT0] at h1
    exact h1
  suffices key : W G.1 G.2.1 G.2.2.1 R s m args below meth c' H locs (ev_z w - ev_z w0) (ev_u w - ev_u w0) (ev_Q G s below w0 P) (F0 m pc ls st) from key T0 hT0 S0
  clear hT0 S0
  refine W.newcK X.1 X.2.1 (ev_own X) (ev_word X hlk rfl _) (ev_word X hok.2.2.2.1 rfl _) (ev_word X hok.2.2.2.2 rfl _) rfl hd0 (by omega) (by omega) hKn.2.1 hH1 fun H1 kX hkX e1 z1 oq => ?_
  refine lv_dup X.1 X.2.1 hd1 rfl ?_
  refine va_ldcS X.1 X.2.1 (ev_own X) (vk_R.warm x4 hZ) hd2 ?_
  intro T hT S
  have hown := ev_own X
  have hhat : ∀ a ∈ ev_oaX M.1.cls ic q.1 jx rx names, a.before args s = true := fun a ha => hat a ha s args x4 x16
  have a' : ∀ a, a ∈ ev_oaX M.1.cls ic q.1 jx rx names → a.holds args s none s [] = true := fun a ha => hhat a ha
  have howns : G.2.2.1.platform.frameOwnsMonitors = true := by rw [S.admits.platform]
  have hfin : G.2.2.1.platform.finalization = false := by rw [S.admits.platform]
  have hpl : G.2.2.1.platform.magicAccessors = ({} : Platform).magicAccessors := by rw [S.admits.platform]
  obtain ⟨TT, Z0, LL, -, Y⟩ := ThrowableC.of_atoms (args := args) howns hfin hpl (fun x hx => hhat x (by simp [ev_oaX, hx]))
  obtain ⟨Z, MM, LZ, LM, hnZ⟩ := Init0T.ofS_atoms (args := args) hpl LL Y (fun x hx => hhat x (by simp [ev_oaX, hx]))
  obtain ⟨P1, Ps, hlenP, L1, hL, hP1m, hlink1, hlink⟩ := ev_chainX (args := args) hpl hnZ x0 x1' x2' x5' names q.1 hcls hnames (fun x hx => hhat x (by simp [ev_oaX, hx]))
  have hfound : s.vm.findClass q.1 = some P1.m.cls := findClass_of_methodNamed hP1m
  have hcD : (ev_D G).1 c = P1.m.cls := Option.some.inj (hKn.2.1.symm.trans hfound)
  rw [hcD] at hkX e1
  obtain ⟨c1, kX', hc1, hk, hord, -, -, hn6⟩ := Cond.instantiable_spec (a' (.instantiable q.1 6) (by simp [ev_oaX, ev_oaE, ev_oaT]))
  cases Option.some.inj (hc1.symm.trans hfound)
  cases Option.some.inj (hkX.symm.trans hk)
  have hsel0 : selectMethod G.2.2.1.platform s.vm P1.m.cls TT.fill0 = .method TT.fill0 := by
    obtain ⟨c2, r2, m2, q1, q2, q3, q4, -⟩ := Cond.selects_spec (a' (.selects q.1 Bundle.tFill0 Bundle.tFill0) (by simp [ev_oaX, ev_oaE, ev_oaT]))
    cases Option.some.inj (q1.symm.trans hfound)
    cases Option.some.inj (q2.symm.trans (State.methodFound?_of_named Y.fill0 (by decide +kernel)))
    cases Option.some.inj (q3.symm.trans Y.fill0)
    rw [Launch.admits_selectMethod S.admits]; exact q4
  have hselF : selectMethod G.2.2.1.platform s.vm P1.m.cls TT.fill = .method TT.fill := by
    obtain ⟨c2, r2, m2, q1, q2, q3, q4, -⟩ := Cond.selects_spec (a' (.selects q.1 Bundle.tFill Bundle.tFill) (by simp [ev_oaX, ev_oaE, ev_oaT]))
    cases Option.some.inj (q1.symm.trans hfound)
    cases Option.some.inj (q2.symm.trans (State.methodFound?_of_named Y.fill (by decide +kernel)))
    cases Option.some.inj (q3.symm.trans Y.fill)
    rw [Launch.admits_selectMethod S.admits]; exact q4
  obtain ⟨cellS0, hcS0, hiss⟩ := Y.statics
  obtain ⟨u0, hu0⟩ := Cond.staticRefV Y.unassigned LL.unassignedStatic LL.statics hcS0 hiss (a' (.isRef (.static Bundle.tN "UNASSIGNED_STACK" Bundle.steD)) (by simp [ev_oaX, ev_oaE, ev_oaT]))
  obtain ⟨sen, hsen⟩ := Cond.staticRefV Y.sentinel LL.sentinelStatic LL.statics hcS0 hiss (a' (.isRef (.static Bundle.tN "SUPPRESSED_SENTINEL" Bundle.listD)) (by simp [ev_oaX, ev_oaE, ev_oaT]))
  obtain ⟨ci198, i198, fB, hk198, hg198, ha198, hsB, -, hnB, htB, hffB⟩ := Cond.ownField (t := .object "java/lang/Object") Y.found LL.cls (by decide +kernel) (a' (.fieldLink Bundle.tN 198 Bundle.tN "backtrace" "Ljava/lang/Object;") (by simp [ev_oaX, ev_oaE, ev_oaT])) (a' (.lays Bundle.tN Bundle.tN "backtrace" "Ljava/lang/Object;") (by simp [ev_oaX, ev_oaE, ev_oaT])) G.2.2.1.platform hpl
  obtain ⟨cellS, hcS', heS, -, hkeep⟩ := S.same.2.2.2.2.2 TT.aS cellS0 hcS0
  have hcellS : T.heap[TT.aS]? = some cellS := hcS'
  have hlocs : ∀ x ∈ locs, ∀ cell, s.heap[x.base]? = some cell → cell.vm.isStatics = false := by
    intro y hy cell hcell
    obtain ⟨c2, g1, g2, -⟩ := S.same.2.2.2.2.2 y.base cell hcell
    have g1' : T.heap[y.base]? = some c2 := g1
    have hlt : y.base < s.heap.size := (Array.getElem?_eq_some_iff.mp hcell).1
    have hlt2 : y.base < ev_z w := Nat.lt_of_lt_of_le hlt (by rw [← hH1]; exact hsT)
    rw [hT, oq y.base hlt2] at g1'
    have hvm : c2.vm = .none := by
      rcases hH.2.2.1 y.base (o1 y hy) hlt2 with ⟨-, k2⟩ | ⟨-, q', -, cell', k1, -, k3, -⟩
      · rw [g1'] at k2
        cases k2
        rfl
      · rw [g1'] at k1
        cases k1
        exact k3
    have : cell.vm = .none := by rw [g2] at hvm; exact hvm
    rw [this]
    rfl
  have hout' : ∀ i, (⟨TT.aS, i⟩ : Loc) ∉ locs := fun i hmem => by
    have := hlocs _ hmem cellS0 hcS0
    rw [hiss] at this; cases this
  have hknownS : cellS.vm ≠ .unknown := by
    rw [heS]; intro hu
    rw [show cellS0.vm = .unknown from hu] at hiss
    cases hiss
  have hneS : TT.aS ≠ ev_z w := Nat.ne_of_lt (Nat.lt_of_lt_of_le (Array.getElem?_eq_some_iff.mp hcS0).1 (by omega))
  obtain ⟨iM, hffM⟩ := Y.msg
  obtain ⟨tyC, dC, hdC, hdnC⟩ := Cond.laysAt hfound hk Y.cause (a' (.lays q.1 Bundle.tN "cause" "Ljava/lang/Throwable;") (by simp [ev_oaX, ev_oaE, ev_oaT]))
  obtain ⟨tyS, dS, hdS, hdnS⟩ := Cond.laysAt hfound hk Y.stack (a' (.lays q.1 Bundle.tN "stackTrace" Bundle.steD) (by simp [ev_oaX, ev_oaE, ev_oaT]))
  obtain ⟨tyP, dP, hdP, hdnP⟩ := Cond.laysAt hfound hk Y.supp (a' (.lays q.1 Bundle.tN "suppressedExceptions" Bundle.listD) (by simp [ev_oaX, ev_oaE, ev_oaT]))
  obtain ⟨tyM, dM, hdM, hdnM⟩ := Cond.laysAt hfound hk hffM (a' (.lays q.1 Bundle.tN "detailMessage" "Ljava/lang/String;") (by simp [ev_oaX, ev_oaE, ev_oaT]))
  obtain ⟨tyB, dB, hdB, hdnB⟩ := Cond.laysAt hfound hk hffB (a' (.lays q.1 Bundle.tN "backtrace" "Ljava/lang/Object;") (by simp [ev_oaX, ev_oaE, ev_oaT]))
  have bC := Cond.laysApart hdB hdC hdnB hdnC (by rw [hnB, Y.causeName]; decide +kernel)
  have bS := Cond.laysApart hdB hdS hdnB hdnS (by rw [hnB, Y.stackName]; decide +kernel)
  have bP := Cond.laysApart hdB hdP hdnB hdnP (by rw [hnB, Y.suppName]; decide +kernel)
  have hskip : SkipFacts TT G.2.2.1.platform s (fun u => u) u0 ((preparedCellV TT.toThrowableT (freshCell P1.m.cls kX) (ev_z w) u0 sen).withEntry T.cur) :=
    ⟨{ ci198 := ci198, i198 := i198, fBack := fB }, ⟨hk198, hg198, ha198, hsB⟩, by
      have := fresh_default (c := P1.m.cls) tyB
      rw [htB] at this
      simpa [preparedCellV, Cell.setSlot, Cell.withEntry, Array.getElem?_setIfInBounds, bC, bS, bP, bC.symm, bS.symm, bP.symm, defaultValue] using this, fun _ _ => rfl⟩
  have hd3' : decode c'.code (F0 m (pc + 3 + 1 + 2) ls (.ref qs :: .ref (ev_z w) :: .ref (ev_z w) :: st)).pc = .ok (.invokespecial ic, 3) := by rw [x2]; exact hd3
  obtain ⟨tm, methC, cdC, kC, vm₁, hnC, -, -, -, -, -, -, -, hW₁, st1⟩ := Steps.initColdS (tb := G.1.tables) (e := G.2.2.1) (below := below) (s := s) (U := T) S.here x1 S.warmed hpl hown (t := Bundle.initS q.1) rfl rfl (Bundle.fit_spec hcls).2
    (a' (.methodLink M.1.cls ic (Bundle.initS q.1)) (by simp [ev_oaX, ev_oaE, ev_oaT])) (hhat (.instanceMethod (Bundle.initS q.1)) (by cases names <;> simp [ev_oaX, ev_chX, Bundle.passSAtoms])) (bytes := rx) (maxL := 2) (hhat (.code (Bundle.initS q.1) rx 2 none) (by cases names <;> simp [ev_oaX, ev_chX, Bundle.passSAtoms]))
    (f := F0 m (pc + 3 + 1 + 2) ls (.ref qs :: .ref (ev_z w) :: .ref (ev_z w) :: st)) rfl (a := ev_z w) (msg := .ref qs) (rest := .ref (ev_z w) :: st) rfl hd3'
  cases Option.some.inj (hnC.symm.trans hP1m)
  have X₁ := S.noted hW₁
  have hmr : (F0 m (pc + 3 + 1 + 2) ls (.ref (ev_z w) :: st)).monitorRoom = 0 := rfl
  obtain ⟨vm₂, X₂, st2⟩ := X₁.ctorMessageOffV x1 (g := F0 m (pc + 3 + 1 + 2) ls (.ref (ev_z w) :: st)) rfl (hl.1.trans x7.symm) TT LL Z LZ MM LM (P1 :: Ps)
    (fun P hP => by rcases List.mem_cons.mp hP with rfl | hP; exact L1; exact hL P hP) ⟨hlink1, hlink⟩ (u0 := u0) (sen := sen) (self := ev_z w) (msg := .ref qs) rfl (cell := freshCell P1.m.cls kX) (cellS := cellS)
    (by show T.heap[ev_z w]? = _; rw [hT]; exact e1) (fun _ => by simp) (by simp) rfl rfl hsel0 hselF hcellS hneS hknownS (by rw [hkeep _ (hout' _)]; exact hu0) (by rw [hkeep _ (hout' _)]; exact hsen)
    (Takes.of_laid hk hord tyC (by rw [Y.causeType]; rfl)) (Takes.of_laid hk hord tyS (by rw [Y.stackType]; exact fits_refV_array _ u0)) (Takes.of_laid hk hord tyP (by rw [Y.suppType]; exact fits_refV_object _ sen))
    (Takes.of_laid hk hord tyM (by rw [Y.msgType]; rfl)) Y.objLocals hskip htr [] hd3'
    (by simp only [List.length_cons, hlenP]; omega) (by simp only [List.length_cons, hlenP]; simp only [List.map_cons, List.sum_cons, show (Value.ref (ev_z w)).category = 1 from rfl]; omega)
  have hd4' : decode c'.code (F0 m (pc + 3 + 1 + 2 + 3) ls (.ref (ev_z w) :: st)).pc = .ok (.athrow, 1) := by rw [x2]; exact hd4
  have hout2 : ∀ y ∈ c'.exceptionTable.toList, covers y (F0 m (pc + 3 + 1 + 2 + 3) ls (.ref (ev_z w) :: st)).pc = false := by
    intro y hy
    have := hout (y.startPc, y.endPc, y.handlerPc, y.catchType) (by rw [← x10]; exact List.mem_map.mpr ⟨y, hy, rfl⟩)
    exact this
  obtain ⟨hwalk, hrun, hended, hWU, hsame⟩ := X₂.athrowLeaves x1 (g := F0 m (pc + 3 + 1 + 2 + 3) ls (.ref (ev_z w) :: st)) rfl rfl rfl hout2 (a := ev_z w) (rest := st) rfl hd4' x9
  have hlt : ev_z w < ((T.setVm vm₁).setVm vm₂).heap.size := by
    show ev_z w < T.heap.size
    rw [hT, z1]
    omega
  have hU := heapAt_setCell_self (s := (T.setVm vm₁).setVm vm₂) (plainBareV TT.toThrowableT (freshCell P1.m.cls kX) (ev_z w) u0 sen (.ref qs)) hlt
  generalize hnc : plainBareV TT.toThrowableT (freshCell P1.m.cls kX) (ev_z w) u0 sen (.ref qs) = nc at hwalk hrun hended hWU hsame hU st2
  have hncls : nc.cls = P1.m.cls := by rw [← hnc]; rfl
  have hnvm : nc.vm = .none := by rw [← hnc]; rfl
  have hnsz : nc.slots.size = (blank P1.m.cls kX).slots.size := by
    rw [← hnc]
    simp [plainBareV, preparedCellV, Cell.setSlot, blank]
  have hborn := u_born (nm_ft c) (ev_lays X hok args) (fun w h => h) hKn (by rw [hcD]; exact hk) (by rw [hcD]; exact e1) hok.2.2.1
  obtain ⟨cb, b1, b2, b3, b4⟩ := hborn
  have hcb : cb = blank P1.m.cls kX := Option.some.inj (b1.symm.trans e1)
  refine ⟨_, st1 _ (fun acts => by rw [doInvoke_state]; exact st2 _ hwalk), .inr (ev_z w), ev_add w c 0 (fun k => (nc.slots[(ev_D G).2 c k]?).getD .null) (nm_sl c), locs ++ [⟨ev_z w, TT.fCause.slot⟩, ⟨ev_z w, TT.fStack.slot⟩, ⟨ev_z w, TT.fSupp.slot⟩, ⟨ev_z w, TT.fStack.slot⟩, ⟨ev_z w, TT.fMsg.slot⟩], h _, hrun, hended, ?_, hWU, ?_, ?_⟩
  · refine hH.new (by
      show (((T.setVm vm₁).setVm vm₂).setCell (ev_z w) nc).heap.size = _
      rw [size_setCell]
      show T.heap.size = _
      rw [hT, z1, hH1]) (fun y hy => ?_) (Or.inr ?_)
    · show (((T.setVm vm₁).setVm vm₂).setCell (ev_z w) nc).heap[y]? = _
      rw [heapAt_setCell_ne _ (show ev_z w ≠ y by omega)]
      show T.heap[y]? = _
      rw [hT]
      exact oq y (by omega)
    · obtain ⟨a1, a2, a3⟩ := ev_add_at w c 0 (fun k => (nc.slots[(ev_D G).2 c k]?).getD .null) (nm_sl c)
      rw [a1, a3]
      refine ⟨nm_lt c q hc, q, hc, nc, hU, by rw [hcD]; exact hncls, hnvm, fun k hk2 => ?_⟩
      have hsl := k2_hasslot (b4 k hk2)
      rw [hcb, ← hnsz] at hsl
      simp [Array.getElem?_eq_getElem hsl]
  · have e2 : ev_z (ev_add w c 0 (fun k => (nc.slots[(ev_D G).2 c k]?).getD .null) (nm_sl c)) - ev_z w0 = ev_z w - ev_z w0 + 1 := by
      show ev_z w + 1 - ev_z w0 = _
      omega
    have e3 : ev_u (ev_add w c 0 (fun k => (nc.slots[(ev_D G).2 c k]?).getD .null) (nm_sl c)) - ev_u w0 = ev_u w - ev_u w0 + nm_sl c := by
      show ev_u w + nm_sl c - ev_u w0 = _
      omega
    rw [e2, e3]
    exact hsame
  · refine ⟨fun y hy => ?_, Nat.le_succ_of_le o2, Nat.le_trans o3 (Nat.le_add_right _ _), hz, hu⟩
    rcases List.mem_append.mp hy with h1 | h1
    · exact o1 y h1
    · have hb : y.base = ev_z w := by
        simp only [List.mem_cons, List.not_mem_nil, or_false] at h1
        rcases h1 with rfl | rfl | rfl | rfl | rfl <;> rfl
      rw [hb]
      exact hH.2.1
end EvTX
