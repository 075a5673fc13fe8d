/-! what the Statement gives of the law's start -/
/-- a word of the start that holds in every later state whose old cells are as they were -/
def st_ok (s : State) (a : Cond) : Prop := ∀ (U : State) (args : Array Value), s.WarmedH U.vm → (∀ j : Nat, j < s.heap.size → U.heap[j]? = s.heap[j]?) → a.before args U = true
section StA
variable {args : Array Value} {s : State}
theorem st_w (hts : ∀ w ∈ lw_tbl, w.before args s = true) {a : Cond} (hm : a ∈ lw_tbl) (hk : (a.keepsFace && a.onTables) = true) : st_ok s a := by
  intro U a' hW _
  have hk' := Bool.and_eq_true_iff.mp hk
  have h1 := Cond.before_shiftedFace (State.Shifted.of_warmed hW) a hk'.1 (hts a hm)
  rw [Cond.onTables_vm (A' := a') (U' := U) U.vm a hk'.2] at h1
  exact h1
theorem st_lw (hts : ∀ w ∈ lw_tbl, w.before args s = true) {C n d : String} (hm : Cond.laysStatic C n d ∈ lw_tbl) : st_ok s (Cond.laysStatic C n d) := by
  intro U a' hW hq
  have h1 := Cond.before_shiftedFace (State.Shifted.of_warmed hW) (Cond.laysStatic C n d) rfl (hts _ hm)
  obtain ⟨c, k, i, f, a, cell, hc, hi, hst, ha, hcell, hs, hcls, hlt, hty⟩ := Cond.laysStatic_spec h1
  have hc' : U.vm.findClass C = some c := hc
  have hi' : U.fieldFound? C n d = some (c, k, i, f) := hi
  have hcell' : U.heap[a]? = some cell := by
    rw [hq a (Array.getElem?_eq_some_iff.mp hcell).1]
    exact hcell
  simp [Cond.before, Cond.holds, Cond.value, hc', hi', hst, ha, hcell', hs, hcls, hlt, hty]
theorem st_rf (hts : ∀ w ∈ lw_tbl, w.before args s = true) {C n d : String} (hm : Cond.laysStatic C n d ∈ lw_tbl) (h : (Cond.isRef (.static C n d)).before args s = true) : st_ok s (Cond.isRef (.static C n d)) := by
  intro U a' hW hq
  have h1 := Cond.before_shiftedFace (State.Shifted.of_warmed hW) (Cond.laysStatic C n d) rfl (hts _ hm)
  have h2 := Cond.before_shiftedFace (State.Shifted.of_warmed hW) (Cond.isRef (.static C n d)) rfl h
  obtain ⟨c, k, i, f, a, cell, hc, hi, hst, ha, hcell, hs, hcls, hlt, hty⟩ := Cond.laysStatic_spec h1
  obtain ⟨v, hv, hr⟩ := Cond.isRef_spec h2
  obtain ⟨-, a2, cell2, ha2, hcell2, -, hslot⟩ := Term.static_spec hi hv
  cases ha.symm.trans ha2
  cases hcell.symm.trans hcell2
  have hi' : U.fieldFound? C n d = some (c, k, i, f) := hi
  have hcell' : U.heap[a]? = some cell := by
    rw [hq a (Array.getElem?_eq_some_iff.mp hcell).1]
    exact hcell
  have he : (Term.static C n d).eval a' U none [] U = some v := by
    simp [Term.eval, State.fieldNamed?, hi', hst, ha, hcell', hs, hslot]
  cases v <;> first | (simp [Cond.before, Cond.holds, Cond.value, he]; done) | (cases hr)
theorem st_arrP {ty : FieldType} (h : (Cond.arrayClass ty).before args s = true) : ∃ cA, ArrOfT s cA ty ∧ s.vm.findClass ("[" ++ ty.toString) = some cA := by
  obtain ⟨c, k, comp, h1, h2, h3⟩ := Cond.arrayClass_spec h
  exact ⟨c, fun n z => ⟨fun k h => (by cases h), k, h2, comp, h3⟩, h1⟩
theorem st_arrO {n : String} (h : (Cond.arrayOver (.object n)).before args s = true) : ∃ cA, ArrOfT s cA (.object n) ∧ va_RA s cA (.object n) := by
  obtain ⟨comp, c, k, h1, -, h3, h4, h5⟩ := Cond.arrayOver_spec h
  exact ⟨c, fun n z => ⟨fun k h => (by cases h), k, h3, comp, h4⟩, k, comp, h3, h4, h1, h5⟩
theorem st_at (hts : ∀ w ∈ lw_tbl, w.before args s = true) : ∀ (t : Nat) (ty : FieldType), nm_at[t]? = some ty → ∃ cA, ArrOfT s cA ty ∧ va_RA s cA ty
  | 0, ty, h => by cases h; exact st_arrP (hts _ ac_int)
  | 1, ty, h => by cases h; exact st_arrP (hts _ ac_boolean)
  | 2, ty, h => by cases h; exact st_arrP (hts _ ac_long)
  | 3, ty, h => by cases h; exact st_arrO (hts _ ao_OO)
  | 4, ty, h => by cases h; exact st_arrO (hts _ ao_E)
  | 5, ty, h => by cases h; exact st_arrO (hts _ ao_S)
  | 6, ty, h => by cases h; exact st_arrO (hts _ ao_C)
  | 7, ty, h => by cases h; exact st_arrO (hts _ ao_F)
  | k + 8, ty, h => by cases h
theorem st_ck : ∀ (c : Nat) (q : vw_C), nm_cl[c]? = some q → ev_clok c q
  | 0, q, h => by cases h; exact ck_0
  | 1, q, h => by cases h; exact ck_1
  | 2, q, h => by cases h; exact ck_2
  | 3, q, h => by cases h; exact ck_3
  | 4, q, h => by cases h; exact ck_4
  | 5, q, h => by cases h; exact ck_5
  | 6, q, h => by cases h; exact ck_6
  | 7, q, h => by cases h; exact ck_7
  | 8, q, h => by cases h; exact ck_8
  | 9, q, h => by cases h; exact ck_9
  | 10, q, h => by cases h; exact ck_10
  | 11, q, h => by cases h; exact ck_11
  | 12, q, h => by cases h; exact ck_12
  | k + 13, q, h => by cases h
theorem st_lt {c : Nat} {q : vw_C} (h : nm_cl[c]? = some q) : c < 100 := by
  have h1 := (List.getElem?_eq_some_iff.mp h).1
  have h2 : nm_cl.length = 13 := rfl
  omega
theorem st_K (hts : ∀ w ∈ lw_tbl, w.before args s = true) : ∃ D : va_G, ev_K D s := by
  have hc : ∀ c : Nat, ∃ p : ClassId × (Nat → Nat), ∀ q : vw_C, nm_cl[c]? = some q → u_Kn s q.1 q.2.1 q.2.2 p.1 p.2 := by
    intro c
    cases hq : nm_cl[c]? with
    | none => exact ⟨(0, fun _ => 0), fun q h => by cases h⟩
    | some q =>
      have hk := st_ck c q hq
      obtain ⟨cC, iS, h⟩ := u_known hts hk.1 (hts _ hk.2.2.2.1)
      exact ⟨(cC, iS), fun q' h' => by cases h'; exact h⟩
  have ha : ∀ t : Nat, ∃ cA : ClassId, ∀ ty : FieldType, nm_at[t]? = some ty → ArrOfT s cA ty ∧ va_RA s cA ty := by
    intro t
    cases hq : nm_at[t]? with
    | none => exact ⟨0, fun q h => by cases h⟩
    | some ty =>
      obtain ⟨cA, h⟩ := st_at hts t ty hq
      exact ⟨cA, fun q' h' => by cases h'; exact h⟩
  refine ⟨(fun c => if c < 100 then (hc c).choose.1 else (ha (c - 100)).choose, fun c => (hc c).choose.2), fun c q h => ?_, fun t ty h => ?_⟩
  · show u_Kn s q.1 q.2.1 q.2.2 (if c < 100 then (hc c).choose.1 else (ha (c - 100)).choose) _
    rw [if_pos (st_lt h)]
    exact (hc c).choose_spec q h
  · show ArrOfT s (if 100 + t < 100 then (hc (100 + t)).choose.1 else (ha (100 + t - 100)).choose) ty ∧ va_RA s (if 100 + t < 100 then (hc (100 + t)).choose.1 else (ha (100 + t - 100)).choose) ty
    rw [if_neg (by omega), show 100 + t - 100 = t by omega]
    exact (ha t).choose_spec ty h
end StA
section StB
variable {args : Array Value} {s : State}
theorem st_thr (hts : ∀ w ∈ lw_tbl, w.before args s = true) : ∀ a ∈ Bundle.throwableAtoms, st_ok s a := (List.forall_mem_cons.mpr ⟨st_w hts (sg_0_0 _ (List.mem_of_getElem? (i := 13) rfl)) rfl, (List.forall_mem_cons.mpr ⟨st_w hts (sg_2_11 _ (List.mem_of_getElem? (i := 7) rfl)) rfl, (List.forall_mem_cons.mpr ⟨st_w hts (sg_2_12 _ (List.mem_of_getElem? (i := 0) rfl)) rfl, (List.forall_mem_cons.mpr ⟨st_w hts (sg_2_12 _ (List.mem_of_getElem? (i := 4) rfl)) rfl, (List.forall_mem_cons.mpr ⟨st_w hts (sg_2_12 _ (List.mem_of_getElem? (i := 7) rfl)) rfl, (List.forall_mem_cons.mpr ⟨st_w hts (sg_2_12 _ (List.mem_of_getElem? (i := 9) rfl)) rfl, (List.forall_mem_cons.mpr ⟨st_w hts (sg_2_11 _ (List.mem_of_getElem? (i := 8) rfl)) rfl, (List.forall_mem_cons.mpr ⟨st_w hts (sg_2_11 _ (List.mem_of_getElem? (i := 9) rfl)) rfl, (List.forall_mem_cons.mpr ⟨st_w hts (sg_0_1 _ (List.mem_of_getElem? (i := 15) rfl)) rfl, (List.forall_mem_cons.mpr ⟨st_w hts (sg_0_2 _ (List.mem_of_getElem? (i := 0) rfl)) rfl, (List.forall_mem_cons.mpr ⟨st_w hts (sg_2_11 _ (List.mem_of_getElem? (i := 10) rfl)) rfl, (List.forall_mem_cons.mpr ⟨st_w hts (sg_2_11 _ (List.mem_of_getElem? (i := 15) rfl)) rfl, (List.forall_mem_cons.mpr ⟨st_w hts (sg_2_12 _ (List.mem_of_getElem? (i := 5) rfl)) rfl, (List.forall_mem_cons.mpr ⟨st_w hts (sg_2_13 _ (List.mem_of_getElem? (i := 9) rfl)) rfl, (List.forall_mem_cons.mpr ⟨st_w hts (sg_2_10 _ (List.mem_of_getElem? (i := 13) rfl)) rfl, (List.forall_mem_cons.mpr ⟨st_w hts (sg_2_13 _ (List.mem_of_getElem? (i := 10) rfl)) rfl, (List.forall_mem_cons.mpr ⟨st_w hts (sg_2_10 _ (List.mem_of_getElem? (i := 15) rfl)) rfl, (List.forall_mem_cons.mpr ⟨st_w hts (sg_2_13 _ (List.mem_of_getElem? (i := 11) rfl)) rfl, (List.forall_mem_cons.mpr ⟨st_w hts (sg_2_11 _ (List.mem_of_getElem? (i := 1) rfl)) rfl, (List.forall_mem_cons.mpr ⟨st_w hts (sg_2_11 _ (List.mem_of_getElem? (i := 11) rfl)) rfl, (List.forall_mem_cons.mpr ⟨st_lw hts (sg_2_11 _ (List.mem_of_getElem? (i := 12) rfl)), (List.forall_mem_cons.mpr ⟨st_w hts (sg_2_11 _ (List.mem_of_getElem? (i := 13) rfl)) rfl, (List.forall_mem_cons.mpr ⟨st_lw hts (sg_2_11 _ (List.mem_of_getElem? (i := 14) rfl)), (List.forall_mem_cons.mpr ⟨st_w hts (sg_2_11 _ (List.mem_of_getElem? (i := 3) rfl)) rfl, (fun _ h => absurd h List.not_mem_nil)⟩)⟩)⟩)⟩)⟩)⟩)⟩)⟩)⟩)⟩)⟩)⟩)⟩)⟩)⟩)⟩)⟩)⟩)⟩)⟩)⟩)⟩)⟩)⟩)
theorem st_thrS (hts : ∀ w ∈ lw_tbl, w.before args s = true) : ∀ a ∈ Bundle.throwableSAtoms, st_ok s a := (List.forall_mem_cons.mpr ⟨st_w hts (sg_2_13 _ (List.mem_of_getElem? (i := 5) rfl)) rfl, (List.forall_mem_cons.mpr ⟨st_w hts (sg_2_13 _ (List.mem_of_getElem? (i := 6) rfl)) rfl, (List.forall_mem_cons.mpr ⟨st_w hts (sg_2_13 _ (List.mem_of_getElem? (i := 8) rfl)) rfl, (List.forall_mem_cons.mpr ⟨st_w hts (sg_2_11 _ (List.mem_of_getElem? (i := 3) rfl)) rfl, (fun _ h => absurd h List.not_mem_nil)⟩)⟩)⟩)⟩)
theorem st_ps1 (hts : ∀ w ∈ lw_tbl, w.before args s = true) : ∀ a ∈ Bundle.passSAtoms "java/lang/RuntimeException" "java/lang/Exception" 7 Bundle.six, st_ok s a := (List.forall_mem_cons.mpr ⟨st_w hts (sg_2_12 _ (List.mem_of_getElem? (i := 15) rfl)) rfl, (List.forall_mem_cons.mpr ⟨st_w hts (sg_2_13 _ (List.mem_of_getElem? (i := 0) rfl)) rfl, (List.forall_mem_cons.mpr ⟨st_w hts (sg_2_13 _ (List.mem_of_getElem? (i := 1) rfl)) rfl, (List.forall_mem_cons.mpr ⟨st_w hts (sg_2_13 _ (List.mem_of_getElem? (i := 2) rfl)) rfl, (List.forall_mem_cons.mpr ⟨st_w hts (sg_2_10 _ (List.mem_of_getElem? (i := 7) rfl)) rfl, (fun _ h => absurd h List.not_mem_nil)⟩)⟩)⟩)⟩)⟩)
theorem st_ps2 (hts : ∀ w ∈ lw_tbl, w.before args s = true) : ∀ a ∈ Bundle.passSAtoms "java/lang/Exception" Bundle.tN 7 Bundle.six, st_ok s a := (List.forall_mem_cons.mpr ⟨st_w hts (sg_2_13 _ (List.mem_of_getElem? (i := 2) rfl)) rfl, (List.forall_mem_cons.mpr ⟨st_w hts (sg_2_13 _ (List.mem_of_getElem? (i := 3) rfl)) rfl, (List.forall_mem_cons.mpr ⟨st_w hts (sg_2_13 _ (List.mem_of_getElem? (i := 4) rfl)) rfl, (List.forall_mem_cons.mpr ⟨st_w hts (sg_2_13 _ (List.mem_of_getElem? (i := 5) rfl)) rfl, (List.forall_mem_cons.mpr ⟨st_w hts (sg_2_10 _ (List.mem_of_getElem? (i := 9) rfl)) rfl, (fun _ h => absurd h List.not_mem_nil)⟩)⟩)⟩)⟩)⟩)
theorem st_T (hts : ∀ w ∈ lw_tbl, w.before args s = true) (h1 : (Cond.isRef (.static Bundle.tN "UNASSIGNED_STACK" Bundle.steD)).before args s = true) (h2 : (Cond.isRef (.static Bundle.tN "SUPPRESSED_SENTINEL" Bundle.listD)).before args s = true) : ∀ a ∈ ev_oaT, st_ok s a := (List.forall_mem_cons.mpr ⟨st_w hts (sg_2_11 _ (List.mem_of_getElem? (i := 6) rfl)) rfl, (List.forall_mem_cons.mpr ⟨st_w hts (sg_2_11 _ (List.mem_of_getElem? (i := 5) rfl)) rfl, (List.forall_mem_cons.mpr ⟨st_rf hts (sg_2_11 _ (List.mem_of_getElem? (i := 12) rfl)) h1, (List.forall_mem_cons.mpr ⟨st_rf hts (sg_2_11 _ (List.mem_of_getElem? (i := 14) rfl)) h2, (fun _ h => absurd h List.not_mem_nil)⟩)⟩)⟩)⟩)
theorem st_px0 (hts : ∀ w ∈ lw_tbl, w.before args s = true) : ∀ a ∈ Bundle.passSAtoms "java/lang/IndexOutOfBoundsException" "java/lang/RuntimeException" 7 Bundle.six, st_ok s a := (List.forall_mem_cons.mpr ⟨st_w hts (sg_2_12 _ (List.mem_of_getElem? (i := 12) rfl)) rfl, (List.forall_mem_cons.mpr ⟨st_w hts (sg_2_12 _ (List.mem_of_getElem? (i := 13) rfl)) rfl, (List.forall_mem_cons.mpr ⟨st_w hts (sg_2_12 _ (List.mem_of_getElem? (i := 14) rfl)) rfl, (List.forall_mem_cons.mpr ⟨st_w hts (sg_2_12 _ (List.mem_of_getElem? (i := 15) rfl)) rfl, (List.forall_mem_cons.mpr ⟨st_w hts (sg_2_10 _ (List.mem_of_getElem? (i := 5) rfl)) rfl, (fun _ h => absurd h List.not_mem_nil)⟩)⟩)⟩)⟩)⟩)
theorem st_pe0 (hts : ∀ w ∈ lw_tbl, w.before args s = true) : ∀ a ∈ ev_oaE "ThreeLinkPair" 129 "java/lang/IndexOutOfBoundsException", st_ok s a := (List.forall_mem_cons.mpr ⟨st_w hts (sg_2_12 _ (List.mem_of_getElem? (i := 11) rfl)) rfl, (List.forall_mem_cons.mpr ⟨st_w hts (sg_2_10 _ (List.mem_of_getElem? (i := 2) rfl)) rfl, (List.forall_mem_cons.mpr ⟨st_w hts (sg_2_10 _ (List.mem_of_getElem? (i := 3) rfl)) rfl, (List.forall_mem_cons.mpr ⟨st_w hts (sg_2_10 _ (List.mem_of_getElem? (i := 10) rfl)) rfl, (List.forall_mem_cons.mpr ⟨st_w hts (sg_2_10 _ (List.mem_of_getElem? (i := 11) rfl)) rfl, (List.forall_mem_cons.mpr ⟨st_w hts (sg_2_10 _ (List.mem_of_getElem? (i := 12) rfl)) rfl, (List.forall_mem_cons.mpr ⟨st_w hts (sg_2_10 _ (List.mem_of_getElem? (i := 14) rfl)) rfl, (List.forall_mem_cons.mpr ⟨st_w hts (sg_2_11 _ (List.mem_of_getElem? (i := 0) rfl)) rfl, (List.forall_mem_cons.mpr ⟨st_w hts (sg_2_11 _ (List.mem_of_getElem? (i := 2) rfl)) rfl, (List.forall_mem_cons.mpr ⟨st_w hts (sg_2_11 _ (List.mem_of_getElem? (i := 4) rfl)) rfl, (fun _ h => absurd h List.not_mem_nil)⟩)⟩)⟩)⟩)⟩)⟩)⟩)⟩)⟩)⟩)
theorem st_at0 (hts : ∀ w ∈ lw_tbl, w.before args s = true) (h1 : (Cond.isRef (.static Bundle.tN "UNASSIGNED_STACK" Bundle.steD)).before args s = true) (h2 : (Cond.isRef (.static Bundle.tN "SUPPRESSED_SENTINEL" Bundle.listD)).before args s = true) : ∀ a ∈ ev_oaX "ThreeLinkPair" 129 "java/lang/IndexOutOfBoundsException" 7 Bundle.six cr_nm, st_ok s a :=
  List.forall_mem_append.mpr ⟨List.forall_mem_append.mpr ⟨st_thr hts, st_thrS hts⟩, List.forall_mem_append.mpr ⟨List.forall_mem_append.mpr ⟨st_px0 hts, List.forall_mem_append.mpr ⟨st_ps1 hts, st_ps2 hts⟩⟩, List.forall_mem_append.mpr ⟨st_pe0 hts, st_T hts h1 h2⟩⟩⟩
theorem st_px1 (hts : ∀ w ∈ lw_tbl, w.before args s = true) : ∀ a ∈ Bundle.passSAtoms "java/lang/IllegalArgumentException" "java/lang/RuntimeException" 7 Bundle.six, st_ok s a := (List.forall_mem_cons.mpr ⟨st_w hts (sg_3_1 _ (List.mem_of_getElem? (i := 6) rfl)) rfl, (List.forall_mem_cons.mpr ⟨st_w hts (sg_3_1 _ (List.mem_of_getElem? (i := 7) rfl)) rfl, (List.forall_mem_cons.mpr ⟨st_w hts (sg_3_1 _ (List.mem_of_getElem? (i := 8) rfl)) rfl, (List.forall_mem_cons.mpr ⟨st_w hts (sg_2_12 _ (List.mem_of_getElem? (i := 15) rfl)) rfl, (List.forall_mem_cons.mpr ⟨st_w hts (sg_2_10 _ (List.mem_of_getElem? (i := 5) rfl)) rfl, (fun _ h => absurd h List.not_mem_nil)⟩)⟩)⟩)⟩)⟩)
theorem st_pe1 (hts : ∀ w ∈ lw_tbl, w.before args s = true) : ∀ a ∈ ev_oaE "ThreeLinkPair" 48 "java/lang/IllegalArgumentException", st_ok s a := (List.forall_mem_cons.mpr ⟨st_w hts (sg_3_1 _ (List.mem_of_getElem? (i := 5) rfl)) rfl, (List.forall_mem_cons.mpr ⟨st_w hts (sg_3_0 _ (List.mem_of_getElem? (i := 12) rfl)) rfl, (List.forall_mem_cons.mpr ⟨st_w hts (sg_3_0 _ (List.mem_of_getElem? (i := 13) rfl)) rfl, (List.forall_mem_cons.mpr ⟨st_w hts (sg_3_0 _ (List.mem_of_getElem? (i := 14) rfl)) rfl, (List.forall_mem_cons.mpr ⟨st_w hts (sg_2_12 _ (List.mem_of_getElem? (i := 2) rfl)) rfl, (List.forall_mem_cons.mpr ⟨st_w hts (sg_3_0 _ (List.mem_of_getElem? (i := 15) rfl)) rfl, (List.forall_mem_cons.mpr ⟨st_w hts (sg_3_1 _ (List.mem_of_getElem? (i := 0) rfl)) rfl, (List.forall_mem_cons.mpr ⟨st_w hts (sg_3_1 _ (List.mem_of_getElem? (i := 1) rfl)) rfl, (List.forall_mem_cons.mpr ⟨st_w hts (sg_3_1 _ (List.mem_of_getElem? (i := 2) rfl)) rfl, (List.forall_mem_cons.mpr ⟨st_w hts (sg_3_1 _ (List.mem_of_getElem? (i := 3) rfl)) rfl, (fun _ h => absurd h List.not_mem_nil)⟩)⟩)⟩)⟩)⟩)⟩)⟩)⟩)⟩)⟩)
theorem st_at1 (hts : ∀ w ∈ lw_tbl, w.before args s = true) (h1 : (Cond.isRef (.static Bundle.tN "UNASSIGNED_STACK" Bundle.steD)).before args s = true) (h2 : (Cond.isRef (.static Bundle.tN "SUPPRESSED_SENTINEL" Bundle.listD)).before args s = true) : ∀ a ∈ ev_oaX "ThreeLinkPair" 48 "java/lang/IllegalArgumentException" 7 Bundle.six cr_nm, st_ok s a :=
  List.forall_mem_append.mpr ⟨List.forall_mem_append.mpr ⟨st_thr hts, st_thrS hts⟩, List.forall_mem_append.mpr ⟨List.forall_mem_append.mpr ⟨st_px1 hts, List.forall_mem_append.mpr ⟨st_ps1 hts, st_ps2 hts⟩⟩, List.forall_mem_append.mpr ⟨st_pe1 hts, st_T hts h1 h2⟩⟩⟩
theorem st_px2 (hts : ∀ w ∈ lw_tbl, w.before args s = true) : ∀ a ∈ Bundle.passSAtoms "java/util/NoSuchElementException" "java/lang/RuntimeException" 13 cr_by, st_ok s a := (List.forall_mem_cons.mpr ⟨st_w hts (sg_3_7 _ (List.mem_of_getElem? (i := 3) rfl)) rfl, (List.forall_mem_cons.mpr ⟨st_w hts (sg_3_7 _ (List.mem_of_getElem? (i := 4) rfl)) rfl, (List.forall_mem_cons.mpr ⟨st_w hts (sg_3_7 _ (List.mem_of_getElem? (i := 5) rfl)) rfl, (List.forall_mem_cons.mpr ⟨st_w hts (sg_2_12 _ (List.mem_of_getElem? (i := 15) rfl)) rfl, (List.forall_mem_cons.mpr ⟨st_w hts (sg_2_10 _ (List.mem_of_getElem? (i := 5) rfl)) rfl, (fun _ h => absurd h List.not_mem_nil)⟩)⟩)⟩)⟩)⟩)
theorem st_pe2 (hts : ∀ w ∈ lw_tbl, w.before args s = true) : ∀ a ∈ ev_oaE "ThreeLinkPair" 164 "java/util/NoSuchElementException", st_ok s a := (List.forall_mem_cons.mpr ⟨st_w hts (sg_3_7 _ (List.mem_of_getElem? (i := 2) rfl)) rfl, (List.forall_mem_cons.mpr ⟨st_w hts (sg_3_6 _ (List.mem_of_getElem? (i := 9) rfl)) rfl, (List.forall_mem_cons.mpr ⟨st_w hts (sg_3_6 _ (List.mem_of_getElem? (i := 10) rfl)) rfl, (List.forall_mem_cons.mpr ⟨st_w hts (sg_3_6 _ (List.mem_of_getElem? (i := 11) rfl)) rfl, (List.forall_mem_cons.mpr ⟨st_w hts (sg_2_12 _ (List.mem_of_getElem? (i := 3) rfl)) rfl, (List.forall_mem_cons.mpr ⟨st_w hts (sg_3_6 _ (List.mem_of_getElem? (i := 12) rfl)) rfl, (List.forall_mem_cons.mpr ⟨st_w hts (sg_3_6 _ (List.mem_of_getElem? (i := 13) rfl)) rfl, (List.forall_mem_cons.mpr ⟨st_w hts (sg_3_6 _ (List.mem_of_getElem? (i := 14) rfl)) rfl, (List.forall_mem_cons.mpr ⟨st_w hts (sg_3_6 _ (List.mem_of_getElem? (i := 15) rfl)) rfl, (List.forall_mem_cons.mpr ⟨st_w hts (sg_3_7 _ (List.mem_of_getElem? (i := 0) rfl)) rfl, (fun _ h => absurd h List.not_mem_nil)⟩)⟩)⟩)⟩)⟩)⟩)⟩)⟩)⟩)⟩)
theorem st_at2 (hts : ∀ w ∈ lw_tbl, w.before args s = true) (h1 : (Cond.isRef (.static Bundle.tN "UNASSIGNED_STACK" Bundle.steD)).before args s = true) (h2 : (Cond.isRef (.static Bundle.tN "SUPPRESSED_SENTINEL" Bundle.listD)).before args s = true) : ∀ a ∈ ev_oaX "ThreeLinkPair" 164 "java/util/NoSuchElementException" 13 cr_by cr_nm, st_ok s a :=
  List.forall_mem_append.mpr ⟨List.forall_mem_append.mpr ⟨st_thr hts, st_thrS hts⟩, List.forall_mem_append.mpr ⟨List.forall_mem_append.mpr ⟨st_px2 hts, List.forall_mem_append.mpr ⟨st_ps1 hts, st_ps2 hts⟩⟩, List.forall_mem_append.mpr ⟨st_pe2 hts, st_T hts h1 h2⟩⟩⟩
theorem st_tx {ix : Nat} {tx : String} (h1 : (Cond.stringRef "ThreeLinkPair" ix tx).before args s = true) (h2 : (Cond.exactly (.string "ThreeLinkPair" ix) "java/lang/String").before args s = true) : ∃ (tx : String) (qs : Nat), vk_R "ThreeLinkPair" ix tx qs s := by
  obtain ⟨a, c, cell, k, h, -⟩ := Cond.exactly_spec h2
  exact ⟨tx, a, vk_R.of h1 h⟩
theorem st_Y (p : Program) (l : Launch) (e : Env) (D : va_G) (htr : e.platform.stackTraces = false) (hts : ∀ w ∈ lw_tbl, w.before args s = true) (hg : (Jvm.Cond.and given_1 narrow_1).before args s = true) : ev_Y (p, l, e, s, args, s.heap.size, D) := by
  have hs := flat_of_before _ hg
  refine ⟨htr, fun ix hix => ?_, st_at0 hts (hs _ (List.mem_of_getElem? (i := 8) rfl)) (hs _ (List.mem_of_getElem? (i := 9) rfl)), st_at1 hts (hs _ (List.mem_of_getElem? (i := 8) rfl)) (hs _ (List.mem_of_getElem? (i := 9) rfl)), st_at2 hts (hs _ (List.mem_of_getElem? (i := 8) rfl)) (hs _ (List.mem_of_getElem? (i := 9) rfl))⟩
  rcases hix with rfl | rfl | rfl | rfl | rfl | rfl
  · exact st_tx (hts _ (sg_2_12 _ (List.mem_of_getElem? (i := 10) rfl))) (hs _ (List.mem_of_getElem? (i := 47) rfl))
  · exact st_tx (hts _ (sg_2_14 _ (List.mem_of_getElem? (i := 5) rfl))) (hs _ (List.mem_of_getElem? (i := 62) rfl))
  · exact st_tx (hts _ (sg_3_2 _ (List.mem_of_getElem? (i := 5) rfl))) (hs _ (List.mem_of_getElem? (i := 112) rfl))
  · exact st_tx (hts _ (sg_3_4 _ (List.mem_of_getElem? (i := 3) rfl))) (hs _ (List.mem_of_getElem? (i := 132) rfl))
  · exact st_tx (hts _ (sg_3_1 _ (List.mem_of_getElem? (i := 4) rfl))) (hs _ (List.mem_of_getElem? (i := 79) rfl))
  · exact st_tx (hts _ (sg_3_7 _ (List.mem_of_getElem? (i := 1) rfl))) (hs _ (List.mem_of_getElem? (i := 152) rfl))
theorem st_J (p : Program) (l : Launch) (e : Env) (D : va_G) (hts : ∀ w ∈ lw_tbl, w.before args s = true) (hg : (Jvm.Cond.and given_1 narrow_1).before args s = true) : ∃ q0 mi : Nat, q0 < s.heap.size ∧ ev_J (p, l, e, s, args, s.heap.size, D) q0 mi := by
  have hs := flat_of_before _ hg
  have hA : ∀ a : Nat, a < s.heap.size → ¬ (fun q => s.heap.size ≤ q) a := fun a h1 h2 => Nat.not_le.mpr h1 h2
  have he := va_eqt (hs _ (List.mem_of_getElem? (i := 7) rfl))
  obtain ⟨q0, h1, h2⟩ := va_Tof (N := 0) (f := fun _ => .null) (A := fun q => s.heap.size ≤ q) (by decide) (hs _ (List.mem_of_getElem? (i := 5) rfl)) he (fun j hj => absurd hj (Nat.not_lt_zero _)) hA
  obtain ⟨mi, h3⟩ := va_Mi.of (hs _ (List.mem_of_getElem? (i := 46) rfl))
  exact ⟨q0, mi, (Array.getElem?_eq_some_iff.mp h2.choose_spec.1).1, va_Zref (hts _ (sg_0_3 _ (List.mem_of_getElem? (i := 14) rfl))) (hts _ (sg_0_0 _ (List.mem_of_getElem? (i := 6) rfl))) h1 hA, ⟨_, h2⟩, h3⟩
end StB
