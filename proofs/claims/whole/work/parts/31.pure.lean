def ev_d (cc : ByteArray) (pc : Nat) (i : Instr) (n pc' : Nat) : Prop := decode cc pc = .ok (i, n) ∧ pc + n = pc'
def ev_j (cc : ByteArray) (pc : Nat) (i : Int → Instr) (pc' tgt : Nat) : Prop := ∃ off : Int, decode cc pc = .ok (i off, 3) ∧ pc + 3 = pc' ∧ (pc : Int) + off = (tgt : Int)
section EvB
variable {G : ev_gx} {M : ev_mx} {d pc pc' tgt : Nat} {L : List (Nat × Value)} {st : List Value} {w : ev_wd} {P : ev_r → ev_wd → Prop}
theorem ev_iconst {n : Int} (hd : ev_d M.2.1 pc (.iconst n) 1 pc') (k : ev_E G M d pc' L (.int (Int32.ofInt n) :: st) w P) : ev_E G M d pc L (st) w P := by
  obtain ⟨hd, rfl⟩ := hd
  intro R s m args below meth c w0 H locs ls X O hH hl
  exact lv_iconst X.1 X.2.1 hd rfl (k R s m args below meth c w0 H locs ls X O hH hl)
theorem ev_bipush {n : Int} (hd : ev_d M.2.1 pc (.bipush n) 2 pc') (k : ev_E G M d pc' L (.int (Int8.ofInt n).toInt32 :: st) w P) : ev_E G M d pc L (st) w P := by
  obtain ⟨hd, rfl⟩ := hd
  intro R s m args below meth c w0 H locs ls X O hH hl
  exact lv_bipush X.1 X.2.1 hd rfl (k R s m args below meth c w0 H locs ls X O hH hl)
theorem ev_sipush {n : Int} (hd : ev_d M.2.1 pc (.sipush n) 3 pc') (k : ev_E G M d pc' L (.int (Int16.ofInt n).toInt32 :: st) w P) : ev_E G M d pc L (st) w P := by
  obtain ⟨hd, rfl⟩ := hd
  intro R s m args below meth c w0 H locs ls X O hH hl
  exact lv_sipush X.1 X.2.1 hd rfl (k R s m args below meth c w0 H locs ls X O hH hl)
theorem ev_lconst {n : Fin 2} (hd : ev_d M.2.1 pc (.lconst n) 1 pc') (k : ev_E G M d pc' L (.long (Int64.ofNat (n : Nat)) :: st) w P) : ev_E G M d pc L (st) w P := by
  obtain ⟨hd, rfl⟩ := hd
  intro R s m args below meth c w0 H locs ls X O hH hl
  exact lv_lconst X.1 X.2.1 hd rfl (k R s m args below meth c w0 H locs ls X O hH hl)
theorem ev_null (hd : ev_d M.2.1 pc .aconst_null 1 pc') (k : ev_E G M d pc' L (.null :: st) w P) : ev_E G M d pc L (st) w P := by
  obtain ⟨hd, rfl⟩ := hd
  intro R s m args below meth c w0 H locs ls X O hH hl
  exact lv_null X.1 X.2.1 hd (k R s m args below meth c w0 H locs ls X O hH hl)
theorem ev_iload_n {i : Fin 4} {x : Int32} (hd : ev_d M.2.1 pc (.iload_n i) 1 pc') (h : L.lookup (i : Nat) = some (.int x)) (k : ev_E G M d pc' L ((.int x) :: st) w P) : ev_E G M d pc L (st) w P := by
  obtain ⟨hd, rfl⟩ := hd
  intro R s m args below meth c w0 H locs ls X O hH hl
  exact lv_iload_n X.1 X.2.1 hd rfl (ev_look hl h) (k R s m args below meth c w0 H locs ls X O hH hl)
theorem ev_iload {i : Nat} {x : Int32} (hd : ev_d M.2.1 pc (.iload i) 2 pc') (h : L.lookup i = some (.int x)) (k : ev_E G M d pc' L ((.int x) :: st) w P) : ev_E G M d pc L (st) w P := by
  obtain ⟨hd, rfl⟩ := hd
  intro R s m args below meth c w0 H locs ls X O hH hl
  exact lv_iload X.1 X.2.1 hd (ev_look hl h) (k R s m args below meth c w0 H locs ls X O hH hl)
theorem ev_lload_n {i : Fin 4} {x : Int64} (hd : ev_d M.2.1 pc (.lload_n i) 1 pc') (h : L.lookup (i : Nat) = some (.long x)) (k : ev_E G M d pc' L ((.long x) :: st) w P) : ev_E G M d pc L (st) w P := by
  obtain ⟨hd, rfl⟩ := hd
  intro R s m args below meth c w0 H locs ls X O hH hl
  exact lv_lload_n X.1 X.2.1 hd rfl (ev_look hl h) (k R s m args below meth c w0 H locs ls X O hH hl)
theorem ev_lload {i : Nat} {x : Int64} (hd : ev_d M.2.1 pc (.lload i) 2 pc') (h : L.lookup i = some (.long x)) (k : ev_E G M d pc' L ((.long x) :: st) w P) : ev_E G M d pc L (st) w P := by
  obtain ⟨hd, rfl⟩ := hd
  intro R s m args below meth c w0 H locs ls X O hH hl
  exact lv_lload X.1 X.2.1 hd (ev_look hl h) (k R s m args below meth c w0 H locs ls X O hH hl)
theorem ev_aload_n {i : Fin 4} {x : Nat} (hd : ev_d M.2.1 pc (.aload_n i) 1 pc') (h : L.lookup (i : Nat) = some (.ref x)) (k : ev_E G M d pc' L ((.ref x) :: st) w P) : ev_E G M d pc L (st) w P := by
  obtain ⟨hd, rfl⟩ := hd
  intro R s m args below meth c w0 H locs ls X O hH hl
  exact lv_aload_n X.1 X.2.1 hd rfl (ev_look hl h) (k R s m args below meth c w0 H locs ls X O hH hl)
theorem ev_aload {i : Nat} {x : Nat} (hd : ev_d M.2.1 pc (.aload i) 2 pc') (h : L.lookup i = some (.ref x)) (k : ev_E G M d pc' L ((.ref x) :: st) w P) : ev_E G M d pc L (st) w P := by
  obtain ⟨hd, rfl⟩ := hd
  intro R s m args below meth c w0 H locs ls X O hH hl
  exact lv_aload X.1 X.2.1 hd (ev_look hl h) (k R s m args below meth c w0 H locs ls X O hH hl)
theorem ev_aload_nN {i : Fin 4} (hd : ev_d M.2.1 pc (.aload_n i) 1 pc') (h : L.lookup (i : Nat) = some .null) (k : ev_E G M d pc' L (.null :: st) w P) : ev_E G M d pc L (st) w P := by
  obtain ⟨hd, rfl⟩ := hd
  intro R s m args below meth c w0 H locs ls X O hH hl
  exact lv_aload_nN X.1 X.2.1 hd rfl (ev_look hl h) (k R s m args below meth c w0 H locs ls X O hH hl)
theorem ev_aloadN {i : Nat} (hd : ev_d M.2.1 pc (.aload i) 2 pc') (h : L.lookup i = some .null) (k : ev_E G M d pc' L (.null :: st) w P) : ev_E G M d pc L (st) w P := by
  obtain ⟨hd, rfl⟩ := hd
  intro R s m args below meth c w0 H locs ls X O hH hl
  exact lv_aloadN X.1 X.2.1 hd (ev_look hl h) (k R s m args below meth c w0 H locs ls X O hH hl)
theorem ev_istore_n {i : Fin 4} {x : Int32} (hd : ev_d M.2.1 pc (.istore_n i) 1 pc') (hn : (i : Nat) < M.2.2.1) (k : ev_E G M d pc' (((i : Nat), Value.int x) :: L.filter (fun q => !(q.1 == (i : Nat)) && !(q.1 + 1 == (i : Nat) && q.2.category == 2))) st w P) : ev_E G M d pc L (Value.int x :: st) w P := by
  obtain ⟨hd, rfl⟩ := hd
  intro R s m args below meth c w0 H locs ls X O hH hl
  exact lv_istore_n X.1 X.2.1 hd rfl hl hn rfl fun ls' hl' => k R s m args below meth c w0 H locs ls' X O hH hl'
theorem ev_istore {i : Nat} {x : Int32} (hd : ev_d M.2.1 pc (.istore i) 2 pc') (hn : i < M.2.2.1) (k : ev_E G M d pc' ((i, Value.int x) :: L.filter (fun q => !(q.1 == i) && !(q.1 + 1 == i && q.2.category == 2))) st w P) : ev_E G M d pc L (Value.int x :: st) w P := by
  obtain ⟨hd, rfl⟩ := hd
  intro R s m args below meth c w0 H locs ls X O hH hl
  exact lv_istore X.1 X.2.1 hd hl hn rfl fun ls' hl' => k R s m args below meth c w0 H locs ls' X O hH hl'
theorem ev_astore_n {i : Fin 4} {x : Nat} (hd : ev_d M.2.1 pc (.astore_n i) 1 pc') (hn : (i : Nat) < M.2.2.1) (k : ev_E G M d pc' (((i : Nat), Value.ref x) :: L.filter (fun q => !(q.1 == (i : Nat)) && !(q.1 + 1 == (i : Nat) && q.2.category == 2))) st w P) : ev_E G M d pc L (Value.ref x :: st) w P := by
  obtain ⟨hd, rfl⟩ := hd
  intro R s m args below meth c w0 H locs ls X O hH hl
  exact lv_astore_n X.1 X.2.1 hd rfl hl hn rfl fun ls' hl' => k R s m args below meth c w0 H locs ls' X O hH hl'
theorem ev_astore {i : Nat} {x : Nat} (hd : ev_d M.2.1 pc (.astore i) 2 pc') (hn : i < M.2.2.1) (k : ev_E G M d pc' ((i, Value.ref x) :: L.filter (fun q => !(q.1 == i) && !(q.1 + 1 == i && q.2.category == 2))) st w P) : ev_E G M d pc L (Value.ref x :: st) w P := by
  obtain ⟨hd, rfl⟩ := hd
  intro R s m args below meth c w0 H locs ls X O hH hl
  exact lv_astore X.1 X.2.1 hd hl hn rfl fun ls' hl' => k R s m args below meth c w0 H locs ls' X O hH hl'
theorem ev_astore_nN {i : Fin 4} (hd : ev_d M.2.1 pc (.astore_n i) 1 pc') (hn : (i : Nat) < M.2.2.1) (k : ev_E G M d pc' (((i : Nat), Value.null) :: L.filter (fun q => !(q.1 == (i : Nat)) && !(q.1 + 1 == (i : Nat) && q.2.category == 2))) st w P) : ev_E G M d pc L (Value.null :: st) w P := by
  obtain ⟨hd, rfl⟩ := hd
  intro R s m args below meth c w0 H locs ls X O hH hl
  exact lv_astore_nN X.1 X.2.1 hd rfl hl hn rfl fun ls' hl' => k R s m args below meth c w0 H locs ls' X O hH hl'
theorem ev_astoreN {i : Nat} (hd : ev_d M.2.1 pc (.astore i) 2 pc') (hn : i < M.2.2.1) (k : ev_E G M d pc' ((i, Value.null) :: L.filter (fun q => !(q.1 == i) && !(q.1 + 1 == i && q.2.category == 2))) st w P) : ev_E G M d pc L (Value.null :: st) w P := by
  obtain ⟨hd, rfl⟩ := hd
  intro R s m args below meth c w0 H locs ls X O hH hl
  exact lv_astoreN X.1 X.2.1 hd hl hn rfl fun ls' hl' => k R s m args below meth c w0 H locs ls' X O hH hl'
theorem ev_lstore_n {i : Fin 4} {x : Int64} (hd : ev_d M.2.1 pc (.lstore_n i) 1 pc') (hn : (i : Nat) + 1 < M.2.2.1) (k : ev_E G M d pc' (((i : Nat), Value.long x) :: L.filter (fun q => !(q.1 == (i : Nat)) && (!(q.1 == (i : Nat) + 1) && !(q.1 + 1 == (i : Nat) && q.2.category == 2)))) st w P) : ev_E G M d pc L (Value.long x :: st) w P := by
  obtain ⟨hd, rfl⟩ := hd
  intro R s m args below meth c w0 H locs ls X O hH hl
  exact lv_lstore_n X.1 X.2.1 hd rfl hl hn rfl fun ls' hl' => k R s m args below meth c w0 H locs ls' X O hH hl'
theorem ev_lstore {i : Nat} {x : Int64} (hd : ev_d M.2.1 pc (.lstore i) 2 pc') (hn : i + 1 < M.2.2.1) (k : ev_E G M d pc' ((i, Value.long x) :: L.filter (fun q => !(q.1 == i) && (!(q.1 == i + 1) && !(q.1 + 1 == i && q.2.category == 2)))) st w P) : ev_E G M d pc L (Value.long x :: st) w P := by
  obtain ⟨hd, rfl⟩ := hd
  intro R s m args below meth c w0 H locs ls X O hH hl
  exact lv_lstore X.1 X.2.1 hd hl hn rfl fun ls' hl' => k R s m args below meth c w0 H locs ls' X O hH hl'
theorem ev_iinc {i : Nat} {n : Int} {x : Int32} (hd : ev_d M.2.1 pc (.iinc i n) 3 pc') (h : L.lookup i = some (.int x)) (hn : i < M.2.2.1) (k : ev_E G M d pc' ((i, Value.int (x + Int32.ofInt n)) :: L.filter (fun q => !(q.1 == i) && !(q.1 + 1 == i && q.2.category == 2))) st w P) : ev_E G M d pc L st w P := by
  obtain ⟨hd, rfl⟩ := hd
  intro R s m args below meth c w0 H locs ls X O hH hl
  obtain ⟨k0, hk0⟩ := List.getElem?_of_mem (ev_mem h)
  exact lv_iinc X.1 X.2.1 hd hl hk0 rfl hn rfl fun ls' hl' => k R s m args below meth c w0 H locs ls' X O hH hl'
theorem ev_iadd {x y : Int32} (hd : ev_d M.2.1 pc .iadd 1 pc') (k : ev_E G M d pc' L (.int (x + y) :: st) w P) : ev_E G M d pc L (.int y :: .int x :: st) w P := by
  obtain ⟨hd, rfl⟩ := hd
  intro R s m args below meth c w0 H locs ls X O hH hl
  exact lv_iadd X.1 X.2.1 hd (k R s m args below meth c w0 H locs ls X O hH hl)
theorem ev_isub {x y : Int32} (hd : ev_d M.2.1 pc .isub 1 pc') (k : ev_E G M d pc' L (.int (x - y) :: st) w P) : ev_E G M d pc L (.int y :: .int x :: st) w P := by
  obtain ⟨hd, rfl⟩ := hd
  intro R s m args below meth c w0 H locs ls X O hH hl
  exact lv_isub X.1 X.2.1 hd (k R s m args below meth c w0 H locs ls X O hH hl)
theorem ev_imul {x y : Int32} (hd : ev_d M.2.1 pc .imul 1 pc') (k : ev_E G M d pc' L (.int (x * y) :: st) w P) : ev_E G M d pc L (.int y :: .int x :: st) w P := by
  obtain ⟨hd, rfl⟩ := hd
  intro R s m args below meth c w0 H locs ls X O hH hl
  exact lv_imul X.1 X.2.1 hd (k R s m args below meth c w0 H locs ls X O hH hl)
theorem ev_iand {x y : Int32} (hd : ev_d M.2.1 pc .iand 1 pc') (k : ev_E G M d pc' L (.int (x &&& y) :: st) w P) : ev_E G M d pc L (.int y :: .int x :: st) w P := by
  obtain ⟨hd, rfl⟩ := hd
  intro R s m args below meth c w0 H locs ls X O hH hl
  exact lv_iand X.1 X.2.1 hd (k R s m args below meth c w0 H locs ls X O hH hl)
theorem ev_ior {x y : Int32} (hd : ev_d M.2.1 pc .ior 1 pc') (k : ev_E G M d pc' L (.int (x ||| y) :: st) w P) : ev_E G M d pc L (.int y :: .int x :: st) w P := by
  obtain ⟨hd, rfl⟩ := hd
  intro R s m args below meth c w0 H locs ls X O hH hl
  exact lv_ior X.1 X.2.1 hd (k R s m args below meth c w0 H locs ls X O hH hl)
theorem ev_ixor {x y : Int32} (hd : ev_d M.2.1 pc .ixor 1 pc') (k : ev_E G M d pc' L (.int (x ^^^ y) :: st) w P) : ev_E G M d pc L (.int y :: .int x :: st) w P := by
  obtain ⟨hd, rfl⟩ := hd
  intro R s m args below meth c w0 H locs ls X O hH hl
  exact lv_ixor X.1 X.2.1 hd (k R s m args below meth c w0 H locs ls X O hH hl)
theorem ev_ishl {x y : Int32} (hd : ev_d M.2.1 pc .ishl 1 pc') (k : ev_E G M d pc' L (.int (x <<< (y &&& 31)) :: st) w P) : ev_E G M d pc L (.int y :: .int x :: st) w P := by
  obtain ⟨hd, rfl⟩ := hd
  intro R s m args below meth c w0 H locs ls X O hH hl
  exact lv_ishl X.1 X.2.1 hd (k R s m args below meth c w0 H locs ls X O hH hl)
theorem ev_ishr {x y : Int32} (hd : ev_d M.2.1 pc .ishr 1 pc') (k : ev_E G M d pc' L (.int (x >>> (y &&& 31)) :: st) w P) : ev_E G M d pc L (.int y :: .int x :: st) w P := by
  obtain ⟨hd, rfl⟩ := hd
  intro R s m args below meth c w0 H locs ls X O hH hl
  exact lv_ishr X.1 X.2.1 hd (k R s m args below meth c w0 H locs ls X O hH hl)
theorem ev_irem {x y : Int32} (hd : ev_d M.2.1 pc .irem 1 pc') (hne : ¬ y = 0) (k : ev_E G M d pc' L (.int (x - x / y * y) :: st) w P) : ev_E G M d pc L (.int y :: .int x :: st) w P := by
  obtain ⟨hd, rfl⟩ := hd
  intro R s m args below meth c w0 H locs ls X O hH hl
  exact lv_irem X.1 X.2.1 hd hne (k R s m args below meth c w0 H locs ls X O hH hl)
theorem ev_idiv {x y : Int32} (hd : ev_d M.2.1 pc .idiv 1 pc') (hne : ¬ y = 0) (k : ev_E G M d pc' L (.int (x / y) :: st) w P) : ev_E G M d pc L (.int y :: .int x :: st) w P := by
  obtain ⟨hd, rfl⟩ := hd
  intro R s m args below meth c w0 H locs ls X O hH hl
  exact lv_idiv X.1 X.2.1 hd hne (k R s m args below meth c w0 H locs ls X O hH hl)
theorem ev_ineg {x : Int32} (hd : ev_d M.2.1 pc .ineg 1 pc') (k : ev_E G M d pc' L (.int (-x) :: st) w P) : ev_E G M d pc L (.int x :: st) w P := by
  obtain ⟨hd, rfl⟩ := hd
  intro R s m args below meth c w0 H locs ls X O hH hl
  exact lv_ineg X.1 X.2.1 hd (k R s m args below meth c w0 H locs ls X O hH hl)
theorem ev_land {x y : Int64} (hd : ev_d M.2.1 pc .land 1 pc') (k : ev_E G M d pc' L (.long (x &&& y) :: st) w P) : ev_E G M d pc L (.long y :: .long x :: st) w P := by
  obtain ⟨hd, rfl⟩ := hd
  intro R s m args below meth c w0 H locs ls X O hH hl
  exact lv_land X.1 X.2.1 hd (k R s m args below meth c w0 H locs ls X O hH hl)
theorem ev_lor {x y : Int64} (hd : ev_d M.2.1 pc .lor 1 pc') (k : ev_E G M d pc' L (.long (x ||| y) :: st) w P) : ev_E G M d pc L (.long y :: .long x :: st) w P := by
  obtain ⟨hd, rfl⟩ := hd
  intro R s m args below meth c w0 H locs ls X O hH hl
  exact lv_lor X.1 X.2.1 hd (k R s m args below meth c w0 H locs ls X O hH hl)
theorem ev_lshl {x : Int64} {y : Int32} (hd : ev_d M.2.1 pc .lshl 1 pc') (k : ev_E G M d pc' L (.long (x <<< (y.toInt64 &&& 63)) :: st) w P) : ev_E G M d pc L (.int y :: .long x :: st) w P := by
  obtain ⟨hd, rfl⟩ := hd
  intro R s m args below meth c w0 H locs ls X O hH hl
  exact lv_lshl X.1 X.2.1 hd rfl (k R s m args below meth c w0 H locs ls X O hH hl)
theorem ev_i2l {x : Int32} (hd : ev_d M.2.1 pc .i2l 1 pc') (k : ev_E G M d pc' L (.long x.toInt64 :: st) w P) : ev_E G M d pc L (.int x :: st) w P := by
  obtain ⟨hd, rfl⟩ := hd
  intro R s m args below meth c w0 H locs ls X O hH hl
  exact lv_i2l X.1 X.2.1 hd rfl (k R s m args below meth c w0 H locs ls X O hH hl)
theorem ev_lcmp {x y : Int64} (hd : ev_d M.2.1 pc .lcmp 1 pc') (k : ev_E G M d pc' L (.int (lg_cmp x y) :: st) w P) : ev_E G M d pc L (.long y :: .long x :: st) w P := by
  obtain ⟨hd, rfl⟩ := hd
  intro R s m args below meth c w0 H locs ls X O hH hl
  exact W.lcmp X.1 X.2.1 hd (k R s m args below meth c w0 H locs ls X O hH hl)
theorem ev_dup {va : Value} (hd : ev_d M.2.1 pc .dup 1 pc') (h1 : va.category = 1) (k : ev_E G M d pc' L (va :: va :: st) w P) : ev_E G M d pc L (va :: st) w P := by
  obtain ⟨hd, rfl⟩ := hd
  intro R s m args below meth c w0 H locs ls X O hH hl
  exact lv_dup X.1 X.2.1 hd h1 (k R s m args below meth c w0 H locs ls X O hH hl)
theorem ev_pop {va : Value} (hd : ev_d M.2.1 pc .pop 1 pc') (h1 : va.category = 1) (k : ev_E G M d pc' L (st) w P) : ev_E G M d pc L (va :: st) w P := by
  obtain ⟨hd, rfl⟩ := hd
  intro R s m args below meth c w0 H locs ls X O hH hl
  exact lv_pop X.1 X.2.1 hd h1 (k R s m args below meth c w0 H locs ls X O hH hl)
theorem ev_dup_x1 {va vb : Value} (hd : ev_d M.2.1 pc .dup_x1 1 pc') (h1 : va.category = 1) (h2 : vb.category = 1) (k : ev_E G M d pc' L (va :: vb :: va :: st) w P) : ev_E G M d pc L (va :: vb :: st) w P := by
  obtain ⟨hd, rfl⟩ := hd
  intro R s m args below meth c w0 H locs ls X O hH hl
  exact lv_dup_x1 X.1 X.2.1 hd h1 h2 (k R s m args below meth c w0 H locs ls X O hH hl)
theorem ev_dup_x2 {va vb vd : Value} (hd : ev_d M.2.1 pc .dup_x2 1 pc') (h1 : va.category = 1) (h2 : vb.category = 1) (h3 : vd.category = 1) (k : ev_E G M d pc' L (va :: vb :: vd :: va :: st) w P) : ev_E G M d pc L (va :: vb :: vd :: st) w P := by
  obtain ⟨hd, rfl⟩ := hd
  intro R s m args below meth c w0 H locs ls X O hH hl
  exact lv_dup_x2 X.1 X.2.1 hd h1 h2 h3 (k R s m args below meth c w0 H locs ls X O hH hl)
theorem ev_dup2 {va vb : Value} (hd : ev_d M.2.1 pc .dup2 1 pc') (h1 : va.category = 1) (h2 : vb.category = 1) (k : ev_E G M d pc' L (va :: vb :: va :: vb :: st) w P) : ev_E G M d pc L (va :: vb :: st) w P := by
  obtain ⟨hd, rfl⟩ := hd
  intro R s m args below meth c w0 H locs ls X O hH hl
  exact lv_dup2_11 X.1 X.2.1 hd h1 h2 (k R s m args below meth c w0 H locs ls X O hH hl)
theorem ev_if_eq {x : Int32} (hd : ev_j M.2.1 pc (fun o => .ifCond .eq o) pc' tgt) (kt : x = 0 → ev_E G M d tgt L st w P) (kf : ¬ x = 0 → ev_E G M d pc' L st w P) : ev_E G M d pc L (.int x :: st) w P := by
  obtain ⟨off, hd, rfl, ht⟩ := hd
  intro R s m args below meth c w0 H locs ls X O hH hl
  exact lv_if_eq X.1 X.2.1 hd ht (fun h => kt h R s m args below meth c w0 H locs ls X O hH hl) (fun h => kf h R s m args below meth c w0 H locs ls X O hH hl)
theorem ev_icmp_eq {x y : Int32} (hd : ev_j M.2.1 pc (fun o => .if_icmp .eq o) pc' tgt) (kt : x = y → ev_E G M d tgt L st w P) (kf : ¬ x = y → ev_E G M d pc' L st w P) : ev_E G M d pc L (.int y :: .int x :: st) w P := by
  obtain ⟨off, hd, rfl, ht⟩ := hd
  intro R s m args below meth c w0 H locs ls X O hH hl
  exact lv_icmp_eq X.1 X.2.1 hd ht (fun h => kt h R s m args below meth c w0 H locs ls X O hH hl) (fun h => kf h R s m args below meth c w0 H locs ls X O hH hl)
theorem ev_if_ne {x : Int32} (hd : ev_j M.2.1 pc (fun o => .ifCond .ne o) pc' tgt) (kt : ¬ x = 0 → ev_E G M d tgt L st w P) (kf : x = 0 → ev_E G M d pc' L st w P) : ev_E G M d pc L (.int x :: st) w P := by
  obtain ⟨off, hd, rfl, ht⟩ := hd
  intro R s m args below meth c w0 H locs ls X O hH hl
  exact lv_if_ne X.1 X.2.1 hd ht (fun h => kt h R s m args below meth c w0 H locs ls X O hH hl) (fun h => kf h R s m args below meth c w0 H locs ls X O hH hl)
theorem ev_icmp_ne {x y : Int32} (hd : ev_j M.2.1 pc (fun o => .if_icmp .ne o) pc' tgt) (kt : ¬ x = y → ev_E G M d tgt L st w P) (kf : x = y → ev_E G M d pc' L st w P) : ev_E G M d pc L (.int y :: .int x :: st) w P := by
  obtain ⟨off, hd, rfl, ht⟩ := hd
  intro R s m args below meth c w0 H locs ls X O hH hl
  exact lv_icmp_ne X.1 X.2.1 hd ht (fun h => kt h R s m args below meth c w0 H locs ls X O hH hl) (fun h => kf h R s m args below meth c w0 H locs ls X O hH hl)
theorem ev_if_lt {x : Int32} (hd : ev_j M.2.1 pc (fun o => .ifCond .lt o) pc' tgt) (kt : x < 0 → ev_E G M d tgt L st w P) (kf : ¬ x < 0 → ev_E G M d pc' L st w P) : ev_E G M d pc L (.int x :: st) w P := by
  obtain ⟨off, hd, rfl, ht⟩ := hd
  intro R s m args below meth c w0 H locs ls X O hH hl
  exact lv_if_lt X.1 X.2.1 hd ht (fun h => kt h R s m args below meth c w0 H locs ls X O hH hl) (fun h => kf h R s m args below meth c w0 H locs ls X O hH hl)
theorem ev_icmp_lt {x y : Int32} (hd : ev_j M.2.1 pc (fun o => .if_icmp .lt o) pc' tgt) (kt : x < y → ev_E G M d tgt L st w P) (kf : ¬ x < y → ev_E G M d pc' L st w P) : ev_E G M d pc L (.int y :: .int x :: st) w P := by
  obtain ⟨off, hd, rfl, ht⟩ := hd
  intro R s m args below meth c w0 H locs ls X O hH hl
  exact lv_icmp_lt X.1 X.2.1 hd ht (fun h => kt h R s m args below meth c w0 H locs ls X O hH hl) (fun h => kf h R s m args below meth c w0 H locs ls X O hH hl)
theorem ev_if_ge {x : Int32} (hd : ev_j M.2.1 pc (fun o => .ifCond .ge o) pc' tgt) (kt : 0 ≤ x → ev_E G M d tgt L st w P) (kf : ¬ 0 ≤ x → ev_E G M d pc' L st w P) : ev_E G M d pc L (.int x :: st) w P := by
  obtain ⟨off, hd, rfl, ht⟩ := hd
  intro R s m args below meth c w0 H locs ls X O hH hl
  exact lv_if_ge X.1 X.2.1 hd ht (fun h => kt h R s m args below meth c w0 H locs ls X O hH hl) (fun h => kf h R s m args below meth c w0 H locs ls X O hH hl)
theorem ev_icmp_ge {x y : Int32} (hd : ev_j M.2.1 pc (fun o => .if_icmp .ge o) pc' tgt) (kt : y ≤ x → ev_E G M d tgt L st w P) (kf : ¬ y ≤ x → ev_E G M d pc' L st w P) : ev_E G M d pc L (.int y :: .int x :: st) w P := by
  obtain ⟨off, hd, rfl, ht⟩ := hd
  intro R s m args below meth c w0 H locs ls X O hH hl
  exact lv_icmp_ge X.1 X.2.1 hd ht (fun h => kt h R s m args below meth c w0 H locs ls X O hH hl) (fun h => kf h R s m args below meth c w0 H locs ls X O hH hl)
theorem ev_if_gt {x : Int32} (hd : ev_j M.2.1 pc (fun o => .ifCond .gt o) pc' tgt) (kt : 0 < x → ev_E G M d tgt L st w P) (kf : ¬ 0 < x → ev_E G M d pc' L st w P) : ev_E G M d pc L (.int x :: st) w P := by
  obtain ⟨off, hd, rfl, ht⟩ := hd
  intro R s m args below meth c w0 H locs ls X O hH hl
  exact lv_if_gt X.1 X.2.1 hd ht (fun h => kt h R s m args below meth c w0 H locs ls X O hH hl) (fun h => kf h R s m args below meth c w0 H locs ls X O hH hl)
theorem ev_icmp_gt {x y : Int32} (hd : ev_j M.2.1 pc (fun o => .if_icmp .gt o) pc' tgt) (kt : y < x → ev_E G M d tgt L st w P) (kf : ¬ y < x → ev_E G M d pc' L st w P) : ev_E G M d pc L (.int y :: .int x :: st) w P := by
  obtain ⟨off, hd, rfl, ht⟩ := hd
  intro R s m args below meth c w0 H locs ls X O hH hl
  exact lv_icmp_gt X.1 X.2.1 hd ht (fun h => kt h R s m args below meth c w0 H locs ls X O hH hl) (fun h => kf h R s m args below meth c w0 H locs ls X O hH hl)
theorem ev_if_le {x : Int32} (hd : ev_j M.2.1 pc (fun o => .ifCond .le o) pc' tgt) (kt : x ≤ 0 → ev_E G M d tgt L st w P) (kf : ¬ x ≤ 0 → ev_E G M d pc' L st w P) : ev_E G M d pc L (.int x :: st) w P := by
  obtain ⟨off, hd, rfl, ht⟩ := hd
  intro R s m args below meth c w0 H locs ls X O hH hl
  exact lv_if_le X.1 X.2.1 hd ht (fun h => kt h R s m args below meth c w0 H locs ls X O hH hl) (fun h => kf h R s m args below meth c w0 H locs ls X O hH hl)
theorem ev_icmp_le {x y : Int32} (hd : ev_j M.2.1 pc (fun o => .if_icmp .le o) pc' tgt) (kt : x ≤ y → ev_E G M d tgt L st w P) (kf : ¬ x ≤ y → ev_E G M d pc' L st w P) : ev_E G M d pc L (.int y :: .int x :: st) w P := by
  obtain ⟨off, hd, rfl, ht⟩ := hd
  intro R s m args below meth c w0 H locs ls X O hH hl
  exact lv_icmp_le X.1 X.2.1 hd ht (fun h => kt h R s m args below meth c w0 H locs ls X O hH hl) (fun h => kf h R s m args below meth c w0 H locs ls X O hH hl)
theorem ev_acmp_eq {rx ry : Option Nat} (hd : ev_j M.2.1 pc (fun o => .if_acmp .eq o) pc' tgt) (kt : rx = ry → ev_E G M d tgt L st w P) (kf : ¬ rx = ry → ev_E G M d pc' L st w P) : ev_E G M d pc L (va_rf ry :: va_rf rx :: st) w P := by
  obtain ⟨off, hd, rfl, ht⟩ := hd
  intro R s m args below meth c w0 H locs ls X O hH hl
  exact lv_acmp_eq X.1 X.2.1 hd ht (fun h => kt h R s m args below meth c w0 H locs ls X O hH hl) (fun h => kf h R s m args below meth c w0 H locs ls X O hH hl)
theorem ev_acmp_ne {rx ry : Option Nat} (hd : ev_j M.2.1 pc (fun o => .if_acmp .ne o) pc' tgt) (kt : ¬ rx = ry → ev_E G M d tgt L st w P) (kf : rx = ry → ev_E G M d pc' L st w P) : ev_E G M d pc L (va_rf ry :: va_rf rx :: st) w P := by
  obtain ⟨off, hd, rfl, ht⟩ := hd
  intro R s m args below meth c w0 H locs ls X O hH hl
  exact lv_acmp_ne X.1 X.2.1 hd ht (fun h => kt h R s m args below meth c w0 H locs ls X O hH hl) (fun h => kf h R s m args below meth c w0 H locs ls X O hH hl)
theorem ev_goto (hd : ev_j M.2.1 pc (fun o => .goto o) pc' tgt) (k : ev_E G M d tgt L st w P) : ev_E G M d pc L (st) w P := by
  obtain ⟨off, hd, rfl, ht⟩ := hd
  intro R s m args below meth c w0 H locs ls X O hH hl
  exact lv_goto X.1 X.2.1 hd ht (k R s m args below meth c w0 H locs ls X O hH hl)
theorem ev_ifnull {x : Nat} (hd : ev_j M.2.1 pc (fun o => .ifnull o) pc' tgt) (k : ev_E G M d pc' L st w P) : ev_E G M d pc L (.ref x :: st) w P := by
  obtain ⟨off, hd, rfl, ht⟩ := hd
  intro R s m args below meth c w0 H locs ls X O hH hl
  exact lv_ifnull X.1 X.2.1 hd (k R s m args below meth c w0 H locs ls X O hH hl)
theorem ev_ifnullN (hd : ev_j M.2.1 pc (fun o => .ifnull o) pc' tgt) (k : ev_E G M d tgt L st w P) : ev_E G M d pc L (.null :: st) w P := by
  obtain ⟨off, hd, rfl, ht⟩ := hd
  intro R s m args below meth c w0 H locs ls X O hH hl
  exact lv_ifnullN X.1 X.2.1 hd ht (k R s m args below meth c w0 H locs ls X O hH hl)
theorem ev_ifnonnull {x : Nat} (hd : ev_j M.2.1 pc (fun o => .ifnonnull o) pc' tgt) (k : ev_E G M d tgt L st w P) : ev_E G M d pc L (.ref x :: st) w P := by
  obtain ⟨off, hd, rfl, ht⟩ := hd
  intro R s m args below meth c w0 H locs ls X O hH hl
  exact lv_ifnonnull X.1 X.2.1 hd ht (k R s m args below meth c w0 H locs ls X O hH hl)
theorem ev_ifnonnullN (hd : ev_j M.2.1 pc (fun o => .ifnonnull o) pc' tgt) (k : ev_E G M d pc' L st w P) : ev_E G M d pc L (.null :: st) w P := by
  obtain ⟨off, hd, rfl, ht⟩ := hd
  intro R s m args below meth c w0 H locs ls X O hH hl
  exact lv_ifnonnullN X.1 X.2.1 hd (k R s m args below meth c w0 H locs ls X O hH hl)
theorem ev_tableIn {dflt lo hi : Int} {offs : Array Int} {len : Nat} {x : Int32} {off : Int} (hd : decode M.2.1 pc = .ok (.tableswitch dflt lo hi offs, len)) (h1 : ¬ x.toInt < lo) (h2 : ¬ hi < x.toInt) (ho : offs[(x.toInt - lo).toNat]? = some off) (ht : (pc : Int) + off = (tgt : Int)) (k : ev_E G M d tgt L st w P) : ev_E G M d pc L (.int x :: st) w P := by
  intro R s m args below meth c w0 H locs ls X O hH hl
  exact lv_tableIn X.1 X.2.1 hd h1 h2 ho ht (k R s m args below meth c w0 H locs ls X O hH hl)
theorem ev_tableOut {dflt lo hi : Int} {offs : Array Int} {len : Nat} {x : Int32} (hd : decode M.2.1 pc = .ok (.tableswitch dflt lo hi offs, len)) (h : x.toInt < lo ∨ hi < x.toInt) (ht : (pc : Int) + dflt = (tgt : Int)) (k : ev_E G M d tgt L st w P) : ev_E G M d pc L (.int x :: st) w P := by
  intro R s m args below meth c w0 H locs ls X O hH hl
  exact lv_tableOut X.1 X.2.1 hd h ht (k R s m args below meth c w0 H locs ls X O hH hl)
theorem ev_lookup {dflt : Int} {ps : Array (Int × Int)} {len : Nat} {x : Int32} {off : Int} (hd : decode M.2.1 pc = .ok (.lookupswitch dflt ps, len)) (hp : (ps.toList.zip (ps.toList.drop 1)).all (fun (a, next) => a.1 < next.1) = true) (ho : Op.lookupswitch.offset ps.toList dflt x.toInt = off) (ht : (pc : Int) + off = (tgt : Int)) (k : ev_E G M d tgt L st w P) : ev_E G M d pc L (.int x :: st) w P := by
  intro R s m args below meth c w0 H locs ls X O hH hl
  exact lv_lookup X.1 X.2.1 hd hp ho ht (k R s m args below meth c w0 H locs ls X O hH hl)
theorem ev_ldc2 {index : Nat} {v : Int64} (hd : ev_d M.2.1 pc (.ldc2_w index) 3 pc') (hw : Cond.constantLong M.1.cls index v ∈ lw_tbl) (k : ev_E G M d pc' L (.long v :: st) w P) : ev_E G M d pc L st w P := by
  obtain ⟨hd, rfl⟩ := hd
  intro R s m args below meth c w0 H locs ls X O hH hl
  exact lv_ldc2 X.1 X.2.1 (ev_own X) (ev_word X hw rfl _) hd (k R s m args below meth c w0 H locs ls X O hH hl)
theorem ev_ldc {index : Nat} {v : Int32} (hd : ev_d M.2.1 pc (.ldc index) 2 pc') (hw : Cond.constant M.1.cls index v ∈ lw_tbl) (k : ev_E G M d pc' L (.int v :: st) w P) : ev_E G M d pc L st w P := by
  obtain ⟨hd, rfl⟩ := hd
  intro R s m args below meth c w0 H locs ls X O hH hl
  exact lv_ldc X.1 X.2.1 (ev_own X) (ev_word X hw rfl _) hd (k R s m args below meth c w0 H locs ls X O hH hl)
end EvB
