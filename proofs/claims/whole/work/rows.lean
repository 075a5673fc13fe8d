section
-- ===== PART A: goes FIRST, ahead of the names: the tables' words, and 'selects' of the private methods out of them =====
/-- a private method of a class that the tables say can be made, by its rows of tables_1 -/
def lw_okq (q : MethodName × Nat) : Prop := (q.1.cls ≠ "java/lang/invoke/MethodHandle" ∧ q.1.cls ≠ "java/lang/invoke/VarHandle") ∧ Cond.instantiable q.1.cls q.2 ∈ tables_1 ∧ Cond.privateMethod q.1 ∈ tables_1 ∧ Cond.instanceMethod q.1 ∈ tables_1
theorem lw_p0 : lw_okq (⟨"ThreeLinkPair", "arrive", "(II)I"⟩, 2) := ⟨⟨by decide +kernel, by decide +kernel⟩, List.mem_of_getElem? (i := 26) (by decide +kernel), List.mem_of_getElem? (i := 323) (by decide +kernel), List.mem_of_getElem? (i := 324) (by decide +kernel)⟩
theorem lw_p1 : lw_okq (⟨"java/util/ArrayList", "add", "(Ljava/lang/Object;[Ljava/lang/Object;I)V"⟩, 3) := ⟨⟨by decide +kernel, by decide +kernel⟩, List.mem_of_getElem? (i := 50) (by decide +kernel), List.mem_of_getElem? (i := 380) (by decide +kernel), List.mem_of_getElem? (i := 381) (by decide +kernel)⟩
theorem lw_p2 : lw_okq (⟨"java/util/ArrayList", "grow", "()[Ljava/lang/Object;"⟩, 3) := ⟨⟨by decide +kernel, by decide +kernel⟩, List.mem_of_getElem? (i := 50) (by decide +kernel), List.mem_of_getElem? (i := 384) (by decide +kernel), List.mem_of_getElem? (i := 385) (by decide +kernel)⟩
theorem lw_p3 : lw_okq (⟨"java/util/ArrayList", "grow", "(I)[Ljava/lang/Object;"⟩, 3) := ⟨⟨by decide +kernel, by decide +kernel⟩, List.mem_of_getElem? (i := 50) (by decide +kernel), List.mem_of_getElem? (i := 388) (by decide +kernel), List.mem_of_getElem? (i := 389) (by decide +kernel)⟩
theorem lw_p4 : lw_okq (⟨"java/util/ArrayList", "fastRemove", "([Ljava/lang/Object;I)V"⟩, 3) := ⟨⟨by decide +kernel, by decide +kernel⟩, List.mem_of_getElem? (i := 50) (by decide +kernel), List.mem_of_getElem? (i := 469) (by decide +kernel), List.mem_of_getElem? (i := 470) (by decide +kernel)⟩
theorem lw_p5 : lw_okq (⟨"java/lang/Throwable", "fillInStackTrace", "(I)Ljava/lang/Throwable;"⟩, 6) := ⟨⟨by decide +kernel, by decide +kernel⟩, List.mem_of_getElem? (i := 680) (by decide +kernel), List.mem_of_getElem? (i := 678) (by decide +kernel), List.mem_of_getElem? (i := 679) (by decide +kernel)⟩
theorem lw_p6 : lw_okq (⟨"ThreeLinkPairModel", "begin", "(I)V"⟩, 51) := ⟨⟨by decide +kernel, by decide +kernel⟩, List.mem_of_getElem? (i := 843) (by decide +kernel), List.mem_of_getElem? (i := 849) (by decide +kernel), List.mem_of_getElem? (i := 850) (by decide +kernel)⟩
theorem lw_p7 : lw_okq (⟨"ThreeLinkPairModel", "empty", "(I)V"⟩, 51) := ⟨⟨by decide +kernel, by decide +kernel⟩, List.mem_of_getElem? (i := 843) (by decide +kernel), List.mem_of_getElem? (i := 853) (by decide +kernel), List.mem_of_getElem? (i := 854) (by decide +kernel)⟩
theorem lw_p8 : lw_okq (⟨"ThreeLinkPairModel", "shift", "(I)I"⟩, 51) := ⟨⟨by decide +kernel, by decide +kernel⟩, List.mem_of_getElem? (i := 843) (by decide +kernel), List.mem_of_getElem? (i := 857) (by decide +kernel), List.mem_of_getElem? (i := 858) (by decide +kernel)⟩
theorem lw_p9 : lw_okq (⟨"ThreeLinkPairModel", "give", "(I)V"⟩, 51) := ⟨⟨by decide +kernel, by decide +kernel⟩, List.mem_of_getElem? (i := 843) (by decide +kernel), List.mem_of_getElem? (i := 861) (by decide +kernel), List.mem_of_getElem? (i := 862) (by decide +kernel)⟩
theorem lw_p10 : lw_okq (⟨"ThreeLinkPairModel", "missing", "(Z)Z"⟩, 51) := ⟨⟨by decide +kernel, by decide +kernel⟩, List.mem_of_getElem? (i := 843) (by decide +kernel), List.mem_of_getElem? (i := 1031) (by decide +kernel), List.mem_of_getElem? (i := 1032) (by decide +kernel)⟩
theorem lw_p11 : lw_okq (⟨"ThreeLinkPairModel", "come", "(II)V"⟩, 51) := ⟨⟨by decide +kernel, by decide +kernel⟩, List.mem_of_getElem? (i := 843) (by decide +kernel), List.mem_of_getElem? (i := 1035) (by decide +kernel), List.mem_of_getElem? (i := 1036) (by decide +kernel)⟩
theorem lw_p12 : lw_okq (⟨"ThreeLinkPairModel", "fall", "(I)V"⟩, 51) := ⟨⟨by decide +kernel, by decide +kernel⟩, List.mem_of_getElem? (i := 843) (by decide +kernel), List.mem_of_getElem? (i := 1043) (by decide +kernel), List.mem_of_getElem? (i := 1044) (by decide +kernel)⟩
theorem lw_p13 : lw_okq (⟨"ThreeLinkPairModel", "change", "(I)V"⟩, 51) := ⟨⟨by decide +kernel, by decide +kernel⟩, List.mem_of_getElem? (i := 843) (by decide +kernel), List.mem_of_getElem? (i := 1047) (by decide +kernel), List.mem_of_getElem? (i := 1048) (by decide +kernel)⟩
theorem lw_p14 : lw_okq (⟨"ThreeLinkPairModel", "put", "(II)V"⟩, 51) := ⟨⟨by decide +kernel, by decide +kernel⟩, List.mem_of_getElem? (i := 843) (by decide +kernel), List.mem_of_getElem? (i := 1051) (by decide +kernel), List.mem_of_getElem? (i := 1052) (by decide +kernel)⟩
theorem lw_p15 : lw_okq (⟨"ThreeLinkPairModel", "deliver", "(I)V"⟩, 51) := ⟨⟨by decide +kernel, by decide +kernel⟩, List.mem_of_getElem? (i := 843) (by decide +kernel), List.mem_of_getElem? (i := 1063) (by decide +kernel), List.mem_of_getElem? (i := 1064) (by decide +kernel)⟩
def lw_privs_1 : List (MethodName × Nat) := [(⟨"ThreeLinkPair", "arrive", "(II)I"⟩, 2), (⟨"java/util/ArrayList", "add", "(Ljava/lang/Object;[Ljava/lang/Object;I)V"⟩, 3), (⟨"java/util/ArrayList", "grow", "()[Ljava/lang/Object;"⟩, 3), (⟨"java/util/ArrayList", "grow", "(I)[Ljava/lang/Object;"⟩, 3), (⟨"java/util/ArrayList", "fastRemove", "([Ljava/lang/Object;I)V"⟩, 3), (⟨"java/lang/Throwable", "fillInStackTrace", "(I)Ljava/lang/Throwable;"⟩, 6), (⟨"ThreeLinkPairModel", "begin", "(I)V"⟩, 51), (⟨"ThreeLinkPairModel", "empty", "(I)V"⟩, 51), (⟨"ThreeLinkPairModel", "shift", "(I)I"⟩, 51), (⟨"ThreeLinkPairModel", "give", "(I)V"⟩, 51), (⟨"ThreeLinkPairModel", "missing", "(Z)Z"⟩, 51), (⟨"ThreeLinkPairModel", "come", "(II)V"⟩, 51), (⟨"ThreeLinkPairModel", "fall", "(I)V"⟩, 51), (⟨"ThreeLinkPairModel", "change", "(I)V"⟩, 51), (⟨"ThreeLinkPairModel", "put", "(II)V"⟩, 51), (⟨"ThreeLinkPairModel", "deliver", "(I)V"⟩, 51)]
theorem lw_r1 : ∀ q ∈ lw_privs_1, lw_okq q := List.forall_mem_cons.mpr ⟨lw_p0, List.forall_mem_cons.mpr ⟨lw_p1, List.forall_mem_cons.mpr ⟨lw_p2, List.forall_mem_cons.mpr ⟨lw_p3, List.forall_mem_cons.mpr ⟨lw_p4, List.forall_mem_cons.mpr ⟨lw_p5, List.forall_mem_cons.mpr ⟨lw_p6, List.forall_mem_cons.mpr ⟨lw_p7, List.forall_mem_cons.mpr ⟨lw_p8, List.forall_mem_cons.mpr ⟨lw_p9, List.forall_mem_cons.mpr ⟨lw_p10, List.forall_mem_cons.mpr ⟨lw_p11, List.forall_mem_cons.mpr ⟨lw_p12, List.forall_mem_cons.mpr ⟨lw_p13, List.forall_mem_cons.mpr ⟨lw_p14, List.forall_mem_cons.mpr ⟨lw_p15, fun _ h => absurd h List.not_mem_nil⟩⟩⟩⟩⟩⟩⟩⟩⟩⟩⟩⟩⟩⟩⟩⟩
theorem lw_p16 : lw_okq (⟨"ThreeLinkPairModel", "damaged", "(I)V"⟩, 51) := ⟨⟨by decide +kernel, by decide +kernel⟩, List.mem_of_getElem? (i := 843) (by decide +kernel), List.mem_of_getElem? (i := 1067) (by decide +kernel), List.mem_of_getElem? (i := 1068) (by decide +kernel)⟩
theorem lw_p17 : lw_okq (⟨"ThreeLinkPairModel", "status", "(II)V"⟩, 51) := ⟨⟨by decide +kernel, by decide +kernel⟩, List.mem_of_getElem? (i := 843) (by decide +kernel), List.mem_of_getElem? (i := 1071) (by decide +kernel), List.mem_of_getElem? (i := 1072) (by decide +kernel)⟩
theorem lw_p18 : lw_okq (⟨"ThreeLinkPairModel", "served", "(II)V"⟩, 51) := ⟨⟨by decide +kernel, by decide +kernel⟩, List.mem_of_getElem? (i := 843) (by decide +kernel), List.mem_of_getElem? (i := 1075) (by decide +kernel), List.mem_of_getElem? (i := 1076) (by decide +kernel)⟩
theorem lw_p19 : lw_okq (⟨"ThreeLinkPairModel", "isTaken", "(II)V"⟩, 51) := ⟨⟨by decide +kernel, by decide +kernel⟩, List.mem_of_getElem? (i := 843) (by decide +kernel), List.mem_of_getElem? (i := 1079) (by decide +kernel), List.mem_of_getElem? (i := 1080) (by decide +kernel)⟩
theorem lw_p20 : lw_okq (⟨"ThreeLinkPairModel", "takeOrder", "(IIII)V"⟩, 51) := ⟨⟨by decide +kernel, by decide +kernel⟩, List.mem_of_getElem? (i := 843) (by decide +kernel), List.mem_of_getElem? (i := 1083) (by decide +kernel), List.mem_of_getElem? (i := 1084) (by decide +kernel)⟩
theorem lw_p21 : lw_okq (⟨"ThreeLinkPairModel", "message", "(IIII)I"⟩, 51) := ⟨⟨by decide +kernel, by decide +kernel⟩, List.mem_of_getElem? (i := 843) (by decide +kernel), List.mem_of_getElem? (i := 1087) (by decide +kernel), List.mem_of_getElem? (i := 1088) (by decide +kernel)⟩
theorem lw_p22 : lw_okq (⟨"ThreeLinkPairModel", "say", "(II)V"⟩, 51) := ⟨⟨by decide +kernel, by decide +kernel⟩, List.mem_of_getElem? (i := 843) (by decide +kernel), List.mem_of_getElem? (i := 1091) (by decide +kernel), List.mem_of_getElem? (i := 1092) (by decide +kernel)⟩
theorem lw_p23 : lw_okq (⟨"ThreeLinkPairModel", "serving", "(I)I"⟩, 51) := ⟨⟨by decide +kernel, by decide +kernel⟩, List.mem_of_getElem? (i := 843) (by decide +kernel), List.mem_of_getElem? (i := 1095) (by decide +kernel), List.mem_of_getElem? (i := 1096) (by decide +kernel)⟩
theorem lw_p24 : lw_okq (⟨"ThreeLinkPairModel", "settle", "(II)V"⟩, 51) := ⟨⟨by decide +kernel, by decide +kernel⟩, List.mem_of_getElem? (i := 843) (by decide +kernel), List.mem_of_getElem? (i := 1099) (by decide +kernel), List.mem_of_getElem? (i := 1100) (by decide +kernel)⟩
theorem lw_p25 : lw_okq (⟨"ThreeLinkPairModel", "age", "(I)V"⟩, 51) := ⟨⟨by decide +kernel, by decide +kernel⟩, List.mem_of_getElem? (i := 843) (by decide +kernel), List.mem_of_getElem? (i := 1103) (by decide +kernel), List.mem_of_getElem? (i := 1104) (by decide +kernel)⟩
theorem lw_p26 : lw_okq (⟨"ThreeLinkPairModel", "tickChange", "(I)V"⟩, 51) := ⟨⟨by decide +kernel, by decide +kernel⟩, List.mem_of_getElem? (i := 843) (by decide +kernel), List.mem_of_getElem? (i := 1107) (by decide +kernel), List.mem_of_getElem? (i := 1108) (by decide +kernel)⟩
theorem lw_p27 : lw_okq (⟨"ThreeLinkPairModel", "giveUp", "(I)V"⟩, 51) := ⟨⟨by decide +kernel, by decide +kernel⟩, List.mem_of_getElem? (i := 843) (by decide +kernel), List.mem_of_getElem? (i := 1111) (by decide +kernel), List.mem_of_getElem? (i := 1112) (by decide +kernel)⟩
theorem lw_p28 : lw_okq (⟨"ThreeLinkPairModel", "chosen", "(II)I"⟩, 51) := ⟨⟨by decide +kernel, by decide +kernel⟩, List.mem_of_getElem? (i := 843) (by decide +kernel), List.mem_of_getElem? (i := 1115) (by decide +kernel), List.mem_of_getElem? (i := 1116) (by decide +kernel)⟩
theorem lw_p29 : lw_okq (⟨"ThreeLinkPairModel", "isOpen", "(II)Z"⟩, 51) := ⟨⟨by decide +kernel, by decide +kernel⟩, List.mem_of_getElem? (i := 843) (by decide +kernel), List.mem_of_getElem? (i := 1119) (by decide +kernel), List.mem_of_getElem? (i := 1120) (by decide +kernel)⟩
theorem lw_p30 : lw_okq (⟨"ThreeLinkPairModel", "end", "(I)V"⟩, 51) := ⟨⟨by decide +kernel, by decide +kernel⟩, List.mem_of_getElem? (i := 843) (by decide +kernel), List.mem_of_getElem? (i := 1123) (by decide +kernel), List.mem_of_getElem? (i := 1124) (by decide +kernel)⟩
theorem lw_p31 : lw_okq (⟨"ThreeLinkPairModel", "send", "(I)V"⟩, 51) := ⟨⟨by decide +kernel, by decide +kernel⟩, List.mem_of_getElem? (i := 843) (by decide +kernel), List.mem_of_getElem? (i := 1127) (by decide +kernel), List.mem_of_getElem? (i := 1128) (by decide +kernel)⟩
def lw_privs_2 : List (MethodName × Nat) := [(⟨"ThreeLinkPairModel", "damaged", "(I)V"⟩, 51), (⟨"ThreeLinkPairModel", "status", "(II)V"⟩, 51), (⟨"ThreeLinkPairModel", "served", "(II)V"⟩, 51), (⟨"ThreeLinkPairModel", "isTaken", "(II)V"⟩, 51), (⟨"ThreeLinkPairModel", "takeOrder", "(IIII)V"⟩, 51), (⟨"ThreeLinkPairModel", "message", "(IIII)I"⟩, 51), (⟨"ThreeLinkPairModel", "say", "(II)V"⟩, 51), (⟨"ThreeLinkPairModel", "serving", "(I)I"⟩, 51), (⟨"ThreeLinkPairModel", "settle", "(II)V"⟩, 51), (⟨"ThreeLinkPairModel", "age", "(I)V"⟩, 51), (⟨"ThreeLinkPairModel", "tickChange", "(I)V"⟩, 51), (⟨"ThreeLinkPairModel", "giveUp", "(I)V"⟩, 51), (⟨"ThreeLinkPairModel", "chosen", "(II)I"⟩, 51), (⟨"ThreeLinkPairModel", "isOpen", "(II)Z"⟩, 51), (⟨"ThreeLinkPairModel", "end", "(I)V"⟩, 51), (⟨"ThreeLinkPairModel", "send", "(I)V"⟩, 51)]
theorem lw_r2 : ∀ q ∈ lw_privs_2, lw_okq q := List.forall_mem_cons.mpr ⟨lw_p16, List.forall_mem_cons.mpr ⟨lw_p17, List.forall_mem_cons.mpr ⟨lw_p18, List.forall_mem_cons.mpr ⟨lw_p19, List.forall_mem_cons.mpr ⟨lw_p20, List.forall_mem_cons.mpr ⟨lw_p21, List.forall_mem_cons.mpr ⟨lw_p22, List.forall_mem_cons.mpr ⟨lw_p23, List.forall_mem_cons.mpr ⟨lw_p24, List.forall_mem_cons.mpr ⟨lw_p25, List.forall_mem_cons.mpr ⟨lw_p26, List.forall_mem_cons.mpr ⟨lw_p27, List.forall_mem_cons.mpr ⟨lw_p28, List.forall_mem_cons.mpr ⟨lw_p29, List.forall_mem_cons.mpr ⟨lw_p30, List.forall_mem_cons.mpr ⟨lw_p31, fun _ h => absurd h List.not_mem_nil⟩⟩⟩⟩⟩⟩⟩⟩⟩⟩⟩⟩⟩⟩⟩⟩
theorem lw_p32 : lw_okq (⟨"ThreeLinkPairModel", "at", "(II)I"⟩, 51) := ⟨⟨by decide +kernel, by decide +kernel⟩, List.mem_of_getElem? (i := 843) (by decide +kernel), List.mem_of_getElem? (i := 1131) (by decide +kernel), List.mem_of_getElem? (i := 1132) (by decide +kernel)⟩
theorem lw_p33 : lw_okq (⟨"ThreeLinkPairModel", "carry", "(III)V"⟩, 51) := ⟨⟨by decide +kernel, by decide +kernel⟩, List.mem_of_getElem? (i := 843) (by decide +kernel), List.mem_of_getElem? (i := 1135) (by decide +kernel), List.mem_of_getElem? (i := 1136) (by decide +kernel)⟩
theorem lw_p34 : lw_okq (⟨"ThreeLinkPairModel", "hasClass", "(II)Z"⟩, 51) := ⟨⟨by decide +kernel, by decide +kernel⟩, List.mem_of_getElem? (i := 843) (by decide +kernel), List.mem_of_getElem? (i := 1146) (by decide +kernel), List.mem_of_getElem? (i := 1147) (by decide +kernel)⟩
def lw_privs_3 : List (MethodName × Nat) := [(⟨"ThreeLinkPairModel", "at", "(II)I"⟩, 51), (⟨"ThreeLinkPairModel", "carry", "(III)V"⟩, 51), (⟨"ThreeLinkPairModel", "hasClass", "(II)Z"⟩, 51)]
theorem lw_r3 : ∀ q ∈ lw_privs_3, lw_okq q := List.forall_mem_cons.mpr ⟨lw_p32, List.forall_mem_cons.mpr ⟨lw_p33, List.forall_mem_cons.mpr ⟨lw_p34, fun _ h => absurd h List.not_mem_nil⟩⟩⟩
def lw_privs : List (MethodName × Nat) := lw_privs_1 ++ (lw_privs_2 ++ (lw_privs_3))
def lw_tbl : List Cond := k2_sels lw_privs ++ tables_1
theorem lw_privs_ok : ∀ q ∈ lw_privs, lw_okq q := by
  show ∀ q ∈ lw_privs_1 ++ (lw_privs_2 ++ (lw_privs_3)), lw_okq q
  exact List.forall_mem_append.mpr ⟨lw_r1, List.forall_mem_append.mpr ⟨lw_r2, lw_r3⟩⟩
end
section
/-! names: the classes whose objects are made, their fields, the kinds of arrays, the methods (printed by wip/whole/names.py out of the Statement) -/
def nm_T0 : u_T := fun k => match k with
  | 0 => ("ThreeLinkPair", "ends", "[LThreeLinkPair$End;", true)
  | _ => ("ThreeLinkPair", "faults", "[LThreeLinkPair$Fault;", true)
def nm_T1 : u_T := fun k => match k with
  | 0 => ("ThreeLinkPair$End", "sides", "[LThreeLinkPair$Side;", true)
  | 1 => ("ThreeLinkPair$End", "changeovers", "[LThreeLinkPair$Changeover;", true)
  | 2 => ("ThreeLinkPair$End", "links", "[I", true)
  | 3 => ("ThreeLinkPair$End", "linksBefore", "[I", true)
  | 4 => ("ThreeLinkPair$End", "held", "Ljava/util/ArrayList;", true)
  | 5 => ("ThreeLinkPair$End", "inbox", "Ljava/util/ArrayList;", true)
  | _ => ("ThreeLinkPair$End", "lostHere", "I", false)
def nm_T2 : u_T := fun k => match k with
  | 0 => ("ThreeLinkPair$Side", "state", "I", false)
  | 1 => ("ThreeLinkPair$Side", "age", "I", false)
  | 2 => ("ThreeLinkPair$Side", "turn", "I", false)
  | 3 => ("ThreeLinkPair$Side", "heard", "I", false)
  | 4 => ("ThreeLinkPair$Side", "fore", "I", false)
  | 5 => ("ThreeLinkPair$Side", "back", "I", false)
  | 6 => ("ThreeLinkPair$Side", "foreBit", "I", false)
  | 7 => ("ThreeLinkPair$Side", "backBit", "I", false)
  | 8 => ("ThreeLinkPair$Side", "errors", "I", false)
  | 9 => ("ThreeLinkPair$Side", "tries", "I", false)
  | 10 => ("ThreeLinkPair$Side", "bucket", "I", false)
  | 11 => ("ThreeLinkPair$Side", "good", "I", false)
  | 12 => ("ThreeLinkPair$Side", "idle", "I", false)
  | 13 => ("ThreeLinkPair$Side", "odd", "I", false)
  | 14 => ("ThreeLinkPair$Side", "fell", "Z", false)
  | 15 => ("ThreeLinkPair$Side", "due", "I", false)
  | 16 => ("ThreeLinkPair$Side", "sent", "Ljava/util/ArrayList;", true)
  | 17 => ("ThreeLinkPair$Side", "queued", "Ljava/util/ArrayList;", true)
  | 18 => ("ThreeLinkPair$Side", "memory", "LThreeLinkPair$Memory;", true)
  | _ => ("ThreeLinkPair$Side", "unit", "LThreeLinkPair$Unit;", true)
def nm_T3 : u_T := fun k => match k with
  | 0 => ("ThreeLinkPair$Changeover", "underWay", "Z", false)
  | 1 => ("ThreeLinkPair$Changeover", "said", "Z", false)
  | 2 => ("ThreeLinkPair$Changeover", "settled", "Z", false)
  | 3 => ("ThreeLinkPair$Changeover", "waited", "I", false)
  | 4 => ("ThreeLinkPair$Changeover", "turn", "I", false)
  | 5 => ("ThreeLinkPair$Changeover", "heard", "I", false)
  | 6 => ("ThreeLinkPair$Changeover", "back", "I", false)
  | 7 => ("ThreeLinkPair$Changeover", "numbered", "I", false)
  | 8 => ("ThreeLinkPair$Changeover", "firstNumber", "I", false)
  | _ => ("ThreeLinkPair$Changeover", "kept", "Ljava/util/ArrayList;", true)
def nm_T4 : u_T := fun k => match k with
  | 0 => ("ThreeLinkPair$Fault", "how", "I", false)
  | _ => ("ThreeLinkPair$Fault", "left", "I", false)
def nm_T5 : u_T := fun k => match k with
  | 0 => ("ThreeLinkPair$Memory", "turns", "[I", true)
  | _ => ("ThreeLinkPair$Memory", "backs", "[I", true)
def nm_T6 : u_T := fun k => match k with
  | 0 => ("ThreeLinkPair$Message", "kind", "I", true)
  | 1 => ("ThreeLinkPair$Message", "word", "I", true)
  | 2 => ("ThreeLinkPair$Message", "number", "I", true)
  | _ => ("ThreeLinkPair$Message", "turn", "I", true)
def nm_T7 : u_T := fun k => match k with
  | 0 => ("ThreeLinkPair$Unit", "form", "I", false)
  | 1 => ("ThreeLinkPair$Unit", "turn", "I", false)
  | 2 => ("ThreeLinkPair$Unit", "fore", "I", false)
  | 3 => ("ThreeLinkPair$Unit", "foreBit", "I", false)
  | 4 => ("ThreeLinkPair$Unit", "back", "I", false)
  | 5 => ("ThreeLinkPair$Unit", "backBit", "I", false)
  | _ => ("ThreeLinkPair$Unit", "message", "LThreeLinkPair$Message;", false)
def nm_T8 : u_T := fun k => match k with
  | 0 => ("ThreeLinkPairModel", "thrown", "I", false)
  | 1 => ("ThreeLinkPairModel", "kinds", "[I", true)
  | 2 => ("ThreeLinkPairModel", "words", "[I", true)
  | 3 => ("ThreeLinkPairModel", "abouts", "[I", true)
  | 4 => ("ThreeLinkPairModel", "turnsOf", "[I", true)
  | 5 => ("ThreeLinkPairModel", "numbers", "[I", true)
  | 6 => ("ThreeLinkPairModel", "nexts", "[I", true)
  | 7 => ("ThreeLinkPairModel", "spare", "I", false)
  | 8 => ("ThreeLinkPairModel", "made", "I", false)
  | 9 => ("ThreeLinkPairModel", "firsts", "[I", true)
  | 10 => ("ThreeLinkPairModel", "lasts", "[I", true)
  | 11 => ("ThreeLinkPairModel", "sizes", "[I", true)
  | 12 => ("ThreeLinkPairModel", "states", "[I", true)
  | 13 => ("ThreeLinkPairModel", "ages", "[I", true)
  | 14 => ("ThreeLinkPairModel", "turns", "[I", true)
  | 15 => ("ThreeLinkPairModel", "heards", "[I", true)
  | 16 => ("ThreeLinkPairModel", "fell", "[Z", true)
  | 17 => ("ThreeLinkPairModel", "fores", "[I", true)
  | 18 => ("ThreeLinkPairModel", "backs", "[I", true)
  | 19 => ("ThreeLinkPairModel", "foreBits", "[I", true)
  | 20 => ("ThreeLinkPairModel", "backBits", "[I", true)
  | 21 => ("ThreeLinkPairModel", "errors", "[I", true)
  | 22 => ("ThreeLinkPairModel", "tries", "[I", true)
  | 23 => ("ThreeLinkPairModel", "buckets", "[I", true)
  | 24 => ("ThreeLinkPairModel", "goods", "[I", true)
  | 25 => ("ThreeLinkPairModel", "idles", "[I", true)
  | 26 => ("ThreeLinkPairModel", "odds", "[I", true)
  | 27 => ("ThreeLinkPairModel", "again", "[I", true)
  | 28 => ("ThreeLinkPairModel", "rememberedTurns", "[I", true)
  | 29 => ("ThreeLinkPairModel", "rememberedBacks", "[I", true)
  | 30 => ("ThreeLinkPairModel", "faults", "[I", true)
  | 31 => ("ThreeLinkPairModel", "faultsLeft", "[I", true)
  | 32 => ("ThreeLinkPairModel", "units", "[I", true)
  | 33 => ("ThreeLinkPairModel", "unitTurns", "[I", true)
  | 34 => ("ThreeLinkPairModel", "unitFores", "[I", true)
  | 35 => ("ThreeLinkPairModel", "unitForeBits", "[I", true)
  | 36 => ("ThreeLinkPairModel", "unitBacks", "[I", true)
  | 37 => ("ThreeLinkPairModel", "unitBackBits", "[I", true)
  | 38 => ("ThreeLinkPairModel", "unitKinds", "[I", true)
  | 39 => ("ThreeLinkPairModel", "unitWords", "[I", true)
  | 40 => ("ThreeLinkPairModel", "unitAbouts", "[I", true)
  | 41 => ("ThreeLinkPairModel", "unitMessageTurns", "[I", true)
  | 42 => ("ThreeLinkPairModel", "changing", "[I", true)
  | 43 => ("ThreeLinkPairModel", "said", "[Z", true)
  | 44 => ("ThreeLinkPairModel", "waits", "[I", true)
  | 45 => ("ThreeLinkPairModel", "keptTurns", "[I", true)
  | 46 => ("ThreeLinkPairModel", "keptHeards", "[I", true)
  | 47 => ("ThreeLinkPairModel", "keptBacks", "[I", true)
  | 48 => ("ThreeLinkPairModel", "links", "[I", true)
  | 49 => ("ThreeLinkPairModel", "lostCount", "I", false)
  | _ => ("ThreeLinkPairModel", "came", "I", false)
def nm_T9 : u_T := fun k => match k with
  | 0 => ("java/util/AbstractList", "modCount", "I", false)
  | 1 => ("java/util/ArrayList", "elementData", "[Ljava/lang/Object;", false)
  | _ => ("java/util/ArrayList", "size", "I", false)
def nm_T10 : u_T := fun k => match k with
  | 0 => ("java/lang/Throwable", "cause", "Ljava/lang/Throwable;", false)
  | 1 => ("java/lang/Throwable", "stackTrace", "[Ljava/lang/StackTraceElement;", false)
  | 2 => ("java/lang/Throwable", "suppressedExceptions", "Ljava/util/List;", false)
  | 3 => ("java/lang/Throwable", "detailMessage", "Ljava/lang/String;", false)
  | 4 => ("java/lang/Throwable", "backtrace", "Ljava/lang/Object;", false)
  | _ => ("java/lang/Throwable", "depth", "I", false)
def nm_T11 : u_T := fun k => match k with
  | 0 => ("java/lang/Throwable", "cause", "Ljava/lang/Throwable;", false)
  | 1 => ("java/lang/Throwable", "stackTrace", "[Ljava/lang/StackTraceElement;", false)
  | 2 => ("java/lang/Throwable", "suppressedExceptions", "Ljava/util/List;", false)
  | 3 => ("java/lang/Throwable", "detailMessage", "Ljava/lang/String;", false)
  | 4 => ("java/lang/Throwable", "backtrace", "Ljava/lang/Object;", false)
  | _ => ("java/lang/Throwable", "depth", "I", false)
def nm_T12 : u_T := fun k => match k with
  | 0 => ("java/lang/Throwable", "cause", "Ljava/lang/Throwable;", false)
  | 1 => ("java/lang/Throwable", "stackTrace", "[Ljava/lang/StackTraceElement;", false)
  | 2 => ("java/lang/Throwable", "suppressedExceptions", "Ljava/util/List;", false)
  | 3 => ("java/lang/Throwable", "detailMessage", "Ljava/lang/String;", false)
  | 4 => ("java/lang/Throwable", "backtrace", "Ljava/lang/Object;", false)
  | _ => ("java/lang/Throwable", "depth", "I", false)
def nm_cl : List vw_C := [("ThreeLinkPair", nm_T0, 2), ("ThreeLinkPair$End", nm_T1, 7), ("ThreeLinkPair$Side", nm_T2, 20), ("ThreeLinkPair$Changeover", nm_T3, 10), ("ThreeLinkPair$Fault", nm_T4, 2), ("ThreeLinkPair$Memory", nm_T5, 2), ("ThreeLinkPair$Message", nm_T6, 4), ("ThreeLinkPair$Unit", nm_T7, 7), ("ThreeLinkPairModel", nm_T8, 51), ("java/util/ArrayList", nm_T9, 3), ("java/lang/IndexOutOfBoundsException", nm_T10, 6), ("java/lang/IllegalArgumentException", nm_T11, 6), ("java/util/NoSuchElementException", nm_T12, 6)]
def nm_ft (c : Nat) : Nat → FieldType := match c with
  | 0 => fun k => match k with
    | 0 => .array (.object "ThreeLinkPair$End")
    | _ => .array (.object "ThreeLinkPair$Fault")
  | 1 => fun k => match k with
    | 0 => .array (.object "ThreeLinkPair$Side")
    | 1 => .array (.object "ThreeLinkPair$Changeover")
    | 2 => .array (.int)
    | 3 => .array (.int)
    | 4 => .object "java/util/ArrayList"
    | 5 => .object "java/util/ArrayList"
    | _ => .int
  | 2 => fun k => match k with
    | 0 => .int
    | 1 => .int
    | 2 => .int
    | 3 => .int
    | 4 => .int
    | 5 => .int
    | 6 => .int
    | 7 => .int
    | 8 => .int
    | 9 => .int
    | 10 => .int
    | 11 => .int
    | 12 => .int
    | 13 => .int
    | 14 => .boolean
    | 15 => .int
    | 16 => .object "java/util/ArrayList"
    | 17 => .object "java/util/ArrayList"
    | 18 => .object "ThreeLinkPair$Memory"
    | _ => .object "ThreeLinkPair$Unit"
  | 3 => fun k => match k with
    | 0 => .boolean
    | 1 => .boolean
    | 2 => .boolean
    | 3 => .int
    | 4 => .int
    | 5 => .int
    | 6 => .int
    | 7 => .int
    | 8 => .int
    | _ => .object "java/util/ArrayList"
  | 4 => fun k => match k with
    | 0 => .int
    | _ => .int
  | 5 => fun k => match k with
    | 0 => .array (.int)
    | _ => .array (.int)
  | 6 => fun k => match k with
    | 0 => .int
    | 1 => .int
    | 2 => .int
    | _ => .int
  | 7 => fun k => match k with
    | 0 => .int
    | 1 => .int
    | 2 => .int
    | 3 => .int
    | 4 => .int
    | 5 => .int
    | _ => .object "ThreeLinkPair$Message"
  | 8 => fun k => match k with
    | 0 => .int
    | 1 => .array (.int)
    | 2 => .array (.int)
    | 3 => .array (.int)
    | 4 => .array (.int)
    | 5 => .array (.int)
    | 6 => .array (.int)
    | 7 => .int
    | 8 => .int
    | 9 => .array (.int)
    | 10 => .array (.int)
    | 11 => .array (.int)
    | 12 => .array (.int)
    | 13 => .array (.int)
    | 14 => .array (.int)
    | 15 => .array (.int)
    | 16 => .array (.boolean)
    | 17 => .array (.int)
    | 18 => .array (.int)
    | 19 => .array (.int)
    | 20 => .array (.int)
    | 21 => .array (.int)
    | 22 => .array (.int)
    | 23 => .array (.int)
    | 24 => .array (.int)
    | 25 => .array (.int)
    | 26 => .array (.int)
    | 27 => .array (.int)
    | 28 => .array (.int)
    | 29 => .array (.int)
    | 30 => .array (.int)
    | 31 => .array (.int)
    | 32 => .array (.int)
    | 33 => .array (.int)
    | 34 => .array (.int)
    | 35 => .array (.int)
    | 36 => .array (.int)
    | 37 => .array (.int)
    | 38 => .array (.int)
    | 39 => .array (.int)
    | 40 => .array (.int)
    | 41 => .array (.int)
    | 42 => .array (.int)
    | 43 => .array (.boolean)
    | 44 => .array (.int)
    | 45 => .array (.int)
    | 46 => .array (.int)
    | 47 => .array (.int)
    | 48 => .array (.int)
    | 49 => .int
    | _ => .int
  | 9 => fun k => match k with
    | 0 => .int
    | 1 => .array (.object "java/lang/Object")
    | _ => .int
  | 10 => fun k => match k with
    | 0 => .object "java/lang/Throwable"
    | 1 => .array (.object "java/lang/StackTraceElement")
    | 2 => .object "java/util/List"
    | 3 => .object "java/lang/String"
    | 4 => .object "java/lang/Object"
    | _ => .int
  | 11 => fun k => match k with
    | 0 => .object "java/lang/Throwable"
    | 1 => .array (.object "java/lang/StackTraceElement")
    | 2 => .object "java/util/List"
    | 3 => .object "java/lang/String"
    | 4 => .object "java/lang/Object"
    | _ => .int
  | _ => fun k => match k with
    | 0 => .object "java/lang/Throwable"
    | 1 => .array (.object "java/lang/StackTraceElement")
    | 2 => .object "java/util/List"
    | 3 => .object "java/lang/String"
    | 4 => .object "java/lang/Object"
    | _ => .int
def nm_sl (c : Nat) : Nat := match c with
  | 0 => 2
  | 1 => 7
  | 2 => 20
  | 3 => 10
  | 4 => 2
  | 5 => 2
  | 6 => 4
  | 7 => 7
  | 8 => 51
  | 9 => 3
  | 10 => 6
  | 11 => 6
  | _ => 6
def nm_at : List FieldType := [.int, .boolean, .long, .object "java/lang/Object", .object "ThreeLinkPair$End", .object "ThreeLinkPair$Side", .object "ThreeLinkPair$Changeover", .object "ThreeLinkPair$Fault"]
theorem nm_lt : ∀ (c : Nat) (q : vw_C), nm_cl[c]? = some q → c < 100 := by
  intro c q h
  have h1 : c < nm_cl.length := (List.getElem?_eq_some_iff.mp h).1
  have h2 : nm_cl.length = 13 := rfl
  omega
theorem nm_in (i : Nat) {w : Cond} (h : tables_1[i]? = some w) : w ∈ lw_tbl := List.mem_append_right _ (List.mem_of_getElem? h)
theorem nm_pr (i : Nat) {w : Cond} (h : (k2_sels lw_privs)[i]? = some w) : w ∈ lw_tbl := List.mem_append_left _ (List.mem_of_getElem? h)
theorem nm_sub {ws : List Cond} (ps : List Nat) (hp : ws = ps.filterMap (fun i => tables_1[i]?)) : ∀ x ∈ ws, x ∈ lw_tbl := by
  intro x hx
  rw [hp] at hx
  obtain ⟨i, -, hi⟩ := List.mem_filterMap.mp hx
  exact nm_in i hi
abbrev mm_P_init : MethodName × ByteArray × Nat × Option FieldType × List (Nat × Nat × Nat × Nat) := (⟨"ThreeLinkPair", "<init>", "()V"⟩, prog_1_method_1_code, 2, (Option.none : Option FieldType), [])
abbrev mm_OO_init : MethodName × ByteArray × Nat × Option FieldType × List (Nat × Nat × Nat × Nat) := (⟨"java/lang/Object", "<init>", "()V"⟩, object_method_1_code, 1, (Option.none : Option FieldType), [])
abbrev mm_E_init : MethodName × ByteArray × Nat × Option FieldType × List (Nat × Nat × Nat × Nat) := (⟨"ThreeLinkPair$End", "<init>", "()V"⟩, prog_3_method_1_code, 2, (Option.none : Option FieldType), [])
abbrev mm_S_init : MethodName × ByteArray × Nat × Option FieldType × List (Nat × Nat × Nat × Nat) := (⟨"ThreeLinkPair$Side", "<init>", "()V"⟩, prog_7_method_1_code, 1, (Option.none : Option FieldType), [])
abbrev mm_AL_init : MethodName × ByteArray × Nat × Option FieldType × List (Nat × Nat × Nat × Nat) := (⟨"java/util/ArrayList", "<init>", "()V"⟩, prog_24_method_2_code, 1, (Option.none : Option FieldType), [])
abbrev mm_AB_init : MethodName × ByteArray × Nat × Option FieldType × List (Nat × Nat × Nat × Nat) := (⟨"java/util/AbstractList", "<init>", "()V"⟩, prog_23_method_1_code, 1, (Option.none : Option FieldType), [])
abbrev mm_AC_init : MethodName × ByteArray × Nat × Option FieldType × List (Nat × Nat × Nat × Nat) := (⟨"java/util/AbstractCollection", "<init>", "()V"⟩, prog_22_method_1_code, 1, (Option.none : Option FieldType), [])
abbrev mm_Y_init : MethodName × ByteArray × Nat × Option FieldType × List (Nat × Nat × Nat × Nat) := (⟨"ThreeLinkPair$Memory", "<init>", "()V"⟩, prog_5_method_1_code, 1, (Option.none : Option FieldType), [])
abbrev mm_AR_fill : MethodName × ByteArray × Nat × Option FieldType × List (Nat × Nat × Nat × Nat) := (⟨"java/util/Arrays", "fill", "([II)V"⟩, prog_25_method_103_code, 4, (Option.none : Option FieldType), [])
abbrev mm_N_init : MethodName × ByteArray × Nat × Option FieldType × List (Nat × Nat × Nat × Nat) := (⟨"ThreeLinkPair$Unit", "<init>", "()V"⟩, prog_8_method_1_code, 1, (Option.none : Option FieldType), [])
abbrev mm_C_init : MethodName × ByteArray × Nat × Option FieldType × List (Nat × Nat × Nat × Nat) := (⟨"ThreeLinkPair$Changeover", "<init>", "()V"⟩, prog_2_method_1_code, 1, (Option.none : Option FieldType), [])
abbrev mm_F_init : MethodName × ByteArray × Nat × Option FieldType × List (Nat × Nat × Nat × Nat) := (⟨"ThreeLinkPair$Fault", "<init>", "()V"⟩, prog_4_method_1_code, 1, (Option.none : Option FieldType), [])
abbrev mm_P_tick : MethodName × ByteArray × Nat × Option FieldType × List (Nat × Nat × Nat × Nat) := (⟨"ThreeLinkPair", "tick", "()I"⟩, prog_1_method_6_code, 4, (Option.some FieldType.int), [])
abbrev mm_P_arrive : MethodName × ByteArray × Nat × Option FieldType × List (Nat × Nat × Nat × Nat) := (⟨"ThreeLinkPair", "arrive", "(II)I"⟩, prog_1_method_19_code, 5, (Option.some FieldType.int), [])
abbrev mm_P_faultPlace : MethodName × ByteArray × Nat × Option FieldType × List (Nat × Nat × Nat × Nat) := (⟨"ThreeLinkPair", "faultPlace", "(II)I"⟩, prog_1_method_18_code, 2, (Option.some FieldType.int), [])
abbrev mm_E_damagedComes : MethodName × ByteArray × Nat × Option FieldType × List (Nat × Nat × Nat × Nat) := (⟨"ThreeLinkPair$End", "damagedComes", "(I)V"⟩, prog_3_method_4_code, 2, (Option.none : Option FieldType), [])
abbrev mm_S_failsByDamage : MethodName × ByteArray × Nat × Option FieldType × List (Nat × Nat × Nat × Nat) := (⟨"ThreeLinkPair$Side", "failsByDamage", "()Z"⟩, prog_7_method_11_code, 1, (Option.some FieldType.boolean), [])
abbrev mm_E_fall : MethodName × ByteArray × Nat × Option FieldType × List (Nat × Nat × Nat × Nat) := (⟨"ThreeLinkPair$End", "fall", "(I)V"⟩, prog_3_method_2_code, 4, (Option.none : Option FieldType), [])
abbrev mm_S_comeTo : MethodName × ByteArray × Nat × Option FieldType × List (Nat × Nat × Nat × Nat) := (⟨"ThreeLinkPair$Side", "comeTo", "(I)V"⟩, prog_7_method_3_code, 2, (Option.none : Option FieldType), [])
abbrev mm_Y_keep : MethodName × ByteArray × Nat × Option FieldType × List (Nat × Nat × Nat × Nat) := (⟨"ThreeLinkPair$Memory", "keep", "(II)V"⟩, prog_5_method_2_code, 4, (Option.none : Option FieldType), [])
abbrev mm_MA_floorMod : MethodName × ByteArray × Nat × Option FieldType × List (Nat × Nat × Nat × Nat) := (⟨"java/lang/Math", "floorMod", "(II)I"⟩, prog_17_method_50_code, 3, (Option.some FieldType.int), [])
abbrev mm_C_begin : MethodName × ByteArray × Nat × Option FieldType × List (Nat × Nat × Nat × Nat) := (⟨"ThreeLinkPair$Changeover", "begin", "(LThreeLinkPair$Side;)V"⟩, prog_2_method_2_code, 3, (Option.none : Option FieldType), [])
abbrev mm_AL_size : MethodName × ByteArray × Nat × Option FieldType × List (Nat × Nat × Nat × Nat) := (⟨"java/util/ArrayList", "size", "()I"⟩, prog_24_method_8_code, 1, (Option.some FieldType.int), [])
abbrev mm_AL_get : MethodName × ByteArray × Nat × Option FieldType × List (Nat × Nat × Nat × Nat) := (⟨"java/util/ArrayList", "get", "(I)Ljava/lang/Object;"⟩, prog_24_method_20_code, 2, (Option.some (FieldType.object "java/lang/Object")), [])
abbrev mm_OB_checkIndex : MethodName × ByteArray × Nat × Option FieldType × List (Nat × Nat × Nat × Nat) := (⟨"java/util/Objects", "checkIndex", "(II)I"⟩, prog_29_method_17_code, 2, (Option.some FieldType.int), [])
abbrev mm_PR_checkIndex : MethodName × ByteArray × Nat × Option FieldType × List (Nat × Nat × Nat × Nat) := (⟨"jdk/internal/util/Preconditions", "checkIndex", "(IILjava/util/function/BiFunction;)I"⟩, prog_33_method_11_code, 3, (Option.some FieldType.int), [])
abbrev mm_AL_elementData : MethodName × ByteArray × Nat × Option FieldType × List (Nat × Nat × Nat × Nat) := (⟨"java/util/ArrayList", "elementData", "(I)Ljava/lang/Object;"⟩, prog_24_method_18_code, 2, (Option.some (FieldType.object "java/lang/Object")), [])
abbrev mm_AL_add1 : MethodName × ByteArray × Nat × Option FieldType × List (Nat × Nat × Nat × Nat) := (⟨"java/util/ArrayList", "add", "(Ljava/lang/Object;)Z"⟩, prog_24_method_25_code, 2, (Option.some FieldType.boolean), [])
abbrev mm_AL_add3 : MethodName × ByteArray × Nat × Option FieldType × List (Nat × Nat × Nat × Nat) := (⟨"java/util/ArrayList", "add", "(Ljava/lang/Object;[Ljava/lang/Object;I)V"⟩, prog_24_method_24_code, 4, (Option.none : Option FieldType), [])
abbrev mm_AL_grow0 : MethodName × ByteArray × Nat × Option FieldType × List (Nat × Nat × Nat × Nat) := (⟨"java/util/ArrayList", "grow", "()[Ljava/lang/Object;"⟩, prog_24_method_7_code, 1, (Option.some (FieldType.array (FieldType.object "java/lang/Object"))), [])
abbrev mm_AL_grow1 : MethodName × ByteArray × Nat × Option FieldType × List (Nat × Nat × Nat × Nat) := (⟨"java/util/ArrayList", "grow", "(I)[Ljava/lang/Object;"⟩, prog_24_method_6_code, 4, (Option.some (FieldType.array (FieldType.object "java/lang/Object"))), [])
abbrev mm_AS_newLength : MethodName × ByteArray × Nat × Option FieldType × List (Nat × Nat × Nat × Nat) := (⟨"jdk/internal/util/ArraysSupport", "newLength", "(III)I"⟩, prog_32_method_27_code, 4, (Option.some FieldType.int), [])
abbrev mm_MA_max : MethodName × ByteArray × Nat × Option FieldType × List (Nat × Nat × Nat × Nat) := (⟨"java/lang/Math", "max", "(II)I"⟩, prog_17_method_65_code, 2, (Option.some FieldType.int), [])
abbrev mm_AS_hugeLength : MethodName × ByteArray × Nat × Option FieldType × List (Nat × Nat × Nat × Nat) := (⟨"jdk/internal/util/ArraysSupport", "hugeLength", "(II)I"⟩, prog_32_method_28_code, 3, (Option.some FieldType.int), [])
abbrev mm_AR_copyOf2 : MethodName × ByteArray × Nat × Option FieldType × List (Nat × Nat × Nat × Nat) := (⟨"java/util/Arrays", "copyOf", "([Ljava/lang/Object;I)[Ljava/lang/Object;"⟩, prog_25_method_119_code, 2, (Option.some (FieldType.array (FieldType.object "java/lang/Object"))), [])
abbrev mm_AR_copyOf3 : MethodName × ByteArray × Nat × Option FieldType × List (Nat × Nat × Nat × Nat) := (⟨"java/util/Arrays", "copyOf", "([Ljava/lang/Object;ILjava/lang/Class;)[Ljava/lang/Object;"⟩, prog_25_method_120_code, 4, (Option.some (FieldType.array (FieldType.object "java/lang/Object"))), [])
abbrev mm_MA_min : MethodName × ByteArray × Nat × Option FieldType × List (Nat × Nat × Nat × Nat) := (⟨"java/lang/Math", "min", "(II)I"⟩, prog_17_method_69_code, 2, (Option.some FieldType.int), [])
abbrev mm_S_clearRows : MethodName × ByteArray × Nat × Option FieldType × List (Nat × Nat × Nat × Nat) := (⟨"ThreeLinkPair$Side", "clearRows", "()V"⟩, prog_7_method_4_code, 1, (Option.none : Option FieldType), [])
abbrev mm_AL_clear : MethodName × ByteArray × Nat × Option FieldType × List (Nat × Nat × Nat × Nat) := (⟨"java/util/ArrayList", "clear", "()V"⟩, prog_24_method_40_code, 4, (Option.none : Option FieldType), [])
abbrev mm_E_numberedComes : MethodName × ByteArray × Nat × Option FieldType × List (Nat × Nat × Nat × Nat) := (⟨"ThreeLinkPair$End", "numberedComes", "(ILThreeLinkPair$Unit;)V"⟩, prog_3_method_9_code, 5, (Option.none : Option FieldType), [])
abbrev mm_S_countGood : MethodName × ByteArray × Nat × Option FieldType × List (Nat × Nat × Nat × Nat) := (⟨"ThreeLinkPair$Side", "countGood", "()V"⟩, prog_7_method_7_code, 1, (Option.none : Option FieldType), [])
abbrev mm_S_answered : MethodName × ByteArray × Nat × Option FieldType × List (Nat × Nat × Nat × Nat) := (⟨"ThreeLinkPair$Side", "answered", "(I)Z"⟩, prog_7_method_8_code, 3, (Option.some FieldType.boolean), [])
abbrev mm_P_dropFirst : MethodName × ByteArray × Nat × Option FieldType × List (Nat × Nat × Nat × Nat) := (⟨"ThreeLinkPair", "dropFirst", "(Ljava/util/ArrayList;I)V"⟩, prog_1_method_20_code, 3, (Option.none : Option FieldType), [])
abbrev mm_AL_isEmpty : MethodName × ByteArray × Nat × Option FieldType × List (Nat × Nat × Nat × Nat) := (⟨"java/util/ArrayList", "isEmpty", "()Z"⟩, prog_24_method_9_code, 1, (Option.some FieldType.boolean), [])
abbrev mm_AL_remove : MethodName × ByteArray × Nat × Option FieldType × List (Nat × Nat × Nat × Nat) := (⟨"java/util/ArrayList", "remove", "(I)Ljava/lang/Object;"⟩, prog_24_method_29_code, 4, (Option.some (FieldType.object "java/lang/Object")), [])
abbrev mm_AL_fastRemove : MethodName × ByteArray × Nat × Option FieldType × List (Nat × Nat × Nat × Nat) := (⟨"java/util/ArrayList", "fastRemove", "([Ljava/lang/Object;I)V"⟩, prog_24_method_39_code, 4, (Option.none : Option FieldType), [])
abbrev mm_S_followBackBit : MethodName × ByteArray × Nat × Option FieldType × List (Nat × Nat × Nat × Nat) := (⟨"ThreeLinkPair$Side", "followBackBit", "(I)V"⟩, prog_7_method_9_code, 2, (Option.none : Option FieldType), [])
abbrev mm_S_nextIn : MethodName × ByteArray × Nat × Option FieldType × List (Nat × Nat × Nat × Nat) := (⟨"ThreeLinkPair$Side", "nextIn", "(LThreeLinkPair$Unit;)LThreeLinkPair$Message;"⟩, prog_7_method_10_code, 3, (Option.some (FieldType.object "ThreeLinkPair$Message")), [])
abbrev mm_E_takeIn : MethodName × ByteArray × Nat × Option FieldType × List (Nat × Nat × Nat × Nat) := (⟨"ThreeLinkPair$End", "takeIn", "(LThreeLinkPair$Message;)V"⟩, prog_3_method_10_code, 2, (Option.none : Option FieldType), [])
abbrev mm_E_takeOrder : MethodName × ByteArray × Nat × Option FieldType × List (Nat × Nat × Nat × Nat) := (⟨"ThreeLinkPair$End", "takeOrder", "(LThreeLinkPair$Message;)V"⟩, prog_3_method_11_code, 6, (Option.none : Option FieldType), [])
abbrev mm_Y_backFor : MethodName × ByteArray × Nat × Option FieldType × List (Nat × Nat × Nat × Nat) := (⟨"ThreeLinkPair$Memory", "backFor", "(I)I"⟩, prog_5_method_3_code, 3, (Option.some FieldType.int), [])
abbrev mm_G_init : MethodName × ByteArray × Nat × Option FieldType × List (Nat × Nat × Nat × Nat) := (⟨"ThreeLinkPair$Message", "<init>", "(IIII)V"⟩, prog_6_method_1_code, 5, (Option.none : Option FieldType), [])
abbrev mm_E_say : MethodName × ByteArray × Nat × Option FieldType × List (Nat × Nat × Nat × Nat) := (⟨"ThreeLinkPair$End", "say", "(LThreeLinkPair$Message;)V"⟩, prog_3_method_14_code, 3, (Option.none : Option FieldType), [])
abbrev mm_E_firstServing : MethodName × ByteArray × Nat × Option FieldType × List (Nat × Nat × Nat × Nat) := (⟨"ThreeLinkPair$End", "firstServing", "()I"⟩, prog_3_method_13_code, 2, (Option.some FieldType.int), [])
abbrev mm_C_settle : MethodName × ByteArray × Nat × Option FieldType × List (Nat × Nat × Nat × Nat) := (⟨"ThreeLinkPair$Changeover", "settle", "(I)V"⟩, prog_2_method_3_code, 3, (Option.none : Option FieldType), [])
abbrev mm_E_takeAnswer : MethodName × ByteArray × Nat × Option FieldType × List (Nat × Nat × Nat × Nat) := (⟨"ThreeLinkPair$End", "takeAnswer", "(LThreeLinkPair$Message;)V"⟩, prog_3_method_12_code, 3, (Option.none : Option FieldType), [])
abbrev mm_E_statusComes : MethodName × ByteArray × Nat × Option FieldType × List (Nat × Nat × Nat × Nat) := (⟨"ThreeLinkPair$End", "statusComes", "(ILThreeLinkPair$Unit;)V"⟩, prog_3_method_5_code, 3, (Option.none : Option FieldType), [])
abbrev mm_E_seekComes : MethodName × ByteArray × Nat × Option FieldType × List (Nat × Nat × Nat × Nat) := (⟨"ThreeLinkPair$End", "seekComes", "(I)V"⟩, prog_3_method_6_code, 3, (Option.none : Option FieldType), [])
abbrev mm_E_proveComes : MethodName × ByteArray × Nat × Option FieldType × List (Nat × Nat × Nat × Nat) := (⟨"ThreeLinkPair$End", "proveComes", "(I)V"⟩, prog_3_method_7_code, 3, (Option.none : Option FieldType), [])
abbrev mm_E_outComes : MethodName × ByteArray × Nat × Option FieldType × List (Nat × Nat × Nat × Nat) := (⟨"ThreeLinkPair$End", "outComes", "(I)V"⟩, prog_3_method_8_code, 3, (Option.none : Option FieldType), [])
abbrev mm_E_age : MethodName × ByteArray × Nat × Option FieldType × List (Nat × Nat × Nat × Nat) := (⟨"ThreeLinkPair$End", "age", "(I)V"⟩, prog_3_method_3_code, 2, (Option.none : Option FieldType), [])
abbrev mm_S_failsByAge : MethodName × ByteArray × Nat × Option FieldType × List (Nat × Nat × Nat × Nat) := (⟨"ThreeLinkPair$Side", "failsByAge", "()Z"⟩, prog_7_method_12_code, 1, (Option.some FieldType.boolean), [])
abbrev mm_E_changeOver : MethodName × ByteArray × Nat × Option FieldType × List (Nat × Nat × Nat × Nat) := (⟨"ThreeLinkPair$End", "changeOver", "(I)V"⟩, prog_3_method_19_code, 4, (Option.none : Option FieldType), [])
abbrev mm_C_giveUp : MethodName × ByteArray × Nat × Option FieldType × List (Nat × Nat × Nat × Nat) := (⟨"ThreeLinkPair$Changeover", "giveUp", "()I"⟩, prog_2_method_4_code, 3, (Option.some FieldType.int), [])
abbrev mm_G_isOfClass : MethodName × ByteArray × Nat × Option FieldType × List (Nat × Nat × Nat × Nat) := (⟨"ThreeLinkPair$Message", "isOfClass", "()Z"⟩, prog_6_method_2_code, 1, (Option.some FieldType.boolean), [])
abbrev mm_E_someOpenBeside : MethodName × ByteArray × Nat × Option FieldType × List (Nat × Nat × Nat × Nat) := (⟨"ThreeLinkPair$End", "someOpenBeside", "(I)Z"⟩, prog_3_method_20_code, 3, (Option.some FieldType.boolean), [])
abbrev mm_E_isOpen : MethodName × ByteArray × Nat × Option FieldType × List (Nat × Nat × Nat × Nat) := (⟨"ThreeLinkPair$End", "isOpen", "(I)Z"⟩, prog_3_method_15_code, 2, (Option.some FieldType.boolean), [])
abbrev mm_E_finish : MethodName × ByteArray × Nat × Option FieldType × List (Nat × Nat × Nat × Nat) := (⟨"ThreeLinkPair$End", "finish", "(I)V"⟩, prog_3_method_21_code, 4, (Option.none : Option FieldType), [])
abbrev mm_E_passOn : MethodName × ByteArray × Nat × Option FieldType × List (Nat × Nat × Nat × Nat) := (⟨"ThreeLinkPair$End", "passOn", "(LThreeLinkPair$Message;)V"⟩, prog_3_method_22_code, 2, (Option.none : Option FieldType), [])
abbrev mm_E_moveClass : MethodName × ByteArray × Nat × Option FieldType × List (Nat × Nat × Nat × Nat) := (⟨"ThreeLinkPair$End", "moveClass", "(I)V"⟩, prog_3_method_23_code, 3, (Option.none : Option FieldType), [])
abbrev mm_E_choose : MethodName × ByteArray × Nat × Option FieldType × List (Nat × Nat × Nat × Nat) := (⟨"ThreeLinkPair$End", "choose", "(I)I"⟩, prog_3_method_16_code, 4, (Option.some FieldType.int), [])
abbrev mm_E_letGoHeld : MethodName × ByteArray × Nat × Option FieldType × List (Nat × Nat × Nat × Nat) := (⟨"ThreeLinkPair$End", "letGoHeld", "(I)V"⟩, prog_3_method_24_code, 5, (Option.none : Option FieldType), [])
abbrev mm_S_send : MethodName × ByteArray × Nat × Option FieldType × List (Nat × Nat × Nat × Nat) := (⟨"ThreeLinkPair$Side", "send", "()V"⟩, prog_7_method_13_code, 1, (Option.none : Option FieldType), [])
abbrev mm_S_sendNumbered : MethodName × ByteArray × Nat × Option FieldType × List (Nat × Nat × Nat × Nat) := (⟨"ThreeLinkPair$Side", "sendNumbered", "()V"⟩, prog_7_method_14_code, 2, (Option.none : Option FieldType), [])
abbrev mm_P_lost : MethodName × ByteArray × Nat × Option FieldType × List (Nat × Nat × Nat × Nat) := (⟨"ThreeLinkPair", "lost", "()I"⟩, prog_1_method_14_code, 3, (Option.some FieldType.int), [])
abbrev mm_P_start : MethodName × ByteArray × Nat × Option FieldType × List (Nat × Nat × Nat × Nat) := (⟨"ThreeLinkPair", "start", "(II)Z"⟩, prog_1_method_2_code, 4, (Option.some FieldType.boolean), [])
abbrev mm_P_checkSide : MethodName × ByteArray × Nat × Option FieldType × List (Nat × Nat × Nat × Nat) := (⟨"ThreeLinkPair", "checkSide", "(II)V"⟩, prog_1_method_16_code, 2, (Option.none : Option FieldType), [])
abbrev mm_P_checkEnd : MethodName × ByteArray × Nat × Option FieldType × List (Nat × Nat × Nat × Nat) := (⟨"ThreeLinkPair", "checkEnd", "(I)V"⟩, prog_1_method_15_code, 1, (Option.none : Option FieldType), [])
abbrev mm_TH_init0 : MethodName × ByteArray × Nat × Option FieldType × List (Nat × Nat × Nat × Nat) := (⟨"java/lang/Throwable", "<init>", "()V"⟩, prog_21_method_1_code, 1, (Option.none : Option FieldType), [])
abbrev mm_IO_init : MethodName × ByteArray × Nat × Option FieldType × List (Nat × Nat × Nat × Nat) := (⟨"java/lang/IndexOutOfBoundsException", "<init>", "(Ljava/lang/String;)V"⟩, prog_15_method_2_code, 2, (Option.none : Option FieldType), [])
abbrev mm_RT_init : MethodName × ByteArray × Nat × Option FieldType × List (Nat × Nat × Nat × Nat) := (⟨"java/lang/RuntimeException", "<init>", "(Ljava/lang/String;)V"⟩, prog_18_method_2_code, 2, (Option.none : Option FieldType), [])
abbrev mm_EX_init : MethodName × ByteArray × Nat × Option FieldType × List (Nat × Nat × Nat × Nat) := (⟨"java/lang/Exception", "<init>", "(Ljava/lang/String;)V"⟩, prog_13_method_2_code, 2, (Option.none : Option FieldType), [])
abbrev mm_TH_init1 : MethodName × ByteArray × Nat × Option FieldType × List (Nat × Nat × Nat × Nat) := (⟨"java/lang/Throwable", "<init>", "(Ljava/lang/String;)V"⟩, prog_21_method_2_code, 2, (Option.none : Option FieldType), [])
abbrev mm_S_begin : MethodName × ByteArray × Nat × Option FieldType × List (Nat × Nat × Nat × Nat) := (⟨"ThreeLinkPair$Side", "begin", "()V"⟩, prog_7_method_2_code, 1, (Option.none : Option FieldType), [])
abbrev mm_P_stop : MethodName × ByteArray × Nat × Option FieldType × List (Nat × Nat × Nat × Nat) := (⟨"ThreeLinkPair", "stop", "(II)Z"⟩, prog_1_method_3_code, 3, (Option.some FieldType.boolean), [])
abbrev mm_P_fault : MethodName × ByteArray × Nat × Option FieldType × List (Nat × Nat × Nat × Nat) := (⟨"ThreeLinkPair", "fault", "(IIII)V"⟩, prog_1_method_4_code, 6, (Option.none : Option FieldType), [])
abbrev mm_IA_init : MethodName × ByteArray × Nat × Option FieldType × List (Nat × Nat × Nat × Nat) := (⟨"java/lang/IllegalArgumentException", "<init>", "(Ljava/lang/String;)V"⟩, prog_14_method_2_code, 2, (Option.none : Option FieldType), [])
abbrev mm_P_submit : MethodName × ByteArray × Nat × Option FieldType × List (Nat × Nat × Nat × Nat) := (⟨"ThreeLinkPair", "submit", "(III)Z"⟩, prog_1_method_5_code, 4, (Option.some FieldType.boolean), [])
abbrev mm_P_checkClass : MethodName × ByteArray × Nat × Option FieldType × List (Nat × Nat × Nat × Nat) := (⟨"ThreeLinkPair", "checkClass", "(II)V"⟩, prog_1_method_17_code, 2, (Option.none : Option FieldType), [])
abbrev mm_E_accept : MethodName × ByteArray × Nat × Option FieldType × List (Nat × Nat × Nat × Nat) := (⟨"ThreeLinkPair$End", "accept", "(II)Z"⟩, prog_3_method_17_code, 4, (Option.some FieldType.boolean), [])
abbrev mm_E_addBelow : MethodName × ByteArray × Nat × Option FieldType × List (Nat × Nat × Nat × Nat) := (⟨"ThreeLinkPair$End", "addBelow", "(Ljava/util/ArrayList;III)Z"⟩, prog_3_method_18_code, 4, (Option.some FieldType.boolean), [])
abbrev mm_S_carries : MethodName × ByteArray × Nat × Option FieldType × List (Nat × Nat × Nat × Nat) := (⟨"ThreeLinkPair$Side", "carries", "(I)Z"⟩, prog_7_method_5_code, 2, (Option.some FieldType.boolean), [])
abbrev mm_S_holds : MethodName × ByteArray × Nat × Option FieldType × List (Nat × Nat × Nat × Nat) := (⟨"ThreeLinkPair$Side", "holds", "(Ljava/util/ArrayList;I)Z"⟩, prog_7_method_6_code, 3, (Option.some FieldType.boolean), [])
abbrev mm_P_state : MethodName × ByteArray × Nat × Option FieldType × List (Nat × Nat × Nat × Nat) := (⟨"ThreeLinkPair", "state", "(II)I"⟩, prog_1_method_7_code, 3, (Option.some FieldType.int), [])
abbrev mm_P_of : MethodName × ByteArray × Nat × Option FieldType × List (Nat × Nat × Nat × Nat) := (⟨"ThreeLinkPair", "of", "(III)I"⟩, prog_1_method_8_code, 5, (Option.some FieldType.int), [])
abbrev mm_P_link : MethodName × ByteArray × Nat × Option FieldType × List (Nat × Nat × Nat × Nat) := (⟨"ThreeLinkPair", "link", "(II)I"⟩, prog_1_method_9_code, 3, (Option.some FieldType.int), [])
abbrev mm_P_changes : MethodName × ByteArray × Nat × Option FieldType × List (Nat × Nat × Nat × Nat) := (⟨"ThreeLinkPair", "changes", "(II)I"⟩, prog_1_method_10_code, 4, (Option.some FieldType.int), [])
abbrev mm_P_held : MethodName × ByteArray × Nat × Option FieldType × List (Nat × Nat × Nat × Nat) := (⟨"ThreeLinkPair", "held", "(I)I"⟩, prog_1_method_11_code, 2, (Option.some FieldType.int), [])
abbrev mm_P_inbox : MethodName × ByteArray × Nat × Option FieldType × List (Nat × Nat × Nat × Nat) := (⟨"ThreeLinkPair", "inbox", "(I)I"⟩, prog_1_method_12_code, 2, (Option.some FieldType.int), [])
abbrev mm_P_take : MethodName × ByteArray × Nat × Option FieldType × List (Nat × Nat × Nat × Nat) := (⟨"ThreeLinkPair", "take", "(I)J"⟩, prog_1_method_13_code, 3, (Option.some FieldType.long), [])
abbrev mm_NS_init : MethodName × ByteArray × Nat × Option FieldType × List (Nat × Nat × Nat × Nat) := (⟨"java/util/NoSuchElementException", "<init>", "(Ljava/lang/String;)V"⟩, prog_28_method_4_code, 2, (Option.none : Option FieldType), [])
abbrev mm_D_init : MethodName × ByteArray × Nat × Option FieldType × List (Nat × Nat × Nat × Nat) := (⟨"ThreeLinkPairModel", "<init>", "()V"⟩, prog_10_method_1_code, 2, (Option.none : Option FieldType), [])
abbrev mm_D_begin : MethodName × ByteArray × Nat × Option FieldType × List (Nat × Nat × Nat × Nat) := (⟨"ThreeLinkPairModel", "begin", "(I)V"⟩, prog_10_method_10_code, 2, (Option.none : Option FieldType), [])
abbrev mm_D_empty : MethodName × ByteArray × Nat × Option FieldType × List (Nat × Nat × Nat × Nat) := (⟨"ThreeLinkPairModel", "empty", "(I)V"⟩, prog_10_method_9_code, 2, (Option.none : Option FieldType), [])
abbrev mm_D_shift : MethodName × ByteArray × Nat × Option FieldType × List (Nat × Nat × Nat × Nat) := (⟨"ThreeLinkPairModel", "shift", "(I)I"⟩, prog_10_method_6_code, 3, (Option.some FieldType.int), [])
abbrev mm_D_give : MethodName × ByteArray × Nat × Option FieldType × List (Nat × Nat × Nat × Nat) := (⟨"ThreeLinkPairModel", "give", "(I)V"⟩, prog_10_method_4_code, 2, (Option.none : Option FieldType), [])
abbrev mm_D_thrown : MethodName × ByteArray × Nat × Option FieldType × List (Nat × Nat × Nat × Nat) := (⟨"ThreeLinkPairModel", "thrown", "()I"⟩, prog_10_method_2_code, 1, (Option.some FieldType.int), [])
abbrev mm_D_start : MethodName × ByteArray × Nat × Option FieldType × List (Nat × Nat × Nat × Nat) := (⟨"ThreeLinkPairModel", "start", "(II)Z"⟩, prog_10_method_14_code, 4, (Option.some FieldType.boolean), [])
abbrev mm_D_isSide : MethodName × ByteArray × Nat × Option FieldType × List (Nat × Nat × Nat × Nat) := (⟨"ThreeLinkPairModel", "isSide", "(II)Z"⟩, prog_10_method_12_code, 2, (Option.some FieldType.boolean), [])
abbrev mm_D_missing : MethodName × ByteArray × Nat × Option FieldType × List (Nat × Nat × Nat × Nat) := (⟨"ThreeLinkPairModel", "missing", "(Z)Z"⟩, prog_10_method_13_code, 2, (Option.some FieldType.boolean), [])
abbrev mm_D_come : MethodName × ByteArray × Nat × Option FieldType × List (Nat × Nat × Nat × Nat) := (⟨"ThreeLinkPairModel", "come", "(II)V"⟩, prog_10_method_11_code, 3, (Option.none : Option FieldType), [])
abbrev mm_D_stop : MethodName × ByteArray × Nat × Option FieldType × List (Nat × Nat × Nat × Nat) := (⟨"ThreeLinkPairModel", "stop", "(II)Z"⟩, prog_10_method_16_code, 3, (Option.some FieldType.boolean), [])
abbrev mm_D_fall : MethodName × ByteArray × Nat × Option FieldType × List (Nat × Nat × Nat × Nat) := (⟨"ThreeLinkPairModel", "fall", "(I)V"⟩, prog_10_method_15_code, 4, (Option.none : Option FieldType), [])
abbrev mm_D_change : MethodName × ByteArray × Nat × Option FieldType × List (Nat × Nat × Nat × Nat) := (⟨"ThreeLinkPairModel", "change", "(I)V"⟩, prog_10_method_18_code, 5, (Option.none : Option FieldType), [])
abbrev mm_D_put : MethodName × ByteArray × Nat × Option FieldType × List (Nat × Nat × Nat × Nat) := (⟨"ThreeLinkPairModel", "put", "(II)V"⟩, prog_10_method_5_code, 3, (Option.none : Option FieldType), [])
abbrev mm_D_fault : MethodName × ByteArray × Nat × Option FieldType × List (Nat × Nat × Nat × Nat) := (⟨"ThreeLinkPairModel", "fault", "(IIII)V"⟩, prog_10_method_17_code, 5, (Option.none : Option FieldType), [])
abbrev mm_D_tick : MethodName × ByteArray × Nat × Option FieldType × List (Nat × Nat × Nat × Nat) := (⟨"ThreeLinkPairModel", "tick", "()I"⟩, prog_10_method_36_code, 3, (Option.some FieldType.int), [])
abbrev mm_D_deliver : MethodName × ByteArray × Nat × Option FieldType × List (Nat × Nat × Nat × Nat) := (⟨"ThreeLinkPairModel", "deliver", "(I)V"⟩, prog_10_method_32_code, 4, (Option.none : Option FieldType), [])
abbrev mm_D_damaged : MethodName × ByteArray × Nat × Option FieldType × List (Nat × Nat × Nat × Nat) := (⟨"ThreeLinkPairModel", "damaged", "(I)V"⟩, prog_10_method_31_code, 2, (Option.none : Option FieldType), [])
abbrev mm_D_status : MethodName × ByteArray × Nat × Option FieldType × List (Nat × Nat × Nat × Nat) := (⟨"ThreeLinkPairModel", "status", "(II)V"⟩, prog_10_method_29_code, 4, (Option.none : Option FieldType), [])
abbrev mm_D_served : MethodName × ByteArray × Nat × Option FieldType × List (Nat × Nat × Nat × Nat) := (⟨"ThreeLinkPairModel", "served", "(II)V"⟩, prog_10_method_30_code, 6, (Option.none : Option FieldType), [])
abbrev mm_D_isTaken : MethodName × ByteArray × Nat × Option FieldType × List (Nat × Nat × Nat × Nat) := (⟨"ThreeLinkPairModel", "isTaken", "(II)V"⟩, prog_10_method_28_code, 5, (Option.none : Option FieldType), [])
abbrev mm_D_takeOrder : MethodName × ByteArray × Nat × Option FieldType × List (Nat × Nat × Nat × Nat) := (⟨"ThreeLinkPairModel", "takeOrder", "(IIII)V"⟩, prog_10_method_27_code, 7, (Option.none : Option FieldType), [])
abbrev mm_D_message : MethodName × ByteArray × Nat × Option FieldType × List (Nat × Nat × Nat × Nat) := (⟨"ThreeLinkPairModel", "message", "(IIII)I"⟩, prog_10_method_3_code, 6, (Option.some FieldType.int), [])
abbrev mm_D_say : MethodName × ByteArray × Nat × Option FieldType × List (Nat × Nat × Nat × Nat) := (⟨"ThreeLinkPairModel", "say", "(II)V"⟩, prog_10_method_23_code, 4, (Option.none : Option FieldType), [])
abbrev mm_D_serving : MethodName × ByteArray × Nat × Option FieldType × List (Nat × Nat × Nat × Nat) := (⟨"ThreeLinkPairModel", "serving", "(I)I"⟩, prog_10_method_20_code, 4, (Option.some FieldType.int), [])
abbrev mm_D_settle : MethodName × ByteArray × Nat × Option FieldType × List (Nat × Nat × Nat × Nat) := (⟨"ThreeLinkPairModel", "settle", "(II)V"⟩, prog_10_method_19_code, 6, (Option.none : Option FieldType), [])
abbrev mm_D_age : MethodName × ByteArray × Nat × Option FieldType × List (Nat × Nat × Nat × Nat) := (⟨"ThreeLinkPairModel", "age", "(I)V"⟩, prog_10_method_33_code, 2, (Option.none : Option FieldType), [])
abbrev mm_D_tickChange : MethodName × ByteArray × Nat × Option FieldType × List (Nat × Nat × Nat × Nat) := (⟨"ThreeLinkPairModel", "tickChange", "(I)V"⟩, prog_10_method_26_code, 5, (Option.none : Option FieldType), [])
abbrev mm_D_giveUp : MethodName × ByteArray × Nat × Option FieldType × List (Nat × Nat × Nat × Nat) := (⟨"ThreeLinkPairModel", "giveUp", "(I)V"⟩, prog_10_method_24_code, 5, (Option.none : Option FieldType), [])
abbrev mm_D_chosen : MethodName × ByteArray × Nat × Option FieldType × List (Nat × Nat × Nat × Nat) := (⟨"ThreeLinkPairModel", "chosen", "(II)I"⟩, prog_10_method_22_code, 6, (Option.some FieldType.int), [])
abbrev mm_D_isOpen : MethodName × ByteArray × Nat × Option FieldType × List (Nat × Nat × Nat × Nat) := (⟨"ThreeLinkPairModel", "isOpen", "(II)Z"⟩, prog_10_method_21_code, 3, (Option.some FieldType.boolean), [])
abbrev mm_D_end : MethodName × ByteArray × Nat × Option FieldType × List (Nat × Nat × Nat × Nat) := (⟨"ThreeLinkPairModel", "end", "(I)V"⟩, prog_10_method_25_code, 9, (Option.none : Option FieldType), [])
abbrev mm_D_send : MethodName × ByteArray × Nat × Option FieldType × List (Nat × Nat × Nat × Nat) := (⟨"ThreeLinkPairModel", "send", "(I)V"⟩, prog_10_method_35_code, 4, (Option.none : Option FieldType), [])
abbrev mm_D_at : MethodName × ByteArray × Nat × Option FieldType × List (Nat × Nat × Nat × Nat) := (⟨"ThreeLinkPairModel", "at", "(II)I"⟩, prog_10_method_7_code, 5, (Option.some FieldType.int), [])
abbrev mm_D_carry : MethodName × ByteArray × Nat × Option FieldType × List (Nat × Nat × Nat × Nat) := (⟨"ThreeLinkPairModel", "carry", "(III)V"⟩, prog_10_method_34_code, 4, (Option.none : Option FieldType), [])
abbrev mm_D_submit : MethodName × ByteArray × Nat × Option FieldType × List (Nat × Nat × Nat × Nat) := (⟨"ThreeLinkPairModel", "submit", "(III)Z"⟩, prog_10_method_38_code, 8, (Option.some FieldType.boolean), [])
abbrev mm_D_isClass : MethodName × ByteArray × Nat × Option FieldType × List (Nat × Nat × Nat × Nat) := (⟨"ThreeLinkPairModel", "isClass", "(II)Z"⟩, prog_10_method_37_code, 2, (Option.some FieldType.boolean), [])
abbrev mm_D_hasClass : MethodName × ByteArray × Nat × Option FieldType × List (Nat × Nat × Nat × Nat) := (⟨"ThreeLinkPairModel", "hasClass", "(II)Z"⟩, prog_10_method_8_code, 5, (Option.some FieldType.boolean), [])
abbrev mm_D_state : MethodName × ByteArray × Nat × Option FieldType × List (Nat × Nat × Nat × Nat) := (⟨"ThreeLinkPairModel", "state", "(II)I"⟩, prog_10_method_39_code, 3, (Option.some FieldType.int), [])
abbrev mm_D_of : MethodName × ByteArray × Nat × Option FieldType × List (Nat × Nat × Nat × Nat) := (⟨"ThreeLinkPairModel", "of", "(III)I"⟩, prog_10_method_40_code, 5, (Option.some FieldType.int), [])
abbrev mm_D_link : MethodName × ByteArray × Nat × Option FieldType × List (Nat × Nat × Nat × Nat) := (⟨"ThreeLinkPairModel", "link", "(II)I"⟩, prog_10_method_41_code, 3, (Option.some FieldType.int), [])
abbrev mm_D_changes : MethodName × ByteArray × Nat × Option FieldType × List (Nat × Nat × Nat × Nat) := (⟨"ThreeLinkPairModel", "changes", "(II)I"⟩, prog_10_method_42_code, 3, (Option.some FieldType.int), [])
abbrev mm_D_held : MethodName × ByteArray × Nat × Option FieldType × List (Nat × Nat × Nat × Nat) := (⟨"ThreeLinkPairModel", "held", "(I)I"⟩, prog_10_method_44_code, 2, (Option.some FieldType.int), [])
abbrev mm_D_isEnd : MethodName × ByteArray × Nat × Option FieldType × List (Nat × Nat × Nat × Nat) := (⟨"ThreeLinkPairModel", "isEnd", "(I)Z"⟩, prog_10_method_43_code, 1, (Option.some FieldType.boolean), [])
abbrev mm_D_inbox : MethodName × ByteArray × Nat × Option FieldType × List (Nat × Nat × Nat × Nat) := (⟨"ThreeLinkPairModel", "inbox", "(I)I"⟩, prog_10_method_45_code, 2, (Option.some FieldType.int), [])
abbrev mm_D_take : MethodName × ByteArray × Nat × Option FieldType × List (Nat × Nat × Nat × Nat) := (⟨"ThreeLinkPairModel", "take", "(I)J"⟩, prog_10_method_46_code, 5, (Option.some FieldType.long), [])
abbrev mm_D_lost : MethodName × ByteArray × Nat × Option FieldType × List (Nat × Nat × Nat × Nat) := (⟨"ThreeLinkPairModel", "lost", "()I"⟩, prog_10_method_47_code, 1, (Option.some FieldType.int), [])
abbrev mm_W_start : MethodName × ByteArray × Nat × Option FieldType × List (Nat × Nat × Nat × Nat) := (⟨"ThreeLinkPairLaw", "start", "(LThreeLinkPair;II[J)I"⟩, method_3_code, 5, (Option.some FieldType.int), [((0 : Nat), (17 : Nat), (20 : Nat), (13 : Nat))])
abbrev mm_W_stop : MethodName × ByteArray × Nat × Option FieldType × List (Nat × Nat × Nat × Nat) := (⟨"ThreeLinkPairLaw", "stop", "(LThreeLinkPair;II[J)I"⟩, method_4_code, 5, (Option.some FieldType.int), [((0 : Nat), (17 : Nat), (20 : Nat), (13 : Nat))])
abbrev mm_W_fault : MethodName × ByteArray × Nat × Option FieldType × List (Nat × Nat × Nat × Nat) := (⟨"ThreeLinkPairLaw", "fault", "(LThreeLinkPair;IIII)I"⟩, method_5_code, 6, (Option.some FieldType.int), [((0 : Nat), (9 : Nat), (12 : Nat), (13 : Nat)), ((0 : Nat), (9 : Nat), (16 : Nat), (22 : Nat))])
abbrev mm_W_submit : MethodName × ByteArray × Nat × Option FieldType × List (Nat × Nat × Nat × Nat) := (⟨"ThreeLinkPairLaw", "submit", "(LThreeLinkPair;III[J)I"⟩, method_6_code, 6, (Option.some FieldType.int), [((0 : Nat), (19 : Nat), (22 : Nat), (13 : Nat))])
abbrev mm_W_state : MethodName × ByteArray × Nat × Option FieldType × List (Nat × Nat × Nat × Nat) := (⟨"ThreeLinkPairLaw", "state", "(LThreeLinkPair;II[J)I"⟩, method_7_code, 5, (Option.some FieldType.int), [((0 : Nat), (10 : Nat), (13 : Nat), (13 : Nat))])
abbrev mm_W_of : MethodName × ByteArray × Nat × Option FieldType × List (Nat × Nat × Nat × Nat) := (⟨"ThreeLinkPairLaw", "of", "(LThreeLinkPair;III[J)I"⟩, method_8_code, 6, (Option.some FieldType.int), [((0 : Nat), (12 : Nat), (15 : Nat), (13 : Nat))])
abbrev mm_W_link : MethodName × ByteArray × Nat × Option FieldType × List (Nat × Nat × Nat × Nat) := (⟨"ThreeLinkPairLaw", "link", "(LThreeLinkPair;II[J)I"⟩, method_9_code, 5, (Option.some FieldType.int), [((0 : Nat), (10 : Nat), (13 : Nat), (13 : Nat))])
abbrev mm_W_changes : MethodName × ByteArray × Nat × Option FieldType × List (Nat × Nat × Nat × Nat) := (⟨"ThreeLinkPairLaw", "changes", "(LThreeLinkPair;II[J)I"⟩, method_10_code, 5, (Option.some FieldType.int), [((0 : Nat), (10 : Nat), (13 : Nat), (13 : Nat))])
abbrev mm_W_held : MethodName × ByteArray × Nat × Option FieldType × List (Nat × Nat × Nat × Nat) := (⟨"ThreeLinkPairLaw", "held", "(LThreeLinkPair;I[J)I"⟩, method_11_code, 4, (Option.some FieldType.int), [((0 : Nat), (9 : Nat), (12 : Nat), (13 : Nat))])
abbrev mm_W_inbox : MethodName × ByteArray × Nat × Option FieldType × List (Nat × Nat × Nat × Nat) := (⟨"ThreeLinkPairLaw", "inbox", "(LThreeLinkPair;I[J)I"⟩, method_12_code, 4, (Option.some FieldType.int), [((0 : Nat), (9 : Nat), (12 : Nat), (13 : Nat))])
abbrev mm_W_take : MethodName × ByteArray × Nat × Option FieldType × List (Nat × Nat × Nat × Nat) := (⟨"ThreeLinkPairLaw", "take", "(LThreeLinkPair;I[J)I"⟩, method_13_code, 4, (Option.some FieldType.int), [((0 : Nat), (8 : Nat), (11 : Nat), (13 : Nat)), ((0 : Nat), (8 : Nat), (14 : Nat), (53 : Nat))])
end
section
/-! the judgement: a world is a function of addresses (tag, length, contents), the heap's size and the slots made -/
abbrev ev_wd : Type := (Nat → Nat) × (Nat → Nat) × (Nat → Nat → Value) × Nat × Nat
abbrev ev_g (w : ev_wd) : Nat → Nat := w.1
abbrev ev_n (w : ev_wd) : Nat → Nat := w.2.1
abbrev ev_v (w : ev_wd) : Nat → Nat → Value := w.2.2.1
abbrev ev_z (w : ev_wd) : Nat := w.2.2.2.1
abbrev ev_u (w : ev_wd) : Nat := w.2.2.2.2
def ev_set (w : ev_wd) (a k : Nat) (x : Value) : ev_wd := (w.1, w.2.1, (fun q j => if q = a ∧ j = k then x else w.2.2.1 q j), w.2.2.2.1, w.2.2.2.2)
def ev_add (w : ev_wd) (t n : Nat) (f : Nat → Value) (u : Nat) : ev_wd :=
  ((fun q => if q = w.2.2.2.1 then t else w.1 q), (fun q => if q = w.2.2.2.1 then n else w.2.1 q), (fun q j => if q = w.2.2.2.1 then f j else w.2.2.1 q j), w.2.2.2.1 + 1, w.2.2.2.2 + u)
/-- program, launch, setting, the law's first state and arguments, the heap's first size, classes and slots -/
abbrev ev_gx : Type := Program × Launch × Env × State × Array Value × Nat × va_G
abbrev ev_s0 (G : ev_gx) : State := G.2.2.2.1
abbrev ev_b (G : ev_gx) : Nat := G.2.2.2.2.2.1
abbrev ev_D (G : ev_gx) : va_G := G.2.2.2.2.2.2
/-- name, bytes, places for locals, what it returns, its handlers -/
abbrev ev_mx : Type := MethodName × ByteArray × Nat × Option FieldType × List (Nat × Nat × Nat × Nat)
def ev_K (D : va_G) (s : State) : Prop := (∀ (c : Nat) (q : vw_C), nm_cl[c]? = some q → u_Kn s q.1 q.2.1 q.2.2 (D.1 c) (D.2 c)) ∧ ∀ (t : Nat) (ty : FieldType), nm_at[t]? = some ty → ArrOfT s (D.1 (100 + t)) ty ∧ va_RA s (D.1 (100 + t)) ty
theorem ev_K.moved {D : va_G} {u U : State} (hvm : u.vm.Alike U.vm) (h : ev_K D u) : ev_K D U := ⟨fun c q hq => u_Kn_moved hvm (h.1 c q hq), fun t ty ht => ⟨arrOfT_moved hvm (h.2 t ty ht).1, (h.2 t ty ht).2.moved hvm⟩⟩
def ev_at (D : va_G) (w : ev_wd) (H : Heap) (a : Nat) : Prop :=
  (100 ≤ ev_g w a ∧ H[a]? = some (arrV (D.1 (ev_g w a)) (ev_n w a) (ev_v w a))) ∨ (ev_g w a < 100 ∧ ∃ q : vw_C, nm_cl[ev_g w a]? = some q ∧ t_OB a (D.1 (ev_g w a)) q.2.2 (D.2 (ev_g w a)) H (ev_v w a))
def ev_Hr (G : ev_gx) (w : ev_wd) (H : Heap) : Prop :=
  H.size = ev_z w ∧ ev_b G ≤ ev_z w ∧ (∀ a : Nat, ev_b G ≤ a → a < ev_z w → ev_at (ev_D G) w H a) ∧ ∀ q : Nat, q < ev_b G → H[q]? = (ev_s0 G).heap[q]?
def ev_cx (G : ev_gx) (M : ev_mx) (d : Nat) (R : Room) (s : State) (m : MethodId) (meth : Method) (c : Code) (w0 : ev_wd) : Prop :=
  G.1.tables.exec = Jvm.exec ∧ c.code = M.2.1 ∧ s.methodNamed? M.1 = some m ∧ (ev_s0 G).WarmedH s.vm ∧ (∀ x ∈ lw_tbl, x.before G.2.2.2.2.1 (ev_s0 G) = true) ∧ ev_K (ev_D G) (ev_s0 G) ∧
  c.maxLocals = M.2.2.1 ∧ meth.sig.returnType = M.2.2.2.1 ∧ meth.locks = false ∧ c.exceptionTable.toList.map (fun h => (h.startPc, h.endPc, h.handlerPc, h.catchType)) = M.2.2.2.2 ∧
  d ≤ R.frames ∧ 39 * d ≤ R.locals ∧ ev_b G + 601024 ≤ R.cells + ev_z w0 ∧ 7293034 ≤ R.slots + ev_u w0 ∧ meth.name = M.1.name
def ev_ok (G : ev_gx) (w0 w : ev_wd) (locs : List Loc) : Prop := (∀ q ∈ locs, ev_b G ≤ q.base) ∧ ev_z w0 ≤ ev_z w ∧ ev_u w0 ≤ ev_u w ∧ ev_z w ≤ ev_b G + 601024 ∧ ev_u w ≤ 7293034
/-- what comes: a value, nothing, or what was thrown -/
abbrev ev_r : Type := Option Value ⊕ Nat
def ev_oc (r : ev_r) : Outcome := match r with
  | .inl v => .returned v
  | .inr a => .threw a
def ev_Q (G : ev_gx) (s : State) (below : List Frame) (w0 : ev_wd) (P : ev_r → ev_wd → Prop) : State → Prop := fun t =>
  ∃ (r : ev_r) (w1 : ev_wd) (L : List Loc), P r w1 ∧ t.status = .running ∧ Ended t below (ev_oc r) ∧ ev_Hr G w1 t.heap ∧ s.WarmedH t.vm ∧ s.sameButNew ({ t with vm := s.vm } : State) L (ev_z w1 - ev_z w0) (ev_u w1 - ev_u w0) ∧ ev_ok G w0 w1 L
def ev_E (G : ev_gx) (M : ev_mx) (d pc : Nat) (L : List (Nat × Value)) (st : List Value) (w : ev_wd) (P : ev_r → ev_wd → Prop) : Prop :=
  ∀ (R : Room) (s : State) (m : MethodId) (args : Array Value) (below : List Frame) (meth : Method) (c : Code) (w0 : ev_wd) (H : Heap) (locs : List Loc) (ls : Array Slot),
    ev_cx G M d R s m meth c w0 → ev_ok G w0 w locs → ev_Hr G w H → lv_has ls M.2.2.1 L →
    W G.1 G.2.1 G.2.2.1 R s m args below meth c H locs (ev_z w - ev_z w0) (ev_u w - ev_u w0) (ev_Q G s below w0 P) (F0 m pc ls st)
/-- 'a' is being thrown at pc -/
def ev_T (G : ev_gx) (M : ev_mx) (d pc : Nat) (L : List (Nat × Value)) (a : Nat) (w : ev_wd) (P : ev_r → ev_wd → Prop) : Prop :=
  ∀ (R : Room) (s : State) (m : MethodId) (args : Array Value) (below : List Frame) (meth : Method) (c : Code) (w0 : ev_wd) (T : State) (locs : List Loc) (ls : Array Slot) (st : List Value),
    ev_cx G M d R s m meth c w0 → ev_ok G w0 w locs → ev_Hr G w T.heap → lv_has ls M.2.2.1 L → Stand G.1 G.2.1 G.2.2.1 R s m args below meth c T locs (ev_z w - ev_z w0) (ev_u w - ev_u w0) →
    ∃ t, Steps G.1.tables G.2.2.1 below ((T.setTop (F0 m pc ls st)).pushFrame (.throwing a)) t ∧ ev_Q G s below w0 P t
section EvA
variable {G : ev_gx} {M : ev_mx} {d pc : Nat} {L : List (Nat × Value)} {st : List Value} {w : ev_wd} {P : ev_r → ev_wd → Prop}
theorem ev_word {R : Room} {s : State} {m : MethodId} {meth : Method} {c : Code} {w0 : ev_wd} (X : ev_cx G M d R s m meth c w0) {x : Cond} (hx : x ∈ lw_tbl) (hg : goodWord x = true) (a' : Array Value) : x.before a' s = true :=
  word_at X.2.2.2.1 (good_of_word hg) (X.2.2.2.2.1 x hx)
theorem ev_own {R : Room} {s : State} {m : MethodId} {meth : Method} {c : Code} {w0 : ev_wd} (X : ev_cx G M d R s m meth c w0) : s.vm.findClass M.1.cls = some m.cls := findClass_of_methodNamed X.2.2.1
theorem ev_Ks {R : Room} {s : State} {m : MethodId} {meth : Method} {c : Code} {w0 : ev_wd} (X : ev_cx G M d R s m meth c w0) : ev_K (ev_D G) s := X.2.2.2.2.2.1.moved X.2.2.2.1.alike
/-- a stronger end is enough -/
theorem ev_mono {P' : ev_r → ev_wd → Prop} (h : ∀ r w', P' r w' → P r w') (k : ev_E G M d pc L st w P') : ev_E G M d pc L st w P := by
  intro R s m args below meth c w0 H locs ls X O hH hl T hT S
  obtain ⟨t, a, r, w1, L1, b1, b2⟩ := k R s m args below meth c w0 H locs ls X O hH hl T hT S
  exact ⟨t, a, r, w1, L1, h _ _ b1, b2⟩
/-- fewer locals, or in another order -/
theorem ev_loc (L' : List (Nat × Value)) (h : ∀ q ∈ L', q ∈ L) (k : ev_E G M d pc L' st w P) : ev_E G M d pc L st w P := by
  intro R s m args below meth c w0 H locs ls X O hH hl
  exact k R s m args below meth c w0 H locs ls X O hH ⟨hl.1, hl.2.1, fun q hq => hl.2.2 q (h q hq)⟩
theorem ev_mem {i : Nat} {x : Value} (h : L.lookup i = some x) : (i, x) ∈ L := by
  induction L with
  | nil => cases h
  | cons q t ih =>
    obtain ⟨j, y⟩ := q
    unfold List.lookup at h
    cases hij : (i == j) with
    | true =>
      rw [hij] at h
      cases h
      rw [beq_iff_eq.mp hij]
      exact List.mem_cons_self
    | false =>
      rw [hij] at h
      exact List.mem_cons_of_mem _ (ih h)
theorem ev_look {ls : Array Slot} {n : Nat} {i : Nat} {x : Value} (hl : lv_has ls n L) (h : L.lookup i = some x) : ls[i]? = some (.val x) := hl.2.2 (i, x) (ev_mem h)
end EvA
end
section
def ev_d (cc : ByteArray) (pc : Nat) (i : Instr) (n pc' : Nat) : Prop := decode cc pc = .ok (i, n) ∧ pc + n = pc'
def ev_j (cc : ByteArray) (pc : Nat) (i : Int → Instr) (pc' tgt : Nat) : Prop := ∃ off : Int, decode cc pc = .ok (i off, 3) ∧ pc + 3 = pc' ∧ (pc : Int) + off = (tgt : Int)
section EvB
variable {G : ev_gx} {M : ev_mx} {d pc pc' tgt : Nat} {L : List (Nat × Value)} {st : List Value} {w : ev_wd} {P : ev_r → ev_wd → Prop}
theorem ev_iconst {n : Int} (hd : ev_d M.2.1 pc (.iconst n) 1 pc') (k : ev_E G M d pc' L (.int (Int32.ofInt n) :: st) w P) : ev_E G M d pc L (st) w P := by
  obtain ⟨hd, rfl⟩ := hd
  intro R s m args below meth c w0 H locs ls X O hH hl
  exact lv_iconst X.1 X.2.1 hd rfl (k R s m args below meth c w0 H locs ls X O hH hl)
theorem ev_bipush {n : Int} (hd : ev_d M.2.1 pc (.bipush n) 2 pc') (k : ev_E G M d pc' L (.int (Int8.ofInt n).toInt32 :: st) w P) : ev_E G M d pc L (st) w P := by
  obtain ⟨hd, rfl⟩ := hd
  intro R s m args below meth c w0 H locs ls X O hH hl
  exact lv_bipush X.1 X.2.1 hd rfl (k R s m args below meth c w0 H locs ls X O hH hl)
theorem ev_sipush {n : Int} (hd : ev_d M.2.1 pc (.sipush n) 3 pc') (k : ev_E G M d pc' L (.int (Int16.ofInt n).toInt32 :: st) w P) : ev_E G M d pc L (st) w P := by
  obtain ⟨hd, rfl⟩ := hd
  intro R s m args below meth c w0 H locs ls X O hH hl
  exact lv_sipush X.1 X.2.1 hd rfl (k R s m args below meth c w0 H locs ls X O hH hl)
theorem ev_lconst {n : Fin 2} (hd : ev_d M.2.1 pc (.lconst n) 1 pc') (k : ev_E G M d pc' L (.long (Int64.ofNat (n : Nat)) :: st) w P) : ev_E G M d pc L (st) w P := by
  obtain ⟨hd, rfl⟩ := hd
  intro R s m args below meth c w0 H locs ls X O hH hl
  exact lv_lconst X.1 X.2.1 hd rfl (k R s m args below meth c w0 H locs ls X O hH hl)
theorem ev_null (hd : ev_d M.2.1 pc .aconst_null 1 pc') (k : ev_E G M d pc' L (.null :: st) w P) : ev_E G M d pc L (st) w P := by
  obtain ⟨hd, rfl⟩ := hd
  intro R s m args below meth c w0 H locs ls X O hH hl
  exact lv_null X.1 X.2.1 hd (k R s m args below meth c w0 H locs ls X O hH hl)
theorem ev_iload_n {i : Fin 4} {x : Int32} (hd : ev_d M.2.1 pc (.iload_n i) 1 pc') (h : L.lookup (i : Nat) = some (.int x)) (k : ev_E G M d pc' L ((.int x) :: st) w P) : ev_E G M d pc L (st) w P := by
  obtain ⟨hd, rfl⟩ := hd
  intro R s m args below meth c w0 H locs ls X O hH hl
  exact lv_iload_n X.1 X.2.1 hd rfl (ev_look hl h) (k R s m args below meth c w0 H locs ls X O hH hl)
theorem ev_iload {i : Nat} {x : Int32} (hd : ev_d M.2.1 pc (.iload i) 2 pc') (h : L.lookup i = some (.int x)) (k : ev_E G M d pc' L ((.int x) :: st) w P) : ev_E G M d pc L (st) w P := by
  obtain ⟨hd, rfl⟩ := hd
  intro R s m args below meth c w0 H locs ls X O hH hl
  exact lv_iload X.1 X.2.1 hd (ev_look hl h) (k R s m args below meth c w0 H locs ls X O hH hl)
theorem ev_lload_n {i : Fin 4} {x : Int64} (hd : ev_d M.2.1 pc (.lload_n i) 1 pc') (h : L.lookup (i : Nat) = some (.long x)) (k : ev_E G M d pc' L ((.long x) :: st) w P) : ev_E G M d pc L (st) w P := by
  obtain ⟨hd, rfl⟩ := hd
  intro R s m args below meth c w0 H locs ls X O hH hl
  exact lv_lload_n X.1 X.2.1 hd rfl (ev_look hl h) (k R s m args below meth c w0 H locs ls X O hH hl)
theorem ev_lload {i : Nat} {x : Int64} (hd : ev_d M.2.1 pc (.lload i) 2 pc') (h : L.lookup i = some (.long x)) (k : ev_E G M d pc' L ((.long x) :: st) w P) : ev_E G M d pc L (st) w P := by
  obtain ⟨hd, rfl⟩ := hd
  intro R s m args below meth c w0 H locs ls X O hH hl
  exact lv_lload X.1 X.2.1 hd (ev_look hl h) (k R s m args below meth c w0 H locs ls X O hH hl)
theorem ev_aload_n {i : Fin 4} {x : Nat} (hd : ev_d M.2.1 pc (.aload_n i) 1 pc') (h : L.lookup (i : Nat) = some (.ref x)) (k : ev_E G M d pc' L ((.ref x) :: st) w P) : ev_E G M d pc L (st) w P := by
  obtain ⟨hd, rfl⟩ := hd
  intro R s m args below meth c w0 H locs ls X O hH hl
  exact lv_aload_n X.1 X.2.1 hd rfl (ev_look hl h) (k R s m args below meth c w0 H locs ls X O hH hl)
theorem ev_aload {i : Nat} {x : Nat} (hd : ev_d M.2.1 pc (.aload i) 2 pc') (h : L.lookup i = some (.ref x)) (k : ev_E G M d pc' L ((.ref x) :: st) w P) : ev_E G M d pc L (st) w P := by
  obtain ⟨hd, rfl⟩ := hd
  intro R s m args below meth c w0 H locs ls X O hH hl
  exact lv_aload X.1 X.2.1 hd (ev_look hl h) (k R s m args below meth c w0 H locs ls X O hH hl)
theorem ev_aload_nN {i : Fin 4} (hd : ev_d M.2.1 pc (.aload_n i) 1 pc') (h : L.lookup (i : Nat) = some .null) (k : ev_E G M d pc' L (.null :: st) w P) : ev_E G M d pc L (st) w P := by
  obtain ⟨hd, rfl⟩ := hd
  intro R s m args below meth c w0 H locs ls X O hH hl
  exact lv_aload_nN X.1 X.2.1 hd rfl (ev_look hl h) (k R s m args below meth c w0 H locs ls X O hH hl)
theorem ev_aloadN {i : Nat} (hd : ev_d M.2.1 pc (.aload i) 2 pc') (h : L.lookup i = some .null) (k : ev_E G M d pc' L (.null :: st) w P) : ev_E G M d pc L (st) w P := by
  obtain ⟨hd, rfl⟩ := hd
  intro R s m args below meth c w0 H locs ls X O hH hl
  exact lv_aloadN X.1 X.2.1 hd (ev_look hl h) (k R s m args below meth c w0 H locs ls X O hH hl)
theorem ev_istore_n {i : Fin 4} {x : Int32} (hd : ev_d M.2.1 pc (.istore_n i) 1 pc') (hn : (i : Nat) < M.2.2.1) (k : ev_E G M d pc' (((i : Nat), Value.int x) :: L.filter (fun q => !(q.1 == (i : Nat)) && !(q.1 + 1 == (i : Nat) && q.2.category == 2))) st w P) : ev_E G M d pc L (Value.int x :: st) w P := by
  obtain ⟨hd, rfl⟩ := hd
  intro R s m args below meth c w0 H locs ls X O hH hl
  exact lv_istore_n X.1 X.2.1 hd rfl hl hn rfl fun ls' hl' => k R s m args below meth c w0 H locs ls' X O hH hl'
theorem ev_istore {i : Nat} {x : Int32} (hd : ev_d M.2.1 pc (.istore i) 2 pc') (hn : i < M.2.2.1) (k : ev_E G M d pc' ((i, Value.int x) :: L.filter (fun q => !(q.1 == i) && !(q.1 + 1 == i && q.2.category == 2))) st w P) : ev_E G M d pc L (Value.int x :: st) w P := by
  obtain ⟨hd, rfl⟩ := hd
  intro R s m args below meth c w0 H locs ls X O hH hl
  exact lv_istore X.1 X.2.1 hd hl hn rfl fun ls' hl' => k R s m args below meth c w0 H locs ls' X O hH hl'
theorem ev_astore_n {i : Fin 4} {x : Nat} (hd : ev_d M.2.1 pc (.astore_n i) 1 pc') (hn : (i : Nat) < M.2.2.1) (k : ev_E G M d pc' (((i : Nat), Value.ref x) :: L.filter (fun q => !(q.1 == (i : Nat)) && !(q.1 + 1 == (i : Nat) && q.2.category == 2))) st w P) : ev_E G M d pc L (Value.ref x :: st) w P := by
  obtain ⟨hd, rfl⟩ := hd
  intro R s m args below meth c w0 H locs ls X O hH hl
  exact lv_astore_n X.1 X.2.1 hd rfl hl hn rfl fun ls' hl' => k R s m args below meth c w0 H locs ls' X O hH hl'
theorem ev_astore {i : Nat} {x : Nat} (hd : ev_d M.2.1 pc (.astore i) 2 pc') (hn : i < M.2.2.1) (k : ev_E G M d pc' ((i, Value.ref x) :: L.filter (fun q => !(q.1 == i) && !(q.1 + 1 == i && q.2.category == 2))) st w P) : ev_E G M d pc L (Value.ref x :: st) w P := by
  obtain ⟨hd, rfl⟩ := hd
  intro R s m args below meth c w0 H locs ls X O hH hl
  exact lv_astore X.1 X.2.1 hd hl hn rfl fun ls' hl' => k R s m args below meth c w0 H locs ls' X O hH hl'
theorem ev_astore_nN {i : Fin 4} (hd : ev_d M.2.1 pc (.astore_n i) 1 pc') (hn : (i : Nat) < M.2.2.1) (k : ev_E G M d pc' (((i : Nat), Value.null) :: L.filter (fun q => !(q.1 == (i : Nat)) && !(q.1 + 1 == (i : Nat) && q.2.category == 2))) st w P) : ev_E G M d pc L (Value.null :: st) w P := by
  obtain ⟨hd, rfl⟩ := hd
  intro R s m args below meth c w0 H locs ls X O hH hl
  exact lv_astore_nN X.1 X.2.1 hd rfl hl hn rfl fun ls' hl' => k R s m args below meth c w0 H locs ls' X O hH hl'
theorem ev_astoreN {i : Nat} (hd : ev_d M.2.1 pc (.astore i) 2 pc') (hn : i < M.2.2.1) (k : ev_E G M d pc' ((i, Value.null) :: L.filter (fun q => !(q.1 == i) && !(q.1 + 1 == i && q.2.category == 2))) st w P) : ev_E G M d pc L (Value.null :: st) w P := by
  obtain ⟨hd, rfl⟩ := hd
  intro R s m args below meth c w0 H locs ls X O hH hl
  exact lv_astoreN X.1 X.2.1 hd hl hn rfl fun ls' hl' => k R s m args below meth c w0 H locs ls' X O hH hl'
theorem ev_lstore_n {i : Fin 4} {x : Int64} (hd : ev_d M.2.1 pc (.lstore_n i) 1 pc') (hn : (i : Nat) + 1 < M.2.2.1) (k : ev_E G M d pc' (((i : Nat), Value.long x) :: L.filter (fun q => !(q.1 == (i : Nat)) && (!(q.1 == (i : Nat) + 1) && !(q.1 + 1 == (i : Nat) && q.2.category == 2)))) st w P) : ev_E G M d pc L (Value.long x :: st) w P := by
  obtain ⟨hd, rfl⟩ := hd
  intro R s m args below meth c w0 H locs ls X O hH hl
  exact lv_lstore_n X.1 X.2.1 hd rfl hl hn rfl fun ls' hl' => k R s m args below meth c w0 H locs ls' X O hH hl'
theorem ev_lstore {i : Nat} {x : Int64} (hd : ev_d M.2.1 pc (.lstore i) 2 pc') (hn : i + 1 < M.2.2.1) (k : ev_E G M d pc' ((i, Value.long x) :: L.filter (fun q => !(q.1 == i) && (!(q.1 == i + 1) && !(q.1 + 1 == i && q.2.category == 2)))) st w P) : ev_E G M d pc L (Value.long x :: st) w P := by
  obtain ⟨hd, rfl⟩ := hd
  intro R s m args below meth c w0 H locs ls X O hH hl
  exact lv_lstore X.1 X.2.1 hd hl hn rfl fun ls' hl' => k R s m args below meth c w0 H locs ls' X O hH hl'
theorem ev_iinc {i : Nat} {n : Int} {x : Int32} (hd : ev_d M.2.1 pc (.iinc i n) 3 pc') (h : L.lookup i = some (.int x)) (hn : i < M.2.2.1) (k : ev_E G M d pc' ((i, Value.int (x + Int32.ofInt n)) :: L.filter (fun q => !(q.1 == i) && !(q.1 + 1 == i && q.2.category == 2))) st w P) : ev_E G M d pc L st w P := by
  obtain ⟨hd, rfl⟩ := hd
  intro R s m args below meth c w0 H locs ls X O hH hl
  obtain ⟨k0, hk0⟩ := List.getElem?_of_mem (ev_mem h)
  exact lv_iinc X.1 X.2.1 hd hl hk0 rfl hn rfl fun ls' hl' => k R s m args below meth c w0 H locs ls' X O hH hl'
theorem ev_iadd {x y : Int32} (hd : ev_d M.2.1 pc .iadd 1 pc') (k : ev_E G M d pc' L (.int (x + y) :: st) w P) : ev_E G M d pc L (.int y :: .int x :: st) w P := by
  obtain ⟨hd, rfl⟩ := hd
  intro R s m args below meth c w0 H locs ls X O hH hl
  exact lv_iadd X.1 X.2.1 hd (k R s m args below meth c w0 H locs ls X O hH hl)
theorem ev_isub {x y : Int32} (hd : ev_d M.2.1 pc .isub 1 pc') (k : ev_E G M d pc' L (.int (x - y) :: st) w P) : ev_E G M d pc L (.int y :: .int x :: st) w P := by
  obtain ⟨hd, rfl⟩ := hd
  intro R s m args below meth c w0 H locs ls X O hH hl
  exact lv_isub X.1 X.2.1 hd (k R s m args below meth c w0 H locs ls X O hH hl)
theorem ev_imul {x y : Int32} (hd : ev_d M.2.1 pc .imul 1 pc') (k : ev_E G M d pc' L (.int (x * y) :: st) w P) : ev_E G M d pc L (.int y :: .int x :: st) w P := by
  obtain ⟨hd, rfl⟩ := hd
  intro R s m args below meth c w0 H locs ls X O hH hl
  exact lv_imul X.1 X.2.1 hd (k R s m args below meth c w0 H locs ls X O hH hl)
theorem ev_iand {x y : Int32} (hd : ev_d M.2.1 pc .iand 1 pc') (k : ev_E G M d pc' L (.int (x &&& y) :: st) w P) : ev_E G M d pc L (.int y :: .int x :: st) w P := by
  obtain ⟨hd, rfl⟩ := hd
  intro R s m args below meth c w0 H locs ls X O hH hl
  exact lv_iand X.1 X.2.1 hd (k R s m args below meth c w0 H locs ls X O hH hl)
theorem ev_ior {x y : Int32} (hd : ev_d M.2.1 pc .ior 1 pc') (k : ev_E G M d pc' L (.int (x ||| y) :: st) w P) : ev_E G M d pc L (.int y :: .int x :: st) w P := by
  obtain ⟨hd, rfl⟩ := hd
  intro R s m args below meth c w0 H locs ls X O hH hl
  exact lv_ior X.1 X.2.1 hd (k R s m args below meth c w0 H locs ls X O hH hl)
theorem ev_ixor {x y : Int32} (hd : ev_d M.2.1 pc .ixor 1 pc') (k : ev_E G M d pc' L (.int (x ^^^ y) :: st) w P) : ev_E G M d pc L (.int y :: .int x :: st) w P := by
  obtain ⟨hd, rfl⟩ := hd
  intro R s m args below meth c w0 H locs ls X O hH hl
  exact lv_ixor X.1 X.2.1 hd (k R s m args below meth c w0 H locs ls X O hH hl)
theorem ev_ishl {x y : Int32} (hd : ev_d M.2.1 pc .ishl 1 pc') (k : ev_E G M d pc' L (.int (x <<< (y &&& 31)) :: st) w P) : ev_E G M d pc L (.int y :: .int x :: st) w P := by
  obtain ⟨hd, rfl⟩ := hd
  intro R s m args below meth c w0 H locs ls X O hH hl
  exact lv_ishl X.1 X.2.1 hd (k R s m args below meth c w0 H locs ls X O hH hl)
theorem ev_ishr {x y : Int32} (hd : ev_d M.2.1 pc .ishr 1 pc') (k : ev_E G M d pc' L (.int (x >>> (y &&& 31)) :: st) w P) : ev_E G M d pc L (.int y :: .int x :: st) w P := by
  obtain ⟨hd, rfl⟩ := hd
  intro R s m args below meth c w0 H locs ls X O hH hl
  exact lv_ishr X.1 X.2.1 hd (k R s m args below meth c w0 H locs ls X O hH hl)
theorem ev_irem {x y : Int32} (hd : ev_d M.2.1 pc .irem 1 pc') (hne : ¬ y = 0) (k : ev_E G M d pc' L (.int (x - x / y * y) :: st) w P) : ev_E G M d pc L (.int y :: .int x :: st) w P := by
  obtain ⟨hd, rfl⟩ := hd
  intro R s m args below meth c w0 H locs ls X O hH hl
  exact lv_irem X.1 X.2.1 hd hne (k R s m args below meth c w0 H locs ls X O hH hl)
theorem ev_idiv {x y : Int32} (hd : ev_d M.2.1 pc .idiv 1 pc') (hne : ¬ y = 0) (k : ev_E G M d pc' L (.int (x / y) :: st) w P) : ev_E G M d pc L (.int y :: .int x :: st) w P := by
  obtain ⟨hd, rfl⟩ := hd
  intro R s m args below meth c w0 H locs ls X O hH hl
  exact lv_idiv X.1 X.2.1 hd hne (k R s m args below meth c w0 H locs ls X O hH hl)
theorem ev_ineg {x : Int32} (hd : ev_d M.2.1 pc .ineg 1 pc') (k : ev_E G M d pc' L (.int (-x) :: st) w P) : ev_E G M d pc L (.int x :: st) w P := by
  obtain ⟨hd, rfl⟩ := hd
  intro R s m args below meth c w0 H locs ls X O hH hl
  exact lv_ineg X.1 X.2.1 hd (k R s m args below meth c w0 H locs ls X O hH hl)
theorem ev_land {x y : Int64} (hd : ev_d M.2.1 pc .land 1 pc') (k : ev_E G M d pc' L (.long (x &&& y) :: st) w P) : ev_E G M d pc L (.long y :: .long x :: st) w P := by
  obtain ⟨hd, rfl⟩ := hd
  intro R s m args below meth c w0 H locs ls X O hH hl
  exact lv_land X.1 X.2.1 hd (k R s m args below meth c w0 H locs ls X O hH hl)
theorem ev_lor {x y : Int64} (hd : ev_d M.2.1 pc .lor 1 pc') (k : ev_E G M d pc' L (.long (x ||| y) :: st) w P) : ev_E G M d pc L (.long y :: .long x :: st) w P := by
  obtain ⟨hd, rfl⟩ := hd
  intro R s m args below meth c w0 H locs ls X O hH hl
  exact lv_lor X.1 X.2.1 hd (k R s m args below meth c w0 H locs ls X O hH hl)
theorem ev_lshl {x : Int64} {y : Int32} (hd : ev_d M.2.1 pc .lshl 1 pc') (k : ev_E G M d pc' L (.long (x <<< (y.toInt64 &&& 63)) :: st) w P) : ev_E G M d pc L (.int y :: .long x :: st) w P := by
  obtain ⟨hd, rfl⟩ := hd
  intro R s m args below meth c w0 H locs ls X O hH hl
  exact lv_lshl X.1 X.2.1 hd rfl (k R s m args below meth c w0 H locs ls X O hH hl)
theorem ev_i2l {x : Int32} (hd : ev_d M.2.1 pc .i2l 1 pc') (k : ev_E G M d pc' L (.long x.toInt64 :: st) w P) : ev_E G M d pc L (.int x :: st) w P := by
  obtain ⟨hd, rfl⟩ := hd
  intro R s m args below meth c w0 H locs ls X O hH hl
  exact lv_i2l X.1 X.2.1 hd rfl (k R s m args below meth c w0 H locs ls X O hH hl)
theorem ev_lcmp {x y : Int64} (hd : ev_d M.2.1 pc .lcmp 1 pc') (k : ev_E G M d pc' L (.int (lg_cmp x y) :: st) w P) : ev_E G M d pc L (.long y :: .long x :: st) w P := by
  obtain ⟨hd, rfl⟩ := hd
  intro R s m args below meth c w0 H locs ls X O hH hl
  exact W.lcmp X.1 X.2.1 hd (k R s m args below meth c w0 H locs ls X O hH hl)
theorem ev_dup {va : Value} (hd : ev_d M.2.1 pc .dup 1 pc') (h1 : va.category = 1) (k : ev_E G M d pc' L (va :: va :: st) w P) : ev_E G M d pc L (va :: st) w P := by
  obtain ⟨hd, rfl⟩ := hd
  intro R s m args below meth c w0 H locs ls X O hH hl
  exact lv_dup X.1 X.2.1 hd h1 (k R s m args below meth c w0 H locs ls X O hH hl)
theorem ev_pop {va : Value} (hd : ev_d M.2.1 pc .pop 1 pc') (h1 : va.category = 1) (k : ev_E G M d pc' L (st) w P) : ev_E G M d pc L (va :: st) w P := by
  obtain ⟨hd, rfl⟩ := hd
  intro R s m args below meth c w0 H locs ls X O hH hl
  exact lv_pop X.1 X.2.1 hd h1 (k R s m args below meth c w0 H locs ls X O hH hl)
theorem ev_dup_x1 {va vb : Value} (hd : ev_d M.2.1 pc .dup_x1 1 pc') (h1 : va.category = 1) (h2 : vb.category = 1) (k : ev_E G M d pc' L (va :: vb :: va :: st) w P) : ev_E G M d pc L (va :: vb :: st) w P := by
  obtain ⟨hd, rfl⟩ := hd
  intro R s m args below meth c w0 H locs ls X O hH hl
  exact lv_dup_x1 X.1 X.2.1 hd h1 h2 (k R s m args below meth c w0 H locs ls X O hH hl)
theorem ev_dup_x2 {va vb vd : Value} (hd : ev_d M.2.1 pc .dup_x2 1 pc') (h1 : va.category = 1) (h2 : vb.category = 1) (h3 : vd.category = 1) (k : ev_E G M d pc' L (va :: vb :: vd :: va :: st) w P) : ev_E G M d pc L (va :: vb :: vd :: st) w P := by
  obtain ⟨hd, rfl⟩ := hd
  intro R s m args below meth c w0 H locs ls X O hH hl
  exact lv_dup_x2 X.1 X.2.1 hd h1 h2 h3 (k R s m args below meth c w0 H locs ls X O hH hl)
theorem ev_dup2 {va vb : Value} (hd : ev_d M.2.1 pc .dup2 1 pc') (h1 : va.category = 1) (h2 : vb.category = 1) (k : ev_E G M d pc' L (va :: vb :: va :: vb :: st) w P) : ev_E G M d pc L (va :: vb :: st) w P := by
  obtain ⟨hd, rfl⟩ := hd
  intro R s m args below meth c w0 H locs ls X O hH hl
  exact lv_dup2_11 X.1 X.2.1 hd h1 h2 (k R s m args below meth c w0 H locs ls X O hH hl)
theorem ev_if_eq {x : Int32} (hd : ev_j M.2.1 pc (fun o => .ifCond .eq o) pc' tgt) (kt : x = 0 → ev_E G M d tgt L st w P) (kf : ¬ x = 0 → ev_E G M d pc' L st w P) : ev_E G M d pc L (.int x :: st) w P := by
  obtain ⟨off, hd, rfl, ht⟩ := hd
  intro R s m args below meth c w0 H locs ls X O hH hl
  exact lv_if_eq X.1 X.2.1 hd ht (fun h => kt h R s m args below meth c w0 H locs ls X O hH hl) (fun h => kf h R s m args below meth c w0 H locs ls X O hH hl)
theorem ev_icmp_eq {x y : Int32} (hd : ev_j M.2.1 pc (fun o => .if_icmp .eq o) pc' tgt) (kt : x = y → ev_E G M d tgt L st w P) (kf : ¬ x = y → ev_E G M d pc' L st w P) : ev_E G M d pc L (.int y :: .int x :: st) w P := by
  obtain ⟨off, hd, rfl, ht⟩ := hd
  intro R s m args below meth c w0 H locs ls X O hH hl
  exact lv_icmp_eq X.1 X.2.1 hd ht (fun h => kt h R s m args below meth c w0 H locs ls X O hH hl) (fun h => kf h R s m args below meth c w0 H locs ls X O hH hl)
theorem ev_if_ne {x : Int32} (hd : ev_j M.2.1 pc (fun o => .ifCond .ne o) pc' tgt) (kt : ¬ x = 0 → ev_E G M d tgt L st w P) (kf : x = 0 → ev_E G M d pc' L st w P) : ev_E G M d pc L (.int x :: st) w P := by
  obtain ⟨off, hd, rfl, ht⟩ := hd
  intro R s m args below meth c w0 H locs ls X O hH hl
  exact lv_if_ne X.1 X.2.1 hd ht (fun h => kt h R s m args below meth c w0 H locs ls X O hH hl) (fun h => kf h R s m args below meth c w0 H locs ls X O hH hl)
theorem ev_icmp_ne {x y : Int32} (hd : ev_j M.2.1 pc (fun o => .if_icmp .ne o) pc' tgt) (kt : ¬ x = y → ev_E G M d tgt L st w P) (kf : x = y → ev_E G M d pc' L st w P) : ev_E G M d pc L (.int y :: .int x :: st) w P := by
  obtain ⟨off, hd, rfl, ht⟩ := hd
  intro R s m args below meth c w0 H locs ls X O hH hl
  exact lv_icmp_ne X.1 X.2.1 hd ht (fun h => kt h R s m args below meth c w0 H locs ls X O hH hl) (fun h => kf h R s m args below meth c w0 H locs ls X O hH hl)
theorem ev_if_lt {x : Int32} (hd : ev_j M.2.1 pc (fun o => .ifCond .lt o) pc' tgt) (kt : x < 0 → ev_E G M d tgt L st w P) (kf : ¬ x < 0 → ev_E G M d pc' L st w P) : ev_E G M d pc L (.int x :: st) w P := by
  obtain ⟨off, hd, rfl, ht⟩ := hd
  intro R s m args below meth c w0 H locs ls X O hH hl
  exact lv_if_lt X.1 X.2.1 hd ht (fun h => kt h R s m args below meth c w0 H locs ls X O hH hl) (fun h => kf h R s m args below meth c w0 H locs ls X O hH hl)
theorem ev_icmp_lt {x y : Int32} (hd : ev_j M.2.1 pc (fun o => .if_icmp .lt o) pc' tgt) (kt : x < y → ev_E G M d tgt L st w P) (kf : ¬ x < y → ev_E G M d pc' L st w P) : ev_E G M d pc L (.int y :: .int x :: st) w P := by
  obtain ⟨off, hd, rfl, ht⟩ := hd
  intro R s m args below meth c w0 H locs ls X O hH hl
  exact lv_icmp_lt X.1 X.2.1 hd ht (fun h => kt h R s m args below meth c w0 H locs ls X O hH hl) (fun h => kf h R s m args below meth c w0 H locs ls X O hH hl)
theorem ev_if_ge {x : Int32} (hd : ev_j M.2.1 pc (fun o => .ifCond .ge o) pc' tgt) (kt : 0 ≤ x → ev_E G M d tgt L st w P) (kf : ¬ 0 ≤ x → ev_E G M d pc' L st w P) : ev_E G M d pc L (.int x :: st) w P := by
  obtain ⟨off, hd, rfl, ht⟩ := hd
  intro R s m args below meth c w0 H locs ls X O hH hl
  exact lv_if_ge X.1 X.2.1 hd ht (fun h => kt h R s m args below meth c w0 H locs ls X O hH hl) (fun h => kf h R s m args below meth c w0 H locs ls X O hH hl)
theorem ev_icmp_ge {x y : Int32} (hd : ev_j M.2.1 pc (fun o => .if_icmp .ge o) pc' tgt) (kt : y ≤ x → ev_E G M d tgt L st w P) (kf : ¬ y ≤ x → ev_E G M d pc' L st w P) : ev_E G M d pc L (.int y :: .int x :: st) w P := by
  obtain ⟨off, hd, rfl, ht⟩ := hd
  intro R s m args below meth c w0 H locs ls X O hH hl
  exact lv_icmp_ge X.1 X.2.1 hd ht (fun h => kt h R s m args below meth c w0 H locs ls X O hH hl) (fun h => kf h R s m args below meth c w0 H locs ls X O hH hl)
theorem ev_if_gt {x : Int32} (hd : ev_j M.2.1 pc (fun o => .ifCond .gt o) pc' tgt) (kt : 0 < x → ev_E G M d tgt L st w P) (kf : ¬ 0 < x → ev_E G M d pc' L st w P) : ev_E G M d pc L (.int x :: st) w P := by
  obtain ⟨off, hd, rfl, ht⟩ := hd
  intro R s m args below meth c w0 H locs ls X O hH hl
  exact lv_if_gt X.1 X.2.1 hd ht (fun h => kt h R s m args below meth c w0 H locs ls X O hH hl) (fun h => kf h R s m args below meth c w0 H locs ls X O hH hl)
theorem ev_icmp_gt {x y : Int32} (hd : ev_j M.2.1 pc (fun o => .if_icmp .gt o) pc' tgt) (kt : y < x → ev_E G M d tgt L st w P) (kf : ¬ y < x → ev_E G M d pc' L st w P) : ev_E G M d pc L (.int y :: .int x :: st) w P := by
  obtain ⟨off, hd, rfl, ht⟩ := hd
  intro R s m args below meth c w0 H locs ls X O hH hl
  exact lv_icmp_gt X.1 X.2.1 hd ht (fun h => kt h R s m args below meth c w0 H locs ls X O hH hl) (fun h => kf h R s m args below meth c w0 H locs ls X O hH hl)
theorem ev_if_le {x : Int32} (hd : ev_j M.2.1 pc (fun o => .ifCond .le o) pc' tgt) (kt : x ≤ 0 → ev_E G M d tgt L st w P) (kf : ¬ x ≤ 0 → ev_E G M d pc' L st w P) : ev_E G M d pc L (.int x :: st) w P := by
  obtain ⟨off, hd, rfl, ht⟩ := hd
  intro R s m args below meth c w0 H locs ls X O hH hl
  exact lv_if_le X.1 X.2.1 hd ht (fun h => kt h R s m args below meth c w0 H locs ls X O hH hl) (fun h => kf h R s m args below meth c w0 H locs ls X O hH hl)
theorem ev_icmp_le {x y : Int32} (hd : ev_j M.2.1 pc (fun o => .if_icmp .le o) pc' tgt) (kt : x ≤ y → ev_E G M d tgt L st w P) (kf : ¬ x ≤ y → ev_E G M d pc' L st w P) : ev_E G M d pc L (.int y :: .int x :: st) w P := by
  obtain ⟨off, hd, rfl, ht⟩ := hd
  intro R s m args below meth c w0 H locs ls X O hH hl
  exact lv_icmp_le X.1 X.2.1 hd ht (fun h => kt h R s m args below meth c w0 H locs ls X O hH hl) (fun h => kf h R s m args below meth c w0 H locs ls X O hH hl)
theorem ev_acmp_eq {rx ry : Option Nat} (hd : ev_j M.2.1 pc (fun o => .if_acmp .eq o) pc' tgt) (kt : rx = ry → ev_E G M d tgt L st w P) (kf : ¬ rx = ry → ev_E G M d pc' L st w P) : ev_E G M d pc L (va_rf ry :: va_rf rx :: st) w P := by
  obtain ⟨off, hd, rfl, ht⟩ := hd
  intro R s m args below meth c w0 H locs ls X O hH hl
  exact lv_acmp_eq X.1 X.2.1 hd ht (fun h => kt h R s m args below meth c w0 H locs ls X O hH hl) (fun h => kf h R s m args below meth c w0 H locs ls X O hH hl)
theorem ev_acmp_ne {rx ry : Option Nat} (hd : ev_j M.2.1 pc (fun o => .if_acmp .ne o) pc' tgt) (kt : ¬ rx = ry → ev_E G M d tgt L st w P) (kf : rx = ry → ev_E G M d pc' L st w P) : ev_E G M d pc L (va_rf ry :: va_rf rx :: st) w P := by
  obtain ⟨off, hd, rfl, ht⟩ := hd
  intro R s m args below meth c w0 H locs ls X O hH hl
  exact lv_acmp_ne X.1 X.2.1 hd ht (fun h => kt h R s m args below meth c w0 H locs ls X O hH hl) (fun h => kf h R s m args below meth c w0 H locs ls X O hH hl)
theorem ev_goto (hd : ev_j M.2.1 pc (fun o => .goto o) pc' tgt) (k : ev_E G M d tgt L st w P) : ev_E G M d pc L (st) w P := by
  obtain ⟨off, hd, rfl, ht⟩ := hd
  intro R s m args below meth c w0 H locs ls X O hH hl
  exact lv_goto X.1 X.2.1 hd ht (k R s m args below meth c w0 H locs ls X O hH hl)
theorem ev_ifnull {x : Nat} (hd : ev_j M.2.1 pc (fun o => .ifnull o) pc' tgt) (k : ev_E G M d pc' L st w P) : ev_E G M d pc L (.ref x :: st) w P := by
  obtain ⟨off, hd, rfl, ht⟩ := hd
  intro R s m args below meth c w0 H locs ls X O hH hl
  exact lv_ifnull X.1 X.2.1 hd (k R s m args below meth c w0 H locs ls X O hH hl)
theorem ev_ifnullN (hd : ev_j M.2.1 pc (fun o => .ifnull o) pc' tgt) (k : ev_E G M d tgt L st w P) : ev_E G M d pc L (.null :: st) w P := by
  obtain ⟨off, hd, rfl, ht⟩ := hd
  intro R s m args below meth c w0 H locs ls X O hH hl
  exact lv_ifnullN X.1 X.2.1 hd ht (k R s m args below meth c w0 H locs ls X O hH hl)
theorem ev_ifnonnull {x : Nat} (hd : ev_j M.2.1 pc (fun o => .ifnonnull o) pc' tgt) (k : ev_E G M d tgt L st w P) : ev_E G M d pc L (.ref x :: st) w P := by
  obtain ⟨off, hd, rfl, ht⟩ := hd
  intro R s m args below meth c w0 H locs ls X O hH hl
  exact lv_ifnonnull X.1 X.2.1 hd ht (k R s m args below meth c w0 H locs ls X O hH hl)
theorem ev_ifnonnullN (hd : ev_j M.2.1 pc (fun o => .ifnonnull o) pc' tgt) (k : ev_E G M d pc' L st w P) : ev_E G M d pc L (.null :: st) w P := by
  obtain ⟨off, hd, rfl, ht⟩ := hd
  intro R s m args below meth c w0 H locs ls X O hH hl
  exact lv_ifnonnullN X.1 X.2.1 hd (k R s m args below meth c w0 H locs ls X O hH hl)
theorem ev_tableIn {dflt lo hi : Int} {offs : Array Int} {len : Nat} {x : Int32} {off : Int} (hd : decode M.2.1 pc = .ok (.tableswitch dflt lo hi offs, len)) (h1 : ¬ x.toInt < lo) (h2 : ¬ hi < x.toInt) (ho : offs[(x.toInt - lo).toNat]? = some off) (ht : (pc : Int) + off = (tgt : Int)) (k : ev_E G M d tgt L st w P) : ev_E G M d pc L (.int x :: st) w P := by
  intro R s m args below meth c w0 H locs ls X O hH hl
  exact lv_tableIn X.1 X.2.1 hd h1 h2 ho ht (k R s m args below meth c w0 H locs ls X O hH hl)
theorem ev_tableOut {dflt lo hi : Int} {offs : Array Int} {len : Nat} {x : Int32} (hd : decode M.2.1 pc = .ok (.tableswitch dflt lo hi offs, len)) (h : x.toInt < lo ∨ hi < x.toInt) (ht : (pc : Int) + dflt = (tgt : Int)) (k : ev_E G M d tgt L st w P) : ev_E G M d pc L (.int x :: st) w P := by
  intro R s m args below meth c w0 H locs ls X O hH hl
  exact lv_tableOut X.1 X.2.1 hd h ht (k R s m args below meth c w0 H locs ls X O hH hl)
theorem ev_lookup {dflt : Int} {ps : Array (Int × Int)} {len : Nat} {x : Int32} {off : Int} (hd : decode M.2.1 pc = .ok (.lookupswitch dflt ps, len)) (hp : (ps.toList.zip (ps.toList.drop 1)).all (fun (a, next) => a.1 < next.1) = true) (ho : Op.lookupswitch.offset ps.toList dflt x.toInt = off) (ht : (pc : Int) + off = (tgt : Int)) (k : ev_E G M d tgt L st w P) : ev_E G M d pc L (.int x :: st) w P := by
  intro R s m args below meth c w0 H locs ls X O hH hl
  exact lv_lookup X.1 X.2.1 hd hp ho ht (k R s m args below meth c w0 H locs ls X O hH hl)
theorem ev_ldc2 {index : Nat} {v : Int64} (hd : ev_d M.2.1 pc (.ldc2_w index) 3 pc') (hw : Cond.constantLong M.1.cls index v ∈ lw_tbl) (k : ev_E G M d pc' L (.long v :: st) w P) : ev_E G M d pc L st w P := by
  obtain ⟨hd, rfl⟩ := hd
  intro R s m args below meth c w0 H locs ls X O hH hl
  exact lv_ldc2 X.1 X.2.1 (ev_own X) (ev_word X hw rfl _) hd (k R s m args below meth c w0 H locs ls X O hH hl)
theorem ev_ldc {index : Nat} {v : Int32} (hd : ev_d M.2.1 pc (.ldc index) 2 pc') (hw : Cond.constant M.1.cls index v ∈ lw_tbl) (k : ev_E G M d pc' L (.int v :: st) w P) : ev_E G M d pc L st w P := by
  obtain ⟨hd, rfl⟩ := hd
  intro R s m args below meth c w0 H locs ls X O hH hl
  exact lv_ldc X.1 X.2.1 (ev_own X) (ev_word X hw rfl _) hd (k R s m args below meth c w0 H locs ls X O hH hl)
end EvB
end
section
/-! rows that read and write the heap -/
theorem ev_set_at (w : ev_wd) (a k : Nat) (x : Value) : ev_v (ev_set w a k x) a = updV (ev_v w a) k x := by
  funext j
  by_cases h : j = k
  · simp [ev_set, ev_v, updV, h]
  · simp [ev_set, ev_v, updV, h]
theorem ev_set_ne (w : ev_wd) {a q : Nat} (k : Nat) (x : Value) (h : q ≠ a) : ev_v (ev_set w a k x) q = ev_v w q := by
  funext j
  simp [ev_set, ev_v, h]
theorem ev_add_at (w : ev_wd) (t n : Nat) (f : Nat → Value) (u : Nat) : ev_g (ev_add w t n f u) (ev_z w) = t ∧ ev_n (ev_add w t n f u) (ev_z w) = n ∧ ev_v (ev_add w t n f u) (ev_z w) = f := by
  refine ⟨by simp [ev_add, ev_g, ev_z], by simp [ev_add, ev_n, ev_z], ?_⟩
  funext j
  simp [ev_add, ev_v, ev_z]
theorem ev_add_ne (w : ev_wd) (t n : Nat) (f : Nat → Value) (u : Nat) {q : Nat} (h : q ≠ ev_z w) : ev_g (ev_add w t n f u) q = ev_g w q ∧ ev_n (ev_add w t n f u) q = ev_n w q ∧ ev_v (ev_add w t n f u) q = ev_v w q := by
  have h' : ¬ q = w.2.2.2.1 := h
  refine ⟨by simp [ev_add, ev_g, h'], by simp [ev_add, ev_n, h'], ?_⟩
  funext j
  simp [ev_add, ev_v, h']
theorem ev_at.to {D : va_G} {w w' : ev_wd} {H H' : Heap} {a : Nat} (h : ev_at D w H a) (hg : ev_g w' a = ev_g w a) (hn : ev_n w' a = ev_n w a) (hv : ev_v w' a = ev_v w a) (hh : H'[a]? = H[a]?) : ev_at D w' H' a := by
  unfold ev_at
  rw [hg, hn, hv, hh]
  rcases h with ⟨h1, h2⟩ | ⟨h1, q, h2, h3⟩
  · exact Or.inl ⟨h1, h2⟩
  · exact Or.inr ⟨h1, q, h2, h3.kept hh⟩
theorem ev_Hr.put {G : ev_gx} {w : ev_wd} {H H' : Heap} {a k : Nat} {x : Value} (h : ev_Hr G w H) (ha : ev_b G ≤ a) (hz : H'.size = H.size) (ho : ∀ q, q ≠ a → H'[q]? = H[q]?) (he : ev_at (ev_D G) (ev_set w a k x) H' a) : ev_Hr G (ev_set w a k x) H' := by
  obtain ⟨h1, h2, h3, h4⟩ := h
  refine ⟨hz.trans h1, h2, fun q hq1 hq2 => ?_, fun q hq => ?_⟩
  · by_cases hqa : q = a
    · rw [hqa]; exact he
    · exact (h3 q hq1 hq2).to rfl rfl (ev_set_ne w k x hqa) (ho q hqa)
  · rw [ho q (by omega)]
    exact h4 q hq
theorem ev_Hr.new {G : ev_gx} {w : ev_wd} {H H' : Heap} {t n u : Nat} {f : Nat → Value} (h : ev_Hr G w H) (hz : H'.size = H.size + 1) (ho : ∀ q, q < H.size → H'[q]? = H[q]?) (he : ev_at (ev_D G) (ev_add w t n f u) H' (ev_z w)) : ev_Hr G (ev_add w t n f u) H' := by
  obtain ⟨h1, h2, h3, h4⟩ := h
  refine ⟨by rw [hz, h1]; rfl, Nat.le_succ_of_le h2, fun q hq1 hq2 => ?_, fun q hq => ?_⟩
  · by_cases hqa : q = ev_z w
    · rw [hqa]; exact he
    · have hlt : q < ev_z w := by
        have : q < ev_z w + 1 := hq2
        omega
      obtain ⟨e1, e2, e3⟩ := ev_add_ne w t n f u hqa
      exact (h3 q hq1 hlt).to e1 e2 e3 (ho q (by rw [h1]; exact hlt))
  · rw [ho q (by rw [h1]; omega)]
    exact h4 q hq
theorem ev_Hr.arr {G : ev_gx} {w : ev_wd} {H : Heap} {a t : Nat} (h : ev_Hr G w H) (ha : ev_b G ≤ a ∧ a < ev_z w) (ht : ev_g w a = 100 + t) : H[a]? = some (arrV ((ev_D G).1 (100 + t)) (ev_n w a) (ev_v w a)) := by
  rcases h.2.2.1 a ha.1 ha.2 with ⟨h1, h2⟩ | ⟨h1, -⟩
  · rw [ht] at h2; exact h2
  · omega
theorem ev_Hr.obj {G : ev_gx} {w : ev_wd} {H : Heap} {a c : Nat} {q : vw_C} (h : ev_Hr G w H) (ha : ev_b G ≤ a ∧ a < ev_z w) (ht : ev_g w a = c) (hc : nm_cl[c]? = some q) : t_OB a ((ev_D G).1 c) q.2.2 ((ev_D G).2 c) H (ev_v w a) := by
  rcases h.2.2.1 a ha.1 ha.2 with ⟨h1, h2⟩ | ⟨h1, q', h2, h3⟩
  · have := nm_lt c q hc
    omega
  · subst ht
    cases h2.symm.trans hc
    exact h3
/-- a class's own words -/
def ev_clok (c : Nat) (q : vw_C) : Prop := (∀ x ∈ u_ws q.1 q.2.1 q.2.2, x ∈ lw_tbl) ∧ (∀ a, a < q.2.2 → ∀ b, b < q.2.2 → a ≠ b → (q.2.1 a).2.1 ≠ (q.2.1 b).2.1) ∧ (∀ k, k < q.2.2 → parseFieldDescriptor (q.2.1 k).2.2.1 = some (nm_ft c k)) ∧ Cond.instantiable q.1 (nm_sl c) ∈ lw_tbl ∧ Cond.initialized q.1 ∈ lw_tbl
/-- the pool's entry 'index' of class 'own' is field k of class c -/
def ev_F (own : String) (index c k : Nat) (fin : Bool) : Prop :=
  ∃ (q : vw_C) (ref : String), nm_cl[c]? = some q ∧ k < q.2.2 ∧ ev_clok c q ∧ Cond.fieldLink own index ref (q.2.1 k).2.1 (q.2.1 k).2.2.1 ∈ lw_tbl ∧ (ref = (q.2.1 k).1 ∨ Cond.sameField ref (q.2.1 k).1 (q.2.1 k).2.1 (q.2.1 k).2.2.1 ∈ lw_tbl) ∧ (q.2.1 k).2.2.2 = fin ∧ (fin = true → (q.2.1 k).1 = own)
def ev_F0 (own : String) (index c k : Nat) : Prop :=
  ∃ (q : vw_C) (ref : String), nm_cl[c]? = some q ∧ k < q.2.2 ∧ ev_clok c q ∧ Cond.fieldLink own index ref (q.2.1 k).2.1 (q.2.1 k).2.2.1 ∈ lw_tbl ∧ (ref = (q.2.1 k).1 ∨ Cond.sameField ref (q.2.1 k).1 (q.2.1 k).2.1 (q.2.1 k).2.2.1 ∈ lw_tbl)
theorem ev_F.r {own : String} {index c k : Nat} {fin : Bool} (h : ev_F own index c k fin) : ev_F0 own index c k := by
  obtain ⟨q, ref, h1, h2, h3, h4, h5, -⟩ := h
  exact ⟨q, ref, h1, h2, h3, h4, h5⟩
theorem ev_lay_good (C : String) (T : u_T) (k : Nat) : goodWord (u_lay C T k) = true := by
  unfold u_lay
  split <;> rfl
section EvH
variable {G : ev_gx} {M : ev_mx} {d pc pc' tgt : Nat} {L : List (Nat × Value)} {st : List Value} {w : ev_wd} {P : ev_r → ev_wd → Prop}
theorem ev_lays {R : Room} {s : State} {m : MethodId} {meth : Method} {c : Code} {w0 : ev_wd} (X : ev_cx G M d R s m meth c w0) {i : Nat} {q : vw_C} (h : ev_clok i q) (a' : Array Value) : ∀ x ∈ u_ws q.1 q.2.1 q.2.2, x.before a' s = true := by
  intro x hx
  obtain ⟨k, -, hk⟩ := List.mem_map.mp hx
  refine ev_word X (h.1 x hx) ?_ a'
  rw [← hk]
  exact ev_lay_good _ _ _
theorem ev_getf {index c k a : Nat} (hd : ev_d M.2.1 pc (.getfield index) 3 pc') (hF : ev_F0 M.1.cls index c k) (ha : ev_b G ≤ a ∧ a < ev_z w) (ht : ev_g w a = c) {v : Value} (hv : ev_v w a k = v) (kk : ev_E G M d pc' L (v :: st) w P) : ev_E G M d pc L (.ref a :: st) w P := by
  obtain ⟨hd, rfl⟩ := hd
  subst hv
  obtain ⟨q, ref, hc, hk, hok, hlk, hs⟩ := hF
  intro R s m args below meth c' w0 H locs ls X O hH hl
  obtain ⟨cell, q1, q2, q3, q4⟩ := hH.obj ha ht hc
  obtain ⟨hS, hfc, kC, hkC, hkind⟩ := (ev_Ks X).1 c q hc
  obtain ⟨cf, kf, fi, f, hi, hsl⟩ := hS k hk
  have hsame : s.fieldFound? ref (q.2.1 k).2.1 (q.2.1 k).2.2.1 = some (cf, kf, fi, f) := by
    rcases hs with h | h
    · rw [h]; exact hi
    · exact u_same (ev_word X h rfl args) _ hi
  refine W.getf X.1 X.2.1 (ev_own X) (ev_word X hlk rfl _) hsame (u_facts hfc hkC (u_lays (ev_lays X hok args) (fun w h => h) hk) hi).1 q1 (by rw [q3]; exact fun h => by cases h) (v := ev_v w a k) ?_ rfl rfl hd (kk R s m args below meth c' w0 H locs ls X O hH hl)
  rw [hsl, q4 k hk]
theorem ev_apart {R : Room} {s : State} {m : MethodId} {meth : Method} {c : Code} {w0 : ev_wd} (X : ev_cx G M d R s m meth c w0) {i : Nat} {q : vw_C} (hc : nm_cl[i]? = some q) (h : ev_clok i q) : ∀ a b, a < q.2.2 → b < q.2.2 → a ≠ b → (ev_D G).2 i a ≠ (ev_D G).2 i b := by
  intro x y hx hy hne
  obtain ⟨hS, -⟩ := (ev_Ks X).1 i q hc
  obtain ⟨_, _, _, fa, hia, ea⟩ := hS x hx
  obtain ⟨_, _, _, fb, hib, eb⟩ := hS y hy
  rw [← ea, ← eb]
  refine u_apart (u_lays (ev_lays X h #[]) (fun w h => h) hx) (u_lays (ev_lays X h #[]) (fun w h => h) hy) hia hib ?_
  rw [(State.fieldFound?_type hia (h.2.2.1 x hx)).1, (State.fieldFound?_type hib (h.2.2.1 y hy)).1]
  exact h.2.1 x hx y hy hne
theorem ev_ok.put {w0 : ev_wd} {locs : List Loc} {a i k : Nat} {x : Value} (O : ev_ok G w0 w locs) (ha : ev_b G ≤ a) : ev_ok G w0 (ev_set w a k x) (locs ++ [⟨a, i⟩]) := by
  refine ⟨fun q hq => ?_, O.2⟩
  rcases List.mem_append.mp hq with h | h
  · exact O.1 q h
  · rw [List.mem_singleton.mp h]
    exact ha
theorem ev_putf {index c k a : Nat} {v : Value} (hd : ev_d M.2.1 pc (.putfield index) 3 pc') (hF : ev_F M.1.cls index c k false) (ha : ev_b G ≤ a ∧ a < ev_z w) (ht : ev_g w a = c) (hn : narrow (nm_ft c k) v = v) (hfit : fits (nm_ft c k) v = true) (kk : ev_E G M d pc' L st (ev_set w a k v) P) : ev_E G M d pc L (v :: .ref a :: st) w P := by
  obtain ⟨hd, rfl⟩ := hd
  obtain ⟨q, ref, hc, hk, hok, hlk, hs, hfin, -⟩ := hF
  intro R s m args below meth c' w0 H locs ls X O hH hl
  have hap := ev_apart X hc hok
  obtain ⟨cell, q1, q2, q3, q4⟩ := hH.obj ha ht hc
  obtain ⟨hS, hfc, kC, hkC, hkind⟩ := (ev_Ks X).1 c q hc
  obtain ⟨cf, kf, fi, f, hi, hsl⟩ := hS k hk
  have hsame : s.fieldFound? ref (q.2.1 k).2.1 (q.2.1 k).2.2.1 = some (cf, kf, fi, f) := by
    rcases hs with h | h
    · rw [h]; exact hi
    · exact u_same (ev_word X h rfl args) _ hi
  have hlay := ev_lays X hok args _ (u_in_lay hk)
  unfold u_lay at hlay
  rw [if_neg (by rw [hfin]; decide)] at hlay
  have hst := (u_facts hfc hkC (u_lays (ev_lays X hok args) (fun w h => h) hk) hi).1
  have h6 := u_store hfc hkC hkind hlay hi (hok.2.2.1 k hk) hn hfit
  refine W.putK X.1 X.2.1 (f := f) ⟨ev_own X, ev_word X hlk rfl _, ⟨_, _, _, hsame⟩, hst⟩ (by rw [q2]; exact h6) q1 q3 (by rw [hsl]; exact k2_hasslot (q4 k hk)) rfl rfl hd fun H' e1 e2 e3 => ?_
  rw [hsl] at e1 ⊢
  refine kk R s m args below meth c' w0 H' _ ls X (O.put ha.1) (hH.put ha.1 e2 e3 (Or.inr ⟨?_, q, ?_, ?_⟩)) hl
  · show ev_g w a < 100
    rw [ht]; exact nm_lt c q hc
  · show nm_cl[ev_g w a]? = some q
    rw [ht]; exact hc
  · rw [ev_set_at]
    show t_OB a ((ev_D G).1 (ev_g w a)) q.2.2 ((ev_D G).2 (ev_g w a)) H' _
    rw [ht]
    exact ⟨_, e1, q2, q3, t_set q4 hap hk v⟩
theorem ev_putF {index c k a : Nat} {v : Value} (hd : ev_d M.2.1 pc (.putfield index) 3 pc') (hF : ev_F M.1.cls index c k true) (hM : M.1.name = "<init>") (ha : ev_b G ≤ a ∧ a < ev_z w) (ht : ev_g w a = c) (hn : narrow (nm_ft c k) v = v) (hfit : fits (nm_ft c k) v = true) (kk : ev_E G M d pc' L st (ev_set w a k v) P) : ev_E G M d pc L (v :: .ref a :: st) w P := by
  obtain ⟨hd, rfl⟩ := hd
  obtain ⟨q, ref, hc, hk, hok, hlk, hs, hfin, hdecl⟩ := hF
  intro R s m args below meth c' w0 H locs ls X O hH hl
  have hap := ev_apart X hc hok
  obtain ⟨cell, q1, q2, q3, q4⟩ := hH.obj ha ht hc
  obtain ⟨hS, hfc, kC, hkC, hkind⟩ := (ev_Ks X).1 c q hc
  obtain ⟨cf, kf, fi, f, hi, hsl⟩ := hS k hk
  have hsame : s.fieldFound? ref (q.2.1 k).2.1 (q.2.1 k).2.2.1 = some (cf, kf, fi, f) := by
    rcases hs with h | h
    · rw [h]; exact hi
    · exact u_same (ev_word X h rfl args) _ hi
  have hlay := ev_lays X hok args _ (u_in_lay hk)
  unfold u_lay at hlay
  rw [if_pos hfin] at hlay
  have hst := (u_facts hfc hkC (u_lays (ev_lays X hok args) (fun w h => h) hk) hi).1
  have hcf : m.cls = cf := by
    obtain ⟨_, _, c', _, _, _, -, -, hf', -, -, -, hown2, -⟩ := Cond.laysFinal_spec hlay
    have e1 : c' = cf := by have := hi.symm.trans hf'; simp at this; exact this.1.symm
    rw [hdecl rfl] at hown2
    rw [← e1]; exact Option.some.inj ((ev_own X).symm.trans hown2)
  have h6 := u_fits hfc hkC hkind (Or.inr hlay) hi (hok.2.2.1 k hk) hn hfit
  refine W.putFinK X.1 X.2.1 (ev_own X) (ev_word X hlk rfl _) hsame hst hcf (X.2.2.2.2.2.2.2.2.2.2.2.2.2.2.trans hM) (by rw [q2]; exact h6) q1 q3 (by rw [hsl]; exact k2_hasslot (q4 k hk)) rfl rfl hd fun H' e1 e2 e3 => ?_
  rw [hsl] at e1 ⊢
  refine kk R s m args below meth c' w0 H' _ ls X (O.put ha.1) (hH.put ha.1 e2 e3 (Or.inr ⟨?_, q, ?_, ?_⟩)) hl
  · show ev_g w a < 100
    rw [ht]; exact nm_lt c q hc
  · show nm_cl[ev_g w a]? = some q
    rw [ht]; exact hc
  · rw [ev_set_at]
    show t_OB a ((ev_D G).1 (ev_g w a)) q.2.2 ((ev_D G).2 (ev_g w a)) H' _
    rw [ht]
    exact ⟨_, e1, q2, q3, t_set q4 hap hk v⟩
theorem ev_alen {t a : Nat} {ty : FieldType} (hd : ev_d M.2.1 pc .arraylength 1 pc') (ha : ev_b G ≤ a ∧ a < ev_z w) (ht : ev_g w a = 100 + t) (hty : nm_at[t]? = some ty) {n : Nat} (hn : ev_n w a = n) (kk : ev_E G M d pc' L (.int (Int32.ofNat n) :: st) w P) : ev_E G M d pc L (.ref a :: st) w P := by
  obtain ⟨hd, rfl⟩ := hd
  subst hn
  intro R s m args below meth c' w0 H locs ls X O hH hl
  exact W.alen (n := Int32.ofNat (ev_n w a)) X.1 X.2.1 (hH.arr ha ht) (((ev_Ks X).2 t ty hty).1 (ev_n w a) (ev_v w a)) (by rw [arrV_size] <;> rfl) rfl rfl hd (kk R s m args below meth c' w0 H locs ls X O hH hl)
theorem ev_iald {t a : Nat} {j : Int32} (hd : ev_d M.2.1 pc .iaload 1 pc') (ha : ev_b G ≤ a ∧ a < ev_z w) (ht : ev_g w a = 100 + t) (hty : nm_at[t]? = some .int) (hin : vp_in j (ev_n w a)) {v : Value} (hv : ev_v w a j.toNatClampNeg = v) (kk : ev_E G M d pc' L (v :: st) w P) : ev_E G M d pc L (.int j :: .ref a :: st) w P := by
  obtain ⟨hd, rfl⟩ := hd
  subst hv
  intro R s m args below meth c' w0 H locs ls X O hH hl
  have hlt : j.toNatClampNeg < ev_n w a := Nat.not_le.mp fun q => hin (Or.inr q)
  exact W.iald X.1 X.2.1 (hH.arr ha ht) (((ev_Ks X).2 t _ hty).1 (ev_n w a) (ev_v w a)) (fun q => by cases q) (by rw [arrV_size]; exact hin) (arrV_read _ _ hlt) rfl rfl hd (kk R s m args below meth c' w0 H locs ls X O hH hl)
theorem ev_zald {t a : Nat} {j : Int32} (hd : ev_d M.2.1 pc .baload 1 pc') (ha : ev_b G ≤ a ∧ a < ev_z w) (ht : ev_g w a = 100 + t) (hty : nm_at[t]? = some .boolean) (hin : vp_in j (ev_n w a)) {v : Value} (hv : ev_v w a j.toNatClampNeg = v) (kk : ev_E G M d pc' L (v :: st) w P) : ev_E G M d pc L (.int j :: .ref a :: st) w P := by
  obtain ⟨hd, rfl⟩ := hd
  subst hv
  intro R s m args below meth c' w0 H locs ls X O hH hl
  have hlt : j.toNatClampNeg < ev_n w a := Nat.not_le.mp fun q => hin (Or.inr q)
  exact W.zald X.1 X.2.1 (hH.arr ha ht) (((ev_Ks X).2 t _ hty).1 (ev_n w a) (ev_v w a)) (fun q => by cases q) (by rw [arrV_size]; exact hin) (arrV_read _ _ hlt) rfl rfl hd (kk R s m args below meth c' w0 H locs ls X O hH hl)
theorem ev_lald {t a : Nat} {j : Int32} (hd : ev_d M.2.1 pc .laload 1 pc') (ha : ev_b G ≤ a ∧ a < ev_z w) (ht : ev_g w a = 100 + t) (hty : nm_at[t]? = some .long) (hin : vp_in j (ev_n w a)) {v : Value} (hv : ev_v w a j.toNatClampNeg = v) (kk : ev_E G M d pc' L (v :: st) w P) : ev_E G M d pc L (.int j :: .ref a :: st) w P := by
  obtain ⟨hd, rfl⟩ := hd
  subst hv
  intro R s m args below meth c' w0 H locs ls X O hH hl
  have hlt : j.toNatClampNeg < ev_n w a := Nat.not_le.mp fun q => hin (Or.inr q)
  exact W.lald X.1 X.2.1 (hH.arr ha ht) (((ev_Ks X).2 t _ hty).1 (ev_n w a) (ev_v w a)) (fun q => by cases q) (by rw [arrV_size]; exact hin) (arrV_read _ _ hlt) rfl rfl hd (kk R s m args below meth c' w0 H locs ls X O hH hl)
theorem ev_aald {t a : Nat} {j : Int32} {C : String} (hd : ev_d M.2.1 pc .aaload 1 pc') (ha : ev_b G ≤ a ∧ a < ev_z w) (ht : ev_g w a = 100 + t) (hty : nm_at[t]? = some (.object C)) (hin : vp_in j (ev_n w a)) {v : Value} (hv : ev_v w a j.toNatClampNeg = v) (kk : ev_E G M d pc' L (v :: st) w P) : ev_E G M d pc L (.int j :: .ref a :: st) w P := by
  obtain ⟨hd, rfl⟩ := hd
  subst hv
  intro R s m args below meth c' w0 H locs ls X O hH hl
  have hlt : j.toNatClampNeg < ev_n w a := Nat.not_le.mp fun q => hin (Or.inr q)
  exact W.aald (ty := .object C) X.1 X.2.1 (hH.arr ha ht) (((ev_Ks X).2 t _ hty).1 (ev_n w a) (ev_v w a)) rfl (fun q => by cases q) (by rw [arrV_size]; exact hin) (arrV_read _ _ hlt) rfl rfl hd (kk R s m args below meth c' w0 H locs ls X O hH hl)
/-- an array's cell behind a store -/
theorem ev_Hr.ast {H H' : Heap} {a t k : Nat} {x : Value} (hH : ev_Hr G w H) (ha : ev_b G ≤ a ∧ a < ev_z w) (ht : ev_g w a = 100 + t) (e1 : H'[a]? = some ((arrV ((ev_D G).1 (100 + t)) (ev_n w a) (ev_v w a)).setSlot k x)) (hz : H'.size = H.size) (ho : ∀ q, q ≠ a → H'[q]? = H[q]?) : ev_Hr G (ev_set w a k x) H' := by
  refine hH.put ha.1 hz ho (Or.inl ⟨?_, ?_⟩)
  · show 100 ≤ ev_g w a
    omega
  · rw [ev_set_at]
    show H'[a]? = some (arrV ((ev_D G).1 (ev_g w a)) (ev_n w a) _)
    rw [ht, e1, arrV_store]
theorem ev_iast {t a : Nat} {j x : Int32} (hd : ev_d M.2.1 pc .iastore 1 pc') (ha : ev_b G ≤ a ∧ a < ev_z w) (ht : ev_g w a = 100 + t) (hty : nm_at[t]? = some .int) (hin : vp_in j (ev_n w a)) (kk : ev_E G M d pc' L st (ev_set w a j.toNatClampNeg (.int x)) P) : ev_E G M d pc L (.int x :: .int j :: .ref a :: st) w P := by
  obtain ⟨hd, rfl⟩ := hd
  intro R s m args below meth c' w0 H locs ls X O hH hl
  exact W.iast X.1 X.2.1 (hH.arr ha ht) (((ev_Ks X).2 t _ hty).1 (ev_n w a) (ev_v w a)) (fun q => by cases q) (by rw [arrV_size]; exact hin) rfl rfl hd fun H' e z oq => kk R s m args below meth c' w0 H' _ ls X (O.put ha.1) (hH.ast ha ht e z oq) hl
theorem ev_zast {t a : Nat} {j x : Int32} (hd : ev_d M.2.1 pc .bastore 1 pc') (ha : ev_b G ≤ a ∧ a < ev_z w) (ht : ev_g w a = 100 + t) (hty : nm_at[t]? = some .boolean) (hin : vp_in j (ev_n w a)) (hx : narrow .boolean (.int x) = .int x) (kk : ev_E G M d pc' L st (ev_set w a j.toNatClampNeg (.int x)) P) : ev_E G M d pc L (.int x :: .int j :: .ref a :: st) w P := by
  obtain ⟨hd, rfl⟩ := hd
  intro R s m args below meth c' w0 H locs ls X O hH hl
  refine W.zast X.1 X.2.1 (hH.arr ha ht) (((ev_Ks X).2 t _ hty).1 (ev_n w a) (ev_v w a)) (fun q => by cases q) (by rw [arrV_size]; exact hin) rfl rfl hd fun H' e z oq => kk R s m args below meth c' w0 H' _ ls X (O.put ha.1) (hH.ast ha ht ?_ z oq) hl
  rw [← hx]
  exact e
theorem ev_last {t a : Nat} {j : Int32} {x : Int64} (hd : ev_d M.2.1 pc .lastore 1 pc') (ha : ev_b G ≤ a ∧ a < ev_z w) (ht : ev_g w a = 100 + t) (hty : nm_at[t]? = some .long) (hin : vp_in j (ev_n w a)) (kk : ev_E G M d pc' L st (ev_set w a j.toNatClampNeg (.long x)) P) : ev_E G M d pc L (.long x :: .int j :: .ref a :: st) w P := by
  obtain ⟨hd, rfl⟩ := hd
  intro R s m args below meth c' w0 H locs ls X O hH hl
  exact W.last X.1 X.2.1 (hH.arr ha ht) (((ev_Ks X).2 t _ hty).1 (ev_n w a) (ev_v w a)) (fun q => by cases q) (by rw [arrV_size]; exact hin) rfl rfl hd fun H' e z oq => kk R s m args below meth c' w0 H' _ ls X (O.put ha.1) (hH.ast ha ht e z oq) hl
theorem ev_aast {t a v c : Nat} {j : Int32} {E : String} {q : vw_C} (hd : ev_d M.2.1 pc .aastore 1 pc') (ha : ev_b G ≤ a ∧ a < ev_z w) (ht : ev_g w a = 100 + t) (hty : nm_at[t]? = some (.object E)) (hin : vp_in j (ev_n w a)) (hv : ev_b G ≤ v ∧ v < ev_z w) (hvc : ev_g w v = c) (hc : nm_cl[c]? = some q) (hE : q.1 = E ∨ Cond.castable q.1 E ∈ lw_tbl) (kk : ev_E G M d pc' L st (ev_set w a j.toNatClampNeg (.ref v)) P) : ev_E G M d pc L (.ref v :: .int j :: .ref a :: st) w P := by
  obtain ⟨hd, rfl⟩ := hd
  intro R s m args below meth c' w0 H locs ls X O hH hl
  have hlt : j.toNatClampNeg < ev_n w a := Nat.not_le.mp fun q => hin (Or.inr q)
  have h0 : ¬ j < 0 := fun q => hin (Or.inl q)
  obtain ⟨cellV, g1, g2, g3, -⟩ := hH.obj hv hvc hc
  have hcls := ((ev_Ks X).1 c q hc).2
  obtain ⟨kA, comp, k1, k2, k3, -⟩ := ((ev_Ks X).2 t _ hty).2
  obtain ⟨kE, hkE, -⟩ := Vm.findClass_spec k3
  obtain ⟨kC, hkC, -⟩ := hcls.2
  have hasg : s.vm.assignable ((ev_D G).1 c) comp = true := by
    rcases hE with h | h
    · rw [← h] at k3
      cases k3.symm.trans hcls.1
      exact va_assign hcls
    · obtain ⟨c0, t1, f1, f2, f3⟩ := Cond.castable_spec (va_Nw.use (A := args) rfl (va_Nw.warmC X.2.2.2.1 (va_Nw.of rfl (X.2.2.2.2.1 _ h))))
      cases hcls.1.symm.trans f1
      cases k3.symm.trans f2
      exact f3
  exact W.aast X.1 X.2.1 (hH.arr ha ht) (fun q h => by cases h) (fun h => by cases h) k1 k2 rfl hkE ⟨h0, by rw [arrV_size]; exact hlt⟩ g1 (fun q h => by rw [g3] at h; cases h) (by rw [g2]; exact hkC) (by rw [g2]; exact hasg) rfl rfl hd fun H' e z oq => kk R s m args below meth c' w0 H' _ ls X (O.put ha.1) (hH.ast ha ht e z oq) hl
theorem ev_aastN {t a : Nat} {j : Int32} {E : String} (hd : ev_d M.2.1 pc .aastore 1 pc') (ha : ev_b G ≤ a ∧ a < ev_z w) (ht : ev_g w a = 100 + t) (hty : nm_at[t]? = some (.object E)) (hin : vp_in j (ev_n w a)) (kk : ev_E G M d pc' L st (ev_set w a j.toNatClampNeg .null) P) : ev_E G M d pc L (.null :: .int j :: .ref a :: st) w P := by
  obtain ⟨hd, rfl⟩ := hd
  intro R s m args below meth c' w0 H locs ls X O hH hl
  exact va_WaastN (C := E) X.1 X.2.1 (hH.arr ha ht) (((ev_Ks X).2 t _ hty).1 (ev_n w a) (ev_v w a)) (fun q => by cases q) (by rw [arrV_size]; exact hin) rfl rfl hd fun H' e z oq => kk R s m args below meth c' w0 H' _ ls X (O.put ha.1) (hH.ast ha ht e z oq) hl
theorem ev_ok.new {w0 : ev_wd} {locs : List Loc} {t n u : Nat} {f : Nat → Value} (O : ev_ok G w0 w locs) (hz : ev_z w + 1 ≤ ev_b G + 601024) (hu : ev_u w + u ≤ 7293034) : ev_ok G w0 (ev_add w t n f u) locs := ⟨O.1, Nat.le_succ_of_le O.2.1, Nat.le_trans O.2.2.1 (Nat.le_add_right _ _), hz, hu⟩
theorem ev_new {index c : Nat} {q : vw_C} (hd : ev_d M.2.1 pc (.new index) 3 pc') (hc : nm_cl[c]? = some q) (hok : ev_clok c q) (hlk : Cond.classLink M.1.cls index q.1 ∈ lw_tbl) (hz : ev_z w + 1 ≤ ev_b G + 601024) (hu : ev_u w + nm_sl c ≤ 7293034) (kk : ev_E G M d pc' L (.ref (ev_z w) :: st) (ev_add w c 0 (fun k => defaultValue (nm_ft c k)) (nm_sl c)) P) : ev_E G M d pc L st w P := by
  obtain ⟨hd, rfl⟩ := hd
  intro R s m args below meth c' w0 H locs ls X O hH hl
  have hKn := (ev_Ks X).1 c q hc
  obtain ⟨-, -, -, -, -, -, -, -, -, -, -, -, r1, r2, -⟩ := id X
  obtain ⟨o1, o2, o3, o4, o5⟩ := id O
  have hH1 := hH.1
  refine W.newcK X.1 X.2.1 (ev_own X) (ev_word X hlk rfl _) (ev_word X hok.2.2.2.1 rfl _) (ev_word X hok.2.2.2.2 rfl _) rfl hd (by omega) (by omega) hKn.2.1 hH1 fun H1 kC hkC e1 z1 o1 => ?_
  have hk := kk R s m args below meth c' w0 H1 locs ls X (O.new hz hu) (hH.new (by rw [z1, hH1]) (fun x hx => o1 x (by rw [← hH1]; exact hx)) (Or.inr ?_)) hl
  · have e2 : ev_z (ev_add w c 0 (fun k => defaultValue (nm_ft c k)) (nm_sl c)) - ev_z w0 = ev_z w - ev_z w0 + 1 := by
      show ev_z w + 1 - ev_z w0 = _
      omega
    have e3 : ev_u (ev_add w c 0 (fun k => defaultValue (nm_ft c k)) (nm_sl c)) - ev_u w0 = ev_u w - ev_u w0 + nm_sl c := by
      show ev_u w + nm_sl c - ev_u w0 = _
      omega
    rw [e2, e3] at hk
    exact hk
  · obtain ⟨a1, a2, a3⟩ := ev_add_at w c 0 (fun k => defaultValue (nm_ft c k)) (nm_sl c)
    rw [a1, a3]
    exact ⟨nm_lt c q hc, q, hc, u_born (nm_ft c) (ev_lays X hok args) (fun w h => h) hKn hkC e1 hok.2.2.1⟩
theorem ev_newa {atype : ArrayType} {t : Nat} {n : Int32} (hd : ev_d M.2.1 pc (.newarray atype) 2 pc') (hty : nm_at[t]? = some (newarray.typeOf atype)) (hw : Cond.arrayClass (newarray.typeOf atype) ∈ lw_tbl) (hn : ¬ n < 0) (hbytes : n.toNatClampNeg * componentBytes (newarray.typeOf atype) ≤ 536870912) (hz : ev_z w + 1 ≤ ev_b G + 601024) (hu : ev_u w + n.toNatClampNeg ≤ 7293034) (kk : ev_E G M d pc' L (.ref (ev_z w) :: st) (ev_add w (100 + t) n.toNatClampNeg (fun _ => defaultValue (newarray.typeOf atype)) n.toNatClampNeg) P) : ev_E G M d pc L (.int n :: st) w P := by
  obtain ⟨hd, rfl⟩ := hd
  intro R s m args below meth c' w0 H locs ls X O hH hl
  obtain ⟨-, -, -, -, -, -, -, -, -, -, -, -, r1, r2, -⟩ := id X
  obtain ⟨o1, o2, o3, o4, o5⟩ := id O
  have hH1 := hH.1
  refine va_newaK X.1 X.2.1 (ev_word X hw rfl _) rfl hd rfl hn rfl hbytes (by omega) (by omega) hH1 fun H1 cA e1 z1 o1 hAr hNm => ?_
  have hcA : cA = (ev_D G).1 (100 + t) := by
    have h := ((ev_Ks X).2 t _ hty).2
    have h2 : s.vm.findClass ("[" ++ (newarray.typeOf atype).toString) = some ((ev_D G).1 (100 + t)) := by
      cases atype <;> exact h
    exact Option.some.inj (hNm.symm.trans h2)
  have hk := kk R s m args below meth c' w0 H1 locs ls X (O.new hz hu) (hH.new (by rw [z1, hH1]) (fun x hx => o1 x (by rw [← hH1]; exact hx)) (Or.inl ?_)) hl
  · have e2 : ev_z (ev_add w (100 + t) n.toNatClampNeg (fun _ => defaultValue (newarray.typeOf atype)) n.toNatClampNeg) - ev_z w0 = ev_z w - ev_z w0 + 1 := by
      show ev_z w + 1 - ev_z w0 = _
      omega
    have e3 : ev_u (ev_add w (100 + t) n.toNatClampNeg (fun _ => defaultValue (newarray.typeOf atype)) n.toNatClampNeg) - ev_u w0 = ev_u w - ev_u w0 + n.toNatClampNeg := by
      show ev_u w + n.toNatClampNeg - ev_u w0 = _
      omega
    rw [e2, e3] at hk
    exact hk
  · obtain ⟨a1, a2, a3⟩ := ev_add_at w (100 + t) n.toNatClampNeg (fun _ => defaultValue (newarray.typeOf atype)) n.toNatClampNeg
    rw [a1, a2, a3]
    exact ⟨by omega, by rw [← hcA]; exact e1⟩
theorem ev_anew {index t : Nat} {C : String} {n : Int32} (hd : ev_d M.2.1 pc (.anewarray index) 3 pc') (hty : nm_at[t]? = some (.object C)) (hlk : Cond.classLink M.1.cls index C ∈ lw_tbl) (hw : Cond.arrayOver (.object C) ∈ lw_tbl) (hn : ¬ n < 0) (hbytes : n.toNatClampNeg * 4 ≤ 536870912) (hz : ev_z w + 1 ≤ ev_b G + 601024) (hu : ev_u w + n.toNatClampNeg ≤ 7293034) (kk : ev_E G M d pc' L (.ref (ev_z w) :: st) (ev_add w (100 + t) n.toNatClampNeg (fun _ => .null) n.toNatClampNeg) P) : ev_E G M d pc L (.int n :: st) w P := by
  obtain ⟨hd, rfl⟩ := hd
  intro R s m args below meth c' w0 H locs ls X O hH hl
  obtain ⟨-, -, -, -, -, -, -, -, -, -, -, -, r1, r2, -⟩ := id X
  obtain ⟨o1, o2, o3, o4, o5⟩ := id O
  have hH1 := hH.1
  have hover : (Cond.arrayOver (.object C)).before args s = true := va_AO.use (va_AO.moved X.2.2.2.1.alike (va_AO.of (X.2.2.2.2.1 _ hw)))
  refine W.anew X.1 X.2.1 (ev_own X) (ev_word X hlk rfl _) hover rfl hd rfl hn hbytes (by omega) (by omega) fun cA kA comp f1 f2 f3 f4 => ?_
  generalize hHH : H.push ({ cls := cA, slots := Array.replicate n.toNatClampNeg .null, vm := .none } : Cell) = H1
  have z1 : H1.size = H.size + 1 := by rw [← hHH, Array.size_push]
  have e1 : H1[H.size]? = some (arrV cA n.toNatClampNeg (fun _ => .null)) := by rw [← hHH, Array.getElem?_push_size, ← arrV_new]
  have o1 : ∀ q : Nat, q < H.size → H1[q]? = H[q]? := fun q hq => by rw [← hHH, Array.getElem?_push, if_neg (Nat.ne_of_lt hq)]
  have hcA : cA = (ev_D G).1 (100 + t) := by
    obtain ⟨-, -, -, -, -, h4⟩ := ((ev_Ks X).2 t _ hty).2
    exact Option.some.inj (f1.symm.trans h4)
  have hk := kk R s m args below meth c' w0 H1 locs ls X (O.new hz hu) (hH.new z1 o1 (Or.inl ?_)) hl
  · have e2 : ev_z (ev_add w (100 + t) n.toNatClampNeg (fun _ => .null) n.toNatClampNeg) - ev_z w0 = ev_z w - ev_z w0 + 1 := by
      show ev_z w + 1 - ev_z w0 = _
      omega
    have e3 : ev_u (ev_add w (100 + t) n.toNatClampNeg (fun _ => .null) n.toNatClampNeg) - ev_u w0 = ev_u w - ev_u w0 + n.toNatClampNeg := by
      show ev_u w + n.toNatClampNeg - ev_u w0 = _
      omega
    rw [e2, e3] at hk
    rw [hH1]
    exact hk
  · obtain ⟨a1, a2, a3⟩ := ev_add_at w (100 + t) n.toNatClampNeg (fun _ => .null) n.toNatClampNeg
    rw [a1, a2, a3]
    exact ⟨by omega, by rw [← hcA, ← hH1]; exact e1⟩
/-- checkcast of an object to its own class -/
theorem ev_cast {index c a : Nat} {q : vw_C} (hd : ev_d M.2.1 pc (.checkcast index) 3 pc') (hlk : Cond.classLink M.1.cls index q.1 ∈ lw_tbl) (ha : ev_b G ≤ a ∧ a < ev_z w) (ht : ev_g w a = c) (hc : nm_cl[c]? = some q) (kk : ev_E G M d pc' L (.ref a :: st) w P) : ev_E G M d pc L (.ref a :: st) w P := by
  obtain ⟨hd, rfl⟩ := hd
  intro R s m args below meth c' w0 H locs ls X O hH hl
  obtain ⟨cellV, g1, g2, g3, -⟩ := hH.obj ha ht hc
  have hcls := ((ev_Ks X).1 c q hc).2
  exact va_castS X.1 X.2.1 (ev_own X) (ev_word X hlk rfl _) hcls ⟨cellV, g1, by rw [g3]; rfl, by rw [g2]; exact hcls.1⟩ hd (kk R s m args below meth c' w0 H locs ls X O hH hl)
/-- checkcast of an array to its own class -/
theorem ev_castA {index t a : Nat} {C : String} (hd : ev_d M.2.1 pc (.checkcast index) 3 pc') (hlk : Cond.classLink M.1.cls index ("[" ++ (FieldType.object C).toString) ∈ lw_tbl) (ha : ev_b G ≤ a ∧ a < ev_z w) (ht : ev_g w a = 100 + t) (hty : nm_at[t]? = some (.object C)) (kk : ev_E G M d pc' L (.ref a :: st) w P) : ev_E G M d pc L (.ref a :: st) w P := by
  obtain ⟨hd, rfl⟩ := hd
  intro R s m args below meth c' w0 H locs ls X O hH hl T hT S
  obtain ⟨-, -, -, -, -, h4⟩ := ((ev_Ks X).2 t _ hty).2
  obtain ⟨vm', X', stp⟩ := S.checkcastYes X.1 (ev_own X) (ev_word X hlk rfl _) (by rw [hT]; exact hH.arr ha ht) rfl h4 (va_asg _ _) (g := F0 m pc ls (.ref a :: st)) rfl rfl (by rw [X.2.1]; exact hd)
  obtain ⟨t2, a1, b1⟩ := kk R s m args below meth c' w0 H locs ls X O hH hl (T.setVm vm') hT X'
  exact ⟨t2, stp t2 a1, b1⟩
/-- two references are compared -/
theorem ev_acmpR_ne {x y : Nat} (hd : ev_j M.2.1 pc (fun o => .if_acmp .ne o) pc' tgt) (kt : ¬ x = y → ev_E G M d tgt L st w P) (kf : x = y → ev_E G M d pc' L st w P) : ev_E G M d pc L (.ref y :: .ref x :: st) w P :=
  ev_acmp_ne (rx := some x) (ry := some y) hd (fun h => kt fun e => h (by rw [e])) (fun h => kf (Option.some.inj h))
theorem ev_acmpR_eq {x y : Nat} (hd : ev_j M.2.1 pc (fun o => .if_acmp .eq o) pc' tgt) (kt : x = y → ev_E G M d tgt L st w P) (kf : ¬ x = y → ev_E G M d pc' L st w P) : ev_E G M d pc L (.ref y :: .ref x :: st) w P :=
  ev_acmp_eq (rx := some x) (ry := some y) hd (fun h => kt (Option.some.inj h)) (fun h => kf fun e => h (by rw [e]))
end EvH
end
section
/-! rows that end a method, call one, throw, catch -/
theorem ev_weaken {tb : Tables} {e : Env} {mid below : List Frame} {a b : State} (h : Steps tb e (mid ++ below) a b) : Steps tb e below a b := by
  obtain ⟨n, hn, hw⟩ := h
  exact ⟨n, hn, fun k hk => (hw k hk).weaken⟩
section EvC
variable {G : ev_gx} {M : ev_mx} {d pc pc' tgt : Nat} {L : List (Nat × Value)} {st : List Value} {w : ev_wd} {P : ev_r → ev_wd → Prop}
theorem ev_iret {v : Int32} {ty : FieldType} (hd : ev_d M.2.1 pc .ireturn 1 pc') (hr : M.2.2.2.1 = some ty) (hn : narrow ty (.int v) = .int v) (h : P (.inl (some (.int v))) w) : ev_E G M d pc L [.int v] w P := by
  obtain ⟨hdg, -⟩ := hd
  intro R s m args below meth c w0 H locs ls X O hH hl T hT S
  obtain ⟨hexec, hb, -, -, -, -, -, hret0, hlocks, -⟩ := id X
  have hr' : meth.sig.returnType = some ty := hret0.trans hr
  obtain ⟨fs, hret, hrun, hended, hW, hframe⟩ := S.leave (v := some (.int v)) (fun h => by rw [hr'] at h; cases h)
  have hmeth' : T.vm.method? m = some meth := S.method'
  refine ⟨T.setFrames fs, ?_, .inl (some (.int v)), w, locs, h, hrun, hended, ?_, hW, hframe, O⟩
  · jvm_step S.here [S.here.top, hexec, hb, hdg, hmeth', hr', hn]
    (try refine ⟨rfl, ?_⟩); (try refine ⟨rfl, ?_⟩)
    first | (intro acts; rw [hret _ acts rfl rfl rfl]) | rw [hret _ _ rfl rfl rfl]
    exact Steps.refl _
  · show ev_Hr G w T.heap
    rw [hT]; exact hH
theorem ev_lret {v : Int64} (hd : ev_d M.2.1 pc .lreturn 1 pc') (hr : M.2.2.2.1 = some .long) (h : P (.inl (some (.long v))) w) : ev_E G M d pc L [.long v] w P := by
  obtain ⟨hdg, -⟩ := hd
  intro R s m args below meth c w0 H locs ls X O hH hl T hT S
  obtain ⟨hexec, hb, -, -, -, -, -, hret0, hlocks, -⟩ := id X
  have hr' : meth.sig.returnType = some .long := hret0.trans hr
  obtain ⟨fs, hret, hrun, hended, hW, hframe⟩ := S.leave (v := some (.long v)) (fun h => by rw [hr'] at h; cases h)
  have hmeth' : T.vm.method? m = some meth := S.method'
  refine ⟨T.setFrames fs, ?_, .inl (some (.long v)), w, locs, h, hrun, hended, ?_, hW, hframe, O⟩
  · jvm_step S.here [S.here.top, hexec, hb, hdg, hmeth', hr', narrow]
    (try refine ⟨rfl, ?_⟩); (try refine ⟨rfl, ?_⟩)
    first | (intro acts; rw [hret _ acts rfl rfl rfl]) | rw [hret _ _ rfl rfl rfl]
    exact Steps.refl _
  · show ev_Hr G w T.heap
    rw [hT]; exact hH
theorem ev_vret (hd : ev_d M.2.1 pc .return_ 1 pc') (hr : M.2.2.2.1 = none) (h : P (.inl none) w) : ev_E G M d pc L [] w P := by
  obtain ⟨hdg, -⟩ := hd
  intro R s m args below meth c w0 H locs ls X O hH hl T hT S
  obtain ⟨hexec, hb, -, -, -, -, -, hret0, hlocks, -⟩ := id X
  have hr' : meth.sig.returnType = none := hret0.trans hr
  obtain ⟨fs, hret, hrun, hended, hW, hframe⟩ := S.leave (v := none) (fun _ => rfl)
  have hmeth' : T.vm.method? m = some meth := S.method'
  refine ⟨T.setFrames fs, ?_, .inl none, w, locs, h, hrun, hended, ?_, hW, hframe, O⟩
  · jvm_step S.here [S.here.top, hexec, hb, hdg, hmeth', hr']
    (try refine ⟨rfl, ?_⟩); (try refine ⟨rfl, ?_⟩)
    first | (intro acts; rw [hret _ acts rfl rfl rfl]) | rw [hret _ _ rfl rfl rfl]
    exact Steps.refl _
  · show ev_Hr G w T.heap
    rw [hT]; exact hH
theorem ev_aret {v : Value} {rt : FieldType} (hd : ev_d M.2.1 pc .areturn 1 pc') (hr : M.2.2.2.1 = some rt) (hrt : (∃ n, rt = .object n) ∨ ∃ t, rt = .array t) (hv : v = .null ∨ ∃ a, v = .ref a) (h : P (.inl (some v)) w) : ev_E G M d pc L [v] w P := by
  obtain ⟨hdg, -⟩ := hd
  intro R s m args below meth c w0 H locs ls X O hH hl T hT S
  obtain ⟨hexec, hb, -, -, -, -, -, hret0, hlocks, -⟩ := id X
  have hr' : meth.sig.returnType = some rt := hret0.trans hr
  obtain ⟨fs, hret, hrun, hended, hW, hframe⟩ := S.leave (v := some v) (fun h => by rw [hr'] at h; cases h)
  have hmeth' : T.vm.method? m = some meth := S.method'
  refine ⟨T.setFrames fs, ?_, .inl (some v), w, locs, h, hrun, hended, ?_, hW, hframe, O⟩
  · rcases hrt with ⟨n, rfl⟩ | ⟨t, rfl⟩ <;> rcases hv with rfl | ⟨a, rfl⟩ <;>
      (jvm_step S.here [S.here.top, hexec, hb, hdg, hmeth', hr']
       (try refine ⟨rfl, ?_⟩); (try refine ⟨rfl, ?_⟩)
       first | (intro acts; rw [hret _ acts rfl rfl rfl]) | rw [hret _ _ rfl rfl rfl]
       exact Steps.refl _)
  · show ev_Hr G w T.heap
    rw [hT]; exact hH
/-- the word that says a method's code -/
def ev_code (M : ev_mx) : Cond := match M.2.2.2.2 with
  | [] => .code M.1 M.2.1 M.2.2.1 M.2.2.2.1
  | h :: t => .codeWith M.1 M.2.1 M.2.2.1 M.2.2.2.1 (h :: t)
theorem ev_code_spec {M : ev_mx} {a : Array Value} {s : State} (h : (ev_code M).before a s = true) : ∃ m meth c, s.methodNamed? M.1 = some m ∧ s.vm.method? m = some meth ∧ meth.code = some c ∧ c.code = M.2.1 ∧ c.maxLocals = M.2.2.1 ∧
    c.exceptionTable.toList.map (fun h => (h.startPc, h.endPc, h.handlerPc, h.catchType)) = M.2.2.2.2 ∧ meth.sig.returnType = M.2.2.2.1 ∧ meth.locks = false ∧ parseMethodDescriptor M.1.desc = some meth.sig := by
  obtain ⟨y, cc, ml, rt, hs⟩ := M
  cases hs with
  | nil =>
    obtain ⟨m, hm⟩ := Cond.code_named h
    obtain ⟨meth, c, h1, h2, h3, h4, h5, h6, h7, h8⟩ := Cond.code_spec hm h
    refine ⟨m, meth, c, hm, h1, h2, h3, h4, ?_, h5, h6, h8⟩
    have h9 : c.exceptionTable = #[] := by simpa using h7
    rw [h9]; rfl
  | cons q t => exact Cond.codeWith_spec h
theorem ev_code_good (M : ev_mx) : goodWord (ev_code M) = true := by
  obtain ⟨y, cc, ml, rt, hs⟩ := M
  cases hs <;> rfl
theorem ev_nest {R : Room} {s : State} {m : MethodId} {meth : Method} {c : Code} {w0 : ev_wd} (X : ev_cx G M d R s m meth c w0) {own host : String} {index : Nat} {y : MethodName} (h : Cond.methodLinkNest own index y host ∈ lw_tbl) (a' : Array Value) : (Cond.methodLinkNest own index y host).before a' s = true :=
  va_Nw.use rfl (va_Nw.warmM X.2.2.2.1 (va_Nw.of rfl (X.2.2.2.2.1 _ h)))
/-- into a method and out of it again -/
theorem ev_through {R : Room} {s : State} {m : MethodId} {args : Array Value} {below : List Frame} {meth : Method} {c : Code} {w0 : ev_wd} {T : State} {locs : List Loc} {ls : Array Slot}
    (X : ev_cx G M (d + 1) R s m meth c w0) (O : ev_ok G w0 w locs) (hH : ev_Hr G w T.heap) (hl : lv_has ls M.2.2.1 L) (S : Stand G.1 G.2.1 G.2.2.1 R s m args below meth c T locs (ev_z w - ev_z w0) (ev_u w - ev_u w0))
    {M' : ev_mx} (hcode : ev_code M' ∈ lw_tbl) (hplain : plainFor M'.1 = true) {mk : MethodId} (hnamed : s.methodNamed? M'.1 = some mk) {ig : Instr} (hdg : decode M.2.1 pc = .ok (ig, 3)) (As : List Value)
    (hst : (st.map fun v => v.category).sum + M'.2.2.1 ≤ 28) (hlen : (lg_sl As).length ≤ M'.2.2.1) {P' : ev_r → ev_wd → Prop} (hc : ev_E G M' d 0 (lv_args 0 As) [] w P')
    (kn : ∀ v w', P' (.inl v) w' → ev_z w ≤ ev_z w' → ev_u w ≤ ev_u w' → ev_E G M (d + 1) (pc + 3) L (v.toList ++ st) w' P)
    (kt : ∀ x w', P' (.inr x) w' → ev_z w ≤ ev_z w' → ev_u w ≤ ev_u w' → ev_T G M (d + 1) pc L x w' P) :
    ∃ t, (∀ acts, Steps G.1.tables G.2.2.1 below (doInvoke G.2.2.1 (T.setTop (F0 m pc ls st)) acts mk As.toArray).1 t) ∧ ev_Q G s below w0 P t := by
  obtain ⟨x1, x2, x3, x4, x5, x6, x7, x8, x9, x10, x11, x12, x13, x14, x15⟩ := id X
  obtain ⟨o1, o2, o3, o4, o5⟩ := id O
  obtain ⟨mk', methk, ck, n1, n2, n3, n4, n5, n6, n7, n8, n9⟩ := ev_code_spec (ev_word X hcode (ev_code_good M') args)
  cases hnamed.symm.trans n1
  have hmT : T.vm.method? mk = some methk := by rw [S.warmed.alike.method?]; exact n2
  have hnT : T.methodNamed? M'.1 = some mk := S.named hnamed
  have hpk : T.plainMethod mk := State.plainMethod.of_named hplain hnT hmT
  have hdg' : decode c.code (F0 m pc ls st).pc = .ok (ig, 3) := by rw [x2]; exact hdg
  have hmr : (F0 m pc ls st).monitorRoom = 0 := rfl
  have hR : (39 : Nat) * (d + 1) = 39 * d + 39 := by omega
  obtain ⟨Y, hdo⟩ := S.into (g := F0 m pc ls st) rfl (hl.1.trans x7.symm) hdg' As.toArray (R' := { frames := d, locals := 39 * d, cells := ev_b G + 601024 - ev_z w, slots := 7293034 - ev_u w }) hmT n3 n8 hpk
    (by show d + 1 ≤ R.frames; exact x11)
    (by rw [hmr, n5]; show 2 * 0 + (st.map fun v => v.category).sum + (M'.2.2.1 + 11) + 39 * d ≤ R.locals; omega)
    (by show _ + (ev_b G + 601024 - ev_z w) ≤ R.cells; omega) (by show _ + (7293034 - ev_u w) ≤ R.slots; omega)
  have hW1 : (ev_s0 G).WarmedH (T.calling (F0 m pc ls st) mk As.toArray).vm := State.WarmedH.trans x4 S.warmed
  have cx' : ev_cx G M' d { frames := d, locals := 39 * d, cells := ev_b G + 601024 - ev_z w, slots := 7293034 - ev_u w } (T.calling (F0 m pc ls st) mk As.toArray) mk methk ck w :=
    ⟨x1, n4, hnT, hW1, x5, x6, n5, n7, n8, n6, Nat.le_refl _, Nat.le_refl _, by show _ ≤ (ev_b G + 601024 - ev_z w) + ev_z w; omega, by show _ ≤ (7293034 - ev_u w) + ev_u w; omega, (name_of_methodNamed hnamed n2).1⟩
  obtain ⟨t, h1, r, w1, L1, h2, h3, h4, h5, h6, h7, h8⟩ := hc _ _ mk As.toArray (.java (F0 m pc ls st) :: below) methk ck w T.heap [] _ cx' ⟨fun q hq => (by cases hq), Nat.le_refl _, Nat.le_refl _, o4, o5⟩ hH (lv_entry As hlen) ((T.setTop (F0 m pc ls st)).pushFrame (.java (entryFrame mk As.toArray ck.maxLocals))) rfl (by rw [Nat.sub_self, Nat.sub_self]; exact Y)
  obtain ⟨p1, p2, p3, p4, p5⟩ := id h8
  have h1' : ∀ acts, Steps G.1.tables G.2.2.1 below (doInvoke G.2.2.1 (T.setTop (F0 m pc ls st)) acts mk As.toArray).1 t := by
    intro acts
    rw [hdo acts, n5, lg_entry_eq]
    rw [n5, lg_entry_eq] at h1
    exact ev_weaken (mid := [.java (F0 m pc ls st)]) h1
  have ok1 : ev_ok G w0 w1 (locs ++ L1) := ⟨fun q hq => by
    rcases List.mem_append.mp hq with h | h
    · exact o1 q h
    · exact p1 q h, Nat.le_trans o2 p2, Nat.le_trans o3 p3, p4, p5⟩
  have ec : ev_z w - ev_z w0 + (ev_z w1 - ev_z w) = ev_z w1 - ev_z w0 := by omega
  have es : ev_u w - ev_u w0 + (ev_u w1 - ev_u w) = ev_u w1 - ev_u w0 := by omega
  cases r with
  | inl v =>
    obtain ⟨T', X', hW', -, ht⟩ := S.outOf (g := F0 m pc ls st) rfl hdg' h4 h6 h7
    have hheap : T'.heap = t.heap := by rw [ht]; rfl
    rw [ec, es] at X'
    obtain ⟨t2, k1, k2⟩ := kn v w1 h2 p2 p3 R s m args below meth c w0 T'.heap (locs ++ L1) ls X ok1 (by rw [hheap]; exact h5) hl T' rfl X'
    exact ⟨t2, fun acts => (h1' acts).trans (by rw [ht]; exact k1), k2⟩
  | inr x =>
    obtain ⟨T', X', hW', -, ht⟩ := S.outOfThrown (g := F0 m pc ls st) rfl h4 h6 h7
    have hheap : T'.heap = t.heap := by rw [ht]; rfl
    rw [ec, es] at X'
    obtain ⟨t2, k1, k2⟩ := kt x w1 h2 p2 p3 R s m args below meth c w0 T' (locs ++ L1) ls st X ok1 (by rw [hheap]; exact h5) hl X'
    exact ⟨t2, fun acts => (h1' acts).trans (by rw [ht]; exact k1), k2⟩
/-- what stands fast of a callee: its code, its name, how many it takes -/
def ev_ms (M' : ev_mx) (n : Nat) : Prop := ev_code M' ∈ lw_tbl ∧ plainFor M'.1 = true ∧ (M'.1.cls ≠ "java/lang/invoke/MethodHandle" ∧ M'.1.cls ≠ "java/lang/invoke/VarHandle") ∧ (parseMethodDescriptor M'.1.desc).map (fun d => d.parameters.length) = some n
/-- the pool's entry is a static method, an instance method (by which class's objects), a constructor; own or a nest mate's -/
def ev_Is (own : String) (index : Nat) (M' : ev_mx) : Prop := (Cond.methodLink own index M'.1 ∈ lw_tbl ∨ ∃ host, Cond.methodLinkNest own index M'.1 host ∈ lw_tbl) ∧ Cond.static M'.1 ∈ lw_tbl ∧ Cond.initialized M'.1.cls ∈ lw_tbl
def ev_Iv (own : String) (index c : Nat) (M' : ev_mx) : Prop := ∃ q : vw_C, nm_cl[c]? = some q ∧ (Cond.methodLink own index M'.1 ∈ lw_tbl ∨ ∃ host, Cond.methodLinkNest own index M'.1 host ∈ lw_tbl) ∧ Cond.instanceMethod M'.1 ∈ lw_tbl ∧ Cond.selects q.1 M'.1 M'.1 ∈ lw_tbl
def ev_Ii (own : String) (index : Nat) (M' : ev_mx) : Prop := (Cond.methodLink own index M'.1 ∈ lw_tbl ∨ ∃ host, Cond.methodLinkNest own index M'.1 host ∈ lw_tbl) ∧ Cond.instanceMethod M'.1 ∈ lw_tbl ∧ M'.1.name = "<init>" ∧ M'.2.2.2.1 = none ∧ M'.2.2.2.2 = []
theorem ev_params {M' : ev_mx} {n : Nat} {sig : MethodDescriptor} (h : (parseMethodDescriptor M'.1.desc).map (fun d => d.parameters.length) = some n) (hs : parseMethodDescriptor M'.1.desc = some sig) : n = sig.parameters.length := by
  rw [hs] at h
  exact (Option.some.inj h).symm
theorem ev_calls {index n : Nat} {M' : ev_mx} (As : List Value) {P' : ev_r → ev_wd → Prop} (hd : ev_d M.2.1 pc (.invokestatic index) 3 pc') (hm : ev_ms M' n) (hi : ev_Is M.1.cls index M') (hn : As.length = n) (hst : (st.map fun v => v.category).sum + M'.2.2.1 ≤ 28) (hlen : (lg_sl As).length ≤ M'.2.2.1)
    (hc : ev_E G M' d 0 (lv_args 0 As) [] w P') (kn : ∀ v w', P' (.inl v) w' → ev_z w ≤ ev_z w' → ev_u w ≤ ev_u w' → ev_E G M (d + 1) pc' L (v.toList ++ st) w' P) (kt : ∀ x w', P' (.inr x) w' → ev_z w ≤ ev_z w' → ev_u w ≤ ev_u w' → ev_T G M (d + 1) pc L x w' P) : ev_E G M (d + 1) pc L (As.reverse ++ st) w P := by
  obtain ⟨hdg, rfl⟩ := hd
  obtain ⟨hcode, hplain, hy, hpar⟩ := hm
  obtain ⟨hlk, hstat, hinit⟩ := hi
  intro R s m args below meth c w0 H locs ls X O hH hl T hT S
  obtain ⟨mk, methk, ck, n1, n2, n3, n4, n5, n6, n7, n8, n9⟩ := ev_code_spec (ev_word X hcode (ev_code_good M') args)
  obtain ⟨kP, hkP, -⟩ := className_of_methodNamed n1
  have hinitP : kP.init = .initialized := Cond.initialized_spec (findClass_of_methodNamed n1) hkP (ev_word X hinit rfl args)
  have hstatic : methk.isStatic = true := Cond.static_spec n1 n2 (ev_word X hstat rfl args)
  have hdg' : decode c.code (F0 m pc ls (As.reverse ++ st)).pc = .ok (.invokestatic index, 3) := by rw [X.2.1]; exact hdg
  have hln : As.length = methk.sig.parameters.length := hn.trans (ev_params hpar n9)
  have hstep : ∃ vm', Stand G.1 G.2.1 G.2.2.1 R s m args below meth c (T.setVm vm') locs (ev_z w - ev_z w0) (ev_u w - ev_u w0) ∧ ∀ target, (∀ acts, Steps G.1.tables G.2.2.1 below (doInvoke G.2.2.1 ((T.setVm vm').setTop { F0 m pc ls (As.reverse ++ st) with stack := st }) acts mk As.toArray).1 target) → Steps G.1.tables G.2.2.1 below (T.setTop (F0 m pc ls (As.reverse ++ st))) target := by
    rcases hlk with h | ⟨host, h⟩
    · exact S.invokestatic X.1 (ev_own X) (ev_word X h rfl args) n1 n2 hstatic hkP hinitP hy rfl hln rfl hdg'
    · exact S.invokestaticNest X.1 (ev_own X) (ev_nest X h args) n1 n2 hstatic hkP hinitP hy rfl hln rfl hdg'
  obtain ⟨vm', S', hs⟩ := hstep
  obtain ⟨t, t1, t2⟩ := ev_through X O (T := T.setVm vm') (by show ev_Hr G w T.heap; rw [hT]; exact hH) hl S' hcode hplain n1 hdg As hst hlen hc kn kt
  exact ⟨t, hs t t1, t2⟩
theorem ev_callv {index c b n : Nat} {M' : ev_mx} (As : List Value) {P' : ev_r → ev_wd → Prop} (hd : ev_d M.2.1 pc (.invokevirtual index) 3 pc') (hm : ev_ms M' n) (hi : ev_Iv M.1.cls index c M') (hb : ev_b G ≤ b ∧ b < ev_z w) (ht : ev_g w b = c) (hn : As.length = n) (hst : (st.map fun v => v.category).sum + M'.2.2.1 ≤ 28) (hlen : (lg_sl (.ref b :: As)).length ≤ M'.2.2.1)
    (hc : ev_E G M' d 0 (lv_args 0 (.ref b :: As)) [] w P') (kn : ∀ v w', P' (.inl v) w' → ev_z w ≤ ev_z w' → ev_u w ≤ ev_u w' → ev_E G M (d + 1) pc' L (v.toList ++ st) w' P) (kt : ∀ x w', P' (.inr x) w' → ev_z w ≤ ev_z w' → ev_u w ≤ ev_u w' → ev_T G M (d + 1) pc L x w' P) : ev_E G M (d + 1) pc L (As.reverse ++ .ref b :: st) w P := by
  obtain ⟨hdg, rfl⟩ := hd
  obtain ⟨hcode, hplain, hy, hpar⟩ := hm
  obtain ⟨q, hq, hlk, hinst, hsel⟩ := hi
  intro R s m args below meth c' w0 H locs ls X O hH hl T hT S
  obtain ⟨mk, methk, ck, n1, n2, n3, n4, n5, n6, n7, n8, n9⟩ := ev_code_spec (ev_word X hcode (ev_code_good M') args)
  obtain ⟨mk2, methM, m1, m2, hstM, habM⟩ := Cond.instanceMethod_spec (ev_word X hinst rfl args)
  cases n1.symm.trans m1
  cases n2.symm.trans m2
  obtain ⟨cellB, g1, g2, g3, -⟩ := hH.obj hb ht hq
  have hcls : s.vm.findClass q.1 = some cellB.cls := by rw [g2]; exact ((ev_Ks X).1 c q hq).2.1
  obtain ⟨c2, r2, m2, q1, q2, q3, q4, kP, hkP, hkPi⟩ := Cond.selects_spec (ev_word X hsel rfl args)
  cases hcls.symm.trans q1
  cases (State.methodFound?_of_named n1 hy).symm.trans q2
  cases n1.symm.trans q3
  have hselP : selectMethod G.2.2.1.platform s.vm cellB.cls mk = .method mk := by rw [Launch.admits_selectMethod S.admits]; exact q4
  have hdg' : decode c'.code (F0 m pc ls (As.reverse ++ .ref b :: st)).pc = .ok (.invokevirtual index, 3) := by rw [X.2.1]; exact hdg
  have hln : As.length = methk.sig.parameters.length := hn.trans (ev_params hpar n9)
  have hcell : T.heap[b]? = some cellB := by rw [hT]; exact g1
  have hobj : ∀ z, cellB.vm ≠ .statics z := fun z h => by rw [g3] at h; cases h
  have hstep : ∃ vm', Stand G.1 G.2.1 G.2.2.1 R s m args below meth c' (T.setVm vm') locs (ev_z w - ev_z w0) (ev_u w - ev_u w0) ∧ ∀ target, (∀ acts, Steps G.1.tables G.2.2.1 below (doInvoke G.2.2.1 ((T.setVm vm').setTop { F0 m pc ls (As.reverse ++ .ref b :: st) with stack := st }) acts mk (Value.ref b :: As).toArray).1 target) → Steps G.1.tables G.2.2.1 below (T.setTop (F0 m pc ls (As.reverse ++ .ref b :: st))) target := by
    rcases hlk with h | ⟨host, h⟩
    · exact S.invokevirtual X.1 (ev_own X) (ev_word X h rfl args) n1 n2 hstM hkP hkPi hy hcell hobj hselP n2 habM hkP hkPi rfl hln rfl hdg'
    · exact S.invokevirtualNest X.1 (ev_own X) (ev_nest X h args) n1 n2 hstM hkP hkPi hy hcell hobj hselP n2 habM hkP hkPi rfl hln rfl hdg'
  obtain ⟨vm', S', hs⟩ := hstep
  obtain ⟨t, t1, t2⟩ := ev_through X O (T := T.setVm vm') (by show ev_Hr G w T.heap; rw [hT]; exact hH) hl S' hcode hplain n1 hdg (.ref b :: As) hst hlen hc kn kt
  exact ⟨t, hs t t1, t2⟩
theorem ev_calli {index b n : Nat} {M' : ev_mx} (As : List Value) {P' : ev_r → ev_wd → Prop} (hd : ev_d M.2.1 pc (.invokespecial index) 3 pc') (hm : ev_ms M' n) (hi : ev_Ii M.1.cls index M') (hn : As.length = n) (hst : (st.map fun v => v.category).sum + M'.2.2.1 ≤ 28) (hlen : (lg_sl (.ref b :: As)).length ≤ M'.2.2.1)
    (hc : ev_E G M' d 0 (lv_args 0 (.ref b :: As)) [] w P') (kn : ∀ v w', P' (.inl v) w' → ev_z w ≤ ev_z w' → ev_u w ≤ ev_u w' → ev_E G M (d + 1) pc' L (v.toList ++ st) w' P) (kt : ∀ x w', P' (.inr x) w' → ev_z w ≤ ev_z w' → ev_u w ≤ ev_u w' → ev_T G M (d + 1) pc L x w' P) : ev_E G M (d + 1) pc L (As.reverse ++ .ref b :: st) w P := by
  obtain ⟨hdg, rfl⟩ := hd
  obtain ⟨hcode, hplain, hy, hpar⟩ := hm
  obtain ⟨hlk, hinst, hinitn, hvoid, hnoh⟩ := hi
  intro R s m args below meth c' w0 H locs ls X O hH hl T hT S
  obtain ⟨mk, methk, ck, n1, n2, n3, n4, n5, n6, n7, n8, n9⟩ := ev_code_spec (ev_word X hcode (ev_code_good M') args)
  have hcw : (Cond.code M'.1 M'.2.1 M'.2.2.1 none).before args s = true := by
    have h := ev_word X hcode (ev_code_good M') args
    unfold ev_code at h
    rw [hnoh, hvoid] at h
    exact h
  have hdg' : decode c'.code (F0 m pc ls (As.reverse ++ .ref b :: st)).pc = .ok (.invokespecial index, 3) := by rw [X.2.1]; exact hdg
  have hln : ∀ sig, parseMethodDescriptor M'.1.desc = some sig → As.length = sig.parameters.length := fun sig h => hn.trans (ev_params hpar h)
  have hpl : G.2.2.1.platform.magicAccessors = ({} : Platform).magicAccessors := by rw [S.admits.platform]
  have hstep : ∃ vm', Stand G.1 G.2.1 G.2.2.1 R s m args below meth c' (T.setVm vm') locs (ev_z w - ev_z w0) (ev_u w - ev_u w0) ∧ ∀ target, (∀ acts, Steps G.1.tables G.2.2.1 below (doInvoke G.2.2.1 ((T.setVm vm').setTop { F0 m pc ls (As.reverse ++ .ref b :: st) with stack := st }) acts mk (Value.ref b :: As).toArray).1 target) → Steps G.1.tables G.2.2.1 below (T.setTop (F0 m pc ls (As.reverse ++ .ref b :: st))) target := by
    rcases hlk with h | ⟨host, h⟩
    · obtain ⟨mk2, -, -, -, vm₁, hn2, -, -, -, -, -, -, -, hW₁, hs⟩ := Steps.initColdArgs (e := G.2.2.1) S.here X.1 S.warmed hpl (ev_own X) hinitn hy (ev_word X h rfl args) (ev_word X hinst rfl args) hcw (f := F0 m pc ls (As.reverse ++ .ref b :: st)) rfl hln rfl hdg'
      cases n1.symm.trans hn2
      exact ⟨vm₁, S.noted hW₁, hs⟩
    · obtain ⟨mk2, -, -, -, vm₁, hn2, -, -, -, -, -, -, -, hW₁, hs⟩ := Steps.initColdArgsNest (e := G.2.2.1) S.here X.1 S.warmed hpl (ev_own X) hinitn hy (ev_nest X h args) (ev_word X hinst rfl args) hcw (f := F0 m pc ls (As.reverse ++ .ref b :: st)) rfl hln rfl hdg'
      cases n1.symm.trans hn2
      exact ⟨vm₁, S.noted hW₁, hs⟩
  obtain ⟨vm', S', hs⟩ := hstep
  obtain ⟨t, t1, t2⟩ := ev_through X O (T := T.setVm vm') (by show ev_Hr G w T.heap; rw [hT]; exact hH) hl S' hcode hplain n1 hdg (.ref b :: As) hst hlen hc kn kt
  exact ⟨t, hs t t1, t2⟩
/-- Object's constructor -/
theorem ev_obji {index a : Nat} (hd : ev_d M.2.1 pc (.invokespecial index) 3 pc') (h1 : Cond.methodLink M.1.cls index Lib.objectInit ∈ lw_tbl) (h2 : Cond.instanceMethod Lib.objectInit ∈ lw_tbl) (h3 : Cond.code Lib.objectInit ⟨#[0xb1]⟩ 1 none ∈ lw_tbl) (hst : (st.map fun v => v.category).sum ≤ 27) (kk : ev_E G M (d + 1) pc' L st w P) : ev_E G M (d + 1) pc L (.ref a :: st) w P := by
  obtain ⟨hdg, rfl⟩ := hd
  intro R s m args below meth c' w0 H locs ls X O hH hl
  obtain ⟨x1, x2, x3, x4, x5, x6, x7, x8, x9, x10, x11, x12, x13, x14, x15⟩ := id X
  have hmr : (F0 m pc ls (.ref a :: st)).monitorRoom = 0 := rfl
  exact W.objInit x1 x2 (ev_own X) (ev_word X h1 rfl _) (ev_word X h2 rfl _) (ev_word X h3 rfl _) rfl (hl.1.trans x7.symm) rfl hdg (by omega) (by rw [hmr]; omega) (kk R s m args below meth c' w0 H locs ls X O hH hl)
/-- a throw that no handler of the method covers leaves it -/
theorem ev_leave {x : Nat} (hout : ∀ h ∈ M.2.2.2.2, (decide (h.1 ≤ pc) && decide (pc < h.2.1)) = false) (h : P (.inr x) w) : ev_T G M d pc L x w P := by
  intro R s m args below meth c w0 T locs ls st X O hH hl S
  obtain ⟨x1, x2, x3, x4, x5, x6, x7, x8, x9, x10, x11⟩ := id X
  have hout' : ∀ y ∈ c.exceptionTable.toList, covers y (F0 m pc ls st).pc = false := by
    intro y hy
    have := hout (y.startPc, y.endPc, y.handlerPc, y.catchType) (by rw [← x10]; exact List.mem_map.mpr ⟨y, hy, rfl⟩)
    exact this
  obtain ⟨a1, a2, a3, a4, a5⟩ := S.leaveThrown x (g := F0 m pc ls st) rfl rfl rfl hout' x9
  exact ⟨_, a1, .inr x, w, locs, h, a2, a3, hH, a4, a5, O⟩
theorem ev_athrow {x : Nat} (hd : ev_d M.2.1 pc .athrow 1 pc') (hout : ∀ h ∈ M.2.2.2.2, (decide (h.1 ≤ pc) && decide (pc < h.2.1)) = false) (h : P (.inr x) w) : ev_E G M d pc L (.ref x :: st) w P := by
  obtain ⟨hdg, -⟩ := hd
  intro R s m args below meth c w0 H locs ls X O hH hl T hT S
  obtain ⟨x1, x2, x3, x4, x5, x6, x7, x8, x9, x10, x11⟩ := id X
  have hout' : ∀ y ∈ c.exceptionTable.toList, covers y (F0 m pc ls (.ref x :: st)).pc = false := by
    intro y hy
    have := hout (y.startPc, y.endPc, y.handlerPc, y.catchType) (by rw [← x10]; exact List.mem_map.mpr ⟨y, hy, rfl⟩)
    exact this
  obtain ⟨a1, a2, a3, a4, a5⟩ := S.athrowLeaves x1 (g := F0 m pc ls (.ref x :: st)) rfl rfl rfl hout' rfl (by rw [x2]; exact hdg) x9
  exact ⟨_, a1, .inr x, w, locs, h, a2, a3, by show ev_Hr G w T.heap; rw [hT]; exact hH, a4, a5, O⟩
end EvC
end
