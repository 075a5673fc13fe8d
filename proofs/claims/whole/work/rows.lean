section
-- ===== PART A: goes FIRST, ahead of the names: the tables' words, and 'selects' of the private methods out of them =====
/-- a private method of a class that the tables say can be made, by its rows of tables_1 -/
def lw_okq (q : MethodName × Nat) : Prop := (q.1.cls ≠ "java/lang/invoke/MethodHandle" ∧ q.1.cls ≠ "java/lang/invoke/VarHandle") ∧ Cond.instantiable q.1.cls q.2 ∈ tables_1 ∧ Cond.privateMethod q.1 ∈ tables_1 ∧ Cond.instanceMethod q.1 ∈ tables_1
theorem lw_p0 : lw_okq (⟨"ThreeLinkPair", "arrive", "(II)I"⟩, 2) := ⟨⟨by decide +kernel, by decide +kernel⟩, List.mem_of_getElem? (i := 26) (by decide +kernel), List.mem_of_getElem? (i := 323) (by decide +kernel), List.mem_of_getElem? (i := 324) (by decide +kernel)⟩
theorem lw_p1 : lw_okq (⟨"java/util/ArrayList", "add", "(Ljava/lang/Object;[Ljava/lang/Object;I)V"⟩, 3) := ⟨⟨by decide +kernel, by decide +kernel⟩, List.mem_of_getElem? (i := 50) (by decide +kernel), List.mem_of_getElem? (i := 380) (by decide +kernel), List.mem_of_getElem? (i := 381) (by decide +kernel)⟩
theorem lw_p2 : lw_okq (⟨"java/util/ArrayList", "grow", "()[Ljava/lang/Object;"⟩, 3) := ⟨⟨by decide +kernel, by decide +kernel⟩, List.mem_of_getElem? (i := 50) (by decide +kernel), List.mem_of_getElem? (i := 384) (by decide +kernel), List.mem_of_getElem? (i := 385) (by decide +kernel)⟩
theorem lw_p3 : lw_okq (⟨"java/util/ArrayList", "grow", "(I)[Ljava/lang/Object;"⟩, 3) := ⟨⟨by decide +kernel, by decide +kernel⟩, List.mem_of_getElem? (i := 50) (by decide +kernel), List.mem_of_getElem? (i := 388) (by decide +kernel), List.mem_of_getElem? (i := 389) (by decide +kernel)⟩
theorem lw_p4 : lw_okq (⟨"java/util/ArrayList", "fastRemove", "([Ljava/lang/Object;I)V"⟩, 3) := ⟨⟨by decide +kernel, by decide +kernel⟩, List.mem_of_getElem? (i := 50) (by decide +kernel), List.mem_of_getElem? (i := 469) (by decide +kernel), List.mem_of_getElem? (i := 470) (by decide +kernel)⟩
theorem lw_p5 : lw_okq (⟨"java/lang/Throwable", "fillInStackTrace", "(I)Ljava/lang/Throwable;"⟩, 6) := ⟨⟨by decide +kernel, by decide +kernel⟩, List.mem_of_getElem? (i := 680) (by decide +kernel), List.mem_of_getElem? (i := 678) (by decide +kernel), List.mem_of_getElem? (i := 679) (by decide +kernel)⟩
theorem lw_p6 : lw_okq (⟨"ThreeLinkPairModel", "begin", "(I)V"⟩, 51) := ⟨⟨by decide +kernel, by decide +kernel⟩, List.mem_of_getElem? (i := 843) (by decide +kernel), List.mem_of_getElem? (i := 849) (by decide +kernel), List.mem_of_getElem? (i := 850) (by decide +kernel)⟩
theorem lw_p7 : lw_okq (⟨"ThreeLinkPairModel", "empty", "(I)V"⟩, 51) := ⟨⟨by decide +kernel, by decide +kernel⟩, List.mem_of_getElem? (i := 843) (by decide +kernel), List.mem_of_getElem? (i := 853) (by decide +kernel), List.mem_of_getElem? (i := 854) (by decide +kernel)⟩
theorem lw_p8 : lw_okq (⟨"ThreeLinkPairModel", "shift", "(I)I"⟩, 51) := ⟨⟨by decide +kernel, by decide +kernel⟩, List.mem_of_getElem? (i := 843) (by decide +kernel), List.mem_of_getElem? (i := 857) (by decide +kernel), List.mem_of_getElem? (i := 858) (by decide +kernel)⟩
theorem lw_p9 : lw_okq (⟨"ThreeLinkPairModel", "give", "(I)V"⟩, 51) := ⟨⟨by decide +kernel, by decide +kernel⟩, List.mem_of_getElem? (i := 843) (by decide +kernel), List.mem_of_getElem? (i := 861) (by decide +kernel), List.mem_of_getElem? (i := 862) (by decide +kernel)⟩
theorem lw_p10 : lw_okq (⟨"ThreeLinkPairModel", "missing", "(Z)Z"⟩, 51) := ⟨⟨by decide +kernel, by decide +kernel⟩, List.mem_of_getElem? (i := 843) (by decide +kernel), List.mem_of_getElem? (i := 1031) (by decide +kernel), List.mem_of_getElem? (i := 1032) (by decide +kernel)⟩
theorem lw_p11 : lw_okq (⟨"ThreeLinkPairModel", "come", "(II)V"⟩, 51) := ⟨⟨by decide +kernel, by decide +kernel⟩, List.mem_of_getElem? (i := 843) (by decide +kernel), List.mem_of_getElem? (i := 1035) (by decide +kernel), List.mem_of_getElem? (i := 1036) (by decide +kernel)⟩
theorem lw_p12 : lw_okq (⟨"ThreeLinkPairModel", "fall", "(I)V"⟩, 51) := ⟨⟨by decide +kernel, by decide +kernel⟩, List.mem_of_getElem? (i := 843) (by decide +kernel), List.mem_of_getElem? (i := 1043) (by decide +kernel), List.mem_of_getElem? (i := 1044) (by decide +kernel)⟩
theorem lw_p13 : lw_okq (⟨"ThreeLinkPairModel", "change", "(I)V"⟩, 51) := ⟨⟨by decide +kernel, by decide +kernel⟩, List.mem_of_getElem? (i := 843) (by decide +kernel), List.mem_of_getElem? (i := 1047) (by decide +kernel), List.mem_of_getElem? (i := 1048) (by decide +kernel)⟩
theorem lw_p14 : lw_okq (⟨"ThreeLinkPairModel", "put", "(II)V"⟩, 51) := ⟨⟨by decide +kernel, by decide +kernel⟩, List.mem_of_getElem? (i := 843) (by decide +kernel), List.mem_of_getElem? (i := 1051) (by decide +kernel), List.mem_of_getElem? (i := 1052) (by decide +kernel)⟩
theorem lw_p15 : lw_okq (⟨"ThreeLinkPairModel", "deliver", "(I)V"⟩, 51) := ⟨⟨by decide +kernel, by decide +kernel⟩, List.mem_of_getElem? (i := 843) (by decide +kernel), List.mem_of_getElem? (i := 1063) (by decide +kernel), List.mem_of_getElem? (i := 1064) (by decide +kernel)⟩
def lw_privs_1 : List (MethodName × Nat) := [(⟨"ThreeLinkPair", "arrive", "(II)I"⟩, 2), (⟨"java/util/ArrayList", "add", "(Ljava/lang/Object;[Ljava/lang/Object;I)V"⟩, 3), (⟨"java/util/ArrayList", "grow", "()[Ljava/lang/Object;"⟩, 3), (⟨"java/util/ArrayList", "grow", "(I)[Ljava/lang/Object;"⟩, 3), (⟨"java/util/ArrayList", "fastRemove", "([Ljava/lang/Object;I)V"⟩, 3), (⟨"java/lang/Throwable", "fillInStackTrace", "(I)Ljava/lang/Throwable;"⟩, 6), (⟨"ThreeLinkPairModel", "begin", "(I)V"⟩, 51), (⟨"ThreeLinkPairModel", "empty", "(I)V"⟩, 51), (⟨"ThreeLinkPairModel", "shift", "(I)I"⟩, 51), (⟨"ThreeLinkPairModel", "give", "(I)V"⟩, 51), (⟨"ThreeLinkPairModel", "missing", "(Z)Z"⟩, 51), (⟨"ThreeLinkPairModel", "come", "(II)V"⟩, 51), (⟨"ThreeLinkPairModel", "fall", "(I)V"⟩, 51), (⟨"ThreeLinkPairModel", "change", "(I)V"⟩, 51), (⟨"ThreeLinkPairModel", "put", "(II)V"⟩, 51), (⟨"ThreeLinkPairModel", "deliver", "(I)V"⟩, 51)]
theorem lw_r1 : ∀ q ∈ lw_privs_1, lw_okq q := List.forall_mem_cons.mpr ⟨lw_p0, List.forall_mem_cons.mpr ⟨lw_p1, List.forall_mem_cons.mpr ⟨lw_p2, List.forall_mem_cons.mpr ⟨lw_p3, List.forall_mem_cons.mpr ⟨lw_p4, List.forall_mem_cons.mpr ⟨lw_p5, List.forall_mem_cons.mpr ⟨lw_p6, List.forall_mem_cons.mpr ⟨lw_p7, List.forall_mem_cons.mpr ⟨lw_p8, List.forall_mem_cons.mpr ⟨lw_p9, List.forall_mem_cons.mpr ⟨lw_p10, List.forall_mem_cons.mpr ⟨lw_p11, List.forall_mem_cons.mpr ⟨lw_p12, List.forall_mem_cons.mpr ⟨lw_p13, List.forall_mem_cons.mpr ⟨lw_p14, List.forall_mem_cons.mpr ⟨lw_p15, fun _ h => absurd h List.not_mem_nil⟩⟩⟩⟩⟩⟩⟩⟩⟩⟩⟩⟩⟩⟩⟩⟩
theorem lw_p16 : lw_okq (⟨"ThreeLinkPairModel", "damaged", "(I)V"⟩, 51) := ⟨⟨by decide +kernel, by decide +kernel⟩, List.mem_of_getElem? (i := 843) (by decide +kernel), List.mem_of_getElem? (i := 1067) (by decide +kernel), List.mem_of_getElem? (i := 1068) (by decide +kernel)⟩
theorem lw_p17 : lw_okq (⟨"ThreeLinkPairModel", "status", "(II)V"⟩, 51) := ⟨⟨by decide +kernel, by decide +kernel⟩, List.mem_of_getElem? (i := 843) (by decide +kernel), List.mem_of_getElem? (i := 1071) (by decide +kernel), List.mem_of_getElem? (i := 1072) (by decide +kernel)⟩
theorem lw_p18 : lw_okq (⟨"ThreeLinkPairModel", "served", "(II)V"⟩, 51) := ⟨⟨by decide +kernel, by decide +kernel⟩, List.mem_of_getElem? (i := 843) (by decide +kernel), List.mem_of_getElem? (i := 1075) (by decide +kernel), List.mem_of_getElem? (i := 1076) (by decide +kernel)⟩
theorem lw_p19 : lw_okq (⟨"ThreeLinkPairModel", "isTaken", "(II)V"⟩, 51) := ⟨⟨by decide +kernel, by decide +kernel⟩, List.mem_of_getElem? (i := 843) (by decide +kernel), List.mem_of_getElem? (i := 1079) (by decide +kernel), List.mem_of_getElem? (i := 1080) (by decide +kernel)⟩
theorem lw_p20 : lw_okq (⟨"ThreeLinkPairModel", "takeOrder", "(IIII)V"⟩, 51) := ⟨⟨by decide +kernel, by decide +kernel⟩, List.mem_of_getElem? (i := 843) (by decide +kernel), List.mem_of_getElem? (i := 1083) (by decide +kernel), List.mem_of_getElem? (i := 1084) (by decide +kernel)⟩
theorem lw_p21 : lw_okq (⟨"ThreeLinkPairModel", "message", "(IIII)I"⟩, 51) := ⟨⟨by decide +kernel, by decide +kernel⟩, List.mem_of_getElem? (i := 843) (by decide +kernel), List.mem_of_getElem? (i := 1087) (by decide +kernel), List.mem_of_getElem? (i := 1088) (by decide +kernel)⟩
theorem lw_p22 : lw_okq (⟨"ThreeLinkPairModel", "say", "(II)V"⟩, 51) := ⟨⟨by decide +kernel, by decide +kernel⟩, List.mem_of_getElem? (i := 843) (by decide +kernel), List.mem_of_getElem? (i := 1091) (by decide +kernel), List.mem_of_getElem? (i := 1092) (by decide +kernel)⟩
theorem lw_p23 : lw_okq (⟨"ThreeLinkPairModel", "serving", "(I)I"⟩, 51) := ⟨⟨by decide +kernel, by decide +kernel⟩, List.mem_of_getElem? (i := 843) (by decide +kernel), List.mem_of_getElem? (i := 1095) (by decide +kernel), List.mem_of_getElem? (i := 1096) (by decide +kernel)⟩
theorem lw_p24 : lw_okq (⟨"ThreeLinkPairModel", "settle", "(II)V"⟩, 51) := ⟨⟨by decide +kernel, by decide +kernel⟩, List.mem_of_getElem? (i := 843) (by decide +kernel), List.mem_of_getElem? (i := 1099) (by decide +kernel), List.mem_of_getElem? (i := 1100) (by decide +kernel)⟩
theorem lw_p25 : lw_okq (⟨"ThreeLinkPairModel", "age", "(I)V"⟩, 51) := ⟨⟨by decide +kernel, by decide +kernel⟩, List.mem_of_getElem? (i := 843) (by decide +kernel), List.mem_of_getElem? (i := 1103) (by decide +kernel), List.mem_of_getElem? (i := 1104) (by decide +kernel)⟩
theorem lw_p26 : lw_okq (⟨"ThreeLinkPairModel", "tickChange", "(I)V"⟩, 51) := ⟨⟨by decide +kernel, by decide +kernel⟩, List.mem_of_getElem? (i := 843) (by decide +kernel), List.mem_of_getElem? (i := 1107) (by decide +kernel), List.mem_of_getElem? (i := 1108) (by decide +kernel)⟩
theorem lw_p27 : lw_okq (⟨"ThreeLinkPairModel", "giveUp", "(I)V"⟩, 51) := ⟨⟨by decide +kernel, by decide +kernel⟩, List.mem_of_getElem? (i := 843) (by decide +kernel), List.mem_of_getElem? (i := 1111) (by decide +kernel), List.mem_of_getElem? (i := 1112) (by decide +kernel)⟩
theorem lw_p28 : lw_okq (⟨"ThreeLinkPairModel", "chosen", "(II)I"⟩, 51) := ⟨⟨by decide +kernel, by decide +kernel⟩, List.mem_of_getElem? (i := 843) (by decide +kernel), List.mem_of_getElem? (i := 1115) (by decide +kernel), List.mem_of_getElem? (i := 1116) (by decide +kernel)⟩
theorem lw_p29 : lw_okq (⟨"ThreeLinkPairModel", "isOpen", "(II)Z"⟩, 51) := ⟨⟨by decide +kernel, by decide +kernel⟩, List.mem_of_getElem? (i := 843) (by decide +kernel), List.mem_of_getElem? (i := 1119) (by decide +kernel), List.mem_of_getElem? (i := 1120) (by decide +kernel)⟩
theorem lw_p30 : lw_okq (⟨"ThreeLinkPairModel", "end", "(I)V"⟩, 51) := ⟨⟨by decide +kernel, by decide +kernel⟩, List.mem_of_getElem? (i := 843) (by decide +kernel), List.mem_of_getElem? (i := 1123) (by decide +kernel), List.mem_of_getElem? (i := 1124) (by decide +kernel)⟩
theorem lw_p31 : lw_okq (⟨"ThreeLinkPairModel", "send", "(I)V"⟩, 51) := ⟨⟨by decide +kernel, by decide +kernel⟩, List.mem_of_getElem? (i := 843) (by decide +kernel), List.mem_of_getElem? (i := 1127) (by decide +kernel), List.mem_of_getElem? (i := 1128) (by decide +kernel)⟩
def lw_privs_2 : List (MethodName × Nat) := [(⟨"ThreeLinkPairModel", "damaged", "(I)V"⟩, 51), (⟨"ThreeLinkPairModel", "status", "(II)V"⟩, 51), (⟨"ThreeLinkPairModel", "served", "(II)V"⟩, 51), (⟨"ThreeLinkPairModel", "isTaken", "(II)V"⟩, 51), (⟨"ThreeLinkPairModel", "takeOrder", "(IIII)V"⟩, 51), (⟨"ThreeLinkPairModel", "message", "(IIII)I"⟩, 51), (⟨"ThreeLinkPairModel", "say", "(II)V"⟩, 51), (⟨"ThreeLinkPairModel", "serving", "(I)I"⟩, 51), (⟨"ThreeLinkPairModel", "settle", "(II)V"⟩, 51), (⟨"ThreeLinkPairModel", "age", "(I)V"⟩, 51), (⟨"ThreeLinkPairModel", "tickChange", "(I)V"⟩, 51), (⟨"ThreeLinkPairModel", "giveUp", "(I)V"⟩, 51), (⟨"ThreeLinkPairModel", "chosen", "(II)I"⟩, 51), (⟨"ThreeLinkPairModel", "isOpen", "(II)Z"⟩, 51), (⟨"ThreeLinkPairModel", "end", "(I)V"⟩, 51), (⟨"ThreeLinkPairModel", "send", "(I)V"⟩, 51)]
theorem lw_r2 : ∀ q ∈ lw_privs_2, lw_okq q := List.forall_mem_cons.mpr ⟨lw_p16, List.forall_mem_cons.mpr ⟨lw_p17, List.forall_mem_cons.mpr ⟨lw_p18, List.forall_mem_cons.mpr ⟨lw_p19, List.forall_mem_cons.mpr ⟨lw_p20, List.forall_mem_cons.mpr ⟨lw_p21, List.forall_mem_cons.mpr ⟨lw_p22, List.forall_mem_cons.mpr ⟨lw_p23, List.forall_mem_cons.mpr ⟨lw_p24, List.forall_mem_cons.mpr ⟨lw_p25, List.forall_mem_cons.mpr ⟨lw_p26, List.forall_mem_cons.mpr ⟨lw_p27, List.forall_mem_cons.mpr ⟨lw_p28, List.forall_mem_cons.mpr ⟨lw_p29, List.forall_mem_cons.mpr ⟨lw_p30, List.forall_mem_cons.mpr ⟨lw_p31, fun _ h => absurd h List.not_mem_nil⟩⟩⟩⟩⟩⟩⟩⟩⟩⟩⟩⟩⟩⟩⟩⟩
theorem lw_p32 : lw_okq (⟨"ThreeLinkPairModel", "at", "(II)I"⟩, 51) := ⟨⟨by decide +kernel, by decide +kernel⟩, List.mem_of_getElem? (i := 843) (by decide +kernel), List.mem_of_getElem? (i := 1131) (by decide +kernel), List.mem_of_getElem? (i := 1132) (by decide +kernel)⟩
theorem lw_p33 : lw_okq (⟨"ThreeLinkPairModel", "carry", "(III)V"⟩, 51) := ⟨⟨by decide +kernel, by decide +kernel⟩, List.mem_of_getElem? (i := 843) (by decide +kernel), List.mem_of_getElem? (i := 1135) (by decide +kernel), List.mem_of_getElem? (i := 1136) (by decide +kernel)⟩
theorem lw_p34 : lw_okq (⟨"ThreeLinkPairModel", "hasClass", "(II)Z"⟩, 51) := ⟨⟨by decide +kernel, by decide +kernel⟩, List.mem_of_getElem? (i := 843) (by decide +kernel), List.mem_of_getElem? (i := 1146) (by decide +kernel), List.mem_of_getElem? (i := 1147) (by decide +kernel)⟩
def lw_privs_3 : List (MethodName × Nat) := [(⟨"ThreeLinkPairModel", "at", "(II)I"⟩, 51), (⟨"ThreeLinkPairModel", "carry", "(III)V"⟩, 51), (⟨"ThreeLinkPairModel", "hasClass", "(II)Z"⟩, 51)]
theorem lw_r3 : ∀ q ∈ lw_privs_3, lw_okq q := List.forall_mem_cons.mpr ⟨lw_p32, List.forall_mem_cons.mpr ⟨lw_p33, List.forall_mem_cons.mpr ⟨lw_p34, fun _ h => absurd h List.not_mem_nil⟩⟩⟩
def lw_privs : List (MethodName × Nat) := lw_privs_1 ++ (lw_privs_2 ++ (lw_privs_3))
def lw_tbl : List Cond := k2_sels lw_privs ++ tables_1
theorem lw_privs_ok : ∀ q ∈ lw_privs, lw_okq q := by
  show ∀ q ∈ lw_privs_1 ++ (lw_privs_2 ++ (lw_privs_3)), lw_okq q
  exact List.forall_mem_append.mpr ⟨lw_r1, List.forall_mem_append.mpr ⟨lw_r2, lw_r3⟩⟩
end
section
/-! names: the classes whose objects are made, their fields, the kinds of arrays, the methods (printed by wip/whole/names.py out of the Statement) -/
def nm_T0 : u_T := fun k => match k with
  | 0 => ("ThreeLinkPair", "ends", "[LThreeLinkPair$End;", true)
  | _ => ("ThreeLinkPair", "faults", "[LThreeLinkPair$Fault;", true)
def nm_T1 : u_T := fun k => match k with
  | 0 => ("ThreeLinkPair$End", "sides", "[LThreeLinkPair$Side;", true)
  | 1 => ("ThreeLinkPair$End", "changeovers", "[LThreeLinkPair$Changeover;", true)
  | 2 => ("ThreeLinkPair$End", "links", "[I", true)
  | 3 => ("ThreeLinkPair$End", "linksBefore", "[I", true)
  | 4 => ("ThreeLinkPair$End", "held", "Ljava/util/ArrayList;", true)
  | 5 => ("ThreeLinkPair$End", "inbox", "Ljava/util/ArrayList;", true)
  | _ => ("ThreeLinkPair$End", "lostHere", "I", false)
def nm_T2 : u_T := fun k => match k with
  | 0 => ("ThreeLinkPair$Side", "state", "I", false)
  | 1 => ("ThreeLinkPair$Side", "age", "I", false)
  | 2 => ("ThreeLinkPair$Side", "turn", "I", false)
  | 3 => ("ThreeLinkPair$Side", "heard", "I", false)
  | 4 => ("ThreeLinkPair$Side", "fore", "I", false)
  | 5 => ("ThreeLinkPair$Side", "back", "I", false)
  | 6 => ("ThreeLinkPair$Side", "foreBit", "I", false)
  | 7 => ("ThreeLinkPair$Side", "backBit", "I", false)
  | 8 => ("ThreeLinkPair$Side", "errors", "I", false)
  | 9 => ("ThreeLinkPair$Side", "tries", "I", false)
  | 10 => ("ThreeLinkPair$Side", "bucket", "I", false)
  | 11 => ("ThreeLinkPair$Side", "good", "I", false)
  | 12 => ("ThreeLinkPair$Side", "idle", "I", false)
  | 13 => ("ThreeLinkPair$Side", "odd", "I", false)
  | 14 => ("ThreeLinkPair$Side", "fell", "Z", false)
  | 15 => ("ThreeLinkPair$Side", "due", "I", false)
  | 16 => ("ThreeLinkPair$Side", "sent", "Ljava/util/ArrayList;", true)
  | 17 => ("ThreeLinkPair$Side", "queued", "Ljava/util/ArrayList;", true)
  | 18 => ("ThreeLinkPair$Side", "memory", "LThreeLinkPair$Memory;", true)
  | _ => ("ThreeLinkPair$Side", "unit", "LThreeLinkPair$Unit;", true)
def nm_T3 : u_T := fun k => match k with
  | 0 => ("ThreeLinkPair$Changeover", "underWay", "Z", false)
  | 1 => ("ThreeLinkPair$Changeover", "said", "Z", false)
  | 2 => ("ThreeLinkPair$Changeover", "settled", "Z", false)
  | 3 => ("ThreeLinkPair$Changeover", "waited", "I", false)
  | 4 => ("ThreeLinkPair$Changeover", "turn", "I", false)
  | 5 => ("ThreeLinkPair$Changeover", "heard", "I", false)
  | 6 => ("ThreeLinkPair$Changeover", "back", "I", false)
  | 7 => ("ThreeLinkPair$Changeover", "numbered", "I", false)
  | 8 => ("ThreeLinkPair$Changeover", "firstNumber", "I", false)
  | _ => ("ThreeLinkPair$Changeover", "kept", "Ljava/util/ArrayList;", true)
def nm_T4 : u_T := fun k => match k with
  | 0 => ("ThreeLinkPair$Fault", "how", "I", false)
  | _ => ("ThreeLinkPair$Fault", "left", "I", false)
def nm_T5 : u_T := fun k => match k with
  | 0 => ("ThreeLinkPair$Memory", "turns", "[I", true)
  | _ => ("ThreeLinkPair$Memory", "backs", "[I", true)
def nm_T6 : u_T := fun k => match k with
  | 0 => ("ThreeLinkPair$Message", "kind", "I", true)
  | 1 => ("ThreeLinkPair$Message", "word", "I", true)
  | 2 => ("ThreeLinkPair$Message", "number", "I", true)
  | _ => ("ThreeLinkPair$Message", "turn", "I", true)
def nm_T7 : u_T := fun k => match k with
  | 0 => ("ThreeLinkPair$Unit", "form", "I", false)
  | 1 => ("ThreeLinkPair$Unit", "turn", "I", false)
  | 2 => ("ThreeLinkPair$Unit", "fore", "I", false)
  | 3 => ("ThreeLinkPair$Unit", "foreBit", "I", false)
  | 4 => ("ThreeLinkPair$Unit", "back", "I", false)
  | 5 => ("ThreeLinkPair$Unit", "backBit", "I", false)
  | _ => ("ThreeLinkPair$Unit", "message", "LThreeLinkPair$Message;", false)
def nm_T8 : u_T := fun k => match k with
  | 0 => ("ThreeLinkPairModel", "thrown", "I", false)
  | 1 => ("ThreeLinkPairModel", "kinds", "[I", true)
  | 2 => ("ThreeLinkPairModel", "words", "[I", true)
  | 3 => ("ThreeLinkPairModel", "abouts", "[I", true)
  | 4 => ("ThreeLinkPairModel", "turnsOf", "[I", true)
  | 5 => ("ThreeLinkPairModel", "numbers", "[I", true)
  | 6 => ("ThreeLinkPairModel", "nexts", "[I", true)
  | 7 => ("ThreeLinkPairModel", "spare", "I", false)
  | 8 => ("ThreeLinkPairModel", "made", "I", false)
  | 9 => ("ThreeLinkPairModel", "firsts", "[I", true)
  | 10 => ("ThreeLinkPairModel", "lasts", "[I", true)
  | 11 => ("ThreeLinkPairModel", "sizes", "[I", true)
  | 12 => ("ThreeLinkPairModel", "states", "[I", true)
  | 13 => ("ThreeLinkPairModel", "ages", "[I", true)
  | 14 => ("ThreeLinkPairModel", "turns", "[I", true)
  | 15 => ("ThreeLinkPairModel", "heards", "[I", true)
  | 16 => ("ThreeLinkPairModel", "fell", "[Z", true)
  | 17 => ("ThreeLinkPairModel", "fores", "[I", true)
  | 18 => ("ThreeLinkPairModel", "backs", "[I", true)
  | 19 => ("ThreeLinkPairModel", "foreBits", "[I", true)
  | 20 => ("ThreeLinkPairModel", "backBits", "[I", true)
  | 21 => ("ThreeLinkPairModel", "errors", "[I", true)
  | 22 => ("ThreeLinkPairModel", "tries", "[I", true)
  | 23 => ("ThreeLinkPairModel", "buckets", "[I", true)
  | 24 => ("ThreeLinkPairModel", "goods", "[I", true)
  | 25 => ("ThreeLinkPairModel", "idles", "[I", true)
  | 26 => ("ThreeLinkPairModel", "odds", "[I", true)
  | 27 => ("ThreeLinkPairModel", "again", "[I", true)
  | 28 => ("ThreeLinkPairModel", "rememberedTurns", "[I", true)
  | 29 => ("ThreeLinkPairModel", "rememberedBacks", "[I", true)
  | 30 => ("ThreeLinkPairModel", "faults", "[I", true)
  | 31 => ("ThreeLinkPairModel", "faultsLeft", "[I", true)
  | 32 => ("ThreeLinkPairModel", "units", "[I", true)
  | 33 => ("ThreeLinkPairModel", "unitTurns", "[I", true)
  | 34 => ("ThreeLinkPairModel", "unitFores", "[I", true)
  | 35 => ("ThreeLinkPairModel", "unitForeBits", "[I", true)
  | 36 => ("ThreeLinkPairModel", "unitBacks", "[I", true)
  | 37 => ("ThreeLinkPairModel", "unitBackBits", "[I", true)
  | 38 => ("ThreeLinkPairModel", "unitKinds", "[I", true)
  | 39 => ("ThreeLinkPairModel", "unitWords", "[I", true)
  | 40 => ("ThreeLinkPairModel", "unitAbouts", "[I", true)
  | 41 => ("ThreeLinkPairModel", "unitMessageTurns", "[I", true)
  | 42 => ("ThreeLinkPairModel", "changing", "[I", true)
  | 43 => ("ThreeLinkPairModel", "said", "[Z", true)
  | 44 => ("ThreeLinkPairModel", "waits", "[I", true)
  | 45 => ("ThreeLinkPairModel", "keptTurns", "[I", true)
  | 46 => ("ThreeLinkPairModel", "keptHeards", "[I", true)
  | 47 => ("ThreeLinkPairModel", "keptBacks", "[I", true)
  | 48 => ("ThreeLinkPairModel", "links", "[I", true)
  | 49 => ("ThreeLinkPairModel", "lostCount", "I", false)
  | _ => ("ThreeLinkPairModel", "came", "I", false)
def nm_T9 : u_T := fun k => match k with
  | 0 => ("java/util/AbstractList", "modCount", "I", false)
  | 1 => ("java/util/ArrayList", "elementData", "[Ljava/lang/Object;", false)
  | _ => ("java/util/ArrayList", "size", "I", false)
def nm_T10 : u_T := fun k => match k with
  | 0 => ("java/lang/Throwable", "cause", "Ljava/lang/Throwable;", false)
  | 1 => ("java/lang/Throwable", "stackTrace", "[Ljava/lang/StackTraceElement;", false)
  | 2 => ("java/lang/Throwable", "suppressedExceptions", "Ljava/util/List;", false)
  | 3 => ("java/lang/Throwable", "detailMessage", "Ljava/lang/String;", false)
  | 4 => ("java/lang/Throwable", "backtrace", "Ljava/lang/Object;", false)
  | _ => ("java/lang/Throwable", "depth", "I", false)
def nm_T11 : u_T := fun k => match k with
  | 0 => ("java/lang/Throwable", "cause", "Ljava/lang/Throwable;", false)
  | 1 => ("java/lang/Throwable", "stackTrace", "[Ljava/lang/StackTraceElement;", false)
  | 2 => ("java/lang/Throwable", "suppressedExceptions", "Ljava/util/List;", false)
  | 3 => ("java/lang/Throwable", "detailMessage", "Ljava/lang/String;", false)
  | 4 => ("java/lang/Throwable", "backtrace", "Ljava/lang/Object;", false)
  | _ => ("java/lang/Throwable", "depth", "I", false)
def nm_T12 : u_T := fun k => match k with
  | 0 => ("java/lang/Throwable", "cause", "Ljava/lang/Throwable;", false)
  | 1 => ("java/lang/Throwable", "stackTrace", "[Ljava/lang/StackTraceElement;", false)
  | 2 => ("java/lang/Throwable", "suppressedExceptions", "Ljava/util/List;", false)
  | 3 => ("java/lang/Throwable", "detailMessage", "Ljava/lang/String;", false)
  | 4 => ("java/lang/Throwable", "backtrace", "Ljava/lang/Object;", false)
  | _ => ("java/lang/Throwable", "depth", "I", false)
def nm_cl : List vw_C := [("ThreeLinkPair", nm_T0, 2), ("ThreeLinkPair$End", nm_T1, 7), ("ThreeLinkPair$Side", nm_T2, 20), ("ThreeLinkPair$Changeover", nm_T3, 10), ("ThreeLinkPair$Fault", nm_T4, 2), ("ThreeLinkPair$Memory", nm_T5, 2), ("ThreeLinkPair$Message", nm_T6, 4), ("ThreeLinkPair$Unit", nm_T7, 7), ("ThreeLinkPairModel", nm_T8, 51), ("java/util/ArrayList", nm_T9, 3), ("java/lang/IndexOutOfBoundsException", nm_T10, 6), ("java/lang/IllegalArgumentException", nm_T11, 6), ("java/util/NoSuchElementException", nm_T12, 6)]
def nm_ft (c : Nat) : Nat → FieldType := match c with
  | 0 => fun k => match k with
    | 0 => .array (.object "ThreeLinkPair$End")
    | _ => .array (.object "ThreeLinkPair$Fault")
  | 1 => fun k => match k with
    | 0 => .array (.object "ThreeLinkPair$Side")
    | 1 => .array (.object "ThreeLinkPair$Changeover")
    | 2 => .array (.int)
    | 3 => .array (.int)
    | 4 => .object "java/util/ArrayList"
    | 5 => .object "java/util/ArrayList"
    | _ => .int
  | 2 => fun k => match k with
    | 0 => .int
    | 1 => .int
    | 2 => .int
    | 3 => .int
    | 4 => .int
    | 5 => .int
    | 6 => .int
    | 7 => .int
    | 8 => .int
    | 9 => .int
    | 10 => .int
    | 11 => .int
    | 12 => .int
    | 13 => .int
    | 14 => .boolean
    | 15 => .int
    | 16 => .object "java/util/ArrayList"
    | 17 => .object "java/util/ArrayList"
    | 18 => .object "ThreeLinkPair$Memory"
    | _ => .object "ThreeLinkPair$Unit"
  | 3 => fun k => match k with
    | 0 => .boolean
    | 1 => .boolean
    | 2 => .boolean
    | 3 => .int
    | 4 => .int
    | 5 => .int
    | 6 => .int
    | 7 => .int
    | 8 => .int
    | _ => .object "java/util/ArrayList"
  | 4 => fun k => match k with
    | 0 => .int
    | _ => .int
  | 5 => fun k => match k with
    | 0 => .array (.int)
    | _ => .array (.int)
  | 6 => fun k => match k with
    | 0 => .int
    | 1 => .int
    | 2 => .int
    | _ => .int
  | 7 => fun k => match k with
    | 0 => .int
    | 1 => .int
    | 2 => .int
    | 3 => .int
    | 4 => .int
    | 5 => .int
    | _ => .object "ThreeLinkPair$Message"
  | 8 => fun k => match k with
    | 0 => .int
    | 1 => .array (.int)
    | 2 => .array (.int)
    | 3 => .array (.int)
    | 4 => .array (.int)
    | 5 => .array (.int)
    | 6 => .array (.int)
    | 7 => .int
    | 8 => .int
    | 9 => .array (.int)
    | 10 => .array (.int)
    | 11 => .array (.int)
    | 12 => .array (.int)
    | 13 => .array (.int)
    | 14 => .array (.int)
    | 15 => .array (.int)
    | 16 => .array (.boolean)
    | 17 => .array (.int)
    | 18 => .array (.int)
    | 19 => .array (.int)
    | 20 => .array (.int)
    | 21 => .array (.int)
    | 22 => .array (.int)
    | 23 => .array (.int)
    | 24 => .array (.int)
    | 25 => .array (.int)
    | 26 => .array (.int)
    | 27 => .array (.int)
    | 28 => .array (.int)
    | 29 => .array (.int)
    | 30 => .array (.int)
    | 31 => .array (.int)
    | 32 => .array (.int)
    | 33 => .array (.int)
    | 34 => .array (.int)
    | 35 => .array (.int)
    | 36 => .array (.int)
    | 37 => .array (.int)
    | 38 => .array (.int)
    | 39 => .array (.int)
    | 40 => .array (.int)
    | 41 => .array (.int)
    | 42 => .array (.int)
    | 43 => .array (.boolean)
    | 44 => .array (.int)
    | 45 => .array (.int)
    | 46 => .array (.int)
    | 47 => .array (.int)
    | 48 => .array (.int)
    | 49 => .int
    | _ => .int
  | 9 => fun k => match k with
    | 0 => .int
    | 1 => .array (.object "java/lang/Object")
    | _ => .int
  | 10 => fun k => match k with
    | 0 => .object "java/lang/Throwable"
    | 1 => .array (.object "java/lang/StackTraceElement")
    | 2 => .object "java/util/List"
    | 3 => .object "java/lang/String"
    | 4 => .object "java/lang/Object"
    | _ => .int
  | 11 => fun k => match k with
    | 0 => .object "java/lang/Throwable"
    | 1 => .array (.object "java/lang/StackTraceElement")
    | 2 => .object "java/util/List"
    | 3 => .object "java/lang/String"
    | 4 => .object "java/lang/Object"
    | _ => .int
  | _ => fun k => match k with
    | 0 => .object "java/lang/Throwable"
    | 1 => .array (.object "java/lang/StackTraceElement")
    | 2 => .object "java/util/List"
    | 3 => .object "java/lang/String"
    | 4 => .object "java/lang/Object"
    | _ => .int
def nm_sl (c : Nat) : Nat := match c with
  | 0 => 2
  | 1 => 7
  | 2 => 20
  | 3 => 10
  | 4 => 2
  | 5 => 2
  | 6 => 4
  | 7 => 7
  | 8 => 51
  | 9 => 3
  | 10 => 6
  | 11 => 6
  | _ => 6
def nm_at : List FieldType := [.int, .boolean, .long, .object "java/lang/Object", .object "ThreeLinkPair$End", .object "ThreeLinkPair$Side", .object "ThreeLinkPair$Changeover", .object "ThreeLinkPair$Fault"]
theorem nm_lt : ∀ (c : Nat) (q : vw_C), nm_cl[c]? = some q → c < 100 := by
  intro c q h
  have h1 : c < nm_cl.length := (List.getElem?_eq_some_iff.mp h).1
  have h2 : nm_cl.length = 13 := rfl
  omega
theorem nm_in (i : Nat) {w : Cond} (h : tables_1[i]? = some w) : w ∈ lw_tbl := List.mem_append_right _ (List.mem_of_getElem? h)
theorem nm_pr (i : Nat) {w : Cond} (h : (k2_sels lw_privs)[i]? = some w) : w ∈ lw_tbl := List.mem_append_left _ (List.mem_of_getElem? h)
theorem nm_all {ws : List Cond} (h : ∀ x ∈ ws, x ∈ lw_tbl) : ∀ x ∈ ws, x ∈ lw_tbl := h
theorem nm_sub {ws : List Cond} (ps : List Nat) (hp : ws = ps.filterMap (fun i => tables_1[i]?)) : ∀ x ∈ ws, x ∈ lw_tbl := by
  intro x hx
  rw [hp] at hx
  obtain ⟨i, -, hi⟩ := List.mem_filterMap.mp hx
  exact nm_in i hi
abbrev mm_P_init : MethodName × ByteArray × Nat × Option FieldType × List (Nat × Nat × Nat × Nat) := (⟨"ThreeLinkPair", "<init>", "()V"⟩, prog_1_method_1_code, 2, (Option.none : Option FieldType), [])
abbrev mm_OO_init : MethodName × ByteArray × Nat × Option FieldType × List (Nat × Nat × Nat × Nat) := (⟨"java/lang/Object", "<init>", "()V"⟩, object_method_1_code, 1, (Option.none : Option FieldType), [])
abbrev mm_E_init : MethodName × ByteArray × Nat × Option FieldType × List (Nat × Nat × Nat × Nat) := (⟨"ThreeLinkPair$End", "<init>", "()V"⟩, prog_3_method_1_code, 2, (Option.none : Option FieldType), [])
abbrev mm_S_init : MethodName × ByteArray × Nat × Option FieldType × List (Nat × Nat × Nat × Nat) := (⟨"ThreeLinkPair$Side", "<init>", "()V"⟩, prog_7_method_1_code, 1, (Option.none : Option FieldType), [])
abbrev mm_AL_init : MethodName × ByteArray × Nat × Option FieldType × List (Nat × Nat × Nat × Nat) := (⟨"java/util/ArrayList", "<init>", "()V"⟩, prog_24_method_2_code, 1, (Option.none : Option FieldType), [])
abbrev mm_AB_init : MethodName × ByteArray × Nat × Option FieldType × List (Nat × Nat × Nat × Nat) := (⟨"java/util/AbstractList", "<init>", "()V"⟩, prog_23_method_1_code, 1, (Option.none : Option FieldType), [])
abbrev mm_AC_init : MethodName × ByteArray × Nat × Option FieldType × List (Nat × Nat × Nat × Nat) := (⟨"java/util/AbstractCollection", "<init>", "()V"⟩, prog_22_method_1_code, 1, (Option.none : Option FieldType), [])
abbrev mm_Y_init : MethodName × ByteArray × Nat × Option FieldType × List (Nat × Nat × Nat × Nat) := (⟨"ThreeLinkPair$Memory", "<init>", "()V"⟩, prog_5_method_1_code, 1, (Option.none : Option FieldType), [])
abbrev mm_AR_fill : MethodName × ByteArray × Nat × Option FieldType × List (Nat × Nat × Nat × Nat) := (⟨"java/util/Arrays", "fill", "([II)V"⟩, prog_25_method_103_code, 4, (Option.none : Option FieldType), [])
abbrev mm_N_init : MethodName × ByteArray × Nat × Option FieldType × List (Nat × Nat × Nat × Nat) := (⟨"ThreeLinkPair$Unit", "<init>", "()V"⟩, prog_8_method_1_code, 1, (Option.none : Option FieldType), [])
abbrev mm_C_init : MethodName × ByteArray × Nat × Option FieldType × List (Nat × Nat × Nat × Nat) := (⟨"ThreeLinkPair$Changeover", "<init>", "()V"⟩, prog_2_method_1_code, 1, (Option.none : Option FieldType), [])
abbrev mm_F_init : MethodName × ByteArray × Nat × Option FieldType × List (Nat × Nat × Nat × Nat) := (⟨"ThreeLinkPair$Fault", "<init>", "()V"⟩, prog_4_method_1_code, 1, (Option.none : Option FieldType), [])
abbrev mm_P_tick : MethodName × ByteArray × Nat × Option FieldType × List (Nat × Nat × Nat × Nat) := (⟨"ThreeLinkPair", "tick", "()I"⟩, prog_1_method_6_code, 4, (Option.some FieldType.int), [])
abbrev mm_P_arrive : MethodName × ByteArray × Nat × Option FieldType × List (Nat × Nat × Nat × Nat) := (⟨"ThreeLinkPair", "arrive", "(II)I"⟩, prog_1_method_19_code, 5, (Option.some FieldType.int), [])
abbrev mm_P_faultPlace : MethodName × ByteArray × Nat × Option FieldType × List (Nat × Nat × Nat × Nat) := (⟨"ThreeLinkPair", "faultPlace", "(II)I"⟩, prog_1_method_18_code, 2, (Option.some FieldType.int), [])
abbrev mm_E_damagedComes : MethodName × ByteArray × Nat × Option FieldType × List (Nat × Nat × Nat × Nat) := (⟨"ThreeLinkPair$End", "damagedComes", "(I)V"⟩, prog_3_method_4_code, 2, (Option.none : Option FieldType), [])
abbrev mm_S_failsByDamage : MethodName × ByteArray × Nat × Option FieldType × List (Nat × Nat × Nat × Nat) := (⟨"ThreeLinkPair$Side", "failsByDamage", "()Z"⟩, prog_7_method_11_code, 1, (Option.some FieldType.boolean), [])
abbrev mm_E_fall : MethodName × ByteArray × Nat × Option FieldType × List (Nat × Nat × Nat × Nat) := (⟨"ThreeLinkPair$End", "fall", "(I)V"⟩, prog_3_method_2_code, 4, (Option.none : Option FieldType), [])
abbrev mm_S_comeTo : MethodName × ByteArray × Nat × Option FieldType × List (Nat × Nat × Nat × Nat) := (⟨"ThreeLinkPair$Side", "comeTo", "(I)V"⟩, prog_7_method_3_code, 2, (Option.none : Option FieldType), [])
abbrev mm_Y_keep : MethodName × ByteArray × Nat × Option FieldType × List (Nat × Nat × Nat × Nat) := (⟨"ThreeLinkPair$Memory", "keep", "(II)V"⟩, prog_5_method_2_code, 4, (Option.none : Option FieldType), [])
abbrev mm_MA_floorMod : MethodName × ByteArray × Nat × Option FieldType × List (Nat × Nat × Nat × Nat) := (⟨"java/lang/Math", "floorMod", "(II)I"⟩, prog_17_method_50_code, 3, (Option.some FieldType.int), [])
abbrev mm_C_begin : MethodName × ByteArray × Nat × Option FieldType × List (Nat × Nat × Nat × Nat) := (⟨"ThreeLinkPair$Changeover", "begin", "(LThreeLinkPair$Side;)V"⟩, prog_2_method_2_code, 3, (Option.none : Option FieldType), [])
abbrev mm_AL_size : MethodName × ByteArray × Nat × Option FieldType × List (Nat × Nat × Nat × Nat) := (⟨"java/util/ArrayList", "size", "()I"⟩, prog_24_method_8_code, 1, (Option.some FieldType.int), [])
abbrev mm_AL_get : MethodName × ByteArray × Nat × Option FieldType × List (Nat × Nat × Nat × Nat) := (⟨"java/util/ArrayList", "get", "(I)Ljava/lang/Object;"⟩, prog_24_method_20_code, 2, (Option.some (FieldType.object "java/lang/Object")), [])
abbrev mm_OB_checkIndex : MethodName × ByteArray × Nat × Option FieldType × List (Nat × Nat × Nat × Nat) := (⟨"java/util/Objects", "checkIndex", "(II)I"⟩, prog_29_method_17_code, 2, (Option.some FieldType.int), [])
abbrev mm_PR_checkIndex : MethodName × ByteArray × Nat × Option FieldType × List (Nat × Nat × Nat × Nat) := (⟨"jdk/internal/util/Preconditions", "checkIndex", "(IILjava/util/function/BiFunction;)I"⟩, prog_33_method_11_code, 3, (Option.some FieldType.int), [])
abbrev mm_AL_elementData : MethodName × ByteArray × Nat × Option FieldType × List (Nat × Nat × Nat × Nat) := (⟨"java/util/ArrayList", "elementData", "(I)Ljava/lang/Object;"⟩, prog_24_method_18_code, 2, (Option.some (FieldType.object "java/lang/Object")), [])
abbrev mm_AL_add1 : MethodName × ByteArray × Nat × Option FieldType × List (Nat × Nat × Nat × Nat) := (⟨"java/util/ArrayList", "add", "(Ljava/lang/Object;)Z"⟩, prog_24_method_25_code, 2, (Option.some FieldType.boolean), [])
abbrev mm_AL_add3 : MethodName × ByteArray × Nat × Option FieldType × List (Nat × Nat × Nat × Nat) := (⟨"java/util/ArrayList", "add", "(Ljava/lang/Object;[Ljava/lang/Object;I)V"⟩, prog_24_method_24_code, 4, (Option.none : Option FieldType), [])
abbrev mm_AL_grow0 : MethodName × ByteArray × Nat × Option FieldType × List (Nat × Nat × Nat × Nat) := (⟨"java/util/ArrayList", "grow", "()[Ljava/lang/Object;"⟩, prog_24_method_7_code, 1, (Option.some (FieldType.array (FieldType.object "java/lang/Object"))), [])
abbrev mm_AL_grow1 : MethodName × ByteArray × Nat × Option FieldType × List (Nat × Nat × Nat × Nat) := (⟨"java/util/ArrayList", "grow", "(I)[Ljava/lang/Object;"⟩, prog_24_method_6_code, 4, (Option.some (FieldType.array (FieldType.object "java/lang/Object"))), [])
abbrev mm_AS_newLength : MethodName × ByteArray × Nat × Option FieldType × List (Nat × Nat × Nat × Nat) := (⟨"jdk/internal/util/ArraysSupport", "newLength", "(III)I"⟩, prog_32_method_27_code, 4, (Option.some FieldType.int), [])
abbrev mm_MA_max : MethodName × ByteArray × Nat × Option FieldType × List (Nat × Nat × Nat × Nat) := (⟨"java/lang/Math", "max", "(II)I"⟩, prog_17_method_65_code, 2, (Option.some FieldType.int), [])
abbrev mm_AS_hugeLength : MethodName × ByteArray × Nat × Option FieldType × List (Nat × Nat × Nat × Nat) := (⟨"jdk/internal/util/ArraysSupport", "hugeLength", "(II)I"⟩, prog_32_method_28_code, 3, (Option.some FieldType.int), [])
abbrev mm_AR_copyOf2 : MethodName × ByteArray × Nat × Option FieldType × List (Nat × Nat × Nat × Nat) := (⟨"java/util/Arrays", "copyOf", "([Ljava/lang/Object;I)[Ljava/lang/Object;"⟩, prog_25_method_119_code, 2, (Option.some (FieldType.array (FieldType.object "java/lang/Object"))), [])
abbrev mm_AR_copyOf3 : MethodName × ByteArray × Nat × Option FieldType × List (Nat × Nat × Nat × Nat) := (⟨"java/util/Arrays", "copyOf", "([Ljava/lang/Object;ILjava/lang/Class;)[Ljava/lang/Object;"⟩, prog_25_method_120_code, 4, (Option.some (FieldType.array (FieldType.object "java/lang/Object"))), [])
abbrev mm_MA_min : MethodName × ByteArray × Nat × Option FieldType × List (Nat × Nat × Nat × Nat) := (⟨"java/lang/Math", "min", "(II)I"⟩, prog_17_method_69_code, 2, (Option.some FieldType.int), [])
abbrev mm_S_clearRows : MethodName × ByteArray × Nat × Option FieldType × List (Nat × Nat × Nat × Nat) := (⟨"ThreeLinkPair$Side", "clearRows", "()V"⟩, prog_7_method_4_code, 1, (Option.none : Option FieldType), [])
abbrev mm_AL_clear : MethodName × ByteArray × Nat × Option FieldType × List (Nat × Nat × Nat × Nat) := (⟨"java/util/ArrayList", "clear", "()V"⟩, prog_24_method_40_code, 4, (Option.none : Option FieldType), [])
abbrev mm_E_numberedComes : MethodName × ByteArray × Nat × Option FieldType × List (Nat × Nat × Nat × Nat) := (⟨"ThreeLinkPair$End", "numberedComes", "(ILThreeLinkPair$Unit;)V"⟩, prog_3_method_9_code, 5, (Option.none : Option FieldType), [])
abbrev mm_S_countGood : MethodName × ByteArray × Nat × Option FieldType × List (Nat × Nat × Nat × Nat) := (⟨"ThreeLinkPair$Side", "countGood", "()V"⟩, prog_7_method_7_code, 1, (Option.none : Option FieldType), [])
abbrev mm_S_answered : MethodName × ByteArray × Nat × Option FieldType × List (Nat × Nat × Nat × Nat) := (⟨"ThreeLinkPair$Side", "answered", "(I)Z"⟩, prog_7_method_8_code, 3, (Option.some FieldType.boolean), [])
abbrev mm_P_dropFirst : MethodName × ByteArray × Nat × Option FieldType × List (Nat × Nat × Nat × Nat) := (⟨"ThreeLinkPair", "dropFirst", "(Ljava/util/ArrayList;I)V"⟩, prog_1_method_20_code, 3, (Option.none : Option FieldType), [])
abbrev mm_AL_isEmpty : MethodName × ByteArray × Nat × Option FieldType × List (Nat × Nat × Nat × Nat) := (⟨"java/util/ArrayList", "isEmpty", "()Z"⟩, prog_24_method_9_code, 1, (Option.some FieldType.boolean), [])
abbrev mm_AL_remove : MethodName × ByteArray × Nat × Option FieldType × List (Nat × Nat × Nat × Nat) := (⟨"java/util/ArrayList", "remove", "(I)Ljava/lang/Object;"⟩, prog_24_method_29_code, 4, (Option.some (FieldType.object "java/lang/Object")), [])
abbrev mm_AL_fastRemove : MethodName × ByteArray × Nat × Option FieldType × List (Nat × Nat × Nat × Nat) := (⟨"java/util/ArrayList", "fastRemove", "([Ljava/lang/Object;I)V"⟩, prog_24_method_39_code, 4, (Option.none : Option FieldType), [])
abbrev mm_S_followBackBit : MethodName × ByteArray × Nat × Option FieldType × List (Nat × Nat × Nat × Nat) := (⟨"ThreeLinkPair$Side", "followBackBit", "(I)V"⟩, prog_7_method_9_code, 2, (Option.none : Option FieldType), [])
abbrev mm_S_nextIn : MethodName × ByteArray × Nat × Option FieldType × List (Nat × Nat × Nat × Nat) := (⟨"ThreeLinkPair$Side", "nextIn", "(LThreeLinkPair$Unit;)LThreeLinkPair$Message;"⟩, prog_7_method_10_code, 3, (Option.some (FieldType.object "ThreeLinkPair$Message")), [])
abbrev mm_E_takeIn : MethodName × ByteArray × Nat × Option FieldType × List (Nat × Nat × Nat × Nat) := (⟨"ThreeLinkPair$End", "takeIn", "(LThreeLinkPair$Message;)V"⟩, prog_3_method_10_code, 2, (Option.none : Option FieldType), [])
abbrev mm_E_takeOrder : MethodName × ByteArray × Nat × Option FieldType × List (Nat × Nat × Nat × Nat) := (⟨"ThreeLinkPair$End", "takeOrder", "(LThreeLinkPair$Message;)V"⟩, prog_3_method_11_code, 6, (Option.none : Option FieldType), [])
abbrev mm_Y_backFor : MethodName × ByteArray × Nat × Option FieldType × List (Nat × Nat × Nat × Nat) := (⟨"ThreeLinkPair$Memory", "backFor", "(I)I"⟩, prog_5_method_3_code, 3, (Option.some FieldType.int), [])
abbrev mm_G_init : MethodName × ByteArray × Nat × Option FieldType × List (Nat × Nat × Nat × Nat) := (⟨"ThreeLinkPair$Message", "<init>", "(IIII)V"⟩, prog_6_method_1_code, 5, (Option.none : Option FieldType), [])
abbrev mm_E_say : MethodName × ByteArray × Nat × Option FieldType × List (Nat × Nat × Nat × Nat) := (⟨"ThreeLinkPair$End", "say", "(LThreeLinkPair$Message;)V"⟩, prog_3_method_14_code, 3, (Option.none : Option FieldType), [])
abbrev mm_E_firstServing : MethodName × ByteArray × Nat × Option FieldType × List (Nat × Nat × Nat × Nat) := (⟨"ThreeLinkPair$End", "firstServing", "()I"⟩, prog_3_method_13_code, 2, (Option.some FieldType.int), [])
abbrev mm_C_settle : MethodName × ByteArray × Nat × Option FieldType × List (Nat × Nat × Nat × Nat) := (⟨"ThreeLinkPair$Changeover", "settle", "(I)V"⟩, prog_2_method_3_code, 3, (Option.none : Option FieldType), [])
abbrev mm_E_takeAnswer : MethodName × ByteArray × Nat × Option FieldType × List (Nat × Nat × Nat × Nat) := (⟨"ThreeLinkPair$End", "takeAnswer", "(LThreeLinkPair$Message;)V"⟩, prog_3_method_12_code, 3, (Option.none : Option FieldType), [])
abbrev mm_E_statusComes : MethodName × ByteArray × Nat × Option FieldType × List (Nat × Nat × Nat × Nat) := (⟨"ThreeLinkPair$End", "statusComes", "(ILThreeLinkPair$Unit;)V"⟩, prog_3_method_5_code, 3, (Option.none : Option FieldType), [])
abbrev mm_E_seekComes : MethodName × ByteArray × Nat × Option FieldType × List (Nat × Nat × Nat × Nat) := (⟨"ThreeLinkPair$End", "seekComes", "(I)V"⟩, prog_3_method_6_code, 3, (Option.none : Option FieldType), [])
abbrev mm_E_proveComes : MethodName × ByteArray × Nat × Option FieldType × List (Nat × Nat × Nat × Nat) := (⟨"ThreeLinkPair$End", "proveComes", "(I)V"⟩, prog_3_method_7_code, 3, (Option.none : Option FieldType), [])
abbrev mm_E_outComes : MethodName × ByteArray × Nat × Option FieldType × List (Nat × Nat × Nat × Nat) := (⟨"ThreeLinkPair$End", "outComes", "(I)V"⟩, prog_3_method_8_code, 3, (Option.none : Option FieldType), [])
abbrev mm_E_age : MethodName × ByteArray × Nat × Option FieldType × List (Nat × Nat × Nat × Nat) := (⟨"ThreeLinkPair$End", "age", "(I)V"⟩, prog_3_method_3_code, 2, (Option.none : Option FieldType), [])
abbrev mm_S_failsByAge : MethodName × ByteArray × Nat × Option FieldType × List (Nat × Nat × Nat × Nat) := (⟨"ThreeLinkPair$Side", "failsByAge", "()Z"⟩, prog_7_method_12_code, 1, (Option.some FieldType.boolean), [])
abbrev mm_E_changeOver : MethodName × ByteArray × Nat × Option FieldType × List (Nat × Nat × Nat × Nat) := (⟨"ThreeLinkPair$End", "changeOver", "(I)V"⟩, prog_3_method_19_code, 4, (Option.none : Option FieldType), [])
abbrev mm_C_giveUp : MethodName × ByteArray × Nat × Option FieldType × List (Nat × Nat × Nat × Nat) := (⟨"ThreeLinkPair$Changeover", "giveUp", "()I"⟩, prog_2_method_4_code, 3, (Option.some FieldType.int), [])
abbrev mm_G_isOfClass : MethodName × ByteArray × Nat × Option FieldType × List (Nat × Nat × Nat × Nat) := (⟨"ThreeLinkPair$Message", "isOfClass", "()Z"⟩, prog_6_method_2_code, 1, (Option.some FieldType.boolean), [])
abbrev mm_E_someOpenBeside : MethodName × ByteArray × Nat × Option FieldType × List (Nat × Nat × Nat × Nat) := (⟨"ThreeLinkPair$End", "someOpenBeside", "(I)Z"⟩, prog_3_method_20_code, 3, (Option.some FieldType.boolean), [])
abbrev mm_E_isOpen : MethodName × ByteArray × Nat × Option FieldType × List (Nat × Nat × Nat × Nat) := (⟨"ThreeLinkPair$End", "isOpen", "(I)Z"⟩, prog_3_method_15_code, 2, (Option.some FieldType.boolean), [])
abbrev mm_E_finish : MethodName × ByteArray × Nat × Option FieldType × List (Nat × Nat × Nat × Nat) := (⟨"ThreeLinkPair$End", "finish", "(I)V"⟩, prog_3_method_21_code, 4, (Option.none : Option FieldType), [])
abbrev mm_E_passOn : MethodName × ByteArray × Nat × Option FieldType × List (Nat × Nat × Nat × Nat) := (⟨"ThreeLinkPair$End", "passOn", "(LThreeLinkPair$Message;)V"⟩, prog_3_method_22_code, 2, (Option.none : Option FieldType), [])
abbrev mm_E_moveClass : MethodName × ByteArray × Nat × Option FieldType × List (Nat × Nat × Nat × Nat) := (⟨"ThreeLinkPair$End", "moveClass", "(I)V"⟩, prog_3_method_23_code, 3, (Option.none : Option FieldType), [])
abbrev mm_E_choose : MethodName × ByteArray × Nat × Option FieldType × List (Nat × Nat × Nat × Nat) := (⟨"ThreeLinkPair$End", "choose", "(I)I"⟩, prog_3_method_16_code, 4, (Option.some FieldType.int), [])
abbrev mm_E_letGoHeld : MethodName × ByteArray × Nat × Option FieldType × List (Nat × Nat × Nat × Nat) := (⟨"ThreeLinkPair$End", "letGoHeld", "(I)V"⟩, prog_3_method_24_code, 5, (Option.none : Option FieldType), [])
abbrev mm_S_send : MethodName × ByteArray × Nat × Option FieldType × List (Nat × Nat × Nat × Nat) := (⟨"ThreeLinkPair$Side", "send", "()V"⟩, prog_7_method_13_code, 1, (Option.none : Option FieldType), [])
abbrev mm_S_sendNumbered : MethodName × ByteArray × Nat × Option FieldType × List (Nat × Nat × Nat × Nat) := (⟨"ThreeLinkPair$Side", "sendNumbered", "()V"⟩, prog_7_method_14_code, 2, (Option.none : Option FieldType), [])
abbrev mm_P_lost : MethodName × ByteArray × Nat × Option FieldType × List (Nat × Nat × Nat × Nat) := (⟨"ThreeLinkPair", "lost", "()I"⟩, prog_1_method_14_code, 3, (Option.some FieldType.int), [])
abbrev mm_P_start : MethodName × ByteArray × Nat × Option FieldType × List (Nat × Nat × Nat × Nat) := (⟨"ThreeLinkPair", "start", "(II)Z"⟩, prog_1_method_2_code, 4, (Option.some FieldType.boolean), [])
abbrev mm_P_checkSide : MethodName × ByteArray × Nat × Option FieldType × List (Nat × Nat × Nat × Nat) := (⟨"ThreeLinkPair", "checkSide", "(II)V"⟩, prog_1_method_16_code, 2, (Option.none : Option FieldType), [])
abbrev mm_P_checkEnd : MethodName × ByteArray × Nat × Option FieldType × List (Nat × Nat × Nat × Nat) := (⟨"ThreeLinkPair", "checkEnd", "(I)V"⟩, prog_1_method_15_code, 1, (Option.none : Option FieldType), [])
abbrev mm_TH_init0 : MethodName × ByteArray × Nat × Option FieldType × List (Nat × Nat × Nat × Nat) := (⟨"java/lang/Throwable", "<init>", "()V"⟩, prog_21_method_1_code, 1, (Option.none : Option FieldType), [])
abbrev mm_IO_init : MethodName × ByteArray × Nat × Option FieldType × List (Nat × Nat × Nat × Nat) := (⟨"java/lang/IndexOutOfBoundsException", "<init>", "(Ljava/lang/String;)V"⟩, prog_15_method_2_code, 2, (Option.none : Option FieldType), [])
abbrev mm_RT_init : MethodName × ByteArray × Nat × Option FieldType × List (Nat × Nat × Nat × Nat) := (⟨"java/lang/RuntimeException", "<init>", "(Ljava/lang/String;)V"⟩, prog_18_method_2_code, 2, (Option.none : Option FieldType), [])
abbrev mm_EX_init : MethodName × ByteArray × Nat × Option FieldType × List (Nat × Nat × Nat × Nat) := (⟨"java/lang/Exception", "<init>", "(Ljava/lang/String;)V"⟩, prog_13_method_2_code, 2, (Option.none : Option FieldType), [])
abbrev mm_TH_init1 : MethodName × ByteArray × Nat × Option FieldType × List (Nat × Nat × Nat × Nat) := (⟨"java/lang/Throwable", "<init>", "(Ljava/lang/String;)V"⟩, prog_21_method_2_code, 2, (Option.none : Option FieldType), [])
abbrev mm_S_begin : MethodName × ByteArray × Nat × Option FieldType × List (Nat × Nat × Nat × Nat) := (⟨"ThreeLinkPair$Side", "begin", "()V"⟩, prog_7_method_2_code, 1, (Option.none : Option FieldType), [])
abbrev mm_P_stop : MethodName × ByteArray × Nat × Option FieldType × List (Nat × Nat × Nat × Nat) := (⟨"ThreeLinkPair", "stop", "(II)Z"⟩, prog_1_method_3_code, 3, (Option.some FieldType.boolean), [])
abbrev mm_P_fault : MethodName × ByteArray × Nat × Option FieldType × List (Nat × Nat × Nat × Nat) := (⟨"ThreeLinkPair", "fault", "(IIII)V"⟩, prog_1_method_4_code, 6, (Option.none : Option FieldType), [])
abbrev mm_IA_init : MethodName × ByteArray × Nat × Option FieldType × List (Nat × Nat × Nat × Nat) := (⟨"java/lang/IllegalArgumentException", "<init>", "(Ljava/lang/String;)V"⟩, prog_14_method_2_code, 2, (Option.none : Option FieldType), [])
abbrev mm_P_submit : MethodName × ByteArray × Nat × Option FieldType × List (Nat × Nat × Nat × Nat) := (⟨"ThreeLinkPair", "submit", "(III)Z"⟩, prog_1_method_5_code, 4, (Option.some FieldType.boolean), [])
abbrev mm_P_checkClass : MethodName × ByteArray × Nat × Option FieldType × List (Nat × Nat × Nat × Nat) := (⟨"ThreeLinkPair", "checkClass", "(II)V"⟩, prog_1_method_17_code, 2, (Option.none : Option FieldType), [])
abbrev mm_E_accept : MethodName × ByteArray × Nat × Option FieldType × List (Nat × Nat × Nat × Nat) := (⟨"ThreeLinkPair$End", "accept", "(II)Z"⟩, prog_3_method_17_code, 4, (Option.some FieldType.boolean), [])
abbrev mm_E_addBelow : MethodName × ByteArray × Nat × Option FieldType × List (Nat × Nat × Nat × Nat) := (⟨"ThreeLinkPair$End", "addBelow", "(Ljava/util/ArrayList;III)Z"⟩, prog_3_method_18_code, 4, (Option.some FieldType.boolean), [])
abbrev mm_S_carries : MethodName × ByteArray × Nat × Option FieldType × List (Nat × Nat × Nat × Nat) := (⟨"ThreeLinkPair$Side", "carries", "(I)Z"⟩, prog_7_method_5_code, 2, (Option.some FieldType.boolean), [])
abbrev mm_S_holds : MethodName × ByteArray × Nat × Option FieldType × List (Nat × Nat × Nat × Nat) := (⟨"ThreeLinkPair$Side", "holds", "(Ljava/util/ArrayList;I)Z"⟩, prog_7_method_6_code, 3, (Option.some FieldType.boolean), [])
abbrev mm_P_state : MethodName × ByteArray × Nat × Option FieldType × List (Nat × Nat × Nat × Nat) := (⟨"ThreeLinkPair", "state", "(II)I"⟩, prog_1_method_7_code, 3, (Option.some FieldType.int), [])
abbrev mm_P_of : MethodName × ByteArray × Nat × Option FieldType × List (Nat × Nat × Nat × Nat) := (⟨"ThreeLinkPair", "of", "(III)I"⟩, prog_1_method_8_code, 5, (Option.some FieldType.int), [])
abbrev mm_P_link : MethodName × ByteArray × Nat × Option FieldType × List (Nat × Nat × Nat × Nat) := (⟨"ThreeLinkPair", "link", "(II)I"⟩, prog_1_method_9_code, 3, (Option.some FieldType.int), [])
abbrev mm_P_changes : MethodName × ByteArray × Nat × Option FieldType × List (Nat × Nat × Nat × Nat) := (⟨"ThreeLinkPair", "changes", "(II)I"⟩, prog_1_method_10_code, 4, (Option.some FieldType.int), [])
abbrev mm_P_held : MethodName × ByteArray × Nat × Option FieldType × List (Nat × Nat × Nat × Nat) := (⟨"ThreeLinkPair", "held", "(I)I"⟩, prog_1_method_11_code, 2, (Option.some FieldType.int), [])
abbrev mm_P_inbox : MethodName × ByteArray × Nat × Option FieldType × List (Nat × Nat × Nat × Nat) := (⟨"ThreeLinkPair", "inbox", "(I)I"⟩, prog_1_method_12_code, 2, (Option.some FieldType.int), [])
abbrev mm_P_take : MethodName × ByteArray × Nat × Option FieldType × List (Nat × Nat × Nat × Nat) := (⟨"ThreeLinkPair", "take", "(I)J"⟩, prog_1_method_13_code, 3, (Option.some FieldType.long), [])
abbrev mm_NS_init : MethodName × ByteArray × Nat × Option FieldType × List (Nat × Nat × Nat × Nat) := (⟨"java/util/NoSuchElementException", "<init>", "(Ljava/lang/String;)V"⟩, prog_28_method_4_code, 2, (Option.none : Option FieldType), [])
abbrev mm_D_init : MethodName × ByteArray × Nat × Option FieldType × List (Nat × Nat × Nat × Nat) := (⟨"ThreeLinkPairModel", "<init>", "()V"⟩, prog_10_method_1_code, 2, (Option.none : Option FieldType), [])
abbrev mm_D_begin : MethodName × ByteArray × Nat × Option FieldType × List (Nat × Nat × Nat × Nat) := (⟨"ThreeLinkPairModel", "begin", "(I)V"⟩, prog_10_method_10_code, 2, (Option.none : Option FieldType), [])
abbrev mm_D_empty : MethodName × ByteArray × Nat × Option FieldType × List (Nat × Nat × Nat × Nat) := (⟨"ThreeLinkPairModel", "empty", "(I)V"⟩, prog_10_method_9_code, 2, (Option.none : Option FieldType), [])
abbrev mm_D_shift : MethodName × ByteArray × Nat × Option FieldType × List (Nat × Nat × Nat × Nat) := (⟨"ThreeLinkPairModel", "shift", "(I)I"⟩, prog_10_method_6_code, 3, (Option.some FieldType.int), [])
abbrev mm_D_give : MethodName × ByteArray × Nat × Option FieldType × List (Nat × Nat × Nat × Nat) := (⟨"ThreeLinkPairModel", "give", "(I)V"⟩, prog_10_method_4_code, 2, (Option.none : Option FieldType), [])
abbrev mm_D_thrown : MethodName × ByteArray × Nat × Option FieldType × List (Nat × Nat × Nat × Nat) := (⟨"ThreeLinkPairModel", "thrown", "()I"⟩, prog_10_method_2_code, 1, (Option.some FieldType.int), [])
abbrev mm_D_start : MethodName × ByteArray × Nat × Option FieldType × List (Nat × Nat × Nat × Nat) := (⟨"ThreeLinkPairModel", "start", "(II)Z"⟩, prog_10_method_14_code, 4, (Option.some FieldType.boolean), [])
abbrev mm_D_isSide : MethodName × ByteArray × Nat × Option FieldType × List (Nat × Nat × Nat × Nat) := (⟨"ThreeLinkPairModel", "isSide", "(II)Z"⟩, prog_10_method_12_code, 2, (Option.some FieldType.boolean), [])
abbrev mm_D_missing : MethodName × ByteArray × Nat × Option FieldType × List (Nat × Nat × Nat × Nat) := (⟨"ThreeLinkPairModel", "missing", "(Z)Z"⟩, prog_10_method_13_code, 2, (Option.some FieldType.boolean), [])
abbrev mm_D_come : MethodName × ByteArray × Nat × Option FieldType × List (Nat × Nat × Nat × Nat) := (⟨"ThreeLinkPairModel", "come", "(II)V"⟩, prog_10_method_11_code, 3, (Option.none : Option FieldType), [])
abbrev mm_D_stop : MethodName × ByteArray × Nat × Option FieldType × List (Nat × Nat × Nat × Nat) := (⟨"ThreeLinkPairModel", "stop", "(II)Z"⟩, prog_10_method_16_code, 3, (Option.some FieldType.boolean), [])
abbrev mm_D_fall : MethodName × ByteArray × Nat × Option FieldType × List (Nat × Nat × Nat × Nat) := (⟨"ThreeLinkPairModel", "fall", "(I)V"⟩, prog_10_method_15_code, 4, (Option.none : Option FieldType), [])
abbrev mm_D_change : MethodName × ByteArray × Nat × Option FieldType × List (Nat × Nat × Nat × Nat) := (⟨"ThreeLinkPairModel", "change", "(I)V"⟩, prog_10_method_18_code, 5, (Option.none : Option FieldType), [])
abbrev mm_D_put : MethodName × ByteArray × Nat × Option FieldType × List (Nat × Nat × Nat × Nat) := (⟨"ThreeLinkPairModel", "put", "(II)V"⟩, prog_10_method_5_code, 3, (Option.none : Option FieldType), [])
abbrev mm_D_fault : MethodName × ByteArray × Nat × Option FieldType × List (Nat × Nat × Nat × Nat) := (⟨"ThreeLinkPairModel", "fault", "(IIII)V"⟩, prog_10_method_17_code, 5, (Option.none : Option FieldType), [])
abbrev mm_D_tick : MethodName × ByteArray × Nat × Option FieldType × List (Nat × Nat × Nat × Nat) := (⟨"ThreeLinkPairModel", "tick", "()I"⟩, prog_10_method_36_code, 3, (Option.some FieldType.int), [])
abbrev mm_D_deliver : MethodName × ByteArray × Nat × Option FieldType × List (Nat × Nat × Nat × Nat) := (⟨"ThreeLinkPairModel", "deliver", "(I)V"⟩, prog_10_method_32_code, 4, (Option.none : Option FieldType), [])
abbrev mm_D_damaged : MethodName × ByteArray × Nat × Option FieldType × List (Nat × Nat × Nat × Nat) := (⟨"ThreeLinkPairModel", "damaged", "(I)V"⟩, prog_10_method_31_code, 2, (Option.none : Option FieldType), [])
abbrev mm_D_status : MethodName × ByteArray × Nat × Option FieldType × List (Nat × Nat × Nat × Nat) := (⟨"ThreeLinkPairModel", "status", "(II)V"⟩, prog_10_method_29_code, 4, (Option.none : Option FieldType), [])
abbrev mm_D_served : MethodName × ByteArray × Nat × Option FieldType × List (Nat × Nat × Nat × Nat) := (⟨"ThreeLinkPairModel", "served", "(II)V"⟩, prog_10_method_30_code, 6, (Option.none : Option FieldType), [])
abbrev mm_D_isTaken : MethodName × ByteArray × Nat × Option FieldType × List (Nat × Nat × Nat × Nat) := (⟨"ThreeLinkPairModel", "isTaken", "(II)V"⟩, prog_10_method_28_code, 5, (Option.none : Option FieldType), [])
abbrev mm_D_takeOrder : MethodName × ByteArray × Nat × Option FieldType × List (Nat × Nat × Nat × Nat) := (⟨"ThreeLinkPairModel", "takeOrder", "(IIII)V"⟩, prog_10_method_27_code, 7, (Option.none : Option FieldType), [])
abbrev mm_D_message : MethodName × ByteArray × Nat × Option FieldType × List (Nat × Nat × Nat × Nat) := (⟨"ThreeLinkPairModel", "message", "(IIII)I"⟩, prog_10_method_3_code, 6, (Option.some FieldType.int), [])
abbrev mm_D_say : MethodName × ByteArray × Nat × Option FieldType × List (Nat × Nat × Nat × Nat) := (⟨"ThreeLinkPairModel", "say", "(II)V"⟩, prog_10_method_23_code, 4, (Option.none : Option FieldType), [])
abbrev mm_D_serving : MethodName × ByteArray × Nat × Option FieldType × List (Nat × Nat × Nat × Nat) := (⟨"ThreeLinkPairModel", "serving", "(I)I"⟩, prog_10_method_20_code, 4, (Option.some FieldType.int), [])
abbrev mm_D_settle : MethodName × ByteArray × Nat × Option FieldType × List (Nat × Nat × Nat × Nat) := (⟨"ThreeLinkPairModel", "settle", "(II)V"⟩, prog_10_method_19_code, 6, (Option.none : Option FieldType), [])
abbrev mm_D_age : MethodName × ByteArray × Nat × Option FieldType × List (Nat × Nat × Nat × Nat) := (⟨"ThreeLinkPairModel", "age", "(I)V"⟩, prog_10_method_33_code, 2, (Option.none : Option FieldType), [])
abbrev mm_D_tickChange : MethodName × ByteArray × Nat × Option FieldType × List (Nat × Nat × Nat × Nat) := (⟨"ThreeLinkPairModel", "tickChange", "(I)V"⟩, prog_10_method_26_code, 5, (Option.none : Option FieldType), [])
abbrev mm_D_giveUp : MethodName × ByteArray × Nat × Option FieldType × List (Nat × Nat × Nat × Nat) := (⟨"ThreeLinkPairModel", "giveUp", "(I)V"⟩, prog_10_method_24_code, 5, (Option.none : Option FieldType), [])
abbrev mm_D_chosen : MethodName × ByteArray × Nat × Option FieldType × List (Nat × Nat × Nat × Nat) := (⟨"ThreeLinkPairModel", "chosen", "(II)I"⟩, prog_10_method_22_code, 6, (Option.some FieldType.int), [])
abbrev mm_D_isOpen : MethodName × ByteArray × Nat × Option FieldType × List (Nat × Nat × Nat × Nat) := (⟨"ThreeLinkPairModel", "isOpen", "(II)Z"⟩, prog_10_method_21_code, 3, (Option.some FieldType.boolean), [])
abbrev mm_D_end : MethodName × ByteArray × Nat × Option FieldType × List (Nat × Nat × Nat × Nat) := (⟨"ThreeLinkPairModel", "end", "(I)V"⟩, prog_10_method_25_code, 9, (Option.none : Option FieldType), [])
abbrev mm_D_send : MethodName × ByteArray × Nat × Option FieldType × List (Nat × Nat × Nat × Nat) := (⟨"ThreeLinkPairModel", "send", "(I)V"⟩, prog_10_method_35_code, 4, (Option.none : Option FieldType), [])
abbrev mm_D_at : MethodName × ByteArray × Nat × Option FieldType × List (Nat × Nat × Nat × Nat) := (⟨"ThreeLinkPairModel", "at", "(II)I"⟩, prog_10_method_7_code, 5, (Option.some FieldType.int), [])
abbrev mm_D_carry : MethodName × ByteArray × Nat × Option FieldType × List (Nat × Nat × Nat × Nat) := (⟨"ThreeLinkPairModel", "carry", "(III)V"⟩, prog_10_method_34_code, 4, (Option.none : Option FieldType), [])
abbrev mm_D_submit : MethodName × ByteArray × Nat × Option FieldType × List (Nat × Nat × Nat × Nat) := (⟨"ThreeLinkPairModel", "submit", "(III)Z"⟩, prog_10_method_38_code, 8, (Option.some FieldType.boolean), [])
abbrev mm_D_isClass : MethodName × ByteArray × Nat × Option FieldType × List (Nat × Nat × Nat × Nat) := (⟨"ThreeLinkPairModel", "isClass", "(II)Z"⟩, prog_10_method_37_code, 2, (Option.some FieldType.boolean), [])
abbrev mm_D_hasClass : MethodName × ByteArray × Nat × Option FieldType × List (Nat × Nat × Nat × Nat) := (⟨"ThreeLinkPairModel", "hasClass", "(II)Z"⟩, prog_10_method_8_code, 5, (Option.some FieldType.boolean), [])
abbrev mm_D_state : MethodName × ByteArray × Nat × Option FieldType × List (Nat × Nat × Nat × Nat) := (⟨"ThreeLinkPairModel", "state", "(II)I"⟩, prog_10_method_39_code, 3, (Option.some FieldType.int), [])
abbrev mm_D_of : MethodName × ByteArray × Nat × Option FieldType × List (Nat × Nat × Nat × Nat) := (⟨"ThreeLinkPairModel", "of", "(III)I"⟩, prog_10_method_40_code, 5, (Option.some FieldType.int), [])
abbrev mm_D_link : MethodName × ByteArray × Nat × Option FieldType × List (Nat × Nat × Nat × Nat) := (⟨"ThreeLinkPairModel", "link", "(II)I"⟩, prog_10_method_41_code, 3, (Option.some FieldType.int), [])
abbrev mm_D_changes : MethodName × ByteArray × Nat × Option FieldType × List (Nat × Nat × Nat × Nat) := (⟨"ThreeLinkPairModel", "changes", "(II)I"⟩, prog_10_method_42_code, 3, (Option.some FieldType.int), [])
abbrev mm_D_held : MethodName × ByteArray × Nat × Option FieldType × List (Nat × Nat × Nat × Nat) := (⟨"ThreeLinkPairModel", "held", "(I)I"⟩, prog_10_method_44_code, 2, (Option.some FieldType.int), [])
abbrev mm_D_isEnd : MethodName × ByteArray × Nat × Option FieldType × List (Nat × Nat × Nat × Nat) := (⟨"ThreeLinkPairModel", "isEnd", "(I)Z"⟩, prog_10_method_43_code, 1, (Option.some FieldType.boolean), [])
abbrev mm_D_inbox : MethodName × ByteArray × Nat × Option FieldType × List (Nat × Nat × Nat × Nat) := (⟨"ThreeLinkPairModel", "inbox", "(I)I"⟩, prog_10_method_45_code, 2, (Option.some FieldType.int), [])
abbrev mm_D_take : MethodName × ByteArray × Nat × Option FieldType × List (Nat × Nat × Nat × Nat) := (⟨"ThreeLinkPairModel", "take", "(I)J"⟩, prog_10_method_46_code, 5, (Option.some FieldType.long), [])
abbrev mm_D_lost : MethodName × ByteArray × Nat × Option FieldType × List (Nat × Nat × Nat × Nat) := (⟨"ThreeLinkPairModel", "lost", "()I"⟩, prog_10_method_47_code, 1, (Option.some FieldType.int), [])
abbrev mm_W_start : MethodName × ByteArray × Nat × Option FieldType × List (Nat × Nat × Nat × Nat) := (⟨"ThreeLinkPairLaw", "start", "(LThreeLinkPair;II[J)I"⟩, method_3_code, 5, (Option.some FieldType.int), [((0 : Nat), (17 : Nat), (20 : Nat), (13 : Nat))])
abbrev mm_W_stop : MethodName × ByteArray × Nat × Option FieldType × List (Nat × Nat × Nat × Nat) := (⟨"ThreeLinkPairLaw", "stop", "(LThreeLinkPair;II[J)I"⟩, method_4_code, 5, (Option.some FieldType.int), [((0 : Nat), (17 : Nat), (20 : Nat), (13 : Nat))])
abbrev mm_W_fault : MethodName × ByteArray × Nat × Option FieldType × List (Nat × Nat × Nat × Nat) := (⟨"ThreeLinkPairLaw", "fault", "(LThreeLinkPair;IIII)I"⟩, method_5_code, 6, (Option.some FieldType.int), [((0 : Nat), (9 : Nat), (12 : Nat), (13 : Nat)), ((0 : Nat), (9 : Nat), (16 : Nat), (22 : Nat))])
abbrev mm_W_submit : MethodName × ByteArray × Nat × Option FieldType × List (Nat × Nat × Nat × Nat) := (⟨"ThreeLinkPairLaw", "submit", "(LThreeLinkPair;III[J)I"⟩, method_6_code, 6, (Option.some FieldType.int), [((0 : Nat), (19 : Nat), (22 : Nat), (13 : Nat))])
abbrev mm_W_state : MethodName × ByteArray × Nat × Option FieldType × List (Nat × Nat × Nat × Nat) := (⟨"ThreeLinkPairLaw", "state", "(LThreeLinkPair;II[J)I"⟩, method_7_code, 5, (Option.some FieldType.int), [((0 : Nat), (10 : Nat), (13 : Nat), (13 : Nat))])
abbrev mm_W_of : MethodName × ByteArray × Nat × Option FieldType × List (Nat × Nat × Nat × Nat) := (⟨"ThreeLinkPairLaw", "of", "(LThreeLinkPair;III[J)I"⟩, method_8_code, 6, (Option.some FieldType.int), [((0 : Nat), (12 : Nat), (15 : Nat), (13 : Nat))])
abbrev mm_W_link : MethodName × ByteArray × Nat × Option FieldType × List (Nat × Nat × Nat × Nat) := (⟨"ThreeLinkPairLaw", "link", "(LThreeLinkPair;II[J)I"⟩, method_9_code, 5, (Option.some FieldType.int), [((0 : Nat), (10 : Nat), (13 : Nat), (13 : Nat))])
abbrev mm_W_changes : MethodName × ByteArray × Nat × Option FieldType × List (Nat × Nat × Nat × Nat) := (⟨"ThreeLinkPairLaw", "changes", "(LThreeLinkPair;II[J)I"⟩, method_10_code, 5, (Option.some FieldType.int), [((0 : Nat), (10 : Nat), (13 : Nat), (13 : Nat))])
abbrev mm_W_held : MethodName × ByteArray × Nat × Option FieldType × List (Nat × Nat × Nat × Nat) := (⟨"ThreeLinkPairLaw", "held", "(LThreeLinkPair;I[J)I"⟩, method_11_code, 4, (Option.some FieldType.int), [((0 : Nat), (9 : Nat), (12 : Nat), (13 : Nat))])
abbrev mm_W_inbox : MethodName × ByteArray × Nat × Option FieldType × List (Nat × Nat × Nat × Nat) := (⟨"ThreeLinkPairLaw", "inbox", "(LThreeLinkPair;I[J)I"⟩, method_12_code, 4, (Option.some FieldType.int), [((0 : Nat), (9 : Nat), (12 : Nat), (13 : Nat))])
abbrev mm_W_take : MethodName × ByteArray × Nat × Option FieldType × List (Nat × Nat × Nat × Nat) := (⟨"ThreeLinkPairLaw", "take", "(LThreeLinkPair;I[J)I"⟩, method_13_code, 4, (Option.some FieldType.int), [((0 : Nat), (8 : Nat), (11 : Nat), (13 : Nat)), ((0 : Nat), (8 : Nat), (14 : Nat), (53 : Nat))])
end
section
/-! the words of the tables, sixteen at a time (printed) -/
def sl_0_0 : List Cond := [(Jvm.Cond.initialized "ThreeLinkPairLaw"), (Jvm.Cond.initialized "ThreeLinkPair"), (Jvm.Cond.initialized "ThreeLinkPair$End"), (Jvm.Cond.initialized "ThreeLinkPair$Side"), (Jvm.Cond.initialized "java/util/AbstractCollection"), (Jvm.Cond.initialized "java/util/AbstractList"), (Jvm.Cond.initialized "java/util/ArrayList"), (Jvm.Cond.initialized "ThreeLinkPair$Memory"), (Jvm.Cond.initialized "java/util/Arrays"), (Jvm.Cond.initialized "ThreeLinkPair$Unit"), (Jvm.Cond.initialized "ThreeLinkPair$Changeover"), (Jvm.Cond.initialized "ThreeLinkPair$Fault"), (Jvm.Cond.initialized "ThreeLinkPairModel"), (Jvm.Cond.initialized "java/lang/Throwable"), (Jvm.Cond.initialized "java/lang/Exception"), (Jvm.Cond.initialized "java/lang/RuntimeException")]
def sl_0_1 : List Cond := [(Jvm.Cond.initialized "java/lang/IndexOutOfBoundsException"), (Jvm.Cond.initialized "java/lang/Math"), (Jvm.Cond.initialized "java/util/Objects"), (Jvm.Cond.initialized "jdk/internal/util/Preconditions"), (Jvm.Cond.initialized "jdk/internal/util/ArraysSupport"), (Jvm.Cond.initialized "java/lang/System"), (Jvm.Cond.initialized "java/lang/IllegalArgumentException"), (Jvm.Cond.initialized "ThreeLinkPair$Message"), (Jvm.Cond.initialized "java/util/NoSuchElementException"), (Jvm.Cond.classLink "ThreeLinkPairLaw" (8 : Nat) "ThreeLinkPair"), (Jvm.Cond.instantiable "ThreeLinkPair" (2 : Nat)), (Jvm.Cond.methodLink "ThreeLinkPairLaw" (55 : Nat) ({ cls := "ThreeLinkPair", name := "<init>", desc := "()V" } : Jvm.MethodName)), (Jvm.Cond.instanceMethod ({ cls := "ThreeLinkPair", name := "<init>", desc := "()V" } : Jvm.MethodName)), (Jvm.Cond.code ({ cls := "ThreeLinkPair", name := "<init>", desc := "()V" } : Jvm.MethodName) prog_1_method_1_code (2 : Nat) (Option.none : Option Jvm.ClassFile.FieldType)), (Jvm.Cond.methodLink "ThreeLinkPair" (1 : Nat) ({ cls := "java/lang/Object", name := "<init>", desc := "()V" } : Jvm.MethodName)), (Jvm.Cond.instanceMethod ({ cls := "java/lang/Object", name := "<init>", desc := "()V" } : Jvm.MethodName))]
def sl_0_2 : List Cond := [(Jvm.Cond.code ({ cls := "java/lang/Object", name := "<init>", desc := "()V" } : Jvm.MethodName) object_method_1_code (1 : Nat) (Option.none : Option Jvm.ClassFile.FieldType)), (Jvm.Cond.classLink "ThreeLinkPair" (9 : Nat) "ThreeLinkPair$End"), (Jvm.Cond.arrayOver (Jvm.ClassFile.FieldType.object "ThreeLinkPair$End")), (Jvm.Cond.instantiable "ThreeLinkPair$End" (7 : Nat)), (Jvm.Cond.methodLink "ThreeLinkPair" (15 : Nat) ({ cls := "ThreeLinkPair$End", name := "<init>", desc := "()V" } : Jvm.MethodName)), (Jvm.Cond.instanceMethod ({ cls := "ThreeLinkPair$End", name := "<init>", desc := "()V" } : Jvm.MethodName)), (Jvm.Cond.code ({ cls := "ThreeLinkPair$End", name := "<init>", desc := "()V" } : Jvm.MethodName) prog_3_method_1_code (2 : Nat) (Option.none : Option Jvm.ClassFile.FieldType)), (Jvm.Cond.methodLink "ThreeLinkPair$End" (3 : Nat) ({ cls := "java/lang/Object", name := "<init>", desc := "()V" } : Jvm.MethodName)), (Jvm.Cond.classLink "ThreeLinkPair$End" (9 : Nat) "ThreeLinkPair$Side"), (Jvm.Cond.arrayOver (Jvm.ClassFile.FieldType.object "ThreeLinkPair$Side")), (Jvm.Cond.classLink "ThreeLinkPair$End" (17 : Nat) "ThreeLinkPair$Changeover"), (Jvm.Cond.arrayOver (Jvm.ClassFile.FieldType.object "ThreeLinkPair$Changeover")), (Jvm.Cond.instantiable "ThreeLinkPair$Side" (20 : Nat)), (Jvm.Cond.methodLinkNest "ThreeLinkPair$End" (23 : Nat) ({ cls := "ThreeLinkPair$Side", name := "<init>", desc := "()V" } : Jvm.MethodName) "ThreeLinkPair"), (Jvm.Cond.instanceMethod ({ cls := "ThreeLinkPair$Side", name := "<init>", desc := "()V" } : Jvm.MethodName)), (Jvm.Cond.code ({ cls := "ThreeLinkPair$Side", name := "<init>", desc := "()V" } : Jvm.MethodName) prog_7_method_1_code (1 : Nat) (Option.none : Option Jvm.ClassFile.FieldType))]
def sl_0_3 : List Cond := [(Jvm.Cond.methodLink "ThreeLinkPair$Side" (3 : Nat) ({ cls := "java/lang/Object", name := "<init>", desc := "()V" } : Jvm.MethodName)), (Jvm.Cond.classLink "ThreeLinkPair$Side" (61 : Nat) "java/util/ArrayList"), (Jvm.Cond.instantiable "java/util/ArrayList" (3 : Nat)), (Jvm.Cond.methodLink "ThreeLinkPair$Side" (63 : Nat) ({ cls := "java/util/ArrayList", name := "<init>", desc := "()V" } : Jvm.MethodName)), (Jvm.Cond.instanceMethod ({ cls := "java/util/ArrayList", name := "<init>", desc := "()V" } : Jvm.MethodName)), (Jvm.Cond.code ({ cls := "java/util/ArrayList", name := "<init>", desc := "()V" } : Jvm.MethodName) prog_24_method_2_code (1 : Nat) (Option.none : Option Jvm.ClassFile.FieldType)), (Jvm.Cond.methodLink "java/util/ArrayList" (1 : Nat) ({ cls := "java/util/AbstractList", name := "<init>", desc := "()V" } : Jvm.MethodName)), (Jvm.Cond.instanceMethod ({ cls := "java/util/AbstractList", name := "<init>", desc := "()V" } : Jvm.MethodName)), (Jvm.Cond.code ({ cls := "java/util/AbstractList", name := "<init>", desc := "()V" } : Jvm.MethodName) prog_23_method_1_code (1 : Nat) (Option.none : Option Jvm.ClassFile.FieldType)), (Jvm.Cond.methodLink "java/util/AbstractList" (1 : Nat) ({ cls := "java/util/AbstractCollection", name := "<init>", desc := "()V" } : Jvm.MethodName)), (Jvm.Cond.instanceMethod ({ cls := "java/util/AbstractCollection", name := "<init>", desc := "()V" } : Jvm.MethodName)), (Jvm.Cond.code ({ cls := "java/util/AbstractCollection", name := "<init>", desc := "()V" } : Jvm.MethodName) prog_22_method_1_code (1 : Nat) (Option.none : Option Jvm.ClassFile.FieldType)), (Jvm.Cond.methodLink "java/util/AbstractCollection" (1 : Nat) ({ cls := "java/lang/Object", name := "<init>", desc := "()V" } : Jvm.MethodName)), (Jvm.Cond.fieldLink "java/util/ArrayList" (39 : Nat) "java/util/ArrayList" "DEFAULTCAPACITY_EMPTY_ELEMENTDATA" "[Ljava/lang/Object;"), (Jvm.Cond.laysStatic "java/util/ArrayList" "DEFAULTCAPACITY_EMPTY_ELEMENTDATA" "[Ljava/lang/Object;"), (Jvm.Cond.fieldLink "java/util/ArrayList" (9 : Nat) "java/util/ArrayList" "elementData" "[Ljava/lang/Object;")]
def sl_0_4 : List Cond := [(Jvm.Cond.fieldLink "java/util/ArrayList" (48 : Nat) "java/util/ArrayList" "size" "I"), (Jvm.Cond.fieldLink "java/util/AbstractList" (7 : Nat) "java/util/AbstractList" "modCount" "I"), (Jvm.Cond.fieldLink "java/util/ArrayList" (63 : Nat) "java/util/ArrayList" "modCount" "I"), (Jvm.Cond.sameField "java/util/ArrayList" "java/util/AbstractList" "modCount" "I"), (Jvm.Cond.lays "java/util/ArrayList" "java/util/ArrayList" "elementData" "[Ljava/lang/Object;"), (Jvm.Cond.soleField "java/util/ArrayList" "elementData"), (Jvm.Cond.lays "java/util/ArrayList" "java/util/ArrayList" "size" "I"), (Jvm.Cond.soleField "java/util/ArrayList" "size"), (Jvm.Cond.lays "java/util/ArrayList" "java/util/AbstractList" "modCount" "I"), (Jvm.Cond.soleField "java/util/AbstractList" "modCount"), (Jvm.Cond.superclass "java/util/ArrayList" "java/util/AbstractList"), (Jvm.Cond.classLink "ThreeLinkPair$Side" (71 : Nat) "ThreeLinkPair$Memory"), (Jvm.Cond.instantiable "ThreeLinkPair$Memory" (2 : Nat)), (Jvm.Cond.methodLink "ThreeLinkPair$Side" (73 : Nat) ({ cls := "ThreeLinkPair$Memory", name := "<init>", desc := "()V" } : Jvm.MethodName)), (Jvm.Cond.instanceMethod ({ cls := "ThreeLinkPair$Memory", name := "<init>", desc := "()V" } : Jvm.MethodName)), (Jvm.Cond.code ({ cls := "ThreeLinkPair$Memory", name := "<init>", desc := "()V" } : Jvm.MethodName) prog_5_method_1_code (1 : Nat) (Option.none : Option Jvm.ClassFile.FieldType))]
def sl_0_5 : List Cond := [(Jvm.Cond.methodLink "ThreeLinkPair$Memory" (3 : Nat) ({ cls := "java/lang/Object", name := "<init>", desc := "()V" } : Jvm.MethodName)), (Jvm.Cond.methodLink "ThreeLinkPair$Memory" (18 : Nat) ({ cls := "java/util/Arrays", name := "fill", desc := "([II)V" } : Jvm.MethodName)), (Jvm.Cond.static ({ cls := "java/util/Arrays", name := "fill", desc := "([II)V" } : Jvm.MethodName)), (Jvm.Cond.code ({ cls := "java/util/Arrays", name := "fill", desc := "([II)V" } : Jvm.MethodName) prog_25_method_103_code (4 : Nat) (Option.none : Option Jvm.ClassFile.FieldType)), (Jvm.Cond.fieldLink "ThreeLinkPair$Memory" (11 : Nat) "ThreeLinkPair$Memory" "turns" "[I"), (Jvm.Cond.fieldLink "ThreeLinkPair$Memory" (15 : Nat) "ThreeLinkPair$Memory" "backs" "[I"), (Jvm.Cond.laysFinal "ThreeLinkPair$Memory" "ThreeLinkPair$Memory" "turns" "[I"), (Jvm.Cond.soleField "ThreeLinkPair$Memory" "turns"), (Jvm.Cond.laysFinal "ThreeLinkPair$Memory" "ThreeLinkPair$Memory" "backs" "[I"), (Jvm.Cond.soleField "ThreeLinkPair$Memory" "backs"), (Jvm.Cond.superclass "ThreeLinkPair$Memory" "java/lang/Object"), (Jvm.Cond.arrayClass Jvm.ClassFile.FieldType.int), (Jvm.Cond.classLink "ThreeLinkPair$Side" (78 : Nat) "ThreeLinkPair$Unit"), (Jvm.Cond.instantiable "ThreeLinkPair$Unit" (7 : Nat)), (Jvm.Cond.methodLinkNest "ThreeLinkPair$Side" (80 : Nat) ({ cls := "ThreeLinkPair$Unit", name := "<init>", desc := "()V" } : Jvm.MethodName) "ThreeLinkPair"), (Jvm.Cond.instanceMethod ({ cls := "ThreeLinkPair$Unit", name := "<init>", desc := "()V" } : Jvm.MethodName))]
def sl_0_6 : List Cond := [(Jvm.Cond.code ({ cls := "ThreeLinkPair$Unit", name := "<init>", desc := "()V" } : Jvm.MethodName) prog_8_method_1_code (1 : Nat) (Option.none : Option Jvm.ClassFile.FieldType)), (Jvm.Cond.methodLink "ThreeLinkPair$Unit" (1 : Nat) ({ cls := "java/lang/Object", name := "<init>", desc := "()V" } : Jvm.MethodName)), (Jvm.Cond.fieldLink "ThreeLinkPair$Unit" (9 : Nat) "ThreeLinkPair$Unit" "form" "I"), (Jvm.Cond.fieldLink "ThreeLinkPair$End" (90 : Nat) "ThreeLinkPair$Unit" "form" "I"), (Jvm.Cond.fieldLink "ThreeLinkPair$Side" (136 : Nat) "ThreeLinkPair$Unit" "form" "I"), (Jvm.Cond.fieldLink "ThreeLinkPair" (192 : Nat) "ThreeLinkPair$Unit" "form" "I"), (Jvm.Cond.fieldLink "ThreeLinkPair$End" (98 : Nat) "ThreeLinkPair$Unit" "turn" "I"), (Jvm.Cond.fieldLink "ThreeLinkPair$Side" (135 : Nat) "ThreeLinkPair$Unit" "turn" "I"), (Jvm.Cond.fieldLink "ThreeLinkPair$Side" (130 : Nat) "ThreeLinkPair$Unit" "fore" "I"), (Jvm.Cond.fieldLink "ThreeLinkPair$Side" (125 : Nat) "ThreeLinkPair$Unit" "foreBit" "I"), (Jvm.Cond.fieldLink "ThreeLinkPair$End" (116 : Nat) "ThreeLinkPair$Unit" "back" "I"), (Jvm.Cond.fieldLink "ThreeLinkPair$Side" (149 : Nat) "ThreeLinkPair$Unit" "back" "I"), (Jvm.Cond.fieldLink "ThreeLinkPair$End" (124 : Nat) "ThreeLinkPair$Unit" "backBit" "I"), (Jvm.Cond.fieldLink "ThreeLinkPair$Side" (150 : Nat) "ThreeLinkPair$Unit" "backBit" "I"), (Jvm.Cond.fieldLink "ThreeLinkPair$Side" (126 : Nat) "ThreeLinkPair$Unit" "message" "LThreeLinkPair$Message;"), (Jvm.Cond.lays "ThreeLinkPair$Unit" "ThreeLinkPair$Unit" "form" "I")]
def sl_0_7 : List Cond := [(Jvm.Cond.soleField "ThreeLinkPair$Unit" "form"), (Jvm.Cond.lays "ThreeLinkPair$Unit" "ThreeLinkPair$Unit" "turn" "I"), (Jvm.Cond.soleField "ThreeLinkPair$Unit" "turn"), (Jvm.Cond.lays "ThreeLinkPair$Unit" "ThreeLinkPair$Unit" "fore" "I"), (Jvm.Cond.soleField "ThreeLinkPair$Unit" "fore"), (Jvm.Cond.lays "ThreeLinkPair$Unit" "ThreeLinkPair$Unit" "foreBit" "I"), (Jvm.Cond.soleField "ThreeLinkPair$Unit" "foreBit"), (Jvm.Cond.lays "ThreeLinkPair$Unit" "ThreeLinkPair$Unit" "back" "I"), (Jvm.Cond.soleField "ThreeLinkPair$Unit" "back"), (Jvm.Cond.lays "ThreeLinkPair$Unit" "ThreeLinkPair$Unit" "backBit" "I"), (Jvm.Cond.soleField "ThreeLinkPair$Unit" "backBit"), (Jvm.Cond.lays "ThreeLinkPair$Unit" "ThreeLinkPair$Unit" "message" "LThreeLinkPair$Message;"), (Jvm.Cond.soleField "ThreeLinkPair$Unit" "message"), (Jvm.Cond.superclass "ThreeLinkPair$Unit" "java/lang/Object"), (Jvm.Cond.fieldLink "ThreeLinkPair$Side" (9 : Nat) "ThreeLinkPair$Side" "state" "I"), (Jvm.Cond.fieldLink "ThreeLinkPair$End" (46 : Nat) "ThreeLinkPair$Side" "state" "I")]
def sl_0_8 : List Cond := [(Jvm.Cond.fieldLink "ThreeLinkPair" (31 : Nat) "ThreeLinkPair$Side" "state" "I"), (Jvm.Cond.fieldLink "ThreeLinkPair$Side" (15 : Nat) "ThreeLinkPair$Side" "age" "I"), (Jvm.Cond.fieldLink "ThreeLinkPair$End" (107 : Nat) "ThreeLinkPair$Side" "age" "I"), (Jvm.Cond.fieldLink "ThreeLinkPair" (80 : Nat) "ThreeLinkPair$Side" "age" "I"), (Jvm.Cond.fieldLink "ThreeLinkPair$Side" (18 : Nat) "ThreeLinkPair$Side" "turn" "I"), (Jvm.Cond.fieldLink "ThreeLinkPair$Changeover" (47 : Nat) "ThreeLinkPair$Side" "turn" "I"), (Jvm.Cond.fieldLink "ThreeLinkPair" (119 : Nat) "ThreeLinkPair$Side" "turn" "I"), (Jvm.Cond.fieldLink "ThreeLinkPair$Side" (21 : Nat) "ThreeLinkPair$Side" "heard" "I"), (Jvm.Cond.fieldLink "ThreeLinkPair$Changeover" (50 : Nat) "ThreeLinkPair$Side" "heard" "I"), (Jvm.Cond.fieldLink "ThreeLinkPair$End" (61 : Nat) "ThreeLinkPair$Side" "heard" "I"), (Jvm.Cond.fieldLink "ThreeLinkPair" (122 : Nat) "ThreeLinkPair$Side" "heard" "I"), (Jvm.Cond.fieldLink "ThreeLinkPair$Side" (24 : Nat) "ThreeLinkPair$Side" "fore" "I"), (Jvm.Cond.fieldLink "ThreeLinkPair$Changeover" (59 : Nat) "ThreeLinkPair$Side" "fore" "I"), (Jvm.Cond.fieldLink "ThreeLinkPair" (94 : Nat) "ThreeLinkPair$Side" "fore" "I"), (Jvm.Cond.fieldLink "ThreeLinkPair$Side" (27 : Nat) "ThreeLinkPair$Side" "back" "I"), (Jvm.Cond.fieldLink "ThreeLinkPair$End" (64 : Nat) "ThreeLinkPair$Side" "back" "I")]
def sl_0_9 : List Cond := [(Jvm.Cond.fieldLink "ThreeLinkPair$Changeover" (51 : Nat) "ThreeLinkPair$Side" "back" "I"), (Jvm.Cond.fieldLink "ThreeLinkPair" (97 : Nat) "ThreeLinkPair$Side" "back" "I"), (Jvm.Cond.fieldLink "ThreeLinkPair$Side" (30 : Nat) "ThreeLinkPair$Side" "foreBit" "I"), (Jvm.Cond.fieldLink "ThreeLinkPair" (100 : Nat) "ThreeLinkPair$Side" "foreBit" "I"), (Jvm.Cond.fieldLink "ThreeLinkPair$Side" (33 : Nat) "ThreeLinkPair$Side" "backBit" "I"), (Jvm.Cond.fieldLink "ThreeLinkPair" (103 : Nat) "ThreeLinkPair$Side" "backBit" "I"), (Jvm.Cond.fieldLink "ThreeLinkPair$Side" (36 : Nat) "ThreeLinkPair$Side" "errors" "I"), (Jvm.Cond.fieldLink "ThreeLinkPair$End" (110 : Nat) "ThreeLinkPair$Side" "errors" "I"), (Jvm.Cond.fieldLink "ThreeLinkPair" (82 : Nat) "ThreeLinkPair$Side" "errors" "I"), (Jvm.Cond.fieldLink "ThreeLinkPair$Side" (39 : Nat) "ThreeLinkPair$Side" "tries" "I"), (Jvm.Cond.fieldLink "ThreeLinkPair" (85 : Nat) "ThreeLinkPair$Side" "tries" "I"), (Jvm.Cond.fieldLink "ThreeLinkPair$Side" (42 : Nat) "ThreeLinkPair$Side" "bucket" "I"), (Jvm.Cond.fieldLink "ThreeLinkPair" (88 : Nat) "ThreeLinkPair$Side" "bucket" "I"), (Jvm.Cond.fieldLink "ThreeLinkPair$Side" (45 : Nat) "ThreeLinkPair$Side" "good" "I"), (Jvm.Cond.fieldLink "ThreeLinkPair$Side" (48 : Nat) "ThreeLinkPair$Side" "idle" "I"), (Jvm.Cond.fieldLink "ThreeLinkPair" (91 : Nat) "ThreeLinkPair$Side" "idle" "I")]
def sl_0_10 : List Cond := [(Jvm.Cond.fieldLink "ThreeLinkPair$Side" (51 : Nat) "ThreeLinkPair$Side" "odd" "I"), (Jvm.Cond.fieldLink "ThreeLinkPair$End" (121 : Nat) "ThreeLinkPair$Side" "odd" "I"), (Jvm.Cond.fieldLink "ThreeLinkPair$Side" (54 : Nat) "ThreeLinkPair$Side" "fell" "Z"), (Jvm.Cond.fieldLink "ThreeLinkPair$End" (53 : Nat) "ThreeLinkPair$Side" "fell" "Z"), (Jvm.Cond.fieldLink "ThreeLinkPair$Side" (58 : Nat) "ThreeLinkPair$Side" "due" "I"), (Jvm.Cond.fieldLink "ThreeLinkPair$Side" (64 : Nat) "ThreeLinkPair$Side" "sent" "Ljava/util/ArrayList;"), (Jvm.Cond.fieldLink "ThreeLinkPair$Changeover" (52 : Nat) "ThreeLinkPair$Side" "sent" "Ljava/util/ArrayList;"), (Jvm.Cond.fieldLink "ThreeLinkPair" (106 : Nat) "ThreeLinkPair$Side" "sent" "Ljava/util/ArrayList;"), (Jvm.Cond.fieldLink "ThreeLinkPair$Side" (68 : Nat) "ThreeLinkPair$Side" "queued" "Ljava/util/ArrayList;"), (Jvm.Cond.fieldLink "ThreeLinkPair$Changeover" (72 : Nat) "ThreeLinkPair$Side" "queued" "Ljava/util/ArrayList;"), (Jvm.Cond.fieldLink "ThreeLinkPair" (116 : Nat) "ThreeLinkPair$Side" "queued" "Ljava/util/ArrayList;"), (Jvm.Cond.fieldLink "ThreeLinkPair$End" (185 : Nat) "ThreeLinkPair$Side" "queued" "Ljava/util/ArrayList;"), (Jvm.Cond.fieldLink "ThreeLinkPair$Side" (74 : Nat) "ThreeLinkPair$Side" "memory" "LThreeLinkPair$Memory;"), (Jvm.Cond.fieldLink "ThreeLinkPair$End" (57 : Nat) "ThreeLinkPair$Side" "memory" "LThreeLinkPair$Memory;"), (Jvm.Cond.fieldLink "ThreeLinkPair$Side" (81 : Nat) "ThreeLinkPair$Side" "unit" "LThreeLinkPair$Unit;"), (Jvm.Cond.fieldLink "ThreeLinkPair" (188 : Nat) "ThreeLinkPair$Side" "unit" "LThreeLinkPair$Unit;")]
def sl_0_11 : List Cond := [(Jvm.Cond.lays "ThreeLinkPair$Side" "ThreeLinkPair$Side" "state" "I"), (Jvm.Cond.soleField "ThreeLinkPair$Side" "state"), (Jvm.Cond.lays "ThreeLinkPair$Side" "ThreeLinkPair$Side" "age" "I"), (Jvm.Cond.soleField "ThreeLinkPair$Side" "age"), (Jvm.Cond.lays "ThreeLinkPair$Side" "ThreeLinkPair$Side" "turn" "I"), (Jvm.Cond.soleField "ThreeLinkPair$Side" "turn"), (Jvm.Cond.lays "ThreeLinkPair$Side" "ThreeLinkPair$Side" "heard" "I"), (Jvm.Cond.soleField "ThreeLinkPair$Side" "heard"), (Jvm.Cond.lays "ThreeLinkPair$Side" "ThreeLinkPair$Side" "fore" "I"), (Jvm.Cond.soleField "ThreeLinkPair$Side" "fore"), (Jvm.Cond.lays "ThreeLinkPair$Side" "ThreeLinkPair$Side" "back" "I"), (Jvm.Cond.soleField "ThreeLinkPair$Side" "back"), (Jvm.Cond.lays "ThreeLinkPair$Side" "ThreeLinkPair$Side" "foreBit" "I"), (Jvm.Cond.soleField "ThreeLinkPair$Side" "foreBit"), (Jvm.Cond.lays "ThreeLinkPair$Side" "ThreeLinkPair$Side" "backBit" "I"), (Jvm.Cond.soleField "ThreeLinkPair$Side" "backBit")]
def sl_0_12 : List Cond := [(Jvm.Cond.lays "ThreeLinkPair$Side" "ThreeLinkPair$Side" "errors" "I"), (Jvm.Cond.soleField "ThreeLinkPair$Side" "errors"), (Jvm.Cond.lays "ThreeLinkPair$Side" "ThreeLinkPair$Side" "tries" "I"), (Jvm.Cond.soleField "ThreeLinkPair$Side" "tries"), (Jvm.Cond.lays "ThreeLinkPair$Side" "ThreeLinkPair$Side" "bucket" "I"), (Jvm.Cond.soleField "ThreeLinkPair$Side" "bucket"), (Jvm.Cond.lays "ThreeLinkPair$Side" "ThreeLinkPair$Side" "good" "I"), (Jvm.Cond.soleField "ThreeLinkPair$Side" "good"), (Jvm.Cond.lays "ThreeLinkPair$Side" "ThreeLinkPair$Side" "idle" "I"), (Jvm.Cond.soleField "ThreeLinkPair$Side" "idle"), (Jvm.Cond.lays "ThreeLinkPair$Side" "ThreeLinkPair$Side" "odd" "I"), (Jvm.Cond.soleField "ThreeLinkPair$Side" "odd"), (Jvm.Cond.lays "ThreeLinkPair$Side" "ThreeLinkPair$Side" "fell" "Z"), (Jvm.Cond.soleField "ThreeLinkPair$Side" "fell"), (Jvm.Cond.lays "ThreeLinkPair$Side" "ThreeLinkPair$Side" "due" "I"), (Jvm.Cond.soleField "ThreeLinkPair$Side" "due")]
def sl_0_13 : List Cond := [(Jvm.Cond.laysFinal "ThreeLinkPair$Side" "ThreeLinkPair$Side" "sent" "Ljava/util/ArrayList;"), (Jvm.Cond.soleField "ThreeLinkPair$Side" "sent"), (Jvm.Cond.laysFinal "ThreeLinkPair$Side" "ThreeLinkPair$Side" "queued" "Ljava/util/ArrayList;"), (Jvm.Cond.soleField "ThreeLinkPair$Side" "queued"), (Jvm.Cond.laysFinal "ThreeLinkPair$Side" "ThreeLinkPair$Side" "memory" "LThreeLinkPair$Memory;"), (Jvm.Cond.soleField "ThreeLinkPair$Side" "memory"), (Jvm.Cond.laysFinal "ThreeLinkPair$Side" "ThreeLinkPair$Side" "unit" "LThreeLinkPair$Unit;"), (Jvm.Cond.soleField "ThreeLinkPair$Side" "unit"), (Jvm.Cond.superclass "ThreeLinkPair$Side" "java/lang/Object"), (Jvm.Cond.instantiable "ThreeLinkPair$Changeover" (10 : Nat)), (Jvm.Cond.methodLinkNest "ThreeLinkPair$End" (24 : Nat) ({ cls := "ThreeLinkPair$Changeover", name := "<init>", desc := "()V" } : Jvm.MethodName) "ThreeLinkPair"), (Jvm.Cond.instanceMethod ({ cls := "ThreeLinkPair$Changeover", name := "<init>", desc := "()V" } : Jvm.MethodName)), (Jvm.Cond.code ({ cls := "ThreeLinkPair$Changeover", name := "<init>", desc := "()V" } : Jvm.MethodName) prog_2_method_1_code (1 : Nat) (Option.none : Option Jvm.ClassFile.FieldType)), (Jvm.Cond.methodLink "ThreeLinkPair$Changeover" (3 : Nat) ({ cls := "java/lang/Object", name := "<init>", desc := "()V" } : Jvm.MethodName)), (Jvm.Cond.classLink "ThreeLinkPair$Changeover" (40 : Nat) "java/util/ArrayList"), (Jvm.Cond.methodLink "ThreeLinkPair$Changeover" (42 : Nat) ({ cls := "java/util/ArrayList", name := "<init>", desc := "()V" } : Jvm.MethodName))]
def sl_0_14 : List Cond := [(Jvm.Cond.fieldLink "ThreeLinkPair$Changeover" (9 : Nat) "ThreeLinkPair$Changeover" "underWay" "Z"), (Jvm.Cond.fieldLink "ThreeLinkPair" (138 : Nat) "ThreeLinkPair$Changeover" "underWay" "Z"), (Jvm.Cond.fieldLink "ThreeLinkPair$End" (167 : Nat) "ThreeLinkPair$Changeover" "underWay" "Z"), (Jvm.Cond.fieldLink "ThreeLinkPair$Changeover" (15 : Nat) "ThreeLinkPair$Changeover" "said" "Z"), (Jvm.Cond.fieldLink "ThreeLinkPair$End" (204 : Nat) "ThreeLinkPair$Changeover" "said" "Z"), (Jvm.Cond.fieldLink "ThreeLinkPair$Changeover" (18 : Nat) "ThreeLinkPair$Changeover" "settled" "Z"), (Jvm.Cond.fieldLink "ThreeLinkPair" (144 : Nat) "ThreeLinkPair$Changeover" "settled" "Z"), (Jvm.Cond.fieldLink "ThreeLinkPair$End" (170 : Nat) "ThreeLinkPair$Changeover" "settled" "Z"), (Jvm.Cond.fieldLink "ThreeLinkPair$Changeover" (21 : Nat) "ThreeLinkPair$Changeover" "waited" "I"), (Jvm.Cond.fieldLink "ThreeLinkPair$End" (208 : Nat) "ThreeLinkPair$Changeover" "waited" "I"), (Jvm.Cond.fieldLink "ThreeLinkPair$Changeover" (25 : Nat) "ThreeLinkPair$Changeover" "turn" "I"), (Jvm.Cond.fieldLink "ThreeLinkPair$End" (180 : Nat) "ThreeLinkPair$Changeover" "turn" "I"), (Jvm.Cond.fieldLink "ThreeLinkPair$Changeover" (28 : Nat) "ThreeLinkPair$Changeover" "heard" "I"), (Jvm.Cond.fieldLink "ThreeLinkPair$End" (173 : Nat) "ThreeLinkPair$Changeover" "heard" "I"), (Jvm.Cond.fieldLink "ThreeLinkPair$Changeover" (31 : Nat) "ThreeLinkPair$Changeover" "back" "I"), (Jvm.Cond.fieldLink "ThreeLinkPair$End" (207 : Nat) "ThreeLinkPair$Changeover" "back" "I")]
set_option maxRecDepth 100000 in
theorem sx_0 : tables_1_1 = sl_0_0 ++ (sl_0_1 ++ (sl_0_2 ++ (sl_0_3 ++ (sl_0_4 ++ (sl_0_5 ++ (sl_0_6 ++ (sl_0_7 ++ (sl_0_8 ++ (sl_0_9 ++ (sl_0_10 ++ (sl_0_11 ++ (sl_0_12 ++ (sl_0_13 ++ (sl_0_14)))))))))))))) := rfl
theorem su_0 : ∀ x ∈ tables_1_1, x ∈ lw_tbl := fun x h => List.mem_append_right _ (List.mem_append_left _ h)
theorem sg_0_0 : ∀ x ∈ sl_0_0, x ∈ lw_tbl := fun x h => su_0 x (by rw [sx_0]; exact List.mem_append_left _ h)
theorem sg_0_1 : ∀ x ∈ sl_0_1, x ∈ lw_tbl := fun x h => su_0 x (by rw [sx_0]; exact List.mem_append_right _ (List.mem_append_left _ h))
theorem sg_0_2 : ∀ x ∈ sl_0_2, x ∈ lw_tbl := fun x h => su_0 x (by rw [sx_0]; exact List.mem_append_right _ (List.mem_append_right _ (List.mem_append_left _ h)))
theorem sg_0_3 : ∀ x ∈ sl_0_3, x ∈ lw_tbl := fun x h => su_0 x (by rw [sx_0]; exact List.mem_append_right _ (List.mem_append_right _ (List.mem_append_right _ (List.mem_append_left _ h))))
theorem sg_0_4 : ∀ x ∈ sl_0_4, x ∈ lw_tbl := fun x h => su_0 x (by rw [sx_0]; exact List.mem_append_right _ (List.mem_append_right _ (List.mem_append_right _ (List.mem_append_right _ (List.mem_append_left _ h)))))
theorem sg_0_5 : ∀ x ∈ sl_0_5, x ∈ lw_tbl := fun x h => su_0 x (by rw [sx_0]; exact List.mem_append_right _ (List.mem_append_right _ (List.mem_append_right _ (List.mem_append_right _ (List.mem_append_right _ (List.mem_append_left _ h))))))
theorem sg_0_6 : ∀ x ∈ sl_0_6, x ∈ lw_tbl := fun x h => su_0 x (by rw [sx_0]; exact List.mem_append_right _ (List.mem_append_right _ (List.mem_append_right _ (List.mem_append_right _ (List.mem_append_right _ (List.mem_append_right _ (List.mem_append_left _ h)))))))
theorem sg_0_7 : ∀ x ∈ sl_0_7, x ∈ lw_tbl := fun x h => su_0 x (by rw [sx_0]; exact List.mem_append_right _ (List.mem_append_right _ (List.mem_append_right _ (List.mem_append_right _ (List.mem_append_right _ (List.mem_append_right _ (List.mem_append_right _ (List.mem_append_left _ h))))))))
theorem sg_0_8 : ∀ x ∈ sl_0_8, x ∈ lw_tbl := fun x h => su_0 x (by rw [sx_0]; exact List.mem_append_right _ (List.mem_append_right _ (List.mem_append_right _ (List.mem_append_right _ (List.mem_append_right _ (List.mem_append_right _ (List.mem_append_right _ (List.mem_append_right _ (List.mem_append_left _ h)))))))))
theorem sg_0_9 : ∀ x ∈ sl_0_9, x ∈ lw_tbl := fun x h => su_0 x (by rw [sx_0]; exact List.mem_append_right _ (List.mem_append_right _ (List.mem_append_right _ (List.mem_append_right _ (List.mem_append_right _ (List.mem_append_right _ (List.mem_append_right _ (List.mem_append_right _ (List.mem_append_right _ (List.mem_append_left _ h))))))))))
theorem sg_0_10 : ∀ x ∈ sl_0_10, x ∈ lw_tbl := fun x h => su_0 x (by rw [sx_0]; exact List.mem_append_right _ (List.mem_append_right _ (List.mem_append_right _ (List.mem_append_right _ (List.mem_append_right _ (List.mem_append_right _ (List.mem_append_right _ (List.mem_append_right _ (List.mem_append_right _ (List.mem_append_right _ (List.mem_append_left _ h)))))))))))
theorem sg_0_11 : ∀ x ∈ sl_0_11, x ∈ lw_tbl := fun x h => su_0 x (by rw [sx_0]; exact List.mem_append_right _ (List.mem_append_right _ (List.mem_append_right _ (List.mem_append_right _ (List.mem_append_right _ (List.mem_append_right _ (List.mem_append_right _ (List.mem_append_right _ (List.mem_append_right _ (List.mem_append_right _ (List.mem_append_right _ (List.mem_append_left _ h))))))))))))
theorem sg_0_12 : ∀ x ∈ sl_0_12, x ∈ lw_tbl := fun x h => su_0 x (by rw [sx_0]; exact List.mem_append_right _ (List.mem_append_right _ (List.mem_append_right _ (List.mem_append_right _ (List.mem_append_right _ (List.mem_append_right _ (List.mem_append_right _ (List.mem_append_right _ (List.mem_append_right _ (List.mem_append_right _ (List.mem_append_right _ (List.mem_append_right _ (List.mem_append_left _ h)))))))))))))
theorem sg_0_13 : ∀ x ∈ sl_0_13, x ∈ lw_tbl := fun x h => su_0 x (by rw [sx_0]; exact List.mem_append_right _ (List.mem_append_right _ (List.mem_append_right _ (List.mem_append_right _ (List.mem_append_right _ (List.mem_append_right _ (List.mem_append_right _ (List.mem_append_right _ (List.mem_append_right _ (List.mem_append_right _ (List.mem_append_right _ (List.mem_append_right _ (List.mem_append_right _ (List.mem_append_left _ h))))))))))))))
theorem sg_0_14 : ∀ x ∈ sl_0_14, x ∈ lw_tbl := fun x h => su_0 x (by rw [sx_0]; exact List.mem_append_right _ (List.mem_append_right _ (List.mem_append_right _ (List.mem_append_right _ (List.mem_append_right _ (List.mem_append_right _ (List.mem_append_right _ (List.mem_append_right _ (List.mem_append_right _ (List.mem_append_right _ (List.mem_append_right _ (List.mem_append_right _ (List.mem_append_right _ (List.mem_append_right _ (h)))))))))))))))
def sl_1_0 : List Cond := [(Jvm.Cond.fieldLink "ThreeLinkPair$Changeover" (34 : Nat) "ThreeLinkPair$Changeover" "numbered" "I"), (Jvm.Cond.fieldLink "ThreeLinkPair$Changeover" (37 : Nat) "ThreeLinkPair$Changeover" "firstNumber" "I"), (Jvm.Cond.fieldLink "ThreeLinkPair$Changeover" (43 : Nat) "ThreeLinkPair$Changeover" "kept" "Ljava/util/ArrayList;"), (Jvm.Cond.fieldLink "ThreeLinkPair$End" (226 : Nat) "ThreeLinkPair$Changeover" "kept" "Ljava/util/ArrayList;"), (Jvm.Cond.lays "ThreeLinkPair$Changeover" "ThreeLinkPair$Changeover" "underWay" "Z"), (Jvm.Cond.soleField "ThreeLinkPair$Changeover" "underWay"), (Jvm.Cond.lays "ThreeLinkPair$Changeover" "ThreeLinkPair$Changeover" "said" "Z"), (Jvm.Cond.soleField "ThreeLinkPair$Changeover" "said"), (Jvm.Cond.lays "ThreeLinkPair$Changeover" "ThreeLinkPair$Changeover" "settled" "Z"), (Jvm.Cond.soleField "ThreeLinkPair$Changeover" "settled"), (Jvm.Cond.lays "ThreeLinkPair$Changeover" "ThreeLinkPair$Changeover" "waited" "I"), (Jvm.Cond.soleField "ThreeLinkPair$Changeover" "waited"), (Jvm.Cond.lays "ThreeLinkPair$Changeover" "ThreeLinkPair$Changeover" "turn" "I"), (Jvm.Cond.soleField "ThreeLinkPair$Changeover" "turn"), (Jvm.Cond.lays "ThreeLinkPair$Changeover" "ThreeLinkPair$Changeover" "heard" "I"), (Jvm.Cond.soleField "ThreeLinkPair$Changeover" "heard")]
def sl_1_1 : List Cond := [(Jvm.Cond.lays "ThreeLinkPair$Changeover" "ThreeLinkPair$Changeover" "back" "I"), (Jvm.Cond.soleField "ThreeLinkPair$Changeover" "back"), (Jvm.Cond.lays "ThreeLinkPair$Changeover" "ThreeLinkPair$Changeover" "numbered" "I"), (Jvm.Cond.soleField "ThreeLinkPair$Changeover" "numbered"), (Jvm.Cond.lays "ThreeLinkPair$Changeover" "ThreeLinkPair$Changeover" "firstNumber" "I"), (Jvm.Cond.soleField "ThreeLinkPair$Changeover" "firstNumber"), (Jvm.Cond.laysFinal "ThreeLinkPair$Changeover" "ThreeLinkPair$Changeover" "kept" "Ljava/util/ArrayList;"), (Jvm.Cond.soleField "ThreeLinkPair$Changeover" "kept"), (Jvm.Cond.superclass "ThreeLinkPair$Changeover" "java/lang/Object"), (Jvm.Cond.classLink "ThreeLinkPair$End" (32 : Nat) "java/util/ArrayList"), (Jvm.Cond.methodLink "ThreeLinkPair$End" (34 : Nat) ({ cls := "java/util/ArrayList", name := "<init>", desc := "()V" } : Jvm.MethodName)), (Jvm.Cond.fieldLink "ThreeLinkPair$End" (11 : Nat) "ThreeLinkPair$End" "sides" "[LThreeLinkPair$Side;"), (Jvm.Cond.fieldLink "ThreeLinkPair" (27 : Nat) "ThreeLinkPair$End" "sides" "[LThreeLinkPair$Side;"), (Jvm.Cond.fieldLink "ThreeLinkPair$End" (19 : Nat) "ThreeLinkPair$End" "changeovers" "[LThreeLinkPair$Changeover;"), (Jvm.Cond.fieldLink "ThreeLinkPair" (134 : Nat) "ThreeLinkPair$End" "changeovers" "[LThreeLinkPair$Changeover;"), (Jvm.Cond.fieldLink "ThreeLinkPair$End" (25 : Nat) "ThreeLinkPair$End" "links" "[I")]
def sl_1_2 : List Cond := [(Jvm.Cond.fieldLink "ThreeLinkPair" (130 : Nat) "ThreeLinkPair$End" "links" "[I"), (Jvm.Cond.fieldLink "ThreeLinkPair$End" (29 : Nat) "ThreeLinkPair$End" "linksBefore" "[I"), (Jvm.Cond.fieldLink "ThreeLinkPair$End" (35 : Nat) "ThreeLinkPair$End" "held" "Ljava/util/ArrayList;"), (Jvm.Cond.fieldLink "ThreeLinkPair" (150 : Nat) "ThreeLinkPair$End" "held" "Ljava/util/ArrayList;"), (Jvm.Cond.fieldLink "ThreeLinkPair$End" (39 : Nat) "ThreeLinkPair$End" "inbox" "Ljava/util/ArrayList;"), (Jvm.Cond.fieldLink "ThreeLinkPair" (153 : Nat) "ThreeLinkPair$End" "inbox" "Ljava/util/ArrayList;"), (Jvm.Cond.fieldLink "ThreeLinkPair$End" (42 : Nat) "ThreeLinkPair$End" "lostHere" "I"), (Jvm.Cond.fieldLink "ThreeLinkPair" (179 : Nat) "ThreeLinkPair$End" "lostHere" "I"), (Jvm.Cond.laysFinal "ThreeLinkPair$End" "ThreeLinkPair$End" "sides" "[LThreeLinkPair$Side;"), (Jvm.Cond.soleField "ThreeLinkPair$End" "sides"), (Jvm.Cond.laysFinal "ThreeLinkPair$End" "ThreeLinkPair$End" "changeovers" "[LThreeLinkPair$Changeover;"), (Jvm.Cond.soleField "ThreeLinkPair$End" "changeovers"), (Jvm.Cond.laysFinal "ThreeLinkPair$End" "ThreeLinkPair$End" "links" "[I"), (Jvm.Cond.soleField "ThreeLinkPair$End" "links"), (Jvm.Cond.laysFinal "ThreeLinkPair$End" "ThreeLinkPair$End" "linksBefore" "[I"), (Jvm.Cond.soleField "ThreeLinkPair$End" "linksBefore")]
def sl_1_3 : List Cond := [(Jvm.Cond.laysFinal "ThreeLinkPair$End" "ThreeLinkPair$End" "held" "Ljava/util/ArrayList;"), (Jvm.Cond.soleField "ThreeLinkPair$End" "held"), (Jvm.Cond.laysFinal "ThreeLinkPair$End" "ThreeLinkPair$End" "inbox" "Ljava/util/ArrayList;"), (Jvm.Cond.soleField "ThreeLinkPair$End" "inbox"), (Jvm.Cond.lays "ThreeLinkPair$End" "ThreeLinkPair$End" "lostHere" "I"), (Jvm.Cond.soleField "ThreeLinkPair$End" "lostHere"), (Jvm.Cond.superclass "ThreeLinkPair$End" "java/lang/Object"), (Jvm.Cond.classLink "ThreeLinkPair" (16 : Nat) "ThreeLinkPair$Fault"), (Jvm.Cond.arrayOver (Jvm.ClassFile.FieldType.object "ThreeLinkPair$Fault")), (Jvm.Cond.instantiable "ThreeLinkPair$Fault" (2 : Nat)), (Jvm.Cond.methodLinkNest "ThreeLinkPair" (22 : Nat) ({ cls := "ThreeLinkPair$Fault", name := "<init>", desc := "()V" } : Jvm.MethodName) "ThreeLinkPair"), (Jvm.Cond.instanceMethod ({ cls := "ThreeLinkPair$Fault", name := "<init>", desc := "()V" } : Jvm.MethodName)), (Jvm.Cond.code ({ cls := "ThreeLinkPair$Fault", name := "<init>", desc := "()V" } : Jvm.MethodName) prog_4_method_1_code (1 : Nat) (Option.none : Option Jvm.ClassFile.FieldType)), (Jvm.Cond.methodLink "ThreeLinkPair$Fault" (3 : Nat) ({ cls := "java/lang/Object", name := "<init>", desc := "()V" } : Jvm.MethodName)), (Jvm.Cond.fieldLink "ThreeLinkPair$Fault" (9 : Nat) "ThreeLinkPair$Fault" "how" "I"), (Jvm.Cond.fieldLink "ThreeLinkPair" (55 : Nat) "ThreeLinkPair$Fault" "how" "I")]
def sl_1_4 : List Cond := [(Jvm.Cond.fieldLink "ThreeLinkPair$Fault" (15 : Nat) "ThreeLinkPair$Fault" "left" "I"), (Jvm.Cond.fieldLink "ThreeLinkPair" (58 : Nat) "ThreeLinkPair$Fault" "left" "I"), (Jvm.Cond.lays "ThreeLinkPair$Fault" "ThreeLinkPair$Fault" "how" "I"), (Jvm.Cond.soleField "ThreeLinkPair$Fault" "how"), (Jvm.Cond.lays "ThreeLinkPair$Fault" "ThreeLinkPair$Fault" "left" "I"), (Jvm.Cond.soleField "ThreeLinkPair$Fault" "left"), (Jvm.Cond.superclass "ThreeLinkPair$Fault" "java/lang/Object"), (Jvm.Cond.fieldLink "ThreeLinkPair" (11 : Nat) "ThreeLinkPair" "ends" "[LThreeLinkPair$End;"), (Jvm.Cond.fieldLink "ThreeLinkPair" (18 : Nat) "ThreeLinkPair" "faults" "[LThreeLinkPair$Fault;"), (Jvm.Cond.laysFinal "ThreeLinkPair" "ThreeLinkPair" "ends" "[LThreeLinkPair$End;"), (Jvm.Cond.soleField "ThreeLinkPair" "ends"), (Jvm.Cond.laysFinal "ThreeLinkPair" "ThreeLinkPair" "faults" "[LThreeLinkPair$Fault;"), (Jvm.Cond.soleField "ThreeLinkPair" "faults"), (Jvm.Cond.superclass "ThreeLinkPair" "java/lang/Object"), (Jvm.Cond.methodLink "ThreeLinkPairLaw" (80 : Nat) ({ cls := "ThreeLinkPair", name := "tick", desc := "()I" } : Jvm.MethodName)), (Jvm.Cond.instanceMethod ({ cls := "ThreeLinkPair", name := "tick", desc := "()I" } : Jvm.MethodName))]
def sl_1_5 : List Cond := [(Jvm.Cond.selects "ThreeLinkPair" ({ cls := "ThreeLinkPair", name := "tick", desc := "()I" } : Jvm.MethodName) ({ cls := "ThreeLinkPair", name := "tick", desc := "()I" } : Jvm.MethodName)), (Jvm.Cond.code ({ cls := "ThreeLinkPair", name := "tick", desc := "()I" } : Jvm.MethodName) prog_1_method_6_code (4 : Nat) (Option.some Jvm.ClassFile.FieldType.int)), (Jvm.Cond.methodLink "ThreeLinkPair" (68 : Nat) ({ cls := "ThreeLinkPair", name := "arrive", desc := "(II)I" } : Jvm.MethodName)), (Jvm.Cond.privateMethod ({ cls := "ThreeLinkPair", name := "arrive", desc := "(II)I" } : Jvm.MethodName)), (Jvm.Cond.instanceMethod ({ cls := "ThreeLinkPair", name := "arrive", desc := "(II)I" } : Jvm.MethodName)), (Jvm.Cond.code ({ cls := "ThreeLinkPair", name := "arrive", desc := "(II)I" } : Jvm.MethodName) prog_1_method_19_code (5 : Nat) (Option.some Jvm.ClassFile.FieldType.int)), (Jvm.Cond.methodLink "ThreeLinkPair" (51 : Nat) ({ cls := "ThreeLinkPair", name := "faultPlace", desc := "(II)I" } : Jvm.MethodName)), (Jvm.Cond.static ({ cls := "ThreeLinkPair", name := "faultPlace", desc := "(II)I" } : Jvm.MethodName)), (Jvm.Cond.code ({ cls := "ThreeLinkPair", name := "faultPlace", desc := "(II)I" } : Jvm.MethodName) prog_1_method_18_code (2 : Nat) (Option.some Jvm.ClassFile.FieldType.int)), (Jvm.Cond.methodLink "ThreeLinkPair" (197 : Nat) ({ cls := "ThreeLinkPair$End", name := "damagedComes", desc := "(I)V" } : Jvm.MethodName)), (Jvm.Cond.instanceMethod ({ cls := "ThreeLinkPair$End", name := "damagedComes", desc := "(I)V" } : Jvm.MethodName)), (Jvm.Cond.selects "ThreeLinkPair$End" ({ cls := "ThreeLinkPair$End", name := "damagedComes", desc := "(I)V" } : Jvm.MethodName) ({ cls := "ThreeLinkPair$End", name := "damagedComes", desc := "(I)V" } : Jvm.MethodName)), (Jvm.Cond.code ({ cls := "ThreeLinkPair$End", name := "damagedComes", desc := "(I)V" } : Jvm.MethodName) prog_3_method_4_code (2 : Nat) (Option.none : Option Jvm.ClassFile.FieldType)), (Jvm.Cond.methodLink "ThreeLinkPair$End" (87 : Nat) ({ cls := "ThreeLinkPair$Side", name := "failsByDamage", desc := "()Z" } : Jvm.MethodName)), (Jvm.Cond.instanceMethod ({ cls := "ThreeLinkPair$Side", name := "failsByDamage", desc := "()Z" } : Jvm.MethodName)), (Jvm.Cond.selects "ThreeLinkPair$Side" ({ cls := "ThreeLinkPair$Side", name := "failsByDamage", desc := "()Z" } : Jvm.MethodName) ({ cls := "ThreeLinkPair$Side", name := "failsByDamage", desc := "()Z" } : Jvm.MethodName))]
def sl_1_6 : List Cond := [(Jvm.Cond.code ({ cls := "ThreeLinkPair$Side", name := "failsByDamage", desc := "()Z" } : Jvm.MethodName) prog_7_method_11_code (1 : Nat) (Option.some Jvm.ClassFile.FieldType.boolean)), (Jvm.Cond.methodLink "ThreeLinkPair$End" (84 : Nat) ({ cls := "ThreeLinkPair$End", name := "fall", desc := "(I)V" } : Jvm.MethodName)), (Jvm.Cond.instanceMethod ({ cls := "ThreeLinkPair$End", name := "fall", desc := "(I)V" } : Jvm.MethodName)), (Jvm.Cond.selects "ThreeLinkPair$End" ({ cls := "ThreeLinkPair$End", name := "fall", desc := "(I)V" } : Jvm.MethodName) ({ cls := "ThreeLinkPair$End", name := "fall", desc := "(I)V" } : Jvm.MethodName)), (Jvm.Cond.code ({ cls := "ThreeLinkPair$End", name := "fall", desc := "(I)V" } : Jvm.MethodName) prog_3_method_2_code (4 : Nat) (Option.none : Option Jvm.ClassFile.FieldType)), (Jvm.Cond.methodLink "ThreeLinkPair$End" (49 : Nat) ({ cls := "ThreeLinkPair$Side", name := "comeTo", desc := "(I)V" } : Jvm.MethodName)), (Jvm.Cond.instanceMethod ({ cls := "ThreeLinkPair$Side", name := "comeTo", desc := "(I)V" } : Jvm.MethodName)), (Jvm.Cond.selects "ThreeLinkPair$Side" ({ cls := "ThreeLinkPair$Side", name := "comeTo", desc := "(I)V" } : Jvm.MethodName) ({ cls := "ThreeLinkPair$Side", name := "comeTo", desc := "(I)V" } : Jvm.MethodName)), (Jvm.Cond.code ({ cls := "ThreeLinkPair$Side", name := "comeTo", desc := "(I)V" } : Jvm.MethodName) prog_7_method_3_code (2 : Nat) (Option.none : Option Jvm.ClassFile.FieldType)), (Jvm.Cond.methodLink "ThreeLinkPair$End" (67 : Nat) ({ cls := "ThreeLinkPair$Memory", name := "keep", desc := "(II)V" } : Jvm.MethodName)), (Jvm.Cond.instanceMethod ({ cls := "ThreeLinkPair$Memory", name := "keep", desc := "(II)V" } : Jvm.MethodName)), (Jvm.Cond.selects "ThreeLinkPair$Memory" ({ cls := "ThreeLinkPair$Memory", name := "keep", desc := "(II)V" } : Jvm.MethodName) ({ cls := "ThreeLinkPair$Memory", name := "keep", desc := "(II)V" } : Jvm.MethodName)), (Jvm.Cond.code ({ cls := "ThreeLinkPair$Memory", name := "keep", desc := "(II)V" } : Jvm.MethodName) prog_5_method_2_code (4 : Nat) (Option.none : Option Jvm.ClassFile.FieldType)), (Jvm.Cond.methodLink "ThreeLinkPair$Memory" (24 : Nat) ({ cls := "java/lang/Math", name := "floorMod", desc := "(II)I" } : Jvm.MethodName)), (Jvm.Cond.static ({ cls := "java/lang/Math", name := "floorMod", desc := "(II)I" } : Jvm.MethodName)), (Jvm.Cond.code ({ cls := "java/lang/Math", name := "floorMod", desc := "(II)I" } : Jvm.MethodName) prog_17_method_50_code (3 : Nat) (Option.some Jvm.ClassFile.FieldType.int))]
def sl_1_7 : List Cond := [(Jvm.Cond.methodLink "ThreeLinkPair$End" (73 : Nat) ({ cls := "ThreeLinkPair$Changeover", name := "begin", desc := "(LThreeLinkPair$Side;)V" } : Jvm.MethodName)), (Jvm.Cond.instanceMethod ({ cls := "ThreeLinkPair$Changeover", name := "begin", desc := "(LThreeLinkPair$Side;)V" } : Jvm.MethodName)), (Jvm.Cond.selects "ThreeLinkPair$Changeover" ({ cls := "ThreeLinkPair$Changeover", name := "begin", desc := "(LThreeLinkPair$Side;)V" } : Jvm.MethodName) ({ cls := "ThreeLinkPair$Changeover", name := "begin", desc := "(LThreeLinkPair$Side;)V" } : Jvm.MethodName)), (Jvm.Cond.code ({ cls := "ThreeLinkPair$Changeover", name := "begin", desc := "(LThreeLinkPair$Side;)V" } : Jvm.MethodName) prog_2_method_2_code (3 : Nat) (Option.none : Option Jvm.ClassFile.FieldType)), (Jvm.Cond.methodLink "ThreeLinkPair$Changeover" (55 : Nat) ({ cls := "java/util/ArrayList", name := "size", desc := "()I" } : Jvm.MethodName)), (Jvm.Cond.instanceMethod ({ cls := "java/util/ArrayList", name := "size", desc := "()I" } : Jvm.MethodName)), (Jvm.Cond.selects "java/util/ArrayList" ({ cls := "java/util/ArrayList", name := "size", desc := "()I" } : Jvm.MethodName) ({ cls := "java/util/ArrayList", name := "size", desc := "()I" } : Jvm.MethodName)), (Jvm.Cond.code ({ cls := "java/util/ArrayList", name := "size", desc := "()I" } : Jvm.MethodName) prog_24_method_8_code (1 : Nat) (Option.some Jvm.ClassFile.FieldType.int)), (Jvm.Cond.methodLink "ThreeLinkPair$Changeover" (62 : Nat) ({ cls := "java/util/ArrayList", name := "get", desc := "(I)Ljava/lang/Object;" } : Jvm.MethodName)), (Jvm.Cond.instanceMethod ({ cls := "java/util/ArrayList", name := "get", desc := "(I)Ljava/lang/Object;" } : Jvm.MethodName)), (Jvm.Cond.selects "java/util/ArrayList" ({ cls := "java/util/ArrayList", name := "get", desc := "(I)Ljava/lang/Object;" } : Jvm.MethodName) ({ cls := "java/util/ArrayList", name := "get", desc := "(I)Ljava/lang/Object;" } : Jvm.MethodName)), (Jvm.Cond.code ({ cls := "java/util/ArrayList", name := "get", desc := "(I)Ljava/lang/Object;" } : Jvm.MethodName) prog_24_method_20_code (2 : Nat) (Option.some (Jvm.ClassFile.FieldType.object "java/lang/Object"))), (Jvm.Cond.methodLink "java/util/ArrayList" (118 : Nat) ({ cls := "java/util/Objects", name := "checkIndex", desc := "(II)I" } : Jvm.MethodName)), (Jvm.Cond.static ({ cls := "java/util/Objects", name := "checkIndex", desc := "(II)I" } : Jvm.MethodName)), (Jvm.Cond.code ({ cls := "java/util/Objects", name := "checkIndex", desc := "(II)I" } : Jvm.MethodName) prog_29_method_17_code (2 : Nat) (Option.some Jvm.ClassFile.FieldType.int)), (Jvm.Cond.methodLink "java/util/Objects" (105 : Nat) ({ cls := "jdk/internal/util/Preconditions", name := "checkIndex", desc := "(IILjava/util/function/BiFunction;)I" } : Jvm.MethodName))]
def sl_1_8 : List Cond := [(Jvm.Cond.static ({ cls := "jdk/internal/util/Preconditions", name := "checkIndex", desc := "(IILjava/util/function/BiFunction;)I" } : Jvm.MethodName)), (Jvm.Cond.code ({ cls := "jdk/internal/util/Preconditions", name := "checkIndex", desc := "(IILjava/util/function/BiFunction;)I" } : Jvm.MethodName) prog_33_method_11_code (3 : Nat) (Option.some Jvm.ClassFile.FieldType.int)), (Jvm.Cond.methodLink "java/util/ArrayList" (123 : Nat) ({ cls := "java/util/ArrayList", name := "elementData", desc := "(I)Ljava/lang/Object;" } : Jvm.MethodName)), (Jvm.Cond.instanceMethod ({ cls := "java/util/ArrayList", name := "elementData", desc := "(I)Ljava/lang/Object;" } : Jvm.MethodName)), (Jvm.Cond.selects "java/util/ArrayList" ({ cls := "java/util/ArrayList", name := "elementData", desc := "(I)Ljava/lang/Object;" } : Jvm.MethodName) ({ cls := "java/util/ArrayList", name := "elementData", desc := "(I)Ljava/lang/Object;" } : Jvm.MethodName)), (Jvm.Cond.code ({ cls := "java/util/ArrayList", name := "elementData", desc := "(I)Ljava/lang/Object;" } : Jvm.MethodName) prog_24_method_18_code (2 : Nat) (Option.some (Jvm.ClassFile.FieldType.object "java/lang/Object"))), (Jvm.Cond.classLink "ThreeLinkPair$Changeover" (66 : Nat) "ThreeLinkPair$Message"), (Jvm.Cond.methodLink "ThreeLinkPair$Changeover" (68 : Nat) ({ cls := "java/util/ArrayList", name := "add", desc := "(Ljava/lang/Object;)Z" } : Jvm.MethodName)), (Jvm.Cond.instanceMethod ({ cls := "java/util/ArrayList", name := "add", desc := "(Ljava/lang/Object;)Z" } : Jvm.MethodName)), (Jvm.Cond.selects "java/util/ArrayList" ({ cls := "java/util/ArrayList", name := "add", desc := "(Ljava/lang/Object;)Z" } : Jvm.MethodName) ({ cls := "java/util/ArrayList", name := "add", desc := "(Ljava/lang/Object;)Z" } : Jvm.MethodName)), (Jvm.Cond.code ({ cls := "java/util/ArrayList", name := "add", desc := "(Ljava/lang/Object;)Z" } : Jvm.MethodName) prog_24_method_25_code (2 : Nat) (Option.some Jvm.ClassFile.FieldType.boolean)), (Jvm.Cond.methodLink "java/util/ArrayList" (131 : Nat) ({ cls := "java/util/ArrayList", name := "add", desc := "(Ljava/lang/Object;[Ljava/lang/Object;I)V" } : Jvm.MethodName)), (Jvm.Cond.privateMethod ({ cls := "java/util/ArrayList", name := "add", desc := "(Ljava/lang/Object;[Ljava/lang/Object;I)V" } : Jvm.MethodName)), (Jvm.Cond.instanceMethod ({ cls := "java/util/ArrayList", name := "add", desc := "(Ljava/lang/Object;[Ljava/lang/Object;I)V" } : Jvm.MethodName)), (Jvm.Cond.code ({ cls := "java/util/ArrayList", name := "add", desc := "(Ljava/lang/Object;[Ljava/lang/Object;I)V" } : Jvm.MethodName) prog_24_method_24_code (4 : Nat) (Option.none : Option Jvm.ClassFile.FieldType)), (Jvm.Cond.methodLink "java/util/ArrayList" (129 : Nat) ({ cls := "java/util/ArrayList", name := "grow", desc := "()[Ljava/lang/Object;" } : Jvm.MethodName))]
def sl_1_9 : List Cond := [(Jvm.Cond.privateMethod ({ cls := "java/util/ArrayList", name := "grow", desc := "()[Ljava/lang/Object;" } : Jvm.MethodName)), (Jvm.Cond.instanceMethod ({ cls := "java/util/ArrayList", name := "grow", desc := "()[Ljava/lang/Object;" } : Jvm.MethodName)), (Jvm.Cond.code ({ cls := "java/util/ArrayList", name := "grow", desc := "()[Ljava/lang/Object;" } : Jvm.MethodName) prog_24_method_7_code (1 : Nat) (Option.some (Jvm.ClassFile.FieldType.array (Jvm.ClassFile.FieldType.object "java/lang/Object")))), (Jvm.Cond.methodLink "java/util/ArrayList" (69 : Nat) ({ cls := "java/util/ArrayList", name := "grow", desc := "(I)[Ljava/lang/Object;" } : Jvm.MethodName)), (Jvm.Cond.privateMethod ({ cls := "java/util/ArrayList", name := "grow", desc := "(I)[Ljava/lang/Object;" } : Jvm.MethodName)), (Jvm.Cond.instanceMethod ({ cls := "java/util/ArrayList", name := "grow", desc := "(I)[Ljava/lang/Object;" } : Jvm.MethodName)), (Jvm.Cond.code ({ cls := "java/util/ArrayList", name := "grow", desc := "(I)[Ljava/lang/Object;" } : Jvm.MethodName) prog_24_method_6_code (4 : Nat) (Option.some (Jvm.ClassFile.FieldType.array (Jvm.ClassFile.FieldType.object "java/lang/Object")))), (Jvm.Cond.methodLink "java/util/ArrayList" (73 : Nat) ({ cls := "jdk/internal/util/ArraysSupport", name := "newLength", desc := "(III)I" } : Jvm.MethodName)), (Jvm.Cond.static ({ cls := "jdk/internal/util/ArraysSupport", name := "newLength", desc := "(III)I" } : Jvm.MethodName)), (Jvm.Cond.code ({ cls := "jdk/internal/util/ArraysSupport", name := "newLength", desc := "(III)I" } : Jvm.MethodName) prog_32_method_27_code (4 : Nat) (Option.some Jvm.ClassFile.FieldType.int)), (Jvm.Cond.methodLink "jdk/internal/util/ArraysSupport" (194 : Nat) ({ cls := "java/lang/Math", name := "max", desc := "(II)I" } : Jvm.MethodName)), (Jvm.Cond.static ({ cls := "java/lang/Math", name := "max", desc := "(II)I" } : Jvm.MethodName)), (Jvm.Cond.code ({ cls := "java/lang/Math", name := "max", desc := "(II)I" } : Jvm.MethodName) prog_17_method_65_code (2 : Nat) (Option.some Jvm.ClassFile.FieldType.int)), (Jvm.Cond.constant "jdk/internal/util/ArraysSupport" (200 : Nat) (2147483639 : Int32)), (Jvm.Cond.methodLink "jdk/internal/util/ArraysSupport" (201 : Nat) ({ cls := "jdk/internal/util/ArraysSupport", name := "hugeLength", desc := "(II)I" } : Jvm.MethodName)), (Jvm.Cond.static ({ cls := "jdk/internal/util/ArraysSupport", name := "hugeLength", desc := "(II)I" } : Jvm.MethodName))]
def sl_1_10 : List Cond := [(Jvm.Cond.code ({ cls := "jdk/internal/util/ArraysSupport", name := "hugeLength", desc := "(II)I" } : Jvm.MethodName) prog_32_method_28_code (3 : Nat) (Option.some Jvm.ClassFile.FieldType.int)), (Jvm.Cond.methodLink "java/util/ArrayList" (66 : Nat) ({ cls := "java/util/Arrays", name := "copyOf", desc := "([Ljava/lang/Object;I)[Ljava/lang/Object;" } : Jvm.MethodName)), (Jvm.Cond.static ({ cls := "java/util/Arrays", name := "copyOf", desc := "([Ljava/lang/Object;I)[Ljava/lang/Object;" } : Jvm.MethodName)), (Jvm.Cond.code ({ cls := "java/util/Arrays", name := "copyOf", desc := "([Ljava/lang/Object;I)[Ljava/lang/Object;" } : Jvm.MethodName) prog_25_method_119_code (2 : Nat) (Option.some (Jvm.ClassFile.FieldType.array (Jvm.ClassFile.FieldType.object "java/lang/Object")))), (Jvm.Cond.methodLink "java/util/Arrays" (86 : Nat) ({ cls := "java/lang/Object", name := "getClass", desc := "()Ljava/lang/Class;" } : Jvm.MethodName)), (Jvm.Cond.instanceMethod ({ cls := "java/lang/Object", name := "getClass", desc := "()Ljava/lang/Class;" } : Jvm.MethodName)), (Jvm.Cond.sameMethod "java/lang/Object" "java/lang/Object" "getClass" "()Ljava/lang/Class;"), (Jvm.Cond.selects "ThreeLinkPair" ({ cls := "java/lang/Object", name := "getClass", desc := "()Ljava/lang/Class;" } : Jvm.MethodName) ({ cls := "java/lang/Object", name := "getClass", desc := "()Ljava/lang/Class;" } : Jvm.MethodName)), (Jvm.Cond.selects "ThreeLinkPair$Changeover" ({ cls := "java/lang/Object", name := "getClass", desc := "()Ljava/lang/Class;" } : Jvm.MethodName) ({ cls := "java/lang/Object", name := "getClass", desc := "()Ljava/lang/Class;" } : Jvm.MethodName)), (Jvm.Cond.selects "ThreeLinkPair$End" ({ cls := "java/lang/Object", name := "getClass", desc := "()Ljava/lang/Class;" } : Jvm.MethodName) ({ cls := "java/lang/Object", name := "getClass", desc := "()Ljava/lang/Class;" } : Jvm.MethodName)), (Jvm.Cond.selects "ThreeLinkPair$Fault" ({ cls := "java/lang/Object", name := "getClass", desc := "()Ljava/lang/Class;" } : Jvm.MethodName) ({ cls := "java/lang/Object", name := "getClass", desc := "()Ljava/lang/Class;" } : Jvm.MethodName)), (Jvm.Cond.selects "ThreeLinkPair$Memory" ({ cls := "java/lang/Object", name := "getClass", desc := "()Ljava/lang/Class;" } : Jvm.MethodName) ({ cls := "java/lang/Object", name := "getClass", desc := "()Ljava/lang/Class;" } : Jvm.MethodName)), (Jvm.Cond.selects "ThreeLinkPair$Message" ({ cls := "java/lang/Object", name := "getClass", desc := "()Ljava/lang/Class;" } : Jvm.MethodName) ({ cls := "java/lang/Object", name := "getClass", desc := "()Ljava/lang/Class;" } : Jvm.MethodName)), (Jvm.Cond.selects "ThreeLinkPair$Side" ({ cls := "java/lang/Object", name := "getClass", desc := "()Ljava/lang/Class;" } : Jvm.MethodName) ({ cls := "java/lang/Object", name := "getClass", desc := "()Ljava/lang/Class;" } : Jvm.MethodName)), (Jvm.Cond.selects "ThreeLinkPair$Unit" ({ cls := "java/lang/Object", name := "getClass", desc := "()Ljava/lang/Class;" } : Jvm.MethodName) ({ cls := "java/lang/Object", name := "getClass", desc := "()Ljava/lang/Class;" } : Jvm.MethodName)), (Jvm.Cond.selects "ThreeLinkPairModel" ({ cls := "java/lang/Object", name := "getClass", desc := "()Ljava/lang/Class;" } : Jvm.MethodName) ({ cls := "java/lang/Object", name := "getClass", desc := "()Ljava/lang/Class;" } : Jvm.MethodName))]
def sl_1_11 : List Cond := [(Jvm.Cond.selects "java/lang/IllegalArgumentException" ({ cls := "java/lang/Object", name := "getClass", desc := "()Ljava/lang/Class;" } : Jvm.MethodName) ({ cls := "java/lang/Object", name := "getClass", desc := "()Ljava/lang/Class;" } : Jvm.MethodName)), (Jvm.Cond.selects "java/lang/IndexOutOfBoundsException" ({ cls := "java/lang/Object", name := "getClass", desc := "()Ljava/lang/Class;" } : Jvm.MethodName) ({ cls := "java/lang/Object", name := "getClass", desc := "()Ljava/lang/Class;" } : Jvm.MethodName)), (Jvm.Cond.selects "java/util/ArrayList" ({ cls := "java/lang/Object", name := "getClass", desc := "()Ljava/lang/Class;" } : Jvm.MethodName) ({ cls := "java/lang/Object", name := "getClass", desc := "()Ljava/lang/Class;" } : Jvm.MethodName)), (Jvm.Cond.selects "java/util/NoSuchElementException" ({ cls := "java/lang/Object", name := "getClass", desc := "()Ljava/lang/Class;" } : Jvm.MethodName) ({ cls := "java/lang/Object", name := "getClass", desc := "()Ljava/lang/Class;" } : Jvm.MethodName)), (Jvm.Cond.native ({ cls := "java/lang/Object", name := "getClass", desc := "()Ljava/lang/Class;" } : Jvm.MethodName)), (Jvm.Cond.methodLink "java/util/Arrays" (300 : Nat) ({ cls := "java/util/Arrays", name := "copyOf", desc := "([Ljava/lang/Object;ILjava/lang/Class;)[Ljava/lang/Object;" } : Jvm.MethodName)), (Jvm.Cond.static ({ cls := "java/util/Arrays", name := "copyOf", desc := "([Ljava/lang/Object;ILjava/lang/Class;)[Ljava/lang/Object;" } : Jvm.MethodName)), (Jvm.Cond.code ({ cls := "java/util/Arrays", name := "copyOf", desc := "([Ljava/lang/Object;ILjava/lang/Class;)[Ljava/lang/Object;" } : Jvm.MethodName) prog_25_method_120_code (4 : Nat) (Option.some (Jvm.ClassFile.FieldType.array (Jvm.ClassFile.FieldType.object "java/lang/Object")))), (Jvm.Cond.classLink "java/util/Arrays" (110 : Nat) "[Ljava/lang/Object;"), (Jvm.Cond.arrayOver (Jvm.ClassFile.FieldType.object "java/lang/Object")), (Jvm.Cond.classLink "java/util/Arrays" (2 : Nat) "java/lang/Object"), (Jvm.Cond.methodLink "java/util/Arrays" (304 : Nat) ({ cls := "java/lang/Math", name := "min", desc := "(II)I" } : Jvm.MethodName)), (Jvm.Cond.static ({ cls := "java/lang/Math", name := "min", desc := "(II)I" } : Jvm.MethodName)), (Jvm.Cond.code ({ cls := "java/lang/Math", name := "min", desc := "(II)I" } : Jvm.MethodName) prog_17_method_69_code (2 : Nat) (Option.some Jvm.ClassFile.FieldType.int)), (Jvm.Cond.methodLink "java/util/Arrays" (150 : Nat) ({ cls := "java/lang/System", name := "arraycopy", desc := "(Ljava/lang/Object;ILjava/lang/Object;II)V" } : Jvm.MethodName)), (Jvm.Cond.static ({ cls := "java/lang/System", name := "arraycopy", desc := "(Ljava/lang/Object;ILjava/lang/Object;II)V" } : Jvm.MethodName))]
def sl_1_12 : List Cond := [(Jvm.Cond.native ({ cls := "java/lang/System", name := "arraycopy", desc := "(Ljava/lang/Object;ILjava/lang/Object;II)V" } : Jvm.MethodName)), (Jvm.Cond.methodLink "java/util/ArrayList" (79 : Nat) ({ cls := "java/lang/Math", name := "max", desc := "(II)I" } : Jvm.MethodName)), (Jvm.Cond.classLink "java/util/ArrayList" (7 : Nat) "java/lang/Object"), (Jvm.Cond.methodLink "ThreeLinkPair$End" (77 : Nat) ({ cls := "ThreeLinkPair$Side", name := "clearRows", desc := "()V" } : Jvm.MethodName)), (Jvm.Cond.instanceMethod ({ cls := "ThreeLinkPair$Side", name := "clearRows", desc := "()V" } : Jvm.MethodName)), (Jvm.Cond.selects "ThreeLinkPair$Side" ({ cls := "ThreeLinkPair$Side", name := "clearRows", desc := "()V" } : Jvm.MethodName) ({ cls := "ThreeLinkPair$Side", name := "clearRows", desc := "()V" } : Jvm.MethodName)), (Jvm.Cond.code ({ cls := "ThreeLinkPair$Side", name := "clearRows", desc := "()V" } : Jvm.MethodName) prog_7_method_4_code (1 : Nat) (Option.none : Option Jvm.ClassFile.FieldType)), (Jvm.Cond.methodLink "ThreeLinkPair$Side" (92 : Nat) ({ cls := "java/util/ArrayList", name := "clear", desc := "()V" } : Jvm.MethodName)), (Jvm.Cond.instanceMethod ({ cls := "java/util/ArrayList", name := "clear", desc := "()V" } : Jvm.MethodName)), (Jvm.Cond.selects "java/util/ArrayList" ({ cls := "java/util/ArrayList", name := "clear", desc := "()V" } : Jvm.MethodName) ({ cls := "java/util/ArrayList", name := "clear", desc := "()V" } : Jvm.MethodName)), (Jvm.Cond.code ({ cls := "java/util/ArrayList", name := "clear", desc := "()V" } : Jvm.MethodName) prog_24_method_40_code (4 : Nat) (Option.none : Option Jvm.ClassFile.FieldType)), (Jvm.Cond.methodLink "ThreeLinkPair" (200 : Nat) ({ cls := "ThreeLinkPair$End", name := "numberedComes", desc := "(ILThreeLinkPair$Unit;)V" } : Jvm.MethodName)), (Jvm.Cond.instanceMethod ({ cls := "ThreeLinkPair$End", name := "numberedComes", desc := "(ILThreeLinkPair$Unit;)V" } : Jvm.MethodName)), (Jvm.Cond.selects "ThreeLinkPair$End" ({ cls := "ThreeLinkPair$End", name := "numberedComes", desc := "(ILThreeLinkPair$Unit;)V" } : Jvm.MethodName) ({ cls := "ThreeLinkPair$End", name := "numberedComes", desc := "(ILThreeLinkPair$Unit;)V" } : Jvm.MethodName)), (Jvm.Cond.code ({ cls := "ThreeLinkPair$End", name := "numberedComes", desc := "(ILThreeLinkPair$Unit;)V" } : Jvm.MethodName) prog_3_method_9_code (5 : Nat) (Option.none : Option Jvm.ClassFile.FieldType)), (Jvm.Cond.methodLink "ThreeLinkPair$End" (113 : Nat) ({ cls := "ThreeLinkPair$Side", name := "countGood", desc := "()V" } : Jvm.MethodName))]
def sl_1_13 : List Cond := [(Jvm.Cond.instanceMethod ({ cls := "ThreeLinkPair$Side", name := "countGood", desc := "()V" } : Jvm.MethodName)), (Jvm.Cond.selects "ThreeLinkPair$Side" ({ cls := "ThreeLinkPair$Side", name := "countGood", desc := "()V" } : Jvm.MethodName) ({ cls := "ThreeLinkPair$Side", name := "countGood", desc := "()V" } : Jvm.MethodName)), (Jvm.Cond.code ({ cls := "ThreeLinkPair$Side", name := "countGood", desc := "()V" } : Jvm.MethodName) prog_7_method_7_code (1 : Nat) (Option.none : Option Jvm.ClassFile.FieldType)), (Jvm.Cond.methodLink "ThreeLinkPair$End" (117 : Nat) ({ cls := "ThreeLinkPair$Side", name := "answered", desc := "(I)Z" } : Jvm.MethodName)), (Jvm.Cond.instanceMethod ({ cls := "ThreeLinkPair$Side", name := "answered", desc := "(I)Z" } : Jvm.MethodName)), (Jvm.Cond.selects "ThreeLinkPair$Side" ({ cls := "ThreeLinkPair$Side", name := "answered", desc := "(I)Z" } : Jvm.MethodName) ({ cls := "ThreeLinkPair$Side", name := "answered", desc := "(I)Z" } : Jvm.MethodName)), (Jvm.Cond.code ({ cls := "ThreeLinkPair$Side", name := "answered", desc := "(I)Z" } : Jvm.MethodName) prog_7_method_8_code (3 : Nat) (Option.some Jvm.ClassFile.FieldType.boolean)), (Jvm.Cond.methodLink "ThreeLinkPair$Side" (99 : Nat) ({ cls := "java/util/ArrayList", name := "size", desc := "()I" } : Jvm.MethodName)), (Jvm.Cond.methodLink "ThreeLinkPair$Side" (112 : Nat) ({ cls := "java/lang/Math", name := "floorMod", desc := "(II)I" } : Jvm.MethodName)), (Jvm.Cond.methodLinkNest "ThreeLinkPair$Side" (118 : Nat) ({ cls := "ThreeLinkPair", name := "dropFirst", desc := "(Ljava/util/ArrayList;I)V" } : Jvm.MethodName) "ThreeLinkPair"), (Jvm.Cond.static ({ cls := "ThreeLinkPair", name := "dropFirst", desc := "(Ljava/util/ArrayList;I)V" } : Jvm.MethodName)), (Jvm.Cond.code ({ cls := "ThreeLinkPair", name := "dropFirst", desc := "(Ljava/util/ArrayList;I)V" } : Jvm.MethodName) prog_1_method_20_code (3 : Nat) (Option.none : Option Jvm.ClassFile.FieldType)), (Jvm.Cond.methodLink "ThreeLinkPair" (156 : Nat) ({ cls := "java/util/ArrayList", name := "isEmpty", desc := "()Z" } : Jvm.MethodName)), (Jvm.Cond.instanceMethod ({ cls := "java/util/ArrayList", name := "isEmpty", desc := "()Z" } : Jvm.MethodName)), (Jvm.Cond.selects "java/util/ArrayList" ({ cls := "java/util/ArrayList", name := "isEmpty", desc := "()Z" } : Jvm.MethodName) ({ cls := "java/util/ArrayList", name := "isEmpty", desc := "()Z" } : Jvm.MethodName)), (Jvm.Cond.code ({ cls := "java/util/ArrayList", name := "isEmpty", desc := "()Z" } : Jvm.MethodName) prog_24_method_9_code (1 : Nat) (Option.some Jvm.ClassFile.FieldType.boolean))]
def sl_1_14 : List Cond := [(Jvm.Cond.methodLink "ThreeLinkPair" (165 : Nat) ({ cls := "java/util/ArrayList", name := "remove", desc := "(I)Ljava/lang/Object;" } : Jvm.MethodName)), (Jvm.Cond.instanceMethod ({ cls := "java/util/ArrayList", name := "remove", desc := "(I)Ljava/lang/Object;" } : Jvm.MethodName)), (Jvm.Cond.selects "java/util/ArrayList" ({ cls := "java/util/ArrayList", name := "remove", desc := "(I)Ljava/lang/Object;" } : Jvm.MethodName) ({ cls := "java/util/ArrayList", name := "remove", desc := "(I)Ljava/lang/Object;" } : Jvm.MethodName)), (Jvm.Cond.code ({ cls := "java/util/ArrayList", name := "remove", desc := "(I)Ljava/lang/Object;" } : Jvm.MethodName) prog_24_method_29_code (4 : Nat) (Option.some (Jvm.ClassFile.FieldType.object "java/lang/Object"))), (Jvm.Cond.methodLink "java/util/ArrayList" (144 : Nat) ({ cls := "java/util/ArrayList", name := "fastRemove", desc := "([Ljava/lang/Object;I)V" } : Jvm.MethodName)), (Jvm.Cond.privateMethod ({ cls := "java/util/ArrayList", name := "fastRemove", desc := "([Ljava/lang/Object;I)V" } : Jvm.MethodName)), (Jvm.Cond.instanceMethod ({ cls := "java/util/ArrayList", name := "fastRemove", desc := "([Ljava/lang/Object;I)V" } : Jvm.MethodName)), (Jvm.Cond.code ({ cls := "java/util/ArrayList", name := "fastRemove", desc := "([Ljava/lang/Object;I)V" } : Jvm.MethodName) prog_24_method_39_code (4 : Nat) (Option.none : Option Jvm.ClassFile.FieldType)), (Jvm.Cond.methodLink "java/util/ArrayList" (112 : Nat) ({ cls := "java/lang/System", name := "arraycopy", desc := "(Ljava/lang/Object;ILjava/lang/Object;II)V" } : Jvm.MethodName)), (Jvm.Cond.methodLink "ThreeLinkPair$Side" (122 : Nat) ({ cls := "java/lang/Math", name := "min", desc := "(II)I" } : Jvm.MethodName)), (Jvm.Cond.methodLink "ThreeLinkPair$End" (127 : Nat) ({ cls := "ThreeLinkPair$Side", name := "followBackBit", desc := "(I)V" } : Jvm.MethodName)), (Jvm.Cond.instanceMethod ({ cls := "ThreeLinkPair$Side", name := "followBackBit", desc := "(I)V" } : Jvm.MethodName)), (Jvm.Cond.selects "ThreeLinkPair$Side" ({ cls := "ThreeLinkPair$Side", name := "followBackBit", desc := "(I)V" } : Jvm.MethodName) ({ cls := "ThreeLinkPair$Side", name := "followBackBit", desc := "(I)V" } : Jvm.MethodName)), (Jvm.Cond.code ({ cls := "ThreeLinkPair$Side", name := "followBackBit", desc := "(I)V" } : Jvm.MethodName) prog_7_method_9_code (2 : Nat) (Option.none : Option Jvm.ClassFile.FieldType)), (Jvm.Cond.methodLink "ThreeLinkPair$End" (130 : Nat) ({ cls := "ThreeLinkPair$Side", name := "nextIn", desc := "(LThreeLinkPair$Unit;)LThreeLinkPair$Message;" } : Jvm.MethodName)), (Jvm.Cond.instanceMethod ({ cls := "ThreeLinkPair$Side", name := "nextIn", desc := "(LThreeLinkPair$Unit;)LThreeLinkPair$Message;" } : Jvm.MethodName))]
set_option maxRecDepth 100000 in
theorem sx_1 : tables_1_2 = sl_1_0 ++ (sl_1_1 ++ (sl_1_2 ++ (sl_1_3 ++ (sl_1_4 ++ (sl_1_5 ++ (sl_1_6 ++ (sl_1_7 ++ (sl_1_8 ++ (sl_1_9 ++ (sl_1_10 ++ (sl_1_11 ++ (sl_1_12 ++ (sl_1_13 ++ (sl_1_14)))))))))))))) := rfl
theorem su_1 : ∀ x ∈ tables_1_2, x ∈ lw_tbl := fun x h => List.mem_append_right _ (List.mem_append_right _ (List.mem_append_left _ h))
theorem sg_1_0 : ∀ x ∈ sl_1_0, x ∈ lw_tbl := fun x h => su_1 x (by rw [sx_1]; exact List.mem_append_left _ h)
theorem sg_1_1 : ∀ x ∈ sl_1_1, x ∈ lw_tbl := fun x h => su_1 x (by rw [sx_1]; exact List.mem_append_right _ (List.mem_append_left _ h))
theorem sg_1_2 : ∀ x ∈ sl_1_2, x ∈ lw_tbl := fun x h => su_1 x (by rw [sx_1]; exact List.mem_append_right _ (List.mem_append_right _ (List.mem_append_left _ h)))
theorem sg_1_3 : ∀ x ∈ sl_1_3, x ∈ lw_tbl := fun x h => su_1 x (by rw [sx_1]; exact List.mem_append_right _ (List.mem_append_right _ (List.mem_append_right _ (List.mem_append_left _ h))))
theorem sg_1_4 : ∀ x ∈ sl_1_4, x ∈ lw_tbl := fun x h => su_1 x (by rw [sx_1]; exact List.mem_append_right _ (List.mem_append_right _ (List.mem_append_right _ (List.mem_append_right _ (List.mem_append_left _ h)))))
theorem sg_1_5 : ∀ x ∈ sl_1_5, x ∈ lw_tbl := fun x h => su_1 x (by rw [sx_1]; exact List.mem_append_right _ (List.mem_append_right _ (List.mem_append_right _ (List.mem_append_right _ (List.mem_append_right _ (List.mem_append_left _ h))))))
theorem sg_1_6 : ∀ x ∈ sl_1_6, x ∈ lw_tbl := fun x h => su_1 x (by rw [sx_1]; exact List.mem_append_right _ (List.mem_append_right _ (List.mem_append_right _ (List.mem_append_right _ (List.mem_append_right _ (List.mem_append_right _ (List.mem_append_left _ h)))))))
theorem sg_1_7 : ∀ x ∈ sl_1_7, x ∈ lw_tbl := fun x h => su_1 x (by rw [sx_1]; exact List.mem_append_right _ (List.mem_append_right _ (List.mem_append_right _ (List.mem_append_right _ (List.mem_append_right _ (List.mem_append_right _ (List.mem_append_right _ (List.mem_append_left _ h))))))))
theorem sg_1_8 : ∀ x ∈ sl_1_8, x ∈ lw_tbl := fun x h => su_1 x (by rw [sx_1]; exact List.mem_append_right _ (List.mem_append_right _ (List.mem_append_right _ (List.mem_append_right _ (List.mem_append_right _ (List.mem_append_right _ (List.mem_append_right _ (List.mem_append_right _ (List.mem_append_left _ h)))))))))
theorem sg_1_9 : ∀ x ∈ sl_1_9, x ∈ lw_tbl := fun x h => su_1 x (by rw [sx_1]; exact List.mem_append_right _ (List.mem_append_right _ (List.mem_append_right _ (List.mem_append_right _ (List.mem_append_right _ (List.mem_append_right _ (List.mem_append_right _ (List.mem_append_right _ (List.mem_append_right _ (List.mem_append_left _ h))))))))))
theorem sg_1_10 : ∀ x ∈ sl_1_10, x ∈ lw_tbl := fun x h => su_1 x (by rw [sx_1]; exact List.mem_append_right _ (List.mem_append_right _ (List.mem_append_right _ (List.mem_append_right _ (List.mem_append_right _ (List.mem_append_right _ (List.mem_append_right _ (List.mem_append_right _ (List.mem_append_right _ (List.mem_append_right _ (List.mem_append_left _ h)))))))))))
theorem sg_1_11 : ∀ x ∈ sl_1_11, x ∈ lw_tbl := fun x h => su_1 x (by rw [sx_1]; exact List.mem_append_right _ (List.mem_append_right _ (List.mem_append_right _ (List.mem_append_right _ (List.mem_append_right _ (List.mem_append_right _ (List.mem_append_right _ (List.mem_append_right _ (List.mem_append_right _ (List.mem_append_right _ (List.mem_append_right _ (List.mem_append_left _ h))))))))))))
theorem sg_1_12 : ∀ x ∈ sl_1_12, x ∈ lw_tbl := fun x h => su_1 x (by rw [sx_1]; exact List.mem_append_right _ (List.mem_append_right _ (List.mem_append_right _ (List.mem_append_right _ (List.mem_append_right _ (List.mem_append_right _ (List.mem_append_right _ (List.mem_append_right _ (List.mem_append_right _ (List.mem_append_right _ (List.mem_append_right _ (List.mem_append_right _ (List.mem_append_left _ h)))))))))))))
theorem sg_1_13 : ∀ x ∈ sl_1_13, x ∈ lw_tbl := fun x h => su_1 x (by rw [sx_1]; exact List.mem_append_right _ (List.mem_append_right _ (List.mem_append_right _ (List.mem_append_right _ (List.mem_append_right _ (List.mem_append_right _ (List.mem_append_right _ (List.mem_append_right _ (List.mem_append_right _ (List.mem_append_right _ (List.mem_append_right _ (List.mem_append_right _ (List.mem_append_right _ (List.mem_append_left _ h))))))))))))))
theorem sg_1_14 : ∀ x ∈ sl_1_14, x ∈ lw_tbl := fun x h => su_1 x (by rw [sx_1]; exact List.mem_append_right _ (List.mem_append_right _ (List.mem_append_right _ (List.mem_append_right _ (List.mem_append_right _ (List.mem_append_right _ (List.mem_append_right _ (List.mem_append_right _ (List.mem_append_right _ (List.mem_append_right _ (List.mem_append_right _ (List.mem_append_right _ (List.mem_append_right _ (List.mem_append_right _ (h)))))))))))))))
def sl_2_0 : List Cond := [(Jvm.Cond.selects "ThreeLinkPair$Side" ({ cls := "ThreeLinkPair$Side", name := "nextIn", desc := "(LThreeLinkPair$Unit;)LThreeLinkPair$Message;" } : Jvm.MethodName) ({ cls := "ThreeLinkPair$Side", name := "nextIn", desc := "(LThreeLinkPair$Unit;)LThreeLinkPair$Message;" } : Jvm.MethodName)), (Jvm.Cond.code ({ cls := "ThreeLinkPair$Side", name := "nextIn", desc := "(LThreeLinkPair$Unit;)LThreeLinkPair$Message;" } : Jvm.MethodName) prog_7_method_10_code (3 : Nat) (Option.some (Jvm.ClassFile.FieldType.object "ThreeLinkPair$Message"))), (Jvm.Cond.methodLink "ThreeLinkPair$End" (134 : Nat) ({ cls := "ThreeLinkPair$End", name := "takeIn", desc := "(LThreeLinkPair$Message;)V" } : Jvm.MethodName)), (Jvm.Cond.instanceMethod ({ cls := "ThreeLinkPair$End", name := "takeIn", desc := "(LThreeLinkPair$Message;)V" } : Jvm.MethodName)), (Jvm.Cond.selects "ThreeLinkPair$End" ({ cls := "ThreeLinkPair$End", name := "takeIn", desc := "(LThreeLinkPair$Message;)V" } : Jvm.MethodName) ({ cls := "ThreeLinkPair$End", name := "takeIn", desc := "(LThreeLinkPair$Message;)V" } : Jvm.MethodName)), (Jvm.Cond.code ({ cls := "ThreeLinkPair$End", name := "takeIn", desc := "(LThreeLinkPair$Message;)V" } : Jvm.MethodName) prog_3_method_10_code (2 : Nat) (Option.none : Option Jvm.ClassFile.FieldType)), (Jvm.Cond.methodLink "ThreeLinkPair$End" (143 : Nat) ({ cls := "ThreeLinkPair$End", name := "takeOrder", desc := "(LThreeLinkPair$Message;)V" } : Jvm.MethodName)), (Jvm.Cond.instanceMethod ({ cls := "ThreeLinkPair$End", name := "takeOrder", desc := "(LThreeLinkPair$Message;)V" } : Jvm.MethodName)), (Jvm.Cond.selects "ThreeLinkPair$End" ({ cls := "ThreeLinkPair$End", name := "takeOrder", desc := "(LThreeLinkPair$Message;)V" } : Jvm.MethodName) ({ cls := "ThreeLinkPair$End", name := "takeOrder", desc := "(LThreeLinkPair$Message;)V" } : Jvm.MethodName)), (Jvm.Cond.code ({ cls := "ThreeLinkPair$End", name := "takeOrder", desc := "(LThreeLinkPair$Message;)V" } : Jvm.MethodName) prog_3_method_11_code (6 : Nat) (Option.none : Option Jvm.ClassFile.FieldType)), (Jvm.Cond.methodLink "ThreeLinkPair$End" (157 : Nat) ({ cls := "ThreeLinkPair$Memory", name := "backFor", desc := "(I)I" } : Jvm.MethodName)), (Jvm.Cond.instanceMethod ({ cls := "ThreeLinkPair$Memory", name := "backFor", desc := "(I)I" } : Jvm.MethodName)), (Jvm.Cond.selects "ThreeLinkPair$Memory" ({ cls := "ThreeLinkPair$Memory", name := "backFor", desc := "(I)I" } : Jvm.MethodName) ({ cls := "ThreeLinkPair$Memory", name := "backFor", desc := "(I)I" } : Jvm.MethodName)), (Jvm.Cond.code ({ cls := "ThreeLinkPair$Memory", name := "backFor", desc := "(I)I" } : Jvm.MethodName) prog_5_method_3_code (3 : Nat) (Option.some Jvm.ClassFile.FieldType.int)), (Jvm.Cond.classLink "ThreeLinkPair$End" (139 : Nat) "ThreeLinkPair$Message"), (Jvm.Cond.instantiable "ThreeLinkPair$Message" (4 : Nat))]
def sl_2_1 : List Cond := [(Jvm.Cond.methodLink "ThreeLinkPair$End" (161 : Nat) ({ cls := "ThreeLinkPair$Message", name := "<init>", desc := "(IIII)V" } : Jvm.MethodName)), (Jvm.Cond.instanceMethod ({ cls := "ThreeLinkPair$Message", name := "<init>", desc := "(IIII)V" } : Jvm.MethodName)), (Jvm.Cond.code ({ cls := "ThreeLinkPair$Message", name := "<init>", desc := "(IIII)V" } : Jvm.MethodName) prog_6_method_1_code (5 : Nat) (Option.none : Option Jvm.ClassFile.FieldType)), (Jvm.Cond.methodLink "ThreeLinkPair$Message" (3 : Nat) ({ cls := "java/lang/Object", name := "<init>", desc := "()V" } : Jvm.MethodName)), (Jvm.Cond.fieldLink "ThreeLinkPair$Message" (9 : Nat) "ThreeLinkPair$Message" "kind" "I"), (Jvm.Cond.fieldLink "ThreeLinkPair$Side" (109 : Nat) "ThreeLinkPair$Message" "kind" "I"), (Jvm.Cond.fieldLink "ThreeLinkPair$End" (138 : Nat) "ThreeLinkPair$Message" "kind" "I"), (Jvm.Cond.fieldLink "ThreeLinkPair" (171 : Nat) "ThreeLinkPair$Message" "kind" "I"), (Jvm.Cond.fieldLink "ThreeLinkPair$Message" (15 : Nat) "ThreeLinkPair$Message" "word" "I"), (Jvm.Cond.fieldLink "ThreeLinkPair$End" (153 : Nat) "ThreeLinkPair$Message" "word" "I"), (Jvm.Cond.fieldLink "ThreeLinkPair" (174 : Nat) "ThreeLinkPair$Message" "word" "I"), (Jvm.Cond.fieldLink "ThreeLinkPair$Message" (18 : Nat) "ThreeLinkPair$Message" "number" "I"), (Jvm.Cond.fieldLink "ThreeLinkPair$End" (174 : Nat) "ThreeLinkPair$Message" "number" "I"), (Jvm.Cond.fieldLink "ThreeLinkPair$Message" (21 : Nat) "ThreeLinkPair$Message" "turn" "I"), (Jvm.Cond.fieldLink "ThreeLinkPair$End" (156 : Nat) "ThreeLinkPair$Message" "turn" "I"), (Jvm.Cond.laysFinal "ThreeLinkPair$Message" "ThreeLinkPair$Message" "kind" "I")]
def sl_2_2 : List Cond := [(Jvm.Cond.soleField "ThreeLinkPair$Message" "kind"), (Jvm.Cond.laysFinal "ThreeLinkPair$Message" "ThreeLinkPair$Message" "word" "I"), (Jvm.Cond.soleField "ThreeLinkPair$Message" "word"), (Jvm.Cond.laysFinal "ThreeLinkPair$Message" "ThreeLinkPair$Message" "number" "I"), (Jvm.Cond.soleField "ThreeLinkPair$Message" "number"), (Jvm.Cond.laysFinal "ThreeLinkPair$Message" "ThreeLinkPair$Message" "turn" "I"), (Jvm.Cond.soleField "ThreeLinkPair$Message" "turn"), (Jvm.Cond.superclass "ThreeLinkPair$Message" "java/lang/Object"), (Jvm.Cond.methodLink "ThreeLinkPair$End" (164 : Nat) ({ cls := "ThreeLinkPair$End", name := "say", desc := "(LThreeLinkPair$Message;)V" } : Jvm.MethodName)), (Jvm.Cond.instanceMethod ({ cls := "ThreeLinkPair$End", name := "say", desc := "(LThreeLinkPair$Message;)V" } : Jvm.MethodName)), (Jvm.Cond.selects "ThreeLinkPair$End" ({ cls := "ThreeLinkPair$End", name := "say", desc := "(LThreeLinkPair$Message;)V" } : Jvm.MethodName) ({ cls := "ThreeLinkPair$End", name := "say", desc := "(LThreeLinkPair$Message;)V" } : Jvm.MethodName)), (Jvm.Cond.code ({ cls := "ThreeLinkPair$End", name := "say", desc := "(LThreeLinkPair$Message;)V" } : Jvm.MethodName) prog_3_method_14_code (3 : Nat) (Option.none : Option Jvm.ClassFile.FieldType)), (Jvm.Cond.methodLink "ThreeLinkPair$End" (181 : Nat) ({ cls := "ThreeLinkPair$End", name := "firstServing", desc := "()I" } : Jvm.MethodName)), (Jvm.Cond.instanceMethod ({ cls := "ThreeLinkPair$End", name := "firstServing", desc := "()I" } : Jvm.MethodName)), (Jvm.Cond.selects "ThreeLinkPair$End" ({ cls := "ThreeLinkPair$End", name := "firstServing", desc := "()I" } : Jvm.MethodName) ({ cls := "ThreeLinkPair$End", name := "firstServing", desc := "()I" } : Jvm.MethodName)), (Jvm.Cond.code ({ cls := "ThreeLinkPair$End", name := "firstServing", desc := "()I" } : Jvm.MethodName) prog_3_method_13_code (2 : Nat) (Option.some Jvm.ClassFile.FieldType.int))]
def sl_2_3 : List Cond := [(Jvm.Cond.methodLink "ThreeLinkPair$End" (149 : Nat) ({ cls := "java/util/ArrayList", name := "add", desc := "(Ljava/lang/Object;)Z" } : Jvm.MethodName)), (Jvm.Cond.methodLink "ThreeLinkPair$End" (177 : Nat) ({ cls := "ThreeLinkPair$Changeover", name := "settle", desc := "(I)V" } : Jvm.MethodName)), (Jvm.Cond.instanceMethod ({ cls := "ThreeLinkPair$Changeover", name := "settle", desc := "(I)V" } : Jvm.MethodName)), (Jvm.Cond.selects "ThreeLinkPair$Changeover" ({ cls := "ThreeLinkPair$Changeover", name := "settle", desc := "(I)V" } : Jvm.MethodName) ({ cls := "ThreeLinkPair$Changeover", name := "settle", desc := "(I)V" } : Jvm.MethodName)), (Jvm.Cond.code ({ cls := "ThreeLinkPair$Changeover", name := "settle", desc := "(I)V" } : Jvm.MethodName) prog_2_method_3_code (3 : Nat) (Option.none : Option Jvm.ClassFile.FieldType)), (Jvm.Cond.methodLink "ThreeLinkPair$Changeover" (75 : Nat) ({ cls := "java/lang/Math", name := "floorMod", desc := "(II)I" } : Jvm.MethodName)), (Jvm.Cond.methodLinkNest "ThreeLinkPair$Changeover" (81 : Nat) ({ cls := "ThreeLinkPair", name := "dropFirst", desc := "(Ljava/util/ArrayList;I)V" } : Jvm.MethodName) "ThreeLinkPair"), (Jvm.Cond.methodLink "ThreeLinkPair$End" (146 : Nat) ({ cls := "ThreeLinkPair$End", name := "takeAnswer", desc := "(LThreeLinkPair$Message;)V" } : Jvm.MethodName)), (Jvm.Cond.instanceMethod ({ cls := "ThreeLinkPair$End", name := "takeAnswer", desc := "(LThreeLinkPair$Message;)V" } : Jvm.MethodName)), (Jvm.Cond.selects "ThreeLinkPair$End" ({ cls := "ThreeLinkPair$End", name := "takeAnswer", desc := "(LThreeLinkPair$Message;)V" } : Jvm.MethodName) ({ cls := "ThreeLinkPair$End", name := "takeAnswer", desc := "(LThreeLinkPair$Message;)V" } : Jvm.MethodName)), (Jvm.Cond.code ({ cls := "ThreeLinkPair$End", name := "takeAnswer", desc := "(LThreeLinkPair$Message;)V" } : Jvm.MethodName) prog_3_method_12_code (3 : Nat) (Option.none : Option Jvm.ClassFile.FieldType)), (Jvm.Cond.methodLink "ThreeLinkPair" (204 : Nat) ({ cls := "ThreeLinkPair$End", name := "statusComes", desc := "(ILThreeLinkPair$Unit;)V" } : Jvm.MethodName)), (Jvm.Cond.instanceMethod ({ cls := "ThreeLinkPair$End", name := "statusComes", desc := "(ILThreeLinkPair$Unit;)V" } : Jvm.MethodName)), (Jvm.Cond.selects "ThreeLinkPair$End" ({ cls := "ThreeLinkPair$End", name := "statusComes", desc := "(ILThreeLinkPair$Unit;)V" } : Jvm.MethodName) ({ cls := "ThreeLinkPair$End", name := "statusComes", desc := "(ILThreeLinkPair$Unit;)V" } : Jvm.MethodName)), (Jvm.Cond.code ({ cls := "ThreeLinkPair$End", name := "statusComes", desc := "(ILThreeLinkPair$Unit;)V" } : Jvm.MethodName) prog_3_method_5_code (3 : Nat) (Option.none : Option Jvm.ClassFile.FieldType)), (Jvm.Cond.methodLink "ThreeLinkPair$End" (95 : Nat) ({ cls := "ThreeLinkPair$End", name := "seekComes", desc := "(I)V" } : Jvm.MethodName))]
def sl_2_4 : List Cond := [(Jvm.Cond.instanceMethod ({ cls := "ThreeLinkPair$End", name := "seekComes", desc := "(I)V" } : Jvm.MethodName)), (Jvm.Cond.selects "ThreeLinkPair$End" ({ cls := "ThreeLinkPair$End", name := "seekComes", desc := "(I)V" } : Jvm.MethodName) ({ cls := "ThreeLinkPair$End", name := "seekComes", desc := "(I)V" } : Jvm.MethodName)), (Jvm.Cond.code ({ cls := "ThreeLinkPair$End", name := "seekComes", desc := "(I)V" } : Jvm.MethodName) prog_3_method_6_code (3 : Nat) (Option.none : Option Jvm.ClassFile.FieldType)), (Jvm.Cond.methodLink "ThreeLinkPair$End" (101 : Nat) ({ cls := "ThreeLinkPair$End", name := "proveComes", desc := "(I)V" } : Jvm.MethodName)), (Jvm.Cond.instanceMethod ({ cls := "ThreeLinkPair$End", name := "proveComes", desc := "(I)V" } : Jvm.MethodName)), (Jvm.Cond.selects "ThreeLinkPair$End" ({ cls := "ThreeLinkPair$End", name := "proveComes", desc := "(I)V" } : Jvm.MethodName) ({ cls := "ThreeLinkPair$End", name := "proveComes", desc := "(I)V" } : Jvm.MethodName)), (Jvm.Cond.code ({ cls := "ThreeLinkPair$End", name := "proveComes", desc := "(I)V" } : Jvm.MethodName) prog_3_method_7_code (3 : Nat) (Option.none : Option Jvm.ClassFile.FieldType)), (Jvm.Cond.methodLink "ThreeLinkPair$End" (104 : Nat) ({ cls := "ThreeLinkPair$End", name := "outComes", desc := "(I)V" } : Jvm.MethodName)), (Jvm.Cond.instanceMethod ({ cls := "ThreeLinkPair$End", name := "outComes", desc := "(I)V" } : Jvm.MethodName)), (Jvm.Cond.selects "ThreeLinkPair$End" ({ cls := "ThreeLinkPair$End", name := "outComes", desc := "(I)V" } : Jvm.MethodName) ({ cls := "ThreeLinkPair$End", name := "outComes", desc := "(I)V" } : Jvm.MethodName)), (Jvm.Cond.code ({ cls := "ThreeLinkPair$End", name := "outComes", desc := "(I)V" } : Jvm.MethodName) prog_3_method_8_code (3 : Nat) (Option.none : Option Jvm.ClassFile.FieldType)), (Jvm.Cond.methodLink "ThreeLinkPair" (71 : Nat) ({ cls := "ThreeLinkPair$End", name := "age", desc := "(I)V" } : Jvm.MethodName)), (Jvm.Cond.instanceMethod ({ cls := "ThreeLinkPair$End", name := "age", desc := "(I)V" } : Jvm.MethodName)), (Jvm.Cond.selects "ThreeLinkPair$End" ({ cls := "ThreeLinkPair$End", name := "age", desc := "(I)V" } : Jvm.MethodName) ({ cls := "ThreeLinkPair$End", name := "age", desc := "(I)V" } : Jvm.MethodName)), (Jvm.Cond.code ({ cls := "ThreeLinkPair$End", name := "age", desc := "(I)V" } : Jvm.MethodName) prog_3_method_3_code (2 : Nat) (Option.none : Option Jvm.ClassFile.FieldType)), (Jvm.Cond.methodLink "ThreeLinkPair$End" (80 : Nat) ({ cls := "ThreeLinkPair$Side", name := "failsByAge", desc := "()Z" } : Jvm.MethodName))]
def sl_2_5 : List Cond := [(Jvm.Cond.instanceMethod ({ cls := "ThreeLinkPair$Side", name := "failsByAge", desc := "()Z" } : Jvm.MethodName)), (Jvm.Cond.selects "ThreeLinkPair$Side" ({ cls := "ThreeLinkPair$Side", name := "failsByAge", desc := "()Z" } : Jvm.MethodName) ({ cls := "ThreeLinkPair$Side", name := "failsByAge", desc := "()Z" } : Jvm.MethodName)), (Jvm.Cond.code ({ cls := "ThreeLinkPair$Side", name := "failsByAge", desc := "()Z" } : Jvm.MethodName) prog_7_method_12_code (1 : Nat) (Option.some Jvm.ClassFile.FieldType.boolean)), (Jvm.Cond.methodLink "ThreeLinkPair$Side" (85 : Nat) ({ cls := "ThreeLinkPair$Side", name := "comeTo", desc := "(I)V" } : Jvm.MethodName)), (Jvm.Cond.methodLink "ThreeLinkPair$Side" (131 : Nat) ({ cls := "java/util/ArrayList", name := "isEmpty", desc := "()Z" } : Jvm.MethodName)), (Jvm.Cond.methodLink "ThreeLinkPair" (74 : Nat) ({ cls := "ThreeLinkPair$End", name := "changeOver", desc := "(I)V" } : Jvm.MethodName)), (Jvm.Cond.instanceMethod ({ cls := "ThreeLinkPair$End", name := "changeOver", desc := "(I)V" } : Jvm.MethodName)), (Jvm.Cond.selects "ThreeLinkPair$End" ({ cls := "ThreeLinkPair$End", name := "changeOver", desc := "(I)V" } : Jvm.MethodName) ({ cls := "ThreeLinkPair$End", name := "changeOver", desc := "(I)V" } : Jvm.MethodName)), (Jvm.Cond.code ({ cls := "ThreeLinkPair$End", name := "changeOver", desc := "(I)V" } : Jvm.MethodName) prog_3_method_19_code (4 : Nat) (Option.none : Option Jvm.ClassFile.FieldType)), (Jvm.Cond.methodLink "ThreeLinkPair$End" (211 : Nat) ({ cls := "ThreeLinkPair$Changeover", name := "giveUp", desc := "()I" } : Jvm.MethodName)), (Jvm.Cond.instanceMethod ({ cls := "ThreeLinkPair$Changeover", name := "giveUp", desc := "()I" } : Jvm.MethodName)), (Jvm.Cond.selects "ThreeLinkPair$Changeover" ({ cls := "ThreeLinkPair$Changeover", name := "giveUp", desc := "()I" } : Jvm.MethodName) ({ cls := "ThreeLinkPair$Changeover", name := "giveUp", desc := "()I" } : Jvm.MethodName)), (Jvm.Cond.code ({ cls := "ThreeLinkPair$Changeover", name := "giveUp", desc := "()I" } : Jvm.MethodName) prog_2_method_4_code (3 : Nat) (Option.some Jvm.ClassFile.FieldType.int)), (Jvm.Cond.methodLink "ThreeLinkPair$Changeover" (85 : Nat) ({ cls := "ThreeLinkPair$Message", name := "isOfClass", desc := "()Z" } : Jvm.MethodName)), (Jvm.Cond.instanceMethod ({ cls := "ThreeLinkPair$Message", name := "isOfClass", desc := "()Z" } : Jvm.MethodName)), (Jvm.Cond.selects "ThreeLinkPair$Message" ({ cls := "ThreeLinkPair$Message", name := "isOfClass", desc := "()Z" } : Jvm.MethodName) ({ cls := "ThreeLinkPair$Message", name := "isOfClass", desc := "()Z" } : Jvm.MethodName))]
def sl_2_6 : List Cond := [(Jvm.Cond.code ({ cls := "ThreeLinkPair$Message", name := "isOfClass", desc := "()Z" } : Jvm.MethodName) prog_6_method_2_code (1 : Nat) (Option.some Jvm.ClassFile.FieldType.boolean)), (Jvm.Cond.methodLink "ThreeLinkPair$End" (214 : Nat) ({ cls := "ThreeLinkPair$End", name := "someOpenBeside", desc := "(I)Z" } : Jvm.MethodName)), (Jvm.Cond.instanceMethod ({ cls := "ThreeLinkPair$End", name := "someOpenBeside", desc := "(I)Z" } : Jvm.MethodName)), (Jvm.Cond.selects "ThreeLinkPair$End" ({ cls := "ThreeLinkPair$End", name := "someOpenBeside", desc := "(I)Z" } : Jvm.MethodName) ({ cls := "ThreeLinkPair$End", name := "someOpenBeside", desc := "(I)Z" } : Jvm.MethodName)), (Jvm.Cond.code ({ cls := "ThreeLinkPair$End", name := "someOpenBeside", desc := "(I)Z" } : Jvm.MethodName) prog_3_method_20_code (3 : Nat) (Option.some Jvm.ClassFile.FieldType.boolean)), (Jvm.Cond.methodLink "ThreeLinkPair$End" (188 : Nat) ({ cls := "ThreeLinkPair$End", name := "isOpen", desc := "(I)Z" } : Jvm.MethodName)), (Jvm.Cond.instanceMethod ({ cls := "ThreeLinkPair$End", name := "isOpen", desc := "(I)Z" } : Jvm.MethodName)), (Jvm.Cond.selects "ThreeLinkPair$End" ({ cls := "ThreeLinkPair$End", name := "isOpen", desc := "(I)Z" } : Jvm.MethodName) ({ cls := "ThreeLinkPair$End", name := "isOpen", desc := "(I)Z" } : Jvm.MethodName)), (Jvm.Cond.code ({ cls := "ThreeLinkPair$End", name := "isOpen", desc := "(I)Z" } : Jvm.MethodName) prog_3_method_15_code (2 : Nat) (Option.some Jvm.ClassFile.FieldType.boolean)), (Jvm.Cond.methodLink "ThreeLinkPair$End" (217 : Nat) ({ cls := "ThreeLinkPair$End", name := "finish", desc := "(I)V" } : Jvm.MethodName)), (Jvm.Cond.instanceMethod ({ cls := "ThreeLinkPair$End", name := "finish", desc := "(I)V" } : Jvm.MethodName)), (Jvm.Cond.selects "ThreeLinkPair$End" ({ cls := "ThreeLinkPair$End", name := "finish", desc := "(I)V" } : Jvm.MethodName) ({ cls := "ThreeLinkPair$End", name := "finish", desc := "(I)V" } : Jvm.MethodName)), (Jvm.Cond.code ({ cls := "ThreeLinkPair$End", name := "finish", desc := "(I)V" } : Jvm.MethodName) prog_3_method_21_code (4 : Nat) (Option.none : Option Jvm.ClassFile.FieldType)), (Jvm.Cond.methodLink "ThreeLinkPair$End" (220 : Nat) ({ cls := "java/lang/System", name := "arraycopy", desc := "(Ljava/lang/Object;ILjava/lang/Object;II)V" } : Jvm.MethodName)), (Jvm.Cond.methodLink "ThreeLinkPair$End" (201 : Nat) ({ cls := "java/util/ArrayList", name := "size", desc := "()I" } : Jvm.MethodName)), (Jvm.Cond.methodLink "ThreeLinkPair$End" (229 : Nat) ({ cls := "java/util/ArrayList", name := "get", desc := "(I)Ljava/lang/Object;" } : Jvm.MethodName))]
def sl_2_7 : List Cond := [(Jvm.Cond.methodLink "ThreeLinkPair$End" (233 : Nat) ({ cls := "ThreeLinkPair$End", name := "passOn", desc := "(LThreeLinkPair$Message;)V" } : Jvm.MethodName)), (Jvm.Cond.instanceMethod ({ cls := "ThreeLinkPair$End", name := "passOn", desc := "(LThreeLinkPair$Message;)V" } : Jvm.MethodName)), (Jvm.Cond.selects "ThreeLinkPair$End" ({ cls := "ThreeLinkPair$End", name := "passOn", desc := "(LThreeLinkPair$Message;)V" } : Jvm.MethodName) ({ cls := "ThreeLinkPair$End", name := "passOn", desc := "(LThreeLinkPair$Message;)V" } : Jvm.MethodName)), (Jvm.Cond.code ({ cls := "ThreeLinkPair$End", name := "passOn", desc := "(LThreeLinkPair$Message;)V" } : Jvm.MethodName) prog_3_method_22_code (2 : Nat) (Option.none : Option Jvm.ClassFile.FieldType)), (Jvm.Cond.methodLink "ThreeLinkPair$End" (245 : Nat) ({ cls := "ThreeLinkPair$Message", name := "isOfClass", desc := "()Z" } : Jvm.MethodName)), (Jvm.Cond.methodLink "ThreeLinkPair$End" (239 : Nat) ({ cls := "ThreeLinkPair$End", name := "moveClass", desc := "(I)V" } : Jvm.MethodName)), (Jvm.Cond.instanceMethod ({ cls := "ThreeLinkPair$End", name := "moveClass", desc := "(I)V" } : Jvm.MethodName)), (Jvm.Cond.selects "ThreeLinkPair$End" ({ cls := "ThreeLinkPair$End", name := "moveClass", desc := "(I)V" } : Jvm.MethodName) ({ cls := "ThreeLinkPair$End", name := "moveClass", desc := "(I)V" } : Jvm.MethodName)), (Jvm.Cond.code ({ cls := "ThreeLinkPair$End", name := "moveClass", desc := "(I)V" } : Jvm.MethodName) prog_3_method_23_code (3 : Nat) (Option.none : Option Jvm.ClassFile.FieldType)), (Jvm.Cond.methodLink "ThreeLinkPair$End" (198 : Nat) ({ cls := "ThreeLinkPair$End", name := "choose", desc := "(I)I" } : Jvm.MethodName)), (Jvm.Cond.instanceMethod ({ cls := "ThreeLinkPair$End", name := "choose", desc := "(I)I" } : Jvm.MethodName)), (Jvm.Cond.selects "ThreeLinkPair$End" ({ cls := "ThreeLinkPair$End", name := "choose", desc := "(I)I" } : Jvm.MethodName) ({ cls := "ThreeLinkPair$End", name := "choose", desc := "(I)I" } : Jvm.MethodName)), (Jvm.Cond.code ({ cls := "ThreeLinkPair$End", name := "choose", desc := "(I)I" } : Jvm.MethodName) prog_3_method_16_code (4 : Nat) (Option.some Jvm.ClassFile.FieldType.int)), (Jvm.Cond.methodLink "ThreeLinkPair$End" (236 : Nat) ({ cls := "java/util/ArrayList", name := "clear", desc := "()V" } : Jvm.MethodName)), (Jvm.Cond.methodLink "ThreeLinkPair$End" (242 : Nat) ({ cls := "ThreeLinkPair$End", name := "letGoHeld", desc := "(I)V" } : Jvm.MethodName)), (Jvm.Cond.instanceMethod ({ cls := "ThreeLinkPair$End", name := "letGoHeld", desc := "(I)V" } : Jvm.MethodName))]
def sl_2_8 : List Cond := [(Jvm.Cond.selects "ThreeLinkPair$End" ({ cls := "ThreeLinkPair$End", name := "letGoHeld", desc := "(I)V" } : Jvm.MethodName) ({ cls := "ThreeLinkPair$End", name := "letGoHeld", desc := "(I)V" } : Jvm.MethodName)), (Jvm.Cond.code ({ cls := "ThreeLinkPair$End", name := "letGoHeld", desc := "(I)V" } : Jvm.MethodName) prog_3_method_24_code (5 : Nat) (Option.none : Option Jvm.ClassFile.FieldType)), (Jvm.Cond.methodLink "ThreeLinkPair$End" (248 : Nat) ({ cls := "java/util/ArrayList", name := "remove", desc := "(I)Ljava/lang/Object;" } : Jvm.MethodName)), (Jvm.Cond.methodLink "ThreeLinkPair" (77 : Nat) ({ cls := "ThreeLinkPair$Side", name := "send", desc := "()V" } : Jvm.MethodName)), (Jvm.Cond.instanceMethod ({ cls := "ThreeLinkPair$Side", name := "send", desc := "()V" } : Jvm.MethodName)), (Jvm.Cond.selects "ThreeLinkPair$Side" ({ cls := "ThreeLinkPair$Side", name := "send", desc := "()V" } : Jvm.MethodName) ({ cls := "ThreeLinkPair$Side", name := "send", desc := "()V" } : Jvm.MethodName)), (Jvm.Cond.code ({ cls := "ThreeLinkPair$Side", name := "send", desc := "()V" } : Jvm.MethodName) prog_7_method_13_code (1 : Nat) (Option.none : Option Jvm.ClassFile.FieldType)), (Jvm.Cond.methodLink "ThreeLinkPair$Side" (139 : Nat) ({ cls := "ThreeLinkPair$Side", name := "sendNumbered", desc := "()V" } : Jvm.MethodName)), (Jvm.Cond.instanceMethod ({ cls := "ThreeLinkPair$Side", name := "sendNumbered", desc := "()V" } : Jvm.MethodName)), (Jvm.Cond.selects "ThreeLinkPair$Side" ({ cls := "ThreeLinkPair$Side", name := "sendNumbered", desc := "()V" } : Jvm.MethodName) ({ cls := "ThreeLinkPair$Side", name := "sendNumbered", desc := "()V" } : Jvm.MethodName)), (Jvm.Cond.code ({ cls := "ThreeLinkPair$Side", name := "sendNumbered", desc := "()V" } : Jvm.MethodName) prog_7_method_14_code (2 : Nat) (Option.none : Option Jvm.ClassFile.FieldType)), (Jvm.Cond.methodLink "ThreeLinkPair$Side" (103 : Nat) ({ cls := "java/util/ArrayList", name := "get", desc := "(I)Ljava/lang/Object;" } : Jvm.MethodName)), (Jvm.Cond.classLink "ThreeLinkPair$Side" (107 : Nat) "ThreeLinkPair$Message"), (Jvm.Cond.methodLink "ThreeLinkPair$Side" (142 : Nat) ({ cls := "java/util/ArrayList", name := "remove", desc := "(I)Ljava/lang/Object;" } : Jvm.MethodName)), (Jvm.Cond.methodLink "ThreeLinkPair$Side" (145 : Nat) ({ cls := "java/util/ArrayList", name := "add", desc := "(Ljava/lang/Object;)Z" } : Jvm.MethodName)), (Jvm.Cond.methodLink "ThreeLinkPairLaw" (106 : Nat) ({ cls := "ThreeLinkPair", name := "lost", desc := "()I" } : Jvm.MethodName))]
def sl_2_9 : List Cond := [(Jvm.Cond.instanceMethod ({ cls := "ThreeLinkPair", name := "lost", desc := "()I" } : Jvm.MethodName)), (Jvm.Cond.selects "ThreeLinkPair" ({ cls := "ThreeLinkPair", name := "lost", desc := "()I" } : Jvm.MethodName) ({ cls := "ThreeLinkPair", name := "lost", desc := "()I" } : Jvm.MethodName)), (Jvm.Cond.code ({ cls := "ThreeLinkPair", name := "lost", desc := "()I" } : Jvm.MethodName) prog_1_method_14_code (3 : Nat) (Option.some Jvm.ClassFile.FieldType.int)), (Jvm.Cond.methodLink "ThreeLinkPairLaw" (59 : Nat) ({ cls := "ThreeLinkPairLaw", name := "start", desc := "(LThreeLinkPair;II[J)I" } : Jvm.MethodName)), (Jvm.Cond.static ({ cls := "ThreeLinkPairLaw", name := "start", desc := "(LThreeLinkPair;II[J)I" } : Jvm.MethodName)), (Jvm.Cond.codeWith ({ cls := "ThreeLinkPairLaw", name := "start", desc := "(LThreeLinkPair;II[J)I" } : Jvm.MethodName) method_3_code (5 : Nat) (Option.some Jvm.ClassFile.FieldType.int) [((0 : Nat), (17 : Nat), (20 : Nat), (13 : Nat))]), (Jvm.Cond.classLink "ThreeLinkPairLaw" (13 : Nat) "java/lang/IndexOutOfBoundsException"), (Jvm.Cond.methodLink "ThreeLinkPairLaw" (7 : Nat) ({ cls := "ThreeLinkPair", name := "start", desc := "(II)Z" } : Jvm.MethodName)), (Jvm.Cond.instanceMethod ({ cls := "ThreeLinkPair", name := "start", desc := "(II)Z" } : Jvm.MethodName)), (Jvm.Cond.selects "ThreeLinkPair" ({ cls := "ThreeLinkPair", name := "start", desc := "(II)Z" } : Jvm.MethodName) ({ cls := "ThreeLinkPair", name := "start", desc := "(II)Z" } : Jvm.MethodName)), (Jvm.Cond.code ({ cls := "ThreeLinkPair", name := "start", desc := "(II)Z" } : Jvm.MethodName) prog_1_method_2_code (4 : Nat) (Option.some Jvm.ClassFile.FieldType.boolean)), (Jvm.Cond.methodLink "ThreeLinkPair" (23 : Nat) ({ cls := "ThreeLinkPair", name := "checkSide", desc := "(II)V" } : Jvm.MethodName)), (Jvm.Cond.static ({ cls := "ThreeLinkPair", name := "checkSide", desc := "(II)V" } : Jvm.MethodName)), (Jvm.Cond.code ({ cls := "ThreeLinkPair", name := "checkSide", desc := "(II)V" } : Jvm.MethodName) prog_1_method_16_code (2 : Nat) (Option.none : Option Jvm.ClassFile.FieldType)), (Jvm.Cond.methodLink "ThreeLinkPair" (147 : Nat) ({ cls := "ThreeLinkPair", name := "checkEnd", desc := "(I)V" } : Jvm.MethodName)), (Jvm.Cond.static ({ cls := "ThreeLinkPair", name := "checkEnd", desc := "(I)V" } : Jvm.MethodName))]
def sl_2_10 : List Cond := [(Jvm.Cond.code ({ cls := "ThreeLinkPair", name := "checkEnd", desc := "(I)V" } : Jvm.MethodName) prog_1_method_15_code (1 : Nat) (Option.none : Option Jvm.ClassFile.FieldType)), (Jvm.Cond.classLink "ThreeLinkPair" (125 : Nat) "java/lang/IndexOutOfBoundsException"), (Jvm.Cond.instantiable "java/lang/IndexOutOfBoundsException" (6 : Nat)), (Jvm.Cond.castable "java/lang/IndexOutOfBoundsException" "java/lang/IndexOutOfBoundsException"), (Jvm.Cond.declares ({ cls := "java/lang/RuntimeException", name := "<init>", desc := "()V" } : Jvm.MethodName)), (Jvm.Cond.declares ({ cls := "java/lang/RuntimeException", name := "<init>", desc := "(Ljava/lang/String;)V" } : Jvm.MethodName)), (Jvm.Cond.declares ({ cls := "java/lang/Exception", name := "<init>", desc := "()V" } : Jvm.MethodName)), (Jvm.Cond.declares ({ cls := "java/lang/Exception", name := "<init>", desc := "(Ljava/lang/String;)V" } : Jvm.MethodName)), (Jvm.Cond.declares ({ cls := "java/lang/Throwable", name := "<init>", desc := "()V" } : Jvm.MethodName)), (Jvm.Cond.declares ({ cls := "java/lang/Throwable", name := "<init>", desc := "(Ljava/lang/String;)V" } : Jvm.MethodName)), (Jvm.Cond.selects "java/lang/IndexOutOfBoundsException" ({ cls := "java/lang/Throwable", name := "fillInStackTrace", desc := "(I)Ljava/lang/Throwable;" } : Jvm.MethodName) ({ cls := "java/lang/Throwable", name := "fillInStackTrace", desc := "(I)Ljava/lang/Throwable;" } : Jvm.MethodName)), (Jvm.Cond.selects "java/lang/IndexOutOfBoundsException" ({ cls := "java/lang/Throwable", name := "fillInStackTrace", desc := "()Ljava/lang/Throwable;" } : Jvm.MethodName) ({ cls := "java/lang/Throwable", name := "fillInStackTrace", desc := "()Ljava/lang/Throwable;" } : Jvm.MethodName)), (Jvm.Cond.lays "java/lang/IndexOutOfBoundsException" "java/lang/Throwable" "cause" "Ljava/lang/Throwable;"), (Jvm.Cond.lays "java/lang/Throwable" "java/lang/Throwable" "cause" "Ljava/lang/Throwable;"), (Jvm.Cond.lays "java/lang/IndexOutOfBoundsException" "java/lang/Throwable" "stackTrace" "[Ljava/lang/StackTraceElement;"), (Jvm.Cond.lays "java/lang/Throwable" "java/lang/Throwable" "stackTrace" "[Ljava/lang/StackTraceElement;")]
def sl_2_11 : List Cond := [(Jvm.Cond.lays "java/lang/IndexOutOfBoundsException" "java/lang/Throwable" "suppressedExceptions" "Ljava/util/List;"), (Jvm.Cond.lays "java/lang/Throwable" "java/lang/Throwable" "suppressedExceptions" "Ljava/util/List;"), (Jvm.Cond.lays "java/lang/IndexOutOfBoundsException" "java/lang/Throwable" "detailMessage" "Ljava/lang/String;"), (Jvm.Cond.lays "java/lang/Throwable" "java/lang/Throwable" "detailMessage" "Ljava/lang/String;"), (Jvm.Cond.lays "java/lang/IndexOutOfBoundsException" "java/lang/Throwable" "backtrace" "Ljava/lang/Object;"), (Jvm.Cond.lays "java/lang/Throwable" "java/lang/Throwable" "backtrace" "Ljava/lang/Object;"), (Jvm.Cond.fieldLink "java/lang/Throwable" (198 : Nat) "java/lang/Throwable" "backtrace" "Ljava/lang/Object;"), (Jvm.Cond.superclass "java/lang/Throwable" "java/lang/Object"), (Jvm.Cond.instanceMethod ({ cls := "java/lang/Throwable", name := "<init>", desc := "()V" } : Jvm.MethodName)), (Jvm.Cond.code ({ cls := "java/lang/Throwable", name := "<init>", desc := "()V" } : Jvm.MethodName) prog_21_method_1_code (1 : Nat) (Option.none : Option Jvm.ClassFile.FieldType)), (Jvm.Cond.methodLink "java/lang/Throwable" (1 : Nat) ({ cls := "java/lang/Object", name := "<init>", desc := "()V" } : Jvm.MethodName)), (Jvm.Cond.fieldLink "java/lang/Throwable" (13 : Nat) "java/lang/Throwable" "UNASSIGNED_STACK" "[Ljava/lang/StackTraceElement;"), (Jvm.Cond.laysStatic "java/lang/Throwable" "UNASSIGNED_STACK" "[Ljava/lang/StackTraceElement;"), (Jvm.Cond.fieldLink "java/lang/Throwable" (20 : Nat) "java/lang/Throwable" "SUPPRESSED_SENTINEL" "Ljava/util/List;"), (Jvm.Cond.laysStatic "java/lang/Throwable" "SUPPRESSED_SENTINEL" "Ljava/util/List;"), (Jvm.Cond.methodLink "java/lang/Throwable" (27 : Nat) ({ cls := "java/lang/Throwable", name := "fillInStackTrace", desc := "()Ljava/lang/Throwable;" } : Jvm.MethodName))]
def sl_2_12 : List Cond := [(Jvm.Cond.instanceMethod ({ cls := "java/lang/Throwable", name := "fillInStackTrace", desc := "()Ljava/lang/Throwable;" } : Jvm.MethodName)), (Jvm.Cond.sameMethod "java/lang/Throwable" "java/lang/Throwable" "fillInStackTrace" "()Ljava/lang/Throwable;"), (Jvm.Cond.selects "java/lang/IllegalArgumentException" ({ cls := "java/lang/Throwable", name := "fillInStackTrace", desc := "()Ljava/lang/Throwable;" } : Jvm.MethodName) ({ cls := "java/lang/Throwable", name := "fillInStackTrace", desc := "()Ljava/lang/Throwable;" } : Jvm.MethodName)), (Jvm.Cond.selects "java/util/NoSuchElementException" ({ cls := "java/lang/Throwable", name := "fillInStackTrace", desc := "()Ljava/lang/Throwable;" } : Jvm.MethodName) ({ cls := "java/lang/Throwable", name := "fillInStackTrace", desc := "()Ljava/lang/Throwable;" } : Jvm.MethodName)), (Jvm.Cond.codeSync ({ cls := "java/lang/Throwable", name := "fillInStackTrace", desc := "()Ljava/lang/Throwable;" } : Jvm.MethodName) prog_21_method_18_code (1 : Nat) (Option.some (Jvm.ClassFile.FieldType.object "java/lang/Throwable"))), (Jvm.Cond.methodLink "java/lang/Throwable" (202 : Nat) ({ cls := "java/lang/Throwable", name := "fillInStackTrace", desc := "(I)Ljava/lang/Throwable;" } : Jvm.MethodName)), (Jvm.Cond.privateMethod ({ cls := "java/lang/Throwable", name := "fillInStackTrace", desc := "(I)Ljava/lang/Throwable;" } : Jvm.MethodName)), (Jvm.Cond.instanceMethod ({ cls := "java/lang/Throwable", name := "fillInStackTrace", desc := "(I)Ljava/lang/Throwable;" } : Jvm.MethodName)), (Jvm.Cond.instantiable "java/lang/Throwable" (6 : Nat)), (Jvm.Cond.native ({ cls := "java/lang/Throwable", name := "fillInStackTrace", desc := "(I)Ljava/lang/Throwable;" } : Jvm.MethodName)), (Jvm.Cond.stringRef "ThreeLinkPair" (182 : Nat) "no such end"), (Jvm.Cond.methodLink "ThreeLinkPair" (129 : Nat) ({ cls := "java/lang/IndexOutOfBoundsException", name := "<init>", desc := "(Ljava/lang/String;)V" } : Jvm.MethodName)), (Jvm.Cond.instanceMethod ({ cls := "java/lang/IndexOutOfBoundsException", name := "<init>", desc := "(Ljava/lang/String;)V" } : Jvm.MethodName)), (Jvm.Cond.code ({ cls := "java/lang/IndexOutOfBoundsException", name := "<init>", desc := "(Ljava/lang/String;)V" } : Jvm.MethodName) prog_15_method_2_code (2 : Nat) (Option.none : Option Jvm.ClassFile.FieldType)), (Jvm.Cond.methodLink "java/lang/IndexOutOfBoundsException" (7 : Nat) ({ cls := "java/lang/RuntimeException", name := "<init>", desc := "(Ljava/lang/String;)V" } : Jvm.MethodName)), (Jvm.Cond.instanceMethod ({ cls := "java/lang/RuntimeException", name := "<init>", desc := "(Ljava/lang/String;)V" } : Jvm.MethodName))]
def sl_2_13 : List Cond := [(Jvm.Cond.code ({ cls := "java/lang/RuntimeException", name := "<init>", desc := "(Ljava/lang/String;)V" } : Jvm.MethodName) prog_18_method_2_code (2 : Nat) (Option.none : Option Jvm.ClassFile.FieldType)), (Jvm.Cond.methodLink "java/lang/RuntimeException" (7 : Nat) ({ cls := "java/lang/Exception", name := "<init>", desc := "(Ljava/lang/String;)V" } : Jvm.MethodName)), (Jvm.Cond.instanceMethod ({ cls := "java/lang/Exception", name := "<init>", desc := "(Ljava/lang/String;)V" } : Jvm.MethodName)), (Jvm.Cond.code ({ cls := "java/lang/Exception", name := "<init>", desc := "(Ljava/lang/String;)V" } : Jvm.MethodName) prog_13_method_2_code (2 : Nat) (Option.none : Option Jvm.ClassFile.FieldType)), (Jvm.Cond.methodLink "java/lang/Exception" (7 : Nat) ({ cls := "java/lang/Throwable", name := "<init>", desc := "(Ljava/lang/String;)V" } : Jvm.MethodName)), (Jvm.Cond.instanceMethod ({ cls := "java/lang/Throwable", name := "<init>", desc := "(Ljava/lang/String;)V" } : Jvm.MethodName)), (Jvm.Cond.code ({ cls := "java/lang/Throwable", name := "<init>", desc := "(Ljava/lang/String;)V" } : Jvm.MethodName) prog_21_method_2_code (2 : Nat) (Option.none : Option Jvm.ClassFile.FieldType)), (Jvm.Cond.fieldLink "java/lang/Throwable" (198 : Nat) "java/lang/Throwable" "backtrace" "Ljava/lang/Object;"), (Jvm.Cond.fieldLink "java/lang/Throwable" (31 : Nat) "java/lang/Throwable" "detailMessage" "Ljava/lang/String;"), (Jvm.Cond.fieldLink "java/lang/Throwable" (7 : Nat) "java/lang/Throwable" "cause" "Ljava/lang/Throwable;"), (Jvm.Cond.fieldLink "java/lang/Throwable" (17 : Nat) "java/lang/Throwable" "stackTrace" "[Ljava/lang/StackTraceElement;"), (Jvm.Cond.fieldLink "java/lang/Throwable" (24 : Nat) "java/lang/Throwable" "suppressedExceptions" "Ljava/util/List;"), (Jvm.Cond.soleField "java/lang/Throwable" "backtrace"), (Jvm.Cond.soleField "java/lang/Throwable" "detailMessage"), (Jvm.Cond.soleField "java/lang/Throwable" "cause"), (Jvm.Cond.soleField "java/lang/Throwable" "stackTrace")]
def sl_2_14 : List Cond := [(Jvm.Cond.lays "java/lang/IndexOutOfBoundsException" "java/lang/Throwable" "depth" "I"), (Jvm.Cond.soleField "java/lang/Throwable" "depth"), (Jvm.Cond.soleField "java/lang/Throwable" "suppressedExceptions"), (Jvm.Cond.superclass "java/lang/IndexOutOfBoundsException" "java/lang/RuntimeException"), (Jvm.Cond.arrayClass Jvm.ClassFile.FieldType.byte), (Jvm.Cond.stringRef "ThreeLinkPair" (184 : Nat) "no such link"), (Jvm.Cond.methodLink "ThreeLinkPair" (37 : Nat) ({ cls := "ThreeLinkPair$Side", name := "begin", desc := "()V" } : Jvm.MethodName)), (Jvm.Cond.instanceMethod ({ cls := "ThreeLinkPair$Side", name := "begin", desc := "()V" } : Jvm.MethodName)), (Jvm.Cond.selects "ThreeLinkPair$Side" ({ cls := "ThreeLinkPair$Side", name := "begin", desc := "()V" } : Jvm.MethodName) ({ cls := "ThreeLinkPair$Side", name := "begin", desc := "()V" } : Jvm.MethodName)), (Jvm.Cond.code ({ cls := "ThreeLinkPair$Side", name := "begin", desc := "()V" } : Jvm.MethodName) prog_7_method_2_code (1 : Nat) (Option.none : Option Jvm.ClassFile.FieldType)), (Jvm.Cond.methodLink "ThreeLinkPair$Side" (89 : Nat) ({ cls := "ThreeLinkPair$Side", name := "clearRows", desc := "()V" } : Jvm.MethodName)), (Jvm.Cond.methodLink "ThreeLinkPairLaw" (69 : Nat) ({ cls := "ThreeLinkPairLaw", name := "stop", desc := "(LThreeLinkPair;II[J)I" } : Jvm.MethodName)), (Jvm.Cond.static ({ cls := "ThreeLinkPairLaw", name := "stop", desc := "(LThreeLinkPair;II[J)I" } : Jvm.MethodName)), (Jvm.Cond.codeWith ({ cls := "ThreeLinkPairLaw", name := "stop", desc := "(LThreeLinkPair;II[J)I" } : Jvm.MethodName) method_4_code (5 : Nat) (Option.some Jvm.ClassFile.FieldType.int) [((0 : Nat), (17 : Nat), (20 : Nat), (13 : Nat))]), (Jvm.Cond.methodLink "ThreeLinkPairLaw" (15 : Nat) ({ cls := "ThreeLinkPair", name := "stop", desc := "(II)Z" } : Jvm.MethodName)), (Jvm.Cond.instanceMethod ({ cls := "ThreeLinkPair", name := "stop", desc := "(II)Z" } : Jvm.MethodName))]
set_option maxRecDepth 100000 in
theorem sx_2 : tables_1_3 = sl_2_0 ++ (sl_2_1 ++ (sl_2_2 ++ (sl_2_3 ++ (sl_2_4 ++ (sl_2_5 ++ (sl_2_6 ++ (sl_2_7 ++ (sl_2_8 ++ (sl_2_9 ++ (sl_2_10 ++ (sl_2_11 ++ (sl_2_12 ++ (sl_2_13 ++ (sl_2_14)))))))))))))) := rfl
theorem su_2 : ∀ x ∈ tables_1_3, x ∈ lw_tbl := fun x h => List.mem_append_right _ (List.mem_append_right _ (List.mem_append_right _ (List.mem_append_left _ h)))
theorem sg_2_0 : ∀ x ∈ sl_2_0, x ∈ lw_tbl := fun x h => su_2 x (by rw [sx_2]; exact List.mem_append_left _ h)
theorem sg_2_1 : ∀ x ∈ sl_2_1, x ∈ lw_tbl := fun x h => su_2 x (by rw [sx_2]; exact List.mem_append_right _ (List.mem_append_left _ h))
theorem sg_2_2 : ∀ x ∈ sl_2_2, x ∈ lw_tbl := fun x h => su_2 x (by rw [sx_2]; exact List.mem_append_right _ (List.mem_append_right _ (List.mem_append_left _ h)))
theorem sg_2_3 : ∀ x ∈ sl_2_3, x ∈ lw_tbl := fun x h => su_2 x (by rw [sx_2]; exact List.mem_append_right _ (List.mem_append_right _ (List.mem_append_right _ (List.mem_append_left _ h))))
theorem sg_2_4 : ∀ x ∈ sl_2_4, x ∈ lw_tbl := fun x h => su_2 x (by rw [sx_2]; exact List.mem_append_right _ (List.mem_append_right _ (List.mem_append_right _ (List.mem_append_right _ (List.mem_append_left _ h)))))
theorem sg_2_5 : ∀ x ∈ sl_2_5, x ∈ lw_tbl := fun x h => su_2 x (by rw [sx_2]; exact List.mem_append_right _ (List.mem_append_right _ (List.mem_append_right _ (List.mem_append_right _ (List.mem_append_right _ (List.mem_append_left _ h))))))
theorem sg_2_6 : ∀ x ∈ sl_2_6, x ∈ lw_tbl := fun x h => su_2 x (by rw [sx_2]; exact List.mem_append_right _ (List.mem_append_right _ (List.mem_append_right _ (List.mem_append_right _ (List.mem_append_right _ (List.mem_append_right _ (List.mem_append_left _ h)))))))
theorem sg_2_7 : ∀ x ∈ sl_2_7, x ∈ lw_tbl := fun x h => su_2 x (by rw [sx_2]; exact List.mem_append_right _ (List.mem_append_right _ (List.mem_append_right _ (List.mem_append_right _ (List.mem_append_right _ (List.mem_append_right _ (List.mem_append_right _ (List.mem_append_left _ h))))))))
theorem sg_2_8 : ∀ x ∈ sl_2_8, x ∈ lw_tbl := fun x h => su_2 x (by rw [sx_2]; exact List.mem_append_right _ (List.mem_append_right _ (List.mem_append_right _ (List.mem_append_right _ (List.mem_append_right _ (List.mem_append_right _ (List.mem_append_right _ (List.mem_append_right _ (List.mem_append_left _ h)))))))))
theorem sg_2_9 : ∀ x ∈ sl_2_9, x ∈ lw_tbl := fun x h => su_2 x (by rw [sx_2]; exact List.mem_append_right _ (List.mem_append_right _ (List.mem_append_right _ (List.mem_append_right _ (List.mem_append_right _ (List.mem_append_right _ (List.mem_append_right _ (List.mem_append_right _ (List.mem_append_right _ (List.mem_append_left _ h))))))))))
theorem sg_2_10 : ∀ x ∈ sl_2_10, x ∈ lw_tbl := fun x h => su_2 x (by rw [sx_2]; exact List.mem_append_right _ (List.mem_append_right _ (List.mem_append_right _ (List.mem_append_right _ (List.mem_append_right _ (List.mem_append_right _ (List.mem_append_right _ (List.mem_append_right _ (List.mem_append_right _ (List.mem_append_right _ (List.mem_append_left _ h)))))))))))
theorem sg_2_11 : ∀ x ∈ sl_2_11, x ∈ lw_tbl := fun x h => su_2 x (by rw [sx_2]; exact List.mem_append_right _ (List.mem_append_right _ (List.mem_append_right _ (List.mem_append_right _ (List.mem_append_right _ (List.mem_append_right _ (List.mem_append_right _ (List.mem_append_right _ (List.mem_append_right _ (List.mem_append_right _ (List.mem_append_right _ (List.mem_append_left _ h))))))))))))
theorem sg_2_12 : ∀ x ∈ sl_2_12, x ∈ lw_tbl := fun x h => su_2 x (by rw [sx_2]; exact List.mem_append_right _ (List.mem_append_right _ (List.mem_append_right _ (List.mem_append_right _ (List.mem_append_right _ (List.mem_append_right _ (List.mem_append_right _ (List.mem_append_right _ (List.mem_append_right _ (List.mem_append_right _ (List.mem_append_right _ (List.mem_append_right _ (List.mem_append_left _ h)))))))))))))
theorem sg_2_13 : ∀ x ∈ sl_2_13, x ∈ lw_tbl := fun x h => su_2 x (by rw [sx_2]; exact List.mem_append_right _ (List.mem_append_right _ (List.mem_append_right _ (List.mem_append_right _ (List.mem_append_right _ (List.mem_append_right _ (List.mem_append_right _ (List.mem_append_right _ (List.mem_append_right _ (List.mem_append_right _ (List.mem_append_right _ (List.mem_append_right _ (List.mem_append_right _ (List.mem_append_left _ h))))))))))))))
theorem sg_2_14 : ∀ x ∈ sl_2_14, x ∈ lw_tbl := fun x h => su_2 x (by rw [sx_2]; exact List.mem_append_right _ (List.mem_append_right _ (List.mem_append_right _ (List.mem_append_right _ (List.mem_append_right _ (List.mem_append_right _ (List.mem_append_right _ (List.mem_append_right _ (List.mem_append_right _ (List.mem_append_right _ (List.mem_append_right _ (List.mem_append_right _ (List.mem_append_right _ (List.mem_append_right _ (h)))))))))))))))
def sl_3_0 : List Cond := [(Jvm.Cond.selects "ThreeLinkPair" ({ cls := "ThreeLinkPair", name := "stop", desc := "(II)Z" } : Jvm.MethodName) ({ cls := "ThreeLinkPair", name := "stop", desc := "(II)Z" } : Jvm.MethodName)), (Jvm.Cond.code ({ cls := "ThreeLinkPair", name := "stop", desc := "(II)Z" } : Jvm.MethodName) prog_1_method_3_code (3 : Nat) (Option.some Jvm.ClassFile.FieldType.boolean)), (Jvm.Cond.methodLink "ThreeLinkPair" (40 : Nat) ({ cls := "ThreeLinkPair$End", name := "fall", desc := "(I)V" } : Jvm.MethodName)), (Jvm.Cond.methodLink "ThreeLinkPairLaw" (72 : Nat) ({ cls := "ThreeLinkPairLaw", name := "fault", desc := "(LThreeLinkPair;IIII)I" } : Jvm.MethodName)), (Jvm.Cond.static ({ cls := "ThreeLinkPairLaw", name := "fault", desc := "(LThreeLinkPair;IIII)I" } : Jvm.MethodName)), (Jvm.Cond.codeWith ({ cls := "ThreeLinkPairLaw", name := "fault", desc := "(LThreeLinkPair;IIII)I" } : Jvm.MethodName) method_5_code (6 : Nat) (Option.some Jvm.ClassFile.FieldType.int) [((0 : Nat), (9 : Nat), (12 : Nat), (13 : Nat)), ((0 : Nat), (9 : Nat), (16 : Nat), (22 : Nat))]), (Jvm.Cond.classLink "ThreeLinkPairLaw" (22 : Nat) "java/lang/IllegalArgumentException"), (Jvm.Cond.methodLink "ThreeLinkPairLaw" (18 : Nat) ({ cls := "ThreeLinkPair", name := "fault", desc := "(IIII)V" } : Jvm.MethodName)), (Jvm.Cond.instanceMethod ({ cls := "ThreeLinkPair", name := "fault", desc := "(IIII)V" } : Jvm.MethodName)), (Jvm.Cond.selects "ThreeLinkPair" ({ cls := "ThreeLinkPair", name := "fault", desc := "(IIII)V" } : Jvm.MethodName) ({ cls := "ThreeLinkPair", name := "fault", desc := "(IIII)V" } : Jvm.MethodName)), (Jvm.Cond.code ({ cls := "ThreeLinkPair", name := "fault", desc := "(IIII)V" } : Jvm.MethodName) prog_1_method_4_code (6 : Nat) (Option.none : Option Jvm.ClassFile.FieldType)), (Jvm.Cond.classLink "ThreeLinkPair" (44 : Nat) "java/lang/IllegalArgumentException"), (Jvm.Cond.instantiable "java/lang/IllegalArgumentException" (6 : Nat)), (Jvm.Cond.castable "java/lang/IllegalArgumentException" "java/lang/IllegalArgumentException"), (Jvm.Cond.selects "java/lang/IllegalArgumentException" ({ cls := "java/lang/Throwable", name := "fillInStackTrace", desc := "(I)Ljava/lang/Throwable;" } : Jvm.MethodName) ({ cls := "java/lang/Throwable", name := "fillInStackTrace", desc := "(I)Ljava/lang/Throwable;" } : Jvm.MethodName)), (Jvm.Cond.lays "java/lang/IllegalArgumentException" "java/lang/Throwable" "cause" "Ljava/lang/Throwable;")]
def sl_3_1 : List Cond := [(Jvm.Cond.lays "java/lang/IllegalArgumentException" "java/lang/Throwable" "stackTrace" "[Ljava/lang/StackTraceElement;"), (Jvm.Cond.lays "java/lang/IllegalArgumentException" "java/lang/Throwable" "suppressedExceptions" "Ljava/util/List;"), (Jvm.Cond.lays "java/lang/IllegalArgumentException" "java/lang/Throwable" "detailMessage" "Ljava/lang/String;"), (Jvm.Cond.lays "java/lang/IllegalArgumentException" "java/lang/Throwable" "backtrace" "Ljava/lang/Object;"), (Jvm.Cond.stringRef "ThreeLinkPair" (46 : Nat) "how is 0 .. 2, n is 0 .. 99"), (Jvm.Cond.methodLink "ThreeLinkPair" (48 : Nat) ({ cls := "java/lang/IllegalArgumentException", name := "<init>", desc := "(Ljava/lang/String;)V" } : Jvm.MethodName)), (Jvm.Cond.instanceMethod ({ cls := "java/lang/IllegalArgumentException", name := "<init>", desc := "(Ljava/lang/String;)V" } : Jvm.MethodName)), (Jvm.Cond.code ({ cls := "java/lang/IllegalArgumentException", name := "<init>", desc := "(Ljava/lang/String;)V" } : Jvm.MethodName) prog_14_method_2_code (2 : Nat) (Option.none : Option Jvm.ClassFile.FieldType)), (Jvm.Cond.methodLink "java/lang/IllegalArgumentException" (7 : Nat) ({ cls := "java/lang/RuntimeException", name := "<init>", desc := "(Ljava/lang/String;)V" } : Jvm.MethodName)), (Jvm.Cond.lays "java/lang/IllegalArgumentException" "java/lang/Throwable" "depth" "I"), (Jvm.Cond.superclass "java/lang/IllegalArgumentException" "java/lang/RuntimeException"), (Jvm.Cond.methodLink "ThreeLinkPairLaw" (76 : Nat) ({ cls := "ThreeLinkPairLaw", name := "submit", desc := "(LThreeLinkPair;III[J)I" } : Jvm.MethodName)), (Jvm.Cond.static ({ cls := "ThreeLinkPairLaw", name := "submit", desc := "(LThreeLinkPair;III[J)I" } : Jvm.MethodName)), (Jvm.Cond.codeWith ({ cls := "ThreeLinkPairLaw", name := "submit", desc := "(LThreeLinkPair;III[J)I" } : Jvm.MethodName) method_6_code (6 : Nat) (Option.some Jvm.ClassFile.FieldType.int) [((0 : Nat), (19 : Nat), (22 : Nat), (13 : Nat))]), (Jvm.Cond.methodLink "ThreeLinkPairLaw" (24 : Nat) ({ cls := "ThreeLinkPair", name := "submit", desc := "(III)Z" } : Jvm.MethodName)), (Jvm.Cond.instanceMethod ({ cls := "ThreeLinkPair", name := "submit", desc := "(III)Z" } : Jvm.MethodName))]
def sl_3_2 : List Cond := [(Jvm.Cond.selects "ThreeLinkPair" ({ cls := "ThreeLinkPair", name := "submit", desc := "(III)Z" } : Jvm.MethodName) ({ cls := "ThreeLinkPair", name := "submit", desc := "(III)Z" } : Jvm.MethodName)), (Jvm.Cond.code ({ cls := "ThreeLinkPair", name := "submit", desc := "(III)Z" } : Jvm.MethodName) prog_1_method_5_code (4 : Nat) (Option.some Jvm.ClassFile.FieldType.boolean)), (Jvm.Cond.methodLink "ThreeLinkPair" (61 : Nat) ({ cls := "ThreeLinkPair", name := "checkClass", desc := "(II)V" } : Jvm.MethodName)), (Jvm.Cond.static ({ cls := "ThreeLinkPair", name := "checkClass", desc := "(II)V" } : Jvm.MethodName)), (Jvm.Cond.code ({ cls := "ThreeLinkPair", name := "checkClass", desc := "(II)V" } : Jvm.MethodName) prog_1_method_17_code (2 : Nat) (Option.none : Option Jvm.ClassFile.FieldType)), (Jvm.Cond.stringRef "ThreeLinkPair" (186 : Nat) "no such class"), (Jvm.Cond.methodLink "ThreeLinkPair" (64 : Nat) ({ cls := "ThreeLinkPair$End", name := "accept", desc := "(II)Z" } : Jvm.MethodName)), (Jvm.Cond.instanceMethod ({ cls := "ThreeLinkPair$End", name := "accept", desc := "(II)Z" } : Jvm.MethodName)), (Jvm.Cond.selects "ThreeLinkPair$End" ({ cls := "ThreeLinkPair$End", name := "accept", desc := "(II)Z" } : Jvm.MethodName) ({ cls := "ThreeLinkPair$End", name := "accept", desc := "(II)Z" } : Jvm.MethodName)), (Jvm.Cond.code ({ cls := "ThreeLinkPair$End", name := "accept", desc := "(II)Z" } : Jvm.MethodName) prog_3_method_17_code (4 : Nat) (Option.some Jvm.ClassFile.FieldType.boolean)), (Jvm.Cond.methodLink "ThreeLinkPair$End" (191 : Nat) ({ cls := "ThreeLinkPair$End", name := "addBelow", desc := "(Ljava/util/ArrayList;III)Z" } : Jvm.MethodName)), (Jvm.Cond.static ({ cls := "ThreeLinkPair$End", name := "addBelow", desc := "(Ljava/util/ArrayList;III)Z" } : Jvm.MethodName)), (Jvm.Cond.code ({ cls := "ThreeLinkPair$End", name := "addBelow", desc := "(Ljava/util/ArrayList;III)Z" } : Jvm.MethodName) prog_3_method_18_code (4 : Nat) (Option.some Jvm.ClassFile.FieldType.boolean)), (Jvm.Cond.methodLink "ThreeLinkPair$End" (195 : Nat) ({ cls := "ThreeLinkPair$Side", name := "carries", desc := "(I)Z" } : Jvm.MethodName)), (Jvm.Cond.instanceMethod ({ cls := "ThreeLinkPair$Side", name := "carries", desc := "(I)Z" } : Jvm.MethodName)), (Jvm.Cond.selects "ThreeLinkPair$Side" ({ cls := "ThreeLinkPair$Side", name := "carries", desc := "(I)Z" } : Jvm.MethodName) ({ cls := "ThreeLinkPair$Side", name := "carries", desc := "(I)Z" } : Jvm.MethodName))]
def sl_3_3 : List Cond := [(Jvm.Cond.code ({ cls := "ThreeLinkPair$Side", name := "carries", desc := "(I)Z" } : Jvm.MethodName) prog_7_method_5_code (2 : Nat) (Option.some Jvm.ClassFile.FieldType.boolean)), (Jvm.Cond.methodLink "ThreeLinkPair$Side" (95 : Nat) ({ cls := "ThreeLinkPair$Side", name := "holds", desc := "(Ljava/util/ArrayList;I)Z" } : Jvm.MethodName)), (Jvm.Cond.static ({ cls := "ThreeLinkPair$Side", name := "holds", desc := "(Ljava/util/ArrayList;I)Z" } : Jvm.MethodName)), (Jvm.Cond.code ({ cls := "ThreeLinkPair$Side", name := "holds", desc := "(Ljava/util/ArrayList;I)Z" } : Jvm.MethodName) prog_7_method_6_code (3 : Nat) (Option.some Jvm.ClassFile.FieldType.boolean)), (Jvm.Cond.methodLink "ThreeLinkPairLaw" (84 : Nat) ({ cls := "ThreeLinkPairLaw", name := "state", desc := "(LThreeLinkPair;II[J)I" } : Jvm.MethodName)), (Jvm.Cond.static ({ cls := "ThreeLinkPairLaw", name := "state", desc := "(LThreeLinkPair;II[J)I" } : Jvm.MethodName)), (Jvm.Cond.codeWith ({ cls := "ThreeLinkPairLaw", name := "state", desc := "(LThreeLinkPair;II[J)I" } : Jvm.MethodName) method_7_code (5 : Nat) (Option.some Jvm.ClassFile.FieldType.int) [((0 : Nat), (10 : Nat), (13 : Nat), (13 : Nat))]), (Jvm.Cond.methodLink "ThreeLinkPairLaw" (28 : Nat) ({ cls := "ThreeLinkPair", name := "state", desc := "(II)I" } : Jvm.MethodName)), (Jvm.Cond.instanceMethod ({ cls := "ThreeLinkPair", name := "state", desc := "(II)I" } : Jvm.MethodName)), (Jvm.Cond.selects "ThreeLinkPair" ({ cls := "ThreeLinkPair", name := "state", desc := "(II)I" } : Jvm.MethodName) ({ cls := "ThreeLinkPair", name := "state", desc := "(II)I" } : Jvm.MethodName)), (Jvm.Cond.code ({ cls := "ThreeLinkPair", name := "state", desc := "(II)I" } : Jvm.MethodName) prog_1_method_7_code (3 : Nat) (Option.some Jvm.ClassFile.FieldType.int)), (Jvm.Cond.methodLink "ThreeLinkPairLaw" (87 : Nat) ({ cls := "ThreeLinkPairLaw", name := "of", desc := "(LThreeLinkPair;III[J)I" } : Jvm.MethodName)), (Jvm.Cond.static ({ cls := "ThreeLinkPairLaw", name := "of", desc := "(LThreeLinkPair;III[J)I" } : Jvm.MethodName)), (Jvm.Cond.codeWith ({ cls := "ThreeLinkPairLaw", name := "of", desc := "(LThreeLinkPair;III[J)I" } : Jvm.MethodName) method_8_code (6 : Nat) (Option.some Jvm.ClassFile.FieldType.int) [((0 : Nat), (12 : Nat), (15 : Nat), (13 : Nat))]), (Jvm.Cond.methodLink "ThreeLinkPairLaw" (32 : Nat) ({ cls := "ThreeLinkPair", name := "of", desc := "(III)I" } : Jvm.MethodName)), (Jvm.Cond.instanceMethod ({ cls := "ThreeLinkPair", name := "of", desc := "(III)I" } : Jvm.MethodName))]
def sl_3_4 : List Cond := [(Jvm.Cond.selects "ThreeLinkPair" ({ cls := "ThreeLinkPair", name := "of", desc := "(III)I" } : Jvm.MethodName) ({ cls := "ThreeLinkPair", name := "of", desc := "(III)I" } : Jvm.MethodName)), (Jvm.Cond.code ({ cls := "ThreeLinkPair", name := "of", desc := "(III)I" } : Jvm.MethodName) prog_1_method_8_code (5 : Nat) (Option.some Jvm.ClassFile.FieldType.int)), (Jvm.Cond.methodLink "ThreeLinkPair" (110 : Nat) ({ cls := "java/util/ArrayList", name := "size", desc := "()I" } : Jvm.MethodName)), (Jvm.Cond.stringRef "ThreeLinkPair" (127 : Nat) "no such what"), (Jvm.Cond.methodLink "ThreeLinkPairLaw" (90 : Nat) ({ cls := "ThreeLinkPairLaw", name := "link", desc := "(LThreeLinkPair;II[J)I" } : Jvm.MethodName)), (Jvm.Cond.static ({ cls := "ThreeLinkPairLaw", name := "link", desc := "(LThreeLinkPair;II[J)I" } : Jvm.MethodName)), (Jvm.Cond.codeWith ({ cls := "ThreeLinkPairLaw", name := "link", desc := "(LThreeLinkPair;II[J)I" } : Jvm.MethodName) method_9_code (5 : Nat) (Option.some Jvm.ClassFile.FieldType.int) [((0 : Nat), (10 : Nat), (13 : Nat), (13 : Nat))]), (Jvm.Cond.methodLink "ThreeLinkPairLaw" (36 : Nat) ({ cls := "ThreeLinkPair", name := "link", desc := "(II)I" } : Jvm.MethodName)), (Jvm.Cond.instanceMethod ({ cls := "ThreeLinkPair", name := "link", desc := "(II)I" } : Jvm.MethodName)), (Jvm.Cond.selects "ThreeLinkPair" ({ cls := "ThreeLinkPair", name := "link", desc := "(II)I" } : Jvm.MethodName) ({ cls := "ThreeLinkPair", name := "link", desc := "(II)I" } : Jvm.MethodName)), (Jvm.Cond.code ({ cls := "ThreeLinkPair", name := "link", desc := "(II)I" } : Jvm.MethodName) prog_1_method_9_code (3 : Nat) (Option.some Jvm.ClassFile.FieldType.int)), (Jvm.Cond.methodLink "ThreeLinkPairLaw" (93 : Nat) ({ cls := "ThreeLinkPairLaw", name := "changes", desc := "(LThreeLinkPair;II[J)I" } : Jvm.MethodName)), (Jvm.Cond.static ({ cls := "ThreeLinkPairLaw", name := "changes", desc := "(LThreeLinkPair;II[J)I" } : Jvm.MethodName)), (Jvm.Cond.codeWith ({ cls := "ThreeLinkPairLaw", name := "changes", desc := "(LThreeLinkPair;II[J)I" } : Jvm.MethodName) method_10_code (5 : Nat) (Option.some Jvm.ClassFile.FieldType.int) [((0 : Nat), (10 : Nat), (13 : Nat), (13 : Nat))]), (Jvm.Cond.methodLink "ThreeLinkPairLaw" (39 : Nat) ({ cls := "ThreeLinkPair", name := "changes", desc := "(II)I" } : Jvm.MethodName)), (Jvm.Cond.instanceMethod ({ cls := "ThreeLinkPair", name := "changes", desc := "(II)I" } : Jvm.MethodName))]
def sl_3_5 : List Cond := [(Jvm.Cond.selects "ThreeLinkPair" ({ cls := "ThreeLinkPair", name := "changes", desc := "(II)I" } : Jvm.MethodName) ({ cls := "ThreeLinkPair", name := "changes", desc := "(II)I" } : Jvm.MethodName)), (Jvm.Cond.code ({ cls := "ThreeLinkPair", name := "changes", desc := "(II)I" } : Jvm.MethodName) prog_1_method_10_code (4 : Nat) (Option.some Jvm.ClassFile.FieldType.int)), (Jvm.Cond.methodLink "ThreeLinkPairLaw" (96 : Nat) ({ cls := "ThreeLinkPairLaw", name := "held", desc := "(LThreeLinkPair;I[J)I" } : Jvm.MethodName)), (Jvm.Cond.static ({ cls := "ThreeLinkPairLaw", name := "held", desc := "(LThreeLinkPair;I[J)I" } : Jvm.MethodName)), (Jvm.Cond.codeWith ({ cls := "ThreeLinkPairLaw", name := "held", desc := "(LThreeLinkPair;I[J)I" } : Jvm.MethodName) method_11_code (4 : Nat) (Option.some Jvm.ClassFile.FieldType.int) [((0 : Nat), (9 : Nat), (12 : Nat), (13 : Nat))]), (Jvm.Cond.methodLink "ThreeLinkPairLaw" (42 : Nat) ({ cls := "ThreeLinkPair", name := "held", desc := "(I)I" } : Jvm.MethodName)), (Jvm.Cond.instanceMethod ({ cls := "ThreeLinkPair", name := "held", desc := "(I)I" } : Jvm.MethodName)), (Jvm.Cond.selects "ThreeLinkPair" ({ cls := "ThreeLinkPair", name := "held", desc := "(I)I" } : Jvm.MethodName) ({ cls := "ThreeLinkPair", name := "held", desc := "(I)I" } : Jvm.MethodName)), (Jvm.Cond.code ({ cls := "ThreeLinkPair", name := "held", desc := "(I)I" } : Jvm.MethodName) prog_1_method_11_code (2 : Nat) (Option.some Jvm.ClassFile.FieldType.int)), (Jvm.Cond.methodLink "ThreeLinkPairLaw" (100 : Nat) ({ cls := "ThreeLinkPairLaw", name := "inbox", desc := "(LThreeLinkPair;I[J)I" } : Jvm.MethodName)), (Jvm.Cond.static ({ cls := "ThreeLinkPairLaw", name := "inbox", desc := "(LThreeLinkPair;I[J)I" } : Jvm.MethodName)), (Jvm.Cond.codeWith ({ cls := "ThreeLinkPairLaw", name := "inbox", desc := "(LThreeLinkPair;I[J)I" } : Jvm.MethodName) method_12_code (4 : Nat) (Option.some Jvm.ClassFile.FieldType.int) [((0 : Nat), (9 : Nat), (12 : Nat), (13 : Nat))]), (Jvm.Cond.methodLink "ThreeLinkPairLaw" (46 : Nat) ({ cls := "ThreeLinkPair", name := "inbox", desc := "(I)I" } : Jvm.MethodName)), (Jvm.Cond.instanceMethod ({ cls := "ThreeLinkPair", name := "inbox", desc := "(I)I" } : Jvm.MethodName)), (Jvm.Cond.selects "ThreeLinkPair" ({ cls := "ThreeLinkPair", name := "inbox", desc := "(I)I" } : Jvm.MethodName) ({ cls := "ThreeLinkPair", name := "inbox", desc := "(I)I" } : Jvm.MethodName)), (Jvm.Cond.code ({ cls := "ThreeLinkPair", name := "inbox", desc := "(I)I" } : Jvm.MethodName) prog_1_method_12_code (2 : Nat) (Option.some Jvm.ClassFile.FieldType.int))]
def sl_3_6 : List Cond := [(Jvm.Cond.methodLink "ThreeLinkPairLaw" (103 : Nat) ({ cls := "ThreeLinkPairLaw", name := "take", desc := "(LThreeLinkPair;I[J)I" } : Jvm.MethodName)), (Jvm.Cond.static ({ cls := "ThreeLinkPairLaw", name := "take", desc := "(LThreeLinkPair;I[J)I" } : Jvm.MethodName)), (Jvm.Cond.codeWith ({ cls := "ThreeLinkPairLaw", name := "take", desc := "(LThreeLinkPair;I[J)I" } : Jvm.MethodName) method_13_code (4 : Nat) (Option.some Jvm.ClassFile.FieldType.int) [((0 : Nat), (8 : Nat), (11 : Nat), (13 : Nat)), ((0 : Nat), (8 : Nat), (14 : Nat), (53 : Nat))]), (Jvm.Cond.classLink "ThreeLinkPairLaw" (53 : Nat) "java/util/NoSuchElementException"), (Jvm.Cond.methodLink "ThreeLinkPairLaw" (49 : Nat) ({ cls := "ThreeLinkPair", name := "take", desc := "(I)J" } : Jvm.MethodName)), (Jvm.Cond.instanceMethod ({ cls := "ThreeLinkPair", name := "take", desc := "(I)J" } : Jvm.MethodName)), (Jvm.Cond.selects "ThreeLinkPair" ({ cls := "ThreeLinkPair", name := "take", desc := "(I)J" } : Jvm.MethodName) ({ cls := "ThreeLinkPair", name := "take", desc := "(I)J" } : Jvm.MethodName)), (Jvm.Cond.code ({ cls := "ThreeLinkPair", name := "take", desc := "(I)J" } : Jvm.MethodName) prog_1_method_13_code (3 : Nat) (Option.some Jvm.ClassFile.FieldType.long)), (Jvm.Cond.classLink "ThreeLinkPair" (160 : Nat) "java/util/NoSuchElementException"), (Jvm.Cond.instantiable "java/util/NoSuchElementException" (6 : Nat)), (Jvm.Cond.castable "java/util/NoSuchElementException" "java/util/NoSuchElementException"), (Jvm.Cond.selects "java/util/NoSuchElementException" ({ cls := "java/lang/Throwable", name := "fillInStackTrace", desc := "(I)Ljava/lang/Throwable;" } : Jvm.MethodName) ({ cls := "java/lang/Throwable", name := "fillInStackTrace", desc := "(I)Ljava/lang/Throwable;" } : Jvm.MethodName)), (Jvm.Cond.lays "java/util/NoSuchElementException" "java/lang/Throwable" "cause" "Ljava/lang/Throwable;"), (Jvm.Cond.lays "java/util/NoSuchElementException" "java/lang/Throwable" "stackTrace" "[Ljava/lang/StackTraceElement;"), (Jvm.Cond.lays "java/util/NoSuchElementException" "java/lang/Throwable" "suppressedExceptions" "Ljava/util/List;"), (Jvm.Cond.lays "java/util/NoSuchElementException" "java/lang/Throwable" "detailMessage" "Ljava/lang/String;")]
def sl_3_7 : List Cond := [(Jvm.Cond.lays "java/util/NoSuchElementException" "java/lang/Throwable" "backtrace" "Ljava/lang/Object;"), (Jvm.Cond.stringRef "ThreeLinkPair" (162 : Nat) "the inbox is empty"), (Jvm.Cond.methodLink "ThreeLinkPair" (164 : Nat) ({ cls := "java/util/NoSuchElementException", name := "<init>", desc := "(Ljava/lang/String;)V" } : Jvm.MethodName)), (Jvm.Cond.instanceMethod ({ cls := "java/util/NoSuchElementException", name := "<init>", desc := "(Ljava/lang/String;)V" } : Jvm.MethodName)), (Jvm.Cond.code ({ cls := "java/util/NoSuchElementException", name := "<init>", desc := "(Ljava/lang/String;)V" } : Jvm.MethodName) prog_28_method_4_code (2 : Nat) (Option.none : Option Jvm.ClassFile.FieldType)), (Jvm.Cond.methodLink "java/util/NoSuchElementException" (13 : Nat) ({ cls := "java/lang/RuntimeException", name := "<init>", desc := "(Ljava/lang/String;)V" } : Jvm.MethodName)), (Jvm.Cond.lays "java/util/NoSuchElementException" "java/lang/Throwable" "depth" "I"), (Jvm.Cond.superclass "java/util/NoSuchElementException" "java/lang/RuntimeException"), (Jvm.Cond.classLink "ThreeLinkPair" (169 : Nat) "ThreeLinkPair$Message"), (Jvm.Cond.constantLong "ThreeLinkPair" (177 : Nat) (4294967295 : Int64)), (Jvm.Cond.classLink "ThreeLinkPairLaw" (56 : Nat) "ThreeLinkPairModel"), (Jvm.Cond.instantiable "ThreeLinkPairModel" (51 : Nat)), (Jvm.Cond.methodLink "ThreeLinkPairLaw" (58 : Nat) ({ cls := "ThreeLinkPairModel", name := "<init>", desc := "()V" } : Jvm.MethodName)), (Jvm.Cond.instanceMethod ({ cls := "ThreeLinkPairModel", name := "<init>", desc := "()V" } : Jvm.MethodName)), (Jvm.Cond.code ({ cls := "ThreeLinkPairModel", name := "<init>", desc := "()V" } : Jvm.MethodName) prog_10_method_1_code (2 : Nat) (Option.none : Option Jvm.ClassFile.FieldType)), (Jvm.Cond.methodLink "ThreeLinkPairModel" (1 : Nat) ({ cls := "java/lang/Object", name := "<init>", desc := "()V" } : Jvm.MethodName))]
def sl_3_8 : List Cond := [(Jvm.Cond.methodLink "ThreeLinkPairModel" (153 : Nat) ({ cls := "ThreeLinkPairModel", name := "begin", desc := "(I)V" } : Jvm.MethodName)), (Jvm.Cond.privateMethod ({ cls := "ThreeLinkPairModel", name := "begin", desc := "(I)V" } : Jvm.MethodName)), (Jvm.Cond.instanceMethod ({ cls := "ThreeLinkPairModel", name := "begin", desc := "(I)V" } : Jvm.MethodName)), (Jvm.Cond.code ({ cls := "ThreeLinkPairModel", name := "begin", desc := "(I)V" } : Jvm.MethodName) prog_10_method_10_code (2 : Nat) (Option.none : Option Jvm.ClassFile.FieldType)), (Jvm.Cond.methodLink "ThreeLinkPairModel" (170 : Nat) ({ cls := "ThreeLinkPairModel", name := "empty", desc := "(I)V" } : Jvm.MethodName)), (Jvm.Cond.privateMethod ({ cls := "ThreeLinkPairModel", name := "empty", desc := "(I)V" } : Jvm.MethodName)), (Jvm.Cond.instanceMethod ({ cls := "ThreeLinkPairModel", name := "empty", desc := "(I)V" } : Jvm.MethodName)), (Jvm.Cond.code ({ cls := "ThreeLinkPairModel", name := "empty", desc := "(I)V" } : Jvm.MethodName) prog_10_method_9_code (2 : Nat) (Option.none : Option Jvm.ClassFile.FieldType)), (Jvm.Cond.methodLink "ThreeLinkPairModel" (163 : Nat) ({ cls := "ThreeLinkPairModel", name := "shift", desc := "(I)I" } : Jvm.MethodName)), (Jvm.Cond.privateMethod ({ cls := "ThreeLinkPairModel", name := "shift", desc := "(I)I" } : Jvm.MethodName)), (Jvm.Cond.instanceMethod ({ cls := "ThreeLinkPairModel", name := "shift", desc := "(I)I" } : Jvm.MethodName)), (Jvm.Cond.code ({ cls := "ThreeLinkPairModel", name := "shift", desc := "(I)I" } : Jvm.MethodName) prog_10_method_6_code (3 : Nat) (Option.some Jvm.ClassFile.FieldType.int)), (Jvm.Cond.methodLink "ThreeLinkPairModel" (167 : Nat) ({ cls := "ThreeLinkPairModel", name := "give", desc := "(I)V" } : Jvm.MethodName)), (Jvm.Cond.privateMethod ({ cls := "ThreeLinkPairModel", name := "give", desc := "(I)V" } : Jvm.MethodName)), (Jvm.Cond.instanceMethod ({ cls := "ThreeLinkPairModel", name := "give", desc := "(I)V" } : Jvm.MethodName)), (Jvm.Cond.code ({ cls := "ThreeLinkPairModel", name := "give", desc := "(I)V" } : Jvm.MethodName) prog_10_method_4_code (2 : Nat) (Option.none : Option Jvm.ClassFile.FieldType))]
def sl_3_9 : List Cond := [(Jvm.Cond.fieldLink "ThreeLinkPairModel" (157 : Nat) "ThreeLinkPairModel" "thrown" "I"), (Jvm.Cond.fieldLink "ThreeLinkPairModel" (7 : Nat) "ThreeLinkPairModel" "kinds" "[I"), (Jvm.Cond.fieldLink "ThreeLinkPairModel" (13 : Nat) "ThreeLinkPairModel" "words" "[I"), (Jvm.Cond.fieldLink "ThreeLinkPairModel" (16 : Nat) "ThreeLinkPairModel" "abouts" "[I"), (Jvm.Cond.fieldLink "ThreeLinkPairModel" (19 : Nat) "ThreeLinkPairModel" "turnsOf" "[I"), (Jvm.Cond.fieldLink "ThreeLinkPairModel" (22 : Nat) "ThreeLinkPairModel" "numbers" "[I"), (Jvm.Cond.fieldLink "ThreeLinkPairModel" (25 : Nat) "ThreeLinkPairModel" "nexts" "[I"), (Jvm.Cond.fieldLink "ThreeLinkPairModel" (28 : Nat) "ThreeLinkPairModel" "spare" "I"), (Jvm.Cond.fieldLink "ThreeLinkPairModel" (160 : Nat) "ThreeLinkPairModel" "made" "I"), (Jvm.Cond.fieldLink "ThreeLinkPairModel" (32 : Nat) "ThreeLinkPairModel" "firsts" "[I"), (Jvm.Cond.fieldLink "ThreeLinkPairModel" (35 : Nat) "ThreeLinkPairModel" "lasts" "[I"), (Jvm.Cond.fieldLink "ThreeLinkPairModel" (38 : Nat) "ThreeLinkPairModel" "sizes" "[I"), (Jvm.Cond.fieldLink "ThreeLinkPairModel" (41 : Nat) "ThreeLinkPairModel" "states" "[I"), (Jvm.Cond.fieldLink "ThreeLinkPairModel" (44 : Nat) "ThreeLinkPairModel" "ages" "[I"), (Jvm.Cond.fieldLink "ThreeLinkPairModel" (47 : Nat) "ThreeLinkPairModel" "turns" "[I"), (Jvm.Cond.fieldLink "ThreeLinkPairModel" (50 : Nat) "ThreeLinkPairModel" "heards" "[I")]
def sl_3_10 : List Cond := [(Jvm.Cond.fieldLink "ThreeLinkPairModel" (53 : Nat) "ThreeLinkPairModel" "fell" "[Z"), (Jvm.Cond.fieldLink "ThreeLinkPairModel" (57 : Nat) "ThreeLinkPairModel" "fores" "[I"), (Jvm.Cond.fieldLink "ThreeLinkPairModel" (60 : Nat) "ThreeLinkPairModel" "backs" "[I"), (Jvm.Cond.fieldLink "ThreeLinkPairModel" (63 : Nat) "ThreeLinkPairModel" "foreBits" "[I"), (Jvm.Cond.fieldLink "ThreeLinkPairModel" (66 : Nat) "ThreeLinkPairModel" "backBits" "[I"), (Jvm.Cond.fieldLink "ThreeLinkPairModel" (69 : Nat) "ThreeLinkPairModel" "errors" "[I"), (Jvm.Cond.fieldLink "ThreeLinkPairModel" (72 : Nat) "ThreeLinkPairModel" "tries" "[I"), (Jvm.Cond.fieldLink "ThreeLinkPairModel" (75 : Nat) "ThreeLinkPairModel" "buckets" "[I"), (Jvm.Cond.fieldLink "ThreeLinkPairModel" (78 : Nat) "ThreeLinkPairModel" "goods" "[I"), (Jvm.Cond.fieldLink "ThreeLinkPairModel" (81 : Nat) "ThreeLinkPairModel" "idles" "[I"), (Jvm.Cond.fieldLink "ThreeLinkPairModel" (84 : Nat) "ThreeLinkPairModel" "odds" "[I"), (Jvm.Cond.fieldLink "ThreeLinkPairModel" (87 : Nat) "ThreeLinkPairModel" "again" "[I"), (Jvm.Cond.fieldLink "ThreeLinkPairModel" (90 : Nat) "ThreeLinkPairModel" "rememberedTurns" "[I"), (Jvm.Cond.fieldLink "ThreeLinkPairModel" (93 : Nat) "ThreeLinkPairModel" "rememberedBacks" "[I"), (Jvm.Cond.fieldLink "ThreeLinkPairModel" (96 : Nat) "ThreeLinkPairModel" "faults" "[I"), (Jvm.Cond.fieldLink "ThreeLinkPairModel" (99 : Nat) "ThreeLinkPairModel" "faultsLeft" "[I")]
def sl_3_11 : List Cond := [(Jvm.Cond.fieldLink "ThreeLinkPairModel" (102 : Nat) "ThreeLinkPairModel" "units" "[I"), (Jvm.Cond.fieldLink "ThreeLinkPairModel" (105 : Nat) "ThreeLinkPairModel" "unitTurns" "[I"), (Jvm.Cond.fieldLink "ThreeLinkPairModel" (108 : Nat) "ThreeLinkPairModel" "unitFores" "[I"), (Jvm.Cond.fieldLink "ThreeLinkPairModel" (111 : Nat) "ThreeLinkPairModel" "unitForeBits" "[I"), (Jvm.Cond.fieldLink "ThreeLinkPairModel" (114 : Nat) "ThreeLinkPairModel" "unitBacks" "[I"), (Jvm.Cond.fieldLink "ThreeLinkPairModel" (117 : Nat) "ThreeLinkPairModel" "unitBackBits" "[I"), (Jvm.Cond.fieldLink "ThreeLinkPairModel" (120 : Nat) "ThreeLinkPairModel" "unitKinds" "[I"), (Jvm.Cond.fieldLink "ThreeLinkPairModel" (123 : Nat) "ThreeLinkPairModel" "unitWords" "[I"), (Jvm.Cond.fieldLink "ThreeLinkPairModel" (126 : Nat) "ThreeLinkPairModel" "unitAbouts" "[I"), (Jvm.Cond.fieldLink "ThreeLinkPairModel" (129 : Nat) "ThreeLinkPairModel" "unitMessageTurns" "[I"), (Jvm.Cond.fieldLink "ThreeLinkPairModel" (132 : Nat) "ThreeLinkPairModel" "changing" "[I"), (Jvm.Cond.fieldLink "ThreeLinkPairModel" (135 : Nat) "ThreeLinkPairModel" "said" "[Z"), (Jvm.Cond.fieldLink "ThreeLinkPairModel" (138 : Nat) "ThreeLinkPairModel" "waits" "[I"), (Jvm.Cond.fieldLink "ThreeLinkPairModel" (141 : Nat) "ThreeLinkPairModel" "keptTurns" "[I"), (Jvm.Cond.fieldLink "ThreeLinkPairModel" (144 : Nat) "ThreeLinkPairModel" "keptHeards" "[I"), (Jvm.Cond.fieldLink "ThreeLinkPairModel" (147 : Nat) "ThreeLinkPairModel" "keptBacks" "[I")]
def sl_3_12 : List Cond := [(Jvm.Cond.fieldLink "ThreeLinkPairModel" (150 : Nat) "ThreeLinkPairModel" "links" "[I"), (Jvm.Cond.fieldLink "ThreeLinkPairModel" (200 : Nat) "ThreeLinkPairModel" "lostCount" "I"), (Jvm.Cond.fieldLink "ThreeLinkPairModel" (233 : Nat) "ThreeLinkPairModel" "came" "I"), (Jvm.Cond.lays "ThreeLinkPairModel" "ThreeLinkPairModel" "thrown" "I"), (Jvm.Cond.soleField "ThreeLinkPairModel" "thrown"), (Jvm.Cond.laysFinal "ThreeLinkPairModel" "ThreeLinkPairModel" "kinds" "[I"), (Jvm.Cond.soleField "ThreeLinkPairModel" "kinds"), (Jvm.Cond.laysFinal "ThreeLinkPairModel" "ThreeLinkPairModel" "words" "[I"), (Jvm.Cond.soleField "ThreeLinkPairModel" "words"), (Jvm.Cond.laysFinal "ThreeLinkPairModel" "ThreeLinkPairModel" "abouts" "[I"), (Jvm.Cond.soleField "ThreeLinkPairModel" "abouts"), (Jvm.Cond.laysFinal "ThreeLinkPairModel" "ThreeLinkPairModel" "turnsOf" "[I"), (Jvm.Cond.soleField "ThreeLinkPairModel" "turnsOf"), (Jvm.Cond.laysFinal "ThreeLinkPairModel" "ThreeLinkPairModel" "numbers" "[I"), (Jvm.Cond.soleField "ThreeLinkPairModel" "numbers"), (Jvm.Cond.laysFinal "ThreeLinkPairModel" "ThreeLinkPairModel" "nexts" "[I")]
def sl_3_13 : List Cond := [(Jvm.Cond.soleField "ThreeLinkPairModel" "nexts"), (Jvm.Cond.lays "ThreeLinkPairModel" "ThreeLinkPairModel" "spare" "I"), (Jvm.Cond.soleField "ThreeLinkPairModel" "spare"), (Jvm.Cond.lays "ThreeLinkPairModel" "ThreeLinkPairModel" "made" "I"), (Jvm.Cond.soleField "ThreeLinkPairModel" "made"), (Jvm.Cond.laysFinal "ThreeLinkPairModel" "ThreeLinkPairModel" "firsts" "[I"), (Jvm.Cond.soleField "ThreeLinkPairModel" "firsts"), (Jvm.Cond.laysFinal "ThreeLinkPairModel" "ThreeLinkPairModel" "lasts" "[I"), (Jvm.Cond.soleField "ThreeLinkPairModel" "lasts"), (Jvm.Cond.laysFinal "ThreeLinkPairModel" "ThreeLinkPairModel" "sizes" "[I"), (Jvm.Cond.soleField "ThreeLinkPairModel" "sizes"), (Jvm.Cond.laysFinal "ThreeLinkPairModel" "ThreeLinkPairModel" "states" "[I"), (Jvm.Cond.soleField "ThreeLinkPairModel" "states"), (Jvm.Cond.laysFinal "ThreeLinkPairModel" "ThreeLinkPairModel" "ages" "[I"), (Jvm.Cond.soleField "ThreeLinkPairModel" "ages"), (Jvm.Cond.laysFinal "ThreeLinkPairModel" "ThreeLinkPairModel" "turns" "[I")]
def sl_3_14 : List Cond := [(Jvm.Cond.soleField "ThreeLinkPairModel" "turns"), (Jvm.Cond.laysFinal "ThreeLinkPairModel" "ThreeLinkPairModel" "heards" "[I"), (Jvm.Cond.soleField "ThreeLinkPairModel" "heards"), (Jvm.Cond.laysFinal "ThreeLinkPairModel" "ThreeLinkPairModel" "fell" "[Z"), (Jvm.Cond.soleField "ThreeLinkPairModel" "fell"), (Jvm.Cond.laysFinal "ThreeLinkPairModel" "ThreeLinkPairModel" "fores" "[I"), (Jvm.Cond.soleField "ThreeLinkPairModel" "fores"), (Jvm.Cond.laysFinal "ThreeLinkPairModel" "ThreeLinkPairModel" "backs" "[I"), (Jvm.Cond.soleField "ThreeLinkPairModel" "backs"), (Jvm.Cond.laysFinal "ThreeLinkPairModel" "ThreeLinkPairModel" "foreBits" "[I"), (Jvm.Cond.soleField "ThreeLinkPairModel" "foreBits"), (Jvm.Cond.laysFinal "ThreeLinkPairModel" "ThreeLinkPairModel" "backBits" "[I"), (Jvm.Cond.soleField "ThreeLinkPairModel" "backBits"), (Jvm.Cond.laysFinal "ThreeLinkPairModel" "ThreeLinkPairModel" "errors" "[I"), (Jvm.Cond.soleField "ThreeLinkPairModel" "errors"), (Jvm.Cond.laysFinal "ThreeLinkPairModel" "ThreeLinkPairModel" "tries" "[I")]
set_option maxRecDepth 100000 in
theorem sx_3 : tables_1_4 = sl_3_0 ++ (sl_3_1 ++ (sl_3_2 ++ (sl_3_3 ++ (sl_3_4 ++ (sl_3_5 ++ (sl_3_6 ++ (sl_3_7 ++ (sl_3_8 ++ (sl_3_9 ++ (sl_3_10 ++ (sl_3_11 ++ (sl_3_12 ++ (sl_3_13 ++ (sl_3_14)))))))))))))) := rfl
theorem su_3 : ∀ x ∈ tables_1_4, x ∈ lw_tbl := fun x h => List.mem_append_right _ (List.mem_append_right _ (List.mem_append_right _ (List.mem_append_right _ (List.mem_append_left _ h))))
theorem sg_3_0 : ∀ x ∈ sl_3_0, x ∈ lw_tbl := fun x h => su_3 x (by rw [sx_3]; exact List.mem_append_left _ h)
theorem sg_3_1 : ∀ x ∈ sl_3_1, x ∈ lw_tbl := fun x h => su_3 x (by rw [sx_3]; exact List.mem_append_right _ (List.mem_append_left _ h))
theorem sg_3_2 : ∀ x ∈ sl_3_2, x ∈ lw_tbl := fun x h => su_3 x (by rw [sx_3]; exact List.mem_append_right _ (List.mem_append_right _ (List.mem_append_left _ h)))
theorem sg_3_3 : ∀ x ∈ sl_3_3, x ∈ lw_tbl := fun x h => su_3 x (by rw [sx_3]; exact List.mem_append_right _ (List.mem_append_right _ (List.mem_append_right _ (List.mem_append_left _ h))))
theorem sg_3_4 : ∀ x ∈ sl_3_4, x ∈ lw_tbl := fun x h => su_3 x (by rw [sx_3]; exact List.mem_append_right _ (List.mem_append_right _ (List.mem_append_right _ (List.mem_append_right _ (List.mem_append_left _ h)))))
theorem sg_3_5 : ∀ x ∈ sl_3_5, x ∈ lw_tbl := fun x h => su_3 x (by rw [sx_3]; exact List.mem_append_right _ (List.mem_append_right _ (List.mem_append_right _ (List.mem_append_right _ (List.mem_append_right _ (List.mem_append_left _ h))))))
theorem sg_3_6 : ∀ x ∈ sl_3_6, x ∈ lw_tbl := fun x h => su_3 x (by rw [sx_3]; exact List.mem_append_right _ (List.mem_append_right _ (List.mem_append_right _ (List.mem_append_right _ (List.mem_append_right _ (List.mem_append_right _ (List.mem_append_left _ h)))))))
theorem sg_3_7 : ∀ x ∈ sl_3_7, x ∈ lw_tbl := fun x h => su_3 x (by rw [sx_3]; exact List.mem_append_right _ (List.mem_append_right _ (List.mem_append_right _ (List.mem_append_right _ (List.mem_append_right _ (List.mem_append_right _ (List.mem_append_right _ (List.mem_append_left _ h))))))))
theorem sg_3_8 : ∀ x ∈ sl_3_8, x ∈ lw_tbl := fun x h => su_3 x (by rw [sx_3]; exact List.mem_append_right _ (List.mem_append_right _ (List.mem_append_right _ (List.mem_append_right _ (List.mem_append_right _ (List.mem_append_right _ (List.mem_append_right _ (List.mem_append_right _ (List.mem_append_left _ h)))))))))
theorem sg_3_9 : ∀ x ∈ sl_3_9, x ∈ lw_tbl := fun x h => su_3 x (by rw [sx_3]; exact List.mem_append_right _ (List.mem_append_right _ (List.mem_append_right _ (List.mem_append_right _ (List.mem_append_right _ (List.mem_append_right _ (List.mem_append_right _ (List.mem_append_right _ (List.mem_append_right _ (List.mem_append_left _ h))))))))))
theorem sg_3_10 : ∀ x ∈ sl_3_10, x ∈ lw_tbl := fun x h => su_3 x (by rw [sx_3]; exact List.mem_append_right _ (List.mem_append_right _ (List.mem_append_right _ (List.mem_append_right _ (List.mem_append_right _ (List.mem_append_right _ (List.mem_append_right _ (List.mem_append_right _ (List.mem_append_right _ (List.mem_append_right _ (List.mem_append_left _ h)))))))))))
theorem sg_3_11 : ∀ x ∈ sl_3_11, x ∈ lw_tbl := fun x h => su_3 x (by rw [sx_3]; exact List.mem_append_right _ (List.mem_append_right _ (List.mem_append_right _ (List.mem_append_right _ (List.mem_append_right _ (List.mem_append_right _ (List.mem_append_right _ (List.mem_append_right _ (List.mem_append_right _ (List.mem_append_right _ (List.mem_append_right _ (List.mem_append_left _ h))))))))))))
theorem sg_3_12 : ∀ x ∈ sl_3_12, x ∈ lw_tbl := fun x h => su_3 x (by rw [sx_3]; exact List.mem_append_right _ (List.mem_append_right _ (List.mem_append_right _ (List.mem_append_right _ (List.mem_append_right _ (List.mem_append_right _ (List.mem_append_right _ (List.mem_append_right _ (List.mem_append_right _ (List.mem_append_right _ (List.mem_append_right _ (List.mem_append_right _ (List.mem_append_left _ h)))))))))))))
theorem sg_3_13 : ∀ x ∈ sl_3_13, x ∈ lw_tbl := fun x h => su_3 x (by rw [sx_3]; exact List.mem_append_right _ (List.mem_append_right _ (List.mem_append_right _ (List.mem_append_right _ (List.mem_append_right _ (List.mem_append_right _ (List.mem_append_right _ (List.mem_append_right _ (List.mem_append_right _ (List.mem_append_right _ (List.mem_append_right _ (List.mem_append_right _ (List.mem_append_right _ (List.mem_append_left _ h))))))))))))))
theorem sg_3_14 : ∀ x ∈ sl_3_14, x ∈ lw_tbl := fun x h => su_3 x (by rw [sx_3]; exact List.mem_append_right _ (List.mem_append_right _ (List.mem_append_right _ (List.mem_append_right _ (List.mem_append_right _ (List.mem_append_right _ (List.mem_append_right _ (List.mem_append_right _ (List.mem_append_right _ (List.mem_append_right _ (List.mem_append_right _ (List.mem_append_right _ (List.mem_append_right _ (List.mem_append_right _ (h)))))))))))))))
def sl_4_0 : List Cond := [(Jvm.Cond.soleField "ThreeLinkPairModel" "tries"), (Jvm.Cond.laysFinal "ThreeLinkPairModel" "ThreeLinkPairModel" "buckets" "[I"), (Jvm.Cond.soleField "ThreeLinkPairModel" "buckets"), (Jvm.Cond.laysFinal "ThreeLinkPairModel" "ThreeLinkPairModel" "goods" "[I"), (Jvm.Cond.soleField "ThreeLinkPairModel" "goods"), (Jvm.Cond.laysFinal "ThreeLinkPairModel" "ThreeLinkPairModel" "idles" "[I"), (Jvm.Cond.soleField "ThreeLinkPairModel" "idles"), (Jvm.Cond.laysFinal "ThreeLinkPairModel" "ThreeLinkPairModel" "odds" "[I"), (Jvm.Cond.soleField "ThreeLinkPairModel" "odds"), (Jvm.Cond.laysFinal "ThreeLinkPairModel" "ThreeLinkPairModel" "again" "[I"), (Jvm.Cond.soleField "ThreeLinkPairModel" "again"), (Jvm.Cond.laysFinal "ThreeLinkPairModel" "ThreeLinkPairModel" "rememberedTurns" "[I"), (Jvm.Cond.soleField "ThreeLinkPairModel" "rememberedTurns"), (Jvm.Cond.laysFinal "ThreeLinkPairModel" "ThreeLinkPairModel" "rememberedBacks" "[I"), (Jvm.Cond.soleField "ThreeLinkPairModel" "rememberedBacks"), (Jvm.Cond.laysFinal "ThreeLinkPairModel" "ThreeLinkPairModel" "faults" "[I")]
def sl_4_1 : List Cond := [(Jvm.Cond.soleField "ThreeLinkPairModel" "faults"), (Jvm.Cond.laysFinal "ThreeLinkPairModel" "ThreeLinkPairModel" "faultsLeft" "[I"), (Jvm.Cond.soleField "ThreeLinkPairModel" "faultsLeft"), (Jvm.Cond.laysFinal "ThreeLinkPairModel" "ThreeLinkPairModel" "units" "[I"), (Jvm.Cond.soleField "ThreeLinkPairModel" "units"), (Jvm.Cond.laysFinal "ThreeLinkPairModel" "ThreeLinkPairModel" "unitTurns" "[I"), (Jvm.Cond.soleField "ThreeLinkPairModel" "unitTurns"), (Jvm.Cond.laysFinal "ThreeLinkPairModel" "ThreeLinkPairModel" "unitFores" "[I"), (Jvm.Cond.soleField "ThreeLinkPairModel" "unitFores"), (Jvm.Cond.laysFinal "ThreeLinkPairModel" "ThreeLinkPairModel" "unitForeBits" "[I"), (Jvm.Cond.soleField "ThreeLinkPairModel" "unitForeBits"), (Jvm.Cond.laysFinal "ThreeLinkPairModel" "ThreeLinkPairModel" "unitBacks" "[I"), (Jvm.Cond.soleField "ThreeLinkPairModel" "unitBacks"), (Jvm.Cond.laysFinal "ThreeLinkPairModel" "ThreeLinkPairModel" "unitBackBits" "[I"), (Jvm.Cond.soleField "ThreeLinkPairModel" "unitBackBits"), (Jvm.Cond.laysFinal "ThreeLinkPairModel" "ThreeLinkPairModel" "unitKinds" "[I")]
def sl_4_2 : List Cond := [(Jvm.Cond.soleField "ThreeLinkPairModel" "unitKinds"), (Jvm.Cond.laysFinal "ThreeLinkPairModel" "ThreeLinkPairModel" "unitWords" "[I"), (Jvm.Cond.soleField "ThreeLinkPairModel" "unitWords"), (Jvm.Cond.laysFinal "ThreeLinkPairModel" "ThreeLinkPairModel" "unitAbouts" "[I"), (Jvm.Cond.soleField "ThreeLinkPairModel" "unitAbouts"), (Jvm.Cond.laysFinal "ThreeLinkPairModel" "ThreeLinkPairModel" "unitMessageTurns" "[I"), (Jvm.Cond.soleField "ThreeLinkPairModel" "unitMessageTurns"), (Jvm.Cond.laysFinal "ThreeLinkPairModel" "ThreeLinkPairModel" "changing" "[I"), (Jvm.Cond.soleField "ThreeLinkPairModel" "changing"), (Jvm.Cond.laysFinal "ThreeLinkPairModel" "ThreeLinkPairModel" "said" "[Z"), (Jvm.Cond.soleField "ThreeLinkPairModel" "said"), (Jvm.Cond.laysFinal "ThreeLinkPairModel" "ThreeLinkPairModel" "waits" "[I"), (Jvm.Cond.soleField "ThreeLinkPairModel" "waits"), (Jvm.Cond.laysFinal "ThreeLinkPairModel" "ThreeLinkPairModel" "keptTurns" "[I"), (Jvm.Cond.soleField "ThreeLinkPairModel" "keptTurns"), (Jvm.Cond.laysFinal "ThreeLinkPairModel" "ThreeLinkPairModel" "keptHeards" "[I")]
def sl_4_3 : List Cond := [(Jvm.Cond.soleField "ThreeLinkPairModel" "keptHeards"), (Jvm.Cond.laysFinal "ThreeLinkPairModel" "ThreeLinkPairModel" "keptBacks" "[I"), (Jvm.Cond.soleField "ThreeLinkPairModel" "keptBacks"), (Jvm.Cond.laysFinal "ThreeLinkPairModel" "ThreeLinkPairModel" "links" "[I"), (Jvm.Cond.soleField "ThreeLinkPairModel" "links"), (Jvm.Cond.lays "ThreeLinkPairModel" "ThreeLinkPairModel" "lostCount" "I"), (Jvm.Cond.soleField "ThreeLinkPairModel" "lostCount"), (Jvm.Cond.lays "ThreeLinkPairModel" "ThreeLinkPairModel" "came" "I"), (Jvm.Cond.soleField "ThreeLinkPairModel" "came"), (Jvm.Cond.superclass "ThreeLinkPairModel" "java/lang/Object"), (Jvm.Cond.arrayClass Jvm.ClassFile.FieldType.boolean), (Jvm.Cond.methodLink "ThreeLinkPairLaw" (65 : Nat) ({ cls := "ThreeLinkPairModel", name := "thrown", desc := "()I" } : Jvm.MethodName)), (Jvm.Cond.instanceMethod ({ cls := "ThreeLinkPairModel", name := "thrown", desc := "()I" } : Jvm.MethodName)), (Jvm.Cond.selects "ThreeLinkPairModel" ({ cls := "ThreeLinkPairModel", name := "thrown", desc := "()I" } : Jvm.MethodName) ({ cls := "ThreeLinkPairModel", name := "thrown", desc := "()I" } : Jvm.MethodName)), (Jvm.Cond.code ({ cls := "ThreeLinkPairModel", name := "thrown", desc := "()I" } : Jvm.MethodName) prog_10_method_2_code (1 : Nat) (Option.some Jvm.ClassFile.FieldType.int)), (Jvm.Cond.methodLink "ThreeLinkPairLaw" (64 : Nat) ({ cls := "ThreeLinkPairModel", name := "start", desc := "(II)Z" } : Jvm.MethodName))]
def sl_4_4 : List Cond := [(Jvm.Cond.instanceMethod ({ cls := "ThreeLinkPairModel", name := "start", desc := "(II)Z" } : Jvm.MethodName)), (Jvm.Cond.selects "ThreeLinkPairModel" ({ cls := "ThreeLinkPairModel", name := "start", desc := "(II)Z" } : Jvm.MethodName) ({ cls := "ThreeLinkPairModel", name := "start", desc := "(II)Z" } : Jvm.MethodName)), (Jvm.Cond.code ({ cls := "ThreeLinkPairModel", name := "start", desc := "(II)Z" } : Jvm.MethodName) prog_10_method_14_code (4 : Nat) (Option.some Jvm.ClassFile.FieldType.boolean)), (Jvm.Cond.methodLink "ThreeLinkPairModel" (173 : Nat) ({ cls := "ThreeLinkPairModel", name := "isSide", desc := "(II)Z" } : Jvm.MethodName)), (Jvm.Cond.static ({ cls := "ThreeLinkPairModel", name := "isSide", desc := "(II)Z" } : Jvm.MethodName)), (Jvm.Cond.code ({ cls := "ThreeLinkPairModel", name := "isSide", desc := "(II)Z" } : Jvm.MethodName) prog_10_method_12_code (2 : Nat) (Option.some Jvm.ClassFile.FieldType.boolean)), (Jvm.Cond.methodLink "ThreeLinkPairModel" (177 : Nat) ({ cls := "ThreeLinkPairModel", name := "missing", desc := "(Z)Z" } : Jvm.MethodName)), (Jvm.Cond.privateMethod ({ cls := "ThreeLinkPairModel", name := "missing", desc := "(Z)Z" } : Jvm.MethodName)), (Jvm.Cond.instanceMethod ({ cls := "ThreeLinkPairModel", name := "missing", desc := "(Z)Z" } : Jvm.MethodName)), (Jvm.Cond.code ({ cls := "ThreeLinkPairModel", name := "missing", desc := "(Z)Z" } : Jvm.MethodName) prog_10_method_13_code (2 : Nat) (Option.some Jvm.ClassFile.FieldType.boolean)), (Jvm.Cond.methodLink "ThreeLinkPairModel" (181 : Nat) ({ cls := "ThreeLinkPairModel", name := "come", desc := "(II)V" } : Jvm.MethodName)), (Jvm.Cond.privateMethod ({ cls := "ThreeLinkPairModel", name := "come", desc := "(II)V" } : Jvm.MethodName)), (Jvm.Cond.instanceMethod ({ cls := "ThreeLinkPairModel", name := "come", desc := "(II)V" } : Jvm.MethodName)), (Jvm.Cond.code ({ cls := "ThreeLinkPairModel", name := "come", desc := "(II)V" } : Jvm.MethodName) prog_10_method_11_code (3 : Nat) (Option.none : Option Jvm.ClassFile.FieldType)), (Jvm.Cond.methodLink "ThreeLinkPairLaw" (71 : Nat) ({ cls := "ThreeLinkPairModel", name := "stop", desc := "(II)Z" } : Jvm.MethodName)), (Jvm.Cond.instanceMethod ({ cls := "ThreeLinkPairModel", name := "stop", desc := "(II)Z" } : Jvm.MethodName))]
def sl_4_5 : List Cond := [(Jvm.Cond.selects "ThreeLinkPairModel" ({ cls := "ThreeLinkPairModel", name := "stop", desc := "(II)Z" } : Jvm.MethodName) ({ cls := "ThreeLinkPairModel", name := "stop", desc := "(II)Z" } : Jvm.MethodName)), (Jvm.Cond.code ({ cls := "ThreeLinkPairModel", name := "stop", desc := "(II)Z" } : Jvm.MethodName) prog_10_method_16_code (3 : Nat) (Option.some Jvm.ClassFile.FieldType.boolean)), (Jvm.Cond.methodLink "ThreeLinkPairModel" (188 : Nat) ({ cls := "ThreeLinkPairModel", name := "fall", desc := "(I)V" } : Jvm.MethodName)), (Jvm.Cond.privateMethod ({ cls := "ThreeLinkPairModel", name := "fall", desc := "(I)V" } : Jvm.MethodName)), (Jvm.Cond.instanceMethod ({ cls := "ThreeLinkPairModel", name := "fall", desc := "(I)V" } : Jvm.MethodName)), (Jvm.Cond.code ({ cls := "ThreeLinkPairModel", name := "fall", desc := "(I)V" } : Jvm.MethodName) prog_10_method_15_code (4 : Nat) (Option.none : Option Jvm.ClassFile.FieldType)), (Jvm.Cond.methodLink "ThreeLinkPairModel" (185 : Nat) ({ cls := "ThreeLinkPairModel", name := "change", desc := "(I)V" } : Jvm.MethodName)), (Jvm.Cond.privateMethod ({ cls := "ThreeLinkPairModel", name := "change", desc := "(I)V" } : Jvm.MethodName)), (Jvm.Cond.instanceMethod ({ cls := "ThreeLinkPairModel", name := "change", desc := "(I)V" } : Jvm.MethodName)), (Jvm.Cond.code ({ cls := "ThreeLinkPairModel", name := "change", desc := "(I)V" } : Jvm.MethodName) prog_10_method_18_code (5 : Nat) (Option.none : Option Jvm.ClassFile.FieldType)), (Jvm.Cond.methodLink "ThreeLinkPairModel" (191 : Nat) ({ cls := "ThreeLinkPairModel", name := "put", desc := "(II)V" } : Jvm.MethodName)), (Jvm.Cond.privateMethod ({ cls := "ThreeLinkPairModel", name := "put", desc := "(II)V" } : Jvm.MethodName)), (Jvm.Cond.instanceMethod ({ cls := "ThreeLinkPairModel", name := "put", desc := "(II)V" } : Jvm.MethodName)), (Jvm.Cond.code ({ cls := "ThreeLinkPairModel", name := "put", desc := "(II)V" } : Jvm.MethodName) prog_10_method_5_code (3 : Nat) (Option.none : Option Jvm.ClassFile.FieldType)), (Jvm.Cond.methodLink "ThreeLinkPairLaw" (75 : Nat) ({ cls := "ThreeLinkPairModel", name := "fault", desc := "(IIII)V" } : Jvm.MethodName)), (Jvm.Cond.instanceMethod ({ cls := "ThreeLinkPairModel", name := "fault", desc := "(IIII)V" } : Jvm.MethodName))]
def sl_4_6 : List Cond := [(Jvm.Cond.selects "ThreeLinkPairModel" ({ cls := "ThreeLinkPairModel", name := "fault", desc := "(IIII)V" } : Jvm.MethodName) ({ cls := "ThreeLinkPairModel", name := "fault", desc := "(IIII)V" } : Jvm.MethodName)), (Jvm.Cond.code ({ cls := "ThreeLinkPairModel", name := "fault", desc := "(IIII)V" } : Jvm.MethodName) prog_10_method_17_code (5 : Nat) (Option.none : Option Jvm.ClassFile.FieldType)), (Jvm.Cond.methodLink "ThreeLinkPairLaw" (83 : Nat) ({ cls := "ThreeLinkPairModel", name := "tick", desc := "()I" } : Jvm.MethodName)), (Jvm.Cond.instanceMethod ({ cls := "ThreeLinkPairModel", name := "tick", desc := "()I" } : Jvm.MethodName)), (Jvm.Cond.selects "ThreeLinkPairModel" ({ cls := "ThreeLinkPairModel", name := "tick", desc := "()I" } : Jvm.MethodName) ({ cls := "ThreeLinkPairModel", name := "tick", desc := "()I" } : Jvm.MethodName)), (Jvm.Cond.code ({ cls := "ThreeLinkPairModel", name := "tick", desc := "()I" } : Jvm.MethodName) prog_10_method_36_code (3 : Nat) (Option.some Jvm.ClassFile.FieldType.int)), (Jvm.Cond.methodLink "ThreeLinkPairModel" (249 : Nat) ({ cls := "ThreeLinkPairModel", name := "deliver", desc := "(I)V" } : Jvm.MethodName)), (Jvm.Cond.privateMethod ({ cls := "ThreeLinkPairModel", name := "deliver", desc := "(I)V" } : Jvm.MethodName)), (Jvm.Cond.instanceMethod ({ cls := "ThreeLinkPairModel", name := "deliver", desc := "(I)V" } : Jvm.MethodName)), (Jvm.Cond.code ({ cls := "ThreeLinkPairModel", name := "deliver", desc := "(I)V" } : Jvm.MethodName) prog_10_method_32_code (4 : Nat) (Option.none : Option Jvm.ClassFile.FieldType)), (Jvm.Cond.methodLink "ThreeLinkPairModel" (230 : Nat) ({ cls := "ThreeLinkPairModel", name := "damaged", desc := "(I)V" } : Jvm.MethodName)), (Jvm.Cond.privateMethod ({ cls := "ThreeLinkPairModel", name := "damaged", desc := "(I)V" } : Jvm.MethodName)), (Jvm.Cond.instanceMethod ({ cls := "ThreeLinkPairModel", name := "damaged", desc := "(I)V" } : Jvm.MethodName)), (Jvm.Cond.code ({ cls := "ThreeLinkPairModel", name := "damaged", desc := "(I)V" } : Jvm.MethodName) prog_10_method_31_code (2 : Nat) (Option.none : Option Jvm.ClassFile.FieldType)), (Jvm.Cond.methodLink "ThreeLinkPairModel" (236 : Nat) ({ cls := "ThreeLinkPairModel", name := "status", desc := "(II)V" } : Jvm.MethodName)), (Jvm.Cond.privateMethod ({ cls := "ThreeLinkPairModel", name := "status", desc := "(II)V" } : Jvm.MethodName))]
def sl_4_7 : List Cond := [(Jvm.Cond.instanceMethod ({ cls := "ThreeLinkPairModel", name := "status", desc := "(II)V" } : Jvm.MethodName)), (Jvm.Cond.code ({ cls := "ThreeLinkPairModel", name := "status", desc := "(II)V" } : Jvm.MethodName) prog_10_method_29_code (4 : Nat) (Option.none : Option Jvm.ClassFile.FieldType)), (Jvm.Cond.methodLink "ThreeLinkPairModel" (239 : Nat) ({ cls := "ThreeLinkPairModel", name := "served", desc := "(II)V" } : Jvm.MethodName)), (Jvm.Cond.privateMethod ({ cls := "ThreeLinkPairModel", name := "served", desc := "(II)V" } : Jvm.MethodName)), (Jvm.Cond.instanceMethod ({ cls := "ThreeLinkPairModel", name := "served", desc := "(II)V" } : Jvm.MethodName)), (Jvm.Cond.code ({ cls := "ThreeLinkPairModel", name := "served", desc := "(II)V" } : Jvm.MethodName) prog_10_method_30_code (6 : Nat) (Option.none : Option Jvm.ClassFile.FieldType)), (Jvm.Cond.methodLink "ThreeLinkPairModel" (227 : Nat) ({ cls := "ThreeLinkPairModel", name := "isTaken", desc := "(II)V" } : Jvm.MethodName)), (Jvm.Cond.privateMethod ({ cls := "ThreeLinkPairModel", name := "isTaken", desc := "(II)V" } : Jvm.MethodName)), (Jvm.Cond.instanceMethod ({ cls := "ThreeLinkPairModel", name := "isTaken", desc := "(II)V" } : Jvm.MethodName)), (Jvm.Cond.code ({ cls := "ThreeLinkPairModel", name := "isTaken", desc := "(II)V" } : Jvm.MethodName) prog_10_method_28_code (5 : Nat) (Option.none : Option Jvm.ClassFile.FieldType)), (Jvm.Cond.methodLink "ThreeLinkPairModel" (223 : Nat) ({ cls := "ThreeLinkPairModel", name := "takeOrder", desc := "(IIII)V" } : Jvm.MethodName)), (Jvm.Cond.privateMethod ({ cls := "ThreeLinkPairModel", name := "takeOrder", desc := "(IIII)V" } : Jvm.MethodName)), (Jvm.Cond.instanceMethod ({ cls := "ThreeLinkPairModel", name := "takeOrder", desc := "(IIII)V" } : Jvm.MethodName)), (Jvm.Cond.code ({ cls := "ThreeLinkPairModel", name := "takeOrder", desc := "(IIII)V" } : Jvm.MethodName) prog_10_method_27_code (7 : Nat) (Option.none : Option Jvm.ClassFile.FieldType)), (Jvm.Cond.methodLink "ThreeLinkPairModel" (210 : Nat) ({ cls := "ThreeLinkPairModel", name := "message", desc := "(IIII)I" } : Jvm.MethodName)), (Jvm.Cond.privateMethod ({ cls := "ThreeLinkPairModel", name := "message", desc := "(IIII)I" } : Jvm.MethodName))]
def sl_4_8 : List Cond := [(Jvm.Cond.instanceMethod ({ cls := "ThreeLinkPairModel", name := "message", desc := "(IIII)I" } : Jvm.MethodName)), (Jvm.Cond.code ({ cls := "ThreeLinkPairModel", name := "message", desc := "(IIII)I" } : Jvm.MethodName) prog_10_method_3_code (6 : Nat) (Option.some Jvm.ClassFile.FieldType.int)), (Jvm.Cond.methodLink "ThreeLinkPairModel" (203 : Nat) ({ cls := "ThreeLinkPairModel", name := "say", desc := "(II)V" } : Jvm.MethodName)), (Jvm.Cond.privateMethod ({ cls := "ThreeLinkPairModel", name := "say", desc := "(II)V" } : Jvm.MethodName)), (Jvm.Cond.instanceMethod ({ cls := "ThreeLinkPairModel", name := "say", desc := "(II)V" } : Jvm.MethodName)), (Jvm.Cond.code ({ cls := "ThreeLinkPairModel", name := "say", desc := "(II)V" } : Jvm.MethodName) prog_10_method_23_code (4 : Nat) (Option.none : Option Jvm.ClassFile.FieldType)), (Jvm.Cond.methodLink "ThreeLinkPairModel" (197 : Nat) ({ cls := "ThreeLinkPairModel", name := "serving", desc := "(I)I" } : Jvm.MethodName)), (Jvm.Cond.privateMethod ({ cls := "ThreeLinkPairModel", name := "serving", desc := "(I)I" } : Jvm.MethodName)), (Jvm.Cond.instanceMethod ({ cls := "ThreeLinkPairModel", name := "serving", desc := "(I)I" } : Jvm.MethodName)), (Jvm.Cond.code ({ cls := "ThreeLinkPairModel", name := "serving", desc := "(I)I" } : Jvm.MethodName) prog_10_method_20_code (4 : Nat) (Option.some Jvm.ClassFile.FieldType.int)), (Jvm.Cond.methodLink "ThreeLinkPairModel" (220 : Nat) ({ cls := "ThreeLinkPairModel", name := "settle", desc := "(II)V" } : Jvm.MethodName)), (Jvm.Cond.privateMethod ({ cls := "ThreeLinkPairModel", name := "settle", desc := "(II)V" } : Jvm.MethodName)), (Jvm.Cond.instanceMethod ({ cls := "ThreeLinkPairModel", name := "settle", desc := "(II)V" } : Jvm.MethodName)), (Jvm.Cond.code ({ cls := "ThreeLinkPairModel", name := "settle", desc := "(II)V" } : Jvm.MethodName) prog_10_method_19_code (6 : Nat) (Option.none : Option Jvm.ClassFile.FieldType)), (Jvm.Cond.methodLink "ThreeLinkPairModel" (252 : Nat) ({ cls := "ThreeLinkPairModel", name := "age", desc := "(I)V" } : Jvm.MethodName)), (Jvm.Cond.privateMethod ({ cls := "ThreeLinkPairModel", name := "age", desc := "(I)V" } : Jvm.MethodName))]
def sl_4_9 : List Cond := [(Jvm.Cond.instanceMethod ({ cls := "ThreeLinkPairModel", name := "age", desc := "(I)V" } : Jvm.MethodName)), (Jvm.Cond.code ({ cls := "ThreeLinkPairModel", name := "age", desc := "(I)V" } : Jvm.MethodName) prog_10_method_33_code (2 : Nat) (Option.none : Option Jvm.ClassFile.FieldType)), (Jvm.Cond.methodLink "ThreeLinkPairModel" (255 : Nat) ({ cls := "ThreeLinkPairModel", name := "tickChange", desc := "(I)V" } : Jvm.MethodName)), (Jvm.Cond.privateMethod ({ cls := "ThreeLinkPairModel", name := "tickChange", desc := "(I)V" } : Jvm.MethodName)), (Jvm.Cond.instanceMethod ({ cls := "ThreeLinkPairModel", name := "tickChange", desc := "(I)V" } : Jvm.MethodName)), (Jvm.Cond.code ({ cls := "ThreeLinkPairModel", name := "tickChange", desc := "(I)V" } : Jvm.MethodName) prog_10_method_26_code (5 : Nat) (Option.none : Option Jvm.ClassFile.FieldType)), (Jvm.Cond.methodLink "ThreeLinkPairModel" (214 : Nat) ({ cls := "ThreeLinkPairModel", name := "giveUp", desc := "(I)V" } : Jvm.MethodName)), (Jvm.Cond.privateMethod ({ cls := "ThreeLinkPairModel", name := "giveUp", desc := "(I)V" } : Jvm.MethodName)), (Jvm.Cond.instanceMethod ({ cls := "ThreeLinkPairModel", name := "giveUp", desc := "(I)V" } : Jvm.MethodName)), (Jvm.Cond.code ({ cls := "ThreeLinkPairModel", name := "giveUp", desc := "(I)V" } : Jvm.MethodName) prog_10_method_24_code (5 : Nat) (Option.none : Option Jvm.ClassFile.FieldType)), (Jvm.Cond.methodLink "ThreeLinkPairModel" (206 : Nat) ({ cls := "ThreeLinkPairModel", name := "chosen", desc := "(II)I" } : Jvm.MethodName)), (Jvm.Cond.privateMethod ({ cls := "ThreeLinkPairModel", name := "chosen", desc := "(II)I" } : Jvm.MethodName)), (Jvm.Cond.instanceMethod ({ cls := "ThreeLinkPairModel", name := "chosen", desc := "(II)I" } : Jvm.MethodName)), (Jvm.Cond.code ({ cls := "ThreeLinkPairModel", name := "chosen", desc := "(II)I" } : Jvm.MethodName) prog_10_method_22_code (6 : Nat) (Option.some Jvm.ClassFile.FieldType.int)), (Jvm.Cond.methodLink "ThreeLinkPairModel" (194 : Nat) ({ cls := "ThreeLinkPairModel", name := "isOpen", desc := "(II)Z" } : Jvm.MethodName)), (Jvm.Cond.privateMethod ({ cls := "ThreeLinkPairModel", name := "isOpen", desc := "(II)Z" } : Jvm.MethodName))]
def sl_4_10 : List Cond := [(Jvm.Cond.instanceMethod ({ cls := "ThreeLinkPairModel", name := "isOpen", desc := "(II)Z" } : Jvm.MethodName)), (Jvm.Cond.code ({ cls := "ThreeLinkPairModel", name := "isOpen", desc := "(II)Z" } : Jvm.MethodName) prog_10_method_21_code (3 : Nat) (Option.some Jvm.ClassFile.FieldType.boolean)), (Jvm.Cond.methodLink "ThreeLinkPairModel" (217 : Nat) ({ cls := "ThreeLinkPairModel", name := "end", desc := "(I)V" } : Jvm.MethodName)), (Jvm.Cond.privateMethod ({ cls := "ThreeLinkPairModel", name := "end", desc := "(I)V" } : Jvm.MethodName)), (Jvm.Cond.instanceMethod ({ cls := "ThreeLinkPairModel", name := "end", desc := "(I)V" } : Jvm.MethodName)), (Jvm.Cond.code ({ cls := "ThreeLinkPairModel", name := "end", desc := "(I)V" } : Jvm.MethodName) prog_10_method_25_code (9 : Nat) (Option.none : Option Jvm.ClassFile.FieldType)), (Jvm.Cond.methodLink "ThreeLinkPairModel" (258 : Nat) ({ cls := "ThreeLinkPairModel", name := "send", desc := "(I)V" } : Jvm.MethodName)), (Jvm.Cond.privateMethod ({ cls := "ThreeLinkPairModel", name := "send", desc := "(I)V" } : Jvm.MethodName)), (Jvm.Cond.instanceMethod ({ cls := "ThreeLinkPairModel", name := "send", desc := "(I)V" } : Jvm.MethodName)), (Jvm.Cond.code ({ cls := "ThreeLinkPairModel", name := "send", desc := "(I)V" } : Jvm.MethodName) prog_10_method_35_code (4 : Nat) (Option.none : Option Jvm.ClassFile.FieldType)), (Jvm.Cond.methodLink "ThreeLinkPairModel" (242 : Nat) ({ cls := "ThreeLinkPairModel", name := "at", desc := "(II)I" } : Jvm.MethodName)), (Jvm.Cond.privateMethod ({ cls := "ThreeLinkPairModel", name := "at", desc := "(II)I" } : Jvm.MethodName)), (Jvm.Cond.instanceMethod ({ cls := "ThreeLinkPairModel", name := "at", desc := "(II)I" } : Jvm.MethodName)), (Jvm.Cond.code ({ cls := "ThreeLinkPairModel", name := "at", desc := "(II)I" } : Jvm.MethodName) prog_10_method_7_code (5 : Nat) (Option.some Jvm.ClassFile.FieldType.int)), (Jvm.Cond.methodLink "ThreeLinkPairModel" (245 : Nat) ({ cls := "ThreeLinkPairModel", name := "carry", desc := "(III)V" } : Jvm.MethodName)), (Jvm.Cond.privateMethod ({ cls := "ThreeLinkPairModel", name := "carry", desc := "(III)V" } : Jvm.MethodName))]
def sl_4_11 : List Cond := [(Jvm.Cond.instanceMethod ({ cls := "ThreeLinkPairModel", name := "carry", desc := "(III)V" } : Jvm.MethodName)), (Jvm.Cond.code ({ cls := "ThreeLinkPairModel", name := "carry", desc := "(III)V" } : Jvm.MethodName) prog_10_method_34_code (4 : Nat) (Option.none : Option Jvm.ClassFile.FieldType)), (Jvm.Cond.methodLink "ThreeLinkPairLaw" (79 : Nat) ({ cls := "ThreeLinkPairModel", name := "submit", desc := "(III)Z" } : Jvm.MethodName)), (Jvm.Cond.instanceMethod ({ cls := "ThreeLinkPairModel", name := "submit", desc := "(III)Z" } : Jvm.MethodName)), (Jvm.Cond.selects "ThreeLinkPairModel" ({ cls := "ThreeLinkPairModel", name := "submit", desc := "(III)Z" } : Jvm.MethodName) ({ cls := "ThreeLinkPairModel", name := "submit", desc := "(III)Z" } : Jvm.MethodName)), (Jvm.Cond.code ({ cls := "ThreeLinkPairModel", name := "submit", desc := "(III)Z" } : Jvm.MethodName) prog_10_method_38_code (8 : Nat) (Option.some Jvm.ClassFile.FieldType.boolean)), (Jvm.Cond.methodLink "ThreeLinkPairModel" (261 : Nat) ({ cls := "ThreeLinkPairModel", name := "isClass", desc := "(II)Z" } : Jvm.MethodName)), (Jvm.Cond.static ({ cls := "ThreeLinkPairModel", name := "isClass", desc := "(II)Z" } : Jvm.MethodName)), (Jvm.Cond.code ({ cls := "ThreeLinkPairModel", name := "isClass", desc := "(II)Z" } : Jvm.MethodName) prog_10_method_37_code (2 : Nat) (Option.some Jvm.ClassFile.FieldType.boolean)), (Jvm.Cond.methodLink "ThreeLinkPairModel" (264 : Nat) ({ cls := "ThreeLinkPairModel", name := "hasClass", desc := "(II)Z" } : Jvm.MethodName)), (Jvm.Cond.privateMethod ({ cls := "ThreeLinkPairModel", name := "hasClass", desc := "(II)Z" } : Jvm.MethodName)), (Jvm.Cond.instanceMethod ({ cls := "ThreeLinkPairModel", name := "hasClass", desc := "(II)Z" } : Jvm.MethodName)), (Jvm.Cond.code ({ cls := "ThreeLinkPairModel", name := "hasClass", desc := "(II)Z" } : Jvm.MethodName) prog_10_method_8_code (5 : Nat) (Option.some Jvm.ClassFile.FieldType.boolean)), (Jvm.Cond.methodLink "ThreeLinkPairLaw" (86 : Nat) ({ cls := "ThreeLinkPairModel", name := "state", desc := "(II)I" } : Jvm.MethodName)), (Jvm.Cond.instanceMethod ({ cls := "ThreeLinkPairModel", name := "state", desc := "(II)I" } : Jvm.MethodName)), (Jvm.Cond.selects "ThreeLinkPairModel" ({ cls := "ThreeLinkPairModel", name := "state", desc := "(II)I" } : Jvm.MethodName) ({ cls := "ThreeLinkPairModel", name := "state", desc := "(II)I" } : Jvm.MethodName))]
def sl_4_12 : List Cond := [(Jvm.Cond.code ({ cls := "ThreeLinkPairModel", name := "state", desc := "(II)I" } : Jvm.MethodName) prog_10_method_39_code (3 : Nat) (Option.some Jvm.ClassFile.FieldType.int)), (Jvm.Cond.methodLink "ThreeLinkPairLaw" (89 : Nat) ({ cls := "ThreeLinkPairModel", name := "of", desc := "(III)I" } : Jvm.MethodName)), (Jvm.Cond.instanceMethod ({ cls := "ThreeLinkPairModel", name := "of", desc := "(III)I" } : Jvm.MethodName)), (Jvm.Cond.selects "ThreeLinkPairModel" ({ cls := "ThreeLinkPairModel", name := "of", desc := "(III)I" } : Jvm.MethodName) ({ cls := "ThreeLinkPairModel", name := "of", desc := "(III)I" } : Jvm.MethodName)), (Jvm.Cond.code ({ cls := "ThreeLinkPairModel", name := "of", desc := "(III)I" } : Jvm.MethodName) prog_10_method_40_code (5 : Nat) (Option.some Jvm.ClassFile.FieldType.int)), (Jvm.Cond.methodLink "ThreeLinkPairLaw" (92 : Nat) ({ cls := "ThreeLinkPairModel", name := "link", desc := "(II)I" } : Jvm.MethodName)), (Jvm.Cond.instanceMethod ({ cls := "ThreeLinkPairModel", name := "link", desc := "(II)I" } : Jvm.MethodName)), (Jvm.Cond.selects "ThreeLinkPairModel" ({ cls := "ThreeLinkPairModel", name := "link", desc := "(II)I" } : Jvm.MethodName) ({ cls := "ThreeLinkPairModel", name := "link", desc := "(II)I" } : Jvm.MethodName)), (Jvm.Cond.code ({ cls := "ThreeLinkPairModel", name := "link", desc := "(II)I" } : Jvm.MethodName) prog_10_method_41_code (3 : Nat) (Option.some Jvm.ClassFile.FieldType.int)), (Jvm.Cond.methodLink "ThreeLinkPairLaw" (95 : Nat) ({ cls := "ThreeLinkPairModel", name := "changes", desc := "(II)I" } : Jvm.MethodName)), (Jvm.Cond.instanceMethod ({ cls := "ThreeLinkPairModel", name := "changes", desc := "(II)I" } : Jvm.MethodName)), (Jvm.Cond.selects "ThreeLinkPairModel" ({ cls := "ThreeLinkPairModel", name := "changes", desc := "(II)I" } : Jvm.MethodName) ({ cls := "ThreeLinkPairModel", name := "changes", desc := "(II)I" } : Jvm.MethodName)), (Jvm.Cond.code ({ cls := "ThreeLinkPairModel", name := "changes", desc := "(II)I" } : Jvm.MethodName) prog_10_method_42_code (3 : Nat) (Option.some Jvm.ClassFile.FieldType.int)), (Jvm.Cond.methodLink "ThreeLinkPairLaw" (99 : Nat) ({ cls := "ThreeLinkPairModel", name := "held", desc := "(I)I" } : Jvm.MethodName)), (Jvm.Cond.instanceMethod ({ cls := "ThreeLinkPairModel", name := "held", desc := "(I)I" } : Jvm.MethodName)), (Jvm.Cond.selects "ThreeLinkPairModel" ({ cls := "ThreeLinkPairModel", name := "held", desc := "(I)I" } : Jvm.MethodName) ({ cls := "ThreeLinkPairModel", name := "held", desc := "(I)I" } : Jvm.MethodName))]
def sl_4_13 : List Cond := [(Jvm.Cond.code ({ cls := "ThreeLinkPairModel", name := "held", desc := "(I)I" } : Jvm.MethodName) prog_10_method_44_code (2 : Nat) (Option.some Jvm.ClassFile.FieldType.int)), (Jvm.Cond.methodLink "ThreeLinkPairModel" (267 : Nat) ({ cls := "ThreeLinkPairModel", name := "isEnd", desc := "(I)Z" } : Jvm.MethodName)), (Jvm.Cond.static ({ cls := "ThreeLinkPairModel", name := "isEnd", desc := "(I)Z" } : Jvm.MethodName)), (Jvm.Cond.code ({ cls := "ThreeLinkPairModel", name := "isEnd", desc := "(I)Z" } : Jvm.MethodName) prog_10_method_43_code (1 : Nat) (Option.some Jvm.ClassFile.FieldType.boolean)), (Jvm.Cond.methodLink "ThreeLinkPairLaw" (102 : Nat) ({ cls := "ThreeLinkPairModel", name := "inbox", desc := "(I)I" } : Jvm.MethodName)), (Jvm.Cond.instanceMethod ({ cls := "ThreeLinkPairModel", name := "inbox", desc := "(I)I" } : Jvm.MethodName)), (Jvm.Cond.selects "ThreeLinkPairModel" ({ cls := "ThreeLinkPairModel", name := "inbox", desc := "(I)I" } : Jvm.MethodName) ({ cls := "ThreeLinkPairModel", name := "inbox", desc := "(I)I" } : Jvm.MethodName)), (Jvm.Cond.code ({ cls := "ThreeLinkPairModel", name := "inbox", desc := "(I)I" } : Jvm.MethodName) prog_10_method_45_code (2 : Nat) (Option.some Jvm.ClassFile.FieldType.int)), (Jvm.Cond.methodLink "ThreeLinkPairLaw" (105 : Nat) ({ cls := "ThreeLinkPairModel", name := "take", desc := "(I)J" } : Jvm.MethodName)), (Jvm.Cond.instanceMethod ({ cls := "ThreeLinkPairModel", name := "take", desc := "(I)J" } : Jvm.MethodName)), (Jvm.Cond.selects "ThreeLinkPairModel" ({ cls := "ThreeLinkPairModel", name := "take", desc := "(I)J" } : Jvm.MethodName) ({ cls := "ThreeLinkPairModel", name := "take", desc := "(I)J" } : Jvm.MethodName)), (Jvm.Cond.code ({ cls := "ThreeLinkPairModel", name := "take", desc := "(I)J" } : Jvm.MethodName) prog_10_method_46_code (5 : Nat) (Option.some Jvm.ClassFile.FieldType.long)), (Jvm.Cond.constantLong "ThreeLinkPairModel" (271 : Nat) (4294967295 : Int64)), (Jvm.Cond.methodLink "ThreeLinkPairLaw" (109 : Nat) ({ cls := "ThreeLinkPairModel", name := "lost", desc := "()I" } : Jvm.MethodName)), (Jvm.Cond.instanceMethod ({ cls := "ThreeLinkPairModel", name := "lost", desc := "()I" } : Jvm.MethodName)), (Jvm.Cond.selects "ThreeLinkPairModel" ({ cls := "ThreeLinkPairModel", name := "lost", desc := "()I" } : Jvm.MethodName) ({ cls := "ThreeLinkPairModel", name := "lost", desc := "()I" } : Jvm.MethodName))]
def sl_4_14 : List Cond := [(Jvm.Cond.code ({ cls := "ThreeLinkPairModel", name := "lost", desc := "()I" } : Jvm.MethodName) prog_10_method_47_code (1 : Nat) (Option.some Jvm.ClassFile.FieldType.int)), (Jvm.Cond.arrayClass Jvm.ClassFile.FieldType.long), (Jvm.Cond.sameMethod "java/lang/Throwable" "java/lang/Throwable" "fillInStackTrace" "(I)Ljava/lang/Throwable;"), (Jvm.Cond.castable "ThreeLinkPair$Message" "ThreeLinkPair$Message"), (Jvm.Cond.sameMethod "[Ljava/lang/Object;" "java/lang/Object" "getClass" "()Ljava/lang/Class;"), (Jvm.Cond.selects "[Ljava/lang/Object;" ({ cls := "java/lang/Object", name := "getClass", desc := "()Ljava/lang/Class;" } : Jvm.MethodName) ({ cls := "java/lang/Object", name := "getClass", desc := "()Ljava/lang/Class;" } : Jvm.MethodName)), (Jvm.Cond.declares ({ cls := "java/lang/Object", name := "getClass", desc := "()Ljava/lang/Class;" } : Jvm.MethodName)), (Jvm.Cond.castable "ThreeLinkPair" "java/lang/Object"), (Jvm.Cond.castable "ThreeLinkPair$End" "java/lang/Object"), (Jvm.Cond.castable "ThreeLinkPair$Side" "java/lang/Object"), (Jvm.Cond.castable "ThreeLinkPair$Memory" "java/lang/Object"), (Jvm.Cond.castable "ThreeLinkPair$Unit" "java/lang/Object"), (Jvm.Cond.castable "ThreeLinkPair$Changeover" "java/lang/Object"), (Jvm.Cond.castable "ThreeLinkPair$Fault" "java/lang/Object"), (Jvm.Cond.castable "ThreeLinkPairModel" "java/lang/Object"), (Jvm.Cond.castable "ThreeLinkPair$Message" "java/lang/Object")]
set_option maxRecDepth 100000 in
theorem sx_4 : tables_1_5 = sl_4_0 ++ (sl_4_1 ++ (sl_4_2 ++ (sl_4_3 ++ (sl_4_4 ++ (sl_4_5 ++ (sl_4_6 ++ (sl_4_7 ++ (sl_4_8 ++ (sl_4_9 ++ (sl_4_10 ++ (sl_4_11 ++ (sl_4_12 ++ (sl_4_13 ++ (sl_4_14)))))))))))))) := rfl
theorem su_4 : ∀ x ∈ tables_1_5, x ∈ lw_tbl := fun x h => List.mem_append_right _ (List.mem_append_right _ (List.mem_append_right _ (List.mem_append_right _ (List.mem_append_right _ (List.mem_append_left _ h)))))
theorem sg_4_0 : ∀ x ∈ sl_4_0, x ∈ lw_tbl := fun x h => su_4 x (by rw [sx_4]; exact List.mem_append_left _ h)
theorem sg_4_1 : ∀ x ∈ sl_4_1, x ∈ lw_tbl := fun x h => su_4 x (by rw [sx_4]; exact List.mem_append_right _ (List.mem_append_left _ h))
theorem sg_4_2 : ∀ x ∈ sl_4_2, x ∈ lw_tbl := fun x h => su_4 x (by rw [sx_4]; exact List.mem_append_right _ (List.mem_append_right _ (List.mem_append_left _ h)))
theorem sg_4_3 : ∀ x ∈ sl_4_3, x ∈ lw_tbl := fun x h => su_4 x (by rw [sx_4]; exact List.mem_append_right _ (List.mem_append_right _ (List.mem_append_right _ (List.mem_append_left _ h))))
theorem sg_4_4 : ∀ x ∈ sl_4_4, x ∈ lw_tbl := fun x h => su_4 x (by rw [sx_4]; exact List.mem_append_right _ (List.mem_append_right _ (List.mem_append_right _ (List.mem_append_right _ (List.mem_append_left _ h)))))
theorem sg_4_5 : ∀ x ∈ sl_4_5, x ∈ lw_tbl := fun x h => su_4 x (by rw [sx_4]; exact List.mem_append_right _ (List.mem_append_right _ (List.mem_append_right _ (List.mem_append_right _ (List.mem_append_right _ (List.mem_append_left _ h))))))
theorem sg_4_6 : ∀ x ∈ sl_4_6, x ∈ lw_tbl := fun x h => su_4 x (by rw [sx_4]; exact List.mem_append_right _ (List.mem_append_right _ (List.mem_append_right _ (List.mem_append_right _ (List.mem_append_right _ (List.mem_append_right _ (List.mem_append_left _ h)))))))
theorem sg_4_7 : ∀ x ∈ sl_4_7, x ∈ lw_tbl := fun x h => su_4 x (by rw [sx_4]; exact List.mem_append_right _ (List.mem_append_right _ (List.mem_append_right _ (List.mem_append_right _ (List.mem_append_right _ (List.mem_append_right _ (List.mem_append_right _ (List.mem_append_left _ h))))))))
theorem sg_4_8 : ∀ x ∈ sl_4_8, x ∈ lw_tbl := fun x h => su_4 x (by rw [sx_4]; exact List.mem_append_right _ (List.mem_append_right _ (List.mem_append_right _ (List.mem_append_right _ (List.mem_append_right _ (List.mem_append_right _ (List.mem_append_right _ (List.mem_append_right _ (List.mem_append_left _ h)))))))))
theorem sg_4_9 : ∀ x ∈ sl_4_9, x ∈ lw_tbl := fun x h => su_4 x (by rw [sx_4]; exact List.mem_append_right _ (List.mem_append_right _ (List.mem_append_right _ (List.mem_append_right _ (List.mem_append_right _ (List.mem_append_right _ (List.mem_append_right _ (List.mem_append_right _ (List.mem_append_right _ (List.mem_append_left _ h))))))))))
theorem sg_4_10 : ∀ x ∈ sl_4_10, x ∈ lw_tbl := fun x h => su_4 x (by rw [sx_4]; exact List.mem_append_right _ (List.mem_append_right _ (List.mem_append_right _ (List.mem_append_right _ (List.mem_append_right _ (List.mem_append_right _ (List.mem_append_right _ (List.mem_append_right _ (List.mem_append_right _ (List.mem_append_right _ (List.mem_append_left _ h)))))))))))
theorem sg_4_11 : ∀ x ∈ sl_4_11, x ∈ lw_tbl := fun x h => su_4 x (by rw [sx_4]; exact List.mem_append_right _ (List.mem_append_right _ (List.mem_append_right _ (List.mem_append_right _ (List.mem_append_right _ (List.mem_append_right _ (List.mem_append_right _ (List.mem_append_right _ (List.mem_append_right _ (List.mem_append_right _ (List.mem_append_right _ (List.mem_append_left _ h))))))))))))
theorem sg_4_12 : ∀ x ∈ sl_4_12, x ∈ lw_tbl := fun x h => su_4 x (by rw [sx_4]; exact List.mem_append_right _ (List.mem_append_right _ (List.mem_append_right _ (List.mem_append_right _ (List.mem_append_right _ (List.mem_append_right _ (List.mem_append_right _ (List.mem_append_right _ (List.mem_append_right _ (List.mem_append_right _ (List.mem_append_right _ (List.mem_append_right _ (List.mem_append_left _ h)))))))))))))
theorem sg_4_13 : ∀ x ∈ sl_4_13, x ∈ lw_tbl := fun x h => su_4 x (by rw [sx_4]; exact List.mem_append_right _ (List.mem_append_right _ (List.mem_append_right _ (List.mem_append_right _ (List.mem_append_right _ (List.mem_append_right _ (List.mem_append_right _ (List.mem_append_right _ (List.mem_append_right _ (List.mem_append_right _ (List.mem_append_right _ (List.mem_append_right _ (List.mem_append_right _ (List.mem_append_left _ h))))))))))))))
theorem sg_4_14 : ∀ x ∈ sl_4_14, x ∈ lw_tbl := fun x h => su_4 x (by rw [sx_4]; exact List.mem_append_right _ (List.mem_append_right _ (List.mem_append_right _ (List.mem_append_right _ (List.mem_append_right _ (List.mem_append_right _ (List.mem_append_right _ (List.mem_append_right _ (List.mem_append_right _ (List.mem_append_right _ (List.mem_append_right _ (List.mem_append_right _ (List.mem_append_right _ (List.mem_append_right _ (h)))))))))))))))
def sl_5_0 : List Cond := [(Jvm.Cond.castable "java/lang/String" "java/lang/Object")]
set_option maxRecDepth 100000 in
theorem sx_5 : tables_1_6 = sl_5_0 := rfl
theorem su_5 : ∀ x ∈ tables_1_6, x ∈ lw_tbl := fun x h => List.mem_append_right _ (List.mem_append_right _ (List.mem_append_right _ (List.mem_append_right _ (List.mem_append_right _ (List.mem_append_right _ (h))))))
theorem sg_5_0 : ∀ x ∈ sl_5_0, x ∈ lw_tbl := fun x h => su_5 x (by rw [sx_5]; exact h)
end
section
/-! the judgement: a world is a function of addresses (tag, length, contents), the heap's size and the slots made -/
abbrev ev_wd : Type := (Nat → Nat) × (Nat → Nat) × (Nat → Nat → Value) × Nat × Nat
abbrev ev_g (w : ev_wd) : Nat → Nat := w.1
abbrev ev_n (w : ev_wd) : Nat → Nat := w.2.1
abbrev ev_v (w : ev_wd) : Nat → Nat → Value := w.2.2.1
abbrev ev_z (w : ev_wd) : Nat := w.2.2.2.1
abbrev ev_u (w : ev_wd) : Nat := w.2.2.2.2
def ev_set (w : ev_wd) (a k : Nat) (x : Value) : ev_wd := (w.1, w.2.1, (fun q j => if q = a ∧ j = k then x else w.2.2.1 q j), w.2.2.2.1, w.2.2.2.2)
def ev_add (w : ev_wd) (t n : Nat) (f : Nat → Value) (u : Nat) : ev_wd :=
  ((fun q => if q = w.2.2.2.1 then t else w.1 q), (fun q => if q = w.2.2.2.1 then n else w.2.1 q), (fun q j => if q = w.2.2.2.1 then f j else w.2.2.1 q j), w.2.2.2.1 + 1, w.2.2.2.2 + u)
/-- program, launch, setting, the law's first state and arguments, the heap's first size, classes and slots -/
abbrev ev_gx : Type := Program × Launch × Env × State × Array Value × Nat × va_G
abbrev ev_s0 (G : ev_gx) : State := G.2.2.2.1
abbrev ev_b (G : ev_gx) : Nat := G.2.2.2.2.2.1
abbrev ev_D (G : ev_gx) : va_G := G.2.2.2.2.2.2
/-- name, bytes, places for locals, what it returns, its handlers -/
abbrev ev_mx : Type := MethodName × ByteArray × Nat × Option FieldType × List (Nat × Nat × Nat × Nat)
def ev_K (D : va_G) (s : State) : Prop := (∀ (c : Nat) (q : vw_C), nm_cl[c]? = some q → u_Kn s q.1 q.2.1 q.2.2 (D.1 c) (D.2 c)) ∧ ∀ (t : Nat) (ty : FieldType), nm_at[t]? = some ty → ArrOfT s (D.1 (100 + t)) ty ∧ va_RA s (D.1 (100 + t)) ty
theorem ev_K.moved {D : va_G} {u U : State} (hvm : u.vm.Alike U.vm) (h : ev_K D u) : ev_K D U := ⟨fun c q hq => u_Kn_moved hvm (h.1 c q hq), fun t ty ht => ⟨arrOfT_moved hvm (h.2 t ty ht).1, (h.2 t ty ht).2.moved hvm⟩⟩
def ev_at (D : va_G) (w : ev_wd) (H : Heap) (a : Nat) : Prop :=
  (100 ≤ ev_g w a ∧ H[a]? = some (arrV (D.1 (ev_g w a)) (ev_n w a) (ev_v w a))) ∨ (ev_g w a < 100 ∧ ∃ q : vw_C, nm_cl[ev_g w a]? = some q ∧ t_OB a (D.1 (ev_g w a)) q.2.2 (D.2 (ev_g w a)) H (ev_v w a))
def ev_Hr (G : ev_gx) (w : ev_wd) (H : Heap) : Prop :=
  H.size = ev_z w ∧ ev_b G ≤ ev_z w ∧ (∀ a : Nat, ev_b G ≤ a → a < ev_z w → ev_at (ev_D G) w H a) ∧ ∀ q : Nat, q < ev_b G → H[q]? = (ev_s0 G).heap[q]?
def ev_cx (G : ev_gx) (M : ev_mx) (d : Nat) (R : Room) (s : State) (m : MethodId) (meth : Method) (c : Code) (w0 : ev_wd) : Prop :=
  G.1.tables.exec = Jvm.exec ∧ c.code = M.2.1 ∧ s.methodNamed? M.1 = some m ∧ (ev_s0 G).WarmedH s.vm ∧ (∀ x ∈ lw_tbl, x.before G.2.2.2.2.1 (ev_s0 G) = true) ∧ ev_K (ev_D G) (ev_s0 G) ∧
  c.maxLocals = M.2.2.1 ∧ meth.sig.returnType = M.2.2.2.1 ∧ meth.locks = false ∧ c.exceptionTable.toList.map (fun h => (h.startPc, h.endPc, h.handlerPc, h.catchType)) = M.2.2.2.2 ∧
  d ≤ R.frames ∧ 39 * d ≤ R.locals ∧ ev_b G + 601024 ≤ R.cells + ev_z w0 ∧ 7293034 ≤ R.slots + ev_u w0 ∧ meth.name = M.1.name
def ev_ok (G : ev_gx) (w0 w : ev_wd) (locs : List Loc) : Prop := (∀ q ∈ locs, ev_b G ≤ q.base) ∧ ev_z w0 ≤ ev_z w ∧ ev_u w0 ≤ ev_u w ∧ ev_z w ≤ ev_b G + 601024 ∧ ev_u w ≤ 7293034
/-- what comes: a value, nothing, or what was thrown -/
abbrev ev_r : Type := Option Value ⊕ Nat
def ev_oc (r : ev_r) : Outcome := match r with
  | .inl v => .returned v
  | .inr a => .threw a
def ev_Q (G : ev_gx) (s : State) (below : List Frame) (w0 : ev_wd) (P : ev_r → ev_wd → Prop) : State → Prop := fun t =>
  ∃ (r : ev_r) (w1 : ev_wd) (L : List Loc), P r w1 ∧ t.status = .running ∧ Ended t below (ev_oc r) ∧ ev_Hr G w1 t.heap ∧ s.WarmedH t.vm ∧ s.sameButNew ({ t with vm := s.vm } : State) L (ev_z w1 - ev_z w0) (ev_u w1 - ev_u w0) ∧ ev_ok G w0 w1 L
def ev_E (G : ev_gx) (M : ev_mx) (d pc : Nat) (L : List (Nat × Value)) (st : List Value) (w : ev_wd) (P : ev_r → ev_wd → Prop) : Prop :=
  ∀ (R : Room) (s : State) (m : MethodId) (args : Array Value) (below : List Frame) (meth : Method) (c : Code) (w0 : ev_wd) (H : Heap) (locs : List Loc) (ls : Array Slot),
    ev_cx G M d R s m meth c w0 → ev_ok G w0 w locs → ev_Hr G w H → lv_has ls M.2.2.1 L →
    W G.1 G.2.1 G.2.2.1 R s m args below meth c H locs (ev_z w - ev_z w0) (ev_u w - ev_u w0) (ev_Q G s below w0 P) (F0 m pc ls st)
/-- 'a' is being thrown at pc -/
def ev_T (G : ev_gx) (M : ev_mx) (d pc : Nat) (L : List (Nat × Value)) (a : Nat) (w : ev_wd) (P : ev_r → ev_wd → Prop) : Prop :=
  ∀ (R : Room) (s : State) (m : MethodId) (args : Array Value) (below : List Frame) (meth : Method) (c : Code) (w0 : ev_wd) (T : State) (locs : List Loc) (ls : Array Slot) (st : List Value),
    ev_cx G M d R s m meth c w0 → ev_ok G w0 w locs → ev_Hr G w T.heap → lv_has ls M.2.2.1 L → Stand G.1 G.2.1 G.2.2.1 R s m args below meth c T locs (ev_z w - ev_z w0) (ev_u w - ev_u w0) →
    ∃ t, Steps G.1.tables G.2.2.1 below ((T.setTop (F0 m pc ls st)).pushFrame (.throwing a)) t ∧ ev_Q G s below w0 P t
section EvA
variable {G : ev_gx} {M : ev_mx} {d pc : Nat} {L : List (Nat × Value)} {st : List Value} {w : ev_wd} {P : ev_r → ev_wd → Prop}
theorem ev_word {R : Room} {s : State} {m : MethodId} {meth : Method} {c : Code} {w0 : ev_wd} (X : ev_cx G M d R s m meth c w0) {x : Cond} (hx : x ∈ lw_tbl) (hg : goodWord x = true) (a' : Array Value) : x.before a' s = true :=
  word_at X.2.2.2.1 (good_of_word hg) (X.2.2.2.2.1 x hx)
theorem ev_own {R : Room} {s : State} {m : MethodId} {meth : Method} {c : Code} {w0 : ev_wd} (X : ev_cx G M d R s m meth c w0) : s.vm.findClass M.1.cls = some m.cls := findClass_of_methodNamed X.2.2.1
theorem ev_Ks {R : Room} {s : State} {m : MethodId} {meth : Method} {c : Code} {w0 : ev_wd} (X : ev_cx G M d R s m meth c w0) : ev_K (ev_D G) s := X.2.2.2.2.2.1.moved X.2.2.2.1.alike
/-- a stronger end is enough -/
theorem ev_mono {P' : ev_r → ev_wd → Prop} (h : ∀ r w', P' r w' → P r w') (k : ev_E G M d pc L st w P') : ev_E G M d pc L st w P := by
  intro R s m args below meth c w0 H locs ls X O hH hl T hT S
  obtain ⟨t, a, r, w1, L1, b1, b2⟩ := k R s m args below meth c w0 H locs ls X O hH hl T hT S
  exact ⟨t, a, r, w1, L1, h _ _ b1, b2⟩
/-- fewer locals, or in another order -/
theorem ev_loc (L' : List (Nat × Value)) (h : ∀ q ∈ L', q ∈ L) (k : ev_E G M d pc L' st w P) : ev_E G M d pc L st w P := by
  intro R s m args below meth c w0 H locs ls X O hH hl
  exact k R s m args below meth c w0 H locs ls X O hH ⟨hl.1, hl.2.1, fun q hq => hl.2.2 q (h q hq)⟩
theorem ev_mem {i : Nat} {x : Value} (h : L.lookup i = some x) : (i, x) ∈ L := by
  induction L with
  | nil => cases h
  | cons q t ih =>
    obtain ⟨j, y⟩ := q
    unfold List.lookup at h
    cases hij : (i == j) with
    | true =>
      rw [hij] at h
      cases h
      rw [beq_iff_eq.mp hij]
      exact List.mem_cons_self
    | false =>
      rw [hij] at h
      exact List.mem_cons_of_mem _ (ih h)
theorem ev_look {ls : Array Slot} {n : Nat} {i : Nat} {x : Value} (hl : lv_has ls n L) (h : L.lookup i = some x) : ls[i]? = some (.val x) := hl.2.2 (i, x) (ev_mem h)
end EvA
end
section
def ev_d (cc : ByteArray) (pc : Nat) (i : Instr) (n pc' : Nat) : Prop := decode cc pc = .ok (i, n) ∧ pc + n = pc'
def ev_j (cc : ByteArray) (pc : Nat) (i : Int → Instr) (pc' tgt : Nat) : Prop := ∃ off : Int, decode cc pc = .ok (i off, 3) ∧ pc + 3 = pc' ∧ (pc : Int) + off = (tgt : Int)
section EvB
variable {G : ev_gx} {M : ev_mx} {d pc pc' tgt : Nat} {L : List (Nat × Value)} {st : List Value} {w : ev_wd} {P : ev_r → ev_wd → Prop}
theorem ev_iconst {n : Int} (hd : ev_d M.2.1 pc (.iconst n) 1 pc') (k : ev_E G M d pc' L (.int (Int32.ofInt n) :: st) w P) : ev_E G M d pc L (st) w P := by
  obtain ⟨hd, rfl⟩ := hd
  intro R s m args below meth c w0 H locs ls X O hH hl
  exact lv_iconst X.1 X.2.1 hd rfl (k R s m args below meth c w0 H locs ls X O hH hl)
theorem ev_bipush {n : Int} (hd : ev_d M.2.1 pc (.bipush n) 2 pc') (k : ev_E G M d pc' L (.int (Int8.ofInt n).toInt32 :: st) w P) : ev_E G M d pc L (st) w P := by
  obtain ⟨hd, rfl⟩ := hd
  intro R s m args below meth c w0 H locs ls X O hH hl
  exact lv_bipush X.1 X.2.1 hd rfl (k R s m args below meth c w0 H locs ls X O hH hl)
theorem ev_sipush {n : Int} (hd : ev_d M.2.1 pc (.sipush n) 3 pc') (k : ev_E G M d pc' L (.int (Int16.ofInt n).toInt32 :: st) w P) : ev_E G M d pc L (st) w P := by
  obtain ⟨hd, rfl⟩ := hd
  intro R s m args below meth c w0 H locs ls X O hH hl
  exact lv_sipush X.1 X.2.1 hd rfl (k R s m args below meth c w0 H locs ls X O hH hl)
theorem ev_lconst {n : Fin 2} (hd : ev_d M.2.1 pc (.lconst n) 1 pc') (k : ev_E G M d pc' L (.long (Int64.ofNat (n : Nat)) :: st) w P) : ev_E G M d pc L (st) w P := by
  obtain ⟨hd, rfl⟩ := hd
  intro R s m args below meth c w0 H locs ls X O hH hl
  exact lv_lconst X.1 X.2.1 hd rfl (k R s m args below meth c w0 H locs ls X O hH hl)
theorem ev_null (hd : ev_d M.2.1 pc .aconst_null 1 pc') (k : ev_E G M d pc' L (.null :: st) w P) : ev_E G M d pc L (st) w P := by
  obtain ⟨hd, rfl⟩ := hd
  intro R s m args below meth c w0 H locs ls X O hH hl
  exact lv_null X.1 X.2.1 hd (k R s m args below meth c w0 H locs ls X O hH hl)
theorem ev_iload_n {i : Fin 4} {x : Int32} (hd : ev_d M.2.1 pc (.iload_n i) 1 pc') (h : L.lookup (i : Nat) = some (.int x)) (k : ev_E G M d pc' L ((.int x) :: st) w P) : ev_E G M d pc L (st) w P := by
  obtain ⟨hd, rfl⟩ := hd
  intro R s m args below meth c w0 H locs ls X O hH hl
  exact lv_iload_n X.1 X.2.1 hd rfl (ev_look hl h) (k R s m args below meth c w0 H locs ls X O hH hl)
theorem ev_iload {i : Nat} {x : Int32} (hd : ev_d M.2.1 pc (.iload i) 2 pc') (h : L.lookup i = some (.int x)) (k : ev_E G M d pc' L ((.int x) :: st) w P) : ev_E G M d pc L (st) w P := by
  obtain ⟨hd, rfl⟩ := hd
  intro R s m args below meth c w0 H locs ls X O hH hl
  exact lv_iload X.1 X.2.1 hd (ev_look hl h) (k R s m args below meth c w0 H locs ls X O hH hl)
theorem ev_lload_n {i : Fin 4} {x : Int64} (hd : ev_d M.2.1 pc (.lload_n i) 1 pc') (h : L.lookup (i : Nat) = some (.long x)) (k : ev_E G M d pc' L ((.long x) :: st) w P) : ev_E G M d pc L (st) w P := by
  obtain ⟨hd, rfl⟩ := hd
  intro R s m args below meth c w0 H locs ls X O hH hl
  exact lv_lload_n X.1 X.2.1 hd rfl (ev_look hl h) (k R s m args below meth c w0 H locs ls X O hH hl)
theorem ev_lload {i : Nat} {x : Int64} (hd : ev_d M.2.1 pc (.lload i) 2 pc') (h : L.lookup i = some (.long x)) (k : ev_E G M d pc' L ((.long x) :: st) w P) : ev_E G M d pc L (st) w P := by
  obtain ⟨hd, rfl⟩ := hd
  intro R s m args below meth c w0 H locs ls X O hH hl
  exact lv_lload X.1 X.2.1 hd (ev_look hl h) (k R s m args below meth c w0 H locs ls X O hH hl)
theorem ev_aload_n {i : Fin 4} {x : Nat} (hd : ev_d M.2.1 pc (.aload_n i) 1 pc') (h : L.lookup (i : Nat) = some (.ref x)) (k : ev_E G M d pc' L ((.ref x) :: st) w P) : ev_E G M d pc L (st) w P := by
  obtain ⟨hd, rfl⟩ := hd
  intro R s m args below meth c w0 H locs ls X O hH hl
  exact lv_aload_n X.1 X.2.1 hd rfl (ev_look hl h) (k R s m args below meth c w0 H locs ls X O hH hl)
theorem ev_aload {i : Nat} {x : Nat} (hd : ev_d M.2.1 pc (.aload i) 2 pc') (h : L.lookup i = some (.ref x)) (k : ev_E G M d pc' L ((.ref x) :: st) w P) : ev_E G M d pc L (st) w P := by
  obtain ⟨hd, rfl⟩ := hd
  intro R s m args below meth c w0 H locs ls X O hH hl
  exact lv_aload X.1 X.2.1 hd (ev_look hl h) (k R s m args below meth c w0 H locs ls X O hH hl)
theorem ev_aload_nN {i : Fin 4} (hd : ev_d M.2.1 pc (.aload_n i) 1 pc') (h : L.lookup (i : Nat) = some .null) (k : ev_E G M d pc' L (.null :: st) w P) : ev_E G M d pc L (st) w P := by
  obtain ⟨hd, rfl⟩ := hd
  intro R s m args below meth c w0 H locs ls X O hH hl
  exact lv_aload_nN X.1 X.2.1 hd rfl (ev_look hl h) (k R s m args below meth c w0 H locs ls X O hH hl)
theorem ev_aloadN {i : Nat} (hd : ev_d M.2.1 pc (.aload i) 2 pc') (h : L.lookup i = some .null) (k : ev_E G M d pc' L (.null :: st) w P) : ev_E G M d pc L (st) w P := by
  obtain ⟨hd, rfl⟩ := hd
  intro R s m args below meth c w0 H locs ls X O hH hl
  exact lv_aloadN X.1 X.2.1 hd (ev_look hl h) (k R s m args below meth c w0 H locs ls X O hH hl)
theorem ev_istore_n {i : Fin 4} {x : Int32} (hd : ev_d M.2.1 pc (.istore_n i) 1 pc') (hn : (i : Nat) < M.2.2.1) (k : ev_E G M d pc' (((i : Nat), Value.int x) :: L.filter (fun q => !(q.1 == (i : Nat)) && !(q.1 + 1 == (i : Nat) && q.2.category == 2))) st w P) : ev_E G M d pc L (Value.int x :: st) w P := by
  obtain ⟨hd, rfl⟩ := hd
  intro R s m args below meth c w0 H locs ls X O hH hl
  exact lv_istore_n X.1 X.2.1 hd rfl hl hn rfl fun ls' hl' => k R s m args below meth c w0 H locs ls' X O hH hl'
theorem ev_istore {i : Nat} {x : Int32} (hd : ev_d M.2.1 pc (.istore i) 2 pc') (hn : i < M.2.2.1) (k : ev_E G M d pc' ((i, Value.int x) :: L.filter (fun q => !(q.1 == i) && !(q.1 + 1 == i && q.2.category == 2))) st w P) : ev_E G M d pc L (Value.int x :: st) w P := by
  obtain ⟨hd, rfl⟩ := hd
  intro R s m args below meth c w0 H locs ls X O hH hl
  exact lv_istore X.1 X.2.1 hd hl hn rfl fun ls' hl' => k R s m args below meth c w0 H locs ls' X O hH hl'
theorem ev_astore_n {i : Fin 4} {x : Nat} (hd : ev_d M.2.1 pc (.astore_n i) 1 pc') (hn : (i : Nat) < M.2.2.1) (k : ev_E G M d pc' (((i : Nat), Value.ref x) :: L.filter (fun q => !(q.1 == (i : Nat)) && !(q.1 + 1 == (i : Nat) && q.2.category == 2))) st w P) : ev_E G M d pc L (Value.ref x :: st) w P := by
  obtain ⟨hd, rfl⟩ := hd
  intro R s m args below meth c w0 H locs ls X O hH hl
  exact lv_astore_n X.1 X.2.1 hd rfl hl hn rfl fun ls' hl' => k R s m args below meth c w0 H locs ls' X O hH hl'
theorem ev_astore {i : Nat} {x : Nat} (hd : ev_d M.2.1 pc (.astore i) 2 pc') (hn : i < M.2.2.1) (k : ev_E G M d pc' ((i, Value.ref x) :: L.filter (fun q => !(q.1 == i) && !(q.1 + 1 == i && q.2.category == 2))) st w P) : ev_E G M d pc L (Value.ref x :: st) w P := by
  obtain ⟨hd, rfl⟩ := hd
  intro R s m args below meth c w0 H locs ls X O hH hl
  exact lv_astore X.1 X.2.1 hd hl hn rfl fun ls' hl' => k R s m args below meth c w0 H locs ls' X O hH hl'
theorem ev_astore_nN {i : Fin 4} (hd : ev_d M.2.1 pc (.astore_n i) 1 pc') (hn : (i : Nat) < M.2.2.1) (k : ev_E G M d pc' (((i : Nat), Value.null) :: L.filter (fun q => !(q.1 == (i : Nat)) && !(q.1 + 1 == (i : Nat) && q.2.category == 2))) st w P) : ev_E G M d pc L (Value.null :: st) w P := by
  obtain ⟨hd, rfl⟩ := hd
  intro R s m args below meth c w0 H locs ls X O hH hl
  exact lv_astore_nN X.1 X.2.1 hd rfl hl hn rfl fun ls' hl' => k R s m args below meth c w0 H locs ls' X O hH hl'
theorem ev_astoreN {i : Nat} (hd : ev_d M.2.1 pc (.astore i) 2 pc') (hn : i < M.2.2.1) (k : ev_E G M d pc' ((i, Value.null) :: L.filter (fun q => !(q.1 == i) && !(q.1 + 1 == i && q.2.category == 2))) st w P) : ev_E G M d pc L (Value.null :: st) w P := by
  obtain ⟨hd, rfl⟩ := hd
  intro R s m args below meth c w0 H locs ls X O hH hl
  exact lv_astoreN X.1 X.2.1 hd hl hn rfl fun ls' hl' => k R s m args below meth c w0 H locs ls' X O hH hl'
theorem ev_lstore_n {i : Fin 4} {x : Int64} (hd : ev_d M.2.1 pc (.lstore_n i) 1 pc') (hn : (i : Nat) + 1 < M.2.2.1) (k : ev_E G M d pc' (((i : Nat), Value.long x) :: L.filter (fun q => !(q.1 == (i : Nat)) && (!(q.1 == (i : Nat) + 1) && !(q.1 + 1 == (i : Nat) && q.2.category == 2)))) st w P) : ev_E G M d pc L (Value.long x :: st) w P := by
  obtain ⟨hd, rfl⟩ := hd
  intro R s m args below meth c w0 H locs ls X O hH hl
  exact lv_lstore_n X.1 X.2.1 hd rfl hl hn rfl fun ls' hl' => k R s m args below meth c w0 H locs ls' X O hH hl'
theorem ev_lstore {i : Nat} {x : Int64} (hd : ev_d M.2.1 pc (.lstore i) 2 pc') (hn : i + 1 < M.2.2.1) (k : ev_E G M d pc' ((i, Value.long x) :: L.filter (fun q => !(q.1 == i) && (!(q.1 == i + 1) && !(q.1 + 1 == i && q.2.category == 2)))) st w P) : ev_E G M d pc L (Value.long x :: st) w P := by
  obtain ⟨hd, rfl⟩ := hd
  intro R s m args below meth c w0 H locs ls X O hH hl
  exact lv_lstore X.1 X.2.1 hd hl hn rfl fun ls' hl' => k R s m args below meth c w0 H locs ls' X O hH hl'
theorem ev_iinc {i : Nat} {n : Int} {x : Int32} (hd : ev_d M.2.1 pc (.iinc i n) 3 pc') (h : L.lookup i = some (.int x)) (hn : i < M.2.2.1) (k : ev_E G M d pc' ((i, Value.int (x + Int32.ofInt n)) :: L.filter (fun q => !(q.1 == i) && !(q.1 + 1 == i && q.2.category == 2))) st w P) : ev_E G M d pc L st w P := by
  obtain ⟨hd, rfl⟩ := hd
  intro R s m args below meth c w0 H locs ls X O hH hl
  obtain ⟨k0, hk0⟩ := List.getElem?_of_mem (ev_mem h)
  exact lv_iinc X.1 X.2.1 hd hl hk0 rfl hn rfl fun ls' hl' => k R s m args below meth c w0 H locs ls' X O hH hl'
theorem ev_iadd {x y : Int32} (hd : ev_d M.2.1 pc .iadd 1 pc') (k : ev_E G M d pc' L (.int (x + y) :: st) w P) : ev_E G M d pc L (.int y :: .int x :: st) w P := by
  obtain ⟨hd, rfl⟩ := hd
  intro R s m args below meth c w0 H locs ls X O hH hl
  exact lv_iadd X.1 X.2.1 hd (k R s m args below meth c w0 H locs ls X O hH hl)
theorem ev_isub {x y : Int32} (hd : ev_d M.2.1 pc .isub 1 pc') (k : ev_E G M d pc' L (.int (x - y) :: st) w P) : ev_E G M d pc L (.int y :: .int x :: st) w P := by
  obtain ⟨hd, rfl⟩ := hd
  intro R s m args below meth c w0 H locs ls X O hH hl
  exact lv_isub X.1 X.2.1 hd (k R s m args below meth c w0 H locs ls X O hH hl)
theorem ev_imul {x y : Int32} (hd : ev_d M.2.1 pc .imul 1 pc') (k : ev_E G M d pc' L (.int (x * y) :: st) w P) : ev_E G M d pc L (.int y :: .int x :: st) w P := by
  obtain ⟨hd, rfl⟩ := hd
  intro R s m args below meth c w0 H locs ls X O hH hl
  exact lv_imul X.1 X.2.1 hd (k R s m args below meth c w0 H locs ls X O hH hl)
theorem ev_iand {x y : Int32} (hd : ev_d M.2.1 pc .iand 1 pc') (k : ev_E G M d pc' L (.int (x &&& y) :: st) w P) : ev_E G M d pc L (.int y :: .int x :: st) w P := by
  obtain ⟨hd, rfl⟩ := hd
  intro R s m args below meth c w0 H locs ls X O hH hl
  exact lv_iand X.1 X.2.1 hd (k R s m args below meth c w0 H locs ls X O hH hl)
theorem ev_ior {x y : Int32} (hd : ev_d M.2.1 pc .ior 1 pc') (k : ev_E G M d pc' L (.int (x ||| y) :: st) w P) : ev_E G M d pc L (.int y :: .int x :: st) w P := by
  obtain ⟨hd, rfl⟩ := hd
  intro R s m args below meth c w0 H locs ls X O hH hl
  exact lv_ior X.1 X.2.1 hd (k R s m args below meth c w0 H locs ls X O hH hl)
theorem ev_ixor {x y : Int32} (hd : ev_d M.2.1 pc .ixor 1 pc') (k : ev_E G M d pc' L (.int (x ^^^ y) :: st) w P) : ev_E G M d pc L (.int y :: .int x :: st) w P := by
  obtain ⟨hd, rfl⟩ := hd
  intro R s m args below meth c w0 H locs ls X O hH hl
  exact lv_ixor X.1 X.2.1 hd (k R s m args below meth c w0 H locs ls X O hH hl)
theorem ev_ishl {x y : Int32} (hd : ev_d M.2.1 pc .ishl 1 pc') (k : ev_E G M d pc' L (.int (x <<< (y &&& 31)) :: st) w P) : ev_E G M d pc L (.int y :: .int x :: st) w P := by
  obtain ⟨hd, rfl⟩ := hd
  intro R s m args below meth c w0 H locs ls X O hH hl
  exact lv_ishl X.1 X.2.1 hd (k R s m args below meth c w0 H locs ls X O hH hl)
theorem ev_ishr {x y : Int32} (hd : ev_d M.2.1 pc .ishr 1 pc') (k : ev_E G M d pc' L (.int (x >>> (y &&& 31)) :: st) w P) : ev_E G M d pc L (.int y :: .int x :: st) w P := by
  obtain ⟨hd, rfl⟩ := hd
  intro R s m args below meth c w0 H locs ls X O hH hl
  exact lv_ishr X.1 X.2.1 hd (k R s m args below meth c w0 H locs ls X O hH hl)
theorem ev_irem {x y : Int32} (hd : ev_d M.2.1 pc .irem 1 pc') (hne : ¬ y = 0) (k : ev_E G M d pc' L (.int (x - x / y * y) :: st) w P) : ev_E G M d pc L (.int y :: .int x :: st) w P := by
  obtain ⟨hd, rfl⟩ := hd
  intro R s m args below meth c w0 H locs ls X O hH hl
  exact lv_irem X.1 X.2.1 hd hne (k R s m args below meth c w0 H locs ls X O hH hl)
theorem ev_idiv {x y : Int32} (hd : ev_d M.2.1 pc .idiv 1 pc') (hne : ¬ y = 0) (k : ev_E G M d pc' L (.int (x / y) :: st) w P) : ev_E G M d pc L (.int y :: .int x :: st) w P := by
  obtain ⟨hd, rfl⟩ := hd
  intro R s m args below meth c w0 H locs ls X O hH hl
  exact lv_idiv X.1 X.2.1 hd hne (k R s m args below meth c w0 H locs ls X O hH hl)
theorem ev_ineg {x : Int32} (hd : ev_d M.2.1 pc .ineg 1 pc') (k : ev_E G M d pc' L (.int (-x) :: st) w P) : ev_E G M d pc L (.int x :: st) w P := by
  obtain ⟨hd, rfl⟩ := hd
  intro R s m args below meth c w0 H locs ls X O hH hl
  exact lv_ineg X.1 X.2.1 hd (k R s m args below meth c w0 H locs ls X O hH hl)
theorem ev_land {x y : Int64} (hd : ev_d M.2.1 pc .land 1 pc') (k : ev_E G M d pc' L (.long (x &&& y) :: st) w P) : ev_E G M d pc L (.long y :: .long x :: st) w P := by
  obtain ⟨hd, rfl⟩ := hd
  intro R s m args below meth c w0 H locs ls X O hH hl
  exact lv_land X.1 X.2.1 hd (k R s m args below meth c w0 H locs ls X O hH hl)
theorem ev_lor {x y : Int64} (hd : ev_d M.2.1 pc .lor 1 pc') (k : ev_E G M d pc' L (.long (x ||| y) :: st) w P) : ev_E G M d pc L (.long y :: .long x :: st) w P := by
  obtain ⟨hd, rfl⟩ := hd
  intro R s m args below meth c w0 H locs ls X O hH hl
  exact lv_lor X.1 X.2.1 hd (k R s m args below meth c w0 H locs ls X O hH hl)
theorem ev_lshl {x : Int64} {y : Int32} (hd : ev_d M.2.1 pc .lshl 1 pc') (k : ev_E G M d pc' L (.long (x <<< (y.toInt64 &&& 63)) :: st) w P) : ev_E G M d pc L (.int y :: .long x :: st) w P := by
  obtain ⟨hd, rfl⟩ := hd
  intro R s m args below meth c w0 H locs ls X O hH hl
  exact lv_lshl X.1 X.2.1 hd rfl (k R s m args below meth c w0 H locs ls X O hH hl)
theorem ev_i2l {x : Int32} (hd : ev_d M.2.1 pc .i2l 1 pc') (k : ev_E G M d pc' L (.long x.toInt64 :: st) w P) : ev_E G M d pc L (.int x :: st) w P := by
  obtain ⟨hd, rfl⟩ := hd
  intro R s m args below meth c w0 H locs ls X O hH hl
  exact lv_i2l X.1 X.2.1 hd rfl (k R s m args below meth c w0 H locs ls X O hH hl)
theorem ev_lcmp {x y : Int64} (hd : ev_d M.2.1 pc .lcmp 1 pc') (k : ev_E G M d pc' L (.int (lg_cmp x y) :: st) w P) : ev_E G M d pc L (.long y :: .long x :: st) w P := by
  obtain ⟨hd, rfl⟩ := hd
  intro R s m args below meth c w0 H locs ls X O hH hl
  exact W.lcmp X.1 X.2.1 hd (k R s m args below meth c w0 H locs ls X O hH hl)
theorem ev_dup {va : Value} (hd : ev_d M.2.1 pc .dup 1 pc') (h1 : va.category = 1) (k : ev_E G M d pc' L (va :: va :: st) w P) : ev_E G M d pc L (va :: st) w P := by
  obtain ⟨hd, rfl⟩ := hd
  intro R s m args below meth c w0 H locs ls X O hH hl
  exact lv_dup X.1 X.2.1 hd h1 (k R s m args below meth c w0 H locs ls X O hH hl)
theorem ev_pop {va : Value} (hd : ev_d M.2.1 pc .pop 1 pc') (h1 : va.category = 1) (k : ev_E G M d pc' L (st) w P) : ev_E G M d pc L (va :: st) w P := by
  obtain ⟨hd, rfl⟩ := hd
  intro R s m args below meth c w0 H locs ls X O hH hl
  exact lv_pop X.1 X.2.1 hd h1 (k R s m args below meth c w0 H locs ls X O hH hl)
theorem ev_dup_x1 {va vb : Value} (hd : ev_d M.2.1 pc .dup_x1 1 pc') (h1 : va.category = 1) (h2 : vb.category = 1) (k : ev_E G M d pc' L (va :: vb :: va :: st) w P) : ev_E G M d pc L (va :: vb :: st) w P := by
  obtain ⟨hd, rfl⟩ := hd
  intro R s m args below meth c w0 H locs ls X O hH hl
  exact lv_dup_x1 X.1 X.2.1 hd h1 h2 (k R s m args below meth c w0 H locs ls X O hH hl)
theorem ev_dup_x2 {va vb vd : Value} (hd : ev_d M.2.1 pc .dup_x2 1 pc') (h1 : va.category = 1) (h2 : vb.category = 1) (h3 : vd.category = 1) (k : ev_E G M d pc' L (va :: vb :: vd :: va :: st) w P) : ev_E G M d pc L (va :: vb :: vd :: st) w P := by
  obtain ⟨hd, rfl⟩ := hd
  intro R s m args below meth c w0 H locs ls X O hH hl
  exact lv_dup_x2 X.1 X.2.1 hd h1 h2 h3 (k R s m args below meth c w0 H locs ls X O hH hl)
theorem ev_dup2 {va vb : Value} (hd : ev_d M.2.1 pc .dup2 1 pc') (h1 : va.category = 1) (h2 : vb.category = 1) (k : ev_E G M d pc' L (va :: vb :: va :: vb :: st) w P) : ev_E G M d pc L (va :: vb :: st) w P := by
  obtain ⟨hd, rfl⟩ := hd
  intro R s m args below meth c w0 H locs ls X O hH hl
  exact lv_dup2_11 X.1 X.2.1 hd h1 h2 (k R s m args below meth c w0 H locs ls X O hH hl)
theorem ev_if_eq {x : Int32} (hd : ev_j M.2.1 pc (fun o => .ifCond .eq o) pc' tgt) (kt : x = 0 → ev_E G M d tgt L st w P) (kf : ¬ x = 0 → ev_E G M d pc' L st w P) : ev_E G M d pc L (.int x :: st) w P := by
  obtain ⟨off, hd, rfl, ht⟩ := hd
  intro R s m args below meth c w0 H locs ls X O hH hl
  exact lv_if_eq X.1 X.2.1 hd ht (fun h => kt h R s m args below meth c w0 H locs ls X O hH hl) (fun h => kf h R s m args below meth c w0 H locs ls X O hH hl)
theorem ev_icmp_eq {x y : Int32} (hd : ev_j M.2.1 pc (fun o => .if_icmp .eq o) pc' tgt) (kt : x = y → ev_E G M d tgt L st w P) (kf : ¬ x = y → ev_E G M d pc' L st w P) : ev_E G M d pc L (.int y :: .int x :: st) w P := by
  obtain ⟨off, hd, rfl, ht⟩ := hd
  intro R s m args below meth c w0 H locs ls X O hH hl
  exact lv_icmp_eq X.1 X.2.1 hd ht (fun h => kt h R s m args below meth c w0 H locs ls X O hH hl) (fun h => kf h R s m args below meth c w0 H locs ls X O hH hl)
theorem ev_if_ne {x : Int32} (hd : ev_j M.2.1 pc (fun o => .ifCond .ne o) pc' tgt) (kt : ¬ x = 0 → ev_E G M d tgt L st w P) (kf : x = 0 → ev_E G M d pc' L st w P) : ev_E G M d pc L (.int x :: st) w P := by
  obtain ⟨off, hd, rfl, ht⟩ := hd
  intro R s m args below meth c w0 H locs ls X O hH hl
  exact lv_if_ne X.1 X.2.1 hd ht (fun h => kt h R s m args below meth c w0 H locs ls X O hH hl) (fun h => kf h R s m args below meth c w0 H locs ls X O hH hl)
theorem ev_icmp_ne {x y : Int32} (hd : ev_j M.2.1 pc (fun o => .if_icmp .ne o) pc' tgt) (kt : ¬ x = y → ev_E G M d tgt L st w P) (kf : x = y → ev_E G M d pc' L st w P) : ev_E G M d pc L (.int y :: .int x :: st) w P := by
  obtain ⟨off, hd, rfl, ht⟩ := hd
  intro R s m args below meth c w0 H locs ls X O hH hl
  exact lv_icmp_ne X.1 X.2.1 hd ht (fun h => kt h R s m args below meth c w0 H locs ls X O hH hl) (fun h => kf h R s m args below meth c w0 H locs ls X O hH hl)
theorem ev_if_lt {x : Int32} (hd : ev_j M.2.1 pc (fun o => .ifCond .lt o) pc' tgt) (kt : x < 0 → ev_E G M d tgt L st w P) (kf : ¬ x < 0 → ev_E G M d pc' L st w P) : ev_E G M d pc L (.int x :: st) w P := by
  obtain ⟨off, hd, rfl, ht⟩ := hd
  intro R s m args below meth c w0 H locs ls X O hH hl
  exact lv_if_lt X.1 X.2.1 hd ht (fun h => kt h R s m args below meth c w0 H locs ls X O hH hl) (fun h => kf h R s m args below meth c w0 H locs ls X O hH hl)
theorem ev_icmp_lt {x y : Int32} (hd : ev_j M.2.1 pc (fun o => .if_icmp .lt o) pc' tgt) (kt : x < y → ev_E G M d tgt L st w P) (kf : ¬ x < y → ev_E G M d pc' L st w P) : ev_E G M d pc L (.int y :: .int x :: st) w P := by
  obtain ⟨off, hd, rfl, ht⟩ := hd
  intro R s m args below meth c w0 H locs ls X O hH hl
  exact lv_icmp_lt X.1 X.2.1 hd ht (fun h => kt h R s m args below meth c w0 H locs ls X O hH hl) (fun h => kf h R s m args below meth c w0 H locs ls X O hH hl)
theorem ev_if_ge {x : Int32} (hd : ev_j M.2.1 pc (fun o => .ifCond .ge o) pc' tgt) (kt : 0 ≤ x → ev_E G M d tgt L st w P) (kf : ¬ 0 ≤ x → ev_E G M d pc' L st w P) : ev_E G M d pc L (.int x :: st) w P := by
  obtain ⟨off, hd, rfl, ht⟩ := hd
  intro R s m args below meth c w0 H locs ls X O hH hl
  exact lv_if_ge X.1 X.2.1 hd ht (fun h => kt h R s m args below meth c w0 H locs ls X O hH hl) (fun h => kf h R s m args below meth c w0 H locs ls X O hH hl)
theorem ev_icmp_ge {x y : Int32} (hd : ev_j M.2.1 pc (fun o => .if_icmp .ge o) pc' tgt) (kt : y ≤ x → ev_E G M d tgt L st w P) (kf : ¬ y ≤ x → ev_E G M d pc' L st w P) : ev_E G M d pc L (.int y :: .int x :: st) w P := by
  obtain ⟨off, hd, rfl, ht⟩ := hd
  intro R s m args below meth c w0 H locs ls X O hH hl
  exact lv_icmp_ge X.1 X.2.1 hd ht (fun h => kt h R s m args below meth c w0 H locs ls X O hH hl) (fun h => kf h R s m args below meth c w0 H locs ls X O hH hl)
theorem ev_if_gt {x : Int32} (hd : ev_j M.2.1 pc (fun o => .ifCond .gt o) pc' tgt) (kt : 0 < x → ev_E G M d tgt L st w P) (kf : ¬ 0 < x → ev_E G M d pc' L st w P) : ev_E G M d pc L (.int x :: st) w P := by
  obtain ⟨off, hd, rfl, ht⟩ := hd
  intro R s m args below meth c w0 H locs ls X O hH hl
  exact lv_if_gt X.1 X.2.1 hd ht (fun h => kt h R s m args below meth c w0 H locs ls X O hH hl) (fun h => kf h R s m args below meth c w0 H locs ls X O hH hl)
theorem ev_icmp_gt {x y : Int32} (hd : ev_j M.2.1 pc (fun o => .if_icmp .gt o) pc' tgt) (kt : y < x → ev_E G M d tgt L st w P) (kf : ¬ y < x → ev_E G M d pc' L st w P) : ev_E G M d pc L (.int y :: .int x :: st) w P := by
  obtain ⟨off, hd, rfl, ht⟩ := hd
  intro R s m args below meth c w0 H locs ls X O hH hl
  exact lv_icmp_gt X.1 X.2.1 hd ht (fun h => kt h R s m args below meth c w0 H locs ls X O hH hl) (fun h => kf h R s m args below meth c w0 H locs ls X O hH hl)
theorem ev_if_le {x : Int32} (hd : ev_j M.2.1 pc (fun o => .ifCond .le o) pc' tgt) (kt : x ≤ 0 → ev_E G M d tgt L st w P) (kf : ¬ x ≤ 0 → ev_E G M d pc' L st w P) : ev_E G M d pc L (.int x :: st) w P := by
  obtain ⟨off, hd, rfl, ht⟩ := hd
  intro R s m args below meth c w0 H locs ls X O hH hl
  exact lv_if_le X.1 X.2.1 hd ht (fun h => kt h R s m args below meth c w0 H locs ls X O hH hl) (fun h => kf h R s m args below meth c w0 H locs ls X O hH hl)
theorem ev_icmp_le {x y : Int32} (hd : ev_j M.2.1 pc (fun o => .if_icmp .le o) pc' tgt) (kt : x ≤ y → ev_E G M d tgt L st w P) (kf : ¬ x ≤ y → ev_E G M d pc' L st w P) : ev_E G M d pc L (.int y :: .int x :: st) w P := by
  obtain ⟨off, hd, rfl, ht⟩ := hd
  intro R s m args below meth c w0 H locs ls X O hH hl
  exact lv_icmp_le X.1 X.2.1 hd ht (fun h => kt h R s m args below meth c w0 H locs ls X O hH hl) (fun h => kf h R s m args below meth c w0 H locs ls X O hH hl)
theorem ev_acmp_eq {rx ry : Option Nat} (hd : ev_j M.2.1 pc (fun o => .if_acmp .eq o) pc' tgt) (kt : rx = ry → ev_E G M d tgt L st w P) (kf : ¬ rx = ry → ev_E G M d pc' L st w P) : ev_E G M d pc L (va_rf ry :: va_rf rx :: st) w P := by
  obtain ⟨off, hd, rfl, ht⟩ := hd
  intro R s m args below meth c w0 H locs ls X O hH hl
  exact lv_acmp_eq X.1 X.2.1 hd ht (fun h => kt h R s m args below meth c w0 H locs ls X O hH hl) (fun h => kf h R s m args below meth c w0 H locs ls X O hH hl)
theorem ev_acmp_ne {rx ry : Option Nat} (hd : ev_j M.2.1 pc (fun o => .if_acmp .ne o) pc' tgt) (kt : ¬ rx = ry → ev_E G M d tgt L st w P) (kf : rx = ry → ev_E G M d pc' L st w P) : ev_E G M d pc L (va_rf ry :: va_rf rx :: st) w P := by
  obtain ⟨off, hd, rfl, ht⟩ := hd
  intro R s m args below meth c w0 H locs ls X O hH hl
  exact lv_acmp_ne X.1 X.2.1 hd ht (fun h => kt h R s m args below meth c w0 H locs ls X O hH hl) (fun h => kf h R s m args below meth c w0 H locs ls X O hH hl)
theorem ev_goto (hd : ev_j M.2.1 pc (fun o => .goto o) pc' tgt) (k : ev_E G M d tgt L st w P) : ev_E G M d pc L (st) w P := by
  obtain ⟨off, hd, rfl, ht⟩ := hd
  intro R s m args below meth c w0 H locs ls X O hH hl
  exact lv_goto X.1 X.2.1 hd ht (k R s m args below meth c w0 H locs ls X O hH hl)
theorem ev_ifnull {x : Nat} (hd : ev_j M.2.1 pc (fun o => .ifnull o) pc' tgt) (k : ev_E G M d pc' L st w P) : ev_E G M d pc L (.ref x :: st) w P := by
  obtain ⟨off, hd, rfl, ht⟩ := hd
  intro R s m args below meth c w0 H locs ls X O hH hl
  exact lv_ifnull X.1 X.2.1 hd (k R s m args below meth c w0 H locs ls X O hH hl)
theorem ev_ifnullN (hd : ev_j M.2.1 pc (fun o => .ifnull o) pc' tgt) (k : ev_E G M d tgt L st w P) : ev_E G M d pc L (.null :: st) w P := by
  obtain ⟨off, hd, rfl, ht⟩ := hd
  intro R s m args below meth c w0 H locs ls X O hH hl
  exact lv_ifnullN X.1 X.2.1 hd ht (k R s m args below meth c w0 H locs ls X O hH hl)
theorem ev_ifnonnull {x : Nat} (hd : ev_j M.2.1 pc (fun o => .ifnonnull o) pc' tgt) (k : ev_E G M d tgt L st w P) : ev_E G M d pc L (.ref x :: st) w P := by
  obtain ⟨off, hd, rfl, ht⟩ := hd
  intro R s m args below meth c w0 H locs ls X O hH hl
  exact lv_ifnonnull X.1 X.2.1 hd ht (k R s m args below meth c w0 H locs ls X O hH hl)
theorem ev_ifnonnullN (hd : ev_j M.2.1 pc (fun o => .ifnonnull o) pc' tgt) (k : ev_E G M d pc' L st w P) : ev_E G M d pc L (.null :: st) w P := by
  obtain ⟨off, hd, rfl, ht⟩ := hd
  intro R s m args below meth c w0 H locs ls X O hH hl
  exact lv_ifnonnullN X.1 X.2.1 hd (k R s m args below meth c w0 H locs ls X O hH hl)
theorem ev_tableIn {dflt lo hi : Int} {offs : Array Int} {len : Nat} {x : Int32} {off : Int} (hd : decode M.2.1 pc = .ok (.tableswitch dflt lo hi offs, len)) (h1 : ¬ x.toInt < lo) (h2 : ¬ hi < x.toInt) (ho : offs[(x.toInt - lo).toNat]? = some off) (ht : (pc : Int) + off = (tgt : Int)) (k : ev_E G M d tgt L st w P) : ev_E G M d pc L (.int x :: st) w P := by
  intro R s m args below meth c w0 H locs ls X O hH hl
  exact lv_tableIn X.1 X.2.1 hd h1 h2 ho ht (k R s m args below meth c w0 H locs ls X O hH hl)
theorem ev_tableOut {dflt lo hi : Int} {offs : Array Int} {len : Nat} {x : Int32} (hd : decode M.2.1 pc = .ok (.tableswitch dflt lo hi offs, len)) (h : x.toInt < lo ∨ hi < x.toInt) (ht : (pc : Int) + dflt = (tgt : Int)) (k : ev_E G M d tgt L st w P) : ev_E G M d pc L (.int x :: st) w P := by
  intro R s m args below meth c w0 H locs ls X O hH hl
  exact lv_tableOut X.1 X.2.1 hd h ht (k R s m args below meth c w0 H locs ls X O hH hl)
theorem ev_lookup {dflt : Int} {ps : Array (Int × Int)} {len : Nat} {x : Int32} {off : Int} (hd : decode M.2.1 pc = .ok (.lookupswitch dflt ps, len)) (hp : (ps.toList.zip (ps.toList.drop 1)).all (fun (a, next) => a.1 < next.1) = true) (ho : Op.lookupswitch.offset ps.toList dflt x.toInt = off) (ht : (pc : Int) + off = (tgt : Int)) (k : ev_E G M d tgt L st w P) : ev_E G M d pc L (.int x :: st) w P := by
  intro R s m args below meth c w0 H locs ls X O hH hl
  exact lv_lookup X.1 X.2.1 hd hp ho ht (k R s m args below meth c w0 H locs ls X O hH hl)
theorem ev_ldc2 {index : Nat} {v : Int64} (hd : ev_d M.2.1 pc (.ldc2_w index) 3 pc') (hw : Cond.constantLong M.1.cls index v ∈ lw_tbl) (k : ev_E G M d pc' L (.long v :: st) w P) : ev_E G M d pc L st w P := by
  obtain ⟨hd, rfl⟩ := hd
  intro R s m args below meth c w0 H locs ls X O hH hl
  exact lv_ldc2 X.1 X.2.1 (ev_own X) (ev_word X hw rfl _) hd (k R s m args below meth c w0 H locs ls X O hH hl)
theorem ev_ldc {index : Nat} {v : Int32} (hd : ev_d M.2.1 pc (.ldc index) 2 pc') (hw : Cond.constant M.1.cls index v ∈ lw_tbl) (k : ev_E G M d pc' L (.int v :: st) w P) : ev_E G M d pc L st w P := by
  obtain ⟨hd, rfl⟩ := hd
  intro R s m args below meth c w0 H locs ls X O hH hl
  exact lv_ldc X.1 X.2.1 (ev_own X) (ev_word X hw rfl _) hd (k R s m args below meth c w0 H locs ls X O hH hl)
end EvB
end
section
/-! rows that read and write the heap -/
theorem ev_set_at (w : ev_wd) (a k : Nat) (x : Value) : ev_v (ev_set w a k x) a = updV (ev_v w a) k x := by
  funext j
  by_cases h : j = k
  · simp [ev_set, ev_v, updV, h]
  · simp [ev_set, ev_v, updV, h]
theorem ev_set_ne (w : ev_wd) {a q : Nat} (k : Nat) (x : Value) (h : q ≠ a) : ev_v (ev_set w a k x) q = ev_v w q := by
  funext j
  simp [ev_set, ev_v, h]
theorem ev_add_at (w : ev_wd) (t n : Nat) (f : Nat → Value) (u : Nat) : ev_g (ev_add w t n f u) (ev_z w) = t ∧ ev_n (ev_add w t n f u) (ev_z w) = n ∧ ev_v (ev_add w t n f u) (ev_z w) = f := by
  refine ⟨by simp [ev_add, ev_g, ev_z], by simp [ev_add, ev_n, ev_z], ?_⟩
  funext j
  simp [ev_add, ev_v, ev_z]
theorem ev_add_ne (w : ev_wd) (t n : Nat) (f : Nat → Value) (u : Nat) {q : Nat} (h : q ≠ ev_z w) : ev_g (ev_add w t n f u) q = ev_g w q ∧ ev_n (ev_add w t n f u) q = ev_n w q ∧ ev_v (ev_add w t n f u) q = ev_v w q := by
  have h' : ¬ q = w.2.2.2.1 := h
  refine ⟨by simp [ev_add, ev_g, h'], by simp [ev_add, ev_n, h'], ?_⟩
  funext j
  simp [ev_add, ev_v, h']
theorem ev_at.to {D : va_G} {w w' : ev_wd} {H H' : Heap} {a : Nat} (h : ev_at D w H a) (hg : ev_g w' a = ev_g w a) (hn : ev_n w' a = ev_n w a) (hv : ev_v w' a = ev_v w a) (hh : H'[a]? = H[a]?) : ev_at D w' H' a := by
  unfold ev_at
  rw [hg, hn, hv, hh]
  rcases h with ⟨h1, h2⟩ | ⟨h1, q, h2, h3⟩
  · exact Or.inl ⟨h1, h2⟩
  · exact Or.inr ⟨h1, q, h2, h3.kept hh⟩
theorem ev_Hr.put {G : ev_gx} {w : ev_wd} {H H' : Heap} {a k : Nat} {x : Value} (h : ev_Hr G w H) (ha : ev_b G ≤ a) (hz : H'.size = H.size) (ho : ∀ q, q ≠ a → H'[q]? = H[q]?) (he : ev_at (ev_D G) (ev_set w a k x) H' a) : ev_Hr G (ev_set w a k x) H' := by
  obtain ⟨h1, h2, h3, h4⟩ := h
  refine ⟨hz.trans h1, h2, fun q hq1 hq2 => ?_, fun q hq => ?_⟩
  · by_cases hqa : q = a
    · rw [hqa]; exact he
    · exact (h3 q hq1 hq2).to rfl rfl (ev_set_ne w k x hqa) (ho q hqa)
  · rw [ho q (by omega)]
    exact h4 q hq
theorem ev_Hr.new {G : ev_gx} {w : ev_wd} {H H' : Heap} {t n u : Nat} {f : Nat → Value} (h : ev_Hr G w H) (hz : H'.size = H.size + 1) (ho : ∀ q, q < H.size → H'[q]? = H[q]?) (he : ev_at (ev_D G) (ev_add w t n f u) H' (ev_z w)) : ev_Hr G (ev_add w t n f u) H' := by
  obtain ⟨h1, h2, h3, h4⟩ := h
  refine ⟨by rw [hz, h1]; rfl, Nat.le_succ_of_le h2, fun q hq1 hq2 => ?_, fun q hq => ?_⟩
  · by_cases hqa : q = ev_z w
    · rw [hqa]; exact he
    · have hlt : q < ev_z w := by
        have : q < ev_z w + 1 := hq2
        omega
      obtain ⟨e1, e2, e3⟩ := ev_add_ne w t n f u hqa
      exact (h3 q hq1 hlt).to e1 e2 e3 (ho q (by rw [h1]; exact hlt))
  · rw [ho q (by rw [h1]; omega)]
    exact h4 q hq
theorem ev_Hr.arr {G : ev_gx} {w : ev_wd} {H : Heap} {a t : Nat} (h : ev_Hr G w H) (ha : ev_b G ≤ a ∧ a < ev_z w) (ht : ev_g w a = 100 + t) : H[a]? = some (arrV ((ev_D G).1 (100 + t)) (ev_n w a) (ev_v w a)) := by
  rcases h.2.2.1 a ha.1 ha.2 with ⟨h1, h2⟩ | ⟨h1, -⟩
  · rw [ht] at h2; exact h2
  · omega
theorem ev_Hr.obj {G : ev_gx} {w : ev_wd} {H : Heap} {a c : Nat} {q : vw_C} (h : ev_Hr G w H) (ha : ev_b G ≤ a ∧ a < ev_z w) (ht : ev_g w a = c) (hc : nm_cl[c]? = some q) : t_OB a ((ev_D G).1 c) q.2.2 ((ev_D G).2 c) H (ev_v w a) := by
  rcases h.2.2.1 a ha.1 ha.2 with ⟨h1, h2⟩ | ⟨h1, q', h2, h3⟩
  · have := nm_lt c q hc
    omega
  · subst ht
    cases h2.symm.trans hc
    exact h3
/-- a class's own words -/
def ev_clok (c : Nat) (q : vw_C) : Prop := (∀ x ∈ u_ws q.1 q.2.1 q.2.2, x ∈ lw_tbl) ∧ (∀ a, a < q.2.2 → ∀ b, b < q.2.2 → a ≠ b → (q.2.1 a).2.1 ≠ (q.2.1 b).2.1) ∧ (∀ k, k < q.2.2 → parseFieldDescriptor (q.2.1 k).2.2.1 = some (nm_ft c k)) ∧ Cond.instantiable q.1 (nm_sl c) ∈ lw_tbl ∧ Cond.initialized q.1 ∈ lw_tbl
/-- the pool's entry 'index' of class 'own' is field k of class c -/
def ev_F (own : String) (index c k : Nat) (fin : Bool) : Prop :=
  ∃ (q : vw_C) (ref : String), nm_cl[c]? = some q ∧ k < q.2.2 ∧ ev_clok c q ∧ Cond.fieldLink own index ref (q.2.1 k).2.1 (q.2.1 k).2.2.1 ∈ lw_tbl ∧ (ref = (q.2.1 k).1 ∨ Cond.sameField ref (q.2.1 k).1 (q.2.1 k).2.1 (q.2.1 k).2.2.1 ∈ lw_tbl) ∧ (q.2.1 k).2.2.2 = fin ∧ (fin = true → (q.2.1 k).1 = own)
def ev_F0 (own : String) (index c k : Nat) : Prop :=
  ∃ (q : vw_C) (ref : String), nm_cl[c]? = some q ∧ k < q.2.2 ∧ ev_clok c q ∧ Cond.fieldLink own index ref (q.2.1 k).2.1 (q.2.1 k).2.2.1 ∈ lw_tbl ∧ (ref = (q.2.1 k).1 ∨ Cond.sameField ref (q.2.1 k).1 (q.2.1 k).2.1 (q.2.1 k).2.2.1 ∈ lw_tbl)
theorem ev_F.r {own : String} {index c k : Nat} {fin : Bool} (h : ev_F own index c k fin) : ev_F0 own index c k := by
  obtain ⟨q, ref, h1, h2, h3, h4, h5, -⟩ := h
  exact ⟨q, ref, h1, h2, h3, h4, h5⟩
theorem ev_lay_good (C : String) (T : u_T) (k : Nat) : goodWord (u_lay C T k) = true := by
  unfold u_lay
  split <;> rfl
section EvH
variable {G : ev_gx} {M : ev_mx} {d pc pc' tgt : Nat} {L : List (Nat × Value)} {st : List Value} {w : ev_wd} {P : ev_r → ev_wd → Prop}
theorem ev_lays {R : Room} {s : State} {m : MethodId} {meth : Method} {c : Code} {w0 : ev_wd} (X : ev_cx G M d R s m meth c w0) {i : Nat} {q : vw_C} (h : ev_clok i q) (a' : Array Value) : ∀ x ∈ u_ws q.1 q.2.1 q.2.2, x.before a' s = true := by
  intro x hx
  obtain ⟨k, -, hk⟩ := List.mem_map.mp hx
  refine ev_word X (h.1 x hx) ?_ a'
  rw [← hk]
  exact ev_lay_good _ _ _
theorem ev_getf {index c k a : Nat} (hd : ev_d M.2.1 pc (.getfield index) 3 pc') (hF : ev_F0 M.1.cls index c k) (ha : ev_b G ≤ a ∧ a < ev_z w) (ht : ev_g w a = c) {v : Value} (hv : ev_v w a k = v) (kk : ev_E G M d pc' L (v :: st) w P) : ev_E G M d pc L (.ref a :: st) w P := by
  obtain ⟨hd, rfl⟩ := hd
  subst hv
  obtain ⟨q, ref, hc, hk, hok, hlk, hs⟩ := hF
  intro R s m args below meth c' w0 H locs ls X O hH hl
  obtain ⟨cell, q1, q2, q3, q4⟩ := hH.obj ha ht hc
  obtain ⟨hS, hfc, kC, hkC, hkind⟩ := (ev_Ks X).1 c q hc
  obtain ⟨cf, kf, fi, f, hi, hsl⟩ := hS k hk
  have hsame : s.fieldFound? ref (q.2.1 k).2.1 (q.2.1 k).2.2.1 = some (cf, kf, fi, f) := by
    rcases hs with h | h
    · rw [h]; exact hi
    · exact u_same (ev_word X h rfl args) _ hi
  refine W.getf X.1 X.2.1 (ev_own X) (ev_word X hlk rfl _) hsame (u_facts hfc hkC (u_lays (ev_lays X hok args) (fun w h => h) hk) hi).1 q1 (by rw [q3]; exact fun h => by cases h) (v := ev_v w a k) ?_ rfl rfl hd (kk R s m args below meth c' w0 H locs ls X O hH hl)
  rw [hsl, q4 k hk]
theorem ev_apart {R : Room} {s : State} {m : MethodId} {meth : Method} {c : Code} {w0 : ev_wd} (X : ev_cx G M d R s m meth c w0) {i : Nat} {q : vw_C} (hc : nm_cl[i]? = some q) (h : ev_clok i q) : ∀ a b, a < q.2.2 → b < q.2.2 → a ≠ b → (ev_D G).2 i a ≠ (ev_D G).2 i b := by
  intro x y hx hy hne
  obtain ⟨hS, -⟩ := (ev_Ks X).1 i q hc
  obtain ⟨_, _, _, fa, hia, ea⟩ := hS x hx
  obtain ⟨_, _, _, fb, hib, eb⟩ := hS y hy
  rw [← ea, ← eb]
  refine u_apart (u_lays (ev_lays X h #[]) (fun w h => h) hx) (u_lays (ev_lays X h #[]) (fun w h => h) hy) hia hib ?_
  rw [(State.fieldFound?_type hia (h.2.2.1 x hx)).1, (State.fieldFound?_type hib (h.2.2.1 y hy)).1]
  exact h.2.1 x hx y hy hne
theorem ev_ok.put {w0 : ev_wd} {locs : List Loc} {a i k : Nat} {x : Value} (O : ev_ok G w0 w locs) (ha : ev_b G ≤ a) : ev_ok G w0 (ev_set w a k x) (locs ++ [⟨a, i⟩]) := by
  refine ⟨fun q hq => ?_, O.2⟩
  rcases List.mem_append.mp hq with h | h
  · exact O.1 q h
  · rw [List.mem_singleton.mp h]
    exact ha
theorem ev_putf {index c k a : Nat} {v : Value} (hd : ev_d M.2.1 pc (.putfield index) 3 pc') (hF : ev_F M.1.cls index c k false) (ha : ev_b G ≤ a ∧ a < ev_z w) (ht : ev_g w a = c) (hn : narrow (nm_ft c k) v = v) (hfit : fits (nm_ft c k) v = true) (kk : ev_E G M d pc' L st (ev_set w a k v) P) : ev_E G M d pc L (v :: .ref a :: st) w P := by
  obtain ⟨hd, rfl⟩ := hd
  obtain ⟨q, ref, hc, hk, hok, hlk, hs, hfin, -⟩ := hF
  intro R s m args below meth c' w0 H locs ls X O hH hl
  have hap := ev_apart X hc hok
  obtain ⟨cell, q1, q2, q3, q4⟩ := hH.obj ha ht hc
  obtain ⟨hS, hfc, kC, hkC, hkind⟩ := (ev_Ks X).1 c q hc
  obtain ⟨cf, kf, fi, f, hi, hsl⟩ := hS k hk
  have hsame : s.fieldFound? ref (q.2.1 k).2.1 (q.2.1 k).2.2.1 = some (cf, kf, fi, f) := by
    rcases hs with h | h
    · rw [h]; exact hi
    · exact u_same (ev_word X h rfl args) _ hi
  have hlay := ev_lays X hok args _ (u_in_lay hk)
  unfold u_lay at hlay
  rw [if_neg (by rw [hfin]; decide)] at hlay
  have hst := (u_facts hfc hkC (u_lays (ev_lays X hok args) (fun w h => h) hk) hi).1
  have h6 := u_store hfc hkC hkind hlay hi (hok.2.2.1 k hk) hn hfit
  refine W.putK X.1 X.2.1 (f := f) ⟨ev_own X, ev_word X hlk rfl _, ⟨_, _, _, hsame⟩, hst⟩ (by rw [q2]; exact h6) q1 q3 (by rw [hsl]; exact k2_hasslot (q4 k hk)) rfl rfl hd fun H' e1 e2 e3 => ?_
  rw [hsl] at e1 ⊢
  refine kk R s m args below meth c' w0 H' _ ls X (O.put ha.1) (hH.put ha.1 e2 e3 (Or.inr ⟨?_, q, ?_, ?_⟩)) hl
  · show ev_g w a < 100
    rw [ht]; exact nm_lt c q hc
  · show nm_cl[ev_g w a]? = some q
    rw [ht]; exact hc
  · rw [ev_set_at]
    show t_OB a ((ev_D G).1 (ev_g w a)) q.2.2 ((ev_D G).2 (ev_g w a)) H' _
    rw [ht]
    exact ⟨_, e1, q2, q3, t_set q4 hap hk v⟩
theorem ev_putF {index c k a : Nat} {v : Value} (hd : ev_d M.2.1 pc (.putfield index) 3 pc') (hF : ev_F M.1.cls index c k true) (hM : M.1.name = "<init>") (ha : ev_b G ≤ a ∧ a < ev_z w) (ht : ev_g w a = c) (hn : narrow (nm_ft c k) v = v) (hfit : fits (nm_ft c k) v = true) (kk : ev_E G M d pc' L st (ev_set w a k v) P) : ev_E G M d pc L (v :: .ref a :: st) w P := by
  obtain ⟨hd, rfl⟩ := hd
  obtain ⟨q, ref, hc, hk, hok, hlk, hs, hfin, hdecl⟩ := hF
  intro R s m args below meth c' w0 H locs ls X O hH hl
  have hap := ev_apart X hc hok
  obtain ⟨cell, q1, q2, q3, q4⟩ := hH.obj ha ht hc
  obtain ⟨hS, hfc, kC, hkC, hkind⟩ := (ev_Ks X).1 c q hc
  obtain ⟨cf, kf, fi, f, hi, hsl⟩ := hS k hk
  have hsame : s.fieldFound? ref (q.2.1 k).2.1 (q.2.1 k).2.2.1 = some (cf, kf, fi, f) := by
    rcases hs with h | h
    · rw [h]; exact hi
    · exact u_same (ev_word X h rfl args) _ hi
  have hlay := ev_lays X hok args _ (u_in_lay hk)
  unfold u_lay at hlay
  rw [if_pos hfin] at hlay
  have hst := (u_facts hfc hkC (u_lays (ev_lays X hok args) (fun w h => h) hk) hi).1
  have hcf : m.cls = cf := by
    obtain ⟨_, _, c', _, _, _, -, -, hf', -, -, -, hown2, -⟩ := Cond.laysFinal_spec hlay
    have e1 : c' = cf := by have := hi.symm.trans hf'; simp at this; exact this.1.symm
    rw [hdecl rfl] at hown2
    rw [← e1]; exact Option.some.inj ((ev_own X).symm.trans hown2)
  have h6 := u_fits hfc hkC hkind (Or.inr hlay) hi (hok.2.2.1 k hk) hn hfit
  refine W.putFinK X.1 X.2.1 (ev_own X) (ev_word X hlk rfl _) hsame hst hcf (X.2.2.2.2.2.2.2.2.2.2.2.2.2.2.trans hM) (by rw [q2]; exact h6) q1 q3 (by rw [hsl]; exact k2_hasslot (q4 k hk)) rfl rfl hd fun H' e1 e2 e3 => ?_
  rw [hsl] at e1 ⊢
  refine kk R s m args below meth c' w0 H' _ ls X (O.put ha.1) (hH.put ha.1 e2 e3 (Or.inr ⟨?_, q, ?_, ?_⟩)) hl
  · show ev_g w a < 100
    rw [ht]; exact nm_lt c q hc
  · show nm_cl[ev_g w a]? = some q
    rw [ht]; exact hc
  · rw [ev_set_at]
    show t_OB a ((ev_D G).1 (ev_g w a)) q.2.2 ((ev_D G).2 (ev_g w a)) H' _
    rw [ht]
    exact ⟨_, e1, q2, q3, t_set q4 hap hk v⟩
theorem ev_alen {t a : Nat} {ty : FieldType} (hd : ev_d M.2.1 pc .arraylength 1 pc') (ha : ev_b G ≤ a ∧ a < ev_z w) (ht : ev_g w a = 100 + t) (hty : nm_at[t]? = some ty) {n : Nat} (hn : ev_n w a = n) (kk : ev_E G M d pc' L (.int (Int32.ofNat n) :: st) w P) : ev_E G M d pc L (.ref a :: st) w P := by
  obtain ⟨hd, rfl⟩ := hd
  subst hn
  intro R s m args below meth c' w0 H locs ls X O hH hl
  exact W.alen (n := Int32.ofNat (ev_n w a)) X.1 X.2.1 (hH.arr ha ht) (((ev_Ks X).2 t ty hty).1 (ev_n w a) (ev_v w a)) (by rw [arrV_size] <;> rfl) rfl rfl hd (kk R s m args below meth c' w0 H locs ls X O hH hl)
theorem ev_iald {t a : Nat} {j : Int32} (hd : ev_d M.2.1 pc .iaload 1 pc') (ha : ev_b G ≤ a ∧ a < ev_z w) (ht : ev_g w a = 100 + t) (hty : nm_at[t]? = some .int) (hin : vp_in j (ev_n w a)) {v : Value} (hv : ev_v w a j.toNatClampNeg = v) (kk : ev_E G M d pc' L (v :: st) w P) : ev_E G M d pc L (.int j :: .ref a :: st) w P := by
  obtain ⟨hd, rfl⟩ := hd
  subst hv
  intro R s m args below meth c' w0 H locs ls X O hH hl
  have hlt : j.toNatClampNeg < ev_n w a := Nat.not_le.mp fun q => hin (Or.inr q)
  exact W.iald X.1 X.2.1 (hH.arr ha ht) (((ev_Ks X).2 t _ hty).1 (ev_n w a) (ev_v w a)) (fun q => by cases q) (by rw [arrV_size]; exact hin) (arrV_read _ _ hlt) rfl rfl hd (kk R s m args below meth c' w0 H locs ls X O hH hl)
theorem ev_zald {t a : Nat} {j : Int32} (hd : ev_d M.2.1 pc .baload 1 pc') (ha : ev_b G ≤ a ∧ a < ev_z w) (ht : ev_g w a = 100 + t) (hty : nm_at[t]? = some .boolean) (hin : vp_in j (ev_n w a)) {v : Value} (hv : ev_v w a j.toNatClampNeg = v) (kk : ev_E G M d pc' L (v :: st) w P) : ev_E G M d pc L (.int j :: .ref a :: st) w P := by
  obtain ⟨hd, rfl⟩ := hd
  subst hv
  intro R s m args below meth c' w0 H locs ls X O hH hl
  have hlt : j.toNatClampNeg < ev_n w a := Nat.not_le.mp fun q => hin (Or.inr q)
  exact W.zald X.1 X.2.1 (hH.arr ha ht) (((ev_Ks X).2 t _ hty).1 (ev_n w a) (ev_v w a)) (fun q => by cases q) (by rw [arrV_size]; exact hin) (arrV_read _ _ hlt) rfl rfl hd (kk R s m args below meth c' w0 H locs ls X O hH hl)
theorem ev_lald {t a : Nat} {j : Int32} (hd : ev_d M.2.1 pc .laload 1 pc') (ha : ev_b G ≤ a ∧ a < ev_z w) (ht : ev_g w a = 100 + t) (hty : nm_at[t]? = some .long) (hin : vp_in j (ev_n w a)) {v : Value} (hv : ev_v w a j.toNatClampNeg = v) (kk : ev_E G M d pc' L (v :: st) w P) : ev_E G M d pc L (.int j :: .ref a :: st) w P := by
  obtain ⟨hd, rfl⟩ := hd
  subst hv
  intro R s m args below meth c' w0 H locs ls X O hH hl
  have hlt : j.toNatClampNeg < ev_n w a := Nat.not_le.mp fun q => hin (Or.inr q)
  exact W.lald X.1 X.2.1 (hH.arr ha ht) (((ev_Ks X).2 t _ hty).1 (ev_n w a) (ev_v w a)) (fun q => by cases q) (by rw [arrV_size]; exact hin) (arrV_read _ _ hlt) rfl rfl hd (kk R s m args below meth c' w0 H locs ls X O hH hl)
theorem ev_aald {t a : Nat} {j : Int32} {C : String} (hd : ev_d M.2.1 pc .aaload 1 pc') (ha : ev_b G ≤ a ∧ a < ev_z w) (ht : ev_g w a = 100 + t) (hty : nm_at[t]? = some (.object C)) (hin : vp_in j (ev_n w a)) {v : Value} (hv : ev_v w a j.toNatClampNeg = v) (kk : ev_E G M d pc' L (v :: st) w P) : ev_E G M d pc L (.int j :: .ref a :: st) w P := by
  obtain ⟨hd, rfl⟩ := hd
  subst hv
  intro R s m args below meth c' w0 H locs ls X O hH hl
  have hlt : j.toNatClampNeg < ev_n w a := Nat.not_le.mp fun q => hin (Or.inr q)
  exact W.aald (ty := .object C) X.1 X.2.1 (hH.arr ha ht) (((ev_Ks X).2 t _ hty).1 (ev_n w a) (ev_v w a)) rfl (fun q => by cases q) (by rw [arrV_size]; exact hin) (arrV_read _ _ hlt) rfl rfl hd (kk R s m args below meth c' w0 H locs ls X O hH hl)
/-- an array's cell behind a store -/
theorem ev_Hr.ast {H H' : Heap} {a t k : Nat} {x : Value} (hH : ev_Hr G w H) (ha : ev_b G ≤ a ∧ a < ev_z w) (ht : ev_g w a = 100 + t) (e1 : H'[a]? = some ((arrV ((ev_D G).1 (100 + t)) (ev_n w a) (ev_v w a)).setSlot k x)) (hz : H'.size = H.size) (ho : ∀ q, q ≠ a → H'[q]? = H[q]?) : ev_Hr G (ev_set w a k x) H' := by
  refine hH.put ha.1 hz ho (Or.inl ⟨?_, ?_⟩)
  · show 100 ≤ ev_g w a
    omega
  · rw [ev_set_at]
    show H'[a]? = some (arrV ((ev_D G).1 (ev_g w a)) (ev_n w a) _)
    rw [ht, e1, arrV_store]
theorem ev_iast {t a : Nat} {j x : Int32} (hd : ev_d M.2.1 pc .iastore 1 pc') (ha : ev_b G ≤ a ∧ a < ev_z w) (ht : ev_g w a = 100 + t) (hty : nm_at[t]? = some .int) (hin : vp_in j (ev_n w a)) (kk : ev_E G M d pc' L st (ev_set w a j.toNatClampNeg (.int x)) P) : ev_E G M d pc L (.int x :: .int j :: .ref a :: st) w P := by
  obtain ⟨hd, rfl⟩ := hd
  intro R s m args below meth c' w0 H locs ls X O hH hl
  exact W.iast X.1 X.2.1 (hH.arr ha ht) (((ev_Ks X).2 t _ hty).1 (ev_n w a) (ev_v w a)) (fun q => by cases q) (by rw [arrV_size]; exact hin) rfl rfl hd fun H' e z oq => kk R s m args below meth c' w0 H' _ ls X (O.put ha.1) (hH.ast ha ht e z oq) hl
theorem ev_zast {t a : Nat} {j x : Int32} (hd : ev_d M.2.1 pc .bastore 1 pc') (ha : ev_b G ≤ a ∧ a < ev_z w) (ht : ev_g w a = 100 + t) (hty : nm_at[t]? = some .boolean) (hin : vp_in j (ev_n w a)) (hx : narrow .boolean (.int x) = .int x) (kk : ev_E G M d pc' L st (ev_set w a j.toNatClampNeg (.int x)) P) : ev_E G M d pc L (.int x :: .int j :: .ref a :: st) w P := by
  obtain ⟨hd, rfl⟩ := hd
  intro R s m args below meth c' w0 H locs ls X O hH hl
  refine W.zast X.1 X.2.1 (hH.arr ha ht) (((ev_Ks X).2 t _ hty).1 (ev_n w a) (ev_v w a)) (fun q => by cases q) (by rw [arrV_size]; exact hin) rfl rfl hd fun H' e z oq => kk R s m args below meth c' w0 H' _ ls X (O.put ha.1) (hH.ast ha ht ?_ z oq) hl
  rw [← hx]
  exact e
theorem ev_last {t a : Nat} {j : Int32} {x : Int64} (hd : ev_d M.2.1 pc .lastore 1 pc') (ha : ev_b G ≤ a ∧ a < ev_z w) (ht : ev_g w a = 100 + t) (hty : nm_at[t]? = some .long) (hin : vp_in j (ev_n w a)) (kk : ev_E G M d pc' L st (ev_set w a j.toNatClampNeg (.long x)) P) : ev_E G M d pc L (.long x :: .int j :: .ref a :: st) w P := by
  obtain ⟨hd, rfl⟩ := hd
  intro R s m args below meth c' w0 H locs ls X O hH hl
  exact W.last X.1 X.2.1 (hH.arr ha ht) (((ev_Ks X).2 t _ hty).1 (ev_n w a) (ev_v w a)) (fun q => by cases q) (by rw [arrV_size]; exact hin) rfl rfl hd fun H' e z oq => kk R s m args below meth c' w0 H' _ ls X (O.put ha.1) (hH.ast ha ht e z oq) hl
theorem ev_aast {t a v c : Nat} {j : Int32} {E : String} {q : vw_C} (hd : ev_d M.2.1 pc .aastore 1 pc') (ha : ev_b G ≤ a ∧ a < ev_z w) (ht : ev_g w a = 100 + t) (hty : nm_at[t]? = some (.object E)) (hin : vp_in j (ev_n w a)) (hv : ev_b G ≤ v ∧ v < ev_z w) (hvc : ev_g w v = c) (hc : nm_cl[c]? = some q) (hE : q.1 = E ∨ Cond.castable q.1 E ∈ lw_tbl) (kk : ev_E G M d pc' L st (ev_set w a j.toNatClampNeg (.ref v)) P) : ev_E G M d pc L (.ref v :: .int j :: .ref a :: st) w P := by
  obtain ⟨hd, rfl⟩ := hd
  intro R s m args below meth c' w0 H locs ls X O hH hl
  have hlt : j.toNatClampNeg < ev_n w a := Nat.not_le.mp fun q => hin (Or.inr q)
  have h0 : ¬ j < 0 := fun q => hin (Or.inl q)
  obtain ⟨cellV, g1, g2, g3, -⟩ := hH.obj hv hvc hc
  have hcls := ((ev_Ks X).1 c q hc).2
  obtain ⟨kA, comp, k1, k2, k3, -⟩ := ((ev_Ks X).2 t _ hty).2
  obtain ⟨kE, hkE, -⟩ := Vm.findClass_spec k3
  obtain ⟨kC, hkC, -⟩ := hcls.2
  have hasg : s.vm.assignable ((ev_D G).1 c) comp = true := by
    rcases hE with h | h
    · rw [← h] at k3
      cases k3.symm.trans hcls.1
      exact va_assign hcls
    · obtain ⟨c0, t1, f1, f2, f3⟩ := Cond.castable_spec (va_Nw.use (A := args) rfl (va_Nw.warmC X.2.2.2.1 (va_Nw.of rfl (X.2.2.2.2.1 _ h))))
      cases hcls.1.symm.trans f1
      cases k3.symm.trans f2
      exact f3
  exact W.aast X.1 X.2.1 (hH.arr ha ht) (fun q h => by cases h) (fun h => by cases h) k1 k2 rfl hkE ⟨h0, by rw [arrV_size]; exact hlt⟩ g1 (fun q h => by rw [g3] at h; cases h) (by rw [g2]; exact hkC) (by rw [g2]; exact hasg) rfl rfl hd fun H' e z oq => kk R s m args below meth c' w0 H' _ ls X (O.put ha.1) (hH.ast ha ht e z oq) hl
theorem ev_aastN {t a : Nat} {j : Int32} {E : String} (hd : ev_d M.2.1 pc .aastore 1 pc') (ha : ev_b G ≤ a ∧ a < ev_z w) (ht : ev_g w a = 100 + t) (hty : nm_at[t]? = some (.object E)) (hin : vp_in j (ev_n w a)) (kk : ev_E G M d pc' L st (ev_set w a j.toNatClampNeg .null) P) : ev_E G M d pc L (.null :: .int j :: .ref a :: st) w P := by
  obtain ⟨hd, rfl⟩ := hd
  intro R s m args below meth c' w0 H locs ls X O hH hl
  exact va_WaastN (C := E) X.1 X.2.1 (hH.arr ha ht) (((ev_Ks X).2 t _ hty).1 (ev_n w a) (ev_v w a)) (fun q => by cases q) (by rw [arrV_size]; exact hin) rfl rfl hd fun H' e z oq => kk R s m args below meth c' w0 H' _ ls X (O.put ha.1) (hH.ast ha ht e z oq) hl
theorem ev_ok.new {w0 : ev_wd} {locs : List Loc} {t n u : Nat} {f : Nat → Value} (O : ev_ok G w0 w locs) (hz : ev_z w + 1 ≤ ev_b G + 601024) (hu : ev_u w + u ≤ 7293034) : ev_ok G w0 (ev_add w t n f u) locs := ⟨O.1, Nat.le_succ_of_le O.2.1, Nat.le_trans O.2.2.1 (Nat.le_add_right _ _), hz, hu⟩
theorem ev_new {index c : Nat} {q : vw_C} (hd : ev_d M.2.1 pc (.new index) 3 pc') (hc : nm_cl[c]? = some q) (hok : ev_clok c q) (hlk : Cond.classLink M.1.cls index q.1 ∈ lw_tbl) (hz : ev_z w + 1 ≤ ev_b G + 601024) (hu : ev_u w + nm_sl c ≤ 7293034) (kk : ev_E G M d pc' L (.ref (ev_z w) :: st) (ev_add w c 0 (fun k => defaultValue (nm_ft c k)) (nm_sl c)) P) : ev_E G M d pc L st w P := by
  obtain ⟨hd, rfl⟩ := hd
  intro R s m args below meth c' w0 H locs ls X O hH hl
  have hKn := (ev_Ks X).1 c q hc
  obtain ⟨-, -, -, -, -, -, -, -, -, -, -, -, r1, r2, -⟩ := id X
  obtain ⟨o1, o2, o3, o4, o5⟩ := id O
  have hH1 := hH.1
  refine W.newcK X.1 X.2.1 (ev_own X) (ev_word X hlk rfl _) (ev_word X hok.2.2.2.1 rfl _) (ev_word X hok.2.2.2.2 rfl _) rfl hd (by omega) (by omega) hKn.2.1 hH1 fun H1 kC hkC e1 z1 o1 => ?_
  have hk := kk R s m args below meth c' w0 H1 locs ls X (O.new hz hu) (hH.new (by rw [z1, hH1]) (fun x hx => o1 x (by rw [← hH1]; exact hx)) (Or.inr ?_)) hl
  · have e2 : ev_z (ev_add w c 0 (fun k => defaultValue (nm_ft c k)) (nm_sl c)) - ev_z w0 = ev_z w - ev_z w0 + 1 := by
      show ev_z w + 1 - ev_z w0 = _
      omega
    have e3 : ev_u (ev_add w c 0 (fun k => defaultValue (nm_ft c k)) (nm_sl c)) - ev_u w0 = ev_u w - ev_u w0 + nm_sl c := by
      show ev_u w + nm_sl c - ev_u w0 = _
      omega
    rw [e2, e3] at hk
    exact hk
  · obtain ⟨a1, a2, a3⟩ := ev_add_at w c 0 (fun k => defaultValue (nm_ft c k)) (nm_sl c)
    rw [a1, a3]
    exact ⟨nm_lt c q hc, q, hc, u_born (nm_ft c) (ev_lays X hok args) (fun w h => h) hKn hkC e1 hok.2.2.1⟩
theorem ev_newa {atype : ArrayType} {t : Nat} {n : Int32} (hd : ev_d M.2.1 pc (.newarray atype) 2 pc') (hty : nm_at[t]? = some (newarray.typeOf atype)) (hw : Cond.arrayClass (newarray.typeOf atype) ∈ lw_tbl) (hn : ¬ n < 0) (hbytes : n.toNatClampNeg * componentBytes (newarray.typeOf atype) ≤ 536870912) (hz : ev_z w + 1 ≤ ev_b G + 601024) (hu : ev_u w + n.toNatClampNeg ≤ 7293034) (kk : ev_E G M d pc' L (.ref (ev_z w) :: st) (ev_add w (100 + t) n.toNatClampNeg (fun _ => defaultValue (newarray.typeOf atype)) n.toNatClampNeg) P) : ev_E G M d pc L (.int n :: st) w P := by
  obtain ⟨hd, rfl⟩ := hd
  intro R s m args below meth c' w0 H locs ls X O hH hl
  obtain ⟨-, -, -, -, -, -, -, -, -, -, -, -, r1, r2, -⟩ := id X
  obtain ⟨o1, o2, o3, o4, o5⟩ := id O
  have hH1 := hH.1
  refine va_newaK X.1 X.2.1 (ev_word X hw rfl _) rfl hd rfl hn rfl hbytes (by omega) (by omega) hH1 fun H1 cA e1 z1 o1 hAr hNm => ?_
  have hcA : cA = (ev_D G).1 (100 + t) := by
    have h := ((ev_Ks X).2 t _ hty).2
    have h2 : s.vm.findClass ("[" ++ (newarray.typeOf atype).toString) = some ((ev_D G).1 (100 + t)) := by
      cases atype <;> exact h
    exact Option.some.inj (hNm.symm.trans h2)
  have hk := kk R s m args below meth c' w0 H1 locs ls X (O.new hz hu) (hH.new (by rw [z1, hH1]) (fun x hx => o1 x (by rw [← hH1]; exact hx)) (Or.inl ?_)) hl
  · have e2 : ev_z (ev_add w (100 + t) n.toNatClampNeg (fun _ => defaultValue (newarray.typeOf atype)) n.toNatClampNeg) - ev_z w0 = ev_z w - ev_z w0 + 1 := by
      show ev_z w + 1 - ev_z w0 = _
      omega
    have e3 : ev_u (ev_add w (100 + t) n.toNatClampNeg (fun _ => defaultValue (newarray.typeOf atype)) n.toNatClampNeg) - ev_u w0 = ev_u w - ev_u w0 + n.toNatClampNeg := by
      show ev_u w + n.toNatClampNeg - ev_u w0 = _
      omega
    rw [e2, e3] at hk
    exact hk
  · obtain ⟨a1, a2, a3⟩ := ev_add_at w (100 + t) n.toNatClampNeg (fun _ => defaultValue (newarray.typeOf atype)) n.toNatClampNeg
    rw [a1, a2, a3]
    exact ⟨by omega, by rw [← hcA]; exact e1⟩
theorem ev_anew {index t : Nat} {C : String} {n : Int32} (hd : ev_d M.2.1 pc (.anewarray index) 3 pc') (hty : nm_at[t]? = some (.object C)) (hlk : Cond.classLink M.1.cls index C ∈ lw_tbl) (hw : Cond.arrayOver (.object C) ∈ lw_tbl) (hn : ¬ n < 0) (hbytes : n.toNatClampNeg * 4 ≤ 536870912) (hz : ev_z w + 1 ≤ ev_b G + 601024) (hu : ev_u w + n.toNatClampNeg ≤ 7293034) (kk : ev_E G M d pc' L (.ref (ev_z w) :: st) (ev_add w (100 + t) n.toNatClampNeg (fun _ => .null) n.toNatClampNeg) P) : ev_E G M d pc L (.int n :: st) w P := by
  obtain ⟨hd, rfl⟩ := hd
  intro R s m args below meth c' w0 H locs ls X O hH hl
  obtain ⟨-, -, -, -, -, -, -, -, -, -, -, -, r1, r2, -⟩ := id X
  obtain ⟨o1, o2, o3, o4, o5⟩ := id O
  have hH1 := hH.1
  have hover : (Cond.arrayOver (.object C)).before args s = true := va_AO.use (va_AO.moved X.2.2.2.1.alike (va_AO.of (X.2.2.2.2.1 _ hw)))
  refine W.anew X.1 X.2.1 (ev_own X) (ev_word X hlk rfl _) hover rfl hd rfl hn hbytes (by omega) (by omega) fun cA kA comp f1 f2 f3 f4 => ?_
  generalize hHH : H.push ({ cls := cA, slots := Array.replicate n.toNatClampNeg .null, vm := .none } : Cell) = H1
  have z1 : H1.size = H.size + 1 := by rw [← hHH, Array.size_push]
  have e1 : H1[H.size]? = some (arrV cA n.toNatClampNeg (fun _ => .null)) := by rw [← hHH, Array.getElem?_push_size, ← arrV_new]
  have o1 : ∀ q : Nat, q < H.size → H1[q]? = H[q]? := fun q hq => by rw [← hHH, Array.getElem?_push, if_neg (Nat.ne_of_lt hq)]
  have hcA : cA = (ev_D G).1 (100 + t) := by
    obtain ⟨-, -, -, -, -, h4⟩ := ((ev_Ks X).2 t _ hty).2
    exact Option.some.inj (f1.symm.trans h4)
  have hk := kk R s m args below meth c' w0 H1 locs ls X (O.new hz hu) (hH.new z1 o1 (Or.inl ?_)) hl
  · have e2 : ev_z (ev_add w (100 + t) n.toNatClampNeg (fun _ => .null) n.toNatClampNeg) - ev_z w0 = ev_z w - ev_z w0 + 1 := by
      show ev_z w + 1 - ev_z w0 = _
      omega
    have e3 : ev_u (ev_add w (100 + t) n.toNatClampNeg (fun _ => .null) n.toNatClampNeg) - ev_u w0 = ev_u w - ev_u w0 + n.toNatClampNeg := by
      show ev_u w + n.toNatClampNeg - ev_u w0 = _
      omega
    rw [e2, e3] at hk
    rw [hH1]
    exact hk
  · obtain ⟨a1, a2, a3⟩ := ev_add_at w (100 + t) n.toNatClampNeg (fun _ => .null) n.toNatClampNeg
    rw [a1, a2, a3]
    exact ⟨by omega, by rw [← hcA, ← hH1]; exact e1⟩
/-- checkcast of an object to its own class -/
theorem ev_cast {index c a : Nat} {q : vw_C} (hd : ev_d M.2.1 pc (.checkcast index) 3 pc') (hlk : Cond.classLink M.1.cls index q.1 ∈ lw_tbl) (ha : ev_b G ≤ a ∧ a < ev_z w) (ht : ev_g w a = c) (hc : nm_cl[c]? = some q) (kk : ev_E G M d pc' L (.ref a :: st) w P) : ev_E G M d pc L (.ref a :: st) w P := by
  obtain ⟨hd, rfl⟩ := hd
  intro R s m args below meth c' w0 H locs ls X O hH hl
  obtain ⟨cellV, g1, g2, g3, -⟩ := hH.obj ha ht hc
  have hcls := ((ev_Ks X).1 c q hc).2
  exact va_castS X.1 X.2.1 (ev_own X) (ev_word X hlk rfl _) hcls ⟨cellV, g1, by rw [g3]; rfl, by rw [g2]; exact hcls.1⟩ hd (kk R s m args below meth c' w0 H locs ls X O hH hl)
/-- checkcast of an array to its own class -/
theorem ev_castA {index t a : Nat} {C : String} (hd : ev_d M.2.1 pc (.checkcast index) 3 pc') (hlk : Cond.classLink M.1.cls index ("[" ++ (FieldType.object C).toString) ∈ lw_tbl) (ha : ev_b G ≤ a ∧ a < ev_z w) (ht : ev_g w a = 100 + t) (hty : nm_at[t]? = some (.object C)) (kk : ev_E G M d pc' L (.ref a :: st) w P) : ev_E G M d pc L (.ref a :: st) w P := by
  obtain ⟨hd, rfl⟩ := hd
  intro R s m args below meth c' w0 H locs ls X O hH hl T hT S
  obtain ⟨-, -, -, -, -, h4⟩ := ((ev_Ks X).2 t _ hty).2
  obtain ⟨vm', X', stp⟩ := S.checkcastYes X.1 (ev_own X) (ev_word X hlk rfl _) (by rw [hT]; exact hH.arr ha ht) rfl h4 (va_asg _ _) (g := F0 m pc ls (.ref a :: st)) rfl rfl (by rw [X.2.1]; exact hd)
  obtain ⟨t2, a1, b1⟩ := kk R s m args below meth c' w0 H locs ls X O hH hl (T.setVm vm') hT X'
  exact ⟨t2, stp t2 a1, b1⟩
/-- two references are compared -/
theorem ev_acmpR_ne {x y : Nat} (hd : ev_j M.2.1 pc (fun o => .if_acmp .ne o) pc' tgt) (kt : ¬ x = y → ev_E G M d tgt L st w P) (kf : x = y → ev_E G M d pc' L st w P) : ev_E G M d pc L (.ref y :: .ref x :: st) w P :=
  ev_acmp_ne (rx := some x) (ry := some y) hd (fun h => kt fun e => h (by rw [e])) (fun h => kf (Option.some.inj h))
theorem ev_acmpR_eq {x y : Nat} (hd : ev_j M.2.1 pc (fun o => .if_acmp .eq o) pc' tgt) (kt : x = y → ev_E G M d tgt L st w P) (kf : ¬ x = y → ev_E G M d pc' L st w P) : ev_E G M d pc L (.ref y :: .ref x :: st) w P :=
  ev_acmp_eq (rx := some x) (ry := some y) hd (fun h => kt (Option.some.inj h)) (fun h => kf fun e => h (by rw [e]))
end EvH
end
section
/-! rows that end a method, call one, throw, catch -/
theorem ev_weaken {tb : Tables} {e : Env} {mid below : List Frame} {a b : State} (h : Steps tb e (mid ++ below) a b) : Steps tb e below a b := by
  obtain ⟨n, hn, hw⟩ := h
  exact ⟨n, hn, fun k hk => (hw k hk).weaken⟩
section EvC
variable {G : ev_gx} {M : ev_mx} {d pc pc' tgt : Nat} {L : List (Nat × Value)} {st : List Value} {w : ev_wd} {P : ev_r → ev_wd → Prop}
theorem ev_iret {v : Int32} {ty : FieldType} (hd : ev_d M.2.1 pc .ireturn 1 pc') (hr : M.2.2.2.1 = some ty) (hn : narrow ty (.int v) = .int v) (h : P (.inl (some (.int v))) w) : ev_E G M d pc L [.int v] w P := by
  obtain ⟨hdg, -⟩ := hd
  intro R s m args below meth c w0 H locs ls X O hH hl T hT S
  obtain ⟨hexec, hb, -, -, -, -, -, hret0, hlocks, -⟩ := id X
  have hr' : meth.sig.returnType = some ty := hret0.trans hr
  obtain ⟨fs, hret, hrun, hended, hW, hframe⟩ := S.leave (v := some (.int v)) (fun h => by rw [hr'] at h; cases h)
  have hmeth' : T.vm.method? m = some meth := S.method'
  refine ⟨T.setFrames fs, ?_, .inl (some (.int v)), w, locs, h, hrun, hended, ?_, hW, hframe, O⟩
  · jvm_step S.here [S.here.top, hexec, hb, hdg, hmeth', hr', hn]
    (try refine ⟨rfl, ?_⟩); (try refine ⟨rfl, ?_⟩)
    first | (intro acts; rw [hret _ acts rfl rfl rfl]) | rw [hret _ _ rfl rfl rfl]
    exact Steps.refl _
  · show ev_Hr G w T.heap
    rw [hT]; exact hH
theorem ev_lret {v : Int64} (hd : ev_d M.2.1 pc .lreturn 1 pc') (hr : M.2.2.2.1 = some .long) (h : P (.inl (some (.long v))) w) : ev_E G M d pc L [.long v] w P := by
  obtain ⟨hdg, -⟩ := hd
  intro R s m args below meth c w0 H locs ls X O hH hl T hT S
  obtain ⟨hexec, hb, -, -, -, -, -, hret0, hlocks, -⟩ := id X
  have hr' : meth.sig.returnType = some .long := hret0.trans hr
  obtain ⟨fs, hret, hrun, hended, hW, hframe⟩ := S.leave (v := some (.long v)) (fun h => by rw [hr'] at h; cases h)
  have hmeth' : T.vm.method? m = some meth := S.method'
  refine ⟨T.setFrames fs, ?_, .inl (some (.long v)), w, locs, h, hrun, hended, ?_, hW, hframe, O⟩
  · jvm_step S.here [S.here.top, hexec, hb, hdg, hmeth', hr', narrow]
    (try refine ⟨rfl, ?_⟩); (try refine ⟨rfl, ?_⟩)
    first | (intro acts; rw [hret _ acts rfl rfl rfl]) | rw [hret _ _ rfl rfl rfl]
    exact Steps.refl _
  · show ev_Hr G w T.heap
    rw [hT]; exact hH
theorem ev_vret (hd : ev_d M.2.1 pc .return_ 1 pc') (hr : M.2.2.2.1 = none) (h : P (.inl none) w) : ev_E G M d pc L [] w P := by
  obtain ⟨hdg, -⟩ := hd
  intro R s m args below meth c w0 H locs ls X O hH hl T hT S
  obtain ⟨hexec, hb, -, -, -, -, -, hret0, hlocks, -⟩ := id X
  have hr' : meth.sig.returnType = none := hret0.trans hr
  obtain ⟨fs, hret, hrun, hended, hW, hframe⟩ := S.leave (v := none) (fun _ => rfl)
  have hmeth' : T.vm.method? m = some meth := S.method'
  refine ⟨T.setFrames fs, ?_, .inl none, w, locs, h, hrun, hended, ?_, hW, hframe, O⟩
  · jvm_step S.here [S.here.top, hexec, hb, hdg, hmeth', hr']
    (try refine ⟨rfl, ?_⟩); (try refine ⟨rfl, ?_⟩)
    first | (intro acts; rw [hret _ acts rfl rfl rfl]) | rw [hret _ _ rfl rfl rfl]
    exact Steps.refl _
  · show ev_Hr G w T.heap
    rw [hT]; exact hH
theorem ev_aret {v : Value} {rt : FieldType} (hd : ev_d M.2.1 pc .areturn 1 pc') (hr : M.2.2.2.1 = some rt) (hrt : (∃ n, rt = .object n) ∨ ∃ t, rt = .array t) (hv : v = .null ∨ ∃ a, v = .ref a) (h : P (.inl (some v)) w) : ev_E G M d pc L [v] w P := by
  obtain ⟨hdg, -⟩ := hd
  intro R s m args below meth c w0 H locs ls X O hH hl T hT S
  obtain ⟨hexec, hb, -, -, -, -, -, hret0, hlocks, -⟩ := id X
  have hr' : meth.sig.returnType = some rt := hret0.trans hr
  obtain ⟨fs, hret, hrun, hended, hW, hframe⟩ := S.leave (v := some v) (fun h => by rw [hr'] at h; cases h)
  have hmeth' : T.vm.method? m = some meth := S.method'
  refine ⟨T.setFrames fs, ?_, .inl (some v), w, locs, h, hrun, hended, ?_, hW, hframe, O⟩
  · rcases hrt with ⟨n, rfl⟩ | ⟨t, rfl⟩ <;> rcases hv with rfl | ⟨a, rfl⟩ <;>
      (jvm_step S.here [S.here.top, hexec, hb, hdg, hmeth', hr']
       (try refine ⟨rfl, ?_⟩); (try refine ⟨rfl, ?_⟩)
       first | (intro acts; rw [hret _ acts rfl rfl rfl]) | rw [hret _ _ rfl rfl rfl]
       exact Steps.refl _)
  · show ev_Hr G w T.heap
    rw [hT]; exact hH
/-- the word that says a method's code -/
def ev_code (M : ev_mx) : Cond := match M.2.2.2.2 with
  | [] => .code M.1 M.2.1 M.2.2.1 M.2.2.2.1
  | h :: t => .codeWith M.1 M.2.1 M.2.2.1 M.2.2.2.1 (h :: t)
theorem ev_code_spec {M : ev_mx} {a : Array Value} {s : State} (h : (ev_code M).before a s = true) : ∃ m meth c, s.methodNamed? M.1 = some m ∧ s.vm.method? m = some meth ∧ meth.code = some c ∧ c.code = M.2.1 ∧ c.maxLocals = M.2.2.1 ∧
    c.exceptionTable.toList.map (fun h => (h.startPc, h.endPc, h.handlerPc, h.catchType)) = M.2.2.2.2 ∧ meth.sig.returnType = M.2.2.2.1 ∧ meth.locks = false ∧ parseMethodDescriptor M.1.desc = some meth.sig := by
  obtain ⟨y, cc, ml, rt, hs⟩ := M
  cases hs with
  | nil =>
    obtain ⟨m, hm⟩ := Cond.code_named h
    obtain ⟨meth, c, h1, h2, h3, h4, h5, h6, h7, h8⟩ := Cond.code_spec hm h
    refine ⟨m, meth, c, hm, h1, h2, h3, h4, ?_, h5, h6, h8⟩
    have h9 : c.exceptionTable = #[] := by simpa using h7
    rw [h9]; rfl
  | cons q t => exact Cond.codeWith_spec h
theorem ev_code_good (M : ev_mx) : goodWord (ev_code M) = true := by
  obtain ⟨y, cc, ml, rt, hs⟩ := M
  cases hs <;> rfl
theorem ev_nest {R : Room} {s : State} {m : MethodId} {meth : Method} {c : Code} {w0 : ev_wd} (X : ev_cx G M d R s m meth c w0) {own host : String} {index : Nat} {y : MethodName} (h : Cond.methodLinkNest own index y host ∈ lw_tbl) (a' : Array Value) : (Cond.methodLinkNest own index y host).before a' s = true :=
  va_Nw.use rfl (va_Nw.warmM X.2.2.2.1 (va_Nw.of rfl (X.2.2.2.2.1 _ h)))
/-- into a method and out of it again -/
theorem ev_through {R : Room} {s : State} {m : MethodId} {args : Array Value} {below : List Frame} {meth : Method} {c : Code} {w0 : ev_wd} {T : State} {locs : List Loc} {ls : Array Slot}
    (X : ev_cx G M (d + 1) R s m meth c w0) (O : ev_ok G w0 w locs) (hH : ev_Hr G w T.heap) (hl : lv_has ls M.2.2.1 L) (S : Stand G.1 G.2.1 G.2.2.1 R s m args below meth c T locs (ev_z w - ev_z w0) (ev_u w - ev_u w0))
    {M' : ev_mx} (hcode : ev_code M' ∈ lw_tbl) (hplain : plainFor M'.1 = true) {mk : MethodId} (hnamed : s.methodNamed? M'.1 = some mk) {ig : Instr} (hdg : decode M.2.1 pc = .ok (ig, 3)) (As : List Value)
    (hst : (st.map fun v => v.category).sum + M'.2.2.1 ≤ 28) (hlen : (lg_sl As).length ≤ M'.2.2.1) {P' : ev_r → ev_wd → Prop} (hc : ev_E G M' d 0 (lv_args 0 As) [] w P')
    (kn : ∀ v w', P' (.inl v) w' → ev_z w ≤ ev_z w' → ev_u w ≤ ev_u w' → ev_E G M (d + 1) (pc + 3) L (v.toList ++ st) w' P)
    (kt : ∀ x w', P' (.inr x) w' → ev_z w ≤ ev_z w' → ev_u w ≤ ev_u w' → ev_T G M (d + 1) pc L x w' P) :
    ∃ t, (∀ acts, Steps G.1.tables G.2.2.1 below (doInvoke G.2.2.1 (T.setTop (F0 m pc ls st)) acts mk As.toArray).1 t) ∧ ev_Q G s below w0 P t := by
  obtain ⟨x1, x2, x3, x4, x5, x6, x7, x8, x9, x10, x11, x12, x13, x14, x15⟩ := id X
  obtain ⟨o1, o2, o3, o4, o5⟩ := id O
  obtain ⟨mk', methk, ck, n1, n2, n3, n4, n5, n6, n7, n8, n9⟩ := ev_code_spec (ev_word X hcode (ev_code_good M') args)
  cases hnamed.symm.trans n1
  have hmT : T.vm.method? mk = some methk := by rw [S.warmed.alike.method?]; exact n2
  have hnT : T.methodNamed? M'.1 = some mk := S.named hnamed
  have hpk : T.plainMethod mk := State.plainMethod.of_named hplain hnT hmT
  have hdg' : decode c.code (F0 m pc ls st).pc = .ok (ig, 3) := by rw [x2]; exact hdg
  have hmr : (F0 m pc ls st).monitorRoom = 0 := rfl
  have hR : (39 : Nat) * (d + 1) = 39 * d + 39 := by omega
  obtain ⟨Y, hdo⟩ := S.into (g := F0 m pc ls st) rfl (hl.1.trans x7.symm) hdg' As.toArray (R' := { frames := d, locals := 39 * d, cells := ev_b G + 601024 - ev_z w, slots := 7293034 - ev_u w }) hmT n3 n8 hpk
    (by show d + 1 ≤ R.frames; exact x11)
    (by rw [hmr, n5]; show 2 * 0 + (st.map fun v => v.category).sum + (M'.2.2.1 + 11) + 39 * d ≤ R.locals; omega)
    (by show _ + (ev_b G + 601024 - ev_z w) ≤ R.cells; omega) (by show _ + (7293034 - ev_u w) ≤ R.slots; omega)
  have hW1 : (ev_s0 G).WarmedH (T.calling (F0 m pc ls st) mk As.toArray).vm := State.WarmedH.trans x4 S.warmed
  have cx' : ev_cx G M' d { frames := d, locals := 39 * d, cells := ev_b G + 601024 - ev_z w, slots := 7293034 - ev_u w } (T.calling (F0 m pc ls st) mk As.toArray) mk methk ck w :=
    ⟨x1, n4, hnT, hW1, x5, x6, n5, n7, n8, n6, Nat.le_refl _, Nat.le_refl _, by show _ ≤ (ev_b G + 601024 - ev_z w) + ev_z w; omega, by show _ ≤ (7293034 - ev_u w) + ev_u w; omega, (name_of_methodNamed hnamed n2).1⟩
  obtain ⟨t, h1, r, w1, L1, h2, h3, h4, h5, h6, h7, h8⟩ := hc _ _ mk As.toArray (.java (F0 m pc ls st) :: below) methk ck w T.heap [] _ cx' ⟨fun q hq => (by cases hq), Nat.le_refl _, Nat.le_refl _, o4, o5⟩ hH (lv_entry As hlen) ((T.setTop (F0 m pc ls st)).pushFrame (.java (entryFrame mk As.toArray ck.maxLocals))) rfl (by rw [Nat.sub_self, Nat.sub_self]; exact Y)
  obtain ⟨p1, p2, p3, p4, p5⟩ := id h8
  have h1' : ∀ acts, Steps G.1.tables G.2.2.1 below (doInvoke G.2.2.1 (T.setTop (F0 m pc ls st)) acts mk As.toArray).1 t := by
    intro acts
    rw [hdo acts, n5, lg_entry_eq]
    rw [n5, lg_entry_eq] at h1
    exact ev_weaken (mid := [.java (F0 m pc ls st)]) h1
  have ok1 : ev_ok G w0 w1 (locs ++ L1) := ⟨fun q hq => by
    rcases List.mem_append.mp hq with h | h
    · exact o1 q h
    · exact p1 q h, Nat.le_trans o2 p2, Nat.le_trans o3 p3, p4, p5⟩
  have ec : ev_z w - ev_z w0 + (ev_z w1 - ev_z w) = ev_z w1 - ev_z w0 := by omega
  have es : ev_u w - ev_u w0 + (ev_u w1 - ev_u w) = ev_u w1 - ev_u w0 := by omega
  cases r with
  | inl v =>
    obtain ⟨T', X', hW', -, ht⟩ := S.outOf (g := F0 m pc ls st) rfl hdg' h4 h6 h7
    have hheap : T'.heap = t.heap := by rw [ht]; rfl
    rw [ec, es] at X'
    obtain ⟨t2, k1, k2⟩ := kn v w1 h2 p2 p3 R s m args below meth c w0 T'.heap (locs ++ L1) ls X ok1 (by rw [hheap]; exact h5) hl T' rfl X'
    exact ⟨t2, fun acts => (h1' acts).trans (by rw [ht]; exact k1), k2⟩
  | inr x =>
    obtain ⟨T', X', hW', -, ht⟩ := S.outOfThrown (g := F0 m pc ls st) rfl h4 h6 h7
    have hheap : T'.heap = t.heap := by rw [ht]; rfl
    rw [ec, es] at X'
    obtain ⟨t2, k1, k2⟩ := kt x w1 h2 p2 p3 R s m args below meth c w0 T' (locs ++ L1) ls st X ok1 (by rw [hheap]; exact h5) hl X'
    exact ⟨t2, fun acts => (h1' acts).trans (by rw [ht]; exact k1), k2⟩
/-- what stands fast of a callee: its code, its name, how many it takes -/
def ev_ms (M' : ev_mx) (n : Nat) : Prop := ev_code M' ∈ lw_tbl ∧ plainFor M'.1 = true ∧ (M'.1.cls ≠ "java/lang/invoke/MethodHandle" ∧ M'.1.cls ≠ "java/lang/invoke/VarHandle") ∧ (parseMethodDescriptor M'.1.desc).map (fun d => d.parameters.length) = some n
/-- the pool's entry is a static method, an instance method (by which class's objects), a constructor; own or a nest mate's -/
def ev_Is (own : String) (index : Nat) (M' : ev_mx) : Prop := (Cond.methodLink own index M'.1 ∈ lw_tbl ∨ ∃ host, Cond.methodLinkNest own index M'.1 host ∈ lw_tbl) ∧ Cond.static M'.1 ∈ lw_tbl ∧ Cond.initialized M'.1.cls ∈ lw_tbl
def ev_Iv (own : String) (index c : Nat) (M' : ev_mx) : Prop := ∃ q : vw_C, nm_cl[c]? = some q ∧ (Cond.methodLink own index M'.1 ∈ lw_tbl ∨ ∃ host, Cond.methodLinkNest own index M'.1 host ∈ lw_tbl) ∧ Cond.instanceMethod M'.1 ∈ lw_tbl ∧ Cond.selects q.1 M'.1 M'.1 ∈ lw_tbl
def ev_Ii (own : String) (index : Nat) (M' : ev_mx) : Prop := (Cond.methodLink own index M'.1 ∈ lw_tbl ∨ ∃ host, Cond.methodLinkNest own index M'.1 host ∈ lw_tbl) ∧ Cond.instanceMethod M'.1 ∈ lw_tbl ∧ M'.1.name = "<init>" ∧ M'.2.2.2.1 = none ∧ M'.2.2.2.2 = []
theorem ev_params {M' : ev_mx} {n : Nat} {sig : MethodDescriptor} (h : (parseMethodDescriptor M'.1.desc).map (fun d => d.parameters.length) = some n) (hs : parseMethodDescriptor M'.1.desc = some sig) : n = sig.parameters.length := by
  rw [hs] at h
  exact (Option.some.inj h).symm
theorem ev_calls {index n : Nat} {M' : ev_mx} (As : List Value) {P' : ev_r → ev_wd → Prop} (hd : ev_d M.2.1 pc (.invokestatic index) 3 pc') (hm : ev_ms M' n) (hi : ev_Is M.1.cls index M') (hn : As.length = n) (hst : (st.map fun v => v.category).sum + M'.2.2.1 ≤ 28) (hlen : (lg_sl As).length ≤ M'.2.2.1)
    (hc : ev_E G M' d 0 (lv_args 0 As) [] w P') (kn : ∀ v w', P' (.inl v) w' → ev_z w ≤ ev_z w' → ev_u w ≤ ev_u w' → ev_E G M (d + 1) pc' L (v.toList ++ st) w' P) (kt : ∀ x w', P' (.inr x) w' → ev_z w ≤ ev_z w' → ev_u w ≤ ev_u w' → ev_T G M (d + 1) pc L x w' P) : ev_E G M (d + 1) pc L (As.reverse ++ st) w P := by
  obtain ⟨hdg, rfl⟩ := hd
  obtain ⟨hcode, hplain, hy, hpar⟩ := hm
  obtain ⟨hlk, hstat, hinit⟩ := hi
  intro R s m args below meth c w0 H locs ls X O hH hl T hT S
  obtain ⟨mk, methk, ck, n1, n2, n3, n4, n5, n6, n7, n8, n9⟩ := ev_code_spec (ev_word X hcode (ev_code_good M') args)
  obtain ⟨kP, hkP, -⟩ := className_of_methodNamed n1
  have hinitP : kP.init = .initialized := Cond.initialized_spec (findClass_of_methodNamed n1) hkP (ev_word X hinit rfl args)
  have hstatic : methk.isStatic = true := Cond.static_spec n1 n2 (ev_word X hstat rfl args)
  have hdg' : decode c.code (F0 m pc ls (As.reverse ++ st)).pc = .ok (.invokestatic index, 3) := by rw [X.2.1]; exact hdg
  have hln : As.length = methk.sig.parameters.length := hn.trans (ev_params hpar n9)
  have hstep : ∃ vm', Stand G.1 G.2.1 G.2.2.1 R s m args below meth c (T.setVm vm') locs (ev_z w - ev_z w0) (ev_u w - ev_u w0) ∧ ∀ target, (∀ acts, Steps G.1.tables G.2.2.1 below (doInvoke G.2.2.1 ((T.setVm vm').setTop { F0 m pc ls (As.reverse ++ st) with stack := st }) acts mk As.toArray).1 target) → Steps G.1.tables G.2.2.1 below (T.setTop (F0 m pc ls (As.reverse ++ st))) target := by
    rcases hlk with h | ⟨host, h⟩
    · exact S.invokestatic X.1 (ev_own X) (ev_word X h rfl args) n1 n2 hstatic hkP hinitP hy rfl hln rfl hdg'
    · exact S.invokestaticNest X.1 (ev_own X) (ev_nest X h args) n1 n2 hstatic hkP hinitP hy rfl hln rfl hdg'
  obtain ⟨vm', S', hs⟩ := hstep
  obtain ⟨t, t1, t2⟩ := ev_through X O (T := T.setVm vm') (by show ev_Hr G w T.heap; rw [hT]; exact hH) hl S' hcode hplain n1 hdg As hst hlen hc kn kt
  exact ⟨t, hs t t1, t2⟩
theorem ev_callv {index c b n : Nat} {M' : ev_mx} (As : List Value) {P' : ev_r → ev_wd → Prop} (hd : ev_d M.2.1 pc (.invokevirtual index) 3 pc') (hm : ev_ms M' n) (hi : ev_Iv M.1.cls index c M') (hb : ev_b G ≤ b ∧ b < ev_z w) (ht : ev_g w b = c) (hn : As.length = n) (hst : (st.map fun v => v.category).sum + M'.2.2.1 ≤ 28) (hlen : (lg_sl (.ref b :: As)).length ≤ M'.2.2.1)
    (hc : ev_E G M' d 0 (lv_args 0 (.ref b :: As)) [] w P') (kn : ∀ v w', P' (.inl v) w' → ev_z w ≤ ev_z w' → ev_u w ≤ ev_u w' → ev_E G M (d + 1) pc' L (v.toList ++ st) w' P) (kt : ∀ x w', P' (.inr x) w' → ev_z w ≤ ev_z w' → ev_u w ≤ ev_u w' → ev_T G M (d + 1) pc L x w' P) : ev_E G M (d + 1) pc L (As.reverse ++ .ref b :: st) w P := by
  obtain ⟨hdg, rfl⟩ := hd
  obtain ⟨hcode, hplain, hy, hpar⟩ := hm
  obtain ⟨q, hq, hlk, hinst, hsel⟩ := hi
  intro R s m args below meth c' w0 H locs ls X O hH hl T hT S
  obtain ⟨mk, methk, ck, n1, n2, n3, n4, n5, n6, n7, n8, n9⟩ := ev_code_spec (ev_word X hcode (ev_code_good M') args)
  obtain ⟨mk2, methM, m1, m2, hstM, habM⟩ := Cond.instanceMethod_spec (ev_word X hinst rfl args)
  cases n1.symm.trans m1
  cases n2.symm.trans m2
  obtain ⟨cellB, g1, g2, g3, -⟩ := hH.obj hb ht hq
  have hcls : s.vm.findClass q.1 = some cellB.cls := by rw [g2]; exact ((ev_Ks X).1 c q hq).2.1
  obtain ⟨c2, r2, m2, q1, q2, q3, q4, kP, hkP, hkPi⟩ := Cond.selects_spec (ev_word X hsel rfl args)
  cases hcls.symm.trans q1
  cases (State.methodFound?_of_named n1 hy).symm.trans q2
  cases n1.symm.trans q3
  have hselP : selectMethod G.2.2.1.platform s.vm cellB.cls mk = .method mk := by rw [Launch.admits_selectMethod S.admits]; exact q4
  have hdg' : decode c'.code (F0 m pc ls (As.reverse ++ .ref b :: st)).pc = .ok (.invokevirtual index, 3) := by rw [X.2.1]; exact hdg
  have hln : As.length = methk.sig.parameters.length := hn.trans (ev_params hpar n9)
  have hcell : T.heap[b]? = some cellB := by rw [hT]; exact g1
  have hobj : ∀ z, cellB.vm ≠ .statics z := fun z h => by rw [g3] at h; cases h
  have hstep : ∃ vm', Stand G.1 G.2.1 G.2.2.1 R s m args below meth c' (T.setVm vm') locs (ev_z w - ev_z w0) (ev_u w - ev_u w0) ∧ ∀ target, (∀ acts, Steps G.1.tables G.2.2.1 below (doInvoke G.2.2.1 ((T.setVm vm').setTop { F0 m pc ls (As.reverse ++ .ref b :: st) with stack := st }) acts mk (Value.ref b :: As).toArray).1 target) → Steps G.1.tables G.2.2.1 below (T.setTop (F0 m pc ls (As.reverse ++ .ref b :: st))) target := by
    rcases hlk with h | ⟨host, h⟩
    · exact S.invokevirtual X.1 (ev_own X) (ev_word X h rfl args) n1 n2 hstM hkP hkPi hy hcell hobj hselP n2 habM hkP hkPi rfl hln rfl hdg'
    · exact S.invokevirtualNest X.1 (ev_own X) (ev_nest X h args) n1 n2 hstM hkP hkPi hy hcell hobj hselP n2 habM hkP hkPi rfl hln rfl hdg'
  obtain ⟨vm', S', hs⟩ := hstep
  obtain ⟨t, t1, t2⟩ := ev_through X O (T := T.setVm vm') (by show ev_Hr G w T.heap; rw [hT]; exact hH) hl S' hcode hplain n1 hdg (.ref b :: As) hst hlen hc kn kt
  exact ⟨t, hs t t1, t2⟩
theorem ev_calli {index b n : Nat} {M' : ev_mx} (As : List Value) {P' : ev_r → ev_wd → Prop} (hd : ev_d M.2.1 pc (.invokespecial index) 3 pc') (hm : ev_ms M' n) (hi : ev_Ii M.1.cls index M') (hn : As.length = n) (hst : (st.map fun v => v.category).sum + M'.2.2.1 ≤ 28) (hlen : (lg_sl (.ref b :: As)).length ≤ M'.2.2.1)
    (hc : ev_E G M' d 0 (lv_args 0 (.ref b :: As)) [] w P') (kn : ∀ v w', P' (.inl v) w' → ev_z w ≤ ev_z w' → ev_u w ≤ ev_u w' → ev_E G M (d + 1) pc' L (v.toList ++ st) w' P) (kt : ∀ x w', P' (.inr x) w' → ev_z w ≤ ev_z w' → ev_u w ≤ ev_u w' → ev_T G M (d + 1) pc L x w' P) : ev_E G M (d + 1) pc L (As.reverse ++ .ref b :: st) w P := by
  obtain ⟨hdg, rfl⟩ := hd
  obtain ⟨hcode, hplain, hy, hpar⟩ := hm
  obtain ⟨hlk, hinst, hinitn, hvoid, hnoh⟩ := hi
  intro R s m args below meth c' w0 H locs ls X O hH hl T hT S
  obtain ⟨mk, methk, ck, n1, n2, n3, n4, n5, n6, n7, n8, n9⟩ := ev_code_spec (ev_word X hcode (ev_code_good M') args)
  have hcw : (Cond.code M'.1 M'.2.1 M'.2.2.1 none).before args s = true := by
    have h := ev_word X hcode (ev_code_good M') args
    unfold ev_code at h
    rw [hnoh, hvoid] at h
    exact h
  have hdg' : decode c'.code (F0 m pc ls (As.reverse ++ .ref b :: st)).pc = .ok (.invokespecial index, 3) := by rw [X.2.1]; exact hdg
  have hln : ∀ sig, parseMethodDescriptor M'.1.desc = some sig → As.length = sig.parameters.length := fun sig h => hn.trans (ev_params hpar h)
  have hpl : G.2.2.1.platform.magicAccessors = ({} : Platform).magicAccessors := by rw [S.admits.platform]
  have hstep : ∃ vm', Stand G.1 G.2.1 G.2.2.1 R s m args below meth c' (T.setVm vm') locs (ev_z w - ev_z w0) (ev_u w - ev_u w0) ∧ ∀ target, (∀ acts, Steps G.1.tables G.2.2.1 below (doInvoke G.2.2.1 ((T.setVm vm').setTop { F0 m pc ls (As.reverse ++ .ref b :: st) with stack := st }) acts mk (Value.ref b :: As).toArray).1 target) → Steps G.1.tables G.2.2.1 below (T.setTop (F0 m pc ls (As.reverse ++ .ref b :: st))) target := by
    rcases hlk with h | ⟨host, h⟩
    · obtain ⟨mk2, -, -, -, vm₁, hn2, -, -, -, -, -, -, -, hW₁, hs⟩ := Steps.initColdArgs (e := G.2.2.1) S.here X.1 S.warmed hpl (ev_own X) hinitn hy (ev_word X h rfl args) (ev_word X hinst rfl args) hcw (f := F0 m pc ls (As.reverse ++ .ref b :: st)) rfl hln rfl hdg'
      cases n1.symm.trans hn2
      exact ⟨vm₁, S.noted hW₁, hs⟩
    · obtain ⟨mk2, -, -, -, vm₁, hn2, -, -, -, -, -, -, -, hW₁, hs⟩ := Steps.initColdArgsNest (e := G.2.2.1) S.here X.1 S.warmed hpl (ev_own X) hinitn hy (ev_nest X h args) (ev_word X hinst rfl args) hcw (f := F0 m pc ls (As.reverse ++ .ref b :: st)) rfl hln rfl hdg'
      cases n1.symm.trans hn2
      exact ⟨vm₁, S.noted hW₁, hs⟩
  obtain ⟨vm', S', hs⟩ := hstep
  obtain ⟨t, t1, t2⟩ := ev_through X O (T := T.setVm vm') (by show ev_Hr G w T.heap; rw [hT]; exact hH) hl S' hcode hplain n1 hdg (.ref b :: As) hst hlen hc kn kt
  exact ⟨t, hs t t1, t2⟩
/-- Object's constructor -/
theorem ev_obji {index a : Nat} (hd : ev_d M.2.1 pc (.invokespecial index) 3 pc') (h1 : Cond.methodLink M.1.cls index Lib.objectInit ∈ lw_tbl) (h2 : Cond.instanceMethod Lib.objectInit ∈ lw_tbl) (h3 : Cond.code Lib.objectInit ⟨#[0xb1]⟩ 1 none ∈ lw_tbl) (hst : (st.map fun v => v.category).sum ≤ 27) (kk : ev_E G M (d + 1) pc' L st w P) : ev_E G M (d + 1) pc L (.ref a :: st) w P := by
  obtain ⟨hdg, rfl⟩ := hd
  intro R s m args below meth c' w0 H locs ls X O hH hl
  obtain ⟨x1, x2, x3, x4, x5, x6, x7, x8, x9, x10, x11, x12, x13, x14, x15⟩ := id X
  have hmr : (F0 m pc ls (.ref a :: st)).monitorRoom = 0 := rfl
  exact W.objInit x1 x2 (ev_own X) (ev_word X h1 rfl _) (ev_word X h2 rfl _) (ev_word X h3 rfl _) rfl (hl.1.trans x7.symm) rfl hdg (by omega) (by rw [hmr]; omega) (kk R s m args below meth c' w0 H locs ls X O hH hl)
/-- a throw that no handler of the method covers leaves it -/
theorem ev_leave {x : Nat} (hout : ∀ h ∈ M.2.2.2.2, (decide (h.1 ≤ pc) && decide (pc < h.2.1)) = false) (h : P (.inr x) w) : ev_T G M d pc L x w P := by
  intro R s m args below meth c w0 T locs ls st X O hH hl S
  obtain ⟨x1, x2, x3, x4, x5, x6, x7, x8, x9, x10, x11⟩ := id X
  have hout' : ∀ y ∈ c.exceptionTable.toList, covers y (F0 m pc ls st).pc = false := by
    intro y hy
    have := hout (y.startPc, y.endPc, y.handlerPc, y.catchType) (by rw [← x10]; exact List.mem_map.mpr ⟨y, hy, rfl⟩)
    exact this
  obtain ⟨a1, a2, a3, a4, a5⟩ := S.leaveThrown x (g := F0 m pc ls st) rfl rfl rfl hout' x9
  exact ⟨_, a1, .inr x, w, locs, h, a2, a3, hH, a4, a5, O⟩
theorem ev_athrow {x : Nat} (hd : ev_d M.2.1 pc .athrow 1 pc') (hout : ∀ h ∈ M.2.2.2.2, (decide (h.1 ≤ pc) && decide (pc < h.2.1)) = false) (h : P (.inr x) w) : ev_E G M d pc L (.ref x :: st) w P := by
  obtain ⟨hdg, -⟩ := hd
  intro R s m args below meth c w0 H locs ls X O hH hl T hT S
  obtain ⟨x1, x2, x3, x4, x5, x6, x7, x8, x9, x10, x11⟩ := id X
  have hout' : ∀ y ∈ c.exceptionTable.toList, covers y (F0 m pc ls (.ref x :: st)).pc = false := by
    intro y hy
    have := hout (y.startPc, y.endPc, y.handlerPc, y.catchType) (by rw [← x10]; exact List.mem_map.mpr ⟨y, hy, rfl⟩)
    exact this
  obtain ⟨a1, a2, a3, a4, a5⟩ := S.athrowLeaves x1 (g := F0 m pc ls (.ref x :: st)) rfl rfl rfl hout' rfl (by rw [x2]; exact hdg) x9
  exact ⟨_, a1, .inr x, w, locs, h, a2, a3, by show ev_Hr G w T.heap; rw [hT]; exact hH, a4, a5, O⟩
end EvC
end
section
/-! facts of the tables (printed) -/
theorem ck_0 : ev_clok 0 ("ThreeLinkPair", nm_T0, 2) := ⟨nm_all ((List.forall_mem_cons.mpr ⟨sg_1_4 _ (List.mem_of_getElem? (i := 9) rfl), (List.forall_mem_cons.mpr ⟨sg_1_4 _ (List.mem_of_getElem? (i := 11) rfl), (fun _ h => absurd h List.not_mem_nil)⟩)⟩)), by decide +kernel, by decide +kernel, sg_0_1 _ (List.mem_of_getElem? (i := 10) rfl), sg_0_0 _ (List.mem_of_getElem? (i := 1) rfl)⟩
theorem ck_1 : ev_clok 1 ("ThreeLinkPair$End", nm_T1, 7) := ⟨nm_all ((List.forall_mem_cons.mpr ⟨sg_1_2 _ (List.mem_of_getElem? (i := 8) rfl), (List.forall_mem_cons.mpr ⟨sg_1_2 _ (List.mem_of_getElem? (i := 10) rfl), (List.forall_mem_cons.mpr ⟨sg_1_2 _ (List.mem_of_getElem? (i := 12) rfl), (List.forall_mem_cons.mpr ⟨sg_1_2 _ (List.mem_of_getElem? (i := 14) rfl), (List.forall_mem_cons.mpr ⟨sg_1_3 _ (List.mem_of_getElem? (i := 0) rfl), (List.forall_mem_cons.mpr ⟨sg_1_3 _ (List.mem_of_getElem? (i := 2) rfl), (List.forall_mem_cons.mpr ⟨sg_1_3 _ (List.mem_of_getElem? (i := 4) rfl), (fun _ h => absurd h List.not_mem_nil)⟩)⟩)⟩)⟩)⟩)⟩)⟩)), by decide +kernel, by decide +kernel, sg_0_2 _ (List.mem_of_getElem? (i := 3) rfl), sg_0_0 _ (List.mem_of_getElem? (i := 2) rfl)⟩
theorem ck_2 : ev_clok 2 ("ThreeLinkPair$Side", nm_T2, 20) := ⟨nm_all ((List.forall_mem_cons.mpr ⟨sg_0_11 _ (List.mem_of_getElem? (i := 0) rfl), (List.forall_mem_cons.mpr ⟨sg_0_11 _ (List.mem_of_getElem? (i := 2) rfl), (List.forall_mem_cons.mpr ⟨sg_0_11 _ (List.mem_of_getElem? (i := 4) rfl), (List.forall_mem_cons.mpr ⟨sg_0_11 _ (List.mem_of_getElem? (i := 6) rfl), (List.forall_mem_cons.mpr ⟨sg_0_11 _ (List.mem_of_getElem? (i := 8) rfl), (List.forall_mem_cons.mpr ⟨sg_0_11 _ (List.mem_of_getElem? (i := 10) rfl), (List.forall_mem_cons.mpr ⟨sg_0_11 _ (List.mem_of_getElem? (i := 12) rfl), (List.forall_mem_cons.mpr ⟨sg_0_11 _ (List.mem_of_getElem? (i := 14) rfl), (List.forall_mem_cons.mpr ⟨sg_0_12 _ (List.mem_of_getElem? (i := 0) rfl), (List.forall_mem_cons.mpr ⟨sg_0_12 _ (List.mem_of_getElem? (i := 2) rfl), (List.forall_mem_cons.mpr ⟨sg_0_12 _ (List.mem_of_getElem? (i := 4) rfl), (List.forall_mem_cons.mpr ⟨sg_0_12 _ (List.mem_of_getElem? (i := 6) rfl), (List.forall_mem_cons.mpr ⟨sg_0_12 _ (List.mem_of_getElem? (i := 8) rfl), (List.forall_mem_cons.mpr ⟨sg_0_12 _ (List.mem_of_getElem? (i := 10) rfl), (List.forall_mem_cons.mpr ⟨sg_0_12 _ (List.mem_of_getElem? (i := 12) rfl), (List.forall_mem_cons.mpr ⟨sg_0_12 _ (List.mem_of_getElem? (i := 14) rfl), (List.forall_mem_cons.mpr ⟨sg_0_13 _ (List.mem_of_getElem? (i := 0) rfl), (List.forall_mem_cons.mpr ⟨sg_0_13 _ (List.mem_of_getElem? (i := 2) rfl), (List.forall_mem_cons.mpr ⟨sg_0_13 _ (List.mem_of_getElem? (i := 4) rfl), (List.forall_mem_cons.mpr ⟨sg_0_13 _ (List.mem_of_getElem? (i := 6) rfl), (fun _ h => absurd h List.not_mem_nil)⟩)⟩)⟩)⟩)⟩)⟩)⟩)⟩)⟩)⟩)⟩)⟩)⟩)⟩)⟩)⟩)⟩)⟩)⟩)⟩)), by decide +kernel, by decide +kernel, sg_0_2 _ (List.mem_of_getElem? (i := 12) rfl), sg_0_0 _ (List.mem_of_getElem? (i := 3) rfl)⟩
theorem ck_3 : ev_clok 3 ("ThreeLinkPair$Changeover", nm_T3, 10) := ⟨nm_all ((List.forall_mem_cons.mpr ⟨sg_1_0 _ (List.mem_of_getElem? (i := 4) rfl), (List.forall_mem_cons.mpr ⟨sg_1_0 _ (List.mem_of_getElem? (i := 6) rfl), (List.forall_mem_cons.mpr ⟨sg_1_0 _ (List.mem_of_getElem? (i := 8) rfl), (List.forall_mem_cons.mpr ⟨sg_1_0 _ (List.mem_of_getElem? (i := 10) rfl), (List.forall_mem_cons.mpr ⟨sg_1_0 _ (List.mem_of_getElem? (i := 12) rfl), (List.forall_mem_cons.mpr ⟨sg_1_0 _ (List.mem_of_getElem? (i := 14) rfl), (List.forall_mem_cons.mpr ⟨sg_1_1 _ (List.mem_of_getElem? (i := 0) rfl), (List.forall_mem_cons.mpr ⟨sg_1_1 _ (List.mem_of_getElem? (i := 2) rfl), (List.forall_mem_cons.mpr ⟨sg_1_1 _ (List.mem_of_getElem? (i := 4) rfl), (List.forall_mem_cons.mpr ⟨sg_1_1 _ (List.mem_of_getElem? (i := 6) rfl), (fun _ h => absurd h List.not_mem_nil)⟩)⟩)⟩)⟩)⟩)⟩)⟩)⟩)⟩)⟩)), by decide +kernel, by decide +kernel, sg_0_13 _ (List.mem_of_getElem? (i := 9) rfl), sg_0_0 _ (List.mem_of_getElem? (i := 10) rfl)⟩
theorem ck_4 : ev_clok 4 ("ThreeLinkPair$Fault", nm_T4, 2) := ⟨nm_all ((List.forall_mem_cons.mpr ⟨sg_1_4 _ (List.mem_of_getElem? (i := 2) rfl), (List.forall_mem_cons.mpr ⟨sg_1_4 _ (List.mem_of_getElem? (i := 4) rfl), (fun _ h => absurd h List.not_mem_nil)⟩)⟩)), by decide +kernel, by decide +kernel, sg_1_3 _ (List.mem_of_getElem? (i := 9) rfl), sg_0_0 _ (List.mem_of_getElem? (i := 11) rfl)⟩
theorem ck_5 : ev_clok 5 ("ThreeLinkPair$Memory", nm_T5, 2) := ⟨nm_all ((List.forall_mem_cons.mpr ⟨sg_0_5 _ (List.mem_of_getElem? (i := 6) rfl), (List.forall_mem_cons.mpr ⟨sg_0_5 _ (List.mem_of_getElem? (i := 8) rfl), (fun _ h => absurd h List.not_mem_nil)⟩)⟩)), by decide +kernel, by decide +kernel, sg_0_4 _ (List.mem_of_getElem? (i := 12) rfl), sg_0_0 _ (List.mem_of_getElem? (i := 7) rfl)⟩
theorem ck_6 : ev_clok 6 ("ThreeLinkPair$Message", nm_T6, 4) := ⟨nm_all ((List.forall_mem_cons.mpr ⟨sg_2_1 _ (List.mem_of_getElem? (i := 15) rfl), (List.forall_mem_cons.mpr ⟨sg_2_2 _ (List.mem_of_getElem? (i := 1) rfl), (List.forall_mem_cons.mpr ⟨sg_2_2 _ (List.mem_of_getElem? (i := 3) rfl), (List.forall_mem_cons.mpr ⟨sg_2_2 _ (List.mem_of_getElem? (i := 5) rfl), (fun _ h => absurd h List.not_mem_nil)⟩)⟩)⟩)⟩)), by decide +kernel, by decide +kernel, sg_2_0 _ (List.mem_of_getElem? (i := 15) rfl), sg_0_1 _ (List.mem_of_getElem? (i := 7) rfl)⟩
theorem ck_7 : ev_clok 7 ("ThreeLinkPair$Unit", nm_T7, 7) := ⟨nm_all ((List.forall_mem_cons.mpr ⟨sg_0_6 _ (List.mem_of_getElem? (i := 15) rfl), (List.forall_mem_cons.mpr ⟨sg_0_7 _ (List.mem_of_getElem? (i := 1) rfl), (List.forall_mem_cons.mpr ⟨sg_0_7 _ (List.mem_of_getElem? (i := 3) rfl), (List.forall_mem_cons.mpr ⟨sg_0_7 _ (List.mem_of_getElem? (i := 5) rfl), (List.forall_mem_cons.mpr ⟨sg_0_7 _ (List.mem_of_getElem? (i := 7) rfl), (List.forall_mem_cons.mpr ⟨sg_0_7 _ (List.mem_of_getElem? (i := 9) rfl), (List.forall_mem_cons.mpr ⟨sg_0_7 _ (List.mem_of_getElem? (i := 11) rfl), (fun _ h => absurd h List.not_mem_nil)⟩)⟩)⟩)⟩)⟩)⟩)⟩)), by decide +kernel, by decide +kernel, sg_0_5 _ (List.mem_of_getElem? (i := 13) rfl), sg_0_0 _ (List.mem_of_getElem? (i := 9) rfl)⟩
theorem ck_8 : ev_clok 8 ("ThreeLinkPairModel", nm_T8, 51) := ⟨nm_all ((List.forall_mem_cons.mpr ⟨sg_3_12 _ (List.mem_of_getElem? (i := 3) rfl), (List.forall_mem_cons.mpr ⟨sg_3_12 _ (List.mem_of_getElem? (i := 5) rfl), (List.forall_mem_cons.mpr ⟨sg_3_12 _ (List.mem_of_getElem? (i := 7) rfl), (List.forall_mem_cons.mpr ⟨sg_3_12 _ (List.mem_of_getElem? (i := 9) rfl), (List.forall_mem_cons.mpr ⟨sg_3_12 _ (List.mem_of_getElem? (i := 11) rfl), (List.forall_mem_cons.mpr ⟨sg_3_12 _ (List.mem_of_getElem? (i := 13) rfl), (List.forall_mem_cons.mpr ⟨sg_3_12 _ (List.mem_of_getElem? (i := 15) rfl), (List.forall_mem_cons.mpr ⟨sg_3_13 _ (List.mem_of_getElem? (i := 1) rfl), (List.forall_mem_cons.mpr ⟨sg_3_13 _ (List.mem_of_getElem? (i := 3) rfl), (List.forall_mem_cons.mpr ⟨sg_3_13 _ (List.mem_of_getElem? (i := 5) rfl), (List.forall_mem_cons.mpr ⟨sg_3_13 _ (List.mem_of_getElem? (i := 7) rfl), (List.forall_mem_cons.mpr ⟨sg_3_13 _ (List.mem_of_getElem? (i := 9) rfl), (List.forall_mem_cons.mpr ⟨sg_3_13 _ (List.mem_of_getElem? (i := 11) rfl), (List.forall_mem_cons.mpr ⟨sg_3_13 _ (List.mem_of_getElem? (i := 13) rfl), (List.forall_mem_cons.mpr ⟨sg_3_13 _ (List.mem_of_getElem? (i := 15) rfl), (List.forall_mem_cons.mpr ⟨sg_3_14 _ (List.mem_of_getElem? (i := 1) rfl), (List.forall_mem_cons.mpr ⟨sg_3_14 _ (List.mem_of_getElem? (i := 3) rfl), (List.forall_mem_cons.mpr ⟨sg_3_14 _ (List.mem_of_getElem? (i := 5) rfl), (List.forall_mem_cons.mpr ⟨sg_3_14 _ (List.mem_of_getElem? (i := 7) rfl), (List.forall_mem_cons.mpr ⟨sg_3_14 _ (List.mem_of_getElem? (i := 9) rfl), (List.forall_mem_cons.mpr ⟨sg_3_14 _ (List.mem_of_getElem? (i := 11) rfl), (List.forall_mem_cons.mpr ⟨sg_3_14 _ (List.mem_of_getElem? (i := 13) rfl), (List.forall_mem_cons.mpr ⟨sg_3_14 _ (List.mem_of_getElem? (i := 15) rfl), (List.forall_mem_cons.mpr ⟨sg_4_0 _ (List.mem_of_getElem? (i := 1) rfl), (List.forall_mem_cons.mpr ⟨sg_4_0 _ (List.mem_of_getElem? (i := 3) rfl), (List.forall_mem_cons.mpr ⟨sg_4_0 _ (List.mem_of_getElem? (i := 5) rfl), (List.forall_mem_cons.mpr ⟨sg_4_0 _ (List.mem_of_getElem? (i := 7) rfl), (List.forall_mem_cons.mpr ⟨sg_4_0 _ (List.mem_of_getElem? (i := 9) rfl), (List.forall_mem_cons.mpr ⟨sg_4_0 _ (List.mem_of_getElem? (i := 11) rfl), (List.forall_mem_cons.mpr ⟨sg_4_0 _ (List.mem_of_getElem? (i := 13) rfl), (List.forall_mem_cons.mpr ⟨sg_4_0 _ (List.mem_of_getElem? (i := 15) rfl), (List.forall_mem_cons.mpr ⟨sg_4_1 _ (List.mem_of_getElem? (i := 1) rfl), (List.forall_mem_cons.mpr ⟨sg_4_1 _ (List.mem_of_getElem? (i := 3) rfl), (List.forall_mem_cons.mpr ⟨sg_4_1 _ (List.mem_of_getElem? (i := 5) rfl), (List.forall_mem_cons.mpr ⟨sg_4_1 _ (List.mem_of_getElem? (i := 7) rfl), (List.forall_mem_cons.mpr ⟨sg_4_1 _ (List.mem_of_getElem? (i := 9) rfl), (List.forall_mem_cons.mpr ⟨sg_4_1 _ (List.mem_of_getElem? (i := 11) rfl), (List.forall_mem_cons.mpr ⟨sg_4_1 _ (List.mem_of_getElem? (i := 13) rfl), (List.forall_mem_cons.mpr ⟨sg_4_1 _ (List.mem_of_getElem? (i := 15) rfl), (List.forall_mem_cons.mpr ⟨sg_4_2 _ (List.mem_of_getElem? (i := 1) rfl), (List.forall_mem_cons.mpr ⟨sg_4_2 _ (List.mem_of_getElem? (i := 3) rfl), (List.forall_mem_cons.mpr ⟨sg_4_2 _ (List.mem_of_getElem? (i := 5) rfl), (List.forall_mem_cons.mpr ⟨sg_4_2 _ (List.mem_of_getElem? (i := 7) rfl), (List.forall_mem_cons.mpr ⟨sg_4_2 _ (List.mem_of_getElem? (i := 9) rfl), (List.forall_mem_cons.mpr ⟨sg_4_2 _ (List.mem_of_getElem? (i := 11) rfl), (List.forall_mem_cons.mpr ⟨sg_4_2 _ (List.mem_of_getElem? (i := 13) rfl), (List.forall_mem_cons.mpr ⟨sg_4_2 _ (List.mem_of_getElem? (i := 15) rfl), (List.forall_mem_cons.mpr ⟨sg_4_3 _ (List.mem_of_getElem? (i := 1) rfl), (List.forall_mem_cons.mpr ⟨sg_4_3 _ (List.mem_of_getElem? (i := 3) rfl), (List.forall_mem_cons.mpr ⟨sg_4_3 _ (List.mem_of_getElem? (i := 5) rfl), (List.forall_mem_cons.mpr ⟨sg_4_3 _ (List.mem_of_getElem? (i := 7) rfl), (fun _ h => absurd h List.not_mem_nil)⟩)⟩)⟩)⟩)⟩)⟩)⟩)⟩)⟩)⟩)⟩)⟩)⟩)⟩)⟩)⟩)⟩)⟩)⟩)⟩)⟩)⟩)⟩)⟩)⟩)⟩)⟩)⟩)⟩)⟩)⟩)⟩)⟩)⟩)⟩)⟩)⟩)⟩)⟩)⟩)⟩)⟩)⟩)⟩)⟩)⟩)⟩)⟩)⟩)⟩)⟩)), by decide +kernel, by decide +kernel, sg_3_7 _ (List.mem_of_getElem? (i := 11) rfl), sg_0_0 _ (List.mem_of_getElem? (i := 12) rfl)⟩
theorem ck_9 : ev_clok 9 ("java/util/ArrayList", nm_T9, 3) := ⟨nm_all ((List.forall_mem_cons.mpr ⟨sg_0_4 _ (List.mem_of_getElem? (i := 8) rfl), (List.forall_mem_cons.mpr ⟨sg_0_4 _ (List.mem_of_getElem? (i := 4) rfl), (List.forall_mem_cons.mpr ⟨sg_0_4 _ (List.mem_of_getElem? (i := 6) rfl), (fun _ h => absurd h List.not_mem_nil)⟩)⟩)⟩)), by decide +kernel, by decide +kernel, sg_0_3 _ (List.mem_of_getElem? (i := 2) rfl), sg_0_0 _ (List.mem_of_getElem? (i := 6) rfl)⟩
theorem ck_10 : ev_clok 10 ("java/lang/IndexOutOfBoundsException", nm_T10, 6) := ⟨nm_all ((List.forall_mem_cons.mpr ⟨sg_2_10 _ (List.mem_of_getElem? (i := 12) rfl), (List.forall_mem_cons.mpr ⟨sg_2_10 _ (List.mem_of_getElem? (i := 14) rfl), (List.forall_mem_cons.mpr ⟨sg_2_11 _ (List.mem_of_getElem? (i := 0) rfl), (List.forall_mem_cons.mpr ⟨sg_2_11 _ (List.mem_of_getElem? (i := 2) rfl), (List.forall_mem_cons.mpr ⟨sg_2_11 _ (List.mem_of_getElem? (i := 4) rfl), (List.forall_mem_cons.mpr ⟨sg_2_14 _ (List.mem_of_getElem? (i := 0) rfl), (fun _ h => absurd h List.not_mem_nil)⟩)⟩)⟩)⟩)⟩)⟩)), by decide +kernel, by decide +kernel, sg_2_10 _ (List.mem_of_getElem? (i := 2) rfl), sg_0_1 _ (List.mem_of_getElem? (i := 0) rfl)⟩
theorem ck_11 : ev_clok 11 ("java/lang/IllegalArgumentException", nm_T11, 6) := ⟨nm_all ((List.forall_mem_cons.mpr ⟨sg_3_0 _ (List.mem_of_getElem? (i := 15) rfl), (List.forall_mem_cons.mpr ⟨sg_3_1 _ (List.mem_of_getElem? (i := 0) rfl), (List.forall_mem_cons.mpr ⟨sg_3_1 _ (List.mem_of_getElem? (i := 1) rfl), (List.forall_mem_cons.mpr ⟨sg_3_1 _ (List.mem_of_getElem? (i := 2) rfl), (List.forall_mem_cons.mpr ⟨sg_3_1 _ (List.mem_of_getElem? (i := 3) rfl), (List.forall_mem_cons.mpr ⟨sg_3_1 _ (List.mem_of_getElem? (i := 9) rfl), (fun _ h => absurd h List.not_mem_nil)⟩)⟩)⟩)⟩)⟩)⟩)), by decide +kernel, by decide +kernel, sg_3_0 _ (List.mem_of_getElem? (i := 12) rfl), sg_0_1 _ (List.mem_of_getElem? (i := 6) rfl)⟩
theorem ck_12 : ev_clok 12 ("java/util/NoSuchElementException", nm_T12, 6) := ⟨nm_all ((List.forall_mem_cons.mpr ⟨sg_3_6 _ (List.mem_of_getElem? (i := 12) rfl), (List.forall_mem_cons.mpr ⟨sg_3_6 _ (List.mem_of_getElem? (i := 13) rfl), (List.forall_mem_cons.mpr ⟨sg_3_6 _ (List.mem_of_getElem? (i := 14) rfl), (List.forall_mem_cons.mpr ⟨sg_3_6 _ (List.mem_of_getElem? (i := 15) rfl), (List.forall_mem_cons.mpr ⟨sg_3_7 _ (List.mem_of_getElem? (i := 0) rfl), (List.forall_mem_cons.mpr ⟨sg_3_7 _ (List.mem_of_getElem? (i := 6) rfl), (fun _ h => absurd h List.not_mem_nil)⟩)⟩)⟩)⟩)⟩)⟩)), by decide +kernel, by decide +kernel, sg_3_6 _ (List.mem_of_getElem? (i := 9) rfl), sg_0_1 _ (List.mem_of_getElem? (i := 8) rfl)⟩
theorem fk_AL_9 : ev_F "java/util/ArrayList" 9 9 1 false := ⟨("java/util/ArrayList", nm_T9, 3), "java/util/ArrayList", rfl, by decide, ck_9, sg_0_3 _ (List.mem_of_getElem? (i := 15) rfl), Or.inl rfl, rfl, fun h => by cases h⟩
theorem fr_AL_9 : ev_F0 "java/util/ArrayList" 9 9 1 := fk_AL_9.r
theorem fk_AL_48 : ev_F "java/util/ArrayList" 48 9 2 false := ⟨("java/util/ArrayList", nm_T9, 3), "java/util/ArrayList", rfl, by decide, ck_9, sg_0_4 _ (List.mem_of_getElem? (i := 0) rfl), Or.inl rfl, rfl, fun h => by cases h⟩
theorem fr_AL_48 : ev_F0 "java/util/ArrayList" 48 9 2 := fk_AL_48.r
theorem fk_AB_7 : ev_F "java/util/AbstractList" 7 9 0 false := ⟨("java/util/ArrayList", nm_T9, 3), "java/util/AbstractList", rfl, by decide, ck_9, sg_0_4 _ (List.mem_of_getElem? (i := 1) rfl), Or.inl rfl, rfl, fun h => by cases h⟩
theorem fr_AB_7 : ev_F0 "java/util/AbstractList" 7 9 0 := fk_AB_7.r
theorem fk_AL_63 : ev_F "java/util/ArrayList" 63 9 0 false := ⟨("java/util/ArrayList", nm_T9, 3), "java/util/ArrayList", rfl, by decide, ck_9, sg_0_4 _ (List.mem_of_getElem? (i := 2) rfl), Or.inr (sg_0_4 _ (List.mem_of_getElem? (i := 3) rfl)), rfl, fun h => by cases h⟩
theorem fr_AL_63 : ev_F0 "java/util/ArrayList" 63 9 0 := fk_AL_63.r
theorem fk_Y_11 : ev_F "ThreeLinkPair$Memory" 11 5 0 true := ⟨("ThreeLinkPair$Memory", nm_T5, 2), "ThreeLinkPair$Memory", rfl, by decide, ck_5, sg_0_5 _ (List.mem_of_getElem? (i := 4) rfl), Or.inl rfl, rfl, fun _ => rfl⟩
theorem fr_Y_11 : ev_F0 "ThreeLinkPair$Memory" 11 5 0 := fk_Y_11.r
theorem fk_Y_15 : ev_F "ThreeLinkPair$Memory" 15 5 1 true := ⟨("ThreeLinkPair$Memory", nm_T5, 2), "ThreeLinkPair$Memory", rfl, by decide, ck_5, sg_0_5 _ (List.mem_of_getElem? (i := 5) rfl), Or.inl rfl, rfl, fun _ => rfl⟩
theorem fr_Y_15 : ev_F0 "ThreeLinkPair$Memory" 15 5 1 := fk_Y_15.r
theorem fk_N_9 : ev_F "ThreeLinkPair$Unit" 9 7 0 false := ⟨("ThreeLinkPair$Unit", nm_T7, 7), "ThreeLinkPair$Unit", rfl, by decide, ck_7, sg_0_6 _ (List.mem_of_getElem? (i := 2) rfl), Or.inl rfl, rfl, fun h => by cases h⟩
theorem fr_N_9 : ev_F0 "ThreeLinkPair$Unit" 9 7 0 := fk_N_9.r
theorem fk_E_90 : ev_F "ThreeLinkPair$End" 90 7 0 false := ⟨("ThreeLinkPair$Unit", nm_T7, 7), "ThreeLinkPair$Unit", rfl, by decide, ck_7, sg_0_6 _ (List.mem_of_getElem? (i := 3) rfl), Or.inl rfl, rfl, fun h => by cases h⟩
theorem fr_E_90 : ev_F0 "ThreeLinkPair$End" 90 7 0 := fk_E_90.r
theorem fk_S_136 : ev_F "ThreeLinkPair$Side" 136 7 0 false := ⟨("ThreeLinkPair$Unit", nm_T7, 7), "ThreeLinkPair$Unit", rfl, by decide, ck_7, sg_0_6 _ (List.mem_of_getElem? (i := 4) rfl), Or.inl rfl, rfl, fun h => by cases h⟩
theorem fr_S_136 : ev_F0 "ThreeLinkPair$Side" 136 7 0 := fk_S_136.r
theorem fk_P_192 : ev_F "ThreeLinkPair" 192 7 0 false := ⟨("ThreeLinkPair$Unit", nm_T7, 7), "ThreeLinkPair$Unit", rfl, by decide, ck_7, sg_0_6 _ (List.mem_of_getElem? (i := 5) rfl), Or.inl rfl, rfl, fun h => by cases h⟩
theorem fr_P_192 : ev_F0 "ThreeLinkPair" 192 7 0 := fk_P_192.r
theorem fk_E_98 : ev_F "ThreeLinkPair$End" 98 7 1 false := ⟨("ThreeLinkPair$Unit", nm_T7, 7), "ThreeLinkPair$Unit", rfl, by decide, ck_7, sg_0_6 _ (List.mem_of_getElem? (i := 6) rfl), Or.inl rfl, rfl, fun h => by cases h⟩
theorem fr_E_98 : ev_F0 "ThreeLinkPair$End" 98 7 1 := fk_E_98.r
theorem fk_S_135 : ev_F "ThreeLinkPair$Side" 135 7 1 false := ⟨("ThreeLinkPair$Unit", nm_T7, 7), "ThreeLinkPair$Unit", rfl, by decide, ck_7, sg_0_6 _ (List.mem_of_getElem? (i := 7) rfl), Or.inl rfl, rfl, fun h => by cases h⟩
theorem fr_S_135 : ev_F0 "ThreeLinkPair$Side" 135 7 1 := fk_S_135.r
theorem fk_S_130 : ev_F "ThreeLinkPair$Side" 130 7 2 false := ⟨("ThreeLinkPair$Unit", nm_T7, 7), "ThreeLinkPair$Unit", rfl, by decide, ck_7, sg_0_6 _ (List.mem_of_getElem? (i := 8) rfl), Or.inl rfl, rfl, fun h => by cases h⟩
theorem fr_S_130 : ev_F0 "ThreeLinkPair$Side" 130 7 2 := fk_S_130.r
theorem fk_S_125 : ev_F "ThreeLinkPair$Side" 125 7 3 false := ⟨("ThreeLinkPair$Unit", nm_T7, 7), "ThreeLinkPair$Unit", rfl, by decide, ck_7, sg_0_6 _ (List.mem_of_getElem? (i := 9) rfl), Or.inl rfl, rfl, fun h => by cases h⟩
theorem fr_S_125 : ev_F0 "ThreeLinkPair$Side" 125 7 3 := fk_S_125.r
theorem fk_E_116 : ev_F "ThreeLinkPair$End" 116 7 4 false := ⟨("ThreeLinkPair$Unit", nm_T7, 7), "ThreeLinkPair$Unit", rfl, by decide, ck_7, sg_0_6 _ (List.mem_of_getElem? (i := 10) rfl), Or.inl rfl, rfl, fun h => by cases h⟩
theorem fr_E_116 : ev_F0 "ThreeLinkPair$End" 116 7 4 := fk_E_116.r
theorem fk_S_149 : ev_F "ThreeLinkPair$Side" 149 7 4 false := ⟨("ThreeLinkPair$Unit", nm_T7, 7), "ThreeLinkPair$Unit", rfl, by decide, ck_7, sg_0_6 _ (List.mem_of_getElem? (i := 11) rfl), Or.inl rfl, rfl, fun h => by cases h⟩
theorem fr_S_149 : ev_F0 "ThreeLinkPair$Side" 149 7 4 := fk_S_149.r
theorem fk_E_124 : ev_F "ThreeLinkPair$End" 124 7 5 false := ⟨("ThreeLinkPair$Unit", nm_T7, 7), "ThreeLinkPair$Unit", rfl, by decide, ck_7, sg_0_6 _ (List.mem_of_getElem? (i := 12) rfl), Or.inl rfl, rfl, fun h => by cases h⟩
theorem fr_E_124 : ev_F0 "ThreeLinkPair$End" 124 7 5 := fk_E_124.r
theorem fk_S_150 : ev_F "ThreeLinkPair$Side" 150 7 5 false := ⟨("ThreeLinkPair$Unit", nm_T7, 7), "ThreeLinkPair$Unit", rfl, by decide, ck_7, sg_0_6 _ (List.mem_of_getElem? (i := 13) rfl), Or.inl rfl, rfl, fun h => by cases h⟩
theorem fr_S_150 : ev_F0 "ThreeLinkPair$Side" 150 7 5 := fk_S_150.r
theorem fk_S_126 : ev_F "ThreeLinkPair$Side" 126 7 6 false := ⟨("ThreeLinkPair$Unit", nm_T7, 7), "ThreeLinkPair$Unit", rfl, by decide, ck_7, sg_0_6 _ (List.mem_of_getElem? (i := 14) rfl), Or.inl rfl, rfl, fun h => by cases h⟩
theorem fr_S_126 : ev_F0 "ThreeLinkPair$Side" 126 7 6 := fk_S_126.r
theorem fk_S_9 : ev_F "ThreeLinkPair$Side" 9 2 0 false := ⟨("ThreeLinkPair$Side", nm_T2, 20), "ThreeLinkPair$Side", rfl, by decide, ck_2, sg_0_7 _ (List.mem_of_getElem? (i := 14) rfl), Or.inl rfl, rfl, fun h => by cases h⟩
theorem fr_S_9 : ev_F0 "ThreeLinkPair$Side" 9 2 0 := fk_S_9.r
theorem fk_E_46 : ev_F "ThreeLinkPair$End" 46 2 0 false := ⟨("ThreeLinkPair$Side", nm_T2, 20), "ThreeLinkPair$Side", rfl, by decide, ck_2, sg_0_7 _ (List.mem_of_getElem? (i := 15) rfl), Or.inl rfl, rfl, fun h => by cases h⟩
theorem fr_E_46 : ev_F0 "ThreeLinkPair$End" 46 2 0 := fk_E_46.r
theorem fk_P_31 : ev_F "ThreeLinkPair" 31 2 0 false := ⟨("ThreeLinkPair$Side", nm_T2, 20), "ThreeLinkPair$Side", rfl, by decide, ck_2, sg_0_8 _ (List.mem_of_getElem? (i := 0) rfl), Or.inl rfl, rfl, fun h => by cases h⟩
theorem fr_P_31 : ev_F0 "ThreeLinkPair" 31 2 0 := fk_P_31.r
theorem fk_S_15 : ev_F "ThreeLinkPair$Side" 15 2 1 false := ⟨("ThreeLinkPair$Side", nm_T2, 20), "ThreeLinkPair$Side", rfl, by decide, ck_2, sg_0_8 _ (List.mem_of_getElem? (i := 1) rfl), Or.inl rfl, rfl, fun h => by cases h⟩
theorem fr_S_15 : ev_F0 "ThreeLinkPair$Side" 15 2 1 := fk_S_15.r
theorem fk_E_107 : ev_F "ThreeLinkPair$End" 107 2 1 false := ⟨("ThreeLinkPair$Side", nm_T2, 20), "ThreeLinkPair$Side", rfl, by decide, ck_2, sg_0_8 _ (List.mem_of_getElem? (i := 2) rfl), Or.inl rfl, rfl, fun h => by cases h⟩
theorem fr_E_107 : ev_F0 "ThreeLinkPair$End" 107 2 1 := fk_E_107.r
theorem fk_P_80 : ev_F "ThreeLinkPair" 80 2 1 false := ⟨("ThreeLinkPair$Side", nm_T2, 20), "ThreeLinkPair$Side", rfl, by decide, ck_2, sg_0_8 _ (List.mem_of_getElem? (i := 3) rfl), Or.inl rfl, rfl, fun h => by cases h⟩
theorem fr_P_80 : ev_F0 "ThreeLinkPair" 80 2 1 := fk_P_80.r
theorem fk_S_18 : ev_F "ThreeLinkPair$Side" 18 2 2 false := ⟨("ThreeLinkPair$Side", nm_T2, 20), "ThreeLinkPair$Side", rfl, by decide, ck_2, sg_0_8 _ (List.mem_of_getElem? (i := 4) rfl), Or.inl rfl, rfl, fun h => by cases h⟩
theorem fr_S_18 : ev_F0 "ThreeLinkPair$Side" 18 2 2 := fk_S_18.r
theorem fk_C_47 : ev_F "ThreeLinkPair$Changeover" 47 2 2 false := ⟨("ThreeLinkPair$Side", nm_T2, 20), "ThreeLinkPair$Side", rfl, by decide, ck_2, sg_0_8 _ (List.mem_of_getElem? (i := 5) rfl), Or.inl rfl, rfl, fun h => by cases h⟩
theorem fr_C_47 : ev_F0 "ThreeLinkPair$Changeover" 47 2 2 := fk_C_47.r
theorem fk_P_119 : ev_F "ThreeLinkPair" 119 2 2 false := ⟨("ThreeLinkPair$Side", nm_T2, 20), "ThreeLinkPair$Side", rfl, by decide, ck_2, sg_0_8 _ (List.mem_of_getElem? (i := 6) rfl), Or.inl rfl, rfl, fun h => by cases h⟩
theorem fr_P_119 : ev_F0 "ThreeLinkPair" 119 2 2 := fk_P_119.r
theorem fk_S_21 : ev_F "ThreeLinkPair$Side" 21 2 3 false := ⟨("ThreeLinkPair$Side", nm_T2, 20), "ThreeLinkPair$Side", rfl, by decide, ck_2, sg_0_8 _ (List.mem_of_getElem? (i := 7) rfl), Or.inl rfl, rfl, fun h => by cases h⟩
theorem fr_S_21 : ev_F0 "ThreeLinkPair$Side" 21 2 3 := fk_S_21.r
theorem fk_C_50 : ev_F "ThreeLinkPair$Changeover" 50 2 3 false := ⟨("ThreeLinkPair$Side", nm_T2, 20), "ThreeLinkPair$Side", rfl, by decide, ck_2, sg_0_8 _ (List.mem_of_getElem? (i := 8) rfl), Or.inl rfl, rfl, fun h => by cases h⟩
theorem fr_C_50 : ev_F0 "ThreeLinkPair$Changeover" 50 2 3 := fk_C_50.r
theorem fk_E_61 : ev_F "ThreeLinkPair$End" 61 2 3 false := ⟨("ThreeLinkPair$Side", nm_T2, 20), "ThreeLinkPair$Side", rfl, by decide, ck_2, sg_0_8 _ (List.mem_of_getElem? (i := 9) rfl), Or.inl rfl, rfl, fun h => by cases h⟩
theorem fr_E_61 : ev_F0 "ThreeLinkPair$End" 61 2 3 := fk_E_61.r
theorem fk_P_122 : ev_F "ThreeLinkPair" 122 2 3 false := ⟨("ThreeLinkPair$Side", nm_T2, 20), "ThreeLinkPair$Side", rfl, by decide, ck_2, sg_0_8 _ (List.mem_of_getElem? (i := 10) rfl), Or.inl rfl, rfl, fun h => by cases h⟩
theorem fr_P_122 : ev_F0 "ThreeLinkPair" 122 2 3 := fk_P_122.r
theorem fk_S_24 : ev_F "ThreeLinkPair$Side" 24 2 4 false := ⟨("ThreeLinkPair$Side", nm_T2, 20), "ThreeLinkPair$Side", rfl, by decide, ck_2, sg_0_8 _ (List.mem_of_getElem? (i := 11) rfl), Or.inl rfl, rfl, fun h => by cases h⟩
theorem fr_S_24 : ev_F0 "ThreeLinkPair$Side" 24 2 4 := fk_S_24.r
theorem fk_C_59 : ev_F "ThreeLinkPair$Changeover" 59 2 4 false := ⟨("ThreeLinkPair$Side", nm_T2, 20), "ThreeLinkPair$Side", rfl, by decide, ck_2, sg_0_8 _ (List.mem_of_getElem? (i := 12) rfl), Or.inl rfl, rfl, fun h => by cases h⟩
theorem fr_C_59 : ev_F0 "ThreeLinkPair$Changeover" 59 2 4 := fk_C_59.r
theorem fk_P_94 : ev_F "ThreeLinkPair" 94 2 4 false := ⟨("ThreeLinkPair$Side", nm_T2, 20), "ThreeLinkPair$Side", rfl, by decide, ck_2, sg_0_8 _ (List.mem_of_getElem? (i := 13) rfl), Or.inl rfl, rfl, fun h => by cases h⟩
theorem fr_P_94 : ev_F0 "ThreeLinkPair" 94 2 4 := fk_P_94.r
theorem fk_S_27 : ev_F "ThreeLinkPair$Side" 27 2 5 false := ⟨("ThreeLinkPair$Side", nm_T2, 20), "ThreeLinkPair$Side", rfl, by decide, ck_2, sg_0_8 _ (List.mem_of_getElem? (i := 14) rfl), Or.inl rfl, rfl, fun h => by cases h⟩
theorem fr_S_27 : ev_F0 "ThreeLinkPair$Side" 27 2 5 := fk_S_27.r
theorem fk_E_64 : ev_F "ThreeLinkPair$End" 64 2 5 false := ⟨("ThreeLinkPair$Side", nm_T2, 20), "ThreeLinkPair$Side", rfl, by decide, ck_2, sg_0_8 _ (List.mem_of_getElem? (i := 15) rfl), Or.inl rfl, rfl, fun h => by cases h⟩
theorem fr_E_64 : ev_F0 "ThreeLinkPair$End" 64 2 5 := fk_E_64.r
theorem fk_C_51 : ev_F "ThreeLinkPair$Changeover" 51 2 5 false := ⟨("ThreeLinkPair$Side", nm_T2, 20), "ThreeLinkPair$Side", rfl, by decide, ck_2, sg_0_9 _ (List.mem_of_getElem? (i := 0) rfl), Or.inl rfl, rfl, fun h => by cases h⟩
theorem fr_C_51 : ev_F0 "ThreeLinkPair$Changeover" 51 2 5 := fk_C_51.r
theorem fk_P_97 : ev_F "ThreeLinkPair" 97 2 5 false := ⟨("ThreeLinkPair$Side", nm_T2, 20), "ThreeLinkPair$Side", rfl, by decide, ck_2, sg_0_9 _ (List.mem_of_getElem? (i := 1) rfl), Or.inl rfl, rfl, fun h => by cases h⟩
theorem fr_P_97 : ev_F0 "ThreeLinkPair" 97 2 5 := fk_P_97.r
theorem fk_S_30 : ev_F "ThreeLinkPair$Side" 30 2 6 false := ⟨("ThreeLinkPair$Side", nm_T2, 20), "ThreeLinkPair$Side", rfl, by decide, ck_2, sg_0_9 _ (List.mem_of_getElem? (i := 2) rfl), Or.inl rfl, rfl, fun h => by cases h⟩
theorem fr_S_30 : ev_F0 "ThreeLinkPair$Side" 30 2 6 := fk_S_30.r
theorem fk_P_100 : ev_F "ThreeLinkPair" 100 2 6 false := ⟨("ThreeLinkPair$Side", nm_T2, 20), "ThreeLinkPair$Side", rfl, by decide, ck_2, sg_0_9 _ (List.mem_of_getElem? (i := 3) rfl), Or.inl rfl, rfl, fun h => by cases h⟩
theorem fr_P_100 : ev_F0 "ThreeLinkPair" 100 2 6 := fk_P_100.r
theorem fk_S_33 : ev_F "ThreeLinkPair$Side" 33 2 7 false := ⟨("ThreeLinkPair$Side", nm_T2, 20), "ThreeLinkPair$Side", rfl, by decide, ck_2, sg_0_9 _ (List.mem_of_getElem? (i := 4) rfl), Or.inl rfl, rfl, fun h => by cases h⟩
theorem fr_S_33 : ev_F0 "ThreeLinkPair$Side" 33 2 7 := fk_S_33.r
theorem fk_P_103 : ev_F "ThreeLinkPair" 103 2 7 false := ⟨("ThreeLinkPair$Side", nm_T2, 20), "ThreeLinkPair$Side", rfl, by decide, ck_2, sg_0_9 _ (List.mem_of_getElem? (i := 5) rfl), Or.inl rfl, rfl, fun h => by cases h⟩
theorem fr_P_103 : ev_F0 "ThreeLinkPair" 103 2 7 := fk_P_103.r
theorem fk_S_36 : ev_F "ThreeLinkPair$Side" 36 2 8 false := ⟨("ThreeLinkPair$Side", nm_T2, 20), "ThreeLinkPair$Side", rfl, by decide, ck_2, sg_0_9 _ (List.mem_of_getElem? (i := 6) rfl), Or.inl rfl, rfl, fun h => by cases h⟩
theorem fr_S_36 : ev_F0 "ThreeLinkPair$Side" 36 2 8 := fk_S_36.r
theorem fk_E_110 : ev_F "ThreeLinkPair$End" 110 2 8 false := ⟨("ThreeLinkPair$Side", nm_T2, 20), "ThreeLinkPair$Side", rfl, by decide, ck_2, sg_0_9 _ (List.mem_of_getElem? (i := 7) rfl), Or.inl rfl, rfl, fun h => by cases h⟩
theorem fr_E_110 : ev_F0 "ThreeLinkPair$End" 110 2 8 := fk_E_110.r
theorem fk_P_82 : ev_F "ThreeLinkPair" 82 2 8 false := ⟨("ThreeLinkPair$Side", nm_T2, 20), "ThreeLinkPair$Side", rfl, by decide, ck_2, sg_0_9 _ (List.mem_of_getElem? (i := 8) rfl), Or.inl rfl, rfl, fun h => by cases h⟩
theorem fr_P_82 : ev_F0 "ThreeLinkPair" 82 2 8 := fk_P_82.r
theorem fk_S_39 : ev_F "ThreeLinkPair$Side" 39 2 9 false := ⟨("ThreeLinkPair$Side", nm_T2, 20), "ThreeLinkPair$Side", rfl, by decide, ck_2, sg_0_9 _ (List.mem_of_getElem? (i := 9) rfl), Or.inl rfl, rfl, fun h => by cases h⟩
theorem fr_S_39 : ev_F0 "ThreeLinkPair$Side" 39 2 9 := fk_S_39.r
theorem fk_P_85 : ev_F "ThreeLinkPair" 85 2 9 false := ⟨("ThreeLinkPair$Side", nm_T2, 20), "ThreeLinkPair$Side", rfl, by decide, ck_2, sg_0_9 _ (List.mem_of_getElem? (i := 10) rfl), Or.inl rfl, rfl, fun h => by cases h⟩
theorem fr_P_85 : ev_F0 "ThreeLinkPair" 85 2 9 := fk_P_85.r
theorem fk_S_42 : ev_F "ThreeLinkPair$Side" 42 2 10 false := ⟨("ThreeLinkPair$Side", nm_T2, 20), "ThreeLinkPair$Side", rfl, by decide, ck_2, sg_0_9 _ (List.mem_of_getElem? (i := 11) rfl), Or.inl rfl, rfl, fun h => by cases h⟩
theorem fr_S_42 : ev_F0 "ThreeLinkPair$Side" 42 2 10 := fk_S_42.r
theorem fk_P_88 : ev_F "ThreeLinkPair" 88 2 10 false := ⟨("ThreeLinkPair$Side", nm_T2, 20), "ThreeLinkPair$Side", rfl, by decide, ck_2, sg_0_9 _ (List.mem_of_getElem? (i := 12) rfl), Or.inl rfl, rfl, fun h => by cases h⟩
theorem fr_P_88 : ev_F0 "ThreeLinkPair" 88 2 10 := fk_P_88.r
theorem fk_S_45 : ev_F "ThreeLinkPair$Side" 45 2 11 false := ⟨("ThreeLinkPair$Side", nm_T2, 20), "ThreeLinkPair$Side", rfl, by decide, ck_2, sg_0_9 _ (List.mem_of_getElem? (i := 13) rfl), Or.inl rfl, rfl, fun h => by cases h⟩
theorem fr_S_45 : ev_F0 "ThreeLinkPair$Side" 45 2 11 := fk_S_45.r
theorem fk_S_48 : ev_F "ThreeLinkPair$Side" 48 2 12 false := ⟨("ThreeLinkPair$Side", nm_T2, 20), "ThreeLinkPair$Side", rfl, by decide, ck_2, sg_0_9 _ (List.mem_of_getElem? (i := 14) rfl), Or.inl rfl, rfl, fun h => by cases h⟩
theorem fr_S_48 : ev_F0 "ThreeLinkPair$Side" 48 2 12 := fk_S_48.r
theorem fk_P_91 : ev_F "ThreeLinkPair" 91 2 12 false := ⟨("ThreeLinkPair$Side", nm_T2, 20), "ThreeLinkPair$Side", rfl, by decide, ck_2, sg_0_9 _ (List.mem_of_getElem? (i := 15) rfl), Or.inl rfl, rfl, fun h => by cases h⟩
theorem fr_P_91 : ev_F0 "ThreeLinkPair" 91 2 12 := fk_P_91.r
theorem fk_S_51 : ev_F "ThreeLinkPair$Side" 51 2 13 false := ⟨("ThreeLinkPair$Side", nm_T2, 20), "ThreeLinkPair$Side", rfl, by decide, ck_2, sg_0_10 _ (List.mem_of_getElem? (i := 0) rfl), Or.inl rfl, rfl, fun h => by cases h⟩
theorem fr_S_51 : ev_F0 "ThreeLinkPair$Side" 51 2 13 := fk_S_51.r
theorem fk_E_121 : ev_F "ThreeLinkPair$End" 121 2 13 false := ⟨("ThreeLinkPair$Side", nm_T2, 20), "ThreeLinkPair$Side", rfl, by decide, ck_2, sg_0_10 _ (List.mem_of_getElem? (i := 1) rfl), Or.inl rfl, rfl, fun h => by cases h⟩
theorem fr_E_121 : ev_F0 "ThreeLinkPair$End" 121 2 13 := fk_E_121.r
theorem fk_S_54 : ev_F "ThreeLinkPair$Side" 54 2 14 false := ⟨("ThreeLinkPair$Side", nm_T2, 20), "ThreeLinkPair$Side", rfl, by decide, ck_2, sg_0_10 _ (List.mem_of_getElem? (i := 2) rfl), Or.inl rfl, rfl, fun h => by cases h⟩
theorem fr_S_54 : ev_F0 "ThreeLinkPair$Side" 54 2 14 := fk_S_54.r
theorem fk_E_53 : ev_F "ThreeLinkPair$End" 53 2 14 false := ⟨("ThreeLinkPair$Side", nm_T2, 20), "ThreeLinkPair$Side", rfl, by decide, ck_2, sg_0_10 _ (List.mem_of_getElem? (i := 3) rfl), Or.inl rfl, rfl, fun h => by cases h⟩
theorem fr_E_53 : ev_F0 "ThreeLinkPair$End" 53 2 14 := fk_E_53.r
theorem fk_S_58 : ev_F "ThreeLinkPair$Side" 58 2 15 false := ⟨("ThreeLinkPair$Side", nm_T2, 20), "ThreeLinkPair$Side", rfl, by decide, ck_2, sg_0_10 _ (List.mem_of_getElem? (i := 4) rfl), Or.inl rfl, rfl, fun h => by cases h⟩
theorem fr_S_58 : ev_F0 "ThreeLinkPair$Side" 58 2 15 := fk_S_58.r
theorem fk_S_64 : ev_F "ThreeLinkPair$Side" 64 2 16 true := ⟨("ThreeLinkPair$Side", nm_T2, 20), "ThreeLinkPair$Side", rfl, by decide, ck_2, sg_0_10 _ (List.mem_of_getElem? (i := 5) rfl), Or.inl rfl, rfl, fun _ => rfl⟩
theorem fr_S_64 : ev_F0 "ThreeLinkPair$Side" 64 2 16 := fk_S_64.r
theorem fr_C_52 : ev_F0 "ThreeLinkPair$Changeover" 52 2 16 := ⟨("ThreeLinkPair$Side", nm_T2, 20), "ThreeLinkPair$Side", rfl, by decide, ck_2, sg_0_10 _ (List.mem_of_getElem? (i := 6) rfl), Or.inl rfl⟩
theorem fr_P_106 : ev_F0 "ThreeLinkPair" 106 2 16 := ⟨("ThreeLinkPair$Side", nm_T2, 20), "ThreeLinkPair$Side", rfl, by decide, ck_2, sg_0_10 _ (List.mem_of_getElem? (i := 7) rfl), Or.inl rfl⟩
theorem fk_S_68 : ev_F "ThreeLinkPair$Side" 68 2 17 true := ⟨("ThreeLinkPair$Side", nm_T2, 20), "ThreeLinkPair$Side", rfl, by decide, ck_2, sg_0_10 _ (List.mem_of_getElem? (i := 8) rfl), Or.inl rfl, rfl, fun _ => rfl⟩
theorem fr_S_68 : ev_F0 "ThreeLinkPair$Side" 68 2 17 := fk_S_68.r
theorem fr_C_72 : ev_F0 "ThreeLinkPair$Changeover" 72 2 17 := ⟨("ThreeLinkPair$Side", nm_T2, 20), "ThreeLinkPair$Side", rfl, by decide, ck_2, sg_0_10 _ (List.mem_of_getElem? (i := 9) rfl), Or.inl rfl⟩
theorem fr_P_116 : ev_F0 "ThreeLinkPair" 116 2 17 := ⟨("ThreeLinkPair$Side", nm_T2, 20), "ThreeLinkPair$Side", rfl, by decide, ck_2, sg_0_10 _ (List.mem_of_getElem? (i := 10) rfl), Or.inl rfl⟩
theorem fr_E_185 : ev_F0 "ThreeLinkPair$End" 185 2 17 := ⟨("ThreeLinkPair$Side", nm_T2, 20), "ThreeLinkPair$Side", rfl, by decide, ck_2, sg_0_10 _ (List.mem_of_getElem? (i := 11) rfl), Or.inl rfl⟩
theorem fk_S_74 : ev_F "ThreeLinkPair$Side" 74 2 18 true := ⟨("ThreeLinkPair$Side", nm_T2, 20), "ThreeLinkPair$Side", rfl, by decide, ck_2, sg_0_10 _ (List.mem_of_getElem? (i := 12) rfl), Or.inl rfl, rfl, fun _ => rfl⟩
theorem fr_S_74 : ev_F0 "ThreeLinkPair$Side" 74 2 18 := fk_S_74.r
theorem fr_E_57 : ev_F0 "ThreeLinkPair$End" 57 2 18 := ⟨("ThreeLinkPair$Side", nm_T2, 20), "ThreeLinkPair$Side", rfl, by decide, ck_2, sg_0_10 _ (List.mem_of_getElem? (i := 13) rfl), Or.inl rfl⟩
theorem fk_S_81 : ev_F "ThreeLinkPair$Side" 81 2 19 true := ⟨("ThreeLinkPair$Side", nm_T2, 20), "ThreeLinkPair$Side", rfl, by decide, ck_2, sg_0_10 _ (List.mem_of_getElem? (i := 14) rfl), Or.inl rfl, rfl, fun _ => rfl⟩
theorem fr_S_81 : ev_F0 "ThreeLinkPair$Side" 81 2 19 := fk_S_81.r
theorem fr_P_188 : ev_F0 "ThreeLinkPair" 188 2 19 := ⟨("ThreeLinkPair$Side", nm_T2, 20), "ThreeLinkPair$Side", rfl, by decide, ck_2, sg_0_10 _ (List.mem_of_getElem? (i := 15) rfl), Or.inl rfl⟩
theorem fk_C_9 : ev_F "ThreeLinkPair$Changeover" 9 3 0 false := ⟨("ThreeLinkPair$Changeover", nm_T3, 10), "ThreeLinkPair$Changeover", rfl, by decide, ck_3, sg_0_14 _ (List.mem_of_getElem? (i := 0) rfl), Or.inl rfl, rfl, fun h => by cases h⟩
theorem fr_C_9 : ev_F0 "ThreeLinkPair$Changeover" 9 3 0 := fk_C_9.r
theorem fk_P_138 : ev_F "ThreeLinkPair" 138 3 0 false := ⟨("ThreeLinkPair$Changeover", nm_T3, 10), "ThreeLinkPair$Changeover", rfl, by decide, ck_3, sg_0_14 _ (List.mem_of_getElem? (i := 1) rfl), Or.inl rfl, rfl, fun h => by cases h⟩
theorem fr_P_138 : ev_F0 "ThreeLinkPair" 138 3 0 := fk_P_138.r
theorem fk_E_167 : ev_F "ThreeLinkPair$End" 167 3 0 false := ⟨("ThreeLinkPair$Changeover", nm_T3, 10), "ThreeLinkPair$Changeover", rfl, by decide, ck_3, sg_0_14 _ (List.mem_of_getElem? (i := 2) rfl), Or.inl rfl, rfl, fun h => by cases h⟩
theorem fr_E_167 : ev_F0 "ThreeLinkPair$End" 167 3 0 := fk_E_167.r
theorem fk_C_15 : ev_F "ThreeLinkPair$Changeover" 15 3 1 false := ⟨("ThreeLinkPair$Changeover", nm_T3, 10), "ThreeLinkPair$Changeover", rfl, by decide, ck_3, sg_0_14 _ (List.mem_of_getElem? (i := 3) rfl), Or.inl rfl, rfl, fun h => by cases h⟩
theorem fr_C_15 : ev_F0 "ThreeLinkPair$Changeover" 15 3 1 := fk_C_15.r
theorem fk_E_204 : ev_F "ThreeLinkPair$End" 204 3 1 false := ⟨("ThreeLinkPair$Changeover", nm_T3, 10), "ThreeLinkPair$Changeover", rfl, by decide, ck_3, sg_0_14 _ (List.mem_of_getElem? (i := 4) rfl), Or.inl rfl, rfl, fun h => by cases h⟩
theorem fr_E_204 : ev_F0 "ThreeLinkPair$End" 204 3 1 := fk_E_204.r
theorem fk_C_18 : ev_F "ThreeLinkPair$Changeover" 18 3 2 false := ⟨("ThreeLinkPair$Changeover", nm_T3, 10), "ThreeLinkPair$Changeover", rfl, by decide, ck_3, sg_0_14 _ (List.mem_of_getElem? (i := 5) rfl), Or.inl rfl, rfl, fun h => by cases h⟩
theorem fr_C_18 : ev_F0 "ThreeLinkPair$Changeover" 18 3 2 := fk_C_18.r
theorem fk_P_144 : ev_F "ThreeLinkPair" 144 3 2 false := ⟨("ThreeLinkPair$Changeover", nm_T3, 10), "ThreeLinkPair$Changeover", rfl, by decide, ck_3, sg_0_14 _ (List.mem_of_getElem? (i := 6) rfl), Or.inl rfl, rfl, fun h => by cases h⟩
theorem fr_P_144 : ev_F0 "ThreeLinkPair" 144 3 2 := fk_P_144.r
theorem fk_E_170 : ev_F "ThreeLinkPair$End" 170 3 2 false := ⟨("ThreeLinkPair$Changeover", nm_T3, 10), "ThreeLinkPair$Changeover", rfl, by decide, ck_3, sg_0_14 _ (List.mem_of_getElem? (i := 7) rfl), Or.inl rfl, rfl, fun h => by cases h⟩
theorem fr_E_170 : ev_F0 "ThreeLinkPair$End" 170 3 2 := fk_E_170.r
theorem fk_C_21 : ev_F "ThreeLinkPair$Changeover" 21 3 3 false := ⟨("ThreeLinkPair$Changeover", nm_T3, 10), "ThreeLinkPair$Changeover", rfl, by decide, ck_3, sg_0_14 _ (List.mem_of_getElem? (i := 8) rfl), Or.inl rfl, rfl, fun h => by cases h⟩
theorem fr_C_21 : ev_F0 "ThreeLinkPair$Changeover" 21 3 3 := fk_C_21.r
theorem fk_E_208 : ev_F "ThreeLinkPair$End" 208 3 3 false := ⟨("ThreeLinkPair$Changeover", nm_T3, 10), "ThreeLinkPair$Changeover", rfl, by decide, ck_3, sg_0_14 _ (List.mem_of_getElem? (i := 9) rfl), Or.inl rfl, rfl, fun h => by cases h⟩
theorem fr_E_208 : ev_F0 "ThreeLinkPair$End" 208 3 3 := fk_E_208.r
theorem fk_C_25 : ev_F "ThreeLinkPair$Changeover" 25 3 4 false := ⟨("ThreeLinkPair$Changeover", nm_T3, 10), "ThreeLinkPair$Changeover", rfl, by decide, ck_3, sg_0_14 _ (List.mem_of_getElem? (i := 10) rfl), Or.inl rfl, rfl, fun h => by cases h⟩
theorem fr_C_25 : ev_F0 "ThreeLinkPair$Changeover" 25 3 4 := fk_C_25.r
theorem fk_E_180 : ev_F "ThreeLinkPair$End" 180 3 4 false := ⟨("ThreeLinkPair$Changeover", nm_T3, 10), "ThreeLinkPair$Changeover", rfl, by decide, ck_3, sg_0_14 _ (List.mem_of_getElem? (i := 11) rfl), Or.inl rfl, rfl, fun h => by cases h⟩
theorem fr_E_180 : ev_F0 "ThreeLinkPair$End" 180 3 4 := fk_E_180.r
theorem fk_C_28 : ev_F "ThreeLinkPair$Changeover" 28 3 5 false := ⟨("ThreeLinkPair$Changeover", nm_T3, 10), "ThreeLinkPair$Changeover", rfl, by decide, ck_3, sg_0_14 _ (List.mem_of_getElem? (i := 12) rfl), Or.inl rfl, rfl, fun h => by cases h⟩
theorem fr_C_28 : ev_F0 "ThreeLinkPair$Changeover" 28 3 5 := fk_C_28.r
theorem fk_E_173 : ev_F "ThreeLinkPair$End" 173 3 5 false := ⟨("ThreeLinkPair$Changeover", nm_T3, 10), "ThreeLinkPair$Changeover", rfl, by decide, ck_3, sg_0_14 _ (List.mem_of_getElem? (i := 13) rfl), Or.inl rfl, rfl, fun h => by cases h⟩
theorem fr_E_173 : ev_F0 "ThreeLinkPair$End" 173 3 5 := fk_E_173.r
theorem fk_C_31 : ev_F "ThreeLinkPair$Changeover" 31 3 6 false := ⟨("ThreeLinkPair$Changeover", nm_T3, 10), "ThreeLinkPair$Changeover", rfl, by decide, ck_3, sg_0_14 _ (List.mem_of_getElem? (i := 14) rfl), Or.inl rfl, rfl, fun h => by cases h⟩
theorem fr_C_31 : ev_F0 "ThreeLinkPair$Changeover" 31 3 6 := fk_C_31.r
theorem fk_E_207 : ev_F "ThreeLinkPair$End" 207 3 6 false := ⟨("ThreeLinkPair$Changeover", nm_T3, 10), "ThreeLinkPair$Changeover", rfl, by decide, ck_3, sg_0_14 _ (List.mem_of_getElem? (i := 15) rfl), Or.inl rfl, rfl, fun h => by cases h⟩
theorem fr_E_207 : ev_F0 "ThreeLinkPair$End" 207 3 6 := fk_E_207.r
theorem fk_C_34 : ev_F "ThreeLinkPair$Changeover" 34 3 7 false := ⟨("ThreeLinkPair$Changeover", nm_T3, 10), "ThreeLinkPair$Changeover", rfl, by decide, ck_3, sg_1_0 _ (List.mem_of_getElem? (i := 0) rfl), Or.inl rfl, rfl, fun h => by cases h⟩
theorem fr_C_34 : ev_F0 "ThreeLinkPair$Changeover" 34 3 7 := fk_C_34.r
theorem fk_C_37 : ev_F "ThreeLinkPair$Changeover" 37 3 8 false := ⟨("ThreeLinkPair$Changeover", nm_T3, 10), "ThreeLinkPair$Changeover", rfl, by decide, ck_3, sg_1_0 _ (List.mem_of_getElem? (i := 1) rfl), Or.inl rfl, rfl, fun h => by cases h⟩
theorem fr_C_37 : ev_F0 "ThreeLinkPair$Changeover" 37 3 8 := fk_C_37.r
theorem fk_C_43 : ev_F "ThreeLinkPair$Changeover" 43 3 9 true := ⟨("ThreeLinkPair$Changeover", nm_T3, 10), "ThreeLinkPair$Changeover", rfl, by decide, ck_3, sg_1_0 _ (List.mem_of_getElem? (i := 2) rfl), Or.inl rfl, rfl, fun _ => rfl⟩
theorem fr_C_43 : ev_F0 "ThreeLinkPair$Changeover" 43 3 9 := fk_C_43.r
theorem fr_E_226 : ev_F0 "ThreeLinkPair$End" 226 3 9 := ⟨("ThreeLinkPair$Changeover", nm_T3, 10), "ThreeLinkPair$Changeover", rfl, by decide, ck_3, sg_1_0 _ (List.mem_of_getElem? (i := 3) rfl), Or.inl rfl⟩
theorem fk_E_11 : ev_F "ThreeLinkPair$End" 11 1 0 true := ⟨("ThreeLinkPair$End", nm_T1, 7), "ThreeLinkPair$End", rfl, by decide, ck_1, sg_1_1 _ (List.mem_of_getElem? (i := 11) rfl), Or.inl rfl, rfl, fun _ => rfl⟩
theorem fr_E_11 : ev_F0 "ThreeLinkPair$End" 11 1 0 := fk_E_11.r
theorem fr_P_27 : ev_F0 "ThreeLinkPair" 27 1 0 := ⟨("ThreeLinkPair$End", nm_T1, 7), "ThreeLinkPair$End", rfl, by decide, ck_1, sg_1_1 _ (List.mem_of_getElem? (i := 12) rfl), Or.inl rfl⟩
theorem fk_E_19 : ev_F "ThreeLinkPair$End" 19 1 1 true := ⟨("ThreeLinkPair$End", nm_T1, 7), "ThreeLinkPair$End", rfl, by decide, ck_1, sg_1_1 _ (List.mem_of_getElem? (i := 13) rfl), Or.inl rfl, rfl, fun _ => rfl⟩
theorem fr_E_19 : ev_F0 "ThreeLinkPair$End" 19 1 1 := fk_E_19.r
theorem fr_P_134 : ev_F0 "ThreeLinkPair" 134 1 1 := ⟨("ThreeLinkPair$End", nm_T1, 7), "ThreeLinkPair$End", rfl, by decide, ck_1, sg_1_1 _ (List.mem_of_getElem? (i := 14) rfl), Or.inl rfl⟩
theorem fk_E_25 : ev_F "ThreeLinkPair$End" 25 1 2 true := ⟨("ThreeLinkPair$End", nm_T1, 7), "ThreeLinkPair$End", rfl, by decide, ck_1, sg_1_1 _ (List.mem_of_getElem? (i := 15) rfl), Or.inl rfl, rfl, fun _ => rfl⟩
theorem fr_E_25 : ev_F0 "ThreeLinkPair$End" 25 1 2 := fk_E_25.r
theorem fr_P_130 : ev_F0 "ThreeLinkPair" 130 1 2 := ⟨("ThreeLinkPair$End", nm_T1, 7), "ThreeLinkPair$End", rfl, by decide, ck_1, sg_1_2 _ (List.mem_of_getElem? (i := 0) rfl), Or.inl rfl⟩
theorem fk_E_29 : ev_F "ThreeLinkPair$End" 29 1 3 true := ⟨("ThreeLinkPair$End", nm_T1, 7), "ThreeLinkPair$End", rfl, by decide, ck_1, sg_1_2 _ (List.mem_of_getElem? (i := 1) rfl), Or.inl rfl, rfl, fun _ => rfl⟩
theorem fr_E_29 : ev_F0 "ThreeLinkPair$End" 29 1 3 := fk_E_29.r
theorem fk_E_35 : ev_F "ThreeLinkPair$End" 35 1 4 true := ⟨("ThreeLinkPair$End", nm_T1, 7), "ThreeLinkPair$End", rfl, by decide, ck_1, sg_1_2 _ (List.mem_of_getElem? (i := 2) rfl), Or.inl rfl, rfl, fun _ => rfl⟩
theorem fr_E_35 : ev_F0 "ThreeLinkPair$End" 35 1 4 := fk_E_35.r
theorem fr_P_150 : ev_F0 "ThreeLinkPair" 150 1 4 := ⟨("ThreeLinkPair$End", nm_T1, 7), "ThreeLinkPair$End", rfl, by decide, ck_1, sg_1_2 _ (List.mem_of_getElem? (i := 3) rfl), Or.inl rfl⟩
theorem fk_E_39 : ev_F "ThreeLinkPair$End" 39 1 5 true := ⟨("ThreeLinkPair$End", nm_T1, 7), "ThreeLinkPair$End", rfl, by decide, ck_1, sg_1_2 _ (List.mem_of_getElem? (i := 4) rfl), Or.inl rfl, rfl, fun _ => rfl⟩
theorem fr_E_39 : ev_F0 "ThreeLinkPair$End" 39 1 5 := fk_E_39.r
theorem fr_P_153 : ev_F0 "ThreeLinkPair" 153 1 5 := ⟨("ThreeLinkPair$End", nm_T1, 7), "ThreeLinkPair$End", rfl, by decide, ck_1, sg_1_2 _ (List.mem_of_getElem? (i := 5) rfl), Or.inl rfl⟩
theorem fk_E_42 : ev_F "ThreeLinkPair$End" 42 1 6 false := ⟨("ThreeLinkPair$End", nm_T1, 7), "ThreeLinkPair$End", rfl, by decide, ck_1, sg_1_2 _ (List.mem_of_getElem? (i := 6) rfl), Or.inl rfl, rfl, fun h => by cases h⟩
theorem fr_E_42 : ev_F0 "ThreeLinkPair$End" 42 1 6 := fk_E_42.r
theorem fk_P_179 : ev_F "ThreeLinkPair" 179 1 6 false := ⟨("ThreeLinkPair$End", nm_T1, 7), "ThreeLinkPair$End", rfl, by decide, ck_1, sg_1_2 _ (List.mem_of_getElem? (i := 7) rfl), Or.inl rfl, rfl, fun h => by cases h⟩
theorem fr_P_179 : ev_F0 "ThreeLinkPair" 179 1 6 := fk_P_179.r
theorem fk_F_9 : ev_F "ThreeLinkPair$Fault" 9 4 0 false := ⟨("ThreeLinkPair$Fault", nm_T4, 2), "ThreeLinkPair$Fault", rfl, by decide, ck_4, sg_1_3 _ (List.mem_of_getElem? (i := 14) rfl), Or.inl rfl, rfl, fun h => by cases h⟩
theorem fr_F_9 : ev_F0 "ThreeLinkPair$Fault" 9 4 0 := fk_F_9.r
theorem fk_P_55 : ev_F "ThreeLinkPair" 55 4 0 false := ⟨("ThreeLinkPair$Fault", nm_T4, 2), "ThreeLinkPair$Fault", rfl, by decide, ck_4, sg_1_3 _ (List.mem_of_getElem? (i := 15) rfl), Or.inl rfl, rfl, fun h => by cases h⟩
theorem fr_P_55 : ev_F0 "ThreeLinkPair" 55 4 0 := fk_P_55.r
theorem fk_F_15 : ev_F "ThreeLinkPair$Fault" 15 4 1 false := ⟨("ThreeLinkPair$Fault", nm_T4, 2), "ThreeLinkPair$Fault", rfl, by decide, ck_4, sg_1_4 _ (List.mem_of_getElem? (i := 0) rfl), Or.inl rfl, rfl, fun h => by cases h⟩
theorem fr_F_15 : ev_F0 "ThreeLinkPair$Fault" 15 4 1 := fk_F_15.r
theorem fk_P_58 : ev_F "ThreeLinkPair" 58 4 1 false := ⟨("ThreeLinkPair$Fault", nm_T4, 2), "ThreeLinkPair$Fault", rfl, by decide, ck_4, sg_1_4 _ (List.mem_of_getElem? (i := 1) rfl), Or.inl rfl, rfl, fun h => by cases h⟩
theorem fr_P_58 : ev_F0 "ThreeLinkPair" 58 4 1 := fk_P_58.r
theorem fk_P_11 : ev_F "ThreeLinkPair" 11 0 0 true := ⟨("ThreeLinkPair", nm_T0, 2), "ThreeLinkPair", rfl, by decide, ck_0, sg_1_4 _ (List.mem_of_getElem? (i := 7) rfl), Or.inl rfl, rfl, fun _ => rfl⟩
theorem fr_P_11 : ev_F0 "ThreeLinkPair" 11 0 0 := fk_P_11.r
theorem fk_P_18 : ev_F "ThreeLinkPair" 18 0 1 true := ⟨("ThreeLinkPair", nm_T0, 2), "ThreeLinkPair", rfl, by decide, ck_0, sg_1_4 _ (List.mem_of_getElem? (i := 8) rfl), Or.inl rfl, rfl, fun _ => rfl⟩
theorem fr_P_18 : ev_F0 "ThreeLinkPair" 18 0 1 := fk_P_18.r
theorem fk_G_9 : ev_F "ThreeLinkPair$Message" 9 6 0 true := ⟨("ThreeLinkPair$Message", nm_T6, 4), "ThreeLinkPair$Message", rfl, by decide, ck_6, sg_2_1 _ (List.mem_of_getElem? (i := 4) rfl), Or.inl rfl, rfl, fun _ => rfl⟩
theorem fr_G_9 : ev_F0 "ThreeLinkPair$Message" 9 6 0 := fk_G_9.r
theorem fr_S_109 : ev_F0 "ThreeLinkPair$Side" 109 6 0 := ⟨("ThreeLinkPair$Message", nm_T6, 4), "ThreeLinkPair$Message", rfl, by decide, ck_6, sg_2_1 _ (List.mem_of_getElem? (i := 5) rfl), Or.inl rfl⟩
theorem fr_E_138 : ev_F0 "ThreeLinkPair$End" 138 6 0 := ⟨("ThreeLinkPair$Message", nm_T6, 4), "ThreeLinkPair$Message", rfl, by decide, ck_6, sg_2_1 _ (List.mem_of_getElem? (i := 6) rfl), Or.inl rfl⟩
theorem fr_P_171 : ev_F0 "ThreeLinkPair" 171 6 0 := ⟨("ThreeLinkPair$Message", nm_T6, 4), "ThreeLinkPair$Message", rfl, by decide, ck_6, sg_2_1 _ (List.mem_of_getElem? (i := 7) rfl), Or.inl rfl⟩
theorem fk_G_15 : ev_F "ThreeLinkPair$Message" 15 6 1 true := ⟨("ThreeLinkPair$Message", nm_T6, 4), "ThreeLinkPair$Message", rfl, by decide, ck_6, sg_2_1 _ (List.mem_of_getElem? (i := 8) rfl), Or.inl rfl, rfl, fun _ => rfl⟩
theorem fr_G_15 : ev_F0 "ThreeLinkPair$Message" 15 6 1 := fk_G_15.r
theorem fr_E_153 : ev_F0 "ThreeLinkPair$End" 153 6 1 := ⟨("ThreeLinkPair$Message", nm_T6, 4), "ThreeLinkPair$Message", rfl, by decide, ck_6, sg_2_1 _ (List.mem_of_getElem? (i := 9) rfl), Or.inl rfl⟩
theorem fr_P_174 : ev_F0 "ThreeLinkPair" 174 6 1 := ⟨("ThreeLinkPair$Message", nm_T6, 4), "ThreeLinkPair$Message", rfl, by decide, ck_6, sg_2_1 _ (List.mem_of_getElem? (i := 10) rfl), Or.inl rfl⟩
theorem fk_G_18 : ev_F "ThreeLinkPair$Message" 18 6 2 true := ⟨("ThreeLinkPair$Message", nm_T6, 4), "ThreeLinkPair$Message", rfl, by decide, ck_6, sg_2_1 _ (List.mem_of_getElem? (i := 11) rfl), Or.inl rfl, rfl, fun _ => rfl⟩
theorem fr_G_18 : ev_F0 "ThreeLinkPair$Message" 18 6 2 := fk_G_18.r
theorem fr_E_174 : ev_F0 "ThreeLinkPair$End" 174 6 2 := ⟨("ThreeLinkPair$Message", nm_T6, 4), "ThreeLinkPair$Message", rfl, by decide, ck_6, sg_2_1 _ (List.mem_of_getElem? (i := 12) rfl), Or.inl rfl⟩
theorem fk_G_21 : ev_F "ThreeLinkPair$Message" 21 6 3 true := ⟨("ThreeLinkPair$Message", nm_T6, 4), "ThreeLinkPair$Message", rfl, by decide, ck_6, sg_2_1 _ (List.mem_of_getElem? (i := 13) rfl), Or.inl rfl, rfl, fun _ => rfl⟩
theorem fr_G_21 : ev_F0 "ThreeLinkPair$Message" 21 6 3 := fk_G_21.r
theorem fr_E_156 : ev_F0 "ThreeLinkPair$End" 156 6 3 := ⟨("ThreeLinkPair$Message", nm_T6, 4), "ThreeLinkPair$Message", rfl, by decide, ck_6, sg_2_1 _ (List.mem_of_getElem? (i := 14) rfl), Or.inl rfl⟩
theorem fk_TH_198_10 : ev_F "java/lang/Throwable" 198 10 4 false := ⟨("java/lang/IndexOutOfBoundsException", nm_T10, 6), "java/lang/Throwable", rfl, by decide, ck_10, sg_2_11 _ (List.mem_of_getElem? (i := 6) rfl), Or.inl rfl, rfl, fun h => by cases h⟩
theorem fr_TH_198_10 : ev_F0 "java/lang/Throwable" 198 10 4 := fk_TH_198_10.r
theorem fk_TH_198_11 : ev_F "java/lang/Throwable" 198 11 4 false := ⟨("java/lang/IllegalArgumentException", nm_T11, 6), "java/lang/Throwable", rfl, by decide, ck_11, sg_2_11 _ (List.mem_of_getElem? (i := 6) rfl), Or.inl rfl, rfl, fun h => by cases h⟩
theorem fr_TH_198_11 : ev_F0 "java/lang/Throwable" 198 11 4 := fk_TH_198_11.r
theorem fk_TH_198_12 : ev_F "java/lang/Throwable" 198 12 4 false := ⟨("java/util/NoSuchElementException", nm_T12, 6), "java/lang/Throwable", rfl, by decide, ck_12, sg_2_11 _ (List.mem_of_getElem? (i := 6) rfl), Or.inl rfl, rfl, fun h => by cases h⟩
theorem fr_TH_198_12 : ev_F0 "java/lang/Throwable" 198 12 4 := fk_TH_198_12.r
theorem fk_TH_31_10 : ev_F "java/lang/Throwable" 31 10 3 false := ⟨("java/lang/IndexOutOfBoundsException", nm_T10, 6), "java/lang/Throwable", rfl, by decide, ck_10, sg_2_13 _ (List.mem_of_getElem? (i := 8) rfl), Or.inl rfl, rfl, fun h => by cases h⟩
theorem fr_TH_31_10 : ev_F0 "java/lang/Throwable" 31 10 3 := fk_TH_31_10.r
theorem fk_TH_31_11 : ev_F "java/lang/Throwable" 31 11 3 false := ⟨("java/lang/IllegalArgumentException", nm_T11, 6), "java/lang/Throwable", rfl, by decide, ck_11, sg_2_13 _ (List.mem_of_getElem? (i := 8) rfl), Or.inl rfl, rfl, fun h => by cases h⟩
theorem fr_TH_31_11 : ev_F0 "java/lang/Throwable" 31 11 3 := fk_TH_31_11.r
theorem fk_TH_31_12 : ev_F "java/lang/Throwable" 31 12 3 false := ⟨("java/util/NoSuchElementException", nm_T12, 6), "java/lang/Throwable", rfl, by decide, ck_12, sg_2_13 _ (List.mem_of_getElem? (i := 8) rfl), Or.inl rfl, rfl, fun h => by cases h⟩
theorem fr_TH_31_12 : ev_F0 "java/lang/Throwable" 31 12 3 := fk_TH_31_12.r
theorem fk_TH_7_10 : ev_F "java/lang/Throwable" 7 10 0 false := ⟨("java/lang/IndexOutOfBoundsException", nm_T10, 6), "java/lang/Throwable", rfl, by decide, ck_10, sg_2_13 _ (List.mem_of_getElem? (i := 9) rfl), Or.inl rfl, rfl, fun h => by cases h⟩
theorem fr_TH_7_10 : ev_F0 "java/lang/Throwable" 7 10 0 := fk_TH_7_10.r
theorem fk_TH_7_11 : ev_F "java/lang/Throwable" 7 11 0 false := ⟨("java/lang/IllegalArgumentException", nm_T11, 6), "java/lang/Throwable", rfl, by decide, ck_11, sg_2_13 _ (List.mem_of_getElem? (i := 9) rfl), Or.inl rfl, rfl, fun h => by cases h⟩
theorem fr_TH_7_11 : ev_F0 "java/lang/Throwable" 7 11 0 := fk_TH_7_11.r
theorem fk_TH_7_12 : ev_F "java/lang/Throwable" 7 12 0 false := ⟨("java/util/NoSuchElementException", nm_T12, 6), "java/lang/Throwable", rfl, by decide, ck_12, sg_2_13 _ (List.mem_of_getElem? (i := 9) rfl), Or.inl rfl, rfl, fun h => by cases h⟩
theorem fr_TH_7_12 : ev_F0 "java/lang/Throwable" 7 12 0 := fk_TH_7_12.r
theorem fk_TH_17_10 : ev_F "java/lang/Throwable" 17 10 1 false := ⟨("java/lang/IndexOutOfBoundsException", nm_T10, 6), "java/lang/Throwable", rfl, by decide, ck_10, sg_2_13 _ (List.mem_of_getElem? (i := 10) rfl), Or.inl rfl, rfl, fun h => by cases h⟩
theorem fr_TH_17_10 : ev_F0 "java/lang/Throwable" 17 10 1 := fk_TH_17_10.r
theorem fk_TH_17_11 : ev_F "java/lang/Throwable" 17 11 1 false := ⟨("java/lang/IllegalArgumentException", nm_T11, 6), "java/lang/Throwable", rfl, by decide, ck_11, sg_2_13 _ (List.mem_of_getElem? (i := 10) rfl), Or.inl rfl, rfl, fun h => by cases h⟩
theorem fr_TH_17_11 : ev_F0 "java/lang/Throwable" 17 11 1 := fk_TH_17_11.r
theorem fk_TH_17_12 : ev_F "java/lang/Throwable" 17 12 1 false := ⟨("java/util/NoSuchElementException", nm_T12, 6), "java/lang/Throwable", rfl, by decide, ck_12, sg_2_13 _ (List.mem_of_getElem? (i := 10) rfl), Or.inl rfl, rfl, fun h => by cases h⟩
theorem fr_TH_17_12 : ev_F0 "java/lang/Throwable" 17 12 1 := fk_TH_17_12.r
theorem fk_TH_24_10 : ev_F "java/lang/Throwable" 24 10 2 false := ⟨("java/lang/IndexOutOfBoundsException", nm_T10, 6), "java/lang/Throwable", rfl, by decide, ck_10, sg_2_13 _ (List.mem_of_getElem? (i := 11) rfl), Or.inl rfl, rfl, fun h => by cases h⟩
theorem fr_TH_24_10 : ev_F0 "java/lang/Throwable" 24 10 2 := fk_TH_24_10.r
theorem fk_TH_24_11 : ev_F "java/lang/Throwable" 24 11 2 false := ⟨("java/lang/IllegalArgumentException", nm_T11, 6), "java/lang/Throwable", rfl, by decide, ck_11, sg_2_13 _ (List.mem_of_getElem? (i := 11) rfl), Or.inl rfl, rfl, fun h => by cases h⟩
theorem fr_TH_24_11 : ev_F0 "java/lang/Throwable" 24 11 2 := fk_TH_24_11.r
theorem fk_TH_24_12 : ev_F "java/lang/Throwable" 24 12 2 false := ⟨("java/util/NoSuchElementException", nm_T12, 6), "java/lang/Throwable", rfl, by decide, ck_12, sg_2_13 _ (List.mem_of_getElem? (i := 11) rfl), Or.inl rfl, rfl, fun h => by cases h⟩
theorem fr_TH_24_12 : ev_F0 "java/lang/Throwable" 24 12 2 := fk_TH_24_12.r
theorem fk_D_157 : ev_F "ThreeLinkPairModel" 157 8 0 false := ⟨("ThreeLinkPairModel", nm_T8, 51), "ThreeLinkPairModel", rfl, by decide, ck_8, sg_3_9 _ (List.mem_of_getElem? (i := 0) rfl), Or.inl rfl, rfl, fun h => by cases h⟩
theorem fr_D_157 : ev_F0 "ThreeLinkPairModel" 157 8 0 := fk_D_157.r
theorem fk_D_7 : ev_F "ThreeLinkPairModel" 7 8 1 true := ⟨("ThreeLinkPairModel", nm_T8, 51), "ThreeLinkPairModel", rfl, by decide, ck_8, sg_3_9 _ (List.mem_of_getElem? (i := 1) rfl), Or.inl rfl, rfl, fun _ => rfl⟩
theorem fr_D_7 : ev_F0 "ThreeLinkPairModel" 7 8 1 := fk_D_7.r
theorem fk_D_13 : ev_F "ThreeLinkPairModel" 13 8 2 true := ⟨("ThreeLinkPairModel", nm_T8, 51), "ThreeLinkPairModel", rfl, by decide, ck_8, sg_3_9 _ (List.mem_of_getElem? (i := 2) rfl), Or.inl rfl, rfl, fun _ => rfl⟩
theorem fr_D_13 : ev_F0 "ThreeLinkPairModel" 13 8 2 := fk_D_13.r
theorem fk_D_16 : ev_F "ThreeLinkPairModel" 16 8 3 true := ⟨("ThreeLinkPairModel", nm_T8, 51), "ThreeLinkPairModel", rfl, by decide, ck_8, sg_3_9 _ (List.mem_of_getElem? (i := 3) rfl), Or.inl rfl, rfl, fun _ => rfl⟩
theorem fr_D_16 : ev_F0 "ThreeLinkPairModel" 16 8 3 := fk_D_16.r
theorem fk_D_19 : ev_F "ThreeLinkPairModel" 19 8 4 true := ⟨("ThreeLinkPairModel", nm_T8, 51), "ThreeLinkPairModel", rfl, by decide, ck_8, sg_3_9 _ (List.mem_of_getElem? (i := 4) rfl), Or.inl rfl, rfl, fun _ => rfl⟩
theorem fr_D_19 : ev_F0 "ThreeLinkPairModel" 19 8 4 := fk_D_19.r
theorem fk_D_22 : ev_F "ThreeLinkPairModel" 22 8 5 true := ⟨("ThreeLinkPairModel", nm_T8, 51), "ThreeLinkPairModel", rfl, by decide, ck_8, sg_3_9 _ (List.mem_of_getElem? (i := 5) rfl), Or.inl rfl, rfl, fun _ => rfl⟩
theorem fr_D_22 : ev_F0 "ThreeLinkPairModel" 22 8 5 := fk_D_22.r
theorem fk_D_25 : ev_F "ThreeLinkPairModel" 25 8 6 true := ⟨("ThreeLinkPairModel", nm_T8, 51), "ThreeLinkPairModel", rfl, by decide, ck_8, sg_3_9 _ (List.mem_of_getElem? (i := 6) rfl), Or.inl rfl, rfl, fun _ => rfl⟩
theorem fr_D_25 : ev_F0 "ThreeLinkPairModel" 25 8 6 := fk_D_25.r
theorem fk_D_28 : ev_F "ThreeLinkPairModel" 28 8 7 false := ⟨("ThreeLinkPairModel", nm_T8, 51), "ThreeLinkPairModel", rfl, by decide, ck_8, sg_3_9 _ (List.mem_of_getElem? (i := 7) rfl), Or.inl rfl, rfl, fun h => by cases h⟩
theorem fr_D_28 : ev_F0 "ThreeLinkPairModel" 28 8 7 := fk_D_28.r
theorem fk_D_160 : ev_F "ThreeLinkPairModel" 160 8 8 false := ⟨("ThreeLinkPairModel", nm_T8, 51), "ThreeLinkPairModel", rfl, by decide, ck_8, sg_3_9 _ (List.mem_of_getElem? (i := 8) rfl), Or.inl rfl, rfl, fun h => by cases h⟩
theorem fr_D_160 : ev_F0 "ThreeLinkPairModel" 160 8 8 := fk_D_160.r
theorem fk_D_32 : ev_F "ThreeLinkPairModel" 32 8 9 true := ⟨("ThreeLinkPairModel", nm_T8, 51), "ThreeLinkPairModel", rfl, by decide, ck_8, sg_3_9 _ (List.mem_of_getElem? (i := 9) rfl), Or.inl rfl, rfl, fun _ => rfl⟩
theorem fr_D_32 : ev_F0 "ThreeLinkPairModel" 32 8 9 := fk_D_32.r
theorem fk_D_35 : ev_F "ThreeLinkPairModel" 35 8 10 true := ⟨("ThreeLinkPairModel", nm_T8, 51), "ThreeLinkPairModel", rfl, by decide, ck_8, sg_3_9 _ (List.mem_of_getElem? (i := 10) rfl), Or.inl rfl, rfl, fun _ => rfl⟩
theorem fr_D_35 : ev_F0 "ThreeLinkPairModel" 35 8 10 := fk_D_35.r
theorem fk_D_38 : ev_F "ThreeLinkPairModel" 38 8 11 true := ⟨("ThreeLinkPairModel", nm_T8, 51), "ThreeLinkPairModel", rfl, by decide, ck_8, sg_3_9 _ (List.mem_of_getElem? (i := 11) rfl), Or.inl rfl, rfl, fun _ => rfl⟩
theorem fr_D_38 : ev_F0 "ThreeLinkPairModel" 38 8 11 := fk_D_38.r
theorem fk_D_41 : ev_F "ThreeLinkPairModel" 41 8 12 true := ⟨("ThreeLinkPairModel", nm_T8, 51), "ThreeLinkPairModel", rfl, by decide, ck_8, sg_3_9 _ (List.mem_of_getElem? (i := 12) rfl), Or.inl rfl, rfl, fun _ => rfl⟩
theorem fr_D_41 : ev_F0 "ThreeLinkPairModel" 41 8 12 := fk_D_41.r
theorem fk_D_44 : ev_F "ThreeLinkPairModel" 44 8 13 true := ⟨("ThreeLinkPairModel", nm_T8, 51), "ThreeLinkPairModel", rfl, by decide, ck_8, sg_3_9 _ (List.mem_of_getElem? (i := 13) rfl), Or.inl rfl, rfl, fun _ => rfl⟩
theorem fr_D_44 : ev_F0 "ThreeLinkPairModel" 44 8 13 := fk_D_44.r
theorem fk_D_47 : ev_F "ThreeLinkPairModel" 47 8 14 true := ⟨("ThreeLinkPairModel", nm_T8, 51), "ThreeLinkPairModel", rfl, by decide, ck_8, sg_3_9 _ (List.mem_of_getElem? (i := 14) rfl), Or.inl rfl, rfl, fun _ => rfl⟩
theorem fr_D_47 : ev_F0 "ThreeLinkPairModel" 47 8 14 := fk_D_47.r
theorem fk_D_50 : ev_F "ThreeLinkPairModel" 50 8 15 true := ⟨("ThreeLinkPairModel", nm_T8, 51), "ThreeLinkPairModel", rfl, by decide, ck_8, sg_3_9 _ (List.mem_of_getElem? (i := 15) rfl), Or.inl rfl, rfl, fun _ => rfl⟩
theorem fr_D_50 : ev_F0 "ThreeLinkPairModel" 50 8 15 := fk_D_50.r
theorem fk_D_53 : ev_F "ThreeLinkPairModel" 53 8 16 true := ⟨("ThreeLinkPairModel", nm_T8, 51), "ThreeLinkPairModel", rfl, by decide, ck_8, sg_3_10 _ (List.mem_of_getElem? (i := 0) rfl), Or.inl rfl, rfl, fun _ => rfl⟩
theorem fr_D_53 : ev_F0 "ThreeLinkPairModel" 53 8 16 := fk_D_53.r
theorem fk_D_57 : ev_F "ThreeLinkPairModel" 57 8 17 true := ⟨("ThreeLinkPairModel", nm_T8, 51), "ThreeLinkPairModel", rfl, by decide, ck_8, sg_3_10 _ (List.mem_of_getElem? (i := 1) rfl), Or.inl rfl, rfl, fun _ => rfl⟩
theorem fr_D_57 : ev_F0 "ThreeLinkPairModel" 57 8 17 := fk_D_57.r
theorem fk_D_60 : ev_F "ThreeLinkPairModel" 60 8 18 true := ⟨("ThreeLinkPairModel", nm_T8, 51), "ThreeLinkPairModel", rfl, by decide, ck_8, sg_3_10 _ (List.mem_of_getElem? (i := 2) rfl), Or.inl rfl, rfl, fun _ => rfl⟩
theorem fr_D_60 : ev_F0 "ThreeLinkPairModel" 60 8 18 := fk_D_60.r
theorem fk_D_63 : ev_F "ThreeLinkPairModel" 63 8 19 true := ⟨("ThreeLinkPairModel", nm_T8, 51), "ThreeLinkPairModel", rfl, by decide, ck_8, sg_3_10 _ (List.mem_of_getElem? (i := 3) rfl), Or.inl rfl, rfl, fun _ => rfl⟩
theorem fr_D_63 : ev_F0 "ThreeLinkPairModel" 63 8 19 := fk_D_63.r
theorem fk_D_66 : ev_F "ThreeLinkPairModel" 66 8 20 true := ⟨("ThreeLinkPairModel", nm_T8, 51), "ThreeLinkPairModel", rfl, by decide, ck_8, sg_3_10 _ (List.mem_of_getElem? (i := 4) rfl), Or.inl rfl, rfl, fun _ => rfl⟩
theorem fr_D_66 : ev_F0 "ThreeLinkPairModel" 66 8 20 := fk_D_66.r
theorem fk_D_69 : ev_F "ThreeLinkPairModel" 69 8 21 true := ⟨("ThreeLinkPairModel", nm_T8, 51), "ThreeLinkPairModel", rfl, by decide, ck_8, sg_3_10 _ (List.mem_of_getElem? (i := 5) rfl), Or.inl rfl, rfl, fun _ => rfl⟩
theorem fr_D_69 : ev_F0 "ThreeLinkPairModel" 69 8 21 := fk_D_69.r
theorem fk_D_72 : ev_F "ThreeLinkPairModel" 72 8 22 true := ⟨("ThreeLinkPairModel", nm_T8, 51), "ThreeLinkPairModel", rfl, by decide, ck_8, sg_3_10 _ (List.mem_of_getElem? (i := 6) rfl), Or.inl rfl, rfl, fun _ => rfl⟩
theorem fr_D_72 : ev_F0 "ThreeLinkPairModel" 72 8 22 := fk_D_72.r
theorem fk_D_75 : ev_F "ThreeLinkPairModel" 75 8 23 true := ⟨("ThreeLinkPairModel", nm_T8, 51), "ThreeLinkPairModel", rfl, by decide, ck_8, sg_3_10 _ (List.mem_of_getElem? (i := 7) rfl), Or.inl rfl, rfl, fun _ => rfl⟩
theorem fr_D_75 : ev_F0 "ThreeLinkPairModel" 75 8 23 := fk_D_75.r
theorem fk_D_78 : ev_F "ThreeLinkPairModel" 78 8 24 true := ⟨("ThreeLinkPairModel", nm_T8, 51), "ThreeLinkPairModel", rfl, by decide, ck_8, sg_3_10 _ (List.mem_of_getElem? (i := 8) rfl), Or.inl rfl, rfl, fun _ => rfl⟩
theorem fr_D_78 : ev_F0 "ThreeLinkPairModel" 78 8 24 := fk_D_78.r
theorem fk_D_81 : ev_F "ThreeLinkPairModel" 81 8 25 true := ⟨("ThreeLinkPairModel", nm_T8, 51), "ThreeLinkPairModel", rfl, by decide, ck_8, sg_3_10 _ (List.mem_of_getElem? (i := 9) rfl), Or.inl rfl, rfl, fun _ => rfl⟩
theorem fr_D_81 : ev_F0 "ThreeLinkPairModel" 81 8 25 := fk_D_81.r
theorem fk_D_84 : ev_F "ThreeLinkPairModel" 84 8 26 true := ⟨("ThreeLinkPairModel", nm_T8, 51), "ThreeLinkPairModel", rfl, by decide, ck_8, sg_3_10 _ (List.mem_of_getElem? (i := 10) rfl), Or.inl rfl, rfl, fun _ => rfl⟩
theorem fr_D_84 : ev_F0 "ThreeLinkPairModel" 84 8 26 := fk_D_84.r
theorem fk_D_87 : ev_F "ThreeLinkPairModel" 87 8 27 true := ⟨("ThreeLinkPairModel", nm_T8, 51), "ThreeLinkPairModel", rfl, by decide, ck_8, sg_3_10 _ (List.mem_of_getElem? (i := 11) rfl), Or.inl rfl, rfl, fun _ => rfl⟩
theorem fr_D_87 : ev_F0 "ThreeLinkPairModel" 87 8 27 := fk_D_87.r
theorem fk_D_90 : ev_F "ThreeLinkPairModel" 90 8 28 true := ⟨("ThreeLinkPairModel", nm_T8, 51), "ThreeLinkPairModel", rfl, by decide, ck_8, sg_3_10 _ (List.mem_of_getElem? (i := 12) rfl), Or.inl rfl, rfl, fun _ => rfl⟩
theorem fr_D_90 : ev_F0 "ThreeLinkPairModel" 90 8 28 := fk_D_90.r
theorem fk_D_93 : ev_F "ThreeLinkPairModel" 93 8 29 true := ⟨("ThreeLinkPairModel", nm_T8, 51), "ThreeLinkPairModel", rfl, by decide, ck_8, sg_3_10 _ (List.mem_of_getElem? (i := 13) rfl), Or.inl rfl, rfl, fun _ => rfl⟩
theorem fr_D_93 : ev_F0 "ThreeLinkPairModel" 93 8 29 := fk_D_93.r
theorem fk_D_96 : ev_F "ThreeLinkPairModel" 96 8 30 true := ⟨("ThreeLinkPairModel", nm_T8, 51), "ThreeLinkPairModel", rfl, by decide, ck_8, sg_3_10 _ (List.mem_of_getElem? (i := 14) rfl), Or.inl rfl, rfl, fun _ => rfl⟩
theorem fr_D_96 : ev_F0 "ThreeLinkPairModel" 96 8 30 := fk_D_96.r
theorem fk_D_99 : ev_F "ThreeLinkPairModel" 99 8 31 true := ⟨("ThreeLinkPairModel", nm_T8, 51), "ThreeLinkPairModel", rfl, by decide, ck_8, sg_3_10 _ (List.mem_of_getElem? (i := 15) rfl), Or.inl rfl, rfl, fun _ => rfl⟩
theorem fr_D_99 : ev_F0 "ThreeLinkPairModel" 99 8 31 := fk_D_99.r
theorem fk_D_102 : ev_F "ThreeLinkPairModel" 102 8 32 true := ⟨("ThreeLinkPairModel", nm_T8, 51), "ThreeLinkPairModel", rfl, by decide, ck_8, sg_3_11 _ (List.mem_of_getElem? (i := 0) rfl), Or.inl rfl, rfl, fun _ => rfl⟩
theorem fr_D_102 : ev_F0 "ThreeLinkPairModel" 102 8 32 := fk_D_102.r
theorem fk_D_105 : ev_F "ThreeLinkPairModel" 105 8 33 true := ⟨("ThreeLinkPairModel", nm_T8, 51), "ThreeLinkPairModel", rfl, by decide, ck_8, sg_3_11 _ (List.mem_of_getElem? (i := 1) rfl), Or.inl rfl, rfl, fun _ => rfl⟩
theorem fr_D_105 : ev_F0 "ThreeLinkPairModel" 105 8 33 := fk_D_105.r
theorem fk_D_108 : ev_F "ThreeLinkPairModel" 108 8 34 true := ⟨("ThreeLinkPairModel", nm_T8, 51), "ThreeLinkPairModel", rfl, by decide, ck_8, sg_3_11 _ (List.mem_of_getElem? (i := 2) rfl), Or.inl rfl, rfl, fun _ => rfl⟩
theorem fr_D_108 : ev_F0 "ThreeLinkPairModel" 108 8 34 := fk_D_108.r
theorem fk_D_111 : ev_F "ThreeLinkPairModel" 111 8 35 true := ⟨("ThreeLinkPairModel", nm_T8, 51), "ThreeLinkPairModel", rfl, by decide, ck_8, sg_3_11 _ (List.mem_of_getElem? (i := 3) rfl), Or.inl rfl, rfl, fun _ => rfl⟩
theorem fr_D_111 : ev_F0 "ThreeLinkPairModel" 111 8 35 := fk_D_111.r
theorem fk_D_114 : ev_F "ThreeLinkPairModel" 114 8 36 true := ⟨("ThreeLinkPairModel", nm_T8, 51), "ThreeLinkPairModel", rfl, by decide, ck_8, sg_3_11 _ (List.mem_of_getElem? (i := 4) rfl), Or.inl rfl, rfl, fun _ => rfl⟩
theorem fr_D_114 : ev_F0 "ThreeLinkPairModel" 114 8 36 := fk_D_114.r
theorem fk_D_117 : ev_F "ThreeLinkPairModel" 117 8 37 true := ⟨("ThreeLinkPairModel", nm_T8, 51), "ThreeLinkPairModel", rfl, by decide, ck_8, sg_3_11 _ (List.mem_of_getElem? (i := 5) rfl), Or.inl rfl, rfl, fun _ => rfl⟩
theorem fr_D_117 : ev_F0 "ThreeLinkPairModel" 117 8 37 := fk_D_117.r
theorem fk_D_120 : ev_F "ThreeLinkPairModel" 120 8 38 true := ⟨("ThreeLinkPairModel", nm_T8, 51), "ThreeLinkPairModel", rfl, by decide, ck_8, sg_3_11 _ (List.mem_of_getElem? (i := 6) rfl), Or.inl rfl, rfl, fun _ => rfl⟩
theorem fr_D_120 : ev_F0 "ThreeLinkPairModel" 120 8 38 := fk_D_120.r
theorem fk_D_123 : ev_F "ThreeLinkPairModel" 123 8 39 true := ⟨("ThreeLinkPairModel", nm_T8, 51), "ThreeLinkPairModel", rfl, by decide, ck_8, sg_3_11 _ (List.mem_of_getElem? (i := 7) rfl), Or.inl rfl, rfl, fun _ => rfl⟩
theorem fr_D_123 : ev_F0 "ThreeLinkPairModel" 123 8 39 := fk_D_123.r
theorem fk_D_126 : ev_F "ThreeLinkPairModel" 126 8 40 true := ⟨("ThreeLinkPairModel", nm_T8, 51), "ThreeLinkPairModel", rfl, by decide, ck_8, sg_3_11 _ (List.mem_of_getElem? (i := 8) rfl), Or.inl rfl, rfl, fun _ => rfl⟩
theorem fr_D_126 : ev_F0 "ThreeLinkPairModel" 126 8 40 := fk_D_126.r
theorem fk_D_129 : ev_F "ThreeLinkPairModel" 129 8 41 true := ⟨("ThreeLinkPairModel", nm_T8, 51), "ThreeLinkPairModel", rfl, by decide, ck_8, sg_3_11 _ (List.mem_of_getElem? (i := 9) rfl), Or.inl rfl, rfl, fun _ => rfl⟩
theorem fr_D_129 : ev_F0 "ThreeLinkPairModel" 129 8 41 := fk_D_129.r
theorem fk_D_132 : ev_F "ThreeLinkPairModel" 132 8 42 true := ⟨("ThreeLinkPairModel", nm_T8, 51), "ThreeLinkPairModel", rfl, by decide, ck_8, sg_3_11 _ (List.mem_of_getElem? (i := 10) rfl), Or.inl rfl, rfl, fun _ => rfl⟩
theorem fr_D_132 : ev_F0 "ThreeLinkPairModel" 132 8 42 := fk_D_132.r
theorem fk_D_135 : ev_F "ThreeLinkPairModel" 135 8 43 true := ⟨("ThreeLinkPairModel", nm_T8, 51), "ThreeLinkPairModel", rfl, by decide, ck_8, sg_3_11 _ (List.mem_of_getElem? (i := 11) rfl), Or.inl rfl, rfl, fun _ => rfl⟩
theorem fr_D_135 : ev_F0 "ThreeLinkPairModel" 135 8 43 := fk_D_135.r
theorem fk_D_138 : ev_F "ThreeLinkPairModel" 138 8 44 true := ⟨("ThreeLinkPairModel", nm_T8, 51), "ThreeLinkPairModel", rfl, by decide, ck_8, sg_3_11 _ (List.mem_of_getElem? (i := 12) rfl), Or.inl rfl, rfl, fun _ => rfl⟩
theorem fr_D_138 : ev_F0 "ThreeLinkPairModel" 138 8 44 := fk_D_138.r
theorem fk_D_141 : ev_F "ThreeLinkPairModel" 141 8 45 true := ⟨("ThreeLinkPairModel", nm_T8, 51), "ThreeLinkPairModel", rfl, by decide, ck_8, sg_3_11 _ (List.mem_of_getElem? (i := 13) rfl), Or.inl rfl, rfl, fun _ => rfl⟩
theorem fr_D_141 : ev_F0 "ThreeLinkPairModel" 141 8 45 := fk_D_141.r
theorem fk_D_144 : ev_F "ThreeLinkPairModel" 144 8 46 true := ⟨("ThreeLinkPairModel", nm_T8, 51), "ThreeLinkPairModel", rfl, by decide, ck_8, sg_3_11 _ (List.mem_of_getElem? (i := 14) rfl), Or.inl rfl, rfl, fun _ => rfl⟩
theorem fr_D_144 : ev_F0 "ThreeLinkPairModel" 144 8 46 := fk_D_144.r
theorem fk_D_147 : ev_F "ThreeLinkPairModel" 147 8 47 true := ⟨("ThreeLinkPairModel", nm_T8, 51), "ThreeLinkPairModel", rfl, by decide, ck_8, sg_3_11 _ (List.mem_of_getElem? (i := 15) rfl), Or.inl rfl, rfl, fun _ => rfl⟩
theorem fr_D_147 : ev_F0 "ThreeLinkPairModel" 147 8 47 := fk_D_147.r
theorem fk_D_150 : ev_F "ThreeLinkPairModel" 150 8 48 true := ⟨("ThreeLinkPairModel", nm_T8, 51), "ThreeLinkPairModel", rfl, by decide, ck_8, sg_3_12 _ (List.mem_of_getElem? (i := 0) rfl), Or.inl rfl, rfl, fun _ => rfl⟩
theorem fr_D_150 : ev_F0 "ThreeLinkPairModel" 150 8 48 := fk_D_150.r
theorem fk_D_200 : ev_F "ThreeLinkPairModel" 200 8 49 false := ⟨("ThreeLinkPairModel", nm_T8, 51), "ThreeLinkPairModel", rfl, by decide, ck_8, sg_3_12 _ (List.mem_of_getElem? (i := 1) rfl), Or.inl rfl, rfl, fun h => by cases h⟩
theorem fr_D_200 : ev_F0 "ThreeLinkPairModel" 200 8 49 := fk_D_200.r
theorem fk_D_233 : ev_F "ThreeLinkPairModel" 233 8 50 false := ⟨("ThreeLinkPairModel", nm_T8, 51), "ThreeLinkPairModel", rfl, by decide, ck_8, sg_3_12 _ (List.mem_of_getElem? (i := 2) rfl), Or.inl rfl, rfl, fun h => by cases h⟩
theorem fr_D_233 : ev_F0 "ThreeLinkPairModel" 233 8 50 := fk_D_233.r
theorem kl_W_8 : Cond.classLink "ThreeLinkPairLaw" 8 "ThreeLinkPair" ∈ lw_tbl := sg_0_1 _ (List.mem_of_getElem? (i := 9) rfl)
theorem kl_P_9 : Cond.classLink "ThreeLinkPair" 9 "ThreeLinkPair$End" ∈ lw_tbl := sg_0_2 _ (List.mem_of_getElem? (i := 1) rfl)
theorem kl_E_9 : Cond.classLink "ThreeLinkPair$End" 9 "ThreeLinkPair$Side" ∈ lw_tbl := sg_0_2 _ (List.mem_of_getElem? (i := 8) rfl)
theorem kl_E_17 : Cond.classLink "ThreeLinkPair$End" 17 "ThreeLinkPair$Changeover" ∈ lw_tbl := sg_0_2 _ (List.mem_of_getElem? (i := 10) rfl)
theorem kl_S_61 : Cond.classLink "ThreeLinkPair$Side" 61 "java/util/ArrayList" ∈ lw_tbl := sg_0_3 _ (List.mem_of_getElem? (i := 1) rfl)
theorem kl_S_71 : Cond.classLink "ThreeLinkPair$Side" 71 "ThreeLinkPair$Memory" ∈ lw_tbl := sg_0_4 _ (List.mem_of_getElem? (i := 11) rfl)
theorem kl_S_78 : Cond.classLink "ThreeLinkPair$Side" 78 "ThreeLinkPair$Unit" ∈ lw_tbl := sg_0_5 _ (List.mem_of_getElem? (i := 12) rfl)
theorem kl_C_40 : Cond.classLink "ThreeLinkPair$Changeover" 40 "java/util/ArrayList" ∈ lw_tbl := sg_0_13 _ (List.mem_of_getElem? (i := 14) rfl)
theorem kl_E_32 : Cond.classLink "ThreeLinkPair$End" 32 "java/util/ArrayList" ∈ lw_tbl := sg_1_1 _ (List.mem_of_getElem? (i := 9) rfl)
theorem kl_P_16 : Cond.classLink "ThreeLinkPair" 16 "ThreeLinkPair$Fault" ∈ lw_tbl := sg_1_3 _ (List.mem_of_getElem? (i := 7) rfl)
theorem kl_C_66 : Cond.classLink "ThreeLinkPair$Changeover" 66 "ThreeLinkPair$Message" ∈ lw_tbl := sg_1_8 _ (List.mem_of_getElem? (i := 6) rfl)
theorem kl_AR_110 : Cond.classLink "java/util/Arrays" 110 "[Ljava/lang/Object;" ∈ lw_tbl := sg_1_11 _ (List.mem_of_getElem? (i := 8) rfl)
theorem kl_AR_2 : Cond.classLink "java/util/Arrays" 2 "java/lang/Object" ∈ lw_tbl := sg_1_11 _ (List.mem_of_getElem? (i := 10) rfl)
theorem kl_AL_7 : Cond.classLink "java/util/ArrayList" 7 "java/lang/Object" ∈ lw_tbl := sg_1_12 _ (List.mem_of_getElem? (i := 2) rfl)
theorem kl_E_139 : Cond.classLink "ThreeLinkPair$End" 139 "ThreeLinkPair$Message" ∈ lw_tbl := sg_2_0 _ (List.mem_of_getElem? (i := 14) rfl)
theorem kl_S_107 : Cond.classLink "ThreeLinkPair$Side" 107 "ThreeLinkPair$Message" ∈ lw_tbl := sg_2_8 _ (List.mem_of_getElem? (i := 12) rfl)
theorem kl_W_13 : Cond.classLink "ThreeLinkPairLaw" 13 "java/lang/IndexOutOfBoundsException" ∈ lw_tbl := sg_2_9 _ (List.mem_of_getElem? (i := 6) rfl)
theorem kl_P_125 : Cond.classLink "ThreeLinkPair" 125 "java/lang/IndexOutOfBoundsException" ∈ lw_tbl := sg_2_10 _ (List.mem_of_getElem? (i := 1) rfl)
theorem kl_W_22 : Cond.classLink "ThreeLinkPairLaw" 22 "java/lang/IllegalArgumentException" ∈ lw_tbl := sg_3_0 _ (List.mem_of_getElem? (i := 6) rfl)
theorem kl_P_44 : Cond.classLink "ThreeLinkPair" 44 "java/lang/IllegalArgumentException" ∈ lw_tbl := sg_3_0 _ (List.mem_of_getElem? (i := 11) rfl)
theorem kl_W_53 : Cond.classLink "ThreeLinkPairLaw" 53 "java/util/NoSuchElementException" ∈ lw_tbl := sg_3_6 _ (List.mem_of_getElem? (i := 3) rfl)
theorem kl_P_160 : Cond.classLink "ThreeLinkPair" 160 "java/util/NoSuchElementException" ∈ lw_tbl := sg_3_6 _ (List.mem_of_getElem? (i := 8) rfl)
theorem kl_P_169 : Cond.classLink "ThreeLinkPair" 169 "ThreeLinkPair$Message" ∈ lw_tbl := sg_3_7 _ (List.mem_of_getElem? (i := 8) rfl)
theorem kl_W_56 : Cond.classLink "ThreeLinkPairLaw" 56 "ThreeLinkPairModel" ∈ lw_tbl := sg_3_7 _ (List.mem_of_getElem? (i := 10) rfl)
theorem ao_E : Cond.arrayOver (.object "ThreeLinkPair$End") ∈ lw_tbl := sg_0_2 _ (List.mem_of_getElem? (i := 2) rfl)
theorem ao_S : Cond.arrayOver (.object "ThreeLinkPair$Side") ∈ lw_tbl := sg_0_2 _ (List.mem_of_getElem? (i := 9) rfl)
theorem ao_C : Cond.arrayOver (.object "ThreeLinkPair$Changeover") ∈ lw_tbl := sg_0_2 _ (List.mem_of_getElem? (i := 11) rfl)
theorem ao_F : Cond.arrayOver (.object "ThreeLinkPair$Fault") ∈ lw_tbl := sg_1_3 _ (List.mem_of_getElem? (i := 8) rfl)
theorem ao_OO : Cond.arrayOver (.object "java/lang/Object") ∈ lw_tbl := sg_1_11 _ (List.mem_of_getElem? (i := 9) rfl)
theorem ac_int : Cond.arrayClass .int ∈ lw_tbl := sg_0_5 _ (List.mem_of_getElem? (i := 11) rfl)
theorem ac_byte : Cond.arrayClass .byte ∈ lw_tbl := sg_2_14 _ (List.mem_of_getElem? (i := 4) rfl)
theorem ac_boolean : Cond.arrayClass .boolean ∈ lw_tbl := sg_4_3 _ (List.mem_of_getElem? (i := 10) rfl)
theorem ac_long : Cond.arrayClass .long ∈ lw_tbl := sg_4_14 _ (List.mem_of_getElem? (i := 1) rfl)
theorem cn_P_177 : Cond.constantLong "ThreeLinkPair" 177 (4294967295) ∈ lw_tbl := sg_3_7 _ (List.mem_of_getElem? (i := 9) rfl)
theorem cn_D_271 : Cond.constantLong "ThreeLinkPairModel" 271 (4294967295) ∈ lw_tbl := sg_4_13 _ (List.mem_of_getElem? (i := 12) rfl)
theorem cn_AS_200 : Cond.constant "jdk/internal/util/ArraysSupport" 200 (2147483639) ∈ lw_tbl := sg_1_9 _ (List.mem_of_getElem? (i := 13) rfl)
theorem ca_IO_IO : Cond.castable "java/lang/IndexOutOfBoundsException" "java/lang/IndexOutOfBoundsException" ∈ lw_tbl := sg_2_10 _ (List.mem_of_getElem? (i := 3) rfl)
theorem ca_IA_IA : Cond.castable "java/lang/IllegalArgumentException" "java/lang/IllegalArgumentException" ∈ lw_tbl := sg_3_0 _ (List.mem_of_getElem? (i := 13) rfl)
theorem ca_NS_NS : Cond.castable "java/util/NoSuchElementException" "java/util/NoSuchElementException" ∈ lw_tbl := sg_3_6 _ (List.mem_of_getElem? (i := 10) rfl)
theorem ca_G_G : Cond.castable "ThreeLinkPair$Message" "ThreeLinkPair$Message" ∈ lw_tbl := sg_4_14 _ (List.mem_of_getElem? (i := 3) rfl)
theorem ca_P_OO : Cond.castable "ThreeLinkPair" "java/lang/Object" ∈ lw_tbl := sg_4_14 _ (List.mem_of_getElem? (i := 7) rfl)
theorem ca_E_OO : Cond.castable "ThreeLinkPair$End" "java/lang/Object" ∈ lw_tbl := sg_4_14 _ (List.mem_of_getElem? (i := 8) rfl)
theorem ca_S_OO : Cond.castable "ThreeLinkPair$Side" "java/lang/Object" ∈ lw_tbl := sg_4_14 _ (List.mem_of_getElem? (i := 9) rfl)
theorem ca_Y_OO : Cond.castable "ThreeLinkPair$Memory" "java/lang/Object" ∈ lw_tbl := sg_4_14 _ (List.mem_of_getElem? (i := 10) rfl)
theorem ca_N_OO : Cond.castable "ThreeLinkPair$Unit" "java/lang/Object" ∈ lw_tbl := sg_4_14 _ (List.mem_of_getElem? (i := 11) rfl)
theorem ca_C_OO : Cond.castable "ThreeLinkPair$Changeover" "java/lang/Object" ∈ lw_tbl := sg_4_14 _ (List.mem_of_getElem? (i := 12) rfl)
theorem ca_F_OO : Cond.castable "ThreeLinkPair$Fault" "java/lang/Object" ∈ lw_tbl := sg_4_14 _ (List.mem_of_getElem? (i := 13) rfl)
theorem ca_D_OO : Cond.castable "ThreeLinkPairModel" "java/lang/Object" ∈ lw_tbl := sg_4_14 _ (List.mem_of_getElem? (i := 14) rfl)
theorem ca_G_OO : Cond.castable "ThreeLinkPair$Message" "java/lang/Object" ∈ lw_tbl := sg_4_14 _ (List.mem_of_getElem? (i := 15) rfl)
theorem ca_X1200_OO : Cond.castable "java/lang/String" "java/lang/Object" ∈ lw_tbl := sg_5_0 _ (List.mem_of_getElem? (i := 0) rfl)
theorem ms_P_init : ev_ms mm_P_init 0 := ⟨sg_0_1 _ (List.mem_of_getElem? (i := 13) rfl), by decide +kernel, by decide +kernel, by decide +kernel⟩
theorem ms_E_init : ev_ms mm_E_init 0 := ⟨sg_0_2 _ (List.mem_of_getElem? (i := 6) rfl), by decide +kernel, by decide +kernel, by decide +kernel⟩
theorem ms_S_init : ev_ms mm_S_init 0 := ⟨sg_0_2 _ (List.mem_of_getElem? (i := 15) rfl), by decide +kernel, by decide +kernel, by decide +kernel⟩
theorem ms_AL_init : ev_ms mm_AL_init 0 := ⟨sg_0_3 _ (List.mem_of_getElem? (i := 5) rfl), by decide +kernel, by decide +kernel, by decide +kernel⟩
theorem ms_AB_init : ev_ms mm_AB_init 0 := ⟨sg_0_3 _ (List.mem_of_getElem? (i := 8) rfl), by decide +kernel, by decide +kernel, by decide +kernel⟩
theorem ms_AC_init : ev_ms mm_AC_init 0 := ⟨sg_0_3 _ (List.mem_of_getElem? (i := 11) rfl), by decide +kernel, by decide +kernel, by decide +kernel⟩
theorem ms_Y_init : ev_ms mm_Y_init 0 := ⟨sg_0_4 _ (List.mem_of_getElem? (i := 15) rfl), by decide +kernel, by decide +kernel, by decide +kernel⟩
theorem ms_AR_fill : ev_ms mm_AR_fill 2 := ⟨sg_0_5 _ (List.mem_of_getElem? (i := 3) rfl), by decide +kernel, by decide +kernel, by decide +kernel⟩
theorem ms_N_init : ev_ms mm_N_init 0 := ⟨sg_0_6 _ (List.mem_of_getElem? (i := 0) rfl), by decide +kernel, by decide +kernel, by decide +kernel⟩
theorem ms_C_init : ev_ms mm_C_init 0 := ⟨sg_0_13 _ (List.mem_of_getElem? (i := 12) rfl), by decide +kernel, by decide +kernel, by decide +kernel⟩
theorem ms_F_init : ev_ms mm_F_init 0 := ⟨sg_1_3 _ (List.mem_of_getElem? (i := 12) rfl), by decide +kernel, by decide +kernel, by decide +kernel⟩
theorem ms_P_tick : ev_ms mm_P_tick 0 := ⟨sg_1_5 _ (List.mem_of_getElem? (i := 1) rfl), by decide +kernel, by decide +kernel, by decide +kernel⟩
theorem ms_P_arrive : ev_ms mm_P_arrive 2 := ⟨sg_1_5 _ (List.mem_of_getElem? (i := 5) rfl), by decide +kernel, by decide +kernel, by decide +kernel⟩
theorem ms_P_faultPlace : ev_ms mm_P_faultPlace 2 := ⟨sg_1_5 _ (List.mem_of_getElem? (i := 8) rfl), by decide +kernel, by decide +kernel, by decide +kernel⟩
theorem ms_E_damagedComes : ev_ms mm_E_damagedComes 1 := ⟨sg_1_5 _ (List.mem_of_getElem? (i := 12) rfl), by decide +kernel, by decide +kernel, by decide +kernel⟩
theorem ms_S_failsByDamage : ev_ms mm_S_failsByDamage 0 := ⟨sg_1_6 _ (List.mem_of_getElem? (i := 0) rfl), by decide +kernel, by decide +kernel, by decide +kernel⟩
theorem ms_E_fall : ev_ms mm_E_fall 1 := ⟨sg_1_6 _ (List.mem_of_getElem? (i := 4) rfl), by decide +kernel, by decide +kernel, by decide +kernel⟩
theorem ms_S_comeTo : ev_ms mm_S_comeTo 1 := ⟨sg_1_6 _ (List.mem_of_getElem? (i := 8) rfl), by decide +kernel, by decide +kernel, by decide +kernel⟩
theorem ms_Y_keep : ev_ms mm_Y_keep 2 := ⟨sg_1_6 _ (List.mem_of_getElem? (i := 12) rfl), by decide +kernel, by decide +kernel, by decide +kernel⟩
theorem ms_MA_floorMod : ev_ms mm_MA_floorMod 2 := ⟨sg_1_6 _ (List.mem_of_getElem? (i := 15) rfl), by decide +kernel, by decide +kernel, by decide +kernel⟩
theorem ms_C_begin : ev_ms mm_C_begin 1 := ⟨sg_1_7 _ (List.mem_of_getElem? (i := 3) rfl), by decide +kernel, by decide +kernel, by decide +kernel⟩
theorem ms_AL_size : ev_ms mm_AL_size 0 := ⟨sg_1_7 _ (List.mem_of_getElem? (i := 7) rfl), by decide +kernel, by decide +kernel, by decide +kernel⟩
theorem ms_AL_get : ev_ms mm_AL_get 1 := ⟨sg_1_7 _ (List.mem_of_getElem? (i := 11) rfl), by decide +kernel, by decide +kernel, by decide +kernel⟩
theorem ms_OB_checkIndex : ev_ms mm_OB_checkIndex 2 := ⟨sg_1_7 _ (List.mem_of_getElem? (i := 14) rfl), by decide +kernel, by decide +kernel, by decide +kernel⟩
theorem ms_PR_checkIndex : ev_ms mm_PR_checkIndex 3 := ⟨sg_1_8 _ (List.mem_of_getElem? (i := 1) rfl), by decide +kernel, by decide +kernel, by decide +kernel⟩
theorem ms_AL_elementData : ev_ms mm_AL_elementData 1 := ⟨sg_1_8 _ (List.mem_of_getElem? (i := 5) rfl), by decide +kernel, by decide +kernel, by decide +kernel⟩
theorem ms_AL_add1 : ev_ms mm_AL_add1 1 := ⟨sg_1_8 _ (List.mem_of_getElem? (i := 10) rfl), by decide +kernel, by decide +kernel, by decide +kernel⟩
theorem ms_AL_add3 : ev_ms mm_AL_add3 3 := ⟨sg_1_8 _ (List.mem_of_getElem? (i := 14) rfl), by decide +kernel, by decide +kernel, by decide +kernel⟩
theorem ms_AL_grow0 : ev_ms mm_AL_grow0 0 := ⟨sg_1_9 _ (List.mem_of_getElem? (i := 2) rfl), by decide +kernel, by decide +kernel, by decide +kernel⟩
theorem ms_AL_grow1 : ev_ms mm_AL_grow1 1 := ⟨sg_1_9 _ (List.mem_of_getElem? (i := 6) rfl), by decide +kernel, by decide +kernel, by decide +kernel⟩
theorem ms_AS_newLength : ev_ms mm_AS_newLength 3 := ⟨sg_1_9 _ (List.mem_of_getElem? (i := 9) rfl), by decide +kernel, by decide +kernel, by decide +kernel⟩
theorem ms_MA_max : ev_ms mm_MA_max 2 := ⟨sg_1_9 _ (List.mem_of_getElem? (i := 12) rfl), by decide +kernel, by decide +kernel, by decide +kernel⟩
theorem ms_AS_hugeLength : ev_ms mm_AS_hugeLength 2 := ⟨sg_1_10 _ (List.mem_of_getElem? (i := 0) rfl), by decide +kernel, by decide +kernel, by decide +kernel⟩
theorem ms_AR_copyOf2 : ev_ms mm_AR_copyOf2 2 := ⟨sg_1_10 _ (List.mem_of_getElem? (i := 3) rfl), by decide +kernel, by decide +kernel, by decide +kernel⟩
theorem ms_AR_copyOf3 : ev_ms mm_AR_copyOf3 3 := ⟨sg_1_11 _ (List.mem_of_getElem? (i := 7) rfl), by decide +kernel, by decide +kernel, by decide +kernel⟩
theorem ms_MA_min : ev_ms mm_MA_min 2 := ⟨sg_1_11 _ (List.mem_of_getElem? (i := 13) rfl), by decide +kernel, by decide +kernel, by decide +kernel⟩
theorem ms_S_clearRows : ev_ms mm_S_clearRows 0 := ⟨sg_1_12 _ (List.mem_of_getElem? (i := 6) rfl), by decide +kernel, by decide +kernel, by decide +kernel⟩
theorem ms_AL_clear : ev_ms mm_AL_clear 0 := ⟨sg_1_12 _ (List.mem_of_getElem? (i := 10) rfl), by decide +kernel, by decide +kernel, by decide +kernel⟩
theorem ms_E_numberedComes : ev_ms mm_E_numberedComes 2 := ⟨sg_1_12 _ (List.mem_of_getElem? (i := 14) rfl), by decide +kernel, by decide +kernel, by decide +kernel⟩
theorem ms_S_countGood : ev_ms mm_S_countGood 0 := ⟨sg_1_13 _ (List.mem_of_getElem? (i := 2) rfl), by decide +kernel, by decide +kernel, by decide +kernel⟩
theorem ms_S_answered : ev_ms mm_S_answered 1 := ⟨sg_1_13 _ (List.mem_of_getElem? (i := 6) rfl), by decide +kernel, by decide +kernel, by decide +kernel⟩
theorem ms_P_dropFirst : ev_ms mm_P_dropFirst 2 := ⟨sg_1_13 _ (List.mem_of_getElem? (i := 11) rfl), by decide +kernel, by decide +kernel, by decide +kernel⟩
theorem ms_AL_isEmpty : ev_ms mm_AL_isEmpty 0 := ⟨sg_1_13 _ (List.mem_of_getElem? (i := 15) rfl), by decide +kernel, by decide +kernel, by decide +kernel⟩
theorem ms_AL_remove : ev_ms mm_AL_remove 1 := ⟨sg_1_14 _ (List.mem_of_getElem? (i := 3) rfl), by decide +kernel, by decide +kernel, by decide +kernel⟩
theorem ms_AL_fastRemove : ev_ms mm_AL_fastRemove 2 := ⟨sg_1_14 _ (List.mem_of_getElem? (i := 7) rfl), by decide +kernel, by decide +kernel, by decide +kernel⟩
theorem ms_S_followBackBit : ev_ms mm_S_followBackBit 1 := ⟨sg_1_14 _ (List.mem_of_getElem? (i := 13) rfl), by decide +kernel, by decide +kernel, by decide +kernel⟩
theorem ms_S_nextIn : ev_ms mm_S_nextIn 1 := ⟨sg_2_0 _ (List.mem_of_getElem? (i := 1) rfl), by decide +kernel, by decide +kernel, by decide +kernel⟩
theorem ms_E_takeIn : ev_ms mm_E_takeIn 1 := ⟨sg_2_0 _ (List.mem_of_getElem? (i := 5) rfl), by decide +kernel, by decide +kernel, by decide +kernel⟩
theorem ms_E_takeOrder : ev_ms mm_E_takeOrder 1 := ⟨sg_2_0 _ (List.mem_of_getElem? (i := 9) rfl), by decide +kernel, by decide +kernel, by decide +kernel⟩
theorem ms_Y_backFor : ev_ms mm_Y_backFor 1 := ⟨sg_2_0 _ (List.mem_of_getElem? (i := 13) rfl), by decide +kernel, by decide +kernel, by decide +kernel⟩
theorem ms_G_init : ev_ms mm_G_init 4 := ⟨sg_2_1 _ (List.mem_of_getElem? (i := 2) rfl), by decide +kernel, by decide +kernel, by decide +kernel⟩
theorem ms_E_say : ev_ms mm_E_say 1 := ⟨sg_2_2 _ (List.mem_of_getElem? (i := 11) rfl), by decide +kernel, by decide +kernel, by decide +kernel⟩
theorem ms_E_firstServing : ev_ms mm_E_firstServing 0 := ⟨sg_2_2 _ (List.mem_of_getElem? (i := 15) rfl), by decide +kernel, by decide +kernel, by decide +kernel⟩
theorem ms_C_settle : ev_ms mm_C_settle 1 := ⟨sg_2_3 _ (List.mem_of_getElem? (i := 4) rfl), by decide +kernel, by decide +kernel, by decide +kernel⟩
theorem ms_E_takeAnswer : ev_ms mm_E_takeAnswer 1 := ⟨sg_2_3 _ (List.mem_of_getElem? (i := 10) rfl), by decide +kernel, by decide +kernel, by decide +kernel⟩
theorem ms_E_statusComes : ev_ms mm_E_statusComes 2 := ⟨sg_2_3 _ (List.mem_of_getElem? (i := 14) rfl), by decide +kernel, by decide +kernel, by decide +kernel⟩
theorem ms_E_seekComes : ev_ms mm_E_seekComes 1 := ⟨sg_2_4 _ (List.mem_of_getElem? (i := 2) rfl), by decide +kernel, by decide +kernel, by decide +kernel⟩
theorem ms_E_proveComes : ev_ms mm_E_proveComes 1 := ⟨sg_2_4 _ (List.mem_of_getElem? (i := 6) rfl), by decide +kernel, by decide +kernel, by decide +kernel⟩
theorem ms_E_outComes : ev_ms mm_E_outComes 1 := ⟨sg_2_4 _ (List.mem_of_getElem? (i := 10) rfl), by decide +kernel, by decide +kernel, by decide +kernel⟩
theorem ms_E_age : ev_ms mm_E_age 1 := ⟨sg_2_4 _ (List.mem_of_getElem? (i := 14) rfl), by decide +kernel, by decide +kernel, by decide +kernel⟩
theorem ms_S_failsByAge : ev_ms mm_S_failsByAge 0 := ⟨sg_2_5 _ (List.mem_of_getElem? (i := 2) rfl), by decide +kernel, by decide +kernel, by decide +kernel⟩
theorem ms_E_changeOver : ev_ms mm_E_changeOver 1 := ⟨sg_2_5 _ (List.mem_of_getElem? (i := 8) rfl), by decide +kernel, by decide +kernel, by decide +kernel⟩
theorem ms_C_giveUp : ev_ms mm_C_giveUp 0 := ⟨sg_2_5 _ (List.mem_of_getElem? (i := 12) rfl), by decide +kernel, by decide +kernel, by decide +kernel⟩
theorem ms_G_isOfClass : ev_ms mm_G_isOfClass 0 := ⟨sg_2_6 _ (List.mem_of_getElem? (i := 0) rfl), by decide +kernel, by decide +kernel, by decide +kernel⟩
theorem ms_E_someOpenBeside : ev_ms mm_E_someOpenBeside 1 := ⟨sg_2_6 _ (List.mem_of_getElem? (i := 4) rfl), by decide +kernel, by decide +kernel, by decide +kernel⟩
theorem ms_E_isOpen : ev_ms mm_E_isOpen 1 := ⟨sg_2_6 _ (List.mem_of_getElem? (i := 8) rfl), by decide +kernel, by decide +kernel, by decide +kernel⟩
theorem ms_E_finish : ev_ms mm_E_finish 1 := ⟨sg_2_6 _ (List.mem_of_getElem? (i := 12) rfl), by decide +kernel, by decide +kernel, by decide +kernel⟩
theorem ms_E_passOn : ev_ms mm_E_passOn 1 := ⟨sg_2_7 _ (List.mem_of_getElem? (i := 3) rfl), by decide +kernel, by decide +kernel, by decide +kernel⟩
theorem ms_E_moveClass : ev_ms mm_E_moveClass 1 := ⟨sg_2_7 _ (List.mem_of_getElem? (i := 8) rfl), by decide +kernel, by decide +kernel, by decide +kernel⟩
theorem ms_E_choose : ev_ms mm_E_choose 1 := ⟨sg_2_7 _ (List.mem_of_getElem? (i := 12) rfl), by decide +kernel, by decide +kernel, by decide +kernel⟩
theorem ms_E_letGoHeld : ev_ms mm_E_letGoHeld 1 := ⟨sg_2_8 _ (List.mem_of_getElem? (i := 1) rfl), by decide +kernel, by decide +kernel, by decide +kernel⟩
theorem ms_S_send : ev_ms mm_S_send 0 := ⟨sg_2_8 _ (List.mem_of_getElem? (i := 6) rfl), by decide +kernel, by decide +kernel, by decide +kernel⟩
theorem ms_S_sendNumbered : ev_ms mm_S_sendNumbered 0 := ⟨sg_2_8 _ (List.mem_of_getElem? (i := 10) rfl), by decide +kernel, by decide +kernel, by decide +kernel⟩
theorem ms_P_lost : ev_ms mm_P_lost 0 := ⟨sg_2_9 _ (List.mem_of_getElem? (i := 2) rfl), by decide +kernel, by decide +kernel, by decide +kernel⟩
theorem ms_P_start : ev_ms mm_P_start 2 := ⟨sg_2_9 _ (List.mem_of_getElem? (i := 10) rfl), by decide +kernel, by decide +kernel, by decide +kernel⟩
theorem ms_P_checkSide : ev_ms mm_P_checkSide 2 := ⟨sg_2_9 _ (List.mem_of_getElem? (i := 13) rfl), by decide +kernel, by decide +kernel, by decide +kernel⟩
theorem ms_P_checkEnd : ev_ms mm_P_checkEnd 1 := ⟨sg_2_10 _ (List.mem_of_getElem? (i := 0) rfl), by decide +kernel, by decide +kernel, by decide +kernel⟩
theorem ms_TH_init0 : ev_ms mm_TH_init0 0 := ⟨sg_2_11 _ (List.mem_of_getElem? (i := 9) rfl), by decide +kernel, by decide +kernel, by decide +kernel⟩
theorem ms_IO_init : ev_ms mm_IO_init 1 := ⟨sg_2_12 _ (List.mem_of_getElem? (i := 13) rfl), by decide +kernel, by decide +kernel, by decide +kernel⟩
theorem ms_RT_init : ev_ms mm_RT_init 1 := ⟨sg_2_13 _ (List.mem_of_getElem? (i := 0) rfl), by decide +kernel, by decide +kernel, by decide +kernel⟩
theorem ms_EX_init : ev_ms mm_EX_init 1 := ⟨sg_2_13 _ (List.mem_of_getElem? (i := 3) rfl), by decide +kernel, by decide +kernel, by decide +kernel⟩
theorem ms_TH_init1 : ev_ms mm_TH_init1 1 := ⟨sg_2_13 _ (List.mem_of_getElem? (i := 6) rfl), by decide +kernel, by decide +kernel, by decide +kernel⟩
theorem ms_S_begin : ev_ms mm_S_begin 0 := ⟨sg_2_14 _ (List.mem_of_getElem? (i := 9) rfl), by decide +kernel, by decide +kernel, by decide +kernel⟩
theorem ms_P_stop : ev_ms mm_P_stop 2 := ⟨sg_3_0 _ (List.mem_of_getElem? (i := 1) rfl), by decide +kernel, by decide +kernel, by decide +kernel⟩
theorem ms_P_fault : ev_ms mm_P_fault 4 := ⟨sg_3_0 _ (List.mem_of_getElem? (i := 10) rfl), by decide +kernel, by decide +kernel, by decide +kernel⟩
theorem ms_IA_init : ev_ms mm_IA_init 1 := ⟨sg_3_1 _ (List.mem_of_getElem? (i := 7) rfl), by decide +kernel, by decide +kernel, by decide +kernel⟩
theorem ms_P_submit : ev_ms mm_P_submit 3 := ⟨sg_3_2 _ (List.mem_of_getElem? (i := 1) rfl), by decide +kernel, by decide +kernel, by decide +kernel⟩
theorem ms_P_checkClass : ev_ms mm_P_checkClass 2 := ⟨sg_3_2 _ (List.mem_of_getElem? (i := 4) rfl), by decide +kernel, by decide +kernel, by decide +kernel⟩
theorem ms_E_accept : ev_ms mm_E_accept 2 := ⟨sg_3_2 _ (List.mem_of_getElem? (i := 9) rfl), by decide +kernel, by decide +kernel, by decide +kernel⟩
theorem ms_E_addBelow : ev_ms mm_E_addBelow 4 := ⟨sg_3_2 _ (List.mem_of_getElem? (i := 12) rfl), by decide +kernel, by decide +kernel, by decide +kernel⟩
theorem ms_S_carries : ev_ms mm_S_carries 1 := ⟨sg_3_3 _ (List.mem_of_getElem? (i := 0) rfl), by decide +kernel, by decide +kernel, by decide +kernel⟩
theorem ms_S_holds : ev_ms mm_S_holds 2 := ⟨sg_3_3 _ (List.mem_of_getElem? (i := 3) rfl), by decide +kernel, by decide +kernel, by decide +kernel⟩
theorem ms_P_state : ev_ms mm_P_state 2 := ⟨sg_3_3 _ (List.mem_of_getElem? (i := 10) rfl), by decide +kernel, by decide +kernel, by decide +kernel⟩
theorem ms_P_of : ev_ms mm_P_of 3 := ⟨sg_3_4 _ (List.mem_of_getElem? (i := 1) rfl), by decide +kernel, by decide +kernel, by decide +kernel⟩
theorem ms_P_link : ev_ms mm_P_link 2 := ⟨sg_3_4 _ (List.mem_of_getElem? (i := 10) rfl), by decide +kernel, by decide +kernel, by decide +kernel⟩
theorem ms_P_changes : ev_ms mm_P_changes 2 := ⟨sg_3_5 _ (List.mem_of_getElem? (i := 1) rfl), by decide +kernel, by decide +kernel, by decide +kernel⟩
theorem ms_P_held : ev_ms mm_P_held 1 := ⟨sg_3_5 _ (List.mem_of_getElem? (i := 8) rfl), by decide +kernel, by decide +kernel, by decide +kernel⟩
theorem ms_P_inbox : ev_ms mm_P_inbox 1 := ⟨sg_3_5 _ (List.mem_of_getElem? (i := 15) rfl), by decide +kernel, by decide +kernel, by decide +kernel⟩
theorem ms_P_take : ev_ms mm_P_take 1 := ⟨sg_3_6 _ (List.mem_of_getElem? (i := 7) rfl), by decide +kernel, by decide +kernel, by decide +kernel⟩
theorem ms_NS_init : ev_ms mm_NS_init 1 := ⟨sg_3_7 _ (List.mem_of_getElem? (i := 4) rfl), by decide +kernel, by decide +kernel, by decide +kernel⟩
theorem ms_D_init : ev_ms mm_D_init 0 := ⟨sg_3_7 _ (List.mem_of_getElem? (i := 14) rfl), by decide +kernel, by decide +kernel, by decide +kernel⟩
theorem ms_D_begin : ev_ms mm_D_begin 1 := ⟨sg_3_8 _ (List.mem_of_getElem? (i := 3) rfl), by decide +kernel, by decide +kernel, by decide +kernel⟩
theorem ms_D_empty : ev_ms mm_D_empty 1 := ⟨sg_3_8 _ (List.mem_of_getElem? (i := 7) rfl), by decide +kernel, by decide +kernel, by decide +kernel⟩
theorem ms_D_shift : ev_ms mm_D_shift 1 := ⟨sg_3_8 _ (List.mem_of_getElem? (i := 11) rfl), by decide +kernel, by decide +kernel, by decide +kernel⟩
theorem ms_D_give : ev_ms mm_D_give 1 := ⟨sg_3_8 _ (List.mem_of_getElem? (i := 15) rfl), by decide +kernel, by decide +kernel, by decide +kernel⟩
theorem ms_D_thrown : ev_ms mm_D_thrown 0 := ⟨sg_4_3 _ (List.mem_of_getElem? (i := 14) rfl), by decide +kernel, by decide +kernel, by decide +kernel⟩
theorem ms_D_start : ev_ms mm_D_start 2 := ⟨sg_4_4 _ (List.mem_of_getElem? (i := 2) rfl), by decide +kernel, by decide +kernel, by decide +kernel⟩
theorem ms_D_isSide : ev_ms mm_D_isSide 2 := ⟨sg_4_4 _ (List.mem_of_getElem? (i := 5) rfl), by decide +kernel, by decide +kernel, by decide +kernel⟩
theorem ms_D_missing : ev_ms mm_D_missing 1 := ⟨sg_4_4 _ (List.mem_of_getElem? (i := 9) rfl), by decide +kernel, by decide +kernel, by decide +kernel⟩
theorem ms_D_come : ev_ms mm_D_come 2 := ⟨sg_4_4 _ (List.mem_of_getElem? (i := 13) rfl), by decide +kernel, by decide +kernel, by decide +kernel⟩
theorem ms_D_stop : ev_ms mm_D_stop 2 := ⟨sg_4_5 _ (List.mem_of_getElem? (i := 1) rfl), by decide +kernel, by decide +kernel, by decide +kernel⟩
theorem ms_D_fall : ev_ms mm_D_fall 1 := ⟨sg_4_5 _ (List.mem_of_getElem? (i := 5) rfl), by decide +kernel, by decide +kernel, by decide +kernel⟩
theorem ms_D_change : ev_ms mm_D_change 1 := ⟨sg_4_5 _ (List.mem_of_getElem? (i := 9) rfl), by decide +kernel, by decide +kernel, by decide +kernel⟩
theorem ms_D_put : ev_ms mm_D_put 2 := ⟨sg_4_5 _ (List.mem_of_getElem? (i := 13) rfl), by decide +kernel, by decide +kernel, by decide +kernel⟩
theorem ms_D_fault : ev_ms mm_D_fault 4 := ⟨sg_4_6 _ (List.mem_of_getElem? (i := 1) rfl), by decide +kernel, by decide +kernel, by decide +kernel⟩
theorem ms_D_tick : ev_ms mm_D_tick 0 := ⟨sg_4_6 _ (List.mem_of_getElem? (i := 5) rfl), by decide +kernel, by decide +kernel, by decide +kernel⟩
theorem ms_D_deliver : ev_ms mm_D_deliver 1 := ⟨sg_4_6 _ (List.mem_of_getElem? (i := 9) rfl), by decide +kernel, by decide +kernel, by decide +kernel⟩
theorem ms_D_damaged : ev_ms mm_D_damaged 1 := ⟨sg_4_6 _ (List.mem_of_getElem? (i := 13) rfl), by decide +kernel, by decide +kernel, by decide +kernel⟩
theorem ms_D_status : ev_ms mm_D_status 2 := ⟨sg_4_7 _ (List.mem_of_getElem? (i := 1) rfl), by decide +kernel, by decide +kernel, by decide +kernel⟩
theorem ms_D_served : ev_ms mm_D_served 2 := ⟨sg_4_7 _ (List.mem_of_getElem? (i := 5) rfl), by decide +kernel, by decide +kernel, by decide +kernel⟩
theorem ms_D_isTaken : ev_ms mm_D_isTaken 2 := ⟨sg_4_7 _ (List.mem_of_getElem? (i := 9) rfl), by decide +kernel, by decide +kernel, by decide +kernel⟩
theorem ms_D_takeOrder : ev_ms mm_D_takeOrder 4 := ⟨sg_4_7 _ (List.mem_of_getElem? (i := 13) rfl), by decide +kernel, by decide +kernel, by decide +kernel⟩
theorem ms_D_message : ev_ms mm_D_message 4 := ⟨sg_4_8 _ (List.mem_of_getElem? (i := 1) rfl), by decide +kernel, by decide +kernel, by decide +kernel⟩
theorem ms_D_say : ev_ms mm_D_say 2 := ⟨sg_4_8 _ (List.mem_of_getElem? (i := 5) rfl), by decide +kernel, by decide +kernel, by decide +kernel⟩
theorem ms_D_serving : ev_ms mm_D_serving 1 := ⟨sg_4_8 _ (List.mem_of_getElem? (i := 9) rfl), by decide +kernel, by decide +kernel, by decide +kernel⟩
theorem ms_D_settle : ev_ms mm_D_settle 2 := ⟨sg_4_8 _ (List.mem_of_getElem? (i := 13) rfl), by decide +kernel, by decide +kernel, by decide +kernel⟩
theorem ms_D_age : ev_ms mm_D_age 1 := ⟨sg_4_9 _ (List.mem_of_getElem? (i := 1) rfl), by decide +kernel, by decide +kernel, by decide +kernel⟩
theorem ms_D_tickChange : ev_ms mm_D_tickChange 1 := ⟨sg_4_9 _ (List.mem_of_getElem? (i := 5) rfl), by decide +kernel, by decide +kernel, by decide +kernel⟩
theorem ms_D_giveUp : ev_ms mm_D_giveUp 1 := ⟨sg_4_9 _ (List.mem_of_getElem? (i := 9) rfl), by decide +kernel, by decide +kernel, by decide +kernel⟩
theorem ms_D_chosen : ev_ms mm_D_chosen 2 := ⟨sg_4_9 _ (List.mem_of_getElem? (i := 13) rfl), by decide +kernel, by decide +kernel, by decide +kernel⟩
theorem ms_D_isOpen : ev_ms mm_D_isOpen 2 := ⟨sg_4_10 _ (List.mem_of_getElem? (i := 1) rfl), by decide +kernel, by decide +kernel, by decide +kernel⟩
theorem ms_D_end : ev_ms mm_D_end 1 := ⟨sg_4_10 _ (List.mem_of_getElem? (i := 5) rfl), by decide +kernel, by decide +kernel, by decide +kernel⟩
theorem ms_D_send : ev_ms mm_D_send 1 := ⟨sg_4_10 _ (List.mem_of_getElem? (i := 9) rfl), by decide +kernel, by decide +kernel, by decide +kernel⟩
theorem ms_D_at : ev_ms mm_D_at 2 := ⟨sg_4_10 _ (List.mem_of_getElem? (i := 13) rfl), by decide +kernel, by decide +kernel, by decide +kernel⟩
theorem ms_D_carry : ev_ms mm_D_carry 3 := ⟨sg_4_11 _ (List.mem_of_getElem? (i := 1) rfl), by decide +kernel, by decide +kernel, by decide +kernel⟩
theorem ms_D_submit : ev_ms mm_D_submit 3 := ⟨sg_4_11 _ (List.mem_of_getElem? (i := 5) rfl), by decide +kernel, by decide +kernel, by decide +kernel⟩
theorem ms_D_isClass : ev_ms mm_D_isClass 2 := ⟨sg_4_11 _ (List.mem_of_getElem? (i := 8) rfl), by decide +kernel, by decide +kernel, by decide +kernel⟩
theorem ms_D_hasClass : ev_ms mm_D_hasClass 2 := ⟨sg_4_11 _ (List.mem_of_getElem? (i := 12) rfl), by decide +kernel, by decide +kernel, by decide +kernel⟩
theorem ms_D_state : ev_ms mm_D_state 2 := ⟨sg_4_12 _ (List.mem_of_getElem? (i := 0) rfl), by decide +kernel, by decide +kernel, by decide +kernel⟩
theorem ms_D_of : ev_ms mm_D_of 3 := ⟨sg_4_12 _ (List.mem_of_getElem? (i := 4) rfl), by decide +kernel, by decide +kernel, by decide +kernel⟩
theorem ms_D_link : ev_ms mm_D_link 2 := ⟨sg_4_12 _ (List.mem_of_getElem? (i := 8) rfl), by decide +kernel, by decide +kernel, by decide +kernel⟩
theorem ms_D_changes : ev_ms mm_D_changes 2 := ⟨sg_4_12 _ (List.mem_of_getElem? (i := 12) rfl), by decide +kernel, by decide +kernel, by decide +kernel⟩
theorem ms_D_held : ev_ms mm_D_held 1 := ⟨sg_4_13 _ (List.mem_of_getElem? (i := 0) rfl), by decide +kernel, by decide +kernel, by decide +kernel⟩
theorem ms_D_isEnd : ev_ms mm_D_isEnd 1 := ⟨sg_4_13 _ (List.mem_of_getElem? (i := 3) rfl), by decide +kernel, by decide +kernel, by decide +kernel⟩
theorem ms_D_inbox : ev_ms mm_D_inbox 1 := ⟨sg_4_13 _ (List.mem_of_getElem? (i := 7) rfl), by decide +kernel, by decide +kernel, by decide +kernel⟩
theorem ms_D_take : ev_ms mm_D_take 1 := ⟨sg_4_13 _ (List.mem_of_getElem? (i := 11) rfl), by decide +kernel, by decide +kernel, by decide +kernel⟩
theorem ms_D_lost : ev_ms mm_D_lost 0 := ⟨sg_4_14 _ (List.mem_of_getElem? (i := 0) rfl), by decide +kernel, by decide +kernel, by decide +kernel⟩
theorem ms_W_start : ev_ms mm_W_start 4 := ⟨sg_2_9 _ (List.mem_of_getElem? (i := 5) rfl), by decide +kernel, by decide +kernel, by decide +kernel⟩
theorem ms_W_stop : ev_ms mm_W_stop 4 := ⟨sg_2_14 _ (List.mem_of_getElem? (i := 13) rfl), by decide +kernel, by decide +kernel, by decide +kernel⟩
theorem ms_W_fault : ev_ms mm_W_fault 5 := ⟨sg_3_0 _ (List.mem_of_getElem? (i := 5) rfl), by decide +kernel, by decide +kernel, by decide +kernel⟩
theorem ms_W_submit : ev_ms mm_W_submit 5 := ⟨sg_3_1 _ (List.mem_of_getElem? (i := 13) rfl), by decide +kernel, by decide +kernel, by decide +kernel⟩
theorem ms_W_state : ev_ms mm_W_state 4 := ⟨sg_3_3 _ (List.mem_of_getElem? (i := 6) rfl), by decide +kernel, by decide +kernel, by decide +kernel⟩
theorem ms_W_of : ev_ms mm_W_of 5 := ⟨sg_3_3 _ (List.mem_of_getElem? (i := 13) rfl), by decide +kernel, by decide +kernel, by decide +kernel⟩
theorem ms_W_link : ev_ms mm_W_link 4 := ⟨sg_3_4 _ (List.mem_of_getElem? (i := 6) rfl), by decide +kernel, by decide +kernel, by decide +kernel⟩
theorem ms_W_changes : ev_ms mm_W_changes 4 := ⟨sg_3_4 _ (List.mem_of_getElem? (i := 13) rfl), by decide +kernel, by decide +kernel, by decide +kernel⟩
theorem ms_W_held : ev_ms mm_W_held 3 := ⟨sg_3_5 _ (List.mem_of_getElem? (i := 4) rfl), by decide +kernel, by decide +kernel, by decide +kernel⟩
theorem ms_W_inbox : ev_ms mm_W_inbox 3 := ⟨sg_3_5 _ (List.mem_of_getElem? (i := 11) rfl), by decide +kernel, by decide +kernel, by decide +kernel⟩
theorem ms_W_take : ev_ms mm_W_take 3 := ⟨sg_3_6 _ (List.mem_of_getElem? (i := 2) rfl), by decide +kernel, by decide +kernel, by decide +kernel⟩
theorem ii_W_55 : ev_Ii "ThreeLinkPairLaw" 55 mm_P_init := ⟨Or.inl (sg_0_1 _ (List.mem_of_getElem? (i := 11) rfl)), sg_0_1 _ (List.mem_of_getElem? (i := 12) rfl), rfl, rfl, rfl⟩
theorem oi_P_1 : Cond.methodLink "ThreeLinkPair" 1 Lib.objectInit ∈ lw_tbl := sg_0_1 _ (List.mem_of_getElem? (i := 14) rfl)
theorem ii_P_15 : ev_Ii "ThreeLinkPair" 15 mm_E_init := ⟨Or.inl (sg_0_2 _ (List.mem_of_getElem? (i := 4) rfl)), sg_0_2 _ (List.mem_of_getElem? (i := 5) rfl), rfl, rfl, rfl⟩
theorem oi_E_3 : Cond.methodLink "ThreeLinkPair$End" 3 Lib.objectInit ∈ lw_tbl := sg_0_2 _ (List.mem_of_getElem? (i := 7) rfl)
theorem oi_S_3 : Cond.methodLink "ThreeLinkPair$Side" 3 Lib.objectInit ∈ lw_tbl := sg_0_3 _ (List.mem_of_getElem? (i := 0) rfl)
theorem ii_S_63 : ev_Ii "ThreeLinkPair$Side" 63 mm_AL_init := ⟨Or.inl (sg_0_3 _ (List.mem_of_getElem? (i := 3) rfl)), sg_0_3 _ (List.mem_of_getElem? (i := 4) rfl), rfl, rfl, rfl⟩
theorem ii_AL_1 : ev_Ii "java/util/ArrayList" 1 mm_AB_init := ⟨Or.inl (sg_0_3 _ (List.mem_of_getElem? (i := 6) rfl)), sg_0_3 _ (List.mem_of_getElem? (i := 7) rfl), rfl, rfl, rfl⟩
theorem ii_AB_1 : ev_Ii "java/util/AbstractList" 1 mm_AC_init := ⟨Or.inl (sg_0_3 _ (List.mem_of_getElem? (i := 9) rfl)), sg_0_3 _ (List.mem_of_getElem? (i := 10) rfl), rfl, rfl, rfl⟩
theorem oi_AC_1 : Cond.methodLink "java/util/AbstractCollection" 1 Lib.objectInit ∈ lw_tbl := sg_0_3 _ (List.mem_of_getElem? (i := 12) rfl)
theorem ii_S_73 : ev_Ii "ThreeLinkPair$Side" 73 mm_Y_init := ⟨Or.inl (sg_0_4 _ (List.mem_of_getElem? (i := 13) rfl)), sg_0_4 _ (List.mem_of_getElem? (i := 14) rfl), rfl, rfl, rfl⟩
theorem oi_Y_3 : Cond.methodLink "ThreeLinkPair$Memory" 3 Lib.objectInit ∈ lw_tbl := sg_0_5 _ (List.mem_of_getElem? (i := 0) rfl)
theorem is_Y_18 : ev_Is "ThreeLinkPair$Memory" 18 mm_AR_fill := ⟨Or.inl (sg_0_5 _ (List.mem_of_getElem? (i := 1) rfl)), sg_0_5 _ (List.mem_of_getElem? (i := 2) rfl), sg_0_0 _ (List.mem_of_getElem? (i := 8) rfl)⟩
theorem oi_N_1 : Cond.methodLink "ThreeLinkPair$Unit" 1 Lib.objectInit ∈ lw_tbl := sg_0_6 _ (List.mem_of_getElem? (i := 1) rfl)
theorem oi_C_3 : Cond.methodLink "ThreeLinkPair$Changeover" 3 Lib.objectInit ∈ lw_tbl := sg_0_13 _ (List.mem_of_getElem? (i := 13) rfl)
theorem ii_C_42 : ev_Ii "ThreeLinkPair$Changeover" 42 mm_AL_init := ⟨Or.inl (sg_0_13 _ (List.mem_of_getElem? (i := 15) rfl)), sg_0_3 _ (List.mem_of_getElem? (i := 4) rfl), rfl, rfl, rfl⟩
theorem ii_E_34 : ev_Ii "ThreeLinkPair$End" 34 mm_AL_init := ⟨Or.inl (sg_1_1 _ (List.mem_of_getElem? (i := 10) rfl)), sg_0_3 _ (List.mem_of_getElem? (i := 4) rfl), rfl, rfl, rfl⟩
theorem oi_F_3 : Cond.methodLink "ThreeLinkPair$Fault" 3 Lib.objectInit ∈ lw_tbl := sg_1_3 _ (List.mem_of_getElem? (i := 13) rfl)
theorem iv_W_80 : ev_Iv "ThreeLinkPairLaw" 80 0 mm_P_tick := ⟨("ThreeLinkPair", nm_T0, 2), rfl, Or.inl (sg_1_4 _ (List.mem_of_getElem? (i := 14) rfl)), sg_1_4 _ (List.mem_of_getElem? (i := 15) rfl), sg_1_5 _ (List.mem_of_getElem? (i := 0) rfl)⟩
theorem iv_P_68 : ev_Iv "ThreeLinkPair" 68 0 mm_P_arrive := ⟨("ThreeLinkPair", nm_T0, 2), rfl, Or.inl (sg_1_5 _ (List.mem_of_getElem? (i := 2) rfl)), sg_1_5 _ (List.mem_of_getElem? (i := 4) rfl), nm_pr 0 (by decide +kernel)⟩
theorem is_P_51 : ev_Is "ThreeLinkPair" 51 mm_P_faultPlace := ⟨Or.inl (sg_1_5 _ (List.mem_of_getElem? (i := 6) rfl)), sg_1_5 _ (List.mem_of_getElem? (i := 7) rfl), sg_0_0 _ (List.mem_of_getElem? (i := 1) rfl)⟩
theorem iv_P_197 : ev_Iv "ThreeLinkPair" 197 1 mm_E_damagedComes := ⟨("ThreeLinkPair$End", nm_T1, 7), rfl, Or.inl (sg_1_5 _ (List.mem_of_getElem? (i := 9) rfl)), sg_1_5 _ (List.mem_of_getElem? (i := 10) rfl), sg_1_5 _ (List.mem_of_getElem? (i := 11) rfl)⟩
theorem iv_E_87 : ev_Iv "ThreeLinkPair$End" 87 2 mm_S_failsByDamage := ⟨("ThreeLinkPair$Side", nm_T2, 20), rfl, Or.inl (sg_1_5 _ (List.mem_of_getElem? (i := 13) rfl)), sg_1_5 _ (List.mem_of_getElem? (i := 14) rfl), sg_1_5 _ (List.mem_of_getElem? (i := 15) rfl)⟩
theorem iv_E_84 : ev_Iv "ThreeLinkPair$End" 84 1 mm_E_fall := ⟨("ThreeLinkPair$End", nm_T1, 7), rfl, Or.inl (sg_1_6 _ (List.mem_of_getElem? (i := 1) rfl)), sg_1_6 _ (List.mem_of_getElem? (i := 2) rfl), sg_1_6 _ (List.mem_of_getElem? (i := 3) rfl)⟩
theorem iv_E_49 : ev_Iv "ThreeLinkPair$End" 49 2 mm_S_comeTo := ⟨("ThreeLinkPair$Side", nm_T2, 20), rfl, Or.inl (sg_1_6 _ (List.mem_of_getElem? (i := 5) rfl)), sg_1_6 _ (List.mem_of_getElem? (i := 6) rfl), sg_1_6 _ (List.mem_of_getElem? (i := 7) rfl)⟩
theorem iv_E_67 : ev_Iv "ThreeLinkPair$End" 67 5 mm_Y_keep := ⟨("ThreeLinkPair$Memory", nm_T5, 2), rfl, Or.inl (sg_1_6 _ (List.mem_of_getElem? (i := 9) rfl)), sg_1_6 _ (List.mem_of_getElem? (i := 10) rfl), sg_1_6 _ (List.mem_of_getElem? (i := 11) rfl)⟩
theorem is_Y_24 : ev_Is "ThreeLinkPair$Memory" 24 mm_MA_floorMod := ⟨Or.inl (sg_1_6 _ (List.mem_of_getElem? (i := 13) rfl)), sg_1_6 _ (List.mem_of_getElem? (i := 14) rfl), sg_0_1 _ (List.mem_of_getElem? (i := 1) rfl)⟩
theorem iv_E_73 : ev_Iv "ThreeLinkPair$End" 73 3 mm_C_begin := ⟨("ThreeLinkPair$Changeover", nm_T3, 10), rfl, Or.inl (sg_1_7 _ (List.mem_of_getElem? (i := 0) rfl)), sg_1_7 _ (List.mem_of_getElem? (i := 1) rfl), sg_1_7 _ (List.mem_of_getElem? (i := 2) rfl)⟩
theorem iv_C_55 : ev_Iv "ThreeLinkPair$Changeover" 55 9 mm_AL_size := ⟨("java/util/ArrayList", nm_T9, 3), rfl, Or.inl (sg_1_7 _ (List.mem_of_getElem? (i := 4) rfl)), sg_1_7 _ (List.mem_of_getElem? (i := 5) rfl), sg_1_7 _ (List.mem_of_getElem? (i := 6) rfl)⟩
theorem iv_C_62 : ev_Iv "ThreeLinkPair$Changeover" 62 9 mm_AL_get := ⟨("java/util/ArrayList", nm_T9, 3), rfl, Or.inl (sg_1_7 _ (List.mem_of_getElem? (i := 8) rfl)), sg_1_7 _ (List.mem_of_getElem? (i := 9) rfl), sg_1_7 _ (List.mem_of_getElem? (i := 10) rfl)⟩
theorem is_AL_118 : ev_Is "java/util/ArrayList" 118 mm_OB_checkIndex := ⟨Or.inl (sg_1_7 _ (List.mem_of_getElem? (i := 12) rfl)), sg_1_7 _ (List.mem_of_getElem? (i := 13) rfl), sg_0_1 _ (List.mem_of_getElem? (i := 2) rfl)⟩
theorem is_OB_105 : ev_Is "java/util/Objects" 105 mm_PR_checkIndex := ⟨Or.inl (sg_1_7 _ (List.mem_of_getElem? (i := 15) rfl)), sg_1_8 _ (List.mem_of_getElem? (i := 0) rfl), sg_0_1 _ (List.mem_of_getElem? (i := 3) rfl)⟩
theorem iv_AL_123 : ev_Iv "java/util/ArrayList" 123 9 mm_AL_elementData := ⟨("java/util/ArrayList", nm_T9, 3), rfl, Or.inl (sg_1_8 _ (List.mem_of_getElem? (i := 2) rfl)), sg_1_8 _ (List.mem_of_getElem? (i := 3) rfl), sg_1_8 _ (List.mem_of_getElem? (i := 4) rfl)⟩
theorem iv_C_68 : ev_Iv "ThreeLinkPair$Changeover" 68 9 mm_AL_add1 := ⟨("java/util/ArrayList", nm_T9, 3), rfl, Or.inl (sg_1_8 _ (List.mem_of_getElem? (i := 7) rfl)), sg_1_8 _ (List.mem_of_getElem? (i := 8) rfl), sg_1_8 _ (List.mem_of_getElem? (i := 9) rfl)⟩
theorem iv_AL_131 : ev_Iv "java/util/ArrayList" 131 9 mm_AL_add3 := ⟨("java/util/ArrayList", nm_T9, 3), rfl, Or.inl (sg_1_8 _ (List.mem_of_getElem? (i := 11) rfl)), sg_1_8 _ (List.mem_of_getElem? (i := 13) rfl), nm_pr 1 (by decide +kernel)⟩
theorem iv_AL_129 : ev_Iv "java/util/ArrayList" 129 9 mm_AL_grow0 := ⟨("java/util/ArrayList", nm_T9, 3), rfl, Or.inl (sg_1_8 _ (List.mem_of_getElem? (i := 15) rfl)), sg_1_9 _ (List.mem_of_getElem? (i := 1) rfl), nm_pr 2 (by decide +kernel)⟩
theorem iv_AL_69 : ev_Iv "java/util/ArrayList" 69 9 mm_AL_grow1 := ⟨("java/util/ArrayList", nm_T9, 3), rfl, Or.inl (sg_1_9 _ (List.mem_of_getElem? (i := 3) rfl)), sg_1_9 _ (List.mem_of_getElem? (i := 5) rfl), nm_pr 3 (by decide +kernel)⟩
theorem is_AL_73 : ev_Is "java/util/ArrayList" 73 mm_AS_newLength := ⟨Or.inl (sg_1_9 _ (List.mem_of_getElem? (i := 7) rfl)), sg_1_9 _ (List.mem_of_getElem? (i := 8) rfl), sg_0_1 _ (List.mem_of_getElem? (i := 4) rfl)⟩
theorem is_AS_194 : ev_Is "jdk/internal/util/ArraysSupport" 194 mm_MA_max := ⟨Or.inl (sg_1_9 _ (List.mem_of_getElem? (i := 10) rfl)), sg_1_9 _ (List.mem_of_getElem? (i := 11) rfl), sg_0_1 _ (List.mem_of_getElem? (i := 1) rfl)⟩
theorem is_AS_201 : ev_Is "jdk/internal/util/ArraysSupport" 201 mm_AS_hugeLength := ⟨Or.inl (sg_1_9 _ (List.mem_of_getElem? (i := 14) rfl)), sg_1_9 _ (List.mem_of_getElem? (i := 15) rfl), sg_0_1 _ (List.mem_of_getElem? (i := 4) rfl)⟩
theorem is_AL_66 : ev_Is "java/util/ArrayList" 66 mm_AR_copyOf2 := ⟨Or.inl (sg_1_10 _ (List.mem_of_getElem? (i := 1) rfl)), sg_1_10 _ (List.mem_of_getElem? (i := 2) rfl), sg_0_0 _ (List.mem_of_getElem? (i := 8) rfl)⟩
theorem is_AR_300 : ev_Is "java/util/Arrays" 300 mm_AR_copyOf3 := ⟨Or.inl (sg_1_11 _ (List.mem_of_getElem? (i := 5) rfl)), sg_1_11 _ (List.mem_of_getElem? (i := 6) rfl), sg_0_0 _ (List.mem_of_getElem? (i := 8) rfl)⟩
theorem is_AR_304 : ev_Is "java/util/Arrays" 304 mm_MA_min := ⟨Or.inl (sg_1_11 _ (List.mem_of_getElem? (i := 11) rfl)), sg_1_11 _ (List.mem_of_getElem? (i := 12) rfl), sg_0_1 _ (List.mem_of_getElem? (i := 1) rfl)⟩
theorem is_AL_79 : ev_Is "java/util/ArrayList" 79 mm_MA_max := ⟨Or.inl (sg_1_12 _ (List.mem_of_getElem? (i := 1) rfl)), sg_1_9 _ (List.mem_of_getElem? (i := 11) rfl), sg_0_1 _ (List.mem_of_getElem? (i := 1) rfl)⟩
theorem iv_E_77 : ev_Iv "ThreeLinkPair$End" 77 2 mm_S_clearRows := ⟨("ThreeLinkPair$Side", nm_T2, 20), rfl, Or.inl (sg_1_12 _ (List.mem_of_getElem? (i := 3) rfl)), sg_1_12 _ (List.mem_of_getElem? (i := 4) rfl), sg_1_12 _ (List.mem_of_getElem? (i := 5) rfl)⟩
theorem iv_S_92 : ev_Iv "ThreeLinkPair$Side" 92 9 mm_AL_clear := ⟨("java/util/ArrayList", nm_T9, 3), rfl, Or.inl (sg_1_12 _ (List.mem_of_getElem? (i := 7) rfl)), sg_1_12 _ (List.mem_of_getElem? (i := 8) rfl), sg_1_12 _ (List.mem_of_getElem? (i := 9) rfl)⟩
theorem iv_P_200 : ev_Iv "ThreeLinkPair" 200 1 mm_E_numberedComes := ⟨("ThreeLinkPair$End", nm_T1, 7), rfl, Or.inl (sg_1_12 _ (List.mem_of_getElem? (i := 11) rfl)), sg_1_12 _ (List.mem_of_getElem? (i := 12) rfl), sg_1_12 _ (List.mem_of_getElem? (i := 13) rfl)⟩
theorem iv_E_113 : ev_Iv "ThreeLinkPair$End" 113 2 mm_S_countGood := ⟨("ThreeLinkPair$Side", nm_T2, 20), rfl, Or.inl (sg_1_12 _ (List.mem_of_getElem? (i := 15) rfl)), sg_1_13 _ (List.mem_of_getElem? (i := 0) rfl), sg_1_13 _ (List.mem_of_getElem? (i := 1) rfl)⟩
theorem iv_E_117 : ev_Iv "ThreeLinkPair$End" 117 2 mm_S_answered := ⟨("ThreeLinkPair$Side", nm_T2, 20), rfl, Or.inl (sg_1_13 _ (List.mem_of_getElem? (i := 3) rfl)), sg_1_13 _ (List.mem_of_getElem? (i := 4) rfl), sg_1_13 _ (List.mem_of_getElem? (i := 5) rfl)⟩
theorem iv_S_99 : ev_Iv "ThreeLinkPair$Side" 99 9 mm_AL_size := ⟨("java/util/ArrayList", nm_T9, 3), rfl, Or.inl (sg_1_13 _ (List.mem_of_getElem? (i := 7) rfl)), sg_1_7 _ (List.mem_of_getElem? (i := 5) rfl), sg_1_7 _ (List.mem_of_getElem? (i := 6) rfl)⟩
theorem is_S_112 : ev_Is "ThreeLinkPair$Side" 112 mm_MA_floorMod := ⟨Or.inl (sg_1_13 _ (List.mem_of_getElem? (i := 8) rfl)), sg_1_6 _ (List.mem_of_getElem? (i := 14) rfl), sg_0_1 _ (List.mem_of_getElem? (i := 1) rfl)⟩
theorem iv_P_156 : ev_Iv "ThreeLinkPair" 156 9 mm_AL_isEmpty := ⟨("java/util/ArrayList", nm_T9, 3), rfl, Or.inl (sg_1_13 _ (List.mem_of_getElem? (i := 12) rfl)), sg_1_13 _ (List.mem_of_getElem? (i := 13) rfl), sg_1_13 _ (List.mem_of_getElem? (i := 14) rfl)⟩
theorem iv_P_165 : ev_Iv "ThreeLinkPair" 165 9 mm_AL_remove := ⟨("java/util/ArrayList", nm_T9, 3), rfl, Or.inl (sg_1_14 _ (List.mem_of_getElem? (i := 0) rfl)), sg_1_14 _ (List.mem_of_getElem? (i := 1) rfl), sg_1_14 _ (List.mem_of_getElem? (i := 2) rfl)⟩
theorem iv_AL_144 : ev_Iv "java/util/ArrayList" 144 9 mm_AL_fastRemove := ⟨("java/util/ArrayList", nm_T9, 3), rfl, Or.inl (sg_1_14 _ (List.mem_of_getElem? (i := 4) rfl)), sg_1_14 _ (List.mem_of_getElem? (i := 6) rfl), nm_pr 4 (by decide +kernel)⟩
theorem is_S_122 : ev_Is "ThreeLinkPair$Side" 122 mm_MA_min := ⟨Or.inl (sg_1_14 _ (List.mem_of_getElem? (i := 9) rfl)), sg_1_11 _ (List.mem_of_getElem? (i := 12) rfl), sg_0_1 _ (List.mem_of_getElem? (i := 1) rfl)⟩
theorem iv_E_127 : ev_Iv "ThreeLinkPair$End" 127 2 mm_S_followBackBit := ⟨("ThreeLinkPair$Side", nm_T2, 20), rfl, Or.inl (sg_1_14 _ (List.mem_of_getElem? (i := 10) rfl)), sg_1_14 _ (List.mem_of_getElem? (i := 11) rfl), sg_1_14 _ (List.mem_of_getElem? (i := 12) rfl)⟩
theorem iv_E_130 : ev_Iv "ThreeLinkPair$End" 130 2 mm_S_nextIn := ⟨("ThreeLinkPair$Side", nm_T2, 20), rfl, Or.inl (sg_1_14 _ (List.mem_of_getElem? (i := 14) rfl)), sg_1_14 _ (List.mem_of_getElem? (i := 15) rfl), sg_2_0 _ (List.mem_of_getElem? (i := 0) rfl)⟩
theorem iv_E_134 : ev_Iv "ThreeLinkPair$End" 134 1 mm_E_takeIn := ⟨("ThreeLinkPair$End", nm_T1, 7), rfl, Or.inl (sg_2_0 _ (List.mem_of_getElem? (i := 2) rfl)), sg_2_0 _ (List.mem_of_getElem? (i := 3) rfl), sg_2_0 _ (List.mem_of_getElem? (i := 4) rfl)⟩
theorem iv_E_143 : ev_Iv "ThreeLinkPair$End" 143 1 mm_E_takeOrder := ⟨("ThreeLinkPair$End", nm_T1, 7), rfl, Or.inl (sg_2_0 _ (List.mem_of_getElem? (i := 6) rfl)), sg_2_0 _ (List.mem_of_getElem? (i := 7) rfl), sg_2_0 _ (List.mem_of_getElem? (i := 8) rfl)⟩
theorem iv_E_157 : ev_Iv "ThreeLinkPair$End" 157 5 mm_Y_backFor := ⟨("ThreeLinkPair$Memory", nm_T5, 2), rfl, Or.inl (sg_2_0 _ (List.mem_of_getElem? (i := 10) rfl)), sg_2_0 _ (List.mem_of_getElem? (i := 11) rfl), sg_2_0 _ (List.mem_of_getElem? (i := 12) rfl)⟩
theorem ii_E_161 : ev_Ii "ThreeLinkPair$End" 161 mm_G_init := ⟨Or.inl (sg_2_1 _ (List.mem_of_getElem? (i := 0) rfl)), sg_2_1 _ (List.mem_of_getElem? (i := 1) rfl), rfl, rfl, rfl⟩
theorem oi_G_3 : Cond.methodLink "ThreeLinkPair$Message" 3 Lib.objectInit ∈ lw_tbl := sg_2_1 _ (List.mem_of_getElem? (i := 3) rfl)
theorem iv_E_164 : ev_Iv "ThreeLinkPair$End" 164 1 mm_E_say := ⟨("ThreeLinkPair$End", nm_T1, 7), rfl, Or.inl (sg_2_2 _ (List.mem_of_getElem? (i := 8) rfl)), sg_2_2 _ (List.mem_of_getElem? (i := 9) rfl), sg_2_2 _ (List.mem_of_getElem? (i := 10) rfl)⟩
theorem iv_E_181 : ev_Iv "ThreeLinkPair$End" 181 1 mm_E_firstServing := ⟨("ThreeLinkPair$End", nm_T1, 7), rfl, Or.inl (sg_2_2 _ (List.mem_of_getElem? (i := 12) rfl)), sg_2_2 _ (List.mem_of_getElem? (i := 13) rfl), sg_2_2 _ (List.mem_of_getElem? (i := 14) rfl)⟩
theorem iv_E_149 : ev_Iv "ThreeLinkPair$End" 149 9 mm_AL_add1 := ⟨("java/util/ArrayList", nm_T9, 3), rfl, Or.inl (sg_2_3 _ (List.mem_of_getElem? (i := 0) rfl)), sg_1_8 _ (List.mem_of_getElem? (i := 8) rfl), sg_1_8 _ (List.mem_of_getElem? (i := 9) rfl)⟩
theorem iv_E_177 : ev_Iv "ThreeLinkPair$End" 177 3 mm_C_settle := ⟨("ThreeLinkPair$Changeover", nm_T3, 10), rfl, Or.inl (sg_2_3 _ (List.mem_of_getElem? (i := 1) rfl)), sg_2_3 _ (List.mem_of_getElem? (i := 2) rfl), sg_2_3 _ (List.mem_of_getElem? (i := 3) rfl)⟩
theorem is_C_75 : ev_Is "ThreeLinkPair$Changeover" 75 mm_MA_floorMod := ⟨Or.inl (sg_2_3 _ (List.mem_of_getElem? (i := 5) rfl)), sg_1_6 _ (List.mem_of_getElem? (i := 14) rfl), sg_0_1 _ (List.mem_of_getElem? (i := 1) rfl)⟩
theorem iv_E_146 : ev_Iv "ThreeLinkPair$End" 146 1 mm_E_takeAnswer := ⟨("ThreeLinkPair$End", nm_T1, 7), rfl, Or.inl (sg_2_3 _ (List.mem_of_getElem? (i := 7) rfl)), sg_2_3 _ (List.mem_of_getElem? (i := 8) rfl), sg_2_3 _ (List.mem_of_getElem? (i := 9) rfl)⟩
theorem iv_P_204 : ev_Iv "ThreeLinkPair" 204 1 mm_E_statusComes := ⟨("ThreeLinkPair$End", nm_T1, 7), rfl, Or.inl (sg_2_3 _ (List.mem_of_getElem? (i := 11) rfl)), sg_2_3 _ (List.mem_of_getElem? (i := 12) rfl), sg_2_3 _ (List.mem_of_getElem? (i := 13) rfl)⟩
theorem iv_E_95 : ev_Iv "ThreeLinkPair$End" 95 1 mm_E_seekComes := ⟨("ThreeLinkPair$End", nm_T1, 7), rfl, Or.inl (sg_2_3 _ (List.mem_of_getElem? (i := 15) rfl)), sg_2_4 _ (List.mem_of_getElem? (i := 0) rfl), sg_2_4 _ (List.mem_of_getElem? (i := 1) rfl)⟩
theorem iv_E_101 : ev_Iv "ThreeLinkPair$End" 101 1 mm_E_proveComes := ⟨("ThreeLinkPair$End", nm_T1, 7), rfl, Or.inl (sg_2_4 _ (List.mem_of_getElem? (i := 3) rfl)), sg_2_4 _ (List.mem_of_getElem? (i := 4) rfl), sg_2_4 _ (List.mem_of_getElem? (i := 5) rfl)⟩
theorem iv_E_104 : ev_Iv "ThreeLinkPair$End" 104 1 mm_E_outComes := ⟨("ThreeLinkPair$End", nm_T1, 7), rfl, Or.inl (sg_2_4 _ (List.mem_of_getElem? (i := 7) rfl)), sg_2_4 _ (List.mem_of_getElem? (i := 8) rfl), sg_2_4 _ (List.mem_of_getElem? (i := 9) rfl)⟩
theorem iv_P_71 : ev_Iv "ThreeLinkPair" 71 1 mm_E_age := ⟨("ThreeLinkPair$End", nm_T1, 7), rfl, Or.inl (sg_2_4 _ (List.mem_of_getElem? (i := 11) rfl)), sg_2_4 _ (List.mem_of_getElem? (i := 12) rfl), sg_2_4 _ (List.mem_of_getElem? (i := 13) rfl)⟩
theorem iv_E_80 : ev_Iv "ThreeLinkPair$End" 80 2 mm_S_failsByAge := ⟨("ThreeLinkPair$Side", nm_T2, 20), rfl, Or.inl (sg_2_4 _ (List.mem_of_getElem? (i := 15) rfl)), sg_2_5 _ (List.mem_of_getElem? (i := 0) rfl), sg_2_5 _ (List.mem_of_getElem? (i := 1) rfl)⟩
theorem iv_S_85 : ev_Iv "ThreeLinkPair$Side" 85 2 mm_S_comeTo := ⟨("ThreeLinkPair$Side", nm_T2, 20), rfl, Or.inl (sg_2_5 _ (List.mem_of_getElem? (i := 3) rfl)), sg_1_6 _ (List.mem_of_getElem? (i := 6) rfl), sg_1_6 _ (List.mem_of_getElem? (i := 7) rfl)⟩
theorem iv_S_131 : ev_Iv "ThreeLinkPair$Side" 131 9 mm_AL_isEmpty := ⟨("java/util/ArrayList", nm_T9, 3), rfl, Or.inl (sg_2_5 _ (List.mem_of_getElem? (i := 4) rfl)), sg_1_13 _ (List.mem_of_getElem? (i := 13) rfl), sg_1_13 _ (List.mem_of_getElem? (i := 14) rfl)⟩
theorem iv_P_74 : ev_Iv "ThreeLinkPair" 74 1 mm_E_changeOver := ⟨("ThreeLinkPair$End", nm_T1, 7), rfl, Or.inl (sg_2_5 _ (List.mem_of_getElem? (i := 5) rfl)), sg_2_5 _ (List.mem_of_getElem? (i := 6) rfl), sg_2_5 _ (List.mem_of_getElem? (i := 7) rfl)⟩
theorem iv_E_211 : ev_Iv "ThreeLinkPair$End" 211 3 mm_C_giveUp := ⟨("ThreeLinkPair$Changeover", nm_T3, 10), rfl, Or.inl (sg_2_5 _ (List.mem_of_getElem? (i := 9) rfl)), sg_2_5 _ (List.mem_of_getElem? (i := 10) rfl), sg_2_5 _ (List.mem_of_getElem? (i := 11) rfl)⟩
theorem iv_C_85 : ev_Iv "ThreeLinkPair$Changeover" 85 6 mm_G_isOfClass := ⟨("ThreeLinkPair$Message", nm_T6, 4), rfl, Or.inl (sg_2_5 _ (List.mem_of_getElem? (i := 13) rfl)), sg_2_5 _ (List.mem_of_getElem? (i := 14) rfl), sg_2_5 _ (List.mem_of_getElem? (i := 15) rfl)⟩
theorem iv_E_214 : ev_Iv "ThreeLinkPair$End" 214 1 mm_E_someOpenBeside := ⟨("ThreeLinkPair$End", nm_T1, 7), rfl, Or.inl (sg_2_6 _ (List.mem_of_getElem? (i := 1) rfl)), sg_2_6 _ (List.mem_of_getElem? (i := 2) rfl), sg_2_6 _ (List.mem_of_getElem? (i := 3) rfl)⟩
theorem iv_E_188 : ev_Iv "ThreeLinkPair$End" 188 1 mm_E_isOpen := ⟨("ThreeLinkPair$End", nm_T1, 7), rfl, Or.inl (sg_2_6 _ (List.mem_of_getElem? (i := 5) rfl)), sg_2_6 _ (List.mem_of_getElem? (i := 6) rfl), sg_2_6 _ (List.mem_of_getElem? (i := 7) rfl)⟩
theorem iv_E_217 : ev_Iv "ThreeLinkPair$End" 217 1 mm_E_finish := ⟨("ThreeLinkPair$End", nm_T1, 7), rfl, Or.inl (sg_2_6 _ (List.mem_of_getElem? (i := 9) rfl)), sg_2_6 _ (List.mem_of_getElem? (i := 10) rfl), sg_2_6 _ (List.mem_of_getElem? (i := 11) rfl)⟩
theorem iv_E_201 : ev_Iv "ThreeLinkPair$End" 201 9 mm_AL_size := ⟨("java/util/ArrayList", nm_T9, 3), rfl, Or.inl (sg_2_6 _ (List.mem_of_getElem? (i := 14) rfl)), sg_1_7 _ (List.mem_of_getElem? (i := 5) rfl), sg_1_7 _ (List.mem_of_getElem? (i := 6) rfl)⟩
theorem iv_E_229 : ev_Iv "ThreeLinkPair$End" 229 9 mm_AL_get := ⟨("java/util/ArrayList", nm_T9, 3), rfl, Or.inl (sg_2_6 _ (List.mem_of_getElem? (i := 15) rfl)), sg_1_7 _ (List.mem_of_getElem? (i := 9) rfl), sg_1_7 _ (List.mem_of_getElem? (i := 10) rfl)⟩
theorem iv_E_233 : ev_Iv "ThreeLinkPair$End" 233 1 mm_E_passOn := ⟨("ThreeLinkPair$End", nm_T1, 7), rfl, Or.inl (sg_2_7 _ (List.mem_of_getElem? (i := 0) rfl)), sg_2_7 _ (List.mem_of_getElem? (i := 1) rfl), sg_2_7 _ (List.mem_of_getElem? (i := 2) rfl)⟩
theorem iv_E_245 : ev_Iv "ThreeLinkPair$End" 245 6 mm_G_isOfClass := ⟨("ThreeLinkPair$Message", nm_T6, 4), rfl, Or.inl (sg_2_7 _ (List.mem_of_getElem? (i := 4) rfl)), sg_2_5 _ (List.mem_of_getElem? (i := 14) rfl), sg_2_5 _ (List.mem_of_getElem? (i := 15) rfl)⟩
theorem iv_E_239 : ev_Iv "ThreeLinkPair$End" 239 1 mm_E_moveClass := ⟨("ThreeLinkPair$End", nm_T1, 7), rfl, Or.inl (sg_2_7 _ (List.mem_of_getElem? (i := 5) rfl)), sg_2_7 _ (List.mem_of_getElem? (i := 6) rfl), sg_2_7 _ (List.mem_of_getElem? (i := 7) rfl)⟩
theorem iv_E_198 : ev_Iv "ThreeLinkPair$End" 198 1 mm_E_choose := ⟨("ThreeLinkPair$End", nm_T1, 7), rfl, Or.inl (sg_2_7 _ (List.mem_of_getElem? (i := 9) rfl)), sg_2_7 _ (List.mem_of_getElem? (i := 10) rfl), sg_2_7 _ (List.mem_of_getElem? (i := 11) rfl)⟩
theorem iv_E_236 : ev_Iv "ThreeLinkPair$End" 236 9 mm_AL_clear := ⟨("java/util/ArrayList", nm_T9, 3), rfl, Or.inl (sg_2_7 _ (List.mem_of_getElem? (i := 13) rfl)), sg_1_12 _ (List.mem_of_getElem? (i := 8) rfl), sg_1_12 _ (List.mem_of_getElem? (i := 9) rfl)⟩
theorem iv_E_242 : ev_Iv "ThreeLinkPair$End" 242 1 mm_E_letGoHeld := ⟨("ThreeLinkPair$End", nm_T1, 7), rfl, Or.inl (sg_2_7 _ (List.mem_of_getElem? (i := 14) rfl)), sg_2_7 _ (List.mem_of_getElem? (i := 15) rfl), sg_2_8 _ (List.mem_of_getElem? (i := 0) rfl)⟩
theorem iv_E_248 : ev_Iv "ThreeLinkPair$End" 248 9 mm_AL_remove := ⟨("java/util/ArrayList", nm_T9, 3), rfl, Or.inl (sg_2_8 _ (List.mem_of_getElem? (i := 2) rfl)), sg_1_14 _ (List.mem_of_getElem? (i := 1) rfl), sg_1_14 _ (List.mem_of_getElem? (i := 2) rfl)⟩
theorem iv_P_77 : ev_Iv "ThreeLinkPair" 77 2 mm_S_send := ⟨("ThreeLinkPair$Side", nm_T2, 20), rfl, Or.inl (sg_2_8 _ (List.mem_of_getElem? (i := 3) rfl)), sg_2_8 _ (List.mem_of_getElem? (i := 4) rfl), sg_2_8 _ (List.mem_of_getElem? (i := 5) rfl)⟩
theorem iv_S_139 : ev_Iv "ThreeLinkPair$Side" 139 2 mm_S_sendNumbered := ⟨("ThreeLinkPair$Side", nm_T2, 20), rfl, Or.inl (sg_2_8 _ (List.mem_of_getElem? (i := 7) rfl)), sg_2_8 _ (List.mem_of_getElem? (i := 8) rfl), sg_2_8 _ (List.mem_of_getElem? (i := 9) rfl)⟩
theorem iv_S_103 : ev_Iv "ThreeLinkPair$Side" 103 9 mm_AL_get := ⟨("java/util/ArrayList", nm_T9, 3), rfl, Or.inl (sg_2_8 _ (List.mem_of_getElem? (i := 11) rfl)), sg_1_7 _ (List.mem_of_getElem? (i := 9) rfl), sg_1_7 _ (List.mem_of_getElem? (i := 10) rfl)⟩
theorem iv_S_142 : ev_Iv "ThreeLinkPair$Side" 142 9 mm_AL_remove := ⟨("java/util/ArrayList", nm_T9, 3), rfl, Or.inl (sg_2_8 _ (List.mem_of_getElem? (i := 13) rfl)), sg_1_14 _ (List.mem_of_getElem? (i := 1) rfl), sg_1_14 _ (List.mem_of_getElem? (i := 2) rfl)⟩
theorem iv_S_145 : ev_Iv "ThreeLinkPair$Side" 145 9 mm_AL_add1 := ⟨("java/util/ArrayList", nm_T9, 3), rfl, Or.inl (sg_2_8 _ (List.mem_of_getElem? (i := 14) rfl)), sg_1_8 _ (List.mem_of_getElem? (i := 8) rfl), sg_1_8 _ (List.mem_of_getElem? (i := 9) rfl)⟩
theorem iv_W_106 : ev_Iv "ThreeLinkPairLaw" 106 0 mm_P_lost := ⟨("ThreeLinkPair", nm_T0, 2), rfl, Or.inl (sg_2_8 _ (List.mem_of_getElem? (i := 15) rfl)), sg_2_9 _ (List.mem_of_getElem? (i := 0) rfl), sg_2_9 _ (List.mem_of_getElem? (i := 1) rfl)⟩
theorem is_W_59 : ev_Is "ThreeLinkPairLaw" 59 mm_W_start := ⟨Or.inl (sg_2_9 _ (List.mem_of_getElem? (i := 3) rfl)), sg_2_9 _ (List.mem_of_getElem? (i := 4) rfl), sg_0_0 _ (List.mem_of_getElem? (i := 0) rfl)⟩
theorem iv_W_7 : ev_Iv "ThreeLinkPairLaw" 7 0 mm_P_start := ⟨("ThreeLinkPair", nm_T0, 2), rfl, Or.inl (sg_2_9 _ (List.mem_of_getElem? (i := 7) rfl)), sg_2_9 _ (List.mem_of_getElem? (i := 8) rfl), sg_2_9 _ (List.mem_of_getElem? (i := 9) rfl)⟩
theorem is_P_23 : ev_Is "ThreeLinkPair" 23 mm_P_checkSide := ⟨Or.inl (sg_2_9 _ (List.mem_of_getElem? (i := 11) rfl)), sg_2_9 _ (List.mem_of_getElem? (i := 12) rfl), sg_0_0 _ (List.mem_of_getElem? (i := 1) rfl)⟩
theorem is_P_147 : ev_Is "ThreeLinkPair" 147 mm_P_checkEnd := ⟨Or.inl (sg_2_9 _ (List.mem_of_getElem? (i := 14) rfl)), sg_2_9 _ (List.mem_of_getElem? (i := 15) rfl), sg_0_0 _ (List.mem_of_getElem? (i := 1) rfl)⟩
theorem oi_TH_1 : Cond.methodLink "java/lang/Throwable" 1 Lib.objectInit ∈ lw_tbl := sg_2_11 _ (List.mem_of_getElem? (i := 10) rfl)
theorem ii_P_129 : ev_Ii "ThreeLinkPair" 129 mm_IO_init := ⟨Or.inl (sg_2_12 _ (List.mem_of_getElem? (i := 11) rfl)), sg_2_12 _ (List.mem_of_getElem? (i := 12) rfl), rfl, rfl, rfl⟩
theorem ii_IO_7 : ev_Ii "java/lang/IndexOutOfBoundsException" 7 mm_RT_init := ⟨Or.inl (sg_2_12 _ (List.mem_of_getElem? (i := 14) rfl)), sg_2_12 _ (List.mem_of_getElem? (i := 15) rfl), rfl, rfl, rfl⟩
theorem ii_RT_7 : ev_Ii "java/lang/RuntimeException" 7 mm_EX_init := ⟨Or.inl (sg_2_13 _ (List.mem_of_getElem? (i := 1) rfl)), sg_2_13 _ (List.mem_of_getElem? (i := 2) rfl), rfl, rfl, rfl⟩
theorem ii_EX_7 : ev_Ii "java/lang/Exception" 7 mm_TH_init1 := ⟨Or.inl (sg_2_13 _ (List.mem_of_getElem? (i := 4) rfl)), sg_2_13 _ (List.mem_of_getElem? (i := 5) rfl), rfl, rfl, rfl⟩
theorem iv_P_37 : ev_Iv "ThreeLinkPair" 37 2 mm_S_begin := ⟨("ThreeLinkPair$Side", nm_T2, 20), rfl, Or.inl (sg_2_14 _ (List.mem_of_getElem? (i := 6) rfl)), sg_2_14 _ (List.mem_of_getElem? (i := 7) rfl), sg_2_14 _ (List.mem_of_getElem? (i := 8) rfl)⟩
theorem iv_S_89 : ev_Iv "ThreeLinkPair$Side" 89 2 mm_S_clearRows := ⟨("ThreeLinkPair$Side", nm_T2, 20), rfl, Or.inl (sg_2_14 _ (List.mem_of_getElem? (i := 10) rfl)), sg_1_12 _ (List.mem_of_getElem? (i := 4) rfl), sg_1_12 _ (List.mem_of_getElem? (i := 5) rfl)⟩
theorem is_W_69 : ev_Is "ThreeLinkPairLaw" 69 mm_W_stop := ⟨Or.inl (sg_2_14 _ (List.mem_of_getElem? (i := 11) rfl)), sg_2_14 _ (List.mem_of_getElem? (i := 12) rfl), sg_0_0 _ (List.mem_of_getElem? (i := 0) rfl)⟩
theorem iv_W_15 : ev_Iv "ThreeLinkPairLaw" 15 0 mm_P_stop := ⟨("ThreeLinkPair", nm_T0, 2), rfl, Or.inl (sg_2_14 _ (List.mem_of_getElem? (i := 14) rfl)), sg_2_14 _ (List.mem_of_getElem? (i := 15) rfl), sg_3_0 _ (List.mem_of_getElem? (i := 0) rfl)⟩
theorem iv_P_40 : ev_Iv "ThreeLinkPair" 40 1 mm_E_fall := ⟨("ThreeLinkPair$End", nm_T1, 7), rfl, Or.inl (sg_3_0 _ (List.mem_of_getElem? (i := 2) rfl)), sg_1_6 _ (List.mem_of_getElem? (i := 2) rfl), sg_1_6 _ (List.mem_of_getElem? (i := 3) rfl)⟩
theorem is_W_72 : ev_Is "ThreeLinkPairLaw" 72 mm_W_fault := ⟨Or.inl (sg_3_0 _ (List.mem_of_getElem? (i := 3) rfl)), sg_3_0 _ (List.mem_of_getElem? (i := 4) rfl), sg_0_0 _ (List.mem_of_getElem? (i := 0) rfl)⟩
theorem iv_W_18 : ev_Iv "ThreeLinkPairLaw" 18 0 mm_P_fault := ⟨("ThreeLinkPair", nm_T0, 2), rfl, Or.inl (sg_3_0 _ (List.mem_of_getElem? (i := 7) rfl)), sg_3_0 _ (List.mem_of_getElem? (i := 8) rfl), sg_3_0 _ (List.mem_of_getElem? (i := 9) rfl)⟩
theorem ii_P_48 : ev_Ii "ThreeLinkPair" 48 mm_IA_init := ⟨Or.inl (sg_3_1 _ (List.mem_of_getElem? (i := 5) rfl)), sg_3_1 _ (List.mem_of_getElem? (i := 6) rfl), rfl, rfl, rfl⟩
theorem ii_IA_7 : ev_Ii "java/lang/IllegalArgumentException" 7 mm_RT_init := ⟨Or.inl (sg_3_1 _ (List.mem_of_getElem? (i := 8) rfl)), sg_2_12 _ (List.mem_of_getElem? (i := 15) rfl), rfl, rfl, rfl⟩
theorem is_W_76 : ev_Is "ThreeLinkPairLaw" 76 mm_W_submit := ⟨Or.inl (sg_3_1 _ (List.mem_of_getElem? (i := 11) rfl)), sg_3_1 _ (List.mem_of_getElem? (i := 12) rfl), sg_0_0 _ (List.mem_of_getElem? (i := 0) rfl)⟩
theorem iv_W_24 : ev_Iv "ThreeLinkPairLaw" 24 0 mm_P_submit := ⟨("ThreeLinkPair", nm_T0, 2), rfl, Or.inl (sg_3_1 _ (List.mem_of_getElem? (i := 14) rfl)), sg_3_1 _ (List.mem_of_getElem? (i := 15) rfl), sg_3_2 _ (List.mem_of_getElem? (i := 0) rfl)⟩
theorem is_P_61 : ev_Is "ThreeLinkPair" 61 mm_P_checkClass := ⟨Or.inl (sg_3_2 _ (List.mem_of_getElem? (i := 2) rfl)), sg_3_2 _ (List.mem_of_getElem? (i := 3) rfl), sg_0_0 _ (List.mem_of_getElem? (i := 1) rfl)⟩
theorem iv_P_64 : ev_Iv "ThreeLinkPair" 64 1 mm_E_accept := ⟨("ThreeLinkPair$End", nm_T1, 7), rfl, Or.inl (sg_3_2 _ (List.mem_of_getElem? (i := 6) rfl)), sg_3_2 _ (List.mem_of_getElem? (i := 7) rfl), sg_3_2 _ (List.mem_of_getElem? (i := 8) rfl)⟩
theorem is_E_191 : ev_Is "ThreeLinkPair$End" 191 mm_E_addBelow := ⟨Or.inl (sg_3_2 _ (List.mem_of_getElem? (i := 10) rfl)), sg_3_2 _ (List.mem_of_getElem? (i := 11) rfl), sg_0_0 _ (List.mem_of_getElem? (i := 2) rfl)⟩
theorem iv_E_195 : ev_Iv "ThreeLinkPair$End" 195 2 mm_S_carries := ⟨("ThreeLinkPair$Side", nm_T2, 20), rfl, Or.inl (sg_3_2 _ (List.mem_of_getElem? (i := 13) rfl)), sg_3_2 _ (List.mem_of_getElem? (i := 14) rfl), sg_3_2 _ (List.mem_of_getElem? (i := 15) rfl)⟩
theorem is_S_95 : ev_Is "ThreeLinkPair$Side" 95 mm_S_holds := ⟨Or.inl (sg_3_3 _ (List.mem_of_getElem? (i := 1) rfl)), sg_3_3 _ (List.mem_of_getElem? (i := 2) rfl), sg_0_0 _ (List.mem_of_getElem? (i := 3) rfl)⟩
theorem is_W_84 : ev_Is "ThreeLinkPairLaw" 84 mm_W_state := ⟨Or.inl (sg_3_3 _ (List.mem_of_getElem? (i := 4) rfl)), sg_3_3 _ (List.mem_of_getElem? (i := 5) rfl), sg_0_0 _ (List.mem_of_getElem? (i := 0) rfl)⟩
theorem iv_W_28 : ev_Iv "ThreeLinkPairLaw" 28 0 mm_P_state := ⟨("ThreeLinkPair", nm_T0, 2), rfl, Or.inl (sg_3_3 _ (List.mem_of_getElem? (i := 7) rfl)), sg_3_3 _ (List.mem_of_getElem? (i := 8) rfl), sg_3_3 _ (List.mem_of_getElem? (i := 9) rfl)⟩
theorem is_W_87 : ev_Is "ThreeLinkPairLaw" 87 mm_W_of := ⟨Or.inl (sg_3_3 _ (List.mem_of_getElem? (i := 11) rfl)), sg_3_3 _ (List.mem_of_getElem? (i := 12) rfl), sg_0_0 _ (List.mem_of_getElem? (i := 0) rfl)⟩
theorem iv_W_32 : ev_Iv "ThreeLinkPairLaw" 32 0 mm_P_of := ⟨("ThreeLinkPair", nm_T0, 2), rfl, Or.inl (sg_3_3 _ (List.mem_of_getElem? (i := 14) rfl)), sg_3_3 _ (List.mem_of_getElem? (i := 15) rfl), sg_3_4 _ (List.mem_of_getElem? (i := 0) rfl)⟩
theorem iv_P_110 : ev_Iv "ThreeLinkPair" 110 9 mm_AL_size := ⟨("java/util/ArrayList", nm_T9, 3), rfl, Or.inl (sg_3_4 _ (List.mem_of_getElem? (i := 2) rfl)), sg_1_7 _ (List.mem_of_getElem? (i := 5) rfl), sg_1_7 _ (List.mem_of_getElem? (i := 6) rfl)⟩
theorem is_W_90 : ev_Is "ThreeLinkPairLaw" 90 mm_W_link := ⟨Or.inl (sg_3_4 _ (List.mem_of_getElem? (i := 4) rfl)), sg_3_4 _ (List.mem_of_getElem? (i := 5) rfl), sg_0_0 _ (List.mem_of_getElem? (i := 0) rfl)⟩
theorem iv_W_36 : ev_Iv "ThreeLinkPairLaw" 36 0 mm_P_link := ⟨("ThreeLinkPair", nm_T0, 2), rfl, Or.inl (sg_3_4 _ (List.mem_of_getElem? (i := 7) rfl)), sg_3_4 _ (List.mem_of_getElem? (i := 8) rfl), sg_3_4 _ (List.mem_of_getElem? (i := 9) rfl)⟩
theorem is_W_93 : ev_Is "ThreeLinkPairLaw" 93 mm_W_changes := ⟨Or.inl (sg_3_4 _ (List.mem_of_getElem? (i := 11) rfl)), sg_3_4 _ (List.mem_of_getElem? (i := 12) rfl), sg_0_0 _ (List.mem_of_getElem? (i := 0) rfl)⟩
theorem iv_W_39 : ev_Iv "ThreeLinkPairLaw" 39 0 mm_P_changes := ⟨("ThreeLinkPair", nm_T0, 2), rfl, Or.inl (sg_3_4 _ (List.mem_of_getElem? (i := 14) rfl)), sg_3_4 _ (List.mem_of_getElem? (i := 15) rfl), sg_3_5 _ (List.mem_of_getElem? (i := 0) rfl)⟩
theorem is_W_96 : ev_Is "ThreeLinkPairLaw" 96 mm_W_held := ⟨Or.inl (sg_3_5 _ (List.mem_of_getElem? (i := 2) rfl)), sg_3_5 _ (List.mem_of_getElem? (i := 3) rfl), sg_0_0 _ (List.mem_of_getElem? (i := 0) rfl)⟩
theorem iv_W_42 : ev_Iv "ThreeLinkPairLaw" 42 0 mm_P_held := ⟨("ThreeLinkPair", nm_T0, 2), rfl, Or.inl (sg_3_5 _ (List.mem_of_getElem? (i := 5) rfl)), sg_3_5 _ (List.mem_of_getElem? (i := 6) rfl), sg_3_5 _ (List.mem_of_getElem? (i := 7) rfl)⟩
theorem is_W_100 : ev_Is "ThreeLinkPairLaw" 100 mm_W_inbox := ⟨Or.inl (sg_3_5 _ (List.mem_of_getElem? (i := 9) rfl)), sg_3_5 _ (List.mem_of_getElem? (i := 10) rfl), sg_0_0 _ (List.mem_of_getElem? (i := 0) rfl)⟩
theorem iv_W_46 : ev_Iv "ThreeLinkPairLaw" 46 0 mm_P_inbox := ⟨("ThreeLinkPair", nm_T0, 2), rfl, Or.inl (sg_3_5 _ (List.mem_of_getElem? (i := 12) rfl)), sg_3_5 _ (List.mem_of_getElem? (i := 13) rfl), sg_3_5 _ (List.mem_of_getElem? (i := 14) rfl)⟩
theorem is_W_103 : ev_Is "ThreeLinkPairLaw" 103 mm_W_take := ⟨Or.inl (sg_3_6 _ (List.mem_of_getElem? (i := 0) rfl)), sg_3_6 _ (List.mem_of_getElem? (i := 1) rfl), sg_0_0 _ (List.mem_of_getElem? (i := 0) rfl)⟩
theorem iv_W_49 : ev_Iv "ThreeLinkPairLaw" 49 0 mm_P_take := ⟨("ThreeLinkPair", nm_T0, 2), rfl, Or.inl (sg_3_6 _ (List.mem_of_getElem? (i := 4) rfl)), sg_3_6 _ (List.mem_of_getElem? (i := 5) rfl), sg_3_6 _ (List.mem_of_getElem? (i := 6) rfl)⟩
theorem ii_P_164 : ev_Ii "ThreeLinkPair" 164 mm_NS_init := ⟨Or.inl (sg_3_7 _ (List.mem_of_getElem? (i := 2) rfl)), sg_3_7 _ (List.mem_of_getElem? (i := 3) rfl), rfl, rfl, rfl⟩
theorem ii_NS_13 : ev_Ii "java/util/NoSuchElementException" 13 mm_RT_init := ⟨Or.inl (sg_3_7 _ (List.mem_of_getElem? (i := 5) rfl)), sg_2_12 _ (List.mem_of_getElem? (i := 15) rfl), rfl, rfl, rfl⟩
theorem ii_W_58 : ev_Ii "ThreeLinkPairLaw" 58 mm_D_init := ⟨Or.inl (sg_3_7 _ (List.mem_of_getElem? (i := 12) rfl)), sg_3_7 _ (List.mem_of_getElem? (i := 13) rfl), rfl, rfl, rfl⟩
theorem oi_D_1 : Cond.methodLink "ThreeLinkPairModel" 1 Lib.objectInit ∈ lw_tbl := sg_3_7 _ (List.mem_of_getElem? (i := 15) rfl)
theorem iv_D_153 : ev_Iv "ThreeLinkPairModel" 153 8 mm_D_begin := ⟨("ThreeLinkPairModel", nm_T8, 51), rfl, Or.inl (sg_3_8 _ (List.mem_of_getElem? (i := 0) rfl)), sg_3_8 _ (List.mem_of_getElem? (i := 2) rfl), nm_pr 6 (by decide +kernel)⟩
theorem iv_D_170 : ev_Iv "ThreeLinkPairModel" 170 8 mm_D_empty := ⟨("ThreeLinkPairModel", nm_T8, 51), rfl, Or.inl (sg_3_8 _ (List.mem_of_getElem? (i := 4) rfl)), sg_3_8 _ (List.mem_of_getElem? (i := 6) rfl), nm_pr 7 (by decide +kernel)⟩
theorem iv_D_163 : ev_Iv "ThreeLinkPairModel" 163 8 mm_D_shift := ⟨("ThreeLinkPairModel", nm_T8, 51), rfl, Or.inl (sg_3_8 _ (List.mem_of_getElem? (i := 8) rfl)), sg_3_8 _ (List.mem_of_getElem? (i := 10) rfl), nm_pr 8 (by decide +kernel)⟩
theorem iv_D_167 : ev_Iv "ThreeLinkPairModel" 167 8 mm_D_give := ⟨("ThreeLinkPairModel", nm_T8, 51), rfl, Or.inl (sg_3_8 _ (List.mem_of_getElem? (i := 12) rfl)), sg_3_8 _ (List.mem_of_getElem? (i := 14) rfl), nm_pr 9 (by decide +kernel)⟩
theorem iv_W_65 : ev_Iv "ThreeLinkPairLaw" 65 8 mm_D_thrown := ⟨("ThreeLinkPairModel", nm_T8, 51), rfl, Or.inl (sg_4_3 _ (List.mem_of_getElem? (i := 11) rfl)), sg_4_3 _ (List.mem_of_getElem? (i := 12) rfl), sg_4_3 _ (List.mem_of_getElem? (i := 13) rfl)⟩
theorem iv_W_64 : ev_Iv "ThreeLinkPairLaw" 64 8 mm_D_start := ⟨("ThreeLinkPairModel", nm_T8, 51), rfl, Or.inl (sg_4_3 _ (List.mem_of_getElem? (i := 15) rfl)), sg_4_4 _ (List.mem_of_getElem? (i := 0) rfl), sg_4_4 _ (List.mem_of_getElem? (i := 1) rfl)⟩
theorem is_D_173 : ev_Is "ThreeLinkPairModel" 173 mm_D_isSide := ⟨Or.inl (sg_4_4 _ (List.mem_of_getElem? (i := 3) rfl)), sg_4_4 _ (List.mem_of_getElem? (i := 4) rfl), sg_0_0 _ (List.mem_of_getElem? (i := 12) rfl)⟩
theorem iv_D_177 : ev_Iv "ThreeLinkPairModel" 177 8 mm_D_missing := ⟨("ThreeLinkPairModel", nm_T8, 51), rfl, Or.inl (sg_4_4 _ (List.mem_of_getElem? (i := 6) rfl)), sg_4_4 _ (List.mem_of_getElem? (i := 8) rfl), nm_pr 10 (by decide +kernel)⟩
theorem iv_D_181 : ev_Iv "ThreeLinkPairModel" 181 8 mm_D_come := ⟨("ThreeLinkPairModel", nm_T8, 51), rfl, Or.inl (sg_4_4 _ (List.mem_of_getElem? (i := 10) rfl)), sg_4_4 _ (List.mem_of_getElem? (i := 12) rfl), nm_pr 11 (by decide +kernel)⟩
theorem iv_W_71 : ev_Iv "ThreeLinkPairLaw" 71 8 mm_D_stop := ⟨("ThreeLinkPairModel", nm_T8, 51), rfl, Or.inl (sg_4_4 _ (List.mem_of_getElem? (i := 14) rfl)), sg_4_4 _ (List.mem_of_getElem? (i := 15) rfl), sg_4_5 _ (List.mem_of_getElem? (i := 0) rfl)⟩
theorem iv_D_188 : ev_Iv "ThreeLinkPairModel" 188 8 mm_D_fall := ⟨("ThreeLinkPairModel", nm_T8, 51), rfl, Or.inl (sg_4_5 _ (List.mem_of_getElem? (i := 2) rfl)), sg_4_5 _ (List.mem_of_getElem? (i := 4) rfl), nm_pr 12 (by decide +kernel)⟩
theorem iv_D_185 : ev_Iv "ThreeLinkPairModel" 185 8 mm_D_change := ⟨("ThreeLinkPairModel", nm_T8, 51), rfl, Or.inl (sg_4_5 _ (List.mem_of_getElem? (i := 6) rfl)), sg_4_5 _ (List.mem_of_getElem? (i := 8) rfl), nm_pr 13 (by decide +kernel)⟩
theorem iv_D_191 : ev_Iv "ThreeLinkPairModel" 191 8 mm_D_put := ⟨("ThreeLinkPairModel", nm_T8, 51), rfl, Or.inl (sg_4_5 _ (List.mem_of_getElem? (i := 10) rfl)), sg_4_5 _ (List.mem_of_getElem? (i := 12) rfl), nm_pr 14 (by decide +kernel)⟩
theorem iv_W_75 : ev_Iv "ThreeLinkPairLaw" 75 8 mm_D_fault := ⟨("ThreeLinkPairModel", nm_T8, 51), rfl, Or.inl (sg_4_5 _ (List.mem_of_getElem? (i := 14) rfl)), sg_4_5 _ (List.mem_of_getElem? (i := 15) rfl), sg_4_6 _ (List.mem_of_getElem? (i := 0) rfl)⟩
theorem iv_W_83 : ev_Iv "ThreeLinkPairLaw" 83 8 mm_D_tick := ⟨("ThreeLinkPairModel", nm_T8, 51), rfl, Or.inl (sg_4_6 _ (List.mem_of_getElem? (i := 2) rfl)), sg_4_6 _ (List.mem_of_getElem? (i := 3) rfl), sg_4_6 _ (List.mem_of_getElem? (i := 4) rfl)⟩
theorem iv_D_249 : ev_Iv "ThreeLinkPairModel" 249 8 mm_D_deliver := ⟨("ThreeLinkPairModel", nm_T8, 51), rfl, Or.inl (sg_4_6 _ (List.mem_of_getElem? (i := 6) rfl)), sg_4_6 _ (List.mem_of_getElem? (i := 8) rfl), nm_pr 15 (by decide +kernel)⟩
theorem iv_D_230 : ev_Iv "ThreeLinkPairModel" 230 8 mm_D_damaged := ⟨("ThreeLinkPairModel", nm_T8, 51), rfl, Or.inl (sg_4_6 _ (List.mem_of_getElem? (i := 10) rfl)), sg_4_6 _ (List.mem_of_getElem? (i := 12) rfl), nm_pr 16 (by decide +kernel)⟩
theorem iv_D_236 : ev_Iv "ThreeLinkPairModel" 236 8 mm_D_status := ⟨("ThreeLinkPairModel", nm_T8, 51), rfl, Or.inl (sg_4_6 _ (List.mem_of_getElem? (i := 14) rfl)), sg_4_7 _ (List.mem_of_getElem? (i := 0) rfl), nm_pr 17 (by decide +kernel)⟩
theorem iv_D_239 : ev_Iv "ThreeLinkPairModel" 239 8 mm_D_served := ⟨("ThreeLinkPairModel", nm_T8, 51), rfl, Or.inl (sg_4_7 _ (List.mem_of_getElem? (i := 2) rfl)), sg_4_7 _ (List.mem_of_getElem? (i := 4) rfl), nm_pr 18 (by decide +kernel)⟩
theorem iv_D_227 : ev_Iv "ThreeLinkPairModel" 227 8 mm_D_isTaken := ⟨("ThreeLinkPairModel", nm_T8, 51), rfl, Or.inl (sg_4_7 _ (List.mem_of_getElem? (i := 6) rfl)), sg_4_7 _ (List.mem_of_getElem? (i := 8) rfl), nm_pr 19 (by decide +kernel)⟩
theorem iv_D_223 : ev_Iv "ThreeLinkPairModel" 223 8 mm_D_takeOrder := ⟨("ThreeLinkPairModel", nm_T8, 51), rfl, Or.inl (sg_4_7 _ (List.mem_of_getElem? (i := 10) rfl)), sg_4_7 _ (List.mem_of_getElem? (i := 12) rfl), nm_pr 20 (by decide +kernel)⟩
theorem iv_D_210 : ev_Iv "ThreeLinkPairModel" 210 8 mm_D_message := ⟨("ThreeLinkPairModel", nm_T8, 51), rfl, Or.inl (sg_4_7 _ (List.mem_of_getElem? (i := 14) rfl)), sg_4_8 _ (List.mem_of_getElem? (i := 0) rfl), nm_pr 21 (by decide +kernel)⟩
theorem iv_D_203 : ev_Iv "ThreeLinkPairModel" 203 8 mm_D_say := ⟨("ThreeLinkPairModel", nm_T8, 51), rfl, Or.inl (sg_4_8 _ (List.mem_of_getElem? (i := 2) rfl)), sg_4_8 _ (List.mem_of_getElem? (i := 4) rfl), nm_pr 22 (by decide +kernel)⟩
theorem iv_D_197 : ev_Iv "ThreeLinkPairModel" 197 8 mm_D_serving := ⟨("ThreeLinkPairModel", nm_T8, 51), rfl, Or.inl (sg_4_8 _ (List.mem_of_getElem? (i := 6) rfl)), sg_4_8 _ (List.mem_of_getElem? (i := 8) rfl), nm_pr 23 (by decide +kernel)⟩
theorem iv_D_220 : ev_Iv "ThreeLinkPairModel" 220 8 mm_D_settle := ⟨("ThreeLinkPairModel", nm_T8, 51), rfl, Or.inl (sg_4_8 _ (List.mem_of_getElem? (i := 10) rfl)), sg_4_8 _ (List.mem_of_getElem? (i := 12) rfl), nm_pr 24 (by decide +kernel)⟩
theorem iv_D_252 : ev_Iv "ThreeLinkPairModel" 252 8 mm_D_age := ⟨("ThreeLinkPairModel", nm_T8, 51), rfl, Or.inl (sg_4_8 _ (List.mem_of_getElem? (i := 14) rfl)), sg_4_9 _ (List.mem_of_getElem? (i := 0) rfl), nm_pr 25 (by decide +kernel)⟩
theorem iv_D_255 : ev_Iv "ThreeLinkPairModel" 255 8 mm_D_tickChange := ⟨("ThreeLinkPairModel", nm_T8, 51), rfl, Or.inl (sg_4_9 _ (List.mem_of_getElem? (i := 2) rfl)), sg_4_9 _ (List.mem_of_getElem? (i := 4) rfl), nm_pr 26 (by decide +kernel)⟩
theorem iv_D_214 : ev_Iv "ThreeLinkPairModel" 214 8 mm_D_giveUp := ⟨("ThreeLinkPairModel", nm_T8, 51), rfl, Or.inl (sg_4_9 _ (List.mem_of_getElem? (i := 6) rfl)), sg_4_9 _ (List.mem_of_getElem? (i := 8) rfl), nm_pr 27 (by decide +kernel)⟩
theorem iv_D_206 : ev_Iv "ThreeLinkPairModel" 206 8 mm_D_chosen := ⟨("ThreeLinkPairModel", nm_T8, 51), rfl, Or.inl (sg_4_9 _ (List.mem_of_getElem? (i := 10) rfl)), sg_4_9 _ (List.mem_of_getElem? (i := 12) rfl), nm_pr 28 (by decide +kernel)⟩
theorem iv_D_194 : ev_Iv "ThreeLinkPairModel" 194 8 mm_D_isOpen := ⟨("ThreeLinkPairModel", nm_T8, 51), rfl, Or.inl (sg_4_9 _ (List.mem_of_getElem? (i := 14) rfl)), sg_4_10 _ (List.mem_of_getElem? (i := 0) rfl), nm_pr 29 (by decide +kernel)⟩
theorem iv_D_217 : ev_Iv "ThreeLinkPairModel" 217 8 mm_D_end := ⟨("ThreeLinkPairModel", nm_T8, 51), rfl, Or.inl (sg_4_10 _ (List.mem_of_getElem? (i := 2) rfl)), sg_4_10 _ (List.mem_of_getElem? (i := 4) rfl), nm_pr 30 (by decide +kernel)⟩
theorem iv_D_258 : ev_Iv "ThreeLinkPairModel" 258 8 mm_D_send := ⟨("ThreeLinkPairModel", nm_T8, 51), rfl, Or.inl (sg_4_10 _ (List.mem_of_getElem? (i := 6) rfl)), sg_4_10 _ (List.mem_of_getElem? (i := 8) rfl), nm_pr 31 (by decide +kernel)⟩
theorem iv_D_242 : ev_Iv "ThreeLinkPairModel" 242 8 mm_D_at := ⟨("ThreeLinkPairModel", nm_T8, 51), rfl, Or.inl (sg_4_10 _ (List.mem_of_getElem? (i := 10) rfl)), sg_4_10 _ (List.mem_of_getElem? (i := 12) rfl), nm_pr 32 (by decide +kernel)⟩
theorem iv_D_245 : ev_Iv "ThreeLinkPairModel" 245 8 mm_D_carry := ⟨("ThreeLinkPairModel", nm_T8, 51), rfl, Or.inl (sg_4_10 _ (List.mem_of_getElem? (i := 14) rfl)), sg_4_11 _ (List.mem_of_getElem? (i := 0) rfl), nm_pr 33 (by decide +kernel)⟩
theorem iv_W_79 : ev_Iv "ThreeLinkPairLaw" 79 8 mm_D_submit := ⟨("ThreeLinkPairModel", nm_T8, 51), rfl, Or.inl (sg_4_11 _ (List.mem_of_getElem? (i := 2) rfl)), sg_4_11 _ (List.mem_of_getElem? (i := 3) rfl), sg_4_11 _ (List.mem_of_getElem? (i := 4) rfl)⟩
theorem is_D_261 : ev_Is "ThreeLinkPairModel" 261 mm_D_isClass := ⟨Or.inl (sg_4_11 _ (List.mem_of_getElem? (i := 6) rfl)), sg_4_11 _ (List.mem_of_getElem? (i := 7) rfl), sg_0_0 _ (List.mem_of_getElem? (i := 12) rfl)⟩
theorem iv_D_264 : ev_Iv "ThreeLinkPairModel" 264 8 mm_D_hasClass := ⟨("ThreeLinkPairModel", nm_T8, 51), rfl, Or.inl (sg_4_11 _ (List.mem_of_getElem? (i := 9) rfl)), sg_4_11 _ (List.mem_of_getElem? (i := 11) rfl), nm_pr 34 (by decide +kernel)⟩
theorem iv_W_86 : ev_Iv "ThreeLinkPairLaw" 86 8 mm_D_state := ⟨("ThreeLinkPairModel", nm_T8, 51), rfl, Or.inl (sg_4_11 _ (List.mem_of_getElem? (i := 13) rfl)), sg_4_11 _ (List.mem_of_getElem? (i := 14) rfl), sg_4_11 _ (List.mem_of_getElem? (i := 15) rfl)⟩
theorem iv_W_89 : ev_Iv "ThreeLinkPairLaw" 89 8 mm_D_of := ⟨("ThreeLinkPairModel", nm_T8, 51), rfl, Or.inl (sg_4_12 _ (List.mem_of_getElem? (i := 1) rfl)), sg_4_12 _ (List.mem_of_getElem? (i := 2) rfl), sg_4_12 _ (List.mem_of_getElem? (i := 3) rfl)⟩
theorem iv_W_92 : ev_Iv "ThreeLinkPairLaw" 92 8 mm_D_link := ⟨("ThreeLinkPairModel", nm_T8, 51), rfl, Or.inl (sg_4_12 _ (List.mem_of_getElem? (i := 5) rfl)), sg_4_12 _ (List.mem_of_getElem? (i := 6) rfl), sg_4_12 _ (List.mem_of_getElem? (i := 7) rfl)⟩
theorem iv_W_95 : ev_Iv "ThreeLinkPairLaw" 95 8 mm_D_changes := ⟨("ThreeLinkPairModel", nm_T8, 51), rfl, Or.inl (sg_4_12 _ (List.mem_of_getElem? (i := 9) rfl)), sg_4_12 _ (List.mem_of_getElem? (i := 10) rfl), sg_4_12 _ (List.mem_of_getElem? (i := 11) rfl)⟩
theorem iv_W_99 : ev_Iv "ThreeLinkPairLaw" 99 8 mm_D_held := ⟨("ThreeLinkPairModel", nm_T8, 51), rfl, Or.inl (sg_4_12 _ (List.mem_of_getElem? (i := 13) rfl)), sg_4_12 _ (List.mem_of_getElem? (i := 14) rfl), sg_4_12 _ (List.mem_of_getElem? (i := 15) rfl)⟩
theorem is_D_267 : ev_Is "ThreeLinkPairModel" 267 mm_D_isEnd := ⟨Or.inl (sg_4_13 _ (List.mem_of_getElem? (i := 1) rfl)), sg_4_13 _ (List.mem_of_getElem? (i := 2) rfl), sg_0_0 _ (List.mem_of_getElem? (i := 12) rfl)⟩
theorem iv_W_102 : ev_Iv "ThreeLinkPairLaw" 102 8 mm_D_inbox := ⟨("ThreeLinkPairModel", nm_T8, 51), rfl, Or.inl (sg_4_13 _ (List.mem_of_getElem? (i := 4) rfl)), sg_4_13 _ (List.mem_of_getElem? (i := 5) rfl), sg_4_13 _ (List.mem_of_getElem? (i := 6) rfl)⟩
theorem iv_W_105 : ev_Iv "ThreeLinkPairLaw" 105 8 mm_D_take := ⟨("ThreeLinkPairModel", nm_T8, 51), rfl, Or.inl (sg_4_13 _ (List.mem_of_getElem? (i := 8) rfl)), sg_4_13 _ (List.mem_of_getElem? (i := 9) rfl), sg_4_13 _ (List.mem_of_getElem? (i := 10) rfl)⟩
theorem iv_W_109 : ev_Iv "ThreeLinkPairLaw" 109 8 mm_D_lost := ⟨("ThreeLinkPairModel", nm_T8, 51), rfl, Or.inl (sg_4_13 _ (List.mem_of_getElem? (i := 13) rfl)), sg_4_13 _ (List.mem_of_getElem? (i := 14) rfl), sg_4_13 _ (List.mem_of_getElem? (i := 15) rfl)⟩
theorem ii_E_23 : ev_Ii "ThreeLinkPair$End" 23 mm_S_init := ⟨Or.inr ⟨"ThreeLinkPair", sg_0_2 _ (List.mem_of_getElem? (i := 13) rfl)⟩, sg_0_2 _ (List.mem_of_getElem? (i := 14) rfl), rfl, rfl, rfl⟩
theorem ii_S_80 : ev_Ii "ThreeLinkPair$Side" 80 mm_N_init := ⟨Or.inr ⟨"ThreeLinkPair", sg_0_5 _ (List.mem_of_getElem? (i := 14) rfl)⟩, sg_0_5 _ (List.mem_of_getElem? (i := 15) rfl), rfl, rfl, rfl⟩
theorem ii_E_24 : ev_Ii "ThreeLinkPair$End" 24 mm_C_init := ⟨Or.inr ⟨"ThreeLinkPair", sg_0_13 _ (List.mem_of_getElem? (i := 10) rfl)⟩, sg_0_13 _ (List.mem_of_getElem? (i := 11) rfl), rfl, rfl, rfl⟩
theorem ii_P_22 : ev_Ii "ThreeLinkPair" 22 mm_F_init := ⟨Or.inr ⟨"ThreeLinkPair", sg_1_3 _ (List.mem_of_getElem? (i := 10) rfl)⟩, sg_1_3 _ (List.mem_of_getElem? (i := 11) rfl), rfl, rfl, rfl⟩
theorem is_S_118 : ev_Is "ThreeLinkPair$Side" 118 mm_P_dropFirst := ⟨Or.inr ⟨"ThreeLinkPair", sg_1_13 _ (List.mem_of_getElem? (i := 9) rfl)⟩, sg_1_13 _ (List.mem_of_getElem? (i := 10) rfl), sg_0_0 _ (List.mem_of_getElem? (i := 1) rfl)⟩
theorem is_C_81 : ev_Is "ThreeLinkPair$Changeover" 81 mm_P_dropFirst := ⟨Or.inr ⟨"ThreeLinkPair", sg_2_3 _ (List.mem_of_getElem? (i := 6) rfl)⟩, sg_1_13 _ (List.mem_of_getElem? (i := 10) rfl), sg_0_0 _ (List.mem_of_getElem? (i := 1) rfl)⟩
theorem oi_i : Cond.instanceMethod Lib.objectInit ∈ lw_tbl := sg_0_1 _ (List.mem_of_getElem? (i := 15) rfl)
theorem oi_c : Cond.code Lib.objectInit ⟨#[0xb1]⟩ 1 none ∈ lw_tbl := sg_0_2 _ (List.mem_of_getElem? (i := 0) rfl)
end
