/-! facts of the tables (printed) -/
theorem ck_0 : ev_clok 0 ("ThreeLinkPair", nm_T0, 2) := ⟨nm_all ((List.forall_mem_cons.mpr ⟨sg_1_4 _ (List.mem_of_getElem? (i := 9) rfl), (List.forall_mem_cons.mpr ⟨sg_1_4 _ (List.mem_of_getElem? (i := 11) rfl), (fun _ h => absurd h List.not_mem_nil)⟩)⟩)), by decide +kernel, by decide +kernel, sg_0_1 _ (List.mem_of_getElem? (i := 10) rfl), sg_0_0 _ (List.mem_of_getElem? (i := 1) rfl)⟩
theorem ck_1 : ev_clok 1 ("ThreeLinkPair$End", nm_T1, 7) := ⟨nm_all ((List.forall_mem_cons.mpr ⟨sg_1_2 _ (List.mem_of_getElem? (i := 8) rfl), (List.forall_mem_cons.mpr ⟨sg_1_2 _ (List.mem_of_getElem? (i := 10) rfl), (List.forall_mem_cons.mpr ⟨sg_1_2 _ (List.mem_of_getElem? (i := 12) rfl), (List.forall_mem_cons.mpr ⟨sg_1_2 _ (List.mem_of_getElem? (i := 14) rfl), (List.forall_mem_cons.mpr ⟨sg_1_3 _ (List.mem_of_getElem? (i := 0) rfl), (List.forall_mem_cons.mpr ⟨sg_1_3 _ (List.mem_of_getElem? (i := 2) rfl), (List.forall_mem_cons.mpr ⟨sg_1_3 _ (List.mem_of_getElem? (i := 4) rfl), (fun _ h => absurd h List.not_mem_nil)⟩)⟩)⟩)⟩)⟩)⟩)⟩)), by decide +kernel, by decide +kernel, sg_0_2 _ (List.mem_of_getElem? (i := 3) rfl), sg_0_0 _ (List.mem_of_getElem? (i := 2) rfl)⟩
theorem ck_2 : ev_clok 2 ("ThreeLinkPair$Side", nm_T2, 20) := ⟨nm_all ((List.forall_mem_cons.mpr ⟨sg_0_11 _ (List.mem_of_getElem? (i := 0) rfl), (List.forall_mem_cons.mpr ⟨sg_0_11 _ (List.mem_of_getElem? (i := 2) rfl), (List.forall_mem_cons.mpr ⟨sg_0_11 _ (List.mem_of_getElem? (i := 4) rfl), (List.forall_mem_cons.mpr ⟨sg_0_11 _ (List.mem_of_getElem? (i := 6) rfl), (List.forall_mem_cons.mpr ⟨sg_0_11 _ (List.mem_of_getElem? (i := 8) rfl), (List.forall_mem_cons.mpr ⟨sg_0_11 _ (List.mem_of_getElem? (i := 10) rfl), (List.forall_mem_cons.mpr ⟨sg_0_11 _ (List.mem_of_getElem? (i := 12) rfl), (List.forall_mem_cons.mpr ⟨sg_0_11 _ (List.mem_of_getElem? (i := 14) rfl), (List.forall_mem_cons.mpr ⟨sg_0_12 _ (List.mem_of_getElem? (i := 0) rfl), (List.forall_mem_cons.mpr ⟨sg_0_12 _ (List.mem_of_getElem? (i := 2) rfl), (List.forall_mem_cons.mpr ⟨sg_0_12 _ (List.mem_of_getElem? (i := 4) rfl), (List.forall_mem_cons.mpr ⟨sg_0_12 _ (List.mem_of_getElem? (i := 6) rfl), (List.forall_mem_cons.mpr ⟨sg_0_12 _ (List.mem_of_getElem? (i := 8) rfl), (List.forall_mem_cons.mpr ⟨sg_0_12 _ (List.mem_of_getElem? (i := 10) rfl), (List.forall_mem_cons.mpr ⟨sg_0_12 _ (List.mem_of_getElem? (i := 12) rfl), (List.forall_mem_cons.mpr ⟨sg_0_12 _ (List.mem_of_getElem? (i := 14) rfl), (List.forall_mem_cons.mpr ⟨sg_0_13 _ (List.mem_of_getElem? (i := 0) rfl), (List.forall_mem_cons.mpr ⟨sg_0_13 _ (List.mem_of_getElem? (i := 2) rfl), (List.forall_mem_cons.mpr ⟨sg_0_13 _ (List.mem_of_getElem? (i := 4) rfl), (List.forall_mem_cons.mpr ⟨sg_0_13 _ (List.mem_of_getElem? (i := 6) rfl), (fun _ h => absurd h List.not_mem_nil)⟩)⟩)⟩)⟩)⟩)⟩)⟩)⟩)⟩)⟩)⟩)⟩)⟩)⟩)⟩)⟩)⟩)⟩)⟩)⟩)), by decide +kernel, by decide +kernel, sg_0_2 _ (List.mem_of_getElem? (i := 12) rfl), sg_0_0 _ (List.mem_of_getElem? (i := 3) rfl)⟩
theorem ck_3 : ev_clok 3 ("ThreeLinkPair$Changeover", nm_T3, 10) := ⟨nm_all ((List.forall_mem_cons.mpr ⟨sg_1_0 _ (List.mem_of_getElem? (i := 4) rfl), (List.forall_mem_cons.mpr ⟨sg_1_0 _ (List.mem_of_getElem? (i := 6) rfl), (List.forall_mem_cons.mpr ⟨sg_1_0 _ (List.mem_of_getElem? (i := 8) rfl), (List.forall_mem_cons.mpr ⟨sg_1_0 _ (List.mem_of_getElem? (i := 10) rfl), (List.forall_mem_cons.mpr ⟨sg_1_0 _ (List.mem_of_getElem? (i := 12) rfl), (List.forall_mem_cons.mpr ⟨sg_1_0 _ (List.mem_of_getElem? (i := 14) rfl), (List.forall_mem_cons.mpr ⟨sg_1_1 _ (List.mem_of_getElem? (i := 0) rfl), (List.forall_mem_cons.mpr ⟨sg_1_1 _ (List.mem_of_getElem? (i := 2) rfl), (List.forall_mem_cons.mpr ⟨sg_1_1 _ (List.mem_of_getElem? (i := 4) rfl), (List.forall_mem_cons.mpr ⟨sg_1_1 _ (List.mem_of_getElem? (i := 6) rfl), (fun _ h => absurd h List.not_mem_nil)⟩)⟩)⟩)⟩)⟩)⟩)⟩)⟩)⟩)⟩)), by decide +kernel, by decide +kernel, sg_0_13 _ (List.mem_of_getElem? (i := 9) rfl), sg_0_0 _ (List.mem_of_getElem? (i := 10) rfl)⟩
theorem ck_4 : ev_clok 4 ("ThreeLinkPair$Fault", nm_T4, 2) := ⟨nm_all ((List.forall_mem_cons.mpr ⟨sg_1_4 _ (List.mem_of_getElem? (i := 2) rfl), (List.forall_mem_cons.mpr ⟨sg_1_4 _ (List.mem_of_getElem? (i := 4) rfl), (fun _ h => absurd h List.not_mem_nil)⟩)⟩)), by decide +kernel, by decide +kernel, sg_1_3 _ (List.mem_of_getElem? (i := 9) rfl), sg_0_0 _ (List.mem_of_getElem? (i := 11) rfl)⟩
theorem ck_5 : ev_clok 5 ("ThreeLinkPair$Memory", nm_T5, 2) := ⟨nm_all ((List.forall_mem_cons.mpr ⟨sg_0_5 _ (List.mem_of_getElem? (i := 6) rfl), (List.forall_mem_cons.mpr ⟨sg_0_5 _ (List.mem_of_getElem? (i := 8) rfl), (fun _ h => absurd h List.not_mem_nil)⟩)⟩)), by decide +kernel, by decide +kernel, sg_0_4 _ (List.mem_of_getElem? (i := 12) rfl), sg_0_0 _ (List.mem_of_getElem? (i := 7) rfl)⟩
theorem ck_6 : ev_clok 6 ("ThreeLinkPair$Message", nm_T6, 4) := ⟨nm_all ((List.forall_mem_cons.mpr ⟨sg_2_1 _ (List.mem_of_getElem? (i := 15) rfl), (List.forall_mem_cons.mpr ⟨sg_2_2 _ (List.mem_of_getElem? (i := 1) rfl), (List.forall_mem_cons.mpr ⟨sg_2_2 _ (List.mem_of_getElem? (i := 3) rfl), (List.forall_mem_cons.mpr ⟨sg_2_2 _ (List.mem_of_getElem? (i := 5) rfl), (fun _ h => absurd h List.not_mem_nil)⟩)⟩)⟩)⟩)), by decide +kernel, by decide +kernel, sg_2_0 _ (List.mem_of_getElem? (i := 15) rfl), sg_0_1 _ (List.mem_of_getElem? (i := 7) rfl)⟩
theorem ck_7 : ev_clok 7 ("ThreeLinkPair$Unit", nm_T7, 7) := ⟨nm_all ((List.forall_mem_cons.mpr ⟨sg_0_6 _ (List.mem_of_getElem? (i := 15) rfl), (List.forall_mem_cons.mpr ⟨sg_0_7 _ (List.mem_of_getElem? (i := 1) rfl), (List.forall_mem_cons.mpr ⟨sg_0_7 _ (List.mem_of_getElem? (i := 3) rfl), (List.forall_mem_cons.mpr ⟨sg_0_7 _ (List.mem_of_getElem? (i := 5) rfl), (List.forall_mem_cons.mpr ⟨sg_0_7 _ (List.mem_of_getElem? (i := 7) rfl), (List.forall_mem_cons.mpr ⟨sg_0_7 _ (List.mem_of_getElem? (i := 9) rfl), (List.forall_mem_cons.mpr ⟨sg_0_7 _ (List.mem_of_getElem? (i := 11) rfl), (fun _ h => absurd h List.not_mem_nil)⟩)⟩)⟩)⟩)⟩)⟩)⟩)), by decide +kernel, by decide +kernel, sg_0_5 _ (List.mem_of_getElem? (i := 13) rfl), sg_0_0 _ (List.mem_of_getElem? (i := 9) rfl)⟩
theorem ck_8 : ev_clok 8 ("ThreeLinkPairModel", nm_T8, 51) := ⟨nm_all ((List.forall_mem_cons.mpr ⟨sg_3_12 _ (List.mem_of_getElem? (i := 3) rfl), (List.forall_mem_cons.mpr ⟨sg_3_12 _ (List.mem_of_getElem? (i := 5) rfl), (List.forall_mem_cons.mpr ⟨sg_3_12 _ (List.mem_of_getElem? (i := 7) rfl), (List.forall_mem_cons.mpr ⟨sg_3_12 _ (List.mem_of_getElem? (i := 9) rfl), (List.forall_mem_cons.mpr ⟨sg_3_12 _ (List.mem_of_getElem? (i := 11) rfl), (List.forall_mem_cons.mpr ⟨sg_3_12 _ (List.mem_of_getElem? (i := 13) rfl), (List.forall_mem_cons.mpr ⟨sg_3_12 _ (List.mem_of_getElem? (i := 15) rfl), (List.forall_mem_cons.mpr ⟨sg_3_13 _ (List.mem_of_getElem? (i := 1) rfl), (List.forall_mem_cons.mpr ⟨sg_3_13 _ (List.mem_of_getElem? (i := 3) rfl), (List.forall_mem_cons.mpr ⟨sg_3_13 _ (List.mem_of_getElem? (i := 5) rfl), (List.forall_mem_cons.mpr ⟨sg_3_13 _ (List.mem_of_getElem? (i := 7) rfl), (List.forall_mem_cons.mpr ⟨sg_3_13 _ (List.mem_of_getElem? (i := 9) rfl), (List.forall_mem_cons.mpr ⟨sg_3_13 _ (List.mem_of_getElem? (i := 11) rfl), (List.forall_mem_cons.mpr ⟨sg_3_13 _ (List.mem_of_getElem? (i := 13) rfl), (List.forall_mem_cons.mpr ⟨sg_3_13 _ (List.mem_of_getElem? (i := 15) rfl), (List.forall_mem_cons.mpr ⟨sg_3_14 _ (List.mem_of_getElem? (i := 1) rfl), (List.forall_mem_cons.mpr ⟨sg_3_14 _ (List.mem_of_getElem? (i := 3) rfl), (List.forall_mem_cons.mpr ⟨sg_3_14 _ (List.mem_of_getElem? (i := 5) rfl), (List.forall_mem_cons.mpr ⟨sg_3_14 _ (List.mem_of_getElem? (i := 7) rfl), (List.forall_mem_cons.mpr ⟨sg_3_14 _ (List.mem_of_getElem? (i := 9) rfl), (List.forall_mem_cons.mpr ⟨sg_3_14 _ (List.mem_of_getElem? (i := 11) rfl), (List.forall_mem_cons.mpr ⟨sg_3_14 _ (List.mem_of_getElem? (i := 13) rfl), (List.forall_mem_cons.mpr ⟨sg_3_14 _ (List.mem_of_getElem? (i := 15) rfl), (List.forall_mem_cons.mpr ⟨sg_4_0 _ (List.mem_of_getElem? (i := 1) rfl), (List.forall_mem_cons.mpr ⟨sg_4_0 _ (List.mem_of_getElem? (i := 3) rfl), (List.forall_mem_cons.mpr ⟨sg_4_0 _ (List.mem_of_getElem? (i := 5) rfl), (List.forall_mem_cons.mpr ⟨sg_4_0 _ (List.mem_of_getElem? (i := 7) rfl), (List.forall_mem_cons.mpr ⟨sg_4_0 _ (List.mem_of_getElem? (i := 9) rfl), (List.forall_mem_cons.mpr ⟨sg_4_0 _ (List.mem_of_getElem? (i := 11) rfl), (List.forall_mem_cons.mpr ⟨sg_4_0 _ (List.mem_of_getElem? (i := 13) rfl), (List.forall_mem_cons.mpr ⟨sg_4_0 _ (List.mem_of_getElem? (i := 15) rfl), (List.forall_mem_cons.mpr ⟨sg_4_1 _ (List.mem_of_getElem? (i := 1) rfl), (List.forall_mem_cons.mpr ⟨sg_4_1 _ (List.mem_of_getElem? (i := 3) rfl), (List.forall_mem_cons.mpr ⟨sg_4_1 _ (List.mem_of_getElem? (i := 5) rfl), (List.forall_mem_cons.mpr ⟨sg_4_1 _ (List.mem_of_getElem? (i := 7) rfl), (List.forall_mem_cons.mpr ⟨sg_4_1 _ (List.mem_of_getElem? (i := 9) rfl), (List.forall_mem_cons.mpr ⟨sg_4_1 _ (List.mem_of_getElem? (i := 11) rfl), (List.forall_mem_cons.mpr ⟨sg_4_1 _ (List.mem_of_getElem? (i := 13) rfl), (List.forall_mem_cons.mpr ⟨sg_4_1 _ (List.mem_of_getElem? (i := 15) rfl), (List.forall_mem_cons.mpr ⟨sg_4_2 _ (List.mem_of_getElem? (i := 1) rfl), (List.forall_mem_cons.mpr ⟨sg_4_2 _ (List.mem_of_getElem? (i := 3) rfl), (List.forall_mem_cons.mpr ⟨sg_4_2 _ (List.mem_of_getElem? (i := 5) rfl), (List.forall_mem_cons.mpr ⟨sg_4_2 _ (List.mem_of_getElem? (i := 7) rfl), (List.forall_mem_cons.mpr ⟨sg_4_2 _ (List.mem_of_getElem? (i := 9) rfl), (List.forall_mem_cons.mpr ⟨sg_4_2 _ (List.mem_of_getElem? (i := 11) rfl), (List.forall_mem_cons.mpr ⟨sg_4_2 _ (List.mem_of_getElem? (i := 13) rfl), (List.forall_mem_cons.mpr ⟨sg_4_2 _ (List.mem_of_getElem? (i := 15) rfl), (List.forall_mem_cons.mpr ⟨sg_4_3 _ (List.mem_of_getElem? (i := 1) rfl), (List.forall_mem_cons.mpr ⟨sg_4_3 _ (List.mem_of_getElem? (i := 3) rfl), (List.forall_mem_cons.mpr ⟨sg_4_3 _ (List.mem_of_getElem? (i := 5) rfl), (List.forall_mem_cons.mpr ⟨sg_4_3 _ (List.mem_of_getElem? (i := 7) rfl), (fun _ h => absurd h List.not_mem_nil)⟩)⟩)⟩)⟩)⟩)⟩)⟩)⟩)⟩)⟩)⟩)⟩)⟩)⟩)⟩)⟩)⟩)⟩)⟩)⟩)⟩)⟩)⟩)⟩)⟩)⟩)⟩)⟩)⟩)⟩)⟩)⟩)⟩)⟩)⟩)⟩)⟩)⟩)⟩)⟩)⟩)⟩)⟩)⟩)⟩)⟩)⟩)⟩)⟩)⟩)⟩)), by decide +kernel, by decide +kernel, sg_3_7 _ (List.mem_of_getElem? (i := 11) rfl), sg_0_0 _ (List.mem_of_getElem? (i := 12) rfl)⟩
theorem ck_9 : ev_clok 9 ("java/util/ArrayList", nm_T9, 3) := ⟨nm_all ((List.forall_mem_cons.mpr ⟨sg_0_4 _ (List.mem_of_getElem? (i := 8) rfl), (List.forall_mem_cons.mpr ⟨sg_0_4 _ (List.mem_of_getElem? (i := 4) rfl), (List.forall_mem_cons.mpr ⟨sg_0_4 _ (List.mem_of_getElem? (i := 6) rfl), (fun _ h => absurd h List.not_mem_nil)⟩)⟩)⟩)), by decide +kernel, by decide +kernel, sg_0_3 _ (List.mem_of_getElem? (i := 2) rfl), sg_0_0 _ (List.mem_of_getElem? (i := 6) rfl)⟩
theorem ck_10 : ev_clok 10 ("java/lang/IndexOutOfBoundsException", nm_T10, 6) := ⟨nm_all ((List.forall_mem_cons.mpr ⟨sg_2_10 _ (List.mem_of_getElem? (i := 12) rfl), (List.forall_mem_cons.mpr ⟨sg_2_10 _ (List.mem_of_getElem? (i := 14) rfl), (List.forall_mem_cons.mpr ⟨sg_2_11 _ (List.mem_of_getElem? (i := 0) rfl), (List.forall_mem_cons.mpr ⟨sg_2_11 _ (List.mem_of_getElem? (i := 2) rfl), (List.forall_mem_cons.mpr ⟨sg_2_11 _ (List.mem_of_getElem? (i := 4) rfl), (List.forall_mem_cons.mpr ⟨sg_2_14 _ (List.mem_of_getElem? (i := 0) rfl), (fun _ h => absurd h List.not_mem_nil)⟩)⟩)⟩)⟩)⟩)⟩)), by decide +kernel, by decide +kernel, sg_2_10 _ (List.mem_of_getElem? (i := 2) rfl), sg_0_1 _ (List.mem_of_getElem? (i := 0) rfl)⟩
theorem ck_11 : ev_clok 11 ("java/lang/IllegalArgumentException", nm_T11, 6) := ⟨nm_all ((List.forall_mem_cons.mpr ⟨sg_3_0 _ (List.mem_of_getElem? (i := 15) rfl), (List.forall_mem_cons.mpr ⟨sg_3_1 _ (List.mem_of_getElem? (i := 0) rfl), (List.forall_mem_cons.mpr ⟨sg_3_1 _ (List.mem_of_getElem? (i := 1) rfl), (List.forall_mem_cons.mpr ⟨sg_3_1 _ (List.mem_of_getElem? (i := 2) rfl), (List.forall_mem_cons.mpr ⟨sg_3_1 _ (List.mem_of_getElem? (i := 3) rfl), (List.forall_mem_cons.mpr ⟨sg_3_1 _ (List.mem_of_getElem? (i := 9) rfl), (fun _ h => absurd h List.not_mem_nil)⟩)⟩)⟩)⟩)⟩)⟩)), by decide +kernel, by decide +kernel, sg_3_0 _ (List.mem_of_getElem? (i := 12) rfl), sg_0_1 _ (List.mem_of_getElem? (i := 6) rfl)⟩
theorem ck_12 : ev_clok 12 ("java/util/NoSuchElementException", nm_T12, 6) := ⟨nm_all ((List.forall_mem_cons.mpr ⟨sg_3_6 _ (List.mem_of_getElem? (i := 12) rfl), (List.forall_mem_cons.mpr ⟨sg_3_6 _ (List.mem_of_getElem? (i := 13) rfl), (List.forall_mem_cons.mpr ⟨sg_3_6 _ (List.mem_of_getElem? (i := 14) rfl), (List.forall_mem_cons.mpr ⟨sg_3_6 _ (List.mem_of_getElem? (i := 15) rfl), (List.forall_mem_cons.mpr ⟨sg_3_7 _ (List.mem_of_getElem? (i := 0) rfl), (List.forall_mem_cons.mpr ⟨sg_3_7 _ (List.mem_of_getElem? (i := 6) rfl), (fun _ h => absurd h List.not_mem_nil)⟩)⟩)⟩)⟩)⟩)⟩)), by decide +kernel, by decide +kernel, sg_3_6 _ (List.mem_of_getElem? (i := 9) rfl), sg_0_1 _ (List.mem_of_getElem? (i := 8) rfl)⟩
theorem fk_AL_9 : ev_F "java/util/ArrayList" 9 9 1 false := ⟨("java/util/ArrayList", nm_T9, 3), "java/util/ArrayList", rfl, by decide, ck_9, sg_0_3 _ (List.mem_of_getElem? (i := 15) rfl), Or.inl rfl, rfl, fun h => by cases h⟩
theorem fr_AL_9 : ev_F0 "java/util/ArrayList" 9 9 1 := fk_AL_9.r
theorem fk_AL_48 : ev_F "java/util/ArrayList" 48 9 2 false := ⟨("java/util/ArrayList", nm_T9, 3), "java/util/ArrayList", rfl, by decide, ck_9, sg_0_4 _ (List.mem_of_getElem? (i := 0) rfl), Or.inl rfl, rfl, fun h => by cases h⟩
theorem fr_AL_48 : ev_F0 "java/util/ArrayList" 48 9 2 := fk_AL_48.r
theorem fk_AB_7 : ev_F "java/util/AbstractList" 7 9 0 false := ⟨("java/util/ArrayList", nm_T9, 3), "java/util/AbstractList", rfl, by decide, ck_9, sg_0_4 _ (List.mem_of_getElem? (i := 1) rfl), Or.inl rfl, rfl, fun h => by cases h⟩
theorem fr_AB_7 : ev_F0 "java/util/AbstractList" 7 9 0 := fk_AB_7.r
theorem fk_AL_63 : ev_F "java/util/ArrayList" 63 9 0 false := ⟨("java/util/ArrayList", nm_T9, 3), "java/util/ArrayList", rfl, by decide, ck_9, sg_0_4 _ (List.mem_of_getElem? (i := 2) rfl), Or.inr (sg_0_4 _ (List.mem_of_getElem? (i := 3) rfl)), rfl, fun h => by cases h⟩
theorem fr_AL_63 : ev_F0 "java/util/ArrayList" 63 9 0 := fk_AL_63.r
theorem fk_Y_11 : ev_F "ThreeLinkPair$Memory" 11 5 0 true := ⟨("ThreeLinkPair$Memory", nm_T5, 2), "ThreeLinkPair$Memory", rfl, by decide, ck_5, sg_0_5 _ (List.mem_of_getElem? (i := 4) rfl), Or.inl rfl, rfl, fun _ => rfl⟩
theorem fr_Y_11 : ev_F0 "ThreeLinkPair$Memory" 11 5 0 := fk_Y_11.r
theorem fk_Y_15 : ev_F "ThreeLinkPair$Memory" 15 5 1 true := ⟨("ThreeLinkPair$Memory", nm_T5, 2), "ThreeLinkPair$Memory", rfl, by decide, ck_5, sg_0_5 _ (List.mem_of_getElem? (i := 5) rfl), Or.inl rfl, rfl, fun _ => rfl⟩
theorem fr_Y_15 : ev_F0 "ThreeLinkPair$Memory" 15 5 1 := fk_Y_15.r
theorem fk_N_9 : ev_F "ThreeLinkPair$Unit" 9 7 0 false := ⟨("ThreeLinkPair$Unit", nm_T7, 7), "ThreeLinkPair$Unit", rfl, by decide, ck_7, sg_0_6 _ (List.mem_of_getElem? (i := 2) rfl), Or.inl rfl, rfl, fun h => by cases h⟩
theorem fr_N_9 : ev_F0 "ThreeLinkPair$Unit" 9 7 0 := fk_N_9.r
theorem fk_E_90 : ev_F "ThreeLinkPair$End" 90 7 0 false := ⟨("ThreeLinkPair$Unit", nm_T7, 7), "ThreeLinkPair$Unit", rfl, by decide, ck_7, sg_0_6 _ (List.mem_of_getElem? (i := 3) rfl), Or.inl rfl, rfl, fun h => by cases h⟩
theorem fr_E_90 : ev_F0 "ThreeLinkPair$End" 90 7 0 := fk_E_90.r
theorem fk_S_136 : ev_F "ThreeLinkPair$Side" 136 7 0 false := ⟨("ThreeLinkPair$Unit", nm_T7, 7), "ThreeLinkPair$Unit", rfl, by decide, ck_7, sg_0_6 _ (List.mem_of_getElem? (i := 4) rfl), Or.inl rfl, rfl, fun h => by cases h⟩
theorem fr_S_136 : ev_F0 "ThreeLinkPair$Side" 136 7 0 := fk_S_136.r
theorem fk_P_192 : ev_F "ThreeLinkPair" 192 7 0 false := ⟨("ThreeLinkPair$Unit", nm_T7, 7), "ThreeLinkPair$Unit", rfl, by decide, ck_7, sg_0_6 _ (List.mem_of_getElem? (i := 5) rfl), Or.inl rfl, rfl, fun h => by cases h⟩
theorem fr_P_192 : ev_F0 "ThreeLinkPair" 192 7 0 := fk_P_192.r
theorem fk_E_98 : ev_F "ThreeLinkPair$End" 98 7 1 false := ⟨("ThreeLinkPair$Unit", nm_T7, 7), "ThreeLinkPair$Unit", rfl, by decide, ck_7, sg_0_6 _ (List.mem_of_getElem? (i := 6) rfl), Or.inl rfl, rfl, fun h => by cases h⟩
theorem fr_E_98 : ev_F0 "ThreeLinkPair$End" 98 7 1 := fk_E_98.r
theorem fk_S_135 : ev_F "ThreeLinkPair$Side" 135 7 1 false := ⟨("ThreeLinkPair$Unit", nm_T7, 7), "ThreeLinkPair$Unit", rfl, by decide, ck_7, sg_0_6 _ (List.mem_of_getElem? (i := 7) rfl), Or.inl rfl, rfl, fun h => by cases h⟩
theorem fr_S_135 : ev_F0 "ThreeLinkPair$Side" 135 7 1 := fk_S_135.r
theorem fk_S_130 : ev_F "ThreeLinkPair$Side" 130 7 2 false := ⟨("ThreeLinkPair$Unit", nm_T7, 7), "ThreeLinkPair$Unit", rfl, by decide, ck_7, sg_0_6 _ (List.mem_of_getElem? (i := 8) rfl), Or.inl rfl, rfl, fun h => by cases h⟩
theorem fr_S_130 : ev_F0 "ThreeLinkPair$Side" 130 7 2 := fk_S_130.r
theorem fk_S_125 : ev_F "ThreeLinkPair$Side" 125 7 3 false := ⟨("ThreeLinkPair$Unit", nm_T7, 7), "ThreeLinkPair$Unit", rfl, by decide, ck_7, sg_0_6 _ (List.mem_of_getElem? (i := 9) rfl), Or.inl rfl, rfl, fun h => by cases h⟩
theorem fr_S_125 : ev_F0 "ThreeLinkPair$Side" 125 7 3 := fk_S_125.r
theorem fk_E_116 : ev_F "ThreeLinkPair$End" 116 7 4 false := ⟨("ThreeLinkPair$Unit", nm_T7, 7), "ThreeLinkPair$Unit", rfl, by decide, ck_7, sg_0_6 _ (List.mem_of_getElem? (i := 10) rfl), Or.inl rfl, rfl, fun h => by cases h⟩
theorem fr_E_116 : ev_F0 "ThreeLinkPair$End" 116 7 4 := fk_E_116.r
theorem fk_S_149 : ev_F "ThreeLinkPair$Side" 149 7 4 false := ⟨("ThreeLinkPair$Unit", nm_T7, 7), "ThreeLinkPair$Unit", rfl, by decide, ck_7, sg_0_6 _ (List.mem_of_getElem? (i := 11) rfl), Or.inl rfl, rfl, fun h => by cases h⟩
theorem fr_S_149 : ev_F0 "ThreeLinkPair$Side" 149 7 4 := fk_S_149.r
theorem fk_E_124 : ev_F "ThreeLinkPair$End" 124 7 5 false := ⟨("ThreeLinkPair$Unit", nm_T7, 7), "ThreeLinkPair$Unit", rfl, by decide, ck_7, sg_0_6 _ (List.mem_of_getElem? (i := 12) rfl), Or.inl rfl, rfl, fun h => by cases h⟩
theorem fr_E_124 : ev_F0 "ThreeLinkPair$End" 124 7 5 := fk_E_124.r
theorem fk_S_150 : ev_F "ThreeLinkPair$Side" 150 7 5 false := ⟨("ThreeLinkPair$Unit", nm_T7, 7), "ThreeLinkPair$Unit", rfl, by decide, ck_7, sg_0_6 _ (List.mem_of_getElem? (i := 13) rfl), Or.inl rfl, rfl, fun h => by cases h⟩
theorem fr_S_150 : ev_F0 "ThreeLinkPair$Side" 150 7 5 := fk_S_150.r
theorem fk_S_126 : ev_F "ThreeLinkPair$Side" 126 7 6 false := ⟨("ThreeLinkPair$Unit", nm_T7, 7), "ThreeLinkPair$Unit", rfl, by decide, ck_7, sg_0_6 _ (List.mem_of_getElem? (i := 14) rfl), Or.inl rfl, rfl, fun h => by cases h⟩
theorem fr_S_126 : ev_F0 "ThreeLinkPair$Side" 126 7 6 := fk_S_126.r
theorem fk_S_9 : ev_F "ThreeLinkPair$Side" 9 2 0 false := ⟨("ThreeLinkPair$Side", nm_T2, 20), "ThreeLinkPair$Side", rfl, by decide, ck_2, sg_0_7 _ (List.mem_of_getElem? (i := 14) rfl), Or.inl rfl, rfl, fun h => by cases h⟩
theorem fr_S_9 : ev_F0 "ThreeLinkPair$Side" 9 2 0 := fk_S_9.r
theorem fk_E_46 : ev_F "ThreeLinkPair$End" 46 2 0 false := ⟨("ThreeLinkPair$Side", nm_T2, 20), "ThreeLinkPair$Side", rfl, by decide, ck_2, sg_0_7 _ (List.mem_of_getElem? (i := 15) rfl), Or.inl rfl, rfl, fun h => by cases h⟩
theorem fr_E_46 : ev_F0 "ThreeLinkPair$End" 46 2 0 := fk_E_46.r
theorem fk_P_31 : ev_F "ThreeLinkPair" 31 2 0 false := ⟨("ThreeLinkPair$Side", nm_T2, 20), "ThreeLinkPair$Side", rfl, by decide, ck_2, sg_0_8 _ (List.mem_of_getElem? (i := 0) rfl), Or.inl rfl, rfl, fun h => by cases h⟩
theorem fr_P_31 : ev_F0 "ThreeLinkPair" 31 2 0 := fk_P_31.r
theorem fk_S_15 : ev_F "ThreeLinkPair$Side" 15 2 1 false := ⟨("ThreeLinkPair$Side", nm_T2, 20), "ThreeLinkPair$Side", rfl, by decide, ck_2, sg_0_8 _ (List.mem_of_getElem? (i := 1) rfl), Or.inl rfl, rfl, fun h => by cases h⟩
theorem fr_S_15 : ev_F0 "ThreeLinkPair$Side" 15 2 1 := fk_S_15.r
theorem fk_E_107 : ev_F "ThreeLinkPair$End" 107 2 1 false := ⟨("ThreeLinkPair$Side", nm_T2, 20), "ThreeLinkPair$Side", rfl, by decide, ck_2, sg_0_8 _ (List.mem_of_getElem? (i := 2) rfl), Or.inl rfl, rfl, fun h => by cases h⟩
theorem fr_E_107 : ev_F0 "ThreeLinkPair$End" 107 2 1 := fk_E_107.r
theorem fk_P_80 : ev_F "ThreeLinkPair" 80 2 1 false := ⟨("ThreeLinkPair$Side", nm_T2, 20), "ThreeLinkPair$Side", rfl, by decide, ck_2, sg_0_8 _ (List.mem_of_getElem? (i := 3) rfl), Or.inl rfl, rfl, fun h => by cases h⟩
theorem fr_P_80 : ev_F0 "ThreeLinkPair" 80 2 1 := fk_P_80.r
theorem fk_S_18 : ev_F "ThreeLinkPair$Side" 18 2 2 false := ⟨("ThreeLinkPair$Side", nm_T2, 20), "ThreeLinkPair$Side", rfl, by decide, ck_2, sg_0_8 _ (List.mem_of_getElem? (i := 4) rfl), Or.inl rfl, rfl, fun h => by cases h⟩
theorem fr_S_18 : ev_F0 "ThreeLinkPair$Side" 18 2 2 := fk_S_18.r
theorem fk_C_47 : ev_F "ThreeLinkPair$Changeover" 47 2 2 false := ⟨("ThreeLinkPair$Side", nm_T2, 20), "ThreeLinkPair$Side", rfl, by decide, ck_2, sg_0_8 _ (List.mem_of_getElem? (i := 5) rfl), Or.inl rfl, rfl, fun h => by cases h⟩
theorem fr_C_47 : ev_F0 "ThreeLinkPair$Changeover" 47 2 2 := fk_C_47.r
theorem fk_P_119 : ev_F "ThreeLinkPair" 119 2 2 false := ⟨("ThreeLinkPair$Side", nm_T2, 20), "ThreeLinkPair$Side", rfl, by decide, ck_2, sg_0_8 _ (List.mem_of_getElem? (i := 6) rfl), Or.inl rfl, rfl, fun h => by cases h⟩
theorem fr_P_119 : ev_F0 "ThreeLinkPair" 119 2 2 := fk_P_119.r
theorem fk_S_21 : ev_F "ThreeLinkPair$Side" 21 2 3 false := ⟨("ThreeLinkPair$Side", nm_T2, 20), "ThreeLinkPair$Side", rfl, by decide, ck_2, sg_0_8 _ (List.mem_of_getElem? (i := 7) rfl), Or.inl rfl, rfl, fun h => by cases h⟩
theorem fr_S_21 : ev_F0 "ThreeLinkPair$Side" 21 2 3 := fk_S_21.r
theorem fk_C_50 : ev_F "ThreeLinkPair$Changeover" 50 2 3 false := ⟨("ThreeLinkPair$Side", nm_T2, 20), "ThreeLinkPair$Side", rfl, by decide, ck_2, sg_0_8 _ (List.mem_of_getElem? (i := 8) rfl), Or.inl rfl, rfl, fun h => by cases h⟩
theorem fr_C_50 : ev_F0 "ThreeLinkPair$Changeover" 50 2 3 := fk_C_50.r
theorem fk_E_61 : ev_F "ThreeLinkPair$End" 61 2 3 false := ⟨("ThreeLinkPair$Side", nm_T2, 20), "ThreeLinkPair$Side", rfl, by decide, ck_2, sg_0_8 _ (List.mem_of_getElem? (i := 9) rfl), Or.inl rfl, rfl, fun h => by cases h⟩
theorem fr_E_61 : ev_F0 "ThreeLinkPair$End" 61 2 3 := fk_E_61.r
theorem fk_P_122 : ev_F "ThreeLinkPair" 122 2 3 false := ⟨("ThreeLinkPair$Side", nm_T2, 20), "ThreeLinkPair$Side", rfl, by decide, ck_2, sg_0_8 _ (List.mem_of_getElem? (i := 10) rfl), Or.inl rfl, rfl, fun h => by cases h⟩
theorem fr_P_122 : ev_F0 "ThreeLinkPair" 122 2 3 := fk_P_122.r
theorem fk_S_24 : ev_F "ThreeLinkPair$Side" 24 2 4 false := ⟨("ThreeLinkPair$Side", nm_T2, 20), "ThreeLinkPair$Side", rfl, by decide, ck_2, sg_0_8 _ (List.mem_of_getElem? (i := 11) rfl), Or.inl rfl, rfl, fun h => by cases h⟩
theorem fr_S_24 : ev_F0 "ThreeLinkPair$Side" 24 2 4 := fk_S_24.r
theorem fk_C_59 : ev_F "ThreeLinkPair$Changeover" 59 2 4 false := ⟨("ThreeLinkPair$Side", nm_T2, 20), "ThreeLinkPair$Side", rfl, by decide, ck_2, sg_0_8 _ (List.mem_of_getElem? (i := 12) rfl), Or.inl rfl, rfl, fun h => by cases h⟩
theorem fr_C_59 : ev_F0 "ThreeLinkPair$Changeover" 59 2 4 := fk_C_59.r
theorem fk_P_94 : ev_F "ThreeLinkPair" 94 2 4 false := ⟨("ThreeLinkPair$Side", nm_T2, 20), "ThreeLinkPair$Side", rfl, by decide, ck_2, sg_0_8 _ (List.mem_of_getElem? (i := 13) rfl), Or.inl rfl, rfl, fun h => by cases h⟩
theorem fr_P_94 : ev_F0 "ThreeLinkPair" 94 2 4 := fk_P_94.r
theorem fk_S_27 : ev_F "ThreeLinkPair$Side" 27 2 5 false := ⟨("ThreeLinkPair$Side", nm_T2, 20), "ThreeLinkPair$Side", rfl, by decide, ck_2, sg_0_8 _ (List.mem_of_getElem? (i := 14) rfl), Or.inl rfl, rfl, fun h => by cases h⟩
theorem fr_S_27 : ev_F0 "ThreeLinkPair$Side" 27 2 5 := fk_S_27.r
theorem fk_E_64 : ev_F "ThreeLinkPair$End" 64 2 5 false := ⟨("ThreeLinkPair$Side", nm_T2, 20), "ThreeLinkPair$Side", rfl, by decide, ck_2, sg_0_8 _ (List.mem_of_getElem? (i := 15) rfl), Or.inl rfl, rfl, fun h => by cases h⟩
theorem fr_E_64 : ev_F0 "ThreeLinkPair$End" 64 2 5 := fk_E_64.r
theorem fk_C_51 : ev_F "ThreeLinkPair$Changeover" 51 2 5 false := ⟨("ThreeLinkPair$Side", nm_T2, 20), "ThreeLinkPair$Side", rfl, by decide, ck_2, sg_0_9 _ (List.mem_of_getElem? (i := 0) rfl), Or.inl rfl, rfl, fun h => by cases h⟩
theorem fr_C_51 : ev_F0 "ThreeLinkPair$Changeover" 51 2 5 := fk_C_51.r
theorem fk_P_97 : ev_F "ThreeLinkPair" 97 2 5 false := ⟨("ThreeLinkPair$Side", nm_T2, 20), "ThreeLinkPair$Side", rfl, by decide, ck_2, sg_0_9 _ (List.mem_of_getElem? (i := 1) rfl), Or.inl rfl, rfl, fun h => by cases h⟩
theorem fr_P_97 : ev_F0 "ThreeLinkPair" 97 2 5 := fk_P_97.r
theorem fk_S_30 : ev_F "ThreeLinkPair$Side" 30 2 6 false := ⟨("ThreeLinkPair$Side", nm_T2, 20), "ThreeLinkPair$Side", rfl, by decide, ck_2, sg_0_9 _ (List.mem_of_getElem? (i := 2) rfl), Or.inl rfl, rfl, fun h => by cases h⟩
theorem fr_S_30 : ev_F0 "ThreeLinkPair$Side" 30 2 6 := fk_S_30.r
theorem fk_P_100 : ev_F "ThreeLinkPair" 100 2 6 false := ⟨("ThreeLinkPair$Side", nm_T2, 20), "ThreeLinkPair$Side", rfl, by decide, ck_2, sg_0_9 _ (List.mem_of_getElem? (i := 3) rfl), Or.inl rfl, rfl, fun h => by cases h⟩
theorem fr_P_100 : ev_F0 "ThreeLinkPair" 100 2 6 := fk_P_100.r
theorem fk_S_33 : ev_F "ThreeLinkPair$Side" 33 2 7 false := ⟨("ThreeLinkPair$Side", nm_T2, 20), "ThreeLinkPair$Side", rfl, by decide, ck_2, sg_0_9 _ (List.mem_of_getElem? (i := 4) rfl), Or.inl rfl, rfl, fun h => by cases h⟩
theorem fr_S_33 : ev_F0 "ThreeLinkPair$Side" 33 2 7 := fk_S_33.r
theorem fk_P_103 : ev_F "ThreeLinkPair" 103 2 7 false := ⟨("ThreeLinkPair$Side", nm_T2, 20), "ThreeLinkPair$Side", rfl, by decide, ck_2, sg_0_9 _ (List.mem_of_getElem? (i := 5) rfl), Or.inl rfl, rfl, fun h => by cases h⟩
theorem fr_P_103 : ev_F0 "ThreeLinkPair" 103 2 7 := fk_P_103.r
theorem fk_S_36 : ev_F "ThreeLinkPair$Side" 36 2 8 false := ⟨("ThreeLinkPair$Side", nm_T2, 20), "ThreeLinkPair$Side", rfl, by decide, ck_2, sg_0_9 _ (List.mem_of_getElem? (i := 6) rfl), Or.inl rfl, rfl, fun h => by cases h⟩
theorem fr_S_36 : ev_F0 "ThreeLinkPair$Side" 36 2 8 := fk_S_36.r
theorem fk_E_110 : ev_F "ThreeLinkPair$End" 110 2 8 false := ⟨("ThreeLinkPair$Side", nm_T2, 20), "ThreeLinkPair$Side", rfl, by decide, ck_2, sg_0_9 _ (List.mem_of_getElem? (i := 7) rfl), Or.inl rfl, rfl, fun h => by cases h⟩
theorem fr_E_110 : ev_F0 "ThreeLinkPair$End" 110 2 8 := fk_E_110.r
theorem fk_P_82 : ev_F "ThreeLinkPair" 82 2 8 false := ⟨("ThreeLinkPair$Side", nm_T2, 20), "ThreeLinkPair$Side", rfl, by decide, ck_2, sg_0_9 _ (List.mem_of_getElem? (i := 8) rfl), Or.inl rfl, rfl, fun h => by cases h⟩
theorem fr_P_82 : ev_F0 "ThreeLinkPair" 82 2 8 := fk_P_82.r
theorem fk_S_39 : ev_F "ThreeLinkPair$Side" 39 2 9 false := ⟨("ThreeLinkPair$Side", nm_T2, 20), "ThreeLinkPair$Side", rfl, by decide, ck_2, sg_0_9 _ (List.mem_of_getElem? (i := 9) rfl), Or.inl rfl, rfl, fun h => by cases h⟩
theorem fr_S_39 : ev_F0 "ThreeLinkPair$Side" 39 2 9 := fk_S_39.r
theorem fk_P_85 : ev_F "ThreeLinkPair" 85 2 9 false := ⟨("ThreeLinkPair$Side", nm_T2, 20), "ThreeLinkPair$Side", rfl, by decide, ck_2, sg_0_9 _ (List.mem_of_getElem? (i := 10) rfl), Or.inl rfl, rfl, fun h => by cases h⟩
theorem fr_P_85 : ev_F0 "ThreeLinkPair" 85 2 9 := fk_P_85.r
theorem fk_S_42 : ev_F "ThreeLinkPair$Side" 42 2 10 false := ⟨("ThreeLinkPair$Side", nm_T2, 20), "ThreeLinkPair$Side", rfl, by decide, ck_2, sg_0_9 _ (List.mem_of_getElem? (i := 11) rfl), Or.inl rfl, rfl, fun h => by cases h⟩
theorem fr_S_42 : ev_F0 "ThreeLinkPair$Side" 42 2 10 := fk_S_42.r
theorem fk_P_88 : ev_F "ThreeLinkPair" 88 2 10 false := ⟨("ThreeLinkPair$Side", nm_T2, 20), "ThreeLinkPair$Side", rfl, by decide, ck_2, sg_0_9 _ (List.mem_of_getElem? (i := 12) rfl), Or.inl rfl, rfl, fun h => by cases h⟩
theorem fr_P_88 : ev_F0 "ThreeLinkPair" 88 2 10 := fk_P_88.r
theorem fk_S_45 : ev_F "ThreeLinkPair$Side" 45 2 11 false := ⟨("ThreeLinkPair$Side", nm_T2, 20), "ThreeLinkPair$Side", rfl, by decide, ck_2, sg_0_9 _ (List.mem_of_getElem? (i := 13) rfl), Or.inl rfl, rfl, fun h => by cases h⟩
theorem fr_S_45 : ev_F0 "ThreeLinkPair$Side" 45 2 11 := fk_S_45.r
theorem fk_S_48 : ev_F "ThreeLinkPair$Side" 48 2 12 false := ⟨("ThreeLinkPair$Side", nm_T2, 20), "ThreeLinkPair$Side", rfl, by decide, ck_2, sg_0_9 _ (List.mem_of_getElem? (i := 14) rfl), Or.inl rfl, rfl, fun h => by cases h⟩
theorem fr_S_48 : ev_F0 "ThreeLinkPair$Side" 48 2 12 := fk_S_48.r
theorem fk_P_91 : ev_F "ThreeLinkPair" 91 2 12 false := ⟨("ThreeLinkPair$Side", nm_T2, 20), "ThreeLinkPair$Side", rfl, by decide, ck_2, sg_0_9 _ (List.mem_of_getElem? (i := 15) rfl), Or.inl rfl, rfl, fun h => by cases h⟩
theorem fr_P_91 : ev_F0 "ThreeLinkPair" 91 2 12 := fk_P_91.r
theorem fk_S_51 : ev_F "ThreeLinkPair$Side" 51 2 13 false := ⟨("ThreeLinkPair$Side", nm_T2, 20), "ThreeLinkPair$Side", rfl, by decide, ck_2, sg_0_10 _ (List.mem_of_getElem? (i := 0) rfl), Or.inl rfl, rfl, fun h => by cases h⟩
theorem fr_S_51 : ev_F0 "ThreeLinkPair$Side" 51 2 13 := fk_S_51.r
theorem fk_E_121 : ev_F "ThreeLinkPair$End" 121 2 13 false := ⟨("ThreeLinkPair$Side", nm_T2, 20), "ThreeLinkPair$Side", rfl, by decide, ck_2, sg_0_10 _ (List.mem_of_getElem? (i := 1) rfl), Or.inl rfl, rfl, fun h => by cases h⟩
theorem fr_E_121 : ev_F0 "ThreeLinkPair$End" 121 2 13 := fk_E_121.r
theorem fk_S_54 : ev_F "ThreeLinkPair$Side" 54 2 14 false := ⟨("ThreeLinkPair$Side", nm_T2, 20), "ThreeLinkPair$Side", rfl, by decide, ck_2, sg_0_10 _ (List.mem_of_getElem? (i := 2) rfl), Or.inl rfl, rfl, fun h => by cases h⟩
theorem fr_S_54 : ev_F0 "ThreeLinkPair$Side" 54 2 14 := fk_S_54.r
theorem fk_E_53 : ev_F "ThreeLinkPair$End" 53 2 14 false := ⟨("ThreeLinkPair$Side", nm_T2, 20), "ThreeLinkPair$Side", rfl, by decide, ck_2, sg_0_10 _ (List.mem_of_getElem? (i := 3) rfl), Or.inl rfl, rfl, fun h => by cases h⟩
theorem fr_E_53 : ev_F0 "ThreeLinkPair$End" 53 2 14 := fk_E_53.r
theorem fk_S_58 : ev_F "ThreeLinkPair$Side" 58 2 15 false := ⟨("ThreeLinkPair$Side", nm_T2, 20), "ThreeLinkPair$Side", rfl, by decide, ck_2, sg_0_10 _ (List.mem_of_getElem? (i := 4) rfl), Or.inl rfl, rfl, fun h => by cases h⟩
theorem fr_S_58 : ev_F0 "ThreeLinkPair$Side" 58 2 15 := fk_S_58.r
theorem fk_S_64 : ev_F "ThreeLinkPair$Side" 64 2 16 true := ⟨("ThreeLinkPair$Side", nm_T2, 20), "ThreeLinkPair$Side", rfl, by decide, ck_2, sg_0_10 _ (List.mem_of_getElem? (i := 5) rfl), Or.inl rfl, rfl, fun _ => rfl⟩
theorem fr_S_64 : ev_F0 "ThreeLinkPair$Side" 64 2 16 := fk_S_64.r
theorem fr_C_52 : ev_F0 "ThreeLinkPair$Changeover" 52 2 16 := ⟨("ThreeLinkPair$Side", nm_T2, 20), "ThreeLinkPair$Side", rfl, by decide, ck_2, sg_0_10 _ (List.mem_of_getElem? (i := 6) rfl), Or.inl rfl⟩
theorem fr_P_106 : ev_F0 "ThreeLinkPair" 106 2 16 := ⟨("ThreeLinkPair$Side", nm_T2, 20), "ThreeLinkPair$Side", rfl, by decide, ck_2, sg_0_10 _ (List.mem_of_getElem? (i := 7) rfl), Or.inl rfl⟩
theorem fk_S_68 : ev_F "ThreeLinkPair$Side" 68 2 17 true := ⟨("ThreeLinkPair$Side", nm_T2, 20), "ThreeLinkPair$Side", rfl, by decide, ck_2, sg_0_10 _ (List.mem_of_getElem? (i := 8) rfl), Or.inl rfl, rfl, fun _ => rfl⟩
theorem fr_S_68 : ev_F0 "ThreeLinkPair$Side" 68 2 17 := fk_S_68.r
theorem fr_C_72 : ev_F0 "ThreeLinkPair$Changeover" 72 2 17 := ⟨("ThreeLinkPair$Side", nm_T2, 20), "ThreeLinkPair$Side", rfl, by decide, ck_2, sg_0_10 _ (List.mem_of_getElem? (i := 9) rfl), Or.inl rfl⟩
theorem fr_P_116 : ev_F0 "ThreeLinkPair" 116 2 17 := ⟨("ThreeLinkPair$Side", nm_T2, 20), "ThreeLinkPair$Side", rfl, by decide, ck_2, sg_0_10 _ (List.mem_of_getElem? (i := 10) rfl), Or.inl rfl⟩
theorem fr_E_185 : ev_F0 "ThreeLinkPair$End" 185 2 17 := ⟨("ThreeLinkPair$Side", nm_T2, 20), "ThreeLinkPair$Side", rfl, by decide, ck_2, sg_0_10 _ (List.mem_of_getElem? (i := 11) rfl), Or.inl rfl⟩
theorem fk_S_74 : ev_F "ThreeLinkPair$Side" 74 2 18 true := ⟨("ThreeLinkPair$Side", nm_T2, 20), "ThreeLinkPair$Side", rfl, by decide, ck_2, sg_0_10 _ (List.mem_of_getElem? (i := 12) rfl), Or.inl rfl, rfl, fun _ => rfl⟩
theorem fr_S_74 : ev_F0 "ThreeLinkPair$Side" 74 2 18 := fk_S_74.r
theorem fr_E_57 : ev_F0 "ThreeLinkPair$End" 57 2 18 := ⟨("ThreeLinkPair$Side", nm_T2, 20), "ThreeLinkPair$Side", rfl, by decide, ck_2, sg_0_10 _ (List.mem_of_getElem? (i := 13) rfl), Or.inl rfl⟩
theorem fk_S_81 : ev_F "ThreeLinkPair$Side" 81 2 19 true := ⟨("ThreeLinkPair$Side", nm_T2, 20), "ThreeLinkPair$Side", rfl, by decide, ck_2, sg_0_10 _ (List.mem_of_getElem? (i := 14) rfl), Or.inl rfl, rfl, fun _ => rfl⟩
theorem fr_S_81 : ev_F0 "ThreeLinkPair$Side" 81 2 19 := fk_S_81.r
theorem fr_P_188 : ev_F0 "ThreeLinkPair" 188 2 19 := ⟨("ThreeLinkPair$Side", nm_T2, 20), "ThreeLinkPair$Side", rfl, by decide, ck_2, sg_0_10 _ (List.mem_of_getElem? (i := 15) rfl), Or.inl rfl⟩
theorem fk_C_9 : ev_F "ThreeLinkPair$Changeover" 9 3 0 false := ⟨("ThreeLinkPair$Changeover", nm_T3, 10), "ThreeLinkPair$Changeover", rfl, by decide, ck_3, sg_0_14 _ (List.mem_of_getElem? (i := 0) rfl), Or.inl rfl, rfl, fun h => by cases h⟩
theorem fr_C_9 : ev_F0 "ThreeLinkPair$Changeover" 9 3 0 := fk_C_9.r
theorem fk_P_138 : ev_F "ThreeLinkPair" 138 3 0 false := ⟨("ThreeLinkPair$Changeover", nm_T3, 10), "ThreeLinkPair$Changeover", rfl, by decide, ck_3, sg_0_14 _ (List.mem_of_getElem? (i := 1) rfl), Or.inl rfl, rfl, fun h => by cases h⟩
theorem fr_P_138 : ev_F0 "ThreeLinkPair" 138 3 0 := fk_P_138.r
theorem fk_E_167 : ev_F "ThreeLinkPair$End" 167 3 0 false := ⟨("ThreeLinkPair$Changeover", nm_T3, 10), "ThreeLinkPair$Changeover", rfl, by decide, ck_3, sg_0_14 _ (List.mem_of_getElem? (i := 2) rfl), Or.inl rfl, rfl, fun h => by cases h⟩
theorem fr_E_167 : ev_F0 "ThreeLinkPair$End" 167 3 0 := fk_E_167.r
theorem fk_C_15 : ev_F "ThreeLinkPair$Changeover" 15 3 1 false := ⟨("ThreeLinkPair$Changeover", nm_T3, 10), "ThreeLinkPair$Changeover", rfl, by decide, ck_3, sg_0_14 _ (List.mem_of_getElem? (i := 3) rfl), Or.inl rfl, rfl, fun h => by cases h⟩
theorem fr_C_15 : ev_F0 "ThreeLinkPair$Changeover" 15 3 1 := fk_C_15.r
theorem fk_E_204 : ev_F "ThreeLinkPair$End" 204 3 1 false := ⟨("ThreeLinkPair$Changeover", nm_T3, 10), "ThreeLinkPair$Changeover", rfl, by decide, ck_3, sg_0_14 _ (List.mem_of_getElem? (i := 4) rfl), Or.inl rfl, rfl, fun h => by cases h⟩
theorem fr_E_204 : ev_F0 "ThreeLinkPair$End" 204 3 1 := fk_E_204.r
theorem fk_C_18 : ev_F "ThreeLinkPair$Changeover" 18 3 2 false := ⟨("ThreeLinkPair$Changeover", nm_T3, 10), "ThreeLinkPair$Changeover", rfl, by decide, ck_3, sg_0_14 _ (List.mem_of_getElem? (i := 5) rfl), Or.inl rfl, rfl, fun h => by cases h⟩
theorem fr_C_18 : ev_F0 "ThreeLinkPair$Changeover" 18 3 2 := fk_C_18.r
theorem fk_P_144 : ev_F "ThreeLinkPair" 144 3 2 false := ⟨("ThreeLinkPair$Changeover", nm_T3, 10), "ThreeLinkPair$Changeover", rfl, by decide, ck_3, sg_0_14 _ (List.mem_of_getElem? (i := 6) rfl), Or.inl rfl, rfl, fun h => by cases h⟩
theorem fr_P_144 : ev_F0 "ThreeLinkPair" 144 3 2 := fk_P_144.r
theorem fk_E_170 : ev_F "ThreeLinkPair$End" 170 3 2 false := ⟨("ThreeLinkPair$Changeover", nm_T3, 10), "ThreeLinkPair$Changeover", rfl, by decide, ck_3, sg_0_14 _ (List.mem_of_getElem? (i := 7) rfl), Or.inl rfl, rfl, fun h => by cases h⟩
theorem fr_E_170 : ev_F0 "ThreeLinkPair$End" 170 3 2 := fk_E_170.r
theorem fk_C_21 : ev_F "ThreeLinkPair$Changeover" 21 3 3 false := ⟨("ThreeLinkPair$Changeover", nm_T3, 10), "ThreeLinkPair$Changeover", rfl, by decide, ck_3, sg_0_14 _ (List.mem_of_getElem? (i := 8) rfl), Or.inl rfl, rfl, fun h => by cases h⟩
theorem fr_C_21 : ev_F0 "ThreeLinkPair$Changeover" 21 3 3 := fk_C_21.r
theorem fk_E_208 : ev_F "ThreeLinkPair$End" 208 3 3 false := ⟨("ThreeLinkPair$Changeover", nm_T3, 10), "ThreeLinkPair$Changeover", rfl, by decide, ck_3, sg_0_14 _ (List.mem_of_getElem? (i := 9) rfl), Or.inl rfl, rfl, fun h => by cases h⟩
theorem fr_E_208 : ev_F0 "ThreeLinkPair$End" 208 3 3 := fk_E_208.r
theorem fk_C_25 : ev_F "ThreeLinkPair$Changeover" 25 3 4 false := ⟨("ThreeLinkPair$Changeover", nm_T3, 10), "ThreeLinkPair$Changeover", rfl, by decide, ck_3, sg_0_14 _ (List.mem_of_getElem? (i := 10) rfl), Or.inl rfl, rfl, fun h => by cases h⟩
theorem fr_C_25 : ev_F0 "ThreeLinkPair$Changeover" 25 3 4 := fk_C_25.r
theorem fk_E_180 : ev_F "ThreeLinkPair$End" 180 3 4 false := ⟨("ThreeLinkPair$Changeover", nm_T3, 10), "ThreeLinkPair$Changeover", rfl, by decide, ck_3, sg_0_14 _ (List.mem_of_getElem? (i := 11) rfl), Or.inl rfl, rfl, fun h => by cases h⟩
theorem fr_E_180 : ev_F0 "ThreeLinkPair$End" 180 3 4 := fk_E_180.r
theorem fk_C_28 : ev_F "ThreeLinkPair$Changeover" 28 3 5 false := ⟨("ThreeLinkPair$Changeover", nm_T3, 10), "ThreeLinkPair$Changeover", rfl, by decide, ck_3, sg_0_14 _ (List.mem_of_getElem? (i := 12) rfl), Or.inl rfl, rfl, fun h => by cases h⟩
theorem fr_C_28 : ev_F0 "ThreeLinkPair$Changeover" 28 3 5 := fk_C_28.r
theorem fk_E_173 : ev_F "ThreeLinkPair$End" 173 3 5 false := ⟨("ThreeLinkPair$Changeover", nm_T3, 10), "ThreeLinkPair$Changeover", rfl, by decide, ck_3, sg_0_14 _ (List.mem_of_getElem? (i := 13) rfl), Or.inl rfl, rfl, fun h => by cases h⟩
theorem fr_E_173 : ev_F0 "ThreeLinkPair$End" 173 3 5 := fk_E_173.r
theorem fk_C_31 : ev_F "ThreeLinkPair$Changeover" 31 3 6 false := ⟨("ThreeLinkPair$Changeover", nm_T3, 10), "ThreeLinkPair$Changeover", rfl, by decide, ck_3, sg_0_14 _ (List.mem_of_getElem? (i := 14) rfl), Or.inl rfl, rfl, fun h => by cases h⟩
theorem fr_C_31 : ev_F0 "ThreeLinkPair$Changeover" 31 3 6 := fk_C_31.r
theorem fk_E_207 : ev_F "ThreeLinkPair$End" 207 3 6 false := ⟨("ThreeLinkPair$Changeover", nm_T3, 10), "ThreeLinkPair$Changeover", rfl, by decide, ck_3, sg_0_14 _ (List.mem_of_getElem? (i := 15) rfl), Or.inl rfl, rfl, fun h => by cases h⟩
theorem fr_E_207 : ev_F0 "ThreeLinkPair$End" 207 3 6 := fk_E_207.r
theorem fk_C_34 : ev_F "ThreeLinkPair$Changeover" 34 3 7 false := ⟨("ThreeLinkPair$Changeover", nm_T3, 10), "ThreeLinkPair$Changeover", rfl, by decide, ck_3, sg_1_0 _ (List.mem_of_getElem? (i := 0) rfl), Or.inl rfl, rfl, fun h => by cases h⟩
theorem fr_C_34 : ev_F0 "ThreeLinkPair$Changeover" 34 3 7 := fk_C_34.r
theorem fk_C_37 : ev_F "ThreeLinkPair$Changeover" 37 3 8 false := ⟨("ThreeLinkPair$Changeover", nm_T3, 10), "ThreeLinkPair$Changeover", rfl, by decide, ck_3, sg_1_0 _ (List.mem_of_getElem? (i := 1) rfl), Or.inl rfl, rfl, fun h => by cases h⟩
theorem fr_C_37 : ev_F0 "ThreeLinkPair$Changeover" 37 3 8 := fk_C_37.r
theorem fk_C_43 : ev_F "ThreeLinkPair$Changeover" 43 3 9 true := ⟨("ThreeLinkPair$Changeover", nm_T3, 10), "ThreeLinkPair$Changeover", rfl, by decide, ck_3, sg_1_0 _ (List.mem_of_getElem? (i := 2) rfl), Or.inl rfl, rfl, fun _ => rfl⟩
theorem fr_C_43 : ev_F0 "ThreeLinkPair$Changeover" 43 3 9 := fk_C_43.r
theorem fr_E_226 : ev_F0 "ThreeLinkPair$End" 226 3 9 := ⟨("ThreeLinkPair$Changeover", nm_T3, 10), "ThreeLinkPair$Changeover", rfl, by decide, ck_3, sg_1_0 _ (List.mem_of_getElem? (i := 3) rfl), Or.inl rfl⟩
theorem fk_E_11 : ev_F "ThreeLinkPair$End" 11 1 0 true := ⟨("ThreeLinkPair$End", nm_T1, 7), "ThreeLinkPair$End", rfl, by decide, ck_1, sg_1_1 _ (List.mem_of_getElem? (i := 11) rfl), Or.inl rfl, rfl, fun _ => rfl⟩
theorem fr_E_11 : ev_F0 "ThreeLinkPair$End" 11 1 0 := fk_E_11.r
theorem fr_P_27 : ev_F0 "ThreeLinkPair" 27 1 0 := ⟨("ThreeLinkPair$End", nm_T1, 7), "ThreeLinkPair$End", rfl, by decide, ck_1, sg_1_1 _ (List.mem_of_getElem? (i := 12) rfl), Or.inl rfl⟩
theorem fk_E_19 : ev_F "ThreeLinkPair$End" 19 1 1 true := ⟨("ThreeLinkPair$End", nm_T1, 7), "ThreeLinkPair$End", rfl, by decide, ck_1, sg_1_1 _ (List.mem_of_getElem? (i := 13) rfl), Or.inl rfl, rfl, fun _ => rfl⟩
theorem fr_E_19 : ev_F0 "ThreeLinkPair$End" 19 1 1 := fk_E_19.r
theorem fr_P_134 : ev_F0 "ThreeLinkPair" 134 1 1 := ⟨("ThreeLinkPair$End", nm_T1, 7), "ThreeLinkPair$End", rfl, by decide, ck_1, sg_1_1 _ (List.mem_of_getElem? (i := 14) rfl), Or.inl rfl⟩
theorem fk_E_25 : ev_F "ThreeLinkPair$End" 25 1 2 true := ⟨("ThreeLinkPair$End", nm_T1, 7), "ThreeLinkPair$End", rfl, by decide, ck_1, sg_1_1 _ (List.mem_of_getElem? (i := 15) rfl), Or.inl rfl, rfl, fun _ => rfl⟩
theorem fr_E_25 : ev_F0 "ThreeLinkPair$End" 25 1 2 := fk_E_25.r
theorem fr_P_130 : ev_F0 "ThreeLinkPair" 130 1 2 := ⟨("ThreeLinkPair$End", nm_T1, 7), "ThreeLinkPair$End", rfl, by decide, ck_1, sg_1_2 _ (List.mem_of_getElem? (i := 0) rfl), Or.inl rfl⟩
theorem fk_E_29 : ev_F "ThreeLinkPair$End" 29 1 3 true := ⟨("ThreeLinkPair$End", nm_T1, 7), "ThreeLinkPair$End", rfl, by decide, ck_1, sg_1_2 _ (List.mem_of_getElem? (i := 1) rfl), Or.inl rfl, rfl, fun _ => rfl⟩
theorem fr_E_29 : ev_F0 "ThreeLinkPair$End" 29 1 3 := fk_E_29.r
theorem fk_E_35 : ev_F "ThreeLinkPair$End" 35 1 4 true := ⟨("ThreeLinkPair$End", nm_T1, 7), "ThreeLinkPair$End", rfl, by decide, ck_1, sg_1_2 _ (List.mem_of_getElem? (i := 2) rfl), Or.inl rfl, rfl, fun _ => rfl⟩
theorem fr_E_35 : ev_F0 "ThreeLinkPair$End" 35 1 4 := fk_E_35.r
theorem fr_P_150 : ev_F0 "ThreeLinkPair" 150 1 4 := ⟨("ThreeLinkPair$End", nm_T1, 7), "ThreeLinkPair$End", rfl, by decide, ck_1, sg_1_2 _ (List.mem_of_getElem? (i := 3) rfl), Or.inl rfl⟩
theorem fk_E_39 : ev_F "ThreeLinkPair$End" 39 1 5 true := ⟨("ThreeLinkPair$End", nm_T1, 7), "ThreeLinkPair$End", rfl, by decide, ck_1, sg_1_2 _ (List.mem_of_getElem? (i := 4) rfl), Or.inl rfl, rfl, fun _ => rfl⟩
theorem fr_E_39 : ev_F0 "ThreeLinkPair$End" 39 1 5 := fk_E_39.r
theorem fr_P_153 : ev_F0 "ThreeLinkPair" 153 1 5 := ⟨("ThreeLinkPair$End", nm_T1, 7), "ThreeLinkPair$End", rfl, by decide, ck_1, sg_1_2 _ (List.mem_of_getElem? (i := 5) rfl), Or.inl rfl⟩
theorem fk_E_42 : ev_F "ThreeLinkPair$End" 42 1 6 false := ⟨("ThreeLinkPair$End", nm_T1, 7), "ThreeLinkPair$End", rfl, by decide, ck_1, sg_1_2 _ (List.mem_of_getElem? (i := 6) rfl), Or.inl rfl, rfl, fun h => by cases h⟩
theorem fr_E_42 : ev_F0 "ThreeLinkPair$End" 42 1 6 := fk_E_42.r
theorem fk_P_179 : ev_F "ThreeLinkPair" 179 1 6 false := ⟨("ThreeLinkPair$End", nm_T1, 7), "ThreeLinkPair$End", rfl, by decide, ck_1, sg_1_2 _ (List.mem_of_getElem? (i := 7) rfl), Or.inl rfl, rfl, fun h => by cases h⟩
theorem fr_P_179 : ev_F0 "ThreeLinkPair" 179 1 6 := fk_P_179.r
theorem fk_F_9 : ev_F "ThreeLinkPair$Fault" 9 4 0 false := ⟨("ThreeLinkPair$Fault", nm_T4, 2), "ThreeLinkPair$Fault", rfl, by decide, ck_4, sg_1_3 _ (List.mem_of_getElem? (i := 14) rfl), Or.inl rfl, rfl, fun h => by cases h⟩
theorem fr_F_9 : ev_F0 "ThreeLinkPair$Fault" 9 4 0 := fk_F_9.r
theorem fk_P_55 : ev_F "ThreeLinkPair" 55 4 0 false := ⟨("ThreeLinkPair$Fault", nm_T4, 2), "ThreeLinkPair$Fault", rfl, by decide, ck_4, sg_1_3 _ (List.mem_of_getElem? (i := 15) rfl), Or.inl rfl, rfl, fun h => by cases h⟩
theorem fr_P_55 : ev_F0 "ThreeLinkPair" 55 4 0 := fk_P_55.r
theorem fk_F_15 : ev_F "ThreeLinkPair$Fault" 15 4 1 false := ⟨("ThreeLinkPair$Fault", nm_T4, 2), "ThreeLinkPair$Fault", rfl, by decide, ck_4, sg_1_4 _ (List.mem_of_getElem? (i := 0) rfl), Or.inl rfl, rfl, fun h => by cases h⟩
theorem fr_F_15 : ev_F0 "ThreeLinkPair$Fault" 15 4 1 := fk_F_15.r
theorem fk_P_58 : ev_F "ThreeLinkPair" 58 4 1 false := ⟨("ThreeLinkPair$Fault", nm_T4, 2), "ThreeLinkPair$Fault", rfl, by decide, ck_4, sg_1_4 _ (List.mem_of_getElem? (i := 1) rfl), Or.inl rfl, rfl, fun h => by cases h⟩
theorem fr_P_58 : ev_F0 "ThreeLinkPair" 58 4 1 := fk_P_58.r
theorem fk_P_11 : ev_F "ThreeLinkPair" 11 0 0 true := ⟨("ThreeLinkPair", nm_T0, 2), "ThreeLinkPair", rfl, by decide, ck_0, sg_1_4 _ (List.mem_of_getElem? (i := 7) rfl), Or.inl rfl, rfl, fun _ => rfl⟩
theorem fr_P_11 : ev_F0 "ThreeLinkPair" 11 0 0 := fk_P_11.r
theorem fk_P_18 : ev_F "ThreeLinkPair" 18 0 1 true := ⟨("ThreeLinkPair", nm_T0, 2), "ThreeLinkPair", rfl, by decide, ck_0, sg_1_4 _ (List.mem_of_getElem? (i := 8) rfl), Or.inl rfl, rfl, fun _ => rfl⟩
theorem fr_P_18 : ev_F0 "ThreeLinkPair" 18 0 1 := fk_P_18.r
theorem fk_G_9 : ev_F "ThreeLinkPair$Message" 9 6 0 true := ⟨("ThreeLinkPair$Message", nm_T6, 4), "ThreeLinkPair$Message", rfl, by decide, ck_6, sg_2_1 _ (List.mem_of_getElem? (i := 4) rfl), Or.inl rfl, rfl, fun _ => rfl⟩
theorem fr_G_9 : ev_F0 "ThreeLinkPair$Message" 9 6 0 := fk_G_9.r
theorem fr_S_109 : ev_F0 "ThreeLinkPair$Side" 109 6 0 := ⟨("ThreeLinkPair$Message", nm_T6, 4), "ThreeLinkPair$Message", rfl, by decide, ck_6, sg_2_1 _ (List.mem_of_getElem? (i := 5) rfl), Or.inl rfl⟩
theorem fr_E_138 : ev_F0 "ThreeLinkPair$End" 138 6 0 := ⟨("ThreeLinkPair$Message", nm_T6, 4), "ThreeLinkPair$Message", rfl, by decide, ck_6, sg_2_1 _ (List.mem_of_getElem? (i := 6) rfl), Or.inl rfl⟩
theorem fr_P_171 : ev_F0 "ThreeLinkPair" 171 6 0 := ⟨("ThreeLinkPair$Message", nm_T6, 4), "ThreeLinkPair$Message", rfl, by decide, ck_6, sg_2_1 _ (List.mem_of_getElem? (i := 7) rfl), Or.inl rfl⟩
theorem fk_G_15 : ev_F "ThreeLinkPair$Message" 15 6 1 true := ⟨("ThreeLinkPair$Message", nm_T6, 4), "ThreeLinkPair$Message", rfl, by decide, ck_6, sg_2_1 _ (List.mem_of_getElem? (i := 8) rfl), Or.inl rfl, rfl, fun _ => rfl⟩
theorem fr_G_15 : ev_F0 "ThreeLinkPair$Message" 15 6 1 := fk_G_15.r
theorem fr_E_153 : ev_F0 "ThreeLinkPair$End" 153 6 1 := ⟨("ThreeLinkPair$Message", nm_T6, 4), "ThreeLinkPair$Message", rfl, by decide, ck_6, sg_2_1 _ (List.mem_of_getElem? (i := 9) rfl), Or.inl rfl⟩
theorem fr_P_174 : ev_F0 "ThreeLinkPair" 174 6 1 := ⟨("ThreeLinkPair$Message", nm_T6, 4), "ThreeLinkPair$Message", rfl, by decide, ck_6, sg_2_1 _ (List.mem_of_getElem? (i := 10) rfl), Or.inl rfl⟩
theorem fk_G_18 : ev_F "ThreeLinkPair$Message" 18 6 2 true := ⟨("ThreeLinkPair$Message", nm_T6, 4), "ThreeLinkPair$Message", rfl, by decide, ck_6, sg_2_1 _ (List.mem_of_getElem? (i := 11) rfl), Or.inl rfl, rfl, fun _ => rfl⟩
theorem fr_G_18 : ev_F0 "ThreeLinkPair$Message" 18 6 2 := fk_G_18.r
theorem fr_E_174 : ev_F0 "ThreeLinkPair$End" 174 6 2 := ⟨("ThreeLinkPair$Message", nm_T6, 4), "ThreeLinkPair$Message", rfl, by decide, ck_6, sg_2_1 _ (List.mem_of_getElem? (i := 12) rfl), Or.inl rfl⟩
theorem fk_G_21 : ev_F "ThreeLinkPair$Message" 21 6 3 true := ⟨("ThreeLinkPair$Message", nm_T6, 4), "ThreeLinkPair$Message", rfl, by decide, ck_6, sg_2_1 _ (List.mem_of_getElem? (i := 13) rfl), Or.inl rfl, rfl, fun _ => rfl⟩
theorem fr_G_21 : ev_F0 "ThreeLinkPair$Message" 21 6 3 := fk_G_21.r
theorem fr_E_156 : ev_F0 "ThreeLinkPair$End" 156 6 3 := ⟨("ThreeLinkPair$Message", nm_T6, 4), "ThreeLinkPair$Message", rfl, by decide, ck_6, sg_2_1 _ (List.mem_of_getElem? (i := 14) rfl), Or.inl rfl⟩
theorem fk_TH_198_10 : ev_F "java/lang/Throwable" 198 10 4 false := ⟨("java/lang/IndexOutOfBoundsException", nm_T10, 6), "java/lang/Throwable", rfl, by decide, ck_10, sg_2_11 _ (List.mem_of_getElem? (i := 6) rfl), Or.inl rfl, rfl, fun h => by cases h⟩
theorem fr_TH_198_10 : ev_F0 "java/lang/Throwable" 198 10 4 := fk_TH_198_10.r
theorem fk_TH_198_11 : ev_F "java/lang/Throwable" 198 11 4 false := ⟨("java/lang/IllegalArgumentException", nm_T11, 6), "java/lang/Throwable", rfl, by decide, ck_11, sg_2_11 _ (List.mem_of_getElem? (i := 6) rfl), Or.inl rfl, rfl, fun h => by cases h⟩
theorem fr_TH_198_11 : ev_F0 "java/lang/Throwable" 198 11 4 := fk_TH_198_11.r
theorem fk_TH_198_12 : ev_F "java/lang/Throwable" 198 12 4 false := ⟨("java/util/NoSuchElementException", nm_T12, 6), "java/lang/Throwable", rfl, by decide, ck_12, sg_2_11 _ (List.mem_of_getElem? (i := 6) rfl), Or.inl rfl, rfl, fun h => by cases h⟩
theorem fr_TH_198_12 : ev_F0 "java/lang/Throwable" 198 12 4 := fk_TH_198_12.r
theorem fk_TH_31_10 : ev_F "java/lang/Throwable" 31 10 3 false := ⟨("java/lang/IndexOutOfBoundsException", nm_T10, 6), "java/lang/Throwable", rfl, by decide, ck_10, sg_2_13 _ (List.mem_of_getElem? (i := 8) rfl), Or.inl rfl, rfl, fun h => by cases h⟩
theorem fr_TH_31_10 : ev_F0 "java/lang/Throwable" 31 10 3 := fk_TH_31_10.r
theorem fk_TH_31_11 : ev_F "java/lang/Throwable" 31 11 3 false := ⟨("java/lang/IllegalArgumentException", nm_T11, 6), "java/lang/Throwable", rfl, by decide, ck_11, sg_2_13 _ (List.mem_of_getElem? (i := 8) rfl), Or.inl rfl, rfl, fun h => by cases h⟩
theorem fr_TH_31_11 : ev_F0 "java/lang/Throwable" 31 11 3 := fk_TH_31_11.r
theorem fk_TH_31_12 : ev_F "java/lang/Throwable" 31 12 3 false := ⟨("java/util/NoSuchElementException", nm_T12, 6), "java/lang/Throwable", rfl, by decide, ck_12, sg_2_13 _ (List.mem_of_getElem? (i := 8) rfl), Or.inl rfl, rfl, fun h => by cases h⟩
theorem fr_TH_31_12 : ev_F0 "java/lang/Throwable" 31 12 3 := fk_TH_31_12.r
theorem fk_TH_7_10 : ev_F "java/lang/Throwable" 7 10 0 false := ⟨("java/lang/IndexOutOfBoundsException", nm_T10, 6), "java/lang/Throwable", rfl, by decide, ck_10, sg_2_13 _ (List.mem_of_getElem? (i := 9) rfl), Or.inl rfl, rfl, fun h => by cases h⟩
theorem fr_TH_7_10 : ev_F0 "java/lang/Throwable" 7 10 0 := fk_TH_7_10.r
theorem fk_TH_7_11 : ev_F "java/lang/Throwable" 7 11 0 false := ⟨("java/lang/IllegalArgumentException", nm_T11, 6), "java/lang/Throwable", rfl, by decide, ck_11, sg_2_13 _ (List.mem_of_getElem? (i := 9) rfl), Or.inl rfl, rfl, fun h => by cases h⟩
theorem fr_TH_7_11 : ev_F0 "java/lang/Throwable" 7 11 0 := fk_TH_7_11.r
theorem fk_TH_7_12 : ev_F "java/lang/Throwable" 7 12 0 false := ⟨("java/util/NoSuchElementException", nm_T12, 6), "java/lang/Throwable", rfl, by decide, ck_12, sg_2_13 _ (List.mem_of_getElem? (i := 9) rfl), Or.inl rfl, rfl, fun h => by cases h⟩
theorem fr_TH_7_12 : ev_F0 "java/lang/Throwable" 7 12 0 := fk_TH_7_12.r
theorem fk_TH_17_10 : ev_F "java/lang/Throwable" 17 10 1 false := ⟨("java/lang/IndexOutOfBoundsException", nm_T10, 6), "java/lang/Throwable", rfl, by decide, ck_10, sg_2_13 _ (List.mem_of_getElem? (i := 10) rfl), Or.inl rfl, rfl, fun h => by cases h⟩
theorem fr_TH_17_10 : ev_F0 "java/lang/Throwable" 17 10 1 := fk_TH_17_10.r
theorem fk_TH_17_11 : ev_F "java/lang/Throwable" 17 11 1 false := ⟨("java/lang/IllegalArgumentException", nm_T11, 6), "java/lang/Throwable", rfl, by decide, ck_11, sg_2_13 _ (List.mem_of_getElem? (i := 10) rfl), Or.inl rfl, rfl, fun h => by cases h⟩
theorem fr_TH_17_11 : ev_F0 "java/lang/Throwable" 17 11 1 := fk_TH_17_11.r
theorem fk_TH_17_12 : ev_F "java/lang/Throwable" 17 12 1 false := ⟨("java/util/NoSuchElementException", nm_T12, 6), "java/lang/Throwable", rfl, by decide, ck_12, sg_2_13 _ (List.mem_of_getElem? (i := 10) rfl), Or.inl rfl, rfl, fun h => by cases h⟩
theorem fr_TH_17_12 : ev_F0 "java/lang/Throwable" 17 12 1 := fk_TH_17_12.r
theorem fk_TH_24_10 : ev_F "java/lang/Throwable" 24 10 2 false := ⟨("java/lang/IndexOutOfBoundsException", nm_T10, 6), "java/lang/Throwable", rfl, by decide, ck_10, sg_2_13 _ (List.mem_of_getElem? (i := 11) rfl), Or.inl rfl, rfl, fun h => by cases h⟩
theorem fr_TH_24_10 : ev_F0 "java/lang/Throwable" 24 10 2 := fk_TH_24_10.r
theorem fk_TH_24_11 : ev_F "java/lang/Throwable" 24 11 2 false := ⟨("java/lang/IllegalArgumentException", nm_T11, 6), "java/lang/Throwable", rfl, by decide, ck_11, sg_2_13 _ (List.mem_of_getElem? (i := 11) rfl), Or.inl rfl, rfl, fun h => by cases h⟩
theorem fr_TH_24_11 : ev_F0 "java/lang/Throwable" 24 11 2 := fk_TH_24_11.r
theorem fk_TH_24_12 : ev_F "java/lang/Throwable" 24 12 2 false := ⟨("java/util/NoSuchElementException", nm_T12, 6), "java/lang/Throwable", rfl, by decide, ck_12, sg_2_13 _ (List.mem_of_getElem? (i := 11) rfl), Or.inl rfl, rfl, fun h => by cases h⟩
theorem fr_TH_24_12 : ev_F0 "java/lang/Throwable" 24 12 2 := fk_TH_24_12.r
theorem fk_D_157 : ev_F "ThreeLinkPairModel" 157 8 0 false := ⟨("ThreeLinkPairModel", nm_T8, 51), "ThreeLinkPairModel", rfl, by decide, ck_8, sg_3_9 _ (List.mem_of_getElem? (i := 0) rfl), Or.inl rfl, rfl, fun h => by cases h⟩
theorem fr_D_157 : ev_F0 "ThreeLinkPairModel" 157 8 0 := fk_D_157.r
theorem fk_D_7 : ev_F "ThreeLinkPairModel" 7 8 1 true := ⟨("ThreeLinkPairModel", nm_T8, 51), "ThreeLinkPairModel", rfl, by decide, ck_8, sg_3_9 _ (List.mem_of_getElem? (i := 1) rfl), Or.inl rfl, rfl, fun _ => rfl⟩
theorem fr_D_7 : ev_F0 "ThreeLinkPairModel" 7 8 1 := fk_D_7.r
theorem fk_D_13 : ev_F "ThreeLinkPairModel" 13 8 2 true := ⟨("ThreeLinkPairModel", nm_T8, 51), "ThreeLinkPairModel", rfl, by decide, ck_8, sg_3_9 _ (List.mem_of_getElem? (i := 2) rfl), Or.inl rfl, rfl, fun _ => rfl⟩
theorem fr_D_13 : ev_F0 "ThreeLinkPairModel" 13 8 2 := fk_D_13.r
theorem fk_D_16 : ev_F "ThreeLinkPairModel" 16 8 3 true := ⟨("ThreeLinkPairModel", nm_T8, 51), "ThreeLinkPairModel", rfl, by decide, ck_8, sg_3_9 _ (List.mem_of_getElem? (i := 3) rfl), Or.inl rfl, rfl, fun _ => rfl⟩
theorem fr_D_16 : ev_F0 "ThreeLinkPairModel" 16 8 3 := fk_D_16.r
theorem fk_D_19 : ev_F "ThreeLinkPairModel" 19 8 4 true := ⟨("ThreeLinkPairModel", nm_T8, 51), "ThreeLinkPairModel", rfl, by decide, ck_8, sg_3_9 _ (List.mem_of_getElem? (i := 4) rfl), Or.inl rfl, rfl, fun _ => rfl⟩
theorem fr_D_19 : ev_F0 "ThreeLinkPairModel" 19 8 4 := fk_D_19.r
theorem fk_D_22 : ev_F "ThreeLinkPairModel" 22 8 5 true := ⟨("ThreeLinkPairModel", nm_T8, 51), "ThreeLinkPairModel", rfl, by decide, ck_8, sg_3_9 _ (List.mem_of_getElem? (i := 5) rfl), Or.inl rfl, rfl, fun _ => rfl⟩
theorem fr_D_22 : ev_F0 "ThreeLinkPairModel" 22 8 5 := fk_D_22.r
theorem fk_D_25 : ev_F "ThreeLinkPairModel" 25 8 6 true := ⟨("ThreeLinkPairModel", nm_T8, 51), "ThreeLinkPairModel", rfl, by decide, ck_8, sg_3_9 _ (List.mem_of_getElem? (i := 6) rfl), Or.inl rfl, rfl, fun _ => rfl⟩
theorem fr_D_25 : ev_F0 "ThreeLinkPairModel" 25 8 6 := fk_D_25.r
theorem fk_D_28 : ev_F "ThreeLinkPairModel" 28 8 7 false := ⟨("ThreeLinkPairModel", nm_T8, 51), "ThreeLinkPairModel", rfl, by decide, ck_8, sg_3_9 _ (List.mem_of_getElem? (i := 7) rfl), Or.inl rfl, rfl, fun h => by cases h⟩
theorem fr_D_28 : ev_F0 "ThreeLinkPairModel" 28 8 7 := fk_D_28.r
theorem fk_D_160 : ev_F "ThreeLinkPairModel" 160 8 8 false := ⟨("ThreeLinkPairModel", nm_T8, 51), "ThreeLinkPairModel", rfl, by decide, ck_8, sg_3_9 _ (List.mem_of_getElem? (i := 8) rfl), Or.inl rfl, rfl, fun h => by cases h⟩
theorem fr_D_160 : ev_F0 "ThreeLinkPairModel" 160 8 8 := fk_D_160.r
theorem fk_D_32 : ev_F "ThreeLinkPairModel" 32 8 9 true := ⟨("ThreeLinkPairModel", nm_T8, 51), "ThreeLinkPairModel", rfl, by decide, ck_8, sg_3_9 _ (List.mem_of_getElem? (i := 9) rfl), Or.inl rfl, rfl, fun _ => rfl⟩
theorem fr_D_32 : ev_F0 "ThreeLinkPairModel" 32 8 9 := fk_D_32.r
theorem fk_D_35 : ev_F "ThreeLinkPairModel" 35 8 10 true := ⟨("ThreeLinkPairModel", nm_T8, 51), "ThreeLinkPairModel", rfl, by decide, ck_8, sg_3_9 _ (List.mem_of_getElem? (i := 10) rfl), Or.inl rfl, rfl, fun _ => rfl⟩
theorem fr_D_35 : ev_F0 "ThreeLinkPairModel" 35 8 10 := fk_D_35.r
theorem fk_D_38 : ev_F "ThreeLinkPairModel" 38 8 11 true := ⟨("ThreeLinkPairModel", nm_T8, 51), "ThreeLinkPairModel", rfl, by decide, ck_8, sg_3_9 _ (List.mem_of_getElem? (i := 11) rfl), Or.inl rfl, rfl, fun _ => rfl⟩
theorem fr_D_38 : ev_F0 "ThreeLinkPairModel" 38 8 11 := fk_D_38.r
theorem fk_D_41 : ev_F "ThreeLinkPairModel" 41 8 12 true := ⟨("ThreeLinkPairModel", nm_T8, 51), "ThreeLinkPairModel", rfl, by decide, ck_8, sg_3_9 _ (List.mem_of_getElem? (i := 12) rfl), Or.inl rfl, rfl, fun _ => rfl⟩
theorem fr_D_41 : ev_F0 "ThreeLinkPairModel" 41 8 12 := fk_D_41.r
theorem fk_D_44 : ev_F "ThreeLinkPairModel" 44 8 13 true := ⟨("ThreeLinkPairModel", nm_T8, 51), "ThreeLinkPairModel", rfl, by decide, ck_8, sg_3_9 _ (List.mem_of_getElem? (i := 13) rfl), Or.inl rfl, rfl, fun _ => rfl⟩
theorem fr_D_44 : ev_F0 "ThreeLinkPairModel" 44 8 13 := fk_D_44.r
theorem fk_D_47 : ev_F "ThreeLinkPairModel" 47 8 14 true := ⟨("ThreeLinkPairModel", nm_T8, 51), "ThreeLinkPairModel", rfl, by decide, ck_8, sg_3_9 _ (List.mem_of_getElem? (i := 14) rfl), Or.inl rfl, rfl, fun _ => rfl⟩
theorem fr_D_47 : ev_F0 "ThreeLinkPairModel" 47 8 14 := fk_D_47.r
theorem fk_D_50 : ev_F "ThreeLinkPairModel" 50 8 15 true := ⟨("ThreeLinkPairModel", nm_T8, 51), "ThreeLinkPairModel", rfl, by decide, ck_8, sg_3_9 _ (List.mem_of_getElem? (i := 15) rfl), Or.inl rfl, rfl, fun _ => rfl⟩
theorem fr_D_50 : ev_F0 "ThreeLinkPairModel" 50 8 15 := fk_D_50.r
theorem fk_D_53 : ev_F "ThreeLinkPairModel" 53 8 16 true := ⟨("ThreeLinkPairModel", nm_T8, 51), "ThreeLinkPairModel", rfl, by decide, ck_8, sg_3_10 _ (List.mem_of_getElem? (i := 0) rfl), Or.inl rfl, rfl, fun _ => rfl⟩
theorem fr_D_53 : ev_F0 "ThreeLinkPairModel" 53 8 16 := fk_D_53.r
theorem fk_D_57 : ev_F "ThreeLinkPairModel" 57 8 17 true := ⟨("ThreeLinkPairModel", nm_T8, 51), "ThreeLinkPairModel", rfl, by decide, ck_8, sg_3_10 _ (List.mem_of_getElem? (i := 1) rfl), Or.inl rfl, rfl, fun _ => rfl⟩
theorem fr_D_57 : ev_F0 "ThreeLinkPairModel" 57 8 17 := fk_D_57.r
theorem fk_D_60 : ev_F "ThreeLinkPairModel" 60 8 18 true := ⟨("ThreeLinkPairModel", nm_T8, 51), "ThreeLinkPairModel", rfl, by decide, ck_8, sg_3_10 _ (List.mem_of_getElem? (i := 2) rfl), Or.inl rfl, rfl, fun _ => rfl⟩
theorem fr_D_60 : ev_F0 "ThreeLinkPairModel" 60 8 18 := fk_D_60.r
theorem fk_D_63 : ev_F "ThreeLinkPairModel" 63 8 19 true := ⟨("ThreeLinkPairModel", nm_T8, 51), "ThreeLinkPairModel", rfl, by decide, ck_8, sg_3_10 _ (List.mem_of_getElem? (i := 3) rfl), Or.inl rfl, rfl, fun _ => rfl⟩
theorem fr_D_63 : ev_F0 "ThreeLinkPairModel" 63 8 19 := fk_D_63.r
theorem fk_D_66 : ev_F "ThreeLinkPairModel" 66 8 20 true := ⟨("ThreeLinkPairModel", nm_T8, 51), "ThreeLinkPairModel", rfl, by decide, ck_8, sg_3_10 _ (List.mem_of_getElem? (i := 4) rfl), Or.inl rfl, rfl, fun _ => rfl⟩
theorem fr_D_66 : ev_F0 "ThreeLinkPairModel" 66 8 20 := fk_D_66.r
theorem fk_D_69 : ev_F "ThreeLinkPairModel" 69 8 21 true := ⟨("ThreeLinkPairModel", nm_T8, 51), "ThreeLinkPairModel", rfl, by decide, ck_8, sg_3_10 _ (List.mem_of_getElem? (i := 5) rfl), Or.inl rfl, rfl, fun _ => rfl⟩
theorem fr_D_69 : ev_F0 "ThreeLinkPairModel" 69 8 21 := fk_D_69.r
theorem fk_D_72 : ev_F "ThreeLinkPairModel" 72 8 22 true := ⟨("ThreeLinkPairModel", nm_T8, 51), "ThreeLinkPairModel", rfl, by decide, ck_8, sg_3_10 _ (List.mem_of_getElem? (i := 6) rfl), Or.inl rfl, rfl, fun _ => rfl⟩
theorem fr_D_72 : ev_F0 "ThreeLinkPairModel" 72 8 22 := fk_D_72.r
theorem fk_D_75 : ev_F "ThreeLinkPairModel" 75 8 23 true := ⟨("ThreeLinkPairModel", nm_T8, 51), "ThreeLinkPairModel", rfl, by decide, ck_8, sg_3_10 _ (List.mem_of_getElem? (i := 7) rfl), Or.inl rfl, rfl, fun _ => rfl⟩
theorem fr_D_75 : ev_F0 "ThreeLinkPairModel" 75 8 23 := fk_D_75.r
theorem fk_D_78 : ev_F "ThreeLinkPairModel" 78 8 24 true := ⟨("ThreeLinkPairModel", nm_T8, 51), "ThreeLinkPairModel", rfl, by decide, ck_8, sg_3_10 _ (List.mem_of_getElem? (i := 8) rfl), Or.inl rfl, rfl, fun _ => rfl⟩
theorem fr_D_78 : ev_F0 "ThreeLinkPairModel" 78 8 24 := fk_D_78.r
theorem fk_D_81 : ev_F "ThreeLinkPairModel" 81 8 25 true := ⟨("ThreeLinkPairModel", nm_T8, 51), "ThreeLinkPairModel", rfl, by decide, ck_8, sg_3_10 _ (List.mem_of_getElem? (i := 9) rfl), Or.inl rfl, rfl, fun _ => rfl⟩
theorem fr_D_81 : ev_F0 "ThreeLinkPairModel" 81 8 25 := fk_D_81.r
theorem fk_D_84 : ev_F "ThreeLinkPairModel" 84 8 26 true := ⟨("ThreeLinkPairModel", nm_T8, 51), "ThreeLinkPairModel", rfl, by decide, ck_8, sg_3_10 _ (List.mem_of_getElem? (i := 10) rfl), Or.inl rfl, rfl, fun _ => rfl⟩
theorem fr_D_84 : ev_F0 "ThreeLinkPairModel" 84 8 26 := fk_D_84.r
theorem fk_D_87 : ev_F "ThreeLinkPairModel" 87 8 27 true := ⟨("ThreeLinkPairModel", nm_T8, 51), "ThreeLinkPairModel", rfl, by decide, ck_8, sg_3_10 _ (List.mem_of_getElem? (i := 11) rfl), Or.inl rfl, rfl, fun _ => rfl⟩
theorem fr_D_87 : ev_F0 "ThreeLinkPairModel" 87 8 27 := fk_D_87.r
theorem fk_D_90 : ev_F "ThreeLinkPairModel" 90 8 28 true := ⟨("ThreeLinkPairModel", nm_T8, 51), "ThreeLinkPairModel", rfl, by decide, ck_8, sg_3_10 _ (List.mem_of_getElem? (i := 12) rfl), Or.inl rfl, rfl, fun _ => rfl⟩
theorem fr_D_90 : ev_F0 "ThreeLinkPairModel" 90 8 28 := fk_D_90.r
theorem fk_D_93 : ev_F "ThreeLinkPairModel" 93 8 29 true := ⟨("ThreeLinkPairModel", nm_T8, 51), "ThreeLinkPairModel", rfl, by decide, ck_8, sg_3_10 _ (List.mem_of_getElem? (i := 13) rfl), Or.inl rfl, rfl, fun _ => rfl⟩
theorem fr_D_93 : ev_F0 "ThreeLinkPairModel" 93 8 29 := fk_D_93.r
theorem fk_D_96 : ev_F "ThreeLinkPairModel" 96 8 30 true := ⟨("ThreeLinkPairModel", nm_T8, 51), "ThreeLinkPairModel", rfl, by decide, ck_8, sg_3_10 _ (List.mem_of_getElem? (i := 14) rfl), Or.inl rfl, rfl, fun _ => rfl⟩
theorem fr_D_96 : ev_F0 "ThreeLinkPairModel" 96 8 30 := fk_D_96.r
theorem fk_D_99 : ev_F "ThreeLinkPairModel" 99 8 31 true := ⟨("ThreeLinkPairModel", nm_T8, 51), "ThreeLinkPairModel", rfl, by decide, ck_8, sg_3_10 _ (List.mem_of_getElem? (i := 15) rfl), Or.inl rfl, rfl, fun _ => rfl⟩
theorem fr_D_99 : ev_F0 "ThreeLinkPairModel" 99 8 31 := fk_D_99.r
theorem fk_D_102 : ev_F "ThreeLinkPairModel" 102 8 32 true := ⟨("ThreeLinkPairModel", nm_T8, 51), "ThreeLinkPairModel", rfl, by decide, ck_8, sg_3_11 _ (List.mem_of_getElem? (i := 0) rfl), Or.inl rfl, rfl, fun _ => rfl⟩
theorem fr_D_102 : ev_F0 "ThreeLinkPairModel" 102 8 32 := fk_D_102.r
theorem fk_D_105 : ev_F "ThreeLinkPairModel" 105 8 33 true := ⟨("ThreeLinkPairModel", nm_T8, 51), "ThreeLinkPairModel", rfl, by decide, ck_8, sg_3_11 _ (List.mem_of_getElem? (i := 1) rfl), Or.inl rfl, rfl, fun _ => rfl⟩
theorem fr_D_105 : ev_F0 "ThreeLinkPairModel" 105 8 33 := fk_D_105.r
theorem fk_D_108 : ev_F "ThreeLinkPairModel" 108 8 34 true := ⟨("ThreeLinkPairModel", nm_T8, 51), "ThreeLinkPairModel", rfl, by decide, ck_8, sg_3_11 _ (List.mem_of_getElem? (i := 2) rfl), Or.inl rfl, rfl, fun _ => rfl⟩
theorem fr_D_108 : ev_F0 "ThreeLinkPairModel" 108 8 34 := fk_D_108.r
theorem fk_D_111 : ev_F "ThreeLinkPairModel" 111 8 35 true := ⟨("ThreeLinkPairModel", nm_T8, 51), "ThreeLinkPairModel", rfl, by decide, ck_8, sg_3_11 _ (List.mem_of_getElem? (i := 3) rfl), Or.inl rfl, rfl, fun _ => rfl⟩
theorem fr_D_111 : ev_F0 "ThreeLinkPairModel" 111 8 35 := fk_D_111.r
theorem fk_D_114 : ev_F "ThreeLinkPairModel" 114 8 36 true := ⟨("ThreeLinkPairModel", nm_T8, 51), "ThreeLinkPairModel", rfl, by decide, ck_8, sg_3_11 _ (List.mem_of_getElem? (i := 4) rfl), Or.inl rfl, rfl, fun _ => rfl⟩
theorem fr_D_114 : ev_F0 "ThreeLinkPairModel" 114 8 36 := fk_D_114.r
theorem fk_D_117 : ev_F "ThreeLinkPairModel" 117 8 37 true := ⟨("ThreeLinkPairModel", nm_T8, 51), "ThreeLinkPairModel", rfl, by decide, ck_8, sg_3_11 _ (List.mem_of_getElem? (i := 5) rfl), Or.inl rfl, rfl, fun _ => rfl⟩
theorem fr_D_117 : ev_F0 "ThreeLinkPairModel" 117 8 37 := fk_D_117.r
theorem fk_D_120 : ev_F "ThreeLinkPairModel" 120 8 38 true := ⟨("ThreeLinkPairModel", nm_T8, 51), "ThreeLinkPairModel", rfl, by decide, ck_8, sg_3_11 _ (List.mem_of_getElem? (i := 6) rfl), Or.inl rfl, rfl, fun _ => rfl⟩
theorem fr_D_120 : ev_F0 "ThreeLinkPairModel" 120 8 38 := fk_D_120.r
theorem fk_D_123 : ev_F "ThreeLinkPairModel" 123 8 39 true := ⟨("ThreeLinkPairModel", nm_T8, 51), "ThreeLinkPairModel", rfl, by decide, ck_8, sg_3_11 _ (List.mem_of_getElem? (i := 7) rfl), Or.inl rfl, rfl, fun _ => rfl⟩
theorem fr_D_123 : ev_F0 "ThreeLinkPairModel" 123 8 39 := fk_D_123.r
theorem fk_D_126 : ev_F "ThreeLinkPairModel" 126 8 40 true := ⟨("ThreeLinkPairModel", nm_T8, 51), "ThreeLinkPairModel", rfl, by decide, ck_8, sg_3_11 _ (List.mem_of_getElem? (i := 8) rfl), Or.inl rfl, rfl, fun _ => rfl⟩
theorem fr_D_126 : ev_F0 "ThreeLinkPairModel" 126 8 40 := fk_D_126.r
theorem fk_D_129 : ev_F "ThreeLinkPairModel" 129 8 41 true := ⟨("ThreeLinkPairModel", nm_T8, 51), "ThreeLinkPairModel", rfl, by decide, ck_8, sg_3_11 _ (List.mem_of_getElem? (i := 9) rfl), Or.inl rfl, rfl, fun _ => rfl⟩
theorem fr_D_129 : ev_F0 "ThreeLinkPairModel" 129 8 41 := fk_D_129.r
theorem fk_D_132 : ev_F "ThreeLinkPairModel" 132 8 42 true := ⟨("ThreeLinkPairModel", nm_T8, 51), "ThreeLinkPairModel", rfl, by decide, ck_8, sg_3_11 _ (List.mem_of_getElem? (i := 10) rfl), Or.inl rfl, rfl, fun _ => rfl⟩
theorem fr_D_132 : ev_F0 "ThreeLinkPairModel" 132 8 42 := fk_D_132.r
theorem fk_D_135 : ev_F "ThreeLinkPairModel" 135 8 43 true := ⟨("ThreeLinkPairModel", nm_T8, 51), "ThreeLinkPairModel", rfl, by decide, ck_8, sg_3_11 _ (List.mem_of_getElem? (i := 11) rfl), Or.inl rfl, rfl, fun _ => rfl⟩
theorem fr_D_135 : ev_F0 "ThreeLinkPairModel" 135 8 43 := fk_D_135.r
theorem fk_D_138 : ev_F "ThreeLinkPairModel" 138 8 44 true := ⟨("ThreeLinkPairModel", nm_T8, 51), "ThreeLinkPairModel", rfl, by decide, ck_8, sg_3_11 _ (List.mem_of_getElem? (i := 12) rfl), Or.inl rfl, rfl, fun _ => rfl⟩
theorem fr_D_138 : ev_F0 "ThreeLinkPairModel" 138 8 44 := fk_D_138.r
theorem fk_D_141 : ev_F "ThreeLinkPairModel" 141 8 45 true := ⟨("ThreeLinkPairModel", nm_T8, 51), "ThreeLinkPairModel", rfl, by decide, ck_8, sg_3_11 _ (List.mem_of_getElem? (i := 13) rfl), Or.inl rfl, rfl, fun _ => rfl⟩
theorem fr_D_141 : ev_F0 "ThreeLinkPairModel" 141 8 45 := fk_D_141.r
theorem fk_D_144 : ev_F "ThreeLinkPairModel" 144 8 46 true := ⟨("ThreeLinkPairModel", nm_T8, 51), "ThreeLinkPairModel", rfl, by decide, ck_8, sg_3_11 _ (List.mem_of_getElem? (i := 14) rfl), Or.inl rfl, rfl, fun _ => rfl⟩
theorem fr_D_144 : ev_F0 "ThreeLinkPairModel" 144 8 46 := fk_D_144.r
theorem fk_D_147 : ev_F "ThreeLinkPairModel" 147 8 47 true := ⟨("ThreeLinkPairModel", nm_T8, 51), "ThreeLinkPairModel", rfl, by decide, ck_8, sg_3_11 _ (List.mem_of_getElem? (i := 15) rfl), Or.inl rfl, rfl, fun _ => rfl⟩
theorem fr_D_147 : ev_F0 "ThreeLinkPairModel" 147 8 47 := fk_D_147.r
theorem fk_D_150 : ev_F "ThreeLinkPairModel" 150 8 48 true := ⟨("ThreeLinkPairModel", nm_T8, 51), "ThreeLinkPairModel", rfl, by decide, ck_8, sg_3_12 _ (List.mem_of_getElem? (i := 0) rfl), Or.inl rfl, rfl, fun _ => rfl⟩
theorem fr_D_150 : ev_F0 "ThreeLinkPairModel" 150 8 48 := fk_D_150.r
theorem fk_D_200 : ev_F "ThreeLinkPairModel" 200 8 49 false := ⟨("ThreeLinkPairModel", nm_T8, 51), "ThreeLinkPairModel", rfl, by decide, ck_8, sg_3_12 _ (List.mem_of_getElem? (i := 1) rfl), Or.inl rfl, rfl, fun h => by cases h⟩
theorem fr_D_200 : ev_F0 "ThreeLinkPairModel" 200 8 49 := fk_D_200.r
theorem fk_D_233 : ev_F "ThreeLinkPairModel" 233 8 50 false := ⟨("ThreeLinkPairModel", nm_T8, 51), "ThreeLinkPairModel", rfl, by decide, ck_8, sg_3_12 _ (List.mem_of_getElem? (i := 2) rfl), Or.inl rfl, rfl, fun h => by cases h⟩
theorem fr_D_233 : ev_F0 "ThreeLinkPairModel" 233 8 50 := fk_D_233.r
theorem kl_W_8 : Cond.classLink "ThreeLinkPairLaw" 8 "ThreeLinkPair" ∈ lw_tbl := sg_0_1 _ (List.mem_of_getElem? (i := 9) rfl)
theorem kl_P_9 : Cond.classLink "ThreeLinkPair" 9 "ThreeLinkPair$End" ∈ lw_tbl := sg_0_2 _ (List.mem_of_getElem? (i := 1) rfl)
theorem kl_E_9 : Cond.classLink "ThreeLinkPair$End" 9 "ThreeLinkPair$Side" ∈ lw_tbl := sg_0_2 _ (List.mem_of_getElem? (i := 8) rfl)
theorem kl_E_17 : Cond.classLink "ThreeLinkPair$End" 17 "ThreeLinkPair$Changeover" ∈ lw_tbl := sg_0_2 _ (List.mem_of_getElem? (i := 10) rfl)
theorem kl_S_61 : Cond.classLink "ThreeLinkPair$Side" 61 "java/util/ArrayList" ∈ lw_tbl := sg_0_3 _ (List.mem_of_getElem? (i := 1) rfl)
theorem kl_S_71 : Cond.classLink "ThreeLinkPair$Side" 71 "ThreeLinkPair$Memory" ∈ lw_tbl := sg_0_4 _ (List.mem_of_getElem? (i := 11) rfl)
theorem kl_S_78 : Cond.classLink "ThreeLinkPair$Side" 78 "ThreeLinkPair$Unit" ∈ lw_tbl := sg_0_5 _ (List.mem_of_getElem? (i := 12) rfl)
theorem kl_C_40 : Cond.classLink "ThreeLinkPair$Changeover" 40 "java/util/ArrayList" ∈ lw_tbl := sg_0_13 _ (List.mem_of_getElem? (i := 14) rfl)
theorem kl_E_32 : Cond.classLink "ThreeLinkPair$End" 32 "java/util/ArrayList" ∈ lw_tbl := sg_1_1 _ (List.mem_of_getElem? (i := 9) rfl)
theorem kl_P_16 : Cond.classLink "ThreeLinkPair" 16 "ThreeLinkPair$Fault" ∈ lw_tbl := sg_1_3 _ (List.mem_of_getElem? (i := 7) rfl)
theorem kl_C_66 : Cond.classLink "ThreeLinkPair$Changeover" 66 "ThreeLinkPair$Message" ∈ lw_tbl := sg_1_8 _ (List.mem_of_getElem? (i := 6) rfl)
theorem kl_AR_110 : Cond.classLink "java/util/Arrays" 110 "[Ljava/lang/Object;" ∈ lw_tbl := sg_1_11 _ (List.mem_of_getElem? (i := 8) rfl)
theorem kl_AR_2 : Cond.classLink "java/util/Arrays" 2 "java/lang/Object" ∈ lw_tbl := sg_1_11 _ (List.mem_of_getElem? (i := 10) rfl)
theorem kl_AL_7 : Cond.classLink "java/util/ArrayList" 7 "java/lang/Object" ∈ lw_tbl := sg_1_12 _ (List.mem_of_getElem? (i := 2) rfl)
theorem kl_E_139 : Cond.classLink "ThreeLinkPair$End" 139 "ThreeLinkPair$Message" ∈ lw_tbl := sg_2_0 _ (List.mem_of_getElem? (i := 14) rfl)
theorem kl_S_107 : Cond.classLink "ThreeLinkPair$Side" 107 "ThreeLinkPair$Message" ∈ lw_tbl := sg_2_8 _ (List.mem_of_getElem? (i := 12) rfl)
theorem kl_W_13 : Cond.classLink "ThreeLinkPairLaw" 13 "java/lang/IndexOutOfBoundsException" ∈ lw_tbl := sg_2_9 _ (List.mem_of_getElem? (i := 6) rfl)
theorem kl_P_125 : Cond.classLink "ThreeLinkPair" 125 "java/lang/IndexOutOfBoundsException" ∈ lw_tbl := sg_2_10 _ (List.mem_of_getElem? (i := 1) rfl)
theorem kl_W_22 : Cond.classLink "ThreeLinkPairLaw" 22 "java/lang/IllegalArgumentException" ∈ lw_tbl := sg_3_0 _ (List.mem_of_getElem? (i := 6) rfl)
theorem kl_P_44 : Cond.classLink "ThreeLinkPair" 44 "java/lang/IllegalArgumentException" ∈ lw_tbl := sg_3_0 _ (List.mem_of_getElem? (i := 11) rfl)
theorem kl_W_53 : Cond.classLink "ThreeLinkPairLaw" 53 "java/util/NoSuchElementException" ∈ lw_tbl := sg_3_6 _ (List.mem_of_getElem? (i := 3) rfl)
theorem kl_P_160 : Cond.classLink "ThreeLinkPair" 160 "java/util/NoSuchElementException" ∈ lw_tbl := sg_3_6 _ (List.mem_of_getElem? (i := 8) rfl)
theorem kl_P_169 : Cond.classLink "ThreeLinkPair" 169 "ThreeLinkPair$Message" ∈ lw_tbl := sg_3_7 _ (List.mem_of_getElem? (i := 8) rfl)
theorem kl_W_56 : Cond.classLink "ThreeLinkPairLaw" 56 "ThreeLinkPairModel" ∈ lw_tbl := sg_3_7 _ (List.mem_of_getElem? (i := 10) rfl)
theorem ao_E : Cond.arrayOver (.object "ThreeLinkPair$End") ∈ lw_tbl := sg_0_2 _ (List.mem_of_getElem? (i := 2) rfl)
theorem ao_S : Cond.arrayOver (.object "ThreeLinkPair$Side") ∈ lw_tbl := sg_0_2 _ (List.mem_of_getElem? (i := 9) rfl)
theorem ao_C : Cond.arrayOver (.object "ThreeLinkPair$Changeover") ∈ lw_tbl := sg_0_2 _ (List.mem_of_getElem? (i := 11) rfl)
theorem ao_F : Cond.arrayOver (.object "ThreeLinkPair$Fault") ∈ lw_tbl := sg_1_3 _ (List.mem_of_getElem? (i := 8) rfl)
theorem ao_OO : Cond.arrayOver (.object "java/lang/Object") ∈ lw_tbl := sg_1_11 _ (List.mem_of_getElem? (i := 9) rfl)
theorem ac_int : Cond.arrayClass .int ∈ lw_tbl := sg_0_5 _ (List.mem_of_getElem? (i := 11) rfl)
theorem ac_byte : Cond.arrayClass .byte ∈ lw_tbl := sg_2_14 _ (List.mem_of_getElem? (i := 4) rfl)
theorem ac_boolean : Cond.arrayClass .boolean ∈ lw_tbl := sg_4_3 _ (List.mem_of_getElem? (i := 10) rfl)
theorem ac_long : Cond.arrayClass .long ∈ lw_tbl := sg_4_14 _ (List.mem_of_getElem? (i := 1) rfl)
theorem cn_P_177 : Cond.constantLong "ThreeLinkPair" 177 (4294967295) ∈ lw_tbl := sg_3_7 _ (List.mem_of_getElem? (i := 9) rfl)
theorem cn_D_271 : Cond.constantLong "ThreeLinkPairModel" 271 (4294967295) ∈ lw_tbl := sg_4_13 _ (List.mem_of_getElem? (i := 12) rfl)
theorem cn_AS_200 : Cond.constant "jdk/internal/util/ArraysSupport" 200 (2147483639) ∈ lw_tbl := sg_1_9 _ (List.mem_of_getElem? (i := 13) rfl)
theorem ca_IO_IO : Cond.castable "java/lang/IndexOutOfBoundsException" "java/lang/IndexOutOfBoundsException" ∈ lw_tbl := sg_2_10 _ (List.mem_of_getElem? (i := 3) rfl)
theorem ca_IA_IA : Cond.castable "java/lang/IllegalArgumentException" "java/lang/IllegalArgumentException" ∈ lw_tbl := sg_3_0 _ (List.mem_of_getElem? (i := 13) rfl)
theorem ca_NS_NS : Cond.castable "java/util/NoSuchElementException" "java/util/NoSuchElementException" ∈ lw_tbl := sg_3_6 _ (List.mem_of_getElem? (i := 10) rfl)
theorem ca_G_G : Cond.castable "ThreeLinkPair$Message" "ThreeLinkPair$Message" ∈ lw_tbl := sg_4_14 _ (List.mem_of_getElem? (i := 3) rfl)
theorem ca_P_OO : Cond.castable "ThreeLinkPair" "java/lang/Object" ∈ lw_tbl := sg_4_14 _ (List.mem_of_getElem? (i := 7) rfl)
theorem ca_E_OO : Cond.castable "ThreeLinkPair$End" "java/lang/Object" ∈ lw_tbl := sg_4_14 _ (List.mem_of_getElem? (i := 8) rfl)
theorem ca_S_OO : Cond.castable "ThreeLinkPair$Side" "java/lang/Object" ∈ lw_tbl := sg_4_14 _ (List.mem_of_getElem? (i := 9) rfl)
theorem ca_Y_OO : Cond.castable "ThreeLinkPair$Memory" "java/lang/Object" ∈ lw_tbl := sg_4_14 _ (List.mem_of_getElem? (i := 10) rfl)
theorem ca_N_OO : Cond.castable "ThreeLinkPair$Unit" "java/lang/Object" ∈ lw_tbl := sg_4_14 _ (List.mem_of_getElem? (i := 11) rfl)
theorem ca_C_OO : Cond.castable "ThreeLinkPair$Changeover" "java/lang/Object" ∈ lw_tbl := sg_4_14 _ (List.mem_of_getElem? (i := 12) rfl)
theorem ca_F_OO : Cond.castable "ThreeLinkPair$Fault" "java/lang/Object" ∈ lw_tbl := sg_4_14 _ (List.mem_of_getElem? (i := 13) rfl)
theorem ca_D_OO : Cond.castable "ThreeLinkPairModel" "java/lang/Object" ∈ lw_tbl := sg_4_14 _ (List.mem_of_getElem? (i := 14) rfl)
theorem ca_G_OO : Cond.castable "ThreeLinkPair$Message" "java/lang/Object" ∈ lw_tbl := sg_4_14 _ (List.mem_of_getElem? (i := 15) rfl)
theorem ca_X1200_OO : Cond.castable "java/lang/String" "java/lang/Object" ∈ lw_tbl := sg_5_0 _ (List.mem_of_getElem? (i := 0) rfl)
theorem ms_P_init : ev_ms mm_P_init 0 := ⟨sg_0_1 _ (List.mem_of_getElem? (i := 13) rfl), by decide +kernel, by decide +kernel, by decide +kernel⟩
theorem ms_E_init : ev_ms mm_E_init 0 := ⟨sg_0_2 _ (List.mem_of_getElem? (i := 6) rfl), by decide +kernel, by decide +kernel, by decide +kernel⟩
theorem ms_S_init : ev_ms mm_S_init 0 := ⟨sg_0_2 _ (List.mem_of_getElem? (i := 15) rfl), by decide +kernel, by decide +kernel, by decide +kernel⟩
theorem ms_AL_init : ev_ms mm_AL_init 0 := ⟨sg_0_3 _ (List.mem_of_getElem? (i := 5) rfl), by decide +kernel, by decide +kernel, by decide +kernel⟩
theorem ms_AB_init : ev_ms mm_AB_init 0 := ⟨sg_0_3 _ (List.mem_of_getElem? (i := 8) rfl), by decide +kernel, by decide +kernel, by decide +kernel⟩
theorem ms_AC_init : ev_ms mm_AC_init 0 := ⟨sg_0_3 _ (List.mem_of_getElem? (i := 11) rfl), by decide +kernel, by decide +kernel, by decide +kernel⟩
theorem ms_Y_init : ev_ms mm_Y_init 0 := ⟨sg_0_4 _ (List.mem_of_getElem? (i := 15) rfl), by decide +kernel, by decide +kernel, by decide +kernel⟩
theorem ms_AR_fill : ev_ms mm_AR_fill 2 := ⟨sg_0_5 _ (List.mem_of_getElem? (i := 3) rfl), by decide +kernel, by decide +kernel, by decide +kernel⟩
theorem ms_N_init : ev_ms mm_N_init 0 := ⟨sg_0_6 _ (List.mem_of_getElem? (i := 0) rfl), by decide +kernel, by decide +kernel, by decide +kernel⟩
theorem ms_C_init : ev_ms mm_C_init 0 := ⟨sg_0_13 _ (List.mem_of_getElem? (i := 12) rfl), by decide +kernel, by decide +kernel, by decide +kernel⟩
theorem ms_F_init : ev_ms mm_F_init 0 := ⟨sg_1_3 _ (List.mem_of_getElem? (i := 12) rfl), by decide +kernel, by decide +kernel, by decide +kernel⟩
theorem ms_P_tick : ev_ms mm_P_tick 0 := ⟨sg_1_5 _ (List.mem_of_getElem? (i := 1) rfl), by decide +kernel, by decide +kernel, by decide +kernel⟩
theorem ms_P_arrive : ev_ms mm_P_arrive 2 := ⟨sg_1_5 _ (List.mem_of_getElem? (i := 5) rfl), by decide +kernel, by decide +kernel, by decide +kernel⟩
theorem ms_P_faultPlace : ev_ms mm_P_faultPlace 2 := ⟨sg_1_5 _ (List.mem_of_getElem? (i := 8) rfl), by decide +kernel, by decide +kernel, by decide +kernel⟩
theorem ms_E_damagedComes : ev_ms mm_E_damagedComes 1 := ⟨sg_1_5 _ (List.mem_of_getElem? (i := 12) rfl), by decide +kernel, by decide +kernel, by decide +kernel⟩
theorem ms_S_failsByDamage : ev_ms mm_S_failsByDamage 0 := ⟨sg_1_6 _ (List.mem_of_getElem? (i := 0) rfl), by decide +kernel, by decide +kernel, by decide +kernel⟩
theorem ms_E_fall : ev_ms mm_E_fall 1 := ⟨sg_1_6 _ (List.mem_of_getElem? (i := 4) rfl), by decide +kernel, by decide +kernel, by decide +kernel⟩
theorem ms_S_comeTo : ev_ms mm_S_comeTo 1 := ⟨sg_1_6 _ (List.mem_of_getElem? (i := 8) rfl), by decide +kernel, by decide +kernel, by decide +kernel⟩
theorem ms_Y_keep : ev_ms mm_Y_keep 2 := ⟨sg_1_6 _ (List.mem_of_getElem? (i := 12) rfl), by decide +kernel, by decide +kernel, by decide +kernel⟩
theorem ms_MA_floorMod : ev_ms mm_MA_floorMod 2 := ⟨sg_1_6 _ (List.mem_of_getElem? (i := 15) rfl), by decide +kernel, by decide +kernel, by decide +kernel⟩
theorem ms_C_begin : ev_ms mm_C_begin 1 := ⟨sg_1_7 _ (List.mem_of_getElem? (i := 3) rfl), by decide +kernel, by decide +kernel, by decide +kernel⟩
theorem ms_AL_size : ev_ms mm_AL_size 0 := ⟨sg_1_7 _ (List.mem_of_getElem? (i := 7) rfl), by decide +kernel, by decide +kernel, by decide +kernel⟩
theorem ms_AL_get : ev_ms mm_AL_get 1 := ⟨sg_1_7 _ (List.mem_of_getElem? (i := 11) rfl), by decide +kernel, by decide +kernel, by decide +kernel⟩
theorem ms_OB_checkIndex : ev_ms mm_OB_checkIndex 2 := ⟨sg_1_7 _ (List.mem_of_getElem? (i := 14) rfl), by decide +kernel, by decide +kernel, by decide +kernel⟩
theorem ms_PR_checkIndex : ev_ms mm_PR_checkIndex 3 := ⟨sg_1_8 _ (List.mem_of_getElem? (i := 1) rfl), by decide +kernel, by decide +kernel, by decide +kernel⟩
theorem ms_AL_elementData : ev_ms mm_AL_elementData 1 := ⟨sg_1_8 _ (List.mem_of_getElem? (i := 5) rfl), by decide +kernel, by decide +kernel, by decide +kernel⟩
theorem ms_AL_add1 : ev_ms mm_AL_add1 1 := ⟨sg_1_8 _ (List.mem_of_getElem? (i := 10) rfl), by decide +kernel, by decide +kernel, by decide +kernel⟩
theorem ms_AL_add3 : ev_ms mm_AL_add3 3 := ⟨sg_1_8 _ (List.mem_of_getElem? (i := 14) rfl), by decide +kernel, by decide +kernel, by decide +kernel⟩
theorem ms_AL_grow0 : ev_ms mm_AL_grow0 0 := ⟨sg_1_9 _ (List.mem_of_getElem? (i := 2) rfl), by decide +kernel, by decide +kernel, by decide +kernel⟩
theorem ms_AL_grow1 : ev_ms mm_AL_grow1 1 := ⟨sg_1_9 _ (List.mem_of_getElem? (i := 6) rfl), by decide +kernel, by decide +kernel, by decide +kernel⟩
theorem ms_AS_newLength : ev_ms mm_AS_newLength 3 := ⟨sg_1_9 _ (List.mem_of_getElem? (i := 9) rfl), by decide +kernel, by decide +kernel, by decide +kernel⟩
theorem ms_MA_max : ev_ms mm_MA_max 2 := ⟨sg_1_9 _ (List.mem_of_getElem? (i := 12) rfl), by decide +kernel, by decide +kernel, by decide +kernel⟩
theorem ms_AS_hugeLength : ev_ms mm_AS_hugeLength 2 := ⟨sg_1_10 _ (List.mem_of_getElem? (i := 0) rfl), by decide +kernel, by decide +kernel, by decide +kernel⟩
theorem ms_AR_copyOf2 : ev_ms mm_AR_copyOf2 2 := ⟨sg_1_10 _ (List.mem_of_getElem? (i := 3) rfl), by decide +kernel, by decide +kernel, by decide +kernel⟩
theorem ms_AR_copyOf3 : ev_ms mm_AR_copyOf3 3 := ⟨sg_1_11 _ (List.mem_of_getElem? (i := 7) rfl), by decide +kernel, by decide +kernel, by decide +kernel⟩
theorem ms_MA_min : ev_ms mm_MA_min 2 := ⟨sg_1_11 _ (List.mem_of_getElem? (i := 13) rfl), by decide +kernel, by decide +kernel, by decide +kernel⟩
theorem ms_S_clearRows : ev_ms mm_S_clearRows 0 := ⟨sg_1_12 _ (List.mem_of_getElem? (i := 6) rfl), by decide +kernel, by decide +kernel, by decide +kernel⟩
theorem ms_AL_clear : ev_ms mm_AL_clear 0 := ⟨sg_1_12 _ (List.mem_of_getElem? (i := 10) rfl), by decide +kernel, by decide +kernel, by decide +kernel⟩
theorem ms_E_numberedComes : ev_ms mm_E_numberedComes 2 := ⟨sg_1_12 _ (List.mem_of_getElem? (i := 14) rfl), by decide +kernel, by decide +kernel, by decide +kernel⟩
theorem ms_S_countGood : ev_ms mm_S_countGood 0 := ⟨sg_1_13 _ (List.mem_of_getElem? (i := 2) rfl), by decide +kernel, by decide +kernel, by decide +kernel⟩
theorem ms_S_answered : ev_ms mm_S_answered 1 := ⟨sg_1_13 _ (List.mem_of_getElem? (i := 6) rfl), by decide +kernel, by decide +kernel, by decide +kernel⟩
theorem ms_P_dropFirst : ev_ms mm_P_dropFirst 2 := ⟨sg_1_13 _ (List.mem_of_getElem? (i := 11) rfl), by decide +kernel, by decide +kernel, by decide +kernel⟩
theorem ms_AL_isEmpty : ev_ms mm_AL_isEmpty 0 := ⟨sg_1_13 _ (List.mem_of_getElem? (i := 15) rfl), by decide +kernel, by decide +kernel, by decide +kernel⟩
theorem ms_AL_remove : ev_ms mm_AL_remove 1 := ⟨sg_1_14 _ (List.mem_of_getElem? (i := 3) rfl), by decide +kernel, by decide +kernel, by decide +kernel⟩
theorem ms_AL_fastRemove : ev_ms mm_AL_fastRemove 2 := ⟨sg_1_14 _ (List.mem_of_getElem? (i := 7) rfl), by decide +kernel, by decide +kernel, by decide +kernel⟩
theorem ms_S_followBackBit : ev_ms mm_S_followBackBit 1 := ⟨sg_1_14 _ (List.mem_of_getElem? (i := 13) rfl), by decide +kernel, by decide +kernel, by decide +kernel⟩
theorem ms_S_nextIn : ev_ms mm_S_nextIn 1 := ⟨sg_2_0 _ (List.mem_of_getElem? (i := 1) rfl), by decide +kernel, by decide +kernel, by decide +kernel⟩
theorem ms_E_takeIn : ev_ms mm_E_takeIn 1 := ⟨sg_2_0 _ (List.mem_of_getElem? (i := 5) rfl), by decide +kernel, by decide +kernel, by decide +kernel⟩
theorem ms_E_takeOrder : ev_ms mm_E_takeOrder 1 := ⟨sg_2_0 _ (List.mem_of_getElem? (i := 9) rfl), by decide +kernel, by decide +kernel, by decide +kernel⟩
theorem ms_Y_backFor : ev_ms mm_Y_backFor 1 := ⟨sg_2_0 _ (List.mem_of_getElem? (i := 13) rfl), by decide +kernel, by decide +kernel, by decide +kernel⟩
theorem ms_G_init : ev_ms mm_G_init 4 := ⟨sg_2_1 _ (List.mem_of_getElem? (i := 2) rfl), by decide +kernel, by decide +kernel, by decide +kernel⟩
theorem ms_E_say : ev_ms mm_E_say 1 := ⟨sg_2_2 _ (List.mem_of_getElem? (i := 11) rfl), by decide +kernel, by decide +kernel, by decide +kernel⟩
theorem ms_E_firstServing : ev_ms mm_E_firstServing 0 := ⟨sg_2_2 _ (List.mem_of_getElem? (i := 15) rfl), by decide +kernel, by decide +kernel, by decide +kernel⟩
theorem ms_C_settle : ev_ms mm_C_settle 1 := ⟨sg_2_3 _ (List.mem_of_getElem? (i := 4) rfl), by decide +kernel, by decide +kernel, by decide +kernel⟩
theorem ms_E_takeAnswer : ev_ms mm_E_takeAnswer 1 := ⟨sg_2_3 _ (List.mem_of_getElem? (i := 10) rfl), by decide +kernel, by decide +kernel, by decide +kernel⟩
theorem ms_E_statusComes : ev_ms mm_E_statusComes 2 := ⟨sg_2_3 _ (List.mem_of_getElem? (i := 14) rfl), by decide +kernel, by decide +kernel, by decide +kernel⟩
theorem ms_E_seekComes : ev_ms mm_E_seekComes 1 := ⟨sg_2_4 _ (List.mem_of_getElem? (i := 2) rfl), by decide +kernel, by decide +kernel, by decide +kernel⟩
theorem ms_E_proveComes : ev_ms mm_E_proveComes 1 := ⟨sg_2_4 _ (List.mem_of_getElem? (i := 6) rfl), by decide +kernel, by decide +kernel, by decide +kernel⟩
theorem ms_E_outComes : ev_ms mm_E_outComes 1 := ⟨sg_2_4 _ (List.mem_of_getElem? (i := 10) rfl), by decide +kernel, by decide +kernel, by decide +kernel⟩
theorem ms_E_age : ev_ms mm_E_age 1 := ⟨sg_2_4 _ (List.mem_of_getElem? (i := 14) rfl), by decide +kernel, by decide +kernel, by decide +kernel⟩
theorem ms_S_failsByAge : ev_ms mm_S_failsByAge 0 := ⟨sg_2_5 _ (List.mem_of_getElem? (i := 2) rfl), by decide +kernel, by decide +kernel, by decide +kernel⟩
theorem ms_E_changeOver : ev_ms mm_E_changeOver 1 := ⟨sg_2_5 _ (List.mem_of_getElem? (i := 8) rfl), by decide +kernel, by decide +kernel, by decide +kernel⟩
theorem ms_C_giveUp : ev_ms mm_C_giveUp 0 := ⟨sg_2_5 _ (List.mem_of_getElem? (i := 12) rfl), by decide +kernel, by decide +kernel, by decide +kernel⟩
theorem ms_G_isOfClass : ev_ms mm_G_isOfClass 0 := ⟨sg_2_6 _ (List.mem_of_getElem? (i := 0) rfl), by decide +kernel, by decide +kernel, by decide +kernel⟩
theorem ms_E_someOpenBeside : ev_ms mm_E_someOpenBeside 1 := ⟨sg_2_6 _ (List.mem_of_getElem? (i := 4) rfl), by decide +kernel, by decide +kernel, by decide +kernel⟩
theorem ms_E_isOpen : ev_ms mm_E_isOpen 1 := ⟨sg_2_6 _ (List.mem_of_getElem? (i := 8) rfl), by decide +kernel, by decide +kernel, by decide +kernel⟩
theorem ms_E_finish : ev_ms mm_E_finish 1 := ⟨sg_2_6 _ (List.mem_of_getElem? (i := 12) rfl), by decide +kernel, by decide +kernel, by decide +kernel⟩
theorem ms_E_passOn : ev_ms mm_E_passOn 1 := ⟨sg_2_7 _ (List.mem_of_getElem? (i := 3) rfl), by decide +kernel, by decide +kernel, by decide +kernel⟩
theorem ms_E_moveClass : ev_ms mm_E_moveClass 1 := ⟨sg_2_7 _ (List.mem_of_getElem? (i := 8) rfl), by decide +kernel, by decide +kernel, by decide +kernel⟩
theorem ms_E_choose : ev_ms mm_E_choose 1 := ⟨sg_2_7 _ (List.mem_of_getElem? (i := 12) rfl), by decide +kernel, by decide +kernel, by decide +kernel⟩
theorem ms_E_letGoHeld : ev_ms mm_E_letGoHeld 1 := ⟨sg_2_8 _ (List.mem_of_getElem? (i := 1) rfl), by decide +kernel, by decide +kernel, by decide +kernel⟩
theorem ms_S_send : ev_ms mm_S_send 0 := ⟨sg_2_8 _ (List.mem_of_getElem? (i := 6) rfl), by decide +kernel, by decide +kernel, by decide +kernel⟩
theorem ms_S_sendNumbered : ev_ms mm_S_sendNumbered 0 := ⟨sg_2_8 _ (List.mem_of_getElem? (i := 10) rfl), by decide +kernel, by decide +kernel, by decide +kernel⟩
theorem ms_P_lost : ev_ms mm_P_lost 0 := ⟨sg_2_9 _ (List.mem_of_getElem? (i := 2) rfl), by decide +kernel, by decide +kernel, by decide +kernel⟩
theorem ms_P_start : ev_ms mm_P_start 2 := ⟨sg_2_9 _ (List.mem_of_getElem? (i := 10) rfl), by decide +kernel, by decide +kernel, by decide +kernel⟩
theorem ms_P_checkSide : ev_ms mm_P_checkSide 2 := ⟨sg_2_9 _ (List.mem_of_getElem? (i := 13) rfl), by decide +kernel, by decide +kernel, by decide +kernel⟩
theorem ms_P_checkEnd : ev_ms mm_P_checkEnd 1 := ⟨sg_2_10 _ (List.mem_of_getElem? (i := 0) rfl), by decide +kernel, by decide +kernel, by decide +kernel⟩
theorem ms_TH_init0 : ev_ms mm_TH_init0 0 := ⟨sg_2_11 _ (List.mem_of_getElem? (i := 9) rfl), by decide +kernel, by decide +kernel, by decide +kernel⟩
theorem ms_IO_init : ev_ms mm_IO_init 1 := ⟨sg_2_12 _ (List.mem_of_getElem? (i := 13) rfl), by decide +kernel, by decide +kernel, by decide +kernel⟩
theorem ms_RT_init : ev_ms mm_RT_init 1 := ⟨sg_2_13 _ (List.mem_of_getElem? (i := 0) rfl), by decide +kernel, by decide +kernel, by decide +kernel⟩
theorem ms_EX_init : ev_ms mm_EX_init 1 := ⟨sg_2_13 _ (List.mem_of_getElem? (i := 3) rfl), by decide +kernel, by decide +kernel, by decide +kernel⟩
theorem ms_TH_init1 : ev_ms mm_TH_init1 1 := ⟨sg_2_13 _ (List.mem_of_getElem? (i := 6) rfl), by decide +kernel, by decide +kernel, by decide +kernel⟩
theorem ms_S_begin : ev_ms mm_S_begin 0 := ⟨sg_2_14 _ (List.mem_of_getElem? (i := 9) rfl), by decide +kernel, by decide +kernel, by decide +kernel⟩
theorem ms_P_stop : ev_ms mm_P_stop 2 := ⟨sg_3_0 _ (List.mem_of_getElem? (i := 1) rfl), by decide +kernel, by decide +kernel, by decide +kernel⟩
theorem ms_P_fault : ev_ms mm_P_fault 4 := ⟨sg_3_0 _ (List.mem_of_getElem? (i := 10) rfl), by decide +kernel, by decide +kernel, by decide +kernel⟩
theorem ms_IA_init : ev_ms mm_IA_init 1 := ⟨sg_3_1 _ (List.mem_of_getElem? (i := 7) rfl), by decide +kernel, by decide +kernel, by decide +kernel⟩
theorem ms_P_submit : ev_ms mm_P_submit 3 := ⟨sg_3_2 _ (List.mem_of_getElem? (i := 1) rfl), by decide +kernel, by decide +kernel, by decide +kernel⟩
theorem ms_P_checkClass : ev_ms mm_P_checkClass 2 := ⟨sg_3_2 _ (List.mem_of_getElem? (i := 4) rfl), by decide +kernel, by decide +kernel, by decide +kernel⟩
theorem ms_E_accept : ev_ms mm_E_accept 2 := ⟨sg_3_2 _ (List.mem_of_getElem? (i := 9) rfl), by decide +kernel, by decide +kernel, by decide +kernel⟩
theorem ms_E_addBelow : ev_ms mm_E_addBelow 4 := ⟨sg_3_2 _ (List.mem_of_getElem? (i := 12) rfl), by decide +kernel, by decide +kernel, by decide +kernel⟩
theorem ms_S_carries : ev_ms mm_S_carries 1 := ⟨sg_3_3 _ (List.mem_of_getElem? (i := 0) rfl), by decide +kernel, by decide +kernel, by decide +kernel⟩
theorem ms_S_holds : ev_ms mm_S_holds 2 := ⟨sg_3_3 _ (List.mem_of_getElem? (i := 3) rfl), by decide +kernel, by decide +kernel, by decide +kernel⟩
theorem ms_P_state : ev_ms mm_P_state 2 := ⟨sg_3_3 _ (List.mem_of_getElem? (i := 10) rfl), by decide +kernel, by decide +kernel, by decide +kernel⟩
theorem ms_P_of : ev_ms mm_P_of 3 := ⟨sg_3_4 _ (List.mem_of_getElem? (i := 1) rfl), by decide +kernel, by decide +kernel, by decide +kernel⟩
theorem ms_P_link : ev_ms mm_P_link 2 := ⟨sg_3_4 _ (List.mem_of_getElem? (i := 10) rfl), by decide +kernel, by decide +kernel, by decide +kernel⟩
theorem ms_P_changes : ev_ms mm_P_changes 2 := ⟨sg_3_5 _ (List.mem_of_getElem? (i := 1) rfl), by decide +kernel, by decide +kernel, by decide +kernel⟩
theorem ms_P_held : ev_ms mm_P_held 1 := ⟨sg_3_5 _ (List.mem_of_getElem? (i := 8) rfl), by decide +kernel, by decide +kernel, by decide +kernel⟩
theorem ms_P_inbox : ev_ms mm_P_inbox 1 := ⟨sg_3_5 _ (List.mem_of_getElem? (i := 15) rfl), by decide +kernel, by decide +kernel, by decide +kernel⟩
theorem ms_P_take : ev_ms mm_P_take 1 := ⟨sg_3_6 _ (List.mem_of_getElem? (i := 7) rfl), by decide +kernel, by decide +kernel, by decide +kernel⟩
theorem ms_NS_init : ev_ms mm_NS_init 1 := ⟨sg_3_7 _ (List.mem_of_getElem? (i := 4) rfl), by decide +kernel, by decide +kernel, by decide +kernel⟩
theorem ms_D_init : ev_ms mm_D_init 0 := ⟨sg_3_7 _ (List.mem_of_getElem? (i := 14) rfl), by decide +kernel, by decide +kernel, by decide +kernel⟩
theorem ms_D_begin : ev_ms mm_D_begin 1 := ⟨sg_3_8 _ (List.mem_of_getElem? (i := 3) rfl), by decide +kernel, by decide +kernel, by decide +kernel⟩
theorem ms_D_empty : ev_ms mm_D_empty 1 := ⟨sg_3_8 _ (List.mem_of_getElem? (i := 7) rfl), by decide +kernel, by decide +kernel, by decide +kernel⟩
theorem ms_D_shift : ev_ms mm_D_shift 1 := ⟨sg_3_8 _ (List.mem_of_getElem? (i := 11) rfl), by decide +kernel, by decide +kernel, by decide +kernel⟩
theorem ms_D_give : ev_ms mm_D_give 1 := ⟨sg_3_8 _ (List.mem_of_getElem? (i := 15) rfl), by decide +kernel, by decide +kernel, by decide +kernel⟩
theorem ms_D_thrown : ev_ms mm_D_thrown 0 := ⟨sg_4_3 _ (List.mem_of_getElem? (i := 14) rfl), by decide +kernel, by decide +kernel, by decide +kernel⟩
theorem ms_D_start : ev_ms mm_D_start 2 := ⟨sg_4_4 _ (List.mem_of_getElem? (i := 2) rfl), by decide +kernel, by decide +kernel, by decide +kernel⟩
theorem ms_D_isSide : ev_ms mm_D_isSide 2 := ⟨sg_4_4 _ (List.mem_of_getElem? (i := 5) rfl), by decide +kernel, by decide +kernel, by decide +kernel⟩
theorem ms_D_missing : ev_ms mm_D_missing 1 := ⟨sg_4_4 _ (List.mem_of_getElem? (i := 9) rfl), by decide +kernel, by decide +kernel, by decide +kernel⟩
theorem ms_D_come : ev_ms mm_D_come 2 := ⟨sg_4_4 _ (List.mem_of_getElem? (i := 13) rfl), by decide +kernel, by decide +kernel, by decide +kernel⟩
theorem ms_D_stop : ev_ms mm_D_stop 2 := ⟨sg_4_5 _ (List.mem_of_getElem? (i := 1) rfl), by decide +kernel, by decide +kernel, by decide +kernel⟩
theorem ms_D_fall : ev_ms mm_D_fall 1 := ⟨sg_4_5 _ (List.mem_of_getElem? (i := 5) rfl), by decide +kernel, by decide +kernel, by decide +kernel⟩
theorem ms_D_change : ev_ms mm_D_change 1 := ⟨sg_4_5 _ (List.mem_of_getElem? (i := 9) rfl), by decide +kernel, by decide +kernel, by decide +kernel⟩
theorem ms_D_put : ev_ms mm_D_put 2 := ⟨sg_4_5 _ (List.mem_of_getElem? (i := 13) rfl), by decide +kernel, by decide +kernel, by decide +kernel⟩
theorem ms_D_fault : ev_ms mm_D_fault 4 := ⟨sg_4_6 _ (List.mem_of_getElem? (i := 1) rfl), by decide +kernel, by decide +kernel, by decide +kernel⟩
theorem ms_D_tick : ev_ms mm_D_tick 0 := ⟨sg_4_6 _ (List.mem_of_getElem? (i := 5) rfl), by decide +kernel, by decide +kernel, by decide +kernel⟩
theorem ms_D_deliver : ev_ms mm_D_deliver 1 := ⟨sg_4_6 _ (List.mem_of_getElem? (i := 9) rfl), by decide +kernel, by decide +kernel, by decide +kernel⟩
theorem ms_D_damaged : ev_ms mm_D_damaged 1 := ⟨sg_4_6 _ (List.mem_of_getElem? (i := 13) rfl), by decide +kernel, by decide +kernel, by decide +kernel⟩
theorem ms_D_status : ev_ms mm_D_status 2 := ⟨sg_4_7 _ (List.mem_of_getElem? (i := 1) rfl), by decide +kernel, by decide +kernel, by decide +kernel⟩
theorem ms_D_served : ev_ms mm_D_served 2 := ⟨sg_4_7 _ (List.mem_of_getElem? (i := 5) rfl), by decide +kernel, by decide +kernel, by decide +kernel⟩
theorem ms_D_isTaken : ev_ms mm_D_isTaken 2 := ⟨sg_4_7 _ (List.mem_of_getElem? (i := 9) rfl), by decide +kernel, by decide +kernel, by decide +kernel⟩
theorem ms_D_takeOrder : ev_ms mm_D_takeOrder 4 := ⟨sg_4_7 _ (List.mem_of_getElem? (i := 13) rfl), by decide +kernel, by decide +kernel, by decide +kernel⟩
theorem ms_D_message : ev_ms mm_D_message 4 := ⟨sg_4_8 _ (List.mem_of_getElem? (i := 1) rfl), by decide +kernel, by decide +kernel, by decide +kernel⟩
theorem ms_D_say : ev_ms mm_D_say 2 := ⟨sg_4_8 _ (List.mem_of_getElem? (i := 5) rfl), by decide +kernel, by decide +kernel, by decide +kernel⟩
theorem ms_D_serving : ev_ms mm_D_serving 1 := ⟨sg_4_8 _ (List.mem_of_getElem? (i := 9) rfl), by decide +kernel, by decide +kernel, by decide +kernel⟩
theorem ms_D_settle : ev_ms mm_D_settle 2 := ⟨sg_4_8 _ (List.mem_of_getElem? (i := 13) rfl), by decide +kernel, by decide +kernel, by decide +kernel⟩
theorem ms_D_age : ev_ms mm_D_age 1 := ⟨sg_4_9 _ (List.mem_of_getElem? (i := 1) rfl), by decide +kernel, by decide +kernel, by decide +kernel⟩
theorem ms_D_tickChange : ev_ms mm_D_tickChange 1 := ⟨sg_4_9 _ (List.mem_of_getElem? (i := 5) rfl), by decide +kernel, by decide +kernel, by decide +kernel⟩
theorem ms_D_giveUp : ev_ms mm_D_giveUp 1 := ⟨sg_4_9 _ (List.mem_of_getElem? (i := 9) rfl), by decide +kernel, by decide +kernel, by decide +kernel⟩
theorem ms_D_chosen : ev_ms mm_D_chosen 2 := ⟨sg_4_9 _ (List.mem_of_getElem? (i := 13) rfl), by decide +kernel, by decide +kernel, by decide +kernel⟩
theorem ms_D_isOpen : ev_ms mm_D_isOpen 2 := ⟨sg_4_10 _ (List.mem_of_getElem? (i := 1) rfl), by decide +kernel, by decide +kernel, by decide +kernel⟩
theorem ms_D_end : ev_ms mm_D_end 1 := ⟨sg_4_10 _ (List.mem_of_getElem? (i := 5) rfl), by decide +kernel, by decide +kernel, by decide +kernel⟩
theorem ms_D_send : ev_ms mm_D_send 1 := ⟨sg_4_10 _ (List.mem_of_getElem? (i := 9) rfl), by decide +kernel, by decide +kernel, by decide +kernel⟩
theorem ms_D_at : ev_ms mm_D_at 2 := ⟨sg_4_10 _ (List.mem_of_getElem? (i := 13) rfl), by decide +kernel, by decide +kernel, by decide +kernel⟩
theorem ms_D_carry : ev_ms mm_D_carry 3 := ⟨sg_4_11 _ (List.mem_of_getElem? (i := 1) rfl), by decide +kernel, by decide +kernel, by decide +kernel⟩
theorem ms_D_submit : ev_ms mm_D_submit 3 := ⟨sg_4_11 _ (List.mem_of_getElem? (i := 5) rfl), by decide +kernel, by decide +kernel, by decide +kernel⟩
theorem ms_D_isClass : ev_ms mm_D_isClass 2 := ⟨sg_4_11 _ (List.mem_of_getElem? (i := 8) rfl), by decide +kernel, by decide +kernel, by decide +kernel⟩
theorem ms_D_hasClass : ev_ms mm_D_hasClass 2 := ⟨sg_4_11 _ (List.mem_of_getElem? (i := 12) rfl), by decide +kernel, by decide +kernel, by decide +kernel⟩
theorem ms_D_state : ev_ms mm_D_state 2 := ⟨sg_4_12 _ (List.mem_of_getElem? (i := 0) rfl), by decide +kernel, by decide +kernel, by decide +kernel⟩
theorem ms_D_of : ev_ms mm_D_of 3 := ⟨sg_4_12 _ (List.mem_of_getElem? (i := 4) rfl), by decide +kernel, by decide +kernel, by decide +kernel⟩
theorem ms_D_link : ev_ms mm_D_link 2 := ⟨sg_4_12 _ (List.mem_of_getElem? (i := 8) rfl), by decide +kernel, by decide +kernel, by decide +kernel⟩
theorem ms_D_changes : ev_ms mm_D_changes 2 := ⟨sg_4_12 _ (List.mem_of_getElem? (i := 12) rfl), by decide +kernel, by decide +kernel, by decide +kernel⟩
theorem ms_D_held : ev_ms mm_D_held 1 := ⟨sg_4_13 _ (List.mem_of_getElem? (i := 0) rfl), by decide +kernel, by decide +kernel, by decide +kernel⟩
theorem ms_D_isEnd : ev_ms mm_D_isEnd 1 := ⟨sg_4_13 _ (List.mem_of_getElem? (i := 3) rfl), by decide +kernel, by decide +kernel, by decide +kernel⟩
theorem ms_D_inbox : ev_ms mm_D_inbox 1 := ⟨sg_4_13 _ (List.mem_of_getElem? (i := 7) rfl), by decide +kernel, by decide +kernel, by decide +kernel⟩
theorem ms_D_take : ev_ms mm_D_take 1 := ⟨sg_4_13 _ (List.mem_of_getElem? (i := 11) rfl), by decide +kernel, by decide +kernel, by decide +kernel⟩
theorem ms_D_lost : ev_ms mm_D_lost 0 := ⟨sg_4_14 _ (List.mem_of_getElem? (i := 0) rfl), by decide +kernel, by decide +kernel, by decide +kernel⟩
theorem ms_W_start : ev_ms mm_W_start 4 := ⟨sg_2_9 _ (List.mem_of_getElem? (i := 5) rfl), by decide +kernel, by decide +kernel, by decide +kernel⟩
theorem ms_W_stop : ev_ms mm_W_stop 4 := ⟨sg_2_14 _ (List.mem_of_getElem? (i := 13) rfl), by decide +kernel, by decide +kernel, by decide +kernel⟩
theorem ms_W_fault : ev_ms mm_W_fault 5 := ⟨sg_3_0 _ (List.mem_of_getElem? (i := 5) rfl), by decide +kernel, by decide +kernel, by decide +kernel⟩
theorem ms_W_submit : ev_ms mm_W_submit 5 := ⟨sg_3_1 _ (List.mem_of_getElem? (i := 13) rfl), by decide +kernel, by decide +kernel, by decide +kernel⟩
theorem ms_W_state : ev_ms mm_W_state 4 := ⟨sg_3_3 _ (List.mem_of_getElem? (i := 6) rfl), by decide +kernel, by decide +kernel, by decide +kernel⟩
theorem ms_W_of : ev_ms mm_W_of 5 := ⟨sg_3_3 _ (List.mem_of_getElem? (i := 13) rfl), by decide +kernel, by decide +kernel, by decide +kernel⟩
theorem ms_W_link : ev_ms mm_W_link 4 := ⟨sg_3_4 _ (List.mem_of_getElem? (i := 6) rfl), by decide +kernel, by decide +kernel, by decide +kernel⟩
theorem ms_W_changes : ev_ms mm_W_changes 4 := ⟨sg_3_4 _ (List.mem_of_getElem? (i := 13) rfl), by decide +kernel, by decide +kernel, by decide +kernel⟩
theorem ms_W_held : ev_ms mm_W_held 3 := ⟨sg_3_5 _ (List.mem_of_getElem? (i := 4) rfl), by decide +kernel, by decide +kernel, by decide +kernel⟩
theorem ms_W_inbox : ev_ms mm_W_inbox 3 := ⟨sg_3_5 _ (List.mem_of_getElem? (i := 11) rfl), by decide +kernel, by decide +kernel, by decide +kernel⟩
theorem ms_W_take : ev_ms mm_W_take 3 := ⟨sg_3_6 _ (List.mem_of_getElem? (i := 2) rfl), by decide +kernel, by decide +kernel, by decide +kernel⟩
theorem ii_W_55 : ev_Ii "ThreeLinkPairLaw" 55 mm_P_init := ⟨Or.inl (sg_0_1 _ (List.mem_of_getElem? (i := 11) rfl)), sg_0_1 _ (List.mem_of_getElem? (i := 12) rfl), rfl, rfl, rfl⟩
theorem oi_P_1 : Cond.methodLink "ThreeLinkPair" 1 Lib.objectInit ∈ lw_tbl := sg_0_1 _ (List.mem_of_getElem? (i := 14) rfl)
theorem ii_P_15 : ev_Ii "ThreeLinkPair" 15 mm_E_init := ⟨Or.inl (sg_0_2 _ (List.mem_of_getElem? (i := 4) rfl)), sg_0_2 _ (List.mem_of_getElem? (i := 5) rfl), rfl, rfl, rfl⟩
theorem oi_E_3 : Cond.methodLink "ThreeLinkPair$End" 3 Lib.objectInit ∈ lw_tbl := sg_0_2 _ (List.mem_of_getElem? (i := 7) rfl)
theorem oi_S_3 : Cond.methodLink "ThreeLinkPair$Side" 3 Lib.objectInit ∈ lw_tbl := sg_0_3 _ (List.mem_of_getElem? (i := 0) rfl)
theorem ii_S_63 : ev_Ii "ThreeLinkPair$Side" 63 mm_AL_init := ⟨Or.inl (sg_0_3 _ (List.mem_of_getElem? (i := 3) rfl)), sg_0_3 _ (List.mem_of_getElem? (i := 4) rfl), rfl, rfl, rfl⟩
theorem ii_AL_1 : ev_Ii "java/util/ArrayList" 1 mm_AB_init := ⟨Or.inl (sg_0_3 _ (List.mem_of_getElem? (i := 6) rfl)), sg_0_3 _ (List.mem_of_getElem? (i := 7) rfl), rfl, rfl, rfl⟩
theorem ii_AB_1 : ev_Ii "java/util/AbstractList" 1 mm_AC_init := ⟨Or.inl (sg_0_3 _ (List.mem_of_getElem? (i := 9) rfl)), sg_0_3 _ (List.mem_of_getElem? (i := 10) rfl), rfl, rfl, rfl⟩
theorem oi_AC_1 : Cond.methodLink "java/util/AbstractCollection" 1 Lib.objectInit ∈ lw_tbl := sg_0_3 _ (List.mem_of_getElem? (i := 12) rfl)
theorem ii_S_73 : ev_Ii "ThreeLinkPair$Side" 73 mm_Y_init := ⟨Or.inl (sg_0_4 _ (List.mem_of_getElem? (i := 13) rfl)), sg_0_4 _ (List.mem_of_getElem? (i := 14) rfl), rfl, rfl, rfl⟩
theorem oi_Y_3 : Cond.methodLink "ThreeLinkPair$Memory" 3 Lib.objectInit ∈ lw_tbl := sg_0_5 _ (List.mem_of_getElem? (i := 0) rfl)
theorem is_Y_18 : ev_Is "ThreeLinkPair$Memory" 18 mm_AR_fill := ⟨Or.inl (sg_0_5 _ (List.mem_of_getElem? (i := 1) rfl)), sg_0_5 _ (List.mem_of_getElem? (i := 2) rfl), sg_0_0 _ (List.mem_of_getElem? (i := 8) rfl)⟩
theorem oi_N_1 : Cond.methodLink "ThreeLinkPair$Unit" 1 Lib.objectInit ∈ lw_tbl := sg_0_6 _ (List.mem_of_getElem? (i := 1) rfl)
theorem oi_C_3 : Cond.methodLink "ThreeLinkPair$Changeover" 3 Lib.objectInit ∈ lw_tbl := sg_0_13 _ (List.mem_of_getElem? (i := 13) rfl)
theorem ii_C_42 : ev_Ii "ThreeLinkPair$Changeover" 42 mm_AL_init := ⟨Or.inl (sg_0_13 _ (List.mem_of_getElem? (i := 15) rfl)), sg_0_3 _ (List.mem_of_getElem? (i := 4) rfl), rfl, rfl, rfl⟩
theorem ii_E_34 : ev_Ii "ThreeLinkPair$End" 34 mm_AL_init := ⟨Or.inl (sg_1_1 _ (List.mem_of_getElem? (i := 10) rfl)), sg_0_3 _ (List.mem_of_getElem? (i := 4) rfl), rfl, rfl, rfl⟩
theorem oi_F_3 : Cond.methodLink "ThreeLinkPair$Fault" 3 Lib.objectInit ∈ lw_tbl := sg_1_3 _ (List.mem_of_getElem? (i := 13) rfl)
theorem iv_W_80 : ev_Iv "ThreeLinkPairLaw" 80 0 mm_P_tick := ⟨("ThreeLinkPair", nm_T0, 2), rfl, Or.inl (sg_1_4 _ (List.mem_of_getElem? (i := 14) rfl)), sg_1_4 _ (List.mem_of_getElem? (i := 15) rfl), sg_1_5 _ (List.mem_of_getElem? (i := 0) rfl)⟩
theorem iv_P_68 : ev_Iv "ThreeLinkPair" 68 0 mm_P_arrive := ⟨("ThreeLinkPair", nm_T0, 2), rfl, Or.inl (sg_1_5 _ (List.mem_of_getElem? (i := 2) rfl)), sg_1_5 _ (List.mem_of_getElem? (i := 4) rfl), nm_pr 0 (by decide +kernel)⟩
theorem is_P_51 : ev_Is "ThreeLinkPair" 51 mm_P_faultPlace := ⟨Or.inl (sg_1_5 _ (List.mem_of_getElem? (i := 6) rfl)), sg_1_5 _ (List.mem_of_getElem? (i := 7) rfl), sg_0_0 _ (List.mem_of_getElem? (i := 1) rfl)⟩
theorem iv_P_197 : ev_Iv "ThreeLinkPair" 197 1 mm_E_damagedComes := ⟨("ThreeLinkPair$End", nm_T1, 7), rfl, Or.inl (sg_1_5 _ (List.mem_of_getElem? (i := 9) rfl)), sg_1_5 _ (List.mem_of_getElem? (i := 10) rfl), sg_1_5 _ (List.mem_of_getElem? (i := 11) rfl)⟩
theorem iv_E_87 : ev_Iv "ThreeLinkPair$End" 87 2 mm_S_failsByDamage := ⟨("ThreeLinkPair$Side", nm_T2, 20), rfl, Or.inl (sg_1_5 _ (List.mem_of_getElem? (i := 13) rfl)), sg_1_5 _ (List.mem_of_getElem? (i := 14) rfl), sg_1_5 _ (List.mem_of_getElem? (i := 15) rfl)⟩
theorem iv_E_84 : ev_Iv "ThreeLinkPair$End" 84 1 mm_E_fall := ⟨("ThreeLinkPair$End", nm_T1, 7), rfl, Or.inl (sg_1_6 _ (List.mem_of_getElem? (i := 1) rfl)), sg_1_6 _ (List.mem_of_getElem? (i := 2) rfl), sg_1_6 _ (List.mem_of_getElem? (i := 3) rfl)⟩
theorem iv_E_49 : ev_Iv "ThreeLinkPair$End" 49 2 mm_S_comeTo := ⟨("ThreeLinkPair$Side", nm_T2, 20), rfl, Or.inl (sg_1_6 _ (List.mem_of_getElem? (i := 5) rfl)), sg_1_6 _ (List.mem_of_getElem? (i := 6) rfl), sg_1_6 _ (List.mem_of_getElem? (i := 7) rfl)⟩
theorem iv_E_67 : ev_Iv "ThreeLinkPair$End" 67 5 mm_Y_keep := ⟨("ThreeLinkPair$Memory", nm_T5, 2), rfl, Or.inl (sg_1_6 _ (List.mem_of_getElem? (i := 9) rfl)), sg_1_6 _ (List.mem_of_getElem? (i := 10) rfl), sg_1_6 _ (List.mem_of_getElem? (i := 11) rfl)⟩
theorem is_Y_24 : ev_Is "ThreeLinkPair$Memory" 24 mm_MA_floorMod := ⟨Or.inl (sg_1_6 _ (List.mem_of_getElem? (i := 13) rfl)), sg_1_6 _ (List.mem_of_getElem? (i := 14) rfl), sg_0_1 _ (List.mem_of_getElem? (i := 1) rfl)⟩
theorem iv_E_73 : ev_Iv "ThreeLinkPair$End" 73 3 mm_C_begin := ⟨("ThreeLinkPair$Changeover", nm_T3, 10), rfl, Or.inl (sg_1_7 _ (List.mem_of_getElem? (i := 0) rfl)), sg_1_7 _ (List.mem_of_getElem? (i := 1) rfl), sg_1_7 _ (List.mem_of_getElem? (i := 2) rfl)⟩
theorem iv_C_55 : ev_Iv "ThreeLinkPair$Changeover" 55 9 mm_AL_size := ⟨("java/util/ArrayList", nm_T9, 3), rfl, Or.inl (sg_1_7 _ (List.mem_of_getElem? (i := 4) rfl)), sg_1_7 _ (List.mem_of_getElem? (i := 5) rfl), sg_1_7 _ (List.mem_of_getElem? (i := 6) rfl)⟩
theorem iv_C_62 : ev_Iv "ThreeLinkPair$Changeover" 62 9 mm_AL_get := ⟨("java/util/ArrayList", nm_T9, 3), rfl, Or.inl (sg_1_7 _ (List.mem_of_getElem? (i := 8) rfl)), sg_1_7 _ (List.mem_of_getElem? (i := 9) rfl), sg_1_7 _ (List.mem_of_getElem? (i := 10) rfl)⟩
theorem is_AL_118 : ev_Is "java/util/ArrayList" 118 mm_OB_checkIndex := ⟨Or.inl (sg_1_7 _ (List.mem_of_getElem? (i := 12) rfl)), sg_1_7 _ (List.mem_of_getElem? (i := 13) rfl), sg_0_1 _ (List.mem_of_getElem? (i := 2) rfl)⟩
theorem is_OB_105 : ev_Is "java/util/Objects" 105 mm_PR_checkIndex := ⟨Or.inl (sg_1_7 _ (List.mem_of_getElem? (i := 15) rfl)), sg_1_8 _ (List.mem_of_getElem? (i := 0) rfl), sg_0_1 _ (List.mem_of_getElem? (i := 3) rfl)⟩
theorem iv_AL_123 : ev_Iv "java/util/ArrayList" 123 9 mm_AL_elementData := ⟨("java/util/ArrayList", nm_T9, 3), rfl, Or.inl (sg_1_8 _ (List.mem_of_getElem? (i := 2) rfl)), sg_1_8 _ (List.mem_of_getElem? (i := 3) rfl), sg_1_8 _ (List.mem_of_getElem? (i := 4) rfl)⟩
theorem iv_C_68 : ev_Iv "ThreeLinkPair$Changeover" 68 9 mm_AL_add1 := ⟨("java/util/ArrayList", nm_T9, 3), rfl, Or.inl (sg_1_8 _ (List.mem_of_getElem? (i := 7) rfl)), sg_1_8 _ (List.mem_of_getElem? (i := 8) rfl), sg_1_8 _ (List.mem_of_getElem? (i := 9) rfl)⟩
theorem iv_AL_131 : ev_Iv "java/util/ArrayList" 131 9 mm_AL_add3 := ⟨("java/util/ArrayList", nm_T9, 3), rfl, Or.inl (sg_1_8 _ (List.mem_of_getElem? (i := 11) rfl)), sg_1_8 _ (List.mem_of_getElem? (i := 13) rfl), nm_pr 1 (by decide +kernel)⟩
theorem iv_AL_129 : ev_Iv "java/util/ArrayList" 129 9 mm_AL_grow0 := ⟨("java/util/ArrayList", nm_T9, 3), rfl, Or.inl (sg_1_8 _ (List.mem_of_getElem? (i := 15) rfl)), sg_1_9 _ (List.mem_of_getElem? (i := 1) rfl), nm_pr 2 (by decide +kernel)⟩
theorem iv_AL_69 : ev_Iv "java/util/ArrayList" 69 9 mm_AL_grow1 := ⟨("java/util/ArrayList", nm_T9, 3), rfl, Or.inl (sg_1_9 _ (List.mem_of_getElem? (i := 3) rfl)), sg_1_9 _ (List.mem_of_getElem? (i := 5) rfl), nm_pr 3 (by decide +kernel)⟩
theorem is_AL_73 : ev_Is "java/util/ArrayList" 73 mm_AS_newLength := ⟨Or.inl (sg_1_9 _ (List.mem_of_getElem? (i := 7) rfl)), sg_1_9 _ (List.mem_of_getElem? (i := 8) rfl), sg_0_1 _ (List.mem_of_getElem? (i := 4) rfl)⟩
theorem is_AS_194 : ev_Is "jdk/internal/util/ArraysSupport" 194 mm_MA_max := ⟨Or.inl (sg_1_9 _ (List.mem_of_getElem? (i := 10) rfl)), sg_1_9 _ (List.mem_of_getElem? (i := 11) rfl), sg_0_1 _ (List.mem_of_getElem? (i := 1) rfl)⟩
theorem is_AS_201 : ev_Is "jdk/internal/util/ArraysSupport" 201 mm_AS_hugeLength := ⟨Or.inl (sg_1_9 _ (List.mem_of_getElem? (i := 14) rfl)), sg_1_9 _ (List.mem_of_getElem? (i := 15) rfl), sg_0_1 _ (List.mem_of_getElem? (i := 4) rfl)⟩
theorem is_AL_66 : ev_Is "java/util/ArrayList" 66 mm_AR_copyOf2 := ⟨Or.inl (sg_1_10 _ (List.mem_of_getElem? (i := 1) rfl)), sg_1_10 _ (List.mem_of_getElem? (i := 2) rfl), sg_0_0 _ (List.mem_of_getElem? (i := 8) rfl)⟩
theorem is_AR_300 : ev_Is "java/util/Arrays" 300 mm_AR_copyOf3 := ⟨Or.inl (sg_1_11 _ (List.mem_of_getElem? (i := 5) rfl)), sg_1_11 _ (List.mem_of_getElem? (i := 6) rfl), sg_0_0 _ (List.mem_of_getElem? (i := 8) rfl)⟩
theorem is_AR_304 : ev_Is "java/util/Arrays" 304 mm_MA_min := ⟨Or.inl (sg_1_11 _ (List.mem_of_getElem? (i := 11) rfl)), sg_1_11 _ (List.mem_of_getElem? (i := 12) rfl), sg_0_1 _ (List.mem_of_getElem? (i := 1) rfl)⟩
theorem is_AL_79 : ev_Is "java/util/ArrayList" 79 mm_MA_max := ⟨Or.inl (sg_1_12 _ (List.mem_of_getElem? (i := 1) rfl)), sg_1_9 _ (List.mem_of_getElem? (i := 11) rfl), sg_0_1 _ (List.mem_of_getElem? (i := 1) rfl)⟩
theorem iv_E_77 : ev_Iv "ThreeLinkPair$End" 77 2 mm_S_clearRows := ⟨("ThreeLinkPair$Side", nm_T2, 20), rfl, Or.inl (sg_1_12 _ (List.mem_of_getElem? (i := 3) rfl)), sg_1_12 _ (List.mem_of_getElem? (i := 4) rfl), sg_1_12 _ (List.mem_of_getElem? (i := 5) rfl)⟩
theorem iv_S_92 : ev_Iv "ThreeLinkPair$Side" 92 9 mm_AL_clear := ⟨("java/util/ArrayList", nm_T9, 3), rfl, Or.inl (sg_1_12 _ (List.mem_of_getElem? (i := 7) rfl)), sg_1_12 _ (List.mem_of_getElem? (i := 8) rfl), sg_1_12 _ (List.mem_of_getElem? (i := 9) rfl)⟩
theorem iv_P_200 : ev_Iv "ThreeLinkPair" 200 1 mm_E_numberedComes := ⟨("ThreeLinkPair$End", nm_T1, 7), rfl, Or.inl (sg_1_12 _ (List.mem_of_getElem? (i := 11) rfl)), sg_1_12 _ (List.mem_of_getElem? (i := 12) rfl), sg_1_12 _ (List.mem_of_getElem? (i := 13) rfl)⟩
theorem iv_E_113 : ev_Iv "ThreeLinkPair$End" 113 2 mm_S_countGood := ⟨("ThreeLinkPair$Side", nm_T2, 20), rfl, Or.inl (sg_1_12 _ (List.mem_of_getElem? (i := 15) rfl)), sg_1_13 _ (List.mem_of_getElem? (i := 0) rfl), sg_1_13 _ (List.mem_of_getElem? (i := 1) rfl)⟩
theorem iv_E_117 : ev_Iv "ThreeLinkPair$End" 117 2 mm_S_answered := ⟨("ThreeLinkPair$Side", nm_T2, 20), rfl, Or.inl (sg_1_13 _ (List.mem_of_getElem? (i := 3) rfl)), sg_1_13 _ (List.mem_of_getElem? (i := 4) rfl), sg_1_13 _ (List.mem_of_getElem? (i := 5) rfl)⟩
theorem iv_S_99 : ev_Iv "ThreeLinkPair$Side" 99 9 mm_AL_size := ⟨("java/util/ArrayList", nm_T9, 3), rfl, Or.inl (sg_1_13 _ (List.mem_of_getElem? (i := 7) rfl)), sg_1_7 _ (List.mem_of_getElem? (i := 5) rfl), sg_1_7 _ (List.mem_of_getElem? (i := 6) rfl)⟩
theorem is_S_112 : ev_Is "ThreeLinkPair$Side" 112 mm_MA_floorMod := ⟨Or.inl (sg_1_13 _ (List.mem_of_getElem? (i := 8) rfl)), sg_1_6 _ (List.mem_of_getElem? (i := 14) rfl), sg_0_1 _ (List.mem_of_getElem? (i := 1) rfl)⟩
theorem iv_P_156 : ev_Iv "ThreeLinkPair" 156 9 mm_AL_isEmpty := ⟨("java/util/ArrayList", nm_T9, 3), rfl, Or.inl (sg_1_13 _ (List.mem_of_getElem? (i := 12) rfl)), sg_1_13 _ (List.mem_of_getElem? (i := 13) rfl), sg_1_13 _ (List.mem_of_getElem? (i := 14) rfl)⟩
theorem iv_P_165 : ev_Iv "ThreeLinkPair" 165 9 mm_AL_remove := ⟨("java/util/ArrayList", nm_T9, 3), rfl, Or.inl (sg_1_14 _ (List.mem_of_getElem? (i := 0) rfl)), sg_1_14 _ (List.mem_of_getElem? (i := 1) rfl), sg_1_14 _ (List.mem_of_getElem? (i := 2) rfl)⟩
theorem iv_AL_144 : ev_Iv "java/util/ArrayList" 144 9 mm_AL_fastRemove := ⟨("java/util/ArrayList", nm_T9, 3), rfl, Or.inl (sg_1_14 _ (List.mem_of_getElem? (i := 4) rfl)), sg_1_14 _ (List.mem_of_getElem? (i := 6) rfl), nm_pr 4 (by decide +kernel)⟩
theorem is_S_122 : ev_Is "ThreeLinkPair$Side" 122 mm_MA_min := ⟨Or.inl (sg_1_14 _ (List.mem_of_getElem? (i := 9) rfl)), sg_1_11 _ (List.mem_of_getElem? (i := 12) rfl), sg_0_1 _ (List.mem_of_getElem? (i := 1) rfl)⟩
theorem iv_E_127 : ev_Iv "ThreeLinkPair$End" 127 2 mm_S_followBackBit := ⟨("ThreeLinkPair$Side", nm_T2, 20), rfl, Or.inl (sg_1_14 _ (List.mem_of_getElem? (i := 10) rfl)), sg_1_14 _ (List.mem_of_getElem? (i := 11) rfl), sg_1_14 _ (List.mem_of_getElem? (i := 12) rfl)⟩
theorem iv_E_130 : ev_Iv "ThreeLinkPair$End" 130 2 mm_S_nextIn := ⟨("ThreeLinkPair$Side", nm_T2, 20), rfl, Or.inl (sg_1_14 _ (List.mem_of_getElem? (i := 14) rfl)), sg_1_14 _ (List.mem_of_getElem? (i := 15) rfl), sg_2_0 _ (List.mem_of_getElem? (i := 0) rfl)⟩
theorem iv_E_134 : ev_Iv "ThreeLinkPair$End" 134 1 mm_E_takeIn := ⟨("ThreeLinkPair$End", nm_T1, 7), rfl, Or.inl (sg_2_0 _ (List.mem_of_getElem? (i := 2) rfl)), sg_2_0 _ (List.mem_of_getElem? (i := 3) rfl), sg_2_0 _ (List.mem_of_getElem? (i := 4) rfl)⟩
theorem iv_E_143 : ev_Iv "ThreeLinkPair$End" 143 1 mm_E_takeOrder := ⟨("ThreeLinkPair$End", nm_T1, 7), rfl, Or.inl (sg_2_0 _ (List.mem_of_getElem? (i := 6) rfl)), sg_2_0 _ (List.mem_of_getElem? (i := 7) rfl), sg_2_0 _ (List.mem_of_getElem? (i := 8) rfl)⟩
theorem iv_E_157 : ev_Iv "ThreeLinkPair$End" 157 5 mm_Y_backFor := ⟨("ThreeLinkPair$Memory", nm_T5, 2), rfl, Or.inl (sg_2_0 _ (List.mem_of_getElem? (i := 10) rfl)), sg_2_0 _ (List.mem_of_getElem? (i := 11) rfl), sg_2_0 _ (List.mem_of_getElem? (i := 12) rfl)⟩
theorem ii_E_161 : ev_Ii "ThreeLinkPair$End" 161 mm_G_init := ⟨Or.inl (sg_2_1 _ (List.mem_of_getElem? (i := 0) rfl)), sg_2_1 _ (List.mem_of_getElem? (i := 1) rfl), rfl, rfl, rfl⟩
theorem oi_G_3 : Cond.methodLink "ThreeLinkPair$Message" 3 Lib.objectInit ∈ lw_tbl := sg_2_1 _ (List.mem_of_getElem? (i := 3) rfl)
theorem iv_E_164 : ev_Iv "ThreeLinkPair$End" 164 1 mm_E_say := ⟨("ThreeLinkPair$End", nm_T1, 7), rfl, Or.inl (sg_2_2 _ (List.mem_of_getElem? (i := 8) rfl)), sg_2_2 _ (List.mem_of_getElem? (i := 9) rfl), sg_2_2 _ (List.mem_of_getElem? (i := 10) rfl)⟩
theorem iv_E_181 : ev_Iv "ThreeLinkPair$End" 181 1 mm_E_firstServing := ⟨("ThreeLinkPair$End", nm_T1, 7), rfl, Or.inl (sg_2_2 _ (List.mem_of_getElem? (i := 12) rfl)), sg_2_2 _ (List.mem_of_getElem? (i := 13) rfl), sg_2_2 _ (List.mem_of_getElem? (i := 14) rfl)⟩
theorem iv_E_149 : ev_Iv "ThreeLinkPair$End" 149 9 mm_AL_add1 := ⟨("java/util/ArrayList", nm_T9, 3), rfl, Or.inl (sg_2_3 _ (List.mem_of_getElem? (i := 0) rfl)), sg_1_8 _ (List.mem_of_getElem? (i := 8) rfl), sg_1_8 _ (List.mem_of_getElem? (i := 9) rfl)⟩
theorem iv_E_177 : ev_Iv "ThreeLinkPair$End" 177 3 mm_C_settle := ⟨("ThreeLinkPair$Changeover", nm_T3, 10), rfl, Or.inl (sg_2_3 _ (List.mem_of_getElem? (i := 1) rfl)), sg_2_3 _ (List.mem_of_getElem? (i := 2) rfl), sg_2_3 _ (List.mem_of_getElem? (i := 3) rfl)⟩
theorem is_C_75 : ev_Is "ThreeLinkPair$Changeover" 75 mm_MA_floorMod := ⟨Or.inl (sg_2_3 _ (List.mem_of_getElem? (i := 5) rfl)), sg_1_6 _ (List.mem_of_getElem? (i := 14) rfl), sg_0_1 _ (List.mem_of_getElem? (i := 1) rfl)⟩
theorem iv_E_146 : ev_Iv "ThreeLinkPair$End" 146 1 mm_E_takeAnswer := ⟨("ThreeLinkPair$End", nm_T1, 7), rfl, Or.inl (sg_2_3 _ (List.mem_of_getElem? (i := 7) rfl)), sg_2_3 _ (List.mem_of_getElem? (i := 8) rfl), sg_2_3 _ (List.mem_of_getElem? (i := 9) rfl)⟩
theorem iv_P_204 : ev_Iv "ThreeLinkPair" 204 1 mm_E_statusComes := ⟨("ThreeLinkPair$End", nm_T1, 7), rfl, Or.inl (sg_2_3 _ (List.mem_of_getElem? (i := 11) rfl)), sg_2_3 _ (List.mem_of_getElem? (i := 12) rfl), sg_2_3 _ (List.mem_of_getElem? (i := 13) rfl)⟩
theorem iv_E_95 : ev_Iv "ThreeLinkPair$End" 95 1 mm_E_seekComes := ⟨("ThreeLinkPair$End", nm_T1, 7), rfl, Or.inl (sg_2_3 _ (List.mem_of_getElem? (i := 15) rfl)), sg_2_4 _ (List.mem_of_getElem? (i := 0) rfl), sg_2_4 _ (List.mem_of_getElem? (i := 1) rfl)⟩
theorem iv_E_101 : ev_Iv "ThreeLinkPair$End" 101 1 mm_E_proveComes := ⟨("ThreeLinkPair$End", nm_T1, 7), rfl, Or.inl (sg_2_4 _ (List.mem_of_getElem? (i := 3) rfl)), sg_2_4 _ (List.mem_of_getElem? (i := 4) rfl), sg_2_4 _ (List.mem_of_getElem? (i := 5) rfl)⟩
theorem iv_E_104 : ev_Iv "ThreeLinkPair$End" 104 1 mm_E_outComes := ⟨("ThreeLinkPair$End", nm_T1, 7), rfl, Or.inl (sg_2_4 _ (List.mem_of_getElem? (i := 7) rfl)), sg_2_4 _ (List.mem_of_getElem? (i := 8) rfl), sg_2_4 _ (List.mem_of_getElem? (i := 9) rfl)⟩
theorem iv_P_71 : ev_Iv "ThreeLinkPair" 71 1 mm_E_age := ⟨("ThreeLinkPair$End", nm_T1, 7), rfl, Or.inl (sg_2_4 _ (List.mem_of_getElem? (i := 11) rfl)), sg_2_4 _ (List.mem_of_getElem? (i := 12) rfl), sg_2_4 _ (List.mem_of_getElem? (i := 13) rfl)⟩
theorem iv_E_80 : ev_Iv "ThreeLinkPair$End" 80 2 mm_S_failsByAge := ⟨("ThreeLinkPair$Side", nm_T2, 20), rfl, Or.inl (sg_2_4 _ (List.mem_of_getElem? (i := 15) rfl)), sg_2_5 _ (List.mem_of_getElem? (i := 0) rfl), sg_2_5 _ (List.mem_of_getElem? (i := 1) rfl)⟩
theorem iv_S_85 : ev_Iv "ThreeLinkPair$Side" 85 2 mm_S_comeTo := ⟨("ThreeLinkPair$Side", nm_T2, 20), rfl, Or.inl (sg_2_5 _ (List.mem_of_getElem? (i := 3) rfl)), sg_1_6 _ (List.mem_of_getElem? (i := 6) rfl), sg_1_6 _ (List.mem_of_getElem? (i := 7) rfl)⟩
theorem iv_S_131 : ev_Iv "ThreeLinkPair$Side" 131 9 mm_AL_isEmpty := ⟨("java/util/ArrayList", nm_T9, 3), rfl, Or.inl (sg_2_5 _ (List.mem_of_getElem? (i := 4) rfl)), sg_1_13 _ (List.mem_of_getElem? (i := 13) rfl), sg_1_13 _ (List.mem_of_getElem? (i := 14) rfl)⟩
theorem iv_P_74 : ev_Iv "ThreeLinkPair" 74 1 mm_E_changeOver := ⟨("ThreeLinkPair$End", nm_T1, 7), rfl, Or.inl (sg_2_5 _ (List.mem_of_getElem? (i := 5) rfl)), sg_2_5 _ (List.mem_of_getElem? (i := 6) rfl), sg_2_5 _ (List.mem_of_getElem? (i := 7) rfl)⟩
theorem iv_E_211 : ev_Iv "ThreeLinkPair$End" 211 3 mm_C_giveUp := ⟨("ThreeLinkPair$Changeover", nm_T3, 10), rfl, Or.inl (sg_2_5 _ (List.mem_of_getElem? (i := 9) rfl)), sg_2_5 _ (List.mem_of_getElem? (i := 10) rfl), sg_2_5 _ (List.mem_of_getElem? (i := 11) rfl)⟩
theorem iv_C_85 : ev_Iv "ThreeLinkPair$Changeover" 85 6 mm_G_isOfClass := ⟨("ThreeLinkPair$Message", nm_T6, 4), rfl, Or.inl (sg_2_5 _ (List.mem_of_getElem? (i := 13) rfl)), sg_2_5 _ (List.mem_of_getElem? (i := 14) rfl), sg_2_5 _ (List.mem_of_getElem? (i := 15) rfl)⟩
theorem iv_E_214 : ev_Iv "ThreeLinkPair$End" 214 1 mm_E_someOpenBeside := ⟨("ThreeLinkPair$End", nm_T1, 7), rfl, Or.inl (sg_2_6 _ (List.mem_of_getElem? (i := 1) rfl)), sg_2_6 _ (List.mem_of_getElem? (i := 2) rfl), sg_2_6 _ (List.mem_of_getElem? (i := 3) rfl)⟩
theorem iv_E_188 : ev_Iv "ThreeLinkPair$End" 188 1 mm_E_isOpen := ⟨("ThreeLinkPair$End", nm_T1, 7), rfl, Or.inl (sg_2_6 _ (List.mem_of_getElem? (i := 5) rfl)), sg_2_6 _ (List.mem_of_getElem? (i := 6) rfl), sg_2_6 _ (List.mem_of_getElem? (i := 7) rfl)⟩
theorem iv_E_217 : ev_Iv "ThreeLinkPair$End" 217 1 mm_E_finish := ⟨("ThreeLinkPair$End", nm_T1, 7), rfl, Or.inl (sg_2_6 _ (List.mem_of_getElem? (i := 9) rfl)), sg_2_6 _ (List.mem_of_getElem? (i := 10) rfl), sg_2_6 _ (List.mem_of_getElem? (i := 11) rfl)⟩
theorem iv_E_201 : ev_Iv "ThreeLinkPair$End" 201 9 mm_AL_size := ⟨("java/util/ArrayList", nm_T9, 3), rfl, Or.inl (sg_2_6 _ (List.mem_of_getElem? (i := 14) rfl)), sg_1_7 _ (List.mem_of_getElem? (i := 5) rfl), sg_1_7 _ (List.mem_of_getElem? (i := 6) rfl)⟩
theorem iv_E_229 : ev_Iv "ThreeLinkPair$End" 229 9 mm_AL_get := ⟨("java/util/ArrayList", nm_T9, 3), rfl, Or.inl (sg_2_6 _ (List.mem_of_getElem? (i := 15) rfl)), sg_1_7 _ (List.mem_of_getElem? (i := 9) rfl), sg_1_7 _ (List.mem_of_getElem? (i := 10) rfl)⟩
theorem iv_E_233 : ev_Iv "ThreeLinkPair$End" 233 1 mm_E_passOn := ⟨("ThreeLinkPair$End", nm_T1, 7), rfl, Or.inl (sg_2_7 _ (List.mem_of_getElem? (i := 0) rfl)), sg_2_7 _ (List.mem_of_getElem? (i := 1) rfl), sg_2_7 _ (List.mem_of_getElem? (i := 2) rfl)⟩
theorem iv_E_245 : ev_Iv "ThreeLinkPair$End" 245 6 mm_G_isOfClass := ⟨("ThreeLinkPair$Message", nm_T6, 4), rfl, Or.inl (sg_2_7 _ (List.mem_of_getElem? (i := 4) rfl)), sg_2_5 _ (List.mem_of_getElem? (i := 14) rfl), sg_2_5 _ (List.mem_of_getElem? (i := 15) rfl)⟩
theorem iv_E_239 : ev_Iv "ThreeLinkPair$End" 239 1 mm_E_moveClass := ⟨("ThreeLinkPair$End", nm_T1, 7), rfl, Or.inl (sg_2_7 _ (List.mem_of_getElem? (i := 5) rfl)), sg_2_7 _ (List.mem_of_getElem? (i := 6) rfl), sg_2_7 _ (List.mem_of_getElem? (i := 7) rfl)⟩
theorem iv_E_198 : ev_Iv "ThreeLinkPair$End" 198 1 mm_E_choose := ⟨("ThreeLinkPair$End", nm_T1, 7), rfl, Or.inl (sg_2_7 _ (List.mem_of_getElem? (i := 9) rfl)), sg_2_7 _ (List.mem_of_getElem? (i := 10) rfl), sg_2_7 _ (List.mem_of_getElem? (i := 11) rfl)⟩
theorem iv_E_236 : ev_Iv "ThreeLinkPair$End" 236 9 mm_AL_clear := ⟨("java/util/ArrayList", nm_T9, 3), rfl, Or.inl (sg_2_7 _ (List.mem_of_getElem? (i := 13) rfl)), sg_1_12 _ (List.mem_of_getElem? (i := 8) rfl), sg_1_12 _ (List.mem_of_getElem? (i := 9) rfl)⟩
theorem iv_E_242 : ev_Iv "ThreeLinkPair$End" 242 1 mm_E_letGoHeld := ⟨("ThreeLinkPair$End", nm_T1, 7), rfl, Or.inl (sg_2_7 _ (List.mem_of_getElem? (i := 14) rfl)), sg_2_7 _ (List.mem_of_getElem? (i := 15) rfl), sg_2_8 _ (List.mem_of_getElem? (i := 0) rfl)⟩
theorem iv_E_248 : ev_Iv "ThreeLinkPair$End" 248 9 mm_AL_remove := ⟨("java/util/ArrayList", nm_T9, 3), rfl, Or.inl (sg_2_8 _ (List.mem_of_getElem? (i := 2) rfl)), sg_1_14 _ (List.mem_of_getElem? (i := 1) rfl), sg_1_14 _ (List.mem_of_getElem? (i := 2) rfl)⟩
theorem iv_P_77 : ev_Iv "ThreeLinkPair" 77 2 mm_S_send := ⟨("ThreeLinkPair$Side", nm_T2, 20), rfl, Or.inl (sg_2_8 _ (List.mem_of_getElem? (i := 3) rfl)), sg_2_8 _ (List.mem_of_getElem? (i := 4) rfl), sg_2_8 _ (List.mem_of_getElem? (i := 5) rfl)⟩
theorem iv_S_139 : ev_Iv "ThreeLinkPair$Side" 139 2 mm_S_sendNumbered := ⟨("ThreeLinkPair$Side", nm_T2, 20), rfl, Or.inl (sg_2_8 _ (List.mem_of_getElem? (i := 7) rfl)), sg_2_8 _ (List.mem_of_getElem? (i := 8) rfl), sg_2_8 _ (List.mem_of_getElem? (i := 9) rfl)⟩
theorem iv_S_103 : ev_Iv "ThreeLinkPair$Side" 103 9 mm_AL_get := ⟨("java/util/ArrayList", nm_T9, 3), rfl, Or.inl (sg_2_8 _ (List.mem_of_getElem? (i := 11) rfl)), sg_1_7 _ (List.mem_of_getElem? (i := 9) rfl), sg_1_7 _ (List.mem_of_getElem? (i := 10) rfl)⟩
theorem iv_S_142 : ev_Iv "ThreeLinkPair$Side" 142 9 mm_AL_remove := ⟨("java/util/ArrayList", nm_T9, 3), rfl, Or.inl (sg_2_8 _ (List.mem_of_getElem? (i := 13) rfl)), sg_1_14 _ (List.mem_of_getElem? (i := 1) rfl), sg_1_14 _ (List.mem_of_getElem? (i := 2) rfl)⟩
theorem iv_S_145 : ev_Iv "ThreeLinkPair$Side" 145 9 mm_AL_add1 := ⟨("java/util/ArrayList", nm_T9, 3), rfl, Or.inl (sg_2_8 _ (List.mem_of_getElem? (i := 14) rfl)), sg_1_8 _ (List.mem_of_getElem? (i := 8) rfl), sg_1_8 _ (List.mem_of_getElem? (i := 9) rfl)⟩
theorem iv_W_106 : ev_Iv "ThreeLinkPairLaw" 106 0 mm_P_lost := ⟨("ThreeLinkPair", nm_T0, 2), rfl, Or.inl (sg_2_8 _ (List.mem_of_getElem? (i := 15) rfl)), sg_2_9 _ (List.mem_of_getElem? (i := 0) rfl), sg_2_9 _ (List.mem_of_getElem? (i := 1) rfl)⟩
theorem is_W_59 : ev_Is "ThreeLinkPairLaw" 59 mm_W_start := ⟨Or.inl (sg_2_9 _ (List.mem_of_getElem? (i := 3) rfl)), sg_2_9 _ (List.mem_of_getElem? (i := 4) rfl), sg_0_0 _ (List.mem_of_getElem? (i := 0) rfl)⟩
theorem iv_W_7 : ev_Iv "ThreeLinkPairLaw" 7 0 mm_P_start := ⟨("ThreeLinkPair", nm_T0, 2), rfl, Or.inl (sg_2_9 _ (List.mem_of_getElem? (i := 7) rfl)), sg_2_9 _ (List.mem_of_getElem? (i := 8) rfl), sg_2_9 _ (List.mem_of_getElem? (i := 9) rfl)⟩
theorem is_P_23 : ev_Is "ThreeLinkPair" 23 mm_P_checkSide := ⟨Or.inl (sg_2_9 _ (List.mem_of_getElem? (i := 11) rfl)), sg_2_9 _ (List.mem_of_getElem? (i := 12) rfl), sg_0_0 _ (List.mem_of_getElem? (i := 1) rfl)⟩
theorem is_P_147 : ev_Is "ThreeLinkPair" 147 mm_P_checkEnd := ⟨Or.inl (sg_2_9 _ (List.mem_of_getElem? (i := 14) rfl)), sg_2_9 _ (List.mem_of_getElem? (i := 15) rfl), sg_0_0 _ (List.mem_of_getElem? (i := 1) rfl)⟩
theorem oi_TH_1 : Cond.methodLink "java/lang/Throwable" 1 Lib.objectInit ∈ lw_tbl := sg_2_11 _ (List.mem_of_getElem? (i := 10) rfl)
theorem ii_P_129 : ev_Ii "ThreeLinkPair" 129 mm_IO_init := ⟨Or.inl (sg_2_12 _ (List.mem_of_getElem? (i := 11) rfl)), sg_2_12 _ (List.mem_of_getElem? (i := 12) rfl), rfl, rfl, rfl⟩
theorem ii_IO_7 : ev_Ii "java/lang/IndexOutOfBoundsException" 7 mm_RT_init := ⟨Or.inl (sg_2_12 _ (List.mem_of_getElem? (i := 14) rfl)), sg_2_12 _ (List.mem_of_getElem? (i := 15) rfl), rfl, rfl, rfl⟩
theorem ii_RT_7 : ev_Ii "java/lang/RuntimeException" 7 mm_EX_init := ⟨Or.inl (sg_2_13 _ (List.mem_of_getElem? (i := 1) rfl)), sg_2_13 _ (List.mem_of_getElem? (i := 2) rfl), rfl, rfl, rfl⟩
theorem ii_EX_7 : ev_Ii "java/lang/Exception" 7 mm_TH_init1 := ⟨Or.inl (sg_2_13 _ (List.mem_of_getElem? (i := 4) rfl)), sg_2_13 _ (List.mem_of_getElem? (i := 5) rfl), rfl, rfl, rfl⟩
theorem iv_P_37 : ev_Iv "ThreeLinkPair" 37 2 mm_S_begin := ⟨("ThreeLinkPair$Side", nm_T2, 20), rfl, Or.inl (sg_2_14 _ (List.mem_of_getElem? (i := 6) rfl)), sg_2_14 _ (List.mem_of_getElem? (i := 7) rfl), sg_2_14 _ (List.mem_of_getElem? (i := 8) rfl)⟩
theorem iv_S_89 : ev_Iv "ThreeLinkPair$Side" 89 2 mm_S_clearRows := ⟨("ThreeLinkPair$Side", nm_T2, 20), rfl, Or.inl (sg_2_14 _ (List.mem_of_getElem? (i := 10) rfl)), sg_1_12 _ (List.mem_of_getElem? (i := 4) rfl), sg_1_12 _ (List.mem_of_getElem? (i := 5) rfl)⟩
theorem is_W_69 : ev_Is "ThreeLinkPairLaw" 69 mm_W_stop := ⟨Or.inl (sg_2_14 _ (List.mem_of_getElem? (i := 11) rfl)), sg_2_14 _ (List.mem_of_getElem? (i := 12) rfl), sg_0_0 _ (List.mem_of_getElem? (i := 0) rfl)⟩
theorem iv_W_15 : ev_Iv "ThreeLinkPairLaw" 15 0 mm_P_stop := ⟨("ThreeLinkPair", nm_T0, 2), rfl, Or.inl (sg_2_14 _ (List.mem_of_getElem? (i := 14) rfl)), sg_2_14 _ (List.mem_of_getElem? (i := 15) rfl), sg_3_0 _ (List.mem_of_getElem? (i := 0) rfl)⟩
theorem iv_P_40 : ev_Iv "ThreeLinkPair" 40 1 mm_E_fall := ⟨("ThreeLinkPair$End", nm_T1, 7), rfl, Or.inl (sg_3_0 _ (List.mem_of_getElem? (i := 2) rfl)), sg_1_6 _ (List.mem_of_getElem? (i := 2) rfl), sg_1_6 _ (List.mem_of_getElem? (i := 3) rfl)⟩
theorem is_W_72 : ev_Is "ThreeLinkPairLaw" 72 mm_W_fault := ⟨Or.inl (sg_3_0 _ (List.mem_of_getElem? (i := 3) rfl)), sg_3_0 _ (List.mem_of_getElem? (i := 4) rfl), sg_0_0 _ (List.mem_of_getElem? (i := 0) rfl)⟩
theorem iv_W_18 : ev_Iv "ThreeLinkPairLaw" 18 0 mm_P_fault := ⟨("ThreeLinkPair", nm_T0, 2), rfl, Or.inl (sg_3_0 _ (List.mem_of_getElem? (i := 7) rfl)), sg_3_0 _ (List.mem_of_getElem? (i := 8) rfl), sg_3_0 _ (List.mem_of_getElem? (i := 9) rfl)⟩
theorem ii_P_48 : ev_Ii "ThreeLinkPair" 48 mm_IA_init := ⟨Or.inl (sg_3_1 _ (List.mem_of_getElem? (i := 5) rfl)), sg_3_1 _ (List.mem_of_getElem? (i := 6) rfl), rfl, rfl, rfl⟩
theorem ii_IA_7 : ev_Ii "java/lang/IllegalArgumentException" 7 mm_RT_init := ⟨Or.inl (sg_3_1 _ (List.mem_of_getElem? (i := 8) rfl)), sg_2_12 _ (List.mem_of_getElem? (i := 15) rfl), rfl, rfl, rfl⟩
theorem is_W_76 : ev_Is "ThreeLinkPairLaw" 76 mm_W_submit := ⟨Or.inl (sg_3_1 _ (List.mem_of_getElem? (i := 11) rfl)), sg_3_1 _ (List.mem_of_getElem? (i := 12) rfl), sg_0_0 _ (List.mem_of_getElem? (i := 0) rfl)⟩
theorem iv_W_24 : ev_Iv "ThreeLinkPairLaw" 24 0 mm_P_submit := ⟨("ThreeLinkPair", nm_T0, 2), rfl, Or.inl (sg_3_1 _ (List.mem_of_getElem? (i := 14) rfl)), sg_3_1 _ (List.mem_of_getElem? (i := 15) rfl), sg_3_2 _ (List.mem_of_getElem? (i := 0) rfl)⟩
theorem is_P_61 : ev_Is "ThreeLinkPair" 61 mm_P_checkClass := ⟨Or.inl (sg_3_2 _ (List.mem_of_getElem? (i := 2) rfl)), sg_3_2 _ (List.mem_of_getElem? (i := 3) rfl), sg_0_0 _ (List.mem_of_getElem? (i := 1) rfl)⟩
theorem iv_P_64 : ev_Iv "ThreeLinkPair" 64 1 mm_E_accept := ⟨("ThreeLinkPair$End", nm_T1, 7), rfl, Or.inl (sg_3_2 _ (List.mem_of_getElem? (i := 6) rfl)), sg_3_2 _ (List.mem_of_getElem? (i := 7) rfl), sg_3_2 _ (List.mem_of_getElem? (i := 8) rfl)⟩
theorem is_E_191 : ev_Is "ThreeLinkPair$End" 191 mm_E_addBelow := ⟨Or.inl (sg_3_2 _ (List.mem_of_getElem? (i := 10) rfl)), sg_3_2 _ (List.mem_of_getElem? (i := 11) rfl), sg_0_0 _ (List.mem_of_getElem? (i := 2) rfl)⟩
theorem iv_E_195 : ev_Iv "ThreeLinkPair$End" 195 2 mm_S_carries := ⟨("ThreeLinkPair$Side", nm_T2, 20), rfl, Or.inl (sg_3_2 _ (List.mem_of_getElem? (i := 13) rfl)), sg_3_2 _ (List.mem_of_getElem? (i := 14) rfl), sg_3_2 _ (List.mem_of_getElem? (i := 15) rfl)⟩
theorem is_S_95 : ev_Is "ThreeLinkPair$Side" 95 mm_S_holds := ⟨Or.inl (sg_3_3 _ (List.mem_of_getElem? (i := 1) rfl)), sg_3_3 _ (List.mem_of_getElem? (i := 2) rfl), sg_0_0 _ (List.mem_of_getElem? (i := 3) rfl)⟩
theorem is_W_84 : ev_Is "ThreeLinkPairLaw" 84 mm_W_state := ⟨Or.inl (sg_3_3 _ (List.mem_of_getElem? (i := 4) rfl)), sg_3_3 _ (List.mem_of_getElem? (i := 5) rfl), sg_0_0 _ (List.mem_of_getElem? (i := 0) rfl)⟩
theorem iv_W_28 : ev_Iv "ThreeLinkPairLaw" 28 0 mm_P_state := ⟨("ThreeLinkPair", nm_T0, 2), rfl, Or.inl (sg_3_3 _ (List.mem_of_getElem? (i := 7) rfl)), sg_3_3 _ (List.mem_of_getElem? (i := 8) rfl), sg_3_3 _ (List.mem_of_getElem? (i := 9) rfl)⟩
theorem is_W_87 : ev_Is "ThreeLinkPairLaw" 87 mm_W_of := ⟨Or.inl (sg_3_3 _ (List.mem_of_getElem? (i := 11) rfl)), sg_3_3 _ (List.mem_of_getElem? (i := 12) rfl), sg_0_0 _ (List.mem_of_getElem? (i := 0) rfl)⟩
theorem iv_W_32 : ev_Iv "ThreeLinkPairLaw" 32 0 mm_P_of := ⟨("ThreeLinkPair", nm_T0, 2), rfl, Or.inl (sg_3_3 _ (List.mem_of_getElem? (i := 14) rfl)), sg_3_3 _ (List.mem_of_getElem? (i := 15) rfl), sg_3_4 _ (List.mem_of_getElem? (i := 0) rfl)⟩
theorem iv_P_110 : ev_Iv "ThreeLinkPair" 110 9 mm_AL_size := ⟨("java/util/ArrayList", nm_T9, 3), rfl, Or.inl (sg_3_4 _ (List.mem_of_getElem? (i := 2) rfl)), sg_1_7 _ (List.mem_of_getElem? (i := 5) rfl), sg_1_7 _ (List.mem_of_getElem? (i := 6) rfl)⟩
theorem is_W_90 : ev_Is "ThreeLinkPairLaw" 90 mm_W_link := ⟨Or.inl (sg_3_4 _ (List.mem_of_getElem? (i := 4) rfl)), sg_3_4 _ (List.mem_of_getElem? (i := 5) rfl), sg_0_0 _ (List.mem_of_getElem? (i := 0) rfl)⟩
theorem iv_W_36 : ev_Iv "ThreeLinkPairLaw" 36 0 mm_P_link := ⟨("ThreeLinkPair", nm_T0, 2), rfl, Or.inl (sg_3_4 _ (List.mem_of_getElem? (i := 7) rfl)), sg_3_4 _ (List.mem_of_getElem? (i := 8) rfl), sg_3_4 _ (List.mem_of_getElem? (i := 9) rfl)⟩
theorem is_W_93 : ev_Is "ThreeLinkPairLaw" 93 mm_W_changes := ⟨Or.inl (sg_3_4 _ (List.mem_of_getElem? (i := 11) rfl)), sg_3_4 _ (List.mem_of_getElem? (i := 12) rfl), sg_0_0 _ (List.mem_of_getElem? (i := 0) rfl)⟩
theorem iv_W_39 : ev_Iv "ThreeLinkPairLaw" 39 0 mm_P_changes := ⟨("ThreeLinkPair", nm_T0, 2), rfl, Or.inl (sg_3_4 _ (List.mem_of_getElem? (i := 14) rfl)), sg_3_4 _ (List.mem_of_getElem? (i := 15) rfl), sg_3_5 _ (List.mem_of_getElem? (i := 0) rfl)⟩
theorem is_W_96 : ev_Is "ThreeLinkPairLaw" 96 mm_W_held := ⟨Or.inl (sg_3_5 _ (List.mem_of_getElem? (i := 2) rfl)), sg_3_5 _ (List.mem_of_getElem? (i := 3) rfl), sg_0_0 _ (List.mem_of_getElem? (i := 0) rfl)⟩
theorem iv_W_42 : ev_Iv "ThreeLinkPairLaw" 42 0 mm_P_held := ⟨("ThreeLinkPair", nm_T0, 2), rfl, Or.inl (sg_3_5 _ (List.mem_of_getElem? (i := 5) rfl)), sg_3_5 _ (List.mem_of_getElem? (i := 6) rfl), sg_3_5 _ (List.mem_of_getElem? (i := 7) rfl)⟩
theorem is_W_100 : ev_Is "ThreeLinkPairLaw" 100 mm_W_inbox := ⟨Or.inl (sg_3_5 _ (List.mem_of_getElem? (i := 9) rfl)), sg_3_5 _ (List.mem_of_getElem? (i := 10) rfl), sg_0_0 _ (List.mem_of_getElem? (i := 0) rfl)⟩
theorem iv_W_46 : ev_Iv "ThreeLinkPairLaw" 46 0 mm_P_inbox := ⟨("ThreeLinkPair", nm_T0, 2), rfl, Or.inl (sg_3_5 _ (List.mem_of_getElem? (i := 12) rfl)), sg_3_5 _ (List.mem_of_getElem? (i := 13) rfl), sg_3_5 _ (List.mem_of_getElem? (i := 14) rfl)⟩
theorem is_W_103 : ev_Is "ThreeLinkPairLaw" 103 mm_W_take := ⟨Or.inl (sg_3_6 _ (List.mem_of_getElem? (i := 0) rfl)), sg_3_6 _ (List.mem_of_getElem? (i := 1) rfl), sg_0_0 _ (List.mem_of_getElem? (i := 0) rfl)⟩
theorem iv_W_49 : ev_Iv "ThreeLinkPairLaw" 49 0 mm_P_take := ⟨("ThreeLinkPair", nm_T0, 2), rfl, Or.inl (sg_3_6 _ (List.mem_of_getElem? (i := 4) rfl)), sg_3_6 _ (List.mem_of_getElem? (i := 5) rfl), sg_3_6 _ (List.mem_of_getElem? (i := 6) rfl)⟩
theorem ii_P_164 : ev_Ii "ThreeLinkPair" 164 mm_NS_init := ⟨Or.inl (sg_3_7 _ (List.mem_of_getElem? (i := 2) rfl)), sg_3_7 _ (List.mem_of_getElem? (i := 3) rfl), rfl, rfl, rfl⟩
theorem ii_NS_13 : ev_Ii "java/util/NoSuchElementException" 13 mm_RT_init := ⟨Or.inl (sg_3_7 _ (List.mem_of_getElem? (i := 5) rfl)), sg_2_12 _ (List.mem_of_getElem? (i := 15) rfl), rfl, rfl, rfl⟩
theorem ii_W_58 : ev_Ii "ThreeLinkPairLaw" 58 mm_D_init := ⟨Or.inl (sg_3_7 _ (List.mem_of_getElem? (i := 12) rfl)), sg_3_7 _ (List.mem_of_getElem? (i := 13) rfl), rfl, rfl, rfl⟩
theorem oi_D_1 : Cond.methodLink "ThreeLinkPairModel" 1 Lib.objectInit ∈ lw_tbl := sg_3_7 _ (List.mem_of_getElem? (i := 15) rfl)
theorem iv_D_153 : ev_Iv "ThreeLinkPairModel" 153 8 mm_D_begin := ⟨("ThreeLinkPairModel", nm_T8, 51), rfl, Or.inl (sg_3_8 _ (List.mem_of_getElem? (i := 0) rfl)), sg_3_8 _ (List.mem_of_getElem? (i := 2) rfl), nm_pr 6 (by decide +kernel)⟩
theorem iv_D_170 : ev_Iv "ThreeLinkPairModel" 170 8 mm_D_empty := ⟨("ThreeLinkPairModel", nm_T8, 51), rfl, Or.inl (sg_3_8 _ (List.mem_of_getElem? (i := 4) rfl)), sg_3_8 _ (List.mem_of_getElem? (i := 6) rfl), nm_pr 7 (by decide +kernel)⟩
theorem iv_D_163 : ev_Iv "ThreeLinkPairModel" 163 8 mm_D_shift := ⟨("ThreeLinkPairModel", nm_T8, 51), rfl, Or.inl (sg_3_8 _ (List.mem_of_getElem? (i := 8) rfl)), sg_3_8 _ (List.mem_of_getElem? (i := 10) rfl), nm_pr 8 (by decide +kernel)⟩
theorem iv_D_167 : ev_Iv "ThreeLinkPairModel" 167 8 mm_D_give := ⟨("ThreeLinkPairModel", nm_T8, 51), rfl, Or.inl (sg_3_8 _ (List.mem_of_getElem? (i := 12) rfl)), sg_3_8 _ (List.mem_of_getElem? (i := 14) rfl), nm_pr 9 (by decide +kernel)⟩
theorem iv_W_65 : ev_Iv "ThreeLinkPairLaw" 65 8 mm_D_thrown := ⟨("ThreeLinkPairModel", nm_T8, 51), rfl, Or.inl (sg_4_3 _ (List.mem_of_getElem? (i := 11) rfl)), sg_4_3 _ (List.mem_of_getElem? (i := 12) rfl), sg_4_3 _ (List.mem_of_getElem? (i := 13) rfl)⟩
theorem iv_W_64 : ev_Iv "ThreeLinkPairLaw" 64 8 mm_D_start := ⟨("ThreeLinkPairModel", nm_T8, 51), rfl, Or.inl (sg_4_3 _ (List.mem_of_getElem? (i := 15) rfl)), sg_4_4 _ (List.mem_of_getElem? (i := 0) rfl), sg_4_4 _ (List.mem_of_getElem? (i := 1) rfl)⟩
theorem is_D_173 : ev_Is "ThreeLinkPairModel" 173 mm_D_isSide := ⟨Or.inl (sg_4_4 _ (List.mem_of_getElem? (i := 3) rfl)), sg_4_4 _ (List.mem_of_getElem? (i := 4) rfl), sg_0_0 _ (List.mem_of_getElem? (i := 12) rfl)⟩
theorem iv_D_177 : ev_Iv "ThreeLinkPairModel" 177 8 mm_D_missing := ⟨("ThreeLinkPairModel", nm_T8, 51), rfl, Or.inl (sg_4_4 _ (List.mem_of_getElem? (i := 6) rfl)), sg_4_4 _ (List.mem_of_getElem? (i := 8) rfl), nm_pr 10 (by decide +kernel)⟩
theorem iv_D_181 : ev_Iv "ThreeLinkPairModel" 181 8 mm_D_come := ⟨("ThreeLinkPairModel", nm_T8, 51), rfl, Or.inl (sg_4_4 _ (List.mem_of_getElem? (i := 10) rfl)), sg_4_4 _ (List.mem_of_getElem? (i := 12) rfl), nm_pr 11 (by decide +kernel)⟩
theorem iv_W_71 : ev_Iv "ThreeLinkPairLaw" 71 8 mm_D_stop := ⟨("ThreeLinkPairModel", nm_T8, 51), rfl, Or.inl (sg_4_4 _ (List.mem_of_getElem? (i := 14) rfl)), sg_4_4 _ (List.mem_of_getElem? (i := 15) rfl), sg_4_5 _ (List.mem_of_getElem? (i := 0) rfl)⟩
theorem iv_D_188 : ev_Iv "ThreeLinkPairModel" 188 8 mm_D_fall := ⟨("ThreeLinkPairModel", nm_T8, 51), rfl, Or.inl (sg_4_5 _ (List.mem_of_getElem? (i := 2) rfl)), sg_4_5 _ (List.mem_of_getElem? (i := 4) rfl), nm_pr 12 (by decide +kernel)⟩
theorem iv_D_185 : ev_Iv "ThreeLinkPairModel" 185 8 mm_D_change := ⟨("ThreeLinkPairModel", nm_T8, 51), rfl, Or.inl (sg_4_5 _ (List.mem_of_getElem? (i := 6) rfl)), sg_4_5 _ (List.mem_of_getElem? (i := 8) rfl), nm_pr 13 (by decide +kernel)⟩
theorem iv_D_191 : ev_Iv "ThreeLinkPairModel" 191 8 mm_D_put := ⟨("ThreeLinkPairModel", nm_T8, 51), rfl, Or.inl (sg_4_5 _ (List.mem_of_getElem? (i := 10) rfl)), sg_4_5 _ (List.mem_of_getElem? (i := 12) rfl), nm_pr 14 (by decide +kernel)⟩
theorem iv_W_75 : ev_Iv "ThreeLinkPairLaw" 75 8 mm_D_fault := ⟨("ThreeLinkPairModel", nm_T8, 51), rfl, Or.inl (sg_4_5 _ (List.mem_of_getElem? (i := 14) rfl)), sg_4_5 _ (List.mem_of_getElem? (i := 15) rfl), sg_4_6 _ (List.mem_of_getElem? (i := 0) rfl)⟩
theorem iv_W_83 : ev_Iv "ThreeLinkPairLaw" 83 8 mm_D_tick := ⟨("ThreeLinkPairModel", nm_T8, 51), rfl, Or.inl (sg_4_6 _ (List.mem_of_getElem? (i := 2) rfl)), sg_4_6 _ (List.mem_of_getElem? (i := 3) rfl), sg_4_6 _ (List.mem_of_getElem? (i := 4) rfl)⟩
theorem iv_D_249 : ev_Iv "ThreeLinkPairModel" 249 8 mm_D_deliver := ⟨("ThreeLinkPairModel", nm_T8, 51), rfl, Or.inl (sg_4_6 _ (List.mem_of_getElem? (i := 6) rfl)), sg_4_6 _ (List.mem_of_getElem? (i := 8) rfl), nm_pr 15 (by decide +kernel)⟩
theorem iv_D_230 : ev_Iv "ThreeLinkPairModel" 230 8 mm_D_damaged := ⟨("ThreeLinkPairModel", nm_T8, 51), rfl, Or.inl (sg_4_6 _ (List.mem_of_getElem? (i := 10) rfl)), sg_4_6 _ (List.mem_of_getElem? (i := 12) rfl), nm_pr 16 (by decide +kernel)⟩
theorem iv_D_236 : ev_Iv "ThreeLinkPairModel" 236 8 mm_D_status := ⟨("ThreeLinkPairModel", nm_T8, 51), rfl, Or.inl (sg_4_6 _ (List.mem_of_getElem? (i := 14) rfl)), sg_4_7 _ (List.mem_of_getElem? (i := 0) rfl), nm_pr 17 (by decide +kernel)⟩
theorem iv_D_239 : ev_Iv "ThreeLinkPairModel" 239 8 mm_D_served := ⟨("ThreeLinkPairModel", nm_T8, 51), rfl, Or.inl (sg_4_7 _ (List.mem_of_getElem? (i := 2) rfl)), sg_4_7 _ (List.mem_of_getElem? (i := 4) rfl), nm_pr 18 (by decide +kernel)⟩
theorem iv_D_227 : ev_Iv "ThreeLinkPairModel" 227 8 mm_D_isTaken := ⟨("ThreeLinkPairModel", nm_T8, 51), rfl, Or.inl (sg_4_7 _ (List.mem_of_getElem? (i := 6) rfl)), sg_4_7 _ (List.mem_of_getElem? (i := 8) rfl), nm_pr 19 (by decide +kernel)⟩
theorem iv_D_223 : ev_Iv "ThreeLinkPairModel" 223 8 mm_D_takeOrder := ⟨("ThreeLinkPairModel", nm_T8, 51), rfl, Or.inl (sg_4_7 _ (List.mem_of_getElem? (i := 10) rfl)), sg_4_7 _ (List.mem_of_getElem? (i := 12) rfl), nm_pr 20 (by decide +kernel)⟩
theorem iv_D_210 : ev_Iv "ThreeLinkPairModel" 210 8 mm_D_message := ⟨("ThreeLinkPairModel", nm_T8, 51), rfl, Or.inl (sg_4_7 _ (List.mem_of_getElem? (i := 14) rfl)), sg_4_8 _ (List.mem_of_getElem? (i := 0) rfl), nm_pr 21 (by decide +kernel)⟩
theorem iv_D_203 : ev_Iv "ThreeLinkPairModel" 203 8 mm_D_say := ⟨("ThreeLinkPairModel", nm_T8, 51), rfl, Or.inl (sg_4_8 _ (List.mem_of_getElem? (i := 2) rfl)), sg_4_8 _ (List.mem_of_getElem? (i := 4) rfl), nm_pr 22 (by decide +kernel)⟩
theorem iv_D_197 : ev_Iv "ThreeLinkPairModel" 197 8 mm_D_serving := ⟨("ThreeLinkPairModel", nm_T8, 51), rfl, Or.inl (sg_4_8 _ (List.mem_of_getElem? (i := 6) rfl)), sg_4_8 _ (List.mem_of_getElem? (i := 8) rfl), nm_pr 23 (by decide +kernel)⟩
theorem iv_D_220 : ev_Iv "ThreeLinkPairModel" 220 8 mm_D_settle := ⟨("ThreeLinkPairModel", nm_T8, 51), rfl, Or.inl (sg_4_8 _ (List.mem_of_getElem? (i := 10) rfl)), sg_4_8 _ (List.mem_of_getElem? (i := 12) rfl), nm_pr 24 (by decide +kernel)⟩
theorem iv_D_252 : ev_Iv "ThreeLinkPairModel" 252 8 mm_D_age := ⟨("ThreeLinkPairModel", nm_T8, 51), rfl, Or.inl (sg_4_8 _ (List.mem_of_getElem? (i := 14) rfl)), sg_4_9 _ (List.mem_of_getElem? (i := 0) rfl), nm_pr 25 (by decide +kernel)⟩
theorem iv_D_255 : ev_Iv "ThreeLinkPairModel" 255 8 mm_D_tickChange := ⟨("ThreeLinkPairModel", nm_T8, 51), rfl, Or.inl (sg_4_9 _ (List.mem_of_getElem? (i := 2) rfl)), sg_4_9 _ (List.mem_of_getElem? (i := 4) rfl), nm_pr 26 (by decide +kernel)⟩
theorem iv_D_214 : ev_Iv "ThreeLinkPairModel" 214 8 mm_D_giveUp := ⟨("ThreeLinkPairModel", nm_T8, 51), rfl, Or.inl (sg_4_9 _ (List.mem_of_getElem? (i := 6) rfl)), sg_4_9 _ (List.mem_of_getElem? (i := 8) rfl), nm_pr 27 (by decide +kernel)⟩
theorem iv_D_206 : ev_Iv "ThreeLinkPairModel" 206 8 mm_D_chosen := ⟨("ThreeLinkPairModel", nm_T8, 51), rfl, Or.inl (sg_4_9 _ (List.mem_of_getElem? (i := 10) rfl)), sg_4_9 _ (List.mem_of_getElem? (i := 12) rfl), nm_pr 28 (by decide +kernel)⟩
theorem iv_D_194 : ev_Iv "ThreeLinkPairModel" 194 8 mm_D_isOpen := ⟨("ThreeLinkPairModel", nm_T8, 51), rfl, Or.inl (sg_4_9 _ (List.mem_of_getElem? (i := 14) rfl)), sg_4_10 _ (List.mem_of_getElem? (i := 0) rfl), nm_pr 29 (by decide +kernel)⟩
theorem iv_D_217 : ev_Iv "ThreeLinkPairModel" 217 8 mm_D_end := ⟨("ThreeLinkPairModel", nm_T8, 51), rfl, Or.inl (sg_4_10 _ (List.mem_of_getElem? (i := 2) rfl)), sg_4_10 _ (List.mem_of_getElem? (i := 4) rfl), nm_pr 30 (by decide +kernel)⟩
theorem iv_D_258 : ev_Iv "ThreeLinkPairModel" 258 8 mm_D_send := ⟨("ThreeLinkPairModel", nm_T8, 51), rfl, Or.inl (sg_4_10 _ (List.mem_of_getElem? (i := 6) rfl)), sg_4_10 _ (List.mem_of_getElem? (i := 8) rfl), nm_pr 31 (by decide +kernel)⟩
theorem iv_D_242 : ev_Iv "ThreeLinkPairModel" 242 8 mm_D_at := ⟨("ThreeLinkPairModel", nm_T8, 51), rfl, Or.inl (sg_4_10 _ (List.mem_of_getElem? (i := 10) rfl)), sg_4_10 _ (List.mem_of_getElem? (i := 12) rfl), nm_pr 32 (by decide +kernel)⟩
theorem iv_D_245 : ev_Iv "ThreeLinkPairModel" 245 8 mm_D_carry := ⟨("ThreeLinkPairModel", nm_T8, 51), rfl, Or.inl (sg_4_10 _ (List.mem_of_getElem? (i := 14) rfl)), sg_4_11 _ (List.mem_of_getElem? (i := 0) rfl), nm_pr 33 (by decide +kernel)⟩
theorem iv_W_79 : ev_Iv "ThreeLinkPairLaw" 79 8 mm_D_submit := ⟨("ThreeLinkPairModel", nm_T8, 51), rfl, Or.inl (sg_4_11 _ (List.mem_of_getElem? (i := 2) rfl)), sg_4_11 _ (List.mem_of_getElem? (i := 3) rfl), sg_4_11 _ (List.mem_of_getElem? (i := 4) rfl)⟩
theorem is_D_261 : ev_Is "ThreeLinkPairModel" 261 mm_D_isClass := ⟨Or.inl (sg_4_11 _ (List.mem_of_getElem? (i := 6) rfl)), sg_4_11 _ (List.mem_of_getElem? (i := 7) rfl), sg_0_0 _ (List.mem_of_getElem? (i := 12) rfl)⟩
theorem iv_D_264 : ev_Iv "ThreeLinkPairModel" 264 8 mm_D_hasClass := ⟨("ThreeLinkPairModel", nm_T8, 51), rfl, Or.inl (sg_4_11 _ (List.mem_of_getElem? (i := 9) rfl)), sg_4_11 _ (List.mem_of_getElem? (i := 11) rfl), nm_pr 34 (by decide +kernel)⟩
theorem iv_W_86 : ev_Iv "ThreeLinkPairLaw" 86 8 mm_D_state := ⟨("ThreeLinkPairModel", nm_T8, 51), rfl, Or.inl (sg_4_11 _ (List.mem_of_getElem? (i := 13) rfl)), sg_4_11 _ (List.mem_of_getElem? (i := 14) rfl), sg_4_11 _ (List.mem_of_getElem? (i := 15) rfl)⟩
theorem iv_W_89 : ev_Iv "ThreeLinkPairLaw" 89 8 mm_D_of := ⟨("ThreeLinkPairModel", nm_T8, 51), rfl, Or.inl (sg_4_12 _ (List.mem_of_getElem? (i := 1) rfl)), sg_4_12 _ (List.mem_of_getElem? (i := 2) rfl), sg_4_12 _ (List.mem_of_getElem? (i := 3) rfl)⟩
theorem iv_W_92 : ev_Iv "ThreeLinkPairLaw" 92 8 mm_D_link := ⟨("ThreeLinkPairModel", nm_T8, 51), rfl, Or.inl (sg_4_12 _ (List.mem_of_getElem? (i := 5) rfl)), sg_4_12 _ (List.mem_of_getElem? (i := 6) rfl), sg_4_12 _ (List.mem_of_getElem? (i := 7) rfl)⟩
theorem iv_W_95 : ev_Iv "ThreeLinkPairLaw" 95 8 mm_D_changes := ⟨("ThreeLinkPairModel", nm_T8, 51), rfl, Or.inl (sg_4_12 _ (List.mem_of_getElem? (i := 9) rfl)), sg_4_12 _ (List.mem_of_getElem? (i := 10) rfl), sg_4_12 _ (List.mem_of_getElem? (i := 11) rfl)⟩
theorem iv_W_99 : ev_Iv "ThreeLinkPairLaw" 99 8 mm_D_held := ⟨("ThreeLinkPairModel", nm_T8, 51), rfl, Or.inl (sg_4_12 _ (List.mem_of_getElem? (i := 13) rfl)), sg_4_12 _ (List.mem_of_getElem? (i := 14) rfl), sg_4_12 _ (List.mem_of_getElem? (i := 15) rfl)⟩
theorem is_D_267 : ev_Is "ThreeLinkPairModel" 267 mm_D_isEnd := ⟨Or.inl (sg_4_13 _ (List.mem_of_getElem? (i := 1) rfl)), sg_4_13 _ (List.mem_of_getElem? (i := 2) rfl), sg_0_0 _ (List.mem_of_getElem? (i := 12) rfl)⟩
theorem iv_W_102 : ev_Iv "ThreeLinkPairLaw" 102 8 mm_D_inbox := ⟨("ThreeLinkPairModel", nm_T8, 51), rfl, Or.inl (sg_4_13 _ (List.mem_of_getElem? (i := 4) rfl)), sg_4_13 _ (List.mem_of_getElem? (i := 5) rfl), sg_4_13 _ (List.mem_of_getElem? (i := 6) rfl)⟩
theorem iv_W_105 : ev_Iv "ThreeLinkPairLaw" 105 8 mm_D_take := ⟨("ThreeLinkPairModel", nm_T8, 51), rfl, Or.inl (sg_4_13 _ (List.mem_of_getElem? (i := 8) rfl)), sg_4_13 _ (List.mem_of_getElem? (i := 9) rfl), sg_4_13 _ (List.mem_of_getElem? (i := 10) rfl)⟩
theorem iv_W_109 : ev_Iv "ThreeLinkPairLaw" 109 8 mm_D_lost := ⟨("ThreeLinkPairModel", nm_T8, 51), rfl, Or.inl (sg_4_13 _ (List.mem_of_getElem? (i := 13) rfl)), sg_4_13 _ (List.mem_of_getElem? (i := 14) rfl), sg_4_13 _ (List.mem_of_getElem? (i := 15) rfl)⟩
theorem ii_E_23 : ev_Ii "ThreeLinkPair$End" 23 mm_S_init := ⟨Or.inr ⟨"ThreeLinkPair", sg_0_2 _ (List.mem_of_getElem? (i := 13) rfl)⟩, sg_0_2 _ (List.mem_of_getElem? (i := 14) rfl), rfl, rfl, rfl⟩
theorem ii_S_80 : ev_Ii "ThreeLinkPair$Side" 80 mm_N_init := ⟨Or.inr ⟨"ThreeLinkPair", sg_0_5 _ (List.mem_of_getElem? (i := 14) rfl)⟩, sg_0_5 _ (List.mem_of_getElem? (i := 15) rfl), rfl, rfl, rfl⟩
theorem ii_E_24 : ev_Ii "ThreeLinkPair$End" 24 mm_C_init := ⟨Or.inr ⟨"ThreeLinkPair", sg_0_13 _ (List.mem_of_getElem? (i := 10) rfl)⟩, sg_0_13 _ (List.mem_of_getElem? (i := 11) rfl), rfl, rfl, rfl⟩
theorem ii_P_22 : ev_Ii "ThreeLinkPair" 22 mm_F_init := ⟨Or.inr ⟨"ThreeLinkPair", sg_1_3 _ (List.mem_of_getElem? (i := 10) rfl)⟩, sg_1_3 _ (List.mem_of_getElem? (i := 11) rfl), rfl, rfl, rfl⟩
theorem is_S_118 : ev_Is "ThreeLinkPair$Side" 118 mm_P_dropFirst := ⟨Or.inr ⟨"ThreeLinkPair", sg_1_13 _ (List.mem_of_getElem? (i := 9) rfl)⟩, sg_1_13 _ (List.mem_of_getElem? (i := 10) rfl), sg_0_0 _ (List.mem_of_getElem? (i := 1) rfl)⟩
theorem is_C_81 : ev_Is "ThreeLinkPair$Changeover" 81 mm_P_dropFirst := ⟨Or.inr ⟨"ThreeLinkPair", sg_2_3 _ (List.mem_of_getElem? (i := 6) rfl)⟩, sg_1_13 _ (List.mem_of_getElem? (i := 10) rfl), sg_0_0 _ (List.mem_of_getElem? (i := 1) rfl)⟩
theorem oi_i : Cond.instanceMethod Lib.objectInit ∈ lw_tbl := sg_0_1 _ (List.mem_of_getElem? (i := 15) rfl)
theorem oi_c : Cond.code Lib.objectInit ⟨#[0xb1]⟩ 1 none ∈ lw_tbl := sg_0_2 _ (List.mem_of_getElem? (i := 0) rfl)
