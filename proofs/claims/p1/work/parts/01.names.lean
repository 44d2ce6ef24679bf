-- ===== PART A: goes FIRST, ahead of the names: the tables' words, and 'selects' of the private methods out of them =====
/-- a private method of a class that the tables say can be made, by its rows of tables_1 -/
def lw_okq (q : MethodName × Nat) : Prop := (q.1.cls ≠ "java/lang/invoke/MethodHandle" ∧ q.1.cls ≠ "java/lang/invoke/VarHandle") ∧ Cond.instantiable q.1.cls q.2 ∈ tables_1 ∧ Cond.privateMethod q.1 ∈ tables_1 ∧ Cond.instanceMethod q.1 ∈ tables_1
theorem lw_p0 : lw_okq (⟨"PackWright$Choice", "turnOn", "(LPackWright$Claim;)Z"⟩, 2) := ⟨⟨by decide +kernel, by decide +kernel⟩, List.mem_of_getElem? (i := 54) (by decide +kernel), List.mem_of_getElem? (i := 264) (by decide +kernel), List.mem_of_getElem? (i := 265) (by decide +kernel)⟩
theorem lw_p1 : lw_okq (⟨"PackWright$Choice", "turnOnByNeeds", "()Z"⟩, 2) := ⟨⟨by decide +kernel, by decide +kernel⟩, List.mem_of_getElem? (i := 54) (by decide +kernel), List.mem_of_getElem? (i := 268) (by decide +kernel), List.mem_of_getElem? (i := 269) (by decide +kernel)⟩
theorem lw_p2 : lw_okq (⟨"PackWright$Choice", "grants", "(LPackWright$Claim;Z)Z"⟩, 2) := ⟨⟨by decide +kernel, by decide +kernel⟩, List.mem_of_getElem? (i := 54) (by decide +kernel), List.mem_of_getElem? (i := 280) (by decide +kernel), List.mem_of_getElem? (i := 281) (by decide +kernel)⟩
theorem lw_p3 : lw_okq (⟨"PackWright$Choice", "grantsNeeds", "(LPackWright$Version;IZ)Z"⟩, 2) := ⟨⟨by decide +kernel, by decide +kernel⟩, List.mem_of_getElem? (i := 54) (by decide +kernel), List.mem_of_getElem? (i := 288) (by decide +kernel), List.mem_of_getElem? (i := 289) (by decide +kernel)⟩
theorem lw_p4 : lw_okq (⟨"PackWright$Choice", "isFreeOfClashes", "(LPackWright$Version;)Z"⟩, 2) := ⟨⟨by decide +kernel, by decide +kernel⟩, List.mem_of_getElem? (i := 54) (by decide +kernel), List.mem_of_getElem? (i := 292) (by decide +kernel), List.mem_of_getElem? (i := 293) (by decide +kernel)⟩
theorem lw_p5 : lw_okq (⟨"PackWright", "layChains", "()V"⟩, 13) := ⟨⟨by decide +kernel, by decide +kernel⟩, List.mem_of_getElem? (i := 22) (by decide +kernel), List.mem_of_getElem? (i := 300) (by decide +kernel), List.mem_of_getElem? (i := 301) (by decide +kernel)⟩
theorem lw_p6 : lw_okq (⟨"PackWright$Chains", "link", "(LPackWright$Choice;III)V"⟩, 4) := ⟨⟨by decide +kernel, by decide +kernel⟩, List.mem_of_getElem? (i := 123) (by decide +kernel), List.mem_of_getElem? (i := 308) (by decide +kernel), List.mem_of_getElem? (i := 309) (by decide +kernel)⟩
theorem lw_p7 : lw_okq (⟨"PackWright", "isHopeless", "(I)Z"⟩, 13) := ⟨⟨by decide +kernel, by decide +kernel⟩, List.mem_of_getElem? (i := 22) (by decide +kernel), List.mem_of_getElem? (i := 327) (by decide +kernel), List.mem_of_getElem? (i := 328) (by decide +kernel)⟩
theorem lw_p8 : lw_okq (⟨"PackWright", "search", "(II)I"⟩, 13) := ⟨⟨by decide +kernel, by decide +kernel⟩, List.mem_of_getElem? (i := 22) (by decide +kernel), List.mem_of_getElem? (i := 331) (by decide +kernel), List.mem_of_getElem? (i := 332) (by decide +kernel)⟩
theorem lw_p9 : lw_okq (⟨"PackWright$Resolver", "addCandidate", "(ILPackWright$Version;)V"⟩, 11) := ⟨⟨by decide +kernel, by decide +kernel⟩, List.mem_of_getElem? (i := 76) (by decide +kernel), List.mem_of_getElem? (i := 357) (by decide +kernel), List.mem_of_getElem? (i := 358) (by decide +kernel)⟩
theorem lw_p10 : lw_okq (⟨"PackWright$Resolver", "openLevel", "()Z"⟩, 11) := ⟨⟨by decide +kernel, by decide +kernel⟩, List.mem_of_getElem? (i := 76) (by decide +kernel), List.mem_of_getElem? (i := 369) (by decide +kernel), List.mem_of_getElem? (i := 370) (by decide +kernel)⟩
theorem lw_p11 : lw_okq (⟨"PackWright$Resolver", "firstWithoutVersion", "()I"⟩, 11) := ⟨⟨by decide +kernel, by decide +kernel⟩, List.mem_of_getElem? (i := 76) (by decide +kernel), List.mem_of_getElem? (i := 373) (by decide +kernel), List.mem_of_getElem? (i := 374) (by decide +kernel)⟩
theorem lw_p12 : lw_okq (⟨"PackWright$Resolver", "addToRow", "(I)V"⟩, 11) := ⟨⟨by decide +kernel, by decide +kernel⟩, List.mem_of_getElem? (i := 76) (by decide +kernel), List.mem_of_getElem? (i := 377) (by decide +kernel), List.mem_of_getElem? (i := 378) (by decide +kernel)⟩
theorem lw_p13 : lw_okq (⟨"PackWright$Resolver", "nextCandidate", "(I)LPackWright$Version;"⟩, 11) := ⟨⟨by decide +kernel, by decide +kernel⟩, List.mem_of_getElem? (i := 76) (by decide +kernel), List.mem_of_getElem? (i := 383) (by decide +kernel), List.mem_of_getElem? (i := 384) (by decide +kernel)⟩
theorem lw_p14 : lw_okq (⟨"PackWright$Plan", "removeAll", "(LPackWright$Choice;I)V"⟩, 6) := ⟨⟨by decide +kernel, by decide +kernel⟩, List.mem_of_getElem? (i := 143) (by decide +kernel), List.mem_of_getElem? (i := 401) (by decide +kernel), List.mem_of_getElem? (i := 402) (by decide +kernel)⟩
theorem lw_p15 : lw_okq (⟨"PackWright$Plan", "addStep", "(IILPackWright$Choice;)V"⟩, 6) := ⟨⟨by decide +kernel, by decide +kernel⟩, List.mem_of_getElem? (i := 143) (by decide +kernel), List.mem_of_getElem? (i := 414) (by decide +kernel), List.mem_of_getElem? (i := 415) (by decide +kernel)⟩
def lw_privs_1 : List (MethodName × Nat) := [(⟨"PackWright$Choice", "turnOn", "(LPackWright$Claim;)Z"⟩, 2), (⟨"PackWright$Choice", "turnOnByNeeds", "()Z"⟩, 2), (⟨"PackWright$Choice", "grants", "(LPackWright$Claim;Z)Z"⟩, 2), (⟨"PackWright$Choice", "grantsNeeds", "(LPackWright$Version;IZ)Z"⟩, 2), (⟨"PackWright$Choice", "isFreeOfClashes", "(LPackWright$Version;)Z"⟩, 2), (⟨"PackWright", "layChains", "()V"⟩, 13), (⟨"PackWright$Chains", "link", "(LPackWright$Choice;III)V"⟩, 4), (⟨"PackWright", "isHopeless", "(I)Z"⟩, 13), (⟨"PackWright", "search", "(II)I"⟩, 13), (⟨"PackWright$Resolver", "addCandidate", "(ILPackWright$Version;)V"⟩, 11), (⟨"PackWright$Resolver", "openLevel", "()Z"⟩, 11), (⟨"PackWright$Resolver", "firstWithoutVersion", "()I"⟩, 11), (⟨"PackWright$Resolver", "addToRow", "(I)V"⟩, 11), (⟨"PackWright$Resolver", "nextCandidate", "(I)LPackWright$Version;"⟩, 11), (⟨"PackWright$Plan", "removeAll", "(LPackWright$Choice;I)V"⟩, 6), (⟨"PackWright$Plan", "addStep", "(IILPackWright$Choice;)V"⟩, 6)]
theorem lw_r1 : ∀ q ∈ lw_privs_1, lw_okq q := List.forall_mem_cons.mpr ⟨lw_p0, List.forall_mem_cons.mpr ⟨lw_p1, List.forall_mem_cons.mpr ⟨lw_p2, List.forall_mem_cons.mpr ⟨lw_p3, List.forall_mem_cons.mpr ⟨lw_p4, List.forall_mem_cons.mpr ⟨lw_p5, List.forall_mem_cons.mpr ⟨lw_p6, List.forall_mem_cons.mpr ⟨lw_p7, List.forall_mem_cons.mpr ⟨lw_p8, List.forall_mem_cons.mpr ⟨lw_p9, List.forall_mem_cons.mpr ⟨lw_p10, List.forall_mem_cons.mpr ⟨lw_p11, List.forall_mem_cons.mpr ⟨lw_p12, List.forall_mem_cons.mpr ⟨lw_p13, List.forall_mem_cons.mpr ⟨lw_p14, List.forall_mem_cons.mpr ⟨lw_p15, fun _ h => absurd h List.not_mem_nil⟩⟩⟩⟩⟩⟩⟩⟩⟩⟩⟩⟩⟩⟩⟩⟩
theorem lw_p16 : lw_okq (⟨"PackWright$Plan", "putAll", "(LPackWright$Choice;LPackWright$Choice;I)V"⟩, 6) := ⟨⟨by decide +kernel, by decide +kernel⟩, List.mem_of_getElem? (i := 143) (by decide +kernel), List.mem_of_getElem? (i := 418) (by decide +kernel), List.mem_of_getElem? (i := 419) (by decide +kernel)⟩
theorem lw_p17 : lw_okq (⟨"PackWright$Cache", "putFirst", "(LPackWright$Version;I)V"⟩, 4) := ⟨⟨by decide +kernel, by decide +kernel⟩, List.mem_of_getElem? (i := 174) (by decide +kernel), List.mem_of_getElem? (i := 466) (by decide +kernel), List.mem_of_getElem? (i := 467) (by decide +kernel)⟩
theorem lw_p18 : lw_okq (⟨"PackWright", "mixPackage", "(JI)J"⟩, 13) := ⟨⟨by decide +kernel, by decide +kernel⟩, List.mem_of_getElem? (i := 22) (by decide +kernel), List.mem_of_getElem? (i := 520) (by decide +kernel), List.mem_of_getElem? (i := 521) (by decide +kernel)⟩
theorem lw_p19 : lw_okq (⟨"PackWright", "packThatIs", "(I)LPackWright$Pack;"⟩, 13) := ⟨⟨by decide +kernel, by decide +kernel⟩, List.mem_of_getElem? (i := 22) (by decide +kernel), List.mem_of_getElem? (i := 528) (by decide +kernel), List.mem_of_getElem? (i := 529) (by decide +kernel)⟩
theorem lw_p20 : lw_okq (⟨"java/lang/Throwable", "fillInStackTrace", "(I)Ljava/lang/Throwable;"⟩, 6) := ⟨⟨by decide +kernel, by decide +kernel⟩, List.mem_of_getElem? (i := 570) (by decide +kernel), List.mem_of_getElem? (i := 568) (by decide +kernel), List.mem_of_getElem? (i := 569) (by decide +kernel)⟩
theorem lw_p21 : lw_okq (⟨"PackWright", "versionThatIs", "(II)LPackWright$Version;"⟩, 13) := ⟨⟨by decide +kernel, by decide +kernel⟩, List.mem_of_getElem? (i := 22) (by decide +kernel), List.mem_of_getElem? (i := 646) (by decide +kernel), List.mem_of_getElem? (i := 647) (by decide +kernel)⟩
theorem lw_p22 : lw_okq (⟨"PackWright", "requireStep", "(I)V"⟩, 13) := ⟨⟨by decide +kernel, by decide +kernel⟩, List.mem_of_getElem? (i := 22) (by decide +kernel), List.mem_of_getElem? (i := 656) (by decide +kernel), List.mem_of_getElem? (i := 657) (by decide +kernel)⟩
theorem lw_p23 : lw_okq (⟨"PackWright", "requireOther", "(II)V"⟩, 13) := ⟨⟨by decide +kernel, by decide +kernel⟩, List.mem_of_getElem? (i := 22) (by decide +kernel), List.mem_of_getElem? (i := 804) (by decide +kernel), List.mem_of_getElem? (i := 805) (by decide +kernel)⟩
theorem lw_p24 : lw_okq (⟨"PackWright", "opened", "(II)I"⟩, 13) := ⟨⟨by decide +kernel, by decide +kernel⟩, List.mem_of_getElem? (i := 22) (by decide +kernel), List.mem_of_getElem? (i := 944) (by decide +kernel), List.mem_of_getElem? (i := 945) (by decide +kernel)⟩
theorem lw_p25 : lw_okq (⟨"PackWright", "requirePlan", "()V"⟩, 13) := ⟨⟨by decide +kernel, by decide +kernel⟩, List.mem_of_getElem? (i := 22) (by decide +kernel), List.mem_of_getElem? (i := 1028) (by decide +kernel), List.mem_of_getElem? (i := 1029) (by decide +kernel)⟩
theorem lw_p26 : lw_okq (⟨"PackWright", "doNextStep", "()Z"⟩, 13) := ⟨⟨by decide +kernel, by decide +kernel⟩, List.mem_of_getElem? (i := 22) (by decide +kernel), List.mem_of_getElem? (i := 1036) (by decide +kernel), List.mem_of_getElem? (i := 1037) (by decide +kernel)⟩
theorem lw_p27 : lw_okq (⟨"PackWrightModel", "no", "(I)I"⟩, 27) := ⟨⟨by decide +kernel, by decide +kernel⟩, List.mem_of_getElem? (i := 1059) (by decide +kernel), List.mem_of_getElem? (i := 1165) (by decide +kernel), List.mem_of_getElem? (i := 1166) (by decide +kernel)⟩
theorem lw_p28 : lw_okq (⟨"PackWrightModel", "isPackage", "(I)Z"⟩, 27) := ⟨⟨by decide +kernel, by decide +kernel⟩, List.mem_of_getElem? (i := 1059) (by decide +kernel), List.mem_of_getElem? (i := 1173) (by decide +kernel), List.mem_of_getElem? (i := 1174) (by decide +kernel)⟩
theorem lw_p29 : lw_okq (⟨"PackWrightModel", "ok", "(I)I"⟩, 27) := ⟨⟨by decide +kernel, by decide +kernel⟩, List.mem_of_getElem? (i := 1059) (by decide +kernel), List.mem_of_getElem? (i := 1205) (by decide +kernel), List.mem_of_getElem? (i := 1206) (by decide +kernel)⟩
theorem lw_p30 : lw_okq (⟨"PackWrightModel", "atPlace", "(II)I"⟩, 27) := ⟨⟨by decide +kernel, by decide +kernel⟩, List.mem_of_getElem? (i := 1059) (by decide +kernel), List.mem_of_getElem? (i := 1217) (by decide +kernel), List.mem_of_getElem? (i := 1218) (by decide +kernel)⟩
theorem lw_p31 : lw_okq (⟨"PackWrightModel", "allWishes", "()I"⟩, 27) := ⟨⟨by decide +kernel, by decide +kernel⟩, List.mem_of_getElem? (i := 1059) (by decide +kernel), List.mem_of_getElem? (i := 1244) (by decide +kernel), List.mem_of_getElem? (i := 1245) (by decide +kernel)⟩
def lw_privs_2 : List (MethodName × Nat) := [(⟨"PackWright$Plan", "putAll", "(LPackWright$Choice;LPackWright$Choice;I)V"⟩, 6), (⟨"PackWright$Cache", "putFirst", "(LPackWright$Version;I)V"⟩, 4), (⟨"PackWright", "mixPackage", "(JI)J"⟩, 13), (⟨"PackWright", "packThatIs", "(I)LPackWright$Pack;"⟩, 13), (⟨"java/lang/Throwable", "fillInStackTrace", "(I)Ljava/lang/Throwable;"⟩, 6), (⟨"PackWright", "versionThatIs", "(II)LPackWright$Version;"⟩, 13), (⟨"PackWright", "requireStep", "(I)V"⟩, 13), (⟨"PackWright", "requireOther", "(II)V"⟩, 13), (⟨"PackWright", "opened", "(II)I"⟩, 13), (⟨"PackWright", "requirePlan", "()V"⟩, 13), (⟨"PackWright", "doNextStep", "()Z"⟩, 13), (⟨"PackWrightModel", "no", "(I)I"⟩, 27), (⟨"PackWrightModel", "isPackage", "(I)Z"⟩, 27), (⟨"PackWrightModel", "ok", "(I)I"⟩, 27), (⟨"PackWrightModel", "atPlace", "(II)I"⟩, 27), (⟨"PackWrightModel", "allWishes", "()I"⟩, 27)]
theorem lw_r2 : ∀ q ∈ lw_privs_2, lw_okq q := List.forall_mem_cons.mpr ⟨lw_p16, List.forall_mem_cons.mpr ⟨lw_p17, List.forall_mem_cons.mpr ⟨lw_p18, List.forall_mem_cons.mpr ⟨lw_p19, List.forall_mem_cons.mpr ⟨lw_p20, List.forall_mem_cons.mpr ⟨lw_p21, List.forall_mem_cons.mpr ⟨lw_p22, List.forall_mem_cons.mpr ⟨lw_p23, List.forall_mem_cons.mpr ⟨lw_p24, List.forall_mem_cons.mpr ⟨lw_p25, List.forall_mem_cons.mpr ⟨lw_p26, List.forall_mem_cons.mpr ⟨lw_p27, List.forall_mem_cons.mpr ⟨lw_p28, List.forall_mem_cons.mpr ⟨lw_p29, List.forall_mem_cons.mpr ⟨lw_p30, List.forall_mem_cons.mpr ⟨lw_p31, fun _ h => absurd h List.not_mem_nil⟩⟩⟩⟩⟩⟩⟩⟩⟩⟩⟩⟩⟩⟩⟩⟩
theorem lw_p32 : lw_okq (⟨"PackWrightModel", "held", "(II)[I"⟩, 27) := ⟨⟨by decide +kernel, by decide +kernel⟩, List.mem_of_getElem? (i := 1059) (by decide +kernel), List.mem_of_getElem? (i := 1248) (by decide +kernel), List.mem_of_getElem? (i := 1249) (by decide +kernel)⟩
theorem lw_p33 : lw_okq (⟨"PackWrightModel", "features", "([II)[I"⟩, 27) := ⟨⟨by decide +kernel, by decide +kernel⟩, List.mem_of_getElem? (i := 1059) (by decide +kernel), List.mem_of_getElem? (i := 1255) (by decide +kernel), List.mem_of_getElem? (i := 1256) (by decide +kernel)⟩
theorem lw_p34 : lw_okq (⟨"PackWrightModel", "needed", "(I[I[I)I"⟩, 27) := ⟨⟨by decide +kernel, by decide +kernel⟩, List.mem_of_getElem? (i := 1059) (by decide +kernel), List.mem_of_getElem? (i := 1262) (by decide +kernel), List.mem_of_getElem? (i := 1263) (by decide +kernel)⟩
theorem lw_p35 : lw_okq (⟨"PackWrightModel", "found", "(I[I)[I"⟩, 27) := ⟨⟨by decide +kernel, by decide +kernel⟩, List.mem_of_getElem? (i := 1059) (by decide +kernel), List.mem_of_getElem? (i := 1266) (by decide +kernel), List.mem_of_getElem? (i := 1267) (by decide +kernel)⟩
theorem lw_p36 : lw_okq (⟨"PackWrightModel", "nextAsked", "([II)I"⟩, 27) := ⟨⟨by decide +kernel, by decide +kernel⟩, List.mem_of_getElem? (i := 1059) (by decide +kernel), List.mem_of_getElem? (i := 1270) (by decide +kernel), List.mem_of_getElem? (i := 1271) (by decide +kernel)⟩
theorem lw_p37 : lw_okq (⟨"PackWrightModel", "candidate", "(III)I"⟩, 27) := ⟨⟨by decide +kernel, by decide +kernel⟩, List.mem_of_getElem? (i := 1059) (by decide +kernel), List.mem_of_getElem? (i := 1274) (by decide +kernel), List.mem_of_getElem? (i := 1275) (by decide +kernel)⟩
theorem lw_p38 : lw_okq (⟨"PackWrightModel", "goesTogether", "([IIZ)Z"⟩, 27) := ⟨⟨by decide +kernel, by decide +kernel⟩, List.mem_of_getElem? (i := 1059) (by decide +kernel), List.mem_of_getElem? (i := 1278) (by decide +kernel), List.mem_of_getElem? (i := 1279) (by decide +kernel)⟩
theorem lw_p39 : lw_okq (⟨"PackWrightModel", "isLetIn", "([IIIIZ)Z"⟩, 27) := ⟨⟨by decide +kernel, by decide +kernel⟩, List.mem_of_getElem? (i := 1059) (by decide +kernel), List.mem_of_getElem? (i := 1282) (by decide +kernel), List.mem_of_getElem? (i := 1283) (by decide +kernel)⟩
theorem lw_p40 : lw_okq (⟨"PackWrightModel", "changes", "([I)I"⟩, 27) := ⟨⟨by decide +kernel, by decide +kernel⟩, List.mem_of_getElem? (i := 1059) (by decide +kernel), List.mem_of_getElem? (i := 1286) (by decide +kernel), List.mem_of_getElem? (i := 1287) (by decide +kernel)⟩
theorem lw_p41 : lw_okq (⟨"PackWrightModel", "cannot", "(I)Z"⟩, 27) := ⟨⟨by decide +kernel, by decide +kernel⟩, List.mem_of_getElem? (i := 1059) (by decide +kernel), List.mem_of_getElem? (i := 1318) (by decide +kernel), List.mem_of_getElem? (i := 1319) (by decide +kernel)⟩
theorem lw_p42 : lw_okq (⟨"PackWrightModel", "depths", "()[I"⟩, 27) := ⟨⟨by decide +kernel, by decide +kernel⟩, List.mem_of_getElem? (i := 1059) (by decide +kernel), List.mem_of_getElem? (i := 1326) (by decide +kernel), List.mem_of_getElem? (i := 1327) (by decide +kernel)⟩
theorem lw_p43 : lw_okq (⟨"PackWrightModel", "chain", "(II)I"⟩, 27) := ⟨⟨by decide +kernel, by decide +kernel⟩, List.mem_of_getElem? (i := 1059) (by decide +kernel), List.mem_of_getElem? (i := 1338) (by decide +kernel), List.mem_of_getElem? (i := 1339) (by decide +kernel)⟩
theorem lw_p44 : lw_okq (⟨"PackWrightModel", "neededNow", "(I)I"⟩, 27) := ⟨⟨by decide +kernel, by decide +kernel⟩, List.mem_of_getElem? (i := 1059) (by decide +kernel), List.mem_of_getElem? (i := 1346) (by decide +kernel), List.mem_of_getElem? (i := 1347) (by decide +kernel)⟩
theorem lw_p45 : lw_okq (⟨"PackWrightModel", "newerNow", "(I)I"⟩, 27) := ⟨⟨by decide +kernel, by decide +kernel⟩, List.mem_of_getElem? (i := 1059) (by decide +kernel), List.mem_of_getElem? (i := 1354) (by decide +kernel), List.mem_of_getElem? (i := 1355) (by decide +kernel)⟩
theorem lw_p46 : lw_okq (⟨"PackWrightModel", "shrinkCache", "()V"⟩, 27) := ⟨⟨by decide +kernel, by decide +kernel⟩, List.mem_of_getElem? (i := 1059) (by decide +kernel), List.mem_of_getElem? (i := 1366) (by decide +kernel), List.mem_of_getElem? (i := 1367) (by decide +kernel)⟩
theorem lw_p47 : lw_okq (⟨"PackWrightModel", "cachedSize", "()I"⟩, 27) := ⟨⟨by decide +kernel, by decide +kernel⟩, List.mem_of_getElem? (i := 1059) (by decide +kernel), List.mem_of_getElem? (i := 1370) (by decide +kernel), List.mem_of_getElem? (i := 1371) (by decide +kernel)⟩
def lw_privs_3 : List (MethodName × Nat) := [(⟨"PackWrightModel", "held", "(II)[I"⟩, 27), (⟨"PackWrightModel", "features", "([II)[I"⟩, 27), (⟨"PackWrightModel", "needed", "(I[I[I)I"⟩, 27), (⟨"PackWrightModel", "found", "(I[I)[I"⟩, 27), (⟨"PackWrightModel", "nextAsked", "([II)I"⟩, 27), (⟨"PackWrightModel", "candidate", "(III)I"⟩, 27), (⟨"PackWrightModel", "goesTogether", "([IIZ)Z"⟩, 27), (⟨"PackWrightModel", "isLetIn", "([IIIIZ)Z"⟩, 27), (⟨"PackWrightModel", "changes", "([I)I"⟩, 27), (⟨"PackWrightModel", "cannot", "(I)Z"⟩, 27), (⟨"PackWrightModel", "depths", "()[I"⟩, 27), (⟨"PackWrightModel", "chain", "(II)I"⟩, 27), (⟨"PackWrightModel", "neededNow", "(I)I"⟩, 27), (⟨"PackWrightModel", "newerNow", "(I)I"⟩, 27), (⟨"PackWrightModel", "shrinkCache", "()V"⟩, 27), (⟨"PackWrightModel", "cachedSize", "()I"⟩, 27)]
theorem lw_r3 : ∀ q ∈ lw_privs_3, lw_okq q := List.forall_mem_cons.mpr ⟨lw_p32, List.forall_mem_cons.mpr ⟨lw_p33, List.forall_mem_cons.mpr ⟨lw_p34, List.forall_mem_cons.mpr ⟨lw_p35, List.forall_mem_cons.mpr ⟨lw_p36, List.forall_mem_cons.mpr ⟨lw_p37, List.forall_mem_cons.mpr ⟨lw_p38, List.forall_mem_cons.mpr ⟨lw_p39, List.forall_mem_cons.mpr ⟨lw_p40, List.forall_mem_cons.mpr ⟨lw_p41, List.forall_mem_cons.mpr ⟨lw_p42, List.forall_mem_cons.mpr ⟨lw_p43, List.forall_mem_cons.mpr ⟨lw_p44, List.forall_mem_cons.mpr ⟨lw_p45, List.forall_mem_cons.mpr ⟨lw_p46, List.forall_mem_cons.mpr ⟨lw_p47, fun _ h => absurd h List.not_mem_nil⟩⟩⟩⟩⟩⟩⟩⟩⟩⟩⟩⟩⟩⟩⟩⟩
theorem lw_p48 : lw_okq (⟨"PackWrightModel", "sizeOf", "(I)I"⟩, 27) := ⟨⟨by decide +kernel, by decide +kernel⟩, List.mem_of_getElem? (i := 1059) (by decide +kernel), List.mem_of_getElem? (i := 1374) (by decide +kernel), List.mem_of_getElem? (i := 1375) (by decide +kernel)⟩
theorem lw_p49 : lw_okq (⟨"PackWrightModel", "step", "(II)V"⟩, 27) := ⟨⟨by decide +kernel, by decide +kernel⟩, List.mem_of_getElem? (i := 1059) (by decide +kernel), List.mem_of_getElem? (i := 1385) (by decide +kernel), List.mem_of_getElem? (i := 1386) (by decide +kernel)⟩
theorem lw_p50 : lw_okq (⟨"PackWrightModel", "stepsNow", "()I"⟩, 27) := ⟨⟨by decide +kernel, by decide +kernel⟩, List.mem_of_getElem? (i := 1059) (by decide +kernel), List.mem_of_getElem? (i := 1393) (by decide +kernel), List.mem_of_getElem? (i := 1394) (by decide +kernel)⟩
theorem lw_p51 : lw_okq (⟨"PackWrightModel", "takenNow", "()I"⟩, 27) := ⟨⟨by decide +kernel, by decide +kernel⟩, List.mem_of_getElem? (i := 1059) (by decide +kernel), List.mem_of_getElem? (i := 1409) (by decide +kernel), List.mem_of_getElem? (i := 1410) (by decide +kernel)⟩
theorem lw_p52 : lw_okq (⟨"PackWrightModel", "fetch", "(I)I"⟩, 27) := ⟨⟨by decide +kernel, by decide +kernel⟩, List.mem_of_getElem? (i := 1059) (by decide +kernel), List.mem_of_getElem? (i := 1413) (by decide +kernel), List.mem_of_getElem? (i := 1414) (by decide +kernel)⟩
theorem lw_p53 : lw_okq (⟨"PackWrightModel", "ageNow", "(I)I"⟩, 27) := ⟨⟨by decide +kernel, by decide +kernel⟩, List.mem_of_getElem? (i := 1059) (by decide +kernel), List.mem_of_getElem? (i := 1417) (by decide +kernel), List.mem_of_getElem? (i := 1418) (by decide +kernel)⟩
theorem lw_p54 : lw_okq (⟨"PackWrightModel", "fetchLater", "()I"⟩, 27) := ⟨⟨by decide +kernel, by decide +kernel⟩, List.mem_of_getElem? (i := 1059) (by decide +kernel), List.mem_of_getElem? (i := 1449) (by decide +kernel), List.mem_of_getElem? (i := 1450) (by decide +kernel)⟩
theorem lw_p55 : lw_okq (⟨"PackWrightModel", "roomLater", "()I"⟩, 27) := ⟨⟨by decide +kernel, by decide +kernel⟩, List.mem_of_getElem? (i := 1059) (by decide +kernel), List.mem_of_getElem? (i := 1457) (by decide +kernel), List.mem_of_getElem? (i := 1458) (by decide +kernel)⟩
theorem lw_p56 : lw_okq (⟨"PackWrightModel", "isAsLocked", "()Z"⟩, 27) := ⟨⟨by decide +kernel, by decide +kernel⟩, List.mem_of_getElem? (i := 1059) (by decide +kernel), List.mem_of_getElem? (i := 1466) (by decide +kernel), List.mem_of_getElem? (i := 1467) (by decide +kernel)⟩
def lw_privs_4 : List (MethodName × Nat) := [(⟨"PackWrightModel", "sizeOf", "(I)I"⟩, 27), (⟨"PackWrightModel", "step", "(II)V"⟩, 27), (⟨"PackWrightModel", "stepsNow", "()I"⟩, 27), (⟨"PackWrightModel", "takenNow", "()I"⟩, 27), (⟨"PackWrightModel", "fetch", "(I)I"⟩, 27), (⟨"PackWrightModel", "ageNow", "(I)I"⟩, 27), (⟨"PackWrightModel", "fetchLater", "()I"⟩, 27), (⟨"PackWrightModel", "roomLater", "()I"⟩, 27), (⟨"PackWrightModel", "isAsLocked", "()Z"⟩, 27)]
theorem lw_r4 : ∀ q ∈ lw_privs_4, lw_okq q := List.forall_mem_cons.mpr ⟨lw_p48, List.forall_mem_cons.mpr ⟨lw_p49, List.forall_mem_cons.mpr ⟨lw_p50, List.forall_mem_cons.mpr ⟨lw_p51, List.forall_mem_cons.mpr ⟨lw_p52, List.forall_mem_cons.mpr ⟨lw_p53, List.forall_mem_cons.mpr ⟨lw_p54, List.forall_mem_cons.mpr ⟨lw_p55, List.forall_mem_cons.mpr ⟨lw_p56, fun _ h => absurd h List.not_mem_nil⟩⟩⟩⟩⟩⟩⟩⟩⟩
def lw_privs : List (MethodName × Nat) := lw_privs_1 ++ (lw_privs_2 ++ (lw_privs_3 ++ (lw_privs_4)))
def lw_tbl : List Cond := k2_sels lw_privs ++ tables_1
theorem lw_privs_ok : ∀ q ∈ lw_privs, lw_okq q := by
  show ∀ q ∈ lw_privs_1 ++ (lw_privs_2 ++ (lw_privs_3 ++ (lw_privs_4))), lw_okq q
  exact List.forall_mem_append.mpr ⟨lw_r1, List.forall_mem_append.mpr ⟨lw_r2, List.forall_mem_append.mpr ⟨lw_r3, lw_r4⟩⟩⟩
/-- the streams that the claim lets the run draw from -/
abbrev lw_cs : List Choice := [Jvm.Choice.named "NaN.bits"]
theorem lw_bits : nanBits ∈ lw_cs := by first | decide | exact List.mem_cons_self | simp [lw_cs, nanBits]
def xT0 : u_T := fun k => match k with
  | 0 => ("PackWright$Cache", "held", "[LPackWright$Version;", true)
  | 1 => ("PackWright$Cache", "count", "I", false)
  | 2 => ("PackWright$Cache", "used", "I", false)
  | _ => ("PackWright$Cache", "room", "I", false)
def xY0 : Nat → FieldType := fun k => match k with
  | 0 => .array (.object "PackWright$Version")
  | 1 => .int
  | 2 => .int
  | _ => .int
theorem xN0 : ∀ a, a < 4 → ∀ b, b < 4 → a ≠ b → (xT0 a).2.1 ≠ (xT0 b).2.1 := by decide +kernel
theorem xY0_ok : ∀ k, k < 4 → parseFieldDescriptor (xT0 k).2.2.1 = some (xY0 k) := by decide +kernel
def xT1 : u_T := fun k => match k with
  | 0 => ("PackWright$Chains", "lengths", "[I", true)
  | 1 => ("PackWright$Chains", "ahead", "[I", true)
  | 2 => ("PackWright$Chains", "queue", "[I", true)
  | _ => ("PackWright$Chains", "queued", "I", false)
def xY1 : Nat → FieldType := fun k => match k with
  | 0 => .array .int
  | 1 => .array .int
  | 2 => .array .int
  | _ => .int
theorem xN1 : ∀ a, a < 4 → ∀ b, b < 4 → a ≠ b → (xT1 a).2.1 ≠ (xT1 b).2.1 := by decide +kernel
theorem xY1_ok : ∀ k, k < 4 → parseFieldDescriptor (xT1 k).2.2.1 = some (xY1 k) := by decide +kernel
def xT2 : u_T := fun k => match k with
  | 0 => ("PackWright$Choice", "chosen", "[LPackWright$Version;", true)
  | _ => ("PackWright$Choice", "on", "[I", true)
def xY2 : Nat → FieldType := fun k => match k with
  | 0 => .array (.object "PackWright$Version")
  | _ => .array .int
theorem xN2 : ∀ a, a < 2 → ∀ b, b < 2 → a ≠ b → (xT2 a).2.1 ≠ (xT2 b).2.1 := by decide +kernel
theorem xY2_ok : ∀ k, k < 2 → parseFieldDescriptor (xT2 k).2.2.1 = some (xY2 k) := by decide +kernel
def xT3 : u_T := fun k => match k with
  | 0 => ("PackWright$Pack", "versions", "[LPackWright$Version;", true)
  | 1 => ("PackWright$Pack", "greatestFirst", "[LPackWright$Version;", true)
  | _ => ("PackWright$Pack", "count", "I", false)
def xY3 : Nat → FieldType := fun k => match k with
  | 0 => .array (.object "PackWright$Version")
  | 1 => .array (.object "PackWright$Version")
  | _ => .int
theorem xN3 : ∀ a, a < 3 → ∀ b, b < 3 → a ≠ b → (xT3 a).2.1 ≠ (xT3 b).2.1 := by decide +kernel
theorem xY3_ok : ∀ k, k < 3 → parseFieldDescriptor (xT3 k).2.2.1 = some (xY3 k) := by decide +kernel
def xT4 : u_T := fun k => match k with
  | 0 => ("PackWright$Plan", "isThere", "Z", false)
  | 1 => ("PackWright$Plan", "count", "I", false)
  | 2 => ("PackWright$Plan", "done", "I", false)
  | 3 => ("PackWright$Plan", "kinds", "[I", true)
  | 4 => ("PackWright$Plan", "packs", "[I", true)
  | _ => ("PackWright$Plan", "before", "[LPackWright$Version;", true)
def xY4 : Nat → FieldType := fun k => match k with
  | 0 => .boolean
  | 1 => .int
  | 2 => .int
  | 3 => .array .int
  | 4 => .array .int
  | _ => .array (.object "PackWright$Version")
theorem xN4 : ∀ a, a < 6 → ∀ b, b < 6 → a ≠ b → (xT4 a).2.1 ≠ (xT4 b).2.1 := by decide +kernel
theorem xY4_ok : ∀ k, k < 6 → parseFieldDescriptor (xT4 k).2.2.1 = some (xY4 k) := by decide +kernel
def xT5 : u_T := fun k => match k with
  | 0 => ("PackWright$Resolver", "asked", "LPackWright$Wishes;", true)
  | 1 => ("PackWright$Resolver", "choice", "LPackWright$Choice;", true)
  | 2 => ("PackWright$Resolver", "tryCount", "I", false)
  | 3 => ("PackWright$Resolver", "candidates", "[LPackWright$Version;", true)
  | 4 => ("PackWright$Resolver", "candidateCounts", "[I", true)
  | 5 => ("PackWright$Resolver", "triedCounts", "[I", true)
  | 6 => ("PackWright$Resolver", "row", "[I", true)
  | 7 => ("PackWright$Resolver", "rowLength", "I", false)
  | 8 => ("PackWright$Resolver", "rowSet", "I", false)
  | 9 => ("PackWright$Resolver", "levels", "[I", true)
  | _ => ("PackWright$Resolver", "levelCount", "I", false)
def xY5 : Nat → FieldType := fun k => match k with
  | 0 => .object "PackWright$Wishes"
  | 1 => .object "PackWright$Choice"
  | 2 => .int
  | 3 => .array (.object "PackWright$Version")
  | 4 => .array .int
  | 5 => .array .int
  | 6 => .array .int
  | 7 => .int
  | 8 => .int
  | 9 => .array .int
  | _ => .int
theorem xN5 : ∀ a, a < 11 → ∀ b, b < 11 → a ≠ b → (xT5 a).2.1 ≠ (xT5 b).2.1 := by decide +kernel
theorem xY5_ok : ∀ k, k < 11 → parseFieldDescriptor (xT5 k).2.2.1 = some (xY5 k) := by decide +kernel
def xT6 : u_T := fun k => match k with
  | 0 => ("PackWright$Wishes", "row", "[LPackWright$Claim;", true)
  | _ => ("PackWright$Wishes", "count", "I", false)
def xY6 : Nat → FieldType := fun k => match k with
  | 0 => .array (.object "PackWright$Claim")
  | _ => .int
theorem xN6 : ∀ a, a < 2 → ∀ b, b < 2 → a ≠ b → (xT6 a).2.1 ≠ (xT6 b).2.1 := by decide +kernel
theorem xY6_ok : ∀ k, k < 2 → parseFieldDescriptor (xT6 k).2.2.1 = some (xY6 k) := by decide +kernel
def xT7 : u_T := fun k => match k with
  | 0 => ("PackWright", "packs", "[LPackWright$Pack;", true)
  | 1 => ("PackWright", "packCount", "I", false)
  | 2 => ("PackWright", "wished", "LPackWright$Wishes;", true)
  | 3 => ("PackWright", "lock", "LPackWright$Choice;", true)
  | 4 => ("PackWright", "onDisk", "LPackWright$Choice;", true)
  | 5 => ("PackWright", "resolver", "LPackWright$Resolver;", true)
  | 6 => ("PackWright", "chains", "LPackWright$Chains;", true)
  | 7 => ("PackWright", "planned", "LPackWright$Plan;", true)
  | 8 => ("PackWright", "cache", "LPackWright$Cache;", true)
  | 9 => ("PackWright", "trialCache", "LPackWright$Cache;", true)
  | 10 => ("PackWright", "diskRoom", "I", false)
  | 11 => ("PackWright", "latestTries", "I", false)
  | _ => ("PackWright", "fetchCount", "I", false)
def xY7 : Nat → FieldType := fun k => match k with
  | 0 => .array (.object "PackWright$Pack")
  | 1 => .int
  | 2 => .object "PackWright$Wishes"
  | 3 => .object "PackWright$Choice"
  | 4 => .object "PackWright$Choice"
  | 5 => .object "PackWright$Resolver"
  | 6 => .object "PackWright$Chains"
  | 7 => .object "PackWright$Plan"
  | 8 => .object "PackWright$Cache"
  | 9 => .object "PackWright$Cache"
  | 10 => .int
  | 11 => .int
  | _ => .int
theorem xN7 : ∀ a, a < 13 → ∀ b, b < 13 → a ≠ b → (xT7 a).2.1 ≠ (xT7 b).2.1 := by decide +kernel
theorem xY7_ok : ∀ k, k < 13 → parseFieldDescriptor (xT7 k).2.2.1 = some (xY7 k) := by decide +kernel
def xT8 : u_T := fun k => match k with
  | 0 => ("PackWrightModel", "thrown", "I", false)
  | 1 => ("PackWrightModel", "packages", "I", false)
  | 2 => ("PackWrightModel", "count", "[I", true)
  | 3 => ("PackWrightModel", "size", "[[I", true)
  | 4 => ("PackWrightModel", "rank", "[[I", true)
  | 5 => ("PackWrightModel", "isWithdrawn", "[[Z", true)
  | 6 => ("PackWrightModel", "needs", "[[I", true)
  | 7 => ("PackWrightModel", "clashes", "[[I", true)
  | 8 => ("PackWrightModel", "need", "[[[I", true)
  | 9 => ("PackWrightModel", "clash", "[[[I", true)
  | 10 => ("PackWrightModel", "wishes", "I", false)
  | 11 => ("PackWrightModel", "wish", "[I", true)
  | 12 => ("PackWrightModel", "lock", "[I", false)
  | 13 => ("PackWrightModel", "tries", "I", false)
  | 14 => ("PackWrightModel", "installed", "[I", false)
  | 15 => ("PackWrightModel", "disk", "I", false)
  | 16 => ("PackWrightModel", "cacheRoom", "I", false)
  | 17 => ("PackWrightModel", "fetched", "I", false)
  | 18 => ("PackWrightModel", "cached", "I", false)
  | 19 => ("PackWrightModel", "cache", "[I", false)
  | 20 => ("PackWrightModel", "isPlan", "Z", false)
  | 21 => ("PackWrightModel", "steps", "I", false)
  | 22 => ("PackWrightModel", "done", "I", false)
  | 23 => ("PackWrightModel", "stepKind", "[I", true)
  | 24 => ("PackWrightModel", "stepPackage", "[I", true)
  | 25 => ("PackWrightModel", "before", "[I", false)
  | _ => ("PackWrightModel", "tried", "I", false)
def xY8 : Nat → FieldType := fun k => match k with
  | 0 => .int
  | 1 => .int
  | 2 => .array .int
  | 3 => .array (.array .int)
  | 4 => .array (.array .int)
  | 5 => .array (.array .boolean)
  | 6 => .array (.array .int)
  | 7 => .array (.array .int)
  | 8 => .array (.array (.array .int))
  | 9 => .array (.array (.array .int))
  | 10 => .int
  | 11 => .array .int
  | 12 => .array .int
  | 13 => .int
  | 14 => .array .int
  | 15 => .int
  | 16 => .int
  | 17 => .int
  | 18 => .int
  | 19 => .array .int
  | 20 => .boolean
  | 21 => .int
  | 22 => .int
  | 23 => .array .int
  | 24 => .array .int
  | 25 => .array .int
  | _ => .int
theorem xN8 : ∀ a, a < 27 → ∀ b, b < 27 → a ≠ b → (xT8 a).2.1 ≠ (xT8 b).2.1 := by decide +kernel
theorem xY8_ok : ∀ k, k < 27 → parseFieldDescriptor (xT8 k).2.2.1 = some (xY8 k) := by decide +kernel
/-- the classes whose objects the worlds hold -/
abbrev classes : List vw_C := [("PackWright$Cache", xT0, 4), ("PackWright$Chains", xT1, 4), ("PackWright$Choice", xT2, 2), ("PackWright$Pack", xT3, 3), ("PackWright$Plan", xT4, 6), ("PackWright$Resolver", xT5, 11), ("PackWright$Wishes", xT6, 2), ("PackWright", xT7, 13), ("PackWrightModel", xT8, 27)]
