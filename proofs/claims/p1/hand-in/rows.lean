section
-- ===== PART A: goes FIRST, ahead of the names: the tables' words, and 'selects' of the private methods out of them =====
/-- a private method of a class that the tables say can be made, by its rows of tables_1 -/
def lw_okq (q : MethodName × Nat) : Prop := (q.1.cls ≠ "java/lang/invoke/MethodHandle" ∧ q.1.cls ≠ "java/lang/invoke/VarHandle") ∧ Cond.instantiable q.1.cls q.2 ∈ tables_1 ∧ Cond.privateMethod q.1 ∈ tables_1 ∧ Cond.instanceMethod q.1 ∈ tables_1
theorem lw_p0 : lw_okq (⟨"PackWright$Choice", "turnOn", "(LPackWright$Claim;)Z"⟩, 2) := ⟨⟨by decide +kernel, by decide +kernel⟩, List.mem_of_getElem? (i := 54) (by decide +kernel), List.mem_of_getElem? (i := 264) (by decide +kernel), List.mem_of_getElem? (i := 265) (by decide +kernel)⟩
theorem lw_p1 : lw_okq (⟨"PackWright$Choice", "turnOnByNeeds", "()Z"⟩, 2) := ⟨⟨by decide +kernel, by decide +kernel⟩, List.mem_of_getElem? (i := 54) (by decide +kernel), List.mem_of_getElem? (i := 268) (by decide +kernel), List.mem_of_getElem? (i := 269) (by decide +kernel)⟩
theorem lw_p2 : lw_okq (⟨"PackWright$Choice", "grants", "(LPackWright$Claim;Z)Z"⟩, 2) := ⟨⟨by decide +kernel, by decide +kernel⟩, List.mem_of_getElem? (i := 54) (by decide +kernel), List.mem_of_getElem? (i := 280) (by decide +kernel), List.mem_of_getElem? (i := 281) (by decide +kernel)⟩
theorem lw_p3 : lw_okq (⟨"PackWright$Choice", "grantsNeeds", "(LPackWright$Version;IZ)Z"⟩, 2) := ⟨⟨by decide +kernel, by decide +kernel⟩, List.mem_of_getElem? (i := 54) (by decide +kernel), List.mem_of_getElem? (i := 288) (by decide +kernel), List.mem_of_getElem? (i := 289) (by decide +kernel)⟩
theorem lw_p4 : lw_okq (⟨"PackWright$Choice", "isFreeOfClashes", "(LPackWright$Version;)Z"⟩, 2) := ⟨⟨by decide +kernel, by decide +kernel⟩, List.mem_of_getElem? (i := 54) (by decide +kernel), List.mem_of_getElem? (i := 292) (by decide +kernel), List.mem_of_getElem? (i := 293) (by decide +kernel)⟩
theorem lw_p5 : lw_okq (⟨"PackWright", "layChains", "()V"⟩, 13) := ⟨⟨by decide +kernel, by decide +kernel⟩, List.mem_of_getElem? (i := 22) (by decide +kernel), List.mem_of_getElem? (i := 300) (by decide +kernel), List.mem_of_getElem? (i := 301) (by decide +kernel)⟩
theorem lw_p6 : lw_okq (⟨"PackWright$Chains", "link", "(LPackWright$Choice;III)V"⟩, 4) := ⟨⟨by decide +kernel, by decide +kernel⟩, List.mem_of_getElem? (i := 123) (by decide +kernel), List.mem_of_getElem? (i := 308) (by decide +kernel), List.mem_of_getElem? (i := 309) (by decide +kernel)⟩
theorem lw_p7 : lw_okq (⟨"PackWright", "isHopeless", "(I)Z"⟩, 13) := ⟨⟨by decide +kernel, by decide +kernel⟩, List.mem_of_getElem? (i := 22) (by decide +kernel), List.mem_of_getElem? (i := 327) (by decide +kernel), List.mem_of_getElem? (i := 328) (by decide +kernel)⟩
theorem lw_p8 : lw_okq (⟨"PackWright", "search", "(II)I"⟩, 13) := ⟨⟨by decide +kernel, by decide +kernel⟩, List.mem_of_getElem? (i := 22) (by decide +kernel), List.mem_of_getElem? (i := 331) (by decide +kernel), List.mem_of_getElem? (i := 332) (by decide +kernel)⟩
theorem lw_p9 : lw_okq (⟨"PackWright$Resolver", "addCandidate", "(ILPackWright$Version;)V"⟩, 11) := ⟨⟨by decide +kernel, by decide +kernel⟩, List.mem_of_getElem? (i := 76) (by decide +kernel), List.mem_of_getElem? (i := 357) (by decide +kernel), List.mem_of_getElem? (i := 358) (by decide +kernel)⟩
theorem lw_p10 : lw_okq (⟨"PackWright$Resolver", "openLevel", "()Z"⟩, 11) := ⟨⟨by decide +kernel, by decide +kernel⟩, List.mem_of_getElem? (i := 76) (by decide +kernel), List.mem_of_getElem? (i := 369) (by decide +kernel), List.mem_of_getElem? (i := 370) (by decide +kernel)⟩
theorem lw_p11 : lw_okq (⟨"PackWright$Resolver", "firstWithoutVersion", "()I"⟩, 11) := ⟨⟨by decide +kernel, by decide +kernel⟩, List.mem_of_getElem? (i := 76) (by decide +kernel), List.mem_of_getElem? (i := 373) (by decide +kernel), List.mem_of_getElem? (i := 374) (by decide +kernel)⟩
theorem lw_p12 : lw_okq (⟨"PackWright$Resolver", "addToRow", "(I)V"⟩, 11) := ⟨⟨by decide +kernel, by decide +kernel⟩, List.mem_of_getElem? (i := 76) (by decide +kernel), List.mem_of_getElem? (i := 377) (by decide +kernel), List.mem_of_getElem? (i := 378) (by decide +kernel)⟩
theorem lw_p13 : lw_okq (⟨"PackWright$Resolver", "nextCandidate", "(I)LPackWright$Version;"⟩, 11) := ⟨⟨by decide +kernel, by decide +kernel⟩, List.mem_of_getElem? (i := 76) (by decide +kernel), List.mem_of_getElem? (i := 383) (by decide +kernel), List.mem_of_getElem? (i := 384) (by decide +kernel)⟩
theorem lw_p14 : lw_okq (⟨"PackWright$Plan", "removeAll", "(LPackWright$Choice;I)V"⟩, 6) := ⟨⟨by decide +kernel, by decide +kernel⟩, List.mem_of_getElem? (i := 143) (by decide +kernel), List.mem_of_getElem? (i := 401) (by decide +kernel), List.mem_of_getElem? (i := 402) (by decide +kernel)⟩
theorem lw_p15 : lw_okq (⟨"PackWright$Plan", "addStep", "(IILPackWright$Choice;)V"⟩, 6) := ⟨⟨by decide +kernel, by decide +kernel⟩, List.mem_of_getElem? (i := 143) (by decide +kernel), List.mem_of_getElem? (i := 414) (by decide +kernel), List.mem_of_getElem? (i := 415) (by decide +kernel)⟩
def lw_privs_1 : List (MethodName × Nat) := [(⟨"PackWright$Choice", "turnOn", "(LPackWright$Claim;)Z"⟩, 2), (⟨"PackWright$Choice", "turnOnByNeeds", "()Z"⟩, 2), (⟨"PackWright$Choice", "grants", "(LPackWright$Claim;Z)Z"⟩, 2), (⟨"PackWright$Choice", "grantsNeeds", "(LPackWright$Version;IZ)Z"⟩, 2), (⟨"PackWright$Choice", "isFreeOfClashes", "(LPackWright$Version;)Z"⟩, 2), (⟨"PackWright", "layChains", "()V"⟩, 13), (⟨"PackWright$Chains", "link", "(LPackWright$Choice;III)V"⟩, 4), (⟨"PackWright", "isHopeless", "(I)Z"⟩, 13), (⟨"PackWright", "search", "(II)I"⟩, 13), (⟨"PackWright$Resolver", "addCandidate", "(ILPackWright$Version;)V"⟩, 11), (⟨"PackWright$Resolver", "openLevel", "()Z"⟩, 11), (⟨"PackWright$Resolver", "firstWithoutVersion", "()I"⟩, 11), (⟨"PackWright$Resolver", "addToRow", "(I)V"⟩, 11), (⟨"PackWright$Resolver", "nextCandidate", "(I)LPackWright$Version;"⟩, 11), (⟨"PackWright$Plan", "removeAll", "(LPackWright$Choice;I)V"⟩, 6), (⟨"PackWright$Plan", "addStep", "(IILPackWright$Choice;)V"⟩, 6)]
theorem lw_r1 : ∀ q ∈ lw_privs_1, lw_okq q := List.forall_mem_cons.mpr ⟨lw_p0, List.forall_mem_cons.mpr ⟨lw_p1, List.forall_mem_cons.mpr ⟨lw_p2, List.forall_mem_cons.mpr ⟨lw_p3, List.forall_mem_cons.mpr ⟨lw_p4, List.forall_mem_cons.mpr ⟨lw_p5, List.forall_mem_cons.mpr ⟨lw_p6, List.forall_mem_cons.mpr ⟨lw_p7, List.forall_mem_cons.mpr ⟨lw_p8, List.forall_mem_cons.mpr ⟨lw_p9, List.forall_mem_cons.mpr ⟨lw_p10, List.forall_mem_cons.mpr ⟨lw_p11, List.forall_mem_cons.mpr ⟨lw_p12, List.forall_mem_cons.mpr ⟨lw_p13, List.forall_mem_cons.mpr ⟨lw_p14, List.forall_mem_cons.mpr ⟨lw_p15, fun _ h => absurd h List.not_mem_nil⟩⟩⟩⟩⟩⟩⟩⟩⟩⟩⟩⟩⟩⟩⟩⟩
theorem lw_p16 : lw_okq (⟨"PackWright$Plan", "putAll", "(LPackWright$Choice;LPackWright$Choice;I)V"⟩, 6) := ⟨⟨by decide +kernel, by decide +kernel⟩, List.mem_of_getElem? (i := 143) (by decide +kernel), List.mem_of_getElem? (i := 418) (by decide +kernel), List.mem_of_getElem? (i := 419) (by decide +kernel)⟩
theorem lw_p17 : lw_okq (⟨"PackWright$Cache", "putFirst", "(LPackWright$Version;I)V"⟩, 4) := ⟨⟨by decide +kernel, by decide +kernel⟩, List.mem_of_getElem? (i := 174) (by decide +kernel), List.mem_of_getElem? (i := 466) (by decide +kernel), List.mem_of_getElem? (i := 467) (by decide +kernel)⟩
theorem lw_p18 : lw_okq (⟨"PackWright", "mixPackage", "(JI)J"⟩, 13) := ⟨⟨by decide +kernel, by decide +kernel⟩, List.mem_of_getElem? (i := 22) (by decide +kernel), List.mem_of_getElem? (i := 520) (by decide +kernel), List.mem_of_getElem? (i := 521) (by decide +kernel)⟩
theorem lw_p19 : lw_okq (⟨"PackWright", "packThatIs", "(I)LPackWright$Pack;"⟩, 13) := ⟨⟨by decide +kernel, by decide +kernel⟩, List.mem_of_getElem? (i := 22) (by decide +kernel), List.mem_of_getElem? (i := 528) (by decide +kernel), List.mem_of_getElem? (i := 529) (by decide +kernel)⟩
theorem lw_p20 : lw_okq (⟨"java/lang/Throwable", "fillInStackTrace", "(I)Ljava/lang/Throwable;"⟩, 6) := ⟨⟨by decide +kernel, by decide +kernel⟩, List.mem_of_getElem? (i := 570) (by decide +kernel), List.mem_of_getElem? (i := 568) (by decide +kernel), List.mem_of_getElem? (i := 569) (by decide +kernel)⟩
theorem lw_p21 : lw_okq (⟨"PackWright", "versionThatIs", "(II)LPackWright$Version;"⟩, 13) := ⟨⟨by decide +kernel, by decide +kernel⟩, List.mem_of_getElem? (i := 22) (by decide +kernel), List.mem_of_getElem? (i := 646) (by decide +kernel), List.mem_of_getElem? (i := 647) (by decide +kernel)⟩
theorem lw_p22 : lw_okq (⟨"PackWright", "requireStep", "(I)V"⟩, 13) := ⟨⟨by decide +kernel, by decide +kernel⟩, List.mem_of_getElem? (i := 22) (by decide +kernel), List.mem_of_getElem? (i := 656) (by decide +kernel), List.mem_of_getElem? (i := 657) (by decide +kernel)⟩
theorem lw_p23 : lw_okq (⟨"PackWright", "requireOther", "(II)V"⟩, 13) := ⟨⟨by decide +kernel, by decide +kernel⟩, List.mem_of_getElem? (i := 22) (by decide +kernel), List.mem_of_getElem? (i := 804) (by decide +kernel), List.mem_of_getElem? (i := 805) (by decide +kernel)⟩
theorem lw_p24 : lw_okq (⟨"PackWright", "opened", "(II)I"⟩, 13) := ⟨⟨by decide +kernel, by decide +kernel⟩, List.mem_of_getElem? (i := 22) (by decide +kernel), List.mem_of_getElem? (i := 944) (by decide +kernel), List.mem_of_getElem? (i := 945) (by decide +kernel)⟩
theorem lw_p25 : lw_okq (⟨"PackWright", "requirePlan", "()V"⟩, 13) := ⟨⟨by decide +kernel, by decide +kernel⟩, List.mem_of_getElem? (i := 22) (by decide +kernel), List.mem_of_getElem? (i := 1028) (by decide +kernel), List.mem_of_getElem? (i := 1029) (by decide +kernel)⟩
theorem lw_p26 : lw_okq (⟨"PackWright", "doNextStep", "()Z"⟩, 13) := ⟨⟨by decide +kernel, by decide +kernel⟩, List.mem_of_getElem? (i := 22) (by decide +kernel), List.mem_of_getElem? (i := 1036) (by decide +kernel), List.mem_of_getElem? (i := 1037) (by decide +kernel)⟩
theorem lw_p27 : lw_okq (⟨"PackWrightModel", "no", "(I)I"⟩, 27) := ⟨⟨by decide +kernel, by decide +kernel⟩, List.mem_of_getElem? (i := 1059) (by decide +kernel), List.mem_of_getElem? (i := 1165) (by decide +kernel), List.mem_of_getElem? (i := 1166) (by decide +kernel)⟩
theorem lw_p28 : lw_okq (⟨"PackWrightModel", "isPackage", "(I)Z"⟩, 27) := ⟨⟨by decide +kernel, by decide +kernel⟩, List.mem_of_getElem? (i := 1059) (by decide +kernel), List.mem_of_getElem? (i := 1173) (by decide +kernel), List.mem_of_getElem? (i := 1174) (by decide +kernel)⟩
theorem lw_p29 : lw_okq (⟨"PackWrightModel", "ok", "(I)I"⟩, 27) := ⟨⟨by decide +kernel, by decide +kernel⟩, List.mem_of_getElem? (i := 1059) (by decide +kernel), List.mem_of_getElem? (i := 1205) (by decide +kernel), List.mem_of_getElem? (i := 1206) (by decide +kernel)⟩
theorem lw_p30 : lw_okq (⟨"PackWrightModel", "atPlace", "(II)I"⟩, 27) := ⟨⟨by decide +kernel, by decide +kernel⟩, List.mem_of_getElem? (i := 1059) (by decide +kernel), List.mem_of_getElem? (i := 1217) (by decide +kernel), List.mem_of_getElem? (i := 1218) (by decide +kernel)⟩
theorem lw_p31 : lw_okq (⟨"PackWrightModel", "allWishes", "()I"⟩, 27) := ⟨⟨by decide +kernel, by decide +kernel⟩, List.mem_of_getElem? (i := 1059) (by decide +kernel), List.mem_of_getElem? (i := 1244) (by decide +kernel), List.mem_of_getElem? (i := 1245) (by decide +kernel)⟩
def lw_privs_2 : List (MethodName × Nat) := [(⟨"PackWright$Plan", "putAll", "(LPackWright$Choice;LPackWright$Choice;I)V"⟩, 6), (⟨"PackWright$Cache", "putFirst", "(LPackWright$Version;I)V"⟩, 4), (⟨"PackWright", "mixPackage", "(JI)J"⟩, 13), (⟨"PackWright", "packThatIs", "(I)LPackWright$Pack;"⟩, 13), (⟨"java/lang/Throwable", "fillInStackTrace", "(I)Ljava/lang/Throwable;"⟩, 6), (⟨"PackWright", "versionThatIs", "(II)LPackWright$Version;"⟩, 13), (⟨"PackWright", "requireStep", "(I)V"⟩, 13), (⟨"PackWright", "requireOther", "(II)V"⟩, 13), (⟨"PackWright", "opened", "(II)I"⟩, 13), (⟨"PackWright", "requirePlan", "()V"⟩, 13), (⟨"PackWright", "doNextStep", "()Z"⟩, 13), (⟨"PackWrightModel", "no", "(I)I"⟩, 27), (⟨"PackWrightModel", "isPackage", "(I)Z"⟩, 27), (⟨"PackWrightModel", "ok", "(I)I"⟩, 27), (⟨"PackWrightModel", "atPlace", "(II)I"⟩, 27), (⟨"PackWrightModel", "allWishes", "()I"⟩, 27)]
theorem lw_r2 : ∀ q ∈ lw_privs_2, lw_okq q := List.forall_mem_cons.mpr ⟨lw_p16, List.forall_mem_cons.mpr ⟨lw_p17, List.forall_mem_cons.mpr ⟨lw_p18, List.forall_mem_cons.mpr ⟨lw_p19, List.forall_mem_cons.mpr ⟨lw_p20, List.forall_mem_cons.mpr ⟨lw_p21, List.forall_mem_cons.mpr ⟨lw_p22, List.forall_mem_cons.mpr ⟨lw_p23, List.forall_mem_cons.mpr ⟨lw_p24, List.forall_mem_cons.mpr ⟨lw_p25, List.forall_mem_cons.mpr ⟨lw_p26, List.forall_mem_cons.mpr ⟨lw_p27, List.forall_mem_cons.mpr ⟨lw_p28, List.forall_mem_cons.mpr ⟨lw_p29, List.forall_mem_cons.mpr ⟨lw_p30, List.forall_mem_cons.mpr ⟨lw_p31, fun _ h => absurd h List.not_mem_nil⟩⟩⟩⟩⟩⟩⟩⟩⟩⟩⟩⟩⟩⟩⟩⟩
theorem lw_p32 : lw_okq (⟨"PackWrightModel", "held", "(II)[I"⟩, 27) := ⟨⟨by decide +kernel, by decide +kernel⟩, List.mem_of_getElem? (i := 1059) (by decide +kernel), List.mem_of_getElem? (i := 1248) (by decide +kernel), List.mem_of_getElem? (i := 1249) (by decide +kernel)⟩
theorem lw_p33 : lw_okq (⟨"PackWrightModel", "features", "([II)[I"⟩, 27) := ⟨⟨by decide +kernel, by decide +kernel⟩, List.mem_of_getElem? (i := 1059) (by decide +kernel), List.mem_of_getElem? (i := 1255) (by decide +kernel), List.mem_of_getElem? (i := 1256) (by decide +kernel)⟩
theorem lw_p34 : lw_okq (⟨"PackWrightModel", "needed", "(I[I[I)I"⟩, 27) := ⟨⟨by decide +kernel, by decide +kernel⟩, List.mem_of_getElem? (i := 1059) (by decide +kernel), List.mem_of_getElem? (i := 1262) (by decide +kernel), List.mem_of_getElem? (i := 1263) (by decide +kernel)⟩
theorem lw_p35 : lw_okq (⟨"PackWrightModel", "found", "(I[I)[I"⟩, 27) := ⟨⟨by decide +kernel, by decide +kernel⟩, List.mem_of_getElem? (i := 1059) (by decide +kernel), List.mem_of_getElem? (i := 1266) (by decide +kernel), List.mem_of_getElem? (i := 1267) (by decide +kernel)⟩
theorem lw_p36 : lw_okq (⟨"PackWrightModel", "nextAsked", "([II)I"⟩, 27) := ⟨⟨by decide +kernel, by decide +kernel⟩, List.mem_of_getElem? (i := 1059) (by decide +kernel), List.mem_of_getElem? (i := 1270) (by decide +kernel), List.mem_of_getElem? (i := 1271) (by decide +kernel)⟩
theorem lw_p37 : lw_okq (⟨"PackWrightModel", "candidate", "(III)I"⟩, 27) := ⟨⟨by decide +kernel, by decide +kernel⟩, List.mem_of_getElem? (i := 1059) (by decide +kernel), List.mem_of_getElem? (i := 1274) (by decide +kernel), List.mem_of_getElem? (i := 1275) (by decide +kernel)⟩
theorem lw_p38 : lw_okq (⟨"PackWrightModel", "goesTogether", "([IIZ)Z"⟩, 27) := ⟨⟨by decide +kernel, by decide +kernel⟩, List.mem_of_getElem? (i := 1059) (by decide +kernel), List.mem_of_getElem? (i := 1278) (by decide +kernel), List.mem_of_getElem? (i := 1279) (by decide +kernel)⟩
theorem lw_p39 : lw_okq (⟨"PackWrightModel", "isLetIn", "([IIIIZ)Z"⟩, 27) := ⟨⟨by decide +kernel, by decide +kernel⟩, List.mem_of_getElem? (i := 1059) (by decide +kernel), List.mem_of_getElem? (i := 1282) (by decide +kernel), List.mem_of_getElem? (i := 1283) (by decide +kernel)⟩
theorem lw_p40 : lw_okq (⟨"PackWrightModel", "changes", "([I)I"⟩, 27) := ⟨⟨by decide +kernel, by decide +kernel⟩, List.mem_of_getElem? (i := 1059) (by decide +kernel), List.mem_of_getElem? (i := 1286) (by decide +kernel), List.mem_of_getElem? (i := 1287) (by decide +kernel)⟩
theorem lw_p41 : lw_okq (⟨"PackWrightModel", "cannot", "(I)Z"⟩, 27) := ⟨⟨by decide +kernel, by decide +kernel⟩, List.mem_of_getElem? (i := 1059) (by decide +kernel), List.mem_of_getElem? (i := 1318) (by decide +kernel), List.mem_of_getElem? (i := 1319) (by decide +kernel)⟩
theorem lw_p42 : lw_okq (⟨"PackWrightModel", "depths", "()[I"⟩, 27) := ⟨⟨by decide +kernel, by decide +kernel⟩, List.mem_of_getElem? (i := 1059) (by decide +kernel), List.mem_of_getElem? (i := 1326) (by decide +kernel), List.mem_of_getElem? (i := 1327) (by decide +kernel)⟩
theorem lw_p43 : lw_okq (⟨"PackWrightModel", "chain", "(II)I"⟩, 27) := ⟨⟨by decide +kernel, by decide +kernel⟩, List.mem_of_getElem? (i := 1059) (by decide +kernel), List.mem_of_getElem? (i := 1338) (by decide +kernel), List.mem_of_getElem? (i := 1339) (by decide +kernel)⟩
theorem lw_p44 : lw_okq (⟨"PackWrightModel", "neededNow", "(I)I"⟩, 27) := ⟨⟨by decide +kernel, by decide +kernel⟩, List.mem_of_getElem? (i := 1059) (by decide +kernel), List.mem_of_getElem? (i := 1346) (by decide +kernel), List.mem_of_getElem? (i := 1347) (by decide +kernel)⟩
theorem lw_p45 : lw_okq (⟨"PackWrightModel", "newerNow", "(I)I"⟩, 27) := ⟨⟨by decide +kernel, by decide +kernel⟩, List.mem_of_getElem? (i := 1059) (by decide +kernel), List.mem_of_getElem? (i := 1354) (by decide +kernel), List.mem_of_getElem? (i := 1355) (by decide +kernel)⟩
theorem lw_p46 : lw_okq (⟨"PackWrightModel", "shrinkCache", "()V"⟩, 27) := ⟨⟨by decide +kernel, by decide +kernel⟩, List.mem_of_getElem? (i := 1059) (by decide +kernel), List.mem_of_getElem? (i := 1366) (by decide +kernel), List.mem_of_getElem? (i := 1367) (by decide +kernel)⟩
theorem lw_p47 : lw_okq (⟨"PackWrightModel", "cachedSize", "()I"⟩, 27) := ⟨⟨by decide +kernel, by decide +kernel⟩, List.mem_of_getElem? (i := 1059) (by decide +kernel), List.mem_of_getElem? (i := 1370) (by decide +kernel), List.mem_of_getElem? (i := 1371) (by decide +kernel)⟩
def lw_privs_3 : List (MethodName × Nat) := [(⟨"PackWrightModel", "held", "(II)[I"⟩, 27), (⟨"PackWrightModel", "features", "([II)[I"⟩, 27), (⟨"PackWrightModel", "needed", "(I[I[I)I"⟩, 27), (⟨"PackWrightModel", "found", "(I[I)[I"⟩, 27), (⟨"PackWrightModel", "nextAsked", "([II)I"⟩, 27), (⟨"PackWrightModel", "candidate", "(III)I"⟩, 27), (⟨"PackWrightModel", "goesTogether", "([IIZ)Z"⟩, 27), (⟨"PackWrightModel", "isLetIn", "([IIIIZ)Z"⟩, 27), (⟨"PackWrightModel", "changes", "([I)I"⟩, 27), (⟨"PackWrightModel", "cannot", "(I)Z"⟩, 27), (⟨"PackWrightModel", "depths", "()[I"⟩, 27), (⟨"PackWrightModel", "chain", "(II)I"⟩, 27), (⟨"PackWrightModel", "neededNow", "(I)I"⟩, 27), (⟨"PackWrightModel", "newerNow", "(I)I"⟩, 27), (⟨"PackWrightModel", "shrinkCache", "()V"⟩, 27), (⟨"PackWrightModel", "cachedSize", "()I"⟩, 27)]
theorem lw_r3 : ∀ q ∈ lw_privs_3, lw_okq q := List.forall_mem_cons.mpr ⟨lw_p32, List.forall_mem_cons.mpr ⟨lw_p33, List.forall_mem_cons.mpr ⟨lw_p34, List.forall_mem_cons.mpr ⟨lw_p35, List.forall_mem_cons.mpr ⟨lw_p36, List.forall_mem_cons.mpr ⟨lw_p37, List.forall_mem_cons.mpr ⟨lw_p38, List.forall_mem_cons.mpr ⟨lw_p39, List.forall_mem_cons.mpr ⟨lw_p40, List.forall_mem_cons.mpr ⟨lw_p41, List.forall_mem_cons.mpr ⟨lw_p42, List.forall_mem_cons.mpr ⟨lw_p43, List.forall_mem_cons.mpr ⟨lw_p44, List.forall_mem_cons.mpr ⟨lw_p45, List.forall_mem_cons.mpr ⟨lw_p46, List.forall_mem_cons.mpr ⟨lw_p47, fun _ h => absurd h List.not_mem_nil⟩⟩⟩⟩⟩⟩⟩⟩⟩⟩⟩⟩⟩⟩⟩⟩
theorem lw_p48 : lw_okq (⟨"PackWrightModel", "sizeOf", "(I)I"⟩, 27) := ⟨⟨by decide +kernel, by decide +kernel⟩, List.mem_of_getElem? (i := 1059) (by decide +kernel), List.mem_of_getElem? (i := 1374) (by decide +kernel), List.mem_of_getElem? (i := 1375) (by decide +kernel)⟩
theorem lw_p49 : lw_okq (⟨"PackWrightModel", "step", "(II)V"⟩, 27) := ⟨⟨by decide +kernel, by decide +kernel⟩, List.mem_of_getElem? (i := 1059) (by decide +kernel), List.mem_of_getElem? (i := 1385) (by decide +kernel), List.mem_of_getElem? (i := 1386) (by decide +kernel)⟩
theorem lw_p50 : lw_okq (⟨"PackWrightModel", "stepsNow", "()I"⟩, 27) := ⟨⟨by decide +kernel, by decide +kernel⟩, List.mem_of_getElem? (i := 1059) (by decide +kernel), List.mem_of_getElem? (i := 1393) (by decide +kernel), List.mem_of_getElem? (i := 1394) (by decide +kernel)⟩
theorem lw_p51 : lw_okq (⟨"PackWrightModel", "takenNow", "()I"⟩, 27) := ⟨⟨by decide +kernel, by decide +kernel⟩, List.mem_of_getElem? (i := 1059) (by decide +kernel), List.mem_of_getElem? (i := 1409) (by decide +kernel), List.mem_of_getElem? (i := 1410) (by decide +kernel)⟩
theorem lw_p52 : lw_okq (⟨"PackWrightModel", "fetch", "(I)I"⟩, 27) := ⟨⟨by decide +kernel, by decide +kernel⟩, List.mem_of_getElem? (i := 1059) (by decide +kernel), List.mem_of_getElem? (i := 1413) (by decide +kernel), List.mem_of_getElem? (i := 1414) (by decide +kernel)⟩
theorem lw_p53 : lw_okq (⟨"PackWrightModel", "ageNow", "(I)I"⟩, 27) := ⟨⟨by decide +kernel, by decide +kernel⟩, List.mem_of_getElem? (i := 1059) (by decide +kernel), List.mem_of_getElem? (i := 1417) (by decide +kernel), List.mem_of_getElem? (i := 1418) (by decide +kernel)⟩
theorem lw_p54 : lw_okq (⟨"PackWrightModel", "fetchLater", "()I"⟩, 27) := ⟨⟨by decide +kernel, by decide +kernel⟩, List.mem_of_getElem? (i := 1059) (by decide +kernel), List.mem_of_getElem? (i := 1449) (by decide +kernel), List.mem_of_getElem? (i := 1450) (by decide +kernel)⟩
theorem lw_p55 : lw_okq (⟨"PackWrightModel", "roomLater", "()I"⟩, 27) := ⟨⟨by decide +kernel, by decide +kernel⟩, List.mem_of_getElem? (i := 1059) (by decide +kernel), List.mem_of_getElem? (i := 1457) (by decide +kernel), List.mem_of_getElem? (i := 1458) (by decide +kernel)⟩
theorem lw_p56 : lw_okq (⟨"PackWrightModel", "isAsLocked", "()Z"⟩, 27) := ⟨⟨by decide +kernel, by decide +kernel⟩, List.mem_of_getElem? (i := 1059) (by decide +kernel), List.mem_of_getElem? (i := 1466) (by decide +kernel), List.mem_of_getElem? (i := 1467) (by decide +kernel)⟩
def lw_privs_4 : List (MethodName × Nat) := [(⟨"PackWrightModel", "sizeOf", "(I)I"⟩, 27), (⟨"PackWrightModel", "step", "(II)V"⟩, 27), (⟨"PackWrightModel", "stepsNow", "()I"⟩, 27), (⟨"PackWrightModel", "takenNow", "()I"⟩, 27), (⟨"PackWrightModel", "fetch", "(I)I"⟩, 27), (⟨"PackWrightModel", "ageNow", "(I)I"⟩, 27), (⟨"PackWrightModel", "fetchLater", "()I"⟩, 27), (⟨"PackWrightModel", "roomLater", "()I"⟩, 27), (⟨"PackWrightModel", "isAsLocked", "()Z"⟩, 27)]
theorem lw_r4 : ∀ q ∈ lw_privs_4, lw_okq q := List.forall_mem_cons.mpr ⟨lw_p48, List.forall_mem_cons.mpr ⟨lw_p49, List.forall_mem_cons.mpr ⟨lw_p50, List.forall_mem_cons.mpr ⟨lw_p51, List.forall_mem_cons.mpr ⟨lw_p52, List.forall_mem_cons.mpr ⟨lw_p53, List.forall_mem_cons.mpr ⟨lw_p54, List.forall_mem_cons.mpr ⟨lw_p55, List.forall_mem_cons.mpr ⟨lw_p56, fun _ h => absurd h List.not_mem_nil⟩⟩⟩⟩⟩⟩⟩⟩⟩
def lw_privs : List (MethodName × Nat) := lw_privs_1 ++ (lw_privs_2 ++ (lw_privs_3 ++ (lw_privs_4)))
def lw_tbl : List Cond := k2_sels lw_privs ++ tables_1
theorem lw_privs_ok : ∀ q ∈ lw_privs, lw_okq q := by
  show ∀ q ∈ lw_privs_1 ++ (lw_privs_2 ++ (lw_privs_3 ++ (lw_privs_4))), lw_okq q
  exact List.forall_mem_append.mpr ⟨lw_r1, List.forall_mem_append.mpr ⟨lw_r2, List.forall_mem_append.mpr ⟨lw_r3, lw_r4⟩⟩⟩
/-- the streams that the claim lets the run draw from -/
abbrev lw_cs : List Choice := [Jvm.Choice.named "NaN.bits"]
theorem lw_bits : nanBits ∈ lw_cs := by first | decide | exact List.mem_cons_self | simp [lw_cs, nanBits]
def xT0 : u_T := fun k => match k with
  | 0 => ("PackWright$Cache", "held", "[LPackWright$Version;", true)
  | 1 => ("PackWright$Cache", "count", "I", false)
  | 2 => ("PackWright$Cache", "used", "I", false)
  | _ => ("PackWright$Cache", "room", "I", false)
def xY0 : Nat → FieldType := fun k => match k with
  | 0 => .array (.object "PackWright$Version")
  | 1 => .int
  | 2 => .int
  | _ => .int
theorem xN0 : ∀ a, a < 4 → ∀ b, b < 4 → a ≠ b → (xT0 a).2.1 ≠ (xT0 b).2.1 := by decide +kernel
theorem xY0_ok : ∀ k, k < 4 → parseFieldDescriptor (xT0 k).2.2.1 = some (xY0 k) := by decide +kernel
def xT1 : u_T := fun k => match k with
  | 0 => ("PackWright$Chains", "lengths", "[I", true)
  | 1 => ("PackWright$Chains", "ahead", "[I", true)
  | 2 => ("PackWright$Chains", "queue", "[I", true)
  | _ => ("PackWright$Chains", "queued", "I", false)
def xY1 : Nat → FieldType := fun k => match k with
  | 0 => .array .int
  | 1 => .array .int
  | 2 => .array .int
  | _ => .int
theorem xN1 : ∀ a, a < 4 → ∀ b, b < 4 → a ≠ b → (xT1 a).2.1 ≠ (xT1 b).2.1 := by decide +kernel
theorem xY1_ok : ∀ k, k < 4 → parseFieldDescriptor (xT1 k).2.2.1 = some (xY1 k) := by decide +kernel
def xT2 : u_T := fun k => match k with
  | 0 => ("PackWright$Choice", "chosen", "[LPackWright$Version;", true)
  | _ => ("PackWright$Choice", "on", "[I", true)
def xY2 : Nat → FieldType := fun k => match k with
  | 0 => .array (.object "PackWright$Version")
  | _ => .array .int
theorem xN2 : ∀ a, a < 2 → ∀ b, b < 2 → a ≠ b → (xT2 a).2.1 ≠ (xT2 b).2.1 := by decide +kernel
theorem xY2_ok : ∀ k, k < 2 → parseFieldDescriptor (xT2 k).2.2.1 = some (xY2 k) := by decide +kernel
def xT3 : u_T := fun k => match k with
  | 0 => ("PackWright$Pack", "versions", "[LPackWright$Version;", true)
  | 1 => ("PackWright$Pack", "greatestFirst", "[LPackWright$Version;", true)
  | _ => ("PackWright$Pack", "count", "I", false)
def xY3 : Nat → FieldType := fun k => match k with
  | 0 => .array (.object "PackWright$Version")
  | 1 => .array (.object "PackWright$Version")
  | _ => .int
theorem xN3 : ∀ a, a < 3 → ∀ b, b < 3 → a ≠ b → (xT3 a).2.1 ≠ (xT3 b).2.1 := by decide +kernel
theorem xY3_ok : ∀ k, k < 3 → parseFieldDescriptor (xT3 k).2.2.1 = some (xY3 k) := by decide +kernel
def xT4 : u_T := fun k => match k with
  | 0 => ("PackWright$Plan", "isThere", "Z", false)
  | 1 => ("PackWright$Plan", "count", "I", false)
  | 2 => ("PackWright$Plan", "done", "I", false)
  | 3 => ("PackWright$Plan", "kinds", "[I", true)
  | 4 => ("PackWright$Plan", "packs", "[I", true)
  | _ => ("PackWright$Plan", "before", "[LPackWright$Version;", true)
def xY4 : Nat → FieldType := fun k => match k with
  | 0 => .boolean
  | 1 => .int
  | 2 => .int
  | 3 => .array .int
  | 4 => .array .int
  | _ => .array (.object "PackWright$Version")
theorem xN4 : ∀ a, a < 6 → ∀ b, b < 6 → a ≠ b → (xT4 a).2.1 ≠ (xT4 b).2.1 := by decide +kernel
theorem xY4_ok : ∀ k, k < 6 → parseFieldDescriptor (xT4 k).2.2.1 = some (xY4 k) := by decide +kernel
def xT5 : u_T := fun k => match k with
  | 0 => ("PackWright$Resolver", "asked", "LPackWright$Wishes;", true)
  | 1 => ("PackWright$Resolver", "choice", "LPackWright$Choice;", true)
  | 2 => ("PackWright$Resolver", "tryCount", "I", false)
  | 3 => ("PackWright$Resolver", "candidates", "[LPackWright$Version;", true)
  | 4 => ("PackWright$Resolver", "candidateCounts", "[I", true)
  | 5 => ("PackWright$Resolver", "triedCounts", "[I", true)
  | 6 => ("PackWright$Resolver", "row", "[I", true)
  | 7 => ("PackWright$Resolver", "rowLength", "I", false)
  | 8 => ("PackWright$Resolver", "rowSet", "I", false)
  | 9 => ("PackWright$Resolver", "levels", "[I", true)
  | _ => ("PackWright$Resolver", "levelCount", "I", false)
def xY5 : Nat → FieldType := fun k => match k with
  | 0 => .object "PackWright$Wishes"
  | 1 => .object "PackWright$Choice"
  | 2 => .int
  | 3 => .array (.object "PackWright$Version")
  | 4 => .array .int
  | 5 => .array .int
  | 6 => .array .int
  | 7 => .int
  | 8 => .int
  | 9 => .array .int
  | _ => .int
theorem xN5 : ∀ a, a < 11 → ∀ b, b < 11 → a ≠ b → (xT5 a).2.1 ≠ (xT5 b).2.1 := by decide +kernel
theorem xY5_ok : ∀ k, k < 11 → parseFieldDescriptor (xT5 k).2.2.1 = some (xY5 k) := by decide +kernel
def xT6 : u_T := fun k => match k with
  | 0 => ("PackWright$Wishes", "row", "[LPackWright$Claim;", true)
  | _ => ("PackWright$Wishes", "count", "I", false)
def xY6 : Nat → FieldType := fun k => match k with
  | 0 => .array (.object "PackWright$Claim")
  | _ => .int
theorem xN6 : ∀ a, a < 2 → ∀ b, b < 2 → a ≠ b → (xT6 a).2.1 ≠ (xT6 b).2.1 := by decide +kernel
theorem xY6_ok : ∀ k, k < 2 → parseFieldDescriptor (xT6 k).2.2.1 = some (xY6 k) := by decide +kernel
def xT7 : u_T := fun k => match k with
  | 0 => ("PackWright", "packs", "[LPackWright$Pack;", true)
  | 1 => ("PackWright", "packCount", "I", false)
  | 2 => ("PackWright", "wished", "LPackWright$Wishes;", true)
  | 3 => ("PackWright", "lock", "LPackWright$Choice;", true)
  | 4 => ("PackWright", "onDisk", "LPackWright$Choice;", true)
  | 5 => ("PackWright", "resolver", "LPackWright$Resolver;", true)
  | 6 => ("PackWright", "chains", "LPackWright$Chains;", true)
  | 7 => ("PackWright", "planned", "LPackWright$Plan;", true)
  | 8 => ("PackWright", "cache", "LPackWright$Cache;", true)
  | 9 => ("PackWright", "trialCache", "LPackWright$Cache;", true)
  | 10 => ("PackWright", "diskRoom", "I", false)
  | 11 => ("PackWright", "latestTries", "I", false)
  | _ => ("PackWright", "fetchCount", "I", false)
def xY7 : Nat → FieldType := fun k => match k with
  | 0 => .array (.object "PackWright$Pack")
  | 1 => .int
  | 2 => .object "PackWright$Wishes"
  | 3 => .object "PackWright$Choice"
  | 4 => .object "PackWright$Choice"
  | 5 => .object "PackWright$Resolver"
  | 6 => .object "PackWright$Chains"
  | 7 => .object "PackWright$Plan"
  | 8 => .object "PackWright$Cache"
  | 9 => .object "PackWright$Cache"
  | 10 => .int
  | 11 => .int
  | _ => .int
theorem xN7 : ∀ a, a < 13 → ∀ b, b < 13 → a ≠ b → (xT7 a).2.1 ≠ (xT7 b).2.1 := by decide +kernel
theorem xY7_ok : ∀ k, k < 13 → parseFieldDescriptor (xT7 k).2.2.1 = some (xY7 k) := by decide +kernel
def xT8 : u_T := fun k => match k with
  | 0 => ("PackWrightModel", "thrown", "I", false)
  | 1 => ("PackWrightModel", "packages", "I", false)
  | 2 => ("PackWrightModel", "count", "[I", true)
  | 3 => ("PackWrightModel", "size", "[[I", true)
  | 4 => ("PackWrightModel", "rank", "[[I", true)
  | 5 => ("PackWrightModel", "isWithdrawn", "[[Z", true)
  | 6 => ("PackWrightModel", "needs", "[[I", true)
  | 7 => ("PackWrightModel", "clashes", "[[I", true)
  | 8 => ("PackWrightModel", "need", "[[[I", true)
  | 9 => ("PackWrightModel", "clash", "[[[I", true)
  | 10 => ("PackWrightModel", "wishes", "I", false)
  | 11 => ("PackWrightModel", "wish", "[I", true)
  | 12 => ("PackWrightModel", "lock", "[I", false)
  | 13 => ("PackWrightModel", "tries", "I", false)
  | 14 => ("PackWrightModel", "installed", "[I", false)
  | 15 => ("PackWrightModel", "disk", "I", false)
  | 16 => ("PackWrightModel", "cacheRoom", "I", false)
  | 17 => ("PackWrightModel", "fetched", "I", false)
  | 18 => ("PackWrightModel", "cached", "I", false)
  | 19 => ("PackWrightModel", "cache", "[I", false)
  | 20 => ("PackWrightModel", "isPlan", "Z", false)
  | 21 => ("PackWrightModel", "steps", "I", false)
  | 22 => ("PackWrightModel", "done", "I", false)
  | 23 => ("PackWrightModel", "stepKind", "[I", true)
  | 24 => ("PackWrightModel", "stepPackage", "[I", true)
  | 25 => ("PackWrightModel", "before", "[I", false)
  | _ => ("PackWrightModel", "tried", "I", false)
def xY8 : Nat → FieldType := fun k => match k with
  | 0 => .int
  | 1 => .int
  | 2 => .array .int
  | 3 => .array (.array .int)
  | 4 => .array (.array .int)
  | 5 => .array (.array .boolean)
  | 6 => .array (.array .int)
  | 7 => .array (.array .int)
  | 8 => .array (.array (.array .int))
  | 9 => .array (.array (.array .int))
  | 10 => .int
  | 11 => .array .int
  | 12 => .array .int
  | 13 => .int
  | 14 => .array .int
  | 15 => .int
  | 16 => .int
  | 17 => .int
  | 18 => .int
  | 19 => .array .int
  | 20 => .boolean
  | 21 => .int
  | 22 => .int
  | 23 => .array .int
  | 24 => .array .int
  | 25 => .array .int
  | _ => .int
theorem xN8 : ∀ a, a < 27 → ∀ b, b < 27 → a ≠ b → (xT8 a).2.1 ≠ (xT8 b).2.1 := by decide +kernel
theorem xY8_ok : ∀ k, k < 27 → parseFieldDescriptor (xT8 k).2.2.1 = some (xY8 k) := by decide +kernel
/-- the classes whose objects the worlds hold -/
abbrev classes : List vw_C := [("PackWright$Cache", xT0, 4), ("PackWright$Chains", xT1, 4), ("PackWright$Choice", xT2, 2), ("PackWright$Pack", xT3, 3), ("PackWright$Plan", xT4, 6), ("PackWright$Resolver", xT5, 11), ("PackWright$Wishes", xT6, 2), ("PackWright", xT7, 13), ("PackWrightModel", xT8, 27)]
end
section
/-! ===== BEGIN words of one list among another's, by their places ===== -/
theorem goodIn_r {big : List Cond} (ws : List Cond) (ps : List Nat) (hp : ws = ps.filterMap (fun i => big[i]?)) (h : ws.all goodWord = true) : GoodIn big ws := by
  intro w hw
  have h1 := List.all_eq_true.mp h w hw
  rw [hp] at hw
  obtain ⟨i, -, hi⟩ := List.mem_filterMap.mp hw
  have hm : w ∈ big := by first | exact List.mem_of_getElem? hi | exact List.getElem?_mem hi
  exact ⟨hm, good_of_word h1⟩
theorem goodIn_app {big a b : List Cond} (ha : GoodIn big a) (hb : GoodIn big b) : GoodIn big (a ++ b) := fun w h => (List.mem_append.mp h).elim (ha w) (hb w)
theorem goodIn_ca {big a b : List Cond} {c : Cond} (ha : GoodIn big (c :: a)) (hb : GoodIn big b) : GoodIn big (c :: (a ++ b)) := fun w h => (List.mem_cons.mp h).elim (fun e => ha w (List.mem_cons.mpr (Or.inl e))) (fun h => (List.mem_append.mp h).elim (fun h => ha w (List.mem_cons.mpr (Or.inr h))) (hb w))
theorem goodIn_sub {big ws : List Cond} (hm : ∀ w ∈ ws, w ∈ big) (h : ws.all goodWord = true) : GoodIn big ws := fun w hw => ⟨hm w hw, good_of_word (List.all_eq_true.mp h w hw)⟩
/-! ===== END ===== -/
/-! ===== BEGIN exceptions that leave a method, and their catching by the caller (launches without stack traces) ===== -/
section VXA
/-! The laws vx_back, vx_callV, vx_callS, vx_callSW, vx_throw0, vx_throwS follow proofs of the library, with one case more: JvmDerived/Free/Laws.lean (Back.of_free), Shelf42/LK1.lean (callV, callS), Shelf/KitTraced.lean (throwNew0V, throwNewS). -/
/-- where a method has thrown q: the class by its name, the cell, what was written, the world -/
def vx_T (XC : String → State → State → Prop) (st : State) (q : Addr) (t : State) (mc ms : Nat) (free : Addr → Prop) : Prop :=
  ∃ (E : String) (ce : Cell) (L : List Loc), XC E st t ∧ t.heap[q]? = some ce ∧ ce.vm = .none ∧ st.vm.findClass E = some ce.cls ∧ st.WarmedH t.vm ∧ st.sameButNew ({ t with vm := st.vm } : State) L mc ms ∧ ∀ z ∈ L, free z.base
def vx_Q (Qc : Array Value → State → Outcome → State → Prop) (XC : String → State → State → Prop) (mc ms : Nat) (free : Addr → Prop) : Array Value → State → Outcome → State → Prop := fun a st o t =>
  (Qc a st o t ∧ ∃ L, FrameEnd st o t L mc ms ∧ ∀ q ∈ L, free q.base) ∨ ∃ q, o = .threw q ∧ vx_T XC st q t mc ms free
/-- a callee that returns or throws -/
def vx_Met (l : Launch) (y : MethodName) (ws : List Cond) (rm : Room) (Pc : Array Value → State → Prop) (Qc : Array Value → State → Outcome → State → Prop) (XC : String → State → State → Prop) (mc ms : Nat) (free : Addr → Prop) : Prop :=
  MetFree l y (headSpec ws rm) Pc (fun _ _ _ _ _ => True) (vx_Q Qc XC mc ms free)
def vx_Post (XC : String → State → State → Prop) (mc ms : Nat) (free : Addr → Prop) : Pt → Array Value → Addr → Pt → Prop := fun A a q B =>
  ∃ (g : JFrame) (mk : MethodId) (t : State) (L : List Loc) (E : String) (ce : Cell), B.U.heap = t.heap ∧ B.U.vm = t.vm ∧ XC E (A.U.calling g mk a) t ∧ t.heap[q]? = some ce ∧ ce.vm = .none ∧ A.U.vm.findClass E = some ce.cls ∧ B.locs = A.locs ++ L ∧ (∀ z ∈ L, free z.base) ∧ B.cells = A.cells + mc ∧ B.slots = A.slots + ms
def vx_Back (l : Launch) (R : Room) (p : Program) (e : Env) (below : List Frame) (s : State) (sargs : Array Value) (y : MethodName) (len W9 : Nat)
    (Pre : Pt → Array Value → Prop) (Post : Pt → Array Value → Option Value → Pt → Prop) (PostX : Pt → Array Value → Addr → Pt → Prop) : Prop :=
  ∀ (m : MethodId) (meth : Method) (c : Code) (A : Pt) (g : JFrame) (ig : Instr) (mk : MethodId) (a : Array Value),
    Stand p l e R s m sargs below meth c A.U A.locs A.cells A.slots → g.method = m → g.locals.size = c.maxLocals → decode c.code g.pc = .ok (ig, len) →
    2 * g.monitorRoom + (g.stack.map fun v => v.category).sum ≤ W9 → A.U.methodNamed? y = some mk → Pre A a →
    (∃ (v : Option Value) (B : Pt), Stand p l e R s m sargs below meth c B.U B.locs B.cells B.slots ∧ Post A a v B ∧
      Steps p.tables e below (doInvoke e (A.U.setTop g) [] mk a).1 (B.U.setTop { g with pc := g.pc + len, stack := v.toList ++ g.stack })) ∨
    (∃ (q : Addr) (B : Pt), Stand p l e R s m sargs below meth c B.U B.locs B.cells B.slots ∧ PostX A a q B ∧
      Steps p.tables e below (doInvoke e (A.U.setTop g) [] mk a).1 ((B.U.setTop g).pushFrame (.throwing q)))
section Payer
variable {l : Launch} {R : Room} {p : Program} {e : Env} {below : List Frame} {s : State} {sargs : Array Value} {y : MethodName} {len W9 : Nat}
theorem vx_back {ws : List Cond} {rm : Room} {Pc : Array Value → State → Prop} {Qc : Array Value → State → Outcome → State → Prop} {XC : String → State → State → Prop} {mc ms : Nat} {free : Addr → Prop} {bytes : ByteArray} {maxL : Nat} {ret : Option FieldType}
    (hM : vx_Met l y ws rm Pc Qc XC mc ms free) (hblind : FrameBlind Pc) (hrc : rm.cells = mc) (hrs : rm.slots = ms)
    (hframes : rm.frames + 1 ≤ R.frames) (hlocals : W9 + (maxL + 11) + rm.locals ≤ R.locals)
    (hws : ∀ w ∈ ws, ∀ a' U, s.WarmedH U.vm → w.before a' U = true) (hcode : Cond.code y bytes maxL ret ∈ ws) (hinit : ∀ a' U, s.WarmedH U.vm → (Cond.initialized y.cls).before a' U = true) :
    vx_Back l R p e below s sargs y len W9 (PreOf R mc ms Pc) (PostOf Qc mc ms free) (vx_Post XC mc ms free) := by
  intro m meth c A g ig mk a X hg hsize hdg hW hn hp
  have h1 : (headSpec ws rm).pre.before a A.U = true := atoms_intro fun w hw => hws w hw _ _ X.warmed
  have h2 : (Cond.code y bytes maxL ret).before a A.U = true := hws _ hcode _ _ X.warmed
  have h3 : (Cond.initialized y.cls).before a A.U = true := hinit _ _ X.warmed
  have h4 : A.cells + (headSpec ws rm).room.cells ≤ R.cells := by rw [show (headSpec ws rm).room.cells = mc from hrc]; exact hp.1
  have h5 : A.slots + (headSpec ws rm).room.slots ≤ R.slots := by rw [show (headSpec ws rm).room.slots = ms from hrs]; exact hp.2.1
  have hPc : Pc a (A.U.calling g mk a) := hblind _ _ _ _ hp.2.2
  obtain ⟨U, Ls, c0, s0⟩ := A
  dsimp only [Pt.U, Pt.locs, Pt.cells, Pt.slots] at h1 h2 h3 h4 h5 X hn hPc ⊢
  obtain ⟨methY, cY, hmY, hcY, -, hlY, -, -, -, -⟩ := Cond.code_spec hn h2
  obtain ⟨kY, hkY, -⟩ := className_of_methodNamed hn
  have hinitY : kY.init = .initialized := Cond.initialized_spec (findClass_of_methodNamed hn) hkY h3
  have h : At U g.method c below := by rw [hg]; exact X.here
  have hlocals9 : W9 + (maxL + 11) + (headSpec ws rm).room.locals ≤ R.locals := hlocals
  have happ : (headSpec ws rm).appliesLoose y e.platform (U.calling g mk a) = true :=
    Spec.appliesLoose_calling (g := g) h hdg hn hkY hinitY
      (X.room_calling (g := g) (R' := (headSpec ws rm).room) hsize hmY hcY hframes (by rw [hlY]; omega) h4 h5) h1
  obtain ⟨mid, hmid⟩ := h.above
  have hfr : (U.setTop g).frames = (.java g :: mid) ++ below := by rw [State.frames_setTop' g h.top, hmid]; rfl
  obtain ⟨o, s₂, hsteps, -, hend, hq⟩ := Steps.callFree hM p X.admits X.cas X.clock (acts := []) hfr happ hPc trivial
  have hq' : vx_Q Qc XC mc ms free a (U.calling g mk a) o s₂ := hq
  rw [State.frames_setTop' g h.top] at hend
  obtain ⟨g₀, hg0⟩ := Option.isSome_iff_exists.mp h.top
  obtain ⟨r, hr⟩ := State.topJava?_eq_some.mp hg0
  have hr' : (({ U with heap := s₂.heap, slotsUsed := s₂.slotsUsed } : State).setVm s₂.vm).frames = .java g₀ :: r := hr
  rcases hq' with ⟨hqc, L, hfe, hL⟩ | ⟨q, rfl, E, ce, L, hx, hce, hcv, hcl, hW₂, hsm, hL⟩
  · obtain ⟨⟨v, rfl⟩, hW₂, e2, q2, q3, q4, q5, q6⟩ := id hfe
    have e3 : s₂ = ({ (U.calling g mk a).setFrames s₂.frames with heap := s₂.heap, slotsUsed := s₂.slotsUsed } : State).setVm s₂.vm := by
      have : s₂ = ({ s₂ with vm := (U.calling g mk a).vm } : State).setVm s₂.vm := rfl
      rw [e2] at this
      exact this
    obtain ⟨c₂, i₂, len₂, hc₂, hd₂, hf₂⟩ := hend
    have hW' : U.WarmedH s₂.vm := hW₂
    have hcc : c₂ = c := by
      have h1 : s₂.code? g.method = U.code? g.method := by
        rw [State.code?_eq, State.code?_eq, hW'.alike.method?]
      exact Option.some.inj (hc₂.symm.trans (h1.trans h.code))
    subst hcc
    have hlen : len₂ = len := by rw [hdg] at hd₂; cases hd₂; rfl
    subst hlen
    have hs₂ : s₂ = (({ U with heap := s₂.heap, slotsUsed := s₂.slotsUsed } : State).setVm s₂.vm).setTop { g with pc := g.pc + len₂, stack := v.toList ++ g.stack } := by
      refine e3.trans ?_
      rw [hf₂, State.calling_eq h.top, State.setFrames_setFrames, State.setTop_of_frames _ hr', hr]
      rfl
    have hsame : U.sameButNew ({ U with heap := s₂.heap, slotsUsed := s₂.slotsUsed } : State) L mc ms := by
      refine ⟨?_, q2, q3, q4, q5, q6⟩
      obtain ⟨t, ht, -⟩ := State.frames_cons hr
      show ({ U with heap := s₂.heap, slotsUsed := s₂.slotsUsed } : State) = { U.setFrames U.frames with heap := s₂.heap, slotsUsed := s₂.slotsUsed }
      rw [State.setFrames_self ht]
    subst hg
    refine Or.inl ⟨v, ⟨(({ U with heap := s₂.heap, slotsUsed := s₂.slotsUsed } : State).setVm s₂.vm), Ls ++ L, c0 + mc, s0 + ms⟩,
      ⟨X.admits, X.cas, X.clock, X.frames, X.room, X.hears, X.method, X.code, (X.here.setHeapUsed s₂.heap s₂.slotsUsed).setVm hW'.alike, X.tail, State.WarmedH.trans X.warmed hW', X.limits, X.bytes, X.same.trans (hsame.setVm s.vm)⟩,
      ⟨g, mk, s₂, L, rfl, rfl, hqc, rfl, hL, rfl, rfl⟩, ?_⟩
    show Steps p.tables e below _ ((({ U with heap := s₂.heap, slotsUsed := s₂.slotsUsed } : State).setVm s₂.vm).setTop { g with pc := g.pc + len₂, stack := v.toList ++ g.stack })
    rw [← hs₂]
    exact hsteps
  · obtain ⟨e2, q2, q3, q4, q5, q6⟩ := id hsm
    have e3 : s₂ = ({ (U.calling g mk a).setFrames s₂.frames with heap := s₂.heap, slotsUsed := s₂.slotsUsed } : State).setVm s₂.vm := by
      have : s₂ = ({ s₂ with vm := (U.calling g mk a).vm } : State).setVm s₂.vm := rfl
      rw [e2] at this
      exact this
    have hf₂ : s₂.frames = .throwing q :: .java g :: U.frames.tail := hend
    have hW' : U.WarmedH s₂.vm := hW₂
    have hs₂ : s₂ = ((({ U with heap := s₂.heap, slotsUsed := s₂.slotsUsed } : State).setVm s₂.vm).setTop g).pushFrame (.throwing q) := by
      refine e3.trans ?_
      rw [hf₂, State.calling_eq h.top, State.setFrames_setFrames, State.pushFrame, State.frames_setTop _ hr', State.setTop_of_frames _ hr', State.setFrames_setFrames, hr]
      rfl
    have hsame : U.sameButNew ({ U with heap := s₂.heap, slotsUsed := s₂.slotsUsed } : State) L mc ms := by
      refine ⟨?_, q2, q3, q4, q5, q6⟩
      obtain ⟨t, ht, -⟩ := State.frames_cons hr
      show ({ U with heap := s₂.heap, slotsUsed := s₂.slotsUsed } : State) = { U.setFrames U.frames with heap := s₂.heap, slotsUsed := s₂.slotsUsed }
      rw [State.setFrames_self ht]
    subst hg
    refine Or.inr ⟨q, ⟨(({ U with heap := s₂.heap, slotsUsed := s₂.slotsUsed } : State).setVm s₂.vm), Ls ++ L, c0 + mc, s0 + ms⟩,
      ⟨X.admits, X.cas, X.clock, X.frames, X.room, X.hears, X.method, X.code, (X.here.setHeapUsed s₂.heap s₂.slotsUsed).setVm hW'.alike, X.tail, State.WarmedH.trans X.warmed hW', X.limits, X.bytes, X.same.trans (hsame.setVm s.vm)⟩,
      ⟨g, mk, s₂, L, E, ce, rfl, rfl, hx, hce, hcv, hcl, rfl, hL, rfl, rfl⟩, ?_⟩
    show Steps p.tables e below _ (((({ U with heap := s₂.heap, slotsUsed := s₂.slotsUsed } : State).setVm s₂.vm).setTop g).pushFrame (.throwing q))
    rw [← hs₂]
    exact hsteps
end Payer
section Calls
variable {p : Program} {l : Launch} {e : Env} {R : Room} {s : State} {m : MethodId} {args : Array Value} {below : List Frame} {meth : Method} {c : Code} {T : State} {locs : List Loc} {cells slots : Nat}
theorem vx_callV (X : Stand p l e R s m args below meth c T locs cells slots) (hexec : p.tables.exec = Jvm.exec) {own C : String} {index : Nat} {y : MethodName} {bytes : ByteArray} {maxL : Nat} {ret : Option FieldType}
    (hown : s.vm.findClass own = some m.cls) (hlink : (Cond.methodLink own index y).before args s = true) (hinst : (Cond.instanceMethod y).before args s = true) (hsel : (Cond.selects C y y).before args s = true)
    (hcode : (Cond.code y bytes maxL ret).before args s = true) (hy : y.cls ≠ "java/lang/invoke/MethodHandle" ∧ y.cls ≠ "java/lang/invoke/VarHandle")
    {W9 : Nat} {Pre : Pt → Array Value → Prop} {Post : Pt → Array Value → Option Value → Pt → Prop} {PostX : Pt → Array Value → Addr → Pt → Prop} (hK : vx_Back l R p e below s args y 3 W9 Pre Post PostX)
    {b : Addr} {cellB : Cell} (hcell : T.heap[b]? = some cellB) (hobj : cellB.vm.isStatics = false) (hcls : s.vm.findClass C = some cellB.cls)
    {g : JFrame} (hg : g.method = m) (hsize : g.locals.size = c.maxLocals) {argsL rest : List Value} (hlen : ∀ sig, parseMethodDescriptor y.desc = some sig → argsL.length = sig.parameters.length)
    (hstack : g.stack = argsL.reverse ++ .ref b :: rest) (hW : 2 * g.monitorRoom + (rest.map fun v => v.category).sum ≤ W9) (hdg : decode c.code g.pc = .ok (.invokevirtual index, 3))
    (hpre : ∀ vm₁, s.WarmedH vm₁ → Pre ⟨T.setVm vm₁, locs, cells, slots⟩ (Value.ref b :: argsL).toArray) :
    (∃ (v : Option Value) (vm₁ : Vm) (B : Pt), s.WarmedH vm₁ ∧ Stand p l e R s m args below meth c B.U B.locs B.cells B.slots ∧ Post ⟨T.setVm vm₁, locs, cells, slots⟩ (Value.ref b :: argsL).toArray v B ∧
      ∀ target, Steps p.tables e below (B.U.setTop { g with pc := g.pc + 3, stack := v.toList ++ rest }) target → Steps p.tables e below (T.setTop g) target) ∨
    (∃ (q : Addr) (vm₁ : Vm) (B : Pt), s.WarmedH vm₁ ∧ Stand p l e R s m args below meth c B.U B.locs B.cells B.slots ∧ PostX ⟨T.setVm vm₁, locs, cells, slots⟩ (Value.ref b :: argsL).toArray q B ∧
      Steps p.tables e below (T.setTop g) ((B.U.setTop { g with stack := rest }).pushFrame (.throwing q))) := by
  obtain ⟨mk, methM, hnamed, hmethM, hstM, habM⟩ := Cond.instanceMethod_spec hinst
  obtain ⟨methM', cM, hmethM', -, -, -, -, -, -, hsigM⟩ := Cond.code_spec hnamed hcode
  cases hmethM.symm.trans hmethM'
  obtain ⟨c2, r2, m2, q1, q2, q3, q4, kP, hkP, hkPi⟩ := Cond.selects_spec hsel
  cases hcls.symm.trans q1
  cases (State.methodFound?_of_named hnamed hy).symm.trans q2
  cases hnamed.symm.trans q3
  have hselP : selectMethod e.platform s.vm cellB.cls mk = .method mk := by rw [Launch.admits_selectMethod X.admits]; exact q4
  obtain ⟨vm₁, X₁, hstep₁⟩ := X.invokevirtual hexec hown hlink hnamed hmethM hstM hkP hkPi hy (a := b) (cell := cellB) hcell
    (fun z h => by rw [h] at hobj; cases hobj) hselP hmethM habM hkP hkPi (g := g) hg (argsL := argsL) (rest := rest) (hlen _ hsigM) hstack hdg
  rcases hK m meth c ⟨T.setVm vm₁, locs, cells, slots⟩ { g with stack := rest } (.invokevirtual index) mk (Value.ref b :: argsL).toArray X₁ hg hsize hdg hW (X₁.named hnamed) (hpre vm₁ X₁.warmed) with ⟨v, B, X', hpost, hsteps⟩ | ⟨q, B, X', hpost, hsteps⟩
  · exact Or.inl ⟨v, vm₁, B, X₁.warmed, X', hpost, fun target h => hstep₁ _ fun acts => by rw [doInvoke_state]; exact hsteps.trans h⟩
  · exact Or.inr ⟨q, vm₁, B, X₁.warmed, X', hpost, hstep₁ _ fun acts => by rw [doInvoke_state]; exact hsteps⟩
theorem vx_callS (X : Stand p l e R s m args below meth c T locs cells slots) (hexec : p.tables.exec = Jvm.exec) {own : String} {index : Nat} {y : MethodName} {bytes : ByteArray} {maxL : Nat} {ret : Option FieldType}
    (hown : s.vm.findClass own = some m.cls) (hlink : (Cond.methodLink own index y).before args s = true) (hstat : (Cond.static y).before args s = true) (hinit : (Cond.initialized y.cls).before args s = true)
    (hcode : (Cond.code y bytes maxL ret).before args s = true) (hy : y.cls ≠ "java/lang/invoke/MethodHandle" ∧ y.cls ≠ "java/lang/invoke/VarHandle")
    {W9 : Nat} {Pre : Pt → Array Value → Prop} {Post : Pt → Array Value → Option Value → Pt → Prop} {PostX : Pt → Array Value → Addr → Pt → Prop} (hK : vx_Back l R p e below s args y 3 W9 Pre Post PostX)
    {g : JFrame} (hg : g.method = m) (hsize : g.locals.size = c.maxLocals) {argsL rest : List Value} (hlen : ∀ sig, parseMethodDescriptor y.desc = some sig → argsL.length = sig.parameters.length)
    (hstack : g.stack = argsL.reverse ++ rest) (hW : 2 * g.monitorRoom + (rest.map fun v => v.category).sum ≤ W9) (hdg : decode c.code g.pc = .ok (.invokestatic index, 3))
    (hpre : ∀ vm₁, s.WarmedH vm₁ → Pre ⟨T.setVm vm₁, locs, cells, slots⟩ argsL.toArray) :
    (∃ (v : Option Value) (vm₁ : Vm) (B : Pt), s.WarmedH vm₁ ∧ Stand p l e R s m args below meth c B.U B.locs B.cells B.slots ∧ Post ⟨T.setVm vm₁, locs, cells, slots⟩ argsL.toArray v B ∧
      ∀ target, Steps p.tables e below (B.U.setTop { g with pc := g.pc + 3, stack := v.toList ++ rest }) target → Steps p.tables e below (T.setTop g) target) ∨
    (∃ (q : Addr) (vm₁ : Vm) (B : Pt), s.WarmedH vm₁ ∧ Stand p l e R s m args below meth c B.U B.locs B.cells B.slots ∧ PostX ⟨T.setVm vm₁, locs, cells, slots⟩ argsL.toArray q B ∧
      Steps p.tables e below (T.setTop g) ((B.U.setTop { g with stack := rest }).pushFrame (.throwing q))) := by
  obtain ⟨mk, hnamed⟩ := Cond.code_named hcode
  obtain ⟨methM, cM, hmethM, -, -, -, -, -, -, hsigM⟩ := Cond.code_spec hnamed hcode
  have hstatic : methM.isStatic = true := Cond.static_spec hnamed hmethM hstat
  obtain ⟨kP, hkP, -⟩ := className_of_methodNamed hnamed
  have hinitP : kP.init = .initialized := Cond.initialized_spec (findClass_of_methodNamed hnamed) hkP hinit
  obtain ⟨vm₁, X₁, hstep₁⟩ := X.invokestatic hexec hown hlink hnamed hmethM hstatic hkP hinitP hy (g := g) hg (argsL := argsL) (rest := rest) (hlen _ hsigM) hstack hdg
  rcases hK m meth c ⟨T.setVm vm₁, locs, cells, slots⟩ { g with stack := rest } (.invokestatic index) mk argsL.toArray X₁ hg hsize hdg hW (X₁.named hnamed) (hpre vm₁ X₁.warmed) with ⟨v, B, X', hpost, hsteps⟩ | ⟨q, B, X', hpost, hsteps⟩
  · exact Or.inl ⟨v, vm₁, B, X₁.warmed, X', hpost, fun target h => hstep₁ _ fun acts => by rw [doInvoke_state]; exact hsteps.trans h⟩
  · exact Or.inr ⟨q, vm₁, B, X₁.warmed, X', hpost, hstep₁ _ fun acts => by rw [doInvoke_state]; exact hsteps⟩
end Calls
theorem vx_cls {s : State} {T : State} {vm₁ : Vm} {E : String} {k : ClassId} (hW : s.WarmedH vm₁) (h : (T.setVm vm₁).vm.findClass E = some k) : s.vm.findClass E = some k := by
  have h1 : vm₁.findClass E = some k := h
  rw [hW.alike.findClass] at h1
  exact h1
/-- the method's frame g, with q thrown over it -/
def vx_W (p : Program) (l : Launch) (e : Env) (R : Room) (s : State) (m : MethodId) (args : Array Value) (below : List Frame) (meth : Method) (c : Code) (H : Heap) (locs : List Loc) (cells slots : Nat) (Q : State → Prop) (g : JFrame) (q : Addr) : Prop :=
  ∀ T : State, T.heap = H → Stand p l e R s m args below meth c T locs cells slots → ∃ t, Steps p.tables e below ((T.setTop g).pushFrame (.throwing q)) t ∧ Q t
def vx_Run (p : Program) (l : Launch) (e : Env) (R : Room) (s : State) (m : MethodId) (args : Array Value) (below : List Frame) (meth : Method) (c : Code) (H : Heap) (locs : List Loc) (cells slots mc ms : Nat) (g : JFrame) (rest : List Value) (Qa : State → Outcome → State → Prop) (XC : String → State → State → Prop) (free : Addr → Prop) : Prop :=
  ∀ T : State, T.heap = H → Stand p l e R s m args below meth c T locs cells slots →
    (∃ (v : Option Value) (st₀ t T' : State) (L : List Loc), st₀.heap = H ∧ Stand p l e R s m args below meth c T' (locs ++ L) (cells + mc) (slots + ms) ∧ (∀ q ∈ L, free q.base) ∧ T'.heap = t.heap ∧ T'.vm = t.vm ∧ Qa st₀ (.returned v) t ∧
      Goes p e below T g T' { g with pc := g.pc + 3, stack := v.toList ++ rest }) ∨
    (∃ (q : Addr) (st₀ t T' : State) (L : List Loc) (E : String) (ce : Cell), st₀.heap = H ∧ Stand p l e R s m args below meth c T' (locs ++ L) (cells + mc) (slots + ms) ∧ (∀ z ∈ L, free z.base) ∧ T'.heap = t.heap ∧ T'.vm = t.vm ∧ XC E st₀ t ∧ t.heap[q]? = some ce ∧ ce.vm = .none ∧ s.vm.findClass E = some ce.cls ∧
      Steps p.tables e below (T.setTop g) ((T'.setTop { g with stack := rest }).pushFrame (.throwing q)))
def vx_X {S : Type} (px : S → Prop) (B : String → S → State → Prop) (A : Nat → Prop) : String → State → State → Prop := fun E st t => ∃ u : S, px u ∧ B E u t ∧ va_F A st t
section Runs
variable {p : Program} {l : Launch} {e : Env} {R : Room} {s : State} {m : MethodId} {args : Array Value} {below : List Frame} {meth : Method} {c : Code} {H : Heap} {locs : List Loc} {cells slots : Nat}
variable {y : MethodName} {bytes cc : ByteArray} {maxL nL mc ms n index : Nat} {ret : Option FieldType} {ws : List Cond} {rm : Room} {Pc : Array Value → State → Prop} {Qc : Array Value → State → Outcome → State → Prop} {XC : String → State → State → Prop} {free : Addr → Prop} {Ts : List Cond} {own C : String} {b : Addr} {As rest : List Value} {g : JFrame}
theorem vx_callBack (cb : CallB R s args own index y bytes maxL ret ws rm mc ms n) (hM : vx_Met l y ws rm Pc Qc XC mc ms free) (hbl : FrameBlind Pc) : vx_Back l R p e below s args y 3 8 (PreOf R mc ms Pc) (PostOf Qc mc ms free) (vx_Post XC mc ms free) := by
  obtain ⟨hrc, hrs, hfr, hlo, hws, hcw, -, hini, -⟩ := cb
  exact vx_back (bytes := bytes) (maxL := maxL) (ret := ret) hM hbl hrc hrs hfr hlo hws hcw (fun a' U hW => word_at hW (Or.inl (by first | rfl | simp [Cond.onTables, Cond.keeps, Cond.steady])) hini)
theorem vx_runV (S : CallFix p m c cc nL s args Ts own) (hM : vx_Met l y ws rm Pc Qc XC mc ms free) (cw : CallW R s args own C index y bytes maxL ret ws rm mc ms n) (hp : PreV s H C b Pc As)
    (hg : g.method = m) (hn : As.length = n) (hsize : g.locals.size = nL) (hstack : g.stack = As.reverse ++ .ref b :: rest) (hW : 2 * g.monitorRoom + (rest.map fun v => v.category).sum ≤ 8) (hdg : decode cc g.pc = .ok (.invokevirtual index, 3)) (hf : cells + mc ≤ R.cells ∧ slots + ms ≤ R.slots) :
    vx_Run p l e R s m args below meth c H locs cells slots mc ms g rest (Qc (Value.ref b :: As).toArray) XC free := by
  have hK : vx_Back l R p e below s args y 3 8 (PreOf R mc ms Pc) (PostOf Qc mc ms free) (vx_Post XC mc ms free) := vx_callBack cw.1 hM hp.1
  obtain ⟨⟨-, -, -, -, -, -, hcode, -, hy, hlen, hl⟩, hin, hse⟩ := cw
  obtain ⟨hx, hb, hml, ho, -⟩ := S
  obtain ⟨-, ⟨cellB, hcB, hoB, hclB⟩, hPc⟩ := hp
  intro T hT X
  rcases vx_callV X hx (C := C) (bytes := bytes) (maxL := maxL) (ret := ret) ho hl hin hse hcode hy hK (by rw [hT]; exact hcB) hoB hclB hg (hsize.trans hml.symm) (argsL := As) (rest := rest) (fun sig h => hn.trans (hlen sig h)) hstack hW (by rw [hb]; exact hdg)
    (fun vm₁ hW₁ => ⟨hf.1, hf.2, hPc (T.setVm vm₁) hT hW₁⟩) with ⟨v, vm₁, ⟨U', l2, c2, s2⟩, hW₁, X', ⟨g', mk, t, L, e1, e2, hq, h1, hL, h2, h3⟩, st⟩ | ⟨q, vm₁, ⟨U', l2, c2, s2⟩, hW₁, X', ⟨g', mk, t, L, E, ce, e1, e2, hq, hce, hcv, hcl, h1, hL, h2, h3⟩, st⟩
  · dsimp only [Pt.U, Pt.locs, Pt.cells, Pt.slots] at X' e1 e2 h1 h2 h3 st
    subst h1; subst h2; subst h3
    exact Or.inl ⟨v, (T.setVm vm₁).calling g' mk (Value.ref b :: As).toArray, t, U', L, hT, X', hL, e1, e2, hq, st⟩
  · dsimp only [Pt.U, Pt.locs, Pt.cells, Pt.slots] at X' e1 e2 h1 h2 h3 st hcl
    subst h1; subst h2; subst h3
    exact Or.inr ⟨q, (T.setVm vm₁).calling g' mk (Value.ref b :: As).toArray, t, U', L, E, ce, hT, X', hL, e1, e2, hq, hce, hcv, vx_cls hW₁ hcl, st⟩
theorem vx_runS (S : CallFix p m c cc nL s args Ts own) (hM : vx_Met l y ws rm Pc Qc XC mc ms free) (cw : CallB R s args own index y bytes maxL ret ws rm mc ms n ∧ (Cond.static y).before args s = true) (hp : PreS s H Pc As)
    (hg : g.method = m) (hn : As.length = n) (hsize : g.locals.size = nL) (hstack : g.stack = As.reverse ++ rest) (hW : 2 * g.monitorRoom + (rest.map fun v => v.category).sum ≤ 8) (hdg : decode cc g.pc = .ok (.invokestatic index, 3)) (hf : cells + mc ≤ R.cells ∧ slots + ms ≤ R.slots) :
    vx_Run p l e R s m args below meth c H locs cells slots mc ms g rest (Qc As.toArray) XC free := by
  have hK : vx_Back l R p e below s args y 3 8 (PreOf R mc ms Pc) (PostOf Qc mc ms free) (vx_Post XC mc ms free) := vx_callBack cw.1 hM hp.1
  obtain ⟨⟨-, -, -, -, -, -, hcode, hini, hy, hlen, hl⟩, hstt⟩ := cw
  obtain ⟨hx, hb, hml, ho, -⟩ := S
  intro T hT X
  rcases vx_callS X hx (bytes := bytes) (maxL := maxL) (ret := ret) ho hl hstt hini hcode hy hK hg (hsize.trans hml.symm) (argsL := As) (rest := rest) (fun sig h => hn.trans (hlen sig h)) hstack hW (by rw [hb]; exact hdg)
    (fun vm₁ hW₁ => ⟨hf.1, hf.2, hp.2 (T.setVm vm₁) hT hW₁⟩) with ⟨v, vm₁, ⟨U', l2, c2, s2⟩, hW₁, X', ⟨g', mk, t, L, e1, e2, hq, h1, hL, h2, h3⟩, st⟩ | ⟨q, vm₁, ⟨U', l2, c2, s2⟩, hW₁, X', ⟨g', mk, t, L, E, ce, e1, e2, hq, hce, hcv, hcl, h1, hL, h2, h3⟩, st⟩
  · dsimp only [Pt.U, Pt.locs, Pt.cells, Pt.slots] at X' e1 e2 h1 h2 h3 st
    subst h1; subst h2; subst h3
    exact Or.inl ⟨v, (T.setVm vm₁).calling g' mk As.toArray, t, U', L, hT, X', hL, e1, e2, hq, st⟩
  · dsimp only [Pt.U, Pt.locs, Pt.cells, Pt.slots] at X' e1 e2 h1 h2 h3 st hcl
    subst h1; subst h2; subst h3
    exact Or.inr ⟨q, (T.setVm vm₁).calling g' mk As.toArray, t, U', L, E, ce, hT, X', hL, e1, e2, hq, hce, hcv, vx_cls hW₁ hcl, st⟩
end Runs
section Rows
variable {p : Program} {l : Launch} {e : Env} {R : Room} {s : State} {m : MethodId} {args : Array Value} {below : List Frame} {meth : Method} {c : Code} {H : Heap} {locs : List Loc} {cells slots : Nat} {Q : State → Prop}
variable {mc ms : Nat} {free : Addr → Prop} {A0 A1 : Nat → Prop} {H0 : Heap} {a : Array Value} {pc : Nat} {ls : Array Slot} {st0 rest : List Value}
theorem vx_keep {st₀ t T' : State} {L : List Loc} (h0 : st₀.heap = H) (e1 : T'.heap = t.heap) (hS : va_S A0 H0 H locs) (hA : ∀ q, q < H.size → A1 q → A0 q) (hf : ∀ q, free q → A0 q) (hL : ∀ q ∈ L, free q.base) (hF : va_F A1 st₀ t) :
    H.size ≤ T'.heap.size ∧ (∀ q : Nat, q < H.size → ¬ A1 q → T'.heap[q]? = H[q]?) ∧ va_S A0 H0 T'.heap (locs ++ L) := by
  obtain ⟨hz, hk⟩ := hF
  rw [h0] at hz hk
  exact ⟨by rw [e1]; exact hz, fun q h1 h2 => by rw [e1]; exact hk q h1 h2,
    ⟨Nat.le_trans hS.1 (by rw [e1]; exact hz), fun q h1 h2 => by rw [e1, hk q (Nat.lt_of_lt_of_le h1 hS.1) (fun z => h2 (hA q (Nat.lt_of_lt_of_le h1 hS.1) z))]; exact hS.2.1 q h1 h2, fun q hq => by
      rcases List.mem_append.mp hq with h | h
      · exact hS.2.2 q h
      · exact hf _ (hL q h)⟩⟩
theorem vx_calli {S SX : Type} {post : Int32 → S → Prop} {px : SX → Prop} {B : S → State → Prop} {BX : String → SX → State → Prop} {AX : Nat → Prop} (hr : vx_Run p l e R s m args below meth c H locs cells slots mc ms (F0 m pc ls st0) rest (va_Qi post B A1 a) (vx_X px BX AX) free) (hS : va_S A0 H0 H locs) (hA : ∀ q, q < H.size → A1 q → A0 q) (hf : ∀ q, free q → A0 q) (hAX : ∀ q, q < H.size → AX q → A0 q)
    (kx : ∀ (E : String) (ce : Cell) (q9 : Addr) (u : SX) (t : State) (H1 : Heap) (locs1 : List Loc), t.heap = H1 → s.vm.Alike t.vm → px u → BX E u t → H.size ≤ H1.size → (∀ q : Nat, q < H.size → ¬ AX q → H1[q]? = H[q]?) → va_S A0 H0 H1 locs1 → H1[q9]? = some ce → ce.vm = .none → s.vm.findClass E = some ce.cls → vx_W p l e R s m args below meth c H1 locs1 (cells + mc) (slots + ms) Q (F0 m pc ls rest) q9)
    (kk : ∀ (r : Int32) (u : S) (t : State) (H1 : Heap) (locs1 : List Loc), t.heap = H1 → s.vm.Alike t.vm → post r u → B u t → H.size ≤ H1.size → (∀ q : Nat, q < H.size → ¬ A1 q → H1[q]? = H[q]?) → va_S A0 H0 H1 locs1 → W p l e R s m args below meth c H1 locs1 (cells + mc) (slots + ms) Q (F0 m (pc + 3) ls (.int r :: rest))) : W p l e R s m args below meth c H locs cells slots Q (F0 m pc ls st0) := by
  intro T hT X
  rcases hr T hT X with ⟨v, st₀, t, T', L, h0, X', hL, e1, e2, ⟨⟨r, u, hv, hp, hb⟩, hF⟩, st⟩ | ⟨q, st₀, t, T', L, E, ce, h0, X', hL, e1, e2, ⟨u, hp, hb, hF⟩, hce, hcv, hcl, st⟩
  · cases hv
    obtain ⟨k1, k2, k3⟩ := vx_keep h0 e1 hS hA hf hL hF
    obtain ⟨t2, a1, b1⟩ := kk r u t T'.heap (locs ++ L) e1.symm (by rw [← e2]; exact X'.warmed.alike) hp hb k1 k2 k3 T' rfl X'
    exact ⟨t2, st t2 a1, b1⟩
  · obtain ⟨k1, k2, k3⟩ := vx_keep h0 e1 hS hAX hf hL hF
    obtain ⟨t2, a1, b1⟩ := kx E ce q u t T'.heap (locs ++ L) e1.symm (by rw [← e2]; exact X'.warmed.alike) hp hb k1 k2 k3 (by rw [e1]; exact hce) hcv hcl T' rfl X'
    exact ⟨t2, st.trans a1, b1⟩
theorem vx_calll {S SX : Type} {post : Int64 → S → Prop} {px : SX → Prop} {B : S → State → Prop} {BX : String → SX → State → Prop} {AX : Nat → Prop} (hr : vx_Run p l e R s m args below meth c H locs cells slots mc ms (F0 m pc ls st0) rest (va_Ql post B A1 a) (vx_X px BX AX) free) (hS : va_S A0 H0 H locs) (hA : ∀ q, q < H.size → A1 q → A0 q) (hf : ∀ q, free q → A0 q) (hAX : ∀ q, q < H.size → AX q → A0 q)
    (kx : ∀ (E : String) (ce : Cell) (q9 : Addr) (u : SX) (t : State) (H1 : Heap) (locs1 : List Loc), t.heap = H1 → s.vm.Alike t.vm → px u → BX E u t → H.size ≤ H1.size → (∀ q : Nat, q < H.size → ¬ AX q → H1[q]? = H[q]?) → va_S A0 H0 H1 locs1 → H1[q9]? = some ce → ce.vm = .none → s.vm.findClass E = some ce.cls → vx_W p l e R s m args below meth c H1 locs1 (cells + mc) (slots + ms) Q (F0 m pc ls rest) q9)
    (kk : ∀ (r : Int64) (u : S) (t : State) (H1 : Heap) (locs1 : List Loc), t.heap = H1 → s.vm.Alike t.vm → post r u → B u t → H.size ≤ H1.size → (∀ q : Nat, q < H.size → ¬ A1 q → H1[q]? = H[q]?) → va_S A0 H0 H1 locs1 → W p l e R s m args below meth c H1 locs1 (cells + mc) (slots + ms) Q (F0 m (pc + 3) ls (.long r :: rest))) : W p l e R s m args below meth c H locs cells slots Q (F0 m pc ls st0) := by
  intro T hT X
  rcases hr T hT X with ⟨v, st₀, t, T', L, h0, X', hL, e1, e2, ⟨⟨r, u, hv, hp, hb⟩, hF⟩, st⟩ | ⟨q, st₀, t, T', L, E, ce, h0, X', hL, e1, e2, ⟨u, hp, hb, hF⟩, hce, hcv, hcl, st⟩
  · cases hv
    obtain ⟨k1, k2, k3⟩ := vx_keep h0 e1 hS hA hf hL hF
    obtain ⟨t2, a1, b1⟩ := kk r u t T'.heap (locs ++ L) e1.symm (by rw [← e2]; exact X'.warmed.alike) hp hb k1 k2 k3 T' rfl X'
    exact ⟨t2, st t2 a1, b1⟩
  · obtain ⟨k1, k2, k3⟩ := vx_keep h0 e1 hS hAX hf hL hF
    obtain ⟨t2, a1, b1⟩ := kx E ce q u t T'.heap (locs ++ L) e1.symm (by rw [← e2]; exact X'.warmed.alike) hp hb k1 k2 k3 (by rw [e1]; exact hce) hcv hcl T' rfl X'
    exact ⟨t2, st.trans a1, b1⟩
theorem vx_callf {S SX : Type} {post : UInt32 → S → Prop} {px : SX → Prop} {B : S → State → Prop} {BX : String → SX → State → Prop} {AX : Nat → Prop} (hr : vx_Run p l e R s m args below meth c H locs cells slots mc ms (F0 m pc ls st0) rest (va_Qf post B A1 a) (vx_X px BX AX) free) (hS : va_S A0 H0 H locs) (hA : ∀ q, q < H.size → A1 q → A0 q) (hf : ∀ q, free q → A0 q) (hAX : ∀ q, q < H.size → AX q → A0 q)
    (kx : ∀ (E : String) (ce : Cell) (q9 : Addr) (u : SX) (t : State) (H1 : Heap) (locs1 : List Loc), t.heap = H1 → s.vm.Alike t.vm → px u → BX E u t → H.size ≤ H1.size → (∀ q : Nat, q < H.size → ¬ AX q → H1[q]? = H[q]?) → va_S A0 H0 H1 locs1 → H1[q9]? = some ce → ce.vm = .none → s.vm.findClass E = some ce.cls → vx_W p l e R s m args below meth c H1 locs1 (cells + mc) (slots + ms) Q (F0 m pc ls rest) q9)
    (kk : ∀ (r : UInt32) (u : S) (t : State) (H1 : Heap) (locs1 : List Loc), t.heap = H1 → s.vm.Alike t.vm → post r u → B u t → H.size ≤ H1.size → (∀ q : Nat, q < H.size → ¬ A1 q → H1[q]? = H[q]?) → va_S A0 H0 H1 locs1 → W p l e R s m args below meth c H1 locs1 (cells + mc) (slots + ms) Q (F0 m (pc + 3) ls (.float r :: rest))) : W p l e R s m args below meth c H locs cells slots Q (F0 m pc ls st0) := by
  intro T hT X
  rcases hr T hT X with ⟨v, st₀, t, T', L, h0, X', hL, e1, e2, ⟨⟨r, u, hv, hp, hb⟩, hF⟩, st⟩ | ⟨q, st₀, t, T', L, E, ce, h0, X', hL, e1, e2, ⟨u, hp, hb, hF⟩, hce, hcv, hcl, st⟩
  · cases hv
    obtain ⟨k1, k2, k3⟩ := vx_keep h0 e1 hS hA hf hL hF
    obtain ⟨t2, a1, b1⟩ := kk r u t T'.heap (locs ++ L) e1.symm (by rw [← e2]; exact X'.warmed.alike) hp hb k1 k2 k3 T' rfl X'
    exact ⟨t2, st t2 a1, b1⟩
  · obtain ⟨k1, k2, k3⟩ := vx_keep h0 e1 hS hAX hf hL hF
    obtain ⟨t2, a1, b1⟩ := kx E ce q u t T'.heap (locs ++ L) e1.symm (by rw [← e2]; exact X'.warmed.alike) hp hb k1 k2 k3 (by rw [e1]; exact hce) hcv hcl T' rfl X'
    exact ⟨t2, st.trans a1, b1⟩
theorem vx_calld {S SX : Type} {post : UInt64 → S → Prop} {px : SX → Prop} {B : S → State → Prop} {BX : String → SX → State → Prop} {AX : Nat → Prop} (hr : vx_Run p l e R s m args below meth c H locs cells slots mc ms (F0 m pc ls st0) rest (va_Qd post B A1 a) (vx_X px BX AX) free) (hS : va_S A0 H0 H locs) (hA : ∀ q, q < H.size → A1 q → A0 q) (hf : ∀ q, free q → A0 q) (hAX : ∀ q, q < H.size → AX q → A0 q)
    (kx : ∀ (E : String) (ce : Cell) (q9 : Addr) (u : SX) (t : State) (H1 : Heap) (locs1 : List Loc), t.heap = H1 → s.vm.Alike t.vm → px u → BX E u t → H.size ≤ H1.size → (∀ q : Nat, q < H.size → ¬ AX q → H1[q]? = H[q]?) → va_S A0 H0 H1 locs1 → H1[q9]? = some ce → ce.vm = .none → s.vm.findClass E = some ce.cls → vx_W p l e R s m args below meth c H1 locs1 (cells + mc) (slots + ms) Q (F0 m pc ls rest) q9)
    (kk : ∀ (r : UInt64) (u : S) (t : State) (H1 : Heap) (locs1 : List Loc), t.heap = H1 → s.vm.Alike t.vm → post r u → B u t → H.size ≤ H1.size → (∀ q : Nat, q < H.size → ¬ A1 q → H1[q]? = H[q]?) → va_S A0 H0 H1 locs1 → W p l e R s m args below meth c H1 locs1 (cells + mc) (slots + ms) Q (F0 m (pc + 3) ls (.double r :: rest))) : W p l e R s m args below meth c H locs cells slots Q (F0 m pc ls st0) := by
  intro T hT X
  rcases hr T hT X with ⟨v, st₀, t, T', L, h0, X', hL, e1, e2, ⟨⟨r, u, hv, hp, hb⟩, hF⟩, st⟩ | ⟨q, st₀, t, T', L, E, ce, h0, X', hL, e1, e2, ⟨u, hp, hb, hF⟩, hce, hcv, hcl, st⟩
  · cases hv
    obtain ⟨k1, k2, k3⟩ := vx_keep h0 e1 hS hA hf hL hF
    obtain ⟨t2, a1, b1⟩ := kk r u t T'.heap (locs ++ L) e1.symm (by rw [← e2]; exact X'.warmed.alike) hp hb k1 k2 k3 T' rfl X'
    exact ⟨t2, st t2 a1, b1⟩
  · obtain ⟨k1, k2, k3⟩ := vx_keep h0 e1 hS hAX hf hL hF
    obtain ⟨t2, a1, b1⟩ := kx E ce q u t T'.heap (locs ++ L) e1.symm (by rw [← e2]; exact X'.warmed.alike) hp hb k1 k2 k3 (by rw [e1]; exact hce) hcv hcl T' rfl X'
    exact ⟨t2, st.trans a1, b1⟩
theorem vx_callv {S SX : Type} {post : S → Prop} {px : SX → Prop} {B : S → State → Prop} {BX : String → SX → State → Prop} {AX : Nat → Prop} (hr : vx_Run p l e R s m args below meth c H locs cells slots mc ms (F0 m pc ls st0) rest (va_Qv post B A1 a) (vx_X px BX AX) free) (hS : va_S A0 H0 H locs) (hA : ∀ q, q < H.size → A1 q → A0 q) (hf : ∀ q, free q → A0 q) (hAX : ∀ q, q < H.size → AX q → A0 q)
    (kx : ∀ (E : String) (ce : Cell) (q9 : Addr) (u : SX) (t : State) (H1 : Heap) (locs1 : List Loc), t.heap = H1 → s.vm.Alike t.vm → px u → BX E u t → H.size ≤ H1.size → (∀ q : Nat, q < H.size → ¬ AX q → H1[q]? = H[q]?) → va_S A0 H0 H1 locs1 → H1[q9]? = some ce → ce.vm = .none → s.vm.findClass E = some ce.cls → vx_W p l e R s m args below meth c H1 locs1 (cells + mc) (slots + ms) Q (F0 m pc ls rest) q9)
    (kk : ∀ (u : S) (t : State) (H1 : Heap) (locs1 : List Loc), t.heap = H1 → s.vm.Alike t.vm → post u → B u t → H.size ≤ H1.size → (∀ q : Nat, q < H.size → ¬ A1 q → H1[q]? = H[q]?) → va_S A0 H0 H1 locs1 → W p l e R s m args below meth c H1 locs1 (cells + mc) (slots + ms) Q (F0 m (pc + 3) ls (rest))) : W p l e R s m args below meth c H locs cells slots Q (F0 m pc ls st0) := by
  intro T hT X
  rcases hr T hT X with ⟨v, st₀, t, T', L, h0, X', hL, e1, e2, ⟨⟨u, hv, hp, hb⟩, hF⟩, st⟩ | ⟨q, st₀, t, T', L, E, ce, h0, X', hL, e1, e2, ⟨u, hp, hb, hF⟩, hce, hcv, hcl, st⟩
  · cases hv
    obtain ⟨k1, k2, k3⟩ := vx_keep h0 e1 hS hA hf hL hF
    obtain ⟨t2, a1, b1⟩ := kk u t T'.heap (locs ++ L) e1.symm (by rw [← e2]; exact X'.warmed.alike) hp hb k1 k2 k3 T' rfl X'
    exact ⟨t2, st t2 a1, b1⟩
  · obtain ⟨k1, k2, k3⟩ := vx_keep h0 e1 hS hAX hf hL hF
    obtain ⟨t2, a1, b1⟩ := kx E ce q u t T'.heap (locs ++ L) e1.symm (by rw [← e2]; exact X'.warmed.alike) hp hb k1 k2 k3 (by rw [e1]; exact hce) hcv hcl T' rfl X'
    exact ⟨t2, st.trans a1, b1⟩
/-- caught by the row x of this method's table; the rows ahead don't take it -/
theorem vx_catch {own name : String} {E : String} {ce : Cell} {q : Addr} (hown : s.vm.findClass own = some m.cls) (pre : List ExceptionTableEntry) (x : ExceptionTableEntry) (suf : List ExceptionTableEntry) (hsplit : c.exceptionTable.toList = pre ++ x :: suf)
    (hpass : ∀ z ∈ pre, covers z pc = false ∨ (z.catchType ≠ 0 ∧ ∃ nm : String, (Cond.classLink own z.catchType nm).before args s = true ∧ va_Nc E nm s)) (hx : covers x pc = true) (h0 : x.catchType ≠ 0)
    (hlink : (Cond.classLink own x.catchType name).before args s = true) (hcast : (Cond.castable E name).before args s = true) (hcell : H[q]? = some ce) (hv : ce.vm = .none) (hcl : s.vm.findClass E = some ce.cls)
    (kk : W p l e R s m args below meth c H locs cells slots Q (F0 m x.handlerPc ls [.ref q])) : vx_W p l e R s m args below meth c H locs cells slots Q (F0 m pc ls rest) q := by
  intro T hT X
  have hpl : e.platform.magicAccessors = ({} : Platform).magicAccessors := by rw [X.admits.platform]
  obtain ⟨c3, c4, hc3, hc4, hasg⟩ := Cond.castable_spec hcast
  cases Option.some.inj (hc3.symm.trans hcl)
  obtain ⟨c5, hc5, hcl5⟩ := Cond.classLink_spec hown hlink e.platform hpl
  cases Option.some.inj (hc4.symm.trans hc5)
  obtain ⟨vm', X', st⟩ := X.thenCaughtThrough q (g := F0 m pc ls rest) rfl (Steps.refl _) (by rw [hT]; exact hcell) (by rw [hv]; rfl) (by obtain ⟨k9, h9, -⟩ := Vm.findClass_spec hcl; exact ⟨k9, h9⟩) pre x suf hsplit
    (fun z hz => by
      rcases hpass z hz with h | ⟨hz0, nm, hl1, hn1⟩
      · exact Or.inl h
      · obtain ⟨c6, hc6, hcl6⟩ := Cond.classLink_spec hown hl1 e.platform hpl
        obtain ⟨a8, b8, h1, h2, h3⟩ := hn1
        cases Option.some.inj (h1.symm.trans hcl)
        cases Option.some.inj (h2.symm.trans hc6)
        exact Or.inr ⟨hz0, _, hcl6, h3⟩) hx (Or.inr ⟨h0, c4, hcl5, hasg⟩)
  obtain ⟨t, a1, b1⟩ := kk (T.setVm vm') hT X'
  exact ⟨t, st.trans a1, b1⟩
end Rows
section Ends
variable {p : Program} {l : Launch} {e : Env} {R : Room} {s : State} {m : MethodId} {args : Array Value} {below : List Frame} {meth : Method} {c : Code} {H : Heap} {locs : List Loc} {cells slots : Nat} {Q : State → Prop}
variable {mc ms : Nat} {free : Addr → Prop} {A0 A1 : Nat → Prop} {H0 : Heap} {a : Array Value} {ls : Array Slot} {st0 rest : List Value}
variable {Qc : Array Value → State → Outcome → State → Prop} {XC : String → State → State → Prop}
/-- what a body that may throw owes at its end -/
def vx_MQ (below : List Frame) (Qc : Array Value → State → Outcome → State → Prop) (XC : String → State → State → Prop) (a : Array Value) (s : State) (mc ms : Nat) (free : Addr → Prop) : State → Prop := fun t =>
  ∃ o, t.status = .running ∧ Ended t below o ∧ vx_Q Qc XC mc ms free a s o t
theorem vx_ret {g : JFrame} {mc ms : Nat} (k : W p l e R s m args below meth c H locs cells slots (MQ below Qc args s mc ms free) g) : W p l e R s m args below meth c H locs cells slots (vx_MQ below Qc XC args s mc ms free) g := by
  intro T hT X
  obtain ⟨t, a1, o, b1, b2, b3, b4⟩ := k T hT X
  exact ⟨t, a1, o, b1, b2, Or.inl ⟨b3, b4⟩⟩
/-- not caught here: it goes on to the caller -/
theorem vx_widen {g : JFrame} {q : Addr} {k n : Nat} (h1 : cells ≤ k) (h2 : slots ≤ n) (kk : vx_W p l e R s m args below meth c H locs k n Q g q) : vx_W p l e R s m args below meth c H locs cells slots Q g q := fun T hT X => kk T hT (stand_widen X h1 h2)
theorem vx_out {pc : Nat} {E : String} {ce : Cell} {q : Addr} {mc ms : Nat} (hout : ∀ x ∈ c.exceptionTable.toList, covers x pc = false) (hlocks : meth.locks = false) (hcell : H[q]? = some ce) (hv : ce.vm = .none) (hcl : s.vm.findClass E = some ce.cls)
    (hx : ∀ t : State, t.heap = H → s.vm.Alike t.vm → XC E s t) (hf : ∀ z ∈ locs, free z.base) (hc : cells ≤ mc) (hs : slots ≤ ms) :
    vx_W p l e R s m args below meth c H locs cells slots (vx_MQ below Qc XC args s mc ms free) (F0 m pc ls rest) q := by
  intro T hT X
  obtain ⟨st1, hrun, hend, hW, hsm⟩ := X.leaveThrown q (g := F0 m pc ls rest) rfl rfl rfl hout hlocks
  have hcell9 : (T.setFrames (.throwing q :: below)).heap[q]? = some ce := by
    show T.heap[q]? = some ce
    rw [hT]; exact hcell
  exact ⟨_, st1, .threw q, hrun, hend, Or.inr ⟨q, rfl, E, ce, locs, hx _ hT hW.alike, hcell9, hv, hcl, hW, hsm.mono hc hs, hf⟩⟩
theorem vx_frame {U : State} {k n : Nat} (h : s.sameButNew ({ U with vm := s.vm } : State) locs k n) : s.heap.size ≤ U.heap.size ∧ ∀ q : Nat, q < s.heap.size → (∀ z ∈ locs, z.base ≠ q) → U.heap[q]? = s.heap[q]? := by
  obtain ⟨-, h2, -, -, -, h6⟩ := h
  refine ⟨h2, fun q hq hz => ?_⟩
  obtain ⟨c9, e1, e2, e3, e4⟩ := h6 q _ (Array.getElem?_eq_getElem hq)
  have hs : c9.slots = (s.heap[q]).slots := Array.ext_getElem? fun i => e4 i fun hm => hz _ hm rfl
  have h9 : c9 = s.heap[q] := by
    rw [hs] at e2
    exact e2
  have e5 : U.heap[q]? = some c9 := e1
  rw [e5, h9, Array.getElem?_eq_getElem hq]
/-- the words of a throw but the four that speak of the heap -/
def vx_no (w : Cond) : Bool := decide (w ≠ .isRef (.static Bundle.tN "UNASSIGNED_STACK" Bundle.steD)) && decide (w ≠ .isRef (.static Bundle.tN "SUPPRESSED_SENTINEL" Bundle.listD)) && decide (w ≠ .laysStatic Bundle.tN "UNASSIGNED_STACK" Bundle.steD) && decide (w ≠ .laysStatic Bundle.tN "SUPPRESSED_SENTINEL" Bundle.listD)
def vx_at0 (own : String) (ic : Nat) (X : String) (names : List String) : List Cond := (Bundle.ownAtoms0 own ic X names).filter vx_no
def vx_atS (own : String) (ic : Nat) (X : String) (names : List String) : List Cond := (Bundle.ownAtoms own ic X names).filter vx_no
/-- a word that the tables alone decide, or a good one -/
def vx_ot (w : Cond) : Bool := w.onTables || goodWord w
theorem vx_ot_at {args a' : Array Value} {s U : State} {w : Cond} (hW : s.WarmedH U.vm) (hvm : s.vm = U.vm) (hg : vx_ot w = true) (h : w.before args s = true) : w.before a' U = true := by
  simp only [vx_ot, Bool.or_eq_true] at hg
  rcases hg with hg | hg
  · exact va_tabs hg hvm h
  · exact word_at hW (good_of_word hg) h
/-- a list's words: the good ones out of the method's own list, the others by premises of their own -/
theorem vx_hat {args : Array Value} {s : State} {L B : List Cond} (h1 : ∀ w ∈ L.filter goodWord, w.before args s = true) (h2 : ∀ w ∈ L.filter (fun w => !goodWord w), w ∈ B) (h3 : ∀ w ∈ B, w.before args s = true) : ∀ w ∈ L, w.before args s = true := by
  intro w hw
  by_cases g : goodWord w = true
  · exact h1 w (List.mem_filter.mpr ⟨hw, g⟩)
  · refine h3 w (h2 w (List.mem_filter.mpr ⟨hw, ?_⟩))
    show (!goodWord w) = true
    cases hgw : goodWord w
    · rfl
    · exact absurd hgw g
theorem vx_c {args : Array Value} {s : State} {w : Cond} {B : List Cond} (h : w.before args s = true) (t : ∀ w ∈ B, w.before args s = true) : ∀ w' ∈ w :: B, w'.before args s = true := fun w' h' => (List.mem_cons.mp h').elim (fun e => by rw [e]; exact h) (t w')
theorem vx_n {args : Array Value} {s : State} : ∀ w ∈ ([] : List Cond), w.before args s = true := fun _ h => nomatch h
theorem vx_own {args : Array Value} {s : State} {L : List Cond} (h1 : ∀ w ∈ L.filter vx_no, w.before args s = true)
    (hU : (Cond.isRef (.static Bundle.tN "UNASSIGNED_STACK" Bundle.steD)).before args s = true) (hN : (Cond.isRef (.static Bundle.tN "SUPPRESSED_SENTINEL" Bundle.listD)).before args s = true)
    (lU : (Cond.laysStatic Bundle.tN "UNASSIGNED_STACK" Bundle.steD).before args s = true) (lN : (Cond.laysStatic Bundle.tN "SUPPRESSED_SENTINEL" Bundle.listD).before args s = true) : ∀ w ∈ L, w.before args s = true := by
  intro w hw
  by_cases e1 : w = .isRef (.static Bundle.tN "UNASSIGNED_STACK" Bundle.steD)
  · rw [e1]; exact hU
  · by_cases e2 : w = .isRef (.static Bundle.tN "SUPPRESSED_SENTINEL" Bundle.listD)
    · rw [e2]; exact hN
    · by_cases e3 : w = .laysStatic Bundle.tN "UNASSIGNED_STACK" Bundle.steD
      · rw [e3]; exact lU
      · by_cases e4 : w = .laysStatic Bundle.tN "SUPPRESSED_SENTINEL" Bundle.listD
        · rw [e4]; exact lN
        · exact h1 w (List.mem_filter.mpr ⟨hw, by unfold vx_no; rw [decide_eq_true e1, decide_eq_true e2, decide_eq_true e3, decide_eq_true e4]; rfl⟩)
/-- where a static field lies, its class's statics cell in H -/
def vx_L (C n d : String) (A : Nat → Prop) (U : State) (H : Heap) : Prop := ∃ (c : ClassId) (k : Class) (i : Nat) (f : Field) (a : Nat) (cell : Cell), U.vm.findClass C = some c ∧ U.fieldFound? C n d = some (c, k, i, f) ∧ f.isStatic = true ∧ k.statics = some a ∧ H[a]? = some cell ∧ cell.vm.isStatics = true ∧ cell.cls = c ∧ f.slot < cell.slots.size ∧ k.staticTypes[f.slot]? = some f.type ∧ ¬ A a
theorem vx_L.moved {C n d : String} {A : Nat → Prop} {u U : State} {H : Heap} (hvm : u.vm.Alike U.vm) (h : vx_L C n d A u H) : vx_L C n d A U H := by
  obtain ⟨c, k, i, f, a, cell, h1, h2, h3, h4, h5, h6, h7, h8, h9, h10⟩ := h
  obtain ⟨k', hi', he⟩ := State.fieldFound?_setVm hvm h2
  exact ⟨c, k', i, f, a, cell, by rw [hvm.findClass]; exact h1, hi', h3, by rw [he]; exact h4, h5, h6, h7, h8, by rw [he]; exact h9, h10⟩
theorem vx_L.kept {C n d : String} {A : Nat → Prop} {U : State} {H H1 : Heap} (h : vx_L C n d A U H) (hq : ∀ a : Nat, a < H.size → ¬ A a → H1[a]? = H[a]?) : vx_L C n d A U H1 := by
  obtain ⟨c, k, i, f, a, cell, h1, h2, h3, h4, h5, h6, h7, h8, h9, h10⟩ := h
  exact ⟨c, k, i, f, a, cell, h1, h2, h3, h4, by rw [hq a (Array.getElem?_eq_some_iff.mp h5).1 h10]; exact h5, h6, h7, h8, h9, h10⟩
theorem vx_L.narrow {C n d : String} {A B : Nat → Prop} {U : State} {H : Heap} (h : vx_L C n d A U H) (hAB : ∀ q, B q → A q) : vx_L C n d B U H := by
  obtain ⟨c, k, i, f, a, cell, h1, h2, h3, h4, h5, h6, h7, h8, h9, h10⟩ := h
  exact ⟨c, k, i, f, a, cell, h1, h2, h3, h4, h5, h6, h7, h8, h9, fun z => h10 (hAB _ z)⟩
theorem vx_L.word {C n d : String} {A : Nat → Prop} {s : State} {args : Array Value} (h : vx_L C n d A s s.heap) : (Cond.laysStatic C n d).before args s = true := by
  obtain ⟨c, k, i, f, a, cell, h1, h2, h3, h4, h5, h6, h7, h8, h9, -⟩ := h
  show (Cond.laysStatic C n d).holds args s none s [] = true
  exact Cond.laysStatic_of h1 h2 h3 h4 h5 h6 h7 h8 h9
/-- .. and what it holds: null or some reference -/
def vx_Zq (C n d : String) (A : Nat → Prop) (U : State) (H : Heap) : Prop := va_Zq C n d A U H ∧ vx_L C n d A U H
theorem vx_Zq.moved {C n d : String} {A : Nat → Prop} {u U : State} {H : Heap} (hvm : u.vm.Alike U.vm) (h : vx_Zq C n d A u H) : vx_Zq C n d A U H := ⟨va_Zq.moved hvm h.1, vx_L.moved hvm h.2⟩
theorem vx_Zq.kept {C n d : String} {A : Nat → Prop} {U : State} {H H1 : Heap} (h : vx_Zq C n d A U H) (hq : ∀ a : Nat, a < H.size → ¬ A a → H1[a]? = H[a]?) : vx_Zq C n d A U H1 := ⟨va_Zq.kept h.1 hq, vx_L.kept h.2 hq⟩
theorem vx_Zq.narrow {C n d : String} {A B : Nat → Prop} {U : State} {H : Heap} (h : vx_Zq C n d A U H) (hAB : ∀ q, B q → A q) : vx_Zq C n d B U H := ⟨va_Zq.narrow h.1 hAB, vx_L.narrow h.2 hAB⟩
theorem vx_Zqof {args : Array Value} {s : State} {C n d : String} {A : Nat → Prop} (hl : (Cond.laysStatic C n d).before args s = true) (hini : (Cond.initialized C).before args s = true) (h : (Cond.isRef (.static C n d)).before args s = true) (hA : ∀ a : Nat, a < s.heap.size → ¬ A a) : vx_Zq C n d A s s.heap := by
  refine ⟨va_Zqof hl hini h hA, ?_⟩
  obtain ⟨c, k, i, f, a, cell, h1, h2, h3, h4, h5, h6, h7, h8, h9⟩ := Cond.laysStatic_spec hl
  exact ⟨c, k, i, f, a, cell, h1, h2, h3, h4, h5, h6, h7, h8, h9, hA a (Array.getElem?_eq_some_iff.mp h5).1⟩
theorem vx_isRef {C n d : String} {v : Value} {A : Nat → Prop} {s : State} {args : Array Value} (h : va_Z C n d v A s s.heap) (hv : v.isRef = true) : (Cond.isRef (.static C n d)).before args s = true := by
  obtain ⟨cf, kf, fi, f, a, cell, h1, h2, h3, h4, h5, h6, h7, -⟩ := h
  have he : (Term.static C n d).eval args s none [] s = some v := by
    simp [Term.eval, State.fieldNamed?, h1, h2, h4, h5, h6, h7]
  simp only [Cond.before, Cond.holds, Cond.value, he]
  cases v <;> simp_all [Value.isRef]
theorem vx_isRefq {C n d : String} {A : Nat → Prop} {s : State} {args : Array Value} (h : va_Zq C n d A s s.heap) : (Cond.isRef (.static C n d)).before args s = true := by
  rcases h with h | ⟨t, h⟩
  · exact vx_isRef h rfl
  · exact vx_isRef h rfl
/-- the same frame, seen from here: as if the method were called anew in this heap -/
theorem vx_rebase {T : State} (X : Stand p l e R s m args below meth c T locs cells slots) {R' : Room} (hf : R'.frames ≤ R.frames) (hl : R'.locals ≤ R.locals) (hc : cells + R'.cells ≤ R.cells) (hs : slots + R'.slots ≤ R.slots) :
    Stand p l e R' ((T.setVm s.vm).setFrames (.invoking m args :: below)) m args below meth c T [] 0 0 := by
  have htop : (T.setVm s.vm).topJava?.isSome := X.here.top
  have hF : ((T.setVm s.vm).setFrames (.invoking m args :: below)).frames = .invoking m args :: below := State.frames_setFrames _ (State.cur_lt_of_top htop)
  obtain ⟨g₀, hg0⟩ := Option.isSome_iff_exists.mp htop
  obtain ⟨r, hr⟩ := State.topJava?_eq_some.mp hg0
  have hl9 : e.platform.stackLimits (T.setVm s.vm).me = e.platform.stackLimits s.me := X.limits
  have hb9 : (T.setVm s.vm).me.stackBytes = s.me.stackBytes := X.bytes
  refine ⟨X.admits, X.cas, X.clock, hF, ?_, X.hears, X.method, X.code, X.here, X.tail, X.warmed, ?_, ?_, ?_⟩
  · have h := X.room
    have hU : ((T.setVm s.vm).setFrames (.invoking m args :: below)).localsInUse = s.localsInUse := by
      rw [State.localsInUse_invoking hF (meth := meth) (c := c) X.method X.code, State.localsInUse_invoking X.frames X.method X.code]
    simp only [State.hasRoom, Bool.and_eq_true, decide_eq_true_eq] at h ⊢
    obtain ⟨⟨⟨⟨h1, h2, h3, h4, h5, h6⟩, h7⟩, h8⟩, h9⟩ := h
    rw [X.frames, List.length_cons] at h2 h3
    have q1 := X.heapSize
    have q2 := X.used
    simp only [hF, hU, List.length_cons, State.stackLimits_setFrames, State.stackBytes_setFrames, hl9, hb9]
    refine ⟨⟨⟨⟨by omega, by omega, by omega, by omega, by omega, h6⟩, ?_⟩, ?_⟩, X.book⟩
    · show T.heap.size + R'.cells ≤ e.platform.maxCells
      omega
    · show T.slotsUsed + R'.slots ≤ e.platform.maxSlots
      omega
  · rw [State.stackLimits_setFrames]; rfl
  · rw [State.stackBytes_setFrames]; rfl
  · refine ⟨?_, Nat.le_refl _, Nat.le_refl _, ?_, ?_, fun a c9 h9 => ⟨c9, h9, rfl, rfl, fun _ _ => rfl⟩⟩
    · obtain ⟨t, ht, -⟩ := State.frames_cons hr
      show T.setVm s.vm = { ((T.setVm s.vm).setFrames (.invoking m args :: below)).setFrames (T.setVm s.vm).frames with heap := T.heap, slotsUsed := T.slotsUsed }
      rw [State.setFrames_setFrames, State.setFrames_self ht]
      rfl
    · show T.slotsUsed = T.slotsUsed + ((T.heap.toList.drop T.heap.size).map (·.slots.size)).sum
      rw [List.drop_eq_nil_of_le (Nat.le_of_eq Array.length_toList)]
      rfl
    · show ((T.heap.toList.drop T.heap.size).map (·.slots.size)).sum ≤ 0
      rw [List.drop_eq_nil_of_le (Nat.le_of_eq Array.length_toList)]
      exact Nat.le_refl _
/-- 'throw new E()': new; dup; invokespecial; athrow -/
theorem vx_throw0 {cc : ByteArray} {pc : Nat} (hexec : p.tables.exec = Jvm.exec) (hb : c.code = cc) (hl : l.stackTraces = false) {own cls : String} {names : List String} {ik ic mc ms : Nat} {A : Nat → Prop}
    (hown : s.vm.findClass own = some m.cls) (hcls : Bundle.fit cls = true) (hnames : ∀ n ∈ names, Bundle.fit n = true)
    (hk : (Cond.classLink own ik cls).before args s = true) (hini : (Cond.initialized cls).before args s = true) (hat : ∀ w ∈ vx_at0 own ic cls names, w.before args s = true)
    (hgood : ∀ w ∈ Cond.classLink own ik cls :: Cond.initialized cls :: vx_at0 own ic cls names, vx_ot w = true)
    (hU : vx_Zq Bundle.tN "UNASSIGNED_STACK" Bundle.steD A s s.heap) (hN : vx_Zq Bundle.tN "SUPPRESSED_SENTINEL" Bundle.listD A s s.heap) (hS : va_S A s.heap H locs) (hsize : ls.size = c.maxLocals)
    (d0 : decode cc pc = .ok (.new ik, 3)) (d3 : decode cc (pc + 3) = .ok (.dup, 1)) (d4 : decode cc (pc + 4) = .ok (.invokespecial ic, 3)) (d7 : decode cc (pc + 7) = .ok (.athrow, 1))
    (hout : ∀ x ∈ c.exceptionTable.toList, covers x (pc + 7) = false)
    (hRframes : names.length + 3 < R.frames) (hRlocals : (rest.map fun v => v.category).sum + (13 * (names.length + 1) + 42) ≤ R.locals) (hRcells : cells + 1 ≤ R.cells) (hRslots : slots + 6 ≤ R.slots) (hlocks : meth.locks = false)
    (hx : ∀ t : State, s.vm.Alike t.vm → H.size ≤ t.heap.size → (∀ q : Nat, q < H.size → t.heap[q]? = H[q]?) → XC cls s t)
    (hf : ∀ z ∈ locs, free z.base) (hc : cells + 1 ≤ mc) (hs : slots + 6 ≤ ms) :
    W p l e R s m args below meth c H locs cells slots (vx_MQ below Qc XC args s mc ms free) (F0 m pc ls rest) := by
  intro T hT X
  have htr : e.platform.stackTraces = false := (show e.platform.stackTraces = l.stackTraces by rw [X.admits.platform]).trans hl
  have Y := vx_rebase X (R' := { frames := R.frames, locals := R.locals, cells := 1, slots := 6 }) (Nat.le_refl _) (Nat.le_refl _) hRcells hRslots
  obtain ⟨s', hA⟩ : ∃ z, z = (T.setVm s.vm).setFrames (.invoking m args :: below) := ⟨_, rfl⟩
  rw [← hA] at Y
  have hvm : s'.vm = s.vm := by rw [hA]; rfl
  have hhp : s'.heap = H := by rw [hA]; exact hT
  have hW0 : s.WarmedH s'.vm := by rw [hvm]; exact State.WarmedH.refl s
  have hat' : ∀ w ∈ vx_at0 own ic cls names, w.before args s' = true := fun w hw => vx_ot_at hW0 hvm.symm (hgood w (List.mem_cons_of_mem _ (List.mem_cons_of_mem _ hw))) (hat w hw)
  have hk' : (Cond.classLink own ik cls).before args s' = true := vx_ot_at hW0 hvm.symm (hgood _ List.mem_cons_self) hk
  have hini' : (Cond.initialized cls).before args s' = true := vx_ot_at hW0 hvm.symm (hgood _ (List.mem_cons_of_mem _ List.mem_cons_self)) hini
  have hU' : vx_Zq Bundle.tN "UNASSIGNED_STACK" Bundle.steD A s' s'.heap := by rw [hhp]; exact vx_Zq.moved hW0.alike (hU.kept hS.2.1)
  have hN' : vx_Zq Bundle.tN "SUPPRESSED_SENTINEL" Bundle.listD A s' s'.heap := by rw [hhp]; exact vx_Zq.moved hW0.alike (hN.kept hS.2.1)
  have h : ∀ w ∈ Bundle.ownAtoms0 own ic cls names, w.before args s' = true := vx_own hat' (vx_isRefq hU'.1) (vx_isRefq hN'.1) hU'.2.word hN'.2.word
  have hown' : s'.vm.findClass own = some m.cls := by rw [hvm]; exact hown
  have hins : (Cond.instantiable cls 6).before args s' = true := h _ (by simp [Bundle.ownAtoms0])
  obtain ⟨vm₁, cX, kX, hfX, hkX, -, -, X₁, st1⟩ := Y.newCold hexec (own := own) (C := cls) (index := ik) (n := 6) hown' hk' hins hini'
    (g := F0 m pc ls rest) rfl (by rw [hb]; exact d0) (Nat.le_refl _) (Nat.le_refl _)
  generalize hT1 : (T.setVm vm₁).pushCell { cls := cX, slots := kX.instanceTypes.map defaultValue, vm := .none } = T1 at X₁ st1
  have hcat : (Value.ref T.heap.size).category = 1 := rfl
  have hcellA : T1.heap[T.heap.size]? = some (freshCell cX kX) := by rw [← hT1]; exact State.heap_pushCell_size _ _
  have d3' : decode c.code (pc + 3) = .ok (.dup, 1) := by rw [hb]; exact d3
  obtain ⟨U, hsteps, hrun, hend, hW, hsame, ce, hce, hO⟩ := X₁.ctorThrow0 hexec htr (own := own) (cls := cls) (names := names) (ic := ic) hown' hcls hnames h (fun x hx => nomatch hx) hfX hkX hcellA (by rw [hhp, hT]; exact Nat.le_refl _)
    (g := { method := m, pc := pc + 4, locals := ls, stack := .ref T.heap.size :: .ref T.heap.size :: rest, locked := none }) rfl hsize rfl rfl (rest := rest) rfl
    (by rw [hb]; exact d4) (by rw [hb]; exact d7) hout hRframes (by simp only [List.map_cons, List.sum_cons, hcat]; omega) hlocks
  obtain ⟨f1, f2⟩ := vx_frame hsame
  rw [hhp] at f1 f2
  have hWs : s.WarmedH U.vm := State.WarmedH.trans hW0 hW
  have hcl : s.vm.findClass cls = some ce.cls := by
    have h9 := hO.cls
    rw [hvm] at h9
    exact h9
  have hall : s.sameButNew ({ U with vm := s.vm } : State) locs mc ms := by
    subst hA
    obtain ⟨e1, e2⟩ := hsame
    rw [State.setFrames_setFrames] at e1
    have h2 : (T.setVm s.vm).sameButNew ({ U with vm := s.vm } : State) [] (0 + 1) (0 + 6) := ⟨e1, e2⟩
    have h3 := X.same.trans h2
    rw [List.append_nil] at h3
    exact h3.mono hc hs
  refine ⟨U, ?_, .threw T.heap.size, hrun, hend, Or.inr ⟨T.heap.size, rfl, cls, ce, locs, hx U hWs.alike f1 (fun q hq => f2 q hq (fun z hz => nomatch hz)), hce, hO.vm, hcl, hWs, hall, hf⟩⟩
  refine st1 _ ?_
  show Steps p.tables e below (T1.setTop { method := m, pc := pc + 3, locals := ls, stack := .ref T.heap.size :: rest, locked := none }) _
  jvm_step X₁.here [X₁.here.top, hexec, d3', Value.category]
  exact hsteps
/-- 'throw new E("text")': new; dup; ldc; invokespecial; athrow -/
theorem vx_throwS {cc : ByteArray} {pc : Nat} (hexec : p.tables.exec = Jvm.exec) (hb : c.code = cc) (hl : l.stackTraces = false) {own cls text : String} {names : List String} {ik is ic mc ms sa : Nat} {A : Nat → Prop}
    (hown : s.vm.findClass own = some m.cls) (hcls : Bundle.fit cls = true) (hnames : ∀ n ∈ names, Bundle.fit n = true)
    (hk : (Cond.classLink own ik cls).before args s = true) (hini : (Cond.initialized cls).before args s = true) (hstr : vk_R own is text sa s) (hat : ∀ w ∈ vx_atS own ic cls names, w.before args s = true)
    (hgood : ∀ w ∈ Cond.classLink own ik cls :: Cond.initialized cls :: vx_atS own ic cls names, vx_ot w = true)
    (hU : vx_Zq Bundle.tN "UNASSIGNED_STACK" Bundle.steD A s s.heap) (hN : vx_Zq Bundle.tN "SUPPRESSED_SENTINEL" Bundle.listD A s s.heap) (hS : va_S A s.heap H locs) (hsize : ls.size = c.maxLocals)
    (d0 : decode cc pc = .ok (.new ik, 3)) (d3 : decode cc (pc + 3) = .ok (.dup, 1)) (d4 : decode cc (pc + 4) = .ok (.ldc is, 2)) (d6 : decode cc (pc + 6) = .ok (.invokespecial ic, 3)) (d9 : decode cc (pc + 9) = .ok (.athrow, 1))
    (hout : ∀ x ∈ c.exceptionTable.toList, covers x (pc + 9) = false)
    (hRframes : names.length + 3 < R.frames) (hRlocals : (rest.map fun v => v.category).sum + (13 * (names.length + 1) + 43) ≤ R.locals) (hRcells : cells + 1 ≤ R.cells) (hRslots : slots + 6 ≤ R.slots) (hlocks : meth.locks = false)
    (hx : ∀ t : State, s.vm.Alike t.vm → H.size ≤ t.heap.size → (∀ q : Nat, q < H.size → t.heap[q]? = H[q]?) → XC cls s t)
    (hf : ∀ z ∈ locs, free z.base) (hc : cells + 1 ≤ mc) (hs : slots + 6 ≤ ms) :
    W p l e R s m args below meth c H locs cells slots (vx_MQ below Qc XC args s mc ms free) (F0 m pc ls rest) := by
  intro T hT X
  have htr : e.platform.stackTraces = false := (show e.platform.stackTraces = l.stackTraces by rw [X.admits.platform]).trans hl
  have Y := vx_rebase X (R' := { frames := R.frames, locals := R.locals, cells := 1, slots := 6 }) (Nat.le_refl _) (Nat.le_refl _) hRcells hRslots
  obtain ⟨s', hA⟩ : ∃ z, z = (T.setVm s.vm).setFrames (.invoking m args :: below) := ⟨_, rfl⟩
  rw [← hA] at Y
  have hvm : s'.vm = s.vm := by rw [hA]; rfl
  have hhp : s'.heap = H := by rw [hA]; exact hT
  have hW0 : s.WarmedH s'.vm := by rw [hvm]; exact State.WarmedH.refl s
  have hat' : ∀ w ∈ vx_atS own ic cls names, w.before args s' = true := fun w hw => vx_ot_at hW0 hvm.symm (hgood w (List.mem_cons_of_mem _ (List.mem_cons_of_mem _ hw))) (hat w hw)
  have hk' : (Cond.classLink own ik cls).before args s' = true := vx_ot_at hW0 hvm.symm (hgood _ List.mem_cons_self) hk
  have hini' : (Cond.initialized cls).before args s' = true := vx_ot_at hW0 hvm.symm (hgood _ (List.mem_cons_of_mem _ List.mem_cons_self)) hini
  have hU' : vx_Zq Bundle.tN "UNASSIGNED_STACK" Bundle.steD A s' s'.heap := by rw [hhp]; exact vx_Zq.moved hW0.alike (hU.kept hS.2.1)
  have hN' : vx_Zq Bundle.tN "SUPPRESSED_SENTINEL" Bundle.listD A s' s'.heap := by rw [hhp]; exact vx_Zq.moved hW0.alike (hN.kept hS.2.1)
  have h : ∀ w ∈ Bundle.ownAtoms own ic cls names, w.before args s' = true := vx_own hat' (vx_isRefq hU'.1) (vx_isRefq hN'.1) hU'.2.word hN'.2.word
  have hown' : s'.vm.findClass own = some m.cls := by rw [hvm]; exact hown
  have hins : (Cond.instantiable cls 6).before args s' = true := h _ (by simp [Bundle.ownAtoms])
  obtain ⟨vm₁, cX, kX, hfX, hkX, -, -, X₁, st1⟩ := Y.newCold hexec (own := own) (C := cls) (index := ik) (n := 6) hown' hk' hins hini'
    (g := F0 m pc ls rest) rfl (by rw [hb]; exact d0) (Nat.le_refl _) (Nat.le_refl _)
  generalize hT1 : (T.setVm vm₁).pushCell { cls := cX, slots := kX.instanceTypes.map defaultValue, vm := .none } = T1 at X₁ st1
  have hcat : (Value.ref T.heap.size).category = 1 := rfl
  have hcellA : T1.heap[T.heap.size]? = some (freshCell cX kX) := by rw [← hT1]; exact State.heap_pushCell_size _ _
  have d3' : decode c.code (pc + 3) = .ok (.dup, 1) := by rw [hb]; exact d3
  have d4' : decode c.code (pc + 4) = .ok (.ldc is, 2) := by rw [hb]; exact d4
  have hstr' : vk_R own is text sa s' := vk_R.warm hW0 hstr
  obtain ⟨U, hsteps, hrun, hend, hW, hsame, ce, hce, hO⟩ := X₁.ctorThrowS hexec htr (own := own) (cls := cls) (names := names) (ic := ic) hown' hcls hnames h (fun x hx => nomatch hx) hfX hkX hcellA (by rw [hhp, hT]; exact Nat.le_refl _) (msg := .ref sa) rfl
    (g := { method := m, pc := pc + 6, locals := ls, stack := .ref sa :: .ref T.heap.size :: .ref T.heap.size :: rest, locked := none }) rfl hsize rfl rfl (rest := rest) rfl
    (by rw [hb]; exact d6) (by rw [hb]; exact d9) hout hRframes (by simp only [List.map_cons, List.sum_cons, hcat]; omega) hlocks
  obtain ⟨f1, f2⟩ := vx_frame hsame
  rw [hhp] at f1 f2
  have hWs : s.WarmedH U.vm := State.WarmedH.trans hW0 hW
  have hcl : s.vm.findClass cls = some ce.cls := by
    have h9 := hO.cls
    rw [hvm] at h9
    exact h9
  have hall : s.sameButNew ({ U with vm := s.vm } : State) locs mc ms := by
    subst hA
    obtain ⟨e1, e2⟩ := hsame
    rw [State.setFrames_setFrames] at e1
    have h2 : (T.setVm s.vm).sameButNew ({ U with vm := s.vm } : State) [] (0 + 1) (0 + 6) := ⟨e1, e2⟩
    have h3 := X.same.trans h2
    rw [List.append_nil] at h3
    exact h3.mono hc hs
  refine ⟨U, ?_, .threw T.heap.size, hrun, hend, Or.inr ⟨T.heap.size, rfl, cls, ce, locs, hx U hWs.alike f1 (fun q hq => f2 q hq (fun z hz => nomatch hz)), hce, hO.vm, hcl, hWs, hall, hf⟩⟩
  refine st1 _ ?_
  show Steps p.tables e below (T1.setTop { method := m, pc := pc + 3, locals := ls, stack := .ref T.heap.size :: rest, locked := none }) _
  jvm_step X₁.here [X₁.here.top, hexec, d3', Value.category]
  exact X₁.ldcString hexec (own := own) (text := text) (index := is) (a := sa) hown' hstr'.1 hstr'.2
    (g := { method := m, pc := pc + 4, locals := ls, stack := .ref T.heap.size :: .ref T.heap.size :: rest, locked := none }) rfl d4' _ hsteps
/-- 'throw new E("text")', the text by a wide index -/
theorem vx_throwSW {cc : ByteArray} {pc : Nat} (hexec : p.tables.exec = Jvm.exec) (hb : c.code = cc) (hl : l.stackTraces = false) {own cls text : String} {names : List String} {ik is ic mc ms sa : Nat} {A : Nat → Prop}
    (hown : s.vm.findClass own = some m.cls) (hcls : Bundle.fit cls = true) (hnames : ∀ n ∈ names, Bundle.fit n = true)
    (hk : (Cond.classLink own ik cls).before args s = true) (hini : (Cond.initialized cls).before args s = true) (hstr : vk_R own is text sa s) (hat : ∀ w ∈ vx_atS own ic cls names, w.before args s = true)
    (hgood : ∀ w ∈ Cond.classLink own ik cls :: Cond.initialized cls :: vx_atS own ic cls names, vx_ot w = true)
    (hU : vx_Zq Bundle.tN "UNASSIGNED_STACK" Bundle.steD A s s.heap) (hN : vx_Zq Bundle.tN "SUPPRESSED_SENTINEL" Bundle.listD A s s.heap) (hS : va_S A s.heap H locs) (hsize : ls.size = c.maxLocals)
    (d0 : decode cc pc = .ok (.new ik, 3)) (d3 : decode cc (pc + 3) = .ok (.dup, 1)) (d4 : decode cc (pc + 4) = .ok (.ldc_w is, 3)) (d7 : decode cc (pc + 7) = .ok (.invokespecial ic, 3)) (d10 : decode cc (pc + 10) = .ok (.athrow, 1))
    (hout : ∀ x ∈ c.exceptionTable.toList, covers x (pc + 10) = false)
    (hRframes : names.length + 3 < R.frames) (hRlocals : (rest.map fun v => v.category).sum + (13 * (names.length + 1) + 43) ≤ R.locals) (hRcells : cells + 1 ≤ R.cells) (hRslots : slots + 6 ≤ R.slots) (hlocks : meth.locks = false)
    (hx : ∀ t : State, s.vm.Alike t.vm → H.size ≤ t.heap.size → (∀ q : Nat, q < H.size → t.heap[q]? = H[q]?) → XC cls s t)
    (hf : ∀ z ∈ locs, free z.base) (hc : cells + 1 ≤ mc) (hs : slots + 6 ≤ ms) :
    W p l e R s m args below meth c H locs cells slots (vx_MQ below Qc XC args s mc ms free) (F0 m pc ls rest) := by
  intro T hT X
  have htr : e.platform.stackTraces = false := (show e.platform.stackTraces = l.stackTraces by rw [X.admits.platform]).trans hl
  have Y := vx_rebase X (R' := { frames := R.frames, locals := R.locals, cells := 1, slots := 6 }) (Nat.le_refl _) (Nat.le_refl _) hRcells hRslots
  obtain ⟨s', hA⟩ : ∃ z, z = (T.setVm s.vm).setFrames (.invoking m args :: below) := ⟨_, rfl⟩
  rw [← hA] at Y
  have hvm : s'.vm = s.vm := by rw [hA]; rfl
  have hhp : s'.heap = H := by rw [hA]; exact hT
  have hW0 : s.WarmedH s'.vm := by rw [hvm]; exact State.WarmedH.refl s
  have hat' : ∀ w ∈ vx_atS own ic cls names, w.before args s' = true := fun w hw => vx_ot_at hW0 hvm.symm (hgood w (List.mem_cons_of_mem _ (List.mem_cons_of_mem _ hw))) (hat w hw)
  have hk' : (Cond.classLink own ik cls).before args s' = true := vx_ot_at hW0 hvm.symm (hgood _ List.mem_cons_self) hk
  have hini' : (Cond.initialized cls).before args s' = true := vx_ot_at hW0 hvm.symm (hgood _ (List.mem_cons_of_mem _ List.mem_cons_self)) hini
  have hU' : vx_Zq Bundle.tN "UNASSIGNED_STACK" Bundle.steD A s' s'.heap := by rw [hhp]; exact vx_Zq.moved hW0.alike (hU.kept hS.2.1)
  have hN' : vx_Zq Bundle.tN "SUPPRESSED_SENTINEL" Bundle.listD A s' s'.heap := by rw [hhp]; exact vx_Zq.moved hW0.alike (hN.kept hS.2.1)
  have h : ∀ w ∈ Bundle.ownAtoms own ic cls names, w.before args s' = true := vx_own hat' (vx_isRefq hU'.1) (vx_isRefq hN'.1) hU'.2.word hN'.2.word
  have hown' : s'.vm.findClass own = some m.cls := by rw [hvm]; exact hown
  have hins : (Cond.instantiable cls 6).before args s' = true := h _ (by simp [Bundle.ownAtoms])
  obtain ⟨vm₁, cX, kX, hfX, hkX, -, -, X₁, st1⟩ := Y.newCold hexec (own := own) (C := cls) (index := ik) (n := 6) hown' hk' hins hini'
    (g := F0 m pc ls rest) rfl (by rw [hb]; exact d0) (Nat.le_refl _) (Nat.le_refl _)
  generalize hT1 : (T.setVm vm₁).pushCell { cls := cX, slots := kX.instanceTypes.map defaultValue, vm := .none } = T1 at X₁ st1
  have hcat : (Value.ref T.heap.size).category = 1 := rfl
  have hcellA : T1.heap[T.heap.size]? = some (freshCell cX kX) := by rw [← hT1]; exact State.heap_pushCell_size _ _
  have d3' : decode c.code (pc + 3) = .ok (.dup, 1) := by rw [hb]; exact d3
  have d4' : decode c.code (pc + 4) = .ok (.ldc_w is, 3) := by rw [hb]; exact d4
  have hstr' : vk_R own is text sa s' := vk_R.warm hW0 hstr
  obtain ⟨U, hsteps, hrun, hend, hW, hsame, ce, hce, hO⟩ := X₁.ctorThrowS hexec htr (own := own) (cls := cls) (names := names) (ic := ic) hown' hcls hnames h (fun x hx => nomatch hx) hfX hkX hcellA (by rw [hhp, hT]; exact Nat.le_refl _) (msg := .ref sa) rfl
    (g := { method := m, pc := pc + 7, locals := ls, stack := .ref sa :: .ref T.heap.size :: .ref T.heap.size :: rest, locked := none }) rfl hsize rfl rfl (rest := rest) rfl
    (by rw [hb]; exact d7) (by rw [hb]; exact d10) hout hRframes (by simp only [List.map_cons, List.sum_cons, hcat]; omega) hlocks
  obtain ⟨f1, f2⟩ := vx_frame hsame
  rw [hhp] at f1 f2
  have hWs : s.WarmedH U.vm := State.WarmedH.trans hW0 hW
  have hcl : s.vm.findClass cls = some ce.cls := by
    have h9 := hO.cls
    rw [hvm] at h9
    exact h9
  have hall : s.sameButNew ({ U with vm := s.vm } : State) locs mc ms := by
    subst hA
    obtain ⟨e1, e2⟩ := hsame
    rw [State.setFrames_setFrames] at e1
    have h2 : (T.setVm s.vm).sameButNew ({ U with vm := s.vm } : State) [] (0 + 1) (0 + 6) := ⟨e1, e2⟩
    have h3 := X.same.trans h2
    rw [List.append_nil] at h3
    exact h3.mono hc hs
  refine ⟨U, ?_, .threw T.heap.size, hrun, hend, Or.inr ⟨T.heap.size, rfl, cls, ce, locs, hx U hWs.alike f1 (fun q hq => f2 q hq (fun z hz => nomatch hz)), hce, hO.vm, hcl, hWs, hall, hf⟩⟩
  refine st1 _ ?_
  show Steps p.tables e below (T1.setTop { method := m, pc := pc + 3, locals := ls, stack := .ref T.heap.size :: rest, locked := none }) _
  jvm_step X₁.here [X₁.here.top, hexec, d3', Value.category]
  exact X₁.ldcStringW hexec (own := own) (text := text) (index := is) (a := sa) hown' hstr'.1 hstr'.2
    (g := { method := m, pc := pc + 4, locals := ls, stack := .ref T.heap.size :: .ref T.heap.size :: rest, locked := none }) rfl d4' _ hsteps
end Ends
section Bodies
variable {l : Launch}
theorem vx_ofW {y : MethodName} {ws ws' : List Cond} {rm : Room} {Pc : Array Value → State → Prop} {Qc : Array Value → State → Outcome → State → Prop} {XC : String → State → State → Prop} {mc ms : Nat} {free : Addr → Prop} {cc : ByteArray} {maxL : Nat} {ret : Option FieldType}
    (hy : plainName y.cls = true) (hw : ws = Cond.code y cc maxL ret :: ws')
    (body : ∀ p e s m args below meth c s₁, BodyLoose p l y (headSpec ws rm) cc maxL ret e s m args below meth c s₁ → c.maxLocals = maxL → (∀ x ∈ c.exceptionTable.toList, False) → Pc args s →
      W p l e (headSpec ws rm).room s m args below meth c s.heap [] 0 0 (vx_MQ below Qc XC args s mc ms free) (entryFrame m args maxL)) : vx_Met l y ws rm Pc Qc XC mc ms free := by
  refine MetFree.of_bodyS (code := cc) (maxLocals := maxL) (ret := ret) hy ?_ ?_
  · intro args s m h hn
    obtain ⟨meth, c, h1, h2, h3, h4, h5, h6, -, -⟩ := Cond.code_spec hn (atoms_spec (ws := ws) h _ (by rw [hw]; exact List.mem_cons_self))
    exact ⟨meth, c, h1, h2, h3, h4, h5, h6⟩
  · intro p e s m args below meth c s₁ B hml hP _
    have hh0 : s₁.heap = s.heap := by rw [B.state]; rfl
    have ht : ∀ x ∈ c.exceptionTable.toList, False := by
      obtain ⟨meth9, c9, h1, h2, -, -, -, -, h7, -⟩ := Cond.code_spec B.named (atoms_spec (ws := ws) B.pre _ (by rw [hw]; exact List.mem_cons_self))
      cases Option.some.inj (h1.symm.trans B.method)
      cases Option.some.inj (h2.symm.trans (Stand.of_body B).code)
      intro x hx
      rw [Array.isEmpty_iff.mp h7] at hx
      cases hx
    obtain ⟨t, a1, o, b1, b2, b3⟩ := body p e s m args below meth c s₁ B hml ht hP s₁ hh0 (Stand.of_body B)
    exact ⟨t, o, a1, b1, b2, b3⟩
/-- the table of a body with handlers -/
theorem vx_table {p : Program} {x y : MethodName} {S : Spec} {cc bytes : ByteArray} {maxL maxL' : Nat} {ret ret' : Option FieldType} {e : Env} {s s₁ : State} {m : MethodId} {args : Array Value} {below : List Frame} {meth : Method} {c : Code} {hh : List (Nat × Nat × Nat × Nat)}
    (B : BodyLoose p l y S cc maxL ret e s m args below meth c s₁) (h : (Cond.codeWith y bytes maxL' ret' hh).before args s = true) : c.exceptionTable.toList = tableOf hh := by
  obtain ⟨m9, meth9, c9, hn9, h1, h2, -, -, h6, -⟩ := Cond.codeWith_spec h
  cases Option.some.inj (hn9.symm.trans B.named)
  cases Option.some.inj (h1.symm.trans B.method)
  cases Option.some.inj (h2.symm.trans (Stand.of_body B).code)
  rw [← h6, table_eq]
end Bodies
end VXA
/-! ===== END ===== -/
/-! ===== BEGIN a static call of a method with an exception table ===== -/
section VXS
variable {p : Program} {l : Launch} {e : Env} {R : Room} {s : State} {m : MethodId} {args : Array Value} {below : List Frame} {meth : Method} {c : Code} {T : State} {H : Heap} {locs : List Loc} {cells slots : Nat}
abbrev vx_CSW (R : Room) (s : State) (args : Array Value) (own : String) (index : Nat) (y : MethodName) (bytes : ByteArray) (maxL : Nat) (ret : Option FieldType) (hh : List (Nat × Nat × Nat × Nat)) (ws : List Cond) (rm : Room) (mc ms n : Nat) : Prop :=
  (rm.cells = mc ∧ rm.slots = ms ∧ rm.frames + 1 ≤ R.frames ∧ 8 + (maxL + 11) + rm.locals ≤ R.locals ∧ (∀ w ∈ ws, ∀ (a' : Array Value) (U : State), s.WarmedH U.vm → w.before a' U = true) ∧ Cond.codeWith y bytes maxL ret hh ∈ ws) ∧
  (Cond.codeWith y bytes maxL ret hh).before args s = true ∧ (Cond.initialized y.cls).before args s = true ∧ (y.cls ≠ "java/lang/invoke/MethodHandle" ∧ y.cls ≠ "java/lang/invoke/VarHandle") ∧
  (∀ sig, parseMethodDescriptor y.desc = some sig → n = sig.parameters.length) ∧ (Cond.methodLink own index y).before args s = true ∧ (Cond.static y).before args s = true
theorem vx_cwSW {own : String} {index maxL mc ms : Nat} {y : MethodName} {bytes : ByteArray} {ret : Option FieldType} {hh : List (Nat × Nat × Nat × Nat)} {Ts ws ws' : List Cond} {rm : Room} (n : Nat) (ht : ∀ w ∈ Ts, w.before args s = true) (hT : GoodIn Ts (va_wsS own index y ws)) (hw : ws = Cond.codeWith y bytes maxL ret hh :: ws') (hrc : rm.cells = mc) (hrs : rm.slots = ms)
    (hd : y.cls ≠ "java/lang/invoke/MethodHandle" ∧ y.cls ≠ "java/lang/invoke/VarHandle" ∧ (parseMethodDescriptor y.desc).map (fun d => d.parameters.length) = some n) (hR : rm.frames + 1 ≤ R.frames ∧ 8 + (maxL + 11) + rm.locals ≤ R.locals) :
    vx_CSW R s args own index y bytes maxL ret hh ws rm mc ms n := by
  have ok : ∀ w ∈ va_wsS own index y ws, w.before args s = true := fun w h => ht w (hT w h).1
  have hG : GoodIn Ts ws := fun w h => hT w (by unfold va_wsS; exact List.mem_append_right _ h)
  have hc : Cond.codeWith y bytes maxL ret hh ∈ ws := by rw [hw]; exact List.mem_cons_self
  refine ⟨⟨hrc, hrs, hR.1, hR.2, pay_in ht hG, hc⟩, ht _ (hG _ hc).1, ok _ (by simp [va_wsS]), ⟨hd.1, hd.2.1⟩, fun sig h => ?_, ok _ (by simp [va_wsS]), ok _ (by simp [va_wsS])⟩
  have h2 := hd.2.2
  rw [h] at h2
  exact (Option.some.inj h2).symm
theorem vx_callSW (X : Stand p l e R s m args below meth c T locs cells slots) (hexec : p.tables.exec = Jvm.exec) {own : String} {index : Nat} {y : MethodName} {bytes : ByteArray} {maxL : Nat} {ret : Option FieldType} {hh : List (Nat × Nat × Nat × Nat)}
    (hown : s.vm.findClass own = some m.cls) (hlink : (Cond.methodLink own index y).before args s = true) (hstat : (Cond.static y).before args s = true) (hinit : (Cond.initialized y.cls).before args s = true)
    (hcode : (Cond.codeWith y bytes maxL ret hh).before args s = true) (hy : y.cls ≠ "java/lang/invoke/MethodHandle" ∧ y.cls ≠ "java/lang/invoke/VarHandle")
    {W9 : Nat} {Pre : Pt → Array Value → Prop} {Post : Pt → Array Value → Option Value → Pt → Prop} (hK : Back l R p e below s args y 3 W9 Pre Post)
    {g : JFrame} (hg : g.method = m) (hsize : g.locals.size = c.maxLocals) {argsL rest : List Value} (hlen : ∀ sig, parseMethodDescriptor y.desc = some sig → argsL.length = sig.parameters.length)
    (hstack : g.stack = argsL.reverse ++ rest) (hW : 2 * g.monitorRoom + (rest.map fun v => v.category).sum ≤ W9) (hdg : decode c.code g.pc = .ok (.invokestatic index, 3))
    (hpre : ∀ vm₁, s.WarmedH vm₁ → Pre ⟨T.setVm vm₁, locs, cells, slots⟩ argsL.toArray) :
    ∃ (v : Option Value) (vm₁ : Vm) (B : Pt), s.WarmedH vm₁ ∧ Stand p l e R s m args below meth c B.U B.locs B.cells B.slots ∧ Post ⟨T.setVm vm₁, locs, cells, slots⟩ argsL.toArray v B ∧
      ∀ target, Steps p.tables e below (B.U.setTop { g with pc := g.pc + 3, stack := v.toList ++ rest }) target → Steps p.tables e below (T.setTop g) target := by
  obtain ⟨mk, methM, cM, hnamed, hmethM, -, -, -, -, -, -, hsigM⟩ := Cond.codeWith_spec hcode
  have hstatic : methM.isStatic = true := Cond.static_spec hnamed hmethM hstat
  obtain ⟨kP, hkP, -⟩ := className_of_methodNamed hnamed
  have hinitP : kP.init = .initialized := Cond.initialized_spec (findClass_of_methodNamed hnamed) hkP hinit
  obtain ⟨vm₁, X₁, hstep₁⟩ := X.invokestatic hexec hown hlink hnamed hmethM hstatic hkP hinitP hy (g := g) hg (argsL := argsL) (rest := rest) (hlen _ hsigM) hstack hdg
  obtain ⟨v, B, X', hpost, hsteps⟩ := hK m meth c ⟨T.setVm vm₁, locs, cells, slots⟩ { g with stack := rest } (.invokestatic index) mk argsL.toArray X₁ hg hsize hdg hW (X₁.named hnamed) (hpre vm₁ X₁.warmed)
  exact ⟨v, vm₁, B, X₁.warmed, X', hpost, fun target h => hstep₁ _ fun acts => by rw [doInvoke_state]; exact hsteps.trans h⟩
theorem vx_runSW {y : MethodName} {bytes cc : ByteArray} {maxL nL mc ms n index : Nat} {ret : Option FieldType} {hh : List (Nat × Nat × Nat × Nat)} {ws : List Cond} {rm : Room} {Pc : Array Value → State → Prop} {Qc : Array Value → State → Outcome → State → Prop} {free : Addr → Prop} {Ts : List Cond} {own : String} {As rest : List Value} {g : JFrame}
    (S : CallFix p m c cc nL s args Ts own) (hM : Met l y ws rm Pc Qc mc ms free) (cw : vx_CSW R s args own index y bytes maxL ret hh ws rm mc ms n) (hp : PreS s H Pc As)
    (hg : g.method = m) (hn : As.length = n) (hsize : g.locals.size = nL) (hstack : g.stack = As.reverse ++ rest) (hW : 2 * g.monitorRoom + (rest.map fun v => v.category).sum ≤ 8) (hdg : decode cc g.pc = .ok (.invokestatic index, 3)) (hf : cells + mc ≤ R.cells ∧ slots + ms ≤ R.slots) :
    va_Run p l e R s m args below meth c H locs cells slots mc ms g rest (Qc As.toArray) (free) := by
  obtain ⟨⟨hrc, hrs, hfr, hlo, hws, hcw⟩, hcode, hini, hy, hlen, hl, hstt⟩ := cw
  have hK : Back l R p e below s args y 3 8 (PreOf R mc ms Pc) (PostOf Qc mc ms free) := va_backW (hh := hh) (bytes := bytes) (maxL := maxL) (ret := ret) hM hp.1 hrc hrs hfr hlo hws hcw (fun a' U hW => word_at hW (Or.inl (by first | rfl | simp [Cond.onTables, Cond.keeps, Cond.steady])) hini)
  obtain ⟨hx, hb, hml, ho, -⟩ := S
  intro T hT X
  obtain ⟨v, vm₁, ⟨U', l2, c2, s2⟩, hW₁, X', ⟨g', mk, t, L, e1, e2, hq, h1, hL, h2, h3⟩, st⟩ := vx_callSW X hx (hh := hh) (bytes := bytes) (maxL := maxL) (ret := ret) ho hl hstt hini hcode hy hK hg (hsize.trans hml.symm) (argsL := As) (rest := rest) (fun sig h => hn.trans (hlen sig h)) hstack hW (by rw [hb]; exact hdg)
    (fun vm₁ hW₁ => ⟨hf.1, hf.2, hp.2 (T.setVm vm₁) hT hW₁⟩)
  dsimp only [Pt.U, Pt.locs, Pt.cells, Pt.slots] at X' e1 e2 h1 h2 h3 st
  subst h1; subst h2; subst h3
  exact ⟨v, (T.setVm vm₁).calling g' mk As.toArray, t, U', L, hT, X', hL, e1, e2, hq, st⟩
/-- not caught here, past rows that name other classes: it goes on to the caller -/
theorem vx_outP {p : Program} {l : Launch} {e : Env} {R : Room} {s : State} {m : MethodId} {args : Array Value} {below : List Frame} {meth : Method} {c : Code} {H : Heap} {locs : List Loc} {cells slots : Nat} {free : Addr → Prop} {ls : Array Slot} {rest : List Value} {Qc : Array Value → State → Outcome → State → Prop} {XC : String → State → State → Prop}
    {pc : Nat} {own E : String} {ce : Cell} {q : Addr} {mc ms : Nat} (hown : s.vm.findClass own = some m.cls) (hlocks : meth.locks = false)
    (hpass : ∀ z ∈ c.exceptionTable.toList, covers z pc = false ∨ (z.catchType ≠ 0 ∧ ∃ nm : String, (Cond.classLink own z.catchType nm).before args s = true ∧ va_Nc E nm s)) (hcell : H[q]? = some ce) (hv : ce.vm = .none) (hcl : s.vm.findClass E = some ce.cls)
    (hx : ∀ t : State, t.heap = H → s.vm.Alike t.vm → XC E s t) (hf : ∀ z ∈ locs, free z.base) (hc : cells ≤ mc) (hs : slots ≤ ms) :
    vx_W p l e R s m args below meth c H locs cells slots (vx_MQ below Qc XC args s mc ms free) (F0 m pc ls rest) q := by
  intro T hT X
  have hpl : e.platform.magicAccessors = ({} : Platform).magicAccessors := by rw [X.admits.platform]
  obtain ⟨vm', hW', X', st⟩ := X.outThrough hlocks q (g := F0 m pc ls rest) rfl rfl rfl (cell := ce) (by rw [hT]; exact hcell) (by rw [hv]; rfl)
    (by obtain ⟨k9, h9, -⟩ := Vm.findClass_spec hcl; exact ⟨k9, h9⟩) (fun z hz => by
      rcases hpass z hz with h | ⟨hz0, nm, hl1, hn1⟩
      · exact Or.inl h
      · obtain ⟨c6, hc6, hcl6⟩ := Cond.classLink_spec hown hl1 e.platform hpl
        obtain ⟨a8, b8, h1, h2, h3⟩ := hn1
        cases Option.some.inj (h1.symm.trans hcl)
        cases Option.some.inj (h2.symm.trans hc6)
        exact Or.inr ⟨hz0, _, hcl6, h3⟩)
  obtain ⟨g₀, hfr⟩ := X'.frames_eq
  have hcell9 : ((T.setVm vm').setFrames (.throwing q :: below)).heap[q]? = some ce := by
    show T.heap[q]? = some ce
    rw [hT]; exact hcell
  have hend : Ended ((T.setVm vm').setFrames (.throwing q :: below)) below (.threw q) := State.frames_setFrames _ (State.cur_lt_of_frames hfr)
  refine ⟨(T.setVm vm').setFrames (.throwing q :: below), ?_, .threw q, X'.here.running, hend, Or.inr ⟨q, rfl, E, ce, locs, hx _ hT (X'.ends _).1.alike, hcell9, hv, hcl, (X'.ends _).1, (X'.ends _).2.mono hc hs, hf⟩⟩
  rw [X.pushThrowing_eq]
  exact st
/-- a thing of a world lies in the heap -/
theorem vx_lt {D : va_G} {cl : List vw_C} {ws : va_W} {H1 : Heap} (h : va_P D cl ws H1) {k : Nat} {q : Nat × va_E} (hk : ws[k]? = some q) : q.1 < H1.size := (h k q hk).lt
end VXS
/-! ===== END ===== -/
/-! ===== BEGIN methods with a table of their own: called by a name, returning or throwing ===== -/
section VXH
/-! vx_backW, vx_callVX, vx_callSX, vx_callVW, vx_runVW, vx_runVX, vx_runSX, vx_ofWH follow the same proofs as their sisters above (Free/Laws.lean, Shelf42/LK1.lean); vx_outP calls Shelf42/NT130.lean (outThrough). -/
section
variable {l : Launch} {R : Room} {p : Program} {e : Env} {below : List Frame} {s : State} {sargs : Array Value} {y : MethodName} {len W9 : Nat}
theorem vx_backW {ws : List Cond} {rm : Room} {Pc : Array Value → State → Prop} {Qc : Array Value → State → Outcome → State → Prop} {XC : String → State → State → Prop} {mc ms : Nat} {free : Addr → Prop} {bytes : ByteArray} {maxL : Nat} {ret : Option FieldType} {hh : List (Nat × Nat × Nat × Nat)}
    (hM : vx_Met l y ws rm Pc Qc XC mc ms free) (hblind : FrameBlind Pc) (hrc : rm.cells = mc) (hrs : rm.slots = ms)
    (hframes : rm.frames + 1 ≤ R.frames) (hlocals : W9 + (maxL + 11) + rm.locals ≤ R.locals)
    (hws : ∀ w ∈ ws, ∀ a' U, s.WarmedH U.vm → w.before a' U = true) (hcode : Cond.codeWith y bytes maxL ret hh ∈ ws) (hinit : ∀ a' U, s.WarmedH U.vm → (Cond.initialized y.cls).before a' U = true) :
    vx_Back l R p e below s sargs y len W9 (PreOf R mc ms Pc) (PostOf Qc mc ms free) (vx_Post XC mc ms free) := by
  intro m meth c A g ig mk a X hg hsize hdg hW hn hp
  have h1 : (headSpec ws rm).pre.before a A.U = true := atoms_intro fun w hw => hws w hw _ _ X.warmed
  have h2 : (Cond.codeWith y bytes maxL ret hh).before a A.U = true := hws _ hcode _ _ X.warmed
  have h3 : (Cond.initialized y.cls).before a A.U = true := hinit _ _ X.warmed
  have h4 : A.cells + (headSpec ws rm).room.cells ≤ R.cells := by rw [show (headSpec ws rm).room.cells = mc from hrc]; exact hp.1
  have h5 : A.slots + (headSpec ws rm).room.slots ≤ R.slots := by rw [show (headSpec ws rm).room.slots = ms from hrs]; exact hp.2.1
  have hPc : Pc a (A.U.calling g mk a) := hblind _ _ _ _ hp.2.2
  obtain ⟨U, Ls, c0, s0⟩ := A
  dsimp only [Pt.U, Pt.locs, Pt.cells, Pt.slots] at h1 h2 h3 h4 h5 X hn hPc ⊢
  obtain ⟨m9, methY, cY, hn9, hmY, hcY, -, hlY, -⟩ := Cond.codeWith_spec h2
  cases Option.some.inj (hn9.symm.trans hn)
  obtain ⟨kY, hkY, -⟩ := className_of_methodNamed hn
  have hinitY : kY.init = .initialized := Cond.initialized_spec (findClass_of_methodNamed hn) hkY h3
  have h : At U g.method c below := by rw [hg]; exact X.here
  have hlocals9 : W9 + (maxL + 11) + (headSpec ws rm).room.locals ≤ R.locals := hlocals
  have happ : (headSpec ws rm).appliesLoose y e.platform (U.calling g mk a) = true :=
    Spec.appliesLoose_calling (g := g) h hdg hn hkY hinitY
      (X.room_calling (g := g) (R' := (headSpec ws rm).room) hsize hmY hcY hframes (by rw [hlY]; omega) h4 h5) h1
  obtain ⟨mid, hmid⟩ := h.above
  have hfr : (U.setTop g).frames = (.java g :: mid) ++ below := by rw [State.frames_setTop' g h.top, hmid]; rfl
  obtain ⟨o, s₂, hsteps, -, hend, hq⟩ := Steps.callFree hM p X.admits X.cas X.clock (acts := []) hfr happ hPc trivial
  have hq' : vx_Q Qc XC mc ms free a (U.calling g mk a) o s₂ := hq
  rw [State.frames_setTop' g h.top] at hend
  obtain ⟨g₀, hg0⟩ := Option.isSome_iff_exists.mp h.top
  obtain ⟨r, hr⟩ := State.topJava?_eq_some.mp hg0
  have hr' : (({ U with heap := s₂.heap, slotsUsed := s₂.slotsUsed } : State).setVm s₂.vm).frames = .java g₀ :: r := hr
  rcases hq' with ⟨hqc, L, hfe, hL⟩ | ⟨q, rfl, E, ce, L, hx, hce, hcv, hcl, hW₂, hsm, hL⟩
  · obtain ⟨⟨v, rfl⟩, hW₂, e2, q2, q3, q4, q5, q6⟩ := id hfe
    have e3 : s₂ = ({ (U.calling g mk a).setFrames s₂.frames with heap := s₂.heap, slotsUsed := s₂.slotsUsed } : State).setVm s₂.vm := by
      have : s₂ = ({ s₂ with vm := (U.calling g mk a).vm } : State).setVm s₂.vm := rfl
      rw [e2] at this
      exact this
    obtain ⟨c₂, i₂, len₂, hc₂, hd₂, hf₂⟩ := hend
    have hW' : U.WarmedH s₂.vm := hW₂
    have hcc : c₂ = c := by
      have h1 : s₂.code? g.method = U.code? g.method := by
        rw [State.code?_eq, State.code?_eq, hW'.alike.method?]
      exact Option.some.inj (hc₂.symm.trans (h1.trans h.code))
    subst hcc
    have hlen : len₂ = len := by rw [hdg] at hd₂; cases hd₂; rfl
    subst hlen
    have hs₂ : s₂ = (({ U with heap := s₂.heap, slotsUsed := s₂.slotsUsed } : State).setVm s₂.vm).setTop { g with pc := g.pc + len₂, stack := v.toList ++ g.stack } := by
      refine e3.trans ?_
      rw [hf₂, State.calling_eq h.top, State.setFrames_setFrames, State.setTop_of_frames _ hr', hr]
      rfl
    have hsame : U.sameButNew ({ U with heap := s₂.heap, slotsUsed := s₂.slotsUsed } : State) L mc ms := by
      refine ⟨?_, q2, q3, q4, q5, q6⟩
      obtain ⟨t, ht, -⟩ := State.frames_cons hr
      show ({ U with heap := s₂.heap, slotsUsed := s₂.slotsUsed } : State) = { U.setFrames U.frames with heap := s₂.heap, slotsUsed := s₂.slotsUsed }
      rw [State.setFrames_self ht]
    subst hg
    refine Or.inl ⟨v, ⟨(({ U with heap := s₂.heap, slotsUsed := s₂.slotsUsed } : State).setVm s₂.vm), Ls ++ L, c0 + mc, s0 + ms⟩,
      ⟨X.admits, X.cas, X.clock, X.frames, X.room, X.hears, X.method, X.code, (X.here.setHeapUsed s₂.heap s₂.slotsUsed).setVm hW'.alike, X.tail, State.WarmedH.trans X.warmed hW', X.limits, X.bytes, X.same.trans (hsame.setVm s.vm)⟩,
      ⟨g, mk, s₂, L, rfl, rfl, hqc, rfl, hL, rfl, rfl⟩, ?_⟩
    show Steps p.tables e below _ ((({ U with heap := s₂.heap, slotsUsed := s₂.slotsUsed } : State).setVm s₂.vm).setTop { g with pc := g.pc + len₂, stack := v.toList ++ g.stack })
    rw [← hs₂]
    exact hsteps
  · obtain ⟨e2, q2, q3, q4, q5, q6⟩ := id hsm
    have e3 : s₂ = ({ (U.calling g mk a).setFrames s₂.frames with heap := s₂.heap, slotsUsed := s₂.slotsUsed } : State).setVm s₂.vm := by
      have : s₂ = ({ s₂ with vm := (U.calling g mk a).vm } : State).setVm s₂.vm := rfl
      rw [e2] at this
      exact this
    have hf₂ : s₂.frames = .throwing q :: .java g :: U.frames.tail := hend
    have hW' : U.WarmedH s₂.vm := hW₂
    have hs₂ : s₂ = ((({ U with heap := s₂.heap, slotsUsed := s₂.slotsUsed } : State).setVm s₂.vm).setTop g).pushFrame (.throwing q) := by
      refine e3.trans ?_
      rw [hf₂, State.calling_eq h.top, State.setFrames_setFrames, State.pushFrame, State.frames_setTop _ hr', State.setTop_of_frames _ hr', State.setFrames_setFrames, hr]
      rfl
    have hsame : U.sameButNew ({ U with heap := s₂.heap, slotsUsed := s₂.slotsUsed } : State) L mc ms := by
      refine ⟨?_, q2, q3, q4, q5, q6⟩
      obtain ⟨t, ht, -⟩ := State.frames_cons hr
      show ({ U with heap := s₂.heap, slotsUsed := s₂.slotsUsed } : State) = { U.setFrames U.frames with heap := s₂.heap, slotsUsed := s₂.slotsUsed }
      rw [State.setFrames_self ht]
    subst hg
    refine Or.inr ⟨q, ⟨(({ U with heap := s₂.heap, slotsUsed := s₂.slotsUsed } : State).setVm s₂.vm), Ls ++ L, c0 + mc, s0 + ms⟩,
      ⟨X.admits, X.cas, X.clock, X.frames, X.room, X.hears, X.method, X.code, (X.here.setHeapUsed s₂.heap s₂.slotsUsed).setVm hW'.alike, X.tail, State.WarmedH.trans X.warmed hW', X.limits, X.bytes, X.same.trans (hsame.setVm s.vm)⟩,
      ⟨g, mk, s₂, L, E, ce, rfl, rfl, hx, hce, hcv, hcl, rfl, hL, rfl, rfl⟩, ?_⟩
    show Steps p.tables e below _ (((({ U with heap := s₂.heap, slotsUsed := s₂.slotsUsed } : State).setVm s₂.vm).setTop g).pushFrame (.throwing q))
    rw [← hs₂]
    exact hsteps
end
variable {p : Program} {l : Launch} {e : Env} {R : Room} {s : State} {m : MethodId} {args : Array Value} {below : List Frame} {meth : Method} {c : Code} {T : State} {H : Heap} {locs : List Loc} {cells slots : Nat}
theorem vx_callVX (X : Stand p l e R s m args below meth c T locs cells slots) (hexec : p.tables.exec = Jvm.exec) {own C : String} {index : Nat} {y : MethodName} {bytes : ByteArray} {maxL : Nat} {ret : Option FieldType} {hh : List (Nat × Nat × Nat × Nat)}
    (hown : s.vm.findClass own = some m.cls) (hlink : (Cond.methodLink own index y).before args s = true) (hinst : (Cond.instanceMethod y).before args s = true) (hsel : (Cond.selects C y y).before args s = true)
    (hcode : (Cond.codeWith y bytes maxL ret hh).before args s = true) (hy : y.cls ≠ "java/lang/invoke/MethodHandle" ∧ y.cls ≠ "java/lang/invoke/VarHandle")
    {W9 : Nat} {Pre : Pt → Array Value → Prop} {Post : Pt → Array Value → Option Value → Pt → Prop} {PostX : Pt → Array Value → Addr → Pt → Prop} (hK : vx_Back l R p e below s args y 3 W9 Pre Post PostX)
    {b : Addr} {cellB : Cell} (hcell : T.heap[b]? = some cellB) (hobj : cellB.vm.isStatics = false) (hcls : s.vm.findClass C = some cellB.cls)
    {g : JFrame} (hg : g.method = m) (hsize : g.locals.size = c.maxLocals) {argsL rest : List Value} (hlen : ∀ sig, parseMethodDescriptor y.desc = some sig → argsL.length = sig.parameters.length)
    (hstack : g.stack = argsL.reverse ++ .ref b :: rest) (hW : 2 * g.monitorRoom + (rest.map fun v => v.category).sum ≤ W9) (hdg : decode c.code g.pc = .ok (.invokevirtual index, 3))
    (hpre : ∀ vm₁, s.WarmedH vm₁ → Pre ⟨T.setVm vm₁, locs, cells, slots⟩ (Value.ref b :: argsL).toArray) :
    (∃ (v : Option Value) (vm₁ : Vm) (B : Pt), s.WarmedH vm₁ ∧ Stand p l e R s m args below meth c B.U B.locs B.cells B.slots ∧ Post ⟨T.setVm vm₁, locs, cells, slots⟩ (Value.ref b :: argsL).toArray v B ∧
      ∀ target, Steps p.tables e below (B.U.setTop { g with pc := g.pc + 3, stack := v.toList ++ rest }) target → Steps p.tables e below (T.setTop g) target) ∨
    (∃ (q : Addr) (vm₁ : Vm) (B : Pt), s.WarmedH vm₁ ∧ Stand p l e R s m args below meth c B.U B.locs B.cells B.slots ∧ PostX ⟨T.setVm vm₁, locs, cells, slots⟩ (Value.ref b :: argsL).toArray q B ∧
      Steps p.tables e below (T.setTop g) ((B.U.setTop { g with stack := rest }).pushFrame (.throwing q))) := by
  obtain ⟨mk, methM, hnamed, hmethM, hstM, habM⟩ := Cond.instanceMethod_spec hinst
  obtain ⟨m8, methM', cM, hn8, hmethM', -, -, -, -, -, -, hsigM⟩ := Cond.codeWith_spec hcode
  cases Option.some.inj (hn8.symm.trans hnamed)
  cases hmethM.symm.trans hmethM'
  obtain ⟨c2, r2, m2, q1, q2, q3, q4, kP, hkP, hkPi⟩ := Cond.selects_spec hsel
  cases hcls.symm.trans q1
  cases (State.methodFound?_of_named hnamed hy).symm.trans q2
  cases hnamed.symm.trans q3
  have hselP : selectMethod e.platform s.vm cellB.cls mk = .method mk := by rw [Launch.admits_selectMethod X.admits]; exact q4
  obtain ⟨vm₁, X₁, hstep₁⟩ := X.invokevirtual hexec hown hlink hnamed hmethM hstM hkP hkPi hy (a := b) (cell := cellB) hcell
    (fun z h => by rw [h] at hobj; cases hobj) hselP hmethM habM hkP hkPi (g := g) hg (argsL := argsL) (rest := rest) (hlen _ hsigM) hstack hdg
  rcases hK m meth c ⟨T.setVm vm₁, locs, cells, slots⟩ { g with stack := rest } (.invokevirtual index) mk (Value.ref b :: argsL).toArray X₁ hg hsize hdg hW (X₁.named hnamed) (hpre vm₁ X₁.warmed) with ⟨v, B, X', hpost, hsteps⟩ | ⟨q, B, X', hpost, hsteps⟩
  · exact Or.inl ⟨v, vm₁, B, X₁.warmed, X', hpost, fun target h => hstep₁ _ fun acts => by rw [doInvoke_state]; exact hsteps.trans h⟩
  · exact Or.inr ⟨q, vm₁, B, X₁.warmed, X', hpost, hstep₁ _ fun acts => by rw [doInvoke_state]; exact hsteps⟩
theorem vx_callSX (X : Stand p l e R s m args below meth c T locs cells slots) (hexec : p.tables.exec = Jvm.exec) {own : String} {index : Nat} {y : MethodName} {bytes : ByteArray} {maxL : Nat} {ret : Option FieldType} {hh : List (Nat × Nat × Nat × Nat)}
    (hown : s.vm.findClass own = some m.cls) (hlink : (Cond.methodLink own index y).before args s = true) (hstat : (Cond.static y).before args s = true) (hinit : (Cond.initialized y.cls).before args s = true)
    (hcode : (Cond.codeWith y bytes maxL ret hh).before args s = true) (hy : y.cls ≠ "java/lang/invoke/MethodHandle" ∧ y.cls ≠ "java/lang/invoke/VarHandle")
    {W9 : Nat} {Pre : Pt → Array Value → Prop} {Post : Pt → Array Value → Option Value → Pt → Prop} {PostX : Pt → Array Value → Addr → Pt → Prop} (hK : vx_Back l R p e below s args y 3 W9 Pre Post PostX)
    {g : JFrame} (hg : g.method = m) (hsize : g.locals.size = c.maxLocals) {argsL rest : List Value} (hlen : ∀ sig, parseMethodDescriptor y.desc = some sig → argsL.length = sig.parameters.length)
    (hstack : g.stack = argsL.reverse ++ rest) (hW : 2 * g.monitorRoom + (rest.map fun v => v.category).sum ≤ W9) (hdg : decode c.code g.pc = .ok (.invokestatic index, 3))
    (hpre : ∀ vm₁, s.WarmedH vm₁ → Pre ⟨T.setVm vm₁, locs, cells, slots⟩ argsL.toArray) :
    (∃ (v : Option Value) (vm₁ : Vm) (B : Pt), s.WarmedH vm₁ ∧ Stand p l e R s m args below meth c B.U B.locs B.cells B.slots ∧ Post ⟨T.setVm vm₁, locs, cells, slots⟩ argsL.toArray v B ∧
      ∀ target, Steps p.tables e below (B.U.setTop { g with pc := g.pc + 3, stack := v.toList ++ rest }) target → Steps p.tables e below (T.setTop g) target) ∨
    (∃ (q : Addr) (vm₁ : Vm) (B : Pt), s.WarmedH vm₁ ∧ Stand p l e R s m args below meth c B.U B.locs B.cells B.slots ∧ PostX ⟨T.setVm vm₁, locs, cells, slots⟩ argsL.toArray q B ∧
      Steps p.tables e below (T.setTop g) ((B.U.setTop { g with stack := rest }).pushFrame (.throwing q))) := by
  obtain ⟨mk, methM, cM, hnamed, hmethM, -, -, -, -, -, -, hsigM⟩ := Cond.codeWith_spec hcode
  have hstatic : methM.isStatic = true := Cond.static_spec hnamed hmethM hstat
  obtain ⟨kP, hkP, -⟩ := className_of_methodNamed hnamed
  have hinitP : kP.init = .initialized := Cond.initialized_spec (findClass_of_methodNamed hnamed) hkP hinit
  obtain ⟨vm₁, X₁, hstep₁⟩ := X.invokestatic hexec hown hlink hnamed hmethM hstatic hkP hinitP hy (g := g) hg (argsL := argsL) (rest := rest) (hlen _ hsigM) hstack hdg
  rcases hK m meth c ⟨T.setVm vm₁, locs, cells, slots⟩ { g with stack := rest } (.invokestatic index) mk argsL.toArray X₁ hg hsize hdg hW (X₁.named hnamed) (hpre vm₁ X₁.warmed) with ⟨v, B, X', hpost, hsteps⟩ | ⟨q, B, X', hpost, hsteps⟩
  · exact Or.inl ⟨v, vm₁, B, X₁.warmed, X', hpost, fun target h => hstep₁ _ fun acts => by rw [doInvoke_state]; exact hsteps.trans h⟩
  · exact Or.inr ⟨q, vm₁, B, X₁.warmed, X', hpost, hstep₁ _ fun acts => by rw [doInvoke_state]; exact hsteps⟩
theorem vx_callVW (X : Stand p l e R s m args below meth c T locs cells slots) (hexec : p.tables.exec = Jvm.exec) {own C : String} {index : Nat} {y : MethodName} {bytes : ByteArray} {maxL : Nat} {ret : Option FieldType} {hh : List (Nat × Nat × Nat × Nat)}
    (hown : s.vm.findClass own = some m.cls) (hlink : (Cond.methodLink own index y).before args s = true) (hinst : (Cond.instanceMethod y).before args s = true) (hsel : (Cond.selects C y y).before args s = true)
    (hcode : (Cond.codeWith y bytes maxL ret hh).before args s = true) (hy : y.cls ≠ "java/lang/invoke/MethodHandle" ∧ y.cls ≠ "java/lang/invoke/VarHandle")
    {W9 : Nat} {Pre : Pt → Array Value → Prop} {Post : Pt → Array Value → Option Value → Pt → Prop} (hK : Back l R p e below s args y 3 W9 Pre Post)
    {b : Addr} {cellB : Cell} (hcell : T.heap[b]? = some cellB) (hobj : cellB.vm.isStatics = false) (hcls : s.vm.findClass C = some cellB.cls)
    {g : JFrame} (hg : g.method = m) (hsize : g.locals.size = c.maxLocals) {argsL rest : List Value} (hlen : ∀ sig, parseMethodDescriptor y.desc = some sig → argsL.length = sig.parameters.length)
    (hstack : g.stack = argsL.reverse ++ .ref b :: rest) (hW : 2 * g.monitorRoom + (rest.map fun v => v.category).sum ≤ W9) (hdg : decode c.code g.pc = .ok (.invokevirtual index, 3))
    (hpre : ∀ vm₁, s.WarmedH vm₁ → Pre ⟨T.setVm vm₁, locs, cells, slots⟩ (Value.ref b :: argsL).toArray) :
    ∃ (v : Option Value) (vm₁ : Vm) (B : Pt), s.WarmedH vm₁ ∧ Stand p l e R s m args below meth c B.U B.locs B.cells B.slots ∧ Post ⟨T.setVm vm₁, locs, cells, slots⟩ (Value.ref b :: argsL).toArray v B ∧
      ∀ target, Steps p.tables e below (B.U.setTop { g with pc := g.pc + 3, stack := v.toList ++ rest }) target → Steps p.tables e below (T.setTop g) target := by
  obtain ⟨mk, methM, hnamed, hmethM, hstM, habM⟩ := Cond.instanceMethod_spec hinst
  obtain ⟨m8, methM', cM, hn8, hmethM', -, -, -, -, -, -, hsigM⟩ := Cond.codeWith_spec hcode
  cases Option.some.inj (hn8.symm.trans hnamed)
  cases hmethM.symm.trans hmethM'
  obtain ⟨c2, r2, m2, q1, q2, q3, q4, kP, hkP, hkPi⟩ := Cond.selects_spec hsel
  cases hcls.symm.trans q1
  cases (State.methodFound?_of_named hnamed hy).symm.trans q2
  cases hnamed.symm.trans q3
  have hselP : selectMethod e.platform s.vm cellB.cls mk = .method mk := by rw [Launch.admits_selectMethod X.admits]; exact q4
  obtain ⟨vm₁, X₁, hstep₁⟩ := X.invokevirtual hexec hown hlink hnamed hmethM hstM hkP hkPi hy (a := b) (cell := cellB) hcell
    (fun z h => by rw [h] at hobj; cases hobj) hselP hmethM habM hkP hkPi (g := g) hg (argsL := argsL) (rest := rest) (hlen _ hsigM) hstack hdg
  obtain ⟨v, B, X', hpost, hsteps⟩ := hK m meth c ⟨T.setVm vm₁, locs, cells, slots⟩ { g with stack := rest } (.invokevirtual index) mk (Value.ref b :: argsL).toArray X₁ hg hsize hdg hW (X₁.named hnamed) (hpre vm₁ X₁.warmed)
  exact ⟨v, vm₁, B, X₁.warmed, X', hpost, fun target h => hstep₁ _ fun acts => by rw [doInvoke_state]; exact hsteps.trans h⟩
abbrev vx_CVW (R : Room) (s : State) (args : Array Value) (own C : String) (index : Nat) (y : MethodName) (bytes : ByteArray) (maxL : Nat) (ret : Option FieldType) (hh : List (Nat × Nat × Nat × Nat)) (ws : List Cond) (rm : Room) (mc ms n : Nat) : Prop :=
  (rm.cells = mc ∧ rm.slots = ms ∧ rm.frames + 1 ≤ R.frames ∧ 8 + (maxL + 11) + rm.locals ≤ R.locals ∧ (∀ w ∈ ws, ∀ (a' : Array Value) (U : State), s.WarmedH U.vm → w.before a' U = true) ∧ Cond.codeWith y bytes maxL ret hh ∈ ws) ∧
  (Cond.codeWith y bytes maxL ret hh).before args s = true ∧ (Cond.initialized y.cls).before args s = true ∧ (y.cls ≠ "java/lang/invoke/MethodHandle" ∧ y.cls ≠ "java/lang/invoke/VarHandle") ∧
  (∀ sig, parseMethodDescriptor y.desc = some sig → n = sig.parameters.length) ∧ (Cond.methodLink own index y).before args s = true ∧ (Cond.instanceMethod y).before args s = true ∧ (Cond.selects C y y).before args s = true
theorem vx_cwVW {own C : String} {index maxL mc ms : Nat} {y : MethodName} {bytes : ByteArray} {ret : Option FieldType} {hh : List (Nat × Nat × Nat × Nat)} {Ts ws ws' : List Cond} {rm : Room} (n : Nat) (ht : ∀ w ∈ Ts, w.before args s = true) (hT : GoodIn Ts (wsV own index C y ws)) (hw : ws = Cond.codeWith y bytes maxL ret hh :: ws') (hrc : rm.cells = mc) (hrs : rm.slots = ms)
    (hd : y.cls = C ∧ y.cls ≠ "java/lang/invoke/MethodHandle" ∧ y.cls ≠ "java/lang/invoke/VarHandle" ∧ (parseMethodDescriptor y.desc).map (fun d => d.parameters.length) = some n) (hR : rm.frames + 1 ≤ R.frames ∧ 8 + (maxL + 11) + rm.locals ≤ R.locals) :
    vx_CVW R s args own C index y bytes maxL ret hh ws rm mc ms n := by
  obtain ⟨hC, hd⟩ := hd
  subst hC
  have ok : ∀ w ∈ wsV own index y.cls y ws, w.before args s = true := fun w h => ht w (hT w h).1
  have hG : GoodIn Ts ws := fun w h => hT w (by unfold wsV; exact List.mem_append_right _ h)
  have hc : Cond.codeWith y bytes maxL ret hh ∈ ws := by rw [hw]; exact List.mem_cons_self
  refine ⟨⟨hrc, hrs, hR.1, hR.2, pay_in ht hG, hc⟩, ht _ (hG _ hc).1, ok _ (by simp [wsV]), ⟨hd.1, hd.2.1⟩, fun sig h => ?_, ok _ (by simp [wsV]), ok _ (by simp [wsV]), ok _ (by simp [wsV])⟩
  have h2 := hd.2.2
  rw [h] at h2
  exact (Option.some.inj h2).symm
theorem vx_runVW {y : MethodName} {bytes cc : ByteArray} {maxL nL mc ms n index : Nat} {ret : Option FieldType} {hh : List (Nat × Nat × Nat × Nat)} {ws : List Cond} {rm : Room} {Pc : Array Value → State → Prop} {Qc : Array Value → State → Outcome → State → Prop} {free : Addr → Prop} {Ts : List Cond} {own C : String} {b : Addr} {As rest : List Value} {g : JFrame}
    (S : CallFix p m c cc nL s args Ts own) (hM : Met l y ws rm Pc Qc mc ms free) (cw : vx_CVW R s args own C index y bytes maxL ret hh ws rm mc ms n) (hp : PreV s H C b Pc As)
    (hg : g.method = m) (hn : As.length = n) (hsize : g.locals.size = nL) (hstack : g.stack = As.reverse ++ .ref b :: rest) (hW : 2 * g.monitorRoom + (rest.map fun v => v.category).sum ≤ 8) (hdg : decode cc g.pc = .ok (.invokevirtual index, 3)) (hf : cells + mc ≤ R.cells ∧ slots + ms ≤ R.slots) :
    va_Run p l e R s m args below meth c H locs cells slots mc ms g rest (Qc (Value.ref b :: As).toArray) free := by
  obtain ⟨⟨hrc, hrs, hfr, hlo, hws, hcw⟩, hcode, hini, hy, hlen, hl, hin, hse⟩ := cw
  have hK : Back l R p e below s args y 3 8 (PreOf R mc ms Pc) (PostOf Qc mc ms free) := va_backW (hh := hh) (bytes := bytes) (maxL := maxL) (ret := ret) hM hp.1 hrc hrs hfr hlo hws hcw (fun a' U hW => word_at hW (Or.inl (by first | rfl | simp [Cond.onTables, Cond.keeps, Cond.steady])) hini)
  obtain ⟨hx, hb, hml, ho, -⟩ := S
  obtain ⟨-, ⟨cellB, hcB, hoB, hclB⟩, hPc⟩ := hp
  intro T hT X
  obtain ⟨v, vm₁, ⟨U', l2, c2, s2⟩, hW₁, X', ⟨g', mk, t, L, e1, e2, hq, h1, hL, h2, h3⟩, st⟩ := vx_callVW X hx (C := C) (hh := hh) (bytes := bytes) (maxL := maxL) (ret := ret) ho hl hin hse hcode hy hK (by rw [hT]; exact hcB) hoB hclB hg (hsize.trans hml.symm) (argsL := As) (rest := rest) (fun sig h => hn.trans (hlen sig h)) hstack hW (by rw [hb]; exact hdg)
    (fun vm₁ hW₁ => ⟨hf.1, hf.2, hPc (T.setVm vm₁) hT hW₁⟩)
  dsimp only [Pt.U, Pt.locs, Pt.cells, Pt.slots] at X' e1 e2 h1 h2 h3 st
  subst h1; subst h2; subst h3
  exact ⟨v, (T.setVm vm₁).calling g' mk (Value.ref b :: As).toArray, t, U', L, hT, X', hL, e1, e2, hq, st⟩
section
variable {y : MethodName} {bytes cc : ByteArray} {maxL nL mc ms n index : Nat} {ret : Option FieldType} {ws : List Cond} {rm : Room} {Pc : Array Value → State → Prop} {Qc : Array Value → State → Outcome → State → Prop} {XC : String → State → State → Prop} {free : Addr → Prop} {Ts : List Cond} {own C : String} {b : Addr} {As rest : List Value} {g : JFrame}
theorem vx_runVX {hh : List (Nat × Nat × Nat × Nat)} (S : CallFix p m c cc nL s args Ts own) (hM : vx_Met l y ws rm Pc Qc XC mc ms free) (cw : vx_CVW R s args own C index y bytes maxL ret hh ws rm mc ms n) (hp : PreV s H C b Pc As)
    (hg : g.method = m) (hn : As.length = n) (hsize : g.locals.size = nL) (hstack : g.stack = As.reverse ++ .ref b :: rest) (hW : 2 * g.monitorRoom + (rest.map fun v => v.category).sum ≤ 8) (hdg : decode cc g.pc = .ok (.invokevirtual index, 3)) (hf : cells + mc ≤ R.cells ∧ slots + ms ≤ R.slots) :
    vx_Run p l e R s m args below meth c H locs cells slots mc ms g rest (Qc (Value.ref b :: As).toArray) XC free := by
  obtain ⟨⟨hrc, hrs, hfr, hlo, hws, hcw⟩, hcode, hini, hy, hlen, hl, hin, hse⟩ := cw
  have hK : vx_Back l R p e below s args y 3 8 (PreOf R mc ms Pc) (PostOf Qc mc ms free) (vx_Post XC mc ms free) := vx_backW (hh := hh) (bytes := bytes) (maxL := maxL) (ret := ret) hM hp.1 hrc hrs hfr hlo hws hcw (fun a' U hW => word_at hW (Or.inl (by first | rfl | simp [Cond.onTables, Cond.keeps, Cond.steady])) hini)
  obtain ⟨hx, hb, hml, ho, -⟩ := S
  obtain ⟨-, ⟨cellB, hcB, hoB, hclB⟩, hPc⟩ := hp
  intro T hT X
  rcases vx_callVX X hx (C := C) (hh := hh) (bytes := bytes) (maxL := maxL) (ret := ret) ho hl hin hse hcode hy hK (by rw [hT]; exact hcB) hoB hclB hg (hsize.trans hml.symm) (argsL := As) (rest := rest) (fun sig h => hn.trans (hlen sig h)) hstack hW (by rw [hb]; exact hdg)
    (fun vm₁ hW₁ => ⟨hf.1, hf.2, hPc (T.setVm vm₁) hT hW₁⟩) with ⟨v, vm₁, ⟨U', l2, c2, s2⟩, hW₁, X', ⟨g', mk, t, L, e1, e2, hq, h1, hL, h2, h3⟩, st⟩ | ⟨q, vm₁, ⟨U', l2, c2, s2⟩, hW₁, X', ⟨g', mk, t, L, E, ce, e1, e2, hq, hce, hcv, hcl, h1, hL, h2, h3⟩, st⟩
  · dsimp only [Pt.U, Pt.locs, Pt.cells, Pt.slots] at X' e1 e2 h1 h2 h3 st
    subst h1; subst h2; subst h3
    exact Or.inl ⟨v, (T.setVm vm₁).calling g' mk (Value.ref b :: As).toArray, t, U', L, hT, X', hL, e1, e2, hq, st⟩
  · dsimp only [Pt.U, Pt.locs, Pt.cells, Pt.slots] at X' e1 e2 h1 h2 h3 st hcl
    subst h1; subst h2; subst h3
    exact Or.inr ⟨q, (T.setVm vm₁).calling g' mk (Value.ref b :: As).toArray, t, U', L, E, ce, hT, X', hL, e1, e2, hq, hce, hcv, vx_cls hW₁ hcl, st⟩
theorem vx_runSX {hh : List (Nat × Nat × Nat × Nat)} (S : CallFix p m c cc nL s args Ts own) (hM : vx_Met l y ws rm Pc Qc XC mc ms free) (cw : vx_CSW R s args own index y bytes maxL ret hh ws rm mc ms n) (hp : PreS s H Pc As)
    (hg : g.method = m) (hn : As.length = n) (hsize : g.locals.size = nL) (hstack : g.stack = As.reverse ++ rest) (hW : 2 * g.monitorRoom + (rest.map fun v => v.category).sum ≤ 8) (hdg : decode cc g.pc = .ok (.invokestatic index, 3)) (hf : cells + mc ≤ R.cells ∧ slots + ms ≤ R.slots) :
    vx_Run p l e R s m args below meth c H locs cells slots mc ms g rest (Qc As.toArray) XC free := by
  obtain ⟨⟨hrc, hrs, hfr, hlo, hws, hcw⟩, hcode, hini, hy, hlen, hl, hstt⟩ := cw
  have hK : vx_Back l R p e below s args y 3 8 (PreOf R mc ms Pc) (PostOf Qc mc ms free) (vx_Post XC mc ms free) := vx_backW (hh := hh) (bytes := bytes) (maxL := maxL) (ret := ret) hM hp.1 hrc hrs hfr hlo hws hcw (fun a' U hW => word_at hW (Or.inl (by first | rfl | simp [Cond.onTables, Cond.keeps, Cond.steady])) hini)
  obtain ⟨hx, hb, hml, ho, -⟩ := S
  intro T hT X
  rcases vx_callSX X hx (hh := hh) (bytes := bytes) (maxL := maxL) (ret := ret) ho hl hstt hini hcode hy hK hg (hsize.trans hml.symm) (argsL := As) (rest := rest) (fun sig h => hn.trans (hlen sig h)) hstack hW (by rw [hb]; exact hdg)
    (fun vm₁ hW₁ => ⟨hf.1, hf.2, hp.2 (T.setVm vm₁) hT hW₁⟩) with ⟨v, vm₁, ⟨U', l2, c2, s2⟩, hW₁, X', ⟨g', mk, t, L, e1, e2, hq, h1, hL, h2, h3⟩, st⟩ | ⟨q, vm₁, ⟨U', l2, c2, s2⟩, hW₁, X', ⟨g', mk, t, L, E, ce, e1, e2, hq, hce, hcv, hcl, h1, hL, h2, h3⟩, st⟩
  · dsimp only [Pt.U, Pt.locs, Pt.cells, Pt.slots] at X' e1 e2 h1 h2 h3 st
    subst h1; subst h2; subst h3
    exact Or.inl ⟨v, (T.setVm vm₁).calling g' mk As.toArray, t, U', L, hT, X', hL, e1, e2, hq, st⟩
  · dsimp only [Pt.U, Pt.locs, Pt.cells, Pt.slots] at X' e1 e2 h1 h2 h3 st hcl
    subst h1; subst h2; subst h3
    exact Or.inr ⟨q, (T.setVm vm₁).calling g' mk As.toArray, t, U', L, E, ce, hT, X', hL, e1, e2, hq, hce, hcv, vx_cls hW₁ hcl, st⟩
end
end VXH
theorem vx_ofWH {l : Launch} {y : MethodName} {ws ws' : List Cond} {rm : Room} {Pc : Array Value → State → Prop} {Qc : Array Value → State → Outcome → State → Prop} {XC : String → State → State → Prop} {mc ms : Nat} {free : Addr → Prop} {cc : ByteArray} {maxL : Nat} {ret : Option FieldType} {hh : List (Nat × Nat × Nat × Nat)}
    (hy : plainName y.cls = true) (hw : ws = Cond.codeWith y cc maxL ret hh :: ws')
    (body : ∀ p e s m args below meth c s₁, BodyLoose p l y (headSpec ws rm) cc maxL ret e s m args below meth c s₁ → c.maxLocals = maxL → Pc args s →
      W p l e (headSpec ws rm).room s m args below meth c s.heap [] 0 0 (vx_MQ below Qc XC args s mc ms free) (entryFrame m args maxL)) : vx_Met l y ws rm Pc Qc XC mc ms free := by
  refine MetFree.of_bodyS (code := cc) (maxLocals := maxL) (ret := ret) hy ?_ ?_
  · intro args s m h hn
    obtain ⟨m9, meth, c, hn9, h1, h2, h3, h4, -, h5, h6, -⟩ := Cond.codeWith_spec (atoms_spec (ws := ws) h _ (by rw [hw]; exact List.mem_cons_self))
    cases hn.symm.trans hn9
    exact ⟨meth, c, h1, h2, h3, h4, h5, h6⟩
  · intro p e s m args below meth c s₁ B hml hP _
    have hh0 : s₁.heap = s.heap := by rw [B.state]; rfl
    obtain ⟨t, a1, o, b1, b2, b3⟩ := body p e s m args below meth c s₁ B hml hP s₁ hh0 (Stand.of_body B)
    exact ⟨t, o, a1, b1, b2, b3⟩
/-! ===== END ===== -/
/-! ===== BEGIN a constructor that throws (launches without stack traces) ===== -/
section VXIA
variable {p : Program} {l : Launch} {e : Env} {R : Room} {s : State} {m : MethodId} {args : Array Value} {below : List Frame} {meth : Method} {c : Code} {T : State} {locs : List Loc} {cells slots : Nat}
theorem vx_callI (X : Stand p l e R s m args below meth c T locs cells slots) (hexec : p.tables.exec = Jvm.exec) {own : String} {index : Nat} {y : MethodName} {bytes : ByteArray} {maxL : Nat}
    (hown : s.vm.findClass own = some m.cls) (hy1 : y.name = "<init>") (hlink : (Cond.methodLink own index y).before args s = true) (hinst : (Cond.instanceMethod y).before args s = true)
    (hcode : (Cond.code y bytes maxL none).before args s = true) (hy : y.cls ≠ "java/lang/invoke/MethodHandle" ∧ y.cls ≠ "java/lang/invoke/VarHandle")
    {W9 : Nat} {Pre : Pt → Array Value → Prop} {Post : Pt → Array Value → Option Value → Pt → Prop} {PostX : Pt → Array Value → Addr → Pt → Prop} (hK : vx_Back l R p e below s args y 3 W9 Pre Post PostX)
    {g : JFrame} (hg : g.method = m) (hsize : g.locals.size = c.maxLocals) {a : Addr} {argsL rest : List Value} (hlen : ∀ sig, parseMethodDescriptor y.desc = some sig → argsL.length = sig.parameters.length)
    (hstack : g.stack = argsL.reverse ++ .ref a :: rest) (hW : 2 * g.monitorRoom + (rest.map fun v => v.category).sum ≤ W9) (hdg : decode c.code g.pc = .ok (.invokespecial index, 3))
    (hpre : ∀ vm₁, s.WarmedH vm₁ → Pre ⟨T.setVm vm₁, locs, cells, slots⟩ (Value.ref a :: argsL).toArray) :
    (∃ (v : Option Value) (vm₁ : Vm) (B : Pt), s.WarmedH vm₁ ∧ Stand p l e R s m args below meth c B.U B.locs B.cells B.slots ∧ Post ⟨T.setVm vm₁, locs, cells, slots⟩ (Value.ref a :: argsL).toArray v B ∧
      ∀ target, Steps p.tables e below (B.U.setTop { g with pc := g.pc + 3, stack := v.toList ++ rest }) target → Steps p.tables e below (T.setTop g) target) ∨
    (∃ (q : Addr) (vm₁ : Vm) (B : Pt), s.WarmedH vm₁ ∧ Stand p l e R s m args below meth c B.U B.locs B.cells B.slots ∧ PostX ⟨T.setVm vm₁, locs, cells, slots⟩ (Value.ref a :: argsL).toArray q B ∧
      Steps p.tables e below (T.setTop g) ((B.U.setTop { g with stack := rest }).pushFrame (.throwing q))) := by
  subst hg
  have hpl : e.platform.magicAccessors = ({} : Platform).magicAccessors := by rw [X.admits.platform]
  obtain ⟨mk, methM, cM, kP, vm₁, hnamed, hmethM, hcodeM, -, hlocalsM, -, hkP, -, hW₁, hstep₁⟩ := Steps.initColdArgs (e := e) X.here hexec X.warmed hpl hown hy1 hy hlink hinst hcode (f := g) rfl hlen hstack hdg
  have X₁ := X.noted hW₁
  rcases hK g.method meth c ⟨T.setVm vm₁, locs, cells, slots⟩ { g with stack := rest } (.invokespecial index) mk (Value.ref a :: argsL).toArray X₁ rfl hsize hdg hW (X₁.named hnamed) (hpre vm₁ X₁.warmed) with ⟨v, B, X', hpost, hsteps⟩ | ⟨q, B, X', hpost, hsteps⟩
  · exact Or.inl ⟨v, vm₁, B, X₁.warmed, X', hpost, fun target h => hstep₁ _ fun acts => by rw [doInvoke_state]; exact hsteps.trans h⟩
  · exact Or.inr ⟨q, vm₁, B, X₁.warmed, X', hpost, hstep₁ _ fun acts => by rw [doInvoke_state]; exact hsteps⟩
end VXIA
section VXIB
variable {p : Program} {l : Launch} {e : Env} {R : Room} {s : State} {m : MethodId} {args : Array Value} {below : List Frame} {meth : Method} {c : Code} {H : Heap} {locs : List Loc} {cells slots : Nat}
variable {y : MethodName} {bytes cc : ByteArray} {maxL nL mc ms n index : Nat} {ret : Option FieldType} {ws : List Cond} {rm : Room} {Pc : Array Value → State → Prop} {Qc : Array Value → State → Outcome → State → Prop} {XC : String → State → State → Prop} {free : Addr → Prop} {Ts : List Cond} {own C : String} {b : Addr} {As rest : List Value} {g : JFrame}
theorem vx_runI (S : CallFix p m c cc nL s args Ts own) (hM : vx_Met l y ws rm Pc Qc XC mc ms free) (cw : CallB R s args own index y bytes maxL none ws rm mc ms n ∧ y.name = "<init>" ∧ (Cond.instanceMethod y).before args s = true) (hp : PreS s H Pc (.ref b :: As))
    (hg : g.method = m) (hn : As.length = n) (hsize : g.locals.size = nL) (hstack : g.stack = As.reverse ++ .ref b :: rest) (hW : 2 * g.monitorRoom + (rest.map fun v => v.category).sum ≤ 8) (hdg : decode cc g.pc = .ok (.invokespecial index, 3)) (hf : cells + mc ≤ R.cells ∧ slots + ms ≤ R.slots) :
    vx_Run p l e R s m args below meth c H locs cells slots mc ms g rest (Qc (Value.ref b :: As).toArray) XC free := by
  have hK : vx_Back l R p e below s args y 3 8 (PreOf R mc ms Pc) (PostOf Qc mc ms free) (vx_Post XC mc ms free) := vx_callBack cw.1 hM hp.1
  obtain ⟨⟨-, -, -, -, -, -, hcode, -, hy, hlen, hl⟩, hy1, hin⟩ := cw
  obtain ⟨hx, hb, hml, ho, -⟩ := S
  have hPc := hp.2
  intro T hT X
  rcases vx_callI X hx (bytes := bytes) (maxL := maxL) ho hy1 hl hin hcode hy hK hg (hsize.trans hml.symm) (a := b) (argsL := As) (rest := rest) (fun sig h => hn.trans (hlen sig h)) hstack hW (by rw [hb]; exact hdg)
    (fun vm₁ hW₁ => ⟨hf.1, hf.2, hPc (T.setVm vm₁) hT hW₁⟩) with ⟨v, vm₁, ⟨U', l2, c2, s2⟩, hW₁, X', ⟨g', mk, t, L, e1, e2, hq, h1, hL, h2, h3⟩, st⟩ | ⟨q, vm₁, ⟨U', l2, c2, s2⟩, hW₁, X', ⟨g', mk, t, L, E, ce, e1, e2, hq, hce, hcv, hcl, h1, hL, h2, h3⟩, st⟩
  · dsimp only [Pt.U, Pt.locs, Pt.cells, Pt.slots] at X' e1 e2 h1 h2 h3 st
    subst h1; subst h2; subst h3
    exact Or.inl ⟨v, (T.setVm vm₁).calling g' mk (Value.ref b :: As).toArray, t, U', L, hT, X', hL, e1, e2, hq, st⟩
  · dsimp only [Pt.U, Pt.locs, Pt.cells, Pt.slots] at X' e1 e2 h1 h2 h3 st hcl
    subst h1; subst h2; subst h3
    exact Or.inr ⟨q, (T.setVm vm₁).calling g' mk (Value.ref b :: As).toArray, t, U', L, E, ce, hT, X', hL, e1, e2, hq, hce, hcv, vx_cls hW₁ hcl, st⟩
end VXIB
/-! ===== END ===== -/
/-! ===== BEGIN a private constructor of a nest mate that throws ===== -/
section VXIC
variable {p : Program} {l : Launch} {e : Env} {R : Room} {s : State} {m : MethodId} {args : Array Value} {below : List Frame} {meth : Method} {c : Code} {T : State} {locs : List Loc} {cells slots : Nat}
theorem vx_callIN (X : Stand p l e R s m args below meth c T locs cells slots) (hexec : p.tables.exec = Jvm.exec) {own : String} {index : Nat} {host : String} {y : MethodName} {bytes : ByteArray} {maxL : Nat}
    (hown : s.vm.findClass own = some m.cls) (hy1 : y.name = "<init>") (hlink : (Cond.methodLinkNest own index y host).before args s = true) (hinst : (Cond.instanceMethod y).before args s = true)
    (hcode : (Cond.code y bytes maxL none).before args s = true) (hy : y.cls ≠ "java/lang/invoke/MethodHandle" ∧ y.cls ≠ "java/lang/invoke/VarHandle")
    {W9 : Nat} {Pre : Pt → Array Value → Prop} {Post : Pt → Array Value → Option Value → Pt → Prop} {PostX : Pt → Array Value → Addr → Pt → Prop} (hK : vx_Back l R p e below s args y 3 W9 Pre Post PostX)
    {g : JFrame} (hg : g.method = m) (hsize : g.locals.size = c.maxLocals) {a : Addr} {argsL rest : List Value} (hlen : ∀ sig, parseMethodDescriptor y.desc = some sig → argsL.length = sig.parameters.length)
    (hstack : g.stack = argsL.reverse ++ .ref a :: rest) (hW : 2 * g.monitorRoom + (rest.map fun v => v.category).sum ≤ W9) (hdg : decode c.code g.pc = .ok (.invokespecial index, 3))
    (hpre : ∀ vm₁, s.WarmedH vm₁ → Pre ⟨T.setVm vm₁, locs, cells, slots⟩ (Value.ref a :: argsL).toArray) :
    (∃ (v : Option Value) (vm₁ : Vm) (B : Pt), s.WarmedH vm₁ ∧ Stand p l e R s m args below meth c B.U B.locs B.cells B.slots ∧ Post ⟨T.setVm vm₁, locs, cells, slots⟩ (Value.ref a :: argsL).toArray v B ∧
      ∀ target, Steps p.tables e below (B.U.setTop { g with pc := g.pc + 3, stack := v.toList ++ rest }) target → Steps p.tables e below (T.setTop g) target) ∨
    (∃ (q : Addr) (vm₁ : Vm) (B : Pt), s.WarmedH vm₁ ∧ Stand p l e R s m args below meth c B.U B.locs B.cells B.slots ∧ PostX ⟨T.setVm vm₁, locs, cells, slots⟩ (Value.ref a :: argsL).toArray q B ∧
      Steps p.tables e below (T.setTop g) ((B.U.setTop { g with stack := rest }).pushFrame (.throwing q))) := by
  subst hg
  have hpl : e.platform.magicAccessors = ({} : Platform).magicAccessors := by rw [X.admits.platform]
  obtain ⟨mk, methM, cM, kP, vm₁, hnamed, hmethM, hcodeM, -, hlocalsM, -, hkP, -, hW₁, hstep₁⟩ := Steps.initColdArgsNest (e := e) X.here hexec X.warmed hpl hown hy1 hy hlink hinst hcode (f := g) rfl hlen hstack hdg
  have X₁ := X.noted hW₁
  rcases hK g.method meth c ⟨T.setVm vm₁, locs, cells, slots⟩ { g with stack := rest } (.invokespecial index) mk (Value.ref a :: argsL).toArray X₁ rfl hsize hdg hW (X₁.named hnamed) (hpre vm₁ X₁.warmed) with ⟨v, B, X', hpost, hsteps⟩ | ⟨q, B, X', hpost, hsteps⟩
  · exact Or.inl ⟨v, vm₁, B, X₁.warmed, X', hpost, fun target h => hstep₁ _ fun acts => by rw [doInvoke_state]; exact hsteps.trans h⟩
  · exact Or.inr ⟨q, vm₁, B, X₁.warmed, X', hpost, hstep₁ _ fun acts => by rw [doInvoke_state]; exact hsteps⟩
end VXIC
section VXID
variable {p : Program} {l : Launch} {e : Env} {R : Room} {s : State} {m : MethodId} {args : Array Value} {below : List Frame} {meth : Method} {c : Code} {H : Heap} {locs : List Loc} {cells slots : Nat}
theorem vx_runIN {y : MethodName} {bytes cc : ByteArray} {maxL nL mc ms n index : Nat} {ws : List Cond} {rm : Room} {Pc : Array Value → State → Prop} {Qc : Array Value → State → Outcome → State → Prop} {XC : String → State → State → Prop} {free : Addr → Prop} {Ts : List Cond} {own host : String} {b : Addr} {As rest : List Value} {g : JFrame}
    (S : CallFix p m c cc nL s args Ts own) (hM : vx_Met l y ws rm Pc Qc XC mc ms free) (cw : va_CN R s args own index y host bytes maxL none ws rm mc ms n ∧ y.name = "<init>" ∧ (Cond.instanceMethod y).before args s = true) (hp : PreS s H Pc (.ref b :: As))
    (hg : g.method = m) (hn : As.length = n) (hsize : g.locals.size = nL) (hstack : g.stack = As.reverse ++ .ref b :: rest) (hW : 2 * g.monitorRoom + (rest.map fun v => v.category).sum ≤ 8) (hdg : decode cc g.pc = .ok (.invokespecial index, 3)) (hf : cells + mc ≤ R.cells ∧ slots + ms ≤ R.slots) :
    vx_Run p l e R s m args below meth c H locs cells slots mc ms g rest (Qc (Value.ref b :: As).toArray) XC free := by
  obtain ⟨⟨⟨hrc, hrs, hfr, hlo, hws, hcw⟩, hcode, hini, hy, hlen, hl⟩, hx1, hx2⟩ := cw
  have hK : vx_Back l R p e below s args y 3 8 (PreOf R mc ms Pc) (PostOf Qc mc ms free) (vx_Post XC mc ms free) := vx_back (bytes := bytes) (maxL := maxL) (ret := none) hM hp.1 hrc hrs hfr hlo hws hcw (fun a' U hW => word_at hW (Or.inl (by first | rfl | simp [Cond.onTables, Cond.keeps, Cond.steady])) hini)
  obtain ⟨hx, hb, hml, ho, -⟩ := S
  have hPc := hp.2
  intro T hT X
  rcases vx_callIN X hx (bytes := bytes) (maxL := maxL) ho hx1 hl hx2 hcode hy hK hg (hsize.trans hml.symm) (a := b) (argsL := As) (rest := rest) (fun sig h => hn.trans (hlen sig h)) hstack hW (by rw [hb]; exact hdg)
    (fun vm₁ hW₁ => ⟨hf.1, hf.2, hPc (T.setVm vm₁) hT hW₁⟩) with ⟨v, vm₁, ⟨U', l2, c2, s2⟩, hW₁, X', ⟨g', mk, t, L, e1, e2, hq, h1, hL, h2, h3⟩, st⟩ | ⟨q, vm₁, ⟨U', l2, c2, s2⟩, hW₁, X', ⟨g', mk, t, L, E, ce, e1, e2, hq, hce, hcv, hcl, h1, hL, h2, h3⟩, st⟩
  · dsimp only [Pt.U, Pt.locs, Pt.cells, Pt.slots] at X' e1 e2 h1 h2 h3 st
    subst h1; subst h2; subst h3
    exact Or.inl ⟨v, (T.setVm vm₁).calling g' mk (Value.ref b :: As).toArray, t, U', L, hT, X', hL, e1, e2, hq, st⟩
  · dsimp only [Pt.U, Pt.locs, Pt.cells, Pt.slots] at X' e1 e2 h1 h2 h3 st hcl
    subst h1; subst h2; subst h3
    exact Or.inr ⟨q, (T.setVm vm₁).calling g' mk (Value.ref b :: As).toArray, t, U', L, E, ce, hT, X', hL, e1, e2, hq, hce, hcv, vx_cls hW₁ hcl, st⟩
end VXID
/-! ===== END ===== -/
/-! ===== BEGIN a private method of a nest mate that may throw (follows va_callVN, va_callSN, va_runVN, va_runSN) ===== -/
section
variable {p : Program} {l : Launch} {e : Env} {R : Room} {s : State} {m : MethodId} {args : Array Value} {below : List Frame} {meth : Method} {c : Code} {H : Heap} {locs : List Loc} {cells slots : Nat}
variable {T : State}
theorem vx_callVN (X : Stand p l e R s m args below meth c T locs cells slots) (hexec : p.tables.exec = Jvm.exec) {own C : String} {index : Nat} {host : String} {y : MethodName} {bytes : ByteArray} {maxL : Nat} {ret : Option FieldType}
    (hown : s.vm.findClass own = some m.cls) (hlink : (Cond.methodLinkNest own index y host).before args s = true) (hinst : (Cond.instanceMethod y).before args s = true) (hsel : (Cond.selects C y y).before args s = true)
    (hcode : (Cond.code y bytes maxL ret).before args s = true) (hy : y.cls ≠ "java/lang/invoke/MethodHandle" ∧ y.cls ≠ "java/lang/invoke/VarHandle")
    {W : Nat} {Pre : Pt → Array Value → Prop} {Post : Pt → Array Value → Option Value → Pt → Prop} {PostX : Pt → Array Value → Addr → Pt → Prop} (hK : vx_Back l R p e below s args y 3 W Pre Post PostX)
    {b : Addr} {cellB : Cell} (hcell : T.heap[b]? = some cellB) (hobj : cellB.vm.isStatics = false) (hcls : s.vm.findClass C = some cellB.cls)
    {g : JFrame} (hg : g.method = m) (hsize : g.locals.size = c.maxLocals) {argsL rest : List Value} (hlen : ∀ sig, parseMethodDescriptor y.desc = some sig → argsL.length = sig.parameters.length)
    (hstack : g.stack = argsL.reverse ++ .ref b :: rest) (hW : 2 * g.monitorRoom + (rest.map fun v => v.category).sum ≤ W) (hdg : decode c.code g.pc = .ok (.invokevirtual index, 3))
    (hpre : ∀ vm₁, s.WarmedH vm₁ → Pre ⟨T.setVm vm₁, locs, cells, slots⟩ (Value.ref b :: argsL).toArray) :
    (∃ (v : Option Value) (vm₁ : Vm) (B : Pt), s.WarmedH vm₁ ∧ Stand p l e R s m args below meth c B.U B.locs B.cells B.slots ∧ Post ⟨T.setVm vm₁, locs, cells, slots⟩ (Value.ref b :: argsL).toArray v B ∧
      ∀ target, Steps p.tables e below (B.U.setTop { g with pc := g.pc + 3, stack := v.toList ++ rest }) target → Steps p.tables e below (T.setTop g) target) ∨
    (∃ (q : Addr) (vm₁ : Vm) (B : Pt), s.WarmedH vm₁ ∧ Stand p l e R s m args below meth c B.U B.locs B.cells B.slots ∧ PostX ⟨T.setVm vm₁, locs, cells, slots⟩ (Value.ref b :: argsL).toArray q B ∧
      Steps p.tables e below (T.setTop g) ((B.U.setTop { g with stack := rest }).pushFrame (.throwing q))) := by
  obtain ⟨mk, methM, hnamed, hmethM, hstM, habM⟩ := Cond.instanceMethod_spec hinst
  obtain ⟨methM', cM, hmethM', -, -, -, -, -, -, hsigM⟩ := Cond.code_spec hnamed hcode
  cases hmethM.symm.trans hmethM'
  obtain ⟨c2, r2, m2, q1, q2, q3, q4, kP, hkP, hkPi⟩ := Cond.selects_spec hsel
  cases hcls.symm.trans q1
  cases (State.methodFound?_of_named hnamed hy).symm.trans q2
  cases hnamed.symm.trans q3
  have hselP : selectMethod e.platform s.vm cellB.cls mk = .method mk := by rw [Launch.admits_selectMethod X.admits]; exact q4
  obtain ⟨vm₁, X₁, hstep₁⟩ := X.invokevirtualNest hexec hown hlink hnamed hmethM hstM hkP hkPi hy (a := b) (cell := cellB) hcell
    (fun z h => by rw [h] at hobj; cases hobj) hselP hmethM habM hkP hkPi (g := g) hg (argsL := argsL) (rest := rest) (hlen _ hsigM) hstack hdg
  rcases hK m meth c ⟨T.setVm vm₁, locs, cells, slots⟩ { g with stack := rest } (.invokevirtual index) mk (Value.ref b :: argsL).toArray X₁ hg hsize hdg hW (X₁.named hnamed) (hpre vm₁ X₁.warmed) with ⟨v, B, X', hpost, hsteps⟩ | ⟨q, B, X', hpost, hsteps⟩
  · exact Or.inl ⟨v, vm₁, B, X₁.warmed, X', hpost, fun target h => hstep₁ _ fun acts => by rw [doInvoke_state]; exact hsteps.trans h⟩
  · exact Or.inr ⟨q, vm₁, B, X₁.warmed, X', hpost, hstep₁ _ fun acts => by rw [doInvoke_state]; exact hsteps⟩
theorem vx_callSN (X : Stand p l e R s m args below meth c T locs cells slots) (hexec : p.tables.exec = Jvm.exec) {own : String} {index : Nat} {host : String} {y : MethodName} {bytes : ByteArray} {maxL : Nat} {ret : Option FieldType}
    (hown : s.vm.findClass own = some m.cls) (hlink : (Cond.methodLinkNest own index y host).before args s = true) (hstat : (Cond.static y).before args s = true) (hinit : (Cond.initialized y.cls).before args s = true)
    (hcode : (Cond.code y bytes maxL ret).before args s = true) (hy : y.cls ≠ "java/lang/invoke/MethodHandle" ∧ y.cls ≠ "java/lang/invoke/VarHandle")
    {W : Nat} {Pre : Pt → Array Value → Prop} {Post : Pt → Array Value → Option Value → Pt → Prop} {PostX : Pt → Array Value → Addr → Pt → Prop} (hK : vx_Back l R p e below s args y 3 W Pre Post PostX)
    {g : JFrame} (hg : g.method = m) (hsize : g.locals.size = c.maxLocals) {argsL rest : List Value} (hlen : ∀ sig, parseMethodDescriptor y.desc = some sig → argsL.length = sig.parameters.length)
    (hstack : g.stack = argsL.reverse ++ rest) (hW : 2 * g.monitorRoom + (rest.map fun v => v.category).sum ≤ W) (hdg : decode c.code g.pc = .ok (.invokestatic index, 3))
    (hpre : ∀ vm₁, s.WarmedH vm₁ → Pre ⟨T.setVm vm₁, locs, cells, slots⟩ argsL.toArray) :
    (∃ (v : Option Value) (vm₁ : Vm) (B : Pt), s.WarmedH vm₁ ∧ Stand p l e R s m args below meth c B.U B.locs B.cells B.slots ∧ Post ⟨T.setVm vm₁, locs, cells, slots⟩ argsL.toArray v B ∧
      ∀ target, Steps p.tables e below (B.U.setTop { g with pc := g.pc + 3, stack := v.toList ++ rest }) target → Steps p.tables e below (T.setTop g) target) ∨
    (∃ (q : Addr) (vm₁ : Vm) (B : Pt), s.WarmedH vm₁ ∧ Stand p l e R s m args below meth c B.U B.locs B.cells B.slots ∧ PostX ⟨T.setVm vm₁, locs, cells, slots⟩ argsL.toArray q B ∧
      Steps p.tables e below (T.setTop g) ((B.U.setTop { g with stack := rest }).pushFrame (.throwing q))) := by
  obtain ⟨mk, hnamed⟩ := Cond.code_named hcode
  obtain ⟨methM, cM, hmethM, -, -, -, -, -, -, hsigM⟩ := Cond.code_spec hnamed hcode
  have hstatic : methM.isStatic = true := Cond.static_spec hnamed hmethM hstat
  obtain ⟨kP, hkP, -⟩ := className_of_methodNamed hnamed
  have hinitP : kP.init = .initialized := Cond.initialized_spec (findClass_of_methodNamed hnamed) hkP hinit
  obtain ⟨vm₁, X₁, hstep₁⟩ := X.invokestaticNest hexec hown hlink hnamed hmethM hstatic hkP hinitP hy (g := g) hg (argsL := argsL) (rest := rest) (hlen _ hsigM) hstack hdg
  rcases hK m meth c ⟨T.setVm vm₁, locs, cells, slots⟩ { g with stack := rest } (.invokestatic index) mk argsL.toArray X₁ hg hsize hdg hW (X₁.named hnamed) (hpre vm₁ X₁.warmed) with ⟨v, B, X', hpost, hsteps⟩ | ⟨q, B, X', hpost, hsteps⟩
  · exact Or.inl ⟨v, vm₁, B, X₁.warmed, X', hpost, fun target h => hstep₁ _ fun acts => by rw [doInvoke_state]; exact hsteps.trans h⟩
  · exact Or.inr ⟨q, vm₁, B, X₁.warmed, X', hpost, hstep₁ _ fun acts => by rw [doInvoke_state]; exact hsteps⟩
theorem vx_runVN {y : MethodName} {bytes cc : ByteArray} {maxL nL mc ms n index : Nat} {ret : Option FieldType} {ws : List Cond} {rm : Room} {Pc : Array Value → State → Prop} {Qc : Array Value → State → Outcome → State → Prop} {XC : String → State → State → Prop} {free : Addr → Prop} {Ts : List Cond} {own C host : String} {b : Addr} {As rest : List Value} {g : JFrame}
    (S : CallFix p m c cc nL s args Ts own) (hM : vx_Met l y ws rm Pc Qc XC mc ms free) (cw : va_CN R s args own index y host bytes maxL ret ws rm mc ms n ∧ (Cond.instanceMethod y).before args s = true ∧ (Cond.selects C y y).before args s = true) (hp : PreV s H C b Pc As)
    (hg : g.method = m) (hn : As.length = n) (hsize : g.locals.size = nL) (hstack : g.stack = As.reverse ++ .ref b :: rest) (hW : 2 * g.monitorRoom + (rest.map fun v => v.category).sum ≤ 8) (hdg : decode cc g.pc = .ok (.invokevirtual index, 3)) (hf : cells + mc ≤ R.cells ∧ slots + ms ≤ R.slots) :
    vx_Run p l e R s m args below meth c H locs cells slots mc ms g rest (Qc (Value.ref b :: As).toArray) XC free := by
  obtain ⟨⟨⟨hrc, hrs, hfr, hlo, hws, hcw⟩, hcode, hini, hy, hlen, hl⟩, hx1, hx2⟩ := cw
  have hK : vx_Back l R p e below s args y 3 8 (PreOf R mc ms Pc) (PostOf Qc mc ms free) (vx_Post XC mc ms free) := vx_back (bytes := bytes) (maxL := maxL) (ret := ret) hM hp.1 hrc hrs hfr hlo hws hcw (fun a' U hW => word_at hW (Or.inl (by first | rfl | simp [Cond.onTables, Cond.keeps, Cond.steady])) hini)
  obtain ⟨hx, hb, hml, ho, -⟩ := S
  obtain ⟨-, ⟨cellB, hcB, hoB, hclB⟩, hPc⟩ := hp
  intro T hT X
  rcases vx_callVN X hx (C := C) (bytes := bytes) (maxL := maxL) (ret := ret) ho hl hx1 hx2 hcode hy hK (by rw [hT]; exact hcB) hoB hclB hg (hsize.trans hml.symm) (argsL := As) (rest := rest) (fun sig h => hn.trans (hlen sig h)) hstack hW (by rw [hb]; exact hdg)
    (fun vm₁ hW₁ => ⟨hf.1, hf.2, hPc (T.setVm vm₁) hT hW₁⟩) with ⟨v, vm₁, ⟨U', l2, c2, s2⟩, hW₁, X', ⟨g', mk, t, L, e1, e2, hq, h1, hL, h2, h3⟩, st⟩ | ⟨q, vm₁, ⟨U', l2, c2, s2⟩, hW₁, X', ⟨g', mk, t, L, E, ce, e1, e2, hq, hce, hcv, hcl, h1, hL, h2, h3⟩, st⟩
  · dsimp only [Pt.U, Pt.locs, Pt.cells, Pt.slots] at X' e1 e2 h1 h2 h3 st
    subst h1; subst h2; subst h3
    exact Or.inl ⟨v, (T.setVm vm₁).calling g' mk (Value.ref b :: As).toArray, t, U', L, hT, X', hL, e1, e2, hq, st⟩
  · dsimp only [Pt.U, Pt.locs, Pt.cells, Pt.slots] at X' e1 e2 h1 h2 h3 st hcl
    subst h1; subst h2; subst h3
    exact Or.inr ⟨q, (T.setVm vm₁).calling g' mk (Value.ref b :: As).toArray, t, U', L, E, ce, hT, X', hL, e1, e2, hq, hce, hcv, vx_cls hW₁ hcl, st⟩
theorem vx_runSN {y : MethodName} {bytes cc : ByteArray} {maxL nL mc ms n index : Nat} {ret : Option FieldType} {ws : List Cond} {rm : Room} {Pc : Array Value → State → Prop} {Qc : Array Value → State → Outcome → State → Prop} {XC : String → State → State → Prop} {free : Addr → Prop} {Ts : List Cond} {own host : String} {As rest : List Value} {g : JFrame}
    (S : CallFix p m c cc nL s args Ts own) (hM : vx_Met l y ws rm Pc Qc XC mc ms free) (cw : va_CN R s args own index y host bytes maxL ret ws rm mc ms n ∧ (Cond.static y).before args s = true ∧ True) (hp : PreS s H Pc As)
    (hg : g.method = m) (hn : As.length = n) (hsize : g.locals.size = nL) (hstack : g.stack = As.reverse ++ rest) (hW : 2 * g.monitorRoom + (rest.map fun v => v.category).sum ≤ 8) (hdg : decode cc g.pc = .ok (.invokestatic index, 3)) (hf : cells + mc ≤ R.cells ∧ slots + ms ≤ R.slots) :
    vx_Run p l e R s m args below meth c H locs cells slots mc ms g rest (Qc As.toArray) XC free := by
  obtain ⟨⟨⟨hrc, hrs, hfr, hlo, hws, hcw⟩, hcode, hini, hy, hlen, hl⟩, hx1, hx2⟩ := cw
  have hK : vx_Back l R p e below s args y 3 8 (PreOf R mc ms Pc) (PostOf Qc mc ms free) (vx_Post XC mc ms free) := vx_back (bytes := bytes) (maxL := maxL) (ret := ret) hM hp.1 hrc hrs hfr hlo hws hcw (fun a' U hW => word_at hW (Or.inl (by first | rfl | simp [Cond.onTables, Cond.keeps, Cond.steady])) hini)
  obtain ⟨hx, hb, hml, ho, -⟩ := S
  have hPc := hp.2
  intro T hT X
  rcases vx_callSN X hx (bytes := bytes) (maxL := maxL) (ret := ret) ho hl hx1 hini hcode hy hK hg (hsize.trans hml.symm) (argsL := As) (rest := rest) (fun sig h => hn.trans (hlen sig h)) hstack hW (by rw [hb]; exact hdg)
    (fun vm₁ hW₁ => ⟨hf.1, hf.2, hPc (T.setVm vm₁) hT hW₁⟩) with ⟨v, vm₁, ⟨U', l2, c2, s2⟩, hW₁, X', ⟨g', mk, t, L, e1, e2, hq, h1, hL, h2, h3⟩, st⟩ | ⟨q, vm₁, ⟨U', l2, c2, s2⟩, hW₁, X', ⟨g', mk, t, L, E, ce, e1, e2, hq, hce, hcv, hcl, h1, hL, h2, h3⟩, st⟩
  · dsimp only [Pt.U, Pt.locs, Pt.cells, Pt.slots] at X' e1 e2 h1 h2 h3 st
    subst h1; subst h2; subst h3
    exact Or.inl ⟨v, (T.setVm vm₁).calling g' mk As.toArray, t, U', L, hT, X', hL, e1, e2, hq, st⟩
  · dsimp only [Pt.U, Pt.locs, Pt.cells, Pt.slots] at X' e1 e2 h1 h2 h3 st hcl
    subst h1; subst h2; subst h3
    exact Or.inr ⟨q, (T.setVm vm₁).calling g' mk As.toArray, t, U', L, E, ce, hT, X', hL, e1, e2, hq, hce, hcv, vx_cls hW₁ hcl, st⟩
end
/-! ===== END ===== -/
end
section
/-! arrays of arrays of arrays: 'multianewarray' of three dimensions; and rows for two and three that say nothing of what is made (it is only kept) -/
section XG
def xg_out (c : ClassId) (N h0 w : Nat) : Nat → Cell
  | 0 => { cls := c, slots := Array.replicate N .null, vm := .none }
  | i + 1 => (xg_out c N h0 w i).setSlot i (.ref (h0 + 1 + i * w))
def xg_fill (s : State) (c comp comp2 : ClassId) (N M K : Nat) (dv : Value) : Nat → State
  | 0 => s.pushCell (xg_out c N s.heap.size (1 + M) 0)
  | i + 1 => (Jvm.Free.Multi.fill (xg_fill s c comp comp2 N M K dv i) comp comp2 M K dv M).setCell s.heap.size (xg_out c N s.heap.size (1 + M) (i + 1))
theorem xg_out_facts (c : ClassId) (N h0 w : Nat) : ∀ i, (xg_out c N h0 w i).cls = c ∧ (xg_out c N h0 w i).vm = .none ∧ (xg_out c N h0 w i).slots.size = N
  | 0 => ⟨rfl, rfl, by simp [xg_out]⟩
  | i + 1 => by
    obtain ⟨a, b, d⟩ := xg_out_facts c N h0 w i
    exact ⟨by simp [xg_out, Cell.setSlot, a], by simp [xg_out, Cell.setSlot, b], by simp [xg_out, Cell.setSlot, d]⟩
theorem xg_facts (s : State) (c comp comp2 : ClassId) (N M K : Nat) (dv : Value) : ∀ i, (xg_fill s c comp comp2 N M K dv i).heap.size = s.heap.size + 1 + i * (1 + M) ∧ (xg_fill s c comp comp2 N M K dv i).heap[s.heap.size]? = some (xg_out c N s.heap.size (1 + M) i) ∧
    (xg_fill s c comp comp2 N M K dv i).vm = s.vm ∧ (xg_fill s c comp comp2 N M K dv i).slotsUsed = s.slotsUsed + N + i * (M + M * K)
  | 0 => ⟨by simp [xg_fill], by simp [xg_fill], rfl, by simp [xg_fill, xg_out]⟩
  | i + 1 => by
    obtain ⟨a, b, d, u⟩ := xg_facts s c comp comp2 N M K dv i
    obtain ⟨f1, -, f3, f4⟩ := Jvm.Free.Multi.fill_facts (xg_fill s c comp comp2 N M K dv i) comp comp2 M K dv M
    have hlt : s.heap.size < (xg_fill s c comp comp2 N M K dv i).heap.size := by omega
    have hb' : (Jvm.Free.Multi.fill (xg_fill s c comp comp2 N M K dv i) comp comp2 M K dv M).heap[s.heap.size]? = some (xg_out c N s.heap.size (1 + M) i) := by
      rw [Jvm.Free.Multi.fill_old (xg_fill s c comp comp2 N M K dv i) comp comp2 M K dv hlt M]; exact b
    refine ⟨?_, State.heap_setCell_self hb', ?_, ?_⟩
    · show ((Jvm.Free.Multi.fill _ _ _ _ _ _ _).setCell _ _).heap.size = _
      rw [size_setCell, f1, a, Nat.succ_mul]; omega
    · show (Jvm.Free.Multi.fill _ _ _ _ _ _ _).vm = _
      rw [f3, d]
    · show (Jvm.Free.Multi.fill _ _ _ _ _ _ _).slotsUsed = _
      rw [f4, u, Nat.succ_mul]; omega
theorem xg_setTop (s : State) (f : JFrame) (c comp comp2 : ClassId) (N M K : Nat) (dv : Value) : ∀ i, xg_fill (s.setTop f) c comp comp2 N M K dv i = (xg_fill s c comp comp2 N M K dv i).setTop f
  | 0 => rfl
  | i + 1 => by simp only [xg_fill, xg_setTop s f c comp comp2 N M K dv i, Jvm.Free.Multi.fill_setTop, State.heap_setTop, State.setCell_setTop]
theorem xg_old (s : State) (c comp comp2 : ClassId) (N M K : Nat) (dv : Value) {a : Addr} (ha : a < s.heap.size) : ∀ i, (xg_fill s c comp comp2 N M K dv i).heap[a]? = s.heap[a]?
  | 0 => State.heap_pushCell_of_lt _ _ ha
  | i + 1 => by
    have f1 := (xg_facts s c comp comp2 N M K dv i).1
    have hlt : a < (xg_fill s c comp comp2 N M K dv i).heap.size := Nat.lt_of_lt_of_le ha (by rw [f1]; omega)
    show ((Jvm.Free.Multi.fill _ _ _ _ _ _ _).setCell s.heap.size _).heap[a]? = _
    rw [State.heap_setCell_other (Nat.ne_of_gt ha), Jvm.Free.Multi.fill_old _ comp comp2 M K dv hlt M]
    exact xg_old s c comp comp2 N M K dv ha i
section
variable {E : CtlPost} {e : Env} {d : Bool} {acts : List Action} {s : State}
theorem xg_make3 {c comp comp2 cc : ClassId} {k kc kc2 : Class} {t0 t1 type : FieldType} {n m r : Int32} (hk : s.vm.classes[c]? = some k) (hkind : k.kind = .array comp t0) (href : t0.isReference = true)
    (hkc : s.vm.classes[comp]? = some kc) (hkindc : kc.kind = .array comp2 t1) (href1 : t1.isReference = true) (hkc2 : s.vm.classes[comp2]? = some kc2) (hkindc2 : kc2.kind = .array cc type)
    (hn : ¬ n < 0) (hm : ¬ m < 0) (hr : ¬ r < 0)
    (hl1 : ¬ n.toNatClampNeg > e.platform.arrayLengthLimit) (hh1 : ¬ n.toNatClampNeg * componentBytes t0 > e.platform.maxHeapBytes)
    (hl2 : ¬ m.toNatClampNeg > e.platform.arrayLengthLimit) (hh2 : ¬ m.toNatClampNeg * componentBytes t1 > e.platform.maxHeapBytes)
    (hl3 : ¬ r.toNatClampNeg > e.platform.arrayLengthLimit) (hh3 : ¬ r.toNatClampNeg * componentBytes type > e.platform.maxHeapBytes)
    (hdf : fits type (defaultValue type) = true) (hdd : (defaultValue type).isDefault = true)
    (hc : s.heap.size + 1 + n.toNatClampNeg * (1 + m.toNatClampNeg) ≤ e.platform.maxCells) (hs : s.slotsUsed + n.toNatClampNeg + n.toNatClampNeg * (m.toNatClampNeg + m.toNatClampNeg * r.toNatClampNeg) ≤ e.platform.maxSlots)
    {Q : Addr → Pre} (hq : ∀ d' acts', Q s.heap.size d' acts' (xg_fill s c comp comp2 n.toNatClampNeg m.toNatClampNeg r.toNatClampNeg (defaultValue type) n.toNatClampNeg)) :
    wp (multianewarray.make c [n, m, r]) Q E e d acts s := by
  have hfind : ([m, r].find? (· < 0)) = none := by simp [hm, hr]
  rw [multianewarray.make]
  simp only [wp_bind', W.ite, hn, if_false, wp_pure', W.theClass, hk, hkind, Option.some.injEq, exists_eq_left']
  refine Jvm.Free.Multi.wp_newArray hk hkind hl1 hh1 (Jvm.Free.Multi.refFits href _ (Or.inl rfl)) rfl (by omega) (by omega) ?_
  simp only [hfind]
  rw [ite_self, wp_bind', Std.Legacy.Range.forIn_eq_forIn_range']
  have hsz : ([:n.toNatClampNeg] : Std.Legacy.Range).size = n.toNatClampNeg := by simp [Std.Legacy.Range.size]
  rw [hsz]
  show wp (forIn (List.range' 0 n.toNatClampNeg 1) PUnit.unit _) _ E e d acts _
  refine wp_forIn_inv (fun rest s' => ∃ i, i ≤ n.toNatClampNeg ∧ rest = List.range' i (n.toNatClampNeg - i) ∧ s' = xg_fill s c comp comp2 n.toNatClampNeg m.toNatClampNeg r.toNatClampNeg (defaultValue type) i) _ _ ⟨0, Nat.zero_le _, rfl, rfl⟩ ?_ ?_
  · rintro x rest s' d' acts' Q' ⟨i, hi, hl, rfl⟩ hnext
    have hlt : i < n.toNatClampNeg := by
      rcases Nat.lt_or_ge i n.toNatClampNeg with h | h
      · exact h
      · rw [show n.toNatClampNeg - i = 0 from by omega] at hl; simp at hl
    obtain ⟨rfl, hrest⟩ : x = i ∧ rest = List.range' (i + 1) (n.toNatClampNeg - (i + 1)) := by
      rw [show n.toNatClampNeg - i = (n.toNatClampNeg - (i + 1)) + 1 from by omega, List.range'_succ] at hl
      exact ⟨(List.cons.inj hl).1, (List.cons.inj hl).2⟩
    obtain ⟨f1, f2, f3, f4⟩ := xg_facts s c comp comp2 n.toNatClampNeg m.toNatClampNeg r.toNatClampNeg (defaultValue type) x
    obtain ⟨o1, o2, o3⟩ := xg_out_facts c n.toNatClampNeg s.heap.size (1 + m.toNatClampNeg) x
    have hmul1 : x * (1 + m.toNatClampNeg) + (1 + m.toNatClampNeg) ≤ n.toNatClampNeg * (1 + m.toNatClampNeg) := by
      have := Nat.mul_le_mul_right (1 + m.toNatClampNeg) (show x + 1 ≤ n.toNatClampNeg from hlt)
      rw [Nat.succ_mul] at this; exact this
    have hmul2 : x * (m.toNatClampNeg + m.toNatClampNeg * r.toNatClampNeg) + (m.toNatClampNeg + m.toNatClampNeg * r.toNatClampNeg) ≤ n.toNatClampNeg * (m.toNatClampNeg + m.toNatClampNeg * r.toNatClampNeg) := by
      have := Nat.mul_le_mul_right (m.toNatClampNeg + m.toNatClampNeg * r.toNatClampNeg) (show x + 1 ≤ n.toNatClampNeg from hlt)
      rw [Nat.succ_mul] at this; exact this
    have hlt0 : s.heap.size < (xg_fill s c comp comp2 n.toNatClampNeg m.toNatClampNeg r.toNatClampNeg (defaultValue type) x).heap.size := by rw [f1]; omega
    simp only [wp_bind']
    refine Jvm.Free.Multi.wp_make2 (k := kc) (kc := kc2) (by rw [f3]; exact hkc) hkindc href1 (by rw [f3]; exact hkc2) hkindc2 hm hr hl2 hh2 hl3 hh3 hdf hdd (by rw [f1]; omega) (by rw [f4]; omega) (fun d2 acts2 => ?_)
    obtain ⟨g1, -, g3, -⟩ := Jvm.Free.Multi.fill_facts (xg_fill s c comp comp2 n.toNatClampNeg m.toNatClampNeg r.toNatClampNeg (defaultValue type) x) comp comp2 m.toNatClampNeg r.toNatClampNeg (defaultValue type) m.toNatClampNeg
    simp only [wp_bind', W.writeLoc, wp_pure']
    refine ⟨xg_out c n.toNatClampNeg s.heap.size (1 + m.toNatClampNeg) x, by rw [Jvm.Free.Multi.fill_old _ comp comp2 _ _ _ hlt0 _]; exact f2, by rw [o2]; simp, by rw [o3]; exact hlt, ?_, hnext _ _ _ ⟨x + 1, hlt, hrest, ?_⟩⟩
    · rw [o1, o2]
      simp [State.fitsSlot, State.slotType?, g3, f3, hk, hkind, Jvm.Free.Multi.refFits href _ (Or.inr ⟨_, rfl⟩)]
    · rw [f1]; rfl
  · rintro s' d' acts' ⟨i, hi, hl, rfl⟩
    have hiN : i = n.toNatClampNeg := by
      rcases Nat.lt_or_ge i n.toNatClampNeg with h | h
      · rw [show n.toNatClampNeg - i = (n.toNatClampNeg - (i + 1)) + 1 from by omega, List.range'_succ] at hl; cases hl
      · omega
    subst hiN
    simp only [wp_pure']
    exact hq _ _
end
section
variable {p : Program} {l : Launch} {e : Env} {R : Room} {s : State} {m : MethodId} {args : Array Value} {below : List Frame} {meth : Method} {c : Code} {T : State} {H : Heap} {locs : List Loc} {cells slots : Nat} {Q : State → Prop}
theorem xg_filled (X : Stand p l e R s m args below meth c T locs cells slots) (cA comp comp2 : ClassId) (N M K : Nat) (dv : Value) :
    ∀ i, ∃ L : List Loc, (∀ x ∈ L, T.heap.size ≤ x.base) ∧ Stand p l e R s m args below meth c (xg_fill T cA comp comp2 N M K dv i) (locs ++ L) (cells + 1 + i * (1 + M)) (slots + N + i * (M + M * K))
  | 0 => by
    have h := X.pushed (xg_out cA N T.heap.size (1 + M) 0)
    rw [(xg_out_facts cA N T.heap.size (1 + M) 0).2.2] at h
    exact ⟨[], (fun _ h => nomatch h), by simpa [xg_fill] using h⟩
  | i + 1 => by
    obtain ⟨L, hL, Xi⟩ := xg_filled X cA comp comp2 N M K dv i
    obtain ⟨f1, f2, f3, f4⟩ := xg_facts T cA comp comp2 N M K dv i
    have hlt0 : T.heap.size < (xg_fill T cA comp comp2 N M K dv i).heap.size := by rw [f1]; omega
    have X2 := Xi.filled comp comp2 M K dv M
    have hcell : (Jvm.Free.Multi.fill (xg_fill T cA comp comp2 N M K dv i) comp comp2 M K dv M).heap[T.heap.size]? = some (xg_out cA N T.heap.size (1 + M) i) := by rw [Jvm.Free.Multi.fill_old _ comp comp2 M K dv hlt0 M]; exact f2
    have h := X2.stored hcell i (.ref (T.heap.size + 1 + i * (1 + M)))
    refine ⟨(L ++ (List.range M).map fun j => (⟨(xg_fill T cA comp comp2 N M K dv i).heap.size, j⟩ : Loc)) ++ [⟨T.heap.size, i⟩], ?_, ?_⟩
    · intro x hx
      rcases List.mem_append.mp hx with hx | hx
      · rcases List.mem_append.mp hx with hx | hx
        · exact hL x hx
        · obtain ⟨j, -, rfl⟩ := List.mem_map.mp hx
          exact Nat.le_of_lt hlt0
      · rw [List.mem_singleton.mp hx]
        exact Nat.le_refl _
    · have e2 : locs ++ ((L ++ (List.range M).map fun j => (⟨(xg_fill T cA comp comp2 N M K dv i).heap.size, j⟩ : Loc)) ++ [⟨T.heap.size, i⟩]) = ((locs ++ L) ++ (List.range M).map fun j => (⟨(xg_fill T cA comp comp2 N M K dv i).heap.size, j⟩ : Loc)) ++ [⟨T.heap.size, i⟩] := by simp [List.append_assoc]
      have e3 : cells + 1 + (i + 1) * (1 + M) = cells + 1 + i * (1 + M) + 1 + M := by rw [Nat.succ_mul]; omega
      have e4 : slots + N + (i + 1) * (M + M * K) = slots + N + i * (M + M * K) + M + M * K := by rw [Nat.succ_mul]; omega
      rw [e2, e3, e4]
      exact h
theorem xg_m3 {cc : ByteArray} {pc : Nat} {ls : Array Slot} {rest : List Value} (hexec : p.tables.exec = Jvm.exec) (hb : c.code = cc) {own : String} {index : Nat} {ty : FieldType}
    (hown : s.vm.findClass own = some m.cls) (hclink : (Cond.classLink own index ("[" ++ (FieldType.array (.array ty)).toString)).before args s = true)
    (hover : (Cond.arrayOver (.array (.array ty))).before args s = true) (hover2 : (Cond.arrayOver (.array ty)).before args s = true) (harr : (Cond.arrayClass ty).before args s = true)
    (hstr : "[" ++ (FieldType.array ty).toString = (FieldType.array (.array ty)).toString)
    {n k r : Int32} (hn : ¬ n < 0) (hk : ¬ k < 0) (hr : ¬ r < 0) (hb1 : n.toNatClampNeg * 4 ≤ 536870912) (hb2 : k.toNatClampNeg * 4 ≤ 536870912) (hb3 : r.toNatClampNeg * componentBytes ty ≤ 536870912) (hb4 : r.toNatClampNeg ≤ 536870912)
    (hdf : fits ty (defaultValue ty) = true) (hdd : (defaultValue ty).isDefault = true)
    (hcells : cells + (1 + n.toNatClampNeg * (1 + k.toNatClampNeg)) ≤ R.cells) (hslots : slots + (n.toNatClampNeg + n.toNatClampNeg * (k.toNatClampNeg + k.toNatClampNeg * r.toNatClampNeg)) ≤ R.slots)
    (hdg : decode cc pc = .ok (.multianewarray index 3, 4))
    (kk : ∀ (q : Nat) (H1 : Heap), H.size ≤ H1.size → (∀ x : Nat, x < H.size → H1[x]? = H[x]?) → W p l e R s m args below meth c H1 locs (cells + 1 + n.toNatClampNeg * (1 + k.toNatClampNeg)) (slots + n.toNatClampNeg + n.toNatClampNeg * (k.toNatClampNeg + k.toNatClampNeg * r.toNatClampNeg)) Q (F0 m (pc + 4) ls (.ref q :: rest))) :
    W p l e R s m args below meth c H locs cells slots Q (F0 m pc ls (.int r :: .int k :: .int n :: rest)) := by
  intro T hT X
  have hpl : e.platform.magicAccessors = ({} : Platform).magicAccessors := by rw [X.admits.platform]
  obtain ⟨comp, cA, kA, hcomp, hkA, hkindA, hnameA⟩ := Cond.arrayOver_specA hover
  obtain ⟨comp2, cB, kB, hcomp2, hkB, hkindB, hnameB⟩ := Cond.arrayOver_specA hover2
  obtain ⟨comp2', kC, cc', hcomp2', hkC, hkindC⟩ := Cond.arrayClass_spec harr
  have ecomp : comp2' = comp2 := Option.some.inj (hcomp2'.symm.trans hcomp2)
  subst ecomp
  have ecB : cB = comp := Option.some.inj (hnameB.symm.trans (by rw [hstr]; exact hcomp))
  subst ecB
  obtain ⟨c0, hfc0, hcl⟩ := Cond.classLink_spec hown hclink e.platform hpl
  cases hnameA.symm.trans hfc0
  obtain ⟨hg₁, hwarm₁, hready₁⟩ := State.classEntry (e := e) X.warmed hcl
  generalize T.vm.noted m.cls index (.cls cA) = vm₁ at hg₁ hwarm₁ hready₁
  have hal : s.vm.Alike vm₁ := hwarm₁.alike
  obtain ⟨kA₁, hkA₁, heA⟩ := hal.2.2 _ _ hkA
  obtain ⟨kB₁, hkB₁, heB⟩ := hal.2.2 _ _ hkB
  obtain ⟨kC₁, hkC₁, heC⟩ := hal.2.2 _ _ hkC
  have hkindA₁ : kA₁.kind = .array cB (.array (.array ty)) := by rw [heA]; exact hkindA
  have hkindB₁ : kB₁.kind = .array comp2' (.array ty) := by rw [heB]; exact hkindB
  have hkindC₁ : kC₁.kind = .array cc' ty := by rw [heC]; exact hkindC
  have X₁ := X.noted hwarm₁
  obtain ⟨hr1, hr2⟩ := X.roomAbove hcells hslots
  have hl1 : ¬ n.toNatClampNeg > e.platform.arrayLengthLimit := by rw [Launch.admits_arrayLengthLimit X.admits]; omega
  have hh1 : ¬ n.toNatClampNeg * componentBytes (.array (.array ty)) > e.platform.maxHeapBytes := by
    rw [Launch.admits_maxHeapBytes X.admits]; show ¬ n.toNatClampNeg * 4 > 536870912; omega
  have hl2 : ¬ k.toNatClampNeg > e.platform.arrayLengthLimit := by rw [Launch.admits_arrayLengthLimit X.admits]; omega
  have hh2 : ¬ k.toNatClampNeg * componentBytes (.array ty) > e.platform.maxHeapBytes := by
    rw [Launch.admits_maxHeapBytes X.admits]; show ¬ k.toNatClampNeg * 4 > 536870912; omega
  have hl3 : ¬ r.toNatClampNeg > e.platform.arrayLengthLimit := by rw [Launch.admits_arrayLengthLimit X.admits]; omega
  have hh3 : ¬ r.toNatClampNeg * componentBytes ty > e.platform.maxHeapBytes := by rw [Launch.admits_maxHeapBytes X.admits]; omega
  obtain ⟨L, hL, XF⟩ := xg_filled X₁ cA cB comp2' n.toNatClampNeg k.toNatClampNeg r.toNatClampNeg (defaultValue ty) n.toNatClampNeg
  have XF := XF.dropFresh (fun x hx => Nat.le_trans X.heapGrown (hL x hx))
  obtain ⟨f1, -, -, -⟩ := xg_facts (T.setVm vm₁) cA cB comp2' n.toNatClampNeg k.toNatClampNeg r.toNatClampNeg (defaultValue ty) n.toNatClampNeg
  have hTh : (T.setVm vm₁).heap = H := hT
  have hold : ∀ x : Nat, x < H.size → (xg_fill (T.setVm vm₁) cA cB comp2' n.toNatClampNeg k.toNatClampNeg r.toNatClampNeg (defaultValue ty) n.toNatClampNeg).heap[x]? = H[x]? := fun x hx => by
    have := xg_old (T.setVm vm₁) cA cB comp2' n.toNatClampNeg k.toNatClampNeg r.toNatClampNeg (defaultValue ty) (a := x) (by rw [hTh]; exact hx) n.toNatClampNeg
    rw [hTh] at this
    exact this
  rw [hTh] at f1
  obtain ⟨t, hrest, b1⟩ := kk T.heap.size _ (by rw [f1]; omega) hold _ rfl XF
  refine ⟨t, ?_, b1⟩
  have hdg' : decode c.code pc = .ok (.multianewarray index 3, 4) := by rw [hb]; exact hdg
  jvm_step X.here [hexec, hdg']
  have hg₂ : (resolveClass (F0 m pc ls (.int r :: .int k :: .int n :: rest)).method.cls index).Gives e.toSetting (T.setTop (F0 m pc ls (.int r :: .int k :: .int n :: rest))).vm (Except.ok cA) vm₁ := hg₁
  simp only [multianewarray.sem, wp_bind', W.resolveClassAt_links (State.method?_setTop (F0 m pc ls (.int r :: .int k :: .int n :: rest)) X.here.top) hg₂]
  rw [W.popN, if_neg (by decide)]
  refine ⟨F0 m pc ls (.int r :: .int k :: .int n :: rest), State.topJava?_setTop' (s := T.setVm vm₁) _ X.here.top, [.int n, .int k, .int r], rest, rfl, rfl, ?_⟩
  simp only [List.mapM_cons, List.mapM_nil, wp_bind', wp_pure']
  refine xg_make3 (k := kA₁) (kc := kB₁) (kc2 := kC₁) (comp := cB) (comp2 := comp2') (cc := cc') (t0 := .array (.array ty)) (t1 := .array ty) (type := ty) hkA₁ hkindA₁ rfl hkB₁ hkindB₁ rfl hkC₁ hkindC₁ hn hk hr hl1 hh1 hl2 hh2 hl3 hh3 hdf hdd (by show T.heap.size + 1 + _ ≤ _; omega) (by show T.slotsUsed + _ + _ ≤ _; omega) (fun d' acts' => ?_)
  have eS : ((T.setTop (F0 m pc ls (.int r :: .int k :: .int n :: rest))).setVm vm₁).setTop (F0 m pc ls rest) = (T.setVm vm₁).setTop (F0 m pc ls rest) := by
    show ((T.setVm vm₁).setTop _).setTop _ = _
    rw [State.setTop_setTop]
  rw [eS, xg_setTop]
  simp only [wp_bind', W.mark, W.pushRef, State.topJava?_setTop' _ XF.here.top, Option.some.injEq, exists_eq_left', State.setTop_setTop, State.heap_setTop]
  intro acts
  simp [jvm, XF.here.top]
  exact hrest
theorem xg_m2 {cc : ByteArray} {pc : Nat} {ls : Array Slot} {rest : List Value} (hexec : p.tables.exec = Jvm.exec) (hb : c.code = cc) {own : String} {index : Nat} {ty : FieldType}
    (hown : s.vm.findClass own = some m.cls) (hclink : (Cond.classLink own index ("[" ++ (FieldType.array ty).toString)).before args s = true)
    (hover : (Cond.arrayOver (.array ty)).before args s = true) (harr : (Cond.arrayClass ty).before args s = true)
    {n k : Int32} (hn : ¬ n < 0) (hk : ¬ k < 0) (hb1 : n.toNatClampNeg * 4 ≤ 536870912) (hb2 : k.toNatClampNeg * componentBytes ty ≤ 536870912) (hb3 : k.toNatClampNeg ≤ 536870912)
    (hdf : fits ty (defaultValue ty) = true) (hdd : (defaultValue ty).isDefault = true)
    (hcells : cells + (1 + n.toNatClampNeg) ≤ R.cells) (hslots : slots + (n.toNatClampNeg + n.toNatClampNeg * k.toNatClampNeg) ≤ R.slots)
    (hdg : decode cc pc = .ok (.multianewarray index 2, 4))
    (kk : ∀ (q : Nat) (H1 : Heap), H.size ≤ H1.size → (∀ x : Nat, x < H.size → H1[x]? = H[x]?) → W p l e R s m args below meth c H1 locs (cells + 1 + n.toNatClampNeg) (slots + n.toNatClampNeg + n.toNatClampNeg * k.toNatClampNeg) Q (F0 m (pc + 4) ls (.ref q :: rest))) :
    W p l e R s m args below meth c H locs cells slots Q (F0 m pc ls (.int k :: .int n :: rest)) := by
  intro T hT Xs
  obtain ⟨vm₁, cA, comp, -, fA, fC, hO, -, X', step⟩ := Xs.multianewarray2F hexec hown hclink hover harr (g := F0 m pc ls (.int k :: .int n :: rest)) rfl (by rw [hb]; exact hdg) rfl hn hk hb1 hb2 hb3 hdf hdd hcells hslots
  generalize hF : Jvm.Free.Multi.fill (T.setVm vm₁) cA comp n.toNatClampNeg k.toNatClampNeg (defaultValue ty) n.toNatClampNeg = F at X' step
  have hTh : (T.setVm vm₁).heap = H := hT
  obtain ⟨f1, -, -, -⟩ := Jvm.Free.Multi.fill_facts (T.setVm vm₁) cA comp n.toNatClampNeg k.toNatClampNeg (defaultValue ty) n.toNatClampNeg
  rw [hF, hTh] at f1
  have hold : ∀ x : Nat, x < H.size → F.heap[x]? = H[x]? := fun x hx => by
    have := Jvm.Free.Multi.fill_old (T.setVm vm₁) cA comp n.toNatClampNeg k.toNatClampNeg (defaultValue ty) (a := x) (by rw [hTh]; exact hx) n.toNatClampNeg
    rw [hF, hTh] at this
    exact this
  obtain ⟨t, a1, b1⟩ := kk T.heap.size F.heap (by rw [f1]; omega) hold F rfl X'
  exact ⟨t, step t a1, b1⟩
end
end XG
end
section
/-! a symbolic runner of methods over the machine: values, cells, locals as data; '.float i' stands for the i-th unknown int, '.ref k' for the k-th thing made, '.retAddr _' for the law's script -/
section XE
abbrev XL : Type := List (Nat × Value)
abbrev XCl : Type := Bool × Nat × List Value
abbrev XH : Type := List (Nat × XCl)
abbrev XP : Type := List (Int × Int)
/-- pc, instruction, kind, further numbers -/
abbrev XI : Type := Nat × Instr × Nat × List Nat
/-- what is known of the unknown ints; the cells; the next thing's number; cells and slots made -/
abbrev XS : Type := XP × XH × Nat × Nat × Nat
/-- name, bytes, locals, answer, room, handlers, listing; how many arguments -/
abbrev XM : Type := MethodName × ByteArray × Nat × Option FieldType × Room × List (Nat × Nat × Nat × Nat) × List XI × Nat
/-- the end of a run in one method: kind (0 returns here, 1 throws here, 2 lets through), the exception's number, the row, locals, stack, state -/
abbrev XLf : Type := Nat × Nat × XI × XL × List Value × XS
/-- a method's end: 0 and what it answers, or 1 + the exception's number; what is known; the cells; the next number -/
abbrev XR : Type := Nat × Option Value × XP × XH × Nat

def xint : Value → Bool
  | .int _ => true
  | .float _ => true
  | _ => false
def xref : Value → Bool
  | .ref _ => true
  | .null => true
  | .retAddr _ => true
  | _ => false
def xlong : Value → Bool
  | .long _ => true
  | _ => false
def xdbl : Value → Bool
  | .double _ => true
  | _ => false
def xnth {α : Type} : List α → Nat → Option α
  | [], _ => none
  | a :: _, 0 => some a
  | _ :: t, n + 1 => xnth t n
def xlk : XL → Nat → Option Value
  | [], _ => none
  | (j, v) :: t, i => bif Nat.beq j i then some v else xlk t i
def xf1 (i : Nat) (q : Nat × Value) : Bool := !(q.1 == i) && !(q.1 + 1 == i && q.2.category == 2)
def xf2 (i : Nat) (q : Nat × Value) : Bool := !(q.1 == i) && (!(q.1 == i + 1) && !(q.1 + 1 == i && q.2.category == 2))
def xst1 (nL i : Nat) (v : Value) (lv : XL) : Option XL := bif Nat.ble (i + 1) nL then some ((i, v) :: lv.filter (xf1 i)) else none
def xst2 (nL i : Nat) (v : Value) (lv : XL) : Option XL := bif Nat.ble (i + 2) nL then some ((i, v) :: lv.filter (xf2 i)) else none
def xld (ok : Value → Bool) (lv : XL) (st : List Value) (i : Nat) : Option (XL × List Value) :=
  match xlk lv i with
  | some v => bif ok v then some (lv, v :: st) else none
  | none => none
def xstr1 (ok : Value → Bool) (nL i : Nat) (lv : XL) : List Value → Option (XL × List Value)
  | [] => none
  | v :: r => bif ok v then (match xst1 nL i v lv with
    | some l => some (l, r)
    | none => none) else none
def xstr2 (ok : Value → Bool) (nL i : Nat) (lv : XL) : List Value → Option (XL × List Value)
  | [] => none
  | v :: r => bif ok v then (match xst2 nL i v lv with
    | some l => some (l, r)
    | none => none) else none
def xbin (f : Int32 → Int32 → Int32) (lv : XL) : List Value → Option (XL × List Value)
  | .int y :: .int x :: r => some (lv, .int (f x y) :: r)
  | _ => none
def xbil (f : Int64 → Int64 → Int64) (lv : XL) : List Value → Option (XL × List Value)
  | .long y :: .long x :: r => some (lv, .long (f x y) :: r)
  | _ => none
def xand (lv : XL) : List Value → Option (XL × List Value)
  | .int y :: .int x :: r => some (lv, .int (x &&& y) :: r)
  | .int y :: .float u :: r => bif decide (y = 63) && Nat.ble u.toNat 8 then some (lv, .float (UInt32.ofNat (u.toNat + 9)) :: r) else none
  | _ => none
def xinc (nL i : Nat) (n : Int) (lv : XL) (st : List Value) : Option (XL × List Value) :=
  match xlk lv i with
  | some (.int x) => (match xst1 nL i (.int (x + Int32.ofInt n)) lv with
    | some l => some (l, st)
    | none => none)
  | _ => none
def xi2l (lv : XL) : List Value → Option (XL × List Value)
  | .int x :: r => some (lv, .long x.toInt64 :: r)
  | _ => none
def xlcm (lv : XL) : List Value → Option (XL × List Value)
  | .long y :: .long x :: r => some (lv, .int (lg_cmp x y) :: r)
  | _ => none
def xdcm (op : CmpOp) (lv : XL) : List Value → Option (XL × List Value)
  | .double y :: .double x :: r => some (lv, .int (Op.cmpValue (FP.dcmp x y) op) :: r)
  | _ => none
def xdup (lv : XL) : List Value → Option (XL × List Value)
  | v :: r => bif Nat.beq v.category 1 then some (lv, v :: v :: r) else none
  | _ => none
def xdupx (lv : XL) : List Value → Option (XL × List Value)
  | v :: w :: r => bif Nat.beq v.category 1 && Nat.beq w.category 1 then some (lv, v :: w :: v :: r) else none
  | _ => none
/-- the instructions' lengths -/
def ilen : Instr → Nat
  | .bipush _ | .newarray _ | .iload _ | .lload _ | .aload _ | .dload _ | .istore _ | .lstore _ | .astore _ | .dstore _ | .ldc _ => 2
  | .sipush _ | .goto _ | .ifCond _ _ | .if_icmp _ _ | .if_acmp _ _ | .ifnull _ | .ifnonnull _ | .iinc _ _ | .ldc2_w _ | .ldc_w _ | .getfield _ | .putfield _ | .new _ | .anewarray _ | .invokevirtual _ | .invokespecial _ | .invokestatic _ => 3
  | .multianewarray _ _ => 4
  | _ => 1
def xsimple (nL : Nat) (i : Instr) (aux : List Nat) (lv : XL) (st : List Value) : Option (XL × List Value) :=
  match i with
  | .iconst n => some (lv, .int (Int32.ofInt n) :: st)
  | .bipush n => some (lv, .int (Int8.ofInt n).toInt32 :: st)
  | .sipush n => some (lv, .int (Int16.ofInt n).toInt32 :: st)
  | .aconst_null => some (lv, .null :: st)
  | .dconst d => bif Nat.beq d.val 0 then some (lv, .double FP.dconst0 :: st) else none
  | .ldc2_w _ => (match aux with
    | a :: _ => some (lv, .long (Int64.ofNat a) :: st)
    | [] => none)
  | .iload k => xld xint lv st k
  | .iload_n k => xld xint lv st k.val
  | .lload k => xld xlong lv st k
  | .lload_n k => xld xlong lv st k.val
  | .dload k => xld xdbl lv st k
  | .aload k => xld xref lv st k
  | .aload_n k => xld xref lv st k.val
  | .istore k => xstr1 xint nL k lv st
  | .istore_n k => xstr1 xint nL k.val lv st
  | .astore k => xstr1 xref nL k lv st
  | .astore_n k => xstr1 xref nL k.val lv st
  | .lstore k => xstr2 xlong nL k lv st
  | .lstore_n k => xstr2 xlong nL k.val lv st
  | .dstore k => xstr2 xdbl nL k lv st
  | .iinc k n => xinc nL k n lv st
  | .iadd => xbin (fun x y => x + y) lv st
  | .isub => xbin (fun x y => x - y) lv st
  | .imul => xbin (fun x y => x * y) lv st
  | .ishl => xbin (fun x y => x <<< (y &&& 31)) lv st
  | .ishr => xbin (fun x y => x >>> (y &&& 31)) lv st
  | .iand => xand lv st
  | .i2l => xi2l lv st
  | .ladd => xbil (fun x y => x + y) lv st
  | .lmul => xbil (fun x y => x * y) lv st
  | .lcmp => xlcm lv st
  | .dcmp op => xdcm op lv st
  | .dup => xdup lv st
  | .dup_x1 => xdupx lv st
  | _ => none

/-! cells -/
def xhk : XH → Nat → Option XCl
  | [], _ => none
  | (j, c) :: t, i => bif Nat.beq j i then some c else xhk t i
def xhs : XH → Nat → XCl → XH
  | [], _, _ => []
  | (j, c) :: t, i, d => bif Nat.beq j i then (j, d) :: t else (j, c) :: xhs t i d
def xset : List Value → Nat → Value → List Value
  | [], _, _ => []
  | _ :: t, 0, v => v :: t
  | a :: t, n + 1, v => a :: xset t n v
/-- speaks of things below n only -/
def xov (n : Nat) : Value → Bool
  | .ref k => Nat.ble (k + 1) n
  | _ => true
def xoS (n : Nat) (st : List Value) : Bool := st.all (xov n)
def xoL (n : Nat) (l : XL) : Bool := l.all (fun q => xov n q.2)
def xoH (n : Nat) (h : XH) : Bool := h.all (fun q => Nat.ble (q.1 + 1) n && xoS n q.2.2.2)
def xal (n : Nat) (lv : XL) (st : List Value) (h : XH) : Bool := xoL n lv && (xoS n st && xoH n h)
def xTy : Nat → Nat → FieldType
  | 0 => xY0
  | 1 => xY1
  | 2 => xY2
  | 3 => xY3
  | 4 => xY4
  | 5 => xY5
  | 6 => xY6
  | 7 => xY7
  | _ => xY8
def xNf : Nat → Nat
  | 0 => 4
  | 1 => 4
  | 2 => 2
  | 3 => 3
  | 4 => 6
  | 5 => 11
  | 6 => 2
  | 7 => 13
  | _ => 27
def xD (ci : Nat) : List Value := (List.range (xNf ci)).map (fun k => defaultValue (xTy ci k))
def xfit : FieldType → Value → Bool
  | .int, .int _ => true
  | .int, .float _ => true
  | .boolean, .int x => decide (x = 0) || decide (x = 1)
  | .object _, v => xref v
  | .array _, v => xref v
  | _, _ => false
/-- the arrays' types -/
def xty : Nat → FieldType
  | 0 => .int
  | 1 => .boolean
  | 2 => .long
  | 3 => .object "PackWright$Version"
  | 4 => .object "PackWright$Pack"
  | _ => .object "PackWright$Claim"
def xdv : Nat → Value
  | 0 => .int 0
  | 1 => .int 0
  | 2 => .long 0
  | _ => .null
def xget (aux : List Nat) (st : List Value) (σ : XS) : Option (List Value × XS) :=
  match aux, st with
  | ci :: k :: _, .ref o :: r => (match xhk σ.2.1 o with
    | some (false, cj, fs) => bif Nat.beq ci cj then (match xnth fs k with
      | some v => some (v :: r, σ)
      | none => none) else none
    | _ => none)
  | _, _ => none
def xput (aux : List Nat) (st : List Value) (σ : XS) : Option (List Value × XS) :=
  match aux, st with
  | ci :: k :: _, v :: .ref o :: r => (match xhk σ.2.1 o with
    | some (false, cj, fs) => bif Nat.beq ci cj && (xfit (xTy ci k) v && Nat.ble (k + 1) fs.length) then some (r, (σ.1, xhs σ.2.1 o (false, cj, xset fs k v), σ.2.2)) else none
    | _ => none)
  | _, _ => none
/-- one thing more -/
def xnew (R : Room) (lv : XL) (r : List Value) (σ : XS) (c : XCl) (ns : Nat) : Option (List Value × XS) :=
  match σ with
  | (pe, h, n, ce, sl) => bif xal n lv r h && (Nat.ble (ce + 1) R.cells && Nat.ble (sl + ns) R.slots) then some (.ref n :: r, (pe, h ++ [(n, c)], n + 1, ce + 1, sl + ns)) else none
/-- a thing that is only kept -/
def xkeep (R : Room) (lv : XL) (r : List Value) (σ : XS) (nc ns : Nat) : Option (List Value × XS) :=
  match σ with
  | (pe, h, n, ce, sl) => bif xal n lv r h && (Nat.ble (ce + nc) R.cells && Nat.ble (sl + ns) R.slots) then some (.ref n :: r, (pe, h, n + 1, ce + nc, sl + ns)) else none
def xnewo (R : Room) (aux : List Nat) (lv : XL) (st : List Value) (σ : XS) : Option (List Value × XS) :=
  match aux with
  | ci :: _ => xnew R lv st σ (false, ci, xD ci) (xNf ci)
  | [] => none
def xnewa (R : Room) (aux : List Nat) (lv : XL) (st : List Value) (σ : XS) : Option (List Value × XS) :=
  match aux, st with
  | ti :: _, .int c :: r => bif decide (c < 0) then none else bif Nat.ble (c.toNatClampNeg) 1000 then xnew R lv r σ (true, ti, List.replicate c.toNatClampNeg (xdv ti)) c.toNatClampNeg else none
  | _, _ => none
def xnewm2 (R : Room) (lv : XL) (st : List Value) (σ : XS) : Option (List Value × XS) :=
  match st with
  | .int k :: .int n :: r => bif decide (k < 0) || decide (n < 0) then none else bif Nat.ble k.toNatClampNeg 1000 && Nat.ble n.toNatClampNeg 1000 then xkeep R lv r σ (1 + n.toNatClampNeg) (n.toNatClampNeg + n.toNatClampNeg * k.toNatClampNeg) else none
  | _ => none
def xnewm3 (R : Room) (lv : XL) (st : List Value) (σ : XS) : Option (List Value × XS) :=
  match st with
  | .int m :: .int k :: .int n :: r => bif decide (m < 0) || (decide (k < 0) || decide (n < 0)) then none else bif Nat.ble m.toNatClampNeg 1000 && (Nat.ble k.toNatClampNeg 1000 && Nat.ble n.toNatClampNeg 1000) then xkeep R lv r σ (1 + n.toNatClampNeg * (1 + k.toNatClampNeg)) (n.toNatClampNeg + n.toNatClampNeg * (k.toNatClampNeg + k.toNatClampNeg * m.toNatClampNeg)) else none
  | _ => none
def xlen (scr : Option Nat) (st : List Value) (σ : XS) : Option (List Value × XS) :=
  match st with
  | .ref o :: r => (match xhk σ.2.1 o with
    | some (true, ti, vs) => bif Nat.ble ti 5 then some (.int (Int32.ofNat vs.length) :: r, σ) else none
    | _ => none)
  | .retAddr _ :: r => (match scr with
    | some L => some (.int (Int32.ofNat L) :: r, σ)
    | none => none)
  | _ => none
/-- the place that an index names -/
def xix (i : Int32) (n : Nat) : Option Nat := bif decide (i < 0) then none else bif Nat.ble (i.toNatClampNeg + 1) n then some i.toNatClampNeg else none
def xald (ok : Value → Bool) (oti : Nat → Bool) (st : List Value) (σ : XS) : Option (List Value × XS) :=
  match st with
  | .int i :: .ref o :: r => (match xhk σ.2.1 o with
    | some (true, ti, vs) => bif oti ti then (match xix i vs.length with
      | some j => (match xnth vs j with
        | some v => bif ok v then some (v :: r, σ) else none
        | none => none)
      | none => none) else none
    | _ => none)
  | _ => none
def xild (scr : Option Nat) (st : List Value) (σ : XS) : Option (List Value × XS) :=
  match st with
  | .int i :: .retAddr _ :: r => (match scr with
    | some L => (match xix i L with
      | some j => bif Nat.ble j 8 then some (.float (UInt32.ofNat j) :: r, σ) else none
      | none => none)
    | none => none)
  | st => xald xint (fun ti => Nat.beq ti 0) st σ
def xast (ok : Value → Bool) (oti : Nat → Bool) (st : List Value) (σ : XS) : Option (List Value × XS) :=
  match st with
  | v :: .int i :: .ref o :: r => (match xhk σ.2.1 o with
    | some (true, ti, vs) => bif oti ti && ok v then (match xix i vs.length with
      | some j => some (r, (σ.1, xhs σ.2.1 o (true, ti, xset vs j v), σ.2.2))
      | none => none) else none
    | _ => none)
  | _ => none
/-- the class of an array's elements, by its number in 'classes' -/
def xel : Nat → Option Nat
  | 4 => some 3
  | _ => none
def xasa (st : List Value) (σ : XS) : Option (List Value × XS) :=
  match st with
  | .null :: _ => xast xref (fun ti => Nat.ble 3 ti && Nat.ble ti 5) st σ
  | .ref q :: _ :: .ref o :: _ => (match xhk σ.2.1 o, xhk σ.2.1 q with
    | some (true, ti, _), some (false, ci, _) => (match xel ti with
      | some cj => bif Nat.beq ci cj then xast xref (fun tj => Nat.beq ti tj) st σ else none
      | none => none)
    | _, _ => none)
  | _ => none
def xheap (scr : Option Nat) (R : Room) (i : Instr) (aux : List Nat) (lv : XL) (st : List Value) (σ : XS) : Option (List Value × XS) :=
  match i with
  | .getfield _ => xget aux st σ
  | .putfield _ => xput aux st σ
  | .new _ => xnewo R aux lv st σ
  | .newarray _ => xnewa R aux lv st σ
  | .anewarray _ => xnewa R aux lv st σ
  | .multianewarray _ d => bif Nat.beq d 2 then xnewm2 R lv st σ else bif Nat.beq d 3 then xnewm3 R lv st σ else none
  | .arraylength => xlen scr st σ
  | .iaload => xild scr st σ
  | .laload => xald xlong (fun ti => Nat.beq ti 2) st σ
  | .aaload => xald xref (fun ti => Nat.ble 3 ti && Nat.ble ti 5) st σ
  | .iastore => xast xint (fun ti => Nat.beq ti 0) st σ
  | .lastore => xast xlong (fun ti => Nat.beq ti 2) st σ
  | .aastore => xasa st σ
  | _ => none

/-! branches -/
def xprop (c : ClassFile.Cond) (x y : Int32) : Bool :=
  match c with
  | .eq => decide (x = y)
  | .ne => !decide (x = y)
  | .lt => decide (x < y)
  | .ge => decide (y ≤ x)
  | .gt => decide (y < x)
  | .le => decide (x ≤ y)
def xflip : ClassFile.Cond → ClassFile.Cond
  | .eq => .eq
  | .ne => .ne
  | .lt => .gt
  | .ge => .le
  | .gt => .lt
  | .le => .ge
def xpset : XP → Nat → Int × Int → XP
  | [], _, _ => []
  | _ :: t, 0, v => v :: t
  | a :: t, n + 1, v => a :: xpset t n v
def xmn (a b : Int) : Int := bif decide (a ≤ b) then a else b
def xmx (a b : Int) : Int := bif decide (a ≤ b) then b else a
def xone (pe : XP) (u : Nat) (b : Bool) (q : Int × Int) : List (Bool × XP) := bif decide (q.1 ≤ q.2) then [(b, xpset pe u q)] else []
/-- x below k, and not -/
def xcut (pe : XP) (u : Nat) (q : Int × Int) (k : Int) (b : Bool) : List (Bool × XP) := xone pe u b (q.1, xmn q.2 (k - 1)) ++ xone pe u (!b) (xmx q.1 k, q.2)
def xcutE (pe : XP) (u : Nat) (q : Int × Int) (k : Int) (b : Bool) : List (Bool × XP) :=
  xone pe u b (xmx q.1 k, xmn q.2 k) ++ xone pe u (!b) (bif decide (q.1 = k) then (q.1 + 1, q.2) else bif decide (q.2 = k) then (q.1, q.2 - 1) else q)
def xsplit (pe : XP) (u : Nat) (c : ClassFile.Cond) (k : Int) : Option (List (Bool × XP)) :=
  match xnth pe u with
  | none => none
  | some q => some (match c with
    | .lt => xcut pe u q k true
    | .ge => xcut pe u q k false
    | .le => xcut pe u q (k + 1) true
    | .gt => xcut pe u q (k + 1) false
    | .eq => xcutE pe u q k true
    | .ne => xcutE pe u q k false)
def xbrs (c : ClassFile.Cond) (a b : Value) (pe : XP) : Option (List (Bool × XP)) :=
  match a, b with
  | .int x, .int y => some [(xprop c x y, pe)]
  | .float u, .int y => xsplit pe u.toNat c y.toInt
  | .int x, .float u => xsplit pe u.toNat (xflip c) x.toInt
  | _, _ => none
def xtgt (pc : Nat) (off : Int) : Option Nat :=
  match (pc : Int) + off with
  | .ofNat k => some k
  | .negSucc _ => none
def xtwo (t nx : Nat) (r : List Value) (l : List (Bool × XP)) : List (Nat × List Value × XP) := l.map fun q => (bif q.1 then t else nx, r, q.2)
def xjump (pc : Nat) (off : Int) (r : List Value) (o : Option (List (Bool × XP))) : Option (List (Nat × List Value × XP)) :=
  match xtgt pc off, o with
  | some t, some l => some (xtwo t (pc + 3) r l)
  | _, _ => none
/-- known to be null, known not to be -/
def xnul : Value → Option Bool
  | .null => some true
  | .ref _ => some false
  | .retAddr _ => some false
  | _ => none
def xsame : Value → Value → Option Bool
  | .null, .null => some true
  | .ref _, .null => some false
  | .null, .ref _ => some false
  | .ref a, .ref b => bif Nat.beq a b then some true else none
  | _, _ => none
def xb1 (b : Bool) (pe : XP) : Option Bool → Option (List (Bool × XP))
  | some t => some [(t == b, pe)]
  | none => none
/-- the switch's target for v -/
def xsel (pc : Nat) (dflt low high : Int) (offs : Array Int) (v : Int) : Option Nat :=
  bif decide (v < low) || decide (high < v) then xtgt pc dflt else (match xnth offs.toList (v - low).toNat with
    | some off => xtgt pc off
    | none => none)
/-- the switch's targets for an int between lo and lo + n -/
def xsw (pc : Nat) (dflt low high : Int) (offs : Array Int) (r : List Value) (pv : Int → XP) (lo : Int) : Nat → Option (List (Nat × List Value × XP))
  | 0 => some []
  | n + 1 =>
    match xsel pc dflt low high offs lo, xsw pc dflt low high offs r pv (lo + 1) n with
    | some t, some l => some ((t, r, pv lo) :: l)
    | _, _ => none
/-- lengths, the switch's too -/
def xil (pc : Nat) (i : Instr) : Nat :=
  match i with
  | .tableswitch _ _ _ offs => 1 + (3 - pc % 4) + 12 + 4 * offs.size
  | i => ilen i
def xbranch (pc : Nat) (i : Instr) (st : List Value) (pe : XP) : Option (List (Nat × List Value × XP)) :=
  match i with
  | .goto off => (match xtgt pc off with
    | some t => some [(t, st, pe)]
    | none => none)
  | .if_icmp c off => (match st with
    | b :: a :: r => xjump pc off r (xbrs c a b pe)
    | _ => none)
  | .ifCond c off => (match st with
    | a :: r => xjump pc off r (xbrs c a (.int 0) pe)
    | _ => none)
  | .ifnull off => (match st with
    | a :: r => xjump pc off r (xb1 true pe (xnul a))
    | _ => none)
  | .ifnonnull off => (match st with
    | a :: r => xjump pc off r (xb1 false pe (xnul a))
    | _ => none)
  | .if_acmp c off => (match st with
    | b :: a :: r => xjump pc off r (xb1 (match c with
      | .eq => true
      | .ne => false) pe (xsame a b))
    | _ => none)
  | .tableswitch dflt low high offs => (match st with
    | .int x :: r => xsw pc dflt low high offs r (fun _ => pe) x.toInt 1
    | .float u :: r => (match xnth pe u.toNat with
      | some q => xsw pc dflt low high offs r (fun v => xpset pe u.toNat (v, v)) q.1 (q.2 + 1 - q.1).toNat
      | none => none)
    | _ => none)
  | _ => none

/-! runs -/
def xfind : List XI → Nat → List XI
  | [], _ => []
  | e :: t, pc => bif Nat.beq e.1 pc then e :: t else xfind t pc
/-- the rows from pc on, the next row being tried first -/
def xnext (code t : List XI) (pc : Nat) : List XI :=
  match t with
  | [] => xfind code pc
  | e :: t' => bif Nat.beq e.1 pc then e :: t' else xfind code pc
def xall {α β : Type} (f : α → Option (List β)) : List α → Option (List β)
  | [] => some []
  | a :: l => match f a with
    | none => none
    | some r => match xall f l with
      | none => none
      | some q => some (r ++ q)
def xcats (st : List Value) : Nat := (st.map fun v => v.category).sum
/-- the handler of an exception, by the numbers of the classes of the table's rows; none: no row takes it -/
def xhand (cls : Nat → Nat) (pc E : Nat) : List (Nat × Nat × Nat × Nat) → Option Nat
  | [] => none
  | q :: t => bif Nat.ble q.1 pc && Nat.ble (pc + 1) q.2.1 then (bif Nat.beq (cls q.2.2.2) E then some q.2.2.1 else bif Nat.ble (cls q.2.2.2) 2 && Nat.ble E 2 then xhand cls pc E t else none) else xhand cls pc E t
/-- behind the handler's own store -/
def xcatch (code : List XI) (nL hp : Nat) (lv : XL) : Option (List XI × XL) :=
  match xfind code hp with
  | (_, .astore k, 0, _) :: t => bif Nat.ble (k + 1) nL then some (xnext code t (hp + 2), lv.filter (xf1 k)) else none
  | (_, .astore_n k, 0, _) :: t => bif Nat.ble (k.val + 1) nL then some (xnext code t (hp + 1), lv.filter (xf1 k.val)) else none
  | _ => none
abbrev XCf : Type := Nat → List Value → XP → XH → Nat → Option (List XR)
abbrev XGo : Type := List XI → XL → List Value → XS → Option (List XLf)
def xmN (M : XM) : Nat := M.2.2.1
def xmR (M : XM) : Room := M.2.2.2.2.1
def xmT (M : XM) : List (Nat × Nat × Nat × Nat) := M.2.2.2.2.2.1
def xmC (M : XM) : List XI := M.2.2.2.2.2.2.1
def xmA (M : XM) : Nat := M.2.2.2.2.2.2.2
/-- the receiver: of class ci where the call is by the object's class -/
def xrecv (mode ci : Nat) (args : List Value) (h : XH) : Bool :=
  match mode, args with
  | 0, _ => true
  | 1, .ref o :: _ => (match xhk h o with
    | some (false, cj, _) => Nat.beq ci cj
    | _ => false)
  | 2, .ref _ :: _ => true
  | _, _ => false
def xback (cls : Nat → Nat) (M Y : XM) (ih : XGo) (e : XI) (t : List XI) (lv : XL) (rest : List Value) (n0 ce sl : Nat) (q : XR) : Option (List XLf) :=
  match q with
  | (0, v, pe, h, n) => bif Nat.ble n0 n then ih (xnext (xmC M) t (e.1 + 3)) lv (v.toList ++ rest) (pe, h, n, ce + (xmR Y).cells, sl + (xmR Y).slots) else none
  | (E + 1, _, pe, h, n) => bif Nat.ble n0 n then (match xmT M with
    | [] => some [(2, E, e, lv, rest, (pe, h, n, ce + (xmR Y).cells, sl + (xmR Y).slots))]
    | tab => (match xhand cls e.1 E tab with
      | some hp => (match xcatch (xmC M) (xmN M) hp lv with
        | some (c, l) => ih c l [] (pe, h, n, ce + (xmR Y).cells, sl + (xmR Y).slots)
        | none => none)
      | none => none)) else none
/-- how a call is made: 0 static, 1 by the receiver's class, 2 a constructor -/
def xmode : Nat → Nat
  | 0 => 0
  | 1 => 1
  | 2 => 2
  | 3 => 2
  | 4 => 0
  | 5 => 1
  | _ => 0
def xcall (Ms : List XM) (cls : Nat → Nat) (M : XM) (cf : XCf) (ih : XGo) (e : XI) (t : List XI) (lv : XL) (st : List Value) (σ : XS) : Option (List XLf) :=
  match e.2.2.2, σ with
  | mode :: k :: ci :: _, (pe, h, n, ce, sl) => (match xnth Ms k with
    | none => none
    | some Y =>
      bif Nat.ble (xmA Y) st.length && (Nat.ble (xcats (st.drop (xmA Y))) 8 && (Nat.ble ((xmR Y).frames + 1) (xmR M).frames && (Nat.ble (8 + (xmN Y + 11) + (xmR Y).locals) (xmR M).locals && (Nat.ble (ce + (xmR Y).cells) (xmR M).cells && (Nat.ble (sl + (xmR Y).slots) (xmR M).slots && (xoL n lv && (xoS n (st.drop (xmA Y)) && xrecv (xmode mode) ci (st.take (xmA Y)).reverse h))))))) then
        (match cf k (st.take (xmA Y)).reverse pe h n with
        | some ls => xall (xback cls M Y ih e t lv (st.drop (xmA Y)) n ce sl) ls
        | none => none)
      else none)
  | _, _ => none
def xoinit (M : XM) (ih : XGo) (e : XI) (t : List XI) (lv : XL) (st : List Value) (σ : XS) : Option (List XLf) :=
  match st with
  | .ref _ :: r => bif Nat.ble 1 (xmR M).frames && Nat.ble (xcats r + 12) (xmR M).locals then ih (xnext (xmC M) t (e.1 + 3)) lv r σ else none
  | _ => none
def xcopy (M : XM) (ih : XGo) (e : XI) (t : List XI) (lv : XL) (st : List Value) (σ : XS) : Option (List XLf) :=
  match st with
  | .int n :: .int dp :: .ref a :: .int sp :: .ref a0 :: r => (match xhk σ.2.1 a0, xhk σ.2.1 a with
    | some (true, 0, v0), some (true, 0, v1) =>
      bif decide (n < 0) then none else bif decide (sp = 0) && (decide (dp = 0) && (Nat.beq n.toNatClampNeg v0.length && (Nat.beq n.toNatClampNeg v1.length && (Nat.ble 1 (xmR M).frames && (Nat.ble (xcats r + 60) (xmR M).locals && (!(Nat.beq a a0) && v0.all xint)))))) then ih (xnext (xmC M) t (e.1 + 3)) lv r (σ.1, xhs σ.2.1 a (true, 0, v0), σ.2.2) else none
    | _, _ => none)
  | _ => none
def xbody (Ms : List XM) (cls : Nat → Nat) (scr : Option Nat) (M : XM) (cf : XCf) (ih : XGo) : XGo := fun cur lv st σ =>
  match cur with
  | [] => none
  | e :: t => (match e.2.2.1 with
    | 0 => (match xsimple (xmN M) e.2.1 e.2.2.2 lv st with
      | some q => ih (xnext (xmC M) t (e.1 + ilen e.2.1)) q.1 q.2 σ
      | none => none)
    | 1 => (match xheap scr (xmR M) e.2.1 e.2.2.2 lv st σ with
      | some q => ih (xnext (xmC M) t (e.1 + ilen e.2.1)) lv q.1 q.2
      | none => none)
    | 2 => (match xbranch e.1 e.2.1 st σ.1 with
      | some l => xall (fun q : Nat × List Value × XP => ih (xfind (xmC M) q.1) lv q.2.1 (q.2.2, σ.2)) l
      | none => none)
    | 3 => xcall Ms cls M cf ih e t lv st σ
    | 4 => some [(0, 0, e, lv, st, σ)]
    | 5 => (match e.2.2.2 with
      | E :: _ => some [(1, E, e, lv, st, σ)]
      | [] => none)
    | 6 => xoinit M ih e t lv st σ
    | 7 => xcopy M ih e t lv st σ
    | _ => none)
noncomputable def xrun (Ms : List XM) (cls : Nat → Nat) (scr : Option Nat) (M : XM) (cf : XCf) (f : Nat) : XGo :=
  Nat.rec (motive := fun _ => XGo) (fun _ _ _ _ => none) (fun _ ih => xbody Ms cls scr M cf ih) f
/-- what a method hands back -/
def xretv (ret : Option FieldType) (i : Instr) (st : List Value) : Option (Option Value) :=
  match ret, i, st with
  | none, .return_, [] => some none
  | some .int, .ireturn, [v] => bif xint v then some (some v) else none
  | some .boolean, .ireturn, [.int x] => bif decide (x = 0) || decide (x = 1) then some (some (.int x)) else none
  | some .long, .lreturn, [v] => bif xlong v then some (some v) else none
  | some .double, .dreturn, [v] => bif xdbl v then some (some v) else none
  | some (.object _), .areturn, [v] => bif xref v then some (some v) else none
  | some (.array _), .areturn, [v] => bif xref v then some (some v) else none
  | _, _, _ => none
def xnil : List (Nat × Nat × Nat × Nat) → Bool
  | [] => true
  | _ => false
def xend (M : XM) (q : XLf) : Option XR :=
  match q with
  | (0, _, e, _, st, (pe, h, n, ce, sl)) => bif Nat.ble ce (xmR M).cells && Nat.ble sl (xmR M).slots then (match xretv M.2.2.2.1 e.2.1 st with
    | some v => some (0, v, pe, h, n)
    | none => none) else none
  | (1, E, _, _, st, (pe, h, n, ce, sl)) => bif Nat.ble (ce + 1) (xmR M).cells && (Nat.ble (sl + 6) (xmR M).slots && (Nat.ble 6 (xmR M).frames && (Nat.ble (xcats st + 82) (xmR M).locals && (Nat.ble E 2 && xnil (xmT M))))) then some (E + 1, none, pe, h, n) else none
  | (2, E, _, _, _, (pe, h, n, ce, sl)) => bif Nat.ble ce (xmR M).cells && (Nat.ble sl (xmR M).slots && (Nat.ble E 2 && xnil (xmT M))) then some (E + 1, none, pe, h, n) else none
  | _ => none
def xends (M : XM) : List XLf → Option (List XR)
  | [] => some []
  | q :: l => match xend M q, xends M l with
    | some r, some rs => some (r :: rs)
    | _, _ => none
noncomputable def xmeth (Ms : List XM) (cls : Nat → Nat) (d : Nat) : XCf :=
  Nat.rec (motive := fun _ => XCf) (fun _ _ _ _ _ => none) (fun _ cf k args pe h n =>
    match xnth Ms k with
    | none => none
    | some M => bif Nat.ble (xcats args) (xmN M) then (match xrun Ms cls none M cf 100000 (xfind (xmC M) 0) (lv_args 0 args) [] (pe, h, n, 0, 0) with
      | some ls => xends M ls
      | none => none) else none) d
end XE
end
section
/-! what the runner's values stand for; the rows of one method's own numbers -/
section XV
def ev (ad : Nat → Nat) (xs : Nat → Int32) (bS : Nat) : Value → Value
  | .int x => .int x
  | .long x => .long x
  | .float u => .int (xs u.toNat)
  | .double x => .double x
  | .null => .null
  | .ref k => .ref (ad k)
  | .retAddr _ => .ref bS
def evL (E : Value → Value) (l : XL) : XL := l.map (fun q => (q.1, E q.2))
def evS (E : Value → Value) (st : List Value) : List Value := st.map E
theorem ev_cat (ad : Nat → Nat) (xs : Nat → Int32) (bS : Nat) (v : Value) : (ev ad xs bS v).category = v.category := by cases v <;> rfl
theorem xint_ev {ad : Nat → Nat} {xs : Nat → Int32} {bS : Nat} {v : Value} (h : xint v = true) : ∃ x, ev ad xs bS v = .int x := by
  cases v <;> first | exact ⟨_, rfl⟩ | exact absurd h (by simp [xint])
theorem xref_ev {ad : Nat → Nat} {xs : Nat → Int32} {bS : Nat} {v : Value} (h : xref v = true) : ev ad xs bS v = .null ∨ ∃ a, ev ad xs bS v = .ref a := by
  cases v <;> first | exact Or.inl rfl | exact Or.inr ⟨_, rfl⟩ | exact absurd h (by simp [xref])
theorem xlong_ev {ad : Nat → Nat} {xs : Nat → Int32} {bS : Nat} {v : Value} (h : xlong v = true) : ∃ x, ev ad xs bS v = .long x := by
  cases v <;> first | exact ⟨_, rfl⟩ | exact absurd h (by simp [xlong])
theorem xdbl_ev {ad : Nat → Nat} {xs : Nat → Int32} {bS : Nat} {v : Value} (h : xdbl v = true) : ∃ x, ev ad xs bS v = .double x := by
  cases v <;> first | exact ⟨_, rfl⟩ | exact absurd h (by simp [xdbl])
theorem xlk_mem {i : Nat} {v : Value} : ∀ {l : XL}, xlk l i = some v → (i, v) ∈ l
  | [], h => nomatch h
  | (j, w) :: t, h => by
    unfold xlk at h
    cases hb : Nat.beq j i with
    | true =>
      rw [hb] at h
      have e1 : w = v := Option.some.inj h
      have e2 := Nat.eq_of_beq_eq_true hb
      subst e1; subst e2
      exact List.mem_cons_self
    | false =>
      rw [hb] at h
      exact List.mem_cons_of_mem _ (xlk_mem h)
theorem xloc {E : Value → Value} {ls : Array Slot} {nL i : Nat} {lv : XL} {v : Value} (hl : lv_has ls nL (evL E lv)) (h : xlk lv i = some v) : ls[i]? = some (.val (E v)) :=
  hl.2.2 (i, E v) (List.mem_map.mpr ⟨(i, v), xlk_mem h, rfl⟩)
theorem xf1_ev {E : Value → Value} (hE : ∀ v, (E v).category = v.category) (i : Nat) (lv : XL) : (evL E lv).filter (xf1 i) = evL E (lv.filter (xf1 i)) := by
  unfold evL
  rw [List.filter_map]
  have e : (xf1 i ∘ fun q : Nat × Value => (q.1, E q.2)) = xf1 i := funext fun q => by simp [xf1, hE]
  rw [e]
theorem xf2_ev {E : Value → Value} (hE : ∀ v, (E v).category = v.category) (i : Nat) (lv : XL) : (evL E lv).filter (xf2 i) = evL E (lv.filter (xf2 i)) := by
  unfold evL
  rw [List.filter_map]
  have e : (xf2 i ∘ fun q : Nat × Value => (q.1, E q.2)) = xf2 i := funext fun q => by simp [xf2, hE]
  rw [e]
theorem xst1_ev {E : Value → Value} (hE : ∀ v, (E v).category = v.category) {nL i : Nat} {v : Value} {lv l : XL} (h : xst1 nL i v lv = some l) : i < nL ∧ (i, E v) :: (evL E lv).filter (xf1 i) = evL E l := by
  unfold xst1 at h
  cases hb : Nat.ble (i + 1) nL with
  | true =>
    rw [hb] at h
    have e : (i, v) :: lv.filter (xf1 i) = l := Option.some.inj h
    subst e
    exact ⟨Nat.le_of_ble_eq_true hb, by rw [xf1_ev hE]; rfl⟩
  | false => rw [hb] at h; cases h
theorem xst2_ev {E : Value → Value} (hE : ∀ v, (E v).category = v.category) {nL i : Nat} {v : Value} {lv l : XL} (h : xst2 nL i v lv = some l) : i + 1 < nL ∧ (i, E v) :: (evL E lv).filter (xf2 i) = evL E l := by
  unfold xst2 at h
  cases hb : Nat.ble (i + 2) nL with
  | true =>
    rw [hb] at h
    have e : (i, v) :: lv.filter (xf2 i) = l := Option.some.inj h
    subst e
    exact ⟨Nat.le_of_ble_eq_true hb, by rw [xf2_ev hE]; rfl⟩
  | false => rw [hb] at h; cases h
theorem xld_spec {ok : Value → Bool} {lv : XL} {st : List Value} {i : Nat} {q : XL × List Value} (h : xld ok lv st i = some q) : ∃ v, xlk lv i = some v ∧ ok v = true ∧ q = (lv, v :: st) := by
  unfold xld at h
  split at h
  · rename_i v hv
    cases hb : ok v with
    | true => rw [hb] at h; exact ⟨v, hv, hb, (Option.some.inj h).symm⟩
    | false => rw [hb] at h; cases h
  · cases h
theorem xstr1_spec {ok : Value → Bool} {nL i : Nat} {lv : XL} {st : List Value} {q : XL × List Value} (h : xstr1 ok nL i lv st = some q) : ∃ v r l, st = v :: r ∧ ok v = true ∧ xst1 nL i v lv = some l ∧ q = (l, r) := by
  unfold xstr1 at h
  split at h
  · cases h
  · rename_i v r
    cases hb : ok v with
    | true =>
      rw [hb] at h
      simp only [cond_true] at h
      split at h
      · rename_i l hl
        exact ⟨v, r, l, rfl, hb, hl, (Option.some.inj h).symm⟩
      · cases h
    | false => rw [hb] at h; cases h
theorem xstr2_spec {ok : Value → Bool} {nL i : Nat} {lv : XL} {st : List Value} {q : XL × List Value} (h : xstr2 ok nL i lv st = some q) : ∃ v r l, st = v :: r ∧ ok v = true ∧ xst2 nL i v lv = some l ∧ q = (l, r) := by
  unfold xstr2 at h
  split at h
  · cases h
  · rename_i v r
    cases hb : ok v with
    | true =>
      rw [hb] at h
      simp only [cond_true] at h
      split at h
      · rename_i l hl
        exact ⟨v, r, l, rfl, hb, hl, (Option.some.inj h).symm⟩
      · cases h
    | false => rw [hb] at h; cases h
theorem xbin_spec {f : Int32 → Int32 → Int32} {lv : XL} {st : List Value} {q : XL × List Value} (h : xbin f lv st = some q) : ∃ x y r, st = .int y :: .int x :: r ∧ q = (lv, .int (f x y) :: r) := by
  unfold xbin at h
  split at h
  · exact ⟨_, _, _, rfl, (Option.some.inj h).symm⟩
  · cases h
theorem xbil_spec {f : Int64 → Int64 → Int64} {lv : XL} {st : List Value} {q : XL × List Value} (h : xbil f lv st = some q) : ∃ x y r, st = .long y :: .long x :: r ∧ q = (lv, .long (f x y) :: r) := by
  unfold xbil at h
  split at h
  · exact ⟨_, _, _, rfl, (Option.some.inj h).symm⟩
  · cases h
section
variable {p : Program} {l : Launch} {e : Env} {R : Room} {s : State} {m : MethodId} {args : Array Value} {below : List Frame} {meth : Method} {c : Code} {H : Heap} {locs : List Loc} {cells slots : Nat} {Q : State → Prop}
variable {cc : ByteArray} {pc nL : Nat} {ls : Array Slot} {ad : Nat → Nat} {xs : Nat → Int32} {bS : Nat}
theorem xw_load (hx : p.tables.exec = Jvm.exec) (hb : c.code = cc) {i : Instr} {ok : Value → Bool} {k : Nat} {lv lv' : XL} {st st' : List Value} (h : xld ok lv st k = some (lv', st')) (hl : lv_has ls nL (evL (ev ad xs bS) lv))
    (row : ∀ v, ok v = true → ls[k]? = some (.val (ev ad xs bS v)) → W p l e R s m args below meth c H locs cells slots Q (F0 m (pc + ilen i) ls (ev ad xs bS v :: evS (ev ad xs bS) st)) → W p l e R s m args below meth c H locs cells slots Q (F0 m pc ls (evS (ev ad xs bS) st)))
    (kk : ∀ ls' : Array Slot, lv_has ls' nL (evL (ev ad xs bS) lv') → W p l e R s m args below meth c H locs cells slots Q (F0 m (pc + ilen i) ls' (evS (ev ad xs bS) st'))) : W p l e R s m args below meth c H locs cells slots Q (F0 m pc ls (evS (ev ad xs bS) st)) := by
  obtain ⟨v, h1, h2, h3⟩ := xld_spec h
  obtain ⟨rfl, rfl⟩ := Prod.mk.inj h3
  exact row v h2 (xloc hl h1) (kk ls hl)
theorem xw_store1 {i : Instr} {ok : Value → Bool} {k : Nat} {lv lv' : XL} {st st' : List Value} (h : xstr1 ok nL k lv st = some (lv', st'))
    (row : ∀ (v : Value) (r : List Value) (l' : XL), ok v = true → k < nL → (k, ev ad xs bS v) :: (evL (ev ad xs bS) lv).filter (xf1 k) = l' → (∀ ls' : Array Slot, lv_has ls' nL l' → W p l e R s m args below meth c H locs cells slots Q (F0 m (pc + ilen i) ls' r)) → W p l e R s m args below meth c H locs cells slots Q (F0 m pc ls (ev ad xs bS v :: r)))
    (kk : ∀ ls' : Array Slot, lv_has ls' nL (evL (ev ad xs bS) lv') → W p l e R s m args below meth c H locs cells slots Q (F0 m (pc + ilen i) ls' (evS (ev ad xs bS) st'))) : W p l e R s m args below meth c H locs cells slots Q (F0 m pc ls (evS (ev ad xs bS) st)) := by
  obtain ⟨v, r, l1, rfl, h2, h3, h4⟩ := xstr1_spec h
  obtain ⟨rfl, rfl⟩ := Prod.mk.inj h4
  obtain ⟨h5, h6⟩ := xst1_ev (ev_cat ad xs bS) h3
  exact row v _ _ h2 h5 h6 kk
theorem xw_store2 {i : Instr} {ok : Value → Bool} {k : Nat} {lv lv' : XL} {st st' : List Value} (h : xstr2 ok nL k lv st = some (lv', st'))
    (row : ∀ (v : Value) (r : List Value) (l' : XL), ok v = true → k + 1 < nL → (k, ev ad xs bS v) :: (evL (ev ad xs bS) lv).filter (xf2 k) = l' → (∀ ls' : Array Slot, lv_has ls' nL l' → W p l e R s m args below meth c H locs cells slots Q (F0 m (pc + ilen i) ls' r)) → W p l e R s m args below meth c H locs cells slots Q (F0 m pc ls (ev ad xs bS v :: r)))
    (kk : ∀ ls' : Array Slot, lv_has ls' nL (evL (ev ad xs bS) lv') → W p l e R s m args below meth c H locs cells slots Q (F0 m (pc + ilen i) ls' (evS (ev ad xs bS) st'))) : W p l e R s m args below meth c H locs cells slots Q (F0 m pc ls (evS (ev ad xs bS) st)) := by
  obtain ⟨v, r, l1, rfl, h2, h3, h4⟩ := xstr2_spec h
  obtain ⟨rfl, rfl⟩ := Prod.mk.inj h4
  obtain ⟨h5, h6⟩ := xst2_ev (ev_cat ad xs bS) h3
  exact row v _ _ h2 h5 h6 kk
theorem xw_bin {i : Instr} {f : Int32 → Int32 → Int32} {lv lv' : XL} {st st' : List Value} (h : xbin f lv st = some (lv', st')) (hl : lv_has ls nL (evL (ev ad xs bS) lv))
    (row : ∀ (x y : Int32) (r : List Value), W p l e R s m args below meth c H locs cells slots Q (F0 m (pc + ilen i) ls (.int (f x y) :: r)) → W p l e R s m args below meth c H locs cells slots Q (F0 m pc ls (.int y :: .int x :: r)))
    (kk : ∀ ls' : Array Slot, lv_has ls' nL (evL (ev ad xs bS) lv') → W p l e R s m args below meth c H locs cells slots Q (F0 m (pc + ilen i) ls' (evS (ev ad xs bS) st'))) : W p l e R s m args below meth c H locs cells slots Q (F0 m pc ls (evS (ev ad xs bS) st)) := by
  obtain ⟨x, y, r, rfl, h4⟩ := xbin_spec h
  obtain ⟨rfl, rfl⟩ := Prod.mk.inj h4
  exact row x y _ (kk ls hl)
theorem xw_bil {i : Instr} {f : Int64 → Int64 → Int64} {lv lv' : XL} {st st' : List Value} (h : xbil f lv st = some (lv', st')) (hl : lv_has ls nL (evL (ev ad xs bS) lv))
    (row : ∀ (x y : Int64) (r : List Value), W p l e R s m args below meth c H locs cells slots Q (F0 m (pc + ilen i) ls (.long (f x y) :: r)) → W p l e R s m args below meth c H locs cells slots Q (F0 m pc ls (.long y :: .long x :: r)))
    (kk : ∀ ls' : Array Slot, lv_has ls' nL (evL (ev ad xs bS) lv') → W p l e R s m args below meth c H locs cells slots Q (F0 m (pc + ilen i) ls' (evS (ev ad xs bS) st'))) : W p l e R s m args below meth c H locs cells slots Q (F0 m pc ls (evS (ev ad xs bS) st)) := by
  obtain ⟨x, y, r, rfl, h4⟩ := xbil_spec h
  obtain ⟨rfl, rfl⟩ := Prod.mk.inj h4
  exact row x y _ (kk ls hl)
set_option maxHeartbeats 4000000 in
theorem xsimple_ok (hm : ∀ i, i < 9 → xs (i + 9) = xs i &&& 63) (hx : p.tables.exec = Jvm.exec) (hb : c.code = cc) {i : Instr} {aux : List Nat}
    (hcl : ∀ k a t, i = .ldc2_w k → aux = a :: t → ∃ own, s.vm.findClass own = some m.cls ∧ (Jvm.Cond.constantLong own k (Int64.ofNat a)).before args s = true)
    {lv lv' : XL} {st st' : List Value} (h : xsimple nL i aux lv st = some (lv', st')) (hl : lv_has ls nL (evL (ev ad xs bS) lv)) (hd : decode cc pc = .ok (i, ilen i))
    (kk : ∀ ls' : Array Slot, lv_has ls' nL (evL (ev ad xs bS) lv') → W p l e R s m args below meth c H locs cells slots Q (F0 m (pc + ilen i) ls' (evS (ev ad xs bS) st'))) : W p l e R s m args below meth c H locs cells slots Q (F0 m pc ls (evS (ev ad xs bS) st)) := by
  unfold xsimple at h
  split at h
  · obtain ⟨rfl, rfl⟩ := Prod.mk.inj (Option.some.inj h)
    exact lv_iconst hx hb hd rfl (kk ls hl)
  · obtain ⟨rfl, rfl⟩ := Prod.mk.inj (Option.some.inj h)
    exact lv_bipush hx hb hd rfl (kk ls hl)
  · obtain ⟨rfl, rfl⟩ := Prod.mk.inj (Option.some.inj h)
    exact lv_sipush hx hb hd rfl (kk ls hl)
  · obtain ⟨rfl, rfl⟩ := Prod.mk.inj (Option.some.inj h)
    exact lv_null hx hb hd (kk ls hl)
  · rename_i d
    cases hz : Nat.beq d.val 0 with
    | false => rw [hz] at h; cases h
    | true =>
      rw [hz] at h
      obtain ⟨rfl, rfl⟩ := Prod.mk.inj (Option.some.inj h)
      have e0 : d = 0 := Fin.ext (Nat.eq_of_beq_eq_true hz)
      subst e0
      exact lv_dconst0 hx hb hd (kk ls hl)
  · split at h
    · rename_i a t
      obtain ⟨rfl, rfl⟩ := Prod.mk.inj (Option.some.inj h)
      obtain ⟨own, ho, hc⟩ := hcl _ a t rfl rfl
      exact lv_ldc2 hx hb ho hc hd (kk ls hl)
    · cases h
  · refine xw_load (i := .iload _) hx hb h hl (fun v hv hs k => ?_) kk
    obtain ⟨x, hxv⟩ := xint_ev (ad := ad) (xs := xs) (bS := bS) hv
    rw [hxv] at hs k
    exact lv_iload hx hb hd hs k
  · refine xw_load (i := .iload_n _) hx hb h hl (fun v hv hs k => ?_) kk
    obtain ⟨x, hxv⟩ := xint_ev (ad := ad) (xs := xs) (bS := bS) hv
    rw [hxv] at hs k
    exact lv_iload_n hx hb hd rfl hs k
  · refine xw_load (i := .lload _) hx hb h hl (fun v hv hs k => ?_) kk
    obtain ⟨x, hxv⟩ := xlong_ev (ad := ad) (xs := xs) (bS := bS) hv
    rw [hxv] at hs k
    exact lv_lload hx hb hd hs k
  · refine xw_load (i := .lload_n _) hx hb h hl (fun v hv hs k => ?_) kk
    obtain ⟨x, hxv⟩ := xlong_ev (ad := ad) (xs := xs) (bS := bS) hv
    rw [hxv] at hs k
    exact lv_lload_n hx hb hd rfl hs k
  · refine xw_load (i := .dload _) hx hb h hl (fun v hv hs k => ?_) kk
    obtain ⟨x, hxv⟩ := xdbl_ev (ad := ad) (xs := xs) (bS := bS) hv
    rw [hxv] at hs k
    exact lv_dload hx hb hd hs k
  · refine xw_load (i := .aload _) hx hb h hl (fun v hv hs k => ?_) kk
    rcases xref_ev (ad := ad) (xs := xs) (bS := bS) hv with hxv | ⟨x, hxv⟩
    · rw [hxv] at hs k
      exact lv_aloadN hx hb hd hs k
    · rw [hxv] at hs k
      exact lv_aload hx hb hd hs k
  · refine xw_load (i := .aload_n _) hx hb h hl (fun v hv hs k => ?_) kk
    rcases xref_ev (ad := ad) (xs := xs) (bS := bS) hv with hxv | ⟨x, hxv⟩
    · rw [hxv] at hs k
      exact lv_aload_nN hx hb hd rfl hs k
    · rw [hxv] at hs k
      exact lv_aload_n hx hb hd rfl hs k
  · refine xw_store1 (i := .istore _) h (fun v r l' hv hk he k => ?_) kk
    obtain ⟨x, hxv⟩ := xint_ev (ad := ad) (xs := xs) (bS := bS) hv
    rw [hxv] at he ⊢
    exact lv_istore hx hb hd hl hk he k
  · refine xw_store1 (i := .istore_n _) h (fun v r l' hv hk he k => ?_) kk
    obtain ⟨x, hxv⟩ := xint_ev (ad := ad) (xs := xs) (bS := bS) hv
    rw [hxv] at he ⊢
    exact lv_istore_n hx hb hd rfl hl hk he k
  · refine xw_store1 (i := .astore _) h (fun v r l' hv hk he k => ?_) kk
    rcases xref_ev (ad := ad) (xs := xs) (bS := bS) hv with hxv | ⟨x, hxv⟩
    · rw [hxv] at he ⊢
      exact lv_astoreN hx hb hd hl hk he k
    · rw [hxv] at he ⊢
      exact lv_astore hx hb hd hl hk he k
  · refine xw_store1 (i := .astore_n _) h (fun v r l' hv hk he k => ?_) kk
    rcases xref_ev (ad := ad) (xs := xs) (bS := bS) hv with hxv | ⟨x, hxv⟩
    · rw [hxv] at he ⊢
      exact lv_astore_nN hx hb hd rfl hl hk he k
    · rw [hxv] at he ⊢
      exact lv_astore_n hx hb hd rfl hl hk he k
  · refine xw_store2 (i := .lstore _) h (fun v r l' hv hk he k => ?_) kk
    obtain ⟨x, hxv⟩ := xlong_ev (ad := ad) (xs := xs) (bS := bS) hv
    rw [hxv] at he ⊢
    exact lv_lstore hx hb hd hl hk he k
  · refine xw_store2 (i := .lstore_n _) h (fun v r l' hv hk he k => ?_) kk
    obtain ⟨x, hxv⟩ := xlong_ev (ad := ad) (xs := xs) (bS := bS) hv
    rw [hxv] at he ⊢
    exact lv_lstore_n hx hb hd rfl hl hk he k
  · refine xw_store2 (i := .dstore _) h (fun v r l' hv hk he k => ?_) kk
    obtain ⟨x, hxv⟩ := xdbl_ev (ad := ad) (xs := xs) (bS := bS) hv
    rw [hxv] at he ⊢
    exact lv_dstore hx hb hd hl hk he k
  · unfold xinc at h
    split at h
    · rename_i x hk
      split at h
      · rename_i l1 h1
        obtain ⟨rfl, rfl⟩ := Prod.mk.inj (Option.some.inj h)
        obtain ⟨h5, h6⟩ := xst1_ev (ev_cat ad xs bS) h1
        have hmem : (_, Value.int x) ∈ evL (ev ad xs bS) lv := List.mem_map.mpr ⟨_, xlk_mem hk, rfl⟩
        obtain ⟨k9, hk9⟩ := List.getElem?_of_mem hmem
        exact lv_iinc hx hb hd hl hk9 rfl h5 h6 kk
      · cases h
    · cases h
  · exact xw_bin (i := .iadd) h hl (fun x y r k => lv_iadd hx hb hd k) kk
  · exact xw_bin (i := .isub) h hl (fun x y r k => lv_isub hx hb hd k) kk
  · exact xw_bin (i := .imul) h hl (fun x y r k => lv_imul hx hb hd k) kk
  · exact xw_bin (i := .ishl) h hl (fun x y r k => lv_ishl hx hb hd k) kk
  · exact xw_bin (i := .ishr) h hl (fun x y r k => lv_ishr hx hb hd k) kk
  · unfold xand at h
    split at h
    · obtain ⟨rfl, rfl⟩ := Prod.mk.inj (Option.some.inj h)
      exact lv_iand hx hb hd (kk ls hl)
    · rename_i y u r
      cases hz : (decide (y = 63) && Nat.ble u.toNat 8) with
      | false => rw [hz] at h; cases h
      | true =>
        rw [hz] at h
        obtain ⟨rfl, rfl⟩ := Prod.mk.inj (Option.some.inj h)
        simp only [Bool.and_eq_true, decide_eq_true_eq] at hz
        obtain ⟨rfl, h8⟩ := hz
        have h8 : u.toNat ≤ 8 := Nat.le_of_ble_eq_true h8
        refine lv_iand hx hb hd ?_
        have hk := kk ls hl
        have e9 : ev ad xs bS (.float (UInt32.ofNat (u.toNat + 9))) = .int (xs u.toNat &&& 63) := by
          show Value.int (xs (UInt32.ofNat (u.toNat + 9)).toNat) = _
          have e1 : (UInt32.ofNat (u.toNat + 9)).toNat = u.toNat + 9 := by
            first
              | exact UInt32.toNat_ofNat_of_lt' (by omega)
              | (rw [UInt32.toNat_ofNat']; exact Nat.mod_eq_of_lt (by omega))
              | exact Nat.mod_eq_of_lt (show u.toNat + 9 < 2 ^ 32 by omega)
          rw [e1, hm _ (by omega)]
        have e8 : evS (ev ad xs bS) (.float (UInt32.ofNat (u.toNat + 9)) :: r) = .int (xs u.toNat &&& 63) :: evS (ev ad xs bS) r := by
          show ev ad xs bS _ :: _ = _
          rw [e9]; rfl
        rw [e8] at hk
        exact hk
    · cases h
  · unfold xi2l at h
    split at h
    · obtain ⟨rfl, rfl⟩ := Prod.mk.inj (Option.some.inj h)
      exact lv_i2l hx hb hd rfl (kk ls hl)
    · cases h
  · exact xw_bil (i := .ladd) h hl (fun x y r k => lv_ladd hx hb hd k) kk
  · exact xw_bil (i := .lmul) h hl (fun x y r k => lv_lmul hx hb hd k) kk
  · unfold xlcm at h
    split at h
    · obtain ⟨rfl, rfl⟩ := Prod.mk.inj (Option.some.inj h)
      exact W.lcmp hx hb hd (kk ls hl)
    · cases h
  · unfold xdcm at h
    split at h
    · obtain ⟨rfl, rfl⟩ := Prod.mk.inj (Option.some.inj h)
      exact lv_dcmp hx hb hd (kk ls hl)
    · cases h
  · unfold xdup at h
    split at h
    · rename_i v r
      cases hz : Nat.beq v.category 1 with
      | false => rw [hz] at h; cases h
      | true =>
        rw [hz] at h
        obtain ⟨rfl, rfl⟩ := Prod.mk.inj (Option.some.inj h)
        exact lv_dup hx hb hd ((ev_cat ad xs bS v).trans (Nat.eq_of_beq_eq_true hz)) (kk ls hl)
    · cases h
  · unfold xdupx at h
    split at h
    · rename_i v w r
      cases hz : (Nat.beq v.category 1 && Nat.beq w.category 1) with
      | false => rw [hz] at h; cases h
      | true =>
        rw [hz] at h
        obtain ⟨rfl, rfl⟩ := Prod.mk.inj (Option.some.inj h)
        rw [Bool.and_eq_true] at hz
        exact lv_dup_x1 hx hb hd ((ev_cat ad xs bS v).trans (Nat.eq_of_beq_eq_true hz.1)) ((ev_cat ad xs bS w).trans (Nat.eq_of_beq_eq_true hz.2)) (kk ls hl)
    · cases h
  · cases h
end
end XV
end
section
/-! the rows of cells -/
section XK
def evI : Value → Int32
  | .int x => x
  | _ => 0
def evG : Value → Int64
  | .long x => x
  | _ => 0
def evR : Value → Option Nat
  | .ref a => some a
  | _ => none
def evA (E : Value → Value) (ti : Nat) (vs : List Value) : vp_A :=
  match ti with
  | 0 => (vs.length, .inl (fun j => evI (E (vs.getD j (.int 0)))))
  | 1 => (vs.length, .inl (fun j => evI (E (vs.getD j (.int 0)))))
  | 2 => (vs.length, .inr (.inl (fun j => evG (E (vs.getD j (.long 0))))))
  | _ => (vs.length, .inr (.inr (.inr (.inr (fun j => evR (E (vs.getD j .null)))))))
def evC (E : Value → Value) (aC : Nat → ClassId) : XCl → va_E
  | (false, ci, fs) => .inr (ci, fs.map E)
  | (true, ti, vs) => .inl (aC ti, evA E ti vs)
def evH (E : Value → Value) (ad : Nat → Nat) (aC : Nat → ClassId) (h : XH) : va_W := h.map (fun q => (ad q.1, evC E aC q.2))
def xtys (aC : Nat → ClassId) : List (ClassId × FieldType) := [(aC 0, xty 0), (aC 1, xty 1), (aC 2, xty 2), (aC 3, xty 3), (aC 4, xty 4), (aC 5, xty 5)]
theorem xtys_get (aC : Nat → ClassId) {ti : Nat} (h : ti ≤ 5) : (xtys aC)[ti]? = some (aC ti, xty ti) := by
  match ti, h with
  | 0, _ => rfl
  | 1, _ => rfl
  | 2, _ => rfl
  | 3, _ => rfl
  | 4, _ => rfl
  | 5, _ => rfl
  | n + 6, h => omega
theorem xty_obj {ti : Nat} (h : 3 ≤ ti) : ∃ C, xty ti = .object C := by
  match ti, h with
  | 3, _ => exact ⟨_, rfl⟩
  | 4, _ => exact ⟨_, rfl⟩
  | n + 5, _ => exact ⟨_, rfl⟩
theorem xnth_eq {α : Type} : ∀ (l : List α) (k : Nat), xnth l k = l[k]?
  | [], _ => by simp [xnth]
  | _ :: _, 0 => by simp [xnth]
  | _ :: t, k + 1 => by simp [xnth, xnth_eq t k]
theorem xset_eq : ∀ (l : List Value) (k : Nat) (v : Value), xset l k v = l.set k v
  | [], _, _ => by simp [xset]
  | _ :: _, 0, _ => by simp [xset]
  | _ :: t, k + 1, v => by simp [xset, xset_eq t k v]
theorem evA_len (E : Value → Value) (ti : Nat) (vs : List Value) : (evA E ti vs).1 = vs.length := by unfold evA; split <;> rfl
theorem xhk_get {E : Value → Value} {ad : Nat → Nat} {aC : Nat → ClassId} {o : Nat} {c : XCl} : ∀ {h : XH}, xhk h o = some c → ∃ q0, (evH E ad aC h)[q0]? = some (ad o, evC E aC c) ∧ ∀ d, (evH E ad aC h).set q0 (ad o, evC E aC d) = evH E ad aC (xhs h o d)
  | [], h => nomatch h
  | (j, c') :: t, h => by
    unfold xhk at h
    cases hb : Nat.beq j o with
    | true =>
      rw [hb] at h
      have e1 : c' = c := Option.some.inj h
      have e2 := Nat.eq_of_beq_eq_true hb
      subst e1; subst e2
      refine ⟨0, rfl, fun d => ?_⟩
      unfold xhs
      rw [hb]
      rfl
    | false =>
      rw [hb] at h
      obtain ⟨q0, h1, h2⟩ := xhk_get (E := E) (ad := ad) (aC := aC) h
      refine ⟨q0 + 1, by simpa [evH] using h1, fun d => ?_⟩
      unfold xhs
      rw [hb]
      show (_ :: (evH E ad aC t).set q0 _) = _
      rw [h2 d]
      rfl
theorem xov_ev {ad ad' : Nat → Nat} {xs : Nat → Int32} {bS n : Nat} (ha : ∀ j, j < n → ad' j = ad j) {v : Value} (h : xov n v = true) : ev ad' xs bS v = ev ad xs bS v := by
  cases v with
  | ref k => exact congrArg Value.ref (ha k (Nat.le_of_ble_eq_true h))
  | _ => rfl
theorem xoS_ev {ad ad' : Nat → Nat} {xs : Nat → Int32} {bS n : Nat} (ha : ∀ j, j < n → ad' j = ad j) {st : List Value} (h : xoS n st = true) : evS (ev ad' xs bS) st = evS (ev ad xs bS) st :=
  List.map_congr_left fun v hv => xov_ev ha (List.all_eq_true.mp h v hv)
theorem xoL_ev {ad ad' : Nat → Nat} {xs : Nat → Int32} {bS n : Nat} (ha : ∀ j, j < n → ad' j = ad j) {lv : XL} (h : xoL n lv = true) : evL (ev ad' xs bS) lv = evL (ev ad xs bS) lv :=
  List.map_congr_left fun q hq => by rw [xov_ev ha (List.all_eq_true.mp h q hq)]
theorem evC_congr {E E' : Value → Value} {aC : Nat → ClassId} {c : XCl} (h : ∀ v ∈ c.2.2, E' v = E v) (hi : E' (.int 0) = E (.int 0)) (hl : E' (.long 0) = E (.long 0)) (hn : E' .null = E .null) : evC E' aC c = evC E aC c := by
  obtain ⟨b, ti, vs⟩ := c
  have hg : ∀ (d : Value), E' d = E d → ∀ j, E' (vs.getD j d) = E (vs.getD j d) := by
    intro d hd j
    rw [List.getD_eq_getElem?_getD]
    cases hj : vs[j]? with
    | none => exact hd
    | some v => exact h v (List.mem_of_getElem? hj)
  cases b with
  | false => exact congrArg (fun z => Sum.inr (ti, z)) (List.map_congr_left h)
  | true =>
    show Sum.inl (aC ti, evA E' ti vs) = Sum.inl (aC ti, evA E ti vs)
    refine congrArg (fun z => Sum.inl (aC ti, z)) ?_
    unfold evA
    split
    · simp only [hg _ hi]
    · simp only [hg _ hi]
    · simp only [hg _ hl]
    · simp only [hg _ hn]
theorem xoH_ev {ad ad' : Nat → Nat} {xs : Nat → Int32} {bS n : Nat} {aC : Nat → ClassId} (ha : ∀ j, j < n → ad' j = ad j) {h : XH} (hh : xoH n h = true) : evH (ev ad' xs bS) ad' aC h = evH (ev ad xs bS) ad aC h :=
  List.map_congr_left fun q hq => by
    have h1 := List.all_eq_true.mp hh q hq
    rw [Bool.and_eq_true] at h1
    rw [ha _ (Nat.le_of_ble_eq_true h1.1), evC_congr (E := ev ad xs bS) (fun v hv => xov_ev ha (List.all_eq_true.mp h1.2 v hv)) rfl rfl rfl]
theorem xal_spec {n : Nat} {lv : XL} {st : List Value} {h : XH} (hh : xal n lv st h = true) : xoL n lv = true ∧ xoS n st = true ∧ xoH n h = true := by
  unfold xal at hh
  rw [Bool.and_eq_true, Bool.and_eq_true] at hh
  exact hh
theorem xRA_inj {s : State} {c1 c2 : ClassId} {ty : FieldType} (h1 : va_RA s c1 ty) (h2 : va_RA s c2 ty) : c1 = c2 := by
  cases ty with
  | object C =>
    obtain ⟨_, _, _, _, _, a⟩ := h1
    obtain ⟨_, _, _, _, _, b⟩ := h2
    exact Option.some.inj (a.symm.trans b)
  | _ =>
    have a : s.vm.findClass _ = some c1 := h1
    have b : s.vm.findClass _ = some c2 := h2
    exact Option.some.inj (a.symm.trans b)
theorem xfit_ok {ad : Nat → Nat} {xs : Nat → Int32} {bS : Nat} {ty : FieldType} {v : Value} (h : xfit ty v = true) : narrow ty (ev ad xs bS v) = ev ad xs bS v ∧ fits ty (ev ad xs bS v) = true := by
  unfold xfit at h
  split at h
  · exact ⟨rfl, rfl⟩
  · exact ⟨rfl, rfl⟩
  · rename_i x
    simp only [Bool.or_eq_true, decide_eq_true_eq] at h
    rcases h with rfl | rfl
    · exact ⟨show narrow .boolean (.int 0) = .int 0 by decide, show fits .boolean (.int 0) = true by decide⟩
    · exact ⟨show narrow .boolean (.int 1) = .int 1 by decide, show fits .boolean (.int 1) = true by decide⟩
  · rcases xref_ev (ad := ad) (xs := xs) (bS := bS) h with e | ⟨a, e⟩ <;> rw [e] <;> exact ⟨rfl, rfl⟩
  · rcases xref_ev (ad := ad) (xs := xs) (bS := bS) h with e | ⟨a, e⟩ <;> rw [e] <;> exact ⟨rfl, rfl⟩
  · cases h
theorem xcls_ok {ci : Nat} {C : String} {T : u_T} {N : Nat} (h : classes[ci]? = some (C, T, N)) : N = xNf ci ∧ (∀ k, k < N → parseFieldDescriptor (T k).2.2.1 = some (xTy ci k)) ∧ (∀ a, a < N → ∀ b, b < N → a ≠ b → (T a).2.1 ≠ (T b).2.1) := by
  match ci, h with
  | 0, h => cases h; exact ⟨rfl, xY0_ok, xN0⟩
  | 1, h => cases h; exact ⟨rfl, xY1_ok, xN1⟩
  | 2, h => cases h; exact ⟨rfl, xY2_ok, xN2⟩
  | 3, h => cases h; exact ⟨rfl, xY3_ok, xN3⟩
  | 4, h => cases h; exact ⟨rfl, xY4_ok, xN4⟩
  | 5, h => cases h; exact ⟨rfl, xY5_ok, xN5⟩
  | 6, h => cases h; exact ⟨rfl, xY6_ok, xN6⟩
  | 7, h => cases h; exact ⟨rfl, xY7_ok, xN7⟩
  | 8, h => cases h; exact ⟨rfl, xY8_ok, xN8⟩
  | n + 9, h => simp [classes] at h
theorem xTy_nf (ci k : Nat) : xTy ci k ≠ .float := by
  unfold xTy
  split
  · unfold xY0; split <;> simp
  · unfold xY1; split <;> simp
  · unfold xY2; split <;> simp
  · unfold xY3; split <;> simp
  · unfold xY4; split <;> simp
  · unfold xY5; split <;> simp
  · unfold xY6; split <;> simp
  · unfold xY7; split <;> simp
  · unfold xY8; split <;> simp
theorem ev_def {ad : Nat → Nat} {xs : Nat → Int32} {bS : Nat} {t : FieldType} (h : t ≠ .float) : ev ad xs bS (defaultValue t) = defaultValue t := by
  cases t <;> first | rfl | exact absurd rfl h
theorem xD_ev {ad : Nat → Nat} {xs : Nat → Int32} {bS : Nat} (ci : Nat) : (xD ci).map (ev ad xs bS) = xD ci := by
  unfold xD
  rw [List.map_map]
  exact List.map_congr_left fun k _ => ev_def (xTy_nf ci k)
theorem xD_at {ci j : Nat} (h : j < xNf ci) : defaultValue (xTy ci j) = vp_V (xD ci) j := by
  simp [vp_V, xD, h]
theorem getD_rep {α : Type} (n j : Nat) (a : α) : (List.replicate n a).getD j a = a := by
  rw [List.getD_eq_getElem?_getD, List.getElem?_replicate]
  split <;> rfl
theorem evA_rep {ad : Nat → Nat} {xs : Nat → Int32} {bS : Nat} {ti : Nat} (n : Nat) (cA : ClassId) : vp_cell cA (evA (ev ad xs bS) ti (List.replicate n (xdv ti))) = arrV cA n (fun _ => defaultValue (xty ti)) := by
  match ti with
  | 0 =>
    show vp_cell cA ((List.replicate n (Value.int 0)).length, .inl (fun j => evI (ev ad xs bS ((List.replicate n (Value.int 0)).getD j (.int 0))))) = _
    simp only [getD_rep, List.length_replicate]; rfl
  | 1 =>
    show vp_cell cA ((List.replicate n (Value.int 0)).length, .inl (fun j => evI (ev ad xs bS ((List.replicate n (Value.int 0)).getD j (.int 0))))) = _
    simp only [getD_rep, List.length_replicate]; rfl
  | 2 =>
    show vp_cell cA ((List.replicate n (Value.long 0)).length, .inr (.inl (fun j => evG (ev ad xs bS ((List.replicate n (Value.long 0)).getD j (.long 0)))))) = _
    simp only [getD_rep, List.length_replicate]; rfl
  | 3 =>
    show vp_cell cA ((List.replicate n Value.null).length, .inr (.inr (.inr (.inr (fun j => evR (ev ad xs bS ((List.replicate n Value.null).getD j .null))))))) = _
    simp only [getD_rep, List.length_replicate]; rfl
  | 4 =>
    show vp_cell cA ((List.replicate n Value.null).length, .inr (.inr (.inr (.inr (fun j => evR (ev ad xs bS ((List.replicate n Value.null).getD j .null))))))) = _
    simp only [getD_rep, List.length_replicate]; rfl
  | k + 5 =>
    show vp_cell cA ((List.replicate n Value.null).length, .inr (.inr (.inr (.inr (fun j => evR (ev ad xs bS ((List.replicate n Value.null).getD j .null))))))) = _
    simp only [getD_rep, List.length_replicate]; rfl
theorem evA_repq {ad : Nat → Nat} {xs : Nat → Int32} {bS : Nat} {ti : Nat} (h : 3 ≤ ti) (n : Nat) : evA (ev ad xs bS) ti (List.replicate n (xdv ti)) = (n, .inr (.inr (.inr (.inr (fun _ => none))))) := by
  match ti, h with
  | k + 3, _ =>
    have e : xdv (k + 3) = .null := by unfold xdv; split <;> first | rfl | omega
    rw [e]
    show (((List.replicate n Value.null).length, .inr (.inr (.inr (.inr (fun j => evR (ev ad xs bS ((List.replicate n Value.null).getD j .null))))))) : vp_A) = _
    simp only [getD_rep, List.length_replicate]; rfl
theorem xix_spec {i : Int32} {n j : Nat} (h : xix i n = some j) : vp_in i n ∧ i.toNatClampNeg = j ∧ j < n := by
  unfold xix at h
  cases h1 : decide (i < 0) with
  | true => rw [h1] at h; cases h
  | false =>
    rw [h1] at h
    cases h2 : Nat.ble (i.toNatClampNeg + 1) n with
    | false => rw [h2] at h; cases h
    | true =>
      rw [h2] at h
      have e : i.toNatClampNeg = j := Option.some.inj h
      have h3 := Nat.le_of_ble_eq_true h2
      refine ⟨?_, e, by omega⟩
      rintro (q | q)
      · exact absurd q (of_decide_eq_false h1)
      · omega
theorem getD_at {α : Type} {l : List α} {j : Nat} {v d : α} (h : l[j]? = some v) : l.getD j d = v := by
  rw [List.getD_eq_getElem?_getD, h]; rfl
theorem getD_put {α : Type} {l : List α} {j : Nat} (v d : α) (hj : j < l.length) (k : Nat) : (l.set j v).getD k d = if k = j then v else l.getD k d := by
  rw [List.getD_eq_getElem?_getD, List.getD_eq_getElem?_getD, List.getElem?_set]
  by_cases h : j = k
  · subst h; simp [hj]
  · rw [if_neg h, if_neg (fun z => h z.symm)]
theorem xald_spec {ok : Value → Bool} {oti : Nat → Bool} {st : List Value} {σ : XS} {q : List Value × XS} (h : xald ok oti st σ = some q) : ∃ i o r ti vs j v, st = .int i :: .ref o :: r ∧ xhk σ.2.1 o = some (true, ti, vs) ∧ oti ti = true ∧ xix i vs.length = some j ∧ vs[j]? = some v ∧ ok v = true ∧ q = (v :: r, σ) := by
  unfold xald at h
  split at h
  · rename_i i o r
    split at h
    · rename_i ti vs hk
      cases h1 : oti ti with
      | false => rw [h1] at h; cases h
      | true =>
        rw [h1] at h
        simp only [cond_true] at h
        split at h
        · rename_i j hj
          split at h
          · rename_i v hv
            cases h2 : ok v with
            | false => rw [h2] at h; cases h
            | true =>
              rw [h2] at h
              rw [xnth_eq] at hv
              exact ⟨i, o, r, ti, vs, j, v, rfl, hk, h1, hj, hv, h2, (Option.some.inj h).symm⟩
          · cases h
        · cases h
    · cases h
  · cases h
theorem xast_spec {ok : Value → Bool} {oti : Nat → Bool} {st : List Value} {σ : XS} {q : List Value × XS} (h : xast ok oti st σ = some q) : ∃ v i o r ti vs j, st = v :: .int i :: .ref o :: r ∧ xhk σ.2.1 o = some (true, ti, vs) ∧ oti ti = true ∧ ok v = true ∧ xix i vs.length = some j ∧ q = (r, (σ.1, xhs σ.2.1 o (true, ti, vs.set j v), σ.2.2)) := by
  unfold xast at h
  split at h
  · rename_i v i o r
    split at h
    · rename_i ti vs hk
      cases h1 : (oti ti && ok v) with
      | false => rw [h1] at h; cases h
      | true =>
        rw [h1] at h
        rw [Bool.and_eq_true] at h1
        simp only [cond_true] at h
        split at h
        · rename_i j hj
          rw [xset_eq] at h
          exact ⟨v, i, o, r, ti, vs, j, rfl, hk, h1.1, h1.2, hj, (Option.some.inj h).symm⟩
        · cases h
    · cases h
  · cases h
/-- what an instruction that touches cells wants of the tables -/
def xvh (Ts : List Jvm.Cond) (own : String) (init : Bool) (i : Instr) (aux : List Nat) : Prop :=
  match i with
  | .getfield idx => ∀ ci k t, aux = ci :: k :: t → ∃ C T N, classes[ci]? = some (C, T, N) ∧ k < N ∧ Jvm.Cond.fieldLink own idx (T k).1 (T k).2.1 (T k).2.2.1 ∈ Ts
  | .putfield idx => ∀ ci k t, aux = ci :: k :: t → ∃ C T N, classes[ci]? = some (C, T, N) ∧ k < N ∧ Jvm.Cond.fieldLink own idx (T k).1 (T k).2.1 (T k).2.2.1 ∈ Ts ∧ ((T k).2.2.2 = false ∨ ((T k).2.2.2 = true ∧ init = true ∧ (T k).1 = own))
  | .new idx => ∀ ci t, aux = ci :: t → ∃ C T N, classes[ci]? = some (C, T, N) ∧ Jvm.Cond.classLink own idx C ∈ Ts ∧ Jvm.Cond.instantiable C N ∈ Ts ∧ Jvm.Cond.initialized C ∈ Ts
  | .newarray a => ∀ ti t, aux = ti :: t → ti ≤ 2 ∧ newarray.typeOf a = xty ti ∧ Jvm.Cond.arrayClass (newarray.typeOf a) ∈ Ts
  | .anewarray idx => ∀ ti t, aux = ti :: t → 3 ≤ ti ∧ ti ≤ 5 ∧ ∃ C, xty ti = .object C ∧ Jvm.Cond.classLink own idx C ∈ Ts
  | .multianewarray idx d => ∃ ty, Jvm.Cond.arrayClass ty ∈ Ts ∧ (ty = .int ∨ (ty = .boolean ∧ d = 2)) ∧ (d = 2 → Jvm.Cond.classLink own idx ("[" ++ (FieldType.array ty).toString) ∈ Ts) ∧ (d = 3 → Jvm.Cond.classLink own idx ("[" ++ (FieldType.array (.array ty)).toString) ∈ Ts)
  | _ => True
end XK
end
section
section XM
variable {p : Program} {l : Launch} {e : Env} {R : Room} {s : State} {m : MethodId} {args : Array Value} {below : List Frame} {meth : Method} {c : Code} {H : Heap} {locs : List Loc} {Q : State → Prop}
variable {cc : ByteArray} {pc nL : Nat} {ls : Array Slot} {ad : Nat → Nat} {xs : Nat → Int32} {bS : Nat} {aC : Nat → ClassId} {D : va_G} {A : Nat → Prop} {own : String} {Ts : List Jvm.Cond}
/-- where the walk goes on behind an instruction that touches cells -/
def xgo (p : Program) (l : Launch) (e : Env) (R : Room) (s : State) (m : MethodId) (args : Array Value) (below : List Frame) (meth : Method) (c : Code) (Q : State → Prop) (ad : Nat → Nat) (xs : Nat → Int32) (bS : Nat) (aC : Nat → ClassId) (D : va_G) (A : Nat → Prop) (lv : XL) (n : Nat) (pc : Nat) (ls : Array Slot) (st' : List Value) (σ' : XS) (nL : Nat) : Prop :=
  ∀ (ad' : Nat → Nat) (H1 : Heap) (locs1 : List Loc), (∀ j, j < n → ad' j = ad j) → n ≤ σ'.2.2.1 → va_P D classes (evH (ev ad' xs bS) ad' aC σ'.2.1) H1 → va_D A (evH (ev ad' xs bS) ad' aC σ'.2.1) → va_S A s.heap H1 locs1 → lv_has ls nL (evL (ev ad' xs bS) lv) →
    W p l e R s m args below meth c H1 locs1 σ'.2.2.2.1 σ'.2.2.2.2 Q (F0 m pc ls (evS (ev ad' xs bS) st'))
theorem xw_get (hx : p.tables.exec = Jvm.exec) (hb : c.code = cc) (hts : ∀ w ∈ Ts, w.before args s = true) (hcw : ∀ (ci : Nat) (C : String) (T : u_T) (N : Nat), classes[ci]? = some (C, T, N) → ∀ w ∈ u_ws C T N, w ∈ Ts) (hown : s.vm.findClass own = some m.cls) (hK : va_K D classes (xtys aC) s)
    {idx : Nat} {aux : List Nat} {init : Bool} (hv : xvh Ts own init (.getfield idx) aux) {lv : XL} {st st' : List Value} {σ σ' : XS} (h : xget aux st σ = some (st', σ'))
    (hP : va_P D classes (evH (ev ad xs bS) ad aC σ.2.1) H) (hD : va_D A (evH (ev ad xs bS) ad aC σ.2.1)) (hS : va_S A s.heap H locs) (hl : lv_has ls nL (evL (ev ad xs bS) lv)) (hd : decode cc pc = .ok (.getfield idx, 3))
    (kk : xgo p l e R s m args below meth c Q ad xs bS aC D A lv σ.2.2.1 (pc + 3) ls st' σ' nL) : W p l e R s m args below meth c H locs σ.2.2.2.1 σ.2.2.2.2 Q (F0 m pc ls (evS (ev ad xs bS) st)) := by
  unfold xget at h
  split at h
  · rename_i ci k t o r
    split at h
    · rename_i cj fs hk
      cases h1 : Nat.beq ci cj with
      | false => rw [h1] at h; cases h
      | true =>
        rw [h1] at h
        simp only [cond_true] at h
        split at h
        · rename_i v hv2
          rw [xnth_eq] at hv2
          obtain ⟨rfl, rfl⟩ := Prod.mk.inj (Option.some.inj h)
          have e1 := Nat.eq_of_beq_eq_true h1
          subst e1
          obtain ⟨C, T, N, hc, hkN, hw⟩ := hv ci k t rfl
          obtain ⟨q0, hq, -⟩ := xhk_get (E := ev ad xs bS) (ad := ad) (aC := aC) hk
          refine va_get (own := own) (ref := (T k).1) (C := C) (T := T) (N := N) (ci := ci) (fs := fs.map (ev ad xs bS)) hx hb hts (hcw ci C T N hc) hown hK hP q0 hq hc k hkN (hts _ hw) (fun _ z => z) (v := ev ad xs bS v) (by rw [List.getElem?_map, hv2]; rfl) hd ?_
          exact kk ad H locs (fun _ _ => rfl) (Nat.le_refl _) hP hD hS hl
        · cases h
    · cases h
  · cases h
theorem xw_put (hx : p.tables.exec = Jvm.exec) (hb : c.code = cc) (hts : ∀ w ∈ Ts, w.before args s = true) (hcw : ∀ (ci : Nat) (C : String) (T : u_T) (N : Nat), classes[ci]? = some (C, T, N) → ∀ w ∈ u_ws C T N, w ∈ Ts) (hown : s.vm.findClass own = some m.cls) (hK : va_K D classes (xtys aC) s)
    {idx : Nat} {aux : List Nat} {init : Bool} (hin : init = true → meth.name = "<init>") (hv : xvh Ts own init (.putfield idx) aux) {lv : XL} {st st' : List Value} {σ σ' : XS} (h : xput aux st σ = some (st', σ'))
    (hP : va_P D classes (evH (ev ad xs bS) ad aC σ.2.1) H) (hD : va_D A (evH (ev ad xs bS) ad aC σ.2.1)) (hS : va_S A s.heap H locs) (hl : lv_has ls nL (evL (ev ad xs bS) lv)) (hd : decode cc pc = .ok (.putfield idx, 3))
    (kk : xgo p l e R s m args below meth c Q ad xs bS aC D A lv σ.2.2.1 (pc + 3) ls st' σ' nL) : W p l e R s m args below meth c H locs σ.2.2.2.1 σ.2.2.2.2 Q (F0 m pc ls (evS (ev ad xs bS) st)) := by
  unfold xput at h
  split at h
  · rename_i ci k t v o r
    split at h
    · rename_i cj fs hk
      cases h1 : (Nat.beq ci cj && (xfit (xTy ci k) v && Nat.ble (k + 1) fs.length)) with
      | false => rw [h1] at h; cases h
      | true =>
        rw [h1] at h
        simp only [Bool.and_eq_true] at h1
        obtain ⟨h2, h3, h4⟩ := h1
        rw [xset_eq] at h
        obtain ⟨rfl, rfl⟩ := Prod.mk.inj (Option.some.inj h)
        have e1 := Nat.eq_of_beq_eq_true h2
        subst e1
        obtain ⟨C, T, N, hc, hkN, hw, hf⟩ := hv ci k t rfl
        obtain ⟨q0, hq, hset⟩ := xhk_get (E := ev ad xs bS) (ad := ad) (aC := aC) hk
        obtain ⟨hN, hty, hnm⟩ := xcls_ok hc
        obtain ⟨hn, hfit⟩ := xfit_ok (ad := ad) (xs := xs) (bS := bS) h3
        have hlen : k < (fs.map (ev ad xs bS)).length := by rw [List.length_map]; exact Nat.le_of_ble_eq_true h4
        have hset2 : (evH (ev ad xs bS) ad aC σ.2.1).set q0 (ad o, .inr (ci, (fs.map (ev ad xs bS)).set k (ev ad xs bS v))) = evH (ev ad xs bS) ad aC (xhs σ.2.1 o (false, ci, fs.set k v)) := by
          rw [← hset (false, ci, fs.set k v), ← List.map_set]; rfl
        rcases hf with hf | ⟨hf, hi, hdecl⟩
        · refine va_put (own := own) (ref := (T k).1) (C := C) (T := T) (N := N) (ci := ci) (fs := fs.map (ev ad xs bS)) hx hb hts (hcw ci C T N hc) (xTy ci) hty hnm hown hK hP hD hS q0 hq hc k hkN (hts _ hw) (fun _ z => z) hf (ty := xTy ci k) (hty k hkN) hn hfit hlen hd (fun H1 locs1 p1 d1 s1 => ?_)
          rw [hset2] at p1 d1
          exact kk ad H1 locs1 (fun _ _ => rfl) (Nat.le_refl _) p1 d1 s1 hl
        · refine va_putF (own := own) (ref := (T k).1) (C := C) (T := T) (N := N) (ci := ci) (fs := fs.map (ev ad xs bS)) hx hb hts (hcw ci C T N hc) (xTy ci) hty hnm hown hK hP hD hS q0 hq hc k hkN (hts _ hw) (fun _ z => z) hf (hin hi) hdecl (ty := xTy ci k) (hty k hkN) hn hfit hlen hd (fun H1 locs1 p1 d1 s1 => ?_)
          rw [hset2] at p1 d1
          exact kk ad H1 locs1 (fun _ _ => rfl) (Nat.le_refl _) p1 d1 s1 hl
    · cases h
  · cases h
/-- one thing more, at a new address -/
theorem xnew_go {lv : XL} {r st' : List Value} {σ σ' : XS} {cl : XCl} {ns : Nat} (h : xnew R lv r σ cl ns = some (st', σ')) (hdef : ∀ ad', evC (ev ad' xs bS) aC cl = evC (ev ad xs bS) aC cl) (hl : lv_has ls nL (evL (ev ad xs bS) lv))
    (kk : xgo p l e R s m args below meth c Q ad xs bS aC D A lv σ.2.2.1 pc ls st' σ' nL) :
    σ.2.2.2.1 + 1 ≤ R.cells ∧ σ.2.2.2.2 + ns ≤ R.slots ∧ ∀ (q : Nat) (H1 : Heap), va_P D classes (evH (ev ad xs bS) ad aC σ.2.1 ++ [(q, evC (ev ad xs bS) aC cl)]) H1 → va_D A (evH (ev ad xs bS) ad aC σ.2.1 ++ [(q, evC (ev ad xs bS) aC cl)]) → ∀ locs1, va_S A s.heap H1 locs1 →
      W p l e R s m args below meth c H1 locs1 (σ.2.2.2.1 + 1) (σ.2.2.2.2 + ns) Q (F0 m pc ls (.ref q :: evS (ev ad xs bS) r)) := by
  obtain ⟨pe, hh, n, ce, sl⟩ := σ
  unfold xnew at h
  dsimp only at h
  cases h1 : (xal n lv r hh && (Nat.ble (ce + 1) R.cells && Nat.ble (sl + ns) R.slots)) with
  | false => rw [h1] at h; cases h
  | true =>
    rw [h1] at h
    simp only [Bool.and_eq_true] at h1
    obtain ⟨h2, h3, h4⟩ := h1
    obtain ⟨rfl, rfl⟩ := Prod.mk.inj (Option.some.inj h)
    obtain ⟨oL, oS, oH⟩ := xal_spec h2
    refine ⟨Nat.le_of_ble_eq_true h3, Nat.le_of_ble_eq_true h4, fun q H1 hP hD locs1 hS => ?_⟩
    have ha : ∀ j, j < n → (fun j => if j = n then q else ad j) j = ad j := fun j hj => if_neg (Nat.ne_of_lt hj)
    have e1 : evH (ev (fun j => if j = n then q else ad j) xs bS) (fun j => if j = n then q else ad j) aC (hh ++ [(n, cl)]) = evH (ev ad xs bS) ad aC hh ++ [(q, evC (ev ad xs bS) aC cl)] := by
      have := xoH_ev (xs := xs) (bS := bS) (aC := aC) ha oH
      unfold evH at this ⊢
      rw [List.map_append, this]
      simp [hdef]
    have e2 : evS (ev (fun j => if j = n then q else ad j) xs bS) (.ref n :: r) = .ref q :: evS (ev ad xs bS) r := by
      have := xoS_ev (xs := xs) (bS := bS) ha oS
      unfold evS at this ⊢
      rw [List.map_cons, this]
      simp [ev]
    have := kk (fun j => if j = n then q else ad j) H1 locs1 ha (Nat.le_succ n) (by dsimp only; rw [e1]; exact hP) (by dsimp only; rw [e1]; exact hD) hS (by rw [xoL_ev ha oL]; exact hl)
    dsimp only at this
    rw [e2] at this
    exact this
theorem xkeep_go {lv : XL} {r st' : List Value} {σ σ' : XS} {nc ns : Nat} (h : xkeep R lv r σ nc ns = some (st', σ')) (hl : lv_has ls nL (evL (ev ad xs bS) lv))
    (kk : xgo p l e R s m args below meth c Q ad xs bS aC D A lv σ.2.2.1 pc ls st' σ' nL) (hP : va_P D classes (evH (ev ad xs bS) ad aC σ.2.1) H) (hD : va_D A (evH (ev ad xs bS) ad aC σ.2.1)) (hS : va_S A s.heap H locs) :
    σ.2.2.2.1 + nc ≤ R.cells ∧ σ.2.2.2.2 + ns ≤ R.slots ∧ ∀ (q : Nat) (H1 : Heap), H.size ≤ H1.size → (∀ x : Nat, x < H.size → H1[x]? = H[x]?) →
      W p l e R s m args below meth c H1 locs (σ.2.2.2.1 + nc) (σ.2.2.2.2 + ns) Q (F0 m pc ls (.ref q :: evS (ev ad xs bS) r)) := by
  obtain ⟨pe, hh, n, ce, sl⟩ := σ
  unfold xkeep at h
  dsimp only at h
  cases h1 : (xal n lv r hh && (Nat.ble (ce + nc) R.cells && Nat.ble (sl + ns) R.slots)) with
  | false => rw [h1] at h; cases h
  | true =>
    rw [h1] at h
    simp only [Bool.and_eq_true] at h1
    obtain ⟨h2, h3, h4⟩ := h1
    obtain ⟨rfl, rfl⟩ := Prod.mk.inj (Option.some.inj h)
    obtain ⟨oL, oS, oH⟩ := xal_spec h2
    refine ⟨Nat.le_of_ble_eq_true h3, Nat.le_of_ble_eq_true h4, fun q H1 hz hq => ?_⟩
    have ha : ∀ j, j < n → (fun j => if j = n then q else ad j) j = ad j := fun j hj => if_neg (Nat.ne_of_lt hj)
    have e1 : evH (ev (fun j => if j = n then q else ad j) xs bS) (fun j => if j = n then q else ad j) aC hh = evH (ev ad xs bS) ad aC hh := xoH_ev ha oH
    have e2 : evS (ev (fun j => if j = n then q else ad j) xs bS) (.ref n :: r) = .ref q :: evS (ev ad xs bS) r := by
      have := xoS_ev (xs := xs) (bS := bS) ha oS
      unfold evS at this ⊢
      rw [List.map_cons, this]
      simp [ev]
    have hP1 : va_P D classes (evH (ev ad xs bS) ad aC hh) H1 := hP.kept (fun k x hx => hq x.1 ((hP k x hx).lt))
    have hS1 : va_S A s.heap H1 locs := ⟨Nat.le_trans hS.1 hz, fun x h1 h2 => (hq x (Nat.lt_of_lt_of_le h1 hS.1)).trans (hS.2.1 x h1 h2), hS.2.2⟩
    have := kk (fun j => if j = n then q else ad j) H1 locs ha (Nat.le_succ n) (by dsimp only; rw [e1]; exact hP1) (by dsimp only; rw [e1]; exact hD) hS1 (by rw [xoL_ev ha oL]; exact hl)
    dsimp only at this
    rw [e2] at this
    exact this
theorem xcomp {ti n : Nat} (h : n ≤ 1000) : n * componentBytes (xty ti) ≤ 536870912 := by
  have : componentBytes (xty ti) ≤ 8 := by
    unfold xty
    split <;> decide
  calc n * componentBytes (xty ti) ≤ 1000 * 8 := Nat.mul_le_mul h this
    _ ≤ 536870912 := Nat.le_of_ble_eq_true rfl
theorem xw_newo (hx : p.tables.exec = Jvm.exec) (hb : c.code = cc) (hts : ∀ w ∈ Ts, w.before args s = true) (hcw : ∀ (ci : Nat) (C : String) (T : u_T) (N : Nat), classes[ci]? = some (C, T, N) → ∀ w ∈ u_ws C T N, w ∈ Ts) (hown : s.vm.findClass own = some m.cls) (hK : va_K D classes (xtys aC) s) (hA : ∀ q, s.heap.size ≤ q → A q)
    {idx : Nat} {aux : List Nat} {init : Bool} (hv : xvh Ts own init (.new idx) aux) {lv : XL} {st st' : List Value} {σ σ' : XS} (h : xnewo R aux lv st σ = some (st', σ'))
    (hP : va_P D classes (evH (ev ad xs bS) ad aC σ.2.1) H) (hD : va_D A (evH (ev ad xs bS) ad aC σ.2.1)) (hS : va_S A s.heap H locs) (hl : lv_has ls nL (evL (ev ad xs bS) lv)) (hd : decode cc pc = .ok (.new idx, 3))
    (kk : xgo p l e R s m args below meth c Q ad xs bS aC D A lv σ.2.2.1 (pc + 3) ls st' σ' nL) : W p l e R s m args below meth c H locs σ.2.2.2.1 σ.2.2.2.2 Q (F0 m pc ls (evS (ev ad xs bS) st)) := by
  unfold xnewo at h
  split at h
  · rename_i ci t
    obtain ⟨C, T, N, hc, w1, w2, w3⟩ := hv ci t rfl
    obtain ⟨rfl, hty, hnm⟩ := xcls_ok hc
    have ed : ∀ ad2, evC (ev ad2 xs bS) aC (false, ci, xD ci) = .inr (ci, xD ci) := fun ad2 => by show Sum.inr (ci, (xD ci).map (ev ad2 xs bS)) = _; rw [xD_ev]
    obtain ⟨b1, b2, b3⟩ := xnew_go h (fun ad' => (ed ad').trans (ed ad).symm) hl kk
    refine va_new (own := own) (C := C) (T := T) (ci := ci) (fs := xD ci) hx hb hts (hcw ci C T _ hc) (xTy ci) hty hown (hts _ w1) (hts _ w2) (hts _ w3) hK hP hD hS hA hc (fun j hj => xD_at hj) b1 b2 hd (fun q H1 hP1 hD1 hS1 => ?_)
    exact b3 q H1 (by rw [ed]; exact hP1) (by rw [ed]; exact hD1) locs hS1
  · cases h
theorem xw_newa (hx : p.tables.exec = Jvm.exec) (hb : c.code = cc) (hts : ∀ w ∈ Ts, w.before args s = true) (hown : s.vm.findClass own = some m.cls) (hK : va_K D classes (xtys aC) s) (hA : ∀ q, s.heap.size ≤ q → A q)
    {a : ArrayType} {aux : List Nat} {init : Bool} (hv : xvh Ts own init (.newarray a) aux) {lv : XL} {st st' : List Value} {σ σ' : XS} (h : xnewa R aux lv st σ = some (st', σ'))
    (hP : va_P D classes (evH (ev ad xs bS) ad aC σ.2.1) H) (hD : va_D A (evH (ev ad xs bS) ad aC σ.2.1)) (hS : va_S A s.heap H locs) (hl : lv_has ls nL (evL (ev ad xs bS) lv)) (hd : decode cc pc = .ok (.newarray a, 2))
    (kk : xgo p l e R s m args below meth c Q ad xs bS aC D A lv σ.2.2.1 (pc + 2) ls st' σ' nL) : W p l e R s m args below meth c H locs σ.2.2.2.1 σ.2.2.2.2 Q (F0 m pc ls (evS (ev ad xs bS) st)) := by
  unfold xnewa at h
  split at h
  · rename_i ti t n r
    obtain ⟨ht2, hty, w1⟩ := hv ti t rfl
    cases h1 : decide (n < 0) with
    | true => rw [h1] at h; cases h
    | false =>
      rw [h1] at h
      cases h2 : Nat.ble n.toNatClampNeg 1000 with
      | false => rw [h2] at h; cases h
      | true =>
        rw [h2] at h
        have hn : ¬ n < 0 := of_decide_eq_false h1
        have hle := Nat.le_of_ble_eq_true h2
        have h : xnew R lv r σ (true, ti, List.replicate n.toNatClampNeg (xdv ti)) n.toNatClampNeg = some (st', σ') := h
        have ed : ∀ ad2, vp_cell (aC ti) (evA (ev ad2 xs bS) ti (List.replicate n.toNatClampNeg (xdv ti))) = arrV (aC ti) n.toNatClampNeg (fun _ => defaultValue (xty ti)) := fun ad2 => evA_rep _ _
        have ee : ∀ ad2, evC (ev ad2 xs bS) aC (true, ti, List.replicate n.toNatClampNeg (xdv ti)) = evC (ev ad xs bS) aC (true, ti, List.replicate n.toNatClampNeg (xdv ti)) := fun ad2 =>
          evC_congr (fun v hv => by rw [List.eq_of_mem_replicate hv]; unfold xdv; split <;> rfl) rfl rfl rfl
        obtain ⟨b1, b2, b3⟩ := xnew_go h ee hl kk
        refine va_newa (atype := a) (ty := xty ti) hx hb (hts _ w1) hty hK hP hD hS hA (a0 := evA (ev ad xs bS) ti (List.replicate n.toNatClampNeg (xdv ti))) (fun cA => evA_rep _ _) hn rfl (xcomp hle) b1 b2 hd (fun q cA H1 hK1 hP1 hD1 hS1 => ?_)
        have g1 : ((xtys aC) ++ [(cA, xty ti)])[ti]? = some (aC ti, xty ti) := by
          rw [List.getElem?_append_left (by show ti < 6; omega)]
          exact xtys_get aC (by omega)
        have g2 : ((xtys aC) ++ [(cA, xty ti)])[6]? = some (cA, xty ti) := rfl
        have ec : cA = aC ti := xRA_inj (hK1.2 _ _ g2).2 (hK1.2 _ _ g1).2
        subst ec
        exact b3 q H1 hP1 hD1 locs hS1
  · cases h
theorem xw_newq (hx : p.tables.exec = Jvm.exec) (hb : c.code = cc) (hts : ∀ w ∈ Ts, w.before args s = true) (hown : s.vm.findClass own = some m.cls) (hK : va_K D classes (xtys aC) s) (hA : ∀ q, s.heap.size ≤ q → A q) (hAO : ∀ ti C, ti ≤ 5 → xty ti = .object C → va_AO C s)
    {idx : Nat} {aux : List Nat} {init : Bool} (hv : xvh Ts own init (.anewarray idx) aux) {lv : XL} {st st' : List Value} {σ σ' : XS} (h : xnewa R aux lv st σ = some (st', σ'))
    (hP : va_P D classes (evH (ev ad xs bS) ad aC σ.2.1) H) (hD : va_D A (evH (ev ad xs bS) ad aC σ.2.1)) (hS : va_S A s.heap H locs) (hl : lv_has ls nL (evL (ev ad xs bS) lv)) (hd : decode cc pc = .ok (.anewarray idx, 3))
    (kk : xgo p l e R s m args below meth c Q ad xs bS aC D A lv σ.2.2.1 (pc + 3) ls st' σ' nL) : W p l e R s m args below meth c H locs σ.2.2.2.1 σ.2.2.2.2 Q (F0 m pc ls (evS (ev ad xs bS) st)) := by
  unfold xnewa at h
  split at h
  · rename_i ti t n r
    obtain ⟨ht3, ht5, C, hC, w1⟩ := hv ti t rfl
    cases h1 : decide (n < 0) with
    | true => rw [h1] at h; cases h
    | false =>
      rw [h1] at h
      cases h2 : Nat.ble n.toNatClampNeg 1000 with
      | false => rw [h2] at h; cases h
      | true =>
        rw [h2] at h
        have hn : ¬ n < 0 := of_decide_eq_false h1
        have hle := Nat.le_of_ble_eq_true h2
        have h : xnew R lv r σ (true, ti, List.replicate n.toNatClampNeg (xdv ti)) n.toNatClampNeg = some (st', σ') := h
        have ed : ∀ ad2, evC (ev ad2 xs bS) aC (true, ti, List.replicate n.toNatClampNeg (xdv ti)) = .inl (aC ti, n.toNatClampNeg, .inr (.inr (.inr (.inr (fun _ => none))))) := fun ad2 => by
          show Sum.inl (aC ti, evA (ev ad2 xs bS) ti _) = _
          rw [evA_repq ht3]
        obtain ⟨b1, b2, b3⟩ := xnew_go h (fun ad' => (ed ad').trans (ed ad).symm) hl kk
        refine va_newq (own := own) (C := C) hx hb hown (hts _ w1) (hAO ti C ht5 hC) hK hP hD hS hA hn rfl (by omega) b1 b2 hd (fun q cA H1 hK1 hP1 hD1 hS1 => ?_)
        have g1 : ((xtys aC) ++ [(cA, FieldType.object C)])[ti]? = some (aC ti, .object C) := by
          rw [List.getElem?_append_left (by show ti < 6; omega), xtys_get aC ht5, hC]
        have g2 : ((xtys aC) ++ [(cA, FieldType.object C)])[6]? = some (cA, .object C) := rfl
        have ec : cA = aC ti := xRA_inj (hK1.2 _ _ g2).2 (hK1.2 _ _ g1).2
        subst ec
        exact b3 q H1 (by rw [ed]; exact hP1) (by rw [ed]; exact hD1) locs hS1
  · cases h
end XM
end
section
section XO
variable {p : Program} {l : Launch} {e : Env} {R : Room} {s : State} {m : MethodId} {args : Array Value} {below : List Frame} {meth : Method} {c : Code} {H : Heap} {locs : List Loc} {Q : State → Prop}
variable {cc : ByteArray} {pc nL : Nat} {ls : Array Slot} {ad : Nat → Nat} {xs : Nat → Int32} {bS : Nat} {aC : Nat → ClassId} {D : va_G} {A : Nat → Prop} {own : String} {Ts : List Jvm.Cond}
theorem xw_m2 (hx : p.tables.exec = Jvm.exec) (hb : c.code = cc) (hts : ∀ w ∈ Ts, w.before args s = true) (hown : s.vm.findClass own = some m.cls) (hAA : ∀ ty, (ty = .array .int ∨ ty = .array .boolean ∨ ty = .array (.array .int)) → (Jvm.Cond.arrayOver ty).before args s = true)
    {idx : Nat} {aux : List Nat} {init : Bool} (hv : xvh Ts own init (.multianewarray idx 2) aux) {lv : XL} {st st' : List Value} {σ σ' : XS} (h : xnewm2 R lv st σ = some (st', σ'))
    (hP : va_P D classes (evH (ev ad xs bS) ad aC σ.2.1) H) (hD : va_D A (evH (ev ad xs bS) ad aC σ.2.1)) (hS : va_S A s.heap H locs) (hl : lv_has ls nL (evL (ev ad xs bS) lv)) (hd : decode cc pc = .ok (.multianewarray idx 2, 4))
    (kk : xgo p l e R s m args below meth c Q ad xs bS aC D A lv σ.2.2.1 (pc + 4) ls st' σ' nL) : W p l e R s m args below meth c H locs σ.2.2.2.1 σ.2.2.2.2 Q (F0 m pc ls (evS (ev ad xs bS) st)) := by
  unfold xnewm2 at h
  split at h
  · rename_i k n r
    cases h1 : (decide (k < 0) || decide (n < 0)) with
    | true => rw [h1] at h; cases h
    | false =>
      rw [h1] at h
      cases h2 : (Nat.ble k.toNatClampNeg 1000 && Nat.ble n.toNatClampNeg 1000) with
      | false => rw [h2] at h; cases h
      | true =>
        rw [h2] at h
        rw [Bool.or_eq_false_iff] at h1
        rw [Bool.and_eq_true] at h2
        have hk : ¬ k < 0 := of_decide_eq_false h1.1
        have hn : ¬ n < 0 := of_decide_eq_false h1.2
        have lk := Nat.le_of_ble_eq_true h2.1
        have ln := Nat.le_of_ble_eq_true h2.2
        have h : xkeep R lv r σ (1 + n.toNatClampNeg) (n.toNatClampNeg + n.toNatClampNeg * k.toNatClampNeg) = some (st', σ') := h
        obtain ⟨ty, w1, hty, w2, -⟩ := hv
        obtain ⟨b1, b2, b3⟩ := xkeep_go h hl kk hP hD hS
        refine xg_m2 (own := own) (ty := ty) hx hb hown (hts _ (w2 rfl)) ?_ (hts _ w1) hn hk (by omega) ?_ (by omega) ?_ ?_ b1 b2 hd (fun q H1 z1 z2 => ?_)
        · rcases hty with rfl | ⟨rfl, -⟩
          · exact hAA _ (Or.inl rfl)
          · exact hAA _ (Or.inr (Or.inl rfl))
        · rcases hty with rfl | ⟨rfl, -⟩
          · show k.toNatClampNeg * 4 ≤ 536870912; omega
          · show k.toNatClampNeg * 1 ≤ 536870912; omega
        · rcases hty with rfl | ⟨rfl, -⟩ <;> rfl
        · rcases hty with rfl | ⟨rfl, -⟩ <;> rfl
        · have := b3 q H1 z1 z2
          rw [← Nat.add_assoc, ← Nat.add_assoc] at this
          exact this
  · cases h
theorem xw_m3 (hx : p.tables.exec = Jvm.exec) (hb : c.code = cc) (hts : ∀ w ∈ Ts, w.before args s = true) (hown : s.vm.findClass own = some m.cls) (hAA : ∀ ty, (ty = .array .int ∨ ty = .array .boolean ∨ ty = .array (.array .int)) → (Jvm.Cond.arrayOver ty).before args s = true)
    {idx : Nat} {aux : List Nat} {init : Bool} (hv : xvh Ts own init (.multianewarray idx 3) aux) {lv : XL} {st st' : List Value} {σ σ' : XS} (h : xnewm3 R lv st σ = some (st', σ'))
    (hP : va_P D classes (evH (ev ad xs bS) ad aC σ.2.1) H) (hD : va_D A (evH (ev ad xs bS) ad aC σ.2.1)) (hS : va_S A s.heap H locs) (hl : lv_has ls nL (evL (ev ad xs bS) lv)) (hd : decode cc pc = .ok (.multianewarray idx 3, 4))
    (kk : xgo p l e R s m args below meth c Q ad xs bS aC D A lv σ.2.2.1 (pc + 4) ls st' σ' nL) : W p l e R s m args below meth c H locs σ.2.2.2.1 σ.2.2.2.2 Q (F0 m pc ls (evS (ev ad xs bS) st)) := by
  unfold xnewm3 at h
  split at h
  · rename_i r3 k n r
    cases h1 : (decide (r3 < 0) || (decide (k < 0) || decide (n < 0))) with
    | true => rw [h1] at h; cases h
    | false =>
      rw [h1] at h
      cases h2 : (Nat.ble r3.toNatClampNeg 1000 && (Nat.ble k.toNatClampNeg 1000 && Nat.ble n.toNatClampNeg 1000)) with
      | false => rw [h2] at h; cases h
      | true =>
        rw [h2] at h
        simp only [Bool.or_eq_false_iff] at h1
        simp only [Bool.and_eq_true] at h2
        have hr3 : ¬ r3 < 0 := of_decide_eq_false h1.1
        have hk : ¬ k < 0 := of_decide_eq_false h1.2.1
        have hn : ¬ n < 0 := of_decide_eq_false h1.2.2
        have l3 := Nat.le_of_ble_eq_true h2.1
        have lk := Nat.le_of_ble_eq_true h2.2.1
        have ln := Nat.le_of_ble_eq_true h2.2.2
        have h : xkeep R lv r σ (1 + n.toNatClampNeg * (1 + k.toNatClampNeg)) (n.toNatClampNeg + n.toNatClampNeg * (k.toNatClampNeg + k.toNatClampNeg * r3.toNatClampNeg)) = some (st', σ') := h
        obtain ⟨ty, w1, hty, -, w2⟩ := hv
        obtain rfl : ty = .int := by
          rcases hty with rfl | ⟨rfl, z⟩
          · rfl
          · exact absurd z (by decide)
        obtain ⟨b1, b2, b3⟩ := xkeep_go h hl kk hP hD hS
        refine xg_m3 (own := own) (ty := .int) hx hb hown (hts _ (w2 rfl)) (hAA _ (Or.inr (Or.inr rfl))) (hAA _ (Or.inl rfl)) (hts _ w1) (by decide +kernel) hn hk hr3 (by omega) (by omega) (by show r3.toNatClampNeg * 4 ≤ 536870912; omega) (by omega) rfl rfl b1 b2 hd (fun q H1 z1 z2 => ?_)
        have := b3 q H1 z1 z2
        rw [← Nat.add_assoc, ← Nat.add_assoc] at this
        exact this
  · cases h
theorem xw_len (hx : p.tables.exec = Jvm.exec) (hb : c.code = cc) (hK : va_K D classes (xtys aC) s) {scr : Option Nat} (hX : ∀ L, scr = some L → va_X bS L xs s s.heap ∧ bS < s.heap.size ∧ ¬ A bS)
    {lv : XL} {st st' : List Value} {σ σ' : XS} (h : xlen scr st σ = some (st', σ'))
    (hP : va_P D classes (evH (ev ad xs bS) ad aC σ.2.1) H) (hD : va_D A (evH (ev ad xs bS) ad aC σ.2.1)) (hS : va_S A s.heap H locs) (hl : lv_has ls nL (evL (ev ad xs bS) lv)) (hd : decode cc pc = .ok (.arraylength, 1))
    (kk : xgo p l e R s m args below meth c Q ad xs bS aC D A lv σ.2.2.1 (pc + 1) ls st' σ' nL) : W p l e R s m args below meth c H locs σ.2.2.2.1 σ.2.2.2.2 Q (F0 m pc ls (evS (ev ad xs bS) st)) := by
  unfold xlen at h
  split at h
  · rename_i o r
    split at h
    · rename_i ti vs hk
      cases h1 : Nat.ble ti 5 with
      | false => rw [h1] at h; cases h
      | true =>
        rw [h1] at h
        obtain ⟨rfl, rfl⟩ := Prod.mk.inj (Option.some.inj h)
        obtain ⟨q0, hq, -⟩ := xhk_get (E := ev ad xs bS) (ad := ad) (aC := aC) hk
        refine va_alen hx hb hK hP q0 ti (x := evA (ev ad xs bS) ti vs) hq (xtys_get aC (Nat.le_of_ble_eq_true h1)) (v := Int32.ofNat vs.length) (by rw [evA_len]) hd ?_
        exact kk ad H locs (fun _ _ => rfl) (Nat.le_refl _) hP hD hS hl
    · cases h
  · split at h
    · rename_i L
      obtain ⟨rfl, rfl⟩ := Prod.mk.inj (Option.some.inj h)
      obtain ⟨x1, x2, x3⟩ := hX L rfl
      exact va_slen hx hb x1 x2 x3 hS hd (kk ad H locs (fun _ _ => rfl) (Nat.le_refl _) hP hD hS hl)
    · cases h
  · cases h
theorem xw_aldq (hx : p.tables.exec = Jvm.exec) (hb : c.code = cc) (hK : va_K D classes (xtys aC) s)
    {lv : XL} {st st' : List Value} {σ σ' : XS} (h : xald xref (fun ti => Nat.ble 3 ti && Nat.ble ti 5) st σ = some (st', σ'))
    (hP : va_P D classes (evH (ev ad xs bS) ad aC σ.2.1) H) (hD : va_D A (evH (ev ad xs bS) ad aC σ.2.1)) (hS : va_S A s.heap H locs) (hl : lv_has ls nL (evL (ev ad xs bS) lv)) (hd : decode cc pc = .ok (.aaload, 1))
    (kk : xgo p l e R s m args below meth c Q ad xs bS aC D A lv σ.2.2.1 (pc + 1) ls st' σ' nL) : W p l e R s m args below meth c H locs σ.2.2.2.1 σ.2.2.2.2 Q (F0 m pc ls (evS (ev ad xs bS) st)) := by
  obtain ⟨i, o, r, ti, vs, j, v, rfl, hk, ht, hj, hv, hok, hq⟩ := xald_spec h
  obtain ⟨rfl, rfl⟩ := Prod.mk.inj hq
  rw [Bool.and_eq_true] at ht
  have h3 := Nat.le_of_ble_eq_true ht.1
  have h5 := Nat.le_of_ble_eq_true ht.2
  obtain ⟨h1, h2, -⟩ := xix_spec hj
  obtain ⟨q0, hq, -⟩ := xhk_get (E := ev ad xs bS) (ad := ad) (aC := aC) hk
  obtain ⟨C, hC⟩ := xty_obj h3
  have ht9 := xtys_get aC h5
  rw [hC] at ht9
  have hA9 : evA (ev ad xs bS) ti vs = (vs.length, .inr (.inr (.inr (.inr (fun j => evR (ev ad xs bS (vs.getD j .null))))))) := by
    match ti, h3 with
    | k + 3, _ => rfl
  have hq9 : (evH (ev ad xs bS) ad aC σ'.2.1)[q0]? = some (ad o, .inl (aC ti, vs.length, .inr (.inr (.inr (.inr (fun j => evR (ev ad xs bS (vs.getD j .null)))))))) := by
    rw [hq]; show some (ad o, Sum.inl (aC ti, evA (ev ad xs bS) ti vs)) = _; rw [hA9]
  refine va_aldq hx hb hK hP q0 ti (C := C) hq9 ht9 h1 hd ?_
  have e1 : va_rf (evR (ev ad xs bS (vs.getD i.toNatClampNeg .null))) = ev ad xs bS v := by
    rw [h2, getD_at hv]
    rcases xref_ev (ad := ad) (xs := xs) (bS := bS) hok with e | ⟨a, e⟩ <;> rw [e] <;> rfl
  show W p l e R s m args below meth c H locs σ'.2.2.2.1 σ'.2.2.2.2 Q (F0 m (pc + 1) ls (va_rf (evR (ev ad xs bS (vs.getD i.toNatClampNeg .null))) :: evS (ev ad xs bS) r))
  rw [e1]
  exact kk ad H locs (fun _ _ => rfl) (Nat.le_refl _) hP hD hS hl
theorem xw_lald (hx : p.tables.exec = Jvm.exec) (hb : c.code = cc) (hK : va_K D classes (xtys aC) s)
    {lv : XL} {st st' : List Value} {σ σ' : XS} (h : xald xlong (fun ti => Nat.beq ti 2) st σ = some (st', σ'))
    (hP : va_P D classes (evH (ev ad xs bS) ad aC σ.2.1) H) (hD : va_D A (evH (ev ad xs bS) ad aC σ.2.1)) (hS : va_S A s.heap H locs) (hl : lv_has ls nL (evL (ev ad xs bS) lv)) (hd : decode cc pc = .ok (.laload, 1))
    (kk : xgo p l e R s m args below meth c Q ad xs bS aC D A lv σ.2.2.1 (pc + 1) ls st' σ' nL) : W p l e R s m args below meth c H locs σ.2.2.2.1 σ.2.2.2.2 Q (F0 m pc ls (evS (ev ad xs bS) st)) := by
  obtain ⟨i, o, r, ti, vs, j, v, rfl, hk, ht, hj, hv, hok, hq⟩ := xald_spec h
  obtain ⟨rfl, rfl⟩ := Prod.mk.inj hq
  have ht := Nat.eq_of_beq_eq_true ht
  subst ht
  obtain ⟨h1, h2, -⟩ := xix_spec hj
  obtain ⟨q0, hq, -⟩ := xhk_get (E := ev ad xs bS) (ad := ad) (aC := aC) hk
  refine va_lald hx hb hK hP q0 2 hq (xtys_get aC (by omega)) h1 hd ?_
  have e1 : Value.long (evG (ev ad xs bS (vs.getD i.toNatClampNeg (.long 0)))) = ev ad xs bS v := by
    rw [h2, getD_at hv]
    obtain ⟨a, e⟩ := xlong_ev (ad := ad) (xs := xs) (bS := bS) hok
    rw [e]; rfl
  show W p l e R s m args below meth c H locs σ'.2.2.2.1 σ'.2.2.2.2 Q (F0 m (pc + 1) ls (Value.long (evG (ev ad xs bS (vs.getD i.toNatClampNeg (.long 0)))) :: evS (ev ad xs bS) r))
  rw [e1]
  exact kk ad H locs (fun _ _ => rfl) (Nat.le_refl _) hP hD hS hl
theorem xw_ild (hx : p.tables.exec = Jvm.exec) (hb : c.code = cc) (hK : va_K D classes (xtys aC) s) {scr : Option Nat} (hX : ∀ L, scr = some L → va_X bS L xs s s.heap ∧ bS < s.heap.size ∧ ¬ A bS)
    {lv : XL} {st st' : List Value} {σ σ' : XS} (h : xild scr st σ = some (st', σ'))
    (hP : va_P D classes (evH (ev ad xs bS) ad aC σ.2.1) H) (hD : va_D A (evH (ev ad xs bS) ad aC σ.2.1)) (hS : va_S A s.heap H locs) (hl : lv_has ls nL (evL (ev ad xs bS) lv)) (hd : decode cc pc = .ok (.iaload, 1))
    (kk : xgo p l e R s m args below meth c Q ad xs bS aC D A lv σ.2.2.1 (pc + 1) ls st' σ' nL) : W p l e R s m args below meth c H locs σ.2.2.2.1 σ.2.2.2.2 Q (F0 m pc ls (evS (ev ad xs bS) st)) := by
  unfold xild at h
  split at h
  · rename_i i a r
    split at h
    · rename_i L
      split at h
      · rename_i j hj
        cases h8 : Nat.ble j 8 with
        | false => rw [h8] at h; cases h
        | true =>
          rw [h8] at h
          obtain ⟨rfl, rfl⟩ := Prod.mk.inj (Option.some.inj h)
          obtain ⟨x1, x2, x3⟩ := hX L rfl
          obtain ⟨h1, h2, -⟩ := xix_spec hj
          have h8 := Nat.le_of_ble_eq_true h8
          refine va_sld hx hb x1 x2 x3 hS h1 hd ?_
          have e1 : ev ad xs bS (.float (UInt32.ofNat j)) = .int (xs i.toNatClampNeg) := by
            show Value.int (xs (UInt32.ofNat j).toNat) = _
            have e2 : (UInt32.ofNat j).toNat = j := by
              first
                | exact UInt32.toNat_ofNat_of_lt' (by omega)
                | (rw [UInt32.toNat_ofNat']; exact Nat.mod_eq_of_lt (by omega))
            rw [e2, h2]
          have := kk ad H locs (fun _ _ => rfl) (Nat.le_refl _) hP hD hS hl
          have e3 : evS (ev ad xs bS) (.float (UInt32.ofNat j) :: r) = .int (xs i.toNatClampNeg) :: evS (ev ad xs bS) r := by
            show ev ad xs bS _ :: _ = _
            rw [e1]; rfl
          rw [e3] at this
          exact this
      · cases h
    · cases h
  · obtain ⟨i, o, r, ti, vs, j, v, rfl, hk, ht, hj, hv, hok, hq⟩ := xald_spec h
    obtain ⟨rfl, rfl⟩ := Prod.mk.inj hq
    have ht := Nat.eq_of_beq_eq_true ht
    subst ht
    obtain ⟨h1, h2, -⟩ := xix_spec hj
    obtain ⟨q0, hq, -⟩ := xhk_get (E := ev ad xs bS) (ad := ad) (aC := aC) hk
    refine va_iald hx hb hK hP q0 0 hq (xtys_get aC (by omega)) h1 hd ?_
    have e1 : Value.int (evI (ev ad xs bS (vs.getD i.toNatClampNeg (.int 0)))) = ev ad xs bS v := by
      rw [h2, getD_at hv]
      obtain ⟨a, e⟩ := xint_ev (ad := ad) (xs := xs) (bS := bS) hok
      rw [e]; rfl
    show W p l e R s m args below meth c H locs σ'.2.2.2.1 σ'.2.2.2.2 Q (F0 m (pc + 1) ls (Value.int (evI (ev ad xs bS (vs.getD i.toNatClampNeg (.int 0)))) :: evS (ev ad xs bS) r))
    rw [e1]
    exact kk ad H locs (fun _ _ => rfl) (Nat.le_refl _) hP hD hS hl
theorem xw_iast (hx : p.tables.exec = Jvm.exec) (hb : c.code = cc) (hK : va_K D classes (xtys aC) s)
    {lv : XL} {st st' : List Value} {σ σ' : XS} (h : xast xint (fun ti => Nat.beq ti 0) st σ = some (st', σ'))
    (hP : va_P D classes (evH (ev ad xs bS) ad aC σ.2.1) H) (hD : va_D A (evH (ev ad xs bS) ad aC σ.2.1)) (hS : va_S A s.heap H locs) (hl : lv_has ls nL (evL (ev ad xs bS) lv)) (hd : decode cc pc = .ok (.iastore, 1))
    (kk : xgo p l e R s m args below meth c Q ad xs bS aC D A lv σ.2.2.1 (pc + 1) ls st' σ' nL) : W p l e R s m args below meth c H locs σ.2.2.2.1 σ.2.2.2.2 Q (F0 m pc ls (evS (ev ad xs bS) st)) := by
  obtain ⟨v, i, o, r, ti, vs, j, rfl, hk, ht, hok, hj, hq⟩ := xast_spec h
  obtain ⟨rfl, rfl⟩ := Prod.mk.inj hq
  have ht := Nat.eq_of_beq_eq_true ht
  subst ht
  obtain ⟨h1, h2, h3⟩ := xix_spec hj
  obtain ⟨q0, hq, hset⟩ := xhk_get (E := ev ad xs bS) (ad := ad) (aC := aC) hk
  obtain ⟨x, hxv⟩ := xint_ev (ad := ad) (xs := xs) (bS := bS) hok
  have e1 : evA (ev ad xs bS) 0 (vs.set j v) = (vs.length, .inl (upd (fun k => evI (ev ad xs bS (vs.getD k (.int 0)))) i.toNatClampNeg x)) := by
    show ((vs.set j v).length, Sum.inl (fun k => evI (ev ad xs bS ((vs.set j v).getD k (.int 0))))) = _
    rw [List.length_set]
    refine congrArg (fun z => (vs.length, Sum.inl z)) (funext fun k => ?_)
    show evI (ev ad xs bS ((vs.set j v).getD k (.int 0))) = upd _ _ _ k
    rw [getD_put v _ h3, h2]
    unfold upd
    by_cases hkj : k = j
    · rw [if_pos hkj, if_pos hkj, hxv]; rfl
    · rw [if_neg hkj, if_neg hkj]
  show W p l e R s m args below meth c H locs _ _ Q (F0 m pc ls (ev ad xs bS v :: .int i :: .ref (ad o) :: evS (ev ad xs bS) st'))
  rw [hxv]
  refine va_iast hx hb hK hP hD hS q0 0 hq (xtys_get aC (by omega)) h1 hd (fun H1 locs1 p1 d1 s1 => ?_)
  have e2 : (evH (ev ad xs bS) ad aC σ.2.1).set q0 (ad o, .inl (aC 0, vs.length, .inl (upd (fun k => evI (ev ad xs bS (vs.getD k (.int 0)))) i.toNatClampNeg x))) = evH (ev ad xs bS) ad aC (xhs σ.2.1 o (true, 0, vs.set j v)) := by
    rw [← hset (true, 0, vs.set j v)]
    show _ = (evH (ev ad xs bS) ad aC σ.2.1).set q0 (ad o, .inl (aC 0, evA (ev ad xs bS) 0 (vs.set j v)))
    rw [e1]
  exact kk ad H1 locs1 (fun _ _ => rfl) (Nat.le_refl _) (by dsimp only; rw [← e2]; exact p1) (by dsimp only; rw [← e2]; exact d1) s1 hl
theorem xw_last (hx : p.tables.exec = Jvm.exec) (hb : c.code = cc) (hK : va_K D classes (xtys aC) s)
    {lv : XL} {st st' : List Value} {σ σ' : XS} (h : xast xlong (fun ti => Nat.beq ti 2) st σ = some (st', σ'))
    (hP : va_P D classes (evH (ev ad xs bS) ad aC σ.2.1) H) (hD : va_D A (evH (ev ad xs bS) ad aC σ.2.1)) (hS : va_S A s.heap H locs) (hl : lv_has ls nL (evL (ev ad xs bS) lv)) (hd : decode cc pc = .ok (.lastore, 1))
    (kk : xgo p l e R s m args below meth c Q ad xs bS aC D A lv σ.2.2.1 (pc + 1) ls st' σ' nL) : W p l e R s m args below meth c H locs σ.2.2.2.1 σ.2.2.2.2 Q (F0 m pc ls (evS (ev ad xs bS) st)) := by
  obtain ⟨v, i, o, r, ti, vs, j, rfl, hk, ht, hok, hj, hq⟩ := xast_spec h
  obtain ⟨rfl, rfl⟩ := Prod.mk.inj hq
  have ht := Nat.eq_of_beq_eq_true ht
  subst ht
  obtain ⟨h1, h2, h3⟩ := xix_spec hj
  obtain ⟨q0, hq, hset⟩ := xhk_get (E := ev ad xs bS) (ad := ad) (aC := aC) hk
  obtain ⟨x, hxv⟩ := xlong_ev (ad := ad) (xs := xs) (bS := bS) hok
  have e1 : evA (ev ad xs bS) 2 (vs.set j v) = (vs.length, .inr (.inl (vp_updL (fun k => evG (ev ad xs bS (vs.getD k (.long 0)))) i.toNatClampNeg x))) := by
    show ((vs.set j v).length, Sum.inr (Sum.inl (fun k => evG (ev ad xs bS ((vs.set j v).getD k (.long 0)))))) = _
    rw [List.length_set]
    refine congrArg (fun z => (vs.length, Sum.inr (Sum.inl z))) (funext fun k => ?_)
    show evG (ev ad xs bS ((vs.set j v).getD k (.long 0))) = vp_updL _ _ _ k
    rw [getD_put v _ h3, h2]
    unfold vp_updL
    by_cases hkj : k = j
    · rw [if_pos hkj, if_pos hkj, hxv]; rfl
    · rw [if_neg hkj, if_neg hkj]
  show W p l e R s m args below meth c H locs _ _ Q (F0 m pc ls (ev ad xs bS v :: .int i :: .ref (ad o) :: evS (ev ad xs bS) st'))
  rw [hxv]
  refine va_last hx hb hK hP hD hS q0 2 hq (xtys_get aC (by omega)) h1 hd (fun H1 locs1 p1 d1 s1 => ?_)
  have e2 : (evH (ev ad xs bS) ad aC σ.2.1).set q0 (ad o, .inl (aC 2, vs.length, .inr (.inl (vp_updL (fun k => evG (ev ad xs bS (vs.getD k (.long 0)))) i.toNatClampNeg x)))) = evH (ev ad xs bS) ad aC (xhs σ.2.1 o (true, 2, vs.set j v)) := by
    rw [← hset (true, 2, vs.set j v)]
    show _ = (evH (ev ad xs bS) ad aC σ.2.1).set q0 (ad o, .inl (aC 2, evA (ev ad xs bS) 2 (vs.set j v)))
    rw [e1]
  exact kk ad H1 locs1 (fun _ _ => rfl) (Nat.le_refl _) (by dsimp only; rw [← e2]; exact p1) (by dsimp only; rw [← e2]; exact d1) s1 hl
/-- an array of references behind a store -/
theorem evA_putq {ti : Nat} (h3 : 3 ≤ ti) {vs : List Value} {j : Nat} {v : Value} {x : Option Nat} (hj : j < vs.length) (hxv : evR (ev ad xs bS v) = x) :
    evA (ev ad xs bS) ti (vs.set j v) = (vs.length, .inr (.inr (.inr (.inr (va_up (fun k => evR (ev ad xs bS (vs.getD k .null))) j x))))) := by
  have hA9 : evA (ev ad xs bS) ti (vs.set j v) = ((vs.set j v).length, .inr (.inr (.inr (.inr (fun k => evR (ev ad xs bS ((vs.set j v).getD k .null))))))) := by
    match ti, h3 with
    | k + 3, _ => rfl
  rw [hA9, List.length_set]
  refine congrArg (fun z => (vs.length, Sum.inr (Sum.inr (Sum.inr (Sum.inr z))))) (funext fun k => ?_)
  show evR (ev ad xs bS ((vs.set j v).getD k .null)) = va_up _ _ _ k
  rw [getD_put v _ hj]
  unfold va_up
  by_cases hkj : k = j
  · rw [if_pos hkj, if_pos hkj, hxv]
  · rw [if_neg hkj, if_neg hkj]
theorem xw_asa (hx : p.tables.exec = Jvm.exec) (hb : c.code = cc) (hK : va_K D classes (xtys aC) s)
    {lv : XL} {st st' : List Value} {σ σ' : XS} (h : xasa st σ = some (st', σ'))
    (hP : va_P D classes (evH (ev ad xs bS) ad aC σ.2.1) H) (hD : va_D A (evH (ev ad xs bS) ad aC σ.2.1)) (hS : va_S A s.heap H locs) (hl : lv_has ls nL (evL (ev ad xs bS) lv)) (hd : decode cc pc = .ok (.aastore, 1))
    (kk : xgo p l e R s m args below meth c Q ad xs bS aC D A lv σ.2.2.1 (pc + 1) ls st' σ' nL) : W p l e R s m args below meth c H locs σ.2.2.2.1 σ.2.2.2.2 Q (F0 m pc ls (evS (ev ad xs bS) st)) := by
  unfold xasa at h
  split at h
  · obtain ⟨v, i, o, r, ti, vs, j, hst, hk, ht, hok, hj, hq⟩ := xast_spec h
    obtain ⟨rfl, rfl⟩ := List.cons.inj hst
    obtain ⟨rfl, rfl⟩ := Prod.mk.inj hq
    rw [Bool.and_eq_true] at ht
    have h3 := Nat.le_of_ble_eq_true ht.1
    have h5 := Nat.le_of_ble_eq_true ht.2
    obtain ⟨h1, h2, hjl⟩ := xix_spec hj
    obtain ⟨q0, hq, hset⟩ := xhk_get (E := ev ad xs bS) (ad := ad) (aC := aC) hk
    obtain ⟨C, hC⟩ := xty_obj h3
    have ht9 := xtys_get aC h5
    rw [hC] at ht9
    have hA9 : evA (ev ad xs bS) ti vs = (vs.length, .inr (.inr (.inr (.inr (fun j => evR (ev ad xs bS (vs.getD j .null))))))) := by
      match ti, h3 with
      | k + 3, _ => rfl
    have hq9 : (evH (ev ad xs bS) ad aC σ.2.1)[q0]? = some (ad o, .inl (aC ti, vs.length, .inr (.inr (.inr (.inr (fun j => evR (ev ad xs bS (vs.getD j .null)))))))) := by
      rw [hq]; show some (ad o, Sum.inl (aC ti, evA (ev ad xs bS) ti vs)) = _; rw [hA9]
    refine va_astqN hx hb hK hP hD hS q0 ti (C := C) hq9 ht9 h1 hd (fun H1 locs1 p1 d1 s1 => ?_)
    have e2 : (evH (ev ad xs bS) ad aC σ.2.1).set q0 (ad o, .inl (aC ti, vs.length, .inr (.inr (.inr (.inr (va_up (fun j => evR (ev ad xs bS (vs.getD j .null))) i.toNatClampNeg none)))))) = evH (ev ad xs bS) ad aC (xhs σ.2.1 o (true, ti, vs.set j .null)) := by
      rw [← hset (true, ti, vs.set j .null)]
      show _ = (evH (ev ad xs bS) ad aC σ.2.1).set q0 (ad o, .inl (aC ti, evA (ev ad xs bS) ti (vs.set j .null)))
      rw [evA_putq h3 hjl (x := none) rfl, h2]
    exact kk ad H1 locs1 (fun _ _ => rfl) (Nat.le_refl _) (by dsimp only; rw [← e2]; exact p1) (by dsimp only; rw [← e2]; exact d1) s1 hl
  · rename_i b w2 o2 rr
    split at h
    · rename_i ti2 vs2 ci fs hk1 hk2
      split at h
      · rename_i cj hel
        cases hb9 : Nat.beq ci cj with
        | false => rw [hb9] at h; cases h
        | true =>
            rw [hb9] at h
            simp only [cond_true] at h
            obtain ⟨v, i, o, r, ti, vs, j, hst, hk, ht, hok, hj, hq⟩ := xast_spec h
            obtain ⟨e1, hs1⟩ := List.cons.inj hst
            obtain ⟨e2, hs2⟩ := List.cons.inj hs1
            obtain ⟨e3, hs3⟩ := List.cons.inj hs2
            cases e3
            subst e1; subst e2; subst hs3
            obtain ⟨rfl, rfl⟩ := Prod.mk.inj hq
            have ht := Nat.eq_of_beq_eq_true ht
            subst ht
            have hb9 := Nat.eq_of_beq_eq_true hb9
            subst hb9
            have hel2 : ti2 = 4 ∧ ci = 3 := by
              unfold xel at hel
              split at hel
              · exact ⟨rfl, (Option.some.inj hel).symm⟩
              · cases hel
            obtain ⟨rfl, rfl⟩ := hel2
            obtain ⟨h1, h2, hjl⟩ := xix_spec hj
            obtain ⟨q0, hq, hset⟩ := xhk_get (E := ev ad xs bS) (ad := ad) (aC := aC) hk
            obtain ⟨qk, hqk, -⟩ := xhk_get (E := ev ad xs bS) (ad := ad) (aC := aC) hk2
            have hq9 : (evH (ev ad xs bS) ad aC σ.2.1)[q0]? = some (ad o2, .inl (aC 4, vs.length, .inr (.inr (.inr (.inr (fun j => evR (ev ad xs bS (vs.getD j .null)))))))) := hq
            refine va_astq hx hb hK hP hD hS q0 4 qk 3 (r := ("PackWright$Pack", xT3, 3)) (v := ad b) (vs := fs.map (ev ad xs bS)) hq9 (xtys_get aC (by omega)) hqk rfl h1 hd (fun H1 locs1 p1 d1 s1 => ?_)
            have e2 : (evH (ev ad xs bS) ad aC σ.2.1).set q0 (ad o2, .inl (aC 4, vs.length, .inr (.inr (.inr (.inr (va_up (fun j => evR (ev ad xs bS (vs.getD j .null))) i.toNatClampNeg (some (ad b)))))))) = evH (ev ad xs bS) ad aC (xhs σ.2.1 o2 (true, 4, vs.set j (.ref b))) := by
              rw [← hset (true, 4, vs.set j (.ref b))]
              show _ = (evH (ev ad xs bS) ad aC σ.2.1).set q0 (ad o2, .inl (aC 4, evA (ev ad xs bS) 4 (vs.set j (.ref b))))
              rw [evA_putq (by omega) hjl (x := some (ad b)) rfl, h2]
            exact kk ad H1 locs1 (fun _ _ => rfl) (Nat.le_refl _) (by dsimp only; rw [← e2]; exact p1) (by dsimp only; rw [← e2]; exact d1) s1 hl
      · cases h
    · cases h
  · cases h
end XO
end
section
section XB
variable {p : Program} {l : Launch} {e : Env} {R : Room} {s : State} {m : MethodId} {args : Array Value} {below : List Frame} {meth : Method} {c : Code} {H : Heap} {locs : List Loc} {cells slots : Nat} {Q : State → Prop}
variable {cc : ByteArray} {pc nL : Nat} {ls : Array Slot} {ad : Nat → Nat} {xs : Nat → Int32} {bS : Nat} {aC : Nat → ClassId} {D : va_G} {A : Nat → Prop} {own : String} {Ts : List Jvm.Cond}
theorem xheap_ok (hx : p.tables.exec = Jvm.exec) (hb : c.code = cc) (hts : ∀ w ∈ Ts, w.before args s = true) (hcw : ∀ (ci : Nat) (C : String) (T : u_T) (N : Nat), classes[ci]? = some (C, T, N) → ∀ w ∈ u_ws C T N, w ∈ Ts) (hown : s.vm.findClass own = some m.cls) (hK : va_K D classes (xtys aC) s) (hA : ∀ q, s.heap.size ≤ q → A q)
    (hAO : ∀ ti C, ti ≤ 5 → xty ti = .object C → va_AO C s) (hAA : ∀ ty, (ty = .array .int ∨ ty = .array .boolean ∨ ty = .array (.array .int)) → (Jvm.Cond.arrayOver ty).before args s = true)
    {scr : Option Nat} (hX : ∀ L, scr = some L → va_X bS L xs s s.heap ∧ bS < s.heap.size ∧ ¬ A bS) {init : Bool} (hin : init = true → meth.name = "<init>")
    {i : Instr} {aux : List Nat} (hv : xvh Ts own init i aux) {lv : XL} {st st' : List Value} {σ σ' : XS} (h : xheap scr R i aux lv st σ = some (st', σ'))
    (hP : va_P D classes (evH (ev ad xs bS) ad aC σ.2.1) H) (hD : va_D A (evH (ev ad xs bS) ad aC σ.2.1)) (hS : va_S A s.heap H locs) (hl : lv_has ls nL (evL (ev ad xs bS) lv)) (hd : decode cc pc = .ok (i, ilen i))
    (kk : xgo p l e R s m args below meth c Q ad xs bS aC D A lv σ.2.2.1 (pc + ilen i) ls st' σ' nL) : W p l e R s m args below meth c H locs σ.2.2.2.1 σ.2.2.2.2 Q (F0 m pc ls (evS (ev ad xs bS) st)) := by
  unfold xheap at h
  split at h
  · exact xw_get hx hb hts hcw hown hK hv h hP hD hS hl hd kk
  · exact xw_put hx hb hts hcw hown hK hin hv h hP hD hS hl hd kk
  · exact xw_newo hx hb hts hcw hown hK hA hv h hP hD hS hl hd kk
  · exact xw_newa hx hb hts hown hK hA hv h hP hD hS hl hd kk
  · exact xw_newq hx hb hts hown hK hA hAO hv h hP hD hS hl hd kk
  · rename_i idx d
    cases h2 : Nat.beq d 2 with
    | true =>
      have e2 := Nat.eq_of_beq_eq_true h2
      subst e2
      exact xw_m2 hx hb hts hown hAA hv h hP hD hS hl hd kk
    | false =>
      rw [h2] at h
      cases h3 : Nat.beq d 3 with
      | true =>
        rw [h3] at h
        have e2 := Nat.eq_of_beq_eq_true h3
        subst e2
        exact xw_m3 hx hb hts hown hAA hv h hP hD hS hl hd kk
      | false => rw [h3] at h; cases h
  · exact xw_len hx hb hK hX h hP hD hS hl hd kk
  · exact xw_ild hx hb hK hX h hP hD hS hl hd kk
  · exact xw_lald hx hb hK h hP hD hS hl hd kk
  · exact xw_aldq hx hb hK h hP hD hS hl hd kk
  · exact xw_iast hx hb hK h hP hD hS hl hd kk
  · exact xw_last hx hb hK h hP hD hS hl hd kk
  · exact xw_asa hx hb hK h hP hD hS hl hd kk
  · cases h
/-! branches -/
def xsat (xs : Nat → Int32) (pe : XP) : Prop := ∀ (i : Nat) (q : Int × Int), pe[i]? = some q → q.1 ≤ (xs i).toInt ∧ (xs i).toInt ≤ q.2
theorem xpset_eq : ∀ (l : XP) (k : Nat) (v : Int × Int), xpset l k v = l.set k v
  | [], _, _ => by simp [xpset]
  | _ :: _, 0, _ => by simp [xpset]
  | _ :: t, k + 1, v => by simp [xpset, xpset_eq t k v]
theorem xsat_set {pe : XP} {u : Nat} {q : Int × Int} (h : xsat xs pe) (h1 : q.1 ≤ (xs u).toInt) (h2 : (xs u).toInt ≤ q.2) : xsat xs (xpset pe u q) := by
  intro i r hr
  rw [xpset_eq, List.getElem?_set] at hr
  split at hr
  · rename_i e1
    subst e1
    split at hr
    · cases hr; exact ⟨h1, h2⟩
    · cases hr
  · exact h i r hr
theorem xone_in {pe : XP} {u : Nat} {b : Bool} {q : Int × Int} {v : Int} (h1 : q.1 ≤ v) (h2 : v ≤ q.2) : (b, xpset pe u q) ∈ xone pe u b q := by
  unfold xone
  rw [decide_eq_true (Int.le_trans h1 h2)]
  exact List.mem_cons_self
theorem xmn_le {a b v : Int} (h1 : v ≤ a) (h2 : v ≤ b) : v ≤ xmn a b := by
  unfold xmn; cases decide (a ≤ b) <;> assumption
theorem xmx_le {a b v : Int} (h1 : a ≤ v) (h2 : b ≤ v) : xmx a b ≤ v := by
  unfold xmx; cases decide (a ≤ b) <;> assumption
theorem xcut_ok {pe : XP} {u : Nat} {q : Int × Int} (k : Int) (b : Bool) (h : xsat xs pe) (hq : pe[u]? = some q) : ∃ pe', ((bif decide ((xs u).toInt < k) then b else !b), pe') ∈ xcut pe u q k b ∧ xsat xs pe' := by
  obtain ⟨h1, h2⟩ := h u q hq
  by_cases hk : (xs u).toInt < k
  · rw [decide_eq_true hk]
    have g1 : (xs u).toInt ≤ xmn q.2 (k - 1) := xmn_le h2 (by omega)
    exact ⟨_, List.mem_append_left _ (xone_in (q := (q.1, xmn q.2 (k - 1))) h1 g1), xsat_set h h1 g1⟩
  · rw [decide_eq_false hk]
    have g1 : xmx q.1 k ≤ (xs u).toInt := xmx_le h1 (by omega)
    exact ⟨_, List.mem_append_right _ (xone_in (q := (xmx q.1 k, q.2)) g1 h2), xsat_set h g1 h2⟩
theorem xcutE_ok {pe : XP} {u : Nat} {q : Int × Int} (k : Int) (b : Bool) (h : xsat xs pe) (hq : pe[u]? = some q) : ∃ pe', ((bif decide ((xs u).toInt = k) then b else !b), pe') ∈ xcutE pe u q k b ∧ xsat xs pe' := by
  obtain ⟨h1, h2⟩ := h u q hq
  unfold xcutE
  by_cases hk : (xs u).toInt = k
  · rw [decide_eq_true hk]
    have g1 : xmx q.1 k ≤ (xs u).toInt := xmx_le h1 (by omega)
    have g2 : (xs u).toInt ≤ xmn q.2 k := xmn_le h2 (by omega)
    exact ⟨_, List.mem_append_left _ (xone_in (q := (xmx q.1 k, xmn q.2 k)) g1 g2), xsat_set h g1 g2⟩
  · rw [decide_eq_false hk]
    by_cases e1 : q.1 = k
    · rw [decide_eq_true e1]
      have g1 : q.1 + 1 ≤ (xs u).toInt := by omega
      exact ⟨_, List.mem_append_right _ (xone_in (q := (q.1 + 1, q.2)) g1 h2), xsat_set h g1 h2⟩
    · rw [decide_eq_false e1]
      by_cases e2 : q.2 = k
      · rw [decide_eq_true e2]
        have g1 : (xs u).toInt ≤ q.2 - 1 := by omega
        exact ⟨_, List.mem_append_right _ (xone_in (q := (q.1, q.2 - 1)) h1 g1), xsat_set h h1 g1⟩
      · rw [decide_eq_false e2]
        exact ⟨_, List.mem_append_right _ (xone_in (q := q) h1 h2), xsat_set h h1 h2⟩
theorem xsplit_ok {pe : XP} {u : Nat} {cd : ClassFile.Cond} {y : Int32} {r : List (Bool × XP)} (hr : xsplit pe u cd y.toInt = some r) (h : xsat xs pe) : ∃ pe', (xprop cd (xs u) y, pe') ∈ r ∧ xsat xs pe' := by
  unfold xsplit at hr
  split at hr
  · cases hr
  · rename_i q hq
    rw [xnth_eq] at hq
    cases cd with
    | eq =>
      obtain rfl := Option.some.inj hr
      have := xcutE_ok y.toInt true h hq
      rw [show xprop .eq (xs u) y = (bif decide ((xs u).toInt = y.toInt) then true else !true) by simp [xprop, Int32.toInt_inj]]
      exact this
    | ne =>
      obtain rfl := Option.some.inj hr
      have := xcutE_ok y.toInt false h hq
      rw [show xprop .ne (xs u) y = (bif decide ((xs u).toInt = y.toInt) then false else !false) by simp [xprop, Int32.toInt_inj]]
      exact this
    | lt =>
      obtain rfl := Option.some.inj hr
      have := xcut_ok y.toInt true h hq
      rw [show xprop .lt (xs u) y = (bif decide ((xs u).toInt < y.toInt) then true else !true) by simp [xprop, Int32.lt_iff_toInt_lt]]
      exact this
    | ge =>
      obtain rfl := Option.some.inj hr
      have := xcut_ok y.toInt false h hq
      rw [show xprop .ge (xs u) y = (bif decide ((xs u).toInt < y.toInt) then false else !false) by
        by_cases z : (xs u).toInt < y.toInt
        · simp [xprop, Int32.le_iff_toInt_le, z]
        · simp [xprop, Int32.le_iff_toInt_le, z, Int.not_lt.mp z]]
      exact this
    | gt =>
      obtain rfl := Option.some.inj hr
      have := xcut_ok (y.toInt + 1) false h hq
      rw [show xprop .gt (xs u) y = (bif decide ((xs u).toInt < y.toInt + 1) then false else !false) by
        by_cases z : (xs u).toInt < y.toInt + 1
        · have z2 : ¬ y.toInt < (xs u).toInt := by omega
          simp [xprop, Int32.lt_iff_toInt_lt, z, z2]
        · have z2 : y.toInt < (xs u).toInt := by omega
          simp [xprop, Int32.lt_iff_toInt_lt, z, z2]]
      exact this
    | le =>
      obtain rfl := Option.some.inj hr
      have := xcut_ok (y.toInt + 1) true h hq
      rw [show xprop .le (xs u) y = (bif decide ((xs u).toInt < y.toInt + 1) then true else !true) by
        by_cases z : (xs u).toInt < y.toInt + 1
        · have z2 : (xs u).toInt ≤ y.toInt := by omega
          simp [xprop, Int32.le_iff_toInt_le, z, z2]
        · have z2 : ¬ (xs u).toInt ≤ y.toInt := by omega
          simp [xprop, Int32.le_iff_toInt_le, z, z2]]
      exact this
theorem xflip_ok (cd : ClassFile.Cond) (x y : Int32) : xprop (xflip cd) y x = xprop cd x y := by
  cases cd with
  | eq => simp [xprop, xflip, eq_comm]
  | ne => simp [xprop, xflip, eq_comm]
  | lt => rfl
  | ge => rfl
  | gt => rfl
  | le => rfl
theorem xbrs_ok {cd : ClassFile.Cond} {a b : Value} {pe : XP} {r : List (Bool × XP)} (hr : xbrs cd a b pe = some r) (h : xsat xs pe) : ∃ x y pe', ev ad xs bS a = .int x ∧ ev ad xs bS b = .int y ∧ (xprop cd x y, pe') ∈ r ∧ xsat xs pe' := by
  unfold xbrs at hr
  split at hr
  · obtain rfl := Option.some.inj hr
    exact ⟨_, _, pe, rfl, rfl, List.mem_cons_self, h⟩
  · obtain ⟨pe', h1, h2⟩ := xsplit_ok hr h
    exact ⟨_, _, pe', rfl, rfl, h1, h2⟩
  · obtain ⟨pe', h1, h2⟩ := xsplit_ok hr h
    rw [xflip_ok] at h1
    exact ⟨_, _, pe', rfl, rfl, h1, h2⟩
  · cases hr
theorem xtgt_ok {off : Int} {t : Nat} (h : xtgt pc off = some t) : (pc : Int) + off = (t : Int) := by
  unfold xtgt at h
  split at h
  · rename_i k hk
    cases h
    exact hk
  · cases h
theorem xjump_ok {off : Int} {r : List Value} {o : Option (List (Bool × XP))} {z : List (Nat × List Value × XP)} (h : xjump pc off r o = some z) : ∃ (t : Nat) (l0 : List (Bool × XP)), (pc : Int) + off = (t : Int) ∧ o = some l0 ∧ ∀ b pe', (b, pe') ∈ l0 → ((bif b then t else pc + 3), r, pe') ∈ z := by
  unfold xjump at h
  split at h
  · rename_i t l0 h1
    obtain rfl := Option.some.inj h
    exact ⟨t, l0, xtgt_ok h1, rfl, fun b pe' hb => List.mem_map.mpr ⟨(b, pe'), hb, rfl⟩⟩
  · cases h
theorem xw_icmp (hx : p.tables.exec = Jvm.exec) (hb : c.code = cc) {cd : ClassFile.Cond} {x y : Int32} {off : Int} {tgt : Nat} {rest : List Value} (hd : decode cc pc = .ok (.if_icmp cd off, 3)) (ht : (pc : Int) + off = (tgt : Int))
    (kk : ∀ b, b = xprop cd x y → W p l e R s m args below meth c H locs cells slots Q (F0 m (bif b then tgt else pc + 3) ls rest)) : W p l e R s m args below meth c H locs cells slots Q (F0 m pc ls (.int y :: .int x :: rest)) := by
  cases cd with
  | eq => exact lv_icmp_eq hx hb hd ht (fun h => kk true (by simp [xprop, h])) (fun h => kk false (by simp [xprop, h]))
  | ne => exact lv_icmp_ne hx hb hd ht (fun h => kk true (by simp [xprop, h])) (fun h => kk false (by simp [xprop, h]))
  | lt => exact lv_icmp_lt hx hb hd ht (fun h => kk true (decide_eq_true h).symm) (fun h => kk false (decide_eq_false h).symm)
  | ge => exact lv_icmp_ge hx hb hd ht (fun h => kk true (decide_eq_true h).symm) (fun h => kk false (decide_eq_false h).symm)
  | gt => exact lv_icmp_gt hx hb hd ht (fun h => kk true (decide_eq_true h).symm) (fun h => kk false (decide_eq_false h).symm)
  | le => exact lv_icmp_le hx hb hd ht (fun h => kk true (decide_eq_true h).symm) (fun h => kk false (decide_eq_false h).symm)
theorem xw_if (hx : p.tables.exec = Jvm.exec) (hb : c.code = cc) {cd : ClassFile.Cond} {x : Int32} {off : Int} {tgt : Nat} {rest : List Value} (hd : decode cc pc = .ok (.ifCond cd off, 3)) (ht : (pc : Int) + off = (tgt : Int))
    (kk : ∀ b, b = xprop cd x 0 → W p l e R s m args below meth c H locs cells slots Q (F0 m (bif b then tgt else pc + 3) ls rest)) : W p l e R s m args below meth c H locs cells slots Q (F0 m pc ls (.int x :: rest)) := by
  cases cd with
  | eq => exact lv_if_eq hx hb hd ht (fun h => kk true (by simp [xprop, h])) (fun h => kk false (by simp [xprop, h]))
  | ne => exact lv_if_ne hx hb hd ht (fun h => kk true (by simp [xprop, h])) (fun h => kk false (by simp [xprop, h]))
  | lt => exact lv_if_lt hx hb hd ht (fun h => kk true (decide_eq_true h).symm) (fun h => kk false (decide_eq_false h).symm)
  | ge => exact lv_if_ge hx hb hd ht (fun h => kk true (decide_eq_true h).symm) (fun h => kk false (decide_eq_false h).symm)
  | gt => exact lv_if_gt hx hb hd ht (fun h => kk true (decide_eq_true h).symm) (fun h => kk false (decide_eq_false h).symm)
  | le => exact lv_if_le hx hb hd ht (fun h => kk true (decide_eq_true h).symm) (fun h => kk false (decide_eq_false h).symm)
theorem xsw_ok {dflt low high : Int} {offs : Array Int} {r : List Value} {pv : Int → XP} : ∀ (n : Nat) (lo : Int) (z : List (Nat × List Value × XP)), xsw pc dflt low high offs r pv lo n = some z → ∀ v : Int, lo ≤ v → v < lo + n → ∃ t, xsel pc dflt low high offs v = some t ∧ (t, r, pv v) ∈ z
  | 0, lo, z, _, v, h1, h2 => by omega
  | n + 1, lo, z, h, v, h1, h2 => by
    unfold xsw at h
    split at h
    · rename_i t l0 e1 e2
      obtain rfl := Option.some.inj h
      by_cases hv : v = lo
      · subst hv
        exact ⟨t, e1, List.mem_cons_self⟩
      · obtain ⟨t2, h3, h4⟩ := xsw_ok n (lo + 1) l0 e2 v (by omega) (by omega)
        exact ⟨t2, h3, List.mem_cons_of_mem _ h4⟩
    · cases h
theorem xw_switch (hx : p.tables.exec = Jvm.exec) (hb : c.code = cc) {dflt low high : Int} {offs : Array Int} {n : Nat} {x : Int32} {t : Nat} {rest : List Value} (hd : decode cc pc = .ok (.tableswitch dflt low high offs, n)) (h : xsel pc dflt low high offs x.toInt = some t)
    (kk : W p l e R s m args below meth c H locs cells slots Q (F0 m t ls rest)) : W p l e R s m args below meth c H locs cells slots Q (F0 m pc ls (.int x :: rest)) := by
  unfold xsel at h
  cases h1 : (decide (x.toInt < low) || decide (high < x.toInt)) with
  | true =>
    rw [h1] at h
    simp only [Bool.or_eq_true, decide_eq_true_eq] at h1
    exact lv_tableOut hx hb hd h1 (xtgt_ok h) kk
  | false =>
    rw [h1] at h
    simp only [Bool.or_eq_false_iff, decide_eq_false_iff_not] at h1
    simp only [cond_false] at h
    split at h
    · rename_i off ho
      rw [xnth_eq] at ho
      exact lv_tableIn hx hb hd h1.1 h1.2 (by rw [← Array.getElem?_toList]; exact ho) (xtgt_ok h) kk
    · cases h
theorem xnul_ev {v : Value} {t : Bool} (h : xnul v = some t) : (t = true ∧ ev ad xs bS v = .null) ∨ (t = false ∧ ∃ a, ev ad xs bS v = .ref a) := by
  unfold xnul at h
  split at h <;> first | (cases h; exact Or.inl ⟨rfl, rfl⟩) | (cases h; exact Or.inr ⟨rfl, _, rfl⟩) | cases h
theorem xsame_ev {v w : Value} {t : Bool} (h : xsame v w = some t) : ∃ rx ry, ev ad xs bS v = va_rf rx ∧ ev ad xs bS w = va_rf ry ∧ (t = true ↔ rx = ry) := by
  unfold xsame at h
  split at h
  · cases h; exact ⟨none, none, rfl, rfl, by simp⟩
  · cases h; exact ⟨some _, none, rfl, rfl, by simp⟩
  · cases h; exact ⟨none, some _, rfl, rfl, by simp⟩
  · rename_i a b
    cases hb : Nat.beq a b with
    | true =>
      rw [hb] at h
      cases h
      have := Nat.eq_of_beq_eq_true hb
      subst this
      exact ⟨some (ad a), some (ad a), rfl, rfl, by simp⟩
    | false => rw [hb] at h; cases h
  · cases h
theorem xb1_ok {b : Bool} {pe : XP} {o : Option Bool} {z : List (Bool × XP)} (h : xb1 b pe o = some z) : ∃ t, o = some t ∧ z = [(t == b, pe)] := by
  unfold xb1 at h
  split at h
  · exact ⟨_, rfl, (Option.some.inj h).symm⟩
  · cases h
theorem xbranch_ok (hx : p.tables.exec = Jvm.exec) (hb : c.code = cc) {i : Instr} {st : List Value} {pe : XP} {z : List (Nat × List Value × XP)} (h : xbranch pc i st pe = some z) (hs : xsat xs pe) (hd : decode cc pc = .ok (i, xil pc i))
    (kk : ∀ q ∈ z, xsat xs q.2.2 → W p l e R s m args below meth c H locs cells slots Q (F0 m q.1 ls (evS (ev ad xs bS) q.2.1))) : W p l e R s m args below meth c H locs cells slots Q (F0 m pc ls (evS (ev ad xs bS) st)) := by
  unfold xbranch at h
  split at h
  · split at h
    · rename_i off t ht
      obtain rfl := Option.some.inj h
      exact lv_goto hx hb hd (xtgt_ok ht) (kk _ List.mem_cons_self hs)
    · cases h
  · split at h
    · rename_i cd off st9 b a r
      obtain ⟨t, l0, h1, h2, h3⟩ := xjump_ok h
      obtain ⟨x, y, pe', h4, h5, h6, h7⟩ := xbrs_ok (ad := ad) (bS := bS) h2 hs
      show W p l e R s m args below meth c H locs cells slots Q (F0 m pc ls (ev ad xs bS b :: ev ad xs bS a :: evS (ev ad xs bS) r))
      rw [h4, h5]
      exact xw_icmp hx hb hd h1 (fun bb hbb => by rw [hbb]; exact kk _ (h3 _ _ h6) h7)
    · cases h
  · split at h
    · rename_i cd off a r
      obtain ⟨t, l0, h1, h2, h3⟩ := xjump_ok h
      obtain ⟨x, y, pe', h4, h5, h6, h7⟩ := xbrs_ok (ad := ad) (bS := bS) h2 hs
      cases h5
      show W p l e R s m args below meth c H locs cells slots Q (F0 m pc ls (ev ad xs bS a :: evS (ev ad xs bS) r))
      rw [h4]
      exact xw_if hx hb hd h1 (fun bb hbb => by rw [hbb]; exact kk _ (h3 _ _ h6) h7)
    · cases h
  · split at h
    · rename_i off a r
      obtain ⟨t, l0, h1, h2, h3⟩ := xjump_ok h
      obtain ⟨t2, h4, rfl⟩ := xb1_ok h2
      show W p l e R s m args below meth c H locs cells slots Q (F0 m pc ls (ev ad xs bS a :: evS (ev ad xs bS) r))
      rcases xnul_ev (ad := ad) (xs := xs) (bS := bS) h4 with ⟨rfl, h5⟩ | ⟨rfl, a9, h5⟩
      · rw [h5]
        exact lv_ifnullN hx hb hd h1 (kk _ (h3 _ _ List.mem_cons_self) hs)
      · rw [h5]
        exact lv_ifnull hx hb hd (kk _ (h3 _ _ List.mem_cons_self) hs)
    · cases h
  · split at h
    · rename_i off a r
      obtain ⟨t, l0, h1, h2, h3⟩ := xjump_ok h
      obtain ⟨t2, h4, rfl⟩ := xb1_ok h2
      show W p l e R s m args below meth c H locs cells slots Q (F0 m pc ls (ev ad xs bS a :: evS (ev ad xs bS) r))
      rcases xnul_ev (ad := ad) (xs := xs) (bS := bS) h4 with ⟨rfl, h5⟩ | ⟨rfl, a9, h5⟩
      · rw [h5]
        exact lv_ifnonnullN hx hb hd (kk _ (h3 _ _ List.mem_cons_self) hs)
      · rw [h5]
        exact lv_ifnonnull hx hb hd h1 (kk _ (h3 _ _ List.mem_cons_self) hs)
    · cases h
  · split at h
    · rename_i cd off st9 b a r
      obtain ⟨t, l0, h1, h2, h3⟩ := xjump_ok h
      obtain ⟨t2, h4, rfl⟩ := xb1_ok h2
      obtain ⟨rx, ry, h5, h6, h7⟩ := xsame_ev (ad := ad) (xs := xs) (bS := bS) h4
      show W p l e R s m args below meth c H locs cells slots Q (F0 m pc ls (ev ad xs bS b :: ev ad xs bS a :: evS (ev ad xs bS) r))
      rw [h5, h6]
      have hk := kk _ (h3 _ _ List.mem_cons_self) hs
      cases cd with
      | eq =>
        refine lv_acmp_eq hx hb hd h1 (fun z => ?_) (fun z => ?_)
        · rw [h7.mpr z] at hk; exact hk
        · have : t2 = false := by
            cases t2 with
            | true => exact absurd (h7.mp rfl) z
            | false => rfl
          rw [this] at hk; exact hk
      | ne =>
        refine lv_acmp_ne hx hb hd h1 (fun z => ?_) (fun z => ?_)
        · have : t2 = false := by
            cases t2 with
            | true => exact absurd (h7.mp rfl) z
            | false => rfl
          rw [this] at hk; exact hk
        · rw [h7.mpr z] at hk; exact hk
    · cases h
  · rename_i dflt low high offs
    split at h
    · rename_i x r
      obtain ⟨t, h1, h2⟩ := xsw_ok 1 _ _ h x.toInt (Int.le_refl _) (by omega)
      exact xw_switch hx hb hd h1 (kk _ h2 hs)
    · rename_i u r
      split at h
      · rename_i q hq
        rw [xnth_eq] at hq
        obtain ⟨g1, g2⟩ := hs _ _ hq
        obtain ⟨t, h1, h2⟩ := xsw_ok _ _ _ h (xs u.toNat).toInt g1 (by omega)
        exact xw_switch (x := xs u.toNat) hx hb hd h1 (kk _ h2 (xsat_set hs (Int.le_refl _) (Int.le_refl _)))
      · cases h
    · cases h
  · cases h
end XB
end
section
/-! what holds of the tables all along; a call's words -/
section XW
def xTs : List Jvm.Cond := lw_tbl.filter goodWord
theorem xTs_in {w : Jvm.Cond} {i : Nat} (h : lw_tbl[i]? = some w) (hg : goodWord w = true) : w ∈ xTs := List.mem_filter.mpr ⟨List.mem_of_getElem? h, hg⟩
theorem xTs_good {ws : List Jvm.Cond} (h : ∀ w ∈ ws, w ∈ xTs) : GoodIn xTs ws := fun w hw => ⟨h w hw, good_of_word (List.mem_filter.mp (h w hw)).2⟩
def exN : Nat → String
  | 0 => "java/lang/IndexOutOfBoundsException"
  | 1 => "java/lang/IllegalArgumentException"
  | _ => "java/lang/IllegalStateException"
/-- words that don't keep by themselves -/
def xngk : Jvm.Cond → Bool
  | .castable _ _ => true
  | .declares _ => true
  | .methodLinkNest _ _ _ _ => true
  | _ => false
def xNg : List Jvm.Cond := lw_tbl.filter xngk
theorem xNg_in {w : Jvm.Cond} {i : Nat} (h : lw_tbl[i]? = some w) (hg : xngk w = true) : w ∈ xNg := List.mem_filter.mpr ⟨List.mem_of_getElem? h, hg⟩
theorem xng_tab {w : Jvm.Cond} (h : xngk w = true) : w.onTables = true := by
  cases w <;> first | rfl | (simp [xngk] at h)
theorem xng_warm {w : Jvm.Cond} (h : xngk w = true) {s U : State} (hW : s.WarmedH U.vm) (hZ : va_Nw w s) : va_Nw w U := by
  cases w <;> first | exact va_Nw.warmC hW hZ | exact va_Nw.warmD hW hZ | exact va_Nw.warmM hW hZ | (simp [xngk] at h)
/-- the texts of the thrown exceptions, by their places in PackWright's pool -/
def xStr : List (Nat × String) := lw_tbl.filterMap fun w => match w with
  | .stringRef "PackWright" k t => some (k, t)
  | _ => none
def xSta (D : va_G) (aC : Nat → ClassId) (A : Nat → Prop) (U : State) : Prop :=
  va_K D classes (xtys aC) U ∧ (∀ w ∈ xNg, va_Nw w U) ∧ (∀ ti C, ti ≤ 5 → xty ti = .object C → va_AO C U) ∧ (∀ ty, (ty = FieldType.array .int ∨ ty = .array .boolean ∨ ty = .array (.array .int)) → (Jvm.Cond.arrayOver ty).before #[] U = true) ∧
  (∀ q ∈ xStr, ∃ a, vk_R "PackWright" q.1 q.2 a U) ∧ vx_Zq Bundle.tN "UNASSIGNED_STACK" Bundle.steD A U U.heap ∧ vx_Zq Bundle.tN "SUPPRESSED_SENTINEL" Bundle.listD A U U.heap ∧ (∀ i j, i ≤ 2 → j ≤ 2 → i ≠ j → va_Nc (exN i) (exN j) U)
theorem xSta_move {D : va_G} {aC : Nat → ClassId} {A : Nat → Prop} {s U : State} (hW : s.WarmedH U.vm) (hq : ∀ a : Nat, a < s.heap.size → ¬ A a → U.heap[a]? = s.heap[a]?) (h : xSta D aC A s) : xSta D aC A U := by
  obtain ⟨h1, h2, h3, h4, h5, h6, h7, h8⟩ := h
  refine ⟨va_K.moved hW.alike h1, fun w hw => xng_warm (List.mem_filter.mp hw).2 hW (h2 w hw), fun ti C a b => va_AO.moved hW.alike (h3 ti C a b), fun ty hty => ?_, fun q hq9 => ?_, (h6.moved hW.alike).kept hq, (h7.moved hW.alike).kept hq, fun i j a b n => (h8 i j a b n).moved hW.alike⟩
  · have h9 := h4 ty hty
    rcases hty with rfl | rfl | rfl
    · exact arrayOver_alikeB hW.alike h9
    · exact arrayOver_alikeB hW.alike h9
    · exact arrayOver_alikeB hW.alike h9
  · obtain ⟨a, ha⟩ := h5 q hq9
    exact ⟨a, vk_R.warm hW ha⟩
theorem xSta_calling {D : va_G} {aC : Nat → ClassId} {A : Nat → Prop} {U : State} {g : JFrame} {mk : MethodId} {a : Array Value} (h : xSta D aC A U) : xSta D aC A (U.calling g mk a) :=
  xSta_move (U := U.calling g mk a) (State.WarmedH.refl U) (fun _ _ _ => rfl) h
def xmY (M : XM) : MethodName := M.1
def xmB (M : XM) : ByteArray := M.2.1
def xmV (M : XM) : Option FieldType := M.2.2.2.1
/-- a method's own word -/
def xmW (M : XM) : Jvm.Cond := match xmT M with
  | [] => .code (xmY M) (xmB M) (xmN M) (xmV M)
  | q :: t => .codeWith (xmY M) (xmB M) (xmN M) (xmV M) (q :: t)
def xmWs (M : XM) : List Jvm.Cond := xmW M :: xTs
/-- a world with its numbers -/
def xWld (D : va_G) (aC : Nat → ClassId) (A : Nat → Prop) (ad : Nat → Nat) (xs : Nat → Int32) (bS : Nat) (h : XH) (H : Heap) : Prop := va_P D classes (evH (ev ad xs bS) ad aC h) H ∧ va_D A (evH (ev ad xs bS) ad aC h)
def xPre (D : va_G) (aC : Nat → ClassId) (A : Nat → Prop) (ad : Nat → Nat) (xs : Nat → Int32) (bS : Nat) (h : XH) (U : State) : Prop :=
  xSta D aC A U ∧ xWld D aC A ad xs bS h U.heap ∧ ∀ q, U.heap.size ≤ q → A q
def xQc (D : va_G) (aC : Nat → ClassId) (A : Nat → Prop) (ad : Nat → Nat) (xs : Nat → Int32) (bS n : Nat) (rs : List XR) : Array Value → State → Outcome → State → Prop := fun _ st o t =>
  (∃ r ∈ rs, r.1 = 0 ∧ ∃ ad' : Nat → Nat, (∀ j, j < n → ad' j = ad j) ∧ o = .returned (r.2.1.map (ev ad' xs bS)) ∧ xsat xs r.2.2.1 ∧ xWld D aC A ad' xs bS r.2.2.2.1 t.heap) ∧ va_F A st t
def xXc (D : va_G) (aC : Nat → ClassId) (A : Nat → Prop) (ad : Nat → Nat) (xs : Nat → Int32) (bS n : Nat) (rs : List XR) : String → State → State → Prop := fun E st t =>
  (∃ r ∈ rs, ∃ k, r.1 = k + 1 ∧ k ≤ 2 ∧ E = exN k ∧ ∃ ad' : Nat → Nat, (∀ j, j < n → ad' j = ad j) ∧ xsat xs r.2.2.1 ∧ xWld D aC A ad' xs bS r.2.2.2.1 t.heap) ∧ va_F A st t
/-- the contracts of the methods that are called -/
def xCfOk (l : Launch) (Ms : List XM) (D : va_G) (aC : Nat → ClassId) (A : Nat → Prop) (xs : Nat → Int32) (bS : Nat) (cf : XCf) : Prop :=
  ∀ (k : Nat) (as : List Value) (pe : XP) (h : XH) (n : Nat) (rs : List XR), cf k as pe h n = some rs → ∀ M, xnth Ms k = some M → xsat xs pe → ∀ ad : Nat → Nat,
    vx_Met l (xmY M) (xmWs M) (xmR M) (va_Pc (evS (ev ad xs bS) as) (xPre D aC A ad xs bS h)) (xQc D aC A ad xs bS n rs) (xXc D aC A ad xs bS n rs) (xmR M).cells (xmR M).slots A
/-- what holds inside a method -/
def xCtx (p : Program) (l : Launch) (s : State) (m : MethodId) (args : Array Value) (meth : Method) (c : Code) (M : XM) (D : va_G) (aC : Nat → ClassId) (A : Nat → Prop) (xs : Nat → Int32) (bS : Nat) (scr : Option Nat) : Prop :=
  p.tables.exec = Jvm.exec ∧ c.code = xmB M ∧ c.maxLocals = xmN M ∧ meth.sig.returnType = xmV M ∧ s.vm.findClass (xmY M).cls = some m.cls ∧ (∀ w ∈ xTs, w.before args s = true) ∧ meth.locks = false ∧ ((xmY M).name = "<init>" → meth.name = "<init>") ∧ (scr = none ∨ xmT M ≠ [] → c.exceptionTable.toList = tableOf (xmT M)) ∧
  xSta D aC A s ∧ (∀ q, s.heap.size ≤ q → A q) ∧ (∀ L, scr = some L → va_X bS L xs s s.heap ∧ bS < s.heap.size ∧ ¬ A bS) ∧ l.stackTraces = false ∧ (∀ i, i < 9 → xs (i + 9) = xs i &&& 63)
/-- a call's words: how it is made, by which place of the pool -/
def xvc (M Y : XM) (mode ci idx : Nat) : Prop :=
  ((xmY Y).cls ≠ "java/lang/invoke/MethodHandle" ∧ (xmY Y).cls ≠ "java/lang/invoke/VarHandle") ∧ Jvm.Cond.initialized (xmY Y).cls ∈ xTs ∧ xmW Y ∈ xTs ∧
  match mode with
  | 0 => xmT Y = [] ∧ (parseMethodDescriptor (xmY Y).desc).map (fun d => d.parameters.length) = some (xmA Y) ∧ Jvm.Cond.methodLink (xmY M).cls idx (xmY Y) ∈ xTs ∧ Jvm.Cond.static (xmY Y) ∈ xTs
  | 1 => xmT Y = [] ∧ (∃ n, xmA Y = n + 1 ∧ (parseMethodDescriptor (xmY Y).desc).map (fun d => d.parameters.length) = some n) ∧ Jvm.Cond.methodLink (xmY M).cls idx (xmY Y) ∈ xTs ∧ Jvm.Cond.instanceMethod (xmY Y) ∈ xTs ∧ Jvm.Cond.selects (xmY Y).cls (xmY Y) (xmY Y) ∈ xTs ∧ ∃ T N, classes[ci]? = some ((xmY Y).cls, T, N)
  | 2 => xmT Y = [] ∧ (∃ n, xmA Y = n + 1 ∧ (parseMethodDescriptor (xmY Y).desc).map (fun d => d.parameters.length) = some n) ∧ Jvm.Cond.methodLink (xmY M).cls idx (xmY Y) ∈ xTs ∧ Jvm.Cond.instanceMethod (xmY Y) ∈ xTs ∧ (xmY Y).name = "<init>" ∧ xmV Y = none
  | 3 => xmT Y = [] ∧ (∃ n, xmA Y = n + 1 ∧ (parseMethodDescriptor (xmY Y).desc).map (fun d => d.parameters.length) = some n) ∧ (∃ host, Jvm.Cond.methodLinkNest (xmY M).cls idx (xmY Y) host ∈ xNg) ∧ Jvm.Cond.instanceMethod (xmY Y) ∈ xTs ∧ (xmY Y).name = "<init>" ∧ xmV Y = none
  | 4 => xmT Y = [] ∧ (parseMethodDescriptor (xmY Y).desc).map (fun d => d.parameters.length) = some (xmA Y) ∧ (∃ host, Jvm.Cond.methodLinkNest (xmY M).cls idx (xmY Y) host ∈ xNg) ∧ Jvm.Cond.static (xmY Y) ∈ xTs
  | 6 => xmT Y ≠ [] ∧ (parseMethodDescriptor (xmY Y).desc).map (fun d => d.parameters.length) = some (xmA Y) ∧ Jvm.Cond.methodLink (xmY M).cls idx (xmY Y) ∈ xTs ∧ Jvm.Cond.static (xmY Y) ∈ xTs
  | _ => False
/-- the opcode of a call, by its kind -/
def xvi (mode idx : Nat) : Instr := match mode with
  | 0 => .invokestatic idx
  | 1 => .invokevirtual idx
  | 2 => .invokespecial idx
  | 3 => .invokespecial idx
  | _ => .invokestatic idx
section
variable {p : Program} {l : Launch} {e : Env} {s : State} {m : MethodId} {args : Array Value} {below : List Frame} {meth : Method} {c : Code} {H : Heap} {locs : List Loc} {cells slots : Nat} {Q : State → Prop}
variable {pc nL : Nat} {ls : Array Slot} {ad : Nat → Nat} {xs : Nat → Int32} {bS : Nat} {aC : Nat → ClassId} {D : va_G} {A : Nat → Prop} {scr : Option Nat} {M Y : XM} {h : XH}
theorem xcats_ev (ad : Nat → Nat) (xs : Nat → Int32) (bS : Nat) (st : List Value) : ((evS (ev ad xs bS) st).map fun v => v.category).sum = xcats st := by
  unfold evS xcats
  rw [List.map_map]
  exact congrArg List.sum (List.map_congr_left fun v _ => ev_cat ad xs bS v)
/-- the state of a call -/
theorem xpreS (C : xCtx p l s m args meth c M D aC A xs bS scr) (hw : xWld D aC A ad xs bS h H) (hS : va_S A s.heap H locs) (as : List Value) : PreS s H (va_Pc (evS (ev ad xs bS) as) (xPre D aC A ad xs bS h)) (evS (ev ad xs bS) as) := by
  obtain ⟨-, -, -, -, -, -, -, -, -, hSta, hA, -, -, -⟩ := C
  refine ⟨fun a U g mk q => ?_, fun U hU hW => ⟨rfl, ?_, ?_, ?_⟩⟩
  · obtain ⟨q1, q2, q3, q4⟩ := q
    exact ⟨q1, xSta_calling q2, q3, q4⟩
  · exact xSta_move hW (fun a h1 h2 => by rw [hU]; exact hS.2.1 a h1 h2) hSta
  · rw [hU]; exact hw
  · rw [hU]; exact fun q hq => hA q (Nat.le_trans hS.1 hq)
/-- behind a call -/
theorem xw_call {n mc ms : Nat} {rs : List XR} {av : Array Value} {rest st0 : List Value} (hr : vx_Run p l e (xmR M) s m args below meth c H locs cells slots mc ms (F0 m pc ls st0) rest (xQc D aC A ad xs bS n rs av) (xXc D aC A ad xs bS n rs) A) (hS : va_S A s.heap H locs)
    (kk : ∀ r ∈ rs, r.1 = 0 → ∀ (ad' : Nat → Nat) (H1 : Heap) (locs1 : List Loc), (∀ j, j < n → ad' j = ad j) → xsat xs r.2.2.1 → xWld D aC A ad' xs bS r.2.2.2.1 H1 → va_S A s.heap H1 locs1 → W p l e (xmR M) s m args below meth c H1 locs1 (cells + mc) (slots + ms) Q (F0 m (pc + 3) ls ((r.2.1.map (ev ad' xs bS)).toList ++ rest)))
    (kx : ∀ r ∈ rs, ∀ k, r.1 = k + 1 → k ≤ 2 → ∀ (ad' : Nat → Nat) (H1 : Heap) (locs1 : List Loc), (∀ j, j < n → ad' j = ad j) → xsat xs r.2.2.1 → xWld D aC A ad' xs bS r.2.2.2.1 H1 → va_S A s.heap H1 locs1 → ∀ (q : Addr) (ce : Cell), H1[q]? = some ce → ce.vm = .none → s.vm.findClass (exN k) = some ce.cls → vx_W p l e (xmR M) s m args below meth c H1 locs1 (cells + mc) (slots + ms) Q (F0 m pc ls rest) q) :
    W p l e (xmR M) s m args below meth c H locs cells slots Q (F0 m pc ls st0) := by
  intro T hT X
  rcases hr T hT X with ⟨v, st₀, t, T', L, h0, X', hL, e1, e2, ⟨⟨r, hr1, hr2, ad', h1, h2, h3, h4⟩, hF⟩, st⟩ | ⟨q, st₀, t, T', L, E, ce, h0, X', hL, e1, e2, ⟨⟨r, hr1, k, hr2, hk2, hE, ad', h1, h3, h4⟩, hF⟩, hce, hcv, hcl, st⟩
  · cases h2
    obtain ⟨k1, k2, k3⟩ := vx_keep h0 e1 hS (fun q _ h => h) (fun q h => h) hL hF
    obtain ⟨t2, a1, b1⟩ := kk r hr1 hr2 ad' T'.heap (locs ++ L) h1 h3 (by rw [e1]; exact h4) k3 T' rfl X'
    exact ⟨t2, st t2 a1, b1⟩
  · obtain ⟨k1, k2, k3⟩ := vx_keep h0 e1 hS (fun q _ h => h) (fun q h => h) hL hF
    subst hE
    obtain ⟨t2, a1, b1⟩ := kx r hr1 k hr2 hk2 ad' T'.heap (locs ++ L) h1 h3 (by rw [e1]; exact h4) k3 q ce (by rw [e1]; exact hce) hcv hcl T' rfl X'
    exact ⟨t2, st.trans a1, b1⟩
theorem xargs (E : Value → Value) (st : List Value) (n : Nat) : evS E st = (evS E (st.take n).reverse).reverse ++ evS E (st.drop n) := by
  unfold evS
  rw [← List.map_reverse, List.reverse_reverse, ← List.map_append, List.take_append_drop]
theorem xw_nil {Y : XM} (h : xmT Y = []) : xmWs Y = Jvm.Cond.code (xmY Y) (xmB Y) (xmN Y) (xmV Y) :: xTs := by
  unfold xmWs xmW
  rw [h]
theorem xmWs_good {Y : XM} (h : xmW Y ∈ xTs) : GoodIn xTs (xmWs Y) := xTs_good fun w hw => (List.mem_cons.mp hw).elim (fun e => by rw [e]; exact h) id
theorem xrecv1 {ci : Nat} {as : List Value} {h : XH} (h9 : xrecv 1 ci as h = true) : ∃ o t fs, as = .ref o :: t ∧ xhk h o = some (false, ci, fs) := by
  cases as with
  | nil => exact absurd h9 (by simp [xrecv])
  | cons v t =>
    cases v with
    | ref o =>
      have h9 : (match xhk h o with
        | some (false, cj, _) => Nat.beq ci cj
        | _ => false) = true := h9
      split at h9
      · rename_i cj fs hk
        have := Nat.eq_of_beq_eq_true h9
        subst this
        exact ⟨o, t, fs, rfl, hk⟩
      · cases h9
    | _ => exact absurd h9 (by simp [xrecv])
theorem xrecv2 {ci : Nat} {as : List Value} {h : XH} (h9 : xrecv 2 ci as h = true) : ∃ o t, as = .ref o :: t := by
  cases as with
  | nil => exact absurd h9 (by simp [xrecv])
  | cons v t =>
    cases v with
    | ref o => exact ⟨o, t, rfl⟩
    | _ => exact absurd h9 (by simp [xrecv])
/-- the callee's contract at a call -/
theorem xw_inv (C : xCtx p l s m args meth c M D aC A xs bS scr) {mode ci idx n : Nat} (hv : xvc M Y mode ci idx) (hd : decode (xmB M) pc = .ok (xvi mode idx, 3)) {st : List Value} {rs : List XR}
    (hM : vx_Met l (xmY Y) (xmWs Y) (xmR Y) (va_Pc (evS (ev ad xs bS) (st.take (xmA Y)).reverse) (xPre D aC A ad xs bS h)) (xQc D aC A ad xs bS n rs) (xXc D aC A ad xs bS n rs) (xmR Y).cells (xmR Y).slots A)
    (hlen : xmA Y ≤ st.length) (hcat : xcats (st.drop (xmA Y)) ≤ 8) (hR : (xmR Y).frames + 1 ≤ (xmR M).frames ∧ 8 + (xmN Y + 11) + (xmR Y).locals ≤ (xmR M).locals) (hf : cells + (xmR Y).cells ≤ (xmR M).cells ∧ slots + (xmR Y).slots ≤ (xmR M).slots)
    (hrc : xrecv (xmode mode) ci (st.take (xmA Y)).reverse h = true) (hw : xWld D aC A ad xs bS h H) (hS : va_S A s.heap H locs) (hls : ls.size = xmN M) :
    vx_Run p l e (xmR M) s m args below meth c H locs cells slots (xmR Y).cells (xmR Y).slots (F0 m pc ls (evS (ev ad xs bS) st)) (evS (ev ad xs bS) (st.drop (xmA Y))) (xQc D aC A ad xs bS n rs (evS (ev ad xs bS) (st.take (xmA Y)).reverse).toArray) (xXc D aC A ad xs bS n rs) A := by
  have hp := xpreS C hw hS (st.take (xmA Y)).reverse
  obtain ⟨hx, hb, hml, -, hown, hts, -, -, -, hSta, -, -, -, -⟩ := id C
  have hfix : CallFix p m c (xmB M) (xmN M) s args xTs (xmY M).cls := ⟨hx, hb, hml, hown, hts⟩
  have htl : (st.take (xmA Y)).length = xmA Y := by rw [List.length_take]; omega
  have hst := xargs (ev ad xs bS) st (xmA Y)
  have hal0 : (evS (ev ad xs bS) (st.take (xmA Y)).reverse).length = xmA Y := by rw [evS, List.length_map, List.length_reverse, htl]
  have hW : 2 * (F0 m pc ls (evS (ev ad xs bS) st)).monitorRoom + ((evS (ev ad xs bS) (st.drop (xmA Y))).map fun v => v.category).sum ≤ 8 := lv_room (by rw [xcats_ev]; exact hcat)
  obtain ⟨hmh, hini, hcode, hv⟩ := hv
  have hgood := xmWs_good hcode
  match mode, hv, hd, hrc with
  | 0, hv, hd, hrc =>
    obtain ⟨ht, hpar, hlink, hstat⟩ := hv
    exact vx_runS hfix hM (va_cwS (xmA Y) hts (xTs_good (by intro w hw2; simp only [va_wsS, List.mem_append, List.mem_cons, List.not_mem_nil, or_false] at hw2; rcases hw2 with (rfl | rfl | rfl) | hw2; exact hlink; exact hstat; exact hini; exact (hgood w hw2).1)) (xw_nil ht) rfl rfl ⟨hmh.1, hmh.2, hpar⟩ hR) hp rfl hal0 hls hst hW hd hf
  | 6, hv, hd, hrc =>
    obtain ⟨ht, hpar, hlink, hstat⟩ := hv
    obtain ⟨q, t, hqt⟩ : ∃ q t, xmT Y = q :: t := by
      cases hT9 : xmT Y with
      | nil => exact absurd hT9 ht
      | cons q t => exact ⟨q, t, rfl⟩
    have hw9 : xmWs Y = Jvm.Cond.codeWith (xmY Y) (xmB Y) (xmN Y) (xmV Y) (q :: t) :: xTs := by unfold xmWs xmW; rw [hqt]
    exact vx_runSX hfix hM (vx_cwSW (xmA Y) hts (xTs_good (by intro w hw2; simp only [va_wsS, List.mem_append, List.mem_cons, List.not_mem_nil, or_false] at hw2; rcases hw2 with (rfl | rfl | rfl) | hw2; exact hlink; exact hstat; exact hini; exact (hgood w hw2).1)) hw9 rfl rfl ⟨hmh.1, hmh.2, hpar⟩ hR) hp rfl hal0 hls hst hW hd hf
  | 4, hv, hd, hrc =>
    obtain ⟨ht, hpar, ⟨host, hlink⟩, hstat⟩ := hv
    exact vx_runSN (host := host) hfix hM ⟨va_cnB (xmA Y) hts hgood (xw_nil ht) rfl rfl (hSta.2.1 _ hlink) (hts _ hini) ⟨hmh.1, hmh.2, hpar⟩ hR, hts _ hstat, trivial⟩ hp rfl hal0 hls hst hW hd hf
  | 1, hv, hd, hrc =>
    obtain ⟨ht, ⟨n9, hn9, hpar⟩, hlink, hinst, hsel, T, N, hcl⟩ := hv
    obtain ⟨o, as0, fs, hargs, hk⟩ := xrecv1 hrc
    rw [hargs] at hM hp hst ⊢
    have hal : as0.length = n9 := by
      have := congrArg List.length hargs
      rw [List.length_reverse, htl, List.length_cons] at this
      omega
    obtain ⟨q0, hq0, -⟩ := xhk_get (E := ev ad xs bS) (ad := ad) (aC := aC) hk
    have hrecv := va_recv hSta.1 hw.1 hcl hq0
    have hst2 : evS (ev ad xs bS) st = (evS (ev ad xs bS) as0).reverse ++ .ref (ad o) :: evS (ev ad xs bS) (st.drop (xmA Y)) := by
      rw [hst]
      show (Value.ref (ad o) :: evS (ev ad xs bS) as0).reverse ++ _ = _
      rw [List.reverse_cons, List.append_assoc]; rfl
    exact vx_runV (C := (xmY Y).cls) (b := ad o) (As := evS (ev ad xs bS) as0) hfix hM (cwV n9 hts (xTs_good (by intro w hw2; simp only [wsV, List.mem_append, List.mem_cons, List.not_mem_nil, or_false] at hw2; rcases hw2 with (rfl | rfl | rfl | rfl) | hw2; exact hlink; exact hinst; exact hsel; exact hini; exact (hgood w hw2).1)) (xw_nil ht) rfl rfl ⟨rfl, hmh.1, hmh.2, hpar⟩ hR) ⟨hp.1, hrecv, hp.2⟩ rfl (by rw [evS, List.length_map, hal]) hls hst2 hW hd hf
  | 2, hv, hd, hrc =>
    obtain ⟨ht, ⟨n9, hn9, hpar⟩, hlink, hinst, hnm, hret⟩ := hv
    obtain ⟨o, as0, hargs⟩ := xrecv2 hrc
    rw [hargs] at hM hp hst ⊢
    have hal : as0.length = n9 := by
      have := congrArg List.length hargs
      rw [List.length_reverse, htl, List.length_cons] at this
      omega
    have hst2 : evS (ev ad xs bS) st = (evS (ev ad xs bS) as0).reverse ++ .ref (ad o) :: evS (ev ad xs bS) (st.drop (xmA Y)) := by
      rw [hst]
      show (Value.ref (ad o) :: evS (ev ad xs bS) as0).reverse ++ _ = _
      rw [List.reverse_cons, List.append_assoc]; rfl
    have hw9 := xw_nil ht
    rw [hret] at hw9
    exact vx_runI (b := ad o) (As := evS (ev ad xs bS) as0) hfix hM (cwI n9 hts hgood hw9 rfl rfl (hts _ hini) (hts _ hlink) (hts _ hinst) hnm ⟨hmh.1, hmh.2, hpar⟩ hR) hp rfl (by rw [evS, List.length_map, hal]) hls hst2 hW hd hf
  | 3, hv, hd, hrc =>
    obtain ⟨ht, ⟨n9, hn9, hpar⟩, ⟨host, hlink⟩, hinst, hnm, hret⟩ := hv
    obtain ⟨o, as0, hargs⟩ := xrecv2 hrc
    rw [hargs] at hM hp hst ⊢
    have hal : as0.length = n9 := by
      have := congrArg List.length hargs
      rw [List.length_reverse, htl, List.length_cons] at this
      omega
    have hst2 : evS (ev ad xs bS) st = (evS (ev ad xs bS) as0).reverse ++ .ref (ad o) :: evS (ev ad xs bS) (st.drop (xmA Y)) := by
      rw [hst]
      show (Value.ref (ad o) :: evS (ev ad xs bS) as0).reverse ++ _ = _
      rw [List.reverse_cons, List.append_assoc]; rfl
    have hw9 := xw_nil ht
    rw [hret] at hw9
    exact vx_runIN (host := host) (b := ad o) (As := evS (ev ad xs bS) as0) hfix hM ⟨va_cnB n9 hts hgood hw9 rfl rfl (hSta.2.1 _ hlink) (hts _ hini) ⟨hmh.1, hmh.2, hpar⟩ hR, hnm, hts _ hinst⟩ hp rfl (by rw [evS, List.length_map, hal]) hls hst2 hW hd hf
end
end XW
end
section
/-! runs hold of the machine -/
section XR
theorem xfind_spec {code : List XI} {pc : Nat} {e : XI} {t : List XI} : xfind code pc = e :: t → e.1 = pc ∧ ∀ x ∈ e :: t, x ∈ code := by
  induction code with
  | nil => intro h; cases h
  | cons a r ih =>
    intro h
    unfold xfind at h
    cases hb : Nat.beq a.1 pc with
    | true =>
      rw [hb] at h
      cases h
      exact ⟨Nat.eq_of_beq_eq_true hb, fun x hx => hx⟩
    | false =>
      rw [hb] at h
      obtain ⟨h1, h2⟩ := ih h
      exact ⟨h1, fun x hx => List.mem_cons_of_mem _ (h2 x hx)⟩
theorem xnext_spec {code t0 : List XI} {pc : Nat} {e : XI} {t : List XI} (ht : ∀ x ∈ t0, x ∈ code) (h : xnext code t0 pc = e :: t) : e.1 = pc ∧ ∀ x ∈ e :: t, x ∈ code := by
  unfold xnext at h
  split at h
  · exact xfind_spec h
  · rename_i a r
    cases hb : Nat.beq a.1 pc with
    | true =>
      rw [hb] at h
      cases h
      exact ⟨Nat.eq_of_beq_eq_true hb, ht⟩
    | false =>
      rw [hb] at h
      exact xfind_spec h
theorem xall_spec {α β : Type} {f : α → Option (List β)} : ∀ {l : List α} {r : List β}, xall f l = some r → ∀ a ∈ l, ∃ r', f a = some r' ∧ ∀ x ∈ r', x ∈ r
  | [], _, _, a, ha => by cases ha
  | b :: l, r, h, a, ha => by
    unfold xall at h
    split at h
    · cases h
    · rename_i r1 h1
      split at h
      · cases h
      · rename_i r2 h2
        obtain rfl := Option.some.inj h
        rcases List.mem_cons.mp ha with rfl | ha
        · exact ⟨r1, h1, fun x hx => List.mem_append_left _ hx⟩
        · obtain ⟨r', h3, h4⟩ := xall_spec h2 a ha
          exact ⟨r', h3, fun x hx => List.mem_append_right _ (h4 x hx)⟩
theorem xhand_spec {cls : Nat → Nat} {pc E hp : Nat} : ∀ {tab : List (Nat × Nat × Nat × Nat)}, xhand cls pc E tab = some hp → ∃ pre q suf, tab = pre ++ q :: suf ∧ q.2.2.1 = hp ∧ (q.1 ≤ pc ∧ pc < q.2.1) ∧ cls q.2.2.2 = E ∧ ∀ z ∈ pre, ¬ (z.1 ≤ pc ∧ pc < z.2.1) ∨ (cls z.2.2.2 ≠ E ∧ E ≤ 2)
  | [], h => nomatch h
  | q :: t, h => by
    unfold xhand at h
    cases h1 : (Nat.ble q.1 pc && Nat.ble (pc + 1) q.2.1) with
    | true =>
      rw [h1] at h
      rw [Bool.and_eq_true] at h1
      have g1 := Nat.le_of_ble_eq_true h1.1
      have g2 := Nat.le_of_ble_eq_true h1.2
      simp only [cond_true] at h
      cases h2 : Nat.beq (cls q.2.2.2) E with
      | true =>
        rw [h2] at h
        exact ⟨[], q, t, rfl, Option.some.inj h, ⟨g1, g2⟩, Nat.eq_of_beq_eq_true h2, fun z hz => nomatch hz⟩
      | false =>
        rw [h2] at h
        simp only [cond_false] at h
        cases h3 : (Nat.ble (cls q.2.2.2) 2 && Nat.ble E 2) with
        | false => rw [h3] at h; cases h
        | true =>
          rw [h3] at h
          rw [Bool.and_eq_true] at h3
          obtain ⟨pre, x, suf, e1, e2, e3, e4, e5⟩ := xhand_spec h
          refine ⟨q :: pre, x, suf, by rw [e1]; rfl, e2, e3, e4, fun z hz => ?_⟩
          rcases List.mem_cons.mp hz with rfl | hz
          · exact Or.inr ⟨(fun z9 => by rw [z9, Nat.beq_refl] at h2; exact absurd h2 (by decide)), Nat.le_of_ble_eq_true h3.2⟩
          · exact e5 z hz
    | false =>
      rw [h1] at h
      obtain ⟨pre, x, suf, e1, e2, e3, e4, e5⟩ := xhand_spec h
      refine ⟨q :: pre, x, suf, by rw [e1]; rfl, e2, e3, e4, fun z hz => ?_⟩
      rcases List.mem_cons.mp hz with rfl | hz
      · refine Or.inl fun ⟨a, b⟩ => ?_
        rw [Nat.ble_eq_true_of_le a, Nat.ble_eq_true_of_le (show pc + 1 ≤ z.2.1 from b)] at h1
        cases h1
      · exact e5 z hz
/-- what a row of a listing wants of the tables -/
def xvt (M : XM) (pc E : Nat) : Prop :=
  ∃ ik is ic tx, E ≤ 2 ∧ (xmY M).cls = "PackWright" ∧ (is, tx) ∈ xStr ∧ decode (xmB M) pc = .ok (.new ik, 3) ∧ decode (xmB M) (pc + 3) = .ok (.dup, 1) ∧
    ((decode (xmB M) (pc + 4) = .ok (.ldc is, 2) ∧ decode (xmB M) (pc + 6) = .ok (.invokespecial ic, 3) ∧ decode (xmB M) (pc + 9) = .ok (.athrow, 1)) ∨
     (decode (xmB M) (pc + 4) = .ok (.ldc_w is, 3) ∧ decode (xmB M) (pc + 7) = .ok (.invokespecial ic, 3) ∧ decode (xmB M) (pc + 10) = .ok (.athrow, 1))) ∧
    Jvm.Cond.classLink (xmY M).cls ik (exN E) ∈ xTs ∧ Jvm.Cond.initialized (exN E) ∈ xTs ∧ Jvm.Cond.methodLink (xmY M).cls ic (Bundle.initS (exN E)) ∈ xTs
def xVE (Ms : List XM) (M : XM) (e : XI) : Prop :=
  match e.2.2.1 with
  | 0 => decode (xmB M) e.1 = .ok (e.2.1, ilen e.2.1) ∧ ∀ k a t, e.2.1 = .ldc2_w k → e.2.2.2 = a :: t → Jvm.Cond.constantLong (xmY M).cls k (Int64.ofNat a) ∈ xTs
  | 1 => decode (xmB M) e.1 = .ok (e.2.1, ilen e.2.1) ∧ xvh xTs (xmY M).cls (decide ((xmY M).name = "<init>")) e.2.1 e.2.2.2
  | 2 => decode (xmB M) e.1 = .ok (e.2.1, xil e.1 e.2.1)
  | 3 => ∀ mode k ci t, e.2.2.2 = mode :: k :: ci :: t → ∃ idx, decode (xmB M) e.1 = .ok (xvi mode idx, 3) ∧ ∀ Y, xnth Ms k = some Y → xvc M Y mode ci idx
  | 4 => decode (xmB M) e.1 = .ok (e.2.1, ilen e.2.1)
  | 5 => ∀ E t, e.2.2.2 = E :: t → xvt M e.1 E
  | 6 => ∃ idx, decode (xmB M) e.1 = .ok (.invokespecial idx, 3) ∧ Jvm.Cond.methodLink (xmY M).cls idx Lib.objectInit ∈ xTs ∧ Jvm.Cond.instanceMethod Lib.objectInit ∈ xTs ∧ Jvm.Cond.code Lib.objectInit ⟨#[0xb1]⟩ 1 none ∈ xTs
  | 7 => ∃ idx, decode (xmB M) e.1 = .ok (.invokestatic idx, 3) ∧ Jvm.Cond.methodLink (xmY M).cls idx arraycopyName ∈ xTs ∧ Jvm.Cond.native arraycopyName ∈ xTs ∧ Jvm.Cond.static arraycopyName ∈ xTs ∧ Jvm.Cond.initialized "java/lang/System" ∈ xTs
  | _ => True
/-- what the tables say of all -/
def xGlob : Prop := (∀ (ci : Nat) (C : String) (T : u_T) (N : Nat), classes[ci]? = some (C, T, N) → ∀ w ∈ u_ws C T N, w ∈ xTs) ∧ ∀ E, E ≤ 2 → Jvm.Cond.castable (exN E) (exN E) ∈ xNg
def xTabOk (cls : Nat → Nat) (M : XM) : Prop := ∀ q ∈ xmT M, q.2.2.2 ≠ 0 ∧ cls q.2.2.2 ≤ 2 ∧ Jvm.Cond.classLink (xmY M).cls q.2.2.2 (exN (cls q.2.2.2)) ∈ xTs
section
variable {p : Program} {l : Launch} {en : Env} {s : State} {m : MethodId} {args : Array Value} {below : List Frame} {meth : Method} {c : Code} {Q : State → Prop}
variable {xs : Nat → Int32} {bS : Nat} {aC : Nat → ClassId} {D : va_G} {A : Nat → Prop} {scr : Option Nat} {M : XM} {Ms : List XM} {cls : Nat → Nat} {cf : XCf} {n0 : Nat} {ad0 : Nat → Nat}
/-- an end of a run is an end of the walk -/
def xleaf (p : Program) (l : Launch) (en : Env) (s : State) (m : MethodId) (args : Array Value) (below : List Frame) (meth : Method) (c : Code) (Q : State → Prop) (xs : Nat → Int32) (bS : Nat) (aC : Nat → ClassId) (D : va_G) (A : Nat → Prop) (M : XM) (n0 : Nat) (ad0 : Nat → Nat) (lf : XLf) : Prop :=
  ∀ (ad : Nat → Nat) (H : Heap) (locs : List Loc) (ls : Array Slot), lf.2.2.1 ∈ xmC M → (lf.1 = 0 → lf.2.2.1.2.2.1 = 4) → (lf.1 = 1 → lf.2.2.1.2.2.1 = 5 ∧ ∃ t, lf.2.2.1.2.2.2 = lf.2.1 :: t) → (∀ j, j < n0 → ad j = ad0 j) → xsat xs lf.2.2.2.2.2.1 → xWld D aC A ad xs bS lf.2.2.2.2.2.2.1 H → va_S A s.heap H locs → lv_has ls (xmN M) (evL (ev ad xs bS) lf.2.2.2.1) →
    (lf.1 ≠ 2 → W p l en (xmR M) s m args below meth c H locs lf.2.2.2.2.2.2.2.2.1 lf.2.2.2.2.2.2.2.2.2 Q (F0 m lf.2.2.1.1 ls (evS (ev ad xs bS) lf.2.2.2.2.1))) ∧
    (lf.1 = 2 → lf.2.1 ≤ 2 → ∀ (q : Addr) (ce : Cell), H[q]? = some ce → ce.vm = .none → s.vm.findClass (exN lf.2.1) = some ce.cls → vx_W p l en (xmR M) s m args below meth c H locs lf.2.2.2.2.2.2.2.2.1 lf.2.2.2.2.2.2.2.2.2 Q (F0 m lf.2.2.1.1 ls (evS (ev ad xs bS) lf.2.2.2.2.1)) q)
def xHI (p : Program) (l : Launch) (en : Env) (s : State) (m : MethodId) (args : Array Value) (below : List Frame) (meth : Method) (c : Code) (Q : State → Prop) (xs : Nat → Int32) (bS : Nat) (aC : Nat → ClassId) (D : va_G) (A : Nat → Prop) (M : XM) (n0 : Nat) (ad0 : Nat → Nat) (ih : XGo) : Prop :=
  ∀ (cur : List XI) (lv : XL) (st : List Value) (σ : XS) (leaves : List XLf), ih cur lv st σ = some leaves → (∀ x ∈ cur, x ∈ xmC M) → (∀ lf ∈ leaves, xleaf p l en s m args below meth c Q xs bS aC D A M n0 ad0 lf) → ∀ pc, (∀ e t, cur = e :: t → e.1 = pc) →
    ∀ (ad : Nat → Nat) (H : Heap) (locs : List Loc) (ls : Array Slot), (∀ j, j < n0 → ad j = ad0 j) → n0 ≤ σ.2.2.1 → xsat xs σ.1 → xWld D aC A ad xs bS σ.2.1 H → va_S A s.heap H locs → lv_has ls (xmN M) (evL (ev ad xs bS) lv) →
      W p l en (xmR M) s m args below meth c H locs σ.2.2.2.1 σ.2.2.2.2 Q (F0 m pc ls (evS (ev ad xs bS) st))
theorem xnext_in {t : List XI} {pc : Nat} (ht : ∀ x ∈ t, x ∈ xmC M) : (∀ x ∈ xnext (xmC M) t pc, x ∈ xmC M) ∧ ∀ e t', xnext (xmC M) t pc = e :: t' → e.1 = pc := by
  refine ⟨fun x hx => ?_, fun e t' h => (xnext_spec ht h).1⟩
  cases hc : xnext (xmC M) t pc with
  | nil => rw [hc] at hx; cases hx
  | cons e t' => rw [hc] at hx; exact (xnext_spec ht hc).2 x hx
theorem xfind_in {pc : Nat} : (∀ x ∈ xfind (xmC M) pc, x ∈ xmC M) ∧ ∀ e t', xfind (xmC M) pc = e :: t' → e.1 = pc := by
  refine ⟨fun x hx => ?_, fun e t' h => (xfind_spec h).1⟩
  cases hc : xfind (xmC M) pc with
  | nil => rw [hc] at hx; cases hx
  | cons e t' => rw [hc] at hx; exact (xfind_spec hc).2 x hx
theorem xcatch_ok (C : xCtx p l s m args meth c M D aC A xs bS scr) (hV : ∀ e ∈ xmC M, xVE Ms M e) {ih : XGo} (hih : xHI p l en s m args below meth c Q xs bS aC D A M n0 ad0 ih) {hp : Nat} {lv l' : XL} {cur : List XI} (h : xcatch (xmC M) (xmN M) hp lv = some (cur, l')) {σ : XS} {leaves : List XLf} (hr : ih cur l' [] σ = some leaves) (hlf : ∀ lf ∈ leaves, xleaf p l en s m args below meth c Q xs bS aC D A M n0 ad0 lf)
    {ad : Nat → Nat} {H : Heap} {locs : List Loc} {ls : Array Slot} (ha : ∀ j, j < n0 → ad j = ad0 j) (hn : n0 ≤ σ.2.2.1) (hs : xsat xs σ.1) (hw : xWld D aC A ad xs bS σ.2.1 H) (hS : va_S A s.heap H locs) (hl : lv_has ls (xmN M) (evL (ev ad xs bS) lv)) (q : Nat) :
    W p l en (xmR M) s m args below meth c H locs σ.2.2.2.1 σ.2.2.2.2 Q (F0 m hp ls [.ref q]) := by
  obtain ⟨hx, hb, -⟩ := id C
  have hsub : ∀ {ls' : Array Slot} {k : Nat}, lv_has ls' (xmN M) ((k, .ref q) :: (evL (ev ad xs bS) lv).filter (xf1 k)) → lv_has ls' (xmN M) (evL (ev ad xs bS) (lv.filter (xf1 k))) := by
    intro ls' k h9
    rw [← xf1_ev (ev_cat ad xs bS)]
    exact ⟨h9.1, h9.2.1, fun z hz => h9.2.2 z (List.mem_cons_of_mem _ hz)⟩
  unfold xcatch at h
  split at h
  · rename_i pc0 k aux t hf
    cases hk : Nat.ble (k + 1) (xmN M) with
    | false => rw [hk] at h; cases h
    | true =>
      rw [hk] at h
      obtain ⟨rfl, rfl⟩ := Prod.mk.inj (Option.some.inj h)
      obtain ⟨e1, e2⟩ := xfind_spec hf
      have e1 : pc0 = hp := e1
      subst e1
      have hv := (hV _ (e2 _ List.mem_cons_self)).1
      have hin := xnext_in (M := M) (t := t) (pc := pc0 + 2) (fun x hx => e2 x (List.mem_cons_of_mem _ hx))
      exact lv_astore hx hb hv hl (Nat.le_of_ble_eq_true hk) rfl (fun ls' hl' => hih _ _ _ _ _ hr hin.1 hlf _ hin.2 ad H locs ls' ha hn hs hw hS (hsub hl'))
  · rename_i pc0 k aux t hf
    cases hk : Nat.ble (k.val + 1) (xmN M) with
    | false => rw [hk] at h; cases h
    | true =>
      rw [hk] at h
      obtain ⟨rfl, rfl⟩ := Prod.mk.inj (Option.some.inj h)
      obtain ⟨e1, e2⟩ := xfind_spec hf
      have e1 : pc0 = hp := e1
      subst e1
      have hv := (hV _ (e2 _ List.mem_cons_self)).1
      have hin := xnext_in (M := M) (t := t) (pc := pc0 + 1) (fun x hx => e2 x (List.mem_cons_of_mem _ hx))
      exact lv_astore_n hx hb hv rfl hl (Nat.le_of_ble_eq_true hk) rfl (fun ls' hl' => hih _ _ _ _ _ hr hin.1 hlf _ hin.2 ad H locs ls' ha hn hs hw hS (hsub hl'))
  · cases h
theorem xcall_ok (C : xCtx p l s m args meth c M D aC A xs bS scr) (hcf : xCfOk l Ms D aC A xs bS cf) (hG : xGlob) (hT : xTabOk cls M) (hV : ∀ e ∈ xmC M, xVE Ms M e) {ih : XGo} (hih : xHI p l en s m args below meth c Q xs bS aC D A M n0 ad0 ih)
    {e : XI} {t : List XI} (he : e ∈ xmC M) (ht : ∀ x ∈ t, x ∈ xmC M) (hk3 : e.2.2.1 = 3) {lv : XL} {st : List Value} {σ : XS} {leaves : List XLf} (h : xcall Ms cls M cf ih e t lv st σ = some leaves) (hlf : ∀ lf ∈ leaves, xleaf p l en s m args below meth c Q xs bS aC D A M n0 ad0 lf)
    {ad : Nat → Nat} {H : Heap} {locs : List Loc} {ls : Array Slot} (ha : ∀ j, j < n0 → ad j = ad0 j) (hn : n0 ≤ σ.2.2.1) (hs : xsat xs σ.1) (hw : xWld D aC A ad xs bS σ.2.1 H) (hS : va_S A s.heap H locs) (hl : lv_has ls (xmN M) (evL (ev ad xs bS) lv)) :
    W p l en (xmR M) s m args below meth c H locs σ.2.2.2.1 σ.2.2.2.2 Q (F0 m e.1 ls (evS (ev ad xs bS) st)) := by
  obtain ⟨pe, hh, n, ce, sl⟩ := σ
  unfold xcall at h
  split at h
  · rename_i mode k ci tl pe' hh' n' ce' sl' haux hσ
    cases hσ
    split at h
    · cases h
    · rename_i Y hY
      generalize hchk : (Nat.ble (xmA Y) st.length && (Nat.ble (xcats (st.drop (xmA Y))) 8 && (Nat.ble ((xmR Y).frames + 1) (xmR M).frames && (Nat.ble (8 + (xmN Y + 11) + (xmR Y).locals) (xmR M).locals && (Nat.ble (ce + (xmR Y).cells) (xmR M).cells && (Nat.ble (sl + (xmR Y).slots) (xmR M).slots && (xoL n lv && (xoS n (st.drop (xmA Y)) && xrecv (xmode mode) ci (st.take (xmA Y)).reverse hh)))))))) = b at h
      cases b with
      | false => cases h
      | true =>
        simp only [Bool.and_eq_true] at hchk
        obtain ⟨c1, c2, c3, c4, c5, c6, c7, c8, c9⟩ := hchk
        simp only [cond_true] at h
        split at h
        · rename_i rs hrs
          have hve := hV e he
          unfold xVE at hve
          rw [hk3] at hve
          obtain ⟨idx, hd, hvY⟩ := hve mode k ci tl haux
          have hrun := xw_inv (e := en) (below := below) (Y := Y) (cells := ce) (slots := sl) C (hvY Y hY) hd (hcf k _ pe hh n rs hrs Y hY hs ad) (Nat.le_of_ble_eq_true c1) (Nat.le_of_ble_eq_true c2) ⟨Nat.le_of_ble_eq_true c3, Nat.le_of_ble_eq_true c4⟩ ⟨Nat.le_of_ble_eq_true c5, Nat.le_of_ble_eq_true c6⟩ c9 hw hS hl.1
          refine xw_call hrun hS (fun r hr h0 ad' H1 locs1 g1 g2 g3 g4 => ?_) (fun r hr k9 h0 hk2 ad' H1 locs1 g1 g2 g3 g4 q cell q1 q2 q3 => ?_)
          · obtain ⟨r', h5, h6⟩ := xall_spec h r hr
            obtain ⟨r0, v, pe2, hh2, n2⟩ := r
            have h0 : r0 = 0 := h0
            subst h0
            unfold xback at h5
            dsimp only at h5
            cases hnn : Nat.ble n n2 with
            | false => rw [hnn] at h5; cases h5
            | true =>
              rw [hnn] at h5
              have hle := Nat.le_of_ble_eq_true hnn
              have hin := xnext_in (M := M) (t := t) (pc := e.1 + 3) ht
              have := hih _ _ _ _ _ h5 hin.1 (fun lf hlf9 => hlf lf (h6 lf hlf9)) _ hin.2 ad' H1 locs1 ls (fun j hj => (g1 j (Nat.lt_of_lt_of_le hj hn)).trans (ha j hj)) (Nat.le_trans hn hle) g2 g3 g4 (by rw [xoL_ev g1 c7]; exact hl)
              have e9 : evS (ev ad' xs bS) (v.toList ++ st.drop (xmA Y)) = (v.map (ev ad' xs bS)).toList ++ evS (ev ad xs bS) (st.drop (xmA Y)) := by
                rw [← xoS_ev (xs := xs) (bS := bS) g1 c8]
                unfold evS
                rw [List.map_append]
                cases v <;> rfl
              rw [e9] at this
              exact this
          · obtain ⟨r', h5, h6⟩ := xall_spec h r hr
            obtain ⟨r0, v, pe2, hh2, n2⟩ := r
            have h0 : r0 = k9 + 1 := h0
            subst h0
            unfold xback at h5
            dsimp only at h5
            cases hnn : Nat.ble n n2 with
            | false => rw [hnn] at h5; cases h5
            | true =>
              rw [hnn] at h5
              simp only [cond_true] at h5
              have hle := Nat.le_of_ble_eq_true hnn
              have hag : ∀ j, j < n0 → ad' j = ad0 j := fun j hj => (g1 j (Nat.lt_of_lt_of_le hj hn)).trans (ha j hj)
              have hl9 : lv_has ls (xmN M) (evL (ev ad' xs bS) lv) := by rw [xoL_ev g1 c7]; exact hl
              rw [← xoS_ev (xs := xs) (bS := bS) g1 c8]
              split at h5
              · obtain rfl := Option.some.inj h5
                have hx9 := hlf _ (h6 _ List.mem_cons_self) ad' H1 locs1 ls he (fun z => by cases z) (fun z => by cases z) hag g2 g3 g4 hl9
                exact hx9.2 rfl hk2 q cell q1 q2 q3
              · split at h5
                · rename_i hp hhp
                  split at h5
                  · rename_i c' l' hc'
                    obtain ⟨-, -, -, -, hown, hts, -, -, htab, hSta, -⟩ := id C
                    obtain ⟨pre, qq, suf, f1, f2, f3, f4, f5⟩ := xhand_spec hhp
                    have hqin : qq ∈ xmT M := by rw [f1]; exact List.mem_append_right _ List.mem_cons_self
                    obtain ⟨t1, t2, t3⟩ := hT qq hqin
                    rw [f4] at t3
                    have hsp : c.exceptionTable.toList = (tableOf pre) ++ (⟨qq.1, qq.2.1, qq.2.2.1, qq.2.2.2⟩ : ExceptionTableEntry) :: tableOf suf := by
                      rw [htab (Or.inr (fun z9 => by rw [z9] at hqin; cases hqin)), f1]; unfold tableOf; rw [List.map_append]; rfl
                    refine vx_catch (own := (xmY M).cls) (name := exN k9) hown (tableOf pre) _ (tableOf suf) hsp (fun z hz => ?_) ?_ t1 (hts _ t3) (va_Nw.use rfl (hSta.2.1 _ (hG.2 k9 hk2))) q1 q2 q3 ?_
                    · unfold tableOf at hz
                      obtain ⟨z0, hz0, rfl⟩ := List.mem_map.mp hz
                      have hz9 : z0 ∈ xmT M := by rw [f1]; exact List.mem_append_left _ hz0
                      obtain ⟨u1, u2, u3⟩ := hT z0 hz9
                      rcases f5 z0 hz0 with f6 | ⟨f6, f7⟩
                      · refine Or.inl ?_
                        cases hcv : covers (⟨z0.1, z0.2.1, z0.2.2.1, z0.2.2.2⟩ : ExceptionTableEntry) e.1 with
                        | false => rfl
                        | true =>
                          refine absurd ?_ f6
                          simpa [covers] using hcv
                      · exact Or.inr ⟨u1, _, hts _ u3, hSta.2.2.2.2.2.2.2 _ _ hk2 u2 (fun z9 => f6 z9.symm)⟩
                    · simp [covers, f3]
                    · have := xcatch_ok (en := en) C hV hih (hp := hp) hc' h5 (fun lf hlf9 => hlf lf (h6 lf hlf9)) (ad := ad') (ls := ls) hag (Nat.le_trans hn hle) g2 g3 g4 hl9 q
                      show W p l en (xmR M) s m args below meth c H1 locs1 _ _ Q (F0 m qq.2.2.1 ls [.ref q])
                      rw [f2]
                      exact this
                  · cases h5
                · cases h5
        · cases h
  · cases h
end
end XR
end
section
section XQ
theorem xald_pe {ok : Value → Bool} {oti : Nat → Bool} {st : List Value} {σ : XS} {q : List Value × XS} (h : xald ok oti st σ = some q) : q.2.1 = σ.1 := by
  obtain ⟨_, _, _, _, _, _, _, _, _, _, _, _, _, rfl⟩ := xald_spec h; rfl
theorem xast_pe {ok : Value → Bool} {oti : Nat → Bool} {st : List Value} {σ : XS} {q : List Value × XS} (h : xast ok oti st σ = some q) : q.2.1 = σ.1 := by
  obtain ⟨_, _, _, _, _, _, _, _, _, _, _, _, rfl⟩ := xast_spec h; rfl
theorem xbif {α : Type} {b : Bool} {x y : Option α} {q : α} (h : (bif b then x else y) = some q) : x = some q ∨ y = some q := by
  cases b with
  | true => exact Or.inl h
  | false => exact Or.inr h
theorem xnone {α : Type} {q : α} {P : Prop} (h : (none : Option α) = some q) : P := nomatch h
theorem xnew_pe {R : Room} {lv : XL} {r : List Value} {σ : XS} {c : XCl} {ns : Nat} {q : List Value × XS} (h : xnew R lv r σ c ns = some q) : q.2.1 = σ.1 := by
  obtain ⟨pe, hh, n, ce, sl⟩ := σ
  unfold xnew at h
  dsimp only at h
  rcases xbif h with h | h
  · obtain rfl := Option.some.inj h; rfl
  · cases h
theorem xkeep_pe {R : Room} {lv : XL} {r : List Value} {σ : XS} {nc ns : Nat} {q : List Value × XS} (h : xkeep R lv r σ nc ns = some q) : q.2.1 = σ.1 := by
  obtain ⟨pe, hh, n, ce, sl⟩ := σ
  unfold xkeep at h
  dsimp only at h
  rcases xbif h with h | h
  · obtain rfl := Option.some.inj h; rfl
  · cases h
/-- an instruction that touches cells learns nothing of the unknown ints -/
theorem xheap_pe {scr : Option Nat} {R : Room} {i : Instr} {aux : List Nat} {lv : XL} {st st' : List Value} {σ σ' : XS} (h : xheap scr R i aux lv st σ = some (st', σ')) : σ'.1 = σ.1 := by
  suffices hh : ∀ q, xheap scr R i aux lv st σ = some q → q.2.1 = σ.1 from hh _ h
  clear h
  intro q h
  unfold xheap at h
  split at h
  · unfold xget at h
    split at h
    · split at h
      · rcases xbif h with h | h
        · split at h
          · obtain rfl := Option.some.inj h; rfl
          · cases h
        · cases h
      · cases h
    · cases h
  · unfold xput at h
    split at h
    · split at h
      · rcases xbif h with h | h
        · obtain rfl := Option.some.inj h; rfl
        · cases h
      · cases h
    · cases h
  · unfold xnewo at h
    split at h
    · exact xnew_pe h
    · cases h
  · unfold xnewa at h
    split at h
    · rcases xbif h with h | h
      · cases h
      · rcases xbif h with h | h
        · exact xnew_pe h
        · cases h
    · cases h
  · unfold xnewa at h
    split at h
    · rcases xbif h with h | h
      · cases h
      · rcases xbif h with h | h
        · exact xnew_pe h
        · cases h
    · cases h
  · rcases xbif h with h | h
    · unfold xnewm2 at h
      split at h
      · rcases xbif h with h | h
        · cases h
        · rcases xbif h with h | h
          · exact xkeep_pe h
          · cases h
      · cases h
    · rcases xbif h with h | h
      · unfold xnewm3 at h
        split at h
        · rcases xbif h with h | h
          · cases h
          · rcases xbif h with h | h
            · exact xkeep_pe h
            · cases h
        · cases h
      · cases h
  · unfold xlen at h
    split at h
    · split at h
      · rcases xbif h with h | h
        · obtain rfl := Option.some.inj h; rfl
        · cases h
      · cases h
    · split at h
      · obtain rfl := Option.some.inj h; rfl
      · cases h
    · cases h
  · unfold xild at h
    split at h
    · split at h
      · split at h
        · rcases xbif h with h | h
          · obtain rfl := Option.some.inj h; rfl
          · cases h
        · cases h
      · cases h
    · exact xald_pe h
  · exact xald_pe h
  · exact xald_pe h
  · exact xast_pe h
  · exact xast_pe h
  · unfold xasa at h
    split at h
    · exact xast_pe h
    · split at h
      · split at h
        · rcases xbif h with h | h
          · exact xast_pe h
          · cases h
        · cases h
      · cases h
    · cases h
  · cases h
def xThr (X : String) : List Jvm.Cond := (Bundle.throwableAtoms ++ Bundle.throwableSAtoms ++ Bundle.chainSAtoms X ["java/lang/RuntimeException", "java/lang/Exception"] ++
  ([.instantiable X 6, .castable X X, .selects X Bundle.tFill0 Bundle.tFill0, .selects X Bundle.tFill Bundle.tFill,
   .lays X Bundle.tN "cause" "Ljava/lang/Throwable;", .lays X Bundle.tN "stackTrace" Bundle.steD, .lays X Bundle.tN "suppressedExceptions" Bundle.listD, .lays X Bundle.tN "detailMessage" "Ljava/lang/String;",
   .isRef (.static Bundle.tN "UNASSIGNED_STACK" Bundle.steD), .isRef (.static Bundle.tN "SUPPRESSED_SENTINEL" Bundle.listD),
   .fieldLink Bundle.tN 198 Bundle.tN "backtrace" "Ljava/lang/Object;", .lays Bundle.tN Bundle.tN "backtrace" "Ljava/lang/Object;", .lays X Bundle.tN "backtrace" "Ljava/lang/Object;"] : List Jvm.Cond)).filter vx_no
theorem xThr_in {own X : String} {ic : Nat} {w : Jvm.Cond} (h : w ∈ vx_atS own ic X ["java/lang/RuntimeException", "java/lang/Exception"]) : w = .methodLink own ic (Bundle.initS X) ∨ w ∈ xThr X := by
  unfold vx_atS at h
  obtain ⟨h1, h2⟩ := List.mem_filter.mp h
  unfold Bundle.ownAtoms at h1
  rcases List.mem_append.mp h1 with h1 | h1
  · exact Or.inr (List.mem_filter.mpr ⟨List.mem_append_left _ h1, h2⟩)
  · rcases List.mem_cons.mp h1 with h1 | h1
    · exact Or.inl h1
    · exact Or.inr (List.mem_filter.mpr ⟨List.mem_append_right _ h1, h2⟩)
def xThrOk : Prop := ∀ E, E ≤ 2 → ∀ w ∈ xThr (exN E), w ∈ xTs ∨ w ∈ xNg
section
variable {p : Program} {l : Launch} {en : Env} {s : State} {m : MethodId} {args : Array Value} {below : List Frame} {meth : Method} {c : Code} {Q : State → Prop}
variable {xs : Nat → Int32} {bS : Nat} {aC : Nat → ClassId} {D : va_G} {A : Nat → Prop} {scr : Option Nat} {M : XM} {Ms : List XM} {cls : Nat → Nat} {cf : XCf} {n0 : Nat} {ad0 : Nat → Nat}
theorem xcopy_ok (C : xCtx p l s m args meth c M D aC A xs bS scr) (hV : ∀ e ∈ xmC M, xVE Ms M e) {ih : XGo} (hih : xHI p l en s m args below meth c Q xs bS aC D A M n0 ad0 ih)
    {e : XI} {t : List XI} (he : e ∈ xmC M) (ht : ∀ x ∈ t, x ∈ xmC M) (hk7 : e.2.2.1 = 7) {lv : XL} {st : List Value} {σ : XS} {leaves : List XLf} (h : xcopy M ih e t lv st σ = some leaves) (hlf : ∀ lf ∈ leaves, xleaf p l en s m args below meth c Q xs bS aC D A M n0 ad0 lf)
    {ad : Nat → Nat} {H : Heap} {locs : List Loc} {ls : Array Slot} (ha : ∀ j, j < n0 → ad j = ad0 j) (hn : n0 ≤ σ.2.2.1) (hs : xsat xs σ.1) (hw : xWld D aC A ad xs bS σ.2.1 H) (hS : va_S A s.heap H locs) (hl : lv_has ls (xmN M) (evL (ev ad xs bS) lv)) :
    W p l en (xmR M) s m args below meth c H locs σ.2.2.2.1 σ.2.2.2.2 Q (F0 m e.1 ls (evS (ev ad xs bS) st)) := by
  unfold xcopy at h
  split at h
  · rename_i n dp a sp a0 r
    split at h
    · rename_i v0 v1 hk0 hk1
      cases h1 : decide (n < 0) with
      | true => rw [h1] at h; cases h
      | false =>
        rw [h1] at h
        simp only [cond_false] at h
        generalize hchk : (decide (sp = 0) && (decide (dp = 0) && (Nat.beq n.toNatClampNeg v0.length && (Nat.beq n.toNatClampNeg v1.length && (Nat.ble 1 (xmR M).frames && (Nat.ble (xcats r + 60) (xmR M).locals && (!(Nat.beq a a0) && v0.all xint))))))) = b at h
        cases b with
        | false => cases h
        | true =>
          simp only [Bool.and_eq_true, decide_eq_true_eq] at hchk
          obtain ⟨rfl, rfl, c3, c4, c5, c6, c7, c8⟩ := hchk
          simp only [cond_true] at h
          have c3 := Nat.eq_of_beq_eq_true c3
          have c4 := Nat.eq_of_beq_eq_true c4
          have hve := hV e he
          unfold xVE at hve
          rw [hk7] at hve
          obtain ⟨idx, hd, w1, w2, w3, w4⟩ := hve
          obtain ⟨hx, hb, hml, -, hown, hts, -, -, -, hSta, -⟩ := id C
          obtain ⟨q0, hq0, -⟩ := xhk_get (E := ev ad xs bS) (ad := ad) (aC := aC) hk0
          obtain ⟨q1, hq1, hset⟩ := xhk_get (E := ev ad xs bS) (ad := ad) (aC := aC) hk1
          have hin := xnext_in (M := M) (t := t) (pc := e.1 + 3) ht
          refine va_copyi hx hb (hml.trans hl.1.symm) hown (hts _ w1) (hts _ w2) (hts _ w3) (hts _ w4) hSta.1 hw.1 hw.2 hS q0 q1 0 0 hq0 hq1 (xtys_get aC (by omega)) (xtys_get aC (by omega)) rfl (by decide) (by decide) (of_decide_eq_false h1) ?_ ?_ (fun _ _ => rfl) (Nat.le_of_ble_eq_true c5) ?_ hd (fun H1 locs1 p1 d1 s1 => ?_)
          · show 0 + n.toNatClampNeg ≤ v0.length; omega
          · show 0 + n.toNatClampNeg ≤ v1.length; omega
          · rw [show nativeFrameWords "java/lang/System" "arraycopy" 5 = 7 by decide +kernel]
            have := Nat.le_of_ble_eq_true c6
            show ((evS (ev ad xs bS) r).map fun v => v.category).sum + _ ≤ _
            rw [xcats_ev]
            omega
          · have e1 : (evH (ev ad xs bS) ad aC σ.2.1).set q1 (ad a, .inl (aC 0, v1.length, .inl (va_cpy (fun j => evI (ev ad xs bS (v0.getD j (.int 0)))) (fun j => evI (ev ad xs bS (v1.getD j (.int 0)))) (Int32.toNatClampNeg 0) (Int32.toNatClampNeg 0) n.toNatClampNeg))) = evH (ev ad xs bS) ad aC (xhs σ.2.1 a (true, 0, v0)) := by
              rw [← hset (true, 0, v0)]
              show _ = (evH (ev ad xs bS) ad aC σ.2.1).set q1 (ad a, .inl (aC 0, v0.length, .inl (fun j => evI (ev ad xs bS (v0.getD j (.int 0))))))
              rw [← c4, c3]
              refine congrArg (fun z => (evH (ev ad xs bS) ad aC σ.2.1).set q1 (ad a, .inl (aC 0, v0.length, .inl z))) (funext fun k => ?_)
              unfold va_cpy
              rw [show Int32.toNatClampNeg 0 = 0 by decide]
              by_cases hk : k < v0.length
              · rw [if_pos ⟨Nat.zero_le _, by omega⟩]; simp
              · rw [if_neg (by omega)]
                show evI (ev ad xs bS (v1.getD k (.int 0))) = evI (ev ad xs bS (v0.getD k (.int 0)))
                rw [List.getD_eq_getElem?_getD, List.getD_eq_getElem?_getD, List.getElem?_eq_none (by omega), List.getElem?_eq_none (by omega)]
            have hp9 : va_P D classes (evH (ev ad xs bS) ad aC (xhs σ.2.1 a (true, 0, v0))) H1 := by rw [← e1]; exact p1
            have hd9 : va_D A (evH (ev ad xs bS) ad aC (xhs σ.2.1 a (true, 0, v0))) := by rw [← e1]; exact d1
            exact hih _ _ _ _ _ h hin.1 hlf _ hin.2 ad H1 locs1 ls ha hn hs ⟨hp9, hd9⟩ s1 hl
    · cases h
  · cases h
set_option maxHeartbeats 1000000 in
theorem xbody_ok (C : xCtx p l s m args meth c M D aC A xs bS scr) (hcf : xCfOk l Ms D aC A xs bS cf) (hG : xGlob) (hT : xTabOk cls M) (hV : ∀ e ∈ xmC M, xVE Ms M e) {ih : XGo} (hih : xHI p l en s m args below meth c Q xs bS aC D A M n0 ad0 ih) :
    xHI p l en s m args below meth c Q xs bS aC D A M n0 ad0 (xbody Ms cls scr M cf ih) := by
  intro cur lv st σ leaves h hcur hlf pc hpc ad H locs ls ha hn hs hw hS hl
  obtain ⟨hx, hb, hml, hret, hown, hts, hlocks, hname, htab, hSta, hA, hX, htr, hmask⟩ := id C
  cases cur with
  | nil => cases h
  | cons e t =>
    have hpc := hpc e t rfl
    subst hpc
    have he : e ∈ xmC M := hcur e List.mem_cons_self
    have ht : ∀ x ∈ t, x ∈ xmC M := fun x hx => hcur x (List.mem_cons_of_mem _ hx)
    have hve := hV e he
    unfold xVE at hve
    unfold xbody at h
    dsimp only at h
    split at h
    · rename_i hk
      rw [hk] at hve
      obtain ⟨hd, hcl⟩ := hve
      split at h
      · rename_i q hq
        have hin := xnext_in (M := M) (t := t) (pc := e.1 + ilen e.2.1) ht
        exact xsimple_ok (cells := σ.2.2.2.1) (slots := σ.2.2.2.2) hmask hx hb (fun k a tl h1 h2 => ⟨_, hown, hts _ (hcl k a tl h1 h2)⟩) hq hl hd (fun ls' hl' => hih _ _ _ _ _ h hin.1 hlf _ hin.2 ad H locs ls' ha hn hs hw hS hl')
      · cases h
    · rename_i hk
      rw [hk] at hve
      obtain ⟨hd, hvh⟩ := hve
      split at h
      · rename_i q hq
        obtain ⟨st', σ'⟩ := q
        have hin := xnext_in (M := M) (t := t) (pc := e.1 + ilen e.2.1) ht
        have hpe : σ'.1 = σ.1 := xheap_pe hq
        exact xheap_ok (ls := ls) (nL := xmN M) hx hb hts hG.1 hown hSta.1 hA hSta.2.2.1 hSta.2.2.2.1 hX (fun z => hname (of_decide_eq_true z)) hvh hq hw.1 hw.2 hS hl hd (fun ad' H1 locs1 g1 g2 g3 g4 g5 g6 => hih _ _ _ _ _ h hin.1 hlf _ hin.2 ad' H1 locs1 ls (fun j hj => (g1 j (Nat.lt_of_lt_of_le hj hn)).trans (ha j hj)) (Nat.le_trans hn g2) (by rw [hpe]; exact hs) ⟨g3, g4⟩ g5 g6)
      · cases h
    · rename_i hk
      rw [hk] at hve
      split at h
      · rename_i z hz
        refine xbranch_ok (cells := σ.2.2.2.1) (slots := σ.2.2.2.2) hx hb hz hs hve (fun q hq hsq => ?_)
        obtain ⟨r', h5, h6⟩ := xall_spec h q hq
        have hin := xfind_in (M := M) (pc := q.1)
        exact hih _ _ _ (q.2.2, σ.2) _ h5 hin.1 (fun lf hlf9 => hlf lf (h6 lf hlf9)) _ hin.2 ad H locs ls ha hn hsq hw hS hl
      · cases h
    · rename_i hk
      exact xcall_ok C hcf hG hT hV hih he ht hk h hlf ha hn hs hw hS hl
    · rename_i hk
      obtain rfl := Option.some.inj h
      exact (hlf _ List.mem_cons_self ad H locs ls he (fun _ => hk) (fun z => by cases z) ha hs hw hS hl).1 (fun z => by cases z)
    · rename_i hk
      split at h
      · rename_i E tl haux
        obtain rfl := Option.some.inj h
        exact (hlf _ List.mem_cons_self ad H locs ls he (fun z => by cases z) (fun _ => ⟨hk, tl, haux⟩) ha hs hw hS hl).1 (fun z => by cases z)
      · cases h
    · rename_i hk
      rw [hk] at hve
      obtain ⟨idx, hd, w1, w2, w3⟩ := hve
      unfold xoinit at h
      split at h
      · rename_i o r
        generalize hchk : (Nat.ble 1 (xmR M).frames && Nat.ble (xcats r + 12) (xmR M).locals) = b at h
        cases b with
        | false => cases h
        | true =>
          rw [Bool.and_eq_true] at hchk
          have hin := xnext_in (M := M) (t := t) (pc := e.1 + 3) ht
          refine W.objInit (rest := evS (ev ad xs bS) r) (g := F0 m e.1 ls (.ref (ad o) :: evS (ev ad xs bS) r)) hx hb hown (hts _ w1) (hts _ w2) (hts _ w3) rfl (hl.1.trans hml.symm) rfl hd (Nat.le_of_ble_eq_true hchk.1) ?_ ?_
          · have := Nat.le_of_ble_eq_true hchk.2
            rw [xcats_ev]
            show 2 * 0 + xcats r + 12 ≤ _
            omega
          · exact hih _ _ _ _ _ h hin.1 hlf _ hin.2 ad H locs ls ha hn hs hw hS hl
      · cases h
    · rename_i hk
      exact xcopy_ok C hV hih he ht hk h hlf ha hn hs hw hS hl
    · cases h
theorem xrun_ok (C : xCtx p l s m args meth c M D aC A xs bS scr) (hcf : xCfOk l Ms D aC A xs bS cf) (hG : xGlob) (hT : xTabOk cls M) (hV : ∀ e ∈ xmC M, xVE Ms M e) : ∀ f, xHI p l en s m args below meth c Q xs bS aC D A M n0 ad0 (xrun Ms cls scr M cf f)
  | 0 => fun _ _ _ _ _ h => nomatch h
  | f + 1 => xbody_ok C hcf hG hT hV (xrun_ok C hcf hG hT hV f)
end
end XQ
end
section
section XZ
theorem xcon {α : Type} {b : Bool} {x : Option α} {q : α} (h : (bif b then x else none) = some q) : b = true ∧ x = some q := by
  cases b with
  | true => exact ⟨rfl, h⟩
  | false => cases h
theorem xnil_eq {t : List (Nat × Nat × Nat × Nat)} (h : xnil t = true) : t = [] := by
  cases t with
  | nil => rfl
  | cons a b => cases h
theorem xends_spec {M : XM} : ∀ {l : List XLf} {rs : List XR}, xends M l = some rs → ∀ q ∈ l, ∃ r ∈ rs, xend M q = some r
  | [], _, _, q, hq => by cases hq
  | a :: l, rs, h, q, hq => by
    unfold xends at h
    split at h
    · rename_i r1 rs1 h1 h2
      obtain rfl := Option.some.inj h
      rcases List.mem_cons.mp hq with rfl | hq
      · exact ⟨r1, List.mem_cons_self, h1⟩
      · obtain ⟨r, h3, h4⟩ := xends_spec h2 q hq
        exact ⟨r, List.mem_cons_of_mem _ h3, h4⟩
    · cases h
theorem lv_args_ev (ad : Nat → Nat) (xs : Nat → Int32) (bS : Nat) : ∀ (as : List Value) (i : Nat), lv_args i (evS (ev ad xs bS) as) = evL (ev ad xs bS) (lv_args i as)
  | [], _ => rfl
  | v :: t, i => by
    show (i, ev ad xs bS v) :: lv_args (if (ev ad xs bS v).category = 2 then i + 2 else i + 1) (evS (ev ad xs bS) t) = (i, ev ad xs bS v) :: evL (ev ad xs bS) (lv_args (if v.category = 2 then i + 2 else i + 1) t)
    rw [ev_cat, lv_args_ev ad xs bS t]
theorem lg_len (vs : List Value) : (lg_sl vs).length = xcats vs := by
  unfold lg_sl xcats
  induction vs with
  | nil => rfl
  | cons v t ih =>
    rw [List.flatMap_cons, List.length_append, ih, List.map_cons, List.sum_cons]
    rcases lv_cat v with h | h
    · simp [h]
    · simp [h]
section
variable {p : Program} {l : Launch} {en : Env} {s : State} {m : MethodId} {args : Array Value} {below : List Frame} {meth : Method} {c : Code}
variable {xs : Nat → Int32} {bS : Nat} {aC : Nat → ClassId} {D : va_G} {A : Nat → Prop} {scr : Option Nat} {M : XM} {Ms : List XM} {cls : Nat → Nat} {cf : XCf} {n0 : Nat} {ad0 : Nat → Nat}
theorem xend_ok (C : xCtx p l s m args meth c M D aC A xs bS none) (hTh : xThrOk) (hV : ∀ e ∈ xmC M, xVE Ms M e) {leaves : List XLf} {rs : List XR} (h : xends M leaves = some rs) :
    ∀ lf ∈ leaves, xleaf p l en s m args below meth c (vx_MQ below (xQc D aC A ad0 xs bS n0 rs) (xXc D aC A ad0 xs bS n0 rs) args s (xmR M).cells (xmR M).slots A) xs bS aC D A M n0 ad0 lf := by
  intro lf hlf ad H locs ls he hk0 hk1 ha hs hw hS hl
  obtain ⟨r, hr, hx⟩ := xends_spec h lf hlf
  obtain ⟨hexec, hb, hml, hret, hown, hts, hlocks, hname, htab, hSta, hA, hX, htr, hmask⟩ := id C
  obtain ⟨kd, E, e, lv, st, pe, hh, n, ce, sl⟩ := lf
  have hve := hV e he
  unfold xVE at hve
  dsimp only at hk0 hk1 hs hw hl ⊢
  unfold xend at hx
  split at hx
  · rename_i E' e' lv' st' pe' h' n' ce' sl' heq
    cases heq
    rw [hk0 rfl] at hve
    refine ⟨fun _ => ?_, fun z => by cases z⟩
    obtain ⟨hb1, hx⟩ := xcon hx
    rw [Bool.and_eq_true] at hb1
    split at hx
    rotate_left
    · cases hx
    rename_i v hv
    obtain rfl := Option.some.inj hx
    refine W.widen (Nat.le_of_ble_eq_true hb1.1) (Nat.le_of_ble_eq_true hb1.2) ?_
    refine vx_ret ?_
    have hq : ∀ (t : State) (o : Outcome), t.heap = H → o = .returned (v.map (ev ad xs bS)) → xQc D aC A ad0 xs bS n0 rs args s o t := fun t o ht ho => ⟨⟨_, hr, rfl, ad, ha, ho, hs, by rw [ht]; exact hw⟩, hS.F ht⟩
    have hret : meth.sig.returnType = M.2.2.2.1 := hret
    obtain ⟨rt, hrt⟩ : ∃ rt, rt = M.2.2.2.1 := ⟨_, rfl⟩
    rw [← hrt] at hv hret
    obtain ⟨i, hi⟩ : ∃ i, i = e.2.1 := ⟨_, rfl⟩
    rw [← hi] at hv hve
    clear hrt hi
    unfold xretv at hv
    split at hv
    · obtain rfl := Option.some.inj hv
      exact W.vret hexec hb hret (fun t ht hW => hq t _ ht rfl) hS.2.2 hve hlocks
    · rename_i v0
      obtain ⟨hok, hv⟩ := xcon hv
      obtain rfl := Option.some.inj hv
      obtain ⟨x, hxv⟩ := xint_ev (ad := ad) (xs := xs) (bS := bS) hok
      show W p l en (xmR M) s m args below meth c H locs _ _ _ (F0 m e.1 ls [ev ad xs bS v0])
      rw [hxv]
      exact W.iret (v := x) hexec hb hret (fun t ht hW => hq t _ ht (by rw [Option.map_some, hxv])) hS.2.2 hve hlocks
    · rename_i x
      obtain ⟨hok, hv⟩ := xcon hv
      obtain rfl := Option.some.inj hv
      refine W.zret (ty := .boolean) (v := x) hexec hb hret ?_ (fun t ht hW => hq t _ ht rfl) hS.2.2 hve hlocks
      simp only [Bool.or_eq_true, decide_eq_true_eq] at hok
      rcases hok with rfl | rfl <;> decide
    · rename_i v0
      obtain ⟨hok, hv⟩ := xcon hv
      obtain rfl := Option.some.inj hv
      obtain ⟨x, hxv⟩ := xlong_ev (ad := ad) (xs := xs) (bS := bS) hok
      show W p l en (xmR M) s m args below meth c H locs _ _ _ (F0 m e.1 ls [ev ad xs bS v0])
      rw [hxv]
      exact W.lret (v := x) hexec hb hret (fun t ht hW => hq t _ ht (by rw [Option.map_some, hxv])) hS.2.2 hve hlocks
    · rename_i v0
      obtain ⟨hok, hv⟩ := xcon hv
      obtain rfl := Option.some.inj hv
      obtain ⟨x, hxv⟩ := xdbl_ev (ad := ad) (xs := xs) (bS := bS) hok
      show W p l en (xmR M) s m args below meth c H locs _ _ _ (F0 m e.1 ls [ev ad xs bS v0])
      rw [hxv]
      exact W.dret (v := x) hexec hb hret (fun t ht hW => hq t _ ht (by rw [Option.map_some, hxv])) hS.2.2 hve hlocks
    · rename_i v0
      obtain ⟨hok, hv⟩ := xcon hv
      obtain rfl := Option.some.inj hv
      exact W.aret (v := ev ad xs bS v0) hexec hb hret (Or.inl ⟨_, rfl⟩) (xref_ev hok) (fun t ht hW => hq t _ ht rfl) hS.2.2 hve hlocks
    · rename_i v0
      obtain ⟨hok, hv⟩ := xcon hv
      obtain rfl := Option.some.inj hv
      exact W.aret (v := ev ad xs bS v0) hexec hb hret (Or.inr ⟨_, rfl⟩) (xref_ev hok) (fun t ht hW => hq t _ ht rfl) hS.2.2 hve hlocks
    · cases hv
  · rename_i E' e' lv' st' pe' h' n' ce' sl' heq
    cases heq
    obtain ⟨hk5, tl, haux⟩ := hk1 rfl
    rw [hk5] at hve
    refine ⟨fun _ => ?_, fun z => by cases z⟩
    obtain ⟨hb1, hx⟩ := xcon hx
    obtain rfl := Option.some.inj hx
    simp only [Bool.and_eq_true] at hb1
    obtain ⟨c1, c2, c3, c4, c5, c6⟩ := hb1
    have c6 := xnil_eq c6
    have hE2 := Nat.le_of_ble_eq_true c5
    obtain ⟨ik, is, ic, tx, -, hown9, hstr, d0, d3, dd, w1, w2, w3⟩ := hve E tl haux
    have htb0 : ∀ x ∈ c.exceptionTable.toList, False := by rw [htab (Or.inl rfl), c6]; intro x hx9; cases hx9
    obtain ⟨sa, hsa⟩ := hSta.2.2.2.2.1 _ hstr
    rw [← hown9] at hsa
    have hwd : ∀ w ∈ vx_atS (xmY M).cls ic (exN E) ["java/lang/RuntimeException", "java/lang/Exception"], w ∈ xTs ∨ w ∈ xNg := fun w hw9 => by
      rcases xThr_in hw9 with rfl | h9
      · exact Or.inl w3
      · exact hTh E hE2 w h9
    have hat : ∀ w ∈ vx_atS (xmY M).cls ic (exN E) ["java/lang/RuntimeException", "java/lang/Exception"], w.before args s = true := fun w hw9 => by
      rcases hwd w hw9 with h9 | h9
      · exact hts w h9
      · exact va_Nw.use (xng_tab (List.mem_filter.mp h9).2) (hSta.2.1 w h9)
    have hot : ∀ w, (w ∈ xTs ∨ w ∈ xNg) → vx_ot w = true := fun w h9 => by
      unfold vx_ot
      rcases h9 with h9 | h9
      · rw [(List.mem_filter.mp h9).2, Bool.or_true]
      · rw [xng_tab (List.mem_filter.mp h9).2, Bool.true_or]
    have hgood : ∀ w ∈ Jvm.Cond.classLink (xmY M).cls ik (exN E) :: Jvm.Cond.initialized (exN E) :: vx_atS (xmY M).cls ic (exN E) ["java/lang/RuntimeException", "java/lang/Exception"], vx_ot w = true := fun w hw9 => by
      rcases List.mem_cons.mp hw9 with rfl | hw9
      · exact hot _ (Or.inl w1)
      · rcases List.mem_cons.mp hw9 with rfl | hw9
        · exact hot _ (Or.inl w2)
        · exact hot _ (hwd w hw9)
    have hfit : Bundle.fit (exN E) = true := by
      unfold exN
      split <;> decide +kernel
    have hnm : ∀ n ∈ ["java/lang/RuntimeException", "java/lang/Exception"], Bundle.fit n = true := by decide +kernel
    have hXC : ∀ t : State, s.vm.Alike t.vm → H.size ≤ t.heap.size → (∀ q : Nat, q < H.size → t.heap[q]? = H[q]?) → xXc D aC A ad0 xs bS n0 rs (exN E) s t := fun t _ hz hq9 =>
      ⟨⟨_, hr, E, rfl, hE2, rfl, ad, ha, hs, ⟨hw.1.kept (fun k x hx9 => hq9 x.1 ((hw.1 k x hx9).lt)), hw.2⟩⟩, ⟨Nat.le_trans hS.1 hz, fun q h1 h2 => (hq9 q (Nat.lt_of_lt_of_le h1 hS.1)).trans (hS.2.1 q h1 h2)⟩⟩
    have hcat : ((evS (ev ad xs bS) st).map fun v => v.category).sum + 82 ≤ (xmR M).locals := by rw [xcats_ev]; exact Nat.le_of_ble_eq_true c4
    rcases dd with ⟨d4, d6, d9⟩ | ⟨d4, d7, d10⟩
    · exact vx_throwS (names := ["java/lang/RuntimeException", "java/lang/Exception"]) hexec hb htr hown hfit hnm (hts _ w1) (hts _ w2) hsa hat hgood hSta.2.2.2.2.2.1 hSta.2.2.2.2.2.2.1 hS (hl.1.trans hml.symm) d0 d3 d4 d6 d9 (fun x hx9 => absurd (htb0 x hx9) id) (Nat.lt_of_lt_of_le (by decide) (Nat.le_of_ble_eq_true c3)) (by show _ + (13 * (2 + 1) + 43) ≤ _; omega) (Nat.le_of_ble_eq_true c1) (Nat.le_of_ble_eq_true c2) hlocks hXC hS.2.2 (Nat.le_of_ble_eq_true c1) (Nat.le_of_ble_eq_true c2)
    · exact vx_throwSW (names := ["java/lang/RuntimeException", "java/lang/Exception"]) hexec hb htr hown hfit hnm (hts _ w1) (hts _ w2) hsa hat hgood hSta.2.2.2.2.2.1 hSta.2.2.2.2.2.2.1 hS (hl.1.trans hml.symm) d0 d3 d4 d7 d10 (fun x hx9 => absurd (htb0 x hx9) id) (Nat.lt_of_lt_of_le (by decide) (Nat.le_of_ble_eq_true c3)) (by show _ + (13 * (2 + 1) + 43) ≤ _; omega) (Nat.le_of_ble_eq_true c1) (Nat.le_of_ble_eq_true c2) hlocks hXC hS.2.2 (Nat.le_of_ble_eq_true c1) (Nat.le_of_ble_eq_true c2)
  · rename_i E' e' lv' st' pe' h' n' ce' sl' heq
    cases heq
    refine ⟨fun z => absurd rfl z, fun _ hE9 q cell q1 q2 q3 => ?_⟩
    obtain ⟨hb1, hx⟩ := xcon hx
    obtain rfl := Option.some.inj hx
    simp only [Bool.and_eq_true] at hb1
    obtain ⟨c1, c2, c5, c6⟩ := hb1
    have c6 := xnil_eq c6
    have htb0 : ∀ x ∈ c.exceptionTable.toList, False := by rw [htab (Or.inl rfl), c6]; intro x hx9; cases hx9
    exact vx_out (E := exN E) (fun x hx9 => absurd (htb0 x hx9) id) hlocks q1 q2 q3 (fun t ht _ => ⟨⟨_, hr, E, rfl, hE9, rfl, ad, ha, hs, by rw [ht]; exact hw⟩, hS.F ht⟩) hS.2.2 (Nat.le_of_ble_eq_true c1) (Nat.le_of_ble_eq_true c2)
  · cases hx
end
/-- what a method's record wants -/
def xMok (Ms : List XM) (cls : Nat → Nat) (M : XM) : Prop := plainName (xmY M).cls = true ∧ (∀ e ∈ xmC M, xVE Ms M e) ∧ xTabOk cls M
theorem xnth_mem {α : Type} {l : List α} {k : Nat} {a : α} (h : xnth l k = some a) : a ∈ l := by
  rw [xnth_eq] at h
  exact List.mem_of_getElem? h
section
variable {l : Launch} {xs : Nat → Int32} {bS : Nat} {aC : Nat → ClassId} {D : va_G} {A : Nat → Prop} {Ms : List XM} {cls : Nat → Nat}
set_option maxHeartbeats 1000000 in
theorem xmeth_ok (hl : l.stackTraces = false) (hG : xGlob) (hTh : xThrOk) (hM : ∀ M ∈ Ms, xMok Ms cls M) (hmask : ∀ i, i < 9 → xs (i + 9) = xs i &&& 63) : ∀ d, xCfOk l Ms D aC A xs bS (xmeth Ms cls d)
  | 0 => fun _ _ _ _ _ _ h => nomatch h
  | d + 1 => by
    have ih := xmeth_ok hl hG hTh hM hmask d
    intro k as pe h n rs hrs M hk hsat ad
    have hrs : (match xnth Ms k with
      | none => none
      | some M => bif Nat.ble (xcats as) (xmN M) then (match xrun Ms cls none M (xmeth Ms cls d) 100000 (xfind (xmC M) 0) (lv_args 0 as) [] (pe, h, n, 0, 0) with
        | some ls => xends M ls
        | none => none) else none) = some rs := hrs
    rw [hk] at hrs
    dsimp only at hrs
    obtain ⟨hcat, hrs⟩ := xcon hrs
    split at hrs
    rotate_left
    · cases hrs
    rename_i leaves hleaves
    obtain ⟨hpn, hV, hT⟩ := hM M (xnth_mem hk)
    have body : ∀ (p : Program) (e : Env) (s : State) (m : MethodId) (args : Array Value) (below : List Frame) (meth : Method) (c : Code) (s₁ : State), BodyLoose p l (xmY M) (headSpec (xmWs M) (xmR M)) (xmB M) (xmN M) (xmV M) e s m args below meth c s₁ → c.maxLocals = xmN M → c.exceptionTable.toList = tableOf (xmT M) →
        va_Pc (evS (ev ad xs bS) as) (xPre D aC A ad xs bS h) args s → W p l e (headSpec (xmWs M) (xmR M)).room s m args below meth c s.heap [] 0 0 (vx_MQ below (xQc D aC A ad xs bS n rs) (xXc D aC A ad xs bS n rs) args s (xmR M).cells (xmR M).slots A) (entryFrame m args (xmN M)) := by
      intro p e s m args below meth c s₁ B hml htab hv
      obtain ⟨rfl, hSta, hw, hA⟩ := hv
      have C : xCtx p l s m (evS (ev ad xs bS) as).toArray meth c M D aC A xs bS none :=
        ⟨B.exec, B.bytes, hml, B.returns, findClass_of_methodNamed B.named, fun w hw9 => atoms_spec (ws := xmWs M) B.pre w (List.mem_cons_of_mem _ hw9), B.notSynchronized, fun z => (name_of_methodNamed B.named B.method).1.trans z, fun _ => htab, hSta, hA, (fun L hL => nomatch hL), hl, hmask⟩
      have hl0 := lv_entry (evS (ev ad xs bS) as) (n := xmN M) (by rw [lg_len]; unfold xcats; rw [xcats_ev]; exact Nat.le_of_ble_eq_true hcat)
      rw [lg_entry_eq]
      generalize (lg_sl (evS (ev ad xs bS) as) ++ List.replicate (xmN M - (lg_sl (evS (ev ad xs bS) as)).length) Slot.unset).toArray = ls at hl0 ⊢
      rw [lv_args_ev] at hl0
      have hin := xfind_in (M := M) (pc := 0)
      exact xrun_ok C ih hG hT hV 100000 _ _ _ _ _ hleaves hin.1 (xend_ok C hTh hV hrs) 0 hin.2 ad s.heap [] ls (fun _ _ => rfl) (Nat.le_refl _) hsat hw va_S.rf hl0
    cases hT9 : xmT M with
    | nil =>
      refine vx_ofW hpn (xw_nil hT9) (fun p e s m args below meth c s₁ B hml htab hv => body p e s m args below meth c s₁ B hml ?_ hv)
      rw [hT9]
      cases hz : c.exceptionTable.toList with
      | nil => rfl
      | cons a b => exact absurd (htab a (by rw [hz]; exact List.mem_cons_self)) id
    | cons q t =>
      have hw9 : xmWs M = Jvm.Cond.codeWith (xmY M) (xmB M) (xmN M) (xmV M) (q :: t) :: xTs := by unfold xmWs xmW; rw [hT9]
      refine vx_ofWH hpn hw9 (fun p e s m args below meth c s₁ B hml hv => body p e s m args below meth c s₁ B hml ?_ hv)
      rw [hT9]
      exact vx_table (x := xmY M) B (atoms_spec (ws := xmWs M) B.pre _ (by rw [hw9]; exact List.mem_cons_self))
end
end XZ
end
section
/-! the listings' rows, decided -/
section XD
def okw (pl : Nat) (w : Jvm.Cond) : Bool := decide (xnth lw_tbl pl = some w) && goodWord w
def okn (pl : Nat) (w : Jvm.Cond) : Bool := decide (xnth lw_tbl pl = some w) && xngk w
theorem okw_in {pl : Nat} {w : Jvm.Cond} (h : okw pl w = true) : w ∈ xTs := by
  unfold okw at h
  rw [Bool.and_eq_true, decide_eq_true_eq, xnth_eq] at h
  exact xTs_in h.1 h.2
theorem okn_in {pl : Nat} {w : Jvm.Cond} (h : okn pl w = true) : w ∈ xNg := by
  unfold okn at h
  rw [Bool.and_eq_true, decide_eq_true_eq, xnth_eq] at h
  exact xNg_in h.1 h.2
def xbt : Nat → FieldType
  | 0 => .int
  | _ => .boolean
def xvhB (own : String) (init : Bool) (i : Instr) (aux : List Nat) : Bool :=
  match i with
  | .getfield idx => (match aux with
    | ci :: k :: pl :: _ => (match xnth classes ci with
      | some (C, T, N) => Nat.ble (k + 1) N && okw pl (.fieldLink own idx (T k).1 (T k).2.1 (T k).2.2.1)
      | none => false)
    | _ => false)
  | .putfield idx => (match aux with
    | ci :: k :: pl :: _ => (match xnth classes ci with
      | some (C, T, N) => Nat.ble (k + 1) N && (okw pl (.fieldLink own idx (T k).1 (T k).2.1 (T k).2.2.1) && (decide ((T k).2.2.2 = false) || (decide ((T k).2.2.2 = true) && (init && decide ((T k).1 = own)))))
      | none => false)
    | _ => false)
  | .new idx => (match aux with
    | ci :: p1 :: p2 :: p3 :: _ => (match xnth classes ci with
      | some (C, T, N) => okw p1 (.classLink own idx C) && (okw p2 (.instantiable C N) && okw p3 (.initialized C))
      | none => false)
    | _ => false)
  | .newarray a => (match aux with
    | ti :: pl :: _ => Nat.ble ti 2 && (decide (newarray.typeOf a = xty ti) && okw pl (.arrayClass (newarray.typeOf a)))
    | _ => false)
  | .anewarray idx => (match aux with
    | ti :: pl :: _ => Nat.ble 3 ti && (Nat.ble ti 5 && (match xty ti with
      | .object C => okw pl (.classLink own idx C)
      | _ => false))
    | _ => false)
  | .multianewarray idx d => (match aux with
    | tf :: p1 :: p2 :: _ => okw p1 (.arrayClass (xbt tf)) && ((Nat.beq d 2 && okw p2 (.classLink own idx ("[" ++ (FieldType.array (xbt tf)).toString))) || (Nat.beq d 3 && (Nat.beq tf 0 && okw p2 (.classLink own idx ("[" ++ (FieldType.array (.array (xbt tf))).toString)))))
    | _ => false)
  | _ => true
theorem xvhB_ok {own : String} {init : Bool} {i : Instr} {aux : List Nat} (h : xvhB own init i aux = true) : xvh xTs own init i aux := by
  unfold xvhB at h
  split at h
  · split at h
    · split at h
      · rename_i C T N hc
        rw [Bool.and_eq_true] at h
        rw [xnth_eq] at hc
        intro ci k t e
        cases e
        exact ⟨C, T, N, hc, Nat.le_of_ble_eq_true h.1, okw_in h.2⟩
      · cases h
    · cases h
  · split at h
    · split at h
      · rename_i C T N hc
        simp only [Bool.and_eq_true, Bool.or_eq_true, decide_eq_true_eq] at h
        rw [xnth_eq] at hc
        intro ci k t e
        cases e
        exact ⟨C, T, N, hc, Nat.le_of_ble_eq_true h.1, okw_in h.2.1, h.2.2⟩
      · cases h
    · cases h
  · split at h
    · split at h
      · rename_i C T N hc
        simp only [Bool.and_eq_true] at h
        rw [xnth_eq] at hc
        intro ci t e
        cases e
        exact ⟨C, T, N, hc, okw_in h.1, okw_in h.2.1, okw_in h.2.2⟩
      · cases h
    · cases h
  · split at h
    · simp only [Bool.and_eq_true, decide_eq_true_eq] at h
      intro ti t e
      cases e
      exact ⟨Nat.le_of_ble_eq_true h.1, h.2.1, okw_in h.2.2⟩
    · cases h
  · split at h
    · simp only [Bool.and_eq_true] at h
      obtain ⟨h1, h2, h3⟩ := h
      split at h3
      · rename_i C hC
        intro ti t e
        cases e
        exact ⟨Nat.le_of_ble_eq_true h1, Nat.le_of_ble_eq_true h2, C, hC, okw_in h3⟩
      · cases h3
    · cases h
  · split at h
    · rename_i idx d tf p1 p2 t
      simp only [Bool.and_eq_true, Bool.or_eq_true] at h
      obtain ⟨h1, h2⟩ := h
      refine ⟨xbt tf, okw_in h1, ?_, ?_, ?_⟩
      · rcases h2 with ⟨a, -⟩ | ⟨-, b, -⟩
        · unfold xbt
          split
          · exact Or.inl rfl
          · exact Or.inr ⟨rfl, Nat.eq_of_beq_eq_true a⟩
        · have := Nat.eq_of_beq_eq_true b
          subst this
          exact Or.inl rfl
      · intro e
        subst e
        rcases h2 with ⟨-, a⟩ | ⟨a, -⟩
        · exact okw_in a
        · cases a
      · intro e
        subst e
        rcases h2 with ⟨a, -⟩ | ⟨-, -, a⟩
        · cases a
        · exact okw_in a
    · cases h
  · rename_i i h1 h2 h3 h4 h5 h6
    unfold xvh
    split
    · exact absurd rfl (h1 _)
    · exact absurd rfl (h2 _)
    · exact absurd rfl (h3 _)
    · exact absurd rfl (h4 _)
    · exact absurd rfl (h5 _)
    · exact absurd rfl (h6 _ _)
    · trivial
def xpar (d : String) : Option Nat := (parseMethodDescriptor d).map (fun d => d.parameters.length)
/-- the words of a call: initialized, code, and three more -/
def xvcB (M Y : XM) (mode ci idx : Nat) (pls : List Nat) : Bool :=
  match pls with
  | p1 :: p2 :: p3 :: p4 :: p5 :: _ =>
    (decide ((xmY Y).cls ≠ "java/lang/invoke/MethodHandle") && decide ((xmY Y).cls ≠ "java/lang/invoke/VarHandle")) && (okw p1 (.initialized (xmY Y).cls) && (okw p2 (xmW Y) &&
    (match mode with
    | 0 => decide (xmT Y = []) && (decide (xpar (xmY Y).desc = some (xmA Y)) && (okw p3 (.methodLink (xmY M).cls idx (xmY Y)) && okw p4 (.static (xmY Y))))
    | 1 => decide (xmT Y = []) && (decide ((xpar (xmY Y).desc).map (fun n => n + 1) = some (xmA Y)) && (okw p3 (.methodLink (xmY M).cls idx (xmY Y)) && (okw p4 (.instanceMethod (xmY Y)) && (okw p5 (.selects (xmY Y).cls (xmY Y) (xmY Y)) && (match xnth classes ci with
      | some (C, _, _) => decide (C = (xmY Y).cls)
      | none => false)))))
    | 2 => decide (xmT Y = []) && (decide ((xpar (xmY Y).desc).map (fun n => n + 1) = some (xmA Y)) && (okw p3 (.methodLink (xmY M).cls idx (xmY Y)) && (okw p4 (.instanceMethod (xmY Y)) && (decide ((xmY Y).name = "<init>") && decide (xmV Y = none)))))
    | 3 => decide (xmT Y = []) && (decide ((xpar (xmY Y).desc).map (fun n => n + 1) = some (xmA Y)) && (okn p3 (.methodLinkNest (xmY M).cls idx (xmY Y) "PackWright") && (okw p4 (.instanceMethod (xmY Y)) && (decide ((xmY Y).name = "<init>") && decide (xmV Y = none)))))
    | 4 => decide (xmT Y = []) && (decide (xpar (xmY Y).desc = some (xmA Y)) && (okn p3 (.methodLinkNest (xmY M).cls idx (xmY Y) "PackWright") && okw p4 (.static (xmY Y))))
    | 6 => decide (xmT Y ≠ []) && (decide (xpar (xmY Y).desc = some (xmA Y)) && (okw p3 (.methodLink (xmY M).cls idx (xmY Y)) && okw p4 (.static (xmY Y))))
    | _ => false)))
  | _ => false
theorem xpar1 {d : String} {n : Nat} (h : (xpar d).map (fun n => n + 1) = some n) : ∃ k, n = k + 1 ∧ (parseMethodDescriptor d).map (fun d => d.parameters.length) = some k := by
  unfold xpar at h
  cases hz : (parseMethodDescriptor d).map (fun d => d.parameters.length) with
  | none => rw [hz] at h; cases h
  | some k => rw [hz] at h; cases h; exact ⟨k, rfl, rfl⟩
theorem xvcB_ok {M Y : XM} {mode ci idx : Nat} {pls : List Nat} (h : xvcB M Y mode ci idx pls = true) : xvc M Y mode ci idx := by
  unfold xvcB at h
  split at h
  · rename_i p1 p2 p3 p4 p5 t
    rw [Bool.and_eq_true, Bool.and_eq_true, Bool.and_eq_true, Bool.and_eq_true, decide_eq_true_eq, decide_eq_true_eq] at h
    obtain ⟨h1, h2, h3, h4⟩ := h
    refine ⟨h1, okw_in h2, okw_in h3, ?_⟩
    split at h4
    · simp only [Bool.and_eq_true, decide_eq_true_eq] at h4
      exact ⟨h4.1, h4.2.1, okw_in h4.2.2.1, okw_in h4.2.2.2⟩
    · simp only [Bool.and_eq_true, decide_eq_true_eq] at h4
      obtain ⟨g1, g2, g3, g4, g5, g6⟩ := h4
      split at g6
      · rename_i C T N hc
        rw [xnth_eq] at hc
        have g6 := of_decide_eq_true g6
        subst g6
        exact ⟨g1, xpar1 g2, okw_in g3, okw_in g4, okw_in g5, T, N, hc⟩
      · cases g6
    · simp only [Bool.and_eq_true, decide_eq_true_eq] at h4
      exact ⟨h4.1, xpar1 h4.2.1, okw_in h4.2.2.1, okw_in h4.2.2.2.1, h4.2.2.2.2.1, h4.2.2.2.2.2⟩
    · simp only [Bool.and_eq_true, decide_eq_true_eq] at h4
      exact ⟨h4.1, xpar1 h4.2.1, ⟨_, okn_in h4.2.2.1⟩, okw_in h4.2.2.2.1, h4.2.2.2.2.1, h4.2.2.2.2.2⟩
    · simp only [Bool.and_eq_true, decide_eq_true_eq] at h4
      exact ⟨h4.1, h4.2.1, ⟨_, okn_in h4.2.2.1⟩, okw_in h4.2.2.2⟩
    · simp only [Bool.and_eq_true, decide_eq_true_eq] at h4
      exact ⟨h4.1, h4.2.1, okw_in h4.2.2.1, okw_in h4.2.2.2⟩
    · cases h4
  · cases h
def xdB (M : XM) (pc : Nat) (i : Instr) (n : Nat) : Bool := decide (decode (xmB M) pc = .ok (i, n))
theorem xdB_ok {M : XM} {pc : Nat} {i : Instr} {n : Nat} (h : xdB M pc i n = true) : decode (xmB M) pc = .ok (i, n) := of_decide_eq_true h
def xidx : Instr → Nat
  | .invokestatic k => k
  | .invokevirtual k => k
  | .invokespecial k => k
  | _ => 0
/-- the throw: number, text's place, constructor's place, wide or not, the words' places, the text's place among the words -/
def xvtB (M : XM) (pc : Nat) (i : Instr) (aux : List Nat) : Bool :=
  match i, aux with
  | .new ik, E :: is :: ic :: wd :: p1 :: p2 :: p3 :: pt :: _ =>
    Nat.ble E 2 && (decide ((xmY M).cls = "PackWright") && ((match xnth lw_tbl pt with
      | some (.stringRef C k t) => decide (C = "PackWright") && Nat.beq k is
      | _ => false) && (xdB M pc (.new ik) 3 && (xdB M (pc + 3) .dup 1 && (((Nat.beq wd 0 && (xdB M (pc + 4) (.ldc is) 2 && (xdB M (pc + 6) (.invokespecial ic) 3 && xdB M (pc + 9) .athrow 1))) ||
      (Nat.beq wd 1 && (xdB M (pc + 4) (.ldc_w is) 3 && (xdB M (pc + 7) (.invokespecial ic) 3 && xdB M (pc + 10) .athrow 1)))) &&
      (okw p1 (.classLink (xmY M).cls ik (exN E)) && (okw p2 (.initialized (exN E)) && okw p3 (.methodLink (xmY M).cls ic (Bundle.initS (exN E))))))))))
  | _, _ => false
theorem xvtB_ok {M : XM} {pc : Nat} {i : Instr} {aux : List Nat} (h : xvtB M pc i aux = true) : ∀ E t, aux = E :: t → xvt M pc E := by
  unfold xvtB at h
  split at h
  · rename_i ik E is ic wd p1 p2 p3 pt tl
    intro E' t' e
    cases e
    simp only [Bool.and_eq_true, Bool.or_eq_true, decide_eq_true_eq] at h
    obtain ⟨h1, h2, h3, h4, h5, h6, h7, h8, h9⟩ := h
    split at h3
    · rename_i C k tx hk
      simp only [Bool.and_eq_true, decide_eq_true_eq] at h3
      obtain ⟨rfl, hk2⟩ := h3
      have hk2 := Nat.eq_of_beq_eq_true hk2
      subst hk2
      rw [xnth_eq] at hk
      refine ⟨ik, k, ic, tx, Nat.le_of_ble_eq_true h1, h2, ?_, xdB_ok h4, xdB_ok h5, ?_, okw_in h7, okw_in h8, okw_in h9⟩
      · exact List.mem_filterMap.mpr ⟨_, List.mem_of_getElem? hk, rfl⟩
      · rcases h6 with ⟨-, a, b, c⟩ | ⟨-, a, b, c⟩
        · exact Or.inl ⟨xdB_ok a, xdB_ok b, xdB_ok c⟩
        · exact Or.inr ⟨xdB_ok a, xdB_ok b, xdB_ok c⟩
    · cases h3
  · cases h
def xveB (Ms : List XM) (M : XM) (e : XI) : Bool :=
  match e.2.2.1 with
  | 0 => xdB M e.1 e.2.1 (ilen e.2.1) && (match e.2.1 with
    | .ldc2_w k => (match e.2.2.2 with
      | a :: pl :: _ => okw pl (.constantLong (xmY M).cls k (Int64.ofNat a))
      | _ => false)
    | _ => true)
  | 1 => xdB M e.1 e.2.1 (ilen e.2.1) && xvhB (xmY M).cls (decide ((xmY M).name = "<init>")) e.2.1 e.2.2.2
  | 2 => xdB M e.1 e.2.1 (xil e.1 e.2.1)
  | 3 => (match e.2.2.2 with
    | mode :: k :: ci :: pls => xdB M e.1 (xvi mode (xidx e.2.1)) 3 && (match xnth Ms k with
      | some Y => xvcB M Y mode ci (xidx e.2.1) pls
      | none => true)
    | _ => true)
  | 4 => xdB M e.1 e.2.1 (ilen e.2.1)
  | 5 => xvtB M e.1 e.2.1 e.2.2.2
  | 6 => (match e.2.2.2 with
    | p1 :: p2 :: p3 :: _ => xdB M e.1 (.invokespecial (xidx e.2.1)) 3 && (okw p1 (.methodLink (xmY M).cls (xidx e.2.1) Lib.objectInit) && (okw p2 (.instanceMethod Lib.objectInit) && okw p3 (.code Lib.objectInit ⟨#[0xb1]⟩ 1 none)))
    | _ => false)
  | 7 => (match e.2.2.2 with
    | p1 :: p2 :: p3 :: p4 :: _ => xdB M e.1 (.invokestatic (xidx e.2.1)) 3 && (okw p1 (.methodLink (xmY M).cls (xidx e.2.1) arraycopyName) && (okw p2 (.native arraycopyName) && (okw p3 (.static arraycopyName) && okw p4 (.initialized "java/lang/System"))))
    | _ => false)
  | _ => true
theorem xveB_ok {Ms : List XM} {M : XM} {e : XI} (h : xveB Ms M e = true) : xVE Ms M e := by
  unfold xveB at h
  unfold xVE
  split at h
  · rename_i hk
    rw [hk]
    rw [Bool.and_eq_true] at h
    refine ⟨xdB_ok h.1, fun k a t e1 e2 => ?_⟩
    have h2 := h.2
    rw [e1, e2] at h2
    dsimp only at h2
    cases t with
    | nil => cases h2
    | cons pl t => exact okw_in h2
  · rename_i hk
    rw [hk]
    rw [Bool.and_eq_true] at h
    exact ⟨xdB_ok h.1, xvhB_ok h.2⟩
  · rename_i hk
    rw [hk]
    exact xdB_ok h
  · rename_i hk
    rw [hk]
    intro mode k ci t e1
    rw [e1] at h
    dsimp only at h
    rw [Bool.and_eq_true] at h
    refine ⟨_, xdB_ok h.1, fun Y hY => ?_⟩
    have h2 := h.2
    rw [hY] at h2
    exact xvcB_ok h2
  · rename_i hk
    rw [hk]
    exact xdB_ok h
  · rename_i hk
    rw [hk]
    exact xvtB_ok h
  · rename_i hk
    rw [hk]
    split at h
    · simp only [Bool.and_eq_true] at h
      exact ⟨_, xdB_ok h.1, okw_in h.2.1, okw_in h.2.2.1, okw_in h.2.2.2⟩
    · cases h
  · rename_i hk
    rw [hk]
    split at h
    · simp only [Bool.and_eq_true] at h
      exact ⟨_, xdB_ok h.1, okw_in h.2.1, okw_in h.2.2.1, okw_in h.2.2.2.1, okw_in h.2.2.2.2⟩
    · cases h
  · rename_i h0 h1 h2 h3 h4 h5 h6 h7
    split
    · rename_i z; exact absurd z h0
    · rename_i z; exact absurd z h1
    · rename_i z; exact absurd z h2
    · rename_i z; exact absurd z h3
    · rename_i z; exact absurd z h4
    · rename_i z; exact absurd z h5
    · rename_i z; exact absurd z h6
    · rename_i z; exact absurd z h7
    · trivial
def xmokB (Ms : List XM) (cls pl : Nat → Nat) (M : XM) : Bool :=
  plainName (xmY M).cls && ((xmC M).all (xveB Ms M) && (xmT M).all (fun q => !(Nat.beq q.2.2.2 0) && (Nat.ble (cls q.2.2.2) 2 && okw (pl q.2.2.2) (.classLink (xmY M).cls q.2.2.2 (exN (cls q.2.2.2))))))
theorem xmokB_ok {Ms : List XM} {cls pl : Nat → Nat} {M : XM} (h : xmokB Ms cls pl M = true) : xMok Ms cls M := by
  unfold xmokB at h
  rw [Bool.and_eq_true, Bool.and_eq_true] at h
  refine ⟨h.1, fun e he => xveB_ok (List.all_eq_true.mp h.2.1 e he), fun q hq => ?_⟩
  have h3 := List.all_eq_true.mp h.2.2 q hq
  simp only [Bool.and_eq_true, Bool.not_eq_true'] at h3
  exact ⟨fun z => by rw [z] at h3; exact absurd h3.1 (by decide), Nat.le_of_ble_eq_true h3.2.1, okw_in h3.2.2⟩
end XD
end
section
/-! the methods that are met, row by row (by wip/p1/gen15.py) -/
section XY
def xm0c : List XI := [(0, .aload_n 0, 0, []), (1, .invokespecial 3, 6, [83, 84, 85]), (4, .aload_n 0, 0, []), (5, .bipush 12, 0, []), (7, .anewarray 9, 1, [4, 86]), (10, .putfield 11, 1, [7, 0, 252]), (13, .aload_n 0, 0, []), (14, .new 15, 1, [6, 88, 89, 59]), (17, .dup, 0, []), (18, .invokespecial 17, 3, [3, 1, 0, 59, 92, 90, 91, 0]), (21, .putfield 18, 1, [7, 2, 254]), (24, .aload_n 0, 0, []), (25, .new 22, 1, [2, 110, 111, 60]), (28, .dup, 0, []), (29, .invokespecial 24, 3, [3, 2, 0, 60, 114, 112, 113, 0]), (32, .putfield 25, 1, [7, 3, 255]), (35, .aload_n 0, 0, []), (36, .new 22, 1, [2, 110, 111, 60]), (39, .dup, 0, []), (40, .invokespecial 24, 3, [3, 2, 0, 60, 114, 112, 113, 0]), (43, .putfield 29, 1, [7, 4, 256]), (46, .aload_n 0, 0, []), (47, .new 32, 1, [5, 132, 133, 61]), (50, .dup, 0, []), (51, .invokespecial 34, 3, [3, 3, 0, 61, 136, 134, 135, 0]), (54, .putfield 35, 1, [7, 5, 257]), (57, .aload_n 0, 0, []), (58, .new 39, 1, [1, 179, 180, 62]), (61, .dup, 0, []), (62, .invokespecial 41, 3, [3, 4, 0, 62, 183, 181, 182, 0]), (65, .putfield 42, 1, [7, 6, 258]), (68, .aload_n 0, 0, []), (69, .new 46, 1, [4, 199, 200, 63]), (72, .dup, 0, []), (73, .invokespecial 48, 3, [3, 5, 0, 63, 203, 201, 202, 0]), (76, .putfield 49, 1, [7, 7, 259]), (79, .aload_n 0, 0, []), (80, .new 53, 1, [0, 230, 231, 64]), (83, .dup, 0, []), (84, .invokespecial 55, 3, [3, 6, 0, 64, 234, 232, 233, 0]), (87, .putfield 56, 1, [7, 8, 260]), (90, .aload_n 0, 0, []), (91, .new 53, 1, [0, 230, 231, 64]), (94, .dup, 0, []), (95, .invokespecial 55, 3, [3, 6, 0, 64, 234, 232, 233, 0]), (98, .putfield 60, 1, [7, 9, 261]), (101, .aload_n 0, 0, []), (102, .sipush 5000, 0, []), (105, .putfield 63, 1, [7, 10, 262]), (108, .return_, 4, [])]
def xm0 : XM := (⟨"PackWright", "<init>", "()V"⟩, prog_1_method_1_code, 1, none, { frames := 3, cells := 32, slots := 543, locals := 52 }, [], xm0c, 1)
def xm1c : List XI := [(0, .aload_n 0, 0, []), (1, .invokespecial 3, 6, [93, 84, 85]), (4, .aload_n 0, 0, []), (5, .bipush 6, 0, []), (7, .anewarray 9, 1, [5, 94]), (10, .putfield 11, 1, [6, 0, 96]), (13, .return_, 4, [])]
def xm1 : XM := (⟨"PackWright$Wishes", "<init>", "()V"⟩, prog_11_method_1_code, 1, none, { frames := 1, cells := 1, slots := 6, locals := 12 }, [], xm1c, 1)
def xm2c : List XI := [(0, .aload_n 0, 0, []), (1, .invokespecial 3, 6, [115, 84, 85]), (4, .aload_n 0, 0, []), (5, .bipush 12, 0, []), (7, .anewarray 9, 1, [3, 116]), (10, .putfield 11, 1, [2, 0, 118]), (13, .aload_n 0, 0, []), (14, .bipush 12, 0, []), (16, .newarray .int, 1, [0, 131]), (18, .putfield 17, 1, [2, 1, 123]), (21, .return_, 4, [])]
def xm2 : XM := (⟨"PackWright$Choice", "<init>", "()V"⟩, prog_4_method_1_code, 1, none, { frames := 1, cells := 2, slots := 24, locals := 12 }, [], xm2c, 1)
def xm3c : List XI := [(0, .aload_n 0, 0, []), (1, .invokespecial 3, 6, [137, 84, 85]), (4, .aload_n 0, 0, []), (5, .new 9, 1, [6, 138, 89, 59]), (8, .dup, 0, []), (9, .invokespecial 11, 3, [3, 1, 0, 59, 92, 139, 91, 0]), (12, .putfield 12, 1, [5, 0, 143]), (15, .aload_n 0, 0, []), (16, .new 18, 1, [2, 140, 111, 60]), (19, .dup, 0, []), (20, .invokespecial 20, 3, [3, 2, 0, 60, 114, 141, 113, 0]), (23, .putfield 21, 1, [5, 1, 144]), (26, .aload_n 0, 0, []), (27, .bipush 96, 0, []), (29, .anewarray 25, 1, [3, 142]), (32, .putfield 27, 1, [5, 3, 148]), (35, .aload_n 0, 0, []), (36, .bipush 12, 0, []), (38, .newarray .int, 1, [0, 131]), (40, .putfield 31, 1, [5, 4, 149]), (43, .aload_n 0, 0, []), (44, .bipush 12, 0, []), (46, .newarray .int, 1, [0, 131]), (48, .putfield 35, 1, [5, 5, 150]), (51, .aload_n 0, 0, []), (52, .bipush 12, 0, []), (54, .newarray .int, 1, [0, 131]), (56, .putfield 38, 1, [5, 6, 151]), (59, .aload_n 0, 0, []), (60, .bipush 12, 0, []), (62, .newarray .int, 1, [0, 131]), (64, .putfield 41, 1, [5, 9, 154]), (67, .return_, 4, [])]
def xm3 : XM := (⟨"PackWright$Resolver", "<init>", "()V"⟩, prog_9_method_1_code, 1, none, { frames := 2, cells := 10, slots := 178, locals := 32 }, [], xm3c, 1)
def xm4c : List XI := [(0, .aload_n 0, 0, []), (1, .invokespecial 3, 6, [184, 84, 85]), (4, .aload_n 0, 0, []), (5, .bipush 12, 0, []), (7, .newarray .int, 1, [0, 131]), (9, .putfield 9, 1, [1, 0, 185]), (12, .aload_n 0, 0, []), (13, .bipush 12, 0, []), (15, .newarray .int, 1, [0, 131]), (17, .putfield 15, 1, [1, 1, 187]), (20, .aload_n 0, 0, []), (21, .bipush 12, 0, []), (23, .newarray .int, 1, [0, 131]), (25, .putfield 18, 1, [1, 2, 188]), (28, .return_, 4, [])]
def xm4 : XM := (⟨"PackWright$Chains", "<init>", "()V"⟩, prog_3_method_1_code, 1, none, { frames := 1, cells := 3, slots := 36, locals := 12 }, [], xm4c, 1)
def xm5c : List XI := [(0, .aload_n 0, 0, []), (1, .invokespecial 3, 6, [204, 84, 85]), (4, .aload_n 0, 0, []), (5, .bipush 12, 0, []), (7, .newarray .int, 1, [0, 131]), (9, .putfield 9, 1, [4, 3, 212]), (12, .aload_n 0, 0, []), (13, .bipush 12, 0, []), (15, .newarray .int, 1, [0, 131]), (17, .putfield 15, 1, [4, 4, 214]), (20, .aload_n 0, 0, []), (21, .bipush 12, 0, []), (23, .anewarray 18, 1, [3, 205]), (26, .putfield 20, 1, [4, 5, 216]), (29, .return_, 4, [])]
def xm5 : XM := (⟨"PackWright$Plan", "<init>", "()V"⟩, prog_7_method_1_code, 1, none, { frames := 1, cells := 3, slots := 36, locals := 12 }, [], xm5c, 1)
def xm6c : List XI := [(0, .aload_n 0, 0, []), (1, .invokespecial 3, 6, [235, 84, 85]), (4, .aload_n 0, 0, []), (5, .bipush 96, 0, []), (7, .anewarray 9, 1, [3, 236]), (10, .putfield 11, 1, [0, 0, 237]), (13, .aload_n 0, 0, []), (14, .sipush 2000, 0, []), (17, .putfield 17, 1, [0, 3, 241]), (20, .return_, 4, [])]
def xm6 : XM := (⟨"PackWright$Cache", "<init>", "()V"⟩, prog_2_method_1_code, 1, none, { frames := 1, cells := 1, slots := 96, locals := 12 }, [], xm6c, 1)
def xm7c : List XI := [(0, .aload_n 0, 0, []), (1, .invokespecial 1, 6, [1120, 84, 85]), (4, .aload_n 0, 0, []), (5, .bipush 12, 0, []), (7, .newarray .int, 1, [0, 131]), (9, .putfield 9, 1, [8, 2, 1132]), (12, .aload_n 0, 0, []), (13, .bipush 12, 0, []), (15, .bipush 8, 0, []), (17, .multianewarray 13 2, 1, [0, 131, 1121]), (21, .putfield 15, 1, [8, 3, 1133]), (24, .aload_n 0, 0, []), (25, .bipush 12, 0, []), (27, .bipush 8, 0, []), (29, .multianewarray 13 2, 1, [0, 131, 1121]), (33, .putfield 18, 1, [8, 4, 1134]), (36, .aload_n 0, 0, []), (37, .bipush 12, 0, []), (39, .bipush 8, 0, []), (41, .multianewarray 21 2, 1, [1, 1212, 1123]), (45, .putfield 23, 1, [8, 5, 1135]), (48, .aload_n 0, 0, []), (49, .bipush 12, 0, []), (51, .bipush 8, 0, []), (53, .multianewarray 13 2, 1, [0, 131, 1121]), (57, .putfield 26, 1, [8, 6, 1136]), (60, .aload_n 0, 0, []), (61, .bipush 12, 0, []), (63, .bipush 8, 0, []), (65, .multianewarray 13 2, 1, [0, 131, 1121]), (69, .putfield 29, 1, [8, 7, 1137]), (72, .aload_n 0, 0, []), (73, .bipush 12, 0, []), (75, .bipush 8, 0, []), (77, .bipush 25, 0, []), (79, .multianewarray 32 3, 1, [0, 131, 1125]), (83, .putfield 34, 1, [8, 8, 1138]), (86, .aload_n 0, 0, []), (87, .bipush 12, 0, []), (89, .bipush 8, 0, []), (91, .bipush 9, 0, []), (93, .multianewarray 32 3, 1, [0, 131, 1125]), (97, .putfield 37, 1, [8, 9, 1139]), (100, .aload_n 0, 0, []), (101, .bipush 24, 0, []), (103, .newarray .int, 1, [0, 131]), (105, .putfield 40, 1, [8, 11, 1141]), (108, .aload_n 0, 0, []), (109, .invokestatic 43, 3, [0, 8, 0, 65, 1129, 1127, 1128, 0]), (112, .putfield 47, 1, [8, 12, 1142]), (115, .aload_n 0, 0, []), (116, .invokestatic 43, 3, [0, 8, 0, 65, 1129, 1127, 1128, 0]), (119, .putfield 50, 1, [8, 14, 1144]), (122, .aload_n 0, 0, []), (123, .sipush 5000, 0, []), (126, .putfield 53, 1, [8, 15, 1145]), (129, .aload_n 0, 0, []), (130, .sipush 2000, 0, []), (133, .putfield 57, 1, [8, 16, 1146]), (136, .aload_n 0, 0, []), (137, .bipush 97, 0, []), (139, .newarray .int, 1, [0, 131]), (141, .putfield 60, 1, [8, 19, 1149]), (144, .aload_n 0, 0, []), (145, .bipush 12, 0, []), (147, .newarray .int, 1, [0, 131]), (149, .putfield 63, 1, [8, 23, 1153]), (152, .aload_n 0, 0, []), (153, .bipush 12, 0, []), (155, .newarray .int, 1, [0, 131]), (157, .putfield 66, 1, [8, 24, 1154]), (160, .aload_n 0, 0, []), (161, .invokestatic 43, 3, [0, 8, 0, 65, 1129, 1127, 1128, 0]), (164, .putfield 69, 1, [8, 25, 1155]), (167, .return_, 4, [])]
def xm7 : XM := (⟨"PackWrightModel", "<init>", "()V"⟩, prog_13_method_1_code, 1, none, { frames := 1, cells := 291, slots := 4213, locals := 21 }, [], xm7c, 1)
def xm8c : List XI := [(0, .bipush 12, 0, []), (2, .newarray .int, 1, [0, 131]), (4, .astore_n 0, 0, []), (5, .iconst 0, 0, []), (6, .istore_n 1, 0, []), (7, .iload_n 1, 0, []), (8, .bipush 12, 0, []), (10, .if_icmp .ge 13, 2, []), (13, .aload_n 0, 0, []), (14, .iload_n 1, 0, []), (15, .iconst (-1), 0, []), (16, .iastore, 1, []), (17, .iinc 1 1, 0, []), (20, .goto (-13), 2, []), (23, .aload_n 0, 0, []), (24, .areturn, 4, [])]
def xm8 : XM := (⟨"PackWrightModel", "nothing", "()[I"⟩, prog_13_method_2_code, 2, (some (.array .int)), { frames := 0, cells := 1, slots := 12, locals := 0 }, [], xm8c, 0)
def xm9c : List XI := [(0, .ldc2_w 342, 0, [58044, 558]), (3, .lstore_n 1, 0, []), (4, .lload_n 1, 0, []), (5, .aload_n 0, 0, []), (6, .invokevirtual 344, 3, [1, 10, 7, 58, 295, 559, 293, 294]), (9, .invokestatic 347, 3, [0, 11, 0, 58, 562, 560, 561, 0]), (12, .lstore_n 1, 0, []), (13, .lload_n 1, 0, []), (14, .aload_n 0, 0, []), (15, .invokevirtual 351, 3, [1, 12, 7, 58, 299, 564, 297, 298]), (18, .invokestatic 347, 3, [0, 11, 0, 58, 562, 560, 561, 0]), (21, .lstore_n 1, 0, []), (22, .lload_n 1, 0, []), (23, .aload_n 0, 0, []), (24, .invokevirtual 354, 3, [1, 13, 7, 58, 303, 565, 301, 302]), (27, .invokestatic 347, 3, [0, 11, 0, 58, 562, 560, 561, 0]), (30, .lstore_n 1, 0, []), (31, .lload_n 1, 0, []), (32, .aload_n 0, 0, []), (33, .invokevirtual 357, 3, [1, 14, 7, 58, 307, 566, 305, 306]), (36, .invokestatic 347, 3, [0, 11, 0, 58, 562, 560, 561, 0]), (39, .lstore_n 1, 0, []), (40, .lload_n 1, 0, []), (41, .aload_n 0, 0, []), (42, .invokevirtual 360, 3, [1, 16, 7, 58, 315, 567, 313, 314]), (45, .ifCond .eq 7, 2, []), (48, .iconst 1, 0, []), (49, .goto 4, 2, []), (53, .invokestatic 347, 3, [0, 11, 0, 58, 562, 560, 561, 0]), (56, .lstore_n 1, 0, []), (57, .lload_n 1, 0, []), (58, .aload_n 0, 0, []), (59, .invokevirtual 363, 3, [1, 20, 7, 58, 355, 568, 353, 354]), (62, .invokestatic 347, 3, [0, 11, 0, 58, 562, 560, 561, 0]), (65, .lstore_n 1, 0, []), (66, .lload_n 1, 0, []), (67, .aload_n 0, 0, []), (68, .invokevirtual 366, 3, [1, 25, 7, 58, 486, 569, 484, 485]), (71, .invokestatic 347, 3, [0, 11, 0, 58, 562, 560, 561, 0]), (74, .lstore_n 1, 0, []), (75, .lload_n 1, 0, []), (76, .aload_n 0, 0, []), (77, .invokevirtual 369, 3, [1, 26, 7, 58, 490, 570, 488, 489]), (80, .invokestatic 347, 3, [0, 11, 0, 58, 562, 560, 561, 0]), (83, .lstore_n 1, 0, []), (84, .lload_n 1, 0, []), (85, .aload_n 0, 0, []), (86, .invokevirtual 372, 3, [1, 29, 7, 58, 501, 571, 499, 500]), (89, .invokestatic 347, 3, [0, 11, 0, 58, 562, 560, 561, 0]), (92, .lstore_n 1, 0, []), (93, .lload_n 1, 0, []), (94, .aload_n 0, 0, []), (95, .invokevirtual 375, 3, [1, 30, 7, 58, 505, 572, 503, 504]), (98, .invokestatic 347, 3, [0, 11, 0, 58, 562, 560, 561, 0]), (101, .lstore_n 1, 0, []), (102, .lload_n 1, 0, []), (103, .aload_n 0, 0, []), (104, .invokevirtual 378, 3, [1, 31, 7, 58, 509, 573, 507, 508]), (107, .invokestatic 347, 3, [0, 11, 0, 58, 562, 560, 561, 0]), (110, .lstore_n 1, 0, []), (111, .lload_n 1, 0, []), (112, .aload_n 0, 0, []), (113, .invokevirtual 381, 3, [1, 33, 7, 58, 533, 574, 531, 532]), (116, .invokestatic 347, 3, [0, 11, 0, 58, 562, 560, 561, 0]), (119, .lstore_n 1, 0, []), (120, .lload_n 1, 0, []), (121, .aload_n 0, 0, []), (122, .invokevirtual 384, 3, [1, 34, 7, 58, 541, 575, 539, 540]), (125, .ifCond .eq 7, 2, []), (128, .iconst 1, 0, []), (129, .goto 4, 2, []), (133, .invokestatic 347, 3, [0, 11, 0, 58, 562, 560, 561, 0]), (136, .lstore_n 1, 0, []), (137, .iconst 0, 0, []), (138, .istore_n 3, 0, []), (139, .iload_n 3, 0, []), (140, .aload_n 0, 0, []), (141, .getfield 67, 1, [7, 1, 253]), (144, .if_icmp .ge 16, 2, []), (160, .iconst 0, 0, []), (161, .istore_n 3, 0, []), (162, .iload_n 3, 0, []), (163, .aload_n 0, 0, []), (164, .getfield 49, 1, [7, 7, 259]), (167, .getfield 284, 1, [4, 1, 209]), (170, .if_icmp .ge 29, 2, []), (199, .lload_n 1, 0, []), (200, .lreturn, 4, [])]
def xm9 : XM := (⟨"PackWright", "digest", "()J"⟩, prog_1_method_44_code, 4, (some .long), { frames := 5, cells := 0, slots := 0, locals := 113 }, [], xm9c, 1)
def xm10c : List XI := [(0, .aload_n 0, 0, []), (1, .getfield 67, 1, [7, 1, 253]), (4, .ireturn, 4, [])]
def xm10 : XM := (⟨"PackWright", "packages", "()I"⟩, prog_1_method_7_code, 1, (some .int), { frames := 0, cells := 0, slots := 0, locals := 0 }, [], xm10c, 1)
def xm11c : List XI := [(0, .lload_n 0, 0, []), (1, .ldc2_w 396, 0, [31, 563]), (4, .lmul, 0, []), (5, .iload_n 2, 0, []), (6, .i2l, 0, []), (7, .ladd, 0, []), (8, .lreturn, 4, [])]
def xm11 : XM := (⟨"PackWright", "mix", "(JI)J"⟩, prog_1_method_45_code, 3, (some .long), { frames := 0, cells := 0, slots := 0, locals := 0 }, [], xm11c, 2)
def xm12c : List XI := [(0, .aload_n 0, 0, []), (1, .getfield 18, 1, [7, 2, 254]), (4, .getfield 178, 1, [6, 1, 104]), (7, .ireturn, 4, [])]
def xm12 : XM := (⟨"PackWright", "wishes", "()I"⟩, prog_1_method_13_code, 1, (some .int), { frames := 0, cells := 0, slots := 0, locals := 0 }, [], xm12c, 1)
def xm13c : List XI := [(0, .aload_n 0, 0, []), (1, .getfield 204, 1, [7, 11, 263]), (4, .ireturn, 4, [])]
def xm13 : XM := (⟨"PackWright", "tries", "()I"⟩, prog_1_method_15_code, 1, (some .int), { frames := 0, cells := 0, slots := 0, locals := 0 }, [], xm13c, 1)
def xm14c : List XI := [(0, .aload_n 0, 0, []), (1, .getfield 25, 1, [7, 3, 255]), (4, .invokevirtual 229, 3, [1, 15, 2, 60, 311, 308, 309, 310]), (7, .ireturn, 4, [])]
def xm14 : XM := (⟨"PackWright", "lockedPackages", "()I"⟩, prog_1_method_17_code, 1, (some .int), { frames := 1, cells := 0, slots := 0, locals := 22 }, [], xm14c, 1)
def xm15c : List XI := [(0, .iconst 0, 0, []), (1, .istore_n 1, 0, []), (2, .iconst 0, 0, []), (3, .istore_n 2, 0, []), (4, .iload_n 2, 0, []), (5, .bipush 12, 0, []), (7, .if_icmp .ge 21, 2, []), (10, .aload_n 0, 0, []), (11, .getfield 11, 1, [2, 0, 118]), (14, .iload_n 2, 0, []), (15, .aaload, 1, []), (16, .ifnull 6, 2, []), (22, .iinc 2 1, 0, []), (25, .goto (-21), 2, []), (28, .iload_n 1, 0, []), (29, .ireturn, 4, [])]
def xm15 : XM := (⟨"PackWright$Choice", "countIn", "()I"⟩, prog_4_method_5_code, 3, (some .int), { frames := 0, cells := 0, slots := 0, locals := 0 }, [], xm15c, 1)
def xm16c : List XI := [(0, .aload_n 0, 0, []), (1, .getfield 25, 1, [7, 3, 255]), (4, .aload_n 0, 0, []), (5, .getfield 18, 1, [7, 2, 254]), (8, .invokevirtual 231, 3, [1, 17, 2, 60, 319, 316, 317, 318]), (11, .aload_n 0, 0, []), (12, .getfield 25, 1, [7, 3, 255]), (15, .aload_n 0, 0, []), (16, .getfield 18, 1, [7, 2, 254]), (19, .iconst 1, 0, []), (20, .invokevirtual 239, 3, [1, 19, 2, 60, 335, 332, 333, 334]), (23, .ireturn, 4, [])]
def xm16 : XM := (⟨"PackWright", "isSound", "()Z"⟩, prog_1_method_19_code, 1, (some .boolean), { frames := 2, cells := 0, slots := 0, locals := 46 }, [], xm16c, 1)
def xm17c : List XI := [(0, .iconst 0, 0, []), (1, .istore_n 2, 0, []), (2, .iload_n 2, 0, []), (3, .bipush 12, 0, []), (5, .if_icmp .ge 16, 2, []), (8, .aload_n 0, 0, []), (9, .getfield 17, 1, [2, 1, 123]), (12, .iload_n 2, 0, []), (13, .iconst 0, 0, []), (14, .iastore, 1, []), (15, .iinc 2 1, 0, []), (18, .goto (-16), 2, []), (21, .iconst 0, 0, []), (22, .istore_n 2, 0, []), (23, .iload_n 2, 0, []), (24, .aload_n 1, 0, []), (25, .getfield 25, 1, [6, 1, 102]), (28, .if_icmp .ge 20, 2, []), (48, .iconst 1, 0, []), (49, .istore_n 2, 0, []), (50, .iconst 0, 0, []), (51, .istore_n 3, 0, []), (52, .iload_n 2, 0, []), (53, .ifCond .eq 20, 2, []), (56, .iload_n 3, 0, []), (57, .bipush 48, 0, []), (59, .if_icmp .gt 14, 2, []), (62, .aload_n 0, 0, []), (63, .invokevirtual 39, 3, [1, 18, 2, 60, 327, 324, 326, 1]), (66, .istore_n 2, 0, []), (67, .iinc 3 1, 0, []), (70, .goto (-18), 2, []), (73, .return_, 4, [])]
def xm17 : XM := (⟨"PackWright$Choice", "turnOnFeatures", "(LPackWright$Wishes;)V"⟩, prog_4_method_7_code, 4, none, { frames := 1, cells := 0, slots := 0, locals := 23 }, [], xm17c, 2)
def xm18c : List XI := [(0, .iconst 0, 0, []), (1, .istore_n 1, 0, []), (2, .iconst 0, 0, []), (3, .istore_n 2, 0, []), (4, .iload_n 2, 0, []), (5, .bipush 12, 0, []), (7, .if_icmp .ge 67, 2, []), (10, .aload_n 0, 0, []), (11, .getfield 11, 1, [2, 0, 118]), (14, .iload_n 2, 0, []), (15, .aaload, 1, []), (16, .ifnonnull 7, 2, []), (19, .aconst_null, 0, []), (20, .goto 12, 2, []), (32, .astore_n 3, 0, []), (33, .aload_n 3, 0, []), (34, .ifnull 34, 2, []), (68, .iinc 2 1, 0, []), (71, .goto (-67), 2, []), (74, .iload_n 1, 0, []), (75, .ireturn, 4, [])]
def xm18 : XM := (⟨"PackWright$Choice", "turnOnByNeeds", "()Z"⟩, prog_4_method_8_code, 4, (some .boolean), { frames := 0, cells := 0, slots := 0, locals := 0 }, [], xm18c, 1)
def xm19c : List XI := [(0, .iconst 0, 0, []), (1, .istore_n 3, 0, []), (2, .iload_n 3, 0, []), (3, .aload_n 1, 0, []), (4, .getfield 25, 1, [6, 1, 102]), (7, .if_icmp .ge 25, 2, []), (32, .iconst 0, 0, []), (33, .istore_n 3, 0, []), (34, .iload_n 3, 0, []), (35, .bipush 12, 0, []), (37, .if_icmp .ge 49, 2, []), (40, .aload_n 0, 0, []), (41, .getfield 11, 1, [2, 0, 118]), (44, .iload_n 3, 0, []), (45, .aaload, 1, []), (46, .astore 4, 0, []), (48, .aload 4, 0, []), (50, .ifnull 30, 2, []), (80, .iinc 3 1, 0, []), (83, .goto (-49), 2, []), (86, .iconst 1, 0, []), (87, .ireturn, 4, [])]
def xm19 : XM := (⟨"PackWright$Choice", "meets", "(LPackWright$Wishes;Z)Z"⟩, prog_4_method_10_code, 5, (some .boolean), { frames := 0, cells := 0, slots := 0, locals := 0 }, [], xm19c, 3)
def xm20c : List XI := [(0, .aload_n 0, 0, []), (1, .invokevirtual 243, 3, [1, 21, 7, 58, 359, 356, 358, 5]), (4, .iconst 0, 0, []), (5, .istore_n 1, 0, []), (6, .iconst 0, 0, []), (7, .istore_n 2, 0, []), (8, .iload_n 2, 0, []), (9, .bipush 12, 0, []), (11, .if_icmp .ge 36, 2, []), (14, .aload_n 0, 0, []), (15, .getfield 25, 1, [7, 3, 255]), (18, .getfield 221, 1, [2, 0, 122]), (21, .iload_n 2, 0, []), (22, .aaload, 1, []), (23, .ifnull 18, 2, []), (41, .iinc 2 1, 0, []), (44, .goto (-36), 2, []), (47, .iload_n 1, 0, []), (48, .ireturn, 4, [])]
def xm20 : XM := (⟨"PackWright", "idle", "()I"⟩, prog_1_method_20_code, 3, (some .int), { frames := 4, cells := 0, slots := 0, locals := 91 }, [], xm20c, 1)
def xm21c : List XI := [(0, .aload_n 0, 0, []), (1, .getfield 25, 1, [7, 3, 255]), (4, .aload_n 0, 0, []), (5, .getfield 18, 1, [7, 2, 254]), (8, .invokevirtual 231, 3, [1, 17, 2, 60, 319, 316, 317, 318]), (11, .aload_n 0, 0, []), (12, .getfield 42, 1, [7, 6, 258]), (15, .aload_n 0, 0, []), (16, .getfield 25, 1, [7, 3, 255]), (19, .aload_n 0, 0, []), (20, .getfield 18, 1, [7, 2, 254]), (23, .invokevirtual 464, 3, [1, 22, 1, 62, 363, 360, 361, 362]), (26, .return_, 4, [])]
def xm21 : XM := (⟨"PackWright", "layChains", "()V"⟩, prog_1_method_60_code, 1, none, { frames := 3, cells := 0, slots := 0, locals := 71 }, [], xm21c, 1)
def xm22c : List XI := [(0, .aload_n 0, 0, []), (1, .iconst 0, 0, []), (2, .putfield 21, 1, [1, 3, 189]), (5, .iconst 0, 0, []), (6, .istore_n 3, 0, []), (7, .iload_n 3, 0, []), (8, .bipush 12, 0, []), (10, .if_icmp .ge 16, 2, []), (13, .aload_n 0, 0, []), (14, .getfield 9, 1, [1, 0, 185]), (17, .iload_n 3, 0, []), (18, .iconst 0, 0, []), (19, .iastore, 1, []), (20, .iinc 3 1, 0, []), (23, .goto (-16), 2, []), (26, .iconst 0, 0, []), (27, .istore_n 3, 0, []), (28, .iconst 0, 0, []), (29, .istore 4, 0, []), (31, .iload 4, 0, []), (33, .aload_n 2, 0, []), (34, .getfield 25, 1, [6, 1, 101]), (37, .if_icmp .ge 24, 2, []), (61, .aload_n 0, 0, []), (62, .aload_n 1, 0, []), (63, .iload_n 3, 0, []), (64, .iconst (-1), 0, []), (65, .iconst 1, 0, []), (66, .invokevirtual 39, 3, [1, 23, 1, 62, 367, 364, 366, 6]), (69, .iconst 0, 0, []), (70, .istore 4, 0, []), (72, .iload 4, 0, []), (74, .bipush 12, 0, []), (76, .if_icmp .ge 49, 2, []), (79, .iload 4, 0, []), (81, .aload_n 0, 0, []), (82, .getfield 21, 1, [1, 3, 189]), (85, .if_icmp .ge 40, 2, []), (125, .return_, 4, [])]
def xm22 : XM := (⟨"PackWright$Chains", "lay", "(LPackWright$Choice;LPackWright$Wishes;)V"⟩, prog_3_method_2_code, 6, none, { frames := 2, cells := 0, slots := 0, locals := 46 }, [], xm22c, 3)
def xm23c : List XI := [(0, .iconst 0, 0, []), (1, .istore 5, 0, []), (3, .iload 5, 0, []), (5, .bipush 12, 0, []), (7, .if_icmp .ge 85, 2, []), (10, .iload_n 2, 0, []), (11, .iload 5, 0, []), (13, .invokestatic 49, 3, [4, 24, 0, 58, 370, 368, 369, 0]), (16, .ifCond .eq 70, 2, []), (86, .iinc 5 1, 0, []), (89, .goto (-86), 2, []), (92, .return_, 4, [])]
def xm23 : XM := (⟨"PackWright$Chains", "link", "(LPackWright$Choice;III)V"⟩, prog_3_method_3_code, 6, none, { frames := 1, cells := 0, slots := 0, locals := 21 }, [], xm23c, 5)
def xm24c : List XI := [(0, .iload_n 0, 0, []), (1, .iload_n 1, 0, []), (2, .ishr, 0, []), (3, .iconst 1, 0, []), (4, .iand, 0, []), (5, .ifCond .eq 7, 2, []), (12, .iconst 0, 0, []), (13, .ireturn, 4, [])]
def xm24 : XM := (⟨"PackWright", "isIn", "(II)Z"⟩, prog_1_method_65_code, 2, (some .boolean), { frames := 0, cells := 0, slots := 0, locals := 0 }, [], xm24c, 2)
def xm25c : List XI := [(0, .aload_n 0, 0, []), (1, .getfield 49, 1, [7, 7, 259]), (4, .getfield 284, 1, [4, 1, 209]), (7, .ireturn, 4, [])]
def xm25 : XM := (⟨"PackWright", "steps", "()I"⟩, prog_1_method_30_code, 1, (some .int), { frames := 0, cells := 0, slots := 0, locals := 0 }, [], xm25c, 1)
def xm26c : List XI := [(0, .aload_n 0, 0, []), (1, .getfield 29, 1, [7, 4, 256]), (4, .invokevirtual 313, 3, [1, 27, 2, 60, 494, 491, 492, 493]), (7, .ireturn, 4, [])]
def xm26 : XM := (⟨"PackWright", "taken", "()I"⟩, prog_1_method_36_code, 1, (some .int), { frames := 2, cells := 0, slots := 0, locals := 42 }, [], xm26c, 1)
def xm27c : List XI := [(0, .iconst 0, 0, []), (1, .istore_n 1, 0, []), (2, .iconst 0, 0, []), (3, .istore_n 2, 0, []), (4, .iload_n 2, 0, []), (5, .bipush 12, 0, []), (7, .if_icmp .ge 21, 2, []), (10, .iload_n 1, 0, []), (11, .aload_n 0, 0, []), (12, .getfield 11, 1, [2, 0, 118]), (15, .iload_n 2, 0, []), (16, .aaload, 1, []), (17, .invokestatic 21, 3, [4, 28, 0, 58, 497, 495, 496, 0]), (20, .iadd, 0, []), (21, .istore_n 1, 0, []), (22, .iinc 2 1, 0, []), (25, .goto (-21), 2, []), (28, .iload_n 1, 0, []), (29, .ireturn, 4, [])]
def xm27 : XM := (⟨"PackWright$Choice", "sizes", "()I"⟩, prog_4_method_6_code, 3, (some .int), { frames := 1, cells := 0, slots := 0, locals := 20 }, [], xm27c, 1)
def xm28c : List XI := [(0, .aload_n 0, 0, []), (1, .ifnonnull 7, 2, []), (4, .iconst 0, 0, []), (5, .goto 7, 2, []), (12, .ireturn, 4, [])]
def xm28 : XM := (⟨"PackWright", "sizeOf", "(LPackWright$Version;)I"⟩, prog_1_method_64_code, 1, (some .int), { frames := 0, cells := 0, slots := 0, locals := 0 }, [], xm28c, 1)
def xm29c : List XI := [(0, .aload_n 0, 0, []), (1, .getfield 56, 1, [7, 8, 260]), (4, .getfield 316, 1, [0, 2, 240]), (7, .ireturn, 4, [])]
def xm29 : XM := (⟨"PackWright", "cached", "()I"⟩, prog_1_method_37_code, 1, (some .int), { frames := 0, cells := 0, slots := 0, locals := 0 }, [], xm29c, 1)
def xm30c : List XI := [(0, .aload_n 0, 0, []), (1, .getfield 322, 1, [7, 12, 264]), (4, .ireturn, 4, [])]
def xm30 : XM := (⟨"PackWright", "fetched", "()I"⟩, prog_1_method_39_code, 1, (some .int), { frames := 0, cells := 0, slots := 0, locals := 0 }, [], xm30c, 1)
def xm31c : List XI := [(0, .aload_n 0, 0, []), (1, .getfield 60, 1, [7, 9, 261]), (4, .aload_n 0, 0, []), (5, .getfield 56, 1, [7, 8, 260]), (8, .invokevirtual 325, 3, [1, 32, 0, 64, 513, 510, 511, 512]), (11, .iconst 0, 0, []), (12, .istore_n 1, 0, []), (13, .aload_n 0, 0, []), (14, .getfield 49, 1, [7, 7, 259]), (17, .getfield 298, 1, [4, 2, 211]), (20, .istore_n 2, 0, []), (21, .iload_n 2, 0, []), (22, .aload_n 0, 0, []), (23, .getfield 49, 1, [7, 7, 259]), (26, .getfield 284, 1, [4, 1, 209]), (29, .if_icmp .ge 49, 2, []), (78, .iload_n 1, 0, []), (79, .ireturn, 4, [])]
def xm31 : XM := (⟨"PackWright", "wouldFetch", "()I"⟩, prog_1_method_40_code, 4, (some .int), { frames := 1, cells := 0, slots := 0, locals := 22 }, [], xm31c, 1)
def xm32c : List XI := [(0, .iconst 0, 0, []), (1, .istore_n 2, 0, []), (2, .iload_n 2, 0, []), (3, .aload_n 1, 0, []), (4, .getfield 21, 1, [0, 1, 238]), (7, .if_icmp .ge 21, 2, []), (28, .aload_n 0, 0, []), (29, .aload_n 1, 0, []), (30, .getfield 21, 1, [0, 1, 238]), (33, .putfield 21, 1, [0, 1, 238]), (36, .aload_n 0, 0, []), (37, .aload_n 1, 0, []), (38, .getfield 24, 1, [0, 2, 239]), (41, .putfield 24, 1, [0, 2, 239]), (44, .aload_n 0, 0, []), (45, .aload_n 1, 0, []), (46, .getfield 17, 1, [0, 3, 241]), (49, .putfield 17, 1, [0, 3, 241]), (52, .return_, 4, [])]
def xm32 : XM := (⟨"PackWright$Cache", "become", "(LPackWright$Cache;)V"⟩, prog_2_method_2_code, 3, none, { frames := 0, cells := 0, slots := 0, locals := 0 }, [], xm32c, 2)
def xm33c : List XI := [(0, .aload_n 0, 0, []), (1, .getfield 29, 1, [7, 4, 256]), (4, .invokevirtual 313, 3, [1, 27, 2, 60, 494, 491, 492, 493]), (7, .istore_n 1, 0, []), (8, .iload_n 1, 0, []), (9, .istore_n 2, 0, []), (10, .aload_n 0, 0, []), (11, .getfield 49, 1, [7, 7, 259]), (14, .getfield 298, 1, [4, 2, 211]), (17, .istore_n 3, 0, []), (18, .iload_n 3, 0, []), (19, .aload_n 0, 0, []), (20, .getfield 49, 1, [7, 7, 259]), (23, .getfield 284, 1, [4, 1, 209]), (26, .if_icmp .ge 56, 2, []), (82, .iload_n 2, 0, []), (83, .ireturn, 4, [])]
def xm33 : XM := (⟨"PackWright", "roomNeeded", "()I"⟩, prog_1_method_41_code, 5, (some .int), { frames := 2, cells := 0, slots := 0, locals := 42 }, [], xm33c, 1)
def xm34c : List XI := [(0, .aload_n 0, 0, []), (1, .getfield 25, 1, [7, 3, 255]), (4, .aload_n 0, 0, []), (5, .getfield 29, 1, [7, 4, 256]), (8, .invokevirtual 210, 3, [1, 35, 2, 60, 545, 542, 543, 544]), (11, .ifCond .ne 7, 2, []), (14, .iconst 1, 0, []), (15, .goto 4, 2, []), (19, .ireturn, 4, [])]
def xm34 : XM := (⟨"PackWright", "isInstalled", "()Z"⟩, prog_1_method_42_code, 1, (some .boolean), { frames := 1, cells := 0, slots := 0, locals := 23 }, [], xm34c, 1)
def xm35c : List XI := [(0, .iconst 0, 0, []), (1, .istore_n 2, 0, []), (2, .iconst 0, 0, []), (3, .istore_n 3, 0, []), (4, .iload_n 3, 0, []), (5, .bipush 12, 0, []), (7, .if_icmp .ge 27, 2, []), (10, .aload_n 0, 0, []), (11, .getfield 11, 1, [2, 0, 118]), (14, .iload_n 3, 0, []), (15, .aaload, 1, []), (16, .aload_n 1, 0, []), (17, .getfield 11, 1, [2, 0, 118]), (20, .iload_n 3, 0, []), (21, .aaload, 1, []), (22, .if_acmp .eq 6, 2, []), (28, .iinc 3 1, 0, []), (31, .goto (-27), 2, []), (34, .iload_n 2, 0, []), (35, .ireturn, 4, [])]
def xm35 : XM := (⟨"PackWright$Choice", "differencesFrom", "(LPackWright$Choice;)I"⟩, prog_4_method_4_code, 4, (some .int), { frames := 0, cells := 0, slots := 0, locals := 0 }, [], xm35c, 2)
def xm36c : List XI := [(0, .aload_n 0, 0, []), (1, .iconst 0, 0, []), (2, .putfield 78, 1, [8, 0, 1130]), (5, .ldc2_w 243, 0, [1799364, 1534]), (8, .aload_n 0, 0, []), (9, .getfield 81, 1, [8, 1, 1131]), (12, .i2l, 0, []), (13, .ladd, 0, []), (14, .ldc2_w 245, 0, [31, 1535]), (17, .lmul, 0, []), (18, .aload_n 0, 0, []), (19, .getfield 113, 1, [8, 10, 1140]), (22, .i2l, 0, []), (23, .ladd, 0, []), (24, .lstore_n 1, 0, []), (25, .iconst 0, 0, []), (26, .istore_n 3, 0, []), (27, .iconst 0, 0, []), (28, .istore 4, 0, []), (30, .iload 4, 0, []), (32, .aload_n 0, 0, []), (33, .getfield 81, 1, [8, 1, 1131]), (36, .if_icmp .ge 28, 2, []), (64, .aload_n 0, 0, []), (65, .invokevirtual 176, 3, [1, 37, 8, 65, 1385, 1382, 1384, 42]), (68, .astore 4, 0, []), (70, .iconst 0, 0, []), (71, .istore 5, 0, []), (73, .iconst 0, 0, []), (74, .istore 6, 0, []), (76, .iload 6, 0, []), (78, .aload_n 0, 0, []), (79, .getfield 81, 1, [8, 1, 1131]), (82, .if_icmp .ge 38, 2, []), (120, .lload_n 1, 0, []), (121, .ldc2_w 245, 0, [31, 1535]), (124, .lmul, 0, []), (125, .aload_n 0, 0, []), (126, .getfield 162, 1, [8, 13, 1143]), (129, .i2l, 0, []), (130, .ladd, 0, []), (131, .ldc2_w 245, 0, [31, 1535]), (134, .lmul, 0, []), (135, .iload_n 3, 0, []), (136, .i2l, 0, []), (137, .ladd, 0, []), (138, .ldc2_w 245, 0, [31, 1535]), (141, .lmul, 0, []), (142, .aload_n 0, 0, []), (143, .aload_n 0, 0, []), (144, .getfield 47, 1, [8, 12, 1142]), (147, .aload_n 0, 0, []), (148, .invokevirtual 146, 3, [1, 38, 8, 65, 1303, 1300, 1302, 31]), (151, .iconst 0, 0, []), (152, .invokevirtual 138, 3, [1, 40, 8, 65, 1337, 1334, 1336, 38]), (155, .ifCond .eq 7, 2, []), (158, .iconst 1, 0, []), (159, .goto 4, 2, []), (163, .i2l, 0, []), (164, .ladd, 0, []), (165, .ldc2_w 245, 0, [31, 1535]), (168, .lmul, 0, []), (169, .iload 5, 0, []), (171, .i2l, 0, []), (172, .ladd, 0, []), (173, .lstore_n 1, 0, []), (174, .lload_n 1, 0, []), (175, .ldc2_w 245, 0, [31, 1535]), (178, .lmul, 0, []), (179, .aload_n 0, 0, []), (180, .invokevirtual 216, 3, [1, 41, 8, 65, 1452, 1449, 1451, 50]), (183, .i2l, 0, []), (184, .ladd, 0, []), (185, .ldc2_w 245, 0, [31, 1535]), (188, .lmul, 0, []), (189, .aload_n 0, 0, []), (190, .invokevirtual 219, 3, [1, 42, 8, 65, 1468, 1465, 1467, 51]), (193, .i2l, 0, []), (194, .ladd, 0, []), (195, .ldc2_w 245, 0, [31, 1535]), (198, .lmul, 0, []), (199, .aload_n 0, 0, []), (200, .invokevirtual 194, 3, [1, 43, 8, 65, 1429, 1426, 1428, 47]), (203, .i2l, 0, []), (204, .ladd, 0, []), (205, .ldc2_w 245, 0, [31, 1535]), (208, .lmul, 0, []), (209, .aload_n 0, 0, []), (210, .getfield 225, 1, [8, 17, 1147]), (213, .i2l, 0, []), (214, .ladd, 0, []), (215, .lstore_n 1, 0, []), (216, .lload_n 1, 0, []), (217, .ldc2_w 245, 0, [31, 1535]), (220, .lmul, 0, []), (221, .aload_n 0, 0, []), (222, .invokevirtual 228, 3, [1, 44, 8, 65, 1508, 1505, 1507, 54]), (225, .i2l, 0, []), (226, .ladd, 0, []), (227, .ldc2_w 245, 0, [31, 1535]), (230, .lmul, 0, []), (231, .aload_n 0, 0, []), (232, .invokevirtual 236, 3, [1, 45, 8, 65, 1516, 1513, 1515, 55]), (235, .i2l, 0, []), (236, .ladd, 0, []), (237, .ldc2_w 245, 0, [31, 1535]), (240, .lmul, 0, []), (241, .aload_n 0, 0, []), (242, .invokevirtual 239, 3, [1, 46, 8, 65, 1525, 1522, 1524, 56]), (245, .ifCond .eq 7, 2, []), (248, .iconst 1, 0, []), (249, .goto 4, 2, []), (253, .i2l, 0, []), (254, .ladd, 0, []), (255, .lstore_n 1, 0, []), (256, .aload_n 0, 0, []), (257, .aload_n 0, 0, []), (258, .getfield 47, 1, [8, 12, 1142]), (261, .aload_n 0, 0, []), (262, .invokevirtual 146, 3, [1, 38, 8, 65, 1303, 1300, 1302, 31]), (265, .invokevirtual 120, 3, [1, 39, 8, 65, 1314, 1311, 1313, 33]), (268, .astore 6, 0, []), (270, .iconst 0, 0, []), (271, .istore 7, 0, []), (273, .iload 7, 0, []), (275, .aload_n 0, 0, []), (276, .getfield 81, 1, [8, 1, 1131]), (279, .if_icmp .ge 213, 2, []), (492, .iconst 0, 0, []), (493, .istore 7, 0, []), (495, .iload 7, 0, []), (497, .aload_n 0, 0, []), (498, .invokevirtual 216, 3, [1, 41, 8, 65, 1452, 1449, 1451, 50]), (501, .if_icmp .ge 37, 2, []), (538, .lload_n 1, 0, []), (539, .lreturn, 4, [])]
def xm36 : XM := (⟨"PackWrightModel", "digest", "()J"⟩, prog_13_method_83_code, 9, (some .long), { frames := 2, cells := 4, slots := 48, locals := 56 }, [], xm36c, 1)
def xm37c : List XI := [(0, .bipush 12, 0, []), (2, .newarray .int, 1, [0, 131]), (4, .astore_n 1, 0, []), (5, .aload_n 0, 0, []), (6, .aload_n 0, 0, []), (7, .getfield 47, 1, [8, 12, 1142]), (10, .aload_n 0, 0, []), (11, .invokevirtual 146, 3, [1, 38, 8, 65, 1303, 1300, 1302, 31]), (14, .invokevirtual 120, 3, [1, 39, 8, 65, 1314, 1311, 1313, 33]), (17, .astore_n 2, 0, []), (18, .iconst 0, 0, []), (19, .istore_n 3, 0, []), (20, .iload_n 3, 0, []), (21, .aload_n 0, 0, []), (22, .getfield 113, 1, [8, 10, 1140]), (25, .if_icmp .ge 37, 2, []), (62, .iconst 1, 0, []), (63, .istore_n 3, 0, []), (64, .iload_n 3, 0, []), (65, .aload_n 0, 0, []), (66, .getfield 81, 1, [8, 1, 1131]), (69, .if_icmp .ge 104, 2, []), (173, .aload_n 1, 0, []), (174, .areturn, 4, [])]
def xm37 : XM := (⟨"PackWrightModel", "depths", "()[I"⟩, prog_13_method_45_code, 7, (some (.array .int)), { frames := 1, cells := 2, slots := 24, locals := 28 }, [], xm37c, 1)
def xm38c : List XI := [(0, .iconst 1, 0, []), (1, .aload_n 0, 0, []), (2, .getfield 113, 1, [8, 10, 1140]), (5, .ishl, 0, []), (6, .iconst 1, 0, []), (7, .isub, 0, []), (8, .ireturn, 4, [])]
def xm38 : XM := (⟨"PackWrightModel", "allWishes", "()I"⟩, prog_13_method_33_code, 1, (some .int), { frames := 0, cells := 0, slots := 0, locals := 0 }, [], xm38c, 1)
def xm39c : List XI := [(0, .bipush 12, 0, []), (2, .newarray .int, 1, [0, 131]), (4, .astore_n 3, 0, []), (5, .iconst 0, 0, []), (6, .istore 4, 0, []), (8, .iload 4, 0, []), (10, .aload_n 0, 0, []), (11, .getfield 113, 1, [8, 10, 1140]), (14, .if_icmp .ge 58, 2, []), (72, .iconst 1, 0, []), (73, .istore 4, 0, []), (75, .iload 4, 0, []), (77, .ifCond .eq 154, 2, []), (80, .iconst 0, 0, []), (81, .istore 4, 0, []), (83, .iconst 0, 0, []), (84, .istore 5, 0, []), (86, .iload 5, 0, []), (88, .aload_n 0, 0, []), (89, .getfield 81, 1, [8, 1, 1131]), (92, .if_icmp .ge 136, 2, []), (228, .goto (-153), 2, []), (231, .aload_n 3, 0, []), (232, .areturn, 4, [])]
def xm39 : XM := (⟨"PackWrightModel", "features", "([II)[I"⟩, prog_13_method_25_code, 9, (some (.array .int)), { frames := 0, cells := 1, slots := 12, locals := 0 }, [], xm39c, 3)
def xm40c : List XI := [(0, .aload_n 0, 0, []), (1, .aload_n 1, 0, []), (2, .iload_n 2, 0, []), (3, .invokevirtual 120, 3, [1, 39, 8, 65, 1314, 1311, 1313, 33]), (6, .astore 4, 0, []), (8, .iconst 0, 0, []), (9, .istore 5, 0, []), (11, .iload 5, 0, []), (13, .aload_n 0, 0, []), (14, .getfield 113, 1, [8, 10, 1140]), (17, .if_icmp .ge 60, 2, []), (77, .iconst 0, 0, []), (78, .istore 5, 0, []), (80, .iload 5, 0, []), (82, .aload_n 0, 0, []), (83, .getfield 81, 1, [8, 1, 1131]), (86, .if_icmp .ge 201, 2, []), (287, .iconst 1, 0, []), (288, .ireturn, 4, [])]
def xm40 : XM := (⟨"PackWrightModel", "goesTogether", "([IIZ)Z"⟩, prog_13_method_28_code, 9, (some .boolean), { frames := 1, cells := 1, slots := 12, locals := 28 }, [], xm40c, 4)
def xm41c : List XI := [(0, .aload_n 0, 0, []), (1, .getfield 169, 1, [8, 20, 1150]), (4, .ifCond .eq 10, 2, []), (14, .iconst 0, 0, []), (15, .ireturn, 4, [])]
def xm41 : XM := (⟨"PackWrightModel", "stepsNow", "()I"⟩, prog_13_method_65_code, 1, (some .int), { frames := 0, cells := 0, slots := 0, locals := 0 }, [], xm41c, 1)
def xm42c : List XI := [(0, .iconst 0, 0, []), (1, .istore_n 1, 0, []), (2, .iconst 0, 0, []), (3, .istore_n 2, 0, []), (4, .iload_n 2, 0, []), (5, .aload_n 0, 0, []), (6, .getfield 81, 1, [8, 1, 1131]), (9, .if_icmp .ge 39, 2, []), (48, .iload_n 1, 0, []), (49, .ireturn, 4, [])]
def xm42 : XM := (⟨"PackWrightModel", "takenNow", "()I"⟩, prog_13_method_61_code, 3, (some .int), { frames := 0, cells := 0, slots := 0, locals := 0 }, [], xm42c, 1)
def xm43c : List XI := [(0, .iconst 0, 0, []), (1, .istore_n 1, 0, []), (2, .iconst 0, 0, []), (3, .istore_n 2, 0, []), (4, .iload_n 2, 0, []), (5, .aload_n 0, 0, []), (6, .getfield 188, 1, [8, 18, 1148]), (9, .if_icmp .ge 22, 2, []), (31, .iload_n 1, 0, []), (32, .ireturn, 4, [])]
def xm43 : XM := (⟨"PackWrightModel", "cachedSize", "()I"⟩, prog_13_method_56_code, 3, (some .int), { frames := 0, cells := 0, slots := 0, locals := 0 }, [], xm43c, 1)
def xm44c : List XI := [(0, .aload_n 0, 0, []), (1, .getfield 169, 1, [8, 20, 1150]), (4, .ifCond .ne 5, 2, []), (7, .iconst 0, 0, []), (8, .ireturn, 4, [])]
def xm44 : XM := (⟨"PackWrightModel", "fetchLater", "()I"⟩, prog_13_method_76_code, 5, (some .int), { frames := 0, cells := 0, slots := 0, locals := 0 }, [], xm44c, 1)
def xm45c : List XI := [(0, .aload_n 0, 0, []), (1, .invokevirtual 219, 3, [1, 42, 8, 65, 1468, 1465, 1467, 51]), (4, .istore_n 1, 0, []), (5, .aload_n 0, 0, []), (6, .getfield 169, 1, [8, 20, 1150]), (9, .ifCond .ne 5, 2, []), (12, .iload_n 1, 0, []), (13, .ireturn, 4, [])]
def xm45 : XM := (⟨"PackWrightModel", "roomLater", "()I"⟩, prog_13_method_78_code, 4, (some .int), { frames := 1, cells := 0, slots := 0, locals := 22 }, [], xm45c, 1)
def xm46c : List XI := [(0, .iconst 0, 0, []), (1, .istore_n 1, 0, []), (2, .iload_n 1, 0, []), (3, .aload_n 0, 0, []), (4, .getfield 81, 1, [8, 1, 1131]), (7, .if_icmp .ge 26, 2, []), (33, .iconst 1, 0, []), (34, .ireturn, 4, [])]
def xm46 : XM := (⟨"PackWrightModel", "isAsLocked", "()Z"⟩, prog_13_method_80_code, 2, (some .boolean), { frames := 0, cells := 0, slots := 0, locals := 0 }, [], xm46c, 1)
def xm47c : List XI := [(0, .iconst 0, 0, []), (1, .istore_n 1, 0, []), (2, .iconst 0, 0, []), (3, .istore_n 2, 0, []), (4, .iconst 0, 0, []), (5, .istore_n 3, 0, []), (6, .iload_n 3, 0, []), (7, .aload_n 0, 0, []), (8, .getfield 67, 1, [7, 1, 253]), (11, .if_icmp .ge 33, 2, []), (44, .iload_n 2, 0, []), (45, .ifCond .ne 7, 2, []), (48, .dconst 0, 0, []), (49, .goto 8, 2, []), (57, .dreturn, 4, [])]
def xm47 : XM := (⟨"PackWright", "meanSize", "()D"⟩, prog_1_method_43_code, 4, (some .double), { frames := 0, cells := 0, slots := 0, locals := 0 }, [], xm47c, 1)
def xm48c : List XI := [(0, .aload_n 0, 0, []), (1, .iconst 0, 0, []), (2, .putfield 78, 1, [8, 0, 1130]), (5, .iconst 0, 0, []), (6, .istore_n 1, 0, []), (7, .iconst 0, 0, []), (8, .istore_n 2, 0, []), (9, .iconst 0, 0, []), (10, .istore_n 3, 0, []), (11, .iload_n 3, 0, []), (12, .aload_n 0, 0, []), (13, .getfield 81, 1, [8, 1, 1131]), (16, .if_icmp .ge 50, 2, []), (66, .iload_n 2, 0, []), (67, .ifCond .ne 7, 2, []), (70, .dconst 0, 0, []), (71, .goto 8, 2, []), (79, .dreturn, 4, [])]
def xm48 : XM := (⟨"PackWrightModel", "meanSize", "()D"⟩, prog_13_method_82_code, 5, (some .double), { frames := 0, cells := 0, slots := 0, locals := 0 }, [], xm48c, 1)
def xm49c : List XI := [(0, .aload_n 0, 0, []), (1, .iconst 0, 0, []), (2, .putfield 78, 1, [8, 0, 1130]), (5, .aload_n 0, 0, []), (6, .invokevirtual 239, 3, [1, 46, 8, 65, 1525, 1522, 1524, 56]), (9, .ireturn, 4, [])]
def xm49 : XM := (⟨"PackWrightModel", "isInstalled", "()Z"⟩, prog_13_method_81_code, 1, (some .boolean), { frames := 1, cells := 0, slots := 0, locals := 21 }, [], xm49c, 1)
def xm50c : List XI := [(0, .aload_n 0, 0, []), (1, .aload_n 0, 0, []), (2, .invokevirtual 236, 3, [1, 45, 8, 65, 1516, 1513, 1515, 55]), (5, .invokevirtual 103, 3, [1, 51, 8, 65, 1264, 1261, 1263, 29]), (8, .ireturn, 4, [])]
def xm50 : XM := (⟨"PackWrightModel", "roomNeeded", "()I"⟩, prog_13_method_79_code, 1, (some .int), { frames := 2, cells := 0, slots := 0, locals := 45 }, [], xm50c, 1)
def xm51c : List XI := [(0, .aload_n 0, 0, []), (1, .iconst 0, 0, []), (2, .putfield 78, 1, [8, 0, 1130]), (5, .iload_n 1, 0, []), (6, .ireturn, 4, [])]
def xm51 : XM := (⟨"PackWrightModel", "ok", "(I)I"⟩, prog_13_method_6_code, 2, (some .int), { frames := 0, cells := 0, slots := 0, locals := 0 }, [], xm51c, 2)
def xm52c : List XI := [(0, .aload_n 0, 0, []), (1, .aload_n 0, 0, []), (2, .invokevirtual 228, 3, [1, 44, 8, 65, 1508, 1505, 1507, 54]), (5, .invokevirtual 103, 3, [1, 51, 8, 65, 1264, 1261, 1263, 29]), (8, .ireturn, 4, [])]
def xm52 : XM := (⟨"PackWrightModel", "wouldFetch", "()I"⟩, prog_13_method_77_code, 1, (some .int), { frames := 1, cells := 0, slots := 0, locals := 24 }, [], xm52c, 1)
def xm53c : List XI := [(0, .aload_n 0, 0, []), (1, .aload_n 0, 0, []), (2, .getfield 225, 1, [8, 17, 1147]), (5, .invokevirtual 103, 3, [1, 51, 8, 65, 1264, 1261, 1263, 29]), (8, .ireturn, 4, [])]
def xm53 : XM := (⟨"PackWrightModel", "fetched", "()I"⟩, prog_13_method_75_code, 1, (some .int), { frames := 1, cells := 0, slots := 0, locals := 21 }, [], xm53c, 1)
def xm54c : List XI := [(0, .aload_n 3, 0, []), (1, .iconst 0, 0, []), (2, .aload_n 0, 0, []), (3, .iload_n 1, 0, []), (4, .iload_n 2, 0, []), (5, .invokevirtual 97, 3, [1, 55, 7, 58, 701, 1114, 699, 700]), (13, .astore 4, 0, []), (15, .iconst 1, 0, []), (16, .ireturn, 4, [])]
def xm54 : XM := (⟨"PackWrightLaw", "ageOf", "(LPackWright;II[J)I"⟩, method_28_code, 5, (some .int), { frames := 9, cells := 1, slots := 6, locals := 148 }, [(0, 10, 13, 19)], xm54c, 4)
def xm55c : List XI := [(0, .aload_n 0, 0, []), (1, .getfield 56, 1, [7, 8, 260]), (4, .aload_n 0, 0, []), (5, .iload_n 1, 0, []), (6, .iload_n 2, 0, []), (7, .invokevirtual 154, 3, [1, 56, 7, 58, 705, 702, 704, 21])]
def xm55 : XM := (⟨"PackWright", "ageOf", "(II)I"⟩, prog_1_method_38_code, 3, (some .int), { frames := 8, cells := 1, slots := 6, locals := 126 }, [], xm55c, 3)
def xm56c : List XI := [(0, .aload_n 0, 0, []), (1, .iload_n 1, 0, []), (2, .invokevirtual 78, 3, [1, 57, 7, 58, 587, 584, 586, 19])]
def xm56 : XM := (⟨"PackWright", "versionThatIs", "(II)LPackWright$Version;"⟩, prog_1_method_48_code, 4, (some (.object "PackWright$Version")), { frames := 7, cells := 1, slots := 6, locals := 103 }, [], xm56c, 3)
def xm57c : List XI := [(0, .iload_n 1, 0, []), (1, .ifCond .lt 11, 2, []), (4, .iload_n 1, 0, []), (5, .aload_n 0, 0, []), (6, .getfield 67, 1, [7, 1, 253]), (9, .if_icmp .lt 14, 2, []), (12, .new 166, 5, [0, 425, 170, 1, 588, 71, 630, 629])]
def xm57 : XM := (⟨"PackWright", "packThatIs", "(I)LPackWright$Pack;"⟩, prog_1_method_47_code, 2, (some (.object "PackWright$Pack")), { frames := 6, cells := 1, slots := 6, locals := 82 }, [], xm57c, 2)
def xm58c : List XI := [(0, .aload_n 0, 0, []), (1, .iconst 0, 0, []), (2, .putfield 78, 1, [8, 0, 1130]), (5, .aload_n 0, 0, []), (6, .iload_n 1, 0, []), (7, .invokevirtual 92, 3, [1, 59, 8, 65, 1232, 1229, 1231, 28]), (10, .ifCond .eq 32, 2, []), (42, .aload_n 0, 0, []), (43, .iconst 1, 0, []), (44, .invokevirtual 88, 3, [1, 61, 8, 65, 1224, 1221, 1223, 27]), (47, .ireturn, 4, [])]
def xm58 : XM := (⟨"PackWrightModel", "ageOf", "(II)I"⟩, prog_13_method_74_code, 3, (some .int), { frames := 2, cells := 0, slots := 0, locals := 43 }, [], xm58c, 3)
def xm59c : List XI := [(0, .iload_n 1, 0, []), (1, .iconst 0, 0, []), (2, .aload_n 0, 0, []), (3, .getfield 81, 1, [8, 1, 1131]), (6, .iconst 1, 0, []), (7, .isub, 0, []), (8, .invokestatic 84, 3, [0, 60, 0, 65, 1235, 1233, 1234, 0]), (11, .ireturn, 4, [])]
def xm59 : XM := (⟨"PackWrightModel", "isPackage", "(I)Z"⟩, prog_13_method_8_code, 2, (some .boolean), { frames := 1, cells := 0, slots := 0, locals := 22 }, [], xm59c, 2)
def xm60c : List XI := [(0, .iload_n 0, 0, []), (1, .iload_n 1, 0, []), (2, .if_icmp .lt 12, 2, []), (5, .iload_n 0, 0, []), (6, .iload_n 2, 0, []), (7, .if_icmp .gt 7, 2, []), (10, .iconst 1, 0, []), (11, .goto 4, 2, []), (14, .iconst 0, 0, []), (15, .ireturn, 4, [])]
def xm60 : XM := (⟨"PackWrightModel", "isIn", "(III)Z"⟩, prog_13_method_7_code, 3, (some .boolean), { frames := 0, cells := 0, slots := 0, locals := 0 }, [], xm60c, 3)
def xm61c : List XI := [(0, .aload_n 0, 0, []), (1, .iload_n 1, 0, []), (2, .putfield 78, 1, [8, 0, 1130]), (5, .iconst 0, 0, []), (6, .ireturn, 4, [])]
def xm61 : XM := (⟨"PackWrightModel", "no", "(I)I"⟩, prog_13_method_5_code, 2, (some .int), { frames := 0, cells := 0, slots := 0, locals := 0 }, [], xm61c, 2)
def xm62c : List XI := [(0, .aload_n 0, 0, []), (1, .getfield 78, 1, [8, 0, 1130]), (4, .ireturn, 4, [])]
def xm62 : XM := (⟨"PackWrightModel", "thrown", "()I"⟩, prog_13_method_4_code, 1, (some .int), { frames := 0, cells := 0, slots := 0, locals := 0 }, [], xm62c, 1)
def xm63c : List XI := [(0, .aload_n 0, 0, []), (1, .aload_n 0, 0, []), (2, .invokevirtual 194, 3, [1, 43, 8, 65, 1429, 1426, 1428, 47]), (5, .invokevirtual 103, 3, [1, 51, 8, 65, 1264, 1261, 1263, 29]), (8, .ireturn, 4, [])]
def xm63 : XM := (⟨"PackWrightModel", "cached", "()I"⟩, prog_13_method_73_code, 1, (some .int), { frames := 1, cells := 0, slots := 0, locals := 22 }, [], xm63c, 1)
def xm64c : List XI := [(0, .aload_n 0, 0, []), (1, .aload_n 0, 0, []), (2, .invokevirtual 219, 3, [1, 42, 8, 65, 1468, 1465, 1467, 51]), (5, .invokevirtual 103, 3, [1, 51, 8, 65, 1264, 1261, 1263, 29]), (8, .ireturn, 4, [])]
def xm64 : XM := (⟨"PackWrightModel", "taken", "()I"⟩, prog_13_method_72_code, 1, (some .int), { frames := 1, cells := 0, slots := 0, locals := 22 }, [], xm64c, 1)
def xm65c : List XI := [(0, .aload_n 2, 0, []), (1, .iconst 0, 0, []), (2, .aload_n 0, 0, []), (3, .iload_n 1, 0, []), (4, .invokevirtual 94, 3, [1, 66, 7, 58, 697, 1110, 695, 696]), (12, .astore_n 3, 0, []), (13, .iconst 1, 0, []), (14, .ireturn, 4, [])]
def xm65 : XM := (⟨"PackWrightLaw", "installed", "(LPackWright;I[J)I"⟩, method_27_code, 4, (some .int), { frames := 8, cells := 1, slots := 6, locals := 124 }, [(0, 9, 12, 19)], xm65c, 3)
def xm66c : List XI := [(0, .aload_n 0, 0, []), (1, .iload_n 1, 0, []), (2, .invokevirtual 78, 3, [1, 57, 7, 58, 587, 584, 586, 19])]
def xm66 : XM := (⟨"PackWright", "installed", "(I)I"⟩, prog_1_method_35_code, 2, (some .int), { frames := 7, cells := 1, slots := 6, locals := 103 }, [], xm66c, 2)
def xm67c : List XI := [(0, .aload_n 0, 0, []), (1, .iconst 0, 0, []), (2, .putfield 78, 1, [8, 0, 1130]), (5, .aload_n 0, 0, []), (6, .iload_n 1, 0, []), (7, .invokevirtual 92, 3, [1, 59, 8, 65, 1232, 1229, 1231, 28]), (10, .ifCond .eq 12, 2, []), (22, .aload_n 0, 0, []), (23, .iconst 1, 0, []), (24, .invokevirtual 88, 3, [1, 61, 8, 65, 1224, 1221, 1223, 27]), (27, .ireturn, 4, [])]
def xm67 : XM := (⟨"PackWrightModel", "installed", "(I)I"⟩, prog_13_method_71_code, 2, (some .int), { frames := 2, cells := 0, slots := 0, locals := 43 }, [], xm67c, 2)
def xm68c : List XI := [(0, .aload_n 1, 0, []), (1, .iconst 0, 0, []), (2, .aload_n 0, 0, []), (3, .invokevirtual 91, 3, [1, 69, 7, 58, 1102, 1099, 1100, 1101]), (11, .astore_n 2, 0, []), (12, .iconst 1, 0, []), (13, .ireturn, 4, [])]
def xm68 : XM := (⟨"PackWrightLaw", "rollBack", "(LPackWright;[J)I"⟩, method_26_code, 3, (some .int), { frames := 8, cells := 1, slots := 6, locals := 123 }, [(0, 8, 11, 13)], xm68c, 2)
def xm69c : List XI := [(0, .aload_n 0, 0, []), (1, .invokevirtual 295, 3, [1, 70, 7, 58, 1087, 1084, 1086, 25])]
def xm69 : XM := (⟨"PackWright", "rollBack", "()I"⟩, prog_1_method_34_code, 2, (some .int), { frames := 7, cells := 1, slots := 6, locals := 102 }, [], xm69c, 1)
def xm70c : List XI := [(0, .aload_n 0, 0, []), (1, .getfield 49, 1, [7, 7, 259]), (4, .getfield 446, 1, [4, 0, 207]), (7, .ifCond .ne 14, 2, []), (10, .new 70, 5, [2, 449, 74, 1, 729, 69, 739, 1088])]
def xm70 : XM := (⟨"PackWright", "requirePlan", "()V"⟩, prog_1_method_56_code, 1, none, { frames := 6, cells := 1, slots := 6, locals := 82 }, [], xm70c, 1)
def xm71c : List XI := [(0, .aload_n 0, 0, []), (1, .iconst 0, 0, []), (2, .putfield 78, 1, [8, 0, 1130]), (5, .aload_n 0, 0, []), (6, .getfield 169, 1, [8, 20, 1150]), (9, .ifCond .ne 9, 2, []), (12, .aload_n 0, 0, []), (13, .iconst 1, 0, []), (14, .invokevirtual 88, 3, [1, 61, 8, 65, 1224, 1221, 1223, 27]), (17, .ireturn, 4, [])]
def xm71 : XM := (⟨"PackWrightModel", "rollBack", "()I"⟩, prog_13_method_70_code, 1, (some .int), { frames := 1, cells := 0, slots := 0, locals := 21 }, [], xm71c, 1)
def xm72c : List XI := [(0, .aload_n 2, 0, []), (1, .iconst 0, 0, []), (2, .aload_n 0, 0, []), (3, .iload_n 1, 0, []), (4, .invokevirtual 88, 3, [1, 73, 7, 58, 1082, 1079, 1080, 1081]), (12, .astore_n 3, 0, []), (13, .iconst 1, 0, []), (14, .ireturn, 4, []), (15, .astore_n 3, 0, []), (16, .iconst 2, 0, []), (17, .ireturn, 4, [])]
def xm72 : XM := (⟨"PackWrightLaw", "run", "(LPackWright;I[J)I"⟩, method_25_code, 4, (some .int), { frames := 8, cells := 1, slots := 6, locals := 124 }, [(0, 9, 12, 21), (0, 9, 15, 13)], xm72c, 3)
def xm73c : List XI := [(0, .iload_n 1, 0, []), (1, .ifCond .ge 14, 2, []), (4, .new 86, 5, [1, 293, 90, 1, 779, 72, 789, 1083]), (15, .aload_n 0, 0, []), (16, .invokevirtual 295, 3, [1, 70, 7, 58, 1087, 1084, 1086, 25])]
def xm73 : XM := (⟨"PackWright", "run", "(I)I"⟩, prog_1_method_33_code, 3, (some .int), { frames := 7, cells := 1, slots := 6, locals := 102 }, [], xm73c, 2)
def xm74c : List XI := [(0, .aload_n 0, 0, []), (1, .iconst 0, 0, []), (2, .putfield 78, 1, [8, 0, 1130]), (5, .iload_n 1, 0, []), (6, .ifCond .ge 9, 2, []), (9, .aload_n 0, 0, []), (10, .iconst 1, 0, []), (11, .invokevirtual 88, 3, [1, 61, 8, 65, 1224, 1221, 1223, 27]), (14, .ireturn, 4, []), (15, .aload_n 0, 0, []), (16, .getfield 169, 1, [8, 20, 1150]), (19, .ifCond .ne 9, 2, []), (22, .aload_n 0, 0, []), (23, .iconst 2, 0, []), (24, .invokevirtual 88, 3, [1, 61, 8, 65, 1224, 1221, 1223, 27]), (27, .ireturn, 4, [])]
def xm74 : XM := (⟨"PackWrightModel", "run", "(I)I"⟩, prog_13_method_69_code, 5, (some .int), { frames := 1, cells := 0, slots := 0, locals := 21 }, [], xm74c, 2)
def xm75c : List XI := [(0, .aload_n 2, 0, []), (1, .iconst 0, 0, []), (2, .aload_n 0, 0, []), (3, .iload_n 1, 0, []), (4, .invokevirtual 85, 3, [1, 76, 7, 58, 720, 1075, 718, 719]), (12, .astore_n 3, 0, []), (13, .iconst 1, 0, []), (14, .ireturn, 4, [])]
def xm75 : XM := (⟨"PackWrightLaw", "packageOf", "(LPackWright;I[J)I"⟩, method_24_code, 4, (some .int), { frames := 8, cells := 1, slots := 6, locals := 124 }, [(0, 9, 12, 19)], xm75c, 3)
def xm76c : List XI := [(0, .aload_n 0, 0, []), (1, .iload_n 1, 0, []), (2, .invokevirtual 285, 3, [1, 77, 7, 58, 715, 712, 714, 22])]
def xm76 : XM := (⟨"PackWright", "packageOf", "(I)I"⟩, prog_1_method_32_code, 2, (some .int), { frames := 7, cells := 1, slots := 6, locals := 103 }, [], xm76c, 2)
def xm77c : List XI := [(0, .iload_n 1, 0, []), (1, .ifCond .lt 14, 2, []), (4, .iload_n 1, 0, []), (5, .aload_n 0, 0, []), (6, .getfield 49, 1, [7, 7, 259]), (9, .getfield 284, 1, [4, 1, 209]), (12, .if_icmp .lt 14, 2, []), (15, .new 166, 5, [0, 444, 170, 1, 588, 71, 630, 716])]
def xm77 : XM := (⟨"PackWright", "requireStep", "(I)V"⟩, prog_1_method_55_code, 2, none, { frames := 6, cells := 1, slots := 6, locals := 82 }, [], xm77c, 2)
def xm78c : List XI := [(0, .aload_n 0, 0, []), (1, .iconst 0, 0, []), (2, .putfield 78, 1, [8, 0, 1130]), (5, .iload_n 1, 0, []), (6, .iconst 0, 0, []), (7, .aload_n 0, 0, []), (8, .invokevirtual 216, 3, [1, 41, 8, 65, 1452, 1449, 1451, 50]), (11, .iconst 1, 0, []), (12, .isub, 0, []), (13, .invokestatic 84, 3, [0, 60, 0, 65, 1235, 1233, 1234, 0]), (16, .ifCond .eq 12, 2, []), (28, .aload_n 0, 0, []), (29, .iconst 1, 0, []), (30, .invokevirtual 88, 3, [1, 61, 8, 65, 1224, 1221, 1223, 27]), (33, .ireturn, 4, [])]
def xm78 : XM := (⟨"PackWrightModel", "packageOf", "(I)I"⟩, prog_13_method_68_code, 2, (some .int), { frames := 1, cells := 0, slots := 0, locals := 22 }, [], xm78c, 2)
def xm79c : List XI := [(0, .aload_n 2, 0, []), (1, .iconst 0, 0, []), (2, .aload_n 0, 0, []), (3, .iload_n 1, 0, []), (4, .invokevirtual 82, 3, [1, 80, 7, 58, 711, 1071, 709, 710]), (12, .astore_n 3, 0, []), (13, .iconst 1, 0, []), (14, .ireturn, 4, [])]
def xm79 : XM := (⟨"PackWrightLaw", "kindOf", "(LPackWright;I[J)I"⟩, method_23_code, 4, (some .int), { frames := 8, cells := 1, slots := 6, locals := 124 }, [(0, 9, 12, 19)], xm79c, 3)
def xm80c : List XI := [(0, .aload_n 0, 0, []), (1, .iload_n 1, 0, []), (2, .invokevirtual 285, 3, [1, 77, 7, 58, 715, 712, 714, 22])]
def xm80 : XM := (⟨"PackWright", "kindOf", "(I)I"⟩, prog_1_method_31_code, 2, (some .int), { frames := 7, cells := 1, slots := 6, locals := 103 }, [], xm80c, 2)
def xm81c : List XI := [(0, .aload_n 0, 0, []), (1, .iconst 0, 0, []), (2, .putfield 78, 1, [8, 0, 1130]), (5, .iload_n 1, 0, []), (6, .iconst 0, 0, []), (7, .aload_n 0, 0, []), (8, .invokevirtual 216, 3, [1, 41, 8, 65, 1452, 1449, 1451, 50]), (11, .iconst 1, 0, []), (12, .isub, 0, []), (13, .invokestatic 84, 3, [0, 60, 0, 65, 1235, 1233, 1234, 0]), (16, .ifCond .eq 12, 2, []), (28, .aload_n 0, 0, []), (29, .iconst 1, 0, []), (30, .invokevirtual 88, 3, [1, 61, 8, 65, 1224, 1221, 1223, 27]), (33, .ireturn, 4, [])]
def xm81 : XM := (⟨"PackWrightModel", "kindOf", "(I)I"⟩, prog_13_method_67_code, 2, (some .int), { frames := 1, cells := 0, slots := 0, locals := 22 }, [], xm81c, 2)
def xm82c : List XI := [(0, .aload_n 0, 0, []), (1, .aload_n 0, 0, []), (2, .invokevirtual 216, 3, [1, 41, 8, 65, 1452, 1449, 1451, 50]), (5, .invokevirtual 103, 3, [1, 51, 8, 65, 1264, 1261, 1263, 29]), (8, .ireturn, 4, [])]
def xm82 : XM := (⟨"PackWrightModel", "steps", "()I"⟩, prog_13_method_66_code, 1, (some .int), { frames := 1, cells := 0, slots := 0, locals := 21 }, [], xm82c, 1)
def xm83c : List XI := [(0, .aload_n 0, 0, []), (1, .getfield 25, 1, [7, 3, 255]), (4, .aload_n 0, 0, []), (5, .getfield 18, 1, [7, 2, 254]), (8, .invokevirtual 231, 3, [1, 17, 2, 60, 319, 316, 317, 318]), (11, .aload_n 0, 0, []), (12, .getfield 29, 1, [7, 4, 256]), (15, .aload_n 0, 0, []), (16, .getfield 18, 1, [7, 2, 254]), (19, .invokevirtual 231, 3, [1, 17, 2, 60, 319, 316, 317, 318]), (22, .aload_n 0, 0, []), (23, .getfield 49, 1, [7, 7, 259]), (26, .aload_n 0, 0, []), (27, .getfield 29, 1, [7, 4, 256]), (30, .aload_n 0, 0, []), (31, .getfield 25, 1, [7, 3, 255]), (34, .invokevirtual 280, 3, [1, 84, 4, 63, 452, 449, 450, 451]), (37, .aload_n 0, 0, []), (38, .getfield 49, 1, [7, 7, 259]), (41, .getfield 284, 1, [4, 1, 209]), (44, .ireturn, 4, [])]
def xm83 : XM := (⟨"PackWright", "plan", "()I"⟩, prog_1_method_29_code, 1, (some .int), { frames := 2, cells := 0, slots := 0, locals := 52 }, [], xm83c, 1)
def xm84c : List XI := [(0, .aload_n 0, 0, []), (1, .invokevirtual 35, 3, [1, 85, 4, 63, 456, 453, 454, 455]), (4, .aload_n 0, 0, []), (5, .iconst 1, 0, []), (6, .putfield 24, 1, [4, 0, 206]), (9, .iconst 0, 0, []), (10, .istore_n 3, 0, []), (11, .iconst 0, 0, []), (12, .istore 4, 0, []), (14, .iconst 0, 0, []), (15, .istore 5, 0, []), (17, .iload 5, 0, []), (19, .bipush 12, 0, []), (21, .if_icmp .ge 72, 2, []), (24, .aload_n 1, 0, []), (25, .getfield 38, 1, [2, 0, 120]), (28, .iload 5, 0, []), (30, .aaload, 1, []), (31, .aload_n 2, 0, []), (32, .getfield 38, 1, [2, 0, 120]), (35, .iload 5, 0, []), (37, .aaload, 1, []), (38, .if_acmp .eq 23, 2, []), (61, .aload_n 1, 0, []), (62, .getfield 38, 1, [2, 0, 120]), (65, .iload 5, 0, []), (67, .aaload, 1, []), (68, .aload_n 2, 0, []), (69, .getfield 38, 1, [2, 0, 120]), (72, .iload 5, 0, []), (74, .aaload, 1, []), (75, .if_acmp .eq 12, 2, []), (87, .iinc 5 1, 0, []), (90, .goto (-73), 2, []), (93, .aload_n 0, 0, []), (94, .aload_n 1, 0, []), (95, .iload_n 3, 0, []), (96, .invokevirtual 43, 3, [1, 86, 4, 63, 460, 457, 459, 14]), (99, .aload_n 0, 0, []), (100, .aload_n 1, 0, []), (101, .aload_n 2, 0, []), (102, .iload 4, 0, []), (104, .invokevirtual 47, 3, [1, 87, 4, 63, 477, 474, 476, 16]), (107, .return_, 4, [])]
def xm84 : XM := (⟨"PackWright$Plan", "lead", "(LPackWright$Choice;LPackWright$Choice;)V"⟩, prog_7_method_3_code, 6, none, { frames := 1, cells := 0, slots := 0, locals := 27 }, [], xm84c, 3)
def xm85c : List XI := [(0, .aload_n 0, 0, []), (1, .iconst 0, 0, []), (2, .putfield 24, 1, [4, 0, 206]), (5, .aload_n 0, 0, []), (6, .iconst 0, 0, []), (7, .putfield 28, 1, [4, 1, 208]), (10, .aload_n 0, 0, []), (11, .iconst 0, 0, []), (12, .putfield 32, 1, [4, 2, 210]), (15, .return_, 4, [])]
def xm85 : XM := (⟨"PackWright$Plan", "forget", "()V"⟩, prog_7_method_2_code, 1, none, { frames := 0, cells := 0, slots := 0, locals := 0 }, [], xm85c, 1)
def xm86c : List XI := [(0, .iload_n 2, 0, []), (1, .istore_n 3, 0, []), (2, .iconst 0, 0, []), (3, .istore 4, 0, []), (5, .iload 4, 0, []), (7, .bipush 12, 0, []), (9, .if_icmp .ge 57, 2, []), (12, .iload_n 3, 0, []), (13, .ifCond .eq 53, 2, []), (66, .return_, 4, [])]
def xm86 : XM := (⟨"PackWright$Plan", "removeAll", "(LPackWright$Choice;I)V"⟩, prog_7_method_4_code, 7, none, { frames := 0, cells := 0, slots := 0, locals := 0 }, [], xm86c, 3)
def xm87c : List XI := [(0, .iload_n 3, 0, []), (1, .istore 4, 0, []), (3, .iconst 0, 0, []), (4, .istore 5, 0, []), (6, .iload 5, 0, []), (8, .bipush 12, 0, []), (10, .if_icmp .ge 77, 2, []), (13, .iload 4, 0, []), (15, .ifCond .eq 72, 2, []), (87, .return_, 4, [])]
def xm87 : XM := (⟨"PackWright$Plan", "putAll", "(LPackWright$Choice;LPackWright$Choice;I)V"⟩, prog_7_method_5_code, 8, none, { frames := 0, cells := 0, slots := 0, locals := 0 }, [], xm87c, 4)
def xm88c : List XI := [(0, .aload_n 0, 0, []), (1, .iconst 0, 0, []), (2, .putfield 78, 1, [8, 0, 1130]), (5, .aload_n 0, 0, []), (6, .iconst 1, 0, []), (7, .putfield 169, 1, [8, 20, 1150]), (10, .aload_n 0, 0, []), (11, .iconst 0, 0, []), (12, .putfield 203, 1, [8, 21, 1151]), (15, .aload_n 0, 0, []), (16, .iconst 0, 0, []), (17, .putfield 206, 1, [8, 22, 1152]), (20, .aload_n 0, 0, []), (21, .aload_n 0, 0, []), (22, .getfield 50, 1, [8, 14, 1144]), (25, .invokestatic 142, 3, [0, 89, 0, 65, 1310, 1308, 1309, 0]), (28, .putfield 69, 1, [8, 25, 1155]), (31, .aload_n 0, 0, []), (32, .aload_n 0, 0, []), (33, .getfield 50, 1, [8, 14, 1144]), (36, .aload_n 0, 0, []), (37, .invokevirtual 146, 3, [1, 38, 8, 65, 1303, 1300, 1302, 31]), (40, .invokevirtual 120, 3, [1, 39, 8, 65, 1314, 1311, 1313, 33]), (43, .astore_n 1, 0, []), (44, .aload_n 0, 0, []), (45, .aload_n 0, 0, []), (46, .getfield 47, 1, [8, 12, 1142]), (49, .aload_n 0, 0, []), (50, .invokevirtual 146, 3, [1, 38, 8, 65, 1303, 1300, 1302, 31]), (53, .invokevirtual 120, 3, [1, 39, 8, 65, 1314, 1311, 1313, 33]), (56, .astore_n 2, 0, []), (57, .iconst 0, 0, []), (58, .istore_n 3, 0, []), (59, .iconst 0, 0, []), (60, .istore 4, 0, []), (62, .iconst 0, 0, []), (63, .istore 5, 0, []), (65, .iload 5, 0, []), (67, .aload_n 0, 0, []), (68, .getfield 81, 1, [8, 1, 1131]), (71, .if_icmp .ge 75, 2, []), (146, .iload_n 3, 0, []), (147, .ifCond .eq 92, 2, []), (239, .iload 4, 0, []), (241, .ifCond .eq 113, 2, []), (354, .aload_n 0, 0, []), (355, .getfield 203, 1, [8, 21, 1151]), (358, .ireturn, 4, [])]
def xm88 : XM := (⟨"PackWrightModel", "plan", "()I"⟩, prog_13_method_62_code, 7, (some .int), { frames := 2, cells := 3, slots := 36, locals := 81 }, [], xm88c, 1)
def xm89c : List XI := [(0, .aload_n 0, 0, []), (1, .arraylength, 1, []), (2, .newarray .int, 1, [0, 131]), (4, .astore_n 1, 0, []), (5, .aload_n 0, 0, []), (6, .iconst 0, 0, []), (7, .aload_n 1, 0, []), (8, .iconst 0, 0, []), (9, .aload_n 0, 0, []), (10, .arraylength, 1, []), (11, .invokestatic 72, 7, [1246, 1248, 1247, 76]), (14, .aload_n 1, 0, []), (15, .areturn, 4, [])]
def xm89 : XM := (⟨"PackWrightModel", "copyOf", "([I)[I"⟩, prog_13_method_3_code, 2, (some (.array .int)), { frames := 1, cells := 1, slots := 12, locals := 60 }, [], xm89c, 1)
def xm90c : List XI := [(0, .aload_n 2, 0, []), (1, .iconst 0, 0, []), (2, .aload_n 0, 0, []), (3, .iload_n 1, 0, []), (4, .invokevirtual 79, 3, [1, 91, 7, 58, 1066, 1063, 1064, 1065]), (7, .i2l, 0, []), (8, .lastore, 1, []), (9, .goto 6, 2, []), (12, .astore_n 3, 0, []), (13, .iconst 1, 0, []), (14, .ireturn, 4, []), (15, .iconst 0, 0, []), (16, .ireturn, 4, [])]
def xm90 : XM := (⟨"PackWrightLaw", "setCache", "(LPackWright;I[J)I"⟩, method_22_code, 4, (some .int), { frames := 8, cells := 1, slots := 6, locals := 124 }, [(0, 9, 12, 21)], xm90c, 3)
def xm91c : List XI := [(0, .iload_n 1, 0, []), (1, .invokestatic 271, 3, [0, 92, 0, 58, 1058, 1056, 1057, 0]), (4, .aload_n 0, 0, []), (5, .getfield 56, 1, [7, 8, 260]), (8, .getfield 274, 1, [0, 3, 242]), (11, .istore_n 2, 0, []), (12, .aload_n 0, 0, []), (13, .getfield 56, 1, [7, 8, 260]), (16, .iload_n 1, 0, []), (17, .putfield 274, 1, [0, 3, 242]), (20, .aload_n 0, 0, []), (21, .getfield 56, 1, [7, 8, 260]), (24, .invokevirtual 277, 3, [1, 93, 0, 64, 529, 1067, 527, 528]), (27, .iload_n 2, 0, []), (28, .ireturn, 4, [])]
def xm91 : XM := (⟨"PackWright", "setCache", "(I)I"⟩, prog_1_method_28_code, 3, (some .int), { frames := 7, cells := 1, slots := 6, locals := 102 }, [], xm91c, 2)
def xm92c : List XI := [(0, .iload_n 0, 0, []), (1, .ifCond .lt 10, 2, []), (4, .iload_n 0, 0, []), (5, .sipush 20000, 0, []), (8, .if_icmp .le 14, 2, []), (11, .new 86, 5, [1, 442, 90, 1, 779, 72, 789, 1059]), (22, .return_, 4, [])]
def xm92 : XM := (⟨"PackWright", "requireRoom", "(I)V"⟩, prog_1_method_54_code, 1, none, { frames := 6, cells := 1, slots := 6, locals := 82 }, [], xm92c, 1)
def xm93c : List XI := [(0, .aload_n 0, 0, []), (1, .getfield 24, 1, [0, 2, 239]), (4, .aload_n 0, 0, []), (5, .getfield 17, 1, [0, 3, 241]), (8, .if_icmp .le 44, 2, []), (52, .return_, 4, [])]
def xm93 : XM := (⟨"PackWright$Cache", "letOldestGo", "()V"⟩, prog_2_method_6_code, 1, none, { frames := 0, cells := 0, slots := 0, locals := 0 }, [], xm93c, 1)
def xm94c : List XI := [(0, .aload_n 0, 0, []), (1, .iconst 0, 0, []), (2, .putfield 78, 1, [8, 0, 1130]), (5, .iload_n 1, 0, []), (6, .iconst 0, 0, []), (7, .sipush 20000, 0, []), (10, .invokestatic 84, 3, [0, 60, 0, 65, 1235, 1233, 1234, 0]), (13, .ifCond .ne 9, 2, []), (16, .aload_n 0, 0, []), (17, .iconst 1, 0, []), (18, .invokevirtual 88, 3, [1, 61, 8, 65, 1224, 1221, 1223, 27]), (21, .ireturn, 4, []), (22, .aload_n 0, 0, []), (23, .getfield 57, 1, [8, 16, 1146]), (26, .istore_n 2, 0, []), (27, .aload_n 0, 0, []), (28, .iload_n 1, 0, []), (29, .putfield 57, 1, [8, 16, 1146]), (32, .aload_n 0, 0, []), (33, .invokevirtual 197, 3, [1, 95, 8, 65, 1425, 1422, 1424, 46]), (36, .iload_n 2, 0, []), (37, .ireturn, 4, [])]
def xm94 : XM := (⟨"PackWrightModel", "setCache", "(I)I"⟩, prog_13_method_58_code, 3, (some .int), { frames := 2, cells := 0, slots := 0, locals := 42 }, [], xm94c, 2)
def xm95c : List XI := [(0, .aload_n 0, 0, []), (1, .invokevirtual 194, 3, [1, 43, 8, 65, 1429, 1426, 1428, 47]), (4, .aload_n 0, 0, []), (5, .getfield 57, 1, [8, 16, 1146]), (8, .if_icmp .le 16, 2, []), (24, .return_, 4, [])]
def xm95 : XM := (⟨"PackWrightModel", "shrinkCache", "()V"⟩, prog_13_method_57_code, 1, none, { frames := 1, cells := 0, slots := 0, locals := 22 }, [], xm95c, 1)
def xm96c : List XI := [(0, .aload_n 2, 0, []), (1, .iconst 0, 0, []), (2, .aload_n 0, 0, []), (3, .iload_n 1, 0, []), (4, .invokevirtual 76, 3, [1, 97, 7, 58, 1055, 1052, 1053, 1054]), (7, .i2l, 0, []), (8, .lastore, 1, []), (9, .goto 6, 2, []), (12, .astore_n 3, 0, []), (13, .iconst 1, 0, []), (14, .ireturn, 4, []), (15, .iconst 0, 0, []), (16, .ireturn, 4, [])]
def xm96 : XM := (⟨"PackWrightLaw", "setDisk", "(LPackWright;I[J)I"⟩, method_21_code, 4, (some .int), { frames := 8, cells := 1, slots := 6, locals := 124 }, [(0, 9, 12, 21)], xm96c, 3)
def xm97c : List XI := [(0, .iload_n 1, 0, []), (1, .invokestatic 271, 3, [0, 92, 0, 58, 1058, 1056, 1057, 0]), (4, .aload_n 0, 0, []), (5, .getfield 63, 1, [7, 10, 262]), (8, .istore_n 2, 0, []), (9, .aload_n 0, 0, []), (10, .iload_n 1, 0, []), (11, .putfield 63, 1, [7, 10, 262]), (14, .iload_n 2, 0, []), (15, .ireturn, 4, [])]
def xm97 : XM := (⟨"PackWright", "setDisk", "(I)I"⟩, prog_1_method_27_code, 3, (some .int), { frames := 7, cells := 1, slots := 6, locals := 102 }, [], xm97c, 2)
def xm98c : List XI := [(0, .aload_n 0, 0, []), (1, .iconst 0, 0, []), (2, .putfield 78, 1, [8, 0, 1130]), (5, .iload_n 1, 0, []), (6, .iconst 0, 0, []), (7, .sipush 20000, 0, []), (10, .invokestatic 84, 3, [0, 60, 0, 65, 1235, 1233, 1234, 0]), (13, .ifCond .ne 9, 2, []), (16, .aload_n 0, 0, []), (17, .iconst 1, 0, []), (18, .invokevirtual 88, 3, [1, 61, 8, 65, 1224, 1221, 1223, 27]), (21, .ireturn, 4, []), (22, .aload_n 0, 0, []), (23, .getfield 53, 1, [8, 15, 1145]), (26, .istore_n 2, 0, []), (27, .aload_n 0, 0, []), (28, .iload_n 1, 0, []), (29, .putfield 53, 1, [8, 15, 1145]), (32, .iload_n 2, 0, []), (33, .ireturn, 4, [])]
def xm98 : XM := (⟨"PackWrightModel", "setDisk", "(I)I"⟩, prog_13_method_54_code, 3, (some .int), { frames := 1, cells := 0, slots := 0, locals := 22 }, [], xm98c, 2)
def xm99c : List XI := [(0, .aload_n 2, 0, []), (1, .iconst 0, 0, []), (2, .aload_n 0, 0, []), (3, .iload_n 1, 0, []), (4, .invokevirtual 73, 3, [1, 100, 7, 58, 1048, 1045, 1046, 1047]), (12, .astore_n 3, 0, []), (13, .iconst 1, 0, []), (14, .ireturn, 4, [])]
def xm99 : XM := (⟨"PackWrightLaw", "wouldChange", "(LPackWright;I[J)I"⟩, method_20_code, 4, (some .int), { frames := 8, cells := 1, slots := 6, locals := 125 }, [(0, 9, 12, 19)], xm99c, 3)
def xm100c : List XI := [(0, .aload_n 0, 0, []), (1, .iload_n 1, 0, []), (2, .invokevirtual 78, 3, [1, 57, 7, 58, 587, 584, 586, 19])]
def xm100 : XM := (⟨"PackWright", "wouldChange", "(I)I"⟩, prog_1_method_26_code, 3, (some .int), { frames := 7, cells := 1, slots := 6, locals := 103 }, [], xm100c, 2)
def xm101c : List XI := [(0, .aload_n 0, 0, []), (1, .iconst 0, 0, []), (2, .putfield 78, 1, [8, 0, 1130]), (5, .aload_n 0, 0, []), (6, .iload_n 1, 0, []), (7, .invokevirtual 92, 3, [1, 59, 8, 65, 1232, 1229, 1231, 28]), (10, .ifCond .ne 9, 2, []), (13, .aload_n 0, 0, []), (14, .iconst 1, 0, []), (15, .invokevirtual 88, 3, [1, 61, 8, 65, 1224, 1221, 1223, 27]), (18, .ireturn, 4, [])]
def xm101 : XM := (⟨"PackWrightModel", "wouldChange", "(I)I"⟩, prog_13_method_37_code, 3, (some .int), { frames := 2, cells := 0, slots := 0, locals := 43 }, [], xm101c, 2)
def xm102c : List XI := [(0, .aload_n 2, 0, []), (1, .iconst 0, 0, []), (2, .aload_n 0, 0, []), (3, .iload_n 1, 0, []), (4, .invokevirtual 70, 3, [1, 103, 7, 58, 689, 1041, 687, 688]), (12, .astore_n 3, 0, []), (13, .iconst 1, 0, []), (14, .ireturn, 4, [])]
def xm102 : XM := (⟨"PackWrightLaw", "newer", "(LPackWright;I[J)I"⟩, method_19_code, 4, (some .int), { frames := 8, cells := 1, slots := 6, locals := 126 }, [(0, 9, 12, 19)], xm102c, 3)
def xm103c : List XI := [(0, .aload_n 0, 0, []), (1, .iload_n 1, 0, []), (2, .invokevirtual 78, 3, [1, 57, 7, 58, 587, 584, 586, 19])]
def xm103 : XM := (⟨"PackWright", "newer", "(I)I"⟩, prog_1_method_25_code, 4, (some .int), { frames := 7, cells := 1, slots := 6, locals := 103 }, [], xm103c, 2)
def xm104c : List XI := [(0, .aload_n 0, 0, []), (1, .iconst 0, 0, []), (2, .putfield 78, 1, [8, 0, 1130]), (5, .aload_n 0, 0, []), (6, .iload_n 1, 0, []), (7, .invokevirtual 92, 3, [1, 59, 8, 65, 1232, 1229, 1231, 28]), (10, .ifCond .eq 11, 2, []), (21, .aload_n 0, 0, []), (22, .iconst 1, 0, []), (23, .invokevirtual 88, 3, [1, 61, 8, 65, 1224, 1221, 1223, 27]), (26, .ireturn, 4, [])]
def xm104 : XM := (⟨"PackWrightModel", "newer", "(I)I"⟩, prog_13_method_53_code, 2, (some .int), { frames := 2, cells := 0, slots := 0, locals := 43 }, [], xm104c, 2)
def xm105c : List XI := [(0, .aload_n 2, 0, []), (1, .iconst 0, 0, []), (2, .aload_n 0, 0, []), (3, .iload_n 1, 0, []), (4, .invokevirtual 67, 3, [1, 106, 7, 58, 684, 1037, 682, 683]), (12, .astore_n 3, 0, []), (13, .iconst 1, 0, []), (14, .ireturn, 4, [])]
def xm105 : XM := (⟨"PackWrightLaw", "neededBy", "(LPackWright;I[J)I"⟩, method_18_code, 4, (some .int), { frames := 8, cells := 1, slots := 6, locals := 126 }, [(0, 9, 12, 19)], xm105c, 3)
def xm106c : List XI := [(0, .aload_n 0, 0, []), (1, .iload_n 1, 0, []), (2, .invokevirtual 78, 3, [1, 57, 7, 58, 587, 584, 586, 19])]
def xm106 : XM := (⟨"PackWright", "neededBy", "(I)I"⟩, prog_1_method_24_code, 4, (some .int), { frames := 7, cells := 1, slots := 6, locals := 103 }, [], xm106c, 2)
def xm107c : List XI := [(0, .aload_n 0, 0, []), (1, .iconst 0, 0, []), (2, .putfield 78, 1, [8, 0, 1130]), (5, .aload_n 0, 0, []), (6, .iload_n 1, 0, []), (7, .invokevirtual 92, 3, [1, 59, 8, 65, 1232, 1229, 1231, 28]), (10, .ifCond .eq 11, 2, []), (21, .aload_n 0, 0, []), (22, .iconst 1, 0, []), (23, .invokevirtual 88, 3, [1, 61, 8, 65, 1224, 1221, 1223, 27]), (26, .ireturn, 4, [])]
def xm107 : XM := (⟨"PackWrightModel", "neededBy", "(I)I"⟩, prog_13_method_51_code, 2, (some .int), { frames := 2, cells := 0, slots := 0, locals := 43 }, [], xm107c, 2)
def xm108c : List XI := [(0, .aload_n 3, 0, []), (1, .iconst 0, 0, []), (2, .aload_n 0, 0, []), (3, .iload_n 1, 0, []), (4, .iload_n 2, 0, []), (5, .invokevirtual 64, 3, [1, 109, 7, 58, 1032, 1029, 1030, 1031]), (13, .astore 4, 0, []), (15, .iconst 1, 0, []), (16, .ireturn, 4, [])]
def xm108 : XM := (⟨"PackWrightLaw", "chainAt", "(LPackWright;II[J)I"⟩, method_17_code, 5, (some .int), { frames := 8, cells := 1, slots := 6, locals := 125 }, [(0, 10, 13, 19), (0, 10, 17, 21)], xm108c, 4)
def xm109c : List XI := [(0, .aload_n 0, 0, []), (1, .iload_n 1, 0, []), (2, .invokevirtual 78, 3, [1, 57, 7, 58, 587, 584, 586, 19])]
def xm109 : XM := (⟨"PackWright", "chainAt", "(II)I"⟩, prog_1_method_23_code, 3, (some .int), { frames := 7, cells := 1, slots := 6, locals := 103 }, [], xm109c, 3)
def xm110c : List XI := [(0, .aload_n 0, 0, []), (1, .iconst 0, 0, []), (2, .putfield 78, 1, [8, 0, 1130]), (5, .aload_n 0, 0, []), (6, .iload_n 1, 0, []), (7, .invokevirtual 92, 3, [1, 59, 8, 65, 1232, 1229, 1231, 28]), (10, .ifCond .ne 9, 2, []), (13, .aload_n 0, 0, []), (14, .iconst 1, 0, []), (15, .invokevirtual 88, 3, [1, 61, 8, 65, 1224, 1221, 1223, 27]), (18, .ireturn, 4, [])]
def xm110 : XM := (⟨"PackWrightModel", "chainAt", "(II)I"⟩, prog_13_method_49_code, 3, (some .int), { frames := 2, cells := 0, slots := 0, locals := 43 }, [], xm110c, 3)
def xm111c : List XI := [(0, .aload_n 2, 0, []), (1, .iconst 0, 0, []), (2, .aload_n 0, 0, []), (3, .iload_n 1, 0, []), (4, .invokevirtual 61, 3, [1, 112, 7, 58, 676, 1025, 674, 675]), (12, .astore_n 3, 0, []), (13, .iconst 1, 0, []), (14, .ireturn, 4, [])]
def xm111 : XM := (⟨"PackWrightLaw", "depth", "(LPackWright;I[J)I"⟩, method_16_code, 4, (some .int), { frames := 8, cells := 1, slots := 6, locals := 124 }, [(0, 9, 12, 19)], xm111c, 3)
def xm112c : List XI := [(0, .aload_n 0, 0, []), (1, .iload_n 1, 0, []), (2, .invokevirtual 78, 3, [1, 57, 7, 58, 587, 584, 586, 19])]
def xm112 : XM := (⟨"PackWright", "depth", "(I)I"⟩, prog_1_method_22_code, 2, (some .int), { frames := 7, cells := 1, slots := 6, locals := 103 }, [], xm112c, 2)
def xm113c : List XI := [(0, .aload_n 0, 0, []), (1, .iconst 0, 0, []), (2, .putfield 78, 1, [8, 0, 1130]), (5, .aload_n 0, 0, []), (6, .iload_n 1, 0, []), (7, .invokevirtual 92, 3, [1, 59, 8, 65, 1232, 1229, 1231, 28]), (10, .ifCond .eq 12, 2, []), (22, .aload_n 0, 0, []), (23, .iconst 1, 0, []), (24, .invokevirtual 88, 3, [1, 61, 8, 65, 1224, 1221, 1223, 27]), (27, .ireturn, 4, [])]
def xm113 : XM := (⟨"PackWrightModel", "depth", "(I)I"⟩, prog_13_method_47_code, 2, (some .int), { frames := 2, cells := 0, slots := 0, locals := 43 }, [], xm113c, 2)
def xm114c : List XI := [(0, .aload_n 0, 0, []), (1, .getfield 18, 1, [7, 2, 254]), (4, .invokevirtual 191, 3, [1, 115, 6, 59, 382, 379, 380, 381]), (7, .istore_n 1, 0, []), (8, .aload_n 0, 0, []), (9, .iload_n 1, 0, []), (10, .invokevirtual 249, 3, [1, 116, 7, 58, 386, 383, 385, 7]), (13, .ifCond .ne 5, 2, []), (16, .iconst 0, 0, []), (17, .ireturn, 4, [])]
def xm114 : XM := (⟨"PackWright", "core", "()I"⟩, prog_1_method_21_code, 4, (some .int), { frames := 5, cells := 0, slots := 0, locals := 111 }, [], xm114c, 1)
def xm115c : List XI := [(0, .iconst 1, 0, []), (1, .aload_n 0, 0, []), (2, .getfield 17, 1, [6, 1, 100]), (5, .ishl, 0, []), (6, .iconst 1, 0, []), (7, .isub, 0, []), (8, .ireturn, 4, [])]
def xm115 : XM := (⟨"PackWright$Wishes", "all", "()I"⟩, prog_11_method_4_code, 1, (some .int), { frames := 0, cells := 0, slots := 0, locals := 0 }, [], xm115c, 1)
def xm116c : List XI := [(0, .aload_n 0, 0, []), (1, .iload_n 1, 0, []), (2, .sipush 4095, 0, []), (5, .invokevirtual 198, 3, [1, 117, 7, 58, 390, 387, 389, 8]), (8, .iconst (-1), 0, []), (9, .if_icmp .ne 7, 2, []), (16, .iconst 0, 0, []), (17, .ireturn, 4, [])]
def xm116 : XM := (⟨"PackWright", "isHopeless", "(I)Z"⟩, prog_1_method_58_code, 2, (some .boolean), { frames := 4, cells := 0, slots := 0, locals := 90 }, [], xm116c, 2)
def xm117c : List XI := [(0, .aload_n 0, 0, []), (1, .getfield 35, 1, [7, 5, 257]), (4, .aload_n 0, 0, []), (5, .getfield 18, 1, [7, 2, 254]), (8, .iload_n 1, 0, []), (9, .invokevirtual 454, 3, [1, 118, 5, 61, 394, 391, 392, 393]), (12, .iconst 0, 0, []), (13, .istore_n 3, 0, []), (14, .iload_n 3, 0, []), (15, .aload_n 0, 0, []), (16, .getfield 67, 1, [7, 1, 253]), (19, .if_icmp .ge 44, 2, []), (63, .aload_n 0, 0, []), (64, .getfield 35, 1, [7, 5, 257]), (67, .invokevirtual 462, 3, [1, 121, 5, 61, 424, 421, 422, 423]), (70, .ireturn, 4, [])]
def xm117 : XM := (⟨"PackWright", "search", "(II)I"⟩, prog_1_method_59_code, 4, (some .int), { frames := 3, cells := 0, slots := 0, locals := 67 }, [], xm117c, 3)
def xm118c : List XI := [(0, .aload_n 0, 0, []), (1, .getfield 12, 1, [5, 0, 143]), (4, .aload_n 1, 0, []), (5, .iload_n 2, 0, []), (6, .invokevirtual 44, 3, [1, 119, 6, 59, 398, 395, 396, 397]), (9, .aload_n 0, 0, []), (10, .getfield 21, 1, [5, 1, 144]), (13, .invokevirtual 48, 3, [1, 120, 2, 60, 407, 404, 405, 406]), (16, .aload_n 0, 0, []), (17, .iconst 0, 0, []), (18, .putfield 51, 1, [5, 2, 146]), (21, .aload_n 0, 0, []), (22, .iconst 0, 0, []), (23, .putfield 55, 1, [5, 10, 155]), (26, .return_, 4, [])]
def xm118 : XM := (⟨"PackWright$Resolver", "begin", "(LPackWright$Wishes;I)V"⟩, prog_9_method_2_code, 3, none, { frames := 1, cells := 0, slots := 0, locals := 23 }, [], xm118c, 3)
def xm119c : List XI := [(0, .aload_n 0, 0, []), (1, .iconst 0, 0, []), (2, .putfield 17, 1, [6, 1, 100]), (5, .iconst 0, 0, []), (6, .istore_n 3, 0, []), (7, .iload_n 3, 0, []), (8, .aload_n 1, 0, []), (9, .getfield 17, 1, [6, 1, 100]), (12, .if_icmp .ge 27, 2, []), (39, .return_, 4, [])]
def xm119 : XM := (⟨"PackWright$Wishes", "take", "(LPackWright$Wishes;I)V"⟩, prog_11_method_5_code, 4, none, { frames := 0, cells := 0, slots := 0, locals := 0 }, [], xm119c, 3)
def xm120c : List XI := [(0, .iconst 0, 0, []), (1, .istore_n 1, 0, []), (2, .iload_n 1, 0, []), (3, .bipush 12, 0, []), (5, .if_icmp .ge 16, 2, []), (8, .aload_n 0, 0, []), (9, .getfield 11, 1, [2, 0, 118]), (12, .iload_n 1, 0, []), (13, .aconst_null, 0, []), (14, .aastore, 1, []), (15, .iinc 1 1, 0, []), (18, .goto (-16), 2, []), (21, .return_, 4, [])]
def xm120 : XM := (⟨"PackWright$Choice", "clear", "()V"⟩, prog_4_method_2_code, 2, none, { frames := 0, cells := 0, slots := 0, locals := 0 }, [], xm120c, 1)
def xm121c : List XI := [(0, .aload_n 0, 0, []), (1, .invokevirtual 75, 3, [1, 122, 5, 61, 428, 425, 427, 10]), (4, .ifCond .ne 5, 2, []), (7, .iconst 0, 0, []), (8, .ireturn, 4, [])]
def xm121 : XM := (⟨"PackWright$Resolver", "search", "()I"⟩, prog_9_method_4_code, 3, (some .int), { frames := 2, cells := 0, slots := 0, locals := 45 }, [], xm121c, 1)
def xm122c : List XI := [(0, .aload_n 0, 0, []), (1, .invokevirtual 93, 3, [1, 123, 5, 61, 432, 429, 431, 11]), (4, .istore_n 1, 0, []), (5, .iload_n 1, 0, []), (6, .iconst (-1), 0, []), (7, .if_icmp .eq 12, 2, []), (19, .iconst 0, 0, []), (20, .ireturn, 4, [])]
def xm122 : XM := (⟨"PackWright$Resolver", "openLevel", "()Z"⟩, prog_9_method_7_code, 2, (some .boolean), { frames := 1, cells := 0, slots := 0, locals := 24 }, [], xm122c, 1)
def xm123c : List XI := [(0, .aload_n 0, 0, []), (1, .iconst 0, 0, []), (2, .putfield 97, 1, [5, 7, 152]), (5, .aload_n 0, 0, []), (6, .iconst 0, 0, []), (7, .putfield 100, 1, [5, 8, 153]), (10, .iconst 0, 0, []), (11, .istore_n 1, 0, []), (12, .iload_n 1, 0, []), (13, .aload_n 0, 0, []), (14, .getfield 12, 1, [5, 0, 143]), (17, .getfield 103, 1, [6, 1, 103]), (20, .if_icmp .ge 25, 2, []), (45, .iconst 0, 0, []), (46, .istore_n 1, 0, []), (47, .iload_n 1, 0, []), (48, .bipush 12, 0, []), (50, .if_icmp .ge 87, 2, []), (53, .iload_n 1, 0, []), (54, .aload_n 0, 0, []), (55, .getfield 97, 1, [5, 7, 152]), (58, .if_icmp .ge 79, 2, []), (137, .iconst (-1), 0, []), (138, .ireturn, 4, [])]
def xm123 : XM := (⟨"PackWright$Resolver", "firstWithoutVersion", "()I"⟩, prog_9_method_8_code, 5, (some .int), { frames := 0, cells := 0, slots := 0, locals := 0 }, [], xm123c, 1)
def xm124c : List XI := [(0, .aload_n 0, 0, []), (1, .iconst 0, 0, []), (2, .putfield 78, 1, [8, 0, 1130]), (5, .aload_n 0, 0, []), (6, .invokevirtual 146, 3, [1, 38, 8, 65, 1303, 1300, 1302, 31]), (9, .istore_n 1, 0, []), (10, .aload_n 0, 0, []), (11, .iload_n 1, 0, []), (12, .invokevirtual 173, 3, [1, 125, 8, 65, 1377, 1374, 1376, 41]), (15, .ifCond .ne 5, 2, []), (18, .iconst 0, 0, []), (19, .ireturn, 4, [])]
def xm124 : XM := (⟨"PackWrightModel", "core", "()I"⟩, prog_13_method_44_code, 3, (some .int), { frames := 4, cells := 6, slots := 72, locals := 110 }, [], xm124c, 1)
def xm125c : List XI := [(0, .aload_n 0, 0, []), (1, .iload_n 1, 0, []), (2, .invokestatic 43, 3, [0, 8, 0, 65, 1129, 1127, 1128, 0]), (5, .invokevirtual 158, 3, [1, 126, 8, 65, 1325, 1322, 1324, 35]), (8, .ifnonnull 17, 2, []), (25, .iconst 0, 0, []), (26, .ireturn, 4, [])]
def xm125 : XM := (⟨"PackWrightModel", "cannot", "(I)Z"⟩, prog_13_method_43_code, 2, (some .boolean), { frames := 3, cells := 6, slots := 72, locals := 89 }, [], xm125c, 2)
def xm126c : List XI := [(0, .invokestatic 43, 3, [0, 8, 0, 65, 1129, 1127, 1128, 0]), (3, .astore_n 3, 0, []), (4, .bipush 12, 0, []), (6, .newarray .int, 1, [0, 131]), (8, .astore 4, 0, []), (10, .bipush 12, 0, []), (12, .newarray .int, 1, [0, 131]), (14, .astore 5, 0, []), (16, .iconst 0, 0, []), (17, .istore 6, 0, []), (19, .aload_n 0, 0, []), (20, .iconst 0, 0, []), (21, .putfield 128, 1, [8, 26, 1156]), (24, .aload_n 0, 0, []), (25, .aload_n 3, 0, []), (26, .iload_n 1, 0, []), (27, .invokevirtual 131, 3, [1, 127, 8, 65, 1329, 1326, 1328, 36]), (30, .istore 7, 0, []), (32, .iload 7, 0, []), (34, .iconst (-1), 0, []), (35, .if_icmp .eq 135, 2, []), (170, .aload_n 3, 0, []), (171, .areturn, 4, [])]
def xm126 : XM := (⟨"PackWrightModel", "found", "(I[I)[I"⟩, prog_13_method_32_code, 11, (some (.array .int)), { frames := 2, cells := 5, slots := 60, locals := 59 }, [], xm126c, 3)
def xm127c : List XI := [(0, .bipush 12, 0, []), (2, .newarray .int, 1, [0, 131]), (4, .astore_n 3, 0, []), (5, .iconst 0, 0, []), (6, .istore 4, 0, []), (8, .iconst 0, 0, []), (9, .istore 5, 0, []), (11, .iconst 0, 0, []), (12, .istore 6, 0, []), (14, .iload 6, 0, []), (16, .aload_n 0, 0, []), (17, .getfield 113, 1, [8, 10, 1140]), (20, .if_icmp .ge 60, 2, []), (80, .aload_n 0, 0, []), (81, .aload_n 1, 0, []), (82, .iload_n 2, 0, []), (83, .invokevirtual 120, 3, [1, 39, 8, 65, 1314, 1311, 1313, 33]), (86, .astore 6, 0, []), (88, .iconst 0, 0, []), (89, .istore 7, 0, []), (91, .iload 7, 0, []), (93, .iload 4, 0, []), (95, .if_icmp .ge 143, 2, []), (238, .iconst 0, 0, []), (239, .istore 7, 0, []), (241, .iload 7, 0, []), (243, .iload 4, 0, []), (245, .if_icmp .ge 24, 2, []), (269, .iconst (-1), 0, []), (270, .ireturn, 4, [])]
def xm127 : XM := (⟨"PackWrightModel", "nextAsked", "([II)I"⟩, prog_13_method_30_code, 12, (some .int), { frames := 1, cells := 2, slots := 24, locals := 28 }, [], xm127c, 3)
def xm128c : List XI := [(0, .aload_n 0, 0, []), (1, .iconst 0, 0, []), (2, .putfield 78, 1, [8, 0, 1130]), (5, .aload_n 0, 0, []), (6, .invokevirtual 176, 3, [1, 37, 8, 65, 1385, 1382, 1384, 42]), (9, .astore_n 1, 0, []), (10, .iconst 0, 0, []), (11, .istore_n 2, 0, []), (12, .iconst 0, 0, []), (13, .istore_n 3, 0, []), (14, .iload_n 3, 0, []), (15, .aload_n 0, 0, []), (16, .getfield 81, 1, [8, 1, 1131]), (19, .if_icmp .ge 33, 2, []), (52, .iload_n 2, 0, []), (53, .ireturn, 4, [])]
def xm128 : XM := (⟨"PackWrightModel", "idle", "()I"⟩, prog_13_method_46_code, 4, (some .int), { frames := 2, cells := 2, slots := 24, locals := 54 }, [], xm128c, 1)
def xm129c : List XI := [(0, .aload_n 0, 0, []), (1, .iconst 0, 0, []), (2, .putfield 78, 1, [8, 0, 1130]), (5, .aload_n 0, 0, []), (6, .aload_n 0, 0, []), (7, .getfield 47, 1, [8, 12, 1142]), (10, .aload_n 0, 0, []), (11, .invokevirtual 146, 3, [1, 38, 8, 65, 1303, 1300, 1302, 31]), (14, .iconst 0, 0, []), (15, .invokevirtual 138, 3, [1, 40, 8, 65, 1337, 1334, 1336, 38]), (18, .ireturn, 4, [])]
def xm129 : XM := (⟨"PackWrightModel", "isSound", "()Z"⟩, prog_13_method_42_code, 1, (some .boolean), { frames := 2, cells := 1, slots := 12, locals := 56 }, [], xm129c, 1)
def xm130c : List XI := [(0, .aload_n 2, 0, []), (1, .iconst 0, 0, []), (2, .aload_n 0, 0, []), (3, .iload_n 1, 0, []), (4, .invokevirtual 58, 3, [1, 131, 7, 58, 672, 1021, 670, 671]), (12, .astore_n 3, 0, []), (13, .iconst 1, 0, []), (14, .ireturn, 4, [])]
def xm130 : XM := (⟨"PackWrightLaw", "featuresOf", "(LPackWright;I[J)I"⟩, method_15_code, 4, (some .int), { frames := 8, cells := 1, slots := 6, locals := 124 }, [(0, 9, 12, 19)], xm130c, 3)
def xm131c : List XI := [(0, .aload_n 0, 0, []), (1, .iload_n 1, 0, []), (2, .invokevirtual 78, 3, [1, 57, 7, 58, 587, 584, 586, 19])]
def xm131 : XM := (⟨"PackWright", "featuresOf", "(I)I"⟩, prog_1_method_18_code, 2, (some .int), { frames := 7, cells := 1, slots := 6, locals := 103 }, [], xm131c, 2)
def xm132c : List XI := [(0, .aload_n 0, 0, []), (1, .iconst 0, 0, []), (2, .putfield 78, 1, [8, 0, 1130]), (5, .aload_n 0, 0, []), (6, .iload_n 1, 0, []), (7, .invokevirtual 92, 3, [1, 59, 8, 65, 1232, 1229, 1231, 28]), (10, .ifCond .eq 20, 2, []), (30, .aload_n 0, 0, []), (31, .iconst 1, 0, []), (32, .invokevirtual 88, 3, [1, 61, 8, 65, 1224, 1221, 1223, 27]), (35, .ireturn, 4, [])]
def xm132 : XM := (⟨"PackWrightModel", "featuresOf", "(I)I"⟩, prog_13_method_41_code, 2, (some .int), { frames := 2, cells := 0, slots := 0, locals := 43 }, [], xm132c, 2)
def xm133c : List XI := [(0, .aload_n 0, 0, []), (1, .iconst 0, 0, []), (2, .putfield 78, 1, [8, 0, 1130]), (5, .iconst 0, 0, []), (6, .istore_n 1, 0, []), (7, .iconst 0, 0, []), (8, .istore_n 2, 0, []), (9, .iload_n 2, 0, []), (10, .aload_n 0, 0, []), (11, .getfield 81, 1, [8, 1, 1131]), (14, .if_icmp .ge 27, 2, []), (41, .iload_n 1, 0, []), (42, .ireturn, 4, [])]
def xm133 : XM := (⟨"PackWrightModel", "lockedPackages", "()I"⟩, prog_13_method_40_code, 3, (some .int), { frames := 0, cells := 0, slots := 0, locals := 0 }, [], xm133c, 1)
def xm134c : List XI := [(0, .aload_n 2, 0, []), (1, .iconst 0, 0, []), (2, .aload_n 0, 0, []), (3, .iload_n 1, 0, []), (4, .invokevirtual 55, 3, [1, 135, 7, 58, 665, 1017, 663, 664]), (12, .astore_n 3, 0, []), (13, .iconst 1, 0, []), (14, .ireturn, 4, [])]
def xm134 : XM := (⟨"PackWrightLaw", "locked", "(LPackWright;I[J)I"⟩, method_14_code, 4, (some .int), { frames := 8, cells := 1, slots := 6, locals := 124 }, [(0, 9, 12, 19)], xm134c, 3)
def xm135c : List XI := [(0, .aload_n 0, 0, []), (1, .iload_n 1, 0, []), (2, .invokevirtual 78, 3, [1, 57, 7, 58, 587, 584, 586, 19])]
def xm135 : XM := (⟨"PackWright", "locked", "(I)I"⟩, prog_1_method_16_code, 2, (some .int), { frames := 7, cells := 1, slots := 6, locals := 103 }, [], xm135c, 2)
def xm136c : List XI := [(0, .aload_n 0, 0, []), (1, .iconst 0, 0, []), (2, .putfield 78, 1, [8, 0, 1130]), (5, .aload_n 0, 0, []), (6, .iload_n 1, 0, []), (7, .invokevirtual 92, 3, [1, 59, 8, 65, 1232, 1229, 1231, 28]), (10, .ifCond .eq 12, 2, []), (22, .aload_n 0, 0, []), (23, .iconst 1, 0, []), (24, .invokevirtual 88, 3, [1, 61, 8, 65, 1224, 1221, 1223, 27]), (27, .ireturn, 4, [])]
def xm136 : XM := (⟨"PackWrightModel", "locked", "(I)I"⟩, prog_13_method_39_code, 2, (some .int), { frames := 2, cells := 0, slots := 0, locals := 43 }, [], xm136c, 2)
def xm137c : List XI := [(0, .aload_n 0, 0, []), (1, .aload_n 0, 0, []), (2, .getfield 162, 1, [8, 13, 1143]), (5, .invokevirtual 103, 3, [1, 51, 8, 65, 1264, 1261, 1263, 29]), (8, .ireturn, 4, [])]
def xm137 : XM := (⟨"PackWrightModel", "tries", "()I"⟩, prog_13_method_38_code, 1, (some .int), { frames := 1, cells := 0, slots := 0, locals := 21 }, [], xm137c, 1)
def xm138c : List XI := [(0, .aload_n 3, 0, []), (1, .iconst 0, 0, []), (2, .aload_n 0, 0, []), (3, .iload_n 1, 0, []), (4, .iload_n 2, 0, []), (5, .invokevirtual 52, 3, [1, 139, 7, 58, 998, 995, 996, 997]), (8, .i2l, 0, []), (9, .lastore, 1, []), (10, .goto 11, 2, []), (13, .astore 4, 0, []), (15, .iconst 1, 0, []), (16, .ireturn, 4, []), (17, .astore 4, 0, []), (19, .iconst 2, 0, []), (20, .ireturn, 4, []), (21, .iconst 0, 0, []), (22, .ireturn, 4, [])]
def xm138 : XM := (⟨"PackWrightLaw", "resolve", "(LPackWright;II[J)I"⟩, method_13_code, 5, (some .int), { frames := 8, cells := 1, slots := 6, locals := 127 }, [(0, 10, 13, 21), (0, 10, 17, 19)], xm138c, 4)
def xm139c : List XI := [(0, .iload_n 1, 0, []), (1, .ifCond .lt 8, 2, []), (4, .iload_n 1, 0, []), (5, .iconst 3, 0, []), (6, .if_icmp .le 13, 2, []), (9, .new 86, 5, [1, 189, 90, 0, 779, 72, 789, 999]), (19, .iload_n 1, 0, []), (20, .iconst 2, 0, []), (21, .if_icmp .lt 9, 2, []), (24, .aload_n 0, 0, []), (25, .iload_n 2, 0, []), (26, .invokevirtual 78, 3, [1, 57, 7, 58, 587, 584, 586, 19]), (30, .aload_n 0, 0, []), (31, .aload_n 0, 0, []), (32, .getfield 18, 1, [7, 2, 254]), (35, .invokevirtual 191, 3, [1, 115, 6, 59, 382, 379, 380, 381]), (38, .aload_n 0, 0, []), (39, .iload_n 1, 0, []), (40, .iload_n 2, 0, []), (41, .invokevirtual 195, 3, [1, 140, 7, 58, 1003, 1000, 1002, 24]), (44, .invokevirtual 198, 3, [1, 117, 7, 58, 390, 387, 389, 8]), (47, .istore_n 3, 0, []), (48, .aload_n 0, 0, []), (49, .aload_n 0, 0, []), (50, .getfield 35, 1, [7, 5, 257]), (53, .getfield 201, 1, [5, 2, 147]), (56, .putfield 204, 1, [7, 11, 263]), (59, .iload_n 3, 0, []), (60, .ifCond .eq 5, 2, []), (65, .aload_n 0, 0, []), (66, .getfield 25, 1, [7, 3, 255]), (69, .aload_n 0, 0, []), (70, .getfield 35, 1, [7, 5, 257]), (73, .getfield 207, 1, [5, 1, 145]), (76, .invokevirtual 210, 3, [1, 35, 2, 60, 545, 542, 543, 544]), (79, .istore 4, 0, []), (81, .aload_n 0, 0, []), (82, .getfield 25, 1, [7, 3, 255]), (85, .aload_n 0, 0, []), (86, .getfield 35, 1, [7, 5, 257]), (89, .getfield 207, 1, [5, 1, 145]), (92, .invokevirtual 214, 3, [1, 141, 2, 60, 1012, 1009, 1010, 1011]), (95, .aload_n 0, 0, []), (96, .getfield 49, 1, [7, 7, 259]), (99, .invokevirtual 218, 3, [1, 85, 4, 63, 456, 1013, 454, 455]), (102, .iload 4, 0, []), (104, .ireturn, 4, [])]
def xm139 : XM := (⟨"PackWright", "resolve", "(II)I"⟩, prog_1_method_14_code, 5, (some .int), { frames := 7, cells := 1, slots := 6, locals := 103 }, [], xm139c, 3)
def xm140c : List XI := [(0, .iload_n 1, 0, []), (1, .iconst 1, 0, []), (2, .if_icmp .ne 7, 2, []), (5, .sipush 4095, 0, []), (8, .ireturn, 4, []), (9, .iload_n 1, 0, []), (10, .iconst 2, 0, []), (11, .if_icmp .ne 7, 2, []), (18, .iload_n 1, 0, []), (19, .iconst 3, 0, []), (20, .if_icmp .ne 23, 2, []), (43, .iconst 0, 0, []), (44, .ireturn, 4, [])]
def xm140 : XM := (⟨"PackWright", "opened", "(II)I"⟩, prog_1_method_57_code, 3, (some .int), { frames := 0, cells := 0, slots := 0, locals := 0 }, [], xm140c, 3)
def xm141c : List XI := [(0, .iconst 0, 0, []), (1, .istore_n 2, 0, []), (2, .iload_n 2, 0, []), (3, .bipush 12, 0, []), (5, .if_icmp .ge 21, 2, []), (8, .aload_n 0, 0, []), (9, .getfield 11, 1, [2, 0, 118]), (12, .iload_n 2, 0, []), (13, .aload_n 1, 0, []), (14, .getfield 11, 1, [2, 0, 118]), (17, .iload_n 2, 0, []), (18, .aaload, 1, []), (19, .aastore, 1, []), (20, .iinc 2 1, 0, []), (23, .goto (-21), 2, []), (26, .return_, 4, [])]
def xm141 : XM := (⟨"PackWright$Choice", "become", "(LPackWright$Choice;)V"⟩, prog_4_method_3_code, 3, none, { frames := 0, cells := 0, slots := 0, locals := 0 }, [], xm141c, 2)
def xm142c : List XI := [(0, .aload_n 0, 0, []), (1, .iconst 0, 0, []), (2, .putfield 78, 1, [8, 0, 1130]), (5, .iload_n 1, 0, []), (6, .iconst 0, 0, []), (7, .iconst 3, 0, []), (8, .invokestatic 84, 3, [0, 60, 0, 65, 1235, 1233, 1234, 0]), (11, .ifCond .ne 9, 2, []), (14, .aload_n 0, 0, []), (15, .iconst 1, 0, []), (16, .invokevirtual 88, 3, [1, 61, 8, 65, 1224, 1221, 1223, 27]), (19, .ireturn, 4, []), (20, .iload_n 1, 0, []), (21, .iconst 2, 0, []), (22, .if_icmp .lt 17, 2, []), (25, .aload_n 0, 0, []), (26, .iload_n 2, 0, []), (27, .invokevirtual 92, 3, [1, 59, 8, 65, 1232, 1229, 1231, 28]), (30, .ifCond .ne 9, 2, []), (33, .aload_n 0, 0, []), (34, .iconst 2, 0, []), (35, .invokevirtual 88, 3, [1, 61, 8, 65, 1224, 1221, 1223, 27]), (38, .ireturn, 4, []), (39, .aload_n 0, 0, []), (40, .aload_n 0, 0, []), (41, .invokevirtual 146, 3, [1, 38, 8, 65, 1303, 1300, 1302, 31]), (44, .aload_n 0, 0, []), (45, .iload_n 1, 0, []), (46, .iload_n 2, 0, []), (47, .invokevirtual 154, 3, [1, 143, 8, 65, 1307, 1304, 1306, 32]), (50, .invokevirtual 158, 3, [1, 126, 8, 65, 1325, 1322, 1324, 35]), (53, .astore_n 3, 0, []), (54, .aload_n 0, 0, []), (55, .aload_n 0, 0, []), (56, .getfield 128, 1, [8, 26, 1156]), (59, .putfield 162, 1, [8, 13, 1143]), (62, .aload_n 3, 0, []), (63, .ifnonnull 20, 2, []), (83, .aload_n 0, 0, []), (84, .aload_n 3, 0, []), (85, .invokevirtual 165, 3, [1, 144, 8, 65, 1345, 1342, 1344, 40]), (88, .istore 4, 0, []), (90, .aload_n 0, 0, []), (91, .aload_n 3, 0, []), (92, .putfield 47, 1, [8, 12, 1142]), (95, .aload_n 0, 0, []), (96, .iconst 0, 0, []), (97, .putfield 169, 1, [8, 20, 1150]), (100, .iload 4, 0, []), (102, .ireturn, 4, [])]
def xm142 : XM := (⟨"PackWrightModel", "resolve", "(II)I"⟩, prog_13_method_36_code, 5, (some .int), { frames := 3, cells := 6, slots := 72, locals := 108 }, [], xm142c, 3)
def xm143c : List XI := [(0, .iload_n 1, 0, []), (1, .iconst 1, 0, []), (2, .if_icmp .ne 7, 2, []), (5, .invokestatic 43, 3, [0, 8, 0, 65, 1129, 1127, 1128, 0]), (8, .areturn, 4, []), (9, .aload_n 0, 0, []), (10, .getfield 47, 1, [8, 12, 1142]), (13, .invokestatic 142, 3, [0, 89, 0, 65, 1310, 1308, 1309, 0]), (16, .astore_n 3, 0, []), (17, .iload_n 1, 0, []), (18, .ifCond .ne 5, 2, []), (21, .aload_n 3, 0, []), (22, .areturn, 4, [])]
def xm143 : XM := (⟨"PackWrightModel", "held", "(II)[I"⟩, prog_13_method_34_code, 8, (some (.array .int)), { frames := 2, cells := 1, slots := 12, locals := 81 }, [], xm143c, 3)
def xm144c : List XI := [(0, .iconst 0, 0, []), (1, .istore_n 2, 0, []), (2, .iconst 0, 0, []), (3, .istore_n 3, 0, []), (4, .iload_n 3, 0, []), (5, .aload_n 0, 0, []), (6, .getfield 81, 1, [8, 1, 1131]), (9, .if_icmp .ge 29, 2, []), (38, .iload_n 2, 0, []), (39, .ireturn, 4, [])]
def xm144 : XM := (⟨"PackWrightModel", "changes", "([I)I"⟩, prog_13_method_35_code, 4, (some .int), { frames := 0, cells := 0, slots := 0, locals := 0 }, [], xm144c, 2)
def xm145c : List XI := [(0, .aload_n 0, 0, []), (1, .aload_n 0, 0, []), (2, .getfield 113, 1, [8, 10, 1140]), (5, .invokevirtual 103, 3, [1, 51, 8, 65, 1264, 1261, 1263, 29]), (8, .ireturn, 4, [])]
def xm145 : XM := (⟨"PackWrightModel", "wishes", "()I"⟩, prog_13_method_24_code, 1, (some .int), { frames := 1, cells := 0, slots := 0, locals := 21 }, [], xm145c, 1)
def xm146c : List XI := [(0, .aload_n 2, 0, []), (1, .iconst 0, 0, []), (2, .aload_n 0, 0, []), (3, .iload_n 1, 0, []), (4, .invokevirtual 49, 3, [1, 147, 7, 58, 986, 983, 984, 985]), (12, .astore_n 3, 0, []), (13, .iconst 1, 0, []), (14, .ireturn, 4, [])]
def xm146 : XM := (⟨"PackWrightLaw", "dropWish", "(LPackWright;I[J)I"⟩, method_12_code, 4, (some .int), { frames := 7, cells := 1, slots := 6, locals := 103 }, [(0, 9, 12, 19)], xm146c, 3)
def xm147c : List XI := [(0, .iload_n 1, 0, []), (1, .ifCond .lt 14, 2, []), (4, .iload_n 1, 0, []), (5, .aload_n 0, 0, []), (6, .getfield 18, 1, [7, 2, 254]), (9, .getfield 178, 1, [6, 1, 104]), (12, .if_icmp .lt 13, 2, []), (15, .new 166, 5, [0, 184, 170, 0, 588, 71, 630, 987])]
def xm147 : XM := (⟨"PackWright", "dropWish", "(I)I"⟩, prog_1_method_12_code, 2, (some .int), { frames := 6, cells := 1, slots := 6, locals := 82 }, [], xm147c, 2)
def xm148c : List XI := [(0, .aload_n 0, 0, []), (1, .iconst 0, 0, []), (2, .putfield 78, 1, [8, 0, 1130]), (5, .iload_n 1, 0, []), (6, .iconst 0, 0, []), (7, .aload_n 0, 0, []), (8, .getfield 113, 1, [8, 10, 1140]), (11, .iconst 1, 0, []), (12, .isub, 0, []), (13, .invokestatic 84, 3, [0, 60, 0, 65, 1235, 1233, 1234, 0]), (16, .ifCond .ne 9, 2, []), (19, .aload_n 0, 0, []), (20, .iconst 1, 0, []), (21, .invokevirtual 88, 3, [1, 61, 8, 65, 1224, 1221, 1223, 27]), (24, .ireturn, 4, [])]
def xm148 : XM := (⟨"PackWrightModel", "dropWish", "(I)I"⟩, prog_13_method_23_code, 3, (some .int), { frames := 1, cells := 0, slots := 0, locals := 22 }, [], xm148c, 2)
def xm149c : List XI := [(0, .aload 7, 0, []), (2, .iconst 0, 0, []), (3, .aload_n 0, 0, []), (4, .iload_n 1, 0, []), (5, .iload_n 2, 0, []), (6, .iload_n 3, 0, []), (7, .iload 4, 0, []), (9, .iload 5, 0, []), (11, .iload 6, 0, []), (13, .invokevirtual 46, 3, [1, 150, 7, 58, 977, 974, 975, 976]), (21, .astore 8, 0, []), (23, .iconst 1, 0, []), (24, .ireturn, 4, [])]
def xm149 : XM := (⟨"PackWrightLaw", "wish", "(LPackWright;IIIIII[J)I"⟩, method_11_code, 9, (some .int), { frames := 8, cells := 1, slots := 6, locals := 130 }, [(0, 18, 21, 19), (0, 18, 25, 21), (0, 18, 29, 13)], xm149c, 8)
def xm150c : List XI := [(0, .aload_n 0, 0, []), (1, .iload_n 1, 0, []), (2, .invokevirtual 78, 3, [1, 57, 7, 58, 587, 584, 586, 19])]
def xm150 : XM := (⟨"PackWright", "wish", "(IIIIII)I"⟩, prog_1_method_11_code, 8, (some .int), { frames := 7, cells := 1, slots := 6, locals := 103 }, [], xm150c, 7)
def xm151c : List XI := [(0, .aload_n 0, 0, []), (1, .iconst 0, 0, []), (2, .putfield 78, 1, [8, 0, 1130]), (5, .aload_n 0, 0, []), (6, .iload_n 1, 0, []), (7, .invokevirtual 92, 3, [1, 59, 8, 65, 1232, 1229, 1231, 28]), (10, .ifCond .ne 9, 2, []), (13, .aload_n 0, 0, []), (14, .iconst 1, 0, []), (15, .invokevirtual 88, 3, [1, 61, 8, 65, 1224, 1221, 1223, 27]), (18, .ireturn, 4, [])]
def xm151 : XM := (⟨"PackWrightModel", "wish", "(IIIIII)I"⟩, prog_13_method_22_code, 8, (some .int), { frames := 2, cells := 0, slots := 0, locals := 43 }, [], xm151c, 7)
def xm152c : List XI := [(0, .aload 6, 0, []), (2, .iconst 0, 0, []), (3, .aload_n 0, 0, []), (4, .iload_n 1, 0, []), (5, .iload_n 2, 0, []), (6, .iload_n 3, 0, []), (7, .iload 4, 0, []), (9, .iload 5, 0, []), (11, .invokevirtual 43, 3, [1, 153, 7, 58, 965, 962, 963, 964]), (19, .astore 7, 0, []), (21, .iconst 1, 0, []), (22, .ireturn, 4, [])]
def xm152 : XM := (⟨"PackWrightLaw", "letIn", "(LPackWright;IIIII[J)I"⟩, method_10_code, 8, (some .int), { frames := 8, cells := 1, slots := 6, locals := 129 }, [(0, 16, 19, 19), (0, 16, 23, 21)], xm152c, 7)
def xm153c : List XI := [(0, .aload_n 0, 0, []), (1, .iload_n 1, 0, []), (2, .invokevirtual 78, 3, [1, 57, 7, 58, 587, 584, 586, 19])]
def xm153 : XM := (⟨"PackWright", "letIn", "(IIIII)I"⟩, prog_1_method_10_code, 7, (some .int), { frames := 7, cells := 1, slots := 6, locals := 103 }, [], xm153c, 6)
def xm154c : List XI := [(0, .aload_n 0, 0, []), (1, .iconst 0, 0, []), (2, .putfield 78, 1, [8, 0, 1130]), (5, .aload_n 0, 0, []), (6, .iload_n 1, 0, []), (7, .invokevirtual 92, 3, [1, 59, 8, 65, 1232, 1229, 1231, 28]), (10, .ifCond .ne 9, 2, []), (13, .aload_n 0, 0, []), (14, .iconst 1, 0, []), (15, .invokevirtual 88, 3, [1, 61, 8, 65, 1224, 1221, 1223, 27]), (18, .ireturn, 4, [])]
def xm154 : XM := (⟨"PackWrightModel", "letIn", "(IIIII)I"⟩, prog_13_method_21_code, 8, (some .int), { frames := 2, cells := 0, slots := 0, locals := 43 }, [], xm154c, 6)
def xm155c : List XI := [(0, .aload_n 3, 0, []), (1, .iconst 0, 0, []), (2, .aload_n 0, 0, []), (3, .iload_n 1, 0, []), (4, .iload_n 2, 0, []), (5, .invokevirtual 39, 3, [1, 156, 7, 58, 659, 958, 657, 658]), (13, .astore 4, 0, []), (15, .iconst 1, 0, []), (16, .ireturn, 4, [])]
def xm155 : XM := (⟨"PackWrightLaw", "versionAt", "(LPackWright;II[J)I"⟩, method_9_code, 5, (some .int), { frames := 8, cells := 1, slots := 6, locals := 126 }, [(0, 10, 13, 19)], xm155c, 4)
def xm156c : List XI := [(0, .aload_n 0, 0, []), (1, .iload_n 1, 0, []), (2, .invokevirtual 78, 3, [1, 57, 7, 58, 587, 584, 586, 19])]
def xm156 : XM := (⟨"PackWright", "versionAt", "(II)I"⟩, prog_1_method_9_code, 4, (some .int), { frames := 7, cells := 1, slots := 6, locals := 103 }, [], xm156c, 3)
def xm157c : List XI := [(0, .aload_n 0, 0, []), (1, .iconst 0, 0, []), (2, .putfield 78, 1, [8, 0, 1130]), (5, .aload_n 0, 0, []), (6, .iload_n 1, 0, []), (7, .invokevirtual 92, 3, [1, 59, 8, 65, 1232, 1229, 1231, 28]), (10, .ifCond .eq 28, 2, []), (38, .aload_n 0, 0, []), (39, .iconst 1, 0, []), (40, .invokevirtual 88, 3, [1, 61, 8, 65, 1224, 1221, 1223, 27]), (43, .ireturn, 4, [])]
def xm157 : XM := (⟨"PackWrightModel", "versionAt", "(II)I"⟩, prog_13_method_20_code, 3, (some .int), { frames := 2, cells := 0, slots := 0, locals := 43 }, [], xm157c, 3)
def xm158c : List XI := [(0, .aload_n 2, 0, []), (1, .iconst 0, 0, []), (2, .aload_n 0, 0, []), (3, .iload_n 1, 0, []), (4, .invokevirtual 35, 3, [1, 159, 7, 58, 583, 954, 581, 582]), (12, .astore_n 3, 0, []), (13, .iconst 1, 0, []), (14, .ireturn, 4, [])]
def xm158 : XM := (⟨"PackWrightLaw", "versions", "(LPackWright;I[J)I"⟩, method_8_code, 4, (some .int), { frames := 8, cells := 1, slots := 6, locals := 124 }, [(0, 9, 12, 19)], xm158c, 3)
def xm159c : List XI := [(0, .aload_n 0, 0, []), (1, .iload_n 1, 0, []), (2, .invokevirtual 78, 3, [1, 57, 7, 58, 587, 584, 586, 19])]
def xm159 : XM := (⟨"PackWright", "versions", "(I)I"⟩, prog_1_method_8_code, 2, (some .int), { frames := 7, cells := 1, slots := 6, locals := 103 }, [], xm159c, 2)
def xm160c : List XI := [(0, .aload_n 0, 0, []), (1, .iconst 0, 0, []), (2, .putfield 78, 1, [8, 0, 1130]), (5, .aload_n 0, 0, []), (6, .iload_n 1, 0, []), (7, .invokevirtual 92, 3, [1, 59, 8, 65, 1232, 1229, 1231, 28]), (10, .ifCond .eq 12, 2, []), (22, .aload_n 0, 0, []), (23, .iconst 1, 0, []), (24, .invokevirtual 88, 3, [1, 61, 8, 65, 1224, 1221, 1223, 27]), (27, .ireturn, 4, [])]
def xm160 : XM := (⟨"PackWrightModel", "versions", "(I)I"⟩, prog_13_method_18_code, 2, (some .int), { frames := 2, cells := 0, slots := 0, locals := 43 }, [], xm160c, 2)
def xm161c : List XI := [(0, .aload_n 0, 0, []), (1, .aload_n 0, 0, []), (2, .getfield 81, 1, [8, 1, 1131]), (5, .invokevirtual 103, 3, [1, 51, 8, 65, 1264, 1261, 1263, 29]), (8, .ireturn, 4, [])]
def xm161 : XM := (⟨"PackWrightModel", "packages", "()I"⟩, prog_13_method_17_code, 1, (some .int), { frames := 1, cells := 0, slots := 0, locals := 21 }, [], xm161c, 1)
def xm162c : List XI := [(0, .aload 4, 0, []), (2, .iconst 0, 0, []), (3, .aload_n 0, 0, []), (4, .iload_n 1, 0, []), (5, .iload_n 2, 0, []), (6, .iload_n 3, 0, []), (7, .invokevirtual 31, 3, [1, 163, 7, 58, 950, 947, 948, 949]), (22, .astore 5, 0, []), (24, .iconst 1, 0, []), (25, .ireturn, 4, [])]
def xm162 : XM := (⟨"PackWrightLaw", "withdraw", "(LPackWright;IIZ[J)I"⟩, method_7_code, 6, (some .int), { frames := 9, cells := 1, slots := 6, locals := 151 }, [(0, 19, 22, 19)], xm162c, 5)
def xm163c : List XI := [(0, .aload_n 0, 0, []), (1, .iload_n 1, 0, []), (2, .iload_n 2, 0, []), (3, .invokevirtual 154, 3, [1, 56, 7, 58, 705, 702, 704, 21])]
def xm163 : XM := (⟨"PackWright", "withdraw", "(IIZ)Z"⟩, prog_1_method_6_code, 6, (some .boolean), { frames := 8, cells := 1, slots := 6, locals := 126 }, [], xm163c, 4)
def xm164c : List XI := [(0, .aload_n 0, 0, []), (1, .aload_n 0, 0, []), (2, .iload_n 1, 0, []), (3, .invokevirtual 92, 3, [1, 59, 8, 65, 1232, 1229, 1231, 28]), (6, .ifCond .eq 23, 2, []), (29, .iconst 1, 0, []), (30, .putfield 78, 1, [8, 0, 1130]), (33, .aload_n 0, 0, []), (34, .getfield 78, 1, [8, 0, 1130]), (37, .ifCond .eq 5, 2, []), (40, .iconst 0, 0, []), (41, .ireturn, 4, [])]
def xm164 : XM := (⟨"PackWrightModel", "withdraw", "(IIZ)Z"⟩, prog_13_method_16_code, 5, (some .boolean), { frames := 2, cells := 0, slots := 0, locals := 43 }, [], xm164c, 4)
def xm165c : List XI := [(0, .aload 7, 0, []), (2, .iconst 0, 0, []), (3, .aload_n 0, 0, []), (4, .iload_n 1, 0, []), (5, .iload_n 2, 0, []), (6, .iload_n 3, 0, []), (7, .iload 4, 0, []), (9, .iload 5, 0, []), (11, .iload 6, 0, []), (13, .invokevirtual 27, 3, [1, 166, 7, 58, 938, 935, 936, 937]), (21, .astore 8, 0, []), (23, .iconst 1, 0, []), (24, .ireturn, 4, [])]
def xm165 : XM := (⟨"PackWrightLaw", "clash", "(LPackWright;IIIIII[J)I"⟩, method_6_code, 9, (some .int), { frames := 8, cells := 1, slots := 6, locals := 132 }, [(0, 18, 21, 19), (0, 18, 25, 21), (0, 18, 29, 13)], xm165c, 8)
def xm166c : List XI := [(0, .aload_n 0, 0, []), (1, .iload_n 1, 0, []), (2, .invokevirtual 78, 3, [1, 57, 7, 58, 587, 584, 586, 19])]
def xm166 : XM := (⟨"PackWright", "clash", "(IIIIII)I"⟩, prog_1_method_5_code, 10, (some .int), { frames := 7, cells := 1, slots := 6, locals := 103 }, [], xm166c, 7)
def xm167c : List XI := [(0, .aload_n 0, 0, []), (1, .iconst 0, 0, []), (2, .putfield 78, 1, [8, 0, 1130]), (5, .aload_n 0, 0, []), (6, .iload_n 1, 0, []), (7, .invokevirtual 92, 3, [1, 59, 8, 65, 1232, 1229, 1231, 28]), (10, .ifCond .eq 11, 2, []), (21, .aload_n 0, 0, []), (22, .iconst 1, 0, []), (23, .invokevirtual 88, 3, [1, 61, 8, 65, 1224, 1221, 1223, 27]), (26, .ireturn, 4, [])]
def xm167 : XM := (⟨"PackWrightModel", "clash", "(IIIIII)I"⟩, prog_13_method_15_code, 9, (some .int), { frames := 2, cells := 0, slots := 0, locals := 43 }, [], xm167c, 7)
def xm168c : List XI := [(0, .aload 9, 0, []), (2, .iconst 0, 0, []), (3, .aload_n 0, 0, []), (4, .iload_n 1, 0, []), (5, .iload_n 2, 0, []), (6, .iload_n 3, 0, []), (7, .iload 4, 0, []), (9, .iload 5, 0, []), (11, .iload 6, 0, []), (13, .iload 7, 0, []), (15, .iload 8, 0, []), (17, .invokevirtual 23, 3, [1, 169, 7, 58, 859, 856, 857, 858]), (25, .astore 10, 0, []), (27, .iconst 1, 0, []), (28, .ireturn, 4, [])]
def xm168 : XM := (⟨"PackWrightLaw", "need", "(LPackWright;IIIIIIII[J)I"⟩, method_5_code, 11, (some .int), { frames := 8, cells := 1, slots := 6, locals := 134 }, [(0, 22, 25, 19), (0, 22, 29, 21), (0, 22, 33, 13)], xm168c, 10)
def xm169c : List XI := [(0, .aload_n 0, 0, []), (1, .iload_n 1, 0, []), (2, .invokevirtual 78, 3, [1, 57, 7, 58, 587, 584, 586, 19])]
def xm169 : XM := (⟨"PackWright", "need", "(IIIIIIII)I"⟩, prog_1_method_4_code, 12, (some .int), { frames := 7, cells := 1, slots := 6, locals := 103 }, [], xm169c, 9)
def xm170c : List XI := [(0, .aload_n 0, 0, []), (1, .iconst 0, 0, []), (2, .putfield 78, 1, [8, 0, 1130]), (5, .aload_n 0, 0, []), (6, .iload_n 1, 0, []), (7, .invokevirtual 92, 3, [1, 59, 8, 65, 1232, 1229, 1231, 28]), (10, .ifCond .eq 11, 2, []), (21, .aload_n 0, 0, []), (22, .iconst 1, 0, []), (23, .invokevirtual 88, 3, [1, 61, 8, 65, 1224, 1221, 1223, 27]), (26, .ireturn, 4, [])]
def xm170 : XM := (⟨"PackWrightModel", "need", "(IIIIIIII)I"⟩, prog_13_method_14_code, 11, (some .int), { frames := 2, cells := 0, slots := 0, locals := 43 }, [], xm170c, 9)
def xm171c : List XI := [(0, .aload 6, 0, []), (2, .iconst 0, 0, []), (3, .aload_n 0, 0, []), (4, .iload_n 1, 0, []), (5, .iload_n 2, 0, []), (6, .iload_n 3, 0, []), (7, .iload 4, 0, []), (9, .iload 5, 0, []), (11, .invokevirtual 15, 3, [1, 172, 7, 58, 772, 769, 770, 771]), (19, .astore 7, 0, []), (21, .iconst 1, 0, []), (22, .ireturn, 4, [])]
def xm171 : XM := (⟨"PackWrightLaw", "publish", "(LPackWright;IIIII[J)I"⟩, method_4_code, 8, (some .int), { frames := 8, cells := 1, slots := 6, locals := 130 }, [(0, 16, 19, 19), (0, 16, 23, 21), (0, 16, 27, 13)], xm171c, 7)
def xm172c : List XI := [(0, .aload_n 0, 0, []), (1, .iload_n 1, 0, []), (2, .invokevirtual 78, 3, [1, 57, 7, 58, 587, 584, 586, 19])]
def xm172 : XM := (⟨"PackWright", "publish", "(IIIII)I"⟩, prog_1_method_3_code, 8, (some .int), { frames := 7, cells := 1, slots := 6, locals := 103 }, [], xm172c, 6)
def xm173c : List XI := [(0, .aload_n 0, 0, []), (1, .iconst 0, 0, []), (2, .putfield 78, 1, [8, 0, 1130]), (5, .aload_n 0, 0, []), (6, .iload_n 1, 0, []), (7, .invokevirtual 92, 3, [1, 59, 8, 65, 1232, 1229, 1231, 28]), (10, .ifCond .ne 9, 2, []), (13, .aload_n 0, 0, []), (14, .iconst 1, 0, []), (15, .invokevirtual 88, 3, [1, 61, 8, 65, 1224, 1221, 1223, 27]), (18, .ireturn, 4, [])]
def xm173 : XM := (⟨"PackWrightModel", "publish", "(IIIII)I"⟩, prog_13_method_13_code, 8, (some .int), { frames := 2, cells := 0, slots := 0, locals := 43 }, [], xm173c, 6)
def xm174c : List XI := [(0, .aload_n 1, 0, []), (1, .iconst 0, 0, []), (2, .aload_n 0, 0, []), (3, .invokevirtual 7, 3, [1, 175, 7, 58, 728, 725, 726, 727]), (6, .i2l, 0, []), (7, .lastore, 1, []), (8, .goto 6, 2, []), (14, .iconst 0, 0, []), (15, .ireturn, 4, [])]
def xm174 : XM := (⟨"PackWrightLaw", "addPackage", "(LPackWright;[J)I"⟩, method_3_code, 3, (some .int), { frames := 3, cells := 3, slots := 19, locals := 52 }, [(0, 8, 11, 13)], xm174c, 2)
def xm175c : List XI := [(0, .aload_n 0, 0, []), (1, .getfield 67, 1, [7, 1, 253]), (4, .bipush 12, 0, []), (6, .if_icmp .lt 13, 2, []), (19, .aload_n 0, 0, []), (20, .getfield 11, 1, [7, 0, 252]), (23, .aload_n 0, 0, []), (24, .getfield 67, 1, [7, 1, 253]), (27, .new 9, 1, [3, 86, 745, 70]), (30, .dup, 0, []), (31, .invokespecial 77, 3, [3, 176, 0, 70, 748, 746, 747, 0]), (34, .aastore, 1, []), (35, .aload_n 0, 0, []), (36, .dup, 0, []), (37, .getfield 67, 1, [7, 1, 253]), (40, .iconst 1, 0, []), (41, .iadd, 0, []), (42, .putfield 67, 1, [7, 1, 253]), (45, .aload_n 0, 0, []), (46, .getfield 67, 1, [7, 1, 253]), (49, .iconst 1, 0, []), (50, .isub, 0, []), (51, .ireturn, 4, [])]
def xm175 : XM := (⟨"PackWright", "addPackage", "()I"⟩, prog_1_method_2_code, 1, (some .int), { frames := 2, cells := 3, slots := 19, locals := 32 }, [], xm175c, 1)
def xm176c : List XI := [(0, .aload_n 0, 0, []), (1, .invokespecial 3, 6, [749, 84, 85]), (4, .aload_n 0, 0, []), (5, .bipush 8, 0, []), (7, .anewarray 9, 1, [3, 750]), (10, .putfield 11, 1, [3, 0, 751]), (13, .aload_n 0, 0, []), (14, .bipush 8, 0, []), (16, .anewarray 9, 1, [3, 750]), (19, .putfield 17, 1, [3, 1, 753]), (22, .return_, 4, [])]
def xm176 : XM := (⟨"PackWright$Pack", "<init>", "()V"⟩, prog_6_method_1_code, 1, none, { frames := 1, cells := 2, slots := 16, locals := 12 }, [], xm176c, 1)
def xm177c : List XI := [(0, .aload_n 0, 0, []), (1, .iconst 0, 0, []), (2, .putfield 78, 1, [8, 0, 1130]), (5, .aload_n 0, 0, []), (6, .getfield 81, 1, [8, 1, 1131]), (9, .bipush 12, 0, []), (11, .if_icmp .ne 11, 2, []), (22, .aload_n 0, 0, []), (23, .dup, 0, []), (24, .getfield 81, 1, [8, 1, 1131]), (27, .dup_x1, 0, []), (28, .iconst 1, 0, []), (29, .iadd, 0, []), (30, .putfield 81, 1, [8, 1, 1131]), (33, .ireturn, 4, [])]
def xm177 : XM := (⟨"PackWrightModel", "addPackage", "()I"⟩, prog_13_method_12_code, 1, (some .int), { frames := 0, cells := 0, slots := 0, locals := 0 }, [], xm177c, 1)
def xMs : List XM := [xm0, xm1, xm2, xm3, xm4, xm5, xm6, xm7, xm8, xm9, xm10, xm11, xm12, xm13, xm14, xm15, xm16, xm17, xm18, xm19, xm20, xm21, xm22, xm23, xm24, xm25, xm26, xm27, xm28, xm29, xm30, xm31, xm32, xm33, xm34, xm35, xm36, xm37, xm38, xm39, xm40, xm41, xm42, xm43, xm44, xm45, xm46, xm47, xm48, xm49, xm50, xm51, xm52, xm53, xm54, xm55, xm56, xm57, xm58, xm59, xm60, xm61, xm62, xm63, xm64, xm65, xm66, xm67, xm68, xm69, xm70, xm71, xm72, xm73, xm74, xm75, xm76, xm77, xm78, xm79, xm80, xm81, xm82, xm83, xm84, xm85, xm86, xm87, xm88, xm89, xm90, xm91, xm92, xm93, xm94, xm95, xm96, xm97, xm98, xm99, xm100, xm101, xm102, xm103, xm104, xm105, xm106, xm107, xm108, xm109, xm110, xm111, xm112, xm113, xm114, xm115, xm116, xm117, xm118, xm119, xm120, xm121, xm122, xm123, xm124, xm125, xm126, xm127, xm128, xm129, xm130, xm131, xm132, xm133, xm134, xm135, xm136, xm137, xm138, xm139, xm140, xm141, xm142, xm143, xm144, xm145, xm146, xm147, xm148, xm149, xm150, xm151, xm152, xm153, xm154, xm155, xm156, xm157, xm158, xm159, xm160, xm161, xm162, xm163, xm164, xm165, xm166, xm167, xm168, xm169, xm170, xm171, xm172, xm173, xm174, xm175, xm176, xm177]
def xcls : Nat → Nat
  | 13 => 2
  | 19 => 0
  | 21 => 1
  | _ => 3
def xclp : Nat → Nat
  | 13 => 724
  | 19 => 767
  | 21 => 768
  | _ => 0
def xlw0 : List XI := [(0, .new 8, 1, [7, 78, 79, 58]), (3, .dup, 0, []), (4, .invokespecial 100, 3, [2, 0, 0, 58, 82, 80, 81, 0]), (7, .astore_n 1, 0, []), (8, .new 101, 1, [8, 1115, 1116, 65]), (11, .dup, 0, []), (12, .invokespecial 103, 3, [2, 7, 0, 65, 1119, 1117, 1118, 0]), (15, .astore_n 2, 0, []), (16, .iconst 1, 0, []), (17, .newarray .long, 1, [2, 1536]), (19, .astore_n 3, 0, []), (20, .iconst 0, 0, []), (21, .istore 4, 0, []), (23, .iload 4, 0, []), (25, .aload_n 0, 0, []), (26, .arraylength, 1, []), (27, .bipush 9, 0, []), (29, .isub, 0, []), (30, .if_icmp .gt 2291, 2, []), (33, .aload_n 0, 0, []), (34, .iload 4, 0, []), (36, .iaload, 1, []), (37, .bipush 63, 0, []), (39, .iand, 0, []), (40, .tableswitch 2275 0 42 #[188, 232, 336, 482, 600, 703, 716, 772, 840, 944, 1062, 1118, 1131, 1199, 1212, 1268, 1281, 1337, 1350, 1363, 1376, 1432, 1500, 1556, 1612, 1668, 1724, 1780, 1793, 1806, 1862, 1918, 1974, 2018, 2074, 2087, 2100, 2168, 2181, 2194, 2207, 2220, 2261], 2, []), (228, .aload_n 1, 0, []), (229, .aload_n 3, 0, []), (230, .invokestatic 104, 3, [6, 174, 0, 57, 723, 721, 722, 0]), (233, .istore 5, 0, []), (235, .aload_n 2, 0, []), (236, .invokevirtual 109, 3, [1, 177, 8, 65, 1220, 1217, 1218, 1219]), (239, .istore 6, 0, []), (241, .aload_n 2, 0, []), (242, .invokevirtual 110, 3, [1, 62, 8, 65, 1216, 1213, 1214, 1215]), (245, .iload 5, 0, []), (247, .if_icmp .eq 5, 2, []), (252, .iload 5, 0, []), (254, .ifCond .ne 15, 2, []), (257, .aload_n 3, 0, []), (258, .iconst 0, 0, []), (259, .laload, 1, []), (260, .iload 6, 0, []), (262, .i2l, 0, []), (263, .lcmp, 0, []), (264, .ifCond .eq 5, 2, []), (269, .goto 2046, 2, []), (272, .aload_n 1, 0, []), (273, .aload_n 0, 0, []), (274, .iload 4, 0, []), (276, .iconst 1, 0, []), (277, .iadd, 0, []), (278, .iaload, 1, []), (279, .aload_n 0, 0, []), (280, .iload 4, 0, []), (282, .iconst 2, 0, []), (283, .iadd, 0, []), (284, .iaload, 1, []), (285, .aload_n 0, 0, []), (286, .iload 4, 0, []), (288, .iconst 3, 0, [])]
def xlw1 : List XI := [(289, .iadd, 0, []), (290, .iaload, 1, []), (291, .aload_n 0, 0, []), (292, .iload 4, 0, []), (294, .iconst 4, 0, []), (295, .iadd, 0, []), (296, .iaload, 1, []), (297, .aload_n 0, 0, []), (298, .iload 4, 0, []), (300, .iconst 5, 0, []), (301, .iadd, 0, []), (302, .iaload, 1, []), (303, .aload_n 3, 0, []), (304, .invokestatic 113, 3, [6, 171, 0, 57, 766, 764, 765, 0]), (307, .istore 5, 0, []), (309, .aload_n 2, 0, []), (310, .aload_n 0, 0, []), (311, .iload 4, 0, []), (313, .iconst 1, 0, []), (314, .iadd, 0, []), (315, .iaload, 1, []), (316, .aload_n 0, 0, []), (317, .iload 4, 0, []), (319, .iconst 2, 0, []), (320, .iadd, 0, []), (321, .iaload, 1, []), (322, .aload_n 0, 0, []), (323, .iload 4, 0, []), (325, .iconst 3, 0, []), (326, .iadd, 0, []), (327, .iaload, 1, []), (328, .aload_n 0, 0, []), (329, .iload 4, 0, []), (331, .iconst 4, 0, []), (332, .iadd, 0, []), (333, .iaload, 1, []), (334, .aload_n 0, 0, []), (335, .iload 4, 0, []), (337, .iconst 5, 0, []), (338, .iadd, 0, []), (339, .iaload, 1, []), (340, .invokevirtual 116, 3, [1, 173, 8, 65, 1228, 1225, 1226, 1227]), (343, .istore 6, 0, []), (345, .aload_n 2, 0, []), (346, .invokevirtual 110, 3, [1, 62, 8, 65, 1216, 1213, 1214, 1215]), (349, .iload 5, 0, []), (351, .if_icmp .eq 5, 2, []), (356, .iload 5, 0, []), (358, .ifCond .ne 15, 2, []), (373, .goto 1942, 2, []), (376, .aload_n 1, 0, []), (377, .aload_n 0, 0, []), (378, .iload 4, 0, []), (380, .iconst 1, 0, []), (381, .iadd, 0, []), (382, .iaload, 1, []), (383, .aload_n 0, 0, []), (384, .iload 4, 0, []), (386, .iconst 2, 0, []), (387, .iadd, 0, [])]
def xlw2 : List XI := [(388, .iaload, 1, []), (389, .aload_n 0, 0, []), (390, .iload 4, 0, []), (392, .iconst 3, 0, []), (393, .iadd, 0, []), (394, .iaload, 1, []), (395, .aload_n 0, 0, []), (396, .iload 4, 0, []), (398, .iconst 4, 0, []), (399, .iadd, 0, []), (400, .iaload, 1, []), (401, .aload_n 0, 0, []), (402, .iload 4, 0, []), (404, .iconst 5, 0, []), (405, .iadd, 0, []), (406, .iaload, 1, []), (407, .aload_n 0, 0, []), (408, .iload 4, 0, []), (410, .bipush 6, 0, []), (412, .iadd, 0, []), (413, .iaload, 1, []), (414, .aload_n 0, 0, []), (415, .iload 4, 0, []), (417, .bipush 7, 0, []), (419, .iadd, 0, []), (420, .iaload, 1, []), (421, .aload_n 0, 0, []), (422, .iload 4, 0, []), (424, .bipush 8, 0, []), (426, .iadd, 0, []), (427, .iaload, 1, []), (428, .aload_n 3, 0, []), (429, .invokestatic 117, 3, [6, 168, 0, 57, 855, 853, 854, 0]), (432, .istore 5, 0, []), (434, .aload_n 2, 0, []), (435, .aload_n 0, 0, []), (436, .iload 4, 0, []), (438, .iconst 1, 0, []), (439, .iadd, 0, []), (440, .iaload, 1, []), (441, .aload_n 0, 0, []), (442, .iload 4, 0, []), (444, .iconst 2, 0, []), (445, .iadd, 0, []), (446, .iaload, 1, []), (447, .aload_n 0, 0, []), (448, .iload 4, 0, []), (450, .iconst 3, 0, []), (451, .iadd, 0, []), (452, .iaload, 1, []), (453, .aload_n 0, 0, []), (454, .iload 4, 0, []), (456, .iconst 4, 0, []), (457, .iadd, 0, []), (458, .iaload, 1, []), (459, .aload_n 0, 0, []), (460, .iload 4, 0, []), (462, .iconst 5, 0, []), (463, .iadd, 0, []), (464, .iaload, 1, [])]
def xlw3 : List XI := [(465, .aload_n 0, 0, []), (466, .iload 4, 0, []), (468, .bipush 6, 0, []), (470, .iadd, 0, []), (471, .iaload, 1, []), (472, .aload_n 0, 0, []), (473, .iload 4, 0, []), (475, .bipush 7, 0, []), (477, .iadd, 0, []), (478, .iaload, 1, []), (479, .aload_n 0, 0, []), (480, .iload 4, 0, []), (482, .bipush 8, 0, []), (484, .iadd, 0, []), (485, .iaload, 1, []), (486, .invokevirtual 120, 3, [1, 170, 8, 65, 1245, 1242, 1243, 1244]), (489, .istore 6, 0, []), (491, .aload_n 2, 0, []), (492, .invokevirtual 110, 3, [1, 62, 8, 65, 1216, 1213, 1214, 1215]), (495, .iload 5, 0, []), (497, .if_icmp .eq 5, 2, []), (502, .iload 5, 0, []), (504, .ifCond .ne 15, 2, []), (519, .goto 1796, 2, []), (522, .aload_n 1, 0, []), (523, .aload_n 0, 0, []), (524, .iload 4, 0, []), (526, .iconst 1, 0, []), (527, .iadd, 0, []), (528, .iaload, 1, []), (529, .aload_n 0, 0, []), (530, .iload 4, 0, []), (532, .iconst 2, 0, []), (533, .iadd, 0, []), (534, .iaload, 1, []), (535, .aload_n 0, 0, []), (536, .iload 4, 0, []), (538, .iconst 3, 0, []), (539, .iadd, 0, []), (540, .iaload, 1, []), (541, .aload_n 0, 0, []), (542, .iload 4, 0, []), (544, .iconst 4, 0, []), (545, .iadd, 0, []), (546, .iaload, 1, []), (547, .aload_n 0, 0, []), (548, .iload 4, 0, []), (550, .iconst 5, 0, []), (551, .iadd, 0, []), (552, .iaload, 1, []), (553, .aload_n 0, 0, []), (554, .iload 4, 0, []), (556, .bipush 6, 0, []), (558, .iadd, 0, []), (559, .iaload, 1, []), (560, .aload_n 3, 0, []), (561, .invokestatic 121, 3, [6, 165, 0, 57, 934, 932, 933, 0]), (564, .istore 5, 0, []), (566, .aload_n 2, 0, []), (567, .aload_n 0, 0, [])]
def xlw4 : List XI := [(568, .iload 4, 0, []), (570, .iconst 1, 0, []), (571, .iadd, 0, []), (572, .iaload, 1, []), (573, .aload_n 0, 0, []), (574, .iload 4, 0, []), (576, .iconst 2, 0, []), (577, .iadd, 0, []), (578, .iaload, 1, []), (579, .aload_n 0, 0, []), (580, .iload 4, 0, []), (582, .iconst 3, 0, []), (583, .iadd, 0, []), (584, .iaload, 1, []), (585, .aload_n 0, 0, []), (586, .iload 4, 0, []), (588, .iconst 4, 0, []), (589, .iadd, 0, []), (590, .iaload, 1, []), (591, .aload_n 0, 0, []), (592, .iload 4, 0, []), (594, .iconst 5, 0, []), (595, .iadd, 0, []), (596, .iaload, 1, []), (597, .aload_n 0, 0, []), (598, .iload 4, 0, []), (600, .bipush 6, 0, []), (602, .iadd, 0, []), (603, .iaload, 1, []), (604, .invokevirtual 124, 3, [1, 167, 8, 65, 1252, 1249, 1250, 1251]), (607, .istore 6, 0, []), (609, .aload_n 2, 0, []), (610, .invokevirtual 110, 3, [1, 62, 8, 65, 1216, 1213, 1214, 1215]), (613, .iload 5, 0, []), (615, .if_icmp .eq 5, 2, []), (620, .iload 5, 0, []), (622, .ifCond .ne 15, 2, []), (637, .goto 1678, 2, []), (640, .aload_n 1, 0, []), (641, .aload_n 0, 0, []), (642, .iload 4, 0, []), (644, .iconst 1, 0, []), (645, .iadd, 0, []), (646, .iaload, 1, []), (647, .aload_n 0, 0, []), (648, .iload 4, 0, []), (650, .iconst 2, 0, []), (651, .iadd, 0, []), (652, .iaload, 1, []), (653, .aload_n 0, 0, []), (654, .iload 4, 0, []), (656, .iconst 3, 0, []), (657, .iadd, 0, []), (658, .iaload, 1, []), (659, .ifCond .eq 7, 2, []), (662, .iconst 1, 0, []), (663, .goto 4, 2, []), (666, .iconst 0, 0, []), (667, .aload_n 3, 0, []), (668, .invokestatic 125, 3, [6, 162, 0, 57, 946, 944, 945, 0])]
def xlw5 : List XI := [(671, .istore 5, 0, []), (673, .aload_n 2, 0, []), (674, .aload_n 0, 0, []), (675, .iload 4, 0, []), (677, .iconst 1, 0, []), (678, .iadd, 0, []), (679, .iaload, 1, []), (680, .aload_n 0, 0, []), (681, .iload 4, 0, []), (683, .iconst 2, 0, []), (684, .iadd, 0, []), (685, .iaload, 1, []), (686, .aload_n 0, 0, []), (687, .iload 4, 0, []), (689, .iconst 3, 0, []), (690, .iadd, 0, []), (691, .iaload, 1, []), (692, .ifCond .eq 7, 2, []), (695, .iconst 1, 0, []), (696, .goto 4, 2, []), (699, .iconst 0, 0, []), (700, .invokevirtual 128, 3, [1, 164, 8, 65, 1256, 1253, 1254, 1255]), (703, .istore 6, 0, []), (705, .aload_n 2, 0, []), (706, .invokevirtual 110, 3, [1, 62, 8, 65, 1216, 1213, 1214, 1215]), (709, .iload 5, 0, []), (711, .if_icmp .eq 5, 2, []), (716, .iload 5, 0, []), (718, .ifCond .ne 22, 2, []), (740, .goto 1575, 2, []), (743, .aload_n 1, 0, []), (744, .invokevirtual 129, 3, [1, 10, 7, 58, 295, 292, 293, 294]), (747, .aload_n 2, 0, []), (748, .invokevirtual 132, 3, [1, 161, 8, 65, 1260, 1257, 1258, 1259]), (751, .if_icmp .eq 1564, 2, []), (756, .aload_n 1, 0, []), (757, .aload_n 0, 0, []), (758, .iload 4, 0, []), (760, .iconst 1, 0, []), (761, .iadd, 0, []), (762, .iaload, 1, []), (763, .aload_n 3, 0, []), (764, .invokestatic 133, 3, [6, 158, 0, 57, 953, 951, 952, 0]), (767, .istore 5, 0, []), (769, .aload_n 2, 0, []), (770, .aload_n 0, 0, []), (771, .iload 4, 0, []), (773, .iconst 1, 0, []), (774, .iadd, 0, []), (775, .iaload, 1, []), (776, .invokevirtual 136, 3, [1, 160, 8, 65, 1268, 1265, 1266, 1267]), (779, .istore 6, 0, []), (781, .aload_n 2, 0, []), (782, .invokevirtual 110, 3, [1, 62, 8, 65, 1216, 1213, 1214, 1215]), (785, .iload 5, 0, []), (787, .if_icmp .eq 5, 2, []), (792, .iload 5, 0, []), (794, .ifCond .ne 15, 2, []), (809, .goto 1506, 2, []), (812, .aload_n 1, 0, [])]
def xlw6 : List XI := [(813, .aload_n 0, 0, []), (814, .iload 4, 0, []), (816, .iconst 1, 0, []), (817, .iadd, 0, []), (818, .iaload, 1, []), (819, .aload_n 0, 0, []), (820, .iload 4, 0, []), (822, .iconst 2, 0, []), (823, .iadd, 0, []), (824, .iaload, 1, []), (825, .aload_n 3, 0, []), (826, .invokestatic 137, 3, [6, 155, 0, 57, 957, 955, 956, 0]), (829, .istore 5, 0, []), (831, .aload_n 2, 0, []), (832, .aload_n 0, 0, []), (833, .iload 4, 0, []), (835, .iconst 1, 0, []), (836, .iadd, 0, []), (837, .iaload, 1, []), (838, .aload_n 0, 0, []), (839, .iload 4, 0, []), (841, .iconst 2, 0, []), (842, .iadd, 0, []), (843, .iaload, 1, []), (844, .invokevirtual 140, 3, [1, 157, 8, 65, 1272, 1269, 1270, 1271]), (847, .istore 6, 0, []), (849, .aload_n 2, 0, []), (850, .invokevirtual 110, 3, [1, 62, 8, 65, 1216, 1213, 1214, 1215]), (853, .iload 5, 0, []), (855, .if_icmp .eq 5, 2, []), (860, .iload 5, 0, []), (862, .ifCond .ne 15, 2, []), (877, .goto 1438, 2, []), (880, .aload_n 1, 0, []), (881, .aload_n 0, 0, []), (882, .iload 4, 0, []), (884, .iconst 1, 0, []), (885, .iadd, 0, []), (886, .iaload, 1, []), (887, .aload_n 0, 0, []), (888, .iload 4, 0, []), (890, .iconst 2, 0, []), (891, .iadd, 0, []), (892, .iaload, 1, []), (893, .aload_n 0, 0, []), (894, .iload 4, 0, []), (896, .iconst 3, 0, []), (897, .iadd, 0, []), (898, .iaload, 1, []), (899, .aload_n 0, 0, []), (900, .iload 4, 0, []), (902, .iconst 4, 0, []), (903, .iadd, 0, []), (904, .iaload, 1, []), (905, .aload_n 0, 0, []), (906, .iload 4, 0, []), (908, .iconst 5, 0, []), (909, .iadd, 0, []), (910, .iaload, 1, []), (911, .aload_n 3, 0, [])]
def xlw7 : List XI := [(912, .invokestatic 141, 3, [6, 152, 0, 57, 961, 959, 960, 0]), (915, .istore 5, 0, []), (917, .aload_n 2, 0, []), (918, .aload_n 0, 0, []), (919, .iload 4, 0, []), (921, .iconst 1, 0, []), (922, .iadd, 0, []), (923, .iaload, 1, []), (924, .aload_n 0, 0, []), (925, .iload 4, 0, []), (927, .iconst 2, 0, []), (928, .iadd, 0, []), (929, .iaload, 1, []), (930, .aload_n 0, 0, []), (931, .iload 4, 0, []), (933, .iconst 3, 0, []), (934, .iadd, 0, []), (935, .iaload, 1, []), (936, .aload_n 0, 0, []), (937, .iload 4, 0, []), (939, .iconst 4, 0, []), (940, .iadd, 0, []), (941, .iaload, 1, []), (942, .aload_n 0, 0, []), (943, .iload 4, 0, []), (945, .iconst 5, 0, []), (946, .iadd, 0, []), (947, .iaload, 1, []), (948, .invokevirtual 143, 3, [1, 154, 8, 65, 1280, 1277, 1278, 1279]), (951, .istore 6, 0, []), (953, .aload_n 2, 0, []), (954, .invokevirtual 110, 3, [1, 62, 8, 65, 1216, 1213, 1214, 1215]), (957, .iload 5, 0, []), (959, .if_icmp .eq 5, 2, []), (964, .iload 5, 0, []), (966, .ifCond .ne 15, 2, []), (981, .goto 1334, 2, []), (984, .aload_n 1, 0, []), (985, .aload_n 0, 0, []), (986, .iload 4, 0, []), (988, .iconst 1, 0, []), (989, .iadd, 0, []), (990, .iaload, 1, []), (991, .aload_n 0, 0, []), (992, .iload 4, 0, []), (994, .iconst 2, 0, []), (995, .iadd, 0, []), (996, .iaload, 1, []), (997, .aload_n 0, 0, []), (998, .iload 4, 0, []), (1000, .iconst 3, 0, []), (1001, .iadd, 0, []), (1002, .iaload, 1, []), (1003, .aload_n 0, 0, []), (1004, .iload 4, 0, []), (1006, .iconst 4, 0, []), (1007, .iadd, 0, []), (1008, .iaload, 1, []), (1009, .aload_n 0, 0, []), (1010, .iload 4, 0, [])]
def xlw8 : List XI := [(1012, .iconst 5, 0, []), (1013, .iadd, 0, []), (1014, .iaload, 1, []), (1015, .aload_n 0, 0, []), (1016, .iload 4, 0, []), (1018, .bipush 6, 0, []), (1020, .iadd, 0, []), (1021, .iaload, 1, []), (1022, .aload_n 3, 0, []), (1023, .invokestatic 144, 3, [6, 149, 0, 57, 973, 971, 972, 0]), (1026, .istore 5, 0, []), (1028, .aload_n 2, 0, []), (1029, .aload_n 0, 0, []), (1030, .iload 4, 0, []), (1032, .iconst 1, 0, []), (1033, .iadd, 0, []), (1034, .iaload, 1, []), (1035, .aload_n 0, 0, []), (1036, .iload 4, 0, []), (1038, .iconst 2, 0, []), (1039, .iadd, 0, []), (1040, .iaload, 1, []), (1041, .aload_n 0, 0, []), (1042, .iload 4, 0, []), (1044, .iconst 3, 0, []), (1045, .iadd, 0, []), (1046, .iaload, 1, []), (1047, .aload_n 0, 0, []), (1048, .iload 4, 0, []), (1050, .iconst 4, 0, []), (1051, .iadd, 0, []), (1052, .iaload, 1, []), (1053, .aload_n 0, 0, []), (1054, .iload 4, 0, []), (1056, .iconst 5, 0, []), (1057, .iadd, 0, []), (1058, .iaload, 1, []), (1059, .aload_n 0, 0, []), (1060, .iload 4, 0, []), (1062, .bipush 6, 0, []), (1064, .iadd, 0, []), (1065, .iaload, 1, []), (1066, .invokevirtual 146, 3, [1, 151, 8, 65, 1287, 1284, 1285, 1286]), (1069, .istore 6, 0, []), (1071, .aload_n 2, 0, []), (1072, .invokevirtual 110, 3, [1, 62, 8, 65, 1216, 1213, 1214, 1215]), (1075, .iload 5, 0, []), (1077, .if_icmp .eq 5, 2, []), (1082, .iload 5, 0, []), (1084, .ifCond .ne 15, 2, []), (1099, .goto 1216, 2, []), (1102, .aload_n 1, 0, []), (1103, .aload_n 0, 0, []), (1104, .iload 4, 0, []), (1106, .iconst 1, 0, []), (1107, .iadd, 0, []), (1108, .iaload, 1, []), (1109, .aload_n 3, 0, []), (1110, .invokestatic 147, 3, [6, 146, 0, 57, 982, 980, 981, 0]), (1113, .istore 5, 0, [])]
def xlw9 : List XI := [(1115, .aload_n 2, 0, []), (1116, .aload_n 0, 0, []), (1117, .iload 4, 0, []), (1119, .iconst 1, 0, []), (1120, .iadd, 0, []), (1121, .iaload, 1, []), (1122, .invokevirtual 149, 3, [1, 148, 8, 65, 1291, 1288, 1289, 1290]), (1125, .istore 6, 0, []), (1127, .aload_n 2, 0, []), (1128, .invokevirtual 110, 3, [1, 62, 8, 65, 1216, 1213, 1214, 1215]), (1131, .iload 5, 0, []), (1133, .if_icmp .eq 5, 2, []), (1138, .iload 5, 0, []), (1140, .ifCond .ne 15, 2, []), (1155, .goto 1160, 2, []), (1158, .aload_n 1, 0, []), (1159, .invokevirtual 150, 3, [1, 12, 7, 58, 299, 296, 297, 298]), (1162, .aload_n 2, 0, []), (1163, .invokevirtual 153, 3, [1, 145, 8, 65, 1295, 1292, 1293, 1294]), (1166, .if_icmp .eq 1149, 2, []), (1171, .aload_n 1, 0, []), (1172, .aload_n 0, 0, []), (1173, .iload 4, 0, []), (1175, .iconst 1, 0, []), (1176, .iadd, 0, []), (1177, .iaload, 1, []), (1178, .aload_n 0, 0, []), (1179, .iload 4, 0, []), (1181, .iconst 2, 0, []), (1182, .iadd, 0, []), (1183, .iaload, 1, []), (1184, .aload_n 3, 0, []), (1185, .invokestatic 154, 3, [6, 138, 0, 57, 994, 992, 993, 0]), (1188, .istore 5, 0, []), (1190, .aload_n 2, 0, []), (1191, .aload_n 0, 0, []), (1192, .iload 4, 0, []), (1194, .iconst 1, 0, []), (1195, .iadd, 0, []), (1196, .iaload, 1, []), (1197, .aload_n 0, 0, []), (1198, .iload 4, 0, []), (1200, .iconst 2, 0, []), (1201, .iadd, 0, []), (1202, .iaload, 1, []), (1203, .invokevirtual 156, 3, [1, 142, 8, 65, 1299, 1296, 1297, 1298]), (1206, .istore 6, 0, []), (1208, .aload_n 2, 0, []), (1209, .invokevirtual 110, 3, [1, 62, 8, 65, 1216, 1213, 1214, 1215]), (1212, .iload 5, 0, []), (1214, .if_icmp .eq 5, 2, []), (1219, .iload 5, 0, []), (1221, .ifCond .ne 15, 2, []), (1224, .aload_n 3, 0, []), (1225, .iconst 0, 0, []), (1226, .laload, 1, []), (1227, .iload 6, 0, []), (1229, .i2l, 0, []), (1230, .lcmp, 0, []), (1231, .ifCond .eq 5, 2, [])]
def xlw10 : List XI := [(1236, .goto 1079, 2, []), (1239, .aload_n 1, 0, []), (1240, .invokevirtual 157, 3, [1, 13, 7, 58, 303, 300, 301, 302]), (1243, .aload_n 2, 0, []), (1244, .invokevirtual 160, 3, [1, 137, 8, 65, 1353, 1350, 1351, 1352]), (1247, .if_icmp .eq 1068, 2, []), (1252, .aload_n 1, 0, []), (1253, .aload_n 0, 0, []), (1254, .iload 4, 0, []), (1256, .iconst 1, 0, []), (1257, .iadd, 0, []), (1258, .iaload, 1, []), (1259, .aload_n 3, 0, []), (1260, .invokestatic 161, 3, [6, 134, 0, 57, 1016, 1014, 1015, 0]), (1263, .istore 5, 0, []), (1265, .aload_n 2, 0, []), (1266, .aload_n 0, 0, []), (1267, .iload 4, 0, []), (1269, .iconst 1, 0, []), (1270, .iadd, 0, []), (1271, .iaload, 1, []), (1272, .invokevirtual 163, 3, [1, 136, 8, 65, 1357, 1354, 1355, 1356]), (1275, .istore 6, 0, []), (1277, .aload_n 2, 0, []), (1278, .invokevirtual 110, 3, [1, 62, 8, 65, 1216, 1213, 1214, 1215]), (1281, .iload 5, 0, []), (1283, .if_icmp .eq 5, 2, []), (1288, .iload 5, 0, []), (1290, .ifCond .ne 15, 2, []), (1305, .goto 1010, 2, []), (1308, .aload_n 1, 0, []), (1309, .invokevirtual 164, 3, [1, 14, 7, 58, 307, 304, 305, 306]), (1312, .aload_n 2, 0, []), (1313, .invokevirtual 167, 3, [1, 133, 8, 65, 1361, 1358, 1359, 1360]), (1316, .if_icmp .eq 999, 2, []), (1321, .aload_n 1, 0, []), (1322, .aload_n 0, 0, []), (1323, .iload 4, 0, []), (1325, .iconst 1, 0, []), (1326, .iadd, 0, []), (1327, .iaload, 1, []), (1328, .aload_n 3, 0, []), (1329, .invokestatic 168, 3, [6, 130, 0, 57, 1020, 1018, 1019, 0]), (1332, .istore 5, 0, []), (1334, .aload_n 2, 0, []), (1335, .aload_n 0, 0, []), (1336, .iload 4, 0, []), (1338, .iconst 1, 0, []), (1339, .iadd, 0, []), (1340, .iaload, 1, []), (1341, .invokevirtual 170, 3, [1, 132, 8, 65, 1365, 1362, 1363, 1364]), (1344, .istore 6, 0, []), (1346, .aload_n 2, 0, []), (1347, .invokevirtual 110, 3, [1, 62, 8, 65, 1216, 1213, 1214, 1215]), (1350, .iload 5, 0, []), (1352, .if_icmp .eq 5, 2, []), (1357, .iload 5, 0, []), (1359, .ifCond .ne 15, 2, []), (1374, .goto 941, 2, []), (1377, .aload_n 1, 0, [])]
def xlw11 : List XI := [(1378, .invokevirtual 171, 3, [1, 16, 7, 58, 315, 312, 313, 314]), (1381, .aload_n 2, 0, []), (1382, .invokevirtual 175, 3, [1, 129, 8, 65, 1369, 1366, 1367, 1368]), (1385, .if_icmp .eq 930, 2, []), (1390, .aload_n 1, 0, []), (1391, .invokevirtual 176, 3, [1, 20, 7, 58, 355, 352, 353, 354]), (1394, .aload_n 2, 0, []), (1395, .invokevirtual 179, 3, [1, 128, 8, 65, 1381, 1378, 1379, 1380]), (1398, .if_icmp .eq 917, 2, []), (1403, .aload_n 1, 0, []), (1404, .invokevirtual 180, 3, [1, 114, 7, 58, 378, 375, 376, 377]), (1407, .aload_n 2, 0, []), (1408, .invokevirtual 183, 3, [1, 124, 8, 65, 1373, 1370, 1371, 1372]), (1411, .if_icmp .eq 904, 2, []), (1416, .aload_n 1, 0, []), (1417, .aload_n 0, 0, []), (1418, .iload 4, 0, []), (1420, .iconst 1, 0, []), (1421, .iadd, 0, []), (1422, .iaload, 1, []), (1423, .aload_n 3, 0, []), (1424, .invokestatic 184, 3, [6, 111, 0, 57, 1024, 1022, 1023, 0]), (1427, .istore 5, 0, []), (1429, .aload_n 2, 0, []), (1430, .aload_n 0, 0, []), (1431, .iload 4, 0, []), (1433, .iconst 1, 0, []), (1434, .iadd, 0, []), (1435, .iaload, 1, []), (1436, .invokevirtual 186, 3, [1, 113, 8, 65, 1389, 1386, 1387, 1388]), (1439, .istore 6, 0, []), (1441, .aload_n 2, 0, []), (1442, .invokevirtual 110, 3, [1, 62, 8, 65, 1216, 1213, 1214, 1215]), (1445, .iload 5, 0, []), (1447, .if_icmp .eq 5, 2, []), (1452, .iload 5, 0, []), (1454, .ifCond .ne 15, 2, []), (1469, .goto 846, 2, []), (1472, .aload_n 1, 0, []), (1473, .aload_n 0, 0, []), (1474, .iload 4, 0, []), (1476, .iconst 1, 0, []), (1477, .iadd, 0, []), (1478, .iaload, 1, []), (1479, .aload_n 0, 0, []), (1480, .iload 4, 0, []), (1482, .iconst 2, 0, []), (1483, .iadd, 0, []), (1484, .iaload, 1, []), (1485, .aload_n 3, 0, []), (1486, .invokestatic 187, 3, [6, 108, 0, 57, 1028, 1026, 1027, 0]), (1489, .istore 5, 0, []), (1491, .aload_n 2, 0, []), (1492, .aload_n 0, 0, []), (1493, .iload 4, 0, []), (1495, .iconst 1, 0, []), (1496, .iadd, 0, []), (1497, .iaload, 1, []), (1498, .aload_n 0, 0, []), (1499, .iload 4, 0, [])]
def xlw12 : List XI := [(1501, .iconst 2, 0, []), (1502, .iadd, 0, []), (1503, .iaload, 1, []), (1504, .invokevirtual 189, 3, [1, 110, 8, 65, 1393, 1390, 1391, 1392]), (1507, .istore 6, 0, []), (1509, .aload_n 2, 0, []), (1510, .invokevirtual 110, 3, [1, 62, 8, 65, 1216, 1213, 1214, 1215]), (1513, .iload 5, 0, []), (1515, .if_icmp .eq 5, 2, []), (1520, .iload 5, 0, []), (1522, .ifCond .ne 15, 2, []), (1537, .goto 778, 2, []), (1540, .aload_n 1, 0, []), (1541, .aload_n 0, 0, []), (1542, .iload 4, 0, []), (1544, .iconst 1, 0, []), (1545, .iadd, 0, []), (1546, .iaload, 1, []), (1547, .aload_n 3, 0, []), (1548, .invokestatic 190, 3, [6, 105, 0, 57, 1036, 1034, 1035, 0]), (1551, .istore 5, 0, []), (1553, .aload_n 2, 0, []), (1554, .aload_n 0, 0, []), (1555, .iload 4, 0, []), (1557, .iconst 1, 0, []), (1558, .iadd, 0, []), (1559, .iaload, 1, []), (1560, .invokevirtual 192, 3, [1, 107, 8, 65, 1401, 1398, 1399, 1400]), (1563, .istore 6, 0, []), (1565, .aload_n 2, 0, []), (1566, .invokevirtual 110, 3, [1, 62, 8, 65, 1216, 1213, 1214, 1215]), (1569, .iload 5, 0, []), (1571, .if_icmp .eq 5, 2, []), (1576, .iload 5, 0, []), (1578, .ifCond .ne 15, 2, []), (1593, .goto 722, 2, []), (1596, .aload_n 1, 0, []), (1597, .aload_n 0, 0, []), (1598, .iload 4, 0, []), (1600, .iconst 1, 0, []), (1601, .iadd, 0, []), (1602, .iaload, 1, []), (1603, .aload_n 3, 0, []), (1604, .invokestatic 193, 3, [6, 102, 0, 57, 1040, 1038, 1039, 0]), (1607, .istore 5, 0, []), (1609, .aload_n 2, 0, []), (1610, .aload_n 0, 0, []), (1611, .iload 4, 0, []), (1613, .iconst 1, 0, []), (1614, .iadd, 0, []), (1615, .iaload, 1, []), (1616, .invokevirtual 195, 3, [1, 104, 8, 65, 1409, 1406, 1407, 1408]), (1619, .istore 6, 0, []), (1621, .aload_n 2, 0, []), (1622, .invokevirtual 110, 3, [1, 62, 8, 65, 1216, 1213, 1214, 1215]), (1625, .iload 5, 0, []), (1627, .if_icmp .eq 5, 2, []), (1632, .iload 5, 0, []), (1634, .ifCond .ne 15, 2, []), (1649, .goto 666, 2, [])]
def xlw13 : List XI := [(1652, .aload_n 1, 0, []), (1653, .aload_n 0, 0, []), (1654, .iload 4, 0, []), (1656, .iconst 1, 0, []), (1657, .iadd, 0, []), (1658, .iaload, 1, []), (1659, .aload_n 3, 0, []), (1660, .invokestatic 196, 3, [6, 99, 0, 57, 1044, 1042, 1043, 0]), (1663, .istore 5, 0, []), (1665, .aload_n 2, 0, []), (1666, .aload_n 0, 0, []), (1667, .iload 4, 0, []), (1669, .iconst 1, 0, []), (1670, .iadd, 0, []), (1671, .iaload, 1, []), (1672, .invokevirtual 198, 3, [1, 101, 8, 65, 1349, 1346, 1347, 1348]), (1675, .istore 6, 0, []), (1677, .aload_n 2, 0, []), (1678, .invokevirtual 110, 3, [1, 62, 8, 65, 1216, 1213, 1214, 1215]), (1681, .iload 5, 0, []), (1683, .if_icmp .eq 5, 2, []), (1688, .iload 5, 0, []), (1690, .ifCond .ne 15, 2, []), (1705, .goto 610, 2, []), (1708, .aload_n 1, 0, []), (1709, .aload_n 0, 0, []), (1710, .iload 4, 0, []), (1712, .iconst 1, 0, []), (1713, .iadd, 0, []), (1714, .iaload, 1, []), (1715, .aload_n 3, 0, []), (1716, .invokestatic 199, 3, [6, 96, 0, 57, 1051, 1049, 1050, 0]), (1719, .istore 5, 0, []), (1721, .aload_n 2, 0, []), (1722, .aload_n 0, 0, []), (1723, .iload 4, 0, []), (1725, .iconst 1, 0, []), (1726, .iadd, 0, []), (1727, .iaload, 1, []), (1728, .invokevirtual 201, 3, [1, 98, 8, 65, 1417, 1414, 1415, 1416]), (1731, .istore 6, 0, []), (1733, .aload_n 2, 0, []), (1734, .invokevirtual 110, 3, [1, 62, 8, 65, 1216, 1213, 1214, 1215]), (1737, .iload 5, 0, []), (1739, .if_icmp .eq 5, 2, []), (1744, .iload 5, 0, []), (1746, .ifCond .ne 15, 2, []), (1749, .aload_n 3, 0, []), (1750, .iconst 0, 0, []), (1751, .laload, 1, []), (1752, .iload 6, 0, []), (1754, .i2l, 0, []), (1755, .lcmp, 0, []), (1756, .ifCond .eq 5, 2, []), (1761, .goto 554, 2, []), (1764, .aload_n 1, 0, []), (1765, .aload_n 0, 0, []), (1766, .iload 4, 0, []), (1768, .iconst 1, 0, []), (1769, .iadd, 0, [])]
def xlw14 : List XI := [(1770, .iaload, 1, []), (1771, .aload_n 3, 0, []), (1772, .invokestatic 202, 3, [6, 90, 0, 57, 1062, 1060, 1061, 0]), (1775, .istore 5, 0, []), (1777, .aload_n 2, 0, []), (1778, .aload_n 0, 0, []), (1779, .iload 4, 0, []), (1781, .iconst 1, 0, []), (1782, .iadd, 0, []), (1783, .iaload, 1, []), (1784, .invokevirtual 204, 3, [1, 94, 8, 65, 1421, 1418, 1419, 1420]), (1787, .istore 6, 0, []), (1789, .aload_n 2, 0, []), (1790, .invokevirtual 110, 3, [1, 62, 8, 65, 1216, 1213, 1214, 1215]), (1793, .iload 5, 0, []), (1795, .if_icmp .eq 5, 2, []), (1800, .iload 5, 0, []), (1802, .ifCond .ne 15, 2, []), (1805, .aload_n 3, 0, []), (1806, .iconst 0, 0, []), (1807, .laload, 1, []), (1808, .iload 6, 0, []), (1810, .i2l, 0, []), (1811, .lcmp, 0, []), (1812, .ifCond .eq 5, 2, []), (1817, .goto 498, 2, []), (1820, .aload_n 1, 0, []), (1821, .invokevirtual 205, 3, [1, 83, 7, 58, 448, 445, 446, 447]), (1824, .aload_n 2, 0, []), (1825, .invokevirtual 208, 3, [1, 88, 8, 65, 1437, 1434, 1435, 1436]), (1828, .if_icmp .eq 487, 2, []), (1833, .aload_n 1, 0, []), (1834, .invokevirtual 209, 3, [1, 25, 7, 58, 486, 483, 484, 485]), (1837, .aload_n 2, 0, []), (1838, .invokevirtual 212, 3, [1, 82, 8, 65, 1448, 1445, 1446, 1447]), (1841, .if_icmp .eq 474, 2, []), (1846, .aload_n 1, 0, []), (1847, .aload_n 0, 0, []), (1848, .iload 4, 0, []), (1850, .iconst 1, 0, []), (1851, .iadd, 0, []), (1852, .iaload, 1, []), (1853, .aload_n 3, 0, []), (1854, .invokestatic 213, 3, [6, 79, 0, 57, 1070, 1068, 1069, 0]), (1857, .istore 5, 0, []), (1859, .aload_n 2, 0, []), (1860, .aload_n 0, 0, []), (1861, .iload 4, 0, []), (1863, .iconst 1, 0, []), (1864, .iadd, 0, []), (1865, .iaload, 1, []), (1866, .invokevirtual 215, 3, [1, 81, 8, 65, 1456, 1453, 1454, 1455]), (1869, .istore 6, 0, []), (1871, .aload_n 2, 0, []), (1872, .invokevirtual 110, 3, [1, 62, 8, 65, 1216, 1213, 1214, 1215]), (1875, .iload 5, 0, []), (1877, .if_icmp .eq 5, 2, []), (1882, .iload 5, 0, []), (1884, .ifCond .ne 15, 2, []), (1899, .goto 416, 2, [])]
def xlw15 : List XI := [(1902, .aload_n 1, 0, []), (1903, .aload_n 0, 0, []), (1904, .iload 4, 0, []), (1906, .iconst 1, 0, []), (1907, .iadd, 0, []), (1908, .iaload, 1, []), (1909, .aload_n 3, 0, []), (1910, .invokestatic 216, 3, [6, 75, 0, 57, 1074, 1072, 1073, 0]), (1913, .istore 5, 0, []), (1915, .aload_n 2, 0, []), (1916, .aload_n 0, 0, []), (1917, .iload 4, 0, []), (1919, .iconst 1, 0, []), (1920, .iadd, 0, []), (1921, .iaload, 1, []), (1922, .invokevirtual 218, 3, [1, 78, 8, 65, 1460, 1457, 1458, 1459]), (1925, .istore 6, 0, []), (1927, .aload_n 2, 0, []), (1928, .invokevirtual 110, 3, [1, 62, 8, 65, 1216, 1213, 1214, 1215]), (1931, .iload 5, 0, []), (1933, .if_icmp .eq 5, 2, []), (1938, .iload 5, 0, []), (1940, .ifCond .ne 15, 2, []), (1955, .goto 360, 2, []), (1958, .aload_n 1, 0, []), (1959, .aload_n 0, 0, []), (1960, .iload 4, 0, []), (1962, .iconst 1, 0, []), (1963, .iadd, 0, []), (1964, .iaload, 1, []), (1965, .aload_n 3, 0, []), (1966, .invokestatic 219, 3, [6, 72, 0, 57, 1078, 1076, 1077, 0]), (1969, .istore 5, 0, []), (1971, .aload_n 2, 0, []), (1972, .aload_n 0, 0, []), (1973, .iload 4, 0, []), (1975, .iconst 1, 0, []), (1976, .iadd, 0, []), (1977, .iaload, 1, []), (1978, .invokevirtual 221, 3, [1, 74, 8, 65, 1464, 1461, 1462, 1463]), (1981, .istore 6, 0, []), (1983, .aload_n 2, 0, []), (1984, .invokevirtual 110, 3, [1, 62, 8, 65, 1216, 1213, 1214, 1215]), (1987, .iload 5, 0, []), (1989, .if_icmp .eq 5, 2, []), (1994, .iload 5, 0, []), (1996, .ifCond .ne 15, 2, []), (2011, .goto 304, 2, []), (2014, .aload_n 1, 0, []), (2015, .aload_n 3, 0, []), (2016, .invokestatic 222, 3, [6, 68, 0, 57, 1098, 1096, 1097, 0]), (2019, .istore 5, 0, []), (2021, .aload_n 2, 0, []), (2022, .invokevirtual 224, 3, [1, 71, 8, 65, 1480, 1477, 1478, 1479]), (2025, .istore 6, 0, []), (2027, .aload_n 2, 0, []), (2028, .invokevirtual 110, 3, [1, 62, 8, 65, 1216, 1213, 1214, 1215]), (2031, .iload 5, 0, []), (2033, .if_icmp .eq 5, 2, []), (2038, .iload 5, 0, [])]
def xlw16 : List XI := [(2040, .ifCond .ne 15, 2, []), (2055, .goto 260, 2, []), (2058, .aload_n 1, 0, []), (2059, .aload_n 0, 0, []), (2060, .iload 4, 0, []), (2062, .iconst 1, 0, []), (2063, .iadd, 0, []), (2064, .iaload, 1, []), (2065, .aload_n 3, 0, []), (2066, .invokestatic 225, 3, [6, 65, 0, 57, 1109, 1107, 1108, 0]), (2069, .istore 5, 0, []), (2071, .aload_n 2, 0, []), (2072, .aload_n 0, 0, []), (2073, .iload 4, 0, []), (2075, .iconst 1, 0, []), (2076, .iadd, 0, []), (2077, .iaload, 1, []), (2078, .invokevirtual 227, 3, [1, 67, 8, 65, 1484, 1481, 1482, 1483]), (2081, .istore 6, 0, []), (2083, .aload_n 2, 0, []), (2084, .invokevirtual 110, 3, [1, 62, 8, 65, 1216, 1213, 1214, 1215]), (2087, .iload 5, 0, []), (2089, .if_icmp .eq 5, 2, []), (2094, .iload 5, 0, []), (2096, .ifCond .ne 15, 2, []), (2111, .goto 204, 2, []), (2114, .aload_n 1, 0, []), (2115, .invokevirtual 228, 3, [1, 26, 7, 58, 490, 487, 488, 489]), (2118, .aload_n 2, 0, []), (2119, .invokevirtual 231, 3, [1, 64, 8, 65, 1488, 1485, 1486, 1487]), (2122, .if_icmp .eq 193, 2, []), (2127, .aload_n 1, 0, []), (2128, .invokevirtual 232, 3, [1, 29, 7, 58, 501, 498, 499, 500]), (2131, .aload_n 2, 0, []), (2132, .invokevirtual 235, 3, [1, 63, 8, 65, 1492, 1489, 1490, 1491]), (2135, .if_icmp .eq 180, 2, []), (2140, .aload_n 1, 0, []), (2141, .aload_n 0, 0, []), (2142, .iload 4, 0, []), (2144, .iconst 1, 0, []), (2145, .iadd, 0, []), (2146, .iaload, 1, []), (2147, .aload_n 0, 0, []), (2148, .iload 4, 0, []), (2150, .iconst 2, 0, []), (2151, .iadd, 0, []), (2152, .iaload, 1, []), (2153, .aload_n 3, 0, []), (2154, .invokestatic 236, 3, [6, 54, 0, 57, 1113, 1111, 1112, 0]), (2157, .istore 5, 0, []), (2159, .aload_n 2, 0, []), (2160, .aload_n 0, 0, []), (2161, .iload 4, 0, []), (2163, .iconst 1, 0, []), (2164, .iadd, 0, []), (2165, .iaload, 1, []), (2166, .aload_n 0, 0, []), (2167, .iload 4, 0, []), (2169, .iconst 2, 0, []), (2170, .iadd, 0, [])]
def xlw17 : List XI := [(2171, .iaload, 1, []), (2172, .invokevirtual 238, 3, [1, 58, 8, 65, 1496, 1493, 1494, 1495]), (2175, .istore 6, 0, []), (2177, .aload_n 2, 0, []), (2178, .invokevirtual 110, 3, [1, 62, 8, 65, 1216, 1213, 1214, 1215]), (2181, .iload 5, 0, []), (2183, .if_icmp .eq 5, 2, []), (2188, .iload 5, 0, []), (2190, .ifCond .ne 15, 2, []), (2205, .goto 110, 2, []), (2208, .aload_n 1, 0, []), (2209, .invokevirtual 239, 3, [1, 30, 7, 58, 505, 502, 503, 504]), (2212, .aload_n 2, 0, []), (2213, .invokevirtual 242, 3, [1, 53, 8, 65, 1500, 1497, 1498, 1499]), (2216, .if_icmp .eq 99, 2, []), (2221, .aload_n 1, 0, []), (2222, .invokevirtual 243, 3, [1, 31, 7, 58, 509, 506, 507, 508]), (2225, .aload_n 2, 0, []), (2226, .invokevirtual 246, 3, [1, 52, 8, 65, 1504, 1501, 1502, 1503]), (2229, .if_icmp .eq 86, 2, []), (2234, .aload_n 1, 0, []), (2235, .invokevirtual 247, 3, [1, 33, 7, 58, 533, 530, 531, 532]), (2238, .aload_n 2, 0, []), (2239, .invokevirtual 250, 3, [1, 50, 8, 65, 1512, 1509, 1510, 1511]), (2242, .if_icmp .eq 73, 2, []), (2247, .aload_n 1, 0, []), (2248, .invokevirtual 251, 3, [1, 34, 7, 58, 541, 538, 539, 540]), (2251, .aload_n 2, 0, []), (2252, .invokevirtual 254, 3, [1, 49, 8, 65, 1521, 1518, 1519, 1520]), (2255, .if_icmp .eq 60, 2, []), (2260, .aload_n 1, 0, []), (2261, .invokevirtual 255, 3, [1, 47, 7, 58, 549, 546, 547, 548]), (2264, .dstore 5, 0, []), (2266, .aload_n 2, 0, []), (2267, .invokevirtual 259, 3, [1, 48, 8, 65, 1529, 1526, 1527, 1528]), (2270, .dstore 7, 0, []), (2272, .dload 5, 0, []), (2274, .dload 7, 0, []), (2276, .dcmp .l, 0, []), (2277, .ifCond .eq 21, 2, []), (2298, .goto 17, 2, []), (2301, .aload_n 1, 0, []), (2302, .invokevirtual 260, 3, [1, 9, 7, 58, 557, 554, 555, 556]), (2305, .aload_n 2, 0, []), (2306, .invokevirtual 264, 3, [1, 36, 8, 65, 1533, 1530, 1531, 1532]), (2309, .lcmp, 0, []), (2310, .ifCond .eq 5, 2, []), (2315, .iinc 4 9, 0, []), (2318, .goto (-2295), 2, []), (2321, .iconst 1, 0, []), (2322, .ireturn, 4, [])]
def xlwc : List XI := xlw0 ++ (xlw1 ++ (xlw2 ++ (xlw3 ++ (xlw4 ++ (xlw5 ++ (xlw6 ++ (xlw7 ++ (xlw8 ++ (xlw9 ++ (xlw10 ++ (xlw11 ++ (xlw12 ++ (xlw13 ++ (xlw14 ++ (xlw15 ++ (xlw16 ++ (xlw17)))))))))))))))))
def xLaw : XM := (⟨"PackWrightLaw", "law", "([I)Z"⟩, code, 9, (some .boolean), room_1, [], xlwc, 1)
end XY
end
section
section XU
set_option maxRecDepth 100000 in
theorem xm0_ok : xmokB xMs xcls xclp xm0 = true := by decide +kernel
set_option maxRecDepth 100000 in
theorem xm1_ok : xmokB xMs xcls xclp xm1 = true := by decide +kernel
set_option maxRecDepth 100000 in
theorem xm2_ok : xmokB xMs xcls xclp xm2 = true := by decide +kernel
set_option maxRecDepth 100000 in
theorem xm3_ok : xmokB xMs xcls xclp xm3 = true := by decide +kernel
set_option maxRecDepth 100000 in
theorem xm4_ok : xmokB xMs xcls xclp xm4 = true := by decide +kernel
set_option maxRecDepth 100000 in
theorem xm5_ok : xmokB xMs xcls xclp xm5 = true := by decide +kernel
set_option maxRecDepth 100000 in
theorem xm6_ok : xmokB xMs xcls xclp xm6 = true := by decide +kernel
set_option maxRecDepth 100000 in
theorem xm7_ok : xmokB xMs xcls xclp xm7 = true := by decide +kernel
set_option maxRecDepth 100000 in
theorem xm8_ok : xmokB xMs xcls xclp xm8 = true := by decide +kernel
set_option maxRecDepth 100000 in
theorem xm9_ok : xmokB xMs xcls xclp xm9 = true := by decide +kernel
set_option maxRecDepth 100000 in
theorem xm10_ok : xmokB xMs xcls xclp xm10 = true := by decide +kernel
set_option maxRecDepth 100000 in
theorem xm11_ok : xmokB xMs xcls xclp xm11 = true := by decide +kernel
set_option maxRecDepth 100000 in
theorem xm12_ok : xmokB xMs xcls xclp xm12 = true := by decide +kernel
set_option maxRecDepth 100000 in
theorem xm13_ok : xmokB xMs xcls xclp xm13 = true := by decide +kernel
set_option maxRecDepth 100000 in
theorem xm14_ok : xmokB xMs xcls xclp xm14 = true := by decide +kernel
set_option maxRecDepth 100000 in
theorem xm15_ok : xmokB xMs xcls xclp xm15 = true := by decide +kernel
set_option maxRecDepth 100000 in
theorem xm16_ok : xmokB xMs xcls xclp xm16 = true := by decide +kernel
set_option maxRecDepth 100000 in
theorem xm17_ok : xmokB xMs xcls xclp xm17 = true := by decide +kernel
set_option maxRecDepth 100000 in
theorem xm18_ok : xmokB xMs xcls xclp xm18 = true := by decide +kernel
set_option maxRecDepth 100000 in
theorem xm19_ok : xmokB xMs xcls xclp xm19 = true := by decide +kernel
set_option maxRecDepth 100000 in
theorem xm20_ok : xmokB xMs xcls xclp xm20 = true := by decide +kernel
set_option maxRecDepth 100000 in
theorem xm21_ok : xmokB xMs xcls xclp xm21 = true := by decide +kernel
set_option maxRecDepth 100000 in
theorem xm22_ok : xmokB xMs xcls xclp xm22 = true := by decide +kernel
set_option maxRecDepth 100000 in
theorem xm23_ok : xmokB xMs xcls xclp xm23 = true := by decide +kernel
set_option maxRecDepth 100000 in
theorem xm24_ok : xmokB xMs xcls xclp xm24 = true := by decide +kernel
set_option maxRecDepth 100000 in
theorem xm25_ok : xmokB xMs xcls xclp xm25 = true := by decide +kernel
set_option maxRecDepth 100000 in
theorem xm26_ok : xmokB xMs xcls xclp xm26 = true := by decide +kernel
set_option maxRecDepth 100000 in
theorem xm27_ok : xmokB xMs xcls xclp xm27 = true := by decide +kernel
set_option maxRecDepth 100000 in
theorem xm28_ok : xmokB xMs xcls xclp xm28 = true := by decide +kernel
set_option maxRecDepth 100000 in
theorem xm29_ok : xmokB xMs xcls xclp xm29 = true := by decide +kernel
set_option maxRecDepth 100000 in
theorem xm30_ok : xmokB xMs xcls xclp xm30 = true := by decide +kernel
set_option maxRecDepth 100000 in
theorem xm31_ok : xmokB xMs xcls xclp xm31 = true := by decide +kernel
set_option maxRecDepth 100000 in
theorem xm32_ok : xmokB xMs xcls xclp xm32 = true := by decide +kernel
set_option maxRecDepth 100000 in
theorem xm33_ok : xmokB xMs xcls xclp xm33 = true := by decide +kernel
set_option maxRecDepth 100000 in
theorem xm34_ok : xmokB xMs xcls xclp xm34 = true := by decide +kernel
set_option maxRecDepth 100000 in
theorem xm35_ok : xmokB xMs xcls xclp xm35 = true := by decide +kernel
set_option maxRecDepth 100000 in
theorem xm36_ok : xmokB xMs xcls xclp xm36 = true := by decide +kernel
set_option maxRecDepth 100000 in
theorem xm37_ok : xmokB xMs xcls xclp xm37 = true := by decide +kernel
set_option maxRecDepth 100000 in
theorem xm38_ok : xmokB xMs xcls xclp xm38 = true := by decide +kernel
set_option maxRecDepth 100000 in
theorem xm39_ok : xmokB xMs xcls xclp xm39 = true := by decide +kernel
set_option maxRecDepth 100000 in
theorem xm40_ok : xmokB xMs xcls xclp xm40 = true := by decide +kernel
set_option maxRecDepth 100000 in
theorem xm41_ok : xmokB xMs xcls xclp xm41 = true := by decide +kernel
set_option maxRecDepth 100000 in
theorem xm42_ok : xmokB xMs xcls xclp xm42 = true := by decide +kernel
set_option maxRecDepth 100000 in
theorem xm43_ok : xmokB xMs xcls xclp xm43 = true := by decide +kernel
set_option maxRecDepth 100000 in
theorem xm44_ok : xmokB xMs xcls xclp xm44 = true := by decide +kernel
set_option maxRecDepth 100000 in
theorem xm45_ok : xmokB xMs xcls xclp xm45 = true := by decide +kernel
set_option maxRecDepth 100000 in
theorem xm46_ok : xmokB xMs xcls xclp xm46 = true := by decide +kernel
set_option maxRecDepth 100000 in
theorem xm47_ok : xmokB xMs xcls xclp xm47 = true := by decide +kernel
set_option maxRecDepth 100000 in
theorem xm48_ok : xmokB xMs xcls xclp xm48 = true := by decide +kernel
set_option maxRecDepth 100000 in
theorem xm49_ok : xmokB xMs xcls xclp xm49 = true := by decide +kernel
set_option maxRecDepth 100000 in
theorem xm50_ok : xmokB xMs xcls xclp xm50 = true := by decide +kernel
set_option maxRecDepth 100000 in
theorem xm51_ok : xmokB xMs xcls xclp xm51 = true := by decide +kernel
set_option maxRecDepth 100000 in
theorem xm52_ok : xmokB xMs xcls xclp xm52 = true := by decide +kernel
set_option maxRecDepth 100000 in
theorem xm53_ok : xmokB xMs xcls xclp xm53 = true := by decide +kernel
set_option maxRecDepth 100000 in
theorem xm54_ok : xmokB xMs xcls xclp xm54 = true := by decide +kernel
set_option maxRecDepth 100000 in
theorem xm55_ok : xmokB xMs xcls xclp xm55 = true := by decide +kernel
set_option maxRecDepth 100000 in
theorem xm56_ok : xmokB xMs xcls xclp xm56 = true := by decide +kernel
set_option maxRecDepth 100000 in
theorem xm57_ok : xmokB xMs xcls xclp xm57 = true := by decide +kernel
set_option maxRecDepth 100000 in
theorem xm58_ok : xmokB xMs xcls xclp xm58 = true := by decide +kernel
set_option maxRecDepth 100000 in
theorem xm59_ok : xmokB xMs xcls xclp xm59 = true := by decide +kernel
end XU
end
section
section XU
set_option maxRecDepth 100000 in
theorem xm60_ok : xmokB xMs xcls xclp xm60 = true := by decide +kernel
set_option maxRecDepth 100000 in
theorem xm61_ok : xmokB xMs xcls xclp xm61 = true := by decide +kernel
set_option maxRecDepth 100000 in
theorem xm62_ok : xmokB xMs xcls xclp xm62 = true := by decide +kernel
set_option maxRecDepth 100000 in
theorem xm63_ok : xmokB xMs xcls xclp xm63 = true := by decide +kernel
set_option maxRecDepth 100000 in
theorem xm64_ok : xmokB xMs xcls xclp xm64 = true := by decide +kernel
set_option maxRecDepth 100000 in
theorem xm65_ok : xmokB xMs xcls xclp xm65 = true := by decide +kernel
set_option maxRecDepth 100000 in
theorem xm66_ok : xmokB xMs xcls xclp xm66 = true := by decide +kernel
set_option maxRecDepth 100000 in
theorem xm67_ok : xmokB xMs xcls xclp xm67 = true := by decide +kernel
set_option maxRecDepth 100000 in
theorem xm68_ok : xmokB xMs xcls xclp xm68 = true := by decide +kernel
set_option maxRecDepth 100000 in
theorem xm69_ok : xmokB xMs xcls xclp xm69 = true := by decide +kernel
set_option maxRecDepth 100000 in
theorem xm70_ok : xmokB xMs xcls xclp xm70 = true := by decide +kernel
set_option maxRecDepth 100000 in
theorem xm71_ok : xmokB xMs xcls xclp xm71 = true := by decide +kernel
set_option maxRecDepth 100000 in
theorem xm72_ok : xmokB xMs xcls xclp xm72 = true := by decide +kernel
set_option maxRecDepth 100000 in
theorem xm73_ok : xmokB xMs xcls xclp xm73 = true := by decide +kernel
set_option maxRecDepth 100000 in
theorem xm74_ok : xmokB xMs xcls xclp xm74 = true := by decide +kernel
set_option maxRecDepth 100000 in
theorem xm75_ok : xmokB xMs xcls xclp xm75 = true := by decide +kernel
set_option maxRecDepth 100000 in
theorem xm76_ok : xmokB xMs xcls xclp xm76 = true := by decide +kernel
set_option maxRecDepth 100000 in
theorem xm77_ok : xmokB xMs xcls xclp xm77 = true := by decide +kernel
set_option maxRecDepth 100000 in
theorem xm78_ok : xmokB xMs xcls xclp xm78 = true := by decide +kernel
set_option maxRecDepth 100000 in
theorem xm79_ok : xmokB xMs xcls xclp xm79 = true := by decide +kernel
set_option maxRecDepth 100000 in
theorem xm80_ok : xmokB xMs xcls xclp xm80 = true := by decide +kernel
set_option maxRecDepth 100000 in
theorem xm81_ok : xmokB xMs xcls xclp xm81 = true := by decide +kernel
set_option maxRecDepth 100000 in
theorem xm82_ok : xmokB xMs xcls xclp xm82 = true := by decide +kernel
set_option maxRecDepth 100000 in
theorem xm83_ok : xmokB xMs xcls xclp xm83 = true := by decide +kernel
set_option maxRecDepth 100000 in
theorem xm84_ok : xmokB xMs xcls xclp xm84 = true := by decide +kernel
set_option maxRecDepth 100000 in
theorem xm85_ok : xmokB xMs xcls xclp xm85 = true := by decide +kernel
set_option maxRecDepth 100000 in
theorem xm86_ok : xmokB xMs xcls xclp xm86 = true := by decide +kernel
set_option maxRecDepth 100000 in
theorem xm87_ok : xmokB xMs xcls xclp xm87 = true := by decide +kernel
set_option maxRecDepth 100000 in
theorem xm88_ok : xmokB xMs xcls xclp xm88 = true := by decide +kernel
set_option maxRecDepth 100000 in
theorem xm89_ok : xmokB xMs xcls xclp xm89 = true := by decide +kernel
set_option maxRecDepth 100000 in
theorem xm90_ok : xmokB xMs xcls xclp xm90 = true := by decide +kernel
set_option maxRecDepth 100000 in
theorem xm91_ok : xmokB xMs xcls xclp xm91 = true := by decide +kernel
set_option maxRecDepth 100000 in
theorem xm92_ok : xmokB xMs xcls xclp xm92 = true := by decide +kernel
set_option maxRecDepth 100000 in
theorem xm93_ok : xmokB xMs xcls xclp xm93 = true := by decide +kernel
set_option maxRecDepth 100000 in
theorem xm94_ok : xmokB xMs xcls xclp xm94 = true := by decide +kernel
set_option maxRecDepth 100000 in
theorem xm95_ok : xmokB xMs xcls xclp xm95 = true := by decide +kernel
set_option maxRecDepth 100000 in
theorem xm96_ok : xmokB xMs xcls xclp xm96 = true := by decide +kernel
set_option maxRecDepth 100000 in
theorem xm97_ok : xmokB xMs xcls xclp xm97 = true := by decide +kernel
set_option maxRecDepth 100000 in
theorem xm98_ok : xmokB xMs xcls xclp xm98 = true := by decide +kernel
set_option maxRecDepth 100000 in
theorem xm99_ok : xmokB xMs xcls xclp xm99 = true := by decide +kernel
set_option maxRecDepth 100000 in
theorem xm100_ok : xmokB xMs xcls xclp xm100 = true := by decide +kernel
set_option maxRecDepth 100000 in
theorem xm101_ok : xmokB xMs xcls xclp xm101 = true := by decide +kernel
set_option maxRecDepth 100000 in
theorem xm102_ok : xmokB xMs xcls xclp xm102 = true := by decide +kernel
set_option maxRecDepth 100000 in
theorem xm103_ok : xmokB xMs xcls xclp xm103 = true := by decide +kernel
set_option maxRecDepth 100000 in
theorem xm104_ok : xmokB xMs xcls xclp xm104 = true := by decide +kernel
set_option maxRecDepth 100000 in
theorem xm105_ok : xmokB xMs xcls xclp xm105 = true := by decide +kernel
set_option maxRecDepth 100000 in
theorem xm106_ok : xmokB xMs xcls xclp xm106 = true := by decide +kernel
set_option maxRecDepth 100000 in
theorem xm107_ok : xmokB xMs xcls xclp xm107 = true := by decide +kernel
set_option maxRecDepth 100000 in
theorem xm108_ok : xmokB xMs xcls xclp xm108 = true := by decide +kernel
set_option maxRecDepth 100000 in
theorem xm109_ok : xmokB xMs xcls xclp xm109 = true := by decide +kernel
set_option maxRecDepth 100000 in
theorem xm110_ok : xmokB xMs xcls xclp xm110 = true := by decide +kernel
set_option maxRecDepth 100000 in
theorem xm111_ok : xmokB xMs xcls xclp xm111 = true := by decide +kernel
set_option maxRecDepth 100000 in
theorem xm112_ok : xmokB xMs xcls xclp xm112 = true := by decide +kernel
set_option maxRecDepth 100000 in
theorem xm113_ok : xmokB xMs xcls xclp xm113 = true := by decide +kernel
set_option maxRecDepth 100000 in
theorem xm114_ok : xmokB xMs xcls xclp xm114 = true := by decide +kernel
set_option maxRecDepth 100000 in
theorem xm115_ok : xmokB xMs xcls xclp xm115 = true := by decide +kernel
set_option maxRecDepth 100000 in
theorem xm116_ok : xmokB xMs xcls xclp xm116 = true := by decide +kernel
set_option maxRecDepth 100000 in
theorem xm117_ok : xmokB xMs xcls xclp xm117 = true := by decide +kernel
set_option maxRecDepth 100000 in
theorem xm118_ok : xmokB xMs xcls xclp xm118 = true := by decide +kernel
set_option maxRecDepth 100000 in
theorem xm119_ok : xmokB xMs xcls xclp xm119 = true := by decide +kernel
end XU
end
section
section XU
set_option maxRecDepth 100000 in
theorem xm120_ok : xmokB xMs xcls xclp xm120 = true := by decide +kernel
set_option maxRecDepth 100000 in
theorem xm121_ok : xmokB xMs xcls xclp xm121 = true := by decide +kernel
set_option maxRecDepth 100000 in
theorem xm122_ok : xmokB xMs xcls xclp xm122 = true := by decide +kernel
set_option maxRecDepth 100000 in
theorem xm123_ok : xmokB xMs xcls xclp xm123 = true := by decide +kernel
set_option maxRecDepth 100000 in
theorem xm124_ok : xmokB xMs xcls xclp xm124 = true := by decide +kernel
set_option maxRecDepth 100000 in
theorem xm125_ok : xmokB xMs xcls xclp xm125 = true := by decide +kernel
set_option maxRecDepth 100000 in
theorem xm126_ok : xmokB xMs xcls xclp xm126 = true := by decide +kernel
set_option maxRecDepth 100000 in
theorem xm127_ok : xmokB xMs xcls xclp xm127 = true := by decide +kernel
set_option maxRecDepth 100000 in
theorem xm128_ok : xmokB xMs xcls xclp xm128 = true := by decide +kernel
set_option maxRecDepth 100000 in
theorem xm129_ok : xmokB xMs xcls xclp xm129 = true := by decide +kernel
set_option maxRecDepth 100000 in
theorem xm130_ok : xmokB xMs xcls xclp xm130 = true := by decide +kernel
set_option maxRecDepth 100000 in
theorem xm131_ok : xmokB xMs xcls xclp xm131 = true := by decide +kernel
set_option maxRecDepth 100000 in
theorem xm132_ok : xmokB xMs xcls xclp xm132 = true := by decide +kernel
set_option maxRecDepth 100000 in
theorem xm133_ok : xmokB xMs xcls xclp xm133 = true := by decide +kernel
set_option maxRecDepth 100000 in
theorem xm134_ok : xmokB xMs xcls xclp xm134 = true := by decide +kernel
set_option maxRecDepth 100000 in
theorem xm135_ok : xmokB xMs xcls xclp xm135 = true := by decide +kernel
set_option maxRecDepth 100000 in
theorem xm136_ok : xmokB xMs xcls xclp xm136 = true := by decide +kernel
set_option maxRecDepth 100000 in
theorem xm137_ok : xmokB xMs xcls xclp xm137 = true := by decide +kernel
set_option maxRecDepth 100000 in
theorem xm138_ok : xmokB xMs xcls xclp xm138 = true := by decide +kernel
set_option maxRecDepth 100000 in
theorem xm139_ok : xmokB xMs xcls xclp xm139 = true := by decide +kernel
set_option maxRecDepth 100000 in
theorem xm140_ok : xmokB xMs xcls xclp xm140 = true := by decide +kernel
set_option maxRecDepth 100000 in
theorem xm141_ok : xmokB xMs xcls xclp xm141 = true := by decide +kernel
set_option maxRecDepth 100000 in
theorem xm142_ok : xmokB xMs xcls xclp xm142 = true := by decide +kernel
set_option maxRecDepth 100000 in
theorem xm143_ok : xmokB xMs xcls xclp xm143 = true := by decide +kernel
set_option maxRecDepth 100000 in
theorem xm144_ok : xmokB xMs xcls xclp xm144 = true := by decide +kernel
set_option maxRecDepth 100000 in
theorem xm145_ok : xmokB xMs xcls xclp xm145 = true := by decide +kernel
set_option maxRecDepth 100000 in
theorem xm146_ok : xmokB xMs xcls xclp xm146 = true := by decide +kernel
set_option maxRecDepth 100000 in
theorem xm147_ok : xmokB xMs xcls xclp xm147 = true := by decide +kernel
set_option maxRecDepth 100000 in
theorem xm148_ok : xmokB xMs xcls xclp xm148 = true := by decide +kernel
set_option maxRecDepth 100000 in
theorem xm149_ok : xmokB xMs xcls xclp xm149 = true := by decide +kernel
set_option maxRecDepth 100000 in
theorem xm150_ok : xmokB xMs xcls xclp xm150 = true := by decide +kernel
set_option maxRecDepth 100000 in
theorem xm151_ok : xmokB xMs xcls xclp xm151 = true := by decide +kernel
set_option maxRecDepth 100000 in
theorem xm152_ok : xmokB xMs xcls xclp xm152 = true := by decide +kernel
set_option maxRecDepth 100000 in
theorem xm153_ok : xmokB xMs xcls xclp xm153 = true := by decide +kernel
set_option maxRecDepth 100000 in
theorem xm154_ok : xmokB xMs xcls xclp xm154 = true := by decide +kernel
set_option maxRecDepth 100000 in
theorem xm155_ok : xmokB xMs xcls xclp xm155 = true := by decide +kernel
set_option maxRecDepth 100000 in
theorem xm156_ok : xmokB xMs xcls xclp xm156 = true := by decide +kernel
set_option maxRecDepth 100000 in
theorem xm157_ok : xmokB xMs xcls xclp xm157 = true := by decide +kernel
set_option maxRecDepth 100000 in
theorem xm158_ok : xmokB xMs xcls xclp xm158 = true := by decide +kernel
set_option maxRecDepth 100000 in
theorem xm159_ok : xmokB xMs xcls xclp xm159 = true := by decide +kernel
set_option maxRecDepth 100000 in
theorem xm160_ok : xmokB xMs xcls xclp xm160 = true := by decide +kernel
set_option maxRecDepth 100000 in
theorem xm161_ok : xmokB xMs xcls xclp xm161 = true := by decide +kernel
set_option maxRecDepth 100000 in
theorem xm162_ok : xmokB xMs xcls xclp xm162 = true := by decide +kernel
set_option maxRecDepth 100000 in
theorem xm163_ok : xmokB xMs xcls xclp xm163 = true := by decide +kernel
set_option maxRecDepth 100000 in
theorem xm164_ok : xmokB xMs xcls xclp xm164 = true := by decide +kernel
set_option maxRecDepth 100000 in
theorem xm165_ok : xmokB xMs xcls xclp xm165 = true := by decide +kernel
set_option maxRecDepth 100000 in
theorem xm166_ok : xmokB xMs xcls xclp xm166 = true := by decide +kernel
set_option maxRecDepth 100000 in
theorem xm167_ok : xmokB xMs xcls xclp xm167 = true := by decide +kernel
set_option maxRecDepth 100000 in
theorem xm168_ok : xmokB xMs xcls xclp xm168 = true := by decide +kernel
set_option maxRecDepth 100000 in
theorem xm169_ok : xmokB xMs xcls xclp xm169 = true := by decide +kernel
set_option maxRecDepth 100000 in
theorem xm170_ok : xmokB xMs xcls xclp xm170 = true := by decide +kernel
set_option maxRecDepth 100000 in
theorem xm171_ok : xmokB xMs xcls xclp xm171 = true := by decide +kernel
set_option maxRecDepth 100000 in
theorem xm172_ok : xmokB xMs xcls xclp xm172 = true := by decide +kernel
set_option maxRecDepth 100000 in
theorem xm173_ok : xmokB xMs xcls xclp xm173 = true := by decide +kernel
set_option maxRecDepth 100000 in
theorem xm174_ok : xmokB xMs xcls xclp xm174 = true := by decide +kernel
set_option maxRecDepth 100000 in
theorem xm175_ok : xmokB xMs xcls xclp xm175 = true := by decide +kernel
set_option maxRecDepth 100000 in
theorem xm176_ok : xmokB xMs xcls xclp xm176 = true := by decide +kernel
set_option maxRecDepth 100000 in
theorem xm177_ok : xmokB xMs xcls xclp xm177 = true := by decide +kernel
end XU
end
section
section XU
theorem xseg_ok {α : Type} {f : α → Bool} {l : List α} {n m : Nat} (hn : 0 < n) (hl : l.length ≤ n * m) (h : ∀ k, k < m → ((l.drop (n * k)).take n).all f = true) : l.all f = true := by
  rw [List.all_eq_true]
  intro e he
  obtain ⟨i, hi, rfl⟩ := List.mem_iff_getElem.mp he
  have hk : i / n < m := by
    rw [Nat.div_lt_iff_lt_mul hn]
    rw [Nat.mul_comm m n]
    omega
  refine List.all_eq_true.mp (h (i / n) hk) _ ?_
  have h1 := Nat.div_add_mod i n
  have h2 := Nat.mod_lt i hn
  refine List.mem_iff_getElem.mpr ⟨i % n, ?_, ?_⟩
  · rw [List.length_take, List.length_drop]
    omega
  · rw [List.getElem_take, List.getElem_drop]
    congr 1
set_option maxRecDepth 100000 in
theorem xlw0_s0 : ((xlw0.drop (12 * 0)).take 12).all (xveB xMs xLaw) = true := by decide +kernel
set_option maxRecDepth 100000 in
theorem xlw0_s1 : ((xlw0.drop (12 * 1)).take 12).all (xveB xMs xLaw) = true := by decide +kernel
set_option maxRecDepth 100000 in
theorem xlw0_s2 : ((xlw0.drop (12 * 2)).take 12).all (xveB xMs xLaw) = true := by decide +kernel
set_option maxRecDepth 100000 in
theorem xlw0_s3 : ((xlw0.drop (12 * 3)).take 12).all (xveB xMs xLaw) = true := by decide +kernel
set_option maxRecDepth 100000 in
theorem xlw0_s4 : ((xlw0.drop (12 * 4)).take 12).all (xveB xMs xLaw) = true := by decide +kernel
theorem xlw0_ok : xlw0.all (xveB xMs xLaw) = true := xseg_ok (n := 12) (m := 5) (by decide) (by decide +kernel) (fun k hk => match k, hk with
  | 0, _ => xlw0_s0
  | 1, _ => xlw0_s1
  | 2, _ => xlw0_s2
  | 3, _ => xlw0_s3
  | 4, _ => xlw0_s4
  | n + 5, h => absurd h (by omega))
set_option maxRecDepth 100000 in
theorem xlw1_s0 : ((xlw1.drop (12 * 0)).take 12).all (xveB xMs xLaw) = true := by decide +kernel
set_option maxRecDepth 100000 in
theorem xlw1_s1 : ((xlw1.drop (12 * 1)).take 12).all (xveB xMs xLaw) = true := by decide +kernel
set_option maxRecDepth 100000 in
theorem xlw1_s2 : ((xlw1.drop (12 * 2)).take 12).all (xveB xMs xLaw) = true := by decide +kernel
set_option maxRecDepth 100000 in
theorem xlw1_s3 : ((xlw1.drop (12 * 3)).take 12).all (xveB xMs xLaw) = true := by decide +kernel
set_option maxRecDepth 100000 in
theorem xlw1_s4 : ((xlw1.drop (12 * 4)).take 12).all (xveB xMs xLaw) = true := by decide +kernel
theorem xlw1_ok : xlw1.all (xveB xMs xLaw) = true := xseg_ok (n := 12) (m := 5) (by decide) (by decide +kernel) (fun k hk => match k, hk with
  | 0, _ => xlw1_s0
  | 1, _ => xlw1_s1
  | 2, _ => xlw1_s2
  | 3, _ => xlw1_s3
  | 4, _ => xlw1_s4
  | n + 5, h => absurd h (by omega))
set_option maxRecDepth 100000 in
theorem xlw2_s0 : ((xlw2.drop (12 * 0)).take 12).all (xveB xMs xLaw) = true := by decide +kernel
set_option maxRecDepth 100000 in
theorem xlw2_s1 : ((xlw2.drop (12 * 1)).take 12).all (xveB xMs xLaw) = true := by decide +kernel
set_option maxRecDepth 100000 in
theorem xlw2_s2 : ((xlw2.drop (12 * 2)).take 12).all (xveB xMs xLaw) = true := by decide +kernel
set_option maxRecDepth 100000 in
theorem xlw2_s3 : ((xlw2.drop (12 * 3)).take 12).all (xveB xMs xLaw) = true := by decide +kernel
set_option maxRecDepth 100000 in
theorem xlw2_s4 : ((xlw2.drop (12 * 4)).take 12).all (xveB xMs xLaw) = true := by decide +kernel
theorem xlw2_ok : xlw2.all (xveB xMs xLaw) = true := xseg_ok (n := 12) (m := 5) (by decide) (by decide +kernel) (fun k hk => match k, hk with
  | 0, _ => xlw2_s0
  | 1, _ => xlw2_s1
  | 2, _ => xlw2_s2
  | 3, _ => xlw2_s3
  | 4, _ => xlw2_s4
  | n + 5, h => absurd h (by omega))
set_option maxRecDepth 100000 in
theorem xlw3_s0 : ((xlw3.drop (12 * 0)).take 12).all (xveB xMs xLaw) = true := by decide +kernel
set_option maxRecDepth 100000 in
theorem xlw3_s1 : ((xlw3.drop (12 * 1)).take 12).all (xveB xMs xLaw) = true := by decide +kernel
set_option maxRecDepth 100000 in
theorem xlw3_s2 : ((xlw3.drop (12 * 2)).take 12).all (xveB xMs xLaw) = true := by decide +kernel
set_option maxRecDepth 100000 in
theorem xlw3_s3 : ((xlw3.drop (12 * 3)).take 12).all (xveB xMs xLaw) = true := by decide +kernel
set_option maxRecDepth 100000 in
theorem xlw3_s4 : ((xlw3.drop (12 * 4)).take 12).all (xveB xMs xLaw) = true := by decide +kernel
theorem xlw3_ok : xlw3.all (xveB xMs xLaw) = true := xseg_ok (n := 12) (m := 5) (by decide) (by decide +kernel) (fun k hk => match k, hk with
  | 0, _ => xlw3_s0
  | 1, _ => xlw3_s1
  | 2, _ => xlw3_s2
  | 3, _ => xlw3_s3
  | 4, _ => xlw3_s4
  | n + 5, h => absurd h (by omega))
end XU
end
section
section XU
set_option maxRecDepth 100000 in
theorem xlw4_s0 : ((xlw4.drop (12 * 0)).take 12).all (xveB xMs xLaw) = true := by decide +kernel
set_option maxRecDepth 100000 in
theorem xlw4_s1 : ((xlw4.drop (12 * 1)).take 12).all (xveB xMs xLaw) = true := by decide +kernel
set_option maxRecDepth 100000 in
theorem xlw4_s2 : ((xlw4.drop (12 * 2)).take 12).all (xveB xMs xLaw) = true := by decide +kernel
set_option maxRecDepth 100000 in
theorem xlw4_s3 : ((xlw4.drop (12 * 3)).take 12).all (xveB xMs xLaw) = true := by decide +kernel
set_option maxRecDepth 100000 in
theorem xlw4_s4 : ((xlw4.drop (12 * 4)).take 12).all (xveB xMs xLaw) = true := by decide +kernel
theorem xlw4_ok : xlw4.all (xveB xMs xLaw) = true := xseg_ok (n := 12) (m := 5) (by decide) (by decide +kernel) (fun k hk => match k, hk with
  | 0, _ => xlw4_s0
  | 1, _ => xlw4_s1
  | 2, _ => xlw4_s2
  | 3, _ => xlw4_s3
  | 4, _ => xlw4_s4
  | n + 5, h => absurd h (by omega))
set_option maxRecDepth 100000 in
theorem xlw5_s0 : ((xlw5.drop (12 * 0)).take 12).all (xveB xMs xLaw) = true := by decide +kernel
set_option maxRecDepth 100000 in
theorem xlw5_s1 : ((xlw5.drop (12 * 1)).take 12).all (xveB xMs xLaw) = true := by decide +kernel
set_option maxRecDepth 100000 in
theorem xlw5_s2 : ((xlw5.drop (12 * 2)).take 12).all (xveB xMs xLaw) = true := by decide +kernel
set_option maxRecDepth 100000 in
theorem xlw5_s3 : ((xlw5.drop (12 * 3)).take 12).all (xveB xMs xLaw) = true := by decide +kernel
set_option maxRecDepth 100000 in
theorem xlw5_s4 : ((xlw5.drop (12 * 4)).take 12).all (xveB xMs xLaw) = true := by decide +kernel
theorem xlw5_ok : xlw5.all (xveB xMs xLaw) = true := xseg_ok (n := 12) (m := 5) (by decide) (by decide +kernel) (fun k hk => match k, hk with
  | 0, _ => xlw5_s0
  | 1, _ => xlw5_s1
  | 2, _ => xlw5_s2
  | 3, _ => xlw5_s3
  | 4, _ => xlw5_s4
  | n + 5, h => absurd h (by omega))
set_option maxRecDepth 100000 in
theorem xlw6_s0 : ((xlw6.drop (12 * 0)).take 12).all (xveB xMs xLaw) = true := by decide +kernel
set_option maxRecDepth 100000 in
theorem xlw6_s1 : ((xlw6.drop (12 * 1)).take 12).all (xveB xMs xLaw) = true := by decide +kernel
set_option maxRecDepth 100000 in
theorem xlw6_s2 : ((xlw6.drop (12 * 2)).take 12).all (xveB xMs xLaw) = true := by decide +kernel
set_option maxRecDepth 100000 in
theorem xlw6_s3 : ((xlw6.drop (12 * 3)).take 12).all (xveB xMs xLaw) = true := by decide +kernel
set_option maxRecDepth 100000 in
theorem xlw6_s4 : ((xlw6.drop (12 * 4)).take 12).all (xveB xMs xLaw) = true := by decide +kernel
theorem xlw6_ok : xlw6.all (xveB xMs xLaw) = true := xseg_ok (n := 12) (m := 5) (by decide) (by decide +kernel) (fun k hk => match k, hk with
  | 0, _ => xlw6_s0
  | 1, _ => xlw6_s1
  | 2, _ => xlw6_s2
  | 3, _ => xlw6_s3
  | 4, _ => xlw6_s4
  | n + 5, h => absurd h (by omega))
end XU
end
section
section XU
set_option maxRecDepth 100000 in
theorem xlw7_s0 : ((xlw7.drop (12 * 0)).take 12).all (xveB xMs xLaw) = true := by decide +kernel
set_option maxRecDepth 100000 in
theorem xlw7_s1 : ((xlw7.drop (12 * 1)).take 12).all (xveB xMs xLaw) = true := by decide +kernel
set_option maxRecDepth 100000 in
theorem xlw7_s2 : ((xlw7.drop (12 * 2)).take 12).all (xveB xMs xLaw) = true := by decide +kernel
set_option maxRecDepth 100000 in
theorem xlw7_s3 : ((xlw7.drop (12 * 3)).take 12).all (xveB xMs xLaw) = true := by decide +kernel
set_option maxRecDepth 100000 in
theorem xlw7_s4 : ((xlw7.drop (12 * 4)).take 12).all (xveB xMs xLaw) = true := by decide +kernel
theorem xlw7_ok : xlw7.all (xveB xMs xLaw) = true := xseg_ok (n := 12) (m := 5) (by decide) (by decide +kernel) (fun k hk => match k, hk with
  | 0, _ => xlw7_s0
  | 1, _ => xlw7_s1
  | 2, _ => xlw7_s2
  | 3, _ => xlw7_s3
  | 4, _ => xlw7_s4
  | n + 5, h => absurd h (by omega))
set_option maxRecDepth 100000 in
theorem xlw8_s0 : ((xlw8.drop (12 * 0)).take 12).all (xveB xMs xLaw) = true := by decide +kernel
set_option maxRecDepth 100000 in
theorem xlw8_s1 : ((xlw8.drop (12 * 1)).take 12).all (xveB xMs xLaw) = true := by decide +kernel
set_option maxRecDepth 100000 in
theorem xlw8_s2 : ((xlw8.drop (12 * 2)).take 12).all (xveB xMs xLaw) = true := by decide +kernel
set_option maxRecDepth 100000 in
theorem xlw8_s3 : ((xlw8.drop (12 * 3)).take 12).all (xveB xMs xLaw) = true := by decide +kernel
set_option maxRecDepth 100000 in
theorem xlw8_s4 : ((xlw8.drop (12 * 4)).take 12).all (xveB xMs xLaw) = true := by decide +kernel
theorem xlw8_ok : xlw8.all (xveB xMs xLaw) = true := xseg_ok (n := 12) (m := 5) (by decide) (by decide +kernel) (fun k hk => match k, hk with
  | 0, _ => xlw8_s0
  | 1, _ => xlw8_s1
  | 2, _ => xlw8_s2
  | 3, _ => xlw8_s3
  | 4, _ => xlw8_s4
  | n + 5, h => absurd h (by omega))
end XU
end
section
section XU
set_option maxRecDepth 100000 in
theorem xlw9_s0 : ((xlw9.drop (12 * 0)).take 12).all (xveB xMs xLaw) = true := by decide +kernel
set_option maxRecDepth 100000 in
theorem xlw9_s1 : ((xlw9.drop (12 * 1)).take 12).all (xveB xMs xLaw) = true := by decide +kernel
set_option maxRecDepth 100000 in
theorem xlw9_s2 : ((xlw9.drop (12 * 2)).take 12).all (xveB xMs xLaw) = true := by decide +kernel
set_option maxRecDepth 100000 in
theorem xlw9_s3 : ((xlw9.drop (12 * 3)).take 12).all (xveB xMs xLaw) = true := by decide +kernel
set_option maxRecDepth 100000 in
theorem xlw9_s4 : ((xlw9.drop (12 * 4)).take 12).all (xveB xMs xLaw) = true := by decide +kernel
theorem xlw9_ok : xlw9.all (xveB xMs xLaw) = true := xseg_ok (n := 12) (m := 5) (by decide) (by decide +kernel) (fun k hk => match k, hk with
  | 0, _ => xlw9_s0
  | 1, _ => xlw9_s1
  | 2, _ => xlw9_s2
  | 3, _ => xlw9_s3
  | 4, _ => xlw9_s4
  | n + 5, h => absurd h (by omega))
set_option maxRecDepth 100000 in
theorem xlw10_s0 : ((xlw10.drop (12 * 0)).take 12).all (xveB xMs xLaw) = true := by decide +kernel
set_option maxRecDepth 100000 in
theorem xlw10_s1 : ((xlw10.drop (12 * 1)).take 12).all (xveB xMs xLaw) = true := by decide +kernel
set_option maxRecDepth 100000 in
theorem xlw10_s2 : ((xlw10.drop (12 * 2)).take 12).all (xveB xMs xLaw) = true := by decide +kernel
set_option maxRecDepth 100000 in
theorem xlw10_s3 : ((xlw10.drop (12 * 3)).take 12).all (xveB xMs xLaw) = true := by decide +kernel
set_option maxRecDepth 100000 in
theorem xlw10_s4 : ((xlw10.drop (12 * 4)).take 12).all (xveB xMs xLaw) = true := by decide +kernel
theorem xlw10_ok : xlw10.all (xveB xMs xLaw) = true := xseg_ok (n := 12) (m := 5) (by decide) (by decide +kernel) (fun k hk => match k, hk with
  | 0, _ => xlw10_s0
  | 1, _ => xlw10_s1
  | 2, _ => xlw10_s2
  | 3, _ => xlw10_s3
  | 4, _ => xlw10_s4
  | n + 5, h => absurd h (by omega))
end XU
end
section
section XU
set_option maxRecDepth 100000 in
theorem xlw11_s0 : ((xlw11.drop (12 * 0)).take 12).all (xveB xMs xLaw) = true := by decide +kernel
set_option maxRecDepth 100000 in
theorem xlw11_s1 : ((xlw11.drop (12 * 1)).take 12).all (xveB xMs xLaw) = true := by decide +kernel
set_option maxRecDepth 100000 in
theorem xlw11_s2 : ((xlw11.drop (12 * 2)).take 12).all (xveB xMs xLaw) = true := by decide +kernel
set_option maxRecDepth 100000 in
theorem xlw11_s3 : ((xlw11.drop (12 * 3)).take 12).all (xveB xMs xLaw) = true := by decide +kernel
set_option maxRecDepth 100000 in
theorem xlw11_s4 : ((xlw11.drop (12 * 4)).take 12).all (xveB xMs xLaw) = true := by decide +kernel
theorem xlw11_ok : xlw11.all (xveB xMs xLaw) = true := xseg_ok (n := 12) (m := 5) (by decide) (by decide +kernel) (fun k hk => match k, hk with
  | 0, _ => xlw11_s0
  | 1, _ => xlw11_s1
  | 2, _ => xlw11_s2
  | 3, _ => xlw11_s3
  | 4, _ => xlw11_s4
  | n + 5, h => absurd h (by omega))
set_option maxRecDepth 100000 in
theorem xlw12_s0 : ((xlw12.drop (12 * 0)).take 12).all (xveB xMs xLaw) = true := by decide +kernel
set_option maxRecDepth 100000 in
theorem xlw12_s1 : ((xlw12.drop (12 * 1)).take 12).all (xveB xMs xLaw) = true := by decide +kernel
set_option maxRecDepth 100000 in
theorem xlw12_s2 : ((xlw12.drop (12 * 2)).take 12).all (xveB xMs xLaw) = true := by decide +kernel
set_option maxRecDepth 100000 in
theorem xlw12_s3 : ((xlw12.drop (12 * 3)).take 12).all (xveB xMs xLaw) = true := by decide +kernel
set_option maxRecDepth 100000 in
theorem xlw12_s4 : ((xlw12.drop (12 * 4)).take 12).all (xveB xMs xLaw) = true := by decide +kernel
theorem xlw12_ok : xlw12.all (xveB xMs xLaw) = true := xseg_ok (n := 12) (m := 5) (by decide) (by decide +kernel) (fun k hk => match k, hk with
  | 0, _ => xlw12_s0
  | 1, _ => xlw12_s1
  | 2, _ => xlw12_s2
  | 3, _ => xlw12_s3
  | 4, _ => xlw12_s4
  | n + 5, h => absurd h (by omega))
end XU
end
section
section XU
set_option maxRecDepth 100000 in
theorem xlw13_s0 : ((xlw13.drop (12 * 0)).take 12).all (xveB xMs xLaw) = true := by decide +kernel
set_option maxRecDepth 100000 in
theorem xlw13_s1 : ((xlw13.drop (12 * 1)).take 12).all (xveB xMs xLaw) = true := by decide +kernel
set_option maxRecDepth 100000 in
theorem xlw13_s2 : ((xlw13.drop (12 * 2)).take 12).all (xveB xMs xLaw) = true := by decide +kernel
set_option maxRecDepth 100000 in
theorem xlw13_s3 : ((xlw13.drop (12 * 3)).take 12).all (xveB xMs xLaw) = true := by decide +kernel
set_option maxRecDepth 100000 in
theorem xlw13_s4 : ((xlw13.drop (12 * 4)).take 12).all (xveB xMs xLaw) = true := by decide +kernel
theorem xlw13_ok : xlw13.all (xveB xMs xLaw) = true := xseg_ok (n := 12) (m := 5) (by decide) (by decide +kernel) (fun k hk => match k, hk with
  | 0, _ => xlw13_s0
  | 1, _ => xlw13_s1
  | 2, _ => xlw13_s2
  | 3, _ => xlw13_s3
  | 4, _ => xlw13_s4
  | n + 5, h => absurd h (by omega))
end XU
end
section
section XU
set_option maxRecDepth 100000 in
theorem xlw14_s0 : ((xlw14.drop (12 * 0)).take 12).all (xveB xMs xLaw) = true := by decide +kernel
set_option maxRecDepth 100000 in
theorem xlw14_s1 : ((xlw14.drop (12 * 1)).take 12).all (xveB xMs xLaw) = true := by decide +kernel
set_option maxRecDepth 100000 in
theorem xlw14_s2 : ((xlw14.drop (12 * 2)).take 12).all (xveB xMs xLaw) = true := by decide +kernel
set_option maxRecDepth 100000 in
theorem xlw14_s3 : ((xlw14.drop (12 * 3)).take 12).all (xveB xMs xLaw) = true := by decide +kernel
set_option maxRecDepth 100000 in
theorem xlw14_s4 : ((xlw14.drop (12 * 4)).take 12).all (xveB xMs xLaw) = true := by decide +kernel
theorem xlw14_ok : xlw14.all (xveB xMs xLaw) = true := xseg_ok (n := 12) (m := 5) (by decide) (by decide +kernel) (fun k hk => match k, hk with
  | 0, _ => xlw14_s0
  | 1, _ => xlw14_s1
  | 2, _ => xlw14_s2
  | 3, _ => xlw14_s3
  | 4, _ => xlw14_s4
  | n + 5, h => absurd h (by omega))
end XU
end
section
section XU
set_option maxRecDepth 100000 in
theorem xlw15_s0 : ((xlw15.drop (12 * 0)).take 12).all (xveB xMs xLaw) = true := by decide +kernel
set_option maxRecDepth 100000 in
theorem xlw15_s1 : ((xlw15.drop (12 * 1)).take 12).all (xveB xMs xLaw) = true := by decide +kernel
set_option maxRecDepth 100000 in
theorem xlw15_s2 : ((xlw15.drop (12 * 2)).take 12).all (xveB xMs xLaw) = true := by decide +kernel
set_option maxRecDepth 100000 in
theorem xlw15_s3 : ((xlw15.drop (12 * 3)).take 12).all (xveB xMs xLaw) = true := by decide +kernel
set_option maxRecDepth 100000 in
theorem xlw15_s4 : ((xlw15.drop (12 * 4)).take 12).all (xveB xMs xLaw) = true := by decide +kernel
theorem xlw15_ok : xlw15.all (xveB xMs xLaw) = true := xseg_ok (n := 12) (m := 5) (by decide) (by decide +kernel) (fun k hk => match k, hk with
  | 0, _ => xlw15_s0
  | 1, _ => xlw15_s1
  | 2, _ => xlw15_s2
  | 3, _ => xlw15_s3
  | 4, _ => xlw15_s4
  | n + 5, h => absurd h (by omega))
end XU
end
section
section XU
set_option maxRecDepth 100000 in
theorem xlw16_s0 : ((xlw16.drop (12 * 0)).take 12).all (xveB xMs xLaw) = true := by decide +kernel
set_option maxRecDepth 100000 in
theorem xlw16_s1 : ((xlw16.drop (12 * 1)).take 12).all (xveB xMs xLaw) = true := by decide +kernel
set_option maxRecDepth 100000 in
theorem xlw16_s2 : ((xlw16.drop (12 * 2)).take 12).all (xveB xMs xLaw) = true := by decide +kernel
set_option maxRecDepth 100000 in
theorem xlw16_s3 : ((xlw16.drop (12 * 3)).take 12).all (xveB xMs xLaw) = true := by decide +kernel
set_option maxRecDepth 100000 in
theorem xlw16_s4 : ((xlw16.drop (12 * 4)).take 12).all (xveB xMs xLaw) = true := by decide +kernel
theorem xlw16_ok : xlw16.all (xveB xMs xLaw) = true := xseg_ok (n := 12) (m := 5) (by decide) (by decide +kernel) (fun k hk => match k, hk with
  | 0, _ => xlw16_s0
  | 1, _ => xlw16_s1
  | 2, _ => xlw16_s2
  | 3, _ => xlw16_s3
  | 4, _ => xlw16_s4
  | n + 5, h => absurd h (by omega))
end XU
end
section
section XU
theorem xve_split {P : XI → Prop} {l : List XI} (n : Nat) (h1 : ∀ e ∈ l.take n, P e) (h2 : ∀ e ∈ l.drop n, P e) : ∀ e ∈ l, P e := by
  intro e he
  rw [← List.take_append_drop n l] at he
  exact (List.mem_append.mp he).elim (h1 e) (h2 e)
theorem xve_all {l : List XI} (h : l.all (xveB xMs xLaw) = true) : ∀ e ∈ l, xVE xMs xLaw e := fun e he => xveB_ok (List.all_eq_true.mp h e he)
def xbl : List UInt8 → List UInt8 → Bool
  | [], [] => true
  | a :: s, b :: t => Nat.beq a.toNat b.toNat && xbl s t
  | _, _ => false
theorem xbl_eq : ∀ {s t : List UInt8}, xbl s t = true → s = t
  | [], [], _ => rfl
  | [], _ :: _, h => nomatch h
  | _ :: _, [], h => nomatch h
  | a :: s, b :: t, h => by
    unfold xbl at h
    rw [Bool.and_eq_true] at h
    rw [UInt8.toNat_inj.mp (Nat.eq_of_beq_eq_true h.1), xbl_eq h.2]
theorem xba_eq {a b : ByteArray} (h : a.data.toList = b.data.toList) : a = b := by
  cases a
  cases b
  exact congrArg ByteArray.mk (Array.toList_inj.mp h)
def xckB (pl : Nat) (M : XM) : Bool :=
  match xnth lw_tbl pl with
  | some (.code y b n r) => decide (y = xmY M) && (xbl b.data.toList (xmB M).data.toList && (Nat.beq n (xmN M) && decide (r = xmV M)))
  | _ => false
theorem xckB_ok {pl : Nat} {M : XM} (h : xckB pl M = true) : xnth lw_tbl pl = some (Jvm.Cond.code (xmY M) (xmB M) (xmN M) (xmV M)) := by
  unfold xckB at h
  split at h
  · rename_i y b n r hk
    simp only [Bool.and_eq_true, decide_eq_true_eq] at h
    obtain ⟨rfl, h2, h3, rfl⟩ := h
    rw [hk, xba_eq (xbl_eq h2), Nat.eq_of_beq_eq_true h3]
  · cases h
set_option maxRecDepth 100000 in
theorem xlw17_c : Jvm.Cond.code (xmY xm36) (xmB xm36) (xmN xm36) (xmV xm36) ∈ xTs := xTs_in (i := 1533) (by rw [← xnth_eq]; exact xckB_ok (by decide +kernel)) rfl
theorem xlw17_r : xVE xMs xLaw (2306, .invokevirtual 264, 3, [1, 36, 8, 65, 1533, 1530, 1531, 1532]) := by
  intro mode k ci t e1
  have e1 : [1, 36, 8, 65, 1533, 1530, 1531, 1532] = mode :: k :: ci :: t := e1
  cases e1
  refine ⟨264, by decide +kernel, fun Y hY => ?_⟩
  have h36 : xnth xMs 36 = some xm36 := rfl
  obtain rfl : xm36 = Y := Option.some.inj (h36.symm.trans hY)
  refine ⟨⟨by decide +kernel, by decide +kernel⟩, okw_in (pl := 65) (by decide +kernel), xlw17_c, ?_⟩
  exact ⟨rfl, ⟨0, rfl, by decide +kernel⟩, okw_in (pl := 1530) (by decide +kernel), okw_in (pl := 1531) (by decide +kernel), okw_in (pl := 1532) (by decide +kernel), xT8, 27, rfl⟩
set_option maxRecDepth 100000 in
theorem xlw17_s0 : ((xlw17).take 12).all (xveB xMs xLaw) = true := by decide +kernel
set_option maxRecDepth 100000 in
theorem xlw17_s1 : (((xlw17).drop 12).take 12).all (xveB xMs xLaw) = true := by decide +kernel
set_option maxRecDepth 100000 in
theorem xlw17_s2 : ((((xlw17).drop 12).drop 12).take 12).all (xveB xMs xLaw) = true := by decide +kernel
set_option maxRecDepth 100000 in
theorem xlw17_s3 : (((((xlw17).drop 12).drop 12).drop 12).take 8).all (xveB xMs xLaw) = true := by decide +kernel
set_option maxRecDepth 100000 in
theorem xlw17_s5 : (((((((xlw17).drop 12).drop 12).drop 12).drop 8).drop 1).take 3).all (xveB xMs xLaw) = true := by decide +kernel
set_option maxRecDepth 100000 in
theorem xlw17_s6 : (((((((xlw17).drop 12).drop 12).drop 12).drop 8).drop 1).drop 3).all (xveB xMs xLaw) = true := by decide +kernel
theorem xlw17_ve : ∀ e ∈ xlw17, xVE xMs xLaw e := xve_split 12 (xve_all xlw17_s0) (xve_split 12 (xve_all xlw17_s1) (xve_split 12 (xve_all xlw17_s2) (xve_split 8 (xve_all xlw17_s3) (xve_split 1 (fun e he => (List.mem_singleton.mp (show e ∈ [((2306, .invokevirtual 264, 3, [1, 36, 8, 65, 1533, 1530, 1531, 1532]) : XI)] from he)) ▸ xlw17_r) (xve_split 3 (xve_all xlw17_s5) (xve_all xlw17_s6))))))
end XU
end
section
/-! the tables, all along (by wip/p1/gen18.py) -/
section XG
theorem xpl_ok {ws : List Jvm.Cond} {ps : List Nat} (h : ws = ps.filterMap (xnth lw_tbl)) (h2 : ws.all (fun w => goodWord w || xngk w) = true) : ∀ w ∈ ws, w ∈ xTs ∨ w ∈ xNg := by
  intro w hw
  have h3 := List.all_eq_true.mp h2 w hw
  rw [h] at hw
  obtain ⟨i, -, hi⟩ := List.mem_filterMap.mp hw
  rw [xnth_eq] at hi
  rw [Bool.or_eq_true] at h3
  exact h3.imp (fun z => xTs_in hi z) (fun z => xNg_in hi z)
theorem xpl_ok1 {ws : List Jvm.Cond} {ps : List Nat} (h : ws = ps.filterMap (xnth lw_tbl)) (h2 : ws.all goodWord = true) : ∀ w ∈ ws, w ∈ xTs := by
  intro w hw
  have h3 := List.all_eq_true.mp h2 w hw
  rw [h] at hw
  obtain ⟨i, -, hi⟩ := List.mem_filterMap.mp hw
  rw [xnth_eq] at hi
  exact xTs_in hi h3
theorem xw_c0 : ∀ w ∈ u_ws "PackWright$Cache" xT0 4, w ∈ xTs := xpl_ok1 (ps := [243, 245, 247, 249]) (by decide +kernel) (by decide +kernel)
theorem xw_c1 : ∀ w ∈ u_ws "PackWright$Chains" xT1 4, w ∈ xTs := xpl_ok1 (ps := [190, 192, 194, 196]) (by decide +kernel) (by decide +kernel)
theorem xw_c2 : ∀ w ∈ u_ws "PackWright$Choice" xT2 2, w ∈ xTs := xpl_ok1 (ps := [126, 128]) (by decide +kernel) (by decide +kernel)
theorem xw_c3 : ∀ w ∈ u_ws "PackWright$Pack" xT3 3, w ∈ xTs := xpl_ok1 (ps := [757, 759, 761]) (by decide +kernel) (by decide +kernel)
theorem xw_c4 : ∀ w ∈ u_ws "PackWright$Plan" xT4 6, w ∈ xTs := xpl_ok1 (ps := [217, 219, 221, 223, 225, 227]) (by decide +kernel) (by decide +kernel)
theorem xw_c5 : ∀ w ∈ u_ws "PackWright$Resolver" xT5 11, w ∈ xTs := xpl_ok1 (ps := [156, 158, 160, 162, 164, 166, 168, 170, 172, 174, 176]) (by decide +kernel) (by decide +kernel)
theorem xw_c6 : ∀ w ∈ u_ws "PackWright$Wishes" xT6 2, w ∈ xTs := xpl_ok1 (ps := [105, 107]) (by decide +kernel) (by decide +kernel)
theorem xw_c7 : ∀ w ∈ u_ws "PackWright" xT7 13, w ∈ xTs := xpl_ok1 (ps := [265, 267, 269, 271, 273, 275, 277, 279, 281, 283, 285, 287, 289]) (by decide +kernel) (by decide +kernel)
theorem xw_c8 : ∀ w ∈ u_ws "PackWrightModel" xT8 27, w ∈ xTs := xpl_ok1 (ps := [1157, 1159, 1161, 1163, 1165, 1167, 1169, 1171, 1173, 1175, 1177, 1179, 1181, 1183, 1185, 1187, 1189, 1191, 1193, 1195, 1197, 1199, 1201, 1203, 1205, 1207, 1209]) (by decide +kernel) (by decide +kernel)
theorem xw_e0 : ∀ w ∈ xThr (exN 0), w ∈ xTs ∨ w ∈ xNg := xpl_ok (ps := [66, 610, 619, 623, 626, 628, 611, 612, 84, 85, 613, 618, 624, 644, 600, 645, 602, 646, 604, 614, 616, 606, 640, 641, 643, 606, 631, 632, 633, 634, 592, 634, 635, 636, 637, 594, 637, 638, 639, 640, 596, 589, 590, 597, 598, 599, 601, 603, 605, 609, 608, 607]) (by decide +kernel) (by decide +kernel)
theorem xw_k0 : Jvm.Cond.castable (exN 0) (exN 0) ∈ xNg := okn_in (pl := 590) (by decide +kernel)
theorem xw_e1 : ∀ w ∈ xThr (exN 1), w ∈ xTs ∨ w ∈ xNg := xpl_ok (ps := [66, 610, 619, 623, 626, 628, 611, 612, 84, 85, 613, 618, 624, 644, 600, 645, 602, 646, 604, 614, 616, 606, 640, 641, 643, 606, 790, 791, 792, 634, 592, 634, 635, 636, 637, 594, 637, 638, 639, 640, 596, 780, 781, 782, 621, 783, 784, 785, 786, 609, 608, 787]) (by decide +kernel) (by decide +kernel)
theorem xw_k1 : Jvm.Cond.castable (exN 1) (exN 1) ∈ xNg := okn_in (pl := 781) (by decide +kernel)
theorem xw_e2 : ∀ w ∈ xThr (exN 2), w ∈ xTs ∨ w ∈ xNg := xpl_ok (ps := [66, 610, 619, 623, 626, 628, 611, 612, 84, 85, 613, 618, 624, 644, 600, 645, 602, 646, 604, 614, 616, 606, 640, 641, 643, 606, 740, 741, 742, 634, 592, 634, 635, 636, 637, 594, 637, 638, 639, 640, 596, 730, 731, 732, 622, 733, 734, 735, 736, 609, 608, 737]) (by decide +kernel) (by decide +kernel)
theorem xw_k2 : Jvm.Cond.castable (exN 2) (exN 2) ∈ xNg := okn_in (pl := 731) (by decide +kernel)
theorem xThrOk_ok : xThrOk := by
  intro E hE
  match E, hE with
  | 0, _ => exact xw_e0
  | 1, _ => exact xw_e1
  | 2, _ => exact xw_e2
  | n + 3, h => omega
theorem xw_cl : ∀ q ∈ (classes : List vw_C), ∀ w ∈ u_ws q.1 q.2.1 q.2.2, w ∈ xTs := List.forall_mem_cons.mpr ⟨xw_c0, List.forall_mem_cons.mpr ⟨xw_c1, List.forall_mem_cons.mpr ⟨xw_c2, List.forall_mem_cons.mpr ⟨xw_c3, List.forall_mem_cons.mpr ⟨xw_c4, List.forall_mem_cons.mpr ⟨xw_c5, List.forall_mem_cons.mpr ⟨xw_c6, List.forall_mem_cons.mpr ⟨xw_c7, List.forall_mem_cons.mpr ⟨xw_c8, fun _ h => absurd h List.not_mem_nil⟩⟩⟩⟩⟩⟩⟩⟩⟩
theorem xGlob_ok : xGlob := by
  refine ⟨fun ci C T N h => xw_cl (C, T, N) (List.mem_of_getElem? h), fun E hE => ?_⟩
  match E, hE with
  | 0, _ => exact xw_k0
  | 1, _ => exact xw_k1
  | 2, _ => exact xw_k2
  | n + 3, h => omega
set_option maxRecDepth 20000 in
theorem xMs_ok : ∀ M ∈ xMs, xMok xMs xcls M := by
  unfold xMs
  exact List.forall_mem_cons.mpr ⟨xmokB_ok xm0_ok, List.forall_mem_cons.mpr ⟨xmokB_ok xm1_ok, List.forall_mem_cons.mpr ⟨xmokB_ok xm2_ok, List.forall_mem_cons.mpr ⟨xmokB_ok xm3_ok, List.forall_mem_cons.mpr ⟨xmokB_ok xm4_ok, List.forall_mem_cons.mpr ⟨xmokB_ok xm5_ok, List.forall_mem_cons.mpr ⟨xmokB_ok xm6_ok, List.forall_mem_cons.mpr ⟨xmokB_ok xm7_ok, List.forall_mem_cons.mpr ⟨xmokB_ok xm8_ok, List.forall_mem_cons.mpr ⟨xmokB_ok xm9_ok, List.forall_mem_cons.mpr ⟨xmokB_ok xm10_ok, List.forall_mem_cons.mpr ⟨xmokB_ok xm11_ok, List.forall_mem_cons.mpr ⟨xmokB_ok xm12_ok, List.forall_mem_cons.mpr ⟨xmokB_ok xm13_ok, List.forall_mem_cons.mpr ⟨xmokB_ok xm14_ok, List.forall_mem_cons.mpr ⟨xmokB_ok xm15_ok, List.forall_mem_cons.mpr ⟨xmokB_ok xm16_ok, List.forall_mem_cons.mpr ⟨xmokB_ok xm17_ok, List.forall_mem_cons.mpr ⟨xmokB_ok xm18_ok, List.forall_mem_cons.mpr ⟨xmokB_ok xm19_ok, List.forall_mem_cons.mpr ⟨xmokB_ok xm20_ok, List.forall_mem_cons.mpr ⟨xmokB_ok xm21_ok, List.forall_mem_cons.mpr ⟨xmokB_ok xm22_ok, List.forall_mem_cons.mpr ⟨xmokB_ok xm23_ok, List.forall_mem_cons.mpr ⟨xmokB_ok xm24_ok, List.forall_mem_cons.mpr ⟨xmokB_ok xm25_ok, List.forall_mem_cons.mpr ⟨xmokB_ok xm26_ok, List.forall_mem_cons.mpr ⟨xmokB_ok xm27_ok, List.forall_mem_cons.mpr ⟨xmokB_ok xm28_ok, List.forall_mem_cons.mpr ⟨xmokB_ok xm29_ok, List.forall_mem_cons.mpr ⟨xmokB_ok xm30_ok, List.forall_mem_cons.mpr ⟨xmokB_ok xm31_ok, List.forall_mem_cons.mpr ⟨xmokB_ok xm32_ok, List.forall_mem_cons.mpr ⟨xmokB_ok xm33_ok, List.forall_mem_cons.mpr ⟨xmokB_ok xm34_ok, List.forall_mem_cons.mpr ⟨xmokB_ok xm35_ok, List.forall_mem_cons.mpr ⟨xmokB_ok xm36_ok, List.forall_mem_cons.mpr ⟨xmokB_ok xm37_ok, List.forall_mem_cons.mpr ⟨xmokB_ok xm38_ok, List.forall_mem_cons.mpr ⟨xmokB_ok xm39_ok, List.forall_mem_cons.mpr ⟨xmokB_ok xm40_ok, List.forall_mem_cons.mpr ⟨xmokB_ok xm41_ok, List.forall_mem_cons.mpr ⟨xmokB_ok xm42_ok, List.forall_mem_cons.mpr ⟨xmokB_ok xm43_ok, List.forall_mem_cons.mpr ⟨xmokB_ok xm44_ok, List.forall_mem_cons.mpr ⟨xmokB_ok xm45_ok, List.forall_mem_cons.mpr ⟨xmokB_ok xm46_ok, List.forall_mem_cons.mpr ⟨xmokB_ok xm47_ok, List.forall_mem_cons.mpr ⟨xmokB_ok xm48_ok, List.forall_mem_cons.mpr ⟨xmokB_ok xm49_ok, List.forall_mem_cons.mpr ⟨xmokB_ok xm50_ok, List.forall_mem_cons.mpr ⟨xmokB_ok xm51_ok, List.forall_mem_cons.mpr ⟨xmokB_ok xm52_ok, List.forall_mem_cons.mpr ⟨xmokB_ok xm53_ok, List.forall_mem_cons.mpr ⟨xmokB_ok xm54_ok, List.forall_mem_cons.mpr ⟨xmokB_ok xm55_ok, List.forall_mem_cons.mpr ⟨xmokB_ok xm56_ok, List.forall_mem_cons.mpr ⟨xmokB_ok xm57_ok, List.forall_mem_cons.mpr ⟨xmokB_ok xm58_ok, List.forall_mem_cons.mpr ⟨xmokB_ok xm59_ok, List.forall_mem_cons.mpr ⟨xmokB_ok xm60_ok, List.forall_mem_cons.mpr ⟨xmokB_ok xm61_ok, List.forall_mem_cons.mpr ⟨xmokB_ok xm62_ok, List.forall_mem_cons.mpr ⟨xmokB_ok xm63_ok, List.forall_mem_cons.mpr ⟨xmokB_ok xm64_ok, List.forall_mem_cons.mpr ⟨xmokB_ok xm65_ok, List.forall_mem_cons.mpr ⟨xmokB_ok xm66_ok, List.forall_mem_cons.mpr ⟨xmokB_ok xm67_ok, List.forall_mem_cons.mpr ⟨xmokB_ok xm68_ok, List.forall_mem_cons.mpr ⟨xmokB_ok xm69_ok, List.forall_mem_cons.mpr ⟨xmokB_ok xm70_ok, List.forall_mem_cons.mpr ⟨xmokB_ok xm71_ok, List.forall_mem_cons.mpr ⟨xmokB_ok xm72_ok, List.forall_mem_cons.mpr ⟨xmokB_ok xm73_ok, List.forall_mem_cons.mpr ⟨xmokB_ok xm74_ok, List.forall_mem_cons.mpr ⟨xmokB_ok xm75_ok, List.forall_mem_cons.mpr ⟨xmokB_ok xm76_ok, List.forall_mem_cons.mpr ⟨xmokB_ok xm77_ok, List.forall_mem_cons.mpr ⟨xmokB_ok xm78_ok, List.forall_mem_cons.mpr ⟨xmokB_ok xm79_ok, List.forall_mem_cons.mpr ⟨xmokB_ok xm80_ok, List.forall_mem_cons.mpr ⟨xmokB_ok xm81_ok, List.forall_mem_cons.mpr ⟨xmokB_ok xm82_ok, List.forall_mem_cons.mpr ⟨xmokB_ok xm83_ok, List.forall_mem_cons.mpr ⟨xmokB_ok xm84_ok, List.forall_mem_cons.mpr ⟨xmokB_ok xm85_ok, List.forall_mem_cons.mpr ⟨xmokB_ok xm86_ok, List.forall_mem_cons.mpr ⟨xmokB_ok xm87_ok, List.forall_mem_cons.mpr ⟨xmokB_ok xm88_ok, List.forall_mem_cons.mpr ⟨xmokB_ok xm89_ok, List.forall_mem_cons.mpr ⟨xmokB_ok xm90_ok, List.forall_mem_cons.mpr ⟨xmokB_ok xm91_ok, List.forall_mem_cons.mpr ⟨xmokB_ok xm92_ok, List.forall_mem_cons.mpr ⟨xmokB_ok xm93_ok, List.forall_mem_cons.mpr ⟨xmokB_ok xm94_ok, List.forall_mem_cons.mpr ⟨xmokB_ok xm95_ok, List.forall_mem_cons.mpr ⟨xmokB_ok xm96_ok, List.forall_mem_cons.mpr ⟨xmokB_ok xm97_ok, List.forall_mem_cons.mpr ⟨xmokB_ok xm98_ok, List.forall_mem_cons.mpr ⟨xmokB_ok xm99_ok, List.forall_mem_cons.mpr ⟨xmokB_ok xm100_ok, List.forall_mem_cons.mpr ⟨xmokB_ok xm101_ok, List.forall_mem_cons.mpr ⟨xmokB_ok xm102_ok, List.forall_mem_cons.mpr ⟨xmokB_ok xm103_ok, List.forall_mem_cons.mpr ⟨xmokB_ok xm104_ok, List.forall_mem_cons.mpr ⟨xmokB_ok xm105_ok, List.forall_mem_cons.mpr ⟨xmokB_ok xm106_ok, List.forall_mem_cons.mpr ⟨xmokB_ok xm107_ok, List.forall_mem_cons.mpr ⟨xmokB_ok xm108_ok, List.forall_mem_cons.mpr ⟨xmokB_ok xm109_ok, List.forall_mem_cons.mpr ⟨xmokB_ok xm110_ok, List.forall_mem_cons.mpr ⟨xmokB_ok xm111_ok, List.forall_mem_cons.mpr ⟨xmokB_ok xm112_ok, List.forall_mem_cons.mpr ⟨xmokB_ok xm113_ok, List.forall_mem_cons.mpr ⟨xmokB_ok xm114_ok, List.forall_mem_cons.mpr ⟨xmokB_ok xm115_ok, List.forall_mem_cons.mpr ⟨xmokB_ok xm116_ok, List.forall_mem_cons.mpr ⟨xmokB_ok xm117_ok, List.forall_mem_cons.mpr ⟨xmokB_ok xm118_ok, List.forall_mem_cons.mpr ⟨xmokB_ok xm119_ok, List.forall_mem_cons.mpr ⟨xmokB_ok xm120_ok, List.forall_mem_cons.mpr ⟨xmokB_ok xm121_ok, List.forall_mem_cons.mpr ⟨xmokB_ok xm122_ok, List.forall_mem_cons.mpr ⟨xmokB_ok xm123_ok, List.forall_mem_cons.mpr ⟨xmokB_ok xm124_ok, List.forall_mem_cons.mpr ⟨xmokB_ok xm125_ok, List.forall_mem_cons.mpr ⟨xmokB_ok xm126_ok, List.forall_mem_cons.mpr ⟨xmokB_ok xm127_ok, List.forall_mem_cons.mpr ⟨xmokB_ok xm128_ok, List.forall_mem_cons.mpr ⟨xmokB_ok xm129_ok, List.forall_mem_cons.mpr ⟨xmokB_ok xm130_ok, List.forall_mem_cons.mpr ⟨xmokB_ok xm131_ok, List.forall_mem_cons.mpr ⟨xmokB_ok xm132_ok, List.forall_mem_cons.mpr ⟨xmokB_ok xm133_ok, List.forall_mem_cons.mpr ⟨xmokB_ok xm134_ok, List.forall_mem_cons.mpr ⟨xmokB_ok xm135_ok, List.forall_mem_cons.mpr ⟨xmokB_ok xm136_ok, List.forall_mem_cons.mpr ⟨xmokB_ok xm137_ok, List.forall_mem_cons.mpr ⟨xmokB_ok xm138_ok, List.forall_mem_cons.mpr ⟨xmokB_ok xm139_ok, List.forall_mem_cons.mpr ⟨xmokB_ok xm140_ok, List.forall_mem_cons.mpr ⟨xmokB_ok xm141_ok, List.forall_mem_cons.mpr ⟨xmokB_ok xm142_ok, List.forall_mem_cons.mpr ⟨xmokB_ok xm143_ok, List.forall_mem_cons.mpr ⟨xmokB_ok xm144_ok, List.forall_mem_cons.mpr ⟨xmokB_ok xm145_ok, List.forall_mem_cons.mpr ⟨xmokB_ok xm146_ok, List.forall_mem_cons.mpr ⟨xmokB_ok xm147_ok, List.forall_mem_cons.mpr ⟨xmokB_ok xm148_ok, List.forall_mem_cons.mpr ⟨xmokB_ok xm149_ok, List.forall_mem_cons.mpr ⟨xmokB_ok xm150_ok, List.forall_mem_cons.mpr ⟨xmokB_ok xm151_ok, List.forall_mem_cons.mpr ⟨xmokB_ok xm152_ok, List.forall_mem_cons.mpr ⟨xmokB_ok xm153_ok, List.forall_mem_cons.mpr ⟨xmokB_ok xm154_ok, List.forall_mem_cons.mpr ⟨xmokB_ok xm155_ok, List.forall_mem_cons.mpr ⟨xmokB_ok xm156_ok, List.forall_mem_cons.mpr ⟨xmokB_ok xm157_ok, List.forall_mem_cons.mpr ⟨xmokB_ok xm158_ok, List.forall_mem_cons.mpr ⟨xmokB_ok xm159_ok, List.forall_mem_cons.mpr ⟨xmokB_ok xm160_ok, List.forall_mem_cons.mpr ⟨xmokB_ok xm161_ok, List.forall_mem_cons.mpr ⟨xmokB_ok xm162_ok, List.forall_mem_cons.mpr ⟨xmokB_ok xm163_ok, List.forall_mem_cons.mpr ⟨xmokB_ok xm164_ok, List.forall_mem_cons.mpr ⟨xmokB_ok xm165_ok, List.forall_mem_cons.mpr ⟨xmokB_ok xm166_ok, List.forall_mem_cons.mpr ⟨xmokB_ok xm167_ok, List.forall_mem_cons.mpr ⟨xmokB_ok xm168_ok, List.forall_mem_cons.mpr ⟨xmokB_ok xm169_ok, List.forall_mem_cons.mpr ⟨xmokB_ok xm170_ok, List.forall_mem_cons.mpr ⟨xmokB_ok xm171_ok, List.forall_mem_cons.mpr ⟨xmokB_ok xm172_ok, List.forall_mem_cons.mpr ⟨xmokB_ok xm173_ok, List.forall_mem_cons.mpr ⟨xmokB_ok xm174_ok, List.forall_mem_cons.mpr ⟨xmokB_ok xm175_ok, List.forall_mem_cons.mpr ⟨xmokB_ok xm176_ok, List.forall_mem_cons.mpr ⟨xmokB_ok xm177_ok, fun _ h => absurd h List.not_mem_nil⟩⟩⟩⟩⟩⟩⟩⟩⟩⟩⟩⟩⟩⟩⟩⟩⟩⟩⟩⟩⟩⟩⟩⟩⟩⟩⟩⟩⟩⟩⟩⟩⟩⟩⟩⟩⟩⟩⟩⟩⟩⟩⟩⟩⟩⟩⟩⟩⟩⟩⟩⟩⟩⟩⟩⟩⟩⟩⟩⟩⟩⟩⟩⟩⟩⟩⟩⟩⟩⟩⟩⟩⟩⟩⟩⟩⟩⟩⟩⟩⟩⟩⟩⟩⟩⟩⟩⟩⟩⟩⟩⟩⟩⟩⟩⟩⟩⟩⟩⟩⟩⟩⟩⟩⟩⟩⟩⟩⟩⟩⟩⟩⟩⟩⟩⟩⟩⟩⟩⟩⟩⟩⟩⟩⟩⟩⟩⟩⟩⟩⟩⟩⟩⟩⟩⟩⟩⟩⟩⟩⟩⟩⟩⟩⟩⟩⟩⟩⟩⟩⟩⟩⟩⟩⟩⟩⟩⟩⟩⟩⟩⟩⟩⟩⟩⟩⟩⟩⟩⟩⟩⟩⟩⟩⟩⟩⟩⟩
set_option maxRecDepth 20000 in
theorem xlwc_ok : ∀ e ∈ xmC xLaw, xVE xMs xLaw e := by
  show ∀ e ∈ xlwc, xVE xMs xLaw e
  unfold xlwc
  exact List.forall_mem_append.mpr ⟨fun e he => xveB_ok (List.all_eq_true.mp xlw0_ok e he), List.forall_mem_append.mpr ⟨fun e he => xveB_ok (List.all_eq_true.mp xlw1_ok e he), List.forall_mem_append.mpr ⟨fun e he => xveB_ok (List.all_eq_true.mp xlw2_ok e he), List.forall_mem_append.mpr ⟨fun e he => xveB_ok (List.all_eq_true.mp xlw3_ok e he), List.forall_mem_append.mpr ⟨fun e he => xveB_ok (List.all_eq_true.mp xlw4_ok e he), List.forall_mem_append.mpr ⟨fun e he => xveB_ok (List.all_eq_true.mp xlw5_ok e he), List.forall_mem_append.mpr ⟨fun e he => xveB_ok (List.all_eq_true.mp xlw6_ok e he), List.forall_mem_append.mpr ⟨fun e he => xveB_ok (List.all_eq_true.mp xlw7_ok e he), List.forall_mem_append.mpr ⟨fun e he => xveB_ok (List.all_eq_true.mp xlw8_ok e he), List.forall_mem_append.mpr ⟨fun e he => xveB_ok (List.all_eq_true.mp xlw9_ok e he), List.forall_mem_append.mpr ⟨fun e he => xveB_ok (List.all_eq_true.mp xlw10_ok e he), List.forall_mem_append.mpr ⟨fun e he => xveB_ok (List.all_eq_true.mp xlw11_ok e he), List.forall_mem_append.mpr ⟨fun e he => xveB_ok (List.all_eq_true.mp xlw12_ok e he), List.forall_mem_append.mpr ⟨fun e he => xveB_ok (List.all_eq_true.mp xlw13_ok e he), List.forall_mem_append.mpr ⟨fun e he => xveB_ok (List.all_eq_true.mp xlw14_ok e he), List.forall_mem_append.mpr ⟨fun e he => xveB_ok (List.all_eq_true.mp xlw15_ok e he), List.forall_mem_append.mpr ⟨fun e he => xveB_ok (List.all_eq_true.mp xlw16_ok e he), xlw17_ve⟩⟩⟩⟩⟩⟩⟩⟩⟩⟩⟩⟩⟩⟩⟩⟩⟩
theorem xltab_ok : xTabOk xcls xLaw := fun q hq => absurd hq List.not_mem_nil
end XG
end
section
/-! the law, run -/
section XK
def xpe0 : XP := [(-2147483648, 2147483647), (-2147483648, 2147483647), (-2147483648, 2147483647), (-2147483648, 2147483647), (-2147483648, 2147483647), (-2147483648, 2147483647), (-2147483648, 2147483647), (-2147483648, 2147483647), (-2147483648, 2147483647), (0, 63)]
/-- the law's own end: 1 on the stack, within its room -/
def xgoE (lf : XLf) : Bool :=
  match lf with
  | (0, _, (_, .ireturn, _, _), _, [.int x], (_, _, _, ce, sl)) => decide (x = 1) && (Nat.ble ce 600002 && Nat.ble sl 7302232)
  | _ => false
noncomputable def xgoL (L : Nat) (pe : XP) : Bool :=
  match xrun xMs xcls (some L) xLaw (xmeth xMs xcls 12) 100000 (xfind (xmC xLaw) 0) [(0, .retAddr 0)] [] (pe, [], 0, 0, 0) with
  | some ls => ls.all xgoE
  | none => false
set_option maxRecDepth 100000 in
theorem xgo0 : xgoL 0 xpe0 = true := by decide +kernel
set_option maxRecDepth 100000 in
theorem xgo1 : xgoL 1 xpe0 = true := by decide +kernel
set_option maxRecDepth 100000 in
theorem xgo2 : xgoL 2 xpe0 = true := by decide +kernel
set_option maxRecDepth 100000 in
theorem xgo3 : xgoL 3 xpe0 = true := by decide +kernel
set_option maxRecDepth 100000 in
theorem xgo4 : xgoL 4 xpe0 = true := by decide +kernel
set_option maxRecDepth 100000 in
theorem xgo5 : xgoL 5 xpe0 = true := by decide +kernel
set_option maxRecDepth 100000 in
theorem xgo6 : xgoL 6 xpe0 = true := by decide +kernel
set_option maxRecDepth 100000 in
theorem xgo7 : xgoL 7 xpe0 = true := by decide +kernel
set_option maxRecDepth 100000 in
theorem xgo8 : xgoL 8 xpe0 = true := by decide +kernel
set_option maxRecDepth 100000 in
theorem xgo9 : xgoL 9 xpe0 = true := by decide +kernel
theorem xgo_all : ∀ L, L ≤ 9 → xgoL L xpe0 = true
  | 0, _ => xgo0
  | 1, _ => xgo1
  | 2, _ => xgo2
  | 3, _ => xgo3
  | 4, _ => xgo4
  | 5, _ => xgo5
  | 6, _ => xgo6
  | 7, _ => xgo7
  | 8, _ => xgo8
  | 9, _ => xgo9
  | n + 10, h => by omega
end XK
end
section
/-! the start of the law (by wip/p1/gen20.py) -/
/-! THE CLAIM OUT OF ONE WALK OF THE LAW'S BODY. Your part is whole_start (and what it stands on); all else here is the same for every law, but numbers. -/
def R_law : String := "PackWrightLaw"
def lw_P (b : Addr) (xs : List Int32) (args : Array Value) (s : State) : Prop := args = #[.ref b] ∧ s.IntsAt b xs ∧ xs.length ≤ 9 ∧ (Jvm.Cond.and given_1 narrow_1).before args s = true
/-- what a walk over the start with the record d0 says of its end, said of the start itself -/
theorem lw_closed {s t : State} {o : Outcome} {d0 : Drawn} {L : List Loc} {k n : Nat} (hd0 : s.drawn.sameBut d0 lw_cs) (hv : ∃ v, o = .returned v) (hW : (s.setDrawn d0).WarmedH t.vm) (hs : (s.setDrawn d0).sameButNew ({ t with vm := s.vm } : State) L k n) : State.butDraws s t lw_cs (fun t1 => Framed s o t1 L k n) := by
  have h2 : t.drawn = d0 := congrArg State.drawn hs.1
  refine ⟨⟨hv, hW, State.sameButNew.setDrawn hs s.drawn⟩, ?_, by decide⟩
  rw [h2]
  exact hd0
def lw_Q (_ : Array Value) (s : State) (o : Outcome) (t : State) : Prop := o = .returned (some (.int 1)) ∧ State.butDraws s t lw_cs (fun t1 => Framed s o t1 [] 600002 7302232)
def lw_Z (below : List Frame) (a : Array Value) (s : State) : State → Prop := fun t => ∃ o, t.status = .running ∧ Ended t below o ∧ lw_Q a s o t
/-- the law's own end, with 1 on the stack, nothing written that was there before, its room as the claim has it; d0: the record of draws at this point (at the entry s.drawn: begin with 'refine W.base ?_' and 'have hd0 := Drawn.sameBut.refl s.drawn lw_cs') -/
theorem lw_ret {p : Program} {l : Launch} {e : Env} {s : State} {m : MethodId} {below : List Frame} {meth : Method} {c : Code} {b : Nat} {d0 : Drawn} (hd0 : s.drawn.sameBut d0 lw_cs) (hx : p.tables.exec = Jvm.exec) (hb : c.code = code) (hr : meth.sig.returnType = ret) (hlocks : meth.locks = false) {pc : Nat} {H : Heap} {ls : Array Slot} (hdg : decode code pc = .ok (.ireturn, 1)) : W p l e room_1 (s.setDrawn d0) m #[Value.ref b] below meth c H [] 600002 7302232 (lw_Z below #[Value.ref b] s) (F0 m pc ls [.int 1]) := by
  intro T hT X
  obtain ⟨fs, hret, hrun, hended, hW, hframe⟩ := X.leave (v := some (.int 1)) (hlocks := hlocks) (fun h => by rw [hr] at h; cases h)
  have hmeth' : T.vm.method? m = some meth := X.method'
  refine ⟨T.setFrames fs, ?_, .returned (some (.int 1)), hrun, hended, rfl, lw_closed hd0 ⟨_, rfl⟩ hW hframe⟩
  jvm_step X.here [X.here.top, hx, hb, hdg, hmeth', hr, ret, narrow_b1]
  (try refine ⟨rfl, ?_⟩); (try refine ⟨rfl, ?_⟩)
  first | (intro acts; rw [hret _ acts rfl rfl rfl]) | rw [hret _ _ rfl rfl rfl]
  exact Steps.refl _
/-- what holds at the law's entry: the machine, the code, the tables' words (any of lw_tbl by 'hts w (by decide +kernel)'), the script of L ints xs at the cell b, what the Statement gives of the start (any of its parts by flat_of_before) -/
def lw_At (p : Program) (s : State) (m : MethodId) (meth : Method) (c : Code) (b L : Nat) (xs : Nat → Int32) : Prop :=
  p.tables.exec = Jvm.exec ∧ c.code = code ∧ meth.sig.returnType = ret ∧ c.maxLocals = 9 ∧ s.vm.findClass R_law = some m.cls ∧ (∀ w ∈ lw_tbl, w.before #[Value.ref b] s = true) ∧ va_X b L xs s s.heap ∧ b < s.heap.size ∧ meth.locks = false ∧ (Jvm.Cond.and given_1 narrow_1).before #[Value.ref b] s = true
section XS
def xInst : List (String × Nat) := [("PackWright$Cache", 4), ("PackWright$Chains", 4), ("PackWright$Choice", 2), ("PackWright$Pack", 3), ("PackWright$Plan", 6), ("PackWright$Resolver", 11), ("PackWright$Wishes", 2), ("PackWright", 13), ("PackWrightModel", 27)]
theorem xinst_ok : ∀ q ∈ (classes : List vw_C), Jvm.Cond.instantiable q.1 q.2.2 ∈ lw_tbl := List.forall_mem_cons.mpr ⟨List.mem_of_getElem? (i := 231) (by decide +kernel), List.forall_mem_cons.mpr ⟨List.mem_of_getElem? (i := 180) (by decide +kernel), List.forall_mem_cons.mpr ⟨List.mem_of_getElem? (i := 111) (by decide +kernel), List.forall_mem_cons.mpr ⟨List.mem_of_getElem? (i := 745) (by decide +kernel), List.forall_mem_cons.mpr ⟨List.mem_of_getElem? (i := 200) (by decide +kernel), List.forall_mem_cons.mpr ⟨List.mem_of_getElem? (i := 133) (by decide +kernel), List.forall_mem_cons.mpr ⟨List.mem_of_getElem? (i := 89) (by decide +kernel), List.forall_mem_cons.mpr ⟨List.mem_of_getElem? (i := 79) (by decide +kernel), List.forall_mem_cons.mpr ⟨List.mem_of_getElem? (i := 1116) (by decide +kernel), fun _ h => absurd h List.not_mem_nil⟩⟩⟩⟩⟩⟩⟩⟩⟩
theorem xstrs_ok : xStr.all (fun q => decide (Jvm.Cond.exactly (Term.string "PackWright" q.1) "java/lang/String" ∈ flatC (Jvm.Cond.and given_1 narrow_1))) = true := by decide +kernel
theorem xstr_in {q : Nat × String} (h : q ∈ xStr) : Jvm.Cond.stringRef "PackWright" q.1 q.2 ∈ lw_tbl := by
  unfold xStr at h
  obtain ⟨w, hw, h2⟩ := List.mem_filterMap.mp h
  split at h2
  · cases h2; exact hw
  · cases h2
theorem xraI {s : State} {args : Array Value} {ty : FieldType} (hty : ty = .int ∨ ty = .boolean ∨ ty = .long) (h : (Jvm.Cond.arrayClass ty).before args s = true) : ∃ c : ClassId, ArrOfT s c ty ∧ va_RA s c ty := by
  obtain ⟨c, k, comp, h1, h2, h3⟩ := Cond.arrayClass_spec h
  refine ⟨c, fun n z => ⟨fun k h => (by cases h), k, h2, comp, h3⟩, ?_⟩
  rcases hty with rfl | rfl | rfl <;> exact h1
theorem xraO {s : State} {args : Array Value} {C : String} (h : (Jvm.Cond.arrayOver (.object C)).before args s = true) : ∃ c : ClassId, ArrOfT s c (.object C) ∧ va_RA s c (.object C) := by
  obtain ⟨comp, c, k, h1, -, h3, h4, h5⟩ := Cond.arrayOver_spec h
  exact ⟨c, fun n z => ⟨fun k h => (by cases h), k, h3, comp, h4⟩, k, comp, h3, h4, h1, h5⟩
def xsA (xs : Nat → Int32) (j : Nat) : Int32 := if j < 9 then xs j else xs (j - 9) &&& 63
theorem xsat0 (xs : Nat → Int32) : xsat (xsA xs) xpe0 := by
  have lo : ∀ x : Int32, (-2147483648 : Int) ≤ x.toInt ∧ x.toInt ≤ 2147483647 := fun x => by
    have h1 := Int32.le_toInt x
    have h2 := Int32.toInt_lt x
    omega
  intro i q h
  match i, h with
  | 0, h => cases h; exact lo _
  | 1, h => cases h; exact lo _
  | 2, h => cases h; exact lo _
  | 3, h => cases h; exact lo _
  | 4, h => cases h; exact lo _
  | 5, h => cases h; exact lo _
  | 6, h => cases h; exact lo _
  | 7, h => cases h; exact lo _
  | 8, h => cases h; exact lo _
  | 9, h =>
    cases h
    obtain ⟨j, hj, e⟩ := pk_andE (xs 0) (m := 63) 6 (by decide)
    show (0 : Int) ≤ (xs 0 &&& 63).toInt ∧ (xs 0 &&& 63).toInt ≤ 63
    rw [e, nI_toInt (by omega)]
    omega
  | n + 10, h => exact absurd h (by simp [xpe0])
theorem xmask (xs : Nat → Int32) : ∀ i, i < 9 → xsA xs (i + 9) = xsA xs i &&& 63 := fun i hi => by
  unfold xsA
  rw [if_neg (by omega), if_pos hi, Nat.add_sub_cancel]
theorem xnc_in {s : State} {args : Array Value} (hs : ∀ c ∈ flatC (Jvm.Cond.and given_1 narrow_1), c.before args s = true) : ∀ i j, i ≤ 2 → j ≤ 2 → i ≠ j → va_Nc (exN i) (exN j) s := by
  intro i j hi hj hn
  match i, j, hi, hj, hn with
  | 0, 1, _, _, _ => exact va_Nc.of (hs (Jvm.Cond.not (Jvm.Cond.castable (exN 0) (exN 1))) (by decide +kernel))
  | 0, 2, _, _, _ => exact va_Nc.of (hs (Jvm.Cond.not (Jvm.Cond.castable (exN 0) (exN 2))) (by decide +kernel))
  | 1, 0, _, _, _ => exact va_Nc.of (hs (Jvm.Cond.not (Jvm.Cond.castable (exN 1) (exN 0))) (by decide +kernel))
  | 1, 2, _, _, _ => exact va_Nc.of (hs (Jvm.Cond.not (Jvm.Cond.castable (exN 1) (exN 2))) (by decide +kernel))
  | 2, 0, _, _, _ => exact va_Nc.of (hs (Jvm.Cond.not (Jvm.Cond.castable (exN 2) (exN 0))) (by decide +kernel))
  | 2, 1, _, _, _ => exact va_Nc.of (hs (Jvm.Cond.not (Jvm.Cond.castable (exN 2) (exN 1))) (by decide +kernel))
  | 0, 0, _, _, h => exact absurd rfl h
  | 1, 1, _, _, h => exact absurd rfl h
  | 2, 2, _, _, h => exact absurd rfl h
  | n + 3, _, h, _, _ => omega
  | _, n + 3, _, h, _ => omega
/-- the tables at the start -/
theorem xsta0 {s : State} {b : Nat} (hts : ∀ w ∈ lw_tbl, w.before #[Value.ref b] s = true) (hgv : (Jvm.Cond.and given_1 narrow_1).before #[Value.ref b] s = true) : ∃ (D : va_G) (aC : Nat → ClassId), xSta D aC (fun q => s.heap.size ≤ q) s := by
  have hs := flat_of_before _ hgv
  have hT : ∀ w ∈ xTs, w.before #[Value.ref b] s = true := fun w hw => hts w (List.mem_filter.mp hw).1
  have hk : ∀ c : Nat, ∃ z : ClassId × (Nat → Nat), ∀ q : vw_C, (classes : List vw_C)[c]? = some q → u_Kn s q.1 q.2.1 q.2.2 z.1 z.2 := by
    intro c
    cases hc : (classes : List vw_C)[c]? with
    | none => exact ⟨(0, fun _ => 0), fun q h => nomatch h⟩
    | some q =>
      have hq := List.mem_of_getElem? hc
      obtain ⟨cC, iS, h⟩ := u_known (C := q.1) (T := q.2.1) (N := q.2.2) (n := q.2.2) hT (xw_cl q hq) (hts _ (xinst_ok q hq))
      exact ⟨(cC, iS), fun q9 h9 => by cases h9; exact h⟩
  obtain ⟨f, hf⟩ := Classical.axiomOfChoice hk
  have w3 : (Jvm.Cond.arrayOver (.object "PackWright$Version")).before #[Value.ref b] s = true := hts _ (List.mem_of_getElem? (i := 117) (by decide +kernel))
  have w4 : (Jvm.Cond.arrayOver (.object "PackWright$Pack")).before #[Value.ref b] s = true := hts _ (List.mem_of_getElem? (i := 87) (by decide +kernel))
  have w5 : (Jvm.Cond.arrayOver (.object "PackWright$Claim")).before #[Value.ref b] s = true := hts _ (List.mem_of_getElem? (i := 95) (by decide +kernel))
  obtain ⟨c0, h0⟩ := xraI (ty := .int) (Or.inl rfl) (hts _ (List.mem_of_getElem? (i := 131) (by decide +kernel)))
  obtain ⟨c1, h1⟩ := xraI (ty := .boolean) (Or.inr (Or.inl rfl)) (hts _ (List.mem_of_getElem? (i := 1212) (by decide +kernel)))
  obtain ⟨c2, h2⟩ := xraI (ty := .long) (Or.inr (Or.inr rfl)) (hts _ (List.mem_of_getElem? (i := 1536) (by decide +kernel)))
  obtain ⟨c3, h3⟩ := xraO w3
  obtain ⟨c4, h4⟩ := xraO w4
  obtain ⟨c5, h5⟩ := xraO w5
  refine ⟨(fun c => (f c).1, fun c => (f c).2), fun ti => match ti with | 0 => c0 | 1 => c1 | 2 => c2 | 3 => c3 | 4 => c4 | _ => c5, ⟨fun c q h => hf c q h, fun k q h => ?_⟩, ?_, ?_, ?_, ?_, ?_, ?_, xnc_in hs⟩
  · match k, h with
    | 0, h => cases h; exact h0
    | 1, h => cases h; exact h1
    | 2, h => cases h; exact h2
    | 3, h => cases h; exact h3
    | 4, h => cases h; exact h4
    | 5, h => cases h; exact h5
    | n + 6, h => exact absurd h (by simp [xtys])
  · exact fun w hw => va_Nw.of (xng_tab (List.mem_filter.mp hw).2) (hts w (List.mem_filter.mp hw).1)
  · intro ti C hti hC
    match ti, hti, hC with
    | 0, _, hC => cases hC
    | 1, _, hC => cases hC
    | 2, _, hC => cases hC
    | 3, _, hC => cases hC; exact w3
    | 4, _, hC => cases hC; exact w4
    | 5, _, hC => cases hC; exact w5
    | n + 6, h, _ => omega
  · intro ty hty
    rcases hty with rfl | rfl | rfl
    · exact hts (Jvm.Cond.arrayOver (.array .int)) (List.mem_of_getElem? (i := 1122) (by decide +kernel))
    · exact hts (Jvm.Cond.arrayOver (.array .boolean)) (List.mem_of_getElem? (i := 1124) (by decide +kernel))
    · exact hts (Jvm.Cond.arrayOver (.array (.array .int))) (List.mem_of_getElem? (i := 1126) (by decide +kernel))
  · intro q hq
    have he : (Jvm.Cond.exactly (Term.string "PackWright" q.1) "java/lang/String").before #[Value.ref b] s = true := hs _ (of_decide_eq_true (List.all_eq_true.mp xstrs_ok q hq))
    obtain ⟨a, -, -, -, ha, -⟩ := Cond.exactly_spec he
    exact ⟨a, vk_R.of (hts _ (xstr_in hq)) ha⟩
  · exact vx_Zqof (hts _ (List.mem_of_getElem? (i := 615) (by decide +kernel))) (hts _ (List.mem_of_getElem? (i := 66) (by decide +kernel))) (hs _ (by decide +kernel)) (fun a h1 h2 => absurd h2 (Nat.not_le.mpr h1))
  · exact vx_Zqof (hts _ (List.mem_of_getElem? (i := 617) (by decide +kernel))) (hts _ (List.mem_of_getElem? (i := 66) (by decide +kernel))) (hs _ (by decide +kernel)) (fun a h1 h2 => absurd h2 (Nat.not_le.mpr h1))
theorem whole_start {p : Program} {e : Env} {s : State} {m : MethodId} {below : List Frame} {meth : Method} {c : Code} (l : Launch) (hflags : l.flags = flags0) {b L : Nat} {xs : Nat → Int32} (hL : L ≤ 9) (C0 : lw_At p s m meth c b L xs) : W p l e room_1 s m #[Value.ref b] below meth c s.heap [] 0 0 (lw_Z below #[Value.ref b] s) (entryFrame m ([Value.ref b] : List Value).toArray 9) := by
  obtain ⟨hx, hb, hr, hml, hown, hts, hX, hbl, hlocks, hgv⟩ := C0
  obtain ⟨D, aC, hSta⟩ := xsta0 hts hgv
  have hl : l.stackTraces = false := by
    unfold Launch.stackTraces
    rw [hflags]
    decide +kernel
  have hX2 : va_X b L (xsA xs) s s.heap := by
    obtain ⟨scr, g1, g2, g3, g4, g5⟩ := hX
    exact ⟨scr, g1, g2, g3, g4, fun j hj => by rw [g5 j hj]; unfold xsA; rw [if_pos (by omega)]⟩
  have C : xCtx p l s m #[Value.ref b] meth c xLaw D aC (fun q => s.heap.size ≤ q) (xsA xs) b (some L) :=
    ⟨hx, hb, hml, hr, hown, fun w hw => hts w (List.mem_filter.mp hw).1, hlocks, fun h => absurd h (by decide), (fun h => by rcases h with h | h; cases h; exact absurd rfl h), hSta, fun q h => h, (fun L9 h9 => by cases h9; exact ⟨hX2, hbl, Nat.not_le.mpr hbl⟩), hl, xmask xs⟩
  have hcf : xCfOk l xMs D aC (fun q => s.heap.size ≤ q) (xsA xs) b (xmeth xMs xcls 12) := xmeth_ok hl xGlob_ok xThrOk_ok xMs_ok (xmask xs) 12
  have hgo := xgo_all L hL
  unfold xgoL at hgo
  split at hgo
  rotate_left
  · cases hgo
  rename_i leaves hleaves
  have hl0 := lv_entry [Value.ref b] (n := 9) (by rw [lg_len]; exact Nat.le_of_ble_eq_true rfl)
  rw [lg_entry_eq]
  generalize (lg_sl [Value.ref b] ++ List.replicate (9 - (lg_sl [Value.ref b]).length) Slot.unset).toArray = ls at hl0 ⊢
  have hin := xfind_in (M := xLaw) (pc := 0)
  refine xrun_ok (en := e) (below := below) (Q := lw_Z below #[Value.ref b] s) (n0 := 0) (ad0 := fun _ => 0) C hcf xGlob_ok xltab_ok xlwc_ok 100000 _ _ _ _ _ hleaves hin.1 (fun lf hlf => ?_) 0 hin.2 (fun _ => 0) s.heap [] ls (fun _ _ => rfl) (Nat.le_refl _) (xsat0 xs) ⟨fun k q h => (by cases h), ⟨fun i j p9 q9 h => (by cases h), fun k q h => (by cases h)⟩⟩ va_S.rf hl0
  have h := List.all_eq_true.mp hgo lf hlf
  intro ad H locs ls9 he hk0 hk1 ha hs hw hS hl9
  unfold xgoE at h
  split at h
  · rename_i E pc k aux lv x pe hh n ce sl
    rw [Bool.and_eq_true, Bool.and_eq_true, decide_eq_true_eq] at h
    obtain ⟨rfl, h1, h2⟩ := h
    refine ⟨fun _ => ?_, fun z => by cases z⟩
    have hve := xlwc_ok _ he
    have hk0 : k = 4 := hk0 rfl
    subst hk0
    have hve : decode code pc = .ok (.ireturn, 1) := hve
    refine W.widen (Nat.le_of_ble_eq_true h1) (Nat.le_of_ble_eq_true h2) (va_forget hS.2.2 (W.base ?_))
    exact lw_ret (Drawn.sameBut.refl s.drawn lw_cs) hx hb hr hlocks hve
  · cases h
end XS
set_option maxHeartbeats 4000000 in
theorem lw_walk (l : Launch) (hflags : l.flags = flags0) (b : Addr) (xs : List Int32) : MetFree l x (headSpec (Jvm.Cond.code x code maxLocals ret :: tables_1) room_1) (lw_P b xs) (fun _ _ _ _ _ => True) lw_Q := by
  refine MetFree.of_bodyS (code := code) (maxLocals := maxLocals) (ret := ret) (by decide) ?_ ?_
  · intro args s m h hn
    obtain ⟨meth, c, h1, h2, h3, h4, h5, h6, -, -⟩ := Cond.code_spec hn (atoms_spec (ws := Jvm.Cond.code x code maxLocals ret :: tables_1) h _ List.mem_cons_self)
    exact ⟨meth, c, h1, h2, h3, h4, h5, h6⟩
  · intro p e s m args below meth c s₁ B hml0 hP _
    obtain ⟨rfl, hx, hbd, hgv⟩ := hP
    obtain ⟨scr, harrAt, hlist, hof, hsmall⟩ := hx
    obtain ⟨hcb, hkn, -, -⟩ := State.arrayAt?_spec harrAt
    have hown : s.vm.findClass R_law = some m.cls := findClass_of_methodNamed B.named
    have hts0 : ∀ c ∈ (Jvm.Cond.code x code maxLocals ret :: tables_1), c.before #[Value.ref b] s = true := atoms_spec (ws := Jvm.Cond.code x code maxLocals ret :: tables_1) B.pre
    have hts : ∀ w ∈ lw_tbl, w.before #[Value.ref b] s = true := k2_hts_sels lw_privs (fun w hw => hts0 w (List.mem_cons_of_mem _ hw)) lw_privs_ok
    have hml : c.maxLocals = 9 := B.maxLocals_eq (hts0 _ List.mem_cons_self)
    have X₀ : Stand p l e room_1 s m #[Value.ref b] below meth c s₁ [] 0 0 := Stand.of_body B
    have hh0 : s₁.heap = s.heap := by rw [B.state]; rfl
    have hsz : scr.slots.size = xs.length := by rw [← Array.length_toList, hlist, List.length_map]
    have hval : ∀ j : Nat, j < xs.length → scr.slots[j]? = some (.int (xs.getD j 0)) := fun j hj => by
      rw [← Array.getElem?_toList, hlist]
      simp [hj]
    have hbl : b < s.heap.size := (Array.getElem?_eq_some_iff.mp hcb).1
    have hX : va_X b xs.length (fun j => xs.getD j 0) s s.heap := ⟨scr, hcb, hof, hkn, hsz, hval⟩
    have K : W p l e room_1 s m #[Value.ref b] below meth c s₁.heap [] 0 0 (lw_Z below #[Value.ref b] s) (entryFrame m ([Value.ref b] : List Value).toArray 9) := by
      rw [hh0]
      exact whole_start l hflags hbd ⟨B.exec, B.bytes, B.returns, hml, hown, hts, hX, hbl, B.notSynchronized, hgv⟩
    obtain ⟨t, a1, o, b1, b2, b3⟩ := K s₁ rfl X₀
    exact ⟨t, o, a1, b1, b2, b3⟩
theorem lw_pre_spec {args : Array Value} {s : State} (h : (Jvm.Cond.and given_1 narrow_1).before args s = true) (hr : rest_1_c.before args s = true) : ∃ (b : Addr) (xs : List Int32), lw_P b xs args s := by
  have hs := flat_of_before _ h
  have hq := flat_of_before _ hr
  have hc : (Cond.count 1).before args s = true := hs _ (by decide +kernel)
  have harr : (Cond.arrayOf (.arg 0) .int).before args s = true := hs _ (by decide +kernel)
  have hle : (Cond.le (.length (.arg 0)) (.int 9)).before args s = true := hs _ (by decide +kernel)
  have hlen : (Cond.isInt (.length (.arg 0))).before args s = true := hq _ (by decide +kernel)
  have hall : (Cond.all (.arg 0) (.isInt (.elem (.arg 0) (.index 0)))).before args s = true := hq _ (by decide +kernel)
  obtain ⟨b, xs, hb, hx⟩ := State.ints_of_pre rfl harr hlen hall
  have hsm : xs.length < 2 ^ 31 := hx.choose_spec.2.2.2
  have hev : (Term.length (.arg 0)).eval args s none [] s = some (.int xs.length.toInt32) := hx.length_eval hb
  have hv := Cond.le_ints hev (show (Term.int 9).eval args s none [] s = some (.int 9) from rfl)
  have hd : xs.length.toInt32 ≤ 9 := by
    simpa [Cond.before, Cond.holds, hv] using hle
  have hN : xs.length ≤ 9 := (Int32.ofNat_le_ofNat hsm (by decide)).mp (show Int32.ofNat xs.length ≤ Int32.ofNat 9 from hd)
  exact ⟨b, xs, Cond.one_arg hc (show args[0]? = some (.ref b) from hb), hx, hN, h⟩
theorem lw_comes (l : Launch) (hflags : l.flags = flags0) : Comes l x (Jvm.Cond.code x code maxLocals ret :: tables_1) room_1 (fun tb e args s => Calls_1 tb e args s ∧ rest_1 tb e args s ∧ Pre_1 tb e args s)
    (fun _ _ args s o t => lw_Q args s o t) := by
  intro p e ha hc hk s m args below hf hfit hheap happ hpre
  obtain ⟨b, xs, hP⟩ := lw_pre_spec hpre.2.2 hpre.2.1
  obtain ⟨k, o, h1, h2, h3, hQ⟩ := lw_walk l hflags b xs p e ha hc hk s m args below hf ((Spec.applies_iff_loose hf).mp happ).1 hP trivial
  exact ⟨k, o, h1, h2, h3, hQ⟩
theorem lw_frame {s t : State} {o : Outcome} {args : Array Value} (h : State.butDraws s t lw_cs (fun t1 => Framed s o t1 [] 600002 7302232)) :
    State.butDraws s t [Jvm.Choice.named "NaN.bits"] (fun t1 => Framed s o t1 (fieldLocs frame_1_writes args s ++ arrayLocs frame_1_arrays args s ++ staticLocs frame_1_statics s) 600002 7302232) := h
theorem lw_limb (L : Cond) (hL : ∀ (args : Array Value) (s t : State), L.after args s (.returned (some (.int 1))) t = true) :
    ArmFor flags0 classFile x code maxLocals ret World_1 tables_1 room_1 Calls_1 rest_1 Pre_1
      (fun tb e a s o t => postC L tb e a s o t ∧ State.butDraws s t [Jvm.Choice.named "NaN.bits"] (fun t1 => Framed s o t1 (fieldLocs frame_1_writes a s ++ arrayLocs frame_1_arrays a s ++ staticLocs frame_1_statics s) 600002 7302232)) := by
  intro l hflags _ _ p e ha hc hk s m args below hf hfit hheap happ hpre
  obtain ⟨k, o, h1, h2, h3, rfl, hF⟩ := lw_comes l hflags p e ha hc hk s m args below hf hfit hheap happ hpre
  exact ⟨k, _, h1, h2, h3, hL args s _, lw_frame hF⟩
theorem i_vc : Claimed_1_1 ∧ Claimed_1_2 := ⟨lw_limb limb_1_1 (fun args s t => by simp [limb_1_1, Cond.after, Cond.holds, Cond.value]), lw_limb limb_1_2 (fun args s t => Cond.after_iff.mpr (by
  first | (rw [show limb_1_2 = Cond.eq .result (.int 1) from rfl, Cond.eq_ints (x := 1) (y := 1) rfl rfl]; simp; done) | (simp [limb_1_2, Cond.value, Term.eval]; done)))⟩
end
section
theorem xx_last : True := trivial
end
