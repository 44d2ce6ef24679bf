-- ===== PART A: goes FIRST, ahead of the names: the tables' words, and 'selects' of the private methods out of them =====
/-- a private method of a class that the tables say can be made, by its rows of tables_1 -/
def lw_okq (q : MethodName × Nat) : Prop := (q.1.cls ≠ "java/lang/invoke/MethodHandle" ∧ q.1.cls ≠ "java/lang/invoke/VarHandle") ∧ Cond.instantiable q.1.cls q.2 ∈ tables_1 ∧ Cond.privateMethod q.1 ∈ tables_1 ∧ Cond.instanceMethod q.1 ∈ tables_1
theorem lw_p0 : lw_okq (⟨"java/lang/Throwable", "fillInStackTrace", "(I)Ljava/lang/Throwable;"⟩, 6) := ⟨⟨by decide +kernel, by decide +kernel⟩, List.mem_of_getElem? (i := 66) (by decide +kernel), List.mem_of_getElem? (i := 64) (by decide +kernel), List.mem_of_getElem? (i := 65) (by decide +kernel)⟩
theorem lw_p1 : lw_okq (⟨"PackWright", "packThatIs", "(I)LPackWright$Pack;"⟩, 13) := ⟨⟨by decide +kernel, by decide +kernel⟩, List.mem_of_getElem? (i := 98) (by decide +kernel), List.mem_of_getElem? (i := 96) (by decide +kernel), List.mem_of_getElem? (i := 97) (by decide +kernel)⟩
theorem lw_p2 : lw_okq (⟨"PackWright", "opened", "(II)I"⟩, 13) := ⟨⟨by decide +kernel, by decide +kernel⟩, List.mem_of_getElem? (i := 98) (by decide +kernel), List.mem_of_getElem? (i := 121) (by decide +kernel), List.mem_of_getElem? (i := 122) (by decide +kernel)⟩
theorem lw_p3 : lw_okq (⟨"PackWright$Choice", "turnOn", "(LPackWright$Claim;)Z"⟩, 2) := ⟨⟨by decide +kernel, by decide +kernel⟩, List.mem_of_getElem? (i := 131) (by decide +kernel), List.mem_of_getElem? (i := 129) (by decide +kernel), List.mem_of_getElem? (i := 130) (by decide +kernel)⟩
theorem lw_p4 : lw_okq (⟨"PackWright$Choice", "turnOnByNeeds", "()Z"⟩, 2) := ⟨⟨by decide +kernel, by decide +kernel⟩, List.mem_of_getElem? (i := 131) (by decide +kernel), List.mem_of_getElem? (i := 134) (by decide +kernel), List.mem_of_getElem? (i := 135) (by decide +kernel)⟩
theorem lw_p5 : lw_okq (⟨"PackWright", "search", "(II)I"⟩, 13) := ⟨⟨by decide +kernel, by decide +kernel⟩, List.mem_of_getElem? (i := 98) (by decide +kernel), List.mem_of_getElem? (i := 157) (by decide +kernel), List.mem_of_getElem? (i := 158) (by decide +kernel)⟩
theorem lw_p6 : lw_okq (⟨"PackWright$Resolver", "addCandidate", "(ILPackWright$Version;)V"⟩, 11) := ⟨⟨by decide +kernel, by decide +kernel⟩, List.mem_of_getElem? (i := 185) (by decide +kernel), List.mem_of_getElem? (i := 183) (by decide +kernel), List.mem_of_getElem? (i := 184) (by decide +kernel)⟩
theorem lw_p7 : lw_okq (⟨"PackWright$Resolver", "openLevel", "()Z"⟩, 11) := ⟨⟨by decide +kernel, by decide +kernel⟩, List.mem_of_getElem? (i := 185) (by decide +kernel), List.mem_of_getElem? (i := 196) (by decide +kernel), List.mem_of_getElem? (i := 197) (by decide +kernel)⟩
theorem lw_p8 : lw_okq (⟨"PackWright$Resolver", "firstWithoutVersion", "()I"⟩, 11) := ⟨⟨by decide +kernel, by decide +kernel⟩, List.mem_of_getElem? (i := 185) (by decide +kernel), List.mem_of_getElem? (i := 200) (by decide +kernel), List.mem_of_getElem? (i := 201) (by decide +kernel)⟩
theorem lw_p9 : lw_okq (⟨"PackWright$Resolver", "addToRow", "(I)V"⟩, 11) := ⟨⟨by decide +kernel, by decide +kernel⟩, List.mem_of_getElem? (i := 185) (by decide +kernel), List.mem_of_getElem? (i := 204) (by decide +kernel), List.mem_of_getElem? (i := 205) (by decide +kernel)⟩
theorem lw_p10 : lw_okq (⟨"PackWright$Resolver", "nextCandidate", "(I)LPackWright$Version;"⟩, 11) := ⟨⟨by decide +kernel, by decide +kernel⟩, List.mem_of_getElem? (i := 185) (by decide +kernel), List.mem_of_getElem? (i := 210) (by decide +kernel), List.mem_of_getElem? (i := 211) (by decide +kernel)⟩
theorem lw_p11 : lw_okq (⟨"PackWright$Choice", "grants", "(LPackWright$Claim;Z)Z"⟩, 2) := ⟨⟨by decide +kernel, by decide +kernel⟩, List.mem_of_getElem? (i := 131) (by decide +kernel), List.mem_of_getElem? (i := 219) (by decide +kernel), List.mem_of_getElem? (i := 220) (by decide +kernel)⟩
theorem lw_p12 : lw_okq (⟨"PackWright$Choice", "grantsNeeds", "(LPackWright$Version;IZ)Z"⟩, 2) := ⟨⟨by decide +kernel, by decide +kernel⟩, List.mem_of_getElem? (i := 131) (by decide +kernel), List.mem_of_getElem? (i := 227) (by decide +kernel), List.mem_of_getElem? (i := 228) (by decide +kernel)⟩
theorem lw_p13 : lw_okq (⟨"PackWright$Choice", "isFreeOfClashes", "(LPackWright$Version;)Z"⟩, 2) := ⟨⟨by decide +kernel, by decide +kernel⟩, List.mem_of_getElem? (i := 131) (by decide +kernel), List.mem_of_getElem? (i := 231) (by decide +kernel), List.mem_of_getElem? (i := 232) (by decide +kernel)⟩
theorem lw_p14 : lw_okq (⟨"PackWright", "layChains", "()V"⟩, 13) := ⟨⟨by decide +kernel, by decide +kernel⟩, List.mem_of_getElem? (i := 98) (by decide +kernel), List.mem_of_getElem? (i := 260) (by decide +kernel), List.mem_of_getElem? (i := 261) (by decide +kernel)⟩
theorem lw_p15 : lw_okq (⟨"PackWright$Chains", "link", "(LPackWright$Choice;III)V"⟩, 4) := ⟨⟨by decide +kernel, by decide +kernel⟩, List.mem_of_getElem? (i := 270) (by decide +kernel), List.mem_of_getElem? (i := 268) (by decide +kernel), List.mem_of_getElem? (i := 269) (by decide +kernel)⟩
def lw_privs_1 : List (MethodName × Nat) := [(⟨"java/lang/Throwable", "fillInStackTrace", "(I)Ljava/lang/Throwable;"⟩, 6), (⟨"PackWright", "packThatIs", "(I)LPackWright$Pack;"⟩, 13), (⟨"PackWright", "opened", "(II)I"⟩, 13), (⟨"PackWright$Choice", "turnOn", "(LPackWright$Claim;)Z"⟩, 2), (⟨"PackWright$Choice", "turnOnByNeeds", "()Z"⟩, 2), (⟨"PackWright", "search", "(II)I"⟩, 13), (⟨"PackWright$Resolver", "addCandidate", "(ILPackWright$Version;)V"⟩, 11), (⟨"PackWright$Resolver", "openLevel", "()Z"⟩, 11), (⟨"PackWright$Resolver", "firstWithoutVersion", "()I"⟩, 11), (⟨"PackWright$Resolver", "addToRow", "(I)V"⟩, 11), (⟨"PackWright$Resolver", "nextCandidate", "(I)LPackWright$Version;"⟩, 11), (⟨"PackWright$Choice", "grants", "(LPackWright$Claim;Z)Z"⟩, 2), (⟨"PackWright$Choice", "grantsNeeds", "(LPackWright$Version;IZ)Z"⟩, 2), (⟨"PackWright$Choice", "isFreeOfClashes", "(LPackWright$Version;)Z"⟩, 2), (⟨"PackWright", "layChains", "()V"⟩, 13), (⟨"PackWright$Chains", "link", "(LPackWright$Choice;III)V"⟩, 4)]
theorem lw_r1 : ∀ q ∈ lw_privs_1, lw_okq q := List.forall_mem_cons.mpr ⟨lw_p0, List.forall_mem_cons.mpr ⟨lw_p1, List.forall_mem_cons.mpr ⟨lw_p2, List.forall_mem_cons.mpr ⟨lw_p3, List.forall_mem_cons.mpr ⟨lw_p4, List.forall_mem_cons.mpr ⟨lw_p5, List.forall_mem_cons.mpr ⟨lw_p6, List.forall_mem_cons.mpr ⟨lw_p7, List.forall_mem_cons.mpr ⟨lw_p8, List.forall_mem_cons.mpr ⟨lw_p9, List.forall_mem_cons.mpr ⟨lw_p10, List.forall_mem_cons.mpr ⟨lw_p11, List.forall_mem_cons.mpr ⟨lw_p12, List.forall_mem_cons.mpr ⟨lw_p13, List.forall_mem_cons.mpr ⟨lw_p14, List.forall_mem_cons.mpr ⟨lw_p15, fun _ h => absurd h List.not_mem_nil⟩⟩⟩⟩⟩⟩⟩⟩⟩⟩⟩⟩⟩⟩⟩⟩
theorem lw_p16 : lw_okq (⟨"PackWright", "isHopeless", "(I)Z"⟩, 13) := ⟨⟨by decide +kernel, by decide +kernel⟩, List.mem_of_getElem? (i := 98) (by decide +kernel), List.mem_of_getElem? (i := 279) (by decide +kernel), List.mem_of_getElem? (i := 280) (by decide +kernel)⟩
theorem lw_p17 : lw_okq (⟨"PackWright$Plan", "removeAll", "(LPackWright$Choice;I)V"⟩, 6) := ⟨⟨by decide +kernel, by decide +kernel⟩, List.mem_of_getElem? (i := 335) (by decide +kernel), List.mem_of_getElem? (i := 333) (by decide +kernel), List.mem_of_getElem? (i := 334) (by decide +kernel)⟩
theorem lw_p18 : lw_okq (⟨"PackWright$Plan", "addStep", "(IILPackWright$Choice;)V"⟩, 6) := ⟨⟨by decide +kernel, by decide +kernel⟩, List.mem_of_getElem? (i := 335) (by decide +kernel), List.mem_of_getElem? (i := 342) (by decide +kernel), List.mem_of_getElem? (i := 343) (by decide +kernel)⟩
theorem lw_p19 : lw_okq (⟨"PackWright$Plan", "putAll", "(LPackWright$Choice;LPackWright$Choice;I)V"⟩, 6) := ⟨⟨by decide +kernel, by decide +kernel⟩, List.mem_of_getElem? (i := 335) (by decide +kernel), List.mem_of_getElem? (i := 346) (by decide +kernel), List.mem_of_getElem? (i := 347) (by decide +kernel)⟩
theorem lw_p20 : lw_okq (⟨"PackWright", "requirePlan", "()V"⟩, 13) := ⟨⟨by decide +kernel, by decide +kernel⟩, List.mem_of_getElem? (i := 98) (by decide +kernel), List.mem_of_getElem? (i := 364) (by decide +kernel), List.mem_of_getElem? (i := 365) (by decide +kernel)⟩
theorem lw_p21 : lw_okq (⟨"PackWright", "doNextStep", "()Z"⟩, 13) := ⟨⟨by decide +kernel, by decide +kernel⟩, List.mem_of_getElem? (i := 98) (by decide +kernel), List.mem_of_getElem? (i := 387) (by decide +kernel), List.mem_of_getElem? (i := 388) (by decide +kernel)⟩
theorem lw_p22 : lw_okq (⟨"PackWright$Cache", "putFirst", "(LPackWright$Version;I)V"⟩, 4) := ⟨⟨by decide +kernel, by decide +kernel⟩, List.mem_of_getElem? (i := 409) (by decide +kernel), List.mem_of_getElem? (i := 407) (by decide +kernel), List.mem_of_getElem? (i := 408) (by decide +kernel)⟩
theorem lw_p23 : lw_okq (⟨"PackWright", "mixPackage", "(JI)J"⟩, 13) := ⟨⟨by decide +kernel, by decide +kernel⟩, List.mem_of_getElem? (i := 98) (by decide +kernel), List.mem_of_getElem? (i := 497) (by decide +kernel), List.mem_of_getElem? (i := 498) (by decide +kernel)⟩
theorem lw_p24 : lw_okq (⟨"PackWright", "versionThatIs", "(II)LPackWright$Version;"⟩, 13) := ⟨⟨by decide +kernel, by decide +kernel⟩, List.mem_of_getElem? (i := 98) (by decide +kernel), List.mem_of_getElem? (i := 528) (by decide +kernel), List.mem_of_getElem? (i := 529) (by decide +kernel)⟩
theorem lw_p25 : lw_okq (⟨"PackWright", "requireStep", "(I)V"⟩, 13) := ⟨⟨by decide +kernel, by decide +kernel⟩, List.mem_of_getElem? (i := 98) (by decide +kernel), List.mem_of_getElem? (i := 538) (by decide +kernel), List.mem_of_getElem? (i := 539) (by decide +kernel)⟩
theorem lw_p26 : lw_okq (⟨"PackWright", "requireOther", "(II)V"⟩, 13) := ⟨⟨by decide +kernel, by decide +kernel⟩, List.mem_of_getElem? (i := 98) (by decide +kernel), List.mem_of_getElem? (i := 918) (by decide +kernel), List.mem_of_getElem? (i := 919) (by decide +kernel)⟩
def lw_privs_2 : List (MethodName × Nat) := [(⟨"PackWright", "isHopeless", "(I)Z"⟩, 13), (⟨"PackWright$Plan", "removeAll", "(LPackWright$Choice;I)V"⟩, 6), (⟨"PackWright$Plan", "addStep", "(IILPackWright$Choice;)V"⟩, 6), (⟨"PackWright$Plan", "putAll", "(LPackWright$Choice;LPackWright$Choice;I)V"⟩, 6), (⟨"PackWright", "requirePlan", "()V"⟩, 13), (⟨"PackWright", "doNextStep", "()Z"⟩, 13), (⟨"PackWright$Cache", "putFirst", "(LPackWright$Version;I)V"⟩, 4), (⟨"PackWright", "mixPackage", "(JI)J"⟩, 13), (⟨"PackWright", "versionThatIs", "(II)LPackWright$Version;"⟩, 13), (⟨"PackWright", "requireStep", "(I)V"⟩, 13), (⟨"PackWright", "requireOther", "(II)V"⟩, 13)]
theorem lw_r2 : ∀ q ∈ lw_privs_2, lw_okq q := List.forall_mem_cons.mpr ⟨lw_p16, List.forall_mem_cons.mpr ⟨lw_p17, List.forall_mem_cons.mpr ⟨lw_p18, List.forall_mem_cons.mpr ⟨lw_p19, List.forall_mem_cons.mpr ⟨lw_p20, List.forall_mem_cons.mpr ⟨lw_p21, List.forall_mem_cons.mpr ⟨lw_p22, List.forall_mem_cons.mpr ⟨lw_p23, List.forall_mem_cons.mpr ⟨lw_p24, List.forall_mem_cons.mpr ⟨lw_p25, List.forall_mem_cons.mpr ⟨lw_p26, fun _ h => absurd h List.not_mem_nil⟩⟩⟩⟩⟩⟩⟩⟩⟩⟩⟩
def lw_privs : List (MethodName × Nat) := lw_privs_1 ++ (lw_privs_2)
def lw_tbl : List Cond := k2_sels lw_privs ++ tables_1
theorem lw_privs_ok : ∀ q ∈ lw_privs, lw_okq q := by
  show ∀ q ∈ lw_privs_1 ++ (lw_privs_2), lw_okq q
  exact List.forall_mem_append.mpr ⟨lw_r1, lw_r2⟩
def xT0 : u_T := fun k => match k with
  | 0 => ("PackWright$Cache", "held", "[LPackWright$Version;", true)
  | 1 => ("PackWright$Cache", "count", "I", false)
  | 2 => ("PackWright$Cache", "used", "I", false)
  | _ => ("PackWright$Cache", "room", "I", false)
def xY0 : Nat → FieldType := fun k => match k with
  | 0 => .array (.object "PackWright$Version")
  | 1 => .int
  | 2 => .int
  | _ => .int
theorem xN0 : ∀ a, a < 4 → ∀ b, b < 4 → a ≠ b → (xT0 a).2.1 ≠ (xT0 b).2.1 := by decide +kernel
theorem xY0_ok : ∀ k, k < 4 → parseFieldDescriptor (xT0 k).2.2.1 = some (xY0 k) := by decide +kernel
def xT1 : u_T := fun k => match k with
  | 0 => ("PackWright$Chains", "lengths", "[I", true)
  | 1 => ("PackWright$Chains", "ahead", "[I", true)
  | 2 => ("PackWright$Chains", "queue", "[I", true)
  | _ => ("PackWright$Chains", "queued", "I", false)
def xY1 : Nat → FieldType := fun k => match k with
  | 0 => .array .int
  | 1 => .array .int
  | 2 => .array .int
  | _ => .int
theorem xN1 : ∀ a, a < 4 → ∀ b, b < 4 → a ≠ b → (xT1 a).2.1 ≠ (xT1 b).2.1 := by decide +kernel
theorem xY1_ok : ∀ k, k < 4 → parseFieldDescriptor (xT1 k).2.2.1 = some (xY1 k) := by decide +kernel
def xT2 : u_T := fun k => match k with
  | 0 => ("PackWright$Choice", "chosen", "[LPackWright$Version;", true)
  | _ => ("PackWright$Choice", "on", "[I", true)
def xY2 : Nat → FieldType := fun k => match k with
  | 0 => .array (.object "PackWright$Version")
  | _ => .array .int
theorem xN2 : ∀ a, a < 2 → ∀ b, b < 2 → a ≠ b → (xT2 a).2.1 ≠ (xT2 b).2.1 := by decide +kernel
theorem xY2_ok : ∀ k, k < 2 → parseFieldDescriptor (xT2 k).2.2.1 = some (xY2 k) := by decide +kernel
def xT3 : u_T := fun k => match k with
  | 0 => ("PackWright$Pack", "versions", "[LPackWright$Version;", true)
  | 1 => ("PackWright$Pack", "greatestFirst", "[LPackWright$Version;", true)
  | _ => ("PackWright$Pack", "count", "I", false)
def xY3 : Nat → FieldType := fun k => match k with
  | 0 => .array (.object "PackWright$Version")
  | 1 => .array (.object "PackWright$Version")
  | _ => .int
theorem xN3 : ∀ a, a < 3 → ∀ b, b < 3 → a ≠ b → (xT3 a).2.1 ≠ (xT3 b).2.1 := by decide +kernel
theorem xY3_ok : ∀ k, k < 3 → parseFieldDescriptor (xT3 k).2.2.1 = some (xY3 k) := by decide +kernel
def xT4 : u_T := fun k => match k with
  | 0 => ("PackWright$Plan", "isThere", "Z", false)
  | 1 => ("PackWright$Plan", "count", "I", false)
  | 2 => ("PackWright$Plan", "done", "I", false)
  | 3 => ("PackWright$Plan", "kinds", "[I", true)
  | 4 => ("PackWright$Plan", "packs", "[I", true)
  | _ => ("PackWright$Plan", "before", "[LPackWright$Version;", true)
def xY4 : Nat → FieldType := fun k => match k with
  | 0 => .boolean
  | 1 => .int
  | 2 => .int
  | 3 => .array .int
  | 4 => .array .int
  | _ => .array (.object "PackWright$Version")
theorem xN4 : ∀ a, a < 6 → ∀ b, b < 6 → a ≠ b → (xT4 a).2.1 ≠ (xT4 b).2.1 := by decide +kernel
theorem xY4_ok : ∀ k, k < 6 → parseFieldDescriptor (xT4 k).2.2.1 = some (xY4 k) := by decide +kernel
def xT5 : u_T := fun k => match k with
  | 0 => ("PackWright$Resolver", "asked", "LPackWright$Wishes;", true)
  | 1 => ("PackWright$Resolver", "choice", "LPackWright$Choice;", true)
  | 2 => ("PackWright$Resolver", "tryCount", "I", false)
  | 3 => ("PackWright$Resolver", "candidates", "[LPackWright$Version;", true)
  | 4 => ("PackWright$Resolver", "candidateCounts", "[I", true)
  | 5 => ("PackWright$Resolver", "triedCounts", "[I", true)
  | 6 => ("PackWright$Resolver", "row", "[I", true)
  | 7 => ("PackWright$Resolver", "rowLength", "I", false)
  | 8 => ("PackWright$Resolver", "rowSet", "I", false)
  | 9 => ("PackWright$Resolver", "levels", "[I", true)
  | _ => ("PackWright$Resolver", "levelCount", "I", false)
def xY5 : Nat → FieldType := fun k => match k with
  | 0 => .object "PackWright$Wishes"
  | 1 => .object "PackWright$Choice"
  | 2 => .int
  | 3 => .array (.object "PackWright$Version")
  | 4 => .array .int
  | 5 => .array .int
  | 6 => .array .int
  | 7 => .int
  | 8 => .int
  | 9 => .array .int
  | _ => .int
theorem xN5 : ∀ a, a < 11 → ∀ b, b < 11 → a ≠ b → (xT5 a).2.1 ≠ (xT5 b).2.1 := by decide +kernel
theorem xY5_ok : ∀ k, k < 11 → parseFieldDescriptor (xT5 k).2.2.1 = some (xY5 k) := by decide +kernel
def xT6 : u_T := fun k => match k with
  | 0 => ("PackWright$Wishes", "row", "[LPackWright$Claim;", true)
  | _ => ("PackWright$Wishes", "count", "I", false)
def xY6 : Nat → FieldType := fun k => match k with
  | 0 => .array (.object "PackWright$Claim")
  | _ => .int
theorem xN6 : ∀ a, a < 2 → ∀ b, b < 2 → a ≠ b → (xT6 a).2.1 ≠ (xT6 b).2.1 := by decide +kernel
theorem xY6_ok : ∀ k, k < 2 → parseFieldDescriptor (xT6 k).2.2.1 = some (xY6 k) := by decide +kernel
def xT7 : u_T := fun k => match k with
  | 0 => ("PackWright", "packs", "[LPackWright$Pack;", true)
  | 1 => ("PackWright", "packCount", "I", false)
  | 2 => ("PackWright", "wished", "LPackWright$Wishes;", true)
  | 3 => ("PackWright", "lock", "LPackWright$Choice;", true)
  | 4 => ("PackWright", "onDisk", "LPackWright$Choice;", true)
  | 5 => ("PackWright", "resolver", "LPackWright$Resolver;", true)
  | 6 => ("PackWright", "chains", "LPackWright$Chains;", true)
  | 7 => ("PackWright", "planned", "LPackWright$Plan;", true)
  | 8 => ("PackWright", "cache", "LPackWright$Cache;", true)
  | 9 => ("PackWright", "trialCache", "LPackWright$Cache;", true)
  | 10 => ("PackWright", "diskRoom", "I", false)
  | 11 => ("PackWright", "latestTries", "I", false)
  | _ => ("PackWright", "fetchCount", "I", false)
def xY7 : Nat → FieldType := fun k => match k with
  | 0 => .array (.object "PackWright$Pack")
  | 1 => .int
  | 2 => .object "PackWright$Wishes"
  | 3 => .object "PackWright$Choice"
  | 4 => .object "PackWright$Choice"
  | 5 => .object "PackWright$Resolver"
  | 6 => .object "PackWright$Chains"
  | 7 => .object "PackWright$Plan"
  | 8 => .object "PackWright$Cache"
  | 9 => .object "PackWright$Cache"
  | 10 => .int
  | 11 => .int
  | _ => .int
theorem xN7 : ∀ a, a < 13 → ∀ b, b < 13 → a ≠ b → (xT7 a).2.1 ≠ (xT7 b).2.1 := by decide +kernel
theorem xY7_ok : ∀ k, k < 13 → parseFieldDescriptor (xT7 k).2.2.1 = some (xY7 k) := by decide +kernel
def xT8 : u_T := fun k => match k with
  | 0 => ("PackWright$Claim", "target", "I", true)
  | 1 => ("PackWright$Claim", "condition", "I", true)
  | 2 => ("PackWright$Claim", "features", "I", true)
  | 3 => ("PackWright$Claim", "range", "LPackWright$Range;", true)
  | _ => ("PackWright$Claim", "next", "LPackWright$Claim;", false)
def xY8 : Nat → FieldType := fun k => match k with
  | 0 => .int
  | 1 => .int
  | 2 => .int
  | 3 => .object "PackWright$Range"
  | _ => .object "PackWright$Claim"
theorem xN8 : ∀ a, a < 5 → ∀ b, b < 5 → a ≠ b → (xT8 a).2.1 ≠ (xT8 b).2.1 := by decide +kernel
theorem xY8_ok : ∀ k, k < 5 → parseFieldDescriptor (xT8 k).2.2.1 = some (xY8 k) := by decide +kernel
def xT9 : u_T := fun k => match k with
  | 0 => ("PackWright$Range", "first", "I", true)
  | _ => ("PackWright$Range", "end", "I", true)
def xY9 : Nat → FieldType := fun k => match k with
  | 0 => .int
  | _ => .int
theorem xN9 : ∀ a, a < 2 → ∀ b, b < 2 → a ≠ b → (xT9 a).2.1 ≠ (xT9 b).2.1 := by decide +kernel
theorem xY9_ok : ∀ k, k < 2 → parseFieldDescriptor (xT9 k).2.2.1 = some (xY9 k) := by decide +kernel
def xT10 : u_T := fun k => match k with
  | 0 => ("PackWright$Version", "number", "I", true)
  | 1 => ("PackWright$Version", "mark", "I", true)
  | 2 => ("PackWright$Version", "size", "I", true)
  | 3 => ("PackWright$Version", "isWithdrawn", "Z", false)
  | 4 => ("PackWright$Version", "firstNeed", "LPackWright$Claim;", false)
  | 5 => ("PackWright$Version", "needCount", "I", false)
  | 6 => ("PackWright$Version", "firstClash", "LPackWright$Claim;", false)
  | _ => ("PackWright$Version", "clashCount", "I", false)
def xY10 : Nat → FieldType := fun k => match k with
  | 0 => .int
  | 1 => .int
  | 2 => .int
  | 3 => .boolean
  | 4 => .object "PackWright$Claim"
  | 5 => .int
  | 6 => .object "PackWright$Claim"
  | _ => .int
theorem xN10 : ∀ a, a < 8 → ∀ b, b < 8 → a ≠ b → (xT10 a).2.1 ≠ (xT10 b).2.1 := by decide +kernel
theorem xY10_ok : ∀ k, k < 8 → parseFieldDescriptor (xT10 k).2.2.1 = some (xY10 k) := by decide +kernel
def xT11 : u_T := fun k => match k with
  | 0 => ("PackWrightLaw$Reg", "m", "LPackWright;", true)
  | 1 => ("PackWrightLaw$Reg", "s", "[I", true)
  | 2 => ("PackWrightLaw$Reg", "draws", "I", false)
  | 3 => ("PackWrightLaw$Reg", "packages", "I", false)
  | 4 => ("PackWrightLaw$Reg", "count", "[I", true)
  | 5 => ("PackWrightLaw$Reg", "numbers", "[[[I", true)
  | 6 => ("PackWrightLaw$Reg", "size", "[[I", true)
  | 7 => ("PackWrightLaw$Reg", "isWithdrawn", "[[Z", true)
  | 8 => ("PackWrightLaw$Reg", "needs", "[[[I", true)
  | 9 => ("PackWrightLaw$Reg", "clashes", "[[[I", true)
  | 10 => ("PackWrightLaw$Reg", "wishes", "I", false)
  | 11 => ("PackWrightLaw$Reg", "wish", "[[I", true)
  | _ => ("PackWrightLaw$Reg", "tries", "I", false)
def xY11 : Nat → FieldType := fun k => match k with
  | 0 => .object "PackWright"
  | 1 => .array .int
  | 2 => .int
  | 3 => .int
  | 4 => .array .int
  | 5 => .array (.array (.array .int))
  | 6 => .array (.array .int)
  | 7 => .array (.array .boolean)
  | 8 => .array (.array (.array .int))
  | 9 => .array (.array (.array .int))
  | 10 => .int
  | 11 => .array (.array .int)
  | _ => .int
theorem xN11 : ∀ a, a < 13 → ∀ b, b < 13 → a ≠ b → (xT11 a).2.1 ≠ (xT11 b).2.1 := by decide +kernel
theorem xY11_ok : ∀ k, k < 13 → parseFieldDescriptor (xT11 k).2.2.1 = some (xY11 k) := by decide +kernel
/-- the classes whose objects the worlds hold -/
abbrev classes : List vw_C := [("PackWright$Cache", xT0, 4), ("PackWright$Chains", xT1, 4), ("PackWright$Choice", xT2, 2), ("PackWright$Pack", xT3, 3), ("PackWright$Plan", xT4, 6), ("PackWright$Resolver", xT5, 11), ("PackWright$Wishes", xT6, 2), ("PackWright", xT7, 13), ("PackWright$Claim", xT8, 5), ("PackWright$Range", xT9, 2), ("PackWright$Version", xT10, 8), ("PackWrightLaw$Reg", xT11, 13)]
