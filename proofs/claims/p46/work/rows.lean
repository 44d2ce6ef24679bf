section
-- ===== PART A: goes FIRST, ahead of the names: the tables' words, and 'selects' of the private methods out of them =====
/-- a private method of a class that the tables say can be made, by its rows of tables_1 -/
def lw_okq (q : MethodName × Nat) : Prop := (q.1.cls ≠ "java/lang/invoke/MethodHandle" ∧ q.1.cls ≠ "java/lang/invoke/VarHandle") ∧ Cond.instantiable q.1.cls q.2 ∈ tables_1 ∧ Cond.privateMethod q.1 ∈ tables_1 ∧ Cond.instanceMethod q.1 ∈ tables_1
theorem lw_p0 : lw_okq (⟨"java/lang/Throwable", "fillInStackTrace", "(I)Ljava/lang/Throwable;"⟩, 6) := ⟨⟨by decide +kernel, by decide +kernel⟩, List.mem_of_getElem? (i := 66) (by decide +kernel), List.mem_of_getElem? (i := 64) (by decide +kernel), List.mem_of_getElem? (i := 65) (by decide +kernel)⟩
theorem lw_p1 : lw_okq (⟨"PackWright", "packThatIs", "(I)LPackWright$Pack;"⟩, 13) := ⟨⟨by decide +kernel, by decide +kernel⟩, List.mem_of_getElem? (i := 98) (by decide +kernel), List.mem_of_getElem? (i := 96) (by decide +kernel), List.mem_of_getElem? (i := 97) (by decide +kernel)⟩
theorem lw_p2 : lw_okq (⟨"PackWright", "opened", "(II)I"⟩, 13) := ⟨⟨by decide +kernel, by decide +kernel⟩, List.mem_of_getElem? (i := 98) (by decide +kernel), List.mem_of_getElem? (i := 121) (by decide +kernel), List.mem_of_getElem? (i := 122) (by decide +kernel)⟩
theorem lw_p3 : lw_okq (⟨"PackWright$Choice", "turnOn", "(LPackWright$Claim;)Z"⟩, 2) := ⟨⟨by decide +kernel, by decide +kernel⟩, List.mem_of_getElem? (i := 131) (by decide +kernel), List.mem_of_getElem? (i := 129) (by decide +kernel), List.mem_of_getElem? (i := 130) (by decide +kernel)⟩
theorem lw_p4 : lw_okq (⟨"PackWright$Choice", "turnOnByNeeds", "()Z"⟩, 2) := ⟨⟨by decide +kernel, by decide +kernel⟩, List.mem_of_getElem? (i := 131) (by decide +kernel), List.mem_of_getElem? (i := 134) (by decide +kernel), List.mem_of_getElem? (i := 135) (by decide +kernel)⟩
theorem lw_p5 : lw_okq (⟨"PackWright", "search", "(II)I"⟩, 13) := ⟨⟨by decide +kernel, by decide +kernel⟩, List.mem_of_getElem? (i := 98) (by decide +kernel), List.mem_of_getElem? (i := 157) (by decide +kernel), List.mem_of_getElem? (i := 158) (by decide +kernel)⟩
theorem lw_p6 : lw_okq (⟨"PackWright$Resolver", "addCandidate", "(ILPackWright$Version;)V"⟩, 11) := ⟨⟨by decide +kernel, by decide +kernel⟩, List.mem_of_getElem? (i := 185) (by decide +kernel), List.mem_of_getElem? (i := 183) (by decide +kernel), List.mem_of_getElem? (i := 184) (by decide +kernel)⟩
theorem lw_p7 : lw_okq (⟨"PackWright$Resolver", "openLevel", "()Z"⟩, 11) := ⟨⟨by decide +kernel, by decide +kernel⟩, List.mem_of_getElem? (i := 185) (by decide +kernel), List.mem_of_getElem? (i := 196) (by decide +kernel), List.mem_of_getElem? (i := 197) (by decide +kernel)⟩
theorem lw_p8 : lw_okq (⟨"PackWright$Resolver", "firstWithoutVersion", "()I"⟩, 11) := ⟨⟨by decide +kernel, by decide +kernel⟩, List.mem_of_getElem? (i := 185) (by decide +kernel), List.mem_of_getElem? (i := 200) (by decide +kernel), List.mem_of_getElem? (i := 201) (by decide +kernel)⟩
theorem lw_p9 : lw_okq (⟨"PackWright$Resolver", "addToRow", "(I)V"⟩, 11) := ⟨⟨by decide +kernel, by decide +kernel⟩, List.mem_of_getElem? (i := 185) (by decide +kernel), List.mem_of_getElem? (i := 204) (by decide +kernel), List.mem_of_getElem? (i := 205) (by decide +kernel)⟩
theorem lw_p10 : lw_okq (⟨"PackWright$Resolver", "nextCandidate", "(I)LPackWright$Version;"⟩, 11) := ⟨⟨by decide +kernel, by decide +kernel⟩, List.mem_of_getElem? (i := 185) (by decide +kernel), List.mem_of_getElem? (i := 210) (by decide +kernel), List.mem_of_getElem? (i := 211) (by decide +kernel)⟩
theorem lw_p11 : lw_okq (⟨"PackWright$Choice", "grants", "(LPackWright$Claim;Z)Z"⟩, 2) := ⟨⟨by decide +kernel, by decide +kernel⟩, List.mem_of_getElem? (i := 131) (by decide +kernel), List.mem_of_getElem? (i := 219) (by decide +kernel), List.mem_of_getElem? (i := 220) (by decide +kernel)⟩
theorem lw_p12 : lw_okq (⟨"PackWright$Choice", "grantsNeeds", "(LPackWright$Version;IZ)Z"⟩, 2) := ⟨⟨by decide +kernel, by decide +kernel⟩, List.mem_of_getElem? (i := 131) (by decide +kernel), List.mem_of_getElem? (i := 227) (by decide +kernel), List.mem_of_getElem? (i := 228) (by decide +kernel)⟩
theorem lw_p13 : lw_okq (⟨"PackWright$Choice", "isFreeOfClashes", "(LPackWright$Version;)Z"⟩, 2) := ⟨⟨by decide +kernel, by decide +kernel⟩, List.mem_of_getElem? (i := 131) (by decide +kernel), List.mem_of_getElem? (i := 231) (by decide +kernel), List.mem_of_getElem? (i := 232) (by decide +kernel)⟩
theorem lw_p14 : lw_okq (⟨"PackWright", "layChains", "()V"⟩, 13) := ⟨⟨by decide +kernel, by decide +kernel⟩, List.mem_of_getElem? (i := 98) (by decide +kernel), List.mem_of_getElem? (i := 260) (by decide +kernel), List.mem_of_getElem? (i := 261) (by decide +kernel)⟩
theorem lw_p15 : lw_okq (⟨"PackWright$Chains", "link", "(LPackWright$Choice;III)V"⟩, 4) := ⟨⟨by decide +kernel, by decide +kernel⟩, List.mem_of_getElem? (i := 270) (by decide +kernel), List.mem_of_getElem? (i := 268) (by decide +kernel), List.mem_of_getElem? (i := 269) (by decide +kernel)⟩
def lw_privs_1 : List (MethodName × Nat) := [(⟨"java/lang/Throwable", "fillInStackTrace", "(I)Ljava/lang/Throwable;"⟩, 6), (⟨"PackWright", "packThatIs", "(I)LPackWright$Pack;"⟩, 13), (⟨"PackWright", "opened", "(II)I"⟩, 13), (⟨"PackWright$Choice", "turnOn", "(LPackWright$Claim;)Z"⟩, 2), (⟨"PackWright$Choice", "turnOnByNeeds", "()Z"⟩, 2), (⟨"PackWright", "search", "(II)I"⟩, 13), (⟨"PackWright$Resolver", "addCandidate", "(ILPackWright$Version;)V"⟩, 11), (⟨"PackWright$Resolver", "openLevel", "()Z"⟩, 11), (⟨"PackWright$Resolver", "firstWithoutVersion", "()I"⟩, 11), (⟨"PackWright$Resolver", "addToRow", "(I)V"⟩, 11), (⟨"PackWright$Resolver", "nextCandidate", "(I)LPackWright$Version;"⟩, 11), (⟨"PackWright$Choice", "grants", "(LPackWright$Claim;Z)Z"⟩, 2), (⟨"PackWright$Choice", "grantsNeeds", "(LPackWright$Version;IZ)Z"⟩, 2), (⟨"PackWright$Choice", "isFreeOfClashes", "(LPackWright$Version;)Z"⟩, 2), (⟨"PackWright", "layChains", "()V"⟩, 13), (⟨"PackWright$Chains", "link", "(LPackWright$Choice;III)V"⟩, 4)]
theorem lw_r1 : ∀ q ∈ lw_privs_1, lw_okq q := List.forall_mem_cons.mpr ⟨lw_p0, List.forall_mem_cons.mpr ⟨lw_p1, List.forall_mem_cons.mpr ⟨lw_p2, List.forall_mem_cons.mpr ⟨lw_p3, List.forall_mem_cons.mpr ⟨lw_p4, List.forall_mem_cons.mpr ⟨lw_p5, List.forall_mem_cons.mpr ⟨lw_p6, List.forall_mem_cons.mpr ⟨lw_p7, List.forall_mem_cons.mpr ⟨lw_p8, List.forall_mem_cons.mpr ⟨lw_p9, List.forall_mem_cons.mpr ⟨lw_p10, List.forall_mem_cons.mpr ⟨lw_p11, List.forall_mem_cons.mpr ⟨lw_p12, List.forall_mem_cons.mpr ⟨lw_p13, List.forall_mem_cons.mpr ⟨lw_p14, List.forall_mem_cons.mpr ⟨lw_p15, fun _ h => absurd h List.not_mem_nil⟩⟩⟩⟩⟩⟩⟩⟩⟩⟩⟩⟩⟩⟩⟩⟩
theorem lw_p16 : lw_okq (⟨"PackWright", "isHopeless", "(I)Z"⟩, 13) := ⟨⟨by decide +kernel, by decide +kernel⟩, List.mem_of_getElem? (i := 98) (by decide +kernel), List.mem_of_getElem? (i := 279) (by decide +kernel), List.mem_of_getElem? (i := 280) (by decide +kernel)⟩
theorem lw_p17 : lw_okq (⟨"PackWright$Plan", "removeAll", "(LPackWright$Choice;I)V"⟩, 6) := ⟨⟨by decide +kernel, by decide +kernel⟩, List.mem_of_getElem? (i := 335) (by decide +kernel), List.mem_of_getElem? (i := 333) (by decide +kernel), List.mem_of_getElem? (i := 334) (by decide +kernel)⟩
theorem lw_p18 : lw_okq (⟨"PackWright$Plan", "addStep", "(IILPackWright$Choice;)V"⟩, 6) := ⟨⟨by decide +kernel, by decide +kernel⟩, List.mem_of_getElem? (i := 335) (by decide +kernel), List.mem_of_getElem? (i := 342) (by decide +kernel), List.mem_of_getElem? (i := 343) (by decide +kernel)⟩
theorem lw_p19 : lw_okq (⟨"PackWright$Plan", "putAll", "(LPackWright$Choice;LPackWright$Choice;I)V"⟩, 6) := ⟨⟨by decide +kernel, by decide +kernel⟩, List.mem_of_getElem? (i := 335) (by decide +kernel), List.mem_of_getElem? (i := 346) (by decide +kernel), List.mem_of_getElem? (i := 347) (by decide +kernel)⟩
theorem lw_p20 : lw_okq (⟨"PackWright", "requirePlan", "()V"⟩, 13) := ⟨⟨by decide +kernel, by decide +kernel⟩, List.mem_of_getElem? (i := 98) (by decide +kernel), List.mem_of_getElem? (i := 364) (by decide +kernel), List.mem_of_getElem? (i := 365) (by decide +kernel)⟩
theorem lw_p21 : lw_okq (⟨"PackWright", "doNextStep", "()Z"⟩, 13) := ⟨⟨by decide +kernel, by decide +kernel⟩, List.mem_of_getElem? (i := 98) (by decide +kernel), List.mem_of_getElem? (i := 387) (by decide +kernel), List.mem_of_getElem? (i := 388) (by decide +kernel)⟩
theorem lw_p22 : lw_okq (⟨"PackWright$Cache", "putFirst", "(LPackWright$Version;I)V"⟩, 4) := ⟨⟨by decide +kernel, by decide +kernel⟩, List.mem_of_getElem? (i := 409) (by decide +kernel), List.mem_of_getElem? (i := 407) (by decide +kernel), List.mem_of_getElem? (i := 408) (by decide +kernel)⟩
theorem lw_p23 : lw_okq (⟨"PackWright", "mixPackage", "(JI)J"⟩, 13) := ⟨⟨by decide +kernel, by decide +kernel⟩, List.mem_of_getElem? (i := 98) (by decide +kernel), List.mem_of_getElem? (i := 497) (by decide +kernel), List.mem_of_getElem? (i := 498) (by decide +kernel)⟩
theorem lw_p24 : lw_okq (⟨"PackWright", "versionThatIs", "(II)LPackWright$Version;"⟩, 13) := ⟨⟨by decide +kernel, by decide +kernel⟩, List.mem_of_getElem? (i := 98) (by decide +kernel), List.mem_of_getElem? (i := 528) (by decide +kernel), List.mem_of_getElem? (i := 529) (by decide +kernel)⟩
theorem lw_p25 : lw_okq (⟨"PackWright", "requireStep", "(I)V"⟩, 13) := ⟨⟨by decide +kernel, by decide +kernel⟩, List.mem_of_getElem? (i := 98) (by decide +kernel), List.mem_of_getElem? (i := 538) (by decide +kernel), List.mem_of_getElem? (i := 539) (by decide +kernel)⟩
theorem lw_p26 : lw_okq (⟨"PackWright", "requireOther", "(II)V"⟩, 13) := ⟨⟨by decide +kernel, by decide +kernel⟩, List.mem_of_getElem? (i := 98) (by decide +kernel), List.mem_of_getElem? (i := 918) (by decide +kernel), List.mem_of_getElem? (i := 919) (by decide +kernel)⟩
def lw_privs_2 : List (MethodName × Nat) := [(⟨"PackWright", "isHopeless", "(I)Z"⟩, 13), (⟨"PackWright$Plan", "removeAll", "(LPackWright$Choice;I)V"⟩, 6), (⟨"PackWright$Plan", "addStep", "(IILPackWright$Choice;)V"⟩, 6), (⟨"PackWright$Plan", "putAll", "(LPackWright$Choice;LPackWright$Choice;I)V"⟩, 6), (⟨"PackWright", "requirePlan", "()V"⟩, 13), (⟨"PackWright", "doNextStep", "()Z"⟩, 13), (⟨"PackWright$Cache", "putFirst", "(LPackWright$Version;I)V"⟩, 4), (⟨"PackWright", "mixPackage", "(JI)J"⟩, 13), (⟨"PackWright", "versionThatIs", "(II)LPackWright$Version;"⟩, 13), (⟨"PackWright", "requireStep", "(I)V"⟩, 13), (⟨"PackWright", "requireOther", "(II)V"⟩, 13)]
theorem lw_r2 : ∀ q ∈ lw_privs_2, lw_okq q := List.forall_mem_cons.mpr ⟨lw_p16, List.forall_mem_cons.mpr ⟨lw_p17, List.forall_mem_cons.mpr ⟨lw_p18, List.forall_mem_cons.mpr ⟨lw_p19, List.forall_mem_cons.mpr ⟨lw_p20, List.forall_mem_cons.mpr ⟨lw_p21, List.forall_mem_cons.mpr ⟨lw_p22, List.forall_mem_cons.mpr ⟨lw_p23, List.forall_mem_cons.mpr ⟨lw_p24, List.forall_mem_cons.mpr ⟨lw_p25, List.forall_mem_cons.mpr ⟨lw_p26, fun _ h => absurd h List.not_mem_nil⟩⟩⟩⟩⟩⟩⟩⟩⟩⟩⟩
def lw_privs : List (MethodName × Nat) := lw_privs_1 ++ (lw_privs_2)
def lw_tbl : List Cond := k2_sels lw_privs ++ tables_1
theorem lw_privs_ok : ∀ q ∈ lw_privs, lw_okq q := by
  show ∀ q ∈ lw_privs_1 ++ (lw_privs_2), lw_okq q
  exact List.forall_mem_append.mpr ⟨lw_r1, lw_r2⟩
def xT0 : u_T := fun k => match k with
  | 0 => ("PackWright$Cache", "held", "[LPackWright$Version;", true)
  | 1 => ("PackWright$Cache", "count", "I", false)
  | 2 => ("PackWright$Cache", "used", "I", false)
  | _ => ("PackWright$Cache", "room", "I", false)
def xY0 : Nat → FieldType := fun k => match k with
  | 0 => .array (.object "PackWright$Version")
  | 1 => .int
  | 2 => .int
  | _ => .int
theorem xN0 : ∀ a, a < 4 → ∀ b, b < 4 → a ≠ b → (xT0 a).2.1 ≠ (xT0 b).2.1 := by decide +kernel
theorem xY0_ok : ∀ k, k < 4 → parseFieldDescriptor (xT0 k).2.2.1 = some (xY0 k) := by decide +kernel
def xT1 : u_T := fun k => match k with
  | 0 => ("PackWright$Chains", "lengths", "[I", true)
  | 1 => ("PackWright$Chains", "ahead", "[I", true)
  | 2 => ("PackWright$Chains", "queue", "[I", true)
  | _ => ("PackWright$Chains", "queued", "I", false)
def xY1 : Nat → FieldType := fun k => match k with
  | 0 => .array .int
  | 1 => .array .int
  | 2 => .array .int
  | _ => .int
theorem xN1 : ∀ a, a < 4 → ∀ b, b < 4 → a ≠ b → (xT1 a).2.1 ≠ (xT1 b).2.1 := by decide +kernel
theorem xY1_ok : ∀ k, k < 4 → parseFieldDescriptor (xT1 k).2.2.1 = some (xY1 k) := by decide +kernel
def xT2 : u_T := fun k => match k with
  | 0 => ("PackWright$Choice", "chosen", "[LPackWright$Version;", true)
  | _ => ("PackWright$Choice", "on", "[I", true)
def xY2 : Nat → FieldType := fun k => match k with
  | 0 => .array (.object "PackWright$Version")
  | _ => .array .int
theorem xN2 : ∀ a, a < 2 → ∀ b, b < 2 → a ≠ b → (xT2 a).2.1 ≠ (xT2 b).2.1 := by decide +kernel
theorem xY2_ok : ∀ k, k < 2 → parseFieldDescriptor (xT2 k).2.2.1 = some (xY2 k) := by decide +kernel
def xT3 : u_T := fun k => match k with
  | 0 => ("PackWright$Pack", "versions", "[LPackWright$Version;", true)
  | 1 => ("PackWright$Pack", "greatestFirst", "[LPackWright$Version;", true)
  | _ => ("PackWright$Pack", "count", "I", false)
def xY3 : Nat → FieldType := fun k => match k with
  | 0 => .array (.object "PackWright$Version")
  | 1 => .array (.object "PackWright$Version")
  | _ => .int
theorem xN3 : ∀ a, a < 3 → ∀ b, b < 3 → a ≠ b → (xT3 a).2.1 ≠ (xT3 b).2.1 := by decide +kernel
theorem xY3_ok : ∀ k, k < 3 → parseFieldDescriptor (xT3 k).2.2.1 = some (xY3 k) := by decide +kernel
def xT4 : u_T := fun k => match k with
  | 0 => ("PackWright$Plan", "isThere", "Z", false)
  | 1 => ("PackWright$Plan", "count", "I", false)
  | 2 => ("PackWright$Plan", "done", "I", false)
  | 3 => ("PackWright$Plan", "kinds", "[I", true)
  | 4 => ("PackWright$Plan", "packs", "[I", true)
  | _ => ("PackWright$Plan", "before", "[LPackWright$Version;", true)
def xY4 : Nat → FieldType := fun k => match k with
  | 0 => .boolean
  | 1 => .int
  | 2 => .int
  | 3 => .array .int
  | 4 => .array .int
  | _ => .array (.object "PackWright$Version")
theorem xN4 : ∀ a, a < 6 → ∀ b, b < 6 → a ≠ b → (xT4 a).2.1 ≠ (xT4 b).2.1 := by decide +kernel
theorem xY4_ok : ∀ k, k < 6 → parseFieldDescriptor (xT4 k).2.2.1 = some (xY4 k) := by decide +kernel
def xT5 : u_T := fun k => match k with
  | 0 => ("PackWright$Resolver", "asked", "LPackWright$Wishes;", true)
  | 1 => ("PackWright$Resolver", "choice", "LPackWright$Choice;", true)
  | 2 => ("PackWright$Resolver", "tryCount", "I", false)
  | 3 => ("PackWright$Resolver", "candidates", "[LPackWright$Version;", true)
  | 4 => ("PackWright$Resolver", "candidateCounts", "[I", true)
  | 5 => ("PackWright$Resolver", "triedCounts", "[I", true)
  | 6 => ("PackWright$Resolver", "row", "[I", true)
  | 7 => ("PackWright$Resolver", "rowLength", "I", false)
  | 8 => ("PackWright$Resolver", "rowSet", "I", false)
  | 9 => ("PackWright$Resolver", "levels", "[I", true)
  | _ => ("PackWright$Resolver", "levelCount", "I", false)
def xY5 : Nat → FieldType := fun k => match k with
  | 0 => .object "PackWright$Wishes"
  | 1 => .object "PackWright$Choice"
  | 2 => .int
  | 3 => .array (.object "PackWright$Version")
  | 4 => .array .int
  | 5 => .array .int
  | 6 => .array .int
  | 7 => .int
  | 8 => .int
  | 9 => .array .int
  | _ => .int
theorem xN5 : ∀ a, a < 11 → ∀ b, b < 11 → a ≠ b → (xT5 a).2.1 ≠ (xT5 b).2.1 := by decide +kernel
theorem xY5_ok : ∀ k, k < 11 → parseFieldDescriptor (xT5 k).2.2.1 = some (xY5 k) := by decide +kernel
def xT6 : u_T := fun k => match k with
  | 0 => ("PackWright$Wishes", "row", "[LPackWright$Claim;", true)
  | _ => ("PackWright$Wishes", "count", "I", false)
def xY6 : Nat → FieldType := fun k => match k with
  | 0 => .array (.object "PackWright$Claim")
  | _ => .int
theorem xN6 : ∀ a, a < 2 → ∀ b, b < 2 → a ≠ b → (xT6 a).2.1 ≠ (xT6 b).2.1 := by decide +kernel
theorem xY6_ok : ∀ k, k < 2 → parseFieldDescriptor (xT6 k).2.2.1 = some (xY6 k) := by decide +kernel
def xT7 : u_T := fun k => match k with
  | 0 => ("PackWright", "packs", "[LPackWright$Pack;", true)
  | 1 => ("PackWright", "packCount", "I", false)
  | 2 => ("PackWright", "wished", "LPackWright$Wishes;", true)
  | 3 => ("PackWright", "lock", "LPackWright$Choice;", true)
  | 4 => ("PackWright", "onDisk", "LPackWright$Choice;", true)
  | 5 => ("PackWright", "resolver", "LPackWright$Resolver;", true)
  | 6 => ("PackWright", "chains", "LPackWright$Chains;", true)
  | 7 => ("PackWright", "planned", "LPackWright$Plan;", true)
  | 8 => ("PackWright", "cache", "LPackWright$Cache;", true)
  | 9 => ("PackWright", "trialCache", "LPackWright$Cache;", true)
  | 10 => ("PackWright", "diskRoom", "I", false)
  | 11 => ("PackWright", "latestTries", "I", false)
  | _ => ("PackWright", "fetchCount", "I", false)
def xY7 : Nat → FieldType := fun k => match k with
  | 0 => .array (.object "PackWright$Pack")
  | 1 => .int
  | 2 => .object "PackWright$Wishes"
  | 3 => .object "PackWright$Choice"
  | 4 => .object "PackWright$Choice"
  | 5 => .object "PackWright$Resolver"
  | 6 => .object "PackWright$Chains"
  | 7 => .object "PackWright$Plan"
  | 8 => .object "PackWright$Cache"
  | 9 => .object "PackWright$Cache"
  | 10 => .int
  | 11 => .int
  | _ => .int
theorem xN7 : ∀ a, a < 13 → ∀ b, b < 13 → a ≠ b → (xT7 a).2.1 ≠ (xT7 b).2.1 := by decide +kernel
theorem xY7_ok : ∀ k, k < 13 → parseFieldDescriptor (xT7 k).2.2.1 = some (xY7 k) := by decide +kernel
def xT8 : u_T := fun k => match k with
  | 0 => ("PackWright$Claim", "target", "I", true)
  | 1 => ("PackWright$Claim", "condition", "I", true)
  | 2 => ("PackWright$Claim", "features", "I", true)
  | 3 => ("PackWright$Claim", "range", "LPackWright$Range;", true)
  | _ => ("PackWright$Claim", "next", "LPackWright$Claim;", false)
def xY8 : Nat → FieldType := fun k => match k with
  | 0 => .int
  | 1 => .int
  | 2 => .int
  | 3 => .object "PackWright$Range"
  | _ => .object "PackWright$Claim"
theorem xN8 : ∀ a, a < 5 → ∀ b, b < 5 → a ≠ b → (xT8 a).2.1 ≠ (xT8 b).2.1 := by decide +kernel
theorem xY8_ok : ∀ k, k < 5 → parseFieldDescriptor (xT8 k).2.2.1 = some (xY8 k) := by decide +kernel
def xT9 : u_T := fun k => match k with
  | 0 => ("PackWright$Range", "first", "I", true)
  | _ => ("PackWright$Range", "end", "I", true)
def xY9 : Nat → FieldType := fun k => match k with
  | 0 => .int
  | _ => .int
theorem xN9 : ∀ a, a < 2 → ∀ b, b < 2 → a ≠ b → (xT9 a).2.1 ≠ (xT9 b).2.1 := by decide +kernel
theorem xY9_ok : ∀ k, k < 2 → parseFieldDescriptor (xT9 k).2.2.1 = some (xY9 k) := by decide +kernel
def xT10 : u_T := fun k => match k with
  | 0 => ("PackWright$Version", "number", "I", true)
  | 1 => ("PackWright$Version", "mark", "I", true)
  | 2 => ("PackWright$Version", "size", "I", true)
  | 3 => ("PackWright$Version", "isWithdrawn", "Z", false)
  | 4 => ("PackWright$Version", "firstNeed", "LPackWright$Claim;", false)
  | 5 => ("PackWright$Version", "needCount", "I", false)
  | 6 => ("PackWright$Version", "firstClash", "LPackWright$Claim;", false)
  | _ => ("PackWright$Version", "clashCount", "I", false)
def xY10 : Nat → FieldType := fun k => match k with
  | 0 => .int
  | 1 => .int
  | 2 => .int
  | 3 => .boolean
  | 4 => .object "PackWright$Claim"
  | 5 => .int
  | 6 => .object "PackWright$Claim"
  | _ => .int
theorem xN10 : ∀ a, a < 8 → ∀ b, b < 8 → a ≠ b → (xT10 a).2.1 ≠ (xT10 b).2.1 := by decide +kernel
theorem xY10_ok : ∀ k, k < 8 → parseFieldDescriptor (xT10 k).2.2.1 = some (xY10 k) := by decide +kernel
def xT11 : u_T := fun k => match k with
  | 0 => ("PackWrightLaw$Reg", "m", "LPackWright;", true)
  | 1 => ("PackWrightLaw$Reg", "s", "[I", true)
  | 2 => ("PackWrightLaw$Reg", "draws", "I", false)
  | 3 => ("PackWrightLaw$Reg", "packages", "I", false)
  | 4 => ("PackWrightLaw$Reg", "count", "[I", true)
  | 5 => ("PackWrightLaw$Reg", "numbers", "[[[I", true)
  | 6 => ("PackWrightLaw$Reg", "size", "[[I", true)
  | 7 => ("PackWrightLaw$Reg", "isWithdrawn", "[[Z", true)
  | 8 => ("PackWrightLaw$Reg", "needs", "[[[I", true)
  | 9 => ("PackWrightLaw$Reg", "clashes", "[[[I", true)
  | 10 => ("PackWrightLaw$Reg", "wishes", "I", false)
  | 11 => ("PackWrightLaw$Reg", "wish", "[[I", true)
  | _ => ("PackWrightLaw$Reg", "tries", "I", false)
def xY11 : Nat → FieldType := fun k => match k with
  | 0 => .object "PackWright"
  | 1 => .array .int
  | 2 => .int
  | 3 => .int
  | 4 => .array .int
  | 5 => .array (.array (.array .int))
  | 6 => .array (.array .int)
  | 7 => .array (.array .boolean)
  | 8 => .array (.array (.array .int))
  | 9 => .array (.array (.array .int))
  | 10 => .int
  | 11 => .array (.array .int)
  | _ => .int
theorem xN11 : ∀ a, a < 13 → ∀ b, b < 13 → a ≠ b → (xT11 a).2.1 ≠ (xT11 b).2.1 := by decide +kernel
theorem xY11_ok : ∀ k, k < 13 → parseFieldDescriptor (xT11 k).2.2.1 = some (xY11 k) := by decide +kernel
/-- the classes whose objects the worlds hold -/
abbrev classes : List vw_C := [("PackWright$Cache", xT0, 4), ("PackWright$Chains", xT1, 4), ("PackWright$Choice", xT2, 2), ("PackWright$Pack", xT3, 3), ("PackWright$Plan", xT4, 6), ("PackWright$Resolver", xT5, 11), ("PackWright$Wishes", xT6, 2), ("PackWright", xT7, 13), ("PackWright$Claim", xT8, 5), ("PackWright$Range", xT9, 2), ("PackWright$Version", xT10, 8), ("PackWrightLaw$Reg", xT11, 13)]
end
section
/-! ===== BEGIN words of one list among another's, by their places ===== -/
theorem goodIn_r {big : List Cond} (ws : List Cond) (ps : List Nat) (hp : ws = ps.filterMap (fun i => big[i]?)) (h : ws.all goodWord = true) : GoodIn big ws := by
  intro w hw
  have h1 := List.all_eq_true.mp h w hw
  rw [hp] at hw
  obtain ⟨i, -, hi⟩ := List.mem_filterMap.mp hw
  have hm : w ∈ big := by first | exact List.mem_of_getElem? hi | exact List.getElem?_mem hi
  exact ⟨hm, good_of_word h1⟩
theorem goodIn_app {big a b : List Cond} (ha : GoodIn big a) (hb : GoodIn big b) : GoodIn big (a ++ b) := fun w h => (List.mem_append.mp h).elim (ha w) (hb w)
theorem goodIn_ca {big a b : List Cond} {c : Cond} (ha : GoodIn big (c :: a)) (hb : GoodIn big b) : GoodIn big (c :: (a ++ b)) := fun w h => (List.mem_cons.mp h).elim (fun e => ha w (List.mem_cons.mpr (Or.inl e))) (fun h => (List.mem_append.mp h).elim (fun h => ha w (List.mem_cons.mpr (Or.inr h))) (hb w))
theorem goodIn_sub {big ws : List Cond} (hm : ∀ w ∈ ws, w ∈ big) (h : ws.all goodWord = true) : GoodIn big ws := fun w hw => ⟨hm w hw, good_of_word (List.all_eq_true.mp h w hw)⟩
/-! ===== END ===== -/
/-! ===== BEGIN exceptions that leave a method, and their catching by the caller (launches without stack traces) ===== -/
section VXA
/-! The laws vx_back, vx_callV, vx_callS, vx_callSW, vx_throw0, vx_throwS follow proofs of the library, with one case more: JvmDerived/Free/Laws.lean (Back.of_free), Shelf42/LK1.lean (callV, callS), Shelf/KitTraced.lean (throwNew0V, throwNewS). -/
/-- where a method has thrown q: the class by its name, the cell, what was written, the world -/
def vx_T (XC : String → State → State → Prop) (st : State) (q : Addr) (t : State) (mc ms : Nat) (free : Addr → Prop) : Prop :=
  ∃ (E : String) (ce : Cell) (L : List Loc), XC E st t ∧ t.heap[q]? = some ce ∧ ce.vm = .none ∧ st.vm.findClass E = some ce.cls ∧ st.WarmedH t.vm ∧ st.sameButNew ({ t with vm := st.vm } : State) L mc ms ∧ ∀ z ∈ L, free z.base
def vx_Q (Qc : Array Value → State → Outcome → State → Prop) (XC : String → State → State → Prop) (mc ms : Nat) (free : Addr → Prop) : Array Value → State → Outcome → State → Prop := fun a st o t =>
  (Qc a st o t ∧ ∃ L, FrameEnd st o t L mc ms ∧ ∀ q ∈ L, free q.base) ∨ ∃ q, o = .threw q ∧ vx_T XC st q t mc ms free
/-- a callee that returns or throws -/
def vx_Met (l : Launch) (y : MethodName) (ws : List Cond) (rm : Room) (Pc : Array Value → State → Prop) (Qc : Array Value → State → Outcome → State → Prop) (XC : String → State → State → Prop) (mc ms : Nat) (free : Addr → Prop) : Prop :=
  MetFree l y (headSpec ws rm) Pc (fun _ _ _ _ _ => True) (vx_Q Qc XC mc ms free)
def vx_Post (XC : String → State → State → Prop) (mc ms : Nat) (free : Addr → Prop) : Pt → Array Value → Addr → Pt → Prop := fun A a q B =>
  ∃ (g : JFrame) (mk : MethodId) (t : State) (L : List Loc) (E : String) (ce : Cell), B.U.heap = t.heap ∧ B.U.vm = t.vm ∧ XC E (A.U.calling g mk a) t ∧ t.heap[q]? = some ce ∧ ce.vm = .none ∧ A.U.vm.findClass E = some ce.cls ∧ B.locs = A.locs ++ L ∧ (∀ z ∈ L, free z.base) ∧ B.cells = A.cells + mc ∧ B.slots = A.slots + ms
def vx_Back (l : Launch) (R : Room) (p : Program) (e : Env) (below : List Frame) (s : State) (sargs : Array Value) (y : MethodName) (len W9 : Nat)
    (Pre : Pt → Array Value → Prop) (Post : Pt → Array Value → Option Value → Pt → Prop) (PostX : Pt → Array Value → Addr → Pt → Prop) : Prop :=
  ∀ (m : MethodId) (meth : Method) (c : Code) (A : Pt) (g : JFrame) (ig : Instr) (mk : MethodId) (a : Array Value),
    Stand p l e R s m sargs below meth c A.U A.locs A.cells A.slots → g.method = m → g.locals.size = c.maxLocals → decode c.code g.pc = .ok (ig, len) →
    2 * g.monitorRoom + (g.stack.map fun v => v.category).sum ≤ W9 → A.U.methodNamed? y = some mk → Pre A a →
    (∃ (v : Option Value) (B : Pt), Stand p l e R s m sargs below meth c B.U B.locs B.cells B.slots ∧ Post A a v B ∧
      Steps p.tables e below (doInvoke e (A.U.setTop g) [] mk a).1 (B.U.setTop { g with pc := g.pc + len, stack := v.toList ++ g.stack })) ∨
    (∃ (q : Addr) (B : Pt), Stand p l e R s m sargs below meth c B.U B.locs B.cells B.slots ∧ PostX A a q B ∧
      Steps p.tables e below (doInvoke e (A.U.setTop g) [] mk a).1 ((B.U.setTop g).pushFrame (.throwing q)))
section Payer
variable {l : Launch} {R : Room} {p : Program} {e : Env} {below : List Frame} {s : State} {sargs : Array Value} {y : MethodName} {len W9 : Nat}
theorem vx_back {ws : List Cond} {rm : Room} {Pc : Array Value → State → Prop} {Qc : Array Value → State → Outcome → State → Prop} {XC : String → State → State → Prop} {mc ms : Nat} {free : Addr → Prop} {bytes : ByteArray} {maxL : Nat} {ret : Option FieldType}
    (hM : vx_Met l y ws rm Pc Qc XC mc ms free) (hblind : FrameBlind Pc) (hrc : rm.cells = mc) (hrs : rm.slots = ms)
    (hframes : rm.frames + 1 ≤ R.frames) (hlocals : W9 + (maxL + 11) + rm.locals ≤ R.locals)
    (hws : ∀ w ∈ ws, ∀ a' U, s.WarmedH U.vm → w.before a' U = true) (hcode : Cond.code y bytes maxL ret ∈ ws) (hinit : ∀ a' U, s.WarmedH U.vm → (Cond.initialized y.cls).before a' U = true) :
    vx_Back l R p e below s sargs y len W9 (PreOf R mc ms Pc) (PostOf Qc mc ms free) (vx_Post XC mc ms free) := by
  intro m meth c A g ig mk a X hg hsize hdg hW hn hp
  have h1 : (headSpec ws rm).pre.before a A.U = true := atoms_intro fun w hw => hws w hw _ _ X.warmed
  have h2 : (Cond.code y bytes maxL ret).before a A.U = true := hws _ hcode _ _ X.warmed
  have h3 : (Cond.initialized y.cls).before a A.U = true := hinit _ _ X.warmed
  have h4 : A.cells + (headSpec ws rm).room.cells ≤ R.cells := by rw [show (headSpec ws rm).room.cells = mc from hrc]; exact hp.1
  have h5 : A.slots + (headSpec ws rm).room.slots ≤ R.slots := by rw [show (headSpec ws rm).room.slots = ms from hrs]; exact hp.2.1
  have hPc : Pc a (A.U.calling g mk a) := hblind _ _ _ _ hp.2.2
  obtain ⟨U, Ls, c0, s0⟩ := A
  dsimp only [Pt.U, Pt.locs, Pt.cells, Pt.slots] at h1 h2 h3 h4 h5 X hn hPc ⊢
  obtain ⟨methY, cY, hmY, hcY, -, hlY, -, -, -, -⟩ := Cond.code_spec hn h2
  obtain ⟨kY, hkY, -⟩ := className_of_methodNamed hn
  have hinitY : kY.init = .initialized := Cond.initialized_spec (findClass_of_methodNamed hn) hkY h3
  have h : At U g.method c below := by rw [hg]; exact X.here
  have hlocals9 : W9 + (maxL + 11) + (headSpec ws rm).room.locals ≤ R.locals := hlocals
  have happ : (headSpec ws rm).appliesLoose y e.platform (U.calling g mk a) = true :=
    Spec.appliesLoose_calling (g := g) h hdg hn hkY hinitY
      (X.room_calling (g := g) (R' := (headSpec ws rm).room) hsize hmY hcY hframes (by rw [hlY]; omega) h4 h5) h1
  obtain ⟨mid, hmid⟩ := h.above
  have hfr : (U.setTop g).frames = (.java g :: mid) ++ below := by rw [State.frames_setTop' g h.top, hmid]; rfl
  obtain ⟨o, s₂, hsteps, -, hend, hq⟩ := Steps.callFree hM p X.admits X.cas X.clock (acts := []) hfr happ hPc trivial
  have hq' : vx_Q Qc XC mc ms free a (U.calling g mk a) o s₂ := hq
  rw [State.frames_setTop' g h.top] at hend
  obtain ⟨g₀, hg0⟩ := Option.isSome_iff_exists.mp h.top
  obtain ⟨r, hr⟩ := State.topJava?_eq_some.mp hg0
  have hr' : (({ U with heap := s₂.heap, slotsUsed := s₂.slotsUsed } : State).setVm s₂.vm).frames = .java g₀ :: r := hr
  rcases hq' with ⟨hqc, L, hfe, hL⟩ | ⟨q, rfl, E, ce, L, hx, hce, hcv, hcl, hW₂, hsm, hL⟩
  · obtain ⟨⟨v, rfl⟩, hW₂, e2, q2, q3, q4, q5, q6⟩ := id hfe
    have e3 : s₂ = ({ (U.calling g mk a).setFrames s₂.frames with heap := s₂.heap, slotsUsed := s₂.slotsUsed } : State).setVm s₂.vm := by
      have : s₂ = ({ s₂ with vm := (U.calling g mk a).vm } : State).setVm s₂.vm := rfl
      rw [e2] at this
      exact this
    obtain ⟨c₂, i₂, len₂, hc₂, hd₂, hf₂⟩ := hend
    have hW' : U.WarmedH s₂.vm := hW₂
    have hcc : c₂ = c := by
      have h1 : s₂.code? g.method = U.code? g.method := by
        rw [State.code?_eq, State.code?_eq, hW'.alike.method?]
      exact Option.some.inj (hc₂.symm.trans (h1.trans h.code))
    subst hcc
    have hlen : len₂ = len := by rw [hdg] at hd₂; cases hd₂; rfl
    subst hlen
    have hs₂ : s₂ = (({ U with heap := s₂.heap, slotsUsed := s₂.slotsUsed } : State).setVm s₂.vm).setTop { g with pc := g.pc + len₂, stack := v.toList ++ g.stack } := by
      refine e3.trans ?_
      rw [hf₂, State.calling_eq h.top, State.setFrames_setFrames, State.setTop_of_frames _ hr', hr]
      rfl
    have hsame : U.sameButNew ({ U with heap := s₂.heap, slotsUsed := s₂.slotsUsed } : State) L mc ms := by
      refine ⟨?_, q2, q3, q4, q5, q6⟩
      obtain ⟨t, ht, -⟩ := State.frames_cons hr
      show ({ U with heap := s₂.heap, slotsUsed := s₂.slotsUsed } : State) = { U.setFrames U.frames with heap := s₂.heap, slotsUsed := s₂.slotsUsed }
      rw [State.setFrames_self ht]
    subst hg
    refine Or.inl ⟨v, ⟨(({ U with heap := s₂.heap, slotsUsed := s₂.slotsUsed } : State).setVm s₂.vm), Ls ++ L, c0 + mc, s0 + ms⟩,
      ⟨X.admits, X.cas, X.clock, X.frames, X.room, X.hears, X.method, X.code, (X.here.setHeapUsed s₂.heap s₂.slotsUsed).setVm hW'.alike, X.tail, State.WarmedH.trans X.warmed hW', X.limits, X.bytes, X.same.trans (hsame.setVm s.vm)⟩,
      ⟨g, mk, s₂, L, rfl, rfl, hqc, rfl, hL, rfl, rfl⟩, ?_⟩
    show Steps p.tables e below _ ((({ U with heap := s₂.heap, slotsUsed := s₂.slotsUsed } : State).setVm s₂.vm).setTop { g with pc := g.pc + len₂, stack := v.toList ++ g.stack })
    rw [← hs₂]
    exact hsteps
  · obtain ⟨e2, q2, q3, q4, q5, q6⟩ := id hsm
    have e3 : s₂ = ({ (U.calling g mk a).setFrames s₂.frames with heap := s₂.heap, slotsUsed := s₂.slotsUsed } : State).setVm s₂.vm := by
      have : s₂ = ({ s₂ with vm := (U.calling g mk a).vm } : State).setVm s₂.vm := rfl
      rw [e2] at this
      exact this
    have hf₂ : s₂.frames = .throwing q :: .java g :: U.frames.tail := hend
    have hW' : U.WarmedH s₂.vm := hW₂
    have hs₂ : s₂ = ((({ U with heap := s₂.heap, slotsUsed := s₂.slotsUsed } : State).setVm s₂.vm).setTop g).pushFrame (.throwing q) := by
      refine e3.trans ?_
      rw [hf₂, State.calling_eq h.top, State.setFrames_setFrames, State.pushFrame, State.frames_setTop _ hr', State.setTop_of_frames _ hr', State.setFrames_setFrames, hr]
      rfl
    have hsame : U.sameButNew ({ U with heap := s₂.heap, slotsUsed := s₂.slotsUsed } : State) L mc ms := by
      refine ⟨?_, q2, q3, q4, q5, q6⟩
      obtain ⟨t, ht, -⟩ := State.frames_cons hr
      show ({ U with heap := s₂.heap, slotsUsed := s₂.slotsUsed } : State) = { U.setFrames U.frames with heap := s₂.heap, slotsUsed := s₂.slotsUsed }
      rw [State.setFrames_self ht]
    subst hg
    refine Or.inr ⟨q, ⟨(({ U with heap := s₂.heap, slotsUsed := s₂.slotsUsed } : State).setVm s₂.vm), Ls ++ L, c0 + mc, s0 + ms⟩,
      ⟨X.admits, X.cas, X.clock, X.frames, X.room, X.hears, X.method, X.code, (X.here.setHeapUsed s₂.heap s₂.slotsUsed).setVm hW'.alike, X.tail, State.WarmedH.trans X.warmed hW', X.limits, X.bytes, X.same.trans (hsame.setVm s.vm)⟩,
      ⟨g, mk, s₂, L, E, ce, rfl, rfl, hx, hce, hcv, hcl, rfl, hL, rfl, rfl⟩, ?_⟩
    show Steps p.tables e below _ (((({ U with heap := s₂.heap, slotsUsed := s₂.slotsUsed } : State).setVm s₂.vm).setTop g).pushFrame (.throwing q))
    rw [← hs₂]
    exact hsteps
end Payer
section Calls
variable {p : Program} {l : Launch} {e : Env} {R : Room} {s : State} {m : MethodId} {args : Array Value} {below : List Frame} {meth : Method} {c : Code} {T : State} {locs : List Loc} {cells slots : Nat}
theorem vx_callV (X : Stand p l e R s m args below meth c T locs cells slots) (hexec : p.tables.exec = Jvm.exec) {own C : String} {index : Nat} {y : MethodName} {bytes : ByteArray} {maxL : Nat} {ret : Option FieldType}
    (hown : s.vm.findClass own = some m.cls) (hlink : (Cond.methodLink own index y).before args s = true) (hinst : (Cond.instanceMethod y).before args s = true) (hsel : (Cond.selects C y y).before args s = true)
    (hcode : (Cond.code y bytes maxL ret).before args s = true) (hy : y.cls ≠ "java/lang/invoke/MethodHandle" ∧ y.cls ≠ "java/lang/invoke/VarHandle")
    {W9 : Nat} {Pre : Pt → Array Value → Prop} {Post : Pt → Array Value → Option Value → Pt → Prop} {PostX : Pt → Array Value → Addr → Pt → Prop} (hK : vx_Back l R p e below s args y 3 W9 Pre Post PostX)
    {b : Addr} {cellB : Cell} (hcell : T.heap[b]? = some cellB) (hobj : cellB.vm.isStatics = false) (hcls : s.vm.findClass C = some cellB.cls)
    {g : JFrame} (hg : g.method = m) (hsize : g.locals.size = c.maxLocals) {argsL rest : List Value} (hlen : ∀ sig, parseMethodDescriptor y.desc = some sig → argsL.length = sig.parameters.length)
    (hstack : g.stack = argsL.reverse ++ .ref b :: rest) (hW : 2 * g.monitorRoom + (rest.map fun v => v.category).sum ≤ W9) (hdg : decode c.code g.pc = .ok (.invokevirtual index, 3))
    (hpre : ∀ vm₁, s.WarmedH vm₁ → Pre ⟨T.setVm vm₁, locs, cells, slots⟩ (Value.ref b :: argsL).toArray) :
    (∃ (v : Option Value) (vm₁ : Vm) (B : Pt), s.WarmedH vm₁ ∧ Stand p l e R s m args below meth c B.U B.locs B.cells B.slots ∧ Post ⟨T.setVm vm₁, locs, cells, slots⟩ (Value.ref b :: argsL).toArray v B ∧
      ∀ target, Steps p.tables e below (B.U.setTop { g with pc := g.pc + 3, stack := v.toList ++ rest }) target → Steps p.tables e below (T.setTop g) target) ∨
    (∃ (q : Addr) (vm₁ : Vm) (B : Pt), s.WarmedH vm₁ ∧ Stand p l e R s m args below meth c B.U B.locs B.cells B.slots ∧ PostX ⟨T.setVm vm₁, locs, cells, slots⟩ (Value.ref b :: argsL).toArray q B ∧
      Steps p.tables e below (T.setTop g) ((B.U.setTop { g with stack := rest }).pushFrame (.throwing q))) := by
  obtain ⟨mk, methM, hnamed, hmethM, hstM, habM⟩ := Cond.instanceMethod_spec hinst
  obtain ⟨methM', cM, hmethM', -, -, -, -, -, -, hsigM⟩ := Cond.code_spec hnamed hcode
  cases hmethM.symm.trans hmethM'
  obtain ⟨c2, r2, m2, q1, q2, q3, q4, kP, hkP, hkPi⟩ := Cond.selects_spec hsel
  cases hcls.symm.trans q1
  cases (State.methodFound?_of_named hnamed hy).symm.trans q2
  cases hnamed.symm.trans q3
  have hselP : selectMethod e.platform s.vm cellB.cls mk = .method mk := by rw [Launch.admits_selectMethod X.admits]; exact q4
  obtain ⟨vm₁, X₁, hstep₁⟩ := X.invokevirtual hexec hown hlink hnamed hmethM hstM hkP hkPi hy (a := b) (cell := cellB) hcell
    (fun z h => by rw [h] at hobj; cases hobj) hselP hmethM habM hkP hkPi (g := g) hg (argsL := argsL) (rest := rest) (hlen _ hsigM) hstack hdg
  rcases hK m meth c ⟨T.setVm vm₁, locs, cells, slots⟩ { g with stack := rest } (.invokevirtual index) mk (Value.ref b :: argsL).toArray X₁ hg hsize hdg hW (X₁.named hnamed) (hpre vm₁ X₁.warmed) with ⟨v, B, X', hpost, hsteps⟩ | ⟨q, B, X', hpost, hsteps⟩
  · exact Or.inl ⟨v, vm₁, B, X₁.warmed, X', hpost, fun target h => hstep₁ _ fun acts => by rw [doInvoke_state]; exact hsteps.trans h⟩
  · exact Or.inr ⟨q, vm₁, B, X₁.warmed, X', hpost, hstep₁ _ fun acts => by rw [doInvoke_state]; exact hsteps⟩
theorem vx_callS (X : Stand p l e R s m args below meth c T locs cells slots) (hexec : p.tables.exec = Jvm.exec) {own : String} {index : Nat} {y : MethodName} {bytes : ByteArray} {maxL : Nat} {ret : Option FieldType}
    (hown : s.vm.findClass own = some m.cls) (hlink : (Cond.methodLink own index y).before args s = true) (hstat : (Cond.static y).before args s = true) (hinit : (Cond.initialized y.cls).before args s = true)
    (hcode : (Cond.code y bytes maxL ret).before args s = true) (hy : y.cls ≠ "java/lang/invoke/MethodHandle" ∧ y.cls ≠ "java/lang/invoke/VarHandle")
    {W9 : Nat} {Pre : Pt → Array Value → Prop} {Post : Pt → Array Value → Option Value → Pt → Prop} {PostX : Pt → Array Value → Addr → Pt → Prop} (hK : vx_Back l R p e below s args y 3 W9 Pre Post PostX)
    {g : JFrame} (hg : g.method = m) (hsize : g.locals.size = c.maxLocals) {argsL rest : List Value} (hlen : ∀ sig, parseMethodDescriptor y.desc = some sig → argsL.length = sig.parameters.length)
    (hstack : g.stack = argsL.reverse ++ rest) (hW : 2 * g.monitorRoom + (rest.map fun v => v.category).sum ≤ W9) (hdg : decode c.code g.pc = .ok (.invokestatic index, 3))
    (hpre : ∀ vm₁, s.WarmedH vm₁ → Pre ⟨T.setVm vm₁, locs, cells, slots⟩ argsL.toArray) :
    (∃ (v : Option Value) (vm₁ : Vm) (B : Pt), s.WarmedH vm₁ ∧ Stand p l e R s m args below meth c B.U B.locs B.cells B.slots ∧ Post ⟨T.setVm vm₁, locs, cells, slots⟩ argsL.toArray v B ∧
      ∀ target, Steps p.tables e below (B.U.setTop { g with pc := g.pc + 3, stack := v.toList ++ rest }) target → Steps p.tables e below (T.setTop g) target) ∨
    (∃ (q : Addr) (vm₁ : Vm) (B : Pt), s.WarmedH vm₁ ∧ Stand p l e R s m args below meth c B.U B.locs B.cells B.slots ∧ PostX ⟨T.setVm vm₁, locs, cells, slots⟩ argsL.toArray q B ∧
      Steps p.tables e below (T.setTop g) ((B.U.setTop { g with stack := rest }).pushFrame (.throwing q))) := by
  obtain ⟨mk, hnamed⟩ := Cond.code_named hcode
  obtain ⟨methM, cM, hmethM, -, -, -, -, -, -, hsigM⟩ := Cond.code_spec hnamed hcode
  have hstatic : methM.isStatic = true := Cond.static_spec hnamed hmethM hstat
  obtain ⟨kP, hkP, -⟩ := className_of_methodNamed hnamed
  have hinitP : kP.init = .initialized := Cond.initialized_spec (findClass_of_methodNamed hnamed) hkP hinit
  obtain ⟨vm₁, X₁, hstep₁⟩ := X.invokestatic hexec hown hlink hnamed hmethM hstatic hkP hinitP hy (g := g) hg (argsL := argsL) (rest := rest) (hlen _ hsigM) hstack hdg
  rcases hK m meth c ⟨T.setVm vm₁, locs, cells, slots⟩ { g with stack := rest } (.invokestatic index) mk argsL.toArray X₁ hg hsize hdg hW (X₁.named hnamed) (hpre vm₁ X₁.warmed) with ⟨v, B, X', hpost, hsteps⟩ | ⟨q, B, X', hpost, hsteps⟩
  · exact Or.inl ⟨v, vm₁, B, X₁.warmed, X', hpost, fun target h => hstep₁ _ fun acts => by rw [doInvoke_state]; exact hsteps.trans h⟩
  · exact Or.inr ⟨q, vm₁, B, X₁.warmed, X', hpost, hstep₁ _ fun acts => by rw [doInvoke_state]; exact hsteps⟩
end Calls
theorem vx_cls {s : State} {T : State} {vm₁ : Vm} {E : String} {k : ClassId} (hW : s.WarmedH vm₁) (h : (T.setVm vm₁).vm.findClass E = some k) : s.vm.findClass E = some k := by
  have h1 : vm₁.findClass E = some k := h
  rw [hW.alike.findClass] at h1
  exact h1
/-- the method's frame g, with q thrown over it -/
def vx_W (p : Program) (l : Launch) (e : Env) (R : Room) (s : State) (m : MethodId) (args : Array Value) (below : List Frame) (meth : Method) (c : Code) (H : Heap) (locs : List Loc) (cells slots : Nat) (Q : State → Prop) (g : JFrame) (q : Addr) : Prop :=
  ∀ T : State, T.heap = H → Stand p l e R s m args below meth c T locs cells slots → ∃ t, Steps p.tables e below ((T.setTop g).pushFrame (.throwing q)) t ∧ Q t
def vx_Run (p : Program) (l : Launch) (e : Env) (R : Room) (s : State) (m : MethodId) (args : Array Value) (below : List Frame) (meth : Method) (c : Code) (H : Heap) (locs : List Loc) (cells slots mc ms : Nat) (g : JFrame) (rest : List Value) (Qa : State → Outcome → State → Prop) (XC : String → State → State → Prop) (free : Addr → Prop) : Prop :=
  ∀ T : State, T.heap = H → Stand p l e R s m args below meth c T locs cells slots →
    (∃ (v : Option Value) (st₀ t T' : State) (L : List Loc), st₀.heap = H ∧ Stand p l e R s m args below meth c T' (locs ++ L) (cells + mc) (slots + ms) ∧ (∀ q ∈ L, free q.base) ∧ T'.heap = t.heap ∧ T'.vm = t.vm ∧ Qa st₀ (.returned v) t ∧
      Goes p e below T g T' { g with pc := g.pc + 3, stack := v.toList ++ rest }) ∨
    (∃ (q : Addr) (st₀ t T' : State) (L : List Loc) (E : String) (ce : Cell), st₀.heap = H ∧ Stand p l e R s m args below meth c T' (locs ++ L) (cells + mc) (slots + ms) ∧ (∀ z ∈ L, free z.base) ∧ T'.heap = t.heap ∧ T'.vm = t.vm ∧ XC E st₀ t ∧ t.heap[q]? = some ce ∧ ce.vm = .none ∧ s.vm.findClass E = some ce.cls ∧
      Steps p.tables e below (T.setTop g) ((T'.setTop { g with stack := rest }).pushFrame (.throwing q)))
def vx_X {S : Type} (px : S → Prop) (B : String → S → State → Prop) (A : Nat → Prop) : String → State → State → Prop := fun E st t => ∃ u : S, px u ∧ B E u t ∧ va_F A st t
section Runs
variable {p : Program} {l : Launch} {e : Env} {R : Room} {s : State} {m : MethodId} {args : Array Value} {below : List Frame} {meth : Method} {c : Code} {H : Heap} {locs : List Loc} {cells slots : Nat}
variable {y : MethodName} {bytes cc : ByteArray} {maxL nL mc ms n index : Nat} {ret : Option FieldType} {ws : List Cond} {rm : Room} {Pc : Array Value → State → Prop} {Qc : Array Value → State → Outcome → State → Prop} {XC : String → State → State → Prop} {free : Addr → Prop} {Ts : List Cond} {own C : String} {b : Addr} {As rest : List Value} {g : JFrame}
theorem vx_callBack (cb : CallB R s args own index y bytes maxL ret ws rm mc ms n) (hM : vx_Met l y ws rm Pc Qc XC mc ms free) (hbl : FrameBlind Pc) : vx_Back l R p e below s args y 3 8 (PreOf R mc ms Pc) (PostOf Qc mc ms free) (vx_Post XC mc ms free) := by
  obtain ⟨hrc, hrs, hfr, hlo, hws, hcw, -, hini, -⟩ := cb
  exact vx_back (bytes := bytes) (maxL := maxL) (ret := ret) hM hbl hrc hrs hfr hlo hws hcw (fun a' U hW => word_at hW (Or.inl (by first | rfl | simp [Cond.onTables, Cond.keeps, Cond.steady])) hini)
theorem vx_runV (S : CallFix p m c cc nL s args Ts own) (hM : vx_Met l y ws rm Pc Qc XC mc ms free) (cw : CallW R s args own C index y bytes maxL ret ws rm mc ms n) (hp : PreV s H C b Pc As)
    (hg : g.method = m) (hn : As.length = n) (hsize : g.locals.size = nL) (hstack : g.stack = As.reverse ++ .ref b :: rest) (hW : 2 * g.monitorRoom + (rest.map fun v => v.category).sum ≤ 8) (hdg : decode cc g.pc = .ok (.invokevirtual index, 3)) (hf : cells + mc ≤ R.cells ∧ slots + ms ≤ R.slots) :
    vx_Run p l e R s m args below meth c H locs cells slots mc ms g rest (Qc (Value.ref b :: As).toArray) XC free := by
  have hK : vx_Back l R p e below s args y 3 8 (PreOf R mc ms Pc) (PostOf Qc mc ms free) (vx_Post XC mc ms free) := vx_callBack cw.1 hM hp.1
  obtain ⟨⟨-, -, -, -, -, -, hcode, -, hy, hlen, hl⟩, hin, hse⟩ := cw
  obtain ⟨hx, hb, hml, ho, -⟩ := S
  obtain ⟨-, ⟨cellB, hcB, hoB, hclB⟩, hPc⟩ := hp
  intro T hT X
  rcases vx_callV X hx (C := C) (bytes := bytes) (maxL := maxL) (ret := ret) ho hl hin hse hcode hy hK (by rw [hT]; exact hcB) hoB hclB hg (hsize.trans hml.symm) (argsL := As) (rest := rest) (fun sig h => hn.trans (hlen sig h)) hstack hW (by rw [hb]; exact hdg)
    (fun vm₁ hW₁ => ⟨hf.1, hf.2, hPc (T.setVm vm₁) hT hW₁⟩) with ⟨v, vm₁, ⟨U', l2, c2, s2⟩, hW₁, X', ⟨g', mk, t, L, e1, e2, hq, h1, hL, h2, h3⟩, st⟩ | ⟨q, vm₁, ⟨U', l2, c2, s2⟩, hW₁, X', ⟨g', mk, t, L, E, ce, e1, e2, hq, hce, hcv, hcl, h1, hL, h2, h3⟩, st⟩
  · dsimp only [Pt.U, Pt.locs, Pt.cells, Pt.slots] at X' e1 e2 h1 h2 h3 st
    subst h1; subst h2; subst h3
    exact Or.inl ⟨v, (T.setVm vm₁).calling g' mk (Value.ref b :: As).toArray, t, U', L, hT, X', hL, e1, e2, hq, st⟩
  · dsimp only [Pt.U, Pt.locs, Pt.cells, Pt.slots] at X' e1 e2 h1 h2 h3 st hcl
    subst h1; subst h2; subst h3
    exact Or.inr ⟨q, (T.setVm vm₁).calling g' mk (Value.ref b :: As).toArray, t, U', L, E, ce, hT, X', hL, e1, e2, hq, hce, hcv, vx_cls hW₁ hcl, st⟩
theorem vx_runS (S : CallFix p m c cc nL s args Ts own) (hM : vx_Met l y ws rm Pc Qc XC mc ms free) (cw : CallB R s args own index y bytes maxL ret ws rm mc ms n ∧ (Cond.static y).before args s = true) (hp : PreS s H Pc As)
    (hg : g.method = m) (hn : As.length = n) (hsize : g.locals.size = nL) (hstack : g.stack = As.reverse ++ rest) (hW : 2 * g.monitorRoom + (rest.map fun v => v.category).sum ≤ 8) (hdg : decode cc g.pc = .ok (.invokestatic index, 3)) (hf : cells + mc ≤ R.cells ∧ slots + ms ≤ R.slots) :
    vx_Run p l e R s m args below meth c H locs cells slots mc ms g rest (Qc As.toArray) XC free := by
  have hK : vx_Back l R p e below s args y 3 8 (PreOf R mc ms Pc) (PostOf Qc mc ms free) (vx_Post XC mc ms free) := vx_callBack cw.1 hM hp.1
  obtain ⟨⟨-, -, -, -, -, -, hcode, hini, hy, hlen, hl⟩, hstt⟩ := cw
  obtain ⟨hx, hb, hml, ho, -⟩ := S
  intro T hT X
  rcases vx_callS X hx (bytes := bytes) (maxL := maxL) (ret := ret) ho hl hstt hini hcode hy hK hg (hsize.trans hml.symm) (argsL := As) (rest := rest) (fun sig h => hn.trans (hlen sig h)) hstack hW (by rw [hb]; exact hdg)
    (fun vm₁ hW₁ => ⟨hf.1, hf.2, hp.2 (T.setVm vm₁) hT hW₁⟩) with ⟨v, vm₁, ⟨U', l2, c2, s2⟩, hW₁, X', ⟨g', mk, t, L, e1, e2, hq, h1, hL, h2, h3⟩, st⟩ | ⟨q, vm₁, ⟨U', l2, c2, s2⟩, hW₁, X', ⟨g', mk, t, L, E, ce, e1, e2, hq, hce, hcv, hcl, h1, hL, h2, h3⟩, st⟩
  · dsimp only [Pt.U, Pt.locs, Pt.cells, Pt.slots] at X' e1 e2 h1 h2 h3 st
    subst h1; subst h2; subst h3
    exact Or.inl ⟨v, (T.setVm vm₁).calling g' mk As.toArray, t, U', L, hT, X', hL, e1, e2, hq, st⟩
  · dsimp only [Pt.U, Pt.locs, Pt.cells, Pt.slots] at X' e1 e2 h1 h2 h3 st hcl
    subst h1; subst h2; subst h3
    exact Or.inr ⟨q, (T.setVm vm₁).calling g' mk As.toArray, t, U', L, E, ce, hT, X', hL, e1, e2, hq, hce, hcv, vx_cls hW₁ hcl, st⟩
end Runs
section Rows
variable {p : Program} {l : Launch} {e : Env} {R : Room} {s : State} {m : MethodId} {args : Array Value} {below : List Frame} {meth : Method} {c : Code} {H : Heap} {locs : List Loc} {cells slots : Nat} {Q : State → Prop}
variable {mc ms : Nat} {free : Addr → Prop} {A0 A1 : Nat → Prop} {H0 : Heap} {a : Array Value} {pc : Nat} {ls : Array Slot} {st0 rest : List Value}
theorem vx_keep {st₀ t T' : State} {L : List Loc} (h0 : st₀.heap = H) (e1 : T'.heap = t.heap) (hS : va_S A0 H0 H locs) (hA : ∀ q, q < H.size → A1 q → A0 q) (hf : ∀ q, free q → A0 q) (hL : ∀ q ∈ L, free q.base) (hF : va_F A1 st₀ t) :
    H.size ≤ T'.heap.size ∧ (∀ q : Nat, q < H.size → ¬ A1 q → T'.heap[q]? = H[q]?) ∧ va_S A0 H0 T'.heap (locs ++ L) := by
  obtain ⟨hz, hk⟩ := hF
  rw [h0] at hz hk
  exact ⟨by rw [e1]; exact hz, fun q h1 h2 => by rw [e1]; exact hk q h1 h2,
    ⟨Nat.le_trans hS.1 (by rw [e1]; exact hz), fun q h1 h2 => by rw [e1, hk q (Nat.lt_of_lt_of_le h1 hS.1) (fun z => h2 (hA q (Nat.lt_of_lt_of_le h1 hS.1) z))]; exact hS.2.1 q h1 h2, fun q hq => by
      rcases List.mem_append.mp hq with h | h
      · exact hS.2.2 q h
      · exact hf _ (hL q h)⟩⟩
theorem vx_calli {S SX : Type} {post : Int32 → S → Prop} {px : SX → Prop} {B : S → State → Prop} {BX : String → SX → State → Prop} {AX : Nat → Prop} (hr : vx_Run p l e R s m args below meth c H locs cells slots mc ms (F0 m pc ls st0) rest (va_Qi post B A1 a) (vx_X px BX AX) free) (hS : va_S A0 H0 H locs) (hA : ∀ q, q < H.size → A1 q → A0 q) (hf : ∀ q, free q → A0 q) (hAX : ∀ q, q < H.size → AX q → A0 q)
    (kx : ∀ (E : String) (ce : Cell) (q9 : Addr) (u : SX) (t : State) (H1 : Heap) (locs1 : List Loc), t.heap = H1 → s.vm.Alike t.vm → px u → BX E u t → H.size ≤ H1.size → (∀ q : Nat, q < H.size → ¬ AX q → H1[q]? = H[q]?) → va_S A0 H0 H1 locs1 → H1[q9]? = some ce → ce.vm = .none → s.vm.findClass E = some ce.cls → vx_W p l e R s m args below meth c H1 locs1 (cells + mc) (slots + ms) Q (F0 m pc ls rest) q9)
    (kk : ∀ (r : Int32) (u : S) (t : State) (H1 : Heap) (locs1 : List Loc), t.heap = H1 → s.vm.Alike t.vm → post r u → B u t → H.size ≤ H1.size → (∀ q : Nat, q < H.size → ¬ A1 q → H1[q]? = H[q]?) → va_S A0 H0 H1 locs1 → W p l e R s m args below meth c H1 locs1 (cells + mc) (slots + ms) Q (F0 m (pc + 3) ls (.int r :: rest))) : W p l e R s m args below meth c H locs cells slots Q (F0 m pc ls st0) := by
  intro T hT X
  rcases hr T hT X with ⟨v, st₀, t, T', L, h0, X', hL, e1, e2, ⟨⟨r, u, hv, hp, hb⟩, hF⟩, st⟩ | ⟨q, st₀, t, T', L, E, ce, h0, X', hL, e1, e2, ⟨u, hp, hb, hF⟩, hce, hcv, hcl, st⟩
  · cases hv
    obtain ⟨k1, k2, k3⟩ := vx_keep h0 e1 hS hA hf hL hF
    obtain ⟨t2, a1, b1⟩ := kk r u t T'.heap (locs ++ L) e1.symm (by rw [← e2]; exact X'.warmed.alike) hp hb k1 k2 k3 T' rfl X'
    exact ⟨t2, st t2 a1, b1⟩
  · obtain ⟨k1, k2, k3⟩ := vx_keep h0 e1 hS hAX hf hL hF
    obtain ⟨t2, a1, b1⟩ := kx E ce q u t T'.heap (locs ++ L) e1.symm (by rw [← e2]; exact X'.warmed.alike) hp hb k1 k2 k3 (by rw [e1]; exact hce) hcv hcl T' rfl X'
    exact ⟨t2, st.trans a1, b1⟩
theorem vx_calll {S SX : Type} {post : Int64 → S → Prop} {px : SX → Prop} {B : S → State → Prop} {BX : String → SX → State → Prop} {AX : Nat → Prop} (hr : vx_Run p l e R s m args below meth c H locs cells slots mc ms (F0 m pc ls st0) rest (va_Ql post B A1 a) (vx_X px BX AX) free) (hS : va_S A0 H0 H locs) (hA : ∀ q, q < H.size → A1 q → A0 q) (hf : ∀ q, free q → A0 q) (hAX : ∀ q, q < H.size → AX q → A0 q)
    (kx : ∀ (E : String) (ce : Cell) (q9 : Addr) (u : SX) (t : State) (H1 : Heap) (locs1 : List Loc), t.heap = H1 → s.vm.Alike t.vm → px u → BX E u t → H.size ≤ H1.size → (∀ q : Nat, q < H.size → ¬ AX q → H1[q]? = H[q]?) → va_S A0 H0 H1 locs1 → H1[q9]? = some ce → ce.vm = .none → s.vm.findClass E = some ce.cls → vx_W p l e R s m args below meth c H1 locs1 (cells + mc) (slots + ms) Q (F0 m pc ls rest) q9)
    (kk : ∀ (r : Int64) (u : S) (t : State) (H1 : Heap) (locs1 : List Loc), t.heap = H1 → s.vm.Alike t.vm → post r u → B u t → H.size ≤ H1.size → (∀ q : Nat, q < H.size → ¬ A1 q → H1[q]? = H[q]?) → va_S A0 H0 H1 locs1 → W p l e R s m args below meth c H1 locs1 (cells + mc) (slots + ms) Q (F0 m (pc + 3) ls (.long r :: rest))) : W p l e R s m args below meth c H locs cells slots Q (F0 m pc ls st0) := by
  intro T hT X
  rcases hr T hT X with ⟨v, st₀, t, T', L, h0, X', hL, e1, e2, ⟨⟨r, u, hv, hp, hb⟩, hF⟩, st⟩ | ⟨q, st₀, t, T', L, E, ce, h0, X', hL, e1, e2, ⟨u, hp, hb, hF⟩, hce, hcv, hcl, st⟩
  · cases hv
    obtain ⟨k1, k2, k3⟩ := vx_keep h0 e1 hS hA hf hL hF
    obtain ⟨t2, a1, b1⟩ := kk r u t T'.heap (locs ++ L) e1.symm (by rw [← e2]; exact X'.warmed.alike) hp hb k1 k2 k3 T' rfl X'
    exact ⟨t2, st t2 a1, b1⟩
  · obtain ⟨k1, k2, k3⟩ := vx_keep h0 e1 hS hAX hf hL hF
    obtain ⟨t2, a1, b1⟩ := kx E ce q u t T'.heap (locs ++ L) e1.symm (by rw [← e2]; exact X'.warmed.alike) hp hb k1 k2 k3 (by rw [e1]; exact hce) hcv hcl T' rfl X'
    exact ⟨t2, st.trans a1, b1⟩
theorem vx_callf {S SX : Type} {post : UInt32 → S → Prop} {px : SX → Prop} {B : S → State → Prop} {BX : String → SX → State → Prop} {AX : Nat → Prop} (hr : vx_Run p l e R s m args below meth c H locs cells slots mc ms (F0 m pc ls st0) rest (va_Qf post B A1 a) (vx_X px BX AX) free) (hS : va_S A0 H0 H locs) (hA : ∀ q, q < H.size → A1 q → A0 q) (hf : ∀ q, free q → A0 q) (hAX : ∀ q, q < H.size → AX q → A0 q)
    (kx : ∀ (E : String) (ce : Cell) (q9 : Addr) (u : SX) (t : State) (H1 : Heap) (locs1 : List Loc), t.heap = H1 → s.vm.Alike t.vm → px u → BX E u t → H.size ≤ H1.size → (∀ q : Nat, q < H.size → ¬ AX q → H1[q]? = H[q]?) → va_S A0 H0 H1 locs1 → H1[q9]? = some ce → ce.vm = .none → s.vm.findClass E = some ce.cls → vx_W p l e R s m args below meth c H1 locs1 (cells + mc) (slots + ms) Q (F0 m pc ls rest) q9)
    (kk : ∀ (r : UInt32) (u : S) (t : State) (H1 : Heap) (locs1 : List Loc), t.heap = H1 → s.vm.Alike t.vm → post r u → B u t → H.size ≤ H1.size → (∀ q : Nat, q < H.size → ¬ A1 q → H1[q]? = H[q]?) → va_S A0 H0 H1 locs1 → W p l e R s m args below meth c H1 locs1 (cells + mc) (slots + ms) Q (F0 m (pc + 3) ls (.float r :: rest))) : W p l e R s m args below meth c H locs cells slots Q (F0 m pc ls st0) := by
  intro T hT X
  rcases hr T hT X with ⟨v, st₀, t, T', L, h0, X', hL, e1, e2, ⟨⟨r, u, hv, hp, hb⟩, hF⟩, st⟩ | ⟨q, st₀, t, T', L, E, ce, h0, X', hL, e1, e2, ⟨u, hp, hb, hF⟩, hce, hcv, hcl, st⟩
  · cases hv
    obtain ⟨k1, k2, k3⟩ := vx_keep h0 e1 hS hA hf hL hF
    obtain ⟨t2, a1, b1⟩ := kk r u t T'.heap (locs ++ L) e1.symm (by rw [← e2]; exact X'.warmed.alike) hp hb k1 k2 k3 T' rfl X'
    exact ⟨t2, st t2 a1, b1⟩
  · obtain ⟨k1, k2, k3⟩ := vx_keep h0 e1 hS hAX hf hL hF
    obtain ⟨t2, a1, b1⟩ := kx E ce q u t T'.heap (locs ++ L) e1.symm (by rw [← e2]; exact X'.warmed.alike) hp hb k1 k2 k3 (by rw [e1]; exact hce) hcv hcl T' rfl X'
    exact ⟨t2, st.trans a1, b1⟩
theorem vx_calld {S SX : Type} {post : UInt64 → S → Prop} {px : SX → Prop} {B : S → State → Prop} {BX : String → SX → State → Prop} {AX : Nat → Prop} (hr : vx_Run p l e R s m args below meth c H locs cells slots mc ms (F0 m pc ls st0) rest (va_Qd post B A1 a) (vx_X px BX AX) free) (hS : va_S A0 H0 H locs) (hA : ∀ q, q < H.size → A1 q → A0 q) (hf : ∀ q, free q → A0 q) (hAX : ∀ q, q < H.size → AX q → A0 q)
    (kx : ∀ (E : String) (ce : Cell) (q9 : Addr) (u : SX) (t : State) (H1 : Heap) (locs1 : List Loc), t.heap = H1 → s.vm.Alike t.vm → px u → BX E u t → H.size ≤ H1.size → (∀ q : Nat, q < H.size → ¬ AX q → H1[q]? = H[q]?) → va_S A0 H0 H1 locs1 → H1[q9]? = some ce → ce.vm = .none → s.vm.findClass E = some ce.cls → vx_W p l e R s m args below meth c H1 locs1 (cells + mc) (slots + ms) Q (F0 m pc ls rest) q9)
    (kk : ∀ (r : UInt64) (u : S) (t : State) (H1 : Heap) (locs1 : List Loc), t.heap = H1 → s.vm.Alike t.vm → post r u → B u t → H.size ≤ H1.size → (∀ q : Nat, q < H.size → ¬ A1 q → H1[q]? = H[q]?) → va_S A0 H0 H1 locs1 → W p l e R s m args below meth c H1 locs1 (cells + mc) (slots + ms) Q (F0 m (pc + 3) ls (.double r :: rest))) : W p l e R s m args below meth c H locs cells slots Q (F0 m pc ls st0) := by
  intro T hT X
  rcases hr T hT X with ⟨v, st₀, t, T', L, h0, X', hL, e1, e2, ⟨⟨r, u, hv, hp, hb⟩, hF⟩, st⟩ | ⟨q, st₀, t, T', L, E, ce, h0, X', hL, e1, e2, ⟨u, hp, hb, hF⟩, hce, hcv, hcl, st⟩
  · cases hv
    obtain ⟨k1, k2, k3⟩ := vx_keep h0 e1 hS hA hf hL hF
    obtain ⟨t2, a1, b1⟩ := kk r u t T'.heap (locs ++ L) e1.symm (by rw [← e2]; exact X'.warmed.alike) hp hb k1 k2 k3 T' rfl X'
    exact ⟨t2, st t2 a1, b1⟩
  · obtain ⟨k1, k2, k3⟩ := vx_keep h0 e1 hS hAX hf hL hF
    obtain ⟨t2, a1, b1⟩ := kx E ce q u t T'.heap (locs ++ L) e1.symm (by rw [← e2]; exact X'.warmed.alike) hp hb k1 k2 k3 (by rw [e1]; exact hce) hcv hcl T' rfl X'
    exact ⟨t2, st.trans a1, b1⟩
theorem vx_callv {S SX : Type} {post : S → Prop} {px : SX → Prop} {B : S → State → Prop} {BX : String → SX → State → Prop} {AX : Nat → Prop} (hr : vx_Run p l e R s m args below meth c H locs cells slots mc ms (F0 m pc ls st0) rest (va_Qv post B A1 a) (vx_X px BX AX) free) (hS : va_S A0 H0 H locs) (hA : ∀ q, q < H.size → A1 q → A0 q) (hf : ∀ q, free q → A0 q) (hAX : ∀ q, q < H.size → AX q → A0 q)
    (kx : ∀ (E : String) (ce : Cell) (q9 : Addr) (u : SX) (t : State) (H1 : Heap) (locs1 : List Loc), t.heap = H1 → s.vm.Alike t.vm → px u → BX E u t → H.size ≤ H1.size → (∀ q : Nat, q < H.size → ¬ AX q → H1[q]? = H[q]?) → va_S A0 H0 H1 locs1 → H1[q9]? = some ce → ce.vm = .none → s.vm.findClass E = some ce.cls → vx_W p l e R s m args below meth c H1 locs1 (cells + mc) (slots + ms) Q (F0 m pc ls rest) q9)
    (kk : ∀ (u : S) (t : State) (H1 : Heap) (locs1 : List Loc), t.heap = H1 → s.vm.Alike t.vm → post u → B u t → H.size ≤ H1.size → (∀ q : Nat, q < H.size → ¬ A1 q → H1[q]? = H[q]?) → va_S A0 H0 H1 locs1 → W p l e R s m args below meth c H1 locs1 (cells + mc) (slots + ms) Q (F0 m (pc + 3) ls (rest))) : W p l e R s m args below meth c H locs cells slots Q (F0 m pc ls st0) := by
  intro T hT X
  rcases hr T hT X with ⟨v, st₀, t, T', L, h0, X', hL, e1, e2, ⟨⟨u, hv, hp, hb⟩, hF⟩, st⟩ | ⟨q, st₀, t, T', L, E, ce, h0, X', hL, e1, e2, ⟨u, hp, hb, hF⟩, hce, hcv, hcl, st⟩
  · cases hv
    obtain ⟨k1, k2, k3⟩ := vx_keep h0 e1 hS hA hf hL hF
    obtain ⟨t2, a1, b1⟩ := kk u t T'.heap (locs ++ L) e1.symm (by rw [← e2]; exact X'.warmed.alike) hp hb k1 k2 k3 T' rfl X'
    exact ⟨t2, st t2 a1, b1⟩
  · obtain ⟨k1, k2, k3⟩ := vx_keep h0 e1 hS hAX hf hL hF
    obtain ⟨t2, a1, b1⟩ := kx E ce q u t T'.heap (locs ++ L) e1.symm (by rw [← e2]; exact X'.warmed.alike) hp hb k1 k2 k3 (by rw [e1]; exact hce) hcv hcl T' rfl X'
    exact ⟨t2, st.trans a1, b1⟩
/-- caught by the row x of this method's table; the rows ahead don't take it -/
theorem vx_catch {own name : String} {E : String} {ce : Cell} {q : Addr} (hown : s.vm.findClass own = some m.cls) (pre : List ExceptionTableEntry) (x : ExceptionTableEntry) (suf : List ExceptionTableEntry) (hsplit : c.exceptionTable.toList = pre ++ x :: suf)
    (hpass : ∀ z ∈ pre, covers z pc = false ∨ (z.catchType ≠ 0 ∧ ∃ nm : String, (Cond.classLink own z.catchType nm).before args s = true ∧ va_Nc E nm s)) (hx : covers x pc = true) (h0 : x.catchType ≠ 0)
    (hlink : (Cond.classLink own x.catchType name).before args s = true) (hcast : (Cond.castable E name).before args s = true) (hcell : H[q]? = some ce) (hv : ce.vm = .none) (hcl : s.vm.findClass E = some ce.cls)
    (kk : W p l e R s m args below meth c H locs cells slots Q (F0 m x.handlerPc ls [.ref q])) : vx_W p l e R s m args below meth c H locs cells slots Q (F0 m pc ls rest) q := by
  intro T hT X
  have hpl : e.platform.magicAccessors = ({} : Platform).magicAccessors := by rw [X.admits.platform]
  obtain ⟨c3, c4, hc3, hc4, hasg⟩ := Cond.castable_spec hcast
  cases Option.some.inj (hc3.symm.trans hcl)
  obtain ⟨c5, hc5, hcl5⟩ := Cond.classLink_spec hown hlink e.platform hpl
  cases Option.some.inj (hc4.symm.trans hc5)
  obtain ⟨vm', X', st⟩ := X.thenCaughtThrough q (g := F0 m pc ls rest) rfl (Steps.refl _) (by rw [hT]; exact hcell) (by rw [hv]; rfl) (by obtain ⟨k9, h9, -⟩ := Vm.findClass_spec hcl; exact ⟨k9, h9⟩) pre x suf hsplit
    (fun z hz => by
      rcases hpass z hz with h | ⟨hz0, nm, hl1, hn1⟩
      · exact Or.inl h
      · obtain ⟨c6, hc6, hcl6⟩ := Cond.classLink_spec hown hl1 e.platform hpl
        obtain ⟨a8, b8, h1, h2, h3⟩ := hn1
        cases Option.some.inj (h1.symm.trans hcl)
        cases Option.some.inj (h2.symm.trans hc6)
        exact Or.inr ⟨hz0, _, hcl6, h3⟩) hx (Or.inr ⟨h0, c4, hcl5, hasg⟩)
  obtain ⟨t, a1, b1⟩ := kk (T.setVm vm') hT X'
  exact ⟨t, st.trans a1, b1⟩
end Rows
section Ends
variable {p : Program} {l : Launch} {e : Env} {R : Room} {s : State} {m : MethodId} {args : Array Value} {below : List Frame} {meth : Method} {c : Code} {H : Heap} {locs : List Loc} {cells slots : Nat} {Q : State → Prop}
variable {mc ms : Nat} {free : Addr → Prop} {A0 A1 : Nat → Prop} {H0 : Heap} {a : Array Value} {ls : Array Slot} {st0 rest : List Value}
variable {Qc : Array Value → State → Outcome → State → Prop} {XC : String → State → State → Prop}
/-- what a body that may throw owes at its end -/
def vx_MQ (below : List Frame) (Qc : Array Value → State → Outcome → State → Prop) (XC : String → State → State → Prop) (a : Array Value) (s : State) (mc ms : Nat) (free : Addr → Prop) : State → Prop := fun t =>
  ∃ o, t.status = .running ∧ Ended t below o ∧ vx_Q Qc XC mc ms free a s o t
theorem vx_ret {g : JFrame} {mc ms : Nat} (k : W p l e R s m args below meth c H locs cells slots (MQ below Qc args s mc ms free) g) : W p l e R s m args below meth c H locs cells slots (vx_MQ below Qc XC args s mc ms free) g := by
  intro T hT X
  obtain ⟨t, a1, o, b1, b2, b3, b4⟩ := k T hT X
  exact ⟨t, a1, o, b1, b2, Or.inl ⟨b3, b4⟩⟩
/-- not caught here: it goes on to the caller -/
theorem vx_widen {g : JFrame} {q : Addr} {k n : Nat} (h1 : cells ≤ k) (h2 : slots ≤ n) (kk : vx_W p l e R s m args below meth c H locs k n Q g q) : vx_W p l e R s m args below meth c H locs cells slots Q g q := fun T hT X => kk T hT (stand_widen X h1 h2)
theorem vx_out {pc : Nat} {E : String} {ce : Cell} {q : Addr} {mc ms : Nat} (hout : ∀ x ∈ c.exceptionTable.toList, covers x pc = false) (hlocks : meth.locks = false) (hcell : H[q]? = some ce) (hv : ce.vm = .none) (hcl : s.vm.findClass E = some ce.cls)
    (hx : ∀ t : State, t.heap = H → s.vm.Alike t.vm → XC E s t) (hf : ∀ z ∈ locs, free z.base) (hc : cells ≤ mc) (hs : slots ≤ ms) :
    vx_W p l e R s m args below meth c H locs cells slots (vx_MQ below Qc XC args s mc ms free) (F0 m pc ls rest) q := by
  intro T hT X
  obtain ⟨st1, hrun, hend, hW, hsm⟩ := X.leaveThrown q (g := F0 m pc ls rest) rfl rfl rfl hout hlocks
  have hcell9 : (T.setFrames (.throwing q :: below)).heap[q]? = some ce := by
    show T.heap[q]? = some ce
    rw [hT]; exact hcell
  exact ⟨_, st1, .threw q, hrun, hend, Or.inr ⟨q, rfl, E, ce, locs, hx _ hT hW.alike, hcell9, hv, hcl, hW, hsm.mono hc hs, hf⟩⟩
theorem vx_frame {U : State} {k n : Nat} (h : s.sameButNew ({ U with vm := s.vm } : State) locs k n) : s.heap.size ≤ U.heap.size ∧ ∀ q : Nat, q < s.heap.size → (∀ z ∈ locs, z.base ≠ q) → U.heap[q]? = s.heap[q]? := by
  obtain ⟨-, h2, -, -, -, h6⟩ := h
  refine ⟨h2, fun q hq hz => ?_⟩
  obtain ⟨c9, e1, e2, e3, e4⟩ := h6 q _ (Array.getElem?_eq_getElem hq)
  have hs : c9.slots = (s.heap[q]).slots := Array.ext_getElem? fun i => e4 i fun hm => hz _ hm rfl
  have h9 : c9 = s.heap[q] := by
    rw [hs] at e2
    exact e2
  have e5 : U.heap[q]? = some c9 := e1
  rw [e5, h9, Array.getElem?_eq_getElem hq]
/-- the words of a throw but the four that speak of the heap -/
def vx_no (w : Cond) : Bool := decide (w ≠ .isRef (.static Bundle.tN "UNASSIGNED_STACK" Bundle.steD)) && decide (w ≠ .isRef (.static Bundle.tN "SUPPRESSED_SENTINEL" Bundle.listD)) && decide (w ≠ .laysStatic Bundle.tN "UNASSIGNED_STACK" Bundle.steD) && decide (w ≠ .laysStatic Bundle.tN "SUPPRESSED_SENTINEL" Bundle.listD)
def vx_at0 (own : String) (ic : Nat) (X : String) (names : List String) : List Cond := (Bundle.ownAtoms0 own ic X names).filter vx_no
def vx_atS (own : String) (ic : Nat) (X : String) (names : List String) : List Cond := (Bundle.ownAtoms own ic X names).filter vx_no
/-- a word that the tables alone decide, or a good one -/
def vx_ot (w : Cond) : Bool := w.onTables || goodWord w
theorem vx_ot_at {args a' : Array Value} {s U : State} {w : Cond} (hW : s.WarmedH U.vm) (hvm : s.vm = U.vm) (hg : vx_ot w = true) (h : w.before args s = true) : w.before a' U = true := by
  simp only [vx_ot, Bool.or_eq_true] at hg
  rcases hg with hg | hg
  · exact va_tabs hg hvm h
  · exact word_at hW (good_of_word hg) h
/-- a list's words: the good ones out of the method's own list, the others by premises of their own -/
theorem vx_hat {args : Array Value} {s : State} {L B : List Cond} (h1 : ∀ w ∈ L.filter goodWord, w.before args s = true) (h2 : ∀ w ∈ L.filter (fun w => !goodWord w), w ∈ B) (h3 : ∀ w ∈ B, w.before args s = true) : ∀ w ∈ L, w.before args s = true := by
  intro w hw
  by_cases g : goodWord w = true
  · exact h1 w (List.mem_filter.mpr ⟨hw, g⟩)
  · refine h3 w (h2 w (List.mem_filter.mpr ⟨hw, ?_⟩))
    show (!goodWord w) = true
    cases hgw : goodWord w
    · rfl
    · exact absurd hgw g
theorem vx_c {args : Array Value} {s : State} {w : Cond} {B : List Cond} (h : w.before args s = true) (t : ∀ w ∈ B, w.before args s = true) : ∀ w' ∈ w :: B, w'.before args s = true := fun w' h' => (List.mem_cons.mp h').elim (fun e => by rw [e]; exact h) (t w')
theorem vx_n {args : Array Value} {s : State} : ∀ w ∈ ([] : List Cond), w.before args s = true := fun _ h => nomatch h
theorem vx_own {args : Array Value} {s : State} {L : List Cond} (h1 : ∀ w ∈ L.filter vx_no, w.before args s = true)
    (hU : (Cond.isRef (.static Bundle.tN "UNASSIGNED_STACK" Bundle.steD)).before args s = true) (hN : (Cond.isRef (.static Bundle.tN "SUPPRESSED_SENTINEL" Bundle.listD)).before args s = true)
    (lU : (Cond.laysStatic Bundle.tN "UNASSIGNED_STACK" Bundle.steD).before args s = true) (lN : (Cond.laysStatic Bundle.tN "SUPPRESSED_SENTINEL" Bundle.listD).before args s = true) : ∀ w ∈ L, w.before args s = true := by
  intro w hw
  by_cases e1 : w = .isRef (.static Bundle.tN "UNASSIGNED_STACK" Bundle.steD)
  · rw [e1]; exact hU
  · by_cases e2 : w = .isRef (.static Bundle.tN "SUPPRESSED_SENTINEL" Bundle.listD)
    · rw [e2]; exact hN
    · by_cases e3 : w = .laysStatic Bundle.tN "UNASSIGNED_STACK" Bundle.steD
      · rw [e3]; exact lU
      · by_cases e4 : w = .laysStatic Bundle.tN "SUPPRESSED_SENTINEL" Bundle.listD
        · rw [e4]; exact lN
        · exact h1 w (List.mem_filter.mpr ⟨hw, by unfold vx_no; rw [decide_eq_true e1, decide_eq_true e2, decide_eq_true e3, decide_eq_true e4]; rfl⟩)
/-- where a static field lies, its class's statics cell in H -/
def vx_L (C n d : String) (A : Nat → Prop) (U : State) (H : Heap) : Prop := ∃ (c : ClassId) (k : Class) (i : Nat) (f : Field) (a : Nat) (cell : Cell), U.vm.findClass C = some c ∧ U.fieldFound? C n d = some (c, k, i, f) ∧ f.isStatic = true ∧ k.statics = some a ∧ H[a]? = some cell ∧ cell.vm.isStatics = true ∧ cell.cls = c ∧ f.slot < cell.slots.size ∧ k.staticTypes[f.slot]? = some f.type ∧ ¬ A a
theorem vx_L.moved {C n d : String} {A : Nat → Prop} {u U : State} {H : Heap} (hvm : u.vm.Alike U.vm) (h : vx_L C n d A u H) : vx_L C n d A U H := by
  obtain ⟨c, k, i, f, a, cell, h1, h2, h3, h4, h5, h6, h7, h8, h9, h10⟩ := h
  obtain ⟨k', hi', he⟩ := State.fieldFound?_setVm hvm h2
  exact ⟨c, k', i, f, a, cell, by rw [hvm.findClass]; exact h1, hi', h3, by rw [he]; exact h4, h5, h6, h7, h8, by rw [he]; exact h9, h10⟩
theorem vx_L.kept {C n d : String} {A : Nat → Prop} {U : State} {H H1 : Heap} (h : vx_L C n d A U H) (hq : ∀ a : Nat, a < H.size → ¬ A a → H1[a]? = H[a]?) : vx_L C n d A U H1 := by
  obtain ⟨c, k, i, f, a, cell, h1, h2, h3, h4, h5, h6, h7, h8, h9, h10⟩ := h
  exact ⟨c, k, i, f, a, cell, h1, h2, h3, h4, by rw [hq a (Array.getElem?_eq_some_iff.mp h5).1 h10]; exact h5, h6, h7, h8, h9, h10⟩
theorem vx_L.narrow {C n d : String} {A B : Nat → Prop} {U : State} {H : Heap} (h : vx_L C n d A U H) (hAB : ∀ q, B q → A q) : vx_L C n d B U H := by
  obtain ⟨c, k, i, f, a, cell, h1, h2, h3, h4, h5, h6, h7, h8, h9, h10⟩ := h
  exact ⟨c, k, i, f, a, cell, h1, h2, h3, h4, h5, h6, h7, h8, h9, fun z => h10 (hAB _ z)⟩
theorem vx_L.word {C n d : String} {A : Nat → Prop} {s : State} {args : Array Value} (h : vx_L C n d A s s.heap) : (Cond.laysStatic C n d).before args s = true := by
  obtain ⟨c, k, i, f, a, cell, h1, h2, h3, h4, h5, h6, h7, h8, h9, -⟩ := h
  show (Cond.laysStatic C n d).holds args s none s [] = true
  exact Cond.laysStatic_of h1 h2 h3 h4 h5 h6 h7 h8 h9
/-- .. and what it holds: null or some reference -/
def vx_Zq (C n d : String) (A : Nat → Prop) (U : State) (H : Heap) : Prop := va_Zq C n d A U H ∧ vx_L C n d A U H
theorem vx_Zq.moved {C n d : String} {A : Nat → Prop} {u U : State} {H : Heap} (hvm : u.vm.Alike U.vm) (h : vx_Zq C n d A u H) : vx_Zq C n d A U H := ⟨va_Zq.moved hvm h.1, vx_L.moved hvm h.2⟩
theorem vx_Zq.kept {C n d : String} {A : Nat → Prop} {U : State} {H H1 : Heap} (h : vx_Zq C n d A U H) (hq : ∀ a : Nat, a < H.size → ¬ A a → H1[a]? = H[a]?) : vx_Zq C n d A U H1 := ⟨va_Zq.kept h.1 hq, vx_L.kept h.2 hq⟩
theorem vx_Zq.narrow {C n d : String} {A B : Nat → Prop} {U : State} {H : Heap} (h : vx_Zq C n d A U H) (hAB : ∀ q, B q → A q) : vx_Zq C n d B U H := ⟨va_Zq.narrow h.1 hAB, vx_L.narrow h.2 hAB⟩
theorem vx_Zqof {args : Array Value} {s : State} {C n d : String} {A : Nat → Prop} (hl : (Cond.laysStatic C n d).before args s = true) (hini : (Cond.initialized C).before args s = true) (h : (Cond.isRef (.static C n d)).before args s = true) (hA : ∀ a : Nat, a < s.heap.size → ¬ A a) : vx_Zq C n d A s s.heap := by
  refine ⟨va_Zqof hl hini h hA, ?_⟩
  obtain ⟨c, k, i, f, a, cell, h1, h2, h3, h4, h5, h6, h7, h8, h9⟩ := Cond.laysStatic_spec hl
  exact ⟨c, k, i, f, a, cell, h1, h2, h3, h4, h5, h6, h7, h8, h9, hA a (Array.getElem?_eq_some_iff.mp h5).1⟩
theorem vx_isRef {C n d : String} {v : Value} {A : Nat → Prop} {s : State} {args : Array Value} (h : va_Z C n d v A s s.heap) (hv : v.isRef = true) : (Cond.isRef (.static C n d)).before args s = true := by
  obtain ⟨cf, kf, fi, f, a, cell, h1, h2, h3, h4, h5, h6, h7, -⟩ := h
  have he : (Term.static C n d).eval args s none [] s = some v := by
    simp [Term.eval, State.fieldNamed?, h1, h2, h4, h5, h6, h7]
  simp only [Cond.before, Cond.holds, Cond.value, he]
  cases v <;> simp_all [Value.isRef]
theorem vx_isRefq {C n d : String} {A : Nat → Prop} {s : State} {args : Array Value} (h : va_Zq C n d A s s.heap) : (Cond.isRef (.static C n d)).before args s = true := by
  rcases h with h | ⟨t, h⟩
  · exact vx_isRef h rfl
  · exact vx_isRef h rfl
/-- the same frame, seen from here: as if the method were called anew in this heap -/
theorem vx_rebase {T : State} (X : Stand p l e R s m args below meth c T locs cells slots) {R' : Room} (hf : R'.frames ≤ R.frames) (hl : R'.locals ≤ R.locals) (hc : cells + R'.cells ≤ R.cells) (hs : slots + R'.slots ≤ R.slots) :
    Stand p l e R' ((T.setVm s.vm).setFrames (.invoking m args :: below)) m args below meth c T [] 0 0 := by
  have htop : (T.setVm s.vm).topJava?.isSome := X.here.top
  have hF : ((T.setVm s.vm).setFrames (.invoking m args :: below)).frames = .invoking m args :: below := State.frames_setFrames _ (State.cur_lt_of_top htop)
  obtain ⟨g₀, hg0⟩ := Option.isSome_iff_exists.mp htop
  obtain ⟨r, hr⟩ := State.topJava?_eq_some.mp hg0
  have hl9 : e.platform.stackLimits (T.setVm s.vm).me = e.platform.stackLimits s.me := X.limits
  have hb9 : (T.setVm s.vm).me.stackBytes = s.me.stackBytes := X.bytes
  refine ⟨X.admits, X.cas, X.clock, hF, ?_, X.hears, X.method, X.code, X.here, X.tail, X.warmed, ?_, ?_, ?_⟩
  · have h := X.room
    have hU : ((T.setVm s.vm).setFrames (.invoking m args :: below)).localsInUse = s.localsInUse := by
      rw [State.localsInUse_invoking hF (meth := meth) (c := c) X.method X.code, State.localsInUse_invoking X.frames X.method X.code]
    simp only [State.hasRoom, Bool.and_eq_true, decide_eq_true_eq] at h ⊢
    obtain ⟨⟨⟨⟨h1, h2, h3, h4, h5, h6⟩, h7⟩, h8⟩, h9⟩ := h
    rw [X.frames, List.length_cons] at h2 h3
    have q1 := X.heapSize
    have q2 := X.used
    simp only [hF, hU, List.length_cons, State.stackLimits_setFrames, State.stackBytes_setFrames, hl9, hb9]
    refine ⟨⟨⟨⟨by omega, by omega, by omega, by omega, by omega, h6⟩, ?_⟩, ?_⟩, X.book⟩
    · show T.heap.size + R'.cells ≤ e.platform.maxCells
      omega
    · show T.slotsUsed + R'.slots ≤ e.platform.maxSlots
      omega
  · rw [State.stackLimits_setFrames]; rfl
  · rw [State.stackBytes_setFrames]; rfl
  · refine ⟨?_, Nat.le_refl _, Nat.le_refl _, ?_, ?_, fun a c9 h9 => ⟨c9, h9, rfl, rfl, fun _ _ => rfl⟩⟩
    · obtain ⟨t, ht, -⟩ := State.frames_cons hr
      show T.setVm s.vm = { ((T.setVm s.vm).setFrames (.invoking m args :: below)).setFrames (T.setVm s.vm).frames with heap := T.heap, slotsUsed := T.slotsUsed }
      rw [State.setFrames_setFrames, State.setFrames_self ht]
      rfl
    · show T.slotsUsed = T.slotsUsed + ((T.heap.toList.drop T.heap.size).map (·.slots.size)).sum
      rw [List.drop_eq_nil_of_le (Nat.le_of_eq Array.length_toList)]
      rfl
    · show ((T.heap.toList.drop T.heap.size).map (·.slots.size)).sum ≤ 0
      rw [List.drop_eq_nil_of_le (Nat.le_of_eq Array.length_toList)]
      exact Nat.le_refl _
/-- 'throw new E()': new; dup; invokespecial; athrow -/
theorem vx_throw0 {cc : ByteArray} {pc : Nat} (hexec : p.tables.exec = Jvm.exec) (hb : c.code = cc) (hl : l.stackTraces = false) {own cls : String} {names : List String} {ik ic mc ms : Nat} {A : Nat → Prop}
    (hown : s.vm.findClass own = some m.cls) (hcls : Bundle.fit cls = true) (hnames : ∀ n ∈ names, Bundle.fit n = true)
    (hk : (Cond.classLink own ik cls).before args s = true) (hini : (Cond.initialized cls).before args s = true) (hat : ∀ w ∈ vx_at0 own ic cls names, w.before args s = true)
    (hgood : ∀ w ∈ Cond.classLink own ik cls :: Cond.initialized cls :: vx_at0 own ic cls names, vx_ot w = true)
    (hU : vx_Zq Bundle.tN "UNASSIGNED_STACK" Bundle.steD A s s.heap) (hN : vx_Zq Bundle.tN "SUPPRESSED_SENTINEL" Bundle.listD A s s.heap) (hS : va_S A s.heap H locs) (hsize : ls.size = c.maxLocals)
    (d0 : decode cc pc = .ok (.new ik, 3)) (d3 : decode cc (pc + 3) = .ok (.dup, 1)) (d4 : decode cc (pc + 4) = .ok (.invokespecial ic, 3)) (d7 : decode cc (pc + 7) = .ok (.athrow, 1))
    (hout : ∀ x ∈ c.exceptionTable.toList, covers x (pc + 7) = false)
    (hRframes : names.length + 3 < R.frames) (hRlocals : (rest.map fun v => v.category).sum + (13 * (names.length + 1) + 42) ≤ R.locals) (hRcells : cells + 1 ≤ R.cells) (hRslots : slots + 6 ≤ R.slots) (hlocks : meth.locks = false)
    (hx : ∀ t : State, s.vm.Alike t.vm → H.size ≤ t.heap.size → (∀ q : Nat, q < H.size → t.heap[q]? = H[q]?) → XC cls s t)
    (hf : ∀ z ∈ locs, free z.base) (hc : cells + 1 ≤ mc) (hs : slots + 6 ≤ ms) :
    W p l e R s m args below meth c H locs cells slots (vx_MQ below Qc XC args s mc ms free) (F0 m pc ls rest) := by
  intro T hT X
  have htr : e.platform.stackTraces = false := (show e.platform.stackTraces = l.stackTraces by rw [X.admits.platform]).trans hl
  have Y := vx_rebase X (R' := { frames := R.frames, locals := R.locals, cells := 1, slots := 6 }) (Nat.le_refl _) (Nat.le_refl _) hRcells hRslots
  obtain ⟨s', hA⟩ : ∃ z, z = (T.setVm s.vm).setFrames (.invoking m args :: below) := ⟨_, rfl⟩
  rw [← hA] at Y
  have hvm : s'.vm = s.vm := by rw [hA]; rfl
  have hhp : s'.heap = H := by rw [hA]; exact hT
  have hW0 : s.WarmedH s'.vm := by rw [hvm]; exact State.WarmedH.refl s
  have hat' : ∀ w ∈ vx_at0 own ic cls names, w.before args s' = true := fun w hw => vx_ot_at hW0 hvm.symm (hgood w (List.mem_cons_of_mem _ (List.mem_cons_of_mem _ hw))) (hat w hw)
  have hk' : (Cond.classLink own ik cls).before args s' = true := vx_ot_at hW0 hvm.symm (hgood _ List.mem_cons_self) hk
  have hini' : (Cond.initialized cls).before args s' = true := vx_ot_at hW0 hvm.symm (hgood _ (List.mem_cons_of_mem _ List.mem_cons_self)) hini
  have hU' : vx_Zq Bundle.tN "UNASSIGNED_STACK" Bundle.steD A s' s'.heap := by rw [hhp]; exact vx_Zq.moved hW0.alike (hU.kept hS.2.1)
  have hN' : vx_Zq Bundle.tN "SUPPRESSED_SENTINEL" Bundle.listD A s' s'.heap := by rw [hhp]; exact vx_Zq.moved hW0.alike (hN.kept hS.2.1)
  have h : ∀ w ∈ Bundle.ownAtoms0 own ic cls names, w.before args s' = true := vx_own hat' (vx_isRefq hU'.1) (vx_isRefq hN'.1) hU'.2.word hN'.2.word
  have hown' : s'.vm.findClass own = some m.cls := by rw [hvm]; exact hown
  have hins : (Cond.instantiable cls 6).before args s' = true := h _ (by simp [Bundle.ownAtoms0])
  obtain ⟨vm₁, cX, kX, hfX, hkX, -, -, X₁, st1⟩ := Y.newCold hexec (own := own) (C := cls) (index := ik) (n := 6) hown' hk' hins hini'
    (g := F0 m pc ls rest) rfl (by rw [hb]; exact d0) (Nat.le_refl _) (Nat.le_refl _)
  generalize hT1 : (T.setVm vm₁).pushCell { cls := cX, slots := kX.instanceTypes.map defaultValue, vm := .none } = T1 at X₁ st1
  have hcat : (Value.ref T.heap.size).category = 1 := rfl
  have hcellA : T1.heap[T.heap.size]? = some (freshCell cX kX) := by rw [← hT1]; exact State.heap_pushCell_size _ _
  have d3' : decode c.code (pc + 3) = .ok (.dup, 1) := by rw [hb]; exact d3
  obtain ⟨U, hsteps, hrun, hend, hW, hsame, ce, hce, hO⟩ := X₁.ctorThrow0 hexec htr (own := own) (cls := cls) (names := names) (ic := ic) hown' hcls hnames h (fun x hx => nomatch hx) hfX hkX hcellA (by rw [hhp, hT]; exact Nat.le_refl _)
    (g := { method := m, pc := pc + 4, locals := ls, stack := .ref T.heap.size :: .ref T.heap.size :: rest, locked := none }) rfl hsize rfl rfl (rest := rest) rfl
    (by rw [hb]; exact d4) (by rw [hb]; exact d7) hout hRframes (by simp only [List.map_cons, List.sum_cons, hcat]; omega) hlocks
  obtain ⟨f1, f2⟩ := vx_frame hsame
  rw [hhp] at f1 f2
  have hWs : s.WarmedH U.vm := State.WarmedH.trans hW0 hW
  have hcl : s.vm.findClass cls = some ce.cls := by
    have h9 := hO.cls
    rw [hvm] at h9
    exact h9
  have hall : s.sameButNew ({ U with vm := s.vm } : State) locs mc ms := by
    subst hA
    obtain ⟨e1, e2⟩ := hsame
    rw [State.setFrames_setFrames] at e1
    have h2 : (T.setVm s.vm).sameButNew ({ U with vm := s.vm } : State) [] (0 + 1) (0 + 6) := ⟨e1, e2⟩
    have h3 := X.same.trans h2
    rw [List.append_nil] at h3
    exact h3.mono hc hs
  refine ⟨U, ?_, .threw T.heap.size, hrun, hend, Or.inr ⟨T.heap.size, rfl, cls, ce, locs, hx U hWs.alike f1 (fun q hq => f2 q hq (fun z hz => nomatch hz)), hce, hO.vm, hcl, hWs, hall, hf⟩⟩
  refine st1 _ ?_
  show Steps p.tables e below (T1.setTop { method := m, pc := pc + 3, locals := ls, stack := .ref T.heap.size :: rest, locked := none }) _
  jvm_step X₁.here [X₁.here.top, hexec, d3', Value.category]
  exact hsteps
/-- 'throw new E("text")': new; dup; ldc; invokespecial; athrow -/
theorem vx_throwS {cc : ByteArray} {pc : Nat} (hexec : p.tables.exec = Jvm.exec) (hb : c.code = cc) (hl : l.stackTraces = false) {own cls text : String} {names : List String} {ik is ic mc ms sa : Nat} {A : Nat → Prop}
    (hown : s.vm.findClass own = some m.cls) (hcls : Bundle.fit cls = true) (hnames : ∀ n ∈ names, Bundle.fit n = true)
    (hk : (Cond.classLink own ik cls).before args s = true) (hini : (Cond.initialized cls).before args s = true) (hstr : vk_R own is text sa s) (hat : ∀ w ∈ vx_atS own ic cls names, w.before args s = true)
    (hgood : ∀ w ∈ Cond.classLink own ik cls :: Cond.initialized cls :: vx_atS own ic cls names, vx_ot w = true)
    (hU : vx_Zq Bundle.tN "UNASSIGNED_STACK" Bundle.steD A s s.heap) (hN : vx_Zq Bundle.tN "SUPPRESSED_SENTINEL" Bundle.listD A s s.heap) (hS : va_S A s.heap H locs) (hsize : ls.size = c.maxLocals)
    (d0 : decode cc pc = .ok (.new ik, 3)) (d3 : decode cc (pc + 3) = .ok (.dup, 1)) (d4 : decode cc (pc + 4) = .ok (.ldc is, 2)) (d6 : decode cc (pc + 6) = .ok (.invokespecial ic, 3)) (d9 : decode cc (pc + 9) = .ok (.athrow, 1))
    (hout : ∀ x ∈ c.exceptionTable.toList, covers x (pc + 9) = false)
    (hRframes : names.length + 3 < R.frames) (hRlocals : (rest.map fun v => v.category).sum + (13 * (names.length + 1) + 43) ≤ R.locals) (hRcells : cells + 1 ≤ R.cells) (hRslots : slots + 6 ≤ R.slots) (hlocks : meth.locks = false)
    (hx : ∀ t : State, s.vm.Alike t.vm → H.size ≤ t.heap.size → (∀ q : Nat, q < H.size → t.heap[q]? = H[q]?) → XC cls s t)
    (hf : ∀ z ∈ locs, free z.base) (hc : cells + 1 ≤ mc) (hs : slots + 6 ≤ ms) :
    W p l e R s m args below meth c H locs cells slots (vx_MQ below Qc XC args s mc ms free) (F0 m pc ls rest) := by
  intro T hT X
  have htr : e.platform.stackTraces = false := (show e.platform.stackTraces = l.stackTraces by rw [X.admits.platform]).trans hl
  have Y := vx_rebase X (R' := { frames := R.frames, locals := R.locals, cells := 1, slots := 6 }) (Nat.le_refl _) (Nat.le_refl _) hRcells hRslots
  obtain ⟨s', hA⟩ : ∃ z, z = (T.setVm s.vm).setFrames (.invoking m args :: below) := ⟨_, rfl⟩
  rw [← hA] at Y
  have hvm : s'.vm = s.vm := by rw [hA]; rfl
  have hhp : s'.heap = H := by rw [hA]; exact hT
  have hW0 : s.WarmedH s'.vm := by rw [hvm]; exact State.WarmedH.refl s
  have hat' : ∀ w ∈ vx_atS own ic cls names, w.before args s' = true := fun w hw => vx_ot_at hW0 hvm.symm (hgood w (List.mem_cons_of_mem _ (List.mem_cons_of_mem _ hw))) (hat w hw)
  have hk' : (Cond.classLink own ik cls).before args s' = true := vx_ot_at hW0 hvm.symm (hgood _ List.mem_cons_self) hk
  have hini' : (Cond.initialized cls).before args s' = true := vx_ot_at hW0 hvm.symm (hgood _ (List.mem_cons_of_mem _ List.mem_cons_self)) hini
  have hU' : vx_Zq Bundle.tN "UNASSIGNED_STACK" Bundle.steD A s' s'.heap := by rw [hhp]; exact vx_Zq.moved hW0.alike (hU.kept hS.2.1)
  have hN' : vx_Zq Bundle.tN "SUPPRESSED_SENTINEL" Bundle.listD A s' s'.heap := by rw [hhp]; exact vx_Zq.moved hW0.alike (hN.kept hS.2.1)
  have h : ∀ w ∈ Bundle.ownAtoms own ic cls names, w.before args s' = true := vx_own hat' (vx_isRefq hU'.1) (vx_isRefq hN'.1) hU'.2.word hN'.2.word
  have hown' : s'.vm.findClass own = some m.cls := by rw [hvm]; exact hown
  have hins : (Cond.instantiable cls 6).before args s' = true := h _ (by simp [Bundle.ownAtoms])
  obtain ⟨vm₁, cX, kX, hfX, hkX, -, -, X₁, st1⟩ := Y.newCold hexec (own := own) (C := cls) (index := ik) (n := 6) hown' hk' hins hini'
    (g := F0 m pc ls rest) rfl (by rw [hb]; exact d0) (Nat.le_refl _) (Nat.le_refl _)
  generalize hT1 : (T.setVm vm₁).pushCell { cls := cX, slots := kX.instanceTypes.map defaultValue, vm := .none } = T1 at X₁ st1
  have hcat : (Value.ref T.heap.size).category = 1 := rfl
  have hcellA : T1.heap[T.heap.size]? = some (freshCell cX kX) := by rw [← hT1]; exact State.heap_pushCell_size _ _
  have d3' : decode c.code (pc + 3) = .ok (.dup, 1) := by rw [hb]; exact d3
  have d4' : decode c.code (pc + 4) = .ok (.ldc is, 2) := by rw [hb]; exact d4
  have hstr' : vk_R own is text sa s' := vk_R.warm hW0 hstr
  obtain ⟨U, hsteps, hrun, hend, hW, hsame, ce, hce, hO⟩ := X₁.ctorThrowS hexec htr (own := own) (cls := cls) (names := names) (ic := ic) hown' hcls hnames h (fun x hx => nomatch hx) hfX hkX hcellA (by rw [hhp, hT]; exact Nat.le_refl _) (msg := .ref sa) rfl
    (g := { method := m, pc := pc + 6, locals := ls, stack := .ref sa :: .ref T.heap.size :: .ref T.heap.size :: rest, locked := none }) rfl hsize rfl rfl (rest := rest) rfl
    (by rw [hb]; exact d6) (by rw [hb]; exact d9) hout hRframes (by simp only [List.map_cons, List.sum_cons, hcat]; omega) hlocks
  obtain ⟨f1, f2⟩ := vx_frame hsame
  rw [hhp] at f1 f2
  have hWs : s.WarmedH U.vm := State.WarmedH.trans hW0 hW
  have hcl : s.vm.findClass cls = some ce.cls := by
    have h9 := hO.cls
    rw [hvm] at h9
    exact h9
  have hall : s.sameButNew ({ U with vm := s.vm } : State) locs mc ms := by
    subst hA
    obtain ⟨e1, e2⟩ := hsame
    rw [State.setFrames_setFrames] at e1
    have h2 : (T.setVm s.vm).sameButNew ({ U with vm := s.vm } : State) [] (0 + 1) (0 + 6) := ⟨e1, e2⟩
    have h3 := X.same.trans h2
    rw [List.append_nil] at h3
    exact h3.mono hc hs
  refine ⟨U, ?_, .threw T.heap.size, hrun, hend, Or.inr ⟨T.heap.size, rfl, cls, ce, locs, hx U hWs.alike f1 (fun q hq => f2 q hq (fun z hz => nomatch hz)), hce, hO.vm, hcl, hWs, hall, hf⟩⟩
  refine st1 _ ?_
  show Steps p.tables e below (T1.setTop { method := m, pc := pc + 3, locals := ls, stack := .ref T.heap.size :: rest, locked := none }) _
  jvm_step X₁.here [X₁.here.top, hexec, d3', Value.category]
  exact X₁.ldcString hexec (own := own) (text := text) (index := is) (a := sa) hown' hstr'.1 hstr'.2
    (g := { method := m, pc := pc + 4, locals := ls, stack := .ref T.heap.size :: .ref T.heap.size :: rest, locked := none }) rfl d4' _ hsteps
/-- 'throw new E("text")', the text by a wide index -/
theorem vx_throwSW {cc : ByteArray} {pc : Nat} (hexec : p.tables.exec = Jvm.exec) (hb : c.code = cc) (hl : l.stackTraces = false) {own cls text : String} {names : List String} {ik is ic mc ms sa : Nat} {A : Nat → Prop}
    (hown : s.vm.findClass own = some m.cls) (hcls : Bundle.fit cls = true) (hnames : ∀ n ∈ names, Bundle.fit n = true)
    (hk : (Cond.classLink own ik cls).before args s = true) (hini : (Cond.initialized cls).before args s = true) (hstr : vk_R own is text sa s) (hat : ∀ w ∈ vx_atS own ic cls names, w.before args s = true)
    (hgood : ∀ w ∈ Cond.classLink own ik cls :: Cond.initialized cls :: vx_atS own ic cls names, vx_ot w = true)
    (hU : vx_Zq Bundle.tN "UNASSIGNED_STACK" Bundle.steD A s s.heap) (hN : vx_Zq Bundle.tN "SUPPRESSED_SENTINEL" Bundle.listD A s s.heap) (hS : va_S A s.heap H locs) (hsize : ls.size = c.maxLocals)
    (d0 : decode cc pc = .ok (.new ik, 3)) (d3 : decode cc (pc + 3) = .ok (.dup, 1)) (d4 : decode cc (pc + 4) = .ok (.ldc_w is, 3)) (d7 : decode cc (pc + 7) = .ok (.invokespecial ic, 3)) (d10 : decode cc (pc + 10) = .ok (.athrow, 1))
    (hout : ∀ x ∈ c.exceptionTable.toList, covers x (pc + 10) = false)
    (hRframes : names.length + 3 < R.frames) (hRlocals : (rest.map fun v => v.category).sum + (13 * (names.length + 1) + 43) ≤ R.locals) (hRcells : cells + 1 ≤ R.cells) (hRslots : slots + 6 ≤ R.slots) (hlocks : meth.locks = false)
    (hx : ∀ t : State, s.vm.Alike t.vm → H.size ≤ t.heap.size → (∀ q : Nat, q < H.size → t.heap[q]? = H[q]?) → XC cls s t)
    (hf : ∀ z ∈ locs, free z.base) (hc : cells + 1 ≤ mc) (hs : slots + 6 ≤ ms) :
    W p l e R s m args below meth c H locs cells slots (vx_MQ below Qc XC args s mc ms free) (F0 m pc ls rest) := by
  intro T hT X
  have htr : e.platform.stackTraces = false := (show e.platform.stackTraces = l.stackTraces by rw [X.admits.platform]).trans hl
  have Y := vx_rebase X (R' := { frames := R.frames, locals := R.locals, cells := 1, slots := 6 }) (Nat.le_refl _) (Nat.le_refl _) hRcells hRslots
  obtain ⟨s', hA⟩ : ∃ z, z = (T.setVm s.vm).setFrames (.invoking m args :: below) := ⟨_, rfl⟩
  rw [← hA] at Y
  have hvm : s'.vm = s.vm := by rw [hA]; rfl
  have hhp : s'.heap = H := by rw [hA]; exact hT
  have hW0 : s.WarmedH s'.vm := by rw [hvm]; exact State.WarmedH.refl s
  have hat' : ∀ w ∈ vx_atS own ic cls names, w.before args s' = true := fun w hw => vx_ot_at hW0 hvm.symm (hgood w (List.mem_cons_of_mem _ (List.mem_cons_of_mem _ hw))) (hat w hw)
  have hk' : (Cond.classLink own ik cls).before args s' = true := vx_ot_at hW0 hvm.symm (hgood _ List.mem_cons_self) hk
  have hini' : (Cond.initialized cls).before args s' = true := vx_ot_at hW0 hvm.symm (hgood _ (List.mem_cons_of_mem _ List.mem_cons_self)) hini
  have hU' : vx_Zq Bundle.tN "UNASSIGNED_STACK" Bundle.steD A s' s'.heap := by rw [hhp]; exact vx_Zq.moved hW0.alike (hU.kept hS.2.1)
  have hN' : vx_Zq Bundle.tN "SUPPRESSED_SENTINEL" Bundle.listD A s' s'.heap := by rw [hhp]; exact vx_Zq.moved hW0.alike (hN.kept hS.2.1)
  have h : ∀ w ∈ Bundle.ownAtoms own ic cls names, w.before args s' = true := vx_own hat' (vx_isRefq hU'.1) (vx_isRefq hN'.1) hU'.2.word hN'.2.word
  have hown' : s'.vm.findClass own = some m.cls := by rw [hvm]; exact hown
  have hins : (Cond.instantiable cls 6).before args s' = true := h _ (by simp [Bundle.ownAtoms])
  obtain ⟨vm₁, cX, kX, hfX, hkX, -, -, X₁, st1⟩ := Y.newCold hexec (own := own) (C := cls) (index := ik) (n := 6) hown' hk' hins hini'
    (g := F0 m pc ls rest) rfl (by rw [hb]; exact d0) (Nat.le_refl _) (Nat.le_refl _)
  generalize hT1 : (T.setVm vm₁).pushCell { cls := cX, slots := kX.instanceTypes.map defaultValue, vm := .none } = T1 at X₁ st1
  have hcat : (Value.ref T.heap.size).category = 1 := rfl
  have hcellA : T1.heap[T.heap.size]? = some (freshCell cX kX) := by rw [← hT1]; exact State.heap_pushCell_size _ _
  have d3' : decode c.code (pc + 3) = .ok (.dup, 1) := by rw [hb]; exact d3
  have d4' : decode c.code (pc + 4) = .ok (.ldc_w is, 3) := by rw [hb]; exact d4
  have hstr' : vk_R own is text sa s' := vk_R.warm hW0 hstr
  obtain ⟨U, hsteps, hrun, hend, hW, hsame, ce, hce, hO⟩ := X₁.ctorThrowS hexec htr (own := own) (cls := cls) (names := names) (ic := ic) hown' hcls hnames h (fun x hx => nomatch hx) hfX hkX hcellA (by rw [hhp, hT]; exact Nat.le_refl _) (msg := .ref sa) rfl
    (g := { method := m, pc := pc + 7, locals := ls, stack := .ref sa :: .ref T.heap.size :: .ref T.heap.size :: rest, locked := none }) rfl hsize rfl rfl (rest := rest) rfl
    (by rw [hb]; exact d7) (by rw [hb]; exact d10) hout hRframes (by simp only [List.map_cons, List.sum_cons, hcat]; omega) hlocks
  obtain ⟨f1, f2⟩ := vx_frame hsame
  rw [hhp] at f1 f2
  have hWs : s.WarmedH U.vm := State.WarmedH.trans hW0 hW
  have hcl : s.vm.findClass cls = some ce.cls := by
    have h9 := hO.cls
    rw [hvm] at h9
    exact h9
  have hall : s.sameButNew ({ U with vm := s.vm } : State) locs mc ms := by
    subst hA
    obtain ⟨e1, e2⟩ := hsame
    rw [State.setFrames_setFrames] at e1
    have h2 : (T.setVm s.vm).sameButNew ({ U with vm := s.vm } : State) [] (0 + 1) (0 + 6) := ⟨e1, e2⟩
    have h3 := X.same.trans h2
    rw [List.append_nil] at h3
    exact h3.mono hc hs
  refine ⟨U, ?_, .threw T.heap.size, hrun, hend, Or.inr ⟨T.heap.size, rfl, cls, ce, locs, hx U hWs.alike f1 (fun q hq => f2 q hq (fun z hz => nomatch hz)), hce, hO.vm, hcl, hWs, hall, hf⟩⟩
  refine st1 _ ?_
  show Steps p.tables e below (T1.setTop { method := m, pc := pc + 3, locals := ls, stack := .ref T.heap.size :: rest, locked := none }) _
  jvm_step X₁.here [X₁.here.top, hexec, d3', Value.category]
  exact X₁.ldcStringW hexec (own := own) (text := text) (index := is) (a := sa) hown' hstr'.1 hstr'.2
    (g := { method := m, pc := pc + 4, locals := ls, stack := .ref T.heap.size :: .ref T.heap.size :: rest, locked := none }) rfl d4' _ hsteps
end Ends
section Bodies
variable {l : Launch}
theorem vx_ofW {y : MethodName} {ws ws' : List Cond} {rm : Room} {Pc : Array Value → State → Prop} {Qc : Array Value → State → Outcome → State → Prop} {XC : String → State → State → Prop} {mc ms : Nat} {free : Addr → Prop} {cc : ByteArray} {maxL : Nat} {ret : Option FieldType}
    (hy : plainName y.cls = true) (hw : ws = Cond.code y cc maxL ret :: ws')
    (body : ∀ p e s m args below meth c s₁, BodyLoose p l y (headSpec ws rm) cc maxL ret e s m args below meth c s₁ → c.maxLocals = maxL → (∀ x ∈ c.exceptionTable.toList, False) → Pc args s →
      W p l e (headSpec ws rm).room s m args below meth c s.heap [] 0 0 (vx_MQ below Qc XC args s mc ms free) (entryFrame m args maxL)) : vx_Met l y ws rm Pc Qc XC mc ms free := by
  refine MetFree.of_bodyS (code := cc) (maxLocals := maxL) (ret := ret) hy ?_ ?_
  · intro args s m h hn
    obtain ⟨meth, c, h1, h2, h3, h4, h5, h6, -, -⟩ := Cond.code_spec hn (atoms_spec (ws := ws) h _ (by rw [hw]; exact List.mem_cons_self))
    exact ⟨meth, c, h1, h2, h3, h4, h5, h6⟩
  · intro p e s m args below meth c s₁ B hml hP _
    have hh0 : s₁.heap = s.heap := by rw [B.state]; rfl
    have ht : ∀ x ∈ c.exceptionTable.toList, False := by
      obtain ⟨meth9, c9, h1, h2, -, -, -, -, h7, -⟩ := Cond.code_spec B.named (atoms_spec (ws := ws) B.pre _ (by rw [hw]; exact List.mem_cons_self))
      cases Option.some.inj (h1.symm.trans B.method)
      cases Option.some.inj (h2.symm.trans (Stand.of_body B).code)
      intro x hx
      rw [Array.isEmpty_iff.mp h7] at hx
      cases hx
    obtain ⟨t, a1, o, b1, b2, b3⟩ := body p e s m args below meth c s₁ B hml ht hP s₁ hh0 (Stand.of_body B)
    exact ⟨t, o, a1, b1, b2, b3⟩
/-- the table of a body with handlers -/
theorem vx_table {p : Program} {x y : MethodName} {S : Spec} {cc bytes : ByteArray} {maxL maxL' : Nat} {ret ret' : Option FieldType} {e : Env} {s s₁ : State} {m : MethodId} {args : Array Value} {below : List Frame} {meth : Method} {c : Code} {hh : List (Nat × Nat × Nat × Nat)}
    (B : BodyLoose p l y S cc maxL ret e s m args below meth c s₁) (h : (Cond.codeWith y bytes maxL' ret' hh).before args s = true) : c.exceptionTable.toList = tableOf hh := by
  obtain ⟨m9, meth9, c9, hn9, h1, h2, -, -, h6, -⟩ := Cond.codeWith_spec h
  cases Option.some.inj (hn9.symm.trans B.named)
  cases Option.some.inj (h1.symm.trans B.method)
  cases Option.some.inj (h2.symm.trans (Stand.of_body B).code)
  rw [← h6, table_eq]
end Bodies
end VXA
/-! ===== END ===== -/
/-! ===== BEGIN a static call of a method with an exception table ===== -/
section VXS
variable {p : Program} {l : Launch} {e : Env} {R : Room} {s : State} {m : MethodId} {args : Array Value} {below : List Frame} {meth : Method} {c : Code} {T : State} {H : Heap} {locs : List Loc} {cells slots : Nat}
abbrev vx_CSW (R : Room) (s : State) (args : Array Value) (own : String) (index : Nat) (y : MethodName) (bytes : ByteArray) (maxL : Nat) (ret : Option FieldType) (hh : List (Nat × Nat × Nat × Nat)) (ws : List Cond) (rm : Room) (mc ms n : Nat) : Prop :=
  (rm.cells = mc ∧ rm.slots = ms ∧ rm.frames + 1 ≤ R.frames ∧ 8 + (maxL + 11) + rm.locals ≤ R.locals ∧ (∀ w ∈ ws, ∀ (a' : Array Value) (U : State), s.WarmedH U.vm → w.before a' U = true) ∧ Cond.codeWith y bytes maxL ret hh ∈ ws) ∧
  (Cond.codeWith y bytes maxL ret hh).before args s = true ∧ (Cond.initialized y.cls).before args s = true ∧ (y.cls ≠ "java/lang/invoke/MethodHandle" ∧ y.cls ≠ "java/lang/invoke/VarHandle") ∧
  (∀ sig, parseMethodDescriptor y.desc = some sig → n = sig.parameters.length) ∧ (Cond.methodLink own index y).before args s = true ∧ (Cond.static y).before args s = true
theorem vx_cwSW {own : String} {index maxL mc ms : Nat} {y : MethodName} {bytes : ByteArray} {ret : Option FieldType} {hh : List (Nat × Nat × Nat × Nat)} {Ts ws ws' : List Cond} {rm : Room} (n : Nat) (ht : ∀ w ∈ Ts, w.before args s = true) (hT : GoodIn Ts (va_wsS own index y ws)) (hw : ws = Cond.codeWith y bytes maxL ret hh :: ws') (hrc : rm.cells = mc) (hrs : rm.slots = ms)
    (hd : y.cls ≠ "java/lang/invoke/MethodHandle" ∧ y.cls ≠ "java/lang/invoke/VarHandle" ∧ (parseMethodDescriptor y.desc).map (fun d => d.parameters.length) = some n) (hR : rm.frames + 1 ≤ R.frames ∧ 8 + (maxL + 11) + rm.locals ≤ R.locals) :
    vx_CSW R s args own index y bytes maxL ret hh ws rm mc ms n := by
  have ok : ∀ w ∈ va_wsS own index y ws, w.before args s = true := fun w h => ht w (hT w h).1
  have hG : GoodIn Ts ws := fun w h => hT w (by unfold va_wsS; exact List.mem_append_right _ h)
  have hc : Cond.codeWith y bytes maxL ret hh ∈ ws := by rw [hw]; exact List.mem_cons_self
  refine ⟨⟨hrc, hrs, hR.1, hR.2, pay_in ht hG, hc⟩, ht _ (hG _ hc).1, ok _ (by simp [va_wsS]), ⟨hd.1, hd.2.1⟩, fun sig h => ?_, ok _ (by simp [va_wsS]), ok _ (by simp [va_wsS])⟩
  have h2 := hd.2.2
  rw [h] at h2
  exact (Option.some.inj h2).symm
theorem vx_callSW (X : Stand p l e R s m args below meth c T locs cells slots) (hexec : p.tables.exec = Jvm.exec) {own : String} {index : Nat} {y : MethodName} {bytes : ByteArray} {maxL : Nat} {ret : Option FieldType} {hh : List (Nat × Nat × Nat × Nat)}
    (hown : s.vm.findClass own = some m.cls) (hlink : (Cond.methodLink own index y).before args s = true) (hstat : (Cond.static y).before args s = true) (hinit : (Cond.initialized y.cls).before args s = true)
    (hcode : (Cond.codeWith y bytes maxL ret hh).before args s = true) (hy : y.cls ≠ "java/lang/invoke/MethodHandle" ∧ y.cls ≠ "java/lang/invoke/VarHandle")
    {W9 : Nat} {Pre : Pt → Array Value → Prop} {Post : Pt → Array Value → Option Value → Pt → Prop} (hK : Back l R p e below s args y 3 W9 Pre Post)
    {g : JFrame} (hg : g.method = m) (hsize : g.locals.size = c.maxLocals) {argsL rest : List Value} (hlen : ∀ sig, parseMethodDescriptor y.desc = some sig → argsL.length = sig.parameters.length)
    (hstack : g.stack = argsL.reverse ++ rest) (hW : 2 * g.monitorRoom + (rest.map fun v => v.category).sum ≤ W9) (hdg : decode c.code g.pc = .ok (.invokestatic index, 3))
    (hpre : ∀ vm₁, s.WarmedH vm₁ → Pre ⟨T.setVm vm₁, locs, cells, slots⟩ argsL.toArray) :
    ∃ (v : Option Value) (vm₁ : Vm) (B : Pt), s.WarmedH vm₁ ∧ Stand p l e R s m args below meth c B.U B.locs B.cells B.slots ∧ Post ⟨T.setVm vm₁, locs, cells, slots⟩ argsL.toArray v B ∧
      ∀ target, Steps p.tables e below (B.U.setTop { g with pc := g.pc + 3, stack := v.toList ++ rest }) target → Steps p.tables e below (T.setTop g) target := by
  obtain ⟨mk, methM, cM, hnamed, hmethM, -, -, -, -, -, -, hsigM⟩ := Cond.codeWith_spec hcode
  have hstatic : methM.isStatic = true := Cond.static_spec hnamed hmethM hstat
  obtain ⟨kP, hkP, -⟩ := className_of_methodNamed hnamed
  have hinitP : kP.init = .initialized := Cond.initialized_spec (findClass_of_methodNamed hnamed) hkP hinit
  obtain ⟨vm₁, X₁, hstep₁⟩ := X.invokestatic hexec hown hlink hnamed hmethM hstatic hkP hinitP hy (g := g) hg (argsL := argsL) (rest := rest) (hlen _ hsigM) hstack hdg
  obtain ⟨v, B, X', hpost, hsteps⟩ := hK m meth c ⟨T.setVm vm₁, locs, cells, slots⟩ { g with stack := rest } (.invokestatic index) mk argsL.toArray X₁ hg hsize hdg hW (X₁.named hnamed) (hpre vm₁ X₁.warmed)
  exact ⟨v, vm₁, B, X₁.warmed, X', hpost, fun target h => hstep₁ _ fun acts => by rw [doInvoke_state]; exact hsteps.trans h⟩
theorem vx_runSW {y : MethodName} {bytes cc : ByteArray} {maxL nL mc ms n index : Nat} {ret : Option FieldType} {hh : List (Nat × Nat × Nat × Nat)} {ws : List Cond} {rm : Room} {Pc : Array Value → State → Prop} {Qc : Array Value → State → Outcome → State → Prop} {free : Addr → Prop} {Ts : List Cond} {own : String} {As rest : List Value} {g : JFrame}
    (S : CallFix p m c cc nL s args Ts own) (hM : Met l y ws rm Pc Qc mc ms free) (cw : vx_CSW R s args own index y bytes maxL ret hh ws rm mc ms n) (hp : PreS s H Pc As)
    (hg : g.method = m) (hn : As.length = n) (hsize : g.locals.size = nL) (hstack : g.stack = As.reverse ++ rest) (hW : 2 * g.monitorRoom + (rest.map fun v => v.category).sum ≤ 8) (hdg : decode cc g.pc = .ok (.invokestatic index, 3)) (hf : cells + mc ≤ R.cells ∧ slots + ms ≤ R.slots) :
    va_Run p l e R s m args below meth c H locs cells slots mc ms g rest (Qc As.toArray) (free) := by
  obtain ⟨⟨hrc, hrs, hfr, hlo, hws, hcw⟩, hcode, hini, hy, hlen, hl, hstt⟩ := cw
  have hK : Back l R p e below s args y 3 8 (PreOf R mc ms Pc) (PostOf Qc mc ms free) := va_backW (hh := hh) (bytes := bytes) (maxL := maxL) (ret := ret) hM hp.1 hrc hrs hfr hlo hws hcw (fun a' U hW => word_at hW (Or.inl (by first | rfl | simp [Cond.onTables, Cond.keeps, Cond.steady])) hini)
  obtain ⟨hx, hb, hml, ho, -⟩ := S
  intro T hT X
  obtain ⟨v, vm₁, ⟨U', l2, c2, s2⟩, hW₁, X', ⟨g', mk, t, L, e1, e2, hq, h1, hL, h2, h3⟩, st⟩ := vx_callSW X hx (hh := hh) (bytes := bytes) (maxL := maxL) (ret := ret) ho hl hstt hini hcode hy hK hg (hsize.trans hml.symm) (argsL := As) (rest := rest) (fun sig h => hn.trans (hlen sig h)) hstack hW (by rw [hb]; exact hdg)
    (fun vm₁ hW₁ => ⟨hf.1, hf.2, hp.2 (T.setVm vm₁) hT hW₁⟩)
  dsimp only [Pt.U, Pt.locs, Pt.cells, Pt.slots] at X' e1 e2 h1 h2 h3 st
  subst h1; subst h2; subst h3
  exact ⟨v, (T.setVm vm₁).calling g' mk As.toArray, t, U', L, hT, X', hL, e1, e2, hq, st⟩
/-- not caught here, past rows that name other classes: it goes on to the caller -/
theorem vx_outP {p : Program} {l : Launch} {e : Env} {R : Room} {s : State} {m : MethodId} {args : Array Value} {below : List Frame} {meth : Method} {c : Code} {H : Heap} {locs : List Loc} {cells slots : Nat} {free : Addr → Prop} {ls : Array Slot} {rest : List Value} {Qc : Array Value → State → Outcome → State → Prop} {XC : String → State → State → Prop}
    {pc : Nat} {own E : String} {ce : Cell} {q : Addr} {mc ms : Nat} (hown : s.vm.findClass own = some m.cls) (hlocks : meth.locks = false)
    (hpass : ∀ z ∈ c.exceptionTable.toList, covers z pc = false ∨ (z.catchType ≠ 0 ∧ ∃ nm : String, (Cond.classLink own z.catchType nm).before args s = true ∧ va_Nc E nm s)) (hcell : H[q]? = some ce) (hv : ce.vm = .none) (hcl : s.vm.findClass E = some ce.cls)
    (hx : ∀ t : State, t.heap = H → s.vm.Alike t.vm → XC E s t) (hf : ∀ z ∈ locs, free z.base) (hc : cells ≤ mc) (hs : slots ≤ ms) :
    vx_W p l e R s m args below meth c H locs cells slots (vx_MQ below Qc XC args s mc ms free) (F0 m pc ls rest) q := by
  intro T hT X
  have hpl : e.platform.magicAccessors = ({} : Platform).magicAccessors := by rw [X.admits.platform]
  obtain ⟨vm', hW', X', st⟩ := X.outThrough hlocks q (g := F0 m pc ls rest) rfl rfl rfl (cell := ce) (by rw [hT]; exact hcell) (by rw [hv]; rfl)
    (by obtain ⟨k9, h9, -⟩ := Vm.findClass_spec hcl; exact ⟨k9, h9⟩) (fun z hz => by
      rcases hpass z hz with h | ⟨hz0, nm, hl1, hn1⟩
      · exact Or.inl h
      · obtain ⟨c6, hc6, hcl6⟩ := Cond.classLink_spec hown hl1 e.platform hpl
        obtain ⟨a8, b8, h1, h2, h3⟩ := hn1
        cases Option.some.inj (h1.symm.trans hcl)
        cases Option.some.inj (h2.symm.trans hc6)
        exact Or.inr ⟨hz0, _, hcl6, h3⟩)
  obtain ⟨g₀, hfr⟩ := X'.frames_eq
  have hcell9 : ((T.setVm vm').setFrames (.throwing q :: below)).heap[q]? = some ce := by
    show T.heap[q]? = some ce
    rw [hT]; exact hcell
  have hend : Ended ((T.setVm vm').setFrames (.throwing q :: below)) below (.threw q) := State.frames_setFrames _ (State.cur_lt_of_frames hfr)
  refine ⟨(T.setVm vm').setFrames (.throwing q :: below), ?_, .threw q, X'.here.running, hend, Or.inr ⟨q, rfl, E, ce, locs, hx _ hT (X'.ends _).1.alike, hcell9, hv, hcl, (X'.ends _).1, (X'.ends _).2.mono hc hs, hf⟩⟩
  rw [X.pushThrowing_eq]
  exact st
/-- a thing of a world lies in the heap -/
theorem vx_lt {D : va_G} {cl : List vw_C} {ws : va_W} {H1 : Heap} (h : va_P D cl ws H1) {k : Nat} {q : Nat × va_E} (hk : ws[k]? = some q) : q.1 < H1.size := (h k q hk).lt
end VXS
/-! ===== END ===== -/
/-! ===== BEGIN methods with a table of their own: called by a name, returning or throwing ===== -/
section VXH
/-! vx_backW, vx_callVX, vx_callSX, vx_callVW, vx_runVW, vx_runVX, vx_runSX, vx_ofWH follow the same proofs as their sisters above (Free/Laws.lean, Shelf42/LK1.lean); vx_outP calls Shelf42/NT130.lean (outThrough). -/
section
variable {l : Launch} {R : Room} {p : Program} {e : Env} {below : List Frame} {s : State} {sargs : Array Value} {y : MethodName} {len W9 : Nat}
theorem vx_backW {ws : List Cond} {rm : Room} {Pc : Array Value → State → Prop} {Qc : Array Value → State → Outcome → State → Prop} {XC : String → State → State → Prop} {mc ms : Nat} {free : Addr → Prop} {bytes : ByteArray} {maxL : Nat} {ret : Option FieldType} {hh : List (Nat × Nat × Nat × Nat)}
    (hM : vx_Met l y ws rm Pc Qc XC mc ms free) (hblind : FrameBlind Pc) (hrc : rm.cells = mc) (hrs : rm.slots = ms)
    (hframes : rm.frames + 1 ≤ R.frames) (hlocals : W9 + (maxL + 11) + rm.locals ≤ R.locals)
    (hws : ∀ w ∈ ws, ∀ a' U, s.WarmedH U.vm → w.before a' U = true) (hcode : Cond.codeWith y bytes maxL ret hh ∈ ws) (hinit : ∀ a' U, s.WarmedH U.vm → (Cond.initialized y.cls).before a' U = true) :
    vx_Back l R p e below s sargs y len W9 (PreOf R mc ms Pc) (PostOf Qc mc ms free) (vx_Post XC mc ms free) := by
  intro m meth c A g ig mk a X hg hsize hdg hW hn hp
  have h1 : (headSpec ws rm).pre.before a A.U = true := atoms_intro fun w hw => hws w hw _ _ X.warmed
  have h2 : (Cond.codeWith y bytes maxL ret hh).before a A.U = true := hws _ hcode _ _ X.warmed
  have h3 : (Cond.initialized y.cls).before a A.U = true := hinit _ _ X.warmed
  have h4 : A.cells + (headSpec ws rm).room.cells ≤ R.cells := by rw [show (headSpec ws rm).room.cells = mc from hrc]; exact hp.1
  have h5 : A.slots + (headSpec ws rm).room.slots ≤ R.slots := by rw [show (headSpec ws rm).room.slots = ms from hrs]; exact hp.2.1
  have hPc : Pc a (A.U.calling g mk a) := hblind _ _ _ _ hp.2.2
  obtain ⟨U, Ls, c0, s0⟩ := A
  dsimp only [Pt.U, Pt.locs, Pt.cells, Pt.slots] at h1 h2 h3 h4 h5 X hn hPc ⊢
  obtain ⟨m9, methY, cY, hn9, hmY, hcY, -, hlY, -⟩ := Cond.codeWith_spec h2
  cases Option.some.inj (hn9.symm.trans hn)
  obtain ⟨kY, hkY, -⟩ := className_of_methodNamed hn
  have hinitY : kY.init = .initialized := Cond.initialized_spec (findClass_of_methodNamed hn) hkY h3
  have h : At U g.method c below := by rw [hg]; exact X.here
  have hlocals9 : W9 + (maxL + 11) + (headSpec ws rm).room.locals ≤ R.locals := hlocals
  have happ : (headSpec ws rm).appliesLoose y e.platform (U.calling g mk a) = true :=
    Spec.appliesLoose_calling (g := g) h hdg hn hkY hinitY
      (X.room_calling (g := g) (R' := (headSpec ws rm).room) hsize hmY hcY hframes (by rw [hlY]; omega) h4 h5) h1
  obtain ⟨mid, hmid⟩ := h.above
  have hfr : (U.setTop g).frames = (.java g :: mid) ++ below := by rw [State.frames_setTop' g h.top, hmid]; rfl
  obtain ⟨o, s₂, hsteps, -, hend, hq⟩ := Steps.callFree hM p X.admits X.cas X.clock (acts := []) hfr happ hPc trivial
  have hq' : vx_Q Qc XC mc ms free a (U.calling g mk a) o s₂ := hq
  rw [State.frames_setTop' g h.top] at hend
  obtain ⟨g₀, hg0⟩ := Option.isSome_iff_exists.mp h.top
  obtain ⟨r, hr⟩ := State.topJava?_eq_some.mp hg0
  have hr' : (({ U with heap := s₂.heap, slotsUsed := s₂.slotsUsed } : State).setVm s₂.vm).frames = .java g₀ :: r := hr
  rcases hq' with ⟨hqc, L, hfe, hL⟩ | ⟨q, rfl, E, ce, L, hx, hce, hcv, hcl, hW₂, hsm, hL⟩
  · obtain ⟨⟨v, rfl⟩, hW₂, e2, q2, q3, q4, q5, q6⟩ := id hfe
    have e3 : s₂ = ({ (U.calling g mk a).setFrames s₂.frames with heap := s₂.heap, slotsUsed := s₂.slotsUsed } : State).setVm s₂.vm := by
      have : s₂ = ({ s₂ with vm := (U.calling g mk a).vm } : State).setVm s₂.vm := rfl
      rw [e2] at this
      exact this
    obtain ⟨c₂, i₂, len₂, hc₂, hd₂, hf₂⟩ := hend
    have hW' : U.WarmedH s₂.vm := hW₂
    have hcc : c₂ = c := by
      have h1 : s₂.code? g.method = U.code? g.method := by
        rw [State.code?_eq, State.code?_eq, hW'.alike.method?]
      exact Option.some.inj (hc₂.symm.trans (h1.trans h.code))
    subst hcc
    have hlen : len₂ = len := by rw [hdg] at hd₂; cases hd₂; rfl
    subst hlen
    have hs₂ : s₂ = (({ U with heap := s₂.heap, slotsUsed := s₂.slotsUsed } : State).setVm s₂.vm).setTop { g with pc := g.pc + len₂, stack := v.toList ++ g.stack } := by
      refine e3.trans ?_
      rw [hf₂, State.calling_eq h.top, State.setFrames_setFrames, State.setTop_of_frames _ hr', hr]
      rfl
    have hsame : U.sameButNew ({ U with heap := s₂.heap, slotsUsed := s₂.slotsUsed } : State) L mc ms := by
      refine ⟨?_, q2, q3, q4, q5, q6⟩
      obtain ⟨t, ht, -⟩ := State.frames_cons hr
      show ({ U with heap := s₂.heap, slotsUsed := s₂.slotsUsed } : State) = { U.setFrames U.frames with heap := s₂.heap, slotsUsed := s₂.slotsUsed }
      rw [State.setFrames_self ht]
    subst hg
    refine Or.inl ⟨v, ⟨(({ U with heap := s₂.heap, slotsUsed := s₂.slotsUsed } : State).setVm s₂.vm), Ls ++ L, c0 + mc, s0 + ms⟩,
      ⟨X.admits, X.cas, X.clock, X.frames, X.room, X.hears, X.method, X.code, (X.here.setHeapUsed s₂.heap s₂.slotsUsed).setVm hW'.alike, X.tail, State.WarmedH.trans X.warmed hW', X.limits, X.bytes, X.same.trans (hsame.setVm s.vm)⟩,
      ⟨g, mk, s₂, L, rfl, rfl, hqc, rfl, hL, rfl, rfl⟩, ?_⟩
    show Steps p.tables e below _ ((({ U with heap := s₂.heap, slotsUsed := s₂.slotsUsed } : State).setVm s₂.vm).setTop { g with pc := g.pc + len₂, stack := v.toList ++ g.stack })
    rw [← hs₂]
    exact hsteps
  · obtain ⟨e2, q2, q3, q4, q5, q6⟩ := id hsm
    have e3 : s₂ = ({ (U.calling g mk a).setFrames s₂.frames with heap := s₂.heap, slotsUsed := s₂.slotsUsed } : State).setVm s₂.vm := by
      have : s₂ = ({ s₂ with vm := (U.calling g mk a).vm } : State).setVm s₂.vm := rfl
      rw [e2] at this
      exact this
    have hf₂ : s₂.frames = .throwing q :: .java g :: U.frames.tail := hend
    have hW' : U.WarmedH s₂.vm := hW₂
    have hs₂ : s₂ = ((({ U with heap := s₂.heap, slotsUsed := s₂.slotsUsed } : State).setVm s₂.vm).setTop g).pushFrame (.throwing q) := by
      refine e3.trans ?_
      rw [hf₂, State.calling_eq h.top, State.setFrames_setFrames, State.pushFrame, State.frames_setTop _ hr', State.setTop_of_frames _ hr', State.setFrames_setFrames, hr]
      rfl
    have hsame : U.sameButNew ({ U with heap := s₂.heap, slotsUsed := s₂.slotsUsed } : State) L mc ms := by
      refine ⟨?_, q2, q3, q4, q5, q6⟩
      obtain ⟨t, ht, -⟩ := State.frames_cons hr
      show ({ U with heap := s₂.heap, slotsUsed := s₂.slotsUsed } : State) = { U.setFrames U.frames with heap := s₂.heap, slotsUsed := s₂.slotsUsed }
      rw [State.setFrames_self ht]
    subst hg
    refine Or.inr ⟨q, ⟨(({ U with heap := s₂.heap, slotsUsed := s₂.slotsUsed } : State).setVm s₂.vm), Ls ++ L, c0 + mc, s0 + ms⟩,
      ⟨X.admits, X.cas, X.clock, X.frames, X.room, X.hears, X.method, X.code, (X.here.setHeapUsed s₂.heap s₂.slotsUsed).setVm hW'.alike, X.tail, State.WarmedH.trans X.warmed hW', X.limits, X.bytes, X.same.trans (hsame.setVm s.vm)⟩,
      ⟨g, mk, s₂, L, E, ce, rfl, rfl, hx, hce, hcv, hcl, rfl, hL, rfl, rfl⟩, ?_⟩
    show Steps p.tables e below _ (((({ U with heap := s₂.heap, slotsUsed := s₂.slotsUsed } : State).setVm s₂.vm).setTop g).pushFrame (.throwing q))
    rw [← hs₂]
    exact hsteps
end
variable {p : Program} {l : Launch} {e : Env} {R : Room} {s : State} {m : MethodId} {args : Array Value} {below : List Frame} {meth : Method} {c : Code} {T : State} {H : Heap} {locs : List Loc} {cells slots : Nat}
theorem vx_callVX (X : Stand p l e R s m args below meth c T locs cells slots) (hexec : p.tables.exec = Jvm.exec) {own C : String} {index : Nat} {y : MethodName} {bytes : ByteArray} {maxL : Nat} {ret : Option FieldType} {hh : List (Nat × Nat × Nat × Nat)}
    (hown : s.vm.findClass own = some m.cls) (hlink : (Cond.methodLink own index y).before args s = true) (hinst : (Cond.instanceMethod y).before args s = true) (hsel : (Cond.selects C y y).before args s = true)
    (hcode : (Cond.codeWith y bytes maxL ret hh).before args s = true) (hy : y.cls ≠ "java/lang/invoke/MethodHandle" ∧ y.cls ≠ "java/lang/invoke/VarHandle")
    {W9 : Nat} {Pre : Pt → Array Value → Prop} {Post : Pt → Array Value → Option Value → Pt → Prop} {PostX : Pt → Array Value → Addr → Pt → Prop} (hK : vx_Back l R p e below s args y 3 W9 Pre Post PostX)
    {b : Addr} {cellB : Cell} (hcell : T.heap[b]? = some cellB) (hobj : cellB.vm.isStatics = false) (hcls : s.vm.findClass C = some cellB.cls)
    {g : JFrame} (hg : g.method = m) (hsize : g.locals.size = c.maxLocals) {argsL rest : List Value} (hlen : ∀ sig, parseMethodDescriptor y.desc = some sig → argsL.length = sig.parameters.length)
    (hstack : g.stack = argsL.reverse ++ .ref b :: rest) (hW : 2 * g.monitorRoom + (rest.map fun v => v.category).sum ≤ W9) (hdg : decode c.code g.pc = .ok (.invokevirtual index, 3))
    (hpre : ∀ vm₁, s.WarmedH vm₁ → Pre ⟨T.setVm vm₁, locs, cells, slots⟩ (Value.ref b :: argsL).toArray) :
    (∃ (v : Option Value) (vm₁ : Vm) (B : Pt), s.WarmedH vm₁ ∧ Stand p l e R s m args below meth c B.U B.locs B.cells B.slots ∧ Post ⟨T.setVm vm₁, locs, cells, slots⟩ (Value.ref b :: argsL).toArray v B ∧
      ∀ target, Steps p.tables e below (B.U.setTop { g with pc := g.pc + 3, stack := v.toList ++ rest }) target → Steps p.tables e below (T.setTop g) target) ∨
    (∃ (q : Addr) (vm₁ : Vm) (B : Pt), s.WarmedH vm₁ ∧ Stand p l e R s m args below meth c B.U B.locs B.cells B.slots ∧ PostX ⟨T.setVm vm₁, locs, cells, slots⟩ (Value.ref b :: argsL).toArray q B ∧
      Steps p.tables e below (T.setTop g) ((B.U.setTop { g with stack := rest }).pushFrame (.throwing q))) := by
  obtain ⟨mk, methM, hnamed, hmethM, hstM, habM⟩ := Cond.instanceMethod_spec hinst
  obtain ⟨m8, methM', cM, hn8, hmethM', -, -, -, -, -, -, hsigM⟩ := Cond.codeWith_spec hcode
  cases Option.some.inj (hn8.symm.trans hnamed)
  cases hmethM.symm.trans hmethM'
  obtain ⟨c2, r2, m2, q1, q2, q3, q4, kP, hkP, hkPi⟩ := Cond.selects_spec hsel
  cases hcls.symm.trans q1
  cases (State.methodFound?_of_named hnamed hy).symm.trans q2
  cases hnamed.symm.trans q3
  have hselP : selectMethod e.platform s.vm cellB.cls mk = .method mk := by rw [Launch.admits_selectMethod X.admits]; exact q4
  obtain ⟨vm₁, X₁, hstep₁⟩ := X.invokevirtual hexec hown hlink hnamed hmethM hstM hkP hkPi hy (a := b) (cell := cellB) hcell
    (fun z h => by rw [h] at hobj; cases hobj) hselP hmethM habM hkP hkPi (g := g) hg (argsL := argsL) (rest := rest) (hlen _ hsigM) hstack hdg
  rcases hK m meth c ⟨T.setVm vm₁, locs, cells, slots⟩ { g with stack := rest } (.invokevirtual index) mk (Value.ref b :: argsL).toArray X₁ hg hsize hdg hW (X₁.named hnamed) (hpre vm₁ X₁.warmed) with ⟨v, B, X', hpost, hsteps⟩ | ⟨q, B, X', hpost, hsteps⟩
  · exact Or.inl ⟨v, vm₁, B, X₁.warmed, X', hpost, fun target h => hstep₁ _ fun acts => by rw [doInvoke_state]; exact hsteps.trans h⟩
  · exact Or.inr ⟨q, vm₁, B, X₁.warmed, X', hpost, hstep₁ _ fun acts => by rw [doInvoke_state]; exact hsteps⟩
theorem vx_callSX (X : Stand p l e R s m args below meth c T locs cells slots) (hexec : p.tables.exec = Jvm.exec) {own : String} {index : Nat} {y : MethodName} {bytes : ByteArray} {maxL : Nat} {ret : Option FieldType} {hh : List (Nat × Nat × Nat × Nat)}
    (hown : s.vm.findClass own = some m.cls) (hlink : (Cond.methodLink own index y).before args s = true) (hstat : (Cond.static y).before args s = true) (hinit : (Cond.initialized y.cls).before args s = true)
    (hcode : (Cond.codeWith y bytes maxL ret hh).before args s = true) (hy : y.cls ≠ "java/lang/invoke/MethodHandle" ∧ y.cls ≠ "java/lang/invoke/VarHandle")
    {W9 : Nat} {Pre : Pt → Array Value → Prop} {Post : Pt → Array Value → Option Value → Pt → Prop} {PostX : Pt → Array Value → Addr → Pt → Prop} (hK : vx_Back l R p e below s args y 3 W9 Pre Post PostX)
    {g : JFrame} (hg : g.method = m) (hsize : g.locals.size = c.maxLocals) {argsL rest : List Value} (hlen : ∀ sig, parseMethodDescriptor y.desc = some sig → argsL.length = sig.parameters.length)
    (hstack : g.stack = argsL.reverse ++ rest) (hW : 2 * g.monitorRoom + (rest.map fun v => v.category).sum ≤ W9) (hdg : decode c.code g.pc = .ok (.invokestatic index, 3))
    (hpre : ∀ vm₁, s.WarmedH vm₁ → Pre ⟨T.setVm vm₁, locs, cells, slots⟩ argsL.toArray) :
    (∃ (v : Option Value) (vm₁ : Vm) (B : Pt), s.WarmedH vm₁ ∧ Stand p l e R s m args below meth c B.U B.locs B.cells B.slots ∧ Post ⟨T.setVm vm₁, locs, cells, slots⟩ argsL.toArray v B ∧
      ∀ target, Steps p.tables e below (B.U.setTop { g with pc := g.pc + 3, stack := v.toList ++ rest }) target → Steps p.tables e below (T.setTop g) target) ∨
    (∃ (q : Addr) (vm₁ : Vm) (B : Pt), s.WarmedH vm₁ ∧ Stand p l e R s m args below meth c B.U B.locs B.cells B.slots ∧ PostX ⟨T.setVm vm₁, locs, cells, slots⟩ argsL.toArray q B ∧
      Steps p.tables e below (T.setTop g) ((B.U.setTop { g with stack := rest }).pushFrame (.throwing q))) := by
  obtain ⟨mk, methM, cM, hnamed, hmethM, -, -, -, -, -, -, hsigM⟩ := Cond.codeWith_spec hcode
  have hstatic : methM.isStatic = true := Cond.static_spec hnamed hmethM hstat
  obtain ⟨kP, hkP, -⟩ := className_of_methodNamed hnamed
  have hinitP : kP.init = .initialized := Cond.initialized_spec (findClass_of_methodNamed hnamed) hkP hinit
  obtain ⟨vm₁, X₁, hstep₁⟩ := X.invokestatic hexec hown hlink hnamed hmethM hstatic hkP hinitP hy (g := g) hg (argsL := argsL) (rest := rest) (hlen _ hsigM) hstack hdg
  rcases hK m meth c ⟨T.setVm vm₁, locs, cells, slots⟩ { g with stack := rest } (.invokestatic index) mk argsL.toArray X₁ hg hsize hdg hW (X₁.named hnamed) (hpre vm₁ X₁.warmed) with ⟨v, B, X', hpost, hsteps⟩ | ⟨q, B, X', hpost, hsteps⟩
  · exact Or.inl ⟨v, vm₁, B, X₁.warmed, X', hpost, fun target h => hstep₁ _ fun acts => by rw [doInvoke_state]; exact hsteps.trans h⟩
  · exact Or.inr ⟨q, vm₁, B, X₁.warmed, X', hpost, hstep₁ _ fun acts => by rw [doInvoke_state]; exact hsteps⟩
theorem vx_callVW (X : Stand p l e R s m args below meth c T locs cells slots) (hexec : p.tables.exec = Jvm.exec) {own C : String} {index : Nat} {y : MethodName} {bytes : ByteArray} {maxL : Nat} {ret : Option FieldType} {hh : List (Nat × Nat × Nat × Nat)}
    (hown : s.vm.findClass own = some m.cls) (hlink : (Cond.methodLink own index y).before args s = true) (hinst : (Cond.instanceMethod y).before args s = true) (hsel : (Cond.selects C y y).before args s = true)
    (hcode : (Cond.codeWith y bytes maxL ret hh).before args s = true) (hy : y.cls ≠ "java/lang/invoke/MethodHandle" ∧ y.cls ≠ "java/lang/invoke/VarHandle")
    {W9 : Nat} {Pre : Pt → Array Value → Prop} {Post : Pt → Array Value → Option Value → Pt → Prop} (hK : Back l R p e below s args y 3 W9 Pre Post)
    {b : Addr} {cellB : Cell} (hcell : T.heap[b]? = some cellB) (hobj : cellB.vm.isStatics = false) (hcls : s.vm.findClass C = some cellB.cls)
    {g : JFrame} (hg : g.method = m) (hsize : g.locals.size = c.maxLocals) {argsL rest : List Value} (hlen : ∀ sig, parseMethodDescriptor y.desc = some sig → argsL.length = sig.parameters.length)
    (hstack : g.stack = argsL.reverse ++ .ref b :: rest) (hW : 2 * g.monitorRoom + (rest.map fun v => v.category).sum ≤ W9) (hdg : decode c.code g.pc = .ok (.invokevirtual index, 3))
    (hpre : ∀ vm₁, s.WarmedH vm₁ → Pre ⟨T.setVm vm₁, locs, cells, slots⟩ (Value.ref b :: argsL).toArray) :
    ∃ (v : Option Value) (vm₁ : Vm) (B : Pt), s.WarmedH vm₁ ∧ Stand p l e R s m args below meth c B.U B.locs B.cells B.slots ∧ Post ⟨T.setVm vm₁, locs, cells, slots⟩ (Value.ref b :: argsL).toArray v B ∧
      ∀ target, Steps p.tables e below (B.U.setTop { g with pc := g.pc + 3, stack := v.toList ++ rest }) target → Steps p.tables e below (T.setTop g) target := by
  obtain ⟨mk, methM, hnamed, hmethM, hstM, habM⟩ := Cond.instanceMethod_spec hinst
  obtain ⟨m8, methM', cM, hn8, hmethM', -, -, -, -, -, -, hsigM⟩ := Cond.codeWith_spec hcode
  cases Option.some.inj (hn8.symm.trans hnamed)
  cases hmethM.symm.trans hmethM'
  obtain ⟨c2, r2, m2, q1, q2, q3, q4, kP, hkP, hkPi⟩ := Cond.selects_spec hsel
  cases hcls.symm.trans q1
  cases (State.methodFound?_of_named hnamed hy).symm.trans q2
  cases hnamed.symm.trans q3
  have hselP : selectMethod e.platform s.vm cellB.cls mk = .method mk := by rw [Launch.admits_selectMethod X.admits]; exact q4
  obtain ⟨vm₁, X₁, hstep₁⟩ := X.invokevirtual hexec hown hlink hnamed hmethM hstM hkP hkPi hy (a := b) (cell := cellB) hcell
    (fun z h => by rw [h] at hobj; cases hobj) hselP hmethM habM hkP hkPi (g := g) hg (argsL := argsL) (rest := rest) (hlen _ hsigM) hstack hdg
  obtain ⟨v, B, X', hpost, hsteps⟩ := hK m meth c ⟨T.setVm vm₁, locs, cells, slots⟩ { g with stack := rest } (.invokevirtual index) mk (Value.ref b :: argsL).toArray X₁ hg hsize hdg hW (X₁.named hnamed) (hpre vm₁ X₁.warmed)
  exact ⟨v, vm₁, B, X₁.warmed, X', hpost, fun target h => hstep₁ _ fun acts => by rw [doInvoke_state]; exact hsteps.trans h⟩
abbrev vx_CVW (R : Room) (s : State) (args : Array Value) (own C : String) (index : Nat) (y : MethodName) (bytes : ByteArray) (maxL : Nat) (ret : Option FieldType) (hh : List (Nat × Nat × Nat × Nat)) (ws : List Cond) (rm : Room) (mc ms n : Nat) : Prop :=
  (rm.cells = mc ∧ rm.slots = ms ∧ rm.frames + 1 ≤ R.frames ∧ 8 + (maxL + 11) + rm.locals ≤ R.locals ∧ (∀ w ∈ ws, ∀ (a' : Array Value) (U : State), s.WarmedH U.vm → w.before a' U = true) ∧ Cond.codeWith y bytes maxL ret hh ∈ ws) ∧
  (Cond.codeWith y bytes maxL ret hh).before args s = true ∧ (Cond.initialized y.cls).before args s = true ∧ (y.cls ≠ "java/lang/invoke/MethodHandle" ∧ y.cls ≠ "java/lang/invoke/VarHandle") ∧
  (∀ sig, parseMethodDescriptor y.desc = some sig → n = sig.parameters.length) ∧ (Cond.methodLink own index y).before args s = true ∧ (Cond.instanceMethod y).before args s = true ∧ (Cond.selects C y y).before args s = true
theorem vx_cwVW {own C : String} {index maxL mc ms : Nat} {y : MethodName} {bytes : ByteArray} {ret : Option FieldType} {hh : List (Nat × Nat × Nat × Nat)} {Ts ws ws' : List Cond} {rm : Room} (n : Nat) (ht : ∀ w ∈ Ts, w.before args s = true) (hT : GoodIn Ts (wsV own index C y ws)) (hw : ws = Cond.codeWith y bytes maxL ret hh :: ws') (hrc : rm.cells = mc) (hrs : rm.slots = ms)
    (hd : y.cls = C ∧ y.cls ≠ "java/lang/invoke/MethodHandle" ∧ y.cls ≠ "java/lang/invoke/VarHandle" ∧ (parseMethodDescriptor y.desc).map (fun d => d.parameters.length) = some n) (hR : rm.frames + 1 ≤ R.frames ∧ 8 + (maxL + 11) + rm.locals ≤ R.locals) :
    vx_CVW R s args own C index y bytes maxL ret hh ws rm mc ms n := by
  obtain ⟨hC, hd⟩ := hd
  subst hC
  have ok : ∀ w ∈ wsV own index y.cls y ws, w.before args s = true := fun w h => ht w (hT w h).1
  have hG : GoodIn Ts ws := fun w h => hT w (by unfold wsV; exact List.mem_append_right _ h)
  have hc : Cond.codeWith y bytes maxL ret hh ∈ ws := by rw [hw]; exact List.mem_cons_self
  refine ⟨⟨hrc, hrs, hR.1, hR.2, pay_in ht hG, hc⟩, ht _ (hG _ hc).1, ok _ (by simp [wsV]), ⟨hd.1, hd.2.1⟩, fun sig h => ?_, ok _ (by simp [wsV]), ok _ (by simp [wsV]), ok _ (by simp [wsV])⟩
  have h2 := hd.2.2
  rw [h] at h2
  exact (Option.some.inj h2).symm
theorem vx_runVW {y : MethodName} {bytes cc : ByteArray} {maxL nL mc ms n index : Nat} {ret : Option FieldType} {hh : List (Nat × Nat × Nat × Nat)} {ws : List Cond} {rm : Room} {Pc : Array Value → State → Prop} {Qc : Array Value → State → Outcome → State → Prop} {free : Addr → Prop} {Ts : List Cond} {own C : String} {b : Addr} {As rest : List Value} {g : JFrame}
    (S : CallFix p m c cc nL s args Ts own) (hM : Met l y ws rm Pc Qc mc ms free) (cw : vx_CVW R s args own C index y bytes maxL ret hh ws rm mc ms n) (hp : PreV s H C b Pc As)
    (hg : g.method = m) (hn : As.length = n) (hsize : g.locals.size = nL) (hstack : g.stack = As.reverse ++ .ref b :: rest) (hW : 2 * g.monitorRoom + (rest.map fun v => v.category).sum ≤ 8) (hdg : decode cc g.pc = .ok (.invokevirtual index, 3)) (hf : cells + mc ≤ R.cells ∧ slots + ms ≤ R.slots) :
    va_Run p l e R s m args below meth c H locs cells slots mc ms g rest (Qc (Value.ref b :: As).toArray) free := by
  obtain ⟨⟨hrc, hrs, hfr, hlo, hws, hcw⟩, hcode, hini, hy, hlen, hl, hin, hse⟩ := cw
  have hK : Back l R p e below s args y 3 8 (PreOf R mc ms Pc) (PostOf Qc mc ms free) := va_backW (hh := hh) (bytes := bytes) (maxL := maxL) (ret := ret) hM hp.1 hrc hrs hfr hlo hws hcw (fun a' U hW => word_at hW (Or.inl (by first | rfl | simp [Cond.onTables, Cond.keeps, Cond.steady])) hini)
  obtain ⟨hx, hb, hml, ho, -⟩ := S
  obtain ⟨-, ⟨cellB, hcB, hoB, hclB⟩, hPc⟩ := hp
  intro T hT X
  obtain ⟨v, vm₁, ⟨U', l2, c2, s2⟩, hW₁, X', ⟨g', mk, t, L, e1, e2, hq, h1, hL, h2, h3⟩, st⟩ := vx_callVW X hx (C := C) (hh := hh) (bytes := bytes) (maxL := maxL) (ret := ret) ho hl hin hse hcode hy hK (by rw [hT]; exact hcB) hoB hclB hg (hsize.trans hml.symm) (argsL := As) (rest := rest) (fun sig h => hn.trans (hlen sig h)) hstack hW (by rw [hb]; exact hdg)
    (fun vm₁ hW₁ => ⟨hf.1, hf.2, hPc (T.setVm vm₁) hT hW₁⟩)
  dsimp only [Pt.U, Pt.locs, Pt.cells, Pt.slots] at X' e1 e2 h1 h2 h3 st
  subst h1; subst h2; subst h3
  exact ⟨v, (T.setVm vm₁).calling g' mk (Value.ref b :: As).toArray, t, U', L, hT, X', hL, e1, e2, hq, st⟩
section
variable {y : MethodName} {bytes cc : ByteArray} {maxL nL mc ms n index : Nat} {ret : Option FieldType} {ws : List Cond} {rm : Room} {Pc : Array Value → State → Prop} {Qc : Array Value → State → Outcome → State → Prop} {XC : String → State → State → Prop} {free : Addr → Prop} {Ts : List Cond} {own C : String} {b : Addr} {As rest : List Value} {g : JFrame}
theorem vx_runVX {hh : List (Nat × Nat × Nat × Nat)} (S : CallFix p m c cc nL s args Ts own) (hM : vx_Met l y ws rm Pc Qc XC mc ms free) (cw : vx_CVW R s args own C index y bytes maxL ret hh ws rm mc ms n) (hp : PreV s H C b Pc As)
    (hg : g.method = m) (hn : As.length = n) (hsize : g.locals.size = nL) (hstack : g.stack = As.reverse ++ .ref b :: rest) (hW : 2 * g.monitorRoom + (rest.map fun v => v.category).sum ≤ 8) (hdg : decode cc g.pc = .ok (.invokevirtual index, 3)) (hf : cells + mc ≤ R.cells ∧ slots + ms ≤ R.slots) :
    vx_Run p l e R s m args below meth c H locs cells slots mc ms g rest (Qc (Value.ref b :: As).toArray) XC free := by
  obtain ⟨⟨hrc, hrs, hfr, hlo, hws, hcw⟩, hcode, hini, hy, hlen, hl, hin, hse⟩ := cw
  have hK : vx_Back l R p e below s args y 3 8 (PreOf R mc ms Pc) (PostOf Qc mc ms free) (vx_Post XC mc ms free) := vx_backW (hh := hh) (bytes := bytes) (maxL := maxL) (ret := ret) hM hp.1 hrc hrs hfr hlo hws hcw (fun a' U hW => word_at hW (Or.inl (by first | rfl | simp [Cond.onTables, Cond.keeps, Cond.steady])) hini)
  obtain ⟨hx, hb, hml, ho, -⟩ := S
  obtain ⟨-, ⟨cellB, hcB, hoB, hclB⟩, hPc⟩ := hp
  intro T hT X
  rcases vx_callVX X hx (C := C) (hh := hh) (bytes := bytes) (maxL := maxL) (ret := ret) ho hl hin hse hcode hy hK (by rw [hT]; exact hcB) hoB hclB hg (hsize.trans hml.symm) (argsL := As) (rest := rest) (fun sig h => hn.trans (hlen sig h)) hstack hW (by rw [hb]; exact hdg)
    (fun vm₁ hW₁ => ⟨hf.1, hf.2, hPc (T.setVm vm₁) hT hW₁⟩) with ⟨v, vm₁, ⟨U', l2, c2, s2⟩, hW₁, X', ⟨g', mk, t, L, e1, e2, hq, h1, hL, h2, h3⟩, st⟩ | ⟨q, vm₁, ⟨U', l2, c2, s2⟩, hW₁, X', ⟨g', mk, t, L, E, ce, e1, e2, hq, hce, hcv, hcl, h1, hL, h2, h3⟩, st⟩
  · dsimp only [Pt.U, Pt.locs, Pt.cells, Pt.slots] at X' e1 e2 h1 h2 h3 st
    subst h1; subst h2; subst h3
    exact Or.inl ⟨v, (T.setVm vm₁).calling g' mk (Value.ref b :: As).toArray, t, U', L, hT, X', hL, e1, e2, hq, st⟩
  · dsimp only [Pt.U, Pt.locs, Pt.cells, Pt.slots] at X' e1 e2 h1 h2 h3 st hcl
    subst h1; subst h2; subst h3
    exact Or.inr ⟨q, (T.setVm vm₁).calling g' mk (Value.ref b :: As).toArray, t, U', L, E, ce, hT, X', hL, e1, e2, hq, hce, hcv, vx_cls hW₁ hcl, st⟩
theorem vx_runSX {hh : List (Nat × Nat × Nat × Nat)} (S : CallFix p m c cc nL s args Ts own) (hM : vx_Met l y ws rm Pc Qc XC mc ms free) (cw : vx_CSW R s args own index y bytes maxL ret hh ws rm mc ms n) (hp : PreS s H Pc As)
    (hg : g.method = m) (hn : As.length = n) (hsize : g.locals.size = nL) (hstack : g.stack = As.reverse ++ rest) (hW : 2 * g.monitorRoom + (rest.map fun v => v.category).sum ≤ 8) (hdg : decode cc g.pc = .ok (.invokestatic index, 3)) (hf : cells + mc ≤ R.cells ∧ slots + ms ≤ R.slots) :
    vx_Run p l e R s m args below meth c H locs cells slots mc ms g rest (Qc As.toArray) XC free := by
  obtain ⟨⟨hrc, hrs, hfr, hlo, hws, hcw⟩, hcode, hini, hy, hlen, hl, hstt⟩ := cw
  have hK : vx_Back l R p e below s args y 3 8 (PreOf R mc ms Pc) (PostOf Qc mc ms free) (vx_Post XC mc ms free) := vx_backW (hh := hh) (bytes := bytes) (maxL := maxL) (ret := ret) hM hp.1 hrc hrs hfr hlo hws hcw (fun a' U hW => word_at hW (Or.inl (by first | rfl | simp [Cond.onTables, Cond.keeps, Cond.steady])) hini)
  obtain ⟨hx, hb, hml, ho, -⟩ := S
  intro T hT X
  rcases vx_callSX X hx (hh := hh) (bytes := bytes) (maxL := maxL) (ret := ret) ho hl hstt hini hcode hy hK hg (hsize.trans hml.symm) (argsL := As) (rest := rest) (fun sig h => hn.trans (hlen sig h)) hstack hW (by rw [hb]; exact hdg)
    (fun vm₁ hW₁ => ⟨hf.1, hf.2, hp.2 (T.setVm vm₁) hT hW₁⟩) with ⟨v, vm₁, ⟨U', l2, c2, s2⟩, hW₁, X', ⟨g', mk, t, L, e1, e2, hq, h1, hL, h2, h3⟩, st⟩ | ⟨q, vm₁, ⟨U', l2, c2, s2⟩, hW₁, X', ⟨g', mk, t, L, E, ce, e1, e2, hq, hce, hcv, hcl, h1, hL, h2, h3⟩, st⟩
  · dsimp only [Pt.U, Pt.locs, Pt.cells, Pt.slots] at X' e1 e2 h1 h2 h3 st
    subst h1; subst h2; subst h3
    exact Or.inl ⟨v, (T.setVm vm₁).calling g' mk As.toArray, t, U', L, hT, X', hL, e1, e2, hq, st⟩
  · dsimp only [Pt.U, Pt.locs, Pt.cells, Pt.slots] at X' e1 e2 h1 h2 h3 st hcl
    subst h1; subst h2; subst h3
    exact Or.inr ⟨q, (T.setVm vm₁).calling g' mk As.toArray, t, U', L, E, ce, hT, X', hL, e1, e2, hq, hce, hcv, vx_cls hW₁ hcl, st⟩
end
end VXH
theorem vx_ofWH {l : Launch} {y : MethodName} {ws ws' : List Cond} {rm : Room} {Pc : Array Value → State → Prop} {Qc : Array Value → State → Outcome → State → Prop} {XC : String → State → State → Prop} {mc ms : Nat} {free : Addr → Prop} {cc : ByteArray} {maxL : Nat} {ret : Option FieldType} {hh : List (Nat × Nat × Nat × Nat)}
    (hy : plainName y.cls = true) (hw : ws = Cond.codeWith y cc maxL ret hh :: ws')
    (body : ∀ p e s m args below meth c s₁, BodyLoose p l y (headSpec ws rm) cc maxL ret e s m args below meth c s₁ → c.maxLocals = maxL → Pc args s →
      W p l e (headSpec ws rm).room s m args below meth c s.heap [] 0 0 (vx_MQ below Qc XC args s mc ms free) (entryFrame m args maxL)) : vx_Met l y ws rm Pc Qc XC mc ms free := by
  refine MetFree.of_bodyS (code := cc) (maxLocals := maxL) (ret := ret) hy ?_ ?_
  · intro args s m h hn
    obtain ⟨m9, meth, c, hn9, h1, h2, h3, h4, -, h5, h6, -⟩ := Cond.codeWith_spec (atoms_spec (ws := ws) h _ (by rw [hw]; exact List.mem_cons_self))
    cases hn.symm.trans hn9
    exact ⟨meth, c, h1, h2, h3, h4, h5, h6⟩
  · intro p e s m args below meth c s₁ B hml hP _
    have hh0 : s₁.heap = s.heap := by rw [B.state]; rfl
    obtain ⟨t, a1, o, b1, b2, b3⟩ := body p e s m args below meth c s₁ B hml hP s₁ hh0 (Stand.of_body B)
    exact ⟨t, o, a1, b1, b2, b3⟩
/-! ===== END ===== -/
/-! ===== BEGIN a constructor that throws (launches without stack traces) ===== -/
section VXIA
variable {p : Program} {l : Launch} {e : Env} {R : Room} {s : State} {m : MethodId} {args : Array Value} {below : List Frame} {meth : Method} {c : Code} {T : State} {locs : List Loc} {cells slots : Nat}
theorem vx_callI (X : Stand p l e R s m args below meth c T locs cells slots) (hexec : p.tables.exec = Jvm.exec) {own : String} {index : Nat} {y : MethodName} {bytes : ByteArray} {maxL : Nat}
    (hown : s.vm.findClass own = some m.cls) (hy1 : y.name = "<init>") (hlink : (Cond.methodLink own index y).before args s = true) (hinst : (Cond.instanceMethod y).before args s = true)
    (hcode : (Cond.code y bytes maxL none).before args s = true) (hy : y.cls ≠ "java/lang/invoke/MethodHandle" ∧ y.cls ≠ "java/lang/invoke/VarHandle")
    {W9 : Nat} {Pre : Pt → Array Value → Prop} {Post : Pt → Array Value → Option Value → Pt → Prop} {PostX : Pt → Array Value → Addr → Pt → Prop} (hK : vx_Back l R p e below s args y 3 W9 Pre Post PostX)
    {g : JFrame} (hg : g.method = m) (hsize : g.locals.size = c.maxLocals) {a : Addr} {argsL rest : List Value} (hlen : ∀ sig, parseMethodDescriptor y.desc = some sig → argsL.length = sig.parameters.length)
    (hstack : g.stack = argsL.reverse ++ .ref a :: rest) (hW : 2 * g.monitorRoom + (rest.map fun v => v.category).sum ≤ W9) (hdg : decode c.code g.pc = .ok (.invokespecial index, 3))
    (hpre : ∀ vm₁, s.WarmedH vm₁ → Pre ⟨T.setVm vm₁, locs, cells, slots⟩ (Value.ref a :: argsL).toArray) :
    (∃ (v : Option Value) (vm₁ : Vm) (B : Pt), s.WarmedH vm₁ ∧ Stand p l e R s m args below meth c B.U B.locs B.cells B.slots ∧ Post ⟨T.setVm vm₁, locs, cells, slots⟩ (Value.ref a :: argsL).toArray v B ∧
      ∀ target, Steps p.tables e below (B.U.setTop { g with pc := g.pc + 3, stack := v.toList ++ rest }) target → Steps p.tables e below (T.setTop g) target) ∨
    (∃ (q : Addr) (vm₁ : Vm) (B : Pt), s.WarmedH vm₁ ∧ Stand p l e R s m args below meth c B.U B.locs B.cells B.slots ∧ PostX ⟨T.setVm vm₁, locs, cells, slots⟩ (Value.ref a :: argsL).toArray q B ∧
      Steps p.tables e below (T.setTop g) ((B.U.setTop { g with stack := rest }).pushFrame (.throwing q))) := by
  subst hg
  have hpl : e.platform.magicAccessors = ({} : Platform).magicAccessors := by rw [X.admits.platform]
  obtain ⟨mk, methM, cM, kP, vm₁, hnamed, hmethM, hcodeM, -, hlocalsM, -, hkP, -, hW₁, hstep₁⟩ := Steps.initColdArgs (e := e) X.here hexec X.warmed hpl hown hy1 hy hlink hinst hcode (f := g) rfl hlen hstack hdg
  have X₁ := X.noted hW₁
  rcases hK g.method meth c ⟨T.setVm vm₁, locs, cells, slots⟩ { g with stack := rest } (.invokespecial index) mk (Value.ref a :: argsL).toArray X₁ rfl hsize hdg hW (X₁.named hnamed) (hpre vm₁ X₁.warmed) with ⟨v, B, X', hpost, hsteps⟩ | ⟨q, B, X', hpost, hsteps⟩
  · exact Or.inl ⟨v, vm₁, B, X₁.warmed, X', hpost, fun target h => hstep₁ _ fun acts => by rw [doInvoke_state]; exact hsteps.trans h⟩
  · exact Or.inr ⟨q, vm₁, B, X₁.warmed, X', hpost, hstep₁ _ fun acts => by rw [doInvoke_state]; exact hsteps⟩
end VXIA
section VXIB
variable {p : Program} {l : Launch} {e : Env} {R : Room} {s : State} {m : MethodId} {args : Array Value} {below : List Frame} {meth : Method} {c : Code} {H : Heap} {locs : List Loc} {cells slots : Nat}
variable {y : MethodName} {bytes cc : ByteArray} {maxL nL mc ms n index : Nat} {ret : Option FieldType} {ws : List Cond} {rm : Room} {Pc : Array Value → State → Prop} {Qc : Array Value → State → Outcome → State → Prop} {XC : String → State → State → Prop} {free : Addr → Prop} {Ts : List Cond} {own C : String} {b : Addr} {As rest : List Value} {g : JFrame}
theorem vx_runI (S : CallFix p m c cc nL s args Ts own) (hM : vx_Met l y ws rm Pc Qc XC mc ms free) (cw : CallB R s args own index y bytes maxL none ws rm mc ms n ∧ y.name = "<init>" ∧ (Cond.instanceMethod y).before args s = true) (hp : PreS s H Pc (.ref b :: As))
    (hg : g.method = m) (hn : As.length = n) (hsize : g.locals.size = nL) (hstack : g.stack = As.reverse ++ .ref b :: rest) (hW : 2 * g.monitorRoom + (rest.map fun v => v.category).sum ≤ 8) (hdg : decode cc g.pc = .ok (.invokespecial index, 3)) (hf : cells + mc ≤ R.cells ∧ slots + ms ≤ R.slots) :
    vx_Run p l e R s m args below meth c H locs cells slots mc ms g rest (Qc (Value.ref b :: As).toArray) XC free := by
  have hK : vx_Back l R p e below s args y 3 8 (PreOf R mc ms Pc) (PostOf Qc mc ms free) (vx_Post XC mc ms free) := vx_callBack cw.1 hM hp.1
  obtain ⟨⟨-, -, -, -, -, -, hcode, -, hy, hlen, hl⟩, hy1, hin⟩ := cw
  obtain ⟨hx, hb, hml, ho, -⟩ := S
  have hPc := hp.2
  intro T hT X
  rcases vx_callI X hx (bytes := bytes) (maxL := maxL) ho hy1 hl hin hcode hy hK hg (hsize.trans hml.symm) (a := b) (argsL := As) (rest := rest) (fun sig h => hn.trans (hlen sig h)) hstack hW (by rw [hb]; exact hdg)
    (fun vm₁ hW₁ => ⟨hf.1, hf.2, hPc (T.setVm vm₁) hT hW₁⟩) with ⟨v, vm₁, ⟨U', l2, c2, s2⟩, hW₁, X', ⟨g', mk, t, L, e1, e2, hq, h1, hL, h2, h3⟩, st⟩ | ⟨q, vm₁, ⟨U', l2, c2, s2⟩, hW₁, X', ⟨g', mk, t, L, E, ce, e1, e2, hq, hce, hcv, hcl, h1, hL, h2, h3⟩, st⟩
  · dsimp only [Pt.U, Pt.locs, Pt.cells, Pt.slots] at X' e1 e2 h1 h2 h3 st
    subst h1; subst h2; subst h3
    exact Or.inl ⟨v, (T.setVm vm₁).calling g' mk (Value.ref b :: As).toArray, t, U', L, hT, X', hL, e1, e2, hq, st⟩
  · dsimp only [Pt.U, Pt.locs, Pt.cells, Pt.slots] at X' e1 e2 h1 h2 h3 st hcl
    subst h1; subst h2; subst h3
    exact Or.inr ⟨q, (T.setVm vm₁).calling g' mk (Value.ref b :: As).toArray, t, U', L, E, ce, hT, X', hL, e1, e2, hq, hce, hcv, vx_cls hW₁ hcl, st⟩
end VXIB
/-! ===== END ===== -/
/-! ===== BEGIN a private constructor of a nest mate that throws ===== -/
section VXIC
variable {p : Program} {l : Launch} {e : Env} {R : Room} {s : State} {m : MethodId} {args : Array Value} {below : List Frame} {meth : Method} {c : Code} {T : State} {locs : List Loc} {cells slots : Nat}
theorem vx_callIN (X : Stand p l e R s m args below meth c T locs cells slots) (hexec : p.tables.exec = Jvm.exec) {own : String} {index : Nat} {host : String} {y : MethodName} {bytes : ByteArray} {maxL : Nat}
    (hown : s.vm.findClass own = some m.cls) (hy1 : y.name = "<init>") (hlink : (Cond.methodLinkNest own index y host).before args s = true) (hinst : (Cond.instanceMethod y).before args s = true)
    (hcode : (Cond.code y bytes maxL none).before args s = true) (hy : y.cls ≠ "java/lang/invoke/MethodHandle" ∧ y.cls ≠ "java/lang/invoke/VarHandle")
    {W9 : Nat} {Pre : Pt → Array Value → Prop} {Post : Pt → Array Value → Option Value → Pt → Prop} {PostX : Pt → Array Value → Addr → Pt → Prop} (hK : vx_Back l R p e below s args y 3 W9 Pre Post PostX)
    {g : JFrame} (hg : g.method = m) (hsize : g.locals.size = c.maxLocals) {a : Addr} {argsL rest : List Value} (hlen : ∀ sig, parseMethodDescriptor y.desc = some sig → argsL.length = sig.parameters.length)
    (hstack : g.stack = argsL.reverse ++ .ref a :: rest) (hW : 2 * g.monitorRoom + (rest.map fun v => v.category).sum ≤ W9) (hdg : decode c.code g.pc = .ok (.invokespecial index, 3))
    (hpre : ∀ vm₁, s.WarmedH vm₁ → Pre ⟨T.setVm vm₁, locs, cells, slots⟩ (Value.ref a :: argsL).toArray) :
    (∃ (v : Option Value) (vm₁ : Vm) (B : Pt), s.WarmedH vm₁ ∧ Stand p l e R s m args below meth c B.U B.locs B.cells B.slots ∧ Post ⟨T.setVm vm₁, locs, cells, slots⟩ (Value.ref a :: argsL).toArray v B ∧
      ∀ target, Steps p.tables e below (B.U.setTop { g with pc := g.pc + 3, stack := v.toList ++ rest }) target → Steps p.tables e below (T.setTop g) target) ∨
    (∃ (q : Addr) (vm₁ : Vm) (B : Pt), s.WarmedH vm₁ ∧ Stand p l e R s m args below meth c B.U B.locs B.cells B.slots ∧ PostX ⟨T.setVm vm₁, locs, cells, slots⟩ (Value.ref a :: argsL).toArray q B ∧
      Steps p.tables e below (T.setTop g) ((B.U.setTop { g with stack := rest }).pushFrame (.throwing q))) := by
  subst hg
  have hpl : e.platform.magicAccessors = ({} : Platform).magicAccessors := by rw [X.admits.platform]
  obtain ⟨mk, methM, cM, kP, vm₁, hnamed, hmethM, hcodeM, -, hlocalsM, -, hkP, -, hW₁, hstep₁⟩ := Steps.initColdArgsNest (e := e) X.here hexec X.warmed hpl hown hy1 hy hlink hinst hcode (f := g) rfl hlen hstack hdg
  have X₁ := X.noted hW₁
  rcases hK g.method meth c ⟨T.setVm vm₁, locs, cells, slots⟩ { g with stack := rest } (.invokespecial index) mk (Value.ref a :: argsL).toArray X₁ rfl hsize hdg hW (X₁.named hnamed) (hpre vm₁ X₁.warmed) with ⟨v, B, X', hpost, hsteps⟩ | ⟨q, B, X', hpost, hsteps⟩
  · exact Or.inl ⟨v, vm₁, B, X₁.warmed, X', hpost, fun target h => hstep₁ _ fun acts => by rw [doInvoke_state]; exact hsteps.trans h⟩
  · exact Or.inr ⟨q, vm₁, B, X₁.warmed, X', hpost, hstep₁ _ fun acts => by rw [doInvoke_state]; exact hsteps⟩
end VXIC
section VXID
variable {p : Program} {l : Launch} {e : Env} {R : Room} {s : State} {m : MethodId} {args : Array Value} {below : List Frame} {meth : Method} {c : Code} {H : Heap} {locs : List Loc} {cells slots : Nat}
theorem vx_runIN {y : MethodName} {bytes cc : ByteArray} {maxL nL mc ms n index : Nat} {ws : List Cond} {rm : Room} {Pc : Array Value → State → Prop} {Qc : Array Value → State → Outcome → State → Prop} {XC : String → State → State → Prop} {free : Addr → Prop} {Ts : List Cond} {own host : String} {b : Addr} {As rest : List Value} {g : JFrame}
    (S : CallFix p m c cc nL s args Ts own) (hM : vx_Met l y ws rm Pc Qc XC mc ms free) (cw : va_CN R s args own index y host bytes maxL none ws rm mc ms n ∧ y.name = "<init>" ∧ (Cond.instanceMethod y).before args s = true) (hp : PreS s H Pc (.ref b :: As))
    (hg : g.method = m) (hn : As.length = n) (hsize : g.locals.size = nL) (hstack : g.stack = As.reverse ++ .ref b :: rest) (hW : 2 * g.monitorRoom + (rest.map fun v => v.category).sum ≤ 8) (hdg : decode cc g.pc = .ok (.invokespecial index, 3)) (hf : cells + mc ≤ R.cells ∧ slots + ms ≤ R.slots) :
    vx_Run p l e R s m args below meth c H locs cells slots mc ms g rest (Qc (Value.ref b :: As).toArray) XC free := by
  obtain ⟨⟨⟨hrc, hrs, hfr, hlo, hws, hcw⟩, hcode, hini, hy, hlen, hl⟩, hx1, hx2⟩ := cw
  have hK : vx_Back l R p e below s args y 3 8 (PreOf R mc ms Pc) (PostOf Qc mc ms free) (vx_Post XC mc ms free) := vx_back (bytes := bytes) (maxL := maxL) (ret := none) hM hp.1 hrc hrs hfr hlo hws hcw (fun a' U hW => word_at hW (Or.inl (by first | rfl | simp [Cond.onTables, Cond.keeps, Cond.steady])) hini)
  obtain ⟨hx, hb, hml, ho, -⟩ := S
  have hPc := hp.2
  intro T hT X
  rcases vx_callIN X hx (bytes := bytes) (maxL := maxL) ho hx1 hl hx2 hcode hy hK hg (hsize.trans hml.symm) (a := b) (argsL := As) (rest := rest) (fun sig h => hn.trans (hlen sig h)) hstack hW (by rw [hb]; exact hdg)
    (fun vm₁ hW₁ => ⟨hf.1, hf.2, hPc (T.setVm vm₁) hT hW₁⟩) with ⟨v, vm₁, ⟨U', l2, c2, s2⟩, hW₁, X', ⟨g', mk, t, L, e1, e2, hq, h1, hL, h2, h3⟩, st⟩ | ⟨q, vm₁, ⟨U', l2, c2, s2⟩, hW₁, X', ⟨g', mk, t, L, E, ce, e1, e2, hq, hce, hcv, hcl, h1, hL, h2, h3⟩, st⟩
  · dsimp only [Pt.U, Pt.locs, Pt.cells, Pt.slots] at X' e1 e2 h1 h2 h3 st
    subst h1; subst h2; subst h3
    exact Or.inl ⟨v, (T.setVm vm₁).calling g' mk (Value.ref b :: As).toArray, t, U', L, hT, X', hL, e1, e2, hq, st⟩
  · dsimp only [Pt.U, Pt.locs, Pt.cells, Pt.slots] at X' e1 e2 h1 h2 h3 st hcl
    subst h1; subst h2; subst h3
    exact Or.inr ⟨q, (T.setVm vm₁).calling g' mk (Value.ref b :: As).toArray, t, U', L, E, ce, hT, X', hL, e1, e2, hq, hce, hcv, vx_cls hW₁ hcl, st⟩
end VXID
/-! ===== END ===== -/
/-! ===== BEGIN a private method of a nest mate that may throw (follows va_callVN, va_callSN, va_runVN, va_runSN) ===== -/
section
variable {p : Program} {l : Launch} {e : Env} {R : Room} {s : State} {m : MethodId} {args : Array Value} {below : List Frame} {meth : Method} {c : Code} {H : Heap} {locs : List Loc} {cells slots : Nat}
variable {T : State}
theorem vx_callVN (X : Stand p l e R s m args below meth c T locs cells slots) (hexec : p.tables.exec = Jvm.exec) {own C : String} {index : Nat} {host : String} {y : MethodName} {bytes : ByteArray} {maxL : Nat} {ret : Option FieldType}
    (hown : s.vm.findClass own = some m.cls) (hlink : (Cond.methodLinkNest own index y host).before args s = true) (hinst : (Cond.instanceMethod y).before args s = true) (hsel : (Cond.selects C y y).before args s = true)
    (hcode : (Cond.code y bytes maxL ret).before args s = true) (hy : y.cls ≠ "java/lang/invoke/MethodHandle" ∧ y.cls ≠ "java/lang/invoke/VarHandle")
    {W : Nat} {Pre : Pt → Array Value → Prop} {Post : Pt → Array Value → Option Value → Pt → Prop} {PostX : Pt → Array Value → Addr → Pt → Prop} (hK : vx_Back l R p e below s args y 3 W Pre Post PostX)
    {b : Addr} {cellB : Cell} (hcell : T.heap[b]? = some cellB) (hobj : cellB.vm.isStatics = false) (hcls : s.vm.findClass C = some cellB.cls)
    {g : JFrame} (hg : g.method = m) (hsize : g.locals.size = c.maxLocals) {argsL rest : List Value} (hlen : ∀ sig, parseMethodDescriptor y.desc = some sig → argsL.length = sig.parameters.length)
    (hstack : g.stack = argsL.reverse ++ .ref b :: rest) (hW : 2 * g.monitorRoom + (rest.map fun v => v.category).sum ≤ W) (hdg : decode c.code g.pc = .ok (.invokevirtual index, 3))
    (hpre : ∀ vm₁, s.WarmedH vm₁ → Pre ⟨T.setVm vm₁, locs, cells, slots⟩ (Value.ref b :: argsL).toArray) :
    (∃ (v : Option Value) (vm₁ : Vm) (B : Pt), s.WarmedH vm₁ ∧ Stand p l e R s m args below meth c B.U B.locs B.cells B.slots ∧ Post ⟨T.setVm vm₁, locs, cells, slots⟩ (Value.ref b :: argsL).toArray v B ∧
      ∀ target, Steps p.tables e below (B.U.setTop { g with pc := g.pc + 3, stack := v.toList ++ rest }) target → Steps p.tables e below (T.setTop g) target) ∨
    (∃ (q : Addr) (vm₁ : Vm) (B : Pt), s.WarmedH vm₁ ∧ Stand p l e R s m args below meth c B.U B.locs B.cells B.slots ∧ PostX ⟨T.setVm vm₁, locs, cells, slots⟩ (Value.ref b :: argsL).toArray q B ∧
      Steps p.tables e below (T.setTop g) ((B.U.setTop { g with stack := rest }).pushFrame (.throwing q))) := by
  obtain ⟨mk, methM, hnamed, hmethM, hstM, habM⟩ := Cond.instanceMethod_spec hinst
  obtain ⟨methM', cM, hmethM', -, -, -, -, -, -, hsigM⟩ := Cond.code_spec hnamed hcode
  cases hmethM.symm.trans hmethM'
  obtain ⟨c2, r2, m2, q1, q2, q3, q4, kP, hkP, hkPi⟩ := Cond.selects_spec hsel
  cases hcls.symm.trans q1
  cases (State.methodFound?_of_named hnamed hy).symm.trans q2
  cases hnamed.symm.trans q3
  have hselP : selectMethod e.platform s.vm cellB.cls mk = .method mk := by rw [Launch.admits_selectMethod X.admits]; exact q4
  obtain ⟨vm₁, X₁, hstep₁⟩ := X.invokevirtualNest hexec hown hlink hnamed hmethM hstM hkP hkPi hy (a := b) (cell := cellB) hcell
    (fun z h => by rw [h] at hobj; cases hobj) hselP hmethM habM hkP hkPi (g := g) hg (argsL := argsL) (rest := rest) (hlen _ hsigM) hstack hdg
  rcases hK m meth c ⟨T.setVm vm₁, locs, cells, slots⟩ { g with stack := rest } (.invokevirtual index) mk (Value.ref b :: argsL).toArray X₁ hg hsize hdg hW (X₁.named hnamed) (hpre vm₁ X₁.warmed) with ⟨v, B, X', hpost, hsteps⟩ | ⟨q, B, X', hpost, hsteps⟩
  · exact Or.inl ⟨v, vm₁, B, X₁.warmed, X', hpost, fun target h => hstep₁ _ fun acts => by rw [doInvoke_state]; exact hsteps.trans h⟩
  · exact Or.inr ⟨q, vm₁, B, X₁.warmed, X', hpost, hstep₁ _ fun acts => by rw [doInvoke_state]; exact hsteps⟩
theorem vx_callSN (X : Stand p l e R s m args below meth c T locs cells slots) (hexec : p.tables.exec = Jvm.exec) {own : String} {index : Nat} {host : String} {y : MethodName} {bytes : ByteArray} {maxL : Nat} {ret : Option FieldType}
    (hown : s.vm.findClass own = some m.cls) (hlink : (Cond.methodLinkNest own index y host).before args s = true) (hstat : (Cond.static y).before args s = true) (hinit : (Cond.initialized y.cls).before args s = true)
    (hcode : (Cond.code y bytes maxL ret).before args s = true) (hy : y.cls ≠ "java/lang/invoke/MethodHandle" ∧ y.cls ≠ "java/lang/invoke/VarHandle")
    {W : Nat} {Pre : Pt → Array Value → Prop} {Post : Pt → Array Value → Option Value → Pt → Prop} {PostX : Pt → Array Value → Addr → Pt → Prop} (hK : vx_Back l R p e below s args y 3 W Pre Post PostX)
    {g : JFrame} (hg : g.method = m) (hsize : g.locals.size = c.maxLocals) {argsL rest : List Value} (hlen : ∀ sig, parseMethodDescriptor y.desc = some sig → argsL.length = sig.parameters.length)
    (hstack : g.stack = argsL.reverse ++ rest) (hW : 2 * g.monitorRoom + (rest.map fun v => v.category).sum ≤ W) (hdg : decode c.code g.pc = .ok (.invokestatic index, 3))
    (hpre : ∀ vm₁, s.WarmedH vm₁ → Pre ⟨T.setVm vm₁, locs, cells, slots⟩ argsL.toArray) :
    (∃ (v : Option Value) (vm₁ : Vm) (B : Pt), s.WarmedH vm₁ ∧ Stand p l e R s m args below meth c B.U B.locs B.cells B.slots ∧ Post ⟨T.setVm vm₁, locs, cells, slots⟩ argsL.toArray v B ∧
      ∀ target, Steps p.tables e below (B.U.setTop { g with pc := g.pc + 3, stack := v.toList ++ rest }) target → Steps p.tables e below (T.setTop g) target) ∨
    (∃ (q : Addr) (vm₁ : Vm) (B : Pt), s.WarmedH vm₁ ∧ Stand p l e R s m args below meth c B.U B.locs B.cells B.slots ∧ PostX ⟨T.setVm vm₁, locs, cells, slots⟩ argsL.toArray q B ∧
      Steps p.tables e below (T.setTop g) ((B.U.setTop { g with stack := rest }).pushFrame (.throwing q))) := by
  obtain ⟨mk, hnamed⟩ := Cond.code_named hcode
  obtain ⟨methM, cM, hmethM, -, -, -, -, -, -, hsigM⟩ := Cond.code_spec hnamed hcode
  have hstatic : methM.isStatic = true := Cond.static_spec hnamed hmethM hstat
  obtain ⟨kP, hkP, -⟩ := className_of_methodNamed hnamed
  have hinitP : kP.init = .initialized := Cond.initialized_spec (findClass_of_methodNamed hnamed) hkP hinit
  obtain ⟨vm₁, X₁, hstep₁⟩ := X.invokestaticNest hexec hown hlink hnamed hmethM hstatic hkP hinitP hy (g := g) hg (argsL := argsL) (rest := rest) (hlen _ hsigM) hstack hdg
  rcases hK m meth c ⟨T.setVm vm₁, locs, cells, slots⟩ { g with stack := rest } (.invokestatic index) mk argsL.toArray X₁ hg hsize hdg hW (X₁.named hnamed) (hpre vm₁ X₁.warmed) with ⟨v, B, X', hpost, hsteps⟩ | ⟨q, B, X', hpost, hsteps⟩
  · exact Or.inl ⟨v, vm₁, B, X₁.warmed, X', hpost, fun target h => hstep₁ _ fun acts => by rw [doInvoke_state]; exact hsteps.trans h⟩
  · exact Or.inr ⟨q, vm₁, B, X₁.warmed, X', hpost, hstep₁ _ fun acts => by rw [doInvoke_state]; exact hsteps⟩
theorem vx_runVN {y : MethodName} {bytes cc : ByteArray} {maxL nL mc ms n index : Nat} {ret : Option FieldType} {ws : List Cond} {rm : Room} {Pc : Array Value → State → Prop} {Qc : Array Value → State → Outcome → State → Prop} {XC : String → State → State → Prop} {free : Addr → Prop} {Ts : List Cond} {own C host : String} {b : Addr} {As rest : List Value} {g : JFrame}
    (S : CallFix p m c cc nL s args Ts own) (hM : vx_Met l y ws rm Pc Qc XC mc ms free) (cw : va_CN R s args own index y host bytes maxL ret ws rm mc ms n ∧ (Cond.instanceMethod y).before args s = true ∧ (Cond.selects C y y).before args s = true) (hp : PreV s H C b Pc As)
    (hg : g.method = m) (hn : As.length = n) (hsize : g.locals.size = nL) (hstack : g.stack = As.reverse ++ .ref b :: rest) (hW : 2 * g.monitorRoom + (rest.map fun v => v.category).sum ≤ 8) (hdg : decode cc g.pc = .ok (.invokevirtual index, 3)) (hf : cells + mc ≤ R.cells ∧ slots + ms ≤ R.slots) :
    vx_Run p l e R s m args below meth c H locs cells slots mc ms g rest (Qc (Value.ref b :: As).toArray) XC free := by
  obtain ⟨⟨⟨hrc, hrs, hfr, hlo, hws, hcw⟩, hcode, hini, hy, hlen, hl⟩, hx1, hx2⟩ := cw
  have hK : vx_Back l R p e below s args y 3 8 (PreOf R mc ms Pc) (PostOf Qc mc ms free) (vx_Post XC mc ms free) := vx_back (bytes := bytes) (maxL := maxL) (ret := ret) hM hp.1 hrc hrs hfr hlo hws hcw (fun a' U hW => word_at hW (Or.inl (by first | rfl | simp [Cond.onTables, Cond.keeps, Cond.steady])) hini)
  obtain ⟨hx, hb, hml, ho, -⟩ := S
  obtain ⟨-, ⟨cellB, hcB, hoB, hclB⟩, hPc⟩ := hp
  intro T hT X
  rcases vx_callVN X hx (C := C) (bytes := bytes) (maxL := maxL) (ret := ret) ho hl hx1 hx2 hcode hy hK (by rw [hT]; exact hcB) hoB hclB hg (hsize.trans hml.symm) (argsL := As) (rest := rest) (fun sig h => hn.trans (hlen sig h)) hstack hW (by rw [hb]; exact hdg)
    (fun vm₁ hW₁ => ⟨hf.1, hf.2, hPc (T.setVm vm₁) hT hW₁⟩) with ⟨v, vm₁, ⟨U', l2, c2, s2⟩, hW₁, X', ⟨g', mk, t, L, e1, e2, hq, h1, hL, h2, h3⟩, st⟩ | ⟨q, vm₁, ⟨U', l2, c2, s2⟩, hW₁, X', ⟨g', mk, t, L, E, ce, e1, e2, hq, hce, hcv, hcl, h1, hL, h2, h3⟩, st⟩
  · dsimp only [Pt.U, Pt.locs, Pt.cells, Pt.slots] at X' e1 e2 h1 h2 h3 st
    subst h1; subst h2; subst h3
    exact Or.inl ⟨v, (T.setVm vm₁).calling g' mk (Value.ref b :: As).toArray, t, U', L, hT, X', hL, e1, e2, hq, st⟩
  · dsimp only [Pt.U, Pt.locs, Pt.cells, Pt.slots] at X' e1 e2 h1 h2 h3 st hcl
    subst h1; subst h2; subst h3
    exact Or.inr ⟨q, (T.setVm vm₁).calling g' mk (Value.ref b :: As).toArray, t, U', L, E, ce, hT, X', hL, e1, e2, hq, hce, hcv, vx_cls hW₁ hcl, st⟩
theorem vx_runSN {y : MethodName} {bytes cc : ByteArray} {maxL nL mc ms n index : Nat} {ret : Option FieldType} {ws : List Cond} {rm : Room} {Pc : Array Value → State → Prop} {Qc : Array Value → State → Outcome → State → Prop} {XC : String → State → State → Prop} {free : Addr → Prop} {Ts : List Cond} {own host : String} {As rest : List Value} {g : JFrame}
    (S : CallFix p m c cc nL s args Ts own) (hM : vx_Met l y ws rm Pc Qc XC mc ms free) (cw : va_CN R s args own index y host bytes maxL ret ws rm mc ms n ∧ (Cond.static y).before args s = true ∧ True) (hp : PreS s H Pc As)
    (hg : g.method = m) (hn : As.length = n) (hsize : g.locals.size = nL) (hstack : g.stack = As.reverse ++ rest) (hW : 2 * g.monitorRoom + (rest.map fun v => v.category).sum ≤ 8) (hdg : decode cc g.pc = .ok (.invokestatic index, 3)) (hf : cells + mc ≤ R.cells ∧ slots + ms ≤ R.slots) :
    vx_Run p l e R s m args below meth c H locs cells slots mc ms g rest (Qc As.toArray) XC free := by
  obtain ⟨⟨⟨hrc, hrs, hfr, hlo, hws, hcw⟩, hcode, hini, hy, hlen, hl⟩, hx1, hx2⟩ := cw
  have hK : vx_Back l R p e below s args y 3 8 (PreOf R mc ms Pc) (PostOf Qc mc ms free) (vx_Post XC mc ms free) := vx_back (bytes := bytes) (maxL := maxL) (ret := ret) hM hp.1 hrc hrs hfr hlo hws hcw (fun a' U hW => word_at hW (Or.inl (by first | rfl | simp [Cond.onTables, Cond.keeps, Cond.steady])) hini)
  obtain ⟨hx, hb, hml, ho, -⟩ := S
  have hPc := hp.2
  intro T hT X
  rcases vx_callSN X hx (bytes := bytes) (maxL := maxL) (ret := ret) ho hl hx1 hini hcode hy hK hg (hsize.trans hml.symm) (argsL := As) (rest := rest) (fun sig h => hn.trans (hlen sig h)) hstack hW (by rw [hb]; exact hdg)
    (fun vm₁ hW₁ => ⟨hf.1, hf.2, hPc (T.setVm vm₁) hT hW₁⟩) with ⟨v, vm₁, ⟨U', l2, c2, s2⟩, hW₁, X', ⟨g', mk, t, L, e1, e2, hq, h1, hL, h2, h3⟩, st⟩ | ⟨q, vm₁, ⟨U', l2, c2, s2⟩, hW₁, X', ⟨g', mk, t, L, E, ce, e1, e2, hq, hce, hcv, hcl, h1, hL, h2, h3⟩, st⟩
  · dsimp only [Pt.U, Pt.locs, Pt.cells, Pt.slots] at X' e1 e2 h1 h2 h3 st
    subst h1; subst h2; subst h3
    exact Or.inl ⟨v, (T.setVm vm₁).calling g' mk As.toArray, t, U', L, hT, X', hL, e1, e2, hq, st⟩
  · dsimp only [Pt.U, Pt.locs, Pt.cells, Pt.slots] at X' e1 e2 h1 h2 h3 st hcl
    subst h1; subst h2; subst h3
    exact Or.inr ⟨q, (T.setVm vm₁).calling g' mk As.toArray, t, U', L, E, ce, hT, X', hL, e1, e2, hq, hce, hcv, vx_cls hW₁ hcl, st⟩
end
/-! ===== END ===== -/
end
section
/-! arrays of arrays of arrays: 'multianewarray' of three dimensions; and rows for two and three that say nothing of what is made (it is only kept) -/
section XG
def xg_out (c : ClassId) (N h0 w : Nat) : Nat → Cell
  | 0 => { cls := c, slots := Array.replicate N .null, vm := .none }
  | i + 1 => (xg_out c N h0 w i).setSlot i (.ref (h0 + 1 + i * w))
def xg_fill (s : State) (c comp comp2 : ClassId) (N M K : Nat) (dv : Value) : Nat → State
  | 0 => s.pushCell (xg_out c N s.heap.size (1 + M) 0)
  | i + 1 => (Jvm.Free.Multi.fill (xg_fill s c comp comp2 N M K dv i) comp comp2 M K dv M).setCell s.heap.size (xg_out c N s.heap.size (1 + M) (i + 1))
theorem xg_out_facts (c : ClassId) (N h0 w : Nat) : ∀ i, (xg_out c N h0 w i).cls = c ∧ (xg_out c N h0 w i).vm = .none ∧ (xg_out c N h0 w i).slots.size = N
  | 0 => ⟨rfl, rfl, by simp [xg_out]⟩
  | i + 1 => by
    obtain ⟨a, b, d⟩ := xg_out_facts c N h0 w i
    exact ⟨by simp [xg_out, Cell.setSlot, a], by simp [xg_out, Cell.setSlot, b], by simp [xg_out, Cell.setSlot, d]⟩
theorem xg_facts (s : State) (c comp comp2 : ClassId) (N M K : Nat) (dv : Value) : ∀ i, (xg_fill s c comp comp2 N M K dv i).heap.size = s.heap.size + 1 + i * (1 + M) ∧ (xg_fill s c comp comp2 N M K dv i).heap[s.heap.size]? = some (xg_out c N s.heap.size (1 + M) i) ∧
    (xg_fill s c comp comp2 N M K dv i).vm = s.vm ∧ (xg_fill s c comp comp2 N M K dv i).slotsUsed = s.slotsUsed + N + i * (M + M * K)
  | 0 => ⟨by simp [xg_fill], by simp [xg_fill], rfl, by simp [xg_fill, xg_out]⟩
  | i + 1 => by
    obtain ⟨a, b, d, u⟩ := xg_facts s c comp comp2 N M K dv i
    obtain ⟨f1, -, f3, f4⟩ := Jvm.Free.Multi.fill_facts (xg_fill s c comp comp2 N M K dv i) comp comp2 M K dv M
    have hlt : s.heap.size < (xg_fill s c comp comp2 N M K dv i).heap.size := by omega
    have hb' : (Jvm.Free.Multi.fill (xg_fill s c comp comp2 N M K dv i) comp comp2 M K dv M).heap[s.heap.size]? = some (xg_out c N s.heap.size (1 + M) i) := by
      rw [Jvm.Free.Multi.fill_old (xg_fill s c comp comp2 N M K dv i) comp comp2 M K dv hlt M]; exact b
    refine ⟨?_, State.heap_setCell_self hb', ?_, ?_⟩
    · show ((Jvm.Free.Multi.fill _ _ _ _ _ _ _).setCell _ _).heap.size = _
      rw [size_setCell, f1, a, Nat.succ_mul]; omega
    · show (Jvm.Free.Multi.fill _ _ _ _ _ _ _).vm = _
      rw [f3, d]
    · show (Jvm.Free.Multi.fill _ _ _ _ _ _ _).slotsUsed = _
      rw [f4, u, Nat.succ_mul]; omega
theorem xg_mid (s : State) (c comp comp2 : ClassId) (N M K : Nat) (dv : Value) : ∀ i j, j < i → (xg_fill s c comp comp2 N M K dv i).heap[s.heap.size + 1 + j * (1 + M)]? = some (Jvm.Free.Multi.outerC comp M (s.heap.size + 1 + j * (1 + M)) M) ∧
    ∀ q, q < M → (xg_fill s c comp comp2 N M K dv i).heap[s.heap.size + 1 + j * (1 + M) + 1 + q]? = some (Jvm.Free.Multi.innerC comp2 K dv)
  | 0, j, h => by omega
  | i + 1, j, h => by
    obtain ⟨f1, f2, -, -⟩ := xg_facts s c comp comp2 N M K dv i
    have hlt0 : s.heap.size < (xg_fill s c comp comp2 N M K dv i).heap.size := by omega
    have hne : ∀ x : Nat, x ≠ s.heap.size → (xg_fill s c comp comp2 N M K dv (i + 1)).heap[x]? = (Jvm.Free.Multi.fill (xg_fill s c comp comp2 N M K dv i) comp comp2 M K dv M).heap[x]? := fun x hx => by
      show ((Jvm.Free.Multi.fill _ _ _ _ _ _ _).setCell s.heap.size _).heap[x]? = _
      rw [State.heap_setCell_other (Ne.symm hx)]
    by_cases e : j = i
    · subst e
      obtain ⟨-, g2, -, -⟩ := Jvm.Free.Multi.fill_facts (xg_fill s c comp comp2 N M K dv j) comp comp2 M K dv M
      refine ⟨?_, fun q hq => ?_⟩
      · rw [hne _ (by omega), ← f1]
        exact g2
      · rw [hne _ (by omega), ← f1]
        exact Jvm.Free.Multi.fill_inner (xg_fill s c comp comp2 N M K dv j) comp comp2 M K dv M q hq
    · have hji : j < i := by omega
      obtain ⟨g1, g2⟩ := xg_mid s c comp comp2 N M K dv i j hji
      have hb : j * (1 + M) + (1 + M) ≤ i * (1 + M) := by
        have := Nat.mul_le_mul_right (1 + M) (show j + 1 ≤ i from hji)
        rw [Nat.succ_mul] at this
        exact this
      refine ⟨?_, fun q hq => ?_⟩
      · rw [hne _ (by omega), Jvm.Free.Multi.fill_old (xg_fill s c comp comp2 N M K dv i) comp comp2 M K dv (a := s.heap.size + 1 + j * (1 + M)) (show (s.heap.size + 1 + j * (1 + M) : Nat) < _ by rw [f1]; omega) M]
        exact g1
      · rw [hne _ (by omega), Jvm.Free.Multi.fill_old (xg_fill s c comp comp2 N M K dv i) comp comp2 M K dv (a := s.heap.size + 1 + j * (1 + M) + 1 + q) (show (s.heap.size + 1 + j * (1 + M) + 1 + q : Nat) < _ by rw [f1]; omega) M]
        exact g2 q hq
theorem xg_setTop (s : State) (f : JFrame) (c comp comp2 : ClassId) (N M K : Nat) (dv : Value) : ∀ i, xg_fill (s.setTop f) c comp comp2 N M K dv i = (xg_fill s c comp comp2 N M K dv i).setTop f
  | 0 => rfl
  | i + 1 => by simp only [xg_fill, xg_setTop s f c comp comp2 N M K dv i, Jvm.Free.Multi.fill_setTop, State.heap_setTop, State.setCell_setTop]
theorem xg_old (s : State) (c comp comp2 : ClassId) (N M K : Nat) (dv : Value) {a : Addr} (ha : a < s.heap.size) : ∀ i, (xg_fill s c comp comp2 N M K dv i).heap[a]? = s.heap[a]?
  | 0 => State.heap_pushCell_of_lt _ _ ha
  | i + 1 => by
    have f1 := (xg_facts s c comp comp2 N M K dv i).1
    have hlt : a < (xg_fill s c comp comp2 N M K dv i).heap.size := Nat.lt_of_lt_of_le ha (by rw [f1]; omega)
    show ((Jvm.Free.Multi.fill _ _ _ _ _ _ _).setCell s.heap.size _).heap[a]? = _
    rw [State.heap_setCell_other (Nat.ne_of_gt ha), Jvm.Free.Multi.fill_old _ comp comp2 M K dv hlt M]
    exact xg_old s c comp comp2 N M K dv ha i
section
variable {E : CtlPost} {e : Env} {d : Bool} {acts : List Action} {s : State}
theorem xg_make3 {c comp comp2 cc : ClassId} {k kc kc2 : Class} {t0 t1 type : FieldType} {n m r : Int32} (hk : s.vm.classes[c]? = some k) (hkind : k.kind = .array comp t0) (href : t0.isReference = true)
    (hkc : s.vm.classes[comp]? = some kc) (hkindc : kc.kind = .array comp2 t1) (href1 : t1.isReference = true) (hkc2 : s.vm.classes[comp2]? = some kc2) (hkindc2 : kc2.kind = .array cc type)
    (hn : ¬ n < 0) (hm : ¬ m < 0) (hr : ¬ r < 0)
    (hl1 : ¬ n.toNatClampNeg > e.platform.arrayLengthLimit) (hh1 : ¬ n.toNatClampNeg * componentBytes t0 > e.platform.maxHeapBytes)
    (hl2 : ¬ m.toNatClampNeg > e.platform.arrayLengthLimit) (hh2 : ¬ m.toNatClampNeg * componentBytes t1 > e.platform.maxHeapBytes)
    (hl3 : ¬ r.toNatClampNeg > e.platform.arrayLengthLimit) (hh3 : ¬ r.toNatClampNeg * componentBytes type > e.platform.maxHeapBytes)
    (hdf : fits type (defaultValue type) = true) (hdd : (defaultValue type).isDefault = true)
    (hc : s.heap.size + 1 + n.toNatClampNeg * (1 + m.toNatClampNeg) ≤ e.platform.maxCells) (hs : s.slotsUsed + n.toNatClampNeg + n.toNatClampNeg * (m.toNatClampNeg + m.toNatClampNeg * r.toNatClampNeg) ≤ e.platform.maxSlots)
    {Q : Addr → Pre} (hq : ∀ d' acts', Q s.heap.size d' acts' (xg_fill s c comp comp2 n.toNatClampNeg m.toNatClampNeg r.toNatClampNeg (defaultValue type) n.toNatClampNeg)) :
    wp (multianewarray.make c [n, m, r]) Q E e d acts s := by
  have hfind : ([m, r].find? (· < 0)) = none := by simp [hm, hr]
  rw [multianewarray.make]
  simp only [wp_bind', W.ite, hn, if_false, wp_pure', W.theClass, hk, hkind, Option.some.injEq, exists_eq_left']
  refine Jvm.Free.Multi.wp_newArray hk hkind hl1 hh1 (Jvm.Free.Multi.refFits href _ (Or.inl rfl)) rfl (by omega) (by omega) ?_
  simp only [hfind]
  rw [ite_self, wp_bind', Std.Legacy.Range.forIn_eq_forIn_range']
  have hsz : ([:n.toNatClampNeg] : Std.Legacy.Range).size = n.toNatClampNeg := by simp [Std.Legacy.Range.size]
  rw [hsz]
  show wp (forIn (List.range' 0 n.toNatClampNeg 1) PUnit.unit _) _ E e d acts _
  refine wp_forIn_inv (fun rest s' => ∃ i, i ≤ n.toNatClampNeg ∧ rest = List.range' i (n.toNatClampNeg - i) ∧ s' = xg_fill s c comp comp2 n.toNatClampNeg m.toNatClampNeg r.toNatClampNeg (defaultValue type) i) _ _ ⟨0, Nat.zero_le _, rfl, rfl⟩ ?_ ?_
  · rintro x rest s' d' acts' Q' ⟨i, hi, hl, rfl⟩ hnext
    have hlt : i < n.toNatClampNeg := by
      rcases Nat.lt_or_ge i n.toNatClampNeg with h | h
      · exact h
      · rw [show n.toNatClampNeg - i = 0 from by omega] at hl; simp at hl
    obtain ⟨rfl, hrest⟩ : x = i ∧ rest = List.range' (i + 1) (n.toNatClampNeg - (i + 1)) := by
      rw [show n.toNatClampNeg - i = (n.toNatClampNeg - (i + 1)) + 1 from by omega, List.range'_succ] at hl
      exact ⟨(List.cons.inj hl).1, (List.cons.inj hl).2⟩
    obtain ⟨f1, f2, f3, f4⟩ := xg_facts s c comp comp2 n.toNatClampNeg m.toNatClampNeg r.toNatClampNeg (defaultValue type) x
    obtain ⟨o1, o2, o3⟩ := xg_out_facts c n.toNatClampNeg s.heap.size (1 + m.toNatClampNeg) x
    have hmul1 : x * (1 + m.toNatClampNeg) + (1 + m.toNatClampNeg) ≤ n.toNatClampNeg * (1 + m.toNatClampNeg) := by
      have := Nat.mul_le_mul_right (1 + m.toNatClampNeg) (show x + 1 ≤ n.toNatClampNeg from hlt)
      rw [Nat.succ_mul] at this; exact this
    have hmul2 : x * (m.toNatClampNeg + m.toNatClampNeg * r.toNatClampNeg) + (m.toNatClampNeg + m.toNatClampNeg * r.toNatClampNeg) ≤ n.toNatClampNeg * (m.toNatClampNeg + m.toNatClampNeg * r.toNatClampNeg) := by
      have := Nat.mul_le_mul_right (m.toNatClampNeg + m.toNatClampNeg * r.toNatClampNeg) (show x + 1 ≤ n.toNatClampNeg from hlt)
      rw [Nat.succ_mul] at this; exact this
    have hlt0 : s.heap.size < (xg_fill s c comp comp2 n.toNatClampNeg m.toNatClampNeg r.toNatClampNeg (defaultValue type) x).heap.size := by rw [f1]; omega
    simp only [wp_bind']
    refine Jvm.Free.Multi.wp_make2 (k := kc) (kc := kc2) (by rw [f3]; exact hkc) hkindc href1 (by rw [f3]; exact hkc2) hkindc2 hm hr hl2 hh2 hl3 hh3 hdf hdd (by rw [f1]; omega) (by rw [f4]; omega) (fun d2 acts2 => ?_)
    obtain ⟨g1, -, g3, -⟩ := Jvm.Free.Multi.fill_facts (xg_fill s c comp comp2 n.toNatClampNeg m.toNatClampNeg r.toNatClampNeg (defaultValue type) x) comp comp2 m.toNatClampNeg r.toNatClampNeg (defaultValue type) m.toNatClampNeg
    simp only [wp_bind', W.writeLoc, wp_pure']
    refine ⟨xg_out c n.toNatClampNeg s.heap.size (1 + m.toNatClampNeg) x, by rw [Jvm.Free.Multi.fill_old _ comp comp2 _ _ _ hlt0 _]; exact f2, by rw [o2]; simp, by rw [o3]; exact hlt, ?_, hnext _ _ _ ⟨x + 1, hlt, hrest, ?_⟩⟩
    · rw [o1, o2]
      simp [State.fitsSlot, State.slotType?, g3, f3, hk, hkind, Jvm.Free.Multi.refFits href _ (Or.inr ⟨_, rfl⟩)]
    · rw [f1]; rfl
  · rintro s' d' acts' ⟨i, hi, hl, rfl⟩
    have hiN : i = n.toNatClampNeg := by
      rcases Nat.lt_or_ge i n.toNatClampNeg with h | h
      · rw [show n.toNatClampNeg - i = (n.toNatClampNeg - (i + 1)) + 1 from by omega, List.range'_succ] at hl; cases hl
      · omega
    subst hiN
    simp only [wp_pure']
    exact hq _ _
end
section
variable {p : Program} {l : Launch} {e : Env} {R : Room} {s : State} {m : MethodId} {args : Array Value} {below : List Frame} {meth : Method} {c : Code} {T : State} {H : Heap} {locs : List Loc} {cells slots : Nat} {Q : State → Prop}
theorem xg_filled (X : Stand p l e R s m args below meth c T locs cells slots) (cA comp comp2 : ClassId) (N M K : Nat) (dv : Value) :
    ∀ i, ∃ L : List Loc, (∀ x ∈ L, T.heap.size ≤ x.base) ∧ Stand p l e R s m args below meth c (xg_fill T cA comp comp2 N M K dv i) (locs ++ L) (cells + 1 + i * (1 + M)) (slots + N + i * (M + M * K))
  | 0 => by
    have h := X.pushed (xg_out cA N T.heap.size (1 + M) 0)
    rw [(xg_out_facts cA N T.heap.size (1 + M) 0).2.2] at h
    exact ⟨[], (fun _ h => nomatch h), by simpa [xg_fill] using h⟩
  | i + 1 => by
    obtain ⟨L, hL, Xi⟩ := xg_filled X cA comp comp2 N M K dv i
    obtain ⟨f1, f2, f3, f4⟩ := xg_facts T cA comp comp2 N M K dv i
    have hlt0 : T.heap.size < (xg_fill T cA comp comp2 N M K dv i).heap.size := by rw [f1]; omega
    have X2 := Xi.filled comp comp2 M K dv M
    have hcell : (Jvm.Free.Multi.fill (xg_fill T cA comp comp2 N M K dv i) comp comp2 M K dv M).heap[T.heap.size]? = some (xg_out cA N T.heap.size (1 + M) i) := by rw [Jvm.Free.Multi.fill_old _ comp comp2 M K dv hlt0 M]; exact f2
    have h := X2.stored hcell i (.ref (T.heap.size + 1 + i * (1 + M)))
    refine ⟨(L ++ (List.range M).map fun j => (⟨(xg_fill T cA comp comp2 N M K dv i).heap.size, j⟩ : Loc)) ++ [⟨T.heap.size, i⟩], ?_, ?_⟩
    · intro x hx
      rcases List.mem_append.mp hx with hx | hx
      · rcases List.mem_append.mp hx with hx | hx
        · exact hL x hx
        · obtain ⟨j, -, rfl⟩ := List.mem_map.mp hx
          exact Nat.le_of_lt hlt0
      · rw [List.mem_singleton.mp hx]
        exact Nat.le_refl _
    · have e2 : locs ++ ((L ++ (List.range M).map fun j => (⟨(xg_fill T cA comp comp2 N M K dv i).heap.size, j⟩ : Loc)) ++ [⟨T.heap.size, i⟩]) = ((locs ++ L) ++ (List.range M).map fun j => (⟨(xg_fill T cA comp comp2 N M K dv i).heap.size, j⟩ : Loc)) ++ [⟨T.heap.size, i⟩] := by simp [List.append_assoc]
      have e3 : cells + 1 + (i + 1) * (1 + M) = cells + 1 + i * (1 + M) + 1 + M := by rw [Nat.succ_mul]; omega
      have e4 : slots + N + (i + 1) * (M + M * K) = slots + N + i * (M + M * K) + M + M * K := by rw [Nat.succ_mul]; omega
      rw [e2, e3, e4]
      exact h
theorem xg_m3 {cc : ByteArray} {pc : Nat} {ls : Array Slot} {rest : List Value} (hexec : p.tables.exec = Jvm.exec) (hb : c.code = cc) {own : String} {index : Nat} {ty : FieldType}
    (hown : s.vm.findClass own = some m.cls) (hclink : (Cond.classLink own index ("[" ++ (FieldType.array (.array ty)).toString)).before args s = true)
    (hover : (Cond.arrayOver (.array (.array ty))).before args s = true) (hover2 : (Cond.arrayOver (.array ty)).before args s = true) (harr : (Cond.arrayClass ty).before args s = true)
    (hstr : "[" ++ (FieldType.array ty).toString = (FieldType.array (.array ty)).toString)
    {n k r : Int32} (hn : ¬ n < 0) (hk : ¬ k < 0) (hr : ¬ r < 0) (hb1 : n.toNatClampNeg * 4 ≤ 536870912) (hb2 : k.toNatClampNeg * 4 ≤ 536870912) (hb3 : r.toNatClampNeg * componentBytes ty ≤ 536870912) (hb4 : r.toNatClampNeg ≤ 536870912)
    (hdf : fits ty (defaultValue ty) = true) (hdd : (defaultValue ty).isDefault = true)
    (hcells : cells + (1 + n.toNatClampNeg * (1 + k.toNatClampNeg)) ≤ R.cells) (hslots : slots + (n.toNatClampNeg + n.toNatClampNeg * (k.toNatClampNeg + k.toNatClampNeg * r.toNatClampNeg)) ≤ R.slots)
    (hdg : decode cc pc = .ok (.multianewarray index 3, 4))
    (kk : ∀ (H1 : Heap) (cA cB cD : ClassId), H.size ≤ H1.size → (∀ x : Nat, x < H.size → H1[x]? = H[x]?) → s.vm.findClass ("[" ++ (FieldType.array (.array ty)).toString) = some cA → s.vm.findClass ("[" ++ (FieldType.array ty).toString) = some cB → s.vm.findClass ("[" ++ ty.toString) = some cD →
      H1[H.size]? = some (xg_out cA n.toNatClampNeg H.size (1 + k.toNatClampNeg) n.toNatClampNeg) → (∀ j, j < n.toNatClampNeg → H1[H.size + 1 + j * (1 + k.toNatClampNeg)]? = some (Jvm.Free.Multi.outerC cB k.toNatClampNeg (H.size + 1 + j * (1 + k.toNatClampNeg)) k.toNatClampNeg) ∧ ∀ q, q < k.toNatClampNeg → H1[H.size + 1 + j * (1 + k.toNatClampNeg) + 1 + q]? = some (Jvm.Free.Multi.innerC cD r.toNatClampNeg (defaultValue ty))) →
      W p l e R s m args below meth c H1 locs (cells + 1 + n.toNatClampNeg * (1 + k.toNatClampNeg)) (slots + n.toNatClampNeg + n.toNatClampNeg * (k.toNatClampNeg + k.toNatClampNeg * r.toNatClampNeg)) Q (F0 m (pc + 4) ls (.ref H.size :: rest))) :
    W p l e R s m args below meth c H locs cells slots Q (F0 m pc ls (.int r :: .int k :: .int n :: rest)) := by
  intro T hT X
  have hpl : e.platform.magicAccessors = ({} : Platform).magicAccessors := by rw [X.admits.platform]
  obtain ⟨comp, cA, kA, hcomp, hkA, hkindA, hnameA⟩ := Cond.arrayOver_specA hover
  obtain ⟨comp2, cB, kB, hcomp2, hkB, hkindB, hnameB⟩ := Cond.arrayOver_specA hover2
  obtain ⟨comp2', kC, cc', hcomp2', hkC, hkindC⟩ := Cond.arrayClass_spec harr
  have ecomp : comp2' = comp2 := Option.some.inj (hcomp2'.symm.trans hcomp2)
  subst ecomp
  have ecB : cB = comp := Option.some.inj (hnameB.symm.trans (by rw [hstr]; exact hcomp))
  subst ecB
  obtain ⟨c0, hfc0, hcl⟩ := Cond.classLink_spec hown hclink e.platform hpl
  cases hnameA.symm.trans hfc0
  obtain ⟨hg₁, hwarm₁, hready₁⟩ := State.classEntry (e := e) X.warmed hcl
  generalize T.vm.noted m.cls index (.cls cA) = vm₁ at hg₁ hwarm₁ hready₁
  have hal : s.vm.Alike vm₁ := hwarm₁.alike
  obtain ⟨kA₁, hkA₁, heA⟩ := hal.2.2 _ _ hkA
  obtain ⟨kB₁, hkB₁, heB⟩ := hal.2.2 _ _ hkB
  obtain ⟨kC₁, hkC₁, heC⟩ := hal.2.2 _ _ hkC
  have hkindA₁ : kA₁.kind = .array cB (.array (.array ty)) := by rw [heA]; exact hkindA
  have hkindB₁ : kB₁.kind = .array comp2' (.array ty) := by rw [heB]; exact hkindB
  have hkindC₁ : kC₁.kind = .array cc' ty := by rw [heC]; exact hkindC
  have X₁ := X.noted hwarm₁
  obtain ⟨hr1, hr2⟩ := X.roomAbove hcells hslots
  have hl1 : ¬ n.toNatClampNeg > e.platform.arrayLengthLimit := by rw [Launch.admits_arrayLengthLimit X.admits]; omega
  have hh1 : ¬ n.toNatClampNeg * componentBytes (.array (.array ty)) > e.platform.maxHeapBytes := by
    rw [Launch.admits_maxHeapBytes X.admits]; show ¬ n.toNatClampNeg * 4 > 536870912; omega
  have hl2 : ¬ k.toNatClampNeg > e.platform.arrayLengthLimit := by rw [Launch.admits_arrayLengthLimit X.admits]; omega
  have hh2 : ¬ k.toNatClampNeg * componentBytes (.array ty) > e.platform.maxHeapBytes := by
    rw [Launch.admits_maxHeapBytes X.admits]; show ¬ k.toNatClampNeg * 4 > 536870912; omega
  have hl3 : ¬ r.toNatClampNeg > e.platform.arrayLengthLimit := by rw [Launch.admits_arrayLengthLimit X.admits]; omega
  have hh3 : ¬ r.toNatClampNeg * componentBytes ty > e.platform.maxHeapBytes := by rw [Launch.admits_maxHeapBytes X.admits]; omega
  obtain ⟨L, hL, XF⟩ := xg_filled X₁ cA cB comp2' n.toNatClampNeg k.toNatClampNeg r.toNatClampNeg (defaultValue ty) n.toNatClampNeg
  have XF := XF.dropFresh (fun x hx => Nat.le_trans X.heapGrown (hL x hx))
  obtain ⟨f1, f2, -, -⟩ := xg_facts (T.setVm vm₁) cA cB comp2' n.toNatClampNeg k.toNatClampNeg r.toNatClampNeg (defaultValue ty) n.toNatClampNeg
  have hTh : (T.setVm vm₁).heap = H := hT
  have hold : ∀ x : Nat, x < H.size → (xg_fill (T.setVm vm₁) cA cB comp2' n.toNatClampNeg k.toNatClampNeg r.toNatClampNeg (defaultValue ty) n.toNatClampNeg).heap[x]? = H[x]? := fun x hx => by
    have := xg_old (T.setVm vm₁) cA cB comp2' n.toNatClampNeg k.toNatClampNeg r.toNatClampNeg (defaultValue ty) (a := x) (by rw [hTh]; exact hx) n.toNatClampNeg
    rw [hTh] at this
    exact this
  have hmid := fun j hj => xg_mid (T.setVm vm₁) cA cB comp2' n.toNatClampNeg k.toNatClampNeg r.toNatClampNeg (defaultValue ty) n.toNatClampNeg j hj
  rw [hTh] at f1 f2 hmid
  obtain ⟨t, hrest, b1⟩ := kk _ cA cB comp2' (by rw [f1]; omega) hold hnameA hnameB hcomp2' f2 hmid _ rfl XF
  have hTh2 : T.heap = H := hT
  rw [← hTh2] at hrest
  refine ⟨t, ?_, b1⟩
  have hdg' : decode c.code pc = .ok (.multianewarray index 3, 4) := by rw [hb]; exact hdg
  jvm_step X.here [hexec, hdg']
  have hg₂ : (resolveClass (F0 m pc ls (.int r :: .int k :: .int n :: rest)).method.cls index).Gives e.toSetting (T.setTop (F0 m pc ls (.int r :: .int k :: .int n :: rest))).vm (Except.ok cA) vm₁ := hg₁
  simp only [multianewarray.sem, wp_bind', W.resolveClassAt_links (State.method?_setTop (F0 m pc ls (.int r :: .int k :: .int n :: rest)) X.here.top) hg₂]
  rw [W.popN, if_neg (by decide)]
  refine ⟨F0 m pc ls (.int r :: .int k :: .int n :: rest), State.topJava?_setTop' (s := T.setVm vm₁) _ X.here.top, [.int n, .int k, .int r], rest, rfl, rfl, ?_⟩
  simp only [List.mapM_cons, List.mapM_nil, wp_bind', wp_pure']
  refine xg_make3 (k := kA₁) (kc := kB₁) (kc2 := kC₁) (comp := cB) (comp2 := comp2') (cc := cc') (t0 := .array (.array ty)) (t1 := .array ty) (type := ty) hkA₁ hkindA₁ rfl hkB₁ hkindB₁ rfl hkC₁ hkindC₁ hn hk hr hl1 hh1 hl2 hh2 hl3 hh3 hdf hdd (by show T.heap.size + 1 + _ ≤ _; omega) (by show T.slotsUsed + _ + _ ≤ _; omega) (fun d' acts' => ?_)
  have eS : ((T.setTop (F0 m pc ls (.int r :: .int k :: .int n :: rest))).setVm vm₁).setTop (F0 m pc ls rest) = (T.setVm vm₁).setTop (F0 m pc ls rest) := by
    show ((T.setVm vm₁).setTop _).setTop _ = _
    rw [State.setTop_setTop]
  rw [eS, xg_setTop]
  simp only [wp_bind', W.mark, W.pushRef, State.topJava?_setTop' _ XF.here.top, Option.some.injEq, exists_eq_left', State.setTop_setTop, State.heap_setTop]
  intro acts
  simp [jvm, XF.here.top]
  exact hrest
theorem xg_m2 {cc : ByteArray} {pc : Nat} {ls : Array Slot} {rest : List Value} (hexec : p.tables.exec = Jvm.exec) (hb : c.code = cc) {own : String} {index : Nat} {ty : FieldType}
    (hown : s.vm.findClass own = some m.cls) (hclink : (Cond.classLink own index ("[" ++ (FieldType.array ty).toString)).before args s = true)
    (hover : (Cond.arrayOver (.array ty)).before args s = true) (harr : (Cond.arrayClass ty).before args s = true)
    {n k : Int32} (hn : ¬ n < 0) (hk : ¬ k < 0) (hb1 : n.toNatClampNeg * 4 ≤ 536870912) (hb2 : k.toNatClampNeg * componentBytes ty ≤ 536870912) (hb3 : k.toNatClampNeg ≤ 536870912)
    (hdf : fits ty (defaultValue ty) = true) (hdd : (defaultValue ty).isDefault = true)
    (hcells : cells + (1 + n.toNatClampNeg) ≤ R.cells) (hslots : slots + (n.toNatClampNeg + n.toNatClampNeg * k.toNatClampNeg) ≤ R.slots)
    (hdg : decode cc pc = .ok (.multianewarray index 2, 4))
    (kk : ∀ (H1 : Heap) (cA cB : ClassId), H.size ≤ H1.size → (∀ x : Nat, x < H.size → H1[x]? = H[x]?) → s.vm.findClass ("[" ++ (FieldType.array ty).toString) = some cA → s.vm.findClass (FieldType.array ty).toString = some cB →
      H1[H.size]? = some (Jvm.Free.Multi.outerC cA n.toNatClampNeg H.size n.toNatClampNeg) → (∀ j, j < n.toNatClampNeg → H1[H.size + 1 + j]? = some (Jvm.Free.Multi.innerC cB k.toNatClampNeg (defaultValue ty))) →
      W p l e R s m args below meth c H1 locs (cells + 1 + n.toNatClampNeg) (slots + n.toNatClampNeg + n.toNatClampNeg * k.toNatClampNeg) Q (F0 m (pc + 4) ls (.ref H.size :: rest))) :
    W p l e R s m args below meth c H locs cells slots Q (F0 m pc ls (.int k :: .int n :: rest)) := by
  intro T hT Xs
  obtain ⟨vm₁, cA, comp, -, fA, fC, hO, -, X', step⟩ := Xs.multianewarray2F hexec hown hclink hover harr (g := F0 m pc ls (.int k :: .int n :: rest)) rfl (by rw [hb]; exact hdg) rfl hn hk hb1 hb2 hb3 hdf hdd hcells hslots
  generalize hF : Jvm.Free.Multi.fill (T.setVm vm₁) cA comp n.toNatClampNeg k.toNatClampNeg (defaultValue ty) n.toNatClampNeg = F at X' step
  have hTh : (T.setVm vm₁).heap = H := hT
  obtain ⟨f1, f2, -, -⟩ := Jvm.Free.Multi.fill_facts (T.setVm vm₁) cA comp n.toNatClampNeg k.toNatClampNeg (defaultValue ty) n.toNatClampNeg
  rw [hF, hTh] at f1 f2
  have hold : ∀ x : Nat, x < H.size → F.heap[x]? = H[x]? := fun x hx => by
    have := Jvm.Free.Multi.fill_old (T.setVm vm₁) cA comp n.toNatClampNeg k.toNatClampNeg (defaultValue ty) (a := x) (by rw [hTh]; exact hx) n.toNatClampNeg
    rw [hF, hTh] at this
    exact this
  have hrow : ∀ j : Nat, j < n.toNatClampNeg → F.heap[H.size + 1 + j]? = some (Jvm.Free.Multi.innerC comp k.toNatClampNeg (defaultValue ty)) := fun j hj => by
    have := Jvm.Free.Multi.fill_inner (T.setVm vm₁) cA comp n.toNatClampNeg k.toNatClampNeg (defaultValue ty) n.toNatClampNeg j hj
    rw [hF, hTh] at this
    exact this
  obtain ⟨t, a1, b1⟩ := kk F.heap cA comp (by rw [f1]; omega) hold fA fC f2 hrow F rfl X'
  have hTh2 : T.heap = H := hT
  rw [← hTh2] at a1
  exact ⟨t, step t a1, b1⟩
end
end XG
end
section
/-! a symbolic runner of methods over the machine: values, cells, locals as data; '.float i' stands for the i-th unknown int, '.ref k' for the k-th thing made, '.retAddr _' for the law's script -/
section XE
abbrev XL : Type := List (Nat × Value)
abbrev XCl : Type := Bool × Nat × List Value
abbrev XH : Type := List (Nat × XCl)
abbrev XP : Type := List (Int × Int)
/-- pc, instruction, kind, further numbers -/
abbrev XI : Type := Nat × Instr × Nat × List Nat
/-- what is known of the unknown ints; the cells; the next thing's number; cells and slots made -/
abbrev XS : Type := XP × XH × Nat × Nat × Nat
/-- name, bytes, locals, answer, room, handlers, listing; how many arguments -/
abbrev XM : Type := MethodName × ByteArray × Nat × Option FieldType × Room × List (Nat × Nat × Nat × Nat) × List XI × Nat
/-- the end of a run in one method: kind (0 returns here, 1 throws here, 2 lets through), the exception's number, the row, locals, stack, state -/
abbrev XLf : Type := Nat × Nat × XI × XL × List Value × XS
/-- a method's end: 0 and what it answers, or 1 + the exception's number; what is known; the cells; the next number -/
abbrev XR : Type := Nat × Option Value × XP × XH × Nat

def xint : Value → Bool
  | .int _ => true
  | .float _ => true
  | _ => false
def xref : Value → Bool
  | .ref _ => true
  | .null => true
  | .retAddr _ => true
  | _ => false
def xlong : Value → Bool
  | .long _ => true
  | _ => false
def xdbl : Value → Bool
  | .double _ => true
  | _ => false
def xnth {α : Type} : List α → Nat → Option α
  | [], _ => none
  | a :: _, 0 => some a
  | _ :: t, n + 1 => xnth t n
def xlk : XL → Nat → Option Value
  | [], _ => none
  | (j, v) :: t, i => bif Nat.beq j i then some v else xlk t i
def xf1 (i : Nat) (q : Nat × Value) : Bool := !(q.1 == i) && !(q.1 + 1 == i && q.2.category == 2)
def xf2 (i : Nat) (q : Nat × Value) : Bool := !(q.1 == i) && (!(q.1 == i + 1) && !(q.1 + 1 == i && q.2.category == 2))
/-- a local's new value, in the order of the places -/
def xins (i : Nat) (v : Value) : XL → XL
  | [] => [(i, v)]
  | (j, w) :: t => bif Nat.ble i j then (i, v) :: (j, w) :: t else (j, w) :: xins i v t
def xst1 (nL i : Nat) (v : Value) (lv : XL) : Option XL := bif Nat.ble (i + 1) nL then some (xins i v (lv.filter (xf1 i))) else none
def xst2 (nL i : Nat) (v : Value) (lv : XL) : Option XL := bif Nat.ble (i + 2) nL then some (xins i v (lv.filter (xf2 i))) else none
def xld (ok : Value → Bool) (lv : XL) (st : List Value) (i : Nat) : Option (XL × List Value) :=
  match xlk lv i with
  | some v => bif ok v then some (lv, v :: st) else none
  | none => none
def xstr1 (ok : Value → Bool) (nL i : Nat) (lv : XL) : List Value → Option (XL × List Value)
  | [] => none
  | v :: r => bif ok v then (match xst1 nL i v lv with
    | some l => some (l, r)
    | none => none) else none
def xstr2 (ok : Value → Bool) (nL i : Nat) (lv : XL) : List Value → Option (XL × List Value)
  | [] => none
  | v :: r => bif ok v then (match xst2 nL i v lv with
    | some l => some (l, r)
    | none => none) else none
def xbin (f : Int32 → Int32 → Int32) (lv : XL) : List Value → Option (XL × List Value)
  | .int y :: .int x :: r => some (lv, .int (f x y) :: r)
  | _ => none
def xbil (f : Int64 → Int64 → Int64) (lv : XL) : List Value → Option (XL × List Value)
  | .long y :: .long x :: r => some (lv, .long (f x y) :: r)
  | _ => none
def xand (lv : XL) : List Value → Option (XL × List Value)
  | .int y :: .int x :: r => some (lv, .int (x &&& y) :: r)
  | _ => none
def xinc (nL i : Nat) (n : Int) (lv : XL) (st : List Value) : Option (XL × List Value) :=
  match xlk lv i with
  | some (.int x) => (match xst1 nL i (.int (x + Int32.ofInt n)) lv with
    | some l => some (l, st)
    | none => none)
  | _ => none
def xi2l (lv : XL) : List Value → Option (XL × List Value)
  | .int x :: r => some (lv, .long x.toInt64 :: r)
  | _ => none
def xlcm (lv : XL) : List Value → Option (XL × List Value)
  | .long y :: .long x :: r => some (lv, .int (lg_cmp x y) :: r)
  | _ => none
def xdcm (op : CmpOp) (lv : XL) : List Value → Option (XL × List Value)
  | .double y :: .double x :: r => some (lv, .int (Op.cmpValue (FP.dcmp x y) op) :: r)
  | _ => none
def xbinz (f : Int32 → Int32 → Int32) (lv : XL) : List Value → Option (XL × List Value)
  | .int y :: .int x :: r => bif decide (y = 0) then none else some (lv, .int (f x y) :: r)
  | _ => none
def xdup2 (lv : XL) : List Value → Option (XL × List Value)
  | v :: w :: r => bif Nat.beq v.category 1 && Nat.beq w.category 1 then some (lv, v :: w :: v :: w :: r) else none
  | _ => none
def xdupx2 (lv : XL) : List Value → Option (XL × List Value)
  | v :: w :: u :: r => bif Nat.beq v.category 1 && (Nat.beq w.category 1 && Nat.beq u.category 1) then some (lv, v :: w :: u :: v :: r) else none
  | _ => none
def xpop (lv : XL) : List Value → Option (XL × List Value)
  | v :: r => bif Nat.beq v.category 1 then some (lv, r) else none
  | _ => none
def xdup (lv : XL) : List Value → Option (XL × List Value)
  | v :: r => bif Nat.beq v.category 1 then some (lv, v :: v :: r) else none
  | _ => none
def xdupx (lv : XL) : List Value → Option (XL × List Value)
  | v :: w :: r => bif Nat.beq v.category 1 && Nat.beq w.category 1 then some (lv, v :: w :: v :: r) else none
  | _ => none
/-- the instructions' lengths -/
def ilen : Instr → Nat
  | .bipush _ | .newarray _ | .iload _ | .lload _ | .aload _ | .dload _ | .istore _ | .lstore _ | .astore _ | .dstore _ | .ldc _ => 2
  | .sipush _ | .goto _ | .ifCond _ _ | .if_icmp _ _ | .if_acmp _ _ | .ifnull _ | .ifnonnull _ | .iinc _ _ | .ldc2_w _ | .ldc_w _ | .getfield _ | .putfield _ | .new _ | .anewarray _ | .invokevirtual _ | .invokespecial _ | .invokestatic _ => 3
  | .multianewarray _ _ => 4
  | _ => 1
def xsimple (nL : Nat) (i : Instr) (aux : List Nat) (lv : XL) (st : List Value) : Option (XL × List Value) :=
  match i with
  | .iconst n => some (lv, .int (Int32.ofInt n) :: st)
  | .bipush n => some (lv, .int (Int8.ofInt n).toInt32 :: st)
  | .sipush n => some (lv, .int (Int16.ofInt n).toInt32 :: st)
  | .aconst_null => some (lv, .null :: st)
  | .dconst d => bif Nat.beq d.val 0 then some (lv, .double FP.dconst0 :: st) else none
  | .ldc2_w _ => (match aux with
    | a :: _ => some (lv, .long (Int64.ofNat a) :: st)
    | [] => none)
  | .iload k => xld xint lv st k
  | .iload_n k => xld xint lv st k.val
  | .lload k => xld xlong lv st k
  | .lload_n k => xld xlong lv st k.val
  | .dload k => xld xdbl lv st k
  | .aload k => xld xref lv st k
  | .aload_n k => xld xref lv st k.val
  | .istore k => xstr1 xint nL k lv st
  | .istore_n k => xstr1 xint nL k.val lv st
  | .astore k => xstr1 xref nL k lv st
  | .astore_n k => xstr1 xref nL k.val lv st
  | .lstore k => xstr2 xlong nL k lv st
  | .lstore_n k => xstr2 xlong nL k.val lv st
  | .dstore k => xstr2 xdbl nL k lv st
  | .iinc k n => xinc nL k n lv st
  | .iadd => xbin (fun x y => x + y) lv st
  | .isub => xbin (fun x y => x - y) lv st
  | .imul => xbin (fun x y => x * y) lv st
  | .ishl => xbin (fun x y => x <<< (y &&& 31)) lv st
  | .ishr => xbin (fun x y => x >>> (y &&& 31)) lv st
  | .iand => xand lv st
  | .i2l => xi2l lv st
  | .ladd => xbil (fun x y => x + y) lv st
  | .lmul => xbil (fun x y => x * y) lv st
  | .lcmp => xlcm lv st
  | .dcmp op => xdcm op lv st
  | .dup => xdup lv st
  | .dup_x1 => xdupx lv st
  | .ior => xbin (fun x y => x ||| y) lv st
  | .ixor => xbin (fun x y => x ^^^ y) lv st
  | .idiv => xbinz (fun x y => x / y) lv st
  | .irem => xbinz (fun x y => x - x / y * y) lv st
  | .dup2 => xdup2 lv st
  | .dup_x2 => xdupx2 lv st
  | .pop => xpop lv st
  | _ => none

/-! cells -/
def xhk : XH → Nat → Option XCl
  | [], _ => none
  | (j, c) :: t, i => bif Nat.beq j i then some c else xhk t i
def xhs : XH → Nat → XCl → XH
  | [], _, _ => []
  | (j, c) :: t, i, d => bif Nat.beq j i then (j, d) :: t else (j, c) :: xhs t i d
def xset : List Value → Nat → Value → List Value
  | [], _, _ => []
  | _ :: t, 0, v => v :: t
  | a :: t, n + 1, v => a :: xset t n v
/-- speaks of things below n only -/
def xov (n : Nat) : Value → Bool
  | .ref k => Nat.ble (k + 1) n
  | _ => true
def xoS (n : Nat) (st : List Value) : Bool := st.all (xov n)
def xoL (n : Nat) (l : XL) : Bool := l.all (fun q => xov n q.2)
def xoH (n : Nat) (h : XH) : Bool := h.all (fun q => Nat.ble (q.1 + 1) n && xoS n q.2.2.2)
def xal (n : Nat) (lv : XL) (st : List Value) (h : XH) : Bool := xoL n lv && (xoS n st && xoH n h)
def xTy : Nat → Nat → FieldType
  | 0 => xY0
  | 1 => xY1
  | 2 => xY2
  | 3 => xY3
  | 4 => xY4
  | 5 => xY5
  | 6 => xY6
  | 7 => xY7
  | 8 => xY8
  | 9 => xY9
  | 10 => xY10
  | _ => xY11
def xNf : Nat → Nat
  | 0 => 4
  | 1 => 4
  | 2 => 2
  | 3 => 3
  | 4 => 6
  | 5 => 11
  | 6 => 2
  | 7 => 13
  | 8 => 5
  | 9 => 2
  | 10 => 8
  | _ => 13
def xD (ci : Nat) : List Value := (List.range (xNf ci)).map (fun k => defaultValue (xTy ci k))
def xfit : FieldType → Value → Bool
  | .int, .int _ => true
  | .int, .float _ => true
  | .boolean, .int x => decide (x = 0) || decide (x = 1)
  | .object _, v => xref v
  | .array _, v => xref v
  | _, _ => false
/-- the arrays' types -/
def xty : Nat → FieldType
  | 0 => .int
  | 1 => .boolean
  | 2 => .long
  | 3 => .object "PackWright$Version"
  | 4 => .object "PackWright$Pack"
  | 5 => .object "PackWright$Claim"
  | 6 => .array .int
  | 7 => .array .boolean
  | _ => .array (.array .int)
def xdv : Nat → Value
  | 0 => .int 0
  | 1 => .int 0
  | 2 => .long 0
  | _ => .null
def xget (aux : List Nat) (st : List Value) (σ : XS) : Option (List Value × XS) :=
  match aux, st with
  | ci :: k :: _, .ref o :: r => (match xhk σ.2.1 o with
    | some (false, cj, fs) => bif Nat.beq ci cj then (match xnth fs k with
      | some v => some (v :: r, σ)
      | none => none) else none
    | _ => none)
  | _, _ => none
def xput (aux : List Nat) (st : List Value) (σ : XS) : Option (List Value × XS) :=
  match aux, st with
  | ci :: k :: _, v :: .ref o :: r => (match xhk σ.2.1 o with
    | some (false, cj, fs) => bif Nat.beq ci cj && (xfit (xTy ci k) v && Nat.ble (k + 1) fs.length) then some (r, (σ.1, xhs σ.2.1 o (false, cj, xset fs k v), σ.2.2)) else none
    | _ => none)
  | _, _ => none
/-- one thing more -/
def xnew (R : Room) (lv : XL) (r : List Value) (σ : XS) (c : XCl) (ns : Nat) : Option (List Value × XS) :=
  match σ with
  | (pe, h, n, ce, sl) => bif Nat.ble (ce + 1) R.cells && Nat.ble (sl + ns) R.slots then some (.ref n :: r, (pe, h ++ [(n, c)], n + 1, ce + 1, sl + ns)) else none
def xnewo (R : Room) (aux : List Nat) (lv : XL) (st : List Value) (σ : XS) : Option (List Value × XS) :=
  match aux with
  | ci :: _ => xnew R lv st σ (false, ci, xD ci) (xNf ci)
  | [] => none
def xnewa (R : Room) (aux : List Nat) (lv : XL) (st : List Value) (σ : XS) : Option (List Value × XS) :=
  match aux, st with
  | ti :: _, .int c :: r => bif decide (c < 0) then none else bif Nat.ble (c.toNatClampNeg) 1000 then xnew R lv r σ (true, ti, List.replicate c.toNatClampNeg (xdv ti)) c.toNatClampNeg else none
  | _, _ => none
/-- rows of an array of arrays: n to n + N - 1 -/
def xrefw (n w : Nat) : Nat → List Value
  | 0 => []
  | N + 1 => .ref n :: xrefw (n + w) w N
def xrows (n : Nat) (c : XCl) : Nat → XH
  | 0 => []
  | N + 1 => (n, c) :: xrows (n + 1) c N
/-- new T[N][K]: the outer array n, its rows behind it -/
def xnewm2 (R : Room) (aux : List Nat) (st : List Value) (σ : XS) : Option (List Value × XS) :=
  match aux, st, σ with
  | to :: ti :: _, .int k :: .int m :: r, (pe, h, n, ce, sl) => bif decide (k < 0) || decide (m < 0) then none else bif Nat.ble k.toNatClampNeg 1000 && (Nat.ble m.toNatClampNeg 1000 && (Nat.ble (ce + (1 + m.toNatClampNeg)) R.cells && Nat.ble (sl + (m.toNatClampNeg + m.toNatClampNeg * k.toNatClampNeg)) R.slots))
    then some (.ref n :: r, (pe, h ++ ((n, (true, to, xrefw (n + 1) 1 m.toNatClampNeg)) :: xrows (n + 1) (true, ti, List.replicate k.toNatClampNeg (xdv ti)) m.toNatClampNeg), n + 1 + m.toNatClampNeg, ce + (1 + m.toNatClampNeg), sl + (m.toNatClampNeg + m.toNatClampNeg * k.toNatClampNeg))) else none
  | _, _, _ => none
/-- new int[N][M][0]: the outer array n; then each row with its own rows behind it -/
def xgrid (n M : Nat) : Nat → XH
  | 0 => []
  | N + 1 => ((n, (true, 6, xrefw (n + 1) 1 M)) :: xrows (n + 1) (true, 0, []) M) ++ xgrid (n + (1 + M)) M N
def xnewm3 (R : Room) (st : List Value) (σ : XS) : Option (List Value × XS) :=
  match st, σ with
  | .int z :: .int k :: .int m :: r, (pe, h, n, ce, sl) => bif decide (z = 0) && (!decide (k < 0) && (!decide (m < 0) && (Nat.ble k.toNatClampNeg 1000 && (Nat.ble m.toNatClampNeg 1000 && (Nat.ble (ce + (1 + m.toNatClampNeg * (1 + k.toNatClampNeg))) R.cells && Nat.ble (sl + (m.toNatClampNeg + m.toNatClampNeg * k.toNatClampNeg)) R.slots)))))
    then some (.ref n :: r, (pe, h ++ ((n, (true, 8, xrefw (n + 1) (1 + k.toNatClampNeg) m.toNatClampNeg)) :: xgrid (n + 1) k.toNatClampNeg m.toNatClampNeg), n + 1 + m.toNatClampNeg * (1 + k.toNatClampNeg), ce + (1 + m.toNatClampNeg * (1 + k.toNatClampNeg)), sl + (m.toNatClampNeg + m.toNatClampNeg * k.toNatClampNeg))) else none
  | _, _ => none
def xlen (scr : Option (Nat × (Nat → Int32))) (st : List Value) (σ : XS) : Option (List Value × XS) :=
  match st with
  | .ref o :: r => (match xhk σ.2.1 o with
    | some (true, ti, vs) => bif Nat.ble ti 8 then some (.int (Int32.ofNat vs.length) :: r, σ) else none
    | _ => none)
  | .retAddr _ :: r => (match scr with
    | some (L, _) => some (.int (Int32.ofNat L) :: r, σ)
    | none => none)
  | _ => none
/-- the place that an index names -/
def xix (i : Int32) (n : Nat) : Option Nat := bif decide (i < 0) then none else bif Nat.ble (i.toNatClampNeg + 1) n then some i.toNatClampNeg else none
def xald (ok : Value → Bool) (oti : Nat → Bool) (st : List Value) (σ : XS) : Option (List Value × XS) :=
  match st with
  | .int i :: .ref o :: r => (match xhk σ.2.1 o with
    | some (true, ti, vs) => bif oti ti then (match xix i vs.length with
      | some j => (match xnth vs j with
        | some v => bif ok v then some (v :: r, σ) else none
        | none => none)
      | none => none) else none
    | _ => none)
  | _ => none
def xild (scr : Option (Nat × (Nat → Int32))) (st : List Value) (σ : XS) : Option (List Value × XS) :=
  match st with
  | .int i :: .retAddr _ :: r => (match scr with
    | some (L, ys) => (match xix i L with
      | some j => some (.int (ys j) :: r, σ)
      | none => none)
    | none => none)
  | st => xald xint (fun ti => Nat.beq ti 0) st σ
def xast (ok : Value → Bool) (oti : Nat → Bool) (st : List Value) (σ : XS) : Option (List Value × XS) :=
  match st with
  | v :: .int i :: .ref o :: r => (match xhk σ.2.1 o with
    | some (true, ti, vs) => bif oti ti && ok v then (match xix i vs.length with
      | some j => some (r, (σ.1, xhs σ.2.1 o (true, ti, xset vs j v), σ.2.2))
      | none => none) else none
    | _ => none)
  | _ => none
/-- what an array's elements are: objects of a class, by its number in 'classes', or arrays of a type -/
def xel : Nat → Bool × Nat
  | 3 => (false, 10)
  | 4 => (false, 3)
  | 5 => (false, 8)
  | 6 => (true, 0)
  | 7 => (true, 1)
  | 8 => (true, 6)
  | _ => (false, 99)
def xasa (st : List Value) (σ : XS) : Option (List Value × XS) :=
  match st with
  | .null :: _ => xast xref (fun ti => Nat.ble 3 ti && Nat.ble ti 5) st σ
  | .ref q :: _ :: .ref o :: _ => (match xhk σ.2.1 o, xhk σ.2.1 q with
    | some (true, ti, _), some (b, ci, _) => bif Nat.ble 3 ti && (Nat.ble ti 8 && ((b == (xel ti).1) && Nat.beq ci (xel ti).2)) then xast xref (fun tj => Nat.beq ti tj) st σ else none
    | _, _ => none)
  | _ => none
def xbool : Value → Bool
  | .int x => decide (x = 0) || decide (x = 1)
  | _ => false
def xheap (scr : Option (Nat × (Nat → Int32))) (R : Room) (i : Instr) (aux : List Nat) (lv : XL) (st : List Value) (σ : XS) : Option (List Value × XS) :=
  match i with
  | .getfield _ => xget aux st σ
  | .putfield _ => xput aux st σ
  | .new _ => xnewo R aux lv st σ
  | .newarray _ => xnewa R aux lv st σ
  | .anewarray _ => xnewa R aux lv st σ
  | .multianewarray _ d => bif Nat.beq d 2 then xnewm2 R aux st σ else bif Nat.beq d 3 then xnewm3 R st σ else none
  | .arraylength => xlen scr st σ
  | .iaload => xild scr st σ
  | .laload => xald xlong (fun ti => Nat.beq ti 2) st σ
  | .baload => xald xint (fun ti => Nat.beq ti 1) st σ
  | .aaload => xald xref (fun ti => Nat.ble 3 ti && Nat.ble ti 8) st σ
  | .iastore => xast xint (fun ti => Nat.beq ti 0) st σ
  | .bastore => xast xbool (fun ti => Nat.beq ti 1) st σ
  | .lastore => xast xlong (fun ti => Nat.beq ti 2) st σ
  | .aastore => xasa st σ
  | _ => none

/-! branches -/
def xprop (c : ClassFile.Cond) (x y : Int32) : Bool :=
  match c with
  | .eq => decide (x = y)
  | .ne => !decide (x = y)
  | .lt => decide (x < y)
  | .ge => decide (y ≤ x)
  | .gt => decide (y < x)
  | .le => decide (x ≤ y)
def xflip : ClassFile.Cond → ClassFile.Cond
  | .eq => .eq
  | .ne => .ne
  | .lt => .gt
  | .ge => .le
  | .gt => .lt
  | .le => .ge
def xpset : XP → Nat → Int × Int → XP
  | [], _, _ => []
  | _ :: t, 0, v => v :: t
  | a :: t, n + 1, v => a :: xpset t n v
def xmn (a b : Int) : Int := bif decide (a ≤ b) then a else b
def xmx (a b : Int) : Int := bif decide (a ≤ b) then b else a
def xone (pe : XP) (u : Nat) (b : Bool) (q : Int × Int) : List (Bool × XP) := bif decide (q.1 ≤ q.2) then [(b, xpset pe u q)] else []
/-- x below k, and not -/
def xcut (pe : XP) (u : Nat) (q : Int × Int) (k : Int) (b : Bool) : List (Bool × XP) := xone pe u b (q.1, xmn q.2 (k - 1)) ++ xone pe u (!b) (xmx q.1 k, q.2)
def xcutE (pe : XP) (u : Nat) (q : Int × Int) (k : Int) (b : Bool) : List (Bool × XP) :=
  xone pe u b (xmx q.1 k, xmn q.2 k) ++ xone pe u (!b) (bif decide (q.1 = k) then (q.1 + 1, q.2) else bif decide (q.2 = k) then (q.1, q.2 - 1) else q)
def xsplit (pe : XP) (u : Nat) (c : ClassFile.Cond) (k : Int) : Option (List (Bool × XP)) :=
  match xnth pe u with
  | none => none
  | some q => some (match c with
    | .lt => xcut pe u q k true
    | .ge => xcut pe u q k false
    | .le => xcut pe u q (k + 1) true
    | .gt => xcut pe u q (k + 1) false
    | .eq => xcutE pe u q k true
    | .ne => xcutE pe u q k false)
def xbrs (c : ClassFile.Cond) (a b : Value) (pe : XP) : Option (List (Bool × XP)) :=
  match a, b with
  | .int x, .int y => some [(xprop c x y, pe)]
  | .float u, .int y => xsplit pe u.toNat c y.toInt
  | .int x, .float u => xsplit pe u.toNat (xflip c) x.toInt
  | _, _ => none
def xtgt (pc : Nat) (off : Int) : Option Nat :=
  match (pc : Int) + off with
  | .ofNat k => some k
  | .negSucc _ => none
def xtwo (t nx : Nat) (r : List Value) (l : List (Bool × XP)) : List (Nat × List Value × XP) := l.map fun q => (bif q.1 then t else nx, r, q.2)
def xjump (pc : Nat) (off : Int) (r : List Value) (o : Option (List (Bool × XP))) : Option (List (Nat × List Value × XP)) :=
  match xtgt pc off, o with
  | some t, some l => some (xtwo t (pc + 3) r l)
  | _, _ => none
/-- known to be null, known not to be -/
def xnul : Value → Option Bool
  | .null => some true
  | .ref _ => some false
  | .retAddr _ => some false
  | _ => none
def xsome {α : Type} : Option α → Bool
  | some _ => true
  | none => false
def xsame (h : XH) : Value → Value → Option Bool
  | .null, .null => some true
  | .ref _, .null => some false
  | .null, .ref _ => some false
  | .ref a, .ref b => bif Nat.beq a b then some true else bif xsome (xhk h a) && xsome (xhk h b) then some false else none
  | _, _ => none
def xb1 (b : Bool) (pe : XP) : Option Bool → Option (List (Bool × XP))
  | some t => some [(t == b, pe)]
  | none => none
/-- the switch's target for v -/
def xsel (pc : Nat) (dflt low high : Int) (offs : Array Int) (v : Int) : Option Nat :=
  bif decide (v < low) || decide (high < v) then xtgt pc dflt else (match xnth offs.toList (v - low).toNat with
    | some off => xtgt pc off
    | none => none)
/-- the switch's targets for an int between lo and lo + n -/
def xsw (pc : Nat) (dflt low high : Int) (offs : Array Int) (r : List Value) (pv : Int → XP) (lo : Int) : Nat → Option (List (Nat × List Value × XP))
  | 0 => some []
  | n + 1 =>
    match xsel pc dflt low high offs lo, xsw pc dflt low high offs r pv (lo + 1) n with
    | some t, some l => some ((t, r, pv lo) :: l)
    | _, _ => none
/-- lengths, the switch's too -/
def xil (pc : Nat) (i : Instr) : Nat :=
  match i with
  | .tableswitch _ _ _ offs => 1 + (3 - pc % 4) + 12 + 4 * offs.size
  | i => ilen i
def xbranch (h : XH) (pc : Nat) (i : Instr) (st : List Value) (pe : XP) : Option (List (Nat × List Value × XP)) :=
  match i with
  | .goto off => (match xtgt pc off with
    | some t => some [(t, st, pe)]
    | none => none)
  | .if_icmp c off => (match st with
    | b :: a :: r => xjump pc off r (xbrs c a b pe)
    | _ => none)
  | .ifCond c off => (match st with
    | a :: r => xjump pc off r (xbrs c a (.int 0) pe)
    | _ => none)
  | .ifnull off => (match st with
    | a :: r => xjump pc off r (xb1 true pe (xnul a))
    | _ => none)
  | .ifnonnull off => (match st with
    | a :: r => xjump pc off r (xb1 false pe (xnul a))
    | _ => none)
  | .if_acmp c off => (match st with
    | b :: a :: r => xjump pc off r (xb1 (match c with
      | .eq => true
      | .ne => false) pe (xsame h a b))
    | _ => none)
  | .tableswitch dflt low high offs => (match st with
    | .int x :: r => xsw pc dflt low high offs r (fun _ => pe) x.toInt 1
    | .float u :: r => (match xnth pe u.toNat with
      | some q => xsw pc dflt low high offs r (fun v => xpset pe u.toNat (v, v)) q.1 (q.2 + 1 - q.1).toNat
      | none => none)
    | _ => none)
  | _ => none

/-! runs -/
def xfind : List XI → Nat → List XI
  | [], _ => []
  | e :: t, pc => bif Nat.beq e.1 pc then e :: t else xfind t pc
/-- the rows from pc on -/
def xnext (code _t : List XI) (pc : Nat) : List XI := xfind code pc
def xall {α β : Type} (f : α → Option (List β)) : List α → Option (List β)
  | [] => some []
  | a :: l => match f a with
    | none => none
    | some r => match xall f l with
      | none => none
      | some q => some (r ++ q)
def xcats (st : List Value) : Nat := (st.map fun v => v.category).sum
abbrev XCf : Type := Nat → List Value → XP → XH → Nat → Option (List XR)
abbrev XGo : Type := List XI → XL → List Value → XS → Option (List XLf)
def xmN (M : XM) : Nat := M.2.2.1
def xmR (M : XM) : Room := M.2.2.2.2.1
def xmT (M : XM) : List (Nat × Nat × Nat × Nat) := M.2.2.2.2.2.1
def xmC (M : XM) : List XI := M.2.2.2.2.2.2.1
def xmA (M : XM) : Nat := M.2.2.2.2.2.2.2
/-- the receiver: of class ci where the call is by the object's class -/
def xrecv (mode ci : Nat) (args : List Value) (h : XH) : Bool :=
  match mode, args with
  | 0, _ => true
  | 1, .ref o :: _ => (match xhk h o with
    | some (false, cj, _) => Nat.beq ci cj
    | _ => false)
  | 2, .ref _ :: _ => true
  | _, _ => false
def xback (cls : Nat → Nat) (M Y : XM) (ih : XGo) (e : XI) (t : List XI) (lv : XL) (rest : List Value) (ce sl : Nat) (q : XR) : Option (List XLf) :=
  match q with
  | (0, v, pe, h, n) => ih (xnext (xmC M) t (e.1 + 3)) lv (v.toList ++ rest) (pe, h, n, ce + (xmR Y).cells, sl + (xmR Y).slots)
  | _ => none
/-- how a call is made: 0 static, 1 by the receiver's class, 2 a constructor -/
def xmode : Nat → Nat
  | 0 => 0
  | 1 => 1
  | 2 => 2
  | 3 => 2
  | 4 => 0
  | 5 => 1
  | _ => 0
def xcall (Ms : List XM) (cls : Nat → Nat) (M : XM) (cf : XCf) (ih : XGo) (e : XI) (t : List XI) (lv : XL) (st : List Value) (σ : XS) : Option (List XLf) :=
  match e.2.2.2, σ with
  | mode :: k :: ci :: _, (pe, h, n, ce, sl) => (match xnth Ms k with
    | none => none
    | some Y =>
      bif Nat.ble (xmA Y) st.length && (Nat.ble (xcats (st.drop (xmA Y))) 8 && (Nat.ble ((xmR Y).frames + 1) (xmR M).frames && (Nat.ble (8 + (xmN Y + 11) + (xmR Y).locals) (xmR M).locals && (Nat.ble (ce + (xmR Y).cells) (xmR M).cells && (Nat.ble (sl + (xmR Y).slots) (xmR M).slots && xrecv (xmode mode) ci (st.take (xmA Y)).reverse h))))) then
        (match cf k (st.take (xmA Y)).reverse pe h n with
        | some ls => xall (xback cls M Y ih e t lv (st.drop (xmA Y)) ce sl) ls
        | none => none)
      else none)
  | _, _ => none
def xoinit (M : XM) (ih : XGo) (e : XI) (t : List XI) (lv : XL) (st : List Value) (σ : XS) : Option (List XLf) :=
  match st with
  | .ref _ :: r => bif Nat.ble 1 (xmR M).frames && Nat.ble (xcats r + 12) (xmR M).locals then ih (xnext (xmC M) t (e.1 + 3)) lv r σ else none
  | _ => none
def xcopy (M : XM) (ih : XGo) (e : XI) (t : List XI) (lv : XL) (st : List Value) (σ : XS) : Option (List XLf) :=
  match st with
  | .int n :: .int dp :: .ref a :: .int sp :: .ref a0 :: r => (match xhk σ.2.1 a0, xhk σ.2.1 a with
    | some (true, 0, v0), some (true, 0, v1) =>
      bif decide (n < 0) then none else bif decide (sp = 0) && (decide (dp = 0) && (Nat.beq n.toNatClampNeg v0.length && (Nat.beq n.toNatClampNeg v1.length && (Nat.ble 1 (xmR M).frames && (Nat.ble (xcats r + 60) (xmR M).locals && (!(Nat.beq a a0) && v0.all xint)))))) then ih (xnext (xmC M) t (e.1 + 3)) lv r (σ.1, xhs σ.2.1 a (true, 0, v0), σ.2.2) else none
    | _, _ => none)
  | _ => none
def xmath (M : XM) (ih : XGo) (e : XI) (t : List XI) (lv : XL) (st : List Value) (σ : XS) : Option (List XLf) :=
  match e.2.2.2, st with
  | mx :: _, .int y :: .int x :: r => bif Nat.ble 1 (xmR M).frames && (Nat.ble (xcats r + 13) (xmR M).locals && (Nat.ble σ.2.2.2.1 (xmR M).cells && Nat.ble σ.2.2.2.2 (xmR M).slots)) then
      ih (xnext (xmC M) t (e.1 + 3)) lv (.int (match mx with
        | 0 => if y < x then y else x
        | _ => if x < y then y else x) :: r) σ else none
  | _, _ => none
def xbody (Ms : List XM) (cls : Nat → Nat) (scr : Option (Nat × (Nat → Int32))) (M : XM) (cf : XCf) (ih : XGo) : XGo := fun cur lv st σ =>
  match cur with
  | [] => none
  | e :: t => (match e.2.2.1 with
    | 0 => (match xsimple (xmN M) e.2.1 e.2.2.2 lv st with
      | some q => ih (xnext (xmC M) t (e.1 + ilen e.2.1)) q.1 q.2 σ
      | none => none)
    | 1 => (match xheap scr (xmR M) e.2.1 e.2.2.2 lv st σ with
      | some q => ih (xnext (xmC M) t (e.1 + ilen e.2.1)) lv q.1 q.2
      | none => none)
    | 2 => (match xbranch σ.2.1 e.1 e.2.1 st σ.1 with
      | some l => xall (fun q : Nat × List Value × XP => ih (xfind (xmC M) q.1) lv q.2.1 (q.2.2, σ.2)) l
      | none => none)
    | 3 => xcall Ms cls M cf ih e t lv st σ
    | 4 => some [(0, 0, e, lv, st, σ)]
    | 6 => xoinit M ih e t lv st σ
    | 7 => xcopy M ih e t lv st σ
    | 9 => some [(3, 0, e, lv, st, σ)]
    | 10 => xmath M ih e t lv st σ
    | _ => none)
noncomputable def xrun (Ms : List XM) (cls : Nat → Nat) (scr : Option (Nat × (Nat → Int32))) (M : XM) (cf : XCf) (f : Nat) : XGo :=
  Nat.rec (motive := fun _ => XGo) (fun _ _ _ _ => none) (fun _ ih => xbody Ms cls scr M cf ih) f
/-- what a method hands back -/
def xretv (ret : Option FieldType) (i : Instr) (st : List Value) : Option (Option Value) :=
  match ret, i, st with
  | none, .return_, [] => some none
  | some .int, .ireturn, [v] => bif xint v then some (some v) else none
  | some .boolean, .ireturn, [.int x] => bif decide (x = 0) || decide (x = 1) then some (some (.int x)) else none
  | some .long, .lreturn, [v] => bif xlong v then some (some v) else none
  | some .double, .dreturn, [v] => bif xdbl v then some (some v) else none
  | some (.object _), .areturn, [v] => bif xref v then some (some v) else none
  | some (.array _), .areturn, [v] => bif xref v then some (some v) else none
  | _, _, _ => none
def xnil : List (Nat × Nat × Nat × Nat) → Bool
  | [] => true
  | _ => false
def xend (M : XM) (q : XLf) : Option XR :=
  match q with
  | (0, _, e, _, st, (pe, h, n, ce, sl)) => bif Nat.ble ce (xmR M).cells && Nat.ble sl (xmR M).slots then (match xretv M.2.2.2.1 e.2.1 st with
    | some v => some (0, v, pe, h, n)
    | none => none) else none
  | _ => none
def xends (M : XM) : List XLf → Option (List XR)
  | [] => some []
  | q :: l => match xend M q, xends M l with
    | some r, some rs => some (r :: rs)
    | _, _ => none
noncomputable def xmeth (Ms : List XM) (cls : Nat → Nat) (scr : Option (Nat × (Nat → Int32))) (F : Nat) (d : Nat) : XCf :=
  Nat.rec (motive := fun _ => XCf) (fun _ _ _ _ _ => none) (fun _ cf k args pe h n =>
    match xnth Ms k with
    | none => none
    | some M => bif Nat.ble (xcats args) (xmN M) then (match xrun Ms cls scr M cf F (xfind (xmC M) 0) (lv_args 0 args) [] (pe, h, n, 0, 0) with
      | some ls => xends M ls
      | none => none) else none) d
end XE
end
section
/-! what the runner's values stand for; the rows of one method's own numbers -/
section XV
def ev (ad : Nat → Nat) (xs : Nat → Int32) (bS : Nat) : Value → Value
  | .int x => .int x
  | .long x => .long x
  | .float u => .int (xs u.toNat)
  | .double x => .double x
  | .null => .null
  | .ref k => .ref (ad k)
  | .retAddr _ => .ref bS
def evL (E : Value → Value) (l : XL) : XL := l.map (fun q => (q.1, E q.2))
def evS (E : Value → Value) (st : List Value) : List Value := st.map E
theorem ev_cat (ad : Nat → Nat) (xs : Nat → Int32) (bS : Nat) (v : Value) : (ev ad xs bS v).category = v.category := by cases v <;> rfl
theorem xint_ev {ad : Nat → Nat} {xs : Nat → Int32} {bS : Nat} {v : Value} (h : xint v = true) : ∃ x, ev ad xs bS v = .int x := by
  cases v <;> first | exact ⟨_, rfl⟩ | exact absurd h (by simp [xint])
theorem xref_ev {ad : Nat → Nat} {xs : Nat → Int32} {bS : Nat} {v : Value} (h : xref v = true) : ev ad xs bS v = .null ∨ ∃ a, ev ad xs bS v = .ref a := by
  cases v <;> first | exact Or.inl rfl | exact Or.inr ⟨_, rfl⟩ | exact absurd h (by simp [xref])
theorem xlong_ev {ad : Nat → Nat} {xs : Nat → Int32} {bS : Nat} {v : Value} (h : xlong v = true) : ∃ x, ev ad xs bS v = .long x := by
  cases v <;> first | exact ⟨_, rfl⟩ | exact absurd h (by simp [xlong])
theorem xdbl_ev {ad : Nat → Nat} {xs : Nat → Int32} {bS : Nat} {v : Value} (h : xdbl v = true) : ∃ x, ev ad xs bS v = .double x := by
  cases v <;> first | exact ⟨_, rfl⟩ | exact absurd h (by simp [xdbl])
theorem xlk_mem {i : Nat} {v : Value} : ∀ {l : XL}, xlk l i = some v → (i, v) ∈ l
  | [], h => nomatch h
  | (j, w) :: t, h => by
    unfold xlk at h
    cases hb : Nat.beq j i with
    | true =>
      rw [hb] at h
      have e1 : w = v := Option.some.inj h
      have e2 := Nat.eq_of_beq_eq_true hb
      subst e1; subst e2
      exact List.mem_cons_self
    | false =>
      rw [hb] at h
      exact List.mem_cons_of_mem _ (xlk_mem h)
theorem xloc {E : Value → Value} {ls : Array Slot} {nL i : Nat} {lv : XL} {v : Value} (hl : lv_has ls nL (evL E lv)) (h : xlk lv i = some v) : ls[i]? = some (.val (E v)) :=
  hl.2.2 (i, E v) (List.mem_map.mpr ⟨(i, v), xlk_mem h, rfl⟩)
theorem xf1_ev {E : Value → Value} (hE : ∀ v, (E v).category = v.category) (i : Nat) (lv : XL) : (evL E lv).filter (xf1 i) = evL E (lv.filter (xf1 i)) := by
  unfold evL
  rw [List.filter_map]
  have e : (xf1 i ∘ fun q : Nat × Value => (q.1, E q.2)) = xf1 i := funext fun q => by simp [xf1, hE]
  rw [e]
theorem xf2_ev {E : Value → Value} (hE : ∀ v, (E v).category = v.category) (i : Nat) (lv : XL) : (evL E lv).filter (xf2 i) = evL E (lv.filter (xf2 i)) := by
  unfold evL
  rw [List.filter_map]
  have e : (xf2 i ∘ fun q : Nat × Value => (q.1, E q.2)) = xf2 i := funext fun q => by simp [xf2, hE]
  rw [e]
theorem xins_mem {i : Nat} {v : Value} : ∀ {l : XL} {q : Nat × Value}, q ∈ xins i v l → q ∈ (i, v) :: l
  | [], q, h => h
  | (j, w) :: t, q, h => by
    unfold xins at h
    cases hb : Nat.ble i j with
    | true => rw [hb] at h; exact h
    | false =>
      rw [hb] at h
      rcases List.mem_cons.mp h with rfl | h
      · exact List.mem_cons_of_mem _ List.mem_cons_self
      · rcases List.mem_cons.mp (xins_mem h) with rfl | h
        · exact List.mem_cons_self
        · exact List.mem_cons_of_mem _ (List.mem_cons_of_mem _ h)
theorem xins_ev {E : Value → Value} {i : Nat} {v : Value} {l : XL} : ∀ q ∈ evL E (xins i v l), q ∈ (i, E v) :: evL E l := by
  intro q hq
  obtain ⟨q0, h0, rfl⟩ := List.mem_map.mp hq
  rcases List.mem_cons.mp (xins_mem h0) with rfl | h
  · exact List.mem_cons_self
  · exact List.mem_cons_of_mem _ (List.mem_map.mpr ⟨q0, h, rfl⟩)
theorem lv_sub9 {ls : Array Slot} {nL : Nat} {a b : XL} (h : lv_has ls nL a) (hs : ∀ q ∈ b, q ∈ a) : lv_has ls nL b := ⟨h.1, h.2.1, fun q hq => h.2.2 q (hs q hq)⟩
theorem xst1_ev {E : Value → Value} (hE : ∀ v, (E v).category = v.category) {nL i : Nat} {v : Value} {lv l : XL} (h : xst1 nL i v lv = some l) : i < nL ∧ ∀ q ∈ evL E l, q ∈ (i, E v) :: (evL E lv).filter (xf1 i) := by
  unfold xst1 at h
  cases hb : Nat.ble (i + 1) nL with
  | true =>
    rw [hb] at h
    have e : xins i v (lv.filter (xf1 i)) = l := Option.some.inj h
    subst e
    exact ⟨Nat.le_of_ble_eq_true hb, by rw [xf1_ev hE]; exact xins_ev⟩
  | false => rw [hb] at h; cases h
theorem xst2_ev {E : Value → Value} (hE : ∀ v, (E v).category = v.category) {nL i : Nat} {v : Value} {lv l : XL} (h : xst2 nL i v lv = some l) : i + 1 < nL ∧ ∀ q ∈ evL E l, q ∈ (i, E v) :: (evL E lv).filter (xf2 i) := by
  unfold xst2 at h
  cases hb : Nat.ble (i + 2) nL with
  | true =>
    rw [hb] at h
    have e : xins i v (lv.filter (xf2 i)) = l := Option.some.inj h
    subst e
    exact ⟨Nat.le_of_ble_eq_true hb, by rw [xf2_ev hE]; exact xins_ev⟩
  | false => rw [hb] at h; cases h
theorem xld_spec {ok : Value → Bool} {lv : XL} {st : List Value} {i : Nat} {q : XL × List Value} (h : xld ok lv st i = some q) : ∃ v, xlk lv i = some v ∧ ok v = true ∧ q = (lv, v :: st) := by
  unfold xld at h
  split at h
  · rename_i v hv
    cases hb : ok v with
    | true => rw [hb] at h; exact ⟨v, hv, hb, (Option.some.inj h).symm⟩
    | false => rw [hb] at h; cases h
  · cases h
theorem xstr1_spec {ok : Value → Bool} {nL i : Nat} {lv : XL} {st : List Value} {q : XL × List Value} (h : xstr1 ok nL i lv st = some q) : ∃ v r l, st = v :: r ∧ ok v = true ∧ xst1 nL i v lv = some l ∧ q = (l, r) := by
  unfold xstr1 at h
  split at h
  · cases h
  · rename_i v r
    cases hb : ok v with
    | true =>
      rw [hb] at h
      simp only [cond_true] at h
      split at h
      · rename_i l hl
        exact ⟨v, r, l, rfl, hb, hl, (Option.some.inj h).symm⟩
      · cases h
    | false => rw [hb] at h; cases h
theorem xstr2_spec {ok : Value → Bool} {nL i : Nat} {lv : XL} {st : List Value} {q : XL × List Value} (h : xstr2 ok nL i lv st = some q) : ∃ v r l, st = v :: r ∧ ok v = true ∧ xst2 nL i v lv = some l ∧ q = (l, r) := by
  unfold xstr2 at h
  split at h
  · cases h
  · rename_i v r
    cases hb : ok v with
    | true =>
      rw [hb] at h
      simp only [cond_true] at h
      split at h
      · rename_i l hl
        exact ⟨v, r, l, rfl, hb, hl, (Option.some.inj h).symm⟩
      · cases h
    | false => rw [hb] at h; cases h
theorem xbin_spec {f : Int32 → Int32 → Int32} {lv : XL} {st : List Value} {q : XL × List Value} (h : xbin f lv st = some q) : ∃ x y r, st = .int y :: .int x :: r ∧ q = (lv, .int (f x y) :: r) := by
  unfold xbin at h
  split at h
  · exact ⟨_, _, _, rfl, (Option.some.inj h).symm⟩
  · cases h
theorem xbil_spec {f : Int64 → Int64 → Int64} {lv : XL} {st : List Value} {q : XL × List Value} (h : xbil f lv st = some q) : ∃ x y r, st = .long y :: .long x :: r ∧ q = (lv, .long (f x y) :: r) := by
  unfold xbil at h
  split at h
  · exact ⟨_, _, _, rfl, (Option.some.inj h).symm⟩
  · cases h
section
variable {p : Program} {l : Launch} {e : Env} {R : Room} {s : State} {m : MethodId} {args : Array Value} {below : List Frame} {meth : Method} {c : Code} {H : Heap} {locs : List Loc} {cells slots : Nat} {Q : State → Prop}
variable {cc : ByteArray} {pc nL : Nat} {ls : Array Slot} {ad : Nat → Nat} {xs : Nat → Int32} {bS : Nat}
theorem xw_load (hx : p.tables.exec = Jvm.exec) (hb : c.code = cc) {i : Instr} {ok : Value → Bool} {k : Nat} {lv lv' : XL} {st st' : List Value} (h : xld ok lv st k = some (lv', st')) (hl : lv_has ls nL (evL (ev ad xs bS) lv))
    (row : ∀ v, ok v = true → ls[k]? = some (.val (ev ad xs bS v)) → W p l e R s m args below meth c H locs cells slots Q (F0 m (pc + ilen i) ls (ev ad xs bS v :: evS (ev ad xs bS) st)) → W p l e R s m args below meth c H locs cells slots Q (F0 m pc ls (evS (ev ad xs bS) st)))
    (kk : ∀ ls' : Array Slot, lv_has ls' nL (evL (ev ad xs bS) lv') → W p l e R s m args below meth c H locs cells slots Q (F0 m (pc + ilen i) ls' (evS (ev ad xs bS) st'))) : W p l e R s m args below meth c H locs cells slots Q (F0 m pc ls (evS (ev ad xs bS) st)) := by
  obtain ⟨v, h1, h2, h3⟩ := xld_spec h
  obtain ⟨rfl, rfl⟩ := Prod.mk.inj h3
  exact row v h2 (xloc hl h1) (kk ls hl)
theorem xw_store1 {i : Instr} {ok : Value → Bool} {k : Nat} {lv lv' : XL} {st st' : List Value} (h : xstr1 ok nL k lv st = some (lv', st'))
    (row : ∀ (v : Value) (r : List Value) (l' : XL), ok v = true → k < nL → (k, ev ad xs bS v) :: (evL (ev ad xs bS) lv).filter (xf1 k) = l' → (∀ ls' : Array Slot, lv_has ls' nL l' → W p l e R s m args below meth c H locs cells slots Q (F0 m (pc + ilen i) ls' r)) → W p l e R s m args below meth c H locs cells slots Q (F0 m pc ls (ev ad xs bS v :: r)))
    (kk : ∀ ls' : Array Slot, lv_has ls' nL (evL (ev ad xs bS) lv') → W p l e R s m args below meth c H locs cells slots Q (F0 m (pc + ilen i) ls' (evS (ev ad xs bS) st'))) : W p l e R s m args below meth c H locs cells slots Q (F0 m pc ls (evS (ev ad xs bS) st)) := by
  obtain ⟨v, r, l1, rfl, h2, h3, h4⟩ := xstr1_spec h
  obtain ⟨rfl, rfl⟩ := Prod.mk.inj h4
  obtain ⟨h5, h6⟩ := xst1_ev (ev_cat ad xs bS) h3
  exact row v _ _ h2 h5 rfl (fun ls' hl' => kk ls' (lv_sub9 hl' h6))
theorem xw_store2 {i : Instr} {ok : Value → Bool} {k : Nat} {lv lv' : XL} {st st' : List Value} (h : xstr2 ok nL k lv st = some (lv', st'))
    (row : ∀ (v : Value) (r : List Value) (l' : XL), ok v = true → k + 1 < nL → (k, ev ad xs bS v) :: (evL (ev ad xs bS) lv).filter (xf2 k) = l' → (∀ ls' : Array Slot, lv_has ls' nL l' → W p l e R s m args below meth c H locs cells slots Q (F0 m (pc + ilen i) ls' r)) → W p l e R s m args below meth c H locs cells slots Q (F0 m pc ls (ev ad xs bS v :: r)))
    (kk : ∀ ls' : Array Slot, lv_has ls' nL (evL (ev ad xs bS) lv') → W p l e R s m args below meth c H locs cells slots Q (F0 m (pc + ilen i) ls' (evS (ev ad xs bS) st'))) : W p l e R s m args below meth c H locs cells slots Q (F0 m pc ls (evS (ev ad xs bS) st)) := by
  obtain ⟨v, r, l1, rfl, h2, h3, h4⟩ := xstr2_spec h
  obtain ⟨rfl, rfl⟩ := Prod.mk.inj h4
  obtain ⟨h5, h6⟩ := xst2_ev (ev_cat ad xs bS) h3
  exact row v _ _ h2 h5 rfl (fun ls' hl' => kk ls' (lv_sub9 hl' h6))
theorem xw_bin {i : Instr} {f : Int32 → Int32 → Int32} {lv lv' : XL} {st st' : List Value} (h : xbin f lv st = some (lv', st')) (hl : lv_has ls nL (evL (ev ad xs bS) lv))
    (row : ∀ (x y : Int32) (r : List Value), W p l e R s m args below meth c H locs cells slots Q (F0 m (pc + ilen i) ls (.int (f x y) :: r)) → W p l e R s m args below meth c H locs cells slots Q (F0 m pc ls (.int y :: .int x :: r)))
    (kk : ∀ ls' : Array Slot, lv_has ls' nL (evL (ev ad xs bS) lv') → W p l e R s m args below meth c H locs cells slots Q (F0 m (pc + ilen i) ls' (evS (ev ad xs bS) st'))) : W p l e R s m args below meth c H locs cells slots Q (F0 m pc ls (evS (ev ad xs bS) st)) := by
  obtain ⟨x, y, r, rfl, h4⟩ := xbin_spec h
  obtain ⟨rfl, rfl⟩ := Prod.mk.inj h4
  exact row x y _ (kk ls hl)
theorem xw_binz {i : Instr} {f : Int32 → Int32 → Int32} {lv lv' : XL} {st st' : List Value} (h : xbinz f lv st = some (lv', st')) (hl : lv_has ls nL (evL (ev ad xs bS) lv))
    (row : ∀ (x y : Int32) (r : List Value), ¬ y = 0 → W p l e R s m args below meth c H locs cells slots Q (F0 m (pc + ilen i) ls (.int (f x y) :: r)) → W p l e R s m args below meth c H locs cells slots Q (F0 m pc ls (.int y :: .int x :: r)))
    (kk : ∀ ls' : Array Slot, lv_has ls' nL (evL (ev ad xs bS) lv') → W p l e R s m args below meth c H locs cells slots Q (F0 m (pc + ilen i) ls' (evS (ev ad xs bS) st'))) : W p l e R s m args below meth c H locs cells slots Q (F0 m pc ls (evS (ev ad xs bS) st)) := by
  unfold xbinz at h
  split at h
  · rename_i y x r
    cases hz : decide (y = 0) with
    | true => rw [hz] at h; cases h
    | false =>
      rw [hz] at h
      obtain ⟨rfl, rfl⟩ := Prod.mk.inj (Option.some.inj h)
      exact row x y _ (of_decide_eq_false hz) (kk ls hl)
  · cases h
theorem xw_bil {i : Instr} {f : Int64 → Int64 → Int64} {lv lv' : XL} {st st' : List Value} (h : xbil f lv st = some (lv', st')) (hl : lv_has ls nL (evL (ev ad xs bS) lv))
    (row : ∀ (x y : Int64) (r : List Value), W p l e R s m args below meth c H locs cells slots Q (F0 m (pc + ilen i) ls (.long (f x y) :: r)) → W p l e R s m args below meth c H locs cells slots Q (F0 m pc ls (.long y :: .long x :: r)))
    (kk : ∀ ls' : Array Slot, lv_has ls' nL (evL (ev ad xs bS) lv') → W p l e R s m args below meth c H locs cells slots Q (F0 m (pc + ilen i) ls' (evS (ev ad xs bS) st'))) : W p l e R s m args below meth c H locs cells slots Q (F0 m pc ls (evS (ev ad xs bS) st)) := by
  obtain ⟨x, y, r, rfl, h4⟩ := xbil_spec h
  obtain ⟨rfl, rfl⟩ := Prod.mk.inj h4
  exact row x y _ (kk ls hl)
set_option maxHeartbeats 4000000 in
theorem xsimple_ok (hx : p.tables.exec = Jvm.exec) (hb : c.code = cc) {i : Instr} {aux : List Nat}
    (hcl : ∀ k a t, i = .ldc2_w k → aux = a :: t → ∃ own, s.vm.findClass own = some m.cls ∧ (Jvm.Cond.constantLong own k (Int64.ofNat a)).before args s = true)
    {lv lv' : XL} {st st' : List Value} (h : xsimple nL i aux lv st = some (lv', st')) (hl : lv_has ls nL (evL (ev ad xs bS) lv)) (hd : decode cc pc = .ok (i, ilen i))
    (kk : ∀ ls' : Array Slot, lv_has ls' nL (evL (ev ad xs bS) lv') → W p l e R s m args below meth c H locs cells slots Q (F0 m (pc + ilen i) ls' (evS (ev ad xs bS) st'))) : W p l e R s m args below meth c H locs cells slots Q (F0 m pc ls (evS (ev ad xs bS) st)) := by
  unfold xsimple at h
  split at h
  · obtain ⟨rfl, rfl⟩ := Prod.mk.inj (Option.some.inj h)
    exact lv_iconst hx hb hd rfl (kk ls hl)
  · obtain ⟨rfl, rfl⟩ := Prod.mk.inj (Option.some.inj h)
    exact lv_bipush hx hb hd rfl (kk ls hl)
  · obtain ⟨rfl, rfl⟩ := Prod.mk.inj (Option.some.inj h)
    exact lv_sipush hx hb hd rfl (kk ls hl)
  · obtain ⟨rfl, rfl⟩ := Prod.mk.inj (Option.some.inj h)
    exact lv_null hx hb hd (kk ls hl)
  · rename_i d
    cases hz : Nat.beq d.val 0 with
    | false => rw [hz] at h; cases h
    | true =>
      rw [hz] at h
      obtain ⟨rfl, rfl⟩ := Prod.mk.inj (Option.some.inj h)
      have e0 : d = 0 := Fin.ext (Nat.eq_of_beq_eq_true hz)
      subst e0
      exact lv_dconst0 hx hb hd (kk ls hl)
  · split at h
    · rename_i a t
      obtain ⟨rfl, rfl⟩ := Prod.mk.inj (Option.some.inj h)
      obtain ⟨own, ho, hc⟩ := hcl _ a t rfl rfl
      exact lv_ldc2 hx hb ho hc hd (kk ls hl)
    · cases h
  · refine xw_load (i := .iload _) hx hb h hl (fun v hv hs k => ?_) kk
    obtain ⟨x, hxv⟩ := xint_ev (ad := ad) (xs := xs) (bS := bS) hv
    rw [hxv] at hs k
    exact lv_iload hx hb hd hs k
  · refine xw_load (i := .iload_n _) hx hb h hl (fun v hv hs k => ?_) kk
    obtain ⟨x, hxv⟩ := xint_ev (ad := ad) (xs := xs) (bS := bS) hv
    rw [hxv] at hs k
    exact lv_iload_n hx hb hd rfl hs k
  · refine xw_load (i := .lload _) hx hb h hl (fun v hv hs k => ?_) kk
    obtain ⟨x, hxv⟩ := xlong_ev (ad := ad) (xs := xs) (bS := bS) hv
    rw [hxv] at hs k
    exact lv_lload hx hb hd hs k
  · refine xw_load (i := .lload_n _) hx hb h hl (fun v hv hs k => ?_) kk
    obtain ⟨x, hxv⟩ := xlong_ev (ad := ad) (xs := xs) (bS := bS) hv
    rw [hxv] at hs k
    exact lv_lload_n hx hb hd rfl hs k
  · refine xw_load (i := .dload _) hx hb h hl (fun v hv hs k => ?_) kk
    obtain ⟨x, hxv⟩ := xdbl_ev (ad := ad) (xs := xs) (bS := bS) hv
    rw [hxv] at hs k
    exact lv_dload hx hb hd hs k
  · refine xw_load (i := .aload _) hx hb h hl (fun v hv hs k => ?_) kk
    rcases xref_ev (ad := ad) (xs := xs) (bS := bS) hv with hxv | ⟨x, hxv⟩
    · rw [hxv] at hs k
      exact lv_aloadN hx hb hd hs k
    · rw [hxv] at hs k
      exact lv_aload hx hb hd hs k
  · refine xw_load (i := .aload_n _) hx hb h hl (fun v hv hs k => ?_) kk
    rcases xref_ev (ad := ad) (xs := xs) (bS := bS) hv with hxv | ⟨x, hxv⟩
    · rw [hxv] at hs k
      exact lv_aload_nN hx hb hd rfl hs k
    · rw [hxv] at hs k
      exact lv_aload_n hx hb hd rfl hs k
  · refine xw_store1 (i := .istore _) h (fun v r l' hv hk he k => ?_) kk
    obtain ⟨x, hxv⟩ := xint_ev (ad := ad) (xs := xs) (bS := bS) hv
    rw [hxv] at he ⊢
    exact lv_istore hx hb hd hl hk he k
  · refine xw_store1 (i := .istore_n _) h (fun v r l' hv hk he k => ?_) kk
    obtain ⟨x, hxv⟩ := xint_ev (ad := ad) (xs := xs) (bS := bS) hv
    rw [hxv] at he ⊢
    exact lv_istore_n hx hb hd rfl hl hk he k
  · refine xw_store1 (i := .astore _) h (fun v r l' hv hk he k => ?_) kk
    rcases xref_ev (ad := ad) (xs := xs) (bS := bS) hv with hxv | ⟨x, hxv⟩
    · rw [hxv] at he ⊢
      exact lv_astoreN hx hb hd hl hk he k
    · rw [hxv] at he ⊢
      exact lv_astore hx hb hd hl hk he k
  · refine xw_store1 (i := .astore_n _) h (fun v r l' hv hk he k => ?_) kk
    rcases xref_ev (ad := ad) (xs := xs) (bS := bS) hv with hxv | ⟨x, hxv⟩
    · rw [hxv] at he ⊢
      exact lv_astore_nN hx hb hd rfl hl hk he k
    · rw [hxv] at he ⊢
      exact lv_astore_n hx hb hd rfl hl hk he k
  · refine xw_store2 (i := .lstore _) h (fun v r l' hv hk he k => ?_) kk
    obtain ⟨x, hxv⟩ := xlong_ev (ad := ad) (xs := xs) (bS := bS) hv
    rw [hxv] at he ⊢
    exact lv_lstore hx hb hd hl hk he k
  · refine xw_store2 (i := .lstore_n _) h (fun v r l' hv hk he k => ?_) kk
    obtain ⟨x, hxv⟩ := xlong_ev (ad := ad) (xs := xs) (bS := bS) hv
    rw [hxv] at he ⊢
    exact lv_lstore_n hx hb hd rfl hl hk he k
  · refine xw_store2 (i := .dstore _) h (fun v r l' hv hk he k => ?_) kk
    obtain ⟨x, hxv⟩ := xdbl_ev (ad := ad) (xs := xs) (bS := bS) hv
    rw [hxv] at he ⊢
    exact lv_dstore hx hb hd hl hk he k
  · unfold xinc at h
    split at h
    · rename_i x hk
      split at h
      · rename_i l1 h1
        obtain ⟨rfl, rfl⟩ := Prod.mk.inj (Option.some.inj h)
        obtain ⟨h5, h6⟩ := xst1_ev (ev_cat ad xs bS) h1
        have hmem : (_, Value.int x) ∈ evL (ev ad xs bS) lv := List.mem_map.mpr ⟨_, xlk_mem hk, rfl⟩
        obtain ⟨k9, hk9⟩ := List.getElem?_of_mem hmem
        exact lv_iinc hx hb hd hl hk9 rfl h5 rfl (fun ls' hl' => kk ls' (lv_sub9 hl' h6))
      · cases h
    · cases h
  · exact xw_bin (i := .iadd) h hl (fun x y r k => lv_iadd hx hb hd k) kk
  · exact xw_bin (i := .isub) h hl (fun x y r k => lv_isub hx hb hd k) kk
  · exact xw_bin (i := .imul) h hl (fun x y r k => lv_imul hx hb hd k) kk
  · exact xw_bin (i := .ishl) h hl (fun x y r k => lv_ishl hx hb hd k) kk
  · exact xw_bin (i := .ishr) h hl (fun x y r k => lv_ishr hx hb hd k) kk
  · unfold xand at h
    split at h
    · obtain ⟨rfl, rfl⟩ := Prod.mk.inj (Option.some.inj h)
      exact lv_iand hx hb hd (kk ls hl)
    · cases h
  · unfold xi2l at h
    split at h
    · obtain ⟨rfl, rfl⟩ := Prod.mk.inj (Option.some.inj h)
      exact lv_i2l hx hb hd rfl (kk ls hl)
    · cases h
  · exact xw_bil (i := .ladd) h hl (fun x y r k => lv_ladd hx hb hd k) kk
  · exact xw_bil (i := .lmul) h hl (fun x y r k => lv_lmul hx hb hd k) kk
  · unfold xlcm at h
    split at h
    · obtain ⟨rfl, rfl⟩ := Prod.mk.inj (Option.some.inj h)
      exact W.lcmp hx hb hd (kk ls hl)
    · cases h
  · unfold xdcm at h
    split at h
    · obtain ⟨rfl, rfl⟩ := Prod.mk.inj (Option.some.inj h)
      exact lv_dcmp hx hb hd (kk ls hl)
    · cases h
  · unfold xdup at h
    split at h
    · rename_i v r
      cases hz : Nat.beq v.category 1 with
      | false => rw [hz] at h; cases h
      | true =>
        rw [hz] at h
        obtain ⟨rfl, rfl⟩ := Prod.mk.inj (Option.some.inj h)
        exact lv_dup hx hb hd ((ev_cat ad xs bS v).trans (Nat.eq_of_beq_eq_true hz)) (kk ls hl)
    · cases h
  · unfold xdupx at h
    split at h
    · rename_i v w r
      cases hz : (Nat.beq v.category 1 && Nat.beq w.category 1) with
      | false => rw [hz] at h; cases h
      | true =>
        rw [hz] at h
        obtain ⟨rfl, rfl⟩ := Prod.mk.inj (Option.some.inj h)
        rw [Bool.and_eq_true] at hz
        exact lv_dup_x1 hx hb hd ((ev_cat ad xs bS v).trans (Nat.eq_of_beq_eq_true hz.1)) ((ev_cat ad xs bS w).trans (Nat.eq_of_beq_eq_true hz.2)) (kk ls hl)
    · cases h
  · exact xw_bin (i := .ior) h hl (fun x y r k => lv_ior hx hb hd k) kk
  · exact xw_bin (i := .ixor) h hl (fun x y r k => lv_ixor hx hb hd k) kk
  · exact xw_binz (i := .idiv) h hl (fun x y r hz k => lv_idiv hx hb hd hz k) kk
  · exact xw_binz (i := .irem) h hl (fun x y r hz k => lv_irem hx hb hd hz k) kk
  · unfold xdup2 at h
    split at h
    · rename_i v w r
      cases hz : (Nat.beq v.category 1 && Nat.beq w.category 1) with
      | false => rw [hz] at h; cases h
      | true =>
        rw [hz] at h
        obtain ⟨rfl, rfl⟩ := Prod.mk.inj (Option.some.inj h)
        rw [Bool.and_eq_true] at hz
        exact lv_dup2_11 hx hb hd ((ev_cat ad xs bS v).trans (Nat.eq_of_beq_eq_true hz.1)) ((ev_cat ad xs bS w).trans (Nat.eq_of_beq_eq_true hz.2)) (kk ls hl)
    · cases h
  · unfold xdupx2 at h
    split at h
    · rename_i v w u r
      cases hz : (Nat.beq v.category 1 && (Nat.beq w.category 1 && Nat.beq u.category 1)) with
      | false => rw [hz] at h; cases h
      | true =>
        rw [hz] at h
        obtain ⟨rfl, rfl⟩ := Prod.mk.inj (Option.some.inj h)
        rw [Bool.and_eq_true, Bool.and_eq_true] at hz
        exact lv_dup_x2 hx hb hd ((ev_cat ad xs bS v).trans (Nat.eq_of_beq_eq_true hz.1)) ((ev_cat ad xs bS w).trans (Nat.eq_of_beq_eq_true hz.2.1)) ((ev_cat ad xs bS u).trans (Nat.eq_of_beq_eq_true hz.2.2)) (kk ls hl)
    · cases h
  · unfold xpop at h
    split at h
    · rename_i v r
      cases hz : Nat.beq v.category 1 with
      | false => rw [hz] at h; cases h
      | true =>
        rw [hz] at h
        obtain ⟨rfl, rfl⟩ := Prod.mk.inj (Option.some.inj h)
        exact lv_pop hx hb hd ((ev_cat ad xs bS v).trans (Nat.eq_of_beq_eq_true hz)) (kk ls hl)
    · cases h
  · cases h
end
end XV
end
section
/-! the rows of cells -/
section XK
def evI : Value → Int32
  | .int x => x
  | _ => 0
def evG : Value → Int64
  | .long x => x
  | _ => 0
def evR : Value → Option Nat
  | .ref a => some a
  | _ => none
def evA (E : Value → Value) (ti : Nat) (vs : List Value) : vp_A :=
  match ti with
  | 0 => (vs.length, .inl (fun j => evI (E (vs.getD j (.int 0)))))
  | 1 => (vs.length, .inl (fun j => evI (E (vs.getD j (.int 0)))))
  | 2 => (vs.length, .inr (.inl (fun j => evG (E (vs.getD j (.long 0))))))
  | _ => (vs.length, .inr (.inr (.inr (.inr (fun j => evR (E (vs.getD j .null)))))))
def evC (E : Value → Value) (aC : Nat → ClassId) : XCl → va_E
  | (false, ci, fs) => .inr (ci, fs.map E)
  | (true, ti, vs) => .inl (aC ti, evA E ti vs)
def evH (E : Value → Value) (ad : Nat → Nat) (aC : Nat → ClassId) (h : XH) : va_W := h.map (fun q => (ad q.1, evC E aC q.2))
def xtys (aC : Nat → ClassId) : List (ClassId × FieldType) := [(aC 0, xty 0), (aC 1, xty 1), (aC 2, xty 2), (aC 3, xty 3), (aC 4, xty 4), (aC 5, xty 5), (aC 6, xty 6), (aC 7, xty 7), (aC 8, xty 8)]
theorem xtys_get (aC : Nat → ClassId) {ti : Nat} (h : ti ≤ 8) : (xtys aC)[ti]? = some (aC ti, xty ti) := by
  match ti, h with
  | 0, _ => rfl
  | 1, _ => rfl
  | 2, _ => rfl
  | 3, _ => rfl
  | 4, _ => rfl
  | 5, _ => rfl
  | 6, _ => rfl
  | 7, _ => rfl
  | 8, _ => rfl
  | n + 9, h => omega
theorem xty_obj {ti : Nat} (h : 3 ≤ ti) (h5 : ti ≤ 5) : ∃ C, xty ti = .object C := by
  match ti, h, h5 with
  | 3, _, _ => exact ⟨_, rfl⟩
  | 4, _, _ => exact ⟨_, rfl⟩
  | 5, _, _ => exact ⟨_, rfl⟩
  | n + 6, _, h5 => omega
theorem xty_ref {ti : Nat} (h : 3 ≤ ti) : (xty ti).isReference = true := by
  match ti, h with
  | 3, _ => rfl
  | 4, _ => rfl
  | 5, _ => rfl
  | 6, _ => rfl
  | 7, _ => rfl
  | n + 8, _ => rfl
theorem xdv_ref {ti : Nat} (h : 3 ≤ ti) : xdv ti = .null := by
  match ti, h with
  | n + 3, _ => rfl
theorem xnth_eq {α : Type} : ∀ (l : List α) (k : Nat), xnth l k = l[k]?
  | [], _ => by simp [xnth]
  | _ :: _, 0 => by simp [xnth]
  | _ :: t, k + 1 => by simp [xnth, xnth_eq t k]
theorem xset_eq : ∀ (l : List Value) (k : Nat) (v : Value), xset l k v = l.set k v
  | [], _, _ => by simp [xset]
  | _ :: _, 0, _ => by simp [xset]
  | _ :: t, k + 1, v => by simp [xset, xset_eq t k v]
theorem evA_len (E : Value → Value) (ti : Nat) (vs : List Value) : (evA E ti vs).1 = vs.length := by unfold evA; split <;> rfl
theorem xhk_get {E : Value → Value} {ad : Nat → Nat} {aC : Nat → ClassId} {o : Nat} {c : XCl} : ∀ {h : XH}, xhk h o = some c → ∃ q0, (evH E ad aC h)[q0]? = some (ad o, evC E aC c) ∧ ∀ d, (evH E ad aC h).set q0 (ad o, evC E aC d) = evH E ad aC (xhs h o d)
  | [], h => nomatch h
  | (j, c') :: t, h => by
    unfold xhk at h
    cases hb : Nat.beq j o with
    | true =>
      rw [hb] at h
      have e1 : c' = c := Option.some.inj h
      have e2 := Nat.eq_of_beq_eq_true hb
      subst e1; subst e2
      refine ⟨0, rfl, fun d => ?_⟩
      unfold xhs
      rw [hb]
      rfl
    | false =>
      rw [hb] at h
      obtain ⟨q0, h1, h2⟩ := xhk_get (E := E) (ad := ad) (aC := aC) h
      refine ⟨q0 + 1, by simpa [evH] using h1, fun d => ?_⟩
      unfold xhs
      rw [hb]
      show (_ :: (evH E ad aC t).set q0 _) = _
      rw [h2 d]
      rfl
theorem xov_ev {ad ad' : Nat → Nat} {xs : Nat → Int32} {bS n : Nat} (ha : ∀ j, j < n → ad' j = ad j) {v : Value} (h : xov n v = true) : ev ad' xs bS v = ev ad xs bS v := by
  cases v with
  | ref k => exact congrArg Value.ref (ha k (Nat.le_of_ble_eq_true h))
  | _ => rfl
theorem xoS_ev {ad ad' : Nat → Nat} {xs : Nat → Int32} {bS n : Nat} (ha : ∀ j, j < n → ad' j = ad j) {st : List Value} (h : xoS n st = true) : evS (ev ad' xs bS) st = evS (ev ad xs bS) st :=
  List.map_congr_left fun v hv => xov_ev ha (List.all_eq_true.mp h v hv)
theorem xoL_ev {ad ad' : Nat → Nat} {xs : Nat → Int32} {bS n : Nat} (ha : ∀ j, j < n → ad' j = ad j) {lv : XL} (h : xoL n lv = true) : evL (ev ad' xs bS) lv = evL (ev ad xs bS) lv :=
  List.map_congr_left fun q hq => by rw [xov_ev ha (List.all_eq_true.mp h q hq)]
theorem evC_congr {E E' : Value → Value} {aC : Nat → ClassId} {c : XCl} (h : ∀ v ∈ c.2.2, E' v = E v) (hi : E' (.int 0) = E (.int 0)) (hl : E' (.long 0) = E (.long 0)) (hn : E' .null = E .null) : evC E' aC c = evC E aC c := by
  obtain ⟨b, ti, vs⟩ := c
  have hg : ∀ (d : Value), E' d = E d → ∀ j, E' (vs.getD j d) = E (vs.getD j d) := by
    intro d hd j
    rw [List.getD_eq_getElem?_getD]
    cases hj : vs[j]? with
    | none => exact hd
    | some v => exact h v (List.mem_of_getElem? hj)
  cases b with
  | false => exact congrArg (fun z => Sum.inr (ti, z)) (List.map_congr_left h)
  | true =>
    show Sum.inl (aC ti, evA E' ti vs) = Sum.inl (aC ti, evA E ti vs)
    refine congrArg (fun z => Sum.inl (aC ti, z)) ?_
    unfold evA
    split
    · simp only [hg _ hi]
    · simp only [hg _ hi]
    · simp only [hg _ hl]
    · simp only [hg _ hn]
theorem xoH_ev {ad ad' : Nat → Nat} {xs : Nat → Int32} {bS n : Nat} {aC : Nat → ClassId} (ha : ∀ j, j < n → ad' j = ad j) {h : XH} (hh : xoH n h = true) : evH (ev ad' xs bS) ad' aC h = evH (ev ad xs bS) ad aC h :=
  List.map_congr_left fun q hq => by
    have h1 := List.all_eq_true.mp hh q hq
    rw [Bool.and_eq_true] at h1
    rw [ha _ (Nat.le_of_ble_eq_true h1.1), evC_congr (E := ev ad xs bS) (fun v hv => xov_ev ha (List.all_eq_true.mp h1.2 v hv)) rfl rfl rfl]
theorem xal_spec {n : Nat} {lv : XL} {st : List Value} {h : XH} (hh : xal n lv st h = true) : xoL n lv = true ∧ xoS n st = true ∧ xoH n h = true := by
  unfold xal at hh
  rw [Bool.and_eq_true, Bool.and_eq_true] at hh
  exact hh
theorem xRA_inj {s : State} {c1 c2 : ClassId} {ty : FieldType} (h1 : va_RA s c1 ty) (h2 : va_RA s c2 ty) : c1 = c2 := by
  cases ty with
  | object C =>
    obtain ⟨_, _, _, _, _, a⟩ := h1
    obtain ⟨_, _, _, _, _, b⟩ := h2
    exact Option.some.inj (a.symm.trans b)
  | _ =>
    have a : s.vm.findClass _ = some c1 := h1
    have b : s.vm.findClass _ = some c2 := h2
    exact Option.some.inj (a.symm.trans b)
theorem xfit_ok {ad : Nat → Nat} {xs : Nat → Int32} {bS : Nat} {ty : FieldType} {v : Value} (h : xfit ty v = true) : narrow ty (ev ad xs bS v) = ev ad xs bS v ∧ fits ty (ev ad xs bS v) = true := by
  unfold xfit at h
  split at h
  · exact ⟨rfl, rfl⟩
  · exact ⟨rfl, rfl⟩
  · rename_i x
    simp only [Bool.or_eq_true, decide_eq_true_eq] at h
    rcases h with rfl | rfl
    · exact ⟨show narrow .boolean (.int 0) = .int 0 by decide, show fits .boolean (.int 0) = true by decide⟩
    · exact ⟨show narrow .boolean (.int 1) = .int 1 by decide, show fits .boolean (.int 1) = true by decide⟩
  · rcases xref_ev (ad := ad) (xs := xs) (bS := bS) h with e | ⟨a, e⟩ <;> rw [e] <;> exact ⟨rfl, rfl⟩
  · rcases xref_ev (ad := ad) (xs := xs) (bS := bS) h with e | ⟨a, e⟩ <;> rw [e] <;> exact ⟨rfl, rfl⟩
  · cases h
theorem xcls_ok {ci : Nat} {C : String} {T : u_T} {N : Nat} (h : classes[ci]? = some (C, T, N)) : N = xNf ci ∧ (∀ k, k < N → parseFieldDescriptor (T k).2.2.1 = some (xTy ci k)) ∧ (∀ a, a < N → ∀ b, b < N → a ≠ b → (T a).2.1 ≠ (T b).2.1) := by
  match ci, h with
  | 0, h => cases h; exact ⟨rfl, xY0_ok, xN0⟩
  | 1, h => cases h; exact ⟨rfl, xY1_ok, xN1⟩
  | 2, h => cases h; exact ⟨rfl, xY2_ok, xN2⟩
  | 3, h => cases h; exact ⟨rfl, xY3_ok, xN3⟩
  | 4, h => cases h; exact ⟨rfl, xY4_ok, xN4⟩
  | 5, h => cases h; exact ⟨rfl, xY5_ok, xN5⟩
  | 6, h => cases h; exact ⟨rfl, xY6_ok, xN6⟩
  | 7, h => cases h; exact ⟨rfl, xY7_ok, xN7⟩
  | 8, h => cases h; exact ⟨rfl, xY8_ok, xN8⟩
  | 9, h => cases h; exact ⟨rfl, xY9_ok, xN9⟩
  | 10, h => cases h; exact ⟨rfl, xY10_ok, xN10⟩
  | 11, h => cases h; exact ⟨rfl, xY11_ok, xN11⟩
  | n + 12, h => simp [classes] at h
theorem xTy_nf (ci k : Nat) : xTy ci k ≠ .float := by
  unfold xTy
  split
  · unfold xY0; split <;> simp
  · unfold xY1; split <;> simp
  · unfold xY2; split <;> simp
  · unfold xY3; split <;> simp
  · unfold xY4; split <;> simp
  · unfold xY5; split <;> simp
  · unfold xY6; split <;> simp
  · unfold xY7; split <;> simp
  · unfold xY8; split <;> simp
  · unfold xY9; split <;> simp
  · unfold xY10; split <;> simp
  · unfold xY11; split <;> simp
theorem ev_def {ad : Nat → Nat} {xs : Nat → Int32} {bS : Nat} {t : FieldType} (h : t ≠ .float) : ev ad xs bS (defaultValue t) = defaultValue t := by
  cases t <;> first | rfl | exact absurd rfl h
theorem xD_ev {ad : Nat → Nat} {xs : Nat → Int32} {bS : Nat} (ci : Nat) : (xD ci).map (ev ad xs bS) = xD ci := by
  unfold xD
  rw [List.map_map]
  exact List.map_congr_left fun k _ => ev_def (xTy_nf ci k)
theorem xD_at {ci j : Nat} (h : j < xNf ci) : defaultValue (xTy ci j) = vp_V (xD ci) j := by
  simp [vp_V, xD, h]
theorem getD_rep {α : Type} (n j : Nat) (a : α) : (List.replicate n a).getD j a = a := by
  rw [List.getD_eq_getElem?_getD, List.getElem?_replicate]
  split <;> rfl
theorem evA_rep {ad : Nat → Nat} {xs : Nat → Int32} {bS : Nat} {ti : Nat} (n : Nat) (cA : ClassId) : vp_cell cA (evA (ev ad xs bS) ti (List.replicate n (xdv ti))) = arrV cA n (fun _ => defaultValue (xty ti)) := by
  match ti with
  | 0 =>
    show vp_cell cA ((List.replicate n (Value.int 0)).length, .inl (fun j => evI (ev ad xs bS ((List.replicate n (Value.int 0)).getD j (.int 0))))) = _
    simp only [getD_rep, List.length_replicate]; rfl
  | 1 =>
    show vp_cell cA ((List.replicate n (Value.int 0)).length, .inl (fun j => evI (ev ad xs bS ((List.replicate n (Value.int 0)).getD j (.int 0))))) = _
    simp only [getD_rep, List.length_replicate]; rfl
  | 2 =>
    show vp_cell cA ((List.replicate n (Value.long 0)).length, .inr (.inl (fun j => evG (ev ad xs bS ((List.replicate n (Value.long 0)).getD j (.long 0)))))) = _
    simp only [getD_rep, List.length_replicate]; rfl
  | 3 =>
    show vp_cell cA ((List.replicate n Value.null).length, .inr (.inr (.inr (.inr (fun j => evR (ev ad xs bS ((List.replicate n Value.null).getD j .null))))))) = _
    simp only [getD_rep, List.length_replicate]; rfl
  | 4 =>
    show vp_cell cA ((List.replicate n Value.null).length, .inr (.inr (.inr (.inr (fun j => evR (ev ad xs bS ((List.replicate n Value.null).getD j .null))))))) = _
    simp only [getD_rep, List.length_replicate]; rfl
  | 5 =>
    show vp_cell cA ((List.replicate n Value.null).length, .inr (.inr (.inr (.inr (fun j => evR (ev ad xs bS ((List.replicate n Value.null).getD j .null))))))) = _
    simp only [getD_rep, List.length_replicate]; rfl
  | 6 =>
    show vp_cell cA ((List.replicate n Value.null).length, .inr (.inr (.inr (.inr (fun j => evR (ev ad xs bS ((List.replicate n Value.null).getD j .null))))))) = _
    simp only [getD_rep, List.length_replicate]; rfl
  | 7 =>
    show vp_cell cA ((List.replicate n Value.null).length, .inr (.inr (.inr (.inr (fun j => evR (ev ad xs bS ((List.replicate n Value.null).getD j .null))))))) = _
    simp only [getD_rep, List.length_replicate]; rfl
  | k + 8 =>
    show vp_cell cA ((List.replicate n Value.null).length, .inr (.inr (.inr (.inr (fun j => evR (ev ad xs bS ((List.replicate n Value.null).getD j .null))))))) = _
    simp only [getD_rep, List.length_replicate]; rfl
theorem evA_repq {ad : Nat → Nat} {xs : Nat → Int32} {bS : Nat} {ti : Nat} (h : 3 ≤ ti) (n : Nat) : evA (ev ad xs bS) ti (List.replicate n (xdv ti)) = (n, .inr (.inr (.inr (.inr (fun _ => none))))) := by
  match ti, h with
  | k + 3, _ =>
    have e : xdv (k + 3) = .null := by unfold xdv; split <;> first | rfl | omega
    rw [e]
    show (((List.replicate n Value.null).length, .inr (.inr (.inr (.inr (fun j => evR (ev ad xs bS ((List.replicate n Value.null).getD j .null))))))) : vp_A) = _
    simp only [getD_rep, List.length_replicate]; rfl
theorem xix_spec {i : Int32} {n j : Nat} (h : xix i n = some j) : vp_in i n ∧ i.toNatClampNeg = j ∧ j < n := by
  unfold xix at h
  cases h1 : decide (i < 0) with
  | true => rw [h1] at h; cases h
  | false =>
    rw [h1] at h
    cases h2 : Nat.ble (i.toNatClampNeg + 1) n with
    | false => rw [h2] at h; cases h
    | true =>
      rw [h2] at h
      have e : i.toNatClampNeg = j := Option.some.inj h
      have h3 := Nat.le_of_ble_eq_true h2
      refine ⟨?_, e, by omega⟩
      rintro (q | q)
      · exact absurd q (of_decide_eq_false h1)
      · omega
theorem getD_at {α : Type} {l : List α} {j : Nat} {v d : α} (h : l[j]? = some v) : l.getD j d = v := by
  rw [List.getD_eq_getElem?_getD, h]; rfl
theorem getD_put {α : Type} {l : List α} {j : Nat} (v d : α) (hj : j < l.length) (k : Nat) : (l.set j v).getD k d = if k = j then v else l.getD k d := by
  rw [List.getD_eq_getElem?_getD, List.getD_eq_getElem?_getD, List.getElem?_set]
  by_cases h : j = k
  · subst h; simp [hj]
  · rw [if_neg h, if_neg (fun z => h z.symm)]
theorem xald_spec {ok : Value → Bool} {oti : Nat → Bool} {st : List Value} {σ : XS} {q : List Value × XS} (h : xald ok oti st σ = some q) : ∃ i o r ti vs j v, st = .int i :: .ref o :: r ∧ xhk σ.2.1 o = some (true, ti, vs) ∧ oti ti = true ∧ xix i vs.length = some j ∧ vs[j]? = some v ∧ ok v = true ∧ q = (v :: r, σ) := by
  unfold xald at h
  split at h
  · rename_i i o r
    split at h
    · rename_i ti vs hk
      cases h1 : oti ti with
      | false => rw [h1] at h; cases h
      | true =>
        rw [h1] at h
        simp only [cond_true] at h
        split at h
        · rename_i j hj
          split at h
          · rename_i v hv
            cases h2 : ok v with
            | false => rw [h2] at h; cases h
            | true =>
              rw [h2] at h
              rw [xnth_eq] at hv
              exact ⟨i, o, r, ti, vs, j, v, rfl, hk, h1, hj, hv, h2, (Option.some.inj h).symm⟩
          · cases h
        · cases h
    · cases h
  · cases h
theorem xast_spec {ok : Value → Bool} {oti : Nat → Bool} {st : List Value} {σ : XS} {q : List Value × XS} (h : xast ok oti st σ = some q) : ∃ v i o r ti vs j, st = v :: .int i :: .ref o :: r ∧ xhk σ.2.1 o = some (true, ti, vs) ∧ oti ti = true ∧ ok v = true ∧ xix i vs.length = some j ∧ q = (r, (σ.1, xhs σ.2.1 o (true, ti, vs.set j v), σ.2.2)) := by
  unfold xast at h
  split at h
  · rename_i v i o r
    split at h
    · rename_i ti vs hk
      cases h1 : (oti ti && ok v) with
      | false => rw [h1] at h; cases h
      | true =>
        rw [h1] at h
        rw [Bool.and_eq_true] at h1
        simp only [cond_true] at h
        split at h
        · rename_i j hj
          rw [xset_eq] at h
          exact ⟨v, i, o, r, ti, vs, j, rfl, hk, h1.1, h1.2, hj, (Option.some.inj h).symm⟩
        · cases h
    · cases h
  · cases h
/-- what an instruction that touches cells wants of the tables -/
def xvh (Ts : List Jvm.Cond) (own : String) (init : Bool) (i : Instr) (aux : List Nat) : Prop :=
  match i with
  | .getfield idx => ∀ ci k t, aux = ci :: k :: t → ∃ C T N, classes[ci]? = some (C, T, N) ∧ k < N ∧ Jvm.Cond.fieldLink own idx (T k).1 (T k).2.1 (T k).2.2.1 ∈ Ts
  | .putfield idx => ∀ ci k t, aux = ci :: k :: t → ∃ C T N, classes[ci]? = some (C, T, N) ∧ k < N ∧ Jvm.Cond.fieldLink own idx (T k).1 (T k).2.1 (T k).2.2.1 ∈ Ts ∧ ((T k).2.2.2 = false ∨ ((T k).2.2.2 = true ∧ init = true ∧ (T k).1 = own))
  | .new idx => ∀ ci t, aux = ci :: t → ∃ C T N, classes[ci]? = some (C, T, N) ∧ Jvm.Cond.classLink own idx C ∈ Ts ∧ Jvm.Cond.instantiable C N ∈ Ts ∧ Jvm.Cond.initialized C ∈ Ts
  | .newarray a => ∀ ti t, aux = ti :: t → ti ≤ 2 ∧ newarray.typeOf a = xty ti ∧ Jvm.Cond.arrayClass (newarray.typeOf a) ∈ Ts
  | .anewarray idx => ∀ ti t, aux = ti :: t → (3 ≤ ti ∧ ti ≤ 5 ∧ ∃ C, xty ti = .object C ∧ Jvm.Cond.classLink own idx C ∈ Ts) ∨ (ti = 6 ∧ Jvm.Cond.classLink own idx "[I" ∈ Ts)
  | .multianewarray idx d => (d = 2 → ∀ to ti t, aux = to :: ti :: t → (to = 6 ∧ ti = 0 ∧ Jvm.Cond.arrayClass .int ∈ Ts ∧ Jvm.Cond.classLink own idx "[[I" ∈ Ts) ∨ (to = 7 ∧ ti = 1 ∧ Jvm.Cond.arrayClass .boolean ∈ Ts ∧ Jvm.Cond.classLink own idx "[[Z" ∈ Ts) ∨ (to = 8 ∧ ti = 6 ∧ Jvm.Cond.classLink own idx "[[[I" ∈ Ts)) ∧ (d = 3 → Jvm.Cond.arrayClass .int ∈ Ts ∧ Jvm.Cond.classLink own idx "[[[I" ∈ Ts)
  | _ => True
end XK
end
section
section XM
variable {p : Program} {l : Launch} {e : Env} {R : Room} {s : State} {m : MethodId} {args : Array Value} {below : List Frame} {meth : Method} {c : Code} {H : Heap} {locs : List Loc} {Q : State → Prop}
variable {cc : ByteArray} {pc nL : Nat} {ls : Array Slot} {ad : Nat → Nat} {xs : Nat → Int32} {bS : Nat} {aC : Nat → ClassId} {D : va_G} {A : Nat → Prop} {own : String} {Ts : List Jvm.Cond}
/-- where the walk goes on behind an instruction that touches cells -/
def xgo (p : Program) (l : Launch) (e : Env) (R : Room) (s : State) (m : MethodId) (args : Array Value) (below : List Frame) (meth : Method) (c : Code) (Q : State → Prop) (ad : Nat → Nat) (xs : Nat → Int32) (bS : Nat) (aC : Nat → ClassId) (D : va_G) (A : Nat → Prop) (lv : XL) (n : Nat) (pc : Nat) (ls : Array Slot) (st' : List Value) (σ' : XS) (nL : Nat) : Prop :=
  ∀ (ad' : Nat → Nat) (H1 : Heap) (locs1 : List Loc), (∀ j, j < n → ad' j = ad j) → n ≤ σ'.2.2.1 → va_P D classes (evH (ev ad' xs bS) ad' aC σ'.2.1) H1 → va_D A (evH (ev ad' xs bS) ad' aC σ'.2.1) → va_S A s.heap H1 locs1 → lv_has ls nL (evL (ev ad' xs bS) lv) →
    W p l e R s m args below meth c H1 locs1 σ'.2.2.2.1 σ'.2.2.2.2 Q (F0 m pc ls (evS (ev ad' xs bS) st'))
theorem xw_get (hx : p.tables.exec = Jvm.exec) (hb : c.code = cc) (hts : ∀ w ∈ Ts, w.before args s = true) (hcw : ∀ (ci : Nat) (C : String) (T : u_T) (N : Nat), classes[ci]? = some (C, T, N) → ∀ w ∈ u_ws C T N, w ∈ Ts) (hown : s.vm.findClass own = some m.cls) (hK : va_K D classes (xtys aC) s)
    {idx : Nat} {aux : List Nat} {init : Bool} (hv : xvh Ts own init (.getfield idx) aux) {lv : XL} {st st' : List Value} {σ σ' : XS} (h : xget aux st σ = some (st', σ'))
    (hP : va_P D classes (evH (ev ad xs bS) ad aC σ.2.1) H) (hD : va_D A (evH (ev ad xs bS) ad aC σ.2.1)) (hS : va_S A s.heap H locs) (hl : lv_has ls nL (evL (ev ad xs bS) lv)) (hd : decode cc pc = .ok (.getfield idx, 3))
    (kk : xgo p l e R s m args below meth c Q ad xs bS aC D A lv σ.2.2.1 (pc + 3) ls st' σ' nL) : W p l e R s m args below meth c H locs σ.2.2.2.1 σ.2.2.2.2 Q (F0 m pc ls (evS (ev ad xs bS) st)) := by
  unfold xget at h
  split at h
  · rename_i ci k t o r
    split at h
    · rename_i cj fs hk
      cases h1 : Nat.beq ci cj with
      | false => rw [h1] at h; cases h
      | true =>
        rw [h1] at h
        simp only [cond_true] at h
        split at h
        · rename_i v hv2
          rw [xnth_eq] at hv2
          obtain ⟨rfl, rfl⟩ := Prod.mk.inj (Option.some.inj h)
          have e1 := Nat.eq_of_beq_eq_true h1
          subst e1
          obtain ⟨C, T, N, hc, hkN, hw⟩ := hv ci k t rfl
          obtain ⟨q0, hq, -⟩ := xhk_get (E := ev ad xs bS) (ad := ad) (aC := aC) hk
          refine va_get (own := own) (ref := (T k).1) (C := C) (T := T) (N := N) (ci := ci) (fs := fs.map (ev ad xs bS)) hx hb hts (hcw ci C T N hc) hown hK hP q0 hq hc k hkN (hts _ hw) (fun _ z => z) (v := ev ad xs bS v) (by rw [List.getElem?_map, hv2]; rfl) hd ?_
          exact kk ad H locs (fun _ _ => rfl) (Nat.le_refl _) hP hD hS hl
        · cases h
    · cases h
  · cases h
theorem xw_put (hx : p.tables.exec = Jvm.exec) (hb : c.code = cc) (hts : ∀ w ∈ Ts, w.before args s = true) (hcw : ∀ (ci : Nat) (C : String) (T : u_T) (N : Nat), classes[ci]? = some (C, T, N) → ∀ w ∈ u_ws C T N, w ∈ Ts) (hown : s.vm.findClass own = some m.cls) (hK : va_K D classes (xtys aC) s)
    {idx : Nat} {aux : List Nat} {init : Bool} (hin : init = true → meth.name = "<init>") (hv : xvh Ts own init (.putfield idx) aux) {lv : XL} {st st' : List Value} {σ σ' : XS} (h : xput aux st σ = some (st', σ'))
    (hP : va_P D classes (evH (ev ad xs bS) ad aC σ.2.1) H) (hD : va_D A (evH (ev ad xs bS) ad aC σ.2.1)) (hS : va_S A s.heap H locs) (hl : lv_has ls nL (evL (ev ad xs bS) lv)) (hd : decode cc pc = .ok (.putfield idx, 3))
    (kk : xgo p l e R s m args below meth c Q ad xs bS aC D A lv σ.2.2.1 (pc + 3) ls st' σ' nL) : W p l e R s m args below meth c H locs σ.2.2.2.1 σ.2.2.2.2 Q (F0 m pc ls (evS (ev ad xs bS) st)) := by
  unfold xput at h
  split at h
  · rename_i ci k t v o r
    split at h
    · rename_i cj fs hk
      cases h1 : (Nat.beq ci cj && (xfit (xTy ci k) v && Nat.ble (k + 1) fs.length)) with
      | false => rw [h1] at h; cases h
      | true =>
        rw [h1] at h
        simp only [Bool.and_eq_true] at h1
        obtain ⟨h2, h3, h4⟩ := h1
        rw [xset_eq] at h
        obtain ⟨rfl, rfl⟩ := Prod.mk.inj (Option.some.inj h)
        have e1 := Nat.eq_of_beq_eq_true h2
        subst e1
        obtain ⟨C, T, N, hc, hkN, hw, hf⟩ := hv ci k t rfl
        obtain ⟨q0, hq, hset⟩ := xhk_get (E := ev ad xs bS) (ad := ad) (aC := aC) hk
        obtain ⟨hN, hty, hnm⟩ := xcls_ok hc
        obtain ⟨hn, hfit⟩ := xfit_ok (ad := ad) (xs := xs) (bS := bS) h3
        have hlen : k < (fs.map (ev ad xs bS)).length := by rw [List.length_map]; exact Nat.le_of_ble_eq_true h4
        have hset2 : (evH (ev ad xs bS) ad aC σ.2.1).set q0 (ad o, .inr (ci, (fs.map (ev ad xs bS)).set k (ev ad xs bS v))) = evH (ev ad xs bS) ad aC (xhs σ.2.1 o (false, ci, fs.set k v)) := by
          rw [← hset (false, ci, fs.set k v), ← List.map_set]; rfl
        rcases hf with hf | ⟨hf, hi, hdecl⟩
        · refine va_put (own := own) (ref := (T k).1) (C := C) (T := T) (N := N) (ci := ci) (fs := fs.map (ev ad xs bS)) hx hb hts (hcw ci C T N hc) (xTy ci) hty hnm hown hK hP hD hS q0 hq hc k hkN (hts _ hw) (fun _ z => z) hf (ty := xTy ci k) (hty k hkN) hn hfit hlen hd (fun H1 locs1 p1 d1 s1 => ?_)
          rw [hset2] at p1 d1
          exact kk ad H1 locs1 (fun _ _ => rfl) (Nat.le_refl _) p1 d1 s1 hl
        · refine va_putF (own := own) (ref := (T k).1) (C := C) (T := T) (N := N) (ci := ci) (fs := fs.map (ev ad xs bS)) hx hb hts (hcw ci C T N hc) (xTy ci) hty hnm hown hK hP hD hS q0 hq hc k hkN (hts _ hw) (fun _ z => z) hf (hin hi) hdecl (ty := xTy ci k) (hty k hkN) hn hfit hlen hd (fun H1 locs1 p1 d1 s1 => ?_)
          rw [hset2] at p1 d1
          exact kk ad H1 locs1 (fun _ _ => rfl) (Nat.le_refl _) p1 d1 s1 hl
    · cases h
  · cases h
theorem xal_tail {n : Nat} {lv : XL} {v : Value} {r : List Value} {h : XH} (hh : xal n lv (v :: r) h = true) : xal n lv r h = true := by
  unfold xal at hh ⊢
  rw [Bool.and_eq_true, Bool.and_eq_true] at hh ⊢
  refine ⟨hh.1, ?_, hh.2.2⟩
  have h2 := hh.2.1
  unfold xoS at h2 ⊢
  rw [List.all_cons, Bool.and_eq_true] at h2
  exact h2.2
/-- one thing more, at a new address -/
theorem xnew_go {lv : XL} {r st' : List Value} {σ σ' : XS} {cl : XCl} {ns : Nat} (h : xnew R lv r σ cl ns = some (st', σ')) (hwf : xal σ.2.2.1 lv r σ.2.1 = true) (hdef : ∀ ad', evC (ev ad' xs bS) aC cl = evC (ev ad xs bS) aC cl) (hl : lv_has ls nL (evL (ev ad xs bS) lv))
    (kk : xgo p l e R s m args below meth c Q ad xs bS aC D A lv σ.2.2.1 pc ls st' σ' nL) :
    σ.2.2.2.1 + 1 ≤ R.cells ∧ σ.2.2.2.2 + ns ≤ R.slots ∧ ∀ (q : Nat) (H1 : Heap), va_P D classes (evH (ev ad xs bS) ad aC σ.2.1 ++ [(q, evC (ev ad xs bS) aC cl)]) H1 → va_D A (evH (ev ad xs bS) ad aC σ.2.1 ++ [(q, evC (ev ad xs bS) aC cl)]) → ∀ locs1, va_S A s.heap H1 locs1 →
      W p l e R s m args below meth c H1 locs1 (σ.2.2.2.1 + 1) (σ.2.2.2.2 + ns) Q (F0 m pc ls (.ref q :: evS (ev ad xs bS) r)) := by
  obtain ⟨pe, hh, n, ce, sl⟩ := σ
  unfold xnew at h
  dsimp only at h
  cases h1 : (Nat.ble (ce + 1) R.cells && Nat.ble (sl + ns) R.slots) with
  | false => rw [h1] at h; cases h
  | true =>
    rw [h1] at h
    simp only [Bool.and_eq_true] at h1
    obtain ⟨h3, h4⟩ := h1
    have h2 := hwf
    obtain ⟨rfl, rfl⟩ := Prod.mk.inj (Option.some.inj h)
    obtain ⟨oL, oS, oH⟩ := xal_spec h2
    refine ⟨Nat.le_of_ble_eq_true h3, Nat.le_of_ble_eq_true h4, fun q H1 hP hD locs1 hS => ?_⟩
    have ha : ∀ j, j < n → (fun j => if j = n then q else ad j) j = ad j := fun j hj => if_neg (Nat.ne_of_lt hj)
    have e1 : evH (ev (fun j => if j = n then q else ad j) xs bS) (fun j => if j = n then q else ad j) aC (hh ++ [(n, cl)]) = evH (ev ad xs bS) ad aC hh ++ [(q, evC (ev ad xs bS) aC cl)] := by
      have := xoH_ev (xs := xs) (bS := bS) (aC := aC) ha oH
      unfold evH at this ⊢
      rw [List.map_append, this]
      simp [hdef]
    have e2 : evS (ev (fun j => if j = n then q else ad j) xs bS) (.ref n :: r) = .ref q :: evS (ev ad xs bS) r := by
      have := xoS_ev (xs := xs) (bS := bS) ha oS
      unfold evS at this ⊢
      rw [List.map_cons, this]
      simp [ev]
    have := kk (fun j => if j = n then q else ad j) H1 locs1 ha (Nat.le_succ n) (by dsimp only; rw [e1]; exact hP) (by dsimp only; rw [e1]; exact hD) hS (by rw [xoL_ev ha oL]; exact hl)
    dsimp only at this
    rw [e2] at this
    exact this
theorem xcomp {ti n : Nat} (h : n ≤ 1000) : n * componentBytes (xty ti) ≤ 536870912 := by
  have : componentBytes (xty ti) ≤ 8 := by
    unfold xty
    split <;> decide
  calc n * componentBytes (xty ti) ≤ 1000 * 8 := Nat.mul_le_mul h this
    _ ≤ 536870912 := Nat.le_of_ble_eq_true rfl
theorem xw_newo (hx : p.tables.exec = Jvm.exec) (hb : c.code = cc) (hts : ∀ w ∈ Ts, w.before args s = true) (hcw : ∀ (ci : Nat) (C : String) (T : u_T) (N : Nat), classes[ci]? = some (C, T, N) → ∀ w ∈ u_ws C T N, w ∈ Ts) (hown : s.vm.findClass own = some m.cls) (hK : va_K D classes (xtys aC) s) (hA : ∀ q, s.heap.size ≤ q → A q)
    {idx : Nat} {aux : List Nat} {init : Bool} (hv : xvh Ts own init (.new idx) aux) {lv : XL} {st st' : List Value} {σ σ' : XS} (hwf : xal σ.2.2.1 lv st σ.2.1 = true) (h : xnewo R aux lv st σ = some (st', σ'))
    (hP : va_P D classes (evH (ev ad xs bS) ad aC σ.2.1) H) (hD : va_D A (evH (ev ad xs bS) ad aC σ.2.1)) (hS : va_S A s.heap H locs) (hl : lv_has ls nL (evL (ev ad xs bS) lv)) (hd : decode cc pc = .ok (.new idx, 3))
    (kk : xgo p l e R s m args below meth c Q ad xs bS aC D A lv σ.2.2.1 (pc + 3) ls st' σ' nL) : W p l e R s m args below meth c H locs σ.2.2.2.1 σ.2.2.2.2 Q (F0 m pc ls (evS (ev ad xs bS) st)) := by
  unfold xnewo at h
  split at h
  · rename_i ci t
    obtain ⟨C, T, N, hc, w1, w2, w3⟩ := hv ci t rfl
    obtain ⟨rfl, hty, hnm⟩ := xcls_ok hc
    have ed : ∀ ad2, evC (ev ad2 xs bS) aC (false, ci, xD ci) = .inr (ci, xD ci) := fun ad2 => by show Sum.inr (ci, (xD ci).map (ev ad2 xs bS)) = _; rw [xD_ev]
    obtain ⟨b1, b2, b3⟩ := xnew_go h hwf (fun ad' => (ed ad').trans (ed ad).symm) hl kk
    refine va_new (own := own) (C := C) (T := T) (ci := ci) (fs := xD ci) hx hb hts (hcw ci C T _ hc) (xTy ci) hty hown (hts _ w1) (hts _ w2) (hts _ w3) hK hP hD hS hA hc (fun j hj => xD_at hj) b1 b2 hd (fun q H1 hP1 hD1 hS1 => ?_)
    exact b3 q H1 (by rw [ed]; exact hP1) (by rw [ed]; exact hD1) locs hS1
  · cases h
theorem xw_newa (hx : p.tables.exec = Jvm.exec) (hb : c.code = cc) (hts : ∀ w ∈ Ts, w.before args s = true) (hown : s.vm.findClass own = some m.cls) (hK : va_K D classes (xtys aC) s) (hA : ∀ q, s.heap.size ≤ q → A q)
    {a : ArrayType} {aux : List Nat} {init : Bool} (hv : xvh Ts own init (.newarray a) aux) {lv : XL} {st st' : List Value} {σ σ' : XS} (hwf : xal σ.2.2.1 lv st σ.2.1 = true) (h : xnewa R aux lv st σ = some (st', σ'))
    (hP : va_P D classes (evH (ev ad xs bS) ad aC σ.2.1) H) (hD : va_D A (evH (ev ad xs bS) ad aC σ.2.1)) (hS : va_S A s.heap H locs) (hl : lv_has ls nL (evL (ev ad xs bS) lv)) (hd : decode cc pc = .ok (.newarray a, 2))
    (kk : xgo p l e R s m args below meth c Q ad xs bS aC D A lv σ.2.2.1 (pc + 2) ls st' σ' nL) : W p l e R s m args below meth c H locs σ.2.2.2.1 σ.2.2.2.2 Q (F0 m pc ls (evS (ev ad xs bS) st)) := by
  unfold xnewa at h
  split at h
  · rename_i ti t n r
    obtain ⟨ht2, hty, w1⟩ := hv ti t rfl
    cases h1 : decide (n < 0) with
    | true => rw [h1] at h; cases h
    | false =>
      rw [h1] at h
      cases h2 : Nat.ble n.toNatClampNeg 1000 with
      | false => rw [h2] at h; cases h
      | true =>
        rw [h2] at h
        have hn : ¬ n < 0 := of_decide_eq_false h1
        have hle := Nat.le_of_ble_eq_true h2
        have h : xnew R lv r σ (true, ti, List.replicate n.toNatClampNeg (xdv ti)) n.toNatClampNeg = some (st', σ') := h
        have ed : ∀ ad2, vp_cell (aC ti) (evA (ev ad2 xs bS) ti (List.replicate n.toNatClampNeg (xdv ti))) = arrV (aC ti) n.toNatClampNeg (fun _ => defaultValue (xty ti)) := fun ad2 => evA_rep _ _
        have ee : ∀ ad2, evC (ev ad2 xs bS) aC (true, ti, List.replicate n.toNatClampNeg (xdv ti)) = evC (ev ad xs bS) aC (true, ti, List.replicate n.toNatClampNeg (xdv ti)) := fun ad2 =>
          evC_congr (fun v hv => by rw [List.eq_of_mem_replicate hv]; unfold xdv; split <;> rfl) rfl rfl rfl
        obtain ⟨b1, b2, b3⟩ := xnew_go h (xal_tail hwf) ee hl kk
        refine va_newa (atype := a) (ty := xty ti) hx hb (hts _ w1) hty hK hP hD hS hA (a0 := evA (ev ad xs bS) ti (List.replicate n.toNatClampNeg (xdv ti))) (fun cA => evA_rep _ _) hn rfl (xcomp hle) b1 b2 hd (fun q cA H1 hK1 hP1 hD1 hS1 => ?_)
        have g1 : ((xtys aC) ++ [(cA, xty ti)])[ti]? = some (aC ti, xty ti) := by
          rw [List.getElem?_append_left (by show ti < 9; omega)]
          exact xtys_get aC (by omega)
        have g2 : ((xtys aC) ++ [(cA, xty ti)])[9]? = some (cA, xty ti) := rfl
        have ec : cA = aC ti := xRA_inj (hK1.2 _ _ g2).2 (hK1.2 _ _ g1).2
        subst ec
        exact b3 q H1 hP1 hD1 locs hS1
  · cases h
theorem xw_newq (hx : p.tables.exec = Jvm.exec) (hb : c.code = cc) (hts : ∀ w ∈ Ts, w.before args s = true) (hown : s.vm.findClass own = some m.cls) (hK : va_K D classes (xtys aC) s) (hA : ∀ q, s.heap.size ≤ q → A q) (hAO : ∀ ti C, ti ≤ 5 → xty ti = .object C → va_AO C s) (hAA : ∀ ty, (ty = .array .int ∨ ty = .array .boolean ∨ ty = .array (.array .int)) → (Jvm.Cond.arrayOver ty).before args s = true)
    {idx : Nat} {aux : List Nat} {init : Bool} (hv : xvh Ts own init (.anewarray idx) aux) {lv : XL} {st st' : List Value} {σ σ' : XS} (hwf : xal σ.2.2.1 lv st σ.2.1 = true) (h : xnewa R aux lv st σ = some (st', σ'))
    (hP : va_P D classes (evH (ev ad xs bS) ad aC σ.2.1) H) (hD : va_D A (evH (ev ad xs bS) ad aC σ.2.1)) (hS : va_S A s.heap H locs) (hl : lv_has ls nL (evL (ev ad xs bS) lv)) (hd : decode cc pc = .ok (.anewarray idx, 3))
    (kk : xgo p l e R s m args below meth c Q ad xs bS aC D A lv σ.2.2.1 (pc + 3) ls st' σ' nL) : W p l e R s m args below meth c H locs σ.2.2.2.1 σ.2.2.2.2 Q (F0 m pc ls (evS (ev ad xs bS) st)) := by
  unfold xnewa at h
  split at h
  · rename_i ti t n r
    cases h1 : decide (n < 0) with
    | true => rw [h1] at h; cases h
    | false =>
      rw [h1] at h
      cases h2 : Nat.ble n.toNatClampNeg 1000 with
      | false => rw [h2] at h; cases h
      | true =>
        rw [h2] at h
        have hn : ¬ n < 0 := of_decide_eq_false h1
        have hle := Nat.le_of_ble_eq_true h2
        have h : xnew R lv r σ (true, ti, List.replicate n.toNatClampNeg (xdv ti)) n.toNatClampNeg = some (st', σ') := h
        have ht3 : 3 ≤ ti := by
          rcases hv ti t rfl with ⟨a, -⟩ | ⟨a, -⟩ <;> omega
        have ed : ∀ ad2, evC (ev ad2 xs bS) aC (true, ti, List.replicate n.toNatClampNeg (xdv ti)) = .inl (aC ti, n.toNatClampNeg, .inr (.inr (.inr (.inr (fun _ => none))))) := fun ad2 => by
          show Sum.inl (aC ti, evA (ev ad2 xs bS) ti _) = _
          rw [evA_repq ht3]
        obtain ⟨b1, b2, b3⟩ := xnew_go h (xal_tail hwf) (fun ad' => (ed ad').trans (ed ad).symm) hl kk
        rcases hv ti t rfl with ⟨-, ht5, C, hC, w1⟩ | ⟨rfl, w1⟩
        · refine va_newq (own := own) (C := C) hx hb hown (hts _ w1) (hAO ti C ht5 hC) hK hP hD hS hA hn rfl (by omega) b1 b2 hd (fun q cA H1 hK1 hP1 hD1 hS1 => ?_)
          have g1 : ((xtys aC) ++ [(cA, FieldType.object C)])[ti]? = some (aC ti, .object C) := by
            rw [List.getElem?_append_left (by show ti < 9; omega), xtys_get aC (by omega), hC]
          have g2 : ((xtys aC) ++ [(cA, FieldType.object C)])[9]? = some (cA, .object C) := rfl
          have ec : cA = aC ti := xRA_inj (hK1.2 _ _ g2).2 (hK1.2 _ _ g1).2
          subst ec
          exact b3 q H1 (by rw [ed]; exact hP1) (by rw [ed]; exact hD1) locs hS1
        · refine W.anewA (own := own) (t := .int) hx hb hown (hts _ w1) (hAA _ (Or.inl rfl)) rfl hd rfl hn (by omega) b1 b2 (fun cA kA comp f1 f2 f3 f4 => ?_)
          have ec : cA = aC 6 := xRA_inj (ty := .array .int) f1 (hK.2 6 _ (xtys_get aC (by omega))).2
          subst ec
          generalize hH1 : H.push ({ cls := aC 6, slots := Array.replicate n.toNatClampNeg .null, vm := .none } : Cell) = H1
          have z1 : H1.size = H.size + 1 := by rw [← hH1, Array.size_push]
          have e1 : H1[H.size]? = some (arrV (aC 6) n.toNatClampNeg (fun _ => .null)) := by rw [← hH1, Array.getElem?_push_size, ← arrV_new]
          have o1 : ∀ q : Nat, q < H.size → H1[q]? = H[q]? := fun q hq => by rw [← hH1, Array.getElem?_push, if_neg (Nat.ne_of_lt hq)]
          have hk : ∀ (k : Nat) (x : Nat × va_E), (evH (ev ad xs bS) ad aC σ.2.1)[k]? = some x → H1[x.1]? = H[x.1]? := fun k x hx => o1 x.1 ((hP k x hx).lt)
          refine b3 H.size H1 ((hP.kept hk).app (fun k x hx => ?_)) (hD.push hP rfl (hA _ hS.1)) locs ⟨Nat.le_trans hS.1 (by omega), fun x h1 h2 => (o1 x (Nat.lt_of_lt_of_le h1 hS.1)).trans (hS.2.1 x h1 h2), hS.2.2⟩
          have hz : k < 1 := (List.getElem?_eq_some_iff.mp hx).1
          rw [show k = 0 by omega] at hx
          cases hx
          rw [ed]
          show H1[H.size]? = some (vp_cell _ _)
          rw [vp_cell_q]
          exact e1
  · cases h
end XM
end
section
section XO
variable {p : Program} {l : Launch} {e : Env} {R : Room} {s : State} {m : MethodId} {args : Array Value} {below : List Frame} {meth : Method} {c : Code} {H : Heap} {locs : List Loc} {Q : State → Prop}
variable {cc : ByteArray} {pc nL : Nat} {ls : Array Slot} {ad : Nat → Nat} {xs : Nat → Int32} {bS : Nat} {aC : Nat → ClassId} {D : va_G} {A : Nat → Prop} {own : String} {Ts : List Jvm.Cond}
theorem xrefw_at (w : Nat) : ∀ (N n j : Nat), j < N → (xrefw n w N)[j]? = some (.ref (n + j * w))
  | 0, n, j, h => by omega
  | N + 1, n, 0, _ => by simp [xrefw]
  | N + 1, n, j + 1, h => by
    show (xrefw (n + w) w N)[j]? = _
    rw [xrefw_at w N (n + w) j (by omega)]
    exact congrArg (fun z : Nat => some (Value.ref z)) (show (n + w + j * w : Nat) = n + (j + 1) * w by rw [Nat.succ_mul]; omega)
theorem xrefw_len (w : Nat) : ∀ (N n : Nat), (xrefw n w N).length = N
  | 0, _ => rfl
  | N + 1, n => by show (xrefw (n + w) w N).length + 1 = _; rw [xrefw_len w N]
theorem xrows_at (c : XCl) : ∀ (N n j : Nat), j < N → (xrows n c N)[j]? = some (n + j, c)
  | 0, n, j, h => by omega
  | N + 1, n, 0, _ => by simp [xrows]
  | N + 1, n, j + 1, h => by
    show (xrows (n + 1) c N)[j]? = _
    rw [xrows_at c N (n + 1) j (by omega)]
    exact congrArg (fun z => some (z, c)) (by omega)
theorem xrows_len (c : XCl) : ∀ (N n : Nat), (xrows n c N).length = N
  | 0, _ => rfl
  | N + 1, n => by show (xrows (n + 1) c N).length + 1 = _; rw [xrows_len c N]
theorem xgrid_len (M : Nat) : ∀ (N n : Nat), (xgrid n M N).length = N * (1 + M)
  | 0, _ => by simp [xgrid]
  | N + 1, n => by
    show (((n, (true, 6, xrefw (n + 1) 1 M)) :: xrows (n + 1) (true, 0, []) M) ++ xgrid (n + (1 + M)) M N).length = _
    rw [List.length_append, List.length_cons, xrows_len, xgrid_len M N, Nat.succ_mul]
    omega
/-- what stands at a place of the grid -/
theorem xgrid_at (M : Nat) : ∀ (N n j q : Nat), j < N → q ≤ M → (xgrid n M N)[j * (1 + M) + q]? = some (n + (j * (1 + M) + q), if q = 0 then (true, 6, xrefw (n + j * (1 + M) + 1) 1 M) else (true, 0, []))
  | 0, n, j, q, h, _ => by omega
  | N + 1, n, 0, q, _, hq => by
    show (((n, (true, 6, xrefw (n + 1) 1 M)) :: xrows (n + 1) (true, 0, []) M) ++ xgrid (n + (1 + M)) M N)[0 * (1 + M) + q]? = _
    rw [Nat.zero_mul, Nat.zero_add, List.getElem?_append_left (by rw [List.length_cons, xrows_len]; omega)]
    cases q with
    | zero => simp
    | succ q =>
      show (xrows (n + 1) (true, 0, []) M)[q]? = _
      rw [xrows_at _ M (n + 1) q (by omega), if_neg (by omega)]
      exact congrArg (fun z => some (z, ((true, 0, []) : XCl))) (by omega)
  | N + 1, n, j + 1, q, h, hq => by
    show (((n, (true, 6, xrefw (n + 1) 1 M)) :: xrows (n + 1) (true, 0, []) M) ++ xgrid (n + (1 + M)) M N)[(j + 1) * (1 + M) + q]? = _
    have hl : ((n, ((true, 6, xrefw (n + 1) 1 M) : XCl)) :: xrows (n + 1) (true, 0, []) M).length = 1 + M := by rw [List.length_cons, xrows_len]; omega
    have e1 : (j + 1) * (1 + M) + q - (1 + M) = j * (1 + M) + q := by rw [Nat.succ_mul]; omega
    have e2 : 1 + M ≤ (j + 1) * (1 + M) + q := by rw [Nat.succ_mul]; omega
    rw [List.getElem?_append_right (by rw [hl]; exact e2), hl, e1, xgrid_at M N (n + (1 + M)) j q (by omega) hq]
    have e3 : n + (1 + M) + (j * (1 + M) + q) = n + ((j + 1) * (1 + M) + q) := by rw [Nat.succ_mul]; omega
    have e4 : n + (1 + M) + j * (1 + M) + 1 = n + (j + 1) * (1 + M) + 1 := by rw [Nat.succ_mul]; omega
    rw [e3, e4]
/-- things more, one behind another -/
theorem xadd {ws : va_W} {H1 : Heap} {new : XH} {n : Nat} {ad' : Nat → Nat} {E : Value → Value} (hP : va_P D classes ws H) (hD : va_D A ws) (hold : ∀ x : Nat, x < H.size → H1[x]? = H[x]?) (hA : ∀ q, H.size ≤ q → A q)
    (hc : ∀ (i : Nat) (q : Nat × XCl), new[i]? = some q → q.1 = n + i) (ha : ∀ i, ad' (n + i) = H.size + i) (hat : ∀ (i : Nat) (q : Nat × XCl), new[i]? = some q → va_at D classes (H.size + i, evC E aC q.2) H1) :
    va_P D classes (ws ++ evH E ad' aC new) H1 ∧ va_D A (ws ++ evH E ad' aC new) := by
  have hg : ∀ (k : Nat) (x : Nat × va_E), (evH E ad' aC new)[k]? = some x → ∃ q, new[k]? = some q ∧ x = (H.size + k, evC E aC q.2) := by
    intro k x hx
    unfold evH at hx
    rw [List.getElem?_map] at hx
    cases hn : new[k]? with
    | none => rw [hn] at hx; cases hx
    | some q =>
      rw [hn] at hx
      refine ⟨q, rfl, ?_⟩
      have := Option.some.inj hx
      rw [← this]
      show (ad' q.1, evC E aC q.2) = _
      rw [hc k q hn, ha]
  refine ⟨(hP.kept (fun k x hx => hold x.1 ((hP k x hx).lt))).app (fun k x hx => ?_), hD.app ⟨fun i j p9 q9 hp hq he => ?_, fun k x hx => ?_⟩ (fun i j p9 q9 hp hq => ?_)⟩
  · obtain ⟨q, hq, rfl⟩ := hg k x hx
    exact hat k q hq
  · obtain ⟨a, -, rfl⟩ := hg i p9 hp
    obtain ⟨b, -, rfl⟩ := hg j q9 hq
    have he : H.size + i = H.size + j := he
    omega
  · obtain ⟨q, -, rfl⟩ := hg k x hx
    exact hA _ (Nat.le_add_right _ _)
  · obtain ⟨b, -, rfl⟩ := hg j q9 hq
    have h1 := (hP i p9 hp).lt
    show p9.1 ≠ H.size + j
    omega
theorem xouter (c : ClassId) (N h0 w : Nat) : ∀ i : Nat, xg_out c N h0 w i = arrV c N (fun j => va_rf (if j < i then some (h0 + 1 + j * w) else none))
  | 0 => by
    show ({ cls := c, slots := Array.replicate N .null, vm := .none } : Cell) = _
    rw [arrV_new]
    refine congrArg (arrV c N) (funext fun j => ?_)
    simp [va_rf]
  | i + 1 => by
    show (xg_out c N h0 w i).setSlot i (.ref (h0 + 1 + i * w)) = _
    rw [xouter c N h0 w i, arrV_store]
    refine congrArg (arrV c N) (funext fun j => ?_)
    by_cases e : j = i
    · subst e
      simp [updV, va_rf]
    · by_cases h : j < i
      · simp [updV, e, h, Nat.lt_succ_of_lt h]
      · simp [updV, e, h, show ¬ j < i + 1 by omega]
theorem xouter1 (c : ClassId) (N h0 : Nat) : ∀ i : Nat, Jvm.Free.Multi.outerC c N h0 i = arrV c N (fun j => va_rf (if j < i then some (h0 + 1 + j * 1) else none))
  | 0 => by
    show ({ cls := c, slots := Array.replicate N .null, vm := .none } : Cell) = _
    rw [arrV_new]
    refine congrArg (arrV c N) (funext fun j => ?_)
    simp [va_rf]
  | i + 1 => by
    show (Jvm.Free.Multi.outerC c N h0 i).setSlot i (.ref (h0 + 1 + i)) = _
    rw [xouter1 c N h0 i, arrV_store]
    refine congrArg (arrV c N) (funext fun j => ?_)
    by_cases e : j = i
    · subst e
      simp [updV, va_rf]
    · by_cases h : j < i
      · simp [updV, e, h, Nat.lt_succ_of_lt h]
      · simp [updV, e, h, show ¬ j < i + 1 by omega]
/-- an array of references to things one behind another -/
theorem xrefw_cell {ad' : Nat → Nat} {n w N to B : Nat} (ht : 3 ≤ to) (ha : ∀ j, j < N → ad' (n + j * w) = B + j * w) (c : ClassId) : vp_cell c (evA (ev ad' xs bS) to (xrefw n w N)) = arrV c N (fun j => va_rf (if j < N then some (B + j * w) else none)) := by
  have hA9 : evA (ev ad' xs bS) to (xrefw n w N) = ((xrefw n w N).length, .inr (.inr (.inr (.inr (fun j => evR (ev ad' xs bS ((xrefw n w N).getD j .null))))))) := by
    match to, ht with
    | k + 3, _ => rfl
  rw [hA9, vp_cell_q, xrefw_len]
  refine congrArg (arrV c N) (funext fun j => ?_)
  by_cases h : j < N
  · rw [if_pos h, getD_at (xrefw_at w N n j h)]
    show va_rf (some (ad' (n + j * w))) = _
    rw [ha j h]
  · rw [if_neg h, List.getD_eq_getElem?_getD, List.getElem?_eq_none (by rw [xrefw_len]; omega)]
    rfl
theorem xarrC {t : FieldType} (h : (Jvm.Cond.arrayOver (.array t)).before args s = true) : (Jvm.Cond.arrayClass (.array t)).before args s = true := by
  obtain ⟨comp, c9, k, h1, h2, h3, h4⟩ := Cond.arrayOver_specA h
  simp [Cond.before, Cond.holds, Cond.value, h4, h2, h3]
/-- the addresses of things one behind another -/
def xbeh (ad : Nat → Nat) (n B : Nat) (j : Nat) : Nat := if j < n then ad j else B + (j - n)
theorem xbeh_lt {ad : Nat → Nat} {n B j : Nat} (h : j < n) : xbeh ad n B j = ad j := if_pos h
theorem xbeh_at {ad : Nat → Nat} {n B i : Nat} : xbeh ad n B (n + i) = B + i := by
  unfold xbeh
  rw [if_neg (by omega), Nat.add_sub_cancel_left]
theorem xw_m2 (hx : p.tables.exec = Jvm.exec) (hb : c.code = cc) (hts : ∀ w ∈ Ts, w.before args s = true) (hown : s.vm.findClass own = some m.cls) (hK : va_K D classes (xtys aC) s) (hA : ∀ q, s.heap.size ≤ q → A q) (hAA : ∀ ty, (ty = .array .int ∨ ty = .array .boolean ∨ ty = .array (.array .int)) → (Jvm.Cond.arrayOver ty).before args s = true)
    {idx : Nat} {aux : List Nat} {init : Bool} (hv : xvh Ts own init (.multianewarray idx 2) aux) {lv : XL} {st st' : List Value} {σ σ' : XS} (hwf : xal σ.2.2.1 lv st σ.2.1 = true) (h : xnewm2 R aux st σ = some (st', σ'))
    (hP : va_P D classes (evH (ev ad xs bS) ad aC σ.2.1) H) (hD : va_D A (evH (ev ad xs bS) ad aC σ.2.1)) (hS : va_S A s.heap H locs) (hl : lv_has ls nL (evL (ev ad xs bS) lv)) (hd : decode cc pc = .ok (.multianewarray idx 2, 4))
    (kk : xgo p l e R s m args below meth c Q ad xs bS aC D A lv σ.2.2.1 (pc + 4) ls st' σ' nL) : W p l e R s m args below meth c H locs σ.2.2.2.1 σ.2.2.2.2 Q (F0 m pc ls (evS (ev ad xs bS) st)) := by
  unfold xnewm2 at h
  split at h
  · rename_i to ti tl k n9 r pe hh n ce sl
    cases h1 : (decide (k < 0) || decide (n9 < 0)) with
    | true => rw [h1] at h; cases h
    | false =>
      rw [h1] at h
      simp only [cond_false] at h
      cases h2 : (Nat.ble k.toNatClampNeg 1000 && (Nat.ble n9.toNatClampNeg 1000 && (Nat.ble (ce + (1 + n9.toNatClampNeg)) R.cells && Nat.ble (sl + (n9.toNatClampNeg + n9.toNatClampNeg * k.toNatClampNeg)) R.slots))) with
      | false => rw [h2] at h; cases h
      | true =>
        rw [h2] at h
        rw [Bool.or_eq_false_iff] at h1
        simp only [Bool.and_eq_true] at h2
        have hk : ¬ k < 0 := of_decide_eq_false h1.1
        have hn : ¬ n9 < 0 := of_decide_eq_false h1.2
        have lk := Nat.le_of_ble_eq_true h2.1
        have ln := Nat.le_of_ble_eq_true h2.2.1
        have lc := Nat.le_of_ble_eq_true h2.2.2.1
        have lS := Nat.le_of_ble_eq_true h2.2.2.2
        obtain ⟨rfl, rfl⟩ := Prod.mk.inj (Option.some.inj h)
        have hwf := xal_tail (xal_tail hwf)
        obtain ⟨oL, oS, oH⟩ := xal_spec hwf
        have hag : ∀ j, j < n → xbeh ad n H.size j = ad j := fun j hj => xbeh_lt hj
        have hag2 : ∀ j, j < n → (xbeh ad n H.size) j = ad j := hag
        have main : ∀ ty : FieldType, 3 ≤ to → to ≤ 8 → ti ≤ 8 → xty to = .array ty → xty ti = ty → (FieldType.array ty).toString = "[" ++ ty.toString → (∀ c9 : ClassId, s.vm.findClass ("[" ++ ty.toString) = some c9 → va_RA s c9 ty) → (Jvm.Cond.classLink own idx ("[" ++ (FieldType.array ty).toString)).before args s = true → (Jvm.Cond.arrayOver (.array ty)).before args s = true → (Jvm.Cond.arrayClass ty).before args s = true → componentBytes ty ≤ 8 → fits ty (defaultValue ty) = true → (defaultValue ty).isDefault = true →
            W p l e R s m args below meth c H locs ce sl Q (F0 m pc ls (.int k :: .int n9 :: evS (ev ad xs bS) r)) := by
          intro ty t3 t8 u8 hto hti hstr hra hcl hov har hcb hdf hdd
          refine xg_m2 (own := own) (ty := ty) hx hb hown hcl hov har hn hk (by omega) (Nat.le_trans (Nat.mul_le_mul lk hcb) (Nat.le_of_ble_eq_true rfl)) (by omega) hdf hdd lc lS hd (fun H1 cA cB z1 hold fA fB hout hrow => ?_)
          have eA : cA = aC to := xRA_inj (ty := .array ty) fA (by have := (hK.2 to _ (xtys_get aC t8)).2; rw [hto] at this; exact this)
          subst eA
          have eB : cB = aC ti := xRA_inj (ty := ty) (hra cB (by rw [← hstr]; exact fB)) (by have := (hK.2 ti _ (xtys_get aC u8)).2; rw [hti] at this; exact this)
          subst eB
          have hat : ∀ (i : Nat) (q : Nat × XCl), ((n, ((true, to, xrefw (n + 1) 1 n9.toNatClampNeg) : XCl)) :: xrows (n + 1) (true, ti, List.replicate k.toNatClampNeg (xdv ti)) n9.toNatClampNeg)[i]? = some q → q.1 = n + i ∧ va_at D classes (H.size + i, evC (ev (xbeh ad n H.size) xs bS) aC q.2) H1 := by
            intro i q hq
            cases i with
            | zero =>
              cases hq
              refine ⟨rfl, ?_⟩
              show H1[H.size + 0]? = some (vp_cell (aC to) (evA (ev (xbeh ad n H.size) xs bS) to (xrefw (n + 1) 1 n9.toNatClampNeg)))
              rw [Nat.add_zero, hout, xouter1, xrefw_cell t3 (B := H.size + 1) (fun j _ => ?_)]
              rw [show n + 1 + j * 1 = n + (1 + j * 1) by omega, xbeh_at]
              omega
            | succ i =>
              have hi : i < n9.toNatClampNeg := by
                have := (List.getElem?_eq_some_iff.mp hq).1
                rw [List.length_cons, xrows_len] at this
                omega
              have hq : (xrows (n + 1) (true, ti, List.replicate k.toNatClampNeg (xdv ti)) n9.toNatClampNeg)[i]? = some q := hq
              rw [xrows_at _ _ _ _ hi] at hq
              cases hq
              refine ⟨by show n + 1 + i = n + (i + 1); omega, ?_⟩
              show H1[H.size + (i + 1)]? = some (vp_cell (aC ti) (evA (ev (xbeh ad n H.size) xs bS) ti (List.replicate k.toNatClampNeg (xdv ti))))
              rw [show H.size + (i + 1) = H.size + 1 + i by omega, hrow i hi, evA_rep, hti]
              show some ({ cls := aC ti, slots := Array.replicate k.toNatClampNeg (defaultValue ty), vm := .none } : Cell) = _
              rw [arrV_new]
          obtain ⟨p1, d1⟩ := xadd (aC := aC) (ad' := xbeh ad n H.size) (E := ev (xbeh ad n H.size) xs bS) (n := n) hP hD hold (fun q hq => hA q (Nat.le_trans hS.1 hq)) (fun i q hq => (hat i q hq).1) (fun i => xbeh_at) (fun i q hq => (hat i q hq).2)
          have e1 : ∀ new : XH, evH (ev (xbeh ad n H.size) xs bS) (xbeh ad n H.size) aC (hh ++ new) = evH (ev ad xs bS) ad aC hh ++ evH (ev (xbeh ad n H.size) xs bS) (xbeh ad n H.size) aC new := fun new => by
            have := xoH_ev (xs := xs) (bS := bS) (aC := aC) hag oH
            unfold evH at this ⊢
            rw [List.map_append, this]
          have e2 : evS (ev (xbeh ad n H.size) xs bS) (.ref n :: r) = .ref H.size :: evS (ev ad xs bS) r := by
            have := xoS_ev (xs := xs) (bS := bS) hag oS
            unfold evS at this ⊢
            rw [List.map_cons, this]
            show Value.ref (xbeh ad n H.size (n + 0)) :: _ = _
            rw [xbeh_at]; rfl
          have hk9 := kk (xbeh ad n H.size) H1 locs hag (by show n ≤ n + 1 + n9.toNatClampNeg; omega) (by dsimp only; rw [e1]; exact p1) (by dsimp only; rw [e1]; exact d1) ⟨Nat.le_trans hS.1 z1, fun x h1 h2 => (hold x (Nat.lt_of_lt_of_le h1 hS.1)).trans (hS.2.1 x h1 h2), hS.2.2⟩ (by rw [xoL_ev hag oL]; exact hl)
          dsimp only at hk9
          rw [e2, ← Nat.add_assoc, ← Nat.add_assoc] at hk9
          exact hk9
        rcases hv.1 rfl to ti tl rfl with ⟨rfl, rfl, w1, w2⟩ | ⟨rfl, rfl, w1, w2⟩ | ⟨rfl, rfl, w2⟩
        · exact main .int (by omega) (by omega) (by omega) rfl rfl (by decide +kernel) (fun _ h9 => h9) (by rw [show "[" ++ (FieldType.array .int).toString = "[[I" by decide +kernel]; exact hts _ w2) (hAA _ (Or.inl rfl)) (hts _ w1) (by decide) rfl rfl
        · exact main .boolean (by omega) (by omega) (by omega) rfl rfl (by decide +kernel) (fun _ h9 => h9) (by rw [show "[" ++ (FieldType.array .boolean).toString = "[[Z" by decide +kernel]; exact hts _ w2) (hAA _ (Or.inr (Or.inl rfl))) (hts _ w1) (by decide) rfl rfl
        · exact main (.array .int) (by omega) (by omega) (by omega) rfl rfl (by decide +kernel) (fun _ h9 => h9) (by rw [show "[" ++ (FieldType.array (.array .int)).toString = "[[[I" by decide +kernel]; exact hts _ w2) (hAA _ (Or.inr (Or.inr rfl))) (xarrC (hAA _ (Or.inl rfl))) (by decide) rfl rfl
  · cases h
theorem xw_m3 (hx : p.tables.exec = Jvm.exec) (hb : c.code = cc) (hts : ∀ w ∈ Ts, w.before args s = true) (hown : s.vm.findClass own = some m.cls) (hK : va_K D classes (xtys aC) s) (hA : ∀ q, s.heap.size ≤ q → A q) (hAA : ∀ ty, (ty = .array .int ∨ ty = .array .boolean ∨ ty = .array (.array .int)) → (Jvm.Cond.arrayOver ty).before args s = true)
    {idx : Nat} {aux : List Nat} {init : Bool} (hv : xvh Ts own init (.multianewarray idx 3) aux) {lv : XL} {st st' : List Value} {σ σ' : XS} (hwf : xal σ.2.2.1 lv st σ.2.1 = true) (h : xnewm3 R st σ = some (st', σ'))
    (hP : va_P D classes (evH (ev ad xs bS) ad aC σ.2.1) H) (hD : va_D A (evH (ev ad xs bS) ad aC σ.2.1)) (hS : va_S A s.heap H locs) (hl : lv_has ls nL (evL (ev ad xs bS) lv)) (hd : decode cc pc = .ok (.multianewarray idx 3, 4))
    (kk : xgo p l e R s m args below meth c Q ad xs bS aC D A lv σ.2.2.1 (pc + 4) ls st' σ' nL) : W p l e R s m args below meth c H locs σ.2.2.2.1 σ.2.2.2.2 Q (F0 m pc ls (evS (ev ad xs bS) st)) := by
  unfold xnewm3 at h
  split at h
  · rename_i z k n9 r pe hh n ce sl
    cases h2 : (decide (z = 0) && (!decide (k < 0) && (!decide (n9 < 0) && (Nat.ble k.toNatClampNeg 1000 && (Nat.ble n9.toNatClampNeg 1000 && (Nat.ble (ce + (1 + n9.toNatClampNeg * (1 + k.toNatClampNeg))) R.cells && Nat.ble (sl + (n9.toNatClampNeg + n9.toNatClampNeg * k.toNatClampNeg)) R.slots)))))) with
    | false => rw [h2] at h; cases h
    | true =>
      rw [h2] at h
      simp only [Bool.and_eq_true, decide_eq_true_eq, Bool.not_eq_true', decide_eq_false_iff_not] at h2
      obtain ⟨rfl, hk, hn, lk, ln, lc, lS⟩ := h2
      have lk := Nat.le_of_ble_eq_true lk
      have ln := Nat.le_of_ble_eq_true ln
      have lc := Nat.le_of_ble_eq_true lc
      have lS := Nat.le_of_ble_eq_true lS
      obtain ⟨rfl, rfl⟩ := Prod.mk.inj (Option.some.inj h)
      have hwf := xal_tail (xal_tail (xal_tail hwf))
      obtain ⟨oL, oS, oH⟩ := xal_spec hwf
      have hag : ∀ j, j < n → xbeh ad n H.size j = ad j := fun j hj => xbeh_lt hj
      obtain ⟨w1, w2⟩ := hv.2 rfl
      have h0 : (0 : Int32).toNatClampNeg = 0 := by decide
      refine xg_m3 (own := own) (ty := .int) hx hb hown (by rw [show "[" ++ (FieldType.array (.array .int)).toString = "[[[I" by decide +kernel]; exact hts _ w2) (hAA _ (Or.inr (Or.inr rfl))) (hAA _ (Or.inl rfl)) (hts _ w1) (by decide +kernel) hn hk (by decide) (by omega) (by omega) (by rw [h0]; decide) (by rw [h0]; decide) rfl rfl lc (by rw [h0, Nat.mul_zero, Nat.add_zero]; exact lS) hd (fun H1 cA cB cD z1 hold fA fB fD hout hmid => ?_)
      have eA : cA = aC 8 := xRA_inj (ty := .array (.array .int)) fA (hK.2 8 _ (xtys_get aC (by omega))).2
      have eB : cB = aC 6 := xRA_inj (ty := .array .int) fB (hK.2 6 _ (xtys_get aC (by omega))).2
      have eD : cD = aC 0 := xRA_inj (ty := .int) fD (hK.2 0 _ (xtys_get aC (by omega))).2
      subst eA; subst eB; subst eD
      have hat : ∀ (i : Nat) (q : Nat × XCl), ((n, ((true, 8, xrefw (n + 1) (1 + k.toNatClampNeg) n9.toNatClampNeg) : XCl)) :: xgrid (n + 1) k.toNatClampNeg n9.toNatClampNeg)[i]? = some q → q.1 = n + i ∧ va_at D classes (H.size + i, evC (ev (xbeh ad n H.size) xs bS) aC q.2) H1 := by
        intro i q hq
        cases i with
        | zero =>
          cases hq
          refine ⟨rfl, ?_⟩
          show H1[H.size + 0]? = some (vp_cell (aC 8) (evA (ev (xbeh ad n H.size) xs bS) 8 (xrefw (n + 1) (1 + k.toNatClampNeg) n9.toNatClampNeg)))
          rw [Nat.add_zero, hout, xouter, xrefw_cell (by omega) (B := H.size + 1) (fun j _ => ?_)]
          rw [show n + 1 + j * (1 + k.toNatClampNeg) = n + (1 + j * (1 + k.toNatClampNeg)) by omega, xbeh_at]
          omega
        | succ i =>
          have hi : i < n9.toNatClampNeg * (1 + k.toNatClampNeg) := by
            have := (List.getElem?_eq_some_iff.mp hq).1
            rw [List.length_cons, xgrid_len] at this
            omega
          have hq : (xgrid (n + 1) k.toNatClampNeg n9.toNatClampNeg)[i]? = some q := hq
          have hdm := Nat.div_add_mod i (1 + k.toNatClampNeg)
          have hml := Nat.mod_lt i (show 0 < 1 + k.toNatClampNeg by omega)
          have hdl : i / (1 + k.toNatClampNeg) < n9.toNatClampNeg := by
            rw [Nat.div_lt_iff_lt_mul (by omega)]
            exact hi
          rw [Nat.mul_comm] at hdm
          generalize i / (1 + k.toNatClampNeg) = j at hdm hdl
          generalize i % (1 + k.toNatClampNeg) = x at hdm hml
          subst hdm
          rw [xgrid_at _ _ _ _ _ hdl (by omega)] at hq
          obtain ⟨g1, g2⟩ := hmid j hdl
          by_cases hx0 : x = 0
          · subst hx0
            rw [if_pos rfl] at hq
            cases hq
            refine ⟨by show n + 1 + (j * (1 + k.toNatClampNeg) + 0) = n + (j * (1 + k.toNatClampNeg) + 0 + 1); omega, ?_⟩
            show H1[H.size + (j * (1 + k.toNatClampNeg) + 0 + 1)]? = some (vp_cell (aC 6) (evA (ev (xbeh ad n H.size) xs bS) 6 (xrefw (n + 1 + j * (1 + k.toNatClampNeg) + 1) 1 k.toNatClampNeg)))
            rw [show H.size + (j * (1 + k.toNatClampNeg) + 0 + 1) = H.size + 1 + j * (1 + k.toNatClampNeg) by omega, g1, xouter1, xrefw_cell (by omega) (B := H.size + 1 + j * (1 + k.toNatClampNeg) + 1) (fun j2 _ => ?_)]
            rw [show n + 1 + j * (1 + k.toNatClampNeg) + 1 + j2 * 1 = n + (1 + j * (1 + k.toNatClampNeg) + 1 + j2 * 1) by omega, xbeh_at]
            omega
          · rw [if_neg hx0] at hq
            cases hq
            refine ⟨by show n + 1 + (j * (1 + k.toNatClampNeg) + x) = n + (j * (1 + k.toNatClampNeg) + x + 1); omega, ?_⟩
            show H1[H.size + (j * (1 + k.toNatClampNeg) + x + 1)]? = some (vp_cell (aC 0) (evA (ev (xbeh ad n H.size) xs bS) 0 []))
            rw [show H.size + (j * (1 + k.toNatClampNeg) + x + 1) = H.size + 1 + j * (1 + k.toNatClampNeg) + 1 + (x - 1) by omega, g2 (x - 1) (by omega)]
            have e9 := evA_rep (ad := xbeh ad n H.size) (xs := xs) (bS := bS) (ti := 0) 0 (aC 0)
            rw [show (List.replicate 0 (xdv 0) : List Value) = [] from rfl] at e9
            rw [e9]
            show some ({ cls := aC 0, slots := Array.replicate (0 : Int32).toNatClampNeg (defaultValue .int), vm := .none } : Cell) = _
            rw [arrV_new]
            rfl
      obtain ⟨p1, d1⟩ := xadd (aC := aC) (ad' := xbeh ad n H.size) (E := ev (xbeh ad n H.size) xs bS) (n := n) hP hD hold (fun q hq => hA q (Nat.le_trans hS.1 hq)) (fun i q hq => (hat i q hq).1) (fun i => xbeh_at) (fun i q hq => (hat i q hq).2)
      have e1 : ∀ new : XH, evH (ev (xbeh ad n H.size) xs bS) (xbeh ad n H.size) aC (hh ++ new) = evH (ev ad xs bS) ad aC hh ++ evH (ev (xbeh ad n H.size) xs bS) (xbeh ad n H.size) aC new := fun new => by
        have := xoH_ev (xs := xs) (bS := bS) (aC := aC) hag oH
        unfold evH at this ⊢
        rw [List.map_append, this]
      have e2 : evS (ev (xbeh ad n H.size) xs bS) (.ref n :: r) = .ref H.size :: evS (ev ad xs bS) r := by
        have := xoS_ev (xs := xs) (bS := bS) hag oS
        unfold evS at this ⊢
        rw [List.map_cons, this]
        show Value.ref (xbeh ad n H.size (n + 0)) :: _ = _
        rw [xbeh_at]; rfl
      have hk9 := kk (xbeh ad n H.size) H1 locs hag (by show n ≤ n + 1 + n9.toNatClampNeg * (1 + k.toNatClampNeg); omega) (by dsimp only; rw [e1]; exact p1) (by dsimp only; rw [e1]; exact d1) ⟨Nat.le_trans hS.1 z1, fun x h1 h2 => (hold x (Nat.lt_of_lt_of_le h1 hS.1)).trans (hS.2.1 x h1 h2), hS.2.2⟩ (by rw [xoL_ev hag oL]; exact hl)
      dsimp only at hk9
      rw [e2, ← Nat.add_assoc, ← Nat.add_assoc] at hk9
      rw [h0, Nat.mul_zero, Nat.add_zero]
      exact hk9
  · cases h
theorem xw_len (hx : p.tables.exec = Jvm.exec) (hb : c.code = cc) (hK : va_K D classes (xtys aC) s) {scr : Option (Nat × (Nat → Int32))} (hX : ∀ L ys, scr = some (L, ys) → ys = xs ∧ va_X bS L xs s s.heap ∧ bS < s.heap.size ∧ ¬ A bS)
    {lv : XL} {st st' : List Value} {σ σ' : XS} (h : xlen scr st σ = some (st', σ'))
    (hP : va_P D classes (evH (ev ad xs bS) ad aC σ.2.1) H) (hD : va_D A (evH (ev ad xs bS) ad aC σ.2.1)) (hS : va_S A s.heap H locs) (hl : lv_has ls nL (evL (ev ad xs bS) lv)) (hd : decode cc pc = .ok (.arraylength, 1))
    (kk : xgo p l e R s m args below meth c Q ad xs bS aC D A lv σ.2.2.1 (pc + 1) ls st' σ' nL) : W p l e R s m args below meth c H locs σ.2.2.2.1 σ.2.2.2.2 Q (F0 m pc ls (evS (ev ad xs bS) st)) := by
  unfold xlen at h
  split at h
  · rename_i o r
    split at h
    · rename_i ti vs hk
      cases h1 : Nat.ble ti 8 with
      | false => rw [h1] at h; cases h
      | true =>
        rw [h1] at h
        obtain ⟨rfl, rfl⟩ := Prod.mk.inj (Option.some.inj h)
        obtain ⟨q0, hq, -⟩ := xhk_get (E := ev ad xs bS) (ad := ad) (aC := aC) hk
        refine va_alen hx hb hK hP q0 ti (x := evA (ev ad xs bS) ti vs) hq (xtys_get aC (Nat.le_of_ble_eq_true h1)) (v := Int32.ofNat vs.length) (by rw [evA_len]) hd ?_
        exact kk ad H locs (fun _ _ => rfl) (Nat.le_refl _) hP hD hS hl
    · cases h
  · split at h
    · rename_i L ys
      obtain ⟨rfl, rfl⟩ := Prod.mk.inj (Option.some.inj h)
      obtain ⟨-, x1, x2, x3⟩ := hX L ys rfl
      exact va_slen hx hb x1 x2 x3 hS hd (kk ad H locs (fun _ _ => rfl) (Nat.le_refl _) hP hD hS hl)
    · cases h
  · cases h
theorem xw_aldq (hx : p.tables.exec = Jvm.exec) (hb : c.code = cc) (hK : va_K D classes (xtys aC) s)
    {lv : XL} {st st' : List Value} {σ σ' : XS} (h : xald xref (fun ti => Nat.ble 3 ti && Nat.ble ti 8) st σ = some (st', σ'))
    (hP : va_P D classes (evH (ev ad xs bS) ad aC σ.2.1) H) (hD : va_D A (evH (ev ad xs bS) ad aC σ.2.1)) (hS : va_S A s.heap H locs) (hl : lv_has ls nL (evL (ev ad xs bS) lv)) (hd : decode cc pc = .ok (.aaload, 1))
    (kk : xgo p l e R s m args below meth c Q ad xs bS aC D A lv σ.2.2.1 (pc + 1) ls st' σ' nL) : W p l e R s m args below meth c H locs σ.2.2.2.1 σ.2.2.2.2 Q (F0 m pc ls (evS (ev ad xs bS) st)) := by
  obtain ⟨i, o, r, ti, vs, j, v, rfl, hk, ht, hj, hv, hok, hq⟩ := xald_spec h
  obtain ⟨rfl, rfl⟩ := Prod.mk.inj hq
  rw [Bool.and_eq_true] at ht
  have h3 := Nat.le_of_ble_eq_true ht.1
  have h5 := Nat.le_of_ble_eq_true ht.2
  obtain ⟨h1, h2, -⟩ := xix_spec hj
  obtain ⟨q0, hq, -⟩ := xhk_get (E := ev ad xs bS) (ad := ad) (aC := aC) hk
  have ht9 := xtys_get aC h5
  have hA9 : evA (ev ad xs bS) ti vs = (vs.length, .inr (.inr (.inr (.inr (fun j => evR (ev ad xs bS (vs.getD j .null))))))) := by
    match ti, h3 with
    | k + 3, _ => rfl
  have hq9 : (evH (ev ad xs bS) ad aC σ'.2.1)[q0]? = some (ad o, .inl (aC ti, vs.length, .inr (.inr (.inr (.inr (fun j => evR (ev ad xs bS (vs.getD j .null)))))))) := by
    rw [hq]; show some (ad o, Sum.inl (aC ti, evA (ev ad xs bS) ti vs)) = _; rw [hA9]
  have hlt : i.toNatClampNeg < vs.length := Nat.not_le.mp fun z => h1 (Or.inr z)
  refine W.aald (v := va_rf (evR (ev ad xs bS (vs.getD i.toNatClampNeg .null)))) (ty := xty ti) hx hb (hP q0 _ hq9) ((hK.2 ti _ ht9).1 vs.length (fun j => va_rf (evR (ev ad xs bS (vs.getD j .null))))) (xty_ref h3) (fun z => by cases z) (by show ¬ (i < 0 ∨ (arrV _ _ _).slots.size ≤ _); rw [arrV_size]; exact h1) (by show (arrV _ _ _).slots[_]? = _; rw [arrV_read _ _ hlt]) rfl rfl hd ?_
  have e1 : va_rf (evR (ev ad xs bS (vs.getD i.toNatClampNeg .null))) = ev ad xs bS v := by
    rw [h2, getD_at hv]
    rcases xref_ev (ad := ad) (xs := xs) (bS := bS) hok with e | ⟨a, e⟩ <;> rw [e] <;> rfl
  show W p l e R s m args below meth c H locs σ'.2.2.2.1 σ'.2.2.2.2 Q (F0 m (pc + 1) ls (va_rf (evR (ev ad xs bS (vs.getD i.toNatClampNeg .null))) :: evS (ev ad xs bS) r))
  rw [e1]
  exact kk ad H locs (fun _ _ => rfl) (Nat.le_refl _) hP hD hS hl
theorem xw_lald (hx : p.tables.exec = Jvm.exec) (hb : c.code = cc) (hK : va_K D classes (xtys aC) s)
    {lv : XL} {st st' : List Value} {σ σ' : XS} (h : xald xlong (fun ti => Nat.beq ti 2) st σ = some (st', σ'))
    (hP : va_P D classes (evH (ev ad xs bS) ad aC σ.2.1) H) (hD : va_D A (evH (ev ad xs bS) ad aC σ.2.1)) (hS : va_S A s.heap H locs) (hl : lv_has ls nL (evL (ev ad xs bS) lv)) (hd : decode cc pc = .ok (.laload, 1))
    (kk : xgo p l e R s m args below meth c Q ad xs bS aC D A lv σ.2.2.1 (pc + 1) ls st' σ' nL) : W p l e R s m args below meth c H locs σ.2.2.2.1 σ.2.2.2.2 Q (F0 m pc ls (evS (ev ad xs bS) st)) := by
  obtain ⟨i, o, r, ti, vs, j, v, rfl, hk, ht, hj, hv, hok, hq⟩ := xald_spec h
  obtain ⟨rfl, rfl⟩ := Prod.mk.inj hq
  have ht := Nat.eq_of_beq_eq_true ht
  subst ht
  obtain ⟨h1, h2, -⟩ := xix_spec hj
  obtain ⟨q0, hq, -⟩ := xhk_get (E := ev ad xs bS) (ad := ad) (aC := aC) hk
  refine va_lald hx hb hK hP q0 2 hq (xtys_get aC (by omega)) h1 hd ?_
  have e1 : Value.long (evG (ev ad xs bS (vs.getD i.toNatClampNeg (.long 0)))) = ev ad xs bS v := by
    rw [h2, getD_at hv]
    obtain ⟨a, e⟩ := xlong_ev (ad := ad) (xs := xs) (bS := bS) hok
    rw [e]; rfl
  show W p l e R s m args below meth c H locs σ'.2.2.2.1 σ'.2.2.2.2 Q (F0 m (pc + 1) ls (Value.long (evG (ev ad xs bS (vs.getD i.toNatClampNeg (.long 0)))) :: evS (ev ad xs bS) r))
  rw [e1]
  exact kk ad H locs (fun _ _ => rfl) (Nat.le_refl _) hP hD hS hl
theorem xw_zald (hx : p.tables.exec = Jvm.exec) (hb : c.code = cc) (hK : va_K D classes (xtys aC) s)
    {lv : XL} {st st' : List Value} {σ σ' : XS} (h : xald xint (fun ti => Nat.beq ti 1) st σ = some (st', σ'))
    (hP : va_P D classes (evH (ev ad xs bS) ad aC σ.2.1) H) (hD : va_D A (evH (ev ad xs bS) ad aC σ.2.1)) (hS : va_S A s.heap H locs) (hl : lv_has ls nL (evL (ev ad xs bS) lv)) (hd : decode cc pc = .ok (.baload, 1))
    (kk : xgo p l e R s m args below meth c Q ad xs bS aC D A lv σ.2.2.1 (pc + 1) ls st' σ' nL) : W p l e R s m args below meth c H locs σ.2.2.2.1 σ.2.2.2.2 Q (F0 m pc ls (evS (ev ad xs bS) st)) := by
  obtain ⟨i, o, r, ti, vs, j, v, rfl, hk, ht, hj, hv, hok, hq⟩ := xald_spec h
  obtain ⟨rfl, rfl⟩ := Prod.mk.inj hq
  have ht := Nat.eq_of_beq_eq_true ht
  subst ht
  obtain ⟨h1, h2, -⟩ := xix_spec hj
  obtain ⟨q0, hq, -⟩ := xhk_get (E := ev ad xs bS) (ad := ad) (aC := aC) hk
  refine va_zald hx hb hK hP q0 1 hq (xtys_get aC (by omega)) h1 hd ?_
  have e1 : Value.int (evI (ev ad xs bS (vs.getD i.toNatClampNeg (.int 0)))) = ev ad xs bS v := by
    rw [h2, getD_at hv]
    obtain ⟨a, e⟩ := xint_ev (ad := ad) (xs := xs) (bS := bS) hok
    rw [e]; rfl
  show W p l e R s m args below meth c H locs σ'.2.2.2.1 σ'.2.2.2.2 Q (F0 m (pc + 1) ls (Value.int (evI (ev ad xs bS (vs.getD i.toNatClampNeg (.int 0)))) :: evS (ev ad xs bS) r))
  rw [e1]
  exact kk ad H locs (fun _ _ => rfl) (Nat.le_refl _) hP hD hS hl
theorem xw_ild (hx : p.tables.exec = Jvm.exec) (hb : c.code = cc) (hK : va_K D classes (xtys aC) s) {scr : Option (Nat × (Nat → Int32))} (hX : ∀ L ys, scr = some (L, ys) → ys = xs ∧ va_X bS L xs s s.heap ∧ bS < s.heap.size ∧ ¬ A bS)
    {lv : XL} {st st' : List Value} {σ σ' : XS} (h : xild scr st σ = some (st', σ'))
    (hP : va_P D classes (evH (ev ad xs bS) ad aC σ.2.1) H) (hD : va_D A (evH (ev ad xs bS) ad aC σ.2.1)) (hS : va_S A s.heap H locs) (hl : lv_has ls nL (evL (ev ad xs bS) lv)) (hd : decode cc pc = .ok (.iaload, 1))
    (kk : xgo p l e R s m args below meth c Q ad xs bS aC D A lv σ.2.2.1 (pc + 1) ls st' σ' nL) : W p l e R s m args below meth c H locs σ.2.2.2.1 σ.2.2.2.2 Q (F0 m pc ls (evS (ev ad xs bS) st)) := by
  unfold xild at h
  split at h
  · rename_i i a r
    split at h
    · rename_i L ys
      split at h
      · rename_i j hj
        obtain ⟨rfl, rfl⟩ := Prod.mk.inj (Option.some.inj h)
        obtain ⟨rfl, x1, x2, x3⟩ := hX L ys rfl
        obtain ⟨h1, h2, -⟩ := xix_spec hj
        refine va_sld hx hb x1 x2 x3 hS h1 hd ?_
        rw [h2]
        exact kk ad H locs (fun _ _ => rfl) (Nat.le_refl _) hP hD hS hl
      · cases h
    · cases h
  · obtain ⟨i, o, r, ti, vs, j, v, rfl, hk, ht, hj, hv, hok, hq⟩ := xald_spec h
    obtain ⟨rfl, rfl⟩ := Prod.mk.inj hq
    have ht := Nat.eq_of_beq_eq_true ht
    subst ht
    obtain ⟨h1, h2, -⟩ := xix_spec hj
    obtain ⟨q0, hq, -⟩ := xhk_get (E := ev ad xs bS) (ad := ad) (aC := aC) hk
    refine va_iald hx hb hK hP q0 0 hq (xtys_get aC (by omega)) h1 hd ?_
    have e1 : Value.int (evI (ev ad xs bS (vs.getD i.toNatClampNeg (.int 0)))) = ev ad xs bS v := by
      rw [h2, getD_at hv]
      obtain ⟨a, e⟩ := xint_ev (ad := ad) (xs := xs) (bS := bS) hok
      rw [e]; rfl
    show W p l e R s m args below meth c H locs σ'.2.2.2.1 σ'.2.2.2.2 Q (F0 m (pc + 1) ls (Value.int (evI (ev ad xs bS (vs.getD i.toNatClampNeg (.int 0)))) :: evS (ev ad xs bS) r))
    rw [e1]
    exact kk ad H locs (fun _ _ => rfl) (Nat.le_refl _) hP hD hS hl
theorem xw_iast (hx : p.tables.exec = Jvm.exec) (hb : c.code = cc) (hK : va_K D classes (xtys aC) s)
    {lv : XL} {st st' : List Value} {σ σ' : XS} (h : xast xint (fun ti => Nat.beq ti 0) st σ = some (st', σ'))
    (hP : va_P D classes (evH (ev ad xs bS) ad aC σ.2.1) H) (hD : va_D A (evH (ev ad xs bS) ad aC σ.2.1)) (hS : va_S A s.heap H locs) (hl : lv_has ls nL (evL (ev ad xs bS) lv)) (hd : decode cc pc = .ok (.iastore, 1))
    (kk : xgo p l e R s m args below meth c Q ad xs bS aC D A lv σ.2.2.1 (pc + 1) ls st' σ' nL) : W p l e R s m args below meth c H locs σ.2.2.2.1 σ.2.2.2.2 Q (F0 m pc ls (evS (ev ad xs bS) st)) := by
  obtain ⟨v, i, o, r, ti, vs, j, rfl, hk, ht, hok, hj, hq⟩ := xast_spec h
  obtain ⟨rfl, rfl⟩ := Prod.mk.inj hq
  have ht := Nat.eq_of_beq_eq_true ht
  subst ht
  obtain ⟨h1, h2, h3⟩ := xix_spec hj
  obtain ⟨q0, hq, hset⟩ := xhk_get (E := ev ad xs bS) (ad := ad) (aC := aC) hk
  obtain ⟨x, hxv⟩ := xint_ev (ad := ad) (xs := xs) (bS := bS) hok
  have e1 : evA (ev ad xs bS) 0 (vs.set j v) = (vs.length, .inl (upd (fun k => evI (ev ad xs bS (vs.getD k (.int 0)))) i.toNatClampNeg x)) := by
    show ((vs.set j v).length, Sum.inl (fun k => evI (ev ad xs bS ((vs.set j v).getD k (.int 0))))) = _
    rw [List.length_set]
    refine congrArg (fun z => (vs.length, Sum.inl z)) (funext fun k => ?_)
    show evI (ev ad xs bS ((vs.set j v).getD k (.int 0))) = upd _ _ _ k
    rw [getD_put v _ h3, h2]
    unfold upd
    by_cases hkj : k = j
    · rw [if_pos hkj, if_pos hkj, hxv]; rfl
    · rw [if_neg hkj, if_neg hkj]
  show W p l e R s m args below meth c H locs _ _ Q (F0 m pc ls (ev ad xs bS v :: .int i :: .ref (ad o) :: evS (ev ad xs bS) st'))
  rw [hxv]
  refine va_iast hx hb hK hP hD hS q0 0 hq (xtys_get aC (by omega)) h1 hd (fun H1 locs1 p1 d1 s1 => ?_)
  have e2 : (evH (ev ad xs bS) ad aC σ.2.1).set q0 (ad o, .inl (aC 0, vs.length, .inl (upd (fun k => evI (ev ad xs bS (vs.getD k (.int 0)))) i.toNatClampNeg x))) = evH (ev ad xs bS) ad aC (xhs σ.2.1 o (true, 0, vs.set j v)) := by
    rw [← hset (true, 0, vs.set j v)]
    show _ = (evH (ev ad xs bS) ad aC σ.2.1).set q0 (ad o, .inl (aC 0, evA (ev ad xs bS) 0 (vs.set j v)))
    rw [e1]
  exact kk ad H1 locs1 (fun _ _ => rfl) (Nat.le_refl _) (by dsimp only; rw [← e2]; exact p1) (by dsimp only; rw [← e2]; exact d1) s1 hl
theorem xbool_ev {v : Value} (h : xbool v = true) : ∃ x, ev ad xs bS v = .int x ∧ vp_nar .boolean x = x := by
  unfold xbool at h
  split at h
  · rename_i x
    simp only [Bool.or_eq_true, decide_eq_true_eq] at h
    rcases h with rfl | rfl
    · exact ⟨0, rfl, by decide⟩
    · exact ⟨1, rfl, by decide⟩
  · cases h
theorem xw_zast (hx : p.tables.exec = Jvm.exec) (hb : c.code = cc) (hK : va_K D classes (xtys aC) s)
    {lv : XL} {st st' : List Value} {σ σ' : XS} (h : xast xbool (fun ti => Nat.beq ti 1) st σ = some (st', σ'))
    (hP : va_P D classes (evH (ev ad xs bS) ad aC σ.2.1) H) (hD : va_D A (evH (ev ad xs bS) ad aC σ.2.1)) (hS : va_S A s.heap H locs) (hl : lv_has ls nL (evL (ev ad xs bS) lv)) (hd : decode cc pc = .ok (.bastore, 1))
    (kk : xgo p l e R s m args below meth c Q ad xs bS aC D A lv σ.2.2.1 (pc + 1) ls st' σ' nL) : W p l e R s m args below meth c H locs σ.2.2.2.1 σ.2.2.2.2 Q (F0 m pc ls (evS (ev ad xs bS) st)) := by
  obtain ⟨v, i, o, r, ti, vs, j, rfl, hk, ht, hok, hj, hq⟩ := xast_spec h
  obtain ⟨rfl, rfl⟩ := Prod.mk.inj hq
  have ht := Nat.eq_of_beq_eq_true ht
  subst ht
  obtain ⟨h1, h2, h3⟩ := xix_spec hj
  obtain ⟨q0, hq, hset⟩ := xhk_get (E := ev ad xs bS) (ad := ad) (aC := aC) hk
  obtain ⟨x, hxv, hnar⟩ := xbool_ev (ad := ad) (xs := xs) (bS := bS) hok
  have e1 : evA (ev ad xs bS) 1 (vs.set j v) = (vs.length, .inl (upd (fun k => evI (ev ad xs bS (vs.getD k (.int 0)))) i.toNatClampNeg x)) := by
    show ((vs.set j v).length, Sum.inl (fun k => evI (ev ad xs bS ((vs.set j v).getD k (.int 0))))) = _
    rw [List.length_set]
    refine congrArg (fun z => (vs.length, Sum.inl z)) (funext fun k => ?_)
    show evI (ev ad xs bS ((vs.set j v).getD k (.int 0))) = upd _ _ _ k
    rw [getD_put v _ h3, h2]
    unfold upd
    by_cases hkj : k = j
    · rw [if_pos hkj, if_pos hkj, hxv]; rfl
    · rw [if_neg hkj, if_neg hkj]
  show W p l e R s m args below meth c H locs _ _ Q (F0 m pc ls (ev ad xs bS v :: .int i :: .ref (ad o) :: evS (ev ad xs bS) st'))
  rw [hxv]
  refine va_zast hx hb hK hP hD hS q0 1 hq (xtys_get aC (by omega)) h1 hd (fun H1 locs1 p1 d1 s1 => ?_)
  rw [hnar] at p1 d1
  have e2 : (evH (ev ad xs bS) ad aC σ.2.1).set q0 (ad o, .inl (aC 1, vs.length, .inl (upd (fun k => evI (ev ad xs bS (vs.getD k (.int 0)))) i.toNatClampNeg x))) = evH (ev ad xs bS) ad aC (xhs σ.2.1 o (true, 1, vs.set j v)) := by
    rw [← hset (true, 1, vs.set j v)]
    show _ = (evH (ev ad xs bS) ad aC σ.2.1).set q0 (ad o, .inl (aC 1, evA (ev ad xs bS) 1 (vs.set j v)))
    rw [e1]
  exact kk ad H1 locs1 (fun _ _ => rfl) (Nat.le_refl _) (by dsimp only; rw [← e2]; exact p1) (by dsimp only; rw [← e2]; exact d1) s1 hl
theorem xw_last (hx : p.tables.exec = Jvm.exec) (hb : c.code = cc) (hK : va_K D classes (xtys aC) s)
    {lv : XL} {st st' : List Value} {σ σ' : XS} (h : xast xlong (fun ti => Nat.beq ti 2) st σ = some (st', σ'))
    (hP : va_P D classes (evH (ev ad xs bS) ad aC σ.2.1) H) (hD : va_D A (evH (ev ad xs bS) ad aC σ.2.1)) (hS : va_S A s.heap H locs) (hl : lv_has ls nL (evL (ev ad xs bS) lv)) (hd : decode cc pc = .ok (.lastore, 1))
    (kk : xgo p l e R s m args below meth c Q ad xs bS aC D A lv σ.2.2.1 (pc + 1) ls st' σ' nL) : W p l e R s m args below meth c H locs σ.2.2.2.1 σ.2.2.2.2 Q (F0 m pc ls (evS (ev ad xs bS) st)) := by
  obtain ⟨v, i, o, r, ti, vs, j, rfl, hk, ht, hok, hj, hq⟩ := xast_spec h
  obtain ⟨rfl, rfl⟩ := Prod.mk.inj hq
  have ht := Nat.eq_of_beq_eq_true ht
  subst ht
  obtain ⟨h1, h2, h3⟩ := xix_spec hj
  obtain ⟨q0, hq, hset⟩ := xhk_get (E := ev ad xs bS) (ad := ad) (aC := aC) hk
  obtain ⟨x, hxv⟩ := xlong_ev (ad := ad) (xs := xs) (bS := bS) hok
  have e1 : evA (ev ad xs bS) 2 (vs.set j v) = (vs.length, .inr (.inl (vp_updL (fun k => evG (ev ad xs bS (vs.getD k (.long 0)))) i.toNatClampNeg x))) := by
    show ((vs.set j v).length, Sum.inr (Sum.inl (fun k => evG (ev ad xs bS ((vs.set j v).getD k (.long 0)))))) = _
    rw [List.length_set]
    refine congrArg (fun z => (vs.length, Sum.inr (Sum.inl z))) (funext fun k => ?_)
    show evG (ev ad xs bS ((vs.set j v).getD k (.long 0))) = vp_updL _ _ _ k
    rw [getD_put v _ h3, h2]
    unfold vp_updL
    by_cases hkj : k = j
    · rw [if_pos hkj, if_pos hkj, hxv]; rfl
    · rw [if_neg hkj, if_neg hkj]
  show W p l e R s m args below meth c H locs _ _ Q (F0 m pc ls (ev ad xs bS v :: .int i :: .ref (ad o) :: evS (ev ad xs bS) st'))
  rw [hxv]
  refine va_last hx hb hK hP hD hS q0 2 hq (xtys_get aC (by omega)) h1 hd (fun H1 locs1 p1 d1 s1 => ?_)
  have e2 : (evH (ev ad xs bS) ad aC σ.2.1).set q0 (ad o, .inl (aC 2, vs.length, .inr (.inl (vp_updL (fun k => evG (ev ad xs bS (vs.getD k (.long 0)))) i.toNatClampNeg x)))) = evH (ev ad xs bS) ad aC (xhs σ.2.1 o (true, 2, vs.set j v)) := by
    rw [← hset (true, 2, vs.set j v)]
    show _ = (evH (ev ad xs bS) ad aC σ.2.1).set q0 (ad o, .inl (aC 2, evA (ev ad xs bS) 2 (vs.set j v)))
    rw [e1]
  exact kk ad H1 locs1 (fun _ _ => rfl) (Nat.le_refl _) (by dsimp only; rw [← e2]; exact p1) (by dsimp only; rw [← e2]; exact d1) s1 hl
/-- an array of references behind a store -/
theorem evA_putq {ti : Nat} (h3 : 3 ≤ ti) {vs : List Value} {j : Nat} {v : Value} {x : Option Nat} (hj : j < vs.length) (hxv : evR (ev ad xs bS v) = x) :
    evA (ev ad xs bS) ti (vs.set j v) = (vs.length, .inr (.inr (.inr (.inr (va_up (fun k => evR (ev ad xs bS (vs.getD k .null))) j x))))) := by
  have hA9 : evA (ev ad xs bS) ti (vs.set j v) = ((vs.set j v).length, .inr (.inr (.inr (.inr (fun k => evR (ev ad xs bS ((vs.set j v).getD k .null))))))) := by
    match ti, h3 with
    | k + 3, _ => rfl
  rw [hA9, List.length_set]
  refine congrArg (fun z => (vs.length, Sum.inr (Sum.inr (Sum.inr (Sum.inr z))))) (funext fun k => ?_)
  show evR (ev ad xs bS ((vs.set j v).getD k .null)) = va_up _ _ _ k
  rw [getD_put v _ hj]
  unfold va_up
  by_cases hkj : k = j
  · rw [if_pos hkj, if_pos hkj, hxv]
  · rw [if_neg hkj, if_neg hkj]
theorem xcell_cls (c : ClassId) (x : vp_A) : (vp_cell c x).cls = c ∧ (vp_cell c x).vm = .none := by
  obtain ⟨n, f | f | f | f | f⟩ := x <;> exact ⟨rfl, rfl⟩
theorem xw_asa (hx : p.tables.exec = Jvm.exec) (hb : c.code = cc) (hK : va_K D classes (xtys aC) s) (hAA : ∀ ty, (ty = .array .int ∨ ty = .array .boolean ∨ ty = .array (.array .int)) → (Jvm.Cond.arrayOver ty).before args s = true)
    {lv : XL} {st st' : List Value} {σ σ' : XS} (h : xasa st σ = some (st', σ'))
    (hP : va_P D classes (evH (ev ad xs bS) ad aC σ.2.1) H) (hD : va_D A (evH (ev ad xs bS) ad aC σ.2.1)) (hS : va_S A s.heap H locs) (hl : lv_has ls nL (evL (ev ad xs bS) lv)) (hd : decode cc pc = .ok (.aastore, 1))
    (kk : xgo p l e R s m args below meth c Q ad xs bS aC D A lv σ.2.2.1 (pc + 1) ls st' σ' nL) : W p l e R s m args below meth c H locs σ.2.2.2.1 σ.2.2.2.2 Q (F0 m pc ls (evS (ev ad xs bS) st)) := by
  unfold xasa at h
  split at h
  · obtain ⟨v, i, o, r, ti, vs, j, hst, hk, ht, hok, hj, hq⟩ := xast_spec h
    obtain ⟨rfl, rfl⟩ := List.cons.inj hst
    obtain ⟨rfl, rfl⟩ := Prod.mk.inj hq
    rw [Bool.and_eq_true] at ht
    have h3 := Nat.le_of_ble_eq_true ht.1
    have h5 := Nat.le_of_ble_eq_true ht.2
    obtain ⟨h1, h2, hjl⟩ := xix_spec hj
    obtain ⟨q0, hq, hset⟩ := xhk_get (E := ev ad xs bS) (ad := ad) (aC := aC) hk
    obtain ⟨C, hC⟩ := xty_obj h3 h5
    have ht9 := xtys_get aC (show ti ≤ 8 by omega)
    rw [hC] at ht9
    have hA9 : evA (ev ad xs bS) ti vs = (vs.length, .inr (.inr (.inr (.inr (fun j => evR (ev ad xs bS (vs.getD j .null))))))) := by
      match ti, h3 with
      | k + 3, _ => rfl
    have hq9 : (evH (ev ad xs bS) ad aC σ.2.1)[q0]? = some (ad o, .inl (aC ti, vs.length, .inr (.inr (.inr (.inr (fun j => evR (ev ad xs bS (vs.getD j .null)))))))) := by
      rw [hq]; show some (ad o, Sum.inl (aC ti, evA (ev ad xs bS) ti vs)) = _; rw [hA9]
    refine va_astqN hx hb hK hP hD hS q0 ti (C := C) hq9 ht9 h1 hd (fun H1 locs1 p1 d1 s1 => ?_)
    have e2 : (evH (ev ad xs bS) ad aC σ.2.1).set q0 (ad o, .inl (aC ti, vs.length, .inr (.inr (.inr (.inr (va_up (fun j => evR (ev ad xs bS (vs.getD j .null))) i.toNatClampNeg none)))))) = evH (ev ad xs bS) ad aC (xhs σ.2.1 o (true, ti, vs.set j .null)) := by
      rw [← hset (true, ti, vs.set j .null)]
      show _ = (evH (ev ad xs bS) ad aC σ.2.1).set q0 (ad o, .inl (aC ti, evA (ev ad xs bS) ti (vs.set j .null)))
      rw [evA_putq h3 hjl (x := none) rfl, h2]
    exact kk ad H1 locs1 (fun _ _ => rfl) (Nat.le_refl _) (by dsimp only; rw [← e2]; exact p1) (by dsimp only; rw [← e2]; exact d1) s1 hl
  · rename_i b w2 o2 rr
    split at h
    · rename_i ti2 vs2 bb ci fs hk1 hk2
      cases hb9 : (Nat.ble 3 ti2 && (Nat.ble ti2 8 && ((bb == (xel ti2).1) && Nat.beq ci (xel ti2).2))) with
      | false => rw [hb9] at h; cases h
      | true =>
        rw [hb9] at h
        simp only [cond_true] at h
        simp only [Bool.and_eq_true, beq_iff_eq] at hb9
        obtain ⟨h3, h8, hb8, hb9⟩ := hb9
        have h3 := Nat.le_of_ble_eq_true h3
        have h8 := Nat.le_of_ble_eq_true h8
        have hb9 := Nat.eq_of_beq_eq_true hb9
        obtain ⟨v, i, o, r, ti, vs, j, hst, hk, ht, hok, hj, hq⟩ := xast_spec h
        obtain ⟨e1, hs1⟩ := List.cons.inj hst
        obtain ⟨e2, hs2⟩ := List.cons.inj hs1
        obtain ⟨e3, hs3⟩ := List.cons.inj hs2
        cases e3
        subst e1; subst e2; subst hs3
        obtain ⟨rfl, rfl⟩ := Prod.mk.inj hq
        have ht := Nat.eq_of_beq_eq_true ht
        subst ht
        obtain ⟨h1, h2, hjl⟩ := xix_spec hj
        obtain ⟨q0, hq, hset⟩ := xhk_get (E := ev ad xs bS) (ad := ad) (aC := aC) hk
        obtain ⟨qk, hqk, -⟩ := xhk_get (E := ev ad xs bS) (ad := ad) (aC := aC) hk2
        have hA9 : evA (ev ad xs bS) ti2 vs = (vs.length, .inr (.inr (.inr (.inr (fun j => evR (ev ad xs bS (vs.getD j .null))))))) := by
          match ti2, h3 with
          | k + 3, _ => rfl
        have hq9 : (evH (ev ad xs bS) ad aC σ.2.1)[q0]? = some (ad o2, .inl (aC ti2, vs.length, .inr (.inr (.inr (.inr (fun j => evR (ev ad xs bS (vs.getD j .null)))))))) := by
          rw [hq]; show some (ad o2, Sum.inl (aC ti2, evA (ev ad xs bS) ti2 vs)) = _; rw [hA9]
        have fin : ∀ (H1 : Heap) (locs1 : List Loc), va_P D classes ((evH (ev ad xs bS) ad aC σ.2.1).set q0 (ad o2, .inl (aC ti2, vs.length, .inr (.inr (.inr (.inr (va_up (fun j => evR (ev ad xs bS (vs.getD j .null))) i.toNatClampNeg (some (ad b))))))))) H1 → va_D A ((evH (ev ad xs bS) ad aC σ.2.1).set q0 (ad o2, .inl (aC ti2, vs.length, .inr (.inr (.inr (.inr (va_up (fun j => evR (ev ad xs bS (vs.getD j .null))) i.toNatClampNeg (some (ad b))))))))) → va_S A s.heap H1 locs1 →
            W p l e R s m args below meth c H1 locs1 σ.2.2.2.1 σ.2.2.2.2 Q (F0 m (pc + 1) ls (evS (ev ad xs bS) st')) := fun H1 locs1 p1 d1 s1 => by
          have e2 : (evH (ev ad xs bS) ad aC σ.2.1).set q0 (ad o2, .inl (aC ti2, vs.length, .inr (.inr (.inr (.inr (va_up (fun j => evR (ev ad xs bS (vs.getD j .null))) i.toNatClampNeg (some (ad b)))))))) = evH (ev ad xs bS) ad aC (xhs σ.2.1 o2 (true, ti2, vs.set j (.ref b))) := by
            rw [← hset (true, ti2, vs.set j (.ref b))]
            show _ = (evH (ev ad xs bS) ad aC σ.2.1).set q0 (ad o2, .inl (aC ti2, evA (ev ad xs bS) ti2 (vs.set j (.ref b))))
            rw [evA_putq h3 hjl (x := some (ad b)) rfl, h2]
          exact kk ad H1 locs1 (fun _ _ => rfl) (Nat.le_refl _) (by dsimp only; rw [← e2]; exact p1) (by dsimp only; rw [← e2]; exact d1) s1 hl
        have obj : ∀ (ci9 : Nat) (r : vw_C), bb = false → ci = ci9 → (classes : List vw_C)[ci9]? = some r → xty ti2 = .object r.1 → W p l e R s m args below meth c H locs σ.2.2.2.1 σ.2.2.2.2 Q (F0 m pc ls (.ref (ad b) :: .int i :: .ref (ad o2) :: evS (ev ad xs bS) st')) := by
          intro ci9 r e1 e2 e3 e4
          subst e1; subst e2
          exact va_astq hx hb hK hP hD hS q0 ti2 qk ci (r := r) (v := ad b) (vs := fs.map (ev ad xs bS)) hq9 (by rw [xtys_get aC h8, e4]) hqk e3 h1 hd fin
        have arr : ∀ (tj : Nat) (ty : FieldType), bb = true → ci = tj → tj ≤ 8 → xty ti2 = .array ty → xty tj = ty → (FieldType.array ty).toString = "[" ++ ty.toString → (∀ c9 : ClassId, s.vm.findClass ("[" ++ ty.toString) = some c9 → va_RA s c9 ty) → (Jvm.Cond.arrayOver (.array ty)).before args s = true → W p l e R s m args below meth c H locs σ.2.2.2.1 σ.2.2.2.2 Q (F0 m pc ls (.ref (ad b) :: .int i :: .ref (ad o2) :: evS (ev ad xs bS) st')) := by
          intro tj ty e1 e2 e3 e4 e5 hstr hra hov
          subst e1; subst e2
          obtain ⟨comp, c9, k9, f1, f2, f3, f4⟩ := Cond.arrayOver_specA hov
          have g1 : c9 = aC ti2 := xRA_inj (ty := .array ty) f4 (by have := (hK.2 ti2 _ (xtys_get aC h8)).2; rw [e4] at this; exact this)
          have g2 : comp = aC ci := xRA_inj (ty := ty) (hra comp (by rw [← hstr]; exact f1)) (by have := (hK.2 ci _ (xtys_get aC e3)).2; rw [e5] at this; exact this)
          subst g1; subst g2
          obtain ⟨-, kv, hkv, -⟩ := (hK.2 ci _ (xtys_get aC e3)).1 0 (fun _ => .null)
          have hkv : s.vm.classes[aC ci]? = some kv := hkv
          have hcv : H[ad b]? = some (vp_cell (aC ci) (evA (ev ad xs bS) ci fs)) := hP qk _ hqk
          obtain ⟨v1, v2⟩ := xcell_cls (aC ci) (evA (ev ad xs bS) ci fs)
          have hlt : i.toNatClampNeg < vs.length := Nat.not_le.mp fun z => h1 (Or.inr z)
          have hi0 : ¬ i < 0 := fun z => h1 (Or.inl z)
          refine W.aast hx hb (hP q0 _ hq9) (fun q h => by cases h) (fun h => by cases h) f2 f3 rfl hkv ⟨hi0, by show _ < (arrV _ _ _).slots.size; rw [arrV_size]; exact hlt⟩ hcv (fun q h => by rw [v2] at h; cases h) (by rw [v1]; exact hkv) (by rw [v1]; exact va_asg _ _) rfl rfl hd (fun H1 e z oq => ?_)
          refine fin H1 _ (hP.set hD hq9 ?_ oq) (hD.set hq9) (hS.put z oq (hD.2 q0 _ hq9))
          show H1[ad o2]? = some (vp_cell _ _)
          rw [e, vp_cell_q, vp_cell_q, arrV_store]
          refine congrArg (fun z => some (arrV (aC ti2) vs.length z)) (funext fun q => ?_)
          unfold updV va_up
          by_cases hqj : q = i.toNatClampNeg
          · rw [if_pos hqj, if_pos hqj]; rfl
          · rw [if_neg hqj, if_neg hqj]
        show W p l e R s m args below meth c H locs σ.2.2.2.1 σ.2.2.2.2 Q (F0 m pc ls (.ref (ad b) :: .int i :: .ref (ad o2) :: evS (ev ad xs bS) st'))
        match ti2, h3, h8, hb8, hb9, obj, arr with
        | 3, _, _, hb8, hb9, obj, _ => exact obj 10 _ hb8 hb9 rfl rfl
        | 4, _, _, hb8, hb9, obj, _ => exact obj 3 _ hb8 hb9 rfl rfl
        | 5, _, _, hb8, hb9, obj, _ => exact obj 8 _ hb8 hb9 rfl rfl
        | 6, _, _, hb8, hb9, _, arr => exact arr 0 .int hb8 hb9 (by omega) rfl rfl (by decide +kernel) (fun _ h9 => h9) (hAA _ (Or.inl rfl))
        | 7, _, _, hb8, hb9, _, arr => exact arr 1 .boolean hb8 hb9 (by omega) rfl rfl (by decide +kernel) (fun _ h9 => h9) (hAA _ (Or.inr (Or.inl rfl)))
        | 8, _, _, hb8, hb9, _, arr => exact arr 6 (.array .int) hb8 hb9 (by omega) rfl rfl (by decide +kernel) (fun _ h9 => h9) (hAA _ (Or.inr (Or.inr rfl)))
        | n + 9, _, h8, _, _, _, _ => omega
    · cases h
  · cases h
end XO
end
section
section XB
variable {p : Program} {l : Launch} {e : Env} {R : Room} {s : State} {m : MethodId} {args : Array Value} {below : List Frame} {meth : Method} {c : Code} {H : Heap} {locs : List Loc} {cells slots : Nat} {Q : State → Prop}
variable {cc : ByteArray} {pc nL : Nat} {ls : Array Slot} {ad : Nat → Nat} {xs : Nat → Int32} {bS : Nat} {aC : Nat → ClassId} {D : va_G} {A : Nat → Prop} {own : String} {Ts : List Jvm.Cond}
theorem xheap_ok (hx : p.tables.exec = Jvm.exec) (hb : c.code = cc) (hts : ∀ w ∈ Ts, w.before args s = true) (hcw : ∀ (ci : Nat) (C : String) (T : u_T) (N : Nat), classes[ci]? = some (C, T, N) → ∀ w ∈ u_ws C T N, w ∈ Ts) (hown : s.vm.findClass own = some m.cls) (hK : va_K D classes (xtys aC) s) (hA : ∀ q, s.heap.size ≤ q → A q)
    (hAO : ∀ ti C, ti ≤ 5 → xty ti = .object C → va_AO C s) (hAA : ∀ ty, (ty = .array .int ∨ ty = .array .boolean ∨ ty = .array (.array .int)) → (Jvm.Cond.arrayOver ty).before args s = true)
    {scr : Option (Nat × (Nat → Int32))} (hX : ∀ L ys, scr = some (L, ys) → ys = xs ∧ va_X bS L xs s s.heap ∧ bS < s.heap.size ∧ ¬ A bS) {init : Bool} (hin : init = true → meth.name = "<init>")
    {i : Instr} {aux : List Nat} (hv : xvh Ts own init i aux) {lv : XL} {st st' : List Value} {σ σ' : XS} (hwf : xal σ.2.2.1 lv st σ.2.1 = true) (h : xheap scr R i aux lv st σ = some (st', σ'))
    (hP : va_P D classes (evH (ev ad xs bS) ad aC σ.2.1) H) (hD : va_D A (evH (ev ad xs bS) ad aC σ.2.1)) (hS : va_S A s.heap H locs) (hl : lv_has ls nL (evL (ev ad xs bS) lv)) (hd : decode cc pc = .ok (i, ilen i))
    (kk : xgo p l e R s m args below meth c Q ad xs bS aC D A lv σ.2.2.1 (pc + ilen i) ls st' σ' nL) : W p l e R s m args below meth c H locs σ.2.2.2.1 σ.2.2.2.2 Q (F0 m pc ls (evS (ev ad xs bS) st)) := by
  unfold xheap at h
  split at h
  · exact xw_get hx hb hts hcw hown hK hv h hP hD hS hl hd kk
  · exact xw_put hx hb hts hcw hown hK hin hv h hP hD hS hl hd kk
  · exact xw_newo hx hb hts hcw hown hK hA hv hwf h hP hD hS hl hd kk
  · exact xw_newa hx hb hts hown hK hA hv hwf h hP hD hS hl hd kk
  · exact xw_newq hx hb hts hown hK hA hAO hAA hv hwf h hP hD hS hl hd kk
  · rename_i idx d
    cases h2 : Nat.beq d 2 with
    | true =>
      have e2 := Nat.eq_of_beq_eq_true h2
      subst e2
      exact xw_m2 hx hb hts hown hK hA hAA hv hwf h hP hD hS hl hd kk
    | false =>
      rw [h2] at h
      cases h3 : Nat.beq d 3 with
      | true =>
        rw [h3] at h
        have e2 := Nat.eq_of_beq_eq_true h3
        subst e2
        exact xw_m3 hx hb hts hown hK hA hAA hv hwf h hP hD hS hl hd kk
      | false => rw [h3] at h; cases h
  · exact xw_len hx hb hK hX h hP hD hS hl hd kk
  · exact xw_ild hx hb hK hX h hP hD hS hl hd kk
  · exact xw_lald hx hb hK h hP hD hS hl hd kk
  · exact xw_zald hx hb hK h hP hD hS hl hd kk
  · exact xw_aldq hx hb hK h hP hD hS hl hd kk
  · exact xw_iast hx hb hK h hP hD hS hl hd kk
  · exact xw_zast hx hb hK h hP hD hS hl hd kk
  · exact xw_last hx hb hK h hP hD hS hl hd kk
  · exact xw_asa hx hb hK hAA h hP hD hS hl hd kk
  · cases h
/-! branches -/
def xsat (xs : Nat → Int32) (pe : XP) : Prop := ∀ (i : Nat) (q : Int × Int), pe[i]? = some q → q.1 ≤ (xs i).toInt ∧ (xs i).toInt ≤ q.2
theorem xpset_eq : ∀ (l : XP) (k : Nat) (v : Int × Int), xpset l k v = l.set k v
  | [], _, _ => by simp [xpset]
  | _ :: _, 0, _ => by simp [xpset]
  | _ :: t, k + 1, v => by simp [xpset, xpset_eq t k v]
theorem xsat_set {pe : XP} {u : Nat} {q : Int × Int} (h : xsat xs pe) (h1 : q.1 ≤ (xs u).toInt) (h2 : (xs u).toInt ≤ q.2) : xsat xs (xpset pe u q) := by
  intro i r hr
  rw [xpset_eq, List.getElem?_set] at hr
  split at hr
  · rename_i e1
    subst e1
    split at hr
    · cases hr; exact ⟨h1, h2⟩
    · cases hr
  · exact h i r hr
theorem xone_in {pe : XP} {u : Nat} {b : Bool} {q : Int × Int} {v : Int} (h1 : q.1 ≤ v) (h2 : v ≤ q.2) : (b, xpset pe u q) ∈ xone pe u b q := by
  unfold xone
  rw [decide_eq_true (Int.le_trans h1 h2)]
  exact List.mem_cons_self
theorem xmn_le {a b v : Int} (h1 : v ≤ a) (h2 : v ≤ b) : v ≤ xmn a b := by
  unfold xmn; cases decide (a ≤ b) <;> assumption
theorem xmx_le {a b v : Int} (h1 : a ≤ v) (h2 : b ≤ v) : xmx a b ≤ v := by
  unfold xmx; cases decide (a ≤ b) <;> assumption
theorem xcut_ok {pe : XP} {u : Nat} {q : Int × Int} (k : Int) (b : Bool) (h : xsat xs pe) (hq : pe[u]? = some q) : ∃ pe', ((bif decide ((xs u).toInt < k) then b else !b), pe') ∈ xcut pe u q k b ∧ xsat xs pe' := by
  obtain ⟨h1, h2⟩ := h u q hq
  by_cases hk : (xs u).toInt < k
  · rw [decide_eq_true hk]
    have g1 : (xs u).toInt ≤ xmn q.2 (k - 1) := xmn_le h2 (by omega)
    exact ⟨_, List.mem_append_left _ (xone_in (q := (q.1, xmn q.2 (k - 1))) h1 g1), xsat_set h h1 g1⟩
  · rw [decide_eq_false hk]
    have g1 : xmx q.1 k ≤ (xs u).toInt := xmx_le h1 (by omega)
    exact ⟨_, List.mem_append_right _ (xone_in (q := (xmx q.1 k, q.2)) g1 h2), xsat_set h g1 h2⟩
theorem xcutE_ok {pe : XP} {u : Nat} {q : Int × Int} (k : Int) (b : Bool) (h : xsat xs pe) (hq : pe[u]? = some q) : ∃ pe', ((bif decide ((xs u).toInt = k) then b else !b), pe') ∈ xcutE pe u q k b ∧ xsat xs pe' := by
  obtain ⟨h1, h2⟩ := h u q hq
  unfold xcutE
  by_cases hk : (xs u).toInt = k
  · rw [decide_eq_true hk]
    have g1 : xmx q.1 k ≤ (xs u).toInt := xmx_le h1 (by omega)
    have g2 : (xs u).toInt ≤ xmn q.2 k := xmn_le h2 (by omega)
    exact ⟨_, List.mem_append_left _ (xone_in (q := (xmx q.1 k, xmn q.2 k)) g1 g2), xsat_set h g1 g2⟩
  · rw [decide_eq_false hk]
    by_cases e1 : q.1 = k
    · rw [decide_eq_true e1]
      have g1 : q.1 + 1 ≤ (xs u).toInt := by omega
      exact ⟨_, List.mem_append_right _ (xone_in (q := (q.1 + 1, q.2)) g1 h2), xsat_set h g1 h2⟩
    · rw [decide_eq_false e1]
      by_cases e2 : q.2 = k
      · rw [decide_eq_true e2]
        have g1 : (xs u).toInt ≤ q.2 - 1 := by omega
        exact ⟨_, List.mem_append_right _ (xone_in (q := (q.1, q.2 - 1)) h1 g1), xsat_set h h1 g1⟩
      · rw [decide_eq_false e2]
        exact ⟨_, List.mem_append_right _ (xone_in (q := q) h1 h2), xsat_set h h1 h2⟩
theorem xsplit_ok {pe : XP} {u : Nat} {cd : ClassFile.Cond} {y : Int32} {r : List (Bool × XP)} (hr : xsplit pe u cd y.toInt = some r) (h : xsat xs pe) : ∃ pe', (xprop cd (xs u) y, pe') ∈ r ∧ xsat xs pe' := by
  unfold xsplit at hr
  split at hr
  · cases hr
  · rename_i q hq
    rw [xnth_eq] at hq
    cases cd with
    | eq =>
      obtain rfl := Option.some.inj hr
      have := xcutE_ok y.toInt true h hq
      rw [show xprop .eq (xs u) y = (bif decide ((xs u).toInt = y.toInt) then true else !true) by simp [xprop, Int32.toInt_inj]]
      exact this
    | ne =>
      obtain rfl := Option.some.inj hr
      have := xcutE_ok y.toInt false h hq
      rw [show xprop .ne (xs u) y = (bif decide ((xs u).toInt = y.toInt) then false else !false) by simp [xprop, Int32.toInt_inj]]
      exact this
    | lt =>
      obtain rfl := Option.some.inj hr
      have := xcut_ok y.toInt true h hq
      rw [show xprop .lt (xs u) y = (bif decide ((xs u).toInt < y.toInt) then true else !true) by simp [xprop, Int32.lt_iff_toInt_lt]]
      exact this
    | ge =>
      obtain rfl := Option.some.inj hr
      have := xcut_ok y.toInt false h hq
      rw [show xprop .ge (xs u) y = (bif decide ((xs u).toInt < y.toInt) then false else !false) by
        by_cases z : (xs u).toInt < y.toInt
        · simp [xprop, Int32.le_iff_toInt_le, z]
        · simp [xprop, Int32.le_iff_toInt_le, z, Int.not_lt.mp z]]
      exact this
    | gt =>
      obtain rfl := Option.some.inj hr
      have := xcut_ok (y.toInt + 1) false h hq
      rw [show xprop .gt (xs u) y = (bif decide ((xs u).toInt < y.toInt + 1) then false else !false) by
        by_cases z : (xs u).toInt < y.toInt + 1
        · have z2 : ¬ y.toInt < (xs u).toInt := by omega
          simp [xprop, Int32.lt_iff_toInt_lt, z, z2]
        · have z2 : y.toInt < (xs u).toInt := by omega
          simp [xprop, Int32.lt_iff_toInt_lt, z, z2]]
      exact this
    | le =>
      obtain rfl := Option.some.inj hr
      have := xcut_ok (y.toInt + 1) true h hq
      rw [show xprop .le (xs u) y = (bif decide ((xs u).toInt < y.toInt + 1) then true else !true) by
        by_cases z : (xs u).toInt < y.toInt + 1
        · have z2 : (xs u).toInt ≤ y.toInt := by omega
          simp [xprop, Int32.le_iff_toInt_le, z, z2]
        · have z2 : ¬ (xs u).toInt ≤ y.toInt := by omega
          simp [xprop, Int32.le_iff_toInt_le, z, z2]]
      exact this
theorem xflip_ok (cd : ClassFile.Cond) (x y : Int32) : xprop (xflip cd) y x = xprop cd x y := by
  cases cd with
  | eq => simp [xprop, xflip, eq_comm]
  | ne => simp [xprop, xflip, eq_comm]
  | lt => rfl
  | ge => rfl
  | gt => rfl
  | le => rfl
theorem xbrs_ok {cd : ClassFile.Cond} {a b : Value} {pe : XP} {r : List (Bool × XP)} (hr : xbrs cd a b pe = some r) (h : xsat xs pe) : ∃ x y pe', ev ad xs bS a = .int x ∧ ev ad xs bS b = .int y ∧ (xprop cd x y, pe') ∈ r ∧ xsat xs pe' := by
  unfold xbrs at hr
  split at hr
  · obtain rfl := Option.some.inj hr
    exact ⟨_, _, pe, rfl, rfl, List.mem_cons_self, h⟩
  · obtain ⟨pe', h1, h2⟩ := xsplit_ok hr h
    exact ⟨_, _, pe', rfl, rfl, h1, h2⟩
  · obtain ⟨pe', h1, h2⟩ := xsplit_ok hr h
    rw [xflip_ok] at h1
    exact ⟨_, _, pe', rfl, rfl, h1, h2⟩
  · cases hr
theorem xtgt_ok {off : Int} {t : Nat} (h : xtgt pc off = some t) : (pc : Int) + off = (t : Int) := by
  unfold xtgt at h
  split at h
  · rename_i k hk
    cases h
    exact hk
  · cases h
theorem xjump_ok {off : Int} {r : List Value} {o : Option (List (Bool × XP))} {z : List (Nat × List Value × XP)} (h : xjump pc off r o = some z) : ∃ (t : Nat) (l0 : List (Bool × XP)), (pc : Int) + off = (t : Int) ∧ o = some l0 ∧ ∀ b pe', (b, pe') ∈ l0 → ((bif b then t else pc + 3), r, pe') ∈ z := by
  unfold xjump at h
  split at h
  · rename_i t l0 h1
    obtain rfl := Option.some.inj h
    exact ⟨t, l0, xtgt_ok h1, rfl, fun b pe' hb => List.mem_map.mpr ⟨(b, pe'), hb, rfl⟩⟩
  · cases h
theorem xw_icmp (hx : p.tables.exec = Jvm.exec) (hb : c.code = cc) {cd : ClassFile.Cond} {x y : Int32} {off : Int} {tgt : Nat} {rest : List Value} (hd : decode cc pc = .ok (.if_icmp cd off, 3)) (ht : (pc : Int) + off = (tgt : Int))
    (kk : ∀ b, b = xprop cd x y → W p l e R s m args below meth c H locs cells slots Q (F0 m (bif b then tgt else pc + 3) ls rest)) : W p l e R s m args below meth c H locs cells slots Q (F0 m pc ls (.int y :: .int x :: rest)) := by
  cases cd with
  | eq => exact lv_icmp_eq hx hb hd ht (fun h => kk true (by simp [xprop, h])) (fun h => kk false (by simp [xprop, h]))
  | ne => exact lv_icmp_ne hx hb hd ht (fun h => kk true (by simp [xprop, h])) (fun h => kk false (by simp [xprop, h]))
  | lt => exact lv_icmp_lt hx hb hd ht (fun h => kk true (decide_eq_true h).symm) (fun h => kk false (decide_eq_false h).symm)
  | ge => exact lv_icmp_ge hx hb hd ht (fun h => kk true (decide_eq_true h).symm) (fun h => kk false (decide_eq_false h).symm)
  | gt => exact lv_icmp_gt hx hb hd ht (fun h => kk true (decide_eq_true h).symm) (fun h => kk false (decide_eq_false h).symm)
  | le => exact lv_icmp_le hx hb hd ht (fun h => kk true (decide_eq_true h).symm) (fun h => kk false (decide_eq_false h).symm)
theorem xw_if (hx : p.tables.exec = Jvm.exec) (hb : c.code = cc) {cd : ClassFile.Cond} {x : Int32} {off : Int} {tgt : Nat} {rest : List Value} (hd : decode cc pc = .ok (.ifCond cd off, 3)) (ht : (pc : Int) + off = (tgt : Int))
    (kk : ∀ b, b = xprop cd x 0 → W p l e R s m args below meth c H locs cells slots Q (F0 m (bif b then tgt else pc + 3) ls rest)) : W p l e R s m args below meth c H locs cells slots Q (F0 m pc ls (.int x :: rest)) := by
  cases cd with
  | eq => exact lv_if_eq hx hb hd ht (fun h => kk true (by simp [xprop, h])) (fun h => kk false (by simp [xprop, h]))
  | ne => exact lv_if_ne hx hb hd ht (fun h => kk true (by simp [xprop, h])) (fun h => kk false (by simp [xprop, h]))
  | lt => exact lv_if_lt hx hb hd ht (fun h => kk true (decide_eq_true h).symm) (fun h => kk false (decide_eq_false h).symm)
  | ge => exact lv_if_ge hx hb hd ht (fun h => kk true (decide_eq_true h).symm) (fun h => kk false (decide_eq_false h).symm)
  | gt => exact lv_if_gt hx hb hd ht (fun h => kk true (decide_eq_true h).symm) (fun h => kk false (decide_eq_false h).symm)
  | le => exact lv_if_le hx hb hd ht (fun h => kk true (decide_eq_true h).symm) (fun h => kk false (decide_eq_false h).symm)
theorem xsw_ok {dflt low high : Int} {offs : Array Int} {r : List Value} {pv : Int → XP} : ∀ (n : Nat) (lo : Int) (z : List (Nat × List Value × XP)), xsw pc dflt low high offs r pv lo n = some z → ∀ v : Int, lo ≤ v → v < lo + n → ∃ t, xsel pc dflt low high offs v = some t ∧ (t, r, pv v) ∈ z
  | 0, lo, z, _, v, h1, h2 => by omega
  | n + 1, lo, z, h, v, h1, h2 => by
    unfold xsw at h
    split at h
    · rename_i t l0 e1 e2
      obtain rfl := Option.some.inj h
      by_cases hv : v = lo
      · subst hv
        exact ⟨t, e1, List.mem_cons_self⟩
      · obtain ⟨t2, h3, h4⟩ := xsw_ok n (lo + 1) l0 e2 v (by omega) (by omega)
        exact ⟨t2, h3, List.mem_cons_of_mem _ h4⟩
    · cases h
theorem xw_switch (hx : p.tables.exec = Jvm.exec) (hb : c.code = cc) {dflt low high : Int} {offs : Array Int} {n : Nat} {x : Int32} {t : Nat} {rest : List Value} (hd : decode cc pc = .ok (.tableswitch dflt low high offs, n)) (h : xsel pc dflt low high offs x.toInt = some t)
    (kk : W p l e R s m args below meth c H locs cells slots Q (F0 m t ls rest)) : W p l e R s m args below meth c H locs cells slots Q (F0 m pc ls (.int x :: rest)) := by
  unfold xsel at h
  cases h1 : (decide (x.toInt < low) || decide (high < x.toInt)) with
  | true =>
    rw [h1] at h
    simp only [Bool.or_eq_true, decide_eq_true_eq] at h1
    exact lv_tableOut hx hb hd h1 (xtgt_ok h) kk
  | false =>
    rw [h1] at h
    simp only [Bool.or_eq_false_iff, decide_eq_false_iff_not] at h1
    simp only [cond_false] at h
    split at h
    · rename_i off ho
      rw [xnth_eq] at ho
      exact lv_tableIn hx hb hd h1.1 h1.2 (by rw [← Array.getElem?_toList]; exact ho) (xtgt_ok h) kk
    · cases h
theorem xnul_ev {v : Value} {t : Bool} (h : xnul v = some t) : (t = true ∧ ev ad xs bS v = .null) ∨ (t = false ∧ ∃ a, ev ad xs bS v = .ref a) := by
  unfold xnul at h
  split at h <;> first | (cases h; exact Or.inl ⟨rfl, rfl⟩) | (cases h; exact Or.inr ⟨rfl, _, rfl⟩) | cases h
theorem xhk_idx {o : Nat} {c : XCl} : ∀ {h : XH}, xhk h o = some c → ∃ i : Nat, h[i]? = some (o, c)
  | [], h => nomatch h
  | (j, c') :: t, h => by
    unfold xhk at h
    cases hb : Nat.beq j o with
    | true =>
      rw [hb] at h
      have e1 : c' = c := Option.some.inj h
      have e2 := Nat.eq_of_beq_eq_true hb
      subst e1; subst e2
      exact ⟨0, rfl⟩
    | false =>
      rw [hb] at h
      obtain ⟨i, hi⟩ := xhk_idx h
      exact ⟨i + 1, hi⟩
/-- things with two numbers have two addresses -/
theorem xapart {h : XH} {a b : Nat} {E : Value → Value} (hD : va_D A (evH E ad aC h)) (ha : xsome (xhk h a) = true) (hb : xsome (xhk h b) = true) (hn : a ≠ b) : ad a ≠ ad b := by
  intro he
  cases h1 : xhk h a with
  | none => rw [h1] at ha; cases ha
  | some ca =>
    cases h2 : xhk h b with
    | none => rw [h2] at hb; cases hb
    | some cb =>
      obtain ⟨i, hi⟩ := xhk_idx h1
      obtain ⟨j, hj⟩ := xhk_idx h2
      have e1 : (evH E ad aC h)[i]? = some (ad a, evC E aC ca) := by unfold evH; rw [List.getElem?_map, hi]; rfl
      have e2 : (evH E ad aC h)[j]? = some (ad b, evC E aC cb) := by unfold evH; rw [List.getElem?_map, hj]; rfl
      have e3 := hD.1 i j _ _ e1 e2 he
      subst e3
      rw [hi] at hj
      cases hj
      exact hn rfl
theorem xsame_ev {h : XH} (hD : va_D A (evH (ev ad xs bS) ad aC h)) {v w : Value} {t : Bool} (hs : xsame h v w = some t) : ∃ rx ry, ev ad xs bS v = va_rf rx ∧ ev ad xs bS w = va_rf ry ∧ (t = true ↔ rx = ry) := by
  unfold xsame at hs
  split at hs
  · cases hs; exact ⟨none, none, rfl, rfl, by simp⟩
  · cases hs; exact ⟨some _, none, rfl, rfl, by simp⟩
  · cases hs; exact ⟨none, some _, rfl, rfl, by simp⟩
  · rename_i a b
    cases hb : Nat.beq a b with
    | true =>
      rw [hb] at hs
      cases hs
      have := Nat.eq_of_beq_eq_true hb
      subst this
      exact ⟨some (ad a), some (ad a), rfl, rfl, by simp⟩
    | false =>
      rw [hb] at hs
      cases hk : (xsome (xhk h a) && xsome (xhk h b)) with
      | false => rw [hk] at hs; cases hs
      | true =>
        rw [hk] at hs
        cases hs
        rw [Bool.and_eq_true] at hk
        have hn : ad a ≠ ad b := xapart hD hk.1 hk.2 (fun z => by subst z; rw [Nat.beq_refl] at hb; cases hb)
        exact ⟨some (ad a), some (ad b), rfl, rfl, by simp [hn]⟩
  · cases hs
theorem xb1_ok {b : Bool} {pe : XP} {o : Option Bool} {z : List (Bool × XP)} (h : xb1 b pe o = some z) : ∃ t, o = some t ∧ z = [(t == b, pe)] := by
  unfold xb1 at h
  split at h
  · exact ⟨_, rfl, (Option.some.inj h).symm⟩
  · cases h
theorem xbranch_ok {hh : XH} (hD : va_D A (evH (ev ad xs bS) ad aC hh)) (hx : p.tables.exec = Jvm.exec) (hb : c.code = cc) {i : Instr} {st : List Value} {pe : XP} {z : List (Nat × List Value × XP)} (h : xbranch hh pc i st pe = some z) (hs : xsat xs pe) (hd : decode cc pc = .ok (i, xil pc i))
    (kk : ∀ q ∈ z, xsat xs q.2.2 → W p l e R s m args below meth c H locs cells slots Q (F0 m q.1 ls (evS (ev ad xs bS) q.2.1))) : W p l e R s m args below meth c H locs cells slots Q (F0 m pc ls (evS (ev ad xs bS) st)) := by
  unfold xbranch at h
  split at h
  · split at h
    · rename_i off t ht
      obtain rfl := Option.some.inj h
      exact lv_goto hx hb hd (xtgt_ok ht) (kk _ List.mem_cons_self hs)
    · cases h
  · split at h
    · rename_i cd off st9 b a r
      obtain ⟨t, l0, h1, h2, h3⟩ := xjump_ok h
      obtain ⟨x, y, pe', h4, h5, h6, h7⟩ := xbrs_ok (ad := ad) (bS := bS) h2 hs
      show W p l e R s m args below meth c H locs cells slots Q (F0 m pc ls (ev ad xs bS b :: ev ad xs bS a :: evS (ev ad xs bS) r))
      rw [h4, h5]
      exact xw_icmp hx hb hd h1 (fun bb hbb => by rw [hbb]; exact kk _ (h3 _ _ h6) h7)
    · cases h
  · split at h
    · rename_i cd off a r
      obtain ⟨t, l0, h1, h2, h3⟩ := xjump_ok h
      obtain ⟨x, y, pe', h4, h5, h6, h7⟩ := xbrs_ok (ad := ad) (bS := bS) h2 hs
      cases h5
      show W p l e R s m args below meth c H locs cells slots Q (F0 m pc ls (ev ad xs bS a :: evS (ev ad xs bS) r))
      rw [h4]
      exact xw_if hx hb hd h1 (fun bb hbb => by rw [hbb]; exact kk _ (h3 _ _ h6) h7)
    · cases h
  · split at h
    · rename_i off a r
      obtain ⟨t, l0, h1, h2, h3⟩ := xjump_ok h
      obtain ⟨t2, h4, rfl⟩ := xb1_ok h2
      show W p l e R s m args below meth c H locs cells slots Q (F0 m pc ls (ev ad xs bS a :: evS (ev ad xs bS) r))
      rcases xnul_ev (ad := ad) (xs := xs) (bS := bS) h4 with ⟨rfl, h5⟩ | ⟨rfl, a9, h5⟩
      · rw [h5]
        exact lv_ifnullN hx hb hd h1 (kk _ (h3 _ _ List.mem_cons_self) hs)
      · rw [h5]
        exact lv_ifnull hx hb hd (kk _ (h3 _ _ List.mem_cons_self) hs)
    · cases h
  · split at h
    · rename_i off a r
      obtain ⟨t, l0, h1, h2, h3⟩ := xjump_ok h
      obtain ⟨t2, h4, rfl⟩ := xb1_ok h2
      show W p l e R s m args below meth c H locs cells slots Q (F0 m pc ls (ev ad xs bS a :: evS (ev ad xs bS) r))
      rcases xnul_ev (ad := ad) (xs := xs) (bS := bS) h4 with ⟨rfl, h5⟩ | ⟨rfl, a9, h5⟩
      · rw [h5]
        exact lv_ifnonnullN hx hb hd (kk _ (h3 _ _ List.mem_cons_self) hs)
      · rw [h5]
        exact lv_ifnonnull hx hb hd h1 (kk _ (h3 _ _ List.mem_cons_self) hs)
    · cases h
  · split at h
    · rename_i cd off st9 b a r
      obtain ⟨t, l0, h1, h2, h3⟩ := xjump_ok h
      obtain ⟨t2, h4, rfl⟩ := xb1_ok h2
      obtain ⟨rx, ry, h5, h6, h7⟩ := xsame_ev (ad := ad) (xs := xs) (bS := bS) hD h4
      show W p l e R s m args below meth c H locs cells slots Q (F0 m pc ls (ev ad xs bS b :: ev ad xs bS a :: evS (ev ad xs bS) r))
      rw [h5, h6]
      have hk := kk _ (h3 _ _ List.mem_cons_self) hs
      cases cd with
      | eq =>
        refine lv_acmp_eq hx hb hd h1 (fun z => ?_) (fun z => ?_)
        · rw [h7.mpr z] at hk; exact hk
        · have : t2 = false := by
            cases t2 with
            | true => exact absurd (h7.mp rfl) z
            | false => rfl
          rw [this] at hk; exact hk
      | ne =>
        refine lv_acmp_ne hx hb hd h1 (fun z => ?_) (fun z => ?_)
        · have : t2 = false := by
            cases t2 with
            | true => exact absurd (h7.mp rfl) z
            | false => rfl
          rw [this] at hk; exact hk
        · rw [h7.mpr z] at hk; exact hk
    · cases h
  · rename_i dflt low high offs
    split at h
    · rename_i x r
      obtain ⟨t, h1, h2⟩ := xsw_ok 1 _ _ h x.toInt (Int.le_refl _) (by omega)
      exact xw_switch hx hb hd h1 (kk _ h2 hs)
    · rename_i u r
      split at h
      · rename_i q hq
        rw [xnth_eq] at hq
        obtain ⟨g1, g2⟩ := hs _ _ hq
        obtain ⟨t, h1, h2⟩ := xsw_ok _ _ _ h (xs u.toNat).toInt g1 (by omega)
        exact xw_switch (x := xs u.toNat) hx hb hd h1 (kk _ h2 (xsat_set hs (Int.le_refl _) (Int.le_refl _)))
      · cases h
    · cases h
  · cases h
end XB
end
section
/-! whatever a runner's state speaks of has a number below the next: kept by every row -/
section XW0
theorem xbif9 {α : Type} {b : Bool} {x y : Option α} {q : α} (h : (bif b then x else y) = some q) : x = some q ∨ y = some q := by
  cases b with
  | true => exact Or.inl h
  | false => exact Or.inr h
theorem xov_mono {n m : Nat} (h : n ≤ m) {v : Value} (hv : xov n v = true) : xov m v = true := by
  cases v with
  | ref k => exact Nat.ble_eq_true_of_le (Nat.le_trans (Nat.le_of_ble_eq_true hv) h)
  | _ => rfl
theorem xoS_mono {n m : Nat} (h : n ≤ m) {st : List Value} (hs : xoS n st = true) : xoS m st = true :=
  List.all_eq_true.mpr fun v hv => xov_mono h (List.all_eq_true.mp hs v hv)
theorem xoL_mono {n m : Nat} (h : n ≤ m) {lv : XL} (hs : xoL n lv = true) : xoL m lv = true :=
  List.all_eq_true.mpr fun q hq => xov_mono h (List.all_eq_true.mp hs q hq)
theorem xoH_mono {n m : Nat} (h : n ≤ m) {hh : XH} (hs : xoH n hh = true) : xoH m hh = true :=
  List.all_eq_true.mpr fun q hq => by
    have h1 := List.all_eq_true.mp hs q hq
    rw [Bool.and_eq_true] at h1 ⊢
    exact ⟨Nat.ble_eq_true_of_le (Nat.le_trans (Nat.le_of_ble_eq_true h1.1) h), xoS_mono h h1.2⟩
theorem xoS_cons {n : Nat} {v : Value} {st : List Value} : xoS n (v :: st) = true ↔ xov n v = true ∧ xoS n st = true := by
  unfold xoS
  rw [List.all_cons, Bool.and_eq_true]
theorem xoS_app {n : Nat} {a b : List Value} : xoS n (a ++ b) = true ↔ xoS n a = true ∧ xoS n b = true := by
  unfold xoS
  rw [List.all_append, Bool.and_eq_true]
theorem xoS_mem {n : Nat} {st : List Value} (h : xoS n st = true) {v : Value} (hv : v ∈ st) : xov n v = true := List.all_eq_true.mp h v hv
theorem xoL_lk {n i : Nat} {v : Value} {lv : XL} (h : xoL n lv = true) (hv : xlk lv i = some v) : xov n v = true := List.all_eq_true.mp h _ (xlk_mem hv)
theorem xoL_ins {n i : Nat} {v : Value} {lv : XL} (h : xoL n lv = true) (hv : xov n v = true) : xoL n (xins i v lv) = true :=
  List.all_eq_true.mpr fun q hq => (List.mem_cons.mp (xins_mem hq)).elim (fun e => by rw [e]; exact hv) (fun e => List.all_eq_true.mp h q e)
theorem xoL_filter {n : Nat} {lv : XL} (f : Nat × Value → Bool) (h : xoL n lv = true) : xoL n (lv.filter f) = true :=
  List.all_eq_true.mpr fun q hq => List.all_eq_true.mp h q (List.mem_filter.mp hq).1
theorem xoH_at {n o : Nat} {c : XCl} {h : XH} (hh : xoH n h = true) (hk : xhk h o = some c) : o + 1 ≤ n ∧ xoS n c.2.2 = true := by
  obtain ⟨i, hi⟩ := xhk_idx hk
  have h1 := List.all_eq_true.mp hh _ (List.mem_of_getElem? hi)
  rw [Bool.and_eq_true] at h1
  exact ⟨Nat.le_of_ble_eq_true h1.1, h1.2⟩
theorem xoH_put {n o : Nat} {d : XCl} : ∀ {h : XH}, xoH n h = true → xoS n d.2.2 = true → xoH n (xhs h o d) = true
  | [], _, _ => rfl
  | (j, c) :: t, hh, hd => by
    have h1 : (Nat.ble (j + 1) n && xoS n c.2.2) = true ∧ xoH n t = true := by
      unfold xoH at hh ⊢
      rw [List.all_cons, Bool.and_eq_true] at hh
      exact hh
    unfold xhs
    cases hb : Nat.beq j o with
    | true =>
      show xoH n ((j, d) :: t) = true
      unfold xoH
      rw [List.all_cons, Bool.and_eq_true]
      rw [Bool.and_eq_true] at h1
      exact ⟨by rw [Bool.and_eq_true]; exact ⟨h1.1.1, hd⟩, h1.2⟩
    | false =>
      show xoH n ((j, c) :: xhs t o d) = true
      have := xoH_put h1.2 hd (o := o)
      unfold xoH at this ⊢
      rw [List.all_cons, Bool.and_eq_true]
      exact ⟨h1.1, this⟩
theorem xoS_set {n : Nat} {vs : List Value} {j : Nat} {v : Value} (h : xoS n vs = true) (hv : xov n v = true) : xoS n (vs.set j v) = true :=
  List.all_eq_true.mpr fun w hw => (List.mem_or_eq_of_mem_set hw).elim (fun z => List.all_eq_true.mp h w z) (fun z => by rw [z]; exact hv)
theorem xoS_take {n k : Nat} {st : List Value} (h : xoS n st = true) : xoS n (st.take k) = true := List.all_eq_true.mpr fun v hv => List.all_eq_true.mp h v (List.mem_of_mem_take hv)
theorem xoS_drop {n k : Nat} {st : List Value} (h : xoS n st = true) : xoS n (st.drop k) = true := List.all_eq_true.mpr fun v hv => List.all_eq_true.mp h v (List.mem_of_mem_drop hv)
theorem xoS_rev {n : Nat} {st : List Value} (h : xoS n st = true) : xoS n st.reverse = true := List.all_eq_true.mpr fun v hv => List.all_eq_true.mp h v (List.mem_reverse.mp hv)
theorem xal_mk {n : Nat} {lv : XL} {st : List Value} {h : XH} (h1 : xoL n lv = true) (h2 : xoS n st = true) (h3 : xoH n h = true) : xal n lv st h = true := by
  unfold xal
  rw [h1, h2, h3]; rfl
/-! one method's own numbers -/
theorem xst1_kept {n nL i : Nat} {v : Value} {lv l : XL} (h : xst1 nL i v lv = some l) (hL : xoL n lv = true) (hv : xov n v = true) : xoL n l = true := by
  unfold xst1 at h
  cases hb : Nat.ble (i + 1) nL with
  | true => rw [hb] at h; obtain rfl := Option.some.inj h; exact xoL_ins (xoL_filter _ hL) hv
  | false => rw [hb] at h; cases h
theorem xst2_kept {n nL i : Nat} {v : Value} {lv l : XL} (h : xst2 nL i v lv = some l) (hL : xoL n lv = true) (hv : xov n v = true) : xoL n l = true := by
  unfold xst2 at h
  cases hb : Nat.ble (i + 2) nL with
  | true => rw [hb] at h; obtain rfl := Option.some.inj h; exact xoL_ins (xoL_filter _ hL) hv
  | false => rw [hb] at h; cases h
theorem xld_kept {n i : Nat} {ok : Value → Bool} {lv : XL} {st : List Value} {q : XL × List Value} (h : xld ok lv st i = some q) (hL : xoL n lv = true) (hS : xoS n st = true) : xoL n q.1 = true ∧ xoS n q.2 = true := by
  obtain ⟨v, h1, -, rfl⟩ := xld_spec h
  exact ⟨hL, xoS_cons.mpr ⟨xoL_lk hL h1, hS⟩⟩
theorem xstr1_kept {n nL i : Nat} {ok : Value → Bool} {lv : XL} {st : List Value} {q : XL × List Value} (h : xstr1 ok nL i lv st = some q) (hL : xoL n lv = true) (hS : xoS n st = true) : xoL n q.1 = true ∧ xoS n q.2 = true := by
  obtain ⟨v, r, l, rfl, -, h1, rfl⟩ := xstr1_spec h
  exact ⟨xst1_kept h1 hL (xoS_cons.mp hS).1, (xoS_cons.mp hS).2⟩
theorem xstr2_kept {n nL i : Nat} {ok : Value → Bool} {lv : XL} {st : List Value} {q : XL × List Value} (h : xstr2 ok nL i lv st = some q) (hL : xoL n lv = true) (hS : xoS n st = true) : xoL n q.1 = true ∧ xoS n q.2 = true := by
  obtain ⟨v, r, l, rfl, -, h1, rfl⟩ := xstr2_spec h
  exact ⟨xst2_kept h1 hL (xoS_cons.mp hS).1, (xoS_cons.mp hS).2⟩
theorem xbin_kept {n : Nat} {f : Int32 → Int32 → Int32} {lv : XL} {st : List Value} {q : XL × List Value} (h : xbin f lv st = some q) (hL : xoL n lv = true) (hS : xoS n st = true) : xoL n q.1 = true ∧ xoS n q.2 = true := by
  obtain ⟨x, y, r, rfl, rfl⟩ := xbin_spec h
  exact ⟨hL, xoS_cons.mpr ⟨rfl, (xoS_cons.mp (xoS_cons.mp hS).2).2⟩⟩
theorem xbil_kept {n : Nat} {f : Int64 → Int64 → Int64} {lv : XL} {st : List Value} {q : XL × List Value} (h : xbil f lv st = some q) (hL : xoL n lv = true) (hS : xoS n st = true) : xoL n q.1 = true ∧ xoS n q.2 = true := by
  obtain ⟨x, y, r, rfl, rfl⟩ := xbil_spec h
  exact ⟨hL, xoS_cons.mpr ⟨rfl, (xoS_cons.mp (xoS_cons.mp hS).2).2⟩⟩
theorem xbinz_kept {n : Nat} {f : Int32 → Int32 → Int32} {lv : XL} {st : List Value} {q : XL × List Value} (h : xbinz f lv st = some q) (hL : xoL n lv = true) (hS : xoS n st = true) : xoL n q.1 = true ∧ xoS n q.2 = true := by
  unfold xbinz at h
  split at h
  · rename_i y x r
    cases hz : decide (y = 0) with
    | true => rw [hz] at h; cases h
    | false =>
      rw [hz] at h
      obtain rfl := Option.some.inj h
      exact ⟨hL, xoS_cons.mpr ⟨rfl, (xoS_cons.mp (xoS_cons.mp hS).2).2⟩⟩
  · cases h
set_option maxHeartbeats 1000000 in
theorem xsimple_kept {n nL : Nat} {i : Instr} {aux : List Nat} {lv : XL} {st : List Value} {q : XL × List Value} (h : xsimple nL i aux lv st = some q) (hL : xoL n lv = true) (hS : xoS n st = true) : xoL n q.1 = true ∧ xoS n q.2 = true := by
  have push : ∀ v : Value, xov n v = true → (some (lv, v :: st) = some q) → xoL n q.1 = true ∧ xoS n q.2 = true := fun v hv h9 => by
    obtain rfl := Option.some.inj h9
    exact ⟨hL, xoS_cons.mpr ⟨hv, hS⟩⟩
  unfold xsimple at h
  split at h
  · exact push _ rfl h
  · exact push _ rfl h
  · exact push _ rfl h
  · exact push _ rfl h
  · rcases xbif9 h with h | h
    · exact push _ rfl h
    · cases h
  · split at h
    · exact push _ rfl h
    · cases h
  · exact xld_kept h hL hS
  · exact xld_kept h hL hS
  · exact xld_kept h hL hS
  · exact xld_kept h hL hS
  · exact xld_kept h hL hS
  · exact xld_kept h hL hS
  · exact xld_kept h hL hS
  · exact xstr1_kept h hL hS
  · exact xstr1_kept h hL hS
  · exact xstr1_kept h hL hS
  · exact xstr1_kept h hL hS
  · exact xstr2_kept h hL hS
  · exact xstr2_kept h hL hS
  · exact xstr2_kept h hL hS
  · unfold xinc at h
    split at h
    · split at h
      · rename_i l1 h1
        obtain rfl := Option.some.inj h
        exact ⟨xst1_kept h1 hL rfl, hS⟩
      · cases h
    · cases h
  · exact xbin_kept h hL hS
  · exact xbin_kept h hL hS
  · exact xbin_kept h hL hS
  · exact xbin_kept h hL hS
  · exact xbin_kept h hL hS
  · unfold xand at h
    split at h
    · obtain rfl := Option.some.inj h
      exact ⟨hL, xoS_cons.mpr ⟨rfl, (xoS_cons.mp (xoS_cons.mp hS).2).2⟩⟩
    · cases h
  · unfold xi2l at h
    split at h
    · obtain rfl := Option.some.inj h
      exact ⟨hL, xoS_cons.mpr ⟨rfl, (xoS_cons.mp hS).2⟩⟩
    · cases h
  · exact xbil_kept h hL hS
  · exact xbil_kept h hL hS
  · unfold xlcm at h
    split at h
    · obtain rfl := Option.some.inj h
      exact ⟨hL, xoS_cons.mpr ⟨rfl, (xoS_cons.mp (xoS_cons.mp hS).2).2⟩⟩
    · cases h
  · unfold xdcm at h
    split at h
    · obtain rfl := Option.some.inj h
      exact ⟨hL, xoS_cons.mpr ⟨rfl, (xoS_cons.mp (xoS_cons.mp hS).2).2⟩⟩
    · cases h
  · unfold xdup at h
    split at h
    · rcases xbif9 h with h | h
      · obtain rfl := Option.some.inj h
        exact ⟨hL, xoS_cons.mpr ⟨(xoS_cons.mp hS).1, hS⟩⟩
      · cases h
    · cases h
  · unfold xdupx at h
    split at h
    · rcases xbif9 h with h | h
      · obtain rfl := Option.some.inj h
        exact ⟨hL, xoS_cons.mpr ⟨(xoS_cons.mp hS).1, xoS_cons.mpr ⟨(xoS_cons.mp (xoS_cons.mp hS).2).1, xoS_cons.mpr ⟨(xoS_cons.mp hS).1, (xoS_cons.mp (xoS_cons.mp hS).2).2⟩⟩⟩⟩
      · cases h
    · cases h
  · exact xbin_kept h hL hS
  · exact xbin_kept h hL hS
  · exact xbinz_kept h hL hS
  · exact xbinz_kept h hL hS
  · unfold xdup2 at h
    split at h
    · rcases xbif9 h with h | h
      · obtain rfl := Option.some.inj h
        exact ⟨hL, xoS_cons.mpr ⟨(xoS_cons.mp hS).1, xoS_cons.mpr ⟨(xoS_cons.mp (xoS_cons.mp hS).2).1, hS⟩⟩⟩
      · cases h
    · cases h
  · unfold xdupx2 at h
    split at h
    · rcases xbif9 h with h | h
      · obtain rfl := Option.some.inj h
        obtain ⟨a1, a2⟩ := xoS_cons.mp hS
        obtain ⟨a3, a4⟩ := xoS_cons.mp a2
        obtain ⟨a5, a6⟩ := xoS_cons.mp a4
        exact ⟨hL, xoS_cons.mpr ⟨a1, xoS_cons.mpr ⟨a3, xoS_cons.mpr ⟨a5, xoS_cons.mpr ⟨a1, a6⟩⟩⟩⟩⟩
      · cases h
    · cases h
  · unfold xpop at h
    split at h
    · rcases xbif9 h with h | h
      · obtain rfl := Option.some.inj h
        exact ⟨hL, (xoS_cons.mp hS).2⟩
      · cases h
    · cases h
  · cases h
/-! cells -/
theorem xrefw_kept {w : Nat} : ∀ (N n m : Nat), (∀ j, j < N → n + j * w + 1 ≤ m) → xoS m (xrefw n w N) = true
  | 0, _, _, _ => rfl
  | N + 1, n, m, h => by
    refine xoS_cons.mpr ⟨Nat.ble_eq_true_of_le (by have := h 0 (by omega); omega), xrefw_kept N (n + w) m (fun j hj => ?_)⟩
    have := h (j + 1) (by omega)
    rw [Nat.succ_mul] at this
    omega
theorem xoH_app {n : Nat} {a b : XH} (h1 : xoH n a = true) (h2 : xoH n b = true) : xoH n (a ++ b) = true := by
  unfold xoH at h1 h2 ⊢
  rw [List.all_append, h1, h2]; rfl
theorem xoH_one {n o : Nat} {c : XCl} {t : XH} (h1 : o + 1 ≤ n) (h2 : xoS n c.2.2 = true) (h3 : xoH n t = true) : xoH n ((o, c) :: t) = true := by
  unfold xoH at h3 ⊢
  rw [List.all_cons, h3, Bool.and_true, Bool.and_eq_true]
  exact ⟨Nat.ble_eq_true_of_le h1, h2⟩
theorem xrows_kept {c : XCl} : ∀ (N n m : Nat), n + N ≤ m → xoS m c.2.2 = true → xoH m (xrows n c N) = true
  | 0, _, _, _, _ => rfl
  | N + 1, n, m, h, hc => xoH_one (by omega) hc (xrows_kept N (n + 1) m (by omega) hc)
theorem xgrid_kept {M : Nat} : ∀ (N n m : Nat), n + N * (1 + M) ≤ m → xoH m (xgrid n M N) = true
  | 0, _, _, _ => rfl
  | N + 1, n, m, h => by
    rw [Nat.succ_mul] at h
    refine xoH_app (xoH_one (by omega) (xrefw_kept M (n + 1) m (fun j hj => by omega)) (xrows_kept M (n + 1) m (by omega) rfl)) (xgrid_kept N (n + (1 + M)) m (by omega))
theorem xrep_kept {n k : Nat} {ti : Nat} : xoS n (List.replicate k (xdv ti)) = true := List.all_eq_true.mpr fun v hv => by
  rw [List.eq_of_mem_replicate hv]
  unfold xdv
  split <;> rfl
theorem xD_kept {n ci : Nat} : xoS n (xD ci) = true := List.all_eq_true.mpr fun v hv => by
  unfold xD at hv
  obtain ⟨k, -, rfl⟩ := List.mem_map.mp hv
  cases xTy ci k <;> rfl
theorem xnew_kept {R : Room} {lv : XL} {r : List Value} {σ : XS} {cl : XCl} {ns : Nat} {q : List Value × XS} (h : xnew R lv r σ cl ns = some q) (hL : xoL σ.2.2.1 lv = true) (hS : xoS σ.2.2.1 r = true) (hH : xoH σ.2.2.1 σ.2.1 = true) (hc : ∀ m, xoS m cl.2.2 = true) :
    σ.2.2.1 ≤ q.2.2.2.1 ∧ xal q.2.2.2.1 lv q.1 q.2.2.1 = true := by
  obtain ⟨pe, hh, n, ce, sl⟩ := σ
  unfold xnew at h
  dsimp only at h hL hS hH ⊢
  rcases xbif9 h with h | h
  · obtain rfl := Option.some.inj h
    refine ⟨Nat.le_succ n, xal_mk (xoL_mono (Nat.le_succ n) hL) (xoS_cons.mpr ⟨Nat.ble_eq_true_of_le (Nat.le_refl _), xoS_mono (Nat.le_succ n) hS⟩) (xoH_app (xoH_mono (Nat.le_succ n) hH) (xoH_one (Nat.le_refl _) (hc _) rfl))⟩
  · cases h
theorem xald_kept {ok : Value → Bool} {oti : Nat → Bool} {lv : XL} {st : List Value} {σ : XS} {q : List Value × XS} (h : xald ok oti st σ = some q) (hL : xoL σ.2.2.1 lv = true) (hS : xoS σ.2.2.1 st = true) (hH : xoH σ.2.2.1 σ.2.1 = true) : σ.2.2.1 ≤ q.2.2.2.1 ∧ xal q.2.2.2.1 lv q.1 q.2.2.1 = true := by
  obtain ⟨i, o, r, ti, vs, j, v, rfl, hk, -, -, hv, -, rfl⟩ := xald_spec h
  exact ⟨Nat.le_refl _, xal_mk hL (xoS_cons.mpr ⟨xoS_mem (xoH_at hH hk).2 (List.mem_of_getElem? hv), (xoS_cons.mp (xoS_cons.mp hS).2).2⟩) hH⟩
theorem xast_kept {ok : Value → Bool} {oti : Nat → Bool} {lv : XL} {st : List Value} {σ : XS} {q : List Value × XS} (h : xast ok oti st σ = some q) (hL : xoL σ.2.2.1 lv = true) (hS : xoS σ.2.2.1 st = true) (hH : xoH σ.2.2.1 σ.2.1 = true) : σ.2.2.1 ≤ q.2.2.2.1 ∧ xal q.2.2.2.1 lv q.1 q.2.2.1 = true := by
  obtain ⟨v, i, o, r, ti, vs, j, rfl, hk, -, -, -, rfl⟩ := xast_spec h
  obtain ⟨a1, a2⟩ := xoS_cons.mp hS
  exact ⟨Nat.le_refl _, xal_mk hL (xoS_cons.mp (xoS_cons.mp a2).2).2 (xoH_put hH (xoS_set (xoH_at hH hk).2 a1))⟩
theorem xnewm2_kept {R : Room} {aux : List Nat} {lv : XL} {st : List Value} {σ : XS} {q : List Value × XS} (h : xnewm2 R aux st σ = some q) (hL : xoL σ.2.2.1 lv = true) (hS : xoS σ.2.2.1 st = true) (hH : xoH σ.2.2.1 σ.2.1 = true) : σ.2.2.1 ≤ q.2.2.2.1 ∧ xal q.2.2.2.1 lv q.1 q.2.2.1 = true := by
  obtain ⟨pe, hh, n, ce, sl⟩ := σ
  dsimp only at hL hS hH
  unfold xnewm2 at h
  split at h
  · rename_i to ti tl k m9 r pe' hh' n' ce' sl' heq
    cases heq
    rcases xbif9 h with h | h
    · cases h
    · rcases xbif9 h with h | h
      · obtain rfl := Option.some.inj h
        dsimp only
        have hle : n ≤ n + 1 + m9.toNatClampNeg := by omega
        exact ⟨hle, xal_mk (xoL_mono hle hL) (xoS_cons.mpr ⟨Nat.ble_eq_true_of_le (by omega), xoS_mono hle (xoS_cons.mp (xoS_cons.mp hS).2).2⟩) (xoH_app (xoH_mono hle hH) (xoH_one (by omega) (xrefw_kept _ _ _ (fun j hj => by omega)) (xrows_kept _ _ _ (by omega) xrep_kept)))⟩
      · cases h
  · cases h
theorem xnewm3_kept {R : Room} {lv : XL} {st : List Value} {σ : XS} {q : List Value × XS} (h : xnewm3 R st σ = some q) (hL : xoL σ.2.2.1 lv = true) (hS : xoS σ.2.2.1 st = true) (hH : xoH σ.2.2.1 σ.2.1 = true) : σ.2.2.1 ≤ q.2.2.2.1 ∧ xal q.2.2.2.1 lv q.1 q.2.2.1 = true := by
  obtain ⟨pe, hh, n, ce, sl⟩ := σ
  dsimp only at hL hS hH
  unfold xnewm3 at h
  split at h
  · rename_i z k m9 r pe' hh' n' ce' sl' heq
    cases heq
    rcases xbif9 h with h | h
    · obtain rfl := Option.some.inj h
      dsimp only
      have hle : n ≤ n + 1 + m9.toNatClampNeg * (1 + k.toNatClampNeg) := by omega
      refine ⟨hle, xal_mk (xoL_mono hle hL) (xoS_cons.mpr ⟨Nat.ble_eq_true_of_le (by omega), xoS_mono hle (xoS_cons.mp (xoS_cons.mp (xoS_cons.mp hS).2).2).2⟩) (xoH_app (xoH_mono hle hH) (xoH_one (by omega) (xrefw_kept _ _ _ (fun j hj => ?_)) (xgrid_kept _ _ _ (by omega))))⟩
      have := Nat.mul_le_mul_right (1 + k.toNatClampNeg) (show j + 1 ≤ m9.toNatClampNeg from hj)
      rw [Nat.succ_mul] at this
      omega
    · cases h
  · cases h
set_option maxHeartbeats 1000000 in
theorem xheap_kept {scr : Option (Nat × (Nat → Int32))} {R : Room} {i : Instr} {aux : List Nat} {lv : XL} {st : List Value} {σ : XS} {q : List Value × XS} (h : xheap scr R i aux lv st σ = some q) (hw : xal σ.2.2.1 lv st σ.2.1 = true) : σ.2.2.1 ≤ q.2.2.2.1 ∧ xal q.2.2.2.1 lv q.1 q.2.2.1 = true := by
  obtain ⟨hL, hS, hH⟩ := xal_spec hw
  unfold xheap at h
  split at h
  · unfold xget at h
    split at h
    · split at h
      · rename_i cj fs hk
        rcases xbif9 h with h | h
        · split at h
          · rename_i v hv
            rw [xnth_eq] at hv
            obtain rfl := Option.some.inj h
            exact ⟨Nat.le_refl _, xal_mk hL (xoS_cons.mpr ⟨xoS_mem (xoH_at hH hk).2 (List.mem_of_getElem? hv), (xoS_cons.mp hS).2⟩) hH⟩
          · cases h
        · cases h
      · cases h
    · cases h
  · unfold xput at h
    split at h
    · split at h
      · rename_i cj fs hk
        rcases xbif9 h with h | h
        · obtain rfl := Option.some.inj h
          obtain ⟨a1, a2⟩ := xoS_cons.mp hS
          refine ⟨Nat.le_refl _, xal_mk hL (xoS_cons.mp a2).2 (xoH_put hH ?_)⟩
          show xoS _ (xset fs _ _) = true
          rw [xset_eq]
          exact xoS_set (xoH_at hH hk).2 a1
        · cases h
      · cases h
    · cases h
  · unfold xnewo at h
    split at h
    · exact xnew_kept h hL hS hH (fun _ => xD_kept)
    · cases h
  · unfold xnewa at h
    split at h
    · rcases xbif9 h with h | h
      · cases h
      · rcases xbif9 h with h | h
        · exact xnew_kept h hL (xoS_cons.mp hS).2 hH (fun _ => xrep_kept)
        · cases h
    · cases h
  · unfold xnewa at h
    split at h
    · rcases xbif9 h with h | h
      · cases h
      · rcases xbif9 h with h | h
        · exact xnew_kept h hL (xoS_cons.mp hS).2 hH (fun _ => xrep_kept)
        · cases h
    · cases h
  · rcases xbif9 h with h | h
    · exact xnewm2_kept h hL hS hH
    · rcases xbif9 h with h | h
      · exact xnewm3_kept h hL hS hH
      · cases h
  · unfold xlen at h
    split at h
    · split at h
      · rcases xbif9 h with h | h
        · obtain rfl := Option.some.inj h
          exact ⟨Nat.le_refl _, xal_mk hL (xoS_cons.mpr ⟨rfl, (xoS_cons.mp hS).2⟩) hH⟩
        · cases h
      · cases h
    · split at h
      · obtain rfl := Option.some.inj h
        exact ⟨Nat.le_refl _, xal_mk hL (xoS_cons.mpr ⟨rfl, (xoS_cons.mp hS).2⟩) hH⟩
      · cases h
    · cases h
  · unfold xild at h
    split at h
    · split at h
      · split at h
        · obtain rfl := Option.some.inj h
          exact ⟨Nat.le_refl _, xal_mk hL (xoS_cons.mpr ⟨rfl, (xoS_cons.mp (xoS_cons.mp hS).2).2⟩) hH⟩
        · cases h
      · cases h
    · exact xald_kept h hL hS hH
  · exact xald_kept h hL hS hH
  · exact xald_kept h hL hS hH
  · exact xald_kept h hL hS hH
  · exact xast_kept h hL hS hH
  · exact xast_kept h hL hS hH
  · exact xast_kept h hL hS hH
  · unfold xasa at h
    split at h
    · exact xast_kept h hL hS hH
    · split at h
      · rcases xbif9 h with h | h
        · exact xast_kept h hL hS hH
        · cases h
      · cases h
    · cases h
  · cases h
theorem xjump_kept {pc : Nat} {off : Int} {r : List Value} {o : Option (List (Bool × XP))} {z : List (Nat × List Value × XP)} (h : xjump pc off r o = some z) : ∀ q ∈ z, q.2.1 = r := by
  unfold xjump at h
  split at h
  · obtain rfl := Option.some.inj h
    intro q hq
    unfold xtwo at hq
    obtain ⟨a, -, rfl⟩ := List.mem_map.mp hq
    rfl
  · cases h
theorem xsw_kept {pc : Nat} {dflt low high : Int} {offs : Array Int} {r : List Value} {pv : Int → XP} : ∀ (n : Nat) (lo : Int) (z : List (Nat × List Value × XP)), xsw pc dflt low high offs r pv lo n = some z → ∀ q ∈ z, q.2.1 = r
  | 0, lo, z, h, q, hq => by
    obtain rfl := Option.some.inj h
    cases hq
  | n + 1, lo, z, h, q, hq => by
    unfold xsw at h
    split at h
    · rename_i t l0 e1 e2
      obtain rfl := Option.some.inj h
      rcases List.mem_cons.mp hq with rfl | hq
      · rfl
      · exact xsw_kept n (lo + 1) l0 e2 q hq
    · cases h
theorem xbranch_kept {hh : XH} {pc : Nat} {i : Instr} {st : List Value} {pe : XP} {z : List (Nat × List Value × XP)} {n : Nat} (h : xbranch hh pc i st pe = some z) (hS : xoS n st = true) : ∀ q ∈ z, xoS n q.2.1 = true := by
  intro q hq
  unfold xbranch at h
  split at h
  · split at h
    · obtain rfl := Option.some.inj h
      rcases List.mem_cons.mp hq with rfl | hq
      · exact hS
      · cases hq
    · cases h
  · split at h
    · rw [xjump_kept h q hq]; exact (xoS_cons.mp (xoS_cons.mp hS).2).2
    · cases h
  · split at h
    · rw [xjump_kept h q hq]; exact (xoS_cons.mp hS).2
    · cases h
  · split at h
    · rw [xjump_kept h q hq]; exact (xoS_cons.mp hS).2
    · cases h
  · split at h
    · rw [xjump_kept h q hq]; exact (xoS_cons.mp hS).2
    · cases h
  · split at h
    · rw [xjump_kept h q hq]; exact (xoS_cons.mp (xoS_cons.mp hS).2).2
    · cases h
  · split at h
    · rw [xsw_kept _ _ _ h q hq]; exact (xoS_cons.mp hS).2
    · split at h
      · rw [xsw_kept _ _ _ h q hq]; exact (xoS_cons.mp hS).2
      · cases h
    · cases h
  · cases h
end XW0
end
section
/-! what holds of the tables all along; a call's words -/
section XW
def xTs : List Jvm.Cond := lw_tbl.filter goodWord
theorem xTs_in {w : Jvm.Cond} {i : Nat} (h : lw_tbl[i]? = some w) (hg : goodWord w = true) : w ∈ xTs := List.mem_filter.mpr ⟨List.mem_of_getElem? h, hg⟩
theorem xTs_good {ws : List Jvm.Cond} (h : ∀ w ∈ ws, w ∈ xTs) : GoodIn xTs ws := fun w hw => ⟨h w hw, good_of_word (List.mem_filter.mp (h w hw)).2⟩
def exN : Nat → String
  | 0 => "java/lang/IndexOutOfBoundsException"
  | 1 => "java/lang/IllegalArgumentException"
  | _ => "java/lang/IllegalStateException"
/-- words that don't keep by themselves -/
def xngk : Jvm.Cond → Bool
  | .castable _ _ => true
  | .declares _ => true
  | .methodLinkNest _ _ _ _ => true
  | _ => false
def xNg : List Jvm.Cond := lw_tbl.filter xngk
theorem xNg_in {w : Jvm.Cond} {i : Nat} (h : lw_tbl[i]? = some w) (hg : xngk w = true) : w ∈ xNg := List.mem_filter.mpr ⟨List.mem_of_getElem? h, hg⟩
theorem xng_tab {w : Jvm.Cond} (h : xngk w = true) : w.onTables = true := by
  cases w <;> first | rfl | (simp [xngk] at h)
theorem xng_warm {w : Jvm.Cond} (h : xngk w = true) {s U : State} (hW : s.WarmedH U.vm) (hZ : va_Nw w s) : va_Nw w U := by
  cases w <;> first | exact va_Nw.warmC hW hZ | exact va_Nw.warmD hW hZ | exact va_Nw.warmM hW hZ | (simp [xngk] at h)
/-- the texts of the thrown exceptions, by their places in PackWright's pool -/
def xStr : List (Nat × String) := lw_tbl.filterMap fun w => match w with
  | .stringRef "PackWright" k t => some (k, t)
  | _ => none
def xSta (D : va_G) (aC : Nat → ClassId) (A : Nat → Prop) (xs : Nat → Int32) (bS : Nat) (scr : Option (Nat × (Nat → Int32))) (U : State) : Prop :=
  va_K D classes (xtys aC) U ∧ (∀ w ∈ xNg, va_Nw w U) ∧ (∀ ti C, ti ≤ 5 → xty ti = .object C → va_AO C U) ∧ (∀ ty, (ty = FieldType.array .int ∨ ty = .array .boolean ∨ ty = .array (.array .int)) → (Jvm.Cond.arrayOver ty).before #[] U = true) ∧
  (∀ q ∈ xStr, ∃ a, vk_R "PackWright" q.1 q.2 a U) ∧ vx_Zq Bundle.tN "UNASSIGNED_STACK" Bundle.steD A U U.heap ∧ vx_Zq Bundle.tN "SUPPRESSED_SENTINEL" Bundle.listD A U U.heap ∧ (∀ i j, i ≤ 2 → j ≤ 2 → i ≠ j → va_Nc (exN i) (exN j) U) ∧ (∀ L ys, scr = some (L, ys) → ys = xs ∧ va_X bS L xs U U.heap ∧ bS < U.heap.size ∧ ¬ A bS)
theorem xSta_move {D : va_G} {aC : Nat → ClassId} {A : Nat → Prop} {xs : Nat → Int32} {bS : Nat} {scr : Option (Nat × (Nat → Int32))} {s U : State} (hW : s.WarmedH U.vm) (hq : ∀ a : Nat, a < s.heap.size → ¬ A a → U.heap[a]? = s.heap[a]?) (h : xSta D aC A xs bS scr s) : xSta D aC A xs bS scr U := by
  obtain ⟨h1, h2, h3, h4, h5, h6, h7, h8, h10⟩ := h
  refine ⟨va_K.moved hW.alike h1, fun w hw => xng_warm (List.mem_filter.mp hw).2 hW (h2 w hw), fun ti C a b => va_AO.moved hW.alike (h3 ti C a b), fun ty hty => ?_, fun q hq9 => ?_, (h6.moved hW.alike).kept hq, (h7.moved hW.alike).kept hq, fun i j a b n => (h8 i j a b n).moved hW.alike, fun L ys hL => ?_⟩
  · have h9 := h4 ty hty
    rcases hty with rfl | rfl | rfl
    · exact arrayOver_alikeB hW.alike h9
    · exact arrayOver_alikeB hW.alike h9
    · exact arrayOver_alikeB hW.alike h9
  · obtain ⟨a, ha⟩ := h5 q hq9
    exact ⟨a, vk_R.warm hW ha⟩
  · obtain ⟨x1, x2, x3, x4⟩ := h10 L ys hL
    have x5 := (va_X.moved hW.alike x2).kept (hq bS x3 x4)
    refine ⟨x1, x5, ?_, x4⟩
    obtain ⟨c9, hc9, -⟩ := x5
    exact (Array.getElem?_eq_some_iff.mp hc9).1
theorem xSta_calling {D : va_G} {aC : Nat → ClassId} {A : Nat → Prop} {xs : Nat → Int32} {bS : Nat} {scr : Option (Nat × (Nat → Int32))} {U : State} {g : JFrame} {mk : MethodId} {a : Array Value} (h : xSta D aC A xs bS scr U) : xSta D aC A xs bS scr (U.calling g mk a) :=
  xSta_move (U := U.calling g mk a) (State.WarmedH.refl U) (fun _ _ _ => rfl) h
def xmY (M : XM) : MethodName := M.1
def xmB (M : XM) : ByteArray := M.2.1
def xmV (M : XM) : Option FieldType := M.2.2.2.1
/-- a method's own word -/
def xmW (M : XM) : Jvm.Cond := match xmT M with
  | [] => .code (xmY M) (xmB M) (xmN M) (xmV M)
  | q :: t => .codeWith (xmY M) (xmB M) (xmN M) (xmV M) (q :: t)
def xmWs (M : XM) : List Jvm.Cond := xmW M :: xTs
/-- a world with its numbers -/
def xWld (D : va_G) (aC : Nat → ClassId) (A : Nat → Prop) (ad : Nat → Nat) (xs : Nat → Int32) (bS : Nat) (h : XH) (H : Heap) : Prop := va_P D classes (evH (ev ad xs bS) ad aC h) H ∧ va_D A (evH (ev ad xs bS) ad aC h)
def xPre (D : va_G) (aC : Nat → ClassId) (A : Nat → Prop) (ad : Nat → Nat) (xs : Nat → Int32) (bS : Nat) (scr : Option (Nat × (Nat → Int32))) (h : XH) (U : State) : Prop :=
  xSta D aC A xs bS scr U ∧ xWld D aC A ad xs bS h U.heap ∧ ∀ q, U.heap.size ≤ q → A q
def xQc (D : va_G) (aC : Nat → ClassId) (A : Nat → Prop) (ad : Nat → Nat) (xs : Nat → Int32) (bS n : Nat) (rs : List XR) : Array Value → State → Outcome → State → Prop := fun _ st o t =>
  (∃ r ∈ rs, r.1 = 0 ∧ ∃ ad' : Nat → Nat, (∀ j, j < n → ad' j = ad j) ∧ o = .returned (r.2.1.map (ev ad' xs bS)) ∧ xsat xs r.2.2.1 ∧ xWld D aC A ad' xs bS r.2.2.2.1 t.heap) ∧ va_F A st t
def xXc (D : va_G) (aC : Nat → ClassId) (A : Nat → Prop) (ad : Nat → Nat) (xs : Nat → Int32) (bS n : Nat) (rs : List XR) : String → State → State → Prop := fun E st t =>
  (∃ r ∈ rs, ∃ k, r.1 = k + 1 ∧ k ≤ 2 ∧ E = exN k ∧ ∃ ad' : Nat → Nat, (∀ j, j < n → ad' j = ad j) ∧ xsat xs r.2.2.1 ∧ xWld D aC A ad' xs bS r.2.2.2.1 t.heap) ∧ va_F A st t
/-- an end's numbers -/
def xwR (n : Nat) (r : XR) : Prop := n ≤ r.2.2.2.2 ∧ xoS r.2.2.2.2 r.2.1.toList = true ∧ xoH r.2.2.2.2 r.2.2.2.1 = true
/-- the contracts of the methods that are called -/
def xCfOk (l : Launch) (Ms : List XM) (D : va_G) (aC : Nat → ClassId) (A : Nat → Prop) (xs : Nat → Int32) (bS : Nat) (scr : Option (Nat × (Nat → Int32))) (cf : XCf) : Prop :=
  ∀ (k : Nat) (as : List Value) (pe : XP) (h : XH) (n : Nat) (rs : List XR), cf k as pe h n = some rs → ∀ M, xnth Ms k = some M → xsat xs pe → xoS n as = true → xoH n h = true → (∀ r ∈ rs, xwR n r) ∧ ∀ ad : Nat → Nat,
    vx_Met l (xmY M) (xmWs M) (xmR M) (va_Pc (evS (ev ad xs bS) as) (xPre D aC A ad xs bS scr h)) (xQc D aC A ad xs bS n rs) (xXc D aC A ad xs bS n rs) (xmR M).cells (xmR M).slots A
/-- what holds inside a method -/
def xCtx (p : Program) (l : Launch) (s : State) (m : MethodId) (args : Array Value) (meth : Method) (c : Code) (M : XM) (D : va_G) (aC : Nat → ClassId) (A : Nat → Prop) (xs : Nat → Int32) (bS : Nat) (scr : Option (Nat × (Nat → Int32))) : Prop :=
  p.tables.exec = Jvm.exec ∧ c.code = xmB M ∧ c.maxLocals = xmN M ∧ meth.sig.returnType = xmV M ∧ s.vm.findClass (xmY M).cls = some m.cls ∧ (∀ w ∈ xTs, w.before args s = true) ∧ meth.locks = false ∧ ((xmY M).name = "<init>" → meth.name = "<init>") ∧
  xSta D aC A xs bS scr s ∧ (∀ q, s.heap.size ≤ q → A q) ∧ l.stackTraces = false
/-- a call's words: how it is made, by which place of the pool -/
def xvc (M Y : XM) (mode ci idx : Nat) : Prop :=
  ((xmY Y).cls ≠ "java/lang/invoke/MethodHandle" ∧ (xmY Y).cls ≠ "java/lang/invoke/VarHandle") ∧ Jvm.Cond.initialized (xmY Y).cls ∈ xTs ∧ xmW Y ∈ xTs ∧
  match mode with
  | 0 => xmT Y = [] ∧ (parseMethodDescriptor (xmY Y).desc).map (fun d => d.parameters.length) = some (xmA Y) ∧ Jvm.Cond.methodLink (xmY M).cls idx (xmY Y) ∈ xTs ∧ Jvm.Cond.static (xmY Y) ∈ xTs
  | 1 => xmT Y = [] ∧ (∃ n, xmA Y = n + 1 ∧ (parseMethodDescriptor (xmY Y).desc).map (fun d => d.parameters.length) = some n) ∧ Jvm.Cond.methodLink (xmY M).cls idx (xmY Y) ∈ xTs ∧ Jvm.Cond.instanceMethod (xmY Y) ∈ xTs ∧ Jvm.Cond.selects (xmY Y).cls (xmY Y) (xmY Y) ∈ xTs ∧ ∃ T N, classes[ci]? = some ((xmY Y).cls, T, N)
  | 2 => xmT Y = [] ∧ (∃ n, xmA Y = n + 1 ∧ (parseMethodDescriptor (xmY Y).desc).map (fun d => d.parameters.length) = some n) ∧ Jvm.Cond.methodLink (xmY M).cls idx (xmY Y) ∈ xTs ∧ Jvm.Cond.instanceMethod (xmY Y) ∈ xTs ∧ (xmY Y).name = "<init>" ∧ xmV Y = none
  | 3 => xmT Y = [] ∧ (∃ n, xmA Y = n + 1 ∧ (parseMethodDescriptor (xmY Y).desc).map (fun d => d.parameters.length) = some n) ∧ (∃ host, Jvm.Cond.methodLinkNest (xmY M).cls idx (xmY Y) host ∈ xNg) ∧ Jvm.Cond.instanceMethod (xmY Y) ∈ xTs ∧ (xmY Y).name = "<init>" ∧ xmV Y = none
  | 4 => xmT Y = [] ∧ (parseMethodDescriptor (xmY Y).desc).map (fun d => d.parameters.length) = some (xmA Y) ∧ (∃ host, Jvm.Cond.methodLinkNest (xmY M).cls idx (xmY Y) host ∈ xNg) ∧ Jvm.Cond.static (xmY Y) ∈ xTs
  | 6 => xmT Y ≠ [] ∧ (parseMethodDescriptor (xmY Y).desc).map (fun d => d.parameters.length) = some (xmA Y) ∧ Jvm.Cond.methodLink (xmY M).cls idx (xmY Y) ∈ xTs ∧ Jvm.Cond.static (xmY Y) ∈ xTs
  | _ => False
/-- the opcode of a call, by its kind -/
def xvi (mode idx : Nat) : Instr := match mode with
  | 0 => .invokestatic idx
  | 1 => .invokevirtual idx
  | 2 => .invokespecial idx
  | 3 => .invokespecial idx
  | _ => .invokestatic idx
section
variable {p : Program} {l : Launch} {e : Env} {s : State} {m : MethodId} {args : Array Value} {below : List Frame} {meth : Method} {c : Code} {H : Heap} {locs : List Loc} {cells slots : Nat} {Q : State → Prop}
variable {pc nL : Nat} {ls : Array Slot} {ad : Nat → Nat} {xs : Nat → Int32} {bS : Nat} {aC : Nat → ClassId} {D : va_G} {A : Nat → Prop} {scr : Option (Nat × (Nat → Int32))} {M Y : XM} {h : XH}
theorem xcats_ev (ad : Nat → Nat) (xs : Nat → Int32) (bS : Nat) (st : List Value) : ((evS (ev ad xs bS) st).map fun v => v.category).sum = xcats st := by
  unfold evS xcats
  rw [List.map_map]
  exact congrArg List.sum (List.map_congr_left fun v _ => ev_cat ad xs bS v)
/-- the state of a call -/
theorem xpreS (C : xCtx p l s m args meth c M D aC A xs bS scr) (hw : xWld D aC A ad xs bS h H) (hS : va_S A s.heap H locs) (as : List Value) : PreS s H (va_Pc (evS (ev ad xs bS) as) (xPre D aC A ad xs bS scr h)) (evS (ev ad xs bS) as) := by
  obtain ⟨-, -, -, -, -, -, -, -, hSta, hA, -⟩ := C
  refine ⟨fun a U g mk q => ?_, fun U hU hW => ⟨rfl, ?_, ?_, ?_⟩⟩
  · obtain ⟨q1, q2, q3, q4⟩ := q
    exact ⟨q1, xSta_calling q2, q3, q4⟩
  · exact xSta_move hW (fun a h1 h2 => by rw [hU]; exact hS.2.1 a h1 h2) hSta
  · rw [hU]; exact hw
  · rw [hU]; exact fun q hq => hA q (Nat.le_trans hS.1 hq)
/-- behind a call -/
theorem xw_call {n mc ms : Nat} {rs : List XR} {av : Array Value} {rest st0 : List Value} (hr : vx_Run p l e (xmR M) s m args below meth c H locs cells slots mc ms (F0 m pc ls st0) rest (xQc D aC A ad xs bS n rs av) (xXc D aC A ad xs bS n rs) A) (hS : va_S A s.heap H locs)
    (kk : ∀ r ∈ rs, r.1 = 0 → ∀ (ad' : Nat → Nat) (H1 : Heap) (locs1 : List Loc), (∀ j, j < n → ad' j = ad j) → xsat xs r.2.2.1 → xWld D aC A ad' xs bS r.2.2.2.1 H1 → va_S A s.heap H1 locs1 → W p l e (xmR M) s m args below meth c H1 locs1 (cells + mc) (slots + ms) Q (F0 m (pc + 3) ls ((r.2.1.map (ev ad' xs bS)).toList ++ rest)))
    (kx : ∀ r ∈ rs, ∀ k, r.1 = k + 1 → k ≤ 2 → ∀ (ad' : Nat → Nat) (H1 : Heap) (locs1 : List Loc), (∀ j, j < n → ad' j = ad j) → xsat xs r.2.2.1 → xWld D aC A ad' xs bS r.2.2.2.1 H1 → va_S A s.heap H1 locs1 → ∀ (q : Addr) (ce : Cell), H1[q]? = some ce → ce.vm = .none → s.vm.findClass (exN k) = some ce.cls → vx_W p l e (xmR M) s m args below meth c H1 locs1 (cells + mc) (slots + ms) Q (F0 m pc ls rest) q) :
    W p l e (xmR M) s m args below meth c H locs cells slots Q (F0 m pc ls st0) := by
  intro T hT X
  rcases hr T hT X with ⟨v, st₀, t, T', L, h0, X', hL, e1, e2, ⟨⟨r, hr1, hr2, ad', h1, h2, h3, h4⟩, hF⟩, st⟩ | ⟨q, st₀, t, T', L, E, ce, h0, X', hL, e1, e2, ⟨⟨r, hr1, k, hr2, hk2, hE, ad', h1, h3, h4⟩, hF⟩, hce, hcv, hcl, st⟩
  · cases h2
    obtain ⟨k1, k2, k3⟩ := vx_keep h0 e1 hS (fun q _ h => h) (fun q h => h) hL hF
    obtain ⟨t2, a1, b1⟩ := kk r hr1 hr2 ad' T'.heap (locs ++ L) h1 h3 (by rw [e1]; exact h4) k3 T' rfl X'
    exact ⟨t2, st t2 a1, b1⟩
  · obtain ⟨k1, k2, k3⟩ := vx_keep h0 e1 hS (fun q _ h => h) (fun q h => h) hL hF
    subst hE
    obtain ⟨t2, a1, b1⟩ := kx r hr1 k hr2 hk2 ad' T'.heap (locs ++ L) h1 h3 (by rw [e1]; exact h4) k3 q ce (by rw [e1]; exact hce) hcv hcl T' rfl X'
    exact ⟨t2, st.trans a1, b1⟩
theorem xargs (E : Value → Value) (st : List Value) (n : Nat) : evS E st = (evS E (st.take n).reverse).reverse ++ evS E (st.drop n) := by
  unfold evS
  rw [← List.map_reverse, List.reverse_reverse, ← List.map_append, List.take_append_drop]
theorem xw_nil {Y : XM} (h : xmT Y = []) : xmWs Y = Jvm.Cond.code (xmY Y) (xmB Y) (xmN Y) (xmV Y) :: xTs := by
  unfold xmWs xmW
  rw [h]
theorem xmWs_good {Y : XM} (h : xmW Y ∈ xTs) : GoodIn xTs (xmWs Y) := xTs_good fun w hw => (List.mem_cons.mp hw).elim (fun e => by rw [e]; exact h) id
theorem xrecv1 {ci : Nat} {as : List Value} {h : XH} (h9 : xrecv 1 ci as h = true) : ∃ o t fs, as = .ref o :: t ∧ xhk h o = some (false, ci, fs) := by
  cases as with
  | nil => exact absurd h9 (by simp [xrecv])
  | cons v t =>
    cases v with
    | ref o =>
      have h9 : (match xhk h o with
        | some (false, cj, _) => Nat.beq ci cj
        | _ => false) = true := h9
      split at h9
      · rename_i cj fs hk
        have := Nat.eq_of_beq_eq_true h9
        subst this
        exact ⟨o, t, fs, rfl, hk⟩
      · cases h9
    | _ => exact absurd h9 (by simp [xrecv])
theorem xrecv2 {ci : Nat} {as : List Value} {h : XH} (h9 : xrecv 2 ci as h = true) : ∃ o t, as = .ref o :: t := by
  cases as with
  | nil => exact absurd h9 (by simp [xrecv])
  | cons v t =>
    cases v with
    | ref o => exact ⟨o, t, rfl⟩
    | _ => exact absurd h9 (by simp [xrecv])
/-- the callee's contract at a call -/
theorem xw_inv (C : xCtx p l s m args meth c M D aC A xs bS scr) {mode ci idx n : Nat} (hv : xvc M Y mode ci idx) (hd : decode (xmB M) pc = .ok (xvi mode idx, 3)) {st : List Value} {rs : List XR}
    (hM : vx_Met l (xmY Y) (xmWs Y) (xmR Y) (va_Pc (evS (ev ad xs bS) (st.take (xmA Y)).reverse) (xPre D aC A ad xs bS scr h)) (xQc D aC A ad xs bS n rs) (xXc D aC A ad xs bS n rs) (xmR Y).cells (xmR Y).slots A)
    (hlen : xmA Y ≤ st.length) (hcat : xcats (st.drop (xmA Y)) ≤ 8) (hR : (xmR Y).frames + 1 ≤ (xmR M).frames ∧ 8 + (xmN Y + 11) + (xmR Y).locals ≤ (xmR M).locals) (hf : cells + (xmR Y).cells ≤ (xmR M).cells ∧ slots + (xmR Y).slots ≤ (xmR M).slots)
    (hrc : xrecv (xmode mode) ci (st.take (xmA Y)).reverse h = true) (hw : xWld D aC A ad xs bS h H) (hS : va_S A s.heap H locs) (hls : ls.size = xmN M) :
    vx_Run p l e (xmR M) s m args below meth c H locs cells slots (xmR Y).cells (xmR Y).slots (F0 m pc ls (evS (ev ad xs bS) st)) (evS (ev ad xs bS) (st.drop (xmA Y))) (xQc D aC A ad xs bS n rs (evS (ev ad xs bS) (st.take (xmA Y)).reverse).toArray) (xXc D aC A ad xs bS n rs) A := by
  have hp := xpreS C hw hS (st.take (xmA Y)).reverse
  obtain ⟨hx, hb, hml, -, hown, hts, -, -, hSta, -, -⟩ := id C
  have hfix : CallFix p m c (xmB M) (xmN M) s args xTs (xmY M).cls := ⟨hx, hb, hml, hown, hts⟩
  have htl : (st.take (xmA Y)).length = xmA Y := by rw [List.length_take]; omega
  have hst := xargs (ev ad xs bS) st (xmA Y)
  have hal0 : (evS (ev ad xs bS) (st.take (xmA Y)).reverse).length = xmA Y := by rw [evS, List.length_map, List.length_reverse, htl]
  have hW : 2 * (F0 m pc ls (evS (ev ad xs bS) st)).monitorRoom + ((evS (ev ad xs bS) (st.drop (xmA Y))).map fun v => v.category).sum ≤ 8 := lv_room (by rw [xcats_ev]; exact hcat)
  obtain ⟨hmh, hini, hcode, hv⟩ := hv
  have hgood := xmWs_good hcode
  match mode, hv, hd, hrc with
  | 0, hv, hd, hrc =>
    obtain ⟨ht, hpar, hlink, hstat⟩ := hv
    exact vx_runS hfix hM (va_cwS (xmA Y) hts (xTs_good (by intro w hw2; simp only [va_wsS, List.mem_append, List.mem_cons, List.not_mem_nil, or_false] at hw2; rcases hw2 with (rfl | rfl | rfl) | hw2; exact hlink; exact hstat; exact hini; exact (hgood w hw2).1)) (xw_nil ht) rfl rfl ⟨hmh.1, hmh.2, hpar⟩ hR) hp rfl hal0 hls hst hW hd hf
  | 6, hv, hd, hrc =>
    obtain ⟨ht, hpar, hlink, hstat⟩ := hv
    obtain ⟨q, t, hqt⟩ : ∃ q t, xmT Y = q :: t := by
      cases hT9 : xmT Y with
      | nil => exact absurd hT9 ht
      | cons q t => exact ⟨q, t, rfl⟩
    have hw9 : xmWs Y = Jvm.Cond.codeWith (xmY Y) (xmB Y) (xmN Y) (xmV Y) (q :: t) :: xTs := by unfold xmWs xmW; rw [hqt]
    exact vx_runSX hfix hM (vx_cwSW (xmA Y) hts (xTs_good (by intro w hw2; simp only [va_wsS, List.mem_append, List.mem_cons, List.not_mem_nil, or_false] at hw2; rcases hw2 with (rfl | rfl | rfl) | hw2; exact hlink; exact hstat; exact hini; exact (hgood w hw2).1)) hw9 rfl rfl ⟨hmh.1, hmh.2, hpar⟩ hR) hp rfl hal0 hls hst hW hd hf
  | 4, hv, hd, hrc =>
    obtain ⟨ht, hpar, ⟨host, hlink⟩, hstat⟩ := hv
    exact vx_runSN (host := host) hfix hM ⟨va_cnB (xmA Y) hts hgood (xw_nil ht) rfl rfl (hSta.2.1 _ hlink) (hts _ hini) ⟨hmh.1, hmh.2, hpar⟩ hR, hts _ hstat, trivial⟩ hp rfl hal0 hls hst hW hd hf
  | 1, hv, hd, hrc =>
    obtain ⟨ht, ⟨n9, hn9, hpar⟩, hlink, hinst, hsel, T, N, hcl⟩ := hv
    obtain ⟨o, as0, fs, hargs, hk⟩ := xrecv1 hrc
    rw [hargs] at hM hp hst ⊢
    have hal : as0.length = n9 := by
      have := congrArg List.length hargs
      rw [List.length_reverse, htl, List.length_cons] at this
      omega
    obtain ⟨q0, hq0, -⟩ := xhk_get (E := ev ad xs bS) (ad := ad) (aC := aC) hk
    have hrecv := va_recv hSta.1 hw.1 hcl hq0
    have hst2 : evS (ev ad xs bS) st = (evS (ev ad xs bS) as0).reverse ++ .ref (ad o) :: evS (ev ad xs bS) (st.drop (xmA Y)) := by
      rw [hst]
      show (Value.ref (ad o) :: evS (ev ad xs bS) as0).reverse ++ _ = _
      rw [List.reverse_cons, List.append_assoc]; rfl
    exact vx_runV (C := (xmY Y).cls) (b := ad o) (As := evS (ev ad xs bS) as0) hfix hM (cwV n9 hts (xTs_good (by intro w hw2; simp only [wsV, List.mem_append, List.mem_cons, List.not_mem_nil, or_false] at hw2; rcases hw2 with (rfl | rfl | rfl | rfl) | hw2; exact hlink; exact hinst; exact hsel; exact hini; exact (hgood w hw2).1)) (xw_nil ht) rfl rfl ⟨rfl, hmh.1, hmh.2, hpar⟩ hR) ⟨hp.1, hrecv, hp.2⟩ rfl (by rw [evS, List.length_map, hal]) hls hst2 hW hd hf
  | 2, hv, hd, hrc =>
    obtain ⟨ht, ⟨n9, hn9, hpar⟩, hlink, hinst, hnm, hret⟩ := hv
    obtain ⟨o, as0, hargs⟩ := xrecv2 hrc
    rw [hargs] at hM hp hst ⊢
    have hal : as0.length = n9 := by
      have := congrArg List.length hargs
      rw [List.length_reverse, htl, List.length_cons] at this
      omega
    have hst2 : evS (ev ad xs bS) st = (evS (ev ad xs bS) as0).reverse ++ .ref (ad o) :: evS (ev ad xs bS) (st.drop (xmA Y)) := by
      rw [hst]
      show (Value.ref (ad o) :: evS (ev ad xs bS) as0).reverse ++ _ = _
      rw [List.reverse_cons, List.append_assoc]; rfl
    have hw9 := xw_nil ht
    rw [hret] at hw9
    exact vx_runI (b := ad o) (As := evS (ev ad xs bS) as0) hfix hM (cwI n9 hts hgood hw9 rfl rfl (hts _ hini) (hts _ hlink) (hts _ hinst) hnm ⟨hmh.1, hmh.2, hpar⟩ hR) hp rfl (by rw [evS, List.length_map, hal]) hls hst2 hW hd hf
  | 3, hv, hd, hrc =>
    obtain ⟨ht, ⟨n9, hn9, hpar⟩, ⟨host, hlink⟩, hinst, hnm, hret⟩ := hv
    obtain ⟨o, as0, hargs⟩ := xrecv2 hrc
    rw [hargs] at hM hp hst ⊢
    have hal : as0.length = n9 := by
      have := congrArg List.length hargs
      rw [List.length_reverse, htl, List.length_cons] at this
      omega
    have hst2 : evS (ev ad xs bS) st = (evS (ev ad xs bS) as0).reverse ++ .ref (ad o) :: evS (ev ad xs bS) (st.drop (xmA Y)) := by
      rw [hst]
      show (Value.ref (ad o) :: evS (ev ad xs bS) as0).reverse ++ _ = _
      rw [List.reverse_cons, List.append_assoc]; rfl
    have hw9 := xw_nil ht
    rw [hret] at hw9
    exact vx_runIN (host := host) (b := ad o) (As := evS (ev ad xs bS) as0) hfix hM ⟨va_cnB n9 hts hgood hw9 rfl rfl (hSta.2.1 _ hlink) (hts _ hini) ⟨hmh.1, hmh.2, hpar⟩ hR, hnm, hts _ hinst⟩ hp rfl (by rw [evS, List.length_map, hal]) hls hst2 hW hd hf
end
end XW
end
section
/-! runs hold of the machine -/
section XR
theorem xfind_spec {code : List XI} {pc : Nat} {e : XI} {t : List XI} : xfind code pc = e :: t → e.1 = pc ∧ ∀ x ∈ e :: t, x ∈ code := by
  induction code with
  | nil => intro h; cases h
  | cons a r ih =>
    intro h
    unfold xfind at h
    cases hb : Nat.beq a.1 pc with
    | true =>
      rw [hb] at h
      cases h
      exact ⟨Nat.eq_of_beq_eq_true hb, fun x hx => hx⟩
    | false =>
      rw [hb] at h
      obtain ⟨h1, h2⟩ := ih h
      exact ⟨h1, fun x hx => List.mem_cons_of_mem _ (h2 x hx)⟩
theorem xnext_spec {code t0 : List XI} {pc : Nat} {e : XI} {t : List XI} (h : xnext code t0 pc = e :: t) : e.1 = pc ∧ ∀ x ∈ e :: t, x ∈ code := xfind_spec h
theorem xall_spec {α β : Type} {f : α → Option (List β)} : ∀ {l : List α} {r : List β}, xall f l = some r → ∀ a ∈ l, ∃ r', f a = some r' ∧ ∀ x ∈ r', x ∈ r
  | [], _, _, a, ha => by cases ha
  | b :: l, r, h, a, ha => by
    unfold xall at h
    split at h
    · cases h
    · rename_i r1 h1
      split at h
      · cases h
      · rename_i r2 h2
        obtain rfl := Option.some.inj h
        rcases List.mem_cons.mp ha with rfl | ha
        · exact ⟨r1, h1, fun x hx => List.mem_append_left _ hx⟩
        · obtain ⟨r', h3, h4⟩ := xall_spec h2 a ha
          exact ⟨r', h3, fun x hx => List.mem_append_right _ (h4 x hx)⟩
/-- what a row of a listing wants of the tables -/
def xVE (Ms : List XM) (M : XM) (e : XI) : Prop :=
  match e.2.2.1 with
  | 0 => decode (xmB M) e.1 = .ok (e.2.1, ilen e.2.1) ∧ ∀ k a t, e.2.1 = .ldc2_w k → e.2.2.2 = a :: t → Jvm.Cond.constantLong (xmY M).cls k (Int64.ofNat a) ∈ xTs
  | 1 => decode (xmB M) e.1 = .ok (e.2.1, ilen e.2.1) ∧ xvh xTs (xmY M).cls (decide ((xmY M).name = "<init>")) e.2.1 e.2.2.2
  | 2 => decode (xmB M) e.1 = .ok (e.2.1, xil e.1 e.2.1)
  | 3 => ∀ mode k ci t, e.2.2.2 = mode :: k :: ci :: t → ∃ idx, decode (xmB M) e.1 = .ok (xvi mode idx, 3) ∧ ∀ Y, xnth Ms k = some Y → xvc M Y mode ci idx
  | 4 => decode (xmB M) e.1 = .ok (e.2.1, ilen e.2.1)
  | 6 => ∃ idx, decode (xmB M) e.1 = .ok (.invokespecial idx, 3) ∧ Jvm.Cond.methodLink (xmY M).cls idx Lib.objectInit ∈ xTs ∧ Jvm.Cond.instanceMethod Lib.objectInit ∈ xTs ∧ Jvm.Cond.code Lib.objectInit ⟨#[0xb1]⟩ 1 none ∈ xTs
  | 7 => ∃ idx, decode (xmB M) e.1 = .ok (.invokestatic idx, 3) ∧ Jvm.Cond.methodLink (xmY M).cls idx arraycopyName ∈ xTs ∧ Jvm.Cond.native arraycopyName ∈ xTs ∧ Jvm.Cond.static arraycopyName ∈ xTs ∧ Jvm.Cond.initialized "java/lang/System" ∈ xTs
  | 10 => ∀ mx t, e.2.2.2 = mx :: t → Jvm.Cond.initialized "java/lang/Math" ∈ xTs ∧ ∃ idx, decode (xmB M) e.1 = .ok (.invokestatic idx, 3) ∧
      ((mx = 0 ∧ Jvm.Cond.methodLink (xmY M).cls idx Lib.Math.min.name ∈ xTs ∧ Jvm.Cond.static Lib.Math.min.name ∈ xTs ∧ Jvm.Cond.code Lib.Math.min.name Lib.Math.min.code 2 (some .int) ∈ xTs) ∨
       (mx = 1 ∧ Jvm.Cond.methodLink (xmY M).cls idx Lib.Math.max.name ∈ xTs ∧ Jvm.Cond.static Lib.Math.max.name ∈ xTs ∧ Jvm.Cond.code Lib.Math.max.name Lib.Math.max.code 2 (some .int) ∈ xTs))
  | _ => True
/-- what the tables say of all -/
def xGlob : Prop := ∀ (ci : Nat) (C : String) (T : u_T) (N : Nat), classes[ci]? = some (C, T, N) → ∀ w ∈ u_ws C T N, w ∈ xTs
section
variable {p : Program} {l : Launch} {en : Env} {s : State} {m : MethodId} {args : Array Value} {below : List Frame} {meth : Method} {c : Code} {Q : State → Prop}
variable {xs : Nat → Int32} {bS : Nat} {aC : Nat → ClassId} {D : va_G} {A : Nat → Prop} {scr : Option (Nat × (Nat → Int32))} {M : XM} {Ms : List XM} {cls : Nat → Nat} {cf : XCf} {n0 : Nat} {ad0 : Nat → Nat}
/-- an end of a run is an end of the walk -/
def xleaf (p : Program) (l : Launch) (en : Env) (s : State) (m : MethodId) (args : Array Value) (below : List Frame) (meth : Method) (c : Code) (Q : State → Prop) (xs : Nat → Int32) (bS : Nat) (aC : Nat → ClassId) (D : va_G) (A : Nat → Prop) (M : XM) (n0 : Nat) (ad0 : Nat → Nat) (lf : XLf) : Prop :=
  ∀ (ad : Nat → Nat) (H : Heap) (locs : List Loc) (ls : Array Slot), lf.2.2.1 ∈ xmC M → (lf.1 = 0 → lf.2.2.1.2.2.1 = 4) → (lf.1 = 3 → lf.2.2.1.2.2.1 = 9) → (lf.1 = 0 ∨ lf.1 = 3) → (∀ j, j < n0 → ad j = ad0 j) → n0 ≤ lf.2.2.2.2.2.2.2.1 → xal lf.2.2.2.2.2.2.2.1 lf.2.2.2.1 lf.2.2.2.2.1 lf.2.2.2.2.2.2.1 = true → xsat xs lf.2.2.2.2.2.1 → xWld D aC A ad xs bS lf.2.2.2.2.2.2.1 H → va_S A s.heap H locs → lv_has ls (xmN M) (evL (ev ad xs bS) lf.2.2.2.1) →
    W p l en (xmR M) s m args below meth c H locs lf.2.2.2.2.2.2.2.2.1 lf.2.2.2.2.2.2.2.2.2 Q (F0 m lf.2.2.1.1 ls (evS (ev ad xs bS) lf.2.2.2.2.1))
def xHI (p : Program) (l : Launch) (en : Env) (s : State) (m : MethodId) (args : Array Value) (below : List Frame) (meth : Method) (c : Code) (Q : State → Prop) (xs : Nat → Int32) (bS : Nat) (aC : Nat → ClassId) (D : va_G) (A : Nat → Prop) (M : XM) (n0 : Nat) (ad0 : Nat → Nat) (ih : XGo) : Prop :=
  ∀ (cur : List XI) (lv : XL) (st : List Value) (σ : XS) (leaves : List XLf), ih cur lv st σ = some leaves → (∀ x ∈ cur, x ∈ xmC M) → (∀ lf ∈ leaves, xleaf p l en s m args below meth c Q xs bS aC D A M n0 ad0 lf) → ∀ pc, (∀ e t, cur = e :: t → e.1 = pc) →
    ∀ (ad : Nat → Nat) (H : Heap) (locs : List Loc) (ls : Array Slot), (∀ j, j < n0 → ad j = ad0 j) → n0 ≤ σ.2.2.1 → xal σ.2.2.1 lv st σ.2.1 = true → xsat xs σ.1 → xWld D aC A ad xs bS σ.2.1 H → va_S A s.heap H locs → lv_has ls (xmN M) (evL (ev ad xs bS) lv) →
      W p l en (xmR M) s m args below meth c H locs σ.2.2.2.1 σ.2.2.2.2 Q (F0 m pc ls (evS (ev ad xs bS) st))
theorem xnext_in {t : List XI} {pc : Nat} : (∀ x ∈ xnext (xmC M) t pc, x ∈ xmC M) ∧ ∀ e t', xnext (xmC M) t pc = e :: t' → e.1 = pc := by
  refine ⟨fun x hx => ?_, fun e t' h => (xnext_spec h).1⟩
  cases hc : xnext (xmC M) t pc with
  | nil => rw [hc] at hx; cases hx
  | cons e t' => rw [hc] at hx; exact (xnext_spec hc).2 x hx
theorem xfind_in {pc : Nat} : (∀ x ∈ xfind (xmC M) pc, x ∈ xmC M) ∧ ∀ e t', xfind (xmC M) pc = e :: t' → e.1 = pc := by
  refine ⟨fun x hx => ?_, fun e t' h => (xfind_spec h).1⟩
  cases hc : xfind (xmC M) pc with
  | nil => rw [hc] at hx; cases hx
  | cons e t' => rw [hc] at hx; exact (xfind_spec hc).2 x hx
theorem xcall_ok (C : xCtx p l s m args meth c M D aC A xs bS scr) (hcf : xCfOk l Ms D aC A xs bS scr cf) (hV : ∀ e ∈ xmC M, xVE Ms M e) {ih : XGo} (hih : xHI p l en s m args below meth c Q xs bS aC D A M n0 ad0 ih)
    {e : XI} {t : List XI} (he : e ∈ xmC M) (hk3 : e.2.2.1 = 3) {lv : XL} {st : List Value} {σ : XS} {leaves : List XLf} (h : xcall Ms cls M cf ih e t lv st σ = some leaves) (hlf : ∀ lf ∈ leaves, xleaf p l en s m args below meth c Q xs bS aC D A M n0 ad0 lf)
    {ad : Nat → Nat} {H : Heap} {locs : List Loc} {ls : Array Slot} (ha : ∀ j, j < n0 → ad j = ad0 j) (hn : n0 ≤ σ.2.2.1) (hwf : xal σ.2.2.1 lv st σ.2.1 = true) (hs : xsat xs σ.1) (hw : xWld D aC A ad xs bS σ.2.1 H) (hS : va_S A s.heap H locs) (hl : lv_has ls (xmN M) (evL (ev ad xs bS) lv)) :
    W p l en (xmR M) s m args below meth c H locs σ.2.2.2.1 σ.2.2.2.2 Q (F0 m e.1 ls (evS (ev ad xs bS) st)) := by
  obtain ⟨pe, hh, n, ce, sl⟩ := σ
  unfold xcall at h
  split at h
  · rename_i mode k ci tl pe' hh' n' ce' sl' haux hσ
    cases hσ
    split at h
    · cases h
    · rename_i Y hY
      generalize hchk : (Nat.ble (xmA Y) st.length && (Nat.ble (xcats (st.drop (xmA Y))) 8 && (Nat.ble ((xmR Y).frames + 1) (xmR M).frames && (Nat.ble (8 + (xmN Y + 11) + (xmR Y).locals) (xmR M).locals && (Nat.ble (ce + (xmR Y).cells) (xmR M).cells && (Nat.ble (sl + (xmR Y).slots) (xmR M).slots && xrecv (xmode mode) ci (st.take (xmA Y)).reverse hh)))))) = b at h
      cases b with
      | false => cases h
      | true =>
        simp only [Bool.and_eq_true] at hchk
        obtain ⟨c1, c2, c3, c4, c5, c6, c9⟩ := hchk
        obtain ⟨oL, oS, oH⟩ := xal_spec hwf
        dsimp only at oL oS oH
        have c7 := oL
        have c8 : xoS n (st.drop (xmA Y)) = true := xoS_drop oS
        simp only [cond_true] at h
        split at h
        · rename_i rs hrs
          have hve := hV e he
          unfold xVE at hve
          rw [hk3] at hve
          obtain ⟨idx, hd, hvY⟩ := hve mode k ci tl haux
          obtain ⟨hwR, hmet⟩ := hcf k _ pe hh n rs hrs Y hY hs (xoS_rev (xoS_take oS)) oH
          have hrun := xw_inv (e := en) (below := below) (Y := Y) (cells := ce) (slots := sl) C (hvY Y hY) hd (hmet ad) (Nat.le_of_ble_eq_true c1) (Nat.le_of_ble_eq_true c2) ⟨Nat.le_of_ble_eq_true c3, Nat.le_of_ble_eq_true c4⟩ ⟨Nat.le_of_ble_eq_true c5, Nat.le_of_ble_eq_true c6⟩ c9 hw hS hl.1
          refine xw_call hrun hS (fun r hr h0 ad' H1 locs1 g1 g2 g3 g4 => ?_) (fun r hr k9 h0 hk2 ad' H1 locs1 g1 g2 g3 g4 q cell q1 q2 q3 => ?_)
          · obtain ⟨r', h5, h6⟩ := xall_spec h r hr
            obtain ⟨w1, w2, w3⟩ := hwR r hr
            obtain ⟨r0, v, pe2, hh2, n2⟩ := r
            have h0 : r0 = 0 := h0
            subst h0
            dsimp only at w1 w2 w3
            have h5 : ih (xnext (xmC M) t (e.1 + 3)) lv (v.toList ++ st.drop (xmA Y)) (pe2, hh2, n2, ce + (xmR Y).cells, sl + (xmR Y).slots) = some r' := h5
            have hin := xnext_in (M := M) (t := t) (pc := e.1 + 3)
            have := hih _ _ _ _ _ h5 hin.1 (fun lf hlf9 => hlf lf (h6 lf hlf9)) _ hin.2 ad' H1 locs1 ls (fun j hj => (g1 j (Nat.lt_of_lt_of_le hj hn)).trans (ha j hj)) (Nat.le_trans hn w1) (xal_mk (xoL_mono w1 oL) (xoS_app.mpr ⟨w2, xoS_mono w1 c8⟩) w3) g2 g3 g4 (by rw [xoL_ev g1 c7]; exact hl)
            have e9 : evS (ev ad' xs bS) (v.toList ++ st.drop (xmA Y)) = (v.map (ev ad' xs bS)).toList ++ evS (ev ad xs bS) (st.drop (xmA Y)) := by
              rw [← xoS_ev (xs := xs) (bS := bS) g1 c8]
              unfold evS
              rw [List.map_append]
              cases v <;> rfl
            rw [e9] at this
            exact this
          · obtain ⟨r', h5, h6⟩ := xall_spec h r hr
            obtain ⟨r0, v, pe2, hh2, n2⟩ := r
            have h0 : r0 = k9 + 1 := h0
            subst h0
            cases h5
        · cases h
  · cases h
end
end XR
end
section
section XQ
theorem xald_pe {ok : Value → Bool} {oti : Nat → Bool} {st : List Value} {σ : XS} {q : List Value × XS} (h : xald ok oti st σ = some q) : q.2.1 = σ.1 := by
  obtain ⟨_, _, _, _, _, _, _, _, _, _, _, _, _, rfl⟩ := xald_spec h; rfl
theorem xast_pe {ok : Value → Bool} {oti : Nat → Bool} {st : List Value} {σ : XS} {q : List Value × XS} (h : xast ok oti st σ = some q) : q.2.1 = σ.1 := by
  obtain ⟨_, _, _, _, _, _, _, _, _, _, _, _, rfl⟩ := xast_spec h; rfl
theorem xbif {α : Type} {b : Bool} {x y : Option α} {q : α} (h : (bif b then x else y) = some q) : x = some q ∨ y = some q := by
  cases b with
  | true => exact Or.inl h
  | false => exact Or.inr h
theorem xnone {α : Type} {q : α} {P : Prop} (h : (none : Option α) = some q) : P := nomatch h
theorem xnew_pe {R : Room} {lv : XL} {r : List Value} {σ : XS} {c : XCl} {ns : Nat} {q : List Value × XS} (h : xnew R lv r σ c ns = some q) : q.2.1 = σ.1 := by
  obtain ⟨pe, hh, n, ce, sl⟩ := σ
  unfold xnew at h
  dsimp only at h
  rcases xbif h with h | h
  · obtain rfl := Option.some.inj h; rfl
  · cases h
/-- an instruction that touches cells learns nothing of the unknown ints -/
theorem xheap_pe {scr : Option (Nat × (Nat → Int32))} {R : Room} {i : Instr} {aux : List Nat} {lv : XL} {st st' : List Value} {σ σ' : XS} (h : xheap scr R i aux lv st σ = some (st', σ')) : σ'.1 = σ.1 := by
  suffices hh : ∀ q, xheap scr R i aux lv st σ = some q → q.2.1 = σ.1 from hh _ h
  clear h
  intro q h
  unfold xheap at h
  split at h
  · unfold xget at h
    split at h
    · split at h
      · rcases xbif h with h | h
        · split at h
          · obtain rfl := Option.some.inj h; rfl
          · cases h
        · cases h
      · cases h
    · cases h
  · unfold xput at h
    split at h
    · split at h
      · rcases xbif h with h | h
        · obtain rfl := Option.some.inj h; rfl
        · cases h
      · cases h
    · cases h
  · unfold xnewo at h
    split at h
    · exact xnew_pe h
    · cases h
  · unfold xnewa at h
    split at h
    · rcases xbif h with h | h
      · cases h
      · rcases xbif h with h | h
        · exact xnew_pe h
        · cases h
    · cases h
  · unfold xnewa at h
    split at h
    · rcases xbif h with h | h
      · cases h
      · rcases xbif h with h | h
        · exact xnew_pe h
        · cases h
    · cases h
  · rcases xbif h with h | h
    · unfold xnewm2 at h
      split at h
      · rcases xbif h with h | h
        · cases h
        · rcases xbif h with h | h
          · obtain rfl := Option.some.inj h; rfl
          · cases h
      · cases h
    · rcases xbif h with h | h
      · unfold xnewm3 at h
        split at h
        · rcases xbif h with h | h
          · obtain rfl := Option.some.inj h; rfl
          · cases h
        · cases h
      · cases h
  · unfold xlen at h
    split at h
    · split at h
      · rcases xbif h with h | h
        · obtain rfl := Option.some.inj h; rfl
        · cases h
      · cases h
    · split at h
      · obtain rfl := Option.some.inj h; rfl
      · cases h
    · cases h
  · unfold xild at h
    split at h
    · split at h
      · split at h
        · obtain rfl := Option.some.inj h; rfl
        · cases h
      · cases h
    · exact xald_pe h
  · exact xald_pe h
  · exact xald_pe h
  · exact xald_pe h
  · exact xast_pe h
  · exact xast_pe h
  · exact xast_pe h
  · unfold xasa at h
    split at h
    · exact xast_pe h
    · split at h
      · rcases xbif h with h | h
        · exact xast_pe h
        · cases h
      · cases h
    · cases h
  · cases h
section
variable {p : Program} {l : Launch} {en : Env} {s : State} {m : MethodId} {args : Array Value} {below : List Frame} {meth : Method} {c : Code} {Q : State → Prop}
variable {xs : Nat → Int32} {bS : Nat} {aC : Nat → ClassId} {D : va_G} {A : Nat → Prop} {scr : Option (Nat × (Nat → Int32))} {M : XM} {Ms : List XM} {cls : Nat → Nat} {cf : XCf} {n0 : Nat} {ad0 : Nat → Nat}
theorem xcopy_ok (C : xCtx p l s m args meth c M D aC A xs bS scr) (hV : ∀ e ∈ xmC M, xVE Ms M e) {ih : XGo} (hih : xHI p l en s m args below meth c Q xs bS aC D A M n0 ad0 ih)
    {e : XI} {t : List XI} (he : e ∈ xmC M) (hk7 : e.2.2.1 = 7) {lv : XL} {st : List Value} {σ : XS} {leaves : List XLf} (h : xcopy M ih e t lv st σ = some leaves) (hlf : ∀ lf ∈ leaves, xleaf p l en s m args below meth c Q xs bS aC D A M n0 ad0 lf)
    {ad : Nat → Nat} {H : Heap} {locs : List Loc} {ls : Array Slot} (ha : ∀ j, j < n0 → ad j = ad0 j) (hn : n0 ≤ σ.2.2.1) (hwf : xal σ.2.2.1 lv st σ.2.1 = true) (hs : xsat xs σ.1) (hw : xWld D aC A ad xs bS σ.2.1 H) (hS : va_S A s.heap H locs) (hl : lv_has ls (xmN M) (evL (ev ad xs bS) lv)) :
    W p l en (xmR M) s m args below meth c H locs σ.2.2.2.1 σ.2.2.2.2 Q (F0 m e.1 ls (evS (ev ad xs bS) st)) := by
  unfold xcopy at h
  split at h
  · rename_i n dp a sp a0 r
    split at h
    · rename_i v0 v1 hk0 hk1
      cases h1 : decide (n < 0) with
      | true => rw [h1] at h; cases h
      | false =>
        rw [h1] at h
        simp only [cond_false] at h
        generalize hchk : (decide (sp = 0) && (decide (dp = 0) && (Nat.beq n.toNatClampNeg v0.length && (Nat.beq n.toNatClampNeg v1.length && (Nat.ble 1 (xmR M).frames && (Nat.ble (xcats r + 60) (xmR M).locals && (!(Nat.beq a a0) && v0.all xint))))))) = b at h
        cases b with
        | false => cases h
        | true =>
          simp only [Bool.and_eq_true, decide_eq_true_eq] at hchk
          obtain ⟨rfl, rfl, c3, c4, c5, c6, c7, c8⟩ := hchk
          simp only [cond_true] at h
          have c3 := Nat.eq_of_beq_eq_true c3
          have c4 := Nat.eq_of_beq_eq_true c4
          have hve := hV e he
          unfold xVE at hve
          rw [hk7] at hve
          obtain ⟨idx, hd, w1, w2, w3, w4⟩ := hve
          obtain ⟨hx, hb, hml, -, hown, hts, -, -, hSta, -⟩ := id C
          obtain ⟨q0, hq0, -⟩ := xhk_get (E := ev ad xs bS) (ad := ad) (aC := aC) hk0
          obtain ⟨q1, hq1, hset⟩ := xhk_get (E := ev ad xs bS) (ad := ad) (aC := aC) hk1
          have hin := xnext_in (M := M) (t := t) (pc := e.1 + 3)
          refine va_copyi hx hb (hml.trans hl.1.symm) hown (hts _ w1) (hts _ w2) (hts _ w3) (hts _ w4) hSta.1 hw.1 hw.2 hS q0 q1 0 0 hq0 hq1 (xtys_get aC (by omega)) (xtys_get aC (by omega)) rfl (by decide) (by decide) (of_decide_eq_false h1) ?_ ?_ (fun _ _ => rfl) (Nat.le_of_ble_eq_true c5) ?_ hd (fun H1 locs1 p1 d1 s1 => ?_)
          · show 0 + n.toNatClampNeg ≤ v0.length; omega
          · show 0 + n.toNatClampNeg ≤ v1.length; omega
          · rw [show nativeFrameWords "java/lang/System" "arraycopy" 5 = 7 by decide +kernel]
            have := Nat.le_of_ble_eq_true c6
            show ((evS (ev ad xs bS) r).map fun v => v.category).sum + _ ≤ _
            rw [xcats_ev]
            omega
          · have e1 : (evH (ev ad xs bS) ad aC σ.2.1).set q1 (ad a, .inl (aC 0, v1.length, .inl (va_cpy (fun j => evI (ev ad xs bS (v0.getD j (.int 0)))) (fun j => evI (ev ad xs bS (v1.getD j (.int 0)))) (Int32.toNatClampNeg 0) (Int32.toNatClampNeg 0) n.toNatClampNeg))) = evH (ev ad xs bS) ad aC (xhs σ.2.1 a (true, 0, v0)) := by
              rw [← hset (true, 0, v0)]
              show _ = (evH (ev ad xs bS) ad aC σ.2.1).set q1 (ad a, .inl (aC 0, v0.length, .inl (fun j => evI (ev ad xs bS (v0.getD j (.int 0))))))
              rw [← c4, c3]
              refine congrArg (fun z => (evH (ev ad xs bS) ad aC σ.2.1).set q1 (ad a, .inl (aC 0, v0.length, .inl z))) (funext fun k => ?_)
              unfold va_cpy
              rw [show Int32.toNatClampNeg 0 = 0 by decide]
              by_cases hk : k < v0.length
              · rw [if_pos ⟨Nat.zero_le _, by omega⟩]; simp
              · rw [if_neg (by omega)]
                show evI (ev ad xs bS (v1.getD k (.int 0))) = evI (ev ad xs bS (v0.getD k (.int 0)))
                rw [List.getD_eq_getElem?_getD, List.getD_eq_getElem?_getD, List.getElem?_eq_none (by omega), List.getElem?_eq_none (by omega)]
            have hp9 : va_P D classes (evH (ev ad xs bS) ad aC (xhs σ.2.1 a (true, 0, v0))) H1 := by rw [← e1]; exact p1
            have hd9 : va_D A (evH (ev ad xs bS) ad aC (xhs σ.2.1 a (true, 0, v0))) := by rw [← e1]; exact d1
            obtain ⟨oL, oS, oH⟩ := xal_spec hwf
            have oS9 : xoS σ.2.2.1 r = true := by
              have := xoS_drop (k := 5) oS
              exact this
            exact hih _ _ _ _ _ h hin.1 hlf _ hin.2 ad H1 locs1 ls ha hn (xal_mk oL oS9 (xoH_put oH (xoH_at oH hk0).2)) hs ⟨hp9, hd9⟩ s1 hl
    · cases h
  · cases h
set_option maxHeartbeats 1000000 in
theorem xbody_ok (C : xCtx p l s m args meth c M D aC A xs bS scr) (hcf : xCfOk l Ms D aC A xs bS scr cf) (hG : xGlob) (hV : ∀ e ∈ xmC M, xVE Ms M e) {ih : XGo} (hih : xHI p l en s m args below meth c Q xs bS aC D A M n0 ad0 ih) :
    xHI p l en s m args below meth c Q xs bS aC D A M n0 ad0 (xbody Ms cls scr M cf ih) := by
  intro cur lv st σ leaves h hcur hlf pc hpc ad H locs ls ha hn hwf hs hw hS hl
  obtain ⟨oL, oS, oH⟩ := xal_spec hwf
  obtain ⟨hx, hb, hml, hret, hown, hts, hlocks, hname, hSta, hA, htr⟩ := id C
  cases cur with
  | nil => cases h
  | cons e t =>
    have hpc := hpc e t rfl
    subst hpc
    have he : e ∈ xmC M := hcur e List.mem_cons_self
    have hve := hV e he
    unfold xVE at hve
    unfold xbody at h
    dsimp only at h
    split at h
    · rename_i hk
      rw [hk] at hve
      obtain ⟨hd, hcl⟩ := hve
      split at h
      · rename_i q hq
        have hin := xnext_in (M := M) (t := t) (pc := e.1 + ilen e.2.1)
        exact xsimple_ok (cells := σ.2.2.2.1) (slots := σ.2.2.2.2) hx hb (fun k a tl h1 h2 => ⟨_, hown, hts _ (hcl k a tl h1 h2)⟩) hq hl hd (fun ls' hl' => hih _ _ _ _ _ h hin.1 hlf _ hin.2 ad H locs ls' ha hn (xal_mk (xsimple_kept hq oL oS).1 (xsimple_kept hq oL oS).2 oH) hs hw hS hl')
      · cases h
    · rename_i hk
      rw [hk] at hve
      obtain ⟨hd, hvh⟩ := hve
      split at h
      · rename_i q hq
        obtain ⟨st', σ'⟩ := q
        have hin := xnext_in (M := M) (t := t) (pc := e.1 + ilen e.2.1)
        have hpe : σ'.1 = σ.1 := xheap_pe hq
        exact xheap_ok (ls := ls) (nL := xmN M) hx hb hts hG hown hSta.1 hA hSta.2.2.1 hSta.2.2.2.1 hSta.2.2.2.2.2.2.2.2 (fun z => hname (of_decide_eq_true z)) hvh hwf hq hw.1 hw.2 hS hl hd (fun ad' H1 locs1 g1 g2 g3 g4 g5 g6 => hih _ _ _ _ _ h hin.1 hlf _ hin.2 ad' H1 locs1 ls (fun j hj => (g1 j (Nat.lt_of_lt_of_le hj hn)).trans (ha j hj)) (Nat.le_trans hn g2) (xheap_kept hq hwf).2 (by rw [hpe]; exact hs) ⟨g3, g4⟩ g5 g6)
      · cases h
    · rename_i hk
      rw [hk] at hve
      split at h
      · rename_i z hz
        refine xbranch_ok hw.2 (cells := σ.2.2.2.1) (slots := σ.2.2.2.2) hx hb hz hs hve (fun q hq hsq => ?_)
        obtain ⟨r', h5, h6⟩ := xall_spec h q hq
        have hin := xfind_in (M := M) (pc := q.1)
        exact hih _ _ _ (q.2.2, σ.2) _ h5 hin.1 (fun lf hlf9 => hlf lf (h6 lf hlf9)) _ hin.2 ad H locs ls ha hn (xal_mk oL (xbranch_kept hz oS q hq) oH) hsq hw hS hl
      · cases h
    · rename_i hk
      exact xcall_ok C hcf hV hih he hk h hlf ha hn hwf hs hw hS hl
    · rename_i hk
      obtain rfl := Option.some.inj h
      exact hlf _ List.mem_cons_self ad H locs ls he (fun _ => hk) (fun z => by cases z) (Or.inl rfl) ha hn hwf hs hw hS hl
    · rename_i hk
      rw [hk] at hve
      obtain ⟨idx, hd, w1, w2, w3⟩ := hve
      unfold xoinit at h
      split at h
      · rename_i o r
        generalize hchk : (Nat.ble 1 (xmR M).frames && Nat.ble (xcats r + 12) (xmR M).locals) = b at h
        cases b with
        | false => cases h
        | true =>
          rw [Bool.and_eq_true] at hchk
          have hin := xnext_in (M := M) (t := t) (pc := e.1 + 3)
          refine W.objInit (rest := evS (ev ad xs bS) r) (g := F0 m e.1 ls (.ref (ad o) :: evS (ev ad xs bS) r)) hx hb hown (hts _ w1) (hts _ w2) (hts _ w3) rfl (hl.1.trans hml.symm) rfl hd (Nat.le_of_ble_eq_true hchk.1) ?_ ?_
          · have := Nat.le_of_ble_eq_true hchk.2
            rw [xcats_ev]
            show 2 * 0 + xcats r + 12 ≤ _
            omega
          · exact hih _ _ _ _ _ h hin.1 hlf _ hin.2 ad H locs ls ha hn (xal_tail hwf) hs hw hS hl
      · cases h
    · rename_i hk
      exact xcopy_ok C hV hih he hk h hlf ha hn hwf hs hw hS hl
    · rename_i hk
      obtain rfl := Option.some.inj h
      exact hlf _ List.mem_cons_self ad H locs ls he (fun z => by cases z) (fun _ => hk) (Or.inr rfl) ha hn hwf hs hw hS hl
    · rename_i hk
      rw [hk] at hve
      unfold xmath at h
      split at h
      · rename_i mx tl y x r haux
        obtain ⟨w0, idx, hd, w1⟩ := hve mx tl haux
        generalize hchk : (Nat.ble 1 (xmR M).frames && (Nat.ble (xcats r + 13) (xmR M).locals && (Nat.ble σ.2.2.2.1 (xmR M).cells && Nat.ble σ.2.2.2.2 (xmR M).slots))) = b at h
        cases b with
        | false => cases h
        | true =>
          simp only [Bool.and_eq_true] at hchk
          obtain ⟨c1, c2, c3, c4⟩ := hchk
          simp only [cond_true] at h
          have hin := xnext_in (M := M) (t := t) (pc := e.1 + 3)
          have hwf9 : ∀ z : Int32, xal σ.2.2.1 lv (.int z :: r) σ.2.1 = true := fun z => xal_mk oL (xoS_cons.mpr ⟨rfl, (xoS_cons.mp (xoS_cons.mp oS).2).2⟩) oH
          have hloc : ((evS (ev ad xs bS) r).map fun v => v.category).sum + 13 ≤ (xmR M).locals := by rw [xcats_ev]; exact Nat.le_of_ble_eq_true c2
          rcases w1 with ⟨rfl, w1, w2, w3⟩ | ⟨rfl, w1, w2, w3⟩
          · exact va_mmin hx hb (hml.trans hl.1.symm) hown (hts _ w1) (hts _ w2) (hts _ w0) (hts _ w3) (Nat.le_of_ble_eq_true c1) hloc (Nat.le_of_ble_eq_true c3) (Nat.le_of_ble_eq_true c4) hd (hih _ _ _ _ _ h hin.1 hlf _ hin.2 ad H locs ls ha hn (hwf9 _) hs hw hS hl)
          · exact va_mmax hx hb (hml.trans hl.1.symm) hown (hts _ w1) (hts _ w2) (hts _ w0) (hts _ w3) (Nat.le_of_ble_eq_true c1) hloc (Nat.le_of_ble_eq_true c3) (Nat.le_of_ble_eq_true c4) hd (hih _ _ _ _ _ h hin.1 hlf _ hin.2 ad H locs ls ha hn (hwf9 _) hs hw hS hl)
      · cases h
    · cases h
theorem xrun_ok (C : xCtx p l s m args meth c M D aC A xs bS scr) (hcf : xCfOk l Ms D aC A xs bS scr cf) (hG : xGlob) (hV : ∀ e ∈ xmC M, xVE Ms M e) : ∀ f, xHI p l en s m args below meth c Q xs bS aC D A M n0 ad0 (xrun Ms cls scr M cf f)
  | 0 => fun _ _ _ _ _ h => nomatch h
  | f + 1 => xbody_ok C hcf hG hV (xrun_ok C hcf hG hV f)
end
end XQ
end
section
section XZ
theorem xcon {α : Type} {b : Bool} {x : Option α} {q : α} (h : (bif b then x else none) = some q) : b = true ∧ x = some q := by
  cases b with
  | true => exact ⟨rfl, h⟩
  | false => cases h
theorem xends_spec {M : XM} : ∀ {l : List XLf} {rs : List XR}, xends M l = some rs → ∀ q ∈ l, ∃ r ∈ rs, xend M q = some r
  | [], _, _, q, hq => by cases hq
  | a :: l, rs, h, q, hq => by
    unfold xends at h
    split at h
    · rename_i r1 rs1 h1 h2
      obtain rfl := Option.some.inj h
      rcases List.mem_cons.mp hq with rfl | hq
      · exact ⟨r1, List.mem_cons_self, h1⟩
      · obtain ⟨r, h3, h4⟩ := xends_spec h2 q hq
        exact ⟨r, List.mem_cons_of_mem _ h3, h4⟩
    · cases h
theorem lv_args_ev (ad : Nat → Nat) (xs : Nat → Int32) (bS : Nat) : ∀ (as : List Value) (i : Nat), lv_args i (evS (ev ad xs bS) as) = evL (ev ad xs bS) (lv_args i as)
  | [], _ => rfl
  | v :: t, i => by
    show (i, ev ad xs bS v) :: lv_args (if (ev ad xs bS v).category = 2 then i + 2 else i + 1) (evS (ev ad xs bS) t) = (i, ev ad xs bS v) :: evL (ev ad xs bS) (lv_args (if v.category = 2 then i + 2 else i + 1) t)
    rw [ev_cat, lv_args_ev ad xs bS t]
theorem lg_len (vs : List Value) : (lg_sl vs).length = xcats vs := by
  unfold lg_sl xcats
  induction vs with
  | nil => rfl
  | cons v t ih =>
    rw [List.flatMap_cons, List.length_append, ih, List.map_cons, List.sum_cons]
    rcases lv_cat v with h | h
    · simp [h]
    · simp [h]
theorem xall_from {α β : Type} {f : α → Option (List β)} : ∀ {l : List α} {r : List β}, xall f l = some r → ∀ x ∈ r, ∃ a ∈ l, ∃ r', f a = some r' ∧ x ∈ r'
  | [], r, h, x, hx => by
    obtain rfl := Option.some.inj h
    cases hx
  | b :: l, r, h, x, hx => by
    unfold xall at h
    split at h
    · cases h
    · rename_i r1 h1
      split at h
      · cases h
      · rename_i r2 h2
        obtain rfl := Option.some.inj h
        rcases List.mem_append.mp hx with hx | hx
        · exact ⟨b, List.mem_cons_self, r1, h1, hx⟩
        · obtain ⟨a, h3, r', h4, h5⟩ := xall_from h2 x hx
          exact ⟨a, List.mem_cons_of_mem _ h3, r', h4, h5⟩
/-- a runner keeps the numbers -/
def xKI (n0 : Nat) (ih : XGo) : Prop := ∀ (cur : List XI) (lv : XL) (st : List Value) (σ : XS) (leaves : List XLf), ih cur lv st σ = some leaves → n0 ≤ σ.2.2.1 → xal σ.2.2.1 lv st σ.2.1 = true → ∀ lf ∈ leaves, n0 ≤ lf.2.2.2.2.2.2.2.1 ∧ xal lf.2.2.2.2.2.2.2.1 lf.2.2.2.1 lf.2.2.2.2.1 lf.2.2.2.2.2.2.1 = true
def xCfW (cf : XCf) : Prop := ∀ (k : Nat) (as : List Value) (pe : XP) (h : XH) (n : Nat) (rs : List XR), cf k as pe h n = some rs → xoS n as = true → xoH n h = true → ∀ r ∈ rs, xwR n r
theorem xbody_kept {Ms : List XM} {cls : Nat → Nat} {scr : Option (Nat × (Nat → Int32))} {M : XM} {cf : XCf} {ih : XGo} {n0 : Nat} (hcf : xCfW cf) (hih : xKI n0 ih) : xKI n0 (xbody Ms cls scr M cf ih) := by
  intro cur lv st σ leaves h hn hwf lf hlf
  obtain ⟨oL, oS, oH⟩ := xal_spec hwf
  cases cur with
  | nil => cases h
  | cons e t =>
    unfold xbody at h
    dsimp only at h
    split at h
    · split at h
      · rename_i q hq
        exact hih _ _ _ _ _ h hn (xal_mk (xsimple_kept hq oL oS).1 (xsimple_kept hq oL oS).2 oH) lf hlf
      · cases h
    · split at h
      · rename_i q hq
        exact hih _ _ _ _ _ h (Nat.le_trans hn (xheap_kept hq hwf).1) (xheap_kept hq hwf).2 lf hlf
      · cases h
    · split at h
      · rename_i z hz
        obtain ⟨q, hq, r', h5, h6⟩ := xall_from h lf hlf
        exact hih _ _ _ _ _ h5 hn (xal_mk oL (xbranch_kept hz oS q hq) oH) lf h6
      · cases h
    · obtain ⟨pe, hh, n, ce, sl⟩ := σ
      dsimp only at hn oL oS oH
      unfold xcall at h
      split at h
      · rename_i mode k ci tl pe' hh' n' ce' sl' haux hσ
        cases hσ
        split at h
        · cases h
        · rename_i Y hY
          obtain ⟨-, h⟩ := xcon h
          split at h
          · rename_i rs hrs
            obtain ⟨r, hr, r', h5, h6⟩ := xall_from h lf hlf
            obtain ⟨w1, w2, w3⟩ := hcf _ _ _ _ _ _ hrs (xoS_rev (xoS_take oS)) oH r hr
            obtain ⟨r0, v, pe2, hh2, n2⟩ := r
            dsimp only at w1 w2 w3
            cases r0 with
            | zero =>
              have h5 : ih (xnext (xmC M) t (e.1 + 3)) lv (v.toList ++ st.drop (xmA Y)) (pe2, hh2, n2, ce + (xmR Y).cells, sl + (xmR Y).slots) = some r' := h5
              exact hih _ _ _ _ _ h5 (Nat.le_trans hn w1) (xal_mk (xoL_mono w1 oL) (xoS_app.mpr ⟨w2, xoS_mono w1 (xoS_drop oS)⟩) w3) lf h6
            | succ E => cases h5
          · cases h
      · cases h
    · obtain rfl := Option.some.inj h
      rcases List.mem_cons.mp hlf with rfl | hlf
      · exact ⟨hn, hwf⟩
      · cases hlf
    · unfold xoinit at h
      split at h
      · obtain ⟨-, h⟩ := xcon h
        exact hih _ _ _ _ _ h hn (xal_tail hwf) lf hlf
      · cases h
    · unfold xcopy at h
      split at h
      · split at h
        · rename_i v0 v1 hk0 hk1
          rcases xbif9 h with h | h
          · cases h
          · obtain ⟨-, h⟩ := xcon h
            exact hih _ _ _ _ _ h hn (xal_mk oL (xoS_drop (k := 5) oS) (xoH_put oH (xoH_at oH hk0).2)) lf hlf
        · cases h
      · cases h
    · obtain rfl := Option.some.inj h
      rcases List.mem_cons.mp hlf with rfl | hlf
      · exact ⟨hn, hwf⟩
      · cases hlf
    · unfold xmath at h
      split at h
      · obtain ⟨-, h⟩ := xcon h
        exact hih _ _ _ _ _ h hn (xal_mk oL (xoS_cons.mpr ⟨rfl, (xoS_cons.mp (xoS_cons.mp oS).2).2⟩) oH) lf hlf
      · cases h
    · cases h
theorem xrun_kept {Ms : List XM} {cls : Nat → Nat} {scr : Option (Nat × (Nat → Int32))} {M : XM} {cf : XCf} {n0 : Nat} (hcf : xCfW cf) : ∀ f, xKI n0 (xrun Ms cls scr M cf f)
  | 0 => fun _ _ _ _ _ h => nomatch h
  | f + 1 => xbody_kept hcf (xrun_kept hcf f)
theorem xends_from {M : XM} : ∀ {l : List XLf} {rs : List XR}, xends M l = some rs → ∀ r ∈ rs, ∃ q ∈ l, xend M q = some r
  | [], rs, h, r, hr => by
    obtain rfl := Option.some.inj h
    cases hr
  | a :: l, rs, h, r, hr => by
    unfold xends at h
    split at h
    · rename_i r1 rs1 h1 h2
      obtain rfl := Option.some.inj h
      rcases List.mem_cons.mp hr with rfl | hr
      · exact ⟨a, List.mem_cons_self, h1⟩
      · obtain ⟨q, h3, h4⟩ := xends_from h2 r hr
        exact ⟨q, List.mem_cons_of_mem _ h3, h4⟩
    · cases h
theorem xretv_kept {ret : Option FieldType} {i : Instr} {st : List Value} {v : Option Value} {n : Nat} (h : xretv ret i st = some v) (hS : xoS n st = true) : xoS n v.toList = true := by
  unfold xretv at h
  split at h
  · obtain rfl := Option.some.inj h; rfl
  · obtain ⟨-, h⟩ := xcon h; obtain rfl := Option.some.inj h; exact hS
  · obtain ⟨-, h⟩ := xcon h; obtain rfl := Option.some.inj h; rfl
  · obtain ⟨-, h⟩ := xcon h; obtain rfl := Option.some.inj h; exact hS
  · obtain ⟨-, h⟩ := xcon h; obtain rfl := Option.some.inj h; exact hS
  · obtain ⟨-, h⟩ := xcon h; obtain rfl := Option.some.inj h; exact hS
  · obtain ⟨-, h⟩ := xcon h; obtain rfl := Option.some.inj h; exact hS
  · cases h
theorem xargs_kept {n : Nat} : ∀ (as : List Value) (i : Nat), xoS n as = true → xoL n (lv_args i as) = true
  | [], _, _ => rfl
  | v :: t, i, h => by
    show xoL n ((i, v) :: lv_args _ t) = true
    have h9 := xoS_cons.mp h
    have := xargs_kept t (if v.category = 2 then i + 2 else i + 1) h9.2
    unfold xoL at this ⊢
    rw [List.all_cons, Bool.and_eq_true]
    exact ⟨h9.1, this⟩
theorem xmeth_kept {Ms : List XM} {cls : Nat → Nat} {scr : Option (Nat × (Nat → Int32))} {F : Nat} : ∀ d, xCfW (xmeth Ms cls scr F d)
  | 0 => fun _ _ _ _ _ _ h => nomatch h
  | d + 1 => by
    intro k as pe h n rs hrs hS hH r hr
    have hrs : (match xnth Ms k with
      | none => none
      | some M => bif Nat.ble (xcats as) (xmN M) then (match xrun Ms cls scr M (xmeth Ms cls scr F d) F (xfind (xmC M) 0) (lv_args 0 as) [] (pe, h, n, 0, 0) with
        | some ls => xends M ls
        | none => none) else none) = some rs := hrs
    split at hrs
    · cases hrs
    · rename_i M hM
      obtain ⟨-, hrs⟩ := xcon hrs
      split at hrs
      · rename_i leaves hl
        obtain ⟨q, hq, hx⟩ := xends_from hrs r hr
        obtain ⟨k1, k2⟩ := xrun_kept (n0 := n) (xmeth_kept d) F _ _ _ _ _ hl (Nat.le_refl _) (xal_mk (xargs_kept as 0 hS) rfl hH) q hq
        obtain ⟨oL, oS, oH⟩ := xal_spec k2
        obtain ⟨kd, E, e, lv, st, pe9, hh, n9, ce, sl⟩ := q
        dsimp only at k1 oL oS oH
        unfold xend at hx
        split at hx
        · rename_i E' e' lv' st' pe' h' n' ce' sl' heq
          cases heq
          obtain ⟨-, hx⟩ := xcon hx
          split at hx
          · rename_i v hv
            obtain rfl := Option.some.inj hx
            exact ⟨k1, xretv_kept hv oS, oH⟩
          · cases hx
        · cases hx
      · cases hrs
section
variable {p : Program} {l : Launch} {en : Env} {s : State} {m : MethodId} {args : Array Value} {below : List Frame} {meth : Method} {c : Code}
variable {xs : Nat → Int32} {bS : Nat} {aC : Nat → ClassId} {D : va_G} {A : Nat → Prop} {scr : Option (Nat × (Nat → Int32))} {M : XM} {Ms : List XM} {cls : Nat → Nat} {cf : XCf} {n0 : Nat} {ad0 : Nat → Nat}
theorem xend_ok (C : xCtx p l s m args meth c M D aC A xs bS scr) (hV : ∀ e ∈ xmC M, xVE Ms M e) {leaves : List XLf} {rs : List XR} (h : xends M leaves = some rs) :
    ∀ lf ∈ leaves, xleaf p l en s m args below meth c (vx_MQ below (xQc D aC A ad0 xs bS n0 rs) (xXc D aC A ad0 xs bS n0 rs) args s (xmR M).cells (xmR M).slots A) xs bS aC D A M n0 ad0 lf := by
  intro lf hlf ad H locs ls he hk0 hk3 hor ha hn hwf hs hw hS hl
  obtain ⟨r, hr, hx⟩ := xends_spec h lf hlf
  obtain ⟨hexec, hb, hml, hret, hown, hts, hlocks, hname, hSta, hA, htr⟩ := id C
  obtain ⟨kd, E, e, lv, st, pe, hh, n, ce, sl⟩ := lf
  have hve := hV e he
  unfold xVE at hve
  dsimp only at hk0 hs hw hl ⊢
  unfold xend at hx
  split at hx
  · rename_i E' e' lv' st' pe' h' n' ce' sl' heq
    cases heq
    rw [hk0 rfl] at hve
    obtain ⟨hb1, hx⟩ := xcon hx
    rw [Bool.and_eq_true] at hb1
    split at hx
    rotate_left
    · cases hx
    rename_i v hv
    obtain rfl := Option.some.inj hx
    refine W.widen (Nat.le_of_ble_eq_true hb1.1) (Nat.le_of_ble_eq_true hb1.2) ?_
    refine vx_ret ?_
    have hq : ∀ (t : State) (o : Outcome), t.heap = H → o = .returned (v.map (ev ad xs bS)) → xQc D aC A ad0 xs bS n0 rs args s o t := fun t o ht ho => ⟨⟨_, hr, rfl, ad, ha, ho, hs, by rw [ht]; exact hw⟩, hS.F ht⟩
    have hret : meth.sig.returnType = M.2.2.2.1 := hret
    obtain ⟨rt, hrt⟩ : ∃ rt, rt = M.2.2.2.1 := ⟨_, rfl⟩
    rw [← hrt] at hv hret
    obtain ⟨i, hi⟩ : ∃ i, i = e.2.1 := ⟨_, rfl⟩
    rw [← hi] at hv hve
    clear hrt hi
    unfold xretv at hv
    split at hv
    · obtain rfl := Option.some.inj hv
      exact W.vret hexec hb hret (fun t ht hW => hq t _ ht rfl) hS.2.2 hve hlocks
    · rename_i v0
      obtain ⟨hok, hv⟩ := xcon hv
      obtain rfl := Option.some.inj hv
      obtain ⟨x, hxv⟩ := xint_ev (ad := ad) (xs := xs) (bS := bS) hok
      show W p l en (xmR M) s m args below meth c H locs _ _ _ (F0 m e.1 ls [ev ad xs bS v0])
      rw [hxv]
      exact W.iret (v := x) hexec hb hret (fun t ht hW => hq t _ ht (by rw [Option.map_some, hxv])) hS.2.2 hve hlocks
    · rename_i x
      obtain ⟨hok, hv⟩ := xcon hv
      obtain rfl := Option.some.inj hv
      refine W.zret (ty := .boolean) (v := x) hexec hb hret ?_ (fun t ht hW => hq t _ ht rfl) hS.2.2 hve hlocks
      simp only [Bool.or_eq_true, decide_eq_true_eq] at hok
      rcases hok with rfl | rfl <;> decide
    · rename_i v0
      obtain ⟨hok, hv⟩ := xcon hv
      obtain rfl := Option.some.inj hv
      obtain ⟨x, hxv⟩ := xlong_ev (ad := ad) (xs := xs) (bS := bS) hok
      show W p l en (xmR M) s m args below meth c H locs _ _ _ (F0 m e.1 ls [ev ad xs bS v0])
      rw [hxv]
      exact W.lret (v := x) hexec hb hret (fun t ht hW => hq t _ ht (by rw [Option.map_some, hxv])) hS.2.2 hve hlocks
    · rename_i v0
      obtain ⟨hok, hv⟩ := xcon hv
      obtain rfl := Option.some.inj hv
      obtain ⟨x, hxv⟩ := xdbl_ev (ad := ad) (xs := xs) (bS := bS) hok
      show W p l en (xmR M) s m args below meth c H locs _ _ _ (F0 m e.1 ls [ev ad xs bS v0])
      rw [hxv]
      exact W.dret (v := x) hexec hb hret (fun t ht hW => hq t _ ht (by rw [Option.map_some, hxv])) hS.2.2 hve hlocks
    · rename_i v0
      obtain ⟨hok, hv⟩ := xcon hv
      obtain rfl := Option.some.inj hv
      exact W.aret (v := ev ad xs bS v0) hexec hb hret (Or.inl ⟨_, rfl⟩) (xref_ev hok) (fun t ht hW => hq t _ ht rfl) hS.2.2 hve hlocks
    · rename_i v0
      obtain ⟨hok, hv⟩ := xcon hv
      obtain rfl := Option.some.inj hv
      exact W.aret (v := ev ad xs bS v0) hexec hb hret (Or.inr ⟨_, rfl⟩) (xref_ev hok) (fun t ht hW => hq t _ ht rfl) hS.2.2 hve hlocks
    · cases hv
  · cases hx
end
/-- what a method's record wants -/
def xMok (Ms : List XM) (M : XM) : Prop := plainName (xmY M).cls = true ∧ ∀ e ∈ xmC M, xVE Ms M e
theorem xnth_mem {α : Type} {l : List α} {k : Nat} {a : α} (h : xnth l k = some a) : a ∈ l := by
  rw [xnth_eq] at h
  exact List.mem_of_getElem? h
section
variable {l : Launch} {xs : Nat → Int32} {bS : Nat} {aC : Nat → ClassId} {D : va_G} {A : Nat → Prop} {scr : Option (Nat × (Nat → Int32))} {Ms : List XM} {cls : Nat → Nat} {F : Nat}
set_option maxHeartbeats 1000000 in
theorem xmeth_ok (hl : l.stackTraces = false) (hG : xGlob) (hM : ∀ M ∈ Ms, xMok Ms M) : ∀ d, xCfOk l Ms D aC A xs bS scr (xmeth Ms cls scr F d)
  | 0 => fun _ _ _ _ _ _ h => nomatch h
  | d + 1 => by
    have ih := xmeth_ok hl hG hM d
    intro k as pe h n rs hrs M hk hsat hwS hwH
    refine ⟨xmeth_kept (d + 1) k as pe h n rs hrs hwS hwH, fun ad => ?_⟩
    have hrs : (match xnth Ms k with
      | none => none
      | some M => bif Nat.ble (xcats as) (xmN M) then (match xrun Ms cls scr M (xmeth Ms cls scr F d) F (xfind (xmC M) 0) (lv_args 0 as) [] (pe, h, n, 0, 0) with
        | some ls => xends M ls
        | none => none) else none) = some rs := hrs
    rw [hk] at hrs
    dsimp only at hrs
    obtain ⟨hcat, hrs⟩ := xcon hrs
    split at hrs
    rotate_left
    · cases hrs
    rename_i leaves hleaves
    obtain ⟨hpn, hV⟩ := hM M (xnth_mem hk)
    have body : ∀ (p : Program) (e : Env) (s : State) (m : MethodId) (args : Array Value) (below : List Frame) (meth : Method) (c : Code) (s₁ : State), BodyLoose p l (xmY M) (headSpec (xmWs M) (xmR M)) (xmB M) (xmN M) (xmV M) e s m args below meth c s₁ → c.maxLocals = xmN M → c.exceptionTable.toList = tableOf (xmT M) →
        va_Pc (evS (ev ad xs bS) as) (xPre D aC A ad xs bS scr h) args s → W p l e (headSpec (xmWs M) (xmR M)).room s m args below meth c s.heap [] 0 0 (vx_MQ below (xQc D aC A ad xs bS n rs) (xXc D aC A ad xs bS n rs) args s (xmR M).cells (xmR M).slots A) (entryFrame m args (xmN M)) := by
      intro p e s m args below meth c s₁ B hml htab hv
      obtain ⟨rfl, hSta, hw, hA⟩ := hv
      have C : xCtx p l s m (evS (ev ad xs bS) as).toArray meth c M D aC A xs bS scr :=
        ⟨B.exec, B.bytes, hml, B.returns, findClass_of_methodNamed B.named, fun w hw9 => atoms_spec (ws := xmWs M) B.pre w (List.mem_cons_of_mem _ hw9), B.notSynchronized, fun z => (name_of_methodNamed B.named B.method).1.trans z, hSta, hA, hl⟩
      have hl0 := lv_entry (evS (ev ad xs bS) as) (n := xmN M) (by rw [lg_len]; unfold xcats; rw [xcats_ev]; exact Nat.le_of_ble_eq_true hcat)
      rw [lg_entry_eq]
      generalize (lg_sl (evS (ev ad xs bS) as) ++ List.replicate (xmN M - (lg_sl (evS (ev ad xs bS) as)).length) Slot.unset).toArray = ls at hl0 ⊢
      rw [lv_args_ev] at hl0
      have hin := xfind_in (M := M) (pc := 0)
      exact xrun_ok C ih hG hV F _ _ _ _ _ hleaves hin.1 (xend_ok C hV hrs) 0 hin.2 ad s.heap [] ls (fun _ _ => rfl) (Nat.le_refl _) (xal_mk (xargs_kept as 0 hwS) rfl hwH) hsat hw va_S.rf hl0
    cases hT9 : xmT M with
    | nil =>
      refine vx_ofW hpn (xw_nil hT9) (fun p e s m args below meth c s₁ B hml htab hv => body p e s m args below meth c s₁ B hml ?_ hv)
      rw [hT9]
      cases hz : c.exceptionTable.toList with
      | nil => rfl
      | cons a b => exact absurd (htab a (by rw [hz]; exact List.mem_cons_self)) id
    | cons q t =>
      have hw9 : xmWs M = Jvm.Cond.codeWith (xmY M) (xmB M) (xmN M) (xmV M) (q :: t) :: xTs := by unfold xmWs xmW; rw [hT9]
      refine vx_ofWH hpn hw9 (fun p e s m args below meth c s₁ B hml hv => body p e s m args below meth c s₁ B hml ?_ hv)
      rw [hT9]
      exact vx_table (x := xmY M) B (atoms_spec (ws := xmWs M) B.pre _ (by rw [hw9]; exact List.mem_cons_self))
end
end XZ
end
section
/-! the listings' rows, decided -/
section XD
def okw (pl : Nat) (w : Jvm.Cond) : Bool := decide (xnth lw_tbl pl = some w) && goodWord w
def okn (pl : Nat) (w : Jvm.Cond) : Bool := decide (xnth lw_tbl pl = some w) && xngk w
theorem okw_in {pl : Nat} {w : Jvm.Cond} (h : okw pl w = true) : w ∈ xTs := by
  unfold okw at h
  rw [Bool.and_eq_true, decide_eq_true_eq, xnth_eq] at h
  exact xTs_in h.1 h.2
theorem okn_in {pl : Nat} {w : Jvm.Cond} (h : okn pl w = true) : w ∈ xNg := by
  unfold okn at h
  rw [Bool.and_eq_true, decide_eq_true_eq, xnth_eq] at h
  exact xNg_in h.1 h.2
def xbt : Nat → FieldType
  | 0 => .int
  | _ => .boolean
def xvhB (own : String) (init : Bool) (i : Instr) (aux : List Nat) : Bool :=
  match i with
  | .getfield idx => (match aux with
    | ci :: k :: pl :: _ => (match xnth classes ci with
      | some (C, T, N) => Nat.ble (k + 1) N && okw pl (.fieldLink own idx (T k).1 (T k).2.1 (T k).2.2.1)
      | none => false)
    | _ => false)
  | .putfield idx => (match aux with
    | ci :: k :: pl :: _ => (match xnth classes ci with
      | some (C, T, N) => Nat.ble (k + 1) N && (okw pl (.fieldLink own idx (T k).1 (T k).2.1 (T k).2.2.1) && (decide ((T k).2.2.2 = false) || (decide ((T k).2.2.2 = true) && (init && decide ((T k).1 = own)))))
      | none => false)
    | _ => false)
  | .new idx => (match aux with
    | ci :: p1 :: p2 :: p3 :: _ => (match xnth classes ci with
      | some (C, T, N) => okw p1 (.classLink own idx C) && (okw p2 (.instantiable C N) && okw p3 (.initialized C))
      | none => false)
    | _ => false)
  | .newarray a => (match aux with
    | ti :: pl :: _ => Nat.ble ti 2 && (decide (newarray.typeOf a = xty ti) && okw pl (.arrayClass (newarray.typeOf a)))
    | _ => false)
  | .anewarray idx => (match aux with
    | ti :: pl :: _ => (Nat.ble 3 ti && (Nat.ble ti 5 && (match xty ti with
      | .object C => okw pl (.classLink own idx C)
      | _ => false))) || (Nat.beq ti 6 && okw pl (.classLink own idx "[I"))
    | _ => false)
  | .multianewarray idx d => (match d, aux with
    | 2, to :: ti :: p2 :: r => (Nat.beq to 6 && (Nat.beq ti 0 && (okw (r.headD 0) (.arrayClass .int) && okw p2 (.classLink own idx "[[I")))) || ((Nat.beq to 7 && (Nat.beq ti 1 && (okw (r.headD 0) (.arrayClass .boolean) && okw p2 (.classLink own idx "[[Z")))) || (Nat.beq to 8 && (Nat.beq ti 6 && okw p2 (.classLink own idx "[[[I"))))
    | 3, p1 :: p2 :: _ => okw p1 (.arrayClass .int) && okw p2 (.classLink own idx "[[[I")
    | _, _ => false)
  | _ => true
theorem xvhB_ok {own : String} {init : Bool} {i : Instr} {aux : List Nat} (h : xvhB own init i aux = true) : xvh xTs own init i aux := by
  unfold xvhB at h
  split at h
  · split at h
    · split at h
      · rename_i C T N hc
        rw [Bool.and_eq_true] at h
        rw [xnth_eq] at hc
        intro ci k t e
        cases e
        exact ⟨C, T, N, hc, Nat.le_of_ble_eq_true h.1, okw_in h.2⟩
      · cases h
    · cases h
  · split at h
    · split at h
      · rename_i C T N hc
        simp only [Bool.and_eq_true, Bool.or_eq_true, decide_eq_true_eq] at h
        rw [xnth_eq] at hc
        intro ci k t e
        cases e
        exact ⟨C, T, N, hc, Nat.le_of_ble_eq_true h.1, okw_in h.2.1, h.2.2⟩
      · cases h
    · cases h
  · split at h
    · split at h
      · rename_i C T N hc
        simp only [Bool.and_eq_true] at h
        rw [xnth_eq] at hc
        intro ci t e
        cases e
        exact ⟨C, T, N, hc, okw_in h.1, okw_in h.2.1, okw_in h.2.2⟩
      · cases h
    · cases h
  · split at h
    · simp only [Bool.and_eq_true, decide_eq_true_eq] at h
      intro ti t e
      cases e
      exact ⟨Nat.le_of_ble_eq_true h.1, h.2.1, okw_in h.2.2⟩
    · cases h
  · split at h
    · simp only [Bool.or_eq_true, Bool.and_eq_true] at h
      intro ti t e
      cases e
      rcases h with ⟨h1, h2, h3⟩ | ⟨h1, h2⟩
      · split at h3
        · rename_i C hC
          exact Or.inl ⟨Nat.le_of_ble_eq_true h1, Nat.le_of_ble_eq_true h2, C, hC, okw_in h3⟩
        · cases h3
      · exact Or.inr ⟨Nat.eq_of_beq_eq_true h1, okw_in h2⟩
    · cases h
  · split at h
    · simp only [Bool.or_eq_true, Bool.and_eq_true] at h
      refine ⟨fun _ to ti t e => ?_, fun e => by cases e⟩
      cases e
      rcases h with ⟨h1, h2, h3, h4⟩ | ⟨h1, h2, h3, h4⟩ | ⟨h1, h2, h4⟩
      · exact Or.inl ⟨Nat.eq_of_beq_eq_true h1, Nat.eq_of_beq_eq_true h2, okw_in h3, okw_in h4⟩
      · exact Or.inr (Or.inl ⟨Nat.eq_of_beq_eq_true h1, Nat.eq_of_beq_eq_true h2, okw_in h3, okw_in h4⟩)
      · exact Or.inr (Or.inr ⟨Nat.eq_of_beq_eq_true h1, Nat.eq_of_beq_eq_true h2, okw_in h4⟩)
    · simp only [Bool.and_eq_true] at h
      exact ⟨(fun e => by cases e), fun _ => ⟨okw_in h.1, okw_in h.2⟩⟩
    · cases h
  · rename_i i h1 h2 h3 h4 h5 h6
    unfold xvh
    split
    · exact absurd rfl (h1 _)
    · exact absurd rfl (h2 _)
    · exact absurd rfl (h3 _)
    · exact absurd rfl (h4 _)
    · exact absurd rfl (h5 _)
    · exact absurd rfl (h6 _ _)
    · trivial
def xpar (d : String) : Option Nat := (parseMethodDescriptor d).map (fun d => d.parameters.length)
def xhost (c : String) : String := if c = "PackWrightLaw" ∨ c = "PackWrightLaw$Reg" then "PackWrightLaw" else "PackWright"
/-- the words of a call: initialized, code, and three more -/
def xvcB (M Y : XM) (mode ci idx : Nat) (pls : List Nat) : Bool :=
  match pls with
  | p1 :: p2 :: p3 :: p4 :: p5 :: _ =>
    (decide ((xmY Y).cls ≠ "java/lang/invoke/MethodHandle") && decide ((xmY Y).cls ≠ "java/lang/invoke/VarHandle")) && (okw p1 (.initialized (xmY Y).cls) && (
    (match mode with
    | 0 => decide (xmT Y = []) && (decide (xpar (xmY Y).desc = some (xmA Y)) && (okw p3 (.methodLink (xmY M).cls idx (xmY Y)) && okw p4 (.static (xmY Y))))
    | 1 => decide (xmT Y = []) && (decide ((xpar (xmY Y).desc).map (fun n => n + 1) = some (xmA Y)) && (okw p3 (.methodLink (xmY M).cls idx (xmY Y)) && (okw p4 (.instanceMethod (xmY Y)) && (okw p5 (.selects (xmY Y).cls (xmY Y) (xmY Y)) && (match xnth classes ci with
      | some (C, _, _) => decide (C = (xmY Y).cls)
      | none => false)))))
    | 2 => decide (xmT Y = []) && (decide ((xpar (xmY Y).desc).map (fun n => n + 1) = some (xmA Y)) && (okw p3 (.methodLink (xmY M).cls idx (xmY Y)) && (okw p4 (.instanceMethod (xmY Y)) && (decide ((xmY Y).name = "<init>") && decide (xmV Y = none)))))
    | 3 => decide (xmT Y = []) && (decide ((xpar (xmY Y).desc).map (fun n => n + 1) = some (xmA Y)) && (okn p3 (.methodLinkNest (xmY M).cls idx (xmY Y) (xhost (xmY M).cls)) && (okw p4 (.instanceMethod (xmY Y)) && (decide ((xmY Y).name = "<init>") && decide (xmV Y = none)))))
    | 4 => decide (xmT Y = []) && (decide (xpar (xmY Y).desc = some (xmA Y)) && (okn p3 (.methodLinkNest (xmY M).cls idx (xmY Y) (xhost (xmY M).cls)) && okw p4 (.static (xmY Y))))
    | 6 => decide (xmT Y ≠ []) && (decide (xpar (xmY Y).desc = some (xmA Y)) && (okw p3 (.methodLink (xmY M).cls idx (xmY Y)) && okw p4 (.static (xmY Y))))
    | _ => false)))
  | _ => false
theorem xpar1 {d : String} {n : Nat} (h : (xpar d).map (fun n => n + 1) = some n) : ∃ k, n = k + 1 ∧ (parseMethodDescriptor d).map (fun d => d.parameters.length) = some k := by
  unfold xpar at h
  cases hz : (parseMethodDescriptor d).map (fun d => d.parameters.length) with
  | none => rw [hz] at h; cases h
  | some k => rw [hz] at h; cases h; exact ⟨k, rfl, rfl⟩
theorem xvcB_ok {M Y : XM} {mode ci idx : Nat} {pls : List Nat} (hcode : xmW Y ∈ xTs) (h : xvcB M Y mode ci idx pls = true) : xvc M Y mode ci idx := by
  unfold xvcB at h
  split at h
  · rename_i p1 p2 p3 p4 p5 t
    rw [Bool.and_eq_true, Bool.and_eq_true, Bool.and_eq_true, decide_eq_true_eq, decide_eq_true_eq] at h
    obtain ⟨h1, h2, h4⟩ := h
    refine ⟨h1, okw_in h2, hcode, ?_⟩
    split at h4
    · simp only [Bool.and_eq_true, decide_eq_true_eq] at h4
      exact ⟨h4.1, h4.2.1, okw_in h4.2.2.1, okw_in h4.2.2.2⟩
    · simp only [Bool.and_eq_true, decide_eq_true_eq] at h4
      obtain ⟨g1, g2, g3, g4, g5, g6⟩ := h4
      split at g6
      · rename_i C T N hc
        rw [xnth_eq] at hc
        have g6 := of_decide_eq_true g6
        subst g6
        exact ⟨g1, xpar1 g2, okw_in g3, okw_in g4, okw_in g5, T, N, hc⟩
      · cases g6
    · simp only [Bool.and_eq_true, decide_eq_true_eq] at h4
      exact ⟨h4.1, xpar1 h4.2.1, okw_in h4.2.2.1, okw_in h4.2.2.2.1, h4.2.2.2.2.1, h4.2.2.2.2.2⟩
    · simp only [Bool.and_eq_true, decide_eq_true_eq] at h4
      exact ⟨h4.1, xpar1 h4.2.1, ⟨_, okn_in h4.2.2.1⟩, okw_in h4.2.2.2.1, h4.2.2.2.2.1, h4.2.2.2.2.2⟩
    · simp only [Bool.and_eq_true, decide_eq_true_eq] at h4
      exact ⟨h4.1, h4.2.1, ⟨_, okn_in h4.2.2.1⟩, okw_in h4.2.2.2⟩
    · simp only [Bool.and_eq_true, decide_eq_true_eq] at h4
      exact ⟨h4.1, h4.2.1, okw_in h4.2.2.1, okw_in h4.2.2.2⟩
    · cases h4
  · cases h
def xdB (M : XM) (pc : Nat) (i : Instr) (n : Nat) : Bool := decide (decode (xmB M) pc = .ok (i, n))
theorem xdB_ok {M : XM} {pc : Nat} {i : Instr} {n : Nat} (h : xdB M pc i n = true) : decode (xmB M) pc = .ok (i, n) := of_decide_eq_true h
def xidx : Instr → Nat
  | .invokestatic k => k
  | .invokevirtual k => k
  | .invokespecial k => k
  | _ => 0
def xveB (Ms : List XM) (M : XM) (e : XI) : Bool :=
  match e.2.2.1 with
  | 0 => xdB M e.1 e.2.1 (ilen e.2.1) && (match e.2.1 with
    | .ldc2_w k => (match e.2.2.2 with
      | a :: pl :: _ => okw pl (.constantLong (xmY M).cls k (Int64.ofNat a))
      | _ => false)
    | _ => true)
  | 1 => xdB M e.1 e.2.1 (ilen e.2.1) && xvhB (xmY M).cls (decide ((xmY M).name = "<init>")) e.2.1 e.2.2.2
  | 2 => xdB M e.1 e.2.1 (xil e.1 e.2.1)
  | 3 => (match e.2.2.2 with
    | mode :: k :: ci :: pls => xdB M e.1 (xvi mode (xidx e.2.1)) 3 && (match xnth Ms k with
      | some Y => xvcB M Y mode ci (xidx e.2.1) pls
      | none => true)
    | _ => true)
  | 4 => xdB M e.1 e.2.1 (ilen e.2.1)
  | 6 => (match e.2.2.2 with
    | p1 :: p2 :: p3 :: _ => xdB M e.1 (.invokespecial (xidx e.2.1)) 3 && (okw p1 (.methodLink (xmY M).cls (xidx e.2.1) Lib.objectInit) && (okw p2 (.instanceMethod Lib.objectInit) && okw p3 (.code Lib.objectInit ⟨#[0xb1]⟩ 1 none)))
    | _ => false)
  | 7 => (match e.2.2.2 with
    | p1 :: p2 :: p3 :: p4 :: _ => xdB M e.1 (.invokestatic (xidx e.2.1)) 3 && (okw p1 (.methodLink (xmY M).cls (xidx e.2.1) arraycopyName) && (okw p2 (.native arraycopyName) && (okw p3 (.static arraycopyName) && okw p4 (.initialized "java/lang/System"))))
    | _ => false)
  | 10 => (match e.2.2.2 with
    | mx :: p1 :: p2 :: p3 :: p4 :: _ => okw p4 (.initialized "java/lang/Math") && (xdB M e.1 (.invokestatic (xidx e.2.1)) 3 &&
      ((Nat.beq mx 0 && (okw p1 (.methodLink (xmY M).cls (xidx e.2.1) Lib.Math.min.name) && (okw p2 (.static Lib.Math.min.name) && okw p3 (.code Lib.Math.min.name Lib.Math.min.code 2 (some .int))))) ||
       (Nat.beq mx 1 && (okw p1 (.methodLink (xmY M).cls (xidx e.2.1) Lib.Math.max.name) && (okw p2 (.static Lib.Math.max.name) && okw p3 (.code Lib.Math.max.name Lib.Math.max.code 2 (some .int)))))))
    | _ => false)
  | _ => true
theorem xveB_ok {Ms : List XM} (hcode : ∀ Y ∈ Ms, xmW Y ∈ xTs) {M : XM} {e : XI} (h : xveB Ms M e = true) : xVE Ms M e := by
  unfold xveB at h
  unfold xVE
  split at h
  · rename_i hk
    rw [hk]
    rw [Bool.and_eq_true] at h
    refine ⟨xdB_ok h.1, fun k a t e1 e2 => ?_⟩
    have h2 := h.2
    rw [e1, e2] at h2
    dsimp only at h2
    cases t with
    | nil => cases h2
    | cons pl t => exact okw_in h2
  · rename_i hk
    rw [hk]
    rw [Bool.and_eq_true] at h
    exact ⟨xdB_ok h.1, xvhB_ok h.2⟩
  · rename_i hk
    rw [hk]
    exact xdB_ok h
  · rename_i hk
    rw [hk]
    intro mode k ci t e1
    rw [e1] at h
    dsimp only at h
    rw [Bool.and_eq_true] at h
    refine ⟨_, xdB_ok h.1, fun Y hY => ?_⟩
    have h2 := h.2
    rw [hY] at h2
    exact xvcB_ok (hcode Y (by rw [xnth_eq] at hY; exact List.mem_of_getElem? hY)) h2
  · rename_i hk
    rw [hk]
    exact xdB_ok h
  · rename_i hk
    rw [hk]
    split at h
    · simp only [Bool.and_eq_true] at h
      exact ⟨_, xdB_ok h.1, okw_in h.2.1, okw_in h.2.2.1, okw_in h.2.2.2⟩
    · cases h
  · rename_i hk
    rw [hk]
    split at h
    · simp only [Bool.and_eq_true] at h
      exact ⟨_, xdB_ok h.1, okw_in h.2.1, okw_in h.2.2.1, okw_in h.2.2.2.1, okw_in h.2.2.2.2⟩
    · cases h
  · rename_i hk
    rw [hk]
    split at h
    · rename_i mx p1 p2 p3 p4 tl haux
      simp only [Bool.or_eq_true, Bool.and_eq_true] at h
      intro mx9 t9 e9
      rw [haux] at e9
      cases e9
      refine ⟨okw_in h.1, _, xdB_ok h.2.1, ?_⟩
      rcases h.2.2 with ⟨a, b, c, d⟩ | ⟨a, b, c, d⟩
      · exact Or.inl ⟨Nat.eq_of_beq_eq_true a, okw_in b, okw_in c, okw_in d⟩
      · exact Or.inr ⟨Nat.eq_of_beq_eq_true a, okw_in b, okw_in c, okw_in d⟩
    · cases h
  · rename_i h0 h1 h2 h3 h4 h6 h7 h10
    split
    · rename_i z; exact absurd z h0
    · rename_i z; exact absurd z h1
    · rename_i z; exact absurd z h2
    · rename_i z; exact absurd z h3
    · rename_i z; exact absurd z h4
    · rename_i z; exact absurd z h6
    · rename_i z; exact absurd z h7
    · rename_i z; exact absurd z h10
    · trivial
/-- a method's own word, its bytes compared one by one -/
def xbl : List UInt8 → List UInt8 → Bool
  | [], [] => true
  | a :: s, b :: t => Nat.beq a.toNat b.toNat && xbl s t
  | _, _ => false
theorem xbl_eq : ∀ {s t : List UInt8}, xbl s t = true → s = t
  | [], [], _ => rfl
  | [], _ :: _, h => nomatch h
  | _ :: _, [], h => nomatch h
  | a :: s, b :: t, h => by
    unfold xbl at h
    rw [Bool.and_eq_true] at h
    rw [UInt8.toNat_inj.mp (Nat.eq_of_beq_eq_true h.1), xbl_eq h.2]
theorem xba_eq {a b : ByteArray} (h : a.data.toList = b.data.toList) : a = b := by
  cases a
  cases b
  exact congrArg ByteArray.mk (Array.toList_inj.mp h)
def xckB (pl : Nat) (M : XM) : Bool :=
  match xnth lw_tbl pl with
  | some (.code y b n r) => decide (xmT M = []) && (decide (y = xmY M) && (xbl b.data.toList (xmB M).data.toList && (Nat.beq n (xmN M) && decide (r = xmV M))))
  | _ => false
theorem xckB_ok {pl : Nat} {M : XM} (h : xckB pl M = true) : xmW M ∈ xTs := by
  unfold xckB at h
  split at h
  · rename_i y b n r hk
    simp only [Bool.and_eq_true, decide_eq_true_eq] at h
    obtain ⟨h0, rfl, h2, h3, rfl⟩ := h
    rw [xba_eq (xbl_eq h2), Nat.eq_of_beq_eq_true h3, xnth_eq] at hk
    unfold xmW
    rw [h0]
    exact xTs_in hk rfl
  · cases h
def xmokB (Ms : List XM) (M : XM) : Bool := plainName (xmY M).cls && (xmC M).all (xveB Ms M)
theorem xmokB_ok {Ms : List XM} (hcode : ∀ Y ∈ Ms, xmW Y ∈ xTs) {M : XM} (h : xmokB Ms M = true) : xMok Ms M := by
  unfold xmokB at h
  rw [Bool.and_eq_true] at h
  exact ⟨h.1, fun e he => xveB_ok hcode (List.all_eq_true.mp h.2 e he)⟩
end XD
end
section
theorem xx_last : True := trivial
end
