section
-- ===== PART A: goes FIRST, ahead of the names: the tables' words, and 'selects' of the private methods out of them =====
/-- a private method of a class that the tables say can be made, by its rows of tables_1 -/
def lw_okq (q : MethodName × Nat) : Prop := (q.1.cls ≠ "java/lang/invoke/MethodHandle" ∧ q.1.cls ≠ "java/lang/invoke/VarHandle") ∧ Cond.instantiable q.1.cls q.2 ∈ tables_1 ∧ Cond.privateMethod q.1 ∈ tables_1 ∧ Cond.instanceMethod q.1 ∈ tables_1
theorem lw_p0 : lw_okq (⟨"java/lang/Throwable", "fillInStackTrace", "(I)Ljava/lang/Throwable;"⟩, 6) := ⟨⟨by decide +kernel, by decide +kernel⟩, List.mem_of_getElem? (i := 66) (by decide +kernel), List.mem_of_getElem? (i := 64) (by decide +kernel), List.mem_of_getElem? (i := 65) (by decide +kernel)⟩
theorem lw_p1 : lw_okq (⟨"PackWright", "packThatIs", "(I)LPackWright$Pack;"⟩, 13) := ⟨⟨by decide +kernel, by decide +kernel⟩, List.mem_of_getElem? (i := 98) (by decide +kernel), List.mem_of_getElem? (i := 96) (by decide +kernel), List.mem_of_getElem? (i := 97) (by decide +kernel)⟩
theorem lw_p2 : lw_okq (⟨"PackWright", "opened", "(II)I"⟩, 13) := ⟨⟨by decide +kernel, by decide +kernel⟩, List.mem_of_getElem? (i := 98) (by decide +kernel), List.mem_of_getElem? (i := 121) (by decide +kernel), List.mem_of_getElem? (i := 122) (by decide +kernel)⟩
theorem lw_p3 : lw_okq (⟨"PackWright$Choice", "turnOn", "(LPackWright$Claim;)Z"⟩, 2) := ⟨⟨by decide +kernel, by decide +kernel⟩, List.mem_of_getElem? (i := 131) (by decide +kernel), List.mem_of_getElem? (i := 129) (by decide +kernel), List.mem_of_getElem? (i := 130) (by decide +kernel)⟩
theorem lw_p4 : lw_okq (⟨"PackWright$Choice", "turnOnByNeeds", "()Z"⟩, 2) := ⟨⟨by decide +kernel, by decide +kernel⟩, List.mem_of_getElem? (i := 131) (by decide +kernel), List.mem_of_getElem? (i := 134) (by decide +kernel), List.mem_of_getElem? (i := 135) (by decide +kernel)⟩
theorem lw_p5 : lw_okq (⟨"PackWright", "search", "(II)I"⟩, 13) := ⟨⟨by decide +kernel, by decide +kernel⟩, List.mem_of_getElem? (i := 98) (by decide +kernel), List.mem_of_getElem? (i := 157) (by decide +kernel), List.mem_of_getElem? (i := 158) (by decide +kernel)⟩
theorem lw_p6 : lw_okq (⟨"PackWright$Resolver", "addCandidate", "(ILPackWright$Version;)V"⟩, 11) := ⟨⟨by decide +kernel, by decide +kernel⟩, List.mem_of_getElem? (i := 185) (by decide +kernel), List.mem_of_getElem? (i := 183) (by decide +kernel), List.mem_of_getElem? (i := 184) (by decide +kernel)⟩
theorem lw_p7 : lw_okq (⟨"PackWright$Resolver", "openLevel", "()Z"⟩, 11) := ⟨⟨by decide +kernel, by decide +kernel⟩, List.mem_of_getElem? (i := 185) (by decide +kernel), List.mem_of_getElem? (i := 196) (by decide +kernel), List.mem_of_getElem? (i := 197) (by decide +kernel)⟩
theorem lw_p8 : lw_okq (⟨"PackWright$Resolver", "firstWithoutVersion", "()I"⟩, 11) := ⟨⟨by decide +kernel, by decide +kernel⟩, List.mem_of_getElem? (i := 185) (by decide +kernel), List.mem_of_getElem? (i := 200) (by decide +kernel), List.mem_of_getElem? (i := 201) (by decide +kernel)⟩
theorem lw_p9 : lw_okq (⟨"PackWright$Resolver", "addToRow", "(I)V"⟩, 11) := ⟨⟨by decide +kernel, by decide +kernel⟩, List.mem_of_getElem? (i := 185) (by decide +kernel), List.mem_of_getElem? (i := 204) (by decide +kernel), List.mem_of_getElem? (i := 205) (by decide +kernel)⟩
theorem lw_p10 : lw_okq (⟨"PackWright$Resolver", "nextCandidate", "(I)LPackWright$Version;"⟩, 11) := ⟨⟨by decide +kernel, by decide +kernel⟩, List.mem_of_getElem? (i := 185) (by decide +kernel), List.mem_of_getElem? (i := 210) (by decide +kernel), List.mem_of_getElem? (i := 211) (by decide +kernel)⟩
theorem lw_p11 : lw_okq (⟨"PackWright$Choice", "grants", "(LPackWright$Claim;Z)Z"⟩, 2) := ⟨⟨by decide +kernel, by decide +kernel⟩, List.mem_of_getElem? (i := 131) (by decide +kernel), List.mem_of_getElem? (i := 219) (by decide +kernel), List.mem_of_getElem? (i := 220) (by decide +kernel)⟩
theorem lw_p12 : lw_okq (⟨"PackWright$Choice", "grantsNeeds", "(LPackWright$Version;IZ)Z"⟩, 2) := ⟨⟨by decide +kernel, by decide +kernel⟩, List.mem_of_getElem? (i := 131) (by decide +kernel), List.mem_of_getElem? (i := 227) (by decide +kernel), List.mem_of_getElem? (i := 228) (by decide +kernel)⟩
theorem lw_p13 : lw_okq (⟨"PackWright$Choice", "isFreeOfClashes", "(LPackWright$Version;)Z"⟩, 2) := ⟨⟨by decide +kernel, by decide +kernel⟩, List.mem_of_getElem? (i := 131) (by decide +kernel), List.mem_of_getElem? (i := 231) (by decide +kernel), List.mem_of_getElem? (i := 232) (by decide +kernel)⟩
theorem lw_p14 : lw_okq (⟨"PackWright", "layChains", "()V"⟩, 13) := ⟨⟨by decide +kernel, by decide +kernel⟩, List.mem_of_getElem? (i := 98) (by decide +kernel), List.mem_of_getElem? (i := 260) (by decide +kernel), List.mem_of_getElem? (i := 261) (by decide +kernel)⟩
theorem lw_p15 : lw_okq (⟨"PackWright$Chains", "link", "(LPackWright$Choice;III)V"⟩, 4) := ⟨⟨by decide +kernel, by decide +kernel⟩, List.mem_of_getElem? (i := 270) (by decide +kernel), List.mem_of_getElem? (i := 268) (by decide +kernel), List.mem_of_getElem? (i := 269) (by decide +kernel)⟩
def lw_privs_1 : List (MethodName × Nat) := [(⟨"java/lang/Throwable", "fillInStackTrace", "(I)Ljava/lang/Throwable;"⟩, 6), (⟨"PackWright", "packThatIs", "(I)LPackWright$Pack;"⟩, 13), (⟨"PackWright", "opened", "(II)I"⟩, 13), (⟨"PackWright$Choice", "turnOn", "(LPackWright$Claim;)Z"⟩, 2), (⟨"PackWright$Choice", "turnOnByNeeds", "()Z"⟩, 2), (⟨"PackWright", "search", "(II)I"⟩, 13), (⟨"PackWright$Resolver", "addCandidate", "(ILPackWright$Version;)V"⟩, 11), (⟨"PackWright$Resolver", "openLevel", "()Z"⟩, 11), (⟨"PackWright$Resolver", "firstWithoutVersion", "()I"⟩, 11), (⟨"PackWright$Resolver", "addToRow", "(I)V"⟩, 11), (⟨"PackWright$Resolver", "nextCandidate", "(I)LPackWright$Version;"⟩, 11), (⟨"PackWright$Choice", "grants", "(LPackWright$Claim;Z)Z"⟩, 2), (⟨"PackWright$Choice", "grantsNeeds", "(LPackWright$Version;IZ)Z"⟩, 2), (⟨"PackWright$Choice", "isFreeOfClashes", "(LPackWright$Version;)Z"⟩, 2), (⟨"PackWright", "layChains", "()V"⟩, 13), (⟨"PackWright$Chains", "link", "(LPackWright$Choice;III)V"⟩, 4)]
theorem lw_r1 : ∀ q ∈ lw_privs_1, lw_okq q := List.forall_mem_cons.mpr ⟨lw_p0, List.forall_mem_cons.mpr ⟨lw_p1, List.forall_mem_cons.mpr ⟨lw_p2, List.forall_mem_cons.mpr ⟨lw_p3, List.forall_mem_cons.mpr ⟨lw_p4, List.forall_mem_cons.mpr ⟨lw_p5, List.forall_mem_cons.mpr ⟨lw_p6, List.forall_mem_cons.mpr ⟨lw_p7, List.forall_mem_cons.mpr ⟨lw_p8, List.forall_mem_cons.mpr ⟨lw_p9, List.forall_mem_cons.mpr ⟨lw_p10, List.forall_mem_cons.mpr ⟨lw_p11, List.forall_mem_cons.mpr ⟨lw_p12, List.forall_mem_cons.mpr ⟨lw_p13, List.forall_mem_cons.mpr ⟨lw_p14, List.forall_mem_cons.mpr ⟨lw_p15, fun _ h => absurd h List.not_mem_nil⟩⟩⟩⟩⟩⟩⟩⟩⟩⟩⟩⟩⟩⟩⟩⟩
theorem lw_p16 : lw_okq (⟨"PackWright", "isHopeless", "(I)Z"⟩, 13) := ⟨⟨by decide +kernel, by decide +kernel⟩, List.mem_of_getElem? (i := 98) (by decide +kernel), List.mem_of_getElem? (i := 279) (by decide +kernel), List.mem_of_getElem? (i := 280) (by decide +kernel)⟩
theorem lw_p17 : lw_okq (⟨"PackWright$Plan", "removeAll", "(LPackWright$Choice;I)V"⟩, 6) := ⟨⟨by decide +kernel, by decide +kernel⟩, List.mem_of_getElem? (i := 335) (by decide +kernel), List.mem_of_getElem? (i := 333) (by decide +kernel), List.mem_of_getElem? (i := 334) (by decide +kernel)⟩
theorem lw_p18 : lw_okq (⟨"PackWright$Plan", "addStep", "(IILPackWright$Choice;)V"⟩, 6) := ⟨⟨by decide +kernel, by decide +kernel⟩, List.mem_of_getElem? (i := 335) (by decide +kernel), List.mem_of_getElem? (i := 342) (by decide +kernel), List.mem_of_getElem? (i := 343) (by decide +kernel)⟩
theorem lw_p19 : lw_okq (⟨"PackWright$Plan", "putAll", "(LPackWright$Choice;LPackWright$Choice;I)V"⟩, 6) := ⟨⟨by decide +kernel, by decide +kernel⟩, List.mem_of_getElem? (i := 335) (by decide +kernel), List.mem_of_getElem? (i := 346) (by decide +kernel), List.mem_of_getElem? (i := 347) (by decide +kernel)⟩
theorem lw_p20 : lw_okq (⟨"PackWright", "requirePlan", "()V"⟩, 13) := ⟨⟨by decide +kernel, by decide +kernel⟩, List.mem_of_getElem? (i := 98) (by decide +kernel), List.mem_of_getElem? (i := 364) (by decide +kernel), List.mem_of_getElem? (i := 365) (by decide +kernel)⟩
theorem lw_p21 : lw_okq (⟨"PackWright", "doNextStep", "()Z"⟩, 13) := ⟨⟨by decide +kernel, by decide +kernel⟩, List.mem_of_getElem? (i := 98) (by decide +kernel), List.mem_of_getElem? (i := 387) (by decide +kernel), List.mem_of_getElem? (i := 388) (by decide +kernel)⟩
theorem lw_p22 : lw_okq (⟨"PackWright$Cache", "putFirst", "(LPackWright$Version;I)V"⟩, 4) := ⟨⟨by decide +kernel, by decide +kernel⟩, List.mem_of_getElem? (i := 409) (by decide +kernel), List.mem_of_getElem? (i := 407) (by decide +kernel), List.mem_of_getElem? (i := 408) (by decide +kernel)⟩
theorem lw_p23 : lw_okq (⟨"PackWright", "mixPackage", "(JI)J"⟩, 13) := ⟨⟨by decide +kernel, by decide +kernel⟩, List.mem_of_getElem? (i := 98) (by decide +kernel), List.mem_of_getElem? (i := 497) (by decide +kernel), List.mem_of_getElem? (i := 498) (by decide +kernel)⟩
theorem lw_p24 : lw_okq (⟨"PackWright", "versionThatIs", "(II)LPackWright$Version;"⟩, 13) := ⟨⟨by decide +kernel, by decide +kernel⟩, List.mem_of_getElem? (i := 98) (by decide +kernel), List.mem_of_getElem? (i := 528) (by decide +kernel), List.mem_of_getElem? (i := 529) (by decide +kernel)⟩
theorem lw_p25 : lw_okq (⟨"PackWright", "requireStep", "(I)V"⟩, 13) := ⟨⟨by decide +kernel, by decide +kernel⟩, List.mem_of_getElem? (i := 98) (by decide +kernel), List.mem_of_getElem? (i := 538) (by decide +kernel), List.mem_of_getElem? (i := 539) (by decide +kernel)⟩
theorem lw_p26 : lw_okq (⟨"PackWright", "requireOther", "(II)V"⟩, 13) := ⟨⟨by decide +kernel, by decide +kernel⟩, List.mem_of_getElem? (i := 98) (by decide +kernel), List.mem_of_getElem? (i := 918) (by decide +kernel), List.mem_of_getElem? (i := 919) (by decide +kernel)⟩
def lw_privs_2 : List (MethodName × Nat) := [(⟨"PackWright", "isHopeless", "(I)Z"⟩, 13), (⟨"PackWright$Plan", "removeAll", "(LPackWright$Choice;I)V"⟩, 6), (⟨"PackWright$Plan", "addStep", "(IILPackWright$Choice;)V"⟩, 6), (⟨"PackWright$Plan", "putAll", "(LPackWright$Choice;LPackWright$Choice;I)V"⟩, 6), (⟨"PackWright", "requirePlan", "()V"⟩, 13), (⟨"PackWright", "doNextStep", "()Z"⟩, 13), (⟨"PackWright$Cache", "putFirst", "(LPackWright$Version;I)V"⟩, 4), (⟨"PackWright", "mixPackage", "(JI)J"⟩, 13), (⟨"PackWright", "versionThatIs", "(II)LPackWright$Version;"⟩, 13), (⟨"PackWright", "requireStep", "(I)V"⟩, 13), (⟨"PackWright", "requireOther", "(II)V"⟩, 13)]
theorem lw_r2 : ∀ q ∈ lw_privs_2, lw_okq q := List.forall_mem_cons.mpr ⟨lw_p16, List.forall_mem_cons.mpr ⟨lw_p17, List.forall_mem_cons.mpr ⟨lw_p18, List.forall_mem_cons.mpr ⟨lw_p19, List.forall_mem_cons.mpr ⟨lw_p20, List.forall_mem_cons.mpr ⟨lw_p21, List.forall_mem_cons.mpr ⟨lw_p22, List.forall_mem_cons.mpr ⟨lw_p23, List.forall_mem_cons.mpr ⟨lw_p24, List.forall_mem_cons.mpr ⟨lw_p25, List.forall_mem_cons.mpr ⟨lw_p26, fun _ h => absurd h List.not_mem_nil⟩⟩⟩⟩⟩⟩⟩⟩⟩⟩⟩
def lw_privs : List (MethodName × Nat) := lw_privs_1 ++ (lw_privs_2)
def lw_tbl : List Cond := k2_sels lw_privs ++ tables_1
theorem lw_privs_ok : ∀ q ∈ lw_privs, lw_okq q := by
  show ∀ q ∈ lw_privs_1 ++ (lw_privs_2), lw_okq q
  exact List.forall_mem_append.mpr ⟨lw_r1, lw_r2⟩
def xT0 : u_T := fun k => match k with
  | 0 => ("PackWright$Cache", "held", "[LPackWright$Version;", true)
  | 1 => ("PackWright$Cache", "count", "I", false)
  | 2 => ("PackWright$Cache", "used", "I", false)
  | _ => ("PackWright$Cache", "room", "I", false)
def xY0 : Nat → FieldType := fun k => match k with
  | 0 => .array (.object "PackWright$Version")
  | 1 => .int
  | 2 => .int
  | _ => .int
theorem xN0 : ∀ a, a < 4 → ∀ b, b < 4 → a ≠ b → (xT0 a).2.1 ≠ (xT0 b).2.1 := by decide +kernel
theorem xY0_ok : ∀ k, k < 4 → parseFieldDescriptor (xT0 k).2.2.1 = some (xY0 k) := by decide +kernel
def xT1 : u_T := fun k => match k with
  | 0 => ("PackWright$Chains", "lengths", "[I", true)
  | 1 => ("PackWright$Chains", "ahead", "[I", true)
  | 2 => ("PackWright$Chains", "queue", "[I", true)
  | _ => ("PackWright$Chains", "queued", "I", false)
def xY1 : Nat → FieldType := fun k => match k with
  | 0 => .array .int
  | 1 => .array .int
  | 2 => .array .int
  | _ => .int
theorem xN1 : ∀ a, a < 4 → ∀ b, b < 4 → a ≠ b → (xT1 a).2.1 ≠ (xT1 b).2.1 := by decide +kernel
theorem xY1_ok : ∀ k, k < 4 → parseFieldDescriptor (xT1 k).2.2.1 = some (xY1 k) := by decide +kernel
def xT2 : u_T := fun k => match k with
  | 0 => ("PackWright$Choice", "chosen", "[LPackWright$Version;", true)
  | _ => ("PackWright$Choice", "on", "[I", true)
def xY2 : Nat → FieldType := fun k => match k with
  | 0 => .array (.object "PackWright$Version")
  | _ => .array .int
theorem xN2 : ∀ a, a < 2 → ∀ b, b < 2 → a ≠ b → (xT2 a).2.1 ≠ (xT2 b).2.1 := by decide +kernel
theorem xY2_ok : ∀ k, k < 2 → parseFieldDescriptor (xT2 k).2.2.1 = some (xY2 k) := by decide +kernel
def xT3 : u_T := fun k => match k with
  | 0 => ("PackWright$Pack", "versions", "[LPackWright$Version;", true)
  | 1 => ("PackWright$Pack", "greatestFirst", "[LPackWright$Version;", true)
  | _ => ("PackWright$Pack", "count", "I", false)
def xY3 : Nat → FieldType := fun k => match k with
  | 0 => .array (.object "PackWright$Version")
  | 1 => .array (.object "PackWright$Version")
  | _ => .int
theorem xN3 : ∀ a, a < 3 → ∀ b, b < 3 → a ≠ b → (xT3 a).2.1 ≠ (xT3 b).2.1 := by decide +kernel
theorem xY3_ok : ∀ k, k < 3 → parseFieldDescriptor (xT3 k).2.2.1 = some (xY3 k) := by decide +kernel
def xT4 : u_T := fun k => match k with
  | 0 => ("PackWright$Plan", "isThere", "Z", false)
  | 1 => ("PackWright$Plan", "count", "I", false)
  | 2 => ("PackWright$Plan", "done", "I", false)
  | 3 => ("PackWright$Plan", "kinds", "[I", true)
  | 4 => ("PackWright$Plan", "packs", "[I", true)
  | _ => ("PackWright$Plan", "before", "[LPackWright$Version;", true)
def xY4 : Nat → FieldType := fun k => match k with
  | 0 => .boolean
  | 1 => .int
  | 2 => .int
  | 3 => .array .int
  | 4 => .array .int
  | _ => .array (.object "PackWright$Version")
theorem xN4 : ∀ a, a < 6 → ∀ b, b < 6 → a ≠ b → (xT4 a).2.1 ≠ (xT4 b).2.1 := by decide +kernel
theorem xY4_ok : ∀ k, k < 6 → parseFieldDescriptor (xT4 k).2.2.1 = some (xY4 k) := by decide +kernel
def xT5 : u_T := fun k => match k with
  | 0 => ("PackWright$Resolver", "asked", "LPackWright$Wishes;", true)
  | 1 => ("PackWright$Resolver", "choice", "LPackWright$Choice;", true)
  | 2 => ("PackWright$Resolver", "tryCount", "I", false)
  | 3 => ("PackWright$Resolver", "candidates", "[LPackWright$Version;", true)
  | 4 => ("PackWright$Resolver", "candidateCounts", "[I", true)
  | 5 => ("PackWright$Resolver", "triedCounts", "[I", true)
  | 6 => ("PackWright$Resolver", "row", "[I", true)
  | 7 => ("PackWright$Resolver", "rowLength", "I", false)
  | 8 => ("PackWright$Resolver", "rowSet", "I", false)
  | 9 => ("PackWright$Resolver", "levels", "[I", true)
  | _ => ("PackWright$Resolver", "levelCount", "I", false)
def xY5 : Nat → FieldType := fun k => match k with
  | 0 => .object "PackWright$Wishes"
  | 1 => .object "PackWright$Choice"
  | 2 => .int
  | 3 => .array (.object "PackWright$Version")
  | 4 => .array .int
  | 5 => .array .int
  | 6 => .array .int
  | 7 => .int
  | 8 => .int
  | 9 => .array .int
  | _ => .int
theorem xN5 : ∀ a, a < 11 → ∀ b, b < 11 → a ≠ b → (xT5 a).2.1 ≠ (xT5 b).2.1 := by decide +kernel
theorem xY5_ok : ∀ k, k < 11 → parseFieldDescriptor (xT5 k).2.2.1 = some (xY5 k) := by decide +kernel
def xT6 : u_T := fun k => match k with
  | 0 => ("PackWright$Wishes", "row", "[LPackWright$Claim;", true)
  | _ => ("PackWright$Wishes", "count", "I", false)
def xY6 : Nat → FieldType := fun k => match k with
  | 0 => .array (.object "PackWright$Claim")
  | _ => .int
theorem xN6 : ∀ a, a < 2 → ∀ b, b < 2 → a ≠ b → (xT6 a).2.1 ≠ (xT6 b).2.1 := by decide +kernel
theorem xY6_ok : ∀ k, k < 2 → parseFieldDescriptor (xT6 k).2.2.1 = some (xY6 k) := by decide +kernel
def xT7 : u_T := fun k => match k with
  | 0 => ("PackWright", "packs", "[LPackWright$Pack;", true)
  | 1 => ("PackWright", "packCount", "I", false)
  | 2 => ("PackWright", "wished", "LPackWright$Wishes;", true)
  | 3 => ("PackWright", "lock", "LPackWright$Choice;", true)
  | 4 => ("PackWright", "onDisk", "LPackWright$Choice;", true)
  | 5 => ("PackWright", "resolver", "LPackWright$Resolver;", true)
  | 6 => ("PackWright", "chains", "LPackWright$Chains;", true)
  | 7 => ("PackWright", "planned", "LPackWright$Plan;", true)
  | 8 => ("PackWright", "cache", "LPackWright$Cache;", true)
  | 9 => ("PackWright", "trialCache", "LPackWright$Cache;", true)
  | 10 => ("PackWright", "diskRoom", "I", false)
  | 11 => ("PackWright", "latestTries", "I", false)
  | _ => ("PackWright", "fetchCount", "I", false)
def xY7 : Nat → FieldType := fun k => match k with
  | 0 => .array (.object "PackWright$Pack")
  | 1 => .int
  | 2 => .object "PackWright$Wishes"
  | 3 => .object "PackWright$Choice"
  | 4 => .object "PackWright$Choice"
  | 5 => .object "PackWright$Resolver"
  | 6 => .object "PackWright$Chains"
  | 7 => .object "PackWright$Plan"
  | 8 => .object "PackWright$Cache"
  | 9 => .object "PackWright$Cache"
  | 10 => .int
  | 11 => .int
  | _ => .int
theorem xN7 : ∀ a, a < 13 → ∀ b, b < 13 → a ≠ b → (xT7 a).2.1 ≠ (xT7 b).2.1 := by decide +kernel
theorem xY7_ok : ∀ k, k < 13 → parseFieldDescriptor (xT7 k).2.2.1 = some (xY7 k) := by decide +kernel
def xT8 : u_T := fun k => match k with
  | 0 => ("PackWright$Claim", "target", "I", true)
  | 1 => ("PackWright$Claim", "condition", "I", true)
  | 2 => ("PackWright$Claim", "features", "I", true)
  | 3 => ("PackWright$Claim", "range", "LPackWright$Range;", true)
  | _ => ("PackWright$Claim", "next", "LPackWright$Claim;", false)
def xY8 : Nat → FieldType := fun k => match k with
  | 0 => .int
  | 1 => .int
  | 2 => .int
  | 3 => .object "PackWright$Range"
  | _ => .object "PackWright$Claim"
theorem xN8 : ∀ a, a < 5 → ∀ b, b < 5 → a ≠ b → (xT8 a).2.1 ≠ (xT8 b).2.1 := by decide +kernel
theorem xY8_ok : ∀ k, k < 5 → parseFieldDescriptor (xT8 k).2.2.1 = some (xY8 k) := by decide +kernel
def xT9 : u_T := fun k => match k with
  | 0 => ("PackWright$Range", "first", "I", true)
  | _ => ("PackWright$Range", "end", "I", true)
def xY9 : Nat → FieldType := fun k => match k with
  | 0 => .int
  | _ => .int
theorem xN9 : ∀ a, a < 2 → ∀ b, b < 2 → a ≠ b → (xT9 a).2.1 ≠ (xT9 b).2.1 := by decide +kernel
theorem xY9_ok : ∀ k, k < 2 → parseFieldDescriptor (xT9 k).2.2.1 = some (xY9 k) := by decide +kernel
def xT10 : u_T := fun k => match k with
  | 0 => ("PackWright$Version", "number", "I", true)
  | 1 => ("PackWright$Version", "mark", "I", true)
  | 2 => ("PackWright$Version", "size", "I", true)
  | 3 => ("PackWright$Version", "isWithdrawn", "Z", false)
  | 4 => ("PackWright$Version", "firstNeed", "LPackWright$Claim;", false)
  | 5 => ("PackWright$Version", "needCount", "I", false)
  | 6 => ("PackWright$Version", "firstClash", "LPackWright$Claim;", false)
  | _ => ("PackWright$Version", "clashCount", "I", false)
def xY10 : Nat → FieldType := fun k => match k with
  | 0 => .int
  | 1 => .int
  | 2 => .int
  | 3 => .boolean
  | 4 => .object "PackWright$Claim"
  | 5 => .int
  | 6 => .object "PackWright$Claim"
  | _ => .int
theorem xN10 : ∀ a, a < 8 → ∀ b, b < 8 → a ≠ b → (xT10 a).2.1 ≠ (xT10 b).2.1 := by decide +kernel
theorem xY10_ok : ∀ k, k < 8 → parseFieldDescriptor (xT10 k).2.2.1 = some (xY10 k) := by decide +kernel
def xT11 : u_T := fun k => match k with
  | 0 => ("PackWrightLaw$Reg", "m", "LPackWright;", true)
  | 1 => ("PackWrightLaw$Reg", "s", "[I", true)
  | 2 => ("PackWrightLaw$Reg", "draws", "I", false)
  | 3 => ("PackWrightLaw$Reg", "packages", "I", false)
  | 4 => ("PackWrightLaw$Reg", "count", "[I", true)
  | 5 => ("PackWrightLaw$Reg", "numbers", "[[[I", true)
  | 6 => ("PackWrightLaw$Reg", "size", "[[I", true)
  | 7 => ("PackWrightLaw$Reg", "isWithdrawn", "[[Z", true)
  | 8 => ("PackWrightLaw$Reg", "needs", "[[[I", true)
  | 9 => ("PackWrightLaw$Reg", "clashes", "[[[I", true)
  | 10 => ("PackWrightLaw$Reg", "wishes", "I", false)
  | 11 => ("PackWrightLaw$Reg", "wish", "[[I", true)
  | _ => ("PackWrightLaw$Reg", "tries", "I", false)
def xY11 : Nat → FieldType := fun k => match k with
  | 0 => .object "PackWright"
  | 1 => .array .int
  | 2 => .int
  | 3 => .int
  | 4 => .array .int
  | 5 => .array (.array (.array .int))
  | 6 => .array (.array .int)
  | 7 => .array (.array .boolean)
  | 8 => .array (.array (.array .int))
  | 9 => .array (.array (.array .int))
  | 10 => .int
  | 11 => .array (.array .int)
  | _ => .int
theorem xN11 : ∀ a, a < 13 → ∀ b, b < 13 → a ≠ b → (xT11 a).2.1 ≠ (xT11 b).2.1 := by decide +kernel
theorem xY11_ok : ∀ k, k < 13 → parseFieldDescriptor (xT11 k).2.2.1 = some (xY11 k) := by decide +kernel
/-- the classes whose objects the worlds hold -/
abbrev classes : List vw_C := [("PackWright$Cache", xT0, 4), ("PackWright$Chains", xT1, 4), ("PackWright$Choice", xT2, 2), ("PackWright$Pack", xT3, 3), ("PackWright$Plan", xT4, 6), ("PackWright$Resolver", xT5, 11), ("PackWright$Wishes", xT6, 2), ("PackWright", xT7, 13), ("PackWright$Claim", xT8, 5), ("PackWright$Range", xT9, 2), ("PackWright$Version", xT10, 8), ("PackWrightLaw$Reg", xT11, 13)]
end
section
/-! ===== BEGIN words of one list among another's, by their places ===== -/
theorem goodIn_r {big : List Cond} (ws : List Cond) (ps : List Nat) (hp : ws = ps.filterMap (fun i => big[i]?)) (h : ws.all goodWord = true) : GoodIn big ws := by
  intro w hw
  have h1 := List.all_eq_true.mp h w hw
  rw [hp] at hw
  obtain ⟨i, -, hi⟩ := List.mem_filterMap.mp hw
  have hm : w ∈ big := by first | exact List.mem_of_getElem? hi | exact List.getElem?_mem hi
  exact ⟨hm, good_of_word h1⟩
theorem goodIn_app {big a b : List Cond} (ha : GoodIn big a) (hb : GoodIn big b) : GoodIn big (a ++ b) := fun w h => (List.mem_append.mp h).elim (ha w) (hb w)
theorem goodIn_ca {big a b : List Cond} {c : Cond} (ha : GoodIn big (c :: a)) (hb : GoodIn big b) : GoodIn big (c :: (a ++ b)) := fun w h => (List.mem_cons.mp h).elim (fun e => ha w (List.mem_cons.mpr (Or.inl e))) (fun h => (List.mem_append.mp h).elim (fun h => ha w (List.mem_cons.mpr (Or.inr h))) (hb w))
theorem goodIn_sub {big ws : List Cond} (hm : ∀ w ∈ ws, w ∈ big) (h : ws.all goodWord = true) : GoodIn big ws := fun w hw => ⟨hm w hw, good_of_word (List.all_eq_true.mp h w hw)⟩
/-! ===== END ===== -/
/-! ===== BEGIN exceptions that leave a method, and their catching by the caller (launches without stack traces) ===== -/
section VXA
/-! The laws vx_back, vx_callV, vx_callS, vx_callSW, vx_throw0, vx_throwS follow proofs of the library, with one case more: JvmDerived/Free/Laws.lean (Back.of_free), Shelf42/LK1.lean (callV, callS), Shelf/KitTraced.lean (throwNew0V, throwNewS). -/
/-- where a method has thrown q: the class by its name, the cell, what was written, the world -/
def vx_T (XC : String → State → State → Prop) (st : State) (q : Addr) (t : State) (mc ms : Nat) (free : Addr → Prop) : Prop :=
  ∃ (E : String) (ce : Cell) (L : List Loc), XC E st t ∧ t.heap[q]? = some ce ∧ ce.vm = .none ∧ st.vm.findClass E = some ce.cls ∧ st.WarmedH t.vm ∧ st.sameButNew ({ t with vm := st.vm } : State) L mc ms ∧ ∀ z ∈ L, free z.base
def vx_Q (Qc : Array Value → State → Outcome → State → Prop) (XC : String → State → State → Prop) (mc ms : Nat) (free : Addr → Prop) : Array Value → State → Outcome → State → Prop := fun a st o t =>
  (Qc a st o t ∧ ∃ L, FrameEnd st o t L mc ms ∧ ∀ q ∈ L, free q.base) ∨ ∃ q, o = .threw q ∧ vx_T XC st q t mc ms free
/-- a callee that returns or throws -/
def vx_Met (l : Launch) (y : MethodName) (ws : List Cond) (rm : Room) (Pc : Array Value → State → Prop) (Qc : Array Value → State → Outcome → State → Prop) (XC : String → State → State → Prop) (mc ms : Nat) (free : Addr → Prop) : Prop :=
  MetFree l y (headSpec ws rm) Pc (fun _ _ _ _ _ => True) (vx_Q Qc XC mc ms free)
def vx_Post (XC : String → State → State → Prop) (mc ms : Nat) (free : Addr → Prop) : Pt → Array Value → Addr → Pt → Prop := fun A a q B =>
  ∃ (g : JFrame) (mk : MethodId) (t : State) (L : List Loc) (E : String) (ce : Cell), B.U.heap = t.heap ∧ B.U.vm = t.vm ∧ XC E (A.U.calling g mk a) t ∧ t.heap[q]? = some ce ∧ ce.vm = .none ∧ A.U.vm.findClass E = some ce.cls ∧ B.locs = A.locs ++ L ∧ (∀ z ∈ L, free z.base) ∧ B.cells = A.cells + mc ∧ B.slots = A.slots + ms
def vx_Back (l : Launch) (R : Room) (p : Program) (e : Env) (below : List Frame) (s : State) (sargs : Array Value) (y : MethodName) (len W9 : Nat)
    (Pre : Pt → Array Value → Prop) (Post : Pt → Array Value → Option Value → Pt → Prop) (PostX : Pt → Array Value → Addr → Pt → Prop) : Prop :=
  ∀ (m : MethodId) (meth : Method) (c : Code) (A : Pt) (g : JFrame) (ig : Instr) (mk : MethodId) (a : Array Value),
    Stand p l e R s m sargs below meth c A.U A.locs A.cells A.slots → g.method = m → g.locals.size = c.maxLocals → decode c.code g.pc = .ok (ig, len) →
    2 * g.monitorRoom + (g.stack.map fun v => v.category).sum ≤ W9 → A.U.methodNamed? y = some mk → Pre A a →
    (∃ (v : Option Value) (B : Pt), Stand p l e R s m sargs below meth c B.U B.locs B.cells B.slots ∧ Post A a v B ∧
      Steps p.tables e below (doInvoke e (A.U.setTop g) [] mk a).1 (B.U.setTop { g with pc := g.pc + len, stack := v.toList ++ g.stack })) ∨
    (∃ (q : Addr) (B : Pt), Stand p l e R s m sargs below meth c B.U B.locs B.cells B.slots ∧ PostX A a q B ∧
      Steps p.tables e below (doInvoke e (A.U.setTop g) [] mk a).1 ((B.U.setTop g).pushFrame (.throwing q)))
section Payer
variable {l : Launch} {R : Room} {p : Program} {e : Env} {below : List Frame} {s : State} {sargs : Array Value} {y : MethodName} {len W9 : Nat}
theorem vx_back {ws : List Cond} {rm : Room} {Pc : Array Value → State → Prop} {Qc : Array Value → State → Outcome → State → Prop} {XC : String → State → State → Prop} {mc ms : Nat} {free : Addr → Prop} {bytes : ByteArray} {maxL : Nat} {ret : Option FieldType}
    (hM : vx_Met l y ws rm Pc Qc XC mc ms free) (hblind : FrameBlind Pc) (hrc : rm.cells = mc) (hrs : rm.slots = ms)
    (hframes : rm.frames + 1 ≤ R.frames) (hlocals : W9 + (maxL + 11) + rm.locals ≤ R.locals)
    (hws : ∀ w ∈ ws, ∀ a' U, s.WarmedH U.vm → w.before a' U = true) (hcode : Cond.code y bytes maxL ret ∈ ws) (hinit : ∀ a' U, s.WarmedH U.vm → (Cond.initialized y.cls).before a' U = true) :
    vx_Back l R p e below s sargs y len W9 (PreOf R mc ms Pc) (PostOf Qc mc ms free) (vx_Post XC mc ms free) := by
  intro m meth c A g ig mk a X hg hsize hdg hW hn hp
  have h1 : (headSpec ws rm).pre.before a A.U = true := atoms_intro fun w hw => hws w hw _ _ X.warmed
  have h2 : (Cond.code y bytes maxL ret).before a A.U = true := hws _ hcode _ _ X.warmed
  have h3 : (Cond.initialized y.cls).before a A.U = true := hinit _ _ X.warmed
  have h4 : A.cells + (headSpec ws rm).room.cells ≤ R.cells := by rw [show (headSpec ws rm).room.cells = mc from hrc]; exact hp.1
  have h5 : A.slots + (headSpec ws rm).room.slots ≤ R.slots := by rw [show (headSpec ws rm).room.slots = ms from hrs]; exact hp.2.1
  have hPc : Pc a (A.U.calling g mk a) := hblind _ _ _ _ hp.2.2
  obtain ⟨U, Ls, c0, s0⟩ := A
  dsimp only [Pt.U, Pt.locs, Pt.cells, Pt.slots] at h1 h2 h3 h4 h5 X hn hPc ⊢
  obtain ⟨methY, cY, hmY, hcY, -, hlY, -, -, -, -⟩ := Cond.code_spec hn h2
  obtain ⟨kY, hkY, -⟩ := className_of_methodNamed hn
  have hinitY : kY.init = .initialized := Cond.initialized_spec (findClass_of_methodNamed hn) hkY h3
  have h : At U g.method c below := by rw [hg]; exact X.here
  have hlocals9 : W9 + (maxL + 11) + (headSpec ws rm).room.locals ≤ R.locals := hlocals
  have happ : (headSpec ws rm).appliesLoose y e.platform (U.calling g mk a) = true :=
    Spec.appliesLoose_calling (g := g) h hdg hn hkY hinitY
      (X.room_calling (g := g) (R' := (headSpec ws rm).room) hsize hmY hcY hframes (by rw [hlY]; omega) h4 h5) h1
  obtain ⟨mid, hmid⟩ := h.above
  have hfr : (U.setTop g).frames = (.java g :: mid) ++ below := by rw [State.frames_setTop' g h.top, hmid]; rfl
  obtain ⟨o, s₂, hsteps, -, hend, hq⟩ := Steps.callFree hM p X.admits X.cas X.clock (acts := []) hfr happ hPc trivial
  have hq' : vx_Q Qc XC mc ms free a (U.calling g mk a) o s₂ := hq
  rw [State.frames_setTop' g h.top] at hend
  obtain ⟨g₀, hg0⟩ := Option.isSome_iff_exists.mp h.top
  obtain ⟨r, hr⟩ := State.topJava?_eq_some.mp hg0
  have hr' : (({ U with heap := s₂.heap, slotsUsed := s₂.slotsUsed } : State).setVm s₂.vm).frames = .java g₀ :: r := hr
  rcases hq' with ⟨hqc, L, hfe, hL⟩ | ⟨q, rfl, E, ce, L, hx, hce, hcv, hcl, hW₂, hsm, hL⟩
  · obtain ⟨⟨v, rfl⟩, hW₂, e2, q2, q3, q4, q5, q6⟩ := id hfe
    have e3 : s₂ = ({ (U.calling g mk a).setFrames s₂.frames with heap := s₂.heap, slotsUsed := s₂.slotsUsed } : State).setVm s₂.vm := by
      have : s₂ = ({ s₂ with vm := (U.calling g mk a).vm } : State).setVm s₂.vm := rfl
      rw [e2] at this
      exact this
    obtain ⟨c₂, i₂, len₂, hc₂, hd₂, hf₂⟩ := hend
    have hW' : U.WarmedH s₂.vm := hW₂
    have hcc : c₂ = c := by
      have h1 : s₂.code? g.method = U.code? g.method := by
        rw [State.code?_eq, State.code?_eq, hW'.alike.method?]
      exact Option.some.inj (hc₂.symm.trans (h1.trans h.code))
    subst hcc
    have hlen : len₂ = len := by rw [hdg] at hd₂; cases hd₂; rfl
    subst hlen
    have hs₂ : s₂ = (({ U with heap := s₂.heap, slotsUsed := s₂.slotsUsed } : State).setVm s₂.vm).setTop { g with pc := g.pc + len₂, stack := v.toList ++ g.stack } := by
      refine e3.trans ?_
      rw [hf₂, State.calling_eq h.top, State.setFrames_setFrames, State.setTop_of_frames _ hr', hr]
      rfl
    have hsame : U.sameButNew ({ U with heap := s₂.heap, slotsUsed := s₂.slotsUsed } : State) L mc ms := by
      refine ⟨?_, q2, q3, q4, q5, q6⟩
      obtain ⟨t, ht, -⟩ := State.frames_cons hr
      show ({ U with heap := s₂.heap, slotsUsed := s₂.slotsUsed } : State) = { U.setFrames U.frames with heap := s₂.heap, slotsUsed := s₂.slotsUsed }
      rw [State.setFrames_self ht]
    subst hg
    refine Or.inl ⟨v, ⟨(({ U with heap := s₂.heap, slotsUsed := s₂.slotsUsed } : State).setVm s₂.vm), Ls ++ L, c0 + mc, s0 + ms⟩,
      ⟨X.admits, X.cas, X.clock, X.frames, X.room, X.hears, X.method, X.code, (X.here.setHeapUsed s₂.heap s₂.slotsUsed).setVm hW'.alike, X.tail, State.WarmedH.trans X.warmed hW', X.limits, X.bytes, X.same.trans (hsame.setVm s.vm)⟩,
      ⟨g, mk, s₂, L, rfl, rfl, hqc, rfl, hL, rfl, rfl⟩, ?_⟩
    show Steps p.tables e below _ ((({ U with heap := s₂.heap, slotsUsed := s₂.slotsUsed } : State).setVm s₂.vm).setTop { g with pc := g.pc + len₂, stack := v.toList ++ g.stack })
    rw [← hs₂]
    exact hsteps
  · obtain ⟨e2, q2, q3, q4, q5, q6⟩ := id hsm
    have e3 : s₂ = ({ (U.calling g mk a).setFrames s₂.frames with heap := s₂.heap, slotsUsed := s₂.slotsUsed } : State).setVm s₂.vm := by
      have : s₂ = ({ s₂ with vm := (U.calling g mk a).vm } : State).setVm s₂.vm := rfl
      rw [e2] at this
      exact this
    have hf₂ : s₂.frames = .throwing q :: .java g :: U.frames.tail := hend
    have hW' : U.WarmedH s₂.vm := hW₂
    have hs₂ : s₂ = ((({ U with heap := s₂.heap, slotsUsed := s₂.slotsUsed } : State).setVm s₂.vm).setTop g).pushFrame (.throwing q) := by
      refine e3.trans ?_
      rw [hf₂, State.calling_eq h.top, State.setFrames_setFrames, State.pushFrame, State.frames_setTop _ hr', State.setTop_of_frames _ hr', State.setFrames_setFrames, hr]
      rfl
    have hsame : U.sameButNew ({ U with heap := s₂.heap, slotsUsed := s₂.slotsUsed } : State) L mc ms := by
      refine ⟨?_, q2, q3, q4, q5, q6⟩
      obtain ⟨t, ht, -⟩ := State.frames_cons hr
      show ({ U with heap := s₂.heap, slotsUsed := s₂.slotsUsed } : State) = { U.setFrames U.frames with heap := s₂.heap, slotsUsed := s₂.slotsUsed }
      rw [State.setFrames_self ht]
    subst hg
    refine Or.inr ⟨q, ⟨(({ U with heap := s₂.heap, slotsUsed := s₂.slotsUsed } : State).setVm s₂.vm), Ls ++ L, c0 + mc, s0 + ms⟩,
      ⟨X.admits, X.cas, X.clock, X.frames, X.room, X.hears, X.method, X.code, (X.here.setHeapUsed s₂.heap s₂.slotsUsed).setVm hW'.alike, X.tail, State.WarmedH.trans X.warmed hW', X.limits, X.bytes, X.same.trans (hsame.setVm s.vm)⟩,
      ⟨g, mk, s₂, L, E, ce, rfl, rfl, hx, hce, hcv, hcl, rfl, hL, rfl, rfl⟩, ?_⟩
    show Steps p.tables e below _ (((({ U with heap := s₂.heap, slotsUsed := s₂.slotsUsed } : State).setVm s₂.vm).setTop g).pushFrame (.throwing q))
    rw [← hs₂]
    exact hsteps
end Payer
section Calls
variable {p : Program} {l : Launch} {e : Env} {R : Room} {s : State} {m : MethodId} {args : Array Value} {below : List Frame} {meth : Method} {c : Code} {T : State} {locs : List Loc} {cells slots : Nat}
theorem vx_callV (X : Stand p l e R s m args below meth c T locs cells slots) (hexec : p.tables.exec = Jvm.exec) {own C : String} {index : Nat} {y : MethodName} {bytes : ByteArray} {maxL : Nat} {ret : Option FieldType}
    (hown : s.vm.findClass own = some m.cls) (hlink : (Cond.methodLink own index y).before args s = true) (hinst : (Cond.instanceMethod y).before args s = true) (hsel : (Cond.selects C y y).before args s = true)
    (hcode : (Cond.code y bytes maxL ret).before args s = true) (hy : y.cls ≠ "java/lang/invoke/MethodHandle" ∧ y.cls ≠ "java/lang/invoke/VarHandle")
    {W9 : Nat} {Pre : Pt → Array Value → Prop} {Post : Pt → Array Value → Option Value → Pt → Prop} {PostX : Pt → Array Value → Addr → Pt → Prop} (hK : vx_Back l R p e below s args y 3 W9 Pre Post PostX)
    {b : Addr} {cellB : Cell} (hcell : T.heap[b]? = some cellB) (hobj : cellB.vm.isStatics = false) (hcls : s.vm.findClass C = some cellB.cls)
    {g : JFrame} (hg : g.method = m) (hsize : g.locals.size = c.maxLocals) {argsL rest : List Value} (hlen : ∀ sig, parseMethodDescriptor y.desc = some sig → argsL.length = sig.parameters.length)
    (hstack : g.stack = argsL.reverse ++ .ref b :: rest) (hW : 2 * g.monitorRoom + (rest.map fun v => v.category).sum ≤ W9) (hdg : decode c.code g.pc = .ok (.invokevirtual index, 3))
    (hpre : ∀ vm₁, s.WarmedH vm₁ → Pre ⟨T.setVm vm₁, locs, cells, slots⟩ (Value.ref b :: argsL).toArray) :
    (∃ (v : Option Value) (vm₁ : Vm) (B : Pt), s.WarmedH vm₁ ∧ Stand p l e R s m args below meth c B.U B.locs B.cells B.slots ∧ Post ⟨T.setVm vm₁, locs, cells, slots⟩ (Value.ref b :: argsL).toArray v B ∧
      ∀ target, Steps p.tables e below (B.U.setTop { g with pc := g.pc + 3, stack := v.toList ++ rest }) target → Steps p.tables e below (T.setTop g) target) ∨
    (∃ (q : Addr) (vm₁ : Vm) (B : Pt), s.WarmedH vm₁ ∧ Stand p l e R s m args below meth c B.U B.locs B.cells B.slots ∧ PostX ⟨T.setVm vm₁, locs, cells, slots⟩ (Value.ref b :: argsL).toArray q B ∧
      Steps p.tables e below (T.setTop g) ((B.U.setTop { g with stack := rest }).pushFrame (.throwing q))) := by
  obtain ⟨mk, methM, hnamed, hmethM, hstM, habM⟩ := Cond.instanceMethod_spec hinst
  obtain ⟨methM', cM, hmethM', -, -, -, -, -, -, hsigM⟩ := Cond.code_spec hnamed hcode
  cases hmethM.symm.trans hmethM'
  obtain ⟨c2, r2, m2, q1, q2, q3, q4, kP, hkP, hkPi⟩ := Cond.selects_spec hsel
  cases hcls.symm.trans q1
  cases (State.methodFound?_of_named hnamed hy).symm.trans q2
  cases hnamed.symm.trans q3
  have hselP : selectMethod e.platform s.vm cellB.cls mk = .method mk := by rw [Launch.admits_selectMethod X.admits]; exact q4
  obtain ⟨vm₁, X₁, hstep₁⟩ := X.invokevirtual hexec hown hlink hnamed hmethM hstM hkP hkPi hy (a := b) (cell := cellB) hcell
    (fun z h => by rw [h] at hobj; cases hobj) hselP hmethM habM hkP hkPi (g := g) hg (argsL := argsL) (rest := rest) (hlen _ hsigM) hstack hdg
  rcases hK m meth c ⟨T.setVm vm₁, locs, cells, slots⟩ { g with stack := rest } (.invokevirtual index) mk (Value.ref b :: argsL).toArray X₁ hg hsize hdg hW (X₁.named hnamed) (hpre vm₁ X₁.warmed) with ⟨v, B, X', hpost, hsteps⟩ | ⟨q, B, X', hpost, hsteps⟩
  · exact Or.inl ⟨v, vm₁, B, X₁.warmed, X', hpost, fun target h => hstep₁ _ fun acts => by rw [doInvoke_state]; exact hsteps.trans h⟩
  · exact Or.inr ⟨q, vm₁, B, X₁.warmed, X', hpost, hstep₁ _ fun acts => by rw [doInvoke_state]; exact hsteps⟩
theorem vx_callS (X : Stand p l e R s m args below meth c T locs cells slots) (hexec : p.tables.exec = Jvm.exec) {own : String} {index : Nat} {y : MethodName} {bytes : ByteArray} {maxL : Nat} {ret : Option FieldType}
    (hown : s.vm.findClass own = some m.cls) (hlink : (Cond.methodLink own index y).before args s = true) (hstat : (Cond.static y).before args s = true) (hinit : (Cond.initialized y.cls).before args s = true)
    (hcode : (Cond.code y bytes maxL ret).before args s = true) (hy : y.cls ≠ "java/lang/invoke/MethodHandle" ∧ y.cls ≠ "java/lang/invoke/VarHandle")
    {W9 : Nat} {Pre : Pt → Array Value → Prop} {Post : Pt → Array Value → Option Value → Pt → Prop} {PostX : Pt → Array Value → Addr → Pt → Prop} (hK : vx_Back l R p e below s args y 3 W9 Pre Post PostX)
    {g : JFrame} (hg : g.method = m) (hsize : g.locals.size = c.maxLocals) {argsL rest : List Value} (hlen : ∀ sig, parseMethodDescriptor y.desc = some sig → argsL.length = sig.parameters.length)
    (hstack : g.stack = argsL.reverse ++ rest) (hW : 2 * g.monitorRoom + (rest.map fun v => v.category).sum ≤ W9) (hdg : decode c.code g.pc = .ok (.invokestatic index, 3))
    (hpre : ∀ vm₁, s.WarmedH vm₁ → Pre ⟨T.setVm vm₁, locs, cells, slots⟩ argsL.toArray) :
    (∃ (v : Option Value) (vm₁ : Vm) (B : Pt), s.WarmedH vm₁ ∧ Stand p l e R s m args below meth c B.U B.locs B.cells B.slots ∧ Post ⟨T.setVm vm₁, locs, cells, slots⟩ argsL.toArray v B ∧
      ∀ target, Steps p.tables e below (B.U.setTop { g with pc := g.pc + 3, stack := v.toList ++ rest }) target → Steps p.tables e below (T.setTop g) target) ∨
    (∃ (q : Addr) (vm₁ : Vm) (B : Pt), s.WarmedH vm₁ ∧ Stand p l e R s m args below meth c B.U B.locs B.cells B.slots ∧ PostX ⟨T.setVm vm₁, locs, cells, slots⟩ argsL.toArray q B ∧
      Steps p.tables e below (T.setTop g) ((B.U.setTop { g with stack := rest }).pushFrame (.throwing q))) := by
  obtain ⟨mk, hnamed⟩ := Cond.code_named hcode
  obtain ⟨methM, cM, hmethM, -, -, -, -, -, -, hsigM⟩ := Cond.code_spec hnamed hcode
  have hstatic : methM.isStatic = true := Cond.static_spec hnamed hmethM hstat
  obtain ⟨kP, hkP, -⟩ := className_of_methodNamed hnamed
  have hinitP : kP.init = .initialized := Cond.initialized_spec (findClass_of_methodNamed hnamed) hkP hinit
  obtain ⟨vm₁, X₁, hstep₁⟩ := X.invokestatic hexec hown hlink hnamed hmethM hstatic hkP hinitP hy (g := g) hg (argsL := argsL) (rest := rest) (hlen _ hsigM) hstack hdg
  rcases hK m meth c ⟨T.setVm vm₁, locs, cells, slots⟩ { g with stack := rest } (.invokestatic index) mk argsL.toArray X₁ hg hsize hdg hW (X₁.named hnamed) (hpre vm₁ X₁.warmed) with ⟨v, B, X', hpost, hsteps⟩ | ⟨q, B, X', hpost, hsteps⟩
  · exact Or.inl ⟨v, vm₁, B, X₁.warmed, X', hpost, fun target h => hstep₁ _ fun acts => by rw [doInvoke_state]; exact hsteps.trans h⟩
  · exact Or.inr ⟨q, vm₁, B, X₁.warmed, X', hpost, hstep₁ _ fun acts => by rw [doInvoke_state]; exact hsteps⟩
end Calls
theorem vx_cls {s : State} {T : State} {vm₁ : Vm} {E : String} {k : ClassId} (hW : s.WarmedH vm₁) (h : (T.setVm vm₁).vm.findClass E = some k) : s.vm.findClass E = some k := by
  have h1 : vm₁.findClass E = some k := h
  rw [hW.alike.findClass] at h1
  exact h1
/-- the method's frame g, with q thrown over it -/
def vx_W (p : Program) (l : Launch) (e : Env) (R : Room) (s : State) (m : MethodId) (args : Array Value) (below : List Frame) (meth : Method) (c : Code) (H : Heap) (locs : List Loc) (cells slots : Nat) (Q : State → Prop) (g : JFrame) (q : Addr) : Prop :=
  ∀ T : State, T.heap = H → Stand p l e R s m args below meth c T locs cells slots → ∃ t, Steps p.tables e below ((T.setTop g).pushFrame (.throwing q)) t ∧ Q t
def vx_Run (p : Program) (l : Launch) (e : Env) (R : Room) (s : State) (m : MethodId) (args : Array Value) (below : List Frame) (meth : Method) (c : Code) (H : Heap) (locs : List Loc) (cells slots mc ms : Nat) (g : JFrame) (rest : List Value) (Qa : State → Outcome → State → Prop) (XC : String → State → State → Prop) (free : Addr → Prop) : Prop :=
  ∀ T : State, T.heap = H → Stand p l e R s m args below meth c T locs cells slots →
    (∃ (v : Option Value) (st₀ t T' : State) (L : List Loc), st₀.heap = H ∧ Stand p l e R s m args below meth c T' (locs ++ L) (cells + mc) (slots + ms) ∧ (∀ q ∈ L, free q.base) ∧ T'.heap = t.heap ∧ T'.vm = t.vm ∧ Qa st₀ (.returned v) t ∧
      Goes p e below T g T' { g with pc := g.pc + 3, stack := v.toList ++ rest }) ∨
    (∃ (q : Addr) (st₀ t T' : State) (L : List Loc) (E : String) (ce : Cell), st₀.heap = H ∧ Stand p l e R s m args below meth c T' (locs ++ L) (cells + mc) (slots + ms) ∧ (∀ z ∈ L, free z.base) ∧ T'.heap = t.heap ∧ T'.vm = t.vm ∧ XC E st₀ t ∧ t.heap[q]? = some ce ∧ ce.vm = .none ∧ s.vm.findClass E = some ce.cls ∧
      Steps p.tables e below (T.setTop g) ((T'.setTop { g with stack := rest }).pushFrame (.throwing q)))
def vx_X {S : Type} (px : S → Prop) (B : String → S → State → Prop) (A : Nat → Prop) : String → State → State → Prop := fun E st t => ∃ u : S, px u ∧ B E u t ∧ va_F A st t
section Runs
variable {p : Program} {l : Launch} {e : Env} {R : Room} {s : State} {m : MethodId} {args : Array Value} {below : List Frame} {meth : Method} {c : Code} {H : Heap} {locs : List Loc} {cells slots : Nat}
variable {y : MethodName} {bytes cc : ByteArray} {maxL nL mc ms n index : Nat} {ret : Option FieldType} {ws : List Cond} {rm : Room} {Pc : Array Value → State → Prop} {Qc : Array Value → State → Outcome → State → Prop} {XC : String → State → State → Prop} {free : Addr → Prop} {Ts : List Cond} {own C : String} {b : Addr} {As rest : List Value} {g : JFrame}
theorem vx_callBack (cb : CallB R s args own index y bytes maxL ret ws rm mc ms n) (hM : vx_Met l y ws rm Pc Qc XC mc ms free) (hbl : FrameBlind Pc) : vx_Back l R p e below s args y 3 8 (PreOf R mc ms Pc) (PostOf Qc mc ms free) (vx_Post XC mc ms free) := by
  obtain ⟨hrc, hrs, hfr, hlo, hws, hcw, -, hini, -⟩ := cb
  exact vx_back (bytes := bytes) (maxL := maxL) (ret := ret) hM hbl hrc hrs hfr hlo hws hcw (fun a' U hW => word_at hW (Or.inl (by first | rfl | simp [Cond.onTables, Cond.keeps, Cond.steady])) hini)
theorem vx_runV (S : CallFix p m c cc nL s args Ts own) (hM : vx_Met l y ws rm Pc Qc XC mc ms free) (cw : CallW R s args own C index y bytes maxL ret ws rm mc ms n) (hp : PreV s H C b Pc As)
    (hg : g.method = m) (hn : As.length = n) (hsize : g.locals.size = nL) (hstack : g.stack = As.reverse ++ .ref b :: rest) (hW : 2 * g.monitorRoom + (rest.map fun v => v.category).sum ≤ 8) (hdg : decode cc g.pc = .ok (.invokevirtual index, 3)) (hf : cells + mc ≤ R.cells ∧ slots + ms ≤ R.slots) :
    vx_Run p l e R s m args below meth c H locs cells slots mc ms g rest (Qc (Value.ref b :: As).toArray) XC free := by
  have hK : vx_Back l R p e below s args y 3 8 (PreOf R mc ms Pc) (PostOf Qc mc ms free) (vx_Post XC mc ms free) := vx_callBack cw.1 hM hp.1
  obtain ⟨⟨-, -, -, -, -, -, hcode, -, hy, hlen, hl⟩, hin, hse⟩ := cw
  obtain ⟨hx, hb, hml, ho, -⟩ := S
  obtain ⟨-, ⟨cellB, hcB, hoB, hclB⟩, hPc⟩ := hp
  intro T hT X
  rcases vx_callV X hx (C := C) (bytes := bytes) (maxL := maxL) (ret := ret) ho hl hin hse hcode hy hK (by rw [hT]; exact hcB) hoB hclB hg (hsize.trans hml.symm) (argsL := As) (rest := rest) (fun sig h => hn.trans (hlen sig h)) hstack hW (by rw [hb]; exact hdg)
    (fun vm₁ hW₁ => ⟨hf.1, hf.2, hPc (T.setVm vm₁) hT hW₁⟩) with ⟨v, vm₁, ⟨U', l2, c2, s2⟩, hW₁, X', ⟨g', mk, t, L, e1, e2, hq, h1, hL, h2, h3⟩, st⟩ | ⟨q, vm₁, ⟨U', l2, c2, s2⟩, hW₁, X', ⟨g', mk, t, L, E, ce, e1, e2, hq, hce, hcv, hcl, h1, hL, h2, h3⟩, st⟩
  · dsimp only [Pt.U, Pt.locs, Pt.cells, Pt.slots] at X' e1 e2 h1 h2 h3 st
    subst h1; subst h2; subst h3
    exact Or.inl ⟨v, (T.setVm vm₁).calling g' mk (Value.ref b :: As).toArray, t, U', L, hT, X', hL, e1, e2, hq, st⟩
  · dsimp only [Pt.U, Pt.locs, Pt.cells, Pt.slots] at X' e1 e2 h1 h2 h3 st hcl
    subst h1; subst h2; subst h3
    exact Or.inr ⟨q, (T.setVm vm₁).calling g' mk (Value.ref b :: As).toArray, t, U', L, E, ce, hT, X', hL, e1, e2, hq, hce, hcv, vx_cls hW₁ hcl, st⟩
theorem vx_runS (S : CallFix p m c cc nL s args Ts own) (hM : vx_Met l y ws rm Pc Qc XC mc ms free) (cw : CallB R s args own index y bytes maxL ret ws rm mc ms n ∧ (Cond.static y).before args s = true) (hp : PreS s H Pc As)
    (hg : g.method = m) (hn : As.length = n) (hsize : g.locals.size = nL) (hstack : g.stack = As.reverse ++ rest) (hW : 2 * g.monitorRoom + (rest.map fun v => v.category).sum ≤ 8) (hdg : decode cc g.pc = .ok (.invokestatic index, 3)) (hf : cells + mc ≤ R.cells ∧ slots + ms ≤ R.slots) :
    vx_Run p l e R s m args below meth c H locs cells slots mc ms g rest (Qc As.toArray) XC free := by
  have hK : vx_Back l R p e below s args y 3 8 (PreOf R mc ms Pc) (PostOf Qc mc ms free) (vx_Post XC mc ms free) := vx_callBack cw.1 hM hp.1
  obtain ⟨⟨-, -, -, -, -, -, hcode, hini, hy, hlen, hl⟩, hstt⟩ := cw
  obtain ⟨hx, hb, hml, ho, -⟩ := S
  intro T hT X
  rcases vx_callS X hx (bytes := bytes) (maxL := maxL) (ret := ret) ho hl hstt hini hcode hy hK hg (hsize.trans hml.symm) (argsL := As) (rest := rest) (fun sig h => hn.trans (hlen sig h)) hstack hW (by rw [hb]; exact hdg)
    (fun vm₁ hW₁ => ⟨hf.1, hf.2, hp.2 (T.setVm vm₁) hT hW₁⟩) with ⟨v, vm₁, ⟨U', l2, c2, s2⟩, hW₁, X', ⟨g', mk, t, L, e1, e2, hq, h1, hL, h2, h3⟩, st⟩ | ⟨q, vm₁, ⟨U', l2, c2, s2⟩, hW₁, X', ⟨g', mk, t, L, E, ce, e1, e2, hq, hce, hcv, hcl, h1, hL, h2, h3⟩, st⟩
  · dsimp only [Pt.U, Pt.locs, Pt.cells, Pt.slots] at X' e1 e2 h1 h2 h3 st
    subst h1; subst h2; subst h3
    exact Or.inl ⟨v, (T.setVm vm₁).calling g' mk As.toArray, t, U', L, hT, X', hL, e1, e2, hq, st⟩
  · dsimp only [Pt.U, Pt.locs, Pt.cells, Pt.slots] at X' e1 e2 h1 h2 h3 st hcl
    subst h1; subst h2; subst h3
    exact Or.inr ⟨q, (T.setVm vm₁).calling g' mk As.toArray, t, U', L, E, ce, hT, X', hL, e1, e2, hq, hce, hcv, vx_cls hW₁ hcl, st⟩
end Runs
section Rows
variable {p : Program} {l : Launch} {e : Env} {R : Room} {s : State} {m : MethodId} {args : Array Value} {below : List Frame} {meth : Method} {c : Code} {H : Heap} {locs : List Loc} {cells slots : Nat} {Q : State → Prop}
variable {mc ms : Nat} {free : Addr → Prop} {A0 A1 : Nat → Prop} {H0 : Heap} {a : Array Value} {pc : Nat} {ls : Array Slot} {st0 rest : List Value}
theorem vx_keep {st₀ t T' : State} {L : List Loc} (h0 : st₀.heap = H) (e1 : T'.heap = t.heap) (hS : va_S A0 H0 H locs) (hA : ∀ q, q < H.size → A1 q → A0 q) (hf : ∀ q, free q → A0 q) (hL : ∀ q ∈ L, free q.base) (hF : va_F A1 st₀ t) :
    H.size ≤ T'.heap.size ∧ (∀ q : Nat, q < H.size → ¬ A1 q → T'.heap[q]? = H[q]?) ∧ va_S A0 H0 T'.heap (locs ++ L) := by
  obtain ⟨hz, hk⟩ := hF
  rw [h0] at hz hk
  exact ⟨by rw [e1]; exact hz, fun q h1 h2 => by rw [e1]; exact hk q h1 h2,
    ⟨Nat.le_trans hS.1 (by rw [e1]; exact hz), fun q h1 h2 => by rw [e1, hk q (Nat.lt_of_lt_of_le h1 hS.1) (fun z => h2 (hA q (Nat.lt_of_lt_of_le h1 hS.1) z))]; exact hS.2.1 q h1 h2, fun q hq => by
      rcases List.mem_append.mp hq with h | h
      · exact hS.2.2 q h
      · exact hf _ (hL q h)⟩⟩
theorem vx_calli {S SX : Type} {post : Int32 → S → Prop} {px : SX → Prop} {B : S → State → Prop} {BX : String → SX → State → Prop} {AX : Nat → Prop} (hr : vx_Run p l e R s m args below meth c H locs cells slots mc ms (F0 m pc ls st0) rest (va_Qi post B A1 a) (vx_X px BX AX) free) (hS : va_S A0 H0 H locs) (hA : ∀ q, q < H.size → A1 q → A0 q) (hf : ∀ q, free q → A0 q) (hAX : ∀ q, q < H.size → AX q → A0 q)
    (kx : ∀ (E : String) (ce : Cell) (q9 : Addr) (u : SX) (t : State) (H1 : Heap) (locs1 : List Loc), t.heap = H1 → s.vm.Alike t.vm → px u → BX E u t → H.size ≤ H1.size → (∀ q : Nat, q < H.size → ¬ AX q → H1[q]? = H[q]?) → va_S A0 H0 H1 locs1 → H1[q9]? = some ce → ce.vm = .none → s.vm.findClass E = some ce.cls → vx_W p l e R s m args below meth c H1 locs1 (cells + mc) (slots + ms) Q (F0 m pc ls rest) q9)
    (kk : ∀ (r : Int32) (u : S) (t : State) (H1 : Heap) (locs1 : List Loc), t.heap = H1 → s.vm.Alike t.vm → post r u → B u t → H.size ≤ H1.size → (∀ q : Nat, q < H.size → ¬ A1 q → H1[q]? = H[q]?) → va_S A0 H0 H1 locs1 → W p l e R s m args below meth c H1 locs1 (cells + mc) (slots + ms) Q (F0 m (pc + 3) ls (.int r :: rest))) : W p l e R s m args below meth c H locs cells slots Q (F0 m pc ls st0) := by
  intro T hT X
  rcases hr T hT X with ⟨v, st₀, t, T', L, h0, X', hL, e1, e2, ⟨⟨r, u, hv, hp, hb⟩, hF⟩, st⟩ | ⟨q, st₀, t, T', L, E, ce, h0, X', hL, e1, e2, ⟨u, hp, hb, hF⟩, hce, hcv, hcl, st⟩
  · cases hv
    obtain ⟨k1, k2, k3⟩ := vx_keep h0 e1 hS hA hf hL hF
    obtain ⟨t2, a1, b1⟩ := kk r u t T'.heap (locs ++ L) e1.symm (by rw [← e2]; exact X'.warmed.alike) hp hb k1 k2 k3 T' rfl X'
    exact ⟨t2, st t2 a1, b1⟩
  · obtain ⟨k1, k2, k3⟩ := vx_keep h0 e1 hS hAX hf hL hF
    obtain ⟨t2, a1, b1⟩ := kx E ce q u t T'.heap (locs ++ L) e1.symm (by rw [← e2]; exact X'.warmed.alike) hp hb k1 k2 k3 (by rw [e1]; exact hce) hcv hcl T' rfl X'
    exact ⟨t2, st.trans a1, b1⟩
theorem vx_calll {S SX : Type} {post : Int64 → S → Prop} {px : SX → Prop} {B : S → State → Prop} {BX : String → SX → State → Prop} {AX : Nat → Prop} (hr : vx_Run p l e R s m args below meth c H locs cells slots mc ms (F0 m pc ls st0) rest (va_Ql post B A1 a) (vx_X px BX AX) free) (hS : va_S A0 H0 H locs) (hA : ∀ q, q < H.size → A1 q → A0 q) (hf : ∀ q, free q → A0 q) (hAX : ∀ q, q < H.size → AX q → A0 q)
    (kx : ∀ (E : String) (ce : Cell) (q9 : Addr) (u : SX) (t : State) (H1 : Heap) (locs1 : List Loc), t.heap = H1 → s.vm.Alike t.vm → px u → BX E u t → H.size ≤ H1.size → (∀ q : Nat, q < H.size → ¬ AX q → H1[q]? = H[q]?) → va_S A0 H0 H1 locs1 → H1[q9]? = some ce → ce.vm = .none → s.vm.findClass E = some ce.cls → vx_W p l e R s m args below meth c H1 locs1 (cells + mc) (slots + ms) Q (F0 m pc ls rest) q9)
    (kk : ∀ (r : Int64) (u : S) (t : State) (H1 : Heap) (locs1 : List Loc), t.heap = H1 → s.vm.Alike t.vm → post r u → B u t → H.size ≤ H1.size → (∀ q : Nat, q < H.size → ¬ A1 q → H1[q]? = H[q]?) → va_S A0 H0 H1 locs1 → W p l e R s m args below meth c H1 locs1 (cells + mc) (slots + ms) Q (F0 m (pc + 3) ls (.long r :: rest))) : W p l e R s m args below meth c H locs cells slots Q (F0 m pc ls st0) := by
  intro T hT X
  rcases hr T hT X with ⟨v, st₀, t, T', L, h0, X', hL, e1, e2, ⟨⟨r, u, hv, hp, hb⟩, hF⟩, st⟩ | ⟨q, st₀, t, T', L, E, ce, h0, X', hL, e1, e2, ⟨u, hp, hb, hF⟩, hce, hcv, hcl, st⟩
  · cases hv
    obtain ⟨k1, k2, k3⟩ := vx_keep h0 e1 hS hA hf hL hF
    obtain ⟨t2, a1, b1⟩ := kk r u t T'.heap (locs ++ L) e1.symm (by rw [← e2]; exact X'.warmed.alike) hp hb k1 k2 k3 T' rfl X'
    exact ⟨t2, st t2 a1, b1⟩
  · obtain ⟨k1, k2, k3⟩ := vx_keep h0 e1 hS hAX hf hL hF
    obtain ⟨t2, a1, b1⟩ := kx E ce q u t T'.heap (locs ++ L) e1.symm (by rw [← e2]; exact X'.warmed.alike) hp hb k1 k2 k3 (by rw [e1]; exact hce) hcv hcl T' rfl X'
    exact ⟨t2, st.trans a1, b1⟩
theorem vx_callf {S SX : Type} {post : UInt32 → S → Prop} {px : SX → Prop} {B : S → State → Prop} {BX : String → SX → State → Prop} {AX : Nat → Prop} (hr : vx_Run p l e R s m args below meth c H locs cells slots mc ms (F0 m pc ls st0) rest (va_Qf post B A1 a) (vx_X px BX AX) free) (hS : va_S A0 H0 H locs) (hA : ∀ q, q < H.size → A1 q → A0 q) (hf : ∀ q, free q → A0 q) (hAX : ∀ q, q < H.size → AX q → A0 q)
    (kx : ∀ (E : String) (ce : Cell) (q9 : Addr) (u : SX) (t : State) (H1 : Heap) (locs1 : List Loc), t.heap = H1 → s.vm.Alike t.vm → px u → BX E u t → H.size ≤ H1.size → (∀ q : Nat, q < H.size → ¬ AX q → H1[q]? = H[q]?) → va_S A0 H0 H1 locs1 → H1[q9]? = some ce → ce.vm = .none → s.vm.findClass E = some ce.cls → vx_W p l e R s m args below meth c H1 locs1 (cells + mc) (slots + ms) Q (F0 m pc ls rest) q9)
    (kk : ∀ (r : UInt32) (u : S) (t : State) (H1 : Heap) (locs1 : List Loc), t.heap = H1 → s.vm.Alike t.vm → post r u → B u t → H.size ≤ H1.size → (∀ q : Nat, q < H.size → ¬ A1 q → H1[q]? = H[q]?) → va_S A0 H0 H1 locs1 → W p l e R s m args below meth c H1 locs1 (cells + mc) (slots + ms) Q (F0 m (pc + 3) ls (.float r :: rest))) : W p l e R s m args below meth c H locs cells slots Q (F0 m pc ls st0) := by
  intro T hT X
  rcases hr T hT X with ⟨v, st₀, t, T', L, h0, X', hL, e1, e2, ⟨⟨r, u, hv, hp, hb⟩, hF⟩, st⟩ | ⟨q, st₀, t, T', L, E, ce, h0, X', hL, e1, e2, ⟨u, hp, hb, hF⟩, hce, hcv, hcl, st⟩
  · cases hv
    obtain ⟨k1, k2, k3⟩ := vx_keep h0 e1 hS hA hf hL hF
    obtain ⟨t2, a1, b1⟩ := kk r u t T'.heap (locs ++ L) e1.symm (by rw [← e2]; exact X'.warmed.alike) hp hb k1 k2 k3 T' rfl X'
    exact ⟨t2, st t2 a1, b1⟩
  · obtain ⟨k1, k2, k3⟩ := vx_keep h0 e1 hS hAX hf hL hF
    obtain ⟨t2, a1, b1⟩ := kx E ce q u t T'.heap (locs ++ L) e1.symm (by rw [← e2]; exact X'.warmed.alike) hp hb k1 k2 k3 (by rw [e1]; exact hce) hcv hcl T' rfl X'
    exact ⟨t2, st.trans a1, b1⟩
theorem vx_calld {S SX : Type} {post : UInt64 → S → Prop} {px : SX → Prop} {B : S → State → Prop} {BX : String → SX → State → Prop} {AX : Nat → Prop} (hr : vx_Run p l e R s m args below meth c H locs cells slots mc ms (F0 m pc ls st0) rest (va_Qd post B A1 a) (vx_X px BX AX) free) (hS : va_S A0 H0 H locs) (hA : ∀ q, q < H.size → A1 q → A0 q) (hf : ∀ q, free q → A0 q) (hAX : ∀ q, q < H.size → AX q → A0 q)
    (kx : ∀ (E : String) (ce : Cell) (q9 : Addr) (u : SX) (t : State) (H1 : Heap) (locs1 : List Loc), t.heap = H1 → s.vm.Alike t.vm → px u → BX E u t → H.size ≤ H1.size → (∀ q : Nat, q < H.size → ¬ AX q → H1[q]? = H[q]?) → va_S A0 H0 H1 locs1 → H1[q9]? = some ce → ce.vm = .none → s.vm.findClass E = some ce.cls → vx_W p l e R s m args below meth c H1 locs1 (cells + mc) (slots + ms) Q (F0 m pc ls rest) q9)
    (kk : ∀ (r : UInt64) (u : S) (t : State) (H1 : Heap) (locs1 : List Loc), t.heap = H1 → s.vm.Alike t.vm → post r u → B u t → H.size ≤ H1.size → (∀ q : Nat, q < H.size → ¬ A1 q → H1[q]? = H[q]?) → va_S A0 H0 H1 locs1 → W p l e R s m args below meth c H1 locs1 (cells + mc) (slots + ms) Q (F0 m (pc + 3) ls (.double r :: rest))) : W p l e R s m args below meth c H locs cells slots Q (F0 m pc ls st0) := by
  intro T hT X
  rcases hr T hT X with ⟨v, st₀, t, T', L, h0, X', hL, e1, e2, ⟨⟨r, u, hv, hp, hb⟩, hF⟩, st⟩ | ⟨q, st₀, t, T', L, E, ce, h0, X', hL, e1, e2, ⟨u, hp, hb, hF⟩, hce, hcv, hcl, st⟩
  · cases hv
    obtain ⟨k1, k2, k3⟩ := vx_keep h0 e1 hS hA hf hL hF
    obtain ⟨t2, a1, b1⟩ := kk r u t T'.heap (locs ++ L) e1.symm (by rw [← e2]; exact X'.warmed.alike) hp hb k1 k2 k3 T' rfl X'
    exact ⟨t2, st t2 a1, b1⟩
  · obtain ⟨k1, k2, k3⟩ := vx_keep h0 e1 hS hAX hf hL hF
    obtain ⟨t2, a1, b1⟩ := kx E ce q u t T'.heap (locs ++ L) e1.symm (by rw [← e2]; exact X'.warmed.alike) hp hb k1 k2 k3 (by rw [e1]; exact hce) hcv hcl T' rfl X'
    exact ⟨t2, st.trans a1, b1⟩
theorem vx_callv {S SX : Type} {post : S → Prop} {px : SX → Prop} {B : S → State → Prop} {BX : String → SX → State → Prop} {AX : Nat → Prop} (hr : vx_Run p l e R s m args below meth c H locs cells slots mc ms (F0 m pc ls st0) rest (va_Qv post B A1 a) (vx_X px BX AX) free) (hS : va_S A0 H0 H locs) (hA : ∀ q, q < H.size → A1 q → A0 q) (hf : ∀ q, free q → A0 q) (hAX : ∀ q, q < H.size → AX q → A0 q)
    (kx : ∀ (E : String) (ce : Cell) (q9 : Addr) (u : SX) (t : State) (H1 : Heap) (locs1 : List Loc), t.heap = H1 → s.vm.Alike t.vm → px u → BX E u t → H.size ≤ H1.size → (∀ q : Nat, q < H.size → ¬ AX q → H1[q]? = H[q]?) → va_S A0 H0 H1 locs1 → H1[q9]? = some ce → ce.vm = .none → s.vm.findClass E = some ce.cls → vx_W p l e R s m args below meth c H1 locs1 (cells + mc) (slots + ms) Q (F0 m pc ls rest) q9)
    (kk : ∀ (u : S) (t : State) (H1 : Heap) (locs1 : List Loc), t.heap = H1 → s.vm.Alike t.vm → post u → B u t → H.size ≤ H1.size → (∀ q : Nat, q < H.size → ¬ A1 q → H1[q]? = H[q]?) → va_S A0 H0 H1 locs1 → W p l e R s m args below meth c H1 locs1 (cells + mc) (slots + ms) Q (F0 m (pc + 3) ls (rest))) : W p l e R s m args below meth c H locs cells slots Q (F0 m pc ls st0) := by
  intro T hT X
  rcases hr T hT X with ⟨v, st₀, t, T', L, h0, X', hL, e1, e2, ⟨⟨u, hv, hp, hb⟩, hF⟩, st⟩ | ⟨q, st₀, t, T', L, E, ce, h0, X', hL, e1, e2, ⟨u, hp, hb, hF⟩, hce, hcv, hcl, st⟩
  · cases hv
    obtain ⟨k1, k2, k3⟩ := vx_keep h0 e1 hS hA hf hL hF
    obtain ⟨t2, a1, b1⟩ := kk u t T'.heap (locs ++ L) e1.symm (by rw [← e2]; exact X'.warmed.alike) hp hb k1 k2 k3 T' rfl X'
    exact ⟨t2, st t2 a1, b1⟩
  · obtain ⟨k1, k2, k3⟩ := vx_keep h0 e1 hS hAX hf hL hF
    obtain ⟨t2, a1, b1⟩ := kx E ce q u t T'.heap (locs ++ L) e1.symm (by rw [← e2]; exact X'.warmed.alike) hp hb k1 k2 k3 (by rw [e1]; exact hce) hcv hcl T' rfl X'
    exact ⟨t2, st.trans a1, b1⟩
/-- caught by the row x of this method's table; the rows ahead don't take it -/
theorem vx_catch {own name : String} {E : String} {ce : Cell} {q : Addr} (hown : s.vm.findClass own = some m.cls) (pre : List ExceptionTableEntry) (x : ExceptionTableEntry) (suf : List ExceptionTableEntry) (hsplit : c.exceptionTable.toList = pre ++ x :: suf)
    (hpass : ∀ z ∈ pre, covers z pc = false ∨ (z.catchType ≠ 0 ∧ ∃ nm : String, (Cond.classLink own z.catchType nm).before args s = true ∧ va_Nc E nm s)) (hx : covers x pc = true) (h0 : x.catchType ≠ 0)
    (hlink : (Cond.classLink own x.catchType name).before args s = true) (hcast : (Cond.castable E name).before args s = true) (hcell : H[q]? = some ce) (hv : ce.vm = .none) (hcl : s.vm.findClass E = some ce.cls)
    (kk : W p l e R s m args below meth c H locs cells slots Q (F0 m x.handlerPc ls [.ref q])) : vx_W p l e R s m args below meth c H locs cells slots Q (F0 m pc ls rest) q := by
  intro T hT X
  have hpl : e.platform.magicAccessors = ({} : Platform).magicAccessors := by rw [X.admits.platform]
  obtain ⟨c3, c4, hc3, hc4, hasg⟩ := Cond.castable_spec hcast
  cases Option.some.inj (hc3.symm.trans hcl)
  obtain ⟨c5, hc5, hcl5⟩ := Cond.classLink_spec hown hlink e.platform hpl
  cases Option.some.inj (hc4.symm.trans hc5)
  obtain ⟨vm', X', st⟩ := X.thenCaughtThrough q (g := F0 m pc ls rest) rfl (Steps.refl _) (by rw [hT]; exact hcell) (by rw [hv]; rfl) (by obtain ⟨k9, h9, -⟩ := Vm.findClass_spec hcl; exact ⟨k9, h9⟩) pre x suf hsplit
    (fun z hz => by
      rcases hpass z hz with h | ⟨hz0, nm, hl1, hn1⟩
      · exact Or.inl h
      · obtain ⟨c6, hc6, hcl6⟩ := Cond.classLink_spec hown hl1 e.platform hpl
        obtain ⟨a8, b8, h1, h2, h3⟩ := hn1
        cases Option.some.inj (h1.symm.trans hcl)
        cases Option.some.inj (h2.symm.trans hc6)
        exact Or.inr ⟨hz0, _, hcl6, h3⟩) hx (Or.inr ⟨h0, c4, hcl5, hasg⟩)
  obtain ⟨t, a1, b1⟩ := kk (T.setVm vm') hT X'
  exact ⟨t, st.trans a1, b1⟩
end Rows
section Ends
variable {p : Program} {l : Launch} {e : Env} {R : Room} {s : State} {m : MethodId} {args : Array Value} {below : List Frame} {meth : Method} {c : Code} {H : Heap} {locs : List Loc} {cells slots : Nat} {Q : State → Prop}
variable {mc ms : Nat} {free : Addr → Prop} {A0 A1 : Nat → Prop} {H0 : Heap} {a : Array Value} {ls : Array Slot} {st0 rest : List Value}
variable {Qc : Array Value → State → Outcome → State → Prop} {XC : String → State → State → Prop}
/-- what a body that may throw owes at its end -/
def vx_MQ (below : List Frame) (Qc : Array Value → State → Outcome → State → Prop) (XC : String → State → State → Prop) (a : Array Value) (s : State) (mc ms : Nat) (free : Addr → Prop) : State → Prop := fun t =>
  ∃ o, t.status = .running ∧ Ended t below o ∧ vx_Q Qc XC mc ms free a s o t
theorem vx_ret {g : JFrame} {mc ms : Nat} (k : W p l e R s m args below meth c H locs cells slots (MQ below Qc args s mc ms free) g) : W p l e R s m args below meth c H locs cells slots (vx_MQ below Qc XC args s mc ms free) g := by
  intro T hT X
  obtain ⟨t, a1, o, b1, b2, b3, b4⟩ := k T hT X
  exact ⟨t, a1, o, b1, b2, Or.inl ⟨b3, b4⟩⟩
/-- not caught here: it goes on to the caller -/
theorem vx_widen {g : JFrame} {q : Addr} {k n : Nat} (h1 : cells ≤ k) (h2 : slots ≤ n) (kk : vx_W p l e R s m args below meth c H locs k n Q g q) : vx_W p l e R s m args below meth c H locs cells slots Q g q := fun T hT X => kk T hT (stand_widen X h1 h2)
theorem vx_out {pc : Nat} {E : String} {ce : Cell} {q : Addr} {mc ms : Nat} (hout : ∀ x ∈ c.exceptionTable.toList, covers x pc = false) (hlocks : meth.locks = false) (hcell : H[q]? = some ce) (hv : ce.vm = .none) (hcl : s.vm.findClass E = some ce.cls)
    (hx : ∀ t : State, t.heap = H → s.vm.Alike t.vm → XC E s t) (hf : ∀ z ∈ locs, free z.base) (hc : cells ≤ mc) (hs : slots ≤ ms) :
    vx_W p l e R s m args below meth c H locs cells slots (vx_MQ below Qc XC args s mc ms free) (F0 m pc ls rest) q := by
  intro T hT X
  obtain ⟨st1, hrun, hend, hW, hsm⟩ := X.leaveThrown q (g := F0 m pc ls rest) rfl rfl rfl hout hlocks
  have hcell9 : (T.setFrames (.throwing q :: below)).heap[q]? = some ce := by
    show T.heap[q]? = some ce
    rw [hT]; exact hcell
  exact ⟨_, st1, .threw q, hrun, hend, Or.inr ⟨q, rfl, E, ce, locs, hx _ hT hW.alike, hcell9, hv, hcl, hW, hsm.mono hc hs, hf⟩⟩
theorem vx_frame {U : State} {k n : Nat} (h : s.sameButNew ({ U with vm := s.vm } : State) locs k n) : s.heap.size ≤ U.heap.size ∧ ∀ q : Nat, q < s.heap.size → (∀ z ∈ locs, z.base ≠ q) → U.heap[q]? = s.heap[q]? := by
  obtain ⟨-, h2, -, -, -, h6⟩ := h
  refine ⟨h2, fun q hq hz => ?_⟩
  obtain ⟨c9, e1, e2, e3, e4⟩ := h6 q _ (Array.getElem?_eq_getElem hq)
  have hs : c9.slots = (s.heap[q]).slots := Array.ext_getElem? fun i => e4 i fun hm => hz _ hm rfl
  have h9 : c9 = s.heap[q] := by
    rw [hs] at e2
    exact e2
  have e5 : U.heap[q]? = some c9 := e1
  rw [e5, h9, Array.getElem?_eq_getElem hq]
/-- the words of a throw but the four that speak of the heap -/
def vx_no (w : Cond) : Bool := decide (w ≠ .isRef (.static Bundle.tN "UNASSIGNED_STACK" Bundle.steD)) && decide (w ≠ .isRef (.static Bundle.tN "SUPPRESSED_SENTINEL" Bundle.listD)) && decide (w ≠ .laysStatic Bundle.tN "UNASSIGNED_STACK" Bundle.steD) && decide (w ≠ .laysStatic Bundle.tN "SUPPRESSED_SENTINEL" Bundle.listD)
def vx_at0 (own : String) (ic : Nat) (X : String) (names : List String) : List Cond := (Bundle.ownAtoms0 own ic X names).filter vx_no
def vx_atS (own : String) (ic : Nat) (X : String) (names : List String) : List Cond := (Bundle.ownAtoms own ic X names).filter vx_no
/-- a word that the tables alone decide, or a good one -/
def vx_ot (w : Cond) : Bool := w.onTables || goodWord w
theorem vx_ot_at {args a' : Array Value} {s U : State} {w : Cond} (hW : s.WarmedH U.vm) (hvm : s.vm = U.vm) (hg : vx_ot w = true) (h : w.before args s = true) : w.before a' U = true := by
  simp only [vx_ot, Bool.or_eq_true] at hg
  rcases hg with hg | hg
  · exact va_tabs hg hvm h
  · exact word_at hW (good_of_word hg) h
/-- a list's words: the good ones out of the method's own list, the others by premises of their own -/
theorem vx_hat {args : Array Value} {s : State} {L B : List Cond} (h1 : ∀ w ∈ L.filter goodWord, w.before args s = true) (h2 : ∀ w ∈ L.filter (fun w => !goodWord w), w ∈ B) (h3 : ∀ w ∈ B, w.before args s = true) : ∀ w ∈ L, w.before args s = true := by
  intro w hw
  by_cases g : goodWord w = true
  · exact h1 w (List.mem_filter.mpr ⟨hw, g⟩)
  · refine h3 w (h2 w (List.mem_filter.mpr ⟨hw, ?_⟩))
    show (!goodWord w) = true
    cases hgw : goodWord w
    · rfl
    · exact absurd hgw g
theorem vx_c {args : Array Value} {s : State} {w : Cond} {B : List Cond} (h : w.before args s = true) (t : ∀ w ∈ B, w.before args s = true) : ∀ w' ∈ w :: B, w'.before args s = true := fun w' h' => (List.mem_cons.mp h').elim (fun e => by rw [e]; exact h) (t w')
theorem vx_n {args : Array Value} {s : State} : ∀ w ∈ ([] : List Cond), w.before args s = true := fun _ h => nomatch h
theorem vx_own {args : Array Value} {s : State} {L : List Cond} (h1 : ∀ w ∈ L.filter vx_no, w.before args s = true)
    (hU : (Cond.isRef (.static Bundle.tN "UNASSIGNED_STACK" Bundle.steD)).before args s = true) (hN : (Cond.isRef (.static Bundle.tN "SUPPRESSED_SENTINEL" Bundle.listD)).before args s = true)
    (lU : (Cond.laysStatic Bundle.tN "UNASSIGNED_STACK" Bundle.steD).before args s = true) (lN : (Cond.laysStatic Bundle.tN "SUPPRESSED_SENTINEL" Bundle.listD).before args s = true) : ∀ w ∈ L, w.before args s = true := by
  intro w hw
  by_cases e1 : w = .isRef (.static Bundle.tN "UNASSIGNED_STACK" Bundle.steD)
  · rw [e1]; exact hU
  · by_cases e2 : w = .isRef (.static Bundle.tN "SUPPRESSED_SENTINEL" Bundle.listD)
    · rw [e2]; exact hN
    · by_cases e3 : w = .laysStatic Bundle.tN "UNASSIGNED_STACK" Bundle.steD
      · rw [e3]; exact lU
      · by_cases e4 : w = .laysStatic Bundle.tN "SUPPRESSED_SENTINEL" Bundle.listD
        · rw [e4]; exact lN
        · exact h1 w (List.mem_filter.mpr ⟨hw, by unfold vx_no; rw [decide_eq_true e1, decide_eq_true e2, decide_eq_true e3, decide_eq_true e4]; rfl⟩)
/-- where a static field lies, its class's statics cell in H -/
def vx_L (C n d : String) (A : Nat → Prop) (U : State) (H : Heap) : Prop := ∃ (c : ClassId) (k : Class) (i : Nat) (f : Field) (a : Nat) (cell : Cell), U.vm.findClass C = some c ∧ U.fieldFound? C n d = some (c, k, i, f) ∧ f.isStatic = true ∧ k.statics = some a ∧ H[a]? = some cell ∧ cell.vm.isStatics = true ∧ cell.cls = c ∧ f.slot < cell.slots.size ∧ k.staticTypes[f.slot]? = some f.type ∧ ¬ A a
theorem vx_L.moved {C n d : String} {A : Nat → Prop} {u U : State} {H : Heap} (hvm : u.vm.Alike U.vm) (h : vx_L C n d A u H) : vx_L C n d A U H := by
  obtain ⟨c, k, i, f, a, cell, h1, h2, h3, h4, h5, h6, h7, h8, h9, h10⟩ := h
  obtain ⟨k', hi', he⟩ := State.fieldFound?_setVm hvm h2
  exact ⟨c, k', i, f, a, cell, by rw [hvm.findClass]; exact h1, hi', h3, by rw [he]; exact h4, h5, h6, h7, h8, by rw [he]; exact h9, h10⟩
theorem vx_L.kept {C n d : String} {A : Nat → Prop} {U : State} {H H1 : Heap} (h : vx_L C n d A U H) (hq : ∀ a : Nat, a < H.size → ¬ A a → H1[a]? = H[a]?) : vx_L C n d A U H1 := by
  obtain ⟨c, k, i, f, a, cell, h1, h2, h3, h4, h5, h6, h7, h8, h9, h10⟩ := h
  exact ⟨c, k, i, f, a, cell, h1, h2, h3, h4, by rw [hq a (Array.getElem?_eq_some_iff.mp h5).1 h10]; exact h5, h6, h7, h8, h9, h10⟩
theorem vx_L.narrow {C n d : String} {A B : Nat → Prop} {U : State} {H : Heap} (h : vx_L C n d A U H) (hAB : ∀ q, B q → A q) : vx_L C n d B U H := by
  obtain ⟨c, k, i, f, a, cell, h1, h2, h3, h4, h5, h6, h7, h8, h9, h10⟩ := h
  exact ⟨c, k, i, f, a, cell, h1, h2, h3, h4, h5, h6, h7, h8, h9, fun z => h10 (hAB _ z)⟩
theorem vx_L.word {C n d : String} {A : Nat → Prop} {s : State} {args : Array Value} (h : vx_L C n d A s s.heap) : (Cond.laysStatic C n d).before args s = true := by
  obtain ⟨c, k, i, f, a, cell, h1, h2, h3, h4, h5, h6, h7, h8, h9, -⟩ := h
  show (Cond.laysStatic C n d).holds args s none s [] = true
  exact Cond.laysStatic_of h1 h2 h3 h4 h5 h6 h7 h8 h9
/-- .. and what it holds: null or some reference -/
def vx_Zq (C n d : String) (A : Nat → Prop) (U : State) (H : Heap) : Prop := va_Zq C n d A U H ∧ vx_L C n d A U H
theorem vx_Zq.moved {C n d : String} {A : Nat → Prop} {u U : State} {H : Heap} (hvm : u.vm.Alike U.vm) (h : vx_Zq C n d A u H) : vx_Zq C n d A U H := ⟨va_Zq.moved hvm h.1, vx_L.moved hvm h.2⟩
theorem vx_Zq.kept {C n d : String} {A : Nat → Prop} {U : State} {H H1 : Heap} (h : vx_Zq C n d A U H) (hq : ∀ a : Nat, a < H.size → ¬ A a → H1[a]? = H[a]?) : vx_Zq C n d A U H1 := ⟨va_Zq.kept h.1 hq, vx_L.kept h.2 hq⟩
theorem vx_Zq.narrow {C n d : String} {A B : Nat → Prop} {U : State} {H : Heap} (h : vx_Zq C n d A U H) (hAB : ∀ q, B q → A q) : vx_Zq C n d B U H := ⟨va_Zq.narrow h.1 hAB, vx_L.narrow h.2 hAB⟩
theorem vx_Zqof {args : Array Value} {s : State} {C n d : String} {A : Nat → Prop} (hl : (Cond.laysStatic C n d).before args s = true) (hini : (Cond.initialized C).before args s = true) (h : (Cond.isRef (.static C n d)).before args s = true) (hA : ∀ a : Nat, a < s.heap.size → ¬ A a) : vx_Zq C n d A s s.heap := by
  refine ⟨va_Zqof hl hini h hA, ?_⟩
  obtain ⟨c, k, i, f, a, cell, h1, h2, h3, h4, h5, h6, h7, h8, h9⟩ := Cond.laysStatic_spec hl
  exact ⟨c, k, i, f, a, cell, h1, h2, h3, h4, h5, h6, h7, h8, h9, hA a (Array.getElem?_eq_some_iff.mp h5).1⟩
theorem vx_isRef {C n d : String} {v : Value} {A : Nat → Prop} {s : State} {args : Array Value} (h : va_Z C n d v A s s.heap) (hv : v.isRef = true) : (Cond.isRef (.static C n d)).before args s = true := by
  obtain ⟨cf, kf, fi, f, a, cell, h1, h2, h3, h4, h5, h6, h7, -⟩ := h
  have he : (Term.static C n d).eval args s none [] s = some v := by
    simp [Term.eval, State.fieldNamed?, h1, h2, h4, h5, h6, h7]
  simp only [Cond.before, Cond.holds, Cond.value, he]
  cases v <;> simp_all [Value.isRef]
theorem vx_isRefq {C n d : String} {A : Nat → Prop} {s : State} {args : Array Value} (h : va_Zq C n d A s s.heap) : (Cond.isRef (.static C n d)).before args s = true := by
  rcases h with h | ⟨t, h⟩
  · exact vx_isRef h rfl
  · exact vx_isRef h rfl
/-- the same frame, seen from here: as if the method were called anew in this heap -/
theorem vx_rebase {T : State} (X : Stand p l e R s m args below meth c T locs cells slots) {R' : Room} (hf : R'.frames ≤ R.frames) (hl : R'.locals ≤ R.locals) (hc : cells + R'.cells ≤ R.cells) (hs : slots + R'.slots ≤ R.slots) :
    Stand p l e R' ((T.setVm s.vm).setFrames (.invoking m args :: below)) m args below meth c T [] 0 0 := by
  have htop : (T.setVm s.vm).topJava?.isSome := X.here.top
  have hF : ((T.setVm s.vm).setFrames (.invoking m args :: below)).frames = .invoking m args :: below := State.frames_setFrames _ (State.cur_lt_of_top htop)
  obtain ⟨g₀, hg0⟩ := Option.isSome_iff_exists.mp htop
  obtain ⟨r, hr⟩ := State.topJava?_eq_some.mp hg0
  have hl9 : e.platform.stackLimits (T.setVm s.vm).me = e.platform.stackLimits s.me := X.limits
  have hb9 : (T.setVm s.vm).me.stackBytes = s.me.stackBytes := X.bytes
  refine ⟨X.admits, X.cas, X.clock, hF, ?_, X.hears, X.method, X.code, X.here, X.tail, X.warmed, ?_, ?_, ?_⟩
  · have h := X.room
    have hU : ((T.setVm s.vm).setFrames (.invoking m args :: below)).localsInUse = s.localsInUse := by
      rw [State.localsInUse_invoking hF (meth := meth) (c := c) X.method X.code, State.localsInUse_invoking X.frames X.method X.code]
    simp only [State.hasRoom, Bool.and_eq_true, decide_eq_true_eq] at h ⊢
    obtain ⟨⟨⟨⟨h1, h2, h3, h4, h5, h6⟩, h7⟩, h8⟩, h9⟩ := h
    rw [X.frames, List.length_cons] at h2 h3
    have q1 := X.heapSize
    have q2 := X.used
    simp only [hF, hU, List.length_cons, State.stackLimits_setFrames, State.stackBytes_setFrames, hl9, hb9]
    refine ⟨⟨⟨⟨by omega, by omega, by omega, by omega, by omega, h6⟩, ?_⟩, ?_⟩, X.book⟩
    · show T.heap.size + R'.cells ≤ e.platform.maxCells
      omega
    · show T.slotsUsed + R'.slots ≤ e.platform.maxSlots
      omega
  · rw [State.stackLimits_setFrames]; rfl
  · rw [State.stackBytes_setFrames]; rfl
  · refine ⟨?_, Nat.le_refl _, Nat.le_refl _, ?_, ?_, fun a c9 h9 => ⟨c9, h9, rfl, rfl, fun _ _ => rfl⟩⟩
    · obtain ⟨t, ht, -⟩ := State.frames_cons hr
      show T.setVm s.vm = { ((T.setVm s.vm).setFrames (.invoking m args :: below)).setFrames (T.setVm s.vm).frames with heap := T.heap, slotsUsed := T.slotsUsed }
      rw [State.setFrames_setFrames, State.setFrames_self ht]
      rfl
    · show T.slotsUsed = T.slotsUsed + ((T.heap.toList.drop T.heap.size).map (·.slots.size)).sum
      rw [List.drop_eq_nil_of_le (Nat.le_of_eq Array.length_toList)]
      rfl
    · show ((T.heap.toList.drop T.heap.size).map (·.slots.size)).sum ≤ 0
      rw [List.drop_eq_nil_of_le (Nat.le_of_eq Array.length_toList)]
      exact Nat.le_refl _
/-- 'throw new E()': new; dup; invokespecial; athrow -/
theorem vx_throw0 {cc : ByteArray} {pc : Nat} (hexec : p.tables.exec = Jvm.exec) (hb : c.code = cc) (hl : l.stackTraces = false) {own cls : String} {names : List String} {ik ic mc ms : Nat} {A : Nat → Prop}
    (hown : s.vm.findClass own = some m.cls) (hcls : Bundle.fit cls = true) (hnames : ∀ n ∈ names, Bundle.fit n = true)
    (hk : (Cond.classLink own ik cls).before args s = true) (hini : (Cond.initialized cls).before args s = true) (hat : ∀ w ∈ vx_at0 own ic cls names, w.before args s = true)
    (hgood : ∀ w ∈ Cond.classLink own ik cls :: Cond.initialized cls :: vx_at0 own ic cls names, vx_ot w = true)
    (hU : vx_Zq Bundle.tN "UNASSIGNED_STACK" Bundle.steD A s s.heap) (hN : vx_Zq Bundle.tN "SUPPRESSED_SENTINEL" Bundle.listD A s s.heap) (hS : va_S A s.heap H locs) (hsize : ls.size = c.maxLocals)
    (d0 : decode cc pc = .ok (.new ik, 3)) (d3 : decode cc (pc + 3) = .ok (.dup, 1)) (d4 : decode cc (pc + 4) = .ok (.invokespecial ic, 3)) (d7 : decode cc (pc + 7) = .ok (.athrow, 1))
    (hout : ∀ x ∈ c.exceptionTable.toList, covers x (pc + 7) = false)
    (hRframes : names.length + 3 < R.frames) (hRlocals : (rest.map fun v => v.category).sum + (13 * (names.length + 1) + 42) ≤ R.locals) (hRcells : cells + 1 ≤ R.cells) (hRslots : slots + 6 ≤ R.slots) (hlocks : meth.locks = false)
    (hx : ∀ t : State, s.vm.Alike t.vm → H.size ≤ t.heap.size → (∀ q : Nat, q < H.size → t.heap[q]? = H[q]?) → XC cls s t)
    (hf : ∀ z ∈ locs, free z.base) (hc : cells + 1 ≤ mc) (hs : slots + 6 ≤ ms) :
    W p l e R s m args below meth c H locs cells slots (vx_MQ below Qc XC args s mc ms free) (F0 m pc ls rest) := by
  intro T hT X
  have htr : e.platform.stackTraces = false := (show e.platform.stackTraces = l.stackTraces by rw [X.admits.platform]).trans hl
  have Y := vx_rebase X (R' := { frames := R.frames, locals := R.locals, cells := 1, slots := 6 }) (Nat.le_refl _) (Nat.le_refl _) hRcells hRslots
  obtain ⟨s', hA⟩ : ∃ z, z = (T.setVm s.vm).setFrames (.invoking m args :: below) := ⟨_, rfl⟩
  rw [← hA] at Y
  have hvm : s'.vm = s.vm := by rw [hA]; rfl
  have hhp : s'.heap = H := by rw [hA]; exact hT
  have hW0 : s.WarmedH s'.vm := by rw [hvm]; exact State.WarmedH.refl s
  have hat' : ∀ w ∈ vx_at0 own ic cls names, w.before args s' = true := fun w hw => vx_ot_at hW0 hvm.symm (hgood w (List.mem_cons_of_mem _ (List.mem_cons_of_mem _ hw))) (hat w hw)
  have hk' : (Cond.classLink own ik cls).before args s' = true := vx_ot_at hW0 hvm.symm (hgood _ List.mem_cons_self) hk
  have hini' : (Cond.initialized cls).before args s' = true := vx_ot_at hW0 hvm.symm (hgood _ (List.mem_cons_of_mem _ List.mem_cons_self)) hini
  have hU' : vx_Zq Bundle.tN "UNASSIGNED_STACK" Bundle.steD A s' s'.heap := by rw [hhp]; exact vx_Zq.moved hW0.alike (hU.kept hS.2.1)
  have hN' : vx_Zq Bundle.tN "SUPPRESSED_SENTINEL" Bundle.listD A s' s'.heap := by rw [hhp]; exact vx_Zq.moved hW0.alike (hN.kept hS.2.1)
  have h : ∀ w ∈ Bundle.ownAtoms0 own ic cls names, w.before args s' = true := vx_own hat' (vx_isRefq hU'.1) (vx_isRefq hN'.1) hU'.2.word hN'.2.word
  have hown' : s'.vm.findClass own = some m.cls := by rw [hvm]; exact hown
  have hins : (Cond.instantiable cls 6).before args s' = true := h _ (by simp [Bundle.ownAtoms0])
  obtain ⟨vm₁, cX, kX, hfX, hkX, -, -, X₁, st1⟩ := Y.newCold hexec (own := own) (C := cls) (index := ik) (n := 6) hown' hk' hins hini'
    (g := F0 m pc ls rest) rfl (by rw [hb]; exact d0) (Nat.le_refl _) (Nat.le_refl _)
  generalize hT1 : (T.setVm vm₁).pushCell { cls := cX, slots := kX.instanceTypes.map defaultValue, vm := .none } = T1 at X₁ st1
  have hcat : (Value.ref T.heap.size).category = 1 := rfl
  have hcellA : T1.heap[T.heap.size]? = some (freshCell cX kX) := by rw [← hT1]; exact State.heap_pushCell_size _ _
  have d3' : decode c.code (pc + 3) = .ok (.dup, 1) := by rw [hb]; exact d3
  obtain ⟨U, hsteps, hrun, hend, hW, hsame, ce, hce, hO⟩ := X₁.ctorThrow0 hexec htr (own := own) (cls := cls) (names := names) (ic := ic) hown' hcls hnames h (fun x hx => nomatch hx) hfX hkX hcellA (by rw [hhp, hT]; exact Nat.le_refl _)
    (g := { method := m, pc := pc + 4, locals := ls, stack := .ref T.heap.size :: .ref T.heap.size :: rest, locked := none }) rfl hsize rfl rfl (rest := rest) rfl
    (by rw [hb]; exact d4) (by rw [hb]; exact d7) hout hRframes (by simp only [List.map_cons, List.sum_cons, hcat]; omega) hlocks
  obtain ⟨f1, f2⟩ := vx_frame hsame
  rw [hhp] at f1 f2
  have hWs : s.WarmedH U.vm := State.WarmedH.trans hW0 hW
  have hcl : s.vm.findClass cls = some ce.cls := by
    have h9 := hO.cls
    rw [hvm] at h9
    exact h9
  have hall : s.sameButNew ({ U with vm := s.vm } : State) locs mc ms := by
    subst hA
    obtain ⟨e1, e2⟩ := hsame
    rw [State.setFrames_setFrames] at e1
    have h2 : (T.setVm s.vm).sameButNew ({ U with vm := s.vm } : State) [] (0 + 1) (0 + 6) := ⟨e1, e2⟩
    have h3 := X.same.trans h2
    rw [List.append_nil] at h3
    exact h3.mono hc hs
  refine ⟨U, ?_, .threw T.heap.size, hrun, hend, Or.inr ⟨T.heap.size, rfl, cls, ce, locs, hx U hWs.alike f1 (fun q hq => f2 q hq (fun z hz => nomatch hz)), hce, hO.vm, hcl, hWs, hall, hf⟩⟩
  refine st1 _ ?_
  show Steps p.tables e below (T1.setTop { method := m, pc := pc + 3, locals := ls, stack := .ref T.heap.size :: rest, locked := none }) _
  jvm_step X₁.here [X₁.here.top, hexec, d3', Value.category]
  exact hsteps
/-- 'throw new E("text")': new; dup; ldc; invokespecial; athrow -/
theorem vx_throwS {cc : ByteArray} {pc : Nat} (hexec : p.tables.exec = Jvm.exec) (hb : c.code = cc) (hl : l.stackTraces = false) {own cls text : String} {names : List String} {ik is ic mc ms sa : Nat} {A : Nat → Prop}
    (hown : s.vm.findClass own = some m.cls) (hcls : Bundle.fit cls = true) (hnames : ∀ n ∈ names, Bundle.fit n = true)
    (hk : (Cond.classLink own ik cls).before args s = true) (hini : (Cond.initialized cls).before args s = true) (hstr : vk_R own is text sa s) (hat : ∀ w ∈ vx_atS own ic cls names, w.before args s = true)
    (hgood : ∀ w ∈ Cond.classLink own ik cls :: Cond.initialized cls :: vx_atS own ic cls names, vx_ot w = true)
    (hU : vx_Zq Bundle.tN "UNASSIGNED_STACK" Bundle.steD A s s.heap) (hN : vx_Zq Bundle.tN "SUPPRESSED_SENTINEL" Bundle.listD A s s.heap) (hS : va_S A s.heap H locs) (hsize : ls.size = c.maxLocals)
    (d0 : decode cc pc = .ok (.new ik, 3)) (d3 : decode cc (pc + 3) = .ok (.dup, 1)) (d4 : decode cc (pc + 4) = .ok (.ldc is, 2)) (d6 : decode cc (pc + 6) = .ok (.invokespecial ic, 3)) (d9 : decode cc (pc + 9) = .ok (.athrow, 1))
    (hout : ∀ x ∈ c.exceptionTable.toList, covers x (pc + 9) = false)
    (hRframes : names.length + 3 < R.frames) (hRlocals : (rest.map fun v => v.category).sum + (13 * (names.length + 1) + 43) ≤ R.locals) (hRcells : cells + 1 ≤ R.cells) (hRslots : slots + 6 ≤ R.slots) (hlocks : meth.locks = false)
    (hx : ∀ t : State, s.vm.Alike t.vm → H.size ≤ t.heap.size → (∀ q : Nat, q < H.size → t.heap[q]? = H[q]?) → XC cls s t)
    (hf : ∀ z ∈ locs, free z.base) (hc : cells + 1 ≤ mc) (hs : slots + 6 ≤ ms) :
    W p l e R s m args below meth c H locs cells slots (vx_MQ below Qc XC args s mc ms free) (F0 m pc ls rest) := by
  intro T hT X
  have htr : e.platform.stackTraces = false := (show e.platform.stackTraces = l.stackTraces by rw [X.admits.platform]).trans hl
  have Y := vx_rebase X (R' := { frames := R.frames, locals := R.locals, cells := 1, slots := 6 }) (Nat.le_refl _) (Nat.le_refl _) hRcells hRslots
  obtain ⟨s', hA⟩ : ∃ z, z = (T.setVm s.vm).setFrames (.invoking m args :: below) := ⟨_, rfl⟩
  rw [← hA] at Y
  have hvm : s'.vm = s.vm := by rw [hA]; rfl
  have hhp : s'.heap = H := by rw [hA]; exact hT
  have hW0 : s.WarmedH s'.vm := by rw [hvm]; exact State.WarmedH.refl s
  have hat' : ∀ w ∈ vx_atS own ic cls names, w.before args s' = true := fun w hw => vx_ot_at hW0 hvm.symm (hgood w (List.mem_cons_of_mem _ (List.mem_cons_of_mem _ hw))) (hat w hw)
  have hk' : (Cond.classLink own ik cls).before args s' = true := vx_ot_at hW0 hvm.symm (hgood _ List.mem_cons_self) hk
  have hini' : (Cond.initialized cls).before args s' = true := vx_ot_at hW0 hvm.symm (hgood _ (List.mem_cons_of_mem _ List.mem_cons_self)) hini
  have hU' : vx_Zq Bundle.tN "UNASSIGNED_STACK" Bundle.steD A s' s'.heap := by rw [hhp]; exact vx_Zq.moved hW0.alike (hU.kept hS.2.1)
  have hN' : vx_Zq Bundle.tN "SUPPRESSED_SENTINEL" Bundle.listD A s' s'.heap := by rw [hhp]; exact vx_Zq.moved hW0.alike (hN.kept hS.2.1)
  have h : ∀ w ∈ Bundle.ownAtoms own ic cls names, w.before args s' = true := vx_own hat' (vx_isRefq hU'.1) (vx_isRefq hN'.1) hU'.2.word hN'.2.word
  have hown' : s'.vm.findClass own = some m.cls := by rw [hvm]; exact hown
  have hins : (Cond.instantiable cls 6).before args s' = true := h _ (by simp [Bundle.ownAtoms])
  obtain ⟨vm₁, cX, kX, hfX, hkX, -, -, X₁, st1⟩ := Y.newCold hexec (own := own) (C := cls) (index := ik) (n := 6) hown' hk' hins hini'
    (g := F0 m pc ls rest) rfl (by rw [hb]; exact d0) (Nat.le_refl _) (Nat.le_refl _)
  generalize hT1 : (T.setVm vm₁).pushCell { cls := cX, slots := kX.instanceTypes.map defaultValue, vm := .none } = T1 at X₁ st1
  have hcat : (Value.ref T.heap.size).category = 1 := rfl
  have hcellA : T1.heap[T.heap.size]? = some (freshCell cX kX) := by rw [← hT1]; exact State.heap_pushCell_size _ _
  have d3' : decode c.code (pc + 3) = .ok (.dup, 1) := by rw [hb]; exact d3
  have d4' : decode c.code (pc + 4) = .ok (.ldc is, 2) := by rw [hb]; exact d4
  have hstr' : vk_R own is text sa s' := vk_R.warm hW0 hstr
  obtain ⟨U, hsteps, hrun, hend, hW, hsame, ce, hce, hO⟩ := X₁.ctorThrowS hexec htr (own := own) (cls := cls) (names := names) (ic := ic) hown' hcls hnames h (fun x hx => nomatch hx) hfX hkX hcellA (by rw [hhp, hT]; exact Nat.le_refl _) (msg := .ref sa) rfl
    (g := { method := m, pc := pc + 6, locals := ls, stack := .ref sa :: .ref T.heap.size :: .ref T.heap.size :: rest, locked := none }) rfl hsize rfl rfl (rest := rest) rfl
    (by rw [hb]; exact d6) (by rw [hb]; exact d9) hout hRframes (by simp only [List.map_cons, List.sum_cons, hcat]; omega) hlocks
  obtain ⟨f1, f2⟩ := vx_frame hsame
  rw [hhp] at f1 f2
  have hWs : s.WarmedH U.vm := State.WarmedH.trans hW0 hW
  have hcl : s.vm.findClass cls = some ce.cls := by
    have h9 := hO.cls
    rw [hvm] at h9
    exact h9
  have hall : s.sameButNew ({ U with vm := s.vm } : State) locs mc ms := by
    subst hA
    obtain ⟨e1, e2⟩ := hsame
    rw [State.setFrames_setFrames] at e1
    have h2 : (T.setVm s.vm).sameButNew ({ U with vm := s.vm } : State) [] (0 + 1) (0 + 6) := ⟨e1, e2⟩
    have h3 := X.same.trans h2
    rw [List.append_nil] at h3
    exact h3.mono hc hs
  refine ⟨U, ?_, .threw T.heap.size, hrun, hend, Or.inr ⟨T.heap.size, rfl, cls, ce, locs, hx U hWs.alike f1 (fun q hq => f2 q hq (fun z hz => nomatch hz)), hce, hO.vm, hcl, hWs, hall, hf⟩⟩
  refine st1 _ ?_
  show Steps p.tables e below (T1.setTop { method := m, pc := pc + 3, locals := ls, stack := .ref T.heap.size :: rest, locked := none }) _
  jvm_step X₁.here [X₁.here.top, hexec, d3', Value.category]
  exact X₁.ldcString hexec (own := own) (text := text) (index := is) (a := sa) hown' hstr'.1 hstr'.2
    (g := { method := m, pc := pc + 4, locals := ls, stack := .ref T.heap.size :: .ref T.heap.size :: rest, locked := none }) rfl d4' _ hsteps
/-- 'throw new E("text")', the text by a wide index -/
theorem vx_throwSW {cc : ByteArray} {pc : Nat} (hexec : p.tables.exec = Jvm.exec) (hb : c.code = cc) (hl : l.stackTraces = false) {own cls text : String} {names : List String} {ik is ic mc ms sa : Nat} {A : Nat → Prop}
    (hown : s.vm.findClass own = some m.cls) (hcls : Bundle.fit cls = true) (hnames : ∀ n ∈ names, Bundle.fit n = true)
    (hk : (Cond.classLink own ik cls).before args s = true) (hini : (Cond.initialized cls).before args s = true) (hstr : vk_R own is text sa s) (hat : ∀ w ∈ vx_atS own ic cls names, w.before args s = true)
    (hgood : ∀ w ∈ Cond.classLink own ik cls :: Cond.initialized cls :: vx_atS own ic cls names, vx_ot w = true)
    (hU : vx_Zq Bundle.tN "UNASSIGNED_STACK" Bundle.steD A s s.heap) (hN : vx_Zq Bundle.tN "SUPPRESSED_SENTINEL" Bundle.listD A s s.heap) (hS : va_S A s.heap H locs) (hsize : ls.size = c.maxLocals)
    (d0 : decode cc pc = .ok (.new ik, 3)) (d3 : decode cc (pc + 3) = .ok (.dup, 1)) (d4 : decode cc (pc + 4) = .ok (.ldc_w is, 3)) (d7 : decode cc (pc + 7) = .ok (.invokespecial ic, 3)) (d10 : decode cc (pc + 10) = .ok (.athrow, 1))
    (hout : ∀ x ∈ c.exceptionTable.toList, covers x (pc + 10) = false)
    (hRframes : names.length + 3 < R.frames) (hRlocals : (rest.map fun v => v.category).sum + (13 * (names.length + 1) + 43) ≤ R.locals) (hRcells : cells + 1 ≤ R.cells) (hRslots : slots + 6 ≤ R.slots) (hlocks : meth.locks = false)
    (hx : ∀ t : State, s.vm.Alike t.vm → H.size ≤ t.heap.size → (∀ q : Nat, q < H.size → t.heap[q]? = H[q]?) → XC cls s t)
    (hf : ∀ z ∈ locs, free z.base) (hc : cells + 1 ≤ mc) (hs : slots + 6 ≤ ms) :
    W p l e R s m args below meth c H locs cells slots (vx_MQ below Qc XC args s mc ms free) (F0 m pc ls rest) := by
  intro T hT X
  have htr : e.platform.stackTraces = false := (show e.platform.stackTraces = l.stackTraces by rw [X.admits.platform]).trans hl
  have Y := vx_rebase X (R' := { frames := R.frames, locals := R.locals, cells := 1, slots := 6 }) (Nat.le_refl _) (Nat.le_refl _) hRcells hRslots
  obtain ⟨s', hA⟩ : ∃ z, z = (T.setVm s.vm).setFrames (.invoking m args :: below) := ⟨_, rfl⟩
  rw [← hA] at Y
  have hvm : s'.vm = s.vm := by rw [hA]; rfl
  have hhp : s'.heap = H := by rw [hA]; exact hT
  have hW0 : s.WarmedH s'.vm := by rw [hvm]; exact State.WarmedH.refl s
  have hat' : ∀ w ∈ vx_atS own ic cls names, w.before args s' = true := fun w hw => vx_ot_at hW0 hvm.symm (hgood w (List.mem_cons_of_mem _ (List.mem_cons_of_mem _ hw))) (hat w hw)
  have hk' : (Cond.classLink own ik cls).before args s' = true := vx_ot_at hW0 hvm.symm (hgood _ List.mem_cons_self) hk
  have hini' : (Cond.initialized cls).before args s' = true := vx_ot_at hW0 hvm.symm (hgood _ (List.mem_cons_of_mem _ List.mem_cons_self)) hini
  have hU' : vx_Zq Bundle.tN "UNASSIGNED_STACK" Bundle.steD A s' s'.heap := by rw [hhp]; exact vx_Zq.moved hW0.alike (hU.kept hS.2.1)
  have hN' : vx_Zq Bundle.tN "SUPPRESSED_SENTINEL" Bundle.listD A s' s'.heap := by rw [hhp]; exact vx_Zq.moved hW0.alike (hN.kept hS.2.1)
  have h : ∀ w ∈ Bundle.ownAtoms own ic cls names, w.before args s' = true := vx_own hat' (vx_isRefq hU'.1) (vx_isRefq hN'.1) hU'.2.word hN'.2.word
  have hown' : s'.vm.findClass own = some m.cls := by rw [hvm]; exact hown
  have hins : (Cond.instantiable cls 6).before args s' = true := h _ (by simp [Bundle.ownAtoms])
  obtain ⟨vm₁, cX, kX, hfX, hkX, -, -, X₁, st1⟩ := Y.newCold hexec (own := own) (C := cls) (index := ik) (n := 6) hown' hk' hins hini'
    (g := F0 m pc ls rest) rfl (by rw [hb]; exact d0) (Nat.le_refl _) (Nat.le_refl _)
  generalize hT1 : (T.setVm vm₁).pushCell { cls := cX, slots := kX.instanceTypes.map defaultValue, vm := .none } = T1 at X₁ st1
  have hcat : (Value.ref T.heap.size).category = 1 := rfl
  have hcellA : T1.heap[T.heap.size]? = some (freshCell cX kX) := by rw [← hT1]; exact State.heap_pushCell_size _ _
  have d3' : decode c.code (pc + 3) = .ok (.dup, 1) := by rw [hb]; exact d3
  have d4' : decode c.code (pc + 4) = .ok (.ldc_w is, 3) := by rw [hb]; exact d4
  have hstr' : vk_R own is text sa s' := vk_R.warm hW0 hstr
  obtain ⟨U, hsteps, hrun, hend, hW, hsame, ce, hce, hO⟩ := X₁.ctorThrowS hexec htr (own := own) (cls := cls) (names := names) (ic := ic) hown' hcls hnames h (fun x hx => nomatch hx) hfX hkX hcellA (by rw [hhp, hT]; exact Nat.le_refl _) (msg := .ref sa) rfl
    (g := { method := m, pc := pc + 7, locals := ls, stack := .ref sa :: .ref T.heap.size :: .ref T.heap.size :: rest, locked := none }) rfl hsize rfl rfl (rest := rest) rfl
    (by rw [hb]; exact d7) (by rw [hb]; exact d10) hout hRframes (by simp only [List.map_cons, List.sum_cons, hcat]; omega) hlocks
  obtain ⟨f1, f2⟩ := vx_frame hsame
  rw [hhp] at f1 f2
  have hWs : s.WarmedH U.vm := State.WarmedH.trans hW0 hW
  have hcl : s.vm.findClass cls = some ce.cls := by
    have h9 := hO.cls
    rw [hvm] at h9
    exact h9
  have hall : s.sameButNew ({ U with vm := s.vm } : State) locs mc ms := by
    subst hA
    obtain ⟨e1, e2⟩ := hsame
    rw [State.setFrames_setFrames] at e1
    have h2 : (T.setVm s.vm).sameButNew ({ U with vm := s.vm } : State) [] (0 + 1) (0 + 6) := ⟨e1, e2⟩
    have h3 := X.same.trans h2
    rw [List.append_nil] at h3
    exact h3.mono hc hs
  refine ⟨U, ?_, .threw T.heap.size, hrun, hend, Or.inr ⟨T.heap.size, rfl, cls, ce, locs, hx U hWs.alike f1 (fun q hq => f2 q hq (fun z hz => nomatch hz)), hce, hO.vm, hcl, hWs, hall, hf⟩⟩
  refine st1 _ ?_
  show Steps p.tables e below (T1.setTop { method := m, pc := pc + 3, locals := ls, stack := .ref T.heap.size :: rest, locked := none }) _
  jvm_step X₁.here [X₁.here.top, hexec, d3', Value.category]
  exact X₁.ldcStringW hexec (own := own) (text := text) (index := is) (a := sa) hown' hstr'.1 hstr'.2
    (g := { method := m, pc := pc + 4, locals := ls, stack := .ref T.heap.size :: .ref T.heap.size :: rest, locked := none }) rfl d4' _ hsteps
end Ends
section Bodies
variable {l : Launch}
theorem vx_ofW {y : MethodName} {ws ws' : List Cond} {rm : Room} {Pc : Array Value → State → Prop} {Qc : Array Value → State → Outcome → State → Prop} {XC : String → State → State → Prop} {mc ms : Nat} {free : Addr → Prop} {cc : ByteArray} {maxL : Nat} {ret : Option FieldType}
    (hy : plainName y.cls = true) (hw : ws = Cond.code y cc maxL ret :: ws')
    (body : ∀ p e s m args below meth c s₁, BodyLoose p l y (headSpec ws rm) cc maxL ret e s m args below meth c s₁ → c.maxLocals = maxL → (∀ x ∈ c.exceptionTable.toList, False) → Pc args s →
      W p l e (headSpec ws rm).room s m args below meth c s.heap [] 0 0 (vx_MQ below Qc XC args s mc ms free) (entryFrame m args maxL)) : vx_Met l y ws rm Pc Qc XC mc ms free := by
  refine MetFree.of_bodyS (code := cc) (maxLocals := maxL) (ret := ret) hy ?_ ?_
  · intro args s m h hn
    obtain ⟨meth, c, h1, h2, h3, h4, h5, h6, -, -⟩ := Cond.code_spec hn (atoms_spec (ws := ws) h _ (by rw [hw]; exact List.mem_cons_self))
    exact ⟨meth, c, h1, h2, h3, h4, h5, h6⟩
  · intro p e s m args below meth c s₁ B hml hP _
    have hh0 : s₁.heap = s.heap := by rw [B.state]; rfl
    have ht : ∀ x ∈ c.exceptionTable.toList, False := by
      obtain ⟨meth9, c9, h1, h2, -, -, -, -, h7, -⟩ := Cond.code_spec B.named (atoms_spec (ws := ws) B.pre _ (by rw [hw]; exact List.mem_cons_self))
      cases Option.some.inj (h1.symm.trans B.method)
      cases Option.some.inj (h2.symm.trans (Stand.of_body B).code)
      intro x hx
      rw [Array.isEmpty_iff.mp h7] at hx
      cases hx
    obtain ⟨t, a1, o, b1, b2, b3⟩ := body p e s m args below meth c s₁ B hml ht hP s₁ hh0 (Stand.of_body B)
    exact ⟨t, o, a1, b1, b2, b3⟩
/-- the table of a body with handlers -/
theorem vx_table {p : Program} {x y : MethodName} {S : Spec} {cc bytes : ByteArray} {maxL maxL' : Nat} {ret ret' : Option FieldType} {e : Env} {s s₁ : State} {m : MethodId} {args : Array Value} {below : List Frame} {meth : Method} {c : Code} {hh : List (Nat × Nat × Nat × Nat)}
    (B : BodyLoose p l y S cc maxL ret e s m args below meth c s₁) (h : (Cond.codeWith y bytes maxL' ret' hh).before args s = true) : c.exceptionTable.toList = tableOf hh := by
  obtain ⟨m9, meth9, c9, hn9, h1, h2, -, -, h6, -⟩ := Cond.codeWith_spec h
  cases Option.some.inj (hn9.symm.trans B.named)
  cases Option.some.inj (h1.symm.trans B.method)
  cases Option.some.inj (h2.symm.trans (Stand.of_body B).code)
  rw [← h6, table_eq]
end Bodies
end VXA
/-! ===== END ===== -/
/-! ===== BEGIN a static call of a method with an exception table ===== -/
section VXS
variable {p : Program} {l : Launch} {e : Env} {R : Room} {s : State} {m : MethodId} {args : Array Value} {below : List Frame} {meth : Method} {c : Code} {T : State} {H : Heap} {locs : List Loc} {cells slots : Nat}
abbrev vx_CSW (R : Room) (s : State) (args : Array Value) (own : String) (index : Nat) (y : MethodName) (bytes : ByteArray) (maxL : Nat) (ret : Option FieldType) (hh : List (Nat × Nat × Nat × Nat)) (ws : List Cond) (rm : Room) (mc ms n : Nat) : Prop :=
  (rm.cells = mc ∧ rm.slots = ms ∧ rm.frames + 1 ≤ R.frames ∧ 8 + (maxL + 11) + rm.locals ≤ R.locals ∧ (∀ w ∈ ws, ∀ (a' : Array Value) (U : State), s.WarmedH U.vm → w.before a' U = true) ∧ Cond.codeWith y bytes maxL ret hh ∈ ws) ∧
  (Cond.codeWith y bytes maxL ret hh).before args s = true ∧ (Cond.initialized y.cls).before args s = true ∧ (y.cls ≠ "java/lang/invoke/MethodHandle" ∧ y.cls ≠ "java/lang/invoke/VarHandle") ∧
  (∀ sig, parseMethodDescriptor y.desc = some sig → n = sig.parameters.length) ∧ (Cond.methodLink own index y).before args s = true ∧ (Cond.static y).before args s = true
theorem vx_cwSW {own : String} {index maxL mc ms : Nat} {y : MethodName} {bytes : ByteArray} {ret : Option FieldType} {hh : List (Nat × Nat × Nat × Nat)} {Ts ws ws' : List Cond} {rm : Room} (n : Nat) (ht : ∀ w ∈ Ts, w.before args s = true) (hT : GoodIn Ts (va_wsS own index y ws)) (hw : ws = Cond.codeWith y bytes maxL ret hh :: ws') (hrc : rm.cells = mc) (hrs : rm.slots = ms)
    (hd : y.cls ≠ "java/lang/invoke/MethodHandle" ∧ y.cls ≠ "java/lang/invoke/VarHandle" ∧ (parseMethodDescriptor y.desc).map (fun d => d.parameters.length) = some n) (hR : rm.frames + 1 ≤ R.frames ∧ 8 + (maxL + 11) + rm.locals ≤ R.locals) :
    vx_CSW R s args own index y bytes maxL ret hh ws rm mc ms n := by
  have ok : ∀ w ∈ va_wsS own index y ws, w.before args s = true := fun w h => ht w (hT w h).1
  have hG : GoodIn Ts ws := fun w h => hT w (by unfold va_wsS; exact List.mem_append_right _ h)
  have hc : Cond.codeWith y bytes maxL ret hh ∈ ws := by rw [hw]; exact List.mem_cons_self
  refine ⟨⟨hrc, hrs, hR.1, hR.2, pay_in ht hG, hc⟩, ht _ (hG _ hc).1, ok _ (by simp [va_wsS]), ⟨hd.1, hd.2.1⟩, fun sig h => ?_, ok _ (by simp [va_wsS]), ok _ (by simp [va_wsS])⟩
  have h2 := hd.2.2
  rw [h] at h2
  exact (Option.some.inj h2).symm
theorem vx_callSW (X : Stand p l e R s m args below meth c T locs cells slots) (hexec : p.tables.exec = Jvm.exec) {own : String} {index : Nat} {y : MethodName} {bytes : ByteArray} {maxL : Nat} {ret : Option FieldType} {hh : List (Nat × Nat × Nat × Nat)}
    (hown : s.vm.findClass own = some m.cls) (hlink : (Cond.methodLink own index y).before args s = true) (hstat : (Cond.static y).before args s = true) (hinit : (Cond.initialized y.cls).before args s = true)
    (hcode : (Cond.codeWith y bytes maxL ret hh).before args s = true) (hy : y.cls ≠ "java/lang/invoke/MethodHandle" ∧ y.cls ≠ "java/lang/invoke/VarHandle")
    {W9 : Nat} {Pre : Pt → Array Value → Prop} {Post : Pt → Array Value → Option Value → Pt → Prop} (hK : Back l R p e below s args y 3 W9 Pre Post)
    {g : JFrame} (hg : g.method = m) (hsize : g.locals.size = c.maxLocals) {argsL rest : List Value} (hlen : ∀ sig, parseMethodDescriptor y.desc = some sig → argsL.length = sig.parameters.length)
    (hstack : g.stack = argsL.reverse ++ rest) (hW : 2 * g.monitorRoom + (rest.map fun v => v.category).sum ≤ W9) (hdg : decode c.code g.pc = .ok (.invokestatic index, 3))
    (hpre : ∀ vm₁, s.WarmedH vm₁ → Pre ⟨T.setVm vm₁, locs, cells, slots⟩ argsL.toArray) :
    ∃ (v : Option Value) (vm₁ : Vm) (B : Pt), s.WarmedH vm₁ ∧ Stand p l e R s m args below meth c B.U B.locs B.cells B.slots ∧ Post ⟨T.setVm vm₁, locs, cells, slots⟩ argsL.toArray v B ∧
      ∀ target, Steps p.tables e below (B.U.setTop { g with pc := g.pc + 3, stack := v.toList ++ rest }) target → Steps p.tables e below (T.setTop g) target := by
  obtain ⟨mk, methM, cM, hnamed, hmethM, -, -, -, -, -, -, hsigM⟩ := Cond.codeWith_spec hcode
  have hstatic : methM.isStatic = true := Cond.static_spec hnamed hmethM hstat
  obtain ⟨kP, hkP, -⟩ := className_of_methodNamed hnamed
  have hinitP : kP.init = .initialized := Cond.initialized_spec (findClass_of_methodNamed hnamed) hkP hinit
  obtain ⟨vm₁, X₁, hstep₁⟩ := X.invokestatic hexec hown hlink hnamed hmethM hstatic hkP hinitP hy (g := g) hg (argsL := argsL) (rest := rest) (hlen _ hsigM) hstack hdg
  obtain ⟨v, B, X', hpost, hsteps⟩ := hK m meth c ⟨T.setVm vm₁, locs, cells, slots⟩ { g with stack := rest } (.invokestatic index) mk argsL.toArray X₁ hg hsize hdg hW (X₁.named hnamed) (hpre vm₁ X₁.warmed)
  exact ⟨v, vm₁, B, X₁.warmed, X', hpost, fun target h => hstep₁ _ fun acts => by rw [doInvoke_state]; exact hsteps.trans h⟩
theorem vx_runSW {y : MethodName} {bytes cc : ByteArray} {maxL nL mc ms n index : Nat} {ret : Option FieldType} {hh : List (Nat × Nat × Nat × Nat)} {ws : List Cond} {rm : Room} {Pc : Array Value → State → Prop} {Qc : Array Value → State → Outcome → State → Prop} {free : Addr → Prop} {Ts : List Cond} {own : String} {As rest : List Value} {g : JFrame}
    (S : CallFix p m c cc nL s args Ts own) (hM : Met l y ws rm Pc Qc mc ms free) (cw : vx_CSW R s args own index y bytes maxL ret hh ws rm mc ms n) (hp : PreS s H Pc As)
    (hg : g.method = m) (hn : As.length = n) (hsize : g.locals.size = nL) (hstack : g.stack = As.reverse ++ rest) (hW : 2 * g.monitorRoom + (rest.map fun v => v.category).sum ≤ 8) (hdg : decode cc g.pc = .ok (.invokestatic index, 3)) (hf : cells + mc ≤ R.cells ∧ slots + ms ≤ R.slots) :
    va_Run p l e R s m args below meth c H locs cells slots mc ms g rest (Qc As.toArray) (free) := by
  obtain ⟨⟨hrc, hrs, hfr, hlo, hws, hcw⟩, hcode, hini, hy, hlen, hl, hstt⟩ := cw
  have hK : Back l R p e below s args y 3 8 (PreOf R mc ms Pc) (PostOf Qc mc ms free) := va_backW (hh := hh) (bytes := bytes) (maxL := maxL) (ret := ret) hM hp.1 hrc hrs hfr hlo hws hcw (fun a' U hW => word_at hW (Or.inl (by first | rfl | simp [Cond.onTables, Cond.keeps, Cond.steady])) hini)
  obtain ⟨hx, hb, hml, ho, -⟩ := S
  intro T hT X
  obtain ⟨v, vm₁, ⟨U', l2, c2, s2⟩, hW₁, X', ⟨g', mk, t, L, e1, e2, hq, h1, hL, h2, h3⟩, st⟩ := vx_callSW X hx (hh := hh) (bytes := bytes) (maxL := maxL) (ret := ret) ho hl hstt hini hcode hy hK hg (hsize.trans hml.symm) (argsL := As) (rest := rest) (fun sig h => hn.trans (hlen sig h)) hstack hW (by rw [hb]; exact hdg)
    (fun vm₁ hW₁ => ⟨hf.1, hf.2, hp.2 (T.setVm vm₁) hT hW₁⟩)
  dsimp only [Pt.U, Pt.locs, Pt.cells, Pt.slots] at X' e1 e2 h1 h2 h3 st
  subst h1; subst h2; subst h3
  exact ⟨v, (T.setVm vm₁).calling g' mk As.toArray, t, U', L, hT, X', hL, e1, e2, hq, st⟩
/-- not caught here, past rows that name other classes: it goes on to the caller -/
theorem vx_outP {p : Program} {l : Launch} {e : Env} {R : Room} {s : State} {m : MethodId} {args : Array Value} {below : List Frame} {meth : Method} {c : Code} {H : Heap} {locs : List Loc} {cells slots : Nat} {free : Addr → Prop} {ls : Array Slot} {rest : List Value} {Qc : Array Value → State → Outcome → State → Prop} {XC : String → State → State → Prop}
    {pc : Nat} {own E : String} {ce : Cell} {q : Addr} {mc ms : Nat} (hown : s.vm.findClass own = some m.cls) (hlocks : meth.locks = false)
    (hpass : ∀ z ∈ c.exceptionTable.toList, covers z pc = false ∨ (z.catchType ≠ 0 ∧ ∃ nm : String, (Cond.classLink own z.catchType nm).before args s = true ∧ va_Nc E nm s)) (hcell : H[q]? = some ce) (hv : ce.vm = .none) (hcl : s.vm.findClass E = some ce.cls)
    (hx : ∀ t : State, t.heap = H → s.vm.Alike t.vm → XC E s t) (hf : ∀ z ∈ locs, free z.base) (hc : cells ≤ mc) (hs : slots ≤ ms) :
    vx_W p l e R s m args below meth c H locs cells slots (vx_MQ below Qc XC args s mc ms free) (F0 m pc ls rest) q := by
  intro T hT X
  have hpl : e.platform.magicAccessors = ({} : Platform).magicAccessors := by rw [X.admits.platform]
  obtain ⟨vm', hW', X', st⟩ := X.outThrough hlocks q (g := F0 m pc ls rest) rfl rfl rfl (cell := ce) (by rw [hT]; exact hcell) (by rw [hv]; rfl)
    (by obtain ⟨k9, h9, -⟩ := Vm.findClass_spec hcl; exact ⟨k9, h9⟩) (fun z hz => by
      rcases hpass z hz with h | ⟨hz0, nm, hl1, hn1⟩
      · exact Or.inl h
      · obtain ⟨c6, hc6, hcl6⟩ := Cond.classLink_spec hown hl1 e.platform hpl
        obtain ⟨a8, b8, h1, h2, h3⟩ := hn1
        cases Option.some.inj (h1.symm.trans hcl)
        cases Option.some.inj (h2.symm.trans hc6)
        exact Or.inr ⟨hz0, _, hcl6, h3⟩)
  obtain ⟨g₀, hfr⟩ := X'.frames_eq
  have hcell9 : ((T.setVm vm').setFrames (.throwing q :: below)).heap[q]? = some ce := by
    show T.heap[q]? = some ce
    rw [hT]; exact hcell
  have hend : Ended ((T.setVm vm').setFrames (.throwing q :: below)) below (.threw q) := State.frames_setFrames _ (State.cur_lt_of_frames hfr)
  refine ⟨(T.setVm vm').setFrames (.throwing q :: below), ?_, .threw q, X'.here.running, hend, Or.inr ⟨q, rfl, E, ce, locs, hx _ hT (X'.ends _).1.alike, hcell9, hv, hcl, (X'.ends _).1, (X'.ends _).2.mono hc hs, hf⟩⟩
  rw [X.pushThrowing_eq]
  exact st
/-- a thing of a world lies in the heap -/
theorem vx_lt {D : va_G} {cl : List vw_C} {ws : va_W} {H1 : Heap} (h : va_P D cl ws H1) {k : Nat} {q : Nat × va_E} (hk : ws[k]? = some q) : q.1 < H1.size := (h k q hk).lt
end VXS
/-! ===== END ===== -/
/-! ===== BEGIN methods with a table of their own: called by a name, returning or throwing ===== -/
section VXH
/-! vx_backW, vx_callVX, vx_callSX, vx_callVW, vx_runVW, vx_runVX, vx_runSX, vx_ofWH follow the same proofs as their sisters above (Free/Laws.lean, Shelf42/LK1.lean); vx_outP calls Shelf42/NT130.lean (outThrough). -/
section
variable {l : Launch} {R : Room} {p : Program} {e : Env} {below : List Frame} {s : State} {sargs : Array Value} {y : MethodName} {len W9 : Nat}
theorem vx_backW {ws : List Cond} {rm : Room} {Pc : Array Value → State → Prop} {Qc : Array Value → State → Outcome → State → Prop} {XC : String → State → State → Prop} {mc ms : Nat} {free : Addr → Prop} {bytes : ByteArray} {maxL : Nat} {ret : Option FieldType} {hh : List (Nat × Nat × Nat × Nat)}
    (hM : vx_Met l y ws rm Pc Qc XC mc ms free) (hblind : FrameBlind Pc) (hrc : rm.cells = mc) (hrs : rm.slots = ms)
    (hframes : rm.frames + 1 ≤ R.frames) (hlocals : W9 + (maxL + 11) + rm.locals ≤ R.locals)
    (hws : ∀ w ∈ ws, ∀ a' U, s.WarmedH U.vm → w.before a' U = true) (hcode : Cond.codeWith y bytes maxL ret hh ∈ ws) (hinit : ∀ a' U, s.WarmedH U.vm → (Cond.initialized y.cls).before a' U = true) :
    vx_Back l R p e below s sargs y len W9 (PreOf R mc ms Pc) (PostOf Qc mc ms free) (vx_Post XC mc ms free) := by
  intro m meth c A g ig mk a X hg hsize hdg hW hn hp
  have h1 : (headSpec ws rm).pre.before a A.U = true := atoms_intro fun w hw => hws w hw _ _ X.warmed
  have h2 : (Cond.codeWith y bytes maxL ret hh).before a A.U = true := hws _ hcode _ _ X.warmed
  have h3 : (Cond.initialized y.cls).before a A.U = true := hinit _ _ X.warmed
  have h4 : A.cells + (headSpec ws rm).room.cells ≤ R.cells := by rw [show (headSpec ws rm).room.cells = mc from hrc]; exact hp.1
  have h5 : A.slots + (headSpec ws rm).room.slots ≤ R.slots := by rw [show (headSpec ws rm).room.slots = ms from hrs]; exact hp.2.1
  have hPc : Pc a (A.U.calling g mk a) := hblind _ _ _ _ hp.2.2
  obtain ⟨U, Ls, c0, s0⟩ := A
  dsimp only [Pt.U, Pt.locs, Pt.cells, Pt.slots] at h1 h2 h3 h4 h5 X hn hPc ⊢
  obtain ⟨m9, methY, cY, hn9, hmY, hcY, -, hlY, -⟩ := Cond.codeWith_spec h2
  cases Option.some.inj (hn9.symm.trans hn)
  obtain ⟨kY, hkY, -⟩ := className_of_methodNamed hn
  have hinitY : kY.init = .initialized := Cond.initialized_spec (findClass_of_methodNamed hn) hkY h3
  have h : At U g.method c below := by rw [hg]; exact X.here
  have hlocals9 : W9 + (maxL + 11) + (headSpec ws rm).room.locals ≤ R.locals := hlocals
  have happ : (headSpec ws rm).appliesLoose y e.platform (U.calling g mk a) = true :=
    Spec.appliesLoose_calling (g := g) h hdg hn hkY hinitY
      (X.room_calling (g := g) (R' := (headSpec ws rm).room) hsize hmY hcY hframes (by rw [hlY]; omega) h4 h5) h1
  obtain ⟨mid, hmid⟩ := h.above
  have hfr : (U.setTop g).frames = (.java g :: mid) ++ below := by rw [State.frames_setTop' g h.top, hmid]; rfl
  obtain ⟨o, s₂, hsteps, -, hend, hq⟩ := Steps.callFree hM p X.admits X.cas X.clock (acts := []) hfr happ hPc trivial
  have hq' : vx_Q Qc XC mc ms free a (U.calling g mk a) o s₂ := hq
  rw [State.frames_setTop' g h.top] at hend
  obtain ⟨g₀, hg0⟩ := Option.isSome_iff_exists.mp h.top
  obtain ⟨r, hr⟩ := State.topJava?_eq_some.mp hg0
  have hr' : (({ U with heap := s₂.heap, slotsUsed := s₂.slotsUsed } : State).setVm s₂.vm).frames = .java g₀ :: r := hr
  rcases hq' with ⟨hqc, L, hfe, hL⟩ | ⟨q, rfl, E, ce, L, hx, hce, hcv, hcl, hW₂, hsm, hL⟩
  · obtain ⟨⟨v, rfl⟩, hW₂, e2, q2, q3, q4, q5, q6⟩ := id hfe
    have e3 : s₂ = ({ (U.calling g mk a).setFrames s₂.frames with heap := s₂.heap, slotsUsed := s₂.slotsUsed } : State).setVm s₂.vm := by
      have : s₂ = ({ s₂ with vm := (U.calling g mk a).vm } : State).setVm s₂.vm := rfl
      rw [e2] at this
      exact this
    obtain ⟨c₂, i₂, len₂, hc₂, hd₂, hf₂⟩ := hend
    have hW' : U.WarmedH s₂.vm := hW₂
    have hcc : c₂ = c := by
      have h1 : s₂.code? g.method = U.code? g.method := by
        rw [State.code?_eq, State.code?_eq, hW'.alike.method?]
      exact Option.some.inj (hc₂.symm.trans (h1.trans h.code))
    subst hcc
    have hlen : len₂ = len := by rw [hdg] at hd₂; cases hd₂; rfl
    subst hlen
    have hs₂ : s₂ = (({ U with heap := s₂.heap, slotsUsed := s₂.slotsUsed } : State).setVm s₂.vm).setTop { g with pc := g.pc + len₂, stack := v.toList ++ g.stack } := by
      refine e3.trans ?_
      rw [hf₂, State.calling_eq h.top, State.setFrames_setFrames, State.setTop_of_frames _ hr', hr]
      rfl
    have hsame : U.sameButNew ({ U with heap := s₂.heap, slotsUsed := s₂.slotsUsed } : State) L mc ms := by
      refine ⟨?_, q2, q3, q4, q5, q6⟩
      obtain ⟨t, ht, -⟩ := State.frames_cons hr
      show ({ U with heap := s₂.heap, slotsUsed := s₂.slotsUsed } : State) = { U.setFrames U.frames with heap := s₂.heap, slotsUsed := s₂.slotsUsed }
      rw [State.setFrames_self ht]
    subst hg
    refine Or.inl ⟨v, ⟨(({ U with heap := s₂.heap, slotsUsed := s₂.slotsUsed } : State).setVm s₂.vm), Ls ++ L, c0 + mc, s0 + ms⟩,
      ⟨X.admits, X.cas, X.clock, X.frames, X.room, X.hears, X.method, X.code, (X.here.setHeapUsed s₂.heap s₂.slotsUsed).setVm hW'.alike, X.tail, State.WarmedH.trans X.warmed hW', X.limits, X.bytes, X.same.trans (hsame.setVm s.vm)⟩,
      ⟨g, mk, s₂, L, rfl, rfl, hqc, rfl, hL, rfl, rfl⟩, ?_⟩
    show Steps p.tables e below _ ((({ U with heap := s₂.heap, slotsUsed := s₂.slotsUsed } : State).setVm s₂.vm).setTop { g with pc := g.pc + len₂, stack := v.toList ++ g.stack })
    rw [← hs₂]
    exact hsteps
  · obtain ⟨e2, q2, q3, q4, q5, q6⟩ := id hsm
    have e3 : s₂ = ({ (U.calling g mk a).setFrames s₂.frames with heap := s₂.heap, slotsUsed := s₂.slotsUsed } : State).setVm s₂.vm := by
      have : s₂ = ({ s₂ with vm := (U.calling g mk a).vm } : State).setVm s₂.vm := rfl
      rw [e2] at this
      exact this
    have hf₂ : s₂.frames = .throwing q :: .java g :: U.frames.tail := hend
    have hW' : U.WarmedH s₂.vm := hW₂
    have hs₂ : s₂ = ((({ U with heap := s₂.heap, slotsUsed := s₂.slotsUsed } : State).setVm s₂.vm).setTop g).pushFrame (.throwing q) := by
      refine e3.trans ?_
      rw [hf₂, State.calling_eq h.top, State.setFrames_setFrames, State.pushFrame, State.frames_setTop _ hr', State.setTop_of_frames _ hr', State.setFrames_setFrames, hr]
      rfl
    have hsame : U.sameButNew ({ U with heap := s₂.heap, slotsUsed := s₂.slotsUsed } : State) L mc ms := by
      refine ⟨?_, q2, q3, q4, q5, q6⟩
      obtain ⟨t, ht, -⟩ := State.frames_cons hr
      show ({ U with heap := s₂.heap, slotsUsed := s₂.slotsUsed } : State) = { U.setFrames U.frames with heap := s₂.heap, slotsUsed := s₂.slotsUsed }
      rw [State.setFrames_self ht]
    subst hg
    refine Or.inr ⟨q, ⟨(({ U with heap := s₂.heap, slotsUsed := s₂.slotsUsed } : State).setVm s₂.vm), Ls ++ L, c0 + mc, s0 + ms⟩,
      ⟨X.admits, X.cas, X.clock, X.frames, X.room, X.hears, X.method, X.code, (X.here.setHeapUsed s₂.heap s₂.slotsUsed).setVm hW'.alike, X.tail, State.WarmedH.trans X.warmed hW', X.limits, X.bytes, X.same.trans (hsame.setVm s.vm)⟩,
      ⟨g, mk, s₂, L, E, ce, rfl, rfl, hx, hce, hcv, hcl, rfl, hL, rfl, rfl⟩, ?_⟩
    show Steps p.tables e below _ (((({ U with heap := s₂.heap, slotsUsed := s₂.slotsUsed } : State).setVm s₂.vm).setTop g).pushFrame (.throwing q))
    rw [← hs₂]
    exact hsteps
end
variable {p : Program} {l : Launch} {e : Env} {R : Room} {s : State} {m : MethodId} {args : Array Value} {below : List Frame} {meth : Method} {c : Code} {T : State} {H : Heap} {locs : List Loc} {cells slots : Nat}
theorem vx_callVX (X : Stand p l e R s m args below meth c T locs cells slots) (hexec : p.tables.exec = Jvm.exec) {own C : String} {index : Nat} {y : MethodName} {bytes : ByteArray} {maxL : Nat} {ret : Option FieldType} {hh : List (Nat × Nat × Nat × Nat)}
    (hown : s.vm.findClass own = some m.cls) (hlink : (Cond.methodLink own index y).before args s = true) (hinst : (Cond.instanceMethod y).before args s = true) (hsel : (Cond.selects C y y).before args s = true)
    (hcode : (Cond.codeWith y bytes maxL ret hh).before args s = true) (hy : y.cls ≠ "java/lang/invoke/MethodHandle" ∧ y.cls ≠ "java/lang/invoke/VarHandle")
    {W9 : Nat} {Pre : Pt → Array Value → Prop} {Post : Pt → Array Value → Option Value → Pt → Prop} {PostX : Pt → Array Value → Addr → Pt → Prop} (hK : vx_Back l R p e below s args y 3 W9 Pre Post PostX)
    {b : Addr} {cellB : Cell} (hcell : T.heap[b]? = some cellB) (hobj : cellB.vm.isStatics = false) (hcls : s.vm.findClass C = some cellB.cls)
    {g : JFrame} (hg : g.method = m) (hsize : g.locals.size = c.maxLocals) {argsL rest : List Value} (hlen : ∀ sig, parseMethodDescriptor y.desc = some sig → argsL.length = sig.parameters.length)
    (hstack : g.stack = argsL.reverse ++ .ref b :: rest) (hW : 2 * g.monitorRoom + (rest.map fun v => v.category).sum ≤ W9) (hdg : decode c.code g.pc = .ok (.invokevirtual index, 3))
    (hpre : ∀ vm₁, s.WarmedH vm₁ → Pre ⟨T.setVm vm₁, locs, cells, slots⟩ (Value.ref b :: argsL).toArray) :
    (∃ (v : Option Value) (vm₁ : Vm) (B : Pt), s.WarmedH vm₁ ∧ Stand p l e R s m args below meth c B.U B.locs B.cells B.slots ∧ Post ⟨T.setVm vm₁, locs, cells, slots⟩ (Value.ref b :: argsL).toArray v B ∧
      ∀ target, Steps p.tables e below (B.U.setTop { g with pc := g.pc + 3, stack := v.toList ++ rest }) target → Steps p.tables e below (T.setTop g) target) ∨
    (∃ (q : Addr) (vm₁ : Vm) (B : Pt), s.WarmedH vm₁ ∧ Stand p l e R s m args below meth c B.U B.locs B.cells B.slots ∧ PostX ⟨T.setVm vm₁, locs, cells, slots⟩ (Value.ref b :: argsL).toArray q B ∧
      Steps p.tables e below (T.setTop g) ((B.U.setTop { g with stack := rest }).pushFrame (.throwing q))) := by
  obtain ⟨mk, methM, hnamed, hmethM, hstM, habM⟩ := Cond.instanceMethod_spec hinst
  obtain ⟨m8, methM', cM, hn8, hmethM', -, -, -, -, -, -, hsigM⟩ := Cond.codeWith_spec hcode
  cases Option.some.inj (hn8.symm.trans hnamed)
  cases hmethM.symm.trans hmethM'
  obtain ⟨c2, r2, m2, q1, q2, q3, q4, kP, hkP, hkPi⟩ := Cond.selects_spec hsel
  cases hcls.symm.trans q1
  cases (State.methodFound?_of_named hnamed hy).symm.trans q2
  cases hnamed.symm.trans q3
  have hselP : selectMethod e.platform s.vm cellB.cls mk = .method mk := by rw [Launch.admits_selectMethod X.admits]; exact q4
  obtain ⟨vm₁, X₁, hstep₁⟩ := X.invokevirtual hexec hown hlink hnamed hmethM hstM hkP hkPi hy (a := b) (cell := cellB) hcell
    (fun z h => by rw [h] at hobj; cases hobj) hselP hmethM habM hkP hkPi (g := g) hg (argsL := argsL) (rest := rest) (hlen _ hsigM) hstack hdg
  rcases hK m meth c ⟨T.setVm vm₁, locs, cells, slots⟩ { g with stack := rest } (.invokevirtual index) mk (Value.ref b :: argsL).toArray X₁ hg hsize hdg hW (X₁.named hnamed) (hpre vm₁ X₁.warmed) with ⟨v, B, X', hpost, hsteps⟩ | ⟨q, B, X', hpost, hsteps⟩
  · exact Or.inl ⟨v, vm₁, B, X₁.warmed, X', hpost, fun target h => hstep₁ _ fun acts => by rw [doInvoke_state]; exact hsteps.trans h⟩
  · exact Or.inr ⟨q, vm₁, B, X₁.warmed, X', hpost, hstep₁ _ fun acts => by rw [doInvoke_state]; exact hsteps⟩
theorem vx_callSX (X : Stand p l e R s m args below meth c T locs cells slots) (hexec : p.tables.exec = Jvm.exec) {own : String} {index : Nat} {y : MethodName} {bytes : ByteArray} {maxL : Nat} {ret : Option FieldType} {hh : List (Nat × Nat × Nat × Nat)}
    (hown : s.vm.findClass own = some m.cls) (hlink : (Cond.methodLink own index y).before args s = true) (hstat : (Cond.static y).before args s = true) (hinit : (Cond.initialized y.cls).before args s = true)
    (hcode : (Cond.codeWith y bytes maxL ret hh).before args s = true) (hy : y.cls ≠ "java/lang/invoke/MethodHandle" ∧ y.cls ≠ "java/lang/invoke/VarHandle")
    {W9 : Nat} {Pre : Pt → Array Value → Prop} {Post : Pt → Array Value → Option Value → Pt → Prop} {PostX : Pt → Array Value → Addr → Pt → Prop} (hK : vx_Back l R p e below s args y 3 W9 Pre Post PostX)
    {g : JFrame} (hg : g.method = m) (hsize : g.locals.size = c.maxLocals) {argsL rest : List Value} (hlen : ∀ sig, parseMethodDescriptor y.desc = some sig → argsL.length = sig.parameters.length)
    (hstack : g.stack = argsL.reverse ++ rest) (hW : 2 * g.monitorRoom + (rest.map fun v => v.category).sum ≤ W9) (hdg : decode c.code g.pc = .ok (.invokestatic index, 3))
    (hpre : ∀ vm₁, s.WarmedH vm₁ → Pre ⟨T.setVm vm₁, locs, cells, slots⟩ argsL.toArray) :
    (∃ (v : Option Value) (vm₁ : Vm) (B : Pt), s.WarmedH vm₁ ∧ Stand p l e R s m args below meth c B.U B.locs B.cells B.slots ∧ Post ⟨T.setVm vm₁, locs, cells, slots⟩ argsL.toArray v B ∧
      ∀ target, Steps p.tables e below (B.U.setTop { g with pc := g.pc + 3, stack := v.toList ++ rest }) target → Steps p.tables e below (T.setTop g) target) ∨
    (∃ (q : Addr) (vm₁ : Vm) (B : Pt), s.WarmedH vm₁ ∧ Stand p l e R s m args below meth c B.U B.locs B.cells B.slots ∧ PostX ⟨T.setVm vm₁, locs, cells, slots⟩ argsL.toArray q B ∧
      Steps p.tables e below (T.setTop g) ((B.U.setTop { g with stack := rest }).pushFrame (.throwing q))) := by
  obtain ⟨mk, methM, cM, hnamed, hmethM, -, -, -, -, -, -, hsigM⟩ := Cond.codeWith_spec hcode
  have hstatic : methM.isStatic = true := Cond.static_spec hnamed hmethM hstat
  obtain ⟨kP, hkP, -⟩ := className_of_methodNamed hnamed
  have hinitP : kP.init = .initialized := Cond.initialized_spec (findClass_of_methodNamed hnamed) hkP hinit
  obtain ⟨vm₁, X₁, hstep₁⟩ := X.invokestatic hexec hown hlink hnamed hmethM hstatic hkP hinitP hy (g := g) hg (argsL := argsL) (rest := rest) (hlen _ hsigM) hstack hdg
  rcases hK m meth c ⟨T.setVm vm₁, locs, cells, slots⟩ { g with stack := rest } (.invokestatic index) mk argsL.toArray X₁ hg hsize hdg hW (X₁.named hnamed) (hpre vm₁ X₁.warmed) with ⟨v, B, X', hpost, hsteps⟩ | ⟨q, B, X', hpost, hsteps⟩
  · exact Or.inl ⟨v, vm₁, B, X₁.warmed, X', hpost, fun target h => hstep₁ _ fun acts => by rw [doInvoke_state]; exact hsteps.trans h⟩
  · exact Or.inr ⟨q, vm₁, B, X₁.warmed, X', hpost, hstep₁ _ fun acts => by rw [doInvoke_state]; exact hsteps⟩
theorem vx_callVW (X : Stand p l e R s m args below meth c T locs cells slots) (hexec : p.tables.exec = Jvm.exec) {own C : String} {index : Nat} {y : MethodName} {bytes : ByteArray} {maxL : Nat} {ret : Option FieldType} {hh : List (Nat × Nat × Nat × Nat)}
    (hown : s.vm.findClass own = some m.cls) (hlink : (Cond.methodLink own index y).before args s = true) (hinst : (Cond.instanceMethod y).before args s = true) (hsel : (Cond.selects C y y).before args s = true)
    (hcode : (Cond.codeWith y bytes maxL ret hh).before args s = true) (hy : y.cls ≠ "java/lang/invoke/MethodHandle" ∧ y.cls ≠ "java/lang/invoke/VarHandle")
    {W9 : Nat} {Pre : Pt → Array Value → Prop} {Post : Pt → Array Value → Option Value → Pt → Prop} (hK : Back l R p e below s args y 3 W9 Pre Post)
    {b : Addr} {cellB : Cell} (hcell : T.heap[b]? = some cellB) (hobj : cellB.vm.isStatics = false) (hcls : s.vm.findClass C = some cellB.cls)
    {g : JFrame} (hg : g.method = m) (hsize : g.locals.size = c.maxLocals) {argsL rest : List Value} (hlen : ∀ sig, parseMethodDescriptor y.desc = some sig → argsL.length = sig.parameters.length)
    (hstack : g.stack = argsL.reverse ++ .ref b :: rest) (hW : 2 * g.monitorRoom + (rest.map fun v => v.category).sum ≤ W9) (hdg : decode c.code g.pc = .ok (.invokevirtual index, 3))
    (hpre : ∀ vm₁, s.WarmedH vm₁ → Pre ⟨T.setVm vm₁, locs, cells, slots⟩ (Value.ref b :: argsL).toArray) :
    ∃ (v : Option Value) (vm₁ : Vm) (B : Pt), s.WarmedH vm₁ ∧ Stand p l e R s m args below meth c B.U B.locs B.cells B.slots ∧ Post ⟨T.setVm vm₁, locs, cells, slots⟩ (Value.ref b :: argsL).toArray v B ∧
      ∀ target, Steps p.tables e below (B.U.setTop { g with pc := g.pc + 3, stack := v.toList ++ rest }) target → Steps p.tables e below (T.setTop g) target := by
  obtain ⟨mk, methM, hnamed, hmethM, hstM, habM⟩ := Cond.instanceMethod_spec hinst
  obtain ⟨m8, methM', cM, hn8, hmethM', -, -, -, -, -, -, hsigM⟩ := Cond.codeWith_spec hcode
  cases Option.some.inj (hn8.symm.trans hnamed)
  cases hmethM.symm.trans hmethM'
  obtain ⟨c2, r2, m2, q1, q2, q3, q4, kP, hkP, hkPi⟩ := Cond.selects_spec hsel
  cases hcls.symm.trans q1
  cases (State.methodFound?_of_named hnamed hy).symm.trans q2
  cases hnamed.symm.trans q3
  have hselP : selectMethod e.platform s.vm cellB.cls mk = .method mk := by rw [Launch.admits_selectMethod X.admits]; exact q4
  obtain ⟨vm₁, X₁, hstep₁⟩ := X.invokevirtual hexec hown hlink hnamed hmethM hstM hkP hkPi hy (a := b) (cell := cellB) hcell
    (fun z h => by rw [h] at hobj; cases hobj) hselP hmethM habM hkP hkPi (g := g) hg (argsL := argsL) (rest := rest) (hlen _ hsigM) hstack hdg
  obtain ⟨v, B, X', hpost, hsteps⟩ := hK m meth c ⟨T.setVm vm₁, locs, cells, slots⟩ { g with stack := rest } (.invokevirtual index) mk (Value.ref b :: argsL).toArray X₁ hg hsize hdg hW (X₁.named hnamed) (hpre vm₁ X₁.warmed)
  exact ⟨v, vm₁, B, X₁.warmed, X', hpost, fun target h => hstep₁ _ fun acts => by rw [doInvoke_state]; exact hsteps.trans h⟩
abbrev vx_CVW (R : Room) (s : State) (args : Array Value) (own C : String) (index : Nat) (y : MethodName) (bytes : ByteArray) (maxL : Nat) (ret : Option FieldType) (hh : List (Nat × Nat × Nat × Nat)) (ws : List Cond) (rm : Room) (mc ms n : Nat) : Prop :=
  (rm.cells = mc ∧ rm.slots = ms ∧ rm.frames + 1 ≤ R.frames ∧ 8 + (maxL + 11) + rm.locals ≤ R.locals ∧ (∀ w ∈ ws, ∀ (a' : Array Value) (U : State), s.WarmedH U.vm → w.before a' U = true) ∧ Cond.codeWith y bytes maxL ret hh ∈ ws) ∧
  (Cond.codeWith y bytes maxL ret hh).before args s = true ∧ (Cond.initialized y.cls).before args s = true ∧ (y.cls ≠ "java/lang/invoke/MethodHandle" ∧ y.cls ≠ "java/lang/invoke/VarHandle") ∧
  (∀ sig, parseMethodDescriptor y.desc = some sig → n = sig.parameters.length) ∧ (Cond.methodLink own index y).before args s = true ∧ (Cond.instanceMethod y).before args s = true ∧ (Cond.selects C y y).before args s = true
theorem vx_cwVW {own C : String} {index maxL mc ms : Nat} {y : MethodName} {bytes : ByteArray} {ret : Option FieldType} {hh : List (Nat × Nat × Nat × Nat)} {Ts ws ws' : List Cond} {rm : Room} (n : Nat) (ht : ∀ w ∈ Ts, w.before args s = true) (hT : GoodIn Ts (wsV own index C y ws)) (hw : ws = Cond.codeWith y bytes maxL ret hh :: ws') (hrc : rm.cells = mc) (hrs : rm.slots = ms)
    (hd : y.cls = C ∧ y.cls ≠ "java/lang/invoke/MethodHandle" ∧ y.cls ≠ "java/lang/invoke/VarHandle" ∧ (parseMethodDescriptor y.desc).map (fun d => d.parameters.length) = some n) (hR : rm.frames + 1 ≤ R.frames ∧ 8 + (maxL + 11) + rm.locals ≤ R.locals) :
    vx_CVW R s args own C index y bytes maxL ret hh ws rm mc ms n := by
  obtain ⟨hC, hd⟩ := hd
  subst hC
  have ok : ∀ w ∈ wsV own index y.cls y ws, w.before args s = true := fun w h => ht w (hT w h).1
  have hG : GoodIn Ts ws := fun w h => hT w (by unfold wsV; exact List.mem_append_right _ h)
  have hc : Cond.codeWith y bytes maxL ret hh ∈ ws := by rw [hw]; exact List.mem_cons_self
  refine ⟨⟨hrc, hrs, hR.1, hR.2, pay_in ht hG, hc⟩, ht _ (hG _ hc).1, ok _ (by simp [wsV]), ⟨hd.1, hd.2.1⟩, fun sig h => ?_, ok _ (by simp [wsV]), ok _ (by simp [wsV]), ok _ (by simp [wsV])⟩
  have h2 := hd.2.2
  rw [h] at h2
  exact (Option.some.inj h2).symm
theorem vx_runVW {y : MethodName} {bytes cc : ByteArray} {maxL nL mc ms n index : Nat} {ret : Option FieldType} {hh : List (Nat × Nat × Nat × Nat)} {ws : List Cond} {rm : Room} {Pc : Array Value → State → Prop} {Qc : Array Value → State → Outcome → State → Prop} {free : Addr → Prop} {Ts : List Cond} {own C : String} {b : Addr} {As rest : List Value} {g : JFrame}
    (S : CallFix p m c cc nL s args Ts own) (hM : Met l y ws rm Pc Qc mc ms free) (cw : vx_CVW R s args own C index y bytes maxL ret hh ws rm mc ms n) (hp : PreV s H C b Pc As)
    (hg : g.method = m) (hn : As.length = n) (hsize : g.locals.size = nL) (hstack : g.stack = As.reverse ++ .ref b :: rest) (hW : 2 * g.monitorRoom + (rest.map fun v => v.category).sum ≤ 8) (hdg : decode cc g.pc = .ok (.invokevirtual index, 3)) (hf : cells + mc ≤ R.cells ∧ slots + ms ≤ R.slots) :
    va_Run p l e R s m args below meth c H locs cells slots mc ms g rest (Qc (Value.ref b :: As).toArray) free := by
  obtain ⟨⟨hrc, hrs, hfr, hlo, hws, hcw⟩, hcode, hini, hy, hlen, hl, hin, hse⟩ := cw
  have hK : Back l R p e below s args y 3 8 (PreOf R mc ms Pc) (PostOf Qc mc ms free) := va_backW (hh := hh) (bytes := bytes) (maxL := maxL) (ret := ret) hM hp.1 hrc hrs hfr hlo hws hcw (fun a' U hW => word_at hW (Or.inl (by first | rfl | simp [Cond.onTables, Cond.keeps, Cond.steady])) hini)
  obtain ⟨hx, hb, hml, ho, -⟩ := S
  obtain ⟨-, ⟨cellB, hcB, hoB, hclB⟩, hPc⟩ := hp
  intro T hT X
  obtain ⟨v, vm₁, ⟨U', l2, c2, s2⟩, hW₁, X', ⟨g', mk, t, L, e1, e2, hq, h1, hL, h2, h3⟩, st⟩ := vx_callVW X hx (C := C) (hh := hh) (bytes := bytes) (maxL := maxL) (ret := ret) ho hl hin hse hcode hy hK (by rw [hT]; exact hcB) hoB hclB hg (hsize.trans hml.symm) (argsL := As) (rest := rest) (fun sig h => hn.trans (hlen sig h)) hstack hW (by rw [hb]; exact hdg)
    (fun vm₁ hW₁ => ⟨hf.1, hf.2, hPc (T.setVm vm₁) hT hW₁⟩)
  dsimp only [Pt.U, Pt.locs, Pt.cells, Pt.slots] at X' e1 e2 h1 h2 h3 st
  subst h1; subst h2; subst h3
  exact ⟨v, (T.setVm vm₁).calling g' mk (Value.ref b :: As).toArray, t, U', L, hT, X', hL, e1, e2, hq, st⟩
section
variable {y : MethodName} {bytes cc : ByteArray} {maxL nL mc ms n index : Nat} {ret : Option FieldType} {ws : List Cond} {rm : Room} {Pc : Array Value → State → Prop} {Qc : Array Value → State → Outcome → State → Prop} {XC : String → State → State → Prop} {free : Addr → Prop} {Ts : List Cond} {own C : String} {b : Addr} {As rest : List Value} {g : JFrame}
theorem vx_runVX {hh : List (Nat × Nat × Nat × Nat)} (S : CallFix p m c cc nL s args Ts own) (hM : vx_Met l y ws rm Pc Qc XC mc ms free) (cw : vx_CVW R s args own C index y bytes maxL ret hh ws rm mc ms n) (hp : PreV s H C b Pc As)
    (hg : g.method = m) (hn : As.length = n) (hsize : g.locals.size = nL) (hstack : g.stack = As.reverse ++ .ref b :: rest) (hW : 2 * g.monitorRoom + (rest.map fun v => v.category).sum ≤ 8) (hdg : decode cc g.pc = .ok (.invokevirtual index, 3)) (hf : cells + mc ≤ R.cells ∧ slots + ms ≤ R.slots) :
    vx_Run p l e R s m args below meth c H locs cells slots mc ms g rest (Qc (Value.ref b :: As).toArray) XC free := by
  obtain ⟨⟨hrc, hrs, hfr, hlo, hws, hcw⟩, hcode, hini, hy, hlen, hl, hin, hse⟩ := cw
  have hK : vx_Back l R p e below s args y 3 8 (PreOf R mc ms Pc) (PostOf Qc mc ms free) (vx_Post XC mc ms free) := vx_backW (hh := hh) (bytes := bytes) (maxL := maxL) (ret := ret) hM hp.1 hrc hrs hfr hlo hws hcw (fun a' U hW => word_at hW (Or.inl (by first | rfl | simp [Cond.onTables, Cond.keeps, Cond.steady])) hini)
  obtain ⟨hx, hb, hml, ho, -⟩ := S
  obtain ⟨-, ⟨cellB, hcB, hoB, hclB⟩, hPc⟩ := hp
  intro T hT X
  rcases vx_callVX X hx (C := C) (hh := hh) (bytes := bytes) (maxL := maxL) (ret := ret) ho hl hin hse hcode hy hK (by rw [hT]; exact hcB) hoB hclB hg (hsize.trans hml.symm) (argsL := As) (rest := rest) (fun sig h => hn.trans (hlen sig h)) hstack hW (by rw [hb]; exact hdg)
    (fun vm₁ hW₁ => ⟨hf.1, hf.2, hPc (T.setVm vm₁) hT hW₁⟩) with ⟨v, vm₁, ⟨U', l2, c2, s2⟩, hW₁, X', ⟨g', mk, t, L, e1, e2, hq, h1, hL, h2, h3⟩, st⟩ | ⟨q, vm₁, ⟨U', l2, c2, s2⟩, hW₁, X', ⟨g', mk, t, L, E, ce, e1, e2, hq, hce, hcv, hcl, h1, hL, h2, h3⟩, st⟩
  · dsimp only [Pt.U, Pt.locs, Pt.cells, Pt.slots] at X' e1 e2 h1 h2 h3 st
    subst h1; subst h2; subst h3
    exact Or.inl ⟨v, (T.setVm vm₁).calling g' mk (Value.ref b :: As).toArray, t, U', L, hT, X', hL, e1, e2, hq, st⟩
  · dsimp only [Pt.U, Pt.locs, Pt.cells, Pt.slots] at X' e1 e2 h1 h2 h3 st hcl
    subst h1; subst h2; subst h3
    exact Or.inr ⟨q, (T.setVm vm₁).calling g' mk (Value.ref b :: As).toArray, t, U', L, E, ce, hT, X', hL, e1, e2, hq, hce, hcv, vx_cls hW₁ hcl, st⟩
theorem vx_runSX {hh : List (Nat × Nat × Nat × Nat)} (S : CallFix p m c cc nL s args Ts own) (hM : vx_Met l y ws rm Pc Qc XC mc ms free) (cw : vx_CSW R s args own index y bytes maxL ret hh ws rm mc ms n) (hp : PreS s H Pc As)
    (hg : g.method = m) (hn : As.length = n) (hsize : g.locals.size = nL) (hstack : g.stack = As.reverse ++ rest) (hW : 2 * g.monitorRoom + (rest.map fun v => v.category).sum ≤ 8) (hdg : decode cc g.pc = .ok (.invokestatic index, 3)) (hf : cells + mc ≤ R.cells ∧ slots + ms ≤ R.slots) :
    vx_Run p l e R s m args below meth c H locs cells slots mc ms g rest (Qc As.toArray) XC free := by
  obtain ⟨⟨hrc, hrs, hfr, hlo, hws, hcw⟩, hcode, hini, hy, hlen, hl, hstt⟩ := cw
  have hK : vx_Back l R p e below s args y 3 8 (PreOf R mc ms Pc) (PostOf Qc mc ms free) (vx_Post XC mc ms free) := vx_backW (hh := hh) (bytes := bytes) (maxL := maxL) (ret := ret) hM hp.1 hrc hrs hfr hlo hws hcw (fun a' U hW => word_at hW (Or.inl (by first | rfl | simp [Cond.onTables, Cond.keeps, Cond.steady])) hini)
  obtain ⟨hx, hb, hml, ho, -⟩ := S
  intro T hT X
  rcases vx_callSX X hx (hh := hh) (bytes := bytes) (maxL := maxL) (ret := ret) ho hl hstt hini hcode hy hK hg (hsize.trans hml.symm) (argsL := As) (rest := rest) (fun sig h => hn.trans (hlen sig h)) hstack hW (by rw [hb]; exact hdg)
    (fun vm₁ hW₁ => ⟨hf.1, hf.2, hp.2 (T.setVm vm₁) hT hW₁⟩) with ⟨v, vm₁, ⟨U', l2, c2, s2⟩, hW₁, X', ⟨g', mk, t, L, e1, e2, hq, h1, hL, h2, h3⟩, st⟩ | ⟨q, vm₁, ⟨U', l2, c2, s2⟩, hW₁, X', ⟨g', mk, t, L, E, ce, e1, e2, hq, hce, hcv, hcl, h1, hL, h2, h3⟩, st⟩
  · dsimp only [Pt.U, Pt.locs, Pt.cells, Pt.slots] at X' e1 e2 h1 h2 h3 st
    subst h1; subst h2; subst h3
    exact Or.inl ⟨v, (T.setVm vm₁).calling g' mk As.toArray, t, U', L, hT, X', hL, e1, e2, hq, st⟩
  · dsimp only [Pt.U, Pt.locs, Pt.cells, Pt.slots] at X' e1 e2 h1 h2 h3 st hcl
    subst h1; subst h2; subst h3
    exact Or.inr ⟨q, (T.setVm vm₁).calling g' mk As.toArray, t, U', L, E, ce, hT, X', hL, e1, e2, hq, hce, hcv, vx_cls hW₁ hcl, st⟩
end
end VXH
theorem vx_ofWH {l : Launch} {y : MethodName} {ws ws' : List Cond} {rm : Room} {Pc : Array Value → State → Prop} {Qc : Array Value → State → Outcome → State → Prop} {XC : String → State → State → Prop} {mc ms : Nat} {free : Addr → Prop} {cc : ByteArray} {maxL : Nat} {ret : Option FieldType} {hh : List (Nat × Nat × Nat × Nat)}
    (hy : plainName y.cls = true) (hw : ws = Cond.codeWith y cc maxL ret hh :: ws')
    (body : ∀ p e s m args below meth c s₁, BodyLoose p l y (headSpec ws rm) cc maxL ret e s m args below meth c s₁ → c.maxLocals = maxL → Pc args s →
      W p l e (headSpec ws rm).room s m args below meth c s.heap [] 0 0 (vx_MQ below Qc XC args s mc ms free) (entryFrame m args maxL)) : vx_Met l y ws rm Pc Qc XC mc ms free := by
  refine MetFree.of_bodyS (code := cc) (maxLocals := maxL) (ret := ret) hy ?_ ?_
  · intro args s m h hn
    obtain ⟨m9, meth, c, hn9, h1, h2, h3, h4, -, h5, h6, -⟩ := Cond.codeWith_spec (atoms_spec (ws := ws) h _ (by rw [hw]; exact List.mem_cons_self))
    cases hn.symm.trans hn9
    exact ⟨meth, c, h1, h2, h3, h4, h5, h6⟩
  · intro p e s m args below meth c s₁ B hml hP _
    have hh0 : s₁.heap = s.heap := by rw [B.state]; rfl
    obtain ⟨t, a1, o, b1, b2, b3⟩ := body p e s m args below meth c s₁ B hml hP s₁ hh0 (Stand.of_body B)
    exact ⟨t, o, a1, b1, b2, b3⟩
/-! ===== END ===== -/
/-! ===== BEGIN a constructor that throws (launches without stack traces) ===== -/
section VXIA
variable {p : Program} {l : Launch} {e : Env} {R : Room} {s : State} {m : MethodId} {args : Array Value} {below : List Frame} {meth : Method} {c : Code} {T : State} {locs : List Loc} {cells slots : Nat}
theorem vx_callI (X : Stand p l e R s m args below meth c T locs cells slots) (hexec : p.tables.exec = Jvm.exec) {own : String} {index : Nat} {y : MethodName} {bytes : ByteArray} {maxL : Nat}
    (hown : s.vm.findClass own = some m.cls) (hy1 : y.name = "<init>") (hlink : (Cond.methodLink own index y).before args s = true) (hinst : (Cond.instanceMethod y).before args s = true)
    (hcode : (Cond.code y bytes maxL none).before args s = true) (hy : y.cls ≠ "java/lang/invoke/MethodHandle" ∧ y.cls ≠ "java/lang/invoke/VarHandle")
    {W9 : Nat} {Pre : Pt → Array Value → Prop} {Post : Pt → Array Value → Option Value → Pt → Prop} {PostX : Pt → Array Value → Addr → Pt → Prop} (hK : vx_Back l R p e below s args y 3 W9 Pre Post PostX)
    {g : JFrame} (hg : g.method = m) (hsize : g.locals.size = c.maxLocals) {a : Addr} {argsL rest : List Value} (hlen : ∀ sig, parseMethodDescriptor y.desc = some sig → argsL.length = sig.parameters.length)
    (hstack : g.stack = argsL.reverse ++ .ref a :: rest) (hW : 2 * g.monitorRoom + (rest.map fun v => v.category).sum ≤ W9) (hdg : decode c.code g.pc = .ok (.invokespecial index, 3))
    (hpre : ∀ vm₁, s.WarmedH vm₁ → Pre ⟨T.setVm vm₁, locs, cells, slots⟩ (Value.ref a :: argsL).toArray) :
    (∃ (v : Option Value) (vm₁ : Vm) (B : Pt), s.WarmedH vm₁ ∧ Stand p l e R s m args below meth c B.U B.locs B.cells B.slots ∧ Post ⟨T.setVm vm₁, locs, cells, slots⟩ (Value.ref a :: argsL).toArray v B ∧
      ∀ target, Steps p.tables e below (B.U.setTop { g with pc := g.pc + 3, stack := v.toList ++ rest }) target → Steps p.tables e below (T.setTop g) target) ∨
    (∃ (q : Addr) (vm₁ : Vm) (B : Pt), s.WarmedH vm₁ ∧ Stand p l e R s m args below meth c B.U B.locs B.cells B.slots ∧ PostX ⟨T.setVm vm₁, locs, cells, slots⟩ (Value.ref a :: argsL).toArray q B ∧
      Steps p.tables e below (T.setTop g) ((B.U.setTop { g with stack := rest }).pushFrame (.throwing q))) := by
  subst hg
  have hpl : e.platform.magicAccessors = ({} : Platform).magicAccessors := by rw [X.admits.platform]
  obtain ⟨mk, methM, cM, kP, vm₁, hnamed, hmethM, hcodeM, -, hlocalsM, -, hkP, -, hW₁, hstep₁⟩ := Steps.initColdArgs (e := e) X.here hexec X.warmed hpl hown hy1 hy hlink hinst hcode (f := g) rfl hlen hstack hdg
  have X₁ := X.noted hW₁
  rcases hK g.method meth c ⟨T.setVm vm₁, locs, cells, slots⟩ { g with stack := rest } (.invokespecial index) mk (Value.ref a :: argsL).toArray X₁ rfl hsize hdg hW (X₁.named hnamed) (hpre vm₁ X₁.warmed) with ⟨v, B, X', hpost, hsteps⟩ | ⟨q, B, X', hpost, hsteps⟩
  · exact Or.inl ⟨v, vm₁, B, X₁.warmed, X', hpost, fun target h => hstep₁ _ fun acts => by rw [doInvoke_state]; exact hsteps.trans h⟩
  · exact Or.inr ⟨q, vm₁, B, X₁.warmed, X', hpost, hstep₁ _ fun acts => by rw [doInvoke_state]; exact hsteps⟩
end VXIA
section VXIB
variable {p : Program} {l : Launch} {e : Env} {R : Room} {s : State} {m : MethodId} {args : Array Value} {below : List Frame} {meth : Method} {c : Code} {H : Heap} {locs : List Loc} {cells slots : Nat}
variable {y : MethodName} {bytes cc : ByteArray} {maxL nL mc ms n index : Nat} {ret : Option FieldType} {ws : List Cond} {rm : Room} {Pc : Array Value → State → Prop} {Qc : Array Value → State → Outcome → State → Prop} {XC : String → State → State → Prop} {free : Addr → Prop} {Ts : List Cond} {own C : String} {b : Addr} {As rest : List Value} {g : JFrame}
theorem vx_runI (S : CallFix p m c cc nL s args Ts own) (hM : vx_Met l y ws rm Pc Qc XC mc ms free) (cw : CallB R s args own index y bytes maxL none ws rm mc ms n ∧ y.name = "<init>" ∧ (Cond.instanceMethod y).before args s = true) (hp : PreS s H Pc (.ref b :: As))
    (hg : g.method = m) (hn : As.length = n) (hsize : g.locals.size = nL) (hstack : g.stack = As.reverse ++ .ref b :: rest) (hW : 2 * g.monitorRoom + (rest.map fun v => v.category).sum ≤ 8) (hdg : decode cc g.pc = .ok (.invokespecial index, 3)) (hf : cells + mc ≤ R.cells ∧ slots + ms ≤ R.slots) :
    vx_Run p l e R s m args below meth c H locs cells slots mc ms g rest (Qc (Value.ref b :: As).toArray) XC free := by
  have hK : vx_Back l R p e below s args y 3 8 (PreOf R mc ms Pc) (PostOf Qc mc ms free) (vx_Post XC mc ms free) := vx_callBack cw.1 hM hp.1
  obtain ⟨⟨-, -, -, -, -, -, hcode, -, hy, hlen, hl⟩, hy1, hin⟩ := cw
  obtain ⟨hx, hb, hml, ho, -⟩ := S
  have hPc := hp.2
  intro T hT X
  rcases vx_callI X hx (bytes := bytes) (maxL := maxL) ho hy1 hl hin hcode hy hK hg (hsize.trans hml.symm) (a := b) (argsL := As) (rest := rest) (fun sig h => hn.trans (hlen sig h)) hstack hW (by rw [hb]; exact hdg)
    (fun vm₁ hW₁ => ⟨hf.1, hf.2, hPc (T.setVm vm₁) hT hW₁⟩) with ⟨v, vm₁, ⟨U', l2, c2, s2⟩, hW₁, X', ⟨g', mk, t, L, e1, e2, hq, h1, hL, h2, h3⟩, st⟩ | ⟨q, vm₁, ⟨U', l2, c2, s2⟩, hW₁, X', ⟨g', mk, t, L, E, ce, e1, e2, hq, hce, hcv, hcl, h1, hL, h2, h3⟩, st⟩
  · dsimp only [Pt.U, Pt.locs, Pt.cells, Pt.slots] at X' e1 e2 h1 h2 h3 st
    subst h1; subst h2; subst h3
    exact Or.inl ⟨v, (T.setVm vm₁).calling g' mk (Value.ref b :: As).toArray, t, U', L, hT, X', hL, e1, e2, hq, st⟩
  · dsimp only [Pt.U, Pt.locs, Pt.cells, Pt.slots] at X' e1 e2 h1 h2 h3 st hcl
    subst h1; subst h2; subst h3
    exact Or.inr ⟨q, (T.setVm vm₁).calling g' mk (Value.ref b :: As).toArray, t, U', L, E, ce, hT, X', hL, e1, e2, hq, hce, hcv, vx_cls hW₁ hcl, st⟩
end VXIB
/-! ===== END ===== -/
/-! ===== BEGIN a private constructor of a nest mate that throws ===== -/
section VXIC
variable {p : Program} {l : Launch} {e : Env} {R : Room} {s : State} {m : MethodId} {args : Array Value} {below : List Frame} {meth : Method} {c : Code} {T : State} {locs : List Loc} {cells slots : Nat}
theorem vx_callIN (X : Stand p l e R s m args below meth c T locs cells slots) (hexec : p.tables.exec = Jvm.exec) {own : String} {index : Nat} {host : String} {y : MethodName} {bytes : ByteArray} {maxL : Nat}
    (hown : s.vm.findClass own = some m.cls) (hy1 : y.name = "<init>") (hlink : (Cond.methodLinkNest own index y host).before args s = true) (hinst : (Cond.instanceMethod y).before args s = true)
    (hcode : (Cond.code y bytes maxL none).before args s = true) (hy : y.cls ≠ "java/lang/invoke/MethodHandle" ∧ y.cls ≠ "java/lang/invoke/VarHandle")
    {W9 : Nat} {Pre : Pt → Array Value → Prop} {Post : Pt → Array Value → Option Value → Pt → Prop} {PostX : Pt → Array Value → Addr → Pt → Prop} (hK : vx_Back l R p e below s args y 3 W9 Pre Post PostX)
    {g : JFrame} (hg : g.method = m) (hsize : g.locals.size = c.maxLocals) {a : Addr} {argsL rest : List Value} (hlen : ∀ sig, parseMethodDescriptor y.desc = some sig → argsL.length = sig.parameters.length)
    (hstack : g.stack = argsL.reverse ++ .ref a :: rest) (hW : 2 * g.monitorRoom + (rest.map fun v => v.category).sum ≤ W9) (hdg : decode c.code g.pc = .ok (.invokespecial index, 3))
    (hpre : ∀ vm₁, s.WarmedH vm₁ → Pre ⟨T.setVm vm₁, locs, cells, slots⟩ (Value.ref a :: argsL).toArray) :
    (∃ (v : Option Value) (vm₁ : Vm) (B : Pt), s.WarmedH vm₁ ∧ Stand p l e R s m args below meth c B.U B.locs B.cells B.slots ∧ Post ⟨T.setVm vm₁, locs, cells, slots⟩ (Value.ref a :: argsL).toArray v B ∧
      ∀ target, Steps p.tables e below (B.U.setTop { g with pc := g.pc + 3, stack := v.toList ++ rest }) target → Steps p.tables e below (T.setTop g) target) ∨
    (∃ (q : Addr) (vm₁ : Vm) (B : Pt), s.WarmedH vm₁ ∧ Stand p l e R s m args below meth c B.U B.locs B.cells B.slots ∧ PostX ⟨T.setVm vm₁, locs, cells, slots⟩ (Value.ref a :: argsL).toArray q B ∧
      Steps p.tables e below (T.setTop g) ((B.U.setTop { g with stack := rest }).pushFrame (.throwing q))) := by
  subst hg
  have hpl : e.platform.magicAccessors = ({} : Platform).magicAccessors := by rw [X.admits.platform]
  obtain ⟨mk, methM, cM, kP, vm₁, hnamed, hmethM, hcodeM, -, hlocalsM, -, hkP, -, hW₁, hstep₁⟩ := Steps.initColdArgsNest (e := e) X.here hexec X.warmed hpl hown hy1 hy hlink hinst hcode (f := g) rfl hlen hstack hdg
  have X₁ := X.noted hW₁
  rcases hK g.method meth c ⟨T.setVm vm₁, locs, cells, slots⟩ { g with stack := rest } (.invokespecial index) mk (Value.ref a :: argsL).toArray X₁ rfl hsize hdg hW (X₁.named hnamed) (hpre vm₁ X₁.warmed) with ⟨v, B, X', hpost, hsteps⟩ | ⟨q, B, X', hpost, hsteps⟩
  · exact Or.inl ⟨v, vm₁, B, X₁.warmed, X', hpost, fun target h => hstep₁ _ fun acts => by rw [doInvoke_state]; exact hsteps.trans h⟩
  · exact Or.inr ⟨q, vm₁, B, X₁.warmed, X', hpost, hstep₁ _ fun acts => by rw [doInvoke_state]; exact hsteps⟩
end VXIC
section VXID
variable {p : Program} {l : Launch} {e : Env} {R : Room} {s : State} {m : MethodId} {args : Array Value} {below : List Frame} {meth : Method} {c : Code} {H : Heap} {locs : List Loc} {cells slots : Nat}
theorem vx_runIN {y : MethodName} {bytes cc : ByteArray} {maxL nL mc ms n index : Nat} {ws : List Cond} {rm : Room} {Pc : Array Value → State → Prop} {Qc : Array Value → State → Outcome → State → Prop} {XC : String → State → State → Prop} {free : Addr → Prop} {Ts : List Cond} {own host : String} {b : Addr} {As rest : List Value} {g : JFrame}
    (S : CallFix p m c cc nL s args Ts own) (hM : vx_Met l y ws rm Pc Qc XC mc ms free) (cw : va_CN R s args own index y host bytes maxL none ws rm mc ms n ∧ y.name = "<init>" ∧ (Cond.instanceMethod y).before args s = true) (hp : PreS s H Pc (.ref b :: As))
    (hg : g.method = m) (hn : As.length = n) (hsize : g.locals.size = nL) (hstack : g.stack = As.reverse ++ .ref b :: rest) (hW : 2 * g.monitorRoom + (rest.map fun v => v.category).sum ≤ 8) (hdg : decode cc g.pc = .ok (.invokespecial index, 3)) (hf : cells + mc ≤ R.cells ∧ slots + ms ≤ R.slots) :
    vx_Run p l e R s m args below meth c H locs cells slots mc ms g rest (Qc (Value.ref b :: As).toArray) XC free := by
  obtain ⟨⟨⟨hrc, hrs, hfr, hlo, hws, hcw⟩, hcode, hini, hy, hlen, hl⟩, hx1, hx2⟩ := cw
  have hK : vx_Back l R p e below s args y 3 8 (PreOf R mc ms Pc) (PostOf Qc mc ms free) (vx_Post XC mc ms free) := vx_back (bytes := bytes) (maxL := maxL) (ret := none) hM hp.1 hrc hrs hfr hlo hws hcw (fun a' U hW => word_at hW (Or.inl (by first | rfl | simp [Cond.onTables, Cond.keeps, Cond.steady])) hini)
  obtain ⟨hx, hb, hml, ho, -⟩ := S
  have hPc := hp.2
  intro T hT X
  rcases vx_callIN X hx (bytes := bytes) (maxL := maxL) ho hx1 hl hx2 hcode hy hK hg (hsize.trans hml.symm) (a := b) (argsL := As) (rest := rest) (fun sig h => hn.trans (hlen sig h)) hstack hW (by rw [hb]; exact hdg)
    (fun vm₁ hW₁ => ⟨hf.1, hf.2, hPc (T.setVm vm₁) hT hW₁⟩) with ⟨v, vm₁, ⟨U', l2, c2, s2⟩, hW₁, X', ⟨g', mk, t, L, e1, e2, hq, h1, hL, h2, h3⟩, st⟩ | ⟨q, vm₁, ⟨U', l2, c2, s2⟩, hW₁, X', ⟨g', mk, t, L, E, ce, e1, e2, hq, hce, hcv, hcl, h1, hL, h2, h3⟩, st⟩
  · dsimp only [Pt.U, Pt.locs, Pt.cells, Pt.slots] at X' e1 e2 h1 h2 h3 st
    subst h1; subst h2; subst h3
    exact Or.inl ⟨v, (T.setVm vm₁).calling g' mk (Value.ref b :: As).toArray, t, U', L, hT, X', hL, e1, e2, hq, st⟩
  · dsimp only [Pt.U, Pt.locs, Pt.cells, Pt.slots] at X' e1 e2 h1 h2 h3 st hcl
    subst h1; subst h2; subst h3
    exact Or.inr ⟨q, (T.setVm vm₁).calling g' mk (Value.ref b :: As).toArray, t, U', L, E, ce, hT, X', hL, e1, e2, hq, hce, hcv, vx_cls hW₁ hcl, st⟩
end VXID
/-! ===== END ===== -/
/-! ===== BEGIN a private method of a nest mate that may throw (follows va_callVN, va_callSN, va_runVN, va_runSN) ===== -/
section
variable {p : Program} {l : Launch} {e : Env} {R : Room} {s : State} {m : MethodId} {args : Array Value} {below : List Frame} {meth : Method} {c : Code} {H : Heap} {locs : List Loc} {cells slots : Nat}
variable {T : State}
theorem vx_callVN (X : Stand p l e R s m args below meth c T locs cells slots) (hexec : p.tables.exec = Jvm.exec) {own C : String} {index : Nat} {host : String} {y : MethodName} {bytes : ByteArray} {maxL : Nat} {ret : Option FieldType}
    (hown : s.vm.findClass own = some m.cls) (hlink : (Cond.methodLinkNest own index y host).before args s = true) (hinst : (Cond.instanceMethod y).before args s = true) (hsel : (Cond.selects C y y).before args s = true)
    (hcode : (Cond.code y bytes maxL ret).before args s = true) (hy : y.cls ≠ "java/lang/invoke/MethodHandle" ∧ y.cls ≠ "java/lang/invoke/VarHandle")
    {W : Nat} {Pre : Pt → Array Value → Prop} {Post : Pt → Array Value → Option Value → Pt → Prop} {PostX : Pt → Array Value → Addr → Pt → Prop} (hK : vx_Back l R p e below s args y 3 W Pre Post PostX)
    {b : Addr} {cellB : Cell} (hcell : T.heap[b]? = some cellB) (hobj : cellB.vm.isStatics = false) (hcls : s.vm.findClass C = some cellB.cls)
    {g : JFrame} (hg : g.method = m) (hsize : g.locals.size = c.maxLocals) {argsL rest : List Value} (hlen : ∀ sig, parseMethodDescriptor y.desc = some sig → argsL.length = sig.parameters.length)
    (hstack : g.stack = argsL.reverse ++ .ref b :: rest) (hW : 2 * g.monitorRoom + (rest.map fun v => v.category).sum ≤ W) (hdg : decode c.code g.pc = .ok (.invokevirtual index, 3))
    (hpre : ∀ vm₁, s.WarmedH vm₁ → Pre ⟨T.setVm vm₁, locs, cells, slots⟩ (Value.ref b :: argsL).toArray) :
    (∃ (v : Option Value) (vm₁ : Vm) (B : Pt), s.WarmedH vm₁ ∧ Stand p l e R s m args below meth c B.U B.locs B.cells B.slots ∧ Post ⟨T.setVm vm₁, locs, cells, slots⟩ (Value.ref b :: argsL).toArray v B ∧
      ∀ target, Steps p.tables e below (B.U.setTop { g with pc := g.pc + 3, stack := v.toList ++ rest }) target → Steps p.tables e below (T.setTop g) target) ∨
    (∃ (q : Addr) (vm₁ : Vm) (B : Pt), s.WarmedH vm₁ ∧ Stand p l e R s m args below meth c B.U B.locs B.cells B.slots ∧ PostX ⟨T.setVm vm₁, locs, cells, slots⟩ (Value.ref b :: argsL).toArray q B ∧
      Steps p.tables e below (T.setTop g) ((B.U.setTop { g with stack := rest }).pushFrame (.throwing q))) := by
  obtain ⟨mk, methM, hnamed, hmethM, hstM, habM⟩ := Cond.instanceMethod_spec hinst
  obtain ⟨methM', cM, hmethM', -, -, -, -, -, -, hsigM⟩ := Cond.code_spec hnamed hcode
  cases hmethM.symm.trans hmethM'
  obtain ⟨c2, r2, m2, q1, q2, q3, q4, kP, hkP, hkPi⟩ := Cond.selects_spec hsel
  cases hcls.symm.trans q1
  cases (State.methodFound?_of_named hnamed hy).symm.trans q2
  cases hnamed.symm.trans q3
  have hselP : selectMethod e.platform s.vm cellB.cls mk = .method mk := by rw [Launch.admits_selectMethod X.admits]; exact q4
  obtain ⟨vm₁, X₁, hstep₁⟩ := X.invokevirtualNest hexec hown hlink hnamed hmethM hstM hkP hkPi hy (a := b) (cell := cellB) hcell
    (fun z h => by rw [h] at hobj; cases hobj) hselP hmethM habM hkP hkPi (g := g) hg (argsL := argsL) (rest := rest) (hlen _ hsigM) hstack hdg
  rcases hK m meth c ⟨T.setVm vm₁, locs, cells, slots⟩ { g with stack := rest } (.invokevirtual index) mk (Value.ref b :: argsL).toArray X₁ hg hsize hdg hW (X₁.named hnamed) (hpre vm₁ X₁.warmed) with ⟨v, B, X', hpost, hsteps⟩ | ⟨q, B, X', hpost, hsteps⟩
  · exact Or.inl ⟨v, vm₁, B, X₁.warmed, X', hpost, fun target h => hstep₁ _ fun acts => by rw [doInvoke_state]; exact hsteps.trans h⟩
  · exact Or.inr ⟨q, vm₁, B, X₁.warmed, X', hpost, hstep₁ _ fun acts => by rw [doInvoke_state]; exact hsteps⟩
theorem vx_callSN (X : Stand p l e R s m args below meth c T locs cells slots) (hexec : p.tables.exec = Jvm.exec) {own : String} {index : Nat} {host : String} {y : MethodName} {bytes : ByteArray} {maxL : Nat} {ret : Option FieldType}
    (hown : s.vm.findClass own = some m.cls) (hlink : (Cond.methodLinkNest own index y host).before args s = true) (hstat : (Cond.static y).before args s = true) (hinit : (Cond.initialized y.cls).before args s = true)
    (hcode : (Cond.code y bytes maxL ret).before args s = true) (hy : y.cls ≠ "java/lang/invoke/MethodHandle" ∧ y.cls ≠ "java/lang/invoke/VarHandle")
    {W : Nat} {Pre : Pt → Array Value → Prop} {Post : Pt → Array Value → Option Value → Pt → Prop} {PostX : Pt → Array Value → Addr → Pt → Prop} (hK : vx_Back l R p e below s args y 3 W Pre Post PostX)
    {g : JFrame} (hg : g.method = m) (hsize : g.locals.size = c.maxLocals) {argsL rest : List Value} (hlen : ∀ sig, parseMethodDescriptor y.desc = some sig → argsL.length = sig.parameters.length)
    (hstack : g.stack = argsL.reverse ++ rest) (hW : 2 * g.monitorRoom + (rest.map fun v => v.category).sum ≤ W) (hdg : decode c.code g.pc = .ok (.invokestatic index, 3))
    (hpre : ∀ vm₁, s.WarmedH vm₁ → Pre ⟨T.setVm vm₁, locs, cells, slots⟩ argsL.toArray) :
    (∃ (v : Option Value) (vm₁ : Vm) (B : Pt), s.WarmedH vm₁ ∧ Stand p l e R s m args below meth c B.U B.locs B.cells B.slots ∧ Post ⟨T.setVm vm₁, locs, cells, slots⟩ argsL.toArray v B ∧
      ∀ target, Steps p.tables e below (B.U.setTop { g with pc := g.pc + 3, stack := v.toList ++ rest }) target → Steps p.tables e below (T.setTop g) target) ∨
    (∃ (q : Addr) (vm₁ : Vm) (B : Pt), s.WarmedH vm₁ ∧ Stand p l e R s m args below meth c B.U B.locs B.cells B.slots ∧ PostX ⟨T.setVm vm₁, locs, cells, slots⟩ argsL.toArray q B ∧
      Steps p.tables e below (T.setTop g) ((B.U.setTop { g with stack := rest }).pushFrame (.throwing q))) := by
  obtain ⟨mk, hnamed⟩ := Cond.code_named hcode
  obtain ⟨methM, cM, hmethM, -, -, -, -, -, -, hsigM⟩ := Cond.code_spec hnamed hcode
  have hstatic : methM.isStatic = true := Cond.static_spec hnamed hmethM hstat
  obtain ⟨kP, hkP, -⟩ := className_of_methodNamed hnamed
  have hinitP : kP.init = .initialized := Cond.initialized_spec (findClass_of_methodNamed hnamed) hkP hinit
  obtain ⟨vm₁, X₁, hstep₁⟩ := X.invokestaticNest hexec hown hlink hnamed hmethM hstatic hkP hinitP hy (g := g) hg (argsL := argsL) (rest := rest) (hlen _ hsigM) hstack hdg
  rcases hK m meth c ⟨T.setVm vm₁, locs, cells, slots⟩ { g with stack := rest } (.invokestatic index) mk argsL.toArray X₁ hg hsize hdg hW (X₁.named hnamed) (hpre vm₁ X₁.warmed) with ⟨v, B, X', hpost, hsteps⟩ | ⟨q, B, X', hpost, hsteps⟩
  · exact Or.inl ⟨v, vm₁, B, X₁.warmed, X', hpost, fun target h => hstep₁ _ fun acts => by rw [doInvoke_state]; exact hsteps.trans h⟩
  · exact Or.inr ⟨q, vm₁, B, X₁.warmed, X', hpost, hstep₁ _ fun acts => by rw [doInvoke_state]; exact hsteps⟩
theorem vx_runVN {y : MethodName} {bytes cc : ByteArray} {maxL nL mc ms n index : Nat} {ret : Option FieldType} {ws : List Cond} {rm : Room} {Pc : Array Value → State → Prop} {Qc : Array Value → State → Outcome → State → Prop} {XC : String → State → State → Prop} {free : Addr → Prop} {Ts : List Cond} {own C host : String} {b : Addr} {As rest : List Value} {g : JFrame}
    (S : CallFix p m c cc nL s args Ts own) (hM : vx_Met l y ws rm Pc Qc XC mc ms free) (cw : va_CN R s args own index y host bytes maxL ret ws rm mc ms n ∧ (Cond.instanceMethod y).before args s = true ∧ (Cond.selects C y y).before args s = true) (hp : PreV s H C b Pc As)
    (hg : g.method = m) (hn : As.length = n) (hsize : g.locals.size = nL) (hstack : g.stack = As.reverse ++ .ref b :: rest) (hW : 2 * g.monitorRoom + (rest.map fun v => v.category).sum ≤ 8) (hdg : decode cc g.pc = .ok (.invokevirtual index, 3)) (hf : cells + mc ≤ R.cells ∧ slots + ms ≤ R.slots) :
    vx_Run p l e R s m args below meth c H locs cells slots mc ms g rest (Qc (Value.ref b :: As).toArray) XC free := by
  obtain ⟨⟨⟨hrc, hrs, hfr, hlo, hws, hcw⟩, hcode, hini, hy, hlen, hl⟩, hx1, hx2⟩ := cw
  have hK : vx_Back l R p e below s args y 3 8 (PreOf R mc ms Pc) (PostOf Qc mc ms free) (vx_Post XC mc ms free) := vx_back (bytes := bytes) (maxL := maxL) (ret := ret) hM hp.1 hrc hrs hfr hlo hws hcw (fun a' U hW => word_at hW (Or.inl (by first | rfl | simp [Cond.onTables, Cond.keeps, Cond.steady])) hini)
  obtain ⟨hx, hb, hml, ho, -⟩ := S
  obtain ⟨-, ⟨cellB, hcB, hoB, hclB⟩, hPc⟩ := hp
  intro T hT X
  rcases vx_callVN X hx (C := C) (bytes := bytes) (maxL := maxL) (ret := ret) ho hl hx1 hx2 hcode hy hK (by rw [hT]; exact hcB) hoB hclB hg (hsize.trans hml.symm) (argsL := As) (rest := rest) (fun sig h => hn.trans (hlen sig h)) hstack hW (by rw [hb]; exact hdg)
    (fun vm₁ hW₁ => ⟨hf.1, hf.2, hPc (T.setVm vm₁) hT hW₁⟩) with ⟨v, vm₁, ⟨U', l2, c2, s2⟩, hW₁, X', ⟨g', mk, t, L, e1, e2, hq, h1, hL, h2, h3⟩, st⟩ | ⟨q, vm₁, ⟨U', l2, c2, s2⟩, hW₁, X', ⟨g', mk, t, L, E, ce, e1, e2, hq, hce, hcv, hcl, h1, hL, h2, h3⟩, st⟩
  · dsimp only [Pt.U, Pt.locs, Pt.cells, Pt.slots] at X' e1 e2 h1 h2 h3 st
    subst h1; subst h2; subst h3
    exact Or.inl ⟨v, (T.setVm vm₁).calling g' mk (Value.ref b :: As).toArray, t, U', L, hT, X', hL, e1, e2, hq, st⟩
  · dsimp only [Pt.U, Pt.locs, Pt.cells, Pt.slots] at X' e1 e2 h1 h2 h3 st hcl
    subst h1; subst h2; subst h3
    exact Or.inr ⟨q, (T.setVm vm₁).calling g' mk (Value.ref b :: As).toArray, t, U', L, E, ce, hT, X', hL, e1, e2, hq, hce, hcv, vx_cls hW₁ hcl, st⟩
theorem vx_runSN {y : MethodName} {bytes cc : ByteArray} {maxL nL mc ms n index : Nat} {ret : Option FieldType} {ws : List Cond} {rm : Room} {Pc : Array Value → State → Prop} {Qc : Array Value → State → Outcome → State → Prop} {XC : String → State → State → Prop} {free : Addr → Prop} {Ts : List Cond} {own host : String} {As rest : List Value} {g : JFrame}
    (S : CallFix p m c cc nL s args Ts own) (hM : vx_Met l y ws rm Pc Qc XC mc ms free) (cw : va_CN R s args own index y host bytes maxL ret ws rm mc ms n ∧ (Cond.static y).before args s = true ∧ True) (hp : PreS s H Pc As)
    (hg : g.method = m) (hn : As.length = n) (hsize : g.locals.size = nL) (hstack : g.stack = As.reverse ++ rest) (hW : 2 * g.monitorRoom + (rest.map fun v => v.category).sum ≤ 8) (hdg : decode cc g.pc = .ok (.invokestatic index, 3)) (hf : cells + mc ≤ R.cells ∧ slots + ms ≤ R.slots) :
    vx_Run p l e R s m args below meth c H locs cells slots mc ms g rest (Qc As.toArray) XC free := by
  obtain ⟨⟨⟨hrc, hrs, hfr, hlo, hws, hcw⟩, hcode, hini, hy, hlen, hl⟩, hx1, hx2⟩ := cw
  have hK : vx_Back l R p e below s args y 3 8 (PreOf R mc ms Pc) (PostOf Qc mc ms free) (vx_Post XC mc ms free) := vx_back (bytes := bytes) (maxL := maxL) (ret := ret) hM hp.1 hrc hrs hfr hlo hws hcw (fun a' U hW => word_at hW (Or.inl (by first | rfl | simp [Cond.onTables, Cond.keeps, Cond.steady])) hini)
  obtain ⟨hx, hb, hml, ho, -⟩ := S
  have hPc := hp.2
  intro T hT X
  rcases vx_callSN X hx (bytes := bytes) (maxL := maxL) (ret := ret) ho hl hx1 hini hcode hy hK hg (hsize.trans hml.symm) (argsL := As) (rest := rest) (fun sig h => hn.trans (hlen sig h)) hstack hW (by rw [hb]; exact hdg)
    (fun vm₁ hW₁ => ⟨hf.1, hf.2, hPc (T.setVm vm₁) hT hW₁⟩) with ⟨v, vm₁, ⟨U', l2, c2, s2⟩, hW₁, X', ⟨g', mk, t, L, e1, e2, hq, h1, hL, h2, h3⟩, st⟩ | ⟨q, vm₁, ⟨U', l2, c2, s2⟩, hW₁, X', ⟨g', mk, t, L, E, ce, e1, e2, hq, hce, hcv, hcl, h1, hL, h2, h3⟩, st⟩
  · dsimp only [Pt.U, Pt.locs, Pt.cells, Pt.slots] at X' e1 e2 h1 h2 h3 st
    subst h1; subst h2; subst h3
    exact Or.inl ⟨v, (T.setVm vm₁).calling g' mk As.toArray, t, U', L, hT, X', hL, e1, e2, hq, st⟩
  · dsimp only [Pt.U, Pt.locs, Pt.cells, Pt.slots] at X' e1 e2 h1 h2 h3 st hcl
    subst h1; subst h2; subst h3
    exact Or.inr ⟨q, (T.setVm vm₁).calling g' mk As.toArray, t, U', L, E, ce, hT, X', hL, e1, e2, hq, hce, hcv, vx_cls hW₁ hcl, st⟩
end
/-! ===== END ===== -/
end
section
/-! arrays of arrays of arrays: 'multianewarray' of three dimensions; and rows for two and three that say nothing of what is made (it is only kept) -/
section XG
def xg_out (c : ClassId) (N h0 w : Nat) : Nat → Cell
  | 0 => { cls := c, slots := Array.replicate N .null, vm := .none }
  | i + 1 => (xg_out c N h0 w i).setSlot i (.ref (h0 + 1 + i * w))
def xg_fill (s : State) (c comp comp2 : ClassId) (N M K : Nat) (dv : Value) : Nat → State
  | 0 => s.pushCell (xg_out c N s.heap.size (1 + M) 0)
  | i + 1 => (Jvm.Free.Multi.fill (xg_fill s c comp comp2 N M K dv i) comp comp2 M K dv M).setCell s.heap.size (xg_out c N s.heap.size (1 + M) (i + 1))
theorem xg_out_facts (c : ClassId) (N h0 w : Nat) : ∀ i, (xg_out c N h0 w i).cls = c ∧ (xg_out c N h0 w i).vm = .none ∧ (xg_out c N h0 w i).slots.size = N
  | 0 => ⟨rfl, rfl, by simp [xg_out]⟩
  | i + 1 => by
    obtain ⟨a, b, d⟩ := xg_out_facts c N h0 w i
    exact ⟨by simp [xg_out, Cell.setSlot, a], by simp [xg_out, Cell.setSlot, b], by simp [xg_out, Cell.setSlot, d]⟩
theorem xg_facts (s : State) (c comp comp2 : ClassId) (N M K : Nat) (dv : Value) : ∀ i, (xg_fill s c comp comp2 N M K dv i).heap.size = s.heap.size + 1 + i * (1 + M) ∧ (xg_fill s c comp comp2 N M K dv i).heap[s.heap.size]? = some (xg_out c N s.heap.size (1 + M) i) ∧
    (xg_fill s c comp comp2 N M K dv i).vm = s.vm ∧ (xg_fill s c comp comp2 N M K dv i).slotsUsed = s.slotsUsed + N + i * (M + M * K)
  | 0 => ⟨by simp [xg_fill], by simp [xg_fill], rfl, by simp [xg_fill, xg_out]⟩
  | i + 1 => by
    obtain ⟨a, b, d, u⟩ := xg_facts s c comp comp2 N M K dv i
    obtain ⟨f1, -, f3, f4⟩ := Jvm.Free.Multi.fill_facts (xg_fill s c comp comp2 N M K dv i) comp comp2 M K dv M
    have hlt : s.heap.size < (xg_fill s c comp comp2 N M K dv i).heap.size := by omega
    have hb' : (Jvm.Free.Multi.fill (xg_fill s c comp comp2 N M K dv i) comp comp2 M K dv M).heap[s.heap.size]? = some (xg_out c N s.heap.size (1 + M) i) := by
      rw [Jvm.Free.Multi.fill_old (xg_fill s c comp comp2 N M K dv i) comp comp2 M K dv hlt M]; exact b
    refine ⟨?_, State.heap_setCell_self hb', ?_, ?_⟩
    · show ((Jvm.Free.Multi.fill _ _ _ _ _ _ _).setCell _ _).heap.size = _
      rw [size_setCell, f1, a, Nat.succ_mul]; omega
    · show (Jvm.Free.Multi.fill _ _ _ _ _ _ _).vm = _
      rw [f3, d]
    · show (Jvm.Free.Multi.fill _ _ _ _ _ _ _).slotsUsed = _
      rw [f4, u, Nat.succ_mul]; omega
theorem xg_mid (s : State) (c comp comp2 : ClassId) (N M K : Nat) (dv : Value) : ∀ i j, j < i → (xg_fill s c comp comp2 N M K dv i).heap[s.heap.size + 1 + j * (1 + M)]? = some (Jvm.Free.Multi.outerC comp M (s.heap.size + 1 + j * (1 + M)) M) ∧
    ∀ q, q < M → (xg_fill s c comp comp2 N M K dv i).heap[s.heap.size + 1 + j * (1 + M) + 1 + q]? = some (Jvm.Free.Multi.innerC comp2 K dv)
  | 0, j, h => by omega
  | i + 1, j, h => by
    obtain ⟨f1, f2, -, -⟩ := xg_facts s c comp comp2 N M K dv i
    have hlt0 : s.heap.size < (xg_fill s c comp comp2 N M K dv i).heap.size := by omega
    have hne : ∀ x : Nat, x ≠ s.heap.size → (xg_fill s c comp comp2 N M K dv (i + 1)).heap[x]? = (Jvm.Free.Multi.fill (xg_fill s c comp comp2 N M K dv i) comp comp2 M K dv M).heap[x]? := fun x hx => by
      show ((Jvm.Free.Multi.fill _ _ _ _ _ _ _).setCell s.heap.size _).heap[x]? = _
      rw [State.heap_setCell_other (Ne.symm hx)]
    by_cases e : j = i
    · subst e
      obtain ⟨-, g2, -, -⟩ := Jvm.Free.Multi.fill_facts (xg_fill s c comp comp2 N M K dv j) comp comp2 M K dv M
      refine ⟨?_, fun q hq => ?_⟩
      · rw [hne _ (by omega), ← f1]
        exact g2
      · rw [hne _ (by omega), ← f1]
        exact Jvm.Free.Multi.fill_inner (xg_fill s c comp comp2 N M K dv j) comp comp2 M K dv M q hq
    · have hji : j < i := by omega
      obtain ⟨g1, g2⟩ := xg_mid s c comp comp2 N M K dv i j hji
      have hb : j * (1 + M) + (1 + M) ≤ i * (1 + M) := by
        have := Nat.mul_le_mul_right (1 + M) (show j + 1 ≤ i from hji)
        rw [Nat.succ_mul] at this
        exact this
      refine ⟨?_, fun q hq => ?_⟩
      · rw [hne _ (by omega), Jvm.Free.Multi.fill_old (xg_fill s c comp comp2 N M K dv i) comp comp2 M K dv (a := s.heap.size + 1 + j * (1 + M)) (show (s.heap.size + 1 + j * (1 + M) : Nat) < _ by rw [f1]; omega) M]
        exact g1
      · rw [hne _ (by omega), Jvm.Free.Multi.fill_old (xg_fill s c comp comp2 N M K dv i) comp comp2 M K dv (a := s.heap.size + 1 + j * (1 + M) + 1 + q) (show (s.heap.size + 1 + j * (1 + M) + 1 + q : Nat) < _ by rw [f1]; omega) M]
        exact g2 q hq
theorem xg_setTop (s : State) (f : JFrame) (c comp comp2 : ClassId) (N M K : Nat) (dv : Value) : ∀ i, xg_fill (s.setTop f) c comp comp2 N M K dv i = (xg_fill s c comp comp2 N M K dv i).setTop f
  | 0 => rfl
  | i + 1 => by simp only [xg_fill, xg_setTop s f c comp comp2 N M K dv i, Jvm.Free.Multi.fill_setTop, State.heap_setTop, State.setCell_setTop]
theorem xg_old (s : State) (c comp comp2 : ClassId) (N M K : Nat) (dv : Value) {a : Addr} (ha : a < s.heap.size) : ∀ i, (xg_fill s c comp comp2 N M K dv i).heap[a]? = s.heap[a]?
  | 0 => State.heap_pushCell_of_lt _ _ ha
  | i + 1 => by
    have f1 := (xg_facts s c comp comp2 N M K dv i).1
    have hlt : a < (xg_fill s c comp comp2 N M K dv i).heap.size := Nat.lt_of_lt_of_le ha (by rw [f1]; omega)
    show ((Jvm.Free.Multi.fill _ _ _ _ _ _ _).setCell s.heap.size _).heap[a]? = _
    rw [State.heap_setCell_other (Nat.ne_of_gt ha), Jvm.Free.Multi.fill_old _ comp comp2 M K dv hlt M]
    exact xg_old s c comp comp2 N M K dv ha i
section
variable {E : CtlPost} {e : Env} {d : Bool} {acts : List Action} {s : State}
theorem xg_make3 {c comp comp2 cc : ClassId} {k kc kc2 : Class} {t0 t1 type : FieldType} {n m r : Int32} (hk : s.vm.classes[c]? = some k) (hkind : k.kind = .array comp t0) (href : t0.isReference = true)
    (hkc : s.vm.classes[comp]? = some kc) (hkindc : kc.kind = .array comp2 t1) (href1 : t1.isReference = true) (hkc2 : s.vm.classes[comp2]? = some kc2) (hkindc2 : kc2.kind = .array cc type)
    (hn : ¬ n < 0) (hm : ¬ m < 0) (hr : ¬ r < 0)
    (hl1 : ¬ n.toNatClampNeg > e.platform.arrayLengthLimit) (hh1 : ¬ n.toNatClampNeg * componentBytes t0 > e.platform.maxHeapBytes)
    (hl2 : ¬ m.toNatClampNeg > e.platform.arrayLengthLimit) (hh2 : ¬ m.toNatClampNeg * componentBytes t1 > e.platform.maxHeapBytes)
    (hl3 : ¬ r.toNatClampNeg > e.platform.arrayLengthLimit) (hh3 : ¬ r.toNatClampNeg * componentBytes type > e.platform.maxHeapBytes)
    (hdf : fits type (defaultValue type) = true) (hdd : (defaultValue type).isDefault = true)
    (hc : s.heap.size + 1 + n.toNatClampNeg * (1 + m.toNatClampNeg) ≤ e.platform.maxCells) (hs : s.slotsUsed + n.toNatClampNeg + n.toNatClampNeg * (m.toNatClampNeg + m.toNatClampNeg * r.toNatClampNeg) ≤ e.platform.maxSlots)
    {Q : Addr → Pre} (hq : ∀ d' acts', Q s.heap.size d' acts' (xg_fill s c comp comp2 n.toNatClampNeg m.toNatClampNeg r.toNatClampNeg (defaultValue type) n.toNatClampNeg)) :
    wp (multianewarray.make c [n, m, r]) Q E e d acts s := by
  have hfind : ([m, r].find? (· < 0)) = none := by simp [hm, hr]
  rw [multianewarray.make]
  simp only [wp_bind', W.ite, hn, if_false, wp_pure', W.theClass, hk, hkind, Option.some.injEq, exists_eq_left']
  refine Jvm.Free.Multi.wp_newArray hk hkind hl1 hh1 (Jvm.Free.Multi.refFits href _ (Or.inl rfl)) rfl (by omega) (by omega) ?_
  simp only [hfind]
  rw [ite_self, wp_bind', Std.Legacy.Range.forIn_eq_forIn_range']
  have hsz : ([:n.toNatClampNeg] : Std.Legacy.Range).size = n.toNatClampNeg := by simp [Std.Legacy.Range.size]
  rw [hsz]
  show wp (forIn (List.range' 0 n.toNatClampNeg 1) PUnit.unit _) _ E e d acts _
  refine wp_forIn_inv (fun rest s' => ∃ i, i ≤ n.toNatClampNeg ∧ rest = List.range' i (n.toNatClampNeg - i) ∧ s' = xg_fill s c comp comp2 n.toNatClampNeg m.toNatClampNeg r.toNatClampNeg (defaultValue type) i) _ _ ⟨0, Nat.zero_le _, rfl, rfl⟩ ?_ ?_
  · rintro x rest s' d' acts' Q' ⟨i, hi, hl, rfl⟩ hnext
    have hlt : i < n.toNatClampNeg := by
      rcases Nat.lt_or_ge i n.toNatClampNeg with h | h
      · exact h
      · rw [show n.toNatClampNeg - i = 0 from by omega] at hl; simp at hl
    obtain ⟨rfl, hrest⟩ : x = i ∧ rest = List.range' (i + 1) (n.toNatClampNeg - (i + 1)) := by
      rw [show n.toNatClampNeg - i = (n.toNatClampNeg - (i + 1)) + 1 from by omega, List.range'_succ] at hl
      exact ⟨(List.cons.inj hl).1, (List.cons.inj hl).2⟩
    obtain ⟨f1, f2, f3, f4⟩ := xg_facts s c comp comp2 n.toNatClampNeg m.toNatClampNeg r.toNatClampNeg (defaultValue type) x
    obtain ⟨o1, o2, o3⟩ := xg_out_facts c n.toNatClampNeg s.heap.size (1 + m.toNatClampNeg) x
    have hmul1 : x * (1 + m.toNatClampNeg) + (1 + m.toNatClampNeg) ≤ n.toNatClampNeg * (1 + m.toNatClampNeg) := by
      have := Nat.mul_le_mul_right (1 + m.toNatClampNeg) (show x + 1 ≤ n.toNatClampNeg from hlt)
      rw [Nat.succ_mul] at this; exact this
    have hmul2 : x * (m.toNatClampNeg + m.toNatClampNeg * r.toNatClampNeg) + (m.toNatClampNeg + m.toNatClampNeg * r.toNatClampNeg) ≤ n.toNatClampNeg * (m.toNatClampNeg + m.toNatClampNeg * r.toNatClampNeg) := by
      have := Nat.mul_le_mul_right (m.toNatClampNeg + m.toNatClampNeg * r.toNatClampNeg) (show x + 1 ≤ n.toNatClampNeg from hlt)
      rw [Nat.succ_mul] at this; exact this
    have hlt0 : s.heap.size < (xg_fill s c comp comp2 n.toNatClampNeg m.toNatClampNeg r.toNatClampNeg (defaultValue type) x).heap.size := by rw [f1]; omega
    simp only [wp_bind']
    refine Jvm.Free.Multi.wp_make2 (k := kc) (kc := kc2) (by rw [f3]; exact hkc) hkindc href1 (by rw [f3]; exact hkc2) hkindc2 hm hr hl2 hh2 hl3 hh3 hdf hdd (by rw [f1]; omega) (by rw [f4]; omega) (fun d2 acts2 => ?_)
    obtain ⟨g1, -, g3, -⟩ := Jvm.Free.Multi.fill_facts (xg_fill s c comp comp2 n.toNatClampNeg m.toNatClampNeg r.toNatClampNeg (defaultValue type) x) comp comp2 m.toNatClampNeg r.toNatClampNeg (defaultValue type) m.toNatClampNeg
    simp only [wp_bind', W.writeLoc, wp_pure']
    refine ⟨xg_out c n.toNatClampNeg s.heap.size (1 + m.toNatClampNeg) x, by rw [Jvm.Free.Multi.fill_old _ comp comp2 _ _ _ hlt0 _]; exact f2, by rw [o2]; simp, by rw [o3]; exact hlt, ?_, hnext _ _ _ ⟨x + 1, hlt, hrest, ?_⟩⟩
    · rw [o1, o2]
      simp [State.fitsSlot, State.slotType?, g3, f3, hk, hkind, Jvm.Free.Multi.refFits href _ (Or.inr ⟨_, rfl⟩)]
    · rw [f1]; rfl
  · rintro s' d' acts' ⟨i, hi, hl, rfl⟩
    have hiN : i = n.toNatClampNeg := by
      rcases Nat.lt_or_ge i n.toNatClampNeg with h | h
      · rw [show n.toNatClampNeg - i = (n.toNatClampNeg - (i + 1)) + 1 from by omega, List.range'_succ] at hl; cases hl
      · omega
    subst hiN
    simp only [wp_pure']
    exact hq _ _
end
section
variable {p : Program} {l : Launch} {e : Env} {R : Room} {s : State} {m : MethodId} {args : Array Value} {below : List Frame} {meth : Method} {c : Code} {T : State} {H : Heap} {locs : List Loc} {cells slots : Nat} {Q : State → Prop}
theorem xg_filled (X : Stand p l e R s m args below meth c T locs cells slots) (cA comp comp2 : ClassId) (N M K : Nat) (dv : Value) :
    ∀ i, ∃ L : List Loc, (∀ x ∈ L, T.heap.size ≤ x.base) ∧ Stand p l e R s m args below meth c (xg_fill T cA comp comp2 N M K dv i) (locs ++ L) (cells + 1 + i * (1 + M)) (slots + N + i * (M + M * K))
  | 0 => by
    have h := X.pushed (xg_out cA N T.heap.size (1 + M) 0)
    rw [(xg_out_facts cA N T.heap.size (1 + M) 0).2.2] at h
    exact ⟨[], (fun _ h => nomatch h), by simpa [xg_fill] using h⟩
  | i + 1 => by
    obtain ⟨L, hL, Xi⟩ := xg_filled X cA comp comp2 N M K dv i
    obtain ⟨f1, f2, f3, f4⟩ := xg_facts T cA comp comp2 N M K dv i
    have hlt0 : T.heap.size < (xg_fill T cA comp comp2 N M K dv i).heap.size := by rw [f1]; omega
    have X2 := Xi.filled comp comp2 M K dv M
    have hcell : (Jvm.Free.Multi.fill (xg_fill T cA comp comp2 N M K dv i) comp comp2 M K dv M).heap[T.heap.size]? = some (xg_out cA N T.heap.size (1 + M) i) := by rw [Jvm.Free.Multi.fill_old _ comp comp2 M K dv hlt0 M]; exact f2
    have h := X2.stored hcell i (.ref (T.heap.size + 1 + i * (1 + M)))
    refine ⟨(L ++ (List.range M).map fun j => (⟨(xg_fill T cA comp comp2 N M K dv i).heap.size, j⟩ : Loc)) ++ [⟨T.heap.size, i⟩], ?_, ?_⟩
    · intro x hx
      rcases List.mem_append.mp hx with hx | hx
      · rcases List.mem_append.mp hx with hx | hx
        · exact hL x hx
        · obtain ⟨j, -, rfl⟩ := List.mem_map.mp hx
          exact Nat.le_of_lt hlt0
      · rw [List.mem_singleton.mp hx]
        exact Nat.le_refl _
    · have e2 : locs ++ ((L ++ (List.range M).map fun j => (⟨(xg_fill T cA comp comp2 N M K dv i).heap.size, j⟩ : Loc)) ++ [⟨T.heap.size, i⟩]) = ((locs ++ L) ++ (List.range M).map fun j => (⟨(xg_fill T cA comp comp2 N M K dv i).heap.size, j⟩ : Loc)) ++ [⟨T.heap.size, i⟩] := by simp [List.append_assoc]
      have e3 : cells + 1 + (i + 1) * (1 + M) = cells + 1 + i * (1 + M) + 1 + M := by rw [Nat.succ_mul]; omega
      have e4 : slots + N + (i + 1) * (M + M * K) = slots + N + i * (M + M * K) + M + M * K := by rw [Nat.succ_mul]; omega
      rw [e2, e3, e4]
      exact h
theorem xg_m3 {cc : ByteArray} {pc : Nat} {ls : Array Slot} {rest : List Value} (hexec : p.tables.exec = Jvm.exec) (hb : c.code = cc) {own : String} {index : Nat} {ty : FieldType}
    (hown : s.vm.findClass own = some m.cls) (hclink : (Cond.classLink own index ("[" ++ (FieldType.array (.array ty)).toString)).before args s = true)
    (hover : (Cond.arrayOver (.array (.array ty))).before args s = true) (hover2 : (Cond.arrayOver (.array ty)).before args s = true) (harr : (Cond.arrayClass ty).before args s = true)
    (hstr : "[" ++ (FieldType.array ty).toString = (FieldType.array (.array ty)).toString)
    {n k r : Int32} (hn : ¬ n < 0) (hk : ¬ k < 0) (hr : ¬ r < 0) (hb1 : n.toNatClampNeg * 4 ≤ 536870912) (hb2 : k.toNatClampNeg * 4 ≤ 536870912) (hb3 : r.toNatClampNeg * componentBytes ty ≤ 536870912) (hb4 : r.toNatClampNeg ≤ 536870912)
    (hdf : fits ty (defaultValue ty) = true) (hdd : (defaultValue ty).isDefault = true)
    (hcells : cells + (1 + n.toNatClampNeg * (1 + k.toNatClampNeg)) ≤ R.cells) (hslots : slots + (n.toNatClampNeg + n.toNatClampNeg * (k.toNatClampNeg + k.toNatClampNeg * r.toNatClampNeg)) ≤ R.slots)
    (hdg : decode cc pc = .ok (.multianewarray index 3, 4))
    (kk : ∀ (H1 : Heap) (cA cB cD : ClassId), H.size ≤ H1.size → (∀ x : Nat, x < H.size → H1[x]? = H[x]?) → s.vm.findClass ("[" ++ (FieldType.array (.array ty)).toString) = some cA → s.vm.findClass ("[" ++ (FieldType.array ty).toString) = some cB → s.vm.findClass ("[" ++ ty.toString) = some cD →
      H1[H.size]? = some (xg_out cA n.toNatClampNeg H.size (1 + k.toNatClampNeg) n.toNatClampNeg) → (∀ j, j < n.toNatClampNeg → H1[H.size + 1 + j * (1 + k.toNatClampNeg)]? = some (Jvm.Free.Multi.outerC cB k.toNatClampNeg (H.size + 1 + j * (1 + k.toNatClampNeg)) k.toNatClampNeg) ∧ ∀ q, q < k.toNatClampNeg → H1[H.size + 1 + j * (1 + k.toNatClampNeg) + 1 + q]? = some (Jvm.Free.Multi.innerC cD r.toNatClampNeg (defaultValue ty))) →
      W p l e R s m args below meth c H1 locs (cells + 1 + n.toNatClampNeg * (1 + k.toNatClampNeg)) (slots + n.toNatClampNeg + n.toNatClampNeg * (k.toNatClampNeg + k.toNatClampNeg * r.toNatClampNeg)) Q (F0 m (pc + 4) ls (.ref H.size :: rest))) :
    W p l e R s m args below meth c H locs cells slots Q (F0 m pc ls (.int r :: .int k :: .int n :: rest)) := by
  intro T hT X
  have hpl : e.platform.magicAccessors = ({} : Platform).magicAccessors := by rw [X.admits.platform]
  obtain ⟨comp, cA, kA, hcomp, hkA, hkindA, hnameA⟩ := Cond.arrayOver_specA hover
  obtain ⟨comp2, cB, kB, hcomp2, hkB, hkindB, hnameB⟩ := Cond.arrayOver_specA hover2
  obtain ⟨comp2', kC, cc', hcomp2', hkC, hkindC⟩ := Cond.arrayClass_spec harr
  have ecomp : comp2' = comp2 := Option.some.inj (hcomp2'.symm.trans hcomp2)
  subst ecomp
  have ecB : cB = comp := Option.some.inj (hnameB.symm.trans (by rw [hstr]; exact hcomp))
  subst ecB
  obtain ⟨c0, hfc0, hcl⟩ := Cond.classLink_spec hown hclink e.platform hpl
  cases hnameA.symm.trans hfc0
  obtain ⟨hg₁, hwarm₁, hready₁⟩ := State.classEntry (e := e) X.warmed hcl
  generalize T.vm.noted m.cls index (.cls cA) = vm₁ at hg₁ hwarm₁ hready₁
  have hal : s.vm.Alike vm₁ := hwarm₁.alike
  obtain ⟨kA₁, hkA₁, heA⟩ := hal.2.2 _ _ hkA
  obtain ⟨kB₁, hkB₁, heB⟩ := hal.2.2 _ _ hkB
  obtain ⟨kC₁, hkC₁, heC⟩ := hal.2.2 _ _ hkC
  have hkindA₁ : kA₁.kind = .array cB (.array (.array ty)) := by rw [heA]; exact hkindA
  have hkindB₁ : kB₁.kind = .array comp2' (.array ty) := by rw [heB]; exact hkindB
  have hkindC₁ : kC₁.kind = .array cc' ty := by rw [heC]; exact hkindC
  have X₁ := X.noted hwarm₁
  obtain ⟨hr1, hr2⟩ := X.roomAbove hcells hslots
  have hl1 : ¬ n.toNatClampNeg > e.platform.arrayLengthLimit := by rw [Launch.admits_arrayLengthLimit X.admits]; omega
  have hh1 : ¬ n.toNatClampNeg * componentBytes (.array (.array ty)) > e.platform.maxHeapBytes := by
    rw [Launch.admits_maxHeapBytes X.admits]; show ¬ n.toNatClampNeg * 4 > 536870912; omega
  have hl2 : ¬ k.toNatClampNeg > e.platform.arrayLengthLimit := by rw [Launch.admits_arrayLengthLimit X.admits]; omega
  have hh2 : ¬ k.toNatClampNeg * componentBytes (.array ty) > e.platform.maxHeapBytes := by
    rw [Launch.admits_maxHeapBytes X.admits]; show ¬ k.toNatClampNeg * 4 > 536870912; omega
  have hl3 : ¬ r.toNatClampNeg > e.platform.arrayLengthLimit := by rw [Launch.admits_arrayLengthLimit X.admits]; omega
  have hh3 : ¬ r.toNatClampNeg * componentBytes ty > e.platform.maxHeapBytes := by rw [Launch.admits_maxHeapBytes X.admits]; omega
  obtain ⟨L, hL, XF⟩ := xg_filled X₁ cA cB comp2' n.toNatClampNeg k.toNatClampNeg r.toNatClampNeg (defaultValue ty) n.toNatClampNeg
  have XF := XF.dropFresh (fun x hx => Nat.le_trans X.heapGrown (hL x hx))
  obtain ⟨f1, f2, -, -⟩ := xg_facts (T.setVm vm₁) cA cB comp2' n.toNatClampNeg k.toNatClampNeg r.toNatClampNeg (defaultValue ty) n.toNatClampNeg
  have hTh : (T.setVm vm₁).heap = H := hT
  have hold : ∀ x : Nat, x < H.size → (xg_fill (T.setVm vm₁) cA cB comp2' n.toNatClampNeg k.toNatClampNeg r.toNatClampNeg (defaultValue ty) n.toNatClampNeg).heap[x]? = H[x]? := fun x hx => by
    have := xg_old (T.setVm vm₁) cA cB comp2' n.toNatClampNeg k.toNatClampNeg r.toNatClampNeg (defaultValue ty) (a := x) (by rw [hTh]; exact hx) n.toNatClampNeg
    rw [hTh] at this
    exact this
  have hmid := fun j hj => xg_mid (T.setVm vm₁) cA cB comp2' n.toNatClampNeg k.toNatClampNeg r.toNatClampNeg (defaultValue ty) n.toNatClampNeg j hj
  rw [hTh] at f1 f2 hmid
  obtain ⟨t, hrest, b1⟩ := kk _ cA cB comp2' (by rw [f1]; omega) hold hnameA hnameB hcomp2' f2 hmid _ rfl XF
  have hTh2 : T.heap = H := hT
  rw [← hTh2] at hrest
  refine ⟨t, ?_, b1⟩
  have hdg' : decode c.code pc = .ok (.multianewarray index 3, 4) := by rw [hb]; exact hdg
  jvm_step X.here [hexec, hdg']
  have hg₂ : (resolveClass (F0 m pc ls (.int r :: .int k :: .int n :: rest)).method.cls index).Gives e.toSetting (T.setTop (F0 m pc ls (.int r :: .int k :: .int n :: rest))).vm (Except.ok cA) vm₁ := hg₁
  simp only [multianewarray.sem, wp_bind', W.resolveClassAt_links (State.method?_setTop (F0 m pc ls (.int r :: .int k :: .int n :: rest)) X.here.top) hg₂]
  rw [W.popN, if_neg (by decide)]
  refine ⟨F0 m pc ls (.int r :: .int k :: .int n :: rest), State.topJava?_setTop' (s := T.setVm vm₁) _ X.here.top, [.int n, .int k, .int r], rest, rfl, rfl, ?_⟩
  simp only [List.mapM_cons, List.mapM_nil, wp_bind', wp_pure']
  refine xg_make3 (k := kA₁) (kc := kB₁) (kc2 := kC₁) (comp := cB) (comp2 := comp2') (cc := cc') (t0 := .array (.array ty)) (t1 := .array ty) (type := ty) hkA₁ hkindA₁ rfl hkB₁ hkindB₁ rfl hkC₁ hkindC₁ hn hk hr hl1 hh1 hl2 hh2 hl3 hh3 hdf hdd (by show T.heap.size + 1 + _ ≤ _; omega) (by show T.slotsUsed + _ + _ ≤ _; omega) (fun d' acts' => ?_)
  have eS : ((T.setTop (F0 m pc ls (.int r :: .int k :: .int n :: rest))).setVm vm₁).setTop (F0 m pc ls rest) = (T.setVm vm₁).setTop (F0 m pc ls rest) := by
    show ((T.setVm vm₁).setTop _).setTop _ = _
    rw [State.setTop_setTop]
  rw [eS, xg_setTop]
  simp only [wp_bind', W.mark, W.pushRef, State.topJava?_setTop' _ XF.here.top, Option.some.injEq, exists_eq_left', State.setTop_setTop, State.heap_setTop]
  intro acts
  simp [jvm, XF.here.top]
  exact hrest
theorem xg_m2 {cc : ByteArray} {pc : Nat} {ls : Array Slot} {rest : List Value} (hexec : p.tables.exec = Jvm.exec) (hb : c.code = cc) {own : String} {index : Nat} {ty : FieldType}
    (hown : s.vm.findClass own = some m.cls) (hclink : (Cond.classLink own index ("[" ++ (FieldType.array ty).toString)).before args s = true)
    (hover : (Cond.arrayOver (.array ty)).before args s = true) (harr : (Cond.arrayClass ty).before args s = true)
    {n k : Int32} (hn : ¬ n < 0) (hk : ¬ k < 0) (hb1 : n.toNatClampNeg * 4 ≤ 536870912) (hb2 : k.toNatClampNeg * componentBytes ty ≤ 536870912) (hb3 : k.toNatClampNeg ≤ 536870912)
    (hdf : fits ty (defaultValue ty) = true) (hdd : (defaultValue ty).isDefault = true)
    (hcells : cells + (1 + n.toNatClampNeg) ≤ R.cells) (hslots : slots + (n.toNatClampNeg + n.toNatClampNeg * k.toNatClampNeg) ≤ R.slots)
    (hdg : decode cc pc = .ok (.multianewarray index 2, 4))
    (kk : ∀ (H1 : Heap) (cA cB : ClassId), H.size ≤ H1.size → (∀ x : Nat, x < H.size → H1[x]? = H[x]?) → s.vm.findClass ("[" ++ (FieldType.array ty).toString) = some cA → s.vm.findClass (FieldType.array ty).toString = some cB →
      H1[H.size]? = some (Jvm.Free.Multi.outerC cA n.toNatClampNeg H.size n.toNatClampNeg) → (∀ j, j < n.toNatClampNeg → H1[H.size + 1 + j]? = some (Jvm.Free.Multi.innerC cB k.toNatClampNeg (defaultValue ty))) →
      W p l e R s m args below meth c H1 locs (cells + 1 + n.toNatClampNeg) (slots + n.toNatClampNeg + n.toNatClampNeg * k.toNatClampNeg) Q (F0 m (pc + 4) ls (.ref H.size :: rest))) :
    W p l e R s m args below meth c H locs cells slots Q (F0 m pc ls (.int k :: .int n :: rest)) := by
  intro T hT Xs
  obtain ⟨vm₁, cA, comp, -, fA, fC, hO, -, X', step⟩ := Xs.multianewarray2F hexec hown hclink hover harr (g := F0 m pc ls (.int k :: .int n :: rest)) rfl (by rw [hb]; exact hdg) rfl hn hk hb1 hb2 hb3 hdf hdd hcells hslots
  generalize hF : Jvm.Free.Multi.fill (T.setVm vm₁) cA comp n.toNatClampNeg k.toNatClampNeg (defaultValue ty) n.toNatClampNeg = F at X' step
  have hTh : (T.setVm vm₁).heap = H := hT
  obtain ⟨f1, f2, -, -⟩ := Jvm.Free.Multi.fill_facts (T.setVm vm₁) cA comp n.toNatClampNeg k.toNatClampNeg (defaultValue ty) n.toNatClampNeg
  rw [hF, hTh] at f1 f2
  have hold : ∀ x : Nat, x < H.size → F.heap[x]? = H[x]? := fun x hx => by
    have := Jvm.Free.Multi.fill_old (T.setVm vm₁) cA comp n.toNatClampNeg k.toNatClampNeg (defaultValue ty) (a := x) (by rw [hTh]; exact hx) n.toNatClampNeg
    rw [hF, hTh] at this
    exact this
  have hrow : ∀ j : Nat, j < n.toNatClampNeg → F.heap[H.size + 1 + j]? = some (Jvm.Free.Multi.innerC comp k.toNatClampNeg (defaultValue ty)) := fun j hj => by
    have := Jvm.Free.Multi.fill_inner (T.setVm vm₁) cA comp n.toNatClampNeg k.toNatClampNeg (defaultValue ty) n.toNatClampNeg j hj
    rw [hF, hTh] at this
    exact this
  obtain ⟨t, a1, b1⟩ := kk F.heap cA comp (by rw [f1]; omega) hold fA fC f2 hrow F rfl X'
  have hTh2 : T.heap = H := hT
  rw [← hTh2] at a1
  exact ⟨t, step t a1, b1⟩
end
end XG
end
section
/-! a symbolic runner of methods over the machine: values, cells, locals as data; '.float i' stands for the i-th unknown int, '.ref k' for the k-th thing made, '.retAddr _' for the law's script -/
section XE
abbrev XL : Type := List (Nat × Value)
abbrev XCl : Type := Bool × Nat × List Value
abbrev XH : Type := List (Nat × XCl)
abbrev XP : Type := List (Int × Int)
/-- pc, instruction, kind, further numbers -/
abbrev XI : Type := Nat × Instr × Nat × List Nat
/-- what is known of the unknown ints; the cells; the next thing's number; cells and slots made -/
abbrev XS : Type := XP × XH × Nat × Nat × Nat
/-- name, bytes, locals, answer, room, handlers, listing; how many arguments -/
abbrev XM : Type := MethodName × ByteArray × Nat × Option FieldType × Room × List (Nat × Nat × Nat × Nat) × List XI × Nat
/-- the end of a run in one method: kind (0 returns here, 1 throws here, 2 lets through), the exception's number, the row, locals, stack, state -/
abbrev XLf : Type := Nat × Nat × XI × XL × List Value × XS
/-- a method's end: 0 and what it answers, or 1 + the exception's number; what is known; the cells; the next number -/
abbrev XR : Type := Nat × Option Value × XP × XH × Nat

def xint : Value → Bool
  | .int _ => true
  | .float _ => true
  | _ => false
def xref : Value → Bool
  | .ref _ => true
  | .null => true
  | .retAddr _ => true
  | _ => false
def xlong : Value → Bool
  | .long _ => true
  | _ => false
def xdbl : Value → Bool
  | .double _ => true
  | _ => false
def xnth {α : Type} : List α → Nat → Option α
  | [], _ => none
  | a :: _, 0 => some a
  | _ :: t, n + 1 => xnth t n
def xlk : XL → Nat → Option Value
  | [], _ => none
  | (j, v) :: t, i => bif Nat.beq j i then some v else xlk t i
def xf1 (i : Nat) (q : Nat × Value) : Bool := !(q.1 == i) && !(q.1 + 1 == i && q.2.category == 2)
def xf2 (i : Nat) (q : Nat × Value) : Bool := !(q.1 == i) && (!(q.1 == i + 1) && !(q.1 + 1 == i && q.2.category == 2))
/-- a local's new value, in the order of the places -/
def xins (i : Nat) (v : Value) : XL → XL
  | [] => [(i, v)]
  | (j, w) :: t => bif Nat.ble i j then (i, v) :: (j, w) :: t else (j, w) :: xins i v t
def xst1 (nL i : Nat) (v : Value) (lv : XL) : Option XL := bif Nat.ble (i + 1) nL then some (xins i v (lv.filter (xf1 i))) else none
def xst2 (nL i : Nat) (v : Value) (lv : XL) : Option XL := bif Nat.ble (i + 2) nL then some (xins i v (lv.filter (xf2 i))) else none
def xld (ok : Value → Bool) (lv : XL) (st : List Value) (i : Nat) : Option (XL × List Value) :=
  match xlk lv i with
  | some v => bif ok v then some (lv, v :: st) else none
  | none => none
def xstr1 (ok : Value → Bool) (nL i : Nat) (lv : XL) : List Value → Option (XL × List Value)
  | [] => none
  | v :: r => bif ok v then (match xst1 nL i v lv with
    | some l => some (l, r)
    | none => none) else none
def xstr2 (ok : Value → Bool) (nL i : Nat) (lv : XL) : List Value → Option (XL × List Value)
  | [] => none
  | v :: r => bif ok v then (match xst2 nL i v lv with
    | some l => some (l, r)
    | none => none) else none
def xbin (f : Int32 → Int32 → Int32) (lv : XL) : List Value → Option (XL × List Value)
  | .int y :: .int x :: r => some (lv, .int (f x y) :: r)
  | _ => none
def xbil (f : Int64 → Int64 → Int64) (lv : XL) : List Value → Option (XL × List Value)
  | .long y :: .long x :: r => some (lv, .long (f x y) :: r)
  | _ => none
def xand (lv : XL) : List Value → Option (XL × List Value)
  | .int y :: .int x :: r => some (lv, .int (x &&& y) :: r)
  | _ => none
def xinc (nL i : Nat) (n : Int) (lv : XL) (st : List Value) : Option (XL × List Value) :=
  match xlk lv i with
  | some (.int x) => (match xst1 nL i (.int (x + Int32.ofInt n)) lv with
    | some l => some (l, st)
    | none => none)
  | _ => none
def xi2l (lv : XL) : List Value → Option (XL × List Value)
  | .int x :: r => some (lv, .long x.toInt64 :: r)
  | _ => none
def xlcm (lv : XL) : List Value → Option (XL × List Value)
  | .long y :: .long x :: r => some (lv, .int (lg_cmp x y) :: r)
  | _ => none
def xdcm (op : CmpOp) (lv : XL) : List Value → Option (XL × List Value)
  | .double y :: .double x :: r => some (lv, .int (Op.cmpValue (FP.dcmp x y) op) :: r)
  | _ => none
def xbinz (f : Int32 → Int32 → Int32) (lv : XL) : List Value → Option (XL × List Value)
  | .int y :: .int x :: r => bif decide (y = 0) then none else some (lv, .int (f x y) :: r)
  | _ => none
def xdup2 (lv : XL) : List Value → Option (XL × List Value)
  | v :: w :: r => bif Nat.beq v.category 1 && Nat.beq w.category 1 then some (lv, v :: w :: v :: w :: r) else none
  | _ => none
def xdupx2 (lv : XL) : List Value → Option (XL × List Value)
  | v :: w :: u :: r => bif Nat.beq v.category 1 && (Nat.beq w.category 1 && Nat.beq u.category 1) then some (lv, v :: w :: u :: v :: r) else none
  | _ => none
def xpop (lv : XL) : List Value → Option (XL × List Value)
  | v :: r => bif Nat.beq v.category 1 then some (lv, r) else none
  | _ => none
def xdup (lv : XL) : List Value → Option (XL × List Value)
  | v :: r => bif Nat.beq v.category 1 then some (lv, v :: v :: r) else none
  | _ => none
def xdupx (lv : XL) : List Value → Option (XL × List Value)
  | v :: w :: r => bif Nat.beq v.category 1 && Nat.beq w.category 1 then some (lv, v :: w :: v :: r) else none
  | _ => none
/-- the instructions' lengths -/
def ilen : Instr → Nat
  | .bipush _ | .newarray _ | .iload _ | .lload _ | .aload _ | .dload _ | .istore _ | .lstore _ | .astore _ | .dstore _ | .ldc _ => 2
  | .sipush _ | .goto _ | .ifCond _ _ | .if_icmp _ _ | .if_acmp _ _ | .ifnull _ | .ifnonnull _ | .iinc _ _ | .ldc2_w _ | .ldc_w _ | .getfield _ | .putfield _ | .new _ | .anewarray _ | .invokevirtual _ | .invokespecial _ | .invokestatic _ => 3
  | .multianewarray _ _ => 4
  | _ => 1
def xsimple (nL : Nat) (i : Instr) (aux : List Nat) (lv : XL) (st : List Value) : Option (XL × List Value) :=
  match i with
  | .iconst n => some (lv, .int (Int32.ofInt n) :: st)
  | .bipush n => some (lv, .int (Int8.ofInt n).toInt32 :: st)
  | .sipush n => some (lv, .int (Int16.ofInt n).toInt32 :: st)
  | .aconst_null => some (lv, .null :: st)
  | .dconst d => bif Nat.beq d.val 0 then some (lv, .double FP.dconst0 :: st) else none
  | .ldc2_w _ => (match aux with
    | a :: _ => some (lv, .long (Int64.ofNat a) :: st)
    | [] => none)
  | .iload k => xld xint lv st k
  | .iload_n k => xld xint lv st k.val
  | .lload k => xld xlong lv st k
  | .lload_n k => xld xlong lv st k.val
  | .dload k => xld xdbl lv st k
  | .aload k => xld xref lv st k
  | .aload_n k => xld xref lv st k.val
  | .istore k => xstr1 xint nL k lv st
  | .istore_n k => xstr1 xint nL k.val lv st
  | .astore k => xstr1 xref nL k lv st
  | .astore_n k => xstr1 xref nL k.val lv st
  | .lstore k => xstr2 xlong nL k lv st
  | .lstore_n k => xstr2 xlong nL k.val lv st
  | .dstore k => xstr2 xdbl nL k lv st
  | .iinc k n => xinc nL k n lv st
  | .iadd => xbin (fun x y => x + y) lv st
  | .isub => xbin (fun x y => x - y) lv st
  | .imul => xbin (fun x y => x * y) lv st
  | .ishl => xbin (fun x y => x <<< (y &&& 31)) lv st
  | .ishr => xbin (fun x y => x >>> (y &&& 31)) lv st
  | .iand => xand lv st
  | .i2l => xi2l lv st
  | .ladd => xbil (fun x y => x + y) lv st
  | .lmul => xbil (fun x y => x * y) lv st
  | .lcmp => xlcm lv st
  | .dcmp op => xdcm op lv st
  | .dup => xdup lv st
  | .dup_x1 => xdupx lv st
  | .ior => xbin (fun x y => x ||| y) lv st
  | .ixor => xbin (fun x y => x ^^^ y) lv st
  | .idiv => xbinz (fun x y => x / y) lv st
  | .irem => xbinz (fun x y => x - x / y * y) lv st
  | .dup2 => xdup2 lv st
  | .dup_x2 => xdupx2 lv st
  | .pop => xpop lv st
  | _ => none

/-! cells -/
def xhk : XH → Nat → Option XCl
  | [], _ => none
  | (j, c) :: t, i => bif Nat.beq j i then some c else xhk t i
def xhs : XH → Nat → XCl → XH
  | [], _, _ => []
  | (j, c) :: t, i, d => bif Nat.beq j i then (j, d) :: t else (j, c) :: xhs t i d
def xset : List Value → Nat → Value → List Value
  | [], _, _ => []
  | _ :: t, 0, v => v :: t
  | a :: t, n + 1, v => a :: xset t n v
/-- speaks of things below n only -/
def xov (n : Nat) : Value → Bool
  | .ref k => Nat.ble (k + 1) n
  | _ => true
def xoS (n : Nat) (st : List Value) : Bool := st.all (xov n)
def xoL (n : Nat) (l : XL) : Bool := l.all (fun q => xov n q.2)
def xoH (n : Nat) (h : XH) : Bool := h.all (fun q => Nat.ble (q.1 + 1) n && xoS n q.2.2.2)
def xal (n : Nat) (lv : XL) (st : List Value) (h : XH) : Bool := xoL n lv && (xoS n st && xoH n h)
def xTy : Nat → Nat → FieldType
  | 0 => xY0
  | 1 => xY1
  | 2 => xY2
  | 3 => xY3
  | 4 => xY4
  | 5 => xY5
  | 6 => xY6
  | 7 => xY7
  | 8 => xY8
  | 9 => xY9
  | 10 => xY10
  | _ => xY11
def xNf : Nat → Nat
  | 0 => 4
  | 1 => 4
  | 2 => 2
  | 3 => 3
  | 4 => 6
  | 5 => 11
  | 6 => 2
  | 7 => 13
  | 8 => 5
  | 9 => 2
  | 10 => 8
  | _ => 13
def xD (ci : Nat) : List Value := (List.range (xNf ci)).map (fun k => defaultValue (xTy ci k))
def xfit : FieldType → Value → Bool
  | .int, .int _ => true
  | .int, .float _ => true
  | .boolean, .int x => decide (x = 0) || decide (x = 1)
  | .object _, v => xref v
  | .array _, v => xref v
  | _, _ => false
/-- the arrays' types -/
def xty : Nat → FieldType
  | 0 => .int
  | 1 => .boolean
  | 2 => .long
  | 3 => .object "PackWright$Version"
  | 4 => .object "PackWright$Pack"
  | 5 => .object "PackWright$Claim"
  | 6 => .array .int
  | 7 => .array .boolean
  | _ => .array (.array .int)
def xdv : Nat → Value
  | 0 => .int 0
  | 1 => .int 0
  | 2 => .long 0
  | _ => .null
def xget (aux : List Nat) (st : List Value) (σ : XS) : Option (List Value × XS) :=
  match aux, st with
  | ci :: k :: _, .ref o :: r => (match xhk σ.2.1 o with
    | some (false, cj, fs) => bif Nat.beq ci cj then (match xnth fs k with
      | some v => some (v :: r, σ)
      | none => none) else none
    | _ => none)
  | _, _ => none
def xput (aux : List Nat) (st : List Value) (σ : XS) : Option (List Value × XS) :=
  match aux, st with
  | ci :: k :: _, v :: .ref o :: r => (match xhk σ.2.1 o with
    | some (false, cj, fs) => bif Nat.beq ci cj && (xfit (xTy ci k) v && Nat.ble (k + 1) fs.length) then some (r, (σ.1, xhs σ.2.1 o (false, cj, xset fs k v), σ.2.2)) else none
    | _ => none)
  | _, _ => none
/-- one thing more -/
def xnew (R : Room) (lv : XL) (r : List Value) (σ : XS) (c : XCl) (ns : Nat) : Option (List Value × XS) :=
  match σ with
  | (pe, h, n, ce, sl) => bif Nat.ble (ce + 1) R.cells && Nat.ble (sl + ns) R.slots then some (.ref n :: r, (pe, h ++ [(n, c)], n + 1, ce + 1, sl + ns)) else none
def xnewo (R : Room) (aux : List Nat) (lv : XL) (st : List Value) (σ : XS) : Option (List Value × XS) :=
  match aux with
  | ci :: _ => xnew R lv st σ (false, ci, xD ci) (xNf ci)
  | [] => none
def xnewa (R : Room) (aux : List Nat) (lv : XL) (st : List Value) (σ : XS) : Option (List Value × XS) :=
  match aux, st with
  | ti :: _, .int c :: r => bif decide (c < 0) then none else bif Nat.ble (c.toNatClampNeg) 1000 then xnew R lv r σ (true, ti, List.replicate c.toNatClampNeg (xdv ti)) c.toNatClampNeg else none
  | _, _ => none
/-- rows of an array of arrays: n to n + N - 1 -/
def xrefw (n w : Nat) : Nat → List Value
  | 0 => []
  | N + 1 => .ref n :: xrefw (n + w) w N
def xrows (n : Nat) (c : XCl) : Nat → XH
  | 0 => []
  | N + 1 => (n, c) :: xrows (n + 1) c N
/-- new T[N][K]: the outer array n, its rows behind it -/
def xnewm2 (R : Room) (aux : List Nat) (st : List Value) (σ : XS) : Option (List Value × XS) :=
  match aux, st, σ with
  | to :: ti :: _, .int k :: .int m :: r, (pe, h, n, ce, sl) => bif decide (k < 0) || decide (m < 0) then none else bif Nat.ble k.toNatClampNeg 1000 && (Nat.ble m.toNatClampNeg 1000 && (Nat.ble (ce + (1 + m.toNatClampNeg)) R.cells && Nat.ble (sl + (m.toNatClampNeg + m.toNatClampNeg * k.toNatClampNeg)) R.slots))
    then some (.ref n :: r, (pe, h ++ ((n, (true, to, xrefw (n + 1) 1 m.toNatClampNeg)) :: xrows (n + 1) (true, ti, List.replicate k.toNatClampNeg (xdv ti)) m.toNatClampNeg), n + 1 + m.toNatClampNeg, ce + (1 + m.toNatClampNeg), sl + (m.toNatClampNeg + m.toNatClampNeg * k.toNatClampNeg))) else none
  | _, _, _ => none
/-- new int[N][M][0]: the outer array n; then each row with its own rows behind it -/
def xgrid (n M : Nat) : Nat → XH
  | 0 => []
  | N + 1 => ((n, (true, 6, xrefw (n + 1) 1 M)) :: xrows (n + 1) (true, 0, []) M) ++ xgrid (n + (1 + M)) M N
def xnewm3 (R : Room) (st : List Value) (σ : XS) : Option (List Value × XS) :=
  match st, σ with
  | .int z :: .int k :: .int m :: r, (pe, h, n, ce, sl) => bif decide (z = 0) && (!decide (k < 0) && (!decide (m < 0) && (Nat.ble k.toNatClampNeg 1000 && (Nat.ble m.toNatClampNeg 1000 && (Nat.ble (ce + (1 + m.toNatClampNeg * (1 + k.toNatClampNeg))) R.cells && Nat.ble (sl + (m.toNatClampNeg + m.toNatClampNeg * k.toNatClampNeg)) R.slots)))))
    then some (.ref n :: r, (pe, h ++ ((n, (true, 8, xrefw (n + 1) (1 + k.toNatClampNeg) m.toNatClampNeg)) :: xgrid (n + 1) k.toNatClampNeg m.toNatClampNeg), n + 1 + m.toNatClampNeg * (1 + k.toNatClampNeg), ce + (1 + m.toNatClampNeg * (1 + k.toNatClampNeg)), sl + (m.toNatClampNeg + m.toNatClampNeg * k.toNatClampNeg))) else none
  | _, _ => none
def xlen (scr : Option (Nat × (Nat → Int32))) (st : List Value) (σ : XS) : Option (List Value × XS) :=
  match st with
  | .ref o :: r => (match xhk σ.2.1 o with
    | some (true, ti, vs) => bif Nat.ble ti 8 then some (.int (Int32.ofNat vs.length) :: r, σ) else none
    | _ => none)
  | .retAddr _ :: r => (match scr with
    | some (L, _) => some (.int (Int32.ofNat L) :: r, σ)
    | none => none)
  | _ => none
/-- the place that an index names -/
def xix (i : Int32) (n : Nat) : Option Nat := bif decide (i < 0) then none else bif Nat.ble (i.toNatClampNeg + 1) n then some i.toNatClampNeg else none
def xald (ok : Value → Bool) (oti : Nat → Bool) (st : List Value) (σ : XS) : Option (List Value × XS) :=
  match st with
  | .int i :: .ref o :: r => (match xhk σ.2.1 o with
    | some (true, ti, vs) => bif oti ti then (match xix i vs.length with
      | some j => (match xnth vs j with
        | some v => bif ok v then some (v :: r, σ) else none
        | none => none)
      | none => none) else none
    | _ => none)
  | _ => none
def xild (scr : Option (Nat × (Nat → Int32))) (st : List Value) (σ : XS) : Option (List Value × XS) :=
  match st with
  | .int i :: .retAddr _ :: r => (match scr with
    | some (L, ys) => (match xix i L with
      | some j => some (.int (ys j) :: r, σ)
      | none => none)
    | none => none)
  | st => xald xint (fun ti => Nat.beq ti 0) st σ
def xast (ok : Value → Bool) (oti : Nat → Bool) (st : List Value) (σ : XS) : Option (List Value × XS) :=
  match st with
  | v :: .int i :: .ref o :: r => (match xhk σ.2.1 o with
    | some (true, ti, vs) => bif oti ti && ok v then (match xix i vs.length with
      | some j => some (r, (σ.1, xhs σ.2.1 o (true, ti, xset vs j v), σ.2.2))
      | none => none) else none
    | _ => none)
  | _ => none
/-- what an array's elements are: objects of a class, by its number in 'classes', or arrays of a type -/
def xel : Nat → Bool × Nat
  | 3 => (false, 10)
  | 4 => (false, 3)
  | 5 => (false, 8)
  | 6 => (true, 0)
  | 7 => (true, 1)
  | 8 => (true, 6)
  | _ => (false, 99)
def xasa (st : List Value) (σ : XS) : Option (List Value × XS) :=
  match st with
  | .null :: _ => xast xref (fun ti => Nat.ble 3 ti && Nat.ble ti 5) st σ
  | .ref q :: _ :: .ref o :: _ => (match xhk σ.2.1 o, xhk σ.2.1 q with
    | some (true, ti, _), some (b, ci, _) => bif Nat.ble 3 ti && (Nat.ble ti 8 && ((b == (xel ti).1) && Nat.beq ci (xel ti).2)) then xast xref (fun tj => Nat.beq ti tj) st σ else none
    | _, _ => none)
  | _ => none
def xbool : Value → Bool
  | .int x => decide (x = 0) || decide (x = 1)
  | _ => false
def xheap (scr : Option (Nat × (Nat → Int32))) (R : Room) (i : Instr) (aux : List Nat) (lv : XL) (st : List Value) (σ : XS) : Option (List Value × XS) :=
  match i with
  | .getfield _ => xget aux st σ
  | .putfield _ => xput aux st σ
  | .new _ => xnewo R aux lv st σ
  | .newarray _ => xnewa R aux lv st σ
  | .anewarray _ => xnewa R aux lv st σ
  | .multianewarray _ d => bif Nat.beq d 2 then xnewm2 R aux st σ else bif Nat.beq d 3 then xnewm3 R st σ else none
  | .arraylength => xlen scr st σ
  | .iaload => xild scr st σ
  | .laload => xald xlong (fun ti => Nat.beq ti 2) st σ
  | .baload => xald xint (fun ti => Nat.beq ti 1) st σ
  | .aaload => xald xref (fun ti => Nat.ble 3 ti && Nat.ble ti 8) st σ
  | .iastore => xast xint (fun ti => Nat.beq ti 0) st σ
  | .bastore => xast xbool (fun ti => Nat.beq ti 1) st σ
  | .lastore => xast xlong (fun ti => Nat.beq ti 2) st σ
  | .aastore => xasa st σ
  | _ => none

/-! branches -/
def xprop (c : ClassFile.Cond) (x y : Int32) : Bool :=
  match c with
  | .eq => decide (x = y)
  | .ne => !decide (x = y)
  | .lt => decide (x < y)
  | .ge => decide (y ≤ x)
  | .gt => decide (y < x)
  | .le => decide (x ≤ y)
def xflip : ClassFile.Cond → ClassFile.Cond
  | .eq => .eq
  | .ne => .ne
  | .lt => .gt
  | .ge => .le
  | .gt => .lt
  | .le => .ge
def xpset : XP → Nat → Int × Int → XP
  | [], _, _ => []
  | _ :: t, 0, v => v :: t
  | a :: t, n + 1, v => a :: xpset t n v
def xmn (a b : Int) : Int := bif decide (a ≤ b) then a else b
def xmx (a b : Int) : Int := bif decide (a ≤ b) then b else a
def xone (pe : XP) (u : Nat) (b : Bool) (q : Int × Int) : List (Bool × XP) := bif decide (q.1 ≤ q.2) then [(b, xpset pe u q)] else []
/-- x below k, and not -/
def xcut (pe : XP) (u : Nat) (q : Int × Int) (k : Int) (b : Bool) : List (Bool × XP) := xone pe u b (q.1, xmn q.2 (k - 1)) ++ xone pe u (!b) (xmx q.1 k, q.2)
def xcutE (pe : XP) (u : Nat) (q : Int × Int) (k : Int) (b : Bool) : List (Bool × XP) :=
  xone pe u b (xmx q.1 k, xmn q.2 k) ++ xone pe u (!b) (bif decide (q.1 = k) then (q.1 + 1, q.2) else bif decide (q.2 = k) then (q.1, q.2 - 1) else q)
def xsplit (pe : XP) (u : Nat) (c : ClassFile.Cond) (k : Int) : Option (List (Bool × XP)) :=
  match xnth pe u with
  | none => none
  | some q => some (match c with
    | .lt => xcut pe u q k true
    | .ge => xcut pe u q k false
    | .le => xcut pe u q (k + 1) true
    | .gt => xcut pe u q (k + 1) false
    | .eq => xcutE pe u q k true
    | .ne => xcutE pe u q k false)
def xbrs (c : ClassFile.Cond) (a b : Value) (pe : XP) : Option (List (Bool × XP)) :=
  match a, b with
  | .int x, .int y => some [(xprop c x y, pe)]
  | .float u, .int y => xsplit pe u.toNat c y.toInt
  | .int x, .float u => xsplit pe u.toNat (xflip c) x.toInt
  | _, _ => none
def xtgt (pc : Nat) (off : Int) : Option Nat :=
  match (pc : Int) + off with
  | .ofNat k => some k
  | .negSucc _ => none
def xtwo (t nx : Nat) (r : List Value) (l : List (Bool × XP)) : List (Nat × List Value × XP) := l.map fun q => (bif q.1 then t else nx, r, q.2)
def xjump (pc : Nat) (off : Int) (r : List Value) (o : Option (List (Bool × XP))) : Option (List (Nat × List Value × XP)) :=
  match xtgt pc off, o with
  | some t, some l => some (xtwo t (pc + 3) r l)
  | _, _ => none
/-- known to be null, known not to be -/
def xnul : Value → Option Bool
  | .null => some true
  | .ref _ => some false
  | .retAddr _ => some false
  | _ => none
def xsome {α : Type} : Option α → Bool
  | some _ => true
  | none => false
def xsame (h : XH) : Value → Value → Option Bool
  | .null, .null => some true
  | .ref _, .null => some false
  | .null, .ref _ => some false
  | .ref a, .ref b => bif Nat.beq a b then some true else bif xsome (xhk h a) && xsome (xhk h b) then some false else none
  | _, _ => none
def xb1 (b : Bool) (pe : XP) : Option Bool → Option (List (Bool × XP))
  | some t => some [(t == b, pe)]
  | none => none
/-- the switch's target for v -/
def xsel (pc : Nat) (dflt low high : Int) (offs : Array Int) (v : Int) : Option Nat :=
  bif decide (v < low) || decide (high < v) then xtgt pc dflt else (match xnth offs.toList (v - low).toNat with
    | some off => xtgt pc off
    | none => none)
/-- the switch's targets for an int between lo and lo + n -/
def xsw (pc : Nat) (dflt low high : Int) (offs : Array Int) (r : List Value) (pv : Int → XP) (lo : Int) : Nat → Option (List (Nat × List Value × XP))
  | 0 => some []
  | n + 1 =>
    match xsel pc dflt low high offs lo, xsw pc dflt low high offs r pv (lo + 1) n with
    | some t, some l => some ((t, r, pv lo) :: l)
    | _, _ => none
/-- lengths, the switch's too -/
def xil (pc : Nat) (i : Instr) : Nat :=
  match i with
  | .tableswitch _ _ _ offs => 1 + (3 - pc % 4) + 12 + 4 * offs.size
  | i => ilen i
def xbranch (h : XH) (pc : Nat) (i : Instr) (st : List Value) (pe : XP) : Option (List (Nat × List Value × XP)) :=
  match i with
  | .goto off => (match xtgt pc off with
    | some t => some [(t, st, pe)]
    | none => none)
  | .if_icmp c off => (match st with
    | b :: a :: r => xjump pc off r (xbrs c a b pe)
    | _ => none)
  | .ifCond c off => (match st with
    | a :: r => xjump pc off r (xbrs c a (.int 0) pe)
    | _ => none)
  | .ifnull off => (match st with
    | a :: r => xjump pc off r (xb1 true pe (xnul a))
    | _ => none)
  | .ifnonnull off => (match st with
    | a :: r => xjump pc off r (xb1 false pe (xnul a))
    | _ => none)
  | .if_acmp c off => (match st with
    | b :: a :: r => xjump pc off r (xb1 (match c with
      | .eq => true
      | .ne => false) pe (xsame h a b))
    | _ => none)
  | .tableswitch dflt low high offs => (match st with
    | .int x :: r => xsw pc dflt low high offs r (fun _ => pe) x.toInt 1
    | .float u :: r => (match xnth pe u.toNat with
      | some q => xsw pc dflt low high offs r (fun v => xpset pe u.toNat (v, v)) q.1 (q.2 + 1 - q.1).toNat
      | none => none)
    | _ => none)
  | _ => none

/-! runs -/
def xfind : List XI → Nat → List XI
  | [], _ => []
  | e :: t, pc => bif Nat.beq e.1 pc then e :: t else xfind t pc
/-- the rows from pc on -/
def xnext (code _t : List XI) (pc : Nat) : List XI := xfind code pc
def xall {α β : Type} (f : α → Option (List β)) : List α → Option (List β)
  | [] => some []
  | a :: l => match f a with
    | none => none
    | some r => match xall f l with
      | none => none
      | some q => some (r ++ q)
def xcats (st : List Value) : Nat := (st.map fun v => v.category).sum
abbrev XCf : Type := Nat → List Value → XP → XH → Nat → Option (List XR)
abbrev XGo : Type := List XI → XL → List Value → XS → Option (List XLf)
def xmN (M : XM) : Nat := M.2.2.1
def xmR (M : XM) : Room := M.2.2.2.2.1
def xmT (M : XM) : List (Nat × Nat × Nat × Nat) := M.2.2.2.2.2.1
def xmC (M : XM) : List XI := M.2.2.2.2.2.2.1
def xmA (M : XM) : Nat := M.2.2.2.2.2.2.2
/-- the receiver: of class ci where the call is by the object's class -/
def xrecv (mode ci : Nat) (args : List Value) (h : XH) : Bool :=
  match mode, args with
  | 0, _ => true
  | 1, .ref o :: _ => (match xhk h o with
    | some (false, cj, _) => Nat.beq ci cj
    | _ => false)
  | 2, .ref _ :: _ => true
  | _, _ => false
def xback (cls : Nat → Nat) (M Y : XM) (ih : XGo) (e : XI) (t : List XI) (lv : XL) (rest : List Value) (ce sl : Nat) (q : XR) : Option (List XLf) :=
  match q with
  | (0, v, pe, h, n) => ih (xnext (xmC M) t (e.1 + 3)) lv (v.toList ++ rest) (pe, h, n, ce + (xmR Y).cells, sl + (xmR Y).slots)
  | _ => none
/-- how a call is made: 0 static, 1 by the receiver's class, 2 a constructor -/
def xmode : Nat → Nat
  | 0 => 0
  | 1 => 1
  | 2 => 2
  | 3 => 2
  | 4 => 0
  | 5 => 1
  | _ => 0
def xcall (Ms : List XM) (cls : Nat → Nat) (M : XM) (cf : XCf) (ih : XGo) (e : XI) (t : List XI) (lv : XL) (st : List Value) (σ : XS) : Option (List XLf) :=
  match e.2.2.2, σ with
  | mode :: k :: ci :: _, (pe, h, n, ce, sl) => (match xnth Ms k with
    | none => none
    | some Y =>
      bif Nat.ble (xmA Y) st.length && (Nat.ble (xcats (st.drop (xmA Y))) 8 && (Nat.ble ((xmR Y).frames + 1) (xmR M).frames && (Nat.ble (8 + (xmN Y + 11) + (xmR Y).locals) (xmR M).locals && (Nat.ble (ce + (xmR Y).cells) (xmR M).cells && (Nat.ble (sl + (xmR Y).slots) (xmR M).slots && xrecv (xmode mode) ci (st.take (xmA Y)).reverse h))))) then
        (match cf k (st.take (xmA Y)).reverse pe h n with
        | some ls => xall (xback cls M Y ih e t lv (st.drop (xmA Y)) ce sl) ls
        | none => none)
      else none)
  | _, _ => none
def xoinit (M : XM) (ih : XGo) (e : XI) (t : List XI) (lv : XL) (st : List Value) (σ : XS) : Option (List XLf) :=
  match st with
  | .ref _ :: r => bif Nat.ble 1 (xmR M).frames && Nat.ble (xcats r + 12) (xmR M).locals then ih (xnext (xmC M) t (e.1 + 3)) lv r σ else none
  | _ => none
/-- all of v0 laid into v1 from place d on -/
def xcpy (v0 v1 : List Value) (d : Nat) : List Value := v1.take d ++ (v0 ++ v1.drop (d + v0.length))
def xcopy (M : XM) (ih : XGo) (e : XI) (t : List XI) (lv : XL) (st : List Value) (σ : XS) : Option (List XLf) :=
  match st with
  | .int n :: .int dp :: .ref a :: .int sp :: .ref a0 :: r => (match xhk σ.2.1 a0, xhk σ.2.1 a with
    | some (true, 0, v0), some (true, 0, v1) =>
      bif decide (n < 0) then none else bif decide (dp < 0) then none else bif decide (sp = 0) && (Nat.beq n.toNatClampNeg v0.length && (Nat.ble (dp.toNatClampNeg + v0.length) v1.length && (Nat.ble 1 (xmR M).frames && Nat.ble (xcats r + 60) (xmR M).locals))) then ih (xnext (xmC M) t (e.1 + 3)) lv r (σ.1, xhs σ.2.1 a (true, 0, xcpy v0 v1 dp.toNatClampNeg), σ.2.2) else none
    | _, _ => none)
  | _ => none
def xmath (M : XM) (ih : XGo) (e : XI) (t : List XI) (lv : XL) (st : List Value) (σ : XS) : Option (List XLf) :=
  match e.2.2.2, st with
  | mx :: _, .int y :: .int x :: r => bif Nat.ble 1 (xmR M).frames && (Nat.ble (xcats r + 13) (xmR M).locals && (Nat.ble σ.2.2.2.1 (xmR M).cells && Nat.ble σ.2.2.2.2 (xmR M).slots)) then
      ih (xnext (xmC M) t (e.1 + 3)) lv (.int (match mx with
        | 0 => if y < x then y else x
        | _ => if x < y then y else x) :: r) σ else none
  | _, _ => none
def xbody (Ms : List XM) (cls : Nat → Nat) (scr : Option (Nat × (Nat → Int32))) (M : XM) (cf : XCf) (ih : XGo) : XGo := fun cur lv st σ =>
  match cur with
  | [] => none
  | e :: t => (match e.2.2.1 with
    | 0 => (match xsimple (xmN M) e.2.1 e.2.2.2 lv st with
      | some q => ih (xnext (xmC M) t (e.1 + ilen e.2.1)) q.1 q.2 σ
      | none => none)
    | 1 => (match xheap scr (xmR M) e.2.1 e.2.2.2 lv st σ with
      | some q => ih (xnext (xmC M) t (e.1 + ilen e.2.1)) lv q.1 q.2
      | none => none)
    | 2 => (match xbranch σ.2.1 e.1 e.2.1 st σ.1 with
      | some l => xall (fun q : Nat × List Value × XP => ih (xfind (xmC M) q.1) lv q.2.1 (q.2.2, σ.2)) l
      | none => none)
    | 3 => xcall Ms cls M cf ih e t lv st σ
    | 4 => some [(0, 0, e, lv, st, σ)]
    | 6 => xoinit M ih e t lv st σ
    | 7 => xcopy M ih e t lv st σ
    | 9 => some [(3, 0, e, lv, st, σ)]
    | 10 => xmath M ih e t lv st σ
    | _ => none)
noncomputable def xrun (Ms : List XM) (cls : Nat → Nat) (scr : Option (Nat × (Nat → Int32))) (M : XM) (cf : XCf) (f : Nat) : XGo :=
  Nat.rec (motive := fun _ => XGo) (fun _ _ _ _ => none) (fun _ ih => xbody Ms cls scr M cf ih) f
/-- what a method hands back -/
def xretv (ret : Option FieldType) (i : Instr) (st : List Value) : Option (Option Value) :=
  match ret, i, st with
  | none, .return_, [] => some none
  | some .int, .ireturn, [v] => bif xint v then some (some v) else none
  | some .boolean, .ireturn, [.int x] => bif decide (x = 0) || decide (x = 1) then some (some (.int x)) else none
  | some .long, .lreturn, [v] => bif xlong v then some (some v) else none
  | some .double, .dreturn, [v] => bif xdbl v then some (some v) else none
  | some (.object _), .areturn, [v] => bif xref v then some (some v) else none
  | some (.array _), .areturn, [v] => bif xref v then some (some v) else none
  | _, _, _ => none
def xnil : List (Nat × Nat × Nat × Nat) → Bool
  | [] => true
  | _ => false
def xend (M : XM) (q : XLf) : Option XR :=
  match q with
  | (0, _, e, _, st, (pe, h, n, ce, sl)) => bif Nat.ble ce (xmR M).cells && Nat.ble sl (xmR M).slots then (match xretv M.2.2.2.1 e.2.1 st with
    | some v => some (0, v, pe, h, n)
    | none => none) else none
  | _ => none
def xends (M : XM) : List XLf → Option (List XR)
  | [] => some []
  | q :: l => match xend M q, xends M l with
    | some r, some rs => some (r :: rs)
    | _, _ => none
noncomputable def xmeth (Ms : List XM) (cls : Nat → Nat) (scr : Option (Nat × (Nat → Int32))) (F : Nat) (d : Nat) : XCf :=
  Nat.rec (motive := fun _ => XCf) (fun _ _ _ _ _ => none) (fun _ cf k args pe h n =>
    match xnth Ms k with
    | none => none
    | some M => bif Nat.ble (xcats args) (xmN M) then (match xrun Ms cls scr M cf F (xfind (xmC M) 0) (lv_args 0 args) [] (pe, h, n, 0, 0) with
      | some ls => xends M ls
      | none => none) else none) d
end XE
end
section
/-! what the runner's values stand for; the rows of one method's own numbers -/
section XV
def ev (ad : Nat → Nat) (xs : Nat → Int32) (bS : Nat) : Value → Value
  | .int x => .int x
  | .long x => .long x
  | .float u => .int (xs u.toNat)
  | .double x => .double x
  | .null => .null
  | .ref k => .ref (ad k)
  | .retAddr _ => .ref bS
def evL (E : Value → Value) (l : XL) : XL := l.map (fun q => (q.1, E q.2))
def evS (E : Value → Value) (st : List Value) : List Value := st.map E
theorem ev_cat (ad : Nat → Nat) (xs : Nat → Int32) (bS : Nat) (v : Value) : (ev ad xs bS v).category = v.category := by cases v <;> rfl
theorem xint_ev {ad : Nat → Nat} {xs : Nat → Int32} {bS : Nat} {v : Value} (h : xint v = true) : ∃ x, ev ad xs bS v = .int x := by
  cases v <;> first | exact ⟨_, rfl⟩ | exact absurd h (by simp [xint])
theorem xref_ev {ad : Nat → Nat} {xs : Nat → Int32} {bS : Nat} {v : Value} (h : xref v = true) : ev ad xs bS v = .null ∨ ∃ a, ev ad xs bS v = .ref a := by
  cases v <;> first | exact Or.inl rfl | exact Or.inr ⟨_, rfl⟩ | exact absurd h (by simp [xref])
theorem xlong_ev {ad : Nat → Nat} {xs : Nat → Int32} {bS : Nat} {v : Value} (h : xlong v = true) : ∃ x, ev ad xs bS v = .long x := by
  cases v <;> first | exact ⟨_, rfl⟩ | exact absurd h (by simp [xlong])
theorem xdbl_ev {ad : Nat → Nat} {xs : Nat → Int32} {bS : Nat} {v : Value} (h : xdbl v = true) : ∃ x, ev ad xs bS v = .double x := by
  cases v <;> first | exact ⟨_, rfl⟩ | exact absurd h (by simp [xdbl])
theorem xlk_mem {i : Nat} {v : Value} : ∀ {l : XL}, xlk l i = some v → (i, v) ∈ l
  | [], h => nomatch h
  | (j, w) :: t, h => by
    unfold xlk at h
    cases hb : Nat.beq j i with
    | true =>
      rw [hb] at h
      have e1 : w = v := Option.some.inj h
      have e2 := Nat.eq_of_beq_eq_true hb
      subst e1; subst e2
      exact List.mem_cons_self
    | false =>
      rw [hb] at h
      exact List.mem_cons_of_mem _ (xlk_mem h)
theorem xloc {E : Value → Value} {ls : Array Slot} {nL i : Nat} {lv : XL} {v : Value} (hl : lv_has ls nL (evL E lv)) (h : xlk lv i = some v) : ls[i]? = some (.val (E v)) :=
  hl.2.2 (i, E v) (List.mem_map.mpr ⟨(i, v), xlk_mem h, rfl⟩)
theorem xf1_ev {E : Value → Value} (hE : ∀ v, (E v).category = v.category) (i : Nat) (lv : XL) : (evL E lv).filter (xf1 i) = evL E (lv.filter (xf1 i)) := by
  unfold evL
  rw [List.filter_map]
  have e : (xf1 i ∘ fun q : Nat × Value => (q.1, E q.2)) = xf1 i := funext fun q => by simp [xf1, hE]
  rw [e]
theorem xf2_ev {E : Value → Value} (hE : ∀ v, (E v).category = v.category) (i : Nat) (lv : XL) : (evL E lv).filter (xf2 i) = evL E (lv.filter (xf2 i)) := by
  unfold evL
  rw [List.filter_map]
  have e : (xf2 i ∘ fun q : Nat × Value => (q.1, E q.2)) = xf2 i := funext fun q => by simp [xf2, hE]
  rw [e]
theorem xins_mem {i : Nat} {v : Value} : ∀ {l : XL} {q : Nat × Value}, q ∈ xins i v l → q ∈ (i, v) :: l
  | [], q, h => h
  | (j, w) :: t, q, h => by
    unfold xins at h
    cases hb : Nat.ble i j with
    | true => rw [hb] at h; exact h
    | false =>
      rw [hb] at h
      rcases List.mem_cons.mp h with rfl | h
      · exact List.mem_cons_of_mem _ List.mem_cons_self
      · rcases List.mem_cons.mp (xins_mem h) with rfl | h
        · exact List.mem_cons_self
        · exact List.mem_cons_of_mem _ (List.mem_cons_of_mem _ h)
theorem xins_ev {E : Value → Value} {i : Nat} {v : Value} {l : XL} : ∀ q ∈ evL E (xins i v l), q ∈ (i, E v) :: evL E l := by
  intro q hq
  obtain ⟨q0, h0, rfl⟩ := List.mem_map.mp hq
  rcases List.mem_cons.mp (xins_mem h0) with rfl | h
  · exact List.mem_cons_self
  · exact List.mem_cons_of_mem _ (List.mem_map.mpr ⟨q0, h, rfl⟩)
theorem lv_sub9 {ls : Array Slot} {nL : Nat} {a b : XL} (h : lv_has ls nL a) (hs : ∀ q ∈ b, q ∈ a) : lv_has ls nL b := ⟨h.1, h.2.1, fun q hq => h.2.2 q (hs q hq)⟩
theorem xst1_ev {E : Value → Value} (hE : ∀ v, (E v).category = v.category) {nL i : Nat} {v : Value} {lv l : XL} (h : xst1 nL i v lv = some l) : i < nL ∧ ∀ q ∈ evL E l, q ∈ (i, E v) :: (evL E lv).filter (xf1 i) := by
  unfold xst1 at h
  cases hb : Nat.ble (i + 1) nL with
  | true =>
    rw [hb] at h
    have e : xins i v (lv.filter (xf1 i)) = l := Option.some.inj h
    subst e
    exact ⟨Nat.le_of_ble_eq_true hb, by rw [xf1_ev hE]; exact xins_ev⟩
  | false => rw [hb] at h; cases h
theorem xst2_ev {E : Value → Value} (hE : ∀ v, (E v).category = v.category) {nL i : Nat} {v : Value} {lv l : XL} (h : xst2 nL i v lv = some l) : i + 1 < nL ∧ ∀ q ∈ evL E l, q ∈ (i, E v) :: (evL E lv).filter (xf2 i) := by
  unfold xst2 at h
  cases hb : Nat.ble (i + 2) nL with
  | true =>
    rw [hb] at h
    have e : xins i v (lv.filter (xf2 i)) = l := Option.some.inj h
    subst e
    exact ⟨Nat.le_of_ble_eq_true hb, by rw [xf2_ev hE]; exact xins_ev⟩
  | false => rw [hb] at h; cases h
theorem xld_spec {ok : Value → Bool} {lv : XL} {st : List Value} {i : Nat} {q : XL × List Value} (h : xld ok lv st i = some q) : ∃ v, xlk lv i = some v ∧ ok v = true ∧ q = (lv, v :: st) := by
  unfold xld at h
  split at h
  · rename_i v hv
    cases hb : ok v with
    | true => rw [hb] at h; exact ⟨v, hv, hb, (Option.some.inj h).symm⟩
    | false => rw [hb] at h; cases h
  · cases h
theorem xstr1_spec {ok : Value → Bool} {nL i : Nat} {lv : XL} {st : List Value} {q : XL × List Value} (h : xstr1 ok nL i lv st = some q) : ∃ v r l, st = v :: r ∧ ok v = true ∧ xst1 nL i v lv = some l ∧ q = (l, r) := by
  unfold xstr1 at h
  split at h
  · cases h
  · rename_i v r
    cases hb : ok v with
    | true =>
      rw [hb] at h
      simp only [cond_true] at h
      split at h
      · rename_i l hl
        exact ⟨v, r, l, rfl, hb, hl, (Option.some.inj h).symm⟩
      · cases h
    | false => rw [hb] at h; cases h
theorem xstr2_spec {ok : Value → Bool} {nL i : Nat} {lv : XL} {st : List Value} {q : XL × List Value} (h : xstr2 ok nL i lv st = some q) : ∃ v r l, st = v :: r ∧ ok v = true ∧ xst2 nL i v lv = some l ∧ q = (l, r) := by
  unfold xstr2 at h
  split at h
  · cases h
  · rename_i v r
    cases hb : ok v with
    | true =>
      rw [hb] at h
      simp only [cond_true] at h
      split at h
      · rename_i l hl
        exact ⟨v, r, l, rfl, hb, hl, (Option.some.inj h).symm⟩
      · cases h
    | false => rw [hb] at h; cases h
theorem xbin_spec {f : Int32 → Int32 → Int32} {lv : XL} {st : List Value} {q : XL × List Value} (h : xbin f lv st = some q) : ∃ x y r, st = .int y :: .int x :: r ∧ q = (lv, .int (f x y) :: r) := by
  unfold xbin at h
  split at h
  · exact ⟨_, _, _, rfl, (Option.some.inj h).symm⟩
  · cases h
theorem xbil_spec {f : Int64 → Int64 → Int64} {lv : XL} {st : List Value} {q : XL × List Value} (h : xbil f lv st = some q) : ∃ x y r, st = .long y :: .long x :: r ∧ q = (lv, .long (f x y) :: r) := by
  unfold xbil at h
  split at h
  · exact ⟨_, _, _, rfl, (Option.some.inj h).symm⟩
  · cases h
section
variable {p : Program} {l : Launch} {e : Env} {R : Room} {s : State} {m : MethodId} {args : Array Value} {below : List Frame} {meth : Method} {c : Code} {H : Heap} {locs : List Loc} {cells slots : Nat} {Q : State → Prop}
variable {cc : ByteArray} {pc nL : Nat} {ls : Array Slot} {ad : Nat → Nat} {xs : Nat → Int32} {bS : Nat}
theorem xw_load (hx : p.tables.exec = Jvm.exec) (hb : c.code = cc) {i : Instr} {ok : Value → Bool} {k : Nat} {lv lv' : XL} {st st' : List Value} (h : xld ok lv st k = some (lv', st')) (hl : lv_has ls nL (evL (ev ad xs bS) lv))
    (row : ∀ v, ok v = true → ls[k]? = some (.val (ev ad xs bS v)) → W p l e R s m args below meth c H locs cells slots Q (F0 m (pc + ilen i) ls (ev ad xs bS v :: evS (ev ad xs bS) st)) → W p l e R s m args below meth c H locs cells slots Q (F0 m pc ls (evS (ev ad xs bS) st)))
    (kk : ∀ ls' : Array Slot, lv_has ls' nL (evL (ev ad xs bS) lv') → W p l e R s m args below meth c H locs cells slots Q (F0 m (pc + ilen i) ls' (evS (ev ad xs bS) st'))) : W p l e R s m args below meth c H locs cells slots Q (F0 m pc ls (evS (ev ad xs bS) st)) := by
  obtain ⟨v, h1, h2, h3⟩ := xld_spec h
  obtain ⟨rfl, rfl⟩ := Prod.mk.inj h3
  exact row v h2 (xloc hl h1) (kk ls hl)
theorem xw_store1 {i : Instr} {ok : Value → Bool} {k : Nat} {lv lv' : XL} {st st' : List Value} (h : xstr1 ok nL k lv st = some (lv', st'))
    (row : ∀ (v : Value) (r : List Value) (l' : XL), ok v = true → k < nL → (k, ev ad xs bS v) :: (evL (ev ad xs bS) lv).filter (xf1 k) = l' → (∀ ls' : Array Slot, lv_has ls' nL l' → W p l e R s m args below meth c H locs cells slots Q (F0 m (pc + ilen i) ls' r)) → W p l e R s m args below meth c H locs cells slots Q (F0 m pc ls (ev ad xs bS v :: r)))
    (kk : ∀ ls' : Array Slot, lv_has ls' nL (evL (ev ad xs bS) lv') → W p l e R s m args below meth c H locs cells slots Q (F0 m (pc + ilen i) ls' (evS (ev ad xs bS) st'))) : W p l e R s m args below meth c H locs cells slots Q (F0 m pc ls (evS (ev ad xs bS) st)) := by
  obtain ⟨v, r, l1, rfl, h2, h3, h4⟩ := xstr1_spec h
  obtain ⟨rfl, rfl⟩ := Prod.mk.inj h4
  obtain ⟨h5, h6⟩ := xst1_ev (ev_cat ad xs bS) h3
  exact row v _ _ h2 h5 rfl (fun ls' hl' => kk ls' (lv_sub9 hl' h6))
theorem xw_store2 {i : Instr} {ok : Value → Bool} {k : Nat} {lv lv' : XL} {st st' : List Value} (h : xstr2 ok nL k lv st = some (lv', st'))
    (row : ∀ (v : Value) (r : List Value) (l' : XL), ok v = true → k + 1 < nL → (k, ev ad xs bS v) :: (evL (ev ad xs bS) lv).filter (xf2 k) = l' → (∀ ls' : Array Slot, lv_has ls' nL l' → W p l e R s m args below meth c H locs cells slots Q (F0 m (pc + ilen i) ls' r)) → W p l e R s m args below meth c H locs cells slots Q (F0 m pc ls (ev ad xs bS v :: r)))
    (kk : ∀ ls' : Array Slot, lv_has ls' nL (evL (ev ad xs bS) lv') → W p l e R s m args below meth c H locs cells slots Q (F0 m (pc + ilen i) ls' (evS (ev ad xs bS) st'))) : W p l e R s m args below meth c H locs cells slots Q (F0 m pc ls (evS (ev ad xs bS) st)) := by
  obtain ⟨v, r, l1, rfl, h2, h3, h4⟩ := xstr2_spec h
  obtain ⟨rfl, rfl⟩ := Prod.mk.inj h4
  obtain ⟨h5, h6⟩ := xst2_ev (ev_cat ad xs bS) h3
  exact row v _ _ h2 h5 rfl (fun ls' hl' => kk ls' (lv_sub9 hl' h6))
theorem xw_bin {i : Instr} {f : Int32 → Int32 → Int32} {lv lv' : XL} {st st' : List Value} (h : xbin f lv st = some (lv', st')) (hl : lv_has ls nL (evL (ev ad xs bS) lv))
    (row : ∀ (x y : Int32) (r : List Value), W p l e R s m args below meth c H locs cells slots Q (F0 m (pc + ilen i) ls (.int (f x y) :: r)) → W p l e R s m args below meth c H locs cells slots Q (F0 m pc ls (.int y :: .int x :: r)))
    (kk : ∀ ls' : Array Slot, lv_has ls' nL (evL (ev ad xs bS) lv') → W p l e R s m args below meth c H locs cells slots Q (F0 m (pc + ilen i) ls' (evS (ev ad xs bS) st'))) : W p l e R s m args below meth c H locs cells slots Q (F0 m pc ls (evS (ev ad xs bS) st)) := by
  obtain ⟨x, y, r, rfl, h4⟩ := xbin_spec h
  obtain ⟨rfl, rfl⟩ := Prod.mk.inj h4
  exact row x y _ (kk ls hl)
theorem xw_binz {i : Instr} {f : Int32 → Int32 → Int32} {lv lv' : XL} {st st' : List Value} (h : xbinz f lv st = some (lv', st')) (hl : lv_has ls nL (evL (ev ad xs bS) lv))
    (row : ∀ (x y : Int32) (r : List Value), ¬ y = 0 → W p l e R s m args below meth c H locs cells slots Q (F0 m (pc + ilen i) ls (.int (f x y) :: r)) → W p l e R s m args below meth c H locs cells slots Q (F0 m pc ls (.int y :: .int x :: r)))
    (kk : ∀ ls' : Array Slot, lv_has ls' nL (evL (ev ad xs bS) lv') → W p l e R s m args below meth c H locs cells slots Q (F0 m (pc + ilen i) ls' (evS (ev ad xs bS) st'))) : W p l e R s m args below meth c H locs cells slots Q (F0 m pc ls (evS (ev ad xs bS) st)) := by
  unfold xbinz at h
  split at h
  · rename_i y x r
    cases hz : decide (y = 0) with
    | true => rw [hz] at h; cases h
    | false =>
      rw [hz] at h
      obtain ⟨rfl, rfl⟩ := Prod.mk.inj (Option.some.inj h)
      exact row x y _ (of_decide_eq_false hz) (kk ls hl)
  · cases h
theorem xw_bil {i : Instr} {f : Int64 → Int64 → Int64} {lv lv' : XL} {st st' : List Value} (h : xbil f lv st = some (lv', st')) (hl : lv_has ls nL (evL (ev ad xs bS) lv))
    (row : ∀ (x y : Int64) (r : List Value), W p l e R s m args below meth c H locs cells slots Q (F0 m (pc + ilen i) ls (.long (f x y) :: r)) → W p l e R s m args below meth c H locs cells slots Q (F0 m pc ls (.long y :: .long x :: r)))
    (kk : ∀ ls' : Array Slot, lv_has ls' nL (evL (ev ad xs bS) lv') → W p l e R s m args below meth c H locs cells slots Q (F0 m (pc + ilen i) ls' (evS (ev ad xs bS) st'))) : W p l e R s m args below meth c H locs cells slots Q (F0 m pc ls (evS (ev ad xs bS) st)) := by
  obtain ⟨x, y, r, rfl, h4⟩ := xbil_spec h
  obtain ⟨rfl, rfl⟩ := Prod.mk.inj h4
  exact row x y _ (kk ls hl)
set_option maxHeartbeats 4000000 in
theorem xsimple_ok (hx : p.tables.exec = Jvm.exec) (hb : c.code = cc) {i : Instr} {aux : List Nat}
    (hcl : ∀ k a t, i = .ldc2_w k → aux = a :: t → ∃ own, s.vm.findClass own = some m.cls ∧ (Jvm.Cond.constantLong own k (Int64.ofNat a)).before args s = true)
    {lv lv' : XL} {st st' : List Value} (h : xsimple nL i aux lv st = some (lv', st')) (hl : lv_has ls nL (evL (ev ad xs bS) lv)) (hd : decode cc pc = .ok (i, ilen i))
    (kk : ∀ ls' : Array Slot, lv_has ls' nL (evL (ev ad xs bS) lv') → W p l e R s m args below meth c H locs cells slots Q (F0 m (pc + ilen i) ls' (evS (ev ad xs bS) st'))) : W p l e R s m args below meth c H locs cells slots Q (F0 m pc ls (evS (ev ad xs bS) st)) := by
  unfold xsimple at h
  split at h
  · obtain ⟨rfl, rfl⟩ := Prod.mk.inj (Option.some.inj h)
    exact lv_iconst hx hb hd rfl (kk ls hl)
  · obtain ⟨rfl, rfl⟩ := Prod.mk.inj (Option.some.inj h)
    exact lv_bipush hx hb hd rfl (kk ls hl)
  · obtain ⟨rfl, rfl⟩ := Prod.mk.inj (Option.some.inj h)
    exact lv_sipush hx hb hd rfl (kk ls hl)
  · obtain ⟨rfl, rfl⟩ := Prod.mk.inj (Option.some.inj h)
    exact lv_null hx hb hd (kk ls hl)
  · rename_i d
    cases hz : Nat.beq d.val 0 with
    | false => rw [hz] at h; cases h
    | true =>
      rw [hz] at h
      obtain ⟨rfl, rfl⟩ := Prod.mk.inj (Option.some.inj h)
      have e0 : d = 0 := Fin.ext (Nat.eq_of_beq_eq_true hz)
      subst e0
      exact lv_dconst0 hx hb hd (kk ls hl)
  · split at h
    · rename_i a t
      obtain ⟨rfl, rfl⟩ := Prod.mk.inj (Option.some.inj h)
      obtain ⟨own, ho, hc⟩ := hcl _ a t rfl rfl
      exact lv_ldc2 hx hb ho hc hd (kk ls hl)
    · cases h
  · refine xw_load (i := .iload _) hx hb h hl (fun v hv hs k => ?_) kk
    obtain ⟨x, hxv⟩ := xint_ev (ad := ad) (xs := xs) (bS := bS) hv
    rw [hxv] at hs k
    exact lv_iload hx hb hd hs k
  · refine xw_load (i := .iload_n _) hx hb h hl (fun v hv hs k => ?_) kk
    obtain ⟨x, hxv⟩ := xint_ev (ad := ad) (xs := xs) (bS := bS) hv
    rw [hxv] at hs k
    exact lv_iload_n hx hb hd rfl hs k
  · refine xw_load (i := .lload _) hx hb h hl (fun v hv hs k => ?_) kk
    obtain ⟨x, hxv⟩ := xlong_ev (ad := ad) (xs := xs) (bS := bS) hv
    rw [hxv] at hs k
    exact lv_lload hx hb hd hs k
  · refine xw_load (i := .lload_n _) hx hb h hl (fun v hv hs k => ?_) kk
    obtain ⟨x, hxv⟩ := xlong_ev (ad := ad) (xs := xs) (bS := bS) hv
    rw [hxv] at hs k
    exact lv_lload_n hx hb hd rfl hs k
  · refine xw_load (i := .dload _) hx hb h hl (fun v hv hs k => ?_) kk
    obtain ⟨x, hxv⟩ := xdbl_ev (ad := ad) (xs := xs) (bS := bS) hv
    rw [hxv] at hs k
    exact lv_dload hx hb hd hs k
  · refine xw_load (i := .aload _) hx hb h hl (fun v hv hs k => ?_) kk
    rcases xref_ev (ad := ad) (xs := xs) (bS := bS) hv with hxv | ⟨x, hxv⟩
    · rw [hxv] at hs k
      exact lv_aloadN hx hb hd hs k
    · rw [hxv] at hs k
      exact lv_aload hx hb hd hs k
  · refine xw_load (i := .aload_n _) hx hb h hl (fun v hv hs k => ?_) kk
    rcases xref_ev (ad := ad) (xs := xs) (bS := bS) hv with hxv | ⟨x, hxv⟩
    · rw [hxv] at hs k
      exact lv_aload_nN hx hb hd rfl hs k
    · rw [hxv] at hs k
      exact lv_aload_n hx hb hd rfl hs k
  · refine xw_store1 (i := .istore _) h (fun v r l' hv hk he k => ?_) kk
    obtain ⟨x, hxv⟩ := xint_ev (ad := ad) (xs := xs) (bS := bS) hv
    rw [hxv] at he ⊢
    exact lv_istore hx hb hd hl hk he k
  · refine xw_store1 (i := .istore_n _) h (fun v r l' hv hk he k => ?_) kk
    obtain ⟨x, hxv⟩ := xint_ev (ad := ad) (xs := xs) (bS := bS) hv
    rw [hxv] at he ⊢
    exact lv_istore_n hx hb hd rfl hl hk he k
  · refine xw_store1 (i := .astore _) h (fun v r l' hv hk he k => ?_) kk
    rcases xref_ev (ad := ad) (xs := xs) (bS := bS) hv with hxv | ⟨x, hxv⟩
    · rw [hxv] at he ⊢
      exact lv_astoreN hx hb hd hl hk he k
    · rw [hxv] at he ⊢
      exact lv_astore hx hb hd hl hk he k
  · refine xw_store1 (i := .astore_n _) h (fun v r l' hv hk he k => ?_) kk
    rcases xref_ev (ad := ad) (xs := xs) (bS := bS) hv with hxv | ⟨x, hxv⟩
    · rw [hxv] at he ⊢
      exact lv_astore_nN hx hb hd rfl hl hk he k
    · rw [hxv] at he ⊢
      exact lv_astore_n hx hb hd rfl hl hk he k
  · refine xw_store2 (i := .lstore _) h (fun v r l' hv hk he k => ?_) kk
    obtain ⟨x, hxv⟩ := xlong_ev (ad := ad) (xs := xs) (bS := bS) hv
    rw [hxv] at he ⊢
    exact lv_lstore hx hb hd hl hk he k
  · refine xw_store2 (i := .lstore_n _) h (fun v r l' hv hk he k => ?_) kk
    obtain ⟨x, hxv⟩ := xlong_ev (ad := ad) (xs := xs) (bS := bS) hv
    rw [hxv] at he ⊢
    exact lv_lstore_n hx hb hd rfl hl hk he k
  · refine xw_store2 (i := .dstore _) h (fun v r l' hv hk he k => ?_) kk
    obtain ⟨x, hxv⟩ := xdbl_ev (ad := ad) (xs := xs) (bS := bS) hv
    rw [hxv] at he ⊢
    exact lv_dstore hx hb hd hl hk he k
  · unfold xinc at h
    split at h
    · rename_i x hk
      split at h
      · rename_i l1 h1
        obtain ⟨rfl, rfl⟩ := Prod.mk.inj (Option.some.inj h)
        obtain ⟨h5, h6⟩ := xst1_ev (ev_cat ad xs bS) h1
        have hmem : (_, Value.int x) ∈ evL (ev ad xs bS) lv := List.mem_map.mpr ⟨_, xlk_mem hk, rfl⟩
        obtain ⟨k9, hk9⟩ := List.getElem?_of_mem hmem
        exact lv_iinc hx hb hd hl hk9 rfl h5 rfl (fun ls' hl' => kk ls' (lv_sub9 hl' h6))
      · cases h
    · cases h
  · exact xw_bin (i := .iadd) h hl (fun x y r k => lv_iadd hx hb hd k) kk
  · exact xw_bin (i := .isub) h hl (fun x y r k => lv_isub hx hb hd k) kk
  · exact xw_bin (i := .imul) h hl (fun x y r k => lv_imul hx hb hd k) kk
  · exact xw_bin (i := .ishl) h hl (fun x y r k => lv_ishl hx hb hd k) kk
  · exact xw_bin (i := .ishr) h hl (fun x y r k => lv_ishr hx hb hd k) kk
  · unfold xand at h
    split at h
    · obtain ⟨rfl, rfl⟩ := Prod.mk.inj (Option.some.inj h)
      exact lv_iand hx hb hd (kk ls hl)
    · cases h
  · unfold xi2l at h
    split at h
    · obtain ⟨rfl, rfl⟩ := Prod.mk.inj (Option.some.inj h)
      exact lv_i2l hx hb hd rfl (kk ls hl)
    · cases h
  · exact xw_bil (i := .ladd) h hl (fun x y r k => lv_ladd hx hb hd k) kk
  · exact xw_bil (i := .lmul) h hl (fun x y r k => lv_lmul hx hb hd k) kk
  · unfold xlcm at h
    split at h
    · obtain ⟨rfl, rfl⟩ := Prod.mk.inj (Option.some.inj h)
      exact W.lcmp hx hb hd (kk ls hl)
    · cases h
  · unfold xdcm at h
    split at h
    · obtain ⟨rfl, rfl⟩ := Prod.mk.inj (Option.some.inj h)
      exact lv_dcmp hx hb hd (kk ls hl)
    · cases h
  · unfold xdup at h
    split at h
    · rename_i v r
      cases hz : Nat.beq v.category 1 with
      | false => rw [hz] at h; cases h
      | true =>
        rw [hz] at h
        obtain ⟨rfl, rfl⟩ := Prod.mk.inj (Option.some.inj h)
        exact lv_dup hx hb hd ((ev_cat ad xs bS v).trans (Nat.eq_of_beq_eq_true hz)) (kk ls hl)
    · cases h
  · unfold xdupx at h
    split at h
    · rename_i v w r
      cases hz : (Nat.beq v.category 1 && Nat.beq w.category 1) with
      | false => rw [hz] at h; cases h
      | true =>
        rw [hz] at h
        obtain ⟨rfl, rfl⟩ := Prod.mk.inj (Option.some.inj h)
        rw [Bool.and_eq_true] at hz
        exact lv_dup_x1 hx hb hd ((ev_cat ad xs bS v).trans (Nat.eq_of_beq_eq_true hz.1)) ((ev_cat ad xs bS w).trans (Nat.eq_of_beq_eq_true hz.2)) (kk ls hl)
    · cases h
  · exact xw_bin (i := .ior) h hl (fun x y r k => lv_ior hx hb hd k) kk
  · exact xw_bin (i := .ixor) h hl (fun x y r k => lv_ixor hx hb hd k) kk
  · exact xw_binz (i := .idiv) h hl (fun x y r hz k => lv_idiv hx hb hd hz k) kk
  · exact xw_binz (i := .irem) h hl (fun x y r hz k => lv_irem hx hb hd hz k) kk
  · unfold xdup2 at h
    split at h
    · rename_i v w r
      cases hz : (Nat.beq v.category 1 && Nat.beq w.category 1) with
      | false => rw [hz] at h; cases h
      | true =>
        rw [hz] at h
        obtain ⟨rfl, rfl⟩ := Prod.mk.inj (Option.some.inj h)
        rw [Bool.and_eq_true] at hz
        exact lv_dup2_11 hx hb hd ((ev_cat ad xs bS v).trans (Nat.eq_of_beq_eq_true hz.1)) ((ev_cat ad xs bS w).trans (Nat.eq_of_beq_eq_true hz.2)) (kk ls hl)
    · cases h
  · unfold xdupx2 at h
    split at h
    · rename_i v w u r
      cases hz : (Nat.beq v.category 1 && (Nat.beq w.category 1 && Nat.beq u.category 1)) with
      | false => rw [hz] at h; cases h
      | true =>
        rw [hz] at h
        obtain ⟨rfl, rfl⟩ := Prod.mk.inj (Option.some.inj h)
        rw [Bool.and_eq_true, Bool.and_eq_true] at hz
        exact lv_dup_x2 hx hb hd ((ev_cat ad xs bS v).trans (Nat.eq_of_beq_eq_true hz.1)) ((ev_cat ad xs bS w).trans (Nat.eq_of_beq_eq_true hz.2.1)) ((ev_cat ad xs bS u).trans (Nat.eq_of_beq_eq_true hz.2.2)) (kk ls hl)
    · cases h
  · unfold xpop at h
    split at h
    · rename_i v r
      cases hz : Nat.beq v.category 1 with
      | false => rw [hz] at h; cases h
      | true =>
        rw [hz] at h
        obtain ⟨rfl, rfl⟩ := Prod.mk.inj (Option.some.inj h)
        exact lv_pop hx hb hd ((ev_cat ad xs bS v).trans (Nat.eq_of_beq_eq_true hz)) (kk ls hl)
    · cases h
  · cases h
end
end XV
end
section
/-! the rows of cells -/
section XK
def evI : Value → Int32
  | .int x => x
  | _ => 0
def evG : Value → Int64
  | .long x => x
  | _ => 0
def evR : Value → Option Nat
  | .ref a => some a
  | _ => none
def evA (E : Value → Value) (ti : Nat) (vs : List Value) : vp_A :=
  match ti with
  | 0 => (vs.length, .inl (fun j => evI (E (vs.getD j (.int 0)))))
  | 1 => (vs.length, .inl (fun j => evI (E (vs.getD j (.int 0)))))
  | 2 => (vs.length, .inr (.inl (fun j => evG (E (vs.getD j (.long 0))))))
  | _ => (vs.length, .inr (.inr (.inr (.inr (fun j => evR (E (vs.getD j .null)))))))
def evC (E : Value → Value) (aC : Nat → ClassId) : XCl → va_E
  | (false, ci, fs) => .inr (ci, fs.map E)
  | (true, ti, vs) => .inl (aC ti, evA E ti vs)
def evH (E : Value → Value) (ad : Nat → Nat) (aC : Nat → ClassId) (h : XH) : va_W := h.map (fun q => (ad q.1, evC E aC q.2))
def xtys (aC : Nat → ClassId) : List (ClassId × FieldType) := [(aC 0, xty 0), (aC 1, xty 1), (aC 2, xty 2), (aC 3, xty 3), (aC 4, xty 4), (aC 5, xty 5), (aC 6, xty 6), (aC 7, xty 7), (aC 8, xty 8)]
theorem xtys_get (aC : Nat → ClassId) {ti : Nat} (h : ti ≤ 8) : (xtys aC)[ti]? = some (aC ti, xty ti) := by
  match ti, h with
  | 0, _ => rfl
  | 1, _ => rfl
  | 2, _ => rfl
  | 3, _ => rfl
  | 4, _ => rfl
  | 5, _ => rfl
  | 6, _ => rfl
  | 7, _ => rfl
  | 8, _ => rfl
  | n + 9, h => omega
theorem xty_obj {ti : Nat} (h : 3 ≤ ti) (h5 : ti ≤ 5) : ∃ C, xty ti = .object C := by
  match ti, h, h5 with
  | 3, _, _ => exact ⟨_, rfl⟩
  | 4, _, _ => exact ⟨_, rfl⟩
  | 5, _, _ => exact ⟨_, rfl⟩
  | n + 6, _, h5 => omega
theorem xty_ref {ti : Nat} (h : 3 ≤ ti) : (xty ti).isReference = true := by
  match ti, h with
  | 3, _ => rfl
  | 4, _ => rfl
  | 5, _ => rfl
  | 6, _ => rfl
  | 7, _ => rfl
  | n + 8, _ => rfl
theorem xdv_ref {ti : Nat} (h : 3 ≤ ti) : xdv ti = .null := by
  match ti, h with
  | n + 3, _ => rfl
theorem xnth_eq {α : Type} : ∀ (l : List α) (k : Nat), xnth l k = l[k]?
  | [], _ => by simp [xnth]
  | _ :: _, 0 => by simp [xnth]
  | _ :: t, k + 1 => by simp [xnth, xnth_eq t k]
theorem xset_eq : ∀ (l : List Value) (k : Nat) (v : Value), xset l k v = l.set k v
  | [], _, _ => by simp [xset]
  | _ :: _, 0, _ => by simp [xset]
  | _ :: t, k + 1, v => by simp [xset, xset_eq t k v]
theorem evA_len (E : Value → Value) (ti : Nat) (vs : List Value) : (evA E ti vs).1 = vs.length := by unfold evA; split <;> rfl
theorem xhk_get {E : Value → Value} {ad : Nat → Nat} {aC : Nat → ClassId} {o : Nat} {c : XCl} : ∀ {h : XH}, xhk h o = some c → ∃ q0, (evH E ad aC h)[q0]? = some (ad o, evC E aC c) ∧ ∀ d, (evH E ad aC h).set q0 (ad o, evC E aC d) = evH E ad aC (xhs h o d)
  | [], h => nomatch h
  | (j, c') :: t, h => by
    unfold xhk at h
    cases hb : Nat.beq j o with
    | true =>
      rw [hb] at h
      have e1 : c' = c := Option.some.inj h
      have e2 := Nat.eq_of_beq_eq_true hb
      subst e1; subst e2
      refine ⟨0, rfl, fun d => ?_⟩
      unfold xhs
      rw [hb]
      rfl
    | false =>
      rw [hb] at h
      obtain ⟨q0, h1, h2⟩ := xhk_get (E := E) (ad := ad) (aC := aC) h
      refine ⟨q0 + 1, by simpa [evH] using h1, fun d => ?_⟩
      unfold xhs
      rw [hb]
      show (_ :: (evH E ad aC t).set q0 _) = _
      rw [h2 d]
      rfl
theorem xov_ev {ad ad' : Nat → Nat} {xs : Nat → Int32} {bS n : Nat} (ha : ∀ j, j < n → ad' j = ad j) {v : Value} (h : xov n v = true) : ev ad' xs bS v = ev ad xs bS v := by
  cases v with
  | ref k => exact congrArg Value.ref (ha k (Nat.le_of_ble_eq_true h))
  | _ => rfl
theorem xoS_ev {ad ad' : Nat → Nat} {xs : Nat → Int32} {bS n : Nat} (ha : ∀ j, j < n → ad' j = ad j) {st : List Value} (h : xoS n st = true) : evS (ev ad' xs bS) st = evS (ev ad xs bS) st :=
  List.map_congr_left fun v hv => xov_ev ha (List.all_eq_true.mp h v hv)
theorem xoL_ev {ad ad' : Nat → Nat} {xs : Nat → Int32} {bS n : Nat} (ha : ∀ j, j < n → ad' j = ad j) {lv : XL} (h : xoL n lv = true) : evL (ev ad' xs bS) lv = evL (ev ad xs bS) lv :=
  List.map_congr_left fun q hq => by rw [xov_ev ha (List.all_eq_true.mp h q hq)]
theorem evC_congr {E E' : Value → Value} {aC : Nat → ClassId} {c : XCl} (h : ∀ v ∈ c.2.2, E' v = E v) (hi : E' (.int 0) = E (.int 0)) (hl : E' (.long 0) = E (.long 0)) (hn : E' .null = E .null) : evC E' aC c = evC E aC c := by
  obtain ⟨b, ti, vs⟩ := c
  have hg : ∀ (d : Value), E' d = E d → ∀ j, E' (vs.getD j d) = E (vs.getD j d) := by
    intro d hd j
    rw [List.getD_eq_getElem?_getD]
    cases hj : vs[j]? with
    | none => exact hd
    | some v => exact h v (List.mem_of_getElem? hj)
  cases b with
  | false => exact congrArg (fun z => Sum.inr (ti, z)) (List.map_congr_left h)
  | true =>
    show Sum.inl (aC ti, evA E' ti vs) = Sum.inl (aC ti, evA E ti vs)
    refine congrArg (fun z => Sum.inl (aC ti, z)) ?_
    unfold evA
    split
    · simp only [hg _ hi]
    · simp only [hg _ hi]
    · simp only [hg _ hl]
    · simp only [hg _ hn]
theorem xoH_ev {ad ad' : Nat → Nat} {xs : Nat → Int32} {bS n : Nat} {aC : Nat → ClassId} (ha : ∀ j, j < n → ad' j = ad j) {h : XH} (hh : xoH n h = true) : evH (ev ad' xs bS) ad' aC h = evH (ev ad xs bS) ad aC h :=
  List.map_congr_left fun q hq => by
    have h1 := List.all_eq_true.mp hh q hq
    rw [Bool.and_eq_true] at h1
    rw [ha _ (Nat.le_of_ble_eq_true h1.1), evC_congr (E := ev ad xs bS) (fun v hv => xov_ev ha (List.all_eq_true.mp h1.2 v hv)) rfl rfl rfl]
theorem xal_spec {n : Nat} {lv : XL} {st : List Value} {h : XH} (hh : xal n lv st h = true) : xoL n lv = true ∧ xoS n st = true ∧ xoH n h = true := by
  unfold xal at hh
  rw [Bool.and_eq_true, Bool.and_eq_true] at hh
  exact hh
theorem xRA_inj {s : State} {c1 c2 : ClassId} {ty : FieldType} (h1 : va_RA s c1 ty) (h2 : va_RA s c2 ty) : c1 = c2 := by
  cases ty with
  | object C =>
    obtain ⟨_, _, _, _, _, a⟩ := h1
    obtain ⟨_, _, _, _, _, b⟩ := h2
    exact Option.some.inj (a.symm.trans b)
  | _ =>
    have a : s.vm.findClass _ = some c1 := h1
    have b : s.vm.findClass _ = some c2 := h2
    exact Option.some.inj (a.symm.trans b)
theorem xfit_ok {ad : Nat → Nat} {xs : Nat → Int32} {bS : Nat} {ty : FieldType} {v : Value} (h : xfit ty v = true) : narrow ty (ev ad xs bS v) = ev ad xs bS v ∧ fits ty (ev ad xs bS v) = true := by
  unfold xfit at h
  split at h
  · exact ⟨rfl, rfl⟩
  · exact ⟨rfl, rfl⟩
  · rename_i x
    simp only [Bool.or_eq_true, decide_eq_true_eq] at h
    rcases h with rfl | rfl
    · exact ⟨show narrow .boolean (.int 0) = .int 0 by decide, show fits .boolean (.int 0) = true by decide⟩
    · exact ⟨show narrow .boolean (.int 1) = .int 1 by decide, show fits .boolean (.int 1) = true by decide⟩
  · rcases xref_ev (ad := ad) (xs := xs) (bS := bS) h with e | ⟨a, e⟩ <;> rw [e] <;> exact ⟨rfl, rfl⟩
  · rcases xref_ev (ad := ad) (xs := xs) (bS := bS) h with e | ⟨a, e⟩ <;> rw [e] <;> exact ⟨rfl, rfl⟩
  · cases h
theorem xcls_ok {ci : Nat} {C : String} {T : u_T} {N : Nat} (h : classes[ci]? = some (C, T, N)) : N = xNf ci ∧ (∀ k, k < N → parseFieldDescriptor (T k).2.2.1 = some (xTy ci k)) ∧ (∀ a, a < N → ∀ b, b < N → a ≠ b → (T a).2.1 ≠ (T b).2.1) := by
  match ci, h with
  | 0, h => cases h; exact ⟨rfl, xY0_ok, xN0⟩
  | 1, h => cases h; exact ⟨rfl, xY1_ok, xN1⟩
  | 2, h => cases h; exact ⟨rfl, xY2_ok, xN2⟩
  | 3, h => cases h; exact ⟨rfl, xY3_ok, xN3⟩
  | 4, h => cases h; exact ⟨rfl, xY4_ok, xN4⟩
  | 5, h => cases h; exact ⟨rfl, xY5_ok, xN5⟩
  | 6, h => cases h; exact ⟨rfl, xY6_ok, xN6⟩
  | 7, h => cases h; exact ⟨rfl, xY7_ok, xN7⟩
  | 8, h => cases h; exact ⟨rfl, xY8_ok, xN8⟩
  | 9, h => cases h; exact ⟨rfl, xY9_ok, xN9⟩
  | 10, h => cases h; exact ⟨rfl, xY10_ok, xN10⟩
  | 11, h => cases h; exact ⟨rfl, xY11_ok, xN11⟩
  | n + 12, h => simp [classes] at h
theorem xTy_nf (ci k : Nat) : xTy ci k ≠ .float := by
  unfold xTy
  split
  · unfold xY0; split <;> simp
  · unfold xY1; split <;> simp
  · unfold xY2; split <;> simp
  · unfold xY3; split <;> simp
  · unfold xY4; split <;> simp
  · unfold xY5; split <;> simp
  · unfold xY6; split <;> simp
  · unfold xY7; split <;> simp
  · unfold xY8; split <;> simp
  · unfold xY9; split <;> simp
  · unfold xY10; split <;> simp
  · unfold xY11; split <;> simp
theorem ev_def {ad : Nat → Nat} {xs : Nat → Int32} {bS : Nat} {t : FieldType} (h : t ≠ .float) : ev ad xs bS (defaultValue t) = defaultValue t := by
  cases t <;> first | rfl | exact absurd rfl h
theorem xD_ev {ad : Nat → Nat} {xs : Nat → Int32} {bS : Nat} (ci : Nat) : (xD ci).map (ev ad xs bS) = xD ci := by
  unfold xD
  rw [List.map_map]
  exact List.map_congr_left fun k _ => ev_def (xTy_nf ci k)
theorem xD_at {ci j : Nat} (h : j < xNf ci) : defaultValue (xTy ci j) = vp_V (xD ci) j := by
  simp [vp_V, xD, h]
theorem getD_rep {α : Type} (n j : Nat) (a : α) : (List.replicate n a).getD j a = a := by
  rw [List.getD_eq_getElem?_getD, List.getElem?_replicate]
  split <;> rfl
theorem evA_rep {ad : Nat → Nat} {xs : Nat → Int32} {bS : Nat} {ti : Nat} (n : Nat) (cA : ClassId) : vp_cell cA (evA (ev ad xs bS) ti (List.replicate n (xdv ti))) = arrV cA n (fun _ => defaultValue (xty ti)) := by
  match ti with
  | 0 =>
    show vp_cell cA ((List.replicate n (Value.int 0)).length, .inl (fun j => evI (ev ad xs bS ((List.replicate n (Value.int 0)).getD j (.int 0))))) = _
    simp only [getD_rep, List.length_replicate]; rfl
  | 1 =>
    show vp_cell cA ((List.replicate n (Value.int 0)).length, .inl (fun j => evI (ev ad xs bS ((List.replicate n (Value.int 0)).getD j (.int 0))))) = _
    simp only [getD_rep, List.length_replicate]; rfl
  | 2 =>
    show vp_cell cA ((List.replicate n (Value.long 0)).length, .inr (.inl (fun j => evG (ev ad xs bS ((List.replicate n (Value.long 0)).getD j (.long 0)))))) = _
    simp only [getD_rep, List.length_replicate]; rfl
  | 3 =>
    show vp_cell cA ((List.replicate n Value.null).length, .inr (.inr (.inr (.inr (fun j => evR (ev ad xs bS ((List.replicate n Value.null).getD j .null))))))) = _
    simp only [getD_rep, List.length_replicate]; rfl
  | 4 =>
    show vp_cell cA ((List.replicate n Value.null).length, .inr (.inr (.inr (.inr (fun j => evR (ev ad xs bS ((List.replicate n Value.null).getD j .null))))))) = _
    simp only [getD_rep, List.length_replicate]; rfl
  | 5 =>
    show vp_cell cA ((List.replicate n Value.null).length, .inr (.inr (.inr (.inr (fun j => evR (ev ad xs bS ((List.replicate n Value.null).getD j .null))))))) = _
    simp only [getD_rep, List.length_replicate]; rfl
  | 6 =>
    show vp_cell cA ((List.replicate n Value.null).length, .inr (.inr (.inr (.inr (fun j => evR (ev ad xs bS ((List.replicate n Value.null).getD j .null))))))) = _
    simp only [getD_rep, List.length_replicate]; rfl
  | 7 =>
    show vp_cell cA ((List.replicate n Value.null).length, .inr (.inr (.inr (.inr (fun j => evR (ev ad xs bS ((List.replicate n Value.null).getD j .null))))))) = _
    simp only [getD_rep, List.length_replicate]; rfl
  | k + 8 =>
    show vp_cell cA ((List.replicate n Value.null).length, .inr (.inr (.inr (.inr (fun j => evR (ev ad xs bS ((List.replicate n Value.null).getD j .null))))))) = _
    simp only [getD_rep, List.length_replicate]; rfl
theorem evA_repq {ad : Nat → Nat} {xs : Nat → Int32} {bS : Nat} {ti : Nat} (h : 3 ≤ ti) (n : Nat) : evA (ev ad xs bS) ti (List.replicate n (xdv ti)) = (n, .inr (.inr (.inr (.inr (fun _ => none))))) := by
  match ti, h with
  | k + 3, _ =>
    have e : xdv (k + 3) = .null := by unfold xdv; split <;> first | rfl | omega
    rw [e]
    show (((List.replicate n Value.null).length, .inr (.inr (.inr (.inr (fun j => evR (ev ad xs bS ((List.replicate n Value.null).getD j .null))))))) : vp_A) = _
    simp only [getD_rep, List.length_replicate]; rfl
theorem xix_spec {i : Int32} {n j : Nat} (h : xix i n = some j) : vp_in i n ∧ i.toNatClampNeg = j ∧ j < n := by
  unfold xix at h
  cases h1 : decide (i < 0) with
  | true => rw [h1] at h; cases h
  | false =>
    rw [h1] at h
    cases h2 : Nat.ble (i.toNatClampNeg + 1) n with
    | false => rw [h2] at h; cases h
    | true =>
      rw [h2] at h
      have e : i.toNatClampNeg = j := Option.some.inj h
      have h3 := Nat.le_of_ble_eq_true h2
      refine ⟨?_, e, by omega⟩
      rintro (q | q)
      · exact absurd q (of_decide_eq_false h1)
      · omega
theorem getD_at {α : Type} {l : List α} {j : Nat} {v d : α} (h : l[j]? = some v) : l.getD j d = v := by
  rw [List.getD_eq_getElem?_getD, h]; rfl
theorem getD_put {α : Type} {l : List α} {j : Nat} (v d : α) (hj : j < l.length) (k : Nat) : (l.set j v).getD k d = if k = j then v else l.getD k d := by
  rw [List.getD_eq_getElem?_getD, List.getD_eq_getElem?_getD, List.getElem?_set]
  by_cases h : j = k
  · subst h; simp [hj]
  · rw [if_neg h, if_neg (fun z => h z.symm)]
theorem xald_spec {ok : Value → Bool} {oti : Nat → Bool} {st : List Value} {σ : XS} {q : List Value × XS} (h : xald ok oti st σ = some q) : ∃ i o r ti vs j v, st = .int i :: .ref o :: r ∧ xhk σ.2.1 o = some (true, ti, vs) ∧ oti ti = true ∧ xix i vs.length = some j ∧ vs[j]? = some v ∧ ok v = true ∧ q = (v :: r, σ) := by
  unfold xald at h
  split at h
  · rename_i i o r
    split at h
    · rename_i ti vs hk
      cases h1 : oti ti with
      | false => rw [h1] at h; cases h
      | true =>
        rw [h1] at h
        simp only [cond_true] at h
        split at h
        · rename_i j hj
          split at h
          · rename_i v hv
            cases h2 : ok v with
            | false => rw [h2] at h; cases h
            | true =>
              rw [h2] at h
              rw [xnth_eq] at hv
              exact ⟨i, o, r, ti, vs, j, v, rfl, hk, h1, hj, hv, h2, (Option.some.inj h).symm⟩
          · cases h
        · cases h
    · cases h
  · cases h
theorem xast_spec {ok : Value → Bool} {oti : Nat → Bool} {st : List Value} {σ : XS} {q : List Value × XS} (h : xast ok oti st σ = some q) : ∃ v i o r ti vs j, st = v :: .int i :: .ref o :: r ∧ xhk σ.2.1 o = some (true, ti, vs) ∧ oti ti = true ∧ ok v = true ∧ xix i vs.length = some j ∧ q = (r, (σ.1, xhs σ.2.1 o (true, ti, vs.set j v), σ.2.2)) := by
  unfold xast at h
  split at h
  · rename_i v i o r
    split at h
    · rename_i ti vs hk
      cases h1 : (oti ti && ok v) with
      | false => rw [h1] at h; cases h
      | true =>
        rw [h1] at h
        rw [Bool.and_eq_true] at h1
        simp only [cond_true] at h
        split at h
        · rename_i j hj
          rw [xset_eq] at h
          exact ⟨v, i, o, r, ti, vs, j, rfl, hk, h1.1, h1.2, hj, (Option.some.inj h).symm⟩
        · cases h
    · cases h
  · cases h
/-- what an instruction that touches cells wants of the tables -/
def xvh (Ts : List Jvm.Cond) (own : String) (init : Bool) (i : Instr) (aux : List Nat) : Prop :=
  match i with
  | .getfield idx => ∀ ci k t, aux = ci :: k :: t → ∃ C T N, classes[ci]? = some (C, T, N) ∧ k < N ∧ Jvm.Cond.fieldLink own idx (T k).1 (T k).2.1 (T k).2.2.1 ∈ Ts
  | .putfield idx => ∀ ci k t, aux = ci :: k :: t → ∃ C T N, classes[ci]? = some (C, T, N) ∧ k < N ∧ Jvm.Cond.fieldLink own idx (T k).1 (T k).2.1 (T k).2.2.1 ∈ Ts ∧ ((T k).2.2.2 = false ∨ ((T k).2.2.2 = true ∧ init = true ∧ (T k).1 = own))
  | .new idx => ∀ ci t, aux = ci :: t → ∃ C T N, classes[ci]? = some (C, T, N) ∧ Jvm.Cond.classLink own idx C ∈ Ts ∧ Jvm.Cond.instantiable C N ∈ Ts ∧ Jvm.Cond.initialized C ∈ Ts
  | .newarray a => ∀ ti t, aux = ti :: t → ti ≤ 2 ∧ newarray.typeOf a = xty ti ∧ Jvm.Cond.arrayClass (newarray.typeOf a) ∈ Ts
  | .anewarray idx => ∀ ti t, aux = ti :: t → (3 ≤ ti ∧ ti ≤ 5 ∧ ∃ C, xty ti = .object C ∧ Jvm.Cond.classLink own idx C ∈ Ts) ∨ (ti = 6 ∧ Jvm.Cond.classLink own idx "[I" ∈ Ts)
  | .multianewarray idx d => (d = 2 → ∀ to ti t, aux = to :: ti :: t → (to = 6 ∧ ti = 0 ∧ Jvm.Cond.arrayClass .int ∈ Ts ∧ Jvm.Cond.classLink own idx "[[I" ∈ Ts) ∨ (to = 7 ∧ ti = 1 ∧ Jvm.Cond.arrayClass .boolean ∈ Ts ∧ Jvm.Cond.classLink own idx "[[Z" ∈ Ts) ∨ (to = 8 ∧ ti = 6 ∧ Jvm.Cond.classLink own idx "[[[I" ∈ Ts)) ∧ (d = 3 → Jvm.Cond.arrayClass .int ∈ Ts ∧ Jvm.Cond.classLink own idx "[[[I" ∈ Ts)
  | _ => True
end XK
end
section
section XM
variable {p : Program} {l : Launch} {e : Env} {R : Room} {s : State} {m : MethodId} {args : Array Value} {below : List Frame} {meth : Method} {c : Code} {H : Heap} {locs : List Loc} {Q : State → Prop}
variable {cc : ByteArray} {pc nL : Nat} {ls : Array Slot} {ad : Nat → Nat} {xs : Nat → Int32} {bS : Nat} {aC : Nat → ClassId} {D : va_G} {A : Nat → Prop} {own : String} {Ts : List Jvm.Cond}
/-- where the walk goes on behind an instruction that touches cells -/
def xgo (p : Program) (l : Launch) (e : Env) (R : Room) (s : State) (m : MethodId) (args : Array Value) (below : List Frame) (meth : Method) (c : Code) (Q : State → Prop) (ad : Nat → Nat) (xs : Nat → Int32) (bS : Nat) (aC : Nat → ClassId) (D : va_G) (A : Nat → Prop) (lv : XL) (n : Nat) (pc : Nat) (ls : Array Slot) (st' : List Value) (σ' : XS) (nL : Nat) : Prop :=
  ∀ (ad' : Nat → Nat) (H1 : Heap) (locs1 : List Loc), (∀ j, j < n → ad' j = ad j) → n ≤ σ'.2.2.1 → va_P D classes (evH (ev ad' xs bS) ad' aC σ'.2.1) H1 → va_D A (evH (ev ad' xs bS) ad' aC σ'.2.1) → va_S A s.heap H1 locs1 → lv_has ls nL (evL (ev ad' xs bS) lv) →
    W p l e R s m args below meth c H1 locs1 σ'.2.2.2.1 σ'.2.2.2.2 Q (F0 m pc ls (evS (ev ad' xs bS) st'))
theorem xw_get (hx : p.tables.exec = Jvm.exec) (hb : c.code = cc) (hts : ∀ w ∈ Ts, w.before args s = true) (hcw : ∀ (ci : Nat) (C : String) (T : u_T) (N : Nat), classes[ci]? = some (C, T, N) → ∀ w ∈ u_ws C T N, w ∈ Ts) (hown : s.vm.findClass own = some m.cls) (hK : va_K D classes (xtys aC) s)
    {idx : Nat} {aux : List Nat} {init : Bool} (hv : xvh Ts own init (.getfield idx) aux) {lv : XL} {st st' : List Value} {σ σ' : XS} (h : xget aux st σ = some (st', σ'))
    (hP : va_P D classes (evH (ev ad xs bS) ad aC σ.2.1) H) (hD : va_D A (evH (ev ad xs bS) ad aC σ.2.1)) (hS : va_S A s.heap H locs) (hl : lv_has ls nL (evL (ev ad xs bS) lv)) (hd : decode cc pc = .ok (.getfield idx, 3))
    (kk : xgo p l e R s m args below meth c Q ad xs bS aC D A lv σ.2.2.1 (pc + 3) ls st' σ' nL) : W p l e R s m args below meth c H locs σ.2.2.2.1 σ.2.2.2.2 Q (F0 m pc ls (evS (ev ad xs bS) st)) := by
  unfold xget at h
  split at h
  · rename_i ci k t o r
    split at h
    · rename_i cj fs hk
      cases h1 : Nat.beq ci cj with
      | false => rw [h1] at h; cases h
      | true =>
        rw [h1] at h
        simp only [cond_true] at h
        split at h
        · rename_i v hv2
          rw [xnth_eq] at hv2
          obtain ⟨rfl, rfl⟩ := Prod.mk.inj (Option.some.inj h)
          have e1 := Nat.eq_of_beq_eq_true h1
          subst e1
          obtain ⟨C, T, N, hc, hkN, hw⟩ := hv ci k t rfl
          obtain ⟨q0, hq, -⟩ := xhk_get (E := ev ad xs bS) (ad := ad) (aC := aC) hk
          refine va_get (own := own) (ref := (T k).1) (C := C) (T := T) (N := N) (ci := ci) (fs := fs.map (ev ad xs bS)) hx hb hts (hcw ci C T N hc) hown hK hP q0 hq hc k hkN (hts _ hw) (fun _ z => z) (v := ev ad xs bS v) (by rw [List.getElem?_map, hv2]; rfl) hd ?_
          exact kk ad H locs (fun _ _ => rfl) (Nat.le_refl _) hP hD hS hl
        · cases h
    · cases h
  · cases h
theorem xw_put (hx : p.tables.exec = Jvm.exec) (hb : c.code = cc) (hts : ∀ w ∈ Ts, w.before args s = true) (hcw : ∀ (ci : Nat) (C : String) (T : u_T) (N : Nat), classes[ci]? = some (C, T, N) → ∀ w ∈ u_ws C T N, w ∈ Ts) (hown : s.vm.findClass own = some m.cls) (hK : va_K D classes (xtys aC) s)
    {idx : Nat} {aux : List Nat} {init : Bool} (hin : init = true → meth.name = "<init>") (hv : xvh Ts own init (.putfield idx) aux) {lv : XL} {st st' : List Value} {σ σ' : XS} (h : xput aux st σ = some (st', σ'))
    (hP : va_P D classes (evH (ev ad xs bS) ad aC σ.2.1) H) (hD : va_D A (evH (ev ad xs bS) ad aC σ.2.1)) (hS : va_S A s.heap H locs) (hl : lv_has ls nL (evL (ev ad xs bS) lv)) (hd : decode cc pc = .ok (.putfield idx, 3))
    (kk : xgo p l e R s m args below meth c Q ad xs bS aC D A lv σ.2.2.1 (pc + 3) ls st' σ' nL) : W p l e R s m args below meth c H locs σ.2.2.2.1 σ.2.2.2.2 Q (F0 m pc ls (evS (ev ad xs bS) st)) := by
  unfold xput at h
  split at h
  · rename_i ci k t v o r
    split at h
    · rename_i cj fs hk
      cases h1 : (Nat.beq ci cj && (xfit (xTy ci k) v && Nat.ble (k + 1) fs.length)) with
      | false => rw [h1] at h; cases h
      | true =>
        rw [h1] at h
        simp only [Bool.and_eq_true] at h1
        obtain ⟨h2, h3, h4⟩ := h1
        rw [xset_eq] at h
        obtain ⟨rfl, rfl⟩ := Prod.mk.inj (Option.some.inj h)
        have e1 := Nat.eq_of_beq_eq_true h2
        subst e1
        obtain ⟨C, T, N, hc, hkN, hw, hf⟩ := hv ci k t rfl
        obtain ⟨q0, hq, hset⟩ := xhk_get (E := ev ad xs bS) (ad := ad) (aC := aC) hk
        obtain ⟨hN, hty, hnm⟩ := xcls_ok hc
        obtain ⟨hn, hfit⟩ := xfit_ok (ad := ad) (xs := xs) (bS := bS) h3
        have hlen : k < (fs.map (ev ad xs bS)).length := by rw [List.length_map]; exact Nat.le_of_ble_eq_true h4
        have hset2 : (evH (ev ad xs bS) ad aC σ.2.1).set q0 (ad o, .inr (ci, (fs.map (ev ad xs bS)).set k (ev ad xs bS v))) = evH (ev ad xs bS) ad aC (xhs σ.2.1 o (false, ci, fs.set k v)) := by
          rw [← hset (false, ci, fs.set k v), ← List.map_set]; rfl
        rcases hf with hf | ⟨hf, hi, hdecl⟩
        · refine va_put (own := own) (ref := (T k).1) (C := C) (T := T) (N := N) (ci := ci) (fs := fs.map (ev ad xs bS)) hx hb hts (hcw ci C T N hc) (xTy ci) hty hnm hown hK hP hD hS q0 hq hc k hkN (hts _ hw) (fun _ z => z) hf (ty := xTy ci k) (hty k hkN) hn hfit hlen hd (fun H1 locs1 p1 d1 s1 => ?_)
          rw [hset2] at p1 d1
          exact kk ad H1 locs1 (fun _ _ => rfl) (Nat.le_refl _) p1 d1 s1 hl
        · refine va_putF (own := own) (ref := (T k).1) (C := C) (T := T) (N := N) (ci := ci) (fs := fs.map (ev ad xs bS)) hx hb hts (hcw ci C T N hc) (xTy ci) hty hnm hown hK hP hD hS q0 hq hc k hkN (hts _ hw) (fun _ z => z) hf (hin hi) hdecl (ty := xTy ci k) (hty k hkN) hn hfit hlen hd (fun H1 locs1 p1 d1 s1 => ?_)
          rw [hset2] at p1 d1
          exact kk ad H1 locs1 (fun _ _ => rfl) (Nat.le_refl _) p1 d1 s1 hl
    · cases h
  · cases h
theorem xal_tail {n : Nat} {lv : XL} {v : Value} {r : List Value} {h : XH} (hh : xal n lv (v :: r) h = true) : xal n lv r h = true := by
  unfold xal at hh ⊢
  rw [Bool.and_eq_true, Bool.and_eq_true] at hh ⊢
  refine ⟨hh.1, ?_, hh.2.2⟩
  have h2 := hh.2.1
  unfold xoS at h2 ⊢
  rw [List.all_cons, Bool.and_eq_true] at h2
  exact h2.2
/-- one thing more, at a new address -/
theorem xnew_go {lv : XL} {r st' : List Value} {σ σ' : XS} {cl : XCl} {ns : Nat} (h : xnew R lv r σ cl ns = some (st', σ')) (hwf : xal σ.2.2.1 lv r σ.2.1 = true) (hdef : ∀ ad', evC (ev ad' xs bS) aC cl = evC (ev ad xs bS) aC cl) (hl : lv_has ls nL (evL (ev ad xs bS) lv))
    (kk : xgo p l e R s m args below meth c Q ad xs bS aC D A lv σ.2.2.1 pc ls st' σ' nL) :
    σ.2.2.2.1 + 1 ≤ R.cells ∧ σ.2.2.2.2 + ns ≤ R.slots ∧ ∀ (q : Nat) (H1 : Heap), va_P D classes (evH (ev ad xs bS) ad aC σ.2.1 ++ [(q, evC (ev ad xs bS) aC cl)]) H1 → va_D A (evH (ev ad xs bS) ad aC σ.2.1 ++ [(q, evC (ev ad xs bS) aC cl)]) → ∀ locs1, va_S A s.heap H1 locs1 →
      W p l e R s m args below meth c H1 locs1 (σ.2.2.2.1 + 1) (σ.2.2.2.2 + ns) Q (F0 m pc ls (.ref q :: evS (ev ad xs bS) r)) := by
  obtain ⟨pe, hh, n, ce, sl⟩ := σ
  unfold xnew at h
  dsimp only at h
  cases h1 : (Nat.ble (ce + 1) R.cells && Nat.ble (sl + ns) R.slots) with
  | false => rw [h1] at h; cases h
  | true =>
    rw [h1] at h
    simp only [Bool.and_eq_true] at h1
    obtain ⟨h3, h4⟩ := h1
    have h2 := hwf
    obtain ⟨rfl, rfl⟩ := Prod.mk.inj (Option.some.inj h)
    obtain ⟨oL, oS, oH⟩ := xal_spec h2
    refine ⟨Nat.le_of_ble_eq_true h3, Nat.le_of_ble_eq_true h4, fun q H1 hP hD locs1 hS => ?_⟩
    have ha : ∀ j, j < n → (fun j => if j = n then q else ad j) j = ad j := fun j hj => if_neg (Nat.ne_of_lt hj)
    have e1 : evH (ev (fun j => if j = n then q else ad j) xs bS) (fun j => if j = n then q else ad j) aC (hh ++ [(n, cl)]) = evH (ev ad xs bS) ad aC hh ++ [(q, evC (ev ad xs bS) aC cl)] := by
      have := xoH_ev (xs := xs) (bS := bS) (aC := aC) ha oH
      unfold evH at this ⊢
      rw [List.map_append, this]
      simp [hdef]
    have e2 : evS (ev (fun j => if j = n then q else ad j) xs bS) (.ref n :: r) = .ref q :: evS (ev ad xs bS) r := by
      have := xoS_ev (xs := xs) (bS := bS) ha oS
      unfold evS at this ⊢
      rw [List.map_cons, this]
      simp [ev]
    have := kk (fun j => if j = n then q else ad j) H1 locs1 ha (Nat.le_succ n) (by dsimp only; rw [e1]; exact hP) (by dsimp only; rw [e1]; exact hD) hS (by rw [xoL_ev ha oL]; exact hl)
    dsimp only at this
    rw [e2] at this
    exact this
theorem xcomp {ti n : Nat} (h : n ≤ 1000) : n * componentBytes (xty ti) ≤ 536870912 := by
  have : componentBytes (xty ti) ≤ 8 := by
    unfold xty
    split <;> decide
  calc n * componentBytes (xty ti) ≤ 1000 * 8 := Nat.mul_le_mul h this
    _ ≤ 536870912 := Nat.le_of_ble_eq_true rfl
theorem xw_newo (hx : p.tables.exec = Jvm.exec) (hb : c.code = cc) (hts : ∀ w ∈ Ts, w.before args s = true) (hcw : ∀ (ci : Nat) (C : String) (T : u_T) (N : Nat), classes[ci]? = some (C, T, N) → ∀ w ∈ u_ws C T N, w ∈ Ts) (hown : s.vm.findClass own = some m.cls) (hK : va_K D classes (xtys aC) s) (hA : ∀ q, s.heap.size ≤ q → A q)
    {idx : Nat} {aux : List Nat} {init : Bool} (hv : xvh Ts own init (.new idx) aux) {lv : XL} {st st' : List Value} {σ σ' : XS} (hwf : xal σ.2.2.1 lv st σ.2.1 = true) (h : xnewo R aux lv st σ = some (st', σ'))
    (hP : va_P D classes (evH (ev ad xs bS) ad aC σ.2.1) H) (hD : va_D A (evH (ev ad xs bS) ad aC σ.2.1)) (hS : va_S A s.heap H locs) (hl : lv_has ls nL (evL (ev ad xs bS) lv)) (hd : decode cc pc = .ok (.new idx, 3))
    (kk : xgo p l e R s m args below meth c Q ad xs bS aC D A lv σ.2.2.1 (pc + 3) ls st' σ' nL) : W p l e R s m args below meth c H locs σ.2.2.2.1 σ.2.2.2.2 Q (F0 m pc ls (evS (ev ad xs bS) st)) := by
  unfold xnewo at h
  split at h
  · rename_i ci t
    obtain ⟨C, T, N, hc, w1, w2, w3⟩ := hv ci t rfl
    obtain ⟨rfl, hty, hnm⟩ := xcls_ok hc
    have ed : ∀ ad2, evC (ev ad2 xs bS) aC (false, ci, xD ci) = .inr (ci, xD ci) := fun ad2 => by show Sum.inr (ci, (xD ci).map (ev ad2 xs bS)) = _; rw [xD_ev]
    obtain ⟨b1, b2, b3⟩ := xnew_go h hwf (fun ad' => (ed ad').trans (ed ad).symm) hl kk
    refine va_new (own := own) (C := C) (T := T) (ci := ci) (fs := xD ci) hx hb hts (hcw ci C T _ hc) (xTy ci) hty hown (hts _ w1) (hts _ w2) (hts _ w3) hK hP hD hS hA hc (fun j hj => xD_at hj) b1 b2 hd (fun q H1 hP1 hD1 hS1 => ?_)
    exact b3 q H1 (by rw [ed]; exact hP1) (by rw [ed]; exact hD1) locs hS1
  · cases h
theorem xw_newa (hx : p.tables.exec = Jvm.exec) (hb : c.code = cc) (hts : ∀ w ∈ Ts, w.before args s = true) (hown : s.vm.findClass own = some m.cls) (hK : va_K D classes (xtys aC) s) (hA : ∀ q, s.heap.size ≤ q → A q)
    {a : ArrayType} {aux : List Nat} {init : Bool} (hv : xvh Ts own init (.newarray a) aux) {lv : XL} {st st' : List Value} {σ σ' : XS} (hwf : xal σ.2.2.1 lv st σ.2.1 = true) (h : xnewa R aux lv st σ = some (st', σ'))
    (hP : va_P D classes (evH (ev ad xs bS) ad aC σ.2.1) H) (hD : va_D A (evH (ev ad xs bS) ad aC σ.2.1)) (hS : va_S A s.heap H locs) (hl : lv_has ls nL (evL (ev ad xs bS) lv)) (hd : decode cc pc = .ok (.newarray a, 2))
    (kk : xgo p l e R s m args below meth c Q ad xs bS aC D A lv σ.2.2.1 (pc + 2) ls st' σ' nL) : W p l e R s m args below meth c H locs σ.2.2.2.1 σ.2.2.2.2 Q (F0 m pc ls (evS (ev ad xs bS) st)) := by
  unfold xnewa at h
  split at h
  · rename_i ti t n r
    obtain ⟨ht2, hty, w1⟩ := hv ti t rfl
    cases h1 : decide (n < 0) with
    | true => rw [h1] at h; cases h
    | false =>
      rw [h1] at h
      cases h2 : Nat.ble n.toNatClampNeg 1000 with
      | false => rw [h2] at h; cases h
      | true =>
        rw [h2] at h
        have hn : ¬ n < 0 := of_decide_eq_false h1
        have hle := Nat.le_of_ble_eq_true h2
        have h : xnew R lv r σ (true, ti, List.replicate n.toNatClampNeg (xdv ti)) n.toNatClampNeg = some (st', σ') := h
        have ed : ∀ ad2, vp_cell (aC ti) (evA (ev ad2 xs bS) ti (List.replicate n.toNatClampNeg (xdv ti))) = arrV (aC ti) n.toNatClampNeg (fun _ => defaultValue (xty ti)) := fun ad2 => evA_rep _ _
        have ee : ∀ ad2, evC (ev ad2 xs bS) aC (true, ti, List.replicate n.toNatClampNeg (xdv ti)) = evC (ev ad xs bS) aC (true, ti, List.replicate n.toNatClampNeg (xdv ti)) := fun ad2 =>
          evC_congr (fun v hv => by rw [List.eq_of_mem_replicate hv]; unfold xdv; split <;> rfl) rfl rfl rfl
        obtain ⟨b1, b2, b3⟩ := xnew_go h (xal_tail hwf) ee hl kk
        refine va_newa (atype := a) (ty := xty ti) hx hb (hts _ w1) hty hK hP hD hS hA (a0 := evA (ev ad xs bS) ti (List.replicate n.toNatClampNeg (xdv ti))) (fun cA => evA_rep _ _) hn rfl (xcomp hle) b1 b2 hd (fun q cA H1 hK1 hP1 hD1 hS1 => ?_)
        have g1 : ((xtys aC) ++ [(cA, xty ti)])[ti]? = some (aC ti, xty ti) := by
          rw [List.getElem?_append_left (by show ti < 9; omega)]
          exact xtys_get aC (by omega)
        have g2 : ((xtys aC) ++ [(cA, xty ti)])[9]? = some (cA, xty ti) := rfl
        have ec : cA = aC ti := xRA_inj (hK1.2 _ _ g2).2 (hK1.2 _ _ g1).2
        subst ec
        exact b3 q H1 hP1 hD1 locs hS1
  · cases h
theorem xw_newq (hx : p.tables.exec = Jvm.exec) (hb : c.code = cc) (hts : ∀ w ∈ Ts, w.before args s = true) (hown : s.vm.findClass own = some m.cls) (hK : va_K D classes (xtys aC) s) (hA : ∀ q, s.heap.size ≤ q → A q) (hAO : ∀ ti C, ti ≤ 5 → xty ti = .object C → va_AO C s) (hAA : ∀ ty, (ty = .array .int ∨ ty = .array .boolean ∨ ty = .array (.array .int)) → (Jvm.Cond.arrayOver ty).before args s = true)
    {idx : Nat} {aux : List Nat} {init : Bool} (hv : xvh Ts own init (.anewarray idx) aux) {lv : XL} {st st' : List Value} {σ σ' : XS} (hwf : xal σ.2.2.1 lv st σ.2.1 = true) (h : xnewa R aux lv st σ = some (st', σ'))
    (hP : va_P D classes (evH (ev ad xs bS) ad aC σ.2.1) H) (hD : va_D A (evH (ev ad xs bS) ad aC σ.2.1)) (hS : va_S A s.heap H locs) (hl : lv_has ls nL (evL (ev ad xs bS) lv)) (hd : decode cc pc = .ok (.anewarray idx, 3))
    (kk : xgo p l e R s m args below meth c Q ad xs bS aC D A lv σ.2.2.1 (pc + 3) ls st' σ' nL) : W p l e R s m args below meth c H locs σ.2.2.2.1 σ.2.2.2.2 Q (F0 m pc ls (evS (ev ad xs bS) st)) := by
  unfold xnewa at h
  split at h
  · rename_i ti t n r
    cases h1 : decide (n < 0) with
    | true => rw [h1] at h; cases h
    | false =>
      rw [h1] at h
      cases h2 : Nat.ble n.toNatClampNeg 1000 with
      | false => rw [h2] at h; cases h
      | true =>
        rw [h2] at h
        have hn : ¬ n < 0 := of_decide_eq_false h1
        have hle := Nat.le_of_ble_eq_true h2
        have h : xnew R lv r σ (true, ti, List.replicate n.toNatClampNeg (xdv ti)) n.toNatClampNeg = some (st', σ') := h
        have ht3 : 3 ≤ ti := by
          rcases hv ti t rfl with ⟨a, -⟩ | ⟨a, -⟩ <;> omega
        have ed : ∀ ad2, evC (ev ad2 xs bS) aC (true, ti, List.replicate n.toNatClampNeg (xdv ti)) = .inl (aC ti, n.toNatClampNeg, .inr (.inr (.inr (.inr (fun _ => none))))) := fun ad2 => by
          show Sum.inl (aC ti, evA (ev ad2 xs bS) ti _) = _
          rw [evA_repq ht3]
        obtain ⟨b1, b2, b3⟩ := xnew_go h (xal_tail hwf) (fun ad' => (ed ad').trans (ed ad).symm) hl kk
        rcases hv ti t rfl with ⟨-, ht5, C, hC, w1⟩ | ⟨rfl, w1⟩
        · refine va_newq (own := own) (C := C) hx hb hown (hts _ w1) (hAO ti C ht5 hC) hK hP hD hS hA hn rfl (by omega) b1 b2 hd (fun q cA H1 hK1 hP1 hD1 hS1 => ?_)
          have g1 : ((xtys aC) ++ [(cA, FieldType.object C)])[ti]? = some (aC ti, .object C) := by
            rw [List.getElem?_append_left (by show ti < 9; omega), xtys_get aC (by omega), hC]
          have g2 : ((xtys aC) ++ [(cA, FieldType.object C)])[9]? = some (cA, .object C) := rfl
          have ec : cA = aC ti := xRA_inj (hK1.2 _ _ g2).2 (hK1.2 _ _ g1).2
          subst ec
          exact b3 q H1 (by rw [ed]; exact hP1) (by rw [ed]; exact hD1) locs hS1
        · refine W.anewA (own := own) (t := .int) hx hb hown (hts _ w1) (hAA _ (Or.inl rfl)) rfl hd rfl hn (by omega) b1 b2 (fun cA kA comp f1 f2 f3 f4 => ?_)
          have ec : cA = aC 6 := xRA_inj (ty := .array .int) f1 (hK.2 6 _ (xtys_get aC (by omega))).2
          subst ec
          generalize hH1 : H.push ({ cls := aC 6, slots := Array.replicate n.toNatClampNeg .null, vm := .none } : Cell) = H1
          have z1 : H1.size = H.size + 1 := by rw [← hH1, Array.size_push]
          have e1 : H1[H.size]? = some (arrV (aC 6) n.toNatClampNeg (fun _ => .null)) := by rw [← hH1, Array.getElem?_push_size, ← arrV_new]
          have o1 : ∀ q : Nat, q < H.size → H1[q]? = H[q]? := fun q hq => by rw [← hH1, Array.getElem?_push, if_neg (Nat.ne_of_lt hq)]
          have hk : ∀ (k : Nat) (x : Nat × va_E), (evH (ev ad xs bS) ad aC σ.2.1)[k]? = some x → H1[x.1]? = H[x.1]? := fun k x hx => o1 x.1 ((hP k x hx).lt)
          refine b3 H.size H1 ((hP.kept hk).app (fun k x hx => ?_)) (hD.push hP rfl (hA _ hS.1)) locs ⟨Nat.le_trans hS.1 (by omega), fun x h1 h2 => (o1 x (Nat.lt_of_lt_of_le h1 hS.1)).trans (hS.2.1 x h1 h2), hS.2.2⟩
          have hz : k < 1 := (List.getElem?_eq_some_iff.mp hx).1
          rw [show k = 0 by omega] at hx
          cases hx
          rw [ed]
          show H1[H.size]? = some (vp_cell _ _)
          rw [vp_cell_q]
          exact e1
  · cases h
end XM
end
section
section XO
variable {p : Program} {l : Launch} {e : Env} {R : Room} {s : State} {m : MethodId} {args : Array Value} {below : List Frame} {meth : Method} {c : Code} {H : Heap} {locs : List Loc} {Q : State → Prop}
variable {cc : ByteArray} {pc nL : Nat} {ls : Array Slot} {ad : Nat → Nat} {xs : Nat → Int32} {bS : Nat} {aC : Nat → ClassId} {D : va_G} {A : Nat → Prop} {own : String} {Ts : List Jvm.Cond}
theorem xrefw_at (w : Nat) : ∀ (N n j : Nat), j < N → (xrefw n w N)[j]? = some (.ref (n + j * w))
  | 0, n, j, h => by omega
  | N + 1, n, 0, _ => by simp [xrefw]
  | N + 1, n, j + 1, h => by
    show (xrefw (n + w) w N)[j]? = _
    rw [xrefw_at w N (n + w) j (by omega)]
    exact congrArg (fun z : Nat => some (Value.ref z)) (show (n + w + j * w : Nat) = n + (j + 1) * w by rw [Nat.succ_mul]; omega)
theorem xrefw_len (w : Nat) : ∀ (N n : Nat), (xrefw n w N).length = N
  | 0, _ => rfl
  | N + 1, n => by show (xrefw (n + w) w N).length + 1 = _; rw [xrefw_len w N]
theorem xrows_at (c : XCl) : ∀ (N n j : Nat), j < N → (xrows n c N)[j]? = some (n + j, c)
  | 0, n, j, h => by omega
  | N + 1, n, 0, _ => by simp [xrows]
  | N + 1, n, j + 1, h => by
    show (xrows (n + 1) c N)[j]? = _
    rw [xrows_at c N (n + 1) j (by omega)]
    exact congrArg (fun z => some (z, c)) (by omega)
theorem xrows_len (c : XCl) : ∀ (N n : Nat), (xrows n c N).length = N
  | 0, _ => rfl
  | N + 1, n => by show (xrows (n + 1) c N).length + 1 = _; rw [xrows_len c N]
theorem xgrid_len (M : Nat) : ∀ (N n : Nat), (xgrid n M N).length = N * (1 + M)
  | 0, _ => by simp [xgrid]
  | N + 1, n => by
    show (((n, (true, 6, xrefw (n + 1) 1 M)) :: xrows (n + 1) (true, 0, []) M) ++ xgrid (n + (1 + M)) M N).length = _
    rw [List.length_append, List.length_cons, xrows_len, xgrid_len M N, Nat.succ_mul]
    omega
/-- what stands at a place of the grid -/
theorem xgrid_at (M : Nat) : ∀ (N n j q : Nat), j < N → q ≤ M → (xgrid n M N)[j * (1 + M) + q]? = some (n + (j * (1 + M) + q), if q = 0 then (true, 6, xrefw (n + j * (1 + M) + 1) 1 M) else (true, 0, []))
  | 0, n, j, q, h, _ => by omega
  | N + 1, n, 0, q, _, hq => by
    show (((n, (true, 6, xrefw (n + 1) 1 M)) :: xrows (n + 1) (true, 0, []) M) ++ xgrid (n + (1 + M)) M N)[0 * (1 + M) + q]? = _
    rw [Nat.zero_mul, Nat.zero_add, List.getElem?_append_left (by rw [List.length_cons, xrows_len]; omega)]
    cases q with
    | zero => simp
    | succ q =>
      show (xrows (n + 1) (true, 0, []) M)[q]? = _
      rw [xrows_at _ M (n + 1) q (by omega), if_neg (by omega)]
      exact congrArg (fun z => some (z, ((true, 0, []) : XCl))) (by omega)
  | N + 1, n, j + 1, q, h, hq => by
    show (((n, (true, 6, xrefw (n + 1) 1 M)) :: xrows (n + 1) (true, 0, []) M) ++ xgrid (n + (1 + M)) M N)[(j + 1) * (1 + M) + q]? = _
    have hl : ((n, ((true, 6, xrefw (n + 1) 1 M) : XCl)) :: xrows (n + 1) (true, 0, []) M).length = 1 + M := by rw [List.length_cons, xrows_len]; omega
    have e1 : (j + 1) * (1 + M) + q - (1 + M) = j * (1 + M) + q := by rw [Nat.succ_mul]; omega
    have e2 : 1 + M ≤ (j + 1) * (1 + M) + q := by rw [Nat.succ_mul]; omega
    rw [List.getElem?_append_right (by rw [hl]; exact e2), hl, e1, xgrid_at M N (n + (1 + M)) j q (by omega) hq]
    have e3 : n + (1 + M) + (j * (1 + M) + q) = n + ((j + 1) * (1 + M) + q) := by rw [Nat.succ_mul]; omega
    have e4 : n + (1 + M) + j * (1 + M) + 1 = n + (j + 1) * (1 + M) + 1 := by rw [Nat.succ_mul]; omega
    rw [e3, e4]
/-- things more, one behind another -/
theorem xadd {ws : va_W} {H1 : Heap} {new : XH} {n : Nat} {ad' : Nat → Nat} {E : Value → Value} (hP : va_P D classes ws H) (hD : va_D A ws) (hold : ∀ x : Nat, x < H.size → H1[x]? = H[x]?) (hA : ∀ q, H.size ≤ q → A q)
    (hc : ∀ (i : Nat) (q : Nat × XCl), new[i]? = some q → q.1 = n + i) (ha : ∀ i, ad' (n + i) = H.size + i) (hat : ∀ (i : Nat) (q : Nat × XCl), new[i]? = some q → va_at D classes (H.size + i, evC E aC q.2) H1) :
    va_P D classes (ws ++ evH E ad' aC new) H1 ∧ va_D A (ws ++ evH E ad' aC new) := by
  have hg : ∀ (k : Nat) (x : Nat × va_E), (evH E ad' aC new)[k]? = some x → ∃ q, new[k]? = some q ∧ x = (H.size + k, evC E aC q.2) := by
    intro k x hx
    unfold evH at hx
    rw [List.getElem?_map] at hx
    cases hn : new[k]? with
    | none => rw [hn] at hx; cases hx
    | some q =>
      rw [hn] at hx
      refine ⟨q, rfl, ?_⟩
      have := Option.some.inj hx
      rw [← this]
      show (ad' q.1, evC E aC q.2) = _
      rw [hc k q hn, ha]
  refine ⟨(hP.kept (fun k x hx => hold x.1 ((hP k x hx).lt))).app (fun k x hx => ?_), hD.app ⟨fun i j p9 q9 hp hq he => ?_, fun k x hx => ?_⟩ (fun i j p9 q9 hp hq => ?_)⟩
  · obtain ⟨q, hq, rfl⟩ := hg k x hx
    exact hat k q hq
  · obtain ⟨a, -, rfl⟩ := hg i p9 hp
    obtain ⟨b, -, rfl⟩ := hg j q9 hq
    have he : H.size + i = H.size + j := he
    omega
  · obtain ⟨q, -, rfl⟩ := hg k x hx
    exact hA _ (Nat.le_add_right _ _)
  · obtain ⟨b, -, rfl⟩ := hg j q9 hq
    have h1 := (hP i p9 hp).lt
    show p9.1 ≠ H.size + j
    omega
theorem xouter (c : ClassId) (N h0 w : Nat) : ∀ i : Nat, xg_out c N h0 w i = arrV c N (fun j => va_rf (if j < i then some (h0 + 1 + j * w) else none))
  | 0 => by
    show ({ cls := c, slots := Array.replicate N .null, vm := .none } : Cell) = _
    rw [arrV_new]
    refine congrArg (arrV c N) (funext fun j => ?_)
    simp [va_rf]
  | i + 1 => by
    show (xg_out c N h0 w i).setSlot i (.ref (h0 + 1 + i * w)) = _
    rw [xouter c N h0 w i, arrV_store]
    refine congrArg (arrV c N) (funext fun j => ?_)
    by_cases e : j = i
    · subst e
      simp [updV, va_rf]
    · by_cases h : j < i
      · simp [updV, e, h, Nat.lt_succ_of_lt h]
      · simp [updV, e, h, show ¬ j < i + 1 by omega]
theorem xouter1 (c : ClassId) (N h0 : Nat) : ∀ i : Nat, Jvm.Free.Multi.outerC c N h0 i = arrV c N (fun j => va_rf (if j < i then some (h0 + 1 + j * 1) else none))
  | 0 => by
    show ({ cls := c, slots := Array.replicate N .null, vm := .none } : Cell) = _
    rw [arrV_new]
    refine congrArg (arrV c N) (funext fun j => ?_)
    simp [va_rf]
  | i + 1 => by
    show (Jvm.Free.Multi.outerC c N h0 i).setSlot i (.ref (h0 + 1 + i)) = _
    rw [xouter1 c N h0 i, arrV_store]
    refine congrArg (arrV c N) (funext fun j => ?_)
    by_cases e : j = i
    · subst e
      simp [updV, va_rf]
    · by_cases h : j < i
      · simp [updV, e, h, Nat.lt_succ_of_lt h]
      · simp [updV, e, h, show ¬ j < i + 1 by omega]
/-- an array of references to things one behind another -/
theorem xrefw_cell {ad' : Nat → Nat} {n w N to B : Nat} (ht : 3 ≤ to) (ha : ∀ j, j < N → ad' (n + j * w) = B + j * w) (c : ClassId) : vp_cell c (evA (ev ad' xs bS) to (xrefw n w N)) = arrV c N (fun j => va_rf (if j < N then some (B + j * w) else none)) := by
  have hA9 : evA (ev ad' xs bS) to (xrefw n w N) = ((xrefw n w N).length, .inr (.inr (.inr (.inr (fun j => evR (ev ad' xs bS ((xrefw n w N).getD j .null))))))) := by
    match to, ht with
    | k + 3, _ => rfl
  rw [hA9, vp_cell_q, xrefw_len]
  refine congrArg (arrV c N) (funext fun j => ?_)
  by_cases h : j < N
  · rw [if_pos h, getD_at (xrefw_at w N n j h)]
    show va_rf (some (ad' (n + j * w))) = _
    rw [ha j h]
  · rw [if_neg h, List.getD_eq_getElem?_getD, List.getElem?_eq_none (by rw [xrefw_len]; omega)]
    rfl
theorem xarrC {t : FieldType} (h : (Jvm.Cond.arrayOver (.array t)).before args s = true) : (Jvm.Cond.arrayClass (.array t)).before args s = true := by
  obtain ⟨comp, c9, k, h1, h2, h3, h4⟩ := Cond.arrayOver_specA h
  simp [Cond.before, Cond.holds, Cond.value, h4, h2, h3]
/-- the addresses of things one behind another -/
def xbeh (ad : Nat → Nat) (n B : Nat) (j : Nat) : Nat := if j < n then ad j else B + (j - n)
theorem xbeh_lt {ad : Nat → Nat} {n B j : Nat} (h : j < n) : xbeh ad n B j = ad j := if_pos h
theorem xbeh_at {ad : Nat → Nat} {n B i : Nat} : xbeh ad n B (n + i) = B + i := by
  unfold xbeh
  rw [if_neg (by omega), Nat.add_sub_cancel_left]
theorem xw_m2 (hx : p.tables.exec = Jvm.exec) (hb : c.code = cc) (hts : ∀ w ∈ Ts, w.before args s = true) (hown : s.vm.findClass own = some m.cls) (hK : va_K D classes (xtys aC) s) (hA : ∀ q, s.heap.size ≤ q → A q) (hAA : ∀ ty, (ty = .array .int ∨ ty = .array .boolean ∨ ty = .array (.array .int)) → (Jvm.Cond.arrayOver ty).before args s = true)
    {idx : Nat} {aux : List Nat} {init : Bool} (hv : xvh Ts own init (.multianewarray idx 2) aux) {lv : XL} {st st' : List Value} {σ σ' : XS} (hwf : xal σ.2.2.1 lv st σ.2.1 = true) (h : xnewm2 R aux st σ = some (st', σ'))
    (hP : va_P D classes (evH (ev ad xs bS) ad aC σ.2.1) H) (hD : va_D A (evH (ev ad xs bS) ad aC σ.2.1)) (hS : va_S A s.heap H locs) (hl : lv_has ls nL (evL (ev ad xs bS) lv)) (hd : decode cc pc = .ok (.multianewarray idx 2, 4))
    (kk : xgo p l e R s m args below meth c Q ad xs bS aC D A lv σ.2.2.1 (pc + 4) ls st' σ' nL) : W p l e R s m args below meth c H locs σ.2.2.2.1 σ.2.2.2.2 Q (F0 m pc ls (evS (ev ad xs bS) st)) := by
  unfold xnewm2 at h
  split at h
  · rename_i to ti tl k n9 r pe hh n ce sl
    cases h1 : (decide (k < 0) || decide (n9 < 0)) with
    | true => rw [h1] at h; cases h
    | false =>
      rw [h1] at h
      simp only [cond_false] at h
      cases h2 : (Nat.ble k.toNatClampNeg 1000 && (Nat.ble n9.toNatClampNeg 1000 && (Nat.ble (ce + (1 + n9.toNatClampNeg)) R.cells && Nat.ble (sl + (n9.toNatClampNeg + n9.toNatClampNeg * k.toNatClampNeg)) R.slots))) with
      | false => rw [h2] at h; cases h
      | true =>
        rw [h2] at h
        rw [Bool.or_eq_false_iff] at h1
        simp only [Bool.and_eq_true] at h2
        have hk : ¬ k < 0 := of_decide_eq_false h1.1
        have hn : ¬ n9 < 0 := of_decide_eq_false h1.2
        have lk := Nat.le_of_ble_eq_true h2.1
        have ln := Nat.le_of_ble_eq_true h2.2.1
        have lc := Nat.le_of_ble_eq_true h2.2.2.1
        have lS := Nat.le_of_ble_eq_true h2.2.2.2
        obtain ⟨rfl, rfl⟩ := Prod.mk.inj (Option.some.inj h)
        have hwf := xal_tail (xal_tail hwf)
        obtain ⟨oL, oS, oH⟩ := xal_spec hwf
        have hag : ∀ j, j < n → xbeh ad n H.size j = ad j := fun j hj => xbeh_lt hj
        have hag2 : ∀ j, j < n → (xbeh ad n H.size) j = ad j := hag
        have main : ∀ ty : FieldType, 3 ≤ to → to ≤ 8 → ti ≤ 8 → xty to = .array ty → xty ti = ty → (FieldType.array ty).toString = "[" ++ ty.toString → (∀ c9 : ClassId, s.vm.findClass ("[" ++ ty.toString) = some c9 → va_RA s c9 ty) → (Jvm.Cond.classLink own idx ("[" ++ (FieldType.array ty).toString)).before args s = true → (Jvm.Cond.arrayOver (.array ty)).before args s = true → (Jvm.Cond.arrayClass ty).before args s = true → componentBytes ty ≤ 8 → fits ty (defaultValue ty) = true → (defaultValue ty).isDefault = true →
            W p l e R s m args below meth c H locs ce sl Q (F0 m pc ls (.int k :: .int n9 :: evS (ev ad xs bS) r)) := by
          intro ty t3 t8 u8 hto hti hstr hra hcl hov har hcb hdf hdd
          refine xg_m2 (own := own) (ty := ty) hx hb hown hcl hov har hn hk (by omega) (Nat.le_trans (Nat.mul_le_mul lk hcb) (Nat.le_of_ble_eq_true rfl)) (by omega) hdf hdd lc lS hd (fun H1 cA cB z1 hold fA fB hout hrow => ?_)
          have eA : cA = aC to := xRA_inj (ty := .array ty) fA (by have := (hK.2 to _ (xtys_get aC t8)).2; rw [hto] at this; exact this)
          subst eA
          have eB : cB = aC ti := xRA_inj (ty := ty) (hra cB (by rw [← hstr]; exact fB)) (by have := (hK.2 ti _ (xtys_get aC u8)).2; rw [hti] at this; exact this)
          subst eB
          have hat : ∀ (i : Nat) (q : Nat × XCl), ((n, ((true, to, xrefw (n + 1) 1 n9.toNatClampNeg) : XCl)) :: xrows (n + 1) (true, ti, List.replicate k.toNatClampNeg (xdv ti)) n9.toNatClampNeg)[i]? = some q → q.1 = n + i ∧ va_at D classes (H.size + i, evC (ev (xbeh ad n H.size) xs bS) aC q.2) H1 := by
            intro i q hq
            cases i with
            | zero =>
              cases hq
              refine ⟨rfl, ?_⟩
              show H1[H.size + 0]? = some (vp_cell (aC to) (evA (ev (xbeh ad n H.size) xs bS) to (xrefw (n + 1) 1 n9.toNatClampNeg)))
              rw [Nat.add_zero, hout, xouter1, xrefw_cell t3 (B := H.size + 1) (fun j _ => ?_)]
              rw [show n + 1 + j * 1 = n + (1 + j * 1) by omega, xbeh_at]
              omega
            | succ i =>
              have hi : i < n9.toNatClampNeg := by
                have := (List.getElem?_eq_some_iff.mp hq).1
                rw [List.length_cons, xrows_len] at this
                omega
              have hq : (xrows (n + 1) (true, ti, List.replicate k.toNatClampNeg (xdv ti)) n9.toNatClampNeg)[i]? = some q := hq
              rw [xrows_at _ _ _ _ hi] at hq
              cases hq
              refine ⟨by show n + 1 + i = n + (i + 1); omega, ?_⟩
              show H1[H.size + (i + 1)]? = some (vp_cell (aC ti) (evA (ev (xbeh ad n H.size) xs bS) ti (List.replicate k.toNatClampNeg (xdv ti))))
              rw [show H.size + (i + 1) = H.size + 1 + i by omega, hrow i hi, evA_rep, hti]
              show some ({ cls := aC ti, slots := Array.replicate k.toNatClampNeg (defaultValue ty), vm := .none } : Cell) = _
              rw [arrV_new]
          obtain ⟨p1, d1⟩ := xadd (aC := aC) (ad' := xbeh ad n H.size) (E := ev (xbeh ad n H.size) xs bS) (n := n) hP hD hold (fun q hq => hA q (Nat.le_trans hS.1 hq)) (fun i q hq => (hat i q hq).1) (fun i => xbeh_at) (fun i q hq => (hat i q hq).2)
          have e1 : ∀ new : XH, evH (ev (xbeh ad n H.size) xs bS) (xbeh ad n H.size) aC (hh ++ new) = evH (ev ad xs bS) ad aC hh ++ evH (ev (xbeh ad n H.size) xs bS) (xbeh ad n H.size) aC new := fun new => by
            have := xoH_ev (xs := xs) (bS := bS) (aC := aC) hag oH
            unfold evH at this ⊢
            rw [List.map_append, this]
          have e2 : evS (ev (xbeh ad n H.size) xs bS) (.ref n :: r) = .ref H.size :: evS (ev ad xs bS) r := by
            have := xoS_ev (xs := xs) (bS := bS) hag oS
            unfold evS at this ⊢
            rw [List.map_cons, this]
            show Value.ref (xbeh ad n H.size (n + 0)) :: _ = _
            rw [xbeh_at]; rfl
          have hk9 := kk (xbeh ad n H.size) H1 locs hag (by show n ≤ n + 1 + n9.toNatClampNeg; omega) (by dsimp only; rw [e1]; exact p1) (by dsimp only; rw [e1]; exact d1) ⟨Nat.le_trans hS.1 z1, fun x h1 h2 => (hold x (Nat.lt_of_lt_of_le h1 hS.1)).trans (hS.2.1 x h1 h2), hS.2.2⟩ (by rw [xoL_ev hag oL]; exact hl)
          dsimp only at hk9
          rw [e2, ← Nat.add_assoc, ← Nat.add_assoc] at hk9
          exact hk9
        rcases hv.1 rfl to ti tl rfl with ⟨rfl, rfl, w1, w2⟩ | ⟨rfl, rfl, w1, w2⟩ | ⟨rfl, rfl, w2⟩
        · exact main .int (by omega) (by omega) (by omega) rfl rfl (by decide +kernel) (fun _ h9 => h9) (by rw [show "[" ++ (FieldType.array .int).toString = "[[I" by decide +kernel]; exact hts _ w2) (hAA _ (Or.inl rfl)) (hts _ w1) (by decide) rfl rfl
        · exact main .boolean (by omega) (by omega) (by omega) rfl rfl (by decide +kernel) (fun _ h9 => h9) (by rw [show "[" ++ (FieldType.array .boolean).toString = "[[Z" by decide +kernel]; exact hts _ w2) (hAA _ (Or.inr (Or.inl rfl))) (hts _ w1) (by decide) rfl rfl
        · exact main (.array .int) (by omega) (by omega) (by omega) rfl rfl (by decide +kernel) (fun _ h9 => h9) (by rw [show "[" ++ (FieldType.array (.array .int)).toString = "[[[I" by decide +kernel]; exact hts _ w2) (hAA _ (Or.inr (Or.inr rfl))) (xarrC (hAA _ (Or.inl rfl))) (by decide) rfl rfl
  · cases h
theorem xw_m3 (hx : p.tables.exec = Jvm.exec) (hb : c.code = cc) (hts : ∀ w ∈ Ts, w.before args s = true) (hown : s.vm.findClass own = some m.cls) (hK : va_K D classes (xtys aC) s) (hA : ∀ q, s.heap.size ≤ q → A q) (hAA : ∀ ty, (ty = .array .int ∨ ty = .array .boolean ∨ ty = .array (.array .int)) → (Jvm.Cond.arrayOver ty).before args s = true)
    {idx : Nat} {aux : List Nat} {init : Bool} (hv : xvh Ts own init (.multianewarray idx 3) aux) {lv : XL} {st st' : List Value} {σ σ' : XS} (hwf : xal σ.2.2.1 lv st σ.2.1 = true) (h : xnewm3 R st σ = some (st', σ'))
    (hP : va_P D classes (evH (ev ad xs bS) ad aC σ.2.1) H) (hD : va_D A (evH (ev ad xs bS) ad aC σ.2.1)) (hS : va_S A s.heap H locs) (hl : lv_has ls nL (evL (ev ad xs bS) lv)) (hd : decode cc pc = .ok (.multianewarray idx 3, 4))
    (kk : xgo p l e R s m args below meth c Q ad xs bS aC D A lv σ.2.2.1 (pc + 4) ls st' σ' nL) : W p l e R s m args below meth c H locs σ.2.2.2.1 σ.2.2.2.2 Q (F0 m pc ls (evS (ev ad xs bS) st)) := by
  unfold xnewm3 at h
  split at h
  · rename_i z k n9 r pe hh n ce sl
    cases h2 : (decide (z = 0) && (!decide (k < 0) && (!decide (n9 < 0) && (Nat.ble k.toNatClampNeg 1000 && (Nat.ble n9.toNatClampNeg 1000 && (Nat.ble (ce + (1 + n9.toNatClampNeg * (1 + k.toNatClampNeg))) R.cells && Nat.ble (sl + (n9.toNatClampNeg + n9.toNatClampNeg * k.toNatClampNeg)) R.slots)))))) with
    | false => rw [h2] at h; cases h
    | true =>
      rw [h2] at h
      simp only [Bool.and_eq_true, decide_eq_true_eq, Bool.not_eq_true', decide_eq_false_iff_not] at h2
      obtain ⟨rfl, hk, hn, lk, ln, lc, lS⟩ := h2
      have lk := Nat.le_of_ble_eq_true lk
      have ln := Nat.le_of_ble_eq_true ln
      have lc := Nat.le_of_ble_eq_true lc
      have lS := Nat.le_of_ble_eq_true lS
      obtain ⟨rfl, rfl⟩ := Prod.mk.inj (Option.some.inj h)
      have hwf := xal_tail (xal_tail (xal_tail hwf))
      obtain ⟨oL, oS, oH⟩ := xal_spec hwf
      have hag : ∀ j, j < n → xbeh ad n H.size j = ad j := fun j hj => xbeh_lt hj
      obtain ⟨w1, w2⟩ := hv.2 rfl
      have h0 : (0 : Int32).toNatClampNeg = 0 := by decide
      refine xg_m3 (own := own) (ty := .int) hx hb hown (by rw [show "[" ++ (FieldType.array (.array .int)).toString = "[[[I" by decide +kernel]; exact hts _ w2) (hAA _ (Or.inr (Or.inr rfl))) (hAA _ (Or.inl rfl)) (hts _ w1) (by decide +kernel) hn hk (by decide) (by omega) (by omega) (by rw [h0]; decide) (by rw [h0]; decide) rfl rfl lc (by rw [h0, Nat.mul_zero, Nat.add_zero]; exact lS) hd (fun H1 cA cB cD z1 hold fA fB fD hout hmid => ?_)
      have eA : cA = aC 8 := xRA_inj (ty := .array (.array .int)) fA (hK.2 8 _ (xtys_get aC (by omega))).2
      have eB : cB = aC 6 := xRA_inj (ty := .array .int) fB (hK.2 6 _ (xtys_get aC (by omega))).2
      have eD : cD = aC 0 := xRA_inj (ty := .int) fD (hK.2 0 _ (xtys_get aC (by omega))).2
      subst eA; subst eB; subst eD
      have hat : ∀ (i : Nat) (q : Nat × XCl), ((n, ((true, 8, xrefw (n + 1) (1 + k.toNatClampNeg) n9.toNatClampNeg) : XCl)) :: xgrid (n + 1) k.toNatClampNeg n9.toNatClampNeg)[i]? = some q → q.1 = n + i ∧ va_at D classes (H.size + i, evC (ev (xbeh ad n H.size) xs bS) aC q.2) H1 := by
        intro i q hq
        cases i with
        | zero =>
          cases hq
          refine ⟨rfl, ?_⟩
          show H1[H.size + 0]? = some (vp_cell (aC 8) (evA (ev (xbeh ad n H.size) xs bS) 8 (xrefw (n + 1) (1 + k.toNatClampNeg) n9.toNatClampNeg)))
          rw [Nat.add_zero, hout, xouter, xrefw_cell (by omega) (B := H.size + 1) (fun j _ => ?_)]
          rw [show n + 1 + j * (1 + k.toNatClampNeg) = n + (1 + j * (1 + k.toNatClampNeg)) by omega, xbeh_at]
          omega
        | succ i =>
          have hi : i < n9.toNatClampNeg * (1 + k.toNatClampNeg) := by
            have := (List.getElem?_eq_some_iff.mp hq).1
            rw [List.length_cons, xgrid_len] at this
            omega
          have hq : (xgrid (n + 1) k.toNatClampNeg n9.toNatClampNeg)[i]? = some q := hq
          have hdm := Nat.div_add_mod i (1 + k.toNatClampNeg)
          have hml := Nat.mod_lt i (show 0 < 1 + k.toNatClampNeg by omega)
          have hdl : i / (1 + k.toNatClampNeg) < n9.toNatClampNeg := by
            rw [Nat.div_lt_iff_lt_mul (by omega)]
            exact hi
          rw [Nat.mul_comm] at hdm
          generalize i / (1 + k.toNatClampNeg) = j at hdm hdl
          generalize i % (1 + k.toNatClampNeg) = x at hdm hml
          subst hdm
          rw [xgrid_at _ _ _ _ _ hdl (by omega)] at hq
          obtain ⟨g1, g2⟩ := hmid j hdl
          by_cases hx0 : x = 0
          · subst hx0
            rw [if_pos rfl] at hq
            cases hq
            refine ⟨by show n + 1 + (j * (1 + k.toNatClampNeg) + 0) = n + (j * (1 + k.toNatClampNeg) + 0 + 1); omega, ?_⟩
            show H1[H.size + (j * (1 + k.toNatClampNeg) + 0 + 1)]? = some (vp_cell (aC 6) (evA (ev (xbeh ad n H.size) xs bS) 6 (xrefw (n + 1 + j * (1 + k.toNatClampNeg) + 1) 1 k.toNatClampNeg)))
            rw [show H.size + (j * (1 + k.toNatClampNeg) + 0 + 1) = H.size + 1 + j * (1 + k.toNatClampNeg) by omega, g1, xouter1, xrefw_cell (by omega) (B := H.size + 1 + j * (1 + k.toNatClampNeg) + 1) (fun j2 _ => ?_)]
            rw [show n + 1 + j * (1 + k.toNatClampNeg) + 1 + j2 * 1 = n + (1 + j * (1 + k.toNatClampNeg) + 1 + j2 * 1) by omega, xbeh_at]
            omega
          · rw [if_neg hx0] at hq
            cases hq
            refine ⟨by show n + 1 + (j * (1 + k.toNatClampNeg) + x) = n + (j * (1 + k.toNatClampNeg) + x + 1); omega, ?_⟩
            show H1[H.size + (j * (1 + k.toNatClampNeg) + x + 1)]? = some (vp_cell (aC 0) (evA (ev (xbeh ad n H.size) xs bS) 0 []))
            rw [show H.size + (j * (1 + k.toNatClampNeg) + x + 1) = H.size + 1 + j * (1 + k.toNatClampNeg) + 1 + (x - 1) by omega, g2 (x - 1) (by omega)]
            have e9 := evA_rep (ad := xbeh ad n H.size) (xs := xs) (bS := bS) (ti := 0) 0 (aC 0)
            rw [show (List.replicate 0 (xdv 0) : List Value) = [] from rfl] at e9
            rw [e9]
            show some ({ cls := aC 0, slots := Array.replicate (0 : Int32).toNatClampNeg (defaultValue .int), vm := .none } : Cell) = _
            rw [arrV_new]
            rfl
      obtain ⟨p1, d1⟩ := xadd (aC := aC) (ad' := xbeh ad n H.size) (E := ev (xbeh ad n H.size) xs bS) (n := n) hP hD hold (fun q hq => hA q (Nat.le_trans hS.1 hq)) (fun i q hq => (hat i q hq).1) (fun i => xbeh_at) (fun i q hq => (hat i q hq).2)
      have e1 : ∀ new : XH, evH (ev (xbeh ad n H.size) xs bS) (xbeh ad n H.size) aC (hh ++ new) = evH (ev ad xs bS) ad aC hh ++ evH (ev (xbeh ad n H.size) xs bS) (xbeh ad n H.size) aC new := fun new => by
        have := xoH_ev (xs := xs) (bS := bS) (aC := aC) hag oH
        unfold evH at this ⊢
        rw [List.map_append, this]
      have e2 : evS (ev (xbeh ad n H.size) xs bS) (.ref n :: r) = .ref H.size :: evS (ev ad xs bS) r := by
        have := xoS_ev (xs := xs) (bS := bS) hag oS
        unfold evS at this ⊢
        rw [List.map_cons, this]
        show Value.ref (xbeh ad n H.size (n + 0)) :: _ = _
        rw [xbeh_at]; rfl
      have hk9 := kk (xbeh ad n H.size) H1 locs hag (by show n ≤ n + 1 + n9.toNatClampNeg * (1 + k.toNatClampNeg); omega) (by dsimp only; rw [e1]; exact p1) (by dsimp only; rw [e1]; exact d1) ⟨Nat.le_trans hS.1 z1, fun x h1 h2 => (hold x (Nat.lt_of_lt_of_le h1 hS.1)).trans (hS.2.1 x h1 h2), hS.2.2⟩ (by rw [xoL_ev hag oL]; exact hl)
      dsimp only at hk9
      rw [e2, ← Nat.add_assoc, ← Nat.add_assoc] at hk9
      rw [h0, Nat.mul_zero, Nat.add_zero]
      exact hk9
  · cases h
theorem xw_len (hx : p.tables.exec = Jvm.exec) (hb : c.code = cc) (hK : va_K D classes (xtys aC) s) {scr : Option (Nat × (Nat → Int32))} (hX : ∀ L ys, scr = some (L, ys) → ys = xs ∧ va_X bS L xs s s.heap ∧ bS < s.heap.size ∧ ¬ A bS)
    {lv : XL} {st st' : List Value} {σ σ' : XS} (h : xlen scr st σ = some (st', σ'))
    (hP : va_P D classes (evH (ev ad xs bS) ad aC σ.2.1) H) (hD : va_D A (evH (ev ad xs bS) ad aC σ.2.1)) (hS : va_S A s.heap H locs) (hl : lv_has ls nL (evL (ev ad xs bS) lv)) (hd : decode cc pc = .ok (.arraylength, 1))
    (kk : xgo p l e R s m args below meth c Q ad xs bS aC D A lv σ.2.2.1 (pc + 1) ls st' σ' nL) : W p l e R s m args below meth c H locs σ.2.2.2.1 σ.2.2.2.2 Q (F0 m pc ls (evS (ev ad xs bS) st)) := by
  unfold xlen at h
  split at h
  · rename_i o r
    split at h
    · rename_i ti vs hk
      cases h1 : Nat.ble ti 8 with
      | false => rw [h1] at h; cases h
      | true =>
        rw [h1] at h
        obtain ⟨rfl, rfl⟩ := Prod.mk.inj (Option.some.inj h)
        obtain ⟨q0, hq, -⟩ := xhk_get (E := ev ad xs bS) (ad := ad) (aC := aC) hk
        refine va_alen hx hb hK hP q0 ti (x := evA (ev ad xs bS) ti vs) hq (xtys_get aC (Nat.le_of_ble_eq_true h1)) (v := Int32.ofNat vs.length) (by rw [evA_len]) hd ?_
        exact kk ad H locs (fun _ _ => rfl) (Nat.le_refl _) hP hD hS hl
    · cases h
  · split at h
    · rename_i L ys
      obtain ⟨rfl, rfl⟩ := Prod.mk.inj (Option.some.inj h)
      obtain ⟨-, x1, x2, x3⟩ := hX L ys rfl
      exact va_slen hx hb x1 x2 x3 hS hd (kk ad H locs (fun _ _ => rfl) (Nat.le_refl _) hP hD hS hl)
    · cases h
  · cases h
theorem xw_aldq (hx : p.tables.exec = Jvm.exec) (hb : c.code = cc) (hK : va_K D classes (xtys aC) s)
    {lv : XL} {st st' : List Value} {σ σ' : XS} (h : xald xref (fun ti => Nat.ble 3 ti && Nat.ble ti 8) st σ = some (st', σ'))
    (hP : va_P D classes (evH (ev ad xs bS) ad aC σ.2.1) H) (hD : va_D A (evH (ev ad xs bS) ad aC σ.2.1)) (hS : va_S A s.heap H locs) (hl : lv_has ls nL (evL (ev ad xs bS) lv)) (hd : decode cc pc = .ok (.aaload, 1))
    (kk : xgo p l e R s m args below meth c Q ad xs bS aC D A lv σ.2.2.1 (pc + 1) ls st' σ' nL) : W p l e R s m args below meth c H locs σ.2.2.2.1 σ.2.2.2.2 Q (F0 m pc ls (evS (ev ad xs bS) st)) := by
  obtain ⟨i, o, r, ti, vs, j, v, rfl, hk, ht, hj, hv, hok, hq⟩ := xald_spec h
  obtain ⟨rfl, rfl⟩ := Prod.mk.inj hq
  rw [Bool.and_eq_true] at ht
  have h3 := Nat.le_of_ble_eq_true ht.1
  have h5 := Nat.le_of_ble_eq_true ht.2
  obtain ⟨h1, h2, -⟩ := xix_spec hj
  obtain ⟨q0, hq, -⟩ := xhk_get (E := ev ad xs bS) (ad := ad) (aC := aC) hk
  have ht9 := xtys_get aC h5
  have hA9 : evA (ev ad xs bS) ti vs = (vs.length, .inr (.inr (.inr (.inr (fun j => evR (ev ad xs bS (vs.getD j .null))))))) := by
    match ti, h3 with
    | k + 3, _ => rfl
  have hq9 : (evH (ev ad xs bS) ad aC σ'.2.1)[q0]? = some (ad o, .inl (aC ti, vs.length, .inr (.inr (.inr (.inr (fun j => evR (ev ad xs bS (vs.getD j .null)))))))) := by
    rw [hq]; show some (ad o, Sum.inl (aC ti, evA (ev ad xs bS) ti vs)) = _; rw [hA9]
  have hlt : i.toNatClampNeg < vs.length := Nat.not_le.mp fun z => h1 (Or.inr z)
  refine W.aald (v := va_rf (evR (ev ad xs bS (vs.getD i.toNatClampNeg .null)))) (ty := xty ti) hx hb (hP q0 _ hq9) ((hK.2 ti _ ht9).1 vs.length (fun j => va_rf (evR (ev ad xs bS (vs.getD j .null))))) (xty_ref h3) (fun z => by cases z) (by show ¬ (i < 0 ∨ (arrV _ _ _).slots.size ≤ _); rw [arrV_size]; exact h1) (by show (arrV _ _ _).slots[_]? = _; rw [arrV_read _ _ hlt]) rfl rfl hd ?_
  have e1 : va_rf (evR (ev ad xs bS (vs.getD i.toNatClampNeg .null))) = ev ad xs bS v := by
    rw [h2, getD_at hv]
    rcases xref_ev (ad := ad) (xs := xs) (bS := bS) hok with e | ⟨a, e⟩ <;> rw [e] <;> rfl
  show W p l e R s m args below meth c H locs σ'.2.2.2.1 σ'.2.2.2.2 Q (F0 m (pc + 1) ls (va_rf (evR (ev ad xs bS (vs.getD i.toNatClampNeg .null))) :: evS (ev ad xs bS) r))
  rw [e1]
  exact kk ad H locs (fun _ _ => rfl) (Nat.le_refl _) hP hD hS hl
theorem xw_lald (hx : p.tables.exec = Jvm.exec) (hb : c.code = cc) (hK : va_K D classes (xtys aC) s)
    {lv : XL} {st st' : List Value} {σ σ' : XS} (h : xald xlong (fun ti => Nat.beq ti 2) st σ = some (st', σ'))
    (hP : va_P D classes (evH (ev ad xs bS) ad aC σ.2.1) H) (hD : va_D A (evH (ev ad xs bS) ad aC σ.2.1)) (hS : va_S A s.heap H locs) (hl : lv_has ls nL (evL (ev ad xs bS) lv)) (hd : decode cc pc = .ok (.laload, 1))
    (kk : xgo p l e R s m args below meth c Q ad xs bS aC D A lv σ.2.2.1 (pc + 1) ls st' σ' nL) : W p l e R s m args below meth c H locs σ.2.2.2.1 σ.2.2.2.2 Q (F0 m pc ls (evS (ev ad xs bS) st)) := by
  obtain ⟨i, o, r, ti, vs, j, v, rfl, hk, ht, hj, hv, hok, hq⟩ := xald_spec h
  obtain ⟨rfl, rfl⟩ := Prod.mk.inj hq
  have ht := Nat.eq_of_beq_eq_true ht
  subst ht
  obtain ⟨h1, h2, -⟩ := xix_spec hj
  obtain ⟨q0, hq, -⟩ := xhk_get (E := ev ad xs bS) (ad := ad) (aC := aC) hk
  refine va_lald hx hb hK hP q0 2 hq (xtys_get aC (by omega)) h1 hd ?_
  have e1 : Value.long (evG (ev ad xs bS (vs.getD i.toNatClampNeg (.long 0)))) = ev ad xs bS v := by
    rw [h2, getD_at hv]
    obtain ⟨a, e⟩ := xlong_ev (ad := ad) (xs := xs) (bS := bS) hok
    rw [e]; rfl
  show W p l e R s m args below meth c H locs σ'.2.2.2.1 σ'.2.2.2.2 Q (F0 m (pc + 1) ls (Value.long (evG (ev ad xs bS (vs.getD i.toNatClampNeg (.long 0)))) :: evS (ev ad xs bS) r))
  rw [e1]
  exact kk ad H locs (fun _ _ => rfl) (Nat.le_refl _) hP hD hS hl
theorem xw_zald (hx : p.tables.exec = Jvm.exec) (hb : c.code = cc) (hK : va_K D classes (xtys aC) s)
    {lv : XL} {st st' : List Value} {σ σ' : XS} (h : xald xint (fun ti => Nat.beq ti 1) st σ = some (st', σ'))
    (hP : va_P D classes (evH (ev ad xs bS) ad aC σ.2.1) H) (hD : va_D A (evH (ev ad xs bS) ad aC σ.2.1)) (hS : va_S A s.heap H locs) (hl : lv_has ls nL (evL (ev ad xs bS) lv)) (hd : decode cc pc = .ok (.baload, 1))
    (kk : xgo p l e R s m args below meth c Q ad xs bS aC D A lv σ.2.2.1 (pc + 1) ls st' σ' nL) : W p l e R s m args below meth c H locs σ.2.2.2.1 σ.2.2.2.2 Q (F0 m pc ls (evS (ev ad xs bS) st)) := by
  obtain ⟨i, o, r, ti, vs, j, v, rfl, hk, ht, hj, hv, hok, hq⟩ := xald_spec h
  obtain ⟨rfl, rfl⟩ := Prod.mk.inj hq
  have ht := Nat.eq_of_beq_eq_true ht
  subst ht
  obtain ⟨h1, h2, -⟩ := xix_spec hj
  obtain ⟨q0, hq, -⟩ := xhk_get (E := ev ad xs bS) (ad := ad) (aC := aC) hk
  refine va_zald hx hb hK hP q0 1 hq (xtys_get aC (by omega)) h1 hd ?_
  have e1 : Value.int (evI (ev ad xs bS (vs.getD i.toNatClampNeg (.int 0)))) = ev ad xs bS v := by
    rw [h2, getD_at hv]
    obtain ⟨a, e⟩ := xint_ev (ad := ad) (xs := xs) (bS := bS) hok
    rw [e]; rfl
  show W p l e R s m args below meth c H locs σ'.2.2.2.1 σ'.2.2.2.2 Q (F0 m (pc + 1) ls (Value.int (evI (ev ad xs bS (vs.getD i.toNatClampNeg (.int 0)))) :: evS (ev ad xs bS) r))
  rw [e1]
  exact kk ad H locs (fun _ _ => rfl) (Nat.le_refl _) hP hD hS hl
theorem xw_ild (hx : p.tables.exec = Jvm.exec) (hb : c.code = cc) (hK : va_K D classes (xtys aC) s) {scr : Option (Nat × (Nat → Int32))} (hX : ∀ L ys, scr = some (L, ys) → ys = xs ∧ va_X bS L xs s s.heap ∧ bS < s.heap.size ∧ ¬ A bS)
    {lv : XL} {st st' : List Value} {σ σ' : XS} (h : xild scr st σ = some (st', σ'))
    (hP : va_P D classes (evH (ev ad xs bS) ad aC σ.2.1) H) (hD : va_D A (evH (ev ad xs bS) ad aC σ.2.1)) (hS : va_S A s.heap H locs) (hl : lv_has ls nL (evL (ev ad xs bS) lv)) (hd : decode cc pc = .ok (.iaload, 1))
    (kk : xgo p l e R s m args below meth c Q ad xs bS aC D A lv σ.2.2.1 (pc + 1) ls st' σ' nL) : W p l e R s m args below meth c H locs σ.2.2.2.1 σ.2.2.2.2 Q (F0 m pc ls (evS (ev ad xs bS) st)) := by
  unfold xild at h
  split at h
  · rename_i i a r
    split at h
    · rename_i L ys
      split at h
      · rename_i j hj
        obtain ⟨rfl, rfl⟩ := Prod.mk.inj (Option.some.inj h)
        obtain ⟨rfl, x1, x2, x3⟩ := hX L ys rfl
        obtain ⟨h1, h2, -⟩ := xix_spec hj
        refine va_sld hx hb x1 x2 x3 hS h1 hd ?_
        rw [h2]
        exact kk ad H locs (fun _ _ => rfl) (Nat.le_refl _) hP hD hS hl
      · cases h
    · cases h
  · obtain ⟨i, o, r, ti, vs, j, v, rfl, hk, ht, hj, hv, hok, hq⟩ := xald_spec h
    obtain ⟨rfl, rfl⟩ := Prod.mk.inj hq
    have ht := Nat.eq_of_beq_eq_true ht
    subst ht
    obtain ⟨h1, h2, -⟩ := xix_spec hj
    obtain ⟨q0, hq, -⟩ := xhk_get (E := ev ad xs bS) (ad := ad) (aC := aC) hk
    refine va_iald hx hb hK hP q0 0 hq (xtys_get aC (by omega)) h1 hd ?_
    have e1 : Value.int (evI (ev ad xs bS (vs.getD i.toNatClampNeg (.int 0)))) = ev ad xs bS v := by
      rw [h2, getD_at hv]
      obtain ⟨a, e⟩ := xint_ev (ad := ad) (xs := xs) (bS := bS) hok
      rw [e]; rfl
    show W p l e R s m args below meth c H locs σ'.2.2.2.1 σ'.2.2.2.2 Q (F0 m (pc + 1) ls (Value.int (evI (ev ad xs bS (vs.getD i.toNatClampNeg (.int 0)))) :: evS (ev ad xs bS) r))
    rw [e1]
    exact kk ad H locs (fun _ _ => rfl) (Nat.le_refl _) hP hD hS hl
theorem xw_iast (hx : p.tables.exec = Jvm.exec) (hb : c.code = cc) (hK : va_K D classes (xtys aC) s)
    {lv : XL} {st st' : List Value} {σ σ' : XS} (h : xast xint (fun ti => Nat.beq ti 0) st σ = some (st', σ'))
    (hP : va_P D classes (evH (ev ad xs bS) ad aC σ.2.1) H) (hD : va_D A (evH (ev ad xs bS) ad aC σ.2.1)) (hS : va_S A s.heap H locs) (hl : lv_has ls nL (evL (ev ad xs bS) lv)) (hd : decode cc pc = .ok (.iastore, 1))
    (kk : xgo p l e R s m args below meth c Q ad xs bS aC D A lv σ.2.2.1 (pc + 1) ls st' σ' nL) : W p l e R s m args below meth c H locs σ.2.2.2.1 σ.2.2.2.2 Q (F0 m pc ls (evS (ev ad xs bS) st)) := by
  obtain ⟨v, i, o, r, ti, vs, j, rfl, hk, ht, hok, hj, hq⟩ := xast_spec h
  obtain ⟨rfl, rfl⟩ := Prod.mk.inj hq
  have ht := Nat.eq_of_beq_eq_true ht
  subst ht
  obtain ⟨h1, h2, h3⟩ := xix_spec hj
  obtain ⟨q0, hq, hset⟩ := xhk_get (E := ev ad xs bS) (ad := ad) (aC := aC) hk
  obtain ⟨x, hxv⟩ := xint_ev (ad := ad) (xs := xs) (bS := bS) hok
  have e1 : evA (ev ad xs bS) 0 (vs.set j v) = (vs.length, .inl (upd (fun k => evI (ev ad xs bS (vs.getD k (.int 0)))) i.toNatClampNeg x)) := by
    show ((vs.set j v).length, Sum.inl (fun k => evI (ev ad xs bS ((vs.set j v).getD k (.int 0))))) = _
    rw [List.length_set]
    refine congrArg (fun z => (vs.length, Sum.inl z)) (funext fun k => ?_)
    show evI (ev ad xs bS ((vs.set j v).getD k (.int 0))) = upd _ _ _ k
    rw [getD_put v _ h3, h2]
    unfold upd
    by_cases hkj : k = j
    · rw [if_pos hkj, if_pos hkj, hxv]; rfl
    · rw [if_neg hkj, if_neg hkj]
  show W p l e R s m args below meth c H locs _ _ Q (F0 m pc ls (ev ad xs bS v :: .int i :: .ref (ad o) :: evS (ev ad xs bS) st'))
  rw [hxv]
  refine va_iast hx hb hK hP hD hS q0 0 hq (xtys_get aC (by omega)) h1 hd (fun H1 locs1 p1 d1 s1 => ?_)
  have e2 : (evH (ev ad xs bS) ad aC σ.2.1).set q0 (ad o, .inl (aC 0, vs.length, .inl (upd (fun k => evI (ev ad xs bS (vs.getD k (.int 0)))) i.toNatClampNeg x))) = evH (ev ad xs bS) ad aC (xhs σ.2.1 o (true, 0, vs.set j v)) := by
    rw [← hset (true, 0, vs.set j v)]
    show _ = (evH (ev ad xs bS) ad aC σ.2.1).set q0 (ad o, .inl (aC 0, evA (ev ad xs bS) 0 (vs.set j v)))
    rw [e1]
  exact kk ad H1 locs1 (fun _ _ => rfl) (Nat.le_refl _) (by dsimp only; rw [← e2]; exact p1) (by dsimp only; rw [← e2]; exact d1) s1 hl
theorem xbool_ev {v : Value} (h : xbool v = true) : ∃ x, ev ad xs bS v = .int x ∧ vp_nar .boolean x = x := by
  unfold xbool at h
  split at h
  · rename_i x
    simp only [Bool.or_eq_true, decide_eq_true_eq] at h
    rcases h with rfl | rfl
    · exact ⟨0, rfl, by decide⟩
    · exact ⟨1, rfl, by decide⟩
  · cases h
theorem xw_zast (hx : p.tables.exec = Jvm.exec) (hb : c.code = cc) (hK : va_K D classes (xtys aC) s)
    {lv : XL} {st st' : List Value} {σ σ' : XS} (h : xast xbool (fun ti => Nat.beq ti 1) st σ = some (st', σ'))
    (hP : va_P D classes (evH (ev ad xs bS) ad aC σ.2.1) H) (hD : va_D A (evH (ev ad xs bS) ad aC σ.2.1)) (hS : va_S A s.heap H locs) (hl : lv_has ls nL (evL (ev ad xs bS) lv)) (hd : decode cc pc = .ok (.bastore, 1))
    (kk : xgo p l e R s m args below meth c Q ad xs bS aC D A lv σ.2.2.1 (pc + 1) ls st' σ' nL) : W p l e R s m args below meth c H locs σ.2.2.2.1 σ.2.2.2.2 Q (F0 m pc ls (evS (ev ad xs bS) st)) := by
  obtain ⟨v, i, o, r, ti, vs, j, rfl, hk, ht, hok, hj, hq⟩ := xast_spec h
  obtain ⟨rfl, rfl⟩ := Prod.mk.inj hq
  have ht := Nat.eq_of_beq_eq_true ht
  subst ht
  obtain ⟨h1, h2, h3⟩ := xix_spec hj
  obtain ⟨q0, hq, hset⟩ := xhk_get (E := ev ad xs bS) (ad := ad) (aC := aC) hk
  obtain ⟨x, hxv, hnar⟩ := xbool_ev (ad := ad) (xs := xs) (bS := bS) hok
  have e1 : evA (ev ad xs bS) 1 (vs.set j v) = (vs.length, .inl (upd (fun k => evI (ev ad xs bS (vs.getD k (.int 0)))) i.toNatClampNeg x)) := by
    show ((vs.set j v).length, Sum.inl (fun k => evI (ev ad xs bS ((vs.set j v).getD k (.int 0))))) = _
    rw [List.length_set]
    refine congrArg (fun z => (vs.length, Sum.inl z)) (funext fun k => ?_)
    show evI (ev ad xs bS ((vs.set j v).getD k (.int 0))) = upd _ _ _ k
    rw [getD_put v _ h3, h2]
    unfold upd
    by_cases hkj : k = j
    · rw [if_pos hkj, if_pos hkj, hxv]; rfl
    · rw [if_neg hkj, if_neg hkj]
  show W p l e R s m args below meth c H locs _ _ Q (F0 m pc ls (ev ad xs bS v :: .int i :: .ref (ad o) :: evS (ev ad xs bS) st'))
  rw [hxv]
  refine va_zast hx hb hK hP hD hS q0 1 hq (xtys_get aC (by omega)) h1 hd (fun H1 locs1 p1 d1 s1 => ?_)
  rw [hnar] at p1 d1
  have e2 : (evH (ev ad xs bS) ad aC σ.2.1).set q0 (ad o, .inl (aC 1, vs.length, .inl (upd (fun k => evI (ev ad xs bS (vs.getD k (.int 0)))) i.toNatClampNeg x))) = evH (ev ad xs bS) ad aC (xhs σ.2.1 o (true, 1, vs.set j v)) := by
    rw [← hset (true, 1, vs.set j v)]
    show _ = (evH (ev ad xs bS) ad aC σ.2.1).set q0 (ad o, .inl (aC 1, evA (ev ad xs bS) 1 (vs.set j v)))
    rw [e1]
  exact kk ad H1 locs1 (fun _ _ => rfl) (Nat.le_refl _) (by dsimp only; rw [← e2]; exact p1) (by dsimp only; rw [← e2]; exact d1) s1 hl
theorem xw_last (hx : p.tables.exec = Jvm.exec) (hb : c.code = cc) (hK : va_K D classes (xtys aC) s)
    {lv : XL} {st st' : List Value} {σ σ' : XS} (h : xast xlong (fun ti => Nat.beq ti 2) st σ = some (st', σ'))
    (hP : va_P D classes (evH (ev ad xs bS) ad aC σ.2.1) H) (hD : va_D A (evH (ev ad xs bS) ad aC σ.2.1)) (hS : va_S A s.heap H locs) (hl : lv_has ls nL (evL (ev ad xs bS) lv)) (hd : decode cc pc = .ok (.lastore, 1))
    (kk : xgo p l e R s m args below meth c Q ad xs bS aC D A lv σ.2.2.1 (pc + 1) ls st' σ' nL) : W p l e R s m args below meth c H locs σ.2.2.2.1 σ.2.2.2.2 Q (F0 m pc ls (evS (ev ad xs bS) st)) := by
  obtain ⟨v, i, o, r, ti, vs, j, rfl, hk, ht, hok, hj, hq⟩ := xast_spec h
  obtain ⟨rfl, rfl⟩ := Prod.mk.inj hq
  have ht := Nat.eq_of_beq_eq_true ht
  subst ht
  obtain ⟨h1, h2, h3⟩ := xix_spec hj
  obtain ⟨q0, hq, hset⟩ := xhk_get (E := ev ad xs bS) (ad := ad) (aC := aC) hk
  obtain ⟨x, hxv⟩ := xlong_ev (ad := ad) (xs := xs) (bS := bS) hok
  have e1 : evA (ev ad xs bS) 2 (vs.set j v) = (vs.length, .inr (.inl (vp_updL (fun k => evG (ev ad xs bS (vs.getD k (.long 0)))) i.toNatClampNeg x))) := by
    show ((vs.set j v).length, Sum.inr (Sum.inl (fun k => evG (ev ad xs bS ((vs.set j v).getD k (.long 0)))))) = _
    rw [List.length_set]
    refine congrArg (fun z => (vs.length, Sum.inr (Sum.inl z))) (funext fun k => ?_)
    show evG (ev ad xs bS ((vs.set j v).getD k (.long 0))) = vp_updL _ _ _ k
    rw [getD_put v _ h3, h2]
    unfold vp_updL
    by_cases hkj : k = j
    · rw [if_pos hkj, if_pos hkj, hxv]; rfl
    · rw [if_neg hkj, if_neg hkj]
  show W p l e R s m args below meth c H locs _ _ Q (F0 m pc ls (ev ad xs bS v :: .int i :: .ref (ad o) :: evS (ev ad xs bS) st'))
  rw [hxv]
  refine va_last hx hb hK hP hD hS q0 2 hq (xtys_get aC (by omega)) h1 hd (fun H1 locs1 p1 d1 s1 => ?_)
  have e2 : (evH (ev ad xs bS) ad aC σ.2.1).set q0 (ad o, .inl (aC 2, vs.length, .inr (.inl (vp_updL (fun k => evG (ev ad xs bS (vs.getD k (.long 0)))) i.toNatClampNeg x)))) = evH (ev ad xs bS) ad aC (xhs σ.2.1 o (true, 2, vs.set j v)) := by
    rw [← hset (true, 2, vs.set j v)]
    show _ = (evH (ev ad xs bS) ad aC σ.2.1).set q0 (ad o, .inl (aC 2, evA (ev ad xs bS) 2 (vs.set j v)))
    rw [e1]
  exact kk ad H1 locs1 (fun _ _ => rfl) (Nat.le_refl _) (by dsimp only; rw [← e2]; exact p1) (by dsimp only; rw [← e2]; exact d1) s1 hl
/-- an array of references behind a store -/
theorem evA_putq {ti : Nat} (h3 : 3 ≤ ti) {vs : List Value} {j : Nat} {v : Value} {x : Option Nat} (hj : j < vs.length) (hxv : evR (ev ad xs bS v) = x) :
    evA (ev ad xs bS) ti (vs.set j v) = (vs.length, .inr (.inr (.inr (.inr (va_up (fun k => evR (ev ad xs bS (vs.getD k .null))) j x))))) := by
  have hA9 : evA (ev ad xs bS) ti (vs.set j v) = ((vs.set j v).length, .inr (.inr (.inr (.inr (fun k => evR (ev ad xs bS ((vs.set j v).getD k .null))))))) := by
    match ti, h3 with
    | k + 3, _ => rfl
  rw [hA9, List.length_set]
  refine congrArg (fun z => (vs.length, Sum.inr (Sum.inr (Sum.inr (Sum.inr z))))) (funext fun k => ?_)
  show evR (ev ad xs bS ((vs.set j v).getD k .null)) = va_up _ _ _ k
  rw [getD_put v _ hj]
  unfold va_up
  by_cases hkj : k = j
  · rw [if_pos hkj, if_pos hkj, hxv]
  · rw [if_neg hkj, if_neg hkj]
theorem xcell_cls (c : ClassId) (x : vp_A) : (vp_cell c x).cls = c ∧ (vp_cell c x).vm = .none := by
  obtain ⟨n, f | f | f | f | f⟩ := x <;> exact ⟨rfl, rfl⟩
theorem xw_asa (hx : p.tables.exec = Jvm.exec) (hb : c.code = cc) (hK : va_K D classes (xtys aC) s) (hAA : ∀ ty, (ty = .array .int ∨ ty = .array .boolean ∨ ty = .array (.array .int)) → (Jvm.Cond.arrayOver ty).before args s = true)
    {lv : XL} {st st' : List Value} {σ σ' : XS} (h : xasa st σ = some (st', σ'))
    (hP : va_P D classes (evH (ev ad xs bS) ad aC σ.2.1) H) (hD : va_D A (evH (ev ad xs bS) ad aC σ.2.1)) (hS : va_S A s.heap H locs) (hl : lv_has ls nL (evL (ev ad xs bS) lv)) (hd : decode cc pc = .ok (.aastore, 1))
    (kk : xgo p l e R s m args below meth c Q ad xs bS aC D A lv σ.2.2.1 (pc + 1) ls st' σ' nL) : W p l e R s m args below meth c H locs σ.2.2.2.1 σ.2.2.2.2 Q (F0 m pc ls (evS (ev ad xs bS) st)) := by
  unfold xasa at h
  split at h
  · obtain ⟨v, i, o, r, ti, vs, j, hst, hk, ht, hok, hj, hq⟩ := xast_spec h
    obtain ⟨rfl, rfl⟩ := List.cons.inj hst
    obtain ⟨rfl, rfl⟩ := Prod.mk.inj hq
    rw [Bool.and_eq_true] at ht
    have h3 := Nat.le_of_ble_eq_true ht.1
    have h5 := Nat.le_of_ble_eq_true ht.2
    obtain ⟨h1, h2, hjl⟩ := xix_spec hj
    obtain ⟨q0, hq, hset⟩ := xhk_get (E := ev ad xs bS) (ad := ad) (aC := aC) hk
    obtain ⟨C, hC⟩ := xty_obj h3 h5
    have ht9 := xtys_get aC (show ti ≤ 8 by omega)
    rw [hC] at ht9
    have hA9 : evA (ev ad xs bS) ti vs = (vs.length, .inr (.inr (.inr (.inr (fun j => evR (ev ad xs bS (vs.getD j .null))))))) := by
      match ti, h3 with
      | k + 3, _ => rfl
    have hq9 : (evH (ev ad xs bS) ad aC σ.2.1)[q0]? = some (ad o, .inl (aC ti, vs.length, .inr (.inr (.inr (.inr (fun j => evR (ev ad xs bS (vs.getD j .null)))))))) := by
      rw [hq]; show some (ad o, Sum.inl (aC ti, evA (ev ad xs bS) ti vs)) = _; rw [hA9]
    refine va_astqN hx hb hK hP hD hS q0 ti (C := C) hq9 ht9 h1 hd (fun H1 locs1 p1 d1 s1 => ?_)
    have e2 : (evH (ev ad xs bS) ad aC σ.2.1).set q0 (ad o, .inl (aC ti, vs.length, .inr (.inr (.inr (.inr (va_up (fun j => evR (ev ad xs bS (vs.getD j .null))) i.toNatClampNeg none)))))) = evH (ev ad xs bS) ad aC (xhs σ.2.1 o (true, ti, vs.set j .null)) := by
      rw [← hset (true, ti, vs.set j .null)]
      show _ = (evH (ev ad xs bS) ad aC σ.2.1).set q0 (ad o, .inl (aC ti, evA (ev ad xs bS) ti (vs.set j .null)))
      rw [evA_putq h3 hjl (x := none) rfl, h2]
    exact kk ad H1 locs1 (fun _ _ => rfl) (Nat.le_refl _) (by dsimp only; rw [← e2]; exact p1) (by dsimp only; rw [← e2]; exact d1) s1 hl
  · rename_i b w2 o2 rr
    split at h
    · rename_i ti2 vs2 bb ci fs hk1 hk2
      cases hb9 : (Nat.ble 3 ti2 && (Nat.ble ti2 8 && ((bb == (xel ti2).1) && Nat.beq ci (xel ti2).2))) with
      | false => rw [hb9] at h; cases h
      | true =>
        rw [hb9] at h
        simp only [cond_true] at h
        simp only [Bool.and_eq_true, beq_iff_eq] at hb9
        obtain ⟨h3, h8, hb8, hb9⟩ := hb9
        have h3 := Nat.le_of_ble_eq_true h3
        have h8 := Nat.le_of_ble_eq_true h8
        have hb9 := Nat.eq_of_beq_eq_true hb9
        obtain ⟨v, i, o, r, ti, vs, j, hst, hk, ht, hok, hj, hq⟩ := xast_spec h
        obtain ⟨e1, hs1⟩ := List.cons.inj hst
        obtain ⟨e2, hs2⟩ := List.cons.inj hs1
        obtain ⟨e3, hs3⟩ := List.cons.inj hs2
        cases e3
        subst e1; subst e2; subst hs3
        obtain ⟨rfl, rfl⟩ := Prod.mk.inj hq
        have ht := Nat.eq_of_beq_eq_true ht
        subst ht
        obtain ⟨h1, h2, hjl⟩ := xix_spec hj
        obtain ⟨q0, hq, hset⟩ := xhk_get (E := ev ad xs bS) (ad := ad) (aC := aC) hk
        obtain ⟨qk, hqk, -⟩ := xhk_get (E := ev ad xs bS) (ad := ad) (aC := aC) hk2
        have hA9 : evA (ev ad xs bS) ti2 vs = (vs.length, .inr (.inr (.inr (.inr (fun j => evR (ev ad xs bS (vs.getD j .null))))))) := by
          match ti2, h3 with
          | k + 3, _ => rfl
        have hq9 : (evH (ev ad xs bS) ad aC σ.2.1)[q0]? = some (ad o2, .inl (aC ti2, vs.length, .inr (.inr (.inr (.inr (fun j => evR (ev ad xs bS (vs.getD j .null)))))))) := by
          rw [hq]; show some (ad o2, Sum.inl (aC ti2, evA (ev ad xs bS) ti2 vs)) = _; rw [hA9]
        have fin : ∀ (H1 : Heap) (locs1 : List Loc), va_P D classes ((evH (ev ad xs bS) ad aC σ.2.1).set q0 (ad o2, .inl (aC ti2, vs.length, .inr (.inr (.inr (.inr (va_up (fun j => evR (ev ad xs bS (vs.getD j .null))) i.toNatClampNeg (some (ad b))))))))) H1 → va_D A ((evH (ev ad xs bS) ad aC σ.2.1).set q0 (ad o2, .inl (aC ti2, vs.length, .inr (.inr (.inr (.inr (va_up (fun j => evR (ev ad xs bS (vs.getD j .null))) i.toNatClampNeg (some (ad b))))))))) → va_S A s.heap H1 locs1 →
            W p l e R s m args below meth c H1 locs1 σ.2.2.2.1 σ.2.2.2.2 Q (F0 m (pc + 1) ls (evS (ev ad xs bS) st')) := fun H1 locs1 p1 d1 s1 => by
          have e2 : (evH (ev ad xs bS) ad aC σ.2.1).set q0 (ad o2, .inl (aC ti2, vs.length, .inr (.inr (.inr (.inr (va_up (fun j => evR (ev ad xs bS (vs.getD j .null))) i.toNatClampNeg (some (ad b)))))))) = evH (ev ad xs bS) ad aC (xhs σ.2.1 o2 (true, ti2, vs.set j (.ref b))) := by
            rw [← hset (true, ti2, vs.set j (.ref b))]
            show _ = (evH (ev ad xs bS) ad aC σ.2.1).set q0 (ad o2, .inl (aC ti2, evA (ev ad xs bS) ti2 (vs.set j (.ref b))))
            rw [evA_putq h3 hjl (x := some (ad b)) rfl, h2]
          exact kk ad H1 locs1 (fun _ _ => rfl) (Nat.le_refl _) (by dsimp only; rw [← e2]; exact p1) (by dsimp only; rw [← e2]; exact d1) s1 hl
        have obj : ∀ (ci9 : Nat) (r : vw_C), bb = false → ci = ci9 → (classes : List vw_C)[ci9]? = some r → xty ti2 = .object r.1 → W p l e R s m args below meth c H locs σ.2.2.2.1 σ.2.2.2.2 Q (F0 m pc ls (.ref (ad b) :: .int i :: .ref (ad o2) :: evS (ev ad xs bS) st')) := by
          intro ci9 r e1 e2 e3 e4
          subst e1; subst e2
          exact va_astq hx hb hK hP hD hS q0 ti2 qk ci (r := r) (v := ad b) (vs := fs.map (ev ad xs bS)) hq9 (by rw [xtys_get aC h8, e4]) hqk e3 h1 hd fin
        have arr : ∀ (tj : Nat) (ty : FieldType), bb = true → ci = tj → tj ≤ 8 → xty ti2 = .array ty → xty tj = ty → (FieldType.array ty).toString = "[" ++ ty.toString → (∀ c9 : ClassId, s.vm.findClass ("[" ++ ty.toString) = some c9 → va_RA s c9 ty) → (Jvm.Cond.arrayOver (.array ty)).before args s = true → W p l e R s m args below meth c H locs σ.2.2.2.1 σ.2.2.2.2 Q (F0 m pc ls (.ref (ad b) :: .int i :: .ref (ad o2) :: evS (ev ad xs bS) st')) := by
          intro tj ty e1 e2 e3 e4 e5 hstr hra hov
          subst e1; subst e2
          obtain ⟨comp, c9, k9, f1, f2, f3, f4⟩ := Cond.arrayOver_specA hov
          have g1 : c9 = aC ti2 := xRA_inj (ty := .array ty) f4 (by have := (hK.2 ti2 _ (xtys_get aC h8)).2; rw [e4] at this; exact this)
          have g2 : comp = aC ci := xRA_inj (ty := ty) (hra comp (by rw [← hstr]; exact f1)) (by have := (hK.2 ci _ (xtys_get aC e3)).2; rw [e5] at this; exact this)
          subst g1; subst g2
          obtain ⟨-, kv, hkv, -⟩ := (hK.2 ci _ (xtys_get aC e3)).1 0 (fun _ => .null)
          have hkv : s.vm.classes[aC ci]? = some kv := hkv
          have hcv : H[ad b]? = some (vp_cell (aC ci) (evA (ev ad xs bS) ci fs)) := hP qk _ hqk
          obtain ⟨v1, v2⟩ := xcell_cls (aC ci) (evA (ev ad xs bS) ci fs)
          have hlt : i.toNatClampNeg < vs.length := Nat.not_le.mp fun z => h1 (Or.inr z)
          have hi0 : ¬ i < 0 := fun z => h1 (Or.inl z)
          refine W.aast hx hb (hP q0 _ hq9) (fun q h => by cases h) (fun h => by cases h) f2 f3 rfl hkv ⟨hi0, by show _ < (arrV _ _ _).slots.size; rw [arrV_size]; exact hlt⟩ hcv (fun q h => by rw [v2] at h; cases h) (by rw [v1]; exact hkv) (by rw [v1]; exact va_asg _ _) rfl rfl hd (fun H1 e z oq => ?_)
          refine fin H1 _ (hP.set hD hq9 ?_ oq) (hD.set hq9) (hS.put z oq (hD.2 q0 _ hq9))
          show H1[ad o2]? = some (vp_cell _ _)
          rw [e, vp_cell_q, vp_cell_q, arrV_store]
          refine congrArg (fun z => some (arrV (aC ti2) vs.length z)) (funext fun q => ?_)
          unfold updV va_up
          by_cases hqj : q = i.toNatClampNeg
          · rw [if_pos hqj, if_pos hqj]; rfl
          · rw [if_neg hqj, if_neg hqj]
        show W p l e R s m args below meth c H locs σ.2.2.2.1 σ.2.2.2.2 Q (F0 m pc ls (.ref (ad b) :: .int i :: .ref (ad o2) :: evS (ev ad xs bS) st'))
        match ti2, h3, h8, hb8, hb9, obj, arr with
        | 3, _, _, hb8, hb9, obj, _ => exact obj 10 _ hb8 hb9 rfl rfl
        | 4, _, _, hb8, hb9, obj, _ => exact obj 3 _ hb8 hb9 rfl rfl
        | 5, _, _, hb8, hb9, obj, _ => exact obj 8 _ hb8 hb9 rfl rfl
        | 6, _, _, hb8, hb9, _, arr => exact arr 0 .int hb8 hb9 (by omega) rfl rfl (by decide +kernel) (fun _ h9 => h9) (hAA _ (Or.inl rfl))
        | 7, _, _, hb8, hb9, _, arr => exact arr 1 .boolean hb8 hb9 (by omega) rfl rfl (by decide +kernel) (fun _ h9 => h9) (hAA _ (Or.inr (Or.inl rfl)))
        | 8, _, _, hb8, hb9, _, arr => exact arr 6 (.array .int) hb8 hb9 (by omega) rfl rfl (by decide +kernel) (fun _ h9 => h9) (hAA _ (Or.inr (Or.inr rfl)))
        | n + 9, _, h8, _, _, _, _ => omega
    · cases h
  · cases h
end XO
end
section
section XB
variable {p : Program} {l : Launch} {e : Env} {R : Room} {s : State} {m : MethodId} {args : Array Value} {below : List Frame} {meth : Method} {c : Code} {H : Heap} {locs : List Loc} {cells slots : Nat} {Q : State → Prop}
variable {cc : ByteArray} {pc nL : Nat} {ls : Array Slot} {ad : Nat → Nat} {xs : Nat → Int32} {bS : Nat} {aC : Nat → ClassId} {D : va_G} {A : Nat → Prop} {own : String} {Ts : List Jvm.Cond}
theorem xheap_ok (hx : p.tables.exec = Jvm.exec) (hb : c.code = cc) (hts : ∀ w ∈ Ts, w.before args s = true) (hcw : ∀ (ci : Nat) (C : String) (T : u_T) (N : Nat), classes[ci]? = some (C, T, N) → ∀ w ∈ u_ws C T N, w ∈ Ts) (hown : s.vm.findClass own = some m.cls) (hK : va_K D classes (xtys aC) s) (hA : ∀ q, s.heap.size ≤ q → A q)
    (hAO : ∀ ti C, ti ≤ 5 → xty ti = .object C → va_AO C s) (hAA : ∀ ty, (ty = .array .int ∨ ty = .array .boolean ∨ ty = .array (.array .int)) → (Jvm.Cond.arrayOver ty).before args s = true)
    {scr : Option (Nat × (Nat → Int32))} (hX : ∀ L ys, scr = some (L, ys) → ys = xs ∧ va_X bS L xs s s.heap ∧ bS < s.heap.size ∧ ¬ A bS) {init : Bool} (hin : init = true → meth.name = "<init>")
    {i : Instr} {aux : List Nat} (hv : xvh Ts own init i aux) {lv : XL} {st st' : List Value} {σ σ' : XS} (hwf : xal σ.2.2.1 lv st σ.2.1 = true) (h : xheap scr R i aux lv st σ = some (st', σ'))
    (hP : va_P D classes (evH (ev ad xs bS) ad aC σ.2.1) H) (hD : va_D A (evH (ev ad xs bS) ad aC σ.2.1)) (hS : va_S A s.heap H locs) (hl : lv_has ls nL (evL (ev ad xs bS) lv)) (hd : decode cc pc = .ok (i, ilen i))
    (kk : xgo p l e R s m args below meth c Q ad xs bS aC D A lv σ.2.2.1 (pc + ilen i) ls st' σ' nL) : W p l e R s m args below meth c H locs σ.2.2.2.1 σ.2.2.2.2 Q (F0 m pc ls (evS (ev ad xs bS) st)) := by
  unfold xheap at h
  split at h
  · exact xw_get hx hb hts hcw hown hK hv h hP hD hS hl hd kk
  · exact xw_put hx hb hts hcw hown hK hin hv h hP hD hS hl hd kk
  · exact xw_newo hx hb hts hcw hown hK hA hv hwf h hP hD hS hl hd kk
  · exact xw_newa hx hb hts hown hK hA hv hwf h hP hD hS hl hd kk
  · exact xw_newq hx hb hts hown hK hA hAO hAA hv hwf h hP hD hS hl hd kk
  · rename_i idx d
    cases h2 : Nat.beq d 2 with
    | true =>
      have e2 := Nat.eq_of_beq_eq_true h2
      subst e2
      exact xw_m2 hx hb hts hown hK hA hAA hv hwf h hP hD hS hl hd kk
    | false =>
      rw [h2] at h
      cases h3 : Nat.beq d 3 with
      | true =>
        rw [h3] at h
        have e2 := Nat.eq_of_beq_eq_true h3
        subst e2
        exact xw_m3 hx hb hts hown hK hA hAA hv hwf h hP hD hS hl hd kk
      | false => rw [h3] at h; cases h
  · exact xw_len hx hb hK hX h hP hD hS hl hd kk
  · exact xw_ild hx hb hK hX h hP hD hS hl hd kk
  · exact xw_lald hx hb hK h hP hD hS hl hd kk
  · exact xw_zald hx hb hK h hP hD hS hl hd kk
  · exact xw_aldq hx hb hK h hP hD hS hl hd kk
  · exact xw_iast hx hb hK h hP hD hS hl hd kk
  · exact xw_zast hx hb hK h hP hD hS hl hd kk
  · exact xw_last hx hb hK h hP hD hS hl hd kk
  · exact xw_asa hx hb hK hAA h hP hD hS hl hd kk
  · cases h
/-! branches -/
def xsat (xs : Nat → Int32) (pe : XP) : Prop := ∀ (i : Nat) (q : Int × Int), pe[i]? = some q → q.1 ≤ (xs i).toInt ∧ (xs i).toInt ≤ q.2
theorem xpset_eq : ∀ (l : XP) (k : Nat) (v : Int × Int), xpset l k v = l.set k v
  | [], _, _ => by simp [xpset]
  | _ :: _, 0, _ => by simp [xpset]
  | _ :: t, k + 1, v => by simp [xpset, xpset_eq t k v]
theorem xsat_set {pe : XP} {u : Nat} {q : Int × Int} (h : xsat xs pe) (h1 : q.1 ≤ (xs u).toInt) (h2 : (xs u).toInt ≤ q.2) : xsat xs (xpset pe u q) := by
  intro i r hr
  rw [xpset_eq, List.getElem?_set] at hr
  split at hr
  · rename_i e1
    subst e1
    split at hr
    · cases hr; exact ⟨h1, h2⟩
    · cases hr
  · exact h i r hr
theorem xone_in {pe : XP} {u : Nat} {b : Bool} {q : Int × Int} {v : Int} (h1 : q.1 ≤ v) (h2 : v ≤ q.2) : (b, xpset pe u q) ∈ xone pe u b q := by
  unfold xone
  rw [decide_eq_true (Int.le_trans h1 h2)]
  exact List.mem_cons_self
theorem xmn_le {a b v : Int} (h1 : v ≤ a) (h2 : v ≤ b) : v ≤ xmn a b := by
  unfold xmn; cases decide (a ≤ b) <;> assumption
theorem xmx_le {a b v : Int} (h1 : a ≤ v) (h2 : b ≤ v) : xmx a b ≤ v := by
  unfold xmx; cases decide (a ≤ b) <;> assumption
theorem xcut_ok {pe : XP} {u : Nat} {q : Int × Int} (k : Int) (b : Bool) (h : xsat xs pe) (hq : pe[u]? = some q) : ∃ pe', ((bif decide ((xs u).toInt < k) then b else !b), pe') ∈ xcut pe u q k b ∧ xsat xs pe' := by
  obtain ⟨h1, h2⟩ := h u q hq
  by_cases hk : (xs u).toInt < k
  · rw [decide_eq_true hk]
    have g1 : (xs u).toInt ≤ xmn q.2 (k - 1) := xmn_le h2 (by omega)
    exact ⟨_, List.mem_append_left _ (xone_in (q := (q.1, xmn q.2 (k - 1))) h1 g1), xsat_set h h1 g1⟩
  · rw [decide_eq_false hk]
    have g1 : xmx q.1 k ≤ (xs u).toInt := xmx_le h1 (by omega)
    exact ⟨_, List.mem_append_right _ (xone_in (q := (xmx q.1 k, q.2)) g1 h2), xsat_set h g1 h2⟩
theorem xcutE_ok {pe : XP} {u : Nat} {q : Int × Int} (k : Int) (b : Bool) (h : xsat xs pe) (hq : pe[u]? = some q) : ∃ pe', ((bif decide ((xs u).toInt = k) then b else !b), pe') ∈ xcutE pe u q k b ∧ xsat xs pe' := by
  obtain ⟨h1, h2⟩ := h u q hq
  unfold xcutE
  by_cases hk : (xs u).toInt = k
  · rw [decide_eq_true hk]
    have g1 : xmx q.1 k ≤ (xs u).toInt := xmx_le h1 (by omega)
    have g2 : (xs u).toInt ≤ xmn q.2 k := xmn_le h2 (by omega)
    exact ⟨_, List.mem_append_left _ (xone_in (q := (xmx q.1 k, xmn q.2 k)) g1 g2), xsat_set h g1 g2⟩
  · rw [decide_eq_false hk]
    by_cases e1 : q.1 = k
    · rw [decide_eq_true e1]
      have g1 : q.1 + 1 ≤ (xs u).toInt := by omega
      exact ⟨_, List.mem_append_right _ (xone_in (q := (q.1 + 1, q.2)) g1 h2), xsat_set h g1 h2⟩
    · rw [decide_eq_false e1]
      by_cases e2 : q.2 = k
      · rw [decide_eq_true e2]
        have g1 : (xs u).toInt ≤ q.2 - 1 := by omega
        exact ⟨_, List.mem_append_right _ (xone_in (q := (q.1, q.2 - 1)) h1 g1), xsat_set h h1 g1⟩
      · rw [decide_eq_false e2]
        exact ⟨_, List.mem_append_right _ (xone_in (q := q) h1 h2), xsat_set h h1 h2⟩
theorem xsplit_ok {pe : XP} {u : Nat} {cd : ClassFile.Cond} {y : Int32} {r : List (Bool × XP)} (hr : xsplit pe u cd y.toInt = some r) (h : xsat xs pe) : ∃ pe', (xprop cd (xs u) y, pe') ∈ r ∧ xsat xs pe' := by
  unfold xsplit at hr
  split at hr
  · cases hr
  · rename_i q hq
    rw [xnth_eq] at hq
    cases cd with
    | eq =>
      obtain rfl := Option.some.inj hr
      have := xcutE_ok y.toInt true h hq
      rw [show xprop .eq (xs u) y = (bif decide ((xs u).toInt = y.toInt) then true else !true) by simp [xprop, Int32.toInt_inj]]
      exact this
    | ne =>
      obtain rfl := Option.some.inj hr
      have := xcutE_ok y.toInt false h hq
      rw [show xprop .ne (xs u) y = (bif decide ((xs u).toInt = y.toInt) then false else !false) by simp [xprop, Int32.toInt_inj]]
      exact this
    | lt =>
      obtain rfl := Option.some.inj hr
      have := xcut_ok y.toInt true h hq
      rw [show xprop .lt (xs u) y = (bif decide ((xs u).toInt < y.toInt) then true else !true) by simp [xprop, Int32.lt_iff_toInt_lt]]
      exact this
    | ge =>
      obtain rfl := Option.some.inj hr
      have := xcut_ok y.toInt false h hq
      rw [show xprop .ge (xs u) y = (bif decide ((xs u).toInt < y.toInt) then false else !false) by
        by_cases z : (xs u).toInt < y.toInt
        · simp [xprop, Int32.le_iff_toInt_le, z]
        · simp [xprop, Int32.le_iff_toInt_le, z, Int.not_lt.mp z]]
      exact this
    | gt =>
      obtain rfl := Option.some.inj hr
      have := xcut_ok (y.toInt + 1) false h hq
      rw [show xprop .gt (xs u) y = (bif decide ((xs u).toInt < y.toInt + 1) then false else !false) by
        by_cases z : (xs u).toInt < y.toInt + 1
        · have z2 : ¬ y.toInt < (xs u).toInt := by omega
          simp [xprop, Int32.lt_iff_toInt_lt, z, z2]
        · have z2 : y.toInt < (xs u).toInt := by omega
          simp [xprop, Int32.lt_iff_toInt_lt, z, z2]]
      exact this
    | le =>
      obtain rfl := Option.some.inj hr
      have := xcut_ok (y.toInt + 1) true h hq
      rw [show xprop .le (xs u) y = (bif decide ((xs u).toInt < y.toInt + 1) then true else !true) by
        by_cases z : (xs u).toInt < y.toInt + 1
        · have z2 : (xs u).toInt ≤ y.toInt := by omega
          simp [xprop, Int32.le_iff_toInt_le, z, z2]
        · have z2 : ¬ (xs u).toInt ≤ y.toInt := by omega
          simp [xprop, Int32.le_iff_toInt_le, z, z2]]
      exact this
theorem xflip_ok (cd : ClassFile.Cond) (x y : Int32) : xprop (xflip cd) y x = xprop cd x y := by
  cases cd with
  | eq => simp [xprop, xflip, eq_comm]
  | ne => simp [xprop, xflip, eq_comm]
  | lt => rfl
  | ge => rfl
  | gt => rfl
  | le => rfl
theorem xbrs_ok {cd : ClassFile.Cond} {a b : Value} {pe : XP} {r : List (Bool × XP)} (hr : xbrs cd a b pe = some r) (h : xsat xs pe) : ∃ x y pe', ev ad xs bS a = .int x ∧ ev ad xs bS b = .int y ∧ (xprop cd x y, pe') ∈ r ∧ xsat xs pe' := by
  unfold xbrs at hr
  split at hr
  · obtain rfl := Option.some.inj hr
    exact ⟨_, _, pe, rfl, rfl, List.mem_cons_self, h⟩
  · obtain ⟨pe', h1, h2⟩ := xsplit_ok hr h
    exact ⟨_, _, pe', rfl, rfl, h1, h2⟩
  · obtain ⟨pe', h1, h2⟩ := xsplit_ok hr h
    rw [xflip_ok] at h1
    exact ⟨_, _, pe', rfl, rfl, h1, h2⟩
  · cases hr
theorem xtgt_ok {off : Int} {t : Nat} (h : xtgt pc off = some t) : (pc : Int) + off = (t : Int) := by
  unfold xtgt at h
  split at h
  · rename_i k hk
    cases h
    exact hk
  · cases h
theorem xjump_ok {off : Int} {r : List Value} {o : Option (List (Bool × XP))} {z : List (Nat × List Value × XP)} (h : xjump pc off r o = some z) : ∃ (t : Nat) (l0 : List (Bool × XP)), (pc : Int) + off = (t : Int) ∧ o = some l0 ∧ ∀ b pe', (b, pe') ∈ l0 → ((bif b then t else pc + 3), r, pe') ∈ z := by
  unfold xjump at h
  split at h
  · rename_i t l0 h1
    obtain rfl := Option.some.inj h
    exact ⟨t, l0, xtgt_ok h1, rfl, fun b pe' hb => List.mem_map.mpr ⟨(b, pe'), hb, rfl⟩⟩
  · cases h
theorem xw_icmp (hx : p.tables.exec = Jvm.exec) (hb : c.code = cc) {cd : ClassFile.Cond} {x y : Int32} {off : Int} {tgt : Nat} {rest : List Value} (hd : decode cc pc = .ok (.if_icmp cd off, 3)) (ht : (pc : Int) + off = (tgt : Int))
    (kk : ∀ b, b = xprop cd x y → W p l e R s m args below meth c H locs cells slots Q (F0 m (bif b then tgt else pc + 3) ls rest)) : W p l e R s m args below meth c H locs cells slots Q (F0 m pc ls (.int y :: .int x :: rest)) := by
  cases cd with
  | eq => exact lv_icmp_eq hx hb hd ht (fun h => kk true (by simp [xprop, h])) (fun h => kk false (by simp [xprop, h]))
  | ne => exact lv_icmp_ne hx hb hd ht (fun h => kk true (by simp [xprop, h])) (fun h => kk false (by simp [xprop, h]))
  | lt => exact lv_icmp_lt hx hb hd ht (fun h => kk true (decide_eq_true h).symm) (fun h => kk false (decide_eq_false h).symm)
  | ge => exact lv_icmp_ge hx hb hd ht (fun h => kk true (decide_eq_true h).symm) (fun h => kk false (decide_eq_false h).symm)
  | gt => exact lv_icmp_gt hx hb hd ht (fun h => kk true (decide_eq_true h).symm) (fun h => kk false (decide_eq_false h).symm)
  | le => exact lv_icmp_le hx hb hd ht (fun h => kk true (decide_eq_true h).symm) (fun h => kk false (decide_eq_false h).symm)
theorem xw_if (hx : p.tables.exec = Jvm.exec) (hb : c.code = cc) {cd : ClassFile.Cond} {x : Int32} {off : Int} {tgt : Nat} {rest : List Value} (hd : decode cc pc = .ok (.ifCond cd off, 3)) (ht : (pc : Int) + off = (tgt : Int))
    (kk : ∀ b, b = xprop cd x 0 → W p l e R s m args below meth c H locs cells slots Q (F0 m (bif b then tgt else pc + 3) ls rest)) : W p l e R s m args below meth c H locs cells slots Q (F0 m pc ls (.int x :: rest)) := by
  cases cd with
  | eq => exact lv_if_eq hx hb hd ht (fun h => kk true (by simp [xprop, h])) (fun h => kk false (by simp [xprop, h]))
  | ne => exact lv_if_ne hx hb hd ht (fun h => kk true (by simp [xprop, h])) (fun h => kk false (by simp [xprop, h]))
  | lt => exact lv_if_lt hx hb hd ht (fun h => kk true (decide_eq_true h).symm) (fun h => kk false (decide_eq_false h).symm)
  | ge => exact lv_if_ge hx hb hd ht (fun h => kk true (decide_eq_true h).symm) (fun h => kk false (decide_eq_false h).symm)
  | gt => exact lv_if_gt hx hb hd ht (fun h => kk true (decide_eq_true h).symm) (fun h => kk false (decide_eq_false h).symm)
  | le => exact lv_if_le hx hb hd ht (fun h => kk true (decide_eq_true h).symm) (fun h => kk false (decide_eq_false h).symm)
theorem xsw_ok {dflt low high : Int} {offs : Array Int} {r : List Value} {pv : Int → XP} : ∀ (n : Nat) (lo : Int) (z : List (Nat × List Value × XP)), xsw pc dflt low high offs r pv lo n = some z → ∀ v : Int, lo ≤ v → v < lo + n → ∃ t, xsel pc dflt low high offs v = some t ∧ (t, r, pv v) ∈ z
  | 0, lo, z, _, v, h1, h2 => by omega
  | n + 1, lo, z, h, v, h1, h2 => by
    unfold xsw at h
    split at h
    · rename_i t l0 e1 e2
      obtain rfl := Option.some.inj h
      by_cases hv : v = lo
      · subst hv
        exact ⟨t, e1, List.mem_cons_self⟩
      · obtain ⟨t2, h3, h4⟩ := xsw_ok n (lo + 1) l0 e2 v (by omega) (by omega)
        exact ⟨t2, h3, List.mem_cons_of_mem _ h4⟩
    · cases h
theorem xw_switch (hx : p.tables.exec = Jvm.exec) (hb : c.code = cc) {dflt low high : Int} {offs : Array Int} {n : Nat} {x : Int32} {t : Nat} {rest : List Value} (hd : decode cc pc = .ok (.tableswitch dflt low high offs, n)) (h : xsel pc dflt low high offs x.toInt = some t)
    (kk : W p l e R s m args below meth c H locs cells slots Q (F0 m t ls rest)) : W p l e R s m args below meth c H locs cells slots Q (F0 m pc ls (.int x :: rest)) := by
  unfold xsel at h
  cases h1 : (decide (x.toInt < low) || decide (high < x.toInt)) with
  | true =>
    rw [h1] at h
    simp only [Bool.or_eq_true, decide_eq_true_eq] at h1
    exact lv_tableOut hx hb hd h1 (xtgt_ok h) kk
  | false =>
    rw [h1] at h
    simp only [Bool.or_eq_false_iff, decide_eq_false_iff_not] at h1
    simp only [cond_false] at h
    split at h
    · rename_i off ho
      rw [xnth_eq] at ho
      exact lv_tableIn hx hb hd h1.1 h1.2 (by rw [← Array.getElem?_toList]; exact ho) (xtgt_ok h) kk
    · cases h
theorem xnul_ev {v : Value} {t : Bool} (h : xnul v = some t) : (t = true ∧ ev ad xs bS v = .null) ∨ (t = false ∧ ∃ a, ev ad xs bS v = .ref a) := by
  unfold xnul at h
  split at h <;> first | (cases h; exact Or.inl ⟨rfl, rfl⟩) | (cases h; exact Or.inr ⟨rfl, _, rfl⟩) | cases h
theorem xhk_idx {o : Nat} {c : XCl} : ∀ {h : XH}, xhk h o = some c → ∃ i : Nat, h[i]? = some (o, c)
  | [], h => nomatch h
  | (j, c') :: t, h => by
    unfold xhk at h
    cases hb : Nat.beq j o with
    | true =>
      rw [hb] at h
      have e1 : c' = c := Option.some.inj h
      have e2 := Nat.eq_of_beq_eq_true hb
      subst e1; subst e2
      exact ⟨0, rfl⟩
    | false =>
      rw [hb] at h
      obtain ⟨i, hi⟩ := xhk_idx h
      exact ⟨i + 1, hi⟩
/-- things with two numbers have two addresses -/
theorem xapart {h : XH} {a b : Nat} {E : Value → Value} (hD : va_D A (evH E ad aC h)) (ha : xsome (xhk h a) = true) (hb : xsome (xhk h b) = true) (hn : a ≠ b) : ad a ≠ ad b := by
  intro he
  cases h1 : xhk h a with
  | none => rw [h1] at ha; cases ha
  | some ca =>
    cases h2 : xhk h b with
    | none => rw [h2] at hb; cases hb
    | some cb =>
      obtain ⟨i, hi⟩ := xhk_idx h1
      obtain ⟨j, hj⟩ := xhk_idx h2
      have e1 : (evH E ad aC h)[i]? = some (ad a, evC E aC ca) := by unfold evH; rw [List.getElem?_map, hi]; rfl
      have e2 : (evH E ad aC h)[j]? = some (ad b, evC E aC cb) := by unfold evH; rw [List.getElem?_map, hj]; rfl
      have e3 := hD.1 i j _ _ e1 e2 he
      subst e3
      rw [hi] at hj
      cases hj
      exact hn rfl
theorem xsame_ev {h : XH} (hD : va_D A (evH (ev ad xs bS) ad aC h)) {v w : Value} {t : Bool} (hs : xsame h v w = some t) : ∃ rx ry, ev ad xs bS v = va_rf rx ∧ ev ad xs bS w = va_rf ry ∧ (t = true ↔ rx = ry) := by
  unfold xsame at hs
  split at hs
  · cases hs; exact ⟨none, none, rfl, rfl, by simp⟩
  · cases hs; exact ⟨some _, none, rfl, rfl, by simp⟩
  · cases hs; exact ⟨none, some _, rfl, rfl, by simp⟩
  · rename_i a b
    cases hb : Nat.beq a b with
    | true =>
      rw [hb] at hs
      cases hs
      have := Nat.eq_of_beq_eq_true hb
      subst this
      exact ⟨some (ad a), some (ad a), rfl, rfl, by simp⟩
    | false =>
      rw [hb] at hs
      cases hk : (xsome (xhk h a) && xsome (xhk h b)) with
      | false => rw [hk] at hs; cases hs
      | true =>
        rw [hk] at hs
        cases hs
        rw [Bool.and_eq_true] at hk
        have hn : ad a ≠ ad b := xapart hD hk.1 hk.2 (fun z => by subst z; rw [Nat.beq_refl] at hb; cases hb)
        exact ⟨some (ad a), some (ad b), rfl, rfl, by simp [hn]⟩
  · cases hs
theorem xb1_ok {b : Bool} {pe : XP} {o : Option Bool} {z : List (Bool × XP)} (h : xb1 b pe o = some z) : ∃ t, o = some t ∧ z = [(t == b, pe)] := by
  unfold xb1 at h
  split at h
  · exact ⟨_, rfl, (Option.some.inj h).symm⟩
  · cases h
theorem xbranch_ok {hh : XH} (hD : va_D A (evH (ev ad xs bS) ad aC hh)) (hx : p.tables.exec = Jvm.exec) (hb : c.code = cc) {i : Instr} {st : List Value} {pe : XP} {z : List (Nat × List Value × XP)} (h : xbranch hh pc i st pe = some z) (hs : xsat xs pe) (hd : decode cc pc = .ok (i, xil pc i))
    (kk : ∀ q ∈ z, xsat xs q.2.2 → W p l e R s m args below meth c H locs cells slots Q (F0 m q.1 ls (evS (ev ad xs bS) q.2.1))) : W p l e R s m args below meth c H locs cells slots Q (F0 m pc ls (evS (ev ad xs bS) st)) := by
  unfold xbranch at h
  split at h
  · split at h
    · rename_i off t ht
      obtain rfl := Option.some.inj h
      exact lv_goto hx hb hd (xtgt_ok ht) (kk _ List.mem_cons_self hs)
    · cases h
  · split at h
    · rename_i cd off st9 b a r
      obtain ⟨t, l0, h1, h2, h3⟩ := xjump_ok h
      obtain ⟨x, y, pe', h4, h5, h6, h7⟩ := xbrs_ok (ad := ad) (bS := bS) h2 hs
      show W p l e R s m args below meth c H locs cells slots Q (F0 m pc ls (ev ad xs bS b :: ev ad xs bS a :: evS (ev ad xs bS) r))
      rw [h4, h5]
      exact xw_icmp hx hb hd h1 (fun bb hbb => by rw [hbb]; exact kk _ (h3 _ _ h6) h7)
    · cases h
  · split at h
    · rename_i cd off a r
      obtain ⟨t, l0, h1, h2, h3⟩ := xjump_ok h
      obtain ⟨x, y, pe', h4, h5, h6, h7⟩ := xbrs_ok (ad := ad) (bS := bS) h2 hs
      cases h5
      show W p l e R s m args below meth c H locs cells slots Q (F0 m pc ls (ev ad xs bS a :: evS (ev ad xs bS) r))
      rw [h4]
      exact xw_if hx hb hd h1 (fun bb hbb => by rw [hbb]; exact kk _ (h3 _ _ h6) h7)
    · cases h
  · split at h
    · rename_i off a r
      obtain ⟨t, l0, h1, h2, h3⟩ := xjump_ok h
      obtain ⟨t2, h4, rfl⟩ := xb1_ok h2
      show W p l e R s m args below meth c H locs cells slots Q (F0 m pc ls (ev ad xs bS a :: evS (ev ad xs bS) r))
      rcases xnul_ev (ad := ad) (xs := xs) (bS := bS) h4 with ⟨rfl, h5⟩ | ⟨rfl, a9, h5⟩
      · rw [h5]
        exact lv_ifnullN hx hb hd h1 (kk _ (h3 _ _ List.mem_cons_self) hs)
      · rw [h5]
        exact lv_ifnull hx hb hd (kk _ (h3 _ _ List.mem_cons_self) hs)
    · cases h
  · split at h
    · rename_i off a r
      obtain ⟨t, l0, h1, h2, h3⟩ := xjump_ok h
      obtain ⟨t2, h4, rfl⟩ := xb1_ok h2
      show W p l e R s m args below meth c H locs cells slots Q (F0 m pc ls (ev ad xs bS a :: evS (ev ad xs bS) r))
      rcases xnul_ev (ad := ad) (xs := xs) (bS := bS) h4 with ⟨rfl, h5⟩ | ⟨rfl, a9, h5⟩
      · rw [h5]
        exact lv_ifnonnullN hx hb hd (kk _ (h3 _ _ List.mem_cons_self) hs)
      · rw [h5]
        exact lv_ifnonnull hx hb hd h1 (kk _ (h3 _ _ List.mem_cons_self) hs)
    · cases h
  · split at h
    · rename_i cd off st9 b a r
      obtain ⟨t, l0, h1, h2, h3⟩ := xjump_ok h
      obtain ⟨t2, h4, rfl⟩ := xb1_ok h2
      obtain ⟨rx, ry, h5, h6, h7⟩ := xsame_ev (ad := ad) (xs := xs) (bS := bS) hD h4
      show W p l e R s m args below meth c H locs cells slots Q (F0 m pc ls (ev ad xs bS b :: ev ad xs bS a :: evS (ev ad xs bS) r))
      rw [h5, h6]
      have hk := kk _ (h3 _ _ List.mem_cons_self) hs
      cases cd with
      | eq =>
        refine lv_acmp_eq hx hb hd h1 (fun z => ?_) (fun z => ?_)
        · rw [h7.mpr z] at hk; exact hk
        · have : t2 = false := by
            cases t2 with
            | true => exact absurd (h7.mp rfl) z
            | false => rfl
          rw [this] at hk; exact hk
      | ne =>
        refine lv_acmp_ne hx hb hd h1 (fun z => ?_) (fun z => ?_)
        · have : t2 = false := by
            cases t2 with
            | true => exact absurd (h7.mp rfl) z
            | false => rfl
          rw [this] at hk; exact hk
        · rw [h7.mpr z] at hk; exact hk
    · cases h
  · rename_i dflt low high offs
    split at h
    · rename_i x r
      obtain ⟨t, h1, h2⟩ := xsw_ok 1 _ _ h x.toInt (Int.le_refl _) (by omega)
      exact xw_switch hx hb hd h1 (kk _ h2 hs)
    · rename_i u r
      split at h
      · rename_i q hq
        rw [xnth_eq] at hq
        obtain ⟨g1, g2⟩ := hs _ _ hq
        obtain ⟨t, h1, h2⟩ := xsw_ok _ _ _ h (xs u.toNat).toInt g1 (by omega)
        exact xw_switch (x := xs u.toNat) hx hb hd h1 (kk _ h2 (xsat_set hs (Int.le_refl _) (Int.le_refl _)))
      · cases h
    · cases h
  · cases h
end XB
end
section
/-! whatever a runner's state speaks of has a number below the next: kept by every row -/
section XW0
theorem xbif9 {α : Type} {b : Bool} {x y : Option α} {q : α} (h : (bif b then x else y) = some q) : x = some q ∨ y = some q := by
  cases b with
  | true => exact Or.inl h
  | false => exact Or.inr h
theorem xov_mono {n m : Nat} (h : n ≤ m) {v : Value} (hv : xov n v = true) : xov m v = true := by
  cases v with
  | ref k => exact Nat.ble_eq_true_of_le (Nat.le_trans (Nat.le_of_ble_eq_true hv) h)
  | _ => rfl
theorem xoS_mono {n m : Nat} (h : n ≤ m) {st : List Value} (hs : xoS n st = true) : xoS m st = true :=
  List.all_eq_true.mpr fun v hv => xov_mono h (List.all_eq_true.mp hs v hv)
theorem xoL_mono {n m : Nat} (h : n ≤ m) {lv : XL} (hs : xoL n lv = true) : xoL m lv = true :=
  List.all_eq_true.mpr fun q hq => xov_mono h (List.all_eq_true.mp hs q hq)
theorem xoH_mono {n m : Nat} (h : n ≤ m) {hh : XH} (hs : xoH n hh = true) : xoH m hh = true :=
  List.all_eq_true.mpr fun q hq => by
    have h1 := List.all_eq_true.mp hs q hq
    rw [Bool.and_eq_true] at h1 ⊢
    exact ⟨Nat.ble_eq_true_of_le (Nat.le_trans (Nat.le_of_ble_eq_true h1.1) h), xoS_mono h h1.2⟩
theorem xoS_cons {n : Nat} {v : Value} {st : List Value} : xoS n (v :: st) = true ↔ xov n v = true ∧ xoS n st = true := by
  unfold xoS
  rw [List.all_cons, Bool.and_eq_true]
theorem xoS_app {n : Nat} {a b : List Value} : xoS n (a ++ b) = true ↔ xoS n a = true ∧ xoS n b = true := by
  unfold xoS
  rw [List.all_append, Bool.and_eq_true]
theorem xoS_mem {n : Nat} {st : List Value} (h : xoS n st = true) {v : Value} (hv : v ∈ st) : xov n v = true := List.all_eq_true.mp h v hv
theorem xoL_lk {n i : Nat} {v : Value} {lv : XL} (h : xoL n lv = true) (hv : xlk lv i = some v) : xov n v = true := List.all_eq_true.mp h _ (xlk_mem hv)
theorem xoL_ins {n i : Nat} {v : Value} {lv : XL} (h : xoL n lv = true) (hv : xov n v = true) : xoL n (xins i v lv) = true :=
  List.all_eq_true.mpr fun q hq => (List.mem_cons.mp (xins_mem hq)).elim (fun e => by rw [e]; exact hv) (fun e => List.all_eq_true.mp h q e)
theorem xoL_filter {n : Nat} {lv : XL} (f : Nat × Value → Bool) (h : xoL n lv = true) : xoL n (lv.filter f) = true :=
  List.all_eq_true.mpr fun q hq => List.all_eq_true.mp h q (List.mem_filter.mp hq).1
theorem xoH_at {n o : Nat} {c : XCl} {h : XH} (hh : xoH n h = true) (hk : xhk h o = some c) : o + 1 ≤ n ∧ xoS n c.2.2 = true := by
  obtain ⟨i, hi⟩ := xhk_idx hk
  have h1 := List.all_eq_true.mp hh _ (List.mem_of_getElem? hi)
  rw [Bool.and_eq_true] at h1
  exact ⟨Nat.le_of_ble_eq_true h1.1, h1.2⟩
theorem xoH_put {n o : Nat} {d : XCl} : ∀ {h : XH}, xoH n h = true → xoS n d.2.2 = true → xoH n (xhs h o d) = true
  | [], _, _ => rfl
  | (j, c) :: t, hh, hd => by
    have h1 : (Nat.ble (j + 1) n && xoS n c.2.2) = true ∧ xoH n t = true := by
      unfold xoH at hh ⊢
      rw [List.all_cons, Bool.and_eq_true] at hh
      exact hh
    unfold xhs
    cases hb : Nat.beq j o with
    | true =>
      show xoH n ((j, d) :: t) = true
      unfold xoH
      rw [List.all_cons, Bool.and_eq_true]
      rw [Bool.and_eq_true] at h1
      exact ⟨by rw [Bool.and_eq_true]; exact ⟨h1.1.1, hd⟩, h1.2⟩
    | false =>
      show xoH n ((j, c) :: xhs t o d) = true
      have := xoH_put h1.2 hd (o := o)
      unfold xoH at this ⊢
      rw [List.all_cons, Bool.and_eq_true]
      exact ⟨h1.1, this⟩
theorem xoS_set {n : Nat} {vs : List Value} {j : Nat} {v : Value} (h : xoS n vs = true) (hv : xov n v = true) : xoS n (vs.set j v) = true :=
  List.all_eq_true.mpr fun w hw => (List.mem_or_eq_of_mem_set hw).elim (fun z => List.all_eq_true.mp h w z) (fun z => by rw [z]; exact hv)
theorem xoS_take {n k : Nat} {st : List Value} (h : xoS n st = true) : xoS n (st.take k) = true := List.all_eq_true.mpr fun v hv => List.all_eq_true.mp h v (List.mem_of_mem_take hv)
theorem xoS_drop {n k : Nat} {st : List Value} (h : xoS n st = true) : xoS n (st.drop k) = true := List.all_eq_true.mpr fun v hv => List.all_eq_true.mp h v (List.mem_of_mem_drop hv)
theorem xoS_rev {n : Nat} {st : List Value} (h : xoS n st = true) : xoS n st.reverse = true := List.all_eq_true.mpr fun v hv => List.all_eq_true.mp h v (List.mem_reverse.mp hv)
theorem xal_mk {n : Nat} {lv : XL} {st : List Value} {h : XH} (h1 : xoL n lv = true) (h2 : xoS n st = true) (h3 : xoH n h = true) : xal n lv st h = true := by
  unfold xal
  rw [h1, h2, h3]; rfl
/-! one method's own numbers -/
theorem xst1_kept {n nL i : Nat} {v : Value} {lv l : XL} (h : xst1 nL i v lv = some l) (hL : xoL n lv = true) (hv : xov n v = true) : xoL n l = true := by
  unfold xst1 at h
  cases hb : Nat.ble (i + 1) nL with
  | true => rw [hb] at h; obtain rfl := Option.some.inj h; exact xoL_ins (xoL_filter _ hL) hv
  | false => rw [hb] at h; cases h
theorem xst2_kept {n nL i : Nat} {v : Value} {lv l : XL} (h : xst2 nL i v lv = some l) (hL : xoL n lv = true) (hv : xov n v = true) : xoL n l = true := by
  unfold xst2 at h
  cases hb : Nat.ble (i + 2) nL with
  | true => rw [hb] at h; obtain rfl := Option.some.inj h; exact xoL_ins (xoL_filter _ hL) hv
  | false => rw [hb] at h; cases h
theorem xld_kept {n i : Nat} {ok : Value → Bool} {lv : XL} {st : List Value} {q : XL × List Value} (h : xld ok lv st i = some q) (hL : xoL n lv = true) (hS : xoS n st = true) : xoL n q.1 = true ∧ xoS n q.2 = true := by
  obtain ⟨v, h1, -, rfl⟩ := xld_spec h
  exact ⟨hL, xoS_cons.mpr ⟨xoL_lk hL h1, hS⟩⟩
theorem xstr1_kept {n nL i : Nat} {ok : Value → Bool} {lv : XL} {st : List Value} {q : XL × List Value} (h : xstr1 ok nL i lv st = some q) (hL : xoL n lv = true) (hS : xoS n st = true) : xoL n q.1 = true ∧ xoS n q.2 = true := by
  obtain ⟨v, r, l, rfl, -, h1, rfl⟩ := xstr1_spec h
  exact ⟨xst1_kept h1 hL (xoS_cons.mp hS).1, (xoS_cons.mp hS).2⟩
theorem xstr2_kept {n nL i : Nat} {ok : Value → Bool} {lv : XL} {st : List Value} {q : XL × List Value} (h : xstr2 ok nL i lv st = some q) (hL : xoL n lv = true) (hS : xoS n st = true) : xoL n q.1 = true ∧ xoS n q.2 = true := by
  obtain ⟨v, r, l, rfl, -, h1, rfl⟩ := xstr2_spec h
  exact ⟨xst2_kept h1 hL (xoS_cons.mp hS).1, (xoS_cons.mp hS).2⟩
theorem xbin_kept {n : Nat} {f : Int32 → Int32 → Int32} {lv : XL} {st : List Value} {q : XL × List Value} (h : xbin f lv st = some q) (hL : xoL n lv = true) (hS : xoS n st = true) : xoL n q.1 = true ∧ xoS n q.2 = true := by
  obtain ⟨x, y, r, rfl, rfl⟩ := xbin_spec h
  exact ⟨hL, xoS_cons.mpr ⟨rfl, (xoS_cons.mp (xoS_cons.mp hS).2).2⟩⟩
theorem xbil_kept {n : Nat} {f : Int64 → Int64 → Int64} {lv : XL} {st : List Value} {q : XL × List Value} (h : xbil f lv st = some q) (hL : xoL n lv = true) (hS : xoS n st = true) : xoL n q.1 = true ∧ xoS n q.2 = true := by
  obtain ⟨x, y, r, rfl, rfl⟩ := xbil_spec h
  exact ⟨hL, xoS_cons.mpr ⟨rfl, (xoS_cons.mp (xoS_cons.mp hS).2).2⟩⟩
theorem xbinz_kept {n : Nat} {f : Int32 → Int32 → Int32} {lv : XL} {st : List Value} {q : XL × List Value} (h : xbinz f lv st = some q) (hL : xoL n lv = true) (hS : xoS n st = true) : xoL n q.1 = true ∧ xoS n q.2 = true := by
  unfold xbinz at h
  split at h
  · rename_i y x r
    cases hz : decide (y = 0) with
    | true => rw [hz] at h; cases h
    | false =>
      rw [hz] at h
      obtain rfl := Option.some.inj h
      exact ⟨hL, xoS_cons.mpr ⟨rfl, (xoS_cons.mp (xoS_cons.mp hS).2).2⟩⟩
  · cases h
set_option maxHeartbeats 1000000 in
theorem xsimple_kept {n nL : Nat} {i : Instr} {aux : List Nat} {lv : XL} {st : List Value} {q : XL × List Value} (h : xsimple nL i aux lv st = some q) (hL : xoL n lv = true) (hS : xoS n st = true) : xoL n q.1 = true ∧ xoS n q.2 = true := by
  have push : ∀ v : Value, xov n v = true → (some (lv, v :: st) = some q) → xoL n q.1 = true ∧ xoS n q.2 = true := fun v hv h9 => by
    obtain rfl := Option.some.inj h9
    exact ⟨hL, xoS_cons.mpr ⟨hv, hS⟩⟩
  unfold xsimple at h
  split at h
  · exact push _ rfl h
  · exact push _ rfl h
  · exact push _ rfl h
  · exact push _ rfl h
  · rcases xbif9 h with h | h
    · exact push _ rfl h
    · cases h
  · split at h
    · exact push _ rfl h
    · cases h
  · exact xld_kept h hL hS
  · exact xld_kept h hL hS
  · exact xld_kept h hL hS
  · exact xld_kept h hL hS
  · exact xld_kept h hL hS
  · exact xld_kept h hL hS
  · exact xld_kept h hL hS
  · exact xstr1_kept h hL hS
  · exact xstr1_kept h hL hS
  · exact xstr1_kept h hL hS
  · exact xstr1_kept h hL hS
  · exact xstr2_kept h hL hS
  · exact xstr2_kept h hL hS
  · exact xstr2_kept h hL hS
  · unfold xinc at h
    split at h
    · split at h
      · rename_i l1 h1
        obtain rfl := Option.some.inj h
        exact ⟨xst1_kept h1 hL rfl, hS⟩
      · cases h
    · cases h
  · exact xbin_kept h hL hS
  · exact xbin_kept h hL hS
  · exact xbin_kept h hL hS
  · exact xbin_kept h hL hS
  · exact xbin_kept h hL hS
  · unfold xand at h
    split at h
    · obtain rfl := Option.some.inj h
      exact ⟨hL, xoS_cons.mpr ⟨rfl, (xoS_cons.mp (xoS_cons.mp hS).2).2⟩⟩
    · cases h
  · unfold xi2l at h
    split at h
    · obtain rfl := Option.some.inj h
      exact ⟨hL, xoS_cons.mpr ⟨rfl, (xoS_cons.mp hS).2⟩⟩
    · cases h
  · exact xbil_kept h hL hS
  · exact xbil_kept h hL hS
  · unfold xlcm at h
    split at h
    · obtain rfl := Option.some.inj h
      exact ⟨hL, xoS_cons.mpr ⟨rfl, (xoS_cons.mp (xoS_cons.mp hS).2).2⟩⟩
    · cases h
  · unfold xdcm at h
    split at h
    · obtain rfl := Option.some.inj h
      exact ⟨hL, xoS_cons.mpr ⟨rfl, (xoS_cons.mp (xoS_cons.mp hS).2).2⟩⟩
    · cases h
  · unfold xdup at h
    split at h
    · rcases xbif9 h with h | h
      · obtain rfl := Option.some.inj h
        exact ⟨hL, xoS_cons.mpr ⟨(xoS_cons.mp hS).1, hS⟩⟩
      · cases h
    · cases h
  · unfold xdupx at h
    split at h
    · rcases xbif9 h with h | h
      · obtain rfl := Option.some.inj h
        exact ⟨hL, xoS_cons.mpr ⟨(xoS_cons.mp hS).1, xoS_cons.mpr ⟨(xoS_cons.mp (xoS_cons.mp hS).2).1, xoS_cons.mpr ⟨(xoS_cons.mp hS).1, (xoS_cons.mp (xoS_cons.mp hS).2).2⟩⟩⟩⟩
      · cases h
    · cases h
  · exact xbin_kept h hL hS
  · exact xbin_kept h hL hS
  · exact xbinz_kept h hL hS
  · exact xbinz_kept h hL hS
  · unfold xdup2 at h
    split at h
    · rcases xbif9 h with h | h
      · obtain rfl := Option.some.inj h
        exact ⟨hL, xoS_cons.mpr ⟨(xoS_cons.mp hS).1, xoS_cons.mpr ⟨(xoS_cons.mp (xoS_cons.mp hS).2).1, hS⟩⟩⟩
      · cases h
    · cases h
  · unfold xdupx2 at h
    split at h
    · rcases xbif9 h with h | h
      · obtain rfl := Option.some.inj h
        obtain ⟨a1, a2⟩ := xoS_cons.mp hS
        obtain ⟨a3, a4⟩ := xoS_cons.mp a2
        obtain ⟨a5, a6⟩ := xoS_cons.mp a4
        exact ⟨hL, xoS_cons.mpr ⟨a1, xoS_cons.mpr ⟨a3, xoS_cons.mpr ⟨a5, xoS_cons.mpr ⟨a1, a6⟩⟩⟩⟩⟩
      · cases h
    · cases h
  · unfold xpop at h
    split at h
    · rcases xbif9 h with h | h
      · obtain rfl := Option.some.inj h
        exact ⟨hL, (xoS_cons.mp hS).2⟩
      · cases h
    · cases h
  · cases h
/-! cells -/
theorem xrefw_kept {w : Nat} : ∀ (N n m : Nat), (∀ j, j < N → n + j * w + 1 ≤ m) → xoS m (xrefw n w N) = true
  | 0, _, _, _ => rfl
  | N + 1, n, m, h => by
    refine xoS_cons.mpr ⟨Nat.ble_eq_true_of_le (by have := h 0 (by omega); omega), xrefw_kept N (n + w) m (fun j hj => ?_)⟩
    have := h (j + 1) (by omega)
    rw [Nat.succ_mul] at this
    omega
theorem xoH_app {n : Nat} {a b : XH} (h1 : xoH n a = true) (h2 : xoH n b = true) : xoH n (a ++ b) = true := by
  unfold xoH at h1 h2 ⊢
  rw [List.all_append, h1, h2]; rfl
theorem xoH_one {n o : Nat} {c : XCl} {t : XH} (h1 : o + 1 ≤ n) (h2 : xoS n c.2.2 = true) (h3 : xoH n t = true) : xoH n ((o, c) :: t) = true := by
  unfold xoH at h3 ⊢
  rw [List.all_cons, h3, Bool.and_true, Bool.and_eq_true]
  exact ⟨Nat.ble_eq_true_of_le h1, h2⟩
theorem xrows_kept {c : XCl} : ∀ (N n m : Nat), n + N ≤ m → xoS m c.2.2 = true → xoH m (xrows n c N) = true
  | 0, _, _, _, _ => rfl
  | N + 1, n, m, h, hc => xoH_one (by omega) hc (xrows_kept N (n + 1) m (by omega) hc)
theorem xgrid_kept {M : Nat} : ∀ (N n m : Nat), n + N * (1 + M) ≤ m → xoH m (xgrid n M N) = true
  | 0, _, _, _ => rfl
  | N + 1, n, m, h => by
    rw [Nat.succ_mul] at h
    refine xoH_app (xoH_one (by omega) (xrefw_kept M (n + 1) m (fun j hj => by omega)) (xrows_kept M (n + 1) m (by omega) rfl)) (xgrid_kept N (n + (1 + M)) m (by omega))
theorem xrep_kept {n k : Nat} {ti : Nat} : xoS n (List.replicate k (xdv ti)) = true := List.all_eq_true.mpr fun v hv => by
  rw [List.eq_of_mem_replicate hv]
  unfold xdv
  split <;> rfl
theorem xD_kept {n ci : Nat} : xoS n (xD ci) = true := List.all_eq_true.mpr fun v hv => by
  unfold xD at hv
  obtain ⟨k, -, rfl⟩ := List.mem_map.mp hv
  cases xTy ci k <;> rfl
theorem xnew_kept {R : Room} {lv : XL} {r : List Value} {σ : XS} {cl : XCl} {ns : Nat} {q : List Value × XS} (h : xnew R lv r σ cl ns = some q) (hL : xoL σ.2.2.1 lv = true) (hS : xoS σ.2.2.1 r = true) (hH : xoH σ.2.2.1 σ.2.1 = true) (hc : ∀ m, xoS m cl.2.2 = true) :
    σ.2.2.1 ≤ q.2.2.2.1 ∧ xal q.2.2.2.1 lv q.1 q.2.2.1 = true := by
  obtain ⟨pe, hh, n, ce, sl⟩ := σ
  unfold xnew at h
  dsimp only at h hL hS hH ⊢
  rcases xbif9 h with h | h
  · obtain rfl := Option.some.inj h
    refine ⟨Nat.le_succ n, xal_mk (xoL_mono (Nat.le_succ n) hL) (xoS_cons.mpr ⟨Nat.ble_eq_true_of_le (Nat.le_refl _), xoS_mono (Nat.le_succ n) hS⟩) (xoH_app (xoH_mono (Nat.le_succ n) hH) (xoH_one (Nat.le_refl _) (hc _) rfl))⟩
  · cases h
theorem xald_kept {ok : Value → Bool} {oti : Nat → Bool} {lv : XL} {st : List Value} {σ : XS} {q : List Value × XS} (h : xald ok oti st σ = some q) (hL : xoL σ.2.2.1 lv = true) (hS : xoS σ.2.2.1 st = true) (hH : xoH σ.2.2.1 σ.2.1 = true) : σ.2.2.1 ≤ q.2.2.2.1 ∧ xal q.2.2.2.1 lv q.1 q.2.2.1 = true := by
  obtain ⟨i, o, r, ti, vs, j, v, rfl, hk, -, -, hv, -, rfl⟩ := xald_spec h
  exact ⟨Nat.le_refl _, xal_mk hL (xoS_cons.mpr ⟨xoS_mem (xoH_at hH hk).2 (List.mem_of_getElem? hv), (xoS_cons.mp (xoS_cons.mp hS).2).2⟩) hH⟩
theorem xast_kept {ok : Value → Bool} {oti : Nat → Bool} {lv : XL} {st : List Value} {σ : XS} {q : List Value × XS} (h : xast ok oti st σ = some q) (hL : xoL σ.2.2.1 lv = true) (hS : xoS σ.2.2.1 st = true) (hH : xoH σ.2.2.1 σ.2.1 = true) : σ.2.2.1 ≤ q.2.2.2.1 ∧ xal q.2.2.2.1 lv q.1 q.2.2.1 = true := by
  obtain ⟨v, i, o, r, ti, vs, j, rfl, hk, -, -, -, rfl⟩ := xast_spec h
  obtain ⟨a1, a2⟩ := xoS_cons.mp hS
  exact ⟨Nat.le_refl _, xal_mk hL (xoS_cons.mp (xoS_cons.mp a2).2).2 (xoH_put hH (xoS_set (xoH_at hH hk).2 a1))⟩
theorem xnewm2_kept {R : Room} {aux : List Nat} {lv : XL} {st : List Value} {σ : XS} {q : List Value × XS} (h : xnewm2 R aux st σ = some q) (hL : xoL σ.2.2.1 lv = true) (hS : xoS σ.2.2.1 st = true) (hH : xoH σ.2.2.1 σ.2.1 = true) : σ.2.2.1 ≤ q.2.2.2.1 ∧ xal q.2.2.2.1 lv q.1 q.2.2.1 = true := by
  obtain ⟨pe, hh, n, ce, sl⟩ := σ
  dsimp only at hL hS hH
  unfold xnewm2 at h
  split at h
  · rename_i to ti tl k m9 r pe' hh' n' ce' sl' heq
    cases heq
    rcases xbif9 h with h | h
    · cases h
    · rcases xbif9 h with h | h
      · obtain rfl := Option.some.inj h
        dsimp only
        have hle : n ≤ n + 1 + m9.toNatClampNeg := by omega
        exact ⟨hle, xal_mk (xoL_mono hle hL) (xoS_cons.mpr ⟨Nat.ble_eq_true_of_le (by omega), xoS_mono hle (xoS_cons.mp (xoS_cons.mp hS).2).2⟩) (xoH_app (xoH_mono hle hH) (xoH_one (by omega) (xrefw_kept _ _ _ (fun j hj => by omega)) (xrows_kept _ _ _ (by omega) xrep_kept)))⟩
      · cases h
  · cases h
theorem xnewm3_kept {R : Room} {lv : XL} {st : List Value} {σ : XS} {q : List Value × XS} (h : xnewm3 R st σ = some q) (hL : xoL σ.2.2.1 lv = true) (hS : xoS σ.2.2.1 st = true) (hH : xoH σ.2.2.1 σ.2.1 = true) : σ.2.2.1 ≤ q.2.2.2.1 ∧ xal q.2.2.2.1 lv q.1 q.2.2.1 = true := by
  obtain ⟨pe, hh, n, ce, sl⟩ := σ
  dsimp only at hL hS hH
  unfold xnewm3 at h
  split at h
  · rename_i z k m9 r pe' hh' n' ce' sl' heq
    cases heq
    rcases xbif9 h with h | h
    · obtain rfl := Option.some.inj h
      dsimp only
      have hle : n ≤ n + 1 + m9.toNatClampNeg * (1 + k.toNatClampNeg) := by omega
      refine ⟨hle, xal_mk (xoL_mono hle hL) (xoS_cons.mpr ⟨Nat.ble_eq_true_of_le (by omega), xoS_mono hle (xoS_cons.mp (xoS_cons.mp (xoS_cons.mp hS).2).2).2⟩) (xoH_app (xoH_mono hle hH) (xoH_one (by omega) (xrefw_kept _ _ _ (fun j hj => ?_)) (xgrid_kept _ _ _ (by omega))))⟩
      have := Nat.mul_le_mul_right (1 + k.toNatClampNeg) (show j + 1 ≤ m9.toNatClampNeg from hj)
      rw [Nat.succ_mul] at this
      omega
    · cases h
  · cases h
set_option maxHeartbeats 1000000 in
theorem xheap_kept {scr : Option (Nat × (Nat → Int32))} {R : Room} {i : Instr} {aux : List Nat} {lv : XL} {st : List Value} {σ : XS} {q : List Value × XS} (h : xheap scr R i aux lv st σ = some q) (hw : xal σ.2.2.1 lv st σ.2.1 = true) : σ.2.2.1 ≤ q.2.2.2.1 ∧ xal q.2.2.2.1 lv q.1 q.2.2.1 = true := by
  obtain ⟨hL, hS, hH⟩ := xal_spec hw
  unfold xheap at h
  split at h
  · unfold xget at h
    split at h
    · split at h
      · rename_i cj fs hk
        rcases xbif9 h with h | h
        · split at h
          · rename_i v hv
            rw [xnth_eq] at hv
            obtain rfl := Option.some.inj h
            exact ⟨Nat.le_refl _, xal_mk hL (xoS_cons.mpr ⟨xoS_mem (xoH_at hH hk).2 (List.mem_of_getElem? hv), (xoS_cons.mp hS).2⟩) hH⟩
          · cases h
        · cases h
      · cases h
    · cases h
  · unfold xput at h
    split at h
    · split at h
      · rename_i cj fs hk
        rcases xbif9 h with h | h
        · obtain rfl := Option.some.inj h
          obtain ⟨a1, a2⟩ := xoS_cons.mp hS
          refine ⟨Nat.le_refl _, xal_mk hL (xoS_cons.mp a2).2 (xoH_put hH ?_)⟩
          show xoS _ (xset fs _ _) = true
          rw [xset_eq]
          exact xoS_set (xoH_at hH hk).2 a1
        · cases h
      · cases h
    · cases h
  · unfold xnewo at h
    split at h
    · exact xnew_kept h hL hS hH (fun _ => xD_kept)
    · cases h
  · unfold xnewa at h
    split at h
    · rcases xbif9 h with h | h
      · cases h
      · rcases xbif9 h with h | h
        · exact xnew_kept h hL (xoS_cons.mp hS).2 hH (fun _ => xrep_kept)
        · cases h
    · cases h
  · unfold xnewa at h
    split at h
    · rcases xbif9 h with h | h
      · cases h
      · rcases xbif9 h with h | h
        · exact xnew_kept h hL (xoS_cons.mp hS).2 hH (fun _ => xrep_kept)
        · cases h
    · cases h
  · rcases xbif9 h with h | h
    · exact xnewm2_kept h hL hS hH
    · rcases xbif9 h with h | h
      · exact xnewm3_kept h hL hS hH
      · cases h
  · unfold xlen at h
    split at h
    · split at h
      · rcases xbif9 h with h | h
        · obtain rfl := Option.some.inj h
          exact ⟨Nat.le_refl _, xal_mk hL (xoS_cons.mpr ⟨rfl, (xoS_cons.mp hS).2⟩) hH⟩
        · cases h
      · cases h
    · split at h
      · obtain rfl := Option.some.inj h
        exact ⟨Nat.le_refl _, xal_mk hL (xoS_cons.mpr ⟨rfl, (xoS_cons.mp hS).2⟩) hH⟩
      · cases h
    · cases h
  · unfold xild at h
    split at h
    · split at h
      · split at h
        · obtain rfl := Option.some.inj h
          exact ⟨Nat.le_refl _, xal_mk hL (xoS_cons.mpr ⟨rfl, (xoS_cons.mp (xoS_cons.mp hS).2).2⟩) hH⟩
        · cases h
      · cases h
    · exact xald_kept h hL hS hH
  · exact xald_kept h hL hS hH
  · exact xald_kept h hL hS hH
  · exact xald_kept h hL hS hH
  · exact xast_kept h hL hS hH
  · exact xast_kept h hL hS hH
  · exact xast_kept h hL hS hH
  · unfold xasa at h
    split at h
    · exact xast_kept h hL hS hH
    · split at h
      · rcases xbif9 h with h | h
        · exact xast_kept h hL hS hH
        · cases h
      · cases h
    · cases h
  · cases h
theorem xjump_kept {pc : Nat} {off : Int} {r : List Value} {o : Option (List (Bool × XP))} {z : List (Nat × List Value × XP)} (h : xjump pc off r o = some z) : ∀ q ∈ z, q.2.1 = r := by
  unfold xjump at h
  split at h
  · obtain rfl := Option.some.inj h
    intro q hq
    unfold xtwo at hq
    obtain ⟨a, -, rfl⟩ := List.mem_map.mp hq
    rfl
  · cases h
theorem xsw_kept {pc : Nat} {dflt low high : Int} {offs : Array Int} {r : List Value} {pv : Int → XP} : ∀ (n : Nat) (lo : Int) (z : List (Nat × List Value × XP)), xsw pc dflt low high offs r pv lo n = some z → ∀ q ∈ z, q.2.1 = r
  | 0, lo, z, h, q, hq => by
    obtain rfl := Option.some.inj h
    cases hq
  | n + 1, lo, z, h, q, hq => by
    unfold xsw at h
    split at h
    · rename_i t l0 e1 e2
      obtain rfl := Option.some.inj h
      rcases List.mem_cons.mp hq with rfl | hq
      · rfl
      · exact xsw_kept n (lo + 1) l0 e2 q hq
    · cases h
theorem xbranch_kept {hh : XH} {pc : Nat} {i : Instr} {st : List Value} {pe : XP} {z : List (Nat × List Value × XP)} {n : Nat} (h : xbranch hh pc i st pe = some z) (hS : xoS n st = true) : ∀ q ∈ z, xoS n q.2.1 = true := by
  intro q hq
  unfold xbranch at h
  split at h
  · split at h
    · obtain rfl := Option.some.inj h
      rcases List.mem_cons.mp hq with rfl | hq
      · exact hS
      · cases hq
    · cases h
  · split at h
    · rw [xjump_kept h q hq]; exact (xoS_cons.mp (xoS_cons.mp hS).2).2
    · cases h
  · split at h
    · rw [xjump_kept h q hq]; exact (xoS_cons.mp hS).2
    · cases h
  · split at h
    · rw [xjump_kept h q hq]; exact (xoS_cons.mp hS).2
    · cases h
  · split at h
    · rw [xjump_kept h q hq]; exact (xoS_cons.mp hS).2
    · cases h
  · split at h
    · rw [xjump_kept h q hq]; exact (xoS_cons.mp (xoS_cons.mp hS).2).2
    · cases h
  · split at h
    · rw [xsw_kept _ _ _ h q hq]; exact (xoS_cons.mp hS).2
    · split at h
      · rw [xsw_kept _ _ _ h q hq]; exact (xoS_cons.mp hS).2
      · cases h
    · cases h
  · cases h
end XW0
end
section
/-! what holds of the tables all along; a call's words -/
section XW
def xTs : List Jvm.Cond := lw_tbl.filter goodWord
theorem xTs_in {w : Jvm.Cond} {i : Nat} (h : lw_tbl[i]? = some w) (hg : goodWord w = true) : w ∈ xTs := List.mem_filter.mpr ⟨List.mem_of_getElem? h, hg⟩
theorem xTs_good {ws : List Jvm.Cond} (h : ∀ w ∈ ws, w ∈ xTs) : GoodIn xTs ws := fun w hw => ⟨h w hw, good_of_word (List.mem_filter.mp (h w hw)).2⟩
def exN : Nat → String
  | 0 => "java/lang/IndexOutOfBoundsException"
  | 1 => "java/lang/IllegalArgumentException"
  | _ => "java/lang/IllegalStateException"
/-- words that don't keep by themselves -/
def xngk : Jvm.Cond → Bool
  | .castable _ _ => true
  | .declares _ => true
  | .methodLinkNest _ _ _ _ => true
  | _ => false
def xNg : List Jvm.Cond := lw_tbl.filter xngk
theorem xNg_in {w : Jvm.Cond} {i : Nat} (h : lw_tbl[i]? = some w) (hg : xngk w = true) : w ∈ xNg := List.mem_filter.mpr ⟨List.mem_of_getElem? h, hg⟩
theorem xng_tab {w : Jvm.Cond} (h : xngk w = true) : w.onTables = true := by
  cases w <;> first | rfl | (simp [xngk] at h)
theorem xng_warm {w : Jvm.Cond} (h : xngk w = true) {s U : State} (hW : s.WarmedH U.vm) (hZ : va_Nw w s) : va_Nw w U := by
  cases w <;> first | exact va_Nw.warmC hW hZ | exact va_Nw.warmD hW hZ | exact va_Nw.warmM hW hZ | (simp [xngk] at h)
/-- the texts of the thrown exceptions, by their places in PackWright's pool -/
def xStr : List (Nat × String) := lw_tbl.filterMap fun w => match w with
  | .stringRef "PackWright" k t => some (k, t)
  | _ => none
def xSta (D : va_G) (aC : Nat → ClassId) (A : Nat → Prop) (xs : Nat → Int32) (bS : Nat) (scr : Option (Nat × (Nat → Int32))) (U : State) : Prop :=
  va_K D classes (xtys aC) U ∧ (∀ w ∈ xNg, va_Nw w U) ∧ (∀ ti C, ti ≤ 5 → xty ti = .object C → va_AO C U) ∧ (∀ ty, (ty = FieldType.array .int ∨ ty = .array .boolean ∨ ty = .array (.array .int)) → (Jvm.Cond.arrayOver ty).before #[] U = true) ∧
  (∀ q ∈ xStr, ∃ a, vk_R "PackWright" q.1 q.2 a U) ∧ vx_Zq Bundle.tN "UNASSIGNED_STACK" Bundle.steD A U U.heap ∧ vx_Zq Bundle.tN "SUPPRESSED_SENTINEL" Bundle.listD A U U.heap ∧ (∀ i j, i ≤ 2 → j ≤ 2 → i ≠ j → va_Nc (exN i) (exN j) U) ∧ (∀ L ys, scr = some (L, ys) → ys = xs ∧ va_X bS L xs U U.heap ∧ bS < U.heap.size ∧ ¬ A bS)
theorem xSta_move {D : va_G} {aC : Nat → ClassId} {A : Nat → Prop} {xs : Nat → Int32} {bS : Nat} {scr : Option (Nat × (Nat → Int32))} {s U : State} (hW : s.WarmedH U.vm) (hq : ∀ a : Nat, a < s.heap.size → ¬ A a → U.heap[a]? = s.heap[a]?) (h : xSta D aC A xs bS scr s) : xSta D aC A xs bS scr U := by
  obtain ⟨h1, h2, h3, h4, h5, h6, h7, h8, h10⟩ := h
  refine ⟨va_K.moved hW.alike h1, fun w hw => xng_warm (List.mem_filter.mp hw).2 hW (h2 w hw), fun ti C a b => va_AO.moved hW.alike (h3 ti C a b), fun ty hty => ?_, fun q hq9 => ?_, (h6.moved hW.alike).kept hq, (h7.moved hW.alike).kept hq, fun i j a b n => (h8 i j a b n).moved hW.alike, fun L ys hL => ?_⟩
  · have h9 := h4 ty hty
    rcases hty with rfl | rfl | rfl
    · exact arrayOver_alikeB hW.alike h9
    · exact arrayOver_alikeB hW.alike h9
    · exact arrayOver_alikeB hW.alike h9
  · obtain ⟨a, ha⟩ := h5 q hq9
    exact ⟨a, vk_R.warm hW ha⟩
  · obtain ⟨x1, x2, x3, x4⟩ := h10 L ys hL
    have x5 := (va_X.moved hW.alike x2).kept (hq bS x3 x4)
    refine ⟨x1, x5, ?_, x4⟩
    obtain ⟨c9, hc9, -⟩ := x5
    exact (Array.getElem?_eq_some_iff.mp hc9).1
theorem xSta_calling {D : va_G} {aC : Nat → ClassId} {A : Nat → Prop} {xs : Nat → Int32} {bS : Nat} {scr : Option (Nat × (Nat → Int32))} {U : State} {g : JFrame} {mk : MethodId} {a : Array Value} (h : xSta D aC A xs bS scr U) : xSta D aC A xs bS scr (U.calling g mk a) :=
  xSta_move (U := U.calling g mk a) (State.WarmedH.refl U) (fun _ _ _ => rfl) h
def xmY (M : XM) : MethodName := M.1
def xmB (M : XM) : ByteArray := M.2.1
def xmV (M : XM) : Option FieldType := M.2.2.2.1
/-- a method's own word -/
def xmW (M : XM) : Jvm.Cond := match xmT M with
  | [] => .code (xmY M) (xmB M) (xmN M) (xmV M)
  | q :: t => .codeWith (xmY M) (xmB M) (xmN M) (xmV M) (q :: t)
def xmWs (M : XM) : List Jvm.Cond := xmW M :: xTs
/-- a world with its numbers -/
def xWld (D : va_G) (aC : Nat → ClassId) (A : Nat → Prop) (ad : Nat → Nat) (xs : Nat → Int32) (bS : Nat) (h : XH) (H : Heap) : Prop := va_P D classes (evH (ev ad xs bS) ad aC h) H ∧ va_D A (evH (ev ad xs bS) ad aC h)
def xPre (D : va_G) (aC : Nat → ClassId) (A : Nat → Prop) (ad : Nat → Nat) (xs : Nat → Int32) (bS : Nat) (scr : Option (Nat × (Nat → Int32))) (h : XH) (U : State) : Prop :=
  xSta D aC A xs bS scr U ∧ xWld D aC A ad xs bS h U.heap ∧ ∀ q, U.heap.size ≤ q → A q
def xQc (D : va_G) (aC : Nat → ClassId) (A : Nat → Prop) (ad : Nat → Nat) (xs : Nat → Int32) (bS n : Nat) (rs : List XR) : Array Value → State → Outcome → State → Prop := fun _ st o t =>
  (∃ r ∈ rs, r.1 = 0 ∧ ∃ ad' : Nat → Nat, (∀ j, j < n → ad' j = ad j) ∧ o = .returned (r.2.1.map (ev ad' xs bS)) ∧ xsat xs r.2.2.1 ∧ xWld D aC A ad' xs bS r.2.2.2.1 t.heap) ∧ va_F A st t
def xXc (D : va_G) (aC : Nat → ClassId) (A : Nat → Prop) (ad : Nat → Nat) (xs : Nat → Int32) (bS n : Nat) (rs : List XR) : String → State → State → Prop := fun E st t =>
  (∃ r ∈ rs, ∃ k, r.1 = k + 1 ∧ k ≤ 2 ∧ E = exN k ∧ ∃ ad' : Nat → Nat, (∀ j, j < n → ad' j = ad j) ∧ xsat xs r.2.2.1 ∧ xWld D aC A ad' xs bS r.2.2.2.1 t.heap) ∧ va_F A st t
/-- an end's numbers -/
def xwR (n : Nat) (r : XR) : Prop := n ≤ r.2.2.2.2 ∧ xoS r.2.2.2.2 r.2.1.toList = true ∧ xoH r.2.2.2.2 r.2.2.2.1 = true
/-- the contracts of the methods that are called -/
def xCfOk (l : Launch) (Ms : List XM) (D : va_G) (aC : Nat → ClassId) (A : Nat → Prop) (xs : Nat → Int32) (bS : Nat) (scr : Option (Nat × (Nat → Int32))) (cf : XCf) : Prop :=
  ∀ (k : Nat) (as : List Value) (pe : XP) (h : XH) (n : Nat) (rs : List XR), cf k as pe h n = some rs → ∀ M, xnth Ms k = some M → xsat xs pe → xoS n as = true → xoH n h = true → (∀ r ∈ rs, xwR n r) ∧ ∀ ad : Nat → Nat,
    vx_Met l (xmY M) (xmWs M) (xmR M) (va_Pc (evS (ev ad xs bS) as) (xPre D aC A ad xs bS scr h)) (xQc D aC A ad xs bS n rs) (xXc D aC A ad xs bS n rs) (xmR M).cells (xmR M).slots A
/-- what holds inside a method -/
def xCtx (p : Program) (l : Launch) (s : State) (m : MethodId) (args : Array Value) (meth : Method) (c : Code) (M : XM) (D : va_G) (aC : Nat → ClassId) (A : Nat → Prop) (xs : Nat → Int32) (bS : Nat) (scr : Option (Nat × (Nat → Int32))) : Prop :=
  p.tables.exec = Jvm.exec ∧ c.code = xmB M ∧ c.maxLocals = xmN M ∧ meth.sig.returnType = xmV M ∧ s.vm.findClass (xmY M).cls = some m.cls ∧ (∀ w ∈ xTs, w.before args s = true) ∧ meth.locks = false ∧ ((xmY M).name = "<init>" → meth.name = "<init>") ∧
  xSta D aC A xs bS scr s ∧ (∀ q, s.heap.size ≤ q → A q) ∧ l.stackTraces = false
/-- a call's words: how it is made, by which place of the pool -/
def xvc (M Y : XM) (mode ci idx : Nat) : Prop :=
  ((xmY Y).cls ≠ "java/lang/invoke/MethodHandle" ∧ (xmY Y).cls ≠ "java/lang/invoke/VarHandle") ∧ Jvm.Cond.initialized (xmY Y).cls ∈ xTs ∧ xmW Y ∈ xTs ∧
  match mode with
  | 0 => xmT Y = [] ∧ (parseMethodDescriptor (xmY Y).desc).map (fun d => d.parameters.length) = some (xmA Y) ∧ Jvm.Cond.methodLink (xmY M).cls idx (xmY Y) ∈ xTs ∧ Jvm.Cond.static (xmY Y) ∈ xTs
  | 1 => xmT Y = [] ∧ (∃ n, xmA Y = n + 1 ∧ (parseMethodDescriptor (xmY Y).desc).map (fun d => d.parameters.length) = some n) ∧ Jvm.Cond.methodLink (xmY M).cls idx (xmY Y) ∈ xTs ∧ Jvm.Cond.instanceMethod (xmY Y) ∈ xTs ∧ Jvm.Cond.selects (xmY Y).cls (xmY Y) (xmY Y) ∈ xTs ∧ ∃ T N, classes[ci]? = some ((xmY Y).cls, T, N)
  | 2 => xmT Y = [] ∧ (∃ n, xmA Y = n + 1 ∧ (parseMethodDescriptor (xmY Y).desc).map (fun d => d.parameters.length) = some n) ∧ Jvm.Cond.methodLink (xmY M).cls idx (xmY Y) ∈ xTs ∧ Jvm.Cond.instanceMethod (xmY Y) ∈ xTs ∧ (xmY Y).name = "<init>" ∧ xmV Y = none
  | 3 => xmT Y = [] ∧ (∃ n, xmA Y = n + 1 ∧ (parseMethodDescriptor (xmY Y).desc).map (fun d => d.parameters.length) = some n) ∧ (∃ host, Jvm.Cond.methodLinkNest (xmY M).cls idx (xmY Y) host ∈ xNg) ∧ Jvm.Cond.instanceMethod (xmY Y) ∈ xTs ∧ (xmY Y).name = "<init>" ∧ xmV Y = none
  | 4 => xmT Y = [] ∧ (parseMethodDescriptor (xmY Y).desc).map (fun d => d.parameters.length) = some (xmA Y) ∧ (∃ host, Jvm.Cond.methodLinkNest (xmY M).cls idx (xmY Y) host ∈ xNg) ∧ Jvm.Cond.static (xmY Y) ∈ xTs
  | 6 => xmT Y ≠ [] ∧ (parseMethodDescriptor (xmY Y).desc).map (fun d => d.parameters.length) = some (xmA Y) ∧ Jvm.Cond.methodLink (xmY M).cls idx (xmY Y) ∈ xTs ∧ Jvm.Cond.static (xmY Y) ∈ xTs
  | _ => False
/-- the opcode of a call, by its kind -/
def xvi (mode idx : Nat) : Instr := match mode with
  | 0 => .invokestatic idx
  | 1 => .invokevirtual idx
  | 2 => .invokespecial idx
  | 3 => .invokespecial idx
  | _ => .invokestatic idx
section
variable {p : Program} {l : Launch} {e : Env} {s : State} {m : MethodId} {args : Array Value} {below : List Frame} {meth : Method} {c : Code} {H : Heap} {locs : List Loc} {cells slots : Nat} {Q : State → Prop}
variable {pc nL : Nat} {ls : Array Slot} {ad : Nat → Nat} {xs : Nat → Int32} {bS : Nat} {aC : Nat → ClassId} {D : va_G} {A : Nat → Prop} {scr : Option (Nat × (Nat → Int32))} {M Y : XM} {h : XH}
theorem xcats_ev (ad : Nat → Nat) (xs : Nat → Int32) (bS : Nat) (st : List Value) : ((evS (ev ad xs bS) st).map fun v => v.category).sum = xcats st := by
  unfold evS xcats
  rw [List.map_map]
  exact congrArg List.sum (List.map_congr_left fun v _ => ev_cat ad xs bS v)
/-- the state of a call -/
theorem xpreS (C : xCtx p l s m args meth c M D aC A xs bS scr) (hw : xWld D aC A ad xs bS h H) (hS : va_S A s.heap H locs) (as : List Value) : PreS s H (va_Pc (evS (ev ad xs bS) as) (xPre D aC A ad xs bS scr h)) (evS (ev ad xs bS) as) := by
  obtain ⟨-, -, -, -, -, -, -, -, hSta, hA, -⟩ := C
  refine ⟨fun a U g mk q => ?_, fun U hU hW => ⟨rfl, ?_, ?_, ?_⟩⟩
  · obtain ⟨q1, q2, q3, q4⟩ := q
    exact ⟨q1, xSta_calling q2, q3, q4⟩
  · exact xSta_move hW (fun a h1 h2 => by rw [hU]; exact hS.2.1 a h1 h2) hSta
  · rw [hU]; exact hw
  · rw [hU]; exact fun q hq => hA q (Nat.le_trans hS.1 hq)
/-- behind a call -/
theorem xw_call {n mc ms : Nat} {rs : List XR} {av : Array Value} {rest st0 : List Value} (hr : vx_Run p l e (xmR M) s m args below meth c H locs cells slots mc ms (F0 m pc ls st0) rest (xQc D aC A ad xs bS n rs av) (xXc D aC A ad xs bS n rs) A) (hS : va_S A s.heap H locs)
    (kk : ∀ r ∈ rs, r.1 = 0 → ∀ (ad' : Nat → Nat) (H1 : Heap) (locs1 : List Loc), (∀ j, j < n → ad' j = ad j) → xsat xs r.2.2.1 → xWld D aC A ad' xs bS r.2.2.2.1 H1 → va_S A s.heap H1 locs1 → W p l e (xmR M) s m args below meth c H1 locs1 (cells + mc) (slots + ms) Q (F0 m (pc + 3) ls ((r.2.1.map (ev ad' xs bS)).toList ++ rest)))
    (kx : ∀ r ∈ rs, ∀ k, r.1 = k + 1 → k ≤ 2 → ∀ (ad' : Nat → Nat) (H1 : Heap) (locs1 : List Loc), (∀ j, j < n → ad' j = ad j) → xsat xs r.2.2.1 → xWld D aC A ad' xs bS r.2.2.2.1 H1 → va_S A s.heap H1 locs1 → ∀ (q : Addr) (ce : Cell), H1[q]? = some ce → ce.vm = .none → s.vm.findClass (exN k) = some ce.cls → vx_W p l e (xmR M) s m args below meth c H1 locs1 (cells + mc) (slots + ms) Q (F0 m pc ls rest) q) :
    W p l e (xmR M) s m args below meth c H locs cells slots Q (F0 m pc ls st0) := by
  intro T hT X
  rcases hr T hT X with ⟨v, st₀, t, T', L, h0, X', hL, e1, e2, ⟨⟨r, hr1, hr2, ad', h1, h2, h3, h4⟩, hF⟩, st⟩ | ⟨q, st₀, t, T', L, E, ce, h0, X', hL, e1, e2, ⟨⟨r, hr1, k, hr2, hk2, hE, ad', h1, h3, h4⟩, hF⟩, hce, hcv, hcl, st⟩
  · cases h2
    obtain ⟨k1, k2, k3⟩ := vx_keep h0 e1 hS (fun q _ h => h) (fun q h => h) hL hF
    obtain ⟨t2, a1, b1⟩ := kk r hr1 hr2 ad' T'.heap (locs ++ L) h1 h3 (by rw [e1]; exact h4) k3 T' rfl X'
    exact ⟨t2, st t2 a1, b1⟩
  · obtain ⟨k1, k2, k3⟩ := vx_keep h0 e1 hS (fun q _ h => h) (fun q h => h) hL hF
    subst hE
    obtain ⟨t2, a1, b1⟩ := kx r hr1 k hr2 hk2 ad' T'.heap (locs ++ L) h1 h3 (by rw [e1]; exact h4) k3 q ce (by rw [e1]; exact hce) hcv hcl T' rfl X'
    exact ⟨t2, st.trans a1, b1⟩
theorem xargs (E : Value → Value) (st : List Value) (n : Nat) : evS E st = (evS E (st.take n).reverse).reverse ++ evS E (st.drop n) := by
  unfold evS
  rw [← List.map_reverse, List.reverse_reverse, ← List.map_append, List.take_append_drop]
theorem xw_nil {Y : XM} (h : xmT Y = []) : xmWs Y = Jvm.Cond.code (xmY Y) (xmB Y) (xmN Y) (xmV Y) :: xTs := by
  unfold xmWs xmW
  rw [h]
theorem xmWs_good {Y : XM} (h : xmW Y ∈ xTs) : GoodIn xTs (xmWs Y) := xTs_good fun w hw => (List.mem_cons.mp hw).elim (fun e => by rw [e]; exact h) id
theorem xrecv1 {ci : Nat} {as : List Value} {h : XH} (h9 : xrecv 1 ci as h = true) : ∃ o t fs, as = .ref o :: t ∧ xhk h o = some (false, ci, fs) := by
  cases as with
  | nil => exact absurd h9 (by simp [xrecv])
  | cons v t =>
    cases v with
    | ref o =>
      have h9 : (match xhk h o with
        | some (false, cj, _) => Nat.beq ci cj
        | _ => false) = true := h9
      split at h9
      · rename_i cj fs hk
        have := Nat.eq_of_beq_eq_true h9
        subst this
        exact ⟨o, t, fs, rfl, hk⟩
      · cases h9
    | _ => exact absurd h9 (by simp [xrecv])
theorem xrecv2 {ci : Nat} {as : List Value} {h : XH} (h9 : xrecv 2 ci as h = true) : ∃ o t, as = .ref o :: t := by
  cases as with
  | nil => exact absurd h9 (by simp [xrecv])
  | cons v t =>
    cases v with
    | ref o => exact ⟨o, t, rfl⟩
    | _ => exact absurd h9 (by simp [xrecv])
/-- the callee's contract at a call -/
theorem xw_inv (C : xCtx p l s m args meth c M D aC A xs bS scr) {mode ci idx n : Nat} (hv : xvc M Y mode ci idx) (hd : decode (xmB M) pc = .ok (xvi mode idx, 3)) {st : List Value} {rs : List XR}
    (hM : vx_Met l (xmY Y) (xmWs Y) (xmR Y) (va_Pc (evS (ev ad xs bS) (st.take (xmA Y)).reverse) (xPre D aC A ad xs bS scr h)) (xQc D aC A ad xs bS n rs) (xXc D aC A ad xs bS n rs) (xmR Y).cells (xmR Y).slots A)
    (hlen : xmA Y ≤ st.length) (hcat : xcats (st.drop (xmA Y)) ≤ 8) (hR : (xmR Y).frames + 1 ≤ (xmR M).frames ∧ 8 + (xmN Y + 11) + (xmR Y).locals ≤ (xmR M).locals) (hf : cells + (xmR Y).cells ≤ (xmR M).cells ∧ slots + (xmR Y).slots ≤ (xmR M).slots)
    (hrc : xrecv (xmode mode) ci (st.take (xmA Y)).reverse h = true) (hw : xWld D aC A ad xs bS h H) (hS : va_S A s.heap H locs) (hls : ls.size = xmN M) :
    vx_Run p l e (xmR M) s m args below meth c H locs cells slots (xmR Y).cells (xmR Y).slots (F0 m pc ls (evS (ev ad xs bS) st)) (evS (ev ad xs bS) (st.drop (xmA Y))) (xQc D aC A ad xs bS n rs (evS (ev ad xs bS) (st.take (xmA Y)).reverse).toArray) (xXc D aC A ad xs bS n rs) A := by
  have hp := xpreS C hw hS (st.take (xmA Y)).reverse
  obtain ⟨hx, hb, hml, -, hown, hts, -, -, hSta, -, -⟩ := id C
  have hfix : CallFix p m c (xmB M) (xmN M) s args xTs (xmY M).cls := ⟨hx, hb, hml, hown, hts⟩
  have htl : (st.take (xmA Y)).length = xmA Y := by rw [List.length_take]; omega
  have hst := xargs (ev ad xs bS) st (xmA Y)
  have hal0 : (evS (ev ad xs bS) (st.take (xmA Y)).reverse).length = xmA Y := by rw [evS, List.length_map, List.length_reverse, htl]
  have hW : 2 * (F0 m pc ls (evS (ev ad xs bS) st)).monitorRoom + ((evS (ev ad xs bS) (st.drop (xmA Y))).map fun v => v.category).sum ≤ 8 := lv_room (by rw [xcats_ev]; exact hcat)
  obtain ⟨hmh, hini, hcode, hv⟩ := hv
  have hgood := xmWs_good hcode
  match mode, hv, hd, hrc with
  | 0, hv, hd, hrc =>
    obtain ⟨ht, hpar, hlink, hstat⟩ := hv
    exact vx_runS hfix hM (va_cwS (xmA Y) hts (xTs_good (by intro w hw2; simp only [va_wsS, List.mem_append, List.mem_cons, List.not_mem_nil, or_false] at hw2; rcases hw2 with (rfl | rfl | rfl) | hw2; exact hlink; exact hstat; exact hini; exact (hgood w hw2).1)) (xw_nil ht) rfl rfl ⟨hmh.1, hmh.2, hpar⟩ hR) hp rfl hal0 hls hst hW hd hf
  | 6, hv, hd, hrc =>
    obtain ⟨ht, hpar, hlink, hstat⟩ := hv
    obtain ⟨q, t, hqt⟩ : ∃ q t, xmT Y = q :: t := by
      cases hT9 : xmT Y with
      | nil => exact absurd hT9 ht
      | cons q t => exact ⟨q, t, rfl⟩
    have hw9 : xmWs Y = Jvm.Cond.codeWith (xmY Y) (xmB Y) (xmN Y) (xmV Y) (q :: t) :: xTs := by unfold xmWs xmW; rw [hqt]
    exact vx_runSX hfix hM (vx_cwSW (xmA Y) hts (xTs_good (by intro w hw2; simp only [va_wsS, List.mem_append, List.mem_cons, List.not_mem_nil, or_false] at hw2; rcases hw2 with (rfl | rfl | rfl) | hw2; exact hlink; exact hstat; exact hini; exact (hgood w hw2).1)) hw9 rfl rfl ⟨hmh.1, hmh.2, hpar⟩ hR) hp rfl hal0 hls hst hW hd hf
  | 4, hv, hd, hrc =>
    obtain ⟨ht, hpar, ⟨host, hlink⟩, hstat⟩ := hv
    exact vx_runSN (host := host) hfix hM ⟨va_cnB (xmA Y) hts hgood (xw_nil ht) rfl rfl (hSta.2.1 _ hlink) (hts _ hini) ⟨hmh.1, hmh.2, hpar⟩ hR, hts _ hstat, trivial⟩ hp rfl hal0 hls hst hW hd hf
  | 1, hv, hd, hrc =>
    obtain ⟨ht, ⟨n9, hn9, hpar⟩, hlink, hinst, hsel, T, N, hcl⟩ := hv
    obtain ⟨o, as0, fs, hargs, hk⟩ := xrecv1 hrc
    rw [hargs] at hM hp hst ⊢
    have hal : as0.length = n9 := by
      have := congrArg List.length hargs
      rw [List.length_reverse, htl, List.length_cons] at this
      omega
    obtain ⟨q0, hq0, -⟩ := xhk_get (E := ev ad xs bS) (ad := ad) (aC := aC) hk
    have hrecv := va_recv hSta.1 hw.1 hcl hq0
    have hst2 : evS (ev ad xs bS) st = (evS (ev ad xs bS) as0).reverse ++ .ref (ad o) :: evS (ev ad xs bS) (st.drop (xmA Y)) := by
      rw [hst]
      show (Value.ref (ad o) :: evS (ev ad xs bS) as0).reverse ++ _ = _
      rw [List.reverse_cons, List.append_assoc]; rfl
    exact vx_runV (C := (xmY Y).cls) (b := ad o) (As := evS (ev ad xs bS) as0) hfix hM (cwV n9 hts (xTs_good (by intro w hw2; simp only [wsV, List.mem_append, List.mem_cons, List.not_mem_nil, or_false] at hw2; rcases hw2 with (rfl | rfl | rfl | rfl) | hw2; exact hlink; exact hinst; exact hsel; exact hini; exact (hgood w hw2).1)) (xw_nil ht) rfl rfl ⟨rfl, hmh.1, hmh.2, hpar⟩ hR) ⟨hp.1, hrecv, hp.2⟩ rfl (by rw [evS, List.length_map, hal]) hls hst2 hW hd hf
  | 2, hv, hd, hrc =>
    obtain ⟨ht, ⟨n9, hn9, hpar⟩, hlink, hinst, hnm, hret⟩ := hv
    obtain ⟨o, as0, hargs⟩ := xrecv2 hrc
    rw [hargs] at hM hp hst ⊢
    have hal : as0.length = n9 := by
      have := congrArg List.length hargs
      rw [List.length_reverse, htl, List.length_cons] at this
      omega
    have hst2 : evS (ev ad xs bS) st = (evS (ev ad xs bS) as0).reverse ++ .ref (ad o) :: evS (ev ad xs bS) (st.drop (xmA Y)) := by
      rw [hst]
      show (Value.ref (ad o) :: evS (ev ad xs bS) as0).reverse ++ _ = _
      rw [List.reverse_cons, List.append_assoc]; rfl
    have hw9 := xw_nil ht
    rw [hret] at hw9
    exact vx_runI (b := ad o) (As := evS (ev ad xs bS) as0) hfix hM (cwI n9 hts hgood hw9 rfl rfl (hts _ hini) (hts _ hlink) (hts _ hinst) hnm ⟨hmh.1, hmh.2, hpar⟩ hR) hp rfl (by rw [evS, List.length_map, hal]) hls hst2 hW hd hf
  | 3, hv, hd, hrc =>
    obtain ⟨ht, ⟨n9, hn9, hpar⟩, ⟨host, hlink⟩, hinst, hnm, hret⟩ := hv
    obtain ⟨o, as0, hargs⟩ := xrecv2 hrc
    rw [hargs] at hM hp hst ⊢
    have hal : as0.length = n9 := by
      have := congrArg List.length hargs
      rw [List.length_reverse, htl, List.length_cons] at this
      omega
    have hst2 : evS (ev ad xs bS) st = (evS (ev ad xs bS) as0).reverse ++ .ref (ad o) :: evS (ev ad xs bS) (st.drop (xmA Y)) := by
      rw [hst]
      show (Value.ref (ad o) :: evS (ev ad xs bS) as0).reverse ++ _ = _
      rw [List.reverse_cons, List.append_assoc]; rfl
    have hw9 := xw_nil ht
    rw [hret] at hw9
    exact vx_runIN (host := host) (b := ad o) (As := evS (ev ad xs bS) as0) hfix hM ⟨va_cnB n9 hts hgood hw9 rfl rfl (hSta.2.1 _ hlink) (hts _ hini) ⟨hmh.1, hmh.2, hpar⟩ hR, hnm, hts _ hinst⟩ hp rfl (by rw [evS, List.length_map, hal]) hls hst2 hW hd hf
end
end XW
end
section
/-! runs hold of the machine -/
section XR
theorem xfind_spec {code : List XI} {pc : Nat} {e : XI} {t : List XI} : xfind code pc = e :: t → e.1 = pc ∧ ∀ x ∈ e :: t, x ∈ code := by
  induction code with
  | nil => intro h; cases h
  | cons a r ih =>
    intro h
    unfold xfind at h
    cases hb : Nat.beq a.1 pc with
    | true =>
      rw [hb] at h
      cases h
      exact ⟨Nat.eq_of_beq_eq_true hb, fun x hx => hx⟩
    | false =>
      rw [hb] at h
      obtain ⟨h1, h2⟩ := ih h
      exact ⟨h1, fun x hx => List.mem_cons_of_mem _ (h2 x hx)⟩
theorem xnext_spec {code t0 : List XI} {pc : Nat} {e : XI} {t : List XI} (h : xnext code t0 pc = e :: t) : e.1 = pc ∧ ∀ x ∈ e :: t, x ∈ code := xfind_spec h
theorem xall_spec {α β : Type} {f : α → Option (List β)} : ∀ {l : List α} {r : List β}, xall f l = some r → ∀ a ∈ l, ∃ r', f a = some r' ∧ ∀ x ∈ r', x ∈ r
  | [], _, _, a, ha => by cases ha
  | b :: l, r, h, a, ha => by
    unfold xall at h
    split at h
    · cases h
    · rename_i r1 h1
      split at h
      · cases h
      · rename_i r2 h2
        obtain rfl := Option.some.inj h
        rcases List.mem_cons.mp ha with rfl | ha
        · exact ⟨r1, h1, fun x hx => List.mem_append_left _ hx⟩
        · obtain ⟨r', h3, h4⟩ := xall_spec h2 a ha
          exact ⟨r', h3, fun x hx => List.mem_append_right _ (h4 x hx)⟩
/-- what a row of a listing wants of the tables -/
def xVE (Ms : List XM) (M : XM) (e : XI) : Prop :=
  match e.2.2.1 with
  | 0 => decode (xmB M) e.1 = .ok (e.2.1, ilen e.2.1) ∧ ∀ k a t, e.2.1 = .ldc2_w k → e.2.2.2 = a :: t → Jvm.Cond.constantLong (xmY M).cls k (Int64.ofNat a) ∈ xTs
  | 1 => decode (xmB M) e.1 = .ok (e.2.1, ilen e.2.1) ∧ xvh xTs (xmY M).cls (decide ((xmY M).name = "<init>")) e.2.1 e.2.2.2
  | 2 => decode (xmB M) e.1 = .ok (e.2.1, xil e.1 e.2.1)
  | 3 => ∀ mode k ci t, e.2.2.2 = mode :: k :: ci :: t → ∃ idx, decode (xmB M) e.1 = .ok (xvi mode idx, 3) ∧ ∀ Y, xnth Ms k = some Y → xvc M Y mode ci idx
  | 4 => decode (xmB M) e.1 = .ok (e.2.1, ilen e.2.1)
  | 6 => ∃ idx, decode (xmB M) e.1 = .ok (.invokespecial idx, 3) ∧ Jvm.Cond.methodLink (xmY M).cls idx Lib.objectInit ∈ xTs ∧ Jvm.Cond.instanceMethod Lib.objectInit ∈ xTs ∧ Jvm.Cond.code Lib.objectInit ⟨#[0xb1]⟩ 1 none ∈ xTs
  | 7 => ∃ idx, decode (xmB M) e.1 = .ok (.invokestatic idx, 3) ∧ Jvm.Cond.methodLink (xmY M).cls idx arraycopyName ∈ xTs ∧ Jvm.Cond.native arraycopyName ∈ xTs ∧ Jvm.Cond.static arraycopyName ∈ xTs ∧ Jvm.Cond.initialized "java/lang/System" ∈ xTs
  | 10 => ∀ mx t, e.2.2.2 = mx :: t → Jvm.Cond.initialized "java/lang/Math" ∈ xTs ∧ ∃ idx, decode (xmB M) e.1 = .ok (.invokestatic idx, 3) ∧
      ((mx = 0 ∧ Jvm.Cond.methodLink (xmY M).cls idx Lib.Math.min.name ∈ xTs ∧ Jvm.Cond.static Lib.Math.min.name ∈ xTs ∧ Jvm.Cond.code Lib.Math.min.name Lib.Math.min.code 2 (some .int) ∈ xTs) ∨
       (mx = 1 ∧ Jvm.Cond.methodLink (xmY M).cls idx Lib.Math.max.name ∈ xTs ∧ Jvm.Cond.static Lib.Math.max.name ∈ xTs ∧ Jvm.Cond.code Lib.Math.max.name Lib.Math.max.code 2 (some .int) ∈ xTs))
  | _ => True
/-- what the tables say of all -/
def xGlob : Prop := ∀ (ci : Nat) (C : String) (T : u_T) (N : Nat), classes[ci]? = some (C, T, N) → ∀ w ∈ u_ws C T N, w ∈ xTs
section
variable {p : Program} {l : Launch} {en : Env} {s : State} {m : MethodId} {args : Array Value} {below : List Frame} {meth : Method} {c : Code} {Q : State → Prop}
variable {xs : Nat → Int32} {bS : Nat} {aC : Nat → ClassId} {D : va_G} {A : Nat → Prop} {scr : Option (Nat × (Nat → Int32))} {M : XM} {Ms : List XM} {cls : Nat → Nat} {cf : XCf} {n0 : Nat} {ad0 : Nat → Nat}
/-- an end of a run is an end of the walk -/
def xleaf (p : Program) (l : Launch) (en : Env) (s : State) (m : MethodId) (args : Array Value) (below : List Frame) (meth : Method) (c : Code) (Q : State → Prop) (xs : Nat → Int32) (bS : Nat) (aC : Nat → ClassId) (D : va_G) (A : Nat → Prop) (M : XM) (n0 : Nat) (ad0 : Nat → Nat) (lf : XLf) : Prop :=
  ∀ (ad : Nat → Nat) (H : Heap) (locs : List Loc) (ls : Array Slot), lf.2.2.1 ∈ xmC M → (lf.1 = 0 → lf.2.2.1.2.2.1 = 4) → (lf.1 = 3 → lf.2.2.1.2.2.1 = 9) → (lf.1 = 0 ∨ lf.1 = 3) → (∀ j, j < n0 → ad j = ad0 j) → n0 ≤ lf.2.2.2.2.2.2.2.1 → xal lf.2.2.2.2.2.2.2.1 lf.2.2.2.1 lf.2.2.2.2.1 lf.2.2.2.2.2.2.1 = true → xsat xs lf.2.2.2.2.2.1 → xWld D aC A ad xs bS lf.2.2.2.2.2.2.1 H → va_S A s.heap H locs → lv_has ls (xmN M) (evL (ev ad xs bS) lf.2.2.2.1) →
    W p l en (xmR M) s m args below meth c H locs lf.2.2.2.2.2.2.2.2.1 lf.2.2.2.2.2.2.2.2.2 Q (F0 m lf.2.2.1.1 ls (evS (ev ad xs bS) lf.2.2.2.2.1))
def xHI (p : Program) (l : Launch) (en : Env) (s : State) (m : MethodId) (args : Array Value) (below : List Frame) (meth : Method) (c : Code) (Q : State → Prop) (xs : Nat → Int32) (bS : Nat) (aC : Nat → ClassId) (D : va_G) (A : Nat → Prop) (M : XM) (n0 : Nat) (ad0 : Nat → Nat) (ih : XGo) : Prop :=
  ∀ (cur : List XI) (lv : XL) (st : List Value) (σ : XS) (leaves : List XLf), ih cur lv st σ = some leaves → (∀ x ∈ cur, x ∈ xmC M) → (∀ lf ∈ leaves, xleaf p l en s m args below meth c Q xs bS aC D A M n0 ad0 lf) → ∀ pc, (∀ e t, cur = e :: t → e.1 = pc) →
    ∀ (ad : Nat → Nat) (H : Heap) (locs : List Loc) (ls : Array Slot), (∀ j, j < n0 → ad j = ad0 j) → n0 ≤ σ.2.2.1 → xal σ.2.2.1 lv st σ.2.1 = true → xsat xs σ.1 → xWld D aC A ad xs bS σ.2.1 H → va_S A s.heap H locs → lv_has ls (xmN M) (evL (ev ad xs bS) lv) →
      W p l en (xmR M) s m args below meth c H locs σ.2.2.2.1 σ.2.2.2.2 Q (F0 m pc ls (evS (ev ad xs bS) st))
theorem xnext_in {t : List XI} {pc : Nat} : (∀ x ∈ xnext (xmC M) t pc, x ∈ xmC M) ∧ ∀ e t', xnext (xmC M) t pc = e :: t' → e.1 = pc := by
  refine ⟨fun x hx => ?_, fun e t' h => (xnext_spec h).1⟩
  cases hc : xnext (xmC M) t pc with
  | nil => rw [hc] at hx; cases hx
  | cons e t' => rw [hc] at hx; exact (xnext_spec hc).2 x hx
theorem xfind_in {pc : Nat} : (∀ x ∈ xfind (xmC M) pc, x ∈ xmC M) ∧ ∀ e t', xfind (xmC M) pc = e :: t' → e.1 = pc := by
  refine ⟨fun x hx => ?_, fun e t' h => (xfind_spec h).1⟩
  cases hc : xfind (xmC M) pc with
  | nil => rw [hc] at hx; cases hx
  | cons e t' => rw [hc] at hx; exact (xfind_spec hc).2 x hx
theorem xcall_ok (C : xCtx p l s m args meth c M D aC A xs bS scr) (hcf : xCfOk l Ms D aC A xs bS scr cf) (hV : ∀ e ∈ xmC M, xVE Ms M e) {ih : XGo} (hih : xHI p l en s m args below meth c Q xs bS aC D A M n0 ad0 ih)
    {e : XI} {t : List XI} (he : e ∈ xmC M) (hk3 : e.2.2.1 = 3) {lv : XL} {st : List Value} {σ : XS} {leaves : List XLf} (h : xcall Ms cls M cf ih e t lv st σ = some leaves) (hlf : ∀ lf ∈ leaves, xleaf p l en s m args below meth c Q xs bS aC D A M n0 ad0 lf)
    {ad : Nat → Nat} {H : Heap} {locs : List Loc} {ls : Array Slot} (ha : ∀ j, j < n0 → ad j = ad0 j) (hn : n0 ≤ σ.2.2.1) (hwf : xal σ.2.2.1 lv st σ.2.1 = true) (hs : xsat xs σ.1) (hw : xWld D aC A ad xs bS σ.2.1 H) (hS : va_S A s.heap H locs) (hl : lv_has ls (xmN M) (evL (ev ad xs bS) lv)) :
    W p l en (xmR M) s m args below meth c H locs σ.2.2.2.1 σ.2.2.2.2 Q (F0 m e.1 ls (evS (ev ad xs bS) st)) := by
  obtain ⟨pe, hh, n, ce, sl⟩ := σ
  unfold xcall at h
  split at h
  · rename_i mode k ci tl pe' hh' n' ce' sl' haux hσ
    cases hσ
    split at h
    · cases h
    · rename_i Y hY
      generalize hchk : (Nat.ble (xmA Y) st.length && (Nat.ble (xcats (st.drop (xmA Y))) 8 && (Nat.ble ((xmR Y).frames + 1) (xmR M).frames && (Nat.ble (8 + (xmN Y + 11) + (xmR Y).locals) (xmR M).locals && (Nat.ble (ce + (xmR Y).cells) (xmR M).cells && (Nat.ble (sl + (xmR Y).slots) (xmR M).slots && xrecv (xmode mode) ci (st.take (xmA Y)).reverse hh)))))) = b at h
      cases b with
      | false => cases h
      | true =>
        simp only [Bool.and_eq_true] at hchk
        obtain ⟨c1, c2, c3, c4, c5, c6, c9⟩ := hchk
        obtain ⟨oL, oS, oH⟩ := xal_spec hwf
        dsimp only at oL oS oH
        have c7 := oL
        have c8 : xoS n (st.drop (xmA Y)) = true := xoS_drop oS
        simp only [cond_true] at h
        split at h
        · rename_i rs hrs
          have hve := hV e he
          unfold xVE at hve
          rw [hk3] at hve
          obtain ⟨idx, hd, hvY⟩ := hve mode k ci tl haux
          obtain ⟨hwR, hmet⟩ := hcf k _ pe hh n rs hrs Y hY hs (xoS_rev (xoS_take oS)) oH
          have hrun := xw_inv (e := en) (below := below) (Y := Y) (cells := ce) (slots := sl) C (hvY Y hY) hd (hmet ad) (Nat.le_of_ble_eq_true c1) (Nat.le_of_ble_eq_true c2) ⟨Nat.le_of_ble_eq_true c3, Nat.le_of_ble_eq_true c4⟩ ⟨Nat.le_of_ble_eq_true c5, Nat.le_of_ble_eq_true c6⟩ c9 hw hS hl.1
          refine xw_call hrun hS (fun r hr h0 ad' H1 locs1 g1 g2 g3 g4 => ?_) (fun r hr k9 h0 hk2 ad' H1 locs1 g1 g2 g3 g4 q cell q1 q2 q3 => ?_)
          · obtain ⟨r', h5, h6⟩ := xall_spec h r hr
            obtain ⟨w1, w2, w3⟩ := hwR r hr
            obtain ⟨r0, v, pe2, hh2, n2⟩ := r
            have h0 : r0 = 0 := h0
            subst h0
            dsimp only at w1 w2 w3
            have h5 : ih (xnext (xmC M) t (e.1 + 3)) lv (v.toList ++ st.drop (xmA Y)) (pe2, hh2, n2, ce + (xmR Y).cells, sl + (xmR Y).slots) = some r' := h5
            have hin := xnext_in (M := M) (t := t) (pc := e.1 + 3)
            have := hih _ _ _ _ _ h5 hin.1 (fun lf hlf9 => hlf lf (h6 lf hlf9)) _ hin.2 ad' H1 locs1 ls (fun j hj => (g1 j (Nat.lt_of_lt_of_le hj hn)).trans (ha j hj)) (Nat.le_trans hn w1) (xal_mk (xoL_mono w1 oL) (xoS_app.mpr ⟨w2, xoS_mono w1 c8⟩) w3) g2 g3 g4 (by rw [xoL_ev g1 c7]; exact hl)
            have e9 : evS (ev ad' xs bS) (v.toList ++ st.drop (xmA Y)) = (v.map (ev ad' xs bS)).toList ++ evS (ev ad xs bS) (st.drop (xmA Y)) := by
              rw [← xoS_ev (xs := xs) (bS := bS) g1 c8]
              unfold evS
              rw [List.map_append]
              cases v <;> rfl
            rw [e9] at this
            exact this
          · obtain ⟨r', h5, h6⟩ := xall_spec h r hr
            obtain ⟨r0, v, pe2, hh2, n2⟩ := r
            have h0 : r0 = k9 + 1 := h0
            subst h0
            cases h5
        · cases h
  · cases h
end
end XR
end
section
section XQ
theorem xald_pe {ok : Value → Bool} {oti : Nat → Bool} {st : List Value} {σ : XS} {q : List Value × XS} (h : xald ok oti st σ = some q) : q.2.1 = σ.1 := by
  obtain ⟨_, _, _, _, _, _, _, _, _, _, _, _, _, rfl⟩ := xald_spec h; rfl
theorem xast_pe {ok : Value → Bool} {oti : Nat → Bool} {st : List Value} {σ : XS} {q : List Value × XS} (h : xast ok oti st σ = some q) : q.2.1 = σ.1 := by
  obtain ⟨_, _, _, _, _, _, _, _, _, _, _, _, rfl⟩ := xast_spec h; rfl
theorem xbif {α : Type} {b : Bool} {x y : Option α} {q : α} (h : (bif b then x else y) = some q) : x = some q ∨ y = some q := by
  cases b with
  | true => exact Or.inl h
  | false => exact Or.inr h
theorem xnone {α : Type} {q : α} {P : Prop} (h : (none : Option α) = some q) : P := nomatch h
theorem xnew_pe {R : Room} {lv : XL} {r : List Value} {σ : XS} {c : XCl} {ns : Nat} {q : List Value × XS} (h : xnew R lv r σ c ns = some q) : q.2.1 = σ.1 := by
  obtain ⟨pe, hh, n, ce, sl⟩ := σ
  unfold xnew at h
  dsimp only at h
  rcases xbif h with h | h
  · obtain rfl := Option.some.inj h; rfl
  · cases h
/-- an instruction that touches cells learns nothing of the unknown ints -/
theorem xheap_pe {scr : Option (Nat × (Nat → Int32))} {R : Room} {i : Instr} {aux : List Nat} {lv : XL} {st st' : List Value} {σ σ' : XS} (h : xheap scr R i aux lv st σ = some (st', σ')) : σ'.1 = σ.1 := by
  suffices hh : ∀ q, xheap scr R i aux lv st σ = some q → q.2.1 = σ.1 from hh _ h
  clear h
  intro q h
  unfold xheap at h
  split at h
  · unfold xget at h
    split at h
    · split at h
      · rcases xbif h with h | h
        · split at h
          · obtain rfl := Option.some.inj h; rfl
          · cases h
        · cases h
      · cases h
    · cases h
  · unfold xput at h
    split at h
    · split at h
      · rcases xbif h with h | h
        · obtain rfl := Option.some.inj h; rfl
        · cases h
      · cases h
    · cases h
  · unfold xnewo at h
    split at h
    · exact xnew_pe h
    · cases h
  · unfold xnewa at h
    split at h
    · rcases xbif h with h | h
      · cases h
      · rcases xbif h with h | h
        · exact xnew_pe h
        · cases h
    · cases h
  · unfold xnewa at h
    split at h
    · rcases xbif h with h | h
      · cases h
      · rcases xbif h with h | h
        · exact xnew_pe h
        · cases h
    · cases h
  · rcases xbif h with h | h
    · unfold xnewm2 at h
      split at h
      · rcases xbif h with h | h
        · cases h
        · rcases xbif h with h | h
          · obtain rfl := Option.some.inj h; rfl
          · cases h
      · cases h
    · rcases xbif h with h | h
      · unfold xnewm3 at h
        split at h
        · rcases xbif h with h | h
          · obtain rfl := Option.some.inj h; rfl
          · cases h
        · cases h
      · cases h
  · unfold xlen at h
    split at h
    · split at h
      · rcases xbif h with h | h
        · obtain rfl := Option.some.inj h; rfl
        · cases h
      · cases h
    · split at h
      · obtain rfl := Option.some.inj h; rfl
      · cases h
    · cases h
  · unfold xild at h
    split at h
    · split at h
      · split at h
        · obtain rfl := Option.some.inj h; rfl
        · cases h
      · cases h
    · exact xald_pe h
  · exact xald_pe h
  · exact xald_pe h
  · exact xald_pe h
  · exact xast_pe h
  · exact xast_pe h
  · exact xast_pe h
  · unfold xasa at h
    split at h
    · exact xast_pe h
    · split at h
      · rcases xbif h with h | h
        · exact xast_pe h
        · cases h
      · cases h
    · cases h
  · cases h
theorem xcpy_get {v0 v1 : List Value} {d : Nat} (h : d + v0.length ≤ v1.length) (k : Nat) : (xcpy v0 v1 d)[k]? = if d ≤ k ∧ k < d + v0.length then v0[k - d]? else v1[k]? := by
  have hl : (v1.take d).length = d := by rw [List.length_take]; omega
  unfold xcpy
  rw [List.getElem?_append, hl]
  by_cases h1 : k < d
  · rw [if_pos h1, if_neg (by omega), List.getElem?_take, if_pos h1]
  · rw [if_neg h1, List.getElem?_append]
    by_cases h2 : k - d < v0.length
    · rw [if_pos h2, if_pos ⟨by omega, by omega⟩]
    · rw [if_neg h2, if_neg (by omega), List.getElem?_drop]
      congr 1
      omega
theorem xcpy_len {v0 v1 : List Value} {d : Nat} (h : d + v0.length ≤ v1.length) : (xcpy v0 v1 d).length = v1.length := by
  unfold xcpy
  rw [List.length_append, List.length_append, List.length_take, List.length_drop]
  omega
theorem xcpy_mem {v0 v1 : List Value} {d : Nat} {v : Value} (h : v ∈ xcpy v0 v1 d) : v ∈ v0 ∨ v ∈ v1 := by
  unfold xcpy at h
  rcases List.mem_append.mp h with h | h
  · exact .inr (List.mem_of_mem_take h)
  · rcases List.mem_append.mp h with h | h
    · exact .inl h
    · exact .inr (List.mem_of_mem_drop h)
section
variable {p : Program} {l : Launch} {en : Env} {s : State} {m : MethodId} {args : Array Value} {below : List Frame} {meth : Method} {c : Code} {Q : State → Prop}
variable {xs : Nat → Int32} {bS : Nat} {aC : Nat → ClassId} {D : va_G} {A : Nat → Prop} {scr : Option (Nat × (Nat → Int32))} {M : XM} {Ms : List XM} {cls : Nat → Nat} {cf : XCf} {n0 : Nat} {ad0 : Nat → Nat}
theorem xcopy_ok (C : xCtx p l s m args meth c M D aC A xs bS scr) (hV : ∀ e ∈ xmC M, xVE Ms M e) {ih : XGo} (hih : xHI p l en s m args below meth c Q xs bS aC D A M n0 ad0 ih)
    {e : XI} {t : List XI} (he : e ∈ xmC M) (hk7 : e.2.2.1 = 7) {lv : XL} {st : List Value} {σ : XS} {leaves : List XLf} (h : xcopy M ih e t lv st σ = some leaves) (hlf : ∀ lf ∈ leaves, xleaf p l en s m args below meth c Q xs bS aC D A M n0 ad0 lf)
    {ad : Nat → Nat} {H : Heap} {locs : List Loc} {ls : Array Slot} (ha : ∀ j, j < n0 → ad j = ad0 j) (hn : n0 ≤ σ.2.2.1) (hwf : xal σ.2.2.1 lv st σ.2.1 = true) (hs : xsat xs σ.1) (hw : xWld D aC A ad xs bS σ.2.1 H) (hS : va_S A s.heap H locs) (hl : lv_has ls (xmN M) (evL (ev ad xs bS) lv)) :
    W p l en (xmR M) s m args below meth c H locs σ.2.2.2.1 σ.2.2.2.2 Q (F0 m e.1 ls (evS (ev ad xs bS) st)) := by
  unfold xcopy at h
  split at h
  · rename_i n dp a sp a0 r
    split at h
    · rename_i v0 v1 hk0 hk1
      cases h1 : decide (n < 0) with
      | true => rw [h1] at h; cases h
      | false =>
        cases h2 : decide (dp < 0) with
        | true => rw [h1, h2] at h; cases h
        | false =>
        rw [h1, h2] at h
        simp only [cond_false] at h
        generalize hchk : (decide (sp = 0) && (Nat.beq n.toNatClampNeg v0.length && (Nat.ble (dp.toNatClampNeg + v0.length) v1.length && (Nat.ble 1 (xmR M).frames && Nat.ble (xcats r + 60) (xmR M).locals)))) = b at h
        cases b with
        | false => cases h
        | true =>
          simp only [Bool.and_eq_true, decide_eq_true_eq] at hchk
          obtain ⟨rfl, c3, c4, c5, c6⟩ := hchk
          simp only [cond_true] at h
          have c3 := Nat.eq_of_beq_eq_true c3
          have c4 := Nat.le_of_ble_eq_true c4
          have hve := hV e he
          unfold xVE at hve
          rw [hk7] at hve
          obtain ⟨idx, hd, w1, w2, w3, w4⟩ := hve
          obtain ⟨hx, hb, hml, -, hown, hts, -, -, hSta, -⟩ := id C
          obtain ⟨q0, hq0, -⟩ := xhk_get (E := ev ad xs bS) (ad := ad) (aC := aC) hk0
          obtain ⟨q1, hq1, hset⟩ := xhk_get (E := ev ad xs bS) (ad := ad) (aC := aC) hk1
          have hin := xnext_in (M := M) (t := t) (pc := e.1 + 3)
          refine va_copyi hx hb (hml.trans hl.1.symm) hown (hts _ w1) (hts _ w2) (hts _ w3) (hts _ w4) hSta.1 hw.1 hw.2 hS q0 q1 0 0 hq0 hq1 (xtys_get aC (by omega)) (xtys_get aC (by omega)) rfl (by decide) (of_decide_eq_false h2) (of_decide_eq_false h1) ?_ ?_ (fun _ _ => rfl) (Nat.le_of_ble_eq_true c5) ?_ hd (fun H1 locs1 p1 d1 s1 => ?_)
          · show 0 + n.toNatClampNeg ≤ v0.length; omega
          · show dp.toNatClampNeg + n.toNatClampNeg ≤ v1.length; omega
          · rw [show nativeFrameWords "java/lang/System" "arraycopy" 5 = 7 by decide +kernel]
            have := Nat.le_of_ble_eq_true c6
            show ((evS (ev ad xs bS) r).map fun v => v.category).sum + _ ≤ _
            rw [xcats_ev]
            omega
          · have e1 : (evH (ev ad xs bS) ad aC σ.2.1).set q1 (ad a, .inl (aC 0, v1.length, .inl (va_cpy (fun j => evI (ev ad xs bS (v0.getD j (.int 0)))) (fun j => evI (ev ad xs bS (v1.getD j (.int 0)))) (Int32.toNatClampNeg 0) dp.toNatClampNeg n.toNatClampNeg))) = evH (ev ad xs bS) ad aC (xhs σ.2.1 a (true, 0, xcpy v0 v1 dp.toNatClampNeg)) := by
              rw [← hset (true, 0, xcpy v0 v1 dp.toNatClampNeg)]
              show _ = (evH (ev ad xs bS) ad aC σ.2.1).set q1 (ad a, .inl (aC 0, (xcpy v0 v1 dp.toNatClampNeg).length, .inl (fun j => evI (ev ad xs bS ((xcpy v0 v1 dp.toNatClampNeg).getD j (.int 0))))))
              rw [xcpy_len c4, c3]
              refine congrArg (fun z => (evH (ev ad xs bS) ad aC σ.2.1).set q1 (ad a, .inl (aC 0, v1.length, .inl z))) (funext fun k => ?_)
              unfold va_cpy
              rw [show Int32.toNatClampNeg 0 = 0 by decide]
              rw [List.getD_eq_getElem?_getD (l := xcpy v0 v1 dp.toNatClampNeg), xcpy_get c4]
              by_cases hk : dp.toNatClampNeg ≤ k ∧ k < dp.toNatClampNeg + v0.length
              · rw [if_pos hk, if_pos hk, Nat.zero_add]
                show evI (ev ad xs bS (v0.getD (k - dp.toNatClampNeg) (.int 0))) = _
                rw [List.getD_eq_getElem?_getD]
              · rw [if_neg hk, if_neg hk]
                show evI (ev ad xs bS (v1.getD k (.int 0))) = _
                rw [List.getD_eq_getElem?_getD]
            have hp9 : va_P D classes (evH (ev ad xs bS) ad aC (xhs σ.2.1 a (true, 0, xcpy v0 v1 dp.toNatClampNeg))) H1 := by rw [← e1]; exact p1
            have hd9 : va_D A (evH (ev ad xs bS) ad aC (xhs σ.2.1 a (true, 0, xcpy v0 v1 dp.toNatClampNeg))) := by rw [← e1]; exact d1
            obtain ⟨oL, oS, oH⟩ := xal_spec hwf
            have oS9 : xoS σ.2.2.1 r = true := by
              have := xoS_drop (k := 5) oS
              exact this
            exact hih _ _ _ _ _ h hin.1 hlf _ hin.2 ad H1 locs1 ls ha hn (xal_mk oL oS9 (xoH_put oH (List.all_eq_true.mpr fun v hv => (xcpy_mem hv).elim (fun q => List.all_eq_true.mp (xoH_at oH hk0).2 v q) (fun q => List.all_eq_true.mp (xoH_at oH hk1).2 v q)))) hs ⟨hp9, hd9⟩ s1 hl
    · cases h
  · cases h
set_option maxHeartbeats 1000000 in
theorem xbody_ok (C : xCtx p l s m args meth c M D aC A xs bS scr) (hcf : xCfOk l Ms D aC A xs bS scr cf) (hG : xGlob) (hV : ∀ e ∈ xmC M, xVE Ms M e) {ih : XGo} (hih : xHI p l en s m args below meth c Q xs bS aC D A M n0 ad0 ih) :
    xHI p l en s m args below meth c Q xs bS aC D A M n0 ad0 (xbody Ms cls scr M cf ih) := by
  intro cur lv st σ leaves h hcur hlf pc hpc ad H locs ls ha hn hwf hs hw hS hl
  obtain ⟨oL, oS, oH⟩ := xal_spec hwf
  obtain ⟨hx, hb, hml, hret, hown, hts, hlocks, hname, hSta, hA, htr⟩ := id C
  cases cur with
  | nil => cases h
  | cons e t =>
    have hpc := hpc e t rfl
    subst hpc
    have he : e ∈ xmC M := hcur e List.mem_cons_self
    have hve := hV e he
    unfold xVE at hve
    unfold xbody at h
    dsimp only at h
    split at h
    · rename_i hk
      rw [hk] at hve
      obtain ⟨hd, hcl⟩ := hve
      split at h
      · rename_i q hq
        have hin := xnext_in (M := M) (t := t) (pc := e.1 + ilen e.2.1)
        exact xsimple_ok (cells := σ.2.2.2.1) (slots := σ.2.2.2.2) hx hb (fun k a tl h1 h2 => ⟨_, hown, hts _ (hcl k a tl h1 h2)⟩) hq hl hd (fun ls' hl' => hih _ _ _ _ _ h hin.1 hlf _ hin.2 ad H locs ls' ha hn (xal_mk (xsimple_kept hq oL oS).1 (xsimple_kept hq oL oS).2 oH) hs hw hS hl')
      · cases h
    · rename_i hk
      rw [hk] at hve
      obtain ⟨hd, hvh⟩ := hve
      split at h
      · rename_i q hq
        obtain ⟨st', σ'⟩ := q
        have hin := xnext_in (M := M) (t := t) (pc := e.1 + ilen e.2.1)
        have hpe : σ'.1 = σ.1 := xheap_pe hq
        exact xheap_ok (ls := ls) (nL := xmN M) hx hb hts hG hown hSta.1 hA hSta.2.2.1 hSta.2.2.2.1 hSta.2.2.2.2.2.2.2.2 (fun z => hname (of_decide_eq_true z)) hvh hwf hq hw.1 hw.2 hS hl hd (fun ad' H1 locs1 g1 g2 g3 g4 g5 g6 => hih _ _ _ _ _ h hin.1 hlf _ hin.2 ad' H1 locs1 ls (fun j hj => (g1 j (Nat.lt_of_lt_of_le hj hn)).trans (ha j hj)) (Nat.le_trans hn g2) (xheap_kept hq hwf).2 (by rw [hpe]; exact hs) ⟨g3, g4⟩ g5 g6)
      · cases h
    · rename_i hk
      rw [hk] at hve
      split at h
      · rename_i z hz
        refine xbranch_ok hw.2 (cells := σ.2.2.2.1) (slots := σ.2.2.2.2) hx hb hz hs hve (fun q hq hsq => ?_)
        obtain ⟨r', h5, h6⟩ := xall_spec h q hq
        have hin := xfind_in (M := M) (pc := q.1)
        exact hih _ _ _ (q.2.2, σ.2) _ h5 hin.1 (fun lf hlf9 => hlf lf (h6 lf hlf9)) _ hin.2 ad H locs ls ha hn (xal_mk oL (xbranch_kept hz oS q hq) oH) hsq hw hS hl
      · cases h
    · rename_i hk
      exact xcall_ok C hcf hV hih he hk h hlf ha hn hwf hs hw hS hl
    · rename_i hk
      obtain rfl := Option.some.inj h
      exact hlf _ List.mem_cons_self ad H locs ls he (fun _ => hk) (fun z => by cases z) (Or.inl rfl) ha hn hwf hs hw hS hl
    · rename_i hk
      rw [hk] at hve
      obtain ⟨idx, hd, w1, w2, w3⟩ := hve
      unfold xoinit at h
      split at h
      · rename_i o r
        generalize hchk : (Nat.ble 1 (xmR M).frames && Nat.ble (xcats r + 12) (xmR M).locals) = b at h
        cases b with
        | false => cases h
        | true =>
          rw [Bool.and_eq_true] at hchk
          have hin := xnext_in (M := M) (t := t) (pc := e.1 + 3)
          refine W.objInit (rest := evS (ev ad xs bS) r) (g := F0 m e.1 ls (.ref (ad o) :: evS (ev ad xs bS) r)) hx hb hown (hts _ w1) (hts _ w2) (hts _ w3) rfl (hl.1.trans hml.symm) rfl hd (Nat.le_of_ble_eq_true hchk.1) ?_ ?_
          · have := Nat.le_of_ble_eq_true hchk.2
            rw [xcats_ev]
            show 2 * 0 + xcats r + 12 ≤ _
            omega
          · exact hih _ _ _ _ _ h hin.1 hlf _ hin.2 ad H locs ls ha hn (xal_tail hwf) hs hw hS hl
      · cases h
    · rename_i hk
      exact xcopy_ok C hV hih he hk h hlf ha hn hwf hs hw hS hl
    · rename_i hk
      obtain rfl := Option.some.inj h
      exact hlf _ List.mem_cons_self ad H locs ls he (fun z => by cases z) (fun _ => hk) (Or.inr rfl) ha hn hwf hs hw hS hl
    · rename_i hk
      rw [hk] at hve
      unfold xmath at h
      split at h
      · rename_i mx tl y x r haux
        obtain ⟨w0, idx, hd, w1⟩ := hve mx tl haux
        generalize hchk : (Nat.ble 1 (xmR M).frames && (Nat.ble (xcats r + 13) (xmR M).locals && (Nat.ble σ.2.2.2.1 (xmR M).cells && Nat.ble σ.2.2.2.2 (xmR M).slots))) = b at h
        cases b with
        | false => cases h
        | true =>
          simp only [Bool.and_eq_true] at hchk
          obtain ⟨c1, c2, c3, c4⟩ := hchk
          simp only [cond_true] at h
          have hin := xnext_in (M := M) (t := t) (pc := e.1 + 3)
          have hwf9 : ∀ z : Int32, xal σ.2.2.1 lv (.int z :: r) σ.2.1 = true := fun z => xal_mk oL (xoS_cons.mpr ⟨rfl, (xoS_cons.mp (xoS_cons.mp oS).2).2⟩) oH
          have hloc : ((evS (ev ad xs bS) r).map fun v => v.category).sum + 13 ≤ (xmR M).locals := by rw [xcats_ev]; exact Nat.le_of_ble_eq_true c2
          rcases w1 with ⟨rfl, w1, w2, w3⟩ | ⟨rfl, w1, w2, w3⟩
          · exact va_mmin hx hb (hml.trans hl.1.symm) hown (hts _ w1) (hts _ w2) (hts _ w0) (hts _ w3) (Nat.le_of_ble_eq_true c1) hloc (Nat.le_of_ble_eq_true c3) (Nat.le_of_ble_eq_true c4) hd (hih _ _ _ _ _ h hin.1 hlf _ hin.2 ad H locs ls ha hn (hwf9 _) hs hw hS hl)
          · exact va_mmax hx hb (hml.trans hl.1.symm) hown (hts _ w1) (hts _ w2) (hts _ w0) (hts _ w3) (Nat.le_of_ble_eq_true c1) hloc (Nat.le_of_ble_eq_true c3) (Nat.le_of_ble_eq_true c4) hd (hih _ _ _ _ _ h hin.1 hlf _ hin.2 ad H locs ls ha hn (hwf9 _) hs hw hS hl)
      · cases h
    · cases h
theorem xrun_ok (C : xCtx p l s m args meth c M D aC A xs bS scr) (hcf : xCfOk l Ms D aC A xs bS scr cf) (hG : xGlob) (hV : ∀ e ∈ xmC M, xVE Ms M e) : ∀ f, xHI p l en s m args below meth c Q xs bS aC D A M n0 ad0 (xrun Ms cls scr M cf f)
  | 0 => fun _ _ _ _ _ h => nomatch h
  | f + 1 => xbody_ok C hcf hG hV (xrun_ok C hcf hG hV f)
end
end XQ
end
section
section XZ
theorem xcon {α : Type} {b : Bool} {x : Option α} {q : α} (h : (bif b then x else none) = some q) : b = true ∧ x = some q := by
  cases b with
  | true => exact ⟨rfl, h⟩
  | false => cases h
theorem xends_spec {M : XM} : ∀ {l : List XLf} {rs : List XR}, xends M l = some rs → ∀ q ∈ l, ∃ r ∈ rs, xend M q = some r
  | [], _, _, q, hq => by cases hq
  | a :: l, rs, h, q, hq => by
    unfold xends at h
    split at h
    · rename_i r1 rs1 h1 h2
      obtain rfl := Option.some.inj h
      rcases List.mem_cons.mp hq with rfl | hq
      · exact ⟨r1, List.mem_cons_self, h1⟩
      · obtain ⟨r, h3, h4⟩ := xends_spec h2 q hq
        exact ⟨r, List.mem_cons_of_mem _ h3, h4⟩
    · cases h
theorem lv_args_ev (ad : Nat → Nat) (xs : Nat → Int32) (bS : Nat) : ∀ (as : List Value) (i : Nat), lv_args i (evS (ev ad xs bS) as) = evL (ev ad xs bS) (lv_args i as)
  | [], _ => rfl
  | v :: t, i => by
    show (i, ev ad xs bS v) :: lv_args (if (ev ad xs bS v).category = 2 then i + 2 else i + 1) (evS (ev ad xs bS) t) = (i, ev ad xs bS v) :: evL (ev ad xs bS) (lv_args (if v.category = 2 then i + 2 else i + 1) t)
    rw [ev_cat, lv_args_ev ad xs bS t]
theorem lg_len (vs : List Value) : (lg_sl vs).length = xcats vs := by
  unfold lg_sl xcats
  induction vs with
  | nil => rfl
  | cons v t ih =>
    rw [List.flatMap_cons, List.length_append, ih, List.map_cons, List.sum_cons]
    rcases lv_cat v with h | h
    · simp [h]
    · simp [h]
theorem xall_from {α β : Type} {f : α → Option (List β)} : ∀ {l : List α} {r : List β}, xall f l = some r → ∀ x ∈ r, ∃ a ∈ l, ∃ r', f a = some r' ∧ x ∈ r'
  | [], r, h, x, hx => by
    obtain rfl := Option.some.inj h
    cases hx
  | b :: l, r, h, x, hx => by
    unfold xall at h
    split at h
    · cases h
    · rename_i r1 h1
      split at h
      · cases h
      · rename_i r2 h2
        obtain rfl := Option.some.inj h
        rcases List.mem_append.mp hx with hx | hx
        · exact ⟨b, List.mem_cons_self, r1, h1, hx⟩
        · obtain ⟨a, h3, r', h4, h5⟩ := xall_from h2 x hx
          exact ⟨a, List.mem_cons_of_mem _ h3, r', h4, h5⟩
/-- a runner keeps the numbers -/
def xKI (n0 : Nat) (ih : XGo) : Prop := ∀ (cur : List XI) (lv : XL) (st : List Value) (σ : XS) (leaves : List XLf), ih cur lv st σ = some leaves → n0 ≤ σ.2.2.1 → xal σ.2.2.1 lv st σ.2.1 = true → ∀ lf ∈ leaves, n0 ≤ lf.2.2.2.2.2.2.2.1 ∧ xal lf.2.2.2.2.2.2.2.1 lf.2.2.2.1 lf.2.2.2.2.1 lf.2.2.2.2.2.2.1 = true
def xCfW (cf : XCf) : Prop := ∀ (k : Nat) (as : List Value) (pe : XP) (h : XH) (n : Nat) (rs : List XR), cf k as pe h n = some rs → xoS n as = true → xoH n h = true → ∀ r ∈ rs, xwR n r
theorem xbody_kept {Ms : List XM} {cls : Nat → Nat} {scr : Option (Nat × (Nat → Int32))} {M : XM} {cf : XCf} {ih : XGo} {n0 : Nat} (hcf : xCfW cf) (hih : xKI n0 ih) : xKI n0 (xbody Ms cls scr M cf ih) := by
  intro cur lv st σ leaves h hn hwf lf hlf
  obtain ⟨oL, oS, oH⟩ := xal_spec hwf
  cases cur with
  | nil => cases h
  | cons e t =>
    unfold xbody at h
    dsimp only at h
    split at h
    · split at h
      · rename_i q hq
        exact hih _ _ _ _ _ h hn (xal_mk (xsimple_kept hq oL oS).1 (xsimple_kept hq oL oS).2 oH) lf hlf
      · cases h
    · split at h
      · rename_i q hq
        exact hih _ _ _ _ _ h (Nat.le_trans hn (xheap_kept hq hwf).1) (xheap_kept hq hwf).2 lf hlf
      · cases h
    · split at h
      · rename_i z hz
        obtain ⟨q, hq, r', h5, h6⟩ := xall_from h lf hlf
        exact hih _ _ _ _ _ h5 hn (xal_mk oL (xbranch_kept hz oS q hq) oH) lf h6
      · cases h
    · obtain ⟨pe, hh, n, ce, sl⟩ := σ
      dsimp only at hn oL oS oH
      unfold xcall at h
      split at h
      · rename_i mode k ci tl pe' hh' n' ce' sl' haux hσ
        cases hσ
        split at h
        · cases h
        · rename_i Y hY
          obtain ⟨-, h⟩ := xcon h
          split at h
          · rename_i rs hrs
            obtain ⟨r, hr, r', h5, h6⟩ := xall_from h lf hlf
            obtain ⟨w1, w2, w3⟩ := hcf _ _ _ _ _ _ hrs (xoS_rev (xoS_take oS)) oH r hr
            obtain ⟨r0, v, pe2, hh2, n2⟩ := r
            dsimp only at w1 w2 w3
            cases r0 with
            | zero =>
              have h5 : ih (xnext (xmC M) t (e.1 + 3)) lv (v.toList ++ st.drop (xmA Y)) (pe2, hh2, n2, ce + (xmR Y).cells, sl + (xmR Y).slots) = some r' := h5
              exact hih _ _ _ _ _ h5 (Nat.le_trans hn w1) (xal_mk (xoL_mono w1 oL) (xoS_app.mpr ⟨w2, xoS_mono w1 (xoS_drop oS)⟩) w3) lf h6
            | succ E => cases h5
          · cases h
      · cases h
    · obtain rfl := Option.some.inj h
      rcases List.mem_cons.mp hlf with rfl | hlf
      · exact ⟨hn, hwf⟩
      · cases hlf
    · unfold xoinit at h
      split at h
      · obtain ⟨-, h⟩ := xcon h
        exact hih _ _ _ _ _ h hn (xal_tail hwf) lf hlf
      · cases h
    · unfold xcopy at h
      split at h
      · split at h
        · rename_i v0 v1 hk0 hk1
          rcases xbif9 h with h | h
          · cases h
          · rcases xbif9 h with h | h
            · cases h
            · obtain ⟨-, h⟩ := xcon h
              exact hih _ _ _ _ _ h hn (xal_mk oL (xoS_drop (k := 5) oS) (xoH_put oH (List.all_eq_true.mpr fun v hv => (xcpy_mem hv).elim (fun q => List.all_eq_true.mp (xoH_at oH hk0).2 v q) (fun q => List.all_eq_true.mp (xoH_at oH hk1).2 v q)))) lf hlf
        · cases h
      · cases h
    · obtain rfl := Option.some.inj h
      rcases List.mem_cons.mp hlf with rfl | hlf
      · exact ⟨hn, hwf⟩
      · cases hlf
    · unfold xmath at h
      split at h
      · obtain ⟨-, h⟩ := xcon h
        exact hih _ _ _ _ _ h hn (xal_mk oL (xoS_cons.mpr ⟨rfl, (xoS_cons.mp (xoS_cons.mp oS).2).2⟩) oH) lf hlf
      · cases h
    · cases h
theorem xrun_kept {Ms : List XM} {cls : Nat → Nat} {scr : Option (Nat × (Nat → Int32))} {M : XM} {cf : XCf} {n0 : Nat} (hcf : xCfW cf) : ∀ f, xKI n0 (xrun Ms cls scr M cf f)
  | 0 => fun _ _ _ _ _ h => nomatch h
  | f + 1 => xbody_kept hcf (xrun_kept hcf f)
theorem xends_from {M : XM} : ∀ {l : List XLf} {rs : List XR}, xends M l = some rs → ∀ r ∈ rs, ∃ q ∈ l, xend M q = some r
  | [], rs, h, r, hr => by
    obtain rfl := Option.some.inj h
    cases hr
  | a :: l, rs, h, r, hr => by
    unfold xends at h
    split at h
    · rename_i r1 rs1 h1 h2
      obtain rfl := Option.some.inj h
      rcases List.mem_cons.mp hr with rfl | hr
      · exact ⟨a, List.mem_cons_self, h1⟩
      · obtain ⟨q, h3, h4⟩ := xends_from h2 r hr
        exact ⟨q, List.mem_cons_of_mem _ h3, h4⟩
    · cases h
theorem xretv_kept {ret : Option FieldType} {i : Instr} {st : List Value} {v : Option Value} {n : Nat} (h : xretv ret i st = some v) (hS : xoS n st = true) : xoS n v.toList = true := by
  unfold xretv at h
  split at h
  · obtain rfl := Option.some.inj h; rfl
  · obtain ⟨-, h⟩ := xcon h; obtain rfl := Option.some.inj h; exact hS
  · obtain ⟨-, h⟩ := xcon h; obtain rfl := Option.some.inj h; rfl
  · obtain ⟨-, h⟩ := xcon h; obtain rfl := Option.some.inj h; exact hS
  · obtain ⟨-, h⟩ := xcon h; obtain rfl := Option.some.inj h; exact hS
  · obtain ⟨-, h⟩ := xcon h; obtain rfl := Option.some.inj h; exact hS
  · obtain ⟨-, h⟩ := xcon h; obtain rfl := Option.some.inj h; exact hS
  · cases h
theorem xargs_kept {n : Nat} : ∀ (as : List Value) (i : Nat), xoS n as = true → xoL n (lv_args i as) = true
  | [], _, _ => rfl
  | v :: t, i, h => by
    show xoL n ((i, v) :: lv_args _ t) = true
    have h9 := xoS_cons.mp h
    have := xargs_kept t (if v.category = 2 then i + 2 else i + 1) h9.2
    unfold xoL at this ⊢
    rw [List.all_cons, Bool.and_eq_true]
    exact ⟨h9.1, this⟩
theorem xmeth_kept {Ms : List XM} {cls : Nat → Nat} {scr : Option (Nat × (Nat → Int32))} {F : Nat} : ∀ d, xCfW (xmeth Ms cls scr F d)
  | 0 => fun _ _ _ _ _ _ h => nomatch h
  | d + 1 => by
    intro k as pe h n rs hrs hS hH r hr
    have hrs : (match xnth Ms k with
      | none => none
      | some M => bif Nat.ble (xcats as) (xmN M) then (match xrun Ms cls scr M (xmeth Ms cls scr F d) F (xfind (xmC M) 0) (lv_args 0 as) [] (pe, h, n, 0, 0) with
        | some ls => xends M ls
        | none => none) else none) = some rs := hrs
    split at hrs
    · cases hrs
    · rename_i M hM
      obtain ⟨-, hrs⟩ := xcon hrs
      split at hrs
      · rename_i leaves hl
        obtain ⟨q, hq, hx⟩ := xends_from hrs r hr
        obtain ⟨k1, k2⟩ := xrun_kept (n0 := n) (xmeth_kept d) F _ _ _ _ _ hl (Nat.le_refl _) (xal_mk (xargs_kept as 0 hS) rfl hH) q hq
        obtain ⟨oL, oS, oH⟩ := xal_spec k2
        obtain ⟨kd, E, e, lv, st, pe9, hh, n9, ce, sl⟩ := q
        dsimp only at k1 oL oS oH
        unfold xend at hx
        split at hx
        · rename_i E' e' lv' st' pe' h' n' ce' sl' heq
          cases heq
          obtain ⟨-, hx⟩ := xcon hx
          split at hx
          · rename_i v hv
            obtain rfl := Option.some.inj hx
            exact ⟨k1, xretv_kept hv oS, oH⟩
          · cases hx
        · cases hx
      · cases hrs
section
variable {p : Program} {l : Launch} {en : Env} {s : State} {m : MethodId} {args : Array Value} {below : List Frame} {meth : Method} {c : Code}
variable {xs : Nat → Int32} {bS : Nat} {aC : Nat → ClassId} {D : va_G} {A : Nat → Prop} {scr : Option (Nat × (Nat → Int32))} {M : XM} {Ms : List XM} {cls : Nat → Nat} {cf : XCf} {n0 : Nat} {ad0 : Nat → Nat}
theorem xend_ok (C : xCtx p l s m args meth c M D aC A xs bS scr) (hV : ∀ e ∈ xmC M, xVE Ms M e) {leaves : List XLf} {rs : List XR} (h : xends M leaves = some rs) :
    ∀ lf ∈ leaves, xleaf p l en s m args below meth c (vx_MQ below (xQc D aC A ad0 xs bS n0 rs) (xXc D aC A ad0 xs bS n0 rs) args s (xmR M).cells (xmR M).slots A) xs bS aC D A M n0 ad0 lf := by
  intro lf hlf ad H locs ls he hk0 hk3 hor ha hn hwf hs hw hS hl
  obtain ⟨r, hr, hx⟩ := xends_spec h lf hlf
  obtain ⟨hexec, hb, hml, hret, hown, hts, hlocks, hname, hSta, hA, htr⟩ := id C
  obtain ⟨kd, E, e, lv, st, pe, hh, n, ce, sl⟩ := lf
  have hve := hV e he
  unfold xVE at hve
  dsimp only at hk0 hs hw hl ⊢
  unfold xend at hx
  split at hx
  · rename_i E' e' lv' st' pe' h' n' ce' sl' heq
    cases heq
    rw [hk0 rfl] at hve
    obtain ⟨hb1, hx⟩ := xcon hx
    rw [Bool.and_eq_true] at hb1
    split at hx
    rotate_left
    · cases hx
    rename_i v hv
    obtain rfl := Option.some.inj hx
    refine W.widen (Nat.le_of_ble_eq_true hb1.1) (Nat.le_of_ble_eq_true hb1.2) ?_
    refine vx_ret ?_
    have hq : ∀ (t : State) (o : Outcome), t.heap = H → o = .returned (v.map (ev ad xs bS)) → xQc D aC A ad0 xs bS n0 rs args s o t := fun t o ht ho => ⟨⟨_, hr, rfl, ad, ha, ho, hs, by rw [ht]; exact hw⟩, hS.F ht⟩
    have hret : meth.sig.returnType = M.2.2.2.1 := hret
    obtain ⟨rt, hrt⟩ : ∃ rt, rt = M.2.2.2.1 := ⟨_, rfl⟩
    rw [← hrt] at hv hret
    obtain ⟨i, hi⟩ : ∃ i, i = e.2.1 := ⟨_, rfl⟩
    rw [← hi] at hv hve
    clear hrt hi
    unfold xretv at hv
    split at hv
    · obtain rfl := Option.some.inj hv
      exact W.vret hexec hb hret (fun t ht hW => hq t _ ht rfl) hS.2.2 hve hlocks
    · rename_i v0
      obtain ⟨hok, hv⟩ := xcon hv
      obtain rfl := Option.some.inj hv
      obtain ⟨x, hxv⟩ := xint_ev (ad := ad) (xs := xs) (bS := bS) hok
      show W p l en (xmR M) s m args below meth c H locs _ _ _ (F0 m e.1 ls [ev ad xs bS v0])
      rw [hxv]
      exact W.iret (v := x) hexec hb hret (fun t ht hW => hq t _ ht (by rw [Option.map_some, hxv])) hS.2.2 hve hlocks
    · rename_i x
      obtain ⟨hok, hv⟩ := xcon hv
      obtain rfl := Option.some.inj hv
      refine W.zret (ty := .boolean) (v := x) hexec hb hret ?_ (fun t ht hW => hq t _ ht rfl) hS.2.2 hve hlocks
      simp only [Bool.or_eq_true, decide_eq_true_eq] at hok
      rcases hok with rfl | rfl <;> decide
    · rename_i v0
      obtain ⟨hok, hv⟩ := xcon hv
      obtain rfl := Option.some.inj hv
      obtain ⟨x, hxv⟩ := xlong_ev (ad := ad) (xs := xs) (bS := bS) hok
      show W p l en (xmR M) s m args below meth c H locs _ _ _ (F0 m e.1 ls [ev ad xs bS v0])
      rw [hxv]
      exact W.lret (v := x) hexec hb hret (fun t ht hW => hq t _ ht (by rw [Option.map_some, hxv])) hS.2.2 hve hlocks
    · rename_i v0
      obtain ⟨hok, hv⟩ := xcon hv
      obtain rfl := Option.some.inj hv
      obtain ⟨x, hxv⟩ := xdbl_ev (ad := ad) (xs := xs) (bS := bS) hok
      show W p l en (xmR M) s m args below meth c H locs _ _ _ (F0 m e.1 ls [ev ad xs bS v0])
      rw [hxv]
      exact W.dret (v := x) hexec hb hret (fun t ht hW => hq t _ ht (by rw [Option.map_some, hxv])) hS.2.2 hve hlocks
    · rename_i v0
      obtain ⟨hok, hv⟩ := xcon hv
      obtain rfl := Option.some.inj hv
      exact W.aret (v := ev ad xs bS v0) hexec hb hret (Or.inl ⟨_, rfl⟩) (xref_ev hok) (fun t ht hW => hq t _ ht rfl) hS.2.2 hve hlocks
    · rename_i v0
      obtain ⟨hok, hv⟩ := xcon hv
      obtain rfl := Option.some.inj hv
      exact W.aret (v := ev ad xs bS v0) hexec hb hret (Or.inr ⟨_, rfl⟩) (xref_ev hok) (fun t ht hW => hq t _ ht rfl) hS.2.2 hve hlocks
    · cases hv
  · cases hx
end
/-- what a method's record wants -/
def xMok (Ms : List XM) (M : XM) : Prop := plainName (xmY M).cls = true ∧ ∀ e ∈ xmC M, xVE Ms M e
theorem xnth_mem {α : Type} {l : List α} {k : Nat} {a : α} (h : xnth l k = some a) : a ∈ l := by
  rw [xnth_eq] at h
  exact List.mem_of_getElem? h
section
variable {l : Launch} {xs : Nat → Int32} {bS : Nat} {aC : Nat → ClassId} {D : va_G} {A : Nat → Prop} {scr : Option (Nat × (Nat → Int32))} {Ms : List XM} {cls : Nat → Nat} {F : Nat}
set_option maxHeartbeats 1000000 in
theorem xmeth_ok (hl : l.stackTraces = false) (hG : xGlob) (hM : ∀ M ∈ Ms, xMok Ms M) : ∀ d, xCfOk l Ms D aC A xs bS scr (xmeth Ms cls scr F d)
  | 0 => fun _ _ _ _ _ _ h => nomatch h
  | d + 1 => by
    have ih := xmeth_ok hl hG hM d
    intro k as pe h n rs hrs M hk hsat hwS hwH
    refine ⟨xmeth_kept (d + 1) k as pe h n rs hrs hwS hwH, fun ad => ?_⟩
    have hrs : (match xnth Ms k with
      | none => none
      | some M => bif Nat.ble (xcats as) (xmN M) then (match xrun Ms cls scr M (xmeth Ms cls scr F d) F (xfind (xmC M) 0) (lv_args 0 as) [] (pe, h, n, 0, 0) with
        | some ls => xends M ls
        | none => none) else none) = some rs := hrs
    rw [hk] at hrs
    dsimp only at hrs
    obtain ⟨hcat, hrs⟩ := xcon hrs
    split at hrs
    rotate_left
    · cases hrs
    rename_i leaves hleaves
    obtain ⟨hpn, hV⟩ := hM M (xnth_mem hk)
    have body : ∀ (p : Program) (e : Env) (s : State) (m : MethodId) (args : Array Value) (below : List Frame) (meth : Method) (c : Code) (s₁ : State), BodyLoose p l (xmY M) (headSpec (xmWs M) (xmR M)) (xmB M) (xmN M) (xmV M) e s m args below meth c s₁ → c.maxLocals = xmN M → c.exceptionTable.toList = tableOf (xmT M) →
        va_Pc (evS (ev ad xs bS) as) (xPre D aC A ad xs bS scr h) args s → W p l e (headSpec (xmWs M) (xmR M)).room s m args below meth c s.heap [] 0 0 (vx_MQ below (xQc D aC A ad xs bS n rs) (xXc D aC A ad xs bS n rs) args s (xmR M).cells (xmR M).slots A) (entryFrame m args (xmN M)) := by
      intro p e s m args below meth c s₁ B hml htab hv
      obtain ⟨rfl, hSta, hw, hA⟩ := hv
      have C : xCtx p l s m (evS (ev ad xs bS) as).toArray meth c M D aC A xs bS scr :=
        ⟨B.exec, B.bytes, hml, B.returns, findClass_of_methodNamed B.named, fun w hw9 => atoms_spec (ws := xmWs M) B.pre w (List.mem_cons_of_mem _ hw9), B.notSynchronized, fun z => (name_of_methodNamed B.named B.method).1.trans z, hSta, hA, hl⟩
      have hl0 := lv_entry (evS (ev ad xs bS) as) (n := xmN M) (by rw [lg_len]; unfold xcats; rw [xcats_ev]; exact Nat.le_of_ble_eq_true hcat)
      rw [lg_entry_eq]
      generalize (lg_sl (evS (ev ad xs bS) as) ++ List.replicate (xmN M - (lg_sl (evS (ev ad xs bS) as)).length) Slot.unset).toArray = ls at hl0 ⊢
      rw [lv_args_ev] at hl0
      have hin := xfind_in (M := M) (pc := 0)
      exact xrun_ok C ih hG hV F _ _ _ _ _ hleaves hin.1 (xend_ok C hV hrs) 0 hin.2 ad s.heap [] ls (fun _ _ => rfl) (Nat.le_refl _) (xal_mk (xargs_kept as 0 hwS) rfl hwH) hsat hw va_S.rf hl0
    cases hT9 : xmT M with
    | nil =>
      refine vx_ofW hpn (xw_nil hT9) (fun p e s m args below meth c s₁ B hml htab hv => body p e s m args below meth c s₁ B hml ?_ hv)
      rw [hT9]
      cases hz : c.exceptionTable.toList with
      | nil => rfl
      | cons a b => exact absurd (htab a (by rw [hz]; exact List.mem_cons_self)) id
    | cons q t =>
      have hw9 : xmWs M = Jvm.Cond.codeWith (xmY M) (xmB M) (xmN M) (xmV M) (q :: t) :: xTs := by unfold xmWs xmW; rw [hT9]
      refine vx_ofWH hpn hw9 (fun p e s m args below meth c s₁ B hml hv => body p e s m args below meth c s₁ B hml ?_ hv)
      rw [hT9]
      exact vx_table (x := xmY M) B (atoms_spec (ws := xmWs M) B.pre _ (by rw [hw9]; exact List.mem_cons_self))
end
end XZ
end
section
/-! the listings' rows, decided -/
section XD
def okw (pl : Nat) (w : Jvm.Cond) : Bool := decide (xnth lw_tbl pl = some w) && goodWord w
def okn (pl : Nat) (w : Jvm.Cond) : Bool := decide (xnth lw_tbl pl = some w) && xngk w
theorem okw_in {pl : Nat} {w : Jvm.Cond} (h : okw pl w = true) : w ∈ xTs := by
  unfold okw at h
  rw [Bool.and_eq_true, decide_eq_true_eq, xnth_eq] at h
  exact xTs_in h.1 h.2
theorem okn_in {pl : Nat} {w : Jvm.Cond} (h : okn pl w = true) : w ∈ xNg := by
  unfold okn at h
  rw [Bool.and_eq_true, decide_eq_true_eq, xnth_eq] at h
  exact xNg_in h.1 h.2
def xbt : Nat → FieldType
  | 0 => .int
  | _ => .boolean
def xvhB (own : String) (init : Bool) (i : Instr) (aux : List Nat) : Bool :=
  match i with
  | .getfield idx => (match aux with
    | ci :: k :: pl :: _ => (match xnth classes ci with
      | some (C, T, N) => Nat.ble (k + 1) N && okw pl (.fieldLink own idx (T k).1 (T k).2.1 (T k).2.2.1)
      | none => false)
    | _ => false)
  | .putfield idx => (match aux with
    | ci :: k :: pl :: _ => (match xnth classes ci with
      | some (C, T, N) => Nat.ble (k + 1) N && (okw pl (.fieldLink own idx (T k).1 (T k).2.1 (T k).2.2.1) && (decide ((T k).2.2.2 = false) || (decide ((T k).2.2.2 = true) && (init && decide ((T k).1 = own)))))
      | none => false)
    | _ => false)
  | .new idx => (match aux with
    | ci :: p1 :: p2 :: p3 :: _ => (match xnth classes ci with
      | some (C, T, N) => okw p1 (.classLink own idx C) && (okw p2 (.instantiable C N) && okw p3 (.initialized C))
      | none => false)
    | _ => false)
  | .newarray a => (match aux with
    | ti :: pl :: _ => Nat.ble ti 2 && (decide (newarray.typeOf a = xty ti) && okw pl (.arrayClass (newarray.typeOf a)))
    | _ => false)
  | .anewarray idx => (match aux with
    | ti :: pl :: _ => (Nat.ble 3 ti && (Nat.ble ti 5 && (match xty ti with
      | .object C => okw pl (.classLink own idx C)
      | _ => false))) || (Nat.beq ti 6 && okw pl (.classLink own idx "[I"))
    | _ => false)
  | .multianewarray idx d => (match d, aux with
    | 2, to :: ti :: p2 :: r => (Nat.beq to 6 && (Nat.beq ti 0 && (okw (r.headD 0) (.arrayClass .int) && okw p2 (.classLink own idx "[[I")))) || ((Nat.beq to 7 && (Nat.beq ti 1 && (okw (r.headD 0) (.arrayClass .boolean) && okw p2 (.classLink own idx "[[Z")))) || (Nat.beq to 8 && (Nat.beq ti 6 && okw p2 (.classLink own idx "[[[I"))))
    | 3, p1 :: p2 :: _ => okw p1 (.arrayClass .int) && okw p2 (.classLink own idx "[[[I")
    | _, _ => false)
  | _ => true
theorem xvhB_ok {own : String} {init : Bool} {i : Instr} {aux : List Nat} (h : xvhB own init i aux = true) : xvh xTs own init i aux := by
  unfold xvhB at h
  split at h
  · split at h
    · split at h
      · rename_i C T N hc
        rw [Bool.and_eq_true] at h
        rw [xnth_eq] at hc
        intro ci k t e
        cases e
        exact ⟨C, T, N, hc, Nat.le_of_ble_eq_true h.1, okw_in h.2⟩
      · cases h
    · cases h
  · split at h
    · split at h
      · rename_i C T N hc
        simp only [Bool.and_eq_true, Bool.or_eq_true, decide_eq_true_eq] at h
        rw [xnth_eq] at hc
        intro ci k t e
        cases e
        exact ⟨C, T, N, hc, Nat.le_of_ble_eq_true h.1, okw_in h.2.1, h.2.2⟩
      · cases h
    · cases h
  · split at h
    · split at h
      · rename_i C T N hc
        simp only [Bool.and_eq_true] at h
        rw [xnth_eq] at hc
        intro ci t e
        cases e
        exact ⟨C, T, N, hc, okw_in h.1, okw_in h.2.1, okw_in h.2.2⟩
      · cases h
    · cases h
  · split at h
    · simp only [Bool.and_eq_true, decide_eq_true_eq] at h
      intro ti t e
      cases e
      exact ⟨Nat.le_of_ble_eq_true h.1, h.2.1, okw_in h.2.2⟩
    · cases h
  · split at h
    · simp only [Bool.or_eq_true, Bool.and_eq_true] at h
      intro ti t e
      cases e
      rcases h with ⟨h1, h2, h3⟩ | ⟨h1, h2⟩
      · split at h3
        · rename_i C hC
          exact Or.inl ⟨Nat.le_of_ble_eq_true h1, Nat.le_of_ble_eq_true h2, C, hC, okw_in h3⟩
        · cases h3
      · exact Or.inr ⟨Nat.eq_of_beq_eq_true h1, okw_in h2⟩
    · cases h
  · split at h
    · simp only [Bool.or_eq_true, Bool.and_eq_true] at h
      refine ⟨fun _ to ti t e => ?_, fun e => by cases e⟩
      cases e
      rcases h with ⟨h1, h2, h3, h4⟩ | ⟨h1, h2, h3, h4⟩ | ⟨h1, h2, h4⟩
      · exact Or.inl ⟨Nat.eq_of_beq_eq_true h1, Nat.eq_of_beq_eq_true h2, okw_in h3, okw_in h4⟩
      · exact Or.inr (Or.inl ⟨Nat.eq_of_beq_eq_true h1, Nat.eq_of_beq_eq_true h2, okw_in h3, okw_in h4⟩)
      · exact Or.inr (Or.inr ⟨Nat.eq_of_beq_eq_true h1, Nat.eq_of_beq_eq_true h2, okw_in h4⟩)
    · simp only [Bool.and_eq_true] at h
      exact ⟨(fun e => by cases e), fun _ => ⟨okw_in h.1, okw_in h.2⟩⟩
    · cases h
  · rename_i i h1 h2 h3 h4 h5 h6
    unfold xvh
    split
    · exact absurd rfl (h1 _)
    · exact absurd rfl (h2 _)
    · exact absurd rfl (h3 _)
    · exact absurd rfl (h4 _)
    · exact absurd rfl (h5 _)
    · exact absurd rfl (h6 _ _)
    · trivial
def xpar (d : String) : Option Nat := (parseMethodDescriptor d).map (fun d => d.parameters.length)
def xhost (c : String) : String := if c = "PackWrightLaw" ∨ c = "PackWrightLaw$Reg" then "PackWrightLaw" else "PackWright"
/-- the words of a call: initialized, code, and three more -/
def xvcB (M Y : XM) (mode ci idx : Nat) (pls : List Nat) : Bool :=
  match pls with
  | p1 :: p2 :: p3 :: p4 :: p5 :: _ =>
    (decide ((xmY Y).cls ≠ "java/lang/invoke/MethodHandle") && decide ((xmY Y).cls ≠ "java/lang/invoke/VarHandle")) && (okw p1 (.initialized (xmY Y).cls) && (
    (match mode with
    | 0 => decide (xmT Y = []) && (decide (xpar (xmY Y).desc = some (xmA Y)) && (okw p3 (.methodLink (xmY M).cls idx (xmY Y)) && okw p4 (.static (xmY Y))))
    | 1 => decide (xmT Y = []) && (decide ((xpar (xmY Y).desc).map (fun n => n + 1) = some (xmA Y)) && (okw p3 (.methodLink (xmY M).cls idx (xmY Y)) && (okw p4 (.instanceMethod (xmY Y)) && (okw p5 (.selects (xmY Y).cls (xmY Y) (xmY Y)) && (match xnth classes ci with
      | some (C, _, _) => decide (C = (xmY Y).cls)
      | none => false)))))
    | 2 => decide (xmT Y = []) && (decide ((xpar (xmY Y).desc).map (fun n => n + 1) = some (xmA Y)) && (okw p3 (.methodLink (xmY M).cls idx (xmY Y)) && (okw p4 (.instanceMethod (xmY Y)) && (decide ((xmY Y).name = "<init>") && decide (xmV Y = none)))))
    | 3 => decide (xmT Y = []) && (decide ((xpar (xmY Y).desc).map (fun n => n + 1) = some (xmA Y)) && (okn p3 (.methodLinkNest (xmY M).cls idx (xmY Y) (xhost (xmY M).cls)) && (okw p4 (.instanceMethod (xmY Y)) && (decide ((xmY Y).name = "<init>") && decide (xmV Y = none)))))
    | 4 => decide (xmT Y = []) && (decide (xpar (xmY Y).desc = some (xmA Y)) && (okn p3 (.methodLinkNest (xmY M).cls idx (xmY Y) (xhost (xmY M).cls)) && okw p4 (.static (xmY Y))))
    | 6 => decide (xmT Y ≠ []) && (decide (xpar (xmY Y).desc = some (xmA Y)) && (okw p3 (.methodLink (xmY M).cls idx (xmY Y)) && okw p4 (.static (xmY Y))))
    | _ => false)))
  | _ => false
theorem xpar1 {d : String} {n : Nat} (h : (xpar d).map (fun n => n + 1) = some n) : ∃ k, n = k + 1 ∧ (parseMethodDescriptor d).map (fun d => d.parameters.length) = some k := by
  unfold xpar at h
  cases hz : (parseMethodDescriptor d).map (fun d => d.parameters.length) with
  | none => rw [hz] at h; cases h
  | some k => rw [hz] at h; cases h; exact ⟨k, rfl, rfl⟩
theorem xvcB_ok {M Y : XM} {mode ci idx : Nat} {pls : List Nat} (hcode : xmW Y ∈ xTs) (h : xvcB M Y mode ci idx pls = true) : xvc M Y mode ci idx := by
  unfold xvcB at h
  split at h
  · rename_i p1 p2 p3 p4 p5 t
    rw [Bool.and_eq_true, Bool.and_eq_true, Bool.and_eq_true, decide_eq_true_eq, decide_eq_true_eq] at h
    obtain ⟨h1, h2, h4⟩ := h
    refine ⟨h1, okw_in h2, hcode, ?_⟩
    split at h4
    · simp only [Bool.and_eq_true, decide_eq_true_eq] at h4
      exact ⟨h4.1, h4.2.1, okw_in h4.2.2.1, okw_in h4.2.2.2⟩
    · simp only [Bool.and_eq_true, decide_eq_true_eq] at h4
      obtain ⟨g1, g2, g3, g4, g5, g6⟩ := h4
      split at g6
      · rename_i C T N hc
        rw [xnth_eq] at hc
        have g6 := of_decide_eq_true g6
        subst g6
        exact ⟨g1, xpar1 g2, okw_in g3, okw_in g4, okw_in g5, T, N, hc⟩
      · cases g6
    · simp only [Bool.and_eq_true, decide_eq_true_eq] at h4
      exact ⟨h4.1, xpar1 h4.2.1, okw_in h4.2.2.1, okw_in h4.2.2.2.1, h4.2.2.2.2.1, h4.2.2.2.2.2⟩
    · simp only [Bool.and_eq_true, decide_eq_true_eq] at h4
      exact ⟨h4.1, xpar1 h4.2.1, ⟨_, okn_in h4.2.2.1⟩, okw_in h4.2.2.2.1, h4.2.2.2.2.1, h4.2.2.2.2.2⟩
    · simp only [Bool.and_eq_true, decide_eq_true_eq] at h4
      exact ⟨h4.1, h4.2.1, ⟨_, okn_in h4.2.2.1⟩, okw_in h4.2.2.2⟩
    · simp only [Bool.and_eq_true, decide_eq_true_eq] at h4
      exact ⟨h4.1, h4.2.1, okw_in h4.2.2.1, okw_in h4.2.2.2⟩
    · cases h4
  · cases h
def xdB (M : XM) (pc : Nat) (i : Instr) (n : Nat) : Bool := decide (decode (xmB M) pc = .ok (i, n))
theorem xdB_ok {M : XM} {pc : Nat} {i : Instr} {n : Nat} (h : xdB M pc i n = true) : decode (xmB M) pc = .ok (i, n) := of_decide_eq_true h
def xidx : Instr → Nat
  | .invokestatic k => k
  | .invokevirtual k => k
  | .invokespecial k => k
  | _ => 0
def xveB (Ms : List XM) (M : XM) (e : XI) : Bool :=
  match e.2.2.1 with
  | 0 => xdB M e.1 e.2.1 (ilen e.2.1) && (match e.2.1 with
    | .ldc2_w k => (match e.2.2.2 with
      | a :: pl :: _ => okw pl (.constantLong (xmY M).cls k (Int64.ofNat a))
      | _ => false)
    | _ => true)
  | 1 => xdB M e.1 e.2.1 (ilen e.2.1) && xvhB (xmY M).cls (decide ((xmY M).name = "<init>")) e.2.1 e.2.2.2
  | 2 => xdB M e.1 e.2.1 (xil e.1 e.2.1)
  | 3 => (match e.2.2.2 with
    | mode :: k :: ci :: pls => xdB M e.1 (xvi mode (xidx e.2.1)) 3 && (match xnth Ms k with
      | some Y => xvcB M Y mode ci (xidx e.2.1) pls
      | none => true)
    | _ => true)
  | 4 => xdB M e.1 e.2.1 (ilen e.2.1)
  | 6 => (match e.2.2.2 with
    | p1 :: p2 :: p3 :: _ => xdB M e.1 (.invokespecial (xidx e.2.1)) 3 && (okw p1 (.methodLink (xmY M).cls (xidx e.2.1) Lib.objectInit) && (okw p2 (.instanceMethod Lib.objectInit) && okw p3 (.code Lib.objectInit ⟨#[0xb1]⟩ 1 none)))
    | _ => false)
  | 7 => (match e.2.2.2 with
    | p1 :: p2 :: p3 :: p4 :: _ => xdB M e.1 (.invokestatic (xidx e.2.1)) 3 && (okw p1 (.methodLink (xmY M).cls (xidx e.2.1) arraycopyName) && (okw p2 (.native arraycopyName) && (okw p3 (.static arraycopyName) && okw p4 (.initialized "java/lang/System"))))
    | _ => false)
  | 10 => (match e.2.2.2 with
    | mx :: p1 :: p2 :: p3 :: p4 :: _ => okw p4 (.initialized "java/lang/Math") && (xdB M e.1 (.invokestatic (xidx e.2.1)) 3 &&
      ((Nat.beq mx 0 && (okw p1 (.methodLink (xmY M).cls (xidx e.2.1) Lib.Math.min.name) && (okw p2 (.static Lib.Math.min.name) && okw p3 (.code Lib.Math.min.name Lib.Math.min.code 2 (some .int))))) ||
       (Nat.beq mx 1 && (okw p1 (.methodLink (xmY M).cls (xidx e.2.1) Lib.Math.max.name) && (okw p2 (.static Lib.Math.max.name) && okw p3 (.code Lib.Math.max.name Lib.Math.max.code 2 (some .int)))))))
    | _ => false)
  | _ => true
theorem xveB_ok {Ms : List XM} (hcode : ∀ Y ∈ Ms, xmW Y ∈ xTs) {M : XM} {e : XI} (h : xveB Ms M e = true) : xVE Ms M e := by
  unfold xveB at h
  unfold xVE
  split at h
  · rename_i hk
    rw [hk]
    rw [Bool.and_eq_true] at h
    refine ⟨xdB_ok h.1, fun k a t e1 e2 => ?_⟩
    have h2 := h.2
    rw [e1, e2] at h2
    dsimp only at h2
    cases t with
    | nil => cases h2
    | cons pl t => exact okw_in h2
  · rename_i hk
    rw [hk]
    rw [Bool.and_eq_true] at h
    exact ⟨xdB_ok h.1, xvhB_ok h.2⟩
  · rename_i hk
    rw [hk]
    exact xdB_ok h
  · rename_i hk
    rw [hk]
    intro mode k ci t e1
    rw [e1] at h
    dsimp only at h
    rw [Bool.and_eq_true] at h
    refine ⟨_, xdB_ok h.1, fun Y hY => ?_⟩
    have h2 := h.2
    rw [hY] at h2
    exact xvcB_ok (hcode Y (by rw [xnth_eq] at hY; exact List.mem_of_getElem? hY)) h2
  · rename_i hk
    rw [hk]
    exact xdB_ok h
  · rename_i hk
    rw [hk]
    split at h
    · simp only [Bool.and_eq_true] at h
      exact ⟨_, xdB_ok h.1, okw_in h.2.1, okw_in h.2.2.1, okw_in h.2.2.2⟩
    · cases h
  · rename_i hk
    rw [hk]
    split at h
    · simp only [Bool.and_eq_true] at h
      exact ⟨_, xdB_ok h.1, okw_in h.2.1, okw_in h.2.2.1, okw_in h.2.2.2.1, okw_in h.2.2.2.2⟩
    · cases h
  · rename_i hk
    rw [hk]
    split at h
    · rename_i mx p1 p2 p3 p4 tl haux
      simp only [Bool.or_eq_true, Bool.and_eq_true] at h
      intro mx9 t9 e9
      rw [haux] at e9
      cases e9
      refine ⟨okw_in h.1, _, xdB_ok h.2.1, ?_⟩
      rcases h.2.2 with ⟨a, b, c, d⟩ | ⟨a, b, c, d⟩
      · exact Or.inl ⟨Nat.eq_of_beq_eq_true a, okw_in b, okw_in c, okw_in d⟩
      · exact Or.inr ⟨Nat.eq_of_beq_eq_true a, okw_in b, okw_in c, okw_in d⟩
    · cases h
  · rename_i h0 h1 h2 h3 h4 h6 h7 h10
    split
    · rename_i z; exact absurd z h0
    · rename_i z; exact absurd z h1
    · rename_i z; exact absurd z h2
    · rename_i z; exact absurd z h3
    · rename_i z; exact absurd z h4
    · rename_i z; exact absurd z h6
    · rename_i z; exact absurd z h7
    · rename_i z; exact absurd z h10
    · trivial
/-- a method's own word, its bytes compared one by one -/
def xbl : List UInt8 → List UInt8 → Bool
  | [], [] => true
  | a :: s, b :: t => Nat.beq a.toNat b.toNat && xbl s t
  | _, _ => false
theorem xbl_eq : ∀ {s t : List UInt8}, xbl s t = true → s = t
  | [], [], _ => rfl
  | [], _ :: _, h => nomatch h
  | _ :: _, [], h => nomatch h
  | a :: s, b :: t, h => by
    unfold xbl at h
    rw [Bool.and_eq_true] at h
    rw [UInt8.toNat_inj.mp (Nat.eq_of_beq_eq_true h.1), xbl_eq h.2]
theorem xba_eq {a b : ByteArray} (h : a.data.toList = b.data.toList) : a = b := by
  cases a
  cases b
  exact congrArg ByteArray.mk (Array.toList_inj.mp h)
def xckB (pl : Nat) (M : XM) : Bool :=
  match xnth lw_tbl pl with
  | some (.code y b n r) => decide (xmT M = []) && (decide (y = xmY M) && (xbl b.data.toList (xmB M).data.toList && (Nat.beq n (xmN M) && decide (r = xmV M))))
  | _ => false
theorem xckB_ok {pl : Nat} {M : XM} (h : xckB pl M = true) : xmW M ∈ xTs := by
  unfold xckB at h
  split at h
  · rename_i y b n r hk
    simp only [Bool.and_eq_true, decide_eq_true_eq] at h
    obtain ⟨h0, rfl, h2, h3, rfl⟩ := h
    rw [xba_eq (xbl_eq h2), Nat.eq_of_beq_eq_true h3, xnth_eq] at hk
    unfold xmW
    rw [h0]
    exact xTs_in hk rfl
  · cases h
def xmokB (Ms : List XM) (M : XM) : Bool := plainName (xmY M).cls && (xmC M).all (xveB Ms M)
theorem xmokB_ok {Ms : List XM} (hcode : ∀ Y ∈ Ms, xmW Y ∈ xTs) {M : XM} (h : xmokB Ms M = true) : xMok Ms M := by
  unfold xmokB at h
  rw [Bool.and_eq_true] at h
  exact ⟨h.1, fun e he => xveB_ok hcode (List.all_eq_true.mp h.2 e he)⟩
end XD
end
section
/-! the methods, row by row (by wip/p46/gen15.py) -/
section XY
def xm0c : List XI := [(0, .aload_n 0, 0, []), (1, .invokespecial 3, 6, [590, 78, 79]), (4, .aload_n 0, 0, []), (5, .bipush 12, 0, []), (7, .anewarray 9, 1, [4, 591]), (10, .putfield 11, 1, [7, 0, 753]), (13, .aload_n 0, 0, []), (14, .new 15, 1, [6, 593, 594, 30]), (17, .dup, 0, []), (18, .invokespecial 17, 3, [3, 121, 0, 30, 597, 595, 596, 0]), (21, .putfield 18, 1, [7, 2, 755]), (24, .aload_n 0, 0, []), (25, .new 22, 1, [2, 617, 158, 31]), (28, .dup, 0, []), (29, .invokespecial 24, 3, [3, 73, 0, 31, 620, 618, 619, 0]), (32, .putfield 25, 1, [7, 3, 756]), (35, .aload_n 0, 0, []), (36, .new 22, 1, [2, 617, 158, 31]), (39, .dup, 0, []), (40, .invokespecial 24, 3, [3, 73, 0, 31, 620, 618, 619, 0]), (43, .putfield 29, 1, [7, 4, 757]), (46, .aload_n 0, 0, []), (47, .new 32, 1, [5, 637, 212, 32]), (50, .dup, 0, []), (51, .invokespecial 34, 3, [3, 108, 0, 32, 640, 638, 639, 0]), (54, .putfield 35, 1, [7, 5, 758]), (57, .aload_n 0, 0, []), (58, .new 39, 1, [1, 683, 297, 33]), (61, .dup, 0, []), (62, .invokespecial 41, 3, [3, 69, 0, 33, 686, 684, 685, 0]), (65, .putfield 42, 1, [7, 6, 759]), (68, .aload_n 0, 0, []), (69, .new 46, 1, [4, 702, 362, 34]), (72, .dup, 0, []), (73, .invokespecial 48, 3, [3, 97, 0, 34, 705, 703, 704, 0]), (76, .putfield 49, 1, [7, 7, 760]), (79, .aload_n 0, 0, []), (80, .new 53, 1, [0, 732, 436, 35]), (83, .dup, 0, []), (84, .invokespecial 55, 3, [3, 63, 0, 35, 735, 733, 734, 0]), (87, .putfield 56, 1, [7, 8, 761]), (90, .aload_n 0, 0, []), (91, .new 53, 1, [0, 732, 436, 35]), (94, .dup, 0, []), (95, .invokespecial 55, 3, [3, 63, 0, 35, 735, 733, 734, 0]), (98, .putfield 60, 1, [7, 9, 762]), (101, .aload_n 0, 0, []), (102, .sipush 5000, 0, []), (105, .putfield 63, 1, [7, 10, 763]), (108, .return_, 4, [])]
def xm0 : XM := (⟨"PackWright", "<init>", "()V"⟩, prog_1_method_1_code, 1, none, { frames := 3, cells := 32, slots := 543, locals := 60 }, [], xm0c, 1)
def xm1c : List XI := [(0, .aload_n 0, 0, []), (1, .getfield 67, 1, [7, 1, 754]), (4, .bipush 12, 0, []), (6, .if_icmp .lt 13, 2, []), (9, .new 70, 5, [2, 72, 74, 0, 394, 39, 404, 1033]), (19, .aload_n 0, 0, []), (20, .getfield 11, 1, [7, 0, 753]), (23, .aload_n 0, 0, []), (24, .getfield 67, 1, [7, 1, 754]), (27, .new 9, 1, [3, 591, 1034, 40]), (30, .dup, 0, []), (31, .invokespecial 77, 3, [3, 91, 0, 40, 1037, 1035, 1036, 0]), (34, .aastore, 1, []), (35, .aload_n 0, 0, []), (36, .dup, 0, []), (37, .getfield 67, 1, [7, 1, 754]), (40, .iconst 1, 0, []), (41, .iadd, 0, []), (42, .putfield 67, 1, [7, 1, 754]), (45, .aload_n 0, 0, []), (46, .getfield 67, 1, [7, 1, 754]), (49, .iconst 1, 0, []), (50, .isub, 0, []), (51, .ireturn, 4, [])]
def xm1 : XM := (⟨"PackWright", "addPackage", "()I"⟩, prog_1_method_2_code, 1, (some .int), { frames := 2, cells := 3, slots := 19, locals := 40 }, [], xm1c, 1)
def xm2c : List XI := [(0, .aload_n 0, 0, []), (1, .iload_n 1, 0, []), (2, .invokevirtual 78, 3, [1, 43, 7, 29, 126, 122, 124, 1]), (5, .astore 6, 0, []), (7, .iload_n 2, 0, []), (8, .iload_n 3, 0, []), (9, .iload 4, 0, []), (11, .invokestatic 82, 3, [0, 46, 0, 29, 867, 865, 866, 0]), (14, .iload 5, 0, []), (16, .iconst 1, 0, []), (17, .if_icmp .lt 11, 2, []), (20, .iload 5, 0, []), (22, .sipush 999, 0, []), (25, .if_icmp .le 13, 2, []), (28, .new 86, 5, [1, 88, 90, 0, 52, 42, 96, 872]), (38, .iload_n 2, 0, []), (39, .iload_n 3, 0, []), (40, .iload 4, 0, []), (42, .invokestatic 91, 3, [0, 58, 0, 29, 875, 873, 874, 0]), (45, .istore 7, 0, []), (47, .aload 6, 0, []), (49, .getfield 95, 1, [3, 2, 1044]), (52, .bipush 8, 0, []), (54, .if_icmp .ge 13, 2, []), (57, .aload 6, 0, []), (59, .iload 7, 0, []), (61, .invokevirtual 98, 3, [1, 92, 3, 40, 879, 876, 877, 878]), (64, .ifCond .eq 13, 2, []), (67, .new 70, 5, [2, 102, 74, 0, 394, 39, 404, 880]), (77, .aload 6, 0, []), (79, .iload 7, 0, []), (81, .iload 5, 0, []), (83, .invokevirtual 104, 3, [1, 93, 3, 40, 884, 881, 882, 883]), (86, .ireturn, 4, [])]
def xm2 : XM := (⟨"PackWright", "publish", "(IIIII)I"⟩, prog_1_method_3_code, 8, (some .int), { frames := 3, cells := 1, slots := 8, locals := 67 }, [], xm2c, 6)
def xm3c : List XI := [(0, .aload_n 0, 0, []), (1, .iload_n 1, 0, []), (2, .invokevirtual 78, 3, [1, 43, 7, 29, 126, 122, 124, 1]), (5, .astore 9, 0, []), (7, .aload_n 0, 0, []), (8, .iload_n 1, 0, []), (9, .iload_n 2, 0, []), (10, .invokevirtual 108, 3, [1, 45, 7, 29, 947, 944, 946, 26]), (13, .iload_n 3, 0, []), (14, .iconst (-1), 0, []), (15, .if_icmp .lt 8, 2, []), (18, .iload_n 3, 0, []), (19, .iconst 4, 0, []), (20, .if_icmp .lt 13, 2, []), (23, .new 86, 5, [1, 112, 90, 0, 52, 42, 96, 949]), (33, .iload 4, 0, []), (35, .invokestatic 114, 3, [0, 49, 0, 29, 952, 950, 951, 0]), (38, .iload 5, 0, []), (40, .iload 6, 0, []), (42, .iload 7, 0, []), (44, .iload 8, 0, []), (46, .invokestatic 118, 3, [0, 48, 0, 29, 956, 954, 955, 0]), (49, .aload 9, 0, []), (51, .invokevirtual 122, 3, [1, 94, 3, 40, 961, 958, 959, 960]), (54, .astore 10, 0, []), (56, .aload 10, 0, []), (58, .ifnull 12, 2, []), (61, .aload 10, 0, []), (63, .getfield 126, 1, [10, 5, 908]), (66, .iconst 5, 0, []), (67, .if_icmp .lt 13, 2, []), (70, .new 70, 5, [2, 131, 74, 0, 394, 39, 404, 962]), (80, .new 133, 1, [9, 963, 964, 45]), (83, .dup, 0, []), (84, .iload 5, 0, []), (86, .iload 6, 0, []), (88, .iload 7, 0, []), (90, .iload 8, 0, []), (92, .invokestatic 91, 3, [0, 58, 0, 29, 875, 873, 874, 0]), (95, .invokespecial 135, 3, [2, 105, 0, 45, 967, 965, 966, 0]), (98, .astore 11, 0, []), (100, .aload 10, 0, []), (102, .new 137, 1, [8, 980, 981, 46]), (105, .dup, 0, []), (106, .iload_n 2, 0, []), (107, .iload_n 3, 0, []), (108, .iload 4, 0, []), (110, .aload 11, 0, []), (112, .invokespecial 139, 3, [2, 89, 0, 46, 984, 982, 983, 0]), (115, .invokevirtual 142, 3, [1, 118, 10, 43, 1012, 1009, 1010, 1011]), (118, .ireturn, 4, [])]
def xm3 : XM := (⟨"PackWright", "need", "(IIIIIIII)I"⟩, prog_1_method_4_code, 12, (some .int), { frames := 3, cells := 2, slots := 7, locals := 65 }, [], xm3c, 9)
def xm4c : List XI := [(0, .aload_n 0, 0, []), (1, .iload_n 1, 0, []), (2, .invokevirtual 78, 3, [1, 43, 7, 29, 126, 122, 124, 1]), (5, .astore 7, 0, []), (7, .aload_n 0, 0, []), (8, .iload_n 1, 0, []), (9, .iload_n 2, 0, []), (10, .invokevirtual 108, 3, [1, 45, 7, 29, 947, 944, 946, 26]), (13, .iload_n 3, 0, []), (14, .iload 4, 0, []), (16, .iload 5, 0, []), (18, .iload 6, 0, []), (20, .invokestatic 118, 3, [0, 48, 0, 29, 956, 954, 955, 0]), (23, .aload 7, 0, []), (25, .invokevirtual 122, 3, [1, 94, 3, 40, 961, 958, 959, 960]), (28, .astore 8, 0, []), (30, .aload 8, 0, []), (32, .ifnull 12, 2, []), (35, .aload 8, 0, []), (37, .getfield 146, 1, [10, 7, 912]), (40, .iconst 3, 0, []), (41, .if_icmp .lt 13, 2, []), (44, .new 70, 5, [2, 149, 74, 0, 394, 39, 404, 1020]), (54, .new 133, 1, [9, 963, 964, 45]), (57, .dup, 0, []), (58, .iload_n 3, 0, []), (59, .iload 4, 0, []), (61, .iload 5, 0, []), (63, .iload 6, 0, []), (65, .invokestatic 91, 3, [0, 58, 0, 29, 875, 873, 874, 0]), (68, .invokespecial 135, 3, [2, 105, 0, 45, 967, 965, 966, 0]), (71, .astore 9, 0, []), (73, .aload 8, 0, []), (75, .new 137, 1, [8, 980, 981, 46]), (78, .dup, 0, []), (79, .iload_n 2, 0, []), (80, .iconst (-1), 0, []), (81, .iconst 0, 0, []), (82, .aload 9, 0, []), (84, .invokespecial 139, 3, [2, 89, 0, 46, 984, 982, 983, 0]), (87, .invokevirtual 151, 3, [1, 119, 10, 43, 1024, 1021, 1022, 1023]), (90, .ireturn, 4, [])]
def xm4 : XM := (⟨"PackWright", "clash", "(IIIIII)I"⟩, prog_1_method_5_code, 10, (some .int), { frames := 3, cells := 2, slots := 7, locals := 65 }, [], xm4c, 7)
def xm5c : List XI := [(0, .aload_n 0, 0, []), (1, .iload_n 1, 0, []), (2, .iload_n 2, 0, []), (3, .invokevirtual 154, 3, [1, 44, 7, 29, 557, 554, 556, 24]), (6, .astore 4, 0, []), (8, .aload 4, 0, []), (10, .getfield 158, 1, [10, 3, 902]), (13, .istore 5, 0, []), (15, .aload 4, 0, []), (17, .iload_n 3, 0, []), (18, .putfield 158, 1, [10, 3, 902]), (21, .iload 5, 0, []), (23, .ireturn, 4, [])]
def xm5 : XM := (⟨"PackWright", "withdraw", "(IIZ)Z"⟩, prog_1_method_6_code, 6, (some .boolean), { frames := 2, cells := 0, slots := 0, locals := 44 }, [], xm5c, 4)
def xm6c : List XI := [(0, .aload_n 0, 0, []), (1, .getfield 67, 1, [7, 1, 754]), (4, .ireturn, 4, [])]
def xm6 : XM := (⟨"PackWright", "packages", "()I"⟩, prog_1_method_7_code, 1, (some .int), { frames := 0, cells := 0, slots := 0, locals := 0 }, [], xm6c, 1)
def xm7c : List XI := [(0, .aload_n 0, 0, []), (1, .iload_n 1, 0, []), (2, .invokevirtual 78, 3, [1, 43, 7, 29, 126, 122, 124, 1]), (5, .getfield 95, 1, [3, 2, 1044]), (8, .ireturn, 4, [])]
def xm7 : XM := (⟨"PackWright", "versions", "(I)I"⟩, prog_1_method_8_code, 2, (some .int), { frames := 1, cells := 0, slots := 0, locals := 21 }, [], xm7c, 2)
def xm8c : List XI := [(0, .aload_n 0, 0, []), (1, .iload_n 1, 0, []), (2, .invokevirtual 78, 3, [1, 43, 7, 29, 126, 122, 124, 1]), (5, .iload_n 2, 0, []), (6, .invokevirtual 162, 3, [1, 95, 3, 40, 217, 535, 215, 216]), (9, .astore_n 3, 0, []), (10, .aload_n 3, 0, []), (11, .ifnonnull 13, 2, []), (14, .new 166, 5, [0, 168, 170, 0, 127, 41, 137, 536]), (24, .aload_n 3, 0, []), (25, .getfield 171, 1, [10, 0, 893]), (28, .ireturn, 4, [])]
def xm8 : XM := (⟨"PackWright", "versionAt", "(II)I"⟩, prog_1_method_9_code, 4, (some .int), { frames := 1, cells := 0, slots := 0, locals := 21 }, [], xm8c, 3)
def xm9c : List XI := [(0, .aload_n 0, 0, []), (1, .iload_n 1, 0, []), (2, .invokevirtual 78, 3, [1, 43, 7, 29, 126, 122, 124, 1]), (5, .pop, 0, []), (6, .iload_n 2, 0, []), (7, .invokestatic 114, 3, [0, 49, 0, 29, 952, 950, 951, 0]), (10, .iload_n 3, 0, []), (11, .iload 4, 0, []), (13, .iload 5, 0, []), (15, .iload 6, 0, []), (17, .invokestatic 118, 3, [0, 48, 0, 29, 956, 954, 955, 0]), (20, .aload_n 0, 0, []), (21, .getfield 18, 1, [7, 2, 755]), (24, .getfield 178, 1, [6, 1, 609]), (27, .bipush 6, 0, []), (29, .if_icmp .lt 13, 2, []), (32, .new 70, 5, [2, 179, 74, 0, 394, 39, 404, 1061]), (42, .new 133, 1, [9, 963, 964, 45]), (45, .dup, 0, []), (46, .iload_n 3, 0, []), (47, .iload 4, 0, []), (49, .iload 5, 0, []), (51, .iload 6, 0, []), (53, .invokestatic 91, 3, [0, 58, 0, 29, 875, 873, 874, 0]), (56, .invokespecial 135, 3, [2, 105, 0, 45, 967, 965, 966, 0]), (59, .astore 7, 0, []), (61, .aload_n 0, 0, []), (62, .getfield 18, 1, [7, 2, 755]), (65, .new 137, 1, [8, 980, 981, 46]), (68, .dup, 0, []), (69, .iload_n 1, 0, []), (70, .iconst (-1), 0, []), (71, .iload_n 2, 0, []), (72, .aload 7, 0, []), (74, .invokespecial 139, 3, [2, 89, 0, 46, 984, 982, 983, 0]), (77, .invokevirtual 181, 3, [1, 122, 6, 30, 199, 1062, 197, 198]), (80, .aload_n 0, 0, []), (81, .getfield 18, 1, [7, 2, 755]), (84, .getfield 178, 1, [6, 1, 609]), (87, .iconst 1, 0, []), (88, .isub, 0, []), (89, .ireturn, 4, [])]
def xm9 : XM := (⟨"PackWright", "wish", "(IIIIII)I"⟩, prog_1_method_11_code, 8, (some .int), { frames := 3, cells := 2, slots := 7, locals := 65 }, [], xm9c, 7)
def xm10c : List XI := [(0, .aload_n 0, 0, []), (1, .getfield 18, 1, [7, 2, 755]), (4, .getfield 178, 1, [6, 1, 609]), (7, .ireturn, 4, [])]
def xm10 : XM := (⟨"PackWright", "wishes", "()I"⟩, prog_1_method_13_code, 1, (some .int), { frames := 0, cells := 0, slots := 0, locals := 0 }, [], xm10c, 1)
def xm11c : List XI := [(0, .iload_n 1, 0, []), (1, .ifCond .lt 8, 2, []), (4, .iload_n 1, 0, []), (5, .iconst 3, 0, []), (6, .if_icmp .le 13, 2, []), (9, .new 86, 5, [1, 189, 90, 0, 52, 42, 96, 95]), (19, .iload_n 1, 0, []), (20, .iconst 2, 0, []), (21, .if_icmp .lt 9, 2, []), (24, .aload_n 0, 0, []), (25, .iload_n 2, 0, []), (26, .invokevirtual 78, 3, [1, 43, 7, 29, 126, 122, 124, 1]), (29, .pop, 0, []), (30, .aload_n 0, 0, []), (31, .aload_n 0, 0, []), (32, .getfield 18, 1, [7, 2, 755]), (35, .invokevirtual 191, 3, [1, 123, 6, 30, 146, 143, 144, 145]), (38, .aload_n 0, 0, []), (39, .iload_n 1, 0, []), (40, .iload_n 2, 0, []), (41, .invokevirtual 195, 3, [1, 53, 7, 29, 150, 147, 149, 2]), (44, .invokevirtual 198, 3, [1, 55, 7, 29, 186, 183, 185, 5]), (47, .istore_n 3, 0, []), (48, .aload_n 0, 0, []), (49, .aload_n 0, 0, []), (50, .getfield 35, 1, [7, 5, 758]), (53, .getfield 201, 1, [5, 2, 651]), (56, .putfield 204, 1, [7, 11, 764]), (59, .iload_n 3, 0, []), (60, .ifCond .eq 5, 2, []), (63, .iload_n 3, 0, []), (64, .ireturn, 4, []), (65, .aload_n 0, 0, []), (66, .getfield 25, 1, [7, 3, 756]), (69, .aload_n 0, 0, []), (70, .getfield 35, 1, [7, 5, 758]), (73, .getfield 207, 1, [5, 1, 649]), (76, .invokevirtual 210, 3, [1, 76, 2, 31, 264, 261, 262, 263]), (79, .istore 4, 0, []), (81, .aload_n 0, 0, []), (82, .getfield 25, 1, [7, 3, 756]), (85, .aload_n 0, 0, []), (86, .getfield 35, 1, [7, 5, 758]), (89, .getfield 207, 1, [5, 1, 649]), (92, .invokevirtual 214, 3, [1, 75, 2, 31, 268, 265, 266, 267]), (95, .aload_n 0, 0, []), (96, .getfield 49, 1, [7, 7, 760]), (99, .invokevirtual 218, 3, [1, 98, 4, 34, 272, 269, 270, 271]), (102, .iload 4, 0, []), (104, .ireturn, 4, [])]
def xm11 : XM := (⟨"PackWright", "resolve", "(II)I"⟩, prog_1_method_14_code, 5, (some .int), { frames := 6, cells := 0, slots := 0, locals := 137 }, [], xm11c, 3)
def xm12c : List XI := [(0, .aload_n 0, 0, []), (1, .getfield 204, 1, [7, 11, 764]), (4, .ireturn, 4, [])]
def xm12 : XM := (⟨"PackWright", "tries", "()I"⟩, prog_1_method_15_code, 1, (some .int), { frames := 0, cells := 0, slots := 0, locals := 0 }, [], xm12c, 1)
def xm13c : List XI := [(0, .aload_n 0, 0, []), (1, .iload_n 1, 0, []), (2, .invokevirtual 78, 3, [1, 43, 7, 29, 126, 122, 124, 1]), (5, .pop, 0, []), (6, .aload_n 0, 0, []), (7, .getfield 25, 1, [7, 3, 756]), (10, .getfield 221, 1, [2, 0, 628]), (13, .iload_n 1, 0, []), (14, .aaload, 1, []), (15, .invokestatic 225, 3, [0, 59, 0, 29, 453, 451, 452, 0]), (18, .ireturn, 4, [])]
def xm13 : XM := (⟨"PackWright", "locked", "(I)I"⟩, prog_1_method_16_code, 2, (some .int), { frames := 1, cells := 0, slots := 0, locals := 21 }, [], xm13c, 2)
def xm14c : List XI := [(0, .aload_n 0, 0, []), (1, .getfield 25, 1, [7, 3, 756]), (4, .invokevirtual 229, 3, [1, 77, 2, 31, 513, 510, 511, 512]), (7, .ireturn, 4, [])]
def xm14 : XM := (⟨"PackWright", "lockedPackages", "()I"⟩, prog_1_method_17_code, 1, (some .int), { frames := 1, cells := 0, slots := 0, locals := 22 }, [], xm14c, 1)
def xm15c : List XI := [(0, .aload_n 0, 0, []), (1, .iload_n 1, 0, []), (2, .invokevirtual 78, 3, [1, 43, 7, 29, 126, 122, 124, 1]), (5, .pop, 0, []), (6, .aload_n 0, 0, []), (7, .getfield 25, 1, [7, 3, 756]), (10, .aload_n 0, 0, []), (11, .getfield 18, 1, [7, 2, 755]), (14, .invokevirtual 231, 3, [1, 79, 2, 31, 154, 151, 152, 153]), (17, .aload_n 0, 0, []), (18, .getfield 25, 1, [7, 3, 756]), (21, .getfield 235, 1, [2, 1, 631]), (24, .iload_n 1, 0, []), (25, .iaload, 1, []), (26, .ireturn, 4, [])]
def xm15 : XM := (⟨"PackWright", "featuresOf", "(I)I"⟩, prog_1_method_18_code, 2, (some .int), { frames := 3, cells := 0, slots := 0, locals := 68 }, [], xm15c, 2)
def xm16c : List XI := [(0, .aload_n 0, 0, []), (1, .getfield 25, 1, [7, 3, 756]), (4, .aload_n 0, 0, []), (5, .getfield 18, 1, [7, 2, 755]), (8, .invokevirtual 231, 3, [1, 79, 2, 31, 154, 151, 152, 153]), (11, .aload_n 0, 0, []), (12, .getfield 25, 1, [7, 3, 756]), (15, .aload_n 0, 0, []), (16, .getfield 18, 1, [7, 2, 755]), (19, .iconst 1, 0, []), (20, .invokevirtual 239, 3, [1, 82, 2, 31, 244, 281, 242, 243]), (23, .ireturn, 4, [])]
def xm16 : XM := (⟨"PackWright", "isSound", "()Z"⟩, prog_1_method_19_code, 1, (some .boolean), { frames := 4, cells := 0, slots := 0, locals := 92 }, [], xm16c, 1)
def xm17c : List XI := [(0, .aload_n 0, 0, []), (1, .invokevirtual 243, 3, [1, 56, 7, 29, 289, 286, 288, 14]), (4, .iconst 0, 0, []), (5, .istore_n 1, 0, []), (6, .iconst 0, 0, []), (7, .istore_n 2, 0, []), (8, .iload_n 2, 0, []), (9, .bipush 12, 0, []), (11, .if_icmp .ge 36, 2, []), (14, .aload_n 0, 0, []), (15, .getfield 25, 1, [7, 3, 756]), (18, .getfield 221, 1, [2, 0, 628]), (21, .iload_n 2, 0, []), (22, .aaload, 1, []), (23, .ifnull 18, 2, []), (26, .aload_n 0, 0, []), (27, .getfield 42, 1, [7, 6, 759]), (30, .getfield 246, 1, [1, 0, 689]), (33, .iload_n 2, 0, []), (34, .iaload, 1, []), (35, .ifCond .ne 6, 2, []), (38, .iinc 1 1, 0, []), (41, .iinc 2 1, 0, []), (44, .goto (-36), 2, []), (47, .iload_n 1, 0, []), (48, .ireturn, 4, [])]
def xm17 : XM := (⟨"PackWright", "idle", "()I"⟩, prog_1_method_20_code, 3, (some .int), { frames := 4, cells := 0, slots := 0, locals := 91 }, [], xm17c, 1)
def xm18c : List XI := [(0, .aload_n 0, 0, []), (1, .getfield 18, 1, [7, 2, 755]), (4, .invokevirtual 191, 3, [1, 123, 6, 30, 146, 143, 144, 145]), (7, .istore_n 1, 0, []), (8, .aload_n 0, 0, []), (9, .iload_n 1, 0, []), (10, .invokevirtual 249, 3, [1, 54, 7, 29, 308, 305, 307, 16]), (13, .ifCond .ne 5, 2, []), (16, .iconst 0, 0, []), (17, .ireturn, 4, []), (18, .iconst 0, 0, []), (19, .istore_n 2, 0, []), (20, .iload_n 2, 0, []), (21, .aload_n 0, 0, []), (22, .getfield 18, 1, [7, 2, 755]), (25, .getfield 178, 1, [6, 1, 609]), (28, .if_icmp .ge 27, 2, []), (31, .iload_n 1, 0, []), (32, .iconst 1, 0, []), (33, .iload_n 2, 0, []), (34, .ishl, 0, []), (35, .iconst (-1), 0, []), (36, .ixor, 0, []), (37, .iand, 0, []), (38, .istore_n 3, 0, []), (39, .aload_n 0, 0, []), (40, .iload_n 3, 0, []), (41, .invokevirtual 249, 3, [1, 54, 7, 29, 308, 305, 307, 16]), (44, .ifCond .eq 5, 2, []), (47, .iload_n 3, 0, []), (48, .istore_n 1, 0, []), (49, .iinc 2 1, 0, []), (52, .goto (-32), 2, []), (55, .iload_n 1, 0, []), (56, .ireturn, 4, [])]
def xm18 : XM := (⟨"PackWright", "core", "()I"⟩, prog_1_method_21_code, 4, (some .int), { frames := 7, cells := 0, slots := 0, locals := 158 }, [], xm18c, 1)
def xm19c : List XI := [(0, .aload_n 0, 0, []), (1, .iload_n 1, 0, []), (2, .invokevirtual 78, 3, [1, 43, 7, 29, 126, 122, 124, 1]), (5, .pop, 0, []), (6, .aload_n 0, 0, []), (7, .invokevirtual 243, 3, [1, 56, 7, 29, 289, 286, 288, 14]), (10, .aload_n 0, 0, []), (11, .getfield 42, 1, [7, 6, 759]), (14, .getfield 246, 1, [1, 0, 689]), (17, .iload_n 1, 0, []), (18, .iaload, 1, []), (19, .ireturn, 4, [])]
def xm19 : XM := (⟨"PackWright", "depth", "(I)I"⟩, prog_1_method_22_code, 2, (some .int), { frames := 4, cells := 0, slots := 0, locals := 91 }, [], xm19c, 2)
def xm20c : List XI := [(0, .aload_n 0, 0, []), (1, .iload_n 1, 0, []), (2, .invokevirtual 78, 3, [1, 43, 7, 29, 126, 122, 124, 1]), (5, .pop, 0, []), (6, .iload_n 2, 0, []), (7, .ifCond .ge 13, 2, []), (10, .new 86, 5, [1, 252, 90, 0, 52, 42, 96, 317]), (20, .aload_n 0, 0, []), (21, .invokevirtual 243, 3, [1, 56, 7, 29, 289, 286, 288, 14]), (24, .aload_n 0, 0, []), (25, .getfield 42, 1, [7, 6, 759]), (28, .iload_n 1, 0, []), (29, .iload_n 2, 0, []), (30, .invokevirtual 254, 3, [1, 72, 1, 33, 321, 318, 319, 320]), (33, .ireturn, 4, [])]
def xm20 : XM := (⟨"PackWright", "chainAt", "(II)I"⟩, prog_1_method_23_code, 3, (some .int), { frames := 4, cells := 0, slots := 0, locals := 91 }, [], xm20c, 3)
def xm21c : List XI := [(0, .aload_n 0, 0, []), (1, .iload_n 1, 0, []), (2, .invokevirtual 78, 3, [1, 43, 7, 29, 126, 122, 124, 1]), (5, .pop, 0, []), (6, .aload_n 0, 0, []), (7, .getfield 25, 1, [7, 3, 756]), (10, .aload_n 0, 0, []), (11, .getfield 18, 1, [7, 2, 755]), (14, .invokevirtual 231, 3, [1, 79, 2, 31, 154, 151, 152, 153]), (17, .iconst 0, 0, []), (18, .istore_n 2, 0, []), (19, .iconst 0, 0, []), (20, .istore_n 3, 0, []), (21, .iload_n 3, 0, []), (22, .bipush 12, 0, []), (24, .if_icmp .ge 27, 2, []), (27, .aload_n 0, 0, []), (28, .getfield 25, 1, [7, 3, 756]), (31, .iload_n 3, 0, []), (32, .invokevirtual 257, 3, [1, 86, 2, 31, 182, 547, 180, 181]), (35, .iload_n 1, 0, []), (36, .invokestatic 261, 3, [0, 61, 0, 29, 178, 204, 177, 0]), (39, .ifCond .eq 6, 2, []), (42, .iinc 2 1, 0, []), (45, .iinc 3 1, 0, []), (48, .goto (-27), 2, []), (51, .iload_n 2, 0, []), (52, .ireturn, 4, [])]
def xm21 : XM := (⟨"PackWright", "neededBy", "(I)I"⟩, prog_1_method_24_code, 4, (some .int), { frames := 3, cells := 0, slots := 0, locals := 68 }, [], xm21c, 2)
def xm22c : List XI := [(0, .aload_n 0, 0, []), (1, .iload_n 1, 0, []), (2, .invokevirtual 78, 3, [1, 43, 7, 29, 126, 122, 124, 1]), (5, .invokevirtual 265, 3, [1, 96, 3, 40, 329, 326, 327, 328]), (8, .astore_n 2, 0, []), (9, .aload_n 0, 0, []), (10, .getfield 25, 1, [7, 3, 756]), (13, .getfield 221, 1, [2, 0, 628]), (16, .iload_n 1, 0, []), (17, .aaload, 1, []), (18, .astore_n 3, 0, []), (19, .aload_n 3, 0, []), (20, .ifnull 18, 2, []), (23, .aload_n 2, 0, []), (24, .ifnull 14, 2, []), (27, .aload_n 2, 0, []), (28, .getfield 268, 1, [10, 1, 897]), (31, .aload_n 3, 0, []), (32, .getfield 268, 1, [10, 1, 897]), (35, .if_icmp .gt 5, 2, []), (38, .iconst (-1), 0, []), (39, .ireturn, 4, []), (40, .aload_n 2, 0, []), (41, .getfield 171, 1, [10, 0, 893]), (44, .ireturn, 4, [])]
def xm22 : XM := (⟨"PackWright", "newer", "(I)I"⟩, prog_1_method_25_code, 4, (some .int), { frames := 1, cells := 0, slots := 0, locals := 21 }, [], xm22c, 2)
def xm23c : List XI := [(0, .aload_n 0, 0, []), (1, .iload_n 1, 0, []), (2, .invokevirtual 78, 3, [1, 43, 7, 29, 126, 122, 124, 1]), (5, .pop, 0, []), (6, .aload_n 0, 0, []), (7, .aload_n 0, 0, []), (8, .getfield 18, 1, [7, 2, 755]), (11, .invokevirtual 191, 3, [1, 123, 6, 30, 146, 143, 144, 145]), (14, .aload_n 0, 0, []), (15, .iconst 2, 0, []), (16, .iload_n 1, 0, []), (17, .invokevirtual 195, 3, [1, 53, 7, 29, 150, 147, 149, 2]), (20, .invokevirtual 198, 3, [1, 55, 7, 29, 186, 183, 185, 5]), (23, .istore_n 2, 0, []), (24, .iload_n 2, 0, []), (25, .ifCond .ne 20, 2, []), (28, .aload_n 0, 0, []), (29, .getfield 25, 1, [7, 3, 756]), (32, .aload_n 0, 0, []), (33, .getfield 35, 1, [7, 5, 758]), (36, .getfield 207, 1, [5, 1, 649]), (39, .invokevirtual 210, 3, [1, 76, 2, 31, 264, 261, 262, 263]), (42, .goto 4, 2, []), (45, .iload_n 2, 0, []), (46, .ireturn, 4, [])]
def xm23 : XM := (⟨"PackWright", "wouldChange", "(I)I"⟩, prog_1_method_26_code, 3, (some .int), { frames := 6, cells := 0, slots := 0, locals := 137 }, [], xm23c, 2)
def xm24c : List XI := [(0, .iload_n 1, 0, []), (1, .invokestatic 271, 3, [0, 50, 0, 29, 340, 338, 339, 0]), (4, .aload_n 0, 0, []), (5, .getfield 63, 1, [7, 10, 763]), (8, .istore_n 2, 0, []), (9, .aload_n 0, 0, []), (10, .iload_n 1, 0, []), (11, .putfield 63, 1, [7, 10, 763]), (14, .iload_n 2, 0, []), (15, .ireturn, 4, [])]
def xm24 : XM := (⟨"PackWright", "setDisk", "(I)I"⟩, prog_1_method_27_code, 3, (some .int), { frames := 1, cells := 0, slots := 0, locals := 20 }, [], xm24c, 2)
def xm25c : List XI := [(0, .iload_n 1, 0, []), (1, .invokestatic 271, 3, [0, 50, 0, 29, 340, 338, 339, 0]), (4, .aload_n 0, 0, []), (5, .getfield 56, 1, [7, 8, 761]), (8, .getfield 274, 1, [0, 3, 743]), (11, .istore_n 2, 0, []), (12, .aload_n 0, 0, []), (13, .getfield 56, 1, [7, 8, 761]), (16, .iload_n 1, 0, []), (17, .putfield 274, 1, [0, 3, 743]), (20, .aload_n 0, 0, []), (21, .getfield 56, 1, [7, 8, 761]), (24, .invokevirtual 277, 3, [1, 68, 0, 35, 349, 346, 347, 348]), (27, .iload_n 2, 0, []), (28, .ireturn, 4, [])]
def xm25 : XM := (⟨"PackWright", "setCache", "(I)I"⟩, prog_1_method_28_code, 3, (some .int), { frames := 1, cells := 0, slots := 0, locals := 20 }, [], xm25c, 2)
def xm26c : List XI := [(0, .aload_n 0, 0, []), (1, .getfield 25, 1, [7, 3, 756]), (4, .aload_n 0, 0, []), (5, .getfield 18, 1, [7, 2, 755]), (8, .invokevirtual 231, 3, [1, 79, 2, 31, 154, 151, 152, 153]), (11, .aload_n 0, 0, []), (12, .getfield 29, 1, [7, 4, 757]), (15, .aload_n 0, 0, []), (16, .getfield 18, 1, [7, 2, 755]), (19, .invokevirtual 231, 3, [1, 79, 2, 31, 154, 151, 152, 153]), (22, .aload_n 0, 0, []), (23, .getfield 49, 1, [7, 7, 760]), (26, .aload_n 0, 0, []), (27, .getfield 29, 1, [7, 4, 757]), (30, .aload_n 0, 0, []), (31, .getfield 25, 1, [7, 3, 756]), (34, .invokevirtual 280, 3, [1, 99, 4, 34, 357, 354, 355, 356]), (37, .aload_n 0, 0, []), (38, .getfield 49, 1, [7, 7, 760]), (41, .getfield 284, 1, [4, 1, 711]), (44, .ireturn, 4, [])]
def xm26 : XM := (⟨"PackWright", "plan", "()I"⟩, prog_1_method_29_code, 1, (some .int), { frames := 5, cells := 0, slots := 0, locals := 119 }, [], xm26c, 1)
def xm27c : List XI := [(0, .aload_n 0, 0, []), (1, .getfield 49, 1, [7, 7, 760]), (4, .getfield 284, 1, [4, 1, 711]), (7, .ireturn, 4, [])]
def xm27 : XM := (⟨"PackWright", "steps", "()I"⟩, prog_1_method_30_code, 1, (some .int), { frames := 0, cells := 0, slots := 0, locals := 0 }, [], xm27c, 1)
def xm28c : List XI := [(0, .aload_n 0, 0, []), (1, .iload_n 1, 0, []), (2, .invokevirtual 285, 3, [1, 51, 7, 29, 567, 564, 566, 25]), (5, .aload_n 0, 0, []), (6, .getfield 49, 1, [7, 7, 760]), (9, .getfield 288, 1, [4, 3, 715]), (12, .iload_n 1, 0, []), (13, .iaload, 1, []), (14, .ireturn, 4, [])]
def xm28 : XM := (⟨"PackWright", "kindOf", "(I)I"⟩, prog_1_method_31_code, 2, (some .int), { frames := 1, cells := 0, slots := 0, locals := 21 }, [], xm28c, 2)
def xm29c : List XI := [(0, .aload_n 0, 0, []), (1, .iload_n 1, 0, []), (2, .invokevirtual 285, 3, [1, 51, 7, 29, 567, 564, 566, 25]), (5, .aload_n 0, 0, []), (6, .getfield 49, 1, [7, 7, 760]), (9, .getfield 291, 1, [4, 4, 717]), (12, .iload_n 1, 0, []), (13, .iaload, 1, []), (14, .ireturn, 4, [])]
def xm29 : XM := (⟨"PackWright", "packageOf", "(I)I"⟩, prog_1_method_32_code, 2, (some .int), { frames := 1, cells := 0, slots := 0, locals := 21 }, [], xm29c, 2)
def xm30c : List XI := [(0, .iload_n 1, 0, []), (1, .ifCond .ge 14, 2, []), (4, .new 86, 5, [1, 293, 90, 1, 52, 42, 96, 389]), (15, .aload_n 0, 0, []), (16, .invokevirtual 295, 3, [1, 52, 7, 29, 393, 390, 392, 20]), (19, .iload_n 1, 0, []), (20, .aload_n 0, 0, []), (21, .getfield 49, 1, [7, 7, 760]), (24, .getfield 284, 1, [4, 1, 711]), (27, .aload_n 0, 0, []), (28, .getfield 49, 1, [7, 7, 760]), (31, .getfield 298, 1, [4, 2, 713]), (34, .isub, 0, []), (35, .invokestatic 301, 10, [0, 410, 411, 412, 47]), (38, .istore_n 2, 0, []), (39, .iload_n 2, 0, []), (40, .ifCond .le 16, 2, []), (43, .aload_n 0, 0, []), (44, .invokevirtual 306, 3, [1, 57, 7, 29, 416, 413, 415, 21]), (47, .ifCond .eq 9, 2, []), (50, .iinc 2 (-1), 0, []), (53, .goto (-14), 2, []), (56, .aload_n 0, 0, []), (57, .getfield 49, 1, [7, 7, 760]), (60, .getfield 298, 1, [4, 2, 713]), (63, .ireturn, 4, [])]
def xm30 : XM := (⟨"PackWright", "run", "(I)I"⟩, prog_1_method_33_code, 3, (some .int), { frames := 3, cells := 0, slots := 0, locals := 68 }, [], xm30c, 2)
def xm31c : List XI := [(0, .aload_n 0, 0, []), (1, .invokevirtual 295, 3, [1, 52, 7, 29, 393, 390, 392, 20]), (4, .aload_n 0, 0, []), (5, .getfield 49, 1, [7, 7, 760]), (8, .getfield 298, 1, [4, 2, 713]), (11, .istore_n 1, 0, []), (12, .aload_n 0, 0, []), (13, .getfield 49, 1, [7, 7, 760]), (16, .aload_n 0, 0, []), (17, .getfield 29, 1, [7, 4, 757]), (20, .invokevirtual 310, 3, [1, 104, 4, 34, 446, 443, 444, 445]), (23, .aload_n 0, 0, []), (24, .getfield 49, 1, [7, 7, 760]), (27, .invokevirtual 218, 3, [1, 98, 4, 34, 272, 269, 270, 271]), (30, .iload_n 1, 0, []), (31, .ireturn, 4, [])]
def xm31 : XM := (⟨"PackWright", "rollBack", "()I"⟩, prog_1_method_34_code, 2, (some .int), { frames := 1, cells := 0, slots := 0, locals := 22 }, [], xm31c, 1)
def xm32c : List XI := [(0, .aload_n 0, 0, []), (1, .iload_n 1, 0, []), (2, .invokevirtual 78, 3, [1, 43, 7, 29, 126, 122, 124, 1]), (5, .pop, 0, []), (6, .aload_n 0, 0, []), (7, .getfield 29, 1, [7, 4, 757]), (10, .getfield 221, 1, [2, 0, 628]), (13, .iload_n 1, 0, []), (14, .aaload, 1, []), (15, .invokestatic 225, 3, [0, 59, 0, 29, 453, 451, 452, 0]), (18, .ireturn, 4, [])]
def xm32 : XM := (⟨"PackWright", "installed", "(I)I"⟩, prog_1_method_35_code, 2, (some .int), { frames := 1, cells := 0, slots := 0, locals := 21 }, [], xm32c, 2)
def xm33c : List XI := [(0, .aload_n 0, 0, []), (1, .getfield 29, 1, [7, 4, 757]), (4, .invokevirtual 313, 3, [1, 78, 2, 31, 420, 417, 418, 419]), (7, .ireturn, 4, [])]
def xm33 : XM := (⟨"PackWright", "taken", "()I"⟩, prog_1_method_36_code, 1, (some .int), { frames := 2, cells := 0, slots := 0, locals := 42 }, [], xm33c, 1)
def xm34c : List XI := [(0, .aload_n 0, 0, []), (1, .getfield 56, 1, [7, 8, 761]), (4, .getfield 316, 1, [0, 2, 741]), (7, .ireturn, 4, [])]
def xm34 : XM := (⟨"PackWright", "cached", "()I"⟩, prog_1_method_37_code, 1, (some .int), { frames := 0, cells := 0, slots := 0, locals := 0 }, [], xm34c, 1)
def xm35c : List XI := [(0, .aload_n 0, 0, []), (1, .getfield 56, 1, [7, 8, 761]), (4, .aload_n 0, 0, []), (5, .iload_n 1, 0, []), (6, .iload_n 2, 0, []), (7, .invokevirtual 154, 3, [1, 44, 7, 29, 557, 554, 556, 24]), (10, .invokevirtual 319, 3, [1, 65, 0, 35, 432, 559, 430, 431]), (13, .ireturn, 4, [])]
def xm35 : XM := (⟨"PackWright", "ageOf", "(II)I"⟩, prog_1_method_38_code, 3, (some .int), { frames := 2, cells := 0, slots := 0, locals := 44 }, [], xm35c, 3)
def xm36c : List XI := [(0, .aload_n 0, 0, []), (1, .getfield 322, 1, [7, 12, 765]), (4, .ireturn, 4, [])]
def xm36 : XM := (⟨"PackWright", "fetched", "()I"⟩, prog_1_method_39_code, 1, (some .int), { frames := 0, cells := 0, slots := 0, locals := 0 }, [], xm36c, 1)
def xm37c : List XI := [(0, .aload_n 0, 0, []), (1, .getfield 60, 1, [7, 9, 762]), (4, .aload_n 0, 0, []), (5, .getfield 56, 1, [7, 8, 761]), (8, .invokevirtual 325, 3, [1, 64, 0, 35, 473, 470, 471, 472]), (11, .iconst 0, 0, []), (12, .istore_n 1, 0, []), (13, .aload_n 0, 0, []), (14, .getfield 49, 1, [7, 7, 760]), (17, .getfield 298, 1, [4, 2, 713]), (20, .istore_n 2, 0, []), (21, .iload_n 2, 0, []), (22, .aload_n 0, 0, []), (23, .getfield 49, 1, [7, 7, 760]), (26, .getfield 284, 1, [4, 1, 711]), (29, .if_icmp .ge 49, 2, []), (32, .aload_n 0, 0, []), (33, .getfield 25, 1, [7, 3, 756]), (36, .getfield 221, 1, [2, 0, 628]), (39, .aload_n 0, 0, []), (40, .getfield 49, 1, [7, 7, 760]), (43, .getfield 291, 1, [4, 4, 717]), (46, .iload_n 2, 0, []), (47, .iaload, 1, []), (48, .aaload, 1, []), (49, .astore_n 3, 0, []), (50, .aload_n 3, 0, []), (51, .ifnull 21, 2, []), (54, .aload_n 0, 0, []), (55, .getfield 60, 1, [7, 9, 762]), (58, .aload_n 3, 0, []), (59, .invokevirtual 328, 3, [1, 66, 0, 35, 428, 425, 426, 427]), (62, .ifCond .eq 10, 2, []), (65, .iload_n 1, 0, []), (66, .aload_n 3, 0, []), (67, .getfield 332, 1, [10, 2, 900]), (70, .iadd, 0, []), (71, .istore_n 1, 0, []), (72, .iinc 2 1, 0, []), (75, .goto (-54), 2, []), (78, .iload_n 1, 0, []), (79, .ireturn, 4, [])]
def xm37 : XM := (⟨"PackWright", "wouldFetch", "()I"⟩, prog_1_method_40_code, 4, (some .int), { frames := 2, cells := 0, slots := 0, locals := 45 }, [], xm37c, 1)
def xm38c : List XI := [(0, .aload_n 0, 0, []), (1, .getfield 29, 1, [7, 4, 757]), (4, .invokevirtual 313, 3, [1, 78, 2, 31, 420, 417, 418, 419]), (7, .istore_n 1, 0, []), (8, .iload_n 1, 0, []), (9, .istore_n 2, 0, []), (10, .aload_n 0, 0, []), (11, .getfield 49, 1, [7, 7, 760]), (14, .getfield 298, 1, [4, 2, 713]), (17, .istore_n 3, 0, []), (18, .iload_n 3, 0, []), (19, .aload_n 0, 0, []), (20, .getfield 49, 1, [7, 7, 760]), (23, .getfield 284, 1, [4, 1, 711]), (26, .if_icmp .ge 56, 2, []), (29, .aload_n 0, 0, []), (30, .getfield 49, 1, [7, 7, 760]), (33, .getfield 291, 1, [4, 4, 717]), (36, .iload_n 3, 0, []), (37, .iaload, 1, []), (38, .istore 4, 0, []), (40, .iload_n 1, 0, []), (41, .aload_n 0, 0, []), (42, .getfield 25, 1, [7, 3, 756]), (45, .getfield 221, 1, [2, 0, 628]), (48, .iload 4, 0, []), (50, .aaload, 1, []), (51, .invokestatic 335, 3, [0, 60, 0, 29, 423, 424, 422, 0]), (54, .aload_n 0, 0, []), (55, .getfield 29, 1, [7, 4, 757]), (58, .getfield 221, 1, [2, 0, 628]), (61, .iload 4, 0, []), (63, .aaload, 1, []), (64, .invokestatic 335, 3, [0, 60, 0, 29, 423, 424, 422, 0]), (67, .isub, 0, []), (68, .iadd, 0, []), (69, .istore_n 1, 0, []), (70, .iload_n 2, 0, []), (71, .iload_n 1, 0, []), (72, .invokestatic 338, 10, [1, 478, 479, 480, 47]), (75, .istore_n 2, 0, []), (76, .iinc 3 1, 0, []), (79, .goto (-61), 2, []), (82, .iload_n 2, 0, []), (83, .ireturn, 4, [])]
def xm38 : XM := (⟨"PackWright", "roomNeeded", "()I"⟩, prog_1_method_41_code, 5, (some .int), { frames := 2, cells := 0, slots := 0, locals := 42 }, [], xm38c, 1)
def xm39c : List XI := [(0, .aload_n 0, 0, []), (1, .getfield 25, 1, [7, 3, 756]), (4, .aload_n 0, 0, []), (5, .getfield 29, 1, [7, 4, 757]), (8, .invokevirtual 210, 3, [1, 76, 2, 31, 264, 261, 262, 263]), (11, .ifCond .ne 7, 2, []), (14, .iconst 1, 0, []), (15, .goto 4, 2, []), (18, .iconst 0, 0, []), (19, .ireturn, 4, [])]
def xm39 : XM := (⟨"PackWright", "isInstalled", "()Z"⟩, prog_1_method_42_code, 1, (some .boolean), { frames := 1, cells := 0, slots := 0, locals := 23 }, [], xm39c, 1)
def xm40c : List XI := [(0, .ldc2_w 342, 0, [58044, 489]), (3, .lstore_n 1, 0, []), (4, .lload_n 1, 0, []), (5, .aload_n 0, 0, []), (6, .invokevirtual 344, 3, [1, 6, 7, 29, 493, 490, 491, 492]), (9, .invokestatic 347, 3, [0, 41, 0, 29, 496, 494, 495, 0]), (12, .lstore_n 1, 0, []), (13, .lload_n 1, 0, []), (14, .aload_n 0, 0, []), (15, .invokevirtual 351, 3, [1, 10, 7, 29, 501, 498, 499, 500]), (18, .invokestatic 347, 3, [0, 41, 0, 29, 496, 494, 495, 0]), (21, .lstore_n 1, 0, []), (22, .lload_n 1, 0, []), (23, .aload_n 0, 0, []), (24, .invokevirtual 354, 3, [1, 12, 7, 29, 505, 502, 503, 504]), (27, .invokestatic 347, 3, [0, 41, 0, 29, 496, 494, 495, 0]), (30, .lstore_n 1, 0, []), (31, .lload_n 1, 0, []), (32, .aload_n 0, 0, []), (33, .invokevirtual 357, 3, [1, 14, 7, 29, 509, 506, 507, 508]), (36, .invokestatic 347, 3, [0, 41, 0, 29, 496, 494, 495, 0]), (39, .lstore_n 1, 0, []), (40, .lload_n 1, 0, []), (41, .aload_n 0, 0, []), (42, .invokevirtual 360, 3, [1, 16, 7, 29, 280, 514, 278, 279]), (45, .ifCond .eq 7, 2, []), (48, .iconst 1, 0, []), (49, .goto 4, 2, []), (52, .iconst 0, 0, []), (53, .invokestatic 347, 3, [0, 41, 0, 29, 496, 494, 495, 0]), (56, .lstore_n 1, 0, []), (57, .lload_n 1, 0, []), (58, .aload_n 0, 0, []), (59, .invokevirtual 363, 3, [1, 17, 7, 29, 285, 515, 283, 284]), (62, .invokestatic 347, 3, [0, 41, 0, 29, 496, 494, 495, 0]), (65, .lstore_n 1, 0, []), (66, .lload_n 1, 0, []), (67, .aload_n 0, 0, []), (68, .invokevirtual 366, 3, [1, 27, 7, 29, 384, 516, 382, 383]), (71, .invokestatic 347, 3, [0, 41, 0, 29, 496, 494, 495, 0]), (74, .lstore_n 1, 0, []), (75, .lload_n 1, 0, []), (76, .aload_n 0, 0, []), (77, .invokevirtual 369, 3, [1, 33, 7, 29, 457, 517, 455, 456]), (80, .invokestatic 347, 3, [0, 41, 0, 29, 496, 494, 495, 0]), (83, .lstore_n 1, 0, []), (84, .lload_n 1, 0, []), (85, .aload_n 0, 0, []), (86, .invokevirtual 372, 3, [1, 34, 7, 29, 461, 518, 459, 460]), (89, .invokestatic 347, 3, [0, 41, 0, 29, 496, 494, 495, 0]), (92, .lstore_n 1, 0, []), (93, .lload_n 1, 0, []), (94, .aload_n 0, 0, []), (95, .invokevirtual 375, 3, [1, 36, 7, 29, 465, 519, 463, 464]), (98, .invokestatic 347, 3, [0, 41, 0, 29, 496, 494, 495, 0]), (101, .lstore_n 1, 0, []), (102, .lload_n 1, 0, []), (103, .aload_n 0, 0, []), (104, .invokevirtual 378, 3, [1, 37, 7, 29, 469, 520, 467, 468]), (107, .invokestatic 347, 3, [0, 41, 0, 29, 496, 494, 495, 0]), (110, .lstore_n 1, 0, []), (111, .lload_n 1, 0, []), (112, .aload_n 0, 0, []), (113, .invokevirtual 381, 3, [1, 38, 7, 29, 477, 521, 475, 476]), (116, .invokestatic 347, 3, [0, 41, 0, 29, 496, 494, 495, 0]), (119, .lstore_n 1, 0, []), (120, .lload_n 1, 0, []), (121, .aload_n 0, 0, []), (122, .invokevirtual 384, 3, [1, 39, 7, 29, 484, 522, 482, 483]), (125, .ifCond .eq 7, 2, []), (128, .iconst 1, 0, []), (129, .goto 4, 2, []), (132, .iconst 0, 0, []), (133, .invokestatic 347, 3, [0, 41, 0, 29, 496, 494, 495, 0]), (136, .lstore_n 1, 0, []), (137, .iconst 0, 0, []), (138, .istore_n 3, 0, []), (139, .iload_n 3, 0, []), (140, .aload_n 0, 0, []), (141, .getfield 67, 1, [7, 1, 754]), (144, .if_icmp .ge 16, 2, []), (147, .aload_n 0, 0, []), (148, .lload_n 1, 0, []), (149, .iload_n 3, 0, []), (150, .invokevirtual 387, 3, [1, 42, 7, 29, 526, 523, 525, 23]), (153, .lstore_n 1, 0, []), (154, .iinc 3 1, 0, []), (157, .goto (-18), 2, []), (160, .iconst 0, 0, []), (161, .istore_n 3, 0, []), (162, .iload_n 3, 0, []), (163, .aload_n 0, 0, []), (164, .getfield 49, 1, [7, 7, 760]), (167, .getfield 284, 1, [4, 1, 711]), (170, .if_icmp .ge 29, 2, []), (173, .lload_n 1, 0, []), (174, .aload_n 0, 0, []), (175, .iload_n 3, 0, []), (176, .invokevirtual 390, 3, [1, 28, 7, 29, 563, 560, 561, 562]), (179, .invokestatic 347, 3, [0, 41, 0, 29, 496, 494, 495, 0]), (182, .lstore_n 1, 0, []), (183, .lload_n 1, 0, []), (184, .aload_n 0, 0, []), (185, .iload_n 3, 0, []), (186, .invokevirtual 393, 3, [1, 29, 7, 29, 572, 569, 570, 571]), (189, .invokestatic 347, 3, [0, 41, 0, 29, 496, 494, 495, 0]), (192, .lstore_n 1, 0, []), (193, .iinc 3 1, 0, []), (196, .goto (-34), 2, []), (199, .lload_n 1, 0, []), (200, .lreturn, 4, [])]
def xm40 : XM := (⟨"PackWright", "digest", "()J"⟩, prog_1_method_44_code, 4, (some .long), { frames := 6, cells := 0, slots := 0, locals := 140 }, [], xm40c, 1)
def xm41c : List XI := [(0, .lload_n 0, 0, []), (1, .ldc2_w 396, 0, [31, 497]), (4, .lmul, 0, []), (5, .iload_n 2, 0, []), (6, .i2l, 0, []), (7, .ladd, 0, []), (8, .lreturn, 4, [])]
def xm41 : XM := (⟨"PackWright", "mix", "(JI)J"⟩, prog_1_method_45_code, 3, (some .long), { frames := 0, cells := 0, slots := 0, locals := 0 }, [], xm41c, 2)
def xm42c : List XI := [(0, .aload_n 0, 0, []), (1, .iload_n 3, 0, []), (2, .invokevirtual 398, 3, [1, 7, 7, 29, 530, 527, 528, 529]), (5, .istore 4, 0, []), (7, .lload_n 1, 0, []), (8, .iload 4, 0, []), (10, .invokestatic 347, 3, [0, 41, 0, 29, 496, 494, 495, 0]), (13, .lstore 5, 0, []), (15, .iconst 0, 0, []), (16, .istore 7, 0, []), (18, .iload 7, 0, []), (20, .iload 4, 0, []), (22, .if_icmp .ge 23, 2, []), (25, .lload 5, 0, []), (27, .aload_n 0, 0, []), (28, .iload_n 3, 0, []), (29, .iload 7, 0, []), (31, .invokevirtual 401, 3, [1, 8, 7, 29, 534, 531, 532, 533]), (34, .invokestatic 347, 3, [0, 41, 0, 29, 496, 494, 495, 0]), (37, .lstore 5, 0, []), (39, .iinc 7 1, 0, []), (42, .goto (-24), 2, []), (45, .lload 5, 0, []), (47, .aload_n 0, 0, []), (48, .iload_n 3, 0, []), (49, .invokevirtual 404, 3, [1, 13, 7, 29, 540, 537, 538, 539]), (52, .invokestatic 347, 3, [0, 41, 0, 29, 496, 494, 495, 0]), (55, .lstore 5, 0, []), (57, .lload 5, 0, []), (59, .aload_n 0, 0, []), (60, .iload_n 3, 0, []), (61, .invokevirtual 407, 3, [1, 15, 7, 29, 276, 541, 274, 275]), (64, .invokestatic 347, 3, [0, 41, 0, 29, 496, 494, 495, 0]), (67, .lstore 5, 0, []), (69, .aload_n 0, 0, []), (70, .iload_n 3, 0, []), (71, .invokevirtual 410, 3, [1, 19, 7, 29, 312, 542, 310, 311]), (74, .istore 7, 0, []), (76, .lload 5, 0, []), (78, .iload 7, 0, []), (80, .invokestatic 347, 3, [0, 41, 0, 29, 496, 494, 495, 0]), (83, .lstore 5, 0, []), (85, .iconst 0, 0, []), (86, .istore 8, 0, []), (88, .iload 8, 0, []), (90, .iload 7, 0, []), (92, .if_icmp .ge 26, 2, []), (95, .lload 5, 0, []), (97, .aload_n 0, 0, []), (98, .getfield 42, 1, [7, 6, 759]), (101, .iload_n 3, 0, []), (102, .iload 8, 0, []), (104, .invokevirtual 254, 3, [1, 72, 1, 33, 321, 318, 319, 320]), (107, .invokestatic 347, 3, [0, 41, 0, 29, 496, 494, 495, 0]), (110, .lstore 5, 0, []), (112, .iinc 8 1, 0, []), (115, .goto (-27), 2, []), (118, .lload 5, 0, []), (120, .aload_n 0, 0, []), (121, .iload_n 3, 0, []), (122, .invokevirtual 413, 3, [1, 21, 7, 29, 546, 543, 544, 545]), (125, .invokestatic 347, 3, [0, 41, 0, 29, 496, 494, 495, 0]), (128, .lstore 5, 0, []), (130, .lload 5, 0, []), (132, .aload_n 0, 0, []), (133, .iload_n 3, 0, []), (134, .invokevirtual 416, 3, [1, 22, 7, 29, 325, 548, 323, 324]), (137, .invokestatic 347, 3, [0, 41, 0, 29, 496, 494, 495, 0]), (140, .lstore 5, 0, []), (142, .lload 5, 0, []), (144, .aload_n 0, 0, []), (145, .iload_n 3, 0, []), (146, .invokevirtual 419, 3, [1, 32, 7, 29, 450, 549, 448, 449]), (149, .invokestatic 347, 3, [0, 41, 0, 29, 496, 494, 495, 0]), (152, .lstore 5, 0, []), (154, .iconst 0, 0, []), (155, .istore 8, 0, []), (157, .iload 8, 0, []), (159, .iload 4, 0, []), (161, .if_icmp .ge 23, 2, []), (164, .lload 5, 0, []), (166, .aload_n 0, 0, []), (167, .iload_n 3, 0, []), (168, .iload 8, 0, []), (170, .invokevirtual 422, 3, [1, 35, 7, 29, 553, 550, 551, 552]), (173, .invokestatic 347, 3, [0, 41, 0, 29, 496, 494, 495, 0]), (176, .lstore 5, 0, []), (178, .iinc 8 1, 0, []), (181, .goto (-24), 2, []), (184, .lload 5, 0, []), (186, .lreturn, 4, [])]
def xm42 : XM := (⟨"PackWright", "mixPackage", "(JI)J"⟩, prog_1_method_46_code, 9, (some .long), { frames := 5, cells := 0, slots := 0, locals := 112 }, [], xm42c, 3)
def xm43c : List XI := [(0, .iload_n 1, 0, []), (1, .ifCond .lt 11, 2, []), (4, .iload_n 1, 0, []), (5, .aload_n 0, 0, []), (6, .getfield 67, 1, [7, 1, 754]), (9, .if_icmp .lt 14, 2, []), (12, .new 166, 5, [0, 425, 170, 1, 127, 41, 137, 136]), (23, .aload_n 0, 0, []), (24, .getfield 11, 1, [7, 0, 753]), (27, .iload_n 1, 0, []), (28, .aaload, 1, []), (29, .areturn, 4, [])]
def xm43 : XM := (⟨"PackWright", "packThatIs", "(I)LPackWright$Pack;"⟩, prog_1_method_47_code, 2, (some (.object "PackWright$Pack")), { frames := 0, cells := 0, slots := 0, locals := 0 }, [], xm43c, 2)
def xm44c : List XI := [(0, .aload_n 0, 0, []), (1, .iload_n 1, 0, []), (2, .invokevirtual 78, 3, [1, 43, 7, 29, 126, 122, 124, 1]), (5, .astore_n 3, 0, []), (6, .iload_n 2, 0, []), (7, .ifCond .lt 11, 2, []), (10, .iload_n 2, 0, []), (11, .aload_n 3, 0, []), (12, .getfield 95, 1, [3, 2, 1044]), (15, .if_icmp .lt 14, 2, []), (18, .new 166, 5, [0, 427, 170, 1, 127, 41, 137, 558]), (29, .aload_n 3, 0, []), (30, .getfield 429, 1, [3, 0, 1040]), (33, .iload_n 2, 0, []), (34, .aaload, 1, []), (35, .areturn, 4, [])]
def xm44 : XM := (⟨"PackWright", "versionThatIs", "(II)LPackWright$Version;"⟩, prog_1_method_48_code, 4, (some (.object "PackWright$Version")), { frames := 1, cells := 0, slots := 0, locals := 21 }, [], xm44c, 3)
def xm45c : List XI := [(0, .aload_n 0, 0, []), (1, .iload_n 2, 0, []), (2, .invokevirtual 78, 3, [1, 43, 7, 29, 126, 122, 124, 1]), (5, .pop, 0, []), (6, .iload_n 1, 0, []), (7, .iload_n 2, 0, []), (8, .if_icmp .ne 14, 2, []), (11, .new 86, 5, [1, 431, 90, 1, 52, 42, 96, 948]), (22, .return_, 4, [])]
def xm45 : XM := (⟨"PackWright", "requireOther", "(II)V"⟩, prog_1_method_49_code, 3, none, { frames := 1, cells := 0, slots := 0, locals := 21 }, [], xm45c, 3)
def xm46c : List XI := [(0, .iload_n 0, 0, []), (1, .invokestatic 433, 3, [0, 47, 0, 29, 870, 868, 869, 0]), (4, .ifCond .eq 17, 2, []), (7, .iload_n 1, 0, []), (8, .invokestatic 433, 3, [0, 47, 0, 29, 870, 868, 869, 0]), (11, .ifCond .eq 10, 2, []), (14, .iload_n 2, 0, []), (15, .invokestatic 433, 3, [0, 47, 0, 29, 870, 868, 869, 0]), (18, .ifCond .ne 14, 2, []), (21, .new 86, 5, [1, 436, 90, 1, 52, 42, 96, 871]), (32, .return_, 4, [])]
def xm46 : XM := (⟨"PackWright", "requireNumbers", "(III)V"⟩, prog_1_method_50_code, 3, none, { frames := 1, cells := 0, slots := 0, locals := 20 }, [], xm46c, 3)
def xm47c : List XI := [(0, .iload_n 0, 0, []), (1, .ifCond .lt 13, 2, []), (4, .iload_n 0, 0, []), (5, .bipush 100, 0, []), (7, .if_icmp .ge 7, 2, []), (10, .iconst 1, 0, []), (11, .goto 4, 2, []), (14, .iconst 0, 0, []), (15, .ireturn, 4, [])]
def xm47 : XM := (⟨"PackWright", "isNumber", "(I)Z"⟩, prog_1_method_51_code, 1, (some .boolean), { frames := 0, cells := 0, slots := 0, locals := 0 }, [], xm47c, 1)
def xm48c : List XI := [(0, .iload_n 0, 0, []), (1, .ifCond .lt 8, 2, []), (4, .iload_n 0, 0, []), (5, .iconst 5, 0, []), (6, .if_icmp .le 14, 2, []), (9, .new 86, 5, [1, 438, 90, 1, 52, 42, 96, 957]), (20, .iload_n 1, 0, []), (21, .iload_n 2, 0, []), (22, .iload_n 3, 0, []), (23, .invokestatic 82, 3, [0, 46, 0, 29, 867, 865, 866, 0]), (26, .return_, 4, [])]
def xm48 : XM := (⟨"PackWright", "requireRange", "(IIII)V"⟩, prog_1_method_52_code, 4, none, { frames := 2, cells := 0, slots := 0, locals := 42 }, [], xm48c, 4)
def xm49c : List XI := [(0, .iload_n 0, 0, []), (1, .ifCond .lt 9, 2, []), (4, .iload_n 0, 0, []), (5, .bipush 15, 0, []), (7, .if_icmp .le 14, 2, []), (10, .new 86, 5, [1, 440, 90, 1, 52, 42, 96, 953]), (21, .return_, 4, [])]
def xm49 : XM := (⟨"PackWright", "requireFeatures", "(I)V"⟩, prog_1_method_53_code, 1, none, { frames := 0, cells := 0, slots := 0, locals := 0 }, [], xm49c, 1)
def xm50c : List XI := [(0, .iload_n 0, 0, []), (1, .ifCond .lt 10, 2, []), (4, .iload_n 0, 0, []), (5, .sipush 20000, 0, []), (8, .if_icmp .le 14, 2, []), (11, .new 86, 5, [1, 442, 90, 1, 52, 42, 96, 341]), (22, .return_, 4, [])]
def xm50 : XM := (⟨"PackWright", "requireRoom", "(I)V"⟩, prog_1_method_54_code, 1, none, { frames := 0, cells := 0, slots := 0, locals := 0 }, [], xm50c, 1)
def xm51c : List XI := [(0, .iload_n 1, 0, []), (1, .ifCond .lt 14, 2, []), (4, .iload_n 1, 0, []), (5, .aload_n 0, 0, []), (6, .getfield 49, 1, [7, 7, 760]), (9, .getfield 284, 1, [4, 1, 711]), (12, .if_icmp .lt 14, 2, []), (15, .new 166, 5, [0, 444, 170, 1, 127, 41, 137, 568]), (26, .return_, 4, [])]
def xm51 : XM := (⟨"PackWright", "requireStep", "(I)V"⟩, prog_1_method_55_code, 2, none, { frames := 0, cells := 0, slots := 0, locals := 0 }, [], xm51c, 2)
def xm52c : List XI := [(0, .aload_n 0, 0, []), (1, .getfield 49, 1, [7, 7, 760]), (4, .getfield 446, 1, [4, 0, 709]), (7, .ifCond .ne 14, 2, []), (10, .new 70, 5, [2, 449, 74, 1, 394, 39, 404, 403]), (21, .return_, 4, [])]
def xm52 : XM := (⟨"PackWright", "requirePlan", "()V"⟩, prog_1_method_56_code, 1, none, { frames := 0, cells := 0, slots := 0, locals := 0 }, [], xm52c, 1)
def xm53c : List XI := [(0, .iload_n 1, 0, []), (1, .iconst 1, 0, []), (2, .if_icmp .ne 7, 2, []), (5, .sipush 4095, 0, []), (8, .ireturn, 4, []), (9, .iload_n 1, 0, []), (10, .iconst 2, 0, []), (11, .if_icmp .ne 7, 2, []), (14, .iconst 1, 0, []), (15, .iload_n 2, 0, []), (16, .ishl, 0, []), (17, .ireturn, 4, []), (18, .iload_n 1, 0, []), (19, .iconst 3, 0, []), (20, .if_icmp .ne 23, 2, []), (23, .aload_n 0, 0, []), (24, .getfield 25, 1, [7, 3, 756]), (27, .aload_n 0, 0, []), (28, .getfield 18, 1, [7, 2, 755]), (31, .invokevirtual 231, 3, [1, 79, 2, 31, 154, 151, 152, 153]), (34, .aload_n 0, 0, []), (35, .getfield 25, 1, [7, 3, 756]), (38, .iload_n 2, 0, []), (39, .invokevirtual 451, 3, [1, 88, 2, 31, 171, 168, 169, 170]), (42, .ireturn, 4, []), (43, .iconst 0, 0, []), (44, .ireturn, 4, [])]
def xm53 : XM := (⟨"PackWright", "opened", "(II)I"⟩, prog_1_method_57_code, 3, (some .int), { frames := 4, cells := 0, slots := 0, locals := 90 }, [], xm53c, 3)
def xm54c : List XI := [(0, .aload_n 0, 0, []), (1, .iload_n 1, 0, []), (2, .sipush 4095, 0, []), (5, .invokevirtual 198, 3, [1, 55, 7, 29, 186, 183, 185, 5]), (8, .iconst (-1), 0, []), (9, .if_icmp .ne 7, 2, []), (12, .iconst 1, 0, []), (13, .goto 4, 2, []), (16, .iconst 0, 0, []), (17, .ireturn, 4, [])]
def xm54 : XM := (⟨"PackWright", "isHopeless", "(I)Z"⟩, prog_1_method_58_code, 2, (some .boolean), { frames := 6, cells := 0, slots := 0, locals := 137 }, [], xm54c, 2)
def xm55c : List XI := [(0, .aload_n 0, 0, []), (1, .getfield 35, 1, [7, 5, 758]), (4, .aload_n 0, 0, []), (5, .getfield 18, 1, [7, 2, 755]), (8, .iload_n 1, 0, []), (9, .invokevirtual 454, 3, [1, 109, 5, 32, 190, 187, 188, 189]), (12, .iconst 0, 0, []), (13, .istore_n 3, 0, []), (14, .iload_n 3, 0, []), (15, .aload_n 0, 0, []), (16, .getfield 67, 1, [7, 1, 754]), (19, .if_icmp .ge 44, 2, []), (22, .aload_n 0, 0, []), (23, .getfield 35, 1, [7, 5, 758]), (26, .iload_n 3, 0, []), (27, .aload_n 0, 0, []), (28, .getfield 11, 1, [7, 0, 753]), (31, .iload_n 3, 0, []), (32, .aaload, 1, []), (33, .iload_n 2, 0, []), (34, .iload_n 3, 0, []), (35, .invokestatic 261, 3, [0, 61, 0, 29, 178, 204, 177, 0]), (38, .ifCond .eq 7, 2, []), (41, .aconst_null, 0, []), (42, .goto 12, 2, []), (45, .aload_n 0, 0, []), (46, .getfield 25, 1, [7, 3, 756]), (49, .getfield 221, 1, [2, 0, 628]), (52, .iload_n 3, 0, []), (53, .aaload, 1, []), (54, .invokevirtual 458, 3, [1, 110, 5, 32, 208, 205, 206, 207]), (57, .iinc 3 1, 0, []), (60, .goto (-46), 2, []), (63, .aload_n 0, 0, []), (64, .getfield 35, 1, [7, 5, 758]), (67, .invokevirtual 462, 3, [1, 111, 5, 32, 221, 218, 219, 220]), (70, .ireturn, 4, [])]
def xm55 : XM := (⟨"PackWright", "search", "(II)I"⟩, prog_1_method_59_code, 4, (some .int), { frames := 5, cells := 0, slots := 0, locals := 114 }, [], xm55c, 3)
def xm56c : List XI := [(0, .aload_n 0, 0, []), (1, .getfield 25, 1, [7, 3, 756]), (4, .aload_n 0, 0, []), (5, .getfield 18, 1, [7, 2, 755]), (8, .invokevirtual 231, 3, [1, 79, 2, 31, 154, 151, 152, 153]), (11, .aload_n 0, 0, []), (12, .getfield 42, 1, [7, 6, 759]), (15, .aload_n 0, 0, []), (16, .getfield 25, 1, [7, 3, 756]), (19, .aload_n 0, 0, []), (20, .getfield 18, 1, [7, 2, 755]), (23, .invokevirtual 464, 3, [1, 70, 1, 33, 293, 290, 291, 292]), (26, .return_, 4, [])]
def xm56 : XM := (⟨"PackWright", "layChains", "()V"⟩, prog_1_method_60_code, 1, none, { frames := 3, cells := 0, slots := 0, locals := 71 }, [], xm56c, 1)
def xm57c : List XI := [(0, .aload_n 0, 0, []), (1, .getfield 49, 1, [7, 7, 760]), (4, .getfield 298, 1, [4, 2, 713]), (7, .aload_n 0, 0, []), (8, .getfield 49, 1, [7, 7, 760]), (11, .getfield 284, 1, [4, 1, 711]), (14, .if_icmp .lt 5, 2, []), (17, .iconst 0, 0, []), (18, .ireturn, 4, []), (19, .aload_n 0, 0, []), (20, .getfield 49, 1, [7, 7, 760]), (23, .getfield 291, 1, [4, 4, 717]), (26, .aload_n 0, 0, []), (27, .getfield 49, 1, [7, 7, 760]), (30, .getfield 298, 1, [4, 2, 713]), (33, .iaload, 1, []), (34, .istore_n 1, 0, []), (35, .aload_n 0, 0, []), (36, .getfield 25, 1, [7, 3, 756]), (39, .getfield 221, 1, [2, 0, 628]), (42, .iload_n 1, 0, []), (43, .aaload, 1, []), (44, .astore_n 2, 0, []), (45, .aload_n 2, 0, []), (46, .ifnull 60, 2, []), (49, .aload_n 0, 0, []), (50, .getfield 29, 1, [7, 4, 757]), (53, .invokevirtual 313, 3, [1, 78, 2, 31, 420, 417, 418, 419]), (56, .aload_n 0, 0, []), (57, .getfield 29, 1, [7, 4, 757]), (60, .getfield 221, 1, [2, 0, 628]), (63, .iload_n 1, 0, []), (64, .aaload, 1, []), (65, .invokestatic 335, 3, [0, 60, 0, 29, 423, 424, 422, 0]), (68, .isub, 0, []), (69, .aload_n 2, 0, []), (70, .getfield 332, 1, [10, 2, 900]), (73, .iadd, 0, []), (74, .istore_n 3, 0, []), (75, .iload_n 3, 0, []), (76, .aload_n 0, 0, []), (77, .getfield 63, 1, [7, 10, 763]), (80, .if_icmp .le 5, 2, []), (83, .iconst 0, 0, []), (84, .ireturn, 4, []), (85, .aload_n 0, 0, []), (86, .getfield 56, 1, [7, 8, 761]), (89, .aload_n 2, 0, []), (90, .invokevirtual 328, 3, [1, 66, 0, 35, 428, 425, 426, 427]), (93, .ifCond .eq 13, 2, []), (96, .aload_n 0, 0, []), (97, .dup, 0, []), (98, .getfield 322, 1, [7, 12, 765]), (101, .iconst 1, 0, []), (102, .iadd, 0, []), (103, .putfield 322, 1, [7, 12, 765]), (106, .aload_n 0, 0, []), (107, .getfield 29, 1, [7, 4, 757]), (110, .getfield 221, 1, [2, 0, 628]), (113, .iload_n 1, 0, []), (114, .aload_n 2, 0, []), (115, .aastore, 1, []), (116, .aload_n 0, 0, []), (117, .getfield 49, 1, [7, 7, 760]), (120, .dup, 0, []), (121, .getfield 298, 1, [4, 2, 713]), (124, .iconst 1, 0, []), (125, .iadd, 0, []), (126, .putfield 298, 1, [4, 2, 713]), (129, .iconst 1, 0, []), (130, .ireturn, 4, [])]
def xm57 : XM := (⟨"PackWright", "doNextStep", "()Z"⟩, prog_1_method_61_code, 4, (some .boolean), { frames := 2, cells := 0, slots := 0, locals := 45 }, [], xm57c, 1)
def xm58c : List XI := [(0, .iload_n 0, 0, []), (1, .sipush 10000, 0, []), (4, .imul, 0, []), (5, .iload_n 1, 0, []), (6, .bipush 100, 0, []), (8, .imul, 0, []), (9, .iadd, 0, []), (10, .iload_n 2, 0, []), (11, .iadd, 0, []), (12, .ireturn, 4, [])]
def xm58 : XM := (⟨"PackWright", "markOf", "(III)I"⟩, prog_1_method_62_code, 3, (some .int), { frames := 0, cells := 0, slots := 0, locals := 0 }, [], xm58c, 3)
def xm59c : List XI := [(0, .aload_n 0, 0, []), (1, .ifnonnull 7, 2, []), (4, .iconst (-1), 0, []), (5, .goto 7, 2, []), (8, .aload_n 0, 0, []), (9, .getfield 171, 1, [10, 0, 893]), (12, .ireturn, 4, [])]
def xm59 : XM := (⟨"PackWright", "numberOf", "(LPackWright$Version;)I"⟩, prog_1_method_63_code, 1, (some .int), { frames := 0, cells := 0, slots := 0, locals := 0 }, [], xm59c, 1)
def xm60c : List XI := [(0, .aload_n 0, 0, []), (1, .ifnonnull 7, 2, []), (4, .iconst 0, 0, []), (5, .goto 7, 2, []), (8, .aload_n 0, 0, []), (9, .getfield 332, 1, [10, 2, 900]), (12, .ireturn, 4, [])]
def xm60 : XM := (⟨"PackWright", "sizeOf", "(LPackWright$Version;)I"⟩, prog_1_method_64_code, 1, (some .int), { frames := 0, cells := 0, slots := 0, locals := 0 }, [], xm60c, 1)
def xm61c : List XI := [(0, .iload_n 0, 0, []), (1, .iload_n 1, 0, []), (2, .ishr, 0, []), (3, .iconst 1, 0, []), (4, .iand, 0, []), (5, .ifCond .eq 7, 2, []), (8, .iconst 1, 0, []), (9, .goto 4, 2, []), (12, .iconst 0, 0, []), (13, .ireturn, 4, [])]
def xm61 : XM := (⟨"PackWright", "isIn", "(II)Z"⟩, prog_1_method_65_code, 2, (some .boolean), { frames := 0, cells := 0, slots := 0, locals := 0 }, [], xm61c, 2)
def xm62c : List XI := [(0, .iconst 0, 0, []), (1, .istore_n 1, 0, []), (2, .iload_n 1, 0, []), (3, .bipush 12, 0, []), (5, .if_icmp .ge 19, 2, []), (8, .iload_n 0, 0, []), (9, .iload_n 1, 0, []), (10, .invokestatic 261, 3, [0, 61, 0, 29, 178, 204, 177, 0]), (13, .ifCond .eq 5, 2, []), (16, .iload_n 1, 0, []), (17, .ireturn, 4, []), (18, .iinc 1 1, 0, []), (21, .goto (-19), 2, []), (24, .iconst (-1), 0, []), (25, .ireturn, 4, [])]
def xm62 : XM := (⟨"PackWright", "smallestOf", "(I)I"⟩, prog_1_method_66_code, 2, (some .int), { frames := 1, cells := 0, slots := 0, locals := 21 }, [], xm62c, 1)
def xm63c : List XI := [(0, .aload_n 0, 0, []), (1, .invokespecial 3, 6, [736, 78, 79]), (4, .aload_n 0, 0, []), (5, .bipush 96, 0, []), (7, .anewarray 9, 1, [3, 737]), (10, .putfield 11, 1, [0, 0, 738]), (13, .aload_n 0, 0, []), (14, .sipush 2000, 0, []), (17, .putfield 17, 1, [0, 3, 742]), (20, .return_, 4, [])]
def xm63 : XM := (⟨"PackWright$Cache", "<init>", "()V"⟩, prog_2_method_1_code, 1, none, { frames := 1, cells := 1, slots := 96, locals := 20 }, [], xm63c, 1)
def xm64c : List XI := [(0, .iconst 0, 0, []), (1, .istore_n 2, 0, []), (2, .iload_n 2, 0, []), (3, .aload_n 1, 0, []), (4, .getfield 21, 1, [0, 1, 739]), (7, .if_icmp .ge 21, 2, []), (10, .aload_n 0, 0, []), (11, .getfield 11, 1, [0, 0, 738]), (14, .iload_n 2, 0, []), (15, .aload_n 1, 0, []), (16, .getfield 11, 1, [0, 0, 738]), (19, .iload_n 2, 0, []), (20, .aaload, 1, []), (21, .aastore, 1, []), (22, .iinc 2 1, 0, []), (25, .goto (-23), 2, []), (28, .aload_n 0, 0, []), (29, .aload_n 1, 0, []), (30, .getfield 21, 1, [0, 1, 739]), (33, .putfield 21, 1, [0, 1, 739]), (36, .aload_n 0, 0, []), (37, .aload_n 1, 0, []), (38, .getfield 24, 1, [0, 2, 740]), (41, .putfield 24, 1, [0, 2, 740]), (44, .aload_n 0, 0, []), (45, .aload_n 1, 0, []), (46, .getfield 17, 1, [0, 3, 742]), (49, .putfield 17, 1, [0, 3, 742]), (52, .return_, 4, [])]
def xm64 : XM := (⟨"PackWright$Cache", "become", "(LPackWright$Cache;)V"⟩, prog_2_method_2_code, 3, none, { frames := 0, cells := 0, slots := 0, locals := 0 }, [], xm64c, 2)
def xm65c : List XI := [(0, .iconst 0, 0, []), (1, .istore_n 2, 0, []), (2, .iload_n 2, 0, []), (3, .aload_n 0, 0, []), (4, .getfield 21, 1, [0, 1, 739]), (7, .if_icmp .ge 21, 2, []), (10, .aload_n 0, 0, []), (11, .getfield 11, 1, [0, 0, 738]), (14, .iload_n 2, 0, []), (15, .aaload, 1, []), (16, .aload_n 1, 0, []), (17, .if_acmp .ne 5, 2, []), (20, .iload_n 2, 0, []), (21, .ireturn, 4, []), (22, .iinc 2 1, 0, []), (25, .goto (-23), 2, []), (28, .iconst (-1), 0, []), (29, .ireturn, 4, [])]
def xm65 : XM := (⟨"PackWright$Cache", "placeOf", "(LPackWright$Version;)I"⟩, prog_2_method_3_code, 3, (some .int), { frames := 0, cells := 0, slots := 0, locals := 0 }, [], xm65c, 2)
def xm66c : List XI := [(0, .aload_n 0, 0, []), (1, .aload_n 1, 0, []), (2, .invokevirtual 27, 3, [1, 65, 0, 35, 432, 429, 430, 431]), (5, .istore_n 2, 0, []), (6, .iload_n 2, 0, []), (7, .iconst (-1), 0, []), (8, .if_icmp .eq 11, 2, []), (11, .aload_n 0, 0, []), (12, .aload_n 1, 0, []), (13, .iload_n 2, 0, []), (14, .invokevirtual 31, 3, [1, 67, 0, 35, 437, 433, 435, 22]), (17, .iconst 0, 0, []), (18, .ireturn, 4, []), (19, .aload_n 1, 0, []), (20, .getfield 35, 1, [10, 2, 899]), (23, .aload_n 0, 0, []), (24, .getfield 17, 1, [0, 3, 742]), (27, .if_icmp .gt 53, 2, []), (30, .aload_n 0, 0, []), (31, .getfield 21, 1, [0, 1, 739]), (34, .aload_n 0, 0, []), (35, .getfield 11, 1, [0, 0, 738]), (38, .arraylength, 1, []), (39, .if_icmp .ge 41, 2, []), (42, .aload_n 0, 0, []), (43, .dup, 0, []), (44, .getfield 21, 1, [0, 1, 739]), (47, .iconst 1, 0, []), (48, .iadd, 0, []), (49, .putfield 21, 1, [0, 1, 739]), (52, .aload_n 0, 0, []), (53, .dup, 0, []), (54, .getfield 24, 1, [0, 2, 740]), (57, .aload_n 1, 0, []), (58, .getfield 35, 1, [10, 2, 899]), (61, .iadd, 0, []), (62, .putfield 24, 1, [0, 2, 740]), (65, .aload_n 0, 0, []), (66, .aload_n 1, 0, []), (67, .aload_n 0, 0, []), (68, .getfield 21, 1, [0, 1, 739]), (71, .iconst 1, 0, []), (72, .isub, 0, []), (73, .invokevirtual 31, 3, [1, 67, 0, 35, 437, 433, 435, 22]), (76, .aload_n 0, 0, []), (77, .invokevirtual 38, 3, [1, 68, 0, 35, 349, 438, 347, 348]), (80, .iconst 1, 0, []), (81, .ireturn, 4, [])]
def xm66 : XM := (⟨"PackWright$Cache", "mustFetch", "(LPackWright$Version;)Z"⟩, prog_2_method_4_code, 3, (some .boolean), { frames := 1, cells := 0, slots := 0, locals := 23 }, [], xm66c, 2)
def xm67c : List XI := [(0, .iload_n 2, 0, []), (1, .istore_n 3, 0, []), (2, .iload_n 3, 0, []), (3, .ifCond .le 23, 2, []), (6, .aload_n 0, 0, []), (7, .getfield 11, 1, [0, 0, 738]), (10, .iload_n 3, 0, []), (11, .aload_n 0, 0, []), (12, .getfield 11, 1, [0, 0, 738]), (15, .iload_n 3, 0, []), (16, .iconst 1, 0, []), (17, .isub, 0, []), (18, .aaload, 1, []), (19, .aastore, 1, []), (20, .iinc 3 (-1), 0, []), (23, .goto (-21), 2, []), (26, .aload_n 0, 0, []), (27, .getfield 11, 1, [0, 0, 738]), (30, .iconst 0, 0, []), (31, .aload_n 1, 0, []), (32, .aastore, 1, []), (33, .return_, 4, [])]
def xm67 : XM := (⟨"PackWright$Cache", "putFirst", "(LPackWright$Version;I)V"⟩, prog_2_method_5_code, 4, none, { frames := 0, cells := 0, slots := 0, locals := 0 }, [], xm67c, 3)
def xm68c : List XI := [(0, .aload_n 0, 0, []), (1, .getfield 24, 1, [0, 2, 740]), (4, .aload_n 0, 0, []), (5, .getfield 17, 1, [0, 3, 742]), (8, .if_icmp .le 44, 2, []), (11, .aload_n 0, 0, []), (12, .getfield 21, 1, [0, 1, 739]), (15, .ifCond .le 37, 2, []), (18, .aload_n 0, 0, []), (19, .dup, 0, []), (20, .getfield 21, 1, [0, 1, 739]), (23, .iconst 1, 0, []), (24, .isub, 0, []), (25, .putfield 21, 1, [0, 1, 739]), (28, .aload_n 0, 0, []), (29, .dup, 0, []), (30, .getfield 24, 1, [0, 2, 740]), (33, .aload_n 0, 0, []), (34, .getfield 11, 1, [0, 0, 738]), (37, .aload_n 0, 0, []), (38, .getfield 21, 1, [0, 1, 739]), (41, .aaload, 1, []), (42, .getfield 35, 1, [10, 2, 899]), (45, .isub, 0, []), (46, .putfield 24, 1, [0, 2, 740]), (49, .goto (-49), 2, []), (52, .return_, 4, [])]
def xm68 : XM := (⟨"PackWright$Cache", "letOldestGo", "()V"⟩, prog_2_method_6_code, 1, none, { frames := 0, cells := 0, slots := 0, locals := 0 }, [], xm68c, 1)
def xm69c : List XI := [(0, .aload_n 0, 0, []), (1, .invokespecial 3, 6, [687, 78, 79]), (4, .aload_n 0, 0, []), (5, .bipush 12, 0, []), (7, .newarray .int, 1, [0, 615]), (9, .putfield 9, 1, [1, 0, 688]), (12, .aload_n 0, 0, []), (13, .bipush 12, 0, []), (15, .newarray .int, 1, [0, 615]), (17, .putfield 15, 1, [1, 1, 690]), (20, .aload_n 0, 0, []), (21, .bipush 12, 0, []), (23, .newarray .int, 1, [0, 615]), (25, .putfield 18, 1, [1, 2, 691]), (28, .return_, 4, [])]
def xm69 : XM := (⟨"PackWright$Chains", "<init>", "()V"⟩, prog_3_method_1_code, 1, none, { frames := 1, cells := 3, slots := 36, locals := 20 }, [], xm69c, 1)
def xm70c : List XI := [(0, .aload_n 0, 0, []), (1, .iconst 0, 0, []), (2, .putfield 21, 1, [1, 3, 692]), (5, .iconst 0, 0, []), (6, .istore_n 3, 0, []), (7, .iload_n 3, 0, []), (8, .bipush 12, 0, []), (10, .if_icmp .ge 16, 2, []), (13, .aload_n 0, 0, []), (14, .getfield 9, 1, [1, 0, 688]), (17, .iload_n 3, 0, []), (18, .iconst 0, 0, []), (19, .iastore, 1, []), (20, .iinc 3 1, 0, []), (23, .goto (-16), 2, []), (26, .iconst 0, 0, []), (27, .istore_n 3, 0, []), (28, .iconst 0, 0, []), (29, .istore 4, 0, []), (31, .iload 4, 0, []), (33, .aload_n 2, 0, []), (34, .getfield 25, 1, [6, 1, 606]), (37, .if_icmp .ge 24, 2, []), (40, .iload_n 3, 0, []), (41, .iconst 1, 0, []), (42, .aload_n 2, 0, []), (43, .getfield 30, 1, [6, 0, 602]), (46, .iload 4, 0, []), (48, .aaload, 1, []), (49, .getfield 34, 1, [8, 0, 987]), (52, .ishl, 0, []), (53, .ior, 0, []), (54, .istore_n 3, 0, []), (55, .iinc 4 1, 0, []), (58, .goto (-27), 2, []), (61, .aload_n 0, 0, []), (62, .aload_n 1, 0, []), (63, .iload_n 3, 0, []), (64, .iconst (-1), 0, []), (65, .iconst 1, 0, []), (66, .invokevirtual 39, 3, [1, 71, 1, 33, 298, 294, 296, 15]), (69, .iconst 0, 0, []), (70, .istore 4, 0, []), (72, .iload 4, 0, []), (74, .bipush 12, 0, []), (76, .if_icmp .ge 49, 2, []), (79, .iload 4, 0, []), (81, .aload_n 0, 0, []), (82, .getfield 21, 1, [1, 3, 692]), (85, .if_icmp .ge 40, 2, []), (88, .aload_n 0, 0, []), (89, .getfield 18, 1, [1, 2, 691]), (92, .iload 4, 0, []), (94, .iaload, 1, []), (95, .istore 5, 0, []), (97, .aload_n 0, 0, []), (98, .aload_n 1, 0, []), (99, .aload_n 1, 0, []), (100, .iload 5, 0, []), (102, .invokevirtual 43, 3, [1, 86, 2, 31, 182, 300, 180, 181]), (105, .iload 5, 0, []), (107, .aload_n 0, 0, []), (108, .getfield 9, 1, [1, 0, 688]), (111, .iload 5, 0, []), (113, .iaload, 1, []), (114, .iconst 1, 0, []), (115, .iadd, 0, []), (116, .invokevirtual 39, 3, [1, 71, 1, 33, 298, 294, 296, 15]), (119, .iinc 4 1, 0, []), (122, .goto (-50), 2, []), (125, .return_, 4, [])]
def xm70 : XM := (⟨"PackWright$Chains", "lay", "(LPackWright$Choice;LPackWright$Wishes;)V"⟩, prog_3_method_2_code, 6, none, { frames := 2, cells := 0, slots := 0, locals := 46 }, [], xm70c, 3)
def xm71c : List XI := [(0, .iconst 0, 0, []), (1, .istore 5, 0, []), (3, .iload 5, 0, []), (5, .bipush 12, 0, []), (7, .if_icmp .ge 85, 2, []), (10, .iload_n 2, 0, []), (11, .iload 5, 0, []), (13, .invokestatic 49, 3, [4, 61, 0, 29, 178, 299, 177, 0]), (16, .ifCond .eq 70, 2, []), (19, .aload_n 1, 0, []), (20, .getfield 53, 1, [2, 0, 625]), (23, .iload 5, 0, []), (25, .aaload, 1, []), (26, .ifnull 60, 2, []), (29, .aload_n 0, 0, []), (30, .getfield 9, 1, [1, 0, 688]), (33, .iload 5, 0, []), (35, .iaload, 1, []), (36, .ifCond .ne 50, 2, []), (39, .aload_n 0, 0, []), (40, .getfield 21, 1, [1, 3, 692]), (43, .bipush 12, 0, []), (45, .if_icmp .ge 41, 2, []), (48, .aload_n 0, 0, []), (49, .getfield 9, 1, [1, 0, 688]), (52, .iload 5, 0, []), (54, .iload 4, 0, []), (56, .iastore, 1, []), (57, .aload_n 0, 0, []), (58, .getfield 15, 1, [1, 1, 690]), (61, .iload 5, 0, []), (63, .iload_n 3, 0, []), (64, .iastore, 1, []), (65, .aload_n 0, 0, []), (66, .getfield 18, 1, [1, 2, 691]), (69, .aload_n 0, 0, []), (70, .getfield 21, 1, [1, 3, 692]), (73, .iload 5, 0, []), (75, .iastore, 1, []), (76, .aload_n 0, 0, []), (77, .dup, 0, []), (78, .getfield 21, 1, [1, 3, 692]), (81, .iconst 1, 0, []), (82, .iadd, 0, []), (83, .putfield 21, 1, [1, 3, 692]), (86, .iinc 5 1, 0, []), (89, .goto (-86), 2, []), (92, .return_, 4, [])]
def xm71 : XM := (⟨"PackWright$Chains", "link", "(LPackWright$Choice;III)V"⟩, prog_3_method_3_code, 6, none, { frames := 1, cells := 0, slots := 0, locals := 21 }, [], xm71c, 5)
def xm72c : List XI := [(0, .iload_n 2, 0, []), (1, .aload_n 0, 0, []), (2, .getfield 9, 1, [1, 0, 688]), (5, .iload_n 1, 0, []), (6, .iaload, 1, []), (7, .if_icmp .lt 5, 2, []), (10, .iconst (-1), 0, []), (11, .ireturn, 4, []), (12, .iload_n 1, 0, []), (13, .istore_n 3, 0, []), (14, .aload_n 0, 0, []), (15, .getfield 9, 1, [1, 0, 688]), (18, .iload_n 1, 0, []), (19, .iaload, 1, []), (20, .iconst 1, 0, []), (21, .isub, 0, []), (22, .istore 4, 0, []), (24, .iload 4, 0, []), (26, .iload_n 2, 0, []), (27, .if_icmp .le 21, 2, []), (30, .iload_n 3, 0, []), (31, .iconst (-1), 0, []), (32, .if_icmp .eq 16, 2, []), (35, .aload_n 0, 0, []), (36, .getfield 15, 1, [1, 1, 690]), (39, .iload_n 3, 0, []), (40, .iaload, 1, []), (41, .istore_n 3, 0, []), (42, .iinc 4 (-1), 0, []), (45, .goto (-21), 2, []), (48, .iload_n 3, 0, []), (49, .ireturn, 4, [])]
def xm72 : XM := (⟨"PackWright$Chains", "linkAt", "(II)I"⟩, prog_3_method_4_code, 5, (some .int), { frames := 0, cells := 0, slots := 0, locals := 0 }, [], xm72c, 3)
def xm73c : List XI := [(0, .aload_n 0, 0, []), (1, .invokespecial 3, 6, [621, 78, 79]), (4, .aload_n 0, 0, []), (5, .bipush 12, 0, []), (7, .anewarray 9, 1, [3, 622]), (10, .putfield 11, 1, [2, 0, 624]), (13, .aload_n 0, 0, []), (14, .bipush 12, 0, []), (16, .newarray .int, 1, [0, 615]), (18, .putfield 17, 1, [2, 1, 629]), (21, .return_, 4, [])]
def xm73 : XM := (⟨"PackWright$Choice", "<init>", "()V"⟩, prog_4_method_1_code, 1, none, { frames := 1, cells := 2, slots := 24, locals := 20 }, [], xm73c, 1)
def xm74c : List XI := [(0, .iconst 0, 0, []), (1, .istore_n 1, 0, []), (2, .iload_n 1, 0, []), (3, .bipush 12, 0, []), (5, .if_icmp .ge 16, 2, []), (8, .aload_n 0, 0, []), (9, .getfield 11, 1, [2, 0, 624]), (12, .iload_n 1, 0, []), (13, .aconst_null, 0, []), (14, .aastore, 1, []), (15, .iinc 1 1, 0, []), (18, .goto (-16), 2, []), (21, .return_, 4, [])]
def xm74 : XM := (⟨"PackWright$Choice", "clear", "()V"⟩, prog_4_method_2_code, 2, none, { frames := 0, cells := 0, slots := 0, locals := 0 }, [], xm74c, 1)
def xm75c : List XI := [(0, .iconst 0, 0, []), (1, .istore_n 2, 0, []), (2, .iload_n 2, 0, []), (3, .bipush 12, 0, []), (5, .if_icmp .ge 21, 2, []), (8, .aload_n 0, 0, []), (9, .getfield 11, 1, [2, 0, 624]), (12, .iload_n 2, 0, []), (13, .aload_n 1, 0, []), (14, .getfield 11, 1, [2, 0, 624]), (17, .iload_n 2, 0, []), (18, .aaload, 1, []), (19, .aastore, 1, []), (20, .iinc 2 1, 0, []), (23, .goto (-21), 2, []), (26, .return_, 4, [])]
def xm75 : XM := (⟨"PackWright$Choice", "become", "(LPackWright$Choice;)V"⟩, prog_4_method_3_code, 3, none, { frames := 0, cells := 0, slots := 0, locals := 0 }, [], xm75c, 2)
def xm76c : List XI := [(0, .iconst 0, 0, []), (1, .istore_n 2, 0, []), (2, .iconst 0, 0, []), (3, .istore_n 3, 0, []), (4, .iload_n 3, 0, []), (5, .bipush 12, 0, []), (7, .if_icmp .ge 27, 2, []), (10, .aload_n 0, 0, []), (11, .getfield 11, 1, [2, 0, 624]), (14, .iload_n 3, 0, []), (15, .aaload, 1, []), (16, .aload_n 1, 0, []), (17, .getfield 11, 1, [2, 0, 624]), (20, .iload_n 3, 0, []), (21, .aaload, 1, []), (22, .if_acmp .eq 6, 2, []), (25, .iinc 2 1, 0, []), (28, .iinc 3 1, 0, []), (31, .goto (-27), 2, []), (34, .iload_n 2, 0, []), (35, .ireturn, 4, [])]
def xm76 : XM := (⟨"PackWright$Choice", "differencesFrom", "(LPackWright$Choice;)I"⟩, prog_4_method_4_code, 4, (some .int), { frames := 0, cells := 0, slots := 0, locals := 0 }, [], xm76c, 2)
def xm77c : List XI := [(0, .iconst 0, 0, []), (1, .istore_n 1, 0, []), (2, .iconst 0, 0, []), (3, .istore_n 2, 0, []), (4, .iload_n 2, 0, []), (5, .bipush 12, 0, []), (7, .if_icmp .ge 21, 2, []), (10, .aload_n 0, 0, []), (11, .getfield 11, 1, [2, 0, 624]), (14, .iload_n 2, 0, []), (15, .aaload, 1, []), (16, .ifnull 6, 2, []), (19, .iinc 1 1, 0, []), (22, .iinc 2 1, 0, []), (25, .goto (-21), 2, []), (28, .iload_n 1, 0, []), (29, .ireturn, 4, [])]
def xm77 : XM := (⟨"PackWright$Choice", "countIn", "()I"⟩, prog_4_method_5_code, 3, (some .int), { frames := 0, cells := 0, slots := 0, locals := 0 }, [], xm77c, 1)
def xm78c : List XI := [(0, .iconst 0, 0, []), (1, .istore_n 1, 0, []), (2, .iconst 0, 0, []), (3, .istore_n 2, 0, []), (4, .iload_n 2, 0, []), (5, .bipush 12, 0, []), (7, .if_icmp .ge 21, 2, []), (10, .iload_n 1, 0, []), (11, .aload_n 0, 0, []), (12, .getfield 11, 1, [2, 0, 624]), (15, .iload_n 2, 0, []), (16, .aaload, 1, []), (17, .invokestatic 21, 3, [4, 60, 0, 29, 423, 421, 422, 0]), (20, .iadd, 0, []), (21, .istore_n 1, 0, []), (22, .iinc 2 1, 0, []), (25, .goto (-21), 2, []), (28, .iload_n 1, 0, []), (29, .ireturn, 4, [])]
def xm78 : XM := (⟨"PackWright$Choice", "sizes", "()I"⟩, prog_4_method_6_code, 3, (some .int), { frames := 1, cells := 0, slots := 0, locals := 20 }, [], xm78c, 1)
def xm79c : List XI := [(0, .iconst 0, 0, []), (1, .istore_n 2, 0, []), (2, .iload_n 2, 0, []), (3, .bipush 12, 0, []), (5, .if_icmp .ge 16, 2, []), (8, .aload_n 0, 0, []), (9, .getfield 17, 1, [2, 1, 629]), (12, .iload_n 2, 0, []), (13, .iconst 0, 0, []), (14, .iastore, 1, []), (15, .iinc 2 1, 0, []), (18, .goto (-16), 2, []), (21, .iconst 0, 0, []), (22, .istore_n 2, 0, []), (23, .iload_n 2, 0, []), (24, .aload_n 1, 0, []), (25, .getfield 25, 1, [6, 1, 607]), (28, .if_icmp .ge 20, 2, []), (31, .aload_n 0, 0, []), (32, .aload_n 1, 0, []), (33, .getfield 31, 1, [6, 0, 603]), (36, .iload_n 2, 0, []), (37, .aaload, 1, []), (38, .invokevirtual 35, 3, [1, 81, 2, 31, 159, 155, 157, 3]), (41, .pop, 0, []), (42, .iinc 2 1, 0, []), (45, .goto (-22), 2, []), (48, .iconst 1, 0, []), (49, .istore_n 2, 0, []), (50, .iconst 0, 0, []), (51, .istore_n 3, 0, []), (52, .iload_n 2, 0, []), (53, .ifCond .eq 20, 2, []), (56, .iload_n 3, 0, []), (57, .bipush 48, 0, []), (59, .if_icmp .gt 14, 2, []), (62, .aload_n 0, 0, []), (63, .invokevirtual 39, 3, [1, 80, 2, 31, 163, 160, 162, 4]), (66, .istore_n 2, 0, []), (67, .iinc 3 1, 0, []), (70, .goto (-18), 2, []), (73, .return_, 4, [])]
def xm79 : XM := (⟨"PackWright$Choice", "turnOnFeatures", "(LPackWright$Wishes;)V"⟩, prog_4_method_7_code, 4, none, { frames := 2, cells := 0, slots := 0, locals := 45 }, [], xm79c, 2)
def xm80c : List XI := [(0, .iconst 0, 0, []), (1, .istore_n 1, 0, []), (2, .iconst 0, 0, []), (3, .istore_n 2, 0, []), (4, .iload_n 2, 0, []), (5, .bipush 12, 0, []), (7, .if_icmp .ge 67, 2, []), (10, .aload_n 0, 0, []), (11, .getfield 11, 1, [2, 0, 624]), (14, .iload_n 2, 0, []), (15, .aaload, 1, []), (16, .ifnonnull 7, 2, []), (19, .aconst_null, 0, []), (20, .goto 12, 2, []), (23, .aload_n 0, 0, []), (24, .getfield 11, 1, [2, 0, 624]), (27, .iload_n 2, 0, []), (28, .aaload, 1, []), (29, .getfield 43, 1, [10, 4, 905]), (32, .astore_n 3, 0, []), (33, .aload_n 3, 0, []), (34, .ifnull 34, 2, []), (37, .aload_n 3, 0, []), (38, .aload_n 0, 0, []), (39, .getfield 17, 1, [2, 1, 629]), (42, .iload_n 2, 0, []), (43, .iaload, 1, []), (44, .invokevirtual 47, 3, [1, 90, 8, 46, 167, 164, 165, 166]), (47, .ifCond .eq 13, 2, []), (50, .aload_n 0, 0, []), (51, .aload_n 3, 0, []), (52, .invokevirtual 35, 3, [1, 81, 2, 31, 159, 155, 157, 3]), (55, .ifCond .eq 5, 2, []), (58, .iconst 1, 0, []), (59, .istore_n 1, 0, []), (60, .aload_n 3, 0, []), (61, .getfield 53, 1, [8, 4, 996]), (64, .astore_n 3, 0, []), (65, .goto (-32), 2, []), (68, .iinc 2 1, 0, []), (71, .goto (-67), 2, []), (74, .iload_n 1, 0, []), (75, .ireturn, 4, [])]
def xm80 : XM := (⟨"PackWright$Choice", "turnOnByNeeds", "()Z"⟩, prog_4_method_8_code, 4, (some .boolean), { frames := 1, cells := 0, slots := 0, locals := 22 }, [], xm80c, 1)
def xm81c : List XI := [(0, .aload_n 0, 0, []), (1, .getfield 17, 1, [2, 1, 629]), (4, .aload_n 1, 0, []), (5, .getfield 56, 1, [8, 0, 989]), (8, .iaload, 1, []), (9, .istore_n 2, 0, []), (10, .aload_n 0, 0, []), (11, .getfield 11, 1, [2, 0, 624]), (14, .aload_n 1, 0, []), (15, .getfield 56, 1, [8, 0, 989]), (18, .aaload, 1, []), (19, .ifnull 18, 2, []), (22, .aload_n 0, 0, []), (23, .getfield 17, 1, [2, 1, 629]), (26, .aload_n 1, 0, []), (27, .getfield 56, 1, [8, 0, 989]), (30, .iload_n 2, 0, []), (31, .aload_n 1, 0, []), (32, .getfield 59, 1, [8, 2, 992]), (35, .ior, 0, []), (36, .iastore, 1, []), (37, .aload_n 0, 0, []), (38, .getfield 17, 1, [2, 1, 629]), (41, .aload_n 1, 0, []), (42, .getfield 56, 1, [8, 0, 989]), (45, .iaload, 1, []), (46, .iload_n 2, 0, []), (47, .if_icmp .eq 7, 2, []), (50, .iconst 1, 0, []), (51, .goto 4, 2, []), (54, .iconst 0, 0, []), (55, .ireturn, 4, [])]
def xm81 : XM := (⟨"PackWright$Choice", "turnOn", "(LPackWright$Claim;)Z"⟩, prog_4_method_9_code, 3, (some .boolean), { frames := 0, cells := 0, slots := 0, locals := 0 }, [], xm81c, 2)
def xm82c : List XI := [(0, .iconst 0, 0, []), (1, .istore_n 3, 0, []), (2, .iload_n 3, 0, []), (3, .aload_n 1, 0, []), (4, .getfield 25, 1, [6, 1, 607]), (7, .if_icmp .ge 25, 2, []), (10, .aload_n 0, 0, []), (11, .aload_n 1, 0, []), (12, .getfield 31, 1, [6, 0, 603]), (15, .iload_n 3, 0, []), (16, .aaload, 1, []), (17, .iload_n 2, 0, []), (18, .invokevirtual 62, 3, [1, 83, 2, 31, 248, 245, 247, 11]), (21, .ifCond .ne 5, 2, []), (24, .iconst 0, 0, []), (25, .ireturn, 4, []), (26, .iinc 3 1, 0, []), (29, .goto (-27), 2, []), (32, .iconst 0, 0, []), (33, .istore_n 3, 0, []), (34, .iload_n 3, 0, []), (35, .bipush 12, 0, []), (37, .if_icmp .ge 49, 2, []), (40, .aload_n 0, 0, []), (41, .getfield 11, 1, [2, 0, 624]), (44, .iload_n 3, 0, []), (45, .aaload, 1, []), (46, .astore 4, 0, []), (48, .aload 4, 0, []), (50, .ifnull 30, 2, []), (53, .aload_n 0, 0, []), (54, .aload 4, 0, []), (56, .aload_n 0, 0, []), (57, .getfield 17, 1, [2, 1, 629]), (60, .iload_n 3, 0, []), (61, .iaload, 1, []), (62, .iload_n 2, 0, []), (63, .invokevirtual 66, 3, [1, 84, 2, 31, 256, 253, 255, 12]), (66, .ifCond .eq 12, 2, []), (69, .aload_n 0, 0, []), (70, .aload 4, 0, []), (72, .invokevirtual 70, 3, [1, 85, 2, 31, 260, 257, 259, 13]), (75, .ifCond .ne 5, 2, []), (78, .iconst 0, 0, []), (79, .ireturn, 4, []), (80, .iinc 3 1, 0, []), (83, .goto (-49), 2, []), (86, .iconst 1, 0, []), (87, .ireturn, 4, [])]
def xm82 : XM := (⟨"PackWright$Choice", "meets", "(LPackWright$Wishes;Z)Z"⟩, prog_4_method_10_code, 5, (some .boolean), { frames := 3, cells := 0, slots := 0, locals := 68 }, [], xm82c, 3)
def xm83c : List XI := [(0, .aload_n 0, 0, []), (1, .getfield 11, 1, [2, 0, 624]), (4, .aload_n 1, 0, []), (5, .getfield 56, 1, [8, 0, 989]), (8, .aaload, 1, []), (9, .astore_n 3, 0, []), (10, .aload_n 3, 0, []), (11, .ifnonnull 15, 2, []), (14, .iload_n 2, 0, []), (15, .ifCond .ne 7, 2, []), (18, .iconst 1, 0, []), (19, .goto 15, 2, []), (22, .iconst 0, 0, []), (23, .goto 11, 2, []), (26, .aload_n 1, 0, []), (27, .getfield 74, 1, [8, 3, 994]), (30, .aload_n 3, 0, []), (31, .invokevirtual 78, 3, [1, 107, 9, 45, 252, 249, 250, 251]), (34, .ireturn, 4, [])]
def xm83 : XM := (⟨"PackWright$Choice", "grants", "(LPackWright$Claim;Z)Z"⟩, prog_4_method_11_code, 4, (some .boolean), { frames := 1, cells := 0, slots := 0, locals := 21 }, [], xm83c, 3)
def xm84c : List XI := [(0, .aload_n 1, 0, []), (1, .getfield 43, 1, [10, 4, 905]), (4, .astore 4, 0, []), (6, .aload 4, 0, []), (8, .ifnull 34, 2, []), (11, .aload 4, 0, []), (13, .iload_n 2, 0, []), (14, .invokevirtual 47, 3, [1, 90, 8, 46, 167, 164, 165, 166]), (17, .ifCond .eq 15, 2, []), (20, .aload_n 0, 0, []), (21, .aload 4, 0, []), (23, .iload_n 3, 0, []), (24, .invokevirtual 62, 3, [1, 83, 2, 31, 248, 245, 247, 11]), (27, .ifCond .ne 5, 2, []), (30, .iconst 0, 0, []), (31, .ireturn, 4, []), (32, .aload 4, 0, []), (34, .getfield 53, 1, [8, 4, 996]), (37, .astore 4, 0, []), (39, .goto (-33), 2, []), (42, .iconst 1, 0, []), (43, .ireturn, 4, [])]
def xm84 : XM := (⟨"PackWright$Choice", "grantsNeeds", "(LPackWright$Version;IZ)Z"⟩, prog_4_method_12_code, 5, (some .boolean), { frames := 2, cells := 0, slots := 0, locals := 44 }, [], xm84c, 4)
def xm85c : List XI := [(0, .aload_n 1, 0, []), (1, .getfield 83, 1, [10, 6, 910]), (4, .astore_n 2, 0, []), (5, .aload_n 2, 0, []), (6, .ifnull 38, 2, []), (9, .aload_n 0, 0, []), (10, .getfield 11, 1, [2, 0, 624]), (13, .aload_n 2, 0, []), (14, .getfield 56, 1, [8, 0, 989]), (17, .aaload, 1, []), (18, .astore_n 3, 0, []), (19, .aload_n 3, 0, []), (20, .ifnull 16, 2, []), (23, .aload_n 2, 0, []), (24, .getfield 74, 1, [8, 3, 994]), (27, .aload_n 3, 0, []), (28, .invokevirtual 78, 3, [1, 107, 9, 45, 252, 249, 250, 251]), (31, .ifCond .eq 5, 2, []), (34, .iconst 0, 0, []), (35, .ireturn, 4, []), (36, .aload_n 2, 0, []), (37, .getfield 53, 1, [8, 4, 996]), (40, .astore_n 2, 0, []), (41, .goto (-36), 2, []), (44, .iconst 1, 0, []), (45, .ireturn, 4, [])]
def xm85 : XM := (⟨"PackWright$Choice", "isFreeOfClashes", "(LPackWright$Version;)Z"⟩, prog_4_method_13_code, 4, (some .boolean), { frames := 1, cells := 0, slots := 0, locals := 21 }, [], xm85c, 2)
def xm86c : List XI := [(0, .iconst 0, 0, []), (1, .istore_n 2, 0, []), (2, .aload_n 0, 0, []), (3, .getfield 11, 1, [2, 0, 624]), (6, .iload_n 1, 0, []), (7, .aaload, 1, []), (8, .ifnonnull 7, 2, []), (11, .aconst_null, 0, []), (12, .goto 12, 2, []), (15, .aload_n 0, 0, []), (16, .getfield 11, 1, [2, 0, 624]), (19, .iload_n 1, 0, []), (20, .aaload, 1, []), (21, .getfield 43, 1, [10, 4, 905]), (24, .astore_n 3, 0, []), (25, .aload_n 3, 0, []), (26, .ifnull 33, 2, []), (29, .aload_n 3, 0, []), (30, .aload_n 0, 0, []), (31, .getfield 17, 1, [2, 1, 629]), (34, .iload_n 1, 0, []), (35, .iaload, 1, []), (36, .invokevirtual 47, 3, [1, 90, 8, 46, 167, 164, 165, 166]), (39, .ifCond .eq 12, 2, []), (42, .iload_n 2, 0, []), (43, .iconst 1, 0, []), (44, .aload_n 3, 0, []), (45, .getfield 56, 1, [8, 0, 989]), (48, .ishl, 0, []), (49, .ior, 0, []), (50, .istore_n 2, 0, []), (51, .aload_n 3, 0, []), (52, .getfield 53, 1, [8, 4, 996]), (55, .astore_n 3, 0, []), (56, .goto (-31), 2, []), (59, .iload_n 2, 0, []), (60, .ireturn, 4, [])]
def xm86 : XM := (⟨"PackWright$Choice", "neededFrom", "(I)I"⟩, prog_4_method_14_code, 4, (some .int), { frames := 1, cells := 0, slots := 0, locals := 21 }, [], xm86c, 2)
def xm87c : List XI := [(0, .iconst 0, 0, []), (1, .istore_n 2, 0, []), (2, .iconst 0, 0, []), (3, .istore_n 3, 0, []), (4, .iload_n 3, 0, []), (5, .bipush 12, 0, []), (7, .if_icmp .ge 25, 2, []), (10, .iload_n 1, 0, []), (11, .iload_n 3, 0, []), (12, .invokestatic 86, 3, [4, 61, 0, 29, 178, 176, 177, 0]), (15, .ifCond .eq 11, 2, []), (18, .iload_n 2, 0, []), (19, .aload_n 0, 0, []), (20, .iload_n 3, 0, []), (21, .invokevirtual 90, 3, [1, 86, 2, 31, 182, 179, 180, 181]), (24, .ior, 0, []), (25, .istore_n 2, 0, []), (26, .iinc 3 1, 0, []), (29, .goto (-25), 2, []), (32, .iload_n 2, 0, []), (33, .ireturn, 4, [])]
def xm87 : XM := (⟨"PackWright$Choice", "neededFromAny", "(I)I"⟩, prog_4_method_15_code, 4, (some .int), { frames := 2, cells := 0, slots := 0, locals := 44 }, [], xm87c, 2)
def xm88c : List XI := [(0, .iconst 1, 0, []), (1, .iload_n 1, 0, []), (2, .ishl, 0, []), (3, .istore_n 2, 0, []), (4, .iconst 1, 0, []), (5, .istore_n 3, 0, []), (6, .iload_n 3, 0, []), (7, .bipush 12, 0, []), (9, .if_icmp .ge 17, 2, []), (12, .iload_n 2, 0, []), (13, .aload_n 0, 0, []), (14, .iload_n 2, 0, []), (15, .invokevirtual 94, 3, [1, 87, 2, 31, 175, 172, 173, 174]), (18, .ior, 0, []), (19, .istore_n 2, 0, []), (20, .iinc 3 1, 0, []), (23, .goto (-17), 2, []), (26, .iload_n 2, 0, []), (27, .ireturn, 4, [])]
def xm88 : XM := (⟨"PackWright$Choice", "reachedFrom", "(I)I"⟩, prog_4_method_16_code, 4, (some .int), { frames := 3, cells := 0, slots := 0, locals := 67 }, [], xm88c, 2)
def xm89c : List XI := [(0, .aload_n 0, 0, []), (1, .invokespecial 1, 6, [985, 78, 79]), (4, .aload_n 0, 0, []), (5, .iload_n 1, 0, []), (6, .putfield 7, 1, [8, 0, 986]), (9, .aload_n 0, 0, []), (10, .iload_n 2, 0, []), (11, .putfield 13, 1, [8, 1, 990]), (14, .aload_n 0, 0, []), (15, .iload_n 3, 0, []), (16, .putfield 16, 1, [8, 2, 991]), (19, .aload_n 0, 0, []), (20, .aload 4, 0, []), (22, .putfield 19, 1, [8, 3, 993]), (25, .return_, 4, [])]
def xm89 : XM := (⟨"PackWright$Claim", "<init>", "(IIILPackWright$Range;)V"⟩, prog_5_method_1_code, 5, none, { frames := 1, cells := 0, slots := 0, locals := 20 }, [], xm89c, 5)
def xm90c : List XI := [(0, .aload_n 0, 0, []), (1, .getfield 13, 1, [8, 1, 990]), (4, .ifCond .lt 14, 2, []), (7, .iload_n 1, 0, []), (8, .aload_n 0, 0, []), (9, .getfield 13, 1, [8, 1, 990]), (12, .ishr, 0, []), (13, .iconst 1, 0, []), (14, .iand, 0, []), (15, .ifCond .eq 7, 2, []), (18, .iconst 1, 0, []), (19, .goto 4, 2, []), (22, .iconst 0, 0, []), (23, .ireturn, 4, [])]
def xm90 : XM := (⟨"PackWright$Claim", "countsWith", "(I)Z"⟩, prog_5_method_2_code, 2, (some .boolean), { frames := 0, cells := 0, slots := 0, locals := 0 }, [], xm90c, 2)
def xm91c : List XI := [(0, .aload_n 0, 0, []), (1, .invokespecial 3, 6, [1038, 78, 79]), (4, .aload_n 0, 0, []), (5, .bipush 8, 0, []), (7, .anewarray 9, 1, [3, 885]), (10, .putfield 11, 1, [3, 0, 1039]), (13, .aload_n 0, 0, []), (14, .bipush 8, 0, []), (16, .anewarray 9, 1, [3, 885]), (19, .putfield 17, 1, [3, 1, 1041]), (22, .return_, 4, [])]
def xm91 : XM := (⟨"PackWright$Pack", "<init>", "()V"⟩, prog_6_method_1_code, 1, none, { frames := 1, cells := 2, slots := 16, locals := 20 }, [], xm91c, 1)
def xm92c : List XI := [(0, .iconst 0, 0, []), (1, .istore_n 2, 0, []), (2, .iload_n 2, 0, []), (3, .aload_n 0, 0, []), (4, .getfield 20, 1, [3, 2, 1042]), (7, .if_icmp .ge 24, 2, []), (10, .aload_n 0, 0, []), (11, .getfield 11, 1, [3, 0, 1039]), (14, .iload_n 2, 0, []), (15, .aaload, 1, []), (16, .getfield 24, 1, [10, 1, 895]), (19, .iload_n 1, 0, []), (20, .if_icmp .ne 5, 2, []), (23, .iconst 1, 0, []), (24, .ireturn, 4, []), (25, .iinc 2 1, 0, []), (28, .goto (-26), 2, []), (31, .iconst 0, 0, []), (32, .ireturn, 4, [])]
def xm92 : XM := (⟨"PackWright$Pack", "hasMark", "(I)Z"⟩, prog_6_method_2_code, 3, (some .boolean), { frames := 0, cells := 0, slots := 0, locals := 0 }, [], xm92c, 2)
def xm93c : List XI := [(0, .new 9, 1, [10, 885, 886, 43]), (3, .dup, 0, []), (4, .aload_n 0, 0, []), (5, .getfield 20, 1, [3, 2, 1042]), (8, .iload_n 1, 0, []), (9, .iload_n 2, 0, []), (10, .invokespecial 27, 3, [2, 117, 0, 43, 889, 887, 888, 0]), (13, .astore_n 3, 0, []), (14, .aload_n 0, 0, []), (15, .getfield 20, 1, [3, 2, 1042]), (18, .istore 4, 0, []), (20, .iload 4, 0, []), (22, .ifCond .le 41, 2, []), (25, .aload_n 0, 0, []), (26, .getfield 17, 1, [3, 1, 1041]), (29, .iload 4, 0, []), (31, .iconst 1, 0, []), (32, .isub, 0, []), (33, .aaload, 1, []), (34, .getfield 24, 1, [10, 1, 895]), (37, .iload_n 1, 0, []), (38, .if_icmp .ge 25, 2, []), (41, .aload_n 0, 0, []), (42, .getfield 17, 1, [3, 1, 1041]), (45, .iload 4, 0, []), (47, .aload_n 0, 0, []), (48, .getfield 17, 1, [3, 1, 1041]), (51, .iload 4, 0, []), (53, .iconst 1, 0, []), (54, .isub, 0, []), (55, .aaload, 1, []), (56, .aastore, 1, []), (57, .iinc 4 (-1), 0, []), (60, .goto (-40), 2, []), (63, .aload_n 0, 0, []), (64, .getfield 17, 1, [3, 1, 1041]), (67, .iload 4, 0, []), (69, .aload_n 3, 0, []), (70, .aastore, 1, []), (71, .aload_n 0, 0, []), (72, .getfield 11, 1, [3, 0, 1039]), (75, .aload_n 0, 0, []), (76, .getfield 20, 1, [3, 2, 1042]), (79, .aload_n 3, 0, []), (80, .aastore, 1, []), (81, .aload_n 0, 0, []), (82, .dup, 0, []), (83, .getfield 20, 1, [3, 2, 1042]), (86, .iconst 1, 0, []), (87, .iadd, 0, []), (88, .putfield 20, 1, [3, 2, 1042]), (91, .aload_n 3, 0, []), (92, .getfield 30, 1, [10, 0, 892]), (95, .ireturn, 4, [])]
def xm93 : XM := (⟨"PackWright$Pack", "add", "(II)I"⟩, prog_6_method_3_code, 5, (some .int), { frames := 2, cells := 1, slots := 8, locals := 43 }, [], xm93c, 3)
def xm94c : List XI := [(0, .aload_n 0, 0, []), (1, .getfield 20, 1, [3, 2, 1042]), (4, .ifCond .ne 7, 2, []), (7, .aconst_null, 0, []), (8, .goto 14, 2, []), (11, .aload_n 0, 0, []), (12, .getfield 11, 1, [3, 0, 1039]), (15, .aload_n 0, 0, []), (16, .getfield 20, 1, [3, 2, 1042]), (19, .iconst 1, 0, []), (20, .isub, 0, []), (21, .aaload, 1, []), (22, .areturn, 4, [])]
def xm94 : XM := (⟨"PackWright$Pack", "latest", "()LPackWright$Version;"⟩, prog_6_method_4_code, 1, (some (.object "PackWright$Version")), { frames := 0, cells := 0, slots := 0, locals := 0 }, [], xm94c, 1)
def xm95c : List XI := [(0, .iload_n 1, 0, []), (1, .ifCond .lt 11, 2, []), (4, .iload_n 1, 0, []), (5, .aload_n 0, 0, []), (6, .getfield 20, 1, [3, 2, 1042]), (9, .if_icmp .lt 7, 2, []), (12, .aconst_null, 0, []), (13, .goto 9, 2, []), (16, .aload_n 0, 0, []), (17, .getfield 17, 1, [3, 1, 1041]), (20, .iload_n 1, 0, []), (21, .aaload, 1, []), (22, .areturn, 4, [])]
def xm95 : XM := (⟨"PackWright$Pack", "ranked", "(I)LPackWright$Version;"⟩, prog_6_method_5_code, 2, (some (.object "PackWright$Version")), { frames := 0, cells := 0, slots := 0, locals := 0 }, [], xm95c, 2)
def xm96c : List XI := [(0, .iconst 0, 0, []), (1, .istore_n 1, 0, []), (2, .iload_n 1, 0, []), (3, .aload_n 0, 0, []), (4, .getfield 20, 1, [3, 2, 1042]), (7, .if_icmp .ge 28, 2, []), (10, .aload_n 0, 0, []), (11, .getfield 17, 1, [3, 1, 1041]), (14, .iload_n 1, 0, []), (15, .aaload, 1, []), (16, .getfield 33, 1, [10, 3, 903]), (19, .ifCond .ne 10, 2, []), (22, .aload_n 0, 0, []), (23, .getfield 17, 1, [3, 1, 1041]), (26, .iload_n 1, 0, []), (27, .aaload, 1, []), (28, .areturn, 4, []), (29, .iinc 1 1, 0, []), (32, .goto (-30), 2, []), (35, .aconst_null, 0, []), (36, .areturn, 4, [])]
def xm96 : XM := (⟨"PackWright$Pack", "greatestOffered", "()LPackWright$Version;"⟩, prog_6_method_6_code, 2, (some (.object "PackWright$Version")), { frames := 0, cells := 0, slots := 0, locals := 0 }, [], xm96c, 1)
def xm97c : List XI := [(0, .aload_n 0, 0, []), (1, .invokespecial 3, 6, [706, 78, 79]), (4, .aload_n 0, 0, []), (5, .bipush 12, 0, []), (7, .newarray .int, 1, [0, 615]), (9, .putfield 9, 1, [4, 3, 714]), (12, .aload_n 0, 0, []), (13, .bipush 12, 0, []), (15, .newarray .int, 1, [0, 615]), (17, .putfield 15, 1, [4, 4, 716]), (20, .aload_n 0, 0, []), (21, .bipush 12, 0, []), (23, .anewarray 18, 1, [3, 707]), (26, .putfield 20, 1, [4, 5, 718]), (29, .return_, 4, [])]
def xm97 : XM := (⟨"PackWright$Plan", "<init>", "()V"⟩, prog_7_method_1_code, 1, none, { frames := 1, cells := 3, slots := 36, locals := 20 }, [], xm97c, 1)
def xm98c : List XI := [(0, .aload_n 0, 0, []), (1, .iconst 0, 0, []), (2, .putfield 24, 1, [4, 0, 708]), (5, .aload_n 0, 0, []), (6, .iconst 0, 0, []), (7, .putfield 28, 1, [4, 1, 710]), (10, .aload_n 0, 0, []), (11, .iconst 0, 0, []), (12, .putfield 32, 1, [4, 2, 712]), (15, .return_, 4, [])]
def xm98 : XM := (⟨"PackWright$Plan", "forget", "()V"⟩, prog_7_method_2_code, 1, none, { frames := 0, cells := 0, slots := 0, locals := 0 }, [], xm98c, 1)
def xm99c : List XI := [(0, .aload_n 0, 0, []), (1, .invokevirtual 35, 3, [1, 98, 4, 34, 272, 358, 270, 271]), (4, .aload_n 0, 0, []), (5, .iconst 1, 0, []), (6, .putfield 24, 1, [4, 0, 708]), (9, .iconst 0, 0, []), (10, .istore_n 3, 0, []), (11, .iconst 0, 0, []), (12, .istore 4, 0, []), (14, .iconst 0, 0, []), (15, .istore 5, 0, []), (17, .iload 5, 0, []), (19, .bipush 12, 0, []), (21, .if_icmp .ge 72, 2, []), (24, .aload_n 1, 0, []), (25, .getfield 38, 1, [2, 0, 626]), (28, .iload 5, 0, []), (30, .aaload, 1, []), (31, .aload_n 2, 0, []), (32, .getfield 38, 1, [2, 0, 626]), (35, .iload 5, 0, []), (37, .aaload, 1, []), (38, .if_acmp .eq 23, 2, []), (41, .aload_n 2, 0, []), (42, .getfield 38, 1, [2, 0, 626]), (45, .iload 5, 0, []), (47, .aaload, 1, []), (48, .ifnonnull 13, 2, []), (51, .iload_n 3, 0, []), (52, .iconst 1, 0, []), (53, .iload 5, 0, []), (55, .ishl, 0, []), (56, .ior, 0, []), (57, .istore_n 3, 0, []), (58, .goto 29, 2, []), (61, .aload_n 1, 0, []), (62, .getfield 38, 1, [2, 0, 626]), (65, .iload 5, 0, []), (67, .aaload, 1, []), (68, .aload_n 2, 0, []), (69, .getfield 38, 1, [2, 0, 626]), (72, .iload 5, 0, []), (74, .aaload, 1, []), (75, .if_acmp .eq 12, 2, []), (78, .iload 4, 0, []), (80, .iconst 1, 0, []), (81, .iload 5, 0, []), (83, .ishl, 0, []), (84, .ior, 0, []), (85, .istore 4, 0, []), (87, .iinc 5 1, 0, []), (90, .goto (-73), 2, []), (93, .aload_n 0, 0, []), (94, .aload_n 1, 0, []), (95, .iload_n 3, 0, []), (96, .invokevirtual 43, 3, [1, 100, 4, 34, 363, 359, 361, 17]), (99, .aload_n 0, 0, []), (100, .aload_n 1, 0, []), (101, .aload_n 2, 0, []), (102, .iload 4, 0, []), (104, .invokevirtual 47, 3, [1, 101, 4, 34, 375, 372, 374, 19]), (107, .return_, 4, [])]
def xm99 : XM := (⟨"PackWright$Plan", "lead", "(LPackWright$Choice;LPackWright$Choice;)V"⟩, prog_7_method_3_code, 6, none, { frames := 4, cells := 0, slots := 0, locals := 94 }, [], xm99c, 3)
def xm100c : List XI := [(0, .iload_n 2, 0, []), (1, .istore_n 3, 0, []), (2, .iconst 0, 0, []), (3, .istore 4, 0, []), (5, .iload 4, 0, []), (7, .bipush 12, 0, []), (9, .if_icmp .ge 57, 2, []), (12, .iload_n 3, 0, []), (13, .ifCond .eq 53, 2, []), (16, .iload_n 3, 0, []), (17, .aload_n 1, 0, []), (18, .iload_n 3, 0, []), (19, .invokevirtual 51, 3, [1, 87, 2, 31, 175, 364, 173, 174]), (22, .iconst (-1), 0, []), (23, .ixor, 0, []), (24, .iand, 0, []), (25, .istore 5, 0, []), (27, .iload 5, 0, []), (29, .ifCond .eq 8, 2, []), (32, .iload 5, 0, []), (34, .goto 4, 2, []), (37, .iload_n 3, 0, []), (38, .invokestatic 55, 3, [4, 62, 0, 29, 367, 365, 366, 0]), (41, .istore 6, 0, []), (43, .aload_n 0, 0, []), (44, .iconst 0, 0, []), (45, .iload 6, 0, []), (47, .aload_n 1, 0, []), (48, .invokevirtual 58, 3, [1, 103, 4, 34, 371, 368, 370, 18]), (51, .iload_n 3, 0, []), (52, .iconst 1, 0, []), (53, .iload 6, 0, []), (55, .ishl, 0, []), (56, .iconst (-1), 0, []), (57, .ixor, 0, []), (58, .iand, 0, []), (59, .istore_n 3, 0, []), (60, .iinc 4 1, 0, []), (63, .goto (-58), 2, []), (66, .return_, 4, [])]
def xm100 : XM := (⟨"PackWright$Plan", "removeAll", "(LPackWright$Choice;I)V"⟩, prog_7_method_4_code, 7, none, { frames := 3, cells := 0, slots := 0, locals := 67 }, [], xm100c, 3)
def xm101c : List XI := [(0, .iload_n 3, 0, []), (1, .istore 4, 0, []), (3, .iconst 0, 0, []), (4, .istore 5, 0, []), (6, .iload 5, 0, []), (8, .bipush 12, 0, []), (10, .if_icmp .ge 77, 2, []), (13, .iload 4, 0, []), (15, .ifCond .eq 72, 2, []), (18, .iload 4, 0, []), (20, .aload_n 2, 0, []), (21, .invokestatic 62, 3, [0, 102, 0, 34, 378, 376, 377, 0]), (24, .istore 6, 0, []), (26, .iload 6, 0, []), (28, .ifCond .eq 8, 2, []), (31, .iload 6, 0, []), (33, .goto 5, 2, []), (36, .iload 4, 0, []), (38, .invokestatic 55, 3, [4, 62, 0, 29, 367, 365, 366, 0]), (41, .istore 7, 0, []), (43, .aload_n 0, 0, []), (44, .iload 7, 0, []), (46, .ifCond .lt 17, 2, []), (49, .aload_n 1, 0, []), (50, .getfield 38, 1, [2, 0, 626]), (53, .iload 7, 0, []), (55, .aaload, 1, []), (56, .ifnonnull 7, 2, []), (59, .iconst 2, 0, []), (60, .goto 4, 2, []), (63, .iconst 1, 0, []), (64, .iload 7, 0, []), (66, .aload_n 1, 0, []), (67, .invokevirtual 58, 3, [1, 103, 4, 34, 371, 368, 370, 18]), (70, .iload 4, 0, []), (72, .iconst 1, 0, []), (73, .iload 7, 0, []), (75, .ishl, 0, []), (76, .iconst (-1), 0, []), (77, .ixor, 0, []), (78, .iand, 0, []), (79, .istore 4, 0, []), (81, .iinc 5 1, 0, []), (84, .goto (-78), 2, []), (87, .return_, 4, [])]
def xm101 : XM := (⟨"PackWright$Plan", "putAll", "(LPackWright$Choice;LPackWright$Choice;I)V"⟩, prog_7_method_5_code, 8, none, { frames := 3, cells := 0, slots := 0, locals := 67 }, [], xm101c, 4)
def xm102c : List XI := [(0, .iconst 0, 0, []), (1, .istore_n 2, 0, []), (2, .iconst 0, 0, []), (3, .istore_n 3, 0, []), (4, .iload_n 3, 0, []), (5, .bipush 12, 0, []), (7, .if_icmp .ge 33, 2, []), (10, .iload_n 0, 0, []), (11, .iload_n 3, 0, []), (12, .invokestatic 66, 3, [4, 61, 0, 29, 178, 379, 177, 0]), (15, .ifCond .eq 19, 2, []), (18, .aload_n 1, 0, []), (19, .iload_n 3, 0, []), (20, .invokevirtual 70, 3, [1, 86, 2, 31, 182, 380, 180, 181]), (23, .iload_n 0, 0, []), (24, .iand, 0, []), (25, .ifCond .ne 9, 2, []), (28, .iload_n 2, 0, []), (29, .iconst 1, 0, []), (30, .iload_n 3, 0, []), (31, .ishl, 0, []), (32, .ior, 0, []), (33, .istore_n 2, 0, []), (34, .iinc 3 1, 0, []), (37, .goto (-33), 2, []), (40, .iload_n 2, 0, []), (41, .ireturn, 4, [])]
def xm102 : XM := (⟨"PackWright$Plan", "needingNoneOf", "(ILPackWright$Choice;)I"⟩, prog_7_method_6_code, 4, (some .int), { frames := 2, cells := 0, slots := 0, locals := 44 }, [], xm102c, 2)
def xm103c : List XI := [(0, .iload_n 2, 0, []), (1, .ifCond .lt 57, 2, []), (4, .aload_n 0, 0, []), (5, .getfield 28, 1, [4, 1, 710]), (8, .bipush 12, 0, []), (10, .if_icmp .ge 48, 2, []), (13, .aload_n 0, 0, []), (14, .getfield 9, 1, [4, 3, 714]), (17, .aload_n 0, 0, []), (18, .getfield 28, 1, [4, 1, 710]), (21, .iload_n 1, 0, []), (22, .iastore, 1, []), (23, .aload_n 0, 0, []), (24, .getfield 15, 1, [4, 4, 716]), (27, .aload_n 0, 0, []), (28, .getfield 28, 1, [4, 1, 710]), (31, .iload_n 2, 0, []), (32, .iastore, 1, []), (33, .aload_n 0, 0, []), (34, .getfield 20, 1, [4, 5, 718]), (37, .aload_n 0, 0, []), (38, .getfield 28, 1, [4, 1, 710]), (41, .aload_n 3, 0, []), (42, .getfield 38, 1, [2, 0, 626]), (45, .iload_n 2, 0, []), (46, .aaload, 1, []), (47, .aastore, 1, []), (48, .aload_n 0, 0, []), (49, .dup, 0, []), (50, .getfield 28, 1, [4, 1, 710]), (53, .iconst 1, 0, []), (54, .iadd, 0, []), (55, .putfield 28, 1, [4, 1, 710]), (58, .return_, 4, [])]
def xm103 : XM := (⟨"PackWright$Plan", "addStep", "(IILPackWright$Choice;)V"⟩, prog_7_method_7_code, 4, none, { frames := 0, cells := 0, slots := 0, locals := 0 }, [], xm103c, 4)
def xm104c : List XI := [(0, .aload_n 0, 0, []), (1, .getfield 32, 1, [4, 2, 712]), (4, .iconst 1, 0, []), (5, .isub, 0, []), (6, .istore_n 2, 0, []), (7, .iload_n 2, 0, []), (8, .ifCond .lt 26, 2, []), (11, .aload_n 1, 0, []), (12, .getfield 38, 1, [2, 0, 626]), (15, .aload_n 0, 0, []), (16, .getfield 15, 1, [4, 4, 716]), (19, .iload_n 2, 0, []), (20, .iaload, 1, []), (21, .aload_n 0, 0, []), (22, .getfield 20, 1, [4, 5, 718]), (25, .iload_n 2, 0, []), (26, .aaload, 1, []), (27, .aastore, 1, []), (28, .iinc 2 (-1), 0, []), (31, .goto (-24), 2, []), (34, .return_, 4, [])]
def xm104 : XM := (⟨"PackWright$Plan", "undo", "(LPackWright$Choice;)V"⟩, prog_7_method_8_code, 3, none, { frames := 0, cells := 0, slots := 0, locals := 0 }, [], xm104c, 2)
def xm105c : List XI := [(0, .aload_n 0, 0, []), (1, .invokespecial 3, 6, [968, 78, 79]), (4, .aload_n 0, 0, []), (5, .iload_n 1, 0, []), (6, .ifCond .eq 8, 2, []), (9, .iload_n 1, 0, []), (10, .iconst 3, 0, []), (11, .if_icmp .ne 7, 2, []), (14, .iconst 0, 0, []), (15, .goto 4, 2, []), (18, .iload_n 2, 0, []), (19, .putfield 9, 1, [9, 0, 973]), (22, .aload_n 0, 0, []), (23, .iload_n 1, 0, []), (24, .iload_n 2, 0, []), (25, .invokestatic 15, 3, [0, 106, 0, 45, 971, 969, 970, 0]), (28, .putfield 19, 1, [9, 1, 974]), (31, .return_, 4, [])]
def xm105 : XM := (⟨"PackWright$Range", "<init>", "(II)V"⟩, prog_8_method_1_code, 3, none, { frames := 1, cells := 0, slots := 0, locals := 22 }, [], xm105c, 3)
def xm106c : List XI := [(0, .iload_n 1, 0, []), (1, .bipush 100, 0, []), (3, .idiv, 0, []), (4, .iconst 1, 0, []), (5, .iadd, 0, []), (6, .bipush 100, 0, []), (8, .imul, 0, []), (9, .istore_n 2, 0, []), (10, .iload_n 0, 0, []), (11, .tableswitch 64 1 5 #[33, 64, 37, 39, 62], 2, []), (44, .iload_n 1, 0, []), (45, .iconst 1, 0, []), (46, .iadd, 0, []), (47, .ireturn, 4, []), (48, .iload_n 1, 0, []), (49, .ireturn, 4, []), (50, .iload_n 1, 0, []), (51, .sipush 10000, 0, []), (54, .if_icmp .ge 7, 2, []), (57, .iload_n 2, 0, []), (58, .goto 14, 2, []), (61, .iload_n 1, 0, []), (62, .sipush 10000, 0, []), (65, .idiv, 0, []), (66, .iconst 1, 0, []), (67, .iadd, 0, []), (68, .sipush 10000, 0, []), (71, .imul, 0, []), (72, .ireturn, 4, []), (73, .iload_n 2, 0, []), (74, .ireturn, 4, []), (75, .ldc 22, 0, []), (77, .ireturn, 4, [])]
def xm106 : XM := (⟨"PackWright$Range", "endOf", "(II)I"⟩, prog_8_method_2_code, 3, (some .int), { frames := 0, cells := 0, slots := 0, locals := 0 }, [], xm106c, 2)
def xm107c : List XI := [(0, .aload_n 1, 0, []), (1, .getfield 23, 1, [10, 1, 896]), (4, .aload_n 0, 0, []), (5, .getfield 9, 1, [9, 0, 973]), (8, .if_icmp .lt 18, 2, []), (11, .aload_n 1, 0, []), (12, .getfield 23, 1, [10, 1, 896]), (15, .aload_n 0, 0, []), (16, .getfield 19, 1, [9, 1, 974]), (19, .if_icmp .ge 7, 2, []), (22, .iconst 1, 0, []), (23, .goto 4, 2, []), (26, .iconst 0, 0, []), (27, .ireturn, 4, [])]
def xm107 : XM := (⟨"PackWright$Range", "admits", "(LPackWright$Version;)Z"⟩, prog_8_method_3_code, 2, (some .boolean), { frames := 0, cells := 0, slots := 0, locals := 0 }, [], xm107c, 2)
def xm108c : List XI := [(0, .aload_n 0, 0, []), (1, .invokespecial 3, 6, [641, 78, 79]), (4, .aload_n 0, 0, []), (5, .new 9, 1, [6, 642, 594, 30]), (8, .dup, 0, []), (9, .invokespecial 11, 3, [3, 121, 0, 30, 597, 643, 596, 0]), (12, .putfield 12, 1, [5, 0, 647]), (15, .aload_n 0, 0, []), (16, .new 18, 1, [2, 644, 158, 31]), (19, .dup, 0, []), (20, .invokespecial 20, 3, [3, 73, 0, 31, 620, 645, 619, 0]), (23, .putfield 21, 1, [5, 1, 648]), (26, .aload_n 0, 0, []), (27, .bipush 96, 0, []), (29, .anewarray 25, 1, [3, 646]), (32, .putfield 27, 1, [5, 3, 652]), (35, .aload_n 0, 0, []), (36, .bipush 12, 0, []), (38, .newarray .int, 1, [0, 615]), (40, .putfield 31, 1, [5, 4, 653]), (43, .aload_n 0, 0, []), (44, .bipush 12, 0, []), (46, .newarray .int, 1, [0, 615]), (48, .putfield 35, 1, [5, 5, 654]), (51, .aload_n 0, 0, []), (52, .bipush 12, 0, []), (54, .newarray .int, 1, [0, 615]), (56, .putfield 38, 1, [5, 6, 655]), (59, .aload_n 0, 0, []), (60, .bipush 12, 0, []), (62, .newarray .int, 1, [0, 615]), (64, .putfield 41, 1, [5, 9, 658]), (67, .return_, 4, [])]
def xm108 : XM := (⟨"PackWright$Resolver", "<init>", "()V"⟩, prog_9_method_1_code, 1, none, { frames := 2, cells := 10, slots := 178, locals := 40 }, [], xm108c, 1)
def xm109c : List XI := [(0, .aload_n 0, 0, []), (1, .getfield 12, 1, [5, 0, 647]), (4, .aload_n 1, 0, []), (5, .iload_n 2, 0, []), (6, .invokevirtual 44, 3, [1, 124, 6, 30, 194, 191, 192, 193]), (9, .aload_n 0, 0, []), (10, .getfield 21, 1, [5, 1, 648]), (13, .invokevirtual 48, 3, [1, 74, 2, 31, 203, 200, 201, 202]), (16, .aload_n 0, 0, []), (17, .iconst 0, 0, []), (18, .putfield 51, 1, [5, 2, 650]), (21, .aload_n 0, 0, []), (22, .iconst 0, 0, []), (23, .putfield 55, 1, [5, 10, 659]), (26, .return_, 4, [])]
def xm109 : XM := (⟨"PackWright$Resolver", "begin", "(LPackWright$Wishes;I)V"⟩, prog_9_method_2_code, 3, none, { frames := 2, cells := 0, slots := 0, locals := 44 }, [], xm109c, 3)
def xm110c : List XI := [(0, .aload_n 0, 0, []), (1, .getfield 31, 1, [5, 4, 653]), (4, .iload_n 1, 0, []), (5, .iconst 0, 0, []), (6, .iastore, 1, []), (7, .aload_n 3, 0, []), (8, .ifnull 9, 2, []), (11, .aload_n 0, 0, []), (12, .iload_n 1, 0, []), (13, .aload_n 3, 0, []), (14, .invokevirtual 58, 3, [1, 112, 5, 32, 213, 209, 211, 6]), (17, .iconst 0, 0, []), (18, .istore 4, 0, []), (20, .iload 4, 0, []), (22, .aload_n 2, 0, []), (23, .getfield 62, 1, [3, 2, 1043]), (26, .if_icmp .ge 43, 2, []), (29, .aload_n 2, 0, []), (30, .iload 4, 0, []), (32, .invokevirtual 67, 3, [1, 95, 3, 40, 217, 214, 215, 216]), (35, .astore 5, 0, []), (37, .aload 5, 0, []), (39, .ifnull 24, 2, []), (42, .aload 5, 0, []), (44, .aload_n 3, 0, []), (45, .if_acmp .eq 18, 2, []), (48, .aload 5, 0, []), (50, .getfield 71, 1, [10, 3, 901]), (53, .ifCond .ne 10, 2, []), (56, .aload_n 0, 0, []), (57, .iload_n 1, 0, []), (58, .aload 5, 0, []), (60, .invokevirtual 58, 3, [1, 112, 5, 32, 213, 209, 211, 6]), (63, .iinc 4 1, 0, []), (66, .goto (-46), 2, []), (69, .return_, 4, [])]
def xm110 : XM := (⟨"PackWright$Resolver", "listCandidates", "(ILPackWright$Pack;LPackWright$Version;)V"⟩, prog_9_method_3_code, 6, none, { frames := 1, cells := 0, slots := 0, locals := 22 }, [], xm110c, 4)
def xm111c : List XI := [(0, .aload_n 0, 0, []), (1, .invokevirtual 75, 3, [1, 114, 5, 32, 225, 222, 224, 7]), (4, .ifCond .ne 5, 2, []), (7, .iconst 0, 0, []), (8, .ireturn, 4, []), (9, .iconst 0, 0, []), (10, .istore_n 1, 0, []), (11, .iload_n 1, 0, []), (12, .sipush 10004, 0, []), (15, .if_icmp .ge 125, 2, []), (18, .aload_n 0, 0, []), (19, .getfield 55, 1, [5, 10, 659]), (22, .ifCond .le 118, 2, []), (25, .aload_n 0, 0, []), (26, .getfield 41, 1, [5, 9, 658]), (29, .aload_n 0, 0, []), (30, .getfield 55, 1, [5, 10, 659]), (33, .iconst 1, 0, []), (34, .isub, 0, []), (35, .iaload, 1, []), (36, .istore_n 2, 0, []), (37, .aload_n 0, 0, []), (38, .getfield 21, 1, [5, 1, 648]), (41, .getfield 79, 1, [2, 0, 627]), (44, .iload_n 2, 0, []), (45, .aload_n 0, 0, []), (46, .iload_n 2, 0, []), (47, .invokevirtual 82, 3, [1, 113, 5, 32, 239, 236, 238, 10]), (50, .aastore, 1, []), (51, .aload_n 0, 0, []), (52, .getfield 21, 1, [5, 1, 648]), (55, .getfield 79, 1, [2, 0, 627]), (58, .iload_n 2, 0, []), (59, .aaload, 1, []), (60, .ifnonnull 16, 2, []), (63, .aload_n 0, 0, []), (64, .dup, 0, []), (65, .getfield 55, 1, [5, 10, 659]), (68, .iconst 1, 0, []), (69, .isub, 0, []), (70, .putfield 55, 1, [5, 10, 659]), (73, .goto 61, 2, []), (76, .aload_n 0, 0, []), (77, .dup, 0, []), (78, .getfield 51, 1, [5, 2, 650]), (81, .iconst 1, 0, []), (82, .iadd, 0, []), (83, .putfield 51, 1, [5, 2, 650]), (86, .aload_n 0, 0, []), (87, .getfield 51, 1, [5, 2, 650]), (90, .sipush 5000, 0, []), (93, .if_icmp .le 6, 2, []), (96, .bipush (-2), 0, []), (98, .ireturn, 4, []), (99, .aload_n 0, 0, []), (100, .getfield 21, 1, [5, 1, 648]), (103, .aload_n 0, 0, []), (104, .getfield 12, 1, [5, 0, 647]), (107, .invokevirtual 85, 3, [1, 79, 2, 31, 154, 240, 152, 153]), (110, .aload_n 0, 0, []), (111, .getfield 21, 1, [5, 1, 648]), (114, .aload_n 0, 0, []), (115, .getfield 12, 1, [5, 0, 647]), (118, .iconst 0, 0, []), (119, .invokevirtual 89, 3, [1, 82, 2, 31, 244, 241, 242, 243]), (122, .ifCond .eq 12, 2, []), (125, .aload_n 0, 0, []), (126, .invokevirtual 75, 3, [1, 114, 5, 32, 225, 222, 224, 7]), (129, .ifCond .ne 5, 2, []), (132, .iconst 0, 0, []), (133, .ireturn, 4, []), (134, .iinc 1 1, 0, []), (137, .goto (-126), 2, []), (140, .iconst (-1), 0, []), (141, .ireturn, 4, [])]
def xm111 : XM := (⟨"PackWright$Resolver", "search", "()I"⟩, prog_9_method_4_code, 3, (some .int), { frames := 4, cells := 0, slots := 0, locals := 92 }, [], xm111c, 1)
def xm112c : List XI := [(0, .aload_n 0, 0, []), (1, .getfield 31, 1, [5, 4, 653]), (4, .iload_n 1, 0, []), (5, .iaload, 1, []), (6, .bipush 8, 0, []), (8, .if_icmp .ge 30, 2, []), (11, .aload_n 0, 0, []), (12, .getfield 27, 1, [5, 3, 652]), (15, .iload_n 1, 0, []), (16, .bipush 8, 0, []), (18, .imul, 0, []), (19, .aload_n 0, 0, []), (20, .getfield 31, 1, [5, 4, 653]), (23, .iload_n 1, 0, []), (24, .iaload, 1, []), (25, .iadd, 0, []), (26, .aload_n 2, 0, []), (27, .aastore, 1, []), (28, .aload_n 0, 0, []), (29, .getfield 31, 1, [5, 4, 653]), (32, .iload_n 1, 0, []), (33, .dup2, 0, []), (34, .iaload, 1, []), (35, .iconst 1, 0, []), (36, .iadd, 0, []), (37, .iastore, 1, []), (38, .return_, 4, [])]
def xm112 : XM := (⟨"PackWright$Resolver", "addCandidate", "(ILPackWright$Version;)V"⟩, prog_9_method_5_code, 3, none, { frames := 0, cells := 0, slots := 0, locals := 0 }, [], xm112c, 3)
def xm113c : List XI := [(0, .aload_n 0, 0, []), (1, .getfield 35, 1, [5, 5, 654]), (4, .iload_n 1, 0, []), (5, .iaload, 1, []), (6, .aload_n 0, 0, []), (7, .getfield 31, 1, [5, 4, 653]), (10, .iload_n 1, 0, []), (11, .iaload, 1, []), (12, .if_icmp .lt 5, 2, []), (15, .aconst_null, 0, []), (16, .areturn, 4, []), (17, .aload_n 0, 0, []), (18, .getfield 35, 1, [5, 5, 654]), (21, .iload_n 1, 0, []), (22, .dup2, 0, []), (23, .iaload, 1, []), (24, .iconst 1, 0, []), (25, .iadd, 0, []), (26, .iastore, 1, []), (27, .aload_n 0, 0, []), (28, .getfield 27, 1, [5, 3, 652]), (31, .iload_n 1, 0, []), (32, .bipush 8, 0, []), (34, .imul, 0, []), (35, .aload_n 0, 0, []), (36, .getfield 35, 1, [5, 5, 654]), (39, .iload_n 1, 0, []), (40, .iaload, 1, []), (41, .iadd, 0, []), (42, .iconst 1, 0, []), (43, .isub, 0, []), (44, .aaload, 1, []), (45, .areturn, 4, [])]
def xm113 : XM := (⟨"PackWright$Resolver", "nextCandidate", "(I)LPackWright$Version;"⟩, prog_9_method_6_code, 2, (some (.object "PackWright$Version")), { frames := 0, cells := 0, slots := 0, locals := 0 }, [], xm113c, 2)
def xm114c : List XI := [(0, .aload_n 0, 0, []), (1, .invokevirtual 93, 3, [1, 115, 5, 32, 229, 226, 228, 8]), (4, .istore_n 1, 0, []), (5, .iload_n 1, 0, []), (6, .iconst (-1), 0, []), (7, .if_icmp .eq 12, 2, []), (10, .aload_n 0, 0, []), (11, .getfield 55, 1, [5, 10, 659]), (14, .bipush 12, 0, []), (16, .if_icmp .lt 5, 2, []), (19, .iconst 0, 0, []), (20, .ireturn, 4, []), (21, .aload_n 0, 0, []), (22, .getfield 35, 1, [5, 5, 654]), (25, .iload_n 1, 0, []), (26, .iconst 0, 0, []), (27, .iastore, 1, []), (28, .aload_n 0, 0, []), (29, .getfield 41, 1, [5, 9, 658]), (32, .aload_n 0, 0, []), (33, .getfield 55, 1, [5, 10, 659]), (36, .iload_n 1, 0, []), (37, .iastore, 1, []), (38, .aload_n 0, 0, []), (39, .dup, 0, []), (40, .getfield 55, 1, [5, 10, 659]), (43, .iconst 1, 0, []), (44, .iadd, 0, []), (45, .putfield 55, 1, [5, 10, 659]), (48, .iconst 1, 0, []), (49, .ireturn, 4, [])]
def xm114 : XM := (⟨"PackWright$Resolver", "openLevel", "()Z"⟩, prog_9_method_7_code, 2, (some .boolean), { frames := 3, cells := 0, slots := 0, locals := 66 }, [], xm114c, 1)
def xm115c : List XI := [(0, .aload_n 0, 0, []), (1, .iconst 0, 0, []), (2, .putfield 97, 1, [5, 7, 656]), (5, .aload_n 0, 0, []), (6, .iconst 0, 0, []), (7, .putfield 100, 1, [5, 8, 657]), (10, .iconst 0, 0, []), (11, .istore_n 1, 0, []), (12, .iload_n 1, 0, []), (13, .aload_n 0, 0, []), (14, .getfield 12, 1, [5, 0, 647]), (17, .getfield 103, 1, [6, 1, 608]), (20, .if_icmp .ge 25, 2, []), (23, .aload_n 0, 0, []), (24, .aload_n 0, 0, []), (25, .getfield 12, 1, [5, 0, 647]), (28, .getfield 104, 1, [6, 0, 604]), (31, .iload_n 1, 0, []), (32, .aaload, 1, []), (33, .getfield 107, 1, [8, 0, 988]), (36, .invokevirtual 112, 3, [1, 116, 5, 32, 233, 230, 232, 9]), (39, .iinc 1 1, 0, []), (42, .goto (-30), 2, []), (45, .iconst 0, 0, []), (46, .istore_n 1, 0, []), (47, .iload_n 1, 0, []), (48, .bipush 12, 0, []), (50, .if_icmp .ge 87, 2, []), (53, .iload_n 1, 0, []), (54, .aload_n 0, 0, []), (55, .getfield 97, 1, [5, 7, 656]), (58, .if_icmp .ge 79, 2, []), (61, .aload_n 0, 0, []), (62, .getfield 38, 1, [5, 6, 655]), (65, .iload_n 1, 0, []), (66, .iaload, 1, []), (67, .istore_n 2, 0, []), (68, .aload_n 0, 0, []), (69, .getfield 21, 1, [5, 1, 648]), (72, .getfield 79, 1, [2, 0, 627]), (75, .iload_n 2, 0, []), (76, .aaload, 1, []), (77, .astore_n 3, 0, []), (78, .aload_n 3, 0, []), (79, .ifnonnull 5, 2, []), (82, .iload_n 2, 0, []), (83, .ireturn, 4, []), (84, .aload_n 3, 0, []), (85, .getfield 116, 1, [10, 4, 906]), (88, .astore 4, 0, []), (90, .aload 4, 0, []), (92, .ifnull 39, 2, []), (95, .aload 4, 0, []), (97, .aload_n 0, 0, []), (98, .getfield 21, 1, [5, 1, 648]), (101, .getfield 120, 1, [2, 1, 630]), (104, .iload_n 2, 0, []), (105, .iaload, 1, []), (106, .invokevirtual 123, 3, [1, 90, 8, 46, 167, 235, 165, 166]), (109, .ifCond .eq 12, 2, []), (112, .aload_n 0, 0, []), (113, .aload 4, 0, []), (115, .getfield 107, 1, [8, 0, 988]), (118, .invokevirtual 112, 3, [1, 116, 5, 32, 233, 230, 232, 9]), (121, .aload 4, 0, []), (123, .getfield 127, 1, [8, 4, 997]), (126, .astore 4, 0, []), (128, .goto (-38), 2, []), (131, .iinc 1 1, 0, []), (134, .goto (-87), 2, []), (137, .iconst (-1), 0, []), (138, .ireturn, 4, [])]
def xm115 : XM := (⟨"PackWright$Resolver", "firstWithoutVersion", "()I"⟩, prog_9_method_8_code, 5, (some .int), { frames := 2, cells := 0, slots := 0, locals := 42 }, [], xm115c, 1)
def xm116c : List XI := [(0, .aload_n 0, 0, []), (1, .getfield 100, 1, [5, 8, 657]), (4, .iload_n 1, 0, []), (5, .invokestatic 130, 3, [4, 61, 0, 29, 178, 234, 177, 0]), (8, .ifCond .ne 44, 2, []), (11, .aload_n 0, 0, []), (12, .getfield 97, 1, [5, 7, 656]), (15, .bipush 12, 0, []), (17, .if_icmp .ge 35, 2, []), (20, .aload_n 0, 0, []), (21, .getfield 38, 1, [5, 6, 655]), (24, .aload_n 0, 0, []), (25, .getfield 97, 1, [5, 7, 656]), (28, .iload_n 1, 0, []), (29, .iastore, 1, []), (30, .aload_n 0, 0, []), (31, .dup, 0, []), (32, .getfield 97, 1, [5, 7, 656]), (35, .iconst 1, 0, []), (36, .iadd, 0, []), (37, .putfield 97, 1, [5, 7, 656]), (40, .aload_n 0, 0, []), (41, .dup, 0, []), (42, .getfield 100, 1, [5, 8, 657]), (45, .iconst 1, 0, []), (46, .iload_n 1, 0, []), (47, .ishl, 0, []), (48, .ior, 0, []), (49, .putfield 100, 1, [5, 8, 657]), (52, .return_, 4, [])]
def xm116 : XM := (⟨"PackWright$Resolver", "addToRow", "(I)V"⟩, prog_9_method_9_code, 2, none, { frames := 1, cells := 0, slots := 0, locals := 21 }, [], xm116c, 2)
def xm117c : List XI := [(0, .aload_n 0, 0, []), (1, .invokespecial 1, 6, [890, 78, 79]), (4, .aload_n 0, 0, []), (5, .iload_n 1, 0, []), (6, .putfield 7, 1, [10, 0, 891]), (9, .aload_n 0, 0, []), (10, .iload_n 2, 0, []), (11, .putfield 13, 1, [10, 1, 894]), (14, .aload_n 0, 0, []), (15, .iload_n 3, 0, []), (16, .putfield 16, 1, [10, 2, 898]), (19, .return_, 4, [])]
def xm117 : XM := (⟨"PackWright$Version", "<init>", "(III)V"⟩, prog_10_method_1_code, 4, none, { frames := 1, cells := 0, slots := 0, locals := 20 }, [], xm117c, 4)
def xm118c : List XI := [(0, .aload_n 0, 0, []), (1, .aload_n 0, 0, []), (2, .getfield 19, 1, [10, 4, 904]), (5, .aload_n 1, 0, []), (6, .invokestatic 23, 3, [0, 120, 0, 43, 1015, 1013, 1014, 0]), (9, .putfield 19, 1, [10, 4, 904]), (12, .aload_n 0, 0, []), (13, .dup, 0, []), (14, .getfield 27, 1, [10, 5, 907]), (17, .iconst 1, 0, []), (18, .iadd, 0, []), (19, .putfield 27, 1, [10, 5, 907]), (22, .aload_n 0, 0, []), (23, .getfield 27, 1, [10, 5, 907]), (26, .iconst 1, 0, []), (27, .isub, 0, []), (28, .ireturn, 4, [])]
def xm118 : XM := (⟨"PackWright$Version", "addNeed", "(LPackWright$Claim;)I"⟩, prog_10_method_2_code, 2, (some .int), { frames := 1, cells := 0, slots := 0, locals := 22 }, [], xm118c, 2)
def xm119c : List XI := [(0, .aload_n 0, 0, []), (1, .aload_n 0, 0, []), (2, .getfield 30, 1, [10, 6, 909]), (5, .aload_n 1, 0, []), (6, .invokestatic 23, 3, [0, 120, 0, 43, 1015, 1013, 1014, 0]), (9, .putfield 30, 1, [10, 6, 909]), (12, .aload_n 0, 0, []), (13, .dup, 0, []), (14, .getfield 33, 1, [10, 7, 911]), (17, .iconst 1, 0, []), (18, .iadd, 0, []), (19, .putfield 33, 1, [10, 7, 911]), (22, .aload_n 0, 0, []), (23, .getfield 33, 1, [10, 7, 911]), (26, .iconst 1, 0, []), (27, .isub, 0, []), (28, .ireturn, 4, [])]
def xm119 : XM := (⟨"PackWright$Version", "addClash", "(LPackWright$Claim;)I"⟩, prog_10_method_3_code, 2, (some .int), { frames := 1, cells := 0, slots := 0, locals := 22 }, [], xm119c, 2)
def xm120c : List XI := [(0, .aload_n 0, 0, []), (1, .ifnonnull 5, 2, []), (4, .aload_n 1, 0, []), (5, .areturn, 4, []), (6, .aload_n 0, 0, []), (7, .astore_n 2, 0, []), (8, .aload_n 2, 0, []), (9, .getfield 36, 1, [8, 4, 995]), (12, .ifnull 11, 2, []), (15, .aload_n 2, 0, []), (16, .getfield 36, 1, [8, 4, 995]), (19, .astore_n 2, 0, []), (20, .goto (-12), 2, []), (23, .aload_n 2, 0, []), (24, .aload_n 1, 0, []), (25, .putfield 36, 1, [8, 4, 995]), (28, .aload_n 0, 0, []), (29, .areturn, 4, [])]
def xm120 : XM := (⟨"PackWright$Version", "joined", "(LPackWright$Claim;LPackWright$Claim;)LPackWright$Claim;"⟩, prog_10_method_4_code, 3, (some (.object "PackWright$Claim")), { frames := 0, cells := 0, slots := 0, locals := 0 }, [], xm120c, 2)
def xm121c : List XI := [(0, .aload_n 0, 0, []), (1, .invokespecial 3, 6, [598, 78, 79]), (4, .aload_n 0, 0, []), (5, .bipush 6, 0, []), (7, .anewarray 9, 1, [5, 599]), (10, .putfield 11, 1, [6, 0, 601]), (13, .return_, 4, [])]
def xm121 : XM := (⟨"PackWright$Wishes", "<init>", "()V"⟩, prog_11_method_1_code, 1, none, { frames := 1, cells := 1, slots := 6, locals := 20 }, [], xm121c, 1)
def xm122c : List XI := [(0, .aload_n 0, 0, []), (1, .getfield 17, 1, [6, 1, 605]), (4, .bipush 6, 0, []), (6, .if_icmp .ge 23, 2, []), (9, .aload_n 0, 0, []), (10, .getfield 11, 1, [6, 0, 601]), (13, .aload_n 0, 0, []), (14, .getfield 17, 1, [6, 1, 605]), (17, .aload_n 1, 0, []), (18, .aastore, 1, []), (19, .aload_n 0, 0, []), (20, .dup, 0, []), (21, .getfield 17, 1, [6, 1, 605]), (24, .iconst 1, 0, []), (25, .iadd, 0, []), (26, .putfield 17, 1, [6, 1, 605]), (29, .return_, 4, [])]
def xm122 : XM := (⟨"PackWright$Wishes", "add", "(LPackWright$Claim;)V"⟩, prog_11_method_2_code, 2, none, { frames := 0, cells := 0, slots := 0, locals := 0 }, [], xm122c, 2)
def xm123c : List XI := [(0, .iconst 1, 0, []), (1, .aload_n 0, 0, []), (2, .getfield 17, 1, [6, 1, 605]), (5, .ishl, 0, []), (6, .iconst 1, 0, []), (7, .isub, 0, []), (8, .ireturn, 4, [])]
def xm123 : XM := (⟨"PackWright$Wishes", "all", "()I"⟩, prog_11_method_4_code, 1, (some .int), { frames := 0, cells := 0, slots := 0, locals := 0 }, [], xm123c, 1)
def xm124c : List XI := [(0, .aload_n 0, 0, []), (1, .iconst 0, 0, []), (2, .putfield 17, 1, [6, 1, 605]), (5, .iconst 0, 0, []), (6, .istore_n 3, 0, []), (7, .iload_n 3, 0, []), (8, .aload_n 1, 0, []), (9, .getfield 17, 1, [6, 1, 605]), (12, .if_icmp .ge 27, 2, []), (15, .iload_n 2, 0, []), (16, .iload_n 3, 0, []), (17, .invokestatic 21, 3, [4, 61, 0, 29, 178, 195, 177, 0]), (20, .ifCond .eq 13, 2, []), (23, .aload_n 0, 0, []), (24, .aload_n 1, 0, []), (25, .getfield 11, 1, [6, 0, 601]), (28, .iload_n 3, 0, []), (29, .aaload, 1, []), (30, .invokevirtual 25, 3, [1, 122, 6, 30, 199, 196, 197, 198]), (33, .iinc 3 1, 0, []), (36, .goto (-29), 2, []), (39, .return_, 4, [])]
def xm124 : XM := (⟨"PackWright$Wishes", "take", "(LPackWright$Wishes;I)V"⟩, prog_11_method_5_code, 4, none, { frames := 1, cells := 0, slots := 0, locals := 21 }, [], xm124c, 3)
def xm125c : List XI := [(0, .iload_n 0, 0, []), (1, .ldc 7, 0, []), (3, .iand, 0, []), (4, .iload_n 1, 0, []), (5, .irem, 0, []), (6, .ireturn, 4, [])]
def xm125 : XM := (⟨"PackWrightLaw", "below", "(II)I"⟩, method_2_code, 2, (some .int), { frames := 0, cells := 0, slots := 0, locals := 0 }, [], xm125c, 2)
def xm126c : List XI := [(0, .iload_n 1, 0, []), (1, .aload_n 0, 0, []), (2, .arraylength, 1, []), (3, .if_icmp .ge 9, 2, []), (6, .aload_n 0, 0, []), (7, .iload_n 1, 0, []), (8, .iaload, 1, []), (9, .goto 9, 2, []), (12, .ldc 8, 0, []), (14, .iload_n 1, 0, []), (15, .iconst 3, 0, []), (16, .iadd, 0, []), (17, .imul, 0, []), (18, .ireturn, 4, [])]
def xm126 : XM := (⟨"PackWrightLaw", "cell", "([II)I"⟩, method_3_code, 2, (some .int), { frames := 0, cells := 0, slots := 0, locals := 0 }, [], xm126c, 2)
def xm127c : List XI := [(0, .aload_n 0, 0, []), (1, .invokespecial 1, 6, [578, 78, 79]), (4, .aload_n 0, 0, []), (5, .bipush 6, 0, []), (7, .newarray .int, 1, [0, 615]), (9, .putfield 7, 1, [11, 4, 799]), (12, .aload_n 0, 0, []), (13, .bipush 6, 0, []), (15, .iconst 4, 0, []), (16, .multianewarray 13 2, 1, [8, 6, 579]), (20, .putfield 15, 1, [11, 5, 801]), (23, .aload_n 0, 0, []), (24, .bipush 6, 0, []), (26, .iconst 4, 0, []), (27, .multianewarray 18 2, 1, [6, 0, 582, 615]), (31, .putfield 20, 1, [11, 6, 803]), (34, .aload_n 0, 0, []), (35, .bipush 6, 0, []), (37, .iconst 4, 0, []), (38, .multianewarray 23 2, 1, [7, 1, 583, 616]), (42, .putfield 25, 1, [11, 7, 805]), (45, .aload_n 0, 0, []), (46, .bipush 6, 0, []), (48, .iconst 4, 0, []), (49, .iconst 0, 0, []), (50, .multianewarray 13 3, 1, [615, 579]), (54, .putfield 28, 1, [11, 8, 807]), (57, .aload_n 0, 0, []), (58, .bipush 6, 0, []), (60, .iconst 4, 0, []), (61, .iconst 0, 0, []), (62, .multianewarray 13 3, 1, [615, 579]), (66, .putfield 31, 1, [11, 9, 808]), (69, .aload_n 0, 0, []), (70, .bipush 6, 0, []), (72, .anewarray 34, 1, [6, 585]), (75, .putfield 35, 1, [11, 11, 811]), (78, .aload_n 0, 0, []), (79, .aload_n 1, 0, []), (80, .putfield 38, 1, [11, 1, 795]), (83, .aload_n 0, 0, []), (84, .iload_n 2, 0, []), (85, .putfield 41, 1, [11, 2, 796]), (88, .aload_n 0, 0, []), (89, .new 45, 1, [7, 586, 125, 29]), (92, .dup, 0, []), (93, .invokespecial 47, 3, [2, 0, 0, 29, 589, 587, 588, 0]), (96, .putfield 48, 1, [11, 0, 793]), (99, .return_, 4, [])]
def xm127 : XM := (⟨"PackWrightLaw$Reg", "<init>", "([II)V"⟩, prog_13_method_1_code, 3, none, { frames := 4, cells := 118, slots := 718, locals := 80 }, [], xm127c, 3)
def xm128c : List XI := [(0, .aload_n 0, 0, []), (1, .getfield 38, 1, [11, 1, 795]), (4, .aload_n 0, 0, []), (5, .getfield 41, 1, [11, 2, 796]), (8, .bipush 24, 0, []), (10, .irem, 0, []), (11, .invokestatic 52, 3, [4, 126, 0, 27, 846, 844, 845, 0]), (14, .aload_n 0, 0, []), (15, .getfield 41, 1, [11, 2, 796]), (18, .bipush 24, 0, []), (20, .idiv, 0, []), (21, .bipush 8, 0, []), (23, .irem, 0, []), (24, .ishr, 0, []), (25, .bipush 43, 0, []), (27, .aload_n 0, 0, []), (28, .getfield 41, 1, [11, 2, 796]), (31, .imul, 0, []), (32, .iadd, 0, []), (33, .iload_n 1, 0, []), (34, .invokestatic 58, 3, [4, 125, 0, 27, 850, 848, 849, 0]), (37, .istore_n 2, 0, []), (38, .aload_n 0, 0, []), (39, .dup, 0, []), (40, .getfield 41, 1, [11, 2, 796]), (43, .iconst 1, 0, []), (44, .iadd, 0, []), (45, .putfield 41, 1, [11, 2, 796]), (48, .iload_n 2, 0, []), (49, .ireturn, 4, [])]
def xm128 : XM := (⟨"PackWrightLaw$Reg", "draw", "(I)I"⟩, prog_13_method_2_code, 3, (some .int), { frames := 1, cells := 0, slots := 0, locals := 21 }, [], xm128c, 2)
def xm129c : List XI := [(0, .iconst 4, 0, []), (1, .newarray .int, 1, [0, 615]), (3, .dup, 0, []), (4, .iconst 0, 0, []), (5, .aload_n 0, 0, []), (6, .bipush 6, 0, []), (8, .invokevirtual 62, 3, [1, 128, 11, 28, 843, 859, 841, 842]), (11, .iastore, 1, []), (12, .dup, 0, []), (13, .iconst 1, 0, []), (14, .aload_n 0, 0, []), (15, .iconst 3, 0, []), (16, .invokevirtual 62, 3, [1, 128, 11, 28, 843, 859, 841, 842]), (19, .iastore, 1, []), (20, .dup, 0, []), (21, .iconst 2, 0, []), (22, .aload_n 0, 0, []), (23, .iconst 3, 0, []), (24, .invokevirtual 62, 3, [1, 128, 11, 28, 843, 859, 841, 842]), (27, .iastore, 1, []), (28, .dup, 0, []), (29, .iconst 3, 0, []), (30, .aload_n 0, 0, []), (31, .iconst 2, 0, []), (32, .invokevirtual 62, 3, [1, 128, 11, 28, 843, 859, 841, 842]), (35, .iastore, 1, []), (36, .astore_n 1, 0, []), (37, .aload_n 1, 0, []), (38, .areturn, 4, [])]
def xm129 : XM := (⟨"PackWrightLaw$Reg", "range", "()[I"⟩, prog_13_method_3_code, 2, (some (.array .int)), { frames := 2, cells := 1, slots := 4, locals := 43 }, [], xm129c, 1)
def xm130c : List XI := [(0, .aload_n 0, 0, []), (1, .arraylength, 1, []), (2, .aload_n 1, 0, []), (3, .arraylength, 1, []), (4, .iadd, 0, []), (5, .newarray .int, 1, [0, 615]), (7, .astore_n 2, 0, []), (8, .aload_n 0, 0, []), (9, .iconst 0, 0, []), (10, .aload_n 2, 0, []), (11, .iconst 0, 0, []), (12, .aload_n 0, 0, []), (13, .arraylength, 1, []), (14, .invokestatic 66, 7, [937, 939, 938, 44]), (17, .aload_n 1, 0, []), (18, .iconst 0, 0, []), (19, .aload_n 2, 0, []), (20, .aload_n 0, 0, []), (21, .arraylength, 1, []), (22, .aload_n 1, 0, []), (23, .arraylength, 1, []), (24, .invokestatic 66, 7, [937, 939, 938, 44]), (27, .aload_n 2, 0, []), (28, .areturn, 4, [])]
def xm130 : XM := (⟨"PackWrightLaw$Reg", "joined", "([I[I)[I"⟩, prog_13_method_4_code, 3, (some (.array .int)), { frames := 1, cells := 1, slots := 64, locals := 68 }, [], xm130c, 2)
def xm131c : List XI := [(0, .iconst 3, 0, []), (1, .newarray .int, 1, [0, 615]), (3, .dup, 0, []), (4, .iconst 0, 0, []), (5, .aload_n 0, 0, []), (6, .iload_n 1, 0, []), (7, .iconst 1, 0, []), (8, .iadd, 0, []), (9, .iaload, 1, []), (10, .iastore, 1, []), (11, .dup, 0, []), (12, .iconst 1, 0, []), (13, .aload_n 0, 0, []), (14, .iload_n 1, 0, []), (15, .iconst 2, 0, []), (16, .iadd, 0, []), (17, .iaload, 1, []), (18, .iastore, 1, []), (19, .dup, 0, []), (20, .iconst 2, 0, []), (21, .aload_n 0, 0, []), (22, .iload_n 1, 0, []), (23, .iconst 3, 0, []), (24, .iadd, 0, []), (25, .iaload, 1, []), (26, .iastore, 1, []), (27, .astore_n 3, 0, []), (28, .aload_n 2, 0, []), (29, .aload_n 3, 0, []), (30, .invokestatic 72, 3, [0, 132, 0, 28, 854, 860, 853, 0]), (33, .istore 4, 0, []), (35, .aload_n 0, 0, []), (36, .iload_n 1, 0, []), (37, .iaload, 1, []), (38, .tableswitch 104 0 4 #[34, 36, 47, 58, 69], 2, []), (72, .iconst 1, 0, []), (73, .ireturn, 4, []), (74, .iload 4, 0, []), (76, .ifCond .ne 7, 2, []), (79, .iconst 1, 0, []), (80, .goto 4, 2, []), (83, .iconst 0, 0, []), (84, .ireturn, 4, []), (85, .iload 4, 0, []), (87, .ifCond .lt 7, 2, []), (90, .iconst 1, 0, []), (91, .goto 4, 2, []), (94, .iconst 0, 0, []), (95, .ireturn, 4, []), (96, .iload 4, 0, []), (98, .ifCond .ge 7, 2, []), (101, .iconst 1, 0, []), (102, .goto 4, 2, []), (105, .iconst 0, 0, []), (106, .ireturn, 4, []), (107, .iload 4, 0, []), (109, .ifCond .lt 31, 2, []), (112, .aload_n 2, 0, []), (113, .iconst 0, 0, []), (114, .iaload, 1, []), (115, .aload_n 3, 0, []), (116, .iconst 0, 0, []), (117, .iaload, 1, []), (118, .if_icmp .ne 22, 2, []), (121, .aload_n 3, 0, []), (122, .iconst 0, 0, []), (123, .iaload, 1, []), (124, .ifCond .gt 12, 2, []), (127, .aload_n 2, 0, []), (128, .iconst 1, 0, []), (129, .iaload, 1, []), (130, .aload_n 3, 0, []), (131, .iconst 1, 0, []), (132, .iaload, 1, []), (133, .if_icmp .ne 7, 2, []), (136, .iconst 1, 0, []), (137, .goto 4, 2, []), (140, .iconst 0, 0, []), (141, .ireturn, 4, []), (142, .iload 4, 0, []), (144, .ifCond .lt 25, 2, []), (147, .aload_n 2, 0, []), (148, .iconst 0, 0, []), (149, .iaload, 1, []), (150, .aload_n 3, 0, []), (151, .iconst 0, 0, []), (152, .iaload, 1, []), (153, .if_icmp .ne 16, 2, []), (156, .aload_n 2, 0, []), (157, .iconst 1, 0, []), (158, .iaload, 1, []), (159, .aload_n 3, 0, []), (160, .iconst 1, 0, []), (161, .iaload, 1, []), (162, .if_icmp .ne 7, 2, []), (165, .iconst 1, 0, []), (166, .goto 4, 2, []), (169, .iconst 0, 0, []), (170, .ireturn, 4, [])]
def xm131 : XM := (⟨"PackWrightLaw$Reg", "lets", "([II[I)Z"⟩, prog_13_method_5_code, 5, (some .boolean), { frames := 1, cells := 1, slots := 3, locals := 22 }, [], xm131c, 3)
def xm132c : List XI := [(0, .iconst 0, 0, []), (1, .istore_n 2, 0, []), (2, .iload_n 2, 0, []), (3, .iconst 3, 0, []), (4, .if_icmp .ge 33, 2, []), (7, .aload_n 0, 0, []), (8, .iload_n 2, 0, []), (9, .iaload, 1, []), (10, .aload_n 1, 0, []), (11, .iload_n 2, 0, []), (12, .iaload, 1, []), (13, .if_icmp .eq 18, 2, []), (16, .aload_n 0, 0, []), (17, .iload_n 2, 0, []), (18, .iaload, 1, []), (19, .aload_n 1, 0, []), (20, .iload_n 2, 0, []), (21, .iaload, 1, []), (22, .if_icmp .ge 7, 2, []), (25, .iconst (-1), 0, []), (26, .goto 4, 2, []), (29, .iconst 1, 0, []), (30, .ireturn, 4, []), (31, .iinc 2 1, 0, []), (34, .goto (-32), 2, []), (37, .iconst 0, 0, []), (38, .ireturn, 4, [])]
def xm132 : XM := (⟨"PackWrightLaw$Reg", "order", "([I[I)I"⟩, prog_13_method_6_code, 3, (some .int), { frames := 0, cells := 0, slots := 0, locals := 0 }, [], xm132c, 2)
def xm133c : List XI := [(0, .iconst 3, 0, []), (1, .newarray .int, 1, [0, 615]), (3, .dup, 0, []), (4, .iconst 0, 0, []), (5, .aload_n 0, 0, []), (6, .iconst 3, 0, []), (7, .invokevirtual 62, 3, [1, 128, 11, 28, 843, 859, 841, 842]), (10, .iastore, 1, []), (11, .dup, 0, []), (12, .iconst 1, 0, []), (13, .aload_n 0, 0, []), (14, .iconst 3, 0, []), (15, .invokevirtual 62, 3, [1, 128, 11, 28, 843, 859, 841, 842]), (18, .iastore, 1, []), (19, .dup, 0, []), (20, .iconst 2, 0, []), (21, .aload_n 0, 0, []), (22, .iconst 2, 0, []), (23, .invokevirtual 62, 3, [1, 128, 11, 28, 843, 859, 841, 842]), (26, .iastore, 1, []), (27, .astore_n 2, 0, []), (28, .iconst 0, 0, []), (29, .istore_n 3, 0, []), (30, .iload_n 3, 0, []), (31, .aload_n 0, 0, []), (32, .getfield 7, 1, [11, 4, 799]), (35, .iload_n 1, 0, []), (36, .iaload, 1, []), (37, .if_icmp .ge 26, 2, []), (40, .aload_n 0, 0, []), (41, .getfield 15, 1, [11, 5, 801]), (44, .iload_n 1, 0, []), (45, .aaload, 1, []), (46, .iload_n 3, 0, []), (47, .aaload, 1, []), (48, .aload_n 2, 0, []), (49, .invokestatic 72, 3, [0, 132, 0, 28, 854, 860, 853, 0]), (52, .ifCond .ne 5, 2, []), (55, .iconst 1, 0, []), (56, .ireturn, 4, []), (57, .iinc 3 1, 0, []), (60, .goto (-30), 2, []), (63, .aload_n 0, 0, []), (64, .getfield 7, 1, [11, 4, 799]), (67, .iload_n 1, 0, []), (68, .dup2, 0, []), (69, .iaload, 1, []), (70, .dup_x2, 0, []), (71, .iconst 1, 0, []), (72, .iadd, 0, []), (73, .iastore, 1, []), (74, .istore_n 3, 0, []), (75, .aload_n 0, 0, []), (76, .getfield 15, 1, [11, 5, 801]), (79, .iload_n 1, 0, []), (80, .aaload, 1, []), (81, .iload_n 3, 0, []), (82, .aload_n 2, 0, []), (83, .aastore, 1, []), (84, .aload_n 0, 0, []), (85, .getfield 20, 1, [11, 6, 803]), (88, .iload_n 1, 0, []), (89, .aaload, 1, []), (90, .iload_n 3, 0, []), (91, .iconst 1, 0, []), (92, .aload_n 0, 0, []), (93, .sipush 300, 0, []), (96, .invokevirtual 62, 3, [1, 128, 11, 28, 843, 859, 841, 842]), (99, .iadd, 0, []), (100, .iastore, 1, []), (101, .aload_n 0, 0, []), (102, .getfield 48, 1, [11, 0, 793]), (105, .iload_n 1, 0, []), (106, .aload_n 2, 0, []), (107, .iconst 0, 0, []), (108, .iaload, 1, []), (109, .aload_n 2, 0, []), (110, .iconst 1, 0, []), (111, .iaload, 1, []), (112, .aload_n 2, 0, []), (113, .iconst 2, 0, []), (114, .iaload, 1, []), (115, .aload_n 0, 0, []), (116, .getfield 20, 1, [11, 6, 803]), (119, .iload_n 1, 0, []), (120, .aaload, 1, []), (121, .iload_n 3, 0, []), (122, .iaload, 1, []), (123, .invokevirtual 76, 3, [1, 2, 7, 29, 864, 861, 862, 863]), (126, .iload_n 3, 0, []), (127, .if_icmp .eq 5, 2, []), (130, .iconst 0, 0, []), (131, .ireturn, 4, []), (132, .aload_n 0, 0, []), (133, .iconst 3, 0, []), (134, .invokevirtual 62, 3, [1, 128, 11, 28, 843, 859, 841, 842]), (137, .istore 4, 0, []), (139, .iload 4, 0, []), (141, .ifCond .le 168, 2, []), (144, .iload_n 1, 0, []), (145, .iconst 1, 0, []), (146, .iadd, 0, []), (147, .aload_n 0, 0, []), (148, .aload_n 0, 0, []), (149, .getfield 80, 1, [11, 3, 798]), (152, .iconst 1, 0, []), (153, .isub, 0, []), (154, .invokevirtual 62, 3, [1, 128, 11, 28, 843, 859, 841, 842]), (157, .iadd, 0, []), (158, .aload_n 0, 0, []), (159, .getfield 80, 1, [11, 3, 798]), (162, .irem, 0, []), (163, .istore 5, 0, []), (165, .iconst 3, 0, []), (166, .newarray .int, 1, [0, 615]), (168, .dup, 0, []), (169, .iconst 0, 0, []), (170, .iload 5, 0, []), (172, .iastore, 1, []), (173, .dup, 0, []), (174, .iconst 1, 0, []), (175, .aload_n 0, 0, []), (176, .iconst 4, 0, []), (177, .invokevirtual 62, 3, [1, 128, 11, 28, 843, 859, 841, 842]), (180, .ifCond .ne 11, 2, []), (183, .aload_n 0, 0, []), (184, .iconst 2, 0, []), (185, .invokevirtual 62, 3, [1, 128, 11, 28, 843, 859, 841, 842]), (188, .goto 4, 2, []), (191, .iconst (-1), 0, []), (192, .iastore, 1, []), (193, .dup, 0, []), (194, .iconst 2, 0, []), (195, .aload_n 0, 0, []), (196, .iconst 3, 0, []), (197, .invokevirtual 62, 3, [1, 128, 11, 28, 843, 859, 841, 842]), (200, .ifCond .ne 11, 2, []), (203, .aload_n 0, 0, []), (204, .iconst 4, 0, []), (205, .invokevirtual 62, 3, [1, 128, 11, 28, 843, 859, 841, 842]), (208, .goto 4, 2, []), (211, .iconst 0, 0, []), (212, .iastore, 1, []), (213, .astore 6, 0, []), (215, .aload 6, 0, []), (217, .aload_n 0, 0, []), (218, .invokevirtual 83, 3, [1, 129, 11, 28, 933, 930, 931, 932]), (221, .invokestatic 87, 3, [0, 130, 0, 28, 936, 934, 935, 0]), (224, .astore 7, 0, []), (226, .aload_n 0, 0, []), (227, .getfield 28, 1, [11, 8, 807]), (230, .iload_n 1, 0, []), (231, .aaload, 1, []), (232, .iload_n 3, 0, []), (233, .aaload, 1, []), (234, .arraylength, 1, []), (235, .bipush 7, 0, []), (237, .idiv, 0, []), (238, .istore 8, 0, []), (240, .aload_n 0, 0, []), (241, .getfield 28, 1, [11, 8, 807]), (244, .iload_n 1, 0, []), (245, .aaload, 1, []), (246, .iload_n 3, 0, []), (247, .aload_n 0, 0, []), (248, .getfield 28, 1, [11, 8, 807]), (251, .iload_n 1, 0, []), (252, .aaload, 1, []), (253, .iload_n 3, 0, []), (254, .aaload, 1, []), (255, .aload 7, 0, []), (257, .invokestatic 87, 3, [0, 130, 0, 28, 936, 934, 935, 0]), (260, .aastore, 1, []), (261, .aload_n 0, 0, []), (262, .getfield 48, 1, [11, 0, 793]), (265, .iload_n 1, 0, []), (266, .iload 5, 0, []), (268, .aload 7, 0, []), (270, .iconst 1, 0, []), (271, .iaload, 1, []), (272, .aload 7, 0, []), (274, .iconst 2, 0, []), (275, .iaload, 1, []), (276, .aload 7, 0, []), (278, .iconst 3, 0, []), (279, .iaload, 1, []), (280, .aload 7, 0, []), (282, .iconst 4, 0, []), (283, .iaload, 1, []), (284, .aload 7, 0, []), (286, .iconst 5, 0, []), (287, .iaload, 1, []), (288, .aload 7, 0, []), (290, .bipush 6, 0, []), (292, .iaload, 1, []), (293, .invokevirtual 91, 3, [1, 3, 7, 29, 943, 940, 941, 942]), (296, .iload 8, 0, []), (298, .if_icmp .eq 5, 2, []), (301, .iconst 0, 0, []), (302, .ireturn, 4, []), (303, .iinc 4 (-1), 0, []), (306, .goto (-167), 2, []), (309, .aload_n 0, 0, []), (310, .iconst 4, 0, []), (311, .invokevirtual 62, 3, [1, 128, 11, 28, 843, 859, 841, 842]), (314, .ifCond .ne 106, 2, []), (317, .iload_n 1, 0, []), (318, .iconst 1, 0, []), (319, .iadd, 0, []), (320, .aload_n 0, 0, []), (321, .aload_n 0, 0, []), (322, .getfield 80, 1, [11, 3, 798]), (325, .iconst 1, 0, []), (326, .isub, 0, []), (327, .invokevirtual 62, 3, [1, 128, 11, 28, 843, 859, 841, 842]), (330, .iadd, 0, []), (331, .aload_n 0, 0, []), (332, .getfield 80, 1, [11, 3, 798]), (335, .irem, 0, []), (336, .istore 4, 0, []), (338, .iconst 1, 0, []), (339, .newarray .int, 1, [0, 615]), (341, .dup, 0, []), (342, .iconst 0, 0, []), (343, .iload 4, 0, []), (345, .iastore, 1, []), (346, .astore 5, 0, []), (348, .aload_n 0, 0, []), (349, .getfield 31, 1, [11, 9, 808]), (352, .iload_n 1, 0, []), (353, .aaload, 1, []), (354, .iload_n 3, 0, []), (355, .aload 5, 0, []), (357, .aload_n 0, 0, []), (358, .invokevirtual 83, 3, [1, 129, 11, 28, 933, 930, 931, 932]), (361, .invokestatic 87, 3, [0, 130, 0, 28, 936, 934, 935, 0]), (364, .aastore, 1, []), (365, .aload_n 0, 0, []), (366, .getfield 48, 1, [11, 0, 793]), (369, .iload_n 1, 0, []), (370, .iload 4, 0, []), (372, .aload_n 0, 0, []), (373, .getfield 31, 1, [11, 9, 808]), (376, .iload_n 1, 0, []), (377, .aaload, 1, []), (378, .iload_n 3, 0, []), (379, .aaload, 1, []), (380, .iconst 1, 0, []), (381, .iaload, 1, []), (382, .aload_n 0, 0, []), (383, .getfield 31, 1, [11, 9, 808]), (386, .iload_n 1, 0, []), (387, .aaload, 1, []), (388, .iload_n 3, 0, []), (389, .aaload, 1, []), (390, .iconst 2, 0, []), (391, .iaload, 1, []), (392, .aload_n 0, 0, []), (393, .getfield 31, 1, [11, 9, 808]), (396, .iload_n 1, 0, []), (397, .aaload, 1, []), (398, .iload_n 3, 0, []), (399, .aaload, 1, []), (400, .iconst 3, 0, []), (401, .iaload, 1, []), (402, .aload_n 0, 0, []), (403, .getfield 31, 1, [11, 9, 808]), (406, .iload_n 1, 0, []), (407, .aaload, 1, []), (408, .iload_n 3, 0, []), (409, .aaload, 1, []), (410, .iconst 4, 0, []), (411, .iaload, 1, []), (412, .invokevirtual 95, 3, [1, 4, 7, 29, 1019, 1016, 1017, 1018]), (415, .ifCond .eq 5, 2, []), (418, .iconst 0, 0, []), (419, .ireturn, 4, []), (420, .iconst 1, 0, []), (421, .ireturn, 4, [])]
def xm133 : XM := (⟨"PackWrightLaw$Reg", "publish", "(I)Z"⟩, prog_13_method_7_code, 9, (some .boolean), { frames := 4, cells := 40, slots := 400, locals := 96 }, [], xm133c, 2)
def xm134c : List XI := [(0, .aload_n 0, 0, []), (1, .iconst 2, 0, []), (2, .aload_n 0, 0, []), (3, .iconst 4, 0, []), (4, .invokevirtual 62, 3, [1, 128, 11, 28, 843, 859, 841, 842]), (7, .iadd, 0, []), (8, .putfield 80, 1, [11, 3, 798]), (11, .iconst 0, 0, []), (12, .istore_n 1, 0, []), (13, .iload_n 1, 0, []), (14, .aload_n 0, 0, []), (15, .getfield 80, 1, [11, 3, 798]), (18, .if_icmp .ge 22, 2, []), (21, .aload_n 0, 0, []), (22, .getfield 48, 1, [11, 0, 793]), (25, .invokevirtual 99, 3, [1, 1, 7, 29, 1032, 1029, 1030, 1031]), (28, .iload_n 1, 0, []), (29, .if_icmp .eq 5, 2, []), (32, .iconst 0, 0, []), (33, .ireturn, 4, []), (34, .iinc 1 1, 0, []), (37, .goto (-24), 2, []), (40, .iconst 0, 0, []), (41, .istore_n 1, 0, []), (42, .iload_n 1, 0, []), (43, .aload_n 0, 0, []), (44, .getfield 80, 1, [11, 3, 798]), (47, .if_icmp .ge 37, 2, []), (50, .iconst 1, 0, []), (51, .aload_n 0, 0, []), (52, .iconst 4, 0, []), (53, .invokevirtual 62, 3, [1, 128, 11, 28, 843, 859, 841, 842]), (56, .iadd, 0, []), (57, .istore_n 2, 0, []), (58, .iload_n 2, 0, []), (59, .ifCond .le 19, 2, []), (62, .aload_n 0, 0, []), (63, .iload_n 1, 0, []), (64, .invokevirtual 103, 3, [1, 133, 11, 28, 858, 1052, 856, 857]), (67, .ifCond .ne 5, 2, []), (70, .iconst 0, 0, []), (71, .ireturn, 4, []), (72, .iinc 2 (-1), 0, []), (75, .goto (-17), 2, []), (78, .iinc 1 1, 0, []), (81, .goto (-39), 2, []), (84, .iconst 1, 0, []), (85, .ireturn, 4, [])]
def xm134 : XM := (⟨"PackWrightLaw$Reg", "make", "()Z"⟩, prog_13_method_8_code, 3, (some .boolean), { frames := 5, cells := 830, slots := 8600, locals := 124 }, [], xm134c, 1)
def xm135c : List XI := [(0, .iconst 2, 0, []), (1, .newarray .int, 1, [0, 615]), (3, .dup, 0, []), (4, .iconst 0, 0, []), (5, .aload_n 0, 0, []), (6, .aload_n 0, 0, []), (7, .getfield 80, 1, [11, 3, 798]), (10, .invokevirtual 62, 3, [1, 128, 11, 28, 843, 859, 841, 842]), (13, .iastore, 1, []), (14, .dup, 0, []), (15, .iconst 1, 0, []), (16, .aload_n 0, 0, []), (17, .iconst 3, 0, []), (18, .invokevirtual 62, 3, [1, 128, 11, 28, 843, 859, 841, 842]), (21, .ifCond .ne 11, 2, []), (24, .aload_n 0, 0, []), (25, .iconst 4, 0, []), (26, .invokevirtual 62, 3, [1, 128, 11, 28, 843, 859, 841, 842]), (29, .goto 4, 2, []), (32, .iconst 0, 0, []), (33, .iastore, 1, []), (34, .astore_n 1, 0, []), (35, .aload_n 0, 0, []), (36, .getfield 35, 1, [11, 11, 811]), (39, .aload_n 0, 0, []), (40, .getfield 106, 1, [11, 10, 810]), (43, .aload_n 1, 0, []), (44, .aload_n 0, 0, []), (45, .invokevirtual 83, 3, [1, 129, 11, 28, 933, 930, 931, 932]), (48, .invokestatic 87, 3, [0, 130, 0, 28, 936, 934, 935, 0]), (51, .aastore, 1, []), (52, .aload_n 0, 0, []), (53, .iconst 2, 0, []), (54, .invokevirtual 62, 3, [1, 128, 11, 28, 843, 859, 841, 842]), (57, .ifCond .ne 15, 2, []), (60, .aload_n 0, 0, []), (61, .getfield 35, 1, [11, 11, 811]), (64, .aload_n 0, 0, []), (65, .getfield 106, 1, [11, 10, 810]), (68, .aaload, 1, []), (69, .iconst 2, 0, []), (70, .iconst 0, 0, []), (71, .iastore, 1, []), (72, .aload_n 0, 0, []), (73, .getfield 35, 1, [11, 11, 811]), (76, .aload_n 0, 0, []), (77, .getfield 106, 1, [11, 10, 810]), (80, .aaload, 1, []), (81, .astore_n 2, 0, []), (82, .aload_n 0, 0, []), (83, .getfield 48, 1, [11, 0, 793]), (86, .aload_n 2, 0, []), (87, .iconst 0, 0, []), (88, .iaload, 1, []), (89, .aload_n 2, 0, []), (90, .iconst 1, 0, []), (91, .iaload, 1, []), (92, .aload_n 2, 0, []), (93, .iconst 2, 0, []), (94, .iaload, 1, []), (95, .aload_n 2, 0, []), (96, .iconst 3, 0, []), (97, .iaload, 1, []), (98, .aload_n 2, 0, []), (99, .iconst 4, 0, []), (100, .iaload, 1, []), (101, .aload_n 2, 0, []), (102, .iconst 5, 0, []), (103, .iaload, 1, []), (104, .invokevirtual 109, 3, [1, 9, 7, 29, 1060, 1057, 1058, 1059]), (107, .aload_n 0, 0, []), (108, .dup, 0, []), (109, .getfield 106, 1, [11, 10, 810]), (112, .dup_x1, 0, []), (113, .iconst 1, 0, []), (114, .iadd, 0, []), (115, .putfield 106, 1, [11, 10, 810]), (118, .if_icmp .ne 7, 2, []), (121, .iconst 1, 0, []), (122, .goto 4, 2, []), (125, .iconst 0, 0, []), (126, .ireturn, 4, [])]
def xm135 : XM := (⟨"PackWrightLaw$Reg", "wish", "()Z"⟩, prog_13_method_9_code, 3, (some .boolean), { frames := 4, cells := 5, slots := 77, locals := 92 }, [], xm135c, 1)
def xm136c : List XI := [(0, .aload_n 0, 0, []), (1, .aload_n 0, 0, []), (2, .getfield 80, 1, [11, 3, 798]), (5, .invokevirtual 62, 3, [1, 128, 11, 28, 843, 859, 841, 842]), (8, .istore_n 1, 0, []), (9, .aload_n 0, 0, []), (10, .aload_n 0, 0, []), (11, .getfield 7, 1, [11, 4, 799]), (14, .iload_n 1, 0, []), (15, .iaload, 1, []), (16, .invokevirtual 62, 3, [1, 128, 11, 28, 843, 859, 841, 842]), (19, .istore_n 2, 0, []), (20, .aload_n 0, 0, []), (21, .getfield 25, 1, [11, 7, 805]), (24, .iload_n 1, 0, []), (25, .aaload, 1, []), (26, .iload_n 2, 0, []), (27, .baload, 1, []), (28, .istore_n 3, 0, []), (29, .aload_n 0, 0, []), (30, .getfield 25, 1, [11, 7, 805]), (33, .iload_n 1, 0, []), (34, .aaload, 1, []), (35, .iload_n 2, 0, []), (36, .aload_n 0, 0, []), (37, .iconst 3, 0, []), (38, .invokevirtual 62, 3, [1, 128, 11, 28, 843, 859, 841, 842]), (41, .ifCond .le 7, 2, []), (44, .iconst 1, 0, []), (45, .goto 4, 2, []), (48, .iconst 0, 0, []), (49, .bastore, 1, []), (50, .aload_n 0, 0, []), (51, .getfield 48, 1, [11, 0, 793]), (54, .iload_n 1, 0, []), (55, .iload_n 2, 0, []), (56, .aload_n 0, 0, []), (57, .getfield 25, 1, [11, 7, 805]), (60, .iload_n 1, 0, []), (61, .aaload, 1, []), (62, .iload_n 2, 0, []), (63, .baload, 1, []), (64, .invokevirtual 111, 3, [1, 5, 7, 29, 1070, 1067, 1068, 1069]), (67, .iload_n 3, 0, []), (68, .if_icmp .ne 7, 2, []), (71, .iconst 1, 0, []), (72, .goto 4, 2, []), (75, .iconst 0, 0, []), (76, .ireturn, 4, [])]
def xm136 : XM := (⟨"PackWrightLaw$Reg", "withdraw", "()Z"⟩, prog_13_method_10_code, 4, (some .boolean), { frames := 3, cells := 0, slots := 0, locals := 69 }, [], xm136c, 1)
def xm137c : List XI := [(0, .bipush 6, 0, []), (2, .newarray .int, 1, [0, 615]), (4, .astore_n 2, 0, []), (5, .iconst 0, 0, []), (6, .istore_n 3, 0, []), (7, .iload_n 3, 0, []), (8, .aload_n 0, 0, []), (9, .getfield 106, 1, [11, 10, 810]), (12, .if_icmp .ge 43, 2, []), (15, .aload_n 1, 0, []), (16, .aload_n 0, 0, []), (17, .getfield 35, 1, [11, 11, 811]), (20, .iload_n 3, 0, []), (21, .aaload, 1, []), (22, .iconst 0, 0, []), (23, .iaload, 1, []), (24, .iaload, 1, []), (25, .ifCond .lt 24, 2, []), (28, .aload_n 2, 0, []), (29, .aload_n 0, 0, []), (30, .getfield 35, 1, [11, 11, 811]), (33, .iload_n 3, 0, []), (34, .aaload, 1, []), (35, .iconst 0, 0, []), (36, .iaload, 1, []), (37, .dup2, 0, []), (38, .iaload, 1, []), (39, .aload_n 0, 0, []), (40, .getfield 35, 1, [11, 11, 811]), (43, .iload_n 3, 0, []), (44, .aaload, 1, []), (45, .iconst 1, 0, []), (46, .iaload, 1, []), (47, .ior, 0, []), (48, .iastore, 1, []), (49, .iinc 3 1, 0, []), (52, .goto (-45), 2, []), (55, .iconst 0, 0, []), (56, .istore_n 3, 0, []), (57, .iload_n 3, 0, []), (58, .bipush 24, 0, []), (60, .if_icmp .ge 112, 2, []), (63, .aload_n 0, 0, []), (64, .getfield 80, 1, [11, 3, 798]), (67, .iconst 1, 0, []), (68, .isub, 0, []), (69, .istore 4, 0, []), (71, .iload 4, 0, []), (73, .ifCond .lt 93, 2, []), (76, .aload_n 1, 0, []), (77, .iload 4, 0, []), (79, .iaload, 1, []), (80, .ifCond .ge 6, 2, []), (83, .goto 77, 2, []), (86, .aload_n 0, 0, []), (87, .getfield 28, 1, [11, 8, 807]), (90, .iload 4, 0, []), (92, .aaload, 1, []), (93, .aload_n 1, 0, []), (94, .iload 4, 0, []), (96, .iaload, 1, []), (97, .aaload, 1, []), (98, .astore 5, 0, []), (100, .iconst 0, 0, []), (101, .istore 6, 0, []), (103, .iload 6, 0, []), (105, .aload 5, 0, []), (107, .arraylength, 1, []), (108, .if_icmp .ge 52, 2, []), (111, .aload_n 2, 0, []), (112, .iload 4, 0, []), (114, .aload 5, 0, []), (116, .iload 6, 0, []), (118, .iconst 1, 0, []), (119, .iadd, 0, []), (120, .iaload, 1, []), (121, .invokestatic 115, 3, [0, 138, 0, 28, 1077, 1075, 1076, 0]), (124, .ifCond .eq 30, 2, []), (127, .aload_n 1, 0, []), (128, .aload 5, 0, []), (130, .iload 6, 0, []), (132, .iaload, 1, []), (133, .iaload, 1, []), (134, .ifCond .lt 20, 2, []), (137, .aload_n 2, 0, []), (138, .aload 5, 0, []), (140, .iload 6, 0, []), (142, .iaload, 1, []), (143, .dup2, 0, []), (144, .iaload, 1, []), (145, .aload 5, 0, []), (147, .iload 6, 0, []), (149, .iconst 2, 0, []), (150, .iadd, 0, []), (151, .iaload, 1, []), (152, .ior, 0, []), (153, .iastore, 1, []), (154, .iinc 6 7, 0, []), (157, .goto (-54), 2, []), (160, .iinc 4 (-1), 0, []), (163, .goto (-92), 2, []), (166, .iinc 3 1, 0, []), (169, .goto (-112), 2, []), (172, .aload_n 2, 0, []), (173, .areturn, 4, [])]
def xm137 : XM := (⟨"PackWrightLaw$Reg", "on", "([I)[I"⟩, prog_13_method_11_code, 7, (some (.array .int)), { frames := 1, cells := 1, slots := 6, locals := 22 }, [], xm137c, 2)
def xm138c : List XI := [(0, .iload_n 2, 0, []), (1, .ifCond .lt 14, 2, []), (4, .aload_n 0, 0, []), (5, .iload_n 1, 0, []), (6, .iaload, 1, []), (7, .iload_n 2, 0, []), (8, .ishr, 0, []), (9, .iconst 1, 0, []), (10, .iand, 0, []), (11, .iconst 1, 0, []), (12, .if_icmp .ne 7, 2, []), (15, .iconst 1, 0, []), (16, .goto 4, 2, []), (19, .iconst 0, 0, []), (20, .ireturn, 4, [])]
def xm138 : XM := (⟨"PackWrightLaw$Reg", "counts", "([III)Z"⟩, prog_13_method_12_code, 3, (some .boolean), { frames := 0, cells := 0, slots := 0, locals := 0 }, [], xm138c, 3)
def xm139c : List XI := [(0, .aload_n 0, 0, []), (1, .aload_n 1, 0, []), (2, .invokevirtual 119, 3, [1, 137, 11, 28, 1074, 1082, 1072, 1073]), (5, .astore_n 3, 0, []), (6, .iconst 0, 0, []), (7, .istore 4, 0, []), (9, .iload 4, 0, []), (11, .aload_n 0, 0, []), (12, .getfield 106, 1, [11, 10, 810]), (15, .if_icmp .ge 67, 2, []), (18, .aload_n 1, 0, []), (19, .aload_n 0, 0, []), (20, .getfield 35, 1, [11, 11, 811]), (23, .iload 4, 0, []), (25, .aaload, 1, []), (26, .iconst 0, 0, []), (27, .iaload, 1, []), (28, .iaload, 1, []), (29, .istore 5, 0, []), (31, .iload 5, 0, []), (33, .ifCond .ge 10, 2, []), (36, .iload_n 2, 0, []), (37, .ifCond .eq 39, 2, []), (40, .goto 34, 2, []), (43, .aload_n 0, 0, []), (44, .getfield 35, 1, [11, 11, 811]), (47, .iload 4, 0, []), (49, .aaload, 1, []), (50, .iconst 2, 0, []), (51, .aload_n 0, 0, []), (52, .getfield 15, 1, [11, 5, 801]), (55, .aload_n 0, 0, []), (56, .getfield 35, 1, [11, 11, 811]), (59, .iload 4, 0, []), (61, .aaload, 1, []), (62, .iconst 0, 0, []), (63, .iaload, 1, []), (64, .aaload, 1, []), (65, .iload 5, 0, []), (67, .aaload, 1, []), (68, .invokestatic 123, 3, [0, 131, 0, 28, 1085, 1083, 1084, 0]), (71, .ifCond .ne 5, 2, []), (74, .iconst 0, 0, []), (75, .ireturn, 4, []), (76, .iinc 4 1, 0, []), (79, .goto (-70), 2, []), (82, .iconst 0, 0, []), (83, .istore 4, 0, []), (85, .iload 4, 0, []), (87, .aload_n 0, 0, []), (88, .getfield 80, 1, [11, 3, 798]), (91, .if_icmp .ge 173, 2, []), (94, .aload_n 1, 0, []), (95, .iload 4, 0, []), (97, .iaload, 1, []), (98, .ifCond .ge 6, 2, []), (101, .goto 157, 2, []), (104, .aload_n 0, 0, []), (105, .getfield 28, 1, [11, 8, 807]), (108, .iload 4, 0, []), (110, .aaload, 1, []), (111, .aload_n 1, 0, []), (112, .iload 4, 0, []), (114, .iaload, 1, []), (115, .aaload, 1, []), (116, .astore 5, 0, []), (118, .iconst 0, 0, []), (119, .istore 6, 0, []), (121, .iload 6, 0, []), (123, .aload 5, 0, []), (125, .arraylength, 1, []), (126, .if_icmp .ge 76, 2, []), (129, .aload_n 3, 0, []), (130, .iload 4, 0, []), (132, .aload 5, 0, []), (134, .iload 6, 0, []), (136, .iconst 1, 0, []), (137, .iadd, 0, []), (138, .iaload, 1, []), (139, .invokestatic 115, 3, [0, 138, 0, 28, 1077, 1075, 1076, 0]), (142, .ifCond .ne 6, 2, []), (145, .goto 51, 2, []), (148, .aload_n 1, 0, []), (149, .aload 5, 0, []), (151, .iload 6, 0, []), (153, .iaload, 1, []), (154, .iaload, 1, []), (155, .istore 7, 0, []), (157, .iload 7, 0, []), (159, .ifCond .ge 10, 2, []), (162, .iload_n 2, 0, []), (163, .ifCond .eq 33, 2, []), (166, .goto 28, 2, []), (169, .aload 5, 0, []), (171, .iload 6, 0, []), (173, .iconst 3, 0, []), (174, .iadd, 0, []), (175, .aload_n 0, 0, []), (176, .getfield 15, 1, [11, 5, 801]), (179, .aload 5, 0, []), (181, .iload 6, 0, []), (183, .iaload, 1, []), (184, .aaload, 1, []), (185, .iload 7, 0, []), (187, .aaload, 1, []), (188, .invokestatic 123, 3, [0, 131, 0, 28, 1085, 1083, 1084, 0]), (191, .ifCond .ne 5, 2, []), (194, .iconst 0, 0, []), (195, .ireturn, 4, []), (196, .iinc 6 7, 0, []), (199, .goto (-78), 2, []), (202, .aload_n 0, 0, []), (203, .getfield 31, 1, [11, 9, 808]), (206, .iload 4, 0, []), (208, .aaload, 1, []), (209, .aload_n 1, 0, []), (210, .iload 4, 0, []), (212, .iaload, 1, []), (213, .aaload, 1, []), (214, .astore 5, 0, []), (216, .aload 5, 0, []), (218, .arraylength, 1, []), (219, .ifCond .le 39, 2, []), (222, .aload_n 1, 0, []), (223, .aload 5, 0, []), (225, .iconst 0, 0, []), (226, .iaload, 1, []), (227, .iaload, 1, []), (228, .ifCond .lt 30, 2, []), (231, .aload 5, 0, []), (233, .iconst 1, 0, []), (234, .aload_n 0, 0, []), (235, .getfield 15, 1, [11, 5, 801]), (238, .aload 5, 0, []), (240, .iconst 0, 0, []), (241, .iaload, 1, []), (242, .aaload, 1, []), (243, .aload_n 1, 0, []), (244, .aload 5, 0, []), (246, .iconst 0, 0, []), (247, .iaload, 1, []), (248, .iaload, 1, []), (249, .aaload, 1, []), (250, .invokestatic 123, 3, [0, 131, 0, 28, 1085, 1083, 1084, 0]), (253, .ifCond .eq 5, 2, []), (256, .iconst 0, 0, []), (257, .ireturn, 4, []), (258, .iinc 4 1, 0, []), (261, .goto (-176), 2, []), (264, .iconst 1, 0, []), (265, .ireturn, 4, [])]
def xm139 : XM := (⟨"PackWrightLaw$Reg", "goes", "([IZ)Z"⟩, prog_13_method_13_code, 8, (some .boolean), { frames := 2, cells := 30, slots := 120, locals := 48 }, [], xm139c, 3)
def xm140c : List XI := [(0, .bipush 6, 0, []), (2, .newarray .int, 1, [0, 615]), (4, .dup, 0, []), (5, .iconst 0, 0, []), (6, .iconst (-1), 0, []), (7, .iastore, 1, []), (8, .dup, 0, []), (9, .iconst 1, 0, []), (10, .iconst (-1), 0, []), (11, .iastore, 1, []), (12, .dup, 0, []), (13, .iconst 2, 0, []), (14, .iconst (-1), 0, []), (15, .iastore, 1, []), (16, .dup, 0, []), (17, .iconst 3, 0, []), (18, .iconst (-1), 0, []), (19, .iastore, 1, []), (20, .dup, 0, []), (21, .iconst 4, 0, []), (22, .iconst (-1), 0, []), (23, .iastore, 1, []), (24, .dup, 0, []), (25, .iconst 5, 0, []), (26, .iconst (-1), 0, []), (27, .iastore, 1, []), (28, .astore_n 1, 0, []), (29, .aload_n 1, 0, []), (30, .areturn, 4, [])]
def xm140 : XM := (⟨"PackWrightLaw$Reg", "nothing", "()[I"⟩, prog_13_method_16_code, 2, (some (.array .int)), { frames := 0, cells := 1, slots := 6, locals := 0 }, [], xm140c, 1)
def xm141c : List XI := [(0, .aload_n 0, 0, []), (1, .invokevirtual 142, 3, [1, 140, 11, 28, 1089, 1094, 1087, 1088]), (4, .astore_n 1, 0, []), (5, .iconst 0, 0, []), (6, .istore_n 2, 0, []), (7, .iload_n 2, 0, []), (8, .aload_n 0, 0, []), (9, .getfield 80, 1, [11, 3, 798]), (12, .if_icmp .ge 20, 2, []), (15, .aload_n 1, 0, []), (16, .iload_n 2, 0, []), (17, .aload_n 0, 0, []), (18, .getfield 48, 1, [11, 0, 793]), (21, .iload_n 2, 0, []), (22, .invokevirtual 145, 3, [1, 13, 7, 29, 540, 1095, 538, 539]), (25, .iastore, 1, []), (26, .iinc 2 1, 0, []), (29, .goto (-22), 2, []), (32, .aload_n 1, 0, []), (33, .areturn, 4, [])]
def xm141 : XM := (⟨"PackWrightLaw$Reg", "lock", "()[I"⟩, prog_13_method_17_code, 3, (some (.array .int)), { frames := 2, cells := 1, slots := 6, locals := 42 }, [], xm141c, 1)
def xMs : List XM := [xm0, xm1, xm2, xm3, xm4, xm5, xm6, xm7, xm8, xm9, xm10, xm11, xm12, xm13, xm14, xm15, xm16, xm17, xm18, xm19, xm20, xm21, xm22, xm23, xm24, xm25, xm26, xm27, xm28, xm29, xm30, xm31, xm32, xm33, xm34, xm35, xm36, xm37, xm38, xm39, xm40, xm41, xm42, xm43, xm44, xm45, xm46, xm47, xm48, xm49, xm50, xm51, xm52, xm53, xm54, xm55, xm56, xm57, xm58, xm59, xm60, xm61, xm62, xm63, xm64, xm65, xm66, xm67, xm68, xm69, xm70, xm71, xm72, xm73, xm74, xm75, xm76, xm77, xm78, xm79, xm80, xm81, xm82, xm83, xm84, xm85, xm86, xm87, xm88, xm89, xm90, xm91, xm92, xm93, xm94, xm95, xm96, xm97, xm98, xm99, xm100, xm101, xm102, xm103, xm104, xm105, xm106, xm107, xm108, xm109, xm110, xm111, xm112, xm113, xm114, xm115, xm116, xm117, xm118, xm119, xm120, xm121, xm122, xm123, xm124, xm125, xm126, xm127, xm128, xm129, xm130, xm131, xm132, xm133, xm134, xm135, xm136, xm137, xm138, xm139, xm140, xm141]
def xlw0 : List XI := [(0, .iconst 0, 0, []), (1, .istore_n 1, 0, []), (2, .iload_n 1, 9, []), (3, .iconst 3, 0, []), (4, .if_icmp .ge 789, 2, []), (7, .new 9, 1, [11, 573, 574, 28]), (10, .dup, 0, []), (11, .aload_n 0, 0, []), (12, .bipush 41, 0, []), (14, .iload_n 1, 0, []), (15, .imul, 0, []), (16, .bipush 8, 0, []), (18, .iadd, 0, []), (19, .invokespecial 11, 3, [2, 127, 0, 28, 577, 575, 576, 0]), (22, .astore_n 2, 0, []), (23, .aload_n 2, 0, []), (24, .getfield 14, 1, [11, 0, 794]), (27, .astore_n 3, 0, []), (28, .aload_n 2, 0, []), (29, .invokevirtual 18, 3, [1, 134, 11, 28, 1028, 1025, 1026, 1027]), (32, .ifCond .ne 5, 2, []), (35, .iconst 0, 0, []), (36, .ireturn, 4, []), (37, .sipush 2000, 0, []), (40, .istore 4, 0, []), (42, .iconst 0, 0, []), (43, .istore 5, 0, []), (45, .iload 5, 0, []), (47, .bipush 8, 0, []), (49, .if_icmp .ge 738, 2, []), (52, .aload_n 2, 0, []), (53, .aload_n 2, 0, []), (54, .getfield 22, 1, [11, 3, 797]), (57, .invokevirtual 26, 3, [1, 128, 11, 28, 843, 840, 841, 842]), (60, .istore 6, 0, []), (62, .aload_n 2, 0, []), (63, .bipush 6, 0, []), (65, .invokevirtual 26, 3, [1, 128, 11, 28, 843, 840, 841, 842]), (68, .istore 7, 0, []), (70, .iload 7, 0, []), (72, .ifCond .ne 23, 2, []), (75, .aload_n 2, 0, []), (76, .getfield 30, 1, [11, 4, 800]), (79, .iload 6, 0, []), (81, .iaload, 1, []), (82, .iconst 4, 0, []), (83, .if_icmp .ge 12, 2, []), (86, .aload_n 2, 0, []), (87, .iload 6, 0, []), (89, .invokevirtual 34, 3, [1, 133, 11, 28, 858, 855, 856, 857]), (92, .ifCond .eq 44, 2, []), (95, .iload 7, 0, []), (97, .iconst 1, 0, []), (98, .if_icmp .ne 10, 2, []), (101, .aload_n 2, 0, []), (102, .invokevirtual 38, 3, [1, 136, 11, 28, 1066, 1063, 1064, 1065]), (105, .ifCond .eq 31, 2, []), (108, .iload 7, 0, []), (110, .iconst 1, 0, []), (111, .if_icmp .le 27, 2, [])]
def xlw1 : List XI := [(114, .iload 7, 0, []), (116, .iconst 5, 0, []), (117, .if_icmp .ge 21, 2, []), (120, .aload_n 2, 0, []), (121, .getfield 41, 1, [11, 10, 809]), (124, .bipush 6, 0, []), (126, .if_icmp .ge 12, 2, []), (129, .aload_n 2, 0, []), (130, .invokevirtual 44, 3, [1, 135, 11, 28, 1056, 1053, 1054, 1055]), (133, .ifCond .ne 5, 2, []), (136, .iconst 0, 0, []), (137, .ireturn, 4, []), (138, .iload 7, 0, []), (140, .iconst 5, 0, []), (141, .if_icmp .ne 29, 2, []), (144, .aload_n 2, 0, []), (145, .sipush 700, 0, []), (148, .invokevirtual 26, 3, [1, 128, 11, 28, 843, 840, 841, 842]), (151, .istore 8, 0, []), (153, .aload_n 3, 0, []), (154, .iload 8, 0, []), (156, .invokevirtual 47, 3, [1, 25, 7, 29, 345, 342, 343, 344]), (159, .iload 4, 0, []), (161, .if_icmp .eq 5, 2, []), (164, .iconst 0, 0, []), (165, .ireturn, 4, []), (166, .iload 8, 0, []), (168, .istore 4, 0, []), (170, .aload_n 3, 0, []), (171, .aload_n 2, 0, []), (172, .iconst 4, 0, []), (173, .invokevirtual 26, 3, [1, 128, 11, 28, 843, 840, 841, 842]), (176, .iload 6, 0, []), (178, .invokevirtual 52, 3, [1, 11, 7, 29, 51, 48, 49, 50]), (181, .istore 8, 0, []), (183, .aload_n 2, 0, []), (184, .invokevirtual 56, 3, [1, 141, 11, 28, 1093, 1090, 1091, 1092]), (187, .astore 9, 0, []), (189, .iload 8, 0, []), (191, .ifCond .lt 36, 2, []), (194, .aload_n 3, 0, []), (195, .invokevirtual 60, 3, [1, 16, 7, 29, 280, 277, 278, 279]), (198, .ifCond .eq 27, 2, []), (201, .aload_n 3, 0, []), (202, .invokevirtual 63, 3, [1, 17, 7, 29, 285, 282, 283, 284]), (205, .ifCond .ne 20, 2, []), (208, .aload_n 2, 0, []), (209, .aload 9, 0, []), (211, .iconst 1, 0, []), (212, .invokevirtual 67, 3, [1, 139, 11, 28, 1081, 1078, 1079, 1080]), (215, .ifCond .eq 10, 2, []), (218, .aload_n 3, 0, []), (219, .invokevirtual 71, 3, [1, 27, 7, 29, 384, 381, 382, 383]), (222, .ifCond .eq 5, 2, []), (225, .iconst 0, 0, []), (226, .ireturn, 4, []), (227, .aload_n 3, 0, []), (228, .invokevirtual 74, 3, [1, 40, 7, 29, 488, 485, 486, 487]), (231, .lstore 10, 0, []), (233, .iconst 0, 0, [])]
def xlw2 : List XI := [(234, .istore 12, 0, []), (236, .iload 12, 0, []), (238, .aload_n 2, 0, []), (239, .getfield 22, 1, [11, 3, 797]), (242, .if_icmp .ge 243, 2, []), (245, .aload_n 3, 0, []), (246, .iload 12, 0, []), (248, .invokevirtual 78, 3, [1, 19, 7, 29, 312, 309, 310, 311]), (251, .ifCond .ne 7, 2, []), (254, .iconst 1, 0, []), (255, .goto 4, 2, []), (258, .iconst 0, 0, []), (259, .istore 13, 0, []), (261, .iconst 0, 0, []), (262, .istore 14, 0, []), (264, .iload 14, 0, []), (266, .aload_n 2, 0, []), (267, .getfield 41, 1, [11, 10, 809]), (270, .if_icmp .ge 38, 2, []), (273, .iload 13, 0, []), (275, .aload_n 2, 0, []), (276, .getfield 81, 1, [11, 11, 812]), (279, .iload 14, 0, []), (281, .aaload, 1, []), (282, .iconst 0, 0, []), (283, .iaload, 1, []), (284, .aload_n 3, 0, []), (285, .iload 12, 0, []), (287, .iconst 0, 0, []), (288, .invokevirtual 84, 3, [1, 20, 7, 29, 316, 313, 314, 315]), (291, .if_icmp .ne 7, 2, []), (294, .iconst 1, 0, []), (295, .goto 4, 2, []), (298, .iconst 0, 0, []), (299, .ior, 0, []), (300, .istore 13, 0, []), (302, .iinc 14 1, 0, []), (305, .goto (-41), 2, []), (308, .iload 13, 0, []), (310, .ifCond .eq 19, 2, []), (313, .aload_n 3, 0, []), (314, .iload 12, 0, []), (316, .aload_n 3, 0, []), (317, .iload 12, 0, []), (319, .invokevirtual 78, 3, [1, 19, 7, 29, 312, 309, 310, 311]), (322, .invokevirtual 84, 3, [1, 20, 7, 29, 316, 313, 314, 315]), (325, .iconst (-1), 0, []), (326, .if_icmp .eq 5, 2, []), (329, .iconst 0, 0, []), (330, .ireturn, 4, []), (331, .aload_n 3, 0, []), (332, .iload 12, 0, []), (334, .invokevirtual 87, 3, [1, 22, 7, 29, 325, 322, 323, 324]), (337, .istore 14, 0, []), (339, .iload 14, 0, []), (341, .ifCond .lt 47, 2, []), (344, .aload_n 2, 0, []), (345, .getfield 90, 1, [11, 5, 802]), (348, .iload 12, 0, []), (350, .aaload, 1, [])]
def xlw3 : List XI := [(351, .iload 14, 0, []), (353, .aaload, 1, []), (354, .aload_n 2, 0, []), (355, .getfield 90, 1, [11, 5, 802]), (358, .iload 12, 0, []), (360, .aaload, 1, []), (361, .aload 9, 0, []), (363, .iload 12, 0, []), (365, .iaload, 1, []), (366, .aaload, 1, []), (367, .invokestatic 94, 3, [0, 132, 0, 28, 854, 852, 853, 0]), (370, .ifCond .le 16, 2, []), (373, .aload_n 2, 0, []), (374, .getfield 98, 1, [11, 7, 806]), (377, .iload 12, 0, []), (379, .aaload, 1, []), (380, .iload 14, 0, []), (382, .baload, 1, []), (383, .ifCond .eq 5, 2, []), (386, .iconst 0, 0, []), (387, .ireturn, 4, []), (388, .aload_n 3, 0, []), (389, .iload 12, 0, []), (391, .invokevirtual 102, 3, [1, 23, 7, 29, 333, 330, 331, 332]), (394, .bipush (-2), 0, []), (396, .if_icmp .lt 81, 2, []), (399, .aload_n 3, 0, []), (400, .iload 12, 0, []), (402, .invokevirtual 78, 3, [1, 19, 7, 29, 312, 309, 310, 311]), (405, .ifCond .le 7, 2, []), (408, .iconst 1, 0, []), (409, .goto 4, 2, []), (412, .iconst 0, 0, []), (413, .aload_n 3, 0, []), (414, .iload 12, 0, []), (416, .iconst 0, 0, []), (417, .invokevirtual 84, 3, [1, 20, 7, 29, 316, 313, 314, 315]), (420, .ifCond .lt 7, 2, []), (423, .iconst 1, 0, []), (424, .goto 4, 2, []), (427, .iconst 0, 0, []), (428, .if_icmp .ne 49, 2, []), (431, .aload_n 3, 0, []), (432, .iload 12, 0, []), (434, .invokevirtual 78, 3, [1, 19, 7, 29, 312, 309, 310, 311]), (437, .ifCond .le 22, 2, []), (440, .aload_n 3, 0, []), (441, .iload 12, 0, []), (443, .aload_n 3, 0, []), (444, .iload 12, 0, []), (446, .invokevirtual 78, 3, [1, 19, 7, 29, 312, 309, 310, 311]), (449, .iconst 1, 0, []), (450, .isub, 0, []), (451, .invokevirtual 84, 3, [1, 20, 7, 29, 316, 313, 314, 315]), (454, .iload 12, 0, []), (456, .if_icmp .ne 21, 2, []), (459, .aload_n 3, 0, []), (460, .iload 12, 0, []), (462, .invokevirtual 105, 3, [1, 15, 7, 29, 276, 273, 274, 275]), (465, .aload_n 2, 0, [])]
def xlw4 : List XI := [(466, .aload 9, 0, []), (468, .invokevirtual 108, 3, [1, 137, 11, 28, 1074, 1071, 1072, 1073]), (471, .iload 12, 0, []), (473, .iaload, 1, []), (474, .if_icmp .eq 5, 2, []), (477, .iconst 0, 0, []), (478, .ireturn, 4, []), (479, .iinc 12 1, 0, []), (482, .goto (-246), 2, []), (485, .aload_n 3, 0, []), (486, .invokevirtual 112, 3, [1, 18, 7, 29, 304, 301, 302, 303]), (489, .pop, 0, []), (490, .aload_n 3, 0, []), (491, .invokevirtual 74, 3, [1, 40, 7, 29, 488, 485, 486, 487]), (494, .lload 10, 0, []), (496, .lcmp, 0, []), (497, .ifCond .eq 5, 2, []), (500, .iconst 0, 0, []), (501, .ireturn, 4, []), (502, .aload_n 3, 0, []), (503, .invokevirtual 115, 3, [1, 33, 7, 29, 457, 454, 455, 456]), (506, .istore 12, 0, []), (508, .aload_n 2, 0, []), (509, .invokevirtual 118, 3, [1, 140, 11, 28, 1089, 1086, 1087, 1088]), (512, .astore 13, 0, []), (514, .iconst 0, 0, []), (515, .istore 14, 0, []), (517, .iload 14, 0, []), (519, .aload_n 2, 0, []), (520, .getfield 22, 1, [11, 3, 797]), (523, .if_icmp .ge 20, 2, []), (526, .aload 13, 0, []), (528, .iload 14, 0, []), (530, .aload_n 3, 0, []), (531, .iload 14, 0, []), (533, .invokevirtual 121, 3, [1, 32, 7, 29, 450, 447, 448, 449]), (536, .iastore, 1, []), (537, .iinc 14 1, 0, []), (540, .goto (-23), 2, []), (543, .aload_n 3, 0, []), (544, .invokevirtual 124, 3, [1, 26, 7, 29, 353, 350, 351, 352]), (547, .istore 14, 0, []), (549, .aload_n 3, 0, []), (550, .invokevirtual 127, 3, [1, 36, 7, 29, 465, 462, 463, 464]), (553, .istore 15, 0, []), (555, .aload_n 3, 0, []), (556, .invokevirtual 130, 3, [1, 38, 7, 29, 477, 474, 475, 476]), (559, .istore 16, 0, []), (561, .iload 16, 0, []), (563, .iload 12, 0, []), (565, .if_icmp .lt 12, 2, []), (568, .aload_n 3, 0, []), (569, .iload 16, 0, []), (571, .invokevirtual 133, 3, [1, 24, 7, 29, 337, 334, 335, 336]), (574, .ifCond .ge 5, 2, []), (577, .iconst 0, 0, []), (578, .ireturn, 4, []), (579, .aload_n 3, 0, []), (580, .aload_n 2, 0, []), (581, .iconst 4, 0, [])]
def xlw5 : List XI := [(582, .invokevirtual 26, 3, [1, 128, 11, 28, 843, 840, 841, 842]), (585, .invokevirtual 136, 3, [1, 30, 7, 29, 388, 385, 386, 387]), (588, .istore 17, 0, []), (590, .aload_n 3, 0, []), (591, .iconst 0, 0, []), (592, .invokevirtual 136, 3, [1, 30, 7, 29, 388, 385, 386, 387]), (595, .iload 17, 0, []), (597, .if_icmp .ne 58, 2, []), (600, .aload_n 3, 0, []), (601, .bipush 20, 0, []), (603, .invokevirtual 136, 3, [1, 30, 7, 29, 388, 385, 386, 387]), (606, .iload 14, 0, []), (608, .if_icmp .ne 47, 2, []), (611, .aload_n 3, 0, []), (612, .invokevirtual 139, 3, [1, 39, 7, 29, 484, 481, 482, 483]), (615, .ifCond .eq 40, 2, []), (618, .aload_n 3, 0, []), (619, .invokevirtual 142, 3, [1, 34, 7, 29, 461, 458, 459, 460]), (622, .iload 4, 0, []), (624, .if_icmp .gt 31, 2, []), (627, .aload_n 3, 0, []), (628, .invokevirtual 127, 3, [1, 36, 7, 29, 465, 462, 463, 464]), (631, .iload 15, 0, []), (633, .isub, 0, []), (634, .iload 14, 0, []), (636, .if_icmp .gt 19, 2, []), (639, .aload_n 3, 0, []), (640, .invokevirtual 145, 3, [1, 37, 7, 29, 469, 466, 467, 468]), (643, .ifCond .ne 12, 2, []), (646, .aload_n 3, 0, []), (647, .invokevirtual 115, 3, [1, 33, 7, 29, 457, 454, 455, 456]), (650, .iload 16, 0, []), (652, .if_icmp .le 5, 2, []), (655, .iconst 0, 0, []), (656, .ireturn, 4, []), (657, .iconst 0, 0, []), (658, .istore 18, 0, []), (660, .iconst 0, 0, []), (661, .istore 19, 0, []), (663, .iload 19, 0, []), (665, .aload_n 2, 0, []), (666, .getfield 22, 1, [11, 3, 797]), (669, .if_icmp .ge 39, 2, []), (672, .iload 18, 0, []), (674, .aload 9, 0, []), (676, .iload 19, 0, []), (678, .iaload, 1, []), (679, .ifCond .ge 7, 2, []), (682, .iconst 0, 0, []), (683, .goto 16, 2, []), (686, .aload_n 2, 0, []), (687, .getfield 148, 1, [11, 6, 804]), (690, .iload 19, 0, []), (692, .aaload, 1, []), (693, .aload 9, 0, []), (695, .iload 19, 0, []), (697, .iaload, 1, []), (698, .iaload, 1, []), (699, .iadd, 0, []), (700, .istore 18, 0, [])]
def xlw6 : List XI := [(702, .iinc 19 1, 0, []), (705, .goto (-42), 2, []), (708, .aload_n 3, 0, []), (709, .invokevirtual 115, 3, [1, 33, 7, 29, 457, 454, 455, 456]), (712, .iload 18, 0, []), (714, .if_icmp .eq 5, 2, []), (717, .iconst 0, 0, []), (718, .ireturn, 4, []), (719, .aload_n 2, 0, []), (720, .iconst 2, 0, []), (721, .invokevirtual 26, 3, [1, 128, 11, 28, 843, 840, 841, 842]), (724, .ifCond .ne 57, 2, []), (727, .aload_n 3, 0, []), (728, .invokevirtual 151, 3, [1, 31, 7, 29, 442, 439, 440, 441]), (731, .iload 14, 0, []), (733, .if_icmp .ne 12, 2, []), (736, .aload_n 3, 0, []), (737, .invokevirtual 115, 3, [1, 33, 7, 29, 457, 454, 455, 456]), (740, .iload 12, 0, []), (742, .if_icmp .eq 5, 2, []), (745, .iconst 0, 0, []), (746, .ireturn, 4, []), (747, .iconst 0, 0, []), (748, .istore 19, 0, []), (750, .iload 19, 0, []), (752, .aload_n 2, 0, []), (753, .getfield 22, 1, [11, 3, 797]), (756, .if_icmp .ge 25, 2, []), (759, .aload_n 3, 0, []), (760, .iload 19, 0, []), (762, .invokevirtual 121, 3, [1, 32, 7, 29, 450, 447, 448, 449]), (765, .aload 13, 0, []), (767, .iload 19, 0, []), (769, .iaload, 1, []), (770, .if_icmp .eq 5, 2, []), (773, .iconst 0, 0, []), (774, .ireturn, 4, []), (775, .iinc 19 1, 0, []), (778, .goto (-28), 2, []), (781, .iinc 5 1, 0, []), (784, .goto (-739), 2, []), (787, .iinc 1 1, 0, []), (790, .goto (-788), 2, []), (793, .iconst 1, 0, []), (794, .ireturn, 4, [])]
def xlwc : List XI := xlw0 ++ (xlw1 ++ (xlw2 ++ (xlw3 ++ (xlw4 ++ (xlw5 ++ (xlw6))))))
def xLaw : XM := (⟨"PackWrightLaw", "law", "([I)Z"⟩, code, 20, (some .boolean), room_1, [], xlwc, 1)
end XY
end
section
section XU
theorem xm0_c : xmW xm0 ∈ xTs := xckB_ok (pl := 589) (by decide +kernel)
theorem xm1_c : xmW xm1 ∈ xTs := xckB_ok (pl := 1032) (by decide +kernel)
theorem xm2_c : xmW xm2 ∈ xTs := xckB_ok (pl := 864) (by decide +kernel)
theorem xm3_c : xmW xm3 ∈ xTs := xckB_ok (pl := 943) (by decide +kernel)
theorem xm4_c : xmW xm4 ∈ xTs := xckB_ok (pl := 1019) (by decide +kernel)
theorem xm5_c : xmW xm5 ∈ xTs := xckB_ok (pl := 1070) (by decide +kernel)
theorem xm6_c : xmW xm6 ∈ xTs := xckB_ok (pl := 493) (by decide +kernel)
theorem xm7_c : xmW xm7 ∈ xTs := xckB_ok (pl := 530) (by decide +kernel)
theorem xm8_c : xmW xm8 ∈ xTs := xckB_ok (pl := 534) (by decide +kernel)
theorem xm9_c : xmW xm9 ∈ xTs := xckB_ok (pl := 1060) (by decide +kernel)
theorem xm10_c : xmW xm10 ∈ xTs := xckB_ok (pl := 501) (by decide +kernel)
theorem xm11_c : xmW xm11 ∈ xTs := xckB_ok (pl := 51) (by decide +kernel)
theorem xm12_c : xmW xm12 ∈ xTs := xckB_ok (pl := 505) (by decide +kernel)
theorem xm13_c : xmW xm13 ∈ xTs := xckB_ok (pl := 540) (by decide +kernel)
theorem xm14_c : xmW xm14 ∈ xTs := xckB_ok (pl := 509) (by decide +kernel)
theorem xm15_c : xmW xm15 ∈ xTs := xckB_ok (pl := 276) (by decide +kernel)
theorem xm16_c : xmW xm16 ∈ xTs := xckB_ok (pl := 280) (by decide +kernel)
theorem xm17_c : xmW xm17 ∈ xTs := xckB_ok (pl := 285) (by decide +kernel)
theorem xm18_c : xmW xm18 ∈ xTs := xckB_ok (pl := 304) (by decide +kernel)
theorem xm19_c : xmW xm19 ∈ xTs := xckB_ok (pl := 312) (by decide +kernel)
theorem xm20_c : xmW xm20 ∈ xTs := xckB_ok (pl := 316) (by decide +kernel)
theorem xm21_c : xmW xm21 ∈ xTs := xckB_ok (pl := 546) (by decide +kernel)
theorem xm22_c : xmW xm22 ∈ xTs := xckB_ok (pl := 325) (by decide +kernel)
theorem xm23_c : xmW xm23 ∈ xTs := xckB_ok (pl := 333) (by decide +kernel)
theorem xm24_c : xmW xm24 ∈ xTs := xckB_ok (pl := 337) (by decide +kernel)
theorem xm25_c : xmW xm25 ∈ xTs := xckB_ok (pl := 345) (by decide +kernel)
theorem xm26_c : xmW xm26 ∈ xTs := xckB_ok (pl := 353) (by decide +kernel)
theorem xm27_c : xmW xm27 ∈ xTs := xckB_ok (pl := 384) (by decide +kernel)
theorem xm28_c : xmW xm28 ∈ xTs := xckB_ok (pl := 563) (by decide +kernel)
theorem xm29_c : xmW xm29 ∈ xTs := xckB_ok (pl := 572) (by decide +kernel)
theorem xm30_c : xmW xm30 ∈ xTs := xckB_ok (pl := 388) (by decide +kernel)
theorem xm31_c : xmW xm31 ∈ xTs := xckB_ok (pl := 442) (by decide +kernel)
theorem xm32_c : xmW xm32 ∈ xTs := xckB_ok (pl := 450) (by decide +kernel)
theorem xm33_c : xmW xm33 ∈ xTs := xckB_ok (pl := 457) (by decide +kernel)
theorem xm34_c : xmW xm34 ∈ xTs := xckB_ok (pl := 461) (by decide +kernel)
theorem xm35_c : xmW xm35 ∈ xTs := xckB_ok (pl := 553) (by decide +kernel)
theorem xm36_c : xmW xm36 ∈ xTs := xckB_ok (pl := 465) (by decide +kernel)
theorem xm37_c : xmW xm37 ∈ xTs := xckB_ok (pl := 469) (by decide +kernel)
theorem xm38_c : xmW xm38 ∈ xTs := xckB_ok (pl := 477) (by decide +kernel)
theorem xm39_c : xmW xm39 ∈ xTs := xckB_ok (pl := 484) (by decide +kernel)
theorem xm40_c : xmW xm40 ∈ xTs := xckB_ok (pl := 488) (by decide +kernel)
theorem xm41_c : xmW xm41 ∈ xTs := xckB_ok (pl := 496) (by decide +kernel)
theorem xm42_c : xmW xm42 ∈ xTs := xckB_ok (pl := 526) (by decide +kernel)
theorem xm43_c : xmW xm43 ∈ xTs := xckB_ok (pl := 126) (by decide +kernel)
theorem xm44_c : xmW xm44 ∈ xTs := xckB_ok (pl := 557) (by decide +kernel)
theorem xm45_c : xmW xm45 ∈ xTs := xckB_ok (pl := 947) (by decide +kernel)
theorem xm46_c : xmW xm46 ∈ xTs := xckB_ok (pl := 867) (by decide +kernel)
theorem xm47_c : xmW xm47 ∈ xTs := xckB_ok (pl := 870) (by decide +kernel)
theorem xm48_c : xmW xm48 ∈ xTs := xckB_ok (pl := 956) (by decide +kernel)
theorem xm49_c : xmW xm49 ∈ xTs := xckB_ok (pl := 952) (by decide +kernel)
theorem xm50_c : xmW xm50 ∈ xTs := xckB_ok (pl := 340) (by decide +kernel)
theorem xm51_c : xmW xm51 ∈ xTs := xckB_ok (pl := 567) (by decide +kernel)
theorem xm52_c : xmW xm52 ∈ xTs := xckB_ok (pl := 393) (by decide +kernel)
theorem xm53_c : xmW xm53 ∈ xTs := xckB_ok (pl := 150) (by decide +kernel)
theorem xm54_c : xmW xm54 ∈ xTs := xckB_ok (pl := 308) (by decide +kernel)
theorem xm55_c : xmW xm55 ∈ xTs := xckB_ok (pl := 186) (by decide +kernel)
theorem xm56_c : xmW xm56 ∈ xTs := xckB_ok (pl := 289) (by decide +kernel)
theorem xm57_c : xmW xm57 ∈ xTs := xckB_ok (pl := 416) (by decide +kernel)
theorem xm58_c : xmW xm58 ∈ xTs := xckB_ok (pl := 875) (by decide +kernel)
theorem xm59_c : xmW xm59 ∈ xTs := xckB_ok (pl := 453) (by decide +kernel)
theorem xm60_c : xmW xm60 ∈ xTs := xckB_ok (pl := 423) (by decide +kernel)
theorem xm61_c : xmW xm61 ∈ xTs := xckB_ok (pl := 178) (by decide +kernel)
theorem xm62_c : xmW xm62 ∈ xTs := xckB_ok (pl := 367) (by decide +kernel)
theorem xm63_c : xmW xm63 ∈ xTs := xckB_ok (pl := 735) (by decide +kernel)
theorem xm64_c : xmW xm64 ∈ xTs := xckB_ok (pl := 473) (by decide +kernel)
theorem xm65_c : xmW xm65 ∈ xTs := xckB_ok (pl := 432) (by decide +kernel)
theorem xm66_c : xmW xm66 ∈ xTs := xckB_ok (pl := 428) (by decide +kernel)
theorem xm67_c : xmW xm67 ∈ xTs := xckB_ok (pl := 437) (by decide +kernel)
theorem xm68_c : xmW xm68 ∈ xTs := xckB_ok (pl := 349) (by decide +kernel)
theorem xm69_c : xmW xm69 ∈ xTs := xckB_ok (pl := 686) (by decide +kernel)
theorem xm70_c : xmW xm70 ∈ xTs := xckB_ok (pl := 293) (by decide +kernel)
theorem xm71_c : xmW xm71 ∈ xTs := xckB_ok (pl := 298) (by decide +kernel)
theorem xm72_c : xmW xm72 ∈ xTs := xckB_ok (pl := 321) (by decide +kernel)
theorem xm73_c : xmW xm73 ∈ xTs := xckB_ok (pl := 620) (by decide +kernel)
theorem xm74_c : xmW xm74 ∈ xTs := xckB_ok (pl := 203) (by decide +kernel)
theorem xm75_c : xmW xm75 ∈ xTs := xckB_ok (pl := 268) (by decide +kernel)
theorem xm76_c : xmW xm76 ∈ xTs := xckB_ok (pl := 264) (by decide +kernel)
theorem xm77_c : xmW xm77 ∈ xTs := xckB_ok (pl := 513) (by decide +kernel)
theorem xm78_c : xmW xm78 ∈ xTs := xckB_ok (pl := 420) (by decide +kernel)
theorem xm79_c : xmW xm79 ∈ xTs := xckB_ok (pl := 154) (by decide +kernel)
theorem xm80_c : xmW xm80 ∈ xTs := xckB_ok (pl := 163) (by decide +kernel)
theorem xm81_c : xmW xm81 ∈ xTs := xckB_ok (pl := 159) (by decide +kernel)
theorem xm82_c : xmW xm82 ∈ xTs := xckB_ok (pl := 244) (by decide +kernel)
theorem xm83_c : xmW xm83 ∈ xTs := xckB_ok (pl := 248) (by decide +kernel)
theorem xm84_c : xmW xm84 ∈ xTs := xckB_ok (pl := 256) (by decide +kernel)
theorem xm85_c : xmW xm85 ∈ xTs := xckB_ok (pl := 260) (by decide +kernel)
theorem xm86_c : xmW xm86 ∈ xTs := xckB_ok (pl := 182) (by decide +kernel)
theorem xm87_c : xmW xm87 ∈ xTs := xckB_ok (pl := 175) (by decide +kernel)
theorem xm88_c : xmW xm88 ∈ xTs := xckB_ok (pl := 171) (by decide +kernel)
theorem xm89_c : xmW xm89 ∈ xTs := xckB_ok (pl := 984) (by decide +kernel)
theorem xm90_c : xmW xm90 ∈ xTs := xckB_ok (pl := 167) (by decide +kernel)
theorem xm91_c : xmW xm91 ∈ xTs := xckB_ok (pl := 1037) (by decide +kernel)
theorem xm92_c : xmW xm92 ∈ xTs := xckB_ok (pl := 879) (by decide +kernel)
theorem xm93_c : xmW xm93 ∈ xTs := xckB_ok (pl := 884) (by decide +kernel)
theorem xm94_c : xmW xm94 ∈ xTs := xckB_ok (pl := 961) (by decide +kernel)
theorem xm95_c : xmW xm95 ∈ xTs := xckB_ok (pl := 217) (by decide +kernel)
theorem xm96_c : xmW xm96 ∈ xTs := xckB_ok (pl := 329) (by decide +kernel)
theorem xm97_c : xmW xm97 ∈ xTs := xckB_ok (pl := 705) (by decide +kernel)
theorem xm98_c : xmW xm98 ∈ xTs := xckB_ok (pl := 272) (by decide +kernel)
theorem xm99_c : xmW xm99 ∈ xTs := xckB_ok (pl := 357) (by decide +kernel)
theorem xm100_c : xmW xm100 ∈ xTs := xckB_ok (pl := 363) (by decide +kernel)
theorem xm101_c : xmW xm101 ∈ xTs := xckB_ok (pl := 375) (by decide +kernel)
theorem xm102_c : xmW xm102 ∈ xTs := xckB_ok (pl := 378) (by decide +kernel)
theorem xm103_c : xmW xm103 ∈ xTs := xckB_ok (pl := 371) (by decide +kernel)
theorem xm104_c : xmW xm104 ∈ xTs := xckB_ok (pl := 446) (by decide +kernel)
theorem xm105_c : xmW xm105 ∈ xTs := xckB_ok (pl := 967) (by decide +kernel)
theorem xm106_c : xmW xm106 ∈ xTs := xckB_ok (pl := 971) (by decide +kernel)
theorem xm107_c : xmW xm107 ∈ xTs := xckB_ok (pl := 252) (by decide +kernel)
theorem xm108_c : xmW xm108 ∈ xTs := xckB_ok (pl := 640) (by decide +kernel)
theorem xm109_c : xmW xm109 ∈ xTs := xckB_ok (pl := 190) (by decide +kernel)
theorem xm110_c : xmW xm110 ∈ xTs := xckB_ok (pl := 208) (by decide +kernel)
theorem xm111_c : xmW xm111 ∈ xTs := xckB_ok (pl := 221) (by decide +kernel)
theorem xm112_c : xmW xm112 ∈ xTs := xckB_ok (pl := 213) (by decide +kernel)
theorem xm113_c : xmW xm113 ∈ xTs := xckB_ok (pl := 239) (by decide +kernel)
theorem xm114_c : xmW xm114 ∈ xTs := xckB_ok (pl := 225) (by decide +kernel)
theorem xm115_c : xmW xm115 ∈ xTs := xckB_ok (pl := 229) (by decide +kernel)
theorem xm116_c : xmW xm116 ∈ xTs := xckB_ok (pl := 233) (by decide +kernel)
theorem xm117_c : xmW xm117 ∈ xTs := xckB_ok (pl := 889) (by decide +kernel)
theorem xm118_c : xmW xm118 ∈ xTs := xckB_ok (pl := 1012) (by decide +kernel)
theorem xm119_c : xmW xm119 ∈ xTs := xckB_ok (pl := 1024) (by decide +kernel)
theorem xm120_c : xmW xm120 ∈ xTs := xckB_ok (pl := 1015) (by decide +kernel)
theorem xm121_c : xmW xm121 ∈ xTs := xckB_ok (pl := 597) (by decide +kernel)
theorem xm122_c : xmW xm122 ∈ xTs := xckB_ok (pl := 199) (by decide +kernel)
theorem xm123_c : xmW xm123 ∈ xTs := xckB_ok (pl := 146) (by decide +kernel)
theorem xm124_c : xmW xm124 ∈ xTs := xckB_ok (pl := 194) (by decide +kernel)
theorem xm125_c : xmW xm125 ∈ xTs := xckB_ok (pl := 850) (by decide +kernel)
theorem xm126_c : xmW xm126 ∈ xTs := xckB_ok (pl := 846) (by decide +kernel)
theorem xm127_c : xmW xm127 ∈ xTs := xckB_ok (pl := 577) (by decide +kernel)
theorem xm128_c : xmW xm128 ∈ xTs := xckB_ok (pl := 843) (by decide +kernel)
theorem xm129_c : xmW xm129 ∈ xTs := xckB_ok (pl := 933) (by decide +kernel)
theorem xm130_c : xmW xm130 ∈ xTs := xckB_ok (pl := 936) (by decide +kernel)
theorem xm131_c : xmW xm131 ∈ xTs := xckB_ok (pl := 1085) (by decide +kernel)
theorem xm132_c : xmW xm132 ∈ xTs := xckB_ok (pl := 854) (by decide +kernel)
theorem xm133_c : xmW xm133 ∈ xTs := xckB_ok (pl := 858) (by decide +kernel)
theorem xm134_c : xmW xm134 ∈ xTs := xckB_ok (pl := 1028) (by decide +kernel)
theorem xm135_c : xmW xm135 ∈ xTs := xckB_ok (pl := 1056) (by decide +kernel)
theorem xm136_c : xmW xm136 ∈ xTs := xckB_ok (pl := 1066) (by decide +kernel)
theorem xm137_c : xmW xm137 ∈ xTs := xckB_ok (pl := 1074) (by decide +kernel)
theorem xm138_c : xmW xm138 ∈ xTs := xckB_ok (pl := 1077) (by decide +kernel)
theorem xm139_c : xmW xm139 ∈ xTs := xckB_ok (pl := 1081) (by decide +kernel)
theorem xm140_c : xmW xm140 ∈ xTs := xckB_ok (pl := 1089) (by decide +kernel)
theorem xm141_c : xmW xm141 ∈ xTs := xckB_ok (pl := 1093) (by decide +kernel)
set_option maxRecDepth 20000 in
theorem xcode_ok : ∀ Y ∈ xMs, xmW Y ∈ xTs := by
  unfold xMs
  exact List.forall_mem_cons.mpr ⟨xm0_c, List.forall_mem_cons.mpr ⟨xm1_c, List.forall_mem_cons.mpr ⟨xm2_c, List.forall_mem_cons.mpr ⟨xm3_c, List.forall_mem_cons.mpr ⟨xm4_c, List.forall_mem_cons.mpr ⟨xm5_c, List.forall_mem_cons.mpr ⟨xm6_c, List.forall_mem_cons.mpr ⟨xm7_c, List.forall_mem_cons.mpr ⟨xm8_c, List.forall_mem_cons.mpr ⟨xm9_c, List.forall_mem_cons.mpr ⟨xm10_c, List.forall_mem_cons.mpr ⟨xm11_c, List.forall_mem_cons.mpr ⟨xm12_c, List.forall_mem_cons.mpr ⟨xm13_c, List.forall_mem_cons.mpr ⟨xm14_c, List.forall_mem_cons.mpr ⟨xm15_c, List.forall_mem_cons.mpr ⟨xm16_c, List.forall_mem_cons.mpr ⟨xm17_c, List.forall_mem_cons.mpr ⟨xm18_c, List.forall_mem_cons.mpr ⟨xm19_c, List.forall_mem_cons.mpr ⟨xm20_c, List.forall_mem_cons.mpr ⟨xm21_c, List.forall_mem_cons.mpr ⟨xm22_c, List.forall_mem_cons.mpr ⟨xm23_c, List.forall_mem_cons.mpr ⟨xm24_c, List.forall_mem_cons.mpr ⟨xm25_c, List.forall_mem_cons.mpr ⟨xm26_c, List.forall_mem_cons.mpr ⟨xm27_c, List.forall_mem_cons.mpr ⟨xm28_c, List.forall_mem_cons.mpr ⟨xm29_c, List.forall_mem_cons.mpr ⟨xm30_c, List.forall_mem_cons.mpr ⟨xm31_c, List.forall_mem_cons.mpr ⟨xm32_c, List.forall_mem_cons.mpr ⟨xm33_c, List.forall_mem_cons.mpr ⟨xm34_c, List.forall_mem_cons.mpr ⟨xm35_c, List.forall_mem_cons.mpr ⟨xm36_c, List.forall_mem_cons.mpr ⟨xm37_c, List.forall_mem_cons.mpr ⟨xm38_c, List.forall_mem_cons.mpr ⟨xm39_c, List.forall_mem_cons.mpr ⟨xm40_c, List.forall_mem_cons.mpr ⟨xm41_c, List.forall_mem_cons.mpr ⟨xm42_c, List.forall_mem_cons.mpr ⟨xm43_c, List.forall_mem_cons.mpr ⟨xm44_c, List.forall_mem_cons.mpr ⟨xm45_c, List.forall_mem_cons.mpr ⟨xm46_c, List.forall_mem_cons.mpr ⟨xm47_c, List.forall_mem_cons.mpr ⟨xm48_c, List.forall_mem_cons.mpr ⟨xm49_c, List.forall_mem_cons.mpr ⟨xm50_c, List.forall_mem_cons.mpr ⟨xm51_c, List.forall_mem_cons.mpr ⟨xm52_c, List.forall_mem_cons.mpr ⟨xm53_c, List.forall_mem_cons.mpr ⟨xm54_c, List.forall_mem_cons.mpr ⟨xm55_c, List.forall_mem_cons.mpr ⟨xm56_c, List.forall_mem_cons.mpr ⟨xm57_c, List.forall_mem_cons.mpr ⟨xm58_c, List.forall_mem_cons.mpr ⟨xm59_c, List.forall_mem_cons.mpr ⟨xm60_c, List.forall_mem_cons.mpr ⟨xm61_c, List.forall_mem_cons.mpr ⟨xm62_c, List.forall_mem_cons.mpr ⟨xm63_c, List.forall_mem_cons.mpr ⟨xm64_c, List.forall_mem_cons.mpr ⟨xm65_c, List.forall_mem_cons.mpr ⟨xm66_c, List.forall_mem_cons.mpr ⟨xm67_c, List.forall_mem_cons.mpr ⟨xm68_c, List.forall_mem_cons.mpr ⟨xm69_c, List.forall_mem_cons.mpr ⟨xm70_c, List.forall_mem_cons.mpr ⟨xm71_c, List.forall_mem_cons.mpr ⟨xm72_c, List.forall_mem_cons.mpr ⟨xm73_c, List.forall_mem_cons.mpr ⟨xm74_c, List.forall_mem_cons.mpr ⟨xm75_c, List.forall_mem_cons.mpr ⟨xm76_c, List.forall_mem_cons.mpr ⟨xm77_c, List.forall_mem_cons.mpr ⟨xm78_c, List.forall_mem_cons.mpr ⟨xm79_c, List.forall_mem_cons.mpr ⟨xm80_c, List.forall_mem_cons.mpr ⟨xm81_c, List.forall_mem_cons.mpr ⟨xm82_c, List.forall_mem_cons.mpr ⟨xm83_c, List.forall_mem_cons.mpr ⟨xm84_c, List.forall_mem_cons.mpr ⟨xm85_c, List.forall_mem_cons.mpr ⟨xm86_c, List.forall_mem_cons.mpr ⟨xm87_c, List.forall_mem_cons.mpr ⟨xm88_c, List.forall_mem_cons.mpr ⟨xm89_c, List.forall_mem_cons.mpr ⟨xm90_c, List.forall_mem_cons.mpr ⟨xm91_c, List.forall_mem_cons.mpr ⟨xm92_c, List.forall_mem_cons.mpr ⟨xm93_c, List.forall_mem_cons.mpr ⟨xm94_c, List.forall_mem_cons.mpr ⟨xm95_c, List.forall_mem_cons.mpr ⟨xm96_c, List.forall_mem_cons.mpr ⟨xm97_c, List.forall_mem_cons.mpr ⟨xm98_c, List.forall_mem_cons.mpr ⟨xm99_c, List.forall_mem_cons.mpr ⟨xm100_c, List.forall_mem_cons.mpr ⟨xm101_c, List.forall_mem_cons.mpr ⟨xm102_c, List.forall_mem_cons.mpr ⟨xm103_c, List.forall_mem_cons.mpr ⟨xm104_c, List.forall_mem_cons.mpr ⟨xm105_c, List.forall_mem_cons.mpr ⟨xm106_c, List.forall_mem_cons.mpr ⟨xm107_c, List.forall_mem_cons.mpr ⟨xm108_c, List.forall_mem_cons.mpr ⟨xm109_c, List.forall_mem_cons.mpr ⟨xm110_c, List.forall_mem_cons.mpr ⟨xm111_c, List.forall_mem_cons.mpr ⟨xm112_c, List.forall_mem_cons.mpr ⟨xm113_c, List.forall_mem_cons.mpr ⟨xm114_c, List.forall_mem_cons.mpr ⟨xm115_c, List.forall_mem_cons.mpr ⟨xm116_c, List.forall_mem_cons.mpr ⟨xm117_c, List.forall_mem_cons.mpr ⟨xm118_c, List.forall_mem_cons.mpr ⟨xm119_c, List.forall_mem_cons.mpr ⟨xm120_c, List.forall_mem_cons.mpr ⟨xm121_c, List.forall_mem_cons.mpr ⟨xm122_c, List.forall_mem_cons.mpr ⟨xm123_c, List.forall_mem_cons.mpr ⟨xm124_c, List.forall_mem_cons.mpr ⟨xm125_c, List.forall_mem_cons.mpr ⟨xm126_c, List.forall_mem_cons.mpr ⟨xm127_c, List.forall_mem_cons.mpr ⟨xm128_c, List.forall_mem_cons.mpr ⟨xm129_c, List.forall_mem_cons.mpr ⟨xm130_c, List.forall_mem_cons.mpr ⟨xm131_c, List.forall_mem_cons.mpr ⟨xm132_c, List.forall_mem_cons.mpr ⟨xm133_c, List.forall_mem_cons.mpr ⟨xm134_c, List.forall_mem_cons.mpr ⟨xm135_c, List.forall_mem_cons.mpr ⟨xm136_c, List.forall_mem_cons.mpr ⟨xm137_c, List.forall_mem_cons.mpr ⟨xm138_c, List.forall_mem_cons.mpr ⟨xm139_c, List.forall_mem_cons.mpr ⟨xm140_c, List.forall_mem_cons.mpr ⟨xm141_c, fun _ h => absurd h List.not_mem_nil⟩⟩⟩⟩⟩⟩⟩⟩⟩⟩⟩⟩⟩⟩⟩⟩⟩⟩⟩⟩⟩⟩⟩⟩⟩⟩⟩⟩⟩⟩⟩⟩⟩⟩⟩⟩⟩⟩⟩⟩⟩⟩⟩⟩⟩⟩⟩⟩⟩⟩⟩⟩⟩⟩⟩⟩⟩⟩⟩⟩⟩⟩⟩⟩⟩⟩⟩⟩⟩⟩⟩⟩⟩⟩⟩⟩⟩⟩⟩⟩⟩⟩⟩⟩⟩⟩⟩⟩⟩⟩⟩⟩⟩⟩⟩⟩⟩⟩⟩⟩⟩⟩⟩⟩⟩⟩⟩⟩⟩⟩⟩⟩⟩⟩⟩⟩⟩⟩⟩⟩⟩⟩⟩⟩⟩⟩⟩⟩⟩⟩⟩⟩⟩⟩⟩⟩⟩⟩⟩⟩⟩⟩
end XU
end
section
section XU
theorem xseg_ok {α : Type} {f : α → Bool} {l : List α} {n m : Nat} (hn : 0 < n) (hl : l.length ≤ n * m) (h : ∀ k, k < m → ((l.drop (n * k)).take n).all f = true) : l.all f = true := by
  rw [List.all_eq_true]
  intro e he
  obtain ⟨i, hi, rfl⟩ := List.mem_iff_getElem.mp he
  have hk : i / n < m := by
    rw [Nat.div_lt_iff_lt_mul hn]
    rw [Nat.mul_comm m n]
    omega
  refine List.all_eq_true.mp (h (i / n) hk) _ ?_
  have h1 := Nat.div_add_mod i n
  have h2 := Nat.mod_lt i hn
  refine List.mem_iff_getElem.mpr ⟨i % n, ?_, ?_⟩
  · rw [List.length_take, List.length_drop]
    omega
  · rw [List.getElem_take, List.getElem_drop]
    congr 1
set_option maxRecDepth 100000 in
theorem xm0_s0 : ((xm0c.drop (12 * 0)).take 12).all (xveB xMs xm0) = true := by decide +kernel
set_option maxRecDepth 100000 in
theorem xm0_s1 : ((xm0c.drop (12 * 1)).take 12).all (xveB xMs xm0) = true := by decide +kernel
set_option maxRecDepth 100000 in
theorem xm0_s2 : ((xm0c.drop (12 * 2)).take 12).all (xveB xMs xm0) = true := by decide +kernel
set_option maxRecDepth 100000 in
theorem xm0_s3 : ((xm0c.drop (12 * 3)).take 12).all (xveB xMs xm0) = true := by decide +kernel
set_option maxRecDepth 100000 in
theorem xm0_s4 : ((xm0c.drop (12 * 4)).take 12).all (xveB xMs xm0) = true := by decide +kernel
theorem xm0_a : xm0c.all (xveB xMs xm0) = true := xseg_ok (n := 12) (m := 5) (by decide) (by decide +kernel) (fun k hk => match k, hk with
  | 0, _ => xm0_s0
  | 1, _ => xm0_s1
  | 2, _ => xm0_s2
  | 3, _ => xm0_s3
  | 4, _ => xm0_s4
  | n + 5, h => absurd h (by omega))
set_option maxRecDepth 100000 in
theorem xm1_s0 : ((xm1c.drop (12 * 0)).take 12).all (xveB xMs xm1) = true := by decide +kernel
set_option maxRecDepth 100000 in
theorem xm1_s1 : ((xm1c.drop (12 * 1)).take 12).all (xveB xMs xm1) = true := by decide +kernel
theorem xm1_a : xm1c.all (xveB xMs xm1) = true := xseg_ok (n := 12) (m := 2) (by decide) (by decide +kernel) (fun k hk => match k, hk with
  | 0, _ => xm1_s0
  | 1, _ => xm1_s1
  | n + 2, h => absurd h (by omega))
set_option maxRecDepth 100000 in
theorem xm2_s0 : ((xm2c.drop (12 * 0)).take 12).all (xveB xMs xm2) = true := by decide +kernel
set_option maxRecDepth 100000 in
theorem xm2_s1 : ((xm2c.drop (12 * 1)).take 12).all (xveB xMs xm2) = true := by decide +kernel
set_option maxRecDepth 100000 in
theorem xm2_s2 : ((xm2c.drop (12 * 2)).take 12).all (xveB xMs xm2) = true := by decide +kernel
theorem xm2_a : xm2c.all (xveB xMs xm2) = true := xseg_ok (n := 12) (m := 3) (by decide) (by decide +kernel) (fun k hk => match k, hk with
  | 0, _ => xm2_s0
  | 1, _ => xm2_s1
  | 2, _ => xm2_s2
  | n + 3, h => absurd h (by omega))
set_option maxRecDepth 100000 in
theorem xm3_s0 : ((xm3c.drop (12 * 0)).take 12).all (xveB xMs xm3) = true := by decide +kernel
set_option maxRecDepth 100000 in
theorem xm3_s1 : ((xm3c.drop (12 * 1)).take 12).all (xveB xMs xm3) = true := by decide +kernel
set_option maxRecDepth 100000 in
theorem xm3_s2 : ((xm3c.drop (12 * 2)).take 12).all (xveB xMs xm3) = true := by decide +kernel
set_option maxRecDepth 100000 in
theorem xm3_s3 : ((xm3c.drop (12 * 3)).take 12).all (xveB xMs xm3) = true := by decide +kernel
set_option maxRecDepth 100000 in
theorem xm3_s4 : ((xm3c.drop (12 * 4)).take 12).all (xveB xMs xm3) = true := by decide +kernel
theorem xm3_a : xm3c.all (xveB xMs xm3) = true := xseg_ok (n := 12) (m := 5) (by decide) (by decide +kernel) (fun k hk => match k, hk with
  | 0, _ => xm3_s0
  | 1, _ => xm3_s1
  | 2, _ => xm3_s2
  | 3, _ => xm3_s3
  | 4, _ => xm3_s4
  | n + 5, h => absurd h (by omega))
set_option maxRecDepth 100000 in
theorem xm4_s0 : ((xm4c.drop (12 * 0)).take 12).all (xveB xMs xm4) = true := by decide +kernel
set_option maxRecDepth 100000 in
theorem xm4_s1 : ((xm4c.drop (12 * 1)).take 12).all (xveB xMs xm4) = true := by decide +kernel
set_option maxRecDepth 100000 in
theorem xm4_s2 : ((xm4c.drop (12 * 2)).take 12).all (xveB xMs xm4) = true := by decide +kernel
set_option maxRecDepth 100000 in
theorem xm4_s3 : ((xm4c.drop (12 * 3)).take 12).all (xveB xMs xm4) = true := by decide +kernel
theorem xm4_a : xm4c.all (xveB xMs xm4) = true := xseg_ok (n := 12) (m := 4) (by decide) (by decide +kernel) (fun k hk => match k, hk with
  | 0, _ => xm4_s0
  | 1, _ => xm4_s1
  | 2, _ => xm4_s2
  | 3, _ => xm4_s3
  | n + 4, h => absurd h (by omega))
set_option maxRecDepth 100000 in
theorem xm5_s0 : ((xm5c.drop (12 * 0)).take 12).all (xveB xMs xm5) = true := by decide +kernel
set_option maxRecDepth 100000 in
theorem xm5_s1 : ((xm5c.drop (12 * 1)).take 12).all (xveB xMs xm5) = true := by decide +kernel
theorem xm5_a : xm5c.all (xveB xMs xm5) = true := xseg_ok (n := 12) (m := 2) (by decide) (by decide +kernel) (fun k hk => match k, hk with
  | 0, _ => xm5_s0
  | 1, _ => xm5_s1
  | n + 2, h => absurd h (by omega))
set_option maxRecDepth 100000 in
theorem xm6_s0 : ((xm6c.drop (12 * 0)).take 12).all (xveB xMs xm6) = true := by decide +kernel
theorem xm6_a : xm6c.all (xveB xMs xm6) = true := xseg_ok (n := 12) (m := 1) (by decide) (by decide +kernel) (fun k hk => match k, hk with
  | 0, _ => xm6_s0
  | n + 1, h => absurd h (by omega))
set_option maxRecDepth 100000 in
theorem xm7_s0 : ((xm7c.drop (12 * 0)).take 12).all (xveB xMs xm7) = true := by decide +kernel
theorem xm7_a : xm7c.all (xveB xMs xm7) = true := xseg_ok (n := 12) (m := 1) (by decide) (by decide +kernel) (fun k hk => match k, hk with
  | 0, _ => xm7_s0
  | n + 1, h => absurd h (by omega))
set_option maxRecDepth 100000 in
theorem xm8_s0 : ((xm8c.drop (12 * 0)).take 12).all (xveB xMs xm8) = true := by decide +kernel
theorem xm8_a : xm8c.all (xveB xMs xm8) = true := xseg_ok (n := 12) (m := 1) (by decide) (by decide +kernel) (fun k hk => match k, hk with
  | 0, _ => xm8_s0
  | n + 1, h => absurd h (by omega))
set_option maxRecDepth 100000 in
theorem xm9_s0 : ((xm9c.drop (12 * 0)).take 12).all (xveB xMs xm9) = true := by decide +kernel
set_option maxRecDepth 100000 in
theorem xm9_s1 : ((xm9c.drop (12 * 1)).take 12).all (xveB xMs xm9) = true := by decide +kernel
set_option maxRecDepth 100000 in
theorem xm9_s2 : ((xm9c.drop (12 * 2)).take 12).all (xveB xMs xm9) = true := by decide +kernel
set_option maxRecDepth 100000 in
theorem xm9_s3 : ((xm9c.drop (12 * 3)).take 12).all (xveB xMs xm9) = true := by decide +kernel
theorem xm9_a : xm9c.all (xveB xMs xm9) = true := xseg_ok (n := 12) (m := 4) (by decide) (by decide +kernel) (fun k hk => match k, hk with
  | 0, _ => xm9_s0
  | 1, _ => xm9_s1
  | 2, _ => xm9_s2
  | 3, _ => xm9_s3
  | n + 4, h => absurd h (by omega))
set_option maxRecDepth 100000 in
theorem xm10_s0 : ((xm10c.drop (12 * 0)).take 12).all (xveB xMs xm10) = true := by decide +kernel
theorem xm10_a : xm10c.all (xveB xMs xm10) = true := xseg_ok (n := 12) (m := 1) (by decide) (by decide +kernel) (fun k hk => match k, hk with
  | 0, _ => xm10_s0
  | n + 1, h => absurd h (by omega))
set_option maxRecDepth 100000 in
theorem xm11_s0 : ((xm11c.drop (12 * 0)).take 12).all (xveB xMs xm11) = true := by decide +kernel
set_option maxRecDepth 100000 in
theorem xm11_s1 : ((xm11c.drop (12 * 1)).take 12).all (xveB xMs xm11) = true := by decide +kernel
set_option maxRecDepth 100000 in
theorem xm11_s2 : ((xm11c.drop (12 * 2)).take 12).all (xveB xMs xm11) = true := by decide +kernel
set_option maxRecDepth 100000 in
theorem xm11_s3 : ((xm11c.drop (12 * 3)).take 12).all (xveB xMs xm11) = true := by decide +kernel
set_option maxRecDepth 100000 in
theorem xm11_s4 : ((xm11c.drop (12 * 4)).take 12).all (xveB xMs xm11) = true := by decide +kernel
theorem xm11_a : xm11c.all (xveB xMs xm11) = true := xseg_ok (n := 12) (m := 5) (by decide) (by decide +kernel) (fun k hk => match k, hk with
  | 0, _ => xm11_s0
  | 1, _ => xm11_s1
  | 2, _ => xm11_s2
  | 3, _ => xm11_s3
  | 4, _ => xm11_s4
  | n + 5, h => absurd h (by omega))
set_option maxRecDepth 100000 in
theorem xm12_s0 : ((xm12c.drop (12 * 0)).take 12).all (xveB xMs xm12) = true := by decide +kernel
theorem xm12_a : xm12c.all (xveB xMs xm12) = true := xseg_ok (n := 12) (m := 1) (by decide) (by decide +kernel) (fun k hk => match k, hk with
  | 0, _ => xm12_s0
  | n + 1, h => absurd h (by omega))
set_option maxRecDepth 100000 in
theorem xm13_s0 : ((xm13c.drop (12 * 0)).take 12).all (xveB xMs xm13) = true := by decide +kernel
theorem xm13_a : xm13c.all (xveB xMs xm13) = true := xseg_ok (n := 12) (m := 1) (by decide) (by decide +kernel) (fun k hk => match k, hk with
  | 0, _ => xm13_s0
  | n + 1, h => absurd h (by omega))
set_option maxRecDepth 100000 in
theorem xm14_s0 : ((xm14c.drop (12 * 0)).take 12).all (xveB xMs xm14) = true := by decide +kernel
theorem xm14_a : xm14c.all (xveB xMs xm14) = true := xseg_ok (n := 12) (m := 1) (by decide) (by decide +kernel) (fun k hk => match k, hk with
  | 0, _ => xm14_s0
  | n + 1, h => absurd h (by omega))
set_option maxRecDepth 100000 in
theorem xm15_s0 : ((xm15c.drop (12 * 0)).take 12).all (xveB xMs xm15) = true := by decide +kernel
set_option maxRecDepth 100000 in
theorem xm15_s1 : ((xm15c.drop (12 * 1)).take 12).all (xveB xMs xm15) = true := by decide +kernel
theorem xm15_a : xm15c.all (xveB xMs xm15) = true := xseg_ok (n := 12) (m := 2) (by decide) (by decide +kernel) (fun k hk => match k, hk with
  | 0, _ => xm15_s0
  | 1, _ => xm15_s1
  | n + 2, h => absurd h (by omega))
set_option maxRecDepth 100000 in
theorem xm16_s0 : ((xm16c.drop (12 * 0)).take 12).all (xveB xMs xm16) = true := by decide +kernel
theorem xm16_a : xm16c.all (xveB xMs xm16) = true := xseg_ok (n := 12) (m := 1) (by decide) (by decide +kernel) (fun k hk => match k, hk with
  | 0, _ => xm16_s0
  | n + 1, h => absurd h (by omega))
set_option maxRecDepth 100000 in
theorem xm17_s0 : ((xm17c.drop (12 * 0)).take 12).all (xveB xMs xm17) = true := by decide +kernel
set_option maxRecDepth 100000 in
theorem xm17_s1 : ((xm17c.drop (12 * 1)).take 12).all (xveB xMs xm17) = true := by decide +kernel
set_option maxRecDepth 100000 in
theorem xm17_s2 : ((xm17c.drop (12 * 2)).take 12).all (xveB xMs xm17) = true := by decide +kernel
theorem xm17_a : xm17c.all (xveB xMs xm17) = true := xseg_ok (n := 12) (m := 3) (by decide) (by decide +kernel) (fun k hk => match k, hk with
  | 0, _ => xm17_s0
  | 1, _ => xm17_s1
  | 2, _ => xm17_s2
  | n + 3, h => absurd h (by omega))
set_option maxRecDepth 100000 in
theorem xm18_s0 : ((xm18c.drop (12 * 0)).take 12).all (xveB xMs xm18) = true := by decide +kernel
set_option maxRecDepth 100000 in
theorem xm18_s1 : ((xm18c.drop (12 * 1)).take 12).all (xveB xMs xm18) = true := by decide +kernel
set_option maxRecDepth 100000 in
theorem xm18_s2 : ((xm18c.drop (12 * 2)).take 12).all (xveB xMs xm18) = true := by decide +kernel
theorem xm18_a : xm18c.all (xveB xMs xm18) = true := xseg_ok (n := 12) (m := 3) (by decide) (by decide +kernel) (fun k hk => match k, hk with
  | 0, _ => xm18_s0
  | 1, _ => xm18_s1
  | 2, _ => xm18_s2
  | n + 3, h => absurd h (by omega))
set_option maxRecDepth 100000 in
theorem xm19_s0 : ((xm19c.drop (12 * 0)).take 12).all (xveB xMs xm19) = true := by decide +kernel
theorem xm19_a : xm19c.all (xveB xMs xm19) = true := xseg_ok (n := 12) (m := 1) (by decide) (by decide +kernel) (fun k hk => match k, hk with
  | 0, _ => xm19_s0
  | n + 1, h => absurd h (by omega))
set_option maxRecDepth 100000 in
theorem xm20_s0 : ((xm20c.drop (12 * 0)).take 12).all (xveB xMs xm20) = true := by decide +kernel
set_option maxRecDepth 100000 in
theorem xm20_s1 : ((xm20c.drop (12 * 1)).take 12).all (xveB xMs xm20) = true := by decide +kernel
theorem xm20_a : xm20c.all (xveB xMs xm20) = true := xseg_ok (n := 12) (m := 2) (by decide) (by decide +kernel) (fun k hk => match k, hk with
  | 0, _ => xm20_s0
  | 1, _ => xm20_s1
  | n + 2, h => absurd h (by omega))
set_option maxRecDepth 100000 in
theorem xm21_s0 : ((xm21c.drop (12 * 0)).take 12).all (xveB xMs xm21) = true := by decide +kernel
set_option maxRecDepth 100000 in
theorem xm21_s1 : ((xm21c.drop (12 * 1)).take 12).all (xveB xMs xm21) = true := by decide +kernel
set_option maxRecDepth 100000 in
theorem xm21_s2 : ((xm21c.drop (12 * 2)).take 12).all (xveB xMs xm21) = true := by decide +kernel
theorem xm21_a : xm21c.all (xveB xMs xm21) = true := xseg_ok (n := 12) (m := 3) (by decide) (by decide +kernel) (fun k hk => match k, hk with
  | 0, _ => xm21_s0
  | 1, _ => xm21_s1
  | 2, _ => xm21_s2
  | n + 3, h => absurd h (by omega))
set_option maxRecDepth 100000 in
theorem xm22_s0 : ((xm22c.drop (12 * 0)).take 12).all (xveB xMs xm22) = true := by decide +kernel
set_option maxRecDepth 100000 in
theorem xm22_s1 : ((xm22c.drop (12 * 1)).take 12).all (xveB xMs xm22) = true := by decide +kernel
set_option maxRecDepth 100000 in
theorem xm22_s2 : ((xm22c.drop (12 * 2)).take 12).all (xveB xMs xm22) = true := by decide +kernel
theorem xm22_a : xm22c.all (xveB xMs xm22) = true := xseg_ok (n := 12) (m := 3) (by decide) (by decide +kernel) (fun k hk => match k, hk with
  | 0, _ => xm22_s0
  | 1, _ => xm22_s1
  | 2, _ => xm22_s2
  | n + 3, h => absurd h (by omega))
set_option maxRecDepth 100000 in
theorem xm23_s0 : ((xm23c.drop (12 * 0)).take 12).all (xveB xMs xm23) = true := by decide +kernel
set_option maxRecDepth 100000 in
theorem xm23_s1 : ((xm23c.drop (12 * 1)).take 12).all (xveB xMs xm23) = true := by decide +kernel
set_option maxRecDepth 100000 in
theorem xm23_s2 : ((xm23c.drop (12 * 2)).take 12).all (xveB xMs xm23) = true := by decide +kernel
theorem xm23_a : xm23c.all (xveB xMs xm23) = true := xseg_ok (n := 12) (m := 3) (by decide) (by decide +kernel) (fun k hk => match k, hk with
  | 0, _ => xm23_s0
  | 1, _ => xm23_s1
  | 2, _ => xm23_s2
  | n + 3, h => absurd h (by omega))
set_option maxRecDepth 100000 in
theorem xm24_s0 : ((xm24c.drop (12 * 0)).take 12).all (xveB xMs xm24) = true := by decide +kernel
theorem xm24_a : xm24c.all (xveB xMs xm24) = true := xseg_ok (n := 12) (m := 1) (by decide) (by decide +kernel) (fun k hk => match k, hk with
  | 0, _ => xm24_s0
  | n + 1, h => absurd h (by omega))
set_option maxRecDepth 100000 in
theorem xm25_s0 : ((xm25c.drop (12 * 0)).take 12).all (xveB xMs xm25) = true := by decide +kernel
set_option maxRecDepth 100000 in
theorem xm25_s1 : ((xm25c.drop (12 * 1)).take 12).all (xveB xMs xm25) = true := by decide +kernel
theorem xm25_a : xm25c.all (xveB xMs xm25) = true := xseg_ok (n := 12) (m := 2) (by decide) (by decide +kernel) (fun k hk => match k, hk with
  | 0, _ => xm25_s0
  | 1, _ => xm25_s1
  | n + 2, h => absurd h (by omega))
set_option maxRecDepth 100000 in
theorem xm26_s0 : ((xm26c.drop (12 * 0)).take 12).all (xveB xMs xm26) = true := by decide +kernel
set_option maxRecDepth 100000 in
theorem xm26_s1 : ((xm26c.drop (12 * 1)).take 12).all (xveB xMs xm26) = true := by decide +kernel
theorem xm26_a : xm26c.all (xveB xMs xm26) = true := xseg_ok (n := 12) (m := 2) (by decide) (by decide +kernel) (fun k hk => match k, hk with
  | 0, _ => xm26_s0
  | 1, _ => xm26_s1
  | n + 2, h => absurd h (by omega))
set_option maxRecDepth 100000 in
theorem xm27_s0 : ((xm27c.drop (12 * 0)).take 12).all (xveB xMs xm27) = true := by decide +kernel
theorem xm27_a : xm27c.all (xveB xMs xm27) = true := xseg_ok (n := 12) (m := 1) (by decide) (by decide +kernel) (fun k hk => match k, hk with
  | 0, _ => xm27_s0
  | n + 1, h => absurd h (by omega))
set_option maxRecDepth 100000 in
theorem xm28_s0 : ((xm28c.drop (12 * 0)).take 12).all (xveB xMs xm28) = true := by decide +kernel
theorem xm28_a : xm28c.all (xveB xMs xm28) = true := xseg_ok (n := 12) (m := 1) (by decide) (by decide +kernel) (fun k hk => match k, hk with
  | 0, _ => xm28_s0
  | n + 1, h => absurd h (by omega))
set_option maxRecDepth 100000 in
theorem xm29_s0 : ((xm29c.drop (12 * 0)).take 12).all (xveB xMs xm29) = true := by decide +kernel
theorem xm29_a : xm29c.all (xveB xMs xm29) = true := xseg_ok (n := 12) (m := 1) (by decide) (by decide +kernel) (fun k hk => match k, hk with
  | 0, _ => xm29_s0
  | n + 1, h => absurd h (by omega))
set_option maxRecDepth 100000 in
theorem xm30_s0 : ((xm30c.drop (12 * 0)).take 12).all (xveB xMs xm30) = true := by decide +kernel
set_option maxRecDepth 100000 in
theorem xm30_s1 : ((xm30c.drop (12 * 1)).take 12).all (xveB xMs xm30) = true := by decide +kernel
set_option maxRecDepth 100000 in
theorem xm30_s2 : ((xm30c.drop (12 * 2)).take 12).all (xveB xMs xm30) = true := by decide +kernel
theorem xm30_a : xm30c.all (xveB xMs xm30) = true := xseg_ok (n := 12) (m := 3) (by decide) (by decide +kernel) (fun k hk => match k, hk with
  | 0, _ => xm30_s0
  | 1, _ => xm30_s1
  | 2, _ => xm30_s2
  | n + 3, h => absurd h (by omega))
set_option maxRecDepth 100000 in
theorem xm31_s0 : ((xm31c.drop (12 * 0)).take 12).all (xveB xMs xm31) = true := by decide +kernel
set_option maxRecDepth 100000 in
theorem xm31_s1 : ((xm31c.drop (12 * 1)).take 12).all (xveB xMs xm31) = true := by decide +kernel
theorem xm31_a : xm31c.all (xveB xMs xm31) = true := xseg_ok (n := 12) (m := 2) (by decide) (by decide +kernel) (fun k hk => match k, hk with
  | 0, _ => xm31_s0
  | 1, _ => xm31_s1
  | n + 2, h => absurd h (by omega))
set_option maxRecDepth 100000 in
theorem xm32_s0 : ((xm32c.drop (12 * 0)).take 12).all (xveB xMs xm32) = true := by decide +kernel
theorem xm32_a : xm32c.all (xveB xMs xm32) = true := xseg_ok (n := 12) (m := 1) (by decide) (by decide +kernel) (fun k hk => match k, hk with
  | 0, _ => xm32_s0
  | n + 1, h => absurd h (by omega))
set_option maxRecDepth 100000 in
theorem xm33_s0 : ((xm33c.drop (12 * 0)).take 12).all (xveB xMs xm33) = true := by decide +kernel
theorem xm33_a : xm33c.all (xveB xMs xm33) = true := xseg_ok (n := 12) (m := 1) (by decide) (by decide +kernel) (fun k hk => match k, hk with
  | 0, _ => xm33_s0
  | n + 1, h => absurd h (by omega))
set_option maxRecDepth 100000 in
theorem xm34_s0 : ((xm34c.drop (12 * 0)).take 12).all (xveB xMs xm34) = true := by decide +kernel
theorem xm34_a : xm34c.all (xveB xMs xm34) = true := xseg_ok (n := 12) (m := 1) (by decide) (by decide +kernel) (fun k hk => match k, hk with
  | 0, _ => xm34_s0
  | n + 1, h => absurd h (by omega))
set_option maxRecDepth 100000 in
theorem xm35_s0 : ((xm35c.drop (12 * 0)).take 12).all (xveB xMs xm35) = true := by decide +kernel
theorem xm35_a : xm35c.all (xveB xMs xm35) = true := xseg_ok (n := 12) (m := 1) (by decide) (by decide +kernel) (fun k hk => match k, hk with
  | 0, _ => xm35_s0
  | n + 1, h => absurd h (by omega))
set_option maxRecDepth 100000 in
theorem xm36_s0 : ((xm36c.drop (12 * 0)).take 12).all (xveB xMs xm36) = true := by decide +kernel
theorem xm36_a : xm36c.all (xveB xMs xm36) = true := xseg_ok (n := 12) (m := 1) (by decide) (by decide +kernel) (fun k hk => match k, hk with
  | 0, _ => xm36_s0
  | n + 1, h => absurd h (by omega))
set_option maxRecDepth 100000 in
theorem xm37_s0 : ((xm37c.drop (12 * 0)).take 12).all (xveB xMs xm37) = true := by decide +kernel
set_option maxRecDepth 100000 in
theorem xm37_s1 : ((xm37c.drop (12 * 1)).take 12).all (xveB xMs xm37) = true := by decide +kernel
set_option maxRecDepth 100000 in
theorem xm37_s2 : ((xm37c.drop (12 * 2)).take 12).all (xveB xMs xm37) = true := by decide +kernel
set_option maxRecDepth 100000 in
theorem xm37_s3 : ((xm37c.drop (12 * 3)).take 12).all (xveB xMs xm37) = true := by decide +kernel
theorem xm37_a : xm37c.all (xveB xMs xm37) = true := xseg_ok (n := 12) (m := 4) (by decide) (by decide +kernel) (fun k hk => match k, hk with
  | 0, _ => xm37_s0
  | 1, _ => xm37_s1
  | 2, _ => xm37_s2
  | 3, _ => xm37_s3
  | n + 4, h => absurd h (by omega))
end XU
end
section
section XU
set_option maxRecDepth 100000 in
theorem xm38_s0 : ((xm38c.drop (12 * 0)).take 12).all (xveB xMs xm38) = true := by decide +kernel
set_option maxRecDepth 100000 in
theorem xm38_s1 : ((xm38c.drop (12 * 1)).take 12).all (xveB xMs xm38) = true := by decide +kernel
set_option maxRecDepth 100000 in
theorem xm38_s2 : ((xm38c.drop (12 * 2)).take 12).all (xveB xMs xm38) = true := by decide +kernel
set_option maxRecDepth 100000 in
theorem xm38_s3 : ((xm38c.drop (12 * 3)).take 12).all (xveB xMs xm38) = true := by decide +kernel
theorem xm38_a : xm38c.all (xveB xMs xm38) = true := xseg_ok (n := 12) (m := 4) (by decide) (by decide +kernel) (fun k hk => match k, hk with
  | 0, _ => xm38_s0
  | 1, _ => xm38_s1
  | 2, _ => xm38_s2
  | 3, _ => xm38_s3
  | n + 4, h => absurd h (by omega))
set_option maxRecDepth 100000 in
theorem xm39_s0 : ((xm39c.drop (12 * 0)).take 12).all (xveB xMs xm39) = true := by decide +kernel
theorem xm39_a : xm39c.all (xveB xMs xm39) = true := xseg_ok (n := 12) (m := 1) (by decide) (by decide +kernel) (fun k hk => match k, hk with
  | 0, _ => xm39_s0
  | n + 1, h => absurd h (by omega))
set_option maxRecDepth 100000 in
theorem xm40_s0 : ((xm40c.drop (12 * 0)).take 12).all (xveB xMs xm40) = true := by decide +kernel
set_option maxRecDepth 100000 in
theorem xm40_s1 : ((xm40c.drop (12 * 1)).take 12).all (xveB xMs xm40) = true := by decide +kernel
set_option maxRecDepth 100000 in
theorem xm40_s2 : ((xm40c.drop (12 * 2)).take 12).all (xveB xMs xm40) = true := by decide +kernel
set_option maxRecDepth 100000 in
theorem xm40_s3 : ((xm40c.drop (12 * 3)).take 12).all (xveB xMs xm40) = true := by decide +kernel
set_option maxRecDepth 100000 in
theorem xm40_s4 : ((xm40c.drop (12 * 4)).take 12).all (xveB xMs xm40) = true := by decide +kernel
set_option maxRecDepth 100000 in
theorem xm40_s5 : ((xm40c.drop (12 * 5)).take 12).all (xveB xMs xm40) = true := by decide +kernel
set_option maxRecDepth 100000 in
theorem xm40_s6 : ((xm40c.drop (12 * 6)).take 12).all (xveB xMs xm40) = true := by decide +kernel
set_option maxRecDepth 100000 in
theorem xm40_s7 : ((xm40c.drop (12 * 7)).take 12).all (xveB xMs xm40) = true := by decide +kernel
set_option maxRecDepth 100000 in
theorem xm40_s8 : ((xm40c.drop (12 * 8)).take 12).all (xveB xMs xm40) = true := by decide +kernel
set_option maxRecDepth 100000 in
theorem xm40_s9 : ((xm40c.drop (12 * 9)).take 12).all (xveB xMs xm40) = true := by decide +kernel
theorem xm40_a : xm40c.all (xveB xMs xm40) = true := xseg_ok (n := 12) (m := 10) (by decide) (by decide +kernel) (fun k hk => match k, hk with
  | 0, _ => xm40_s0
  | 1, _ => xm40_s1
  | 2, _ => xm40_s2
  | 3, _ => xm40_s3
  | 4, _ => xm40_s4
  | 5, _ => xm40_s5
  | 6, _ => xm40_s6
  | 7, _ => xm40_s7
  | 8, _ => xm40_s8
  | 9, _ => xm40_s9
  | n + 10, h => absurd h (by omega))
set_option maxRecDepth 100000 in
theorem xm41_s0 : ((xm41c.drop (12 * 0)).take 12).all (xveB xMs xm41) = true := by decide +kernel
theorem xm41_a : xm41c.all (xveB xMs xm41) = true := xseg_ok (n := 12) (m := 1) (by decide) (by decide +kernel) (fun k hk => match k, hk with
  | 0, _ => xm41_s0
  | n + 1, h => absurd h (by omega))
set_option maxRecDepth 100000 in
theorem xm42_s0 : ((xm42c.drop (12 * 0)).take 12).all (xveB xMs xm42) = true := by decide +kernel
set_option maxRecDepth 100000 in
theorem xm42_s1 : ((xm42c.drop (12 * 1)).take 12).all (xveB xMs xm42) = true := by decide +kernel
set_option maxRecDepth 100000 in
theorem xm42_s2 : ((xm42c.drop (12 * 2)).take 12).all (xveB xMs xm42) = true := by decide +kernel
set_option maxRecDepth 100000 in
theorem xm42_s3 : ((xm42c.drop (12 * 3)).take 12).all (xveB xMs xm42) = true := by decide +kernel
set_option maxRecDepth 100000 in
theorem xm42_s4 : ((xm42c.drop (12 * 4)).take 12).all (xveB xMs xm42) = true := by decide +kernel
set_option maxRecDepth 100000 in
theorem xm42_s5 : ((xm42c.drop (12 * 5)).take 12).all (xveB xMs xm42) = true := by decide +kernel
set_option maxRecDepth 100000 in
theorem xm42_s6 : ((xm42c.drop (12 * 6)).take 12).all (xveB xMs xm42) = true := by decide +kernel
set_option maxRecDepth 100000 in
theorem xm42_s7 : ((xm42c.drop (12 * 7)).take 12).all (xveB xMs xm42) = true := by decide +kernel
theorem xm42_a : xm42c.all (xveB xMs xm42) = true := xseg_ok (n := 12) (m := 8) (by decide) (by decide +kernel) (fun k hk => match k, hk with
  | 0, _ => xm42_s0
  | 1, _ => xm42_s1
  | 2, _ => xm42_s2
  | 3, _ => xm42_s3
  | 4, _ => xm42_s4
  | 5, _ => xm42_s5
  | 6, _ => xm42_s6
  | 7, _ => xm42_s7
  | n + 8, h => absurd h (by omega))
set_option maxRecDepth 100000 in
theorem xm43_s0 : ((xm43c.drop (12 * 0)).take 12).all (xveB xMs xm43) = true := by decide +kernel
theorem xm43_a : xm43c.all (xveB xMs xm43) = true := xseg_ok (n := 12) (m := 1) (by decide) (by decide +kernel) (fun k hk => match k, hk with
  | 0, _ => xm43_s0
  | n + 1, h => absurd h (by omega))
set_option maxRecDepth 100000 in
theorem xm44_s0 : ((xm44c.drop (12 * 0)).take 12).all (xveB xMs xm44) = true := by decide +kernel
set_option maxRecDepth 100000 in
theorem xm44_s1 : ((xm44c.drop (12 * 1)).take 12).all (xveB xMs xm44) = true := by decide +kernel
theorem xm44_a : xm44c.all (xveB xMs xm44) = true := xseg_ok (n := 12) (m := 2) (by decide) (by decide +kernel) (fun k hk => match k, hk with
  | 0, _ => xm44_s0
  | 1, _ => xm44_s1
  | n + 2, h => absurd h (by omega))
set_option maxRecDepth 100000 in
theorem xm45_s0 : ((xm45c.drop (12 * 0)).take 12).all (xveB xMs xm45) = true := by decide +kernel
theorem xm45_a : xm45c.all (xveB xMs xm45) = true := xseg_ok (n := 12) (m := 1) (by decide) (by decide +kernel) (fun k hk => match k, hk with
  | 0, _ => xm45_s0
  | n + 1, h => absurd h (by omega))
set_option maxRecDepth 100000 in
theorem xm46_s0 : ((xm46c.drop (12 * 0)).take 12).all (xveB xMs xm46) = true := by decide +kernel
theorem xm46_a : xm46c.all (xveB xMs xm46) = true := xseg_ok (n := 12) (m := 1) (by decide) (by decide +kernel) (fun k hk => match k, hk with
  | 0, _ => xm46_s0
  | n + 1, h => absurd h (by omega))
set_option maxRecDepth 100000 in
theorem xm47_s0 : ((xm47c.drop (12 * 0)).take 12).all (xveB xMs xm47) = true := by decide +kernel
theorem xm47_a : xm47c.all (xveB xMs xm47) = true := xseg_ok (n := 12) (m := 1) (by decide) (by decide +kernel) (fun k hk => match k, hk with
  | 0, _ => xm47_s0
  | n + 1, h => absurd h (by omega))
set_option maxRecDepth 100000 in
theorem xm48_s0 : ((xm48c.drop (12 * 0)).take 12).all (xveB xMs xm48) = true := by decide +kernel
theorem xm48_a : xm48c.all (xveB xMs xm48) = true := xseg_ok (n := 12) (m := 1) (by decide) (by decide +kernel) (fun k hk => match k, hk with
  | 0, _ => xm48_s0
  | n + 1, h => absurd h (by omega))
set_option maxRecDepth 100000 in
theorem xm49_s0 : ((xm49c.drop (12 * 0)).take 12).all (xveB xMs xm49) = true := by decide +kernel
theorem xm49_a : xm49c.all (xveB xMs xm49) = true := xseg_ok (n := 12) (m := 1) (by decide) (by decide +kernel) (fun k hk => match k, hk with
  | 0, _ => xm49_s0
  | n + 1, h => absurd h (by omega))
set_option maxRecDepth 100000 in
theorem xm50_s0 : ((xm50c.drop (12 * 0)).take 12).all (xveB xMs xm50) = true := by decide +kernel
theorem xm50_a : xm50c.all (xveB xMs xm50) = true := xseg_ok (n := 12) (m := 1) (by decide) (by decide +kernel) (fun k hk => match k, hk with
  | 0, _ => xm50_s0
  | n + 1, h => absurd h (by omega))
set_option maxRecDepth 100000 in
theorem xm51_s0 : ((xm51c.drop (12 * 0)).take 12).all (xveB xMs xm51) = true := by decide +kernel
theorem xm51_a : xm51c.all (xveB xMs xm51) = true := xseg_ok (n := 12) (m := 1) (by decide) (by decide +kernel) (fun k hk => match k, hk with
  | 0, _ => xm51_s0
  | n + 1, h => absurd h (by omega))
set_option maxRecDepth 100000 in
theorem xm52_s0 : ((xm52c.drop (12 * 0)).take 12).all (xveB xMs xm52) = true := by decide +kernel
theorem xm52_a : xm52c.all (xveB xMs xm52) = true := xseg_ok (n := 12) (m := 1) (by decide) (by decide +kernel) (fun k hk => match k, hk with
  | 0, _ => xm52_s0
  | n + 1, h => absurd h (by omega))
set_option maxRecDepth 100000 in
theorem xm53_s0 : ((xm53c.drop (12 * 0)).take 12).all (xveB xMs xm53) = true := by decide +kernel
set_option maxRecDepth 100000 in
theorem xm53_s1 : ((xm53c.drop (12 * 1)).take 12).all (xveB xMs xm53) = true := by decide +kernel
set_option maxRecDepth 100000 in
theorem xm53_s2 : ((xm53c.drop (12 * 2)).take 12).all (xveB xMs xm53) = true := by decide +kernel
theorem xm53_a : xm53c.all (xveB xMs xm53) = true := xseg_ok (n := 12) (m := 3) (by decide) (by decide +kernel) (fun k hk => match k, hk with
  | 0, _ => xm53_s0
  | 1, _ => xm53_s1
  | 2, _ => xm53_s2
  | n + 3, h => absurd h (by omega))
set_option maxRecDepth 100000 in
theorem xm54_s0 : ((xm54c.drop (12 * 0)).take 12).all (xveB xMs xm54) = true := by decide +kernel
theorem xm54_a : xm54c.all (xveB xMs xm54) = true := xseg_ok (n := 12) (m := 1) (by decide) (by decide +kernel) (fun k hk => match k, hk with
  | 0, _ => xm54_s0
  | n + 1, h => absurd h (by omega))
set_option maxRecDepth 100000 in
theorem xm55_s0 : ((xm55c.drop (12 * 0)).take 12).all (xveB xMs xm55) = true := by decide +kernel
set_option maxRecDepth 100000 in
theorem xm55_s1 : ((xm55c.drop (12 * 1)).take 12).all (xveB xMs xm55) = true := by decide +kernel
set_option maxRecDepth 100000 in
theorem xm55_s2 : ((xm55c.drop (12 * 2)).take 12).all (xveB xMs xm55) = true := by decide +kernel
set_option maxRecDepth 100000 in
theorem xm55_s3 : ((xm55c.drop (12 * 3)).take 12).all (xveB xMs xm55) = true := by decide +kernel
theorem xm55_a : xm55c.all (xveB xMs xm55) = true := xseg_ok (n := 12) (m := 4) (by decide) (by decide +kernel) (fun k hk => match k, hk with
  | 0, _ => xm55_s0
  | 1, _ => xm55_s1
  | 2, _ => xm55_s2
  | 3, _ => xm55_s3
  | n + 4, h => absurd h (by omega))
set_option maxRecDepth 100000 in
theorem xm56_s0 : ((xm56c.drop (12 * 0)).take 12).all (xveB xMs xm56) = true := by decide +kernel
set_option maxRecDepth 100000 in
theorem xm56_s1 : ((xm56c.drop (12 * 1)).take 12).all (xveB xMs xm56) = true := by decide +kernel
theorem xm56_a : xm56c.all (xveB xMs xm56) = true := xseg_ok (n := 12) (m := 2) (by decide) (by decide +kernel) (fun k hk => match k, hk with
  | 0, _ => xm56_s0
  | 1, _ => xm56_s1
  | n + 2, h => absurd h (by omega))
set_option maxRecDepth 100000 in
theorem xm57_s0 : ((xm57c.drop (12 * 0)).take 12).all (xveB xMs xm57) = true := by decide +kernel
set_option maxRecDepth 100000 in
theorem xm57_s1 : ((xm57c.drop (12 * 1)).take 12).all (xveB xMs xm57) = true := by decide +kernel
set_option maxRecDepth 100000 in
theorem xm57_s2 : ((xm57c.drop (12 * 2)).take 12).all (xveB xMs xm57) = true := by decide +kernel
set_option maxRecDepth 100000 in
theorem xm57_s3 : ((xm57c.drop (12 * 3)).take 12).all (xveB xMs xm57) = true := by decide +kernel
set_option maxRecDepth 100000 in
theorem xm57_s4 : ((xm57c.drop (12 * 4)).take 12).all (xveB xMs xm57) = true := by decide +kernel
set_option maxRecDepth 100000 in
theorem xm57_s5 : ((xm57c.drop (12 * 5)).take 12).all (xveB xMs xm57) = true := by decide +kernel
theorem xm57_a : xm57c.all (xveB xMs xm57) = true := xseg_ok (n := 12) (m := 6) (by decide) (by decide +kernel) (fun k hk => match k, hk with
  | 0, _ => xm57_s0
  | 1, _ => xm57_s1
  | 2, _ => xm57_s2
  | 3, _ => xm57_s3
  | 4, _ => xm57_s4
  | 5, _ => xm57_s5
  | n + 6, h => absurd h (by omega))
set_option maxRecDepth 100000 in
theorem xm58_s0 : ((xm58c.drop (12 * 0)).take 12).all (xveB xMs xm58) = true := by decide +kernel
theorem xm58_a : xm58c.all (xveB xMs xm58) = true := xseg_ok (n := 12) (m := 1) (by decide) (by decide +kernel) (fun k hk => match k, hk with
  | 0, _ => xm58_s0
  | n + 1, h => absurd h (by omega))
set_option maxRecDepth 100000 in
theorem xm59_s0 : ((xm59c.drop (12 * 0)).take 12).all (xveB xMs xm59) = true := by decide +kernel
theorem xm59_a : xm59c.all (xveB xMs xm59) = true := xseg_ok (n := 12) (m := 1) (by decide) (by decide +kernel) (fun k hk => match k, hk with
  | 0, _ => xm59_s0
  | n + 1, h => absurd h (by omega))
set_option maxRecDepth 100000 in
theorem xm60_s0 : ((xm60c.drop (12 * 0)).take 12).all (xveB xMs xm60) = true := by decide +kernel
theorem xm60_a : xm60c.all (xveB xMs xm60) = true := xseg_ok (n := 12) (m := 1) (by decide) (by decide +kernel) (fun k hk => match k, hk with
  | 0, _ => xm60_s0
  | n + 1, h => absurd h (by omega))
set_option maxRecDepth 100000 in
theorem xm61_s0 : ((xm61c.drop (12 * 0)).take 12).all (xveB xMs xm61) = true := by decide +kernel
theorem xm61_a : xm61c.all (xveB xMs xm61) = true := xseg_ok (n := 12) (m := 1) (by decide) (by decide +kernel) (fun k hk => match k, hk with
  | 0, _ => xm61_s0
  | n + 1, h => absurd h (by omega))
set_option maxRecDepth 100000 in
theorem xm62_s0 : ((xm62c.drop (12 * 0)).take 12).all (xveB xMs xm62) = true := by decide +kernel
set_option maxRecDepth 100000 in
theorem xm62_s1 : ((xm62c.drop (12 * 1)).take 12).all (xveB xMs xm62) = true := by decide +kernel
theorem xm62_a : xm62c.all (xveB xMs xm62) = true := xseg_ok (n := 12) (m := 2) (by decide) (by decide +kernel) (fun k hk => match k, hk with
  | 0, _ => xm62_s0
  | 1, _ => xm62_s1
  | n + 2, h => absurd h (by omega))
set_option maxRecDepth 100000 in
theorem xm63_s0 : ((xm63c.drop (12 * 0)).take 12).all (xveB xMs xm63) = true := by decide +kernel
theorem xm63_a : xm63c.all (xveB xMs xm63) = true := xseg_ok (n := 12) (m := 1) (by decide) (by decide +kernel) (fun k hk => match k, hk with
  | 0, _ => xm63_s0
  | n + 1, h => absurd h (by omega))
set_option maxRecDepth 100000 in
theorem xm64_s0 : ((xm64c.drop (12 * 0)).take 12).all (xveB xMs xm64) = true := by decide +kernel
set_option maxRecDepth 100000 in
theorem xm64_s1 : ((xm64c.drop (12 * 1)).take 12).all (xveB xMs xm64) = true := by decide +kernel
set_option maxRecDepth 100000 in
theorem xm64_s2 : ((xm64c.drop (12 * 2)).take 12).all (xveB xMs xm64) = true := by decide +kernel
theorem xm64_a : xm64c.all (xveB xMs xm64) = true := xseg_ok (n := 12) (m := 3) (by decide) (by decide +kernel) (fun k hk => match k, hk with
  | 0, _ => xm64_s0
  | 1, _ => xm64_s1
  | 2, _ => xm64_s2
  | n + 3, h => absurd h (by omega))
set_option maxRecDepth 100000 in
theorem xm65_s0 : ((xm65c.drop (12 * 0)).take 12).all (xveB xMs xm65) = true := by decide +kernel
set_option maxRecDepth 100000 in
theorem xm65_s1 : ((xm65c.drop (12 * 1)).take 12).all (xveB xMs xm65) = true := by decide +kernel
theorem xm65_a : xm65c.all (xveB xMs xm65) = true := xseg_ok (n := 12) (m := 2) (by decide) (by decide +kernel) (fun k hk => match k, hk with
  | 0, _ => xm65_s0
  | 1, _ => xm65_s1
  | n + 2, h => absurd h (by omega))
set_option maxRecDepth 100000 in
theorem xm66_s0 : ((xm66c.drop (12 * 0)).take 12).all (xveB xMs xm66) = true := by decide +kernel
set_option maxRecDepth 100000 in
theorem xm66_s1 : ((xm66c.drop (12 * 1)).take 12).all (xveB xMs xm66) = true := by decide +kernel
set_option maxRecDepth 100000 in
theorem xm66_s2 : ((xm66c.drop (12 * 2)).take 12).all (xveB xMs xm66) = true := by decide +kernel
set_option maxRecDepth 100000 in
theorem xm66_s3 : ((xm66c.drop (12 * 3)).take 12).all (xveB xMs xm66) = true := by decide +kernel
theorem xm66_a : xm66c.all (xveB xMs xm66) = true := xseg_ok (n := 12) (m := 4) (by decide) (by decide +kernel) (fun k hk => match k, hk with
  | 0, _ => xm66_s0
  | 1, _ => xm66_s1
  | 2, _ => xm66_s2
  | 3, _ => xm66_s3
  | n + 4, h => absurd h (by omega))
end XU
end
section
section XU
set_option maxRecDepth 100000 in
theorem xm67_s0 : ((xm67c.drop (12 * 0)).take 12).all (xveB xMs xm67) = true := by decide +kernel
set_option maxRecDepth 100000 in
theorem xm67_s1 : ((xm67c.drop (12 * 1)).take 12).all (xveB xMs xm67) = true := by decide +kernel
theorem xm67_a : xm67c.all (xveB xMs xm67) = true := xseg_ok (n := 12) (m := 2) (by decide) (by decide +kernel) (fun k hk => match k, hk with
  | 0, _ => xm67_s0
  | 1, _ => xm67_s1
  | n + 2, h => absurd h (by omega))
set_option maxRecDepth 100000 in
theorem xm68_s0 : ((xm68c.drop (12 * 0)).take 12).all (xveB xMs xm68) = true := by decide +kernel
set_option maxRecDepth 100000 in
theorem xm68_s1 : ((xm68c.drop (12 * 1)).take 12).all (xveB xMs xm68) = true := by decide +kernel
set_option maxRecDepth 100000 in
theorem xm68_s2 : ((xm68c.drop (12 * 2)).take 12).all (xveB xMs xm68) = true := by decide +kernel
theorem xm68_a : xm68c.all (xveB xMs xm68) = true := xseg_ok (n := 12) (m := 3) (by decide) (by decide +kernel) (fun k hk => match k, hk with
  | 0, _ => xm68_s0
  | 1, _ => xm68_s1
  | 2, _ => xm68_s2
  | n + 3, h => absurd h (by omega))
set_option maxRecDepth 100000 in
theorem xm69_s0 : ((xm69c.drop (12 * 0)).take 12).all (xveB xMs xm69) = true := by decide +kernel
set_option maxRecDepth 100000 in
theorem xm69_s1 : ((xm69c.drop (12 * 1)).take 12).all (xveB xMs xm69) = true := by decide +kernel
theorem xm69_a : xm69c.all (xveB xMs xm69) = true := xseg_ok (n := 12) (m := 2) (by decide) (by decide +kernel) (fun k hk => match k, hk with
  | 0, _ => xm69_s0
  | 1, _ => xm69_s1
  | n + 2, h => absurd h (by omega))
set_option maxRecDepth 100000 in
theorem xm70_s0 : ((xm70c.drop (12 * 0)).take 12).all (xveB xMs xm70) = true := by decide +kernel
set_option maxRecDepth 100000 in
theorem xm70_s1 : ((xm70c.drop (12 * 1)).take 12).all (xveB xMs xm70) = true := by decide +kernel
set_option maxRecDepth 100000 in
theorem xm70_s2 : ((xm70c.drop (12 * 2)).take 12).all (xveB xMs xm70) = true := by decide +kernel
set_option maxRecDepth 100000 in
theorem xm70_s3 : ((xm70c.drop (12 * 3)).take 12).all (xveB xMs xm70) = true := by decide +kernel
set_option maxRecDepth 100000 in
theorem xm70_s4 : ((xm70c.drop (12 * 4)).take 12).all (xveB xMs xm70) = true := by decide +kernel
set_option maxRecDepth 100000 in
theorem xm70_s5 : ((xm70c.drop (12 * 5)).take 12).all (xveB xMs xm70) = true := by decide +kernel
theorem xm70_a : xm70c.all (xveB xMs xm70) = true := xseg_ok (n := 12) (m := 6) (by decide) (by decide +kernel) (fun k hk => match k, hk with
  | 0, _ => xm70_s0
  | 1, _ => xm70_s1
  | 2, _ => xm70_s2
  | 3, _ => xm70_s3
  | 4, _ => xm70_s4
  | 5, _ => xm70_s5
  | n + 6, h => absurd h (by omega))
set_option maxRecDepth 100000 in
theorem xm71_s0 : ((xm71c.drop (12 * 0)).take 12).all (xveB xMs xm71) = true := by decide +kernel
set_option maxRecDepth 100000 in
theorem xm71_s1 : ((xm71c.drop (12 * 1)).take 12).all (xveB xMs xm71) = true := by decide +kernel
set_option maxRecDepth 100000 in
theorem xm71_s2 : ((xm71c.drop (12 * 2)).take 12).all (xveB xMs xm71) = true := by decide +kernel
set_option maxRecDepth 100000 in
theorem xm71_s3 : ((xm71c.drop (12 * 3)).take 12).all (xveB xMs xm71) = true := by decide +kernel
theorem xm71_a : xm71c.all (xveB xMs xm71) = true := xseg_ok (n := 12) (m := 4) (by decide) (by decide +kernel) (fun k hk => match k, hk with
  | 0, _ => xm71_s0
  | 1, _ => xm71_s1
  | 2, _ => xm71_s2
  | 3, _ => xm71_s3
  | n + 4, h => absurd h (by omega))
set_option maxRecDepth 100000 in
theorem xm72_s0 : ((xm72c.drop (12 * 0)).take 12).all (xveB xMs xm72) = true := by decide +kernel
set_option maxRecDepth 100000 in
theorem xm72_s1 : ((xm72c.drop (12 * 1)).take 12).all (xveB xMs xm72) = true := by decide +kernel
set_option maxRecDepth 100000 in
theorem xm72_s2 : ((xm72c.drop (12 * 2)).take 12).all (xveB xMs xm72) = true := by decide +kernel
theorem xm72_a : xm72c.all (xveB xMs xm72) = true := xseg_ok (n := 12) (m := 3) (by decide) (by decide +kernel) (fun k hk => match k, hk with
  | 0, _ => xm72_s0
  | 1, _ => xm72_s1
  | 2, _ => xm72_s2
  | n + 3, h => absurd h (by omega))
set_option maxRecDepth 100000 in
theorem xm73_s0 : ((xm73c.drop (12 * 0)).take 12).all (xveB xMs xm73) = true := by decide +kernel
theorem xm73_a : xm73c.all (xveB xMs xm73) = true := xseg_ok (n := 12) (m := 1) (by decide) (by decide +kernel) (fun k hk => match k, hk with
  | 0, _ => xm73_s0
  | n + 1, h => absurd h (by omega))
set_option maxRecDepth 100000 in
theorem xm74_s0 : ((xm74c.drop (12 * 0)).take 12).all (xveB xMs xm74) = true := by decide +kernel
set_option maxRecDepth 100000 in
theorem xm74_s1 : ((xm74c.drop (12 * 1)).take 12).all (xveB xMs xm74) = true := by decide +kernel
theorem xm74_a : xm74c.all (xveB xMs xm74) = true := xseg_ok (n := 12) (m := 2) (by decide) (by decide +kernel) (fun k hk => match k, hk with
  | 0, _ => xm74_s0
  | 1, _ => xm74_s1
  | n + 2, h => absurd h (by omega))
set_option maxRecDepth 100000 in
theorem xm75_s0 : ((xm75c.drop (12 * 0)).take 12).all (xveB xMs xm75) = true := by decide +kernel
set_option maxRecDepth 100000 in
theorem xm75_s1 : ((xm75c.drop (12 * 1)).take 12).all (xveB xMs xm75) = true := by decide +kernel
theorem xm75_a : xm75c.all (xveB xMs xm75) = true := xseg_ok (n := 12) (m := 2) (by decide) (by decide +kernel) (fun k hk => match k, hk with
  | 0, _ => xm75_s0
  | 1, _ => xm75_s1
  | n + 2, h => absurd h (by omega))
set_option maxRecDepth 100000 in
theorem xm76_s0 : ((xm76c.drop (12 * 0)).take 12).all (xveB xMs xm76) = true := by decide +kernel
set_option maxRecDepth 100000 in
theorem xm76_s1 : ((xm76c.drop (12 * 1)).take 12).all (xveB xMs xm76) = true := by decide +kernel
theorem xm76_a : xm76c.all (xveB xMs xm76) = true := xseg_ok (n := 12) (m := 2) (by decide) (by decide +kernel) (fun k hk => match k, hk with
  | 0, _ => xm76_s0
  | 1, _ => xm76_s1
  | n + 2, h => absurd h (by omega))
set_option maxRecDepth 100000 in
theorem xm77_s0 : ((xm77c.drop (12 * 0)).take 12).all (xveB xMs xm77) = true := by decide +kernel
set_option maxRecDepth 100000 in
theorem xm77_s1 : ((xm77c.drop (12 * 1)).take 12).all (xveB xMs xm77) = true := by decide +kernel
theorem xm77_a : xm77c.all (xveB xMs xm77) = true := xseg_ok (n := 12) (m := 2) (by decide) (by decide +kernel) (fun k hk => match k, hk with
  | 0, _ => xm77_s0
  | 1, _ => xm77_s1
  | n + 2, h => absurd h (by omega))
set_option maxRecDepth 100000 in
theorem xm78_s0 : ((xm78c.drop (12 * 0)).take 12).all (xveB xMs xm78) = true := by decide +kernel
set_option maxRecDepth 100000 in
theorem xm78_s1 : ((xm78c.drop (12 * 1)).take 12).all (xveB xMs xm78) = true := by decide +kernel
theorem xm78_a : xm78c.all (xveB xMs xm78) = true := xseg_ok (n := 12) (m := 2) (by decide) (by decide +kernel) (fun k hk => match k, hk with
  | 0, _ => xm78_s0
  | 1, _ => xm78_s1
  | n + 2, h => absurd h (by omega))
set_option maxRecDepth 100000 in
theorem xm79_s0 : ((xm79c.drop (12 * 0)).take 12).all (xveB xMs xm79) = true := by decide +kernel
set_option maxRecDepth 100000 in
theorem xm79_s1 : ((xm79c.drop (12 * 1)).take 12).all (xveB xMs xm79) = true := by decide +kernel
set_option maxRecDepth 100000 in
theorem xm79_s2 : ((xm79c.drop (12 * 2)).take 12).all (xveB xMs xm79) = true := by decide +kernel
set_option maxRecDepth 100000 in
theorem xm79_s3 : ((xm79c.drop (12 * 3)).take 12).all (xveB xMs xm79) = true := by decide +kernel
theorem xm79_a : xm79c.all (xveB xMs xm79) = true := xseg_ok (n := 12) (m := 4) (by decide) (by decide +kernel) (fun k hk => match k, hk with
  | 0, _ => xm79_s0
  | 1, _ => xm79_s1
  | 2, _ => xm79_s2
  | 3, _ => xm79_s3
  | n + 4, h => absurd h (by omega))
set_option maxRecDepth 100000 in
theorem xm80_s0 : ((xm80c.drop (12 * 0)).take 12).all (xveB xMs xm80) = true := by decide +kernel
set_option maxRecDepth 100000 in
theorem xm80_s1 : ((xm80c.drop (12 * 1)).take 12).all (xveB xMs xm80) = true := by decide +kernel
set_option maxRecDepth 100000 in
theorem xm80_s2 : ((xm80c.drop (12 * 2)).take 12).all (xveB xMs xm80) = true := by decide +kernel
set_option maxRecDepth 100000 in
theorem xm80_s3 : ((xm80c.drop (12 * 3)).take 12).all (xveB xMs xm80) = true := by decide +kernel
theorem xm80_a : xm80c.all (xveB xMs xm80) = true := xseg_ok (n := 12) (m := 4) (by decide) (by decide +kernel) (fun k hk => match k, hk with
  | 0, _ => xm80_s0
  | 1, _ => xm80_s1
  | 2, _ => xm80_s2
  | 3, _ => xm80_s3
  | n + 4, h => absurd h (by omega))
set_option maxRecDepth 100000 in
theorem xm81_s0 : ((xm81c.drop (12 * 0)).take 12).all (xveB xMs xm81) = true := by decide +kernel
set_option maxRecDepth 100000 in
theorem xm81_s1 : ((xm81c.drop (12 * 1)).take 12).all (xveB xMs xm81) = true := by decide +kernel
set_option maxRecDepth 100000 in
theorem xm81_s2 : ((xm81c.drop (12 * 2)).take 12).all (xveB xMs xm81) = true := by decide +kernel
theorem xm81_a : xm81c.all (xveB xMs xm81) = true := xseg_ok (n := 12) (m := 3) (by decide) (by decide +kernel) (fun k hk => match k, hk with
  | 0, _ => xm81_s0
  | 1, _ => xm81_s1
  | 2, _ => xm81_s2
  | n + 3, h => absurd h (by omega))
set_option maxRecDepth 100000 in
theorem xm82_s0 : ((xm82c.drop (12 * 0)).take 12).all (xveB xMs xm82) = true := by decide +kernel
set_option maxRecDepth 100000 in
theorem xm82_s1 : ((xm82c.drop (12 * 1)).take 12).all (xveB xMs xm82) = true := by decide +kernel
set_option maxRecDepth 100000 in
theorem xm82_s2 : ((xm82c.drop (12 * 2)).take 12).all (xveB xMs xm82) = true := by decide +kernel
set_option maxRecDepth 100000 in
theorem xm82_s3 : ((xm82c.drop (12 * 3)).take 12).all (xveB xMs xm82) = true := by decide +kernel
set_option maxRecDepth 100000 in
theorem xm82_s4 : ((xm82c.drop (12 * 4)).take 12).all (xveB xMs xm82) = true := by decide +kernel
theorem xm82_a : xm82c.all (xveB xMs xm82) = true := xseg_ok (n := 12) (m := 5) (by decide) (by decide +kernel) (fun k hk => match k, hk with
  | 0, _ => xm82_s0
  | 1, _ => xm82_s1
  | 2, _ => xm82_s2
  | 3, _ => xm82_s3
  | 4, _ => xm82_s4
  | n + 5, h => absurd h (by omega))
set_option maxRecDepth 100000 in
theorem xm83_s0 : ((xm83c.drop (12 * 0)).take 12).all (xveB xMs xm83) = true := by decide +kernel
set_option maxRecDepth 100000 in
theorem xm83_s1 : ((xm83c.drop (12 * 1)).take 12).all (xveB xMs xm83) = true := by decide +kernel
theorem xm83_a : xm83c.all (xveB xMs xm83) = true := xseg_ok (n := 12) (m := 2) (by decide) (by decide +kernel) (fun k hk => match k, hk with
  | 0, _ => xm83_s0
  | 1, _ => xm83_s1
  | n + 2, h => absurd h (by omega))
set_option maxRecDepth 100000 in
theorem xm84_s0 : ((xm84c.drop (12 * 0)).take 12).all (xveB xMs xm84) = true := by decide +kernel
set_option maxRecDepth 100000 in
theorem xm84_s1 : ((xm84c.drop (12 * 1)).take 12).all (xveB xMs xm84) = true := by decide +kernel
theorem xm84_a : xm84c.all (xveB xMs xm84) = true := xseg_ok (n := 12) (m := 2) (by decide) (by decide +kernel) (fun k hk => match k, hk with
  | 0, _ => xm84_s0
  | 1, _ => xm84_s1
  | n + 2, h => absurd h (by omega))
set_option maxRecDepth 100000 in
theorem xm85_s0 : ((xm85c.drop (12 * 0)).take 12).all (xveB xMs xm85) = true := by decide +kernel
set_option maxRecDepth 100000 in
theorem xm85_s1 : ((xm85c.drop (12 * 1)).take 12).all (xveB xMs xm85) = true := by decide +kernel
set_option maxRecDepth 100000 in
theorem xm85_s2 : ((xm85c.drop (12 * 2)).take 12).all (xveB xMs xm85) = true := by decide +kernel
theorem xm85_a : xm85c.all (xveB xMs xm85) = true := xseg_ok (n := 12) (m := 3) (by decide) (by decide +kernel) (fun k hk => match k, hk with
  | 0, _ => xm85_s0
  | 1, _ => xm85_s1
  | 2, _ => xm85_s2
  | n + 3, h => absurd h (by omega))
set_option maxRecDepth 100000 in
theorem xm86_s0 : ((xm86c.drop (12 * 0)).take 12).all (xveB xMs xm86) = true := by decide +kernel
set_option maxRecDepth 100000 in
theorem xm86_s1 : ((xm86c.drop (12 * 1)).take 12).all (xveB xMs xm86) = true := by decide +kernel
set_option maxRecDepth 100000 in
theorem xm86_s2 : ((xm86c.drop (12 * 2)).take 12).all (xveB xMs xm86) = true := by decide +kernel
set_option maxRecDepth 100000 in
theorem xm86_s3 : ((xm86c.drop (12 * 3)).take 12).all (xveB xMs xm86) = true := by decide +kernel
theorem xm86_a : xm86c.all (xveB xMs xm86) = true := xseg_ok (n := 12) (m := 4) (by decide) (by decide +kernel) (fun k hk => match k, hk with
  | 0, _ => xm86_s0
  | 1, _ => xm86_s1
  | 2, _ => xm86_s2
  | 3, _ => xm86_s3
  | n + 4, h => absurd h (by omega))
set_option maxRecDepth 100000 in
theorem xm87_s0 : ((xm87c.drop (12 * 0)).take 12).all (xveB xMs xm87) = true := by decide +kernel
set_option maxRecDepth 100000 in
theorem xm87_s1 : ((xm87c.drop (12 * 1)).take 12).all (xveB xMs xm87) = true := by decide +kernel
theorem xm87_a : xm87c.all (xveB xMs xm87) = true := xseg_ok (n := 12) (m := 2) (by decide) (by decide +kernel) (fun k hk => match k, hk with
  | 0, _ => xm87_s0
  | 1, _ => xm87_s1
  | n + 2, h => absurd h (by omega))
set_option maxRecDepth 100000 in
theorem xm88_s0 : ((xm88c.drop (12 * 0)).take 12).all (xveB xMs xm88) = true := by decide +kernel
set_option maxRecDepth 100000 in
theorem xm88_s1 : ((xm88c.drop (12 * 1)).take 12).all (xveB xMs xm88) = true := by decide +kernel
theorem xm88_a : xm88c.all (xveB xMs xm88) = true := xseg_ok (n := 12) (m := 2) (by decide) (by decide +kernel) (fun k hk => match k, hk with
  | 0, _ => xm88_s0
  | 1, _ => xm88_s1
  | n + 2, h => absurd h (by omega))
set_option maxRecDepth 100000 in
theorem xm89_s0 : ((xm89c.drop (12 * 0)).take 12).all (xveB xMs xm89) = true := by decide +kernel
set_option maxRecDepth 100000 in
theorem xm89_s1 : ((xm89c.drop (12 * 1)).take 12).all (xveB xMs xm89) = true := by decide +kernel
theorem xm89_a : xm89c.all (xveB xMs xm89) = true := xseg_ok (n := 12) (m := 2) (by decide) (by decide +kernel) (fun k hk => match k, hk with
  | 0, _ => xm89_s0
  | 1, _ => xm89_s1
  | n + 2, h => absurd h (by omega))
set_option maxRecDepth 100000 in
theorem xm90_s0 : ((xm90c.drop (12 * 0)).take 12).all (xveB xMs xm90) = true := by decide +kernel
set_option maxRecDepth 100000 in
theorem xm90_s1 : ((xm90c.drop (12 * 1)).take 12).all (xveB xMs xm90) = true := by decide +kernel
theorem xm90_a : xm90c.all (xveB xMs xm90) = true := xseg_ok (n := 12) (m := 2) (by decide) (by decide +kernel) (fun k hk => match k, hk with
  | 0, _ => xm90_s0
  | 1, _ => xm90_s1
  | n + 2, h => absurd h (by omega))
set_option maxRecDepth 100000 in
theorem xm91_s0 : ((xm91c.drop (12 * 0)).take 12).all (xveB xMs xm91) = true := by decide +kernel
theorem xm91_a : xm91c.all (xveB xMs xm91) = true := xseg_ok (n := 12) (m := 1) (by decide) (by decide +kernel) (fun k hk => match k, hk with
  | 0, _ => xm91_s0
  | n + 1, h => absurd h (by omega))
set_option maxRecDepth 100000 in
theorem xm92_s0 : ((xm92c.drop (12 * 0)).take 12).all (xveB xMs xm92) = true := by decide +kernel
set_option maxRecDepth 100000 in
theorem xm92_s1 : ((xm92c.drop (12 * 1)).take 12).all (xveB xMs xm92) = true := by decide +kernel
theorem xm92_a : xm92c.all (xveB xMs xm92) = true := xseg_ok (n := 12) (m := 2) (by decide) (by decide +kernel) (fun k hk => match k, hk with
  | 0, _ => xm92_s0
  | 1, _ => xm92_s1
  | n + 2, h => absurd h (by omega))
set_option maxRecDepth 100000 in
theorem xm93_s0 : ((xm93c.drop (12 * 0)).take 12).all (xveB xMs xm93) = true := by decide +kernel
set_option maxRecDepth 100000 in
theorem xm93_s1 : ((xm93c.drop (12 * 1)).take 12).all (xveB xMs xm93) = true := by decide +kernel
set_option maxRecDepth 100000 in
theorem xm93_s2 : ((xm93c.drop (12 * 2)).take 12).all (xveB xMs xm93) = true := by decide +kernel
set_option maxRecDepth 100000 in
theorem xm93_s3 : ((xm93c.drop (12 * 3)).take 12).all (xveB xMs xm93) = true := by decide +kernel
set_option maxRecDepth 100000 in
theorem xm93_s4 : ((xm93c.drop (12 * 4)).take 12).all (xveB xMs xm93) = true := by decide +kernel
theorem xm93_a : xm93c.all (xveB xMs xm93) = true := xseg_ok (n := 12) (m := 5) (by decide) (by decide +kernel) (fun k hk => match k, hk with
  | 0, _ => xm93_s0
  | 1, _ => xm93_s1
  | 2, _ => xm93_s2
  | 3, _ => xm93_s3
  | 4, _ => xm93_s4
  | n + 5, h => absurd h (by omega))
set_option maxRecDepth 100000 in
theorem xm94_s0 : ((xm94c.drop (12 * 0)).take 12).all (xveB xMs xm94) = true := by decide +kernel
set_option maxRecDepth 100000 in
theorem xm94_s1 : ((xm94c.drop (12 * 1)).take 12).all (xveB xMs xm94) = true := by decide +kernel
theorem xm94_a : xm94c.all (xveB xMs xm94) = true := xseg_ok (n := 12) (m := 2) (by decide) (by decide +kernel) (fun k hk => match k, hk with
  | 0, _ => xm94_s0
  | 1, _ => xm94_s1
  | n + 2, h => absurd h (by omega))
end XU
end
section
section XU
set_option maxRecDepth 100000 in
theorem xm95_s0 : ((xm95c.drop (12 * 0)).take 12).all (xveB xMs xm95) = true := by decide +kernel
set_option maxRecDepth 100000 in
theorem xm95_s1 : ((xm95c.drop (12 * 1)).take 12).all (xveB xMs xm95) = true := by decide +kernel
theorem xm95_a : xm95c.all (xveB xMs xm95) = true := xseg_ok (n := 12) (m := 2) (by decide) (by decide +kernel) (fun k hk => match k, hk with
  | 0, _ => xm95_s0
  | 1, _ => xm95_s1
  | n + 2, h => absurd h (by omega))
set_option maxRecDepth 100000 in
theorem xm96_s0 : ((xm96c.drop (12 * 0)).take 12).all (xveB xMs xm96) = true := by decide +kernel
set_option maxRecDepth 100000 in
theorem xm96_s1 : ((xm96c.drop (12 * 1)).take 12).all (xveB xMs xm96) = true := by decide +kernel
theorem xm96_a : xm96c.all (xveB xMs xm96) = true := xseg_ok (n := 12) (m := 2) (by decide) (by decide +kernel) (fun k hk => match k, hk with
  | 0, _ => xm96_s0
  | 1, _ => xm96_s1
  | n + 2, h => absurd h (by omega))
set_option maxRecDepth 100000 in
theorem xm97_s0 : ((xm97c.drop (12 * 0)).take 12).all (xveB xMs xm97) = true := by decide +kernel
set_option maxRecDepth 100000 in
theorem xm97_s1 : ((xm97c.drop (12 * 1)).take 12).all (xveB xMs xm97) = true := by decide +kernel
theorem xm97_a : xm97c.all (xveB xMs xm97) = true := xseg_ok (n := 12) (m := 2) (by decide) (by decide +kernel) (fun k hk => match k, hk with
  | 0, _ => xm97_s0
  | 1, _ => xm97_s1
  | n + 2, h => absurd h (by omega))
set_option maxRecDepth 100000 in
theorem xm98_s0 : ((xm98c.drop (12 * 0)).take 12).all (xveB xMs xm98) = true := by decide +kernel
theorem xm98_a : xm98c.all (xveB xMs xm98) = true := xseg_ok (n := 12) (m := 1) (by decide) (by decide +kernel) (fun k hk => match k, hk with
  | 0, _ => xm98_s0
  | n + 1, h => absurd h (by omega))
set_option maxRecDepth 100000 in
theorem xm99_s0 : ((xm99c.drop (12 * 0)).take 12).all (xveB xMs xm99) = true := by decide +kernel
set_option maxRecDepth 100000 in
theorem xm99_s1 : ((xm99c.drop (12 * 1)).take 12).all (xveB xMs xm99) = true := by decide +kernel
set_option maxRecDepth 100000 in
theorem xm99_s2 : ((xm99c.drop (12 * 2)).take 12).all (xveB xMs xm99) = true := by decide +kernel
set_option maxRecDepth 100000 in
theorem xm99_s3 : ((xm99c.drop (12 * 3)).take 12).all (xveB xMs xm99) = true := by decide +kernel
set_option maxRecDepth 100000 in
theorem xm99_s4 : ((xm99c.drop (12 * 4)).take 12).all (xveB xMs xm99) = true := by decide +kernel
set_option maxRecDepth 100000 in
theorem xm99_s5 : ((xm99c.drop (12 * 5)).take 12).all (xveB xMs xm99) = true := by decide +kernel
theorem xm99_a : xm99c.all (xveB xMs xm99) = true := xseg_ok (n := 12) (m := 6) (by decide) (by decide +kernel) (fun k hk => match k, hk with
  | 0, _ => xm99_s0
  | 1, _ => xm99_s1
  | 2, _ => xm99_s2
  | 3, _ => xm99_s3
  | 4, _ => xm99_s4
  | 5, _ => xm99_s5
  | n + 6, h => absurd h (by omega))
set_option maxRecDepth 100000 in
theorem xm100_s0 : ((xm100c.drop (12 * 0)).take 12).all (xveB xMs xm100) = true := by decide +kernel
set_option maxRecDepth 100000 in
theorem xm100_s1 : ((xm100c.drop (12 * 1)).take 12).all (xveB xMs xm100) = true := by decide +kernel
set_option maxRecDepth 100000 in
theorem xm100_s2 : ((xm100c.drop (12 * 2)).take 12).all (xveB xMs xm100) = true := by decide +kernel
set_option maxRecDepth 100000 in
theorem xm100_s3 : ((xm100c.drop (12 * 3)).take 12).all (xveB xMs xm100) = true := by decide +kernel
theorem xm100_a : xm100c.all (xveB xMs xm100) = true := xseg_ok (n := 12) (m := 4) (by decide) (by decide +kernel) (fun k hk => match k, hk with
  | 0, _ => xm100_s0
  | 1, _ => xm100_s1
  | 2, _ => xm100_s2
  | 3, _ => xm100_s3
  | n + 4, h => absurd h (by omega))
set_option maxRecDepth 100000 in
theorem xm101_s0 : ((xm101c.drop (12 * 0)).take 12).all (xveB xMs xm101) = true := by decide +kernel
set_option maxRecDepth 100000 in
theorem xm101_s1 : ((xm101c.drop (12 * 1)).take 12).all (xveB xMs xm101) = true := by decide +kernel
set_option maxRecDepth 100000 in
theorem xm101_s2 : ((xm101c.drop (12 * 2)).take 12).all (xveB xMs xm101) = true := by decide +kernel
set_option maxRecDepth 100000 in
theorem xm101_s3 : ((xm101c.drop (12 * 3)).take 12).all (xveB xMs xm101) = true := by decide +kernel
theorem xm101_a : xm101c.all (xveB xMs xm101) = true := xseg_ok (n := 12) (m := 4) (by decide) (by decide +kernel) (fun k hk => match k, hk with
  | 0, _ => xm101_s0
  | 1, _ => xm101_s1
  | 2, _ => xm101_s2
  | 3, _ => xm101_s3
  | n + 4, h => absurd h (by omega))
set_option maxRecDepth 100000 in
theorem xm102_s0 : ((xm102c.drop (12 * 0)).take 12).all (xveB xMs xm102) = true := by decide +kernel
set_option maxRecDepth 100000 in
theorem xm102_s1 : ((xm102c.drop (12 * 1)).take 12).all (xveB xMs xm102) = true := by decide +kernel
set_option maxRecDepth 100000 in
theorem xm102_s2 : ((xm102c.drop (12 * 2)).take 12).all (xveB xMs xm102) = true := by decide +kernel
theorem xm102_a : xm102c.all (xveB xMs xm102) = true := xseg_ok (n := 12) (m := 3) (by decide) (by decide +kernel) (fun k hk => match k, hk with
  | 0, _ => xm102_s0
  | 1, _ => xm102_s1
  | 2, _ => xm102_s2
  | n + 3, h => absurd h (by omega))
set_option maxRecDepth 100000 in
theorem xm103_s0 : ((xm103c.drop (12 * 0)).take 12).all (xveB xMs xm103) = true := by decide +kernel
set_option maxRecDepth 100000 in
theorem xm103_s1 : ((xm103c.drop (12 * 1)).take 12).all (xveB xMs xm103) = true := by decide +kernel
set_option maxRecDepth 100000 in
theorem xm103_s2 : ((xm103c.drop (12 * 2)).take 12).all (xveB xMs xm103) = true := by decide +kernel
theorem xm103_a : xm103c.all (xveB xMs xm103) = true := xseg_ok (n := 12) (m := 3) (by decide) (by decide +kernel) (fun k hk => match k, hk with
  | 0, _ => xm103_s0
  | 1, _ => xm103_s1
  | 2, _ => xm103_s2
  | n + 3, h => absurd h (by omega))
set_option maxRecDepth 100000 in
theorem xm104_s0 : ((xm104c.drop (12 * 0)).take 12).all (xveB xMs xm104) = true := by decide +kernel
set_option maxRecDepth 100000 in
theorem xm104_s1 : ((xm104c.drop (12 * 1)).take 12).all (xveB xMs xm104) = true := by decide +kernel
theorem xm104_a : xm104c.all (xveB xMs xm104) = true := xseg_ok (n := 12) (m := 2) (by decide) (by decide +kernel) (fun k hk => match k, hk with
  | 0, _ => xm104_s0
  | 1, _ => xm104_s1
  | n + 2, h => absurd h (by omega))
set_option maxRecDepth 100000 in
theorem xm105_s0 : ((xm105c.drop (12 * 0)).take 12).all (xveB xMs xm105) = true := by decide +kernel
set_option maxRecDepth 100000 in
theorem xm105_s1 : ((xm105c.drop (12 * 1)).take 12).all (xveB xMs xm105) = true := by decide +kernel
theorem xm105_a : xm105c.all (xveB xMs xm105) = true := xseg_ok (n := 12) (m := 2) (by decide) (by decide +kernel) (fun k hk => match k, hk with
  | 0, _ => xm105_s0
  | 1, _ => xm105_s1
  | n + 2, h => absurd h (by omega))
set_option maxRecDepth 100000 in
theorem xm106_s0 : ((xm106c.drop (12 * 0)).take 12).all (xveB xMs xm106) = true := by decide +kernel
set_option maxRecDepth 100000 in
theorem xm106_s1 : ((xm106c.drop (12 * 1)).take 12).all (xveB xMs xm106) = true := by decide +kernel
set_option maxRecDepth 100000 in
theorem xm106_s2 : ((xm106c.drop (12 * 2)).take 12).all (xveB xMs xm106) = true := by decide +kernel
theorem xm106_a : xm106c.all (xveB xMs xm106) = true := xseg_ok (n := 12) (m := 3) (by decide) (by decide +kernel) (fun k hk => match k, hk with
  | 0, _ => xm106_s0
  | 1, _ => xm106_s1
  | 2, _ => xm106_s2
  | n + 3, h => absurd h (by omega))
set_option maxRecDepth 100000 in
theorem xm107_s0 : ((xm107c.drop (12 * 0)).take 12).all (xveB xMs xm107) = true := by decide +kernel
set_option maxRecDepth 100000 in
theorem xm107_s1 : ((xm107c.drop (12 * 1)).take 12).all (xveB xMs xm107) = true := by decide +kernel
theorem xm107_a : xm107c.all (xveB xMs xm107) = true := xseg_ok (n := 12) (m := 2) (by decide) (by decide +kernel) (fun k hk => match k, hk with
  | 0, _ => xm107_s0
  | 1, _ => xm107_s1
  | n + 2, h => absurd h (by omega))
set_option maxRecDepth 100000 in
theorem xm108_s0 : ((xm108c.drop (12 * 0)).take 12).all (xveB xMs xm108) = true := by decide +kernel
set_option maxRecDepth 100000 in
theorem xm108_s1 : ((xm108c.drop (12 * 1)).take 12).all (xveB xMs xm108) = true := by decide +kernel
set_option maxRecDepth 100000 in
theorem xm108_s2 : ((xm108c.drop (12 * 2)).take 12).all (xveB xMs xm108) = true := by decide +kernel
theorem xm108_a : xm108c.all (xveB xMs xm108) = true := xseg_ok (n := 12) (m := 3) (by decide) (by decide +kernel) (fun k hk => match k, hk with
  | 0, _ => xm108_s0
  | 1, _ => xm108_s1
  | 2, _ => xm108_s2
  | n + 3, h => absurd h (by omega))
set_option maxRecDepth 100000 in
theorem xm109_s0 : ((xm109c.drop (12 * 0)).take 12).all (xveB xMs xm109) = true := by decide +kernel
set_option maxRecDepth 100000 in
theorem xm109_s1 : ((xm109c.drop (12 * 1)).take 12).all (xveB xMs xm109) = true := by decide +kernel
theorem xm109_a : xm109c.all (xveB xMs xm109) = true := xseg_ok (n := 12) (m := 2) (by decide) (by decide +kernel) (fun k hk => match k, hk with
  | 0, _ => xm109_s0
  | 1, _ => xm109_s1
  | n + 2, h => absurd h (by omega))
set_option maxRecDepth 100000 in
theorem xm110_s0 : ((xm110c.drop (12 * 0)).take 12).all (xveB xMs xm110) = true := by decide +kernel
set_option maxRecDepth 100000 in
theorem xm110_s1 : ((xm110c.drop (12 * 1)).take 12).all (xveB xMs xm110) = true := by decide +kernel
set_option maxRecDepth 100000 in
theorem xm110_s2 : ((xm110c.drop (12 * 2)).take 12).all (xveB xMs xm110) = true := by decide +kernel
theorem xm110_a : xm110c.all (xveB xMs xm110) = true := xseg_ok (n := 12) (m := 3) (by decide) (by decide +kernel) (fun k hk => match k, hk with
  | 0, _ => xm110_s0
  | 1, _ => xm110_s1
  | 2, _ => xm110_s2
  | n + 3, h => absurd h (by omega))
set_option maxRecDepth 100000 in
theorem xm111_s0 : ((xm111c.drop (12 * 0)).take 12).all (xveB xMs xm111) = true := by decide +kernel
set_option maxRecDepth 100000 in
theorem xm111_s1 : ((xm111c.drop (12 * 1)).take 12).all (xveB xMs xm111) = true := by decide +kernel
set_option maxRecDepth 100000 in
theorem xm111_s2 : ((xm111c.drop (12 * 2)).take 12).all (xveB xMs xm111) = true := by decide +kernel
set_option maxRecDepth 100000 in
theorem xm111_s3 : ((xm111c.drop (12 * 3)).take 12).all (xveB xMs xm111) = true := by decide +kernel
set_option maxRecDepth 100000 in
theorem xm111_s4 : ((xm111c.drop (12 * 4)).take 12).all (xveB xMs xm111) = true := by decide +kernel
set_option maxRecDepth 100000 in
theorem xm111_s5 : ((xm111c.drop (12 * 5)).take 12).all (xveB xMs xm111) = true := by decide +kernel
set_option maxRecDepth 100000 in
theorem xm111_s6 : ((xm111c.drop (12 * 6)).take 12).all (xveB xMs xm111) = true := by decide +kernel
theorem xm111_a : xm111c.all (xveB xMs xm111) = true := xseg_ok (n := 12) (m := 7) (by decide) (by decide +kernel) (fun k hk => match k, hk with
  | 0, _ => xm111_s0
  | 1, _ => xm111_s1
  | 2, _ => xm111_s2
  | 3, _ => xm111_s3
  | 4, _ => xm111_s4
  | 5, _ => xm111_s5
  | 6, _ => xm111_s6
  | n + 7, h => absurd h (by omega))
set_option maxRecDepth 100000 in
theorem xm112_s0 : ((xm112c.drop (12 * 0)).take 12).all (xveB xMs xm112) = true := by decide +kernel
set_option maxRecDepth 100000 in
theorem xm112_s1 : ((xm112c.drop (12 * 1)).take 12).all (xveB xMs xm112) = true := by decide +kernel
set_option maxRecDepth 100000 in
theorem xm112_s2 : ((xm112c.drop (12 * 2)).take 12).all (xveB xMs xm112) = true := by decide +kernel
theorem xm112_a : xm112c.all (xveB xMs xm112) = true := xseg_ok (n := 12) (m := 3) (by decide) (by decide +kernel) (fun k hk => match k, hk with
  | 0, _ => xm112_s0
  | 1, _ => xm112_s1
  | 2, _ => xm112_s2
  | n + 3, h => absurd h (by omega))
set_option maxRecDepth 100000 in
theorem xm113_s0 : ((xm113c.drop (12 * 0)).take 12).all (xveB xMs xm113) = true := by decide +kernel
set_option maxRecDepth 100000 in
theorem xm113_s1 : ((xm113c.drop (12 * 1)).take 12).all (xveB xMs xm113) = true := by decide +kernel
set_option maxRecDepth 100000 in
theorem xm113_s2 : ((xm113c.drop (12 * 2)).take 12).all (xveB xMs xm113) = true := by decide +kernel
theorem xm113_a : xm113c.all (xveB xMs xm113) = true := xseg_ok (n := 12) (m := 3) (by decide) (by decide +kernel) (fun k hk => match k, hk with
  | 0, _ => xm113_s0
  | 1, _ => xm113_s1
  | 2, _ => xm113_s2
  | n + 3, h => absurd h (by omega))
set_option maxRecDepth 100000 in
theorem xm114_s0 : ((xm114c.drop (12 * 0)).take 12).all (xveB xMs xm114) = true := by decide +kernel
set_option maxRecDepth 100000 in
theorem xm114_s1 : ((xm114c.drop (12 * 1)).take 12).all (xveB xMs xm114) = true := by decide +kernel
set_option maxRecDepth 100000 in
theorem xm114_s2 : ((xm114c.drop (12 * 2)).take 12).all (xveB xMs xm114) = true := by decide +kernel
theorem xm114_a : xm114c.all (xveB xMs xm114) = true := xseg_ok (n := 12) (m := 3) (by decide) (by decide +kernel) (fun k hk => match k, hk with
  | 0, _ => xm114_s0
  | 1, _ => xm114_s1
  | 2, _ => xm114_s2
  | n + 3, h => absurd h (by omega))
set_option maxRecDepth 100000 in
theorem xm115_s0 : ((xm115c.drop (12 * 0)).take 12).all (xveB xMs xm115) = true := by decide +kernel
set_option maxRecDepth 100000 in
theorem xm115_s1 : ((xm115c.drop (12 * 1)).take 12).all (xveB xMs xm115) = true := by decide +kernel
set_option maxRecDepth 100000 in
theorem xm115_s2 : ((xm115c.drop (12 * 2)).take 12).all (xveB xMs xm115) = true := by decide +kernel
set_option maxRecDepth 100000 in
theorem xm115_s3 : ((xm115c.drop (12 * 3)).take 12).all (xveB xMs xm115) = true := by decide +kernel
set_option maxRecDepth 100000 in
theorem xm115_s4 : ((xm115c.drop (12 * 4)).take 12).all (xveB xMs xm115) = true := by decide +kernel
set_option maxRecDepth 100000 in
theorem xm115_s5 : ((xm115c.drop (12 * 5)).take 12).all (xveB xMs xm115) = true := by decide +kernel
theorem xm115_a : xm115c.all (xveB xMs xm115) = true := xseg_ok (n := 12) (m := 6) (by decide) (by decide +kernel) (fun k hk => match k, hk with
  | 0, _ => xm115_s0
  | 1, _ => xm115_s1
  | 2, _ => xm115_s2
  | 3, _ => xm115_s3
  | 4, _ => xm115_s4
  | 5, _ => xm115_s5
  | n + 6, h => absurd h (by omega))
set_option maxRecDepth 100000 in
theorem xm116_s0 : ((xm116c.drop (12 * 0)).take 12).all (xveB xMs xm116) = true := by decide +kernel
set_option maxRecDepth 100000 in
theorem xm116_s1 : ((xm116c.drop (12 * 1)).take 12).all (xveB xMs xm116) = true := by decide +kernel
set_option maxRecDepth 100000 in
theorem xm116_s2 : ((xm116c.drop (12 * 2)).take 12).all (xveB xMs xm116) = true := by decide +kernel
theorem xm116_a : xm116c.all (xveB xMs xm116) = true := xseg_ok (n := 12) (m := 3) (by decide) (by decide +kernel) (fun k hk => match k, hk with
  | 0, _ => xm116_s0
  | 1, _ => xm116_s1
  | 2, _ => xm116_s2
  | n + 3, h => absurd h (by omega))
set_option maxRecDepth 100000 in
theorem xm117_s0 : ((xm117c.drop (12 * 0)).take 12).all (xveB xMs xm117) = true := by decide +kernel
theorem xm117_a : xm117c.all (xveB xMs xm117) = true := xseg_ok (n := 12) (m := 1) (by decide) (by decide +kernel) (fun k hk => match k, hk with
  | 0, _ => xm117_s0
  | n + 1, h => absurd h (by omega))
end XU
end
section
section XU
set_option maxRecDepth 100000 in
theorem xm118_s0 : ((xm118c.drop (12 * 0)).take 12).all (xveB xMs xm118) = true := by decide +kernel
set_option maxRecDepth 100000 in
theorem xm118_s1 : ((xm118c.drop (12 * 1)).take 12).all (xveB xMs xm118) = true := by decide +kernel
theorem xm118_a : xm118c.all (xveB xMs xm118) = true := xseg_ok (n := 12) (m := 2) (by decide) (by decide +kernel) (fun k hk => match k, hk with
  | 0, _ => xm118_s0
  | 1, _ => xm118_s1
  | n + 2, h => absurd h (by omega))
set_option maxRecDepth 100000 in
theorem xm119_s0 : ((xm119c.drop (12 * 0)).take 12).all (xveB xMs xm119) = true := by decide +kernel
set_option maxRecDepth 100000 in
theorem xm119_s1 : ((xm119c.drop (12 * 1)).take 12).all (xveB xMs xm119) = true := by decide +kernel
theorem xm119_a : xm119c.all (xveB xMs xm119) = true := xseg_ok (n := 12) (m := 2) (by decide) (by decide +kernel) (fun k hk => match k, hk with
  | 0, _ => xm119_s0
  | 1, _ => xm119_s1
  | n + 2, h => absurd h (by omega))
set_option maxRecDepth 100000 in
theorem xm120_s0 : ((xm120c.drop (12 * 0)).take 12).all (xveB xMs xm120) = true := by decide +kernel
set_option maxRecDepth 100000 in
theorem xm120_s1 : ((xm120c.drop (12 * 1)).take 12).all (xveB xMs xm120) = true := by decide +kernel
theorem xm120_a : xm120c.all (xveB xMs xm120) = true := xseg_ok (n := 12) (m := 2) (by decide) (by decide +kernel) (fun k hk => match k, hk with
  | 0, _ => xm120_s0
  | 1, _ => xm120_s1
  | n + 2, h => absurd h (by omega))
set_option maxRecDepth 100000 in
theorem xm121_s0 : ((xm121c.drop (12 * 0)).take 12).all (xveB xMs xm121) = true := by decide +kernel
theorem xm121_a : xm121c.all (xveB xMs xm121) = true := xseg_ok (n := 12) (m := 1) (by decide) (by decide +kernel) (fun k hk => match k, hk with
  | 0, _ => xm121_s0
  | n + 1, h => absurd h (by omega))
set_option maxRecDepth 100000 in
theorem xm122_s0 : ((xm122c.drop (12 * 0)).take 12).all (xveB xMs xm122) = true := by decide +kernel
set_option maxRecDepth 100000 in
theorem xm122_s1 : ((xm122c.drop (12 * 1)).take 12).all (xveB xMs xm122) = true := by decide +kernel
theorem xm122_a : xm122c.all (xveB xMs xm122) = true := xseg_ok (n := 12) (m := 2) (by decide) (by decide +kernel) (fun k hk => match k, hk with
  | 0, _ => xm122_s0
  | 1, _ => xm122_s1
  | n + 2, h => absurd h (by omega))
set_option maxRecDepth 100000 in
theorem xm123_s0 : ((xm123c.drop (12 * 0)).take 12).all (xveB xMs xm123) = true := by decide +kernel
theorem xm123_a : xm123c.all (xveB xMs xm123) = true := xseg_ok (n := 12) (m := 1) (by decide) (by decide +kernel) (fun k hk => match k, hk with
  | 0, _ => xm123_s0
  | n + 1, h => absurd h (by omega))
set_option maxRecDepth 100000 in
theorem xm124_s0 : ((xm124c.drop (12 * 0)).take 12).all (xveB xMs xm124) = true := by decide +kernel
set_option maxRecDepth 100000 in
theorem xm124_s1 : ((xm124c.drop (12 * 1)).take 12).all (xveB xMs xm124) = true := by decide +kernel
theorem xm124_a : xm124c.all (xveB xMs xm124) = true := xseg_ok (n := 12) (m := 2) (by decide) (by decide +kernel) (fun k hk => match k, hk with
  | 0, _ => xm124_s0
  | 1, _ => xm124_s1
  | n + 2, h => absurd h (by omega))
set_option maxRecDepth 100000 in
theorem xm125_s0 : ((xm125c.drop (12 * 0)).take 12).all (xveB xMs xm125) = true := by decide +kernel
theorem xm125_a : xm125c.all (xveB xMs xm125) = true := xseg_ok (n := 12) (m := 1) (by decide) (by decide +kernel) (fun k hk => match k, hk with
  | 0, _ => xm125_s0
  | n + 1, h => absurd h (by omega))
set_option maxRecDepth 100000 in
theorem xm126_s0 : ((xm126c.drop (12 * 0)).take 12).all (xveB xMs xm126) = true := by decide +kernel
set_option maxRecDepth 100000 in
theorem xm126_s1 : ((xm126c.drop (12 * 1)).take 12).all (xveB xMs xm126) = true := by decide +kernel
theorem xm126_a : xm126c.all (xveB xMs xm126) = true := xseg_ok (n := 12) (m := 2) (by decide) (by decide +kernel) (fun k hk => match k, hk with
  | 0, _ => xm126_s0
  | 1, _ => xm126_s1
  | n + 2, h => absurd h (by omega))
set_option maxRecDepth 100000 in
theorem xm127_s0 : ((xm127c.drop (12 * 0)).take 12).all (xveB xMs xm127) = true := by decide +kernel
set_option maxRecDepth 100000 in
theorem xm127_s1 : ((xm127c.drop (12 * 1)).take 12).all (xveB xMs xm127) = true := by decide +kernel
set_option maxRecDepth 100000 in
theorem xm127_s2 : ((xm127c.drop (12 * 2)).take 12).all (xveB xMs xm127) = true := by decide +kernel
set_option maxRecDepth 100000 in
theorem xm127_s3 : ((xm127c.drop (12 * 3)).take 12).all (xveB xMs xm127) = true := by decide +kernel
set_option maxRecDepth 100000 in
theorem xm127_s4 : ((xm127c.drop (12 * 4)).take 12).all (xveB xMs xm127) = true := by decide +kernel
theorem xm127_a : xm127c.all (xveB xMs xm127) = true := xseg_ok (n := 12) (m := 5) (by decide) (by decide +kernel) (fun k hk => match k, hk with
  | 0, _ => xm127_s0
  | 1, _ => xm127_s1
  | 2, _ => xm127_s2
  | 3, _ => xm127_s3
  | 4, _ => xm127_s4
  | n + 5, h => absurd h (by omega))
set_option maxRecDepth 100000 in
theorem xm128_s0 : ((xm128c.drop (12 * 0)).take 12).all (xveB xMs xm128) = true := by decide +kernel
set_option maxRecDepth 100000 in
theorem xm128_s1 : ((xm128c.drop (12 * 1)).take 12).all (xveB xMs xm128) = true := by decide +kernel
set_option maxRecDepth 100000 in
theorem xm128_s2 : ((xm128c.drop (12 * 2)).take 12).all (xveB xMs xm128) = true := by decide +kernel
theorem xm128_a : xm128c.all (xveB xMs xm128) = true := xseg_ok (n := 12) (m := 3) (by decide) (by decide +kernel) (fun k hk => match k, hk with
  | 0, _ => xm128_s0
  | 1, _ => xm128_s1
  | 2, _ => xm128_s2
  | n + 3, h => absurd h (by omega))
set_option maxRecDepth 100000 in
theorem xm129_s0 : ((xm129c.drop (12 * 0)).take 12).all (xveB xMs xm129) = true := by decide +kernel
set_option maxRecDepth 100000 in
theorem xm129_s1 : ((xm129c.drop (12 * 1)).take 12).all (xveB xMs xm129) = true := by decide +kernel
set_option maxRecDepth 100000 in
theorem xm129_s2 : ((xm129c.drop (12 * 2)).take 12).all (xveB xMs xm129) = true := by decide +kernel
theorem xm129_a : xm129c.all (xveB xMs xm129) = true := xseg_ok (n := 12) (m := 3) (by decide) (by decide +kernel) (fun k hk => match k, hk with
  | 0, _ => xm129_s0
  | 1, _ => xm129_s1
  | 2, _ => xm129_s2
  | n + 3, h => absurd h (by omega))
set_option maxRecDepth 100000 in
theorem xm130_s0 : ((xm130c.drop (12 * 0)).take 12).all (xveB xMs xm130) = true := by decide +kernel
set_option maxRecDepth 100000 in
theorem xm130_s1 : ((xm130c.drop (12 * 1)).take 12).all (xveB xMs xm130) = true := by decide +kernel
theorem xm130_a : xm130c.all (xveB xMs xm130) = true := xseg_ok (n := 12) (m := 2) (by decide) (by decide +kernel) (fun k hk => match k, hk with
  | 0, _ => xm130_s0
  | 1, _ => xm130_s1
  | n + 2, h => absurd h (by omega))
set_option maxRecDepth 100000 in
theorem xm131_s0 : ((xm131c.drop (12 * 0)).take 12).all (xveB xMs xm131) = true := by decide +kernel
set_option maxRecDepth 100000 in
theorem xm131_s1 : ((xm131c.drop (12 * 1)).take 12).all (xveB xMs xm131) = true := by decide +kernel
set_option maxRecDepth 100000 in
theorem xm131_s2 : ((xm131c.drop (12 * 2)).take 12).all (xveB xMs xm131) = true := by decide +kernel
set_option maxRecDepth 100000 in
theorem xm131_s3 : ((xm131c.drop (12 * 3)).take 12).all (xveB xMs xm131) = true := by decide +kernel
set_option maxRecDepth 100000 in
theorem xm131_s4 : ((xm131c.drop (12 * 4)).take 12).all (xveB xMs xm131) = true := by decide +kernel
set_option maxRecDepth 100000 in
theorem xm131_s5 : ((xm131c.drop (12 * 5)).take 12).all (xveB xMs xm131) = true := by decide +kernel
set_option maxRecDepth 100000 in
theorem xm131_s6 : ((xm131c.drop (12 * 6)).take 12).all (xveB xMs xm131) = true := by decide +kernel
set_option maxRecDepth 100000 in
theorem xm131_s7 : ((xm131c.drop (12 * 7)).take 12).all (xveB xMs xm131) = true := by decide +kernel
set_option maxRecDepth 100000 in
theorem xm131_s8 : ((xm131c.drop (12 * 8)).take 12).all (xveB xMs xm131) = true := by decide +kernel
theorem xm131_a : xm131c.all (xveB xMs xm131) = true := xseg_ok (n := 12) (m := 9) (by decide) (by decide +kernel) (fun k hk => match k, hk with
  | 0, _ => xm131_s0
  | 1, _ => xm131_s1
  | 2, _ => xm131_s2
  | 3, _ => xm131_s3
  | 4, _ => xm131_s4
  | 5, _ => xm131_s5
  | 6, _ => xm131_s6
  | 7, _ => xm131_s7
  | 8, _ => xm131_s8
  | n + 9, h => absurd h (by omega))
set_option maxRecDepth 100000 in
theorem xm132_s0 : ((xm132c.drop (12 * 0)).take 12).all (xveB xMs xm132) = true := by decide +kernel
set_option maxRecDepth 100000 in
theorem xm132_s1 : ((xm132c.drop (12 * 1)).take 12).all (xveB xMs xm132) = true := by decide +kernel
set_option maxRecDepth 100000 in
theorem xm132_s2 : ((xm132c.drop (12 * 2)).take 12).all (xveB xMs xm132) = true := by decide +kernel
theorem xm132_a : xm132c.all (xveB xMs xm132) = true := xseg_ok (n := 12) (m := 3) (by decide) (by decide +kernel) (fun k hk => match k, hk with
  | 0, _ => xm132_s0
  | 1, _ => xm132_s1
  | 2, _ => xm132_s2
  | n + 3, h => absurd h (by omega))
end XU
end
section
section XU
set_option maxRecDepth 100000 in
theorem xm133_s0 : ((xm133c.drop (12 * 0)).take 12).all (xveB xMs xm133) = true := by decide +kernel
set_option maxRecDepth 100000 in
theorem xm133_s1 : ((xm133c.drop (12 * 1)).take 12).all (xveB xMs xm133) = true := by decide +kernel
set_option maxRecDepth 100000 in
theorem xm133_s2 : ((xm133c.drop (12 * 2)).take 12).all (xveB xMs xm133) = true := by decide +kernel
set_option maxRecDepth 100000 in
theorem xm133_s3 : ((xm133c.drop (12 * 3)).take 12).all (xveB xMs xm133) = true := by decide +kernel
set_option maxRecDepth 100000 in
theorem xm133_s4 : ((xm133c.drop (12 * 4)).take 12).all (xveB xMs xm133) = true := by decide +kernel
set_option maxRecDepth 100000 in
theorem xm133_s5 : ((xm133c.drop (12 * 5)).take 12).all (xveB xMs xm133) = true := by decide +kernel
set_option maxRecDepth 100000 in
theorem xm133_s6 : ((xm133c.drop (12 * 6)).take 12).all (xveB xMs xm133) = true := by decide +kernel
set_option maxRecDepth 100000 in
theorem xm133_s7 : ((xm133c.drop (12 * 7)).take 12).all (xveB xMs xm133) = true := by decide +kernel
set_option maxRecDepth 100000 in
theorem xm133_s8 : ((xm133c.drop (12 * 8)).take 12).all (xveB xMs xm133) = true := by decide +kernel
set_option maxRecDepth 100000 in
theorem xm133_s9 : ((xm133c.drop (12 * 9)).take 12).all (xveB xMs xm133) = true := by decide +kernel
set_option maxRecDepth 100000 in
theorem xm133_s10 : ((xm133c.drop (12 * 10)).take 12).all (xveB xMs xm133) = true := by decide +kernel
set_option maxRecDepth 100000 in
theorem xm133_s11 : ((xm133c.drop (12 * 11)).take 12).all (xveB xMs xm133) = true := by decide +kernel
set_option maxRecDepth 100000 in
theorem xm133_s12 : ((xm133c.drop (12 * 12)).take 12).all (xveB xMs xm133) = true := by decide +kernel
set_option maxRecDepth 100000 in
theorem xm133_s13 : ((xm133c.drop (12 * 13)).take 12).all (xveB xMs xm133) = true := by decide +kernel
set_option maxRecDepth 100000 in
theorem xm133_s14 : ((xm133c.drop (12 * 14)).take 12).all (xveB xMs xm133) = true := by decide +kernel
set_option maxRecDepth 100000 in
theorem xm133_s15 : ((xm133c.drop (12 * 15)).take 12).all (xveB xMs xm133) = true := by decide +kernel
set_option maxRecDepth 100000 in
theorem xm133_s16 : ((xm133c.drop (12 * 16)).take 12).all (xveB xMs xm133) = true := by decide +kernel
set_option maxRecDepth 100000 in
theorem xm133_s17 : ((xm133c.drop (12 * 17)).take 12).all (xveB xMs xm133) = true := by decide +kernel
set_option maxRecDepth 100000 in
theorem xm133_s18 : ((xm133c.drop (12 * 18)).take 12).all (xveB xMs xm133) = true := by decide +kernel
set_option maxRecDepth 100000 in
theorem xm133_s19 : ((xm133c.drop (12 * 19)).take 12).all (xveB xMs xm133) = true := by decide +kernel
set_option maxRecDepth 100000 in
theorem xm133_s20 : ((xm133c.drop (12 * 20)).take 12).all (xveB xMs xm133) = true := by decide +kernel
set_option maxRecDepth 100000 in
theorem xm133_s21 : ((xm133c.drop (12 * 21)).take 12).all (xveB xMs xm133) = true := by decide +kernel
set_option maxRecDepth 100000 in
theorem xm133_s22 : ((xm133c.drop (12 * 22)).take 12).all (xveB xMs xm133) = true := by decide +kernel
set_option maxRecDepth 100000 in
theorem xm133_s23 : ((xm133c.drop (12 * 23)).take 12).all (xveB xMs xm133) = true := by decide +kernel
theorem xm133_a : xm133c.all (xveB xMs xm133) = true := xseg_ok (n := 12) (m := 24) (by decide) (by decide +kernel) (fun k hk => match k, hk with
  | 0, _ => xm133_s0
  | 1, _ => xm133_s1
  | 2, _ => xm133_s2
  | 3, _ => xm133_s3
  | 4, _ => xm133_s4
  | 5, _ => xm133_s5
  | 6, _ => xm133_s6
  | 7, _ => xm133_s7
  | 8, _ => xm133_s8
  | 9, _ => xm133_s9
  | 10, _ => xm133_s10
  | 11, _ => xm133_s11
  | 12, _ => xm133_s12
  | 13, _ => xm133_s13
  | 14, _ => xm133_s14
  | 15, _ => xm133_s15
  | 16, _ => xm133_s16
  | 17, _ => xm133_s17
  | 18, _ => xm133_s18
  | 19, _ => xm133_s19
  | 20, _ => xm133_s20
  | 21, _ => xm133_s21
  | 22, _ => xm133_s22
  | 23, _ => xm133_s23
  | n + 24, h => absurd h (by omega))
set_option maxRecDepth 100000 in
theorem xm134_s0 : ((xm134c.drop (12 * 0)).take 12).all (xveB xMs xm134) = true := by decide +kernel
set_option maxRecDepth 100000 in
theorem xm134_s1 : ((xm134c.drop (12 * 1)).take 12).all (xveB xMs xm134) = true := by decide +kernel
set_option maxRecDepth 100000 in
theorem xm134_s2 : ((xm134c.drop (12 * 2)).take 12).all (xveB xMs xm134) = true := by decide +kernel
set_option maxRecDepth 100000 in
theorem xm134_s3 : ((xm134c.drop (12 * 3)).take 12).all (xveB xMs xm134) = true := by decide +kernel
theorem xm134_a : xm134c.all (xveB xMs xm134) = true := xseg_ok (n := 12) (m := 4) (by decide) (by decide +kernel) (fun k hk => match k, hk with
  | 0, _ => xm134_s0
  | 1, _ => xm134_s1
  | 2, _ => xm134_s2
  | 3, _ => xm134_s3
  | n + 4, h => absurd h (by omega))
set_option maxRecDepth 100000 in
theorem xm135_s0 : ((xm135c.drop (12 * 0)).take 12).all (xveB xMs xm135) = true := by decide +kernel
set_option maxRecDepth 100000 in
theorem xm135_s1 : ((xm135c.drop (12 * 1)).take 12).all (xveB xMs xm135) = true := by decide +kernel
set_option maxRecDepth 100000 in
theorem xm135_s2 : ((xm135c.drop (12 * 2)).take 12).all (xveB xMs xm135) = true := by decide +kernel
set_option maxRecDepth 100000 in
theorem xm135_s3 : ((xm135c.drop (12 * 3)).take 12).all (xveB xMs xm135) = true := by decide +kernel
set_option maxRecDepth 100000 in
theorem xm135_s4 : ((xm135c.drop (12 * 4)).take 12).all (xveB xMs xm135) = true := by decide +kernel
set_option maxRecDepth 100000 in
theorem xm135_s5 : ((xm135c.drop (12 * 5)).take 12).all (xveB xMs xm135) = true := by decide +kernel
set_option maxRecDepth 100000 in
theorem xm135_s6 : ((xm135c.drop (12 * 6)).take 12).all (xveB xMs xm135) = true := by decide +kernel
theorem xm135_a : xm135c.all (xveB xMs xm135) = true := xseg_ok (n := 12) (m := 7) (by decide) (by decide +kernel) (fun k hk => match k, hk with
  | 0, _ => xm135_s0
  | 1, _ => xm135_s1
  | 2, _ => xm135_s2
  | 3, _ => xm135_s3
  | 4, _ => xm135_s4
  | 5, _ => xm135_s5
  | 6, _ => xm135_s6
  | n + 7, h => absurd h (by omega))
end XU
end
section
section XU
set_option maxRecDepth 100000 in
theorem xm136_s0 : ((xm136c.drop (12 * 0)).take 12).all (xveB xMs xm136) = true := by decide +kernel
set_option maxRecDepth 100000 in
theorem xm136_s1 : ((xm136c.drop (12 * 1)).take 12).all (xveB xMs xm136) = true := by decide +kernel
set_option maxRecDepth 100000 in
theorem xm136_s2 : ((xm136c.drop (12 * 2)).take 12).all (xveB xMs xm136) = true := by decide +kernel
set_option maxRecDepth 100000 in
theorem xm136_s3 : ((xm136c.drop (12 * 3)).take 12).all (xveB xMs xm136) = true := by decide +kernel
set_option maxRecDepth 100000 in
theorem xm136_s4 : ((xm136c.drop (12 * 4)).take 12).all (xveB xMs xm136) = true := by decide +kernel
theorem xm136_a : xm136c.all (xveB xMs xm136) = true := xseg_ok (n := 12) (m := 5) (by decide) (by decide +kernel) (fun k hk => match k, hk with
  | 0, _ => xm136_s0
  | 1, _ => xm136_s1
  | 2, _ => xm136_s2
  | 3, _ => xm136_s3
  | 4, _ => xm136_s4
  | n + 5, h => absurd h (by omega))
set_option maxRecDepth 100000 in
theorem xm137_s0 : ((xm137c.drop (12 * 0)).take 12).all (xveB xMs xm137) = true := by decide +kernel
set_option maxRecDepth 100000 in
theorem xm137_s1 : ((xm137c.drop (12 * 1)).take 12).all (xveB xMs xm137) = true := by decide +kernel
set_option maxRecDepth 100000 in
theorem xm137_s2 : ((xm137c.drop (12 * 2)).take 12).all (xveB xMs xm137) = true := by decide +kernel
set_option maxRecDepth 100000 in
theorem xm137_s3 : ((xm137c.drop (12 * 3)).take 12).all (xveB xMs xm137) = true := by decide +kernel
set_option maxRecDepth 100000 in
theorem xm137_s4 : ((xm137c.drop (12 * 4)).take 12).all (xveB xMs xm137) = true := by decide +kernel
set_option maxRecDepth 100000 in
theorem xm137_s5 : ((xm137c.drop (12 * 5)).take 12).all (xveB xMs xm137) = true := by decide +kernel
set_option maxRecDepth 100000 in
theorem xm137_s6 : ((xm137c.drop (12 * 6)).take 12).all (xveB xMs xm137) = true := by decide +kernel
set_option maxRecDepth 100000 in
theorem xm137_s7 : ((xm137c.drop (12 * 7)).take 12).all (xveB xMs xm137) = true := by decide +kernel
set_option maxRecDepth 100000 in
theorem xm137_s8 : ((xm137c.drop (12 * 8)).take 12).all (xveB xMs xm137) = true := by decide +kernel
theorem xm137_a : xm137c.all (xveB xMs xm137) = true := xseg_ok (n := 12) (m := 9) (by decide) (by decide +kernel) (fun k hk => match k, hk with
  | 0, _ => xm137_s0
  | 1, _ => xm137_s1
  | 2, _ => xm137_s2
  | 3, _ => xm137_s3
  | 4, _ => xm137_s4
  | 5, _ => xm137_s5
  | 6, _ => xm137_s6
  | 7, _ => xm137_s7
  | 8, _ => xm137_s8
  | n + 9, h => absurd h (by omega))
set_option maxRecDepth 100000 in
theorem xm138_s0 : ((xm138c.drop (12 * 0)).take 12).all (xveB xMs xm138) = true := by decide +kernel
set_option maxRecDepth 100000 in
theorem xm138_s1 : ((xm138c.drop (12 * 1)).take 12).all (xveB xMs xm138) = true := by decide +kernel
theorem xm138_a : xm138c.all (xveB xMs xm138) = true := xseg_ok (n := 12) (m := 2) (by decide) (by decide +kernel) (fun k hk => match k, hk with
  | 0, _ => xm138_s0
  | 1, _ => xm138_s1
  | n + 2, h => absurd h (by omega))
set_option maxRecDepth 100000 in
theorem xm139_s0 : ((xm139c.drop (12 * 0)).take 12).all (xveB xMs xm139) = true := by decide +kernel
set_option maxRecDepth 100000 in
theorem xm139_s1 : ((xm139c.drop (12 * 1)).take 12).all (xveB xMs xm139) = true := by decide +kernel
set_option maxRecDepth 100000 in
theorem xm139_s2 : ((xm139c.drop (12 * 2)).take 12).all (xveB xMs xm139) = true := by decide +kernel
set_option maxRecDepth 100000 in
theorem xm139_s3 : ((xm139c.drop (12 * 3)).take 12).all (xveB xMs xm139) = true := by decide +kernel
set_option maxRecDepth 100000 in
theorem xm139_s4 : ((xm139c.drop (12 * 4)).take 12).all (xveB xMs xm139) = true := by decide +kernel
set_option maxRecDepth 100000 in
theorem xm139_s5 : ((xm139c.drop (12 * 5)).take 12).all (xveB xMs xm139) = true := by decide +kernel
set_option maxRecDepth 100000 in
theorem xm139_s6 : ((xm139c.drop (12 * 6)).take 12).all (xveB xMs xm139) = true := by decide +kernel
set_option maxRecDepth 100000 in
theorem xm139_s7 : ((xm139c.drop (12 * 7)).take 12).all (xveB xMs xm139) = true := by decide +kernel
set_option maxRecDepth 100000 in
theorem xm139_s8 : ((xm139c.drop (12 * 8)).take 12).all (xveB xMs xm139) = true := by decide +kernel
set_option maxRecDepth 100000 in
theorem xm139_s9 : ((xm139c.drop (12 * 9)).take 12).all (xveB xMs xm139) = true := by decide +kernel
set_option maxRecDepth 100000 in
theorem xm139_s10 : ((xm139c.drop (12 * 10)).take 12).all (xveB xMs xm139) = true := by decide +kernel
set_option maxRecDepth 100000 in
theorem xm139_s11 : ((xm139c.drop (12 * 11)).take 12).all (xveB xMs xm139) = true := by decide +kernel
set_option maxRecDepth 100000 in
theorem xm139_s12 : ((xm139c.drop (12 * 12)).take 12).all (xveB xMs xm139) = true := by decide +kernel
theorem xm139_a : xm139c.all (xveB xMs xm139) = true := xseg_ok (n := 12) (m := 13) (by decide) (by decide +kernel) (fun k hk => match k, hk with
  | 0, _ => xm139_s0
  | 1, _ => xm139_s1
  | 2, _ => xm139_s2
  | 3, _ => xm139_s3
  | 4, _ => xm139_s4
  | 5, _ => xm139_s5
  | 6, _ => xm139_s6
  | 7, _ => xm139_s7
  | 8, _ => xm139_s8
  | 9, _ => xm139_s9
  | 10, _ => xm139_s10
  | 11, _ => xm139_s11
  | 12, _ => xm139_s12
  | n + 13, h => absurd h (by omega))
set_option maxRecDepth 100000 in
theorem xm140_s0 : ((xm140c.drop (12 * 0)).take 12).all (xveB xMs xm140) = true := by decide +kernel
set_option maxRecDepth 100000 in
theorem xm140_s1 : ((xm140c.drop (12 * 1)).take 12).all (xveB xMs xm140) = true := by decide +kernel
set_option maxRecDepth 100000 in
theorem xm140_s2 : ((xm140c.drop (12 * 2)).take 12).all (xveB xMs xm140) = true := by decide +kernel
theorem xm140_a : xm140c.all (xveB xMs xm140) = true := xseg_ok (n := 12) (m := 3) (by decide) (by decide +kernel) (fun k hk => match k, hk with
  | 0, _ => xm140_s0
  | 1, _ => xm140_s1
  | 2, _ => xm140_s2
  | n + 3, h => absurd h (by omega))
set_option maxRecDepth 100000 in
theorem xm141_s0 : ((xm141c.drop (12 * 0)).take 12).all (xveB xMs xm141) = true := by decide +kernel
set_option maxRecDepth 100000 in
theorem xm141_s1 : ((xm141c.drop (12 * 1)).take 12).all (xveB xMs xm141) = true := by decide +kernel
theorem xm141_a : xm141c.all (xveB xMs xm141) = true := xseg_ok (n := 12) (m := 2) (by decide) (by decide +kernel) (fun k hk => match k, hk with
  | 0, _ => xm141_s0
  | 1, _ => xm141_s1
  | n + 2, h => absurd h (by omega))
end XU
end
section
section XU
set_option maxRecDepth 100000 in
theorem xlw0_s0 : ((xlw0.drop (12 * 0)).take 12).all (xveB xMs xLaw) = true := by decide +kernel
set_option maxRecDepth 100000 in
theorem xlw0_s1 : ((xlw0.drop (12 * 1)).take 12).all (xveB xMs xLaw) = true := by decide +kernel
set_option maxRecDepth 100000 in
theorem xlw0_s2 : ((xlw0.drop (12 * 2)).take 12).all (xveB xMs xLaw) = true := by decide +kernel
set_option maxRecDepth 100000 in
theorem xlw0_s3 : ((xlw0.drop (12 * 3)).take 12).all (xveB xMs xLaw) = true := by decide +kernel
set_option maxRecDepth 100000 in
theorem xlw0_s4 : ((xlw0.drop (12 * 4)).take 12).all (xveB xMs xLaw) = true := by decide +kernel
theorem xlw0_a : xlw0.all (xveB xMs xLaw) = true := xseg_ok (n := 12) (m := 5) (by decide) (by decide +kernel) (fun k hk => match k, hk with
  | 0, _ => xlw0_s0
  | 1, _ => xlw0_s1
  | 2, _ => xlw0_s2
  | 3, _ => xlw0_s3
  | 4, _ => xlw0_s4
  | n + 5, h => absurd h (by omega))
end XU
end
section
section XU
set_option maxRecDepth 100000 in
theorem xlw1_s0 : ((xlw1.drop (12 * 0)).take 12).all (xveB xMs xLaw) = true := by decide +kernel
set_option maxRecDepth 100000 in
theorem xlw1_s1 : ((xlw1.drop (12 * 1)).take 12).all (xveB xMs xLaw) = true := by decide +kernel
set_option maxRecDepth 100000 in
theorem xlw1_s2 : ((xlw1.drop (12 * 2)).take 12).all (xveB xMs xLaw) = true := by decide +kernel
set_option maxRecDepth 100000 in
theorem xlw1_s3 : ((xlw1.drop (12 * 3)).take 12).all (xveB xMs xLaw) = true := by decide +kernel
set_option maxRecDepth 100000 in
theorem xlw1_s4 : ((xlw1.drop (12 * 4)).take 12).all (xveB xMs xLaw) = true := by decide +kernel
theorem xlw1_a : xlw1.all (xveB xMs xLaw) = true := xseg_ok (n := 12) (m := 5) (by decide) (by decide +kernel) (fun k hk => match k, hk with
  | 0, _ => xlw1_s0
  | 1, _ => xlw1_s1
  | 2, _ => xlw1_s2
  | 3, _ => xlw1_s3
  | 4, _ => xlw1_s4
  | n + 5, h => absurd h (by omega))
end XU
end
section
section XU
set_option maxRecDepth 100000 in
theorem xlw2_s0 : ((xlw2.drop (12 * 0)).take 12).all (xveB xMs xLaw) = true := by decide +kernel
set_option maxRecDepth 100000 in
theorem xlw2_s1 : ((xlw2.drop (12 * 1)).take 12).all (xveB xMs xLaw) = true := by decide +kernel
set_option maxRecDepth 100000 in
theorem xlw2_s2 : ((xlw2.drop (12 * 2)).take 12).all (xveB xMs xLaw) = true := by decide +kernel
set_option maxRecDepth 100000 in
theorem xlw2_s3 : ((xlw2.drop (12 * 3)).take 12).all (xveB xMs xLaw) = true := by decide +kernel
set_option maxRecDepth 100000 in
theorem xlw2_s4 : ((xlw2.drop (12 * 4)).take 12).all (xveB xMs xLaw) = true := by decide +kernel
theorem xlw2_a : xlw2.all (xveB xMs xLaw) = true := xseg_ok (n := 12) (m := 5) (by decide) (by decide +kernel) (fun k hk => match k, hk with
  | 0, _ => xlw2_s0
  | 1, _ => xlw2_s1
  | 2, _ => xlw2_s2
  | 3, _ => xlw2_s3
  | 4, _ => xlw2_s4
  | n + 5, h => absurd h (by omega))
end XU
end
section
section XU
set_option maxRecDepth 100000 in
theorem xlw3_s0 : ((xlw3.drop (12 * 0)).take 12).all (xveB xMs xLaw) = true := by decide +kernel
set_option maxRecDepth 100000 in
theorem xlw3_s1 : ((xlw3.drop (12 * 1)).take 12).all (xveB xMs xLaw) = true := by decide +kernel
set_option maxRecDepth 100000 in
theorem xlw3_s2 : ((xlw3.drop (12 * 2)).take 12).all (xveB xMs xLaw) = true := by decide +kernel
set_option maxRecDepth 100000 in
theorem xlw3_s3 : ((xlw3.drop (12 * 3)).take 12).all (xveB xMs xLaw) = true := by decide +kernel
set_option maxRecDepth 100000 in
theorem xlw3_s4 : ((xlw3.drop (12 * 4)).take 12).all (xveB xMs xLaw) = true := by decide +kernel
theorem xlw3_a : xlw3.all (xveB xMs xLaw) = true := xseg_ok (n := 12) (m := 5) (by decide) (by decide +kernel) (fun k hk => match k, hk with
  | 0, _ => xlw3_s0
  | 1, _ => xlw3_s1
  | 2, _ => xlw3_s2
  | 3, _ => xlw3_s3
  | 4, _ => xlw3_s4
  | n + 5, h => absurd h (by omega))
end XU
end
section
section XU
set_option maxRecDepth 100000 in
theorem xlw4_s0 : ((xlw4.drop (12 * 0)).take 12).all (xveB xMs xLaw) = true := by decide +kernel
set_option maxRecDepth 100000 in
theorem xlw4_s1 : ((xlw4.drop (12 * 1)).take 12).all (xveB xMs xLaw) = true := by decide +kernel
set_option maxRecDepth 100000 in
theorem xlw4_s2 : ((xlw4.drop (12 * 2)).take 12).all (xveB xMs xLaw) = true := by decide +kernel
set_option maxRecDepth 100000 in
theorem xlw4_s3 : ((xlw4.drop (12 * 3)).take 12).all (xveB xMs xLaw) = true := by decide +kernel
set_option maxRecDepth 100000 in
theorem xlw4_s4 : ((xlw4.drop (12 * 4)).take 12).all (xveB xMs xLaw) = true := by decide +kernel
theorem xlw4_a : xlw4.all (xveB xMs xLaw) = true := xseg_ok (n := 12) (m := 5) (by decide) (by decide +kernel) (fun k hk => match k, hk with
  | 0, _ => xlw4_s0
  | 1, _ => xlw4_s1
  | 2, _ => xlw4_s2
  | 3, _ => xlw4_s3
  | 4, _ => xlw4_s4
  | n + 5, h => absurd h (by omega))
end XU
end
section
section XU
set_option maxRecDepth 100000 in
theorem xlw5_s0 : ((xlw5.drop (12 * 0)).take 12).all (xveB xMs xLaw) = true := by decide +kernel
set_option maxRecDepth 100000 in
theorem xlw5_s1 : ((xlw5.drop (12 * 1)).take 12).all (xveB xMs xLaw) = true := by decide +kernel
set_option maxRecDepth 100000 in
theorem xlw5_s2 : ((xlw5.drop (12 * 2)).take 12).all (xveB xMs xLaw) = true := by decide +kernel
set_option maxRecDepth 100000 in
theorem xlw5_s3 : ((xlw5.drop (12 * 3)).take 12).all (xveB xMs xLaw) = true := by decide +kernel
set_option maxRecDepth 100000 in
theorem xlw5_s4 : ((xlw5.drop (12 * 4)).take 12).all (xveB xMs xLaw) = true := by decide +kernel
theorem xlw5_a : xlw5.all (xveB xMs xLaw) = true := xseg_ok (n := 12) (m := 5) (by decide) (by decide +kernel) (fun k hk => match k, hk with
  | 0, _ => xlw5_s0
  | 1, _ => xlw5_s1
  | 2, _ => xlw5_s2
  | 3, _ => xlw5_s3
  | 4, _ => xlw5_s4
  | n + 5, h => absurd h (by omega))
end XU
end
section
section XU
set_option maxRecDepth 100000 in
theorem xlw6_s0 : ((xlw6.drop (12 * 0)).take 12).all (xveB xMs xLaw) = true := by decide +kernel
set_option maxRecDepth 100000 in
theorem xlw6_s1 : ((xlw6.drop (12 * 1)).take 12).all (xveB xMs xLaw) = true := by decide +kernel
set_option maxRecDepth 100000 in
theorem xlw6_s2 : ((xlw6.drop (12 * 2)).take 12).all (xveB xMs xLaw) = true := by decide +kernel
set_option maxRecDepth 100000 in
theorem xlw6_s3 : ((xlw6.drop (12 * 3)).take 12).all (xveB xMs xLaw) = true := by decide +kernel
theorem xlw6_a : xlw6.all (xveB xMs xLaw) = true := xseg_ok (n := 12) (m := 4) (by decide) (by decide +kernel) (fun k hk => match k, hk with
  | 0, _ => xlw6_s0
  | 1, _ => xlw6_s1
  | 2, _ => xlw6_s2
  | 3, _ => xlw6_s3
  | n + 4, h => absurd h (by omega))
end XU
end
section
/-! the tables, all along (by wip/p46/gen18.py) -/
section XG
theorem xpl_ok {ws : List Jvm.Cond} {ps : List Nat} (h : ws = ps.filterMap (xnth lw_tbl)) (h2 : ws.all (fun w => goodWord w || xngk w) = true) : ∀ w ∈ ws, w ∈ xTs ∨ w ∈ xNg := by
  intro w hw
  have h3 := List.all_eq_true.mp h2 w hw
  rw [h] at hw
  obtain ⟨i, -, hi⟩ := List.mem_filterMap.mp hw
  rw [xnth_eq] at hi
  rw [Bool.or_eq_true] at h3
  exact h3.imp (fun z => xTs_in hi z) (fun z => xNg_in hi z)
theorem xpl_ok1 {ws : List Jvm.Cond} {ps : List Nat} (h : ws = ps.filterMap (xnth lw_tbl)) (h2 : ws.all goodWord = true) : ∀ w ∈ ws, w ∈ xTs := by
  intro w hw
  have h3 := List.all_eq_true.mp h2 w hw
  rw [h] at hw
  obtain ⟨i, -, hi⟩ := List.mem_filterMap.mp hw
  rw [xnth_eq] at hi
  exact xTs_in hi h3
theorem xw_c0 : ∀ w ∈ u_ws "PackWright$Cache" xT0 4, w ∈ xTs := xpl_ok1 (ps := [744, 746, 748, 750]) (by decide +kernel) (by decide +kernel)
theorem xw_c1 : ∀ w ∈ u_ws "PackWright$Chains" xT1 4, w ∈ xTs := xpl_ok1 (ps := [693, 695, 697, 699]) (by decide +kernel) (by decide +kernel)
theorem xw_c2 : ∀ w ∈ u_ws "PackWright$Choice" xT2 2, w ∈ xTs := xpl_ok1 (ps := [632, 634]) (by decide +kernel) (by decide +kernel)
theorem xw_c3 : ∀ w ∈ u_ws "PackWright$Pack" xT3 3, w ∈ xTs := xpl_ok1 (ps := [1045, 1047, 1049]) (by decide +kernel) (by decide +kernel)
theorem xw_c4 : ∀ w ∈ u_ws "PackWright$Plan" xT4 6, w ∈ xTs := xpl_ok1 (ps := [719, 721, 723, 725, 727, 729]) (by decide +kernel) (by decide +kernel)
theorem xw_c5 : ∀ w ∈ u_ws "PackWright$Resolver" xT5 11, w ∈ xTs := xpl_ok1 (ps := [660, 662, 664, 666, 668, 670, 672, 674, 676, 678, 680]) (by decide +kernel) (by decide +kernel)
theorem xw_c6 : ∀ w ∈ u_ws "PackWright$Wishes" xT6 2, w ∈ xTs := xpl_ok1 (ps := [610, 612]) (by decide +kernel) (by decide +kernel)
theorem xw_c7 : ∀ w ∈ u_ws "PackWright" xT7 13, w ∈ xTs := xpl_ok1 (ps := [766, 768, 770, 772, 774, 776, 778, 780, 782, 784, 786, 788, 790]) (by decide +kernel) (by decide +kernel)
theorem xw_c8 : ∀ w ∈ u_ws "PackWright$Claim" xT8 5, w ∈ xTs := xpl_ok1 (ps := [998, 1000, 1002, 1004, 1006]) (by decide +kernel) (by decide +kernel)
theorem xw_c9 : ∀ w ∈ u_ws "PackWright$Range" xT9 2, w ∈ xTs := xpl_ok1 (ps := [975, 977]) (by decide +kernel) (by decide +kernel)
theorem xw_c10 : ∀ w ∈ u_ws "PackWright$Version" xT10 8, w ∈ xTs := xpl_ok1 (ps := [913, 915, 917, 919, 921, 923, 925, 927]) (by decide +kernel) (by decide +kernel)
theorem xw_c11 : ∀ w ∈ u_ws "PackWrightLaw$Reg" xT11 13, w ∈ xTs := xpl_ok1 (ps := [813, 815, 817, 819, 821, 823, 825, 827, 829, 831, 833, 835, 837]) (by decide +kernel) (by decide +kernel)
theorem xw_cl : ∀ q ∈ (classes : List vw_C), ∀ w ∈ u_ws q.1 q.2.1 q.2.2, w ∈ xTs := List.forall_mem_cons.mpr ⟨xw_c0, List.forall_mem_cons.mpr ⟨xw_c1, List.forall_mem_cons.mpr ⟨xw_c2, List.forall_mem_cons.mpr ⟨xw_c3, List.forall_mem_cons.mpr ⟨xw_c4, List.forall_mem_cons.mpr ⟨xw_c5, List.forall_mem_cons.mpr ⟨xw_c6, List.forall_mem_cons.mpr ⟨xw_c7, List.forall_mem_cons.mpr ⟨xw_c8, List.forall_mem_cons.mpr ⟨xw_c9, List.forall_mem_cons.mpr ⟨xw_c10, List.forall_mem_cons.mpr ⟨xw_c11, fun _ h => absurd h List.not_mem_nil⟩⟩⟩⟩⟩⟩⟩⟩⟩⟩⟩⟩
theorem xGlob_ok : xGlob := fun ci C T N h => xw_cl (C, T, N) (List.mem_of_getElem? h)
theorem xMok_of {M : XM} (h1 : plainName (xmY M).cls = true) (h2 : (xmC M).all (xveB xMs M) = true) : xMok xMs M := ⟨h1, fun e he => xveB_ok xcode_ok (List.all_eq_true.mp h2 e he)⟩
theorem xm0_k : xMok xMs xm0 := xMok_of (by decide +kernel) xm0_a
theorem xm1_k : xMok xMs xm1 := xMok_of (by decide +kernel) xm1_a
theorem xm2_k : xMok xMs xm2 := xMok_of (by decide +kernel) xm2_a
theorem xm3_k : xMok xMs xm3 := xMok_of (by decide +kernel) xm3_a
theorem xm4_k : xMok xMs xm4 := xMok_of (by decide +kernel) xm4_a
theorem xm5_k : xMok xMs xm5 := xMok_of (by decide +kernel) xm5_a
theorem xm6_k : xMok xMs xm6 := xMok_of (by decide +kernel) xm6_a
theorem xm7_k : xMok xMs xm7 := xMok_of (by decide +kernel) xm7_a
theorem xm8_k : xMok xMs xm8 := xMok_of (by decide +kernel) xm8_a
theorem xm9_k : xMok xMs xm9 := xMok_of (by decide +kernel) xm9_a
theorem xm10_k : xMok xMs xm10 := xMok_of (by decide +kernel) xm10_a
theorem xm11_k : xMok xMs xm11 := xMok_of (by decide +kernel) xm11_a
theorem xm12_k : xMok xMs xm12 := xMok_of (by decide +kernel) xm12_a
theorem xm13_k : xMok xMs xm13 := xMok_of (by decide +kernel) xm13_a
theorem xm14_k : xMok xMs xm14 := xMok_of (by decide +kernel) xm14_a
theorem xm15_k : xMok xMs xm15 := xMok_of (by decide +kernel) xm15_a
theorem xm16_k : xMok xMs xm16 := xMok_of (by decide +kernel) xm16_a
theorem xm17_k : xMok xMs xm17 := xMok_of (by decide +kernel) xm17_a
theorem xm18_k : xMok xMs xm18 := xMok_of (by decide +kernel) xm18_a
theorem xm19_k : xMok xMs xm19 := xMok_of (by decide +kernel) xm19_a
theorem xm20_k : xMok xMs xm20 := xMok_of (by decide +kernel) xm20_a
theorem xm21_k : xMok xMs xm21 := xMok_of (by decide +kernel) xm21_a
theorem xm22_k : xMok xMs xm22 := xMok_of (by decide +kernel) xm22_a
theorem xm23_k : xMok xMs xm23 := xMok_of (by decide +kernel) xm23_a
theorem xm24_k : xMok xMs xm24 := xMok_of (by decide +kernel) xm24_a
theorem xm25_k : xMok xMs xm25 := xMok_of (by decide +kernel) xm25_a
theorem xm26_k : xMok xMs xm26 := xMok_of (by decide +kernel) xm26_a
theorem xm27_k : xMok xMs xm27 := xMok_of (by decide +kernel) xm27_a
theorem xm28_k : xMok xMs xm28 := xMok_of (by decide +kernel) xm28_a
theorem xm29_k : xMok xMs xm29 := xMok_of (by decide +kernel) xm29_a
theorem xm30_k : xMok xMs xm30 := xMok_of (by decide +kernel) xm30_a
theorem xm31_k : xMok xMs xm31 := xMok_of (by decide +kernel) xm31_a
theorem xm32_k : xMok xMs xm32 := xMok_of (by decide +kernel) xm32_a
theorem xm33_k : xMok xMs xm33 := xMok_of (by decide +kernel) xm33_a
theorem xm34_k : xMok xMs xm34 := xMok_of (by decide +kernel) xm34_a
theorem xm35_k : xMok xMs xm35 := xMok_of (by decide +kernel) xm35_a
theorem xm36_k : xMok xMs xm36 := xMok_of (by decide +kernel) xm36_a
theorem xm37_k : xMok xMs xm37 := xMok_of (by decide +kernel) xm37_a
theorem xm38_k : xMok xMs xm38 := xMok_of (by decide +kernel) xm38_a
theorem xm39_k : xMok xMs xm39 := xMok_of (by decide +kernel) xm39_a
theorem xm40_k : xMok xMs xm40 := xMok_of (by decide +kernel) xm40_a
theorem xm41_k : xMok xMs xm41 := xMok_of (by decide +kernel) xm41_a
theorem xm42_k : xMok xMs xm42 := xMok_of (by decide +kernel) xm42_a
theorem xm43_k : xMok xMs xm43 := xMok_of (by decide +kernel) xm43_a
theorem xm44_k : xMok xMs xm44 := xMok_of (by decide +kernel) xm44_a
theorem xm45_k : xMok xMs xm45 := xMok_of (by decide +kernel) xm45_a
theorem xm46_k : xMok xMs xm46 := xMok_of (by decide +kernel) xm46_a
theorem xm47_k : xMok xMs xm47 := xMok_of (by decide +kernel) xm47_a
theorem xm48_k : xMok xMs xm48 := xMok_of (by decide +kernel) xm48_a
theorem xm49_k : xMok xMs xm49 := xMok_of (by decide +kernel) xm49_a
theorem xm50_k : xMok xMs xm50 := xMok_of (by decide +kernel) xm50_a
theorem xm51_k : xMok xMs xm51 := xMok_of (by decide +kernel) xm51_a
theorem xm52_k : xMok xMs xm52 := xMok_of (by decide +kernel) xm52_a
theorem xm53_k : xMok xMs xm53 := xMok_of (by decide +kernel) xm53_a
theorem xm54_k : xMok xMs xm54 := xMok_of (by decide +kernel) xm54_a
theorem xm55_k : xMok xMs xm55 := xMok_of (by decide +kernel) xm55_a
theorem xm56_k : xMok xMs xm56 := xMok_of (by decide +kernel) xm56_a
theorem xm57_k : xMok xMs xm57 := xMok_of (by decide +kernel) xm57_a
theorem xm58_k : xMok xMs xm58 := xMok_of (by decide +kernel) xm58_a
theorem xm59_k : xMok xMs xm59 := xMok_of (by decide +kernel) xm59_a
theorem xm60_k : xMok xMs xm60 := xMok_of (by decide +kernel) xm60_a
theorem xm61_k : xMok xMs xm61 := xMok_of (by decide +kernel) xm61_a
theorem xm62_k : xMok xMs xm62 := xMok_of (by decide +kernel) xm62_a
theorem xm63_k : xMok xMs xm63 := xMok_of (by decide +kernel) xm63_a
theorem xm64_k : xMok xMs xm64 := xMok_of (by decide +kernel) xm64_a
theorem xm65_k : xMok xMs xm65 := xMok_of (by decide +kernel) xm65_a
theorem xm66_k : xMok xMs xm66 := xMok_of (by decide +kernel) xm66_a
theorem xm67_k : xMok xMs xm67 := xMok_of (by decide +kernel) xm67_a
theorem xm68_k : xMok xMs xm68 := xMok_of (by decide +kernel) xm68_a
theorem xm69_k : xMok xMs xm69 := xMok_of (by decide +kernel) xm69_a
theorem xm70_k : xMok xMs xm70 := xMok_of (by decide +kernel) xm70_a
theorem xm71_k : xMok xMs xm71 := xMok_of (by decide +kernel) xm71_a
theorem xm72_k : xMok xMs xm72 := xMok_of (by decide +kernel) xm72_a
theorem xm73_k : xMok xMs xm73 := xMok_of (by decide +kernel) xm73_a
theorem xm74_k : xMok xMs xm74 := xMok_of (by decide +kernel) xm74_a
theorem xm75_k : xMok xMs xm75 := xMok_of (by decide +kernel) xm75_a
theorem xm76_k : xMok xMs xm76 := xMok_of (by decide +kernel) xm76_a
theorem xm77_k : xMok xMs xm77 := xMok_of (by decide +kernel) xm77_a
theorem xm78_k : xMok xMs xm78 := xMok_of (by decide +kernel) xm78_a
theorem xm79_k : xMok xMs xm79 := xMok_of (by decide +kernel) xm79_a
theorem xm80_k : xMok xMs xm80 := xMok_of (by decide +kernel) xm80_a
theorem xm81_k : xMok xMs xm81 := xMok_of (by decide +kernel) xm81_a
theorem xm82_k : xMok xMs xm82 := xMok_of (by decide +kernel) xm82_a
theorem xm83_k : xMok xMs xm83 := xMok_of (by decide +kernel) xm83_a
theorem xm84_k : xMok xMs xm84 := xMok_of (by decide +kernel) xm84_a
theorem xm85_k : xMok xMs xm85 := xMok_of (by decide +kernel) xm85_a
theorem xm86_k : xMok xMs xm86 := xMok_of (by decide +kernel) xm86_a
theorem xm87_k : xMok xMs xm87 := xMok_of (by decide +kernel) xm87_a
theorem xm88_k : xMok xMs xm88 := xMok_of (by decide +kernel) xm88_a
theorem xm89_k : xMok xMs xm89 := xMok_of (by decide +kernel) xm89_a
theorem xm90_k : xMok xMs xm90 := xMok_of (by decide +kernel) xm90_a
theorem xm91_k : xMok xMs xm91 := xMok_of (by decide +kernel) xm91_a
theorem xm92_k : xMok xMs xm92 := xMok_of (by decide +kernel) xm92_a
theorem xm93_k : xMok xMs xm93 := xMok_of (by decide +kernel) xm93_a
theorem xm94_k : xMok xMs xm94 := xMok_of (by decide +kernel) xm94_a
theorem xm95_k : xMok xMs xm95 := xMok_of (by decide +kernel) xm95_a
theorem xm96_k : xMok xMs xm96 := xMok_of (by decide +kernel) xm96_a
theorem xm97_k : xMok xMs xm97 := xMok_of (by decide +kernel) xm97_a
theorem xm98_k : xMok xMs xm98 := xMok_of (by decide +kernel) xm98_a
theorem xm99_k : xMok xMs xm99 := xMok_of (by decide +kernel) xm99_a
theorem xm100_k : xMok xMs xm100 := xMok_of (by decide +kernel) xm100_a
theorem xm101_k : xMok xMs xm101 := xMok_of (by decide +kernel) xm101_a
theorem xm102_k : xMok xMs xm102 := xMok_of (by decide +kernel) xm102_a
theorem xm103_k : xMok xMs xm103 := xMok_of (by decide +kernel) xm103_a
theorem xm104_k : xMok xMs xm104 := xMok_of (by decide +kernel) xm104_a
theorem xm105_k : xMok xMs xm105 := xMok_of (by decide +kernel) xm105_a
theorem xm106_k : xMok xMs xm106 := xMok_of (by decide +kernel) xm106_a
theorem xm107_k : xMok xMs xm107 := xMok_of (by decide +kernel) xm107_a
theorem xm108_k : xMok xMs xm108 := xMok_of (by decide +kernel) xm108_a
theorem xm109_k : xMok xMs xm109 := xMok_of (by decide +kernel) xm109_a
theorem xm110_k : xMok xMs xm110 := xMok_of (by decide +kernel) xm110_a
theorem xm111_k : xMok xMs xm111 := xMok_of (by decide +kernel) xm111_a
theorem xm112_k : xMok xMs xm112 := xMok_of (by decide +kernel) xm112_a
theorem xm113_k : xMok xMs xm113 := xMok_of (by decide +kernel) xm113_a
theorem xm114_k : xMok xMs xm114 := xMok_of (by decide +kernel) xm114_a
theorem xm115_k : xMok xMs xm115 := xMok_of (by decide +kernel) xm115_a
theorem xm116_k : xMok xMs xm116 := xMok_of (by decide +kernel) xm116_a
theorem xm117_k : xMok xMs xm117 := xMok_of (by decide +kernel) xm117_a
theorem xm118_k : xMok xMs xm118 := xMok_of (by decide +kernel) xm118_a
theorem xm119_k : xMok xMs xm119 := xMok_of (by decide +kernel) xm119_a
theorem xm120_k : xMok xMs xm120 := xMok_of (by decide +kernel) xm120_a
theorem xm121_k : xMok xMs xm121 := xMok_of (by decide +kernel) xm121_a
theorem xm122_k : xMok xMs xm122 := xMok_of (by decide +kernel) xm122_a
theorem xm123_k : xMok xMs xm123 := xMok_of (by decide +kernel) xm123_a
theorem xm124_k : xMok xMs xm124 := xMok_of (by decide +kernel) xm124_a
theorem xm125_k : xMok xMs xm125 := xMok_of (by decide +kernel) xm125_a
theorem xm126_k : xMok xMs xm126 := xMok_of (by decide +kernel) xm126_a
theorem xm127_k : xMok xMs xm127 := xMok_of (by decide +kernel) xm127_a
theorem xm128_k : xMok xMs xm128 := xMok_of (by decide +kernel) xm128_a
theorem xm129_k : xMok xMs xm129 := xMok_of (by decide +kernel) xm129_a
theorem xm130_k : xMok xMs xm130 := xMok_of (by decide +kernel) xm130_a
theorem xm131_k : xMok xMs xm131 := xMok_of (by decide +kernel) xm131_a
theorem xm132_k : xMok xMs xm132 := xMok_of (by decide +kernel) xm132_a
theorem xm133_k : xMok xMs xm133 := xMok_of (by decide +kernel) xm133_a
theorem xm134_k : xMok xMs xm134 := xMok_of (by decide +kernel) xm134_a
theorem xm135_k : xMok xMs xm135 := xMok_of (by decide +kernel) xm135_a
theorem xm136_k : xMok xMs xm136 := xMok_of (by decide +kernel) xm136_a
theorem xm137_k : xMok xMs xm137 := xMok_of (by decide +kernel) xm137_a
theorem xm138_k : xMok xMs xm138 := xMok_of (by decide +kernel) xm138_a
theorem xm139_k : xMok xMs xm139 := xMok_of (by decide +kernel) xm139_a
theorem xm140_k : xMok xMs xm140 := xMok_of (by decide +kernel) xm140_a
theorem xm141_k : xMok xMs xm141 := xMok_of (by decide +kernel) xm141_a
set_option maxRecDepth 20000 in
theorem xMs_ok : ∀ M ∈ xMs, xMok xMs M := by
  unfold xMs
  exact List.forall_mem_cons.mpr ⟨xm0_k, List.forall_mem_cons.mpr ⟨xm1_k, List.forall_mem_cons.mpr ⟨xm2_k, List.forall_mem_cons.mpr ⟨xm3_k, List.forall_mem_cons.mpr ⟨xm4_k, List.forall_mem_cons.mpr ⟨xm5_k, List.forall_mem_cons.mpr ⟨xm6_k, List.forall_mem_cons.mpr ⟨xm7_k, List.forall_mem_cons.mpr ⟨xm8_k, List.forall_mem_cons.mpr ⟨xm9_k, List.forall_mem_cons.mpr ⟨xm10_k, List.forall_mem_cons.mpr ⟨xm11_k, List.forall_mem_cons.mpr ⟨xm12_k, List.forall_mem_cons.mpr ⟨xm13_k, List.forall_mem_cons.mpr ⟨xm14_k, List.forall_mem_cons.mpr ⟨xm15_k, List.forall_mem_cons.mpr ⟨xm16_k, List.forall_mem_cons.mpr ⟨xm17_k, List.forall_mem_cons.mpr ⟨xm18_k, List.forall_mem_cons.mpr ⟨xm19_k, List.forall_mem_cons.mpr ⟨xm20_k, List.forall_mem_cons.mpr ⟨xm21_k, List.forall_mem_cons.mpr ⟨xm22_k, List.forall_mem_cons.mpr ⟨xm23_k, List.forall_mem_cons.mpr ⟨xm24_k, List.forall_mem_cons.mpr ⟨xm25_k, List.forall_mem_cons.mpr ⟨xm26_k, List.forall_mem_cons.mpr ⟨xm27_k, List.forall_mem_cons.mpr ⟨xm28_k, List.forall_mem_cons.mpr ⟨xm29_k, List.forall_mem_cons.mpr ⟨xm30_k, List.forall_mem_cons.mpr ⟨xm31_k, List.forall_mem_cons.mpr ⟨xm32_k, List.forall_mem_cons.mpr ⟨xm33_k, List.forall_mem_cons.mpr ⟨xm34_k, List.forall_mem_cons.mpr ⟨xm35_k, List.forall_mem_cons.mpr ⟨xm36_k, List.forall_mem_cons.mpr ⟨xm37_k, List.forall_mem_cons.mpr ⟨xm38_k, List.forall_mem_cons.mpr ⟨xm39_k, List.forall_mem_cons.mpr ⟨xm40_k, List.forall_mem_cons.mpr ⟨xm41_k, List.forall_mem_cons.mpr ⟨xm42_k, List.forall_mem_cons.mpr ⟨xm43_k, List.forall_mem_cons.mpr ⟨xm44_k, List.forall_mem_cons.mpr ⟨xm45_k, List.forall_mem_cons.mpr ⟨xm46_k, List.forall_mem_cons.mpr ⟨xm47_k, List.forall_mem_cons.mpr ⟨xm48_k, List.forall_mem_cons.mpr ⟨xm49_k, List.forall_mem_cons.mpr ⟨xm50_k, List.forall_mem_cons.mpr ⟨xm51_k, List.forall_mem_cons.mpr ⟨xm52_k, List.forall_mem_cons.mpr ⟨xm53_k, List.forall_mem_cons.mpr ⟨xm54_k, List.forall_mem_cons.mpr ⟨xm55_k, List.forall_mem_cons.mpr ⟨xm56_k, List.forall_mem_cons.mpr ⟨xm57_k, List.forall_mem_cons.mpr ⟨xm58_k, List.forall_mem_cons.mpr ⟨xm59_k, List.forall_mem_cons.mpr ⟨xm60_k, List.forall_mem_cons.mpr ⟨xm61_k, List.forall_mem_cons.mpr ⟨xm62_k, List.forall_mem_cons.mpr ⟨xm63_k, List.forall_mem_cons.mpr ⟨xm64_k, List.forall_mem_cons.mpr ⟨xm65_k, List.forall_mem_cons.mpr ⟨xm66_k, List.forall_mem_cons.mpr ⟨xm67_k, List.forall_mem_cons.mpr ⟨xm68_k, List.forall_mem_cons.mpr ⟨xm69_k, List.forall_mem_cons.mpr ⟨xm70_k, List.forall_mem_cons.mpr ⟨xm71_k, List.forall_mem_cons.mpr ⟨xm72_k, List.forall_mem_cons.mpr ⟨xm73_k, List.forall_mem_cons.mpr ⟨xm74_k, List.forall_mem_cons.mpr ⟨xm75_k, List.forall_mem_cons.mpr ⟨xm76_k, List.forall_mem_cons.mpr ⟨xm77_k, List.forall_mem_cons.mpr ⟨xm78_k, List.forall_mem_cons.mpr ⟨xm79_k, List.forall_mem_cons.mpr ⟨xm80_k, List.forall_mem_cons.mpr ⟨xm81_k, List.forall_mem_cons.mpr ⟨xm82_k, List.forall_mem_cons.mpr ⟨xm83_k, List.forall_mem_cons.mpr ⟨xm84_k, List.forall_mem_cons.mpr ⟨xm85_k, List.forall_mem_cons.mpr ⟨xm86_k, List.forall_mem_cons.mpr ⟨xm87_k, List.forall_mem_cons.mpr ⟨xm88_k, List.forall_mem_cons.mpr ⟨xm89_k, List.forall_mem_cons.mpr ⟨xm90_k, List.forall_mem_cons.mpr ⟨xm91_k, List.forall_mem_cons.mpr ⟨xm92_k, List.forall_mem_cons.mpr ⟨xm93_k, List.forall_mem_cons.mpr ⟨xm94_k, List.forall_mem_cons.mpr ⟨xm95_k, List.forall_mem_cons.mpr ⟨xm96_k, List.forall_mem_cons.mpr ⟨xm97_k, List.forall_mem_cons.mpr ⟨xm98_k, List.forall_mem_cons.mpr ⟨xm99_k, List.forall_mem_cons.mpr ⟨xm100_k, List.forall_mem_cons.mpr ⟨xm101_k, List.forall_mem_cons.mpr ⟨xm102_k, List.forall_mem_cons.mpr ⟨xm103_k, List.forall_mem_cons.mpr ⟨xm104_k, List.forall_mem_cons.mpr ⟨xm105_k, List.forall_mem_cons.mpr ⟨xm106_k, List.forall_mem_cons.mpr ⟨xm107_k, List.forall_mem_cons.mpr ⟨xm108_k, List.forall_mem_cons.mpr ⟨xm109_k, List.forall_mem_cons.mpr ⟨xm110_k, List.forall_mem_cons.mpr ⟨xm111_k, List.forall_mem_cons.mpr ⟨xm112_k, List.forall_mem_cons.mpr ⟨xm113_k, List.forall_mem_cons.mpr ⟨xm114_k, List.forall_mem_cons.mpr ⟨xm115_k, List.forall_mem_cons.mpr ⟨xm116_k, List.forall_mem_cons.mpr ⟨xm117_k, List.forall_mem_cons.mpr ⟨xm118_k, List.forall_mem_cons.mpr ⟨xm119_k, List.forall_mem_cons.mpr ⟨xm120_k, List.forall_mem_cons.mpr ⟨xm121_k, List.forall_mem_cons.mpr ⟨xm122_k, List.forall_mem_cons.mpr ⟨xm123_k, List.forall_mem_cons.mpr ⟨xm124_k, List.forall_mem_cons.mpr ⟨xm125_k, List.forall_mem_cons.mpr ⟨xm126_k, List.forall_mem_cons.mpr ⟨xm127_k, List.forall_mem_cons.mpr ⟨xm128_k, List.forall_mem_cons.mpr ⟨xm129_k, List.forall_mem_cons.mpr ⟨xm130_k, List.forall_mem_cons.mpr ⟨xm131_k, List.forall_mem_cons.mpr ⟨xm132_k, List.forall_mem_cons.mpr ⟨xm133_k, List.forall_mem_cons.mpr ⟨xm134_k, List.forall_mem_cons.mpr ⟨xm135_k, List.forall_mem_cons.mpr ⟨xm136_k, List.forall_mem_cons.mpr ⟨xm137_k, List.forall_mem_cons.mpr ⟨xm138_k, List.forall_mem_cons.mpr ⟨xm139_k, List.forall_mem_cons.mpr ⟨xm140_k, List.forall_mem_cons.mpr ⟨xm141_k, fun _ h => absurd h List.not_mem_nil⟩⟩⟩⟩⟩⟩⟩⟩⟩⟩⟩⟩⟩⟩⟩⟩⟩⟩⟩⟩⟩⟩⟩⟩⟩⟩⟩⟩⟩⟩⟩⟩⟩⟩⟩⟩⟩⟩⟩⟩⟩⟩⟩⟩⟩⟩⟩⟩⟩⟩⟩⟩⟩⟩⟩⟩⟩⟩⟩⟩⟩⟩⟩⟩⟩⟩⟩⟩⟩⟩⟩⟩⟩⟩⟩⟩⟩⟩⟩⟩⟩⟩⟩⟩⟩⟩⟩⟩⟩⟩⟩⟩⟩⟩⟩⟩⟩⟩⟩⟩⟩⟩⟩⟩⟩⟩⟩⟩⟩⟩⟩⟩⟩⟩⟩⟩⟩⟩⟩⟩⟩⟩⟩⟩⟩⟩⟩⟩⟩⟩⟩⟩⟩⟩⟩⟩⟩⟩⟩⟩⟩⟩
theorem xlwc_ok : ∀ e ∈ xmC xLaw, xVE xMs xLaw e := by
  show ∀ e ∈ xlwc, xVE xMs xLaw e
  unfold xlwc
  exact List.forall_mem_append.mpr ⟨fun e he => xveB_ok xcode_ok (List.all_eq_true.mp xlw0_a e he), List.forall_mem_append.mpr ⟨fun e he => xveB_ok xcode_ok (List.all_eq_true.mp xlw1_a e he), List.forall_mem_append.mpr ⟨fun e he => xveB_ok xcode_ok (List.all_eq_true.mp xlw2_a e he), List.forall_mem_append.mpr ⟨fun e he => xveB_ok xcode_ok (List.all_eq_true.mp xlw3_a e he), List.forall_mem_append.mpr ⟨fun e he => xveB_ok xcode_ok (List.all_eq_true.mp xlw4_a e he), List.forall_mem_append.mpr ⟨fun e he => xveB_ok xcode_ok (List.all_eq_true.mp xlw5_a e he), fun e he => xveB_ok xcode_ok (List.all_eq_true.mp xlw6_a e he)⟩⟩⟩⟩⟩⟩
end XG
end
section
/-! runs as propositions: 'Go', from here the run comes to one end with Q; 'Ret', the method answers so -/
section XI9
def c0 : Nat → Nat := fun _ => 0
def Go (S : Option (Nat × (Nat → Int32))) (M : XM) (pc : Nat) (lv : XL) (st : List Value) (σ : XS) (Q : XLf → Prop) : Prop :=
  ∃ lf : XLf, Q lf ∧ ∃ f0 d0 F0 : Nat, ∀ f d F : Nat, f0 ≤ f → d0 ≤ d → F0 ≤ F → xrun xMs c0 S M (xmeth xMs c0 S F d) f (xfind (xmC M) pc) lv st σ = some [lf]
def Ret (S : Option (Nat × (Nat → Int32))) (k : Nat) (as : List Value) (h : XH) (n : Nat) (v : Option Value) (h' : XH) (n' : Nat) : Prop :=
  ∃ d0 F0 : Nat, ∀ d F : Nat, d0 ≤ d → F0 ≤ F → xmeth xMs c0 S F d k as [] h n = some [(0, v, [], h', n')]
def yrow (M : XM) (pc : Nat) : Option XI := (xfind (xmC M) pc).head?
theorem yrow_cons {M : XM} {pc : Nat} {e : XI} (h : yrow M pc = some e) : ∃ t, xfind (xmC M) pc = e :: t := by
  unfold yrow at h
  cases hc : xfind (xmC M) pc with
  | nil => rw [hc] at h; cases h
  | cons a t =>
    rw [hc] at h
    cases h
    exact ⟨t, rfl⟩
section
variable {S : Option (Nat × (Nat → Int32))} {M : XM} {pc pc' : Nat} {lv lv' : XL} {st st' : List Value} {σ σ' : XS} {Q : XLf → Prop}
theorem xall_one {α β : Type} (f : α → Option (List β)) (a : α) : xall f [a] = f a := by
  show (match f a with
    | none => none
    | some r => (match xall f [] with
      | none => none
      | some q => some (r ++ q))) = f a
  cases h : f a with
  | none => rfl
  | some r => exact congrArg some (List.append_nil r)
/-- one row -/
theorem Go_step (h : ∀ (cf : XCf) (f : Nat), xrun xMs c0 S M cf (f + 1) (xfind (xmC M) pc) lv st σ = xrun xMs c0 S M cf f (xfind (xmC M) pc') lv' st' σ') : Go S M pc lv st σ Q = Go S M pc' lv' st' σ' Q := by
  refine propext ⟨fun ⟨lf, hq, f0, d0, F0, hr⟩ => ⟨lf, hq, f0, d0, F0, fun f d F h1 h2 h3 => ?_⟩, fun ⟨lf, hq, f0, d0, F0, hr⟩ => ⟨lf, hq, f0 + 1, d0, F0, fun f d F h1 h2 h3 => ?_⟩⟩
  · rw [← h]
    exact hr (f + 1) d F (by omega) h2 h3
  · obtain ⟨g, rfl⟩ : ∃ g, f = g + 1 := ⟨f - 1, by omega⟩
    rw [h]
    exact hr g d F (by omega) h2 h3
theorem Go_none (h : ∀ (cf : XCf) (f : Nat), xrun xMs c0 S M cf (f + 1) (xfind (xmC M) pc) lv st σ = none) : Go S M pc lv st σ Q = False := by
  refine propext ⟨fun ⟨lf, hq, f0, d0, F0, hr⟩ => ?_, fun z => z.elim⟩
  have := hr (f0 + 1) d0 F0 (by omega) (Nat.le_refl _) (Nat.le_refl _)
  rw [h] at this
  cases this
theorem xrun_row {cf : XCf} {f : Nat} {e : XI} (h : yrow M pc = some e) : ∃ t, xrun xMs c0 S M cf (f + 1) (xfind (xmC M) pc) lv st σ = xbody xMs c0 S M cf (xrun xMs c0 S M cf f) (e :: t) lv st σ := by
  obtain ⟨t, ht⟩ := yrow_cons h
  exact ⟨t, by rw [ht]; rfl⟩
/-- a row of the method's own numbers -/
theorem Go_simple {i : Instr} {aux : List Nat} (hr : yrow M pc = some (pc, i, 0, aux)) {q : XL × List Value} (hq : xsimple (xmN M) i aux lv st = some q) : Go S M pc lv st σ Q = Go S M (pc + ilen i) q.1 q.2 σ Q := by
  refine Go_step fun cf f => ?_
  obtain ⟨t, ht⟩ := xrun_row (S := S) (lv := lv) (st := st) (σ := σ) (cf := cf) (f := f) hr
  rw [ht]
  unfold xbody
  dsimp only
  rw [hq]
  rfl
/-- a row that touches cells -/
theorem Go_heap {i : Instr} {aux : List Nat} (hr : yrow M pc = some (pc, i, 1, aux)) {q : List Value × XS} (hq : xheap S (xmR M) i aux lv st σ = some q) : Go S M pc lv st σ Q = Go S M (pc + ilen i) lv q.1 q.2 Q := by
  refine Go_step fun cf f => ?_
  obtain ⟨t, ht⟩ := xrun_row (S := S) (lv := lv) (st := st) (σ := σ) (cf := cf) (f := f) hr
  rw [ht]
  unfold xbody
  dsimp only
  rw [hq]
  rfl
/-- a branch that is decided -/
theorem Go_branch {i : Instr} {aux : List Nat} (hr : yrow M pc = some (pc, i, 2, aux)) {q : Nat × List Value × XP} (hq : xbranch σ.2.1 pc i st σ.1 = some [q]) : Go S M pc lv st σ Q = Go S M q.1 lv q.2.1 (q.2.2, σ.2) Q := by
  refine Go_step fun cf f => ?_
  obtain ⟨t, ht⟩ := xrun_row (S := S) (lv := lv) (st := st) (σ := σ) (cf := cf) (f := f) hr
  rw [ht]
  unfold xbody
  dsimp only
  rw [hq]
  exact xall_one _ _
def xcmp (cd : ClassFile.Cond) (x y : Int32) : Prop :=
  match cd with
  | .eq => x = y
  | .ne => ¬ x = y
  | .lt => x < y
  | .ge => y ≤ x
  | .gt => y < x
  | .le => x ≤ y
theorem xcmp_t {cd : ClassFile.Cond} {x y : Int32} (h : xcmp cd x y) : xprop cd x y = true := by
  cases cd <;> simp [xcmp, xprop] at h ⊢ <;> exact h
theorem xcmp_f {cd : ClassFile.Cond} {x y : Int32} (h : ¬ xcmp cd x y) : xprop cd x y = false := by
  cases cd <;> simp [xcmp, xprop] at h ⊢ <;> exact h
theorem Go_icmp {cd : ClassFile.Cond} {off : Int} {aux : List Nat} {t : Nat} {x y : Int32} {σ2 : XH × Nat × Nat × Nat} (hr : yrow M pc = some (pc, .if_icmp cd off, 2, aux)) (ht : xtgt pc off = some t) (h1 : xcmp cd x y → Go S M t lv st ([], σ2) Q) (h2 : ¬ xcmp cd x y → Go S M (pc + 3) lv st ([], σ2) Q) : Go S M pc lv (.int y :: .int x :: st) ([], σ2) Q := by
  have hq : xbranch σ2.1 pc (.if_icmp cd off) (.int y :: .int x :: st) [] = some [(bif xprop cd x y then t else pc + 3, st, [])] := by
    show xjump pc off st (some [(xprop cd x y, [])]) = _
    unfold xjump
    rw [ht]
    rfl
  rw [Go_branch (σ := ([], σ2)) hr hq]
  by_cases hc : xcmp cd x y
  · rw [xcmp_t hc]
    exact h1 hc
  · rw [xcmp_f hc]
    exact h2 hc
theorem Go_if {cd : ClassFile.Cond} {off : Int} {aux : List Nat} {t : Nat} {x : Int32} {σ2 : XH × Nat × Nat × Nat} (hr : yrow M pc = some (pc, .ifCond cd off, 2, aux)) (ht : xtgt pc off = some t) (h1 : xcmp cd x 0 → Go S M t lv st ([], σ2) Q) (h2 : ¬ xcmp cd x 0 → Go S M (pc + 3) lv st ([], σ2) Q) : Go S M pc lv (.int x :: st) ([], σ2) Q := by
  have hq : xbranch σ2.1 pc (.ifCond cd off) (.int x :: st) [] = some [(bif xprop cd x 0 then t else pc + 3, st, [])] := by
    show xjump pc off st (some [(xprop cd x 0, [])]) = _
    unfold xjump
    rw [ht]
    rfl
  rw [Go_branch (σ := ([], σ2)) hr hq]
  by_cases hc : xcmp cd x 0
  · rw [xcmp_t hc]
    exact h1 hc
  · rw [xcmp_f hc]
    exact h2 hc
theorem Go_get {idx ci k o n ce sl : Nat} {tl : List Nat} {h : XH} {fs : List Value} {v : Value} (hr : yrow M pc = some (pc, .getfield idx, 1, ci :: k :: tl)) (hk : xhk h o = some (false, ci, fs)) (hv : xnth fs k = some v)
    (kk : Go S M (pc + 3) lv (v :: st) ([], h, n, ce, sl) Q) : Go S M pc lv (.ref o :: st) ([], h, n, ce, sl) Q := by
  have hq : xheap S (xmR M) (.getfield idx) (ci :: k :: tl) lv (.ref o :: st) ([], h, n, ce, sl) = some (v :: st, ([], h, n, ce, sl)) := by
    show xget (ci :: k :: tl) (.ref o :: st) ([], h, n, ce, sl) = _
    unfold xget
    dsimp only
    rw [hk]
    dsimp only
    rw [Nat.beq_refl, hv]
    rfl
  rw [Go_heap hr hq]
  exact kk
theorem Go_put {idx ci k o n ce sl : Nat} {tl : List Nat} {h : XH} {fs : List Value} {v : Value} (hr : yrow M pc = some (pc, .putfield idx, 1, ci :: k :: tl)) (hk : xhk h o = some (false, ci, fs)) (hf : xfit (xTy ci k) v = true) (hl : Nat.ble (k + 1) fs.length = true)
    (kk : Go S M (pc + 3) lv st ([], xhs h o (false, ci, xset fs k v), n, ce, sl) Q) : Go S M pc lv (v :: .ref o :: st) ([], h, n, ce, sl) Q := by
  have hq : xheap S (xmR M) (.putfield idx) (ci :: k :: tl) lv (v :: .ref o :: st) ([], h, n, ce, sl) = some (st, ([], xhs h o (false, ci, xset fs k v), n, ce, sl)) := by
    show xput (ci :: k :: tl) (v :: .ref o :: st) ([], h, n, ce, sl) = _
    unfold xput
    dsimp only
    rw [hk]
    dsimp only
    rw [Nat.beq_refl, hf, hl]
    rfl
  rw [Go_heap hr hq]
  exact kk
theorem Go_len {o n ce sl ti : Nat} {aux : List Nat} {h : XH} {vs : List Value} (hr : yrow M pc = some (pc, .arraylength, 1, aux)) (hk : xhk h o = some (true, ti, vs)) (ht : Nat.ble ti 8 = true)
    (kk : Go S M (pc + 1) lv (.int (Int32.ofNat vs.length) :: st) ([], h, n, ce, sl) Q) : Go S M pc lv (.ref o :: st) ([], h, n, ce, sl) Q := by
  have hq : xheap S (xmR M) .arraylength aux lv (.ref o :: st) ([], h, n, ce, sl) = some (.int (Int32.ofNat vs.length) :: st, ([], h, n, ce, sl)) := by
    show xlen S (.ref o :: st) ([], h, n, ce, sl) = _
    unfold xlen
    dsimp only
    rw [hk]
    dsimp only
    rw [ht]
    rfl
  rw [Go_heap hr hq]
  exact kk
theorem xix_nI {j N : Nat} (hj : j < N) (hN : N ≤ 2147483648) : xix (nI j) N = some j := by
  unfold xix
  have h1 : ¬ nI j < 0 := nI_pos (by omega)
  rw [decide_eq_false h1, nI_clamp (by omega)]
  show (bif Nat.ble (j + 1) N then some j else none) = _
  rw [Nat.ble_eq_true_of_le hj]
  rfl
theorem xald_at {ok : Value → Bool} {oti : Nat → Bool} {o ti j : Nat} {σ : XS} {vs : List Value} {v : Value} (hk : xhk σ.2.1 o = some (true, ti, vs)) (ht : oti ti = true) (hj : j < vs.length) (hN : vs.length ≤ 2147483648) (hv : vs[j]? = some v) (ho : ok v = true) : xald ok oti (.int (nI j) :: .ref o :: st) σ = some (v :: st, σ) := by
  unfold xald
  dsimp only
  rw [hk]
  dsimp only
  rw [ht, xix_nI hj hN]
  show (match xnth vs j with
    | some v => bif ok v then some (v :: st, σ) else none
    | none => none) = _
  rw [xnth_eq, hv]
  dsimp only
  rw [ho]
  rfl
theorem xast_at {ok : Value → Bool} {oti : Nat → Bool} {o ti j : Nat} {σ : XS} {vs : List Value} {v : Value} (hk : xhk σ.2.1 o = some (true, ti, vs)) (ht : oti ti = true) (hj : j < vs.length) (hN : vs.length ≤ 2147483648) (ho : ok v = true) : xast ok oti (v :: .int (nI j) :: .ref o :: st) σ = some (st, (σ.1, xhs σ.2.1 o (true, ti, vs.set j v), σ.2.2)) := by
  unfold xast
  dsimp only
  rw [hk]
  dsimp only
  rw [ht, ho, xix_nI hj hN]
  show some (st, (σ.1, xhs σ.2.1 o (true, ti, xset vs j v), σ.2.2)) = _
  rw [xset_eq]
theorem Go_aald {o n ce sl ti j : Nat} {aux : List Nat} {h : XH} {vs : List Value} {v : Value} (hr : yrow M pc = some (pc, .aaload, 1, aux)) (hk : xhk h o = some (true, ti, vs)) (ht : (Nat.ble 3 ti && Nat.ble ti 8) = true) (hj : j < vs.length) (hN : vs.length ≤ 2147483648) (hv : vs[j]? = some v) (ho : xref v = true)
    (kk : Go S M (pc + 1) lv (v :: st) ([], h, n, ce, sl) Q) : Go S M pc lv (.int (nI j) :: .ref o :: st) ([], h, n, ce, sl) Q := by
  rw [Go_heap hr (show xheap S (xmR M) .aaload aux lv (.int (nI j) :: .ref o :: st) ([], h, n, ce, sl) = _ from xald_at (σ := ([], h, n, ce, sl)) hk ht hj hN hv ho)]
  exact kk
theorem Go_iald {o n ce sl j : Nat} {aux : List Nat} {h : XH} {vs : List Value} {x : Int32} (hr : yrow M pc = some (pc, .iaload, 1, aux)) (hk : xhk h o = some (true, 0, vs)) (hj : j < vs.length) (hN : vs.length ≤ 2147483648) (hv : vs[j]? = some (.int x))
    (kk : Go S M (pc + 1) lv (.int x :: st) ([], h, n, ce, sl) Q) : Go S M pc lv (.int (nI j) :: .ref o :: st) ([], h, n, ce, sl) Q := by
  have e : xild S (.int (nI j) :: .ref o :: st) ([], h, n, ce, sl) = some (.int x :: st, ([], h, n, ce, sl)) := by
    show xald xint (fun ti => Nat.beq ti 0) (.int (nI j) :: .ref o :: st) ([], h, n, ce, sl) = _
    exact xald_at (σ := ([], h, n, ce, sl)) hk rfl hj hN hv rfl
  rw [Go_heap hr (show xheap S (xmR M) .iaload aux lv (.int (nI j) :: .ref o :: st) ([], h, n, ce, sl) = _ from e)]
  exact kk
theorem Go_iast {o n ce sl j : Nat} {aux : List Nat} {h : XH} {vs : List Value} {x : Int32} (hr : yrow M pc = some (pc, .iastore, 1, aux)) (hk : xhk h o = some (true, 0, vs)) (hj : j < vs.length) (hN : vs.length ≤ 2147483648)
    (kk : Go S M (pc + 1) lv st ([], xhs h o (true, 0, vs.set j (.int x)), n, ce, sl) Q) : Go S M pc lv (.int x :: .int (nI j) :: .ref o :: st) ([], h, n, ce, sl) Q := by
  rw [Go_heap hr (show xheap S (xmR M) .iastore aux lv (.int x :: .int (nI j) :: .ref o :: st) ([], h, n, ce, sl) = _ from xast_at (σ := ([], h, n, ce, sl)) hk rfl hj hN rfl)]
  exact kk
/-- an end -/
theorem Go_end {i : Instr} {aux : List Nat} (hr : yrow M pc = some (pc, i, 4, aux)) (hq : Q (0, 0, (pc, i, 4, aux), lv, st, σ)) : Go S M pc lv st σ Q := by
  refine ⟨_, hq, 1, 0, 0, fun f d F h1 _ _ => ?_⟩
  obtain ⟨g, rfl⟩ : ∃ g, f = g + 1 := ⟨f - 1, by omega⟩
  obtain ⟨t, ht⟩ := xrun_row (S := S) (lv := lv) (st := st) (σ := σ) (cf := xmeth xMs c0 S F d) (f := g) hr
  rw [ht]
  rfl
/-- a call that is known -/
theorem Go_call {i : Instr} {mode k ci : Nat} {tl : List Nat} {Y : XM} {h h' : XH} {n n' ce sl : Nat} {v : Option Value} (hr : yrow M pc = some (pc, i, 3, mode :: k :: ci :: tl)) (hY : xnth xMs k = some Y)
    (hchk : (Nat.ble (xmA Y) st.length && (Nat.ble (xcats (st.drop (xmA Y))) 8 && (Nat.ble ((xmR Y).frames + 1) (xmR M).frames && (Nat.ble (8 + (xmN Y + 11) + (xmR Y).locals) (xmR M).locals && (Nat.ble (ce + (xmR Y).cells) (xmR M).cells && (Nat.ble (sl + (xmR Y).slots) (xmR M).slots && xrecv (xmode mode) ci (st.take (xmA Y)).reverse h)))))) = true)
    (hm : Ret S k (st.take (xmA Y)).reverse h n v h' n') (kk : Go S M (pc + 3) lv (v.toList ++ st.drop (xmA Y)) ([], h', n', ce + (xmR Y).cells, sl + (xmR Y).slots) Q) : Go S M pc lv st ([], h, n, ce, sl) Q := by
  obtain ⟨lf, hq, f0, d0, F0, hr2⟩ := kk
  obtain ⟨d1, F1, hm⟩ := hm
  refine ⟨lf, hq, f0 + 1, max d0 d1, max F0 F1, fun f d F h1 h2 h3 => ?_⟩
  obtain ⟨g, rfl⟩ : ∃ g, f = g + 1 := ⟨f - 1, by omega⟩
  obtain ⟨t, ht⟩ := xrun_row (S := S) (lv := lv) (st := st) (σ := ([], h, n, ce, sl)) (cf := xmeth xMs c0 S F d) (f := g) hr
  rw [ht]
  have e1 := hm d F (by omega) (by omega)
  have e2 := hr2 g d F (by omega) (by omega) (by omega)
  show xcall xMs c0 M (xmeth xMs c0 S F d) (xrun xMs c0 S M (xmeth xMs c0 S F d) g) (pc, i, 3, mode :: k :: ci :: tl) t lv st ([], h, n, ce, sl) = some [lf]
  unfold xcall
  dsimp only
  rw [hY]
  dsimp only
  rw [hchk]
  simp only [cond_true]
  rw [e1]
  dsimp only
  rw [xall_one]
  exact e2
end
/-- a method's answer out of its run -/
theorem Ret_of {S : Option (Nat × (Nat → Int32))} {k : Nat} {as : List Value} {h h' : XH} {n n' : Nat} {v : Option Value} {M : XM} (hM : xnth xMs k = some M) (hc : Nat.ble (xcats as) (xmN M) = true)
    (hg : Go S M 0 (lv_args 0 as) [] ([], h, n, 0, 0) (fun lf => xend M lf = some (0, v, [], h', n'))) : Ret S k as h n v h' n' := by
  obtain ⟨lf, hq, f0, d0, F0, hr⟩ := hg
  refine ⟨d0 + 1, max F0 f0, fun d F h1 h2 => ?_⟩
  obtain ⟨g, rfl⟩ : ∃ g, d = g + 1 := ⟨d - 1, by omega⟩
  show (match xnth xMs k with
    | none => none
    | some M => bif Nat.ble (xcats as) (xmN M) then (match xrun xMs c0 S M (xmeth xMs c0 S F g) F (xfind (xmC M) 0) (lv_args 0 as) [] ([], h, n, 0, 0) with
      | some ls => xends M ls
      | none => none) else none) = _
  rw [hM]
  dsimp only
  rw [hc, hr F g F (by omega) (by omega) (by omega)]
  show xends M [lf] = _
  unfold xends
  rw [hq]
  rfl
end XI9
end
section
/-! runs over heaps as functions (printed by wip/p46/gen20.py) -/
section XJ0
abbrev HF : Type := Nat → Option XCl
abbrev zI (z : Int) : Int32 := Int32.ofInt z
def hup (H : HF) (i : Nat) (c : XCl) : HF := fun o => if o = i then some c else H o
theorem upd_eq (H : HF) (i : Nat) (c : XCl) : hup H i c i = some c := if_pos rfl
theorem upd_ne (H : HF) {o i : Nat} (c : XCl) (h : ¬ o = i) : hup H i c o = H o := if_neg h
theorem upd_upd (H : HF) (i : Nat) (c d : XCl) : hup (hup H i c) i d = hup H i d := by
  funext o
  by_cases h : o = i
  · subst h
    rw [upd_eq, upd_eq]
  · rw [upd_ne _ _ h, upd_ne _ _ h, upd_ne _ _ h]
theorem upd_self {H : HF} {i : Nat} {c : XCl} (h : H i = some c) : hup H i c = H := by
  funext o
  by_cases e : o = i
  · subst e
    rw [upd_eq, h]
  · rw [upd_ne _ _ e]
theorem upd_comm (H : HF) {i j : Nat} (c d : XCl) (h : ¬ i = j) : hup (hup H i c) j d = hup (hup H j d) i c := by
  funext o
  by_cases e : o = i
  · subst e
    rw [upd_ne _ _ h, upd_eq, upd_eq]
  · by_cases e2 : o = j
    · subst e2
      rw [upd_eq, upd_ne _ _ e, upd_eq]
    · rw [upd_ne _ _ e2, upd_ne _ _ e, upd_ne _ _ e, upd_ne _ _ e2]
def Frs (H : HF) (n : Nat) : Prop := ∀ o, n ≤ o → H o = none
theorem Fr_lt {H : HF} {n i : Nat} {c : XCl} (hf : Frs H n) (hk : H i = some c) : i < n := by
  rcases Nat.lt_or_ge i n with h | h
  · exact h
  · rw [hf i h] at hk
    cases hk
theorem Fr_upd {H : HF} {n i : Nat} {c d : XCl} (hf : Frs H n) (hk : H i = some c) : Frs (hup H i d) n := by
  intro o ho
  have := Fr_lt hf hk
  rw [upd_ne _ _ (show ¬ o = i by omega)]
  exact hf o ho
theorem Fr_new {H : HF} {n : Nat} {d : XCl} (hf : Frs H n) : Frs (hup H n d) (n + 1) := by
  intro o ho
  rw [upd_ne _ _ (show ¬ o = n by omega)]
  exact hf o (by omega)
theorem xhk_cons (j : Nat) (c : XCl) (t : XH) (o : Nat) : xhk ((j, c) :: t) o = if o = j then some c else xhk t o := by
  show (bif Nat.beq j o then some c else xhk t o) = _
  by_cases h : o = j
  · subst h
    rw [Nat.beq_refl, if_pos rfl]
    rfl
  · rw [if_neg h]
    cases hb : Nat.beq j o with
    | true => exact absurd (Nat.eq_of_beq_eq_true hb).symm h
    | false => rfl
theorem xhs_upd {i : Nat} {d : XCl} : ∀ {h : XH} {c : XCl}, xhk h i = some c → xhk (xhs h i d) = hup (xhk h) i d
  | [], c, hk => by cases hk
  | (j, e) :: t, c, hk => by
    funext o
    rw [xhk_cons] at hk
    show xhk (bif Nat.beq j i then (j, d) :: t else (j, e) :: xhs t i d) o = _
    by_cases h : i = j
    · subst h
      rw [Nat.beq_refl]
      show xhk ((i, d) :: t) o = _
      rw [xhk_cons]
      by_cases h2 : o = i
      · subst h2
        rw [if_pos rfl, upd_eq]
      · rw [if_neg h2, upd_ne _ _ h2, xhk_cons, if_neg h2]
    · rw [if_neg h] at hk
      have hb : Nat.beq j i = false := by
        cases hb : Nat.beq j i with
        | true => exact absurd (Nat.eq_of_beq_eq_true hb).symm h
        | false => rfl
      rw [hb]
      show xhk ((j, e) :: xhs t i d) o = _
      rw [xhk_cons, xhs_upd hk]
      by_cases h2 : o = i
      · subst h2
        rw [upd_eq, if_neg h, upd_eq]
      · rw [upd_ne _ _ h2, upd_ne _ _ h2, xhk_cons]
theorem xhk_app (L : XH) (o : Nat) : ∀ h : XH, xhk (h ++ L) o = (match xhk h o with
    | some c => some c
    | none => xhk L o)
  | [] => rfl
  | (j, c) :: t => by
    show xhk ((j, c) :: (t ++ L)) o = _
    rw [xhk_cons, xhk_cons, xhk_app L o t]
    by_cases h : o = j
    · rw [if_pos h, if_pos h]
    · rw [if_neg h, if_neg h]
theorem xhk_push {h : XH} {n : Nat} {c : XCl} (hn : xhk h n = none) : xhk (h ++ [(n, c)]) = hup (xhk h) n c := by
  funext o
  rw [xhk_app, xhk_cons]
  by_cases e : o = n
  · subst e
    rw [hn, upd_eq, if_pos rfl]
  · rw [upd_ne _ _ e, if_neg e]
    cases xhk h o <;> rfl
/-- cells put on top -/
def app (H : HF) (L : XH) : HF := fun o => match xhk L o with
  | some c => some c
  | none => H o
theorem xhk_appd {h L : XH} (hn : ∀ o c, xhk L o = some c → xhk h o = none) : xhk (h ++ L) = app (xhk h) L := by
  funext o
  rw [xhk_app]
  unfold app
  cases hl : xhk L o with
  | none => cases xhk h o <;> rfl
  | some c => rw [hn o c hl]

abbrev ScT : Type := Option (Nat × (Nat → Int32))
def Gw (S : ScT) (M : XM) (pc : Nat) (lv : XL) (st : List Value) (H : HF) (n ce sl : Nat) (Q : XLf → Prop) : Prop := ∀ h : XH, xhk h = H → Frs H n → Go S M pc lv st ([], h, n, ce, sl) Q
def MQe (M : XM) (P : Option Value → HF → Nat → Prop) (lf : XLf) : Prop := ∃ v h' n', xend M lf = some (0, v, [], h', n') ∧ Frs (xhk h') n' ∧ P v (xhk h') n'
def Rmt (S : ScT) (k : Nat) (as : List Value) (H : HF) (n : Nat) (P : Option Value → HF → Nat → Prop) : Prop := ∀ h : XH, xhk h = H → Frs H n → ∃ v h' n', Ret S k as h n v h' n' ∧ Frs (xhk h') n' ∧ P v (xhk h') n'
def Rdt (S : ScT) (k : Nat) (as : List Value) (H : HF) (n : Nat) (v : Option Value) (H' : HF) (n' : Nat) : Prop := Rmt S k as H n (fun w G m => w = v ∧ G = H' ∧ m = n')
theorem Rm_mono {S : ScT} {k : Nat} {as : List Value} {H : HF} {n : Nat} {P P' : Option Value → HF → Nat → Prop} (h : Rmt S k as H n P) (hp : ∀ v G m, P v G m → P' v G m) : Rmt S k as H n P' := fun h0 e f => by
  obtain ⟨v, h', n', h1, h2, h3⟩ := h h0 e f
  exact ⟨v, h', n', h1, h2, hp _ _ _ h3⟩
section
variable {S : ScT} {M : XM} {pc pc' : Nat} {lv lv' : XL} {st st' : List Value} {H : HF} {n ce sl : Nat} {Q : XLf → Prop}
theorem Gq_mq {P P' : Option Value → HF → Nat → Prop} (h : Gw S M pc lv st H n ce sl (MQe M P)) (hp : ∀ v G m, P v G m → P' v G m) : Gw S M pc lv st H n ce sl (MQe M P') := fun h0 e f => by
  obtain ⟨lf, ⟨v, h', n', a1, a2, a3⟩, r⟩ := h h0 e f
  exact ⟨lf, ⟨v, h', n', a1, a2, hp _ _ _ a3⟩, r⟩
theorem Rm_of {k : Nat} {as : List Value} {P : Option Value → HF → Nat → Prop} (hM : xnth xMs k = some M) (hc : Nat.ble (xcats as) (xmN M) = true) (hl : lv_args 0 as = lv) (hg : Gw S M 0 lv [] H n 0 0 (MQe M P)) : Rmt S k as H n P := by
  intro h hh hf
  subst hl
  obtain ⟨lf, ⟨v, h', n', h1, h2, h3⟩, hr⟩ := hg h hh hf
  exact ⟨v, h', n', Ret_of hM hc ⟨lf, h1, hr⟩, h2, h3⟩
/-- a row of the method's own numbers -/
theorem Gq_s {i : Instr} {aux : List Nat} (hr : yrow M pc = some (pc, i, 0, aux)) (hp : pc + ilen i = pc') (hq : xsimple (xmN M) i aux lv st = some (lv', st')) (kk : Gw S M pc' lv' st' H n ce sl Q) : Gw S M pc lv st H n ce sl Q := by
  intro h hh hf
  subst hp
  exact Eq.mpr (Go_simple hr hq) (kk h hh hf)
theorem zI_add (a b : Int) : zI a + zI b = zI (a + b) := (Int32.ofInt_add a b).symm
theorem zI_sub (a b : Int) : zI a - zI b = zI (a - b) := (Int32.ofInt_sub a b).symm
theorem zI_mul (a b : Int) : zI a * zI b = zI (a * b) := (Int32.ofInt_mul a b).symm
theorem zI_nI (n : Nat) : zI (n : Int) = nI n := rfl
theorem zI_toInt {z : Int} (h : -2147483648 ≤ z ∧ z < 2147483648) : (zI z).toInt = z := Int32.toInt_ofInt_of_le (by omega) (by omega)
theorem zI_of (x : Int32) : ∃ z : Int, -2147483648 ≤ z ∧ z < 2147483648 ∧ x = zI z := ⟨x.toInt, by have := Int32.le_toInt x; omega, by have := Int32.toInt_lt x; omega, (Int32.ofInt_toInt x).symm⟩
theorem zI_inj {a b : Int} (ha : -2147483648 ≤ a ∧ a < 2147483648) (hb : -2147483648 ≤ b ∧ b < 2147483648) : zI a = zI b ↔ a = b := ⟨fun h => by
  have := congrArg Int32.toInt h
  rwa [zI_toInt ha, zI_toInt hb] at this, fun h => by rw [h]⟩
theorem zI_lt {a b : Int} (ha : -2147483648 ≤ a ∧ a < 2147483648) (hb : -2147483648 ≤ b ∧ b < 2147483648) : zI a < zI b ↔ a < b := by
  rw [Int32.lt_iff_toInt_lt, zI_toInt ha, zI_toInt hb]
theorem zI_le {a b : Int} (ha : -2147483648 ≤ a ∧ a < 2147483648) (hb : -2147483648 ≤ b ∧ b < 2147483648) : zI a ≤ zI b ↔ a ≤ b := by
  rw [Int32.le_iff_toInt_le, zI_toInt ha, zI_toInt hb]
theorem zI_bi {z : Int} (h : -128 ≤ z ∧ z < 128) : (Int8.ofInt z).toInt32 = zI z := by
  apply Int32.toInt_inj.mp
  rw [Int8.toInt_toInt32, Int8.toInt_ofInt_of_le (by omega) (by omega), zI_toInt (by omega)]
theorem zI_si {z : Int} (h : -32768 ≤ z ∧ z < 32768) : (Int16.ofInt z).toInt32 = zI z := by
  apply Int32.toInt_inj.mp
  rw [Int16.toInt_toInt32, Int16.toInt_ofInt_of_le (by omega) (by omega), zI_toInt (by omega)]
theorem Gq_bipush {z : Int} {aux : List Nat} (hr : yrow M pc = some (pc, .bipush z, 0, aux)) (hp : pc + 2 = pc') (hz : -128 ≤ z ∧ z < 128) (kk : Gw S M pc' lv (.int (zI z) :: st) H n ce sl Q) : Gw S M pc lv st H n ce sl Q := by
  refine Gq_s hr hp (lv' := lv) (st' := .int (zI z) :: st) ?_ kk
  show some (lv, Value.int (Int8.ofInt z).toInt32 :: st) = _
  rw [zI_bi hz]
theorem Gq_sipush {z : Int} {aux : List Nat} (hr : yrow M pc = some (pc, .sipush z, 0, aux)) (hp : pc + 3 = pc') (hz : -32768 ≤ z ∧ z < 32768) (kk : Gw S M pc' lv (.int (zI z) :: st) H n ce sl Q) : Gw S M pc lv st H n ce sl Q := by
  refine Gq_s hr hp (lv' := lv) (st' := .int (zI z) :: st) ?_ kk
  show some (lv, Value.int (Int16.ofInt z).toInt32 :: st) = _
  rw [zI_si hz]
theorem Gq_iinc {i : Nat} {d a : Int} {aux : List Nat} (hr : yrow M pc = some (pc, .iinc i d, 0, aux)) (hp : pc + 3 = pc') (hl : xlk lv i = some (.int (zI a))) (hs : xst1 (xmN M) i (.int (zI (a + d))) lv = some lv') (kk : Gw S M pc' lv' st H n ce sl Q) : Gw S M pc lv st H n ce sl Q := by
  refine Gq_s hr hp (lv' := lv') (st' := st) ?_ kk
  show xinc (xmN M) i d lv st = _
  unfold xinc
  rw [hl]
  dsimp only
  rw [show zI a + Int32.ofInt d = zI (a + d) from zI_add a d, hs]
theorem Gq_iadd {a b : Int} {aux : List Nat} (hr : yrow M pc = some (pc, .iadd, 0, aux)) (hp : pc + 1 = pc') (kk : Gw S M pc' lv (.int (zI (a + b)) :: st) H n ce sl Q) : Gw S M pc lv (.int (zI b) :: .int (zI a) :: st) H n ce sl Q := by
  refine Gq_s hr hp (lv' := lv) (st' := .int (zI (a + b)) :: st) ?_ kk
  show some (lv, Value.int (zI a + zI b) :: st) = _
  rw [zI_add]
theorem Gq_isub {a b : Int} {aux : List Nat} (hr : yrow M pc = some (pc, .isub, 0, aux)) (hp : pc + 1 = pc') (kk : Gw S M pc' lv (.int (zI (a - b)) :: st) H n ce sl Q) : Gw S M pc lv (.int (zI b) :: .int (zI a) :: st) H n ce sl Q := by
  refine Gq_s hr hp (lv' := lv) (st' := .int (zI (a - b)) :: st) ?_ kk
  show some (lv, Value.int (zI a - zI b) :: st) = _
  rw [zI_sub]
theorem Gq_imul {a b : Int} {aux : List Nat} (hr : yrow M pc = some (pc, .imul, 0, aux)) (hp : pc + 1 = pc') (kk : Gw S M pc' lv (.int (zI (a * b)) :: st) H n ce sl Q) : Gw S M pc lv (.int (zI b) :: .int (zI a) :: st) H n ce sl Q := by
  refine Gq_s hr hp (lv' := lv) (st' := .int (zI (a * b)) :: st) ?_ kk
  show some (lv, Value.int (zI a * zI b) :: st) = _
  rw [zI_mul]
theorem Gq_ishl {x y : Int32} (z : Int32) {aux : List Nat} (hr : yrow M pc = some (pc, .ishl, 0, aux)) (hp : pc + 1 = pc') (hz : x <<< (y &&& 31) = z) (kk : Gw S M pc' lv (.int z :: st) H n ce sl Q) : Gw S M pc lv (.int y :: .int x :: st) H n ce sl Q := by
  refine Gq_s hr hp (lv' := lv) (st' := .int z :: st) ?_ kk
  show some (lv, Value.int (x <<< (y &&& 31)) :: st) = _
  rw [hz]
theorem Gq_ishr {x y : Int32} (z : Int32) {aux : List Nat} (hr : yrow M pc = some (pc, .ishr, 0, aux)) (hp : pc + 1 = pc') (hz : x >>> (y &&& 31) = z) (kk : Gw S M pc' lv (.int z :: st) H n ce sl Q) : Gw S M pc lv (.int y :: .int x :: st) H n ce sl Q := by
  refine Gq_s hr hp (lv' := lv) (st' := .int z :: st) ?_ kk
  show some (lv, Value.int (x >>> (y &&& 31)) :: st) = _
  rw [hz]
theorem Gq_iand {x y : Int32} (z : Int32) {aux : List Nat} (hr : yrow M pc = some (pc, .iand, 0, aux)) (hp : pc + 1 = pc') (hz : x &&& y = z) (kk : Gw S M pc' lv (.int z :: st) H n ce sl Q) : Gw S M pc lv (.int y :: .int x :: st) H n ce sl Q := by
  refine Gq_s hr hp (lv' := lv) (st' := .int z :: st) ?_ kk
  show some (lv, Value.int (x &&& y) :: st) = _
  rw [hz]
theorem Gq_ior {x y : Int32} (z : Int32) {aux : List Nat} (hr : yrow M pc = some (pc, .ior, 0, aux)) (hp : pc + 1 = pc') (hz : x ||| y = z) (kk : Gw S M pc' lv (.int z :: st) H n ce sl Q) : Gw S M pc lv (.int y :: .int x :: st) H n ce sl Q := by
  refine Gq_s hr hp (lv' := lv) (st' := .int z :: st) ?_ kk
  show some (lv, Value.int (x ||| y) :: st) = _
  rw [hz]
theorem Gq_ixor {x y : Int32} (z : Int32) {aux : List Nat} (hr : yrow M pc = some (pc, .ixor, 0, aux)) (hp : pc + 1 = pc') (hz : x ^^^ y = z) (kk : Gw S M pc' lv (.int z :: st) H n ce sl Q) : Gw S M pc lv (.int y :: .int x :: st) H n ce sl Q := by
  refine Gq_s hr hp (lv' := lv) (st' := .int z :: st) ?_ kk
  show some (lv, Value.int (x ^^^ y) :: st) = _
  rw [hz]
theorem Gq_idiv {x y : Int32} (z : Int32) {aux : List Nat} (hr : yrow M pc = some (pc, .idiv, 0, aux)) (hp : pc + 1 = pc') (h0 : ¬ y = 0) (hz : x / y = z) (kk : Gw S M pc' lv (.int z :: st) H n ce sl Q) : Gw S M pc lv (.int y :: .int x :: st) H n ce sl Q := by
  refine Gq_s hr hp (lv' := lv) (st' := .int z :: st) ?_ kk
  show (bif decide (y = 0) then none else some (lv, Value.int (x / y) :: st)) = _
  rw [decide_eq_false h0, hz]
  rfl
theorem Gq_irem {x y : Int32} (z : Int32) {aux : List Nat} (hr : yrow M pc = some (pc, .irem, 0, aux)) (hp : pc + 1 = pc') (h0 : ¬ y = 0) (hz : x - x / y * y = z) (kk : Gw S M pc' lv (.int z :: st) H n ce sl Q) : Gw S M pc lv (.int y :: .int x :: st) H n ce sl Q := by
  refine Gq_s hr hp (lv' := lv) (st' := .int z :: st) ?_ kk
  show (bif decide (y = 0) then none else some (lv, Value.int (x - x / y * y) :: st)) = _
  rw [decide_eq_false h0, hz]
  rfl
/-- jumps -/
theorem Gq_goto {off : Int} {aux : List Nat} {t : Nat} (hr : yrow M pc = some (pc, .goto off, 2, aux)) (ht : xtgt pc off = some t) (kk : Gw S M t lv st H n ce sl Q) : Gw S M pc lv st H n ce sl Q := by
  intro h hh hf
  have hq : xbranch h pc (.goto off) st [] = some [(t, st, [])] := by
    show (match xtgt pc off with
      | some t => some [(t, st, ([] : XP))]
      | none => none) = _
    rw [ht]
  rw [Go_branch (σ := ([], h, n, ce, sl)) hr hq]
  exact kk h hh hf
theorem Gq_ceq {off : Int} {aux : List Nat} {t : Nat} {a b : Int} (hr : yrow M pc = some (pc, .if_icmp .eq off, 2, aux)) (ht : xtgt pc off = some t) (hp : pc + 3 = pc') (ra : -2147483648 ≤ a ∧ a < 2147483648) (rb : -2147483648 ≤ b ∧ b < 2147483648) (h1 : a = b → Gw S M t lv st H n ce sl Q) (h2 : ¬ (a = b) → Gw S M pc' lv st H n ce sl Q) : Gw S M pc lv (.int (zI b) :: .int (zI a) :: st) H n ce sl Q := by
  intro h hh hf
  subst hp
  exact Go_icmp hr ht (fun hc => h1 ((zI_inj ra rb).mp hc) h hh hf) (fun hc => h2 (fun q => hc ((zI_inj ra rb).mpr q)) h hh hf)
theorem Gq_zeq {off : Int} {aux : List Nat} {t : Nat} {a : Int} (hr : yrow M pc = some (pc, .ifCond .eq off, 2, aux)) (ht : xtgt pc off = some t) (hp : pc + 3 = pc') (ra : -2147483648 ≤ a ∧ a < 2147483648) (h1 : a = 0 → Gw S M t lv st H n ce sl Q) (h2 : ¬ (a = 0) → Gw S M pc' lv st H n ce sl Q) : Gw S M pc lv (.int (zI a) :: st) H n ce sl Q := by
  intro h hh hf
  subst hp
  have rb : -2147483648 ≤ (0 : Int) ∧ (0 : Int) < 2147483648 := ⟨by omega, by omega⟩
  exact Go_if hr ht (fun hc => h1 ((zI_inj ra rb).mp hc) h hh hf) (fun hc => h2 (fun q => hc ((zI_inj ra rb).mpr q)) h hh hf)
theorem Gq_cne {off : Int} {aux : List Nat} {t : Nat} {a b : Int} (hr : yrow M pc = some (pc, .if_icmp .ne off, 2, aux)) (ht : xtgt pc off = some t) (hp : pc + 3 = pc') (ra : -2147483648 ≤ a ∧ a < 2147483648) (rb : -2147483648 ≤ b ∧ b < 2147483648) (h1 : ¬ a = b → Gw S M t lv st H n ce sl Q) (h2 : ¬ (¬ a = b) → Gw S M pc' lv st H n ce sl Q) : Gw S M pc lv (.int (zI b) :: .int (zI a) :: st) H n ce sl Q := by
  intro h hh hf
  subst hp
  exact Go_icmp hr ht (fun hc => h1 ((not_congr (zI_inj ra rb)).mp hc) h hh hf) (fun hc => h2 (fun q => hc ((not_congr (zI_inj ra rb)).mpr q)) h hh hf)
theorem Gq_zne {off : Int} {aux : List Nat} {t : Nat} {a : Int} (hr : yrow M pc = some (pc, .ifCond .ne off, 2, aux)) (ht : xtgt pc off = some t) (hp : pc + 3 = pc') (ra : -2147483648 ≤ a ∧ a < 2147483648) (h1 : ¬ a = 0 → Gw S M t lv st H n ce sl Q) (h2 : ¬ (¬ a = 0) → Gw S M pc' lv st H n ce sl Q) : Gw S M pc lv (.int (zI a) :: st) H n ce sl Q := by
  intro h hh hf
  subst hp
  have rb : -2147483648 ≤ (0 : Int) ∧ (0 : Int) < 2147483648 := ⟨by omega, by omega⟩
  exact Go_if hr ht (fun hc => h1 ((not_congr (zI_inj ra rb)).mp hc) h hh hf) (fun hc => h2 (fun q => hc ((not_congr (zI_inj ra rb)).mpr q)) h hh hf)
theorem Gq_clt {off : Int} {aux : List Nat} {t : Nat} {a b : Int} (hr : yrow M pc = some (pc, .if_icmp .lt off, 2, aux)) (ht : xtgt pc off = some t) (hp : pc + 3 = pc') (ra : -2147483648 ≤ a ∧ a < 2147483648) (rb : -2147483648 ≤ b ∧ b < 2147483648) (h1 : a < b → Gw S M t lv st H n ce sl Q) (h2 : ¬ (a < b) → Gw S M pc' lv st H n ce sl Q) : Gw S M pc lv (.int (zI b) :: .int (zI a) :: st) H n ce sl Q := by
  intro h hh hf
  subst hp
  exact Go_icmp hr ht (fun hc => h1 ((zI_lt ra rb).mp hc) h hh hf) (fun hc => h2 (fun q => hc ((zI_lt ra rb).mpr q)) h hh hf)
theorem Gq_zlt {off : Int} {aux : List Nat} {t : Nat} {a : Int} (hr : yrow M pc = some (pc, .ifCond .lt off, 2, aux)) (ht : xtgt pc off = some t) (hp : pc + 3 = pc') (ra : -2147483648 ≤ a ∧ a < 2147483648) (h1 : a < 0 → Gw S M t lv st H n ce sl Q) (h2 : ¬ (a < 0) → Gw S M pc' lv st H n ce sl Q) : Gw S M pc lv (.int (zI a) :: st) H n ce sl Q := by
  intro h hh hf
  subst hp
  have rb : -2147483648 ≤ (0 : Int) ∧ (0 : Int) < 2147483648 := ⟨by omega, by omega⟩
  exact Go_if hr ht (fun hc => h1 ((zI_lt ra rb).mp hc) h hh hf) (fun hc => h2 (fun q => hc ((zI_lt ra rb).mpr q)) h hh hf)
theorem Gq_cge {off : Int} {aux : List Nat} {t : Nat} {a b : Int} (hr : yrow M pc = some (pc, .if_icmp .ge off, 2, aux)) (ht : xtgt pc off = some t) (hp : pc + 3 = pc') (ra : -2147483648 ≤ a ∧ a < 2147483648) (rb : -2147483648 ≤ b ∧ b < 2147483648) (h1 : b ≤ a → Gw S M t lv st H n ce sl Q) (h2 : ¬ (b ≤ a) → Gw S M pc' lv st H n ce sl Q) : Gw S M pc lv (.int (zI b) :: .int (zI a) :: st) H n ce sl Q := by
  intro h hh hf
  subst hp
  exact Go_icmp hr ht (fun hc => h1 ((zI_le rb ra).mp hc) h hh hf) (fun hc => h2 (fun q => hc ((zI_le rb ra).mpr q)) h hh hf)
theorem Gq_zge {off : Int} {aux : List Nat} {t : Nat} {a : Int} (hr : yrow M pc = some (pc, .ifCond .ge off, 2, aux)) (ht : xtgt pc off = some t) (hp : pc + 3 = pc') (ra : -2147483648 ≤ a ∧ a < 2147483648) (h1 : 0 ≤ a → Gw S M t lv st H n ce sl Q) (h2 : ¬ (0 ≤ a) → Gw S M pc' lv st H n ce sl Q) : Gw S M pc lv (.int (zI a) :: st) H n ce sl Q := by
  intro h hh hf
  subst hp
  have rb : -2147483648 ≤ (0 : Int) ∧ (0 : Int) < 2147483648 := ⟨by omega, by omega⟩
  exact Go_if hr ht (fun hc => h1 ((zI_le rb ra).mp hc) h hh hf) (fun hc => h2 (fun q => hc ((zI_le rb ra).mpr q)) h hh hf)
theorem Gq_cgt {off : Int} {aux : List Nat} {t : Nat} {a b : Int} (hr : yrow M pc = some (pc, .if_icmp .gt off, 2, aux)) (ht : xtgt pc off = some t) (hp : pc + 3 = pc') (ra : -2147483648 ≤ a ∧ a < 2147483648) (rb : -2147483648 ≤ b ∧ b < 2147483648) (h1 : b < a → Gw S M t lv st H n ce sl Q) (h2 : ¬ (b < a) → Gw S M pc' lv st H n ce sl Q) : Gw S M pc lv (.int (zI b) :: .int (zI a) :: st) H n ce sl Q := by
  intro h hh hf
  subst hp
  exact Go_icmp hr ht (fun hc => h1 ((zI_lt rb ra).mp hc) h hh hf) (fun hc => h2 (fun q => hc ((zI_lt rb ra).mpr q)) h hh hf)
theorem Gq_zgt {off : Int} {aux : List Nat} {t : Nat} {a : Int} (hr : yrow M pc = some (pc, .ifCond .gt off, 2, aux)) (ht : xtgt pc off = some t) (hp : pc + 3 = pc') (ra : -2147483648 ≤ a ∧ a < 2147483648) (h1 : 0 < a → Gw S M t lv st H n ce sl Q) (h2 : ¬ (0 < a) → Gw S M pc' lv st H n ce sl Q) : Gw S M pc lv (.int (zI a) :: st) H n ce sl Q := by
  intro h hh hf
  subst hp
  have rb : -2147483648 ≤ (0 : Int) ∧ (0 : Int) < 2147483648 := ⟨by omega, by omega⟩
  exact Go_if hr ht (fun hc => h1 ((zI_lt rb ra).mp hc) h hh hf) (fun hc => h2 (fun q => hc ((zI_lt rb ra).mpr q)) h hh hf)
theorem Gq_cle {off : Int} {aux : List Nat} {t : Nat} {a b : Int} (hr : yrow M pc = some (pc, .if_icmp .le off, 2, aux)) (ht : xtgt pc off = some t) (hp : pc + 3 = pc') (ra : -2147483648 ≤ a ∧ a < 2147483648) (rb : -2147483648 ≤ b ∧ b < 2147483648) (h1 : a ≤ b → Gw S M t lv st H n ce sl Q) (h2 : ¬ (a ≤ b) → Gw S M pc' lv st H n ce sl Q) : Gw S M pc lv (.int (zI b) :: .int (zI a) :: st) H n ce sl Q := by
  intro h hh hf
  subst hp
  exact Go_icmp hr ht (fun hc => h1 ((zI_le ra rb).mp hc) h hh hf) (fun hc => h2 (fun q => hc ((zI_le ra rb).mpr q)) h hh hf)
theorem Gq_zle {off : Int} {aux : List Nat} {t : Nat} {a : Int} (hr : yrow M pc = some (pc, .ifCond .le off, 2, aux)) (ht : xtgt pc off = some t) (hp : pc + 3 = pc') (ra : -2147483648 ≤ a ∧ a < 2147483648) (h1 : a ≤ 0 → Gw S M t lv st H n ce sl Q) (h2 : ¬ (a ≤ 0) → Gw S M pc' lv st H n ce sl Q) : Gw S M pc lv (.int (zI a) :: st) H n ce sl Q := by
  intro h hh hf
  subst hp
  have rb : -2147483648 ≤ (0 : Int) ∧ (0 : Int) < 2147483648 := ⟨by omega, by omega⟩
  exact Go_if hr ht (fun hc => h1 ((zI_le ra rb).mp hc) h hh hf) (fun hc => h2 (fun q => hc ((zI_le ra rb).mpr q)) h hh hf)
def bI (b : Bool) : Int := if b then 1 else 0
theorem bI_t : bI true = 1 := rfl
theorem bI_f : bI false = 0 := rfl
theorem bI_r (b : Bool) : -2147483648 ≤ bI b ∧ bI b < 2147483648 := by cases b <;> exact ⟨by decide, by decide⟩
/-- a truth value is asked -/
theorem Gq_beq {off : Int} {aux : List Nat} {t : Nat} {b : Bool} (hr : yrow M pc = some (pc, .ifCond .eq off, 2, aux)) (ht : xtgt pc off = some t) (hp : pc + 3 = pc') (h1 : b = false → Gw S M t lv st H n ce sl Q) (h2 : b = true → Gw S M pc' lv st H n ce sl Q) : Gw S M pc lv (.int (zI (bI b)) :: st) H n ce sl Q := by
  refine Gq_zeq hr ht hp (bI_r b) (fun h => h1 ?_) (fun h => h2 ?_)
  · cases b
    · rfl
    · exact absurd h (by decide)
  · cases b
    · exact absurd rfl h
    · rfl
theorem Gq_bne {off : Int} {aux : List Nat} {t : Nat} {b : Bool} (hr : yrow M pc = some (pc, .ifCond .ne off, 2, aux)) (ht : xtgt pc off = some t) (hp : pc + 3 = pc') (h1 : b = true → Gw S M t lv st H n ce sl Q) (h2 : b = false → Gw S M pc' lv st H n ce sl Q) : Gw S M pc lv (.int (zI (bI b)) :: st) H n ce sl Q := by
  refine Gq_zne hr ht hp (bI_r b) (fun h => h1 ?_) (fun h => h2 ?_)
  · cases b
    · exact absurd rfl h
    · rfl
  · cases b
    · rfl
    · exact absurd h (by decide)
theorem Gq_br {i : Instr} {aux : List Nat} {t : Nat} (hr : yrow M pc = some (pc, i, 2, aux)) (hq : ∀ h : XH, xhk h = H → xbranch h pc i st [] = some [(t, st', [])]) (kk : Gw S M t lv st' H n ce sl Q) : Gw S M pc lv st H n ce sl Q := by
  intro h hh hf
  rw [Go_branch (σ := ([], h, n, ce, sl)) hr (hq h hh)]
  exact kk h hh hf
theorem xb_nul {h : XH} {off : Int} {t : Nat} {v : Value} {r : List Value} {b : Bool} (ht : xtgt pc off = some t) (hv : xnul v = some b) : xbranch h pc (.ifnull off) (v :: r) [] = some [(bif b then t else pc + 3, r, [])] := by
  show xjump pc off r (xb1 true [] (xnul v)) = _
  rw [hv]
  unfold xjump
  rw [ht]
  cases b <;> rfl
theorem xb_non {h : XH} {off : Int} {t : Nat} {v : Value} {r : List Value} {b : Bool} (ht : xtgt pc off = some t) (hv : xnul v = some b) : xbranch h pc (.ifnonnull off) (v :: r) [] = some [(bif b then pc + 3 else t, r, [])] := by
  show xjump pc off r (xb1 false [] (xnul v)) = _
  rw [hv]
  unfold xjump
  rw [ht]
  cases b <;> rfl
theorem Gq_nul_n {off : Int} {aux : List Nat} {t : Nat} (hr : yrow M pc = some (pc, .ifnull off, 2, aux)) (ht : xtgt pc off = some t) (kk : Gw S M t lv st H n ce sl Q) : Gw S M pc lv (.null :: st) H n ce sl Q := Gq_br hr (fun _ _ => xb_nul ht rfl) kk
theorem Gq_nul_r {off : Int} {aux : List Nat} {t k : Nat} (hr : yrow M pc = some (pc, .ifnull off, 2, aux)) (ht : xtgt pc off = some t) (hp : pc + 3 = pc') (kk : Gw S M pc' lv st H n ce sl Q) : Gw S M pc lv (.ref k :: st) H n ce sl Q := Gq_br hr (fun _ _ => xb_nul ht rfl) (hp ▸ kk)
theorem Gq_non_n {off : Int} {aux : List Nat} {t : Nat} (hr : yrow M pc = some (pc, .ifnonnull off, 2, aux)) (ht : xtgt pc off = some t) (hp : pc + 3 = pc') (kk : Gw S M pc' lv st H n ce sl Q) : Gw S M pc lv (.null :: st) H n ce sl Q := Gq_br hr (fun _ _ => xb_non ht rfl) (hp ▸ kk)
theorem Gq_non_r {off : Int} {aux : List Nat} {t k : Nat} (hr : yrow M pc = some (pc, .ifnonnull off, 2, aux)) (ht : xtgt pc off = some t) (kk : Gw S M t lv st H n ce sl Q) : Gw S M pc lv (.ref k :: st) H n ce sl Q := Gq_br hr (fun _ _ => xb_non ht rfl) kk
/-- two things compared -/
def rvl : Option Nat → Value
  | none => .null
  | some k => .ref k
def rvOK (H : HF) (x : Option Nat) : Prop := ∀ k, x = some k → ∃ c, H k = some c
theorem xsame_rv {h : XH} {x y : Option Nat} (hx : rvOK (xhk h) x) (hy : rvOK (xhk h) y) : xsame h (rvl x) (rvl y) = some (decide (x = y)) := by
  cases x with
  | none =>
    cases y with
    | none => rfl
    | some b => rw [decide_eq_false (fun e => by cases e)]; rfl
  | some a =>
    cases y with
    | none => rw [decide_eq_false (fun e => by cases e)]; rfl
    | some b =>
      obtain ⟨c, hc⟩ := hx a rfl
      obtain ⟨d, hd⟩ := hy b rfl
      show (bif Nat.beq a b then some true else bif xsome (xhk h a) && xsome (xhk h b) then some false else none) = _
      rw [hc, hd]
      by_cases e : a = b
      · subst e
        rw [Nat.beq_refl, decide_eq_true rfl]
        rfl
      · have hb : Nat.beq a b = false := by
          cases hb : Nat.beq a b with
          | true => exact absurd (Nat.eq_of_beq_eq_true hb) e
          | false => rfl
        rw [hb, decide_eq_false (fun q => e (Option.some.inj q))]
        rfl
theorem Gq_acne {off : Int} {aux : List Nat} {t : Nat} {v w : Value} (x y : Option Nat) (hr : yrow M pc = some (pc, .if_acmp .ne off, 2, aux)) (ht : xtgt pc off = some t) (hp : pc + 3 = pc') (hv : v = rvl x) (hw : w = rvl y) (hx : rvOK H x) (hy : rvOK H y) (h1 : ¬ x = y → Gw S M t lv st H n ce sl Q) (h2 : x = y → Gw S M pc' lv st H n ce sl Q) : Gw S M pc lv (w :: v :: st) H n ce sl Q := by
  subst hv
  subst hw
  refine Gq_br (t := bif decide (x = y) then pc' else t) (st' := st) hr (fun h hh => ?_) ?_
  · subst hh
    show xjump pc off st (xb1 false [] (xsame h (rvl x) (rvl y))) = _
    rw [xsame_rv hx hy]
    unfold xjump
    rw [ht]
    subst hp
    by_cases e : x = y
    · rw [decide_eq_true e]
      rfl
    · rw [decide_eq_false e]
      rfl
  · by_cases e : x = y
    · rw [decide_eq_true e]
      exact h2 e
    · rw [decide_eq_false e]
      exact h1 e
theorem Gq_aceq {off : Int} {aux : List Nat} {t : Nat} {v w : Value} (x y : Option Nat) (hr : yrow M pc = some (pc, .if_acmp .eq off, 2, aux)) (ht : xtgt pc off = some t) (hp : pc + 3 = pc') (hv : v = rvl x) (hw : w = rvl y) (hx : rvOK H x) (hy : rvOK H y) (h1 : x = y → Gw S M t lv st H n ce sl Q) (h2 : ¬ x = y → Gw S M pc' lv st H n ce sl Q) : Gw S M pc lv (w :: v :: st) H n ce sl Q := by
  subst hv
  subst hw
  refine Gq_br (t := bif decide (x = y) then t else pc') (st' := st) hr (fun h hh => ?_) ?_
  · subst hh
    show xjump pc off st (xb1 true [] (xsame h (rvl x) (rvl y))) = _
    rw [xsame_rv hx hy]
    unfold xjump
    rw [ht]
    subst hp
    by_cases e : x = y
    · rw [decide_eq_true e]
      rfl
    · rw [decide_eq_false e]
      rfl
  · by_cases e : x = y
    · rw [decide_eq_true e]
      exact h1 e
    · rw [decide_eq_false e]
      exact h2 e
/-- fields -/
theorem Gq_get {idx ci k o : Nat} {tl : List Nat} {fs : List Value} {v : Value} (hr : yrow M pc = some (pc, .getfield idx, 1, ci :: k :: tl)) (hp : pc + 3 = pc') (hk : H o = some (false, ci, fs)) (hv : xnth fs k = some v) (kk : Gw S M pc' lv (v :: st) H n ce sl Q) : Gw S M pc lv (.ref o :: st) H n ce sl Q := by
  intro h hh hf
  subst hh
  subst hp
  exact Go_get hr hk hv (kk h rfl hf)
theorem Gq_put {idx ci k o : Nat} {tl : List Nat} {fs fs' : List Value} {v : Value} (hr : yrow M pc = some (pc, .putfield idx, 1, ci :: k :: tl)) (hp : pc + 3 = pc') (hk : H o = some (false, ci, fs)) (hs : xset fs k v = fs') (hf : xfit (xTy ci k) v = true) (hl : Nat.ble (k + 1) fs.length = true) (kk : Gw S M pc' lv st (hup H o (false, ci, fs')) n ce sl Q) : Gw S M pc lv (v :: .ref o :: st) H n ce sl Q := by
  intro h hh hF
  subst hh
  subst hp
  subst hs
  exact Go_put hr hk hf hl (kk _ (xhs_upd hk) (Fr_upd hF hk))
theorem xfit_bI (b : Bool) : xfit .boolean (.int (zI (bI b))) = true := by cases b <;> rfl
/-- arrays: of ints, of truth values, of things -/
def aI (N : Nat) (f : Nat → Int) : List Value := (List.range N).map fun j => Value.int (zI (f j))
def aB (N : Nat) (f : Nat → Bool) : List Value := (List.range N).map fun j => Value.int (zI (bI (f j)))
def aR (N : Nat) (f : Nat → Option Nat) : List Value := (List.range N).map fun j => rvl (f j)
def fset {α : Type} (f : Nat → α) (j : Nat) (x : α) : Nat → α := fun i => if i = j then x else f i
theorem fset_eq {α : Type} (f : Nat → α) (j : Nat) (x : α) : fset f j x j = x := if_pos rfl
theorem fset_ne {α : Type} (f : Nat → α) {i j : Nat} (x : α) (h : ¬ i = j) : fset f j x i = f i := if_neg h
theorem aX_len {α : Type} (g : Nat → α) (N : Nat) : ((List.range N).map g).length = N := by rw [List.length_map, List.length_range]
theorem aX_get {α : Type} (g : Nat → α) {N j : Nat} (hj : j < N) : ((List.range N).map g)[j]? = some (g j) := by
  rw [List.getElem?_map, List.getElem?_range hj]
  rfl
theorem aX_set {α β : Type} (g : α → β) (f : Nat → α) {N j : Nat} (x : α) : ((List.range N).map fun i => g (f i)).set j (g x) = (List.range N).map fun i => g (fset f j x i) := by
  apply List.ext_getElem?
  intro i
  by_cases hi : i < N
  · rw [List.getElem?_set, aX_get _ hi, aX_get _ hi, aX_len]
    by_cases e : j = i
    · subst e
      rw [if_pos rfl, if_pos hi, fset_eq]
    · rw [if_neg e, fset_ne _ _ (fun q => e q.symm)]
  · rw [List.getElem?_eq_none (by rw [List.length_set, aX_len]; omega), List.getElem?_eq_none (by rw [aX_len]; omega)]
theorem aX_ext {α : Type} {f g : Nat → α} {N : Nat} (h : ∀ j, j < N → f j = g j) : (List.range N).map f = (List.range N).map g := List.map_congr_left fun j hj => h j (List.mem_range.mp hj)
theorem Gq_len {o ti N : Nat} {aux : List Nat} {vs : List Value} (hr : yrow M pc = some (pc, .arraylength, 1, aux)) (hp : pc + 1 = pc') (hk : H o = some (true, ti, vs)) (ht : Nat.ble ti 8 = true) (hN : vs.length = N) (kk : Gw S M pc' lv (.int (zI (N : Int)) :: st) H n ce sl Q) : Gw S M pc lv (.ref o :: st) H n ce sl Q := by
  intro h hh hf
  subst hh
  subst hp
  subst hN
  exact Go_len hr hk ht (kk h rfl hf)
theorem Gq_iald {o N j : Nat} {a : Int} {aux : List Nat} {f : Nat → Int} (hr : yrow M pc = some (pc, .iaload, 1, aux)) (hp : pc + 1 = pc') (hk : H o = some (true, 0, aI N f)) (ha : a = ((j : Nat) : Int)) (hj : j < N) (hN : N ≤ 100000) (kk : Gw S M pc' lv (.int (zI (f j)) :: st) H n ce sl Q) : Gw S M pc lv (.int (zI a) :: .ref o :: st) H n ce sl Q := by
  intro h hh hf
  subst hh
  subst hp
  subst ha
  exact Go_iald hr hk (by unfold aI; rw [aX_len]; exact hj) (by unfold aI; rw [aX_len]; omega) (aX_get _ hj) (kk h rfl hf)
theorem Gq_iast {o N j : Nat} {a x : Int} {aux : List Nat} {f : Nat → Int} (hr : yrow M pc = some (pc, .iastore, 1, aux)) (hp : pc + 1 = pc') (hk : H o = some (true, 0, aI N f)) (ha : a = ((j : Nat) : Int)) (hj : j < N) (hN : N ≤ 100000) (kk : Gw S M pc' lv st (hup H o (true, 0, aI N (fset f j x))) n ce sl Q) : Gw S M pc lv (.int (zI x) :: .int (zI a) :: .ref o :: st) H n ce sl Q := by
  intro h hh hf
  subst hh
  subst hp
  subst ha
  refine Go_iast hr hk (by unfold aI; rw [aX_len]; exact hj) (by unfold aI; rw [aX_len]; omega) (kk _ ?_ (Fr_upd hf hk))
  rw [xhs_upd hk]
  unfold aI
  rw [aX_set (fun z => Value.int (zI z))]
theorem Gq_bald {o N j : Nat} {a : Int} {aux : List Nat} {f : Nat → Bool} (hr : yrow M pc = some (pc, .baload, 1, aux)) (hp : pc + 1 = pc') (hk : H o = some (true, 1, aB N f)) (ha : a = ((j : Nat) : Int)) (hj : j < N) (hN : N ≤ 100000) (kk : Gw S M pc' lv (.int (zI (bI (f j))) :: st) H n ce sl Q) : Gw S M pc lv (.int (zI a) :: .ref o :: st) H n ce sl Q := by
  intro h hh hf
  subst hh
  subst hp
  subst ha
  show Go S M pc lv (.int (nI j) :: .ref o :: st) ([], h, n, ce, sl) Q
  rw [Go_heap hr (show xheap S (xmR M) .baload aux lv (.int (nI j) :: .ref o :: st) ([], h, n, ce, sl) = _ from xald_at (σ := ([], h, n, ce, sl)) hk rfl (by unfold aB; rw [aX_len]; exact hj) (by unfold aB; rw [aX_len]; omega) (aX_get _ hj) rfl)]
  exact kk h rfl hf
theorem Gq_bast {o N j : Nat} {a : Int} {x : Bool} {aux : List Nat} {f : Nat → Bool} (hr : yrow M pc = some (pc, .bastore, 1, aux)) (hp : pc + 1 = pc') (hk : H o = some (true, 1, aB N f)) (ha : a = ((j : Nat) : Int)) (hj : j < N) (hN : N ≤ 100000) (kk : Gw S M pc' lv st (hup H o (true, 1, aB N (fset f j x))) n ce sl Q) : Gw S M pc lv (.int (zI (bI x)) :: .int (zI a) :: .ref o :: st) H n ce sl Q := by
  intro h hh hf
  subst hh
  subst hp
  subst ha
  show Go S M pc lv (.int (zI (bI x)) :: .int (nI j) :: .ref o :: st) ([], h, n, ce, sl) Q
  rw [Go_heap hr (show xheap S (xmR M) .bastore aux lv (.int (zI (bI x)) :: .int (nI j) :: .ref o :: st) ([], h, n, ce, sl) = _ from xast_at (σ := ([], h, n, ce, sl)) hk rfl (by unfold aB; rw [aX_len]; exact hj) (by unfold aB; rw [aX_len]; omega) (by cases x <;> rfl))]
  refine kk _ ?_ (Fr_upd hf hk)
  show xhk (xhs h o _) = _
  rw [xhs_upd hk]
  unfold aB
  rw [aX_set (fun z => Value.int (zI (bI z)))]
theorem xref_rv (x : Option Nat) : xref (rvl x) = true := by cases x <;> rfl
/-- a thing out of an array: known by its function -/
theorem Gq_aald {o ti N j : Nat} {a : Int} {aux : List Nat} {f : Nat → Option Nat} {v : Value} (hr : yrow M pc = some (pc, .aaload, 1, aux)) (hp : pc + 1 = pc') (hk : H o = some (true, ti, aR N f)) (ht : (Nat.ble 3 ti && Nat.ble ti 8) = true) (ha : a = ((j : Nat) : Int)) (hj : j < N) (hN : N ≤ 100000) (hv : rvl (f j) = v) (kk : Gw S M pc' lv (v :: st) H n ce sl Q) : Gw S M pc lv (.int (zI a) :: .ref o :: st) H n ce sl Q := by
  intro h hh hf
  subst hh
  subst hp
  subst ha
  subst hv
  exact Go_aald hr hk ht (by unfold aR; rw [aX_len]; exact hj) (by unfold aR; rw [aX_len]; omega) (aX_get _ hj) (xref_rv _) (kk h rfl hf)
/-- a thing out of an array: null, or not -/
theorem Gq_aalx {o ti N j : Nat} {a : Int} {aux : List Nat} {f : Nat → Option Nat} (hr : yrow M pc = some (pc, .aaload, 1, aux)) (hp : pc + 1 = pc') (hk : H o = some (true, ti, aR N f)) (ht : (Nat.ble 3 ti && Nat.ble ti 8) = true) (ha : a = ((j : Nat) : Int)) (hj : j < N) (hN : N ≤ 100000) (h0 : f j = none → Gw S M pc' lv (.null :: st) H n ce sl Q) (h1 : ∀ k, f j = some k → Gw S M pc' lv (.ref k :: st) H n ce sl Q) : Gw S M pc lv (.int (zI a) :: .ref o :: st) H n ce sl Q := by
  refine Gq_aald hr hp hk ht ha hj hN (v := rvl (f j)) rfl ?_
  cases hx : f j with
  | none => exact h0 hx
  | some k => exact h1 k hx
/-- a thing or null, stored, loaded, asked -/
theorem rv_s {x : Option Nat} {k : Nat} (h : x = some k) : rvl x = .ref k := by rw [h]; rfl
theorem rv_n {x : Option Nat} (h : x = none) : rvl x = .null := by rw [h]; rfl
theorem xst1_ex {nL k : Nat} {v : Value} {pre ex l : XL} (hex : ex = [] ∨ ∃ w, ex = [(k, w)]) (h : xst1 nL k v pre = some l) : xst1 nL k v (pre ++ ex) = some l := by
  rcases hex with rfl | ⟨w, rfl⟩
  · rw [List.append_nil]
    exact h
  · unfold xst1 at h ⊢
    rw [List.filter_append, List.filter_cons_of_neg (by unfold xf1; simp), List.filter_nil, List.append_nil]
    exact h
theorem Gq_st1 {i : Instr} {k : Nat} {v : Value} {aux : List Nat} (hr : yrow M pc = some (pc, i, 0, aux)) (hi : ∀ lv, xsimple (xmN M) i aux lv (v :: st) = (match xst1 (xmN M) k v lv with
    | some l => some (l, st)
    | none => none)) (hp : pc + ilen i = pc') (hs : xst1 (xmN M) k v lv = some lv') (kk : Gw S M pc' lv' st H n ce sl Q) : Gw S M pc lv (v :: st) H n ce sl Q := by
  refine Gq_s hr hp (lv' := lv') (st' := st) ?_ kk
  rw [hi, hs]
theorem Gq_astv {i : Instr} {k : Nat} {x : Option Nat} {aux : List Nat} (hr : yrow M pc = some (pc, i, 0, aux)) (hi : ∀ lv st, xsimple (xmN M) i aux lv st = xstr1 xref (xmN M) k lv st) (hp : pc + ilen i = pc') (hs : xst1 (xmN M) k (rvl x) lv = some lv') (kk : Gw S M pc' lv' st H n ce sl Q) : Gw S M pc lv (rvl x :: st) H n ce sl Q := by
  refine Gq_s hr hp (lv' := lv') (st' := st) ?_ kk
  rw [hi]
  unfold xstr1
  dsimp only
  rw [xref_rv, hs]
  rfl
theorem Gq_alv {i : Instr} {k : Nat} {x : Option Nat} {aux : List Nat} (hr : yrow M pc = some (pc, i, 0, aux)) (hi : ∀ lv st, xsimple (xmN M) i aux lv st = xld xref lv st k) (hp : pc + ilen i = pc') (hl : xlk lv k = some (rvl x)) (kk : Gw S M pc' lv (rvl x :: st) H n ce sl Q) : Gw S M pc lv st H n ce sl Q := by
  refine Gq_s hr hp (lv' := lv) (st' := rvl x :: st) ?_ kk
  rw [hi]
  unfold xld
  rw [hl]
  dsimp only
  rw [xref_rv]
  rfl
theorem Gq_nulx {off : Int} {aux : List Nat} {t : Nat} {x : Option Nat} (hr : yrow M pc = some (pc, .ifnull off, 2, aux)) (ht : xtgt pc off = some t) (hp : pc + 3 = pc') (h0 : x = none → Gw S M t lv st H n ce sl Q) (h1 : ∀ k, x = some k → Gw S M pc' lv st H n ce sl Q) : Gw S M pc lv (rvl x :: st) H n ce sl Q := by
  cases x with
  | none => exact Gq_nul_n hr ht (h0 rfl)
  | some k => exact Gq_nul_r hr ht hp (h1 k rfl)
theorem Gq_nonx {off : Int} {aux : List Nat} {t : Nat} {x : Option Nat} (hr : yrow M pc = some (pc, .ifnonnull off, 2, aux)) (ht : xtgt pc off = some t) (hp : pc + 3 = pc') (h1 : ∀ k, x = some k → Gw S M t lv st H n ce sl Q) (h0 : x = none → Gw S M pc' lv st H n ce sl Q) : Gw S M pc lv (rvl x :: st) H n ce sl Q := by
  cases x with
  | none => exact Gq_non_n hr ht hp (h0 rfl)
  | some k => exact Gq_non_r hr ht (h1 k rfl)
/-- what may go into an array of type ti -/
def aOK (H : HF) (ti : Nat) (x : Option Nat) : Prop := ∀ k, x = some k → ∃ vs, H k = some ((xel ti).1, (xel ti).2, vs)
theorem Gq_aast {o ti N j : Nat} {a : Int} {aux : List Nat} {f : Nat → Option Nat} {v : Value} (x : Option Nat) (hr : yrow M pc = some (pc, .aastore, 1, aux)) (hp : pc + 1 = pc') (hk : H o = some (true, ti, aR N f)) (ht : (Nat.ble 3 ti && Nat.ble ti 8) = true) (hnu : x = none → Nat.ble ti 5 = true) (hv : v = rvl x) (hx : aOK H ti x) (ha : a = ((j : Nat) : Int)) (hj : j < N) (hN : N ≤ 100000) (kk : Gw S M pc' lv st (hup H o (true, ti, aR N (fset f j x))) n ce sl Q) : Gw S M pc lv (v :: .int (zI a) :: .ref o :: st) H n ce sl Q := by
  intro h hh hf
  subst hh
  subst hp
  subst ha
  subst hv
  have ht0 := ht
  have h3 : Nat.ble 3 ti = true := (Bool.and_eq_true _ _ ▸ ht : _ ∧ _).1
  have h8 : Nat.ble ti 8 = true := (Bool.and_eq_true _ _ ▸ ht : _ ∧ _).2
  have e : xasa (rvl x :: .int (nI j) :: .ref o :: st) ([], h, n, ce, sl) = some (st, ([], xhs h o (true, ti, (aR N f).set j (rvl x)), n, ce, sl)) := by
    cases x with
    | none =>
      show xast xref (fun ti => Nat.ble 3 ti && Nat.ble ti 5) (.null :: .int (nI j) :: .ref o :: st) ([], h, n, ce, sl) = _
      exact xast_at (σ := ([], h, n, ce, sl)) hk (by rw [h3, hnu rfl]; rfl) (by unfold aR; rw [aX_len]; exact hj) (by unfold aR; rw [aX_len]; omega) rfl
    | some q =>
      obtain ⟨vs, hq⟩ := hx q rfl
      show (match xhk h o, xhk h q with
        | some (true, ti, _), some (b, ci, _) => bif Nat.ble 3 ti && (Nat.ble ti 8 && ((b == (xel ti).1) && Nat.beq ci (xel ti).2)) then xast xref (fun tj => Nat.beq ti tj) (.ref q :: .int (nI j) :: .ref o :: st) ([], h, n, ce, sl) else none
        | _, _ => none) = _
      rw [hk, hq]
      dsimp only
      rw [h3, h8, Nat.beq_refl, beq_self_eq_true]
      exact xast_at (σ := ([], h, n, ce, sl)) hk (Nat.beq_refl ti) (by unfold aR; rw [aX_len]; exact hj) (by unfold aR; rw [aX_len]; omega) rfl
  show Go S M pc lv (rvl x :: .int (nI j) :: .ref o :: st) ([], h, n, ce, sl) Q
  rw [Go_heap hr (show xheap S (xmR M) .aastore aux lv (rvl x :: .int (nI j) :: .ref o :: st) ([], h, n, ce, sl) = _ from e)]
  refine kk _ ?_ (Fr_upd hf hk)
  show xhk (xhs h o _) = _
  rw [xhs_upd hk]
  unfold aR
  rw [aX_set rvl]
/-- things made -/
theorem Gq_new {idx ci : Nat} {tl : List Nat} {fs : List Value} {R : Room} (hr : yrow M pc = some (pc, .new idx, 1, ci :: tl)) (hp : pc + 3 = pc') (hR : xmR M = R) (hfs : xD ci = fs) (h1 : ce + 1 ≤ R.cells) (h2 : sl + xNf ci ≤ R.slots) (kk : Gw S M pc' lv (.ref n :: st) (hup H n (false, ci, fs)) (n + 1) (ce + 1) (sl + xNf ci) Q) : Gw S M pc lv st H n ce sl Q := by
  intro h hh hf
  subst hh
  subst hp
  subst hR
  subst hfs
  have e : xheap S (xmR M) (.new idx) (ci :: tl) lv st ([], h, n, ce, sl) = some (.ref n :: st, ([], h ++ [(n, (false, ci, xD ci))], n + 1, ce + 1, sl + xNf ci)) := by
    show (bif Nat.ble (ce + 1) (xmR M).cells && Nat.ble (sl + xNf ci) (xmR M).slots then some (Value.ref n :: st, (([] : XP), h ++ [(n, (false, ci, xD ci))], n + 1, ce + 1, sl + xNf ci)) else none) = _
    rw [Nat.ble_eq_true_of_le h1, Nat.ble_eq_true_of_le h2]
    rfl
  rw [Go_heap hr e]
  exact kk _ (xhk_push (hf n (Nat.le_refl _))) (Fr_new hf)
theorem xnewa_at {ti N : Nat} {tl : List Nat} {R : Room} {h : XH} (hN : N ≤ 1000) (h1 : ce + 1 ≤ R.cells) (h2 : sl + N ≤ R.slots) : xnewa R (ti :: tl) lv (.int (zI (N : Int)) :: st) ([], h, n, ce, sl) = some (.ref n :: st, ([], h ++ [(n, (true, ti, List.replicate N (xdv ti)))], n + 1, ce + 1, sl + N)) := by
  show (bif decide (nI N < 0) then none else bif Nat.ble ((nI N).toNatClampNeg) 1000 then xnew R lv st ([], h, n, ce, sl) (true, ti, List.replicate (nI N).toNatClampNeg (xdv ti)) (nI N).toNatClampNeg else none) = _
  rw [decide_eq_false (nI_pos (by omega)), nI_clamp (by omega), Nat.ble_eq_true_of_le hN]
  show (bif Nat.ble (ce + 1) R.cells && Nat.ble (sl + N) R.slots then some (Value.ref n :: st, (([] : XP), h ++ [(n, (true, ti, List.replicate N (xdv ti)))], n + 1, ce + 1, sl + N)) else none) = _
  rw [Nat.ble_eq_true_of_le h1, Nat.ble_eq_true_of_le h2]
  rfl
theorem rep_I (N : Nat) : List.replicate N (Value.int 0) = aI N (fun _ => 0) := by
  unfold aI
  rw [List.map_const', List.length_range]
  rfl
theorem rep_B (N : Nat) : List.replicate N (Value.int 0) = aB N (fun _ => false) := by
  unfold aB
  rw [List.map_const', List.length_range]
  rfl
theorem rep_R (N : Nat) : List.replicate N Value.null = aR N (fun _ => none) := by
  unfold aR
  rw [List.map_const', List.length_range]
  rfl
theorem Gq_newa {i : Instr} {ti N : Nat} {tl : List Nat} {vs : List Value} {R : Room} {a : Int} (hr : yrow M pc = some (pc, i, 1, ti :: tl)) (hi : ∀ σ : XS, xheap S (xmR M) i (ti :: tl) lv (.int (zI a) :: st) σ = xnewa (xmR M) (ti :: tl) lv (.int (zI a) :: st) σ) (hp : pc + ilen i = pc') (hR : xmR M = R) (ha : a = ((N : Nat) : Int)) (hN : N ≤ 1000) (hv : List.replicate N (xdv ti) = vs) (h1 : ce + 1 ≤ R.cells) (h2 : sl + N ≤ R.slots) (kk : Gw S M pc' lv (.ref n :: st) (hup H n (true, ti, vs)) (n + 1) (ce + 1) (sl + N) Q) : Gw S M pc lv (.int (zI a) :: st) H n ce sl Q := by
  intro h hh hf
  subst hh
  subst hp
  subst hR
  subst hv
  subst ha
  have e : xheap S (xmR M) i (ti :: tl) lv (.int (zI (N : Int)) :: st) ([], h, n, ce, sl) = some (.ref n :: st, ([], h ++ [(n, (true, ti, List.replicate N (xdv ti)))], n + 1, ce + 1, sl + N)) := by
    rw [hi, xnewa_at hN h1 h2]
  rw [Go_heap hr e]
  exact kk _ (xhk_push (hf n (Nat.le_refl _))) (Fr_new hf)
/-- an end -/
theorem Gq_ret {i : Instr} {aux : List Nat} {v : Option Value} {P : Option Value → HF → Nat → Prop} (hr : yrow M pc = some (pc, i, 4, aux)) (hc : (Nat.ble ce (xmR M).cells && Nat.ble sl (xmR M).slots) = true) (hv : xretv M.2.2.2.1 i st = some v) (hP : P v H n) : Gw S M pc lv st H n ce sl (MQe M P) := by
  intro h hh hf
  subst hh
  refine Go_end hr ⟨v, h, n, ?_, hf, hP⟩
  show (bif Nat.ble ce (xmR M).cells && Nat.ble sl (xmR M).slots then (match xretv M.2.2.2.1 i st with
      | some v => some (0, v, ([] : XP), h, n)
      | none => none) else none) = _
  rw [hc, hv]
  rfl
theorem xret_b (b : Bool) : xretv (some .boolean) .ireturn [.int (zI (bI b))] = some (some (.int (zI (bI b)))) := by cases b <;> rfl
theorem xret_o (s : String) (x : Option Nat) : xretv (some (.object s)) .areturn [rvl x] = some (some (rvl x)) := by cases x <;> rfl
/-- Object's own constructor, the greater and the smaller of two, a copy of ints -/
theorem Gq_oinit {i : Instr} {o : Nat} {aux : List Nat} (hr : yrow M pc = some (pc, i, 6, aux)) (hp : pc + 3 = pc') (hc : (Nat.ble 1 (xmR M).frames && Nat.ble (xcats st + 12) (xmR M).locals) = true) (kk : Gw S M pc' lv st H n ce sl Q) : Gw S M pc lv (.ref o :: st) H n ce sl Q := by
  intro h hh hf
  subst hp
  refine Eq.mpr (Go_step (pc' := pc + 3) (lv' := lv) (st' := st) (σ' := ([], h, n, ce, sl)) fun cf f => ?_) (kk h hh hf)
  obtain ⟨t, ht⟩ := xrun_row (S := S) (lv := lv) (st := .ref o :: st) (σ := ([], h, n, ce, sl)) (cf := cf) (f := f) hr
  rw [ht]
  show xoinit M (xrun xMs c0 S M cf f) (pc, i, 6, aux) t lv (.ref o :: st) ([], h, n, ce, sl) = _
  unfold xoinit
  dsimp only
  rw [hc]
  rfl
def ymx (mx : Nat) (x y : Int32) : Int32 := match mx with
  | 0 => if y < x then y else x
  | _ => if x < y then y else x
theorem Gq_mxn {i : Instr} {mx : Nat} {tl : List Nat} {a b c : Int} (hr : yrow M pc = some (pc, i, 10, mx :: tl)) (hp : pc + 3 = pc') (hz : ymx mx (zI a) (zI b) = zI c) (hc : (Nat.ble 1 (xmR M).frames && (Nat.ble (xcats st + 13) (xmR M).locals && (Nat.ble ce (xmR M).cells && Nat.ble sl (xmR M).slots))) = true) (kk : Gw S M pc' lv (.int (zI c) :: st) H n ce sl Q) : Gw S M pc lv (.int (zI b) :: .int (zI a) :: st) H n ce sl Q := by
  intro h hh hf
  subst hp
  refine Eq.mpr (Go_step (pc' := pc + 3) (lv' := lv) (st' := .int (zI c) :: st) (σ' := ([], h, n, ce, sl)) fun cf f => ?_) (kk h hh hf)
  obtain ⟨t, ht⟩ := xrun_row (S := S) (lv := lv) (st := .int (zI b) :: .int (zI a) :: st) (σ := ([], h, n, ce, sl)) (cf := cf) (f := f) hr
  rw [ht, ← hz]
  show xmath M (xrun xMs c0 S M cf f) (pc, i, 10, mx :: tl) t lv (.int (zI b) :: .int (zI a) :: st) ([], h, n, ce, sl) = _
  unfold xmath
  dsimp only
  rw [hc]
  cases mx <;> rfl
theorem Gq_min {i : Instr} {tl : List Nat} {a b : Int} (hr : yrow M pc = some (pc, i, 10, 0 :: tl)) (hp : pc + 3 = pc') (ra : -2147483648 ≤ a ∧ a < 2147483648) (rb : -2147483648 ≤ b ∧ b < 2147483648) (hc : (Nat.ble 1 (xmR M).frames && (Nat.ble (xcats st + 13) (xmR M).locals && (Nat.ble ce (xmR M).cells && Nat.ble sl (xmR M).slots))) = true) (kk : Gw S M pc' lv (.int (zI (min a b)) :: st) H n ce sl Q) : Gw S M pc lv (.int (zI b) :: .int (zI a) :: st) H n ce sl Q := by
  refine Gq_mxn hr hp ?_ hc kk
  show (if zI b < zI a then zI b else zI a) = _
  by_cases e : b < a
  · rw [if_pos ((zI_lt rb ra).mpr e), Int.min_eq_right (by omega)]
  · rw [if_neg (fun q => e ((zI_lt rb ra).mp q)), Int.min_eq_left (by omega)]
theorem Gq_max {i : Instr} {tl : List Nat} {a b : Int} (hr : yrow M pc = some (pc, i, 10, 1 :: tl)) (hp : pc + 3 = pc') (ra : -2147483648 ≤ a ∧ a < 2147483648) (rb : -2147483648 ≤ b ∧ b < 2147483648) (hc : (Nat.ble 1 (xmR M).frames && (Nat.ble (xcats st + 13) (xmR M).locals && (Nat.ble ce (xmR M).cells && Nat.ble sl (xmR M).slots))) = true) (kk : Gw S M pc' lv (.int (zI (max a b)) :: st) H n ce sl Q) : Gw S M pc lv (.int (zI b) :: .int (zI a) :: st) H n ce sl Q := by
  refine Gq_mxn hr hp ?_ hc kk
  show (if zI a < zI b then zI b else zI a) = _
  by_cases e : a < b
  · rw [if_pos ((zI_lt ra rb).mpr e), Int.max_eq_right (by omega)]
  · rw [if_neg (fun q => e ((zI_lt ra rb).mp q)), Int.max_eq_left (by omega)]
theorem xcpy_aI {N K d : Nat} {f g : Nat → Int} (h : d + N ≤ K) : xcpy (aI N f) (aI K g) d = aI K (fun k => if d ≤ k ∧ k < d + N then f (k - d) else g k) := by
  apply List.ext_getElem?
  intro k
  have l0 : ∀ (N : Nat) (f : Nat → Int), (aI N f).length = N := fun N f => aX_len _ _
  have g0 : ∀ (N : Nat) (f : Nat → Int) (k : Nat), k < N → (aI N f)[k]? = some (.int (zI (f k))) := fun N f k hk => aX_get _ hk
  rw [xcpy_get (by rw [l0, l0]; exact h), l0]
  by_cases hk : k < K
  · rw [g0 K _ k hk, g0 K _ k hk]
    by_cases e : d ≤ k ∧ k < d + N
    · rw [if_pos e, if_pos e, g0 N f _ (by omega)]
    · rw [if_neg e, if_neg e]
  · rw [if_neg (by omega), List.getElem?_eq_none (by rw [l0]; omega), List.getElem?_eq_none (by rw [l0]; omega)]
theorem Gq_copy {i : Instr} {a0 a N K d : Nat} {x y z : Int} {aux : List Nat} {f g : Nat → Int} (hr : yrow M pc = some (pc, i, 7, aux)) (hp : pc + 3 = pc') (h0 : H a0 = some (true, 0, aI N f)) (h1 : H a = some (true, 0, aI K g)) (hx : x = ((N : Nat) : Int)) (hy : y = ((d : Nat) : Int)) (hz : z = 0) (hd : d + N ≤ K) (hK : K ≤ 100000) (hc : (Nat.ble 1 (xmR M).frames && Nat.ble (xcats st + 60) (xmR M).locals) = true) (kk : Gw S M pc' lv st (hup H a (true, 0, aI K (fun k => if d ≤ k ∧ k < d + N then f (k - d) else g k))) n ce sl Q) : Gw S M pc lv (.int (zI x) :: .int (zI y) :: .ref a :: .int (zI z) :: .ref a0 :: st) H n ce sl Q := by
  intro h hh hf
  subst hh
  subst hp
  subst hx
  subst hy
  subst hz
  have l0 : ∀ (N : Nat) (f : Nat → Int), (aI N f).length = N := fun N f => aX_len _ _
  refine Eq.mpr (Go_step (pc' := pc + 3) (lv' := lv) (st' := st) (σ' := ([], xhs h a (true, 0, aI K (fun k => if d ≤ k ∧ k < d + N then f (k - d) else g k)), n, ce, sl)) fun cf r => ?_) (kk _ (xhs_upd h1) (Fr_upd hf h1))
  obtain ⟨t, ht⟩ := xrun_row (S := S) (lv := lv) (st := .int (nI N) :: .int (nI d) :: .ref a :: .int 0 :: .ref a0 :: st) (σ := ([], h, n, ce, sl)) (cf := cf) (f := r) hr
  have e : xcopy M (xrun xMs c0 S M cf r) (pc, i, 7, aux) t lv (.int (nI N) :: .int (nI d) :: .ref a :: .int 0 :: .ref a0 :: st) ([], h, n, ce, sl) = xrun xMs c0 S M cf r (xfind (xmC M) (pc + 3)) lv st ([], xhs h a (true, 0, aI K (fun k => if d ≤ k ∧ k < d + N then f (k - d) else g k)), n, ce, sl) := by
    unfold xcopy
    dsimp only
    rw [h0, h1]
    show (bif decide (nI N < 0) then none else bif decide (nI d < 0) then none else bif decide ((0 : Int32) = 0) && (Nat.beq (nI N).toNatClampNeg (aI N f).length && (Nat.ble ((nI d).toNatClampNeg + (aI N f).length) (aI K g).length && (Nat.ble 1 (xmR M).frames && Nat.ble (xcats st + 60) (xmR M).locals))) then xrun xMs c0 S M cf r (xnext (xmC M) t (pc + 3)) lv st ([], xhs h a (true, 0, xcpy (aI N f) (aI K g) (nI d).toNatClampNeg), n, ce, sl) else none) = _
    rw [decide_eq_false (nI_pos (show N < 2 ^ 31 by omega)), decide_eq_false (nI_pos (show d < 2 ^ 31 by omega)), nI_clamp (show N < 2 ^ 31 by omega), nI_clamp (show d < 2 ^ 31 by omega), l0, l0, Nat.beq_refl, Nat.ble_eq_true_of_le hd, hc, xcpy_aI hd]
    rfl
  rw [show zI 0 = (0 : Int32) from rfl, zI_nI, zI_nI, ht]
  exact e
/-- calls -/
theorem Gq_call {i : Instr} {mode k ci : Nat} {tl : List Nat} {Y : XM} {as rest : List Value} {P : Option Value → HF → Nat → Prop} (hr : yrow M pc = some (pc, i, 3, mode :: k :: ci :: tl)) (hY : xnth xMs k = some Y) (hp : pc + 3 = pc') (ha : (st.take (xmA Y)).reverse = as) (hd : st.drop (xmA Y) = rest)
    (hchk : (Nat.ble (xmA Y) st.length && (Nat.ble (xcats (st.drop (xmA Y))) 8 && (Nat.ble ((xmR Y).frames + 1) (xmR M).frames && (Nat.ble (8 + (xmN Y + 11) + (xmR Y).locals) (xmR M).locals && (Nat.ble (ce + (xmR Y).cells) (xmR M).cells && Nat.ble (sl + (xmR Y).slots) (xmR M).slots))))) = true)
    (hv : ∀ h : XH, xhk h = H → xrecv (xmode mode) ci as h = true)
    (hm : Rmt S k as H n P) (kk : ∀ v H' n', P v H' n' → Gw S M pc' lv (v.toList ++ rest) H' n' (ce + (xmR Y).cells) (sl + (xmR Y).slots) Q) : Gw S M pc lv st H n ce sl Q := by
  intro h hh hf
  subst hp
  subst hd
  subst ha
  obtain ⟨v, h', n', h1, h2, h3⟩ := hm h hh hf
  refine Go_call hr hY ?_ h1 (kk v _ n' h3 h' rfl h2)
  rw [hv h hh]
  revert hchk
  simp only [Bool.and_eq_true, Bool.and_true, and_imp]
  intro a1 a2 a3 a4 a5 a6
  exact ⟨a1, a2, a3, a4, a5, a6⟩
theorem xrecv_v {mode ci o : Nat} {as fs : List Value} (hmo : xmode mode = 1) (hk : H o = some (false, ci, fs)) : ∀ h : XH, xhk h = H → xrecv (xmode mode) ci (.ref o :: as) h = true := by
  intro h hh
  subst hh
  rw [hmo]
  show (match xhk h o with
    | some (false, cj, _) => Nat.beq ci cj
    | _ => false) = true
  rw [hk]
  exact Nat.beq_refl ci
/-- a call by the receiver's class -/
theorem Gq_callv {i : Instr} {mode k ci o : Nat} {tl : List Nat} {Y : XM} {as rest fs : List Value} {P : Option Value → HF → Nat → Prop} {ce' sl' : Nat} (hr : yrow M pc = some (pc, i, 3, mode :: k :: ci :: tl)) (hY : xnth xMs k = some Y) (hmo : xmode mode = 1) (hp : pc + 3 = pc') (ha : (st.take (xmA Y)).reverse = .ref o :: as) (hd : st.drop (xmA Y) = rest) (hce : ce + (xmR Y).cells = ce') (hsl : sl + (xmR Y).slots = sl')
    (hchk : (Nat.ble (xmA Y) st.length && (Nat.ble (xcats (st.drop (xmA Y))) 8 && (Nat.ble ((xmR Y).frames + 1) (xmR M).frames && (Nat.ble (8 + (xmN Y + 11) + (xmR Y).locals) (xmR M).locals && (Nat.ble (ce + (xmR Y).cells) (xmR M).cells && Nat.ble (sl + (xmR Y).slots) (xmR M).slots))))) = true)
    (hm : Rmt S k (.ref o :: as) H n P) (hk : H o = some (false, ci, fs)) (kk : ∀ v H' n', P v H' n' → Gw S M pc' lv (v.toList ++ rest) H' n' ce' sl' Q) : Gw S M pc lv st H n ce sl Q := by
  subst hce
  subst hsl
  exact Gq_call hr hY hp ha hd hchk (xrecv_v hmo hk) hm kk
/-- a static call, or a constructor's -/
theorem Gq_calls {i : Instr} {mode k ci : Nat} {tl : List Nat} {Y : XM} {as rest : List Value} {P : Option Value → HF → Nat → Prop} {ce' sl' : Nat} (hr : yrow M pc = some (pc, i, 3, mode :: k :: ci :: tl)) (hY : xnth xMs k = some Y) (hp : pc + 3 = pc') (ha : (st.take (xmA Y)).reverse = as) (hd : st.drop (xmA Y) = rest) (hce : ce + (xmR Y).cells = ce') (hsl : sl + (xmR Y).slots = sl')
    (hchk : (Nat.ble (xmA Y) st.length && (Nat.ble (xcats (st.drop (xmA Y))) 8 && (Nat.ble ((xmR Y).frames + 1) (xmR M).frames && (Nat.ble (8 + (xmN Y + 11) + (xmR Y).locals) (xmR M).locals && (Nat.ble (ce + (xmR Y).cells) (xmR M).cells && Nat.ble (sl + (xmR Y).slots) (xmR M).slots))))) = true)
    (hv : xrecv (xmode mode) ci as [] = true) (hm0 : Nat.beq (xmode mode) 1 = false)
    (hm : Rmt S k as H n P) (kk : ∀ v H' n', P v H' n' → Gw S M pc' lv (v.toList ++ rest) H' n' ce' sl' Q) : Gw S M pc lv st H n ce sl Q := by
  subst hce
  subst hsl
  refine Gq_call hr hY hp ha hd hchk (fun h _ => ?_) hm kk
  revert hv hm0
  generalize xmode mode = x
  match x, as with
  | 0, _ => intro _ _; rfl
  | 1, _ => intro _ q; cases q
  | 2, .ref _ :: _ => intro _ _; rfl
  | 2, [] => intro q; cases q
  | 2, .null :: _ => intro q; cases q
  | 2, .int _ :: _ => intro q; cases q
  | 2, .float _ :: _ => intro q; cases q
  | 2, .long _ :: _ => intro q; cases q
  | 2, .double _ :: _ => intro q; cases q
  | 2, .retAddr _ :: _ => intro q; cases q
  | _ + 3, _ => intro q; cases q
/-- a call whose answer is told -/
theorem Gq_callv1 {i : Instr} {mode k ci o : Nat} {tl : List Nat} {Y : XM} {as rest fs : List Value} {v : Option Value} {H' : HF} {n' : Nat} {ce' sl' : Nat} (hr : yrow M pc = some (pc, i, 3, mode :: k :: ci :: tl)) (hY : xnth xMs k = some Y) (hmo : xmode mode = 1) (hp : pc + 3 = pc') (ha : (st.take (xmA Y)).reverse = .ref o :: as) (hd : st.drop (xmA Y) = rest) (hce : ce + (xmR Y).cells = ce') (hsl : sl + (xmR Y).slots = sl')
    (hchk : (Nat.ble (xmA Y) st.length && (Nat.ble (xcats (st.drop (xmA Y))) 8 && (Nat.ble ((xmR Y).frames + 1) (xmR M).frames && (Nat.ble (8 + (xmN Y + 11) + (xmR Y).locals) (xmR M).locals && (Nat.ble (ce + (xmR Y).cells) (xmR M).cells && Nat.ble (sl + (xmR Y).slots) (xmR M).slots))))) = true)
    (hm : Rdt S k (.ref o :: as) H n v H' n') (hs : v.toList ++ rest = st') (hk : H o = some (false, ci, fs)) (kk : Gw S M pc' lv st' H' n' ce' sl' Q) : Gw S M pc lv st H n ce sl Q := by
  refine Gq_callv hr hY hmo hp ha hd hce hsl hchk hm hk ?_
  rintro v H' n' ⟨rfl, rfl, rfl⟩
  subst hs
  exact kk
theorem Gq_calls1 {i : Instr} {mode k ci : Nat} {tl : List Nat} {Y : XM} {as rest : List Value} {v : Option Value} {H' : HF} {n' : Nat} {ce' sl' : Nat} (hr : yrow M pc = some (pc, i, 3, mode :: k :: ci :: tl)) (hY : xnth xMs k = some Y) (hp : pc + 3 = pc') (ha : (st.take (xmA Y)).reverse = as) (hd : st.drop (xmA Y) = rest) (hce : ce + (xmR Y).cells = ce') (hsl : sl + (xmR Y).slots = sl')
    (hchk : (Nat.ble (xmA Y) st.length && (Nat.ble (xcats (st.drop (xmA Y))) 8 && (Nat.ble ((xmR Y).frames + 1) (xmR M).frames && (Nat.ble (8 + (xmN Y + 11) + (xmR Y).locals) (xmR M).locals && (Nat.ble (ce + (xmR Y).cells) (xmR M).cells && Nat.ble (sl + (xmR Y).slots) (xmR M).slots))))) = true)
    (hv : xrecv (xmode mode) ci as [] = true) (hm0 : Nat.beq (xmode mode) 1 = false)
    (hm : Rdt S k as H n v H' n') (hs : v.toList ++ rest = st') (kk : Gw S M pc' lv st' H' n' ce' sl' Q) : Gw S M pc lv st H n ce sl Q := by
  refine Gq_calls hr hY hp ha hd hce hsl hchk hv hm0 hm ?_
  rintro v H' n' ⟨rfl, rfl, rfl⟩
  subst hs
  exact kk
end
end XJ0
end
section
/-! pictures: claims, versions, choices, wishes; btn -/
section XK1
/-- a claim: target, condition, features, first and end of its marks -/
abbrev CR : Type := Nat × Int × Nat × Int × Int
def cT (c : CR) : Nat := c.1
def cC (c : CR) : Int := c.2.1
def cF (c : CR) : Nat := c.2.2.1
def cA (c : CR) : Int := c.2.2.2.1
def cE (c : CR) : Int := c.2.2.2.2
def cOK (c : CR) : Prop := cT c < 12 ∧ (-1 ≤ cC c ∧ cC c < 4) ∧ cF c < 16 ∧ (0 ≤ cA c ∧ cA c ≤ 1000000) ∧ (0 ≤ cE c ∧ cE c ≤ 1000000)
/-- a version: number, mark, size, withdrawn, needs, clashes -/
abbrev VR : Type := Nat × Int × Int × Bool × List CR × List CR
def vN (v : VR) : Nat := v.1
def vM (v : VR) : Int := v.2.1
def vS (v : VR) : Int := v.2.2.1
def vW (v : VR) : Bool := v.2.2.2.1
def vQ (v : VR) : List CR := v.2.2.2.2.1
def vK (v : VR) : List CR := v.2.2.2.2.2
/-- the first number of what is made in the course of a time -/
def ClaimAt (H : HF) (o : Nat) (c : CR) (nx : Value) : Prop := 119 ≤ o ∧ cOK c ∧ ∃ r, 119 ≤ r ∧ H r = some (false, 9, [.int (zI (cA c)), .int (zI (cE c))]) ∧ H o = some (false, 8, [.int (zI (cT c : Int)), .int (zI (cC c)), .int (zI (cF c : Int)), .ref r, nx])
def ChnAt (H : HF) : Option Nat → List CR → Prop
  | x, [] => x = none
  | x, c :: t => ∃ o nx, x = some o ∧ ClaimAt H o c (rvl nx) ∧ ChnAt H nx t
def VerAt (H : HF) (o : Nat) (v : VR) : Prop := 119 ≤ o ∧ (vN v < 8 ∧ (0 ≤ vM v ∧ vM v < 1000000) ∧ (1 ≤ vS v ∧ vS v ≤ 999)) ∧ ∃ f g, H o = some (false, 10, [.int (zI (vN v : Int)), .int (zI (vM v)), .int (zI (vS v)), .int (zI (bI (vW v))), rvl f, .int (zI ((vQ v).length : Int)), rvl g, .int (zI ((vK v).length : Int))]) ∧ ChnAt H f (vQ v) ∧ ChnAt H g (vK v)
/-- the versions that there are -/
def VsA (H : HF) (vr : Nat → VR) (V : Nat → Prop) : Prop := ∀ o, V o → VerAt H o (vr o)
/-- a choice takes versions that there are -/
def ChV (V : Nat → Prop) (ch : Nat → Option Nat) : Prop := ∀ p o, p < 12 → ch p = some o → V o
def aNt (N : Nat) (f : Nat → Nat) : List Value := aI N (fun p => (f p : Int))
theorem aN_ext {N : Nat} {f g : Nat → Nat} (h : ∀ p, p < N → f p = g p) : aNt N f = aNt N g := aX_ext fun j hj => congrArg (fun z : Nat => Value.int (zI (z : Int))) (h j hj)
theorem aN_fset (N : Nat) (f : Nat → Nat) (j x : Nat) : aI N (fset (fun p => (f p : Int)) j (x : Int)) = aNt N (fset f j x) := by
  refine aX_ext fun i _ => ?_
  unfold fset
  dsimp only
  by_cases h : i = j
  · rw [if_pos h, if_pos h]
  · rw [if_neg h, if_neg h]
theorem ClaimAt_upd {H : HF} {o i : Nat} {c : CR} {nx : Value} {d : XCl} (hi : i < 119) (h : ClaimAt H o c nx) : ClaimAt (hup H i d) o c nx := by
  obtain ⟨h1, h2, r, h3, h4, h5⟩ := h
  exact ⟨h1, h2, r, h3, by rw [upd_ne _ _ (by omega)]; exact h4, by rw [upd_ne _ _ (by omega)]; exact h5⟩
theorem ChainAt_upd {H : HF} {i : Nat} {d : XCl} (hi : i < 119) : ∀ {l : List CR} {x : Option Nat}, ChnAt H x l → ChnAt (hup H i d) x l
  | [], _, h => h
  | c :: t, x, ⟨o, nx, h1, h2, h3⟩ => ⟨o, nx, h1, ClaimAt_upd hi h2, ChainAt_upd hi h3⟩
theorem VerAt_upd {H : HF} {o i : Nat} {v : VR} {d : XCl} (hi : i < 119) (h : VerAt H o v) : VerAt (hup H i d) o v := by
  obtain ⟨h1, h2, f, g, h3, h4, h5⟩ := h
  exact ⟨h1, h2, f, g, by rw [upd_ne _ _ (by omega)]; exact h3, ChainAt_upd hi h4, ChainAt_upd hi h5⟩
theorem VS_upd {H : HF} {vr : Nat → VR} {V : Nat → Prop} {i : Nat} {d : XCl} (hi : i < 119) (h : VsA H vr V) : VsA (hup H i d) vr V := fun o ho => VerAt_upd hi (h o ho)
theorem VS_ok {H : HF} {vr : Nat → VR} {V : Nat → Prop} {o : Nat} (h : VsA H vr V) (ho : V o) : ∃ vs, H o = some (false, 10, vs) := by
  obtain ⟨-, -, f, g, h3, -⟩ := h o ho
  exact ⟨_, h3⟩
theorem VS_aOK {H : HF} {vr : Nat → VR} {V : Nat → Prop} {ch : Nat → Option Nat} {p : Nat} (h : VsA H vr V) (hc : ChV V ch) (hp : p < 12) : aOK H 3 (ch p) := fun k hk => VS_ok h (hc p k hp hk)
theorem VS_rvOK {H : HF} {vr : Nat → VR} {V : Nat → Prop} {ch : Nat → Option Nat} {p : Nat} (h : VsA H vr V) (hc : ChV V ch) (hp : p < 12) : rvOK H (ch p) := fun k hk => by
  obtain ⟨vs, hv⟩ := VS_ok h (hc p k hp hk)
  exact ⟨_, hv⟩

/-- alike in all that is made in the course of a time -/
def Hi (H G : HF) : Prop := ∀ o, 119 ≤ o → G o = H o
theorem Hi_refl (H : HF) : Hi H H := fun _ _ => rfl
theorem Hi_trans {H G K : HF} (h1 : Hi H G) (h2 : Hi G K) : Hi H K := fun o ho => (h2 o ho).trans (h1 o ho)
theorem Hi_upd {H G : HF} {i : Nat} {d : XCl} (h : Hi H G) (hi : i < 119) : Hi H (hup G i d) := fun o ho => by rw [upd_ne _ _ (by omega)]; exact h o ho
theorem ClaimAt_hi {H G : HF} (hh : Hi H G) {o : Nat} {c : CR} {nx : Value} (h : ClaimAt H o c nx) : ClaimAt G o c nx := by
  obtain ⟨h1, h2, r, h3, h4, h5⟩ := h
  exact ⟨h1, h2, r, h3, by rw [hh r h3]; exact h4, by rw [hh o h1]; exact h5⟩
theorem ChainAt_hi {H G : HF} (hh : Hi H G) : ∀ {l : List CR} {x : Option Nat}, ChnAt H x l → ChnAt G x l
  | [], _, h => h
  | c :: t, x, ⟨o, nx, h1, h2, h3⟩ => ⟨o, nx, h1, ClaimAt_hi hh h2, ChainAt_hi hh h3⟩
theorem VerAt_hi {H G : HF} (hh : Hi H G) {o : Nat} {v : VR} (h : VerAt H o v) : VerAt G o v := by
  obtain ⟨h1, h2, f, g, h3, h4, h5⟩ := h
  exact ⟨h1, h2, f, g, by rw [hh o h1]; exact h3, ChainAt_hi hh h4, ChainAt_hi hh h5⟩
theorem VS_hi {H G : HF} (hh : Hi H G) {vr : Nat → VR} {V : Nat → Prop} (h : VsA H vr V) : VsA G vr V := fun o ho => VerAt_hi hh (h o ho)
/-! btn -/
def btb (x : Int32) (i : Nat) : Bool := x.toBitVec.getLsbD i
theorem b_ext {x y : Int32} (h : ∀ i, i < 32 → btb x i = btb y i) : x = y := Int32.toBitVec_inj.mp (BitVec.eq_of_getLsbD_eq (fun i hi => h i hi))
theorem b_or (x y : Int32) (i : Nat) : btb (x ||| y) i = (btb x i || btb y i) := by unfold btb; rw [Int32.toBitVec_or, BitVec.getLsbD_or]
theorem b_and (x y : Int32) (i : Nat) : btb (x &&& y) i = (btb x i && btb y i) := by unfold btb; rw [Int32.toBitVec_and, BitVec.getLsbD_and]
theorem b_xor (x y : Int32) (i : Nat) : btb (x ^^^ y) i = (btb x i ^^ btb y i) := by unfold btb; rw [Int32.toBitVec_xor, BitVec.getLsbD_xor]
theorem s_l : ∀ n, n < 32 → ((nI n &&& 31).toBitVec.smod 32).toNat = n := by decide +kernel
theorem b_sshr (n : Nat) (hn : n < 32) (x : Int32) {i : Nat} (hi : i < 32) : btb (x >>> (nI n &&& 31)) i = if n + i < 32 then btb x (n + i) else btb x 31 := by
  unfold btb
  rw [Int32.toBitVec_shiftRight]
  show (x.toBitVec.sshiftRight ((nI n &&& 31).toBitVec.smod 32).toNat).getLsbD i = _
  rw [s_l n hn, BitVec.getLsbD_sshiftRight, BitVec.msb_eq_getLsbD_last]
  simp [hi]
theorem bt_z (a : Nat) {i : Nat} (hi : i < 32) : btb (zI (a : Int)) i = a.testBit i := by
  rw [zI_nI]
  show (BitVec.ofNat 32 a).getLsbD i = _
  rw [BitVec.getLsbD_ofNat]
  simp [hi]
theorem z_or (a b : Nat) : zI (a : Int) ||| zI (b : Int) = zI ((a ||| b : Nat) : Int) := b_ext fun i hi => by
  rw [b_or, bt_z _ hi, bt_z _ hi, bt_z _ hi, Nat.testBit_or]
theorem z_and (a b : Nat) : zI (a : Int) &&& zI (b : Int) = zI ((a &&& b : Nat) : Int) := b_ext fun i hi => by
  rw [b_and, bt_z _ hi, bt_z _ hi, bt_z _ hi, Nat.testBit_and]
theorem z_shr {a p : Nat} (ha : a < 4096) (hp : p < 31) : zI (a : Int) >>> (zI (p : Int) &&& 31) = zI ((a >>> p : Nat) : Int) := b_ext fun i hi => by
  rw [zI_nI p, b_sshr p (by omega) _ hi, bt_z _ hi, Nat.testBit_shiftRight]
  by_cases h : p + i < 32
  · rw [if_pos h, bt_z _ h]
  · rw [if_neg h, bt_z _ (by omega), Nat.testBit_lt_two_pow (Nat.lt_of_lt_of_le ha (Nat.pow_le_pow_right (n := 2) (by omega) (show 12 ≤ 31 by omega))), Nat.testBit_lt_two_pow (Nat.lt_of_lt_of_le ha (Nat.pow_le_pow_right (n := 2) (by omega) (show 12 ≤ p + i by omega)))]
theorem z_shl : ∀ p : Nat, p < 12 → zI 1 <<< (zI (p : Int) &&& 31) = zI ((2 ^ p : Nat) : Int) := by decide +kernel
theorem bt_1 : ∀ i, i < 32 → btb 1 i = decide (i = 0) := by decide +kernel
theorem and1 (x : Int32) : x &&& 1 = zI (bI (decide (¬ x &&& 1 = 0))) := by
  have h : x &&& 1 = 0 ∨ x &&& 1 = 1 := by
    cases hb : btb x 0 with
    | false =>
      refine .inl (b_ext fun i hi => ?_)
      rw [b_and, bt_1 i hi, show btb 0 i = false from BitVec.getLsbD_zero]
      by_cases e : i = 0
      · rw [e, hb]; rfl
      · rw [decide_eq_false e, Bool.and_false]
    | true =>
      refine .inr (b_ext fun i hi => ?_)
      rw [b_and, bt_1 i hi]
      by_cases e : i = 0
      · rw [e, hb]; rfl
      · rw [decide_eq_false e, Bool.and_false]
  rcases h with h | h
  · rw [h]; rfl
  · rw [h]; rfl
/-- a set of packages, asked for one -/
def isInB (x : Int32) (p : Nat) : Bool := decide (¬ (x >>> (zI (p : Int) &&& 31)) &&& 1 = 0)
theorem tb_and (a p : Nat) : (a >>> p) &&& 1 = if a.testBit p then 1 else 0 := by
  rw [Nat.and_one_is_mod, Nat.testBit_eq_decide_div_mod_eq, Nat.shiftRight_eq_div_pow]
  rcases Nat.mod_two_eq_zero_or_one (a / 2 ^ p) with h | h
  · rw [h]; rfl
  · rw [h]; rfl
theorem isInB_z {a p : Nat} (ha : a < 4096) (hp : p < 31) : isInB (zI (a : Int)) p = a.testBit p := by
  unfold isInB
  rw [z_shr ha hp, show (1 : Int32) = zI ((1 : Nat) : Int) from rfl, z_and, tb_and]
  cases a.testBit p <;> rfl

/-! what the class makes of it -/
def nmOf (vr : Nat → VR) : Option Nat → Int
  | none => -1
  | some o => (vN (vr o) : Int)
def szOf (vr : Nat → VR) : Option Nat → Int
  | none => 0
  | some o => vS (vr o)
/-- whether a claim counts -/
def cCnt (c : CR) (f : Nat) : Bool := decide (cC c < 0) || f.testBit (cC c).toNat
/-- whether a claim lets a mark in -/
def cIn (c : CR) (m : Int) : Bool := decide (cA c ≤ m) && decide (m < cE c)
def sumTo (f : Nat → Int) : Nat → Int
  | 0 => 0
  | k + 1 => sumTo f k + f k
def cntTo (f : Nat → Bool) : Nat → Nat
  | 0 => 0
  | k + 1 => cntTo f k + (if f k then 1 else 0)
theorem cntTo_le (f : Nat → Bool) : ∀ k, cntTo f k ≤ k
  | 0 => Nat.le_refl 0
  | k + 1 => by
    have := cntTo_le f k
    show cntTo f k + (if f k then 1 else 0) ≤ k + 1
    split <;> omega
def diffs (a b : Nat → Option Nat) : Nat := cntTo (fun p => decide (¬ a p = b p)) 12
/-- one claim turned on -/
def tOn (ch : Nat → Option Nat) (on : Nat → Nat) (c : CR) : Nat → Nat := if ch (cT c) = none then on else fset on (cT c) (on (cT c) ||| cF c)
def grwn (ch : Nat → Option Nat) (on : Nat → Nat) (c : CR) : Bool := decide (¬ tOn ch on c (cT c) = on (cT c))
def nOne (ch : Nat → Option Nat) (p : Nat) (s : (Nat → Nat) × Bool) (c : CR) : (Nat → Nat) × Bool := if cCnt c (s.1 p) then (tOn ch s.1 c, s.2 || grwn ch s.1 c) else s
def nPk (vr : Nat → VR) (ch : Nat → Option Nat) (p : Nat) (s : (Nat → Nat) × Bool) : (Nat → Nat) × Bool :=
  match ch p with
  | none => s
  | some o => (vQ (vr o)).foldl (nOne ch p) s
def nRun (vr : Nat → VR) (ch : Nat → Option Nat) : Nat → Nat → (Nat → Nat) × Bool → (Nat → Nat) × Bool
  | 0, _, s => s
  | k + 1, j, s => nRun vr ch k (j + 1) (nPk vr ch j s)
def tofRun (vr : Nat → VR) (ch : Nat → Option Nat) : Nat → (Nat → Nat) → Nat → Nat
  | 0, on => on
  | k + 1, on => if (nRun vr ch 12 0 (on, false)).2 then tofRun vr ch k (nRun vr ch 12 0 (on, false)).1 else (nRun vr ch 12 0 (on, false)).1
/-- the features that are on -/
def onF (vr : Nat → VR) (ch : Nat → Option Nat) (wl : List CR) : Nat → Nat := tofRun vr ch 49 (wl.foldl (tOn ch) (fun _ => 0))
/-- features stay below 16 -/
def o16 (on : Nat → Nat) : Prop := ∀ p, on p < 16
theorem o16_0 : o16 (fun _ => 0) := fun _ => by show 0 < 16; omega
theorem o16_tOn {ch : Nat → Option Nat} {on : Nat → Nat} {c : CR} (h : o16 on) (hc : cOK c) : o16 (tOn ch on c) := by
  intro p
  unfold tOn
  by_cases e : ch (cT c) = none
  · rw [if_pos e]
    exact h p
  · rw [if_neg e]
    by_cases e2 : p = cT c
    · subst e2
      rw [fset_eq]
      exact Nat.or_lt_two_pow (n := 4) (h _) hc.2.2.1
    · rw [fset_ne _ _ e2]
      exact h p
/-- a choice's cells -/
def ChAt (H : HF) (t : Nat) (ch : Nat → Option Nat) (on : Nat → Nat) : Prop := H t = some (false, 2, [.ref (t + 1), .ref (t + 2)]) ∧ H (t + 1) = some (true, 3, aR 12 ch) ∧ H (t + 2) = some (true, 0, aNt 12 on)
/-- the wishes' cells -/
def WiAt (H : HF) (w : Nat) (wl : List CR) : Prop := H w = some (false, 6, [.ref (w + 1), .int (zI (wl.length : Int))]) ∧ wl.length ≤ 6 ∧ ∃ wc, H (w + 1) = some (true, 5, aR 6 wc) ∧ ∀ i c, wl[i]? = some c → ∃ o nx, wc i = some o ∧ ClaimAt H o c nx
theorem WiAt_upd {H : HF} {w i : Nat} {wl : List CR} {d : XCl} (hi : i < 119) (h1 : ¬ i = w) (h2 : ¬ i = w + 1) (h : WiAt H w wl) : WiAt (hup H i d) w wl := by
  obtain ⟨a, b, wc, c, e⟩ := h
  refine ⟨by rw [upd_ne _ _ (by omega)]; exact a, b, wc, by rw [upd_ne _ _ (by omega)]; exact c, fun i x hx => ?_⟩
  obtain ⟨o, nx, q1, q2⟩ := e i x hx
  exact ⟨o, nx, q1, ClaimAt_upd hi q2⟩
theorem WiAt_hi {H G : HF} {w : Nat} {wl : List CR} (hh : Hi H G) (h1 : G w = H w) (h2 : G (w + 1) = H (w + 1)) (h : WiAt H w wl) : WiAt G w wl := by
  obtain ⟨a, b, wc, c, e⟩ := h
  refine ⟨h1.trans a, b, wc, h2.trans c, fun i x hx => ?_⟩
  obtain ⟨o, nx, q1, q2⟩ := e i x hx
  exact ⟨o, nx, q1, ClaimAt_hi hh q2⟩
end XK1
end
section
/-! leaves (printed by wip/p46/gen22.py) -/
section XK2
theorem t_isIn {S : ScT} (H : HF) (n : Nat) (x : Int32) (p : Nat) : Rdt S 61 [.int x, .int (zI (p : Int))] H n (some (.int (zI (bI (isInB x p))))) H n := by
  refine Rm_of (M := xm61) (lv := [(0, _), (1, _)]) rfl rfl rfl ?_
  refine Gq_s (pc' := 1) rfl rfl rfl ?_
  refine Gq_s (pc' := 2) rfl rfl rfl ?_
  refine Gq_ishr (pc' := 3) (_) rfl rfl (rfl) ?_
  refine Gq_s (pc' := 4) rfl rfl rfl ?_
  refine Gq_iand (pc' := 5) (zI (bI (isInB x p))) rfl rfl (and1 _) ?_
  refine Gq_beq (pc' := 8) (t := 12) rfl rfl rfl (fun hb => ?_) (fun hb => ?_)
  · refine Gq_s (pc' := 13) rfl rfl rfl ?_
    exact Gq_ret rfl rfl (rfl) (⟨by rw [hb]; rfl, rfl, rfl⟩)
  · refine Gq_s (pc' := 9) rfl rfl rfl ?_
    refine Gq_goto rfl (t := 13) rfl ?_
    exact Gq_ret rfl rfl (rfl) (⟨by rw [hb]; rfl, rfl, rfl⟩)
theorem t_numberOfn {S : ScT} (H : HF) (n : Nat) (vr : Nat → VR) : Rdt S 59 [.null] H n (some (.int (zI (nmOf vr none)))) H n := by
  refine Rm_of (M := xm59) (lv := [(0, _)]) rfl rfl rfl ?_
  refine Gq_s (pc' := 1) rfl rfl rfl ?_
  refine Gq_non_n (pc' := 4) (t := 8) rfl rfl rfl ?_
  refine Gq_s (pc' := 5) rfl rfl rfl ?_
  refine Gq_goto rfl (t := 12) rfl ?_
  exact Gq_ret rfl rfl (rfl) (⟨rfl, rfl, rfl⟩)
theorem t_numberOfr {S : ScT} {H : HF} (n : Nat) {vr : Nat → VR} {k : Nat} (hk : VerAt H k (vr k)) : Rdt S 59 [.ref k] H n (some (.int (zI (nmOf vr (some k))))) H n := by
  refine Rm_of (M := xm59) (lv := [(0, _)]) rfl rfl rfl ?_
  obtain ⟨-, -, f, g, h0, -⟩ := hk
  refine Gq_s (pc' := 1) rfl rfl rfl ?_
  refine Gq_non_r rfl (t := 8) rfl ?_
  refine Gq_s (pc' := 9) rfl rfl rfl ?_
  refine Gq_get (pc' := 12) rfl rfl (by first | assumption | exact upd_eq _ _ _ | (refine (upd_ne _ _ (by omega)).trans ?_; first | assumption | exact upd_eq _ _ _ | (refine (upd_ne _ _ (by omega)).trans ?_; first | assumption | exact upd_eq _ _ _ | (refine (upd_ne _ _ (by omega)).trans ?_; first | assumption | exact upd_eq _ _ _)))) (by exact rfl) ?_
  exact Gq_ret rfl rfl (rfl) (⟨rfl, rfl, rfl⟩)
theorem t_numberOf {S : ScT} {H : HF} (n : Nat) {vr : Nat → VR} {x : Option Nat} (hx : ∀ k, x = some k → VerAt H k (vr k)) : Rdt S 59 [rvl x] H n (some (.int (zI (nmOf vr x)))) H n := by
  cases x with
  | none => exact t_numberOfn H n vr
  | some k => exact t_numberOfr n (hx k rfl)
theorem t_sizeOfn {S : ScT} (H : HF) (n : Nat) (vr : Nat → VR) : Rdt S 60 [.null] H n (some (.int (zI (szOf vr none)))) H n := by
  refine Rm_of (M := xm60) (lv := [(0, _)]) rfl rfl rfl ?_
  refine Gq_s (pc' := 1) rfl rfl rfl ?_
  refine Gq_non_n (pc' := 4) (t := 8) rfl rfl rfl ?_
  refine Gq_s (pc' := 5) rfl rfl rfl ?_
  refine Gq_goto rfl (t := 12) rfl ?_
  exact Gq_ret rfl rfl (rfl) (⟨rfl, rfl, rfl⟩)
theorem t_sizeOfr {S : ScT} {H : HF} (n : Nat) {vr : Nat → VR} {k : Nat} (hk : VerAt H k (vr k)) : Rdt S 60 [.ref k] H n (some (.int (zI (szOf vr (some k))))) H n := by
  refine Rm_of (M := xm60) (lv := [(0, _)]) rfl rfl rfl ?_
  obtain ⟨-, -, f, g, h0, -⟩ := hk
  refine Gq_s (pc' := 1) rfl rfl rfl ?_
  refine Gq_non_r rfl (t := 8) rfl ?_
  refine Gq_s (pc' := 9) rfl rfl rfl ?_
  refine Gq_get (pc' := 12) rfl rfl (by first | assumption | exact upd_eq _ _ _ | (refine (upd_ne _ _ (by omega)).trans ?_; first | assumption | exact upd_eq _ _ _ | (refine (upd_ne _ _ (by omega)).trans ?_; first | assumption | exact upd_eq _ _ _ | (refine (upd_ne _ _ (by omega)).trans ?_; first | assumption | exact upd_eq _ _ _)))) (by exact rfl) ?_
  exact Gq_ret rfl rfl (rfl) (⟨rfl, rfl, rfl⟩)
theorem t_sizeOf {S : ScT} {H : HF} (n : Nat) {vr : Nat → VR} {x : Option Nat} (hx : ∀ k, x = some k → VerAt H k (vr k)) : Rdt S 60 [rvl x] H n (some (.int (zI (szOf vr x)))) H n := by
  cases x with
  | none => exact t_sizeOfn H n vr
  | some k => exact t_sizeOfr n (hx k rfl)
theorem t_countsWith {S : ScT} {H : HF} (n : Nat) {q f : Nat} {c : CR} {nx : Value} (hc : ClaimAt H q c nx) (hf : f < 16) : Rdt S 90 [.ref q, .int (zI (f : Int))] H n (some (.int (zI (bI (cCnt c f))))) H n := by
  refine Rm_of (M := xm90) (lv := [(0, _), (1, _)]) rfl rfl rfl ?_
  obtain ⟨-, ⟨-, hC, -⟩, r, -, -, h0⟩ := hc
  refine Gq_s (pc' := 1) rfl rfl rfl ?_
  refine Gq_get (pc' := 4) rfl rfl (by first | assumption | exact upd_eq _ _ _ | (refine (upd_ne _ _ (by omega)).trans ?_; first | assumption | exact upd_eq _ _ _ | (refine (upd_ne _ _ (by omega)).trans ?_; first | assumption | exact upd_eq _ _ _ | (refine (upd_ne _ _ (by omega)).trans ?_; first | assumption | exact upd_eq _ _ _)))) (by exact rfl) ?_
  refine Gq_zlt (pc' := 7) (t := 18) rfl rfl rfl (by omega) (fun hb => ?_) (fun hb => ?_)
  · refine Gq_s (pc' := 19) rfl rfl rfl ?_
    refine Gq_goto rfl (t := 23) rfl ?_
    exact Gq_ret rfl rfl (rfl) (⟨by unfold cCnt; rw [decide_eq_true hb]; rfl, rfl, rfl⟩)
  · refine Gq_s (pc' := 8) rfl rfl rfl ?_
    refine Gq_s (pc' := 9) rfl rfl rfl ?_
    refine Gq_get (pc' := 12) rfl rfl (by first | assumption | exact upd_eq _ _ _ | (refine (upd_ne _ _ (by omega)).trans ?_; first | assumption | exact upd_eq _ _ _ | (refine (upd_ne _ _ (by omega)).trans ?_; first | assumption | exact upd_eq _ _ _ | (refine (upd_ne _ _ (by omega)).trans ?_; first | assumption | exact upd_eq _ _ _)))) (by exact rfl) ?_
    refine Gq_ishr (pc' := 13) (zI ((f >>> (cC c).toNat : Nat) : Int)) rfl rfl (by rw [show cC c = (((cC c).toNat : Nat) : Int) by omega]; exact z_shr (by omega) (by omega)) ?_
    refine Gq_s (pc' := 14) rfl rfl rfl ?_
    refine Gq_iand (pc' := 15) (zI (bI (f.testBit (cC c).toNat))) rfl rfl (by rw [show Int32.ofInt 1 = zI ((1 : Nat) : Int) from rfl, z_and, tb_and]; cases f.testBit (cC c).toNat <;> rfl) ?_
    refine Gq_beq (pc' := 18) (t := 22) rfl rfl rfl (fun h2 => ?_) (fun h2 => ?_)
    · refine Gq_s (pc' := 23) rfl rfl rfl ?_
      exact Gq_ret rfl rfl (rfl) (⟨by unfold cCnt; rw [decide_eq_false hb, h2]; rfl, rfl, rfl⟩)
    · refine Gq_s (pc' := 19) rfl rfl rfl ?_
      refine Gq_goto rfl (t := 23) rfl ?_
      exact Gq_ret rfl rfl (rfl) (⟨by unfold cCnt; rw [decide_eq_false hb, h2]; rfl, rfl, rfl⟩)
theorem t_admits {S : ScT} {H : HF} (n : Nat) {r k : Nat} {c : CR} {v : VR} (h1 : H r = some (false, 9, [.int (zI (cA c)), .int (zI (cE c))])) (hc : cOK c) (hk : VerAt H k v) : Rdt S 107 [.ref r, .ref k] H n (some (.int (zI (bI (cIn c (vM v)))))) H n := by
  refine Rm_of (M := xm107) (lv := [(0, _), (1, _)]) rfl rfl rfl ?_
  obtain ⟨-, -, -, hA, hE⟩ := hc
  obtain ⟨-, ⟨-, hM, -⟩, f, g, h0, -⟩ := hk
  refine Gq_s (pc' := 1) rfl rfl rfl ?_
  refine Gq_get (pc' := 4) rfl rfl (by first | assumption | exact upd_eq _ _ _ | (refine (upd_ne _ _ (by omega)).trans ?_; first | assumption | exact upd_eq _ _ _ | (refine (upd_ne _ _ (by omega)).trans ?_; first | assumption | exact upd_eq _ _ _ | (refine (upd_ne _ _ (by omega)).trans ?_; first | assumption | exact upd_eq _ _ _)))) (by exact rfl) ?_
  refine Gq_s (pc' := 5) rfl rfl rfl ?_
  refine Gq_get (pc' := 8) rfl rfl (by first | assumption | exact upd_eq _ _ _ | (refine (upd_ne _ _ (by omega)).trans ?_; first | assumption | exact upd_eq _ _ _ | (refine (upd_ne _ _ (by omega)).trans ?_; first | assumption | exact upd_eq _ _ _ | (refine (upd_ne _ _ (by omega)).trans ?_; first | assumption | exact upd_eq _ _ _)))) (by exact rfl) ?_
  refine Gq_clt (pc' := 11) (t := 26) rfl rfl rfl (by omega) (by omega) (fun hb => ?_) (fun hb => ?_)
  · refine Gq_s (pc' := 27) rfl rfl rfl ?_
    exact Gq_ret rfl rfl (rfl) (⟨by unfold cIn; rw [decide_eq_false (by omega : ¬ cA c ≤ vM v)]; rfl, rfl, rfl⟩)
  · refine Gq_s (pc' := 12) rfl rfl rfl ?_
    refine Gq_get (pc' := 15) rfl rfl (by first | assumption | exact upd_eq _ _ _ | (refine (upd_ne _ _ (by omega)).trans ?_; first | assumption | exact upd_eq _ _ _ | (refine (upd_ne _ _ (by omega)).trans ?_; first | assumption | exact upd_eq _ _ _ | (refine (upd_ne _ _ (by omega)).trans ?_; first | assumption | exact upd_eq _ _ _)))) (by exact rfl) ?_
    refine Gq_s (pc' := 16) rfl rfl rfl ?_
    refine Gq_get (pc' := 19) rfl rfl (by first | assumption | exact upd_eq _ _ _ | (refine (upd_ne _ _ (by omega)).trans ?_; first | assumption | exact upd_eq _ _ _ | (refine (upd_ne _ _ (by omega)).trans ?_; first | assumption | exact upd_eq _ _ _ | (refine (upd_ne _ _ (by omega)).trans ?_; first | assumption | exact upd_eq _ _ _)))) (by exact rfl) ?_
    refine Gq_cge (pc' := 22) (t := 26) rfl rfl rfl (by omega) (by omega) (fun h2 => ?_) (fun h2 => ?_)
    · refine Gq_s (pc' := 27) rfl rfl rfl ?_
      exact Gq_ret rfl rfl (rfl) (⟨by unfold cIn; rw [decide_eq_true (by omega : cA c ≤ vM v), decide_eq_false (by omega : ¬ vM v < cE c)]; rfl, rfl, rfl⟩)
    · refine Gq_s (pc' := 23) rfl rfl rfl ?_
      refine Gq_goto rfl (t := 27) rfl ?_
      exact Gq_ret rfl rfl (rfl) (⟨by unfold cIn; rw [decide_eq_true (by omega : cA c ≤ vM v), decide_eq_true (by omega : vM v < cE c)]; rfl, rfl, rfl⟩)
theorem t_clear_l {S : ScT} {t n : Nat} : ∀ (k j : Nat) (H : HF) (ch : Nat → Option Nat), j + k = 12 → H t = some (false, 2, [.ref (t + 1), .ref (t + 2)]) → H (t + 1) = some (true, 3, aR 12 ch) → (∀ p, p < j → ch p = none) → Gw S xm74 2 [(0, .ref t), (1, .int (zI (j : Int)))] [] H n 0 0 (MQe xm74 (fun v G m => v = none ∧ G = hup H (t + 1) (true, 3, aR 12 (fun _ => none)) ∧ m = n)) := by
  intro k
  induction k with
  | zero =>
    intro j H ch hj h0 h1 hc
    refine Gq_s (pc' := 3) rfl rfl rfl ?_
    refine Gq_bipush (pc' := 5) rfl rfl (by decide) ?_
    refine Gq_cge (pc' := 8) (t := 21) rfl rfl rfl (by omega) (by omega) (fun _ => ?_) (fun hq => absurd (by omega) hq)
    exact Gq_ret rfl rfl (rfl) (⟨rfl, (upd_self (by rw [h1]; exact congrArg (fun z => some (true, 3, z)) (aX_ext fun p hp => by rw [hc p (by omega)]))).symm, rfl⟩)
  | succ k ih =>
    intro j H ch hj h0 h1 hc
    refine Gq_s (pc' := 3) rfl rfl rfl ?_
    refine Gq_bipush (pc' := 5) rfl rfl (by decide) ?_
    refine Gq_cge (pc' := 8) (t := 21) rfl rfl rfl (by omega) (by omega) (fun hq => absurd hq (by omega)) (fun _ => ?_)
    refine Gq_s (pc' := 9) rfl rfl rfl ?_
    refine Gq_get (pc' := 12) rfl rfl (by first | assumption | exact upd_eq _ _ _ | (refine (upd_ne _ _ (by omega)).trans ?_; first | assumption | exact upd_eq _ _ _ | (refine (upd_ne _ _ (by omega)).trans ?_; first | assumption | exact upd_eq _ _ _ | (refine (upd_ne _ _ (by omega)).trans ?_; first | assumption | exact upd_eq _ _ _)))) (by exact rfl) ?_
    refine Gq_s (pc' := 13) rfl rfl rfl ?_
    refine Gq_s (pc' := 14) rfl rfl rfl ?_
    refine Gq_aast (pc' := 15) (none) rfl rfl (by first | assumption | exact upd_eq _ _ _ | (refine (upd_ne _ _ (by omega)).trans ?_; first | assumption | exact upd_eq _ _ _ | (refine (upd_ne _ _ (by omega)).trans ?_; first | assumption | exact upd_eq _ _ _ | (refine (upd_ne _ _ (by omega)).trans ?_; first | assumption | exact upd_eq _ _ _)))) (by exact rfl) (fun _ => rfl) (rfl) (fun _ hz => nomatch hz) (rfl) (by omega) (by omega) ?_
    refine Gq_iinc (pc' := 18) (lv' := [(0, _), (1, _)]) rfl rfl rfl rfl ?_
    refine Gq_goto rfl (t := 2) rfl ?_
    have := ih (j + 1) (hup H (t + 1) (true, 3, aR 12 (fset ch j none))) (fset ch j none) (by omega) (by rw [upd_ne _ _ (by omega)]; exact h0) (upd_eq _ _ _) (fun p hp => by
      by_cases e : p = j
      · subst e; exact fset_eq _ _ _
      · rw [fset_ne _ _ e]; exact hc p (by omega))
    simp only [upd_upd] at this
    exact this
theorem t_clear {S : ScT} {H : HF} (n : Nat) {t : Nat} {ch : Nat → Option Nat} (h0 : H t = some (false, 2, [.ref (t + 1), .ref (t + 2)])) (h1 : H (t + 1) = some (true, 3, aR 12 ch)) : Rdt S 74 [.ref t] H n none (hup H (t + 1) (true, 3, aR 12 (fun _ => none))) n := by
  refine Rm_of (M := xm74) (lv := [(0, _)]) rfl rfl rfl ?_
  refine Gq_s (pc' := 1) rfl rfl rfl ?_
  refine Gq_s (pc' := 2) (lv' := [(0, _), (1, _)]) rfl rfl rfl ?_
  exact t_clear_l 12 0 H ch rfl h0 h1 (fun p hp => absurd hp (by omega))
theorem t_become_l {S : ScT} {t u n : Nat} {dh : Nat → Option Nat} (htu : ¬ u + 1 = t + 1 ∧ ¬ u = t + 1) (hlt : t + 2 < 119) {vr : Nat → VR} {V : Nat → Prop} (hV : ChV V dh) : ∀ (k j : Nat) (H : HF) (ch : Nat → Option Nat), j + k = 12 → VsA H vr V → H t = some (false, 2, [.ref (t + 1), .ref (t + 2)]) → H (t + 1) = some (true, 3, aR 12 ch) → H u = some (false, 2, [.ref (u + 1), .ref (u + 2)]) → H (u + 1) = some (true, 3, aR 12 dh) → (∀ p, p < j → ch p = dh p) → Gw S xm75 2 [(0, .ref t), (1, .ref u), (2, .int (zI (j : Int)))] [] H n 0 0 (MQe xm75 (fun v G m => v = none ∧ G = hup H (t + 1) (true, 3, aR 12 dh) ∧ m = n)) := by
  intro k
  induction k with
  | zero =>
    intro j H ch hj hvs h0 h1 h2 h3 hc
    refine Gq_s (pc' := 3) rfl rfl rfl ?_
    refine Gq_bipush (pc' := 5) rfl rfl (by decide) ?_
    refine Gq_cge (pc' := 8) (t := 26) rfl rfl rfl (by omega) (by omega) (fun _ => ?_) (fun hq => absurd (by omega) hq)
    exact Gq_ret rfl rfl (rfl) (⟨rfl, (upd_self (by rw [h1]; exact congrArg (fun z => some (true, 3, z)) (aX_ext fun p hp => by rw [hc p (by omega)]))).symm, rfl⟩)
  | succ k ih =>
    intro j H ch hj hvs h0 h1 h2 h3 hc
    refine Gq_s (pc' := 3) rfl rfl rfl ?_
    refine Gq_bipush (pc' := 5) rfl rfl (by decide) ?_
    refine Gq_cge (pc' := 8) (t := 26) rfl rfl rfl (by omega) (by omega) (fun hq => absurd hq (by omega)) (fun _ => ?_)
    refine Gq_s (pc' := 9) rfl rfl rfl ?_
    refine Gq_get (pc' := 12) rfl rfl (by first | assumption | exact upd_eq _ _ _ | (refine (upd_ne _ _ (by omega)).trans ?_; first | assumption | exact upd_eq _ _ _ | (refine (upd_ne _ _ (by omega)).trans ?_; first | assumption | exact upd_eq _ _ _ | (refine (upd_ne _ _ (by omega)).trans ?_; first | assumption | exact upd_eq _ _ _)))) (by exact rfl) ?_
    refine Gq_s (pc' := 13) rfl rfl rfl ?_
    refine Gq_s (pc' := 14) rfl rfl rfl ?_
    refine Gq_get (pc' := 17) rfl rfl (by first | assumption | exact upd_eq _ _ _ | (refine (upd_ne _ _ (by omega)).trans ?_; first | assumption | exact upd_eq _ _ _ | (refine (upd_ne _ _ (by omega)).trans ?_; first | assumption | exact upd_eq _ _ _ | (refine (upd_ne _ _ (by omega)).trans ?_; first | assumption | exact upd_eq _ _ _)))) (by exact rfl) ?_
    refine Gq_s (pc' := 18) rfl rfl rfl ?_
    refine Gq_aald (pc' := 19) rfl rfl (by first | assumption | exact upd_eq _ _ _ | (refine (upd_ne _ _ (by omega)).trans ?_; first | assumption | exact upd_eq _ _ _ | (refine (upd_ne _ _ (by omega)).trans ?_; first | assumption | exact upd_eq _ _ _ | (refine (upd_ne _ _ (by omega)).trans ?_; first | assumption | exact upd_eq _ _ _)))) (by exact rfl) (rfl) (by omega) (by omega) (rfl) ?_
    refine Gq_aast (pc' := 20) (dh j) rfl rfl (by first | assumption | exact upd_eq _ _ _ | (refine (upd_ne _ _ (by omega)).trans ?_; first | assumption | exact upd_eq _ _ _ | (refine (upd_ne _ _ (by omega)).trans ?_; first | assumption | exact upd_eq _ _ _ | (refine (upd_ne _ _ (by omega)).trans ?_; first | assumption | exact upd_eq _ _ _)))) (by exact rfl) (fun _ => rfl) (rfl) (VS_aOK hvs hV (by omega)) (rfl) (by omega) (by omega) ?_
    refine Gq_iinc (pc' := 23) (lv' := [(0, _), (1, _), (2, _)]) rfl rfl rfl rfl ?_
    refine Gq_goto rfl (t := 2) rfl ?_
    have := ih (j + 1) (hup H (t + 1) (true, 3, aR 12 (fset ch j (dh j)))) (fset ch j (dh j)) (by omega) (VS_upd (by omega) hvs) (by rw [upd_ne _ _ (by omega)]; exact h0) (upd_eq _ _ _) (by rw [upd_ne _ _ htu.2]; exact h2) (by rw [upd_ne _ _ htu.1]; exact h3) (fun p hp => by
      by_cases e : p = j
      · subst e; exact fset_eq _ _ _
      · rw [fset_ne _ _ e]; exact hc p (by omega))
    simp only [upd_upd] at this
    exact this
theorem t_become {S : ScT} {H : HF} (n : Nat) {t u : Nat} {ch dh : Nat → Option Nat} {vr : Nat → VR} {V : Nat → Prop} (hvs : VsA H vr V) (hV : ChV V dh) (htu : ¬ u + 1 = t + 1 ∧ ¬ u = t + 1) (hlt : t + 2 < 119) (h0 : H t = some (false, 2, [.ref (t + 1), .ref (t + 2)])) (h1 : H (t + 1) = some (true, 3, aR 12 ch)) (h2 : H u = some (false, 2, [.ref (u + 1), .ref (u + 2)])) (h3 : H (u + 1) = some (true, 3, aR 12 dh)) : Rdt S 75 [.ref t, .ref u] H n none (hup H (t + 1) (true, 3, aR 12 dh)) n := by
  refine Rm_of (M := xm75) (lv := [(0, _), (1, _)]) rfl rfl rfl ?_
  refine Gq_s (pc' := 1) rfl rfl rfl ?_
  refine Gq_s (pc' := 2) (lv' := [(0, _), (1, _), (2, _)]) rfl rfl rfl ?_
  exact t_become_l htu hlt hV 12 0 H ch rfl hvs h0 h1 h2 h3 (fun p hp => absurd hp (by omega))
theorem t_diff_l {S : ScT} {H : HF} {n t u : Nat} {ch dh : Nat → Option Nat} {vr : Nat → VR} {V : Nat → Prop} (hvs : VsA H vr V) (hC : ChV V ch) (hD : ChV V dh) (h0 : H t = some (false, 2, [.ref (t + 1), .ref (t + 2)])) (h1 : H (t + 1) = some (true, 3, aR 12 ch)) (h2 : H u = some (false, 2, [.ref (u + 1), .ref (u + 2)])) (h3 : H (u + 1) = some (true, 3, aR 12 dh)) : ∀ (k j : Nat), j + k = 12 → Gw S xm76 4 [(0, .ref t), (1, .ref u), (2, .int (zI (cntTo (fun p => decide (¬ ch p = dh p)) j : Int))), (3, .int (zI (j : Int)))] [] H n 0 0 (MQe xm76 (fun v G m => v = some (.int (zI (diffs ch dh : Int))) ∧ G = H ∧ m = n)) := by
  intro k
  induction k with
  | zero =>
    intro j hj
    obtain rfl : j = 12 := by omega
    refine Gq_s (pc' := 5) rfl rfl rfl ?_
    refine Gq_bipush (pc' := 7) rfl rfl (by decide) ?_
    refine Gq_cge (pc' := 10) (t := 34) rfl rfl rfl (by omega) (by omega) (fun _ => ?_) (fun hq => absurd (by omega) hq)
    refine Gq_s (pc' := 35) rfl rfl rfl ?_
    exact Gq_ret rfl rfl (rfl) (⟨rfl, rfl, rfl⟩)
  | succ k ih =>
    intro j hj
    refine Gq_s (pc' := 5) rfl rfl rfl ?_
    refine Gq_bipush (pc' := 7) rfl rfl (by decide) ?_
    refine Gq_cge (pc' := 10) (t := 34) rfl rfl rfl (by omega) (by omega) (fun hq => absurd hq (by omega)) (fun _ => ?_)
    refine Gq_s (pc' := 11) rfl rfl rfl ?_
    refine Gq_get (pc' := 14) rfl rfl (by first | assumption | exact upd_eq _ _ _ | (refine (upd_ne _ _ (by omega)).trans ?_; first | assumption | exact upd_eq _ _ _ | (refine (upd_ne _ _ (by omega)).trans ?_; first | assumption | exact upd_eq _ _ _ | (refine (upd_ne _ _ (by omega)).trans ?_; first | assumption | exact upd_eq _ _ _)))) (by exact rfl) ?_
    refine Gq_s (pc' := 15) rfl rfl rfl ?_
    refine Gq_aald (pc' := 16) rfl rfl (by first | assumption | exact upd_eq _ _ _ | (refine (upd_ne _ _ (by omega)).trans ?_; first | assumption | exact upd_eq _ _ _ | (refine (upd_ne _ _ (by omega)).trans ?_; first | assumption | exact upd_eq _ _ _ | (refine (upd_ne _ _ (by omega)).trans ?_; first | assumption | exact upd_eq _ _ _)))) (by exact rfl) (rfl) (by omega) (by omega) (rfl) ?_
    refine Gq_s (pc' := 17) rfl rfl rfl ?_
    refine Gq_get (pc' := 20) rfl rfl (by first | assumption | exact upd_eq _ _ _ | (refine (upd_ne _ _ (by omega)).trans ?_; first | assumption | exact upd_eq _ _ _ | (refine (upd_ne _ _ (by omega)).trans ?_; first | assumption | exact upd_eq _ _ _ | (refine (upd_ne _ _ (by omega)).trans ?_; first | assumption | exact upd_eq _ _ _)))) (by exact rfl) ?_
    refine Gq_s (pc' := 21) rfl rfl rfl ?_
    refine Gq_aald (pc' := 22) rfl rfl (by first | assumption | exact upd_eq _ _ _ | (refine (upd_ne _ _ (by omega)).trans ?_; first | assumption | exact upd_eq _ _ _ | (refine (upd_ne _ _ (by omega)).trans ?_; first | assumption | exact upd_eq _ _ _ | (refine (upd_ne _ _ (by omega)).trans ?_; first | assumption | exact upd_eq _ _ _)))) (by exact rfl) (rfl) (by omega) (by omega) (rfl) ?_
    refine Gq_aceq (pc' := 25) (t := 28) (ch j) (dh j) rfl rfl rfl (rfl) (rfl) (VS_rvOK hvs hC (by omega)) (VS_rvOK hvs hD (by omega)) (fun he => ?_) (fun he => ?_)
    · refine Gq_iinc (pc' := 31) (lv' := [(0, _), (1, _), (2, _), (3, _)]) rfl rfl rfl rfl ?_
      refine Gq_goto rfl (t := 4) rfl ?_
      have e : cntTo (fun p => decide (¬ ch p = dh p)) (j + 1) = cntTo (fun p => decide (¬ ch p = dh p)) j := by
        show cntTo _ j + (if decide (¬ ch j = dh j) then 1 else 0) = _
        rw [decide_eq_false (fun q => q he)]; rfl
      have := ih (j + 1) (by omega)
      rw [e] at this
      exact this
    · refine Gq_iinc (pc' := 28) (lv' := [(0, _), (1, _), (2, _), (3, _)]) rfl rfl rfl rfl ?_
      refine Gq_iinc (pc' := 31) (lv' := [(0, _), (1, _), (2, _), (3, _)]) rfl rfl rfl rfl ?_
      refine Gq_goto rfl (t := 4) rfl ?_
      have e : cntTo (fun p => decide (¬ ch p = dh p)) (j + 1) = cntTo (fun p => decide (¬ ch p = dh p)) j + 1 := by
        show cntTo _ j + (if decide (¬ ch j = dh j) then 1 else 0) = _
        rw [decide_eq_true he]; rfl
      have := ih (j + 1) (by omega)
      rw [e] at this
      exact this
theorem t_diff {S : ScT} {H : HF} {n t u : Nat} {ch dh : Nat → Option Nat} {vr : Nat → VR} {V : Nat → Prop} (hvs : VsA H vr V) (hC : ChV V ch) (hD : ChV V dh) (h0 : H t = some (false, 2, [.ref (t + 1), .ref (t + 2)])) (h1 : H (t + 1) = some (true, 3, aR 12 ch)) (h2 : H u = some (false, 2, [.ref (u + 1), .ref (u + 2)])) (h3 : H (u + 1) = some (true, 3, aR 12 dh)) : Rdt S 76 [.ref t, .ref u] H n (some (.int (zI (diffs ch dh : Int)))) H n := by
  refine Rm_of (M := xm76) (lv := [(0, _), (1, _)]) rfl rfl rfl ?_
  refine Gq_s (pc' := 1) rfl rfl rfl ?_
  refine Gq_s (pc' := 2) (lv' := [(0, _), (1, _), (2, _)]) rfl rfl rfl ?_
  refine Gq_s (pc' := 3) rfl rfl rfl ?_
  refine Gq_s (pc' := 4) (lv' := [(0, _), (1, _), (2, _), (3, _)]) rfl rfl rfl ?_
  exact t_diff_l hvs hC hD h0 h1 h2 h3 12 0 rfl
theorem t_countIn_l {S : ScT} {H : HF} {n t : Nat} {ch : Nat → Option Nat} (h0 : H t = some (false, 2, [.ref (t + 1), .ref (t + 2)])) (h1 : H (t + 1) = some (true, 3, aR 12 ch)) : ∀ (k j : Nat), j + k = 12 → Gw S xm77 4 [(0, .ref t), (1, .int (zI (cntTo (fun p => decide (¬ ch p = none)) j : Int))), (2, .int (zI (j : Int)))] [] H n 0 0 (MQe xm77 (fun v G m => v = some (.int (zI (cntTo (fun p => decide (¬ ch p = none)) 12 : Int))) ∧ G = H ∧ m = n)) := by
  intro k
  induction k with
  | zero =>
    intro j hj
    obtain rfl : j = 12 := by omega
    refine Gq_s (pc' := 5) rfl rfl rfl ?_
    refine Gq_bipush (pc' := 7) rfl rfl (by decide) ?_
    refine Gq_cge (pc' := 10) (t := 28) rfl rfl rfl (by omega) (by omega) (fun _ => ?_) (fun hq => absurd (by omega) hq)
    refine Gq_s (pc' := 29) rfl rfl rfl ?_
    exact Gq_ret rfl rfl (rfl) (⟨rfl, rfl, rfl⟩)
  | succ k ih =>
    intro j hj
    refine Gq_s (pc' := 5) rfl rfl rfl ?_
    refine Gq_bipush (pc' := 7) rfl rfl (by decide) ?_
    refine Gq_cge (pc' := 10) (t := 28) rfl rfl rfl (by omega) (by omega) (fun hq => absurd hq (by omega)) (fun _ => ?_)
    refine Gq_s (pc' := 11) rfl rfl rfl ?_
    refine Gq_get (pc' := 14) rfl rfl (by first | assumption | exact upd_eq _ _ _ | (refine (upd_ne _ _ (by omega)).trans ?_; first | assumption | exact upd_eq _ _ _ | (refine (upd_ne _ _ (by omega)).trans ?_; first | assumption | exact upd_eq _ _ _ | (refine (upd_ne _ _ (by omega)).trans ?_; first | assumption | exact upd_eq _ _ _)))) (by exact rfl) ?_
    refine Gq_s (pc' := 15) rfl rfl rfl ?_
    refine Gq_aalx (pc' := 16) rfl rfl (by first | assumption | exact upd_eq _ _ _ | (refine (upd_ne _ _ (by omega)).trans ?_; first | assumption | exact upd_eq _ _ _ | (refine (upd_ne _ _ (by omega)).trans ?_; first | assumption | exact upd_eq _ _ _ | (refine (upd_ne _ _ (by omega)).trans ?_; first | assumption | exact upd_eq _ _ _)))) (by exact rfl) (rfl) (by omega) (by omega) (fun hx => ?_) (fun k2 hx => ?_)
    · refine Gq_nul_n rfl (t := 22) rfl ?_
      refine Gq_iinc (pc' := 25) (lv' := [(0, _), (1, _), (2, _)]) rfl rfl rfl rfl ?_
      refine Gq_goto rfl (t := 4) rfl ?_
      have e : cntTo (fun p => decide (¬ ch p = none)) (j + 1) = cntTo (fun p => decide (¬ ch p = none)) j := by
        show cntTo _ j + (if decide (¬ ch j = none) then 1 else 0) = _
        rw [decide_eq_false (fun q => q hx)]; rfl
      have := ih (j + 1) (by omega)
      rw [e] at this
      exact this
    · refine Gq_nul_r (pc' := 19) (t := 22) rfl rfl rfl ?_
      refine Gq_iinc (pc' := 22) (lv' := [(0, _), (1, _), (2, _)]) rfl rfl rfl rfl ?_
      refine Gq_iinc (pc' := 25) (lv' := [(0, _), (1, _), (2, _)]) rfl rfl rfl rfl ?_
      refine Gq_goto rfl (t := 4) rfl ?_
      have e : cntTo (fun p => decide (¬ ch p = none)) (j + 1) = cntTo (fun p => decide (¬ ch p = none)) j + 1 := by
        show cntTo _ j + (if decide (¬ ch j = none) then 1 else 0) = _
        rw [decide_eq_true (by rw [hx]; exact fun q => nomatch q)]; rfl
      have := ih (j + 1) (by omega)
      rw [e] at this
      exact this
theorem t_countIn {S : ScT} {H : HF} {n t : Nat} {ch : Nat → Option Nat} (h0 : H t = some (false, 2, [.ref (t + 1), .ref (t + 2)])) (h1 : H (t + 1) = some (true, 3, aR 12 ch)) : Rdt S 77 [.ref t] H n (some (.int (zI (cntTo (fun p => decide (¬ ch p = none)) 12 : Int)))) H n := by
  refine Rm_of (M := xm77) (lv := [(0, _)]) rfl rfl rfl ?_
  refine Gq_s (pc' := 1) rfl rfl rfl ?_
  refine Gq_s (pc' := 2) (lv' := [(0, _), (1, _)]) rfl rfl rfl ?_
  refine Gq_s (pc' := 3) rfl rfl rfl ?_
  refine Gq_s (pc' := 4) (lv' := [(0, _), (1, _), (2, _)]) rfl rfl rfl ?_
  exact t_countIn_l h0 h1 12 0 rfl
theorem t_sizes_l {S : ScT} {H : HF} {n t : Nat} {ch : Nat → Option Nat} {vr : Nat → VR} {V : Nat → Prop} (hvs : VsA H vr V) (hC : ChV V ch) (h0 : H t = some (false, 2, [.ref (t + 1), .ref (t + 2)])) (h1 : H (t + 1) = some (true, 3, aR 12 ch)) : ∀ (k j : Nat), j + k = 12 → Gw S xm78 4 [(0, .ref t), (1, .int (zI (sumTo (fun p => szOf vr (ch p)) j))), (2, .int (zI (j : Int)))] [] H n 0 0 (MQe xm78 (fun v G m => v = some (.int (zI (sumTo (fun p => szOf vr (ch p)) 12))) ∧ G = H ∧ m = n)) := by
  intro k
  induction k with
  | zero =>
    intro j hj
    obtain rfl : j = 12 := by omega
    refine Gq_s (pc' := 5) rfl rfl rfl ?_
    refine Gq_bipush (pc' := 7) rfl rfl (by decide) ?_
    refine Gq_cge (pc' := 10) (t := 28) rfl rfl rfl (by omega) (by omega) (fun _ => ?_) (fun hq => absurd (by omega) hq)
    refine Gq_s (pc' := 29) rfl rfl rfl ?_
    exact Gq_ret rfl rfl (rfl) (⟨rfl, rfl, rfl⟩)
  | succ k ih =>
    intro j hj
    refine Gq_s (pc' := 5) rfl rfl rfl ?_
    refine Gq_bipush (pc' := 7) rfl rfl (by decide) ?_
    refine Gq_cge (pc' := 10) (t := 28) rfl rfl rfl (by omega) (by omega) (fun hq => absurd hq (by omega)) (fun _ => ?_)
    refine Gq_s (pc' := 11) rfl rfl rfl ?_
    refine Gq_s (pc' := 12) rfl rfl rfl ?_
    refine Gq_get (pc' := 15) rfl rfl (by first | assumption | exact upd_eq _ _ _ | (refine (upd_ne _ _ (by omega)).trans ?_; first | assumption | exact upd_eq _ _ _ | (refine (upd_ne _ _ (by omega)).trans ?_; first | assumption | exact upd_eq _ _ _ | (refine (upd_ne _ _ (by omega)).trans ?_; first | assumption | exact upd_eq _ _ _)))) (by exact rfl) ?_
    refine Gq_s (pc' := 16) rfl rfl rfl ?_
    refine Gq_aald (pc' := 17) rfl rfl (by first | assumption | exact upd_eq _ _ _ | (refine (upd_ne _ _ (by omega)).trans ?_; first | assumption | exact upd_eq _ _ _ | (refine (upd_ne _ _ (by omega)).trans ?_; first | assumption | exact upd_eq _ _ _ | (refine (upd_ne _ _ (by omega)).trans ?_; first | assumption | exact upd_eq _ _ _)))) (by exact rfl) (rfl) (by omega) (by omega) (rfl) ?_
    refine Gq_calls1 (pc' := 20) (Y := xm60) (rest := [_]) (st' := [_, _]) (ce' := 0) (sl' := 0) rfl rfl rfl rfl rfl rfl rfl rfl rfl rfl (t_sizeOf _ (fun q hq => hvs q (hC j q (by omega) hq))) rfl ?_
    refine Gq_iadd (pc' := 21) rfl rfl ?_
    refine Gq_s (pc' := 22) (lv' := [(0, _), (1, _), (2, _)]) rfl rfl rfl ?_
    refine Gq_iinc (pc' := 25) (lv' := [(0, _), (1, _), (2, _)]) rfl rfl rfl rfl ?_
    refine Gq_goto rfl (t := 4) rfl ?_
    exact ih (j + 1) (by omega)
theorem t_sizes {S : ScT} {H : HF} {n t : Nat} {ch : Nat → Option Nat} {vr : Nat → VR} {V : Nat → Prop} (hvs : VsA H vr V) (hC : ChV V ch) (h0 : H t = some (false, 2, [.ref (t + 1), .ref (t + 2)])) (h1 : H (t + 1) = some (true, 3, aR 12 ch)) : Rdt S 78 [.ref t] H n (some (.int (zI (sumTo (fun p => szOf vr (ch p)) 12)))) H n := by
  refine Rm_of (M := xm78) (lv := [(0, _)]) rfl rfl rfl ?_
  refine Gq_s (pc' := 1) rfl rfl rfl ?_
  refine Gq_s (pc' := 2) (lv' := [(0, _), (1, _)]) rfl rfl rfl ?_
  refine Gq_s (pc' := 3) rfl rfl rfl ?_
  refine Gq_s (pc' := 4) (lv' := [(0, _), (1, _), (2, _)]) rfl rfl rfl ?_
  exact t_sizes_l hvs hC h0 h1 12 0 rfl
end XK2
end
section
/-! features turned on (printed by wip/p46/gen23.py) -/
section XK3
theorem tOn_n {ch : Nat → Option Nat} {on : Nat → Nat} {c : CR} (h : ch (cT c) = none) : tOn ch on c = on := if_pos h
theorem tOn_s {ch : Nat → Option Nat} {on : Nat → Nat} {c : CR} {k : Nat} (h : ch (cT c) = some k) : tOn ch on c = fset on (cT c) (on (cT c) ||| cF c) := if_neg (by rw [h]; exact fun q => nomatch q)
theorem grown_n {ch : Nat → Option Nat} {on : Nat → Nat} {c : CR} (h : ch (cT c) = none) : grwn ch on c = false := decide_eq_false (fun q => q (by rw [tOn_n h]))
theorem ChainAt_ok {H : HF} : ∀ {l : List CR} {x : Option Nat}, ChnAt H x l → ∀ c ∈ l, cOK c
  | [], _, _, c, hc => by cases hc
  | a :: t, x, ⟨o, nx, _, h2, h3⟩, c, hc => by
    rcases List.mem_cons.mp hc with rfl | hc
    · exact h2.2.1
    · exact ChainAt_ok h3 c hc
theorem o16_nOne {ch : Nat → Option Nat} {p : Nat} {s : (Nat → Nat) × Bool} {c : CR} (h : o16 s.1) (hc : cOK c) : o16 (nOne ch p s c).1 := by
  unfold nOne
  split
  · exact o16_tOn h hc
  · exact h
theorem o16_fold {ch : Nat → Option Nat} {p : Nat} : ∀ {l : List CR} {s : (Nat → Nat) × Bool}, (∀ c ∈ l, cOK c) → o16 s.1 → o16 (l.foldl (nOne ch p) s).1
  | [], _, _, h => h
  | c :: t, s, hl, h => o16_fold (l := t) (s := nOne ch p s c) (fun d hd => hl d (List.mem_cons_of_mem _ hd)) (o16_nOne h (hl c List.mem_cons_self))
theorem o16_wl {ch : Nat → Option Nat} : ∀ {l : List CR} {on : Nat → Nat}, (∀ c ∈ l, cOK c) → o16 on → o16 (l.foldl (tOn ch) on)
  | [], _, _, h => h
  | c :: t, on, hl, h => o16_wl (l := t) (on := tOn ch on c) (fun d hd => hl d (List.mem_cons_of_mem _ hd)) (o16_tOn h (hl c List.mem_cons_self))
theorem t_turnOn {S : ScT} {H : HF} (n : Nat) {t q : Nat} {ch : Nat → Option Nat} {on : Nat → Nat} {c : CR} {nx : Value} (ht : t + 2 < 119) (h0 : H t = some (false, 2, [.ref (t + 1), .ref (t + 2)])) (h1 : H (t + 1) = some (true, 3, aR 12 ch)) (h2 : H (t + 2) = some (true, 0, aNt 12 on)) (ho : o16 on) (hc : ClaimAt H q c nx) : Rdt S 81 [.ref t, .ref q] H n (some (.int (zI (bI (grwn ch on c))))) (hup H (t + 2) (true, 0, aNt 12 (tOn ch on c))) n := by
  refine Rm_of (M := xm81) (lv := [(0, _), (1, _)]) rfl rfl rfl ?_
  have hu := o16_tOn (ch := ch) ho hc.2.1 (cT c)
  have hv := ho (cT c)
  obtain ⟨hq, ⟨hT, hC, hF, -⟩, r, -, -, h3⟩ := hc
  refine Gq_s (pc' := 1) rfl rfl rfl ?_
  refine Gq_get (pc' := 4) rfl rfl (by first | assumption | exact upd_eq _ _ _ | (refine (upd_ne _ _ (by omega)).trans ?_; first | assumption | exact upd_eq _ _ _ | (refine (upd_ne _ _ (by omega)).trans ?_; first | assumption | exact upd_eq _ _ _ | (refine (upd_ne _ _ (by omega)).trans ?_; first | assumption | exact upd_eq _ _ _)))) (by exact rfl) ?_
  refine Gq_s (pc' := 5) rfl rfl rfl ?_
  refine Gq_get (pc' := 8) rfl rfl (by first | assumption | exact upd_eq _ _ _ | (refine (upd_ne _ _ (by omega)).trans ?_; first | assumption | exact upd_eq _ _ _ | (refine (upd_ne _ _ (by omega)).trans ?_; first | assumption | exact upd_eq _ _ _ | (refine (upd_ne _ _ (by omega)).trans ?_; first | assumption | exact upd_eq _ _ _)))) (by exact rfl) ?_
  refine Gq_iald (pc' := 9) rfl rfl (by first | assumption | exact upd_eq _ _ _ | (refine (upd_ne _ _ (by omega)).trans ?_; first | assumption | exact upd_eq _ _ _ | (refine (upd_ne _ _ (by omega)).trans ?_; first | assumption | exact upd_eq _ _ _ | (refine (upd_ne _ _ (by omega)).trans ?_; first | assumption | exact upd_eq _ _ _)))) (rfl) (by omega) (by omega) ?_
  refine Gq_s (pc' := 10) (lv' := [(0, _), (1, _), (2, _)]) rfl rfl rfl ?_
  refine Gq_s (pc' := 11) rfl rfl rfl ?_
  refine Gq_get (pc' := 14) rfl rfl (by first | assumption | exact upd_eq _ _ _ | (refine (upd_ne _ _ (by omega)).trans ?_; first | assumption | exact upd_eq _ _ _ | (refine (upd_ne _ _ (by omega)).trans ?_; first | assumption | exact upd_eq _ _ _ | (refine (upd_ne _ _ (by omega)).trans ?_; first | assumption | exact upd_eq _ _ _)))) (by exact rfl) ?_
  refine Gq_s (pc' := 15) rfl rfl rfl ?_
  refine Gq_get (pc' := 18) rfl rfl (by first | assumption | exact upd_eq _ _ _ | (refine (upd_ne _ _ (by omega)).trans ?_; first | assumption | exact upd_eq _ _ _ | (refine (upd_ne _ _ (by omega)).trans ?_; first | assumption | exact upd_eq _ _ _ | (refine (upd_ne _ _ (by omega)).trans ?_; first | assumption | exact upd_eq _ _ _)))) (by exact rfl) ?_
  refine Gq_aalx (pc' := 19) rfl rfl (by first | assumption | exact upd_eq _ _ _ | (refine (upd_ne _ _ (by omega)).trans ?_; first | assumption | exact upd_eq _ _ _ | (refine (upd_ne _ _ (by omega)).trans ?_; first | assumption | exact upd_eq _ _ _ | (refine (upd_ne _ _ (by omega)).trans ?_; first | assumption | exact upd_eq _ _ _)))) (by exact rfl) (rfl) (by omega) (by omega) (fun hx => ?_) (fun k hx => ?_)
  · refine Gq_nul_n rfl (t := 37) rfl ?_
    refine Gq_s (pc' := 38) rfl rfl rfl ?_
    refine Gq_get (pc' := 41) rfl rfl (by first | assumption | exact upd_eq _ _ _ | (refine (upd_ne _ _ (by omega)).trans ?_; first | assumption | exact upd_eq _ _ _ | (refine (upd_ne _ _ (by omega)).trans ?_; first | assumption | exact upd_eq _ _ _ | (refine (upd_ne _ _ (by omega)).trans ?_; first | assumption | exact upd_eq _ _ _)))) (by exact rfl) ?_
    refine Gq_s (pc' := 42) rfl rfl rfl ?_
    refine Gq_get (pc' := 45) rfl rfl (by first | assumption | exact upd_eq _ _ _ | (refine (upd_ne _ _ (by omega)).trans ?_; first | assumption | exact upd_eq _ _ _ | (refine (upd_ne _ _ (by omega)).trans ?_; first | assumption | exact upd_eq _ _ _ | (refine (upd_ne _ _ (by omega)).trans ?_; first | assumption | exact upd_eq _ _ _)))) (by exact rfl) ?_
    refine Gq_iald (pc' := 46) rfl rfl (by first | assumption | exact upd_eq _ _ _ | (refine (upd_ne _ _ (by omega)).trans ?_; first | assumption | exact upd_eq _ _ _ | (refine (upd_ne _ _ (by omega)).trans ?_; first | assumption | exact upd_eq _ _ _ | (refine (upd_ne _ _ (by omega)).trans ?_; first | assumption | exact upd_eq _ _ _)))) (rfl) (by omega) (by omega) ?_
    refine Gq_s (pc' := 47) rfl rfl rfl ?_
    refine Gq_ceq (pc' := 50) (t := 54) rfl rfl rfl (by omega) (by omega) (fun _ => ?_) (fun hq => absurd (rfl) hq)
    refine Gq_s (pc' := 55) rfl rfl rfl ?_
    exact Gq_ret rfl rfl (rfl) (⟨by rw [grown_n hx]; rfl, by rw [tOn_n hx]; exact (upd_self h2).symm, rfl⟩)
  · refine Gq_nul_r (pc' := 22) (t := 37) rfl rfl rfl ?_
    refine Gq_s (pc' := 23) rfl rfl rfl ?_
    refine Gq_get (pc' := 26) rfl rfl (by first | assumption | exact upd_eq _ _ _ | (refine (upd_ne _ _ (by omega)).trans ?_; first | assumption | exact upd_eq _ _ _ | (refine (upd_ne _ _ (by omega)).trans ?_; first | assumption | exact upd_eq _ _ _ | (refine (upd_ne _ _ (by omega)).trans ?_; first | assumption | exact upd_eq _ _ _)))) (by exact rfl) ?_
    refine Gq_s (pc' := 27) rfl rfl rfl ?_
    refine Gq_get (pc' := 30) rfl rfl (by first | assumption | exact upd_eq _ _ _ | (refine (upd_ne _ _ (by omega)).trans ?_; first | assumption | exact upd_eq _ _ _ | (refine (upd_ne _ _ (by omega)).trans ?_; first | assumption | exact upd_eq _ _ _ | (refine (upd_ne _ _ (by omega)).trans ?_; first | assumption | exact upd_eq _ _ _)))) (by exact rfl) ?_
    refine Gq_s (pc' := 31) rfl rfl rfl ?_
    refine Gq_s (pc' := 32) rfl rfl rfl ?_
    refine Gq_get (pc' := 35) rfl rfl (by first | assumption | exact upd_eq _ _ _ | (refine (upd_ne _ _ (by omega)).trans ?_; first | assumption | exact upd_eq _ _ _ | (refine (upd_ne _ _ (by omega)).trans ?_; first | assumption | exact upd_eq _ _ _ | (refine (upd_ne _ _ (by omega)).trans ?_; first | assumption | exact upd_eq _ _ _)))) (by exact rfl) ?_
    refine Gq_ior (pc' := 36) (zI ((on (cT c) ||| cF c : Nat) : Int)) rfl rfl (z_or _ _) ?_
    refine Gq_iast (pc' := 37) rfl rfl (by first | assumption | exact upd_eq _ _ _ | (refine (upd_ne _ _ (by omega)).trans ?_; first | assumption | exact upd_eq _ _ _ | (refine (upd_ne _ _ (by omega)).trans ?_; first | assumption | exact upd_eq _ _ _ | (refine (upd_ne _ _ (by omega)).trans ?_; first | assumption | exact upd_eq _ _ _)))) (rfl) (by omega) (by omega) ?_
    rw [aN_fset, ← tOn_s hx]
    refine Gq_s (pc' := 38) rfl rfl rfl ?_
    refine Gq_get (pc' := 41) rfl rfl (by first | assumption | exact upd_eq _ _ _ | (refine (upd_ne _ _ (by omega)).trans ?_; first | assumption | exact upd_eq _ _ _ | (refine (upd_ne _ _ (by omega)).trans ?_; first | assumption | exact upd_eq _ _ _ | (refine (upd_ne _ _ (by omega)).trans ?_; first | assumption | exact upd_eq _ _ _)))) (by exact rfl) ?_
    refine Gq_s (pc' := 42) rfl rfl rfl ?_
    refine Gq_get (pc' := 45) rfl rfl (by first | assumption | exact upd_eq _ _ _ | (refine (upd_ne _ _ (by omega)).trans ?_; first | assumption | exact upd_eq _ _ _ | (refine (upd_ne _ _ (by omega)).trans ?_; first | assumption | exact upd_eq _ _ _ | (refine (upd_ne _ _ (by omega)).trans ?_; first | assumption | exact upd_eq _ _ _)))) (by exact rfl) ?_
    refine Gq_iald (pc' := 46) rfl rfl (by first | assumption | exact upd_eq _ _ _ | (refine (upd_ne _ _ (by omega)).trans ?_; first | assumption | exact upd_eq _ _ _ | (refine (upd_ne _ _ (by omega)).trans ?_; first | assumption | exact upd_eq _ _ _ | (refine (upd_ne _ _ (by omega)).trans ?_; first | assumption | exact upd_eq _ _ _)))) (rfl) (by omega) (by omega) ?_
    refine Gq_s (pc' := 47) rfl rfl rfl ?_
    refine Gq_ceq (pc' := 50) (t := 54) rfl rfl rfl (by omega) (by omega) (fun he => ?_) (fun he => ?_)
    · refine Gq_s (pc' := 55) rfl rfl rfl ?_
      exact Gq_ret rfl rfl (rfl) (⟨by rw [show grwn ch on c = false from decide_eq_false (fun q => q (by omega))]; rfl, rfl, rfl⟩)
    · refine Gq_s (pc' := 51) rfl rfl rfl ?_
      refine Gq_goto rfl (t := 55) rfl ?_
      exact Gq_ret rfl rfl (rfl) (⟨by rw [show grwn ch on c = true from decide_eq_true (by omega)]; rfl, rfl, rfl⟩)
theorem t_nds_l {S : ScT} {t n p : Nat} {ch : Nat → Option Nat} {Q : XLf → Prop} (ht : t + 2 < 119) (hp : p < 12) : ∀ (l : List CR) (x : Option Nat) (H : HF) (s : (Nat → Nat) × Bool), ChnAt H x l → H t = some (false, 2, [.ref (t + 1), .ref (t + 2)]) → H (t + 1) = some (true, 3, aR 12 ch) → H (t + 2) = some (true, 0, aNt 12 s.1) → o16 s.1 → Gw S xm80 68 [(0, .ref t), (1, .int (zI (bI (l.foldl (nOne ch p) s).2))), (2, .int (zI (p : Int))), (3, .null)] [] (hup H (t + 2) (true, 0, aNt 12 (l.foldl (nOne ch p) s).1)) n 0 0 Q → Gw S xm80 33 [(0, .ref t), (1, .int (zI (bI s.2))), (2, .int (zI (p : Int))), (3, rvl x)] [] H n 0 0 Q := by
  intro l
  induction l with
  | nil =>
    intro x H s hl h0 h1 h2 ho kk
    obtain rfl : x = none := hl
    refine Gq_s (pc' := 34) rfl rfl rfl ?_
    refine Gq_nul_n rfl (t := 68) rfl ?_
    rw [← upd_self h2]
    exact kk
  | cons c l ih =>
    intro x H s hl h0 h1 h2 ho kk
    obtain ⟨q, nx, rfl, hcl, hch⟩ := hl
    have hcl0 := hcl
    obtain ⟨hq, hok, r, -, -, h3⟩ := hcl0
    refine Gq_s (pc' := 34) rfl rfl rfl ?_
    refine Gq_nul_r (pc' := 37) (t := 68) rfl rfl rfl ?_
    refine Gq_s (pc' := 38) rfl rfl rfl ?_
    refine Gq_s (pc' := 39) rfl rfl rfl ?_
    refine Gq_get (pc' := 42) rfl rfl (by first | assumption | exact upd_eq _ _ _ | (refine (upd_ne _ _ (by omega)).trans ?_; first | assumption | exact upd_eq _ _ _ | (refine (upd_ne _ _ (by omega)).trans ?_; first | assumption | exact upd_eq _ _ _ | (refine (upd_ne _ _ (by omega)).trans ?_; first | assumption | exact upd_eq _ _ _)))) (by exact rfl) ?_
    refine Gq_s (pc' := 43) rfl rfl rfl ?_
    refine Gq_iald (pc' := 44) rfl rfl (by first | assumption | exact upd_eq _ _ _ | (refine (upd_ne _ _ (by omega)).trans ?_; first | assumption | exact upd_eq _ _ _ | (refine (upd_ne _ _ (by omega)).trans ?_; first | assumption | exact upd_eq _ _ _ | (refine (upd_ne _ _ (by omega)).trans ?_; first | assumption | exact upd_eq _ _ _)))) (rfl) (by omega) (by omega) ?_
    refine Gq_callv1 (pc' := 47) (Y := xm90) (rest := []) (st' := [_]) (ce' := 0) (sl' := 0) rfl rfl rfl rfl rfl rfl rfl rfl rfl (t_countsWith n hcl (ho p)) rfl (by first | assumption | exact upd_eq _ _ _ | (refine (upd_ne _ _ (by omega)).trans ?_; first | assumption | exact upd_eq _ _ _ | (refine (upd_ne _ _ (by omega)).trans ?_; first | assumption | exact upd_eq _ _ _ | (refine (upd_ne _ _ (by omega)).trans ?_; first | assumption | exact upd_eq _ _ _)))) ?_
    refine Gq_beq (pc' := 50) (t := 60) rfl rfl rfl (fun hb => ?_) (fun hb => ?_)
    · refine Gq_s (pc' := 61) rfl rfl rfl ?_
      refine Gq_get (pc' := 64) rfl rfl (by first | assumption | exact upd_eq _ _ _ | (refine (upd_ne _ _ (by omega)).trans ?_; first | assumption | exact upd_eq _ _ _ | (refine (upd_ne _ _ (by omega)).trans ?_; first | assumption | exact upd_eq _ _ _ | (refine (upd_ne _ _ (by omega)).trans ?_; first | assumption | exact upd_eq _ _ _)))) (by exact rfl) ?_
      refine Gq_astv (pc' := 65) (lv' := [(0, _), (1, _), (2, _), (3, _)]) (k := 3) rfl (fun _ _ => rfl) rfl rfl ?_
      refine Gq_goto rfl (t := 33) rfl ?_
      have e : nOne ch p s c = s := if_neg (by rw [hb]; exact fun q => nomatch q)
      have e2 : (c :: l).foldl (nOne ch p) s = l.foldl (nOne ch p) s := by rw [List.foldl_cons, e]
      rw [e2] at kk
      exact ih nx H s hch h0 h1 h2 ho kk
    · refine Gq_s (pc' := 51) rfl rfl rfl ?_
      refine Gq_s (pc' := 52) rfl rfl rfl ?_
      refine Gq_callv1 (pc' := 55) (Y := xm81) (rest := []) (st' := [_]) (ce' := 0) (sl' := 0) rfl rfl rfl rfl rfl rfl rfl rfl rfl (t_turnOn n ht h0 h1 h2 ho hcl) rfl (by first | assumption | exact upd_eq _ _ _ | (refine (upd_ne _ _ (by omega)).trans ?_; first | assumption | exact upd_eq _ _ _ | (refine (upd_ne _ _ (by omega)).trans ?_; first | assumption | exact upd_eq _ _ _ | (refine (upd_ne _ _ (by omega)).trans ?_; first | assumption | exact upd_eq _ _ _)))) ?_
      refine Gq_beq (pc' := 58) (t := 60) rfl rfl rfl (fun hg => ?_) (fun hg => ?_)
      · refine Gq_s (pc' := 61) rfl rfl rfl ?_
        refine Gq_get (pc' := 64) rfl rfl (by first | assumption | exact upd_eq _ _ _ | (refine (upd_ne _ _ (by omega)).trans ?_; first | assumption | exact upd_eq _ _ _ | (refine (upd_ne _ _ (by omega)).trans ?_; first | assumption | exact upd_eq _ _ _ | (refine (upd_ne _ _ (by omega)).trans ?_; first | assumption | exact upd_eq _ _ _)))) (by exact rfl) ?_
        refine Gq_astv (pc' := 65) (lv' := [(0, _), (1, _), (2, _), (3, _)]) (k := 3) rfl (fun _ _ => rfl) rfl rfl ?_
        refine Gq_goto rfl (t := 33) rfl ?_
        have e : nOne ch p s c = (tOn ch s.1 c, s.2) := by unfold nOne; rw [if_pos hb, hg, Bool.or_false]
        rw [List.foldl_cons, e] at kk
        exact ih nx _ (tOn ch s.1 c, s.2) (ChainAt_upd ht hch) (by rw [upd_ne _ _ (by omega)]; exact h0) (by rw [upd_ne _ _ (by omega)]; exact h1) (upd_eq _ _ _) (o16_tOn ho hok) (by rw [upd_upd]; exact kk)
      · refine Gq_s (pc' := 59) rfl rfl rfl ?_
        refine Gq_s (pc' := 60) (lv' := [(0, _), (1, _), (2, _), (3, _)]) rfl rfl rfl ?_
        refine Gq_s (pc' := 61) rfl rfl rfl ?_
        refine Gq_get (pc' := 64) rfl rfl (by first | assumption | exact upd_eq _ _ _ | (refine (upd_ne _ _ (by omega)).trans ?_; first | assumption | exact upd_eq _ _ _ | (refine (upd_ne _ _ (by omega)).trans ?_; first | assumption | exact upd_eq _ _ _ | (refine (upd_ne _ _ (by omega)).trans ?_; first | assumption | exact upd_eq _ _ _)))) (by exact rfl) ?_
        refine Gq_astv (pc' := 65) (lv' := [(0, _), (1, _), (2, _), (3, _)]) (k := 3) rfl (fun _ _ => rfl) rfl rfl ?_
        refine Gq_goto rfl (t := 33) rfl ?_
        have e : nOne ch p s c = (tOn ch s.1 c, true) := by unfold nOne; rw [if_pos hb, hg, Bool.or_true]
        rw [List.foldl_cons, e] at kk
        exact ih nx _ (tOn ch s.1 c, true) (ChainAt_upd ht hch) (by rw [upd_ne _ _ (by omega)]; exact h0) (by rw [upd_ne _ _ (by omega)]; exact h1) (upd_eq _ _ _) (o16_tOn ho hok) (by rw [upd_upd]; exact kk)
theorem t_tbn_l {S : ScT} {t n : Nat} {ch : Nat → Option Nat} {vr : Nat → VR} {V : Nat → Prop} (ht : t + 2 < 119) (hC : ChV V ch) : ∀ (k j : Nat) (H : HF) (s : (Nat → Nat) × Bool) (ex : XL), j + k = 12 → (ex = [] ∨ ∃ v, ex = [(3, v)]) → VsA H vr V → H t = some (false, 2, [.ref (t + 1), .ref (t + 2)]) → H (t + 1) = some (true, 3, aR 12 ch) → H (t + 2) = some (true, 0, aNt 12 s.1) → o16 s.1 → Gw S xm80 4 ((0, .ref t) :: (1, .int (zI (bI s.2))) :: (2, .int (zI (j : Int))) :: ex) [] H n 0 0 (MQe xm80 (fun v G m => v = some (.int (zI (bI (nRun vr ch k j s).2))) ∧ G = (hup H (t + 2) (true, 0, aNt 12 (nRun vr ch k j s).1)) ∧ m = n)) := by
  intro k
  induction k with
  | zero =>
    intro j H s ex hj hex hvs h0 h1 h2 ho
    refine Gq_s (pc' := 5) rfl rfl rfl ?_
    refine Gq_bipush (pc' := 7) rfl rfl (by decide) ?_
    refine Gq_cge (pc' := 10) (t := 74) rfl rfl rfl (by omega) (by omega) (fun _ => ?_) (fun hq => absurd (by omega) hq)
    refine Gq_s (pc' := 75) rfl rfl rfl ?_
    exact Gq_ret rfl rfl (xret_b _) (⟨rfl, (upd_self h2).symm, rfl⟩)
  | succ k ih =>
    intro j H s ex hj hex hvs h0 h1 h2 ho
    refine Gq_s (pc' := 5) rfl rfl rfl ?_
    refine Gq_bipush (pc' := 7) rfl rfl (by decide) ?_
    refine Gq_cge (pc' := 10) (t := 74) rfl rfl rfl (by omega) (by omega) (fun hq => absurd hq (by omega)) (fun _ => ?_)
    refine Gq_s (pc' := 11) rfl rfl rfl ?_
    refine Gq_get (pc' := 14) rfl rfl (by first | assumption | exact upd_eq _ _ _ | (refine (upd_ne _ _ (by omega)).trans ?_; first | assumption | exact upd_eq _ _ _ | (refine (upd_ne _ _ (by omega)).trans ?_; first | assumption | exact upd_eq _ _ _ | (refine (upd_ne _ _ (by omega)).trans ?_; first | assumption | exact upd_eq _ _ _)))) (by exact rfl) ?_
    refine Gq_s (pc' := 15) rfl rfl rfl ?_
    refine Gq_aalx (pc' := 16) rfl rfl (by first | assumption | exact upd_eq _ _ _ | (refine (upd_ne _ _ (by omega)).trans ?_; first | assumption | exact upd_eq _ _ _ | (refine (upd_ne _ _ (by omega)).trans ?_; first | assumption | exact upd_eq _ _ _ | (refine (upd_ne _ _ (by omega)).trans ?_; first | assumption | exact upd_eq _ _ _)))) (by exact rfl) (rfl) (by omega) (by omega) (fun hx => ?_) (fun q hx => ?_)
    · refine Gq_non_n (pc' := 19) (t := 23) rfl rfl rfl ?_
      refine Gq_s (pc' := 20) rfl rfl rfl ?_
      refine Gq_goto rfl (t := 32) rfl ?_
      refine Gq_st1 (pc' := 33) (lv' := [(0, _), (1, _), (2, _), (3, _)]) (k := 3) rfl (fun _ => rfl) rfl (xst1_ex (pre := [(0, _), (1, _), (2, _)]) hex rfl) ?_
      refine Gq_s (pc' := 34) rfl rfl rfl ?_
      refine Gq_nul_n rfl (t := 68) rfl ?_
      refine Gq_iinc (pc' := 71) (lv' := [(0, _), (1, _), (2, _), (3, _)]) rfl rfl rfl rfl ?_
      refine Gq_goto rfl (t := 4) rfl ?_
      have e : nRun vr ch (k + 1) j s = nRun vr ch k (j + 1) s := by
        show nRun vr ch k (j + 1) (nPk vr ch j s) = _
        unfold nPk
        rw [hx]
      rw [e]
      exact ih (j + 1) H s [(3, .null)] (by omega) (.inr ⟨_, rfl⟩) hvs h0 h1 h2 ho
    · obtain ⟨hq, hN, f, g, h3, h4, h5⟩ := hvs q (hC j q (by omega) hx)
      refine Gq_non_r rfl (t := 23) rfl ?_
      refine Gq_s (pc' := 24) rfl rfl rfl ?_
      refine Gq_get (pc' := 27) rfl rfl (by first | assumption | exact upd_eq _ _ _ | (refine (upd_ne _ _ (by omega)).trans ?_; first | assumption | exact upd_eq _ _ _ | (refine (upd_ne _ _ (by omega)).trans ?_; first | assumption | exact upd_eq _ _ _ | (refine (upd_ne _ _ (by omega)).trans ?_; first | assumption | exact upd_eq _ _ _)))) (by exact rfl) ?_
      refine Gq_s (pc' := 28) rfl rfl rfl ?_
      refine Gq_aald (pc' := 29) rfl rfl (by first | assumption | exact upd_eq _ _ _ | (refine (upd_ne _ _ (by omega)).trans ?_; first | assumption | exact upd_eq _ _ _ | (refine (upd_ne _ _ (by omega)).trans ?_; first | assumption | exact upd_eq _ _ _ | (refine (upd_ne _ _ (by omega)).trans ?_; first | assumption | exact upd_eq _ _ _)))) (by exact rfl) (rfl) (by omega) (by omega) (rv_s hx) ?_
      refine Gq_get (pc' := 32) rfl rfl (by first | assumption | exact upd_eq _ _ _ | (refine (upd_ne _ _ (by omega)).trans ?_; first | assumption | exact upd_eq _ _ _ | (refine (upd_ne _ _ (by omega)).trans ?_; first | assumption | exact upd_eq _ _ _ | (refine (upd_ne _ _ (by omega)).trans ?_; first | assumption | exact upd_eq _ _ _)))) (by exact rfl) ?_
      refine Gq_astv (pc' := 33) (lv' := [(0, _), (1, _), (2, _), (3, _)]) (k := 3) rfl (fun _ _ => rfl) rfl (xst1_ex (pre := [(0, _), (1, _), (2, _)]) hex rfl) ?_
      have e : nRun vr ch (k + 1) j s = nRun vr ch k (j + 1) ((vQ (vr q)).foldl (nOne ch j) s) := by
        show nRun vr ch k (j + 1) (nPk vr ch j s) = _
        unfold nPk
        rw [hx]
      rw [e]
      have hoo := o16_fold (ch := ch) (p := j) (ChainAt_ok h4) ho
      refine t_nds_l ht (by omega) _ f H s h4 h0 h1 h2 ho ?_
      refine Gq_iinc (pc' := 71) (lv' := [(0, _), (1, _), (2, _), (3, _)]) rfl rfl rfl rfl ?_
      refine Gq_goto rfl (t := 4) rfl ?_
      have := ih (j + 1) (hup H (t + 2) (true, 0, aNt 12 ((vQ (vr q)).foldl (nOne ch j) s).1)) ((vQ (vr q)).foldl (nOne ch j) s) [(3, .null)] (by omega) (.inr ⟨_, rfl⟩) (VS_upd ht hvs) (by rw [upd_ne _ _ (by omega)]; exact h0) (by rw [upd_ne _ _ (by omega)]; exact h1) (upd_eq _ _ _) hoo
      simp only [upd_upd] at this
      exact this
theorem t_tbn {S : ScT} {H : HF} (n : Nat) {t : Nat} {ch : Nat → Option Nat} {on : Nat → Nat} {vr : Nat → VR} {V : Nat → Prop} (ht : t + 2 < 119) (hC : ChV V ch) (hvs : VsA H vr V) (h0 : H t = some (false, 2, [.ref (t + 1), .ref (t + 2)])) (h1 : H (t + 1) = some (true, 3, aR 12 ch)) (h2 : H (t + 2) = some (true, 0, aNt 12 on)) (ho : o16 on) : Rdt S 80 [.ref t] H n (some (.int (zI (bI (nRun vr ch 12 0 (on, false)).2)))) (hup H (t + 2) (true, 0, aNt 12 (nRun vr ch 12 0 (on, false)).1)) n := by
  refine Rm_of (M := xm80) (lv := [(0, _)]) rfl rfl rfl ?_
  refine Gq_s (pc' := 1) rfl rfl rfl ?_
  refine Gq_s (pc' := 2) (lv' := [(0, _), (1, _)]) rfl rfl rfl ?_
  refine Gq_s (pc' := 3) rfl rfl rfl ?_
  refine Gq_s (pc' := 4) (lv' := [(0, _), (1, _), (2, _)]) rfl rfl rfl ?_
  exact t_tbn_l ht hC 12 0 H (on, false) [] rfl (.inl rfl) hvs h0 h1 h2 ho
theorem o16_nPk {H : HF} {ch : Nat → Option Nat} {vr : Nat → VR} {V : Nat → Prop} (hC : ChV V ch) (hvs : VsA H vr V) {p : Nat} (hp : p < 12) {s : (Nat → Nat) × Bool} (h : o16 s.1) : o16 (nPk vr ch p s).1 := by
  unfold nPk
  cases hx : ch p with
  | none => exact h
  | some q =>
    obtain ⟨-, -, f, g, -, h4, -⟩ := hvs q (hC p q hp hx)
    exact o16_fold (ChainAt_ok h4) h
theorem o16_nRun {H : HF} {ch : Nat → Option Nat} {vr : Nat → VR} {V : Nat → Prop} (hC : ChV V ch) (hvs : VsA H vr V) : ∀ (k j : Nat) (s : (Nat → Nat) × Bool), j + k ≤ 12 → o16 s.1 → o16 (nRun vr ch k j s).1
  | 0, _, _, _, h => h
  | k + 1, j, s, hj, h => o16_nRun hC hvs k (j + 1) _ (by omega) (o16_nPk hC hvs (by omega) h)
theorem o16_tofRun {H : HF} {ch : Nat → Option Nat} {vr : Nat → VR} {V : Nat → Prop} (hC : ChV V ch) (hvs : VsA H vr V) : ∀ (k : Nat) (on : Nat → Nat), o16 on → o16 (tofRun vr ch k on)
  | 0, _, h => h
  | k + 1, on, h => by
    unfold tofRun
    have h1 := o16_nRun hC hvs 12 0 (on, false) (by omega) h
    split
    · exact o16_tofRun hC hvs k _ h1
    · exact h1
theorem t_tof_a {S : ScT} {t w n : Nat} {Q : XLf → Prop} : ∀ (k j : Nat) (H : HF) (on : Nat → Nat), j + k = 12 → H t = some (false, 2, [.ref (t + 1), .ref (t + 2)]) → H (t + 2) = some (true, 0, aNt 12 on) → (∀ p, p < j → on p = 0) → Gw S xm79 21 [(0, .ref t), (1, .ref w), (2, .int (zI 12))] [] (hup H (t + 2) (true, 0, aNt 12 (fun _ => 0))) n 0 0 Q → Gw S xm79 2 [(0, .ref t), (1, .ref w), (2, .int (zI (j : Int)))] [] H n 0 0 Q := by
  intro k
  induction k with
  | zero =>
    intro j H on hj h0 h2 hz kk
    obtain rfl : j = 12 := by omega
    refine Gq_s (pc' := 3) rfl rfl rfl ?_
    refine Gq_bipush (pc' := 5) rfl rfl (by decide) ?_
    refine Gq_cge (pc' := 8) (t := 21) rfl rfl rfl (by omega) (by omega) (fun _ => ?_) (fun hq => absurd (by omega) hq)
    rw [← aN_ext (f := on) (g := fun _ => 0) (fun p hp => hz p hp), upd_self h2] at kk
    exact kk
  | succ k ih =>
    intro j H on hj h0 h2 hz kk
    refine Gq_s (pc' := 3) rfl rfl rfl ?_
    refine Gq_bipush (pc' := 5) rfl rfl (by decide) ?_
    refine Gq_cge (pc' := 8) (t := 21) rfl rfl rfl (by omega) (by omega) (fun hq => absurd hq (by omega)) (fun _ => ?_)
    refine Gq_s (pc' := 9) rfl rfl rfl ?_
    refine Gq_get (pc' := 12) rfl rfl (by first | assumption | exact upd_eq _ _ _ | (refine (upd_ne _ _ (by omega)).trans ?_; first | assumption | exact upd_eq _ _ _ | (refine (upd_ne _ _ (by omega)).trans ?_; first | assumption | exact upd_eq _ _ _ | (refine (upd_ne _ _ (by omega)).trans ?_; first | assumption | exact upd_eq _ _ _)))) (by exact rfl) ?_
    refine Gq_s (pc' := 13) rfl rfl rfl ?_
    refine Gq_s (pc' := 14) rfl rfl rfl ?_
    refine Gq_iast (pc' := 15) rfl rfl (by first | assumption | exact upd_eq _ _ _ | (refine (upd_ne _ _ (by omega)).trans ?_; first | assumption | exact upd_eq _ _ _ | (refine (upd_ne _ _ (by omega)).trans ?_; first | assumption | exact upd_eq _ _ _ | (refine (upd_ne _ _ (by omega)).trans ?_; first | assumption | exact upd_eq _ _ _)))) (rfl) (by omega) (by omega) ?_
    rw [show (0 : Int) = ((0 : Nat) : Int) from rfl, aN_fset]
    refine Gq_iinc (pc' := 18) (lv' := [(0, _), (1, _), (2, _)]) rfl rfl rfl rfl ?_
    refine Gq_goto rfl (t := 2) rfl ?_
    refine ih (j + 1) _ (fset on j 0) (by omega) (by rw [upd_ne _ _ (by omega)]; exact h0) (upd_eq _ _ _) (fun p hp => ?_) (by rw [upd_upd]; exact kk)
    by_cases e : p = j
    · subst e; exact fset_eq _ _ _
    · rw [fset_ne _ _ e]; exact hz p (by omega)
theorem t_tof_b {S : ScT} {t w n : Nat} {ch : Nat → Option Nat} {wl : List CR} {Q : XLf → Prop} (ht : t + 2 < 119) (hw : w + 1 < 119) (hd : ¬ t + 2 = w ∧ ¬ t + 2 = w + 1) : ∀ (k j : Nat) (H : HF) (on : Nat → Nat), j + k = wl.length → WiAt H w wl → H t = some (false, 2, [.ref (t + 1), .ref (t + 2)]) → H (t + 1) = some (true, 3, aR 12 ch) → H (t + 2) = some (true, 0, aNt 12 on) → o16 on → Gw S xm79 48 [(0, .ref t), (1, .ref w), (2, .int (zI (wl.length : Int)))] [] (hup H (t + 2) (true, 0, aNt 12 ((wl.drop j).foldl (tOn ch) on))) n 0 0 Q → Gw S xm79 23 [(0, .ref t), (1, .ref w), (2, .int (zI (j : Int)))] [] H n 0 0 Q := by
  intro k
  induction k with
  | zero =>
    intro j H on hj hW h0 h1 h2 ho kk
    obtain rfl : j = wl.length := by omega
    obtain ⟨h3, hL, -⟩ := id hW
    refine Gq_s (pc' := 24) rfl rfl rfl ?_
    refine Gq_s (pc' := 25) rfl rfl rfl ?_
    refine Gq_get (pc' := 28) rfl rfl (by first | assumption | exact upd_eq _ _ _ | (refine (upd_ne _ _ (by omega)).trans ?_; first | assumption | exact upd_eq _ _ _ | (refine (upd_ne _ _ (by omega)).trans ?_; first | assumption | exact upd_eq _ _ _ | (refine (upd_ne _ _ (by omega)).trans ?_; first | assumption | exact upd_eq _ _ _)))) (by exact rfl) ?_
    refine Gq_cge (pc' := 31) (t := 48) rfl rfl rfl (by omega) (by omega) (fun _ => ?_) (fun hq => absurd (by omega) hq)
    rw [List.drop_length] at kk
    rw [← upd_self h2]
    exact kk
  | succ k ih =>
    intro j H on hj hW h0 h1 h2 ho kk
    have hjl : j < wl.length := by omega
    obtain ⟨h3, hL, wc, h4, h5⟩ := id hW
    obtain ⟨q, nx, h6, h7⟩ := h5 j wl[j] (List.getElem?_eq_getElem hjl)
    refine Gq_s (pc' := 24) rfl rfl rfl ?_
    refine Gq_s (pc' := 25) rfl rfl rfl ?_
    refine Gq_get (pc' := 28) rfl rfl (by first | assumption | exact upd_eq _ _ _ | (refine (upd_ne _ _ (by omega)).trans ?_; first | assumption | exact upd_eq _ _ _ | (refine (upd_ne _ _ (by omega)).trans ?_; first | assumption | exact upd_eq _ _ _ | (refine (upd_ne _ _ (by omega)).trans ?_; first | assumption | exact upd_eq _ _ _)))) (by exact rfl) ?_
    refine Gq_cge (pc' := 31) (t := 48) rfl rfl rfl (by omega) (by omega) (fun hq => absurd hq (by omega)) (fun _ => ?_)
    refine Gq_s (pc' := 32) rfl rfl rfl ?_
    refine Gq_s (pc' := 33) rfl rfl rfl ?_
    refine Gq_get (pc' := 36) rfl rfl (by first | assumption | exact upd_eq _ _ _ | (refine (upd_ne _ _ (by omega)).trans ?_; first | assumption | exact upd_eq _ _ _ | (refine (upd_ne _ _ (by omega)).trans ?_; first | assumption | exact upd_eq _ _ _ | (refine (upd_ne _ _ (by omega)).trans ?_; first | assumption | exact upd_eq _ _ _)))) (by exact rfl) ?_
    refine Gq_s (pc' := 37) rfl rfl rfl ?_
    refine Gq_aald (pc' := 38) rfl rfl (by first | assumption | exact upd_eq _ _ _ | (refine (upd_ne _ _ (by omega)).trans ?_; first | assumption | exact upd_eq _ _ _ | (refine (upd_ne _ _ (by omega)).trans ?_; first | assumption | exact upd_eq _ _ _ | (refine (upd_ne _ _ (by omega)).trans ?_; first | assumption | exact upd_eq _ _ _)))) (by exact rfl) (rfl) (by omega) (by omega) (rv_s h6) ?_
    refine Gq_callv1 (pc' := 41) (Y := xm81) (rest := []) (st' := [_]) (ce' := 0) (sl' := 0) rfl rfl rfl rfl rfl rfl rfl rfl rfl (t_turnOn n ht h0 h1 h2 ho h7) rfl (by first | assumption | exact upd_eq _ _ _ | (refine (upd_ne _ _ (by omega)).trans ?_; first | assumption | exact upd_eq _ _ _ | (refine (upd_ne _ _ (by omega)).trans ?_; first | assumption | exact upd_eq _ _ _ | (refine (upd_ne _ _ (by omega)).trans ?_; first | assumption | exact upd_eq _ _ _)))) ?_
    refine Gq_s (pc' := 42) rfl rfl rfl ?_
    refine Gq_iinc (pc' := 45) (lv' := [(0, _), (1, _), (2, _)]) rfl rfl rfl rfl ?_
    refine Gq_goto rfl (t := 23) rfl ?_
    rw [List.drop_eq_getElem_cons hjl, List.foldl_cons] at kk
    exact ih (j + 1) _ (tOn ch on wl[j]) (by omega) (WiAt_upd ht hd.1 hd.2 hW) (by rw [upd_ne _ _ (by omega)]; exact h0) (by rw [upd_ne _ _ (by omega)]; exact h1) (upd_eq _ _ _) (o16_tOn ho h7.2.1) (by rw [upd_upd]; exact kk)
theorem t_tof_c {S : ScT} {t w n : Nat} {ch : Nat → Option Nat} {vr : Nat → VR} {V : Nat → Prop} (ht : t + 2 < 119) (hC : ChV V ch) : ∀ (k j : Nat) (H : HF) (on : Nat → Nat), j + k = 49 → VsA H vr V → H t = some (false, 2, [.ref (t + 1), .ref (t + 2)]) → H (t + 1) = some (true, 3, aR 12 ch) → H (t + 2) = some (true, 0, aNt 12 on) → o16 on → Gw S xm79 52 [(0, .ref t), (1, .ref w), (2, .int (zI (bI true))), (3, .int (zI (j : Int)))] [] H n 0 0 (MQe xm79 (fun v G m => v = none ∧ G = (hup H (t + 2) (true, 0, aNt 12 (tofRun vr ch k on))) ∧ m = n)) := by
  intro k
  induction k with
  | zero =>
    intro j H on hj hvs h0 h1 h2 ho
    refine Gq_s (pc' := 53) rfl rfl rfl ?_
    refine Gq_zeq (pc' := 56) (t := 73) rfl rfl rfl (by decide) (fun hq => absurd hq (by decide)) (fun _ => ?_)
    refine Gq_s (pc' := 57) rfl rfl rfl ?_
    refine Gq_bipush (pc' := 59) rfl rfl (by decide) ?_
    refine Gq_cgt (pc' := 62) (t := 73) rfl rfl rfl (by omega) (by omega) (fun _ => ?_) (fun hq => absurd (by omega) hq)
    exact Gq_ret rfl rfl (rfl) (⟨rfl, (upd_self h2).symm, rfl⟩)
  | succ k ih =>
    intro j H on hj hvs h0 h1 h2 ho
    refine Gq_s (pc' := 53) rfl rfl rfl ?_
    refine Gq_zeq (pc' := 56) (t := 73) rfl rfl rfl (by decide) (fun hq => absurd hq (by decide)) (fun _ => ?_)
    refine Gq_s (pc' := 57) rfl rfl rfl ?_
    refine Gq_bipush (pc' := 59) rfl rfl (by decide) ?_
    refine Gq_cgt (pc' := 62) (t := 73) rfl rfl rfl (by omega) (by omega) (fun hq => absurd hq (by omega)) (fun _ => ?_)
    refine Gq_s (pc' := 63) rfl rfl rfl ?_
    refine Gq_callv1 (pc' := 66) (Y := xm80) (rest := []) (st' := [_]) (ce' := 0) (sl' := 0) rfl rfl rfl rfl rfl rfl rfl rfl rfl (t_tbn n ht hC hvs h0 h1 h2 ho) rfl (by first | assumption | exact upd_eq _ _ _ | (refine (upd_ne _ _ (by omega)).trans ?_; first | assumption | exact upd_eq _ _ _ | (refine (upd_ne _ _ (by omega)).trans ?_; first | assumption | exact upd_eq _ _ _ | (refine (upd_ne _ _ (by omega)).trans ?_; first | assumption | exact upd_eq _ _ _)))) ?_
    refine Gq_s (pc' := 67) (lv' := [(0, _), (1, _), (2, _), (3, _)]) rfl rfl rfl ?_
    refine Gq_iinc (pc' := 70) (lv' := [(0, _), (1, _), (2, _), (3, _)]) rfl rfl rfl rfl ?_
    refine Gq_goto rfl (t := 52) rfl ?_
    cases hg : (nRun vr ch 12 0 (on, false)).2 with
    | false =>
      have e : tofRun vr ch (k + 1) on = (nRun vr ch 12 0 (on, false)).1 := by
        unfold tofRun
        rw [hg]
        rfl
      rw [e]
      refine Gq_s (pc' := 53) rfl rfl rfl ?_
      refine Gq_zeq (pc' := 56) (t := 73) rfl rfl rfl (by decide) (fun _ => ?_) (fun hq => absurd (rfl) hq)
      exact Gq_ret rfl rfl (rfl) (⟨rfl, rfl, rfl⟩)
    | true =>
      have e : tofRun vr ch (k + 1) on = tofRun vr ch k (nRun vr ch 12 0 (on, false)).1 := by
        rw [tofRun, hg]
        rfl
      rw [e]
      have := ih (j + 1) (hup H (t + 2) (true, 0, aNt 12 (nRun vr ch 12 0 (on, false)).1)) _ (by omega) (VS_upd ht hvs) (by rw [upd_ne _ _ (by omega)]; exact h0) (by rw [upd_ne _ _ (by omega)]; exact h1) (upd_eq _ _ _) (o16_nRun hC hvs 12 0 (on, false) (by omega) ho)
      simp only [upd_upd] at this
      exact this
theorem t_tof {S : ScT} {H : HF} (n : Nat) {t : Nat} {ch : Nat → Option Nat} {on : Nat → Nat} {vr : Nat → VR} {V : Nat → Prop} (ht : t + 2 < 119) (hC : ChV V ch) (hvs : VsA H vr V) (h0 : H t = some (false, 2, [.ref (t + 1), .ref (t + 2)])) (h1 : H (t + 1) = some (true, 3, aR 12 ch)) (h2 : H (t + 2) = some (true, 0, aNt 12 on)) {w : Nat} {wl : List CR} (hw : w + 1 < 119) (hd : ¬ t + 2 = w ∧ ¬ t + 2 = w + 1) (hW : WiAt H w wl) : Rdt S 79 [.ref t, .ref w] H n none (hup H (t + 2) (true, 0, aNt 12 (onF vr ch wl))) n := by
  refine Rm_of (M := xm79) (lv := [(0, _), (1, _)]) rfl rfl rfl ?_
  refine Gq_s (pc' := 1) rfl rfl rfl ?_
  refine Gq_s (pc' := 2) (lv' := [(0, _), (1, _), (2, _)]) rfl rfl rfl ?_
  refine t_tof_a 12 0 H on rfl h0 h2 (fun p hp => absurd hp (by omega)) ?_
  refine Gq_s (pc' := 22) rfl rfl rfl ?_
  refine Gq_s (pc' := 23) (lv' := [(0, _), (1, _), (2, _)]) rfl rfl rfl ?_
  refine t_tof_b ht hw hd wl.length 0 (hup H (t + 2) (true, 0, aNt 12 (fun _ => 0))) (fun _ => 0) (by omega) (WiAt_upd ht hd.1 hd.2 hW) (by rw [upd_ne _ _ (by omega)]; exact h0) (by rw [upd_ne _ _ (by omega)]; exact h1) (upd_eq _ _ _) o16_0 ?_
  refine Gq_s (pc' := 49) rfl rfl rfl ?_
  refine Gq_s (pc' := 50) (lv' := [(0, _), (1, _), (2, _)]) rfl rfl rfl ?_
  refine Gq_s (pc' := 51) rfl rfl rfl ?_
  refine Gq_s (pc' := 52) (lv' := [(0, _), (1, _), (2, _), (3, _)]) rfl rfl rfl ?_
  have hwo : ∀ c ∈ wl, cOK c := fun c hc => by
    obtain ⟨i, hi, rfl⟩ := List.getElem_of_mem hc
    obtain ⟨-, -, wc, -, h5⟩ := id hW
    obtain ⟨q, nx, -, h7⟩ := h5 i wl[i] (List.getElem?_eq_getElem hi)
    exact h7.2.1
  rw [upd_upd]
  have := t_tof_c (S := S) (w := w) (n := n) ht hC 49 0 (hup H (t + 2) (true, 0, aNt 12 (wl.foldl (tOn ch) (fun _ => 0)))) _ rfl (VS_upd ht hvs) (by rw [upd_ne _ _ (by omega)]; exact h0) (by rw [upd_ne _ _ (by omega)]; exact h1) (upd_eq _ _ _) (o16_wl hwo o16_0)
  simp only [upd_upd] at this
  exact this
end XK3
end
section
/-! what goes together; needs as sets (printed by wip/p46/gen24.py) -/
section XK4
def grtB (vr : Nat → VR) (ch : Nat → Option Nat) (whole : Bool) (c : CR) : Bool :=
  match ch (cT c) with
  | none => !whole
  | some k => cIn c (vM (vr k))
def ndB (vr : Nat → VR) (ch : Nat → Option Nat) (whole : Bool) (f : Nat) (c : CR) : Bool := !(cCnt c f) || grtB vr ch whole c
def frB (vr : Nat → VR) (ch : Nat → Option Nat) (c : CR) : Bool :=
  match ch (cT c) with
  | none => true
  | some k => !(cIn c (vM (vr k)))
def pkB (vr : Nat → VR) (ch : Nat → Option Nat) (on : Nat → Nat) (whole : Bool) (p : Nat) : Bool :=
  match ch p with
  | none => true
  | some k => (vQ (vr k)).all (ndB vr ch whole (on p)) && (vK (vr k)).all (frB vr ch)
def allTo (f : Nat → Bool) : Nat → Bool
  | 0 => true
  | k + 1 => allTo f k && f k
theorem allTo_f {f : Nat → Bool} {j : Nat} (h : f j = false) : ∀ k, j < k → allTo f k = false
  | 0, hj => absurd hj (by omega)
  | k + 1, hj => by
    show (allTo f k && f k) = false
    by_cases e : j = k
    · subst e
      rw [h, Bool.and_false]
    · rw [allTo_f h k (by omega), Bool.false_and]
theorem allTo_i {f : Nat → Bool} : ∀ {k : Nat}, allTo f k = true → ∀ j, j < k → f j = true
  | 0, _, j, hj => absurd hj (by omega)
  | k + 1, h, j, hj => by
    have h' : (allTo f k && f k) = true := h
    rw [Bool.and_eq_true] at h'
    by_cases e : j = k
    · subst e
      exact h'.2
    · exact allTo_i h'.1 j (by omega)
theorem allTo_e {f g : Nat → Bool} : ∀ {k : Nat}, (∀ j, j < k → f j = g j) → allTo f k = allTo g k
  | 0, _ => rfl
  | k + 1, h => by
    show (allTo f k && f k) = (allTo g k && g k)
    rw [allTo_e (fun j hj => h j (by omega)), h k (by omega)]
/-- it goes together -/
def mtsB (vr : Nat → VR) (ch : Nat → Option Nat) (on : Nat → Nat) (wl : List CR) (whole : Bool) : Bool := wl.all (grtB vr ch whole) && allTo (pkB vr ch on whole) 12
/-- the set of what a package needs -/
def nm1 (f : Nat) (m : Nat) (c : CR) : Nat := if cCnt c f then m ||| 2 ^ cT c else m
def nMask (vr : Nat → VR) (ch : Nat → Option Nat) (on : Nat → Nat) (p : Nat) : Nat :=
  match ch p with
  | none => 0
  | some k => (vQ (vr k)).foldl (nm1 (on p)) 0
theorem nm1_lt {f m : Nat} {c : CR} (hm : m < 4096) (hc : cOK c) : nm1 f m c < 4096 := by
  unfold nm1
  split
  · exact Nat.or_lt_two_pow (n := 12) hm (Nat.pow_lt_pow_right (by omega) hc.1)
  · exact hm
theorem nm1s_lt {f : Nat} : ∀ {l : List CR} {m : Nat}, (∀ c ∈ l, cOK c) → m < 4096 → l.foldl (nm1 f) m < 4096
  | [], _, _, h => h
  | c :: t, m, hl, h => nm1s_lt (l := t) (fun d hd => hl d (List.mem_cons_of_mem _ hd)) (nm1_lt h (hl c List.mem_cons_self))
theorem nMask_lt {H : HF} {vr : Nat → VR} {V : Nat → Prop} {ch : Nat → Option Nat} {on : Nat → Nat} {p : Nat} (hvs : VsA H vr V) (hC : ChV V ch) (hp : p < 12) : nMask vr ch on p < 4096 := by
  unfold nMask
  cases hx : ch p with
  | none => exact (by decide : 0 < 4096)
  | some k =>
    obtain ⟨-, -, f, g, -, h4, -⟩ := hvs k (hC p k hp hx)
    exact nm1s_lt (ChainAt_ok h4) (by decide)
def nAny (vr : Nat → VR) (ch : Nat → Option Nat) (on : Nat → Nat) (x : Int32) : Nat → Nat
  | 0 => 0
  | k + 1 => if isInB x k then nAny vr ch on x k ||| nMask vr ch on k else nAny vr ch on x k
theorem nAny_lt {H : HF} {vr : Nat → VR} {V : Nat → Prop} {ch : Nat → Option Nat} {on : Nat → Nat} {x : Int32} (hvs : VsA H vr V) (hC : ChV V ch) : ∀ {k : Nat}, k ≤ 12 → nAny vr ch on x k < 4096
  | 0, _ => (by decide : 0 < 4096)
  | k + 1, hk => by
    unfold nAny
    split
    · exact Nat.or_lt_two_pow (n := 12) (nAny_lt hvs hC (by omega)) (nMask_lt hvs hC (by omega))
    · exact nAny_lt hvs hC (by omega)
def rchF (vr : Nat → VR) (ch : Nat → Option Nat) (on : Nat → Nat) : Nat → Nat → Nat
  | 0, m => m
  | k + 1, m => rchF vr ch on k (m ||| nAny vr ch on (zI (m : Int)) 12)
/-- the smallest of a set -/
def smal (x : Int32) : Nat → Nat → Int
  | 0, _ => -1
  | k + 1, j => if isInB x j then (j : Int) else smal x k (j + 1)
theorem t_grants {S : ScT} {H : HF} (n : Nat) {t q : Nat} {ch : Nat → Option Nat} {c : CR} {nx : Value} {whole : Bool} {vr : Nat → VR} {V : Nat → Prop} (hvs : VsA H vr V) (hC : ChV V ch) (h0 : H t = some (false, 2, [.ref (t + 1), .ref (t + 2)])) (h1 : H (t + 1) = some (true, 3, aR 12 ch)) (hc : ClaimAt H q c nx) : Rdt S 83 [.ref t, .ref q, .int (zI (bI whole))] H n (some (.int (zI (bI (grtB vr ch whole c))))) H n := by
  refine Rm_of (M := xm83) (lv := [(0, _), (1, _), (2, _)]) rfl rfl rfl ?_
  obtain ⟨hq, hok, r, hr, h4, h3⟩ := hc
  obtain ⟨hT, -⟩ := id hok
  refine Gq_s (pc' := 1) rfl rfl rfl ?_
  refine Gq_get (pc' := 4) rfl rfl (by first | assumption | exact upd_eq _ _ _ | (refine (upd_ne _ _ (by omega)).trans ?_; first | assumption | exact upd_eq _ _ _ | (refine (upd_ne _ _ (by omega)).trans ?_; first | assumption | exact upd_eq _ _ _ | (refine (upd_ne _ _ (by omega)).trans ?_; first | assumption | exact upd_eq _ _ _)))) (by exact rfl) ?_
  refine Gq_s (pc' := 5) rfl rfl rfl ?_
  refine Gq_get (pc' := 8) rfl rfl (by first | assumption | exact upd_eq _ _ _ | (refine (upd_ne _ _ (by omega)).trans ?_; first | assumption | exact upd_eq _ _ _ | (refine (upd_ne _ _ (by omega)).trans ?_; first | assumption | exact upd_eq _ _ _ | (refine (upd_ne _ _ (by omega)).trans ?_; first | assumption | exact upd_eq _ _ _)))) (by exact rfl) ?_
  refine Gq_aalx (pc' := 9) rfl rfl (by first | assumption | exact upd_eq _ _ _ | (refine (upd_ne _ _ (by omega)).trans ?_; first | assumption | exact upd_eq _ _ _ | (refine (upd_ne _ _ (by omega)).trans ?_; first | assumption | exact upd_eq _ _ _ | (refine (upd_ne _ _ (by omega)).trans ?_; first | assumption | exact upd_eq _ _ _)))) (by exact rfl) (rfl) (by omega) (by omega) (fun hx => ?_) (fun k hx => ?_)
  · refine Gq_s (pc' := 10) (lv' := [(0, _), (1, _), (2, _), (3, _)]) rfl rfl rfl ?_
    refine Gq_s (pc' := 11) rfl rfl rfl ?_
    refine Gq_non_n (pc' := 14) (t := 26) rfl rfl rfl ?_
    refine Gq_s (pc' := 15) rfl rfl rfl ?_
    refine Gq_bne (pc' := 18) (t := 22) rfl rfl rfl (fun hb => ?_) (fun hb => ?_)
    · refine Gq_s (pc' := 23) rfl rfl rfl ?_
      refine Gq_goto rfl (t := 34) rfl ?_
      exact Gq_ret rfl rfl (rfl) (⟨by unfold grtB; rw [hx, hb]; rfl, rfl, rfl⟩)
    · refine Gq_s (pc' := 19) rfl rfl rfl ?_
      refine Gq_goto rfl (t := 34) rfl ?_
      exact Gq_ret rfl rfl (rfl) (⟨by unfold grtB; rw [hx, hb]; rfl, rfl, rfl⟩)
  · refine Gq_s (pc' := 10) (lv' := [(0, _), (1, _), (2, _), (3, _)]) rfl rfl rfl ?_
    refine Gq_s (pc' := 11) rfl rfl rfl ?_
    refine Gq_non_r rfl (t := 26) rfl ?_
    refine Gq_s (pc' := 27) rfl rfl rfl ?_
    refine Gq_get (pc' := 30) rfl rfl (by first | assumption | exact upd_eq _ _ _ | (refine (upd_ne _ _ (by omega)).trans ?_; first | assumption | exact upd_eq _ _ _ | (refine (upd_ne _ _ (by omega)).trans ?_; first | assumption | exact upd_eq _ _ _ | (refine (upd_ne _ _ (by omega)).trans ?_; first | assumption | exact upd_eq _ _ _)))) (by exact rfl) ?_
    refine Gq_s (pc' := 31) rfl rfl rfl ?_
    refine Gq_callv1 (pc' := 34) (Y := xm107) (rest := []) (st' := [_]) (ce' := 0) (sl' := 0) rfl rfl rfl rfl rfl rfl rfl rfl rfl (t_admits n h4 hok (hvs k (hC _ k hT hx))) rfl (by first | assumption | exact upd_eq _ _ _ | (refine (upd_ne _ _ (by omega)).trans ?_; first | assumption | exact upd_eq _ _ _ | (refine (upd_ne _ _ (by omega)).trans ?_; first | assumption | exact upd_eq _ _ _ | (refine (upd_ne _ _ (by omega)).trans ?_; first | assumption | exact upd_eq _ _ _)))) ?_
    exact Gq_ret rfl rfl (xret_b _) (⟨by unfold grtB; rw [hx], rfl, rfl⟩)
theorem t_gn_l {S : ScT} {H : HF} {n t o : Nat} {ch : Nat → Option Nat} {whole : Bool} {vr : Nat → VR} {V : Nat → Prop} (hvs : VsA H vr V) (hC : ChV V ch) (h0 : H t = some (false, 2, [.ref (t + 1), .ref (t + 2)])) (h1 : H (t + 1) = some (true, 3, aR 12 ch)) {f : Nat} (hf : f < 16) : ∀ (l : List CR) (x : Option Nat), ChnAt H x l → Gw S xm84 6 [(0, .ref t), (1, .ref o), (2, .int (zI (f : Int))), (3, .int (zI (bI whole))), (4, rvl x)] [] H n 0 0 (MQe xm84 (fun v G m => v = some (.int (zI (bI (l.all (ndB vr ch whole f))))) ∧ G = H ∧ m = n)) := by
  intro l
  induction l with
  | nil =>
    intro x hl
    obtain rfl : x = none := hl
    refine Gq_s (pc' := 8) rfl rfl rfl ?_
    refine Gq_nul_n rfl (t := 42) rfl ?_
    refine Gq_s (pc' := 43) rfl rfl rfl ?_
    exact Gq_ret rfl rfl (rfl) (⟨rfl, rfl, rfl⟩)
  | cons c l ih =>
    intro x hl
    obtain ⟨q, nx, rfl, hcl, hch⟩ := hl
    have hcl0 := hcl
    obtain ⟨hq, hok, r, -, -, h3⟩ := hcl0
    refine Gq_s (pc' := 8) rfl rfl rfl ?_
    refine Gq_nul_r (pc' := 11) (t := 42) rfl rfl rfl ?_
    refine Gq_s (pc' := 13) rfl rfl rfl ?_
    refine Gq_s (pc' := 14) rfl rfl rfl ?_
    refine Gq_callv1 (pc' := 17) (Y := xm90) (rest := []) (st' := [_]) (ce' := 0) (sl' := 0) rfl rfl rfl rfl rfl rfl rfl rfl rfl (t_countsWith n hcl hf) rfl (by first | assumption | exact upd_eq _ _ _ | (refine (upd_ne _ _ (by omega)).trans ?_; first | assumption | exact upd_eq _ _ _ | (refine (upd_ne _ _ (by omega)).trans ?_; first | assumption | exact upd_eq _ _ _ | (refine (upd_ne _ _ (by omega)).trans ?_; first | assumption | exact upd_eq _ _ _)))) ?_
    refine Gq_beq (pc' := 20) (t := 32) rfl rfl rfl (fun hb => ?_) (fun hb => ?_)
    · refine Gq_s (pc' := 34) rfl rfl rfl ?_
      refine Gq_get (pc' := 37) rfl rfl (by first | assumption | exact upd_eq _ _ _ | (refine (upd_ne _ _ (by omega)).trans ?_; first | assumption | exact upd_eq _ _ _ | (refine (upd_ne _ _ (by omega)).trans ?_; first | assumption | exact upd_eq _ _ _ | (refine (upd_ne _ _ (by omega)).trans ?_; first | assumption | exact upd_eq _ _ _)))) (by exact rfl) ?_
      refine Gq_astv (pc' := 39) (lv' := [(0, _), (1, _), (2, _), (3, _), (4, _)]) (k := 4) rfl (fun _ _ => rfl) rfl rfl ?_
      refine Gq_goto rfl (t := 6) rfl ?_
      have e : (c :: l).all (ndB vr ch whole f) = l.all (ndB vr ch whole f) := by
        rw [List.all_cons, ndB, hb]
        rfl
      rw [e]
      exact ih nx hch
    · refine Gq_s (pc' := 21) rfl rfl rfl ?_
      refine Gq_s (pc' := 23) rfl rfl rfl ?_
      refine Gq_s (pc' := 24) rfl rfl rfl ?_
      refine Gq_callv1 (pc' := 27) (Y := xm83) (rest := []) (st' := [_]) (ce' := 0) (sl' := 0) rfl rfl rfl rfl rfl rfl rfl rfl rfl (t_grants n hvs hC h0 h1 hcl) rfl (by first | assumption | exact upd_eq _ _ _ | (refine (upd_ne _ _ (by omega)).trans ?_; first | assumption | exact upd_eq _ _ _ | (refine (upd_ne _ _ (by omega)).trans ?_; first | assumption | exact upd_eq _ _ _ | (refine (upd_ne _ _ (by omega)).trans ?_; first | assumption | exact upd_eq _ _ _)))) ?_
      refine Gq_bne (pc' := 30) (t := 32) rfl rfl rfl (fun hg => ?_) (fun hg => ?_)
      · refine Gq_s (pc' := 34) rfl rfl rfl ?_
        refine Gq_get (pc' := 37) rfl rfl (by first | assumption | exact upd_eq _ _ _ | (refine (upd_ne _ _ (by omega)).trans ?_; first | assumption | exact upd_eq _ _ _ | (refine (upd_ne _ _ (by omega)).trans ?_; first | assumption | exact upd_eq _ _ _ | (refine (upd_ne _ _ (by omega)).trans ?_; first | assumption | exact upd_eq _ _ _)))) (by exact rfl) ?_
        refine Gq_astv (pc' := 39) (lv' := [(0, _), (1, _), (2, _), (3, _), (4, _)]) (k := 4) rfl (fun _ _ => rfl) rfl rfl ?_
        refine Gq_goto rfl (t := 6) rfl ?_
        have e : (c :: l).all (ndB vr ch whole f) = l.all (ndB vr ch whole f) := by
          rw [List.all_cons, ndB, hg, Bool.or_true]
          rfl
        rw [e]
        exact ih nx hch
      · refine Gq_s (pc' := 31) rfl rfl rfl ?_
        exact Gq_ret rfl rfl (rfl) (⟨by rw [List.all_cons, ndB, hg, hb]; rfl, rfl, rfl⟩)
theorem t_gn {S : ScT} {H : HF} {n t o : Nat} {ch : Nat → Option Nat} {whole : Bool} {vr : Nat → VR} {V : Nat → Prop} (hvs : VsA H vr V) (hC : ChV V ch) (h0 : H t = some (false, 2, [.ref (t + 1), .ref (t + 2)])) (h1 : H (t + 1) = some (true, 3, aR 12 ch)) {f : Nat} (hf : f < 16) {v : VR} (hv : VerAt H o v) : Rdt S 84 [.ref t, .ref o, .int (zI (f : Int)), .int (zI (bI whole))] H n (some (.int (zI (bI ((vQ v).all (ndB vr ch whole f)))))) H n := by
  refine Rm_of (M := xm84) (lv := [(0, _), (1, _), (2, _), (3, _)]) rfl rfl rfl ?_
  obtain ⟨-, -, x, y, h3, h4, -⟩ := hv
  refine Gq_s (pc' := 1) rfl rfl rfl ?_
  refine Gq_get (pc' := 4) rfl rfl (by first | assumption | exact upd_eq _ _ _ | (refine (upd_ne _ _ (by omega)).trans ?_; first | assumption | exact upd_eq _ _ _ | (refine (upd_ne _ _ (by omega)).trans ?_; first | assumption | exact upd_eq _ _ _ | (refine (upd_ne _ _ (by omega)).trans ?_; first | assumption | exact upd_eq _ _ _)))) (by exact rfl) ?_
  refine Gq_astv (pc' := 6) (lv' := [(0, _), (1, _), (2, _), (3, _), (4, _)]) (k := 4) rfl (fun _ _ => rfl) rfl rfl ?_
  exact t_gn_l hvs hC h0 h1 hf _ x h4
theorem t_fr_l {S : ScT} {H : HF} {n t o : Nat} {ch : Nat → Option Nat} {vr : Nat → VR} {V : Nat → Prop} (hvs : VsA H vr V) (hC : ChV V ch) (h0 : H t = some (false, 2, [.ref (t + 1), .ref (t + 2)])) (h1 : H (t + 1) = some (true, 3, aR 12 ch)) : ∀ (l : List CR) (x : Option Nat) (ex : XL), (ex = [] ∨ ∃ v, ex = [(3, v)]) → ChnAt H x l → Gw S xm85 5 ((0, .ref t) :: (1, .ref o) :: (2, rvl x) :: ex) [] H n 0 0 (MQe xm85 (fun v G m => v = some (.int (zI (bI (l.all (frB vr ch))))) ∧ G = H ∧ m = n)) := by
  intro l
  induction l with
  | nil =>
    intro x ex hex hl
    obtain rfl : x = none := hl
    refine Gq_s (pc' := 6) rfl rfl rfl ?_
    refine Gq_nul_n rfl (t := 44) rfl ?_
    refine Gq_s (pc' := 45) rfl rfl rfl ?_
    exact Gq_ret rfl rfl (rfl) (⟨rfl, rfl, rfl⟩)
  | cons c l ih =>
    intro x ex hex hl
    obtain ⟨q, nx, rfl, hcl, hch⟩ := hl
    obtain ⟨hq, hok, r, hr, h4, h3⟩ := hcl
    obtain ⟨hT, -⟩ := id hok
    refine Gq_s (pc' := 6) rfl rfl rfl ?_
    refine Gq_nul_r (pc' := 9) (t := 44) rfl rfl rfl ?_
    refine Gq_s (pc' := 10) rfl rfl rfl ?_
    refine Gq_get (pc' := 13) rfl rfl (by first | assumption | exact upd_eq _ _ _ | (refine (upd_ne _ _ (by omega)).trans ?_; first | assumption | exact upd_eq _ _ _ | (refine (upd_ne _ _ (by omega)).trans ?_; first | assumption | exact upd_eq _ _ _ | (refine (upd_ne _ _ (by omega)).trans ?_; first | assumption | exact upd_eq _ _ _)))) (by exact rfl) ?_
    refine Gq_s (pc' := 14) rfl rfl rfl ?_
    refine Gq_get (pc' := 17) rfl rfl (by first | assumption | exact upd_eq _ _ _ | (refine (upd_ne _ _ (by omega)).trans ?_; first | assumption | exact upd_eq _ _ _ | (refine (upd_ne _ _ (by omega)).trans ?_; first | assumption | exact upd_eq _ _ _ | (refine (upd_ne _ _ (by omega)).trans ?_; first | assumption | exact upd_eq _ _ _)))) (by exact rfl) ?_
    refine Gq_aalx (pc' := 18) rfl rfl (by first | assumption | exact upd_eq _ _ _ | (refine (upd_ne _ _ (by omega)).trans ?_; first | assumption | exact upd_eq _ _ _ | (refine (upd_ne _ _ (by omega)).trans ?_; first | assumption | exact upd_eq _ _ _ | (refine (upd_ne _ _ (by omega)).trans ?_; first | assumption | exact upd_eq _ _ _)))) (by exact rfl) (rfl) (by omega) (by omega) (fun hx => ?_) (fun k hx => ?_)
    · refine Gq_st1 (pc' := 19) (lv' := [(0, _), (1, _), (2, _), (3, _)]) (k := 3) rfl (fun _ => rfl) rfl (xst1_ex (pre := [(0, _), (1, _), (2, _)]) hex rfl) ?_
      refine Gq_s (pc' := 20) rfl rfl rfl ?_
      refine Gq_nul_n rfl (t := 36) rfl ?_
      refine Gq_s (pc' := 37) rfl rfl rfl ?_
      refine Gq_get (pc' := 40) rfl rfl (by first | assumption | exact upd_eq _ _ _ | (refine (upd_ne _ _ (by omega)).trans ?_; first | assumption | exact upd_eq _ _ _ | (refine (upd_ne _ _ (by omega)).trans ?_; first | assumption | exact upd_eq _ _ _ | (refine (upd_ne _ _ (by omega)).trans ?_; first | assumption | exact upd_eq _ _ _)))) (by exact rfl) ?_
      refine Gq_astv (pc' := 41) (lv' := [(0, _), (1, _), (2, _), (3, _)]) (k := 2) rfl (fun _ _ => rfl) rfl rfl ?_
      refine Gq_goto rfl (t := 5) rfl ?_
      have e : (c :: l).all (frB vr ch) = l.all (frB vr ch) := by
        rw [List.all_cons, frB, hx]
        rfl
      rw [e]
      exact ih nx _ (.inr ⟨_, rfl⟩) hch
    · refine Gq_st1 (pc' := 19) (lv' := [(0, _), (1, _), (2, _), (3, _)]) (k := 3) rfl (fun _ => rfl) rfl (xst1_ex (pre := [(0, _), (1, _), (2, _)]) hex rfl) ?_
      refine Gq_s (pc' := 20) rfl rfl rfl ?_
      refine Gq_nul_r (pc' := 23) (t := 36) rfl rfl rfl ?_
      refine Gq_s (pc' := 24) rfl rfl rfl ?_
      refine Gq_get (pc' := 27) rfl rfl (by first | assumption | exact upd_eq _ _ _ | (refine (upd_ne _ _ (by omega)).trans ?_; first | assumption | exact upd_eq _ _ _ | (refine (upd_ne _ _ (by omega)).trans ?_; first | assumption | exact upd_eq _ _ _ | (refine (upd_ne _ _ (by omega)).trans ?_; first | assumption | exact upd_eq _ _ _)))) (by exact rfl) ?_
      refine Gq_s (pc' := 28) rfl rfl rfl ?_
      refine Gq_callv1 (pc' := 31) (Y := xm107) (rest := []) (st' := [_]) (ce' := 0) (sl' := 0) rfl rfl rfl rfl rfl rfl rfl rfl rfl (t_admits n h4 hok (hvs k (hC _ k hT hx))) rfl (by first | assumption | exact upd_eq _ _ _ | (refine (upd_ne _ _ (by omega)).trans ?_; first | assumption | exact upd_eq _ _ _ | (refine (upd_ne _ _ (by omega)).trans ?_; first | assumption | exact upd_eq _ _ _ | (refine (upd_ne _ _ (by omega)).trans ?_; first | assumption | exact upd_eq _ _ _)))) ?_
      refine Gq_beq (pc' := 34) (t := 36) rfl rfl rfl (fun hg => ?_) (fun hg => ?_)
      · refine Gq_s (pc' := 37) rfl rfl rfl ?_
        refine Gq_get (pc' := 40) rfl rfl (by first | assumption | exact upd_eq _ _ _ | (refine (upd_ne _ _ (by omega)).trans ?_; first | assumption | exact upd_eq _ _ _ | (refine (upd_ne _ _ (by omega)).trans ?_; first | assumption | exact upd_eq _ _ _ | (refine (upd_ne _ _ (by omega)).trans ?_; first | assumption | exact upd_eq _ _ _)))) (by exact rfl) ?_
        refine Gq_astv (pc' := 41) (lv' := [(0, _), (1, _), (2, _), (3, _)]) (k := 2) rfl (fun _ _ => rfl) rfl rfl ?_
        refine Gq_goto rfl (t := 5) rfl ?_
        have e : (c :: l).all (frB vr ch) = l.all (frB vr ch) := by
          rw [List.all_cons, frB, hx]
          dsimp only
          rw [hg]
          rfl
        rw [e]
        exact ih nx _ (.inr ⟨_, rfl⟩) hch
      · refine Gq_s (pc' := 35) rfl rfl rfl ?_
        exact Gq_ret rfl rfl (rfl) (⟨by rw [List.all_cons, frB, hx]; dsimp only; rw [hg]; rfl, rfl, rfl⟩)
theorem t_free {S : ScT} {H : HF} {n t o : Nat} {ch : Nat → Option Nat} {vr : Nat → VR} {V : Nat → Prop} (hvs : VsA H vr V) (hC : ChV V ch) (h0 : H t = some (false, 2, [.ref (t + 1), .ref (t + 2)])) (h1 : H (t + 1) = some (true, 3, aR 12 ch)) {v : VR} (hv : VerAt H o v) : Rdt S 85 [.ref t, .ref o] H n (some (.int (zI (bI ((vK v).all (frB vr ch)))))) H n := by
  refine Rm_of (M := xm85) (lv := [(0, _), (1, _)]) rfl rfl rfl ?_
  obtain ⟨-, -, x, y, h3, -, h5⟩ := hv
  refine Gq_s (pc' := 1) rfl rfl rfl ?_
  refine Gq_get (pc' := 4) rfl rfl (by first | assumption | exact upd_eq _ _ _ | (refine (upd_ne _ _ (by omega)).trans ?_; first | assumption | exact upd_eq _ _ _ | (refine (upd_ne _ _ (by omega)).trans ?_; first | assumption | exact upd_eq _ _ _ | (refine (upd_ne _ _ (by omega)).trans ?_; first | assumption | exact upd_eq _ _ _)))) (by exact rfl) ?_
  refine Gq_astv (pc' := 5) (lv' := [(0, _), (1, _), (2, _)]) (k := 2) rfl (fun _ _ => rfl) rfl rfl ?_
  exact t_fr_l hvs hC h0 h1 _ y [] (.inl rfl) h5
theorem t_meets_b {S : ScT} {H : HF} {n t w : Nat} {ch : Nat → Option Nat} {on : Nat → Nat} {whole : Bool} {wl : List CR} {vr : Nat → VR} {V : Nat → Prop} (hvs : VsA H vr V) (hC : ChV V ch) (h0 : H t = some (false, 2, [.ref (t + 1), .ref (t + 2)])) (h1 : H (t + 1) = some (true, 3, aR 12 ch)) (h2 : H (t + 2) = some (true, 0, aNt 12 on)) (ho : o16 on) : ∀ (k j : Nat) (ex : XL), j + k = 12 → (ex = [] ∨ ∃ v, ex = [(4, v)]) → allTo (pkB vr ch on whole) j = true → Gw S xm82 34 ((0, .ref t) :: (1, .ref w) :: (2, .int (zI (bI whole))) :: (3, .int (zI (j : Int))) :: ex) [] H n 0 0 (MQe xm82 (fun v G m => v = some (.int (zI (bI (allTo (pkB vr ch on whole) 12)))) ∧ G = H ∧ m = n)) := by
  intro k
  induction k with
  | zero =>
    intro j ex hj hex hA
    obtain rfl : j = 12 := by omega
    refine Gq_s (pc' := 35) rfl rfl rfl ?_
    refine Gq_bipush (pc' := 37) rfl rfl (by decide) ?_
    refine Gq_cge (pc' := 40) (t := 86) rfl rfl rfl (by omega) (by omega) (fun _ => ?_) (fun hq => absurd (by omega) hq)
    refine Gq_s (pc' := 87) rfl rfl rfl ?_
    exact Gq_ret rfl rfl (rfl) (⟨by rw [hA]; rfl, rfl, rfl⟩)
  | succ k ih =>
    intro j ex hj hex hA
    refine Gq_s (pc' := 35) rfl rfl rfl ?_
    refine Gq_bipush (pc' := 37) rfl rfl (by decide) ?_
    refine Gq_cge (pc' := 40) (t := 86) rfl rfl rfl (by omega) (by omega) (fun hq => absurd hq (by omega)) (fun _ => ?_)
    refine Gq_s (pc' := 41) rfl rfl rfl ?_
    refine Gq_get (pc' := 44) rfl rfl (by first | assumption | exact upd_eq _ _ _ | (refine (upd_ne _ _ (by omega)).trans ?_; first | assumption | exact upd_eq _ _ _ | (refine (upd_ne _ _ (by omega)).trans ?_; first | assumption | exact upd_eq _ _ _ | (refine (upd_ne _ _ (by omega)).trans ?_; first | assumption | exact upd_eq _ _ _)))) (by exact rfl) ?_
    refine Gq_s (pc' := 45) rfl rfl rfl ?_
    refine Gq_aalx (pc' := 46) rfl rfl (by first | assumption | exact upd_eq _ _ _ | (refine (upd_ne _ _ (by omega)).trans ?_; first | assumption | exact upd_eq _ _ _ | (refine (upd_ne _ _ (by omega)).trans ?_; first | assumption | exact upd_eq _ _ _ | (refine (upd_ne _ _ (by omega)).trans ?_; first | assumption | exact upd_eq _ _ _)))) (by exact rfl) (rfl) (by omega) (by omega) (fun hx => ?_) (fun q hx => ?_)
    · refine Gq_st1 (pc' := 48) (lv' := [(0, _), (1, _), (2, _), (3, _), (4, _)]) (k := 4) rfl (fun _ => rfl) rfl (xst1_ex (pre := [(0, _), (1, _), (2, _), (3, _)]) hex rfl) ?_
      refine Gq_s (pc' := 50) rfl rfl rfl ?_
      refine Gq_nul_n rfl (t := 80) rfl ?_
      refine Gq_iinc (pc' := 83) (lv' := [(0, _), (1, _), (2, _), (3, _), (4, _)]) rfl rfl rfl rfl ?_
      refine Gq_goto rfl (t := 34) rfl ?_
      exact ih (j + 1) _ (by omega) (.inr ⟨_, rfl⟩) (by
        show (allTo _ j && pkB vr ch on whole j) = true
        rw [hA, pkB, hx]
        rfl)
    · have hq := hvs q (hC j q (by omega) hx)
      refine Gq_st1 (pc' := 48) (lv' := [(0, _), (1, _), (2, _), (3, _), (4, _)]) (k := 4) rfl (fun _ => rfl) rfl (xst1_ex (pre := [(0, _), (1, _), (2, _), (3, _)]) hex rfl) ?_
      refine Gq_s (pc' := 50) rfl rfl rfl ?_
      refine Gq_nul_r (pc' := 53) (t := 80) rfl rfl rfl ?_
      refine Gq_s (pc' := 54) rfl rfl rfl ?_
      refine Gq_s (pc' := 56) rfl rfl rfl ?_
      refine Gq_s (pc' := 57) rfl rfl rfl ?_
      refine Gq_get (pc' := 60) rfl rfl (by first | assumption | exact upd_eq _ _ _ | (refine (upd_ne _ _ (by omega)).trans ?_; first | assumption | exact upd_eq _ _ _ | (refine (upd_ne _ _ (by omega)).trans ?_; first | assumption | exact upd_eq _ _ _ | (refine (upd_ne _ _ (by omega)).trans ?_; first | assumption | exact upd_eq _ _ _)))) (by exact rfl) ?_
      refine Gq_s (pc' := 61) rfl rfl rfl ?_
      refine Gq_iald (pc' := 62) rfl rfl (by first | assumption | exact upd_eq _ _ _ | (refine (upd_ne _ _ (by omega)).trans ?_; first | assumption | exact upd_eq _ _ _ | (refine (upd_ne _ _ (by omega)).trans ?_; first | assumption | exact upd_eq _ _ _ | (refine (upd_ne _ _ (by omega)).trans ?_; first | assumption | exact upd_eq _ _ _)))) (rfl) (by omega) (by omega) ?_
      refine Gq_s (pc' := 63) rfl rfl rfl ?_
      refine Gq_callv1 (pc' := 66) (Y := xm84) (rest := []) (st' := [_]) (ce' := 0) (sl' := 0) rfl rfl rfl rfl rfl rfl rfl rfl rfl (t_gn hvs hC h0 h1 (ho j) hq) rfl (by first | assumption | exact upd_eq _ _ _ | (refine (upd_ne _ _ (by omega)).trans ?_; first | assumption | exact upd_eq _ _ _ | (refine (upd_ne _ _ (by omega)).trans ?_; first | assumption | exact upd_eq _ _ _ | (refine (upd_ne _ _ (by omega)).trans ?_; first | assumption | exact upd_eq _ _ _)))) ?_
      refine Gq_beq (pc' := 69) (t := 78) rfl rfl rfl (fun hb => ?_) (fun hb => ?_)
      · refine Gq_s (pc' := 79) rfl rfl rfl ?_
        exact Gq_ret rfl rfl (rfl) (⟨by rw [allTo_f (j := j) (by rw [pkB, hx]; dsimp only; rw [hb]; rfl) 12 (by omega)]; rfl, rfl, rfl⟩)
      · refine Gq_s (pc' := 70) rfl rfl rfl ?_
        refine Gq_s (pc' := 72) rfl rfl rfl ?_
        refine Gq_callv1 (pc' := 75) (Y := xm85) (rest := []) (st' := [_]) (ce' := 0) (sl' := 0) rfl rfl rfl rfl rfl rfl rfl rfl rfl (t_free hvs hC h0 h1 hq) rfl (by first | assumption | exact upd_eq _ _ _ | (refine (upd_ne _ _ (by omega)).trans ?_; first | assumption | exact upd_eq _ _ _ | (refine (upd_ne _ _ (by omega)).trans ?_; first | assumption | exact upd_eq _ _ _ | (refine (upd_ne _ _ (by omega)).trans ?_; first | assumption | exact upd_eq _ _ _)))) ?_
        refine Gq_bne (pc' := 78) (t := 80) rfl rfl rfl (fun hg => ?_) (fun hg => ?_)
        · refine Gq_iinc (pc' := 83) (lv' := [(0, _), (1, _), (2, _), (3, _), (4, _)]) rfl rfl rfl rfl ?_
          refine Gq_goto rfl (t := 34) rfl ?_
          exact ih (j + 1) _ (by omega) (.inr ⟨_, rfl⟩) (by
            show (allTo _ j && pkB vr ch on whole j) = true
            rw [hA, pkB, hx]
            dsimp only
            rw [hb, hg]
            rfl)
        · refine Gq_s (pc' := 79) rfl rfl rfl ?_
          exact Gq_ret rfl rfl (rfl) (⟨by rw [allTo_f (j := j) (by rw [pkB, hx]; dsimp only; rw [hg, Bool.and_false]) 12 (by omega)]; rfl, rfl, rfl⟩)
theorem t_meets_a {S : ScT} {H : HF} {n t w : Nat} {ch : Nat → Option Nat} {on : Nat → Nat} {whole : Bool} {wl : List CR} {vr : Nat → VR} {V : Nat → Prop} (hvs : VsA H vr V) (hC : ChV V ch) (h0 : H t = some (false, 2, [.ref (t + 1), .ref (t + 2)])) (h1 : H (t + 1) = some (true, 3, aR 12 ch)) (h2 : H (t + 2) = some (true, 0, aNt 12 on)) (ho : o16 on) (hW : WiAt H w wl) : ∀ (k j : Nat), j + k = wl.length → Gw S xm82 2 [(0, .ref t), (1, .ref w), (2, .int (zI (bI whole))), (3, .int (zI (j : Int)))] [] H n 0 0 (MQe xm82 (fun v G m => v = some (.int (zI (bI ((wl.drop j).all (grtB vr ch whole) && allTo (pkB vr ch on whole) 12)))) ∧ G = H ∧ m = n)) := by
  obtain ⟨h3, hL, wc, h4, h5⟩ := hW
  intro k
  induction k with
  | zero =>
    intro j hj
    obtain rfl : j = wl.length := by omega
    refine Gq_s (pc' := 3) rfl rfl rfl ?_
    refine Gq_s (pc' := 4) rfl rfl rfl ?_
    refine Gq_get (pc' := 7) rfl rfl (by first | assumption | exact upd_eq _ _ _ | (refine (upd_ne _ _ (by omega)).trans ?_; first | assumption | exact upd_eq _ _ _ | (refine (upd_ne _ _ (by omega)).trans ?_; first | assumption | exact upd_eq _ _ _ | (refine (upd_ne _ _ (by omega)).trans ?_; first | assumption | exact upd_eq _ _ _)))) (by exact rfl) ?_
    refine Gq_cge (pc' := 10) (t := 32) rfl rfl rfl (by omega) (by omega) (fun _ => ?_) (fun hq => absurd (by omega) hq)
    refine Gq_s (pc' := 33) rfl rfl rfl ?_
    refine Gq_s (pc' := 34) (lv' := [(0, _), (1, _), (2, _), (3, _)]) rfl rfl rfl ?_
    rw [List.drop_length]
    exact t_meets_b (wl := wl) hvs hC h0 h1 h2 ho 12 0 [] rfl (.inl rfl) rfl
  | succ k ih =>
    intro j hj
    have hjl : j < wl.length := by omega
    obtain ⟨q, nx, h6, h7⟩ := h5 j wl[j] (List.getElem?_eq_getElem hjl)
    refine Gq_s (pc' := 3) rfl rfl rfl ?_
    refine Gq_s (pc' := 4) rfl rfl rfl ?_
    refine Gq_get (pc' := 7) rfl rfl (by first | assumption | exact upd_eq _ _ _ | (refine (upd_ne _ _ (by omega)).trans ?_; first | assumption | exact upd_eq _ _ _ | (refine (upd_ne _ _ (by omega)).trans ?_; first | assumption | exact upd_eq _ _ _ | (refine (upd_ne _ _ (by omega)).trans ?_; first | assumption | exact upd_eq _ _ _)))) (by exact rfl) ?_
    refine Gq_cge (pc' := 10) (t := 32) rfl rfl rfl (by omega) (by omega) (fun hq => absurd hq (by omega)) (fun _ => ?_)
    refine Gq_s (pc' := 11) rfl rfl rfl ?_
    refine Gq_s (pc' := 12) rfl rfl rfl ?_
    refine Gq_get (pc' := 15) rfl rfl (by first | assumption | exact upd_eq _ _ _ | (refine (upd_ne _ _ (by omega)).trans ?_; first | assumption | exact upd_eq _ _ _ | (refine (upd_ne _ _ (by omega)).trans ?_; first | assumption | exact upd_eq _ _ _ | (refine (upd_ne _ _ (by omega)).trans ?_; first | assumption | exact upd_eq _ _ _)))) (by exact rfl) ?_
    refine Gq_s (pc' := 16) rfl rfl rfl ?_
    refine Gq_aald (pc' := 17) rfl rfl (by first | assumption | exact upd_eq _ _ _ | (refine (upd_ne _ _ (by omega)).trans ?_; first | assumption | exact upd_eq _ _ _ | (refine (upd_ne _ _ (by omega)).trans ?_; first | assumption | exact upd_eq _ _ _ | (refine (upd_ne _ _ (by omega)).trans ?_; first | assumption | exact upd_eq _ _ _)))) (by exact rfl) (rfl) (by omega) (by omega) (rv_s h6) ?_
    refine Gq_s (pc' := 18) rfl rfl rfl ?_
    refine Gq_callv1 (pc' := 21) (Y := xm83) (rest := []) (st' := [_]) (ce' := 0) (sl' := 0) rfl rfl rfl rfl rfl rfl rfl rfl rfl (t_grants n hvs hC h0 h1 h7) rfl (by first | assumption | exact upd_eq _ _ _ | (refine (upd_ne _ _ (by omega)).trans ?_; first | assumption | exact upd_eq _ _ _ | (refine (upd_ne _ _ (by omega)).trans ?_; first | assumption | exact upd_eq _ _ _ | (refine (upd_ne _ _ (by omega)).trans ?_; first | assumption | exact upd_eq _ _ _)))) ?_
    refine Gq_bne (pc' := 24) (t := 26) rfl rfl rfl (fun hg => ?_) (fun hg => ?_)
    · refine Gq_iinc (pc' := 29) (lv' := [(0, _), (1, _), (2, _), (3, _)]) rfl rfl rfl rfl ?_
      refine Gq_goto rfl (t := 2) rfl ?_
      rw [List.drop_eq_getElem_cons hjl, List.all_cons, hg]
      exact ih (j + 1) (by omega)
    · refine Gq_s (pc' := 25) rfl rfl rfl ?_
      exact Gq_ret rfl rfl (rfl) (⟨by rw [List.drop_eq_getElem_cons hjl, List.all_cons, hg]; rfl, rfl, rfl⟩)
theorem t_meets {S : ScT} {H : HF} {n t w : Nat} {ch : Nat → Option Nat} {on : Nat → Nat} {whole : Bool} {wl : List CR} {vr : Nat → VR} {V : Nat → Prop} (hvs : VsA H vr V) (hC : ChV V ch) (h0 : H t = some (false, 2, [.ref (t + 1), .ref (t + 2)])) (h1 : H (t + 1) = some (true, 3, aR 12 ch)) (h2 : H (t + 2) = some (true, 0, aNt 12 on)) (ho : o16 on) (hW : WiAt H w wl) : Rdt S 82 [.ref t, .ref w, .int (zI (bI whole))] H n (some (.int (zI (bI (mtsB vr ch on wl whole))))) H n := by
  refine Rm_of (M := xm82) (lv := [(0, _), (1, _), (2, _)]) rfl rfl rfl ?_
  refine Gq_s (pc' := 1) rfl rfl rfl ?_
  refine Gq_s (pc' := 2) (lv' := [(0, _), (1, _), (2, _), (3, _)]) rfl rfl rfl ?_
  exact t_meets_a hvs hC h0 h1 h2 ho hW wl.length 0 (by omega)
theorem t_nf_l {S : ScT} {H : HF} {n t p : Nat} {on : Nat → Nat} (hp : p < 12) (h0 : H t = some (false, 2, [.ref (t + 1), .ref (t + 2)])) (h2 : H (t + 2) = some (true, 0, aNt 12 on)) (ho : o16 on) : ∀ (l : List CR) (x : Option Nat) (m0 : Nat), ChnAt H x l → Gw S xm86 25 [(0, .ref t), (1, .int (zI (p : Int))), (2, .int (zI (m0 : Int))), (3, rvl x)] [] H n 0 0 (MQe xm86 (fun v G m => v = some (.int (zI ((l.foldl (nm1 (on p)) m0 : Nat) : Int))) ∧ G = H ∧ m = n)) := by
  intro l
  induction l with
  | nil =>
    intro x m0 hl
    obtain rfl : x = none := hl
    refine Gq_s (pc' := 26) rfl rfl rfl ?_
    refine Gq_nul_n rfl (t := 59) rfl ?_
    refine Gq_s (pc' := 60) rfl rfl rfl ?_
    exact Gq_ret rfl rfl (rfl) (⟨rfl, rfl, rfl⟩)
  | cons c l ih =>
    intro x m0 hl
    obtain ⟨q, nx, rfl, hcl, hch⟩ := hl
    have hcl0 := hcl
    obtain ⟨hq, ⟨hT, -⟩, r, -, -, h3⟩ := hcl0
    refine Gq_s (pc' := 26) rfl rfl rfl ?_
    refine Gq_nul_r (pc' := 29) (t := 59) rfl rfl rfl ?_
    refine Gq_s (pc' := 30) rfl rfl rfl ?_
    refine Gq_s (pc' := 31) rfl rfl rfl ?_
    refine Gq_get (pc' := 34) rfl rfl (by first | assumption | exact upd_eq _ _ _ | (refine (upd_ne _ _ (by omega)).trans ?_; first | assumption | exact upd_eq _ _ _ | (refine (upd_ne _ _ (by omega)).trans ?_; first | assumption | exact upd_eq _ _ _ | (refine (upd_ne _ _ (by omega)).trans ?_; first | assumption | exact upd_eq _ _ _)))) (by exact rfl) ?_
    refine Gq_s (pc' := 35) rfl rfl rfl ?_
    refine Gq_iald (pc' := 36) rfl rfl (by first | assumption | exact upd_eq _ _ _ | (refine (upd_ne _ _ (by omega)).trans ?_; first | assumption | exact upd_eq _ _ _ | (refine (upd_ne _ _ (by omega)).trans ?_; first | assumption | exact upd_eq _ _ _ | (refine (upd_ne _ _ (by omega)).trans ?_; first | assumption | exact upd_eq _ _ _)))) (rfl) (by omega) (by omega) ?_
    refine Gq_callv1 (pc' := 39) (Y := xm90) (rest := []) (st' := [_]) (ce' := 0) (sl' := 0) rfl rfl rfl rfl rfl rfl rfl rfl rfl (t_countsWith n hcl (ho p)) rfl (by first | assumption | exact upd_eq _ _ _ | (refine (upd_ne _ _ (by omega)).trans ?_; first | assumption | exact upd_eq _ _ _ | (refine (upd_ne _ _ (by omega)).trans ?_; first | assumption | exact upd_eq _ _ _ | (refine (upd_ne _ _ (by omega)).trans ?_; first | assumption | exact upd_eq _ _ _)))) ?_
    refine Gq_beq (pc' := 42) (t := 51) rfl rfl rfl (fun hb => ?_) (fun hb => ?_)
    · refine Gq_s (pc' := 52) rfl rfl rfl ?_
      refine Gq_get (pc' := 55) rfl rfl (by first | assumption | exact upd_eq _ _ _ | (refine (upd_ne _ _ (by omega)).trans ?_; first | assumption | exact upd_eq _ _ _ | (refine (upd_ne _ _ (by omega)).trans ?_; first | assumption | exact upd_eq _ _ _ | (refine (upd_ne _ _ (by omega)).trans ?_; first | assumption | exact upd_eq _ _ _)))) (by exact rfl) ?_
      refine Gq_astv (pc' := 56) (lv' := [(0, _), (1, _), (2, _), (3, _)]) (k := 3) rfl (fun _ _ => rfl) rfl rfl ?_
      refine Gq_goto rfl (t := 25) rfl ?_
      have e : (c :: l).foldl (nm1 (on p)) m0 = l.foldl (nm1 (on p)) m0 := by rw [List.foldl_cons, nm1, hb]; rfl
      rw [e]
      exact ih nx m0 hch
    · refine Gq_s (pc' := 43) rfl rfl rfl ?_
      refine Gq_s (pc' := 44) rfl rfl rfl ?_
      refine Gq_s (pc' := 45) rfl rfl rfl ?_
      refine Gq_get (pc' := 48) rfl rfl (by first | assumption | exact upd_eq _ _ _ | (refine (upd_ne _ _ (by omega)).trans ?_; first | assumption | exact upd_eq _ _ _ | (refine (upd_ne _ _ (by omega)).trans ?_; first | assumption | exact upd_eq _ _ _ | (refine (upd_ne _ _ (by omega)).trans ?_; first | assumption | exact upd_eq _ _ _)))) (by exact rfl) ?_
      refine Gq_ishl (pc' := 49) (zI ((2 ^ cT c : Nat) : Int)) rfl rfl (z_shl _ hT) ?_
      refine Gq_ior (pc' := 50) (zI ((m0 ||| 2 ^ cT c : Nat) : Int)) rfl rfl (z_or _ _) ?_
      refine Gq_s (pc' := 51) (lv' := [(0, _), (1, _), (2, _), (3, _)]) rfl rfl rfl ?_
      refine Gq_s (pc' := 52) rfl rfl rfl ?_
      refine Gq_get (pc' := 55) rfl rfl (by first | assumption | exact upd_eq _ _ _ | (refine (upd_ne _ _ (by omega)).trans ?_; first | assumption | exact upd_eq _ _ _ | (refine (upd_ne _ _ (by omega)).trans ?_; first | assumption | exact upd_eq _ _ _ | (refine (upd_ne _ _ (by omega)).trans ?_; first | assumption | exact upd_eq _ _ _)))) (by exact rfl) ?_
      refine Gq_astv (pc' := 56) (lv' := [(0, _), (1, _), (2, _), (3, _)]) (k := 3) rfl (fun _ _ => rfl) rfl rfl ?_
      refine Gq_goto rfl (t := 25) rfl ?_
      have e : (c :: l).foldl (nm1 (on p)) m0 = l.foldl (nm1 (on p)) (m0 ||| 2 ^ cT c) := by rw [List.foldl_cons, nm1, hb]; rfl
      rw [e]
      exact ih nx _ hch
theorem t_nf {S : ScT} {H : HF} {n t : Nat} {ch : Nat → Option Nat} {on : Nat → Nat} {vr : Nat → VR} {V : Nat → Prop} (hvs : VsA H vr V) (hC : ChV V ch) (h0 : H t = some (false, 2, [.ref (t + 1), .ref (t + 2)])) (h1 : H (t + 1) = some (true, 3, aR 12 ch)) (h2 : H (t + 2) = some (true, 0, aNt 12 on)) (ho : o16 on) {p : Nat} (hp : p < 12) : Rdt S 86 [.ref t, .int (zI (p : Int))] H n (some (.int (zI (nMask vr ch on p : Int)))) H n := by
  refine Rm_of (M := xm86) (lv := [(0, _), (1, _)]) rfl rfl rfl ?_
  refine Gq_s (pc' := 1) rfl rfl rfl ?_
  refine Gq_s (pc' := 2) (lv' := [(0, _), (1, _), (2, _)]) rfl rfl rfl ?_
  refine Gq_s (pc' := 3) rfl rfl rfl ?_
  refine Gq_get (pc' := 6) rfl rfl (by first | assumption | exact upd_eq _ _ _ | (refine (upd_ne _ _ (by omega)).trans ?_; first | assumption | exact upd_eq _ _ _ | (refine (upd_ne _ _ (by omega)).trans ?_; first | assumption | exact upd_eq _ _ _ | (refine (upd_ne _ _ (by omega)).trans ?_; first | assumption | exact upd_eq _ _ _)))) (by exact rfl) ?_
  refine Gq_s (pc' := 7) rfl rfl rfl ?_
  refine Gq_aalx (pc' := 8) rfl rfl (by first | assumption | exact upd_eq _ _ _ | (refine (upd_ne _ _ (by omega)).trans ?_; first | assumption | exact upd_eq _ _ _ | (refine (upd_ne _ _ (by omega)).trans ?_; first | assumption | exact upd_eq _ _ _ | (refine (upd_ne _ _ (by omega)).trans ?_; first | assumption | exact upd_eq _ _ _)))) (by exact rfl) (rfl) (by omega) (by omega) (fun hx => ?_) (fun q hx => ?_)
  · refine Gq_non_n (pc' := 11) (t := 15) rfl rfl rfl ?_
    refine Gq_s (pc' := 12) rfl rfl rfl ?_
    refine Gq_goto rfl (t := 24) rfl ?_
    refine Gq_s (pc' := 25) (lv' := [(0, _), (1, _), (2, _), (3, _)]) rfl rfl rfl ?_
    refine Gq_s (pc' := 26) rfl rfl rfl ?_
    refine Gq_nul_n rfl (t := 59) rfl ?_
    refine Gq_s (pc' := 60) rfl rfl rfl ?_
    exact Gq_ret rfl rfl (rfl) (⟨by unfold nMask; rw [hx]; rfl, rfl, rfl⟩)
  · obtain ⟨hq, hN, f, g, h3, h4, h5⟩ := hvs q (hC p q hp hx)
    refine Gq_non_r rfl (t := 15) rfl ?_
    refine Gq_s (pc' := 16) rfl rfl rfl ?_
    refine Gq_get (pc' := 19) rfl rfl (by first | assumption | exact upd_eq _ _ _ | (refine (upd_ne _ _ (by omega)).trans ?_; first | assumption | exact upd_eq _ _ _ | (refine (upd_ne _ _ (by omega)).trans ?_; first | assumption | exact upd_eq _ _ _ | (refine (upd_ne _ _ (by omega)).trans ?_; first | assumption | exact upd_eq _ _ _)))) (by exact rfl) ?_
    refine Gq_s (pc' := 20) rfl rfl rfl ?_
    refine Gq_aald (pc' := 21) rfl rfl (by first | assumption | exact upd_eq _ _ _ | (refine (upd_ne _ _ (by omega)).trans ?_; first | assumption | exact upd_eq _ _ _ | (refine (upd_ne _ _ (by omega)).trans ?_; first | assumption | exact upd_eq _ _ _ | (refine (upd_ne _ _ (by omega)).trans ?_; first | assumption | exact upd_eq _ _ _)))) (by exact rfl) (rfl) (by omega) (by omega) (rv_s hx) ?_
    refine Gq_get (pc' := 24) rfl rfl (by first | assumption | exact upd_eq _ _ _ | (refine (upd_ne _ _ (by omega)).trans ?_; first | assumption | exact upd_eq _ _ _ | (refine (upd_ne _ _ (by omega)).trans ?_; first | assumption | exact upd_eq _ _ _ | (refine (upd_ne _ _ (by omega)).trans ?_; first | assumption | exact upd_eq _ _ _)))) (by exact rfl) ?_
    refine Gq_astv (pc' := 25) (lv' := [(0, _), (1, _), (2, _), (3, _)]) (k := 3) rfl (fun _ _ => rfl) rfl rfl ?_
    have e : nMask vr ch on p = (vQ (vr q)).foldl (nm1 (on p)) 0 := by unfold nMask; rw [hx]
    rw [e]
    exact t_nf_l hp h0 h2 ho _ f 0 h4
theorem t_na_l {S : ScT} {H : HF} {n t : Nat} {ch : Nat → Option Nat} {on : Nat → Nat} {vr : Nat → VR} {V : Nat → Prop} (hvs : VsA H vr V) (hC : ChV V ch) (h0 : H t = some (false, 2, [.ref (t + 1), .ref (t + 2)])) (h1 : H (t + 1) = some (true, 3, aR 12 ch)) (h2 : H (t + 2) = some (true, 0, aNt 12 on)) (ho : o16 on) {x : Int32} : ∀ (k j : Nat), j + k = 12 → Gw S xm87 4 [(0, .ref t), (1, .int x), (2, .int (zI (nAny vr ch on x j : Int))), (3, .int (zI (j : Int)))] [] H n 0 0 (MQe xm87 (fun v G m => v = some (.int (zI (nAny vr ch on x 12 : Int))) ∧ G = H ∧ m = n)) := by
  intro k
  induction k with
  | zero =>
    intro j hj
    obtain rfl : j = 12 := by omega
    refine Gq_s (pc' := 5) rfl rfl rfl ?_
    refine Gq_bipush (pc' := 7) rfl rfl (by decide) ?_
    refine Gq_cge (pc' := 10) (t := 32) rfl rfl rfl (by omega) (by omega) (fun _ => ?_) (fun hq => absurd (by omega) hq)
    refine Gq_s (pc' := 33) rfl rfl rfl ?_
    exact Gq_ret rfl rfl (rfl) (⟨rfl, rfl, rfl⟩)
  | succ k ih =>
    intro j hj
    refine Gq_s (pc' := 5) rfl rfl rfl ?_
    refine Gq_bipush (pc' := 7) rfl rfl (by decide) ?_
    refine Gq_cge (pc' := 10) (t := 32) rfl rfl rfl (by omega) (by omega) (fun hq => absurd hq (by omega)) (fun _ => ?_)
    refine Gq_s (pc' := 11) rfl rfl rfl ?_
    refine Gq_s (pc' := 12) rfl rfl rfl ?_
    refine Gq_calls1 (pc' := 15) (Y := xm61) (rest := []) (st' := [_]) (ce' := 0) (sl' := 0) rfl rfl rfl rfl rfl rfl rfl rfl rfl rfl (t_isIn H n x j) rfl ?_
    refine Gq_beq (pc' := 18) (t := 26) rfl rfl rfl (fun hb => ?_) (fun hb => ?_)
    · refine Gq_iinc (pc' := 29) (lv' := [(0, _), (1, _), (2, _), (3, _)]) rfl rfl rfl rfl ?_
      refine Gq_goto rfl (t := 4) rfl ?_
      have e : nAny vr ch on x (j + 1) = nAny vr ch on x j := by rw [nAny, hb]; rfl
      have := ih (j + 1) (by omega)
      rw [e] at this
      exact this
    · refine Gq_s (pc' := 19) rfl rfl rfl ?_
      refine Gq_s (pc' := 20) rfl rfl rfl ?_
      refine Gq_s (pc' := 21) rfl rfl rfl ?_
      refine Gq_callv1 (pc' := 24) (Y := xm86) (rest := [_]) (st' := [_, _]) (ce' := 0) (sl' := 0) rfl rfl rfl rfl rfl rfl rfl rfl rfl (t_nf hvs hC h0 h1 h2 ho (by omega)) rfl (by first | assumption | exact upd_eq _ _ _ | (refine (upd_ne _ _ (by omega)).trans ?_; first | assumption | exact upd_eq _ _ _ | (refine (upd_ne _ _ (by omega)).trans ?_; first | assumption | exact upd_eq _ _ _ | (refine (upd_ne _ _ (by omega)).trans ?_; first | assumption | exact upd_eq _ _ _)))) ?_
      refine Gq_ior (pc' := 25) (zI ((nAny vr ch on x j ||| nMask vr ch on j : Nat) : Int)) rfl rfl (z_or _ _) ?_
      refine Gq_s (pc' := 26) (lv' := [(0, _), (1, _), (2, _), (3, _)]) rfl rfl rfl ?_
      refine Gq_iinc (pc' := 29) (lv' := [(0, _), (1, _), (2, _), (3, _)]) rfl rfl rfl rfl ?_
      refine Gq_goto rfl (t := 4) rfl ?_
      have e : nAny vr ch on x (j + 1) = nAny vr ch on x j ||| nMask vr ch on j := by rw [nAny, hb]; rfl
      have := ih (j + 1) (by omega)
      rw [e] at this
      exact this
theorem t_na {S : ScT} {H : HF} {n t : Nat} {ch : Nat → Option Nat} {on : Nat → Nat} {vr : Nat → VR} {V : Nat → Prop} (hvs : VsA H vr V) (hC : ChV V ch) (h0 : H t = some (false, 2, [.ref (t + 1), .ref (t + 2)])) (h1 : H (t + 1) = some (true, 3, aR 12 ch)) (h2 : H (t + 2) = some (true, 0, aNt 12 on)) (ho : o16 on) (x : Int32) : Rdt S 87 [.ref t, .int x] H n (some (.int (zI (nAny vr ch on x 12 : Int)))) H n := by
  refine Rm_of (M := xm87) (lv := [(0, _), (1, _)]) rfl rfl rfl ?_
  refine Gq_s (pc' := 1) rfl rfl rfl ?_
  refine Gq_s (pc' := 2) (lv' := [(0, _), (1, _), (2, _)]) rfl rfl rfl ?_
  refine Gq_s (pc' := 3) rfl rfl rfl ?_
  refine Gq_s (pc' := 4) (lv' := [(0, _), (1, _), (2, _), (3, _)]) rfl rfl rfl ?_
  exact t_na_l hvs hC h0 h1 h2 ho 12 0 rfl
theorem t_rf_l {S : ScT} {H : HF} {n t : Nat} {ch : Nat → Option Nat} {on : Nat → Nat} {vr : Nat → VR} {V : Nat → Prop} (hvs : VsA H vr V) (hC : ChV V ch) (h0 : H t = some (false, 2, [.ref (t + 1), .ref (t + 2)])) (h1 : H (t + 1) = some (true, 3, aR 12 ch)) (h2 : H (t + 2) = some (true, 0, aNt 12 on)) (ho : o16 on) {p : Nat} : ∀ (k j m0 : Nat), j + k = 12 → Gw S xm88 6 [(0, .ref t), (1, .int (zI (p : Int))), (2, .int (zI (m0 : Int))), (3, .int (zI (j : Int)))] [] H n 0 0 (MQe xm88 (fun v G m => v = some (.int (zI (rchF vr ch on k m0 : Int))) ∧ G = H ∧ m = n)) := by
  intro k
  induction k with
  | zero =>
    intro j m0 hj
    obtain rfl : j = 12 := by omega
    refine Gq_s (pc' := 7) rfl rfl rfl ?_
    refine Gq_bipush (pc' := 9) rfl rfl (by decide) ?_
    refine Gq_cge (pc' := 12) (t := 26) rfl rfl rfl (by omega) (by omega) (fun _ => ?_) (fun hq => absurd (by omega) hq)
    refine Gq_s (pc' := 27) rfl rfl rfl ?_
    exact Gq_ret rfl rfl (rfl) (⟨rfl, rfl, rfl⟩)
  | succ k ih =>
    intro j m0 hj
    refine Gq_s (pc' := 7) rfl rfl rfl ?_
    refine Gq_bipush (pc' := 9) rfl rfl (by decide) ?_
    refine Gq_cge (pc' := 12) (t := 26) rfl rfl rfl (by omega) (by omega) (fun hq => absurd hq (by omega)) (fun _ => ?_)
    refine Gq_s (pc' := 13) rfl rfl rfl ?_
    refine Gq_s (pc' := 14) rfl rfl rfl ?_
    refine Gq_s (pc' := 15) rfl rfl rfl ?_
    refine Gq_callv1 (pc' := 18) (Y := xm87) (rest := [_]) (st' := [_, _]) (ce' := 0) (sl' := 0) rfl rfl rfl rfl rfl rfl rfl rfl rfl (t_na hvs hC h0 h1 h2 ho (zI (m0 : Int))) rfl (by first | assumption | exact upd_eq _ _ _ | (refine (upd_ne _ _ (by omega)).trans ?_; first | assumption | exact upd_eq _ _ _ | (refine (upd_ne _ _ (by omega)).trans ?_; first | assumption | exact upd_eq _ _ _ | (refine (upd_ne _ _ (by omega)).trans ?_; first | assumption | exact upd_eq _ _ _)))) ?_
    refine Gq_ior (pc' := 19) (zI ((m0 ||| nAny vr ch on (zI (m0 : Int)) 12 : Nat) : Int)) rfl rfl (z_or _ _) ?_
    refine Gq_s (pc' := 20) (lv' := [(0, _), (1, _), (2, _), (3, _)]) rfl rfl rfl ?_
    refine Gq_iinc (pc' := 23) (lv' := [(0, _), (1, _), (2, _), (3, _)]) rfl rfl rfl rfl ?_
    refine Gq_goto rfl (t := 6) rfl ?_
    exact ih (j + 1) _ (by omega)
theorem t_rf {S : ScT} {H : HF} {n t : Nat} {ch : Nat → Option Nat} {on : Nat → Nat} {vr : Nat → VR} {V : Nat → Prop} (hvs : VsA H vr V) (hC : ChV V ch) (h0 : H t = some (false, 2, [.ref (t + 1), .ref (t + 2)])) (h1 : H (t + 1) = some (true, 3, aR 12 ch)) (h2 : H (t + 2) = some (true, 0, aNt 12 on)) (ho : o16 on) {p : Nat} (hp : p < 12) : Rdt S 88 [.ref t, .int (zI (p : Int))] H n (some (.int (zI (rchF vr ch on 11 (2 ^ p) : Int)))) H n := by
  refine Rm_of (M := xm88) (lv := [(0, _), (1, _)]) rfl rfl rfl ?_
  refine Gq_s (pc' := 1) rfl rfl rfl ?_
  refine Gq_s (pc' := 2) rfl rfl rfl ?_
  refine Gq_ishl (pc' := 3) (zI ((2 ^ p : Nat) : Int)) rfl rfl (z_shl _ hp) ?_
  refine Gq_s (pc' := 4) (lv' := [(0, _), (1, _), (2, _)]) rfl rfl rfl ?_
  refine Gq_s (pc' := 5) rfl rfl rfl ?_
  refine Gq_s (pc' := 6) (lv' := [(0, _), (1, _), (2, _), (3, _)]) rfl rfl rfl ?_
  exact t_rf_l hvs hC h0 h1 h2 ho 11 1 (2 ^ p) rfl
theorem t_smal_l {S : ScT} {H : HF} {n : Nat} {x : Int32} : ∀ (k j : Nat), j + k = 12 → Gw S xm62 2 [(0, .int x), (1, .int (zI (j : Int)))] [] H n 0 0 (MQe xm62 (fun v G m => v = some (.int (zI (smal x k j))) ∧ G = H ∧ m = n)) := by
  intro k
  induction k with
  | zero =>
    intro j hj
    obtain rfl : j = 12 := by omega
    refine Gq_s (pc' := 3) rfl rfl rfl ?_
    refine Gq_bipush (pc' := 5) rfl rfl (by decide) ?_
    refine Gq_cge (pc' := 8) (t := 24) rfl rfl rfl (by omega) (by omega) (fun _ => ?_) (fun hq => absurd (by omega) hq)
    refine Gq_s (pc' := 25) rfl rfl rfl ?_
    exact Gq_ret rfl rfl (rfl) (⟨rfl, rfl, rfl⟩)
  | succ k ih =>
    intro j hj
    refine Gq_s (pc' := 3) rfl rfl rfl ?_
    refine Gq_bipush (pc' := 5) rfl rfl (by decide) ?_
    refine Gq_cge (pc' := 8) (t := 24) rfl rfl rfl (by omega) (by omega) (fun hq => absurd hq (by omega)) (fun _ => ?_)
    refine Gq_s (pc' := 9) rfl rfl rfl ?_
    refine Gq_s (pc' := 10) rfl rfl rfl ?_
    refine Gq_calls1 (pc' := 13) (Y := xm61) (rest := []) (st' := [_]) (ce' := 0) (sl' := 0) rfl rfl rfl rfl rfl rfl rfl rfl rfl rfl (t_isIn H n x j) rfl ?_
    refine Gq_beq (pc' := 16) (t := 18) rfl rfl rfl (fun hb => ?_) (fun hb => ?_)
    · refine Gq_iinc (pc' := 21) (lv' := [(0, _), (1, _)]) rfl rfl rfl rfl ?_
      refine Gq_goto rfl (t := 2) rfl ?_
      have e : smal x (k + 1) j = smal x k (j + 1) := by rw [smal, hb]; rfl
      rw [e]
      exact ih (j + 1) (by omega)
    · refine Gq_s (pc' := 17) rfl rfl rfl ?_
      exact Gq_ret rfl rfl (rfl) (⟨by rw [smal, hb]; rfl, rfl, rfl⟩)
theorem t_smal {S : ScT} {H : HF} {n : Nat} (x : Int32) : Rdt S 62 [.int x] H n (some (.int (zI (smal x 12 0)))) H n := by
  refine Rm_of (M := xm62) (lv := [(0, _)]) rfl rfl rfl ?_
  refine Gq_s (pc' := 1) rfl rfl rfl ?_
  refine Gq_s (pc' := 2) (lv' := [(0, _), (1, _)]) rfl rfl rfl ?_
  exact t_smal_l 12 0 rfl
end XK4
end
section
/-! wishes taken over; the resolver's row (printed by wip/p46/gen25.py) -/
section XK5
def takeF (x : Int32) : Nat → List CR → List CR
  | _, [] => []
  | i, c :: t => if isInB x i then c :: takeF x (i + 1) t else takeF x (i + 1) t
theorem takeF_len (x : Int32) : ∀ (l : List CR) (i : Nat), (takeF x i l).length ≤ l.length
  | [], _ => Nat.le_refl 0
  | c :: t, i => by
    have := takeF_len x t (i + 1)
    unfold takeF
    split
    · show (takeF x (i + 1) t).length + 1 ≤ t.length + 1
      omega
    · show (takeF x (i + 1) t).length ≤ t.length + 1
      omega
theorem takeF_all (x : Int32) : ∀ (l : List CR) (i : Nat), (∀ j, j < l.length → isInB x (i + j) = true) → takeF x i l = l
  | [], _, _ => rfl
  | c :: t, i, h => by
    have h0 : isInB x i = true := h 0 (by show 0 < t.length + 1; omega)
    unfold takeF
    rw [if_pos h0, takeF_all x t (i + 1) (fun j hj => by have := h (j + 1) (by show j + 1 < t.length + 1; omega); rwa [show i + (j + 1) = i + 1 + j by omega] at this)]
theorem allM_in : ∀ k, k ≤ 6 → ∀ j, j < k → isInB (zI ((2 ^ k : Nat) : Int) - zI 1) j = true := by decide +kernel
theorem get_snoc {α : Type} {l : List α} {a c : α} {i : Nat} (h : (l ++ [a])[i]? = some c) : l[i]? = some c ∨ i = l.length ∧ c = a := by
  rw [List.getElem?_append] at h
  by_cases e : i < l.length
  · rw [if_pos e] at h
    exact .inl h
  · rw [if_neg e] at h
    by_cases e2 : i = l.length
    · subst e2
      rw [Nat.sub_self] at h
      exact .inr ⟨rfl, (Option.some.inj h).symm⟩
    · rw [List.getElem?_eq_none (by show 1 ≤ i - l.length; omega)] at h
      cases h
theorem t_all {S : ScT} {H : HF} {n w : Nat} {wl : List CR} (hW : WiAt H w wl) : Rdt S 123 [.ref w] H n (some (.int (zI ((2 ^ wl.length : Nat) : Int) - zI 1))) H n := by
  refine Rm_of (M := xm123) (lv := [(0, _)]) rfl rfl rfl ?_
  obtain ⟨h0, hL, -⟩ := hW
  refine Gq_s (pc' := 1) rfl rfl rfl ?_
  refine Gq_s (pc' := 2) rfl rfl rfl ?_
  refine Gq_get (pc' := 5) rfl rfl (by first | assumption | exact upd_eq _ _ _ | (refine (upd_ne _ _ (by omega)).trans ?_; first | assumption | exact upd_eq _ _ _ | (refine (upd_ne _ _ (by omega)).trans ?_; first | assumption | exact upd_eq _ _ _ | (refine (upd_ne _ _ (by omega)).trans ?_; first | assumption | exact upd_eq _ _ _)))) (by exact rfl) ?_
  refine Gq_ishl (pc' := 6) (zI ((2 ^ wl.length : Nat) : Int)) rfl rfl (z_shl _ (by omega)) ?_
  refine Gq_s (pc' := 7) rfl rfl rfl ?_
  refine Gq_s (pc' := 8) rfl rfl rfl ?_
  exact Gq_ret rfl rfl (rfl) (⟨rfl, rfl, rfl⟩)
theorem t_wadd {S : ScT} {H : HF} {n w k q : Nat} {wc : Nat → Option Nat} {c : CR} {nx : Value} (h0 : H w = some (false, 6, [.ref (w + 1), .int (zI (k : Int))])) (h1 : H (w + 1) = some (true, 5, aR 6 wc)) (hk : k < 6) (hc : ClaimAt H q c nx) : Rdt S 122 [.ref w, .ref q] H n none (hup (hup H (w + 1) (true, 5, aR 6 (fset wc k (some q)))) w (false, 6, [.ref (w + 1), .int (zI ((k + 1 : Nat) : Int))])) n := by
  refine Rm_of (M := xm122) (lv := [(0, _), (1, _)]) rfl rfl rfl ?_
  obtain ⟨hq, hok, r, hr, h4, h3⟩ := hc
  refine Gq_s (pc' := 1) rfl rfl rfl ?_
  refine Gq_get (pc' := 4) rfl rfl (by first | assumption | exact upd_eq _ _ _ | (refine (upd_ne _ _ (by omega)).trans ?_; first | assumption | exact upd_eq _ _ _ | (refine (upd_ne _ _ (by omega)).trans ?_; first | assumption | exact upd_eq _ _ _ | (refine (upd_ne _ _ (by omega)).trans ?_; first | assumption | exact upd_eq _ _ _)))) (by exact rfl) ?_
  refine Gq_bipush (pc' := 6) rfl rfl (by decide) ?_
  refine Gq_cge (pc' := 9) (t := 29) rfl rfl rfl (by omega) (by omega) (fun hq => absurd hq (by omega)) (fun _ => ?_)
  refine Gq_s (pc' := 10) rfl rfl rfl ?_
  refine Gq_get (pc' := 13) rfl rfl (by first | assumption | exact upd_eq _ _ _ | (refine (upd_ne _ _ (by omega)).trans ?_; first | assumption | exact upd_eq _ _ _ | (refine (upd_ne _ _ (by omega)).trans ?_; first | assumption | exact upd_eq _ _ _ | (refine (upd_ne _ _ (by omega)).trans ?_; first | assumption | exact upd_eq _ _ _)))) (by exact rfl) ?_
  refine Gq_s (pc' := 14) rfl rfl rfl ?_
  refine Gq_get (pc' := 17) rfl rfl (by first | assumption | exact upd_eq _ _ _ | (refine (upd_ne _ _ (by omega)).trans ?_; first | assumption | exact upd_eq _ _ _ | (refine (upd_ne _ _ (by omega)).trans ?_; first | assumption | exact upd_eq _ _ _ | (refine (upd_ne _ _ (by omega)).trans ?_; first | assumption | exact upd_eq _ _ _)))) (by exact rfl) ?_
  refine Gq_s (pc' := 18) rfl rfl rfl ?_
  refine Gq_aast (pc' := 19) (some q) rfl rfl (by first | assumption | exact upd_eq _ _ _ | (refine (upd_ne _ _ (by omega)).trans ?_; first | assumption | exact upd_eq _ _ _ | (refine (upd_ne _ _ (by omega)).trans ?_; first | assumption | exact upd_eq _ _ _ | (refine (upd_ne _ _ (by omega)).trans ?_; first | assumption | exact upd_eq _ _ _)))) (by exact rfl) (fun hz => nomatch hz) (rfl) (fun z hz => by cases hz; exact ⟨_, h3⟩) (rfl) (by omega) (by omega) ?_
  refine Gq_s (pc' := 20) rfl rfl rfl ?_
  refine Gq_s (pc' := 21) rfl rfl rfl ?_
  refine Gq_get (pc' := 24) rfl rfl (by first | assumption | exact upd_eq _ _ _ | (refine (upd_ne _ _ (by omega)).trans ?_; first | assumption | exact upd_eq _ _ _ | (refine (upd_ne _ _ (by omega)).trans ?_; first | assumption | exact upd_eq _ _ _ | (refine (upd_ne _ _ (by omega)).trans ?_; first | assumption | exact upd_eq _ _ _)))) (by exact rfl) ?_
  refine Gq_s (pc' := 25) rfl rfl rfl ?_
  refine Gq_iadd (pc' := 26) rfl rfl ?_
  refine Gq_put (pc' := 29) (fs' := [_, _]) rfl rfl (by first | assumption | exact upd_eq _ _ _ | (refine (upd_ne _ _ (by omega)).trans ?_; first | assumption | exact upd_eq _ _ _ | (refine (upd_ne _ _ (by omega)).trans ?_; first | assumption | exact upd_eq _ _ _ | (refine (upd_ne _ _ (by omega)).trans ?_; first | assumption | exact upd_eq _ _ _)))) (by exact rfl) (by first | rfl | exact xfit_bI _) (by exact rfl) ?_
  exact Gq_ret rfl rfl (rfl) (⟨rfl, rfl, rfl⟩)
theorem t_take_l {S : ScT} {n w u : Nat} {wl : List CR} {x : Int32} (hw : w + 1 < 119) (hd : ¬ u = w ∧ ¬ u = w + 1 ∧ ¬ u + 1 = w) : ∀ (k j : Nat) (H : HF) (acc : List CR), j + k = wl.length → acc.length ≤ j → WiAt H u wl → WiAt H w acc → Gw S xm124 7 [(0, .ref w), (1, .ref u), (2, .int x), (3, .int (zI (j : Int)))] [] H n 0 0 (MQe xm124 (fun v G m => v = none ∧ m = n ∧ WiAt G w (acc ++ takeF x j (wl.drop j)) ∧ ∀ o, ¬ o = w → ¬ o = w + 1 → G o = H o)) := by
  intro k
  induction k with
  | zero =>
    intro j H acc hj ha hU hA
    obtain rfl : j = wl.length := by omega
    obtain ⟨h3, hL, -⟩ := id hU
    refine Gq_s (pc' := 8) rfl rfl rfl ?_
    refine Gq_s (pc' := 9) rfl rfl rfl ?_
    refine Gq_get (pc' := 12) rfl rfl (by first | assumption | exact upd_eq _ _ _ | (refine (upd_ne _ _ (by omega)).trans ?_; first | assumption | exact upd_eq _ _ _ | (refine (upd_ne _ _ (by omega)).trans ?_; first | assumption | exact upd_eq _ _ _ | (refine (upd_ne _ _ (by omega)).trans ?_; first | assumption | exact upd_eq _ _ _)))) (by exact rfl) ?_
    refine Gq_cge (pc' := 15) (t := 39) rfl rfl rfl (by omega) (by omega) (fun _ => ?_) (fun hq => absurd (by omega) hq)
    exact Gq_ret rfl rfl (rfl) (⟨rfl, rfl, by rw [List.drop_length, takeF, List.append_nil]; exact hA, fun _ _ _ => rfl⟩)
  | succ k ih =>
    intro j H acc hj ha hU hA
    have hjl : j < wl.length := by omega
    obtain ⟨h3, hL, uc, h4, h5⟩ := id hU
    obtain ⟨q, nx, h6, h7⟩ := h5 j wl[j] (List.getElem?_eq_getElem hjl)
    rw [List.drop_eq_getElem_cons hjl, takeF]
    refine Gq_s (pc' := 8) rfl rfl rfl ?_
    refine Gq_s (pc' := 9) rfl rfl rfl ?_
    refine Gq_get (pc' := 12) rfl rfl (by first | assumption | exact upd_eq _ _ _ | (refine (upd_ne _ _ (by omega)).trans ?_; first | assumption | exact upd_eq _ _ _ | (refine (upd_ne _ _ (by omega)).trans ?_; first | assumption | exact upd_eq _ _ _ | (refine (upd_ne _ _ (by omega)).trans ?_; first | assumption | exact upd_eq _ _ _)))) (by exact rfl) ?_
    refine Gq_cge (pc' := 15) (t := 39) rfl rfl rfl (by omega) (by omega) (fun hq => absurd hq (by omega)) (fun _ => ?_)
    refine Gq_s (pc' := 16) rfl rfl rfl ?_
    refine Gq_s (pc' := 17) rfl rfl rfl ?_
    refine Gq_calls1 (pc' := 20) (Y := xm61) (rest := []) (st' := [_]) (ce' := 0) (sl' := 0) rfl rfl rfl rfl rfl rfl rfl rfl rfl rfl (t_isIn H n x j) rfl ?_
    refine Gq_beq (pc' := 23) (t := 33) rfl rfl rfl (fun hb => ?_) (fun hb => ?_)
    · refine Gq_iinc (pc' := 36) (lv' := [(0, _), (1, _), (2, _), (3, _)]) rfl rfl rfl rfl ?_
      refine Gq_goto rfl (t := 7) rfl ?_
      rw [hb]
      exact ih (j + 1) H acc (by omega) (by omega) hU hA
    · obtain ⟨g0, gL, ac, g1, g2⟩ := id hA
      refine Gq_s (pc' := 24) rfl rfl rfl ?_
      refine Gq_s (pc' := 25) rfl rfl rfl ?_
      refine Gq_get (pc' := 28) rfl rfl (by first | assumption | exact upd_eq _ _ _ | (refine (upd_ne _ _ (by omega)).trans ?_; first | assumption | exact upd_eq _ _ _ | (refine (upd_ne _ _ (by omega)).trans ?_; first | assumption | exact upd_eq _ _ _ | (refine (upd_ne _ _ (by omega)).trans ?_; first | assumption | exact upd_eq _ _ _)))) (by exact rfl) ?_
      refine Gq_s (pc' := 29) rfl rfl rfl ?_
      refine Gq_aald (pc' := 30) rfl rfl (by first | assumption | exact upd_eq _ _ _ | (refine (upd_ne _ _ (by omega)).trans ?_; first | assumption | exact upd_eq _ _ _ | (refine (upd_ne _ _ (by omega)).trans ?_; first | assumption | exact upd_eq _ _ _ | (refine (upd_ne _ _ (by omega)).trans ?_; first | assumption | exact upd_eq _ _ _)))) (by exact rfl) (rfl) (by omega) (by omega) (rv_s h6) ?_
      refine Gq_callv1 (pc' := 33) (Y := xm122) (rest := []) (st' := []) (ce' := 0) (sl' := 0) rfl rfl rfl rfl rfl rfl rfl rfl rfl (t_wadd g0 g1 (by omega) h7) rfl (by first | assumption | exact upd_eq _ _ _ | (refine (upd_ne _ _ (by omega)).trans ?_; first | assumption | exact upd_eq _ _ _ | (refine (upd_ne _ _ (by omega)).trans ?_; first | assumption | exact upd_eq _ _ _ | (refine (upd_ne _ _ (by omega)).trans ?_; first | assumption | exact upd_eq _ _ _)))) ?_
      refine Gq_iinc (pc' := 36) (lv' := [(0, _), (1, _), (2, _), (3, _)]) rfl rfl rfl rfl ?_
      refine Gq_goto rfl (t := 7) rfl ?_
      rw [hb]
      have hA2 : WiAt (hup (hup H (w + 1) (true, 5, aR 6 (fset ac acc.length (some q)))) w (false, 6, [.ref (w + 1), .int (zI ((acc.length + 1 : Nat) : Int))])) w (acc ++ [wl[j]]) := by
        refine ⟨by rw [upd_eq, List.length_append]; rfl, by rw [List.length_append]; show acc.length + 1 ≤ 6; omega, _, by rw [upd_ne _ _ (by omega)]; exact upd_eq _ _ _, fun i c hc => ?_⟩
        rcases get_snoc hc with hc | ⟨rfl, rfl⟩
        · obtain ⟨o, nx, e1, e2⟩ := g2 i c hc
          have hi : i < acc.length := (List.getElem?_eq_some_iff.mp hc).1
          exact ⟨o, nx, by rw [fset_ne _ _ (by omega)]; exact e1, ClaimAt_upd (by omega) (ClaimAt_upd hw e2)⟩
        · exact ⟨q, nx, fset_eq _ _ _, ClaimAt_upd (by omega) (ClaimAt_upd hw h7)⟩
      have hU2 := WiAt_upd (d := (false, 6, [.ref (w + 1), .int (zI ((acc.length + 1 : Nat) : Int))])) (show w < 119 by omega) (by omega) (by omega) (WiAt_upd (d := (true, 5, aR 6 (fset ac acc.length (some q)))) hw (by omega) (by omega) hU)
      have := ih (j + 1) _ (acc ++ [wl[j]]) (by omega) (by rw [List.length_append]; show acc.length + 1 ≤ j + 1; omega) hU2 hA2
      rw [List.append_assoc] at this
      refine Gq_mq this ?_
      rintro v G m ⟨e1, e2, e3, e4⟩
      exact ⟨e1, e2, e3, fun o ho1 ho2 => by rw [e4 o ho1 ho2, upd_ne _ _ ho1, upd_ne _ _ ho2]⟩
theorem t_take {S : ScT} {H : HF} (n : Nat) {w u k0 : Nat} {wl : List CR} {wc : Nat → Option Nat} (x : Int32) (hw : w + 1 < 119) (hd : ¬ u = w ∧ ¬ u = w + 1 ∧ ¬ u + 1 = w) (hU : WiAt H u wl) (h0 : ∃ z, H w = some (false, 6, [.ref (w + 1), .int z])) (h1 : H (w + 1) = some (true, 5, aR 6 wc)) : Rmt S 124 [.ref w, .ref u, .int x] H n (fun v G m => v = none ∧ m = n ∧ WiAt G w (takeF x 0 wl) ∧ ∀ o, ¬ o = w → ¬ o = w + 1 → G o = H o) := by
  refine Rm_of (M := xm124) (lv := [(0, _), (1, _), (2, _)]) rfl rfl rfl ?_
  obtain ⟨z, h0⟩ := h0
  refine Gq_s (pc' := 1) rfl rfl rfl ?_
  refine Gq_s (pc' := 2) rfl rfl rfl ?_
  refine Gq_put (pc' := 5) (fs' := [_, _]) rfl rfl (by first | assumption | exact upd_eq _ _ _ | (refine (upd_ne _ _ (by omega)).trans ?_; first | assumption | exact upd_eq _ _ _ | (refine (upd_ne _ _ (by omega)).trans ?_; first | assumption | exact upd_eq _ _ _ | (refine (upd_ne _ _ (by omega)).trans ?_; first | assumption | exact upd_eq _ _ _)))) (by exact rfl) (by first | rfl | exact xfit_bI _) (by exact rfl) ?_
  refine Gq_s (pc' := 6) rfl rfl rfl ?_
  refine Gq_s (pc' := 7) (lv' := [(0, _), (1, _), (2, _), (3, _)]) rfl rfl rfl ?_
  have hA : WiAt (hup H w (false, 6, [.ref (w + 1), .int (zI 0)])) w [] := ⟨upd_eq _ _ _, by decide, wc, by rw [upd_ne _ _ (by omega)]; exact h1, fun i c hc => by cases hc⟩
  have := t_take_l (S := S) (n := n) (x := x) hw hd wl.length 0 _ [] (by omega) (Nat.le_refl 0) (WiAt_upd (show w < 119 by omega) (by omega) (by omega) hU) hA
  refine Gq_mq this ?_
  rintro v G m ⟨e1, e2, e3, e4⟩
  exact ⟨e1, e2, e3, fun o ho1 ho2 => by rw [e4 o ho1 ho2, upd_ne _ _ ho1]⟩
/-- the resolver's own cell -/
def rzF (tc rl rs lc : Int) : List Value := [.ref 97, .ref 99, .int (zI tc), .ref 102, .ref 103, .ref 104, .ref 105, .int (zI rl), .int (zI rs), .ref 106, .int (zI lc)]
def addR (rw : List Nat) (p : Nat) : List Nat := if p ∈ rw then rw else rw ++ [p]
def mkSet (rw : List Nat) : Nat := rw.foldl (fun m q => m ||| 2 ^ q) 0
theorem mkS_snoc (rw : List Nat) (p : Nat) : mkSet (rw ++ [p]) = mkSet rw ||| 2 ^ p := by unfold mkSet; rw [List.foldl_append]; rfl
theorem mkS_g : ∀ (rw : List Nat) (m p : Nat), (rw.foldl (fun m q => m ||| 2 ^ q) m).testBit p = (m.testBit p || decide (p ∈ rw))
  | [], m, p => by
    show m.testBit p = _
    rw [decide_eq_false (fun h => by cases h), Bool.or_false]
  | q :: t, m, p => by
    rw [List.foldl_cons, mkS_g t, Nat.testBit_or, Nat.testBit_two_pow]
    by_cases e : q = p
    · subst e
      rw [decide_eq_true rfl, decide_eq_true List.mem_cons_self, Bool.or_true, Bool.true_or]
    · rw [decide_eq_false e, Bool.or_false]
      congr 1
      exact decide_eq_decide.mpr ⟨fun h => List.mem_cons_of_mem _ h, fun h => by
        rcases List.mem_cons.mp h with h | h
        · exact absurd h.symm e
        · exact h⟩
theorem mkS_bit (rw : List Nat) (p : Nat) : (mkSet rw).testBit p = decide (p ∈ rw) := by
  unfold mkSet
  rw [mkS_g, Nat.zero_testBit, Bool.false_or]
theorem mkS_lt {rw : List Nat} (h : ∀ q ∈ rw, q < 12) : mkSet rw < 4096 := by
  refine Nat.lt_pow_two_of_testBit (n := 12) _ (fun i hi => ?_)
  rw [mkS_bit]
  exact decide_eq_false (fun q => by have := h i q; omega)
/-- no row without a name twice is longer than there are names -/
theorem pigeon : ∀ (N : Nat) (l : List Nat), l.Nodup → (∀ q ∈ l, q < N) → l.length ≤ N
  | 0, l, _, h => by
    cases l with
    | nil => exact Nat.le_refl 0
    | cons a t => exact absurd (h a List.mem_cons_self) (by omega)
  | N + 1, l, hn, h => by
    have h1 := pigeon N (l.erase N) (hn.erase N) (fun q hq => by
      have h2 := h q (List.mem_of_mem_erase hq)
      have h3 : q ≠ N := fun e => by
        subst e
        exact (List.Nodup.mem_erase_iff hn).mp hq |>.1 rfl
      omega)
    have h2 := List.length_erase_le (a := N) (l := l)
    by_cases e : N ∈ l
    · rw [List.length_erase_of_mem e] at h1
      omega
    · rw [List.erase_of_not_mem e] at h1
      omega
def RowIs (rw : List Nat) (row : Nat → Int) : Prop := ∀ (i q : Nat), rw[i]? = some q → row i = (q : Int)
def RwOK (rw : List Nat) : Prop := rw.Nodup ∧ ∀ q ∈ rw, q < 12
theorem addR_ok {rw : List Nat} {p : Nat} (h : RwOK rw) (hp : p < 12) : RwOK (addR rw p) := by
  unfold addR
  by_cases e : p ∈ rw
  · rw [if_pos e]
    exact h
  · rw [if_neg e]
    refine ⟨List.nodup_append.mpr ⟨h.1, by simp, fun a ha b hb => ?_⟩, fun q hq => ?_⟩
    · rcases List.mem_singleton.mp hb with rfl
      exact fun q => e (q ▸ ha)
    · rcases List.mem_append.mp hq with hq | hq
      · exact h.2 q hq
      · rcases List.mem_singleton.mp hq with rfl
        exact hp
theorem addR_mem {rw : List Nat} {p : Nat} : p ∈ addR rw p := by
  unfold addR
  by_cases e : p ∈ rw
  · rw [if_pos e]; exact e
  · rw [if_neg e]; exact List.mem_append.mpr (.inr (List.mem_singleton.mpr rfl))
theorem addR_of {rw : List Nat} {p q : Nat} (h : q ∈ addR rw p) : q ∈ rw ∨ q = p := by
  unfold addR at h
  by_cases e : p ∈ rw
  · rw [if_pos e] at h; exact .inl h
  · rw [if_neg e] at h
    rcases List.mem_append.mp h with h | h
    · exact .inl h
    · exact .inr (List.mem_singleton.mp h)
theorem addR_get {rw : List Nat} {p i q : Nat} (h : rw[i]? = some q) : (addR rw p)[i]? = some q := by
  unfold addR
  by_cases e : p ∈ rw
  · rw [if_pos e]; exact h
  · rw [if_neg e, List.getElem?_append_left (List.getElem?_eq_some_iff.mp h).1]; exact h
theorem addR_sub {rw : List Nat} {p q : Nat} (h : q ∈ rw) : q ∈ addR rw p := by
  obtain ⟨i, hi, rfl⟩ := List.getElem_of_mem h
  exact List.mem_of_getElem? (addR_get (List.getElem?_eq_getElem hi))
theorem t_addToRow {S : ScT} {H : HF} (n : Nat) {p : Nat} {rw : List Nat} {row : Nat → Int} {tc lc : Int} (h0 : H 96 = some (false, 5, rzF tc ((rw).length : Int) (mkSet rw : Int) lc)) (h1 : H 105 = some (true, 0, aI 12 row)) (hr : RowIs rw row) (hR : RwOK rw) (hp : p < 12) : Rmt S 116 [.ref 96, .int (zI (p : Int))] H n (fun v G m => v = none ∧ m = n ∧ ∃ row', RowIs (addR rw p) row' ∧ G = hup (hup H 105 (true, 0, aI 12 row')) 96 (false, 5, rzF tc ((addR rw p).length : Int) (mkSet (addR rw p) : Int) lc)) := by
  refine Rm_of (M := xm116) (lv := [(0, _), (1, _)]) rfl rfl rfl ?_
  have hlt := mkS_lt hR.2
  have hin : isInB (zI (mkSet rw : Int)) p = decide (p ∈ rw) := (isInB_z hlt (by omega)).trans (mkS_bit rw p)
  have hpg := pigeon 12 rw hR.1 hR.2
  refine Gq_s (pc' := 1) rfl rfl rfl ?_
  refine Gq_get (pc' := 4) rfl rfl (by first | assumption | exact upd_eq _ _ _ | (refine (upd_ne _ _ (by omega)).trans ?_; first | assumption | exact upd_eq _ _ _ | (refine (upd_ne _ _ (by omega)).trans ?_; first | assumption | exact upd_eq _ _ _ | (refine (upd_ne _ _ (by omega)).trans ?_; first | assumption | exact upd_eq _ _ _)))) (by exact rfl) ?_
  refine Gq_s (pc' := 5) rfl rfl rfl ?_
  refine Gq_calls1 (pc' := 8) (Y := xm61) (rest := []) (st' := [_]) (ce' := 0) (sl' := 0) rfl rfl rfl rfl rfl rfl rfl rfl rfl rfl (t_isIn H n (zI (mkSet rw : Int)) p) rfl ?_
  rw [hin]
  refine Gq_bne (pc' := 11) (t := 52) rfl rfl rfl (fun hb => ?_) (fun hb => ?_)
  · have e : addR rw p = rw := if_pos (of_decide_eq_true hb)
    exact Gq_ret rfl rfl (rfl) (⟨rfl, rfl, row, by rw [e]; exact hr, by rw [e, upd_self h1, upd_self h0]⟩)
  · have hni : ¬ p ∈ rw := of_decide_eq_false hb
    have e : addR rw p = rw ++ [p] := if_neg hni
    have hpl : rw.length < 12 := by
      have := pigeon 12 (rw ++ [p]) (e ▸ (addR_ok hR hp).1) (e ▸ (addR_ok hR hp).2)
      rw [List.length_append] at this
      exact this
    refine Gq_s (pc' := 12) rfl rfl rfl ?_
    refine Gq_get (pc' := 15) rfl rfl (by first | assumption | exact upd_eq _ _ _ | (refine (upd_ne _ _ (by omega)).trans ?_; first | assumption | exact upd_eq _ _ _ | (refine (upd_ne _ _ (by omega)).trans ?_; first | assumption | exact upd_eq _ _ _ | (refine (upd_ne _ _ (by omega)).trans ?_; first | assumption | exact upd_eq _ _ _)))) (by exact rfl) ?_
    refine Gq_bipush (pc' := 17) rfl rfl (by decide) ?_
    refine Gq_cge (pc' := 20) (t := 52) rfl rfl rfl (by omega) (by omega) (fun hq => absurd hq (by omega)) (fun _ => ?_)
    refine Gq_s (pc' := 21) rfl rfl rfl ?_
    refine Gq_get (pc' := 24) rfl rfl (by first | assumption | exact upd_eq _ _ _ | (refine (upd_ne _ _ (by omega)).trans ?_; first | assumption | exact upd_eq _ _ _ | (refine (upd_ne _ _ (by omega)).trans ?_; first | assumption | exact upd_eq _ _ _ | (refine (upd_ne _ _ (by omega)).trans ?_; first | assumption | exact upd_eq _ _ _)))) (by exact rfl) ?_
    refine Gq_s (pc' := 25) rfl rfl rfl ?_
    refine Gq_get (pc' := 28) rfl rfl (by first | assumption | exact upd_eq _ _ _ | (refine (upd_ne _ _ (by omega)).trans ?_; first | assumption | exact upd_eq _ _ _ | (refine (upd_ne _ _ (by omega)).trans ?_; first | assumption | exact upd_eq _ _ _ | (refine (upd_ne _ _ (by omega)).trans ?_; first | assumption | exact upd_eq _ _ _)))) (by exact rfl) ?_
    refine Gq_s (pc' := 29) rfl rfl rfl ?_
    refine Gq_iast (pc' := 30) rfl rfl (by first | assumption | exact upd_eq _ _ _ | (refine (upd_ne _ _ (by omega)).trans ?_; first | assumption | exact upd_eq _ _ _ | (refine (upd_ne _ _ (by omega)).trans ?_; first | assumption | exact upd_eq _ _ _ | (refine (upd_ne _ _ (by omega)).trans ?_; first | assumption | exact upd_eq _ _ _)))) (rfl) (by omega) (by omega) ?_
    refine Gq_s (pc' := 31) rfl rfl rfl ?_
    refine Gq_s (pc' := 32) rfl rfl rfl ?_
    refine Gq_get (pc' := 35) rfl rfl (by first | assumption | exact upd_eq _ _ _ | (refine (upd_ne _ _ (by omega)).trans ?_; first | assumption | exact upd_eq _ _ _ | (refine (upd_ne _ _ (by omega)).trans ?_; first | assumption | exact upd_eq _ _ _ | (refine (upd_ne _ _ (by omega)).trans ?_; first | assumption | exact upd_eq _ _ _)))) (by exact rfl) ?_
    refine Gq_s (pc' := 36) rfl rfl rfl ?_
    refine Gq_iadd (pc' := 37) rfl rfl ?_
    refine Gq_put (pc' := 40) (fs' := [_, _, _, _, _, _, _, _, _, _, _]) rfl rfl (by first | assumption | exact upd_eq _ _ _ | (refine (upd_ne _ _ (by omega)).trans ?_; first | assumption | exact upd_eq _ _ _ | (refine (upd_ne _ _ (by omega)).trans ?_; first | assumption | exact upd_eq _ _ _ | (refine (upd_ne _ _ (by omega)).trans ?_; first | assumption | exact upd_eq _ _ _)))) (by exact rfl) (by first | rfl | exact xfit_bI _) (by exact rfl) ?_
    refine Gq_s (pc' := 41) rfl rfl rfl ?_
    refine Gq_s (pc' := 42) rfl rfl rfl ?_
    refine Gq_get (pc' := 45) rfl rfl (by first | assumption | exact upd_eq _ _ _ | (refine (upd_ne _ _ (by omega)).trans ?_; first | assumption | exact upd_eq _ _ _ | (refine (upd_ne _ _ (by omega)).trans ?_; first | assumption | exact upd_eq _ _ _ | (refine (upd_ne _ _ (by omega)).trans ?_; first | assumption | exact upd_eq _ _ _)))) (by exact rfl) ?_
    refine Gq_s (pc' := 46) rfl rfl rfl ?_
    refine Gq_s (pc' := 47) rfl rfl rfl ?_
    refine Gq_ishl (pc' := 48) (zI ((2 ^ p : Nat) : Int)) rfl rfl (z_shl _ hp) ?_
    refine Gq_ior (pc' := 49) (zI ((mkSet rw ||| 2 ^ p : Nat) : Int)) rfl rfl (z_or _ _) ?_
    refine Gq_put (pc' := 52) (fs' := [_, _, _, _, _, _, _, _, _, _, _]) rfl rfl (by first | assumption | exact upd_eq _ _ _ | (refine (upd_ne _ _ (by omega)).trans ?_; first | assumption | exact upd_eq _ _ _ | (refine (upd_ne _ _ (by omega)).trans ?_; first | assumption | exact upd_eq _ _ _ | (refine (upd_ne _ _ (by omega)).trans ?_; first | assumption | exact upd_eq _ _ _)))) (by exact rfl) (by first | rfl | exact xfit_bI _) (by exact rfl) ?_
    rw [upd_upd]
    refine Gq_ret rfl rfl rfl ⟨rfl, rfl, fset row rw.length (p : Int), ?_, ?_⟩
    · rw [e]
      intro i q hq
      rcases get_snoc hq with hq | ⟨rfl, rfl⟩
      · have hi : i < rw.length := (List.getElem?_eq_some_iff.mp hq).1
        rw [fset_ne _ _ (by omega)]
        exact hr i q hq
      · exact fset_eq _ _ _
    · rw [e, mkS_snoc, List.length_append]
      rfl
end XK5
end
section
/-! the first package without a version (printed by wip/p46/gen26.py) -/
section XK6
theorem upd4 (H : HF) {i j : Nat} (a b c d : XCl) (h : ¬ i = j) : hup (hup (hup (hup H i a) j b) i c) j d = hup (hup H i c) j d := by
  rw [upd_comm (hup H i a) b c (fun e => h e.symm), upd_upd (hup (hup H i a) i c) j b d, upd_upd H i a c]
/-- reached by claims that count -/
def Rch (vr : Nat → VR) (ch : Nat → Option Nat) (on : Nat → Nat) (aw : List CR) (p : Nat) : Prop := ∀ X : Nat → Prop, (∀ c ∈ aw, X (cT c)) → (∀ q o c, X q → ch q = some o → c ∈ vQ (vr o) → cCnt c (on q) = true → X (cT c)) → X p
theorem Rch_aw {vr : Nat → VR} {ch : Nat → Option Nat} {on : Nat → Nat} {aw : List CR} {c : CR} (h : c ∈ aw) : Rch vr ch on aw (cT c) := fun _ h1 _ => h1 c h
theorem Rch_step {vr : Nat → VR} {ch : Nat → Option Nat} {on : Nat → Nat} {aw : List CR} {q o : Nat} {c : CR} (hq : Rch vr ch on aw q) (ho : ch q = some o) (hc : c ∈ vQ (vr o)) (hn : cCnt c (on q) = true) : Rch vr ch on aw (cT c) := fun X h1 h2 => h2 q o c (hq X h1 h2) ho hc hn
def fw1 (f : Nat) (rw : List Nat) (c : CR) : List Nat := if cCnt c f then addR rw (cT c) else rw
theorem fw_ok {f : Nat} : ∀ {l : List CR} {rw : List Nat}, (∀ c ∈ l, cOK c) → RwOK rw → RwOK (l.foldl (fw1 f) rw)
  | [], _, _, h => h
  | c :: t, rw, hl, h => by
    refine fw_ok (l := t) (rw := fw1 f rw c) (fun d hd => hl d (List.mem_cons_of_mem _ hd)) ?_
    unfold fw1
    split
    · exact addR_ok h (hl c List.mem_cons_self).1
    · exact h
theorem fw_get {f i q : Nat} : ∀ {l : List CR} {rw : List Nat}, rw[i]? = some q → (l.foldl (fw1 f) rw)[i]? = some q
  | [], _, h => h
  | c :: t, rw, h => by
    refine fw_get (l := t) (rw := fw1 f rw c) ?_
    unfold fw1
    split
    · exact addR_get h
    · exact h
theorem fw_sub {f q : Nat} {l : List CR} {rw : List Nat} (h : q ∈ rw) : q ∈ l.foldl (fw1 f) rw := by
  obtain ⟨i, hi, rfl⟩ := List.getElem_of_mem h
  exact List.mem_of_getElem? (fw_get (List.getElem?_eq_getElem hi))
theorem fw_mem {f : Nat} : ∀ {l : List CR} {rw : List Nat} {c : CR}, c ∈ l → cCnt c f = true → cT c ∈ l.foldl (fw1 f) rw
  | a :: t, rw, c, hc, hn => by
    rcases List.mem_cons.mp hc with rfl | hc
    · refine fw_sub (l := t) (rw := fw1 f rw c) ?_
      unfold fw1
      rw [if_pos hn]
      exact addR_mem
    · exact fw_mem (l := t) (rw := fw1 f rw a) hc hn
theorem fw_of {f q : Nat} : ∀ {l : List CR} {rw : List Nat}, q ∈ l.foldl (fw1 f) rw → q ∈ rw ∨ ∃ c ∈ l, cCnt c f = true ∧ cT c = q
  | [], _, h => .inl h
  | c :: t, rw, h => by
    rcases fw_of (l := t) (rw := fw1 f rw c) h with h | ⟨d, h1, h2⟩
    · unfold fw1 at h
      split at h
      · rename_i hc
        rcases addR_of h with h | h
        · exact .inl h
        · exact .inr ⟨c, List.mem_cons_self, hc, h.symm⟩
      · exact .inl h
    · exact .inr ⟨d, List.mem_cons_of_mem _ h1, h2⟩
def fwA (rw : List Nat) (c : CR) : List Nat := addR rw (cT c)
theorem fwA_ok : ∀ {l : List CR} {rw : List Nat}, (∀ c ∈ l, cOK c) → RwOK rw → RwOK (l.foldl fwA rw)
  | [], _, _, h => h
  | c :: t, rw, hl, h => fwA_ok (l := t) (rw := fwA rw c) (fun d hd => hl d (List.mem_cons_of_mem _ hd)) (addR_ok h (hl c List.mem_cons_self).1)
theorem fwA_sub {q : Nat} : ∀ {l : List CR} {rw : List Nat}, q ∈ rw → q ∈ l.foldl fwA rw
  | [], _, h => h
  | c :: t, rw, h => fwA_sub (l := t) (rw := fwA rw c) (addR_sub h)
theorem fwA_mem : ∀ {l : List CR} {rw : List Nat} {c : CR}, c ∈ l → cT c ∈ l.foldl fwA rw
  | a :: t, rw, c, hc => by
    rcases List.mem_cons.mp hc with rfl | hc
    · exact fwA_sub (l := t) (rw := fwA rw c) addR_mem
    · exact fwA_mem (l := t) (rw := fwA rw a) hc
theorem fwA_of {q : Nat} : ∀ {l : List CR} {rw : List Nat}, q ∈ l.foldl fwA rw → q ∈ rw ∨ ∃ c ∈ l, cT c = q
  | [], _, h => .inl h
  | c :: t, rw, h => by
    rcases fwA_of (l := t) (rw := fwA rw c) h with h | ⟨d, h1, h2⟩
    · rcases addR_of h with h | h
      · exact .inl h
      · exact .inr ⟨c, List.mem_cons_self, h.symm⟩
    · exact .inr ⟨d, List.mem_cons_of_mem _ h1, h2⟩
/-- the row up to place i: whoever stands there has a version, and what it asks for stands in the row -/
def RwI (vr : Nat → VR) (ch : Nat → Option Nat) (on : Nat → Nat) (aw : List CR) (rw : List Nat) (i : Nat) : Prop := (∀ c ∈ aw, cT c ∈ rw) ∧ (∀ q ∈ rw, Rch vr ch on aw q) ∧ ∀ j q, j < i → rw[j]? = some q → ∃ o, ch q = some o ∧ ∀ c ∈ vQ (vr o), cCnt c (on q) = true → cT c ∈ rw
def Clsd (vr : Nat → VR) (ch : Nat → Option Nat) (on : Nat → Nat) (aw : List CR) : Prop := ∀ p, Rch vr ch on aw p → ∃ o, ch p = some o
theorem RwI_end {vr : Nat → VR} {ch : Nat → Option Nat} {on : Nat → Nat} {aw : List CR} {rw : List Nat} {i : Nat} (h : RwI vr ch on aw rw i) (hi : rw.length ≤ i) : Clsd vr ch on aw := by
  obtain ⟨h1, h2, h3⟩ := h
  have key : ∀ q ∈ rw, ∃ o, ch q = some o ∧ ∀ c ∈ vQ (vr o), cCnt c (on q) = true → cT c ∈ rw := fun q hq => by
    obtain ⟨j, hj, rfl⟩ := List.getElem_of_mem hq
    exact h3 j _ (by omega) (List.getElem?_eq_getElem hj)
  intro p hp
  obtain ⟨o, ho, -⟩ := key p (hp (fun q => q ∈ rw) h1 (fun q o c hq ho hc hn => by
    obtain ⟨o2, h4, h5⟩ := key q hq
    rw [ho] at h4
    cases h4
    exact h5 c hc hn))
  exact ⟨o, ho⟩
theorem RwI_step {vr : Nat → VR} {ch : Nat → Option Nat} {on : Nat → Nat} {aw : List CR} {rw : List Nat} {i q o : Nat} (h : RwI vr ch on aw rw i) (hq : rw[i]? = some q) (ho : ch q = some o) : RwI vr ch on aw ((vQ (vr o)).foldl (fw1 (on q)) rw) (i + 1) := by
  obtain ⟨h1, h2, h3⟩ := h
  have hqm : q ∈ rw := List.mem_of_getElem? hq
  refine ⟨fun c hc => fw_sub (h1 c hc), fun p hp => ?_, fun j p hj hp => ?_⟩
  · rcases fw_of hp with hp | ⟨c, hc, hn, rfl⟩
    · exact h2 p hp
    · exact Rch_step (h2 q hqm) ho hc hn
  · by_cases e : j = i
    · subst e
      rw [fw_get hq] at hp
      cases hp
      exact ⟨o, ho, fun c hc hn => fw_mem hc hn⟩
    · have hi : i < rw.length := (List.getElem?_eq_some_iff.mp hq).1
      have hj2 : rw[j]? = some rw[j] := List.getElem?_eq_getElem (by omega)
      rw [fw_get hj2] at hp
      cases hp
      obtain ⟨o2, a, b⟩ := h3 j _ (by omega) hj2
      exact ⟨o2, a, fun c hc hn => fw_sub (b c hc hn)⟩
theorem t_fw_c {S : ScT} {n i p q0 : Nat} {tc lc : Int} {ch : Nat → Option Nat} {on : Nat → Nat} (hp : p < 12) (ho : o16 on) {Q : XLf → Prop} : ∀ (l : List CR) (x : Option Nat) (H : HF) (rw : List Nat) (row : Nat → Int), ChnAt H x l → H 96 = some (false, 5, rzF tc ((rw).length : Int) (mkSet (rw) : Int) lc) → H 105 = some (true, 0, aI 12 row) → RowIs rw row → RwOK rw → H 99 = some (false, 2, [.ref 100, .ref 101]) → H 100 = some (true, 3, aR 12 ch) → H 101 = some (true, 0, aNt 12 on) → (∀ row', RowIs (l.foldl (fw1 (on p)) rw) row' → Gw S xm115 131 [(0, .ref 96), (1, .int (zI (i : Int))), (2, .int (zI (p : Int))), (3, .ref q0), (4, .null)] [] (hup (hup H 105 (true, 0, aI 12 row')) 96 (false, 5, rzF tc ((l.foldl (fw1 (on p)) rw).length : Int) (mkSet (l.foldl (fw1 (on p)) rw) : Int) lc)) n 0 0 Q) → Gw S xm115 90 [(0, .ref 96), (1, .int (zI (i : Int))), (2, .int (zI (p : Int))), (3, .ref q0), (4, rvl x)] [] H n 0 0 Q := by
  intro l
  induction l with
  | nil =>
    intro x H rw row hl h0 h1 hr hR c0 c1 c2 kk
    obtain rfl : x = none := hl
    refine Gq_s (pc' := 92) rfl rfl rfl ?_
    refine Gq_nul_n rfl (t := 131) rfl ?_
    have := kk row hr
    rw [List.foldl_nil, upd_self h1, upd_self h0] at this
    exact this
  | cons c l ih =>
    intro x H rw row hl h0 h1 hr hR c0 c1 c2 kk
    obtain ⟨q, nx, rfl, hcl, hch⟩ := hl
    have hcl0 := hcl
    obtain ⟨hq, hok, r, hr9, h4, h3⟩ := hcl0
    have hT := hok.1
    refine Gq_s (pc' := 92) rfl rfl rfl ?_
    refine Gq_nul_r (pc' := 95) (t := 131) rfl rfl rfl ?_
    refine Gq_s (pc' := 97) rfl rfl rfl ?_
    refine Gq_s (pc' := 98) rfl rfl rfl ?_
    refine Gq_get (pc' := 101) rfl rfl (by first | assumption | exact upd_eq _ _ _ | (refine (upd_ne _ _ (by omega)).trans ?_; first | assumption | exact upd_eq _ _ _ | (refine (upd_ne _ _ (by omega)).trans ?_; first | assumption | exact upd_eq _ _ _ | (refine (upd_ne _ _ (by omega)).trans ?_; first | assumption | exact upd_eq _ _ _)))) (by exact rfl) ?_
    refine Gq_get (pc' := 104) rfl rfl (by first | assumption | exact upd_eq _ _ _ | (refine (upd_ne _ _ (by omega)).trans ?_; first | assumption | exact upd_eq _ _ _ | (refine (upd_ne _ _ (by omega)).trans ?_; first | assumption | exact upd_eq _ _ _ | (refine (upd_ne _ _ (by omega)).trans ?_; first | assumption | exact upd_eq _ _ _)))) (by exact rfl) ?_
    refine Gq_s (pc' := 105) rfl rfl rfl ?_
    refine Gq_iald (pc' := 106) rfl rfl (by first | assumption | exact upd_eq _ _ _ | (refine (upd_ne _ _ (by omega)).trans ?_; first | assumption | exact upd_eq _ _ _ | (refine (upd_ne _ _ (by omega)).trans ?_; first | assumption | exact upd_eq _ _ _ | (refine (upd_ne _ _ (by omega)).trans ?_; first | assumption | exact upd_eq _ _ _)))) (rfl) (by omega) (by omega) ?_
    refine Gq_callv1 (pc' := 109) (Y := xm90) (rest := []) (st' := [_]) (ce' := 0) (sl' := 0) rfl rfl rfl rfl rfl rfl rfl rfl rfl (t_countsWith n hcl (ho p)) rfl (by first | assumption | exact upd_eq _ _ _ | (refine (upd_ne _ _ (by omega)).trans ?_; first | assumption | exact upd_eq _ _ _ | (refine (upd_ne _ _ (by omega)).trans ?_; first | assumption | exact upd_eq _ _ _ | (refine (upd_ne _ _ (by omega)).trans ?_; first | assumption | exact upd_eq _ _ _)))) ?_
    refine Gq_beq (pc' := 112) (t := 121) rfl rfl rfl (fun hb => ?_) (fun hb => ?_)
    · refine Gq_s (pc' := 123) rfl rfl rfl ?_
      refine Gq_get (pc' := 126) rfl rfl (by first | assumption | exact upd_eq _ _ _ | (refine (upd_ne _ _ (by omega)).trans ?_; first | assumption | exact upd_eq _ _ _ | (refine (upd_ne _ _ (by omega)).trans ?_; first | assumption | exact upd_eq _ _ _ | (refine (upd_ne _ _ (by omega)).trans ?_; first | assumption | exact upd_eq _ _ _)))) (by exact rfl) ?_
      refine Gq_astv (pc' := 128) (lv' := [(0, _), (1, _), (2, _), (3, _), (4, _)]) (k := 4) rfl (fun _ _ => rfl) rfl rfl ?_
      refine Gq_goto rfl (t := 90) rfl ?_
      have e : (c :: l).foldl (fw1 (on p)) rw = l.foldl (fw1 (on p)) rw := by rw [List.foldl_cons, fw1, hb]; rfl
      rw [e] at kk
      exact ih nx H rw row hch h0 h1 hr hR c0 c1 c2 kk
    · refine Gq_s (pc' := 113) rfl rfl rfl ?_
      refine Gq_s (pc' := 115) rfl rfl rfl ?_
      refine Gq_get (pc' := 118) rfl rfl (by first | assumption | exact upd_eq _ _ _ | (refine (upd_ne _ _ (by omega)).trans ?_; first | assumption | exact upd_eq _ _ _ | (refine (upd_ne _ _ (by omega)).trans ?_; first | assumption | exact upd_eq _ _ _ | (refine (upd_ne _ _ (by omega)).trans ?_; first | assumption | exact upd_eq _ _ _)))) (by exact rfl) ?_
      refine Gq_callv (pc' := 121) (Y := xm116) (rest := []) (ce' := 0) (sl' := 0) rfl rfl rfl rfl rfl rfl rfl rfl rfl (t_addToRow n h0 h1 hr hR hT) (by first | assumption | exact upd_eq _ _ _ | (refine (upd_ne _ _ (by omega)).trans ?_; first | assumption | exact upd_eq _ _ _ | (refine (upd_ne _ _ (by omega)).trans ?_; first | assumption | exact upd_eq _ _ _ | (refine (upd_ne _ _ (by omega)).trans ?_; first | assumption | exact upd_eq _ _ _)))) (fun v' H' n' hv => ?_)
      obtain ⟨rfl, rfl, row2, hr2, rfl⟩ := hv
      refine Gq_s (pc' := 123) rfl rfl rfl ?_
      refine Gq_get (pc' := 126) rfl rfl (by first | assumption | exact upd_eq _ _ _ | (refine (upd_ne _ _ (by omega)).trans ?_; first | assumption | exact upd_eq _ _ _ | (refine (upd_ne _ _ (by omega)).trans ?_; first | assumption | exact upd_eq _ _ _ | (refine (upd_ne _ _ (by omega)).trans ?_; first | assumption | exact upd_eq _ _ _)))) (by exact rfl) ?_
      refine Gq_astv (pc' := 128) (lv' := [(0, _), (1, _), (2, _), (3, _), (4, _)]) (k := 4) rfl (fun _ _ => rfl) rfl rfl ?_
      refine Gq_goto rfl (t := 90) rfl ?_
      have e : (c :: l).foldl (fw1 (on p)) rw = l.foldl (fw1 (on p)) (addR rw (cT c)) := by rw [List.foldl_cons, fw1, hb]; rfl
      rw [e] at kk
      refine ih nx _ (addR rw (cT c)) row2 (ChainAt_upd (by omega) (ChainAt_upd (by omega) hch)) (upd_eq _ _ _) (by rw [upd_ne _ _ (by omega)]; exact upd_eq _ _ _) hr2 (addR_ok hR hT) (by rw [upd_ne _ _ (by omega), upd_ne _ _ (by omega)]; exact c0) (by rw [upd_ne _ _ (by omega), upd_ne _ _ (by omega)]; exact c1) (by rw [upd_ne _ _ (by omega), upd_ne _ _ (by omega)]; exact c2) (fun row3 hr3 => ?_)
      rw [upd4 _ _ _ _ _ (by omega)]
      exact kk row3 hr3
theorem t_fw_b {S : ScT} {n : Nat} {tc lc : Int} {ch : Nat → Option Nat} {on : Nat → Nat} {vr : Nat → VR} {V : Nat → Prop} {aw : List CR} (hC : ChV V ch) (ho : o16 on) : ∀ (k i : Nat) (H : HF) (rw : List Nat) (row : Nat → Int) (lv : XL), i + k = 12 → (lv = [(0, .ref 96), (1, .int (zI (i : Int)))] ∨ ∃ a b c, lv = [(0, .ref 96), (1, .int (zI (i : Int))), (2, a), (3, b), (4, c)]) → VsA H vr V → H 96 = some (false, 5, rzF tc ((rw).length : Int) (mkSet (rw) : Int) lc) → H 105 = some (true, 0, aI 12 row) → RowIs rw row → RwOK rw → H 99 = some (false, 2, [.ref 100, .ref 101]) → H 100 = some (true, 3, aR 12 ch) → H 101 = some (true, 0, aNt 12 on) → RwI vr ch on aw rw i → Gw S xm115 47 lv [] H n 0 0 (MQe xm115 (fun v G m => m = n ∧ (∃ rw2 row2, RowIs rw2 row2 ∧ RwOK rw2 ∧ G = (hup (hup H 105 (true, 0, aI 12 row2)) 96 (false, 5, rzF tc ((rw2).length : Int) (mkSet (rw2) : Int) lc))) ∧ ((v = some (.int (zI (-1))) ∧ Clsd vr ch on aw) ∨ ∃ p, v = some (.int (zI ((p : Nat) : Int))) ∧ p < 12 ∧ ch p = none ∧ Rch vr ch on aw p))) := by
  intro k
  induction k with
  | zero =>
    intro i H rw row lv hi hlv hvs h0 h1 hr hR c0 c1 c2 hI
    have hpg := pigeon 12 rw hR.1 hR.2
    rcases hlv with rfl | ⟨a, b, c, rfl⟩
    · refine Gq_s (pc' := 48) rfl rfl rfl ?_
      refine Gq_bipush (pc' := 50) rfl rfl (by decide) ?_
      refine Gq_cge (pc' := 53) (t := 137) rfl rfl rfl (by omega) (by omega) (fun _ => ?_) (fun hq => absurd (by omega) hq)
      refine Gq_s (pc' := 138) rfl rfl rfl ?_
      exact Gq_ret rfl rfl (rfl) (⟨rfl, ⟨rw, row, hr, hR, by rw [upd_self h1, upd_self h0]⟩, .inl ⟨rfl, RwI_end hI (by omega)⟩⟩)
    · refine Gq_s (pc' := 48) rfl rfl rfl ?_
      refine Gq_bipush (pc' := 50) rfl rfl (by decide) ?_
      refine Gq_cge (pc' := 53) (t := 137) rfl rfl rfl (by omega) (by omega) (fun _ => ?_) (fun hq => absurd (by omega) hq)
      refine Gq_s (pc' := 138) rfl rfl rfl ?_
      exact Gq_ret rfl rfl (rfl) (⟨rfl, ⟨rw, row, hr, hR, by rw [upd_self h1, upd_self h0]⟩, .inl ⟨rfl, RwI_end hI (by omega)⟩⟩)
  | succ k ih =>
    intro i H rw row lv hi hlv hvs h0 h1 hr hR c0 c1 c2 hI
    have hpg := pigeon 12 rw hR.1 hR.2
    rcases hlv with rfl | ⟨a, b, c, rfl⟩
    · refine Gq_s (pc' := 48) rfl rfl rfl ?_
      refine Gq_bipush (pc' := 50) rfl rfl (by decide) ?_
      refine Gq_cge (pc' := 53) (t := 137) rfl rfl rfl (by omega) (by omega) (fun hq => absurd hq (by omega)) (fun _ => ?_)
      refine Gq_s (pc' := 54) rfl rfl rfl ?_
      refine Gq_s (pc' := 55) rfl rfl rfl ?_
      refine Gq_get (pc' := 58) rfl rfl (by first | assumption | exact upd_eq _ _ _ | (refine (upd_ne _ _ (by omega)).trans ?_; first | assumption | exact upd_eq _ _ _ | (refine (upd_ne _ _ (by omega)).trans ?_; first | assumption | exact upd_eq _ _ _ | (refine (upd_ne _ _ (by omega)).trans ?_; first | assumption | exact upd_eq _ _ _)))) (by exact rfl) ?_
      refine Gq_cge (pc' := 61) (t := 137) rfl rfl rfl (by omega) (by omega) (fun hz => ?_) (fun hz => ?_)
      · refine Gq_s (pc' := 138) rfl rfl rfl ?_
        exact Gq_ret rfl rfl (rfl) (⟨rfl, ⟨rw, row, hr, hR, by rw [upd_self h1, upd_self h0]⟩, .inl ⟨rfl, RwI_end hI (by omega)⟩⟩)
      · have hil : i < rw.length := by omega
        have hq : rw[i]? = some rw[i] := List.getElem?_eq_getElem hil
        have hq12 := hR.2 _ (List.mem_of_getElem? hq)
        have hrow := hr i _ hq
        generalize rw[i] = q at hq hq12 hrow
        refine Gq_s (pc' := 62) rfl rfl rfl ?_
        refine Gq_get (pc' := 65) rfl rfl (by first | assumption | exact upd_eq _ _ _ | (refine (upd_ne _ _ (by omega)).trans ?_; first | assumption | exact upd_eq _ _ _ | (refine (upd_ne _ _ (by omega)).trans ?_; first | assumption | exact upd_eq _ _ _ | (refine (upd_ne _ _ (by omega)).trans ?_; first | assumption | exact upd_eq _ _ _)))) (by exact rfl) ?_
        refine Gq_s (pc' := 66) rfl rfl rfl ?_
        refine Gq_iald (pc' := 67) rfl rfl (by first | assumption | exact upd_eq _ _ _ | (refine (upd_ne _ _ (by omega)).trans ?_; first | assumption | exact upd_eq _ _ _ | (refine (upd_ne _ _ (by omega)).trans ?_; first | assumption | exact upd_eq _ _ _ | (refine (upd_ne _ _ (by omega)).trans ?_; first | assumption | exact upd_eq _ _ _)))) (rfl) (by omega) (by omega) ?_
        rw [hrow]
        refine Gq_s (pc' := 68) (lv' := [(0, _), (1, _), (2, _)]) rfl rfl rfl ?_
        refine Gq_s (pc' := 69) rfl rfl rfl ?_
        refine Gq_get (pc' := 72) rfl rfl (by first | assumption | exact upd_eq _ _ _ | (refine (upd_ne _ _ (by omega)).trans ?_; first | assumption | exact upd_eq _ _ _ | (refine (upd_ne _ _ (by omega)).trans ?_; first | assumption | exact upd_eq _ _ _ | (refine (upd_ne _ _ (by omega)).trans ?_; first | assumption | exact upd_eq _ _ _)))) (by exact rfl) ?_
        refine Gq_get (pc' := 75) rfl rfl (by first | assumption | exact upd_eq _ _ _ | (refine (upd_ne _ _ (by omega)).trans ?_; first | assumption | exact upd_eq _ _ _ | (refine (upd_ne _ _ (by omega)).trans ?_; first | assumption | exact upd_eq _ _ _ | (refine (upd_ne _ _ (by omega)).trans ?_; first | assumption | exact upd_eq _ _ _)))) (by exact rfl) ?_
        refine Gq_s (pc' := 76) rfl rfl rfl ?_
        refine Gq_aalx (pc' := 77) rfl rfl (by first | assumption | exact upd_eq _ _ _ | (refine (upd_ne _ _ (by omega)).trans ?_; first | assumption | exact upd_eq _ _ _ | (refine (upd_ne _ _ (by omega)).trans ?_; first | assumption | exact upd_eq _ _ _ | (refine (upd_ne _ _ (by omega)).trans ?_; first | assumption | exact upd_eq _ _ _)))) (by exact rfl) (rfl) (by omega) (by omega) (fun hx => ?_) (fun o hx => ?_)
        · refine Gq_s (pc' := 78) (lv' := [(0, _), (1, _), (2, _), (3, _)]) rfl rfl rfl ?_
          refine Gq_s (pc' := 79) rfl rfl rfl ?_
          refine Gq_non_n (pc' := 82) (t := 84) rfl rfl rfl ?_
          refine Gq_s (pc' := 83) rfl rfl rfl ?_
          exact Gq_ret rfl rfl (rfl) (⟨rfl, ⟨rw, row, hr, hR, by rw [upd_self h1, upd_self h0]⟩, .inr ⟨q, rfl, hq12, hx, hI.2.1 q (List.mem_of_getElem? hq)⟩⟩)
        · obtain ⟨ho9, hN, f, g, h3, h4, h5⟩ := hvs o (hC q o hq12 hx)
          refine Gq_s (pc' := 78) (lv' := [(0, _), (1, _), (2, _), (3, _)]) rfl rfl rfl ?_
          refine Gq_s (pc' := 79) rfl rfl rfl ?_
          refine Gq_non_r rfl (t := 84) rfl ?_
          refine Gq_s (pc' := 85) rfl rfl rfl ?_
          refine Gq_get (pc' := 88) rfl rfl (by first | assumption | exact upd_eq _ _ _ | (refine (upd_ne _ _ (by omega)).trans ?_; first | assumption | exact upd_eq _ _ _ | (refine (upd_ne _ _ (by omega)).trans ?_; first | assumption | exact upd_eq _ _ _ | (refine (upd_ne _ _ (by omega)).trans ?_; first | assumption | exact upd_eq _ _ _)))) (by exact rfl) ?_
          refine Gq_astv (pc' := 90) (lv' := [(0, _), (1, _), (2, _), (3, _), (4, _)]) (k := 4) rfl (fun _ _ => rfl) rfl rfl ?_
          refine t_fw_c hq12 ho _ f H rw row h4 h0 h1 hr hR c0 c1 c2 (fun row2 hr2 => ?_)
          refine Gq_iinc (pc' := 134) (lv' := [(0, _), (1, _), (2, _), (3, _), (4, _)]) rfl rfl rfl rfl ?_
          refine Gq_goto rfl (t := 47) rfl ?_
          refine Gq_mq (ih (i + 1) _ _ row2 _ (by omega) (.inr ⟨_, _, _, rfl⟩) (VS_upd (by omega) (VS_upd (by omega) hvs)) (upd_eq _ _ _) (by rw [upd_ne _ _ (by omega)]; exact upd_eq _ _ _) hr2 (fw_ok (ChainAt_ok h4) hR) (by rw [upd_ne _ _ (by omega), upd_ne _ _ (by omega)]; exact c0) (by rw [upd_ne _ _ (by omega), upd_ne _ _ (by omega)]; exact c1) (by rw [upd_ne _ _ (by omega), upd_ne _ _ (by omega)]; exact c2) (RwI_step hI hq hx)) ?_
          rintro v G m ⟨e1, ⟨rw3, row3, e2, e3, e4⟩, e5⟩
          exact ⟨e1, ⟨rw3, row3, e2, e3, by rw [e4, upd4 _ _ _ _ _ (by omega)]⟩, e5⟩
    · refine Gq_s (pc' := 48) rfl rfl rfl ?_
      refine Gq_bipush (pc' := 50) rfl rfl (by decide) ?_
      refine Gq_cge (pc' := 53) (t := 137) rfl rfl rfl (by omega) (by omega) (fun hq => absurd hq (by omega)) (fun _ => ?_)
      refine Gq_s (pc' := 54) rfl rfl rfl ?_
      refine Gq_s (pc' := 55) rfl rfl rfl ?_
      refine Gq_get (pc' := 58) rfl rfl (by first | assumption | exact upd_eq _ _ _ | (refine (upd_ne _ _ (by omega)).trans ?_; first | assumption | exact upd_eq _ _ _ | (refine (upd_ne _ _ (by omega)).trans ?_; first | assumption | exact upd_eq _ _ _ | (refine (upd_ne _ _ (by omega)).trans ?_; first | assumption | exact upd_eq _ _ _)))) (by exact rfl) ?_
      refine Gq_cge (pc' := 61) (t := 137) rfl rfl rfl (by omega) (by omega) (fun hz => ?_) (fun hz => ?_)
      · refine Gq_s (pc' := 138) rfl rfl rfl ?_
        exact Gq_ret rfl rfl (rfl) (⟨rfl, ⟨rw, row, hr, hR, by rw [upd_self h1, upd_self h0]⟩, .inl ⟨rfl, RwI_end hI (by omega)⟩⟩)
      · have hil : i < rw.length := by omega
        have hq : rw[i]? = some rw[i] := List.getElem?_eq_getElem hil
        have hq12 := hR.2 _ (List.mem_of_getElem? hq)
        have hrow := hr i _ hq
        generalize rw[i] = q at hq hq12 hrow
        refine Gq_s (pc' := 62) rfl rfl rfl ?_
        refine Gq_get (pc' := 65) rfl rfl (by first | assumption | exact upd_eq _ _ _ | (refine (upd_ne _ _ (by omega)).trans ?_; first | assumption | exact upd_eq _ _ _ | (refine (upd_ne _ _ (by omega)).trans ?_; first | assumption | exact upd_eq _ _ _ | (refine (upd_ne _ _ (by omega)).trans ?_; first | assumption | exact upd_eq _ _ _)))) (by exact rfl) ?_
        refine Gq_s (pc' := 66) rfl rfl rfl ?_
        refine Gq_iald (pc' := 67) rfl rfl (by first | assumption | exact upd_eq _ _ _ | (refine (upd_ne _ _ (by omega)).trans ?_; first | assumption | exact upd_eq _ _ _ | (refine (upd_ne _ _ (by omega)).trans ?_; first | assumption | exact upd_eq _ _ _ | (refine (upd_ne _ _ (by omega)).trans ?_; first | assumption | exact upd_eq _ _ _)))) (rfl) (by omega) (by omega) ?_
        rw [hrow]
        refine Gq_s (pc' := 68) (lv' := [(0, _), (1, _), (2, _), (3, _), (4, _)]) rfl rfl rfl ?_
        refine Gq_s (pc' := 69) rfl rfl rfl ?_
        refine Gq_get (pc' := 72) rfl rfl (by first | assumption | exact upd_eq _ _ _ | (refine (upd_ne _ _ (by omega)).trans ?_; first | assumption | exact upd_eq _ _ _ | (refine (upd_ne _ _ (by omega)).trans ?_; first | assumption | exact upd_eq _ _ _ | (refine (upd_ne _ _ (by omega)).trans ?_; first | assumption | exact upd_eq _ _ _)))) (by exact rfl) ?_
        refine Gq_get (pc' := 75) rfl rfl (by first | assumption | exact upd_eq _ _ _ | (refine (upd_ne _ _ (by omega)).trans ?_; first | assumption | exact upd_eq _ _ _ | (refine (upd_ne _ _ (by omega)).trans ?_; first | assumption | exact upd_eq _ _ _ | (refine (upd_ne _ _ (by omega)).trans ?_; first | assumption | exact upd_eq _ _ _)))) (by exact rfl) ?_
        refine Gq_s (pc' := 76) rfl rfl rfl ?_
        refine Gq_aalx (pc' := 77) rfl rfl (by first | assumption | exact upd_eq _ _ _ | (refine (upd_ne _ _ (by omega)).trans ?_; first | assumption | exact upd_eq _ _ _ | (refine (upd_ne _ _ (by omega)).trans ?_; first | assumption | exact upd_eq _ _ _ | (refine (upd_ne _ _ (by omega)).trans ?_; first | assumption | exact upd_eq _ _ _)))) (by exact rfl) (rfl) (by omega) (by omega) (fun hx => ?_) (fun o hx => ?_)
        · refine Gq_s (pc' := 78) (lv' := [(0, _), (1, _), (2, _), (3, _), (4, _)]) rfl rfl rfl ?_
          refine Gq_s (pc' := 79) rfl rfl rfl ?_
          refine Gq_non_n (pc' := 82) (t := 84) rfl rfl rfl ?_
          refine Gq_s (pc' := 83) rfl rfl rfl ?_
          exact Gq_ret rfl rfl (rfl) (⟨rfl, ⟨rw, row, hr, hR, by rw [upd_self h1, upd_self h0]⟩, .inr ⟨q, rfl, hq12, hx, hI.2.1 q (List.mem_of_getElem? hq)⟩⟩)
        · obtain ⟨ho9, hN, f, g, h3, h4, h5⟩ := hvs o (hC q o hq12 hx)
          refine Gq_s (pc' := 78) (lv' := [(0, _), (1, _), (2, _), (3, _), (4, _)]) rfl rfl rfl ?_
          refine Gq_s (pc' := 79) rfl rfl rfl ?_
          refine Gq_non_r rfl (t := 84) rfl ?_
          refine Gq_s (pc' := 85) rfl rfl rfl ?_
          refine Gq_get (pc' := 88) rfl rfl (by first | assumption | exact upd_eq _ _ _ | (refine (upd_ne _ _ (by omega)).trans ?_; first | assumption | exact upd_eq _ _ _ | (refine (upd_ne _ _ (by omega)).trans ?_; first | assumption | exact upd_eq _ _ _ | (refine (upd_ne _ _ (by omega)).trans ?_; first | assumption | exact upd_eq _ _ _)))) (by exact rfl) ?_
          refine Gq_astv (pc' := 90) (lv' := [(0, _), (1, _), (2, _), (3, _), (4, _)]) (k := 4) rfl (fun _ _ => rfl) rfl rfl ?_
          refine t_fw_c hq12 ho _ f H rw row h4 h0 h1 hr hR c0 c1 c2 (fun row2 hr2 => ?_)
          refine Gq_iinc (pc' := 134) (lv' := [(0, _), (1, _), (2, _), (3, _), (4, _)]) rfl rfl rfl rfl ?_
          refine Gq_goto rfl (t := 47) rfl ?_
          refine Gq_mq (ih (i + 1) _ _ row2 _ (by omega) (.inr ⟨_, _, _, rfl⟩) (VS_upd (by omega) (VS_upd (by omega) hvs)) (upd_eq _ _ _) (by rw [upd_ne _ _ (by omega)]; exact upd_eq _ _ _) hr2 (fw_ok (ChainAt_ok h4) hR) (by rw [upd_ne _ _ (by omega), upd_ne _ _ (by omega)]; exact c0) (by rw [upd_ne _ _ (by omega), upd_ne _ _ (by omega)]; exact c1) (by rw [upd_ne _ _ (by omega), upd_ne _ _ (by omega)]; exact c2) (RwI_step hI hq hx)) ?_
          rintro v G m ⟨e1, ⟨rw3, row3, e2, e3, e4⟩, e5⟩
          exact ⟨e1, ⟨rw3, row3, e2, e3, by rw [e4, upd4 _ _ _ _ _ (by omega)]⟩, e5⟩
theorem t_fw_a {S : ScT} {n : Nat} {tc lc : Int} {aw : List CR} {Q : XLf → Prop} : ∀ (k i : Nat) (H : HF) (rw : List Nat) (row : Nat → Int), i + k = aw.length → WiAt H 97 aw → H 96 = some (false, 5, rzF tc ((rw).length : Int) (mkSet (rw) : Int) lc) → H 105 = some (true, 0, aI 12 row) → RowIs rw row → RwOK rw → (∀ row', RowIs ((aw.drop i).foldl fwA rw) row' → Gw S xm115 45 [(0, .ref 96), (1, .int (zI (aw.length : Int)))] [] (hup (hup H 105 (true, 0, aI 12 row')) 96 (false, 5, rzF tc (((aw.drop i).foldl fwA rw).length : Int) (mkSet ((aw.drop i).foldl fwA rw) : Int) lc)) n 0 0 Q) → Gw S xm115 12 [(0, .ref 96), (1, .int (zI (i : Int)))] [] H n 0 0 Q := by
  intro k
  induction k with
  | zero =>
    intro i H rw row hi hW h0 h1 hr hR kk
    obtain rfl : i = aw.length := by omega
    obtain ⟨h3, hL, -⟩ := id hW
    refine Gq_s (pc' := 13) rfl rfl rfl ?_
    refine Gq_s (pc' := 14) rfl rfl rfl ?_
    refine Gq_get (pc' := 17) rfl rfl (by first | assumption | exact upd_eq _ _ _ | (refine (upd_ne _ _ (by omega)).trans ?_; first | assumption | exact upd_eq _ _ _ | (refine (upd_ne _ _ (by omega)).trans ?_; first | assumption | exact upd_eq _ _ _ | (refine (upd_ne _ _ (by omega)).trans ?_; first | assumption | exact upd_eq _ _ _)))) (by exact rfl) ?_
    refine Gq_get (pc' := 20) rfl rfl (by first | assumption | exact upd_eq _ _ _ | (refine (upd_ne _ _ (by omega)).trans ?_; first | assumption | exact upd_eq _ _ _ | (refine (upd_ne _ _ (by omega)).trans ?_; first | assumption | exact upd_eq _ _ _ | (refine (upd_ne _ _ (by omega)).trans ?_; first | assumption | exact upd_eq _ _ _)))) (by exact rfl) ?_
    refine Gq_cge (pc' := 23) (t := 45) rfl rfl rfl (by omega) (by omega) (fun _ => ?_) (fun hq => absurd (by omega) hq)
    have := kk row (by rw [List.drop_length]; exact hr)
    rw [List.drop_length, List.foldl_nil, upd_self h1, upd_self h0] at this
    exact this
  | succ k ih =>
    intro i H rw row hi hW h0 h1 hr hR kk
    have hil : i < aw.length := by omega
    obtain ⟨h3, hL, wc, h4, h5⟩ := id hW
    obtain ⟨q, nx, h6, h7⟩ := h5 i aw[i] (List.getElem?_eq_getElem hil)
    obtain ⟨hq, hok, r, hr9, h8, h9⟩ := h7
    have hT := hok.1
    rw [List.drop_eq_getElem_cons hil, List.foldl_cons] at kk
    refine Gq_s (pc' := 13) rfl rfl rfl ?_
    refine Gq_s (pc' := 14) rfl rfl rfl ?_
    refine Gq_get (pc' := 17) rfl rfl (by first | assumption | exact upd_eq _ _ _ | (refine (upd_ne _ _ (by omega)).trans ?_; first | assumption | exact upd_eq _ _ _ | (refine (upd_ne _ _ (by omega)).trans ?_; first | assumption | exact upd_eq _ _ _ | (refine (upd_ne _ _ (by omega)).trans ?_; first | assumption | exact upd_eq _ _ _)))) (by exact rfl) ?_
    refine Gq_get (pc' := 20) rfl rfl (by first | assumption | exact upd_eq _ _ _ | (refine (upd_ne _ _ (by omega)).trans ?_; first | assumption | exact upd_eq _ _ _ | (refine (upd_ne _ _ (by omega)).trans ?_; first | assumption | exact upd_eq _ _ _ | (refine (upd_ne _ _ (by omega)).trans ?_; first | assumption | exact upd_eq _ _ _)))) (by exact rfl) ?_
    refine Gq_cge (pc' := 23) (t := 45) rfl rfl rfl (by omega) (by omega) (fun hq => absurd hq (by omega)) (fun _ => ?_)
    refine Gq_s (pc' := 24) rfl rfl rfl ?_
    refine Gq_s (pc' := 25) rfl rfl rfl ?_
    refine Gq_get (pc' := 28) rfl rfl (by first | assumption | exact upd_eq _ _ _ | (refine (upd_ne _ _ (by omega)).trans ?_; first | assumption | exact upd_eq _ _ _ | (refine (upd_ne _ _ (by omega)).trans ?_; first | assumption | exact upd_eq _ _ _ | (refine (upd_ne _ _ (by omega)).trans ?_; first | assumption | exact upd_eq _ _ _)))) (by exact rfl) ?_
    refine Gq_get (pc' := 31) rfl rfl (by first | assumption | exact upd_eq _ _ _ | (refine (upd_ne _ _ (by omega)).trans ?_; first | assumption | exact upd_eq _ _ _ | (refine (upd_ne _ _ (by omega)).trans ?_; first | assumption | exact upd_eq _ _ _ | (refine (upd_ne _ _ (by omega)).trans ?_; first | assumption | exact upd_eq _ _ _)))) (by exact rfl) ?_
    refine Gq_s (pc' := 32) rfl rfl rfl ?_
    refine Gq_aald (pc' := 33) rfl rfl (by first | assumption | exact upd_eq _ _ _ | (refine (upd_ne _ _ (by omega)).trans ?_; first | assumption | exact upd_eq _ _ _ | (refine (upd_ne _ _ (by omega)).trans ?_; first | assumption | exact upd_eq _ _ _ | (refine (upd_ne _ _ (by omega)).trans ?_; first | assumption | exact upd_eq _ _ _)))) (by exact rfl) (rfl) (by omega) (by omega) (rv_s h6) ?_
    refine Gq_get (pc' := 36) rfl rfl (by first | assumption | exact upd_eq _ _ _ | (refine (upd_ne _ _ (by omega)).trans ?_; first | assumption | exact upd_eq _ _ _ | (refine (upd_ne _ _ (by omega)).trans ?_; first | assumption | exact upd_eq _ _ _ | (refine (upd_ne _ _ (by omega)).trans ?_; first | assumption | exact upd_eq _ _ _)))) (by exact rfl) ?_
    refine Gq_callv (pc' := 39) (Y := xm116) (rest := []) (ce' := 0) (sl' := 0) rfl rfl rfl rfl rfl rfl rfl rfl rfl (t_addToRow n h0 h1 hr hR hT) (by first | assumption | exact upd_eq _ _ _ | (refine (upd_ne _ _ (by omega)).trans ?_; first | assumption | exact upd_eq _ _ _ | (refine (upd_ne _ _ (by omega)).trans ?_; first | assumption | exact upd_eq _ _ _ | (refine (upd_ne _ _ (by omega)).trans ?_; first | assumption | exact upd_eq _ _ _)))) (fun v' H' n' hv => ?_)
    obtain ⟨rfl, rfl, row2, hr2, rfl⟩ := hv
    refine Gq_iinc (pc' := 42) (lv' := [(0, _), (1, _)]) rfl rfl rfl rfl ?_
    refine Gq_goto rfl (t := 12) rfl ?_
    refine ih (i + 1) _ (addR rw (cT aw[i])) row2 (by omega) (WiAt_upd (by omega) (by omega) (by omega) (WiAt_upd (by omega) (by omega) (by omega) hW)) (upd_eq _ _ _) (by rw [upd_ne _ _ (by omega)]; exact upd_eq _ _ _) hr2 (addR_ok hR hT) (fun row3 hr3 => ?_)
    rw [upd4 _ _ _ _ _ (by omega)]
    exact kk row3 hr3
theorem WiAt_ok {H : HF} {w : Nat} {wl : List CR} (hW : WiAt H w wl) : ∀ c ∈ wl, cOK c := fun c hc => by
  obtain ⟨i, hi, rfl⟩ := List.getElem_of_mem hc
  obtain ⟨-, -, wc, -, h5⟩ := hW
  obtain ⟨q, nx, -, h7⟩ := h5 i wl[i] (List.getElem?_eq_getElem hi)
  exact h7.2.1
theorem t_fwv {S : ScT} {H : HF} (n : Nat) {tc lc rl rs : Int} {ch : Nat → Option Nat} {on : Nat → Nat} {row : Nat → Int} {vr : Nat → VR} {V : Nat → Prop} {aw : List CR} (hvs : VsA H vr V) (hC : ChV V ch) (ho : o16 on) (hW : WiAt H 97 aw) (h0 : H 96 = some (false, 5, rzF tc rl rs lc)) (h1 : H 105 = some (true, 0, aI 12 row)) (c0 : H 99 = some (false, 2, [.ref 100, .ref 101])) (c1 : H 100 = some (true, 3, aR 12 ch)) (c2 : H 101 = some (true, 0, aNt 12 on)) : Rmt S 115 [.ref 96] H n (fun v G m => m = n ∧ (∃ rw2 row2, RowIs rw2 row2 ∧ RwOK rw2 ∧ G = (hup (hup H 105 (true, 0, aI 12 row2)) 96 (false, 5, rzF tc ((rw2).length : Int) (mkSet (rw2) : Int) lc))) ∧ ((v = some (.int (zI (-1))) ∧ Clsd vr ch on aw) ∨ ∃ p, v = some (.int (zI ((p : Nat) : Int))) ∧ p < 12 ∧ ch p = none ∧ Rch vr ch on aw p)) := by
  refine Rm_of (M := xm115) (lv := [(0, _)]) rfl rfl rfl ?_
  refine Gq_s (pc' := 1) rfl rfl rfl ?_
  refine Gq_s (pc' := 2) rfl rfl rfl ?_
  refine Gq_put (pc' := 5) (fs' := [_, _, _, _, _, _, _, _, _, _, _]) rfl rfl (by first | assumption | exact upd_eq _ _ _ | (refine (upd_ne _ _ (by omega)).trans ?_; first | assumption | exact upd_eq _ _ _ | (refine (upd_ne _ _ (by omega)).trans ?_; first | assumption | exact upd_eq _ _ _ | (refine (upd_ne _ _ (by omega)).trans ?_; first | assumption | exact upd_eq _ _ _)))) (by exact rfl) (by first | rfl | exact xfit_bI _) (by exact rfl) ?_
  refine Gq_s (pc' := 6) rfl rfl rfl ?_
  refine Gq_s (pc' := 7) rfl rfl rfl ?_
  refine Gq_put (pc' := 10) (fs' := [_, _, _, _, _, _, _, _, _, _, _]) rfl rfl (by first | assumption | exact upd_eq _ _ _ | (refine (upd_ne _ _ (by omega)).trans ?_; first | assumption | exact upd_eq _ _ _ | (refine (upd_ne _ _ (by omega)).trans ?_; first | assumption | exact upd_eq _ _ _ | (refine (upd_ne _ _ (by omega)).trans ?_; first | assumption | exact upd_eq _ _ _)))) (by exact rfl) (by first | rfl | exact xfit_bI _) (by exact rfl) ?_
  refine Gq_s (pc' := 11) rfl rfl rfl ?_
  refine Gq_s (pc' := 12) (lv' := [(0, _), (1, _)]) rfl rfl rfl ?_
  rw [upd_upd]
  refine t_fw_a (tc := tc) (lc := lc) aw.length 0 _ [] row (by omega) (WiAt_upd (by omega) (by omega) (by omega) hW) (upd_eq _ _ _) (by rw [upd_ne _ _ (by omega)]; exact h1) (fun i q h => by cases h) ⟨List.nodup_nil, fun q h => by cases h⟩ (fun row2 hr2 => ?_)
  have hR := fwA_ok (rw := []) (WiAt_ok hW) ⟨List.nodup_nil, fun q h => by cases h⟩
  refine Gq_s (pc' := 46) rfl rfl rfl ?_
  refine Gq_s (pc' := 47) (lv' := [(0, _), (1, _)]) rfl rfl rfl ?_
  have e : ∀ (a c : XCl) (b : XCl), hup (hup (hup H 96 a) 105 b) 96 c = hup (hup H 105 b) 96 c := fun a c b => by rw [upd_comm H a b (by omega), upd_upd]
  rw [e]
  refine Gq_mq (t_fw_b (S := S) (aw := aw) hC ho 12 0 _ _ row2 _ rfl (.inl rfl) (VS_upd (by omega) (VS_upd (by omega) hvs)) (upd_eq _ _ _) (by rw [upd_ne _ _ (by omega)]; exact upd_eq _ _ _) hr2 hR (by rw [upd_ne _ _ (by omega), upd_ne _ _ (by omega)]; exact c0) (by rw [upd_ne _ _ (by omega), upd_ne _ _ (by omega)]; exact c1) (by rw [upd_ne _ _ (by omega), upd_ne _ _ (by omega)]; exact c2) ⟨fun c hc => fwA_mem hc, fun q hq => ?_, fun j q hj => absurd hj (by omega)⟩) ?_
  · rcases fwA_of hq with hq | ⟨c, hc, rfl⟩
    · cases hq
    · exact Rch_aw hc
  rintro v G m ⟨e1, ⟨rw3, row3, e2, e3, e4⟩, e5⟩
  exact ⟨e1, ⟨rw3, row3, e2, e3, by rw [e4, upd4 _ _ _ _ _ (by omega)]⟩, e5⟩
end XK6
end
