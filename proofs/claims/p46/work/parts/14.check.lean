/-! the listings' rows, decided -/
section XD
def okw (pl : Nat) (w : Jvm.Cond) : Bool := decide (xnth lw_tbl pl = some w) && goodWord w
def okn (pl : Nat) (w : Jvm.Cond) : Bool := decide (xnth lw_tbl pl = some w) && xngk w
theorem okw_in {pl : Nat} {w : Jvm.Cond} (h : okw pl w = true) : w ∈ xTs := by
  unfold okw at h
  rw [Bool.and_eq_true, decide_eq_true_eq, xnth_eq] at h
  exact xTs_in h.1 h.2
theorem okn_in {pl : Nat} {w : Jvm.Cond} (h : okn pl w = true) : w ∈ xNg := by
  unfold okn at h
  rw [Bool.and_eq_true, decide_eq_true_eq, xnth_eq] at h
  exact xNg_in h.1 h.2
def xbt : Nat → FieldType
  | 0 => .int
  | _ => .boolean
def xvhB (own : String) (init : Bool) (i : Instr) (aux : List Nat) : Bool :=
  match i with
  | .getfield idx => (match aux with
    | ci :: k :: pl :: _ => (match xnth classes ci with
      | some (C, T, N) => Nat.ble (k + 1) N && okw pl (.fieldLink own idx (T k).1 (T k).2.1 (T k).2.2.1)
      | none => false)
    | _ => false)
  | .putfield idx => (match aux with
    | ci :: k :: pl :: _ => (match xnth classes ci with
      | some (C, T, N) => Nat.ble (k + 1) N && (okw pl (.fieldLink own idx (T k).1 (T k).2.1 (T k).2.2.1) && (decide ((T k).2.2.2 = false) || (decide ((T k).2.2.2 = true) && (init && decide ((T k).1 = own)))))
      | none => false)
    | _ => false)
  | .new idx => (match aux with
    | ci :: p1 :: p2 :: p3 :: _ => (match xnth classes ci with
      | some (C, T, N) => okw p1 (.classLink own idx C) && (okw p2 (.instantiable C N) && okw p3 (.initialized C))
      | none => false)
    | _ => false)
  | .newarray a => (match aux with
    | ti :: pl :: _ => Nat.ble ti 2 && (decide (newarray.typeOf a = xty ti) && okw pl (.arrayClass (newarray.typeOf a)))
    | _ => false)
  | .anewarray idx => (match aux with
    | ti :: pl :: _ => (Nat.ble 3 ti && (Nat.ble ti 5 && (match xty ti with
      | .object C => okw pl (.classLink own idx C)
      | _ => false))) || (Nat.beq ti 6 && okw pl (.classLink own idx "[I"))
    | _ => false)
  | .multianewarray idx d => (match d, aux with
    | 2, to :: ti :: p2 :: r => (Nat.beq to 6 && (Nat.beq ti 0 && (okw (r.headD 0) (.arrayClass .int) && okw p2 (.classLink own idx "[[I")))) || ((Nat.beq to 7 && (Nat.beq ti 1 && (okw (r.headD 0) (.arrayClass .boolean) && okw p2 (.classLink own idx "[[Z")))) || (Nat.beq to 8 && (Nat.beq ti 6 && okw p2 (.classLink own idx "[[[I"))))
    | 3, p1 :: p2 :: _ => okw p1 (.arrayClass .int) && okw p2 (.classLink own idx "[[[I")
    | _, _ => false)
  | _ => true
theorem xvhB_ok {own : String} {init : Bool} {i : Instr} {aux : List Nat} (h : xvhB own init i aux = true) : xvh xTs own init i aux := by
  unfold xvhB at h
  split at h
  · split at h
    · split at h
      · rename_i C T N hc
        rw [Bool.and_eq_true] at h
        rw [xnth_eq] at hc
        intro ci k t e
        cases e
        exact ⟨C, T, N, hc, Nat.le_of_ble_eq_true h.1, okw_in h.2⟩
      · cases h
    · cases h
  · split at h
    · split at h
      · rename_i C T N hc
        simp only [Bool.and_eq_true, Bool.or_eq_true, decide_eq_true_eq] at h
        rw [xnth_eq] at hc
        intro ci k t e
        cases e
        exact ⟨C, T, N, hc, Nat.le_of_ble_eq_true h.1, okw_in h.2.1, h.2.2⟩
      · cases h
    · cases h
  · split at h
    · split at h
      · rename_i C T N hc
        simp only [Bool.and_eq_true] at h
        rw [xnth_eq] at hc
        intro ci t e
        cases e
        exact ⟨C, T, N, hc, okw_in h.1, okw_in h.2.1, okw_in h.2.2⟩
      · cases h
    · cases h
  · split at h
    · simp only [Bool.and_eq_true, decide_eq_true_eq] at h
      intro ti t e
      cases e
      exact ⟨Nat.le_of_ble_eq_true h.1, h.2.1, okw_in h.2.2⟩
    · cases h
  · split at h
    · simp only [Bool.or_eq_true, Bool.and_eq_true] at h
      intro ti t e
      cases e
      rcases h with ⟨h1, h2, h3⟩ | ⟨h1, h2⟩
      · split at h3
        · rename_i C hC
          exact Or.inl ⟨Nat.le_of_ble_eq_true h1, Nat.le_of_ble_eq_true h2, C, hC, okw_in h3⟩
        · cases h3
      · exact Or.inr ⟨Nat.eq_of_beq_eq_true h1, okw_in h2⟩
    · cases h
  · split at h
    · simp only [Bool.or_eq_true, Bool.and_eq_true] at h
      refine ⟨fun _ to ti t e => ?_, fun e => by cases e⟩
      cases e
      rcases h with ⟨h1, h2, h3, h4⟩ | ⟨h1, h2, h3, h4⟩ | ⟨h1, h2, h4⟩
      · exact Or.inl ⟨Nat.eq_of_beq_eq_true h1, Nat.eq_of_beq_eq_true h2, okw_in h3, okw_in h4⟩
      · exact Or.inr (Or.inl ⟨Nat.eq_of_beq_eq_true h1, Nat.eq_of_beq_eq_true h2, okw_in h3, okw_in h4⟩)
      · exact Or.inr (Or.inr ⟨Nat.eq_of_beq_eq_true h1, Nat.eq_of_beq_eq_true h2, okw_in h4⟩)
    · simp only [Bool.and_eq_true] at h
      exact ⟨(fun e => by cases e), fun _ => ⟨okw_in h.1, okw_in h.2⟩⟩
    · cases h
  · rename_i i h1 h2 h3 h4 h5 h6
    unfold xvh
    split
    · exact absurd rfl (h1 _)
    · exact absurd rfl (h2 _)
    · exact absurd rfl (h3 _)
    · exact absurd rfl (h4 _)
    · exact absurd rfl (h5 _)
    · exact absurd rfl (h6 _ _)
    · trivial
def xpar (d : String) : Option Nat := (parseMethodDescriptor d).map (fun d => d.parameters.length)
def xhost (c : String) : String := if c = "PackWrightLaw" ∨ c = "PackWrightLaw$Reg" then "PackWrightLaw" else "PackWright"
/-- the words of a call: initialized, code, and three more -/
def xvcB (M Y : XM) (mode ci idx : Nat) (pls : List Nat) : Bool :=
  match pls with
  | p1 :: p2 :: p3 :: p4 :: p5 :: _ =>
    (decide ((xmY Y).cls ≠ "java/lang/invoke/MethodHandle") && decide ((xmY Y).cls ≠ "java/lang/invoke/VarHandle")) && (okw p1 (.initialized (xmY Y).cls) && (
    (match mode with
    | 0 => decide (xmT Y = []) && (decide (xpar (xmY Y).desc = some (xmA Y)) && (okw p3 (.methodLink (xmY M).cls idx (xmY Y)) && okw p4 (.static (xmY Y))))
    | 1 => decide (xmT Y = []) && (decide ((xpar (xmY Y).desc).map (fun n => n + 1) = some (xmA Y)) && (okw p3 (.methodLink (xmY M).cls idx (xmY Y)) && (okw p4 (.instanceMethod (xmY Y)) && (okw p5 (.selects (xmY Y).cls (xmY Y) (xmY Y)) && (match xnth classes ci with
      | some (C, _, _) => decide (C = (xmY Y).cls)
      | none => false)))))
    | 2 => decide (xmT Y = []) && (decide ((xpar (xmY Y).desc).map (fun n => n + 1) = some (xmA Y)) && (okw p3 (.methodLink (xmY M).cls idx (xmY Y)) && (okw p4 (.instanceMethod (xmY Y)) && (decide ((xmY Y).name = "<init>") && decide (xmV Y = none)))))
    | 3 => decide (xmT Y = []) && (decide ((xpar (xmY Y).desc).map (fun n => n + 1) = some (xmA Y)) && (okn p3 (.methodLinkNest (xmY M).cls idx (xmY Y) (xhost (xmY M).cls)) && (okw p4 (.instanceMethod (xmY Y)) && (decide ((xmY Y).name = "<init>") && decide (xmV Y = none)))))
    | 4 => decide (xmT Y = []) && (decide (xpar (xmY Y).desc = some (xmA Y)) && (okn p3 (.methodLinkNest (xmY M).cls idx (xmY Y) (xhost (xmY M).cls)) && okw p4 (.static (xmY Y))))
    | 6 => decide (xmT Y ≠ []) && (decide (xpar (xmY Y).desc = some (xmA Y)) && (okw p3 (.methodLink (xmY M).cls idx (xmY Y)) && okw p4 (.static (xmY Y))))
    | _ => false)))
  | _ => false
theorem xpar1 {d : String} {n : Nat} (h : (xpar d).map (fun n => n + 1) = some n) : ∃ k, n = k + 1 ∧ (parseMethodDescriptor d).map (fun d => d.parameters.length) = some k := by
  unfold xpar at h
  cases hz : (parseMethodDescriptor d).map (fun d => d.parameters.length) with
  | none => rw [hz] at h; cases h
  | some k => rw [hz] at h; cases h; exact ⟨k, rfl, rfl⟩
theorem xvcB_ok {M Y : XM} {mode ci idx : Nat} {pls : List Nat} (hcode : xmW Y ∈ xTs) (h : xvcB M Y mode ci idx pls = true) : xvc M Y mode ci idx := by
  unfold xvcB at h
  split at h
  · rename_i p1 p2 p3 p4 p5 t
    rw [Bool.and_eq_true, Bool.and_eq_true, Bool.and_eq_true, decide_eq_true_eq, decide_eq_true_eq] at h
    obtain ⟨h1, h2, h4⟩ := h
    refine ⟨h1, okw_in h2, hcode, ?_⟩
    split at h4
    · simp only [Bool.and_eq_true, decide_eq_true_eq] at h4
      exact ⟨h4.1, h4.2.1, okw_in h4.2.2.1, okw_in h4.2.2.2⟩
    · simp only [Bool.and_eq_true, decide_eq_true_eq] at h4
      obtain ⟨g1, g2, g3, g4, g5, g6⟩ := h4
      split at g6
      · rename_i C T N hc
        rw [xnth_eq] at hc
        have g6 := of_decide_eq_true g6
        subst g6
        exact ⟨g1, xpar1 g2, okw_in g3, okw_in g4, okw_in g5, T, N, hc⟩
      · cases g6
    · simp only [Bool.and_eq_true, decide_eq_true_eq] at h4
      exact ⟨h4.1, xpar1 h4.2.1, okw_in h4.2.2.1, okw_in h4.2.2.2.1, h4.2.2.2.2.1, h4.2.2.2.2.2⟩
    · simp only [Bool.and_eq_true, decide_eq_true_eq] at h4
      exact ⟨h4.1, xpar1 h4.2.1, ⟨_, okn_in h4.2.2.1⟩, okw_in h4.2.2.2.1, h4.2.2.2.2.1, h4.2.2.2.2.2⟩
    · simp only [Bool.and_eq_true, decide_eq_true_eq] at h4
      exact ⟨h4.1, h4.2.1, ⟨_, okn_in h4.2.2.1⟩, okw_in h4.2.2.2⟩
    · simp only [Bool.and_eq_true, decide_eq_true_eq] at h4
      exact ⟨h4.1, h4.2.1, okw_in h4.2.2.1, okw_in h4.2.2.2⟩
    · cases h4
  · cases h
def xdB (M : XM) (pc : Nat) (i : Instr) (n : Nat) : Bool := decide (decode (xmB M) pc = .ok (i, n))
theorem xdB_ok {M : XM} {pc : Nat} {i : Instr} {n : Nat} (h : xdB M pc i n = true) : decode (xmB M) pc = .ok (i, n) := of_decide_eq_true h
def xidx : Instr → Nat
  | .invokestatic k => k
  | .invokevirtual k => k
  | .invokespecial k => k
  | _ => 0
def xveB (Ms : List XM) (M : XM) (e : XI) : Bool :=
  match e.2.2.1 with
  | 0 => xdB M e.1 e.2.1 (ilen e.2.1) && (match e.2.1 with
    | .ldc2_w k => (match e.2.2.2 with
      | a :: pl :: _ => okw pl (.constantLong (xmY M).cls k (Int64.ofNat a))
      | _ => false)
    | .ldc k => (match e.2.2.2 with
      | a :: pl :: _ => okw pl (.constant (xmY M).cls k (Int32.ofNat a))
      | _ => false)
    | _ => true)
  | 1 => xdB M e.1 e.2.1 (ilen e.2.1) && xvhB (xmY M).cls (decide ((xmY M).name = "<init>")) e.2.1 e.2.2.2
  | 2 => xdB M e.1 e.2.1 (xil e.1 e.2.1)
  | 3 => (match e.2.2.2 with
    | mode :: k :: ci :: pls => xdB M e.1 (xvi mode (xidx e.2.1)) 3 && (match xnth Ms k with
      | some Y => xvcB M Y mode ci (xidx e.2.1) pls
      | none => true)
    | _ => true)
  | 4 => xdB M e.1 e.2.1 (ilen e.2.1)
  | 6 => (match e.2.2.2 with
    | p1 :: p2 :: p3 :: _ => xdB M e.1 (.invokespecial (xidx e.2.1)) 3 && (okw p1 (.methodLink (xmY M).cls (xidx e.2.1) Lib.objectInit) && (okw p2 (.instanceMethod Lib.objectInit) && okw p3 (.code Lib.objectInit ⟨#[0xb1]⟩ 1 none)))
    | _ => false)
  | 7 => (match e.2.2.2 with
    | p1 :: p2 :: p3 :: p4 :: _ => xdB M e.1 (.invokestatic (xidx e.2.1)) 3 && (okw p1 (.methodLink (xmY M).cls (xidx e.2.1) arraycopyName) && (okw p2 (.native arraycopyName) && (okw p3 (.static arraycopyName) && okw p4 (.initialized "java/lang/System"))))
    | _ => false)
  | 10 => (match e.2.2.2 with
    | mx :: p1 :: p2 :: p3 :: p4 :: _ => okw p4 (.initialized "java/lang/Math") && (xdB M e.1 (.invokestatic (xidx e.2.1)) 3 &&
      ((Nat.beq mx 0 && (okw p1 (.methodLink (xmY M).cls (xidx e.2.1) Lib.Math.min.name) && (okw p2 (.static Lib.Math.min.name) && okw p3 (.code Lib.Math.min.name Lib.Math.min.code 2 (some .int))))) ||
       (Nat.beq mx 1 && (okw p1 (.methodLink (xmY M).cls (xidx e.2.1) Lib.Math.max.name) && (okw p2 (.static Lib.Math.max.name) && okw p3 (.code Lib.Math.max.name Lib.Math.max.code 2 (some .int)))))))
    | _ => false)
  | _ => true
theorem xveB_ok {Ms : List XM} (hcode : ∀ Y ∈ Ms, xmW Y ∈ xTs) {M : XM} {e : XI} (h : xveB Ms M e = true) : xVE Ms M e := by
  unfold xveB at h
  unfold xVE
  split at h
  · rename_i hk
    rw [hk]
    rw [Bool.and_eq_true] at h
    refine ⟨xdB_ok h.1, fun k a t e1 e2 => ?_, fun k a t e1 e2 => ?_⟩
    · have h2 := h.2
      rw [e1, e2] at h2
      dsimp only at h2
      cases t with
      | nil => cases h2
      | cons pl t => exact okw_in h2
    · have h2 := h.2
      rw [e1, e2] at h2
      dsimp only at h2
      cases t with
      | nil => cases h2
      | cons pl t => exact okw_in h2
  · rename_i hk
    rw [hk]
    rw [Bool.and_eq_true] at h
    exact ⟨xdB_ok h.1, xvhB_ok h.2⟩
  · rename_i hk
    rw [hk]
    exact xdB_ok h
  · rename_i hk
    rw [hk]
    intro mode k ci t e1
    rw [e1] at h
    dsimp only at h
    rw [Bool.and_eq_true] at h
    refine ⟨_, xdB_ok h.1, fun Y hY => ?_⟩
    have h2 := h.2
    rw [hY] at h2
    exact xvcB_ok (hcode Y (by rw [xnth_eq] at hY; exact List.mem_of_getElem? hY)) h2
  · rename_i hk
    rw [hk]
    exact xdB_ok h
  · rename_i hk
    rw [hk]
    split at h
    · simp only [Bool.and_eq_true] at h
      exact ⟨_, xdB_ok h.1, okw_in h.2.1, okw_in h.2.2.1, okw_in h.2.2.2⟩
    · cases h
  · rename_i hk
    rw [hk]
    split at h
    · simp only [Bool.and_eq_true] at h
      exact ⟨_, xdB_ok h.1, okw_in h.2.1, okw_in h.2.2.1, okw_in h.2.2.2.1, okw_in h.2.2.2.2⟩
    · cases h
  · rename_i hk
    rw [hk]
    split at h
    · rename_i mx p1 p2 p3 p4 tl haux
      simp only [Bool.or_eq_true, Bool.and_eq_true] at h
      intro mx9 t9 e9
      rw [haux] at e9
      cases e9
      refine ⟨okw_in h.1, _, xdB_ok h.2.1, ?_⟩
      rcases h.2.2 with ⟨a, b, c, d⟩ | ⟨a, b, c, d⟩
      · exact Or.inl ⟨Nat.eq_of_beq_eq_true a, okw_in b, okw_in c, okw_in d⟩
      · exact Or.inr ⟨Nat.eq_of_beq_eq_true a, okw_in b, okw_in c, okw_in d⟩
    · cases h
  · rename_i h0 h1 h2 h3 h4 h6 h7 h10
    split
    · rename_i z; exact absurd z h0
    · rename_i z; exact absurd z h1
    · rename_i z; exact absurd z h2
    · rename_i z; exact absurd z h3
    · rename_i z; exact absurd z h4
    · rename_i z; exact absurd z h6
    · rename_i z; exact absurd z h7
    · rename_i z; exact absurd z h10
    · trivial
/-- a method's own word, its bytes compared one by one -/
def xbl : List UInt8 → List UInt8 → Bool
  | [], [] => true
  | a :: s, b :: t => Nat.beq a.toNat b.toNat && xbl s t
  | _, _ => false
theorem xbl_eq : ∀ {s t : List UInt8}, xbl s t = true → s = t
  | [], [], _ => rfl
  | [], _ :: _, h => nomatch h
  | _ :: _, [], h => nomatch h
  | a :: s, b :: t, h => by
    unfold xbl at h
    rw [Bool.and_eq_true] at h
    rw [UInt8.toNat_inj.mp (Nat.eq_of_beq_eq_true h.1), xbl_eq h.2]
theorem xba_eq {a b : ByteArray} (h : a.data.toList = b.data.toList) : a = b := by
  cases a
  cases b
  exact congrArg ByteArray.mk (Array.toList_inj.mp h)
def xckB (pl : Nat) (M : XM) : Bool :=
  match xnth lw_tbl pl with
  | some (.code y b n r) => decide (xmT M = []) && (decide (y = xmY M) && (xbl b.data.toList (xmB M).data.toList && (Nat.beq n (xmN M) && decide (r = xmV M))))
  | _ => false
theorem xckB_ok {pl : Nat} {M : XM} (h : xckB pl M = true) : xmW M ∈ xTs := by
  unfold xckB at h
  split at h
  · rename_i y b n r hk
    simp only [Bool.and_eq_true, decide_eq_true_eq] at h
    obtain ⟨h0, rfl, h2, h3, rfl⟩ := h
    rw [xba_eq (xbl_eq h2), Nat.eq_of_beq_eq_true h3, xnth_eq] at hk
    unfold xmW
    rw [h0]
    exact xTs_in hk rfl
  · cases h
def xmokB (Ms : List XM) (M : XM) : Bool := plainName (xmY M).cls && (xmC M).all (xveB Ms M)
theorem xmokB_ok {Ms : List XM} (hcode : ∀ Y ∈ Ms, xmW Y ∈ xTs) {M : XM} (h : xmokB Ms M = true) : xMok Ms M := by
  unfold xmokB at h
  rw [Bool.and_eq_true] at h
  exact ⟨h.1, fun e he => xveB_ok hcode (List.all_eq_true.mp h.2 e he)⟩
end XD
