/-! the listings' rows, decided -/
section XD
def okw (pl : Nat) (w : Jvm.Cond) : Bool := decide (xnth lw_tbl pl = some w) && goodWord w
def okn (pl : Nat) (w : Jvm.Cond) : Bool := decide (xnth lw_tbl pl = some w) && xngk w
theorem okw_in {pl : Nat} {w : Jvm.Cond} (h : okw pl w = true) : w ∈ xTs := by
  unfold okw at h
  rw [Bool.and_eq_true, decide_eq_true_eq, xnth_eq] at h
  exact xTs_in h.1 h.2
theorem okn_in {pl : Nat} {w : Jvm.Cond} (h : okn pl w = true) : w ∈ xNg := by
  unfold okn at h
  rw [Bool.and_eq_true, decide_eq_true_eq, xnth_eq] at h
  exact xNg_in h.1 h.2
def xbt : Nat → FieldType
  | 0 => .int
  | _ => .boolean
def xvhB (own : String) (init : Bool) (i : Instr) (aux : List Nat) : Bool :=
  match i with
  | .getfield idx => (match aux with
    | ci :: k :: pl :: _ => (match xnth classes ci with
      | some (C, T, N) => Nat.ble (k + 1) N && okw pl (.fieldLink own idx (T k).1 (T k).2.1 (T k).2.2.1)
      | none => false)
    | _ => false)
  | .putfield idx => (match aux with
    | ci :: k :: pl :: _ => (match xnth classes ci with
      | some (C, T, N) => Nat.ble (k + 1) N && (okw pl (.fieldLink own idx (T k).1 (T k).2.1 (T k).2.2.1) && (decide ((T k).2.2.2 = false) || (decide ((T k).2.2.2 = true) && (init && decide ((T k).1 = own)))))
      | none => false)
    | _ => false)
  | .new idx => (match aux with
    | ci :: p1 :: p2 :: p3 :: _ => (match xnth classes ci with
      | some (C, T, N) => okw p1 (.classLink own idx C) && (okw p2 (.instantiable C N) && okw p3 (.initialized C))
      | none => false)
    | _ => false)
  | .newarray a => (match aux with
    | ti :: pl :: _ => Nat.ble ti 2 && (decide (newarray.typeOf a = xty ti) && okw pl (.arrayClass (newarray.typeOf a)))
    | _ => false)
  | .anewarray idx => (match aux with
    | ti :: pl :: _ => Nat.ble 3 ti && (Nat.ble ti 5 && (match xty ti with
      | .object C => okw pl (.classLink own idx C)
      | _ => false))
    | _ => false)
  | .multianewarray idx d => (match aux with
    | tf :: p1 :: p2 :: _ => okw p1 (.arrayClass (xbt tf)) && ((Nat.beq d 2 && okw p2 (.classLink own idx ("[" ++ (FieldType.array (xbt tf)).toString))) || (Nat.beq d 3 && (Nat.beq tf 0 && okw p2 (.classLink own idx ("[" ++ (FieldType.array (.array (xbt tf))).toString)))))
    | _ => false)
  | _ => true
theorem xvhB_ok {own : String} {init : Bool} {i : Instr} {aux : List Nat} (h : xvhB own init i aux = true) : xvh xTs own init i aux := by
  unfold xvhB at h
  split at h
  · split at h
    · split at h
      · rename_i C T N hc
        rw [Bool.and_eq_true] at h
        rw [xnth_eq] at hc
        intro ci k t e
        cases e
        exact ⟨C, T, N, hc, Nat.le_of_ble_eq_true h.1, okw_in h.2⟩
      · cases h
    · cases h
  · split at h
    · split at h
      · rename_i C T N hc
        simp only [Bool.and_eq_true, Bool.or_eq_true, decide_eq_true_eq] at h
        rw [xnth_eq] at hc
        intro ci k t e
        cases e
        exact ⟨C, T, N, hc, Nat.le_of_ble_eq_true h.1, okw_in h.2.1, h.2.2⟩
      · cases h
    · cases h
  · split at h
    · split at h
      · rename_i C T N hc
        simp only [Bool.and_eq_true] at h
        rw [xnth_eq] at hc
        intro ci t e
        cases e
        exact ⟨C, T, N, hc, okw_in h.1, okw_in h.2.1, okw_in h.2.2⟩
      · cases h
    · cases h
  · split at h
    · simp only [Bool.and_eq_true, decide_eq_true_eq] at h
      intro ti t e
      cases e
      exact ⟨Nat.le_of_ble_eq_true h.1, h.2.1, okw_in h.2.2⟩
    · cases h
  · split at h
    · simp only [Bool.and_eq_true] at h
      obtain ⟨h1, h2, h3⟩ := h
      split at h3
      · rename_i C hC
        intro ti t e
        cases e
        exact ⟨Nat.le_of_ble_eq_true h1, Nat.le_of_ble_eq_true h2, C, hC, okw_in h3⟩
      · cases h3
    · cases h
  · split at h
    · rename_i idx d tf p1 p2 t
      simp only [Bool.and_eq_true, Bool.or_eq_true] at h
      obtain ⟨h1, h2⟩ := h
      refine ⟨xbt tf, okw_in h1, ?_, ?_, ?_⟩
      · rcases h2 with ⟨a, -⟩ | ⟨-, b, -⟩
        · unfold xbt
          split
          · exact Or.inl rfl
          · exact Or.inr ⟨rfl, Nat.eq_of_beq_eq_true a⟩
        · have := Nat.eq_of_beq_eq_true b
          subst this
          exact Or.inl rfl
      · intro e
        subst e
        rcases h2 with ⟨-, a⟩ | ⟨a, -⟩
        · exact okw_in a
        · cases a
      · intro e
        subst e
        rcases h2 with ⟨a, -⟩ | ⟨-, -, a⟩
        · cases a
        · exact okw_in a
    · cases h
  · rename_i i h1 h2 h3 h4 h5 h6
    unfold xvh
    split
    · exact absurd rfl (h1 _)
    · exact absurd rfl (h2 _)
    · exact absurd rfl (h3 _)
    · exact absurd rfl (h4 _)
    · exact absurd rfl (h5 _)
    · exact absurd rfl (h6 _ _)
    · trivial
def xpar (d : String) : Option Nat := (parseMethodDescriptor d).map (fun d => d.parameters.length)
/-- the words of a call: initialized, code, and three more -/
def xvcB (M Y : XM) (mode ci idx : Nat) (pls : List Nat) : Bool :=
  match pls with
  | p1 :: p2 :: p3 :: p4 :: p5 :: _ =>
    (decide ((xmY Y).cls ≠ "java/lang/invoke/MethodHandle") && decide ((xmY Y).cls ≠ "java/lang/invoke/VarHandle")) && (okw p1 (.initialized (xmY Y).cls) && (okw p2 (xmW Y) &&
    (match mode with
    | 0 => decide (xmT Y = []) && (decide (xpar (xmY Y).desc = some (xmA Y)) && (okw p3 (.methodLink (xmY M).cls idx (xmY Y)) && okw p4 (.static (xmY Y))))
    | 1 => decide (xmT Y = []) && (decide ((xpar (xmY Y).desc).map (fun n => n + 1) = some (xmA Y)) && (okw p3 (.methodLink (xmY M).cls idx (xmY Y)) && (okw p4 (.instanceMethod (xmY Y)) && (okw p5 (.selects (xmY Y).cls (xmY Y) (xmY Y)) && (match xnth classes ci with
      | some (C, _, _) => decide (C = (xmY Y).cls)
      | none => false)))))
    | 2 => decide (xmT Y = []) && (decide ((xpar (xmY Y).desc).map (fun n => n + 1) = some (xmA Y)) && (okw p3 (.methodLink (xmY M).cls idx (xmY Y)) && (okw p4 (.instanceMethod (xmY Y)) && (decide ((xmY Y).name = "<init>") && decide (xmV Y = none)))))
    | 3 => decide (xmT Y = []) && (decide ((xpar (xmY Y).desc).map (fun n => n + 1) = some (xmA Y)) && (okn p3 (.methodLinkNest (xmY M).cls idx (xmY Y) "PackWright") && (okw p4 (.instanceMethod (xmY Y)) && (decide ((xmY Y).name = "<init>") && decide (xmV Y = none)))))
    | 4 => decide (xmT Y = []) && (decide (xpar (xmY Y).desc = some (xmA Y)) && (okn p3 (.methodLinkNest (xmY M).cls idx (xmY Y) "PackWright") && okw p4 (.static (xmY Y))))
    | 6 => decide (xmT Y ≠ []) && (decide (xpar (xmY Y).desc = some (xmA Y)) && (okw p3 (.methodLink (xmY M).cls idx (xmY Y)) && okw p4 (.static (xmY Y))))
    | _ => false)))
  | _ => false
theorem xpar1 {d : String} {n : Nat} (h : (xpar d).map (fun n => n + 1) = some n) : ∃ k, n = k + 1 ∧ (parseMethodDescriptor d).map (fun d => d.parameters.length) = some k := by
  unfold xpar at h
  cases hz : (parseMethodDescriptor d).map (fun d => d.parameters.length) with
  | none => rw [hz] at h; cases h
  | some k => rw [hz] at h; cases h; exact ⟨k, rfl, rfl⟩
theorem xvcB_ok {M Y : XM} {mode ci idx : Nat} {pls : List Nat} (h : xvcB M Y mode ci idx pls = true) : xvc M Y mode ci idx := by
  unfold xvcB at h
  split at h
  · rename_i p1 p2 p3 p4 p5 t
    rw [Bool.and_eq_true, Bool.and_eq_true, Bool.and_eq_true, Bool.and_eq_true, decide_eq_true_eq, decide_eq_true_eq] at h
    obtain ⟨h1, h2, h3, h4⟩ := h
    refine ⟨h1, okw_in h2, okw_in h3, ?_⟩
    split at h4
    · simp only [Bool.and_eq_true, decide_eq_true_eq] at h4
      exact ⟨h4.1, h4.2.1, okw_in h4.2.2.1, okw_in h4.2.2.2⟩
    · simp only [Bool.and_eq_true, decide_eq_true_eq] at h4
      obtain ⟨g1, g2, g3, g4, g5, g6⟩ := h4
      split at g6
      · rename_i C T N hc
        rw [xnth_eq] at hc
        have g6 := of_decide_eq_true g6
        subst g6
        exact ⟨g1, xpar1 g2, okw_in g3, okw_in g4, okw_in g5, T, N, hc⟩
      · cases g6
    · simp only [Bool.and_eq_true, decide_eq_true_eq] at h4
      exact ⟨h4.1, xpar1 h4.2.1, okw_in h4.2.2.1, okw_in h4.2.2.2.1, h4.2.2.2.2.1, h4.2.2.2.2.2⟩
    · simp only [Bool.and_eq_true, decide_eq_true_eq] at h4
      exact ⟨h4.1, xpar1 h4.2.1, ⟨_, okn_in h4.2.2.1⟩, okw_in h4.2.2.2.1, h4.2.2.2.2.1, h4.2.2.2.2.2⟩
    · simp only [Bool.and_eq_true, decide_eq_true_eq] at h4
      exact ⟨h4.1, h4.2.1, ⟨_, okn_in h4.2.2.1⟩, okw_in h4.2.2.2⟩
    · simp only [Bool.and_eq_true, decide_eq_true_eq] at h4
      exact ⟨h4.1, h4.2.1, okw_in h4.2.2.1, okw_in h4.2.2.2⟩
    · cases h4
  · cases h
def xdB (M : XM) (pc : Nat) (i : Instr) (n : Nat) : Bool := decide (decode (xmB M) pc = .ok (i, n))
theorem xdB_ok {M : XM} {pc : Nat} {i : Instr} {n : Nat} (h : xdB M pc i n = true) : decode (xmB M) pc = .ok (i, n) := of_decide_eq_true h
def xidx : Instr → Nat
  | .invokestatic k => k
  | .invokevirtual k => k
  | .invokespecial k => k
  | _ => 0
/-- the throw: number, text's place, constructor's place, wide or not, the words' places, the text's place among the words -/
def xvtB (M : XM) (pc : Nat) (i : Instr) (aux : List Nat) : Bool :=
  match i, aux with
  | .new ik, E :: is :: ic :: wd :: p1 :: p2 :: p3 :: pt :: _ =>
    Nat.ble E 2 && (decide ((xmY M).cls = "PackWright") && ((match xnth lw_tbl pt with
      | some (.stringRef C k t) => decide (C = "PackWright") && Nat.beq k is
      | _ => false) && (xdB M pc (.new ik) 3 && (xdB M (pc + 3) .dup 1 && (((Nat.beq wd 0 && (xdB M (pc + 4) (.ldc is) 2 && (xdB M (pc + 6) (.invokespecial ic) 3 && xdB M (pc + 9) .athrow 1))) ||
      (Nat.beq wd 1 && (xdB M (pc + 4) (.ldc_w is) 3 && (xdB M (pc + 7) (.invokespecial ic) 3 && xdB M (pc + 10) .athrow 1)))) &&
      (okw p1 (.classLink (xmY M).cls ik (exN E)) && (okw p2 (.initialized (exN E)) && okw p3 (.methodLink (xmY M).cls ic (Bundle.initS (exN E))))))))))
  | _, _ => false
theorem xvtB_ok {M : XM} {pc : Nat} {i : Instr} {aux : List Nat} (h : xvtB M pc i aux = true) : ∀ E t, aux = E :: t → xvt M pc E := by
  unfold xvtB at h
  split at h
  · rename_i ik E is ic wd p1 p2 p3 pt tl
    intro E' t' e
    cases e
    simp only [Bool.and_eq_true, Bool.or_eq_true, decide_eq_true_eq] at h
    obtain ⟨h1, h2, h3, h4, h5, h6, h7, h8, h9⟩ := h
    split at h3
    · rename_i C k tx hk
      simp only [Bool.and_eq_true, decide_eq_true_eq] at h3
      obtain ⟨rfl, hk2⟩ := h3
      have hk2 := Nat.eq_of_beq_eq_true hk2
      subst hk2
      rw [xnth_eq] at hk
      refine ⟨ik, k, ic, tx, Nat.le_of_ble_eq_true h1, h2, ?_, xdB_ok h4, xdB_ok h5, ?_, okw_in h7, okw_in h8, okw_in h9⟩
      · exact List.mem_filterMap.mpr ⟨_, List.mem_of_getElem? hk, rfl⟩
      · rcases h6 with ⟨-, a, b, c⟩ | ⟨-, a, b, c⟩
        · exact Or.inl ⟨xdB_ok a, xdB_ok b, xdB_ok c⟩
        · exact Or.inr ⟨xdB_ok a, xdB_ok b, xdB_ok c⟩
    · cases h3
  · cases h
def xveB (Ms : List XM) (M : XM) (e : XI) : Bool :=
  match e.2.2.1 with
  | 0 => xdB M e.1 e.2.1 (ilen e.2.1) && (match e.2.1 with
    | .ldc2_w k => (match e.2.2.2 with
      | a :: pl :: _ => okw pl (.constantLong (xmY M).cls k (Int64.ofNat a))
      | _ => false)
    | _ => true)
  | 1 => xdB M e.1 e.2.1 (ilen e.2.1) && xvhB (xmY M).cls (decide ((xmY M).name = "<init>")) e.2.1 e.2.2.2
  | 2 => xdB M e.1 e.2.1 (xil e.1 e.2.1)
  | 3 => (match e.2.2.2 with
    | mode :: k :: ci :: pls => xdB M e.1 (xvi mode (xidx e.2.1)) 3 && (match xnth Ms k with
      | some Y => xvcB M Y mode ci (xidx e.2.1) pls
      | none => true)
    | _ => true)
  | 4 => xdB M e.1 e.2.1 (ilen e.2.1)
  | 5 => xvtB M e.1 e.2.1 e.2.2.2
  | 6 => (match e.2.2.2 with
    | p1 :: p2 :: p3 :: _ => xdB M e.1 (.invokespecial (xidx e.2.1)) 3 && (okw p1 (.methodLink (xmY M).cls (xidx e.2.1) Lib.objectInit) && (okw p2 (.instanceMethod Lib.objectInit) && okw p3 (.code Lib.objectInit ⟨#[0xb1]⟩ 1 none)))
    | _ => false)
  | 7 => (match e.2.2.2 with
    | p1 :: p2 :: p3 :: p4 :: _ => xdB M e.1 (.invokestatic (xidx e.2.1)) 3 && (okw p1 (.methodLink (xmY M).cls (xidx e.2.1) arraycopyName) && (okw p2 (.native arraycopyName) && (okw p3 (.static arraycopyName) && okw p4 (.initialized "java/lang/System"))))
    | _ => false)
  | _ => true
theorem xveB_ok {Ms : List XM} {M : XM} {e : XI} (h : xveB Ms M e = true) : xVE Ms M e := by
  unfold xveB at h
  unfold xVE
  split at h
  · rename_i hk
    rw [hk]
    rw [Bool.and_eq_true] at h
    refine ⟨xdB_ok h.1, fun k a t e1 e2 => ?_⟩
    have h2 := h.2
    rw [e1, e2] at h2
    dsimp only at h2
    cases t with
    | nil => cases h2
    | cons pl t => exact okw_in h2
  · rename_i hk
    rw [hk]
    rw [Bool.and_eq_true] at h
    exact ⟨xdB_ok h.1, xvhB_ok h.2⟩
  · rename_i hk
    rw [hk]
    exact xdB_ok h
  · rename_i hk
    rw [hk]
    intro mode k ci t e1
    rw [e1] at h
    dsimp only at h
    rw [Bool.and_eq_true] at h
    refine ⟨_, xdB_ok h.1, fun Y hY => ?_⟩
    have h2 := h.2
    rw [hY] at h2
    exact xvcB_ok h2
  · rename_i hk
    rw [hk]
    exact xdB_ok h
  · rename_i hk
    rw [hk]
    exact xvtB_ok h
  · rename_i hk
    rw [hk]
    split at h
    · simp only [Bool.and_eq_true] at h
      exact ⟨_, xdB_ok h.1, okw_in h.2.1, okw_in h.2.2.1, okw_in h.2.2.2⟩
    · cases h
  · rename_i hk
    rw [hk]
    split at h
    · simp only [Bool.and_eq_true] at h
      exact ⟨_, xdB_ok h.1, okw_in h.2.1, okw_in h.2.2.1, okw_in h.2.2.2.1, okw_in h.2.2.2.2⟩
    · cases h
  · rename_i h0 h1 h2 h3 h4 h5 h6 h7
    split
    · rename_i z; exact absurd z h0
    · rename_i z; exact absurd z h1
    · rename_i z; exact absurd z h2
    · rename_i z; exact absurd z h3
    · rename_i z; exact absurd z h4
    · rename_i z; exact absurd z h5
    · rename_i z; exact absurd z h6
    · rename_i z; exact absurd z h7
    · trivial
def xmokB (Ms : List XM) (cls pl : Nat → Nat) (M : XM) : Bool :=
  plainName (xmY M).cls && ((xmC M).all (xveB Ms M) && (xmT M).all (fun q => !(Nat.beq q.2.2.2 0) && (Nat.ble (cls q.2.2.2) 2 && okw (pl q.2.2.2) (.classLink (xmY M).cls q.2.2.2 (exN (cls q.2.2.2))))))
theorem xmokB_ok {Ms : List XM} {cls pl : Nat → Nat} {M : XM} (h : xmokB Ms cls pl M = true) : xMok Ms cls M := by
  unfold xmokB at h
  rw [Bool.and_eq_true, Bool.and_eq_true] at h
  refine ⟨h.1, fun e he => xveB_ok (List.all_eq_true.mp h.2.1 e he), fun q hq => ?_⟩
  have h3 := List.all_eq_true.mp h.2.2 q hq
  simp only [Bool.and_eq_true, Bool.not_eq_true'] at h3
  exact ⟨fun z => by rw [z] at h3; exact absurd h3.1 (by decide), Nat.le_of_ble_eq_true h3.2.1, okw_in h3.2.2⟩
end XD
