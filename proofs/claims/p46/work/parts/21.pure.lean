/-! pictures: claims, versions, choices, wishes; btn -/
section XK1
/-- a claim: target, condition, features, first and end of its marks -/
abbrev CR : Type := Nat × Int × Nat × Int × Int
def cT (c : CR) : Nat := c.1
def cC (c : CR) : Int := c.2.1
def cF (c : CR) : Nat := c.2.2.1
def cA (c : CR) : Int := c.2.2.2.1
def cE (c : CR) : Int := c.2.2.2.2
def cOK (c : CR) : Prop := cT c < 12 ∧ (-1 ≤ cC c ∧ cC c < 4) ∧ cF c < 16 ∧ (0 ≤ cA c ∧ cA c ≤ 1000000) ∧ (0 ≤ cE c ∧ cE c ≤ 1000000)
/-- a version: number, mark, size, withdrawn, needs, clashes -/
abbrev VR : Type := Nat × Int × Int × Bool × List CR × List CR
def vN (v : VR) : Nat := v.1
def vM (v : VR) : Int := v.2.1
def vS (v : VR) : Int := v.2.2.1
def vW (v : VR) : Bool := v.2.2.2.1
def vQ (v : VR) : List CR := v.2.2.2.2.1
def vK (v : VR) : List CR := v.2.2.2.2.2
/-- the first number of what is made in the course of a time -/
def ClaimAt (H : HF) (o : Nat) (c : CR) (nx : Value) : Prop := 119 ≤ o ∧ cOK c ∧ ∃ r, 119 ≤ r ∧ H r = some (false, 9, [.int (zI (cA c)), .int (zI (cE c))]) ∧ H o = some (false, 8, [.int (zI (cT c : Int)), .int (zI (cC c)), .int (zI (cF c : Int)), .ref r, nx])
def ChnAt (H : HF) : Option Nat → List CR → Prop
  | x, [] => x = none
  | x, c :: t => ∃ o nx, x = some o ∧ ClaimAt H o c (rvl nx) ∧ ChnAt H nx t
def VerAt (H : HF) (o : Nat) (v : VR) : Prop := 119 ≤ o ∧ (vN v < 8 ∧ (0 ≤ vM v ∧ vM v < 1000000) ∧ (1 ≤ vS v ∧ vS v ≤ 999)) ∧ ∃ f g, H o = some (false, 10, [.int (zI (vN v : Int)), .int (zI (vM v)), .int (zI (vS v)), .int (zI (bI (vW v))), rvl f, .int (zI ((vQ v).length : Int)), rvl g, .int (zI ((vK v).length : Int))]) ∧ ChnAt H f (vQ v) ∧ ChnAt H g (vK v)
/-- the versions that there are -/
def VsA (H : HF) (vr : Nat → VR) (V : Nat → Prop) : Prop := ∀ o, V o → VerAt H o (vr o)
/-- a choice takes versions that there are -/
def ChV (V : Nat → Prop) (ch : Nat → Option Nat) : Prop := ∀ p o, p < 12 → ch p = some o → V o
def aNt (N : Nat) (f : Nat → Nat) : List Value := aI N (fun p => (f p : Int))
theorem aN_ext {N : Nat} {f g : Nat → Nat} (h : ∀ p, p < N → f p = g p) : aNt N f = aNt N g := aX_ext fun j hj => congrArg (fun z : Nat => Value.int (zI (z : Int))) (h j hj)
theorem aN_fset (N : Nat) (f : Nat → Nat) (j x : Nat) : aI N (fset (fun p => (f p : Int)) j (x : Int)) = aNt N (fset f j x) := by
  refine aX_ext fun i _ => ?_
  unfold fset
  dsimp only
  by_cases h : i = j
  · rw [if_pos h, if_pos h]
  · rw [if_neg h, if_neg h]
theorem ClaimAt_upd {H : HF} {o i : Nat} {c : CR} {nx : Value} {d : XCl} (hi : i < 119) (h : ClaimAt H o c nx) : ClaimAt (hup H i d) o c nx := by
  obtain ⟨h1, h2, r, h3, h4, h5⟩ := h
  exact ⟨h1, h2, r, h3, by rw [upd_ne _ _ (by omega)]; exact h4, by rw [upd_ne _ _ (by omega)]; exact h5⟩
theorem ChainAt_upd {H : HF} {i : Nat} {d : XCl} (hi : i < 119) : ∀ {l : List CR} {x : Option Nat}, ChnAt H x l → ChnAt (hup H i d) x l
  | [], _, h => h
  | c :: t, x, ⟨o, nx, h1, h2, h3⟩ => ⟨o, nx, h1, ClaimAt_upd hi h2, ChainAt_upd hi h3⟩
theorem VerAt_upd {H : HF} {o i : Nat} {v : VR} {d : XCl} (hi : i < 119) (h : VerAt H o v) : VerAt (hup H i d) o v := by
  obtain ⟨h1, h2, f, g, h3, h4, h5⟩ := h
  exact ⟨h1, h2, f, g, by rw [upd_ne _ _ (by omega)]; exact h3, ChainAt_upd hi h4, ChainAt_upd hi h5⟩
theorem VS_upd {H : HF} {vr : Nat → VR} {V : Nat → Prop} {i : Nat} {d : XCl} (hi : i < 119) (h : VsA H vr V) : VsA (hup H i d) vr V := fun o ho => VerAt_upd hi (h o ho)
theorem VS_ok {H : HF} {vr : Nat → VR} {V : Nat → Prop} {o : Nat} (h : VsA H vr V) (ho : V o) : ∃ vs, H o = some (false, 10, vs) := by
  obtain ⟨-, -, f, g, h3, -⟩ := h o ho
  exact ⟨_, h3⟩
theorem VS_aOK {H : HF} {vr : Nat → VR} {V : Nat → Prop} {ch : Nat → Option Nat} {p : Nat} (h : VsA H vr V) (hc : ChV V ch) (hp : p < 12) : aOK H 3 (ch p) := fun k hk => VS_ok h (hc p k hp hk)
theorem VS_rvOK {H : HF} {vr : Nat → VR} {V : Nat → Prop} {ch : Nat → Option Nat} {p : Nat} (h : VsA H vr V) (hc : ChV V ch) (hp : p < 12) : rvOK H (ch p) := fun k hk => by
  obtain ⟨vs, hv⟩ := VS_ok h (hc p k hp hk)
  exact ⟨_, hv⟩

/-- alike in all that is made in the course of a time -/
def Hi (H G : HF) : Prop := ∀ o, 119 ≤ o → G o = H o
theorem Hi_refl (H : HF) : Hi H H := fun _ _ => rfl
theorem Hi_trans {H G K : HF} (h1 : Hi H G) (h2 : Hi G K) : Hi H K := fun o ho => (h2 o ho).trans (h1 o ho)
theorem Hi_upd {H G : HF} {i : Nat} {d : XCl} (h : Hi H G) (hi : i < 119) : Hi H (hup G i d) := fun o ho => by rw [upd_ne _ _ (by omega)]; exact h o ho
theorem ClaimAt_hi {H G : HF} (hh : Hi H G) {o : Nat} {c : CR} {nx : Value} (h : ClaimAt H o c nx) : ClaimAt G o c nx := by
  obtain ⟨h1, h2, r, h3, h4, h5⟩ := h
  exact ⟨h1, h2, r, h3, by rw [hh r h3]; exact h4, by rw [hh o h1]; exact h5⟩
theorem ChainAt_hi {H G : HF} (hh : Hi H G) : ∀ {l : List CR} {x : Option Nat}, ChnAt H x l → ChnAt G x l
  | [], _, h => h
  | c :: t, x, ⟨o, nx, h1, h2, h3⟩ => ⟨o, nx, h1, ClaimAt_hi hh h2, ChainAt_hi hh h3⟩
theorem VerAt_hi {H G : HF} (hh : Hi H G) {o : Nat} {v : VR} (h : VerAt H o v) : VerAt G o v := by
  obtain ⟨h1, h2, f, g, h3, h4, h5⟩ := h
  exact ⟨h1, h2, f, g, by rw [hh o h1]; exact h3, ChainAt_hi hh h4, ChainAt_hi hh h5⟩
theorem VS_hi {H G : HF} (hh : Hi H G) {vr : Nat → VR} {V : Nat → Prop} (h : VsA H vr V) : VsA G vr V := fun o ho => VerAt_hi hh (h o ho)
/-! btn -/
def btb (x : Int32) (i : Nat) : Bool := x.toBitVec.getLsbD i
theorem b_ext {x y : Int32} (h : ∀ i, i < 32 → btb x i = btb y i) : x = y := Int32.toBitVec_inj.mp (BitVec.eq_of_getLsbD_eq (fun i hi => h i hi))
theorem b_or (x y : Int32) (i : Nat) : btb (x ||| y) i = (btb x i || btb y i) := by unfold btb; rw [Int32.toBitVec_or, BitVec.getLsbD_or]
theorem b_and (x y : Int32) (i : Nat) : btb (x &&& y) i = (btb x i && btb y i) := by unfold btb; rw [Int32.toBitVec_and, BitVec.getLsbD_and]
theorem b_xor (x y : Int32) (i : Nat) : btb (x ^^^ y) i = (btb x i ^^ btb y i) := by unfold btb; rw [Int32.toBitVec_xor, BitVec.getLsbD_xor]
theorem s_l : ∀ n, n < 32 → ((nI n &&& 31).toBitVec.smod 32).toNat = n := by decide +kernel
theorem b_sshr (n : Nat) (hn : n < 32) (x : Int32) {i : Nat} (hi : i < 32) : btb (x >>> (nI n &&& 31)) i = if n + i < 32 then btb x (n + i) else btb x 31 := by
  unfold btb
  rw [Int32.toBitVec_shiftRight]
  show (x.toBitVec.sshiftRight ((nI n &&& 31).toBitVec.smod 32).toNat).getLsbD i = _
  rw [s_l n hn, BitVec.getLsbD_sshiftRight, BitVec.msb_eq_getLsbD_last]
  simp [hi]
theorem bt_z (a : Nat) {i : Nat} (hi : i < 32) : btb (zI (a : Int)) i = a.testBit i := by
  rw [zI_nI]
  show (BitVec.ofNat 32 a).getLsbD i = _
  rw [BitVec.getLsbD_ofNat]
  simp [hi]
theorem z_or (a b : Nat) : zI (a : Int) ||| zI (b : Int) = zI ((a ||| b : Nat) : Int) := b_ext fun i hi => by
  rw [b_or, bt_z _ hi, bt_z _ hi, bt_z _ hi, Nat.testBit_or]
theorem z_and (a b : Nat) : zI (a : Int) &&& zI (b : Int) = zI ((a &&& b : Nat) : Int) := b_ext fun i hi => by
  rw [b_and, bt_z _ hi, bt_z _ hi, bt_z _ hi, Nat.testBit_and]
theorem z_shr {a p : Nat} (ha : a < 4096) (hp : p < 31) : zI (a : Int) >>> (zI (p : Int) &&& 31) = zI ((a >>> p : Nat) : Int) := b_ext fun i hi => by
  rw [zI_nI p, b_sshr p (by omega) _ hi, bt_z _ hi, Nat.testBit_shiftRight]
  by_cases h : p + i < 32
  · rw [if_pos h, bt_z _ h]
  · rw [if_neg h, bt_z _ (by omega), Nat.testBit_lt_two_pow (Nat.lt_of_lt_of_le ha (Nat.pow_le_pow_right (n := 2) (by omega) (show 12 ≤ 31 by omega))), Nat.testBit_lt_two_pow (Nat.lt_of_lt_of_le ha (Nat.pow_le_pow_right (n := 2) (by omega) (show 12 ≤ p + i by omega)))]
theorem z_shl : ∀ p : Nat, p < 12 → zI 1 <<< (zI (p : Int) &&& 31) = zI ((2 ^ p : Nat) : Int) := by decide +kernel
theorem bt_1 : ∀ i, i < 32 → btb 1 i = decide (i = 0) := by decide +kernel
theorem and1 (x : Int32) : x &&& 1 = zI (bI (decide (¬ x &&& 1 = 0))) := by
  have h : x &&& 1 = 0 ∨ x &&& 1 = 1 := by
    cases hb : btb x 0 with
    | false =>
      refine .inl (b_ext fun i hi => ?_)
      rw [b_and, bt_1 i hi, show btb 0 i = false from BitVec.getLsbD_zero]
      by_cases e : i = 0
      · rw [e, hb]; rfl
      · rw [decide_eq_false e, Bool.and_false]
    | true =>
      refine .inr (b_ext fun i hi => ?_)
      rw [b_and, bt_1 i hi]
      by_cases e : i = 0
      · rw [e, hb]; rfl
      · rw [decide_eq_false e, Bool.and_false]
  rcases h with h | h
  · rw [h]; rfl
  · rw [h]; rfl
/-- a set of packages, asked for one -/
def isInB (x : Int32) (p : Nat) : Bool := decide (¬ (x >>> (zI (p : Int) &&& 31)) &&& 1 = 0)
theorem tb_and (a p : Nat) : (a >>> p) &&& 1 = if a.testBit p then 1 else 0 := by
  rw [Nat.and_one_is_mod, Nat.testBit_eq_decide_div_mod_eq, Nat.shiftRight_eq_div_pow]
  rcases Nat.mod_two_eq_zero_or_one (a / 2 ^ p) with h | h
  · rw [h]; rfl
  · rw [h]; rfl
theorem isInB_z {a p : Nat} (ha : a < 4096) (hp : p < 31) : isInB (zI (a : Int)) p = a.testBit p := by
  unfold isInB
  rw [z_shr ha hp, show (1 : Int32) = zI ((1 : Nat) : Int) from rfl, z_and, tb_and]
  cases a.testBit p <;> rfl

/-! what the class makes of it -/
def nmOf (vr : Nat → VR) : Option Nat → Int
  | none => -1
  | some o => (vN (vr o) : Int)
def szOf (vr : Nat → VR) : Option Nat → Int
  | none => 0
  | some o => vS (vr o)
/-- whether a claim counts -/
def cCnt (c : CR) (f : Nat) : Bool := decide (cC c < 0) || f.testBit (cC c).toNat
/-- whether a claim lets a mark in -/
def cIn (c : CR) (m : Int) : Bool := decide (cA c ≤ m) && decide (m < cE c)
def sumTo (f : Nat → Int) : Nat → Int
  | 0 => 0
  | k + 1 => sumTo f k + f k
def cntTo (f : Nat → Bool) : Nat → Nat
  | 0 => 0
  | k + 1 => cntTo f k + (if f k then 1 else 0)
theorem cntTo_le (f : Nat → Bool) : ∀ k, cntTo f k ≤ k
  | 0 => Nat.le_refl 0
  | k + 1 => by
    have := cntTo_le f k
    show cntTo f k + (if f k then 1 else 0) ≤ k + 1
    split <;> omega
def diffs (a b : Nat → Option Nat) : Nat := cntTo (fun p => decide (¬ a p = b p)) 12
/-- one claim turned on -/
def tOn (ch : Nat → Option Nat) (on : Nat → Nat) (c : CR) : Nat → Nat := if ch (cT c) = none then on else fset on (cT c) (on (cT c) ||| cF c)
def grwn (ch : Nat → Option Nat) (on : Nat → Nat) (c : CR) : Bool := decide (¬ tOn ch on c (cT c) = on (cT c))
def nOne (ch : Nat → Option Nat) (p : Nat) (s : (Nat → Nat) × Bool) (c : CR) : (Nat → Nat) × Bool := if cCnt c (s.1 p) then (tOn ch s.1 c, s.2 || grwn ch s.1 c) else s
def nPk (vr : Nat → VR) (ch : Nat → Option Nat) (p : Nat) (s : (Nat → Nat) × Bool) : (Nat → Nat) × Bool :=
  match ch p with
  | none => s
  | some o => (vQ (vr o)).foldl (nOne ch p) s
def nRun (vr : Nat → VR) (ch : Nat → Option Nat) : Nat → Nat → (Nat → Nat) × Bool → (Nat → Nat) × Bool
  | 0, _, s => s
  | k + 1, j, s => nRun vr ch k (j + 1) (nPk vr ch j s)
def tofRun (vr : Nat → VR) (ch : Nat → Option Nat) : Nat → (Nat → Nat) → Nat → Nat
  | 0, on => on
  | k + 1, on => if (nRun vr ch 12 0 (on, false)).2 then tofRun vr ch k (nRun vr ch 12 0 (on, false)).1 else (nRun vr ch 12 0 (on, false)).1
/-- the features that are on -/
def onF (vr : Nat → VR) (ch : Nat → Option Nat) (wl : List CR) : Nat → Nat := tofRun vr ch 49 (wl.foldl (tOn ch) (fun _ => 0))
/-- features stay below 16 -/
def o16 (on : Nat → Nat) : Prop := ∀ p, on p < 16
theorem o16_0 : o16 (fun _ => 0) := fun _ => by show 0 < 16; omega
theorem o16_tOn {ch : Nat → Option Nat} {on : Nat → Nat} {c : CR} (h : o16 on) (hc : cOK c) : o16 (tOn ch on c) := by
  intro p
  unfold tOn
  by_cases e : ch (cT c) = none
  · rw [if_pos e]
    exact h p
  · rw [if_neg e]
    by_cases e2 : p = cT c
    · subst e2
      rw [fset_eq]
      exact Nat.or_lt_two_pow (n := 4) (h _) hc.2.2.1
    · rw [fset_ne _ _ e2]
      exact h p
/-- a choice's cells -/
def ChAt (H : HF) (t : Nat) (ch : Nat → Option Nat) (on : Nat → Nat) : Prop := H t = some (false, 2, [.ref (t + 1), .ref (t + 2)]) ∧ H (t + 1) = some (true, 3, aR 12 ch) ∧ H (t + 2) = some (true, 0, aNt 12 on)
/-- the wishes' cells -/
def WiAt (H : HF) (w : Nat) (wl : List CR) : Prop := H w = some (false, 6, [.ref (w + 1), .int (zI (wl.length : Int))]) ∧ wl.length ≤ 6 ∧ ∃ wc, H (w + 1) = some (true, 5, aR 6 wc) ∧ ∀ i c, wl[i]? = some c → ∃ o nx, wc i = some o ∧ ClaimAt H o c nx
theorem WiAt_upd {H : HF} {w i : Nat} {wl : List CR} {d : XCl} (hi : i < 119) (h1 : ¬ i = w) (h2 : ¬ i = w + 1) (h : WiAt H w wl) : WiAt (hup H i d) w wl := by
  obtain ⟨a, b, wc, c, e⟩ := h
  refine ⟨by rw [upd_ne _ _ (by omega)]; exact a, b, wc, by rw [upd_ne _ _ (by omega)]; exact c, fun i x hx => ?_⟩
  obtain ⟨o, nx, q1, q2⟩ := e i x hx
  exact ⟨o, nx, q1, ClaimAt_upd hi q2⟩
theorem WiAt_hi {H G : HF} {w : Nat} {wl : List CR} (hh : Hi H G) (h1 : G w = H w) (h2 : G (w + 1) = H (w + 1)) (h : WiAt H w wl) : WiAt G w wl := by
  obtain ⟨a, b, wc, c, e⟩ := h
  refine ⟨h1.trans a, b, wc, h2.trans c, fun i x hx => ?_⟩
  obtain ⟨o, nx, q1, q2⟩ := e i x hx
  exact ⟨o, nx, q1, ClaimAt_hi hh q2⟩
end XK1
