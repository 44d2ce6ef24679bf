/-! runs over heaps as functions (printed by wip/p46/gen20.py) -/
section XJ0
abbrev HF : Type := Nat → Option XCl
abbrev zI (z : Int) : Int32 := Int32.ofInt z
def hup (H : HF) (i : Nat) (c : XCl) : HF := fun o => if o = i then some c else H o
theorem upd_eq (H : HF) (i : Nat) (c : XCl) : hup H i c i = some c := if_pos rfl
theorem upd_ne (H : HF) {o i : Nat} (c : XCl) (h : ¬ o = i) : hup H i c o = H o := if_neg h
theorem upd_upd (H : HF) (i : Nat) (c d : XCl) : hup (hup H i c) i d = hup H i d := by
  funext o
  by_cases h : o = i
  · subst h
    rw [upd_eq, upd_eq]
  · rw [upd_ne _ _ h, upd_ne _ _ h, upd_ne _ _ h]
theorem upd_self {H : HF} {i : Nat} {c : XCl} (h : H i = some c) : hup H i c = H := by
  funext o
  by_cases e : o = i
  · subst e
    rw [upd_eq, h]
  · rw [upd_ne _ _ e]
theorem upd_comm (H : HF) {i j : Nat} (c d : XCl) (h : ¬ i = j) : hup (hup H i c) j d = hup (hup H j d) i c := by
  funext o
  by_cases e : o = i
  · subst e
    rw [upd_ne _ _ h, upd_eq, upd_eq]
  · by_cases e2 : o = j
    · subst e2
      rw [upd_eq, upd_ne _ _ e, upd_eq]
    · rw [upd_ne _ _ e2, upd_ne _ _ e, upd_ne _ _ e, upd_ne _ _ e2]
def Frs (H : HF) (n : Nat) : Prop := ∀ o, n ≤ o → H o = none
theorem Fr_lt {H : HF} {n i : Nat} {c : XCl} (hf : Frs H n) (hk : H i = some c) : i < n := by
  rcases Nat.lt_or_ge i n with h | h
  · exact h
  · rw [hf i h] at hk
    cases hk
theorem Fr_upd {H : HF} {n i : Nat} {c d : XCl} (hf : Frs H n) (hk : H i = some c) : Frs (hup H i d) n := by
  intro o ho
  have := Fr_lt hf hk
  rw [upd_ne _ _ (show ¬ o = i by omega)]
  exact hf o ho
theorem Fr_new {H : HF} {n : Nat} {d : XCl} (hf : Frs H n) : Frs (hup H n d) (n + 1) := by
  intro o ho
  rw [upd_ne _ _ (show ¬ o = n by omega)]
  exact hf o (by omega)
theorem xhk_cons (j : Nat) (c : XCl) (t : XH) (o : Nat) : xhk ((j, c) :: t) o = if o = j then some c else xhk t o := by
  show (bif Nat.beq j o then some c else xhk t o) = _
  by_cases h : o = j
  · subst h
    rw [Nat.beq_refl, if_pos rfl]
    rfl
  · rw [if_neg h]
    cases hb : Nat.beq j o with
    | true => exact absurd (Nat.eq_of_beq_eq_true hb).symm h
    | false => rfl
theorem xhs_upd {i : Nat} {d : XCl} : ∀ {h : XH} {c : XCl}, xhk h i = some c → xhk (xhs h i d) = hup (xhk h) i d
  | [], c, hk => by cases hk
  | (j, e) :: t, c, hk => by
    funext o
    rw [xhk_cons] at hk
    show xhk (bif Nat.beq j i then (j, d) :: t else (j, e) :: xhs t i d) o = _
    by_cases h : i = j
    · subst h
      rw [Nat.beq_refl]
      show xhk ((i, d) :: t) o = _
      rw [xhk_cons]
      by_cases h2 : o = i
      · subst h2
        rw [if_pos rfl, upd_eq]
      · rw [if_neg h2, upd_ne _ _ h2, xhk_cons, if_neg h2]
    · rw [if_neg h] at hk
      have hb : Nat.beq j i = false := by
        cases hb : Nat.beq j i with
        | true => exact absurd (Nat.eq_of_beq_eq_true hb).symm h
        | false => rfl
      rw [hb]
      show xhk ((j, e) :: xhs t i d) o = _
      rw [xhk_cons, xhs_upd hk]
      by_cases h2 : o = i
      · subst h2
        rw [upd_eq, if_neg h, upd_eq]
      · rw [upd_ne _ _ h2, upd_ne _ _ h2, xhk_cons]
theorem xhk_app (L : XH) (o : Nat) : ∀ h : XH, xhk (h ++ L) o = (match xhk h o with
    | some c => some c
    | none => xhk L o)
  | [] => rfl
  | (j, c) :: t => by
    show xhk ((j, c) :: (t ++ L)) o = _
    rw [xhk_cons, xhk_cons, xhk_app L o t]
    by_cases h : o = j
    · rw [if_pos h, if_pos h]
    · rw [if_neg h, if_neg h]
theorem xhk_push {h : XH} {n : Nat} {c : XCl} (hn : xhk h n = none) : xhk (h ++ [(n, c)]) = hup (xhk h) n c := by
  funext o
  rw [xhk_app, xhk_cons]
  by_cases e : o = n
  · subst e
    rw [hn, upd_eq, if_pos rfl]
  · rw [upd_ne _ _ e, if_neg e]
    cases xhk h o <;> rfl
/-- cells put on top -/
def app (H : HF) (L : XH) : HF := fun o => match xhk L o with
  | some c => some c
  | none => H o
theorem xhk_appd {h L : XH} (hn : ∀ o c, xhk L o = some c → xhk h o = none) : xhk (h ++ L) = app (xhk h) L := by
  funext o
  rw [xhk_app]
  unfold app
  cases hl : xhk L o with
  | none => cases xhk h o <;> rfl
  | some c => rw [hn o c hl]

abbrev ScT : Type := Option (Nat × (Nat → Int32))
def Gw (S : ScT) (M : XM) (pc : Nat) (lv : XL) (st : List Value) (H : HF) (n ce sl : Nat) (Q : XLf → Prop) : Prop := ∀ h : XH, xhk h = H → Frs H n → Go S M pc lv st ([], h, n, ce, sl) Q
def MQe (M : XM) (P : Option Value → HF → Nat → Prop) (lf : XLf) : Prop := ∃ v h' n', xend M lf = some (0, v, [], h', n') ∧ Frs (xhk h') n' ∧ P v (xhk h') n'
def Rmt (S : ScT) (k : Nat) (as : List Value) (H : HF) (n : Nat) (P : Option Value → HF → Nat → Prop) : Prop := ∀ h : XH, xhk h = H → Frs H n → ∃ v h' n', Ret S k as h n v h' n' ∧ Frs (xhk h') n' ∧ P v (xhk h') n'
def Rdt (S : ScT) (k : Nat) (as : List Value) (H : HF) (n : Nat) (v : Option Value) (H' : HF) (n' : Nat) : Prop := Rmt S k as H n (fun w G m => w = v ∧ G = H' ∧ m = n')
theorem Rm_mono {S : ScT} {k : Nat} {as : List Value} {H : HF} {n : Nat} {P P' : Option Value → HF → Nat → Prop} (h : Rmt S k as H n P) (hp : ∀ v G m, P v G m → P' v G m) : Rmt S k as H n P' := fun h0 e f => by
  obtain ⟨v, h', n', h1, h2, h3⟩ := h h0 e f
  exact ⟨v, h', n', h1, h2, hp _ _ _ h3⟩
section
variable {S : ScT} {M : XM} {pc pc' : Nat} {lv lv' : XL} {st st' : List Value} {H : HF} {n ce sl : Nat} {Q : XLf → Prop}
theorem Gq_mq {P P' : Option Value → HF → Nat → Prop} (h : Gw S M pc lv st H n ce sl (MQe M P)) (hp : ∀ v G m, P v G m → P' v G m) : Gw S M pc lv st H n ce sl (MQe M P') := fun h0 e f => by
  obtain ⟨lf, ⟨v, h', n', a1, a2, a3⟩, r⟩ := h h0 e f
  exact ⟨lf, ⟨v, h', n', a1, a2, hp _ _ _ a3⟩, r⟩
theorem Rm_of {k : Nat} {as : List Value} {P : Option Value → HF → Nat → Prop} (hM : xnth xMs k = some M) (hc : Nat.ble (xcats as) (xmN M) = true) (hl : lv_args 0 as = lv) (hg : Gw S M 0 lv [] H n 0 0 (MQe M P)) : Rmt S k as H n P := by
  intro h hh hf
  subst hl
  obtain ⟨lf, ⟨v, h', n', h1, h2, h3⟩, hr⟩ := hg h hh hf
  exact ⟨v, h', n', Ret_of hM hc ⟨lf, h1, hr⟩, h2, h3⟩
/-- a row of the method's own numbers -/
theorem Gq_s {i : Instr} {aux : List Nat} (hr : yrow M pc = some (pc, i, 0, aux)) (hp : pc + ilen i = pc') (hq : xsimple (xmN M) i aux lv st = some (lv', st')) (kk : Gw S M pc' lv' st' H n ce sl Q) : Gw S M pc lv st H n ce sl Q := by
  intro h hh hf
  subst hp
  exact Eq.mpr (Go_simple hr hq) (kk h hh hf)
theorem zI_add (a b : Int) : zI a + zI b = zI (a + b) := (Int32.ofInt_add a b).symm
theorem zI_sub (a b : Int) : zI a - zI b = zI (a - b) := (Int32.ofInt_sub a b).symm
theorem zI_mul (a b : Int) : zI a * zI b = zI (a * b) := (Int32.ofInt_mul a b).symm
theorem zI_nI (n : Nat) : zI (n : Int) = nI n := rfl
theorem zI_toInt {z : Int} (h : -2147483648 ≤ z ∧ z < 2147483648) : (zI z).toInt = z := Int32.toInt_ofInt_of_le (by omega) (by omega)
theorem zI_of (x : Int32) : ∃ z : Int, -2147483648 ≤ z ∧ z < 2147483648 ∧ x = zI z := ⟨x.toInt, by have := Int32.le_toInt x; omega, by have := Int32.toInt_lt x; omega, (Int32.ofInt_toInt x).symm⟩
theorem zI_inj {a b : Int} (ha : -2147483648 ≤ a ∧ a < 2147483648) (hb : -2147483648 ≤ b ∧ b < 2147483648) : zI a = zI b ↔ a = b := ⟨fun h => by
  have := congrArg Int32.toInt h
  rwa [zI_toInt ha, zI_toInt hb] at this, fun h => by rw [h]⟩
theorem zI_lt {a b : Int} (ha : -2147483648 ≤ a ∧ a < 2147483648) (hb : -2147483648 ≤ b ∧ b < 2147483648) : zI a < zI b ↔ a < b := by
  rw [Int32.lt_iff_toInt_lt, zI_toInt ha, zI_toInt hb]
theorem zI_le {a b : Int} (ha : -2147483648 ≤ a ∧ a < 2147483648) (hb : -2147483648 ≤ b ∧ b < 2147483648) : zI a ≤ zI b ↔ a ≤ b := by
  rw [Int32.le_iff_toInt_le, zI_toInt ha, zI_toInt hb]
theorem zI_bi {z : Int} (h : -128 ≤ z ∧ z < 128) : (Int8.ofInt z).toInt32 = zI z := by
  apply Int32.toInt_inj.mp
  rw [Int8.toInt_toInt32, Int8.toInt_ofInt_of_le (by omega) (by omega), zI_toInt (by omega)]
theorem zI_si {z : Int} (h : -32768 ≤ z ∧ z < 32768) : (Int16.ofInt z).toInt32 = zI z := by
  apply Int32.toInt_inj.mp
  rw [Int16.toInt_toInt32, Int16.toInt_ofInt_of_le (by omega) (by omega), zI_toInt (by omega)]
theorem Gq_bipush {z : Int} {aux : List Nat} (hr : yrow M pc = some (pc, .bipush z, 0, aux)) (hp : pc + 2 = pc') (hz : -128 ≤ z ∧ z < 128) (kk : Gw S M pc' lv (.int (zI z) :: st) H n ce sl Q) : Gw S M pc lv st H n ce sl Q := by
  refine Gq_s hr hp (lv' := lv) (st' := .int (zI z) :: st) ?_ kk
  show some (lv, Value.int (Int8.ofInt z).toInt32 :: st) = _
  rw [zI_bi hz]
theorem Gq_sipush {z : Int} {aux : List Nat} (hr : yrow M pc = some (pc, .sipush z, 0, aux)) (hp : pc + 3 = pc') (hz : -32768 ≤ z ∧ z < 32768) (kk : Gw S M pc' lv (.int (zI z) :: st) H n ce sl Q) : Gw S M pc lv st H n ce sl Q := by
  refine Gq_s hr hp (lv' := lv) (st' := .int (zI z) :: st) ?_ kk
  show some (lv, Value.int (Int16.ofInt z).toInt32 :: st) = _
  rw [zI_si hz]
theorem Gq_iinc {i : Nat} {d a : Int} {aux : List Nat} (hr : yrow M pc = some (pc, .iinc i d, 0, aux)) (hp : pc + 3 = pc') (hl : xlk lv i = some (.int (zI a))) (hs : xst1 (xmN M) i (.int (zI (a + d))) lv = some lv') (kk : Gw S M pc' lv' st H n ce sl Q) : Gw S M pc lv st H n ce sl Q := by
  refine Gq_s hr hp (lv' := lv') (st' := st) ?_ kk
  show xinc (xmN M) i d lv st = _
  unfold xinc
  rw [hl]
  dsimp only
  rw [show zI a + Int32.ofInt d = zI (a + d) from zI_add a d, hs]
theorem Gq_iadd {a b : Int} {aux : List Nat} (hr : yrow M pc = some (pc, .iadd, 0, aux)) (hp : pc + 1 = pc') (kk : Gw S M pc' lv (.int (zI (a + b)) :: st) H n ce sl Q) : Gw S M pc lv (.int (zI b) :: .int (zI a) :: st) H n ce sl Q := by
  refine Gq_s hr hp (lv' := lv) (st' := .int (zI (a + b)) :: st) ?_ kk
  show some (lv, Value.int (zI a + zI b) :: st) = _
  rw [zI_add]
theorem Gq_isub {a b : Int} {aux : List Nat} (hr : yrow M pc = some (pc, .isub, 0, aux)) (hp : pc + 1 = pc') (kk : Gw S M pc' lv (.int (zI (a - b)) :: st) H n ce sl Q) : Gw S M pc lv (.int (zI b) :: .int (zI a) :: st) H n ce sl Q := by
  refine Gq_s hr hp (lv' := lv) (st' := .int (zI (a - b)) :: st) ?_ kk
  show some (lv, Value.int (zI a - zI b) :: st) = _
  rw [zI_sub]
theorem Gq_imul {a b : Int} {aux : List Nat} (hr : yrow M pc = some (pc, .imul, 0, aux)) (hp : pc + 1 = pc') (kk : Gw S M pc' lv (.int (zI (a * b)) :: st) H n ce sl Q) : Gw S M pc lv (.int (zI b) :: .int (zI a) :: st) H n ce sl Q := by
  refine Gq_s hr hp (lv' := lv) (st' := .int (zI (a * b)) :: st) ?_ kk
  show some (lv, Value.int (zI a * zI b) :: st) = _
  rw [zI_mul]
theorem Gq_ishl {x y : Int32} (z : Int32) {aux : List Nat} (hr : yrow M pc = some (pc, .ishl, 0, aux)) (hp : pc + 1 = pc') (hz : x <<< (y &&& 31) = z) (kk : Gw S M pc' lv (.int z :: st) H n ce sl Q) : Gw S M pc lv (.int y :: .int x :: st) H n ce sl Q := by
  refine Gq_s hr hp (lv' := lv) (st' := .int z :: st) ?_ kk
  show some (lv, Value.int (x <<< (y &&& 31)) :: st) = _
  rw [hz]
theorem Gq_ishr {x y : Int32} (z : Int32) {aux : List Nat} (hr : yrow M pc = some (pc, .ishr, 0, aux)) (hp : pc + 1 = pc') (hz : x >>> (y &&& 31) = z) (kk : Gw S M pc' lv (.int z :: st) H n ce sl Q) : Gw S M pc lv (.int y :: .int x :: st) H n ce sl Q := by
  refine Gq_s hr hp (lv' := lv) (st' := .int z :: st) ?_ kk
  show some (lv, Value.int (x >>> (y &&& 31)) :: st) = _
  rw [hz]
theorem Gq_iand {x y : Int32} (z : Int32) {aux : List Nat} (hr : yrow M pc = some (pc, .iand, 0, aux)) (hp : pc + 1 = pc') (hz : x &&& y = z) (kk : Gw S M pc' lv (.int z :: st) H n ce sl Q) : Gw S M pc lv (.int y :: .int x :: st) H n ce sl Q := by
  refine Gq_s hr hp (lv' := lv) (st' := .int z :: st) ?_ kk
  show some (lv, Value.int (x &&& y) :: st) = _
  rw [hz]
theorem Gq_ior {x y : Int32} (z : Int32) {aux : List Nat} (hr : yrow M pc = some (pc, .ior, 0, aux)) (hp : pc + 1 = pc') (hz : x ||| y = z) (kk : Gw S M pc' lv (.int z :: st) H n ce sl Q) : Gw S M pc lv (.int y :: .int x :: st) H n ce sl Q := by
  refine Gq_s hr hp (lv' := lv) (st' := .int z :: st) ?_ kk
  show some (lv, Value.int (x ||| y) :: st) = _
  rw [hz]
theorem Gq_ixor {x y : Int32} (z : Int32) {aux : List Nat} (hr : yrow M pc = some (pc, .ixor, 0, aux)) (hp : pc + 1 = pc') (hz : x ^^^ y = z) (kk : Gw S M pc' lv (.int z :: st) H n ce sl Q) : Gw S M pc lv (.int y :: .int x :: st) H n ce sl Q := by
  refine Gq_s hr hp (lv' := lv) (st' := .int z :: st) ?_ kk
  show some (lv, Value.int (x ^^^ y) :: st) = _
  rw [hz]
theorem Gq_idiv {x y : Int32} (z : Int32) {aux : List Nat} (hr : yrow M pc = some (pc, .idiv, 0, aux)) (hp : pc + 1 = pc') (h0 : ¬ y = 0) (hz : x / y = z) (kk : Gw S M pc' lv (.int z :: st) H n ce sl Q) : Gw S M pc lv (.int y :: .int x :: st) H n ce sl Q := by
  refine Gq_s hr hp (lv' := lv) (st' := .int z :: st) ?_ kk
  show (bif decide (y = 0) then none else some (lv, Value.int (x / y) :: st)) = _
  rw [decide_eq_false h0, hz]
  rfl
theorem Gq_irem {x y : Int32} (z : Int32) {aux : List Nat} (hr : yrow M pc = some (pc, .irem, 0, aux)) (hp : pc + 1 = pc') (h0 : ¬ y = 0) (hz : x - x / y * y = z) (kk : Gw S M pc' lv (.int z :: st) H n ce sl Q) : Gw S M pc lv (.int y :: .int x :: st) H n ce sl Q := by
  refine Gq_s hr hp (lv' := lv) (st' := .int z :: st) ?_ kk
  show (bif decide (y = 0) then none else some (lv, Value.int (x - x / y * y) :: st)) = _
  rw [decide_eq_false h0, hz]
  rfl
/-- jumps -/
theorem Gq_goto {off : Int} {aux : List Nat} {t : Nat} (hr : yrow M pc = some (pc, .goto off, 2, aux)) (ht : xtgt pc off = some t) (kk : Gw S M t lv st H n ce sl Q) : Gw S M pc lv st H n ce sl Q := by
  intro h hh hf
  have hq : xbranch h pc (.goto off) st [] = some [(t, st, [])] := by
    show (match xtgt pc off with
      | some t => some [(t, st, ([] : XP))]
      | none => none) = _
    rw [ht]
  rw [Go_branch (σ := ([], h, n, ce, sl)) hr hq]
  exact kk h hh hf
theorem Gq_ceq {off : Int} {aux : List Nat} {t : Nat} {a b : Int} (hr : yrow M pc = some (pc, .if_icmp .eq off, 2, aux)) (ht : xtgt pc off = some t) (hp : pc + 3 = pc') (ra : -2147483648 ≤ a ∧ a < 2147483648) (rb : -2147483648 ≤ b ∧ b < 2147483648) (h1 : a = b → Gw S M t lv st H n ce sl Q) (h2 : ¬ (a = b) → Gw S M pc' lv st H n ce sl Q) : Gw S M pc lv (.int (zI b) :: .int (zI a) :: st) H n ce sl Q := by
  intro h hh hf
  subst hp
  exact Go_icmp hr ht (fun hc => h1 ((zI_inj ra rb).mp hc) h hh hf) (fun hc => h2 (fun q => hc ((zI_inj ra rb).mpr q)) h hh hf)
theorem Gq_zeq {off : Int} {aux : List Nat} {t : Nat} {a : Int} (hr : yrow M pc = some (pc, .ifCond .eq off, 2, aux)) (ht : xtgt pc off = some t) (hp : pc + 3 = pc') (ra : -2147483648 ≤ a ∧ a < 2147483648) (h1 : a = 0 → Gw S M t lv st H n ce sl Q) (h2 : ¬ (a = 0) → Gw S M pc' lv st H n ce sl Q) : Gw S M pc lv (.int (zI a) :: st) H n ce sl Q := by
  intro h hh hf
  subst hp
  have rb : -2147483648 ≤ (0 : Int) ∧ (0 : Int) < 2147483648 := ⟨by omega, by omega⟩
  exact Go_if hr ht (fun hc => h1 ((zI_inj ra rb).mp hc) h hh hf) (fun hc => h2 (fun q => hc ((zI_inj ra rb).mpr q)) h hh hf)
theorem Gq_cne {off : Int} {aux : List Nat} {t : Nat} {a b : Int} (hr : yrow M pc = some (pc, .if_icmp .ne off, 2, aux)) (ht : xtgt pc off = some t) (hp : pc + 3 = pc') (ra : -2147483648 ≤ a ∧ a < 2147483648) (rb : -2147483648 ≤ b ∧ b < 2147483648) (h1 : ¬ a = b → Gw S M t lv st H n ce sl Q) (h2 : ¬ (¬ a = b) → Gw S M pc' lv st H n ce sl Q) : Gw S M pc lv (.int (zI b) :: .int (zI a) :: st) H n ce sl Q := by
  intro h hh hf
  subst hp
  exact Go_icmp hr ht (fun hc => h1 ((not_congr (zI_inj ra rb)).mp hc) h hh hf) (fun hc => h2 (fun q => hc ((not_congr (zI_inj ra rb)).mpr q)) h hh hf)
theorem Gq_zne {off : Int} {aux : List Nat} {t : Nat} {a : Int} (hr : yrow M pc = some (pc, .ifCond .ne off, 2, aux)) (ht : xtgt pc off = some t) (hp : pc + 3 = pc') (ra : -2147483648 ≤ a ∧ a < 2147483648) (h1 : ¬ a = 0 → Gw S M t lv st H n ce sl Q) (h2 : ¬ (¬ a = 0) → Gw S M pc' lv st H n ce sl Q) : Gw S M pc lv (.int (zI a) :: st) H n ce sl Q := by
  intro h hh hf
  subst hp
  have rb : -2147483648 ≤ (0 : Int) ∧ (0 : Int) < 2147483648 := ⟨by omega, by omega⟩
  exact Go_if hr ht (fun hc => h1 ((not_congr (zI_inj ra rb)).mp hc) h hh hf) (fun hc => h2 (fun q => hc ((not_congr (zI_inj ra rb)).mpr q)) h hh hf)
theorem Gq_clt {off : Int} {aux : List Nat} {t : Nat} {a b : Int} (hr : yrow M pc = some (pc, .if_icmp .lt off, 2, aux)) (ht : xtgt pc off = some t) (hp : pc + 3 = pc') (ra : -2147483648 ≤ a ∧ a < 2147483648) (rb : -2147483648 ≤ b ∧ b < 2147483648) (h1 : a < b → Gw S M t lv st H n ce sl Q) (h2 : ¬ (a < b) → Gw S M pc' lv st H n ce sl Q) : Gw S M pc lv (.int (zI b) :: .int (zI a) :: st) H n ce sl Q := by
  intro h hh hf
  subst hp
  exact Go_icmp hr ht (fun hc => h1 ((zI_lt ra rb).mp hc) h hh hf) (fun hc => h2 (fun q => hc ((zI_lt ra rb).mpr q)) h hh hf)
theorem Gq_zlt {off : Int} {aux : List Nat} {t : Nat} {a : Int} (hr : yrow M pc = some (pc, .ifCond .lt off, 2, aux)) (ht : xtgt pc off = some t) (hp : pc + 3 = pc') (ra : -2147483648 ≤ a ∧ a < 2147483648) (h1 : a < 0 → Gw S M t lv st H n ce sl Q) (h2 : ¬ (a < 0) → Gw S M pc' lv st H n ce sl Q) : Gw S M pc lv (.int (zI a) :: st) H n ce sl Q := by
  intro h hh hf
  subst hp
  have rb : -2147483648 ≤ (0 : Int) ∧ (0 : Int) < 2147483648 := ⟨by omega, by omega⟩
  exact Go_if hr ht (fun hc => h1 ((zI_lt ra rb).mp hc) h hh hf) (fun hc => h2 (fun q => hc ((zI_lt ra rb).mpr q)) h hh hf)
theorem Gq_cge {off : Int} {aux : List Nat} {t : Nat} {a b : Int} (hr : yrow M pc = some (pc, .if_icmp .ge off, 2, aux)) (ht : xtgt pc off = some t) (hp : pc + 3 = pc') (ra : -2147483648 ≤ a ∧ a < 2147483648) (rb : -2147483648 ≤ b ∧ b < 2147483648) (h1 : b ≤ a → Gw S M t lv st H n ce sl Q) (h2 : ¬ (b ≤ a) → Gw S M pc' lv st H n ce sl Q) : Gw S M pc lv (.int (zI b) :: .int (zI a) :: st) H n ce sl Q := by
  intro h hh hf
  subst hp
  exact Go_icmp hr ht (fun hc => h1 ((zI_le rb ra).mp hc) h hh hf) (fun hc => h2 (fun q => hc ((zI_le rb ra).mpr q)) h hh hf)
theorem Gq_zge {off : Int} {aux : List Nat} {t : Nat} {a : Int} (hr : yrow M pc = some (pc, .ifCond .ge off, 2, aux)) (ht : xtgt pc off = some t) (hp : pc + 3 = pc') (ra : -2147483648 ≤ a ∧ a < 2147483648) (h1 : 0 ≤ a → Gw S M t lv st H n ce sl Q) (h2 : ¬ (0 ≤ a) → Gw S M pc' lv st H n ce sl Q) : Gw S M pc lv (.int (zI a) :: st) H n ce sl Q := by
  intro h hh hf
  subst hp
  have rb : -2147483648 ≤ (0 : Int) ∧ (0 : Int) < 2147483648 := ⟨by omega, by omega⟩
  exact Go_if hr ht (fun hc => h1 ((zI_le rb ra).mp hc) h hh hf) (fun hc => h2 (fun q => hc ((zI_le rb ra).mpr q)) h hh hf)
theorem Gq_cgt {off : Int} {aux : List Nat} {t : Nat} {a b : Int} (hr : yrow M pc = some (pc, .if_icmp .gt off, 2, aux)) (ht : xtgt pc off = some t) (hp : pc + 3 = pc') (ra : -2147483648 ≤ a ∧ a < 2147483648) (rb : -2147483648 ≤ b ∧ b < 2147483648) (h1 : b < a → Gw S M t lv st H n ce sl Q) (h2 : ¬ (b < a) → Gw S M pc' lv st H n ce sl Q) : Gw S M pc lv (.int (zI b) :: .int (zI a) :: st) H n ce sl Q := by
  intro h hh hf
  subst hp
  exact Go_icmp hr ht (fun hc => h1 ((zI_lt rb ra).mp hc) h hh hf) (fun hc => h2 (fun q => hc ((zI_lt rb ra).mpr q)) h hh hf)
theorem Gq_zgt {off : Int} {aux : List Nat} {t : Nat} {a : Int} (hr : yrow M pc = some (pc, .ifCond .gt off, 2, aux)) (ht : xtgt pc off = some t) (hp : pc + 3 = pc') (ra : -2147483648 ≤ a ∧ a < 2147483648) (h1 : 0 < a → Gw S M t lv st H n ce sl Q) (h2 : ¬ (0 < a) → Gw S M pc' lv st H n ce sl Q) : Gw S M pc lv (.int (zI a) :: st) H n ce sl Q := by
  intro h hh hf
  subst hp
  have rb : -2147483648 ≤ (0 : Int) ∧ (0 : Int) < 2147483648 := ⟨by omega, by omega⟩
  exact Go_if hr ht (fun hc => h1 ((zI_lt rb ra).mp hc) h hh hf) (fun hc => h2 (fun q => hc ((zI_lt rb ra).mpr q)) h hh hf)
theorem Gq_cle {off : Int} {aux : List Nat} {t : Nat} {a b : Int} (hr : yrow M pc = some (pc, .if_icmp .le off, 2, aux)) (ht : xtgt pc off = some t) (hp : pc + 3 = pc') (ra : -2147483648 ≤ a ∧ a < 2147483648) (rb : -2147483648 ≤ b ∧ b < 2147483648) (h1 : a ≤ b → Gw S M t lv st H n ce sl Q) (h2 : ¬ (a ≤ b) → Gw S M pc' lv st H n ce sl Q) : Gw S M pc lv (.int (zI b) :: .int (zI a) :: st) H n ce sl Q := by
  intro h hh hf
  subst hp
  exact Go_icmp hr ht (fun hc => h1 ((zI_le ra rb).mp hc) h hh hf) (fun hc => h2 (fun q => hc ((zI_le ra rb).mpr q)) h hh hf)
theorem Gq_zle {off : Int} {aux : List Nat} {t : Nat} {a : Int} (hr : yrow M pc = some (pc, .ifCond .le off, 2, aux)) (ht : xtgt pc off = some t) (hp : pc + 3 = pc') (ra : -2147483648 ≤ a ∧ a < 2147483648) (h1 : a ≤ 0 → Gw S M t lv st H n ce sl Q) (h2 : ¬ (a ≤ 0) → Gw S M pc' lv st H n ce sl Q) : Gw S M pc lv (.int (zI a) :: st) H n ce sl Q := by
  intro h hh hf
  subst hp
  have rb : -2147483648 ≤ (0 : Int) ∧ (0 : Int) < 2147483648 := ⟨by omega, by omega⟩
  exact Go_if hr ht (fun hc => h1 ((zI_le ra rb).mp hc) h hh hf) (fun hc => h2 (fun q => hc ((zI_le ra rb).mpr q)) h hh hf)
def bI (b : Bool) : Int := if b then 1 else 0
theorem bI_t : bI true = 1 := rfl
theorem bI_f : bI false = 0 := rfl
theorem bI_r (b : Bool) : -2147483648 ≤ bI b ∧ bI b < 2147483648 := by cases b <;> exact ⟨by decide, by decide⟩
/-- a truth value is asked -/
theorem Gq_beq {off : Int} {aux : List Nat} {t : Nat} {b : Bool} (hr : yrow M pc = some (pc, .ifCond .eq off, 2, aux)) (ht : xtgt pc off = some t) (hp : pc + 3 = pc') (h1 : b = false → Gw S M t lv st H n ce sl Q) (h2 : b = true → Gw S M pc' lv st H n ce sl Q) : Gw S M pc lv (.int (zI (bI b)) :: st) H n ce sl Q := by
  refine Gq_zeq hr ht hp (bI_r b) (fun h => h1 ?_) (fun h => h2 ?_)
  · cases b
    · rfl
    · exact absurd h (by decide)
  · cases b
    · exact absurd rfl h
    · rfl
theorem Gq_bne {off : Int} {aux : List Nat} {t : Nat} {b : Bool} (hr : yrow M pc = some (pc, .ifCond .ne off, 2, aux)) (ht : xtgt pc off = some t) (hp : pc + 3 = pc') (h1 : b = true → Gw S M t lv st H n ce sl Q) (h2 : b = false → Gw S M pc' lv st H n ce sl Q) : Gw S M pc lv (.int (zI (bI b)) :: st) H n ce sl Q := by
  refine Gq_zne hr ht hp (bI_r b) (fun h => h1 ?_) (fun h => h2 ?_)
  · cases b
    · exact absurd rfl h
    · rfl
  · cases b
    · rfl
    · exact absurd h (by decide)
theorem Gq_br {i : Instr} {aux : List Nat} {t : Nat} (hr : yrow M pc = some (pc, i, 2, aux)) (hq : ∀ h : XH, xhk h = H → xbranch h pc i st [] = some [(t, st', [])]) (kk : Gw S M t lv st' H n ce sl Q) : Gw S M pc lv st H n ce sl Q := by
  intro h hh hf
  rw [Go_branch (σ := ([], h, n, ce, sl)) hr (hq h hh)]
  exact kk h hh hf
theorem xb_nul {h : XH} {off : Int} {t : Nat} {v : Value} {r : List Value} {b : Bool} (ht : xtgt pc off = some t) (hv : xnul v = some b) : xbranch h pc (.ifnull off) (v :: r) [] = some [(bif b then t else pc + 3, r, [])] := by
  show xjump pc off r (xb1 true [] (xnul v)) = _
  rw [hv]
  unfold xjump
  rw [ht]
  cases b <;> rfl
theorem xb_non {h : XH} {off : Int} {t : Nat} {v : Value} {r : List Value} {b : Bool} (ht : xtgt pc off = some t) (hv : xnul v = some b) : xbranch h pc (.ifnonnull off) (v :: r) [] = some [(bif b then pc + 3 else t, r, [])] := by
  show xjump pc off r (xb1 false [] (xnul v)) = _
  rw [hv]
  unfold xjump
  rw [ht]
  cases b <;> rfl
theorem Gq_nul_n {off : Int} {aux : List Nat} {t : Nat} (hr : yrow M pc = some (pc, .ifnull off, 2, aux)) (ht : xtgt pc off = some t) (kk : Gw S M t lv st H n ce sl Q) : Gw S M pc lv (.null :: st) H n ce sl Q := Gq_br hr (fun _ _ => xb_nul ht rfl) kk
theorem Gq_nul_r {off : Int} {aux : List Nat} {t k : Nat} (hr : yrow M pc = some (pc, .ifnull off, 2, aux)) (ht : xtgt pc off = some t) (hp : pc + 3 = pc') (kk : Gw S M pc' lv st H n ce sl Q) : Gw S M pc lv (.ref k :: st) H n ce sl Q := Gq_br hr (fun _ _ => xb_nul ht rfl) (hp ▸ kk)
theorem Gq_non_n {off : Int} {aux : List Nat} {t : Nat} (hr : yrow M pc = some (pc, .ifnonnull off, 2, aux)) (ht : xtgt pc off = some t) (hp : pc + 3 = pc') (kk : Gw S M pc' lv st H n ce sl Q) : Gw S M pc lv (.null :: st) H n ce sl Q := Gq_br hr (fun _ _ => xb_non ht rfl) (hp ▸ kk)
theorem Gq_non_r {off : Int} {aux : List Nat} {t k : Nat} (hr : yrow M pc = some (pc, .ifnonnull off, 2, aux)) (ht : xtgt pc off = some t) (kk : Gw S M t lv st H n ce sl Q) : Gw S M pc lv (.ref k :: st) H n ce sl Q := Gq_br hr (fun _ _ => xb_non ht rfl) kk
/-- two things compared -/
def rvl : Option Nat → Value
  | none => .null
  | some k => .ref k
def rvOK (H : HF) (x : Option Nat) : Prop := ∀ k, x = some k → ∃ c, H k = some c
theorem xsame_rv {h : XH} {x y : Option Nat} (hx : rvOK (xhk h) x) (hy : rvOK (xhk h) y) : xsame h (rvl x) (rvl y) = some (decide (x = y)) := by
  cases x with
  | none =>
    cases y with
    | none => rfl
    | some b => rw [decide_eq_false (fun e => by cases e)]; rfl
  | some a =>
    cases y with
    | none => rw [decide_eq_false (fun e => by cases e)]; rfl
    | some b =>
      obtain ⟨c, hc⟩ := hx a rfl
      obtain ⟨d, hd⟩ := hy b rfl
      show (bif Nat.beq a b then some true else bif xsome (xhk h a) && xsome (xhk h b) then some false else none) = _
      rw [hc, hd]
      by_cases e : a = b
      · subst e
        rw [Nat.beq_refl, decide_eq_true rfl]
        rfl
      · have hb : Nat.beq a b = false := by
          cases hb : Nat.beq a b with
          | true => exact absurd (Nat.eq_of_beq_eq_true hb) e
          | false => rfl
        rw [hb, decide_eq_false (fun q => e (Option.some.inj q))]
        rfl
theorem Gq_acne {off : Int} {aux : List Nat} {t : Nat} {v w : Value} (x y : Option Nat) (hr : yrow M pc = some (pc, .if_acmp .ne off, 2, aux)) (ht : xtgt pc off = some t) (hp : pc + 3 = pc') (hv : v = rvl x) (hw : w = rvl y) (hx : rvOK H x) (hy : rvOK H y) (h1 : ¬ x = y → Gw S M t lv st H n ce sl Q) (h2 : x = y → Gw S M pc' lv st H n ce sl Q) : Gw S M pc lv (w :: v :: st) H n ce sl Q := by
  subst hv
  subst hw
  refine Gq_br (t := bif decide (x = y) then pc' else t) (st' := st) hr (fun h hh => ?_) ?_
  · subst hh
    show xjump pc off st (xb1 false [] (xsame h (rvl x) (rvl y))) = _
    rw [xsame_rv hx hy]
    unfold xjump
    rw [ht]
    subst hp
    by_cases e : x = y
    · rw [decide_eq_true e]
      rfl
    · rw [decide_eq_false e]
      rfl
  · by_cases e : x = y
    · rw [decide_eq_true e]
      exact h2 e
    · rw [decide_eq_false e]
      exact h1 e
theorem Gq_aceq {off : Int} {aux : List Nat} {t : Nat} {v w : Value} (x y : Option Nat) (hr : yrow M pc = some (pc, .if_acmp .eq off, 2, aux)) (ht : xtgt pc off = some t) (hp : pc + 3 = pc') (hv : v = rvl x) (hw : w = rvl y) (hx : rvOK H x) (hy : rvOK H y) (h1 : x = y → Gw S M t lv st H n ce sl Q) (h2 : ¬ x = y → Gw S M pc' lv st H n ce sl Q) : Gw S M pc lv (w :: v :: st) H n ce sl Q := by
  subst hv
  subst hw
  refine Gq_br (t := bif decide (x = y) then t else pc') (st' := st) hr (fun h hh => ?_) ?_
  · subst hh
    show xjump pc off st (xb1 true [] (xsame h (rvl x) (rvl y))) = _
    rw [xsame_rv hx hy]
    unfold xjump
    rw [ht]
    subst hp
    by_cases e : x = y
    · rw [decide_eq_true e]
      rfl
    · rw [decide_eq_false e]
      rfl
  · by_cases e : x = y
    · rw [decide_eq_true e]
      exact h1 e
    · rw [decide_eq_false e]
      exact h2 e
/-- fields -/
theorem Gq_get {idx ci k o : Nat} {tl : List Nat} {fs : List Value} {v : Value} (hr : yrow M pc = some (pc, .getfield idx, 1, ci :: k :: tl)) (hp : pc + 3 = pc') (hk : H o = some (false, ci, fs)) (hv : xnth fs k = some v) (kk : Gw S M pc' lv (v :: st) H n ce sl Q) : Gw S M pc lv (.ref o :: st) H n ce sl Q := by
  intro h hh hf
  subst hh
  subst hp
  exact Go_get hr hk hv (kk h rfl hf)
theorem Gq_put {idx ci k o : Nat} {tl : List Nat} {fs fs' : List Value} {v : Value} (hr : yrow M pc = some (pc, .putfield idx, 1, ci :: k :: tl)) (hp : pc + 3 = pc') (hk : H o = some (false, ci, fs)) (hs : xset fs k v = fs') (hf : xfit (xTy ci k) v = true) (hl : Nat.ble (k + 1) fs.length = true) (kk : Gw S M pc' lv st (hup H o (false, ci, fs')) n ce sl Q) : Gw S M pc lv (v :: .ref o :: st) H n ce sl Q := by
  intro h hh hF
  subst hh
  subst hp
  subst hs
  exact Go_put hr hk hf hl (kk _ (xhs_upd hk) (Fr_upd hF hk))
theorem xfit_bI (b : Bool) : xfit .boolean (.int (zI (bI b))) = true := by cases b <;> rfl
/-- arrays: of ints, of truth values, of things -/
def aI (N : Nat) (f : Nat → Int) : List Value := (List.range N).map fun j => Value.int (zI (f j))
def aB (N : Nat) (f : Nat → Bool) : List Value := (List.range N).map fun j => Value.int (zI (bI (f j)))
def aR (N : Nat) (f : Nat → Option Nat) : List Value := (List.range N).map fun j => rvl (f j)
def fset {α : Type} (f : Nat → α) (j : Nat) (x : α) : Nat → α := fun i => if i = j then x else f i
theorem fset_eq {α : Type} (f : Nat → α) (j : Nat) (x : α) : fset f j x j = x := if_pos rfl
theorem fset_ne {α : Type} (f : Nat → α) {i j : Nat} (x : α) (h : ¬ i = j) : fset f j x i = f i := if_neg h
theorem aX_len {α : Type} (g : Nat → α) (N : Nat) : ((List.range N).map g).length = N := by rw [List.length_map, List.length_range]
theorem aX_get {α : Type} (g : Nat → α) {N j : Nat} (hj : j < N) : ((List.range N).map g)[j]? = some (g j) := by
  rw [List.getElem?_map, List.getElem?_range hj]
  rfl
theorem aX_set {α β : Type} (g : α → β) (f : Nat → α) {N j : Nat} (x : α) : ((List.range N).map fun i => g (f i)).set j (g x) = (List.range N).map fun i => g (fset f j x i) := by
  apply List.ext_getElem?
  intro i
  by_cases hi : i < N
  · rw [List.getElem?_set, aX_get _ hi, aX_get _ hi, aX_len]
    by_cases e : j = i
    · subst e
      rw [if_pos rfl, if_pos hi, fset_eq]
    · rw [if_neg e, fset_ne _ _ (fun q => e q.symm)]
  · rw [List.getElem?_eq_none (by rw [List.length_set, aX_len]; omega), List.getElem?_eq_none (by rw [aX_len]; omega)]
theorem aX_ext {α : Type} {f g : Nat → α} {N : Nat} (h : ∀ j, j < N → f j = g j) : (List.range N).map f = (List.range N).map g := List.map_congr_left fun j hj => h j (List.mem_range.mp hj)
theorem Gq_len {o ti N : Nat} {aux : List Nat} {vs : List Value} (hr : yrow M pc = some (pc, .arraylength, 1, aux)) (hp : pc + 1 = pc') (hk : H o = some (true, ti, vs)) (ht : Nat.ble ti 8 = true) (hN : vs.length = N) (kk : Gw S M pc' lv (.int (zI (N : Int)) :: st) H n ce sl Q) : Gw S M pc lv (.ref o :: st) H n ce sl Q := by
  intro h hh hf
  subst hh
  subst hp
  subst hN
  exact Go_len hr hk ht (kk h rfl hf)
theorem Gq_iald {o N j : Nat} {a : Int} {aux : List Nat} {f : Nat → Int} (hr : yrow M pc = some (pc, .iaload, 1, aux)) (hp : pc + 1 = pc') (hk : H o = some (true, 0, aI N f)) (ha : a = ((j : Nat) : Int)) (hj : j < N) (hN : N ≤ 100000) (kk : Gw S M pc' lv (.int (zI (f j)) :: st) H n ce sl Q) : Gw S M pc lv (.int (zI a) :: .ref o :: st) H n ce sl Q := by
  intro h hh hf
  subst hh
  subst hp
  subst ha
  exact Go_iald hr hk (by unfold aI; rw [aX_len]; exact hj) (by unfold aI; rw [aX_len]; omega) (aX_get _ hj) (kk h rfl hf)
theorem Gq_iast {o N j : Nat} {a x : Int} {aux : List Nat} {f : Nat → Int} (hr : yrow M pc = some (pc, .iastore, 1, aux)) (hp : pc + 1 = pc') (hk : H o = some (true, 0, aI N f)) (ha : a = ((j : Nat) : Int)) (hj : j < N) (hN : N ≤ 100000) (kk : Gw S M pc' lv st (hup H o (true, 0, aI N (fset f j x))) n ce sl Q) : Gw S M pc lv (.int (zI x) :: .int (zI a) :: .ref o :: st) H n ce sl Q := by
  intro h hh hf
  subst hh
  subst hp
  subst ha
  refine Go_iast hr hk (by unfold aI; rw [aX_len]; exact hj) (by unfold aI; rw [aX_len]; omega) (kk _ ?_ (Fr_upd hf hk))
  rw [xhs_upd hk]
  unfold aI
  rw [aX_set (fun z => Value.int (zI z))]
theorem Gq_bald {o N j : Nat} {a : Int} {aux : List Nat} {f : Nat → Bool} (hr : yrow M pc = some (pc, .baload, 1, aux)) (hp : pc + 1 = pc') (hk : H o = some (true, 1, aB N f)) (ha : a = ((j : Nat) : Int)) (hj : j < N) (hN : N ≤ 100000) (kk : Gw S M pc' lv (.int (zI (bI (f j))) :: st) H n ce sl Q) : Gw S M pc lv (.int (zI a) :: .ref o :: st) H n ce sl Q := by
  intro h hh hf
  subst hh
  subst hp
  subst ha
  show Go S M pc lv (.int (nI j) :: .ref o :: st) ([], h, n, ce, sl) Q
  rw [Go_heap hr (show xheap S (xmR M) .baload aux lv (.int (nI j) :: .ref o :: st) ([], h, n, ce, sl) = _ from xald_at (σ := ([], h, n, ce, sl)) hk rfl (by unfold aB; rw [aX_len]; exact hj) (by unfold aB; rw [aX_len]; omega) (aX_get _ hj) rfl)]
  exact kk h rfl hf
theorem Gq_bast {o N j : Nat} {a : Int} {x : Bool} {aux : List Nat} {f : Nat → Bool} (hr : yrow M pc = some (pc, .bastore, 1, aux)) (hp : pc + 1 = pc') (hk : H o = some (true, 1, aB N f)) (ha : a = ((j : Nat) : Int)) (hj : j < N) (hN : N ≤ 100000) (kk : Gw S M pc' lv st (hup H o (true, 1, aB N (fset f j x))) n ce sl Q) : Gw S M pc lv (.int (zI (bI x)) :: .int (zI a) :: .ref o :: st) H n ce sl Q := by
  intro h hh hf
  subst hh
  subst hp
  subst ha
  show Go S M pc lv (.int (zI (bI x)) :: .int (nI j) :: .ref o :: st) ([], h, n, ce, sl) Q
  rw [Go_heap hr (show xheap S (xmR M) .bastore aux lv (.int (zI (bI x)) :: .int (nI j) :: .ref o :: st) ([], h, n, ce, sl) = _ from xast_at (σ := ([], h, n, ce, sl)) hk rfl (by unfold aB; rw [aX_len]; exact hj) (by unfold aB; rw [aX_len]; omega) (by cases x <;> rfl))]
  refine kk _ ?_ (Fr_upd hf hk)
  show xhk (xhs h o _) = _
  rw [xhs_upd hk]
  unfold aB
  rw [aX_set (fun z => Value.int (zI (bI z)))]
theorem xref_rv (x : Option Nat) : xref (rvl x) = true := by cases x <;> rfl
/-- a thing out of an array: known by its function -/
theorem Gq_aald {o ti N j : Nat} {a : Int} {aux : List Nat} {f : Nat → Option Nat} {v : Value} (hr : yrow M pc = some (pc, .aaload, 1, aux)) (hp : pc + 1 = pc') (hk : H o = some (true, ti, aR N f)) (ht : (Nat.ble 3 ti && Nat.ble ti 8) = true) (ha : a = ((j : Nat) : Int)) (hj : j < N) (hN : N ≤ 100000) (hv : rvl (f j) = v) (kk : Gw S M pc' lv (v :: st) H n ce sl Q) : Gw S M pc lv (.int (zI a) :: .ref o :: st) H n ce sl Q := by
  intro h hh hf
  subst hh
  subst hp
  subst ha
  subst hv
  exact Go_aald hr hk ht (by unfold aR; rw [aX_len]; exact hj) (by unfold aR; rw [aX_len]; omega) (aX_get _ hj) (xref_rv _) (kk h rfl hf)
/-- a thing out of an array: null, or not -/
theorem Gq_aalx {o ti N j : Nat} {a : Int} {aux : List Nat} {f : Nat → Option Nat} (hr : yrow M pc = some (pc, .aaload, 1, aux)) (hp : pc + 1 = pc') (hk : H o = some (true, ti, aR N f)) (ht : (Nat.ble 3 ti && Nat.ble ti 8) = true) (ha : a = ((j : Nat) : Int)) (hj : j < N) (hN : N ≤ 100000) (h0 : f j = none → Gw S M pc' lv (.null :: st) H n ce sl Q) (h1 : ∀ k, f j = some k → Gw S M pc' lv (.ref k :: st) H n ce sl Q) : Gw S M pc lv (.int (zI a) :: .ref o :: st) H n ce sl Q := by
  refine Gq_aald hr hp hk ht ha hj hN (v := rvl (f j)) rfl ?_
  cases hx : f j with
  | none => exact h0 hx
  | some k => exact h1 k hx
/-- a thing or null, stored, loaded, asked -/
theorem rv_s {x : Option Nat} {k : Nat} (h : x = some k) : rvl x = .ref k := by rw [h]; rfl
theorem rv_n {x : Option Nat} (h : x = none) : rvl x = .null := by rw [h]; rfl
theorem xst1_ex {nL k : Nat} {v : Value} {pre ex l : XL} (hex : ex = [] ∨ ∃ w, ex = [(k, w)]) (h : xst1 nL k v pre = some l) : xst1 nL k v (pre ++ ex) = some l := by
  rcases hex with rfl | ⟨w, rfl⟩
  · rw [List.append_nil]
    exact h
  · unfold xst1 at h ⊢
    rw [List.filter_append, List.filter_cons_of_neg (by unfold xf1; simp), List.filter_nil, List.append_nil]
    exact h
theorem Gq_st1 {i : Instr} {k : Nat} {v : Value} {aux : List Nat} (hr : yrow M pc = some (pc, i, 0, aux)) (hi : ∀ lv, xsimple (xmN M) i aux lv (v :: st) = (match xst1 (xmN M) k v lv with
    | some l => some (l, st)
    | none => none)) (hp : pc + ilen i = pc') (hs : xst1 (xmN M) k v lv = some lv') (kk : Gw S M pc' lv' st H n ce sl Q) : Gw S M pc lv (v :: st) H n ce sl Q := by
  refine Gq_s hr hp (lv' := lv') (st' := st) ?_ kk
  rw [hi, hs]
theorem Gq_astv {i : Instr} {k : Nat} {x : Option Nat} {aux : List Nat} (hr : yrow M pc = some (pc, i, 0, aux)) (hi : ∀ lv st, xsimple (xmN M) i aux lv st = xstr1 xref (xmN M) k lv st) (hp : pc + ilen i = pc') (hs : xst1 (xmN M) k (rvl x) lv = some lv') (kk : Gw S M pc' lv' st H n ce sl Q) : Gw S M pc lv (rvl x :: st) H n ce sl Q := by
  refine Gq_s hr hp (lv' := lv') (st' := st) ?_ kk
  rw [hi]
  unfold xstr1
  dsimp only
  rw [xref_rv, hs]
  rfl
theorem Gq_alv {i : Instr} {k : Nat} {x : Option Nat} {aux : List Nat} (hr : yrow M pc = some (pc, i, 0, aux)) (hi : ∀ lv st, xsimple (xmN M) i aux lv st = xld xref lv st k) (hp : pc + ilen i = pc') (hl : xlk lv k = some (rvl x)) (kk : Gw S M pc' lv (rvl x :: st) H n ce sl Q) : Gw S M pc lv st H n ce sl Q := by
  refine Gq_s hr hp (lv' := lv) (st' := rvl x :: st) ?_ kk
  rw [hi]
  unfold xld
  rw [hl]
  dsimp only
  rw [xref_rv]
  rfl
theorem Gq_nulx {off : Int} {aux : List Nat} {t : Nat} {x : Option Nat} (hr : yrow M pc = some (pc, .ifnull off, 2, aux)) (ht : xtgt pc off = some t) (hp : pc + 3 = pc') (h0 : x = none → Gw S M t lv st H n ce sl Q) (h1 : ∀ k, x = some k → Gw S M pc' lv st H n ce sl Q) : Gw S M pc lv (rvl x :: st) H n ce sl Q := by
  cases x with
  | none => exact Gq_nul_n hr ht (h0 rfl)
  | some k => exact Gq_nul_r hr ht hp (h1 k rfl)
theorem Gq_nonx {off : Int} {aux : List Nat} {t : Nat} {x : Option Nat} (hr : yrow M pc = some (pc, .ifnonnull off, 2, aux)) (ht : xtgt pc off = some t) (hp : pc + 3 = pc') (h1 : ∀ k, x = some k → Gw S M t lv st H n ce sl Q) (h0 : x = none → Gw S M pc' lv st H n ce sl Q) : Gw S M pc lv (rvl x :: st) H n ce sl Q := by
  cases x with
  | none => exact Gq_non_n hr ht hp (h0 rfl)
  | some k => exact Gq_non_r hr ht (h1 k rfl)
/-- what may go into an array of type ti -/
def aOK (H : HF) (ti : Nat) (x : Option Nat) : Prop := ∀ k, x = some k → ∃ vs, H k = some ((xel ti).1, (xel ti).2, vs)
theorem Gq_aast {o ti N j : Nat} {a : Int} {aux : List Nat} {f : Nat → Option Nat} {v : Value} (x : Option Nat) (hr : yrow M pc = some (pc, .aastore, 1, aux)) (hp : pc + 1 = pc') (hk : H o = some (true, ti, aR N f)) (ht : (Nat.ble 3 ti && Nat.ble ti 8) = true) (hnu : x = none → Nat.ble ti 5 = true) (hv : v = rvl x) (hx : aOK H ti x) (ha : a = ((j : Nat) : Int)) (hj : j < N) (hN : N ≤ 100000) (kk : Gw S M pc' lv st (hup H o (true, ti, aR N (fset f j x))) n ce sl Q) : Gw S M pc lv (v :: .int (zI a) :: .ref o :: st) H n ce sl Q := by
  intro h hh hf
  subst hh
  subst hp
  subst ha
  subst hv
  have ht0 := ht
  have h3 : Nat.ble 3 ti = true := (Bool.and_eq_true _ _ ▸ ht : _ ∧ _).1
  have h8 : Nat.ble ti 8 = true := (Bool.and_eq_true _ _ ▸ ht : _ ∧ _).2
  have e : xasa (rvl x :: .int (nI j) :: .ref o :: st) ([], h, n, ce, sl) = some (st, ([], xhs h o (true, ti, (aR N f).set j (rvl x)), n, ce, sl)) := by
    cases x with
    | none =>
      show xast xref (fun ti => Nat.ble 3 ti && Nat.ble ti 5) (.null :: .int (nI j) :: .ref o :: st) ([], h, n, ce, sl) = _
      exact xast_at (σ := ([], h, n, ce, sl)) hk (by rw [h3, hnu rfl]; rfl) (by unfold aR; rw [aX_len]; exact hj) (by unfold aR; rw [aX_len]; omega) rfl
    | some q =>
      obtain ⟨vs, hq⟩ := hx q rfl
      show (match xhk h o, xhk h q with
        | some (true, ti, _), some (b, ci, _) => bif Nat.ble 3 ti && (Nat.ble ti 8 && ((b == (xel ti).1) && Nat.beq ci (xel ti).2)) then xast xref (fun tj => Nat.beq ti tj) (.ref q :: .int (nI j) :: .ref o :: st) ([], h, n, ce, sl) else none
        | _, _ => none) = _
      rw [hk, hq]
      dsimp only
      rw [h3, h8, Nat.beq_refl, beq_self_eq_true]
      exact xast_at (σ := ([], h, n, ce, sl)) hk (Nat.beq_refl ti) (by unfold aR; rw [aX_len]; exact hj) (by unfold aR; rw [aX_len]; omega) rfl
  show Go S M pc lv (rvl x :: .int (nI j) :: .ref o :: st) ([], h, n, ce, sl) Q
  rw [Go_heap hr (show xheap S (xmR M) .aastore aux lv (rvl x :: .int (nI j) :: .ref o :: st) ([], h, n, ce, sl) = _ from e)]
  refine kk _ ?_ (Fr_upd hf hk)
  show xhk (xhs h o _) = _
  rw [xhs_upd hk]
  unfold aR
  rw [aX_set rvl]
/-- things made -/
theorem Gq_new {idx ci : Nat} {tl : List Nat} {fs : List Value} {R : Room} (hr : yrow M pc = some (pc, .new idx, 1, ci :: tl)) (hp : pc + 3 = pc') (hR : xmR M = R) (hfs : xD ci = fs) (h1 : ce + 1 ≤ R.cells) (h2 : sl + xNf ci ≤ R.slots) (kk : Gw S M pc' lv (.ref n :: st) (hup H n (false, ci, fs)) (n + 1) (ce + 1) (sl + xNf ci) Q) : Gw S M pc lv st H n ce sl Q := by
  intro h hh hf
  subst hh
  subst hp
  subst hR
  subst hfs
  have e : xheap S (xmR M) (.new idx) (ci :: tl) lv st ([], h, n, ce, sl) = some (.ref n :: st, ([], h ++ [(n, (false, ci, xD ci))], n + 1, ce + 1, sl + xNf ci)) := by
    show (bif Nat.ble (ce + 1) (xmR M).cells && Nat.ble (sl + xNf ci) (xmR M).slots then some (Value.ref n :: st, (([] : XP), h ++ [(n, (false, ci, xD ci))], n + 1, ce + 1, sl + xNf ci)) else none) = _
    rw [Nat.ble_eq_true_of_le h1, Nat.ble_eq_true_of_le h2]
    rfl
  rw [Go_heap hr e]
  exact kk _ (xhk_push (hf n (Nat.le_refl _))) (Fr_new hf)
theorem xnewa_at {ti N : Nat} {tl : List Nat} {R : Room} {h : XH} (hN : N ≤ 1000) (h1 : ce + 1 ≤ R.cells) (h2 : sl + N ≤ R.slots) : xnewa R (ti :: tl) lv (.int (zI (N : Int)) :: st) ([], h, n, ce, sl) = some (.ref n :: st, ([], h ++ [(n, (true, ti, List.replicate N (xdv ti)))], n + 1, ce + 1, sl + N)) := by
  show (bif decide (nI N < 0) then none else bif Nat.ble ((nI N).toNatClampNeg) 1000 then xnew R lv st ([], h, n, ce, sl) (true, ti, List.replicate (nI N).toNatClampNeg (xdv ti)) (nI N).toNatClampNeg else none) = _
  rw [decide_eq_false (nI_pos (by omega)), nI_clamp (by omega), Nat.ble_eq_true_of_le hN]
  show (bif Nat.ble (ce + 1) R.cells && Nat.ble (sl + N) R.slots then some (Value.ref n :: st, (([] : XP), h ++ [(n, (true, ti, List.replicate N (xdv ti)))], n + 1, ce + 1, sl + N)) else none) = _
  rw [Nat.ble_eq_true_of_le h1, Nat.ble_eq_true_of_le h2]
  rfl
theorem rep_I (N : Nat) : List.replicate N (Value.int 0) = aI N (fun _ => 0) := by
  unfold aI
  rw [List.map_const', List.length_range]
  rfl
theorem rep_B (N : Nat) : List.replicate N (Value.int 0) = aB N (fun _ => false) := by
  unfold aB
  rw [List.map_const', List.length_range]
  rfl
theorem rep_R (N : Nat) : List.replicate N Value.null = aR N (fun _ => none) := by
  unfold aR
  rw [List.map_const', List.length_range]
  rfl
theorem Gq_newa {i : Instr} {ti N : Nat} {tl : List Nat} {vs : List Value} {R : Room} {a : Int} (hr : yrow M pc = some (pc, i, 1, ti :: tl)) (hi : ∀ σ : XS, xheap S (xmR M) i (ti :: tl) lv (.int (zI a) :: st) σ = xnewa (xmR M) (ti :: tl) lv (.int (zI a) :: st) σ) (hp : pc + ilen i = pc') (hR : xmR M = R) (ha : a = ((N : Nat) : Int)) (hN : N ≤ 1000) (hv : List.replicate N (xdv ti) = vs) (h1 : ce + 1 ≤ R.cells) (h2 : sl + N ≤ R.slots) (kk : Gw S M pc' lv (.ref n :: st) (hup H n (true, ti, vs)) (n + 1) (ce + 1) (sl + N) Q) : Gw S M pc lv (.int (zI a) :: st) H n ce sl Q := by
  intro h hh hf
  subst hh
  subst hp
  subst hR
  subst hv
  subst ha
  have e : xheap S (xmR M) i (ti :: tl) lv (.int (zI (N : Int)) :: st) ([], h, n, ce, sl) = some (.ref n :: st, ([], h ++ [(n, (true, ti, List.replicate N (xdv ti)))], n + 1, ce + 1, sl + N)) := by
    rw [hi, xnewa_at hN h1 h2]
  rw [Go_heap hr e]
  exact kk _ (xhk_push (hf n (Nat.le_refl _))) (Fr_new hf)
/-- an end -/
theorem Gq_ret {i : Instr} {aux : List Nat} {v : Option Value} {P : Option Value → HF → Nat → Prop} (hr : yrow M pc = some (pc, i, 4, aux)) (hc : (Nat.ble ce (xmR M).cells && Nat.ble sl (xmR M).slots) = true) (hv : xretv M.2.2.2.1 i st = some v) (hP : P v H n) : Gw S M pc lv st H n ce sl (MQe M P) := by
  intro h hh hf
  subst hh
  refine Go_end hr ⟨v, h, n, ?_, hf, hP⟩
  show (bif Nat.ble ce (xmR M).cells && Nat.ble sl (xmR M).slots then (match xretv M.2.2.2.1 i st with
      | some v => some (0, v, ([] : XP), h, n)
      | none => none) else none) = _
  rw [hc, hv]
  rfl
theorem xret_b (b : Bool) : xretv (some .boolean) .ireturn [.int (zI (bI b))] = some (some (.int (zI (bI b)))) := by cases b <;> rfl
theorem xret_o (s : String) (x : Option Nat) : xretv (some (.object s)) .areturn [rvl x] = some (some (rvl x)) := by cases x <;> rfl
/-- Object's own constructor, the greater and the smaller of two, a copy of ints -/
theorem Gq_oinit {i : Instr} {o : Nat} {aux : List Nat} (hr : yrow M pc = some (pc, i, 6, aux)) (hp : pc + 3 = pc') (hc : (Nat.ble 1 (xmR M).frames && Nat.ble (xcats st + 12) (xmR M).locals) = true) (kk : Gw S M pc' lv st H n ce sl Q) : Gw S M pc lv (.ref o :: st) H n ce sl Q := by
  intro h hh hf
  subst hp
  refine Eq.mpr (Go_step (pc' := pc + 3) (lv' := lv) (st' := st) (σ' := ([], h, n, ce, sl)) fun cf f => ?_) (kk h hh hf)
  obtain ⟨t, ht⟩ := xrun_row (S := S) (lv := lv) (st := .ref o :: st) (σ := ([], h, n, ce, sl)) (cf := cf) (f := f) hr
  rw [ht]
  show xoinit M (xrun xMs c0 S M cf f) (pc, i, 6, aux) t lv (.ref o :: st) ([], h, n, ce, sl) = _
  unfold xoinit
  dsimp only
  rw [hc]
  rfl
def ymx (mx : Nat) (x y : Int32) : Int32 := match mx with
  | 0 => if y < x then y else x
  | _ => if x < y then y else x
theorem Gq_mxn {i : Instr} {mx : Nat} {tl : List Nat} {a b c : Int} (hr : yrow M pc = some (pc, i, 10, mx :: tl)) (hp : pc + 3 = pc') (hz : ymx mx (zI a) (zI b) = zI c) (hc : (Nat.ble 1 (xmR M).frames && (Nat.ble (xcats st + 13) (xmR M).locals && (Nat.ble ce (xmR M).cells && Nat.ble sl (xmR M).slots))) = true) (kk : Gw S M pc' lv (.int (zI c) :: st) H n ce sl Q) : Gw S M pc lv (.int (zI b) :: .int (zI a) :: st) H n ce sl Q := by
  intro h hh hf
  subst hp
  refine Eq.mpr (Go_step (pc' := pc + 3) (lv' := lv) (st' := .int (zI c) :: st) (σ' := ([], h, n, ce, sl)) fun cf f => ?_) (kk h hh hf)
  obtain ⟨t, ht⟩ := xrun_row (S := S) (lv := lv) (st := .int (zI b) :: .int (zI a) :: st) (σ := ([], h, n, ce, sl)) (cf := cf) (f := f) hr
  rw [ht, ← hz]
  show xmath M (xrun xMs c0 S M cf f) (pc, i, 10, mx :: tl) t lv (.int (zI b) :: .int (zI a) :: st) ([], h, n, ce, sl) = _
  unfold xmath
  dsimp only
  rw [hc]
  cases mx <;> rfl
theorem Gq_min {i : Instr} {tl : List Nat} {a b : Int} (hr : yrow M pc = some (pc, i, 10, 0 :: tl)) (hp : pc + 3 = pc') (ra : -2147483648 ≤ a ∧ a < 2147483648) (rb : -2147483648 ≤ b ∧ b < 2147483648) (hc : (Nat.ble 1 (xmR M).frames && (Nat.ble (xcats st + 13) (xmR M).locals && (Nat.ble ce (xmR M).cells && Nat.ble sl (xmR M).slots))) = true) (kk : Gw S M pc' lv (.int (zI (min a b)) :: st) H n ce sl Q) : Gw S M pc lv (.int (zI b) :: .int (zI a) :: st) H n ce sl Q := by
  refine Gq_mxn hr hp ?_ hc kk
  show (if zI b < zI a then zI b else zI a) = _
  by_cases e : b < a
  · rw [if_pos ((zI_lt rb ra).mpr e), Int.min_eq_right (by omega)]
  · rw [if_neg (fun q => e ((zI_lt rb ra).mp q)), Int.min_eq_left (by omega)]
theorem Gq_max {i : Instr} {tl : List Nat} {a b : Int} (hr : yrow M pc = some (pc, i, 10, 1 :: tl)) (hp : pc + 3 = pc') (ra : -2147483648 ≤ a ∧ a < 2147483648) (rb : -2147483648 ≤ b ∧ b < 2147483648) (hc : (Nat.ble 1 (xmR M).frames && (Nat.ble (xcats st + 13) (xmR M).locals && (Nat.ble ce (xmR M).cells && Nat.ble sl (xmR M).slots))) = true) (kk : Gw S M pc' lv (.int (zI (max a b)) :: st) H n ce sl Q) : Gw S M pc lv (.int (zI b) :: .int (zI a) :: st) H n ce sl Q := by
  refine Gq_mxn hr hp ?_ hc kk
  show (if zI a < zI b then zI b else zI a) = _
  by_cases e : a < b
  · rw [if_pos ((zI_lt ra rb).mpr e), Int.max_eq_right (by omega)]
  · rw [if_neg (fun q => e ((zI_lt ra rb).mp q)), Int.max_eq_left (by omega)]
theorem xcpy_aI {N K d : Nat} {f g : Nat → Int} (h : d + N ≤ K) : xcpy (aI N f) (aI K g) d = aI K (fun k => if d ≤ k ∧ k < d + N then f (k - d) else g k) := by
  apply List.ext_getElem?
  intro k
  have l0 : ∀ (N : Nat) (f : Nat → Int), (aI N f).length = N := fun N f => aX_len _ _
  have g0 : ∀ (N : Nat) (f : Nat → Int) (k : Nat), k < N → (aI N f)[k]? = some (.int (zI (f k))) := fun N f k hk => aX_get _ hk
  rw [xcpy_get (by rw [l0, l0]; exact h), l0]
  by_cases hk : k < K
  · rw [g0 K _ k hk, g0 K _ k hk]
    by_cases e : d ≤ k ∧ k < d + N
    · rw [if_pos e, if_pos e, g0 N f _ (by omega)]
    · rw [if_neg e, if_neg e]
  · rw [if_neg (by omega), List.getElem?_eq_none (by rw [l0]; omega), List.getElem?_eq_none (by rw [l0]; omega)]
theorem Gq_copy {i : Instr} {a0 a N K d : Nat} {x y z : Int} {aux : List Nat} {f g : Nat → Int} (hr : yrow M pc = some (pc, i, 7, aux)) (hp : pc + 3 = pc') (h0 : H a0 = some (true, 0, aI N f)) (h1 : H a = some (true, 0, aI K g)) (hx : x = ((N : Nat) : Int)) (hy : y = ((d : Nat) : Int)) (hz : z = 0) (hd : d + N ≤ K) (hK : K ≤ 100000) (hc : (Nat.ble 1 (xmR M).frames && Nat.ble (xcats st + 60) (xmR M).locals) = true) (kk : Gw S M pc' lv st (hup H a (true, 0, aI K (fun k => if d ≤ k ∧ k < d + N then f (k - d) else g k))) n ce sl Q) : Gw S M pc lv (.int (zI x) :: .int (zI y) :: .ref a :: .int (zI z) :: .ref a0 :: st) H n ce sl Q := by
  intro h hh hf
  subst hh
  subst hp
  subst hx
  subst hy
  subst hz
  have l0 : ∀ (N : Nat) (f : Nat → Int), (aI N f).length = N := fun N f => aX_len _ _
  refine Eq.mpr (Go_step (pc' := pc + 3) (lv' := lv) (st' := st) (σ' := ([], xhs h a (true, 0, aI K (fun k => if d ≤ k ∧ k < d + N then f (k - d) else g k)), n, ce, sl)) fun cf r => ?_) (kk _ (xhs_upd h1) (Fr_upd hf h1))
  obtain ⟨t, ht⟩ := xrun_row (S := S) (lv := lv) (st := .int (nI N) :: .int (nI d) :: .ref a :: .int 0 :: .ref a0 :: st) (σ := ([], h, n, ce, sl)) (cf := cf) (f := r) hr
  have e : xcopy M (xrun xMs c0 S M cf r) (pc, i, 7, aux) t lv (.int (nI N) :: .int (nI d) :: .ref a :: .int 0 :: .ref a0 :: st) ([], h, n, ce, sl) = xrun xMs c0 S M cf r (xfind (xmC M) (pc + 3)) lv st ([], xhs h a (true, 0, aI K (fun k => if d ≤ k ∧ k < d + N then f (k - d) else g k)), n, ce, sl) := by
    unfold xcopy
    dsimp only
    rw [h0, h1]
    show (bif decide (nI N < 0) then none else bif decide (nI d < 0) then none else bif decide ((0 : Int32) = 0) && (Nat.beq (nI N).toNatClampNeg (aI N f).length && (Nat.ble ((nI d).toNatClampNeg + (aI N f).length) (aI K g).length && (Nat.ble 1 (xmR M).frames && Nat.ble (xcats st + 60) (xmR M).locals))) then xrun xMs c0 S M cf r (xnext (xmC M) t (pc + 3)) lv st ([], xhs h a (true, 0, xcpy (aI N f) (aI K g) (nI d).toNatClampNeg), n, ce, sl) else none) = _
    rw [decide_eq_false (nI_pos (show N < 2 ^ 31 by omega)), decide_eq_false (nI_pos (show d < 2 ^ 31 by omega)), nI_clamp (show N < 2 ^ 31 by omega), nI_clamp (show d < 2 ^ 31 by omega), l0, l0, Nat.beq_refl, Nat.ble_eq_true_of_le hd, hc, xcpy_aI hd]
    rfl
  rw [show zI 0 = (0 : Int32) from rfl, zI_nI, zI_nI, ht]
  exact e
/-- calls -/
theorem Gq_call {i : Instr} {mode k ci : Nat} {tl : List Nat} {Y : XM} {as rest : List Value} {P : Option Value → HF → Nat → Prop} (hr : yrow M pc = some (pc, i, 3, mode :: k :: ci :: tl)) (hY : xnth xMs k = some Y) (hp : pc + 3 = pc') (ha : (st.take (xmA Y)).reverse = as) (hd : st.drop (xmA Y) = rest)
    (hchk : (Nat.ble (xmA Y) st.length && (Nat.ble (xcats (st.drop (xmA Y))) 8 && (Nat.ble ((xmR Y).frames + 1) (xmR M).frames && (Nat.ble (8 + (xmN Y + 11) + (xmR Y).locals) (xmR M).locals && (Nat.ble (ce + (xmR Y).cells) (xmR M).cells && Nat.ble (sl + (xmR Y).slots) (xmR M).slots))))) = true)
    (hv : ∀ h : XH, xhk h = H → xrecv (xmode mode) ci as h = true)
    (hm : Rmt S k as H n P) (kk : ∀ v H' n', P v H' n' → Gw S M pc' lv (v.toList ++ rest) H' n' (ce + (xmR Y).cells) (sl + (xmR Y).slots) Q) : Gw S M pc lv st H n ce sl Q := by
  intro h hh hf
  subst hp
  subst hd
  subst ha
  obtain ⟨v, h', n', h1, h2, h3⟩ := hm h hh hf
  refine Go_call hr hY ?_ h1 (kk v _ n' h3 h' rfl h2)
  rw [hv h hh]
  revert hchk
  simp only [Bool.and_eq_true, Bool.and_true, and_imp]
  intro a1 a2 a3 a4 a5 a6
  exact ⟨a1, a2, a3, a4, a5, a6⟩
theorem xrecv_v {mode ci o : Nat} {as fs : List Value} (hmo : xmode mode = 1) (hk : H o = some (false, ci, fs)) : ∀ h : XH, xhk h = H → xrecv (xmode mode) ci (.ref o :: as) h = true := by
  intro h hh
  subst hh
  rw [hmo]
  show (match xhk h o with
    | some (false, cj, _) => Nat.beq ci cj
    | _ => false) = true
  rw [hk]
  exact Nat.beq_refl ci
/-- a call by the receiver's class -/
theorem Gq_callv {i : Instr} {mode k ci o : Nat} {tl : List Nat} {Y : XM} {as rest fs : List Value} {P : Option Value → HF → Nat → Prop} {ce' sl' : Nat} (hr : yrow M pc = some (pc, i, 3, mode :: k :: ci :: tl)) (hY : xnth xMs k = some Y) (hmo : xmode mode = 1) (hp : pc + 3 = pc') (ha : (st.take (xmA Y)).reverse = .ref o :: as) (hd : st.drop (xmA Y) = rest) (hce : ce + (xmR Y).cells = ce') (hsl : sl + (xmR Y).slots = sl')
    (hchk : (Nat.ble (xmA Y) st.length && (Nat.ble (xcats (st.drop (xmA Y))) 8 && (Nat.ble ((xmR Y).frames + 1) (xmR M).frames && (Nat.ble (8 + (xmN Y + 11) + (xmR Y).locals) (xmR M).locals && (Nat.ble (ce + (xmR Y).cells) (xmR M).cells && Nat.ble (sl + (xmR Y).slots) (xmR M).slots))))) = true)
    (hm : Rmt S k (.ref o :: as) H n P) (hk : H o = some (false, ci, fs)) (kk : ∀ v H' n', P v H' n' → Gw S M pc' lv (v.toList ++ rest) H' n' ce' sl' Q) : Gw S M pc lv st H n ce sl Q := by
  subst hce
  subst hsl
  exact Gq_call hr hY hp ha hd hchk (xrecv_v hmo hk) hm kk
/-- a static call, or a constructor's -/
theorem Gq_calls {i : Instr} {mode k ci : Nat} {tl : List Nat} {Y : XM} {as rest : List Value} {P : Option Value → HF → Nat → Prop} {ce' sl' : Nat} (hr : yrow M pc = some (pc, i, 3, mode :: k :: ci :: tl)) (hY : xnth xMs k = some Y) (hp : pc + 3 = pc') (ha : (st.take (xmA Y)).reverse = as) (hd : st.drop (xmA Y) = rest) (hce : ce + (xmR Y).cells = ce') (hsl : sl + (xmR Y).slots = sl')
    (hchk : (Nat.ble (xmA Y) st.length && (Nat.ble (xcats (st.drop (xmA Y))) 8 && (Nat.ble ((xmR Y).frames + 1) (xmR M).frames && (Nat.ble (8 + (xmN Y + 11) + (xmR Y).locals) (xmR M).locals && (Nat.ble (ce + (xmR Y).cells) (xmR M).cells && Nat.ble (sl + (xmR Y).slots) (xmR M).slots))))) = true)
    (hv : xrecv (xmode mode) ci as [] = true) (hm0 : Nat.beq (xmode mode) 1 = false)
    (hm : Rmt S k as H n P) (kk : ∀ v H' n', P v H' n' → Gw S M pc' lv (v.toList ++ rest) H' n' ce' sl' Q) : Gw S M pc lv st H n ce sl Q := by
  subst hce
  subst hsl
  refine Gq_call hr hY hp ha hd hchk (fun h _ => ?_) hm kk
  revert hv hm0
  generalize xmode mode = x
  match x, as with
  | 0, _ => intro _ _; rfl
  | 1, _ => intro _ q; cases q
  | 2, .ref _ :: _ => intro _ _; rfl
  | 2, [] => intro q; cases q
  | 2, .null :: _ => intro q; cases q
  | 2, .int _ :: _ => intro q; cases q
  | 2, .float _ :: _ => intro q; cases q
  | 2, .long _ :: _ => intro q; cases q
  | 2, .double _ :: _ => intro q; cases q
  | 2, .retAddr _ :: _ => intro q; cases q
  | _ + 3, _ => intro q; cases q
/-- a call whose answer is told -/
theorem Gq_callv1 {i : Instr} {mode k ci o : Nat} {tl : List Nat} {Y : XM} {as rest fs : List Value} {v : Option Value} {H' : HF} {n' : Nat} {ce' sl' : Nat} (hr : yrow M pc = some (pc, i, 3, mode :: k :: ci :: tl)) (hY : xnth xMs k = some Y) (hmo : xmode mode = 1) (hp : pc + 3 = pc') (ha : (st.take (xmA Y)).reverse = .ref o :: as) (hd : st.drop (xmA Y) = rest) (hce : ce + (xmR Y).cells = ce') (hsl : sl + (xmR Y).slots = sl')
    (hchk : (Nat.ble (xmA Y) st.length && (Nat.ble (xcats (st.drop (xmA Y))) 8 && (Nat.ble ((xmR Y).frames + 1) (xmR M).frames && (Nat.ble (8 + (xmN Y + 11) + (xmR Y).locals) (xmR M).locals && (Nat.ble (ce + (xmR Y).cells) (xmR M).cells && Nat.ble (sl + (xmR Y).slots) (xmR M).slots))))) = true)
    (hm : Rdt S k (.ref o :: as) H n v H' n') (hs : v.toList ++ rest = st') (hk : H o = some (false, ci, fs)) (kk : Gw S M pc' lv st' H' n' ce' sl' Q) : Gw S M pc lv st H n ce sl Q := by
  refine Gq_callv hr hY hmo hp ha hd hce hsl hchk hm hk ?_
  rintro v H' n' ⟨rfl, rfl, rfl⟩
  subst hs
  exact kk
theorem Gq_calls1 {i : Instr} {mode k ci : Nat} {tl : List Nat} {Y : XM} {as rest : List Value} {v : Option Value} {H' : HF} {n' : Nat} {ce' sl' : Nat} (hr : yrow M pc = some (pc, i, 3, mode :: k :: ci :: tl)) (hY : xnth xMs k = some Y) (hp : pc + 3 = pc') (ha : (st.take (xmA Y)).reverse = as) (hd : st.drop (xmA Y) = rest) (hce : ce + (xmR Y).cells = ce') (hsl : sl + (xmR Y).slots = sl')
    (hchk : (Nat.ble (xmA Y) st.length && (Nat.ble (xcats (st.drop (xmA Y))) 8 && (Nat.ble ((xmR Y).frames + 1) (xmR M).frames && (Nat.ble (8 + (xmN Y + 11) + (xmR Y).locals) (xmR M).locals && (Nat.ble (ce + (xmR Y).cells) (xmR M).cells && Nat.ble (sl + (xmR Y).slots) (xmR M).slots))))) = true)
    (hv : xrecv (xmode mode) ci as [] = true) (hm0 : Nat.beq (xmode mode) 1 = false)
    (hm : Rdt S k as H n v H' n') (hs : v.toList ++ rest = st') (kk : Gw S M pc' lv st' H' n' ce' sl' Q) : Gw S M pc lv st H n ce sl Q := by
  refine Gq_calls hr hY hp ha hd hce hsl hchk hv hm0 hm ?_
  rintro v H' n' ⟨rfl, rfl, rfl⟩
  subst hs
  exact kk
end
end XJ0
