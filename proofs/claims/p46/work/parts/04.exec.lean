/-! a symbolic runner of methods over the machine: values, cells, locals as data; '.float i' stands for the i-th unknown int, '.ref k' for the k-th thing made, '.retAddr _' for the law's script -/
section XE
abbrev XL : Type := List (Nat × Value)
abbrev XCl : Type := Bool × Nat × List Value
abbrev XH : Type := List (Nat × XCl)
abbrev XP : Type := List (Int × Int)
/-- pc, instruction, kind, further numbers -/
abbrev XI : Type := Nat × Instr × Nat × List Nat
/-- what is known of the unknown ints; the cells; the next thing's number; cells and slots made -/
abbrev XS : Type := XP × XH × Nat × Nat × Nat
/-- name, bytes, locals, answer, room, handlers, listing; how many arguments -/
abbrev XM : Type := MethodName × ByteArray × Nat × Option FieldType × Room × List (Nat × Nat × Nat × Nat) × List XI × Nat
/-- the end of a run in one method: kind (0 returns here, 1 throws here, 2 lets through), the exception's number, the row, locals, stack, state -/
abbrev XLf : Type := Nat × Nat × XI × XL × List Value × XS
/-- a method's end: 0 and what it answers, or 1 + the exception's number; what is known; the cells; the next number -/
abbrev XR : Type := Nat × Option Value × XP × XH × Nat

def xint : Value → Bool
  | .int _ => true
  | .float _ => true
  | _ => false
def xref : Value → Bool
  | .ref _ => true
  | .null => true
  | .retAddr _ => true
  | _ => false
def xlong : Value → Bool
  | .long _ => true
  | _ => false
def xdbl : Value → Bool
  | .double _ => true
  | _ => false
def xnth {α : Type} : List α → Nat → Option α
  | [], _ => none
  | a :: _, 0 => some a
  | _ :: t, n + 1 => xnth t n
def xlk : XL → Nat → Option Value
  | [], _ => none
  | (j, v) :: t, i => bif Nat.beq j i then some v else xlk t i
def xf1 (i : Nat) (q : Nat × Value) : Bool := !(q.1 == i) && !(q.1 + 1 == i && q.2.category == 2)
def xf2 (i : Nat) (q : Nat × Value) : Bool := !(q.1 == i) && (!(q.1 == i + 1) && !(q.1 + 1 == i && q.2.category == 2))
/-- a local's new value, in the order of the places -/
def xins (i : Nat) (v : Value) : XL → XL
  | [] => [(i, v)]
  | (j, w) :: t => bif Nat.ble i j then (i, v) :: (j, w) :: t else (j, w) :: xins i v t
def xst1 (nL i : Nat) (v : Value) (lv : XL) : Option XL := bif Nat.ble (i + 1) nL then some (xins i v (lv.filter (xf1 i))) else none
def xst2 (nL i : Nat) (v : Value) (lv : XL) : Option XL := bif Nat.ble (i + 2) nL then some (xins i v (lv.filter (xf2 i))) else none
def xld (ok : Value → Bool) (lv : XL) (st : List Value) (i : Nat) : Option (XL × List Value) :=
  match xlk lv i with
  | some v => bif ok v then some (lv, v :: st) else none
  | none => none
def xstr1 (ok : Value → Bool) (nL i : Nat) (lv : XL) : List Value → Option (XL × List Value)
  | [] => none
  | v :: r => bif ok v then (match xst1 nL i v lv with
    | some l => some (l, r)
    | none => none) else none
def xstr2 (ok : Value → Bool) (nL i : Nat) (lv : XL) : List Value → Option (XL × List Value)
  | [] => none
  | v :: r => bif ok v then (match xst2 nL i v lv with
    | some l => some (l, r)
    | none => none) else none
def xbin (f : Int32 → Int32 → Int32) (lv : XL) : List Value → Option (XL × List Value)
  | .int y :: .int x :: r => some (lv, .int (f x y) :: r)
  | _ => none
def xbil (f : Int64 → Int64 → Int64) (lv : XL) : List Value → Option (XL × List Value)
  | .long y :: .long x :: r => some (lv, .long (f x y) :: r)
  | _ => none
def xand (lv : XL) : List Value → Option (XL × List Value)
  | .int y :: .int x :: r => some (lv, .int (x &&& y) :: r)
  | _ => none
def xinc (nL i : Nat) (n : Int) (lv : XL) (st : List Value) : Option (XL × List Value) :=
  match xlk lv i with
  | some (.int x) => (match xst1 nL i (.int (x + Int32.ofInt n)) lv with
    | some l => some (l, st)
    | none => none)
  | _ => none
def xi2l (lv : XL) : List Value → Option (XL × List Value)
  | .int x :: r => some (lv, .long x.toInt64 :: r)
  | _ => none
def xlcm (lv : XL) : List Value → Option (XL × List Value)
  | .long y :: .long x :: r => some (lv, .int (lg_cmp x y) :: r)
  | _ => none
def xdcm (op : CmpOp) (lv : XL) : List Value → Option (XL × List Value)
  | .double y :: .double x :: r => some (lv, .int (Op.cmpValue (FP.dcmp x y) op) :: r)
  | _ => none
def xbinz (f : Int32 → Int32 → Int32) (lv : XL) : List Value → Option (XL × List Value)
  | .int y :: .int x :: r => bif decide (y = 0) then none else some (lv, .int (f x y) :: r)
  | _ => none
def xdup2 (lv : XL) : List Value → Option (XL × List Value)
  | v :: w :: r => bif Nat.beq v.category 1 && Nat.beq w.category 1 then some (lv, v :: w :: v :: w :: r) else none
  | _ => none
def xdupx2 (lv : XL) : List Value → Option (XL × List Value)
  | v :: w :: u :: r => bif Nat.beq v.category 1 && (Nat.beq w.category 1 && Nat.beq u.category 1) then some (lv, v :: w :: u :: v :: r) else none
  | _ => none
def xpop (lv : XL) : List Value → Option (XL × List Value)
  | v :: r => bif Nat.beq v.category 1 then some (lv, r) else none
  | _ => none
def xdup (lv : XL) : List Value → Option (XL × List Value)
  | v :: r => bif Nat.beq v.category 1 then some (lv, v :: v :: r) else none
  | _ => none
def xdupx (lv : XL) : List Value → Option (XL × List Value)
  | v :: w :: r => bif Nat.beq v.category 1 && Nat.beq w.category 1 then some (lv, v :: w :: v :: r) else none
  | _ => none
/-- the instructions' lengths -/
def ilen : Instr → Nat
  | .bipush _ | .newarray _ | .iload _ | .lload _ | .aload _ | .dload _ | .istore _ | .lstore _ | .astore _ | .dstore _ | .ldc _ => 2
  | .sipush _ | .goto _ | .ifCond _ _ | .if_icmp _ _ | .if_acmp _ _ | .ifnull _ | .ifnonnull _ | .iinc _ _ | .ldc2_w _ | .ldc_w _ | .getfield _ | .putfield _ | .new _ | .anewarray _ | .invokevirtual _ | .invokespecial _ | .invokestatic _ => 3
  | .multianewarray _ _ => 4
  | _ => 1
def xsimple (nL : Nat) (i : Instr) (aux : List Nat) (lv : XL) (st : List Value) : Option (XL × List Value) :=
  match i with
  | .iconst n => some (lv, .int (Int32.ofInt n) :: st)
  | .bipush n => some (lv, .int (Int8.ofInt n).toInt32 :: st)
  | .sipush n => some (lv, .int (Int16.ofInt n).toInt32 :: st)
  | .aconst_null => some (lv, .null :: st)
  | .dconst d => bif Nat.beq d.val 0 then some (lv, .double FP.dconst0 :: st) else none
  | .ldc2_w _ => (match aux with
    | a :: _ => some (lv, .long (Int64.ofNat a) :: st)
    | [] => none)
  | .ldc _ => (match aux with
    | a :: _ => some (lv, .int (Int32.ofNat a) :: st)
    | [] => none)
  | .iload k => xld xint lv st k
  | .iload_n k => xld xint lv st k.val
  | .lload k => xld xlong lv st k
  | .lload_n k => xld xlong lv st k.val
  | .dload k => xld xdbl lv st k
  | .aload k => xld xref lv st k
  | .aload_n k => xld xref lv st k.val
  | .istore k => xstr1 xint nL k lv st
  | .istore_n k => xstr1 xint nL k.val lv st
  | .astore k => xstr1 xref nL k lv st
  | .astore_n k => xstr1 xref nL k.val lv st
  | .lstore k => xstr2 xlong nL k lv st
  | .lstore_n k => xstr2 xlong nL k.val lv st
  | .dstore k => xstr2 xdbl nL k lv st
  | .iinc k n => xinc nL k n lv st
  | .iadd => xbin (fun x y => x + y) lv st
  | .isub => xbin (fun x y => x - y) lv st
  | .imul => xbin (fun x y => x * y) lv st
  | .ishl => xbin (fun x y => x <<< (y &&& 31)) lv st
  | .ishr => xbin (fun x y => x >>> (y &&& 31)) lv st
  | .iand => xand lv st
  | .i2l => xi2l lv st
  | .ladd => xbil (fun x y => x + y) lv st
  | .lmul => xbil (fun x y => x * y) lv st
  | .lcmp => xlcm lv st
  | .dcmp op => xdcm op lv st
  | .dup => xdup lv st
  | .dup_x1 => xdupx lv st
  | .ior => xbin (fun x y => x ||| y) lv st
  | .ixor => xbin (fun x y => x ^^^ y) lv st
  | .idiv => xbinz (fun x y => x / y) lv st
  | .irem => xbinz (fun x y => x - x / y * y) lv st
  | .dup2 => xdup2 lv st
  | .dup_x2 => xdupx2 lv st
  | .pop => xpop lv st
  | _ => none

/-! cells -/
def xhk : XH → Nat → Option XCl
  | [], _ => none
  | (j, c) :: t, i => bif Nat.beq j i then some c else xhk t i
def xhs : XH → Nat → XCl → XH
  | [], _, _ => []
  | (j, c) :: t, i, d => bif Nat.beq j i then (j, d) :: t else (j, c) :: xhs t i d
def xset : List Value → Nat → Value → List Value
  | [], _, _ => []
  | _ :: t, 0, v => v :: t
  | a :: t, n + 1, v => a :: xset t n v
/-- speaks of things below n only -/
def xov (n : Nat) : Value → Bool
  | .ref k => Nat.ble (k + 1) n
  | _ => true
def xoS (n : Nat) (st : List Value) : Bool := st.all (xov n)
def xoL (n : Nat) (l : XL) : Bool := l.all (fun q => xov n q.2)
def xoH (n : Nat) (h : XH) : Bool := h.all (fun q => Nat.ble (q.1 + 1) n && xoS n q.2.2.2)
def xal (n : Nat) (lv : XL) (st : List Value) (h : XH) : Bool := xoL n lv && (xoS n st && xoH n h)
def xTy : Nat → Nat → FieldType
  | 0 => xY0
  | 1 => xY1
  | 2 => xY2
  | 3 => xY3
  | 4 => xY4
  | 5 => xY5
  | 6 => xY6
  | 7 => xY7
  | 8 => xY8
  | 9 => xY9
  | 10 => xY10
  | _ => xY11
def xNf : Nat → Nat
  | 0 => 4
  | 1 => 4
  | 2 => 2
  | 3 => 3
  | 4 => 6
  | 5 => 11
  | 6 => 2
  | 7 => 13
  | 8 => 5
  | 9 => 2
  | 10 => 8
  | _ => 13
def xD (ci : Nat) : List Value := (List.range (xNf ci)).map (fun k => defaultValue (xTy ci k))
def xfit : FieldType → Value → Bool
  | .int, .int _ => true
  | .int, .float _ => true
  | .boolean, .int x => decide (x = 0) || decide (x = 1)
  | .object _, v => xref v
  | .array _, v => xref v
  | _, _ => false
/-- the arrays' types -/
def xty : Nat → FieldType
  | 0 => .int
  | 1 => .boolean
  | 2 => .byte
  | 3 => .object "PackWright$Version"
  | 4 => .object "PackWright$Pack"
  | 5 => .object "PackWright$Claim"
  | 6 => .array .int
  | 7 => .array .boolean
  | _ => .array (.array .int)
def xdv : Nat → Value
  | 0 => .int 0
  | 1 => .int 0
  | 2 => .int 0
  | _ => .null
def xget (aux : List Nat) (st : List Value) (σ : XS) : Option (List Value × XS) :=
  match aux, st with
  | ci :: k :: _, .ref o :: r => (match xhk σ.2.1 o with
    | some (false, cj, fs) => bif Nat.beq ci cj then (match xnth fs k with
      | some v => some (v :: r, σ)
      | none => none) else none
    | _ => none)
  | _, _ => none
def xput (aux : List Nat) (st : List Value) (σ : XS) : Option (List Value × XS) :=
  match aux, st with
  | ci :: k :: _, v :: .ref o :: r => (match xhk σ.2.1 o with
    | some (false, cj, fs) => bif Nat.beq ci cj && (xfit (xTy ci k) v && Nat.ble (k + 1) fs.length) then some (r, (σ.1, xhs σ.2.1 o (false, cj, xset fs k v), σ.2.2)) else none
    | _ => none)
  | _, _ => none
/-- one thing more -/
def xnew (R : Room) (lv : XL) (r : List Value) (σ : XS) (c : XCl) (ns : Nat) : Option (List Value × XS) :=
  match σ with
  | (pe, h, n, ce, sl) => bif Nat.ble (ce + 1) R.cells && Nat.ble (sl + ns) R.slots then some (.ref n :: r, (pe, h ++ [(n, c)], n + 1, ce + 1, sl + ns)) else none
def xnewo (R : Room) (aux : List Nat) (lv : XL) (st : List Value) (σ : XS) : Option (List Value × XS) :=
  match aux with
  | ci :: _ => xnew R lv st σ (false, ci, xD ci) (xNf ci)
  | [] => none
def xnewa (R : Room) (aux : List Nat) (lv : XL) (st : List Value) (σ : XS) : Option (List Value × XS) :=
  match aux, st with
  | ti :: _, .int c :: r => bif decide (c < 0) then none else bif Nat.ble (c.toNatClampNeg) 1000 then xnew R lv r σ (true, ti, List.replicate c.toNatClampNeg (xdv ti)) c.toNatClampNeg else none
  | _, _ => none
/-- rows of an array of arrays: n to n + N - 1 -/
def xrefw (n w : Nat) : Nat → List Value
  | 0 => []
  | N + 1 => .ref n :: xrefw (n + w) w N
def xrows (n : Nat) (c : XCl) : Nat → XH
  | 0 => []
  | N + 1 => (n, c) :: xrows (n + 1) c N
/-- new T[N][K]: the outer array n, its rows behind it -/
def xnewm2 (R : Room) (aux : List Nat) (st : List Value) (σ : XS) : Option (List Value × XS) :=
  match aux, st, σ with
  | to :: ti :: _, .int k :: .int m :: r, (pe, h, n, ce, sl) => bif decide (k < 0) || decide (m < 0) then none else bif Nat.ble k.toNatClampNeg 1000 && (Nat.ble m.toNatClampNeg 1000 && (Nat.ble (ce + (1 + m.toNatClampNeg)) R.cells && Nat.ble (sl + (m.toNatClampNeg + m.toNatClampNeg * k.toNatClampNeg)) R.slots))
    then some (.ref n :: r, (pe, h ++ ((n, (true, to, xrefw (n + 1) 1 m.toNatClampNeg)) :: xrows (n + 1) (true, ti, List.replicate k.toNatClampNeg (xdv ti)) m.toNatClampNeg), n + 1 + m.toNatClampNeg, ce + (1 + m.toNatClampNeg), sl + (m.toNatClampNeg + m.toNatClampNeg * k.toNatClampNeg))) else none
  | _, _, _ => none
/-- new int[N][M][0]: the outer array n; then each row with its own rows behind it -/
def xgrid (n M : Nat) : Nat → XH
  | 0 => []
  | N + 1 => ((n, (true, 6, xrefw (n + 1) 1 M)) :: xrows (n + 1) (true, 0, []) M) ++ xgrid (n + (1 + M)) M N
def xnewm3 (R : Room) (st : List Value) (σ : XS) : Option (List Value × XS) :=
  match st, σ with
  | .int z :: .int k :: .int m :: r, (pe, h, n, ce, sl) => bif decide (z = 0) && (!decide (k < 0) && (!decide (m < 0) && (Nat.ble k.toNatClampNeg 1000 && (Nat.ble m.toNatClampNeg 1000 && (Nat.ble (ce + (1 + m.toNatClampNeg * (1 + k.toNatClampNeg))) R.cells && Nat.ble (sl + (m.toNatClampNeg + m.toNatClampNeg * k.toNatClampNeg)) R.slots)))))
    then some (.ref n :: r, (pe, h ++ ((n, (true, 8, xrefw (n + 1) (1 + k.toNatClampNeg) m.toNatClampNeg)) :: xgrid (n + 1) k.toNatClampNeg m.toNatClampNeg), n + 1 + m.toNatClampNeg * (1 + k.toNatClampNeg), ce + (1 + m.toNatClampNeg * (1 + k.toNatClampNeg)), sl + (m.toNatClampNeg + m.toNatClampNeg * k.toNatClampNeg))) else none
  | _, _ => none
def xlen (scr : Option (Nat × (Nat → Int32))) (st : List Value) (σ : XS) : Option (List Value × XS) :=
  match st with
  | .ref o :: r => (match xhk σ.2.1 o with
    | some (true, ti, vs) => bif Nat.ble ti 8 then some (.int (Int32.ofNat vs.length) :: r, σ) else none
    | _ => none)
  | .retAddr _ :: r => (match scr with
    | some (L, _) => some (.int (Int32.ofNat L) :: r, σ)
    | none => none)
  | _ => none
/-- the place that an index names -/
def xix (i : Int32) (n : Nat) : Option Nat := bif decide (i < 0) then none else bif Nat.ble (i.toNatClampNeg + 1) n then some i.toNatClampNeg else none
def xald (ok : Value → Bool) (oti : Nat → Bool) (st : List Value) (σ : XS) : Option (List Value × XS) :=
  match st with
  | .int i :: .ref o :: r => (match xhk σ.2.1 o with
    | some (true, ti, vs) => bif oti ti then (match xix i vs.length with
      | some j => (match xnth vs j with
        | some v => bif ok v then some (v :: r, σ) else none
        | none => none)
      | none => none) else none
    | _ => none)
  | _ => none
def xild (scr : Option (Nat × (Nat → Int32))) (st : List Value) (σ : XS) : Option (List Value × XS) :=
  match st with
  | .int i :: .retAddr _ :: r => (match scr with
    | some (L, ys) => (match xix i L with
      | some j => some (.int (ys j) :: r, σ)
      | none => none)
    | none => none)
  | st => xald xint (fun ti => Nat.beq ti 0) st σ
def xast (ok : Value → Bool) (oti : Nat → Bool) (st : List Value) (σ : XS) : Option (List Value × XS) :=
  match st with
  | v :: .int i :: .ref o :: r => (match xhk σ.2.1 o with
    | some (true, ti, vs) => bif oti ti && ok v then (match xix i vs.length with
      | some j => some (r, (σ.1, xhs σ.2.1 o (true, ti, xset vs j v), σ.2.2))
      | none => none) else none
    | _ => none)
  | _ => none
/-- what an array's elements are: objects of a class, by its number in 'classes', or arrays of a type -/
def xel : Nat → Bool × Nat
  | 3 => (false, 10)
  | 4 => (false, 3)
  | 5 => (false, 8)
  | 6 => (true, 0)
  | 7 => (true, 1)
  | 8 => (true, 6)
  | _ => (false, 99)
def xasa (st : List Value) (σ : XS) : Option (List Value × XS) :=
  match st with
  | .null :: _ => xast xref (fun ti => Nat.ble 3 ti && Nat.ble ti 5) st σ
  | .ref q :: _ :: .ref o :: _ => (match xhk σ.2.1 o, xhk σ.2.1 q with
    | some (true, ti, _), some (b, ci, _) => bif Nat.ble 3 ti && (Nat.ble ti 8 && ((b == (xel ti).1) && Nat.beq ci (xel ti).2)) then xast xref (fun tj => Nat.beq ti tj) st σ else none
    | _, _ => none)
  | _ => none
def xbool : Value → Bool
  | .int x => decide (x = 0) || decide (x = 1)
  | _ => false
def xheap (scr : Option (Nat × (Nat → Int32))) (R : Room) (i : Instr) (aux : List Nat) (lv : XL) (st : List Value) (σ : XS) : Option (List Value × XS) :=
  match i with
  | .getfield _ => xget aux st σ
  | .putfield _ => xput aux st σ
  | .new _ => xnewo R aux lv st σ
  | .newarray _ => xnewa R aux lv st σ
  | .anewarray _ => xnewa R aux lv st σ
  | .multianewarray _ d => bif Nat.beq d 2 then xnewm2 R aux st σ else bif Nat.beq d 3 then xnewm3 R st σ else none
  | .arraylength => xlen scr st σ
  | .iaload => xild scr st σ
  | .baload => xald xint (fun ti => Nat.beq ti 1) st σ
  | .aaload => xald xref (fun ti => Nat.ble 3 ti && Nat.ble ti 8) st σ
  | .iastore => xast xint (fun ti => Nat.beq ti 0) st σ
  | .bastore => xast xbool (fun ti => Nat.beq ti 1) st σ
  | .aastore => xasa st σ
  | _ => none

/-! branches -/
def xprop (c : ClassFile.Cond) (x y : Int32) : Bool :=
  match c with
  | .eq => decide (x = y)
  | .ne => !decide (x = y)
  | .lt => decide (x < y)
  | .ge => decide (y ≤ x)
  | .gt => decide (y < x)
  | .le => decide (x ≤ y)
def xflip : ClassFile.Cond → ClassFile.Cond
  | .eq => .eq
  | .ne => .ne
  | .lt => .gt
  | .ge => .le
  | .gt => .lt
  | .le => .ge
def xpset : XP → Nat → Int × Int → XP
  | [], _, _ => []
  | _ :: t, 0, v => v :: t
  | a :: t, n + 1, v => a :: xpset t n v
def xmn (a b : Int) : Int := bif decide (a ≤ b) then a else b
def xmx (a b : Int) : Int := bif decide (a ≤ b) then b else a
def xone (pe : XP) (u : Nat) (b : Bool) (q : Int × Int) : List (Bool × XP) := bif decide (q.1 ≤ q.2) then [(b, xpset pe u q)] else []
/-- x below k, and not -/
def xcut (pe : XP) (u : Nat) (q : Int × Int) (k : Int) (b : Bool) : List (Bool × XP) := xone pe u b (q.1, xmn q.2 (k - 1)) ++ xone pe u (!b) (xmx q.1 k, q.2)
def xcutE (pe : XP) (u : Nat) (q : Int × Int) (k : Int) (b : Bool) : List (Bool × XP) :=
  xone pe u b (xmx q.1 k, xmn q.2 k) ++ xone pe u (!b) (bif decide (q.1 = k) then (q.1 + 1, q.2) else bif decide (q.2 = k) then (q.1, q.2 - 1) else q)
def xsplit (pe : XP) (u : Nat) (c : ClassFile.Cond) (k : Int) : Option (List (Bool × XP)) :=
  match xnth pe u with
  | none => none
  | some q => some (match c with
    | .lt => xcut pe u q k true
    | .ge => xcut pe u q k false
    | .le => xcut pe u q (k + 1) true
    | .gt => xcut pe u q (k + 1) false
    | .eq => xcutE pe u q k true
    | .ne => xcutE pe u q k false)
def xbrs (c : ClassFile.Cond) (a b : Value) (pe : XP) : Option (List (Bool × XP)) :=
  match a, b with
  | .int x, .int y => some [(xprop c x y, pe)]
  | .float u, .int y => xsplit pe u.toNat c y.toInt
  | .int x, .float u => xsplit pe u.toNat (xflip c) x.toInt
  | _, _ => none
def xtgt (pc : Nat) (off : Int) : Option Nat :=
  match (pc : Int) + off with
  | .ofNat k => some k
  | .negSucc _ => none
def xtwo (t nx : Nat) (r : List Value) (l : List (Bool × XP)) : List (Nat × List Value × XP) := l.map fun q => (bif q.1 then t else nx, r, q.2)
def xjump (pc : Nat) (off : Int) (r : List Value) (o : Option (List (Bool × XP))) : Option (List (Nat × List Value × XP)) :=
  match xtgt pc off, o with
  | some t, some l => some (xtwo t (pc + 3) r l)
  | _, _ => none
/-- known to be null, known not to be -/
def xnul : Value → Option Bool
  | .null => some true
  | .ref _ => some false
  | .retAddr _ => some false
  | _ => none
def xsome {α : Type} : Option α → Bool
  | some _ => true
  | none => false
def xsame (h : XH) : Value → Value → Option Bool
  | .null, .null => some true
  | .ref _, .null => some false
  | .null, .ref _ => some false
  | .ref a, .ref b => bif Nat.beq a b then some true else bif xsome (xhk h a) && xsome (xhk h b) then some false else none
  | _, _ => none
def xb1 (b : Bool) (pe : XP) : Option Bool → Option (List (Bool × XP))
  | some t => some [(t == b, pe)]
  | none => none
/-- the switch's target for v -/
def xsel (pc : Nat) (dflt low high : Int) (offs : Array Int) (v : Int) : Option Nat :=
  bif decide (v < low) || decide (high < v) then xtgt pc dflt else (match xnth offs.toList (v - low).toNat with
    | some off => xtgt pc off
    | none => none)
/-- the switch's targets for an int between lo and lo + n -/
def xsw (pc : Nat) (dflt low high : Int) (offs : Array Int) (r : List Value) (pv : Int → XP) (lo : Int) : Nat → Option (List (Nat × List Value × XP))
  | 0 => some []
  | n + 1 =>
    match xsel pc dflt low high offs lo, xsw pc dflt low high offs r pv (lo + 1) n with
    | some t, some l => some ((t, r, pv lo) :: l)
    | _, _ => none
/-- lengths, the switch's too -/
def xil (pc : Nat) (i : Instr) : Nat :=
  match i with
  | .tableswitch _ _ _ offs => 1 + (3 - pc % 4) + 12 + 4 * offs.size
  | i => ilen i
def xbranch (h : XH) (pc : Nat) (i : Instr) (st : List Value) (pe : XP) : Option (List (Nat × List Value × XP)) :=
  match i with
  | .goto off => (match xtgt pc off with
    | some t => some [(t, st, pe)]
    | none => none)
  | .if_icmp c off => (match st with
    | b :: a :: r => xjump pc off r (xbrs c a b pe)
    | _ => none)
  | .ifCond c off => (match st with
    | a :: r => xjump pc off r (xbrs c a (.int 0) pe)
    | _ => none)
  | .ifnull off => (match st with
    | a :: r => xjump pc off r (xb1 true pe (xnul a))
    | _ => none)
  | .ifnonnull off => (match st with
    | a :: r => xjump pc off r (xb1 false pe (xnul a))
    | _ => none)
  | .if_acmp c off => (match st with
    | b :: a :: r => xjump pc off r (xb1 (match c with
      | .eq => true
      | .ne => false) pe (xsame h a b))
    | _ => none)
  | .tableswitch dflt low high offs => (match st with
    | .int x :: r => xsw pc dflt low high offs r (fun _ => pe) x.toInt 1
    | .float u :: r => (match xnth pe u.toNat with
      | some q => xsw pc dflt low high offs r (fun v => xpset pe u.toNat (v, v)) q.1 (q.2 + 1 - q.1).toNat
      | none => none)
    | _ => none)
  | _ => none

/-! runs -/
def xfind : List XI → Nat → List XI
  | [], _ => []
  | e :: t, pc => bif Nat.beq e.1 pc then e :: t else xfind t pc
/-- the rows from pc on -/
def xnext (code _t : List XI) (pc : Nat) : List XI := xfind code pc
def xall {α β : Type} (f : α → Option (List β)) : List α → Option (List β)
  | [] => some []
  | a :: l => match f a with
    | none => none
    | some r => match xall f l with
      | none => none
      | some q => some (r ++ q)
def xcats (st : List Value) : Nat := (st.map fun v => v.category).sum
abbrev XCf : Type := Nat → List Value → XP → XH → Nat → Option (List XR)
abbrev XGo : Type := List XI → XL → List Value → XS → Option (List XLf)
def xmN (M : XM) : Nat := M.2.2.1
def xmR (M : XM) : Room := M.2.2.2.2.1
def xmT (M : XM) : List (Nat × Nat × Nat × Nat) := M.2.2.2.2.2.1
def xmC (M : XM) : List XI := M.2.2.2.2.2.2.1
def xmA (M : XM) : Nat := M.2.2.2.2.2.2.2
/-- the receiver: of class ci where the call is by the object's class -/
def xrecv (mode ci : Nat) (args : List Value) (h : XH) : Bool :=
  match mode, args with
  | 0, _ => true
  | 1, .ref o :: _ => (match xhk h o with
    | some (false, cj, _) => Nat.beq ci cj
    | _ => false)
  | 2, .ref _ :: _ => true
  | _, _ => false
def xback (cls : Nat → Nat) (M Y : XM) (ih : XGo) (e : XI) (t : List XI) (lv : XL) (rest : List Value) (ce sl : Nat) (q : XR) : Option (List XLf) :=
  match q with
  | (0, v, pe, h, n) => ih (xnext (xmC M) t (e.1 + 3)) lv (v.toList ++ rest) (pe, h, n, ce + (xmR Y).cells, sl + (xmR Y).slots)
  | _ => none
/-- how a call is made: 0 static, 1 by the receiver's class, 2 a constructor -/
def xmode : Nat → Nat
  | 0 => 0
  | 1 => 1
  | 2 => 2
  | 3 => 2
  | 4 => 0
  | 5 => 1
  | _ => 0
def xcall (Ms : List XM) (cls : Nat → Nat) (M : XM) (cf : XCf) (ih : XGo) (e : XI) (t : List XI) (lv : XL) (st : List Value) (σ : XS) : Option (List XLf) :=
  match e.2.2.2, σ with
  | mode :: k :: ci :: _, (pe, h, n, ce, sl) => (match xnth Ms k with
    | none => none
    | some Y =>
      bif Nat.ble (xmA Y) st.length && (Nat.ble (xcats (st.drop (xmA Y))) 8 && (Nat.ble ((xmR Y).frames + 1) (xmR M).frames && (Nat.ble (8 + (xmN Y + 11) + (xmR Y).locals) (xmR M).locals && (Nat.ble (ce + (xmR Y).cells) (xmR M).cells && (Nat.ble (sl + (xmR Y).slots) (xmR M).slots && xrecv (xmode mode) ci (st.take (xmA Y)).reverse h))))) then
        (match cf k (st.take (xmA Y)).reverse pe h n with
        | some ls => xall (xback cls M Y ih e t lv (st.drop (xmA Y)) ce sl) ls
        | none => none)
      else none)
  | _, _ => none
def xoinit (M : XM) (ih : XGo) (e : XI) (t : List XI) (lv : XL) (st : List Value) (σ : XS) : Option (List XLf) :=
  match st with
  | .ref _ :: r => bif Nat.ble 1 (xmR M).frames && Nat.ble (xcats r + 12) (xmR M).locals then ih (xnext (xmC M) t (e.1 + 3)) lv r σ else none
  | _ => none
/-- all of v0 laid into v1 from place d on -/
def xcpy (v0 v1 : List Value) (d : Nat) : List Value := v1.take d ++ (v0 ++ v1.drop (d + v0.length))
def xcopy (M : XM) (ih : XGo) (e : XI) (t : List XI) (lv : XL) (st : List Value) (σ : XS) : Option (List XLf) :=
  match st with
  | .int n :: .int dp :: .ref a :: .int sp :: .ref a0 :: r => (match xhk σ.2.1 a0, xhk σ.2.1 a with
    | some (true, 0, v0), some (true, 0, v1) =>
      bif decide (n < 0) then none else bif decide (dp < 0) then none else bif decide (sp = 0) && (Nat.beq n.toNatClampNeg v0.length && (Nat.ble (dp.toNatClampNeg + v0.length) v1.length && (Nat.ble 1 (xmR M).frames && Nat.ble (xcats r + 60) (xmR M).locals))) then ih (xnext (xmC M) t (e.1 + 3)) lv r (σ.1, xhs σ.2.1 a (true, 0, xcpy v0 v1 dp.toNatClampNeg), σ.2.2) else none
    | _, _ => none)
  | _ => none
def xmath (M : XM) (ih : XGo) (e : XI) (t : List XI) (lv : XL) (st : List Value) (σ : XS) : Option (List XLf) :=
  match e.2.2.2, st with
  | mx :: _, .int y :: .int x :: r => bif Nat.ble 1 (xmR M).frames && (Nat.ble (xcats r + 13) (xmR M).locals && (Nat.ble σ.2.2.2.1 (xmR M).cells && Nat.ble σ.2.2.2.2 (xmR M).slots)) then
      ih (xnext (xmC M) t (e.1 + 3)) lv (.int (match mx with
        | 0 => if y < x then y else x
        | _ => if x < y then y else x) :: r) σ else none
  | _, _ => none
def xbody (Ms : List XM) (cls : Nat → Nat) (scr : Option (Nat × (Nat → Int32))) (M : XM) (cf : XCf) (ih : XGo) : XGo := fun cur lv st σ =>
  match cur with
  | [] => none
  | e :: t => (match e.2.2.1 with
    | 0 => (match xsimple (xmN M) e.2.1 e.2.2.2 lv st with
      | some q => ih (xnext (xmC M) t (e.1 + ilen e.2.1)) q.1 q.2 σ
      | none => none)
    | 1 => (match xheap scr (xmR M) e.2.1 e.2.2.2 lv st σ with
      | some q => ih (xnext (xmC M) t (e.1 + ilen e.2.1)) lv q.1 q.2
      | none => none)
    | 2 => (match xbranch σ.2.1 e.1 e.2.1 st σ.1 with
      | some l => xall (fun q : Nat × List Value × XP => ih (xfind (xmC M) q.1) lv q.2.1 (q.2.2, σ.2)) l
      | none => none)
    | 3 => xcall Ms cls M cf ih e t lv st σ
    | 4 => some [(0, 0, e, lv, st, σ)]
    | 6 => xoinit M ih e t lv st σ
    | 7 => xcopy M ih e t lv st σ
    | 9 => some [(3, 0, e, lv, st, σ)]
    | 10 => xmath M ih e t lv st σ
    | _ => none)
noncomputable def xrun (Ms : List XM) (cls : Nat → Nat) (scr : Option (Nat × (Nat → Int32))) (M : XM) (cf : XCf) (f : Nat) : XGo :=
  Nat.rec (motive := fun _ => XGo) (fun _ _ _ _ => none) (fun _ ih => xbody Ms cls scr M cf ih) f
/-- what a method hands back -/
def xretv (ret : Option FieldType) (i : Instr) (st : List Value) : Option (Option Value) :=
  match ret, i, st with
  | none, .return_, [] => some none
  | some .int, .ireturn, [v] => bif xint v then some (some v) else none
  | some .boolean, .ireturn, [.int x] => bif decide (x = 0) || decide (x = 1) then some (some (.int x)) else none
  | some .long, .lreturn, [v] => bif xlong v then some (some v) else none
  | some .double, .dreturn, [v] => bif xdbl v then some (some v) else none
  | some (.object _), .areturn, [v] => bif xref v then some (some v) else none
  | some (.array _), .areturn, [v] => bif xref v then some (some v) else none
  | _, _, _ => none
def xnil : List (Nat × Nat × Nat × Nat) → Bool
  | [] => true
  | _ => false
def xend (M : XM) (q : XLf) : Option XR :=
  match q with
  | (0, _, e, _, st, (pe, h, n, ce, sl)) => bif Nat.ble ce (xmR M).cells && Nat.ble sl (xmR M).slots then (match xretv M.2.2.2.1 e.2.1 st with
    | some v => some (0, v, pe, h, n)
    | none => none) else none
  | _ => none
def xends (M : XM) : List XLf → Option (List XR)
  | [] => some []
  | q :: l => match xend M q, xends M l with
    | some r, some rs => some (r :: rs)
    | _, _ => none
noncomputable def xmeth (Ms : List XM) (cls : Nat → Nat) (scr : Option (Nat × (Nat → Int32))) (F : Nat) (d : Nat) : XCf :=
  Nat.rec (motive := fun _ => XCf) (fun _ _ _ _ _ => none) (fun _ cf k args pe h n =>
    match xnth Ms k with
    | none => none
    | some M => bif Nat.ble (xcats args) (xmN M) then (match xrun Ms cls scr M cf F (xfind (xmC M) 0) (lv_args 0 args) [] (pe, h, n, 0, 0) with
      | some ls => xends M ls
      | none => none) else none) d
end XE
