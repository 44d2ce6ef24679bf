/-! the law, run -/
section XK
def xpe0 : XP := [(-2147483648, 2147483647), (-2147483648, 2147483647), (-2147483648, 2147483647), (-2147483648, 2147483647), (-2147483648, 2147483647), (-2147483648, 2147483647), (-2147483648, 2147483647), (-2147483648, 2147483647), (-2147483648, 2147483647), (0, 63)]
/-- the law's own end: 1 on the stack, within its room -/
def xgoE (lf : XLf) : Bool :=
  match lf with
  | (0, _, (_, .ireturn, _, _), _, [.int x], (_, _, _, ce, sl)) => decide (x = 1) && (Nat.ble ce 600002 && Nat.ble sl 7302232)
  | _ => false
noncomputable def xgoL (L : Nat) (pe : XP) : Bool :=
  match xrun xMs xcls (some L) xLaw (xmeth xMs xcls 12) 100000 (xfind (xmC xLaw) 0) [(0, .retAddr 0)] [] (pe, [], 0, 0, 0) with
  | some ls => ls.all xgoE
  | none => false
set_option maxRecDepth 100000 in
theorem xgo0 : xgoL 0 xpe0 = true := by decide +kernel
set_option maxRecDepth 100000 in
theorem xgo1 : xgoL 1 xpe0 = true := by decide +kernel
set_option maxRecDepth 100000 in
theorem xgo2 : xgoL 2 xpe0 = true := by decide +kernel
set_option maxRecDepth 100000 in
theorem xgo3 : xgoL 3 xpe0 = true := by decide +kernel
set_option maxRecDepth 100000 in
theorem xgo4 : xgoL 4 xpe0 = true := by decide +kernel
set_option maxRecDepth 100000 in
theorem xgo5 : xgoL 5 xpe0 = true := by decide +kernel
set_option maxRecDepth 100000 in
theorem xgo6 : xgoL 6 xpe0 = true := by decide +kernel
set_option maxRecDepth 100000 in
theorem xgo7 : xgoL 7 xpe0 = true := by decide +kernel
set_option maxRecDepth 100000 in
theorem xgo8 : xgoL 8 xpe0 = true := by decide +kernel
set_option maxRecDepth 100000 in
theorem xgo9 : xgoL 9 xpe0 = true := by decide +kernel
theorem xgo_all : ∀ L, L ≤ 9 → xgoL L xpe0 = true
  | 0, _ => xgo0
  | 1, _ => xgo1
  | 2, _ => xgo2
  | 3, _ => xgo3
  | 4, _ => xgo4
  | 5, _ => xgo5
  | 6, _ => xgo6
  | 7, _ => xgo7
  | 8, _ => xgo8
  | 9, _ => xgo9
  | n + 10, h => by omega
end XK
