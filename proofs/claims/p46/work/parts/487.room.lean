/-! rules where the charges are not known as numbers (own text, wip/p46/gen487.py) -/
section XKx
variable {S : ScT} {M : XM} {pc pc' : Nat} {lv lv' : XL} {st st' : List Value} {H : HF} {n ce sl : Nat} {Q : XLf → Prop}
theorem chk_A {Y : XM} {cY sY cM sM : Nat} (h4 : (Nat.ble (xmA Y) st.length && (Nat.ble (xcats (st.drop (xmA Y))) 8 && (Nat.ble ((xmR Y).frames + 1) (xmR M).frames && Nat.ble (8 + (xmN Y + 11) + (xmR Y).locals) (xmR M).locals))) = true) (e1 : (xmR Y).cells = cY) (e2 : (xmR Y).slots = sY) (e3 : (xmR M).cells = cM) (e4 : (xmR M).slots = sM) (h1 : ce + cY ≤ cM) (h2 : sl + sY ≤ sM) :
    (Nat.ble (xmA Y) st.length && (Nat.ble (xcats (st.drop (xmA Y))) 8 && (Nat.ble ((xmR Y).frames + 1) (xmR M).frames && (Nat.ble (8 + (xmN Y + 11) + (xmR Y).locals) (xmR M).locals && (Nat.ble (ce + (xmR Y).cells) (xmR M).cells && Nat.ble (sl + (xmR Y).slots) (xmR M).slots))))) = true := by
  rw [e1, e2, e3, e4, Nat.ble_eq_true_of_le h1, Nat.ble_eq_true_of_le h2]
  simp only [Bool.and_eq_true, Bool.and_true] at h4 ⊢
  exact h4
theorem Gq_callvA {i : Instr} {mode k ci o : Nat} {tl : List Nat} {Y : XM} {as rest fs : List Value} {P : Option Value → HF → Nat → Prop} {cY sY cM sM : Nat} (hr : yrow M pc = some (pc, i, 3, mode :: k :: ci :: tl)) (hY : xnth xMs k = some Y) (hmo : xmode mode = 1) (hp : pc + 3 = pc') (ha : (st.take (xmA Y)).reverse = .ref o :: as) (hd : st.drop (xmA Y) = rest)
    (h4 : (Nat.ble (xmA Y) st.length && (Nat.ble (xcats (st.drop (xmA Y))) 8 && (Nat.ble ((xmR Y).frames + 1) (xmR M).frames && Nat.ble (8 + (xmN Y + 11) + (xmR Y).locals) (xmR M).locals))) = true) (e1 : (xmR Y).cells = cY) (e2 : (xmR Y).slots = sY) (e3 : (xmR M).cells = cM) (e4 : (xmR M).slots = sM) (h1 : ce + cY ≤ cM) (h2 : sl + sY ≤ sM)
    (hm : Rmt S k (.ref o :: as) H n P) (hk : H o = some (false, ci, fs)) (kk : ∀ v H' n', P v H' n' → Gw S M pc' lv (v.toList ++ rest) H' n' (ce + cY) (sl + sY) Q) : Gw S M pc lv st H n ce sl Q :=
  Gq_callv hr hY hmo hp ha hd (by rw [e1]) (by rw [e2]) (chk_A h4 e1 e2 e3 e4 h1 h2) hm hk kk
theorem Gq_callsA {i : Instr} {mode k ci : Nat} {tl : List Nat} {Y : XM} {as rest : List Value} {P : Option Value → HF → Nat → Prop} {cY sY cM sM : Nat} (hr : yrow M pc = some (pc, i, 3, mode :: k :: ci :: tl)) (hY : xnth xMs k = some Y) (hp : pc + 3 = pc') (ha : (st.take (xmA Y)).reverse = as) (hd : st.drop (xmA Y) = rest)
    (h4 : (Nat.ble (xmA Y) st.length && (Nat.ble (xcats (st.drop (xmA Y))) 8 && (Nat.ble ((xmR Y).frames + 1) (xmR M).frames && Nat.ble (8 + (xmN Y + 11) + (xmR Y).locals) (xmR M).locals))) = true) (e1 : (xmR Y).cells = cY) (e2 : (xmR Y).slots = sY) (e3 : (xmR M).cells = cM) (e4 : (xmR M).slots = sM) (hv : xrecv (xmode mode) ci as [] = true) (hm0 : Nat.beq (xmode mode) 1 = false) (h1 : ce + cY ≤ cM) (h2 : sl + sY ≤ sM)
    (hm : Rmt S k as H n P) (kk : ∀ v H' n', P v H' n' → Gw S M pc' lv (v.toList ++ rest) H' n' (ce + cY) (sl + sY) Q) : Gw S M pc lv st H n ce sl Q :=
  Gq_calls hr hY hp ha hd (by rw [e1]) (by rw [e2]) (chk_A h4 e1 e2 e3 e4 h1 h2) hv hm0 hm kk
theorem Gq_retA {i : Instr} {aux : List Nat} {v : Option Value} {P : Option Value → HF → Nat → Prop} {cM sM : Nat} (hr : yrow M pc = some (pc, i, 4, aux)) (e3 : (xmR M).cells = cM) (e4 : (xmR M).slots = sM) (h1 : ce ≤ cM) (h2 : sl ≤ sM) (hv : xretv M.2.2.2.1 i st = some v) (hP : P v H n) : Gw S M pc lv st H n ce sl (MQe M P) :=
  Gq_ret hr (by rw [e3, e4, Nat.ble_eq_true_of_le h1, Nat.ble_eq_true_of_le h2]; rfl) hv hP
theorem Gq_newaA {i : Instr} {ti N : Nat} {tl : List Nat} {vs : List Value} {a : Int} {cM sM : Nat} (hr : yrow M pc = some (pc, i, 1, ti :: tl)) (hi : ∀ σ : XS, xheap S (xmR M) i (ti :: tl) lv (.int (zI a) :: st) σ = xnewa (xmR M) (ti :: tl) lv (.int (zI a) :: st) σ) (hp : pc + ilen i = pc') (e3 : (xmR M).cells = cM) (e4 : (xmR M).slots = sM) (ha : a = ((N : Nat) : Int)) (hN : N ≤ 1000) (hv : List.replicate N (xdv ti) = vs) (h1 : ce + 1 ≤ cM) (h2 : sl + N ≤ sM) (kk : Gw S M pc' lv (.ref n :: st) (hup H n (true, ti, vs)) (n + 1) (ce + 1) (sl + N) Q) : Gw S M pc lv (.int (zI a) :: st) H n ce sl Q :=
  Gq_newa hr hi hp rfl ha hN hv (by rw [e3]; exact h1) (by rw [e4]; exact h2) kk
end XKx
