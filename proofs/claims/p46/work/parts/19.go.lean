/-! runs as propositions: 'Go', from here the run comes to one end with Q; 'Ret', the method answers so -/
section XI9
def c0 : Nat → Nat := fun _ => 0
def Go (S : Option (Nat × (Nat → Int32))) (M : XM) (pc : Nat) (lv : XL) (st : List Value) (σ : XS) (Q : XLf → Prop) : Prop :=
  ∃ lf : XLf, Q lf ∧ ∃ f0 d0 F0 : Nat, ∀ f d F : Nat, f0 ≤ f → d0 ≤ d → F0 ≤ F → xrun xMs c0 S M (xmeth xMs c0 S F d) f (xfind (xmC M) pc) lv st σ = some [lf]
def Ret (S : Option (Nat × (Nat → Int32))) (k : Nat) (as : List Value) (h : XH) (n : Nat) (v : Option Value) (h' : XH) (n' : Nat) : Prop :=
  ∃ d0 F0 : Nat, ∀ d F : Nat, d0 ≤ d → F0 ≤ F → xmeth xMs c0 S F d k as [] h n = some [(0, v, [], h', n')]
def yrow (M : XM) (pc : Nat) : Option XI := (xfind (xmC M) pc).head?
theorem yrow_cons {M : XM} {pc : Nat} {e : XI} (h : yrow M pc = some e) : ∃ t, xfind (xmC M) pc = e :: t := by
  unfold yrow at h
  cases hc : xfind (xmC M) pc with
  | nil => rw [hc] at h; cases h
  | cons a t =>
    rw [hc] at h
    cases h
    exact ⟨t, rfl⟩
section
variable {S : Option (Nat × (Nat → Int32))} {M : XM} {pc pc' : Nat} {lv lv' : XL} {st st' : List Value} {σ σ' : XS} {Q : XLf → Prop}
theorem xall_one {α β : Type} (f : α → Option (List β)) (a : α) : xall f [a] = f a := by
  show (match f a with
    | none => none
    | some r => (match xall f [] with
      | none => none
      | some q => some (r ++ q))) = f a
  cases h : f a with
  | none => rfl
  | some r => exact congrArg some (List.append_nil r)
/-- one row -/
theorem Go_step (h : ∀ (cf : XCf) (f : Nat), xrun xMs c0 S M cf (f + 1) (xfind (xmC M) pc) lv st σ = xrun xMs c0 S M cf f (xfind (xmC M) pc') lv' st' σ') : Go S M pc lv st σ Q = Go S M pc' lv' st' σ' Q := by
  refine propext ⟨fun ⟨lf, hq, f0, d0, F0, hr⟩ => ⟨lf, hq, f0, d0, F0, fun f d F h1 h2 h3 => ?_⟩, fun ⟨lf, hq, f0, d0, F0, hr⟩ => ⟨lf, hq, f0 + 1, d0, F0, fun f d F h1 h2 h3 => ?_⟩⟩
  · rw [← h]
    exact hr (f + 1) d F (by omega) h2 h3
  · obtain ⟨g, rfl⟩ : ∃ g, f = g + 1 := ⟨f - 1, by omega⟩
    rw [h]
    exact hr g d F (by omega) h2 h3
theorem Go_none (h : ∀ (cf : XCf) (f : Nat), xrun xMs c0 S M cf (f + 1) (xfind (xmC M) pc) lv st σ = none) : Go S M pc lv st σ Q = False := by
  refine propext ⟨fun ⟨lf, hq, f0, d0, F0, hr⟩ => ?_, fun z => z.elim⟩
  have := hr (f0 + 1) d0 F0 (by omega) (Nat.le_refl _) (Nat.le_refl _)
  rw [h] at this
  cases this
theorem xrun_row {cf : XCf} {f : Nat} {e : XI} (h : yrow M pc = some e) : ∃ t, xrun xMs c0 S M cf (f + 1) (xfind (xmC M) pc) lv st σ = xbody xMs c0 S M cf (xrun xMs c0 S M cf f) (e :: t) lv st σ := by
  obtain ⟨t, ht⟩ := yrow_cons h
  exact ⟨t, by rw [ht]; rfl⟩
/-- a row of the method's own numbers -/
theorem Go_simple {i : Instr} {aux : List Nat} (hr : yrow M pc = some (pc, i, 0, aux)) {q : XL × List Value} (hq : xsimple (xmN M) i aux lv st = some q) : Go S M pc lv st σ Q = Go S M (pc + ilen i) q.1 q.2 σ Q := by
  refine Go_step fun cf f => ?_
  obtain ⟨t, ht⟩ := xrun_row (S := S) (lv := lv) (st := st) (σ := σ) (cf := cf) (f := f) hr
  rw [ht]
  unfold xbody
  dsimp only
  rw [hq]
  rfl
/-- a row that touches cells -/
theorem Go_heap {i : Instr} {aux : List Nat} (hr : yrow M pc = some (pc, i, 1, aux)) {q : List Value × XS} (hq : xheap S (xmR M) i aux lv st σ = some q) : Go S M pc lv st σ Q = Go S M (pc + ilen i) lv q.1 q.2 Q := by
  refine Go_step fun cf f => ?_
  obtain ⟨t, ht⟩ := xrun_row (S := S) (lv := lv) (st := st) (σ := σ) (cf := cf) (f := f) hr
  rw [ht]
  unfold xbody
  dsimp only
  rw [hq]
  rfl
/-- a branch that is decided -/
theorem Go_branch {i : Instr} {aux : List Nat} (hr : yrow M pc = some (pc, i, 2, aux)) {q : Nat × List Value × XP} (hq : xbranch σ.2.1 pc i st σ.1 = some [q]) : Go S M pc lv st σ Q = Go S M q.1 lv q.2.1 (q.2.2, σ.2) Q := by
  refine Go_step fun cf f => ?_
  obtain ⟨t, ht⟩ := xrun_row (S := S) (lv := lv) (st := st) (σ := σ) (cf := cf) (f := f) hr
  rw [ht]
  unfold xbody
  dsimp only
  rw [hq]
  exact xall_one _ _
def xcmp (cd : ClassFile.Cond) (x y : Int32) : Prop :=
  match cd with
  | .eq => x = y
  | .ne => ¬ x = y
  | .lt => x < y
  | .ge => y ≤ x
  | .gt => y < x
  | .le => x ≤ y
theorem xcmp_t {cd : ClassFile.Cond} {x y : Int32} (h : xcmp cd x y) : xprop cd x y = true := by
  cases cd <;> simp [xcmp, xprop] at h ⊢ <;> exact h
theorem xcmp_f {cd : ClassFile.Cond} {x y : Int32} (h : ¬ xcmp cd x y) : xprop cd x y = false := by
  cases cd <;> simp [xcmp, xprop] at h ⊢ <;> exact h
theorem Go_icmp {cd : ClassFile.Cond} {off : Int} {aux : List Nat} {t : Nat} {x y : Int32} {σ2 : XH × Nat × Nat × Nat} (hr : yrow M pc = some (pc, .if_icmp cd off, 2, aux)) (ht : xtgt pc off = some t) (h1 : xcmp cd x y → Go S M t lv st ([], σ2) Q) (h2 : ¬ xcmp cd x y → Go S M (pc + 3) lv st ([], σ2) Q) : Go S M pc lv (.int y :: .int x :: st) ([], σ2) Q := by
  have hq : xbranch σ2.1 pc (.if_icmp cd off) (.int y :: .int x :: st) [] = some [(bif xprop cd x y then t else pc + 3, st, [])] := by
    show xjump pc off st (some [(xprop cd x y, [])]) = _
    unfold xjump
    rw [ht]
    rfl
  rw [Go_branch (σ := ([], σ2)) hr hq]
  by_cases hc : xcmp cd x y
  · rw [xcmp_t hc]
    exact h1 hc
  · rw [xcmp_f hc]
    exact h2 hc
theorem Go_if {cd : ClassFile.Cond} {off : Int} {aux : List Nat} {t : Nat} {x : Int32} {σ2 : XH × Nat × Nat × Nat} (hr : yrow M pc = some (pc, .ifCond cd off, 2, aux)) (ht : xtgt pc off = some t) (h1 : xcmp cd x 0 → Go S M t lv st ([], σ2) Q) (h2 : ¬ xcmp cd x 0 → Go S M (pc + 3) lv st ([], σ2) Q) : Go S M pc lv (.int x :: st) ([], σ2) Q := by
  have hq : xbranch σ2.1 pc (.ifCond cd off) (.int x :: st) [] = some [(bif xprop cd x 0 then t else pc + 3, st, [])] := by
    show xjump pc off st (some [(xprop cd x 0, [])]) = _
    unfold xjump
    rw [ht]
    rfl
  rw [Go_branch (σ := ([], σ2)) hr hq]
  by_cases hc : xcmp cd x 0
  · rw [xcmp_t hc]
    exact h1 hc
  · rw [xcmp_f hc]
    exact h2 hc
theorem Go_get {idx ci k o n ce sl : Nat} {tl : List Nat} {h : XH} {fs : List Value} {v : Value} (hr : yrow M pc = some (pc, .getfield idx, 1, ci :: k :: tl)) (hk : xhk h o = some (false, ci, fs)) (hv : xnth fs k = some v)
    (kk : Go S M (pc + 3) lv (v :: st) ([], h, n, ce, sl) Q) : Go S M pc lv (.ref o :: st) ([], h, n, ce, sl) Q := by
  have hq : xheap S (xmR M) (.getfield idx) (ci :: k :: tl) lv (.ref o :: st) ([], h, n, ce, sl) = some (v :: st, ([], h, n, ce, sl)) := by
    show xget (ci :: k :: tl) (.ref o :: st) ([], h, n, ce, sl) = _
    unfold xget
    dsimp only
    rw [hk]
    dsimp only
    rw [Nat.beq_refl, hv]
    rfl
  rw [Go_heap hr hq]
  exact kk
theorem Go_put {idx ci k o n ce sl : Nat} {tl : List Nat} {h : XH} {fs : List Value} {v : Value} (hr : yrow M pc = some (pc, .putfield idx, 1, ci :: k :: tl)) (hk : xhk h o = some (false, ci, fs)) (hf : xfit (xTy ci k) v = true) (hl : Nat.ble (k + 1) fs.length = true)
    (kk : Go S M (pc + 3) lv st ([], xhs h o (false, ci, xset fs k v), n, ce, sl) Q) : Go S M pc lv (v :: .ref o :: st) ([], h, n, ce, sl) Q := by
  have hq : xheap S (xmR M) (.putfield idx) (ci :: k :: tl) lv (v :: .ref o :: st) ([], h, n, ce, sl) = some (st, ([], xhs h o (false, ci, xset fs k v), n, ce, sl)) := by
    show xput (ci :: k :: tl) (v :: .ref o :: st) ([], h, n, ce, sl) = _
    unfold xput
    dsimp only
    rw [hk]
    dsimp only
    rw [Nat.beq_refl, hf, hl]
    rfl
  rw [Go_heap hr hq]
  exact kk
theorem Go_len {o n ce sl ti : Nat} {aux : List Nat} {h : XH} {vs : List Value} (hr : yrow M pc = some (pc, .arraylength, 1, aux)) (hk : xhk h o = some (true, ti, vs)) (ht : Nat.ble ti 8 = true)
    (kk : Go S M (pc + 1) lv (.int (Int32.ofNat vs.length) :: st) ([], h, n, ce, sl) Q) : Go S M pc lv (.ref o :: st) ([], h, n, ce, sl) Q := by
  have hq : xheap S (xmR M) .arraylength aux lv (.ref o :: st) ([], h, n, ce, sl) = some (.int (Int32.ofNat vs.length) :: st, ([], h, n, ce, sl)) := by
    show xlen S (.ref o :: st) ([], h, n, ce, sl) = _
    unfold xlen
    dsimp only
    rw [hk]
    dsimp only
    rw [ht]
    rfl
  rw [Go_heap hr hq]
  exact kk
theorem xix_nI {j N : Nat} (hj : j < N) (hN : N ≤ 2147483648) : xix (nI j) N = some j := by
  unfold xix
  have h1 : ¬ nI j < 0 := nI_pos (by omega)
  rw [decide_eq_false h1, nI_clamp (by omega)]
  show (bif Nat.ble (j + 1) N then some j else none) = _
  rw [Nat.ble_eq_true_of_le hj]
  rfl
theorem xald_at {ok : Value → Bool} {oti : Nat → Bool} {o ti j : Nat} {σ : XS} {vs : List Value} {v : Value} (hk : xhk σ.2.1 o = some (true, ti, vs)) (ht : oti ti = true) (hj : j < vs.length) (hN : vs.length ≤ 2147483648) (hv : vs[j]? = some v) (ho : ok v = true) : xald ok oti (.int (nI j) :: .ref o :: st) σ = some (v :: st, σ) := by
  unfold xald
  dsimp only
  rw [hk]
  dsimp only
  rw [ht, xix_nI hj hN]
  show (match xnth vs j with
    | some v => bif ok v then some (v :: st, σ) else none
    | none => none) = _
  rw [xnth_eq, hv]
  dsimp only
  rw [ho]
  rfl
theorem xast_at {ok : Value → Bool} {oti : Nat → Bool} {o ti j : Nat} {σ : XS} {vs : List Value} {v : Value} (hk : xhk σ.2.1 o = some (true, ti, vs)) (ht : oti ti = true) (hj : j < vs.length) (hN : vs.length ≤ 2147483648) (ho : ok v = true) : xast ok oti (v :: .int (nI j) :: .ref o :: st) σ = some (st, (σ.1, xhs σ.2.1 o (true, ti, vs.set j v), σ.2.2)) := by
  unfold xast
  dsimp only
  rw [hk]
  dsimp only
  rw [ht, ho, xix_nI hj hN]
  show some (st, (σ.1, xhs σ.2.1 o (true, ti, xset vs j v), σ.2.2)) = _
  rw [xset_eq]
theorem Go_aald {o n ce sl ti j : Nat} {aux : List Nat} {h : XH} {vs : List Value} {v : Value} (hr : yrow M pc = some (pc, .aaload, 1, aux)) (hk : xhk h o = some (true, ti, vs)) (ht : (Nat.ble 3 ti && Nat.ble ti 8) = true) (hj : j < vs.length) (hN : vs.length ≤ 2147483648) (hv : vs[j]? = some v) (ho : xref v = true)
    (kk : Go S M (pc + 1) lv (v :: st) ([], h, n, ce, sl) Q) : Go S M pc lv (.int (nI j) :: .ref o :: st) ([], h, n, ce, sl) Q := by
  rw [Go_heap hr (show xheap S (xmR M) .aaload aux lv (.int (nI j) :: .ref o :: st) ([], h, n, ce, sl) = _ from xald_at (σ := ([], h, n, ce, sl)) hk ht hj hN hv ho)]
  exact kk
theorem Go_iald {o n ce sl j : Nat} {aux : List Nat} {h : XH} {vs : List Value} {x : Int32} (hr : yrow M pc = some (pc, .iaload, 1, aux)) (hk : xhk h o = some (true, 0, vs)) (hj : j < vs.length) (hN : vs.length ≤ 2147483648) (hv : vs[j]? = some (.int x))
    (kk : Go S M (pc + 1) lv (.int x :: st) ([], h, n, ce, sl) Q) : Go S M pc lv (.int (nI j) :: .ref o :: st) ([], h, n, ce, sl) Q := by
  have e : xild S (.int (nI j) :: .ref o :: st) ([], h, n, ce, sl) = some (.int x :: st, ([], h, n, ce, sl)) := by
    show xald xint (fun ti => Nat.beq ti 0) (.int (nI j) :: .ref o :: st) ([], h, n, ce, sl) = _
    exact xald_at (σ := ([], h, n, ce, sl)) hk rfl hj hN hv rfl
  rw [Go_heap hr (show xheap S (xmR M) .iaload aux lv (.int (nI j) :: .ref o :: st) ([], h, n, ce, sl) = _ from e)]
  exact kk
theorem Go_iast {o n ce sl j : Nat} {aux : List Nat} {h : XH} {vs : List Value} {x : Int32} (hr : yrow M pc = some (pc, .iastore, 1, aux)) (hk : xhk h o = some (true, 0, vs)) (hj : j < vs.length) (hN : vs.length ≤ 2147483648)
    (kk : Go S M (pc + 1) lv st ([], xhs h o (true, 0, vs.set j (.int x)), n, ce, sl) Q) : Go S M pc lv (.int x :: .int (nI j) :: .ref o :: st) ([], h, n, ce, sl) Q := by
  rw [Go_heap hr (show xheap S (xmR M) .iastore aux lv (.int x :: .int (nI j) :: .ref o :: st) ([], h, n, ce, sl) = _ from xast_at (σ := ([], h, n, ce, sl)) hk rfl hj hN rfl)]
  exact kk
/-- an end -/
theorem Go_end {i : Instr} {aux : List Nat} (hr : yrow M pc = some (pc, i, 4, aux)) (hq : Q (0, 0, (pc, i, 4, aux), lv, st, σ)) : Go S M pc lv st σ Q := by
  refine ⟨_, hq, 1, 0, 0, fun f d F h1 _ _ => ?_⟩
  obtain ⟨g, rfl⟩ : ∃ g, f = g + 1 := ⟨f - 1, by omega⟩
  obtain ⟨t, ht⟩ := xrun_row (S := S) (lv := lv) (st := st) (σ := σ) (cf := xmeth xMs c0 S F d) (f := g) hr
  rw [ht]
  rfl
/-- a call that is known -/
theorem Go_call {i : Instr} {mode k ci : Nat} {tl : List Nat} {Y : XM} {h h' : XH} {n n' ce sl : Nat} {v : Option Value} (hr : yrow M pc = some (pc, i, 3, mode :: k :: ci :: tl)) (hY : xnth xMs k = some Y)
    (hchk : (Nat.ble (xmA Y) st.length && (Nat.ble (xcats (st.drop (xmA Y))) 8 && (Nat.ble ((xmR Y).frames + 1) (xmR M).frames && (Nat.ble (8 + (xmN Y + 11) + (xmR Y).locals) (xmR M).locals && (Nat.ble (ce + (xmR Y).cells) (xmR M).cells && (Nat.ble (sl + (xmR Y).slots) (xmR M).slots && xrecv (xmode mode) ci (st.take (xmA Y)).reverse h)))))) = true)
    (hm : Ret S k (st.take (xmA Y)).reverse h n v h' n') (kk : Go S M (pc + 3) lv (v.toList ++ st.drop (xmA Y)) ([], h', n', ce + (xmR Y).cells, sl + (xmR Y).slots) Q) : Go S M pc lv st ([], h, n, ce, sl) Q := by
  obtain ⟨lf, hq, f0, d0, F0, hr2⟩ := kk
  obtain ⟨d1, F1, hm⟩ := hm
  refine ⟨lf, hq, f0 + 1, max d0 d1, max F0 F1, fun f d F h1 h2 h3 => ?_⟩
  obtain ⟨g, rfl⟩ : ∃ g, f = g + 1 := ⟨f - 1, by omega⟩
  obtain ⟨t, ht⟩ := xrun_row (S := S) (lv := lv) (st := st) (σ := ([], h, n, ce, sl)) (cf := xmeth xMs c0 S F d) (f := g) hr
  rw [ht]
  have e1 := hm d F (by omega) (by omega)
  have e2 := hr2 g d F (by omega) (by omega) (by omega)
  show xcall xMs c0 M (xmeth xMs c0 S F d) (xrun xMs c0 S M (xmeth xMs c0 S F d) g) (pc, i, 3, mode :: k :: ci :: tl) t lv st ([], h, n, ce, sl) = some [lf]
  unfold xcall
  dsimp only
  rw [hY]
  dsimp only
  rw [hchk]
  simp only [cond_true]
  rw [e1]
  dsimp only
  rw [xall_one]
  exact e2
end
/-- a method's answer out of its run -/
theorem Ret_of {S : Option (Nat × (Nat → Int32))} {k : Nat} {as : List Value} {h h' : XH} {n n' : Nat} {v : Option Value} {M : XM} (hM : xnth xMs k = some M) (hc : Nat.ble (xcats as) (xmN M) = true)
    (hg : Go S M 0 (lv_args 0 as) [] ([], h, n, 0, 0) (fun lf => xend M lf = some (0, v, [], h', n'))) : Ret S k as h n v h' n' := by
  obtain ⟨lf, hq, f0, d0, F0, hr⟩ := hg
  refine ⟨d0 + 1, max F0 f0, fun d F h1 h2 => ?_⟩
  obtain ⟨g, rfl⟩ : ∃ g, d = g + 1 := ⟨d - 1, by omega⟩
  show (match xnth xMs k with
    | none => none
    | some M => bif Nat.ble (xcats as) (xmN M) then (match xrun xMs c0 S M (xmeth xMs c0 S F g) F (xfind (xmC M) 0) (lv_args 0 as) [] ([], h, n, 0, 0) with
      | some ls => xends M ls
      | none => none) else none) = _
  rw [hM]
  dsimp only
  rw [hc, hr F g F (by omega) (by omega) (by omega)]
  show xends M [lf] = _
  unfold xends
  rw [hq]
  rfl
end XI9
