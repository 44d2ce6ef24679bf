/-! what holds of the tables all along; a call's words -/
section XW
def xTs : List Jvm.Cond := lw_tbl.filter goodWord
theorem xTs_in {w : Jvm.Cond} {i : Nat} (h : lw_tbl[i]? = some w) (hg : goodWord w = true) : w ∈ xTs := List.mem_filter.mpr ⟨List.mem_of_getElem? h, hg⟩
theorem xTs_good {ws : List Jvm.Cond} (h : ∀ w ∈ ws, w ∈ xTs) : GoodIn xTs ws := fun w hw => ⟨h w hw, good_of_word (List.mem_filter.mp (h w hw)).2⟩
def exN : Nat → String
  | 0 => "java/lang/IndexOutOfBoundsException"
  | 1 => "java/lang/IllegalArgumentException"
  | _ => "java/lang/IllegalStateException"
/-- words that don't keep by themselves -/
def xngk : Jvm.Cond → Bool
  | .castable _ _ => true
  | .declares _ => true
  | .methodLinkNest _ _ _ _ => true
  | _ => false
def xNg : List Jvm.Cond := lw_tbl.filter xngk
theorem xNg_in {w : Jvm.Cond} {i : Nat} (h : lw_tbl[i]? = some w) (hg : xngk w = true) : w ∈ xNg := List.mem_filter.mpr ⟨List.mem_of_getElem? h, hg⟩
theorem xng_tab {w : Jvm.Cond} (h : xngk w = true) : w.onTables = true := by
  cases w <;> first | rfl | (simp [xngk] at h)
theorem xng_warm {w : Jvm.Cond} (h : xngk w = true) {s U : State} (hW : s.WarmedH U.vm) (hZ : va_Nw w s) : va_Nw w U := by
  cases w <;> first | exact va_Nw.warmC hW hZ | exact va_Nw.warmD hW hZ | exact va_Nw.warmM hW hZ | (simp [xngk] at h)
/-- the texts of the thrown exceptions, by their places in PackWright's pool -/
def xStr : List (Nat × String) := lw_tbl.filterMap fun w => match w with
  | .stringRef "PackWright" k t => some (k, t)
  | _ => none
def xSta (D : va_G) (aC : Nat → ClassId) (A : Nat → Prop) (xs : Nat → Int32) (bS : Nat) (scr : Option (Nat × (Nat → Int32))) (U : State) : Prop :=
  va_K D classes (xtys aC) U ∧ (∀ w ∈ xNg, va_Nw w U) ∧ (∀ ti C, ti ≤ 5 → xty ti = .object C → va_AO C U) ∧ (∀ ty, (ty = FieldType.array .int ∨ ty = .array .boolean ∨ ty = .array (.array .int)) → (Jvm.Cond.arrayOver ty).before #[] U = true) ∧
  (∀ q ∈ xStr, ∃ a, vk_R "PackWright" q.1 q.2 a U) ∧ vx_Zq Bundle.tN "UNASSIGNED_STACK" Bundle.steD A U U.heap ∧ vx_Zq Bundle.tN "SUPPRESSED_SENTINEL" Bundle.listD A U U.heap ∧ (∀ L ys, scr = some (L, ys) → ys = xs ∧ va_X bS L xs U U.heap ∧ bS < U.heap.size ∧ ¬ A bS)
theorem xSta_move {D : va_G} {aC : Nat → ClassId} {A : Nat → Prop} {xs : Nat → Int32} {bS : Nat} {scr : Option (Nat × (Nat → Int32))} {s U : State} (hW : s.WarmedH U.vm) (hq : ∀ a : Nat, a < s.heap.size → ¬ A a → U.heap[a]? = s.heap[a]?) (h : xSta D aC A xs bS scr s) : xSta D aC A xs bS scr U := by
  obtain ⟨h1, h2, h3, h4, h5, h6, h7, h10⟩ := h
  refine ⟨va_K.moved hW.alike h1, fun w hw => xng_warm (List.mem_filter.mp hw).2 hW (h2 w hw), fun ti C a b => va_AO.moved hW.alike (h3 ti C a b), fun ty hty => ?_, fun q hq9 => ?_, (h6.moved hW.alike).kept hq, (h7.moved hW.alike).kept hq, fun L ys hL => ?_⟩
  · have h9 := h4 ty hty
    rcases hty with rfl | rfl | rfl
    · exact arrayOver_alikeB hW.alike h9
    · exact arrayOver_alikeB hW.alike h9
    · exact arrayOver_alikeB hW.alike h9
  · obtain ⟨a, ha⟩ := h5 q hq9
    exact ⟨a, vk_R.warm hW ha⟩
  · obtain ⟨x1, x2, x3, x4⟩ := h10 L ys hL
    have x5 := (va_X.moved hW.alike x2).kept (hq bS x3 x4)
    refine ⟨x1, x5, ?_, x4⟩
    obtain ⟨c9, hc9, -⟩ := x5
    exact (Array.getElem?_eq_some_iff.mp hc9).1
theorem xSta_calling {D : va_G} {aC : Nat → ClassId} {A : Nat → Prop} {xs : Nat → Int32} {bS : Nat} {scr : Option (Nat × (Nat → Int32))} {U : State} {g : JFrame} {mk : MethodId} {a : Array Value} (h : xSta D aC A xs bS scr U) : xSta D aC A xs bS scr (U.calling g mk a) :=
  xSta_move (U := U.calling g mk a) (State.WarmedH.refl U) (fun _ _ _ => rfl) h
def xmY (M : XM) : MethodName := M.1
def xmB (M : XM) : ByteArray := M.2.1
def xmV (M : XM) : Option FieldType := M.2.2.2.1
/-- a method's own word -/
def xmW (M : XM) : Jvm.Cond := match xmT M with
  | [] => .code (xmY M) (xmB M) (xmN M) (xmV M)
  | q :: t => .codeWith (xmY M) (xmB M) (xmN M) (xmV M) (q :: t)
def xmWs (M : XM) : List Jvm.Cond := xmW M :: xTs
/-- a world with its numbers -/
def xWld (D : va_G) (aC : Nat → ClassId) (A : Nat → Prop) (ad : Nat → Nat) (xs : Nat → Int32) (bS : Nat) (h : XH) (H : Heap) : Prop := va_P D classes (evH (ev ad xs bS) ad aC h) H ∧ va_D A (evH (ev ad xs bS) ad aC h)
def xPre (D : va_G) (aC : Nat → ClassId) (A : Nat → Prop) (ad : Nat → Nat) (xs : Nat → Int32) (bS : Nat) (scr : Option (Nat × (Nat → Int32))) (h : XH) (U : State) : Prop :=
  xSta D aC A xs bS scr U ∧ xWld D aC A ad xs bS h U.heap ∧ ∀ q, U.heap.size ≤ q → A q
def xQc (D : va_G) (aC : Nat → ClassId) (A : Nat → Prop) (ad : Nat → Nat) (xs : Nat → Int32) (bS n : Nat) (rs : List XR) : Array Value → State → Outcome → State → Prop := fun _ st o t =>
  (∃ r ∈ rs, r.1 = 0 ∧ ∃ ad' : Nat → Nat, (∀ j, j < n → ad' j = ad j) ∧ o = .returned (r.2.1.map (ev ad' xs bS)) ∧ xsat xs r.2.2.1 ∧ xWld D aC A ad' xs bS r.2.2.2.1 t.heap) ∧ va_F A st t
def xXc (D : va_G) (aC : Nat → ClassId) (A : Nat → Prop) (ad : Nat → Nat) (xs : Nat → Int32) (bS n : Nat) (rs : List XR) : String → State → State → Prop := fun E st t =>
  (∃ r ∈ rs, ∃ k, r.1 = k + 1 ∧ k ≤ 2 ∧ E = exN k ∧ ∃ ad' : Nat → Nat, (∀ j, j < n → ad' j = ad j) ∧ xsat xs r.2.2.1 ∧ xWld D aC A ad' xs bS r.2.2.2.1 t.heap) ∧ va_F A st t
/-- an end's numbers -/
def xwR (n : Nat) (r : XR) : Prop := n ≤ r.2.2.2.2 ∧ xoS r.2.2.2.2 r.2.1.toList = true ∧ xoH r.2.2.2.2 r.2.2.2.1 = true
/-- the contracts of the methods that are called -/
def xCfOk (l : Launch) (Ms : List XM) (D : va_G) (aC : Nat → ClassId) (A : Nat → Prop) (xs : Nat → Int32) (bS : Nat) (scr : Option (Nat × (Nat → Int32))) (cf : XCf) : Prop :=
  ∀ (k : Nat) (as : List Value) (pe : XP) (h : XH) (n : Nat) (rs : List XR), cf k as pe h n = some rs → ∀ M, xnth Ms k = some M → xsat xs pe → xoS n as = true → xoH n h = true → (∀ r ∈ rs, xwR n r) ∧ ∀ ad : Nat → Nat,
    vx_Met l (xmY M) (xmWs M) (xmR M) (va_Pc (evS (ev ad xs bS) as) (xPre D aC A ad xs bS scr h)) (xQc D aC A ad xs bS n rs) (xXc D aC A ad xs bS n rs) (xmR M).cells (xmR M).slots A
/-- what holds inside a method -/
def xCtx (p : Program) (l : Launch) (s : State) (m : MethodId) (args : Array Value) (meth : Method) (c : Code) (M : XM) (D : va_G) (aC : Nat → ClassId) (A : Nat → Prop) (xs : Nat → Int32) (bS : Nat) (scr : Option (Nat × (Nat → Int32))) : Prop :=
  p.tables.exec = Jvm.exec ∧ c.code = xmB M ∧ c.maxLocals = xmN M ∧ meth.sig.returnType = xmV M ∧ s.vm.findClass (xmY M).cls = some m.cls ∧ (∀ w ∈ xTs, w.before args s = true) ∧ meth.locks = false ∧ ((xmY M).name = "<init>" → meth.name = "<init>") ∧
  xSta D aC A xs bS scr s ∧ (∀ q, s.heap.size ≤ q → A q) ∧ l.stackTraces = false
/-- a call's words: how it is made, by which place of the pool -/
def xvc (M Y : XM) (mode ci idx : Nat) : Prop :=
  ((xmY Y).cls ≠ "java/lang/invoke/MethodHandle" ∧ (xmY Y).cls ≠ "java/lang/invoke/VarHandle") ∧ Jvm.Cond.initialized (xmY Y).cls ∈ xTs ∧ xmW Y ∈ xTs ∧
  match mode with
  | 0 => xmT Y = [] ∧ (parseMethodDescriptor (xmY Y).desc).map (fun d => d.parameters.length) = some (xmA Y) ∧ Jvm.Cond.methodLink (xmY M).cls idx (xmY Y) ∈ xTs ∧ Jvm.Cond.static (xmY Y) ∈ xTs
  | 1 => xmT Y = [] ∧ (∃ n, xmA Y = n + 1 ∧ (parseMethodDescriptor (xmY Y).desc).map (fun d => d.parameters.length) = some n) ∧ Jvm.Cond.methodLink (xmY M).cls idx (xmY Y) ∈ xTs ∧ Jvm.Cond.instanceMethod (xmY Y) ∈ xTs ∧ Jvm.Cond.selects (xmY Y).cls (xmY Y) (xmY Y) ∈ xTs ∧ ∃ T N, classes[ci]? = some ((xmY Y).cls, T, N)
  | 2 => xmT Y = [] ∧ (∃ n, xmA Y = n + 1 ∧ (parseMethodDescriptor (xmY Y).desc).map (fun d => d.parameters.length) = some n) ∧ Jvm.Cond.methodLink (xmY M).cls idx (xmY Y) ∈ xTs ∧ Jvm.Cond.instanceMethod (xmY Y) ∈ xTs ∧ (xmY Y).name = "<init>" ∧ xmV Y = none
  | 3 => xmT Y = [] ∧ (∃ n, xmA Y = n + 1 ∧ (parseMethodDescriptor (xmY Y).desc).map (fun d => d.parameters.length) = some n) ∧ (∃ host, Jvm.Cond.methodLinkNest (xmY M).cls idx (xmY Y) host ∈ xNg) ∧ Jvm.Cond.instanceMethod (xmY Y) ∈ xTs ∧ (xmY Y).name = "<init>" ∧ xmV Y = none
  | 4 => xmT Y = [] ∧ (parseMethodDescriptor (xmY Y).desc).map (fun d => d.parameters.length) = some (xmA Y) ∧ (∃ host, Jvm.Cond.methodLinkNest (xmY M).cls idx (xmY Y) host ∈ xNg) ∧ Jvm.Cond.static (xmY Y) ∈ xTs
  | 6 => xmT Y ≠ [] ∧ (parseMethodDescriptor (xmY Y).desc).map (fun d => d.parameters.length) = some (xmA Y) ∧ Jvm.Cond.methodLink (xmY M).cls idx (xmY Y) ∈ xTs ∧ Jvm.Cond.static (xmY Y) ∈ xTs
  | _ => False
/-- the opcode of a call, by its kind -/
def xvi (mode idx : Nat) : Instr := match mode with
  | 0 => .invokestatic idx
  | 1 => .invokevirtual idx
  | 2 => .invokespecial idx
  | 3 => .invokespecial idx
  | _ => .invokestatic idx
section
variable {p : Program} {l : Launch} {e : Env} {s : State} {m : MethodId} {args : Array Value} {below : List Frame} {meth : Method} {c : Code} {H : Heap} {locs : List Loc} {cells slots : Nat} {Q : State → Prop}
variable {pc nL : Nat} {ls : Array Slot} {ad : Nat → Nat} {xs : Nat → Int32} {bS : Nat} {aC : Nat → ClassId} {D : va_G} {A : Nat → Prop} {scr : Option (Nat × (Nat → Int32))} {M Y : XM} {h : XH}
theorem xcats_ev (ad : Nat → Nat) (xs : Nat → Int32) (bS : Nat) (st : List Value) : ((evS (ev ad xs bS) st).map fun v => v.category).sum = xcats st := by
  unfold evS xcats
  rw [List.map_map]
  exact congrArg List.sum (List.map_congr_left fun v _ => ev_cat ad xs bS v)
/-- the state of a call -/
theorem xpreS (C : xCtx p l s m args meth c M D aC A xs bS scr) (hw : xWld D aC A ad xs bS h H) (hS : va_S A s.heap H locs) (as : List Value) : PreS s H (va_Pc (evS (ev ad xs bS) as) (xPre D aC A ad xs bS scr h)) (evS (ev ad xs bS) as) := by
  obtain ⟨-, -, -, -, -, -, -, -, hSta, hA, -⟩ := C
  refine ⟨fun a U g mk q => ?_, fun U hU hW => ⟨rfl, ?_, ?_, ?_⟩⟩
  · obtain ⟨q1, q2, q3, q4⟩ := q
    exact ⟨q1, xSta_calling q2, q3, q4⟩
  · exact xSta_move hW (fun a h1 h2 => by rw [hU]; exact hS.2.1 a h1 h2) hSta
  · rw [hU]; exact hw
  · rw [hU]; exact fun q hq => hA q (Nat.le_trans hS.1 hq)
/-- behind a call -/
theorem xw_call {n mc ms : Nat} {rs : List XR} {av : Array Value} {rest st0 : List Value} (hr : vx_Run p l e (xmR M) s m args below meth c H locs cells slots mc ms (F0 m pc ls st0) rest (xQc D aC A ad xs bS n rs av) (xXc D aC A ad xs bS n rs) A) (hS : va_S A s.heap H locs)
    (kk : ∀ r ∈ rs, r.1 = 0 → ∀ (ad' : Nat → Nat) (H1 : Heap) (locs1 : List Loc), (∀ j, j < n → ad' j = ad j) → xsat xs r.2.2.1 → xWld D aC A ad' xs bS r.2.2.2.1 H1 → va_S A s.heap H1 locs1 → W p l e (xmR M) s m args below meth c H1 locs1 (cells + mc) (slots + ms) Q (F0 m (pc + 3) ls ((r.2.1.map (ev ad' xs bS)).toList ++ rest)))
    (kx : ∀ r ∈ rs, ∀ k, r.1 = k + 1 → k ≤ 2 → ∀ (ad' : Nat → Nat) (H1 : Heap) (locs1 : List Loc), (∀ j, j < n → ad' j = ad j) → xsat xs r.2.2.1 → xWld D aC A ad' xs bS r.2.2.2.1 H1 → va_S A s.heap H1 locs1 → ∀ (q : Addr) (ce : Cell), H1[q]? = some ce → ce.vm = .none → s.vm.findClass (exN k) = some ce.cls → vx_W p l e (xmR M) s m args below meth c H1 locs1 (cells + mc) (slots + ms) Q (F0 m pc ls rest) q) :
    W p l e (xmR M) s m args below meth c H locs cells slots Q (F0 m pc ls st0) := by
  intro T hT X
  rcases hr T hT X with ⟨v, st₀, t, T', L, h0, X', hL, e1, e2, ⟨⟨r, hr1, hr2, ad', h1, h2, h3, h4⟩, hF⟩, st⟩ | ⟨q, st₀, t, T', L, E, ce, h0, X', hL, e1, e2, ⟨⟨r, hr1, k, hr2, hk2, hE, ad', h1, h3, h4⟩, hF⟩, hce, hcv, hcl, st⟩
  · cases h2
    obtain ⟨k1, k2, k3⟩ := vx_keep h0 e1 hS (fun q _ h => h) (fun q h => h) hL hF
    obtain ⟨t2, a1, b1⟩ := kk r hr1 hr2 ad' T'.heap (locs ++ L) h1 h3 (by rw [e1]; exact h4) k3 T' rfl X'
    exact ⟨t2, st t2 a1, b1⟩
  · obtain ⟨k1, k2, k3⟩ := vx_keep h0 e1 hS (fun q _ h => h) (fun q h => h) hL hF
    subst hE
    obtain ⟨t2, a1, b1⟩ := kx r hr1 k hr2 hk2 ad' T'.heap (locs ++ L) h1 h3 (by rw [e1]; exact h4) k3 q ce (by rw [e1]; exact hce) hcv hcl T' rfl X'
    exact ⟨t2, st.trans a1, b1⟩
theorem xargs (E : Value → Value) (st : List Value) (n : Nat) : evS E st = (evS E (st.take n).reverse).reverse ++ evS E (st.drop n) := by
  unfold evS
  rw [← List.map_reverse, List.reverse_reverse, ← List.map_append, List.take_append_drop]
theorem xw_nil {Y : XM} (h : xmT Y = []) : xmWs Y = Jvm.Cond.code (xmY Y) (xmB Y) (xmN Y) (xmV Y) :: xTs := by
  unfold xmWs xmW
  rw [h]
theorem xmWs_good {Y : XM} (h : xmW Y ∈ xTs) : GoodIn xTs (xmWs Y) := xTs_good fun w hw => (List.mem_cons.mp hw).elim (fun e => by rw [e]; exact h) id
theorem xrecv1 {ci : Nat} {as : List Value} {h : XH} (h9 : xrecv 1 ci as h = true) : ∃ o t fs, as = .ref o :: t ∧ xhk h o = some (false, ci, fs) := by
  cases as with
  | nil => exact absurd h9 (by simp [xrecv])
  | cons v t =>
    cases v with
    | ref o =>
      have h9 : (match xhk h o with
        | some (false, cj, _) => Nat.beq ci cj
        | _ => false) = true := h9
      split at h9
      · rename_i cj fs hk
        have := Nat.eq_of_beq_eq_true h9
        subst this
        exact ⟨o, t, fs, rfl, hk⟩
      · cases h9
    | _ => exact absurd h9 (by simp [xrecv])
theorem xrecv2 {ci : Nat} {as : List Value} {h : XH} (h9 : xrecv 2 ci as h = true) : ∃ o t, as = .ref o :: t := by
  cases as with
  | nil => exact absurd h9 (by simp [xrecv])
  | cons v t =>
    cases v with
    | ref o => exact ⟨o, t, rfl⟩
    | _ => exact absurd h9 (by simp [xrecv])
/-- the callee's contract at a call -/
theorem xw_inv (C : xCtx p l s m args meth c M D aC A xs bS scr) {mode ci idx n : Nat} (hv : xvc M Y mode ci idx) (hd : decode (xmB M) pc = .ok (xvi mode idx, 3)) {st : List Value} {rs : List XR}
    (hM : vx_Met l (xmY Y) (xmWs Y) (xmR Y) (va_Pc (evS (ev ad xs bS) (st.take (xmA Y)).reverse) (xPre D aC A ad xs bS scr h)) (xQc D aC A ad xs bS n rs) (xXc D aC A ad xs bS n rs) (xmR Y).cells (xmR Y).slots A)
    (hlen : xmA Y ≤ st.length) (hcat : xcats (st.drop (xmA Y)) ≤ 8) (hR : (xmR Y).frames + 1 ≤ (xmR M).frames ∧ 8 + (xmN Y + 11) + (xmR Y).locals ≤ (xmR M).locals) (hf : cells + (xmR Y).cells ≤ (xmR M).cells ∧ slots + (xmR Y).slots ≤ (xmR M).slots)
    (hrc : xrecv (xmode mode) ci (st.take (xmA Y)).reverse h = true) (hw : xWld D aC A ad xs bS h H) (hS : va_S A s.heap H locs) (hls : ls.size = xmN M) :
    vx_Run p l e (xmR M) s m args below meth c H locs cells slots (xmR Y).cells (xmR Y).slots (F0 m pc ls (evS (ev ad xs bS) st)) (evS (ev ad xs bS) (st.drop (xmA Y))) (xQc D aC A ad xs bS n rs (evS (ev ad xs bS) (st.take (xmA Y)).reverse).toArray) (xXc D aC A ad xs bS n rs) A := by
  have hp := xpreS C hw hS (st.take (xmA Y)).reverse
  obtain ⟨hx, hb, hml, -, hown, hts, -, -, hSta, -, -⟩ := id C
  have hfix : CallFix p m c (xmB M) (xmN M) s args xTs (xmY M).cls := ⟨hx, hb, hml, hown, hts⟩
  have htl : (st.take (xmA Y)).length = xmA Y := by rw [List.length_take]; omega
  have hst := xargs (ev ad xs bS) st (xmA Y)
  have hal0 : (evS (ev ad xs bS) (st.take (xmA Y)).reverse).length = xmA Y := by rw [evS, List.length_map, List.length_reverse, htl]
  have hW : 2 * (F0 m pc ls (evS (ev ad xs bS) st)).monitorRoom + ((evS (ev ad xs bS) (st.drop (xmA Y))).map fun v => v.category).sum ≤ 8 := lv_room (by rw [xcats_ev]; exact hcat)
  obtain ⟨hmh, hini, hcode, hv⟩ := hv
  have hgood := xmWs_good hcode
  match mode, hv, hd, hrc with
  | 0, hv, hd, hrc =>
    obtain ⟨ht, hpar, hlink, hstat⟩ := hv
    exact vx_runS hfix hM (va_cwS (xmA Y) hts (xTs_good (by intro w hw2; simp only [va_wsS, List.mem_append, List.mem_cons, List.not_mem_nil, or_false] at hw2; rcases hw2 with (rfl | rfl | rfl) | hw2; exact hlink; exact hstat; exact hini; exact (hgood w hw2).1)) (xw_nil ht) rfl rfl ⟨hmh.1, hmh.2, hpar⟩ hR) hp rfl hal0 hls hst hW hd hf
  | 6, hv, hd, hrc =>
    obtain ⟨ht, hpar, hlink, hstat⟩ := hv
    obtain ⟨q, t, hqt⟩ : ∃ q t, xmT Y = q :: t := by
      cases hT9 : xmT Y with
      | nil => exact absurd hT9 ht
      | cons q t => exact ⟨q, t, rfl⟩
    have hw9 : xmWs Y = Jvm.Cond.codeWith (xmY Y) (xmB Y) (xmN Y) (xmV Y) (q :: t) :: xTs := by unfold xmWs xmW; rw [hqt]
    exact vx_runSX hfix hM (vx_cwSW (xmA Y) hts (xTs_good (by intro w hw2; simp only [va_wsS, List.mem_append, List.mem_cons, List.not_mem_nil, or_false] at hw2; rcases hw2 with (rfl | rfl | rfl) | hw2; exact hlink; exact hstat; exact hini; exact (hgood w hw2).1)) hw9 rfl rfl ⟨hmh.1, hmh.2, hpar⟩ hR) hp rfl hal0 hls hst hW hd hf
  | 4, hv, hd, hrc =>
    obtain ⟨ht, hpar, ⟨host, hlink⟩, hstat⟩ := hv
    exact vx_runSN (host := host) hfix hM ⟨va_cnB (xmA Y) hts hgood (xw_nil ht) rfl rfl (hSta.2.1 _ hlink) (hts _ hini) ⟨hmh.1, hmh.2, hpar⟩ hR, hts _ hstat, trivial⟩ hp rfl hal0 hls hst hW hd hf
  | 1, hv, hd, hrc =>
    obtain ⟨ht, ⟨n9, hn9, hpar⟩, hlink, hinst, hsel, T, N, hcl⟩ := hv
    obtain ⟨o, as0, fs, hargs, hk⟩ := xrecv1 hrc
    rw [hargs] at hM hp hst ⊢
    have hal : as0.length = n9 := by
      have := congrArg List.length hargs
      rw [List.length_reverse, htl, List.length_cons] at this
      omega
    obtain ⟨q0, hq0, -⟩ := xhk_get (E := ev ad xs bS) (ad := ad) (aC := aC) hk
    have hrecv := va_recv hSta.1 hw.1 hcl hq0
    have hst2 : evS (ev ad xs bS) st = (evS (ev ad xs bS) as0).reverse ++ .ref (ad o) :: evS (ev ad xs bS) (st.drop (xmA Y)) := by
      rw [hst]
      show (Value.ref (ad o) :: evS (ev ad xs bS) as0).reverse ++ _ = _
      rw [List.reverse_cons, List.append_assoc]; rfl
    exact vx_runV (C := (xmY Y).cls) (b := ad o) (As := evS (ev ad xs bS) as0) hfix hM (cwV n9 hts (xTs_good (by intro w hw2; simp only [wsV, List.mem_append, List.mem_cons, List.not_mem_nil, or_false] at hw2; rcases hw2 with (rfl | rfl | rfl | rfl) | hw2; exact hlink; exact hinst; exact hsel; exact hini; exact (hgood w hw2).1)) (xw_nil ht) rfl rfl ⟨rfl, hmh.1, hmh.2, hpar⟩ hR) ⟨hp.1, hrecv, hp.2⟩ rfl (by rw [evS, List.length_map, hal]) hls hst2 hW hd hf
  | 2, hv, hd, hrc =>
    obtain ⟨ht, ⟨n9, hn9, hpar⟩, hlink, hinst, hnm, hret⟩ := hv
    obtain ⟨o, as0, hargs⟩ := xrecv2 hrc
    rw [hargs] at hM hp hst ⊢
    have hal : as0.length = n9 := by
      have := congrArg List.length hargs
      rw [List.length_reverse, htl, List.length_cons] at this
      omega
    have hst2 : evS (ev ad xs bS) st = (evS (ev ad xs bS) as0).reverse ++ .ref (ad o) :: evS (ev ad xs bS) (st.drop (xmA Y)) := by
      rw [hst]
      show (Value.ref (ad o) :: evS (ev ad xs bS) as0).reverse ++ _ = _
      rw [List.reverse_cons, List.append_assoc]; rfl
    have hw9 := xw_nil ht
    rw [hret] at hw9
    exact vx_runI (b := ad o) (As := evS (ev ad xs bS) as0) hfix hM (cwI n9 hts hgood hw9 rfl rfl (hts _ hini) (hts _ hlink) (hts _ hinst) hnm ⟨hmh.1, hmh.2, hpar⟩ hR) hp rfl (by rw [evS, List.length_map, hal]) hls hst2 hW hd hf
  | 3, hv, hd, hrc =>
    obtain ⟨ht, ⟨n9, hn9, hpar⟩, ⟨host, hlink⟩, hinst, hnm, hret⟩ := hv
    obtain ⟨o, as0, hargs⟩ := xrecv2 hrc
    rw [hargs] at hM hp hst ⊢
    have hal : as0.length = n9 := by
      have := congrArg List.length hargs
      rw [List.length_reverse, htl, List.length_cons] at this
      omega
    have hst2 : evS (ev ad xs bS) st = (evS (ev ad xs bS) as0).reverse ++ .ref (ad o) :: evS (ev ad xs bS) (st.drop (xmA Y)) := by
      rw [hst]
      show (Value.ref (ad o) :: evS (ev ad xs bS) as0).reverse ++ _ = _
      rw [List.reverse_cons, List.append_assoc]; rfl
    have hw9 := xw_nil ht
    rw [hret] at hw9
    exact vx_runIN (host := host) (b := ad o) (As := evS (ev ad xs bS) as0) hfix hM ⟨va_cnB n9 hts hgood hw9 rfl rfl (hSta.2.1 _ hlink) (hts _ hini) ⟨hmh.1, hmh.2, hpar⟩ hR, hnm, hts _ hinst⟩ hp rfl (by rw [evS, List.length_map, hal]) hls hst2 hW hd hf
end
end XW
