/-! the start of the law (by wip/p1/gen20.py) -/
/-! THE CLAIM OUT OF ONE WALK OF THE LAW'S BODY. Your part is whole_start (and what it stands on); all else here is the same for every law, but numbers. -/
def R_law : String := "PackWrightLaw"
def lw_P (b : Addr) (xs : List Int32) (args : Array Value) (s : State) : Prop := args = #[.ref b] ∧ s.IntsAt b xs ∧ xs.length ≤ 9 ∧ (Jvm.Cond.and given_1 narrow_1).before args s = true
/-- what a walk over the start with the record d0 says of its end, said of the start itself -/
theorem lw_closed {s t : State} {o : Outcome} {d0 : Drawn} {L : List Loc} {k n : Nat} (hd0 : s.drawn.sameBut d0 lw_cs) (hv : ∃ v, o = .returned v) (hW : (s.setDrawn d0).WarmedH t.vm) (hs : (s.setDrawn d0).sameButNew ({ t with vm := s.vm } : State) L k n) : State.butDraws s t lw_cs (fun t1 => Framed s o t1 L k n) := by
  have h2 : t.drawn = d0 := congrArg State.drawn hs.1
  refine ⟨⟨hv, hW, State.sameButNew.setDrawn hs s.drawn⟩, ?_, by decide⟩
  rw [h2]
  exact hd0
def lw_Q (_ : Array Value) (s : State) (o : Outcome) (t : State) : Prop := o = .returned (some (.int 1)) ∧ State.butDraws s t lw_cs (fun t1 => Framed s o t1 [] 600002 7302232)
def lw_Z (below : List Frame) (a : Array Value) (s : State) : State → Prop := fun t => ∃ o, t.status = .running ∧ Ended t below o ∧ lw_Q a s o t
/-- the law's own end, with 1 on the stack, nothing written that was there before, its room as the claim has it; d0: the record of draws at this point (at the entry s.drawn: begin with 'refine W.base ?_' and 'have hd0 := Drawn.sameBut.refl s.drawn lw_cs') -/
theorem lw_ret {p : Program} {l : Launch} {e : Env} {s : State} {m : MethodId} {below : List Frame} {meth : Method} {c : Code} {b : Nat} {d0 : Drawn} (hd0 : s.drawn.sameBut d0 lw_cs) (hx : p.tables.exec = Jvm.exec) (hb : c.code = code) (hr : meth.sig.returnType = ret) (hlocks : meth.locks = false) {pc : Nat} {H : Heap} {ls : Array Slot} (hdg : decode code pc = .ok (.ireturn, 1)) : W p l e room_1 (s.setDrawn d0) m #[Value.ref b] below meth c H [] 600002 7302232 (lw_Z below #[Value.ref b] s) (F0 m pc ls [.int 1]) := by
  intro T hT X
  obtain ⟨fs, hret, hrun, hended, hW, hframe⟩ := X.leave (v := some (.int 1)) (hlocks := hlocks) (fun h => by rw [hr] at h; cases h)
  have hmeth' : T.vm.method? m = some meth := X.method'
  refine ⟨T.setFrames fs, ?_, .returned (some (.int 1)), hrun, hended, rfl, lw_closed hd0 ⟨_, rfl⟩ hW hframe⟩
  jvm_step X.here [X.here.top, hx, hb, hdg, hmeth', hr, ret, narrow_b1]
  (try refine ⟨rfl, ?_⟩); (try refine ⟨rfl, ?_⟩)
  first | (intro acts; rw [hret _ acts rfl rfl rfl]) | rw [hret _ _ rfl rfl rfl]
  exact Steps.refl _
/-- what holds at the law's entry: the machine, the code, the tables' words (any of lw_tbl by 'hts w (by decide +kernel)'), the script of L ints xs at the cell b, what the Statement gives of the start (any of its parts by flat_of_before) -/
def lw_At (p : Program) (s : State) (m : MethodId) (meth : Method) (c : Code) (b L : Nat) (xs : Nat → Int32) : Prop :=
  p.tables.exec = Jvm.exec ∧ c.code = code ∧ meth.sig.returnType = ret ∧ c.maxLocals = 9 ∧ s.vm.findClass R_law = some m.cls ∧ (∀ w ∈ lw_tbl, w.before #[Value.ref b] s = true) ∧ va_X b L xs s s.heap ∧ b < s.heap.size ∧ meth.locks = false ∧ (Jvm.Cond.and given_1 narrow_1).before #[Value.ref b] s = true
section XS
def xInst : List (String × Nat) := [("PackWright$Cache", 4), ("PackWright$Chains", 4), ("PackWright$Choice", 2), ("PackWright$Pack", 3), ("PackWright$Plan", 6), ("PackWright$Resolver", 11), ("PackWright$Wishes", 2), ("PackWright", 13), ("PackWrightModel", 27)]
theorem xinst_ok : ∀ q ∈ (classes : List vw_C), Jvm.Cond.instantiable q.1 q.2.2 ∈ lw_tbl := List.forall_mem_cons.mpr ⟨List.mem_of_getElem? (i := 231) (by decide +kernel), List.forall_mem_cons.mpr ⟨List.mem_of_getElem? (i := 180) (by decide +kernel), List.forall_mem_cons.mpr ⟨List.mem_of_getElem? (i := 111) (by decide +kernel), List.forall_mem_cons.mpr ⟨List.mem_of_getElem? (i := 745) (by decide +kernel), List.forall_mem_cons.mpr ⟨List.mem_of_getElem? (i := 200) (by decide +kernel), List.forall_mem_cons.mpr ⟨List.mem_of_getElem? (i := 133) (by decide +kernel), List.forall_mem_cons.mpr ⟨List.mem_of_getElem? (i := 89) (by decide +kernel), List.forall_mem_cons.mpr ⟨List.mem_of_getElem? (i := 79) (by decide +kernel), List.forall_mem_cons.mpr ⟨List.mem_of_getElem? (i := 1116) (by decide +kernel), fun _ h => absurd h List.not_mem_nil⟩⟩⟩⟩⟩⟩⟩⟩⟩
theorem xstrs_ok : xStr.all (fun q => decide (Jvm.Cond.exactly (Term.string "PackWright" q.1) "java/lang/String" ∈ flatC (Jvm.Cond.and given_1 narrow_1))) = true := by decide +kernel
theorem xstr_in {q : Nat × String} (h : q ∈ xStr) : Jvm.Cond.stringRef "PackWright" q.1 q.2 ∈ lw_tbl := by
  unfold xStr at h
  obtain ⟨w, hw, h2⟩ := List.mem_filterMap.mp h
  split at h2
  · cases h2; exact hw
  · cases h2
theorem xraI {s : State} {args : Array Value} {ty : FieldType} (hty : ty = .int ∨ ty = .boolean ∨ ty = .long) (h : (Jvm.Cond.arrayClass ty).before args s = true) : ∃ c : ClassId, ArrOfT s c ty ∧ va_RA s c ty := by
  obtain ⟨c, k, comp, h1, h2, h3⟩ := Cond.arrayClass_spec h
  refine ⟨c, fun n z => ⟨fun k h => (by cases h), k, h2, comp, h3⟩, ?_⟩
  rcases hty with rfl | rfl | rfl <;> exact h1
theorem xraO {s : State} {args : Array Value} {C : String} (h : (Jvm.Cond.arrayOver (.object C)).before args s = true) : ∃ c : ClassId, ArrOfT s c (.object C) ∧ va_RA s c (.object C) := by
  obtain ⟨comp, c, k, h1, -, h3, h4, h5⟩ := Cond.arrayOver_spec h
  exact ⟨c, fun n z => ⟨fun k h => (by cases h), k, h3, comp, h4⟩, k, comp, h3, h4, h1, h5⟩
def xsA (xs : Nat → Int32) (j : Nat) : Int32 := if j < 9 then xs j else xs (j - 9) &&& 63
theorem xsat0 (xs : Nat → Int32) : xsat (xsA xs) xpe0 := by
  have lo : ∀ x : Int32, (-2147483648 : Int) ≤ x.toInt ∧ x.toInt ≤ 2147483647 := fun x => by
    have h1 := Int32.le_toInt x
    have h2 := Int32.toInt_lt x
    omega
  intro i q h
  match i, h with
  | 0, h => cases h; exact lo _
  | 1, h => cases h; exact lo _
  | 2, h => cases h; exact lo _
  | 3, h => cases h; exact lo _
  | 4, h => cases h; exact lo _
  | 5, h => cases h; exact lo _
  | 6, h => cases h; exact lo _
  | 7, h => cases h; exact lo _
  | 8, h => cases h; exact lo _
  | 9, h =>
    cases h
    obtain ⟨j, hj, e⟩ := pk_andE (xs 0) (m := 63) 6 (by decide)
    show (0 : Int) ≤ (xs 0 &&& 63).toInt ∧ (xs 0 &&& 63).toInt ≤ 63
    rw [e, nI_toInt (by omega)]
    omega
  | n + 10, h => exact absurd h (by simp [xpe0])
theorem xmask (xs : Nat → Int32) : ∀ i, i < 9 → xsA xs (i + 9) = xsA xs i &&& 63 := fun i hi => by
  unfold xsA
  rw [if_neg (by omega), if_pos hi, Nat.add_sub_cancel]
theorem xnc_in {s : State} {args : Array Value} (hs : ∀ c ∈ flatC (Jvm.Cond.and given_1 narrow_1), c.before args s = true) : ∀ i j, i ≤ 2 → j ≤ 2 → i ≠ j → va_Nc (exN i) (exN j) s := by
  intro i j hi hj hn
  match i, j, hi, hj, hn with
  | 0, 1, _, _, _ => exact va_Nc.of (hs (Jvm.Cond.not (Jvm.Cond.castable (exN 0) (exN 1))) (by decide +kernel))
  | 0, 2, _, _, _ => exact va_Nc.of (hs (Jvm.Cond.not (Jvm.Cond.castable (exN 0) (exN 2))) (by decide +kernel))
  | 1, 0, _, _, _ => exact va_Nc.of (hs (Jvm.Cond.not (Jvm.Cond.castable (exN 1) (exN 0))) (by decide +kernel))
  | 1, 2, _, _, _ => exact va_Nc.of (hs (Jvm.Cond.not (Jvm.Cond.castable (exN 1) (exN 2))) (by decide +kernel))
  | 2, 0, _, _, _ => exact va_Nc.of (hs (Jvm.Cond.not (Jvm.Cond.castable (exN 2) (exN 0))) (by decide +kernel))
  | 2, 1, _, _, _ => exact va_Nc.of (hs (Jvm.Cond.not (Jvm.Cond.castable (exN 2) (exN 1))) (by decide +kernel))
  | 0, 0, _, _, h => exact absurd rfl h
  | 1, 1, _, _, h => exact absurd rfl h
  | 2, 2, _, _, h => exact absurd rfl h
  | n + 3, _, h, _, _ => omega
  | _, n + 3, _, h, _ => omega
/-- the tables at the start -/
theorem xsta0 {s : State} {b : Nat} (hts : ∀ w ∈ lw_tbl, w.before #[Value.ref b] s = true) (hgv : (Jvm.Cond.and given_1 narrow_1).before #[Value.ref b] s = true) : ∃ (D : va_G) (aC : Nat → ClassId), xSta D aC (fun q => s.heap.size ≤ q) s := by
  have hs := flat_of_before _ hgv
  have hT : ∀ w ∈ xTs, w.before #[Value.ref b] s = true := fun w hw => hts w (List.mem_filter.mp hw).1
  have hk : ∀ c : Nat, ∃ z : ClassId × (Nat → Nat), ∀ q : vw_C, (classes : List vw_C)[c]? = some q → u_Kn s q.1 q.2.1 q.2.2 z.1 z.2 := by
    intro c
    cases hc : (classes : List vw_C)[c]? with
    | none => exact ⟨(0, fun _ => 0), fun q h => nomatch h⟩
    | some q =>
      have hq := List.mem_of_getElem? hc
      obtain ⟨cC, iS, h⟩ := u_known (C := q.1) (T := q.2.1) (N := q.2.2) (n := q.2.2) hT (xw_cl q hq) (hts _ (xinst_ok q hq))
      exact ⟨(cC, iS), fun q9 h9 => by cases h9; exact h⟩
  obtain ⟨f, hf⟩ := Classical.axiomOfChoice hk
  have w3 : (Jvm.Cond.arrayOver (.object "PackWright$Version")).before #[Value.ref b] s = true := hts _ (List.mem_of_getElem? (i := 117) (by decide +kernel))
  have w4 : (Jvm.Cond.arrayOver (.object "PackWright$Pack")).before #[Value.ref b] s = true := hts _ (List.mem_of_getElem? (i := 87) (by decide +kernel))
  have w5 : (Jvm.Cond.arrayOver (.object "PackWright$Claim")).before #[Value.ref b] s = true := hts _ (List.mem_of_getElem? (i := 95) (by decide +kernel))
  obtain ⟨c0, h0⟩ := xraI (ty := .int) (Or.inl rfl) (hts _ (List.mem_of_getElem? (i := 131) (by decide +kernel)))
  obtain ⟨c1, h1⟩ := xraI (ty := .boolean) (Or.inr (Or.inl rfl)) (hts _ (List.mem_of_getElem? (i := 1212) (by decide +kernel)))
  obtain ⟨c2, h2⟩ := xraI (ty := .long) (Or.inr (Or.inr rfl)) (hts _ (List.mem_of_getElem? (i := 1536) (by decide +kernel)))
  obtain ⟨c3, h3⟩ := xraO w3
  obtain ⟨c4, h4⟩ := xraO w4
  obtain ⟨c5, h5⟩ := xraO w5
  refine ⟨(fun c => (f c).1, fun c => (f c).2), fun ti => match ti with | 0 => c0 | 1 => c1 | 2 => c2 | 3 => c3 | 4 => c4 | _ => c5, ⟨fun c q h => hf c q h, fun k q h => ?_⟩, ?_, ?_, ?_, ?_, ?_, ?_, xnc_in hs⟩
  · match k, h with
    | 0, h => cases h; exact h0
    | 1, h => cases h; exact h1
    | 2, h => cases h; exact h2
    | 3, h => cases h; exact h3
    | 4, h => cases h; exact h4
    | 5, h => cases h; exact h5
    | n + 6, h => exact absurd h (by simp [xtys])
  · exact fun w hw => va_Nw.of (xng_tab (List.mem_filter.mp hw).2) (hts w (List.mem_filter.mp hw).1)
  · intro ti C hti hC
    match ti, hti, hC with
    | 0, _, hC => cases hC
    | 1, _, hC => cases hC
    | 2, _, hC => cases hC
    | 3, _, hC => cases hC; exact w3
    | 4, _, hC => cases hC; exact w4
    | 5, _, hC => cases hC; exact w5
    | n + 6, h, _ => omega
  · intro ty hty
    rcases hty with rfl | rfl | rfl
    · exact hts (Jvm.Cond.arrayOver (.array .int)) (List.mem_of_getElem? (i := 1122) (by decide +kernel))
    · exact hts (Jvm.Cond.arrayOver (.array .boolean)) (List.mem_of_getElem? (i := 1124) (by decide +kernel))
    · exact hts (Jvm.Cond.arrayOver (.array (.array .int))) (List.mem_of_getElem? (i := 1126) (by decide +kernel))
  · intro q hq
    have he : (Jvm.Cond.exactly (Term.string "PackWright" q.1) "java/lang/String").before #[Value.ref b] s = true := hs _ (of_decide_eq_true (List.all_eq_true.mp xstrs_ok q hq))
    obtain ⟨a, -, -, -, ha, -⟩ := Cond.exactly_spec he
    exact ⟨a, vk_R.of (hts _ (xstr_in hq)) ha⟩
  · exact vx_Zqof (hts _ (List.mem_of_getElem? (i := 615) (by decide +kernel))) (hts _ (List.mem_of_getElem? (i := 66) (by decide +kernel))) (hs _ (by decide +kernel)) (fun a h1 h2 => absurd h2 (Nat.not_le.mpr h1))
  · exact vx_Zqof (hts _ (List.mem_of_getElem? (i := 617) (by decide +kernel))) (hts _ (List.mem_of_getElem? (i := 66) (by decide +kernel))) (hs _ (by decide +kernel)) (fun a h1 h2 => absurd h2 (Nat.not_le.mpr h1))
theorem whole_start {p : Program} {e : Env} {s : State} {m : MethodId} {below : List Frame} {meth : Method} {c : Code} (l : Launch) (hflags : l.flags = flags0) {b L : Nat} {xs : Nat → Int32} (hL : L ≤ 9) (C0 : lw_At p s m meth c b L xs) : W p l e room_1 s m #[Value.ref b] below meth c s.heap [] 0 0 (lw_Z below #[Value.ref b] s) (entryFrame m ([Value.ref b] : List Value).toArray 9) := by
  obtain ⟨hx, hb, hr, hml, hown, hts, hX, hbl, hlocks, hgv⟩ := C0
  obtain ⟨D, aC, hSta⟩ := xsta0 hts hgv
  have hl : l.stackTraces = false := by
    unfold Launch.stackTraces
    rw [hflags]
    decide +kernel
  have hX2 : va_X b L (xsA xs) s s.heap := by
    obtain ⟨scr, g1, g2, g3, g4, g5⟩ := hX
    exact ⟨scr, g1, g2, g3, g4, fun j hj => by rw [g5 j hj]; unfold xsA; rw [if_pos (by omega)]⟩
  have C : xCtx p l s m #[Value.ref b] meth c xLaw D aC (fun q => s.heap.size ≤ q) (xsA xs) b (some L) :=
    ⟨hx, hb, hml, hr, hown, fun w hw => hts w (List.mem_filter.mp hw).1, hlocks, fun h => absurd h (by decide), (fun h => by rcases h with h | h; cases h; exact absurd rfl h), hSta, fun q h => h, (fun L9 h9 => by cases h9; exact ⟨hX2, hbl, Nat.not_le.mpr hbl⟩), hl, xmask xs⟩
  have hcf : xCfOk l xMs D aC (fun q => s.heap.size ≤ q) (xsA xs) b (xmeth xMs xcls 12) := xmeth_ok hl xGlob_ok xThrOk_ok xMs_ok (xmask xs) 12
  have hgo := xgo_all L hL
  unfold xgoL at hgo
  split at hgo
  rotate_left
  · cases hgo
  rename_i leaves hleaves
  have hl0 := lv_entry [Value.ref b] (n := 9) (by rw [lg_len]; exact Nat.le_of_ble_eq_true rfl)
  rw [lg_entry_eq]
  generalize (lg_sl [Value.ref b] ++ List.replicate (9 - (lg_sl [Value.ref b]).length) Slot.unset).toArray = ls at hl0 ⊢
  have hin := xfind_in (M := xLaw) (pc := 0)
  refine xrun_ok (en := e) (below := below) (Q := lw_Z below #[Value.ref b] s) (n0 := 0) (ad0 := fun _ => 0) C hcf xGlob_ok xltab_ok xlwc_ok 100000 _ _ _ _ _ hleaves hin.1 (fun lf hlf => ?_) 0 hin.2 (fun _ => 0) s.heap [] ls (fun _ _ => rfl) (Nat.le_refl _) (xsat0 xs) ⟨fun k q h => (by cases h), ⟨fun i j p9 q9 h => (by cases h), fun k q h => (by cases h)⟩⟩ va_S.rf hl0
  have h := List.all_eq_true.mp hgo lf hlf
  intro ad H locs ls9 he hk0 hk1 ha hs hw hS hl9
  unfold xgoE at h
  split at h
  · rename_i E pc k aux lv x pe hh n ce sl
    rw [Bool.and_eq_true, Bool.and_eq_true, decide_eq_true_eq] at h
    obtain ⟨rfl, h1, h2⟩ := h
    refine ⟨fun _ => ?_, fun z => by cases z⟩
    have hve := xlwc_ok _ he
    have hk0 : k = 4 := hk0 rfl
    subst hk0
    have hve : decode code pc = .ok (.ireturn, 1) := hve
    refine W.widen (Nat.le_of_ble_eq_true h1) (Nat.le_of_ble_eq_true h2) (va_forget hS.2.2 (W.base ?_))
    exact lw_ret (Drawn.sameBut.refl s.drawn lw_cs) hx hb hr hlocks hve
  · cases h
end XS
set_option maxHeartbeats 4000000 in
theorem lw_walk (l : Launch) (hflags : l.flags = flags0) (b : Addr) (xs : List Int32) : MetFree l x (headSpec (Jvm.Cond.code x code maxLocals ret :: tables_1) room_1) (lw_P b xs) (fun _ _ _ _ _ => True) lw_Q := by
  refine MetFree.of_bodyS (code := code) (maxLocals := maxLocals) (ret := ret) (by decide) ?_ ?_
  · intro args s m h hn
    obtain ⟨meth, c, h1, h2, h3, h4, h5, h6, -, -⟩ := Cond.code_spec hn (atoms_spec (ws := Jvm.Cond.code x code maxLocals ret :: tables_1) h _ List.mem_cons_self)
    exact ⟨meth, c, h1, h2, h3, h4, h5, h6⟩
  · intro p e s m args below meth c s₁ B hml0 hP _
    obtain ⟨rfl, hx, hbd, hgv⟩ := hP
    obtain ⟨scr, harrAt, hlist, hof, hsmall⟩ := hx
    obtain ⟨hcb, hkn, -, -⟩ := State.arrayAt?_spec harrAt
    have hown : s.vm.findClass R_law = some m.cls := findClass_of_methodNamed B.named
    have hts0 : ∀ c ∈ (Jvm.Cond.code x code maxLocals ret :: tables_1), c.before #[Value.ref b] s = true := atoms_spec (ws := Jvm.Cond.code x code maxLocals ret :: tables_1) B.pre
    have hts : ∀ w ∈ lw_tbl, w.before #[Value.ref b] s = true := k2_hts_sels lw_privs (fun w hw => hts0 w (List.mem_cons_of_mem _ hw)) lw_privs_ok
    have hml : c.maxLocals = 9 := B.maxLocals_eq (hts0 _ List.mem_cons_self)
    have X₀ : Stand p l e room_1 s m #[Value.ref b] below meth c s₁ [] 0 0 := Stand.of_body B
    have hh0 : s₁.heap = s.heap := by rw [B.state]; rfl
    have hsz : scr.slots.size = xs.length := by rw [← Array.length_toList, hlist, List.length_map]
    have hval : ∀ j : Nat, j < xs.length → scr.slots[j]? = some (.int (xs.getD j 0)) := fun j hj => by
      rw [← Array.getElem?_toList, hlist]
      simp [hj]
    have hbl : b < s.heap.size := (Array.getElem?_eq_some_iff.mp hcb).1
    have hX : va_X b xs.length (fun j => xs.getD j 0) s s.heap := ⟨scr, hcb, hof, hkn, hsz, hval⟩
    have K : W p l e room_1 s m #[Value.ref b] below meth c s₁.heap [] 0 0 (lw_Z below #[Value.ref b] s) (entryFrame m ([Value.ref b] : List Value).toArray 9) := by
      rw [hh0]
      exact whole_start l hflags hbd ⟨B.exec, B.bytes, B.returns, hml, hown, hts, hX, hbl, B.notSynchronized, hgv⟩
    obtain ⟨t, a1, o, b1, b2, b3⟩ := K s₁ rfl X₀
    exact ⟨t, o, a1, b1, b2, b3⟩
theorem lw_pre_spec {args : Array Value} {s : State} (h : (Jvm.Cond.and given_1 narrow_1).before args s = true) (hr : rest_1_c.before args s = true) : ∃ (b : Addr) (xs : List Int32), lw_P b xs args s := by
  have hs := flat_of_before _ h
  have hq := flat_of_before _ hr
  have hc : (Cond.count 1).before args s = true := hs _ (by decide +kernel)
  have harr : (Cond.arrayOf (.arg 0) .int).before args s = true := hs _ (by decide +kernel)
  have hle : (Cond.le (.length (.arg 0)) (.int 9)).before args s = true := hs _ (by decide +kernel)
  have hlen : (Cond.isInt (.length (.arg 0))).before args s = true := hq _ (by decide +kernel)
  have hall : (Cond.all (.arg 0) (.isInt (.elem (.arg 0) (.index 0)))).before args s = true := hq _ (by decide +kernel)
  obtain ⟨b, xs, hb, hx⟩ := State.ints_of_pre rfl harr hlen hall
  have hsm : xs.length < 2 ^ 31 := hx.choose_spec.2.2.2
  have hev : (Term.length (.arg 0)).eval args s none [] s = some (.int xs.length.toInt32) := hx.length_eval hb
  have hv := Cond.le_ints hev (show (Term.int 9).eval args s none [] s = some (.int 9) from rfl)
  have hd : xs.length.toInt32 ≤ 9 := by
    simpa [Cond.before, Cond.holds, hv] using hle
  have hN : xs.length ≤ 9 := (Int32.ofNat_le_ofNat hsm (by decide)).mp (show Int32.ofNat xs.length ≤ Int32.ofNat 9 from hd)
  exact ⟨b, xs, Cond.one_arg hc (show args[0]? = some (.ref b) from hb), hx, hN, h⟩
theorem lw_comes (l : Launch) (hflags : l.flags = flags0) : Comes l x (Jvm.Cond.code x code maxLocals ret :: tables_1) room_1 (fun tb e args s => Calls_1 tb e args s ∧ rest_1 tb e args s ∧ Pre_1 tb e args s)
    (fun _ _ args s o t => lw_Q args s o t) := by
  intro p e ha hc hk s m args below hf hfit hheap happ hpre
  obtain ⟨b, xs, hP⟩ := lw_pre_spec hpre.2.2 hpre.2.1
  obtain ⟨k, o, h1, h2, h3, hQ⟩ := lw_walk l hflags b xs p e ha hc hk s m args below hf ((Spec.applies_iff_loose hf).mp happ).1 hP trivial
  exact ⟨k, o, h1, h2, h3, hQ⟩
theorem lw_frame {s t : State} {o : Outcome} {args : Array Value} (h : State.butDraws s t lw_cs (fun t1 => Framed s o t1 [] 600002 7302232)) :
    State.butDraws s t [Jvm.Choice.named "NaN.bits"] (fun t1 => Framed s o t1 (fieldLocs frame_1_writes args s ++ arrayLocs frame_1_arrays args s ++ staticLocs frame_1_statics s) 600002 7302232) := h
theorem lw_limb (L : Cond) (hL : ∀ (args : Array Value) (s t : State), L.after args s (.returned (some (.int 1))) t = true) :
    ArmFor flags0 classFile x code maxLocals ret World_1 tables_1 room_1 Calls_1 rest_1 Pre_1
      (fun tb e a s o t => postC L tb e a s o t ∧ State.butDraws s t [Jvm.Choice.named "NaN.bits"] (fun t1 => Framed s o t1 (fieldLocs frame_1_writes a s ++ arrayLocs frame_1_arrays a s ++ staticLocs frame_1_statics s) 600002 7302232)) := by
  intro l hflags _ _ p e ha hc hk s m args below hf hfit hheap happ hpre
  obtain ⟨k, o, h1, h2, h3, rfl, hF⟩ := lw_comes l hflags p e ha hc hk s m args below hf hfit hheap happ hpre
  exact ⟨k, _, h1, h2, h3, hL args s _, lw_frame hF⟩
theorem i_vc : Claimed_1_1 ∧ Claimed_1_2 := ⟨lw_limb limb_1_1 (fun args s t => by simp [limb_1_1, Cond.after, Cond.holds, Cond.value]), lw_limb limb_1_2 (fun args s t => Cond.after_iff.mpr (by
  first | (rw [show limb_1_2 = Cond.eq .result (.int 1) from rfl, Cond.eq_ints (x := 1) (y := 1) rfl rfl]; simp; done) | (simp [limb_1_2, Cond.value, Term.eval]; done)))⟩
