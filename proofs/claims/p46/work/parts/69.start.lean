/-! the start of the law (by wip/p46/gen69.py) -/
/-! THE CLAIM OUT OF ONE WALK OF THE LAW'S BODY. Your part is whole_start (and what it stands on); all else here is the same for every law, but numbers. -/
def R_law : String := "PackWrightLaw"
def lw_P (b : Addr) (xs : List Int32) (args : Array Value) (s : State) : Prop := args = #[.ref b] ∧ s.IntsAt b xs ∧ xs.length ≤ 260 ∧ (Jvm.Cond.and given_1 narrow_1).before args s = true
def lw_Q (_ : Array Value) (s : State) (o : Outcome) (t : State) : Prop := o = .returned (some (.int 1)) ∧ Framed s o t [] 732771 6903564
def lw_Z (below : List Frame) (a : Array Value) (s : State) : State → Prop := fun t => ∃ o, t.status = .running ∧ Ended t below o ∧ lw_Q a s o t
/-- the law's own end, with 1 on the stack, nothing written that was there before, its room as the claim has it -/
theorem lw_ret {p : Program} {l : Launch} {e : Env} {s : State} {m : MethodId} {below : List Frame} {meth : Method} {c : Code} {b : Nat} (hx : p.tables.exec = Jvm.exec) (hb : c.code = code) (hr : meth.sig.returnType = ret) (hlocks : meth.locks = false) {pc : Nat} {H : Heap} {ls : Array Slot} (hdg : decode code pc = .ok (.ireturn, 1)) : W p l e room_1 s m #[Value.ref b] below meth c H [] 732771 6903564 (lw_Z below #[Value.ref b] s) (F0 m pc ls [.int 1]) := by
  intro T hT X
  obtain ⟨fs, hret, hrun, hended, hW, hframe⟩ := X.leave (v := some (.int 1)) (hlocks := hlocks) (fun h => by rw [hr] at h; cases h)
  have hmeth' : T.vm.method? m = some meth := X.method'
  refine ⟨T.setFrames fs, ?_, .returned (some (.int 1)), hrun, hended, rfl, ⟨_, rfl⟩, hW, hframe⟩
  jvm_step X.here [X.here.top, hx, hb, hdg, hmeth', hr, ret, narrow_b1]
  (try refine ⟨rfl, ?_⟩); (try refine ⟨rfl, ?_⟩)
  first | (intro acts; rw [hret _ acts rfl rfl rfl]) | rw [hret _ _ rfl rfl rfl]
  exact Steps.refl _
/-- what holds at the law's entry: the machine, the code, the tables' words (any of lw_tbl by 'hts w (by decide +kernel)'), the script of L ints xs at the cell b, what the Statement gives of the start (any of its parts by flat_of_before) -/
def lw_At (p : Program) (s : State) (m : MethodId) (meth : Method) (c : Code) (b L : Nat) (xs : Nat → Int32) : Prop :=
  p.tables.exec = Jvm.exec ∧ c.code = code ∧ meth.sig.returnType = ret ∧ c.maxLocals = 20 ∧ s.vm.findClass R_law = some m.cls ∧ (∀ w ∈ lw_tbl, w.before #[Value.ref b] s = true) ∧ va_X b L xs s s.heap ∧ b < s.heap.size ∧ meth.locks = false ∧ (Jvm.Cond.and given_1 narrow_1).before #[Value.ref b] s = true
section XR
theorem xinst_ok : ∀ q ∈ (classes : List vw_C), Jvm.Cond.instantiable q.1 q.2.2 ∈ lw_tbl := List.forall_mem_cons.mpr ⟨List.mem_of_getElem? (i := 436) (by decide +kernel), List.forall_mem_cons.mpr ⟨List.mem_of_getElem? (i := 297) (by decide +kernel), List.forall_mem_cons.mpr ⟨List.mem_of_getElem? (i := 158) (by decide +kernel), List.forall_mem_cons.mpr ⟨List.mem_of_getElem? (i := 1034) (by decide +kernel), List.forall_mem_cons.mpr ⟨List.mem_of_getElem? (i := 362) (by decide +kernel), List.forall_mem_cons.mpr ⟨List.mem_of_getElem? (i := 212) (by decide +kernel), List.forall_mem_cons.mpr ⟨List.mem_of_getElem? (i := 594) (by decide +kernel), List.forall_mem_cons.mpr ⟨List.mem_of_getElem? (i := 125) (by decide +kernel), List.forall_mem_cons.mpr ⟨List.mem_of_getElem? (i := 981) (by decide +kernel), List.forall_mem_cons.mpr ⟨List.mem_of_getElem? (i := 964) (by decide +kernel), List.forall_mem_cons.mpr ⟨List.mem_of_getElem? (i := 886) (by decide +kernel), List.forall_mem_cons.mpr ⟨List.mem_of_getElem? (i := 574) (by decide +kernel), fun _ h => absurd h List.not_mem_nil⟩⟩⟩⟩⟩⟩⟩⟩⟩⟩⟩⟩
theorem xstrs_ok : xStr.all (fun q => decide (Jvm.Cond.exactly (Term.string "PackWright" q.1) "java/lang/String" ∈ flatC (Jvm.Cond.and given_1 narrow_1))) = true := by decide +kernel
theorem xstr_in {q : Nat × String} (h : q ∈ xStr) : Jvm.Cond.stringRef "PackWright" q.1 q.2 ∈ lw_tbl := by
  unfold xStr at h
  obtain ⟨w, hw, h2⟩ := List.mem_filterMap.mp h
  split at h2
  · cases h2; exact hw
  · cases h2
theorem xraI {s : State} {args : Array Value} {ty : FieldType} (hty : ty = .int ∨ ty = .boolean ∨ ty = .byte) (h : (Jvm.Cond.arrayClass ty).before args s = true) : ∃ c : ClassId, ArrOfT s c ty ∧ va_RA s c ty := by
  obtain ⟨c, k, comp, h1, h2, h3⟩ := Cond.arrayClass_spec h
  refine ⟨c, fun n z => ⟨fun k h => (by cases h), k, h2, comp, h3⟩, ?_⟩
  rcases hty with rfl | rfl | rfl <;> exact h1
theorem xraO {s : State} {args : Array Value} {C : String} (h : (Jvm.Cond.arrayOver (.object C)).before args s = true) : ∃ c : ClassId, ArrOfT s c (.object C) ∧ va_RA s c (.object C) := by
  obtain ⟨comp, c, k, h1, -, h3, h4, h5⟩ := Cond.arrayOver_spec h
  exact ⟨c, fun n z => ⟨fun k h => (by cases h), k, h3, comp, h4⟩, k, comp, h3, h4, h1, h5⟩
theorem xraA {s : State} {args : Array Value} {t : FieldType} (h : (Jvm.Cond.arrayOver (.array t)).before args s = true) : ∃ c : ClassId, ArrOfT s c (.array t) ∧ va_RA s c (.array t) := by
  obtain ⟨c, k, comp, h1, h2, h3⟩ := Cond.arrayClass_spec (xarrC h)
  exact ⟨c, fun n z => ⟨fun k h => (by cases h), k, h2, comp, h3⟩, h1⟩
/-- the tables at the start -/
theorem xsta0 {s : State} {b L : Nat} {xs : Nat → Int32} (hts : ∀ w ∈ lw_tbl, w.before #[Value.ref b] s = true) (hgv : (Jvm.Cond.and given_1 narrow_1).before #[Value.ref b] s = true) (hX : va_X b L xs s s.heap) (hbl : b < s.heap.size) : ∃ (D : va_G) (aC : Nat → ClassId), xSta D aC (fun q => s.heap.size ≤ q) xs b (some (L, xs)) s := by
  have hs := flat_of_before _ hgv
  have hT : ∀ w ∈ xTs, w.before #[Value.ref b] s = true := fun w hw => hts w (List.mem_filter.mp hw).1
  have hk : ∀ c : Nat, ∃ z : ClassId × (Nat → Nat), ∀ q : vw_C, (classes : List vw_C)[c]? = some q → u_Kn s q.1 q.2.1 q.2.2 z.1 z.2 := by
    intro c
    cases hc : (classes : List vw_C)[c]? with
    | none => exact ⟨(0, fun _ => 0), fun q h => nomatch h⟩
    | some q =>
      have hq := List.mem_of_getElem? hc
      obtain ⟨cC, iS, h⟩ := u_known (C := q.1) (T := q.2.1) (N := q.2.2) (n := q.2.2) hT (xw_cl q hq) (hts _ (xinst_ok q hq))
      exact ⟨(cC, iS), fun q9 h9 => by cases h9; exact h⟩
  obtain ⟨f, hf⟩ := Classical.axiomOfChoice hk
  have w3 : (Jvm.Cond.arrayOver (.object "PackWright$Version")).before #[Value.ref b] s = true := hts _ (List.mem_of_getElem? (i := 623) (by decide +kernel))
  have w4 : (Jvm.Cond.arrayOver (.object "PackWright$Pack")).before #[Value.ref b] s = true := hts _ (List.mem_of_getElem? (i := 592) (by decide +kernel))
  have w5 : (Jvm.Cond.arrayOver (.object "PackWright$Claim")).before #[Value.ref b] s = true := hts _ (List.mem_of_getElem? (i := 600) (by decide +kernel))
  have w6 : (Jvm.Cond.arrayOver (.array .int)).before #[Value.ref b] s = true := hts _ (List.mem_of_getElem? (i := 581) (by decide +kernel))
  have w7 : (Jvm.Cond.arrayOver (.array .boolean)).before #[Value.ref b] s = true := hts _ (List.mem_of_getElem? (i := 584) (by decide +kernel))
  have w8 : (Jvm.Cond.arrayOver (.array (.array .int))).before #[Value.ref b] s = true := hts _ (List.mem_of_getElem? (i := 580) (by decide +kernel))
  obtain ⟨c0, h0⟩ := xraI (ty := .int) (Or.inl rfl) (hts _ (List.mem_of_getElem? (i := 615) (by decide +kernel)))
  obtain ⟨c1, h1⟩ := xraI (ty := .boolean) (Or.inr (Or.inl rfl)) (hts _ (List.mem_of_getElem? (i := 616) (by decide +kernel)))
  obtain ⟨c2, h2⟩ := xraI (ty := .byte) (Or.inr (Or.inr rfl)) (hts _ (List.mem_of_getElem? (i := 121) (by decide +kernel)))
  obtain ⟨c3, h3⟩ := xraO w3
  obtain ⟨c4, h4⟩ := xraO w4
  obtain ⟨c5, h5⟩ := xraO w5
  obtain ⟨c6, h6⟩ := xraA w6
  obtain ⟨c7, h7⟩ := xraA w7
  obtain ⟨c8, h8⟩ := xraA w8
  refine ⟨(fun c => (f c).1, fun c => (f c).2), fun ti => match ti with | 0 => c0 | 1 => c1 | 2 => c2 | 3 => c3 | 4 => c4 | 5 => c5 | 6 => c6 | 7 => c7 | _ => c8, ⟨fun c q h => hf c q h, fun k q h => ?_⟩, ?_, ?_, ?_, ?_, ?_, ?_, ?_⟩
  · match k, h with
    | 0, h => cases h; exact h0
    | 1, h => cases h; exact h1
    | 2, h => cases h; exact h2
    | 3, h => cases h; exact h3
    | 4, h => cases h; exact h4
    | 5, h => cases h; exact h5
    | 6, h => cases h; exact h6
    | 7, h => cases h; exact h7
    | 8, h => cases h; exact h8
    | n + 9, h => exact absurd h (by simp [xtys])
  · exact fun w hw => va_Nw.of (xng_tab (List.mem_filter.mp hw).2) (hts w (List.mem_filter.mp hw).1)
  · intro ti C hti hC
    match ti, hti, hC with
    | 0, _, hC => cases hC
    | 1, _, hC => cases hC
    | 2, _, hC => cases hC
    | 3, _, hC => cases hC; exact w3
    | 4, _, hC => cases hC; exact w4
    | 5, _, hC => cases hC; exact w5
    | n + 6, h, _ => omega
  · intro ty hty
    rcases hty with rfl | rfl | rfl
    · exact w6
    · exact w7
    · exact w8
  · intro q hq
    have he : (Jvm.Cond.exactly (Term.string "PackWright" q.1) "java/lang/String").before #[Value.ref b] s = true := hs _ (of_decide_eq_true (List.all_eq_true.mp xstrs_ok q hq))
    obtain ⟨a, -, -, -, ha, -⟩ := Cond.exactly_spec he
    exact ⟨a, vk_R.of (hts _ (xstr_in hq)) ha⟩
  · exact vx_Zqof (hts _ (List.mem_of_getElem? (i := 81) (by decide +kernel))) (hts _ (List.mem_of_getElem? (i := 36) (by decide +kernel))) (hs _ (by decide +kernel)) (fun a h1 h2 => absurd h2 (Nat.not_le.mpr h1))
  · exact vx_Zqof (hts _ (List.mem_of_getElem? (i := 83) (by decide +kernel))) (hts _ (List.mem_of_getElem? (i := 36) (by decide +kernel))) (hs _ (by decide +kernel)) (fun a h1 h2 => absurd h2 (Nat.not_le.mpr h1))
  · rintro L9 ys h9
    cases h9
    exact ⟨rfl, hX, hbl, Nat.not_le.mpr hbl⟩
section
variable {p : Program} {l : Launch} {en : Env} {s : State} {m : MethodId} {args : Array Value} {below : List Frame} {meth : Method} {c : Code} {Q : State → Prop} {xs : Nat → Int32} {bS L : Nat} {aC : Nat → ClassId} {D : va_G} {A : Nat → Prop} {M : XM}
/-- a run from an empty world -/
theorem law_go (C : xCtx p l s m args meth c M D aC A xs bS (some (L, xs))) (hl : l.stackTraces = false) (hV : ∀ e ∈ xmC M, xVE xMs M e) {pc ce sl : Nat} {lv : XL} {st : List Value} {Qf : XLf → Prop} (hg : Gw (some (L, xs)) M pc lv st (xhk []) 0 ce sl Qf) (hlv : xal 0 lv st [] = true) {H : Heap} {locs : List Loc} {ls : Array Slot} (hS : va_S A s.heap H locs) (hls : lv_has ls (xmN M) (evL (ev (fun _ => 0) xs bS) lv))
    (kk : ∀ lf, Qf lf → xleaf p l en s m args below meth c Q xs bS aC D A M 0 (fun _ => 0) lf) : W p l en (xmR M) s m args below meth c H locs ce sl Q (F0 m pc ls (evS (ev (fun _ => 0) xs bS) st)) := by
  obtain ⟨lf, hq, f0, d0, F0, hr⟩ := hg [] rfl (fun _ _ => rfl)
  have h := hr f0 d0 F0 (Nat.le_refl _) (Nat.le_refl _) (Nat.le_refl _)
  have hin := xfind_in (M := M) (pc := pc)
  exact xrun_ok (en := en) (below := below) (Q := Q) (n0 := 0) (ad0 := fun _ => 0) C (xmeth_ok hl xGlob_ok xMs_ok d0) xGlob_ok hV f0 _ _ _ _ _ h hin.1 (fun lf' hlf => by rw [List.mem_singleton.mp hlf]; exact kk lf hq) pc hin.2 (fun _ => 0) H locs ls (fun _ _ => rfl) (Nat.le_refl _) hlv (fun i q h => by cases h) ⟨fun k q h => (by cases h), ⟨fun i j p9 q9 h => (by cases h), fun k q h => (by cases h)⟩⟩ hS hls
theorem xlk_memL {i : Nat} {v : Value} {l : XL} (h : xlk l i = some v) (E : Value → Value) : (i, E v) ∈ evL E l := List.mem_map.mpr ⟨(i, v), xlk_mem h, rfl⟩
end
theorem law_loop {p : Program} {l : Launch} {en : Env} {s : State} {m : MethodId} {below : List Frame} {meth : Method} {c : Code} {xs : Nat → Int32} {b L : Nat} {aC : Nat → ClassId} {D : va_G} {A : Nat → Prop} (hL : L ≤ 260) (hx : p.tables.exec = Jvm.exec) (hb : c.code = code) (hr : meth.sig.returnType = ret) (hlocks : meth.locks = false) (hA : ∀ q, A q → s.heap.size ≤ q) (C : xCtx p l s m #[Value.ref b] meth c xLaw D aC A xs b (some (L, xs))) (C2 : xCtx p l s m #[Value.ref b] meth c xLw0 D aC A xs b (some (L, xs))) (hl : l.stackTraces = false) :
    ∀ (k t ce sl : Nat) (H : Heap) (locs : List Loc) (ls : Array Slot), t + k = 3 → ce + 1613 * k ≤ 712771 → sl + 14491 * k ≤ 6703564 → va_S A s.heap H locs → lv_has ls 20 (evL (ev (fun _ => 0) xs b) [(0, .retAddr 0), (1, .int (zI (t : Int)))]) → W p l en room_1 s m #[Value.ref b] below meth c H locs ce sl (lw_Z below #[Value.ref b] s) (F0 m 2 ls []) := by
  have hLs : L ≤ 100000 := by omega
  intro k
  induction k with
  | zero =>
    intro t ce sl H locs ls hk hce hsl hS hls
    obtain rfl : t = 3 := by omega
    refine law_go (M := xLw0) C2 hl xLw0_ok (pc := 2) (st := []) (t_lhead (t := 3)) rfl hS hls (fun lf hq => ?_)
    obtain ⟨k1, k2, e9, lv9, st9, pe, hh, n9, ce9, sl9⟩ := lf
    obtain ⟨h1, h2, h3, h4, h5, h6⟩ := hq
    dsimp only at h1 h2 h3 h4 h5 h6
    subst h3
    subst h4
    subst h5
    subst h6
    intro ad H2 locs2 ls2 he hk0 hk3 hka ha hn hw hsat hWl hS2 hls2
    dsimp only at h2 hls2 ⊢
    rw [h2]
    refine law_go (M := xLaw) C hl xlwc_ok (pc := 3) (st := [.int (zI ((3 : Nat) : Int))]) t_lend rfl hS2 hls2 (fun lf hq => ?_)
    obtain ⟨k1, k2, e9, lv9, st9, pe, hh, n9, ce9, sl9⟩ := lf
    obtain ⟨h1, h2, h3, h4, h5, h6⟩ := hq
    dsimp only at h1 h2 h3 h4 h5 h6
    subst h1
    subst h4
    intro ad H3 locs3 ls3 he hk0 hk3 hka ha hn hw hsat hWl hS3 hls3
    obtain ⟨pc9, i9, kd9, aux9⟩ := e9
    dsimp only at h2 h3 he hk0
    subst h2
    subst h3
    have hk0 : kd9 = 4 := hk0 rfl
    subst hk0
    have hve := xlwc_ok _ he
    have hve : decode code 794 = .ok (.ireturn, 1) := hve
    refine W.widen (show ce9 ≤ 732771 by omega) (show sl9 ≤ 6903564 by omega) (va_forget (fun q hq => hA _ (hS3.2.2 q hq)) ?_)
    exact lw_ret hx hb hr hlocks hve
  | succ k ih =>
    intro t ce sl H locs ls hk hce hsl hS hls
    refine law_go (M := xLw0) C2 hl xLw0_ok (pc := 2) (st := []) (t_lhead (t := t)) rfl hS hls (fun lf hq => ?_)
    obtain ⟨k1, k2, e9, lv9, st9, pe, hh, n9, ce9, sl9⟩ := lf
    obtain ⟨h1, h2, h3, h4, h5, h6⟩ := hq
    dsimp only at h1 h2 h3 h4 h5 h6
    subst h3
    subst h4
    subst h5
    subst h6
    intro ad H2 locs2 ls2 he hk0 hk3 hka ha hn hw hsat hWl hS2 hls2
    dsimp only at h2 hls2 ⊢
    rw [h2]
    refine law_go (M := xLaw) C hl xlwc_ok (pc := 3) (st := [.int (zI (t : Int))]) (t_time hLs (show t < 3 by omega) (by omega) (by omega)) rfl hS2 hls2 (fun lf hq => ?_)
    obtain ⟨k1, k2, e9, lv9, st9, pe, hh, n9, ce9, sl9⟩ := lf
    obtain ⟨h1, h2, h3, h4, h5, h6, h7⟩ := hq
    dsimp only at h1 h2 h3 h4 h5 h6 h7
    subst h3
    intro ad H3 locs3 ls3 he hk0 hk3 hka ha hn hw hsat hWl hS3 hls3
    dsimp only at hls3 ⊢
    rw [h2]
    refine ih (t + 1) ce9 sl9 H3 locs3 ls3 (by omega) (by omega) (by omega) hS3 ⟨hls3.1, hls3.2.1, fun q hq => ?_⟩
    rcases List.mem_cons.mp hq with rfl | hq
    · exact hls3.2.2 _ (xlk_memL h4 (ev ad xs b))
    · rcases List.mem_cons.mp hq with rfl | hq
      · exact hls3.2.2 _ (xlk_memL h5 (ev ad xs b))
      · cases hq
theorem whole_start {p : Program} {e : Env} {s : State} {m : MethodId} {below : List Frame} {meth : Method} {c : Code} (l : Launch) (hflags : l.flags = flags0) {b L : Nat} {xs : Nat → Int32} (hL : L ≤ 260) (C0 : lw_At p s m meth c b L xs) : W p l e room_1 s m #[Value.ref b] below meth c s.heap [] 0 0 (lw_Z below #[Value.ref b] s) (entryFrame m ([Value.ref b] : List Value).toArray 20) := by
  obtain ⟨hx, hb, hr, hml, hown, hts, hX, hbl, hlocks, hgv⟩ := C0
  obtain ⟨D, aC, hSta⟩ := xsta0 hts hgv hX hbl
  have hl : l.stackTraces = false := by
    unfold Launch.stackTraces
    rw [hflags]
    decide +kernel
  have C : xCtx p l s m #[Value.ref b] meth c xLaw D aC (fun q => s.heap.size ≤ q) xs b (some (L, xs)) :=
    ⟨hx, hb, hml, hr, hown, fun w hw => hts w (List.mem_filter.mp hw).1, hlocks, fun h => absurd h (by decide), hSta, fun q h => h, hl⟩
  have C2 : xCtx p l s m #[Value.ref b] meth c xLw0 D aC (fun q => s.heap.size ≤ q) xs b (some (L, xs)) :=
    ⟨hx, hb, hml, hr, hown, fun w hw => hts w (List.mem_filter.mp hw).1, hlocks, fun h => absurd h (by decide), hSta, fun q h => h, hl⟩
  have hl0 := lv_entry [Value.ref b] (n := 20) (by rw [lg_len]; exact Nat.le_of_ble_eq_true rfl)
  rw [lg_entry_eq]
  generalize (lg_sl [Value.ref b] ++ List.replicate (20 - (lg_sl [Value.ref b]).length) Slot.unset).toArray = ls at hl0 ⊢
  refine law_go (M := xLaw) C hl xlwc_ok (pc := 0) (st := []) t_lbeg rfl va_S.rf hl0 (fun lf hq => ?_)
  obtain ⟨k1, k2, e9, lv9, st9, pe, hh, n9, ce9, sl9⟩ := lf
  obtain ⟨h1, h2, h3, h4, h5, h6, h7⟩ := hq
  dsimp only at h1 h2 h3 h4 h5 h6 h7
  subst h3
  intro ad H3 locs3 ls3 he hk0 hk3 hka ha hn hw hsat hWl hS3 hls3
  dsimp only at hls3 ⊢
  rw [h2]
  refine law_loop hL hx hb hr hlocks (fun q h => h) C C2 hl 3 0 ce9 sl9 H3 locs3 ls3 (by omega) (by omega) (by omega) hS3 ⟨hls3.1, hls3.2.1, fun q hq => ?_⟩
  rcases List.mem_cons.mp hq with rfl | hq
  · exact hls3.2.2 _ (xlk_memL h4 (ev ad xs b))
  · rcases List.mem_cons.mp hq with rfl | hq
    · exact hls3.2.2 _ (xlk_memL h5 (ev ad xs b))
    · cases hq
end XR
set_option maxHeartbeats 4000000 in
theorem lw_walk (l : Launch) (hflags : l.flags = flags0) (b : Addr) (xs : List Int32) : MetFree l x (headSpec (Jvm.Cond.code x code maxLocals ret :: tables_1) room_1) (lw_P b xs) (fun _ _ _ _ _ => True) lw_Q := by
  refine MetFree.of_bodyS (code := code) (maxLocals := maxLocals) (ret := ret) (by decide) ?_ ?_
  · intro args s m h hn
    obtain ⟨meth, c, h1, h2, h3, h4, h5, h6, -, -⟩ := Cond.code_spec hn (atoms_spec (ws := Jvm.Cond.code x code maxLocals ret :: tables_1) h _ List.mem_cons_self)
    exact ⟨meth, c, h1, h2, h3, h4, h5, h6⟩
  · intro p e s m args below meth c s₁ B hml0 hP _
    obtain ⟨rfl, hx, hbd, hgv⟩ := hP
    obtain ⟨scr, harrAt, hlist, hof, hsmall⟩ := hx
    obtain ⟨hcb, hkn, -, -⟩ := State.arrayAt?_spec harrAt
    have hown : s.vm.findClass R_law = some m.cls := findClass_of_methodNamed B.named
    have hts0 : ∀ c ∈ (Jvm.Cond.code x code maxLocals ret :: tables_1), c.before #[Value.ref b] s = true := atoms_spec (ws := Jvm.Cond.code x code maxLocals ret :: tables_1) B.pre
    have hts : ∀ w ∈ lw_tbl, w.before #[Value.ref b] s = true := k2_hts_sels lw_privs (fun w hw => hts0 w (List.mem_cons_of_mem _ hw)) lw_privs_ok
    have hml : c.maxLocals = 20 := B.maxLocals_eq (hts0 _ List.mem_cons_self)
    have X₀ : Stand p l e room_1 s m #[Value.ref b] below meth c s₁ [] 0 0 := Stand.of_body B
    have hh0 : s₁.heap = s.heap := by rw [B.state]; rfl
    have hsz : scr.slots.size = xs.length := by rw [← Array.length_toList, hlist, List.length_map]
    have hval : ∀ j : Nat, j < xs.length → scr.slots[j]? = some (.int (xs.getD j 0)) := fun j hj => by
      rw [← Array.getElem?_toList, hlist]
      simp [hj]
    have hbl : b < s.heap.size := (Array.getElem?_eq_some_iff.mp hcb).1
    have hX : va_X b xs.length (fun j => xs.getD j 0) s s.heap := ⟨scr, hcb, hof, hkn, hsz, hval⟩
    have K : W p l e room_1 s m #[Value.ref b] below meth c s₁.heap [] 0 0 (lw_Z below #[Value.ref b] s) (entryFrame m ([Value.ref b] : List Value).toArray 20) := by
      rw [hh0]
      exact whole_start l hflags hbd ⟨B.exec, B.bytes, B.returns, hml, hown, hts, hX, hbl, B.notSynchronized, hgv⟩
    obtain ⟨t, a1, o, b1, b2, b3⟩ := K s₁ rfl X₀
    exact ⟨t, o, a1, b1, b2, b3⟩
theorem lw_pre_spec {args : Array Value} {s : State} (h : (Jvm.Cond.and given_1 narrow_1).before args s = true) (hr : rest_1_c.before args s = true) : ∃ (b : Addr) (xs : List Int32), lw_P b xs args s := by
  have hs := flat_of_before _ h
  have hq := flat_of_before _ hr
  have hc : (Cond.count 1).before args s = true := hs _ (by decide +kernel)
  have harr : (Cond.arrayOf (.arg 0) .int).before args s = true := hs _ (by decide +kernel)
  have hle : (Cond.le (.length (.arg 0)) (.int 260)).before args s = true := hs _ (by decide +kernel)
  have hlen : (Cond.isInt (.length (.arg 0))).before args s = true := hq _ (by decide +kernel)
  have hall : (Cond.all (.arg 0) (.isInt (.elem (.arg 0) (.index 0)))).before args s = true := hq _ (by decide +kernel)
  obtain ⟨b, xs, hb, hx⟩ := State.ints_of_pre rfl harr hlen hall
  have hsm : xs.length < 2 ^ 31 := hx.choose_spec.2.2.2
  have hev : (Term.length (.arg 0)).eval args s none [] s = some (.int xs.length.toInt32) := hx.length_eval hb
  have hv := Cond.le_ints hev (show (Term.int 260).eval args s none [] s = some (.int 260) from rfl)
  have hd : xs.length.toInt32 ≤ 260 := by
    simpa [Cond.before, Cond.holds, hv] using hle
  have hN : xs.length ≤ 260 := (Int32.ofNat_le_ofNat hsm (by decide)).mp (show Int32.ofNat xs.length ≤ Int32.ofNat 260 from hd)
  exact ⟨b, xs, Cond.one_arg hc (show args[0]? = some (.ref b) from hb), hx, hN, h⟩
theorem lw_comes (l : Launch) (hflags : l.flags = flags0) : Comes l x (Jvm.Cond.code x code maxLocals ret :: tables_1) room_1 (fun tb e args s => Calls_1 tb e args s ∧ rest_1 tb e args s ∧ Pre_1 tb e args s)
    (fun _ _ args s o t => lw_Q args s o t) := by
  intro p e ha hc hk s m args below hf hfit hheap happ hpre
  obtain ⟨b, xs, hP⟩ := lw_pre_spec hpre.2.2 hpre.2.1
  obtain ⟨k, o, h1, h2, h3, hQ⟩ := lw_walk l hflags b xs p e ha hc hk s m args below hf ((Spec.applies_iff_loose hf).mp happ).1 hP trivial
  exact ⟨k, o, h1, h2, h3, hQ⟩
theorem lw_frame {s t : State} {o : Outcome} {args : Array Value} (h : Framed s o t [] 732771 6903564) :
    Framed s o t (fieldLocs frame_1_writes args s ++ arrayLocs frame_1_arrays args s ++ staticLocs frame_1_statics s) 732771 6903564 := h
theorem lw_limb (L : Cond) (hL : ∀ (args : Array Value) (s t : State), L.after args s (.returned (some (.int 1))) t = true) :
    ArmFor flags0 classFile x code maxLocals ret World_1 tables_1 room_1 Calls_1 rest_1 Pre_1
      (fun tb e a s o t => postC L tb e a s o t ∧ Framed s o t (fieldLocs frame_1_writes a s ++ arrayLocs frame_1_arrays a s ++ staticLocs frame_1_statics s) 732771 6903564) := by
  intro l hflags _ _ p e ha hc hk s m args below hf hfit hheap happ hpre
  obtain ⟨k, o, h1, h2, h3, rfl, hF⟩ := lw_comes l hflags p e ha hc hk s m args below hf hfit hheap happ hpre
  exact ⟨k, _, h1, h2, h3, hL args s _, lw_frame hF⟩
theorem i_vc : Claimed_1_1 ∧ Claimed_1_2 := ⟨lw_limb limb_1_1 (fun args s t => by simp [limb_1_1, Cond.after, Cond.holds, Cond.value]), lw_limb limb_1_2 (fun args s t => Cond.after_iff.mpr (by
  first | (rw [show limb_1_2 = Cond.eq .result (.int 1) from rfl, Cond.eq_ints (x := 1) (y := 1) rfl rfl]; simp; done) | (simp [limb_1_2, Cond.value, Term.eval]; done)))⟩
