section XZ
theorem xcon {α : Type} {b : Bool} {x : Option α} {q : α} (h : (bif b then x else none) = some q) : b = true ∧ x = some q := by
  cases b with
  | true => exact ⟨rfl, h⟩
  | false => cases h
theorem xnil_eq {t : List (Nat × Nat × Nat × Nat)} (h : xnil t = true) : t = [] := by
  cases t with
  | nil => rfl
  | cons a b => cases h
theorem xends_spec {M : XM} : ∀ {l : List XLf} {rs : List XR}, xends M l = some rs → ∀ q ∈ l, ∃ r ∈ rs, xend M q = some r
  | [], _, _, q, hq => by cases hq
  | a :: l, rs, h, q, hq => by
    unfold xends at h
    split at h
    · rename_i r1 rs1 h1 h2
      obtain rfl := Option.some.inj h
      rcases List.mem_cons.mp hq with rfl | hq
      · exact ⟨r1, List.mem_cons_self, h1⟩
      · obtain ⟨r, h3, h4⟩ := xends_spec h2 q hq
        exact ⟨r, List.mem_cons_of_mem _ h3, h4⟩
    · cases h
theorem lv_args_ev (ad : Nat → Nat) (xs : Nat → Int32) (bS : Nat) : ∀ (as : List Value) (i : Nat), lv_args i (evS (ev ad xs bS) as) = evL (ev ad xs bS) (lv_args i as)
  | [], _ => rfl
  | v :: t, i => by
    show (i, ev ad xs bS v) :: lv_args (if (ev ad xs bS v).category = 2 then i + 2 else i + 1) (evS (ev ad xs bS) t) = (i, ev ad xs bS v) :: evL (ev ad xs bS) (lv_args (if v.category = 2 then i + 2 else i + 1) t)
    rw [ev_cat, lv_args_ev ad xs bS t]
theorem lg_len (vs : List Value) : (lg_sl vs).length = xcats vs := by
  unfold lg_sl xcats
  induction vs with
  | nil => rfl
  | cons v t ih =>
    rw [List.flatMap_cons, List.length_append, ih, List.map_cons, List.sum_cons]
    rcases lv_cat v with h | h
    · simp [h]
    · simp [h]
section
variable {p : Program} {l : Launch} {en : Env} {s : State} {m : MethodId} {args : Array Value} {below : List Frame} {meth : Method} {c : Code}
variable {xs : Nat → Int32} {bS : Nat} {aC : Nat → ClassId} {D : va_G} {A : Nat → Prop} {scr : Option Nat} {M : XM} {Ms : List XM} {cls : Nat → Nat} {cf : XCf} {n0 : Nat} {ad0 : Nat → Nat}
theorem xend_ok (C : xCtx p l s m args meth c M D aC A xs bS none) (hTh : xThrOk) (hV : ∀ e ∈ xmC M, xVE Ms M e) {leaves : List XLf} {rs : List XR} (h : xends M leaves = some rs) :
    ∀ lf ∈ leaves, xleaf p l en s m args below meth c (vx_MQ below (xQc D aC A ad0 xs bS n0 rs) (xXc D aC A ad0 xs bS n0 rs) args s (xmR M).cells (xmR M).slots A) xs bS aC D A M n0 ad0 lf := by
  intro lf hlf ad H locs ls he hk0 hk1 ha hs hw hS hl
  obtain ⟨r, hr, hx⟩ := xends_spec h lf hlf
  obtain ⟨hexec, hb, hml, hret, hown, hts, hlocks, hname, htab, hSta, hA, hX, htr, hmask⟩ := id C
  obtain ⟨kd, E, e, lv, st, pe, hh, n, ce, sl⟩ := lf
  have hve := hV e he
  unfold xVE at hve
  dsimp only at hk0 hk1 hs hw hl ⊢
  unfold xend at hx
  split at hx
  · rename_i E' e' lv' st' pe' h' n' ce' sl' heq
    cases heq
    rw [hk0 rfl] at hve
    refine ⟨fun _ => ?_, fun z => by cases z⟩
    obtain ⟨hb1, hx⟩ := xcon hx
    rw [Bool.and_eq_true] at hb1
    split at hx
    rotate_left
    · cases hx
    rename_i v hv
    obtain rfl := Option.some.inj hx
    refine W.widen (Nat.le_of_ble_eq_true hb1.1) (Nat.le_of_ble_eq_true hb1.2) ?_
    refine vx_ret ?_
    have hq : ∀ (t : State) (o : Outcome), t.heap = H → o = .returned (v.map (ev ad xs bS)) → xQc D aC A ad0 xs bS n0 rs args s o t := fun t o ht ho => ⟨⟨_, hr, rfl, ad, ha, ho, hs, by rw [ht]; exact hw⟩, hS.F ht⟩
    have hret : meth.sig.returnType = M.2.2.2.1 := hret
    obtain ⟨rt, hrt⟩ : ∃ rt, rt = M.2.2.2.1 := ⟨_, rfl⟩
    rw [← hrt] at hv hret
    obtain ⟨i, hi⟩ : ∃ i, i = e.2.1 := ⟨_, rfl⟩
    rw [← hi] at hv hve
    clear hrt hi
    unfold xretv at hv
    split at hv
    · obtain rfl := Option.some.inj hv
      exact W.vret hexec hb hret (fun t ht hW => hq t _ ht rfl) hS.2.2 hve hlocks
    · rename_i v0
      obtain ⟨hok, hv⟩ := xcon hv
      obtain rfl := Option.some.inj hv
      obtain ⟨x, hxv⟩ := xint_ev (ad := ad) (xs := xs) (bS := bS) hok
      show W p l en (xmR M) s m args below meth c H locs _ _ _ (F0 m e.1 ls [ev ad xs bS v0])
      rw [hxv]
      exact W.iret (v := x) hexec hb hret (fun t ht hW => hq t _ ht (by rw [Option.map_some, hxv])) hS.2.2 hve hlocks
    · rename_i x
      obtain ⟨hok, hv⟩ := xcon hv
      obtain rfl := Option.some.inj hv
      refine W.zret (ty := .boolean) (v := x) hexec hb hret ?_ (fun t ht hW => hq t _ ht rfl) hS.2.2 hve hlocks
      simp only [Bool.or_eq_true, decide_eq_true_eq] at hok
      rcases hok with rfl | rfl <;> decide
    · rename_i v0
      obtain ⟨hok, hv⟩ := xcon hv
      obtain rfl := Option.some.inj hv
      obtain ⟨x, hxv⟩ := xlong_ev (ad := ad) (xs := xs) (bS := bS) hok
      show W p l en (xmR M) s m args below meth c H locs _ _ _ (F0 m e.1 ls [ev ad xs bS v0])
      rw [hxv]
      exact W.lret (v := x) hexec hb hret (fun t ht hW => hq t _ ht (by rw [Option.map_some, hxv])) hS.2.2 hve hlocks
    · rename_i v0
      obtain ⟨hok, hv⟩ := xcon hv
      obtain rfl := Option.some.inj hv
      obtain ⟨x, hxv⟩ := xdbl_ev (ad := ad) (xs := xs) (bS := bS) hok
      show W p l en (xmR M) s m args below meth c H locs _ _ _ (F0 m e.1 ls [ev ad xs bS v0])
      rw [hxv]
      exact W.dret (v := x) hexec hb hret (fun t ht hW => hq t _ ht (by rw [Option.map_some, hxv])) hS.2.2 hve hlocks
    · rename_i v0
      obtain ⟨hok, hv⟩ := xcon hv
      obtain rfl := Option.some.inj hv
      exact W.aret (v := ev ad xs bS v0) hexec hb hret (Or.inl ⟨_, rfl⟩) (xref_ev hok) (fun t ht hW => hq t _ ht rfl) hS.2.2 hve hlocks
    · rename_i v0
      obtain ⟨hok, hv⟩ := xcon hv
      obtain rfl := Option.some.inj hv
      exact W.aret (v := ev ad xs bS v0) hexec hb hret (Or.inr ⟨_, rfl⟩) (xref_ev hok) (fun t ht hW => hq t _ ht rfl) hS.2.2 hve hlocks
    · cases hv
  · rename_i E' e' lv' st' pe' h' n' ce' sl' heq
    cases heq
    obtain ⟨hk5, tl, haux⟩ := hk1 rfl
    rw [hk5] at hve
    refine ⟨fun _ => ?_, fun z => by cases z⟩
    obtain ⟨hb1, hx⟩ := xcon hx
    obtain rfl := Option.some.inj hx
    simp only [Bool.and_eq_true] at hb1
    obtain ⟨c1, c2, c3, c4, c5, c6⟩ := hb1
    have c6 := xnil_eq c6
    have hE2 := Nat.le_of_ble_eq_true c5
    obtain ⟨ik, is, ic, tx, -, hown9, hstr, d0, d3, dd, w1, w2, w3⟩ := hve E tl haux
    have htb0 : ∀ x ∈ c.exceptionTable.toList, False := by rw [htab (Or.inl rfl), c6]; intro x hx9; cases hx9
    obtain ⟨sa, hsa⟩ := hSta.2.2.2.2.1 _ hstr
    rw [← hown9] at hsa
    have hwd : ∀ w ∈ vx_atS (xmY M).cls ic (exN E) ["java/lang/RuntimeException", "java/lang/Exception"], w ∈ xTs ∨ w ∈ xNg := fun w hw9 => by
      rcases xThr_in hw9 with rfl | h9
      · exact Or.inl w3
      · exact hTh E hE2 w h9
    have hat : ∀ w ∈ vx_atS (xmY M).cls ic (exN E) ["java/lang/RuntimeException", "java/lang/Exception"], w.before args s = true := fun w hw9 => by
      rcases hwd w hw9 with h9 | h9
      · exact hts w h9
      · exact va_Nw.use (xng_tab (List.mem_filter.mp h9).2) (hSta.2.1 w h9)
    have hot : ∀ w, (w ∈ xTs ∨ w ∈ xNg) → vx_ot w = true := fun w h9 => by
      unfold vx_ot
      rcases h9 with h9 | h9
      · rw [(List.mem_filter.mp h9).2, Bool.or_true]
      · rw [xng_tab (List.mem_filter.mp h9).2, Bool.true_or]
    have hgood : ∀ w ∈ Jvm.Cond.classLink (xmY M).cls ik (exN E) :: Jvm.Cond.initialized (exN E) :: vx_atS (xmY M).cls ic (exN E) ["java/lang/RuntimeException", "java/lang/Exception"], vx_ot w = true := fun w hw9 => by
      rcases List.mem_cons.mp hw9 with rfl | hw9
      · exact hot _ (Or.inl w1)
      · rcases List.mem_cons.mp hw9 with rfl | hw9
        · exact hot _ (Or.inl w2)
        · exact hot _ (hwd w hw9)
    have hfit : Bundle.fit (exN E) = true := by
      unfold exN
      split <;> decide +kernel
    have hnm : ∀ n ∈ ["java/lang/RuntimeException", "java/lang/Exception"], Bundle.fit n = true := by decide +kernel
    have hXC : ∀ t : State, s.vm.Alike t.vm → H.size ≤ t.heap.size → (∀ q : Nat, q < H.size → t.heap[q]? = H[q]?) → xXc D aC A ad0 xs bS n0 rs (exN E) s t := fun t _ hz hq9 =>
      ⟨⟨_, hr, E, rfl, hE2, rfl, ad, ha, hs, ⟨hw.1.kept (fun k x hx9 => hq9 x.1 ((hw.1 k x hx9).lt)), hw.2⟩⟩, ⟨Nat.le_trans hS.1 hz, fun q h1 h2 => (hq9 q (Nat.lt_of_lt_of_le h1 hS.1)).trans (hS.2.1 q h1 h2)⟩⟩
    have hcat : ((evS (ev ad xs bS) st).map fun v => v.category).sum + 82 ≤ (xmR M).locals := by rw [xcats_ev]; exact Nat.le_of_ble_eq_true c4
    rcases dd with ⟨d4, d6, d9⟩ | ⟨d4, d7, d10⟩
    · exact vx_throwS (names := ["java/lang/RuntimeException", "java/lang/Exception"]) hexec hb htr hown hfit hnm (hts _ w1) (hts _ w2) hsa hat hgood hSta.2.2.2.2.2.1 hSta.2.2.2.2.2.2.1 hS (hl.1.trans hml.symm) d0 d3 d4 d6 d9 (fun x hx9 => absurd (htb0 x hx9) id) (Nat.lt_of_lt_of_le (by decide) (Nat.le_of_ble_eq_true c3)) (by show _ + (13 * (2 + 1) + 43) ≤ _; omega) (Nat.le_of_ble_eq_true c1) (Nat.le_of_ble_eq_true c2) hlocks hXC hS.2.2 (Nat.le_of_ble_eq_true c1) (Nat.le_of_ble_eq_true c2)
    · exact vx_throwSW (names := ["java/lang/RuntimeException", "java/lang/Exception"]) hexec hb htr hown hfit hnm (hts _ w1) (hts _ w2) hsa hat hgood hSta.2.2.2.2.2.1 hSta.2.2.2.2.2.2.1 hS (hl.1.trans hml.symm) d0 d3 d4 d7 d10 (fun x hx9 => absurd (htb0 x hx9) id) (Nat.lt_of_lt_of_le (by decide) (Nat.le_of_ble_eq_true c3)) (by show _ + (13 * (2 + 1) + 43) ≤ _; omega) (Nat.le_of_ble_eq_true c1) (Nat.le_of_ble_eq_true c2) hlocks hXC hS.2.2 (Nat.le_of_ble_eq_true c1) (Nat.le_of_ble_eq_true c2)
  · rename_i E' e' lv' st' pe' h' n' ce' sl' heq
    cases heq
    refine ⟨fun z => absurd rfl z, fun _ hE9 q cell q1 q2 q3 => ?_⟩
    obtain ⟨hb1, hx⟩ := xcon hx
    obtain rfl := Option.some.inj hx
    simp only [Bool.and_eq_true] at hb1
    obtain ⟨c1, c2, c5, c6⟩ := hb1
    have c6 := xnil_eq c6
    have htb0 : ∀ x ∈ c.exceptionTable.toList, False := by rw [htab (Or.inl rfl), c6]; intro x hx9; cases hx9
    exact vx_out (E := exN E) (fun x hx9 => absurd (htb0 x hx9) id) hlocks q1 q2 q3 (fun t ht _ => ⟨⟨_, hr, E, rfl, hE9, rfl, ad, ha, hs, by rw [ht]; exact hw⟩, hS.F ht⟩) hS.2.2 (Nat.le_of_ble_eq_true c1) (Nat.le_of_ble_eq_true c2)
  · cases hx
end
/-- what a method's record wants -/
def xMok (Ms : List XM) (cls : Nat → Nat) (M : XM) : Prop := plainName (xmY M).cls = true ∧ (∀ e ∈ xmC M, xVE Ms M e) ∧ xTabOk cls M
theorem xnth_mem {α : Type} {l : List α} {k : Nat} {a : α} (h : xnth l k = some a) : a ∈ l := by
  rw [xnth_eq] at h
  exact List.mem_of_getElem? h
section
variable {l : Launch} {xs : Nat → Int32} {bS : Nat} {aC : Nat → ClassId} {D : va_G} {A : Nat → Prop} {Ms : List XM} {cls : Nat → Nat}
set_option maxHeartbeats 1000000 in
theorem xmeth_ok (hl : l.stackTraces = false) (hG : xGlob) (hTh : xThrOk) (hM : ∀ M ∈ Ms, xMok Ms cls M) (hmask : ∀ i, i < 9 → xs (i + 9) = xs i &&& 63) : ∀ d, xCfOk l Ms D aC A xs bS (xmeth Ms cls d)
  | 0 => fun _ _ _ _ _ _ h => nomatch h
  | d + 1 => by
    have ih := xmeth_ok hl hG hTh hM hmask d
    intro k as pe h n rs hrs M hk hsat ad
    have hrs : (match xnth Ms k with
      | none => none
      | some M => bif Nat.ble (xcats as) (xmN M) then (match xrun Ms cls none M (xmeth Ms cls d) 100000 (xfind (xmC M) 0) (lv_args 0 as) [] (pe, h, n, 0, 0) with
        | some ls => xends M ls
        | none => none) else none) = some rs := hrs
    rw [hk] at hrs
    dsimp only at hrs
    obtain ⟨hcat, hrs⟩ := xcon hrs
    split at hrs
    rotate_left
    · cases hrs
    rename_i leaves hleaves
    obtain ⟨hpn, hV, hT⟩ := hM M (xnth_mem hk)
    have body : ∀ (p : Program) (e : Env) (s : State) (m : MethodId) (args : Array Value) (below : List Frame) (meth : Method) (c : Code) (s₁ : State), BodyLoose p l (xmY M) (headSpec (xmWs M) (xmR M)) (xmB M) (xmN M) (xmV M) e s m args below meth c s₁ → c.maxLocals = xmN M → c.exceptionTable.toList = tableOf (xmT M) →
        va_Pc (evS (ev ad xs bS) as) (xPre D aC A ad xs bS h) args s → W p l e (headSpec (xmWs M) (xmR M)).room s m args below meth c s.heap [] 0 0 (vx_MQ below (xQc D aC A ad xs bS n rs) (xXc D aC A ad xs bS n rs) args s (xmR M).cells (xmR M).slots A) (entryFrame m args (xmN M)) := by
      intro p e s m args below meth c s₁ B hml htab hv
      obtain ⟨rfl, hSta, hw, hA⟩ := hv
      have C : xCtx p l s m (evS (ev ad xs bS) as).toArray meth c M D aC A xs bS none :=
        ⟨B.exec, B.bytes, hml, B.returns, findClass_of_methodNamed B.named, fun w hw9 => atoms_spec (ws := xmWs M) B.pre w (List.mem_cons_of_mem _ hw9), B.notSynchronized, fun z => (name_of_methodNamed B.named B.method).1.trans z, fun _ => htab, hSta, hA, (fun L hL => nomatch hL), hl, hmask⟩
      have hl0 := lv_entry (evS (ev ad xs bS) as) (n := xmN M) (by rw [lg_len]; unfold xcats; rw [xcats_ev]; exact Nat.le_of_ble_eq_true hcat)
      rw [lg_entry_eq]
      generalize (lg_sl (evS (ev ad xs bS) as) ++ List.replicate (xmN M - (lg_sl (evS (ev ad xs bS) as)).length) Slot.unset).toArray = ls at hl0 ⊢
      rw [lv_args_ev] at hl0
      have hin := xfind_in (M := M) (pc := 0)
      exact xrun_ok C ih hG hT hV 100000 _ _ _ _ _ hleaves hin.1 (xend_ok C hTh hV hrs) 0 hin.2 ad s.heap [] ls (fun _ _ => rfl) (Nat.le_refl _) hsat hw va_S.rf hl0
    cases hT9 : xmT M with
    | nil =>
      refine vx_ofW hpn (xw_nil hT9) (fun p e s m args below meth c s₁ B hml htab hv => body p e s m args below meth c s₁ B hml ?_ hv)
      rw [hT9]
      cases hz : c.exceptionTable.toList with
      | nil => rfl
      | cons a b => exact absurd (htab a (by rw [hz]; exact List.mem_cons_self)) id
    | cons q t =>
      have hw9 : xmWs M = Jvm.Cond.codeWith (xmY M) (xmB M) (xmN M) (xmV M) (q :: t) :: xTs := by unfold xmWs xmW; rw [hT9]
      refine vx_ofWH hpn hw9 (fun p e s m args below meth c s₁ B hml hv => body p e s m args below meth c s₁ B hml ?_ hv)
      rw [hT9]
      exact vx_table (x := xmY M) B (atoms_spec (ws := xmWs M) B.pre _ (by rw [hw9]; exact List.mem_cons_self))
end
end XZ
