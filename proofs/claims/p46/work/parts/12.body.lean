section XQ
theorem xald_pe {ok : Value → Bool} {oti : Nat → Bool} {st : List Value} {σ : XS} {q : List Value × XS} (h : xald ok oti st σ = some q) : q.2.1 = σ.1 := by
  obtain ⟨_, _, _, _, _, _, _, _, _, _, _, _, _, rfl⟩ := xald_spec h; rfl
theorem xast_pe {ok : Value → Bool} {oti : Nat → Bool} {st : List Value} {σ : XS} {q : List Value × XS} (h : xast ok oti st σ = some q) : q.2.1 = σ.1 := by
  obtain ⟨_, _, _, _, _, _, _, _, _, _, _, _, rfl⟩ := xast_spec h; rfl
theorem xbif {α : Type} {b : Bool} {x y : Option α} {q : α} (h : (bif b then x else y) = some q) : x = some q ∨ y = some q := by
  cases b with
  | true => exact Or.inl h
  | false => exact Or.inr h
theorem xnone {α : Type} {q : α} {P : Prop} (h : (none : Option α) = some q) : P := nomatch h
theorem xnew_pe {R : Room} {lv : XL} {r : List Value} {σ : XS} {c : XCl} {ns : Nat} {q : List Value × XS} (h : xnew R lv r σ c ns = some q) : q.2.1 = σ.1 := by
  obtain ⟨pe, hh, n, ce, sl⟩ := σ
  unfold xnew at h
  dsimp only at h
  rcases xbif h with h | h
  · obtain rfl := Option.some.inj h; rfl
  · cases h
/-- an instruction that touches cells learns nothing of the unknown ints -/
theorem xheap_pe {scr : Option (Nat × (Nat → Int32))} {R : Room} {i : Instr} {aux : List Nat} {lv : XL} {st st' : List Value} {σ σ' : XS} (h : xheap scr R i aux lv st σ = some (st', σ')) : σ'.1 = σ.1 := by
  suffices hh : ∀ q, xheap scr R i aux lv st σ = some q → q.2.1 = σ.1 from hh _ h
  clear h
  intro q h
  unfold xheap at h
  split at h
  · unfold xget at h
    split at h
    · split at h
      · rcases xbif h with h | h
        · split at h
          · obtain rfl := Option.some.inj h; rfl
          · cases h
        · cases h
      · cases h
    · cases h
  · unfold xput at h
    split at h
    · split at h
      · rcases xbif h with h | h
        · obtain rfl := Option.some.inj h; rfl
        · cases h
      · cases h
    · cases h
  · unfold xnewo at h
    split at h
    · exact xnew_pe h
    · cases h
  · unfold xnewa at h
    split at h
    · rcases xbif h with h | h
      · cases h
      · rcases xbif h with h | h
        · exact xnew_pe h
        · cases h
    · cases h
  · unfold xnewa at h
    split at h
    · rcases xbif h with h | h
      · cases h
      · rcases xbif h with h | h
        · exact xnew_pe h
        · cases h
    · cases h
  · rcases xbif h with h | h
    · unfold xnewm2 at h
      split at h
      · rcases xbif h with h | h
        · cases h
        · rcases xbif h with h | h
          · obtain rfl := Option.some.inj h; rfl
          · cases h
      · cases h
    · rcases xbif h with h | h
      · unfold xnewm3 at h
        split at h
        · rcases xbif h with h | h
          · obtain rfl := Option.some.inj h; rfl
          · cases h
        · cases h
      · cases h
  · unfold xlen at h
    split at h
    · split at h
      · rcases xbif h with h | h
        · obtain rfl := Option.some.inj h; rfl
        · cases h
      · cases h
    · split at h
      · obtain rfl := Option.some.inj h; rfl
      · cases h
    · cases h
  · unfold xild at h
    split at h
    · split at h
      · split at h
        · obtain rfl := Option.some.inj h; rfl
        · cases h
      · cases h
    · exact xald_pe h
  · exact xald_pe h
  · exact xald_pe h
  · exact xast_pe h
  · exact xast_pe h
  · unfold xasa at h
    split at h
    · exact xast_pe h
    · split at h
      · rcases xbif h with h | h
        · exact xast_pe h
        · cases h
      · cases h
    · cases h
  · cases h
theorem xcpy_get {v0 v1 : List Value} {d : Nat} (h : d + v0.length ≤ v1.length) (k : Nat) : (xcpy v0 v1 d)[k]? = if d ≤ k ∧ k < d + v0.length then v0[k - d]? else v1[k]? := by
  have hl : (v1.take d).length = d := by rw [List.length_take]; omega
  unfold xcpy
  rw [List.getElem?_append, hl]
  by_cases h1 : k < d
  · rw [if_pos h1, if_neg (by omega), List.getElem?_take, if_pos h1]
  · rw [if_neg h1, List.getElem?_append]
    by_cases h2 : k - d < v0.length
    · rw [if_pos h2, if_pos ⟨by omega, by omega⟩]
    · rw [if_neg h2, if_neg (by omega), List.getElem?_drop]
      congr 1
      omega
theorem xcpy_len {v0 v1 : List Value} {d : Nat} (h : d + v0.length ≤ v1.length) : (xcpy v0 v1 d).length = v1.length := by
  unfold xcpy
  rw [List.length_append, List.length_append, List.length_take, List.length_drop]
  omega
theorem xcpy_mem {v0 v1 : List Value} {d : Nat} {v : Value} (h : v ∈ xcpy v0 v1 d) : v ∈ v0 ∨ v ∈ v1 := by
  unfold xcpy at h
  rcases List.mem_append.mp h with h | h
  · exact .inr (List.mem_of_mem_take h)
  · rcases List.mem_append.mp h with h | h
    · exact .inl h
    · exact .inr (List.mem_of_mem_drop h)
section
variable {p : Program} {l : Launch} {en : Env} {s : State} {m : MethodId} {args : Array Value} {below : List Frame} {meth : Method} {c : Code} {Q : State → Prop}
variable {xs : Nat → Int32} {bS : Nat} {aC : Nat → ClassId} {D : va_G} {A : Nat → Prop} {scr : Option (Nat × (Nat → Int32))} {M : XM} {Ms : List XM} {cls : Nat → Nat} {cf : XCf} {n0 : Nat} {ad0 : Nat → Nat}
theorem xcopy_ok (C : xCtx p l s m args meth c M D aC A xs bS scr) (hV : ∀ e ∈ xmC M, xVE Ms M e) {ih : XGo} (hih : xHI p l en s m args below meth c Q xs bS aC D A M n0 ad0 ih)
    {e : XI} {t : List XI} (he : e ∈ xmC M) (hk7 : e.2.2.1 = 7) {lv : XL} {st : List Value} {σ : XS} {leaves : List XLf} (h : xcopy M ih e t lv st σ = some leaves) (hlf : ∀ lf ∈ leaves, xleaf p l en s m args below meth c Q xs bS aC D A M n0 ad0 lf)
    {ad : Nat → Nat} {H : Heap} {locs : List Loc} {ls : Array Slot} (ha : ∀ j, j < n0 → ad j = ad0 j) (hn : n0 ≤ σ.2.2.1) (hwf : xal σ.2.2.1 lv st σ.2.1 = true) (hs : xsat xs σ.1) (hw : xWld D aC A ad xs bS σ.2.1 H) (hS : va_S A s.heap H locs) (hl : lv_has ls (xmN M) (evL (ev ad xs bS) lv)) :
    W p l en (xmR M) s m args below meth c H locs σ.2.2.2.1 σ.2.2.2.2 Q (F0 m e.1 ls (evS (ev ad xs bS) st)) := by
  unfold xcopy at h
  split at h
  · rename_i n dp a sp a0 r
    split at h
    · rename_i v0 v1 hk0 hk1
      cases h1 : decide (n < 0) with
      | true => rw [h1] at h; cases h
      | false =>
        cases h2 : decide (dp < 0) with
        | true => rw [h1, h2] at h; cases h
        | false =>
        rw [h1, h2] at h
        simp only [cond_false] at h
        generalize hchk : (decide (sp = 0) && (Nat.beq n.toNatClampNeg v0.length && (Nat.ble (dp.toNatClampNeg + v0.length) v1.length && (Nat.ble 1 (xmR M).frames && Nat.ble (xcats r + 60) (xmR M).locals)))) = b at h
        cases b with
        | false => cases h
        | true =>
          simp only [Bool.and_eq_true, decide_eq_true_eq] at hchk
          obtain ⟨rfl, c3, c4, c5, c6⟩ := hchk
          simp only [cond_true] at h
          have c3 := Nat.eq_of_beq_eq_true c3
          have c4 := Nat.le_of_ble_eq_true c4
          have hve := hV e he
          unfold xVE at hve
          rw [hk7] at hve
          obtain ⟨idx, hd, w1, w2, w3, w4⟩ := hve
          obtain ⟨hx, hb, hml, -, hown, hts, -, -, hSta, -⟩ := id C
          obtain ⟨q0, hq0, -⟩ := xhk_get (E := ev ad xs bS) (ad := ad) (aC := aC) hk0
          obtain ⟨q1, hq1, hset⟩ := xhk_get (E := ev ad xs bS) (ad := ad) (aC := aC) hk1
          have hin := xnext_in (M := M) (t := t) (pc := e.1 + 3)
          refine va_copyi hx hb (hml.trans hl.1.symm) hown (hts _ w1) (hts _ w2) (hts _ w3) (hts _ w4) hSta.1 hw.1 hw.2 hS q0 q1 0 0 hq0 hq1 (xtys_get aC (by omega)) (xtys_get aC (by omega)) rfl (by decide) (of_decide_eq_false h2) (of_decide_eq_false h1) ?_ ?_ (fun _ _ => rfl) (Nat.le_of_ble_eq_true c5) ?_ hd (fun H1 locs1 p1 d1 s1 => ?_)
          · show 0 + n.toNatClampNeg ≤ v0.length; omega
          · show dp.toNatClampNeg + n.toNatClampNeg ≤ v1.length; omega
          · rw [show nativeFrameWords "java/lang/System" "arraycopy" 5 = 7 by decide +kernel]
            have := Nat.le_of_ble_eq_true c6
            show ((evS (ev ad xs bS) r).map fun v => v.category).sum + _ ≤ _
            rw [xcats_ev]
            omega
          · have e1 : (evH (ev ad xs bS) ad aC σ.2.1).set q1 (ad a, .inl (aC 0, v1.length, .inl (va_cpy (fun j => evI (ev ad xs bS (v0.getD j (.int 0)))) (fun j => evI (ev ad xs bS (v1.getD j (.int 0)))) (Int32.toNatClampNeg 0) dp.toNatClampNeg n.toNatClampNeg))) = evH (ev ad xs bS) ad aC (xhs σ.2.1 a (true, 0, xcpy v0 v1 dp.toNatClampNeg)) := by
              rw [← hset (true, 0, xcpy v0 v1 dp.toNatClampNeg)]
              show _ = (evH (ev ad xs bS) ad aC σ.2.1).set q1 (ad a, .inl (aC 0, (xcpy v0 v1 dp.toNatClampNeg).length, .inl (fun j => evI (ev ad xs bS ((xcpy v0 v1 dp.toNatClampNeg).getD j (.int 0))))))
              rw [xcpy_len c4, c3]
              refine congrArg (fun z => (evH (ev ad xs bS) ad aC σ.2.1).set q1 (ad a, .inl (aC 0, v1.length, .inl z))) (funext fun k => ?_)
              unfold va_cpy
              rw [show Int32.toNatClampNeg 0 = 0 by decide]
              rw [List.getD_eq_getElem?_getD (l := xcpy v0 v1 dp.toNatClampNeg), xcpy_get c4]
              by_cases hk : dp.toNatClampNeg ≤ k ∧ k < dp.toNatClampNeg + v0.length
              · rw [if_pos hk, if_pos hk, Nat.zero_add]
                show evI (ev ad xs bS (v0.getD (k - dp.toNatClampNeg) (.int 0))) = _
                rw [List.getD_eq_getElem?_getD]
              · rw [if_neg hk, if_neg hk]
                show evI (ev ad xs bS (v1.getD k (.int 0))) = _
                rw [List.getD_eq_getElem?_getD]
            have hp9 : va_P D classes (evH (ev ad xs bS) ad aC (xhs σ.2.1 a (true, 0, xcpy v0 v1 dp.toNatClampNeg))) H1 := by rw [← e1]; exact p1
            have hd9 : va_D A (evH (ev ad xs bS) ad aC (xhs σ.2.1 a (true, 0, xcpy v0 v1 dp.toNatClampNeg))) := by rw [← e1]; exact d1
            obtain ⟨oL, oS, oH⟩ := xal_spec hwf
            have oS9 : xoS σ.2.2.1 r = true := by
              have := xoS_drop (k := 5) oS
              exact this
            exact hih _ _ _ _ _ h hin.1 hlf _ hin.2 ad H1 locs1 ls ha hn (xal_mk oL oS9 (xoH_put oH (List.all_eq_true.mpr fun v hv => (xcpy_mem hv).elim (fun q => List.all_eq_true.mp (xoH_at oH hk0).2 v q) (fun q => List.all_eq_true.mp (xoH_at oH hk1).2 v q)))) hs ⟨hp9, hd9⟩ s1 hl
    · cases h
  · cases h
set_option maxHeartbeats 1000000 in
theorem xbody_ok (C : xCtx p l s m args meth c M D aC A xs bS scr) (hcf : xCfOk l Ms D aC A xs bS scr cf) (hG : xGlob) (hV : ∀ e ∈ xmC M, xVE Ms M e) {ih : XGo} (hih : xHI p l en s m args below meth c Q xs bS aC D A M n0 ad0 ih) :
    xHI p l en s m args below meth c Q xs bS aC D A M n0 ad0 (xbody Ms cls scr M cf ih) := by
  intro cur lv st σ leaves h hcur hlf pc hpc ad H locs ls ha hn hwf hs hw hS hl
  obtain ⟨oL, oS, oH⟩ := xal_spec hwf
  obtain ⟨hx, hb, hml, hret, hown, hts, hlocks, hname, hSta, hA, htr⟩ := id C
  cases cur with
  | nil => cases h
  | cons e t =>
    have hpc := hpc e t rfl
    subst hpc
    have he : e ∈ xmC M := hcur e List.mem_cons_self
    have hve := hV e he
    unfold xVE at hve
    unfold xbody at h
    dsimp only at h
    split at h
    · rename_i hk
      rw [hk] at hve
      obtain ⟨hd, hcl, hcl2⟩ := hve
      split at h
      · rename_i q hq
        have hin := xnext_in (M := M) (t := t) (pc := e.1 + ilen e.2.1)
        exact xsimple_ok (cells := σ.2.2.2.1) (slots := σ.2.2.2.2) hx hb (fun k a tl h1 h2 => ⟨_, hown, hts _ (hcl k a tl h1 h2)⟩) (fun k a tl h1 h2 => ⟨_, hown, hts _ (hcl2 k a tl h1 h2)⟩) hq hl hd (fun ls' hl' => hih _ _ _ _ _ h hin.1 hlf _ hin.2 ad H locs ls' ha hn (xal_mk (xsimple_kept hq oL oS).1 (xsimple_kept hq oL oS).2 oH) hs hw hS hl')
      · cases h
    · rename_i hk
      rw [hk] at hve
      obtain ⟨hd, hvh⟩ := hve
      split at h
      · rename_i q hq
        obtain ⟨st', σ'⟩ := q
        have hin := xnext_in (M := M) (t := t) (pc := e.1 + ilen e.2.1)
        have hpe : σ'.1 = σ.1 := xheap_pe hq
        exact xheap_ok (ls := ls) (nL := xmN M) hx hb hts hG hown hSta.1 hA hSta.2.2.1 hSta.2.2.2.1 hSta.2.2.2.2.2.2.2 (fun z => hname (of_decide_eq_true z)) hvh hwf hq hw.1 hw.2 hS hl hd (fun ad' H1 locs1 g1 g2 g3 g4 g5 g6 => hih _ _ _ _ _ h hin.1 hlf _ hin.2 ad' H1 locs1 ls (fun j hj => (g1 j (Nat.lt_of_lt_of_le hj hn)).trans (ha j hj)) (Nat.le_trans hn g2) (xheap_kept hq hwf).2 (by rw [hpe]; exact hs) ⟨g3, g4⟩ g5 g6)
      · cases h
    · rename_i hk
      rw [hk] at hve
      split at h
      · rename_i z hz
        refine xbranch_ok hw.2 (cells := σ.2.2.2.1) (slots := σ.2.2.2.2) hx hb hz hs hve (fun q hq hsq => ?_)
        obtain ⟨r', h5, h6⟩ := xall_spec h q hq
        have hin := xfind_in (M := M) (pc := q.1)
        exact hih _ _ _ (q.2.2, σ.2) _ h5 hin.1 (fun lf hlf9 => hlf lf (h6 lf hlf9)) _ hin.2 ad H locs ls ha hn (xal_mk oL (xbranch_kept hz oS q hq) oH) hsq hw hS hl
      · cases h
    · rename_i hk
      exact xcall_ok C hcf hV hih he hk h hlf ha hn hwf hs hw hS hl
    · rename_i hk
      obtain rfl := Option.some.inj h
      exact hlf _ List.mem_cons_self ad H locs ls he (fun _ => hk) (fun z => by cases z) (Or.inl rfl) ha hn hwf hs hw hS hl
    · rename_i hk
      rw [hk] at hve
      obtain ⟨idx, hd, w1, w2, w3⟩ := hve
      unfold xoinit at h
      split at h
      · rename_i o r
        generalize hchk : (Nat.ble 1 (xmR M).frames && Nat.ble (xcats r + 12) (xmR M).locals) = b at h
        cases b with
        | false => cases h
        | true =>
          rw [Bool.and_eq_true] at hchk
          have hin := xnext_in (M := M) (t := t) (pc := e.1 + 3)
          refine W.objInit (rest := evS (ev ad xs bS) r) (g := F0 m e.1 ls (.ref (ad o) :: evS (ev ad xs bS) r)) hx hb hown (hts _ w1) (hts _ w2) (hts _ w3) rfl (hl.1.trans hml.symm) rfl hd (Nat.le_of_ble_eq_true hchk.1) ?_ ?_
          · have := Nat.le_of_ble_eq_true hchk.2
            rw [xcats_ev]
            show 2 * 0 + xcats r + 12 ≤ _
            omega
          · exact hih _ _ _ _ _ h hin.1 hlf _ hin.2 ad H locs ls ha hn (xal_tail hwf) hs hw hS hl
      · cases h
    · rename_i hk
      exact xcopy_ok C hV hih he hk h hlf ha hn hwf hs hw hS hl
    · rename_i hk
      obtain rfl := Option.some.inj h
      exact hlf _ List.mem_cons_self ad H locs ls he (fun z => by cases z) (fun _ => hk) (Or.inr rfl) ha hn hwf hs hw hS hl
    · rename_i hk
      rw [hk] at hve
      unfold xmath at h
      split at h
      · rename_i mx tl y x r haux
        obtain ⟨w0, idx, hd, w1⟩ := hve mx tl haux
        generalize hchk : (Nat.ble 1 (xmR M).frames && (Nat.ble (xcats r + 13) (xmR M).locals && (Nat.ble σ.2.2.2.1 (xmR M).cells && Nat.ble σ.2.2.2.2 (xmR M).slots))) = b at h
        cases b with
        | false => cases h
        | true =>
          simp only [Bool.and_eq_true] at hchk
          obtain ⟨c1, c2, c3, c4⟩ := hchk
          simp only [cond_true] at h
          have hin := xnext_in (M := M) (t := t) (pc := e.1 + 3)
          have hwf9 : ∀ z : Int32, xal σ.2.2.1 lv (.int z :: r) σ.2.1 = true := fun z => xal_mk oL (xoS_cons.mpr ⟨rfl, (xoS_cons.mp (xoS_cons.mp oS).2).2⟩) oH
          have hloc : ((evS (ev ad xs bS) r).map fun v => v.category).sum + 13 ≤ (xmR M).locals := by rw [xcats_ev]; exact Nat.le_of_ble_eq_true c2
          rcases w1 with ⟨rfl, w1, w2, w3⟩ | ⟨rfl, w1, w2, w3⟩
          · exact va_mmin hx hb (hml.trans hl.1.symm) hown (hts _ w1) (hts _ w2) (hts _ w0) (hts _ w3) (Nat.le_of_ble_eq_true c1) hloc (Nat.le_of_ble_eq_true c3) (Nat.le_of_ble_eq_true c4) hd (hih _ _ _ _ _ h hin.1 hlf _ hin.2 ad H locs ls ha hn (hwf9 _) hs hw hS hl)
          · exact va_mmax hx hb (hml.trans hl.1.symm) hown (hts _ w1) (hts _ w2) (hts _ w0) (hts _ w3) (Nat.le_of_ble_eq_true c1) hloc (Nat.le_of_ble_eq_true c3) (Nat.le_of_ble_eq_true c4) hd (hih _ _ _ _ _ h hin.1 hlf _ hin.2 ad H locs ls ha hn (hwf9 _) hs hw hS hl)
      · cases h
    · cases h
theorem xrun_ok (C : xCtx p l s m args meth c M D aC A xs bS scr) (hcf : xCfOk l Ms D aC A xs bS scr cf) (hG : xGlob) (hV : ∀ e ∈ xmC M, xVE Ms M e) : ∀ f, xHI p l en s m args below meth c Q xs bS aC D A M n0 ad0 (xrun Ms cls scr M cf f)
  | 0 => fun _ _ _ _ _ h => nomatch h
  | f + 1 => xbody_ok C hcf hG hV (xrun_ok C hcf hG hV f)
end
end XQ
