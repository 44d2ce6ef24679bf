section XQ
theorem xald_pe {ok : Value → Bool} {oti : Nat → Bool} {st : List Value} {σ : XS} {q : List Value × XS} (h : xald ok oti st σ = some q) : q.2.1 = σ.1 := by
  obtain ⟨_, _, _, _, _, _, _, _, _, _, _, _, _, rfl⟩ := xald_spec h; rfl
theorem xast_pe {ok : Value → Bool} {oti : Nat → Bool} {st : List Value} {σ : XS} {q : List Value × XS} (h : xast ok oti st σ = some q) : q.2.1 = σ.1 := by
  obtain ⟨_, _, _, _, _, _, _, _, _, _, _, _, rfl⟩ := xast_spec h; rfl
theorem xbif {α : Type} {b : Bool} {x y : Option α} {q : α} (h : (bif b then x else y) = some q) : x = some q ∨ y = some q := by
  cases b with
  | true => exact Or.inl h
  | false => exact Or.inr h
theorem xnone {α : Type} {q : α} {P : Prop} (h : (none : Option α) = some q) : P := nomatch h
theorem xnew_pe {R : Room} {lv : XL} {r : List Value} {σ : XS} {c : XCl} {ns : Nat} {q : List Value × XS} (h : xnew R lv r σ c ns = some q) : q.2.1 = σ.1 := by
  obtain ⟨pe, hh, n, ce, sl⟩ := σ
  unfold xnew at h
  dsimp only at h
  rcases xbif h with h | h
  · obtain rfl := Option.some.inj h; rfl
  · cases h
theorem xkeep_pe {R : Room} {lv : XL} {r : List Value} {σ : XS} {nc ns : Nat} {q : List Value × XS} (h : xkeep R lv r σ nc ns = some q) : q.2.1 = σ.1 := by
  obtain ⟨pe, hh, n, ce, sl⟩ := σ
  unfold xkeep at h
  dsimp only at h
  rcases xbif h with h | h
  · obtain rfl := Option.some.inj h; rfl
  · cases h
/-- an instruction that touches cells learns nothing of the unknown ints -/
theorem xheap_pe {scr : Option Nat} {R : Room} {i : Instr} {aux : List Nat} {lv : XL} {st st' : List Value} {σ σ' : XS} (h : xheap scr R i aux lv st σ = some (st', σ')) : σ'.1 = σ.1 := by
  suffices hh : ∀ q, xheap scr R i aux lv st σ = some q → q.2.1 = σ.1 from hh _ h
  clear h
  intro q h
  unfold xheap at h
  split at h
  · unfold xget at h
    split at h
    · split at h
      · rcases xbif h with h | h
        · split at h
          · obtain rfl := Option.some.inj h; rfl
          · cases h
        · cases h
      · cases h
    · cases h
  · unfold xput at h
    split at h
    · split at h
      · rcases xbif h with h | h
        · obtain rfl := Option.some.inj h; rfl
        · cases h
      · cases h
    · cases h
  · unfold xnewo at h
    split at h
    · exact xnew_pe h
    · cases h
  · unfold xnewa at h
    split at h
    · rcases xbif h with h | h
      · cases h
      · rcases xbif h with h | h
        · exact xnew_pe h
        · cases h
    · cases h
  · unfold xnewa at h
    split at h
    · rcases xbif h with h | h
      · cases h
      · rcases xbif h with h | h
        · exact xnew_pe h
        · cases h
    · cases h
  · rcases xbif h with h | h
    · unfold xnewm2 at h
      split at h
      · rcases xbif h with h | h
        · cases h
        · rcases xbif h with h | h
          · exact xkeep_pe h
          · cases h
      · cases h
    · rcases xbif h with h | h
      · unfold xnewm3 at h
        split at h
        · rcases xbif h with h | h
          · cases h
          · rcases xbif h with h | h
            · exact xkeep_pe h
            · cases h
        · cases h
      · cases h
  · unfold xlen at h
    split at h
    · split at h
      · rcases xbif h with h | h
        · obtain rfl := Option.some.inj h; rfl
        · cases h
      · cases h
    · split at h
      · obtain rfl := Option.some.inj h; rfl
      · cases h
    · cases h
  · unfold xild at h
    split at h
    · split at h
      · split at h
        · rcases xbif h with h | h
          · obtain rfl := Option.some.inj h; rfl
          · cases h
        · cases h
      · cases h
    · exact xald_pe h
  · exact xald_pe h
  · exact xald_pe h
  · exact xast_pe h
  · exact xast_pe h
  · unfold xasa at h
    split at h
    · exact xast_pe h
    · split at h
      · split at h
        · rcases xbif h with h | h
          · exact xast_pe h
          · cases h
        · cases h
      · cases h
    · cases h
  · cases h
def xThr (X : String) : List Jvm.Cond := (Bundle.throwableAtoms ++ Bundle.throwableSAtoms ++ Bundle.chainSAtoms X ["java/lang/RuntimeException", "java/lang/Exception"] ++
  ([.instantiable X 6, .castable X X, .selects X Bundle.tFill0 Bundle.tFill0, .selects X Bundle.tFill Bundle.tFill,
   .lays X Bundle.tN "cause" "Ljava/lang/Throwable;", .lays X Bundle.tN "stackTrace" Bundle.steD, .lays X Bundle.tN "suppressedExceptions" Bundle.listD, .lays X Bundle.tN "detailMessage" "Ljava/lang/String;",
   .isRef (.static Bundle.tN "UNASSIGNED_STACK" Bundle.steD), .isRef (.static Bundle.tN "SUPPRESSED_SENTINEL" Bundle.listD),
   .fieldLink Bundle.tN 198 Bundle.tN "backtrace" "Ljava/lang/Object;", .lays Bundle.tN Bundle.tN "backtrace" "Ljava/lang/Object;", .lays X Bundle.tN "backtrace" "Ljava/lang/Object;"] : List Jvm.Cond)).filter vx_no
theorem xThr_in {own X : String} {ic : Nat} {w : Jvm.Cond} (h : w ∈ vx_atS own ic X ["java/lang/RuntimeException", "java/lang/Exception"]) : w = .methodLink own ic (Bundle.initS X) ∨ w ∈ xThr X := by
  unfold vx_atS at h
  obtain ⟨h1, h2⟩ := List.mem_filter.mp h
  unfold Bundle.ownAtoms at h1
  rcases List.mem_append.mp h1 with h1 | h1
  · exact Or.inr (List.mem_filter.mpr ⟨List.mem_append_left _ h1, h2⟩)
  · rcases List.mem_cons.mp h1 with h1 | h1
    · exact Or.inl h1
    · exact Or.inr (List.mem_filter.mpr ⟨List.mem_append_right _ h1, h2⟩)
def xThrOk : Prop := ∀ E, E ≤ 2 → ∀ w ∈ xThr (exN E), w ∈ xTs ∨ w ∈ xNg
section
variable {p : Program} {l : Launch} {en : Env} {s : State} {m : MethodId} {args : Array Value} {below : List Frame} {meth : Method} {c : Code} {Q : State → Prop}
variable {xs : Nat → Int32} {bS : Nat} {aC : Nat → ClassId} {D : va_G} {A : Nat → Prop} {scr : Option Nat} {M : XM} {Ms : List XM} {cls : Nat → Nat} {cf : XCf} {n0 : Nat} {ad0 : Nat → Nat}
theorem xcopy_ok (C : xCtx p l s m args meth c M D aC A xs bS scr) (hV : ∀ e ∈ xmC M, xVE Ms M e) {ih : XGo} (hih : xHI p l en s m args below meth c Q xs bS aC D A M n0 ad0 ih)
    {e : XI} {t : List XI} (he : e ∈ xmC M) (ht : ∀ x ∈ t, x ∈ xmC M) (hk7 : e.2.2.1 = 7) {lv : XL} {st : List Value} {σ : XS} {leaves : List XLf} (h : xcopy M ih e t lv st σ = some leaves) (hlf : ∀ lf ∈ leaves, xleaf p l en s m args below meth c Q xs bS aC D A M n0 ad0 lf)
    {ad : Nat → Nat} {H : Heap} {locs : List Loc} {ls : Array Slot} (ha : ∀ j, j < n0 → ad j = ad0 j) (hn : n0 ≤ σ.2.2.1) (hs : xsat xs σ.1) (hw : xWld D aC A ad xs bS σ.2.1 H) (hS : va_S A s.heap H locs) (hl : lv_has ls (xmN M) (evL (ev ad xs bS) lv)) :
    W p l en (xmR M) s m args below meth c H locs σ.2.2.2.1 σ.2.2.2.2 Q (F0 m e.1 ls (evS (ev ad xs bS) st)) := by
  unfold xcopy at h
  split at h
  · rename_i n dp a sp a0 r
    split at h
    · rename_i v0 v1 hk0 hk1
      cases h1 : decide (n < 0) with
      | true => rw [h1] at h; cases h
      | false =>
        rw [h1] at h
        simp only [cond_false] at h
        generalize hchk : (decide (sp = 0) && (decide (dp = 0) && (Nat.beq n.toNatClampNeg v0.length && (Nat.beq n.toNatClampNeg v1.length && (Nat.ble 1 (xmR M).frames && (Nat.ble (xcats r + 60) (xmR M).locals && (!(Nat.beq a a0) && v0.all xint))))))) = b at h
        cases b with
        | false => cases h
        | true =>
          simp only [Bool.and_eq_true, decide_eq_true_eq] at hchk
          obtain ⟨rfl, rfl, c3, c4, c5, c6, c7, c8⟩ := hchk
          simp only [cond_true] at h
          have c3 := Nat.eq_of_beq_eq_true c3
          have c4 := Nat.eq_of_beq_eq_true c4
          have hve := hV e he
          unfold xVE at hve
          rw [hk7] at hve
          obtain ⟨idx, hd, w1, w2, w3, w4⟩ := hve
          obtain ⟨hx, hb, hml, -, hown, hts, -, -, -, hSta, -⟩ := id C
          obtain ⟨q0, hq0, -⟩ := xhk_get (E := ev ad xs bS) (ad := ad) (aC := aC) hk0
          obtain ⟨q1, hq1, hset⟩ := xhk_get (E := ev ad xs bS) (ad := ad) (aC := aC) hk1
          have hin := xnext_in (M := M) (t := t) (pc := e.1 + 3) ht
          refine va_copyi hx hb (hml.trans hl.1.symm) hown (hts _ w1) (hts _ w2) (hts _ w3) (hts _ w4) hSta.1 hw.1 hw.2 hS q0 q1 0 0 hq0 hq1 (xtys_get aC (by omega)) (xtys_get aC (by omega)) rfl (by decide) (by decide) (of_decide_eq_false h1) ?_ ?_ (fun _ _ => rfl) (Nat.le_of_ble_eq_true c5) ?_ hd (fun H1 locs1 p1 d1 s1 => ?_)
          · show 0 + n.toNatClampNeg ≤ v0.length; omega
          · show 0 + n.toNatClampNeg ≤ v1.length; omega
          · rw [show nativeFrameWords "java/lang/System" "arraycopy" 5 = 7 by decide +kernel]
            have := Nat.le_of_ble_eq_true c6
            show ((evS (ev ad xs bS) r).map fun v => v.category).sum + _ ≤ _
            rw [xcats_ev]
            omega
          · have e1 : (evH (ev ad xs bS) ad aC σ.2.1).set q1 (ad a, .inl (aC 0, v1.length, .inl (va_cpy (fun j => evI (ev ad xs bS (v0.getD j (.int 0)))) (fun j => evI (ev ad xs bS (v1.getD j (.int 0)))) (Int32.toNatClampNeg 0) (Int32.toNatClampNeg 0) n.toNatClampNeg))) = evH (ev ad xs bS) ad aC (xhs σ.2.1 a (true, 0, v0)) := by
              rw [← hset (true, 0, v0)]
              show _ = (evH (ev ad xs bS) ad aC σ.2.1).set q1 (ad a, .inl (aC 0, v0.length, .inl (fun j => evI (ev ad xs bS (v0.getD j (.int 0))))))
              rw [← c4, c3]
              refine congrArg (fun z => (evH (ev ad xs bS) ad aC σ.2.1).set q1 (ad a, .inl (aC 0, v0.length, .inl z))) (funext fun k => ?_)
              unfold va_cpy
              rw [show Int32.toNatClampNeg 0 = 0 by decide]
              by_cases hk : k < v0.length
              · rw [if_pos ⟨Nat.zero_le _, by omega⟩]; simp
              · rw [if_neg (by omega)]
                show evI (ev ad xs bS (v1.getD k (.int 0))) = evI (ev ad xs bS (v0.getD k (.int 0)))
                rw [List.getD_eq_getElem?_getD, List.getD_eq_getElem?_getD, List.getElem?_eq_none (by omega), List.getElem?_eq_none (by omega)]
            have hp9 : va_P D classes (evH (ev ad xs bS) ad aC (xhs σ.2.1 a (true, 0, v0))) H1 := by rw [← e1]; exact p1
            have hd9 : va_D A (evH (ev ad xs bS) ad aC (xhs σ.2.1 a (true, 0, v0))) := by rw [← e1]; exact d1
            exact hih _ _ _ _ _ h hin.1 hlf _ hin.2 ad H1 locs1 ls ha hn hs ⟨hp9, hd9⟩ s1 hl
    · cases h
  · cases h
set_option maxHeartbeats 1000000 in
theorem xbody_ok (C : xCtx p l s m args meth c M D aC A xs bS scr) (hcf : xCfOk l Ms D aC A xs bS cf) (hG : xGlob) (hT : xTabOk cls M) (hV : ∀ e ∈ xmC M, xVE Ms M e) {ih : XGo} (hih : xHI p l en s m args below meth c Q xs bS aC D A M n0 ad0 ih) :
    xHI p l en s m args below meth c Q xs bS aC D A M n0 ad0 (xbody Ms cls scr M cf ih) := by
  intro cur lv st σ leaves h hcur hlf pc hpc ad H locs ls ha hn hs hw hS hl
  obtain ⟨hx, hb, hml, hret, hown, hts, hlocks, hname, htab, hSta, hA, hX, htr, hmask⟩ := id C
  cases cur with
  | nil => cases h
  | cons e t =>
    have hpc := hpc e t rfl
    subst hpc
    have he : e ∈ xmC M := hcur e List.mem_cons_self
    have ht : ∀ x ∈ t, x ∈ xmC M := fun x hx => hcur x (List.mem_cons_of_mem _ hx)
    have hve := hV e he
    unfold xVE at hve
    unfold xbody at h
    dsimp only at h
    split at h
    · rename_i hk
      rw [hk] at hve
      obtain ⟨hd, hcl⟩ := hve
      split at h
      · rename_i q hq
        have hin := xnext_in (M := M) (t := t) (pc := e.1 + ilen e.2.1) ht
        exact xsimple_ok (cells := σ.2.2.2.1) (slots := σ.2.2.2.2) hmask hx hb (fun k a tl h1 h2 => ⟨_, hown, hts _ (hcl k a tl h1 h2)⟩) hq hl hd (fun ls' hl' => hih _ _ _ _ _ h hin.1 hlf _ hin.2 ad H locs ls' ha hn hs hw hS hl')
      · cases h
    · rename_i hk
      rw [hk] at hve
      obtain ⟨hd, hvh⟩ := hve
      split at h
      · rename_i q hq
        obtain ⟨st', σ'⟩ := q
        have hin := xnext_in (M := M) (t := t) (pc := e.1 + ilen e.2.1) ht
        have hpe : σ'.1 = σ.1 := xheap_pe hq
        exact xheap_ok (ls := ls) (nL := xmN M) hx hb hts hG.1 hown hSta.1 hA hSta.2.2.1 hSta.2.2.2.1 hX (fun z => hname (of_decide_eq_true z)) hvh hq hw.1 hw.2 hS hl hd (fun ad' H1 locs1 g1 g2 g3 g4 g5 g6 => hih _ _ _ _ _ h hin.1 hlf _ hin.2 ad' H1 locs1 ls (fun j hj => (g1 j (Nat.lt_of_lt_of_le hj hn)).trans (ha j hj)) (Nat.le_trans hn g2) (by rw [hpe]; exact hs) ⟨g3, g4⟩ g5 g6)
      · cases h
    · rename_i hk
      rw [hk] at hve
      split at h
      · rename_i z hz
        refine xbranch_ok (cells := σ.2.2.2.1) (slots := σ.2.2.2.2) hx hb hz hs hve (fun q hq hsq => ?_)
        obtain ⟨r', h5, h6⟩ := xall_spec h q hq
        have hin := xfind_in (M := M) (pc := q.1)
        exact hih _ _ _ (q.2.2, σ.2) _ h5 hin.1 (fun lf hlf9 => hlf lf (h6 lf hlf9)) _ hin.2 ad H locs ls ha hn hsq hw hS hl
      · cases h
    · rename_i hk
      exact xcall_ok C hcf hG hT hV hih he ht hk h hlf ha hn hs hw hS hl
    · rename_i hk
      obtain rfl := Option.some.inj h
      exact (hlf _ List.mem_cons_self ad H locs ls he (fun _ => hk) (fun z => by cases z) ha hs hw hS hl).1 (fun z => by cases z)
    · rename_i hk
      split at h
      · rename_i E tl haux
        obtain rfl := Option.some.inj h
        exact (hlf _ List.mem_cons_self ad H locs ls he (fun z => by cases z) (fun _ => ⟨hk, tl, haux⟩) ha hs hw hS hl).1 (fun z => by cases z)
      · cases h
    · rename_i hk
      rw [hk] at hve
      obtain ⟨idx, hd, w1, w2, w3⟩ := hve
      unfold xoinit at h
      split at h
      · rename_i o r
        generalize hchk : (Nat.ble 1 (xmR M).frames && Nat.ble (xcats r + 12) (xmR M).locals) = b at h
        cases b with
        | false => cases h
        | true =>
          rw [Bool.and_eq_true] at hchk
          have hin := xnext_in (M := M) (t := t) (pc := e.1 + 3) ht
          refine W.objInit (rest := evS (ev ad xs bS) r) (g := F0 m e.1 ls (.ref (ad o) :: evS (ev ad xs bS) r)) hx hb hown (hts _ w1) (hts _ w2) (hts _ w3) rfl (hl.1.trans hml.symm) rfl hd (Nat.le_of_ble_eq_true hchk.1) ?_ ?_
          · have := Nat.le_of_ble_eq_true hchk.2
            rw [xcats_ev]
            show 2 * 0 + xcats r + 12 ≤ _
            omega
          · exact hih _ _ _ _ _ h hin.1 hlf _ hin.2 ad H locs ls ha hn hs hw hS hl
      · cases h
    · rename_i hk
      exact xcopy_ok C hV hih he ht hk h hlf ha hn hs hw hS hl
    · cases h
theorem xrun_ok (C : xCtx p l s m args meth c M D aC A xs bS scr) (hcf : xCfOk l Ms D aC A xs bS cf) (hG : xGlob) (hT : xTabOk cls M) (hV : ∀ e ∈ xmC M, xVE Ms M e) : ∀ f, xHI p l en s m args below meth c Q xs bS aC D A M n0 ad0 (xrun Ms cls scr M cf f)
  | 0 => fun _ _ _ _ _ h => nomatch h
  | f + 1 => xbody_ok C hcf hG hT hV (xrun_ok C hcf hG hT hV f)
end
end XQ
