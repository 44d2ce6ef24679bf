/-! fewer locals are enough (own text, wip/p46/gen485.py) -/
section XKw
def WkS (a b : XL) : Prop := (∀ q ∈ a, q ∈ b) ∧ ∀ q ∈ b, ∀ r ∈ b, q.1 = r.1 → q = r
theorem mem_xins {i : Nat} {v : Value} {q : Nat × Value} : ∀ {l : XL}, (q = (i, v) ∨ q ∈ l) → q ∈ xins i v l
  | [], h => by
    rcases h with h | h
    · exact List.mem_cons.mpr (.inl h)
    · cases h
  | (j, w) :: t, h => by
    unfold xins
    cases hb : Nat.ble i j with
    | true => exact List.mem_cons.mpr h
    | false =>
      rcases h with h | h
      · exact List.mem_cons_of_mem _ (mem_xins (.inl h))
      · rcases List.mem_cons.mp h with h | h
        · exact List.mem_cons.mpr (.inl h)
        · exact List.mem_cons_of_mem _ (mem_xins (.inr h))
theorem xlk_some {i : Nat} {v : Value} : ∀ {l : XL}, (i, v) ∈ l → ∃ w, xlk l i = some w
  | (j, w) :: t, h => by
    unfold xlk
    cases hb : Nat.beq j i with
    | true => exact ⟨w, rfl⟩
    | false =>
      rcases List.mem_cons.mp h with h | h
      · cases h
        rw [Nat.beq_refl] at hb
        cases hb
      · exact xlk_some h
theorem xlk_wk {a b : XL} (h : WkS a b) {i : Nat} {v : Value} (hv : xlk a i = some v) : xlk b i = some v := by
  have h1 := h.1 _ (xlk_mem hv)
  obtain ⟨w, hw⟩ := xlk_some h1
  have h2 := h.2 _ h1 _ (xlk_mem hw) rfl
  cases h2
  exact hw
theorem ins_wk {a b : XL} (h : WkS a b) (i : Nat) (v : Value) (f : Nat × Value → Bool) (hf : ∀ q, f q = true → ¬ q.1 = i) : WkS (xins i v (a.filter f)) (xins i v (b.filter f)) := by
  have hm : ∀ (l : XL) q, q ∈ xins i v (l.filter f) → q = (i, v) ∨ (q ∈ l ∧ ¬ q.1 = i) := fun l q hq => by
    rcases List.mem_cons.mp (xins_mem hq) with h1 | h1
    · exact .inl h1
    · have h2 := List.mem_filter.mp h1
      exact .inr ⟨h2.1, hf q h2.2⟩
  refine ⟨fun q hq => mem_xins ?_, fun q hq r hr e => ?_⟩
  · rcases List.mem_cons.mp (xins_mem hq) with h1 | h1
    · exact .inl h1
    · have h2 := List.mem_filter.mp h1
      exact .inr (List.mem_filter.mpr ⟨h.1 _ h2.1, h2.2⟩)
  · rcases hm b q hq with h1 | h1
    · rcases hm b r hr with h2 | h2
      · rw [h1, h2]
      · exact absurd (by rw [← e, h1]) h2.2
    · rcases hm b r hr with h2 | h2
      · exact absurd (by rw [e, h2]) h1.2
      · exact h.2 q h1.1 r h2.1 e
theorem xst1_wk {a b l : XL} (h : WkS a b) {nL i : Nat} {v : Value} (hs : xst1 nL i v a = some l) : ∃ m, xst1 nL i v b = some m ∧ WkS l m := by
  unfold xst1 at hs ⊢
  cases hb : Nat.ble (i + 1) nL with
  | false => rw [hb] at hs; cases hs
  | true =>
    rw [hb] at hs
    obtain rfl := Option.some.inj hs
    refine ⟨_, rfl, ins_wk h i v _ (fun q hq e => ?_)⟩
    unfold xf1 at hq
    rw [e] at hq
    simp at hq
theorem xst2_wk {a b l : XL} (h : WkS a b) {nL i : Nat} {v : Value} (hs : xst2 nL i v a = some l) : ∃ m, xst2 nL i v b = some m ∧ WkS l m := by
  unfold xst2 at hs ⊢
  cases hb : Nat.ble (i + 2) nL with
  | false => rw [hb] at hs; cases hs
  | true =>
    rw [hb] at hs
    obtain rfl := Option.some.inj hs
    refine ⟨_, rfl, ins_wk h i v _ (fun q hq e => ?_)⟩
    unfold xf2 at hq
    rw [e] at hq
    simp at hq
theorem xld_wk {a b : XL} (h : WkS a b) {i : Nat} {ok : Value → Bool} {st : List Value} {q : XL × List Value} (hs : xld ok a st i = some q) : ∃ m, xld ok b st i = some (m, q.2) ∧ WkS q.1 m := by
  obtain ⟨v, h1, h2, rfl⟩ := xld_spec hs
  refine ⟨b, ?_, h⟩
  unfold xld
  rw [xlk_wk h h1]
  dsimp only
  rw [h2]
  rfl
theorem xstr1_wk {a b : XL} (h : WkS a b) {nL i : Nat} {ok : Value → Bool} {st : List Value} {q : XL × List Value} (hs : xstr1 ok nL i a st = some q) : ∃ m, xstr1 ok nL i b st = some (m, q.2) ∧ WkS q.1 m := by
  obtain ⟨v, r, l, rfl, h2, h1, rfl⟩ := xstr1_spec hs
  obtain ⟨m, h3, h4⟩ := xst1_wk h h1
  refine ⟨m, ?_, h4⟩
  unfold xstr1
  dsimp only
  rw [h2, h3]
  rfl
theorem xstr2_wk {a b : XL} (h : WkS a b) {nL i : Nat} {ok : Value → Bool} {st : List Value} {q : XL × List Value} (hs : xstr2 ok nL i a st = some q) : ∃ m, xstr2 ok nL i b st = some (m, q.2) ∧ WkS q.1 m := by
  obtain ⟨v, r, l, rfl, h2, h1, rfl⟩ := xstr2_spec hs
  obtain ⟨m, h3, h4⟩ := xst2_wk h h1
  refine ⟨m, ?_, h4⟩
  unfold xstr2
  dsimp only
  rw [h2, h3]
  rfl
theorem xbinz_wk {a b : XL} (h : WkS a b) {f : Int32 → Int32 → Int32} {st : List Value} {q : XL × List Value} (hs : xbinz f a st = some q) : ∃ m, xbinz f b st = some (m, q.2) ∧ WkS q.1 m := by
  unfold xbinz at hs
  split at hs
  · rename_i y x r
    cases hz : decide (y = 0) with
    | true => rw [hz] at hs; cases hs
    | false =>
      rw [hz] at hs
      obtain rfl := Option.some.inj hs
      refine ⟨b, ?_, h⟩
      unfold xbinz
      dsimp only
      rw [hz]
      rfl
  · cases hs
theorem xbin_wk {a b : XL} (h : WkS a b) {f : Int32 → Int32 → Int32} {st : List Value} {q : XL × List Value} (hs : xbin f a st = some q) : ∃ m, xbin f b st = some (m, q.2) ∧ WkS q.1 m := by
  obtain ⟨x, y, r, rfl, rfl⟩ := xbin_spec hs
  exact ⟨b, rfl, h⟩
theorem xbil_wk {a b : XL} (h : WkS a b) {f : Int64 → Int64 → Int64} {st : List Value} {q : XL × List Value} (hs : xbil f a st = some q) : ∃ m, xbil f b st = some (m, q.2) ∧ WkS q.1 m := by
  obtain ⟨x, y, r, rfl, rfl⟩ := xbil_spec hs
  exact ⟨b, rfl, h⟩
theorem bif_wk {c : Bool} {α : Type} {x : α} {y : Option α} (h : (bif c then y else none) = some x) : c = true ∧ y = some x := by
  cases c with
  | true => exact ⟨rfl, h⟩
  | false => cases h
set_option maxHeartbeats 1000000 in
theorem xsimple_wk {nL : Nat} {i : Instr} {aux : List Nat} {a b : XL} {st : List Value} {q : XL × List Value} (hs : WkS a b) (h : xsimple nL i aux a st = some q) : ∃ m, xsimple nL i aux b st = some (m, q.2) ∧ WkS q.1 m := by
  unfold xsimple at h ⊢
  split at h
  · obtain rfl := Option.some.inj h; exact ⟨b, rfl, hs⟩
  · obtain rfl := Option.some.inj h; exact ⟨b, rfl, hs⟩
  · obtain rfl := Option.some.inj h; exact ⟨b, rfl, hs⟩
  · obtain rfl := Option.some.inj h; exact ⟨b, rfl, hs⟩
  · obtain ⟨h1, h2⟩ := bif_wk h
    obtain rfl := Option.some.inj h2
    refine ⟨b, ?_, hs⟩
    dsimp only
    rw [h1]
    rfl
  · split at h
    · obtain rfl := Option.some.inj h; exact ⟨b, rfl, hs⟩
    · cases h
  · split at h
    · obtain rfl := Option.some.inj h; exact ⟨b, rfl, hs⟩
    · cases h
  · exact xld_wk hs h
  · exact xld_wk hs h
  · exact xld_wk hs h
  · exact xld_wk hs h
  · exact xld_wk hs h
  · exact xld_wk hs h
  · exact xld_wk hs h
  · exact xstr1_wk hs h
  · exact xstr1_wk hs h
  · exact xstr1_wk hs h
  · exact xstr1_wk hs h
  · exact xstr2_wk hs h
  · exact xstr2_wk hs h
  · exact xstr2_wk hs h
  · unfold xinc at h ⊢
    split at h
    · rename_i x hx
      split at h
      · rename_i l1 h1
        obtain rfl := Option.some.inj h
        obtain ⟨m, h3, h4⟩ := xst1_wk hs h1
        refine ⟨m, ?_, h4⟩
        rw [xlk_wk hs hx]
        dsimp only
        rw [h3]
      · cases h
    · cases h
  · exact xbin_wk hs h
  · exact xbin_wk hs h
  · exact xbin_wk hs h
  · exact xbin_wk hs h
  · exact xbin_wk hs h
  · unfold xand at h
    split at h
    · obtain rfl := Option.some.inj h; exact ⟨b, rfl, hs⟩
    · cases h
  · unfold xi2l at h
    split at h
    · obtain rfl := Option.some.inj h; exact ⟨b, rfl, hs⟩
    · cases h
  · exact xbil_wk hs h
  · exact xbil_wk hs h
  · unfold xlcm at h
    split at h
    · obtain rfl := Option.some.inj h; exact ⟨b, rfl, hs⟩
    · cases h
  · unfold xdcm at h
    split at h
    · obtain rfl := Option.some.inj h; exact ⟨b, rfl, hs⟩
    · cases h
  · unfold xdup at h
    split at h
    · obtain ⟨h1, h2⟩ := bif_wk h
      obtain rfl := Option.some.inj h2
      refine ⟨b, ?_, hs⟩
      unfold xdup
      dsimp only
      rw [h1]
      rfl
    · cases h
  · unfold xdupx at h
    split at h
    · obtain ⟨h1, h2⟩ := bif_wk h
      obtain rfl := Option.some.inj h2
      refine ⟨b, ?_, hs⟩
      unfold xdupx
      dsimp only
      rw [h1]
      rfl
    · cases h
  · exact xbin_wk hs h
  · exact xbin_wk hs h
  · exact xbinz_wk hs h
  · exact xbinz_wk hs h
  · unfold xdup2 at h
    split at h
    · obtain ⟨h1, h2⟩ := bif_wk h
      obtain rfl := Option.some.inj h2
      refine ⟨b, ?_, hs⟩
      unfold xdup2
      dsimp only
      rw [h1]
      rfl
    · cases h
  · unfold xdupx2 at h
    split at h
    · obtain ⟨h1, h2⟩ := bif_wk h
      obtain rfl := Option.some.inj h2
      refine ⟨b, ?_, hs⟩
      unfold xdupx2
      dsimp only
      rw [h1]
      rfl
    · cases h
  · unfold xpop at h
    split at h
    · obtain ⟨h1, h2⟩ := bif_wk h
      obtain rfl := Option.some.inj h2
      refine ⟨b, ?_, hs⟩
      unfold xpop
      dsimp only
      rw [h1]
      rfl
    · cases h
  · cases h
theorem xheap_lv (scr : Option (Nat × (Nat → Int32))) (R : Room) (i : Instr) (aux : List Nat) (a b : XL) (st : List Value) (σ : XS) : xheap scr R i aux a st σ = xheap scr R i aux b st σ := by
  unfold xheap
  split <;> rfl
/-- an end without its locals -/
def erL (l : XLf) : Nat × Nat × XI × List Value × XS := (l.1, l.2.1, l.2.2.1, l.2.2.2.2.1, l.2.2.2.2.2)
def WkR (x y : Option (List XLf)) : Prop := ∀ ls, x = some ls → ∃ ms, y = some ms ∧ ms.map erL = ls.map erL
theorem WkR_none {y : Option (List XLf)} : WkR none y := fun _ h => by cases h
theorem xall_wk {α : Type} {f g : α → Option (List XLf)} (h : ∀ a, WkR (f a) (g a)) : ∀ l : List α, WkR (xall f l) (xall g l)
  | [] => fun ls e => ⟨ls, e, rfl⟩
  | a :: l => fun ls e => by
    unfold xall at e
    cases h1 : f a with
    | none => rw [h1] at e; cases e
    | some r =>
      rw [h1] at e
      dsimp only at e
      cases h2 : xall f l with
      | none => rw [h2] at e; cases e
      | some q =>
        rw [h2] at e
        obtain rfl := Option.some.inj e
        obtain ⟨r2, e1, e2⟩ := h a r h1
        obtain ⟨q2, e3, e4⟩ := xall_wk h l q h2
        refine ⟨r2 ++ q2, ?_, ?_⟩
        · unfold xall
          rw [e1]
          dsimp only
          rw [e3]
        · rw [List.map_append, List.map_append, e2, e4]
theorem bif_wkR {c : Bool} {x y : Option (List XLf)} (h : WkR x y) : WkR (bif c then x else none) (bif c then y else none) := by
  cases c with
  | true => exact h
  | false => exact WkR_none
theorem bif_wkR2 {c : Bool} {x y : Option (List XLf)} (h : WkR x y) : WkR (bif c then none else x) (bif c then none else y) := by
  cases c with
  | true => exact WkR_none
  | false => exact h
theorem xrun_wk {Ms : List XM} {cls : Nat → Nat} {scr : Option (Nat × (Nat → Int32))} {M : XM} {cf : XCf} : ∀ (f : Nat) (cur : List XI) (a b : XL) (st : List Value) (σ : XS), WkS a b → WkR (xrun Ms cls scr M cf f cur a st σ) (xrun Ms cls scr M cf f cur b st σ)
  | 0, _, _, _, _, _, _ => WkR_none
  | f + 1, cur, a, b, st, σ, hs => by
    have ih := xrun_wk (Ms := Ms) (cls := cls) (scr := scr) (M := M) (cf := cf) f
    show WkR (xbody Ms cls scr M cf (xrun Ms cls scr M cf f) cur a st σ) (xbody Ms cls scr M cf (xrun Ms cls scr M cf f) cur b st σ)
    unfold xbody
    cases cur with
    | nil => exact WkR_none
    | cons e t =>
      dsimp only
      split
      · cases h1 : xsimple (xmN M) e.2.1 e.2.2.2 a st with
        | none => exact WkR_none
        | some q =>
          obtain ⟨m, h2, h3⟩ := xsimple_wk hs h1
          rw [h2]
          exact ih _ _ _ _ _ h3
      · rw [xheap_lv scr (xmR M) e.2.1 e.2.2.2 a b st σ]
        split
        · exact ih _ _ _ _ _ hs
        · exact WkR_none
      · split
        · exact xall_wk (fun q => ih _ _ _ _ _ hs) _
        · exact WkR_none
      · unfold xcall
        split
        · split
          · exact WkR_none
          · refine bif_wkR ?_
            split
            · refine xall_wk (fun q => ?_) _
              unfold xback
              split
              · exact ih _ _ _ _ _ hs
              · exact WkR_none
            · exact WkR_none
        · exact WkR_none
      · intro ls e; obtain rfl := Option.some.inj e; exact ⟨_, rfl, rfl⟩
      · unfold xoinit
        split
        · exact bif_wkR (ih _ _ _ _ _ hs)
        · exact WkR_none
      · unfold xcopy
        split
        · split
          · exact bif_wkR2 (bif_wkR2 (bif_wkR (ih _ _ _ _ _ hs)))
          · exact WkR_none
        · exact WkR_none
      · intro ls e; obtain rfl := Option.some.inj e; exact ⟨_, rfl, rfl⟩
      · unfold xmath
        split
        · exact bif_wkR (ih _ _ _ _ _ hs)
        · exact WkR_none
      · exact WkR_none
/-! more fuel, the same end -/
def LeR {α : Type} (x y : Option (List α)) : Prop := ∀ ls, x = some ls → y = some ls
theorem LeR_none {α : Type} {y : Option (List α)} : LeR none y := fun _ h => by cases h
theorem xall_le {α β : Type} {f g : α → Option (List β)} (h : ∀ a, LeR (f a) (g a)) : ∀ l : List α, LeR (xall f l) (xall g l)
  | [] => fun ls e => e
  | a :: l => fun ls e => by
    unfold xall at e
    cases h1 : f a with
    | none => rw [h1] at e; cases e
    | some r =>
      rw [h1] at e
      dsimp only at e
      cases h2 : xall f l with
      | none => rw [h2] at e; cases e
      | some q =>
        rw [h2] at e
        obtain rfl := Option.some.inj e
        unfold xall
        rw [h a r h1]
        dsimp only
        rw [xall_le h l q h2]
theorem bif_le {α : Type} {c : Bool} {x y : Option (List α)} (h : LeR x y) : LeR (bif c then x else none) (bif c then y else none) := by
  cases c with
  | true => exact h
  | false => exact LeR_none
theorem bif_le2 {α : Type} {c : Bool} {x y : Option (List α)} (h : LeR x y) : LeR (bif c then none else x) (bif c then none else y) := by
  cases c with
  | true => exact LeR_none
  | false => exact h
theorem xrun_le {Ms : List XM} {cls : Nat → Nat} {scr : Option (Nat × (Nat → Int32))} {M : XM} {cf cf' : XCf} (hcf : ∀ k as pe h n, LeR (cf k as pe h n) (cf' k as pe h n)) : ∀ (f g : Nat) (cur : List XI) (a : XL) (st : List Value) (σ : XS), f ≤ g → LeR (xrun Ms cls scr M cf f cur a st σ) (xrun Ms cls scr M cf' g cur a st σ)
  | 0, _, _, _, _, _, _ => LeR_none
  | f + 1, 0, _, _, _, _, hg => absurd hg (by omega)
  | f + 1, g + 1, cur, a, st, σ, hg => by
    have ih := xrun_le (Ms := Ms) (cls := cls) (scr := scr) (M := M) (cf := cf) hcf f g
    have hg : f ≤ g := by omega
    show LeR (xbody Ms cls scr M cf (xrun Ms cls scr M cf f) cur a st σ) (xbody Ms cls scr M cf' (xrun Ms cls scr M cf' g) cur a st σ)
    unfold xbody
    cases cur with
    | nil => exact LeR_none
    | cons e t =>
      dsimp only
      split
      · split
        · exact ih _ _ _ _ hg
        · exact LeR_none
      · split
        · exact ih _ _ _ _ hg
        · exact LeR_none
      · split
        · exact xall_le (fun q => ih _ _ _ _ hg) _
        · exact LeR_none
      · unfold xcall
        split
        · split
          · exact LeR_none
          · rename_i Y hY
            refine bif_le ?_
            cases h1 : cf _ (st.take (xmA Y)).reverse _ _ _ with
            | none => exact LeR_none
            | some ls =>
              rw [hcf _ _ _ _ _ ls h1]
              refine xall_le (fun q => ?_) _
              unfold xback
              split
              · exact ih _ _ _ _ hg
              · exact LeR_none
        · exact LeR_none
      · exact fun ls e => e
      · unfold xoinit
        split
        · exact bif_le (ih _ _ _ _ hg)
        · exact LeR_none
      · unfold xcopy
        split
        · split
          · exact bif_le2 (bif_le2 (bif_le (ih _ _ _ _ hg)))
          · exact LeR_none
        · exact LeR_none
      · exact fun ls e => e
      · unfold xmath
        split
        · exact bif_le (ih _ _ _ _ hg)
        · exact LeR_none
      · exact LeR_none
theorem xmeth_le {Ms : List XM} {cls : Nat → Nat} {scr : Option (Nat × (Nat → Int32))} {F G : Nat} (hF : F ≤ G) : ∀ (d e : Nat), d ≤ e → ∀ k as pe h n, LeR (xmeth Ms cls scr F d k as pe h n) (xmeth Ms cls scr G e k as pe h n)
  | 0, _, _, _, _, _, _, _ => LeR_none
  | d + 1, 0, he, _, _, _, _, _ => absurd he (by omega)
  | d + 1, e + 1, he, k, as, pe, h, n => by
    have ih := xmeth_le (Ms := Ms) (cls := cls) (scr := scr) hF d e (by omega)
    show LeR (match xnth Ms k with
      | none => none
      | some M => bif Nat.ble (xcats as) (xmN M) then (match xrun Ms cls scr M (xmeth Ms cls scr F d) F (xfind (xmC M) 0) (lv_args 0 as) [] (pe, h, n, 0, 0) with
        | some ls => xends M ls
        | none => none) else none) (match xnth Ms k with
      | none => none
      | some M => bif Nat.ble (xcats as) (xmN M) then (match xrun Ms cls scr M (xmeth Ms cls scr G e) G (xfind (xmC M) 0) (lv_args 0 as) [] (pe, h, n, 0, 0) with
        | some ls => xends M ls
        | none => none) else none)
    cases hM : xnth Ms k with
    | none => exact LeR_none
    | some M =>
      dsimp only
      refine bif_le ?_
      cases h1 : xrun Ms cls scr M (xmeth Ms cls scr F d) F (xfind (xmC M) 0) (lv_args 0 as) [] (pe, h, n, 0, 0) with
      | none => exact LeR_none
      | some ls =>
        rw [xrun_le ih F G _ _ _ _ hF ls h1]
        exact fun _ e => e
def srt : XL → Bool
  | (i, _) :: (j, w) :: t => Nat.ble (i + 1) j && srt ((j, w) :: t)
  | _ => true
theorem srt_lt : ∀ {t : XL} {i : Nat} {v : Value}, srt ((i, v) :: t) = true → ∀ q ∈ t, i < q.1
  | [], _, _, _, q, hq => by cases hq
  | (j, w) :: t, i, v, h, q, hq => by
    have h : (Nat.ble (i + 1) j && srt ((j, w) :: t)) = true := h
    rw [Bool.and_eq_true] at h
    have h1 := Nat.le_of_ble_eq_true h.1
    rcases List.mem_cons.mp hq with rfl | hq
    · exact h1
    · have := srt_lt h.2 q hq
      omega
theorem srt_tl {t : XL} {q : Nat × Value} (h : srt (q :: t) = true) : srt t = true := by
  cases t with
  | nil => rfl
  | cons r t =>
    obtain ⟨i, v⟩ := q
    obtain ⟨j, w⟩ := r
    have h : (Nat.ble (i + 1) j && srt ((j, w) :: t)) = true := h
    rw [Bool.and_eq_true] at h
    exact h.2
theorem srt_uq : ∀ {l : XL}, srt l = true → ∀ q ∈ l, ∀ r ∈ l, q.1 = r.1 → q = r
  | [], _, q, hq, _, _, _ => by cases hq
  | (i, v) :: t, h, q, hq, r, hr, e => by
    rcases List.mem_cons.mp hq with h1 | h1
    · rcases List.mem_cons.mp hr with h2 | h2
      · rw [h1, h2]
      · have := srt_lt h r h2
        rw [h1] at e
        have e : i = r.1 := e
        omega
    · rcases List.mem_cons.mp hr with h2 | h2
      · have := srt_lt h q h1
        rw [h2] at e
        have e : q.1 = i := e
        omega
      · exact srt_uq (srt_tl h) q h1 r h2 e
def pick (ks : List Nat) (l : XL) : XL := l.filter (fun q => ks.any (Nat.beq q.1))
/-- no locals in what is asked of the end -/
def NoL (Q : XLf → Prop) : Prop := ∀ l m, erL m = erL l → Q l → Q m
theorem Gq_wk {S : ScT} {M : XM} {pc : Nat} {lv lv' : XL} {st : List Value} {H : HF} {n ce sl : Nat} {Q : XLf → Prop} (ks : List Nat) (hs : srt lv = true) (hp : pick ks lv = lv') (hQ : NoL Q) (kk : Gw S M pc lv' st H n ce sl Q) : Gw S M pc lv st H n ce sl Q := by
  subst hp
  intro h hh hf
  obtain ⟨lf, hq, f0, d0, F0, hr⟩ := kk h hh hf
  have hw : WkS (pick ks lv) lv := ⟨fun q hq => (List.mem_filter.mp hq).1, srt_uq hs⟩
  have key : ∀ f d F, f0 ≤ f → d0 ≤ d → F0 ≤ F → ∃ m, xrun xMs c0 S M (xmeth xMs c0 S F d) f (xfind (xmC M) pc) lv st ([], h, n, ce, sl) = some [m] ∧ erL m = erL lf := fun f d F h1 h2 h3 => by
    obtain ⟨ms, e1, e2⟩ := xrun_wk f (xfind (xmC M) pc) _ _ st ([], h, n, ce, sl) hw _ (hr f d F h1 h2 h3)
    cases ms with
    | nil => exact nomatch (show ([] : List (Nat × Nat × XI × List Value × XS)) = [erL lf] from e2)
    | cons m t =>
      have e2 : erL m :: t.map erL = [erL lf] := e2
      cases t with
      | cons x y => exact nomatch (List.cons.inj e2).2
      | nil => exact ⟨m, e1, (List.cons.inj e2).1⟩
  obtain ⟨m, e1, e2⟩ := key f0 d0 F0 (Nat.le_refl _) (Nat.le_refl _) (Nat.le_refl _)
  exact ⟨m, hQ lf m e2 hq, f0, d0, F0, fun f d F h1 h2 h3 => xrun_le (xmeth_le h3 d0 d h2) f0 f _ _ _ _ h1 _ e1⟩
theorem MQ_nl {M : XM} {P : Option Value → HF → Nat → Prop} : NoL (MQe M P) := fun l m e ⟨v, h', n', h1, h2⟩ => by
  obtain ⟨a, b, c, d, s, σ⟩ := l
  obtain ⟨a2, b2, c2, d2, s2, σ2⟩ := m
  have e : (a2, b2, c2, s2, σ2) = (a, b, c, s, σ) := e
  cases e
  refine ⟨v, h', n', ?_, h2⟩
  rw [← h1]
  obtain ⟨pe, hh, nn, ce, sl⟩ := σ
  cases a <;> rfl
end XKw
