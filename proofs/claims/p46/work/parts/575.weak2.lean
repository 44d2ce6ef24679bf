/-! fewer locals are enough, also where the end tells of locals (own text, wip/p46/gen575.py) -/
section XKE
/-- ends alike, the locals of the second know more -/
def W2L : List XLf → List XLf → Prop
  | [], [] => True
  | l :: ls, m :: ms => (erL m = erL l ∧ WkS l.2.2.2.1 m.2.2.2.1) ∧ W2L ls ms
  | _, _ => False
theorem W2L_app : ∀ {a b c d : List XLf}, W2L a b → W2L c d → W2L (a ++ c) (b ++ d)
  | [], [], _, _, _, h => h
  | _ :: _, _ :: _, _, _, h, h2 => ⟨h.1, W2L_app h.2 h2⟩
  | [], _ :: _, _, _, h, _ => h.elim
  | _ :: _, [], _, _, h, _ => h.elim
def W2R (x y : Option (List XLf)) : Prop := ∀ ls, x = some ls → ∃ ms, y = some ms ∧ W2L ls ms
theorem W2R_none {y : Option (List XLf)} : W2R none y := fun _ h => by cases h
theorem xall_w2 {α : Type} {f g : α → Option (List XLf)} (h : ∀ a, W2R (f a) (g a)) : ∀ l : List α, W2R (xall f l) (xall g l)
  | [] => fun ls e => ⟨ls, e, by cases (show [] = ls from Option.some.inj e); trivial⟩
  | a :: l => fun ls e => by
    unfold xall at e
    cases h1 : f a with
    | none => rw [h1] at e; cases e
    | some r =>
      rw [h1] at e
      dsimp only at e
      cases h2 : xall f l with
      | none => rw [h2] at e; cases e
      | some q =>
        rw [h2] at e
        obtain rfl := Option.some.inj e
        obtain ⟨r2, e1, e2⟩ := h a r h1
        obtain ⟨q2, e3, e4⟩ := xall_w2 h l q h2
        refine ⟨r2 ++ q2, ?_, ?_⟩
        · unfold xall
          rw [e1]
          dsimp only
          rw [e3]
        · exact W2L_app e2 e4
theorem bif_w2R {c : Bool} {x y : Option (List XLf)} (h : W2R x y) : W2R (bif c then x else none) (bif c then y else none) := by
  cases c with
  | true => exact h
  | false => exact W2R_none
theorem bif_w2Rb {c : Bool} {x y : Option (List XLf)} (h : W2R x y) : W2R (bif c then none else x) (bif c then none else y) := by
  cases c with
  | true => exact W2R_none
  | false => exact h
theorem xrun_w2 {Ms : List XM} {cls : Nat → Nat} {scr : Option (Nat × (Nat → Int32))} {M : XM} {cf : XCf} : ∀ (f : Nat) (cur : List XI) (a b : XL) (st : List Value) (σ : XS), WkS a b → W2R (xrun Ms cls scr M cf f cur a st σ) (xrun Ms cls scr M cf f cur b st σ)
  | 0, _, _, _, _, _, _ => W2R_none
  | f + 1, cur, a, b, st, σ, hs => by
    have ih := xrun_w2 (Ms := Ms) (cls := cls) (scr := scr) (M := M) (cf := cf) f
    show W2R (xbody Ms cls scr M cf (xrun Ms cls scr M cf f) cur a st σ) (xbody Ms cls scr M cf (xrun Ms cls scr M cf f) cur b st σ)
    unfold xbody
    cases cur with
    | nil => exact W2R_none
    | cons e t =>
      dsimp only
      split
      · cases h1 : xsimple (xmN M) e.2.1 e.2.2.2 a st with
        | none => exact W2R_none
        | some q =>
          obtain ⟨m, h2, h3⟩ := xsimple_wk hs h1
          rw [h2]
          exact ih _ _ _ _ _ h3
      · rw [xheap_lv scr (xmR M) e.2.1 e.2.2.2 a b st σ]
        split
        · exact ih _ _ _ _ _ hs
        · exact W2R_none
      · split
        · exact xall_w2 (fun q => ih _ _ _ _ _ hs) _
        · exact W2R_none
      · unfold xcall
        split
        · split
          · exact W2R_none
          · refine bif_w2R ?_
            split
            · refine xall_w2 (fun q => ?_) _
              unfold xback
              split
              · exact ih _ _ _ _ _ hs
              · exact W2R_none
            · exact W2R_none
        · exact W2R_none
      · intro ls e; obtain rfl := Option.some.inj e; exact ⟨_, rfl, ⟨rfl, hs⟩, trivial⟩
      · unfold xoinit
        split
        · exact bif_w2R (ih _ _ _ _ _ hs)
        · exact W2R_none
      · unfold xcopy
        split
        · split
          · exact bif_w2Rb (bif_w2Rb (bif_w2R (ih _ _ _ _ _ hs)))
          · exact W2R_none
        · exact W2R_none
      · intro ls e; obtain rfl := Option.some.inj e; exact ⟨_, rfl, ⟨rfl, hs⟩, trivial⟩
      · unfold xmath
        split
        · exact bif_w2R (ih _ _ _ _ _ hs)
        · exact W2R_none
      · exact W2R_none
/-- what is asked of the end stays where more is known of the locals -/
def NoL2 (Q : XLf → Prop) : Prop := ∀ l m, erL m = erL l → WkS l.2.2.2.1 m.2.2.2.1 → Q l → Q m
theorem Gq_wk2 {S : ScT} {M : XM} {pc : Nat} {lv lv' : XL} {st : List Value} {H : HF} {n ce sl : Nat} {Q : XLf → Prop} (ks : List Nat) (hs : srt lv = true) (hp : pick ks lv = lv') (hQ : NoL2 Q) (kk : Gw S M pc lv' st H n ce sl Q) : Gw S M pc lv st H n ce sl Q := by
  subst hp
  intro h hh hf
  obtain ⟨lf, hq, f0, d0, F0, hr⟩ := kk h hh hf
  have hw : WkS (pick ks lv) lv := ⟨fun q hq => (List.mem_filter.mp hq).1, srt_uq hs⟩
  have key : ∀ f d F, f0 ≤ f → d0 ≤ d → F0 ≤ F → ∃ m, xrun xMs c0 S M (xmeth xMs c0 S F d) f (xfind (xmC M) pc) lv st ([], h, n, ce, sl) = some [m] ∧ erL m = erL lf ∧ WkS lf.2.2.2.1 m.2.2.2.1 := fun f d F h1 h2 h3 => by
    obtain ⟨ms, e1, e2⟩ := xrun_w2 f (xfind (xmC M) pc) _ _ st ([], h, n, ce, sl) hw _ (hr f d F h1 h2 h3)
    cases ms with
    | nil => exact e2.elim
    | cons m t =>
      cases t with
      | cons x y => exact e2.2.elim
      | nil => exact ⟨m, e1, e2.1⟩
  obtain ⟨m, e1, e2, e3⟩ := key f0 d0 F0 (Nat.le_refl _) (Nat.le_refl _) (Nat.le_refl _)
  exact ⟨m, hQ lf m e2 e3 hq, f0, d0, F0, fun f d F h1 h2 h3 => xrun_le (xmeth_le h3 d0 d h2) f0 f _ _ _ _ h1 _ e1⟩
end XKE
