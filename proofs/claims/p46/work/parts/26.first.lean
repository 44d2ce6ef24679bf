/-! the first package without a version (printed by wip/p46/gen26.py) -/
section XK6
theorem upd4 (H : HF) {i j : Nat} (a b c d : XCl) (h : ¬ i = j) : hup (hup (hup (hup H i a) j b) i c) j d = hup (hup H i c) j d := by
  rw [upd_comm (hup H i a) b c (fun e => h e.symm), upd_upd (hup (hup H i a) i c) j b d, upd_upd H i a c]
/-- reached by claims that count -/
def Rch (vr : Nat → VR) (ch : Nat → Option Nat) (on : Nat → Nat) (aw : List CR) (p : Nat) : Prop := ∀ X : Nat → Prop, (∀ c ∈ aw, X (cT c)) → (∀ q o c, X q → ch q = some o → c ∈ vQ (vr o) → cCnt c (on q) = true → X (cT c)) → X p
theorem Rch_aw {vr : Nat → VR} {ch : Nat → Option Nat} {on : Nat → Nat} {aw : List CR} {c : CR} (h : c ∈ aw) : Rch vr ch on aw (cT c) := fun _ h1 _ => h1 c h
theorem Rch_step {vr : Nat → VR} {ch : Nat → Option Nat} {on : Nat → Nat} {aw : List CR} {q o : Nat} {c : CR} (hq : Rch vr ch on aw q) (ho : ch q = some o) (hc : c ∈ vQ (vr o)) (hn : cCnt c (on q) = true) : Rch vr ch on aw (cT c) := fun X h1 h2 => h2 q o c (hq X h1 h2) ho hc hn
def fw1 (f : Nat) (rw : List Nat) (c : CR) : List Nat := if cCnt c f then addR rw (cT c) else rw
theorem fw_ok {f : Nat} : ∀ {l : List CR} {rw : List Nat}, (∀ c ∈ l, cOK c) → RwOK rw → RwOK (l.foldl (fw1 f) rw)
  | [], _, _, h => h
  | c :: t, rw, hl, h => by
    refine fw_ok (l := t) (rw := fw1 f rw c) (fun d hd => hl d (List.mem_cons_of_mem _ hd)) ?_
    unfold fw1
    split
    · exact addR_ok h (hl c List.mem_cons_self).1
    · exact h
theorem fw_get {f i q : Nat} : ∀ {l : List CR} {rw : List Nat}, rw[i]? = some q → (l.foldl (fw1 f) rw)[i]? = some q
  | [], _, h => h
  | c :: t, rw, h => by
    refine fw_get (l := t) (rw := fw1 f rw c) ?_
    unfold fw1
    split
    · exact addR_get h
    · exact h
theorem fw_sub {f q : Nat} {l : List CR} {rw : List Nat} (h : q ∈ rw) : q ∈ l.foldl (fw1 f) rw := by
  obtain ⟨i, hi, rfl⟩ := List.getElem_of_mem h
  exact List.mem_of_getElem? (fw_get (List.getElem?_eq_getElem hi))
theorem fw_mem {f : Nat} : ∀ {l : List CR} {rw : List Nat} {c : CR}, c ∈ l → cCnt c f = true → cT c ∈ l.foldl (fw1 f) rw
  | a :: t, rw, c, hc, hn => by
    rcases List.mem_cons.mp hc with rfl | hc
    · refine fw_sub (l := t) (rw := fw1 f rw c) ?_
      unfold fw1
      rw [if_pos hn]
      exact addR_mem
    · exact fw_mem (l := t) (rw := fw1 f rw a) hc hn
theorem fw_of {f q : Nat} : ∀ {l : List CR} {rw : List Nat}, q ∈ l.foldl (fw1 f) rw → q ∈ rw ∨ ∃ c ∈ l, cCnt c f = true ∧ cT c = q
  | [], _, h => .inl h
  | c :: t, rw, h => by
    rcases fw_of (l := t) (rw := fw1 f rw c) h with h | ⟨d, h1, h2⟩
    · unfold fw1 at h
      split at h
      · rename_i hc
        rcases addR_of h with h | h
        · exact .inl h
        · exact .inr ⟨c, List.mem_cons_self, hc, h.symm⟩
      · exact .inl h
    · exact .inr ⟨d, List.mem_cons_of_mem _ h1, h2⟩
def fwA (rw : List Nat) (c : CR) : List Nat := addR rw (cT c)
theorem fwA_ok : ∀ {l : List CR} {rw : List Nat}, (∀ c ∈ l, cOK c) → RwOK rw → RwOK (l.foldl fwA rw)
  | [], _, _, h => h
  | c :: t, rw, hl, h => fwA_ok (l := t) (rw := fwA rw c) (fun d hd => hl d (List.mem_cons_of_mem _ hd)) (addR_ok h (hl c List.mem_cons_self).1)
theorem fwA_sub {q : Nat} : ∀ {l : List CR} {rw : List Nat}, q ∈ rw → q ∈ l.foldl fwA rw
  | [], _, h => h
  | c :: t, rw, h => fwA_sub (l := t) (rw := fwA rw c) (addR_sub h)
theorem fwA_mem : ∀ {l : List CR} {rw : List Nat} {c : CR}, c ∈ l → cT c ∈ l.foldl fwA rw
  | a :: t, rw, c, hc => by
    rcases List.mem_cons.mp hc with rfl | hc
    · exact fwA_sub (l := t) (rw := fwA rw c) addR_mem
    · exact fwA_mem (l := t) (rw := fwA rw a) hc
theorem fwA_of {q : Nat} : ∀ {l : List CR} {rw : List Nat}, q ∈ l.foldl fwA rw → q ∈ rw ∨ ∃ c ∈ l, cT c = q
  | [], _, h => .inl h
  | c :: t, rw, h => by
    rcases fwA_of (l := t) (rw := fwA rw c) h with h | ⟨d, h1, h2⟩
    · rcases addR_of h with h | h
      · exact .inl h
      · exact .inr ⟨c, List.mem_cons_self, h.symm⟩
    · exact .inr ⟨d, List.mem_cons_of_mem _ h1, h2⟩
/-- the row up to place i: whoever stands there has a version, and what it asks for stands in the row -/
def RwI (vr : Nat → VR) (ch : Nat → Option Nat) (on : Nat → Nat) (aw : List CR) (rw : List Nat) (i : Nat) : Prop := (∀ c ∈ aw, cT c ∈ rw) ∧ (∀ q ∈ rw, Rch vr ch on aw q) ∧ ∀ j q, j < i → rw[j]? = some q → ∃ o, ch q = some o ∧ ∀ c ∈ vQ (vr o), cCnt c (on q) = true → cT c ∈ rw
def Clsd (vr : Nat → VR) (ch : Nat → Option Nat) (on : Nat → Nat) (aw : List CR) : Prop := ∀ p, Rch vr ch on aw p → ∃ o, ch p = some o
theorem RwI_end {vr : Nat → VR} {ch : Nat → Option Nat} {on : Nat → Nat} {aw : List CR} {rw : List Nat} {i : Nat} (h : RwI vr ch on aw rw i) (hi : rw.length ≤ i) : Clsd vr ch on aw := by
  obtain ⟨h1, h2, h3⟩ := h
  have key : ∀ q ∈ rw, ∃ o, ch q = some o ∧ ∀ c ∈ vQ (vr o), cCnt c (on q) = true → cT c ∈ rw := fun q hq => by
    obtain ⟨j, hj, rfl⟩ := List.getElem_of_mem hq
    exact h3 j _ (by omega) (List.getElem?_eq_getElem hj)
  intro p hp
  obtain ⟨o, ho, -⟩ := key p (hp (fun q => q ∈ rw) h1 (fun q o c hq ho hc hn => by
    obtain ⟨o2, h4, h5⟩ := key q hq
    rw [ho] at h4
    cases h4
    exact h5 c hc hn))
  exact ⟨o, ho⟩
theorem RwI_step {vr : Nat → VR} {ch : Nat → Option Nat} {on : Nat → Nat} {aw : List CR} {rw : List Nat} {i q o : Nat} (h : RwI vr ch on aw rw i) (hq : rw[i]? = some q) (ho : ch q = some o) : RwI vr ch on aw ((vQ (vr o)).foldl (fw1 (on q)) rw) (i + 1) := by
  obtain ⟨h1, h2, h3⟩ := h
  have hqm : q ∈ rw := List.mem_of_getElem? hq
  refine ⟨fun c hc => fw_sub (h1 c hc), fun p hp => ?_, fun j p hj hp => ?_⟩
  · rcases fw_of hp with hp | ⟨c, hc, hn, rfl⟩
    · exact h2 p hp
    · exact Rch_step (h2 q hqm) ho hc hn
  · by_cases e : j = i
    · subst e
      rw [fw_get hq] at hp
      cases hp
      exact ⟨o, ho, fun c hc hn => fw_mem hc hn⟩
    · have hi : i < rw.length := (List.getElem?_eq_some_iff.mp hq).1
      have hj2 : rw[j]? = some rw[j] := List.getElem?_eq_getElem (by omega)
      rw [fw_get hj2] at hp
      cases hp
      obtain ⟨o2, a, b⟩ := h3 j _ (by omega) hj2
      exact ⟨o2, a, fun c hc hn => fw_sub (b c hc hn)⟩
theorem t_fw_c {S : ScT} {n i p q0 : Nat} {tc lc : Int} {ch : Nat → Option Nat} {on : Nat → Nat} (hp : p < 12) (ho : o16 on) {Q : XLf → Prop} : ∀ (l : List CR) (x : Option Nat) (H : HF) (rw : List Nat) (row : Nat → Int), ChnAt H x l → H 96 = some (false, 5, rzF tc ((rw).length : Int) (mkSet (rw) : Int) lc) → H 105 = some (true, 0, aI 12 row) → RowIs rw row → RwOK rw → H 99 = some (false, 2, [.ref 100, .ref 101]) → H 100 = some (true, 3, aR 12 ch) → H 101 = some (true, 0, aNt 12 on) → (∀ row', RowIs (l.foldl (fw1 (on p)) rw) row' → Gw S xm115 131 [(0, .ref 96), (1, .int (zI (i : Int))), (2, .int (zI (p : Int))), (3, .ref q0), (4, .null)] [] (hup (hup H 105 (true, 0, aI 12 row')) 96 (false, 5, rzF tc ((l.foldl (fw1 (on p)) rw).length : Int) (mkSet (l.foldl (fw1 (on p)) rw) : Int) lc)) n 0 0 Q) → Gw S xm115 90 [(0, .ref 96), (1, .int (zI (i : Int))), (2, .int (zI (p : Int))), (3, .ref q0), (4, rvl x)] [] H n 0 0 Q := by
  intro l
  induction l with
  | nil =>
    intro x H rw row hl h0 h1 hr hR c0 c1 c2 kk
    obtain rfl : x = none := hl
    refine Gq_s (pc' := 92) rfl rfl rfl ?_
    refine Gq_nul_n rfl (t := 131) rfl ?_
    have := kk row hr
    rw [List.foldl_nil, upd_self h1, upd_self h0] at this
    exact this
  | cons c l ih =>
    intro x H rw row hl h0 h1 hr hR c0 c1 c2 kk
    obtain ⟨q, nx, rfl, hcl, hch⟩ := hl
    have hcl0 := hcl
    obtain ⟨hq, hok, r, hr9, h4, h3⟩ := hcl0
    have hT := hok.1
    refine Gq_s (pc' := 92) rfl rfl rfl ?_
    refine Gq_nul_r (pc' := 95) (t := 131) rfl rfl rfl ?_
    refine Gq_s (pc' := 97) rfl rfl rfl ?_
    refine Gq_s (pc' := 98) rfl rfl rfl ?_
    refine Gq_get (pc' := 101) rfl rfl (by first | assumption | exact upd_eq _ _ _ | (refine (upd_ne _ _ (by omega)).trans ?_; first | assumption | exact upd_eq _ _ _ | (refine (upd_ne _ _ (by omega)).trans ?_; first | assumption | exact upd_eq _ _ _ | (refine (upd_ne _ _ (by omega)).trans ?_; first | assumption | exact upd_eq _ _ _)))) (by exact rfl) ?_
    refine Gq_get (pc' := 104) rfl rfl (by first | assumption | exact upd_eq _ _ _ | (refine (upd_ne _ _ (by omega)).trans ?_; first | assumption | exact upd_eq _ _ _ | (refine (upd_ne _ _ (by omega)).trans ?_; first | assumption | exact upd_eq _ _ _ | (refine (upd_ne _ _ (by omega)).trans ?_; first | assumption | exact upd_eq _ _ _)))) (by exact rfl) ?_
    refine Gq_s (pc' := 105) rfl rfl rfl ?_
    refine Gq_iald (pc' := 106) rfl rfl (by first | assumption | exact upd_eq _ _ _ | (refine (upd_ne _ _ (by omega)).trans ?_; first | assumption | exact upd_eq _ _ _ | (refine (upd_ne _ _ (by omega)).trans ?_; first | assumption | exact upd_eq _ _ _ | (refine (upd_ne _ _ (by omega)).trans ?_; first | assumption | exact upd_eq _ _ _)))) (rfl) (by omega) (by omega) ?_
    refine Gq_callv1 (pc' := 109) (Y := xm90) (rest := []) (st' := [_]) (ce' := 0) (sl' := 0) rfl rfl rfl rfl rfl rfl rfl rfl rfl (t_countsWith n hcl (ho p)) rfl (by first | assumption | exact upd_eq _ _ _ | (refine (upd_ne _ _ (by omega)).trans ?_; first | assumption | exact upd_eq _ _ _ | (refine (upd_ne _ _ (by omega)).trans ?_; first | assumption | exact upd_eq _ _ _ | (refine (upd_ne _ _ (by omega)).trans ?_; first | assumption | exact upd_eq _ _ _)))) ?_
    refine Gq_beq (pc' := 112) (t := 121) rfl rfl rfl (fun hb => ?_) (fun hb => ?_)
    · refine Gq_s (pc' := 123) rfl rfl rfl ?_
      refine Gq_get (pc' := 126) rfl rfl (by first | assumption | exact upd_eq _ _ _ | (refine (upd_ne _ _ (by omega)).trans ?_; first | assumption | exact upd_eq _ _ _ | (refine (upd_ne _ _ (by omega)).trans ?_; first | assumption | exact upd_eq _ _ _ | (refine (upd_ne _ _ (by omega)).trans ?_; first | assumption | exact upd_eq _ _ _)))) (by exact rfl) ?_
      refine Gq_astv (pc' := 128) (lv' := [(0, _), (1, _), (2, _), (3, _), (4, _)]) (k := 4) rfl (fun _ _ => rfl) rfl rfl ?_
      refine Gq_goto rfl (t := 90) rfl ?_
      have e : (c :: l).foldl (fw1 (on p)) rw = l.foldl (fw1 (on p)) rw := by rw [List.foldl_cons, fw1, hb]; rfl
      rw [e] at kk
      exact ih nx H rw row hch h0 h1 hr hR c0 c1 c2 kk
    · refine Gq_s (pc' := 113) rfl rfl rfl ?_
      refine Gq_s (pc' := 115) rfl rfl rfl ?_
      refine Gq_get (pc' := 118) rfl rfl (by first | assumption | exact upd_eq _ _ _ | (refine (upd_ne _ _ (by omega)).trans ?_; first | assumption | exact upd_eq _ _ _ | (refine (upd_ne _ _ (by omega)).trans ?_; first | assumption | exact upd_eq _ _ _ | (refine (upd_ne _ _ (by omega)).trans ?_; first | assumption | exact upd_eq _ _ _)))) (by exact rfl) ?_
      refine Gq_callv (pc' := 121) (Y := xm116) (rest := []) (ce' := 0) (sl' := 0) rfl rfl rfl rfl rfl rfl rfl rfl rfl (t_addToRow n h0 h1 hr hR hT) (by first | assumption | exact upd_eq _ _ _ | (refine (upd_ne _ _ (by omega)).trans ?_; first | assumption | exact upd_eq _ _ _ | (refine (upd_ne _ _ (by omega)).trans ?_; first | assumption | exact upd_eq _ _ _ | (refine (upd_ne _ _ (by omega)).trans ?_; first | assumption | exact upd_eq _ _ _)))) (fun v' H' n' hv => ?_)
      obtain ⟨rfl, rfl, row2, hr2, rfl⟩ := hv
      refine Gq_s (pc' := 123) rfl rfl rfl ?_
      refine Gq_get (pc' := 126) rfl rfl (by first | assumption | exact upd_eq _ _ _ | (refine (upd_ne _ _ (by omega)).trans ?_; first | assumption | exact upd_eq _ _ _ | (refine (upd_ne _ _ (by omega)).trans ?_; first | assumption | exact upd_eq _ _ _ | (refine (upd_ne _ _ (by omega)).trans ?_; first | assumption | exact upd_eq _ _ _)))) (by exact rfl) ?_
      refine Gq_astv (pc' := 128) (lv' := [(0, _), (1, _), (2, _), (3, _), (4, _)]) (k := 4) rfl (fun _ _ => rfl) rfl rfl ?_
      refine Gq_goto rfl (t := 90) rfl ?_
      have e : (c :: l).foldl (fw1 (on p)) rw = l.foldl (fw1 (on p)) (addR rw (cT c)) := by rw [List.foldl_cons, fw1, hb]; rfl
      rw [e] at kk
      refine ih nx _ (addR rw (cT c)) row2 (ChainAt_upd (by omega) (ChainAt_upd (by omega) hch)) (upd_eq _ _ _) (by rw [upd_ne _ _ (by omega)]; exact upd_eq _ _ _) hr2 (addR_ok hR hT) (by rw [upd_ne _ _ (by omega), upd_ne _ _ (by omega)]; exact c0) (by rw [upd_ne _ _ (by omega), upd_ne _ _ (by omega)]; exact c1) (by rw [upd_ne _ _ (by omega), upd_ne _ _ (by omega)]; exact c2) (fun row3 hr3 => ?_)
      rw [upd4 _ _ _ _ _ (by omega)]
      exact kk row3 hr3
theorem t_fw_b {S : ScT} {n : Nat} {tc lc : Int} {ch : Nat → Option Nat} {on : Nat → Nat} {vr : Nat → VR} {V : Nat → Prop} {aw : List CR} (hC : ChV V ch) (ho : o16 on) : ∀ (k i : Nat) (H : HF) (rw : List Nat) (row : Nat → Int) (lv : XL), i + k = 12 → (lv = [(0, .ref 96), (1, .int (zI (i : Int)))] ∨ ∃ a b c, lv = [(0, .ref 96), (1, .int (zI (i : Int))), (2, a), (3, b), (4, c)]) → VsA H vr V → H 96 = some (false, 5, rzF tc ((rw).length : Int) (mkSet (rw) : Int) lc) → H 105 = some (true, 0, aI 12 row) → RowIs rw row → RwOK rw → H 99 = some (false, 2, [.ref 100, .ref 101]) → H 100 = some (true, 3, aR 12 ch) → H 101 = some (true, 0, aNt 12 on) → RwI vr ch on aw rw i → Gw S xm115 47 lv [] H n 0 0 (MQe xm115 (fun v G m => m = n ∧ (∃ rw2 row2, RowIs rw2 row2 ∧ RwOK rw2 ∧ G = (hup (hup H 105 (true, 0, aI 12 row2)) 96 (false, 5, rzF tc ((rw2).length : Int) (mkSet (rw2) : Int) lc))) ∧ ((v = some (.int (zI (-1))) ∧ Clsd vr ch on aw) ∨ ∃ p, v = some (.int (zI ((p : Nat) : Int))) ∧ p < 12 ∧ ch p = none ∧ Rch vr ch on aw p))) := by
  intro k
  induction k with
  | zero =>
    intro i H rw row lv hi hlv hvs h0 h1 hr hR c0 c1 c2 hI
    have hpg := pigeon 12 rw hR.1 hR.2
    rcases hlv with rfl | ⟨a, b, c, rfl⟩
    · refine Gq_s (pc' := 48) rfl rfl rfl ?_
      refine Gq_bipush (pc' := 50) rfl rfl (by decide) ?_
      refine Gq_cge (pc' := 53) (t := 137) rfl rfl rfl (by omega) (by omega) (fun _ => ?_) (fun hq => absurd (by omega) hq)
      refine Gq_s (pc' := 138) rfl rfl rfl ?_
      exact Gq_ret rfl rfl (rfl) (⟨rfl, ⟨rw, row, hr, hR, by rw [upd_self h1, upd_self h0]⟩, .inl ⟨rfl, RwI_end hI (by omega)⟩⟩)
    · refine Gq_s (pc' := 48) rfl rfl rfl ?_
      refine Gq_bipush (pc' := 50) rfl rfl (by decide) ?_
      refine Gq_cge (pc' := 53) (t := 137) rfl rfl rfl (by omega) (by omega) (fun _ => ?_) (fun hq => absurd (by omega) hq)
      refine Gq_s (pc' := 138) rfl rfl rfl ?_
      exact Gq_ret rfl rfl (rfl) (⟨rfl, ⟨rw, row, hr, hR, by rw [upd_self h1, upd_self h0]⟩, .inl ⟨rfl, RwI_end hI (by omega)⟩⟩)
  | succ k ih =>
    intro i H rw row lv hi hlv hvs h0 h1 hr hR c0 c1 c2 hI
    have hpg := pigeon 12 rw hR.1 hR.2
    rcases hlv with rfl | ⟨a, b, c, rfl⟩
    · refine Gq_s (pc' := 48) rfl rfl rfl ?_
      refine Gq_bipush (pc' := 50) rfl rfl (by decide) ?_
      refine Gq_cge (pc' := 53) (t := 137) rfl rfl rfl (by omega) (by omega) (fun hq => absurd hq (by omega)) (fun _ => ?_)
      refine Gq_s (pc' := 54) rfl rfl rfl ?_
      refine Gq_s (pc' := 55) rfl rfl rfl ?_
      refine Gq_get (pc' := 58) rfl rfl (by first | assumption | exact upd_eq _ _ _ | (refine (upd_ne _ _ (by omega)).trans ?_; first | assumption | exact upd_eq _ _ _ | (refine (upd_ne _ _ (by omega)).trans ?_; first | assumption | exact upd_eq _ _ _ | (refine (upd_ne _ _ (by omega)).trans ?_; first | assumption | exact upd_eq _ _ _)))) (by exact rfl) ?_
      refine Gq_cge (pc' := 61) (t := 137) rfl rfl rfl (by omega) (by omega) (fun hz => ?_) (fun hz => ?_)
      · refine Gq_s (pc' := 138) rfl rfl rfl ?_
        exact Gq_ret rfl rfl (rfl) (⟨rfl, ⟨rw, row, hr, hR, by rw [upd_self h1, upd_self h0]⟩, .inl ⟨rfl, RwI_end hI (by omega)⟩⟩)
      · have hil : i < rw.length := by omega
        have hq : rw[i]? = some rw[i] := List.getElem?_eq_getElem hil
        have hq12 := hR.2 _ (List.mem_of_getElem? hq)
        have hrow := hr i _ hq
        generalize rw[i] = q at hq hq12 hrow
        refine Gq_s (pc' := 62) rfl rfl rfl ?_
        refine Gq_get (pc' := 65) rfl rfl (by first | assumption | exact upd_eq _ _ _ | (refine (upd_ne _ _ (by omega)).trans ?_; first | assumption | exact upd_eq _ _ _ | (refine (upd_ne _ _ (by omega)).trans ?_; first | assumption | exact upd_eq _ _ _ | (refine (upd_ne _ _ (by omega)).trans ?_; first | assumption | exact upd_eq _ _ _)))) (by exact rfl) ?_
        refine Gq_s (pc' := 66) rfl rfl rfl ?_
        refine Gq_iald (pc' := 67) rfl rfl (by first | assumption | exact upd_eq _ _ _ | (refine (upd_ne _ _ (by omega)).trans ?_; first | assumption | exact upd_eq _ _ _ | (refine (upd_ne _ _ (by omega)).trans ?_; first | assumption | exact upd_eq _ _ _ | (refine (upd_ne _ _ (by omega)).trans ?_; first | assumption | exact upd_eq _ _ _)))) (rfl) (by omega) (by omega) ?_
        rw [hrow]
        refine Gq_s (pc' := 68) (lv' := [(0, _), (1, _), (2, _)]) rfl rfl rfl ?_
        refine Gq_s (pc' := 69) rfl rfl rfl ?_
        refine Gq_get (pc' := 72) rfl rfl (by first | assumption | exact upd_eq _ _ _ | (refine (upd_ne _ _ (by omega)).trans ?_; first | assumption | exact upd_eq _ _ _ | (refine (upd_ne _ _ (by omega)).trans ?_; first | assumption | exact upd_eq _ _ _ | (refine (upd_ne _ _ (by omega)).trans ?_; first | assumption | exact upd_eq _ _ _)))) (by exact rfl) ?_
        refine Gq_get (pc' := 75) rfl rfl (by first | assumption | exact upd_eq _ _ _ | (refine (upd_ne _ _ (by omega)).trans ?_; first | assumption | exact upd_eq _ _ _ | (refine (upd_ne _ _ (by omega)).trans ?_; first | assumption | exact upd_eq _ _ _ | (refine (upd_ne _ _ (by omega)).trans ?_; first | assumption | exact upd_eq _ _ _)))) (by exact rfl) ?_
        refine Gq_s (pc' := 76) rfl rfl rfl ?_
        refine Gq_aalx (pc' := 77) rfl rfl (by first | assumption | exact upd_eq _ _ _ | (refine (upd_ne _ _ (by omega)).trans ?_; first | assumption | exact upd_eq _ _ _ | (refine (upd_ne _ _ (by omega)).trans ?_; first | assumption | exact upd_eq _ _ _ | (refine (upd_ne _ _ (by omega)).trans ?_; first | assumption | exact upd_eq _ _ _)))) (by exact rfl) (rfl) (by omega) (by omega) (fun hx => ?_) (fun o hx => ?_)
        · refine Gq_s (pc' := 78) (lv' := [(0, _), (1, _), (2, _), (3, _)]) rfl rfl rfl ?_
          refine Gq_s (pc' := 79) rfl rfl rfl ?_
          refine Gq_non_n (pc' := 82) (t := 84) rfl rfl rfl ?_
          refine Gq_s (pc' := 83) rfl rfl rfl ?_
          exact Gq_ret rfl rfl (rfl) (⟨rfl, ⟨rw, row, hr, hR, by rw [upd_self h1, upd_self h0]⟩, .inr ⟨q, rfl, hq12, hx, hI.2.1 q (List.mem_of_getElem? hq)⟩⟩)
        · obtain ⟨ho9, hN, f, g, h3, h4, h5⟩ := hvs o (hC q o hq12 hx)
          refine Gq_s (pc' := 78) (lv' := [(0, _), (1, _), (2, _), (3, _)]) rfl rfl rfl ?_
          refine Gq_s (pc' := 79) rfl rfl rfl ?_
          refine Gq_non_r rfl (t := 84) rfl ?_
          refine Gq_s (pc' := 85) rfl rfl rfl ?_
          refine Gq_get (pc' := 88) rfl rfl (by first | assumption | exact upd_eq _ _ _ | (refine (upd_ne _ _ (by omega)).trans ?_; first | assumption | exact upd_eq _ _ _ | (refine (upd_ne _ _ (by omega)).trans ?_; first | assumption | exact upd_eq _ _ _ | (refine (upd_ne _ _ (by omega)).trans ?_; first | assumption | exact upd_eq _ _ _)))) (by exact rfl) ?_
          refine Gq_astv (pc' := 90) (lv' := [(0, _), (1, _), (2, _), (3, _), (4, _)]) (k := 4) rfl (fun _ _ => rfl) rfl rfl ?_
          refine t_fw_c hq12 ho _ f H rw row h4 h0 h1 hr hR c0 c1 c2 (fun row2 hr2 => ?_)
          refine Gq_iinc (pc' := 134) (lv' := [(0, _), (1, _), (2, _), (3, _), (4, _)]) rfl rfl rfl rfl ?_
          refine Gq_goto rfl (t := 47) rfl ?_
          refine Gq_mq (ih (i + 1) _ _ row2 _ (by omega) (.inr ⟨_, _, _, rfl⟩) (VS_upd (by omega) (VS_upd (by omega) hvs)) (upd_eq _ _ _) (by rw [upd_ne _ _ (by omega)]; exact upd_eq _ _ _) hr2 (fw_ok (ChainAt_ok h4) hR) (by rw [upd_ne _ _ (by omega), upd_ne _ _ (by omega)]; exact c0) (by rw [upd_ne _ _ (by omega), upd_ne _ _ (by omega)]; exact c1) (by rw [upd_ne _ _ (by omega), upd_ne _ _ (by omega)]; exact c2) (RwI_step hI hq hx)) ?_
          rintro v G m ⟨e1, ⟨rw3, row3, e2, e3, e4⟩, e5⟩
          exact ⟨e1, ⟨rw3, row3, e2, e3, by rw [e4, upd4 _ _ _ _ _ (by omega)]⟩, e5⟩
    · refine Gq_s (pc' := 48) rfl rfl rfl ?_
      refine Gq_bipush (pc' := 50) rfl rfl (by decide) ?_
      refine Gq_cge (pc' := 53) (t := 137) rfl rfl rfl (by omega) (by omega) (fun hq => absurd hq (by omega)) (fun _ => ?_)
      refine Gq_s (pc' := 54) rfl rfl rfl ?_
      refine Gq_s (pc' := 55) rfl rfl rfl ?_
      refine Gq_get (pc' := 58) rfl rfl (by first | assumption | exact upd_eq _ _ _ | (refine (upd_ne _ _ (by omega)).trans ?_; first | assumption | exact upd_eq _ _ _ | (refine (upd_ne _ _ (by omega)).trans ?_; first | assumption | exact upd_eq _ _ _ | (refine (upd_ne _ _ (by omega)).trans ?_; first | assumption | exact upd_eq _ _ _)))) (by exact rfl) ?_
      refine Gq_cge (pc' := 61) (t := 137) rfl rfl rfl (by omega) (by omega) (fun hz => ?_) (fun hz => ?_)
      · refine Gq_s (pc' := 138) rfl rfl rfl ?_
        exact Gq_ret rfl rfl (rfl) (⟨rfl, ⟨rw, row, hr, hR, by rw [upd_self h1, upd_self h0]⟩, .inl ⟨rfl, RwI_end hI (by omega)⟩⟩)
      · have hil : i < rw.length := by omega
        have hq : rw[i]? = some rw[i] := List.getElem?_eq_getElem hil
        have hq12 := hR.2 _ (List.mem_of_getElem? hq)
        have hrow := hr i _ hq
        generalize rw[i] = q at hq hq12 hrow
        refine Gq_s (pc' := 62) rfl rfl rfl ?_
        refine Gq_get (pc' := 65) rfl rfl (by first | assumption | exact upd_eq _ _ _ | (refine (upd_ne _ _ (by omega)).trans ?_; first | assumption | exact upd_eq _ _ _ | (refine (upd_ne _ _ (by omega)).trans ?_; first | assumption | exact upd_eq _ _ _ | (refine (upd_ne _ _ (by omega)).trans ?_; first | assumption | exact upd_eq _ _ _)))) (by exact rfl) ?_
        refine Gq_s (pc' := 66) rfl rfl rfl ?_
        refine Gq_iald (pc' := 67) rfl rfl (by first | assumption | exact upd_eq _ _ _ | (refine (upd_ne _ _ (by omega)).trans ?_; first | assumption | exact upd_eq _ _ _ | (refine (upd_ne _ _ (by omega)).trans ?_; first | assumption | exact upd_eq _ _ _ | (refine (upd_ne _ _ (by omega)).trans ?_; first | assumption | exact upd_eq _ _ _)))) (rfl) (by omega) (by omega) ?_
        rw [hrow]
        refine Gq_s (pc' := 68) (lv' := [(0, _), (1, _), (2, _), (3, _), (4, _)]) rfl rfl rfl ?_
        refine Gq_s (pc' := 69) rfl rfl rfl ?_
        refine Gq_get (pc' := 72) rfl rfl (by first | assumption | exact upd_eq _ _ _ | (refine (upd_ne _ _ (by omega)).trans ?_; first | assumption | exact upd_eq _ _ _ | (refine (upd_ne _ _ (by omega)).trans ?_; first | assumption | exact upd_eq _ _ _ | (refine (upd_ne _ _ (by omega)).trans ?_; first | assumption | exact upd_eq _ _ _)))) (by exact rfl) ?_
        refine Gq_get (pc' := 75) rfl rfl (by first | assumption | exact upd_eq _ _ _ | (refine (upd_ne _ _ (by omega)).trans ?_; first | assumption | exact upd_eq _ _ _ | (refine (upd_ne _ _ (by omega)).trans ?_; first | assumption | exact upd_eq _ _ _ | (refine (upd_ne _ _ (by omega)).trans ?_; first | assumption | exact upd_eq _ _ _)))) (by exact rfl) ?_
        refine Gq_s (pc' := 76) rfl rfl rfl ?_
        refine Gq_aalx (pc' := 77) rfl rfl (by first | assumption | exact upd_eq _ _ _ | (refine (upd_ne _ _ (by omega)).trans ?_; first | assumption | exact upd_eq _ _ _ | (refine (upd_ne _ _ (by omega)).trans ?_; first | assumption | exact upd_eq _ _ _ | (refine (upd_ne _ _ (by omega)).trans ?_; first | assumption | exact upd_eq _ _ _)))) (by exact rfl) (rfl) (by omega) (by omega) (fun hx => ?_) (fun o hx => ?_)
        · refine Gq_s (pc' := 78) (lv' := [(0, _), (1, _), (2, _), (3, _), (4, _)]) rfl rfl rfl ?_
          refine Gq_s (pc' := 79) rfl rfl rfl ?_
          refine Gq_non_n (pc' := 82) (t := 84) rfl rfl rfl ?_
          refine Gq_s (pc' := 83) rfl rfl rfl ?_
          exact Gq_ret rfl rfl (rfl) (⟨rfl, ⟨rw, row, hr, hR, by rw [upd_self h1, upd_self h0]⟩, .inr ⟨q, rfl, hq12, hx, hI.2.1 q (List.mem_of_getElem? hq)⟩⟩)
        · obtain ⟨ho9, hN, f, g, h3, h4, h5⟩ := hvs o (hC q o hq12 hx)
          refine Gq_s (pc' := 78) (lv' := [(0, _), (1, _), (2, _), (3, _), (4, _)]) rfl rfl rfl ?_
          refine Gq_s (pc' := 79) rfl rfl rfl ?_
          refine Gq_non_r rfl (t := 84) rfl ?_
          refine Gq_s (pc' := 85) rfl rfl rfl ?_
          refine Gq_get (pc' := 88) rfl rfl (by first | assumption | exact upd_eq _ _ _ | (refine (upd_ne _ _ (by omega)).trans ?_; first | assumption | exact upd_eq _ _ _ | (refine (upd_ne _ _ (by omega)).trans ?_; first | assumption | exact upd_eq _ _ _ | (refine (upd_ne _ _ (by omega)).trans ?_; first | assumption | exact upd_eq _ _ _)))) (by exact rfl) ?_
          refine Gq_astv (pc' := 90) (lv' := [(0, _), (1, _), (2, _), (3, _), (4, _)]) (k := 4) rfl (fun _ _ => rfl) rfl rfl ?_
          refine t_fw_c hq12 ho _ f H rw row h4 h0 h1 hr hR c0 c1 c2 (fun row2 hr2 => ?_)
          refine Gq_iinc (pc' := 134) (lv' := [(0, _), (1, _), (2, _), (3, _), (4, _)]) rfl rfl rfl rfl ?_
          refine Gq_goto rfl (t := 47) rfl ?_
          refine Gq_mq (ih (i + 1) _ _ row2 _ (by omega) (.inr ⟨_, _, _, rfl⟩) (VS_upd (by omega) (VS_upd (by omega) hvs)) (upd_eq _ _ _) (by rw [upd_ne _ _ (by omega)]; exact upd_eq _ _ _) hr2 (fw_ok (ChainAt_ok h4) hR) (by rw [upd_ne _ _ (by omega), upd_ne _ _ (by omega)]; exact c0) (by rw [upd_ne _ _ (by omega), upd_ne _ _ (by omega)]; exact c1) (by rw [upd_ne _ _ (by omega), upd_ne _ _ (by omega)]; exact c2) (RwI_step hI hq hx)) ?_
          rintro v G m ⟨e1, ⟨rw3, row3, e2, e3, e4⟩, e5⟩
          exact ⟨e1, ⟨rw3, row3, e2, e3, by rw [e4, upd4 _ _ _ _ _ (by omega)]⟩, e5⟩
theorem t_fw_a {S : ScT} {n : Nat} {tc lc : Int} {aw : List CR} {Q : XLf → Prop} : ∀ (k i : Nat) (H : HF) (rw : List Nat) (row : Nat → Int), i + k = aw.length → WiAt H 97 aw → H 96 = some (false, 5, rzF tc ((rw).length : Int) (mkSet (rw) : Int) lc) → H 105 = some (true, 0, aI 12 row) → RowIs rw row → RwOK rw → (∀ row', RowIs ((aw.drop i).foldl fwA rw) row' → Gw S xm115 45 [(0, .ref 96), (1, .int (zI (aw.length : Int)))] [] (hup (hup H 105 (true, 0, aI 12 row')) 96 (false, 5, rzF tc (((aw.drop i).foldl fwA rw).length : Int) (mkSet ((aw.drop i).foldl fwA rw) : Int) lc)) n 0 0 Q) → Gw S xm115 12 [(0, .ref 96), (1, .int (zI (i : Int)))] [] H n 0 0 Q := by
  intro k
  induction k with
  | zero =>
    intro i H rw row hi hW h0 h1 hr hR kk
    obtain rfl : i = aw.length := by omega
    obtain ⟨h3, hL, -⟩ := id hW
    refine Gq_s (pc' := 13) rfl rfl rfl ?_
    refine Gq_s (pc' := 14) rfl rfl rfl ?_
    refine Gq_get (pc' := 17) rfl rfl (by first | assumption | exact upd_eq _ _ _ | (refine (upd_ne _ _ (by omega)).trans ?_; first | assumption | exact upd_eq _ _ _ | (refine (upd_ne _ _ (by omega)).trans ?_; first | assumption | exact upd_eq _ _ _ | (refine (upd_ne _ _ (by omega)).trans ?_; first | assumption | exact upd_eq _ _ _)))) (by exact rfl) ?_
    refine Gq_get (pc' := 20) rfl rfl (by first | assumption | exact upd_eq _ _ _ | (refine (upd_ne _ _ (by omega)).trans ?_; first | assumption | exact upd_eq _ _ _ | (refine (upd_ne _ _ (by omega)).trans ?_; first | assumption | exact upd_eq _ _ _ | (refine (upd_ne _ _ (by omega)).trans ?_; first | assumption | exact upd_eq _ _ _)))) (by exact rfl) ?_
    refine Gq_cge (pc' := 23) (t := 45) rfl rfl rfl (by omega) (by omega) (fun _ => ?_) (fun hq => absurd (by omega) hq)
    have := kk row (by rw [List.drop_length]; exact hr)
    rw [List.drop_length, List.foldl_nil, upd_self h1, upd_self h0] at this
    exact this
  | succ k ih =>
    intro i H rw row hi hW h0 h1 hr hR kk
    have hil : i < aw.length := by omega
    obtain ⟨h3, hL, wc, h4, h5⟩ := id hW
    obtain ⟨q, nx, h6, h7⟩ := h5 i aw[i] (List.getElem?_eq_getElem hil)
    obtain ⟨hq, hok, r, hr9, h8, h9⟩ := h7
    have hT := hok.1
    rw [List.drop_eq_getElem_cons hil, List.foldl_cons] at kk
    refine Gq_s (pc' := 13) rfl rfl rfl ?_
    refine Gq_s (pc' := 14) rfl rfl rfl ?_
    refine Gq_get (pc' := 17) rfl rfl (by first | assumption | exact upd_eq _ _ _ | (refine (upd_ne _ _ (by omega)).trans ?_; first | assumption | exact upd_eq _ _ _ | (refine (upd_ne _ _ (by omega)).trans ?_; first | assumption | exact upd_eq _ _ _ | (refine (upd_ne _ _ (by omega)).trans ?_; first | assumption | exact upd_eq _ _ _)))) (by exact rfl) ?_
    refine Gq_get (pc' := 20) rfl rfl (by first | assumption | exact upd_eq _ _ _ | (refine (upd_ne _ _ (by omega)).trans ?_; first | assumption | exact upd_eq _ _ _ | (refine (upd_ne _ _ (by omega)).trans ?_; first | assumption | exact upd_eq _ _ _ | (refine (upd_ne _ _ (by omega)).trans ?_; first | assumption | exact upd_eq _ _ _)))) (by exact rfl) ?_
    refine Gq_cge (pc' := 23) (t := 45) rfl rfl rfl (by omega) (by omega) (fun hq => absurd hq (by omega)) (fun _ => ?_)
    refine Gq_s (pc' := 24) rfl rfl rfl ?_
    refine Gq_s (pc' := 25) rfl rfl rfl ?_
    refine Gq_get (pc' := 28) rfl rfl (by first | assumption | exact upd_eq _ _ _ | (refine (upd_ne _ _ (by omega)).trans ?_; first | assumption | exact upd_eq _ _ _ | (refine (upd_ne _ _ (by omega)).trans ?_; first | assumption | exact upd_eq _ _ _ | (refine (upd_ne _ _ (by omega)).trans ?_; first | assumption | exact upd_eq _ _ _)))) (by exact rfl) ?_
    refine Gq_get (pc' := 31) rfl rfl (by first | assumption | exact upd_eq _ _ _ | (refine (upd_ne _ _ (by omega)).trans ?_; first | assumption | exact upd_eq _ _ _ | (refine (upd_ne _ _ (by omega)).trans ?_; first | assumption | exact upd_eq _ _ _ | (refine (upd_ne _ _ (by omega)).trans ?_; first | assumption | exact upd_eq _ _ _)))) (by exact rfl) ?_
    refine Gq_s (pc' := 32) rfl rfl rfl ?_
    refine Gq_aald (pc' := 33) rfl rfl (by first | assumption | exact upd_eq _ _ _ | (refine (upd_ne _ _ (by omega)).trans ?_; first | assumption | exact upd_eq _ _ _ | (refine (upd_ne _ _ (by omega)).trans ?_; first | assumption | exact upd_eq _ _ _ | (refine (upd_ne _ _ (by omega)).trans ?_; first | assumption | exact upd_eq _ _ _)))) (by exact rfl) (rfl) (by omega) (by omega) (rv_s h6) ?_
    refine Gq_get (pc' := 36) rfl rfl (by first | assumption | exact upd_eq _ _ _ | (refine (upd_ne _ _ (by omega)).trans ?_; first | assumption | exact upd_eq _ _ _ | (refine (upd_ne _ _ (by omega)).trans ?_; first | assumption | exact upd_eq _ _ _ | (refine (upd_ne _ _ (by omega)).trans ?_; first | assumption | exact upd_eq _ _ _)))) (by exact rfl) ?_
    refine Gq_callv (pc' := 39) (Y := xm116) (rest := []) (ce' := 0) (sl' := 0) rfl rfl rfl rfl rfl rfl rfl rfl rfl (t_addToRow n h0 h1 hr hR hT) (by first | assumption | exact upd_eq _ _ _ | (refine (upd_ne _ _ (by omega)).trans ?_; first | assumption | exact upd_eq _ _ _ | (refine (upd_ne _ _ (by omega)).trans ?_; first | assumption | exact upd_eq _ _ _ | (refine (upd_ne _ _ (by omega)).trans ?_; first | assumption | exact upd_eq _ _ _)))) (fun v' H' n' hv => ?_)
    obtain ⟨rfl, rfl, row2, hr2, rfl⟩ := hv
    refine Gq_iinc (pc' := 42) (lv' := [(0, _), (1, _)]) rfl rfl rfl rfl ?_
    refine Gq_goto rfl (t := 12) rfl ?_
    refine ih (i + 1) _ (addR rw (cT aw[i])) row2 (by omega) (WiAt_upd (by omega) (by omega) (by omega) (WiAt_upd (by omega) (by omega) (by omega) hW)) (upd_eq _ _ _) (by rw [upd_ne _ _ (by omega)]; exact upd_eq _ _ _) hr2 (addR_ok hR hT) (fun row3 hr3 => ?_)
    rw [upd4 _ _ _ _ _ (by omega)]
    exact kk row3 hr3
theorem WiAt_ok {H : HF} {w : Nat} {wl : List CR} (hW : WiAt H w wl) : ∀ c ∈ wl, cOK c := fun c hc => by
  obtain ⟨i, hi, rfl⟩ := List.getElem_of_mem hc
  obtain ⟨-, -, wc, -, h5⟩ := hW
  obtain ⟨q, nx, -, h7⟩ := h5 i wl[i] (List.getElem?_eq_getElem hi)
  exact h7.2.1
theorem t_fwv {S : ScT} {H : HF} (n : Nat) {tc lc rl rs : Int} {ch : Nat → Option Nat} {on : Nat → Nat} {row : Nat → Int} {vr : Nat → VR} {V : Nat → Prop} {aw : List CR} (hvs : VsA H vr V) (hC : ChV V ch) (ho : o16 on) (hW : WiAt H 97 aw) (h0 : H 96 = some (false, 5, rzF tc rl rs lc)) (h1 : H 105 = some (true, 0, aI 12 row)) (c0 : H 99 = some (false, 2, [.ref 100, .ref 101])) (c1 : H 100 = some (true, 3, aR 12 ch)) (c2 : H 101 = some (true, 0, aNt 12 on)) : Rmt S 115 [.ref 96] H n (fun v G m => m = n ∧ (∃ rw2 row2, RowIs rw2 row2 ∧ RwOK rw2 ∧ G = (hup (hup H 105 (true, 0, aI 12 row2)) 96 (false, 5, rzF tc ((rw2).length : Int) (mkSet (rw2) : Int) lc))) ∧ ((v = some (.int (zI (-1))) ∧ Clsd vr ch on aw) ∨ ∃ p, v = some (.int (zI ((p : Nat) : Int))) ∧ p < 12 ∧ ch p = none ∧ Rch vr ch on aw p)) := by
  refine Rm_of (M := xm115) (lv := [(0, _)]) rfl rfl rfl ?_
  refine Gq_s (pc' := 1) rfl rfl rfl ?_
  refine Gq_s (pc' := 2) rfl rfl rfl ?_
  refine Gq_put (pc' := 5) (fs' := [_, _, _, _, _, _, _, _, _, _, _]) rfl rfl (by first | assumption | exact upd_eq _ _ _ | (refine (upd_ne _ _ (by omega)).trans ?_; first | assumption | exact upd_eq _ _ _ | (refine (upd_ne _ _ (by omega)).trans ?_; first | assumption | exact upd_eq _ _ _ | (refine (upd_ne _ _ (by omega)).trans ?_; first | assumption | exact upd_eq _ _ _)))) (by exact rfl) (by first | rfl | exact xfit_bI _) (by exact rfl) ?_
  refine Gq_s (pc' := 6) rfl rfl rfl ?_
  refine Gq_s (pc' := 7) rfl rfl rfl ?_
  refine Gq_put (pc' := 10) (fs' := [_, _, _, _, _, _, _, _, _, _, _]) rfl rfl (by first | assumption | exact upd_eq _ _ _ | (refine (upd_ne _ _ (by omega)).trans ?_; first | assumption | exact upd_eq _ _ _ | (refine (upd_ne _ _ (by omega)).trans ?_; first | assumption | exact upd_eq _ _ _ | (refine (upd_ne _ _ (by omega)).trans ?_; first | assumption | exact upd_eq _ _ _)))) (by exact rfl) (by first | rfl | exact xfit_bI _) (by exact rfl) ?_
  refine Gq_s (pc' := 11) rfl rfl rfl ?_
  refine Gq_s (pc' := 12) (lv' := [(0, _), (1, _)]) rfl rfl rfl ?_
  rw [upd_upd]
  refine t_fw_a (tc := tc) (lc := lc) aw.length 0 _ [] row (by omega) (WiAt_upd (by omega) (by omega) (by omega) hW) (upd_eq _ _ _) (by rw [upd_ne _ _ (by omega)]; exact h1) (fun i q h => by cases h) ⟨List.nodup_nil, fun q h => by cases h⟩ (fun row2 hr2 => ?_)
  have hR := fwA_ok (rw := []) (WiAt_ok hW) ⟨List.nodup_nil, fun q h => by cases h⟩
  refine Gq_s (pc' := 46) rfl rfl rfl ?_
  refine Gq_s (pc' := 47) (lv' := [(0, _), (1, _)]) rfl rfl rfl ?_
  have e : ∀ (a c : XCl) (b : XCl), hup (hup (hup H 96 a) 105 b) 96 c = hup (hup H 105 b) 96 c := fun a c b => by rw [upd_comm H a b (by omega), upd_upd]
  rw [e]
  refine Gq_mq (t_fw_b (S := S) (aw := aw) hC ho 12 0 _ _ row2 _ rfl (.inl rfl) (VS_upd (by omega) (VS_upd (by omega) hvs)) (upd_eq _ _ _) (by rw [upd_ne _ _ (by omega)]; exact upd_eq _ _ _) hr2 hR (by rw [upd_ne _ _ (by omega), upd_ne _ _ (by omega)]; exact c0) (by rw [upd_ne _ _ (by omega), upd_ne _ _ (by omega)]; exact c1) (by rw [upd_ne _ _ (by omega), upd_ne _ _ (by omega)]; exact c2) ⟨fun c hc => fwA_mem hc, fun q hq => ?_, fun j q hj => absurd hj (by omega)⟩) ?_
  · rcases fwA_of hq with hq | ⟨c, hc, rfl⟩
    · cases hq
    · exact Rch_aw hc
  rintro v G m ⟨e1, ⟨rw3, row3, e2, e3, e4⟩, e5⟩
  exact ⟨e1, ⟨rw3, row3, e2, e3, by rw [e4, upd4 _ _ _ _ _ (by omega)]⟩, e5⟩
end XK6
