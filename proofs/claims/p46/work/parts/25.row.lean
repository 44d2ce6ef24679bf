/-! wishes taken over; the resolver's row (printed by wip/p46/gen25.py) -/
section XK5
def takeF (x : Int32) : Nat → List CR → List CR
  | _, [] => []
  | i, c :: t => if isInB x i then c :: takeF x (i + 1) t else takeF x (i + 1) t
theorem takeF_len (x : Int32) : ∀ (l : List CR) (i : Nat), (takeF x i l).length ≤ l.length
  | [], _ => Nat.le_refl 0
  | c :: t, i => by
    have := takeF_len x t (i + 1)
    unfold takeF
    split
    · show (takeF x (i + 1) t).length + 1 ≤ t.length + 1
      omega
    · show (takeF x (i + 1) t).length ≤ t.length + 1
      omega
theorem takeF_all (x : Int32) : ∀ (l : List CR) (i : Nat), (∀ j, j < l.length → isInB x (i + j) = true) → takeF x i l = l
  | [], _, _ => rfl
  | c :: t, i, h => by
    have h0 : isInB x i = true := h 0 (by show 0 < t.length + 1; omega)
    unfold takeF
    rw [if_pos h0, takeF_all x t (i + 1) (fun j hj => by have := h (j + 1) (by show j + 1 < t.length + 1; omega); rwa [show i + (j + 1) = i + 1 + j by omega] at this)]
theorem allM_in : ∀ k, k ≤ 6 → ∀ j, j < k → isInB (zI ((2 ^ k : Nat) : Int) - zI 1) j = true := by decide +kernel
theorem get_snoc {α : Type} {l : List α} {a c : α} {i : Nat} (h : (l ++ [a])[i]? = some c) : l[i]? = some c ∨ i = l.length ∧ c = a := by
  rw [List.getElem?_append] at h
  by_cases e : i < l.length
  · rw [if_pos e] at h
    exact .inl h
  · rw [if_neg e] at h
    by_cases e2 : i = l.length
    · subst e2
      rw [Nat.sub_self] at h
      exact .inr ⟨rfl, (Option.some.inj h).symm⟩
    · rw [List.getElem?_eq_none (by show 1 ≤ i - l.length; omega)] at h
      cases h
theorem t_all {S : ScT} {H : HF} {n w : Nat} {wl : List CR} (hW : WiAt H w wl) : Rdt S 123 [.ref w] H n (some (.int (zI ((2 ^ wl.length : Nat) : Int) - zI 1))) H n := by
  refine Rm_of (M := xm123) (lv := [(0, _)]) rfl rfl rfl ?_
  obtain ⟨h0, hL, -⟩ := hW
  refine Gq_s (pc' := 1) rfl rfl rfl ?_
  refine Gq_s (pc' := 2) rfl rfl rfl ?_
  refine Gq_get (pc' := 5) rfl rfl (by first | assumption | exact upd_eq _ _ _ | (refine (upd_ne _ _ (by omega)).trans ?_; first | assumption | exact upd_eq _ _ _ | (refine (upd_ne _ _ (by omega)).trans ?_; first | assumption | exact upd_eq _ _ _ | (refine (upd_ne _ _ (by omega)).trans ?_; first | assumption | exact upd_eq _ _ _)))) (by exact rfl) ?_
  refine Gq_ishl (pc' := 6) (zI ((2 ^ wl.length : Nat) : Int)) rfl rfl (z_shl _ (by omega)) ?_
  refine Gq_s (pc' := 7) rfl rfl rfl ?_
  refine Gq_s (pc' := 8) rfl rfl rfl ?_
  exact Gq_ret rfl rfl (rfl) (⟨rfl, rfl, rfl⟩)
theorem t_wadd {S : ScT} {H : HF} {n w k q : Nat} {wc : Nat → Option Nat} {c : CR} {nx : Value} (h0 : H w = some (false, 6, [.ref (w + 1), .int (zI (k : Int))])) (h1 : H (w + 1) = some (true, 5, aR 6 wc)) (hk : k < 6) (hc : ClaimAt H q c nx) : Rdt S 122 [.ref w, .ref q] H n none (hup (hup H (w + 1) (true, 5, aR 6 (fset wc k (some q)))) w (false, 6, [.ref (w + 1), .int (zI ((k + 1 : Nat) : Int))])) n := by
  refine Rm_of (M := xm122) (lv := [(0, _), (1, _)]) rfl rfl rfl ?_
  obtain ⟨hq, hok, r, hr, h4, h3⟩ := hc
  refine Gq_s (pc' := 1) rfl rfl rfl ?_
  refine Gq_get (pc' := 4) rfl rfl (by first | assumption | exact upd_eq _ _ _ | (refine (upd_ne _ _ (by omega)).trans ?_; first | assumption | exact upd_eq _ _ _ | (refine (upd_ne _ _ (by omega)).trans ?_; first | assumption | exact upd_eq _ _ _ | (refine (upd_ne _ _ (by omega)).trans ?_; first | assumption | exact upd_eq _ _ _)))) (by exact rfl) ?_
  refine Gq_bipush (pc' := 6) rfl rfl (by decide) ?_
  refine Gq_cge (pc' := 9) (t := 29) rfl rfl rfl (by omega) (by omega) (fun hq => absurd hq (by omega)) (fun _ => ?_)
  refine Gq_s (pc' := 10) rfl rfl rfl ?_
  refine Gq_get (pc' := 13) rfl rfl (by first | assumption | exact upd_eq _ _ _ | (refine (upd_ne _ _ (by omega)).trans ?_; first | assumption | exact upd_eq _ _ _ | (refine (upd_ne _ _ (by omega)).trans ?_; first | assumption | exact upd_eq _ _ _ | (refine (upd_ne _ _ (by omega)).trans ?_; first | assumption | exact upd_eq _ _ _)))) (by exact rfl) ?_
  refine Gq_s (pc' := 14) rfl rfl rfl ?_
  refine Gq_get (pc' := 17) rfl rfl (by first | assumption | exact upd_eq _ _ _ | (refine (upd_ne _ _ (by omega)).trans ?_; first | assumption | exact upd_eq _ _ _ | (refine (upd_ne _ _ (by omega)).trans ?_; first | assumption | exact upd_eq _ _ _ | (refine (upd_ne _ _ (by omega)).trans ?_; first | assumption | exact upd_eq _ _ _)))) (by exact rfl) ?_
  refine Gq_s (pc' := 18) rfl rfl rfl ?_
  refine Gq_aast (pc' := 19) (some q) rfl rfl (by first | assumption | exact upd_eq _ _ _ | (refine (upd_ne _ _ (by omega)).trans ?_; first | assumption | exact upd_eq _ _ _ | (refine (upd_ne _ _ (by omega)).trans ?_; first | assumption | exact upd_eq _ _ _ | (refine (upd_ne _ _ (by omega)).trans ?_; first | assumption | exact upd_eq _ _ _)))) (by exact rfl) (fun hz => nomatch hz) (rfl) (fun z hz => by cases hz; exact ⟨_, h3⟩) (rfl) (by omega) (by omega) ?_
  refine Gq_s (pc' := 20) rfl rfl rfl ?_
  refine Gq_s (pc' := 21) rfl rfl rfl ?_
  refine Gq_get (pc' := 24) rfl rfl (by first | assumption | exact upd_eq _ _ _ | (refine (upd_ne _ _ (by omega)).trans ?_; first | assumption | exact upd_eq _ _ _ | (refine (upd_ne _ _ (by omega)).trans ?_; first | assumption | exact upd_eq _ _ _ | (refine (upd_ne _ _ (by omega)).trans ?_; first | assumption | exact upd_eq _ _ _)))) (by exact rfl) ?_
  refine Gq_s (pc' := 25) rfl rfl rfl ?_
  refine Gq_iadd (pc' := 26) rfl rfl ?_
  refine Gq_put (pc' := 29) (fs' := [_, _]) rfl rfl (by first | assumption | exact upd_eq _ _ _ | (refine (upd_ne _ _ (by omega)).trans ?_; first | assumption | exact upd_eq _ _ _ | (refine (upd_ne _ _ (by omega)).trans ?_; first | assumption | exact upd_eq _ _ _ | (refine (upd_ne _ _ (by omega)).trans ?_; first | assumption | exact upd_eq _ _ _)))) (by exact rfl) (by first | rfl | exact xfit_bI _) (by exact rfl) ?_
  exact Gq_ret rfl rfl (rfl) (⟨rfl, rfl, rfl⟩)
theorem t_take_l {S : ScT} {n w u : Nat} {wl : List CR} {x : Int32} (hw : w + 1 < 119) (hd : ¬ u = w ∧ ¬ u = w + 1 ∧ ¬ u + 1 = w) : ∀ (k j : Nat) (H : HF) (acc : List CR), j + k = wl.length → acc.length ≤ j → WiAt H u wl → WiAt H w acc → Gw S xm124 7 [(0, .ref w), (1, .ref u), (2, .int x), (3, .int (zI (j : Int)))] [] H n 0 0 (MQe xm124 (fun v G m => v = none ∧ m = n ∧ WiAt G w (acc ++ takeF x j (wl.drop j)) ∧ ∀ o, ¬ o = w → ¬ o = w + 1 → G o = H o)) := by
  intro k
  induction k with
  | zero =>
    intro j H acc hj ha hU hA
    obtain rfl : j = wl.length := by omega
    obtain ⟨h3, hL, -⟩ := id hU
    refine Gq_s (pc' := 8) rfl rfl rfl ?_
    refine Gq_s (pc' := 9) rfl rfl rfl ?_
    refine Gq_get (pc' := 12) rfl rfl (by first | assumption | exact upd_eq _ _ _ | (refine (upd_ne _ _ (by omega)).trans ?_; first | assumption | exact upd_eq _ _ _ | (refine (upd_ne _ _ (by omega)).trans ?_; first | assumption | exact upd_eq _ _ _ | (refine (upd_ne _ _ (by omega)).trans ?_; first | assumption | exact upd_eq _ _ _)))) (by exact rfl) ?_
    refine Gq_cge (pc' := 15) (t := 39) rfl rfl rfl (by omega) (by omega) (fun _ => ?_) (fun hq => absurd (by omega) hq)
    exact Gq_ret rfl rfl (rfl) (⟨rfl, rfl, by rw [List.drop_length, takeF, List.append_nil]; exact hA, fun _ _ _ => rfl⟩)
  | succ k ih =>
    intro j H acc hj ha hU hA
    have hjl : j < wl.length := by omega
    obtain ⟨h3, hL, uc, h4, h5⟩ := id hU
    obtain ⟨q, nx, h6, h7⟩ := h5 j wl[j] (List.getElem?_eq_getElem hjl)
    rw [List.drop_eq_getElem_cons hjl, takeF]
    refine Gq_s (pc' := 8) rfl rfl rfl ?_
    refine Gq_s (pc' := 9) rfl rfl rfl ?_
    refine Gq_get (pc' := 12) rfl rfl (by first | assumption | exact upd_eq _ _ _ | (refine (upd_ne _ _ (by omega)).trans ?_; first | assumption | exact upd_eq _ _ _ | (refine (upd_ne _ _ (by omega)).trans ?_; first | assumption | exact upd_eq _ _ _ | (refine (upd_ne _ _ (by omega)).trans ?_; first | assumption | exact upd_eq _ _ _)))) (by exact rfl) ?_
    refine Gq_cge (pc' := 15) (t := 39) rfl rfl rfl (by omega) (by omega) (fun hq => absurd hq (by omega)) (fun _ => ?_)
    refine Gq_s (pc' := 16) rfl rfl rfl ?_
    refine Gq_s (pc' := 17) rfl rfl rfl ?_
    refine Gq_calls1 (pc' := 20) (Y := xm61) (rest := []) (st' := [_]) (ce' := 0) (sl' := 0) rfl rfl rfl rfl rfl rfl rfl rfl rfl rfl (t_isIn H n x j) rfl ?_
    refine Gq_beq (pc' := 23) (t := 33) rfl rfl rfl (fun hb => ?_) (fun hb => ?_)
    · refine Gq_iinc (pc' := 36) (lv' := [(0, _), (1, _), (2, _), (3, _)]) rfl rfl rfl rfl ?_
      refine Gq_goto rfl (t := 7) rfl ?_
      rw [hb]
      exact ih (j + 1) H acc (by omega) (by omega) hU hA
    · obtain ⟨g0, gL, ac, g1, g2⟩ := id hA
      refine Gq_s (pc' := 24) rfl rfl rfl ?_
      refine Gq_s (pc' := 25) rfl rfl rfl ?_
      refine Gq_get (pc' := 28) rfl rfl (by first | assumption | exact upd_eq _ _ _ | (refine (upd_ne _ _ (by omega)).trans ?_; first | assumption | exact upd_eq _ _ _ | (refine (upd_ne _ _ (by omega)).trans ?_; first | assumption | exact upd_eq _ _ _ | (refine (upd_ne _ _ (by omega)).trans ?_; first | assumption | exact upd_eq _ _ _)))) (by exact rfl) ?_
      refine Gq_s (pc' := 29) rfl rfl rfl ?_
      refine Gq_aald (pc' := 30) rfl rfl (by first | assumption | exact upd_eq _ _ _ | (refine (upd_ne _ _ (by omega)).trans ?_; first | assumption | exact upd_eq _ _ _ | (refine (upd_ne _ _ (by omega)).trans ?_; first | assumption | exact upd_eq _ _ _ | (refine (upd_ne _ _ (by omega)).trans ?_; first | assumption | exact upd_eq _ _ _)))) (by exact rfl) (rfl) (by omega) (by omega) (rv_s h6) ?_
      refine Gq_callv1 (pc' := 33) (Y := xm122) (rest := []) (st' := []) (ce' := 0) (sl' := 0) rfl rfl rfl rfl rfl rfl rfl rfl rfl (t_wadd g0 g1 (by omega) h7) rfl (by first | assumption | exact upd_eq _ _ _ | (refine (upd_ne _ _ (by omega)).trans ?_; first | assumption | exact upd_eq _ _ _ | (refine (upd_ne _ _ (by omega)).trans ?_; first | assumption | exact upd_eq _ _ _ | (refine (upd_ne _ _ (by omega)).trans ?_; first | assumption | exact upd_eq _ _ _)))) ?_
      refine Gq_iinc (pc' := 36) (lv' := [(0, _), (1, _), (2, _), (3, _)]) rfl rfl rfl rfl ?_
      refine Gq_goto rfl (t := 7) rfl ?_
      rw [hb]
      have hA2 : WiAt (hup (hup H (w + 1) (true, 5, aR 6 (fset ac acc.length (some q)))) w (false, 6, [.ref (w + 1), .int (zI ((acc.length + 1 : Nat) : Int))])) w (acc ++ [wl[j]]) := by
        refine ⟨by rw [upd_eq, List.length_append]; rfl, by rw [List.length_append]; show acc.length + 1 ≤ 6; omega, _, by rw [upd_ne _ _ (by omega)]; exact upd_eq _ _ _, fun i c hc => ?_⟩
        rcases get_snoc hc with hc | ⟨rfl, rfl⟩
        · obtain ⟨o, nx, e1, e2⟩ := g2 i c hc
          have hi : i < acc.length := (List.getElem?_eq_some_iff.mp hc).1
          exact ⟨o, nx, by rw [fset_ne _ _ (by omega)]; exact e1, ClaimAt_upd (by omega) (ClaimAt_upd hw e2)⟩
        · exact ⟨q, nx, fset_eq _ _ _, ClaimAt_upd (by omega) (ClaimAt_upd hw h7)⟩
      have hU2 := WiAt_upd (d := (false, 6, [.ref (w + 1), .int (zI ((acc.length + 1 : Nat) : Int))])) (show w < 119 by omega) (by omega) (by omega) (WiAt_upd (d := (true, 5, aR 6 (fset ac acc.length (some q)))) hw (by omega) (by omega) hU)
      have := ih (j + 1) _ (acc ++ [wl[j]]) (by omega) (by rw [List.length_append]; show acc.length + 1 ≤ j + 1; omega) hU2 hA2
      rw [List.append_assoc] at this
      refine Gq_mq this ?_
      rintro v G m ⟨e1, e2, e3, e4⟩
      exact ⟨e1, e2, e3, fun o ho1 ho2 => by rw [e4 o ho1 ho2, upd_ne _ _ ho1, upd_ne _ _ ho2]⟩
theorem t_take {S : ScT} {H : HF} (n : Nat) {w u : Nat} {wl : List CR} {wc : Nat → Option Nat} (x : Int32) (hw : w + 1 < 119) (hd : ¬ u = w ∧ ¬ u = w + 1 ∧ ¬ u + 1 = w) (hU : WiAt H u wl) (h0 : ∃ z, H w = some (false, 6, [.ref (w + 1), .int z])) (h1 : H (w + 1) = some (true, 5, aR 6 wc)) : Rmt S 124 [.ref w, .ref u, .int x] H n (fun v G m => v = none ∧ m = n ∧ WiAt G w (takeF x 0 wl) ∧ ∀ o, ¬ o = w → ¬ o = w + 1 → G o = H o) := by
  refine Rm_of (M := xm124) (lv := [(0, _), (1, _), (2, _)]) rfl rfl rfl ?_
  obtain ⟨z, h0⟩ := h0
  refine Gq_s (pc' := 1) rfl rfl rfl ?_
  refine Gq_s (pc' := 2) rfl rfl rfl ?_
  refine Gq_put (pc' := 5) (fs' := [_, _]) rfl rfl (by first | assumption | exact upd_eq _ _ _ | (refine (upd_ne _ _ (by omega)).trans ?_; first | assumption | exact upd_eq _ _ _ | (refine (upd_ne _ _ (by omega)).trans ?_; first | assumption | exact upd_eq _ _ _ | (refine (upd_ne _ _ (by omega)).trans ?_; first | assumption | exact upd_eq _ _ _)))) (by exact rfl) (by first | rfl | exact xfit_bI _) (by exact rfl) ?_
  refine Gq_s (pc' := 6) rfl rfl rfl ?_
  refine Gq_s (pc' := 7) (lv' := [(0, _), (1, _), (2, _), (3, _)]) rfl rfl rfl ?_
  have hA : WiAt (hup H w (false, 6, [.ref (w + 1), .int (zI 0)])) w [] := ⟨upd_eq _ _ _, by decide, wc, by rw [upd_ne _ _ (by omega)]; exact h1, fun i c hc => by cases hc⟩
  have := t_take_l (S := S) (n := n) (x := x) hw hd wl.length 0 _ [] (by omega) (Nat.le_refl 0) (WiAt_upd (show w < 119 by omega) (by omega) (by omega) hU) hA
  refine Gq_mq this ?_
  rintro v G m ⟨e1, e2, e3, e4⟩
  exact ⟨e1, e2, e3, fun o ho1 ho2 => by rw [e4 o ho1 ho2, upd_ne _ _ ho1]⟩
/-- the resolver's own cell -/
def rzF (tc rl rs lc : Int) : List Value := [.ref 97, .ref 99, .int (zI tc), .ref 102, .ref 103, .ref 104, .ref 105, .int (zI rl), .int (zI rs), .ref 106, .int (zI lc)]
def addR (rw : List Nat) (p : Nat) : List Nat := if p ∈ rw then rw else rw ++ [p]
def mkSet (rw : List Nat) : Nat := rw.foldl (fun m q => m ||| 2 ^ q) 0
theorem mkS_snoc (rw : List Nat) (p : Nat) : mkSet (rw ++ [p]) = mkSet rw ||| 2 ^ p := by unfold mkSet; rw [List.foldl_append]; rfl
theorem mkS_g : ∀ (rw : List Nat) (m p : Nat), (rw.foldl (fun m q => m ||| 2 ^ q) m).testBit p = (m.testBit p || decide (p ∈ rw))
  | [], m, p => by
    show m.testBit p = _
    rw [decide_eq_false (fun h => by cases h), Bool.or_false]
  | q :: t, m, p => by
    rw [List.foldl_cons, mkS_g t, Nat.testBit_or, Nat.testBit_two_pow]
    by_cases e : q = p
    · subst e
      rw [decide_eq_true rfl, decide_eq_true List.mem_cons_self, Bool.or_true, Bool.true_or]
    · rw [decide_eq_false e, Bool.or_false]
      congr 1
      exact decide_eq_decide.mpr ⟨fun h => List.mem_cons_of_mem _ h, fun h => by
        rcases List.mem_cons.mp h with h | h
        · exact absurd h.symm e
        · exact h⟩
theorem mkS_bit (rw : List Nat) (p : Nat) : (mkSet rw).testBit p = decide (p ∈ rw) := by
  unfold mkSet
  rw [mkS_g, Nat.zero_testBit, Bool.false_or]
theorem mkS_lt {rw : List Nat} (h : ∀ q ∈ rw, q < 12) : mkSet rw < 4096 := by
  refine Nat.lt_pow_two_of_testBit (n := 12) _ (fun i hi => ?_)
  rw [mkS_bit]
  exact decide_eq_false (fun q => by have := h i q; omega)
/-- no row without a name twice is longer than there are names -/
theorem pigeon : ∀ (N : Nat) (l : List Nat), l.Nodup → (∀ q ∈ l, q < N) → l.length ≤ N
  | 0, l, _, h => by
    cases l with
    | nil => exact Nat.le_refl 0
    | cons a t => exact absurd (h a List.mem_cons_self) (by omega)
  | N + 1, l, hn, h => by
    have h1 := pigeon N (l.erase N) (hn.erase N) (fun q hq => by
      have h2 := h q (List.mem_of_mem_erase hq)
      have h3 : q ≠ N := fun e => by
        subst e
        exact (List.Nodup.mem_erase_iff hn).mp hq |>.1 rfl
      omega)
    have h2 := List.length_erase_le (a := N) (l := l)
    by_cases e : N ∈ l
    · rw [List.length_erase_of_mem e] at h1
      omega
    · rw [List.erase_of_not_mem e] at h1
      omega
def RowIs (rw : List Nat) (row : Nat → Int) : Prop := ∀ (i q : Nat), rw[i]? = some q → row i = (q : Int)
def RwOK (rw : List Nat) : Prop := rw.Nodup ∧ ∀ q ∈ rw, q < 12
theorem addR_ok {rw : List Nat} {p : Nat} (h : RwOK rw) (hp : p < 12) : RwOK (addR rw p) := by
  unfold addR
  by_cases e : p ∈ rw
  · rw [if_pos e]
    exact h
  · rw [if_neg e]
    refine ⟨List.nodup_append.mpr ⟨h.1, by simp, fun a ha b hb => ?_⟩, fun q hq => ?_⟩
    · rcases List.mem_singleton.mp hb with rfl
      exact fun q => e (q ▸ ha)
    · rcases List.mem_append.mp hq with hq | hq
      · exact h.2 q hq
      · rcases List.mem_singleton.mp hq with rfl
        exact hp
theorem addR_mem {rw : List Nat} {p : Nat} : p ∈ addR rw p := by
  unfold addR
  by_cases e : p ∈ rw
  · rw [if_pos e]; exact e
  · rw [if_neg e]; exact List.mem_append.mpr (.inr (List.mem_singleton.mpr rfl))
theorem addR_of {rw : List Nat} {p q : Nat} (h : q ∈ addR rw p) : q ∈ rw ∨ q = p := by
  unfold addR at h
  by_cases e : p ∈ rw
  · rw [if_pos e] at h; exact .inl h
  · rw [if_neg e] at h
    rcases List.mem_append.mp h with h | h
    · exact .inl h
    · exact .inr (List.mem_singleton.mp h)
theorem addR_get {rw : List Nat} {p i q : Nat} (h : rw[i]? = some q) : (addR rw p)[i]? = some q := by
  unfold addR
  by_cases e : p ∈ rw
  · rw [if_pos e]; exact h
  · rw [if_neg e, List.getElem?_append_left (List.getElem?_eq_some_iff.mp h).1]; exact h
theorem addR_sub {rw : List Nat} {p q : Nat} (h : q ∈ rw) : q ∈ addR rw p := by
  obtain ⟨i, hi, rfl⟩ := List.getElem_of_mem h
  exact List.mem_of_getElem? (addR_get (List.getElem?_eq_getElem hi))
theorem t_addToRow {S : ScT} {H : HF} (n : Nat) {p : Nat} {rw : List Nat} {row : Nat → Int} {tc lc : Int} (h0 : H 96 = some (false, 5, rzF tc ((rw).length : Int) (mkSet rw : Int) lc)) (h1 : H 105 = some (true, 0, aI 12 row)) (hr : RowIs rw row) (hR : RwOK rw) (hp : p < 12) : Rmt S 116 [.ref 96, .int (zI (p : Int))] H n (fun v G m => v = none ∧ m = n ∧ ∃ row', RowIs (addR rw p) row' ∧ G = hup (hup H 105 (true, 0, aI 12 row')) 96 (false, 5, rzF tc ((addR rw p).length : Int) (mkSet (addR rw p) : Int) lc)) := by
  refine Rm_of (M := xm116) (lv := [(0, _), (1, _)]) rfl rfl rfl ?_
  have hlt := mkS_lt hR.2
  have hin : isInB (zI (mkSet rw : Int)) p = decide (p ∈ rw) := (isInB_z hlt (by omega)).trans (mkS_bit rw p)
  have hpg := pigeon 12 rw hR.1 hR.2
  refine Gq_s (pc' := 1) rfl rfl rfl ?_
  refine Gq_get (pc' := 4) rfl rfl (by first | assumption | exact upd_eq _ _ _ | (refine (upd_ne _ _ (by omega)).trans ?_; first | assumption | exact upd_eq _ _ _ | (refine (upd_ne _ _ (by omega)).trans ?_; first | assumption | exact upd_eq _ _ _ | (refine (upd_ne _ _ (by omega)).trans ?_; first | assumption | exact upd_eq _ _ _)))) (by exact rfl) ?_
  refine Gq_s (pc' := 5) rfl rfl rfl ?_
  refine Gq_calls1 (pc' := 8) (Y := xm61) (rest := []) (st' := [_]) (ce' := 0) (sl' := 0) rfl rfl rfl rfl rfl rfl rfl rfl rfl rfl (t_isIn H n (zI (mkSet rw : Int)) p) rfl ?_
  rw [hin]
  refine Gq_bne (pc' := 11) (t := 52) rfl rfl rfl (fun hb => ?_) (fun hb => ?_)
  · have e : addR rw p = rw := if_pos (of_decide_eq_true hb)
    exact Gq_ret rfl rfl (rfl) (⟨rfl, rfl, row, by rw [e]; exact hr, by rw [e, upd_self h1, upd_self h0]⟩)
  · have hni : ¬ p ∈ rw := of_decide_eq_false hb
    have e : addR rw p = rw ++ [p] := if_neg hni
    have hpl : rw.length < 12 := by
      have := pigeon 12 (rw ++ [p]) (e ▸ (addR_ok hR hp).1) (e ▸ (addR_ok hR hp).2)
      rw [List.length_append] at this
      exact this
    refine Gq_s (pc' := 12) rfl rfl rfl ?_
    refine Gq_get (pc' := 15) rfl rfl (by first | assumption | exact upd_eq _ _ _ | (refine (upd_ne _ _ (by omega)).trans ?_; first | assumption | exact upd_eq _ _ _ | (refine (upd_ne _ _ (by omega)).trans ?_; first | assumption | exact upd_eq _ _ _ | (refine (upd_ne _ _ (by omega)).trans ?_; first | assumption | exact upd_eq _ _ _)))) (by exact rfl) ?_
    refine Gq_bipush (pc' := 17) rfl rfl (by decide) ?_
    refine Gq_cge (pc' := 20) (t := 52) rfl rfl rfl (by omega) (by omega) (fun hq => absurd hq (by omega)) (fun _ => ?_)
    refine Gq_s (pc' := 21) rfl rfl rfl ?_
    refine Gq_get (pc' := 24) rfl rfl (by first | assumption | exact upd_eq _ _ _ | (refine (upd_ne _ _ (by omega)).trans ?_; first | assumption | exact upd_eq _ _ _ | (refine (upd_ne _ _ (by omega)).trans ?_; first | assumption | exact upd_eq _ _ _ | (refine (upd_ne _ _ (by omega)).trans ?_; first | assumption | exact upd_eq _ _ _)))) (by exact rfl) ?_
    refine Gq_s (pc' := 25) rfl rfl rfl ?_
    refine Gq_get (pc' := 28) rfl rfl (by first | assumption | exact upd_eq _ _ _ | (refine (upd_ne _ _ (by omega)).trans ?_; first | assumption | exact upd_eq _ _ _ | (refine (upd_ne _ _ (by omega)).trans ?_; first | assumption | exact upd_eq _ _ _ | (refine (upd_ne _ _ (by omega)).trans ?_; first | assumption | exact upd_eq _ _ _)))) (by exact rfl) ?_
    refine Gq_s (pc' := 29) rfl rfl rfl ?_
    refine Gq_iast (pc' := 30) rfl rfl (by first | assumption | exact upd_eq _ _ _ | (refine (upd_ne _ _ (by omega)).trans ?_; first | assumption | exact upd_eq _ _ _ | (refine (upd_ne _ _ (by omega)).trans ?_; first | assumption | exact upd_eq _ _ _ | (refine (upd_ne _ _ (by omega)).trans ?_; first | assumption | exact upd_eq _ _ _)))) (rfl) (by omega) (by omega) ?_
    refine Gq_s (pc' := 31) rfl rfl rfl ?_
    refine Gq_s (pc' := 32) rfl rfl rfl ?_
    refine Gq_get (pc' := 35) rfl rfl (by first | assumption | exact upd_eq _ _ _ | (refine (upd_ne _ _ (by omega)).trans ?_; first | assumption | exact upd_eq _ _ _ | (refine (upd_ne _ _ (by omega)).trans ?_; first | assumption | exact upd_eq _ _ _ | (refine (upd_ne _ _ (by omega)).trans ?_; first | assumption | exact upd_eq _ _ _)))) (by exact rfl) ?_
    refine Gq_s (pc' := 36) rfl rfl rfl ?_
    refine Gq_iadd (pc' := 37) rfl rfl ?_
    refine Gq_put (pc' := 40) (fs' := [_, _, _, _, _, _, _, _, _, _, _]) rfl rfl (by first | assumption | exact upd_eq _ _ _ | (refine (upd_ne _ _ (by omega)).trans ?_; first | assumption | exact upd_eq _ _ _ | (refine (upd_ne _ _ (by omega)).trans ?_; first | assumption | exact upd_eq _ _ _ | (refine (upd_ne _ _ (by omega)).trans ?_; first | assumption | exact upd_eq _ _ _)))) (by exact rfl) (by first | rfl | exact xfit_bI _) (by exact rfl) ?_
    refine Gq_s (pc' := 41) rfl rfl rfl ?_
    refine Gq_s (pc' := 42) rfl rfl rfl ?_
    refine Gq_get (pc' := 45) rfl rfl (by first | assumption | exact upd_eq _ _ _ | (refine (upd_ne _ _ (by omega)).trans ?_; first | assumption | exact upd_eq _ _ _ | (refine (upd_ne _ _ (by omega)).trans ?_; first | assumption | exact upd_eq _ _ _ | (refine (upd_ne _ _ (by omega)).trans ?_; first | assumption | exact upd_eq _ _ _)))) (by exact rfl) ?_
    refine Gq_s (pc' := 46) rfl rfl rfl ?_
    refine Gq_s (pc' := 47) rfl rfl rfl ?_
    refine Gq_ishl (pc' := 48) (zI ((2 ^ p : Nat) : Int)) rfl rfl (z_shl _ hp) ?_
    refine Gq_ior (pc' := 49) (zI ((mkSet rw ||| 2 ^ p : Nat) : Int)) rfl rfl (z_or _ _) ?_
    refine Gq_put (pc' := 52) (fs' := [_, _, _, _, _, _, _, _, _, _, _]) rfl rfl (by first | assumption | exact upd_eq _ _ _ | (refine (upd_ne _ _ (by omega)).trans ?_; first | assumption | exact upd_eq _ _ _ | (refine (upd_ne _ _ (by omega)).trans ?_; first | assumption | exact upd_eq _ _ _ | (refine (upd_ne _ _ (by omega)).trans ?_; first | assumption | exact upd_eq _ _ _)))) (by exact rfl) (by first | rfl | exact xfit_bI _) (by exact rfl) ?_
    rw [upd_upd]
    refine Gq_ret rfl rfl rfl ⟨rfl, rfl, fset row rw.length (p : Int), ?_, ?_⟩
    · rw [e]
      intro i q hq
      rcases get_snoc hq with hq | ⟨rfl, rfl⟩
      · have hi : i < rw.length := (List.getElem?_eq_some_iff.mp hq).1
        rw [fset_ne _ _ (by omega)]
        exact hr i q hq
      · exact fset_eq _ _ _
    · rw [e, mkS_snoc, List.length_append]
      rfl
end XK5
