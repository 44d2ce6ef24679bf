/-! the search (printed by wip/p46/gen29.py) -/
section XK9
theorem snoc_of : ∀ (l : List Nat), ¬ l = [] → ∃ l0 p, l = l0 ++ [p]
  | [], h => absurd rfl h
  | [a], _ => ⟨[], a, rfl⟩
  | a :: b :: t, _ => by
    obtain ⟨l0, p, e⟩ := snoc_of (b :: t) (fun q => nomatch q)
    exact ⟨a :: l0, p, by rw [e]; rfl⟩
def rest (ch : Nat → Option Nat) (l : List Nat) : Nat → Option Nat := fun q => if q ∈ l then ch q else none
def trOK (tr : Nat → Int) : Prop := ∀ q, q < 12 → 0 ≤ tr q ∧ tr q ≤ 8
/-- the levels: each package once, all but the last with a version, each reached by what lies below -/
def SP (vr : Nat → VR) (Own : Nat → Nat → Prop) (aw : List CR) (Dom : Nat → Prop) (lv : List Nat) (ch : Nat → Option Nat) : Prop :=
  lv.Nodup ∧ (∀ q ∈ lv, q < 12 ∧ Dom q) ∧ (∀ q, ¬ ch q = none → q ∈ lv) ∧ (∀ i q : Nat, lv[i]? = some q → i + 1 < lv.length → ¬ ch q = none) ∧ (∀ i q : Nat, lv[i]? = some q → Rch vr (rest ch (lv.take i)) (onF vr (rest ch (lv.take i)) aw) aw q) ∧ (∀ p o, ch p = some o → Own p o)
theorem nd_last {l0 : List Nat} {p : Nat} (h : (l0 ++ [p]).Nodup) : l0.Nodup ∧ ¬ p ∈ l0 := by
  obtain ⟨h1, h2, h3⟩ := List.nodup_append.mp h
  exact ⟨h1, fun q => h3 p q p (List.mem_singleton.mpr rfl) rfl⟩
theorem take_snoc {l0 : List Nat} {p i : Nat} (h : i ≤ l0.length) : (l0 ++ [p]).take i = l0.take i := List.take_append_of_le_length h
theorem rest_take {l0 : List Nat} {p i : Nat} {ch : Nat → Option Nat} {x : Option Nat} (hn : (l0 ++ [p]).Nodup) (hi : i ≤ l0.length) : rest (fset ch p x) ((l0 ++ [p]).take i) = rest ch ((l0 ++ [p]).take i) := by
  rw [take_snoc hi]
  funext q
  unfold rest
  by_cases h : q ∈ l0.take i
  · rw [if_pos h, if_pos h, fset_ne]
    exact fun e => (nd_last hn).2 (e ▸ List.mem_of_mem_take h)
  · rw [if_neg h, if_neg h]
theorem len_snoc (l0 : List Nat) (p : Nat) : (l0 ++ [p]).length = l0.length + 1 := by rw [List.length_append]; rfl
section
variable {vr : Nat → VR} {Own : Nat → Nat → Prop} {aw : List CR} {Dom : Nat → Prop} {l0 lv : List Nat} {p : Nat} {ch : Nat → Option Nat}
theorem SP_pop (h : SP vr Own aw Dom (l0 ++ [p]) ch) : SP vr Own aw Dom l0 (fset ch p none) := by
  obtain ⟨h1, h2, h3, h4, h5, h6⟩ := h
  obtain ⟨n1, n2⟩ := nd_last h1
  have hne : ∀ q, q ∈ l0 → ¬ q = p := fun q hq e => n2 (e ▸ hq)
  refine ⟨n1, fun q hq => h2 q (List.mem_append.mpr (.inl hq)), fun q hq => ?_, fun i q hq hi => ?_, fun i q hq => ?_, fun q o hq => ?_⟩
  · by_cases e : q = p
    · subst e
      rw [fset_eq] at hq
      exact absurd rfl hq
    · rw [fset_ne _ _ e] at hq
      rcases List.mem_append.mp (h3 q hq) with h | h
      · exact h
      · exact absurd (List.mem_singleton.mp h) e
  · have hil : i < l0.length := (List.getElem?_eq_some_iff.mp hq).1
    rw [fset_ne _ _ (hne q (List.mem_of_getElem? hq))]
    exact h4 i q (by rw [List.getElem?_append_left hil]; exact hq) (by rw [len_snoc]; omega)
  · have hil : i < l0.length := (List.getElem?_eq_some_iff.mp hq).1
    have h9 := h5 i q (by rw [List.getElem?_append_left hil]; exact hq)
    rw [← rest_take (x := none) h1 (by omega), take_snoc (by omega)] at h9
    exact h9
  · by_cases e : q = p
    · subst e
      rw [fset_eq] at hq
      cases hq
    · rw [fset_ne _ _ e] at hq
      exact h6 q o hq
theorem SP_try {o : Nat} (h : SP vr Own aw Dom (l0 ++ [p]) ch) (ho : Own p o) : SP vr Own aw Dom (l0 ++ [p]) (fset ch p (some o)) ∧ ∀ q ∈ l0 ++ [p], ¬ fset ch p (some o) q = none := by
  obtain ⟨h1, h2, h3, h4, h5, h6⟩ := h
  obtain ⟨n1, n2⟩ := nd_last h1
  have hne : ∀ q, q ∈ l0 → ¬ q = p := fun q hq e => n2 (e ▸ hq)
  have hall : ∀ q ∈ l0 ++ [p], ¬ fset ch p (some o) q = none := fun q hq => by
    by_cases e : q = p
    · subst e
      rw [fset_eq]
      exact fun q => nomatch q
    · rw [fset_ne _ _ e]
      rcases List.mem_append.mp hq with hq | hq
      · obtain ⟨i, hi, rfl⟩ := List.getElem_of_mem hq
        exact h4 i _ (by rw [List.getElem?_append_left hi]; exact List.getElem?_eq_getElem hi) (by rw [len_snoc]; omega)
      · exact absurd (List.mem_singleton.mp hq) e
  refine ⟨⟨h1, h2, fun q hq => ?_, fun i q hq hi => hall q (List.mem_of_getElem? hq), fun i q hq => ?_, fun q o2 hq => ?_⟩, hall⟩
  · by_cases e : q = p
    · subst e
      exact List.mem_append.mpr (.inr (List.mem_singleton.mpr rfl))
    · rw [fset_ne _ _ e] at hq
      exact h3 q hq
  · have hil : i < (l0 ++ [p]).length := (List.getElem?_eq_some_iff.mp hq).1
    rw [len_snoc] at hil
    rw [rest_take h1 (by omega)]
    exact h5 i q hq
  · by_cases e : q = p
    · subst e
      rw [fset_eq] at hq
      cases hq
      exact ho
    · rw [fset_ne _ _ e] at hq
      exact h6 q o2 hq
theorem SP_push (h : SP vr Own aw Dom lv ch) (ha : ∀ q ∈ lv, ¬ ch q = none) (hp : p < 12) (hD : Dom p) (hx : ch p = none) (hr : Rch vr ch (onF vr ch aw) aw p) : SP vr Own aw Dom (lv ++ [p]) ch := by
  obtain ⟨h1, h2, h3, h4, h5, h6⟩ := h
  have hnp : ¬ p ∈ lv := fun q => ha p q hx
  have hrest : rest ch lv = ch := by
    funext q
    unfold rest
    by_cases e : q ∈ lv
    · rw [if_pos e]
    · rw [if_neg e]
      exact Decidable.byContradiction fun z => e (h3 q (fun w => z w.symm))
  refine ⟨?_, fun q hq => ?_, fun q hq => List.mem_append.mpr (.inl (h3 q hq)), fun i q hq hi => ?_, fun i q hq => ?_, h6⟩
  · refine List.nodup_append.mpr ⟨h1, by simp, fun a ha b hb => ?_⟩
    rcases List.mem_singleton.mp hb with rfl
    exact fun q => hnp (q ▸ ha)
  · rcases List.mem_append.mp hq with hq | hq
    · exact h2 q hq
    · rcases List.mem_singleton.mp hq with rfl
      exact ⟨hp, hD⟩
  · rw [len_snoc] at hi
    rcases get_snoc hq with hq | ⟨rfl, rfl⟩
    · exact ha q (List.mem_of_getElem? hq)
    · omega
  · rcases get_snoc hq with hq | ⟨rfl, rfl⟩
    · have hil : i < lv.length := (List.getElem?_eq_some_iff.mp hq).1
      rw [take_snoc (by omega)]
      exact h5 i q hq
    · rw [take_snoc (by omega), List.take_length, hrest]
      exact hr
/-- found -/
def Found (vr : Nat → VR) (Own : Nat → Nat → Prop) (aw : List CR) (ch : Nat → Option Nat) : Prop := mtsB vr ch (onF vr ch aw) aw false = true ∧ Clsd vr ch (onF vr ch aw) aw ∧ (∀ q, ¬ ch q = none → Rch vr ch (onF vr ch aw) aw q) ∧ (∀ q o, ch q = some o → q < 12 ∧ Own q o)
theorem Rch_12 {on : Nat → Nat} (hw : ∀ c ∈ aw, cOK c) (hN : NOK vr ch) (hz : ∀ q, ¬ ch q = none → q < 12) {q : Nat} (h : Rch vr ch on aw q) : q < 12 := h (fun q => q < 12) (fun c hc => (hw c hc).1) (fun q o c hq ho hc _ => (hN q o hq ho c hc).1)
theorem SP_found (h : SP vr Own aw Dom lv ch) (ha : ∀ q ∈ lv, ¬ ch q = none) (hw : ∀ c ∈ aw, cOK c) (hN : NOK vr ch) (hm : mtsB vr ch (onF vr ch aw) aw false = true) (hc : Clsd vr ch (onF vr ch aw) aw ∨ 12 ≤ lv.length) : Found vr Own aw ch := by
  obtain ⟨h1, h2, h3, h4, h5, h6⟩ := h
  have hz : ∀ q, ¬ ch q = none → q < 12 := fun q hq => (h2 q (h3 q hq)).1
  refine ⟨hm, ?_, fun q hq => ?_, fun q o hq => ⟨hz q (by rw [hq]; exact fun z => nomatch z), h6 q o hq⟩⟩
  · rcases hc with hc | hc
    · exact hc
    · intro q hr
      have hq := Rch_12 hw hN hz hr
      have hmem : q ∈ lv := Decidable.byContradiction fun e => by
        have h9 := pigeon 12 (lv ++ [q]) (List.nodup_append.mpr ⟨h1, by simp, fun a ha b hb => by
          rcases List.mem_singleton.mp hb with rfl
          exact fun z => e (z ▸ ha)⟩) (fun x hx => by
          rcases List.mem_append.mp hx with hx | hx
          · exact (h2 x hx).1
          · rcases List.mem_singleton.mp hx with rfl
            exact hq)
        rw [len_snoc] at h9
        omega
      cases hx : ch q with
      | none => exact absurd hx (ha q hmem)
      | some o => exact ⟨o, rfl⟩
  · obtain ⟨i, hi, rfl⟩ := List.getElem_of_mem (h3 q hq)
    refine Rch_mono (fun z o hz9 => ?_) (h5 i _ (List.getElem?_eq_getElem hi))
    have hs : ∀ z o, rest ch (lv.take i) z = some o → ch z = some o := fun z o hz9 => by
      unfold rest at hz9
      by_cases e : z ∈ lv.take i
      · rw [if_pos e] at hz9; exact hz9
      · rw [if_neg e] at hz9; cases hz9
    exact ⟨hs z o hz9, onF_mono hN hw hs z⟩
end
theorem t_try {S : ScT} {H : HF} {n : Nat} {mv p : Int} {vr : Nat → VR} {V : Nat → Prop} {aw : List CR} {lv : List Nat} {tr : Nat → Int} {ch : Nat → Option Nat} {on : Nat → Nat} {tc : Int} {P : Option Value → HF → Nat → Prop} (hvs : VsA H vr V) (hC : ChV V ch) (ho : o16 on) (hW : WiAt H 97 aw) (hz : RzP H tc lv tr) (hL : lv.length ≤ 12) (htr : trOK tr) (c0 : H 99 = some (false, 2, [.ref 100, .ref 101])) (c1 : H 100 = some (true, 3, aR 12 ch)) (c2 : H 101 = some (true, 0, aNt 12 on))
    (kA : ∀ G lv2 tr2, (∀ o, ¬ o = 96 → ¬ o = 101 → ¬ o = 104 → ¬ o = 105 → ¬ o = 106 → G o = H o) → RzP G tc lv2 tr2 → trOK tr2 → G 101 = some (true, 0, aNt 12 (onF vr ch aw)) → (lv2 = lv ∨ ∃ p2, p2 < 12 ∧ lv.length < 12 ∧ lv2 = lv ++ [p2] ∧ ch p2 = none ∧ Rch vr ch (onF vr ch aw) aw p2) → Gw S xm111 134 [(0, .ref 96), (1, .int (zI mv)), (2, .int (zI p))] [] G n 0 0 (MQe xm111 P))
    (kB : ∀ G tr2, (∀ o, ¬ o = 96 → ¬ o = 101 → ¬ o = 104 → ¬ o = 105 → ¬ o = 106 → G o = H o) → RzP G tc lv tr2 → trOK tr2 → G 101 = some (true, 0, aNt 12 (onF vr ch aw)) → mtsB vr ch (onF vr ch aw) aw false = true → (Clsd vr ch (onF vr ch aw) aw ∨ 12 ≤ lv.length) → P (some (.int (zI 0))) G n) : Gw S xm111 99 [(0, .ref 96), (1, .int (zI mv)), (2, .int (zI p))] [] H n 0 0 (MQe xm111 P) := by
  have hN := NOK_of hvs hC
  have hw := WiAt_ok hW
  have hz0 := hz
  obtain ⟨rl, rs, row, lev, z0, z1, z2, z3, z4⟩ := hz0
  refine Gq_s (pc' := 100) rfl rfl rfl ?_
  refine Gq_get (pc' := 103) rfl rfl (by first | assumption | exact upd_eq _ _ _ | (refine (upd_ne _ _ (by omega)).trans ?_; first | assumption | exact upd_eq _ _ _ | (refine (upd_ne _ _ (by omega)).trans ?_; first | assumption | exact upd_eq _ _ _ | (refine (upd_ne _ _ (by omega)).trans ?_; first | assumption | exact upd_eq _ _ _)))) (by exact rfl) ?_
  refine Gq_s (pc' := 104) rfl rfl rfl ?_
  refine Gq_get (pc' := 107) rfl rfl (by first | assumption | exact upd_eq _ _ _ | (refine (upd_ne _ _ (by omega)).trans ?_; first | assumption | exact upd_eq _ _ _ | (refine (upd_ne _ _ (by omega)).trans ?_; first | assumption | exact upd_eq _ _ _ | (refine (upd_ne _ _ (by omega)).trans ?_; first | assumption | exact upd_eq _ _ _)))) (by exact rfl) ?_
  refine Gq_callv1 (pc' := 110) (Y := xm79) (rest := []) (st' := []) (ce' := 0) (sl' := 0) rfl rfl rfl rfl rfl rfl rfl rfl rfl (t_tof n (by omega) hC hvs c0 c1 c2 (w := 97) (by omega) (by omega) hW) rfl (by first | assumption | exact upd_eq _ _ _ | (refine (upd_ne _ _ (by omega)).trans ?_; first | assumption | exact upd_eq _ _ _ | (refine (upd_ne _ _ (by omega)).trans ?_; first | assumption | exact upd_eq _ _ _ | (refine (upd_ne _ _ (by omega)).trans ?_; first | assumption | exact upd_eq _ _ _)))) ?_
  have fr1 : ∀ o, ¬ o = 101 → hup H (99 + 2) (true, 0, aNt 12 (onF vr ch aw)) o = H o := fun o h => upd_ne _ _ h
  have f1 : hup H (99 + 2) (true, 0, aNt 12 (onF vr ch aw)) 101 = some (true, 0, aNt 12 (onF vr ch aw)) := upd_eq _ _ _
  have hvs1 := VS_upd (i := 99 + 2) (d := (true, 0, aNt 12 (onF vr ch aw))) (by omega) hvs
  have hW1 := WiAt_upd (i := 99 + 2) (d := (true, 0, aNt 12 (onF vr ch aw))) (by omega) (by omega) (by omega) hW
  generalize hup H (99 + 2) (true, 0, aNt 12 (onF vr ch aw)) = H1 at fr1 f1 hvs1 hW1
  have z0' := (fr1 96 (by omega)).trans z0
  have c0' := (fr1 99 (by omega)).trans c0
  have c1' := (fr1 100 (by omega)).trans c1
  have hz1 : RzP H1 tc lv tr := ⟨rl, rs, row, lev, z0', (fr1 104 (by omega)).trans z1, (fr1 105 (by omega)).trans z2, (fr1 106 (by omega)).trans z3, z4⟩
  have ho1 := onF_16 hN hw
  refine Gq_s (pc' := 111) rfl rfl rfl ?_
  refine Gq_get (pc' := 114) rfl rfl (by first | assumption | exact upd_eq _ _ _ | (refine (upd_ne _ _ (by omega)).trans ?_; first | assumption | exact upd_eq _ _ _ | (refine (upd_ne _ _ (by omega)).trans ?_; first | assumption | exact upd_eq _ _ _ | (refine (upd_ne _ _ (by omega)).trans ?_; first | assumption | exact upd_eq _ _ _)))) (by exact rfl) ?_
  refine Gq_s (pc' := 115) rfl rfl rfl ?_
  refine Gq_get (pc' := 118) rfl rfl (by first | assumption | exact upd_eq _ _ _ | (refine (upd_ne _ _ (by omega)).trans ?_; first | assumption | exact upd_eq _ _ _ | (refine (upd_ne _ _ (by omega)).trans ?_; first | assumption | exact upd_eq _ _ _ | (refine (upd_ne _ _ (by omega)).trans ?_; first | assumption | exact upd_eq _ _ _)))) (by exact rfl) ?_
  refine Gq_s (pc' := 119) rfl rfl rfl ?_
  refine Gq_callv1 (pc' := 122) (Y := xm82) (rest := []) (st' := [_]) (ce' := 0) (sl' := 0) rfl rfl rfl rfl rfl rfl rfl rfl rfl (t_meets (whole := false) hvs1 hC c0' c1' f1 ho1 hW1) rfl (by first | assumption | exact upd_eq _ _ _ | (refine (upd_ne _ _ (by omega)).trans ?_; first | assumption | exact upd_eq _ _ _ | (refine (upd_ne _ _ (by omega)).trans ?_; first | assumption | exact upd_eq _ _ _ | (refine (upd_ne _ _ (by omega)).trans ?_; first | assumption | exact upd_eq _ _ _)))) ?_
  refine Gq_beq (pc' := 125) (t := 134) rfl rfl rfl (fun hm => ?_) (fun hm => ?_)
  · exact kA H1 lv tr (fun o h1 h2 h3 h4 h5 => fr1 o h2) hz1 htr f1 (.inl rfl)
  · refine Gq_s (pc' := 126) rfl rfl rfl ?_
    refine Gq_callv (pc' := 129) (Y := xm114) (rest := []) (ce' := 0) (sl' := 0) rfl rfl rfl rfl rfl rfl rfl rfl rfl (t_open n hvs1 hC ho1 hW1 hz1 hL c0' c1' f1) (by first | assumption | exact upd_eq _ _ _ | (refine (upd_ne _ _ (by omega)).trans ?_; first | assumption | exact upd_eq _ _ _ | (refine (upd_ne _ _ (by omega)).trans ?_; first | assumption | exact upd_eq _ _ _ | (refine (upd_ne _ _ (by omega)).trans ?_; first | assumption | exact upd_eq _ _ _)))) (fun v' H' n' hv => ?_)
    obtain ⟨rfl, fr2, hv⟩ := hv
    have fr3 : ∀ o, ¬ o = 96 → ¬ o = 101 → ¬ o = 104 → ¬ o = 105 → ¬ o = 106 → H' o = H o := fun o h1 h2 h3 h4 h5 => (fr2 o h1 h3 h4 h5).trans (fr1 o h2)
    have f2 := (fr2 101 (by omega) (by omega) (by omega) (by omega)).trans f1
    rcases hv with ⟨rfl, hz2, hcl⟩ | ⟨p2, rfl, hp2, hx2, hr2, hl2, hz2⟩
    · refine Gq_zne (pc' := 132) (t := 134) rfl rfl rfl (by decide) (fun hq => absurd hq (fun q => q rfl)) (fun _ => ?_)
      refine Gq_s (pc' := 133) rfl rfl rfl ?_
      exact Gq_ret rfl rfl rfl (kB H' tr fr3 hz2 htr f2 hm hcl)
    · refine Gq_zne (pc' := 132) (t := 134) rfl rfl rfl (by decide) (fun _ => ?_) (fun hq => absurd (by decide) hq)
      refine kA H' (lv ++ [p2]) (fset tr p2 0) fr3 hz2 (fun q hq => ?_) f2 (.inr ⟨p2, hp2, hl2, rfl, hx2, hr2⟩)
      by_cases e : q = p2
      · subst e
        rw [fset_eq]
        omega
      · rw [fset_ne _ _ e]
        exact htr q hq
theorem t_srch_l {S : ScT} {n : Nat} {vr : Nat → VR} {V : Nat → Prop} {Own : Nat → Nat → Prop} {aw : List CR} {Dom : Nat → Prop} {cand : Nat → Option Nat} {cc : Nat → Int} (hOV : ∀ p o, Own p o → V o) (hcd : CdOK Own cand cc) (hDa : ∀ c ∈ aw, Dom (cT c)) (hDv : ∀ o, V o → ∀ c ∈ vQ (vr o), Dom (cT c)) : ∀ (k mv : Nat) (H : HF) (lv : List Nat) (tr : Nat → Int) (ch : Nat → Option Nat) (on : Nat → Nat) (tc : Int) (ex : XL), mv + k = 10004 → (ex = [] ∨ ∃ v, ex = [(2, v)]) → VsA H vr V → o16 on → WiAt H 97 aw → RzP H tc lv tr → trOK tr → H 99 = some (false, 2, [.ref 100, .ref 101]) → H 100 = some (true, 3, aR 12 ch) → H 101 = some (true, 0, aNt 12 on) → H 102 = some (true, 3, aR 96 cand) → H 103 = some (true, 0, aI 12 cc) → (0 ≤ tc ∧ tc ≤ 5000) → SP vr Own aw Dom lv ch → Gw S xm111 11 ((0, .ref 96) :: (1, .int (zI (mv : Int))) :: ex) [] H n 0 0 (MQe xm111 (fun v G m => m = n ∧ (∀ o, ¬ o = 96 → ¬ o = 100 → ¬ o = 101 → ¬ o = 104 → ¬ o = 105 → ¬ o = 106 → G o = H o) ∧ ∃ r : Int, v = some (.int (zI r)) ∧ (-2 ≤ r ∧ r ≤ 0) ∧ ∃ tc2 lv2 tr2 ch2 on2, (0 ≤ tc2 ∧ tc2 ≤ 5001) ∧ RzP G tc2 lv2 tr2 ∧ lv2.length ≤ 12 ∧ trOK tr2 ∧ G 100 = some (true, 3, aR 12 ch2) ∧ G 101 = some (true, 0, aNt 12 on2) ∧ o16 on2 ∧ (∀ q o, ch2 q = some o → Own q o) ∧ (r = 0 → Found vr Own aw ch2))) := by
  intro k
  induction k with
  | zero =>
    intro mv H lv tr ch on tc ex hk hex hvs ho hW hz htr c0 c1 c2 d0 d1 htc hSP
    have hL := pigeon 12 lv hSP.1 (fun q hq => (hSP.2.1 q hq).1)
    have hC : ChV V ch := fun p o _ hx => hOV p o (hSP.2.2.2.2.2 p o hx)
    have hz0 := hz
    obtain ⟨rl, rs, row, lev, z0, z1, z2, z3, z4⟩ := hz0
    refine Gq_s (pc' := 12) rfl rfl rfl ?_
    refine Gq_sipush (pc' := 15) rfl rfl (by decide) ?_
    refine Gq_cge (pc' := 18) (t := 140) rfl rfl rfl (by omega) (by omega) (fun _ => ?_) (fun hq => absurd (by omega) hq)
    refine Gq_s (pc' := 141) rfl rfl rfl ?_
    exact Gq_ret rfl rfl (rfl) (⟨rfl, fun _ _ _ _ _ _ _ => rfl, -1, rfl, by omega, tc, lv, tr, ch, on, by omega, hz, hL, htr, c1, c2, ho, hSP.2.2.2.2.2, fun q => absurd q (by omega)⟩)
  | succ k ih =>
    intro mv H lv tr ch on tc ex hk hex hvs ho hW hz htr c0 c1 c2 d0 d1 htc hSP
    have hL := pigeon 12 lv hSP.1 (fun q hq => (hSP.2.1 q hq).1)
    have hC : ChV V ch := fun p o _ hx => hOV p o (hSP.2.2.2.2.2 p o hx)
    have hz0 := hz
    obtain ⟨rl, rs, row, lev, z0, z1, z2, z3, z4⟩ := hz0
    refine Gq_s (pc' := 12) rfl rfl rfl ?_
    refine Gq_sipush (pc' := 15) rfl rfl (by decide) ?_
    refine Gq_cge (pc' := 18) (t := 140) rfl rfl rfl (by omega) (by omega) (fun hq => absurd hq (by omega)) (fun _ => ?_)
    refine Gq_s (pc' := 19) rfl rfl rfl ?_
    refine Gq_get (pc' := 22) rfl rfl (by first | assumption | exact upd_eq _ _ _ | (refine (upd_ne _ _ (by omega)).trans ?_; first | assumption | exact upd_eq _ _ _ | (refine (upd_ne _ _ (by omega)).trans ?_; first | assumption | exact upd_eq _ _ _ | (refine (upd_ne _ _ (by omega)).trans ?_; first | assumption | exact upd_eq _ _ _)))) (by exact rfl) ?_
    refine Gq_zle (pc' := 25) (t := 140) rfl rfl rfl (by omega) (fun hlc => ?_) (fun hlc => ?_)
    · refine Gq_s (pc' := 141) rfl rfl rfl ?_
      exact Gq_ret rfl rfl (rfl) (⟨rfl, fun _ _ _ _ _ _ _ => rfl, -1, rfl, by omega, tc, lv, tr, ch, on, by omega, hz, hL, htr, c1, c2, ho, hSP.2.2.2.2.2, fun q => absurd q (by omega)⟩)
    · have hne : ¬ lv = [] := fun e => by rw [e] at hlc; exact hlc (by decide)
      obtain ⟨l0, p, rfl⟩ := snoc_of lv hne
      have hls := len_snoc l0 p
      have hlev : lev l0.length = (p : Int) := z4 _ _ (by rw [List.getElem?_append_right (by omega), Nat.sub_self]; rfl)
      have hp12 := (hSP.2.1 p (List.mem_append.mpr (.inr (List.mem_singleton.mpr rfl)))).1
      have htp := htr p hp12
      have hcp := hcd p hp12
      refine Gq_s (pc' := 26) rfl rfl rfl ?_
      refine Gq_get (pc' := 29) rfl rfl (by first | assumption | exact upd_eq _ _ _ | (refine (upd_ne _ _ (by omega)).trans ?_; first | assumption | exact upd_eq _ _ _ | (refine (upd_ne _ _ (by omega)).trans ?_; first | assumption | exact upd_eq _ _ _ | (refine (upd_ne _ _ (by omega)).trans ?_; first | assumption | exact upd_eq _ _ _)))) (by exact rfl) ?_
      refine Gq_s (pc' := 30) rfl rfl rfl ?_
      refine Gq_get (pc' := 33) rfl rfl (by first | assumption | exact upd_eq _ _ _ | (refine (upd_ne _ _ (by omega)).trans ?_; first | assumption | exact upd_eq _ _ _ | (refine (upd_ne _ _ (by omega)).trans ?_; first | assumption | exact upd_eq _ _ _ | (refine (upd_ne _ _ (by omega)).trans ?_; first | assumption | exact upd_eq _ _ _)))) (by exact rfl) ?_
      refine Gq_s (pc' := 34) rfl rfl rfl ?_
      refine Gq_isub (pc' := 35) rfl rfl ?_
      refine Gq_iald (pc' := 36) (j := l0.length) rfl rfl (by first | assumption | exact upd_eq _ _ _ | (refine (upd_ne _ _ (by omega)).trans ?_; first | assumption | exact upd_eq _ _ _ | (refine (upd_ne _ _ (by omega)).trans ?_; first | assumption | exact upd_eq _ _ _ | (refine (upd_ne _ _ (by omega)).trans ?_; first | assumption | exact upd_eq _ _ _)))) (by omega) (by omega) (by omega) ?_
      rw [hlev]
      refine Gq_st1 (pc' := 37) (lv' := [(0, _), (1, _), (2, _)]) (k := 2) rfl (fun _ => rfl) rfl (xst1_ex (pre := [(0, _), (1, _)]) hex rfl) ?_
      refine Gq_s (pc' := 38) rfl rfl rfl ?_
      refine Gq_get (pc' := 41) rfl rfl (by first | assumption | exact upd_eq _ _ _ | (refine (upd_ne _ _ (by omega)).trans ?_; first | assumption | exact upd_eq _ _ _ | (refine (upd_ne _ _ (by omega)).trans ?_; first | assumption | exact upd_eq _ _ _ | (refine (upd_ne _ _ (by omega)).trans ?_; first | assumption | exact upd_eq _ _ _)))) (by exact rfl) ?_
      refine Gq_get (pc' := 44) rfl rfl (by first | assumption | exact upd_eq _ _ _ | (refine (upd_ne _ _ (by omega)).trans ?_; first | assumption | exact upd_eq _ _ _ | (refine (upd_ne _ _ (by omega)).trans ?_; first | assumption | exact upd_eq _ _ _ | (refine (upd_ne _ _ (by omega)).trans ?_; first | assumption | exact upd_eq _ _ _)))) (by exact rfl) ?_
      refine Gq_s (pc' := 45) rfl rfl rfl ?_
      refine Gq_s (pc' := 46) rfl rfl rfl ?_
      refine Gq_s (pc' := 47) rfl rfl rfl ?_
      rcases Int.lt_or_le (tr p) (cc p) with hlt | hlt
      · obtain ⟨q, hq, hOq⟩ := hcp.2.2 (tr p).toNat (by omega)
        have hnx := t_next_s (S := S) n z0 d0 d1 z1 hp12 htp ⟨hcp.1, hcp.2.1⟩ hlt
        rw [hq] at hnx
        have hVq := hOV p q hOq
        have hq119 := (hvs q hVq).1
        obtain ⟨hSP2, hall⟩ := SP_try (o := q) hSP hOq
        have hC2 : ChV V (fset ch p (some q)) := fun p2 o2 _ hx => hOV p2 o2 (hSP2.2.2.2.2.2 p2 o2 hx)
        refine Gq_callv1 (pc' := 50) (Y := xm113) (rest := [_, _]) (st' := [_, _, _]) (ce' := 0) (sl' := 0) rfl rfl rfl rfl rfl rfl rfl rfl rfl (hnx) rfl (by first | assumption | exact upd_eq _ _ _ | (refine (upd_ne _ _ (by omega)).trans ?_; first | assumption | exact upd_eq _ _ _ | (refine (upd_ne _ _ (by omega)).trans ?_; first | assumption | exact upd_eq _ _ _ | (refine (upd_ne _ _ (by omega)).trans ?_; first | assumption | exact upd_eq _ _ _)))) ?_
        refine Gq_aast (pc' := 51) (some q) rfl rfl (by first | assumption | exact upd_eq _ _ _ | (refine (upd_ne _ _ (by omega)).trans ?_; first | assumption | exact upd_eq _ _ _ | (refine (upd_ne _ _ (by omega)).trans ?_; first | assumption | exact upd_eq _ _ _ | (refine (upd_ne _ _ (by omega)).trans ?_; first | assumption | exact upd_eq _ _ _)))) (by exact rfl) (fun hz => nomatch hz) (rfl) (fun z hz => by cases hz; obtain ⟨vs, hv⟩ := VS_ok hvs hVq; exact ⟨vs, by rw [upd_ne _ _ (by omega)]; exact hv⟩) (rfl) (by omega) (by omega) ?_
        refine Gq_s (pc' := 52) rfl rfl rfl ?_
        refine Gq_get (pc' := 55) rfl rfl (by first | assumption | exact upd_eq _ _ _ | (refine (upd_ne _ _ (by omega)).trans ?_; first | assumption | exact upd_eq _ _ _ | (refine (upd_ne _ _ (by omega)).trans ?_; first | assumption | exact upd_eq _ _ _ | (refine (upd_ne _ _ (by omega)).trans ?_; first | assumption | exact upd_eq _ _ _)))) (by exact rfl) ?_
        refine Gq_get (pc' := 58) rfl rfl (by first | assumption | exact upd_eq _ _ _ | (refine (upd_ne _ _ (by omega)).trans ?_; first | assumption | exact upd_eq _ _ _ | (refine (upd_ne _ _ (by omega)).trans ?_; first | assumption | exact upd_eq _ _ _ | (refine (upd_ne _ _ (by omega)).trans ?_; first | assumption | exact upd_eq _ _ _)))) (by exact rfl) ?_
        refine Gq_s (pc' := 59) rfl rfl rfl ?_
        refine Gq_aald (pc' := 60) rfl rfl (by first | assumption | exact upd_eq _ _ _ | (refine (upd_ne _ _ (by omega)).trans ?_; first | assumption | exact upd_eq _ _ _ | (refine (upd_ne _ _ (by omega)).trans ?_; first | assumption | exact upd_eq _ _ _ | (refine (upd_ne _ _ (by omega)).trans ?_; first | assumption | exact upd_eq _ _ _)))) (by exact rfl) (rfl) (by omega) (by omega) (rv_s (fset_eq _ _ _)) ?_
        refine Gq_non_r rfl (t := 76) rfl ?_
        refine Gq_s (pc' := 77) rfl rfl rfl ?_
        refine Gq_s (pc' := 78) rfl rfl rfl ?_
        refine Gq_get (pc' := 81) rfl rfl (by first | assumption | exact upd_eq _ _ _ | (refine (upd_ne _ _ (by omega)).trans ?_; first | assumption | exact upd_eq _ _ _ | (refine (upd_ne _ _ (by omega)).trans ?_; first | assumption | exact upd_eq _ _ _ | (refine (upd_ne _ _ (by omega)).trans ?_; first | assumption | exact upd_eq _ _ _)))) (by exact rfl) ?_
        refine Gq_s (pc' := 82) rfl rfl rfl ?_
        refine Gq_iadd (pc' := 83) rfl rfl ?_
        refine Gq_put (pc' := 86) (fs' := [_, _, _, _, _, _, _, _, _, _, _]) rfl rfl (by first | assumption | exact upd_eq _ _ _ | (refine (upd_ne _ _ (by omega)).trans ?_; first | assumption | exact upd_eq _ _ _ | (refine (upd_ne _ _ (by omega)).trans ?_; first | assumption | exact upd_eq _ _ _ | (refine (upd_ne _ _ (by omega)).trans ?_; first | assumption | exact upd_eq _ _ _)))) (by exact rfl) (by first | rfl | exact xfit_bI _) (by exact rfl) ?_
        refine Gq_s (pc' := 87) rfl rfl rfl ?_
        refine Gq_get (pc' := 90) rfl rfl (by first | assumption | exact upd_eq _ _ _ | (refine (upd_ne _ _ (by omega)).trans ?_; first | assumption | exact upd_eq _ _ _ | (refine (upd_ne _ _ (by omega)).trans ?_; first | assumption | exact upd_eq _ _ _ | (refine (upd_ne _ _ (by omega)).trans ?_; first | assumption | exact upd_eq _ _ _)))) (by exact rfl) ?_
        refine Gq_sipush (pc' := 93) rfl rfl (by decide) ?_
        refine Gq_cle (pc' := 96) (t := 99) rfl rfl rfl (by omega) (by omega) (fun h5 => ?_) (fun h5 => ?_)
        · have htr2 : trOK (fset tr p (tr p + 1)) := fun z hz9 => by
            by_cases e : z = p
            · subst e
              rw [fset_eq]
              omega
            · rw [fset_ne _ _ e]
              exact htr z hz9
          have fr0 : ∀ o, ¬ o = 96 → ¬ o = 100 → ¬ o = 104 → hup (hup (hup H 104 (true, 0, aI 12 (fset tr p (tr p + 1)))) 100 (true, 3, aR 12 (fset ch p (some q)))) 96 (false, 5, rzF (tc + 1) rl rs ((l0 ++ [p]).length : Int)) o = H o := fun o h1 h2 h3 => by rw [upd_ne _ _ h1, upd_ne _ _ h2, upd_ne _ _ h3]
          have g96 : hup (hup (hup H 104 (true, 0, aI 12 (fset tr p (tr p + 1)))) 100 (true, 3, aR 12 (fset ch p (some q)))) 96 (false, 5, rzF (tc + 1) rl rs ((l0 ++ [p]).length : Int)) 96 = some (false, 5, rzF (tc + 1) rl rs ((l0 ++ [p]).length : Int)) := upd_eq _ _ _
          have g100 : hup (hup (hup H 104 (true, 0, aI 12 (fset tr p (tr p + 1)))) 100 (true, 3, aR 12 (fset ch p (some q)))) 96 (false, 5, rzF (tc + 1) rl rs ((l0 ++ [p]).length : Int)) 100 = some (true, 3, aR 12 (fset ch p (some q))) := by rw [upd_ne _ _ (by omega)]; exact upd_eq _ _ _
          have g104 : hup (hup (hup H 104 (true, 0, aI 12 (fset tr p (tr p + 1)))) 100 (true, 3, aR 12 (fset ch p (some q)))) 96 (false, 5, rzF (tc + 1) rl rs ((l0 ++ [p]).length : Int)) 104 = some (true, 0, aI 12 (fset tr p (tr p + 1))) := by rw [upd_ne _ _ (by omega), upd_ne _ _ (by omega)]; exact upd_eq _ _ _
          show Gw S xm111 99 [(0, .ref 96), (1, .int (zI (mv : Int))), (2, .int (zI (p : Int)))] [] (hup (hup (hup H 104 (true, 0, aI 12 (fset tr p (tr p + 1)))) 100 (true, 3, aR 12 (fset ch p (some q)))) 96 (false, 5, rzF (tc + 1) rl rs ((l0 ++ [p]).length : Int))) n 0 0 _
          generalize hup (hup (hup H 104 (true, 0, aI 12 (fset tr p (tr p + 1)))) 100 (true, 3, aR 12 (fset ch p (some q)))) 96 (false, 5, rzF (tc + 1) rl rs ((l0 ++ [p]).length : Int)) = H1 at fr0 g96 g100 g104
          have hh1 : Hi H H1 := fun o ho9 => fr0 o (by omega) (by omega) (by omega)
          have hvs1 := VS_hi hh1 hvs
          have hW1 := WiAt_hi hh1 (fr0 97 (by omega) (by omega) (by omega)) (fr0 98 (by omega) (by omega) (by omega)) hW
          have hz1 : RzP H1 (tc + 1) (l0 ++ [p]) (fset tr p (tr p + 1)) := ⟨rl, rs, row, lev, g96, g104, (fr0 105 (by omega) (by omega) (by omega)).trans z2, (fr0 106 (by omega) (by omega) (by omega)).trans z3, z4⟩
          have c0' := (fr0 99 (by omega) (by omega) (by omega)).trans c0
          have c2' := (fr0 101 (by omega) (by omega) (by omega)).trans c2
          have hN2 := NOK_of hvs hC2
          have hw := WiAt_ok hW
          refine t_try hvs1 hC2 ho hW1 hz1 hL htr2 c0' g100 c2' (fun G lv2 tr2 fr2 hz2 ht2 g101 hcase => ?_) (fun G tr2 fr2 hz2 ht2 g101 hm hcl => ?_)
          rotate_left
          · exact ⟨rfl, fun o h1 h2 h3 h4 h5 h6 => (fr2 o h1 h3 h4 h5 h6).trans (fr0 o h1 h2 h4), 0, rfl, by omega, _, _, tr2, _, _, by omega, hz2, hL, ht2, (fr2 100 (by omega) (by omega) (by omega) (by omega) (by omega)).trans g100, g101, onF_16 hN2 hw, hSP2.2.2.2.2.2, fun _ => SP_found hSP2 hall hw hN2 hm hcl⟩
          have hSP3 : SP vr Own aw Dom lv2 (fset ch p (some q)) := by
            rcases hcase with rfl | ⟨p2, hp2, hl2, rfl, hx2, hr2⟩
            · exact hSP2
            · exact SP_push hSP2 hall hp2 (hr2 Dom hDa (fun z o c hz9 ho9 hc9 _ => hDv o (hOV z o (hSP2.2.2.2.2.2 z o ho9)) c hc9)) hx2 hr2
          refine Gq_iinc (pc' := 137) (lv' := [(0, _), (1, _), (2, _)]) rfl rfl rfl rfl ?_
          refine Gq_goto rfl (t := 11) rfl ?_
          have hh2 : Hi H1 G := fun o ho9 => fr2 o (by omega) (by omega) (by omega) (by omega) (by omega)
          refine Gq_mq (ih (mv + 1) G lv2 tr2 _ _ (tc + 1) _ (by omega) (.inr ⟨_, rfl⟩) (VS_hi hh2 hvs1) (onF_16 hN2 hw) (WiAt_hi hh2 (fr2 97 (by omega) (by omega) (by omega) (by omega) (by omega)) (fr2 98 (by omega) (by omega) (by omega) (by omega) (by omega)) hW1) hz2 ht2 ((fr2 99 (by omega) (by omega) (by omega) (by omega) (by omega)).trans c0') ((fr2 100 (by omega) (by omega) (by omega) (by omega) (by omega)).trans g100) g101 ((fr2 102 (by omega) (by omega) (by omega) (by omega) (by omega)).trans ((fr0 102 (by omega) (by omega) (by omega)).trans d0)) ((fr2 103 (by omega) (by omega) (by omega) (by omega) (by omega)).trans ((fr0 103 (by omega) (by omega) (by omega)).trans d1)) (by omega) hSP3) ?_
          rintro v K m ⟨e1, e2, e3⟩
          exact ⟨e1, fun o h1 h2 h3 h4 h5 h6 => (e2 o h1 h2 h3 h4 h5 h6).trans ((fr2 o h1 h3 h4 h5 h6).trans (fr0 o h1 h2 h4)), e3⟩
        · refine Gq_bipush (pc' := 98) rfl rfl (by decide) ?_
          exact Gq_ret rfl rfl (rfl) (⟨rfl, fun o h1 h2 h3 h4 h5 h6 => by rw [upd_ne _ _ h1, upd_ne _ _ h2, upd_ne _ _ h4], -2, rfl, by omega, tc + 1, l0 ++ [p], fset tr p (tr p + 1), fset ch p (some q), on, by omega, ⟨rl, rs, row, lev, upd_eq _ _ _, by rw [upd_ne _ _ (by omega), upd_ne _ _ (by omega)]; exact upd_eq _ _ _, by rw [upd_ne _ _ (by omega), upd_ne _ _ (by omega), upd_ne _ _ (by omega)]; exact z2, by rw [upd_ne _ _ (by omega), upd_ne _ _ (by omega), upd_ne _ _ (by omega)]; exact z3, z4⟩, hL, fun z hz9 => by
              by_cases e : z = p
              · subst e
                rw [fset_eq]
                omega
              · rw [fset_ne _ _ e]
                exact htr z hz9, by rw [upd_ne _ _ (by omega)]; exact upd_eq _ _ _, by rw [upd_ne _ _ (by omega), upd_ne _ _ (by omega), upd_ne _ _ (by omega)]; exact c2, ho, hSP2.2.2.2.2.2, fun q => absurd q (by omega)⟩)
      · refine Gq_callv1 (pc' := 50) (Y := xm113) (rest := [_, _]) (st' := [_, _, _]) (ce' := 0) (sl' := 0) rfl rfl rfl rfl rfl rfl rfl rfl rfl (t_next_n n z0 d0 d1 z1 hp12 htp ⟨hcp.1, hcp.2.1⟩ hlt) rfl (by first | assumption | exact upd_eq _ _ _ | (refine (upd_ne _ _ (by omega)).trans ?_; first | assumption | exact upd_eq _ _ _ | (refine (upd_ne _ _ (by omega)).trans ?_; first | assumption | exact upd_eq _ _ _ | (refine (upd_ne _ _ (by omega)).trans ?_; first | assumption | exact upd_eq _ _ _)))) ?_
        refine Gq_aast (pc' := 51) (none) rfl rfl (by first | assumption | exact upd_eq _ _ _ | (refine (upd_ne _ _ (by omega)).trans ?_; first | assumption | exact upd_eq _ _ _ | (refine (upd_ne _ _ (by omega)).trans ?_; first | assumption | exact upd_eq _ _ _ | (refine (upd_ne _ _ (by omega)).trans ?_; first | assumption | exact upd_eq _ _ _)))) (by exact rfl) (fun _ => rfl) (rfl) (fun _ hz => nomatch hz) (rfl) (by omega) (by omega) ?_
        refine Gq_s (pc' := 52) rfl rfl rfl ?_
        refine Gq_get (pc' := 55) rfl rfl (by first | assumption | exact upd_eq _ _ _ | (refine (upd_ne _ _ (by omega)).trans ?_; first | assumption | exact upd_eq _ _ _ | (refine (upd_ne _ _ (by omega)).trans ?_; first | assumption | exact upd_eq _ _ _ | (refine (upd_ne _ _ (by omega)).trans ?_; first | assumption | exact upd_eq _ _ _)))) (by exact rfl) ?_
        refine Gq_get (pc' := 58) rfl rfl (by first | assumption | exact upd_eq _ _ _ | (refine (upd_ne _ _ (by omega)).trans ?_; first | assumption | exact upd_eq _ _ _ | (refine (upd_ne _ _ (by omega)).trans ?_; first | assumption | exact upd_eq _ _ _ | (refine (upd_ne _ _ (by omega)).trans ?_; first | assumption | exact upd_eq _ _ _)))) (by exact rfl) ?_
        refine Gq_s (pc' := 59) rfl rfl rfl ?_
        refine Gq_aald (pc' := 60) rfl rfl (by first | assumption | exact upd_eq _ _ _ | (refine (upd_ne _ _ (by omega)).trans ?_; first | assumption | exact upd_eq _ _ _ | (refine (upd_ne _ _ (by omega)).trans ?_; first | assumption | exact upd_eq _ _ _ | (refine (upd_ne _ _ (by omega)).trans ?_; first | assumption | exact upd_eq _ _ _)))) (by exact rfl) (rfl) (by omega) (by omega) (rv_n (fset_eq _ _ _)) ?_
        refine Gq_non_n (pc' := 63) (t := 76) rfl rfl rfl ?_
        refine Gq_s (pc' := 64) rfl rfl rfl ?_
        refine Gq_s (pc' := 65) rfl rfl rfl ?_
        refine Gq_get (pc' := 68) rfl rfl (by first | assumption | exact upd_eq _ _ _ | (refine (upd_ne _ _ (by omega)).trans ?_; first | assumption | exact upd_eq _ _ _ | (refine (upd_ne _ _ (by omega)).trans ?_; first | assumption | exact upd_eq _ _ _ | (refine (upd_ne _ _ (by omega)).trans ?_; first | assumption | exact upd_eq _ _ _)))) (by exact rfl) ?_
        refine Gq_s (pc' := 69) rfl rfl rfl ?_
        refine Gq_isub (pc' := 70) rfl rfl ?_
        refine Gq_put (pc' := 73) (fs' := [_, _, _, _, _, _, _, _, _, _, _]) rfl rfl (by first | assumption | exact upd_eq _ _ _ | (refine (upd_ne _ _ (by omega)).trans ?_; first | assumption | exact upd_eq _ _ _ | (refine (upd_ne _ _ (by omega)).trans ?_; first | assumption | exact upd_eq _ _ _ | (refine (upd_ne _ _ (by omega)).trans ?_; first | assumption | exact upd_eq _ _ _)))) (by exact rfl) (by first | rfl | exact xfit_bI _) (by exact rfl) ?_
        refine Gq_goto rfl (t := 134) rfl ?_
        refine Gq_iinc (pc' := 137) (lv' := [(0, _), (1, _), (2, _)]) rfl rfl rfl rfl ?_
        refine Gq_goto rfl (t := 11) rfl ?_
        have hz1 : RzP (hup (hup H 100 (true, 3, aR 12 (fset ch p none))) 96 (false, 5, rzF tc rl rs (((l0 ++ [p]).length : Int) - 1))) tc l0 tr := ⟨rl, rs, row, lev, by rw [upd_eq, hls, show (((l0.length + 1 : Nat) : Int) - 1) = (l0.length : Int) by omega], by rw [upd_ne _ _ (by omega), upd_ne _ _ (by omega)]; exact z1, by rw [upd_ne _ _ (by omega), upd_ne _ _ (by omega)]; exact z2, by rw [upd_ne _ _ (by omega), upd_ne _ _ (by omega)]; exact z3, fun i q hq => z4 i q (by rw [List.getElem?_append_left (List.getElem?_eq_some_iff.mp hq).1]; exact hq)⟩
        refine Gq_mq (ih (mv + 1) _ l0 tr (fset ch p none) on tc _ (by omega) (.inr ⟨_, rfl⟩) (VS_upd (by omega) (VS_upd (by omega) hvs)) ho (WiAt_upd (by omega) (by omega) (by omega) (WiAt_upd (by omega) (by omega) (by omega) hW)) hz1 htr (by rw [upd_ne _ _ (by omega), upd_ne _ _ (by omega)]; exact c0) (by rw [upd_ne _ _ (by omega)]; exact upd_eq _ _ _) (by rw [upd_ne _ _ (by omega), upd_ne _ _ (by omega)]; exact c2) (by rw [upd_ne _ _ (by omega), upd_ne _ _ (by omega)]; exact d0) (by rw [upd_ne _ _ (by omega), upd_ne _ _ (by omega)]; exact d1) htc (SP_pop hSP)) ?_
        rintro v K m ⟨e1, e2, e3⟩
        exact ⟨e1, fun o h1 h2 h3 h4 h5 h6 => by rw [e2 o h1 h2 h3 h4 h5 h6, upd_ne _ _ h1, upd_ne _ _ h2], e3⟩
theorem t_srch {S : ScT} {H : HF} (n : Nat) {vr : Nat → VR} {V : Nat → Prop} {Own : Nat → Nat → Prop} {aw : List CR} {Dom : Nat → Prop} {cand : Nat → Option Nat} {cc : Nat → Int} (hOV : ∀ p o, Own p o → V o) (hcd : CdOK Own cand cc) (hDa : ∀ c ∈ aw, Dom (cT c)) (hDv : ∀ o, V o → ∀ c ∈ vQ (vr o), Dom (cT c)) {tr : Nat → Int} {on : Nat → Nat} (hvs : VsA H vr V) (ho : o16 on) (hW : WiAt H 97 aw) (hz : RzP H 0 [] tr) (htr : trOK tr) (c0 : H 99 = some (false, 2, [.ref 100, .ref 101])) (c1 : H 100 = some (true, 3, aR 12 (fun _ => none))) (c2 : H 101 = some (true, 0, aNt 12 on)) (d0 : H 102 = some (true, 3, aR 96 cand)) (d1 : H 103 = some (true, 0, aI 12 cc)) : Rmt S 111 [.ref 96] H n (fun v G m => m = n ∧ (∀ o, ¬ o = 96 → ¬ o = 100 → ¬ o = 101 → ¬ o = 104 → ¬ o = 105 → ¬ o = 106 → G o = H o) ∧ ∃ r : Int, v = some (.int (zI r)) ∧ (-2 ≤ r ∧ r ≤ 0) ∧ ∃ tc2 lv2 tr2 ch2 on2, (0 ≤ tc2 ∧ tc2 ≤ 5001) ∧ RzP G tc2 lv2 tr2 ∧ lv2.length ≤ 12 ∧ trOK tr2 ∧ G 100 = some (true, 3, aR 12 ch2) ∧ G 101 = some (true, 0, aNt 12 on2) ∧ o16 on2 ∧ (∀ q o, ch2 q = some o → Own q o) ∧ (r = 0 → Found vr Own aw ch2)) := by
  refine Rm_of (M := xm111) (lv := [(0, _)]) rfl rfl rfl ?_
  have hC : ChV V (fun _ => none) := fun _ _ _ h => nomatch h
  have hw := WiAt_ok hW
  have hz0 := hz
  obtain ⟨rl, rs, row, lev, z0, -⟩ := hz0
  refine Gq_s (pc' := 1) rfl rfl rfl ?_
  refine Gq_callv (pc' := 4) (Y := xm114) (rest := []) (ce' := 0) (sl' := 0) rfl rfl rfl rfl rfl rfl rfl rfl rfl (t_open n hvs hC ho hW hz (by decide) c0 c1 c2) (by first | assumption | exact upd_eq _ _ _ | (refine (upd_ne _ _ (by omega)).trans ?_; first | assumption | exact upd_eq _ _ _ | (refine (upd_ne _ _ (by omega)).trans ?_; first | assumption | exact upd_eq _ _ _ | (refine (upd_ne _ _ (by omega)).trans ?_; first | assumption | exact upd_eq _ _ _)))) (fun v' H' n' hv => ?_)
  obtain ⟨rfl, fr2, hv⟩ := hv
  rcases hv with ⟨rfl, hz2, hcl⟩ | ⟨p2, rfl, hp2, hx2, hr2, hl2, hz2⟩
  · refine Gq_zne (pc' := 7) (t := 9) rfl rfl rfl (by decide) (fun hq => absurd hq (fun q => q rfl)) (fun _ => ?_)
    refine Gq_s (pc' := 8) rfl rfl rfl ?_
    have hcl2 : Clsd vr (fun _ => none) on aw := by
      rcases hcl with h | h
      · exact h
      · exact absurd h (by decide)
    have haw : aw = [] := by
      cases aw with
      | nil => rfl
      | cons c t =>
        obtain ⟨o, ho9⟩ := hcl2 (cT c) (Rch_aw List.mem_cons_self)
        cases ho9
    subst haw
    exact Gq_ret rfl rfl (rfl) (⟨rfl, fun o h1 h2 h3 h4 h5 h6 => fr2 o h1 h4 h5 h6, 0, rfl, by omega, 0, [], tr, fun _ => none, on, by omega, hz2, by decide, htr, (fr2 100 (by omega) (by omega) (by omega) (by omega)).trans c1, (fr2 101 (by omega) (by omega) (by omega) (by omega)).trans c2, ho, (fun _ _ h => nomatch h), fun _ => ⟨rfl, fun p hp => (hp (fun _ => False) (fun c hc => (by cases hc)) (fun _ _ _ h _ _ _ => h)).elim, fun q hq => absurd rfl hq, (fun _ _ h => nomatch h)⟩⟩)
  · refine Gq_zne (pc' := 7) (t := 9) rfl rfl rfl (by decide) (fun _ => ?_) (fun hq => absurd (by decide) hq)
    refine Gq_s (pc' := 10) rfl rfl rfl ?_
    refine Gq_s (pc' := 11) (lv' := [(0, _), (1, _)]) rfl rfl rfl ?_
    have hh2 : Hi H H' := fun o ho9 => fr2 o (by omega) (by omega) (by omega) (by omega)
    have hN : NOK vr (fun _ => none) := fun _ _ _ h => nomatch h
    have hSP : SP vr Own aw Dom ([] ++ [p2]) (fun _ => none) := SP_push (lv := []) ⟨List.nodup_nil, fun q hq => (by cases hq), fun q hq => absurd rfl hq, fun i q hq => (by cases hq), fun i q hq => (by cases hq), (by intro p o h; cases h)⟩ (fun q hq => (by cases hq)) hp2 (hr2 Dom hDa (fun _ _ _ _ h => (by cases h))) rfl (Rch_mono (by intro q o h; cases h) hr2)
    refine Gq_mq (t_srch_l (S := S) hOV hcd hDa hDv 10004 0 H' _ _ _ on 0 [] rfl (.inl rfl) (VS_hi hh2 hvs) ho (WiAt_hi hh2 (fr2 97 (by omega) (by omega) (by omega) (by omega)) (fr2 98 (by omega) (by omega) (by omega) (by omega)) hW) hz2 (fun q hq => ?_) ((fr2 99 (by omega) (by omega) (by omega) (by omega)).trans c0) ((fr2 100 (by omega) (by omega) (by omega) (by omega)).trans c1) ((fr2 101 (by omega) (by omega) (by omega) (by omega)).trans c2) ((fr2 102 (by omega) (by omega) (by omega) (by omega)).trans d0) ((fr2 103 (by omega) (by omega) (by omega) (by omega)).trans d1) (by omega) hSP) ?_
    · by_cases e : q = p2
      · subst e
        rw [fset_eq]
        omega
      · rw [fset_ne _ _ e]
        exact htr q hq
    rintro v K m ⟨e1, e2, e3⟩
    exact ⟨e1, fun o h1 h2 h3 h4 h5 h6 => (e2 o h1 h2 h3 h4 h5 h6).trans (fr2 o h1 h4 h5 h6), e3⟩
end XK9
