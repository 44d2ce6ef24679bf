/-! the resolver's steps (printed by wip/p46/gen28.py) -/
section XK8
def RzP (H : HF) (tc : Int) (lv : List Nat) (tr : Nat → Int) : Prop := ∃ rl rs row lev, H 96 = some (false, 5, rzF tc rl rs (lv.length : Int)) ∧ H 104 = some (true, 0, aI 12 tr) ∧ H 105 = some (true, 0, aI 12 row) ∧ H 106 = some (true, 0, aI 12 lev) ∧ RowIs lv lev
/-- candidates are versions of their package -/
def CdOK (Own : Nat → Nat → Prop) (cand : Nat → Option Nat) (cc : Nat → Int) : Prop := ∀ q, q < 12 → 0 ≤ cc q ∧ cc q ≤ 8 ∧ ∀ i : Nat, (i : Int) < cc q → ∃ o, cand (q * 8 + i) = some o ∧ Own q o
theorem RowIs_snoc {l : List Nat} {f : Nat → Int} {p : Nat} (h : RowIs l f) : RowIs (l ++ [p]) (fset f l.length (p : Int)) := by
  intro i q hq
  rcases get_snoc hq with hq | ⟨rfl, rfl⟩
  · have hi : i < l.length := (List.getElem?_eq_some_iff.mp hq).1
    rw [fset_ne _ _ (by omega)]
    exact h i q hq
  · exact fset_eq _ _ _
theorem t_open {S : ScT} {H : HF} (n : Nat) {tc : Int} {lv : List Nat} {tr : Nat → Int} {ch : Nat → Option Nat} {on : Nat → Nat} {vr : Nat → VR} {V : Nat → Prop} {aw : List CR} (hvs : VsA H vr V) (hC : ChV V ch) (ho : o16 on) (hW : WiAt H 97 aw) (hz : RzP H tc lv tr) (hL : lv.length ≤ 12) (c0 : H 99 = some (false, 2, [.ref 100, .ref 101])) (c1 : H 100 = some (true, 3, aR 12 ch)) (c2 : H 101 = some (true, 0, aNt 12 on)) : Rmt S 114 [.ref 96] H n (fun v G m => m = n ∧ (∀ o, ¬ o = 96 → ¬ o = 104 → ¬ o = 105 → ¬ o = 106 → G o = H o) ∧ ((v = some (.int (zI 0)) ∧ RzP G tc lv tr ∧ (Clsd vr ch on aw ∨ 12 ≤ lv.length)) ∨ ∃ p, v = some (.int (zI 1)) ∧ p < 12 ∧ ch p = none ∧ Rch vr ch on aw p ∧ lv.length < 12 ∧ RzP G tc (lv ++ [p]) (fset tr p 0))) := by
  refine Rm_of (M := xm114) (lv := [(0, _)]) rfl rfl rfl ?_
  obtain ⟨rl, rs, row, lev, z0, z1, z2, z3, z4⟩ := hz
  refine Gq_s (pc' := 1) rfl rfl rfl ?_
  refine Gq_callv (pc' := 4) (Y := xm115) (rest := []) (ce' := 0) (sl' := 0) rfl rfl rfl rfl rfl rfl rfl rfl rfl (t_fwv n hvs hC ho hW z0 z2 c0 c1 c2) (by first | assumption | exact upd_eq _ _ _ | (refine (upd_ne _ _ (by omega)).trans ?_; first | assumption | exact upd_eq _ _ _ | (refine (upd_ne _ _ (by omega)).trans ?_; first | assumption | exact upd_eq _ _ _ | (refine (upd_ne _ _ (by omega)).trans ?_; first | assumption | exact upd_eq _ _ _)))) (fun v' H' n' hv => ?_)
  obtain ⟨rfl, ⟨rw2, row2, hr2, hR2, rfl⟩, hv⟩ := hv
  have fr : ∀ o, ¬ o = 96 → ¬ o = 104 → ¬ o = 105 → ¬ o = 106 → hup (hup H 105 (true, 0, aI 12 row2)) 96 (false, 5, rzF tc (rw2.length : Int) (mkSet rw2 : Int) (lv.length : Int)) o = H o := fun o h1 h2 h3 h4 => by rw [upd_ne _ _ h1, upd_ne _ _ h3]
  have z9 : RzP (hup (hup H 105 (true, 0, aI 12 row2)) 96 (false, 5, rzF tc (rw2.length : Int) (mkSet rw2 : Int) (lv.length : Int))) tc lv tr := ⟨_, _, row2, lev, upd_eq _ _ _, by rw [upd_ne _ _ (by omega), upd_ne _ _ (by omega)]; exact z1, by rw [upd_ne _ _ (by omega)]; exact upd_eq _ _ _, by rw [upd_ne _ _ (by omega), upd_ne _ _ (by omega)]; exact z3, z4⟩
  rcases hv with ⟨rfl, hcl⟩ | ⟨p, rfl, hp, hx, hre⟩
  · refine Gq_s (pc' := 5) (lv' := [(0, _), (1, _)]) rfl rfl rfl ?_
    refine Gq_s (pc' := 6) rfl rfl rfl ?_
    refine Gq_s (pc' := 7) rfl rfl rfl ?_
    refine Gq_ceq (pc' := 10) (t := 19) rfl rfl rfl (by decide) (by decide) (fun _ => ?_) (fun hq => absurd (rfl) hq)
    refine Gq_s (pc' := 20) rfl rfl rfl ?_
    exact Gq_ret rfl rfl (rfl) (⟨rfl, fr, .inl ⟨rfl, z9, .inl hcl⟩⟩)
  · refine Gq_s (pc' := 5) (lv' := [(0, _), (1, _)]) rfl rfl rfl ?_
    refine Gq_s (pc' := 6) rfl rfl rfl ?_
    refine Gq_s (pc' := 7) rfl rfl rfl ?_
    refine Gq_ceq (pc' := 10) (t := 19) rfl rfl rfl (by omega) (by omega) (fun hq => absurd hq (by omega)) (fun _ => ?_)
    refine Gq_s (pc' := 11) rfl rfl rfl ?_
    refine Gq_get (pc' := 14) rfl rfl (by first | assumption | exact upd_eq _ _ _ | (refine (upd_ne _ _ (by omega)).trans ?_; first | assumption | exact upd_eq _ _ _ | (refine (upd_ne _ _ (by omega)).trans ?_; first | assumption | exact upd_eq _ _ _ | (refine (upd_ne _ _ (by omega)).trans ?_; first | assumption | exact upd_eq _ _ _)))) (by exact rfl) ?_
    refine Gq_bipush (pc' := 16) rfl rfl (by decide) ?_
    refine Gq_clt (pc' := 19) (t := 21) rfl rfl rfl (by omega) (by omega) (fun hl => ?_) (fun hl => ?_)
    · refine Gq_s (pc' := 22) rfl rfl rfl ?_
      refine Gq_get (pc' := 25) rfl rfl (by first | assumption | exact upd_eq _ _ _ | (refine (upd_ne _ _ (by omega)).trans ?_; first | assumption | exact upd_eq _ _ _ | (refine (upd_ne _ _ (by omega)).trans ?_; first | assumption | exact upd_eq _ _ _ | (refine (upd_ne _ _ (by omega)).trans ?_; first | assumption | exact upd_eq _ _ _)))) (by exact rfl) ?_
      refine Gq_s (pc' := 26) rfl rfl rfl ?_
      refine Gq_s (pc' := 27) rfl rfl rfl ?_
      refine Gq_iast (pc' := 28) rfl rfl (by first | assumption | exact upd_eq _ _ _ | (refine (upd_ne _ _ (by omega)).trans ?_; first | assumption | exact upd_eq _ _ _ | (refine (upd_ne _ _ (by omega)).trans ?_; first | assumption | exact upd_eq _ _ _ | (refine (upd_ne _ _ (by omega)).trans ?_; first | assumption | exact upd_eq _ _ _)))) (rfl) (by omega) (by omega) ?_
      refine Gq_s (pc' := 29) rfl rfl rfl ?_
      refine Gq_get (pc' := 32) rfl rfl (by first | assumption | exact upd_eq _ _ _ | (refine (upd_ne _ _ (by omega)).trans ?_; first | assumption | exact upd_eq _ _ _ | (refine (upd_ne _ _ (by omega)).trans ?_; first | assumption | exact upd_eq _ _ _ | (refine (upd_ne _ _ (by omega)).trans ?_; first | assumption | exact upd_eq _ _ _)))) (by exact rfl) ?_
      refine Gq_s (pc' := 33) rfl rfl rfl ?_
      refine Gq_get (pc' := 36) rfl rfl (by first | assumption | exact upd_eq _ _ _ | (refine (upd_ne _ _ (by omega)).trans ?_; first | assumption | exact upd_eq _ _ _ | (refine (upd_ne _ _ (by omega)).trans ?_; first | assumption | exact upd_eq _ _ _ | (refine (upd_ne _ _ (by omega)).trans ?_; first | assumption | exact upd_eq _ _ _)))) (by exact rfl) ?_
      refine Gq_s (pc' := 37) rfl rfl rfl ?_
      refine Gq_iast (pc' := 38) rfl rfl (by first | assumption | exact upd_eq _ _ _ | (refine (upd_ne _ _ (by omega)).trans ?_; first | assumption | exact upd_eq _ _ _ | (refine (upd_ne _ _ (by omega)).trans ?_; first | assumption | exact upd_eq _ _ _ | (refine (upd_ne _ _ (by omega)).trans ?_; first | assumption | exact upd_eq _ _ _)))) (rfl) (by omega) (by omega) ?_
      refine Gq_s (pc' := 39) rfl rfl rfl ?_
      refine Gq_s (pc' := 40) rfl rfl rfl ?_
      refine Gq_get (pc' := 43) rfl rfl (by first | assumption | exact upd_eq _ _ _ | (refine (upd_ne _ _ (by omega)).trans ?_; first | assumption | exact upd_eq _ _ _ | (refine (upd_ne _ _ (by omega)).trans ?_; first | assumption | exact upd_eq _ _ _ | (refine (upd_ne _ _ (by omega)).trans ?_; first | assumption | exact upd_eq _ _ _)))) (by exact rfl) ?_
      refine Gq_s (pc' := 44) rfl rfl rfl ?_
      refine Gq_iadd (pc' := 45) rfl rfl ?_
      refine Gq_put (pc' := 48) (fs' := [_, _, _, _, _, _, _, _, _, _, _]) rfl rfl (by first | assumption | exact upd_eq _ _ _ | (refine (upd_ne _ _ (by omega)).trans ?_; first | assumption | exact upd_eq _ _ _ | (refine (upd_ne _ _ (by omega)).trans ?_; first | assumption | exact upd_eq _ _ _ | (refine (upd_ne _ _ (by omega)).trans ?_; first | assumption | exact upd_eq _ _ _)))) (by exact rfl) (by first | rfl | exact xfit_bI _) (by exact rfl) ?_
      refine Gq_s (pc' := 49) rfl rfl rfl ?_
      refine Gq_ret rfl rfl rfl ⟨rfl, fun o h1 h2 h3 h4 => by rw [upd_ne _ _ h1, upd_ne _ _ h4, upd_ne _ _ h2]; exact fr o h1 h2 h3 h4, .inr ⟨p, rfl, hp, hx, hre, by omega, (rw2.length : Int), (mkSet rw2 : Int), row2, fset lev lv.length (p : Int), ?_, ?_, ?_, ?_, RowIs_snoc z4⟩⟩
      · rw [upd_eq, List.length_append]; rfl
      · rw [upd_ne _ _ (by omega), upd_ne _ _ (by omega)]; exact upd_eq _ _ _
      · rw [upd_ne _ _ (by omega), upd_ne _ _ (by omega), upd_ne _ _ (by omega), upd_ne _ _ (by omega)]; exact upd_eq _ _ _
      · rw [upd_ne _ _ (by omega)]; exact upd_eq _ _ _
    · refine Gq_s (pc' := 20) rfl rfl rfl ?_
      exact Gq_ret rfl rfl (rfl) (⟨rfl, fr, .inl ⟨rfl, z9, .inr (by omega)⟩⟩)
theorem t_next_n {S : ScT} {H : HF} (n : Nat) {p : Nat} {tc rl rs lc : Int} {cand : Nat → Option Nat} {cc tr : Nat → Int} (z0 : H 96 = some (false, 5, rzF tc rl rs lc)) (h2 : H 102 = some (true, 3, aR 96 cand)) (h3 : H 103 = some (true, 0, aI 12 cc)) (h4 : H 104 = some (true, 0, aI 12 tr)) (hp : p < 12) (ht : 0 ≤ tr p ∧ tr p ≤ 8) (hc : 0 ≤ cc p ∧ cc p ≤ 8) (hlt : cc p ≤ tr p) : Rdt S 113 [.ref 96, .int (zI (p : Int))] H n (some .null) H n := by
  refine Rm_of (M := xm113) (lv := [(0, _), (1, _)]) rfl rfl rfl ?_
  refine Gq_s (pc' := 1) rfl rfl rfl ?_
  refine Gq_get (pc' := 4) rfl rfl (by first | assumption | exact upd_eq _ _ _ | (refine (upd_ne _ _ (by omega)).trans ?_; first | assumption | exact upd_eq _ _ _ | (refine (upd_ne _ _ (by omega)).trans ?_; first | assumption | exact upd_eq _ _ _ | (refine (upd_ne _ _ (by omega)).trans ?_; first | assumption | exact upd_eq _ _ _)))) (by exact rfl) ?_
  refine Gq_s (pc' := 5) rfl rfl rfl ?_
  refine Gq_iald (pc' := 6) rfl rfl (by first | assumption | exact upd_eq _ _ _ | (refine (upd_ne _ _ (by omega)).trans ?_; first | assumption | exact upd_eq _ _ _ | (refine (upd_ne _ _ (by omega)).trans ?_; first | assumption | exact upd_eq _ _ _ | (refine (upd_ne _ _ (by omega)).trans ?_; first | assumption | exact upd_eq _ _ _)))) (rfl) (by omega) (by omega) ?_
  refine Gq_s (pc' := 7) rfl rfl rfl ?_
  refine Gq_get (pc' := 10) rfl rfl (by first | assumption | exact upd_eq _ _ _ | (refine (upd_ne _ _ (by omega)).trans ?_; first | assumption | exact upd_eq _ _ _ | (refine (upd_ne _ _ (by omega)).trans ?_; first | assumption | exact upd_eq _ _ _ | (refine (upd_ne _ _ (by omega)).trans ?_; first | assumption | exact upd_eq _ _ _)))) (by exact rfl) ?_
  refine Gq_s (pc' := 11) rfl rfl rfl ?_
  refine Gq_iald (pc' := 12) rfl rfl (by first | assumption | exact upd_eq _ _ _ | (refine (upd_ne _ _ (by omega)).trans ?_; first | assumption | exact upd_eq _ _ _ | (refine (upd_ne _ _ (by omega)).trans ?_; first | assumption | exact upd_eq _ _ _ | (refine (upd_ne _ _ (by omega)).trans ?_; first | assumption | exact upd_eq _ _ _)))) (rfl) (by omega) (by omega) ?_
  refine Gq_clt (pc' := 15) (t := 17) rfl rfl rfl (by omega) (by omega) (fun hq => absurd hq (by omega)) (fun _ => ?_)
  refine Gq_s (pc' := 16) rfl rfl rfl ?_
  exact Gq_ret rfl rfl (rfl) (⟨rfl, rfl, rfl⟩)
theorem t_next_s {S : ScT} {H : HF} (n : Nat) {p : Nat} {tc rl rs lc : Int} {cand : Nat → Option Nat} {cc tr : Nat → Int} (z0 : H 96 = some (false, 5, rzF tc rl rs lc)) (h2 : H 102 = some (true, 3, aR 96 cand)) (h3 : H 103 = some (true, 0, aI 12 cc)) (h4 : H 104 = some (true, 0, aI 12 tr)) (hp : p < 12) (ht : 0 ≤ tr p ∧ tr p ≤ 8) (hc : 0 ≤ cc p ∧ cc p ≤ 8) (hlt : tr p < cc p) : Rdt S 113 [.ref 96, .int (zI (p : Int))] H n (some (rvl (cand (p * 8 + (tr p).toNat)))) (hup H 104 (true, 0, aI 12 (fset tr p (tr p + 1)))) n := by
  refine Rm_of (M := xm113) (lv := [(0, _), (1, _)]) rfl rfl rfl ?_
  refine Gq_s (pc' := 1) rfl rfl rfl ?_
  refine Gq_get (pc' := 4) rfl rfl (by first | assumption | exact upd_eq _ _ _ | (refine (upd_ne _ _ (by omega)).trans ?_; first | assumption | exact upd_eq _ _ _ | (refine (upd_ne _ _ (by omega)).trans ?_; first | assumption | exact upd_eq _ _ _ | (refine (upd_ne _ _ (by omega)).trans ?_; first | assumption | exact upd_eq _ _ _)))) (by exact rfl) ?_
  refine Gq_s (pc' := 5) rfl rfl rfl ?_
  refine Gq_iald (pc' := 6) rfl rfl (by first | assumption | exact upd_eq _ _ _ | (refine (upd_ne _ _ (by omega)).trans ?_; first | assumption | exact upd_eq _ _ _ | (refine (upd_ne _ _ (by omega)).trans ?_; first | assumption | exact upd_eq _ _ _ | (refine (upd_ne _ _ (by omega)).trans ?_; first | assumption | exact upd_eq _ _ _)))) (rfl) (by omega) (by omega) ?_
  refine Gq_s (pc' := 7) rfl rfl rfl ?_
  refine Gq_get (pc' := 10) rfl rfl (by first | assumption | exact upd_eq _ _ _ | (refine (upd_ne _ _ (by omega)).trans ?_; first | assumption | exact upd_eq _ _ _ | (refine (upd_ne _ _ (by omega)).trans ?_; first | assumption | exact upd_eq _ _ _ | (refine (upd_ne _ _ (by omega)).trans ?_; first | assumption | exact upd_eq _ _ _)))) (by exact rfl) ?_
  refine Gq_s (pc' := 11) rfl rfl rfl ?_
  refine Gq_iald (pc' := 12) rfl rfl (by first | assumption | exact upd_eq _ _ _ | (refine (upd_ne _ _ (by omega)).trans ?_; first | assumption | exact upd_eq _ _ _ | (refine (upd_ne _ _ (by omega)).trans ?_; first | assumption | exact upd_eq _ _ _ | (refine (upd_ne _ _ (by omega)).trans ?_; first | assumption | exact upd_eq _ _ _)))) (rfl) (by omega) (by omega) ?_
  refine Gq_clt (pc' := 15) (t := 17) rfl rfl rfl (by omega) (by omega) (fun _ => ?_) (fun hq => absurd (by omega) hq)
  refine Gq_s (pc' := 18) rfl rfl rfl ?_
  refine Gq_get (pc' := 21) rfl rfl (by first | assumption | exact upd_eq _ _ _ | (refine (upd_ne _ _ (by omega)).trans ?_; first | assumption | exact upd_eq _ _ _ | (refine (upd_ne _ _ (by omega)).trans ?_; first | assumption | exact upd_eq _ _ _ | (refine (upd_ne _ _ (by omega)).trans ?_; first | assumption | exact upd_eq _ _ _)))) (by exact rfl) ?_
  refine Gq_s (pc' := 22) rfl rfl rfl ?_
  refine Gq_s (pc' := 23) rfl rfl rfl ?_
  refine Gq_iald (pc' := 24) rfl rfl (by first | assumption | exact upd_eq _ _ _ | (refine (upd_ne _ _ (by omega)).trans ?_; first | assumption | exact upd_eq _ _ _ | (refine (upd_ne _ _ (by omega)).trans ?_; first | assumption | exact upd_eq _ _ _ | (refine (upd_ne _ _ (by omega)).trans ?_; first | assumption | exact upd_eq _ _ _)))) (rfl) (by omega) (by omega) ?_
  refine Gq_s (pc' := 25) rfl rfl rfl ?_
  refine Gq_iadd (pc' := 26) rfl rfl ?_
  refine Gq_iast (pc' := 27) rfl rfl (by first | assumption | exact upd_eq _ _ _ | (refine (upd_ne _ _ (by omega)).trans ?_; first | assumption | exact upd_eq _ _ _ | (refine (upd_ne _ _ (by omega)).trans ?_; first | assumption | exact upd_eq _ _ _ | (refine (upd_ne _ _ (by omega)).trans ?_; first | assumption | exact upd_eq _ _ _)))) (rfl) (by omega) (by omega) ?_
  refine Gq_s (pc' := 28) rfl rfl rfl ?_
  refine Gq_get (pc' := 31) rfl rfl (by first | assumption | exact upd_eq _ _ _ | (refine (upd_ne _ _ (by omega)).trans ?_; first | assumption | exact upd_eq _ _ _ | (refine (upd_ne _ _ (by omega)).trans ?_; first | assumption | exact upd_eq _ _ _ | (refine (upd_ne _ _ (by omega)).trans ?_; first | assumption | exact upd_eq _ _ _)))) (by exact rfl) ?_
  refine Gq_s (pc' := 32) rfl rfl rfl ?_
  refine Gq_bipush (pc' := 34) rfl rfl (by decide) ?_
  refine Gq_imul (pc' := 35) rfl rfl ?_
  refine Gq_s (pc' := 36) rfl rfl rfl ?_
  refine Gq_get (pc' := 39) rfl rfl (by first | assumption | exact upd_eq _ _ _ | (refine (upd_ne _ _ (by omega)).trans ?_; first | assumption | exact upd_eq _ _ _ | (refine (upd_ne _ _ (by omega)).trans ?_; first | assumption | exact upd_eq _ _ _ | (refine (upd_ne _ _ (by omega)).trans ?_; first | assumption | exact upd_eq _ _ _)))) (by exact rfl) ?_
  refine Gq_s (pc' := 40) rfl rfl rfl ?_
  refine Gq_iald (pc' := 41) rfl rfl (by first | assumption | exact upd_eq _ _ _ | (refine (upd_ne _ _ (by omega)).trans ?_; first | assumption | exact upd_eq _ _ _ | (refine (upd_ne _ _ (by omega)).trans ?_; first | assumption | exact upd_eq _ _ _ | (refine (upd_ne _ _ (by omega)).trans ?_; first | assumption | exact upd_eq _ _ _)))) (rfl) (by omega) (by omega) ?_
  rw [fset_eq]
  refine Gq_iadd (pc' := 42) rfl rfl ?_
  refine Gq_s (pc' := 43) rfl rfl rfl ?_
  refine Gq_isub (pc' := 44) rfl rfl ?_
  refine Gq_aald (pc' := 45) (j := p * 8 + (tr p).toNat) rfl rfl (by first | assumption | exact upd_eq _ _ _ | (refine (upd_ne _ _ (by omega)).trans ?_; first | assumption | exact upd_eq _ _ _ | (refine (upd_ne _ _ (by omega)).trans ?_; first | assumption | exact upd_eq _ _ _ | (refine (upd_ne _ _ (by omega)).trans ?_; first | assumption | exact upd_eq _ _ _)))) (by exact rfl) (by omega) (by omega) (by omega) (rfl) ?_
  exact Gq_ret rfl rfl (xret_o _ _) (⟨rfl, rfl, rfl⟩)
theorem t_addc {S : ScT} {H : HF} (n : Nat) {p q : Nat} {tc rl rs lc : Int} {cand : Nat → Option Nat} {cc : Nat → Int} {Own : Nat → Nat → Prop} (z0 : H 96 = some (false, 5, rzF tc rl rs lc)) (h2 : H 102 = some (true, 3, aR 96 cand)) (h3 : H 103 = some (true, 0, aI 12 cc)) (hp : p < 12) (hcd : CdOK Own cand cc) (hq : ∃ vs, H q = some (false, 10, vs)) (hO : Own p q) : Rmt S 112 [.ref 96, .int (zI (p : Int)), .ref q] H n (fun v G m => v = none ∧ m = n ∧ ∃ cand2 cc2, CdOK Own cand2 cc2 ∧ G = hup (hup H 102 (true, 3, aR 96 cand2)) 103 (true, 0, aI 12 cc2)) := by
  refine Rm_of (M := xm112) (lv := [(0, _), (1, _), (2, _)]) rfl rfl rfl ?_
  have hc := hcd p hp
  refine Gq_s (pc' := 1) rfl rfl rfl ?_
  refine Gq_get (pc' := 4) rfl rfl (by first | assumption | exact upd_eq _ _ _ | (refine (upd_ne _ _ (by omega)).trans ?_; first | assumption | exact upd_eq _ _ _ | (refine (upd_ne _ _ (by omega)).trans ?_; first | assumption | exact upd_eq _ _ _ | (refine (upd_ne _ _ (by omega)).trans ?_; first | assumption | exact upd_eq _ _ _)))) (by exact rfl) ?_
  refine Gq_s (pc' := 5) rfl rfl rfl ?_
  refine Gq_iald (pc' := 6) rfl rfl (by first | assumption | exact upd_eq _ _ _ | (refine (upd_ne _ _ (by omega)).trans ?_; first | assumption | exact upd_eq _ _ _ | (refine (upd_ne _ _ (by omega)).trans ?_; first | assumption | exact upd_eq _ _ _ | (refine (upd_ne _ _ (by omega)).trans ?_; first | assumption | exact upd_eq _ _ _)))) (rfl) (by omega) (by omega) ?_
  refine Gq_bipush (pc' := 8) rfl rfl (by decide) ?_
  refine Gq_cge (pc' := 11) (t := 38) rfl rfl rfl (by omega) (by omega) (fun hb => ?_) (fun hb => ?_)
  · exact Gq_ret rfl rfl (rfl) (⟨rfl, rfl, cand, cc, hcd, by rw [upd_self h2, upd_self h3]⟩)
  · refine Gq_s (pc' := 12) rfl rfl rfl ?_
    refine Gq_get (pc' := 15) rfl rfl (by first | assumption | exact upd_eq _ _ _ | (refine (upd_ne _ _ (by omega)).trans ?_; first | assumption | exact upd_eq _ _ _ | (refine (upd_ne _ _ (by omega)).trans ?_; first | assumption | exact upd_eq _ _ _ | (refine (upd_ne _ _ (by omega)).trans ?_; first | assumption | exact upd_eq _ _ _)))) (by exact rfl) ?_
    refine Gq_s (pc' := 16) rfl rfl rfl ?_
    refine Gq_bipush (pc' := 18) rfl rfl (by decide) ?_
    refine Gq_imul (pc' := 19) rfl rfl ?_
    refine Gq_s (pc' := 20) rfl rfl rfl ?_
    refine Gq_get (pc' := 23) rfl rfl (by first | assumption | exact upd_eq _ _ _ | (refine (upd_ne _ _ (by omega)).trans ?_; first | assumption | exact upd_eq _ _ _ | (refine (upd_ne _ _ (by omega)).trans ?_; first | assumption | exact upd_eq _ _ _ | (refine (upd_ne _ _ (by omega)).trans ?_; first | assumption | exact upd_eq _ _ _)))) (by exact rfl) ?_
    refine Gq_s (pc' := 24) rfl rfl rfl ?_
    refine Gq_iald (pc' := 25) rfl rfl (by first | assumption | exact upd_eq _ _ _ | (refine (upd_ne _ _ (by omega)).trans ?_; first | assumption | exact upd_eq _ _ _ | (refine (upd_ne _ _ (by omega)).trans ?_; first | assumption | exact upd_eq _ _ _ | (refine (upd_ne _ _ (by omega)).trans ?_; first | assumption | exact upd_eq _ _ _)))) (rfl) (by omega) (by omega) ?_
    refine Gq_iadd (pc' := 26) rfl rfl ?_
    refine Gq_s (pc' := 27) rfl rfl rfl ?_
    refine Gq_aast (pc' := 28) (j := p * 8 + (cc p).toNat) (some q) rfl rfl (by first | assumption | exact upd_eq _ _ _ | (refine (upd_ne _ _ (by omega)).trans ?_; first | assumption | exact upd_eq _ _ _ | (refine (upd_ne _ _ (by omega)).trans ?_; first | assumption | exact upd_eq _ _ _ | (refine (upd_ne _ _ (by omega)).trans ?_; first | assumption | exact upd_eq _ _ _)))) (by exact rfl) (fun hz => nomatch hz) (rfl) (fun z hz => by cases hz; exact hq) (by omega) (by omega) (by omega) ?_
    refine Gq_s (pc' := 29) rfl rfl rfl ?_
    refine Gq_get (pc' := 32) rfl rfl (by first | assumption | exact upd_eq _ _ _ | (refine (upd_ne _ _ (by omega)).trans ?_; first | assumption | exact upd_eq _ _ _ | (refine (upd_ne _ _ (by omega)).trans ?_; first | assumption | exact upd_eq _ _ _ | (refine (upd_ne _ _ (by omega)).trans ?_; first | assumption | exact upd_eq _ _ _)))) (by exact rfl) ?_
    refine Gq_s (pc' := 33) rfl rfl rfl ?_
    refine Gq_s (pc' := 34) rfl rfl rfl ?_
    refine Gq_iald (pc' := 35) rfl rfl (by first | assumption | exact upd_eq _ _ _ | (refine (upd_ne _ _ (by omega)).trans ?_; first | assumption | exact upd_eq _ _ _ | (refine (upd_ne _ _ (by omega)).trans ?_; first | assumption | exact upd_eq _ _ _ | (refine (upd_ne _ _ (by omega)).trans ?_; first | assumption | exact upd_eq _ _ _)))) (rfl) (by omega) (by omega) ?_
    refine Gq_s (pc' := 36) rfl rfl rfl ?_
    refine Gq_iadd (pc' := 37) rfl rfl ?_
    refine Gq_iast (pc' := 38) rfl rfl (by first | assumption | exact upd_eq _ _ _ | (refine (upd_ne _ _ (by omega)).trans ?_; first | assumption | exact upd_eq _ _ _ | (refine (upd_ne _ _ (by omega)).trans ?_; first | assumption | exact upd_eq _ _ _ | (refine (upd_ne _ _ (by omega)).trans ?_; first | assumption | exact upd_eq _ _ _)))) (rfl) (by omega) (by omega) ?_
    refine Gq_ret rfl rfl rfl ⟨rfl, rfl, _, _, ?_, rfl⟩
    intro q2 hq2
    by_cases e : q2 = p
    · subst e
      rw [fset_eq]
      refine ⟨by omega, by omega, fun i hi => ?_⟩
      by_cases e2 : (i : Int) = cc q2
      · exact ⟨q, by rw [show i = (cc q2).toNat by omega]; exact fset_eq _ _ _, hO⟩
      · obtain ⟨z, hz1, hz2⟩ := hc.2.2 i (by omega)
        exact ⟨z, by rw [fset_ne _ _ (by omega)]; exact hz1, hz2⟩
    · rw [fset_ne _ _ e]
      have h9 := hcd q2 hq2
      refine ⟨h9.1, h9.2.1, fun i hi => ?_⟩
      obtain ⟨z, hz1, hz2⟩ := h9.2.2 i hi
      exact ⟨z, by rw [fset_ne _ _ (by omega)]; exact hz1, hz2⟩
/-- a package's cells -/
def PkAt (H : HF) (k cnt : Nat) (vs gf : Nat → Option Nat) : Prop := 119 ≤ k ∧ cnt ≤ 8 ∧ H k = some (false, 3, [.ref (k + 1), .ref (k + 2), .int (zI (cnt : Int))]) ∧ H (k + 1) = some (true, 3, aR 8 vs) ∧ H (k + 2) = some (true, 3, aR 8 gf)
theorem PkAt_hi {H G : HF} (hh : Hi H G) {k cnt : Nat} {vs gf : Nat → Option Nat} (h : PkAt H k cnt vs gf) : PkAt G k cnt vs gf := by
  obtain ⟨h1, h2, h3, h4, h5⟩ := h
  exact ⟨h1, h2, by rw [hh _ h1]; exact h3, by rw [hh _ (by omega)]; exact h4, by rw [hh _ (by omega)]; exact h5⟩
theorem t_ranked {S : ScT} {H : HF} (n : Nat) {k cnt i : Nat} {vs gf : Nat → Option Nat} (hk : PkAt H k cnt vs gf) (hi : i < 100) : Rdt S 95 [.ref k, .int (zI (i : Int))] H n (some (rvl (if i < cnt then gf i else none))) H n := by
  refine Rm_of (M := xm95) (lv := [(0, _), (1, _)]) rfl rfl rfl ?_
  obtain ⟨hk9, hc8, h0, h1, h2⟩ := hk
  refine Gq_s (pc' := 1) rfl rfl rfl ?_
  refine Gq_zlt (pc' := 4) (t := 12) rfl rfl rfl (by omega) (fun hq => absurd hq (by omega)) (fun _ => ?_)
  refine Gq_s (pc' := 5) rfl rfl rfl ?_
  refine Gq_s (pc' := 6) rfl rfl rfl ?_
  refine Gq_get (pc' := 9) rfl rfl (by first | assumption | exact upd_eq _ _ _ | (refine (upd_ne _ _ (by omega)).trans ?_; first | assumption | exact upd_eq _ _ _ | (refine (upd_ne _ _ (by omega)).trans ?_; first | assumption | exact upd_eq _ _ _ | (refine (upd_ne _ _ (by omega)).trans ?_; first | assumption | exact upd_eq _ _ _)))) (by exact rfl) ?_
  refine Gq_clt (pc' := 12) (t := 16) rfl rfl rfl (by omega) (by omega) (fun hb => ?_) (fun hb => ?_)
  · refine Gq_s (pc' := 17) rfl rfl rfl ?_
    refine Gq_get (pc' := 20) rfl rfl (by first | assumption | exact upd_eq _ _ _ | (refine (upd_ne _ _ (by omega)).trans ?_; first | assumption | exact upd_eq _ _ _ | (refine (upd_ne _ _ (by omega)).trans ?_; first | assumption | exact upd_eq _ _ _ | (refine (upd_ne _ _ (by omega)).trans ?_; first | assumption | exact upd_eq _ _ _)))) (by exact rfl) ?_
    refine Gq_s (pc' := 21) rfl rfl rfl ?_
    refine Gq_aald (pc' := 22) rfl rfl (by first | assumption | exact upd_eq _ _ _ | (refine (upd_ne _ _ (by omega)).trans ?_; first | assumption | exact upd_eq _ _ _ | (refine (upd_ne _ _ (by omega)).trans ?_; first | assumption | exact upd_eq _ _ _ | (refine (upd_ne _ _ (by omega)).trans ?_; first | assumption | exact upd_eq _ _ _)))) (by exact rfl) (rfl) (by omega) (by omega) (rfl) ?_
    exact Gq_ret rfl rfl (xret_o _ _) (⟨by rw [if_pos (by omega)], rfl, rfl⟩)
  · refine Gq_s (pc' := 13) rfl rfl rfl ?_
    refine Gq_goto rfl (t := 22) rfl ?_
    exact Gq_ret rfl rfl (rfl) (⟨by rw [if_neg (by omega)]; rfl, rfl, rfl⟩)
theorem t_begin {S : ScT} {H : HF} (n : Nat) {wl : List CR} (x : Int32) {tc rl rs lc : Int} {z : Int32} {wc : Nat → Option Nat} {ch : Nat → Option Nat} (hW : WiAt H 88 wl) (z0 : H 96 = some (false, 5, rzF tc rl rs lc)) (h7 : H 97 = some (false, 6, [.ref 98, .int z])) (h8 : H 98 = some (true, 5, aR 6 wc)) (c0 : H 99 = some (false, 2, [.ref 100, .ref 101])) (c1 : H 100 = some (true, 3, aR 12 ch)) : Rmt S 109 [.ref 96, .ref 88, .int x] H n (fun v G m => v = none ∧ m = n ∧ WiAt G 97 (takeF x 0 wl) ∧ G 96 = some (false, 5, rzF 0 rl rs 0) ∧ G 100 = some (true, 3, aR 12 (fun _ => none)) ∧ ∀ o, ¬ o = 96 → ¬ o = 97 → ¬ o = 98 → ¬ o = 100 → G o = H o) := by
  refine Rm_of (M := xm109) (lv := [(0, _), (1, _), (2, _)]) rfl rfl rfl ?_
  refine Gq_s (pc' := 1) rfl rfl rfl ?_
  refine Gq_get (pc' := 4) rfl rfl (by first | assumption | exact upd_eq _ _ _ | (refine (upd_ne _ _ (by omega)).trans ?_; first | assumption | exact upd_eq _ _ _ | (refine (upd_ne _ _ (by omega)).trans ?_; first | assumption | exact upd_eq _ _ _ | (refine (upd_ne _ _ (by omega)).trans ?_; first | assumption | exact upd_eq _ _ _)))) (by exact rfl) ?_
  refine Gq_s (pc' := 5) rfl rfl rfl ?_
  refine Gq_s (pc' := 6) rfl rfl rfl ?_
  refine Gq_callv (pc' := 9) (Y := xm124) (rest := []) (ce' := 0) (sl' := 0) rfl rfl rfl rfl rfl rfl rfl rfl rfl (t_take n x (by omega) (by omega) hW ⟨z, h7⟩ h8) (by first | assumption | exact upd_eq _ _ _ | (refine (upd_ne _ _ (by omega)).trans ?_; first | assumption | exact upd_eq _ _ _ | (refine (upd_ne _ _ (by omega)).trans ?_; first | assumption | exact upd_eq _ _ _ | (refine (upd_ne _ _ (by omega)).trans ?_; first | assumption | exact upd_eq _ _ _)))) (fun v' H' n' hv => ?_)
  obtain ⟨rfl, rfl, e1, e2⟩ := hv
  have z0' := (e2 96 (by omega) (by omega)).trans z0
  have c0' := (e2 99 (by omega) (by omega)).trans c0
  have c1' := (e2 100 (by omega) (by omega)).trans c1
  refine Gq_s (pc' := 10) rfl rfl rfl ?_
  refine Gq_get (pc' := 13) rfl rfl (by first | assumption | exact upd_eq _ _ _ | (refine (upd_ne _ _ (by omega)).trans ?_; first | assumption | exact upd_eq _ _ _ | (refine (upd_ne _ _ (by omega)).trans ?_; first | assumption | exact upd_eq _ _ _ | (refine (upd_ne _ _ (by omega)).trans ?_; first | assumption | exact upd_eq _ _ _)))) (by exact rfl) ?_
  refine Gq_callv1 (pc' := 16) (Y := xm74) (rest := []) (st' := []) (ce' := 0) (sl' := 0) rfl rfl rfl rfl rfl rfl rfl rfl rfl (t_clear _ c0' c1') rfl (by first | assumption | exact upd_eq _ _ _ | (refine (upd_ne _ _ (by omega)).trans ?_; first | assumption | exact upd_eq _ _ _ | (refine (upd_ne _ _ (by omega)).trans ?_; first | assumption | exact upd_eq _ _ _ | (refine (upd_ne _ _ (by omega)).trans ?_; first | assumption | exact upd_eq _ _ _)))) ?_
  refine Gq_s (pc' := 17) rfl rfl rfl ?_
  refine Gq_s (pc' := 18) rfl rfl rfl ?_
  refine Gq_put (pc' := 21) (fs' := [_, _, _, _, _, _, _, _, _, _, _]) rfl rfl (by first | assumption | exact upd_eq _ _ _ | (refine (upd_ne _ _ (by omega)).trans ?_; first | assumption | exact upd_eq _ _ _ | (refine (upd_ne _ _ (by omega)).trans ?_; first | assumption | exact upd_eq _ _ _ | (refine (upd_ne _ _ (by omega)).trans ?_; first | assumption | exact upd_eq _ _ _)))) (by exact rfl) (by first | rfl | exact xfit_bI _) (by exact rfl) ?_
  refine Gq_s (pc' := 22) rfl rfl rfl ?_
  refine Gq_s (pc' := 23) rfl rfl rfl ?_
  refine Gq_put (pc' := 26) (fs' := [_, _, _, _, _, _, _, _, _, _, _]) rfl rfl (by first | assumption | exact upd_eq _ _ _ | (refine (upd_ne _ _ (by omega)).trans ?_; first | assumption | exact upd_eq _ _ _ | (refine (upd_ne _ _ (by omega)).trans ?_; first | assumption | exact upd_eq _ _ _ | (refine (upd_ne _ _ (by omega)).trans ?_; first | assumption | exact upd_eq _ _ _)))) (by exact rfl) (by first | rfl | exact xfit_bI _) (by exact rfl) ?_
  rw [upd_upd]
  refine Gq_ret rfl rfl rfl ⟨rfl, rfl, WiAt_upd (by omega) (by omega) (by omega) (WiAt_upd (by omega) (by omega) (by omega) e1), upd_eq _ _ _, by rw [upd_ne _ _ (by omega)]; exact upd_eq _ _ _, fun o h1 h2 h3 h4 => by rw [upd_ne _ _ h1, upd_ne _ _ h4]; exact e2 o h2 h3⟩
theorem t_list_n_l {S : ScT} {n : Nat} {p k cnt : Nat} {tc rl rs lc : Int} {vs gf : Nat → Option Nat} {Own : Nat → Nat → Prop} {vr : Nat → VR} {V : Nat → Prop} (hp : p < 12) (hOV : ∀ p o, Own p o → V o) (hgf : ∀ i, i < cnt → ∃ o, gf i = some o ∧ Own p o) : ∀ (q j : Nat) (H : HF) (cand : Nat → Option Nat) (cc : Nat → Int) (ex : XL), j + q = cnt → (ex = [] ∨ ∃ v, ex = [(5, v)]) → VsA H vr V → PkAt H k cnt vs gf → H 96 = some (false, 5, rzF tc rl rs lc) → H 102 = some (true, 3, aR 96 cand) → H 103 = some (true, 0, aI 12 cc) → CdOK Own cand cc → Gw S xm110 20 ((0, .ref 96) :: (1, .int (zI (p : Int))) :: (2, .ref k) :: (3, .null) :: (4, .int (zI (j : Int))) :: ex) [] H n 0 0 (MQe xm110 (fun v G m => v = none ∧ m = n ∧ (∀ o, ¬ o = 102 → ¬ o = 103 → G o = H o) ∧ ∃ cand2 cc2, CdOK Own cand2 cc2 ∧ G 102 = some (true, 3, aR 96 cand2) ∧ G 103 = some (true, 0, aI 12 cc2))) := by
  intro q
  induction q with
  | zero =>
    intro j H cand cc ex hj hex hvs hP z0 h2 h3 hcd
    obtain rfl : j = cnt := by omega
    obtain ⟨hk9, hc8, g0, g1, g2⟩ := id hP
    refine Gq_s (pc' := 22) rfl rfl rfl ?_
    refine Gq_s (pc' := 23) rfl rfl rfl ?_
    refine Gq_get (pc' := 26) rfl rfl (by first | assumption | exact upd_eq _ _ _ | (refine (upd_ne _ _ (by omega)).trans ?_; first | assumption | exact upd_eq _ _ _ | (refine (upd_ne _ _ (by omega)).trans ?_; first | assumption | exact upd_eq _ _ _ | (refine (upd_ne _ _ (by omega)).trans ?_; first | assumption | exact upd_eq _ _ _)))) (by exact rfl) ?_
    refine Gq_cge (pc' := 29) (t := 69) rfl rfl rfl (by omega) (by omega) (fun _ => ?_) (fun hq => absurd (by omega) hq)
    exact Gq_ret rfl rfl (rfl) (⟨rfl, rfl, fun _ _ _ => rfl, cand, cc, hcd, h2, h3⟩)
  | succ q ih =>
    intro j H cand cc ex hj hex hvs hP z0 h2 h3 hcd
    obtain ⟨hk9, hc8, g0, g1, g2⟩ := id hP
    obtain ⟨o, ho, hO⟩ := hgf j (by omega)
    have hv9 := hvs o (hOV _ _ hO)
    have hv8 := hv9
    obtain ⟨ho9, -, f, g, h5, -, -⟩ := hv8
    refine Gq_s (pc' := 22) rfl rfl rfl ?_
    refine Gq_s (pc' := 23) rfl rfl rfl ?_
    refine Gq_get (pc' := 26) rfl rfl (by first | assumption | exact upd_eq _ _ _ | (refine (upd_ne _ _ (by omega)).trans ?_; first | assumption | exact upd_eq _ _ _ | (refine (upd_ne _ _ (by omega)).trans ?_; first | assumption | exact upd_eq _ _ _ | (refine (upd_ne _ _ (by omega)).trans ?_; first | assumption | exact upd_eq _ _ _)))) (by exact rfl) ?_
    refine Gq_cge (pc' := 29) (t := 69) rfl rfl rfl (by omega) (by omega) (fun hq => absurd hq (by omega)) (fun _ => ?_)
    refine Gq_s (pc' := 30) rfl rfl rfl ?_
    refine Gq_s (pc' := 32) rfl rfl rfl ?_
    refine Gq_callv1 (pc' := 35) (Y := xm95) (rest := []) (st' := [_]) (ce' := 0) (sl' := 0) rfl rfl rfl rfl rfl rfl rfl rfl rfl (t_ranked n hP (by omega)) rfl (by first | assumption | exact upd_eq _ _ _ | (refine (upd_ne _ _ (by omega)).trans ?_; first | assumption | exact upd_eq _ _ _ | (refine (upd_ne _ _ (by omega)).trans ?_; first | assumption | exact upd_eq _ _ _ | (refine (upd_ne _ _ (by omega)).trans ?_; first | assumption | exact upd_eq _ _ _)))) ?_
    rw [if_pos (show j < cnt by omega), ho]
    refine Gq_astv (pc' := 37) (lv' := [(0, _), (1, _), (2, _), (3, _), (4, _), (5, _)]) (k := 5) rfl (fun _ _ => rfl) rfl (xst1_ex (pre := [(0, _), (1, _), (2, _), (3, _), (4, _)]) hex rfl) ?_
    refine Gq_s (pc' := 39) rfl rfl rfl ?_
    refine Gq_nul_r (pc' := 42) (t := 63) rfl rfl rfl ?_
    refine Gq_s (pc' := 44) rfl rfl rfl ?_
    refine Gq_s (pc' := 45) rfl rfl rfl ?_
    refine Gq_aceq (pc' := 48) (t := 63) (some o) (none) rfl rfl rfl (rfl) (rfl) (fun z hz => by cases hz; exact ⟨_, h5⟩) (fun _ hz => nomatch hz) (fun he => ?_) (fun he => ?_)
    · refine Gq_iinc (pc' := 66) (lv' := [(0, _), (1, _), (2, _), (3, _), (4, _), (5, _)]) rfl rfl rfl rfl ?_
      refine Gq_goto rfl (t := 20) rfl ?_
      exact ih (j + 1) H cand cc _ (by omega) (.inr ⟨_, rfl⟩) hvs hP z0 h2 h3 hcd
    · refine Gq_s (pc' := 50) rfl rfl rfl ?_
      refine Gq_get (pc' := 53) rfl rfl (by first | assumption | exact upd_eq _ _ _ | (refine (upd_ne _ _ (by omega)).trans ?_; first | assumption | exact upd_eq _ _ _ | (refine (upd_ne _ _ (by omega)).trans ?_; first | assumption | exact upd_eq _ _ _ | (refine (upd_ne _ _ (by omega)).trans ?_; first | assumption | exact upd_eq _ _ _)))) (by exact rfl) ?_
      refine Gq_bne (pc' := 56) (t := 63) rfl rfl rfl (fun hw => ?_) (fun hw => ?_)
      · refine Gq_iinc (pc' := 66) (lv' := [(0, _), (1, _), (2, _), (3, _), (4, _), (5, _)]) rfl rfl rfl rfl ?_
        refine Gq_goto rfl (t := 20) rfl ?_
        exact ih (j + 1) H cand cc _ (by omega) (.inr ⟨_, rfl⟩) hvs hP z0 h2 h3 hcd
      · refine Gq_s (pc' := 57) rfl rfl rfl ?_
        refine Gq_s (pc' := 58) rfl rfl rfl ?_
        refine Gq_s (pc' := 60) rfl rfl rfl ?_
        refine Gq_callv (pc' := 63) (Y := xm112) (rest := []) (ce' := 0) (sl' := 0) rfl rfl rfl rfl rfl rfl rfl rfl rfl (t_addc n z0 h2 h3 hp hcd ⟨_, h5⟩ hO) (by first | assumption | exact upd_eq _ _ _ | (refine (upd_ne _ _ (by omega)).trans ?_; first | assumption | exact upd_eq _ _ _ | (refine (upd_ne _ _ (by omega)).trans ?_; first | assumption | exact upd_eq _ _ _ | (refine (upd_ne _ _ (by omega)).trans ?_; first | assumption | exact upd_eq _ _ _)))) (fun v' H' n' hv => ?_)
        obtain ⟨rfl, rfl, cand2, cc2, hcd2, rfl⟩ := hv
        refine Gq_iinc (pc' := 66) (lv' := [(0, _), (1, _), (2, _), (3, _), (4, _), (5, _)]) rfl rfl rfl rfl ?_
        refine Gq_goto rfl (t := 20) rfl ?_
        refine Gq_mq (ih (j + 1) _ cand2 cc2 _ (by omega) (.inr ⟨_, rfl⟩) (VS_upd (by omega) (VS_upd (by omega) hvs)) (PkAt_hi (Hi_upd (Hi_upd (Hi_refl _) (by omega)) (by omega)) hP) (by rw [upd_ne _ _ (by omega), upd_ne _ _ (by omega)]; exact z0) (by rw [upd_ne _ _ (by omega)]; exact upd_eq _ _ _) (upd_eq _ _ _) hcd2) ?_
        rintro v G m ⟨e1, e2, e3, e4⟩
        exact ⟨e1, e2, fun o ho1 ho2 => by rw [e3 o ho1 ho2, upd_ne _ _ ho2, upd_ne _ _ ho1], e4⟩
theorem t_list_n {S : ScT} {H : HF} (n : Nat) {p k cnt : Nat} {tc rl rs lc : Int} {vs gf : Nat → Option Nat} {Own : Nat → Nat → Prop} {vr : Nat → VR} {V : Nat → Prop} (hp : p < 12) (hOV : ∀ p o, Own p o → V o) (hgf : ∀ i, i < cnt → ∃ o, gf i = some o ∧ Own p o) {cand : Nat → Option Nat} {cc : Nat → Int} (hvs : VsA H vr V) (hP : PkAt H k cnt vs gf) (z0 : H 96 = some (false, 5, rzF tc rl rs lc)) (h2 : H 102 = some (true, 3, aR 96 cand)) (h3 : H 103 = some (true, 0, aI 12 cc)) (hcd : CdOK Own cand cc) : Rmt S 110 [.ref 96, .int (zI (p : Int)), .ref k, .null] H n (fun v G m => v = none ∧ m = n ∧ (∀ o, ¬ o = 102 → ¬ o = 103 → G o = H o) ∧ ∃ cand2 cc2, CdOK Own cand2 cc2 ∧ G 102 = some (true, 3, aR 96 cand2) ∧ G 103 = some (true, 0, aI 12 cc2)) := by
  refine Rm_of (M := xm110) (lv := [(0, _), (1, _), (2, _), (3, _)]) rfl rfl rfl ?_
  have hcd0 : CdOK Own cand (fset cc p 0) := by
    intro q2 hq2
    by_cases e : q2 = p
    · subst e
      rw [fset_eq]
      exact ⟨by omega, by omega, fun i hi => absurd hi (by omega)⟩
    · rw [fset_ne _ _ e]
      exact hcd q2 hq2
  refine Gq_s (pc' := 1) rfl rfl rfl ?_
  refine Gq_get (pc' := 4) rfl rfl (by first | assumption | exact upd_eq _ _ _ | (refine (upd_ne _ _ (by omega)).trans ?_; first | assumption | exact upd_eq _ _ _ | (refine (upd_ne _ _ (by omega)).trans ?_; first | assumption | exact upd_eq _ _ _ | (refine (upd_ne _ _ (by omega)).trans ?_; first | assumption | exact upd_eq _ _ _)))) (by exact rfl) ?_
  refine Gq_s (pc' := 5) rfl rfl rfl ?_
  refine Gq_s (pc' := 6) rfl rfl rfl ?_
  refine Gq_iast (pc' := 7) rfl rfl (by first | assumption | exact upd_eq _ _ _ | (refine (upd_ne _ _ (by omega)).trans ?_; first | assumption | exact upd_eq _ _ _ | (refine (upd_ne _ _ (by omega)).trans ?_; first | assumption | exact upd_eq _ _ _ | (refine (upd_ne _ _ (by omega)).trans ?_; first | assumption | exact upd_eq _ _ _)))) (rfl) (by omega) (by omega) ?_
  refine Gq_s (pc' := 8) rfl rfl rfl ?_
  refine Gq_nul_n rfl (t := 17) rfl ?_
  refine Gq_s (pc' := 18) rfl rfl rfl ?_
  refine Gq_s (pc' := 20) (lv' := [(0, _), (1, _), (2, _), (3, _), (4, _)]) rfl rfl rfl ?_
  refine Gq_mq (t_list_n_l (S := S) hp hOV hgf cnt 0 _ cand _ [] (by omega) (.inl rfl) (VS_upd (by omega) hvs) (PkAt_hi (Hi_upd (Hi_refl _) (by omega)) hP) (by rw [upd_ne _ _ (by omega)]; exact z0) (by rw [upd_ne _ _ (by omega)]; exact h2) (upd_eq _ _ _) hcd0) ?_
  rintro v G m ⟨e1, e2, e3, e4⟩
  exact ⟨e1, e2, fun o ho1 ho2 => by rw [e3 o ho1 ho2, upd_ne _ _ ho2], e4⟩
theorem t_list_s_l {S : ScT} {n : Nat} {p k cnt : Nat} {tc rl rs lc : Int} {vs gf : Nat → Option Nat} {Own : Nat → Nat → Prop} {vr : Nat → VR} {V : Nat → Prop} (hp : p < 12) (hOV : ∀ p o, Own p o → V o) (hgf : ∀ i, i < cnt → ∃ o, gf i = some o ∧ Own p o) {h : Nat} (hh : V h) : ∀ (q j : Nat) (H : HF) (cand : Nat → Option Nat) (cc : Nat → Int) (ex : XL), j + q = cnt → (ex = [] ∨ ∃ v, ex = [(5, v)]) → VsA H vr V → PkAt H k cnt vs gf → H 96 = some (false, 5, rzF tc rl rs lc) → H 102 = some (true, 3, aR 96 cand) → H 103 = some (true, 0, aI 12 cc) → CdOK Own cand cc → Gw S xm110 20 ((0, .ref 96) :: (1, .int (zI (p : Int))) :: (2, .ref k) :: (3, .ref h) :: (4, .int (zI (j : Int))) :: ex) [] H n 0 0 (MQe xm110 (fun v G m => v = none ∧ m = n ∧ (∀ o, ¬ o = 102 → ¬ o = 103 → G o = H o) ∧ ∃ cand2 cc2, CdOK Own cand2 cc2 ∧ G 102 = some (true, 3, aR 96 cand2) ∧ G 103 = some (true, 0, aI 12 cc2))) := by
  intro q
  induction q with
  | zero =>
    intro j H cand cc ex hj hex hvs hP z0 h2 h3 hcd
    obtain rfl : j = cnt := by omega
    obtain ⟨hk9, hc8, g0, g1, g2⟩ := id hP
    refine Gq_s (pc' := 22) rfl rfl rfl ?_
    refine Gq_s (pc' := 23) rfl rfl rfl ?_
    refine Gq_get (pc' := 26) rfl rfl (by first | assumption | exact upd_eq _ _ _ | (refine (upd_ne _ _ (by omega)).trans ?_; first | assumption | exact upd_eq _ _ _ | (refine (upd_ne _ _ (by omega)).trans ?_; first | assumption | exact upd_eq _ _ _ | (refine (upd_ne _ _ (by omega)).trans ?_; first | assumption | exact upd_eq _ _ _)))) (by exact rfl) ?_
    refine Gq_cge (pc' := 29) (t := 69) rfl rfl rfl (by omega) (by omega) (fun _ => ?_) (fun hq => absurd (by omega) hq)
    exact Gq_ret rfl rfl (rfl) (⟨rfl, rfl, fun _ _ _ => rfl, cand, cc, hcd, h2, h3⟩)
  | succ q ih =>
    intro j H cand cc ex hj hex hvs hP z0 h2 h3 hcd
    obtain ⟨hk9, hc8, g0, g1, g2⟩ := id hP
    obtain ⟨o, ho, hO⟩ := hgf j (by omega)
    have hv9 := hvs o (hOV _ _ hO)
    have hv8 := hv9
    obtain ⟨ho9, -, f, g, h5, -, -⟩ := hv8
    refine Gq_s (pc' := 22) rfl rfl rfl ?_
    refine Gq_s (pc' := 23) rfl rfl rfl ?_
    refine Gq_get (pc' := 26) rfl rfl (by first | assumption | exact upd_eq _ _ _ | (refine (upd_ne _ _ (by omega)).trans ?_; first | assumption | exact upd_eq _ _ _ | (refine (upd_ne _ _ (by omega)).trans ?_; first | assumption | exact upd_eq _ _ _ | (refine (upd_ne _ _ (by omega)).trans ?_; first | assumption | exact upd_eq _ _ _)))) (by exact rfl) ?_
    refine Gq_cge (pc' := 29) (t := 69) rfl rfl rfl (by omega) (by omega) (fun hq => absurd hq (by omega)) (fun _ => ?_)
    refine Gq_s (pc' := 30) rfl rfl rfl ?_
    refine Gq_s (pc' := 32) rfl rfl rfl ?_
    refine Gq_callv1 (pc' := 35) (Y := xm95) (rest := []) (st' := [_]) (ce' := 0) (sl' := 0) rfl rfl rfl rfl rfl rfl rfl rfl rfl (t_ranked n hP (by omega)) rfl (by first | assumption | exact upd_eq _ _ _ | (refine (upd_ne _ _ (by omega)).trans ?_; first | assumption | exact upd_eq _ _ _ | (refine (upd_ne _ _ (by omega)).trans ?_; first | assumption | exact upd_eq _ _ _ | (refine (upd_ne _ _ (by omega)).trans ?_; first | assumption | exact upd_eq _ _ _)))) ?_
    rw [if_pos (show j < cnt by omega), ho]
    refine Gq_astv (pc' := 37) (lv' := [(0, _), (1, _), (2, _), (3, _), (4, _), (5, _)]) (k := 5) rfl (fun _ _ => rfl) rfl (xst1_ex (pre := [(0, _), (1, _), (2, _), (3, _), (4, _)]) hex rfl) ?_
    refine Gq_s (pc' := 39) rfl rfl rfl ?_
    refine Gq_nul_r (pc' := 42) (t := 63) rfl rfl rfl ?_
    refine Gq_s (pc' := 44) rfl rfl rfl ?_
    refine Gq_s (pc' := 45) rfl rfl rfl ?_
    refine Gq_aceq (pc' := 48) (t := 63) (some o) (some h) rfl rfl rfl (rfl) (rfl) (fun z hz => by cases hz; exact ⟨_, h5⟩) (fun z hz => by cases hz; obtain ⟨vs, hv⟩ := VS_ok hvs hh; exact ⟨_, hv⟩) (fun he => ?_) (fun he => ?_)
    · refine Gq_iinc (pc' := 66) (lv' := [(0, _), (1, _), (2, _), (3, _), (4, _), (5, _)]) rfl rfl rfl rfl ?_
      refine Gq_goto rfl (t := 20) rfl ?_
      exact ih (j + 1) H cand cc _ (by omega) (.inr ⟨_, rfl⟩) hvs hP z0 h2 h3 hcd
    · refine Gq_s (pc' := 50) rfl rfl rfl ?_
      refine Gq_get (pc' := 53) rfl rfl (by first | assumption | exact upd_eq _ _ _ | (refine (upd_ne _ _ (by omega)).trans ?_; first | assumption | exact upd_eq _ _ _ | (refine (upd_ne _ _ (by omega)).trans ?_; first | assumption | exact upd_eq _ _ _ | (refine (upd_ne _ _ (by omega)).trans ?_; first | assumption | exact upd_eq _ _ _)))) (by exact rfl) ?_
      refine Gq_bne (pc' := 56) (t := 63) rfl rfl rfl (fun hw => ?_) (fun hw => ?_)
      · refine Gq_iinc (pc' := 66) (lv' := [(0, _), (1, _), (2, _), (3, _), (4, _), (5, _)]) rfl rfl rfl rfl ?_
        refine Gq_goto rfl (t := 20) rfl ?_
        exact ih (j + 1) H cand cc _ (by omega) (.inr ⟨_, rfl⟩) hvs hP z0 h2 h3 hcd
      · refine Gq_s (pc' := 57) rfl rfl rfl ?_
        refine Gq_s (pc' := 58) rfl rfl rfl ?_
        refine Gq_s (pc' := 60) rfl rfl rfl ?_
        refine Gq_callv (pc' := 63) (Y := xm112) (rest := []) (ce' := 0) (sl' := 0) rfl rfl rfl rfl rfl rfl rfl rfl rfl (t_addc n z0 h2 h3 hp hcd ⟨_, h5⟩ hO) (by first | assumption | exact upd_eq _ _ _ | (refine (upd_ne _ _ (by omega)).trans ?_; first | assumption | exact upd_eq _ _ _ | (refine (upd_ne _ _ (by omega)).trans ?_; first | assumption | exact upd_eq _ _ _ | (refine (upd_ne _ _ (by omega)).trans ?_; first | assumption | exact upd_eq _ _ _)))) (fun v' H' n' hv => ?_)
        obtain ⟨rfl, rfl, cand2, cc2, hcd2, rfl⟩ := hv
        refine Gq_iinc (pc' := 66) (lv' := [(0, _), (1, _), (2, _), (3, _), (4, _), (5, _)]) rfl rfl rfl rfl ?_
        refine Gq_goto rfl (t := 20) rfl ?_
        refine Gq_mq (ih (j + 1) _ cand2 cc2 _ (by omega) (.inr ⟨_, rfl⟩) (VS_upd (by omega) (VS_upd (by omega) hvs)) (PkAt_hi (Hi_upd (Hi_upd (Hi_refl _) (by omega)) (by omega)) hP) (by rw [upd_ne _ _ (by omega), upd_ne _ _ (by omega)]; exact z0) (by rw [upd_ne _ _ (by omega)]; exact upd_eq _ _ _) (upd_eq _ _ _) hcd2) ?_
        rintro v G m ⟨e1, e2, e3, e4⟩
        exact ⟨e1, e2, fun o ho1 ho2 => by rw [e3 o ho1 ho2, upd_ne _ _ ho2, upd_ne _ _ ho1], e4⟩
theorem t_list_s {S : ScT} {H : HF} (n : Nat) {p k cnt : Nat} {tc rl rs lc : Int} {vs gf : Nat → Option Nat} {Own : Nat → Nat → Prop} {vr : Nat → VR} {V : Nat → Prop} (hp : p < 12) (hOV : ∀ p o, Own p o → V o) (hgf : ∀ i, i < cnt → ∃ o, gf i = some o ∧ Own p o) {h : Nat} (hh : V h) {cand : Nat → Option Nat} {cc : Nat → Int} (hvs : VsA H vr V) (hP : PkAt H k cnt vs gf) (z0 : H 96 = some (false, 5, rzF tc rl rs lc)) (h2 : H 102 = some (true, 3, aR 96 cand)) (h3 : H 103 = some (true, 0, aI 12 cc)) (hcd : CdOK Own cand cc) (hO : Own p h) : Rmt S 110 [.ref 96, .int (zI (p : Int)), .ref k, .ref h] H n (fun v G m => v = none ∧ m = n ∧ (∀ o, ¬ o = 102 → ¬ o = 103 → G o = H o) ∧ ∃ cand2 cc2, CdOK Own cand2 cc2 ∧ G 102 = some (true, 3, aR 96 cand2) ∧ G 103 = some (true, 0, aI 12 cc2)) := by
  refine Rm_of (M := xm110) (lv := [(0, _), (1, _), (2, _), (3, _)]) rfl rfl rfl ?_
  have hcd0 : CdOK Own cand (fset cc p 0) := by
    intro q2 hq2
    by_cases e : q2 = p
    · subst e
      rw [fset_eq]
      exact ⟨by omega, by omega, fun i hi => absurd hi (by omega)⟩
    · rw [fset_ne _ _ e]
      exact hcd q2 hq2
  refine Gq_s (pc' := 1) rfl rfl rfl ?_
  refine Gq_get (pc' := 4) rfl rfl (by first | assumption | exact upd_eq _ _ _ | (refine (upd_ne _ _ (by omega)).trans ?_; first | assumption | exact upd_eq _ _ _ | (refine (upd_ne _ _ (by omega)).trans ?_; first | assumption | exact upd_eq _ _ _ | (refine (upd_ne _ _ (by omega)).trans ?_; first | assumption | exact upd_eq _ _ _)))) (by exact rfl) ?_
  refine Gq_s (pc' := 5) rfl rfl rfl ?_
  refine Gq_s (pc' := 6) rfl rfl rfl ?_
  refine Gq_iast (pc' := 7) rfl rfl (by first | assumption | exact upd_eq _ _ _ | (refine (upd_ne _ _ (by omega)).trans ?_; first | assumption | exact upd_eq _ _ _ | (refine (upd_ne _ _ (by omega)).trans ?_; first | assumption | exact upd_eq _ _ _ | (refine (upd_ne _ _ (by omega)).trans ?_; first | assumption | exact upd_eq _ _ _)))) (rfl) (by omega) (by omega) ?_
  refine Gq_s (pc' := 8) rfl rfl rfl ?_
  refine Gq_nul_r (pc' := 11) (t := 17) rfl rfl rfl ?_
  refine Gq_s (pc' := 12) rfl rfl rfl ?_
  refine Gq_s (pc' := 13) rfl rfl rfl ?_
  refine Gq_s (pc' := 14) rfl rfl rfl ?_
  refine Gq_callv (pc' := 17) (Y := xm112) (rest := []) (ce' := 0) (sl' := 0) rfl rfl rfl rfl rfl rfl rfl rfl rfl (t_addc n (by rw [upd_ne _ _ (by omega)]; exact z0) (by rw [upd_ne _ _ (by omega)]; exact h2) (upd_eq _ _ _) hp hcd0 (by obtain ⟨vs, hv⟩ := VS_ok hvs hh; have h119 := (hvs h hh).1; exact ⟨vs, by rw [upd_ne _ _ (by omega)]; exact hv⟩) hO) (by first | assumption | exact upd_eq _ _ _ | (refine (upd_ne _ _ (by omega)).trans ?_; first | assumption | exact upd_eq _ _ _ | (refine (upd_ne _ _ (by omega)).trans ?_; first | assumption | exact upd_eq _ _ _ | (refine (upd_ne _ _ (by omega)).trans ?_; first | assumption | exact upd_eq _ _ _)))) (fun v' H' n' hv => ?_)
  obtain ⟨rfl, rfl, cand2, cc2, hcd2, rfl⟩ := hv
  refine Gq_s (pc' := 18) rfl rfl rfl ?_
  refine Gq_s (pc' := 20) (lv' := [(0, _), (1, _), (2, _), (3, _), (4, _)]) rfl rfl rfl ?_
  refine Gq_mq (t_list_s_l (S := S) hp hOV hgf hh cnt 0 _ cand2 cc2 [] (by omega) (.inl rfl) (VS_upd (by omega) (VS_upd (by omega) (VS_upd (by omega) hvs))) (PkAt_hi (Hi_upd (Hi_upd (Hi_upd (Hi_refl _) (by omega)) (by omega)) (by omega)) hP) (by rw [upd_ne _ _ (by omega), upd_ne _ _ (by omega), upd_ne _ _ (by omega)]; exact z0) (by rw [upd_ne _ _ (by omega)]; exact upd_eq _ _ _) (upd_eq _ _ _) hcd2) ?_
  rintro v G m ⟨e1, e2, e3, e4⟩
  exact ⟨e1, e2, fun o ho1 ho2 => by rw [e3 o ho1 ho2, upd_ne _ _ ho2, upd_ne _ _ ho1, upd_ne _ _ ho2], e4⟩
end XK8
