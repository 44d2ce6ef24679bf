/-! the class: reading, searching, resolving (printed by wip/p46/gen30.py) -/
section XKa
/-- the class's own cell -/
def pwF (P : Nat) (dr lt fc : Int) : List Value := [.ref 87, .int (zI (P : Int)), .ref 88, .ref 90, .ref 93, .ref 96, .ref 107, .ref 111, .ref 115, .ref 117, .int (zI dr), .int (zI lt), .int (zI fc)]
def Own (P : Nat) (cnt : Nat → Nat) (vd : Nat → Nat → Nat) (p o : Nat) : Prop := p < P ∧ ∃ i, i < cnt p ∧ o = vd p i
def VV (P : Nat) (cnt : Nat → Nat) (vd : Nat → Nat → Nat) (o : Nat) : Prop := ∃ p, Own P cnt vd p o
/-- the registry -/
def RG (H : HF) (P : Nat) (pid cnt : Nat → Nat) (vd gr : Nat → Nat → Nat) (vr : Nat → VR) : Prop :=
  P ≤ 12 ∧ H 87 = some (true, 4, aR 12 (fun p => if p < P then some (pid p) else none)) ∧ (∀ p, p < P → PkAt H (pid p) (cnt p) (fun i => if i < cnt p then some (vd p i) else none) (fun i => if i < cnt p then some (gr p i) else none)) ∧ (∀ p i, p < P → i < cnt p → VerAt H (vd p i) (vr (vd p i)) ∧ vN (vr (vd p i)) = i) ∧ (∀ p i, p < P → i < cnt p → ∃ j, j < cnt p ∧ gr p i = vd p j) ∧ (∀ p i q j, p < P → i < cnt p → q < P → j < cnt q → vd p i = vd q j → p = q ∧ i = j) ∧ (∀ p i, p < P → i < cnt p → ∀ c ∈ vQ (vr (vd p i)), cT c < P)
theorem RG_hi {H G : HF} {P : Nat} {pid cnt : Nat → Nat} {vd gr : Nat → Nat → Nat} {vr : Nat → VR} (hh : Hi H G) (h87 : G 87 = H 87) (h : RG H P pid cnt vd gr vr) : RG G P pid cnt vd gr vr := by
  obtain ⟨h1, h2, h3, h4, h5, h6, h7⟩ := h
  exact ⟨h1, h87.trans h2, fun p hp => PkAt_hi hh (h3 p hp), fun p i hp hi => ⟨VerAt_hi hh (h4 p i hp hi).1, (h4 p i hp hi).2⟩, h5, h6, h7⟩
theorem RG_vs {H : HF} {P : Nat} {pid cnt : Nat → Nat} {vd gr : Nat → Nat → Nat} {vr : Nat → VR} (h : RG H P pid cnt vd gr vr) : VsA H vr (VV P cnt vd) := by
  rintro o ⟨p, hp, i, hi, rfl⟩
  exact (h.2.2.2.1 p i hp hi).1
theorem Own_V {P : Nat} {cnt : Nat → Nat} {vd : Nat → Nat → Nat} : ∀ p o, Own P cnt vd p o → VV P cnt vd o := fun p _ h => ⟨p, h⟩
theorem Own_ch {P : Nat} {cnt : Nat → Nat} {vd : Nat → Nat → Nat} {ch : Nat → Option Nat} (h : ∀ q o, ch q = some o → Own P cnt vd q o) : ChV (VV P cnt vd) ch := fun p o _ hx => ⟨p, h p o hx⟩
theorem RG_dom {H : HF} {P : Nat} {pid cnt : Nat → Nat} {vd gr : Nat → Nat → Nat} {vr : Nat → VR} (h : RG H P pid cnt vd gr vr) : ∀ o, VV P cnt vd o → ∀ c ∈ vQ (vr o), cT c < P := by
  rintro o ⟨p, hp, i, hi, rfl⟩
  exact h.2.2.2.2.2.2 p i hp hi
theorem rv_if {p P a : Nat} (h : p < P) : rvl (if p < P then some a else none) = .ref a := by rw [if_pos h]; rfl
/-- the resolver's cells, whatever they hold -/
def ScR (H : HF) (Ow : Nat → Nat → Prop) : Prop := (∃ tc lv tr, (0 ≤ tc ∧ tc ≤ 5001) ∧ RzP H tc lv tr ∧ lv.length ≤ 12 ∧ trOK tr) ∧ (∃ z wc, H 97 = some (false, 6, [.ref 98, .int z]) ∧ H 98 = some (true, 5, aR 6 wc)) ∧ H 99 = some (false, 2, [.ref 100, .ref 101]) ∧ (∃ ch, H 100 = some (true, 3, aR 12 ch)) ∧ (∃ on, H 101 = some (true, 0, aNt 12 on) ∧ o16 on) ∧ ∃ cand cc, H 102 = some (true, 3, aR 96 cand) ∧ H 103 = some (true, 0, aI 12 cc) ∧ CdOK Ow cand cc
theorem t_pti {S : ScT} {H : HF} (n : Nat) {p : Nat} {P : Nat} {pid cnt : Nat → Nat} {vd gr : Nat → Nat → Nat} {vr : Nat → VR} {dr lt fc : Int} (hR : RG H P pid cnt vd gr vr) (h86 : H 86 = some (false, 7, pwF P dr lt fc)) (hp : p < P) : Rdt S 43 [.ref 86, .int (zI (p : Int))] H n (some (.ref (pid p))) H n := by
  refine Rm_of (M := xm43) (lv := [(0, _), (1, _)]) rfl rfl rfl ?_
  obtain ⟨hP, h87, -⟩ := id hR
  refine Gq_s (pc' := 1) rfl rfl rfl ?_
  refine Gq_zlt (pc' := 4) (t := 12) rfl rfl rfl (by omega) (fun hq => absurd hq (by omega)) (fun _ => ?_)
  refine Gq_s (pc' := 5) rfl rfl rfl ?_
  refine Gq_s (pc' := 6) rfl rfl rfl ?_
  refine Gq_get (pc' := 9) rfl rfl (by first | assumption | exact upd_eq _ _ _ | (refine (upd_ne _ _ (by omega)).trans ?_; first | assumption | exact upd_eq _ _ _ | (refine (upd_ne _ _ (by omega)).trans ?_; first | assumption | exact upd_eq _ _ _ | (refine (upd_ne _ _ (by omega)).trans ?_; first | assumption | exact upd_eq _ _ _)))) (by exact rfl) ?_
  refine Gq_clt (pc' := 12) (t := 23) rfl rfl rfl (by omega) (by omega) (fun _ => ?_) (fun hq => absurd (by omega) hq)
  refine Gq_s (pc' := 24) rfl rfl rfl ?_
  refine Gq_get (pc' := 27) rfl rfl (by first | assumption | exact upd_eq _ _ _ | (refine (upd_ne _ _ (by omega)).trans ?_; first | assumption | exact upd_eq _ _ _ | (refine (upd_ne _ _ (by omega)).trans ?_; first | assumption | exact upd_eq _ _ _ | (refine (upd_ne _ _ (by omega)).trans ?_; first | assumption | exact upd_eq _ _ _)))) (by exact rfl) ?_
  refine Gq_s (pc' := 28) rfl rfl rfl ?_
  refine Gq_aald (pc' := 29) rfl rfl (by first | assumption | exact upd_eq _ _ _ | (refine (upd_ne _ _ (by omega)).trans ?_; first | assumption | exact upd_eq _ _ _ | (refine (upd_ne _ _ (by omega)).trans ?_; first | assumption | exact upd_eq _ _ _ | (refine (upd_ne _ _ (by omega)).trans ?_; first | assumption | exact upd_eq _ _ _)))) (by exact rfl) (rfl) (by omega) (by omega) (rv_if hp) ?_
  exact Gq_ret rfl rfl (rfl) (⟨rfl, rfl, rfl⟩)
theorem t_packages {S : ScT} {H : HF} (n : Nat) {P : Nat} {dr lt fc : Int} (h86 : H 86 = some (false, 7, pwF P dr lt fc)) : Rdt S 6 [.ref 86] H n (some (.int (zI (P : Int)))) H n := by
  refine Rm_of (M := xm6) (lv := [(0, _)]) rfl rfl rfl ?_
  refine Gq_s (pc' := 1) rfl rfl rfl ?_
  refine Gq_get (pc' := 4) rfl rfl (by first | assumption | exact upd_eq _ _ _ | (refine (upd_ne _ _ (by omega)).trans ?_; first | assumption | exact upd_eq _ _ _ | (refine (upd_ne _ _ (by omega)).trans ?_; first | assumption | exact upd_eq _ _ _ | (refine (upd_ne _ _ (by omega)).trans ?_; first | assumption | exact upd_eq _ _ _)))) (by exact rfl) ?_
  exact Gq_ret rfl rfl (rfl) (⟨rfl, rfl, rfl⟩)
theorem t_wishes {S : ScT} {H : HF} (n : Nat) {P : Nat} {dr lt fc : Int} (h86 : H 86 = some (false, 7, pwF P dr lt fc)) {wl : List CR} (hW : WiAt H 88 wl) : Rdt S 10 [.ref 86] H n (some (.int (zI (wl.length : Int)))) H n := by
  refine Rm_of (M := xm10) (lv := [(0, _)]) rfl rfl rfl ?_
  obtain ⟨h0, -⟩ := hW
  refine Gq_s (pc' := 1) rfl rfl rfl ?_
  refine Gq_get (pc' := 4) rfl rfl (by first | assumption | exact upd_eq _ _ _ | (refine (upd_ne _ _ (by omega)).trans ?_; first | assumption | exact upd_eq _ _ _ | (refine (upd_ne _ _ (by omega)).trans ?_; first | assumption | exact upd_eq _ _ _ | (refine (upd_ne _ _ (by omega)).trans ?_; first | assumption | exact upd_eq _ _ _)))) (by exact rfl) ?_
  refine Gq_get (pc' := 7) rfl rfl (by first | assumption | exact upd_eq _ _ _ | (refine (upd_ne _ _ (by omega)).trans ?_; first | assumption | exact upd_eq _ _ _ | (refine (upd_ne _ _ (by omega)).trans ?_; first | assumption | exact upd_eq _ _ _ | (refine (upd_ne _ _ (by omega)).trans ?_; first | assumption | exact upd_eq _ _ _)))) (by exact rfl) ?_
  exact Gq_ret rfl rfl (rfl) (⟨rfl, rfl, rfl⟩)
theorem t_tries {S : ScT} {H : HF} (n : Nat) {P : Nat} {dr lt fc : Int} (h86 : H 86 = some (false, 7, pwF P dr lt fc)) : Rdt S 12 [.ref 86] H n (some (.int (zI lt))) H n := by
  refine Rm_of (M := xm12) (lv := [(0, _)]) rfl rfl rfl ?_
  refine Gq_s (pc' := 1) rfl rfl rfl ?_
  refine Gq_get (pc' := 4) rfl rfl (by first | assumption | exact upd_eq _ _ _ | (refine (upd_ne _ _ (by omega)).trans ?_; first | assumption | exact upd_eq _ _ _ | (refine (upd_ne _ _ (by omega)).trans ?_; first | assumption | exact upd_eq _ _ _ | (refine (upd_ne _ _ (by omega)).trans ?_; first | assumption | exact upd_eq _ _ _)))) (by exact rfl) ?_
  exact Gq_ret rfl rfl (rfl) (⟨rfl, rfl, rfl⟩)
theorem t_fetched {S : ScT} {H : HF} (n : Nat) {P : Nat} {dr lt fc : Int} (h86 : H 86 = some (false, 7, pwF P dr lt fc)) : Rdt S 36 [.ref 86] H n (some (.int (zI fc))) H n := by
  refine Rm_of (M := xm36) (lv := [(0, _)]) rfl rfl rfl ?_
  refine Gq_s (pc' := 1) rfl rfl rfl ?_
  refine Gq_get (pc' := 4) rfl rfl (by first | assumption | exact upd_eq _ _ _ | (refine (upd_ne _ _ (by omega)).trans ?_; first | assumption | exact upd_eq _ _ _ | (refine (upd_ne _ _ (by omega)).trans ?_; first | assumption | exact upd_eq _ _ _ | (refine (upd_ne _ _ (by omega)).trans ?_; first | assumption | exact upd_eq _ _ _)))) (by exact rfl) ?_
  exact Gq_ret rfl rfl (rfl) (⟨rfl, rfl, rfl⟩)
theorem t_steps {S : ScT} {H : HF} (n : Nat) {P : Nat} {dr lt fc : Int} (h86 : H 86 = some (false, 7, pwF P dr lt fc)) {th a b c : Value} {pc pd : Int} (h111 : H 111 = some (false, 4, [th, .int (zI pc), .int (zI pd), a, b, c])) : Rdt S 27 [.ref 86] H n (some (.int (zI pc))) H n := by
  refine Rm_of (M := xm27) (lv := [(0, _)]) rfl rfl rfl ?_
  refine Gq_s (pc' := 1) rfl rfl rfl ?_
  refine Gq_get (pc' := 4) rfl rfl (by first | assumption | exact upd_eq _ _ _ | (refine (upd_ne _ _ (by omega)).trans ?_; first | assumption | exact upd_eq _ _ _ | (refine (upd_ne _ _ (by omega)).trans ?_; first | assumption | exact upd_eq _ _ _ | (refine (upd_ne _ _ (by omega)).trans ?_; first | assumption | exact upd_eq _ _ _)))) (by exact rfl) ?_
  refine Gq_get (pc' := 7) rfl rfl (by first | assumption | exact upd_eq _ _ _ | (refine (upd_ne _ _ (by omega)).trans ?_; first | assumption | exact upd_eq _ _ _ | (refine (upd_ne _ _ (by omega)).trans ?_; first | assumption | exact upd_eq _ _ _ | (refine (upd_ne _ _ (by omega)).trans ?_; first | assumption | exact upd_eq _ _ _)))) (by exact rfl) ?_
  exact Gq_ret rfl rfl (rfl) (⟨rfl, rfl, rfl⟩)
theorem t_cached {S : ScT} {H : HF} (n : Nat) {P : Nat} {dr lt fc : Int} (h86 : H 86 = some (false, 7, pwF P dr lt fc)) {a : Value} {b u r : Int} (h115 : H 115 = some (false, 0, [a, .int (zI b), .int (zI u), .int (zI r)])) : Rdt S 34 [.ref 86] H n (some (.int (zI u))) H n := by
  refine Rm_of (M := xm34) (lv := [(0, _)]) rfl rfl rfl ?_
  refine Gq_s (pc' := 1) rfl rfl rfl ?_
  refine Gq_get (pc' := 4) rfl rfl (by first | assumption | exact upd_eq _ _ _ | (refine (upd_ne _ _ (by omega)).trans ?_; first | assumption | exact upd_eq _ _ _ | (refine (upd_ne _ _ (by omega)).trans ?_; first | assumption | exact upd_eq _ _ _ | (refine (upd_ne _ _ (by omega)).trans ?_; first | assumption | exact upd_eq _ _ _)))) (by exact rfl) ?_
  refine Gq_get (pc' := 7) rfl rfl (by first | assumption | exact upd_eq _ _ _ | (refine (upd_ne _ _ (by omega)).trans ?_; first | assumption | exact upd_eq _ _ _ | (refine (upd_ne _ _ (by omega)).trans ?_; first | assumption | exact upd_eq _ _ _ | (refine (upd_ne _ _ (by omega)).trans ?_; first | assumption | exact upd_eq _ _ _)))) (by exact rfl) ?_
  exact Gq_ret rfl rfl (rfl) (⟨rfl, rfl, rfl⟩)
theorem t_locked {S : ScT} {H : HF} (n : Nat) {p : Nat} {P : Nat} {pid cnt : Nat → Nat} {vd gr : Nat → Nat → Nat} {vr : Nat → VR} {dr lt fc : Int} (hR : RG H P pid cnt vd gr vr) (h86 : H 86 = some (false, 7, pwF P dr lt fc)) (hp : p < P) {lk : Nat → Option Nat} (hL : ∀ q o, lk q = some o → Own P cnt vd q o) (L0 : H 90 = some (false, 2, [.ref 91, .ref 92])) (L1 : H 91 = some (true, 3, aR 12 lk)) : Rdt S 13 [.ref 86, .int (zI (p : Int))] H n (some (.int (zI (nmOf vr (lk p))))) H n := by
  refine Rm_of (M := xm13) (lv := [(0, _), (1, _)]) rfl rfl rfl ?_
  have hP := hR.1
  refine Gq_s (pc' := 1) rfl rfl rfl ?_
  refine Gq_s (pc' := 2) rfl rfl rfl ?_
  refine Gq_callv1 (pc' := 5) (Y := xm43) (rest := []) (st' := [_]) (ce' := 0) (sl' := 0) rfl rfl rfl rfl rfl rfl rfl rfl rfl (t_pti n hR h86 hp) rfl (by first | assumption | exact upd_eq _ _ _ | (refine (upd_ne _ _ (by omega)).trans ?_; first | assumption | exact upd_eq _ _ _ | (refine (upd_ne _ _ (by omega)).trans ?_; first | assumption | exact upd_eq _ _ _ | (refine (upd_ne _ _ (by omega)).trans ?_; first | assumption | exact upd_eq _ _ _)))) ?_
  refine Gq_s (pc' := 6) rfl rfl rfl ?_
  refine Gq_s (pc' := 7) rfl rfl rfl ?_
  refine Gq_get (pc' := 10) rfl rfl (by first | assumption | exact upd_eq _ _ _ | (refine (upd_ne _ _ (by omega)).trans ?_; first | assumption | exact upd_eq _ _ _ | (refine (upd_ne _ _ (by omega)).trans ?_; first | assumption | exact upd_eq _ _ _ | (refine (upd_ne _ _ (by omega)).trans ?_; first | assumption | exact upd_eq _ _ _)))) (by exact rfl) ?_
  refine Gq_get (pc' := 13) rfl rfl (by first | assumption | exact upd_eq _ _ _ | (refine (upd_ne _ _ (by omega)).trans ?_; first | assumption | exact upd_eq _ _ _ | (refine (upd_ne _ _ (by omega)).trans ?_; first | assumption | exact upd_eq _ _ _ | (refine (upd_ne _ _ (by omega)).trans ?_; first | assumption | exact upd_eq _ _ _)))) (by exact rfl) ?_
  refine Gq_s (pc' := 14) rfl rfl rfl ?_
  refine Gq_aald (pc' := 15) rfl rfl (by first | assumption | exact upd_eq _ _ _ | (refine (upd_ne _ _ (by omega)).trans ?_; first | assumption | exact upd_eq _ _ _ | (refine (upd_ne _ _ (by omega)).trans ?_; first | assumption | exact upd_eq _ _ _ | (refine (upd_ne _ _ (by omega)).trans ?_; first | assumption | exact upd_eq _ _ _)))) (by exact rfl) (rfl) (by omega) (by omega) (rfl) ?_
  refine Gq_calls1 (pc' := 18) (Y := xm59) (rest := []) (st' := [_]) (ce' := 0) (sl' := 0) rfl rfl rfl rfl rfl rfl rfl rfl rfl rfl (t_numberOf _ (fun k hk => RG_vs hR k ⟨p, hL p k hk⟩)) rfl ?_
  exact Gq_ret rfl rfl (rfl) (⟨rfl, rfl, rfl⟩)
theorem t_installed {S : ScT} {H : HF} (n : Nat) {p : Nat} {P : Nat} {pid cnt : Nat → Nat} {vd gr : Nat → Nat → Nat} {vr : Nat → VR} {dr lt fc : Int} (hR : RG H P pid cnt vd gr vr) (h86 : H 86 = some (false, 7, pwF P dr lt fc)) (hp : p < P) {dk : Nat → Option Nat} (hD : ∀ q o, dk q = some o → Own P cnt vd q o) (D0 : H 93 = some (false, 2, [.ref 94, .ref 95])) (D1 : H 94 = some (true, 3, aR 12 dk)) : Rdt S 32 [.ref 86, .int (zI (p : Int))] H n (some (.int (zI (nmOf vr (dk p))))) H n := by
  refine Rm_of (M := xm32) (lv := [(0, _), (1, _)]) rfl rfl rfl ?_
  have hP := hR.1
  refine Gq_s (pc' := 1) rfl rfl rfl ?_
  refine Gq_s (pc' := 2) rfl rfl rfl ?_
  refine Gq_callv1 (pc' := 5) (Y := xm43) (rest := []) (st' := [_]) (ce' := 0) (sl' := 0) rfl rfl rfl rfl rfl rfl rfl rfl rfl (t_pti n hR h86 hp) rfl (by first | assumption | exact upd_eq _ _ _ | (refine (upd_ne _ _ (by omega)).trans ?_; first | assumption | exact upd_eq _ _ _ | (refine (upd_ne _ _ (by omega)).trans ?_; first | assumption | exact upd_eq _ _ _ | (refine (upd_ne _ _ (by omega)).trans ?_; first | assumption | exact upd_eq _ _ _)))) ?_
  refine Gq_s (pc' := 6) rfl rfl rfl ?_
  refine Gq_s (pc' := 7) rfl rfl rfl ?_
  refine Gq_get (pc' := 10) rfl rfl (by first | assumption | exact upd_eq _ _ _ | (refine (upd_ne _ _ (by omega)).trans ?_; first | assumption | exact upd_eq _ _ _ | (refine (upd_ne _ _ (by omega)).trans ?_; first | assumption | exact upd_eq _ _ _ | (refine (upd_ne _ _ (by omega)).trans ?_; first | assumption | exact upd_eq _ _ _)))) (by exact rfl) ?_
  refine Gq_get (pc' := 13) rfl rfl (by first | assumption | exact upd_eq _ _ _ | (refine (upd_ne _ _ (by omega)).trans ?_; first | assumption | exact upd_eq _ _ _ | (refine (upd_ne _ _ (by omega)).trans ?_; first | assumption | exact upd_eq _ _ _ | (refine (upd_ne _ _ (by omega)).trans ?_; first | assumption | exact upd_eq _ _ _)))) (by exact rfl) ?_
  refine Gq_s (pc' := 14) rfl rfl rfl ?_
  refine Gq_aald (pc' := 15) rfl rfl (by first | assumption | exact upd_eq _ _ _ | (refine (upd_ne _ _ (by omega)).trans ?_; first | assumption | exact upd_eq _ _ _ | (refine (upd_ne _ _ (by omega)).trans ?_; first | assumption | exact upd_eq _ _ _ | (refine (upd_ne _ _ (by omega)).trans ?_; first | assumption | exact upd_eq _ _ _)))) (by exact rfl) (rfl) (by omega) (by omega) (rfl) ?_
  refine Gq_calls1 (pc' := 18) (Y := xm59) (rest := []) (st' := [_]) (ce' := 0) (sl' := 0) rfl rfl rfl rfl rfl rfl rfl rfl rfl rfl (t_numberOf _ (fun k hk => RG_vs hR k ⟨p, hD p k hk⟩)) rfl ?_
  exact Gq_ret rfl rfl (rfl) (⟨rfl, rfl, rfl⟩)
theorem t_lockedPk {S : ScT} {H : HF} (n : Nat) {P : Nat} {dr lt fc : Int} (h86 : H 86 = some (false, 7, pwF P dr lt fc)) {lk : Nat → Option Nat} (L0 : H 90 = some (false, 2, [.ref 91, .ref 92])) (L1 : H 91 = some (true, 3, aR 12 lk)) : Rdt S 14 [.ref 86] H n (some (.int (zI (cntTo (fun p => decide (¬ lk p = none)) 12 : Int)))) H n := by
  refine Rm_of (M := xm14) (lv := [(0, _)]) rfl rfl rfl ?_
  refine Gq_s (pc' := 1) rfl rfl rfl ?_
  refine Gq_get (pc' := 4) rfl rfl (by first | assumption | exact upd_eq _ _ _ | (refine (upd_ne _ _ (by omega)).trans ?_; first | assumption | exact upd_eq _ _ _ | (refine (upd_ne _ _ (by omega)).trans ?_; first | assumption | exact upd_eq _ _ _ | (refine (upd_ne _ _ (by omega)).trans ?_; first | assumption | exact upd_eq _ _ _)))) (by exact rfl) ?_
  refine Gq_callv1 (pc' := 7) (Y := xm77) (rest := []) (st' := [_]) (ce' := 0) (sl' := 0) rfl rfl rfl rfl rfl rfl rfl rfl rfl (t_countIn L0 L1) rfl (by first | assumption | exact upd_eq _ _ _ | (refine (upd_ne _ _ (by omega)).trans ?_; first | assumption | exact upd_eq _ _ _ | (refine (upd_ne _ _ (by omega)).trans ?_; first | assumption | exact upd_eq _ _ _ | (refine (upd_ne _ _ (by omega)).trans ?_; first | assumption | exact upd_eq _ _ _)))) ?_
  exact Gq_ret rfl rfl (rfl) (⟨rfl, rfl, rfl⟩)
theorem t_taken {S : ScT} {H : HF} (n : Nat) {P : Nat} {pid cnt : Nat → Nat} {vd gr : Nat → Nat → Nat} {vr : Nat → VR} {dr lt fc : Int} (hR : RG H P pid cnt vd gr vr) (h86 : H 86 = some (false, 7, pwF P dr lt fc)) {dk : Nat → Option Nat} (hD : ∀ q o, dk q = some o → Own P cnt vd q o) (D0 : H 93 = some (false, 2, [.ref 94, .ref 95])) (D1 : H 94 = some (true, 3, aR 12 dk)) : Rdt S 33 [.ref 86] H n (some (.int (zI (sumTo (fun p => szOf vr (dk p)) 12)))) H n := by
  refine Rm_of (M := xm33) (lv := [(0, _)]) rfl rfl rfl ?_
  refine Gq_s (pc' := 1) rfl rfl rfl ?_
  refine Gq_get (pc' := 4) rfl rfl (by first | assumption | exact upd_eq _ _ _ | (refine (upd_ne _ _ (by omega)).trans ?_; first | assumption | exact upd_eq _ _ _ | (refine (upd_ne _ _ (by omega)).trans ?_; first | assumption | exact upd_eq _ _ _ | (refine (upd_ne _ _ (by omega)).trans ?_; first | assumption | exact upd_eq _ _ _)))) (by exact rfl) ?_
  refine Gq_callv1 (pc' := 7) (Y := xm78) (rest := []) (st' := [_]) (ce' := 0) (sl' := 0) rfl rfl rfl rfl rfl rfl rfl rfl rfl (t_sizes (RG_vs hR) (Own_ch hD) D0 D1) rfl (by first | assumption | exact upd_eq _ _ _ | (refine (upd_ne _ _ (by omega)).trans ?_; first | assumption | exact upd_eq _ _ _ | (refine (upd_ne _ _ (by omega)).trans ?_; first | assumption | exact upd_eq _ _ _ | (refine (upd_ne _ _ (by omega)).trans ?_; first | assumption | exact upd_eq _ _ _)))) ?_
  exact Gq_ret rfl rfl (rfl) (⟨rfl, rfl, rfl⟩)
theorem t_isInst {S : ScT} {H : HF} (n : Nat) {P : Nat} {pid cnt : Nat → Nat} {vd gr : Nat → Nat → Nat} {vr : Nat → VR} {dr lt fc : Int} (hR : RG H P pid cnt vd gr vr) (h86 : H 86 = some (false, 7, pwF P dr lt fc)) {lk : Nat → Option Nat} (hL : ∀ q o, lk q = some o → Own P cnt vd q o) (L0 : H 90 = some (false, 2, [.ref 91, .ref 92])) (L1 : H 91 = some (true, 3, aR 12 lk)) {dk : Nat → Option Nat} (hD : ∀ q o, dk q = some o → Own P cnt vd q o) (D0 : H 93 = some (false, 2, [.ref 94, .ref 95])) (D1 : H 94 = some (true, 3, aR 12 dk)) : Rdt S 39 [.ref 86] H n (some (.int (zI (bI (decide (diffs lk dk = 0)))))) H n := by
  refine Rm_of (M := xm39) (lv := [(0, _)]) rfl rfl rfl ?_
  have hd := cntTo_le (fun p => decide (¬ lk p = dk p)) 12
  have hd2 : diffs lk dk ≤ 12 := hd
  refine Gq_s (pc' := 1) rfl rfl rfl ?_
  refine Gq_get (pc' := 4) rfl rfl (by first | assumption | exact upd_eq _ _ _ | (refine (upd_ne _ _ (by omega)).trans ?_; first | assumption | exact upd_eq _ _ _ | (refine (upd_ne _ _ (by omega)).trans ?_; first | assumption | exact upd_eq _ _ _ | (refine (upd_ne _ _ (by omega)).trans ?_; first | assumption | exact upd_eq _ _ _)))) (by exact rfl) ?_
  refine Gq_s (pc' := 5) rfl rfl rfl ?_
  refine Gq_get (pc' := 8) rfl rfl (by first | assumption | exact upd_eq _ _ _ | (refine (upd_ne _ _ (by omega)).trans ?_; first | assumption | exact upd_eq _ _ _ | (refine (upd_ne _ _ (by omega)).trans ?_; first | assumption | exact upd_eq _ _ _ | (refine (upd_ne _ _ (by omega)).trans ?_; first | assumption | exact upd_eq _ _ _)))) (by exact rfl) ?_
  refine Gq_callv1 (pc' := 11) (Y := xm76) (rest := []) (st' := [_]) (ce' := 0) (sl' := 0) rfl rfl rfl rfl rfl rfl rfl rfl rfl (t_diff (RG_vs hR) (Own_ch hL) (Own_ch hD) L0 L1 D0 D1) rfl (by first | assumption | exact upd_eq _ _ _ | (refine (upd_ne _ _ (by omega)).trans ?_; first | assumption | exact upd_eq _ _ _ | (refine (upd_ne _ _ (by omega)).trans ?_; first | assumption | exact upd_eq _ _ _ | (refine (upd_ne _ _ (by omega)).trans ?_; first | assumption | exact upd_eq _ _ _)))) ?_
  refine Gq_zne (pc' := 14) (t := 18) rfl rfl rfl (by omega) (fun hb => ?_) (fun hb => ?_)
  · refine Gq_s (pc' := 19) rfl rfl rfl ?_
    exact Gq_ret rfl rfl (rfl) (⟨by rw [decide_eq_false (by omega)]; rfl, rfl, rfl⟩)
  · refine Gq_s (pc' := 15) rfl rfl rfl ?_
    refine Gq_goto rfl (t := 19) rfl ?_
    exact Gq_ret rfl rfl (rfl) (⟨by rw [decide_eq_true (by omega)]; rfl, rfl, rfl⟩)
theorem t_featuresOf {S : ScT} {H : HF} (n : Nat) {p : Nat} {P : Nat} {pid cnt : Nat → Nat} {vd gr : Nat → Nat → Nat} {vr : Nat → VR} {dr lt fc : Int} (hR : RG H P pid cnt vd gr vr) (h86 : H 86 = some (false, 7, pwF P dr lt fc)) (hp : p < P) {lk : Nat → Option Nat} (hL : ∀ q o, lk q = some o → Own P cnt vd q o) (L0 : H 90 = some (false, 2, [.ref 91, .ref 92])) (L1 : H 91 = some (true, 3, aR 12 lk)) {lo : Nat → Nat} (L2 : H 92 = some (true, 0, aNt 12 lo)) {wl : List CR} (hW : WiAt H 88 wl) : Rdt S 15 [.ref 86, .int (zI (p : Int))] H n (some (.int (zI (onF vr lk wl p : Int)))) (hup H 92 (true, 0, aNt 12 (onF vr lk wl))) n := by
  refine Rm_of (M := xm15) (lv := [(0, _), (1, _)]) rfl rfl rfl ?_
  have hP := hR.1
  refine Gq_s (pc' := 1) rfl rfl rfl ?_
  refine Gq_s (pc' := 2) rfl rfl rfl ?_
  refine Gq_callv1 (pc' := 5) (Y := xm43) (rest := []) (st' := [_]) (ce' := 0) (sl' := 0) rfl rfl rfl rfl rfl rfl rfl rfl rfl (t_pti n hR h86 hp) rfl (by first | assumption | exact upd_eq _ _ _ | (refine (upd_ne _ _ (by omega)).trans ?_; first | assumption | exact upd_eq _ _ _ | (refine (upd_ne _ _ (by omega)).trans ?_; first | assumption | exact upd_eq _ _ _ | (refine (upd_ne _ _ (by omega)).trans ?_; first | assumption | exact upd_eq _ _ _)))) ?_
  refine Gq_s (pc' := 6) rfl rfl rfl ?_
  refine Gq_s (pc' := 7) rfl rfl rfl ?_
  refine Gq_get (pc' := 10) rfl rfl (by first | assumption | exact upd_eq _ _ _ | (refine (upd_ne _ _ (by omega)).trans ?_; first | assumption | exact upd_eq _ _ _ | (refine (upd_ne _ _ (by omega)).trans ?_; first | assumption | exact upd_eq _ _ _ | (refine (upd_ne _ _ (by omega)).trans ?_; first | assumption | exact upd_eq _ _ _)))) (by exact rfl) ?_
  refine Gq_s (pc' := 11) rfl rfl rfl ?_
  refine Gq_get (pc' := 14) rfl rfl (by first | assumption | exact upd_eq _ _ _ | (refine (upd_ne _ _ (by omega)).trans ?_; first | assumption | exact upd_eq _ _ _ | (refine (upd_ne _ _ (by omega)).trans ?_; first | assumption | exact upd_eq _ _ _ | (refine (upd_ne _ _ (by omega)).trans ?_; first | assumption | exact upd_eq _ _ _)))) (by exact rfl) ?_
  refine Gq_callv1 (pc' := 17) (Y := xm79) (rest := []) (st' := []) (ce' := 0) (sl' := 0) rfl rfl rfl rfl rfl rfl rfl rfl rfl (t_tof n (by omega) (Own_ch hL) (RG_vs hR) L0 L1 L2 (w := 88) (by omega) (by omega) hW) rfl (by first | assumption | exact upd_eq _ _ _ | (refine (upd_ne _ _ (by omega)).trans ?_; first | assumption | exact upd_eq _ _ _ | (refine (upd_ne _ _ (by omega)).trans ?_; first | assumption | exact upd_eq _ _ _ | (refine (upd_ne _ _ (by omega)).trans ?_; first | assumption | exact upd_eq _ _ _)))) ?_
  refine Gq_s (pc' := 18) rfl rfl rfl ?_
  refine Gq_get (pc' := 21) rfl rfl (by first | assumption | exact upd_eq _ _ _ | (refine (upd_ne _ _ (by omega)).trans ?_; first | assumption | exact upd_eq _ _ _ | (refine (upd_ne _ _ (by omega)).trans ?_; first | assumption | exact upd_eq _ _ _ | (refine (upd_ne _ _ (by omega)).trans ?_; first | assumption | exact upd_eq _ _ _)))) (by exact rfl) ?_
  refine Gq_get (pc' := 24) rfl rfl (by first | assumption | exact upd_eq _ _ _ | (refine (upd_ne _ _ (by omega)).trans ?_; first | assumption | exact upd_eq _ _ _ | (refine (upd_ne _ _ (by omega)).trans ?_; first | assumption | exact upd_eq _ _ _ | (refine (upd_ne _ _ (by omega)).trans ?_; first | assumption | exact upd_eq _ _ _)))) (by exact rfl) ?_
  refine Gq_s (pc' := 25) rfl rfl rfl ?_
  refine Gq_iald (pc' := 26) rfl rfl (by first | assumption | exact upd_eq _ _ _ | (refine (upd_ne _ _ (by omega)).trans ?_; first | assumption | exact upd_eq _ _ _ | (refine (upd_ne _ _ (by omega)).trans ?_; first | assumption | exact upd_eq _ _ _ | (refine (upd_ne _ _ (by omega)).trans ?_; first | assumption | exact upd_eq _ _ _)))) (rfl) (by omega) (by omega) ?_
  exact Gq_ret rfl rfl (rfl) (⟨rfl, rfl, rfl⟩)
theorem t_isSound {S : ScT} {H : HF} (n : Nat) {P : Nat} {pid cnt : Nat → Nat} {vd gr : Nat → Nat → Nat} {vr : Nat → VR} {dr lt fc : Int} (hR : RG H P pid cnt vd gr vr) (h86 : H 86 = some (false, 7, pwF P dr lt fc)) {lk : Nat → Option Nat} (hL : ∀ q o, lk q = some o → Own P cnt vd q o) (L0 : H 90 = some (false, 2, [.ref 91, .ref 92])) (L1 : H 91 = some (true, 3, aR 12 lk)) {lo : Nat → Nat} (L2 : H 92 = some (true, 0, aNt 12 lo)) {wl : List CR} (hW : WiAt H 88 wl) : Rdt S 16 [.ref 86] H n (some (.int (zI (bI (mtsB vr lk (onF vr lk wl) wl true))))) (hup H 92 (true, 0, aNt 12 (onF vr lk wl))) n := by
  refine Rm_of (M := xm16) (lv := [(0, _)]) rfl rfl rfl ?_
  have ho := onF_16 (NOK_of (RG_vs hR) (Own_ch hL)) (WiAt_ok hW)
  refine Gq_s (pc' := 1) rfl rfl rfl ?_
  refine Gq_get (pc' := 4) rfl rfl (by first | assumption | exact upd_eq _ _ _ | (refine (upd_ne _ _ (by omega)).trans ?_; first | assumption | exact upd_eq _ _ _ | (refine (upd_ne _ _ (by omega)).trans ?_; first | assumption | exact upd_eq _ _ _ | (refine (upd_ne _ _ (by omega)).trans ?_; first | assumption | exact upd_eq _ _ _)))) (by exact rfl) ?_
  refine Gq_s (pc' := 5) rfl rfl rfl ?_
  refine Gq_get (pc' := 8) rfl rfl (by first | assumption | exact upd_eq _ _ _ | (refine (upd_ne _ _ (by omega)).trans ?_; first | assumption | exact upd_eq _ _ _ | (refine (upd_ne _ _ (by omega)).trans ?_; first | assumption | exact upd_eq _ _ _ | (refine (upd_ne _ _ (by omega)).trans ?_; first | assumption | exact upd_eq _ _ _)))) (by exact rfl) ?_
  refine Gq_callv1 (pc' := 11) (Y := xm79) (rest := []) (st' := []) (ce' := 0) (sl' := 0) rfl rfl rfl rfl rfl rfl rfl rfl rfl (t_tof n (by omega) (Own_ch hL) (RG_vs hR) L0 L1 L2 (w := 88) (by omega) (by omega) hW) rfl (by first | assumption | exact upd_eq _ _ _ | (refine (upd_ne _ _ (by omega)).trans ?_; first | assumption | exact upd_eq _ _ _ | (refine (upd_ne _ _ (by omega)).trans ?_; first | assumption | exact upd_eq _ _ _ | (refine (upd_ne _ _ (by omega)).trans ?_; first | assumption | exact upd_eq _ _ _)))) ?_
  refine Gq_s (pc' := 12) rfl rfl rfl ?_
  refine Gq_get (pc' := 15) rfl rfl (by first | assumption | exact upd_eq _ _ _ | (refine (upd_ne _ _ (by omega)).trans ?_; first | assumption | exact upd_eq _ _ _ | (refine (upd_ne _ _ (by omega)).trans ?_; first | assumption | exact upd_eq _ _ _ | (refine (upd_ne _ _ (by omega)).trans ?_; first | assumption | exact upd_eq _ _ _)))) (by exact rfl) ?_
  refine Gq_s (pc' := 16) rfl rfl rfl ?_
  refine Gq_get (pc' := 19) rfl rfl (by first | assumption | exact upd_eq _ _ _ | (refine (upd_ne _ _ (by omega)).trans ?_; first | assumption | exact upd_eq _ _ _ | (refine (upd_ne _ _ (by omega)).trans ?_; first | assumption | exact upd_eq _ _ _ | (refine (upd_ne _ _ (by omega)).trans ?_; first | assumption | exact upd_eq _ _ _)))) (by exact rfl) ?_
  refine Gq_s (pc' := 20) rfl rfl rfl ?_
  refine Gq_callv1 (pc' := 23) (Y := xm82) (rest := []) (st' := [_]) (ce' := 0) (sl' := 0) rfl rfl rfl rfl rfl rfl rfl rfl rfl (t_meets (whole := true) (VS_upd (by omega) (RG_vs hR)) (Own_ch hL) (by rw [upd_ne _ _ (by omega)]; exact L0) (by rw [upd_ne _ _ (by omega)]; exact L1) (upd_eq _ _ _) ho (WiAt_upd (by omega) (by omega) (by omega) hW)) rfl (by first | assumption | exact upd_eq _ _ _ | (refine (upd_ne _ _ (by omega)).trans ?_; first | assumption | exact upd_eq _ _ _ | (refine (upd_ne _ _ (by omega)).trans ?_; first | assumption | exact upd_eq _ _ _ | (refine (upd_ne _ _ (by omega)).trans ?_; first | assumption | exact upd_eq _ _ _)))) ?_
  exact Gq_ret rfl rfl (xret_b _) (⟨rfl, rfl, rfl⟩)
theorem t_versions {S : ScT} {H : HF} (n : Nat) {p : Nat} {P : Nat} {pid cnt : Nat → Nat} {vd gr : Nat → Nat → Nat} {vr : Nat → VR} {dr lt fc : Int} (hR : RG H P pid cnt vd gr vr) (h86 : H 86 = some (false, 7, pwF P dr lt fc)) (hp : p < P) : Rdt S 7 [.ref 86, .int (zI (p : Int))] H n (some (.int (zI (cnt p : Int)))) H n := by
  refine Rm_of (M := xm7) (lv := [(0, _), (1, _)]) rfl rfl rfl ?_
  obtain ⟨hk9, hc8, h0, -⟩ := hR.2.2.1 p hp
  refine Gq_s (pc' := 1) rfl rfl rfl ?_
  refine Gq_s (pc' := 2) rfl rfl rfl ?_
  refine Gq_callv1 (pc' := 5) (Y := xm43) (rest := []) (st' := [_]) (ce' := 0) (sl' := 0) rfl rfl rfl rfl rfl rfl rfl rfl rfl (t_pti n hR h86 hp) rfl (by first | assumption | exact upd_eq _ _ _ | (refine (upd_ne _ _ (by omega)).trans ?_; first | assumption | exact upd_eq _ _ _ | (refine (upd_ne _ _ (by omega)).trans ?_; first | assumption | exact upd_eq _ _ _ | (refine (upd_ne _ _ (by omega)).trans ?_; first | assumption | exact upd_eq _ _ _)))) ?_
  refine Gq_get (pc' := 8) rfl rfl (by first | assumption | exact upd_eq _ _ _ | (refine (upd_ne _ _ (by omega)).trans ?_; first | assumption | exact upd_eq _ _ _ | (refine (upd_ne _ _ (by omega)).trans ?_; first | assumption | exact upd_eq _ _ _ | (refine (upd_ne _ _ (by omega)).trans ?_; first | assumption | exact upd_eq _ _ _)))) (by exact rfl) ?_
  exact Gq_ret rfl rfl (rfl) (⟨rfl, rfl, rfl⟩)
theorem t_versionAt {S : ScT} {H : HF} (n : Nat) {p i : Nat} {P : Nat} {pid cnt : Nat → Nat} {vd gr : Nat → Nat → Nat} {vr : Nat → VR} {dr lt fc : Int} (hR : RG H P pid cnt vd gr vr) (h86 : H 86 = some (false, 7, pwF P dr lt fc)) (hp : p < P) (hi : i < cnt p) : Rdt S 8 [.ref 86, .int (zI (p : Int)), .int (zI (i : Int))] H n (some (.int (zI (vN (vr (gr p i)) : Int)))) H n := by
  refine Rm_of (M := xm8) (lv := [(0, _), (1, _), (2, _)]) rfl rfl rfl ?_
  have hpk := hR.2.2.1 p hp
  have hc8 := hpk.2.1
  have hpk0 := hpk
  obtain ⟨hk9, -, h0, -⟩ := hpk0
  obtain ⟨j, hj, hgj⟩ := hR.2.2.2.2.1 p i hp hi
  have hv := (hR.2.2.2.1 p j hp hj).1
  rw [← hgj] at hv
  obtain ⟨-, -, f, g, h1, -⟩ := hv
  refine Gq_s (pc' := 1) rfl rfl rfl ?_
  refine Gq_s (pc' := 2) rfl rfl rfl ?_
  refine Gq_callv1 (pc' := 5) (Y := xm43) (rest := []) (st' := [_]) (ce' := 0) (sl' := 0) rfl rfl rfl rfl rfl rfl rfl rfl rfl (t_pti n hR h86 hp) rfl (by first | assumption | exact upd_eq _ _ _ | (refine (upd_ne _ _ (by omega)).trans ?_; first | assumption | exact upd_eq _ _ _ | (refine (upd_ne _ _ (by omega)).trans ?_; first | assumption | exact upd_eq _ _ _ | (refine (upd_ne _ _ (by omega)).trans ?_; first | assumption | exact upd_eq _ _ _)))) ?_
  refine Gq_s (pc' := 6) rfl rfl rfl ?_
  refine Gq_callv1 (pc' := 9) (Y := xm95) (rest := []) (st' := [_]) (ce' := 0) (sl' := 0) rfl rfl rfl rfl rfl rfl rfl rfl rfl (t_ranked n hpk (by omega)) rfl (by first | assumption | exact upd_eq _ _ _ | (refine (upd_ne _ _ (by omega)).trans ?_; first | assumption | exact upd_eq _ _ _ | (refine (upd_ne _ _ (by omega)).trans ?_; first | assumption | exact upd_eq _ _ _ | (refine (upd_ne _ _ (by omega)).trans ?_; first | assumption | exact upd_eq _ _ _)))) ?_
  rw [if_pos hi, if_pos hi]
  refine Gq_astv (pc' := 10) (lv' := [(0, _), (1, _), (2, _), (3, _)]) (k := 3) rfl (fun _ _ => rfl) rfl rfl ?_
  refine Gq_s (pc' := 11) rfl rfl rfl ?_
  refine Gq_non_r rfl (t := 24) rfl ?_
  refine Gq_s (pc' := 25) rfl rfl rfl ?_
  refine Gq_get (pc' := 28) rfl rfl (by first | assumption | exact upd_eq _ _ _ | (refine (upd_ne _ _ (by omega)).trans ?_; first | assumption | exact upd_eq _ _ _ | (refine (upd_ne _ _ (by omega)).trans ?_; first | assumption | exact upd_eq _ _ _ | (refine (upd_ne _ _ (by omega)).trans ?_; first | assumption | exact upd_eq _ _ _)))) (by exact rfl) ?_
  exact Gq_ret rfl rfl (rfl) (⟨rfl, rfl, rfl⟩)
theorem t_nb_l {S : ScT} {H : HF} {n p : Nat} {P : Nat} {pid cnt : Nat → Nat} {vd gr : Nat → Nat → Nat} {vr : Nat → VR} {dr lt fc : Int} (hR : RG H P pid cnt vd gr vr) (h86 : H 86 = some (false, 7, pwF P dr lt fc)) (hp : p < 12) {lk : Nat → Option Nat} (hL : ∀ q o, lk q = some o → Own P cnt vd q o) (L0 : H 90 = some (false, 2, [.ref 91, .ref 92])) (L1 : H 91 = some (true, 3, aR 12 lk)) {on : Nat → Nat} (ho : o16 on) (L2 : H 92 = some (true, 0, aNt 12 on)) : ∀ (k j : Nat), j + k = 12 → Gw S xm21 21 [(0, .ref 86), (1, .int (zI (p : Int))), (2, .int (zI (cntTo (fun q => (nMask vr lk on q).testBit p) j : Int))), (3, .int (zI (j : Int)))] [] H n 0 0 (MQe xm21 (fun v G m => v = some (.int (zI (cntTo (fun q => (nMask vr lk on q).testBit p) 12 : Int))) ∧ G = H ∧ m = n)) := by
  intro k
  induction k with
  | zero =>
    intro j hj
    obtain rfl : j = 12 := by omega
    refine Gq_s (pc' := 22) rfl rfl rfl ?_
    refine Gq_bipush (pc' := 24) rfl rfl (by decide) ?_
    refine Gq_cge (pc' := 27) (t := 51) rfl rfl rfl (by omega) (by omega) (fun _ => ?_) (fun hq => absurd (by omega) hq)
    refine Gq_s (pc' := 52) rfl rfl rfl ?_
    exact Gq_ret rfl rfl (rfl) (⟨rfl, rfl, rfl⟩)
  | succ k ih =>
    intro j hj
    have hm := nMask_lt (on := on) (RG_vs hR) (Own_ch hL) (show j < 12 by omega)
    refine Gq_s (pc' := 22) rfl rfl rfl ?_
    refine Gq_bipush (pc' := 24) rfl rfl (by decide) ?_
    refine Gq_cge (pc' := 27) (t := 51) rfl rfl rfl (by omega) (by omega) (fun hq => absurd hq (by omega)) (fun _ => ?_)
    refine Gq_s (pc' := 28) rfl rfl rfl ?_
    refine Gq_get (pc' := 31) rfl rfl (by first | assumption | exact upd_eq _ _ _ | (refine (upd_ne _ _ (by omega)).trans ?_; first | assumption | exact upd_eq _ _ _ | (refine (upd_ne _ _ (by omega)).trans ?_; first | assumption | exact upd_eq _ _ _ | (refine (upd_ne _ _ (by omega)).trans ?_; first | assumption | exact upd_eq _ _ _)))) (by exact rfl) ?_
    refine Gq_s (pc' := 32) rfl rfl rfl ?_
    refine Gq_callv1 (pc' := 35) (Y := xm86) (rest := []) (st' := [_]) (ce' := 0) (sl' := 0) rfl rfl rfl rfl rfl rfl rfl rfl rfl (t_nf (RG_vs hR) (Own_ch hL) L0 L1 L2 ho (by omega)) rfl (by first | assumption | exact upd_eq _ _ _ | (refine (upd_ne _ _ (by omega)).trans ?_; first | assumption | exact upd_eq _ _ _ | (refine (upd_ne _ _ (by omega)).trans ?_; first | assumption | exact upd_eq _ _ _ | (refine (upd_ne _ _ (by omega)).trans ?_; first | assumption | exact upd_eq _ _ _)))) ?_
    refine Gq_s (pc' := 36) rfl rfl rfl ?_
    refine Gq_calls1 (pc' := 39) (Y := xm61) (rest := []) (st' := [_]) (ce' := 0) (sl' := 0) rfl rfl rfl rfl rfl rfl rfl rfl rfl rfl (t_isIn H n (zI (nMask vr lk on j : Int)) p) rfl ?_
    rw [isInB_z hm (by omega)]
    refine Gq_beq (pc' := 42) (t := 45) rfl rfl rfl (fun hb => ?_) (fun hb => ?_)
    · refine Gq_iinc (pc' := 48) (lv' := [(0, _), (1, _), (2, _), (3, _)]) rfl rfl rfl rfl ?_
      refine Gq_goto rfl (t := 21) rfl ?_
      have e : cntTo (fun q => (nMask vr lk on q).testBit p) (j + 1) = cntTo (fun q => (nMask vr lk on q).testBit p) j := by
        show cntTo _ j + (if (nMask vr lk on j).testBit p then 1 else 0) = _
        rw [hb]
        rfl
      have := ih (j + 1) (by omega)
      rw [e] at this
      exact this
    · refine Gq_iinc (pc' := 45) (lv' := [(0, _), (1, _), (2, _), (3, _)]) rfl rfl rfl rfl ?_
      refine Gq_iinc (pc' := 48) (lv' := [(0, _), (1, _), (2, _), (3, _)]) rfl rfl rfl rfl ?_
      refine Gq_goto rfl (t := 21) rfl ?_
      have e : cntTo (fun q => (nMask vr lk on q).testBit p) (j + 1) = cntTo (fun q => (nMask vr lk on q).testBit p) j + 1 := by
        show cntTo _ j + (if (nMask vr lk on j).testBit p then 1 else 0) = _
        rw [hb]
        rfl
      have := ih (j + 1) (by omega)
      rw [e] at this
      exact this
theorem t_neededBy {S : ScT} {H : HF} (n : Nat) {p : Nat} {P : Nat} {pid cnt : Nat → Nat} {vd gr : Nat → Nat → Nat} {vr : Nat → VR} {dr lt fc : Int} (hR : RG H P pid cnt vd gr vr) (h86 : H 86 = some (false, 7, pwF P dr lt fc)) (hp : p < P) {lk : Nat → Option Nat} (hL : ∀ q o, lk q = some o → Own P cnt vd q o) (L0 : H 90 = some (false, 2, [.ref 91, .ref 92])) (L1 : H 91 = some (true, 3, aR 12 lk)) {lo : Nat → Nat} (L2 : H 92 = some (true, 0, aNt 12 lo)) {wl : List CR} (hW : WiAt H 88 wl) : Rdt S 21 [.ref 86, .int (zI (p : Int))] H n (some (.int (zI (cntTo (fun q => (nMask vr lk (onF vr lk wl) q).testBit p) 12 : Int)))) (hup H 92 (true, 0, aNt 12 (onF vr lk wl))) n := by
  refine Rm_of (M := xm21) (lv := [(0, _), (1, _)]) rfl rfl rfl ?_
  have hP := hR.1
  have ho := onF_16 (NOK_of (RG_vs hR) (Own_ch hL)) (WiAt_ok hW)
  refine Gq_s (pc' := 1) rfl rfl rfl ?_
  refine Gq_s (pc' := 2) rfl rfl rfl ?_
  refine Gq_callv1 (pc' := 5) (Y := xm43) (rest := []) (st' := [_]) (ce' := 0) (sl' := 0) rfl rfl rfl rfl rfl rfl rfl rfl rfl (t_pti n hR h86 hp) rfl (by first | assumption | exact upd_eq _ _ _ | (refine (upd_ne _ _ (by omega)).trans ?_; first | assumption | exact upd_eq _ _ _ | (refine (upd_ne _ _ (by omega)).trans ?_; first | assumption | exact upd_eq _ _ _ | (refine (upd_ne _ _ (by omega)).trans ?_; first | assumption | exact upd_eq _ _ _)))) ?_
  refine Gq_s (pc' := 6) rfl rfl rfl ?_
  refine Gq_s (pc' := 7) rfl rfl rfl ?_
  refine Gq_get (pc' := 10) rfl rfl (by first | assumption | exact upd_eq _ _ _ | (refine (upd_ne _ _ (by omega)).trans ?_; first | assumption | exact upd_eq _ _ _ | (refine (upd_ne _ _ (by omega)).trans ?_; first | assumption | exact upd_eq _ _ _ | (refine (upd_ne _ _ (by omega)).trans ?_; first | assumption | exact upd_eq _ _ _)))) (by exact rfl) ?_
  refine Gq_s (pc' := 11) rfl rfl rfl ?_
  refine Gq_get (pc' := 14) rfl rfl (by first | assumption | exact upd_eq _ _ _ | (refine (upd_ne _ _ (by omega)).trans ?_; first | assumption | exact upd_eq _ _ _ | (refine (upd_ne _ _ (by omega)).trans ?_; first | assumption | exact upd_eq _ _ _ | (refine (upd_ne _ _ (by omega)).trans ?_; first | assumption | exact upd_eq _ _ _)))) (by exact rfl) ?_
  refine Gq_callv1 (pc' := 17) (Y := xm79) (rest := []) (st' := []) (ce' := 0) (sl' := 0) rfl rfl rfl rfl rfl rfl rfl rfl rfl (t_tof n (by omega) (Own_ch hL) (RG_vs hR) L0 L1 L2 (w := 88) (by omega) (by omega) hW) rfl (by first | assumption | exact upd_eq _ _ _ | (refine (upd_ne _ _ (by omega)).trans ?_; first | assumption | exact upd_eq _ _ _ | (refine (upd_ne _ _ (by omega)).trans ?_; first | assumption | exact upd_eq _ _ _ | (refine (upd_ne _ _ (by omega)).trans ?_; first | assumption | exact upd_eq _ _ _)))) ?_
  refine Gq_s (pc' := 18) rfl rfl rfl ?_
  refine Gq_s (pc' := 19) (lv' := [(0, _), (1, _), (2, _)]) rfl rfl rfl ?_
  refine Gq_s (pc' := 20) rfl rfl rfl ?_
  refine Gq_s (pc' := 21) (lv' := [(0, _), (1, _), (2, _), (3, _)]) rfl rfl rfl ?_
  exact t_nb_l (RG_hi (Hi_upd (Hi_refl _) (by omega)) (upd_ne _ _ (by omega)) hR) (by rw [upd_ne _ _ (by omega)]; exact h86) (by omega) hL (by rw [upd_ne _ _ (by omega)]; exact L0) (by rw [upd_ne _ _ (by omega)]; exact L1) ho (upd_eq _ _ _) 12 0 rfl
def gOff (vr : Nat → VR) (g : Nat → Nat) : Nat → Nat → Option Nat
  | 0, _ => none
  | k + 1, i => if vW (vr (g i)) then gOff vr g k (i + 1) else some (g i)
def newF (vr : Nat → VR) (x y : Option Nat) : Int :=
  match x, y with
  | some g, some o => if vM (vr o) < vM (vr g) then (vN (vr g) : Int) else -1
  | _, _ => -1
theorem t_go_l {S : ScT} {H : HF} {n p : Nat} {P : Nat} {pid cnt : Nat → Nat} {vd gr : Nat → Nat → Nat} {vr : Nat → VR} {dr lt fc : Int} (hR : RG H P pid cnt vd gr vr) (h86 : H 86 = some (false, 7, pwF P dr lt fc)) (hp : p < P) : ∀ (k j : Nat), j + k = cnt p → Gw S xm96 2 [(0, .ref (pid p)), (1, .int (zI (j : Int)))] [] H n 0 0 (MQe xm96 (fun v G m => v = some (rvl (gOff vr (gr p) k j)) ∧ G = H ∧ m = n)) := by
  have hpk := hR.2.2.1 p hp
  obtain ⟨hk9, hc8, h0, h1, h2⟩ := hpk
  intro k
  induction k with
  | zero =>
    intro j hj
    refine Gq_s (pc' := 3) rfl rfl rfl ?_
    refine Gq_s (pc' := 4) rfl rfl rfl ?_
    refine Gq_get (pc' := 7) rfl rfl (by first | assumption | exact upd_eq _ _ _ | (refine (upd_ne _ _ (by omega)).trans ?_; first | assumption | exact upd_eq _ _ _ | (refine (upd_ne _ _ (by omega)).trans ?_; first | assumption | exact upd_eq _ _ _ | (refine (upd_ne _ _ (by omega)).trans ?_; first | assumption | exact upd_eq _ _ _)))) (by exact rfl) ?_
    refine Gq_cge (pc' := 10) (t := 35) rfl rfl rfl (by omega) (by omega) (fun _ => ?_) (fun hq => absurd (by omega) hq)
    refine Gq_s (pc' := 36) rfl rfl rfl ?_
    exact Gq_ret rfl rfl (rfl) (⟨rfl, rfl, rfl⟩)
  | succ k ih =>
    intro j hj
    obtain ⟨i, hi, hgi⟩ := hR.2.2.2.2.1 p j hp (by omega)
    have hv := (hR.2.2.2.1 p i hp hi).1
    rw [← hgi] at hv
    obtain ⟨-, -, f, g, h5, -⟩ := hv
    refine Gq_s (pc' := 3) rfl rfl rfl ?_
    refine Gq_s (pc' := 4) rfl rfl rfl ?_
    refine Gq_get (pc' := 7) rfl rfl (by first | assumption | exact upd_eq _ _ _ | (refine (upd_ne _ _ (by omega)).trans ?_; first | assumption | exact upd_eq _ _ _ | (refine (upd_ne _ _ (by omega)).trans ?_; first | assumption | exact upd_eq _ _ _ | (refine (upd_ne _ _ (by omega)).trans ?_; first | assumption | exact upd_eq _ _ _)))) (by exact rfl) ?_
    refine Gq_cge (pc' := 10) (t := 35) rfl rfl rfl (by omega) (by omega) (fun hq => absurd hq (by omega)) (fun _ => ?_)
    refine Gq_s (pc' := 11) rfl rfl rfl ?_
    refine Gq_get (pc' := 14) rfl rfl (by first | assumption | exact upd_eq _ _ _ | (refine (upd_ne _ _ (by omega)).trans ?_; first | assumption | exact upd_eq _ _ _ | (refine (upd_ne _ _ (by omega)).trans ?_; first | assumption | exact upd_eq _ _ _ | (refine (upd_ne _ _ (by omega)).trans ?_; first | assumption | exact upd_eq _ _ _)))) (by exact rfl) ?_
    refine Gq_s (pc' := 15) rfl rfl rfl ?_
    refine Gq_aald (pc' := 16) rfl rfl (by first | assumption | exact upd_eq _ _ _ | (refine (upd_ne _ _ (by omega)).trans ?_; first | assumption | exact upd_eq _ _ _ | (refine (upd_ne _ _ (by omega)).trans ?_; first | assumption | exact upd_eq _ _ _ | (refine (upd_ne _ _ (by omega)).trans ?_; first | assumption | exact upd_eq _ _ _)))) (by exact rfl) (rfl) (by omega) (by omega) (rv_if (show j < cnt p by omega)) ?_
    refine Gq_get (pc' := 19) rfl rfl (by first | assumption | exact upd_eq _ _ _ | (refine (upd_ne _ _ (by omega)).trans ?_; first | assumption | exact upd_eq _ _ _ | (refine (upd_ne _ _ (by omega)).trans ?_; first | assumption | exact upd_eq _ _ _ | (refine (upd_ne _ _ (by omega)).trans ?_; first | assumption | exact upd_eq _ _ _)))) (by exact rfl) ?_
    refine Gq_bne (pc' := 22) (t := 29) rfl rfl rfl (fun hb => ?_) (fun hb => ?_)
    · refine Gq_iinc (pc' := 32) (lv' := [(0, _), (1, _)]) rfl rfl rfl rfl ?_
      refine Gq_goto rfl (t := 2) rfl ?_
      rw [gOff, if_pos hb]
      exact ih (j + 1) (by omega)
    · refine Gq_s (pc' := 23) rfl rfl rfl ?_
      refine Gq_get (pc' := 26) rfl rfl (by first | assumption | exact upd_eq _ _ _ | (refine (upd_ne _ _ (by omega)).trans ?_; first | assumption | exact upd_eq _ _ _ | (refine (upd_ne _ _ (by omega)).trans ?_; first | assumption | exact upd_eq _ _ _ | (refine (upd_ne _ _ (by omega)).trans ?_; first | assumption | exact upd_eq _ _ _)))) (by exact rfl) ?_
      refine Gq_s (pc' := 27) rfl rfl rfl ?_
      refine Gq_aald (pc' := 28) rfl rfl (by first | assumption | exact upd_eq _ _ _ | (refine (upd_ne _ _ (by omega)).trans ?_; first | assumption | exact upd_eq _ _ _ | (refine (upd_ne _ _ (by omega)).trans ?_; first | assumption | exact upd_eq _ _ _ | (refine (upd_ne _ _ (by omega)).trans ?_; first | assumption | exact upd_eq _ _ _)))) (by exact rfl) (rfl) (by omega) (by omega) (rv_if (show j < cnt p by omega)) ?_
      exact Gq_ret rfl rfl (rfl) (⟨by rw [gOff, if_neg (by rw [hb]; exact fun q => nomatch q)]; rfl, rfl, rfl⟩)
theorem t_greatest {S : ScT} {H : HF} (n : Nat) {p : Nat} {P : Nat} {pid cnt : Nat → Nat} {vd gr : Nat → Nat → Nat} {vr : Nat → VR} {dr lt fc : Int} (hR : RG H P pid cnt vd gr vr) (h86 : H 86 = some (false, 7, pwF P dr lt fc)) (hp : p < P) : Rdt S 96 [.ref (pid p)] H n (some (rvl (gOff vr (gr p) (cnt p) 0))) H n := by
  refine Rm_of (M := xm96) (lv := [(0, _)]) rfl rfl rfl ?_
  refine Gq_s (pc' := 1) rfl rfl rfl ?_
  refine Gq_s (pc' := 2) (lv' := [(0, _), (1, _)]) rfl rfl rfl ?_
  exact t_go_l hR h86 hp (cnt p) 0 (by omega)
theorem gOff_in {vr : Nat → VR} {g : Nat → Nat} {x : Nat} : ∀ {k i : Nat}, gOff vr g k i = some x → ∃ j, i ≤ j ∧ j < i + k ∧ x = g j ∧ vW (vr x) = false
  | 0, i, h => by cases h
  | k + 1, i, h => by
    unfold gOff at h
    split at h
    · obtain ⟨j, h1, h2, h3, h4⟩ := gOff_in h
      exact ⟨j, by omega, by omega, h3, h4⟩
    · rename_i hw
      cases h
      exact ⟨i, by omega, by omega, rfl, by cases hh : vW (vr (g i)) with
        | false => rfl
        | true => exact absurd hh hw⟩
theorem t_newer {S : ScT} {H : HF} (n : Nat) {p : Nat} {P : Nat} {pid cnt : Nat → Nat} {vd gr : Nat → Nat → Nat} {vr : Nat → VR} {dr lt fc : Int} (hR : RG H P pid cnt vd gr vr) (h86 : H 86 = some (false, 7, pwF P dr lt fc)) (hp : p < P) {lk : Nat → Option Nat} (hL : ∀ q o, lk q = some o → Own P cnt vd q o) (L0 : H 90 = some (false, 2, [.ref 91, .ref 92])) (L1 : H 91 = some (true, 3, aR 12 lk)) : Rdt S 22 [.ref 86, .int (zI (p : Int))] H n (some (.int (zI (newF vr (gOff vr (gr p) (cnt p) 0) (lk p))))) H n := by
  refine Rm_of (M := xm22) (lv := [(0, _), (1, _)]) rfl rfl rfl ?_
  have hP := hR.1
  obtain ⟨hk9, hc8, h0, -⟩ := hR.2.2.1 p hp
  refine Gq_s (pc' := 1) rfl rfl rfl ?_
  refine Gq_s (pc' := 2) rfl rfl rfl ?_
  refine Gq_callv1 (pc' := 5) (Y := xm43) (rest := []) (st' := [_]) (ce' := 0) (sl' := 0) rfl rfl rfl rfl rfl rfl rfl rfl rfl (t_pti n hR h86 hp) rfl (by first | assumption | exact upd_eq _ _ _ | (refine (upd_ne _ _ (by omega)).trans ?_; first | assumption | exact upd_eq _ _ _ | (refine (upd_ne _ _ (by omega)).trans ?_; first | assumption | exact upd_eq _ _ _ | (refine (upd_ne _ _ (by omega)).trans ?_; first | assumption | exact upd_eq _ _ _)))) ?_
  refine Gq_callv1 (pc' := 8) (Y := xm96) (rest := []) (st' := [_]) (ce' := 0) (sl' := 0) rfl rfl rfl rfl rfl rfl rfl rfl rfl (t_greatest n hR h86 hp) rfl (by first | assumption | exact upd_eq _ _ _ | (refine (upd_ne _ _ (by omega)).trans ?_; first | assumption | exact upd_eq _ _ _ | (refine (upd_ne _ _ (by omega)).trans ?_; first | assumption | exact upd_eq _ _ _ | (refine (upd_ne _ _ (by omega)).trans ?_; first | assumption | exact upd_eq _ _ _)))) ?_
  have hgo : ∀ x, gOff vr (gr p) (cnt p) 0 = some x → VerAt H x (vr x) := fun x hx => by
    obtain ⟨j, -, hj, rfl, -⟩ := gOff_in hx
    obtain ⟨i, hi, hgi⟩ := hR.2.2.2.2.1 p j hp (by omega)
    rw [hgi]
    exact (hR.2.2.2.1 p i hp hi).1
  have hlo : ∀ x, lk p = some x → VerAt H x (vr x) := fun x hx => RG_vs hR x ⟨p, hL p x hx⟩
  generalize gOff vr (gr p) (cnt p) 0 = go at hgo
  cases go with
  | none =>
    refine Gq_s (pc' := 9) (lv' := [(0, _), (1, _), (2, _)]) rfl rfl rfl ?_
    refine Gq_s (pc' := 10) rfl rfl rfl ?_
    refine Gq_get (pc' := 13) rfl rfl (by first | assumption | exact upd_eq _ _ _ | (refine (upd_ne _ _ (by omega)).trans ?_; first | assumption | exact upd_eq _ _ _ | (refine (upd_ne _ _ (by omega)).trans ?_; first | assumption | exact upd_eq _ _ _ | (refine (upd_ne _ _ (by omega)).trans ?_; first | assumption | exact upd_eq _ _ _)))) (by exact rfl) ?_
    refine Gq_get (pc' := 16) rfl rfl (by first | assumption | exact upd_eq _ _ _ | (refine (upd_ne _ _ (by omega)).trans ?_; first | assumption | exact upd_eq _ _ _ | (refine (upd_ne _ _ (by omega)).trans ?_; first | assumption | exact upd_eq _ _ _ | (refine (upd_ne _ _ (by omega)).trans ?_; first | assumption | exact upd_eq _ _ _)))) (by exact rfl) ?_
    refine Gq_s (pc' := 17) rfl rfl rfl ?_
    refine Gq_aalx (pc' := 18) rfl rfl (by first | assumption | exact upd_eq _ _ _ | (refine (upd_ne _ _ (by omega)).trans ?_; first | assumption | exact upd_eq _ _ _ | (refine (upd_ne _ _ (by omega)).trans ?_; first | assumption | exact upd_eq _ _ _ | (refine (upd_ne _ _ (by omega)).trans ?_; first | assumption | exact upd_eq _ _ _)))) (by exact rfl) (rfl) (by omega) (by omega) (fun hx => ?_) (fun q hx => ?_)
    · refine Gq_s (pc' := 19) (lv' := [(0, _), (1, _), (2, _), (3, _)]) rfl rfl rfl ?_
      refine Gq_s (pc' := 20) rfl rfl rfl ?_
      refine Gq_nul_n rfl (t := 38) rfl ?_
      refine Gq_s (pc' := 39) rfl rfl rfl ?_
      exact Gq_ret rfl rfl (rfl) (⟨rfl, rfl, rfl⟩)
    · refine Gq_s (pc' := 19) (lv' := [(0, _), (1, _), (2, _), (3, _)]) rfl rfl rfl ?_
      refine Gq_s (pc' := 20) rfl rfl rfl ?_
      refine Gq_nul_r (pc' := 23) (t := 38) rfl rfl rfl ?_
      refine Gq_s (pc' := 24) rfl rfl rfl ?_
      refine Gq_nul_n rfl (t := 38) rfl ?_
      refine Gq_s (pc' := 39) rfl rfl rfl ?_
      exact Gq_ret rfl rfl (rfl) (⟨rfl, rfl, rfl⟩)
  | some g =>
    obtain ⟨-, ⟨-, hM, -⟩, f, g2, h5, -⟩ := hgo g rfl
    refine Gq_s (pc' := 9) (lv' := [(0, _), (1, _), (2, _)]) rfl rfl rfl ?_
    refine Gq_s (pc' := 10) rfl rfl rfl ?_
    refine Gq_get (pc' := 13) rfl rfl (by first | assumption | exact upd_eq _ _ _ | (refine (upd_ne _ _ (by omega)).trans ?_; first | assumption | exact upd_eq _ _ _ | (refine (upd_ne _ _ (by omega)).trans ?_; first | assumption | exact upd_eq _ _ _ | (refine (upd_ne _ _ (by omega)).trans ?_; first | assumption | exact upd_eq _ _ _)))) (by exact rfl) ?_
    refine Gq_get (pc' := 16) rfl rfl (by first | assumption | exact upd_eq _ _ _ | (refine (upd_ne _ _ (by omega)).trans ?_; first | assumption | exact upd_eq _ _ _ | (refine (upd_ne _ _ (by omega)).trans ?_; first | assumption | exact upd_eq _ _ _ | (refine (upd_ne _ _ (by omega)).trans ?_; first | assumption | exact upd_eq _ _ _)))) (by exact rfl) ?_
    refine Gq_s (pc' := 17) rfl rfl rfl ?_
    refine Gq_aalx (pc' := 18) rfl rfl (by first | assumption | exact upd_eq _ _ _ | (refine (upd_ne _ _ (by omega)).trans ?_; first | assumption | exact upd_eq _ _ _ | (refine (upd_ne _ _ (by omega)).trans ?_; first | assumption | exact upd_eq _ _ _ | (refine (upd_ne _ _ (by omega)).trans ?_; first | assumption | exact upd_eq _ _ _)))) (by exact rfl) (rfl) (by omega) (by omega) (fun hx => ?_) (fun q hx => ?_)
    · refine Gq_s (pc' := 19) (lv' := [(0, _), (1, _), (2, _), (3, _)]) rfl rfl rfl ?_
      refine Gq_s (pc' := 20) rfl rfl rfl ?_
      refine Gq_nul_n rfl (t := 38) rfl ?_
      refine Gq_s (pc' := 39) rfl rfl rfl ?_
      exact Gq_ret rfl rfl (rfl) (⟨by rw [hx]; rfl, rfl, rfl⟩)
    · obtain ⟨-, ⟨-, hM2, -⟩, f3, g3, h6, -⟩ := hlo q hx
      refine Gq_s (pc' := 19) (lv' := [(0, _), (1, _), (2, _), (3, _)]) rfl rfl rfl ?_
      refine Gq_s (pc' := 20) rfl rfl rfl ?_
      refine Gq_nul_r (pc' := 23) (t := 38) rfl rfl rfl ?_
      refine Gq_s (pc' := 24) rfl rfl rfl ?_
      refine Gq_nul_r (pc' := 27) (t := 38) rfl rfl rfl ?_
      refine Gq_s (pc' := 28) rfl rfl rfl ?_
      refine Gq_get (pc' := 31) rfl rfl (by first | assumption | exact upd_eq _ _ _ | (refine (upd_ne _ _ (by omega)).trans ?_; first | assumption | exact upd_eq _ _ _ | (refine (upd_ne _ _ (by omega)).trans ?_; first | assumption | exact upd_eq _ _ _ | (refine (upd_ne _ _ (by omega)).trans ?_; first | assumption | exact upd_eq _ _ _)))) (by exact rfl) ?_
      refine Gq_s (pc' := 32) rfl rfl rfl ?_
      refine Gq_get (pc' := 35) rfl rfl (by first | assumption | exact upd_eq _ _ _ | (refine (upd_ne _ _ (by omega)).trans ?_; first | assumption | exact upd_eq _ _ _ | (refine (upd_ne _ _ (by omega)).trans ?_; first | assumption | exact upd_eq _ _ _ | (refine (upd_ne _ _ (by omega)).trans ?_; first | assumption | exact upd_eq _ _ _)))) (by exact rfl) ?_
      refine Gq_cgt (pc' := 38) (t := 40) rfl rfl rfl (by omega) (by omega) (fun hb => ?_) (fun hb => ?_)
      · refine Gq_s (pc' := 41) rfl rfl rfl ?_
        refine Gq_get (pc' := 44) rfl rfl (by first | assumption | exact upd_eq _ _ _ | (refine (upd_ne _ _ (by omega)).trans ?_; first | assumption | exact upd_eq _ _ _ | (refine (upd_ne _ _ (by omega)).trans ?_; first | assumption | exact upd_eq _ _ _ | (refine (upd_ne _ _ (by omega)).trans ?_; first | assumption | exact upd_eq _ _ _)))) (by exact rfl) ?_
        exact Gq_ret rfl rfl (rfl) (⟨by rw [hx]; unfold newF; dsimp only; rw [if_pos hb], rfl, rfl⟩)
      · refine Gq_s (pc' := 39) rfl rfl rfl ?_
        exact Gq_ret rfl rfl (rfl) (⟨by rw [hx]; unfold newF; dsimp only; rw [if_neg hb], rfl, rfl⟩)
theorem t_opened {S : ScT} {H : HF} (n : Nat) {p : Nat} {z : Int} {P : Nat} {pid cnt : Nat → Nat} {vd gr : Nat → Nat → Nat} {vr : Nat → VR} {dr lt fc : Int} (hR : RG H P pid cnt vd gr vr) (h86 : H 86 = some (false, 7, pwF P dr lt fc)) (hp : p < 12) (hz : 0 ≤ z ∧ z ≤ 3) {lk : Nat → Option Nat} (hL : ∀ q o, lk q = some o → Own P cnt vd q o) (L0 : H 90 = some (false, 2, [.ref 91, .ref 92])) (L1 : H 91 = some (true, 3, aR 12 lk)) {lo : Nat → Nat} (L2 : H 92 = some (true, 0, aNt 12 lo)) {wl : List CR} (hW : WiAt H 88 wl) (hlo : o16 lo) : Rmt S 53 [.ref 86, .int (zI z), .int (zI (p : Int))] H n (fun v G m => m = n ∧ (∃ y, v = some (.int y)) ∧ (∀ o, ¬ o = 92 → G o = H o) ∧ ∃ on, G 92 = some (true, 0, aNt 12 on) ∧ o16 on) := by
  refine Rm_of (M := xm53) (lv := [(0, _), (1, _), (2, _)]) rfl rfl rfl ?_
  have ho := onF_16 (NOK_of (RG_vs hR) (Own_ch hL)) (WiAt_ok hW)
  refine Gq_s (pc' := 1) rfl rfl rfl ?_
  refine Gq_s (pc' := 2) rfl rfl rfl ?_
  refine Gq_cne (pc' := 5) (t := 9) rfl rfl rfl (by omega) (by omega) (fun h1 => ?_) (fun h1 => ?_)
  · refine Gq_s (pc' := 10) rfl rfl rfl ?_
    refine Gq_s (pc' := 11) rfl rfl rfl ?_
    refine Gq_cne (pc' := 14) (t := 18) rfl rfl rfl (by omega) (by omega) (fun h2 => ?_) (fun h2 => ?_)
    · refine Gq_s (pc' := 19) rfl rfl rfl ?_
      refine Gq_s (pc' := 20) rfl rfl rfl ?_
      refine Gq_cne (pc' := 23) (t := 43) rfl rfl rfl (by omega) (by omega) (fun h3 => ?_) (fun h3 => ?_)
      · refine Gq_s (pc' := 44) rfl rfl rfl ?_
        exact Gq_ret rfl rfl (rfl) (⟨rfl, ⟨_, rfl⟩, fun _ _ => rfl, lo, L2, hlo⟩)
      · refine Gq_s (pc' := 24) rfl rfl rfl ?_
        refine Gq_get (pc' := 27) rfl rfl (by first | assumption | exact upd_eq _ _ _ | (refine (upd_ne _ _ (by omega)).trans ?_; first | assumption | exact upd_eq _ _ _ | (refine (upd_ne _ _ (by omega)).trans ?_; first | assumption | exact upd_eq _ _ _ | (refine (upd_ne _ _ (by omega)).trans ?_; first | assumption | exact upd_eq _ _ _)))) (by exact rfl) ?_
        refine Gq_s (pc' := 28) rfl rfl rfl ?_
        refine Gq_get (pc' := 31) rfl rfl (by first | assumption | exact upd_eq _ _ _ | (refine (upd_ne _ _ (by omega)).trans ?_; first | assumption | exact upd_eq _ _ _ | (refine (upd_ne _ _ (by omega)).trans ?_; first | assumption | exact upd_eq _ _ _ | (refine (upd_ne _ _ (by omega)).trans ?_; first | assumption | exact upd_eq _ _ _)))) (by exact rfl) ?_
        refine Gq_callv1 (pc' := 34) (Y := xm79) (rest := []) (st' := []) (ce' := 0) (sl' := 0) rfl rfl rfl rfl rfl rfl rfl rfl rfl (t_tof n (by omega) (Own_ch hL) (RG_vs hR) L0 L1 L2 (w := 88) (by omega) (by omega) hW) rfl (by first | assumption | exact upd_eq _ _ _ | (refine (upd_ne _ _ (by omega)).trans ?_; first | assumption | exact upd_eq _ _ _ | (refine (upd_ne _ _ (by omega)).trans ?_; first | assumption | exact upd_eq _ _ _ | (refine (upd_ne _ _ (by omega)).trans ?_; first | assumption | exact upd_eq _ _ _)))) ?_
        refine Gq_s (pc' := 35) rfl rfl rfl ?_
        refine Gq_get (pc' := 38) rfl rfl (by first | assumption | exact upd_eq _ _ _ | (refine (upd_ne _ _ (by omega)).trans ?_; first | assumption | exact upd_eq _ _ _ | (refine (upd_ne _ _ (by omega)).trans ?_; first | assumption | exact upd_eq _ _ _ | (refine (upd_ne _ _ (by omega)).trans ?_; first | assumption | exact upd_eq _ _ _)))) (by exact rfl) ?_
        refine Gq_s (pc' := 39) rfl rfl rfl ?_
        refine Gq_callv1 (pc' := 42) (Y := xm88) (rest := []) (st' := [_]) (ce' := 0) (sl' := 0) rfl rfl rfl rfl rfl rfl rfl rfl rfl (t_rf (VS_upd (by omega) (RG_vs hR)) (Own_ch hL) (by rw [upd_ne _ _ (by omega)]; exact L0) (by rw [upd_ne _ _ (by omega)]; exact L1) (upd_eq _ _ _) ho hp) rfl (by first | assumption | exact upd_eq _ _ _ | (refine (upd_ne _ _ (by omega)).trans ?_; first | assumption | exact upd_eq _ _ _ | (refine (upd_ne _ _ (by omega)).trans ?_; first | assumption | exact upd_eq _ _ _ | (refine (upd_ne _ _ (by omega)).trans ?_; first | assumption | exact upd_eq _ _ _)))) ?_
        exact Gq_ret rfl rfl (rfl) (⟨rfl, ⟨_, rfl⟩, fun o h => upd_ne _ _ h, _, upd_eq _ _ _, ho⟩)
    · refine Gq_s (pc' := 15) rfl rfl rfl ?_
      refine Gq_s (pc' := 16) rfl rfl rfl ?_
      refine Gq_ishl (pc' := 17) (zI ((2 ^ p : Nat) : Int)) rfl rfl (z_shl _ hp) ?_
      exact Gq_ret rfl rfl (rfl) (⟨rfl, ⟨_, rfl⟩, fun _ _ => rfl, lo, L2, hlo⟩)
  · refine Gq_sipush (pc' := 8) rfl rfl (by decide) ?_
    exact Gq_ret rfl rfl (rfl) (⟨rfl, ⟨_, rfl⟩, fun _ _ => rfl, lo, L2, hlo⟩)
theorem t_ps_l {S : ScT} {n : Nat} {x y : Int32} {P : Nat} {pid cnt : Nat → Nat} {vd gr : Nat → Nat → Nat} {vr : Nat → VR} {dr lt fc : Int} {lk : Nat → Option Nat} (hL : ∀ q o, lk q = some o → Own P cnt vd q o) {tc rl rs lc : Int} {Q : XLf → Prop} : ∀ (k j : Nat) (H : HF) (cand : Nat → Option Nat) (cc : Nat → Int), j + k = P → RG H P pid cnt vd gr vr → H 86 = some (false, 7, pwF P dr lt fc) → H 90 = some (false, 2, [.ref 91, .ref 92]) → H 91 = some (true, 3, aR 12 lk) → H 96 = some (false, 5, rzF tc rl rs lc) → H 102 = some (true, 3, aR 96 cand) → H 103 = some (true, 0, aI 12 cc) → CdOK (Own P cnt vd) cand cc → (∀ G cand2 cc2, (∀ o, ¬ o = 102 → ¬ o = 103 → G o = H o) → G 102 = some (true, 3, aR 96 cand2) → G 103 = some (true, 0, aI 12 cc2) → CdOK (Own P cnt vd) cand2 cc2 → Gw S xm55 63 [(0, .ref 86), (1, .int x), (2, .int y), (3, .int (zI (P : Int)))] [] G n 0 0 Q) → Gw S xm55 14 [(0, .ref 86), (1, .int x), (2, .int y), (3, .int (zI (j : Int)))] [] H n 0 0 Q := by
  intro k
  induction k with
  | zero =>
    intro j H cand cc hj hR h86 L0 L1 z0 d0 d1 hcd kk
    obtain rfl : j = P := by omega
    have hP := hR.1
    refine Gq_s (pc' := 15) rfl rfl rfl ?_
    refine Gq_s (pc' := 16) rfl rfl rfl ?_
    refine Gq_get (pc' := 19) rfl rfl (by first | assumption | exact upd_eq _ _ _ | (refine (upd_ne _ _ (by omega)).trans ?_; first | assumption | exact upd_eq _ _ _ | (refine (upd_ne _ _ (by omega)).trans ?_; first | assumption | exact upd_eq _ _ _ | (refine (upd_ne _ _ (by omega)).trans ?_; first | assumption | exact upd_eq _ _ _)))) (by exact rfl) ?_
    refine Gq_cge (pc' := 22) (t := 63) rfl rfl rfl (by omega) (by omega) (fun _ => ?_) (fun hq => absurd (by omega) hq)
    exact kk H cand cc (fun _ _ _ => rfl) d0 d1 hcd
  | succ k ih =>
    intro j H cand cc hj hR h86 L0 L1 z0 d0 d1 hcd kk
    have hP := hR.1
    have h87 := hR.2.1
    have hjP : j < P := by omega
    have hpk := hR.2.2.1 j hjP
    have hgf : ∀ i, i < cnt j → ∃ o, (if i < cnt j then some (gr j i) else none) = some o ∧ Own P cnt vd j o := fun i hi => by
      obtain ⟨i2, hi2, hg2⟩ := hR.2.2.2.2.1 j i hjP hi
      exact ⟨_, if_pos hi, hjP, i2, hi2, hg2⟩
    refine Gq_s (pc' := 15) rfl rfl rfl ?_
    refine Gq_s (pc' := 16) rfl rfl rfl ?_
    refine Gq_get (pc' := 19) rfl rfl (by first | assumption | exact upd_eq _ _ _ | (refine (upd_ne _ _ (by omega)).trans ?_; first | assumption | exact upd_eq _ _ _ | (refine (upd_ne _ _ (by omega)).trans ?_; first | assumption | exact upd_eq _ _ _ | (refine (upd_ne _ _ (by omega)).trans ?_; first | assumption | exact upd_eq _ _ _)))) (by exact rfl) ?_
    refine Gq_cge (pc' := 22) (t := 63) rfl rfl rfl (by omega) (by omega) (fun hq => absurd hq (by omega)) (fun _ => ?_)
    refine Gq_s (pc' := 23) rfl rfl rfl ?_
    refine Gq_get (pc' := 26) rfl rfl (by first | assumption | exact upd_eq _ _ _ | (refine (upd_ne _ _ (by omega)).trans ?_; first | assumption | exact upd_eq _ _ _ | (refine (upd_ne _ _ (by omega)).trans ?_; first | assumption | exact upd_eq _ _ _ | (refine (upd_ne _ _ (by omega)).trans ?_; first | assumption | exact upd_eq _ _ _)))) (by exact rfl) ?_
    refine Gq_s (pc' := 27) rfl rfl rfl ?_
    refine Gq_s (pc' := 28) rfl rfl rfl ?_
    refine Gq_get (pc' := 31) rfl rfl (by first | assumption | exact upd_eq _ _ _ | (refine (upd_ne _ _ (by omega)).trans ?_; first | assumption | exact upd_eq _ _ _ | (refine (upd_ne _ _ (by omega)).trans ?_; first | assumption | exact upd_eq _ _ _ | (refine (upd_ne _ _ (by omega)).trans ?_; first | assumption | exact upd_eq _ _ _)))) (by exact rfl) ?_
    refine Gq_s (pc' := 32) rfl rfl rfl ?_
    refine Gq_aald (pc' := 33) rfl rfl (by first | assumption | exact upd_eq _ _ _ | (refine (upd_ne _ _ (by omega)).trans ?_; first | assumption | exact upd_eq _ _ _ | (refine (upd_ne _ _ (by omega)).trans ?_; first | assumption | exact upd_eq _ _ _ | (refine (upd_ne _ _ (by omega)).trans ?_; first | assumption | exact upd_eq _ _ _)))) (by exact rfl) (rfl) (by omega) (by omega) (rv_if hjP) ?_
    refine Gq_s (pc' := 34) rfl rfl rfl ?_
    refine Gq_s (pc' := 35) rfl rfl rfl ?_
    refine Gq_calls1 (pc' := 38) (Y := xm61) (rest := [_, _, _]) (st' := [_, _, _, _]) (ce' := 0) (sl' := 0) rfl rfl rfl rfl rfl rfl rfl rfl rfl rfl (t_isIn H n y j) rfl ?_
    refine Gq_beq (pc' := 41) (t := 45) rfl rfl rfl (fun hb => ?_) (fun hb => ?_)
    · refine Gq_s (pc' := 46) rfl rfl rfl ?_
      refine Gq_get (pc' := 49) rfl rfl (by first | assumption | exact upd_eq _ _ _ | (refine (upd_ne _ _ (by omega)).trans ?_; first | assumption | exact upd_eq _ _ _ | (refine (upd_ne _ _ (by omega)).trans ?_; first | assumption | exact upd_eq _ _ _ | (refine (upd_ne _ _ (by omega)).trans ?_; first | assumption | exact upd_eq _ _ _)))) (by exact rfl) ?_
      refine Gq_get (pc' := 52) rfl rfl (by first | assumption | exact upd_eq _ _ _ | (refine (upd_ne _ _ (by omega)).trans ?_; first | assumption | exact upd_eq _ _ _ | (refine (upd_ne _ _ (by omega)).trans ?_; first | assumption | exact upd_eq _ _ _ | (refine (upd_ne _ _ (by omega)).trans ?_; first | assumption | exact upd_eq _ _ _)))) (by exact rfl) ?_
      refine Gq_s (pc' := 53) rfl rfl rfl ?_
      refine Gq_aalx (pc' := 54) rfl rfl (by first | assumption | exact upd_eq _ _ _ | (refine (upd_ne _ _ (by omega)).trans ?_; first | assumption | exact upd_eq _ _ _ | (refine (upd_ne _ _ (by omega)).trans ?_; first | assumption | exact upd_eq _ _ _ | (refine (upd_ne _ _ (by omega)).trans ?_; first | assumption | exact upd_eq _ _ _)))) (by exact rfl) (rfl) (by omega) (by omega) (fun hx => ?_) (fun h hx => ?_)
      · refine Gq_callv (pc' := 57) (Y := xm110) (rest := []) (ce' := 0) (sl' := 0) rfl rfl rfl rfl rfl rfl rfl rfl rfl (t_list_n n (by omega) Own_V hgf (RG_vs hR) hpk z0 d0 d1 hcd) (by first | assumption | exact upd_eq _ _ _ | (refine (upd_ne _ _ (by omega)).trans ?_; first | assumption | exact upd_eq _ _ _ | (refine (upd_ne _ _ (by omega)).trans ?_; first | assumption | exact upd_eq _ _ _ | (refine (upd_ne _ _ (by omega)).trans ?_; first | assumption | exact upd_eq _ _ _)))) (fun v' H' n' hv => ?_)
        obtain ⟨rfl, rfl, hv1, cand2, cc2, hcd2, g2, g3⟩ := hv
        have hh : Hi H H' := fun o ho => hv1 o (by omega) (by omega)
        refine Gq_iinc (pc' := 60) (lv' := [(0, _), (1, _), (2, _), (3, _)]) rfl rfl rfl rfl ?_
        refine Gq_goto rfl (t := 14) rfl ?_
        refine ih (j + 1) H' cand2 cc2 (by omega) (RG_hi hh (hv1 87 (by omega) (by omega)) hR) ((hv1 86 (by omega) (by omega)).trans h86) ((hv1 90 (by omega) (by omega)).trans L0) ((hv1 91 (by omega) (by omega)).trans L1) ((hv1 96 (by omega) (by omega)).trans z0) g2 g3 hcd2 (fun G cand3 cc3 e1 e2 e3 e4 => kk G cand3 cc3 (fun o h1 h2 => (e1 o h1 h2).trans (hv1 o h1 h2)) e2 e3 e4)
      · refine Gq_callv (pc' := 57) (Y := xm110) (rest := []) (ce' := 0) (sl' := 0) rfl rfl rfl rfl rfl rfl rfl rfl rfl (t_list_s n (by omega) Own_V hgf ⟨j, hL j h hx⟩ (RG_vs hR) hpk z0 d0 d1 hcd (hL j h hx)) (by first | assumption | exact upd_eq _ _ _ | (refine (upd_ne _ _ (by omega)).trans ?_; first | assumption | exact upd_eq _ _ _ | (refine (upd_ne _ _ (by omega)).trans ?_; first | assumption | exact upd_eq _ _ _ | (refine (upd_ne _ _ (by omega)).trans ?_; first | assumption | exact upd_eq _ _ _)))) (fun v' H' n' hv => ?_)
        obtain ⟨rfl, rfl, hv1, cand2, cc2, hcd2, g2, g3⟩ := hv
        have hh : Hi H H' := fun o ho => hv1 o (by omega) (by omega)
        refine Gq_iinc (pc' := 60) (lv' := [(0, _), (1, _), (2, _), (3, _)]) rfl rfl rfl rfl ?_
        refine Gq_goto rfl (t := 14) rfl ?_
        refine ih (j + 1) H' cand2 cc2 (by omega) (RG_hi hh (hv1 87 (by omega) (by omega)) hR) ((hv1 86 (by omega) (by omega)).trans h86) ((hv1 90 (by omega) (by omega)).trans L0) ((hv1 91 (by omega) (by omega)).trans L1) ((hv1 96 (by omega) (by omega)).trans z0) g2 g3 hcd2 (fun G cand3 cc3 e1 e2 e3 e4 => kk G cand3 cc3 (fun o h1 h2 => (e1 o h1 h2).trans (hv1 o h1 h2)) e2 e3 e4)
    · refine Gq_s (pc' := 42) rfl rfl rfl ?_
      refine Gq_goto rfl (t := 54) rfl ?_
      refine Gq_callv (pc' := 57) (Y := xm110) (rest := []) (ce' := 0) (sl' := 0) rfl rfl rfl rfl rfl rfl rfl rfl rfl (t_list_n n (by omega) Own_V hgf (RG_vs hR) hpk z0 d0 d1 hcd) (by first | assumption | exact upd_eq _ _ _ | (refine (upd_ne _ _ (by omega)).trans ?_; first | assumption | exact upd_eq _ _ _ | (refine (upd_ne _ _ (by omega)).trans ?_; first | assumption | exact upd_eq _ _ _ | (refine (upd_ne _ _ (by omega)).trans ?_; first | assumption | exact upd_eq _ _ _)))) (fun v' H' n' hv => ?_)
      obtain ⟨rfl, rfl, hv1, cand2, cc2, hcd2, g2, g3⟩ := hv
      have hh : Hi H H' := fun o ho => hv1 o (by omega) (by omega)
      refine Gq_iinc (pc' := 60) (lv' := [(0, _), (1, _), (2, _), (3, _)]) rfl rfl rfl rfl ?_
      refine Gq_goto rfl (t := 14) rfl ?_
      refine ih (j + 1) H' cand2 cc2 (by omega) (RG_hi hh (hv1 87 (by omega) (by omega)) hR) ((hv1 86 (by omega) (by omega)).trans h86) ((hv1 90 (by omega) (by omega)).trans L0) ((hv1 91 (by omega) (by omega)).trans L1) ((hv1 96 (by omega) (by omega)).trans z0) g2 g3 hcd2 (fun G cand3 cc3 e1 e2 e3 e4 => kk G cand3 cc3 (fun o h1 h2 => (e1 o h1 h2).trans (hv1 o h1 h2)) e2 e3 e4)
theorem takeF_mem {x : Int32} {c : CR} : ∀ {l : List CR} {i : Nat}, c ∈ takeF x i l → c ∈ l
  | [], _, h => by cases h
  | a :: t, i, h => by
    unfold takeF at h
    split at h
    · rcases List.mem_cons.mp h with rfl | h
      · exact List.mem_cons_self
      · exact List.mem_cons_of_mem _ (takeF_mem h)
    · exact List.mem_cons_of_mem _ (takeF_mem h)
theorem t_psearch {S : ScT} {H : HF} (n : Nat) {P : Nat} {pid cnt : Nat → Nat} {vd gr : Nat → Nat → Nat} {vr : Nat → VR} {dr lt fc : Int} (hR : RG H P pid cnt vd gr vr) (h86 : H 86 = some (false, 7, pwF P dr lt fc)) {lk : Nat → Option Nat} (hL : ∀ q o, lk q = some o → Own P cnt vd q o) (L0 : H 90 = some (false, 2, [.ref 91, .ref 92])) (L1 : H 91 = some (true, 3, aR 12 lk)) {wl : List CR} (hW : WiAt H 88 wl) (hwP : ∀ c ∈ wl, cT c < P) (hS : ScR H (Own P cnt vd)) (x y : Int32) : Rmt S 55 [.ref 86, .int x, .int y] H n (fun v G m => m = n ∧ (∀ o, (o < 96 ∨ 106 < o) → G o = H o) ∧ ScR G (Own P cnt vd) ∧ ∃ r : Int, v = some (.int (zI r)) ∧ (-2 ≤ r ∧ r ≤ 0) ∧ ∃ ch2, G 100 = some (true, 3, aR 12 ch2) ∧ (∀ q o, ch2 q = some o → Own P cnt vd q o) ∧ (r = 0 → Found vr (Own P cnt vd) (takeF x 0 wl) ch2)) := by
  refine Rm_of (M := xm55) (lv := [(0, _), (1, _), (2, _)]) rfl rfl rfl ?_
  obtain ⟨⟨tc, lv, tr, htc, hz, hlv, htr⟩, ⟨z, wc, s1, s2⟩, s3, ⟨ch, s4⟩, ⟨on, s5, s6⟩, cand, cc, s7, s8, s9⟩ := hS
  obtain ⟨rl, rs, row, lev, z0, z1, z2, z3, z4⟩ := hz
  refine Gq_s (pc' := 1) rfl rfl rfl ?_
  refine Gq_get (pc' := 4) rfl rfl (by first | assumption | exact upd_eq _ _ _ | (refine (upd_ne _ _ (by omega)).trans ?_; first | assumption | exact upd_eq _ _ _ | (refine (upd_ne _ _ (by omega)).trans ?_; first | assumption | exact upd_eq _ _ _ | (refine (upd_ne _ _ (by omega)).trans ?_; first | assumption | exact upd_eq _ _ _)))) (by exact rfl) ?_
  refine Gq_s (pc' := 5) rfl rfl rfl ?_
  refine Gq_get (pc' := 8) rfl rfl (by first | assumption | exact upd_eq _ _ _ | (refine (upd_ne _ _ (by omega)).trans ?_; first | assumption | exact upd_eq _ _ _ | (refine (upd_ne _ _ (by omega)).trans ?_; first | assumption | exact upd_eq _ _ _ | (refine (upd_ne _ _ (by omega)).trans ?_; first | assumption | exact upd_eq _ _ _)))) (by exact rfl) ?_
  refine Gq_s (pc' := 9) rfl rfl rfl ?_
  refine Gq_callv (pc' := 12) (Y := xm109) (rest := []) (ce' := 0) (sl' := 0) rfl rfl rfl rfl rfl rfl rfl rfl rfl (t_begin n x hW z0 s1 s2 s3 s4) (by first | assumption | exact upd_eq _ _ _ | (refine (upd_ne _ _ (by omega)).trans ?_; first | assumption | exact upd_eq _ _ _ | (refine (upd_ne _ _ (by omega)).trans ?_; first | assumption | exact upd_eq _ _ _ | (refine (upd_ne _ _ (by omega)).trans ?_; first | assumption | exact upd_eq _ _ _)))) (fun v' H' n' hv => ?_)
  obtain ⟨rfl, rfl, e1, e2, e3, e4⟩ := hv
  have hh : Hi H H' := fun o ho => e4 o (by omega) (by omega) (by omega) (by omega)
  refine Gq_s (pc' := 13) rfl rfl rfl ?_
  refine Gq_s (pc' := 14) (lv' := [(0, _), (1, _), (2, _), (3, _)]) rfl rfl rfl ?_
  refine t_ps_l (pid := pid) (gr := gr) (dr := dr) (lt := lt) (fc := fc) hL P 0 H' cand cc (by omega) (RG_hi hh (e4 87 (by omega) (by omega) (by omega) (by omega)) hR) ((e4 86 (by omega) (by omega) (by omega) (by omega)).trans h86) ((e4 90 (by omega) (by omega) (by omega) (by omega)).trans L0) ((e4 91 (by omega) (by omega) (by omega) (by omega)).trans L1) e2 ((e4 102 (by omega) (by omega) (by omega) (by omega)).trans s7) ((e4 103 (by omega) (by omega) (by omega) (by omega)).trans s8) s9 (fun G cand2 cc2 f1 f2 f3 f4 => ?_)
  have hh2 : Hi H' G := fun o ho => f1 o (by omega) (by omega)
  have hR2 := RG_hi (Hi_trans hh hh2) ((f1 87 (by omega) (by omega)).trans (e4 87 (by omega) (by omega) (by omega) (by omega))) hR
  have h86' : G 86 = some (false, 7, pwF P dr lt fc) := (f1 86 (by omega) (by omega)).trans ((e4 86 (by omega) (by omega) (by omega) (by omega)).trans h86)
  have hW2 := WiAt_hi hh2 (f1 97 (by omega) (by omega)) (f1 98 (by omega) (by omega)) e1
  have g96 := (f1 96 (by omega) (by omega)).trans e2
  have hz2 : RzP G 0 [] tr := ⟨rl, rs, row, lev, g96, (f1 104 (by omega) (by omega)).trans ((e4 104 (by omega) (by omega) (by omega) (by omega)).trans z1), (f1 105 (by omega) (by omega)).trans ((e4 105 (by omega) (by omega) (by omega) (by omega)).trans z2), (f1 106 (by omega) (by omega)).trans ((e4 106 (by omega) (by omega) (by omega) (by omega)).trans z3), fun i q hq => by cases hq⟩
  refine Gq_s (pc' := 64) rfl rfl rfl ?_
  refine Gq_get (pc' := 67) rfl rfl (by first | assumption | exact upd_eq _ _ _ | (refine (upd_ne _ _ (by omega)).trans ?_; first | assumption | exact upd_eq _ _ _ | (refine (upd_ne _ _ (by omega)).trans ?_; first | assumption | exact upd_eq _ _ _ | (refine (upd_ne _ _ (by omega)).trans ?_; first | assumption | exact upd_eq _ _ _)))) (by exact rfl) ?_
  refine Gq_callv (pc' := 70) (Y := xm111) (rest := []) (ce' := 0) (sl' := 0) rfl rfl rfl rfl rfl rfl rfl rfl rfl (t_srch (Dom := fun q => q < P) _ Own_V f4 (fun c hc => hwP c (takeF_mem hc)) (RG_dom hR) (RG_vs hR2) s6 hW2 hz2 htr ((f1 99 (by omega) (by omega)).trans ((e4 99 (by omega) (by omega) (by omega) (by omega)).trans s3)) ((f1 100 (by omega) (by omega)).trans e3) ((f1 101 (by omega) (by omega)).trans ((e4 101 (by omega) (by omega) (by omega) (by omega)).trans s5)) f2 f3) (by first | assumption | exact upd_eq _ _ _ | (refine (upd_ne _ _ (by omega)).trans ?_; first | assumption | exact upd_eq _ _ _ | (refine (upd_ne _ _ (by omega)).trans ?_; first | assumption | exact upd_eq _ _ _ | (refine (upd_ne _ _ (by omega)).trans ?_; first | assumption | exact upd_eq _ _ _)))) (fun v2 H2 n2 hv => ?_)
  obtain ⟨rfl, k1, r, rfl, k2, tc2, lv2, tr2, ch2, on2, k3, k4, k5, k6, k7, k8, k9, k10, k11⟩ := hv
  refine Gq_ret rfl rfl rfl ⟨rfl, fun o ho => (k1 o (by omega) (by omega) (by omega) (by omega) (by omega) (by omega)).trans ((f1 o (by omega) (by omega)).trans (e4 o (by omega) (by omega) (by omega) (by omega))), ⟨⟨tc2, lv2, tr2, k3, k4, k5, k6⟩, ?_, ?_, ⟨ch2, k7⟩, ⟨on2, k8, k9⟩, cand2, cc2, ?_, ?_, f4⟩, r, rfl, k2, ch2, k7, k10, k11⟩
  · obtain ⟨q1, -, wc2, q3, -⟩ := hW2
    exact ⟨_, wc2, (k1 97 (by omega) (by omega) (by omega) (by omega) (by omega) (by omega)).trans q1, (k1 98 (by omega) (by omega) (by omega) (by omega) (by omega) (by omega)).trans q3⟩
  · exact (k1 99 (by omega) (by omega) (by omega) (by omega) (by omega) (by omega)).trans ((f1 99 (by omega) (by omega)).trans ((e4 99 (by omega) (by omega) (by omega) (by omega)).trans s3))
  · exact (k1 102 (by omega) (by omega) (by omega) (by omega) (by omega) (by omega)).trans f2
  · exact (k1 103 (by omega) (by omega) (by omega) (by omega) (by omega) (by omega)).trans f3
end XKa
