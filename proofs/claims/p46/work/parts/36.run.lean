/-! planning, running, rolling back (printed by wip/p46/gen36.py) -/
section XKg
theorem t_lead_l {S : ScT} {H : HF} {n : Nat} {vr : Nat → VR} {V : Nat → Prop} {dk lk : Nat → Option Nat} (hD : ChV V dk) (hL : ChV V lk) (hvs : VsA H vr V) (D0 : H 93 = some (false, 2, [.ref 94, .ref 95])) (D1 : H 94 = some (true, 3, aR 12 dk)) (L0 : H 90 = some (false, 2, [.ref 91, .ref 92])) (L1 : H 91 = some (true, 3, aR 12 lk)) {Q : XLf → Prop} : ∀ (k j rm pt : Nat), j + k = 12 → rm < 4096 → pt < 4096 → (∀ i, rm.testBit i = true ↔ i < j ∧ ¬ dk i = lk i ∧ lk i = none) → (∀ i, pt.testBit i = true ↔ i < j ∧ ¬ dk i = lk i ∧ ¬ lk i = none) → (∀ rm pt : Nat, rm < 4096 → pt < 4096 → (∀ i, rm.testBit i = true ↔ i < 12 ∧ ¬ dk i = lk i ∧ lk i = none) → (∀ i, pt.testBit i = true ↔ i < 12 ∧ ¬ dk i = lk i ∧ ¬ lk i = none) → Gw S xm99 93 [(0, .ref 111), (1, .ref 93), (2, .ref 90), (3, .int (zI (rm : Int))), (4, .int (zI (pt : Int))), (5, .int (zI 12))] [] H n 0 0 Q) → Gw S xm99 17 [(0, .ref 111), (1, .ref 93), (2, .ref 90), (3, .int (zI (rm : Int))), (4, .int (zI (pt : Int))), (5, .int (zI (j : Int)))] [] H n 0 0 Q := by
  intro k
  induction k with
  | zero =>
    intro j rm pt hj hr hp h1 h2 kk
    obtain rfl : j = 12 := by omega
    refine Gq_s (pc' := 19) rfl rfl rfl ?_
    refine Gq_bipush (pc' := 21) rfl rfl (by decide) ?_
    refine Gq_cge (pc' := 24) (t := 93) rfl rfl rfl (by omega) (by omega) (fun _ => ?_) (fun hq => absurd (by omega) hq)
    exact kk rm pt hr hp h1 h2
  | succ k ih =>
    intro j rm pt hj hr hp h1 h2 kk
    have step : ∀ (m : Nat) (A : Nat → Prop), (∀ i, m.testBit i = true ↔ i < j ∧ A i) → ¬ A j → ∀ i, m.testBit i = true ↔ i < j + 1 ∧ A i := fun m A hm hn i => by
      rw [hm i]
      refine ⟨fun h => ⟨by omega, h.2⟩, fun h => ⟨?_, h.2⟩⟩
      have : ¬ i = j := fun e => hn (e ▸ h.2)
      omega
    have stepY : ∀ (m : Nat) (A : Nat → Prop), (∀ i, m.testBit i = true ↔ i < j ∧ A i) → A j → ∀ i, (m ||| 2 ^ j).testBit i = true ↔ i < j + 1 ∧ A i := fun m A hm hy i => by
      rw [Nat.testBit_or, Nat.testBit_two_pow, Bool.or_eq_true, decide_eq_true_eq, hm i]
      constructor
      · rintro (h | h)
        · exact ⟨by omega, h.2⟩
        · exact ⟨by omega, h ▸ hy⟩
      · rintro ⟨a, b⟩
        by_cases e : j = i
        · exact .inr e
        · exact .inl ⟨by omega, b⟩
    refine Gq_s (pc' := 19) rfl rfl rfl ?_
    refine Gq_bipush (pc' := 21) rfl rfl (by decide) ?_
    refine Gq_cge (pc' := 24) (t := 93) rfl rfl rfl (by omega) (by omega) (fun hq => absurd hq (by omega)) (fun _ => ?_)
    refine Gq_s (pc' := 25) rfl rfl rfl ?_
    refine Gq_get (pc' := 28) rfl rfl (by first | assumption | exact upd_eq _ _ _ | (refine (upd_ne _ _ (by omega)).trans ?_; first | assumption | exact upd_eq _ _ _ | (refine (upd_ne _ _ (by omega)).trans ?_; first | assumption | exact upd_eq _ _ _ | (refine (upd_ne _ _ (by omega)).trans ?_; first | assumption | exact upd_eq _ _ _)))) (by exact rfl) ?_
    refine Gq_s (pc' := 30) rfl rfl rfl ?_
    refine Gq_aald (pc' := 31) rfl rfl (by first | assumption | exact upd_eq _ _ _ | (refine (upd_ne _ _ (by omega)).trans ?_; first | assumption | exact upd_eq _ _ _ | (refine (upd_ne _ _ (by omega)).trans ?_; first | assumption | exact upd_eq _ _ _ | (refine (upd_ne _ _ (by omega)).trans ?_; first | assumption | exact upd_eq _ _ _)))) (by exact rfl) (rfl) (by omega) (by omega) (rfl) ?_
    refine Gq_s (pc' := 32) rfl rfl rfl ?_
    refine Gq_get (pc' := 35) rfl rfl (by first | assumption | exact upd_eq _ _ _ | (refine (upd_ne _ _ (by omega)).trans ?_; first | assumption | exact upd_eq _ _ _ | (refine (upd_ne _ _ (by omega)).trans ?_; first | assumption | exact upd_eq _ _ _ | (refine (upd_ne _ _ (by omega)).trans ?_; first | assumption | exact upd_eq _ _ _)))) (by exact rfl) ?_
    refine Gq_s (pc' := 37) rfl rfl rfl ?_
    refine Gq_aald (pc' := 38) rfl rfl (by first | assumption | exact upd_eq _ _ _ | (refine (upd_ne _ _ (by omega)).trans ?_; first | assumption | exact upd_eq _ _ _ | (refine (upd_ne _ _ (by omega)).trans ?_; first | assumption | exact upd_eq _ _ _ | (refine (upd_ne _ _ (by omega)).trans ?_; first | assumption | exact upd_eq _ _ _)))) (by exact rfl) (rfl) (by omega) (by omega) (rfl) ?_
    refine Gq_aceq (pc' := 41) (t := 61) (dk j) (lk j) rfl rfl rfl (rfl) (rfl) (VS_rvOK hvs hD (by omega)) (VS_rvOK hvs hL (by omega)) (fun he => ?_) (fun he => ?_)
    · refine Gq_s (pc' := 62) rfl rfl rfl ?_
      refine Gq_get (pc' := 65) rfl rfl (by first | assumption | exact upd_eq _ _ _ | (refine (upd_ne _ _ (by omega)).trans ?_; first | assumption | exact upd_eq _ _ _ | (refine (upd_ne _ _ (by omega)).trans ?_; first | assumption | exact upd_eq _ _ _ | (refine (upd_ne _ _ (by omega)).trans ?_; first | assumption | exact upd_eq _ _ _)))) (by exact rfl) ?_
      refine Gq_s (pc' := 67) rfl rfl rfl ?_
      refine Gq_aald (pc' := 68) rfl rfl (by first | assumption | exact upd_eq _ _ _ | (refine (upd_ne _ _ (by omega)).trans ?_; first | assumption | exact upd_eq _ _ _ | (refine (upd_ne _ _ (by omega)).trans ?_; first | assumption | exact upd_eq _ _ _ | (refine (upd_ne _ _ (by omega)).trans ?_; first | assumption | exact upd_eq _ _ _)))) (by exact rfl) (rfl) (by omega) (by omega) (rfl) ?_
      refine Gq_s (pc' := 69) rfl rfl rfl ?_
      refine Gq_get (pc' := 72) rfl rfl (by first | assumption | exact upd_eq _ _ _ | (refine (upd_ne _ _ (by omega)).trans ?_; first | assumption | exact upd_eq _ _ _ | (refine (upd_ne _ _ (by omega)).trans ?_; first | assumption | exact upd_eq _ _ _ | (refine (upd_ne _ _ (by omega)).trans ?_; first | assumption | exact upd_eq _ _ _)))) (by exact rfl) ?_
      refine Gq_s (pc' := 74) rfl rfl rfl ?_
      refine Gq_aald (pc' := 75) rfl rfl (by first | assumption | exact upd_eq _ _ _ | (refine (upd_ne _ _ (by omega)).trans ?_; first | assumption | exact upd_eq _ _ _ | (refine (upd_ne _ _ (by omega)).trans ?_; first | assumption | exact upd_eq _ _ _ | (refine (upd_ne _ _ (by omega)).trans ?_; first | assumption | exact upd_eq _ _ _)))) (by exact rfl) (rfl) (by omega) (by omega) (rfl) ?_
      refine Gq_aceq (pc' := 78) (t := 87) (dk j) (lk j) rfl rfl rfl (rfl) (rfl) (VS_rvOK hvs hD (by omega)) (VS_rvOK hvs hL (by omega)) (fun he2 => ?_) (fun he2 => ?_)
      · refine Gq_iinc (pc' := 90) (lv' := [(0, _), (1, _), (2, _), (3, _), (4, _), (5, _)]) rfl rfl rfl rfl ?_
        refine Gq_goto rfl (t := 17) rfl ?_
        exact ih (j + 1) rm pt (by omega) hr hp (step rm _ h1 (fun q => q.1 he)) (step pt _ h2 (fun q => q.1 he)) kk
      · exact absurd he he2
    · refine Gq_s (pc' := 42) rfl rfl rfl ?_
      refine Gq_get (pc' := 45) rfl rfl (by first | assumption | exact upd_eq _ _ _ | (refine (upd_ne _ _ (by omega)).trans ?_; first | assumption | exact upd_eq _ _ _ | (refine (upd_ne _ _ (by omega)).trans ?_; first | assumption | exact upd_eq _ _ _ | (refine (upd_ne _ _ (by omega)).trans ?_; first | assumption | exact upd_eq _ _ _)))) (by exact rfl) ?_
      refine Gq_s (pc' := 47) rfl rfl rfl ?_
      refine Gq_aalx (pc' := 48) rfl rfl (by first | assumption | exact upd_eq _ _ _ | (refine (upd_ne _ _ (by omega)).trans ?_; first | assumption | exact upd_eq _ _ _ | (refine (upd_ne _ _ (by omega)).trans ?_; first | assumption | exact upd_eq _ _ _ | (refine (upd_ne _ _ (by omega)).trans ?_; first | assumption | exact upd_eq _ _ _)))) (by exact rfl) (rfl) (by omega) (by omega) (fun hx => ?_) (fun q hx => ?_)
      · refine Gq_non_n (pc' := 51) (t := 61) rfl rfl rfl ?_
        refine Gq_s (pc' := 52) rfl rfl rfl ?_
        refine Gq_s (pc' := 53) rfl rfl rfl ?_
        refine Gq_s (pc' := 55) rfl rfl rfl ?_
        refine Gq_ishl (pc' := 56) (zI ((2 ^ j : Nat) : Int)) rfl rfl (z_shl _ (by omega)) ?_
        refine Gq_ior (pc' := 57) (zI ((rm ||| 2 ^ j : Nat) : Int)) rfl rfl (z_or _ _) ?_
        refine Gq_s (pc' := 58) (lv' := [(0, _), (1, _), (2, _), (3, _), (4, _), (5, _)]) rfl rfl rfl ?_
        refine Gq_goto rfl (t := 87) rfl ?_
        refine Gq_iinc (pc' := 90) (lv' := [(0, _), (1, _), (2, _), (3, _), (4, _), (5, _)]) rfl rfl rfl rfl ?_
        refine Gq_goto rfl (t := 17) rfl ?_
        exact ih (j + 1) (rm ||| 2 ^ j) pt (by omega) (Nat.or_lt_two_pow (n := 12) hr (Nat.pow_lt_pow_right (by omega) (by omega))) hp (stepY rm _ h1 ⟨he, hx⟩) (step pt _ h2 (fun q => q.2 hx)) kk
      · refine Gq_non_r rfl (t := 61) rfl ?_
        refine Gq_s (pc' := 62) rfl rfl rfl ?_
        refine Gq_get (pc' := 65) rfl rfl (by first | assumption | exact upd_eq _ _ _ | (refine (upd_ne _ _ (by omega)).trans ?_; first | assumption | exact upd_eq _ _ _ | (refine (upd_ne _ _ (by omega)).trans ?_; first | assumption | exact upd_eq _ _ _ | (refine (upd_ne _ _ (by omega)).trans ?_; first | assumption | exact upd_eq _ _ _)))) (by exact rfl) ?_
        refine Gq_s (pc' := 67) rfl rfl rfl ?_
        refine Gq_aald (pc' := 68) rfl rfl (by first | assumption | exact upd_eq _ _ _ | (refine (upd_ne _ _ (by omega)).trans ?_; first | assumption | exact upd_eq _ _ _ | (refine (upd_ne _ _ (by omega)).trans ?_; first | assumption | exact upd_eq _ _ _ | (refine (upd_ne _ _ (by omega)).trans ?_; first | assumption | exact upd_eq _ _ _)))) (by exact rfl) (rfl) (by omega) (by omega) (rfl) ?_
        refine Gq_s (pc' := 69) rfl rfl rfl ?_
        refine Gq_get (pc' := 72) rfl rfl (by first | assumption | exact upd_eq _ _ _ | (refine (upd_ne _ _ (by omega)).trans ?_; first | assumption | exact upd_eq _ _ _ | (refine (upd_ne _ _ (by omega)).trans ?_; first | assumption | exact upd_eq _ _ _ | (refine (upd_ne _ _ (by omega)).trans ?_; first | assumption | exact upd_eq _ _ _)))) (by exact rfl) ?_
        refine Gq_s (pc' := 74) rfl rfl rfl ?_
        refine Gq_aald (pc' := 75) rfl rfl (by first | assumption | exact upd_eq _ _ _ | (refine (upd_ne _ _ (by omega)).trans ?_; first | assumption | exact upd_eq _ _ _ | (refine (upd_ne _ _ (by omega)).trans ?_; first | assumption | exact upd_eq _ _ _ | (refine (upd_ne _ _ (by omega)).trans ?_; first | assumption | exact upd_eq _ _ _)))) (by exact rfl) (rfl) (by omega) (by omega) (rfl) ?_
        refine Gq_aceq (pc' := 78) (t := 87) (dk j) (lk j) rfl rfl rfl (rfl) (rfl) (VS_rvOK hvs hD (by omega)) (VS_rvOK hvs hL (by omega)) (fun he2 => ?_) (fun he2 => ?_)
        · exact absurd he2 he
        · refine Gq_s (pc' := 80) rfl rfl rfl ?_
          refine Gq_s (pc' := 81) rfl rfl rfl ?_
          refine Gq_s (pc' := 83) rfl rfl rfl ?_
          refine Gq_ishl (pc' := 84) (zI ((2 ^ j : Nat) : Int)) rfl rfl (z_shl _ (by omega)) ?_
          refine Gq_ior (pc' := 85) (zI ((pt ||| 2 ^ j : Nat) : Int)) rfl rfl (z_or _ _) ?_
          refine Gq_s (pc' := 87) (lv' := [(0, _), (1, _), (2, _), (3, _), (4, _), (5, _)]) rfl rfl rfl ?_
          refine Gq_iinc (pc' := 90) (lv' := [(0, _), (1, _), (2, _), (3, _), (4, _), (5, _)]) rfl rfl rfl rfl ?_
          refine Gq_goto rfl (t := 17) rfl ?_
          exact ih (j + 1) rm (pt ||| 2 ^ j) (by omega) hr (Nat.or_lt_two_pow (n := 12) hp (Nat.pow_lt_pow_right (by omega) (by omega))) (step rm _ h1 (fun q => by have := q.2; rw [hx] at this; cases this)) (stepY pt _ h2 ⟨he, (by rw [hx]; exact fun q => nomatch q)⟩) kk
theorem t_lead {S : ScT} {H : HF} (n : Nat) {vr : Nat → VR} {V : Nat → Prop} {dk lk : Nat → Option Nat} (hD : ChV V dk) (hL : ChV V lk) {on don : Nat → Nat} (ho : o16 on) (hdo : o16 don) (hvs : VsA H vr V) (D0 : H 93 = some (false, 2, [.ref 94, .ref 95])) (D1 : H 94 = some (true, 3, aR 12 dk)) (L0 : H 90 = some (false, 2, [.ref 91, .ref 92])) (L1 : H 91 = some (true, 3, aR 12 lk)) (L2 : H 92 = some (true, 0, aNt 12 on)) (D2 : H 95 = some (true, 0, aNt 12 don)) {th0 : Bool} {pc0 pd0 : Nat} {kd : Nat → Int} {pp : Nat → Nat} {pb : Nat → Option Nat} (hP : PlAt H th0 pc0 pd0 kd pp pb) : Rmt S 99 [.ref 111, .ref 93, .ref 90] H n (fun v G m => v = none ∧ m = n ∧ (∀ o, ¬ o = 111 → ¬ o = 112 → ¬ o = 113 → ¬ o = 114 → G o = H o) ∧ ∃ sl, PlS G true sl 0 dk ∧ RwOK sl ∧ ∀ p, p ∈ sl ↔ p < 12 ∧ ¬ dk p = lk p) := by
  refine Rm_of (M := xm99) (lv := [(0, _), (1, _), (2, _)]) rfl rfl rfl ?_
  obtain ⟨p0, p1, p2, p3⟩ := id hP
  refine Gq_s (pc' := 1) rfl rfl rfl ?_
  refine Gq_callv1 (pc' := 4) (Y := xm98) (rest := []) (st' := []) (ce' := 0) (sl' := 0) rfl rfl rfl rfl rfl rfl rfl rfl rfl (t_forget n p0) rfl (by first | assumption | exact upd_eq _ _ _ | (refine (upd_ne _ _ (by omega)).trans ?_; first | assumption | exact upd_eq _ _ _ | (refine (upd_ne _ _ (by omega)).trans ?_; first | assumption | exact upd_eq _ _ _ | (refine (upd_ne _ _ (by omega)).trans ?_; first | assumption | exact upd_eq _ _ _)))) ?_
  refine Gq_s (pc' := 5) rfl rfl rfl ?_
  refine Gq_s (pc' := 6) rfl rfl rfl ?_
  refine Gq_put (pc' := 9) (fs' := [_, _, _, _, _, _]) rfl rfl (by first | assumption | exact upd_eq _ _ _ | (refine (upd_ne _ _ (by omega)).trans ?_; first | assumption | exact upd_eq _ _ _ | (refine (upd_ne _ _ (by omega)).trans ?_; first | assumption | exact upd_eq _ _ _ | (refine (upd_ne _ _ (by omega)).trans ?_; first | assumption | exact upd_eq _ _ _)))) (by exact rfl) (by first | rfl | exact xfit_bI _) (by exact rfl) ?_
  refine Gq_s (pc' := 10) rfl rfl rfl ?_
  refine Gq_s (pc' := 11) (lv' := [(0, _), (1, _), (2, _), (3, _)]) rfl rfl rfl ?_
  refine Gq_s (pc' := 12) rfl rfl rfl ?_
  refine Gq_s (pc' := 14) (lv' := [(0, _), (1, _), (2, _), (3, _), (4, _)]) rfl rfl rfl ?_
  refine Gq_s (pc' := 15) rfl rfl rfl ?_
  refine Gq_s (pc' := 17) (lv' := [(0, _), (1, _), (2, _), (3, _), (4, _), (5, _)]) rfl rfl rfl ?_
  simp only [upd_upd]
  have fr0 : ∀ o, ¬ o = 111 → (hup H 111 (false, 4, [.int (zI 1), .int (zI 0), .int (zI 0), .ref 112, .ref 113, .ref 114])) o = H o := fun o h => upd_ne _ _ h
  have hP0 : PlS (hup H 111 (false, 4, [.int (zI 1), .int (zI 0), .int (zI 0), .ref 112, .ref 113, .ref 114])) true [] 0 dk := ⟨kd, pp, pb, ⟨upd_eq _ _ _, (fr0 112 (by omega)).trans p1, (fr0 113 (by omega)).trans p2, (fr0 114 (by omega)).trans p3⟩, fun i q hq => by cases hq⟩
  have g111 : (hup H 111 (false, 4, [.int (zI 1), .int (zI 0), .int (zI 0), .ref 112, .ref 113, .ref 114])) 111 = some (false, 4, [.int (zI 1), .int (zI 0), .int (zI 0), .ref 112, .ref 113, .ref 114]) := upd_eq _ _ _
  show Gw S xm99 17 [(0, .ref 111), (1, .ref 93), (2, .ref 90), (3, .int (zI ((0 : Nat) : Int))), (4, .int (zI ((0 : Nat) : Int))), (5, .int (zI ((0 : Nat) : Int)))] [] (hup H 111 (false, 4, [.int (zI 1), .int (zI 0), .int (zI 0), .ref 112, .ref 113, .ref 114])) n 0 0 _
  generalize (hup H 111 (false, 4, [.int (zI 1), .int (zI 0), .int (zI 0), .ref 112, .ref 113, .ref 114])) = H1 at fr0 hP0 g111
  have hh1 : Hi H H1 := fun o ho9 => fr0 o (by omega)
  have hvs1 := VS_hi hh1 hvs
  have hz : ∀ (A : Nat → Prop) (i : Nat), (0 : Nat).testBit i = true ↔ i < 0 ∧ A i := fun A i => ⟨fun h => (by rw [Nat.zero_testBit] at h; cases h), fun h => absurd h.1 (by omega)⟩
  refine t_lead_l hD hL hvs1 ((fr0 93 (by omega)).trans D0) ((fr0 94 (by omega)).trans D1) ((fr0 90 (by omega)).trans L0) ((fr0 91 (by omega)).trans L1) 12 0 0 0 rfl (by decide) (by decide) (hz _) (hz _) (fun rm pt hr hp h1 h2 => ?_)
  refine Gq_s (pc' := 94) rfl rfl rfl ?_
  refine Gq_s (pc' := 95) rfl rfl rfl ?_
  refine Gq_s (pc' := 96) rfl rfl rfl ?_
  refine Gq_callv (pc' := 99) (Y := xm100) (rest := []) (ce' := 0) (sl' := 0) rfl rfl rfl rfl rfl rfl rfl rfl rfl (t_rmAll n hD hdo hr hvs1 ((fr0 93 (by omega)).trans D0) ((fr0 94 (by omega)).trans D1) ((fr0 95 (by omega)).trans D2) hP0 ⟨List.nodup_nil, fun q hq => by cases hq⟩ (fun p _ hq => by cases hq)) (by first | assumption | exact upd_eq _ _ _ | (refine (upd_ne _ _ (by omega)).trans ?_; first | assumption | exact upd_eq _ _ _ | (refine (upd_ne _ _ (by omega)).trans ?_; first | assumption | exact upd_eq _ _ _ | (refine (upd_ne _ _ (by omega)).trans ?_; first | assumption | exact upd_eq _ _ _)))) (fun v' H' n' hv => ?_)
  obtain ⟨rfl, rfl, g2, sl1, g3, g4, g5⟩ := hv
  have hh2 : Hi H1 H' := fun o ho9 => g2 o (by omega) (by omega) (by omega) (by omega)
  refine Gq_s (pc' := 100) rfl rfl rfl ?_
  refine Gq_s (pc' := 101) rfl rfl rfl ?_
  refine Gq_s (pc' := 102) rfl rfl rfl ?_
  refine Gq_s (pc' := 104) rfl rfl rfl ?_
  refine Gq_callv (pc' := 107) (Y := xm101) (rest := []) (ce' := 0) (sl' := 0) rfl rfl rfl rfl rfl rfl rfl rfl rfl (t_putAll _ hD hL ho hp (VS_hi hh2 hvs1) ((g2 93 (by omega) (by omega) (by omega) (by omega)).trans ((fr0 93 (by omega)).trans D0)) ((g2 94 (by omega) (by omega) (by omega) (by omega)).trans ((fr0 94 (by omega)).trans D1)) ((g2 90 (by omega) (by omega) (by omega) (by omega)).trans ((fr0 90 (by omega)).trans L0)) ((g2 91 (by omega) (by omega) (by omega) (by omega)).trans ((fr0 91 (by omega)).trans L1)) ((g2 92 (by omega) (by omega) (by omega) (by omega)).trans ((fr0 92 (by omega)).trans L2)) g3 g4 (fun p hq hm => ((g5 p).mp hm).elim (fun hm => by cases hm) (fun hm => ((h2 p).mp hq).2.2 ((h1 p).mp hm).2.2))) (by obtain ⟨kd9, pp9, pb9, hpl9, -⟩ := id g3; exact hpl9.1) (fun v2 H2 n2 hv => ?_)
  obtain ⟨rfl, rfl, k2, sl2, k3, k4, k5⟩ := hv
  refine Gq_ret rfl rfl rfl ⟨rfl, rfl, fun o a b c d => (k2 o a b c d).trans ((g2 o a b c d).trans (fr0 o a)), sl2, k3, k4, fun p => ?_⟩
  rw [k5 p, g5 p, h1 p, h2 p]
  constructor
  · rintro ((h | h) | h)
    · cases h
    · exact ⟨h.1, h.2.1⟩
    · exact ⟨h.1, h.2.1⟩
  · intro h
    by_cases e : lk p = none
    · exact .inl (.inr ⟨h.1, h.2, e⟩)
    · exact .inr ⟨h.1, h.2, e⟩
theorem t_plan {S : ScT} {H : HF} (n : Nat) {P : Nat} {pid cnt : Nat → Nat} {vd gr : Nat → Nat → Nat} {vr : Nat → VR} {dr lt fc : Int} (hR : RG H P pid cnt vd gr vr) (h86 : H 86 = some (false, 7, pwF P dr lt fc)) {lk : Nat → Option Nat} (hL : ∀ q o, lk q = some o → Own P cnt vd q o) (L0 : H 90 = some (false, 2, [.ref 91, .ref 92])) (L1 : H 91 = some (true, 3, aR 12 lk)) {lo : Nat → Nat} (L2 : H 92 = some (true, 0, aNt 12 lo)) {wl : List CR} (hW : WiAt H 88 wl) {dk : Nat → Option Nat} (hD : ∀ q o, dk q = some o → Own P cnt vd q o) (D0 : H 93 = some (false, 2, [.ref 94, .ref 95])) (D1 : H 94 = some (true, 3, aR 12 dk)) {don : Nat → Nat} (D2 : H 95 = some (true, 0, aNt 12 don)) {th0 : Bool} {pc0 pd0 : Nat} {kd : Nat → Int} {pp : Nat → Nat} {pb : Nat → Option Nat} (hP : PlAt H th0 pc0 pd0 kd pp pb) : Rmt S 26 [.ref 86] H n (fun v G m => m = n ∧ (∀ o, ¬ o = 92 → ¬ o = 95 → ¬ o = 111 → ¬ o = 112 → ¬ o = 113 → ¬ o = 114 → G o = H o) ∧ G 92 = some (true, 0, aNt 12 (onF vr lk wl)) ∧ G 95 = some (true, 0, aNt 12 (onF vr dk wl)) ∧ ∃ sl, v = some (.int (zI (sl.length : Int))) ∧ PlS G true sl 0 dk ∧ RwOK sl ∧ ∀ p, p ∈ sl ↔ p < 12 ∧ ¬ dk p = lk p) := by
  refine Rm_of (M := xm26) (lv := [(0, _)]) rfl rfl rfl ?_
  obtain ⟨p0, -⟩ := id hP
  have hw := WiAt_ok hW
  have ho := onF_16 (wl := wl) (NOK_of (RG_vs hR) (Own_ch hL)) hw
  have hdo := onF_16 (wl := wl) (NOK_of (RG_vs hR) (Own_ch hD)) hw
  refine Gq_s (pc' := 1) rfl rfl rfl ?_
  refine Gq_get (pc' := 4) rfl rfl (by first | assumption | exact upd_eq _ _ _ | (refine (upd_ne _ _ (by omega)).trans ?_; first | assumption | exact upd_eq _ _ _ | (refine (upd_ne _ _ (by omega)).trans ?_; first | assumption | exact upd_eq _ _ _ | (refine (upd_ne _ _ (by omega)).trans ?_; first | assumption | exact upd_eq _ _ _)))) (by exact rfl) ?_
  refine Gq_s (pc' := 5) rfl rfl rfl ?_
  refine Gq_get (pc' := 8) rfl rfl (by first | assumption | exact upd_eq _ _ _ | (refine (upd_ne _ _ (by omega)).trans ?_; first | assumption | exact upd_eq _ _ _ | (refine (upd_ne _ _ (by omega)).trans ?_; first | assumption | exact upd_eq _ _ _ | (refine (upd_ne _ _ (by omega)).trans ?_; first | assumption | exact upd_eq _ _ _)))) (by exact rfl) ?_
  refine Gq_callv1 (pc' := 11) (Y := xm79) (rest := []) (st' := []) (ce' := 0) (sl' := 0) rfl rfl rfl rfl rfl rfl rfl rfl rfl (t_tof n (by omega) (Own_ch hL) (RG_vs hR) L0 L1 L2 (w := 88) (by omega) (by omega) hW) rfl (by first | assumption | exact upd_eq _ _ _ | (refine (upd_ne _ _ (by omega)).trans ?_; first | assumption | exact upd_eq _ _ _ | (refine (upd_ne _ _ (by omega)).trans ?_; first | assumption | exact upd_eq _ _ _ | (refine (upd_ne _ _ (by omega)).trans ?_; first | assumption | exact upd_eq _ _ _)))) ?_
  refine Gq_s (pc' := 12) rfl rfl rfl ?_
  refine Gq_get (pc' := 15) rfl rfl (by first | assumption | exact upd_eq _ _ _ | (refine (upd_ne _ _ (by omega)).trans ?_; first | assumption | exact upd_eq _ _ _ | (refine (upd_ne _ _ (by omega)).trans ?_; first | assumption | exact upd_eq _ _ _ | (refine (upd_ne _ _ (by omega)).trans ?_; first | assumption | exact upd_eq _ _ _)))) (by exact rfl) ?_
  refine Gq_s (pc' := 16) rfl rfl rfl ?_
  refine Gq_get (pc' := 19) rfl rfl (by first | assumption | exact upd_eq _ _ _ | (refine (upd_ne _ _ (by omega)).trans ?_; first | assumption | exact upd_eq _ _ _ | (refine (upd_ne _ _ (by omega)).trans ?_; first | assumption | exact upd_eq _ _ _ | (refine (upd_ne _ _ (by omega)).trans ?_; first | assumption | exact upd_eq _ _ _)))) (by exact rfl) ?_
  refine Gq_callv1 (pc' := 22) (Y := xm79) (rest := []) (st' := []) (ce' := 0) (sl' := 0) rfl rfl rfl rfl rfl rfl rfl rfl rfl (t_tof n (t := 93) (by omega) (Own_ch hD) (VS_upd (by omega) (RG_vs hR)) (by rw [upd_ne _ _ (by omega)]; exact D0) (by rw [upd_ne _ _ (by omega)]; exact D1) (by rw [upd_ne _ _ (by omega)]; exact D2) (w := 88) (by omega) (by omega) (WiAt_upd (by omega) (by omega) (by omega) hW)) rfl (by first | assumption | exact upd_eq _ _ _ | (refine (upd_ne _ _ (by omega)).trans ?_; first | assumption | exact upd_eq _ _ _ | (refine (upd_ne _ _ (by omega)).trans ?_; first | assumption | exact upd_eq _ _ _ | (refine (upd_ne _ _ (by omega)).trans ?_; first | assumption | exact upd_eq _ _ _)))) ?_
  have fr0 : ∀ o, ¬ o = 92 → ¬ o = 95 → (hup (hup H (90 + 2) (true, 0, aNt 12 (onF vr lk wl))) (93 + 2) (true, 0, aNt 12 (onF vr dk wl))) o = H o := fun o h1 h2 => by rw [upd_ne _ _ h2, upd_ne _ _ h1]
  have g92 : (hup (hup H (90 + 2) (true, 0, aNt 12 (onF vr lk wl))) (93 + 2) (true, 0, aNt 12 (onF vr dk wl))) 92 = some (true, 0, aNt 12 (onF vr lk wl)) := by rw [upd_ne _ _ (by omega)]; exact upd_eq _ _ _
  have g95 : (hup (hup H (90 + 2) (true, 0, aNt 12 (onF vr lk wl))) (93 + 2) (true, 0, aNt 12 (onF vr dk wl))) 95 = some (true, 0, aNt 12 (onF vr dk wl)) := upd_eq _ _ _
  generalize (hup (hup H (90 + 2) (true, 0, aNt 12 (onF vr lk wl))) (93 + 2) (true, 0, aNt 12 (onF vr dk wl))) = H1 at fr0 g92 g95
  have hh1 : Hi H H1 := fun o ho9 => fr0 o (by omega) (by omega)
  have g86 := (fr0 86 (by omega) (by omega)).trans h86
  have g111 := (fr0 111 (by omega) (by omega)).trans p0
  refine Gq_s (pc' := 23) rfl rfl rfl ?_
  refine Gq_get (pc' := 26) rfl rfl (by first | assumption | exact upd_eq _ _ _ | (refine (upd_ne _ _ (by omega)).trans ?_; first | assumption | exact upd_eq _ _ _ | (refine (upd_ne _ _ (by omega)).trans ?_; first | assumption | exact upd_eq _ _ _ | (refine (upd_ne _ _ (by omega)).trans ?_; first | assumption | exact upd_eq _ _ _)))) (by exact rfl) ?_
  refine Gq_s (pc' := 27) rfl rfl rfl ?_
  refine Gq_get (pc' := 30) rfl rfl (by first | assumption | exact upd_eq _ _ _ | (refine (upd_ne _ _ (by omega)).trans ?_; first | assumption | exact upd_eq _ _ _ | (refine (upd_ne _ _ (by omega)).trans ?_; first | assumption | exact upd_eq _ _ _ | (refine (upd_ne _ _ (by omega)).trans ?_; first | assumption | exact upd_eq _ _ _)))) (by exact rfl) ?_
  refine Gq_s (pc' := 31) rfl rfl rfl ?_
  refine Gq_get (pc' := 34) rfl rfl (by first | assumption | exact upd_eq _ _ _ | (refine (upd_ne _ _ (by omega)).trans ?_; first | assumption | exact upd_eq _ _ _ | (refine (upd_ne _ _ (by omega)).trans ?_; first | assumption | exact upd_eq _ _ _ | (refine (upd_ne _ _ (by omega)).trans ?_; first | assumption | exact upd_eq _ _ _)))) (by exact rfl) ?_
  refine Gq_callv (pc' := 37) (Y := xm99) (rest := []) (ce' := 0) (sl' := 0) rfl rfl rfl rfl rfl rfl rfl rfl rfl (t_lead n (Own_ch hD) (Own_ch hL) ho hdo (VS_hi hh1 (RG_vs hR)) ((fr0 93 (by omega) (by omega)).trans D0) ((fr0 94 (by omega) (by omega)).trans D1) ((fr0 90 (by omega) (by omega)).trans L0) ((fr0 91 (by omega) (by omega)).trans L1) g92 g95 (PlAt_off (fr0 111 (by omega) (by omega)) (fr0 112 (by omega) (by omega)) (fr0 113 (by omega) (by omega)) (fr0 114 (by omega) (by omega)) hP)) (by first | assumption | exact upd_eq _ _ _ | (refine (upd_ne _ _ (by omega)).trans ?_; first | assumption | exact upd_eq _ _ _ | (refine (upd_ne _ _ (by omega)).trans ?_; first | assumption | exact upd_eq _ _ _ | (refine (upd_ne _ _ (by omega)).trans ?_; first | assumption | exact upd_eq _ _ _)))) (fun v' H' n' hv => ?_)
  obtain ⟨rfl, rfl, k1, sl, k2, k3, k4⟩ := hv
  have k86 := (k1 86 (by omega) (by omega) (by omega) (by omega)).trans g86
  obtain ⟨kd2, pp2, pb2, ⟨q0, -⟩, -⟩ := id k2
  refine Gq_s (pc' := 38) rfl rfl rfl ?_
  refine Gq_get (pc' := 41) rfl rfl (by first | assumption | exact upd_eq _ _ _ | (refine (upd_ne _ _ (by omega)).trans ?_; first | assumption | exact upd_eq _ _ _ | (refine (upd_ne _ _ (by omega)).trans ?_; first | assumption | exact upd_eq _ _ _ | (refine (upd_ne _ _ (by omega)).trans ?_; first | assumption | exact upd_eq _ _ _)))) (by exact rfl) ?_
  refine Gq_get (pc' := 44) rfl rfl (by first | assumption | exact upd_eq _ _ _ | (refine (upd_ne _ _ (by omega)).trans ?_; first | assumption | exact upd_eq _ _ _ | (refine (upd_ne _ _ (by omega)).trans ?_; first | assumption | exact upd_eq _ _ _ | (refine (upd_ne _ _ (by omega)).trans ?_; first | assumption | exact upd_eq _ _ _)))) (by exact rfl) ?_
  exact Gq_ret rfl rfl (rfl) (⟨rfl, fun o h1 h2 h3 h4 h5 h6 => (k1 o h3 h4 h5 h6).trans (fr0 o h1 h2), (k1 92 (by omega) (by omega) (by omega) (by omega)).trans g92, (k1 95 (by omega) (by omega) (by omega) (by omega)).trans g95, sl, rfl, k2, k3, k4⟩)
def undR (pp : Nat → Nat) (pb : Nat → Option Nat) : Nat → (Nat → Option Nat) → Nat → Option Nat
  | 0, f => f
  | k + 1, f => undR pp pb k (fset f (pp k) (pb k))
theorem t_undo_l {S : ScT} {n pc pd : Nat} {th : Bool} {kd : Nat → Int} {pp : Nat → Nat} {pb : Nat → Option Nat} {vr : Nat → VR} {V : Nat → Prop} (hpp : ∀ i, i < pd → pp i < 12) (hpb : ∀ i o, i < pd → pb i = some o → V o) (hpd : pd ≤ 12) : ∀ (k : Nat) (H : HF) (dk : Nat → Option Nat), k ≤ pd → VsA H vr V → PlAt H th pc pd kd pp pb → H 93 = some (false, 2, [.ref 94, .ref 95]) → H 94 = some (true, 3, aR 12 dk) → Gw S xm104 7 [(0, .ref 111), (1, .ref 93), (2, .int (zI ((k : Int) - 1)))] [] H n 0 0 (MQe xm104 (fun v G m => v = none ∧ G = hup H 94 (true, 3, aR 12 (undR pp pb k dk)) ∧ m = n)) := by
  intro k
  induction k with
  | zero =>
    intro H dk hk hvs hP D0 D1
    refine Gq_s (pc' := 8) rfl rfl rfl ?_
    refine Gq_zlt (pc' := 11) (t := 34) rfl rfl rfl (by omega) (fun _ => ?_) (fun hq => absurd (by omega) hq)
    exact Gq_ret rfl rfl (rfl) (⟨rfl, (upd_self D1).symm, rfl⟩)
  | succ k ih =>
    intro H dk hk hvs hP D0 D1
    obtain ⟨p0, p1, p2, p3⟩ := id hP
    have hp := hpp k (by omega)
    refine Gq_s (pc' := 8) rfl rfl rfl ?_
    refine Gq_zlt (pc' := 11) (t := 34) rfl rfl rfl (by omega) (fun hq => absurd hq (by omega)) (fun _ => ?_)
    refine Gq_s (pc' := 12) rfl rfl rfl ?_
    refine Gq_get (pc' := 15) rfl rfl (by first | assumption | exact upd_eq _ _ _ | (refine (upd_ne _ _ (by omega)).trans ?_; first | assumption | exact upd_eq _ _ _ | (refine (upd_ne _ _ (by omega)).trans ?_; first | assumption | exact upd_eq _ _ _ | (refine (upd_ne _ _ (by omega)).trans ?_; first | assumption | exact upd_eq _ _ _)))) (by exact rfl) ?_
    refine Gq_s (pc' := 16) rfl rfl rfl ?_
    refine Gq_get (pc' := 19) rfl rfl (by first | assumption | exact upd_eq _ _ _ | (refine (upd_ne _ _ (by omega)).trans ?_; first | assumption | exact upd_eq _ _ _ | (refine (upd_ne _ _ (by omega)).trans ?_; first | assumption | exact upd_eq _ _ _ | (refine (upd_ne _ _ (by omega)).trans ?_; first | assumption | exact upd_eq _ _ _)))) (by exact rfl) ?_
    refine Gq_s (pc' := 20) rfl rfl rfl ?_
    refine Gq_iald (pc' := 21) (j := k) rfl rfl (by first | assumption | exact upd_eq _ _ _ | (refine (upd_ne _ _ (by omega)).trans ?_; first | assumption | exact upd_eq _ _ _ | (refine (upd_ne _ _ (by omega)).trans ?_; first | assumption | exact upd_eq _ _ _ | (refine (upd_ne _ _ (by omega)).trans ?_; first | assumption | exact upd_eq _ _ _)))) (by omega) (by omega) (by omega) ?_
    refine Gq_s (pc' := 22) rfl rfl rfl ?_
    refine Gq_get (pc' := 25) rfl rfl (by first | assumption | exact upd_eq _ _ _ | (refine (upd_ne _ _ (by omega)).trans ?_; first | assumption | exact upd_eq _ _ _ | (refine (upd_ne _ _ (by omega)).trans ?_; first | assumption | exact upd_eq _ _ _ | (refine (upd_ne _ _ (by omega)).trans ?_; first | assumption | exact upd_eq _ _ _)))) (by exact rfl) ?_
    refine Gq_s (pc' := 26) rfl rfl rfl ?_
    refine Gq_aald (pc' := 27) (j := k) rfl rfl (by first | assumption | exact upd_eq _ _ _ | (refine (upd_ne _ _ (by omega)).trans ?_; first | assumption | exact upd_eq _ _ _ | (refine (upd_ne _ _ (by omega)).trans ?_; first | assumption | exact upd_eq _ _ _ | (refine (upd_ne _ _ (by omega)).trans ?_; first | assumption | exact upd_eq _ _ _)))) (by exact rfl) (by omega) (by omega) (by omega) (rfl) ?_
    refine Gq_aast (pc' := 28) (pb k) rfl rfl (by first | assumption | exact upd_eq _ _ _ | (refine (upd_ne _ _ (by omega)).trans ?_; first | assumption | exact upd_eq _ _ _ | (refine (upd_ne _ _ (by omega)).trans ?_; first | assumption | exact upd_eq _ _ _ | (refine (upd_ne _ _ (by omega)).trans ?_; first | assumption | exact upd_eq _ _ _)))) (by exact rfl) (fun _ => rfl) (rfl) (fun x hx => by exact VS_ok hvs (hpb k x (by omega) hx)) (rfl) (by omega) (by omega) ?_
    refine Gq_iinc (pc' := 31) (lv' := [(0, _), (1, _), (2, _)]) rfl rfl rfl rfl ?_
    refine Gq_goto rfl (t := 7) rfl ?_
    have := ih _ (fset dk (pp k) (pb k)) (by omega) (VS_upd (by omega) hvs) (PlAt_off (upd_ne _ _ (by omega)) (upd_ne _ _ (by omega)) (upd_ne _ _ (by omega)) (upd_ne _ _ (by omega)) hP) (by rw [upd_ne _ _ (by omega)]; exact D0) (upd_eq H 94 (true, 3, aR 12 (fset dk (pp k) (pb k))))
    simp only [upd_upd] at this
    have e : ((k + 1 : Nat) : Int) - 1 + -1 = (k : Int) - 1 := by omega
    rw [e]
    exact this
theorem t_undo {S : ScT} {H : HF} (n : Nat) {pc pd : Nat} {th : Bool} {kd : Nat → Int} {pp : Nat → Nat} {pb dk : Nat → Option Nat} {vr : Nat → VR} {V : Nat → Prop} (hpp : ∀ i, i < pd → pp i < 12) (hpb : ∀ i o, i < pd → pb i = some o → V o) (hpd : pd ≤ 12) (hvs : VsA H vr V) (hP : PlAt H th pc pd kd pp pb) (D0 : H 93 = some (false, 2, [.ref 94, .ref 95])) (D1 : H 94 = some (true, 3, aR 12 dk)) : Rdt S 104 [.ref 111, .ref 93] H n none (hup H 94 (true, 3, aR 12 (undR pp pb pd dk))) n := by
  refine Rm_of (M := xm104) (lv := [(0, _), (1, _)]) rfl rfl rfl ?_
  obtain ⟨p0, -⟩ := id hP
  refine Gq_s (pc' := 1) rfl rfl rfl ?_
  refine Gq_get (pc' := 4) rfl rfl (by first | assumption | exact upd_eq _ _ _ | (refine (upd_ne _ _ (by omega)).trans ?_; first | assumption | exact upd_eq _ _ _ | (refine (upd_ne _ _ (by omega)).trans ?_; first | assumption | exact upd_eq _ _ _ | (refine (upd_ne _ _ (by omega)).trans ?_; first | assumption | exact upd_eq _ _ _)))) (by exact rfl) ?_
  refine Gq_s (pc' := 5) rfl rfl rfl ?_
  refine Gq_isub (pc' := 6) rfl rfl ?_
  refine Gq_s (pc' := 7) (lv' := [(0, _), (1, _), (2, _)]) rfl rfl rfl ?_
  exact t_undo_l hpp hpb hpd pd H dk (Nat.le_refl _) hvs hP D0 D1
theorem t_reqPlan {S : ScT} {H : HF} (n : Nat) {P : Nat} {dr lt fc : Int} (h86 : H 86 = some (false, 7, pwF P dr lt fc)) {pc pd : Nat} {kd : Nat → Int} {pp : Nat → Nat} {pb : Nat → Option Nat} (hP : PlAt H true pc pd kd pp pb) : Rdt S 52 [.ref 86] H n none H n := by
  refine Rm_of (M := xm52) (lv := [(0, _)]) rfl rfl rfl ?_
  obtain ⟨p0, -⟩ := id hP
  refine Gq_s (pc' := 1) rfl rfl rfl ?_
  refine Gq_get (pc' := 4) rfl rfl (by first | assumption | exact upd_eq _ _ _ | (refine (upd_ne _ _ (by omega)).trans ?_; first | assumption | exact upd_eq _ _ _ | (refine (upd_ne _ _ (by omega)).trans ?_; first | assumption | exact upd_eq _ _ _ | (refine (upd_ne _ _ (by omega)).trans ?_; first | assumption | exact upd_eq _ _ _)))) (by exact rfl) ?_
  refine Gq_get (pc' := 7) rfl rfl (by first | assumption | exact upd_eq _ _ _ | (refine (upd_ne _ _ (by omega)).trans ?_; first | assumption | exact upd_eq _ _ _ | (refine (upd_ne _ _ (by omega)).trans ?_; first | assumption | exact upd_eq _ _ _ | (refine (upd_ne _ _ (by omega)).trans ?_; first | assumption | exact upd_eq _ _ _)))) (by exact rfl) ?_
  refine Gq_zne (pc' := 10) (t := 21) rfl rfl rfl (by decide) (fun _ => ?_) (fun hq => absurd (by decide) hq)
  exact Gq_ret rfl rfl (rfl) (⟨rfl, rfl, rfl⟩)
theorem t_rollBack {S : ScT} {H : HF} (n : Nat) {P : Nat} {pid cnt : Nat → Nat} {vd gr : Nat → Nat → Nat} {vr : Nat → VR} {dr lt fc : Int} (hR : RG H P pid cnt vd gr vr) (h86 : H 86 = some (false, 7, pwF P dr lt fc)) {dk : Nat → Option Nat} (D0 : H 93 = some (false, 2, [.ref 94, .ref 95])) (D1 : H 94 = some (true, 3, aR 12 dk)) {pc pd : Nat} {kd : Nat → Int} {pp : Nat → Nat} {pb : Nat → Option Nat} (hP : PlAt H true pc pd kd pp pb) (hpp : ∀ i, i < pd → pp i < 12) (hpb : ∀ i o, i < pd → pb i = some o → VV P cnt vd o) (hpd : pd ≤ 12) : Rdt S 31 [.ref 86] H n (some (.int (zI (pd : Int)))) (hup (hup H 94 (true, 3, aR 12 (undR pp pb pd dk))) 111 (false, 4, [.int (zI 0), .int (zI 0), .int (zI 0), .ref 112, .ref 113, .ref 114])) n := by
  refine Rm_of (M := xm31) (lv := [(0, _)]) rfl rfl rfl ?_
  obtain ⟨p0, -⟩ := id hP
  refine Gq_s (pc' := 1) rfl rfl rfl ?_
  refine Gq_callv1 (pc' := 4) (Y := xm52) (rest := []) (st' := []) (ce' := 0) (sl' := 0) rfl rfl rfl rfl rfl rfl rfl rfl rfl (t_reqPlan n h86 hP) rfl (by first | assumption | exact upd_eq _ _ _ | (refine (upd_ne _ _ (by omega)).trans ?_; first | assumption | exact upd_eq _ _ _ | (refine (upd_ne _ _ (by omega)).trans ?_; first | assumption | exact upd_eq _ _ _ | (refine (upd_ne _ _ (by omega)).trans ?_; first | assumption | exact upd_eq _ _ _)))) ?_
  refine Gq_s (pc' := 5) rfl rfl rfl ?_
  refine Gq_get (pc' := 8) rfl rfl (by first | assumption | exact upd_eq _ _ _ | (refine (upd_ne _ _ (by omega)).trans ?_; first | assumption | exact upd_eq _ _ _ | (refine (upd_ne _ _ (by omega)).trans ?_; first | assumption | exact upd_eq _ _ _ | (refine (upd_ne _ _ (by omega)).trans ?_; first | assumption | exact upd_eq _ _ _)))) (by exact rfl) ?_
  refine Gq_get (pc' := 11) rfl rfl (by first | assumption | exact upd_eq _ _ _ | (refine (upd_ne _ _ (by omega)).trans ?_; first | assumption | exact upd_eq _ _ _ | (refine (upd_ne _ _ (by omega)).trans ?_; first | assumption | exact upd_eq _ _ _ | (refine (upd_ne _ _ (by omega)).trans ?_; first | assumption | exact upd_eq _ _ _)))) (by exact rfl) ?_
  refine Gq_s (pc' := 12) (lv' := [(0, _), (1, _)]) rfl rfl rfl ?_
  refine Gq_s (pc' := 13) rfl rfl rfl ?_
  refine Gq_get (pc' := 16) rfl rfl (by first | assumption | exact upd_eq _ _ _ | (refine (upd_ne _ _ (by omega)).trans ?_; first | assumption | exact upd_eq _ _ _ | (refine (upd_ne _ _ (by omega)).trans ?_; first | assumption | exact upd_eq _ _ _ | (refine (upd_ne _ _ (by omega)).trans ?_; first | assumption | exact upd_eq _ _ _)))) (by exact rfl) ?_
  refine Gq_s (pc' := 17) rfl rfl rfl ?_
  refine Gq_get (pc' := 20) rfl rfl (by first | assumption | exact upd_eq _ _ _ | (refine (upd_ne _ _ (by omega)).trans ?_; first | assumption | exact upd_eq _ _ _ | (refine (upd_ne _ _ (by omega)).trans ?_; first | assumption | exact upd_eq _ _ _ | (refine (upd_ne _ _ (by omega)).trans ?_; first | assumption | exact upd_eq _ _ _)))) (by exact rfl) ?_
  refine Gq_callv1 (pc' := 23) (Y := xm104) (rest := []) (st' := []) (ce' := 0) (sl' := 0) rfl rfl rfl rfl rfl rfl rfl rfl rfl (t_undo n hpp hpb hpd (RG_vs hR) hP D0 D1) rfl (by first | assumption | exact upd_eq _ _ _ | (refine (upd_ne _ _ (by omega)).trans ?_; first | assumption | exact upd_eq _ _ _ | (refine (upd_ne _ _ (by omega)).trans ?_; first | assumption | exact upd_eq _ _ _ | (refine (upd_ne _ _ (by omega)).trans ?_; first | assumption | exact upd_eq _ _ _)))) ?_
  refine Gq_s (pc' := 24) rfl rfl rfl ?_
  refine Gq_get (pc' := 27) rfl rfl (by first | assumption | exact upd_eq _ _ _ | (refine (upd_ne _ _ (by omega)).trans ?_; first | assumption | exact upd_eq _ _ _ | (refine (upd_ne _ _ (by omega)).trans ?_; first | assumption | exact upd_eq _ _ _ | (refine (upd_ne _ _ (by omega)).trans ?_; first | assumption | exact upd_eq _ _ _)))) (by exact rfl) ?_
  refine Gq_callv1 (pc' := 30) (Y := xm98) (rest := []) (st' := []) (ce' := 0) (sl' := 0) rfl rfl rfl rfl rfl rfl rfl rfl rfl (t_forget n (by rw [upd_ne _ _ (by omega)]; exact p0)) rfl (by first | assumption | exact upd_eq _ _ _ | (refine (upd_ne _ _ (by omega)).trans ?_; first | assumption | exact upd_eq _ _ _ | (refine (upd_ne _ _ (by omega)).trans ?_; first | assumption | exact upd_eq _ _ _ | (refine (upd_ne _ _ (by omega)).trans ?_; first | assumption | exact upd_eq _ _ _)))) ?_
  refine Gq_s (pc' := 31) rfl rfl rfl ?_
  exact Gq_ret rfl rfl (rfl) (⟨rfl, rfl, rfl⟩)
theorem t_reqRoom {S : ScT} (H : HF) (n : Nat) {z : Int} (hz : 0 ≤ z ∧ z ≤ 20000) : Rdt S 50 [.int (zI z)] H n none H n := by
  refine Rm_of (M := xm50) (lv := [(0, _)]) rfl rfl rfl ?_
  refine Gq_s (pc' := 1) rfl rfl rfl ?_
  refine Gq_zlt (pc' := 4) (t := 11) rfl rfl rfl (by omega) (fun hq => absurd hq (by omega)) (fun _ => ?_)
  refine Gq_s (pc' := 5) rfl rfl rfl ?_
  refine Gq_sipush (pc' := 8) rfl rfl (by decide) ?_
  refine Gq_cle (pc' := 11) (t := 22) rfl rfl rfl (by omega) (by omega) (fun _ => ?_) (fun hq => absurd (by omega) hq)
  exact Gq_ret rfl rfl (rfl) (⟨rfl, rfl, rfl⟩)
theorem t_setDisk {S : ScT} {H : HF} (n : Nat) {z : Int} {P : Nat} {dr lt fc : Int} (h86 : H 86 = some (false, 7, pwF P dr lt fc)) (hz : 0 ≤ z ∧ z ≤ 20000) : Rdt S 24 [.ref 86, .int (zI z)] H n (some (.int (zI dr))) (hup H 86 (false, 7, pwF P z lt fc)) n := by
  refine Rm_of (M := xm24) (lv := [(0, _), (1, _)]) rfl rfl rfl ?_
  refine Gq_s (pc' := 1) rfl rfl rfl ?_
  refine Gq_calls1 (pc' := 4) (Y := xm50) (rest := []) (st' := []) (ce' := 0) (sl' := 0) rfl rfl rfl rfl rfl rfl rfl rfl rfl rfl (t_reqRoom H n hz) rfl ?_
  refine Gq_s (pc' := 5) rfl rfl rfl ?_
  refine Gq_get (pc' := 8) rfl rfl (by first | assumption | exact upd_eq _ _ _ | (refine (upd_ne _ _ (by omega)).trans ?_; first | assumption | exact upd_eq _ _ _ | (refine (upd_ne _ _ (by omega)).trans ?_; first | assumption | exact upd_eq _ _ _ | (refine (upd_ne _ _ (by omega)).trans ?_; first | assumption | exact upd_eq _ _ _)))) (by exact rfl) ?_
  refine Gq_s (pc' := 9) (lv' := [(0, _), (1, _), (2, _)]) rfl rfl rfl ?_
  refine Gq_s (pc' := 10) rfl rfl rfl ?_
  refine Gq_s (pc' := 11) rfl rfl rfl ?_
  refine Gq_put (pc' := 14) (fs' := [_, _, _, _, _, _, _, _, _, _, _, _, _]) rfl rfl (by first | assumption | exact upd_eq _ _ _ | (refine (upd_ne _ _ (by omega)).trans ?_; first | assumption | exact upd_eq _ _ _ | (refine (upd_ne _ _ (by omega)).trans ?_; first | assumption | exact upd_eq _ _ _ | (refine (upd_ne _ _ (by omega)).trans ?_; first | assumption | exact upd_eq _ _ _)))) (by exact rfl) (by first | rfl | exact xfit_bI _) (by exact rfl) ?_
  refine Gq_s (pc' := 15) rfl rfl rfl ?_
  exact Gq_ret rfl rfl (rfl) (⟨rfl, rfl, rfl⟩)
theorem t_setCache {S : ScT} {H : HF} (n : Nat) {z : Int} {P : Nat} {pid cnt : Nat → Nat} {vd gr : Nat → Nat → Nat} {vr : Nat → VR} {dr lt fc : Int} (hR : RG H P pid cnt vd gr vr) (h86 : H 86 = some (false, 7, pwF P dr lt fc)) (hz : 0 ≤ z ∧ z ≤ 20000) {cl : List Nat} {cr : Int} (hCa : CaAt H 115 cl cr vr (VV P cnt vd)) : Rmt S 25 [.ref 86, .int (zI z)] H n (fun v G m => v = some (.int (zI cr)) ∧ m = n ∧ CaAt G 115 (trm vr z cl.length cl) z vr (VV P cnt vd) ∧ ∀ o, ¬ o = 115 → G o = H o) := by
  refine Rm_of (M := xm25) (lv := [(0, _), (1, _)]) rfl rfl rfl ?_
  obtain ⟨c0, c1, c2, hd, c3, c4⟩ := id hCa
  refine Gq_s (pc' := 1) rfl rfl rfl ?_
  refine Gq_calls1 (pc' := 4) (Y := xm50) (rest := []) (st' := []) (ce' := 0) (sl' := 0) rfl rfl rfl rfl rfl rfl rfl rfl rfl rfl (t_reqRoom H n hz) rfl ?_
  refine Gq_s (pc' := 5) rfl rfl rfl ?_
  refine Gq_get (pc' := 8) rfl rfl (by first | assumption | exact upd_eq _ _ _ | (refine (upd_ne _ _ (by omega)).trans ?_; first | assumption | exact upd_eq _ _ _ | (refine (upd_ne _ _ (by omega)).trans ?_; first | assumption | exact upd_eq _ _ _ | (refine (upd_ne _ _ (by omega)).trans ?_; first | assumption | exact upd_eq _ _ _)))) (by exact rfl) ?_
  refine Gq_get (pc' := 11) rfl rfl (by first | assumption | exact upd_eq _ _ _ | (refine (upd_ne _ _ (by omega)).trans ?_; first | assumption | exact upd_eq _ _ _ | (refine (upd_ne _ _ (by omega)).trans ?_; first | assumption | exact upd_eq _ _ _ | (refine (upd_ne _ _ (by omega)).trans ?_; first | assumption | exact upd_eq _ _ _)))) (by exact rfl) ?_
  refine Gq_s (pc' := 12) (lv' := [(0, _), (1, _), (2, _)]) rfl rfl rfl ?_
  refine Gq_s (pc' := 13) rfl rfl rfl ?_
  refine Gq_get (pc' := 16) rfl rfl (by first | assumption | exact upd_eq _ _ _ | (refine (upd_ne _ _ (by omega)).trans ?_; first | assumption | exact upd_eq _ _ _ | (refine (upd_ne _ _ (by omega)).trans ?_; first | assumption | exact upd_eq _ _ _ | (refine (upd_ne _ _ (by omega)).trans ?_; first | assumption | exact upd_eq _ _ _)))) (by exact rfl) ?_
  refine Gq_s (pc' := 17) rfl rfl rfl ?_
  refine Gq_put (pc' := 20) (fs' := [_, _, _, _]) rfl rfl (by first | assumption | exact upd_eq _ _ _ | (refine (upd_ne _ _ (by omega)).trans ?_; first | assumption | exact upd_eq _ _ _ | (refine (upd_ne _ _ (by omega)).trans ?_; first | assumption | exact upd_eq _ _ _ | (refine (upd_ne _ _ (by omega)).trans ?_; first | assumption | exact upd_eq _ _ _)))) (by exact rfl) (by first | rfl | exact xfit_bI _) (by exact rfl) ?_
  refine Gq_s (pc' := 21) rfl rfl rfl ?_
  refine Gq_get (pc' := 24) rfl rfl (by first | assumption | exact upd_eq _ _ _ | (refine (upd_ne _ _ (by omega)).trans ?_; first | assumption | exact upd_eq _ _ _ | (refine (upd_ne _ _ (by omega)).trans ?_; first | assumption | exact upd_eq _ _ _ | (refine (upd_ne _ _ (by omega)).trans ?_; first | assumption | exact upd_eq _ _ _)))) (by exact rfl) ?_
  refine Gq_callv (pc' := 27) (Y := xm68) (rest := []) (ce' := 0) (sl' := 0) rfl rfl rfl rfl rfl rfl rfl rfl rfl (t_log n (VS_upd (by omega) (RG_vs hR)) (by omega) hz (show CaAt (hup H 115 (false, 0, [.ref 116, .int (zI (cl.length : Int)), .int (zI (usd vr cl)), .int (zI z)])) 115 cl z vr (VV P cnt vd) from ⟨upd_eq _ _ _, c1, c2, hd, by rw [upd_ne _ _ (by omega)]; exact c3, c4⟩)) (by first | assumption | exact upd_eq _ _ _ | (refine (upd_ne _ _ (by omega)).trans ?_; first | assumption | exact upd_eq _ _ _ | (refine (upd_ne _ _ (by omega)).trans ?_; first | assumption | exact upd_eq _ _ _ | (refine (upd_ne _ _ (by omega)).trans ?_; first | assumption | exact upd_eq _ _ _)))) (fun v' H' n' hv => ?_)
  obtain ⟨rfl, rfl, g1, g2⟩ := hv
  refine Gq_s (pc' := 28) rfl rfl rfl ?_
  exact Gq_ret rfl rfl (rfl) (⟨rfl, rfl, g1, fun o h => (g2 o h).trans (upd_ne _ _ h)⟩)
theorem t_vti {S : ScT} {H : HF} (n : Nat) {p i : Nat} {P : Nat} {pid cnt : Nat → Nat} {vd gr : Nat → Nat → Nat} {vr : Nat → VR} {dr lt fc : Int} (hR : RG H P pid cnt vd gr vr) (h86 : H 86 = some (false, 7, pwF P dr lt fc)) (hp : p < P) (hi : i < cnt p) : Rdt S 44 [.ref 86, .int (zI (p : Int)), .int (zI (i : Int))] H n (some (.ref (vd p i))) H n := by
  refine Rm_of (M := xm44) (lv := [(0, _), (1, _), (2, _)]) rfl rfl rfl ?_
  obtain ⟨hk9, hc8, h0, h1, -⟩ := hR.2.2.1 p hp
  refine Gq_s (pc' := 1) rfl rfl rfl ?_
  refine Gq_s (pc' := 2) rfl rfl rfl ?_
  refine Gq_callv1 (pc' := 5) (Y := xm43) (rest := []) (st' := [_]) (ce' := 0) (sl' := 0) rfl rfl rfl rfl rfl rfl rfl rfl rfl (t_pti n hR h86 hp) rfl (by first | assumption | exact upd_eq _ _ _ | (refine (upd_ne _ _ (by omega)).trans ?_; first | assumption | exact upd_eq _ _ _ | (refine (upd_ne _ _ (by omega)).trans ?_; first | assumption | exact upd_eq _ _ _ | (refine (upd_ne _ _ (by omega)).trans ?_; first | assumption | exact upd_eq _ _ _)))) ?_
  refine Gq_s (pc' := 6) (lv' := [(0, _), (1, _), (2, _), (3, _)]) rfl rfl rfl ?_
  refine Gq_s (pc' := 7) rfl rfl rfl ?_
  refine Gq_zlt (pc' := 10) (t := 18) rfl rfl rfl (by omega) (fun hq => absurd hq (by omega)) (fun _ => ?_)
  refine Gq_s (pc' := 11) rfl rfl rfl ?_
  refine Gq_s (pc' := 12) rfl rfl rfl ?_
  refine Gq_get (pc' := 15) rfl rfl (by first | assumption | exact upd_eq _ _ _ | (refine (upd_ne _ _ (by omega)).trans ?_; first | assumption | exact upd_eq _ _ _ | (refine (upd_ne _ _ (by omega)).trans ?_; first | assumption | exact upd_eq _ _ _ | (refine (upd_ne _ _ (by omega)).trans ?_; first | assumption | exact upd_eq _ _ _)))) (by exact rfl) ?_
  refine Gq_clt (pc' := 18) (t := 29) rfl rfl rfl (by omega) (by omega) (fun _ => ?_) (fun hq => absurd (by omega) hq)
  refine Gq_s (pc' := 30) rfl rfl rfl ?_
  refine Gq_get (pc' := 33) rfl rfl (by first | assumption | exact upd_eq _ _ _ | (refine (upd_ne _ _ (by omega)).trans ?_; first | assumption | exact upd_eq _ _ _ | (refine (upd_ne _ _ (by omega)).trans ?_; first | assumption | exact upd_eq _ _ _ | (refine (upd_ne _ _ (by omega)).trans ?_; first | assumption | exact upd_eq _ _ _)))) (by exact rfl) ?_
  refine Gq_s (pc' := 34) rfl rfl rfl ?_
  refine Gq_aald (pc' := 35) rfl rfl (by first | assumption | exact upd_eq _ _ _ | (refine (upd_ne _ _ (by omega)).trans ?_; first | assumption | exact upd_eq _ _ _ | (refine (upd_ne _ _ (by omega)).trans ?_; first | assumption | exact upd_eq _ _ _ | (refine (upd_ne _ _ (by omega)).trans ?_; first | assumption | exact upd_eq _ _ _)))) (by exact rfl) (rfl) (by omega) (by omega) (rv_if (show i < cnt p by omega)) ?_
  exact Gq_ret rfl rfl (rfl) (⟨rfl, rfl, rfl⟩)
theorem t_ageOf {S : ScT} {H : HF} (n : Nat) {p i : Nat} {P : Nat} {pid cnt : Nat → Nat} {vd gr : Nat → Nat → Nat} {vr : Nat → VR} {dr lt fc : Int} (hR : RG H P pid cnt vd gr vr) (h86 : H 86 = some (false, 7, pwF P dr lt fc)) (hp : p < P) (hi : i < cnt p) {cl : List Nat} {cr : Int} (hCa : CaAt H 115 cl cr vr (VV P cnt vd)) : Rdt S 35 [.ref 86, .int (zI (p : Int)), .int (zI (i : Int))] H n (some (.int (zI (plc (vd p i) cl 0)))) H n := by
  refine Rm_of (M := xm35) (lv := [(0, _), (1, _), (2, _)]) rfl rfl rfl ?_
  obtain ⟨c0, c1, c2, hd, c3, c4⟩ := id hCa
  refine Gq_s (pc' := 1) rfl rfl rfl ?_
  refine Gq_get (pc' := 4) rfl rfl (by first | assumption | exact upd_eq _ _ _ | (refine (upd_ne _ _ (by omega)).trans ?_; first | assumption | exact upd_eq _ _ _ | (refine (upd_ne _ _ (by omega)).trans ?_; first | assumption | exact upd_eq _ _ _ | (refine (upd_ne _ _ (by omega)).trans ?_; first | assumption | exact upd_eq _ _ _)))) (by exact rfl) ?_
  refine Gq_s (pc' := 5) rfl rfl rfl ?_
  refine Gq_s (pc' := 6) rfl rfl rfl ?_
  refine Gq_s (pc' := 7) rfl rfl rfl ?_
  refine Gq_callv1 (pc' := 10) (Y := xm44) (rest := [_]) (st' := [_, _]) (ce' := 0) (sl' := 0) rfl rfl rfl rfl rfl rfl rfl rfl rfl (t_vti n hR h86 hp hi) rfl (by first | assumption | exact upd_eq _ _ _ | (refine (upd_ne _ _ (by omega)).trans ?_; first | assumption | exact upd_eq _ _ _ | (refine (upd_ne _ _ (by omega)).trans ?_; first | assumption | exact upd_eq _ _ _ | (refine (upd_ne _ _ (by omega)).trans ?_; first | assumption | exact upd_eq _ _ _)))) ?_
  refine Gq_callv1 (pc' := 13) (Y := xm65) (rest := []) (st' := [_]) (ce' := 0) (sl' := 0) rfl rfl rfl rfl rfl rfl rfl rfl rfl (t_plc n (RG_vs hR) c0 c1 c2 c3 c4 ⟨p, hp, i, hi, rfl⟩) rfl (by first | assumption | exact upd_eq _ _ _ | (refine (upd_ne _ _ (by omega)).trans ?_; first | assumption | exact upd_eq _ _ _ | (refine (upd_ne _ _ (by omega)).trans ?_; first | assumption | exact upd_eq _ _ _ | (refine (upd_ne _ _ (by omega)).trans ?_; first | assumption | exact upd_eq _ _ _)))) ?_
  exact Gq_ret rfl rfl (rfl) (⟨rfl, rfl, rfl⟩)
theorem t_reqStep {S : ScT} {H : HF} (n : Nat) {P : Nat} {dr lt fc : Int} (h86 : H 86 = some (false, 7, pwF P dr lt fc)) {th : Bool} {pc pd i : Nat} {kd : Nat → Int} {pp : Nat → Nat} {pb : Nat → Option Nat} (hP : PlAt H th pc pd kd pp pb) (hi : i < pc) (hpc : pc ≤ 12) : Rdt S 51 [.ref 86, .int (zI (i : Int))] H n none H n := by
  refine Rm_of (M := xm51) (lv := [(0, _), (1, _)]) rfl rfl rfl ?_
  obtain ⟨p0, -⟩ := id hP
  refine Gq_s (pc' := 1) rfl rfl rfl ?_
  refine Gq_zlt (pc' := 4) (t := 15) rfl rfl rfl (by omega) (fun hq => absurd hq (by omega)) (fun _ => ?_)
  refine Gq_s (pc' := 5) rfl rfl rfl ?_
  refine Gq_s (pc' := 6) rfl rfl rfl ?_
  refine Gq_get (pc' := 9) rfl rfl (by first | assumption | exact upd_eq _ _ _ | (refine (upd_ne _ _ (by omega)).trans ?_; first | assumption | exact upd_eq _ _ _ | (refine (upd_ne _ _ (by omega)).trans ?_; first | assumption | exact upd_eq _ _ _ | (refine (upd_ne _ _ (by omega)).trans ?_; first | assumption | exact upd_eq _ _ _)))) (by exact rfl) ?_
  refine Gq_get (pc' := 12) rfl rfl (by first | assumption | exact upd_eq _ _ _ | (refine (upd_ne _ _ (by omega)).trans ?_; first | assumption | exact upd_eq _ _ _ | (refine (upd_ne _ _ (by omega)).trans ?_; first | assumption | exact upd_eq _ _ _ | (refine (upd_ne _ _ (by omega)).trans ?_; first | assumption | exact upd_eq _ _ _)))) (by exact rfl) ?_
  refine Gq_clt (pc' := 15) (t := 26) rfl rfl rfl (by omega) (by omega) (fun _ => ?_) (fun hq => absurd (by omega) hq)
  exact Gq_ret rfl rfl (rfl) (⟨rfl, rfl, rfl⟩)
theorem t_kindOf {S : ScT} {H : HF} (n : Nat) {P : Nat} {dr lt fc : Int} (h86 : H 86 = some (false, 7, pwF P dr lt fc)) {th : Bool} {pc pd i : Nat} {kd : Nat → Int} {pp : Nat → Nat} {pb : Nat → Option Nat} (hP : PlAt H th pc pd kd pp pb) (hi : i < pc) (hpc : pc ≤ 12) : Rdt S 28 [.ref 86, .int (zI (i : Int))] H n (some (.int (zI (kd i)))) H n := by
  refine Rm_of (M := xm28) (lv := [(0, _), (1, _)]) rfl rfl rfl ?_
  obtain ⟨p0, p1, p2, p3⟩ := id hP
  refine Gq_s (pc' := 1) rfl rfl rfl ?_
  refine Gq_s (pc' := 2) rfl rfl rfl ?_
  refine Gq_callv1 (pc' := 5) (Y := xm51) (rest := []) (st' := []) (ce' := 0) (sl' := 0) rfl rfl rfl rfl rfl rfl rfl rfl rfl (t_reqStep n h86 hP hi hpc) rfl (by first | assumption | exact upd_eq _ _ _ | (refine (upd_ne _ _ (by omega)).trans ?_; first | assumption | exact upd_eq _ _ _ | (refine (upd_ne _ _ (by omega)).trans ?_; first | assumption | exact upd_eq _ _ _ | (refine (upd_ne _ _ (by omega)).trans ?_; first | assumption | exact upd_eq _ _ _)))) ?_
  refine Gq_s (pc' := 6) rfl rfl rfl ?_
  refine Gq_get (pc' := 9) rfl rfl (by first | assumption | exact upd_eq _ _ _ | (refine (upd_ne _ _ (by omega)).trans ?_; first | assumption | exact upd_eq _ _ _ | (refine (upd_ne _ _ (by omega)).trans ?_; first | assumption | exact upd_eq _ _ _ | (refine (upd_ne _ _ (by omega)).trans ?_; first | assumption | exact upd_eq _ _ _)))) (by exact rfl) ?_
  refine Gq_get (pc' := 12) rfl rfl (by first | assumption | exact upd_eq _ _ _ | (refine (upd_ne _ _ (by omega)).trans ?_; first | assumption | exact upd_eq _ _ _ | (refine (upd_ne _ _ (by omega)).trans ?_; first | assumption | exact upd_eq _ _ _ | (refine (upd_ne _ _ (by omega)).trans ?_; first | assumption | exact upd_eq _ _ _)))) (by exact rfl) ?_
  refine Gq_s (pc' := 13) rfl rfl rfl ?_
  refine Gq_iald (pc' := 14) rfl rfl (by first | assumption | exact upd_eq _ _ _ | (refine (upd_ne _ _ (by omega)).trans ?_; first | assumption | exact upd_eq _ _ _ | (refine (upd_ne _ _ (by omega)).trans ?_; first | assumption | exact upd_eq _ _ _ | (refine (upd_ne _ _ (by omega)).trans ?_; first | assumption | exact upd_eq _ _ _)))) (rfl) (by omega) (by omega) ?_
  exact Gq_ret rfl rfl (rfl) (⟨rfl, rfl, rfl⟩)
theorem t_packageOf {S : ScT} {H : HF} (n : Nat) {P : Nat} {dr lt fc : Int} (h86 : H 86 = some (false, 7, pwF P dr lt fc)) {th : Bool} {pc pd i : Nat} {kd : Nat → Int} {pp : Nat → Nat} {pb : Nat → Option Nat} (hP : PlAt H th pc pd kd pp pb) (hi : i < pc) (hpc : pc ≤ 12) : Rdt S 29 [.ref 86, .int (zI (i : Int))] H n (some (.int (zI (pp i : Int)))) H n := by
  refine Rm_of (M := xm29) (lv := [(0, _), (1, _)]) rfl rfl rfl ?_
  obtain ⟨p0, p1, p2, p3⟩ := id hP
  refine Gq_s (pc' := 1) rfl rfl rfl ?_
  refine Gq_s (pc' := 2) rfl rfl rfl ?_
  refine Gq_callv1 (pc' := 5) (Y := xm51) (rest := []) (st' := []) (ce' := 0) (sl' := 0) rfl rfl rfl rfl rfl rfl rfl rfl rfl (t_reqStep n h86 hP hi hpc) rfl (by first | assumption | exact upd_eq _ _ _ | (refine (upd_ne _ _ (by omega)).trans ?_; first | assumption | exact upd_eq _ _ _ | (refine (upd_ne _ _ (by omega)).trans ?_; first | assumption | exact upd_eq _ _ _ | (refine (upd_ne _ _ (by omega)).trans ?_; first | assumption | exact upd_eq _ _ _)))) ?_
  refine Gq_s (pc' := 6) rfl rfl rfl ?_
  refine Gq_get (pc' := 9) rfl rfl (by first | assumption | exact upd_eq _ _ _ | (refine (upd_ne _ _ (by omega)).trans ?_; first | assumption | exact upd_eq _ _ _ | (refine (upd_ne _ _ (by omega)).trans ?_; first | assumption | exact upd_eq _ _ _ | (refine (upd_ne _ _ (by omega)).trans ?_; first | assumption | exact upd_eq _ _ _)))) (by exact rfl) ?_
  refine Gq_get (pc' := 12) rfl rfl (by first | assumption | exact upd_eq _ _ _ | (refine (upd_ne _ _ (by omega)).trans ?_; first | assumption | exact upd_eq _ _ _ | (refine (upd_ne _ _ (by omega)).trans ?_; first | assumption | exact upd_eq _ _ _ | (refine (upd_ne _ _ (by omega)).trans ?_; first | assumption | exact upd_eq _ _ _)))) (by exact rfl) ?_
  refine Gq_s (pc' := 13) rfl rfl rfl ?_
  refine Gq_iald (pc' := 14) rfl rfl (by first | assumption | exact upd_eq _ _ _ | (refine (upd_ne _ _ (by omega)).trans ?_; first | assumption | exact upd_eq _ _ _ | (refine (upd_ne _ _ (by omega)).trans ?_; first | assumption | exact upd_eq _ _ _ | (refine (upd_ne _ _ (by omega)).trans ?_; first | assumption | exact upd_eq _ _ _)))) (rfl) (by omega) (by omega) ?_
  exact Gq_ret rfl rfl (rfl) (⟨rfl, rfl, rfl⟩)
def rnR (vr : Nat → VR) (lk dk : Nat → Option Nat) (pp : Nat → Nat) : Nat → Nat → Int → Int → Int
  | 0, _, _, g => g
  | k + 1, i, w, g => rnR vr lk dk pp k (i + 1) (w + (szOf vr (lk (pp i)) - szOf vr (dk (pp i)))) (max g (w + (szOf vr (lk (pp i)) - szOf vr (dk (pp i)))))
theorem sz_b {H : HF} {vr : Nat → VR} {V : Nat → Prop} {ch : Nat → Option Nat} {p : Nat} (hvs : VsA H vr V) (hC : ChV V ch) (hp : p < 12) : 0 ≤ szOf vr (ch p) ∧ szOf vr (ch p) ≤ 999 := by
  cases hx : ch p with
  | none => exact ⟨Int.le_refl 0, by show (0 : Int) ≤ 999; omega⟩
  | some q =>
    have := (hvs q (hC p q hp hx)).2.1.2.2
    exact ⟨by show 0 ≤ vS (vr q); omega, this.2⟩
theorem sum_b {H : HF} {vr : Nat → VR} {V : Nat → Prop} {ch : Nat → Option Nat} (hvs : VsA H vr V) (hC : ChV V ch) : ∀ k, k ≤ 12 → 0 ≤ sumTo (fun p => szOf vr (ch p)) k ∧ sumTo (fun p => szOf vr (ch p)) k ≤ 999 * k
  | 0, _ => ⟨Int.le_refl 0, by show (0 : Int) ≤ 999 * ((0 : Nat) : Int); omega⟩
  | k + 1, hk => by
    have h1 := sum_b hvs hC k (by omega)
    have h2 := sz_b hvs hC (show k < 12 by omega)
    show 0 ≤ sumTo (fun p => szOf vr (ch p)) k + szOf vr (ch k) ∧ sumTo (fun p => szOf vr (ch p)) k + szOf vr (ch k) ≤ 999 * ((k + 1 : Nat) : Int)
    omega
theorem t_rn_l {S : ScT} {H : HF} {n : Nat} {P : Nat} {pid cnt : Nat → Nat} {vd gr : Nat → Nat → Nat} {vr : Nat → VR} {dr lt fc : Int} (hR : RG H P pid cnt vd gr vr) (h86 : H 86 = some (false, 7, pwF P dr lt fc)) {lk : Nat → Option Nat} (hL : ∀ q o, lk q = some o → Own P cnt vd q o) (L0 : H 90 = some (false, 2, [.ref 91, .ref 92])) (L1 : H 91 = some (true, 3, aR 12 lk)) {dk : Nat → Option Nat} (hD : ∀ q o, dk q = some o → Own P cnt vd q o) (D0 : H 93 = some (false, 2, [.ref 94, .ref 95])) (D1 : H 94 = some (true, 3, aR 12 dk)) {th : Bool} {pc pd : Nat} {kd : Nat → Int} {pp : Nat → Nat} {pb : Nat → Option Nat} (hP : PlAt H th pc pd kd pp pb) (hpc : pc ≤ 12) (hpp : ∀ i, i < pc → pp i < 12) : ∀ (k i : Nat) (w g : Int) (ex : XL), i + k = pc → (ex = [] ∨ ∃ v, ex = [(4, v)]) → (-(12000 + 1000 * (i : Int)) ≤ w ∧ w ≤ 12000 + 1000 * (i : Int)) → (-(12000 + 1000 * (i : Int)) ≤ g ∧ g ≤ 12000 + 1000 * (i : Int)) → Gw S xm38 18 ((0, .ref 86) :: (1, .int (zI w)) :: (2, .int (zI g)) :: (3, .int (zI (i : Int))) :: ex) [] H n 0 0 (MQe xm38 (fun v G m => v = some (.int (zI (rnR vr lk dk pp k i w g))) ∧ G = H ∧ m = n)) := by
  obtain ⟨p0, p1, p2, p3⟩ := id hP
  intro k
  induction k with
  | zero =>
    intro i w g ex hi hex hw hg
    refine Gq_s (pc' := 19) rfl rfl rfl ?_
    refine Gq_s (pc' := 20) rfl rfl rfl ?_
    refine Gq_get (pc' := 23) rfl rfl (by first | assumption | exact upd_eq _ _ _ | (refine (upd_ne _ _ (by omega)).trans ?_; first | assumption | exact upd_eq _ _ _ | (refine (upd_ne _ _ (by omega)).trans ?_; first | assumption | exact upd_eq _ _ _ | (refine (upd_ne _ _ (by omega)).trans ?_; first | assumption | exact upd_eq _ _ _)))) (by exact rfl) ?_
    refine Gq_get (pc' := 26) rfl rfl (by first | assumption | exact upd_eq _ _ _ | (refine (upd_ne _ _ (by omega)).trans ?_; first | assumption | exact upd_eq _ _ _ | (refine (upd_ne _ _ (by omega)).trans ?_; first | assumption | exact upd_eq _ _ _ | (refine (upd_ne _ _ (by omega)).trans ?_; first | assumption | exact upd_eq _ _ _)))) (by exact rfl) ?_
    refine Gq_cge (pc' := 29) (t := 82) rfl rfl rfl (by omega) (by omega) (fun _ => ?_) (fun hq => absurd (by omega) hq)
    refine Gq_s (pc' := 83) rfl rfl rfl ?_
    exact Gq_ret rfl rfl (rfl) (⟨rfl, rfl, rfl⟩)
  | succ k ih =>
    intro i w g ex hi hex hw hg
    have hp := hpp i (by omega)
    have s1 := sz_b (RG_vs hR) (Own_ch hL) hp
    have s2 := sz_b (RG_vs hR) (Own_ch hD) hp
    refine Gq_s (pc' := 19) rfl rfl rfl ?_
    refine Gq_s (pc' := 20) rfl rfl rfl ?_
    refine Gq_get (pc' := 23) rfl rfl (by first | assumption | exact upd_eq _ _ _ | (refine (upd_ne _ _ (by omega)).trans ?_; first | assumption | exact upd_eq _ _ _ | (refine (upd_ne _ _ (by omega)).trans ?_; first | assumption | exact upd_eq _ _ _ | (refine (upd_ne _ _ (by omega)).trans ?_; first | assumption | exact upd_eq _ _ _)))) (by exact rfl) ?_
    refine Gq_get (pc' := 26) rfl rfl (by first | assumption | exact upd_eq _ _ _ | (refine (upd_ne _ _ (by omega)).trans ?_; first | assumption | exact upd_eq _ _ _ | (refine (upd_ne _ _ (by omega)).trans ?_; first | assumption | exact upd_eq _ _ _ | (refine (upd_ne _ _ (by omega)).trans ?_; first | assumption | exact upd_eq _ _ _)))) (by exact rfl) ?_
    refine Gq_cge (pc' := 29) (t := 82) rfl rfl rfl (by omega) (by omega) (fun hq => absurd hq (by omega)) (fun _ => ?_)
    refine Gq_s (pc' := 30) rfl rfl rfl ?_
    refine Gq_get (pc' := 33) rfl rfl (by first | assumption | exact upd_eq _ _ _ | (refine (upd_ne _ _ (by omega)).trans ?_; first | assumption | exact upd_eq _ _ _ | (refine (upd_ne _ _ (by omega)).trans ?_; first | assumption | exact upd_eq _ _ _ | (refine (upd_ne _ _ (by omega)).trans ?_; first | assumption | exact upd_eq _ _ _)))) (by exact rfl) ?_
    refine Gq_get (pc' := 36) rfl rfl (by first | assumption | exact upd_eq _ _ _ | (refine (upd_ne _ _ (by omega)).trans ?_; first | assumption | exact upd_eq _ _ _ | (refine (upd_ne _ _ (by omega)).trans ?_; first | assumption | exact upd_eq _ _ _ | (refine (upd_ne _ _ (by omega)).trans ?_; first | assumption | exact upd_eq _ _ _)))) (by exact rfl) ?_
    refine Gq_s (pc' := 37) rfl rfl rfl ?_
    refine Gq_iald (pc' := 38) rfl rfl (by first | assumption | exact upd_eq _ _ _ | (refine (upd_ne _ _ (by omega)).trans ?_; first | assumption | exact upd_eq _ _ _ | (refine (upd_ne _ _ (by omega)).trans ?_; first | assumption | exact upd_eq _ _ _ | (refine (upd_ne _ _ (by omega)).trans ?_; first | assumption | exact upd_eq _ _ _)))) (rfl) (by omega) (by omega) ?_
    refine Gq_st1 (pc' := 40) (lv' := [(0, _), (1, _), (2, _), (3, _), (4, _)]) (k := 4) rfl (fun _ => rfl) rfl (xst1_ex (pre := [(0, _), (1, _), (2, _), (3, _)]) hex rfl) ?_
    refine Gq_s (pc' := 41) rfl rfl rfl ?_
    refine Gq_s (pc' := 42) rfl rfl rfl ?_
    refine Gq_get (pc' := 45) rfl rfl (by first | assumption | exact upd_eq _ _ _ | (refine (upd_ne _ _ (by omega)).trans ?_; first | assumption | exact upd_eq _ _ _ | (refine (upd_ne _ _ (by omega)).trans ?_; first | assumption | exact upd_eq _ _ _ | (refine (upd_ne _ _ (by omega)).trans ?_; first | assumption | exact upd_eq _ _ _)))) (by exact rfl) ?_
    refine Gq_get (pc' := 48) rfl rfl (by first | assumption | exact upd_eq _ _ _ | (refine (upd_ne _ _ (by omega)).trans ?_; first | assumption | exact upd_eq _ _ _ | (refine (upd_ne _ _ (by omega)).trans ?_; first | assumption | exact upd_eq _ _ _ | (refine (upd_ne _ _ (by omega)).trans ?_; first | assumption | exact upd_eq _ _ _)))) (by exact rfl) ?_
    refine Gq_s (pc' := 50) rfl rfl rfl ?_
    refine Gq_aald (pc' := 51) rfl rfl (by first | assumption | exact upd_eq _ _ _ | (refine (upd_ne _ _ (by omega)).trans ?_; first | assumption | exact upd_eq _ _ _ | (refine (upd_ne _ _ (by omega)).trans ?_; first | assumption | exact upd_eq _ _ _ | (refine (upd_ne _ _ (by omega)).trans ?_; first | assumption | exact upd_eq _ _ _)))) (by exact rfl) (rfl) (by omega) (by omega) (rfl) ?_
    refine Gq_calls1 (pc' := 54) (Y := xm60) (rest := [_]) (st' := [_, _]) (ce' := 0) (sl' := 0) rfl rfl rfl rfl rfl rfl rfl rfl rfl rfl (t_sizeOf _ (fun q hq => RG_vs hR q (Own_ch hL _ q hp hq))) rfl ?_
    refine Gq_s (pc' := 55) rfl rfl rfl ?_
    refine Gq_get (pc' := 58) rfl rfl (by first | assumption | exact upd_eq _ _ _ | (refine (upd_ne _ _ (by omega)).trans ?_; first | assumption | exact upd_eq _ _ _ | (refine (upd_ne _ _ (by omega)).trans ?_; first | assumption | exact upd_eq _ _ _ | (refine (upd_ne _ _ (by omega)).trans ?_; first | assumption | exact upd_eq _ _ _)))) (by exact rfl) ?_
    refine Gq_get (pc' := 61) rfl rfl (by first | assumption | exact upd_eq _ _ _ | (refine (upd_ne _ _ (by omega)).trans ?_; first | assumption | exact upd_eq _ _ _ | (refine (upd_ne _ _ (by omega)).trans ?_; first | assumption | exact upd_eq _ _ _ | (refine (upd_ne _ _ (by omega)).trans ?_; first | assumption | exact upd_eq _ _ _)))) (by exact rfl) ?_
    refine Gq_s (pc' := 63) rfl rfl rfl ?_
    refine Gq_aald (pc' := 64) rfl rfl (by first | assumption | exact upd_eq _ _ _ | (refine (upd_ne _ _ (by omega)).trans ?_; first | assumption | exact upd_eq _ _ _ | (refine (upd_ne _ _ (by omega)).trans ?_; first | assumption | exact upd_eq _ _ _ | (refine (upd_ne _ _ (by omega)).trans ?_; first | assumption | exact upd_eq _ _ _)))) (by exact rfl) (rfl) (by omega) (by omega) (rfl) ?_
    refine Gq_calls1 (pc' := 67) (Y := xm60) (rest := [_, _]) (st' := [_, _, _]) (ce' := 0) (sl' := 0) rfl rfl rfl rfl rfl rfl rfl rfl rfl rfl (t_sizeOf _ (fun q hq => RG_vs hR q (Own_ch hD _ q hp hq))) rfl ?_
    refine Gq_isub (pc' := 68) rfl rfl ?_
    refine Gq_iadd (pc' := 69) rfl rfl ?_
    refine Gq_s (pc' := 70) (lv' := [(0, _), (1, _), (2, _), (3, _), (4, _)]) rfl rfl rfl ?_
    refine Gq_s (pc' := 71) rfl rfl rfl ?_
    refine Gq_s (pc' := 72) rfl rfl rfl ?_
    refine Gq_max (pc' := 75) rfl rfl (by omega) (by omega) rfl ?_
    refine Gq_s (pc' := 76) (lv' := [(0, _), (1, _), (2, _), (3, _), (4, _)]) rfl rfl rfl ?_
    refine Gq_iinc (pc' := 79) (lv' := [(0, _), (1, _), (2, _), (3, _), (4, _)]) rfl rfl rfl rfl ?_
    refine Gq_goto rfl (t := 18) rfl ?_
    exact ih (i + 1) _ _ _ (by omega) (.inr ⟨_, rfl⟩) (by omega) (by omega)
theorem t_roomNeeded {S : ScT} {H : HF} (n : Nat) {P : Nat} {pid cnt : Nat → Nat} {vd gr : Nat → Nat → Nat} {vr : Nat → VR} {dr lt fc : Int} (hR : RG H P pid cnt vd gr vr) (h86 : H 86 = some (false, 7, pwF P dr lt fc)) {lk : Nat → Option Nat} (hL : ∀ q o, lk q = some o → Own P cnt vd q o) (L0 : H 90 = some (false, 2, [.ref 91, .ref 92])) (L1 : H 91 = some (true, 3, aR 12 lk)) {dk : Nat → Option Nat} (hD : ∀ q o, dk q = some o → Own P cnt vd q o) (D0 : H 93 = some (false, 2, [.ref 94, .ref 95])) (D1 : H 94 = some (true, 3, aR 12 dk)) {th : Bool} {pc pd : Nat} {kd : Nat → Int} {pp : Nat → Nat} {pb : Nat → Option Nat} (hP : PlAt H th pc pd kd pp pb) (hpc : pc ≤ 12) (hpd : pd ≤ pc) (hpp : ∀ i, i < pc → pp i < 12) : Rdt S 38 [.ref 86] H n (some (.int (zI (rnR vr lk dk pp (pc - pd) pd (sumTo (fun p => szOf vr (dk p)) 12) (sumTo (fun p => szOf vr (dk p)) 12))))) H n := by
  refine Rm_of (M := xm38) (lv := [(0, _)]) rfl rfl rfl ?_
  obtain ⟨p0, p1, p2, p3⟩ := id hP
  have hs := sum_b (RG_vs hR) (Own_ch hD) 12 (Nat.le_refl _)
  refine Gq_s (pc' := 1) rfl rfl rfl ?_
  refine Gq_get (pc' := 4) rfl rfl (by first | assumption | exact upd_eq _ _ _ | (refine (upd_ne _ _ (by omega)).trans ?_; first | assumption | exact upd_eq _ _ _ | (refine (upd_ne _ _ (by omega)).trans ?_; first | assumption | exact upd_eq _ _ _ | (refine (upd_ne _ _ (by omega)).trans ?_; first | assumption | exact upd_eq _ _ _)))) (by exact rfl) ?_
  refine Gq_callv1 (pc' := 7) (Y := xm78) (rest := []) (st' := [_]) (ce' := 0) (sl' := 0) rfl rfl rfl rfl rfl rfl rfl rfl rfl (t_sizes (RG_vs hR) (Own_ch hD) D0 D1) rfl (by first | assumption | exact upd_eq _ _ _ | (refine (upd_ne _ _ (by omega)).trans ?_; first | assumption | exact upd_eq _ _ _ | (refine (upd_ne _ _ (by omega)).trans ?_; first | assumption | exact upd_eq _ _ _ | (refine (upd_ne _ _ (by omega)).trans ?_; first | assumption | exact upd_eq _ _ _)))) ?_
  refine Gq_s (pc' := 8) (lv' := [(0, _), (1, _)]) rfl rfl rfl ?_
  refine Gq_s (pc' := 9) rfl rfl rfl ?_
  refine Gq_s (pc' := 10) (lv' := [(0, _), (1, _), (2, _)]) rfl rfl rfl ?_
  refine Gq_s (pc' := 11) rfl rfl rfl ?_
  refine Gq_get (pc' := 14) rfl rfl (by first | assumption | exact upd_eq _ _ _ | (refine (upd_ne _ _ (by omega)).trans ?_; first | assumption | exact upd_eq _ _ _ | (refine (upd_ne _ _ (by omega)).trans ?_; first | assumption | exact upd_eq _ _ _ | (refine (upd_ne _ _ (by omega)).trans ?_; first | assumption | exact upd_eq _ _ _)))) (by exact rfl) ?_
  refine Gq_get (pc' := 17) rfl rfl (by first | assumption | exact upd_eq _ _ _ | (refine (upd_ne _ _ (by omega)).trans ?_; first | assumption | exact upd_eq _ _ _ | (refine (upd_ne _ _ (by omega)).trans ?_; first | assumption | exact upd_eq _ _ _ | (refine (upd_ne _ _ (by omega)).trans ?_; first | assumption | exact upd_eq _ _ _)))) (by exact rfl) ?_
  refine Gq_s (pc' := 18) (lv' := [(0, _), (1, _), (2, _), (3, _)]) rfl rfl rfl ?_
  exact t_rn_l hR h86 hL L0 L1 hD D0 D1 hP hpc hpp (pc - pd) pd _ _ [] (by omega) (.inl rfl) (by omega) (by omega)
/-- the trial's cells, whatever they hold -/
def TcS (H : HF) : Prop := ∃ (a b c : Value) (hd : Nat → Option Nat), xfit .int a = true ∧ xfit .int b = true ∧ xfit .int c = true ∧ H 117 = some (false, 0, [.ref 118, a, b, c]) ∧ H 118 = some (true, 3, aR 96 hd)
theorem TcS_of {H : HF} {L : List Nat} {r : Int} {vr : Nat → VR} {V : Nat → Prop} (h : CaAt H 117 L r vr V) : TcS H := by
  obtain ⟨h0, -, -, hd, h1, -⟩ := h
  exact ⟨_, _, _, hd, rfl, rfl, rfl, h0, h1⟩
def wfR (vr : Nat → VR) (lk : Nat → Option Nat) (pp : Nat → Nat) (r : Int) : Nat → Nat → List Nat → Int → Int
  | 0, _, _, s => s
  | k + 1, i, L, s => match lk (pp i) with
    | none => wfR vr lk pp r k (i + 1) L s
    | some x => wfR vr lk pp r k (i + 1) (mfL vr r L x).1 (if (mfL vr r L x).2 then s + vS (vr x) else s)
theorem t_cb_l {S : ScT} {n : Nat} {vr : Nat → VR} {V : Nat → Prop} {L : List Nat} {r : Int} {hd : Nat → Option Nat} (hL : L.length ≤ 96) (hV : ∀ q ∈ L, V q) (hh : ∀ i q : Nat, L[i]? = some q → hd i = some q) {a b c : Value} : ∀ (k j : Nat) (H : HF) (hd2 : Nat → Option Nat), j + k = L.length → VsA H vr V → H 115 = some (false, 0, [.ref 116, .int (zI (L.length : Int)), .int (zI (usd vr L)), .int (zI r)]) → H 116 = some (true, 3, aR 96 hd) → H 117 = some (false, 0, [.ref 118, a, b, c]) → H 118 = some (true, 3, aR 96 hd2) → (∀ i q : Nat, i < j → L[i]? = some q → hd2 i = some q) → Gw S xm64 2 [(0, .ref 117), (1, .ref 115), (2, .int (zI (j : Int)))] [] H n 0 0 (MQe xm64 (fun v G m => v = none ∧ m = n ∧ CaAt G 117 L r vr V ∧ ∀ o, ¬ o = 117 → ¬ o = 118 → G o = H o)) := by
  intro k
  induction k with
  | zero =>
    intro j H hd2 hj hvs h0 h1 t0 t1 hh2
    obtain rfl : j = L.length := by omega
    refine Gq_s (pc' := 3) rfl rfl rfl ?_
    refine Gq_s (pc' := 4) rfl rfl rfl ?_
    refine Gq_get (pc' := 7) rfl rfl (by first | assumption | exact upd_eq _ _ _ | (refine (upd_ne _ _ (by omega)).trans ?_; first | assumption | exact upd_eq _ _ _ | (refine (upd_ne _ _ (by omega)).trans ?_; first | assumption | exact upd_eq _ _ _ | (refine (upd_ne _ _ (by omega)).trans ?_; first | assumption | exact upd_eq _ _ _)))) (by exact rfl) ?_
    refine Gq_cge (pc' := 10) (t := 28) rfl rfl rfl (by omega) (by omega) (fun _ => ?_) (fun hq => absurd (by omega) hq)
    refine Gq_s (pc' := 29) rfl rfl rfl ?_
    refine Gq_s (pc' := 30) rfl rfl rfl ?_
    refine Gq_get (pc' := 33) rfl rfl (by first | assumption | exact upd_eq _ _ _ | (refine (upd_ne _ _ (by omega)).trans ?_; first | assumption | exact upd_eq _ _ _ | (refine (upd_ne _ _ (by omega)).trans ?_; first | assumption | exact upd_eq _ _ _ | (refine (upd_ne _ _ (by omega)).trans ?_; first | assumption | exact upd_eq _ _ _)))) (by exact rfl) ?_
    refine Gq_put (pc' := 36) (fs' := [_, _, _, _]) rfl rfl (by first | assumption | exact upd_eq _ _ _ | (refine (upd_ne _ _ (by omega)).trans ?_; first | assumption | exact upd_eq _ _ _ | (refine (upd_ne _ _ (by omega)).trans ?_; first | assumption | exact upd_eq _ _ _ | (refine (upd_ne _ _ (by omega)).trans ?_; first | assumption | exact upd_eq _ _ _)))) (by exact rfl) (by first | rfl | exact xfit_bI _) (by exact rfl) ?_
    refine Gq_s (pc' := 37) rfl rfl rfl ?_
    refine Gq_s (pc' := 38) rfl rfl rfl ?_
    refine Gq_get (pc' := 41) rfl rfl (by first | assumption | exact upd_eq _ _ _ | (refine (upd_ne _ _ (by omega)).trans ?_; first | assumption | exact upd_eq _ _ _ | (refine (upd_ne _ _ (by omega)).trans ?_; first | assumption | exact upd_eq _ _ _ | (refine (upd_ne _ _ (by omega)).trans ?_; first | assumption | exact upd_eq _ _ _)))) (by exact rfl) ?_
    refine Gq_put (pc' := 44) (fs' := [_, _, _, _]) rfl rfl (by first | assumption | exact upd_eq _ _ _ | (refine (upd_ne _ _ (by omega)).trans ?_; first | assumption | exact upd_eq _ _ _ | (refine (upd_ne _ _ (by omega)).trans ?_; first | assumption | exact upd_eq _ _ _ | (refine (upd_ne _ _ (by omega)).trans ?_; first | assumption | exact upd_eq _ _ _)))) (by exact rfl) (by first | rfl | exact xfit_bI _) (by exact rfl) ?_
    refine Gq_s (pc' := 45) rfl rfl rfl ?_
    refine Gq_s (pc' := 46) rfl rfl rfl ?_
    refine Gq_get (pc' := 49) rfl rfl (by first | assumption | exact upd_eq _ _ _ | (refine (upd_ne _ _ (by omega)).trans ?_; first | assumption | exact upd_eq _ _ _ | (refine (upd_ne _ _ (by omega)).trans ?_; first | assumption | exact upd_eq _ _ _ | (refine (upd_ne _ _ (by omega)).trans ?_; first | assumption | exact upd_eq _ _ _)))) (by exact rfl) ?_
    refine Gq_put (pc' := 52) (fs' := [_, _, _, _]) rfl rfl (by first | assumption | exact upd_eq _ _ _ | (refine (upd_ne _ _ (by omega)).trans ?_; first | assumption | exact upd_eq _ _ _ | (refine (upd_ne _ _ (by omega)).trans ?_; first | assumption | exact upd_eq _ _ _ | (refine (upd_ne _ _ (by omega)).trans ?_; first | assumption | exact upd_eq _ _ _)))) (by exact rfl) (by first | rfl | exact xfit_bI _) (by exact rfl) ?_
    simp only [upd_upd]
    exact Gq_ret rfl rfl (rfl) (⟨rfl, rfl, ⟨upd_eq _ _ _, hL, hV, hd2, by rw [upd_ne _ _ (by omega)]; exact t1, fun i q hq => hh2 i q (List.getElem?_eq_some_iff.mp hq).1 hq⟩, fun o h1 h2 => upd_ne _ _ h1⟩)
  | succ k ih =>
    intro j H hd2 hj hvs h0 h1 t0 t1 hh2
    have hjl : j < L.length := by omega
    have hj2 := hh j L[j] (List.getElem?_eq_getElem hjl)
    have hvj := hV L[j] (List.getElem_mem hjl)
    refine Gq_s (pc' := 3) rfl rfl rfl ?_
    refine Gq_s (pc' := 4) rfl rfl rfl ?_
    refine Gq_get (pc' := 7) rfl rfl (by first | assumption | exact upd_eq _ _ _ | (refine (upd_ne _ _ (by omega)).trans ?_; first | assumption | exact upd_eq _ _ _ | (refine (upd_ne _ _ (by omega)).trans ?_; first | assumption | exact upd_eq _ _ _ | (refine (upd_ne _ _ (by omega)).trans ?_; first | assumption | exact upd_eq _ _ _)))) (by exact rfl) ?_
    refine Gq_cge (pc' := 10) (t := 28) rfl rfl rfl (by omega) (by omega) (fun hq => absurd hq (by omega)) (fun _ => ?_)
    refine Gq_s (pc' := 11) rfl rfl rfl ?_
    refine Gq_get (pc' := 14) rfl rfl (by first | assumption | exact upd_eq _ _ _ | (refine (upd_ne _ _ (by omega)).trans ?_; first | assumption | exact upd_eq _ _ _ | (refine (upd_ne _ _ (by omega)).trans ?_; first | assumption | exact upd_eq _ _ _ | (refine (upd_ne _ _ (by omega)).trans ?_; first | assumption | exact upd_eq _ _ _)))) (by exact rfl) ?_
    refine Gq_s (pc' := 15) rfl rfl rfl ?_
    refine Gq_s (pc' := 16) rfl rfl rfl ?_
    refine Gq_get (pc' := 19) rfl rfl (by first | assumption | exact upd_eq _ _ _ | (refine (upd_ne _ _ (by omega)).trans ?_; first | assumption | exact upd_eq _ _ _ | (refine (upd_ne _ _ (by omega)).trans ?_; first | assumption | exact upd_eq _ _ _ | (refine (upd_ne _ _ (by omega)).trans ?_; first | assumption | exact upd_eq _ _ _)))) (by exact rfl) ?_
    refine Gq_s (pc' := 20) rfl rfl rfl ?_
    refine Gq_aald (pc' := 21) rfl rfl (by first | assumption | exact upd_eq _ _ _ | (refine (upd_ne _ _ (by omega)).trans ?_; first | assumption | exact upd_eq _ _ _ | (refine (upd_ne _ _ (by omega)).trans ?_; first | assumption | exact upd_eq _ _ _ | (refine (upd_ne _ _ (by omega)).trans ?_; first | assumption | exact upd_eq _ _ _)))) (by exact rfl) (rfl) (by omega) (by omega) (rv_s hj2) ?_
    refine Gq_aast (pc' := 22) (some L[j]) rfl rfl (by first | assumption | exact upd_eq _ _ _ | (refine (upd_ne _ _ (by omega)).trans ?_; first | assumption | exact upd_eq _ _ _ | (refine (upd_ne _ _ (by omega)).trans ?_; first | assumption | exact upd_eq _ _ _ | (refine (upd_ne _ _ (by omega)).trans ?_; first | assumption | exact upd_eq _ _ _)))) (by exact rfl) (fun hz => nomatch hz) (rfl) (fun z hz => by cases hz; exact VS_ok hvs hvj) (rfl) (by omega) (by omega) ?_
    refine Gq_iinc (pc' := 25) (lv' := [(0, _), (1, _), (2, _)]) rfl rfl rfl rfl ?_
    refine Gq_goto rfl (t := 2) rfl ?_
    refine Gq_mq (ih (j + 1) _ (fset hd2 j (some L[j])) (by omega) (VS_upd (by omega) hvs) (by rw [upd_ne _ _ (by omega)]; exact h0) (by rw [upd_ne _ _ (by omega)]; exact h1) (by rw [upd_ne _ _ (by omega)]; exact t0) (upd_eq _ _ _) (fun i q hi hq => ?_)) ?_
    · by_cases e : i = j
      · subst e
        rw [fset_eq, ← hq]
        exact (List.getElem?_eq_getElem hjl).symm
      · rw [fset_ne _ _ e]
        exact hh2 i q (by omega) hq
    rintro v G m ⟨e1, e2, e3, e4⟩
    exact ⟨e1, e2, e3, fun o h1 h2 => (e4 o h1 h2).trans (upd_ne _ _ h2)⟩
theorem t_cbecome {S : ScT} {H : HF} (n : Nat) {vr : Nat → VR} {V : Nat → Prop} {L : List Nat} {r : Int} (hvs : VsA H vr V) (hCa : CaAt H 115 L r vr V) (hT : TcS H) : Rmt S 64 [.ref 117, .ref 115] H n (fun v G m => v = none ∧ m = n ∧ CaAt G 117 L r vr V ∧ ∀ o, ¬ o = 117 → ¬ o = 118 → G o = H o) := by
  refine Rm_of (M := xm64) (lv := [(0, _), (1, _)]) rfl rfl rfl ?_
  obtain ⟨h0, hL, hV, hd, h1, hh⟩ := hCa
  obtain ⟨a, b, c, hd2, fa, fb, fc, t0, t1⟩ := hT
  refine Gq_s (pc' := 1) rfl rfl rfl ?_
  refine Gq_s (pc' := 2) (lv' := [(0, _), (1, _), (2, _)]) rfl rfl rfl ?_
  exact t_cb_l hL hV hh L.length 0 H hd2 (by omega) hvs h0 h1 t0 t1 (fun i q hi => absurd hi (by omega))
theorem t_wf_l {S : ScT} {n : Nat} {P : Nat} {pid cnt : Nat → Nat} {vd gr : Nat → Nat → Nat} {vr : Nat → VR} {dr lt fc : Int} {lk : Nat → Option Nat} (hL : ∀ q o, lk q = some o → Own P cnt vd q o) {th : Bool} {pc pd : Nat} {kd : Nat → Int} {pp : Nat → Nat} {pb : Nat → Option Nat} (hpc : pc ≤ 12) (hpp : ∀ i, i < pc → pp i < 12) {cr : Int} (hcr : 0 ≤ cr ∧ cr ≤ 20000) : ∀ (k i : Nat) (H : HF) (T : List Nat) (s : Int) (ex : XL), i + k = pc → (ex = [] ∨ ∃ v, ex = [(3, v)]) → RG H P pid cnt vd gr vr → H 86 = some (false, 7, pwF P dr lt fc) → H 90 = some (false, 2, [.ref 91, .ref 92]) → H 91 = some (true, 3, aR 12 lk) → PlAt H th pc pd kd pp pb → CaAt H 117 T cr vr (VV P cnt vd) → Gw S xm37 21 ((0, .ref 86) :: (1, .int (zI s)) :: (2, .int (zI (i : Int))) :: ex) [] H n 0 0 (MQe xm37 (fun v G m => v = some (.int (zI (wfR vr lk pp cr k i T s))) ∧ m = n ∧ TcS G ∧ ∀ o, ¬ o = 117 → ¬ o = 118 → G o = H o)) := by
  intro k
  induction k with
  | zero =>
    intro i H T s ex hi hex hR h86 L0 L1 hP hT
    obtain ⟨p0, p1, p2, p3⟩ := id hP
    refine Gq_s (pc' := 22) rfl rfl rfl ?_
    refine Gq_s (pc' := 23) rfl rfl rfl ?_
    refine Gq_get (pc' := 26) rfl rfl (by first | assumption | exact upd_eq _ _ _ | (refine (upd_ne _ _ (by omega)).trans ?_; first | assumption | exact upd_eq _ _ _ | (refine (upd_ne _ _ (by omega)).trans ?_; first | assumption | exact upd_eq _ _ _ | (refine (upd_ne _ _ (by omega)).trans ?_; first | assumption | exact upd_eq _ _ _)))) (by exact rfl) ?_
    refine Gq_get (pc' := 29) rfl rfl (by first | assumption | exact upd_eq _ _ _ | (refine (upd_ne _ _ (by omega)).trans ?_; first | assumption | exact upd_eq _ _ _ | (refine (upd_ne _ _ (by omega)).trans ?_; first | assumption | exact upd_eq _ _ _ | (refine (upd_ne _ _ (by omega)).trans ?_; first | assumption | exact upd_eq _ _ _)))) (by exact rfl) ?_
    refine Gq_cge (pc' := 32) (t := 78) rfl rfl rfl (by omega) (by omega) (fun _ => ?_) (fun hq => absurd (by omega) hq)
    refine Gq_s (pc' := 79) rfl rfl rfl ?_
    exact Gq_ret rfl rfl (rfl) (⟨rfl, rfl, TcS_of hT, fun _ _ _ => rfl⟩)
  | succ k ih =>
    intro i H T s ex hi hex hR h86 L0 L1 hP hT
    obtain ⟨p0, p1, p2, p3⟩ := id hP
    have hp := hpp i (by omega)
    obtain ⟨t0, -⟩ := id hT
    refine Gq_s (pc' := 22) rfl rfl rfl ?_
    refine Gq_s (pc' := 23) rfl rfl rfl ?_
    refine Gq_get (pc' := 26) rfl rfl (by first | assumption | exact upd_eq _ _ _ | (refine (upd_ne _ _ (by omega)).trans ?_; first | assumption | exact upd_eq _ _ _ | (refine (upd_ne _ _ (by omega)).trans ?_; first | assumption | exact upd_eq _ _ _ | (refine (upd_ne _ _ (by omega)).trans ?_; first | assumption | exact upd_eq _ _ _)))) (by exact rfl) ?_
    refine Gq_get (pc' := 29) rfl rfl (by first | assumption | exact upd_eq _ _ _ | (refine (upd_ne _ _ (by omega)).trans ?_; first | assumption | exact upd_eq _ _ _ | (refine (upd_ne _ _ (by omega)).trans ?_; first | assumption | exact upd_eq _ _ _ | (refine (upd_ne _ _ (by omega)).trans ?_; first | assumption | exact upd_eq _ _ _)))) (by exact rfl) ?_
    refine Gq_cge (pc' := 32) (t := 78) rfl rfl rfl (by omega) (by omega) (fun hq => absurd hq (by omega)) (fun _ => ?_)
    refine Gq_s (pc' := 33) rfl rfl rfl ?_
    refine Gq_get (pc' := 36) rfl rfl (by first | assumption | exact upd_eq _ _ _ | (refine (upd_ne _ _ (by omega)).trans ?_; first | assumption | exact upd_eq _ _ _ | (refine (upd_ne _ _ (by omega)).trans ?_; first | assumption | exact upd_eq _ _ _ | (refine (upd_ne _ _ (by omega)).trans ?_; first | assumption | exact upd_eq _ _ _)))) (by exact rfl) ?_
    refine Gq_get (pc' := 39) rfl rfl (by first | assumption | exact upd_eq _ _ _ | (refine (upd_ne _ _ (by omega)).trans ?_; first | assumption | exact upd_eq _ _ _ | (refine (upd_ne _ _ (by omega)).trans ?_; first | assumption | exact upd_eq _ _ _ | (refine (upd_ne _ _ (by omega)).trans ?_; first | assumption | exact upd_eq _ _ _)))) (by exact rfl) ?_
    refine Gq_s (pc' := 40) rfl rfl rfl ?_
    refine Gq_get (pc' := 43) rfl rfl (by first | assumption | exact upd_eq _ _ _ | (refine (upd_ne _ _ (by omega)).trans ?_; first | assumption | exact upd_eq _ _ _ | (refine (upd_ne _ _ (by omega)).trans ?_; first | assumption | exact upd_eq _ _ _ | (refine (upd_ne _ _ (by omega)).trans ?_; first | assumption | exact upd_eq _ _ _)))) (by exact rfl) ?_
    refine Gq_get (pc' := 46) rfl rfl (by first | assumption | exact upd_eq _ _ _ | (refine (upd_ne _ _ (by omega)).trans ?_; first | assumption | exact upd_eq _ _ _ | (refine (upd_ne _ _ (by omega)).trans ?_; first | assumption | exact upd_eq _ _ _ | (refine (upd_ne _ _ (by omega)).trans ?_; first | assumption | exact upd_eq _ _ _)))) (by exact rfl) ?_
    refine Gq_s (pc' := 47) rfl rfl rfl ?_
    refine Gq_iald (pc' := 48) rfl rfl (by first | assumption | exact upd_eq _ _ _ | (refine (upd_ne _ _ (by omega)).trans ?_; first | assumption | exact upd_eq _ _ _ | (refine (upd_ne _ _ (by omega)).trans ?_; first | assumption | exact upd_eq _ _ _ | (refine (upd_ne _ _ (by omega)).trans ?_; first | assumption | exact upd_eq _ _ _)))) (rfl) (by omega) (by omega) ?_
    refine Gq_aalx (pc' := 49) rfl rfl (by first | assumption | exact upd_eq _ _ _ | (refine (upd_ne _ _ (by omega)).trans ?_; first | assumption | exact upd_eq _ _ _ | (refine (upd_ne _ _ (by omega)).trans ?_; first | assumption | exact upd_eq _ _ _ | (refine (upd_ne _ _ (by omega)).trans ?_; first | assumption | exact upd_eq _ _ _)))) (by exact rfl) (rfl) (by omega) (by omega) (fun hx => ?_) (fun x hx => ?_)
    · refine Gq_st1 (pc' := 50) (lv' := [(0, _), (1, _), (2, _), (3, _)]) (k := 3) rfl (fun _ => rfl) rfl (xst1_ex (pre := [(0, _), (1, _), (2, _)]) hex rfl) ?_
      refine Gq_s (pc' := 51) rfl rfl rfl ?_
      refine Gq_nul_n rfl (t := 72) rfl ?_
      refine Gq_iinc (pc' := 75) (lv' := [(0, _), (1, _), (2, _), (3, _)]) rfl rfl rfl rfl ?_
      refine Gq_goto rfl (t := 21) rfl ?_
      have e : wfR vr lk pp cr (k + 1) i T s = wfR vr lk pp cr k (i + 1) T s := by rw [wfR, hx]
      rw [e]
      exact ih (i + 1) H T s _ (by omega) (.inr ⟨_, rfl⟩) hR h86 L0 L1 hP hT
    · have hVx : VV P cnt vd x := Own_ch hL _ x hp hx
      refine Gq_st1 (pc' := 50) (lv' := [(0, _), (1, _), (2, _), (3, _)]) (k := 3) rfl (fun _ => rfl) rfl (xst1_ex (pre := [(0, _), (1, _), (2, _)]) hex rfl) ?_
      refine Gq_s (pc' := 51) rfl rfl rfl ?_
      refine Gq_nul_r (pc' := 54) (t := 72) rfl rfl rfl ?_
      refine Gq_s (pc' := 55) rfl rfl rfl ?_
      refine Gq_get (pc' := 58) rfl rfl (by first | assumption | exact upd_eq _ _ _ | (refine (upd_ne _ _ (by omega)).trans ?_; first | assumption | exact upd_eq _ _ _ | (refine (upd_ne _ _ (by omega)).trans ?_; first | assumption | exact upd_eq _ _ _ | (refine (upd_ne _ _ (by omega)).trans ?_; first | assumption | exact upd_eq _ _ _)))) (by exact rfl) ?_
      refine Gq_s (pc' := 59) rfl rfl rfl ?_
      refine Gq_callv (pc' := 62) (Y := xm66) (rest := []) (ce' := 0) (sl' := 0) rfl rfl rfl rfl rfl rfl rfl rfl rfl (t_mf n (RG_vs hR) (by omega) hcr hT hVx) (by first | assumption | exact upd_eq _ _ _ | (refine (upd_ne _ _ (by omega)).trans ?_; first | assumption | exact upd_eq _ _ _ | (refine (upd_ne _ _ (by omega)).trans ?_; first | assumption | exact upd_eq _ _ _ | (refine (upd_ne _ _ (by omega)).trans ?_; first | assumption | exact upd_eq _ _ _)))) (fun v' H' n' hv => ?_)
      obtain ⟨rfl, rfl, g1, g2⟩ := hv
      have hh : Hi H H' := fun o ho => g2 o (by omega) (by omega)
      obtain ⟨-, -, f, g, h5, -⟩ := VS_hi hh (RG_vs hR) x hVx
      refine Gq_beq (pc' := 65) (t := 72) rfl rfl rfl (fun hb => ?_) (fun hb => ?_)
      · refine Gq_iinc (pc' := 75) (lv' := [(0, _), (1, _), (2, _), (3, _)]) rfl rfl rfl rfl ?_
        refine Gq_goto rfl (t := 21) rfl ?_
        have e : wfR vr lk pp cr (k + 1) i T s = wfR vr lk pp cr k (i + 1) (mfL vr cr T x).1 s := by rw [wfR, hx]; dsimp only; rw [hb]; rfl
        rw [e]
        refine Gq_mq (ih (i + 1) H' _ _ _ (by omega) (.inr ⟨_, rfl⟩) (RG_hi hh (g2 87 (by omega) (by omega)) hR) ((g2 86 (by omega) (by omega)).trans h86) ((g2 90 (by omega) (by omega)).trans L0) ((g2 91 (by omega) (by omega)).trans L1) (PlAt_off (g2 111 (by omega) (by omega)) (g2 112 (by omega) (by omega)) (g2 113 (by omega) (by omega)) (g2 114 (by omega) (by omega)) hP) g1) ?_
        rintro v G m ⟨e1, e2, e3, e4⟩
        exact ⟨e1, e2, e3, fun o h1 h2 => (e4 o h1 h2).trans (g2 o h1 h2)⟩
      · refine Gq_s (pc' := 66) rfl rfl rfl ?_
        refine Gq_s (pc' := 67) rfl rfl rfl ?_
        refine Gq_get (pc' := 70) rfl rfl (by first | assumption | exact upd_eq _ _ _ | (refine (upd_ne _ _ (by omega)).trans ?_; first | assumption | exact upd_eq _ _ _ | (refine (upd_ne _ _ (by omega)).trans ?_; first | assumption | exact upd_eq _ _ _ | (refine (upd_ne _ _ (by omega)).trans ?_; first | assumption | exact upd_eq _ _ _)))) (by exact rfl) ?_
        refine Gq_iadd (pc' := 71) rfl rfl ?_
        refine Gq_s (pc' := 72) (lv' := [(0, _), (1, _), (2, _), (3, _)]) rfl rfl rfl ?_
        refine Gq_iinc (pc' := 75) (lv' := [(0, _), (1, _), (2, _), (3, _)]) rfl rfl rfl rfl ?_
        refine Gq_goto rfl (t := 21) rfl ?_
        have e : wfR vr lk pp cr (k + 1) i T s = wfR vr lk pp cr k (i + 1) (mfL vr cr T x).1 (s + vS (vr x)) := by rw [wfR, hx]; dsimp only; rw [hb]; rfl
        rw [e]
        refine Gq_mq (ih (i + 1) H' _ _ _ (by omega) (.inr ⟨_, rfl⟩) (RG_hi hh (g2 87 (by omega) (by omega)) hR) ((g2 86 (by omega) (by omega)).trans h86) ((g2 90 (by omega) (by omega)).trans L0) ((g2 91 (by omega) (by omega)).trans L1) (PlAt_off (g2 111 (by omega) (by omega)) (g2 112 (by omega) (by omega)) (g2 113 (by omega) (by omega)) (g2 114 (by omega) (by omega)) hP) g1) ?_
        rintro v G m ⟨e1, e2, e3, e4⟩
        exact ⟨e1, e2, e3, fun o h1 h2 => (e4 o h1 h2).trans (g2 o h1 h2)⟩
theorem t_wouldFetch {S : ScT} {H : HF} (n : Nat) {P : Nat} {pid cnt : Nat → Nat} {vd gr : Nat → Nat → Nat} {vr : Nat → VR} {dr lt fc : Int} {lk : Nat → Option Nat} (hL : ∀ q o, lk q = some o → Own P cnt vd q o) {th : Bool} {pc pd : Nat} {kd : Nat → Int} {pp : Nat → Nat} {pb : Nat → Option Nat} (hpc : pc ≤ 12) (hpp : ∀ i, i < pc → pp i < 12) {cr : Int} (hcr : 0 ≤ cr ∧ cr ≤ 20000) (hpd : pd ≤ pc) (hR : RG H P pid cnt vd gr vr) (h86 : H 86 = some (false, 7, pwF P dr lt fc)) (L0 : H 90 = some (false, 2, [.ref 91, .ref 92])) (L1 : H 91 = some (true, 3, aR 12 lk)) (hP : PlAt H th pc pd kd pp pb) {cl : List Nat} (hCa : CaAt H 115 cl cr vr (VV P cnt vd)) (hT : TcS H) : Rmt S 37 [.ref 86] H n (fun v G m => v = some (.int (zI (wfR vr lk pp cr (pc - pd) pd cl 0))) ∧ m = n ∧ TcS G ∧ ∀ o, ¬ o = 117 → ¬ o = 118 → G o = H o) := by
  refine Rm_of (M := xm37) (lv := [(0, _)]) rfl rfl rfl ?_
  obtain ⟨a, b, c, hd2, fa, fb, fc9, t0, t1⟩ := id hT
  refine Gq_s (pc' := 1) rfl rfl rfl ?_
  refine Gq_get (pc' := 4) rfl rfl (by first | assumption | exact upd_eq _ _ _ | (refine (upd_ne _ _ (by omega)).trans ?_; first | assumption | exact upd_eq _ _ _ | (refine (upd_ne _ _ (by omega)).trans ?_; first | assumption | exact upd_eq _ _ _ | (refine (upd_ne _ _ (by omega)).trans ?_; first | assumption | exact upd_eq _ _ _)))) (by exact rfl) ?_
  refine Gq_s (pc' := 5) rfl rfl rfl ?_
  refine Gq_get (pc' := 8) rfl rfl (by first | assumption | exact upd_eq _ _ _ | (refine (upd_ne _ _ (by omega)).trans ?_; first | assumption | exact upd_eq _ _ _ | (refine (upd_ne _ _ (by omega)).trans ?_; first | assumption | exact upd_eq _ _ _ | (refine (upd_ne _ _ (by omega)).trans ?_; first | assumption | exact upd_eq _ _ _)))) (by exact rfl) ?_
  refine Gq_callv (pc' := 11) (Y := xm64) (rest := []) (ce' := 0) (sl' := 0) rfl rfl rfl rfl rfl rfl rfl rfl rfl (t_cbecome n (RG_vs hR) hCa hT) (by first | assumption | exact upd_eq _ _ _ | (refine (upd_ne _ _ (by omega)).trans ?_; first | assumption | exact upd_eq _ _ _ | (refine (upd_ne _ _ (by omega)).trans ?_; first | assumption | exact upd_eq _ _ _ | (refine (upd_ne _ _ (by omega)).trans ?_; first | assumption | exact upd_eq _ _ _)))) (fun v' H' n' hv => ?_)
  obtain ⟨rfl, rfl, g1, g2⟩ := hv
  have hh : Hi H H' := fun o ho => g2 o (by omega) (by omega)
  have g86 := (g2 86 (by omega) (by omega)).trans h86
  have hP2 := PlAt_off (g2 111 (by omega) (by omega)) (g2 112 (by omega) (by omega)) (g2 113 (by omega) (by omega)) (g2 114 (by omega) (by omega)) hP
  obtain ⟨p0, -⟩ := id hP2
  refine Gq_s (pc' := 12) rfl rfl rfl ?_
  refine Gq_s (pc' := 13) (lv' := [(0, _), (1, _)]) rfl rfl rfl ?_
  refine Gq_s (pc' := 14) rfl rfl rfl ?_
  refine Gq_get (pc' := 17) rfl rfl (by first | assumption | exact upd_eq _ _ _ | (refine (upd_ne _ _ (by omega)).trans ?_; first | assumption | exact upd_eq _ _ _ | (refine (upd_ne _ _ (by omega)).trans ?_; first | assumption | exact upd_eq _ _ _ | (refine (upd_ne _ _ (by omega)).trans ?_; first | assumption | exact upd_eq _ _ _)))) (by exact rfl) ?_
  refine Gq_get (pc' := 20) rfl rfl (by first | assumption | exact upd_eq _ _ _ | (refine (upd_ne _ _ (by omega)).trans ?_; first | assumption | exact upd_eq _ _ _ | (refine (upd_ne _ _ (by omega)).trans ?_; first | assumption | exact upd_eq _ _ _ | (refine (upd_ne _ _ (by omega)).trans ?_; first | assumption | exact upd_eq _ _ _)))) (by exact rfl) ?_
  refine Gq_s (pc' := 21) (lv' := [(0, _), (1, _), (2, _)]) rfl rfl rfl ?_
  refine Gq_mq (t_wf_l (pid := pid) (gr := gr) hL hpc hpp hcr (pc - pd) pd H' cl 0 [] (by omega) (.inl rfl) (RG_hi hh (g2 87 (by omega) (by omega)) hR) g86 ((g2 90 (by omega) (by omega)).trans L0) ((g2 91 (by omega) (by omega)).trans L1) hP2 g1) ?_
  rintro v G m ⟨e1, e2, e3, e4⟩
  exact ⟨e1, e2, e3, fun o h1 h2 => (e4 o h1 h2).trans (g2 o h1 h2)⟩
end XKg
