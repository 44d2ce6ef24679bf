/-! running the plan (printed by wip/p46/gen37.py) -/
section XKh
theorem sum_fset {f : Nat → Int} {p : Nat} {x : Int} : ∀ k, p < k → sumTo (fset f p x) k = sumTo f k - f p + x
  | 0, h => absurd h (by omega)
  | k + 1, h => by
    show sumTo (fset f p x) k + fset f p x k = sumTo f k + f k - f p + x
    by_cases e : p = k
    · subst e
      rw [fset_eq]
      have e2 : ∀ j, j ≤ p → sumTo (fset f p x) j = sumTo f j := fun j => by
        induction j with
        | zero => intro _; rfl
        | succ j ih =>
          intro hj
          show sumTo (fset f p x) j + fset f p x j = sumTo f j + f j
          rw [ih (by omega), fset_ne _ _ (by omega)]
      rw [e2 p (Nat.le_refl _)]
      omega
    · rw [sum_fset k (by omega), fset_ne _ _ (show ¬ k = p by omega)]
      omega
theorem sum_ext {f g : Nat → Int} : ∀ k, (∀ j, j < k → f j = g j) → sumTo f k = sumTo g k
  | 0, _ => rfl
  | k + 1, h => by
    show sumTo f k + f k = sumTo g k + g k
    rw [sum_ext k (fun j hj => h j (by omega)), h k (by omega)]
theorem sz_fset {vr : Nat → VR} {dk : Nat → Option Nat} {p : Nat} {x : Option Nat} (hp : p < 12) : sumTo (fun q => szOf vr (fset dk p x q)) 12 = sumTo (fun q => szOf vr (dk q)) 12 - szOf vr (dk p) + szOf vr x := by
  rw [← sum_fset (f := fun q => szOf vr (dk q)) (x := szOf vr x) 12 hp]
  refine sum_ext 12 (fun j _ => ?_)
  by_cases e : j = p
  · subst e
    rw [fset_eq, fset_eq]
  · rw [fset_ne _ _ e, fset_ne _ _ e]
theorem t_doNext {S : ScT} {H : HF} (n : Nat) {P : Nat} {pid cnt : Nat → Nat} {vd gr : Nat → Nat → Nat} {vr : Nat → VR} {dr lt fc : Int} (hR : RG H P pid cnt vd gr vr) (h86 : H 86 = some (false, 7, pwF P dr lt fc)) {lk : Nat → Option Nat} (hL : ∀ q o, lk q = some o → Own P cnt vd q o) (L0 : H 90 = some (false, 2, [.ref 91, .ref 92])) (L1 : H 91 = some (true, 3, aR 12 lk)) {dk : Nat → Option Nat} (hD : ∀ q o, dk q = some o → Own P cnt vd q o) (D0 : H 93 = some (false, 2, [.ref 94, .ref 95])) (D1 : H 94 = some (true, 3, aR 12 dk)) {pc pd : Nat} {kd : Nat → Int} {pp : Nat → Nat} {pb : Nat → Option Nat} (hP : PlAt H true pc pd kd pp pb) {cl : List Nat} {cr : Int} (hCa : CaAt H 115 cl cr vr (VV P cnt vd)) (hcr : 0 ≤ cr ∧ cr ≤ 20000) (hpc : pc ≤ 12) (hpd : pd < pc) (hpp : pp pd < 12) (hdr : 0 ≤ dr ∧ dr ≤ 20000) (hroom : ∀ x, lk (pp pd) = some x → sumTo (fun p => szOf vr (dk p)) 12 - szOf vr (dk (pp pd)) + vS (vr x) ≤ dr) : Rmt S 57 [.ref 86] H n (fun v G m => v = some (.int (zI (bI true))) ∧ m = n ∧ G 94 = some (true, 3, aR 12 (fset dk (pp pd) (lk (pp pd)))) ∧ PlAt G true pc (pd + 1) kd pp pb ∧ (∃ cl2 fc2, CaAt G 115 cl2 cr vr (VV P cnt vd) ∧ (usd vr cl ≤ cr → usd vr cl2 ≤ cr) ∧ (fc ≤ fc2 ∧ fc2 ≤ fc + 1) ∧ G 86 = some (false, 7, pwF P dr lt fc2)) ∧ (∀ o, ¬ o = 86 → ¬ o = 94 → ¬ o = 111 → ¬ o = 115 → ¬ o = 116 → G o = H o)) := by
  refine Rm_of (M := xm57) (lv := [(0, _)]) rfl rfl rfl ?_
  obtain ⟨p0, p1, p2, p3⟩ := id hP
  obtain ⟨c0, -⟩ := id hCa
  have hvs := RG_vs hR
  have hs := sum_b hvs (Own_ch hD) 12 (Nat.le_refl _)
  have hz := sz_b hvs (Own_ch hD) hpp
  refine Gq_s (pc' := 1) rfl rfl rfl ?_
  refine Gq_get (pc' := 4) rfl rfl (by first | assumption | exact upd_eq _ _ _ | (refine (upd_ne _ _ (by omega)).trans ?_; first | assumption | exact upd_eq _ _ _ | (refine (upd_ne _ _ (by omega)).trans ?_; first | assumption | exact upd_eq _ _ _ | (refine (upd_ne _ _ (by omega)).trans ?_; first | assumption | exact upd_eq _ _ _)))) (by exact rfl) ?_
  refine Gq_get (pc' := 7) rfl rfl (by first | assumption | exact upd_eq _ _ _ | (refine (upd_ne _ _ (by omega)).trans ?_; first | assumption | exact upd_eq _ _ _ | (refine (upd_ne _ _ (by omega)).trans ?_; first | assumption | exact upd_eq _ _ _ | (refine (upd_ne _ _ (by omega)).trans ?_; first | assumption | exact upd_eq _ _ _)))) (by exact rfl) ?_
  refine Gq_s (pc' := 8) rfl rfl rfl ?_
  refine Gq_get (pc' := 11) rfl rfl (by first | assumption | exact upd_eq _ _ _ | (refine (upd_ne _ _ (by omega)).trans ?_; first | assumption | exact upd_eq _ _ _ | (refine (upd_ne _ _ (by omega)).trans ?_; first | assumption | exact upd_eq _ _ _ | (refine (upd_ne _ _ (by omega)).trans ?_; first | assumption | exact upd_eq _ _ _)))) (by exact rfl) ?_
  refine Gq_get (pc' := 14) rfl rfl (by first | assumption | exact upd_eq _ _ _ | (refine (upd_ne _ _ (by omega)).trans ?_; first | assumption | exact upd_eq _ _ _ | (refine (upd_ne _ _ (by omega)).trans ?_; first | assumption | exact upd_eq _ _ _ | (refine (upd_ne _ _ (by omega)).trans ?_; first | assumption | exact upd_eq _ _ _)))) (by exact rfl) ?_
  refine Gq_clt (pc' := 17) (t := 19) rfl rfl rfl (by omega) (by omega) (fun _ => ?_) (fun hq => absurd (by omega) hq)
  refine Gq_s (pc' := 20) rfl rfl rfl ?_
  refine Gq_get (pc' := 23) rfl rfl (by first | assumption | exact upd_eq _ _ _ | (refine (upd_ne _ _ (by omega)).trans ?_; first | assumption | exact upd_eq _ _ _ | (refine (upd_ne _ _ (by omega)).trans ?_; first | assumption | exact upd_eq _ _ _ | (refine (upd_ne _ _ (by omega)).trans ?_; first | assumption | exact upd_eq _ _ _)))) (by exact rfl) ?_
  refine Gq_get (pc' := 26) rfl rfl (by first | assumption | exact upd_eq _ _ _ | (refine (upd_ne _ _ (by omega)).trans ?_; first | assumption | exact upd_eq _ _ _ | (refine (upd_ne _ _ (by omega)).trans ?_; first | assumption | exact upd_eq _ _ _ | (refine (upd_ne _ _ (by omega)).trans ?_; first | assumption | exact upd_eq _ _ _)))) (by exact rfl) ?_
  refine Gq_s (pc' := 27) rfl rfl rfl ?_
  refine Gq_get (pc' := 30) rfl rfl (by first | assumption | exact upd_eq _ _ _ | (refine (upd_ne _ _ (by omega)).trans ?_; first | assumption | exact upd_eq _ _ _ | (refine (upd_ne _ _ (by omega)).trans ?_; first | assumption | exact upd_eq _ _ _ | (refine (upd_ne _ _ (by omega)).trans ?_; first | assumption | exact upd_eq _ _ _)))) (by exact rfl) ?_
  refine Gq_get (pc' := 33) rfl rfl (by first | assumption | exact upd_eq _ _ _ | (refine (upd_ne _ _ (by omega)).trans ?_; first | assumption | exact upd_eq _ _ _ | (refine (upd_ne _ _ (by omega)).trans ?_; first | assumption | exact upd_eq _ _ _ | (refine (upd_ne _ _ (by omega)).trans ?_; first | assumption | exact upd_eq _ _ _)))) (by exact rfl) ?_
  refine Gq_iald (pc' := 34) rfl rfl (by first | assumption | exact upd_eq _ _ _ | (refine (upd_ne _ _ (by omega)).trans ?_; first | assumption | exact upd_eq _ _ _ | (refine (upd_ne _ _ (by omega)).trans ?_; first | assumption | exact upd_eq _ _ _ | (refine (upd_ne _ _ (by omega)).trans ?_; first | assumption | exact upd_eq _ _ _)))) (rfl) (by omega) (by omega) ?_
  refine Gq_s (pc' := 35) (lv' := [(0, _), (1, _)]) rfl rfl rfl ?_
  refine Gq_s (pc' := 36) rfl rfl rfl ?_
  refine Gq_get (pc' := 39) rfl rfl (by first | assumption | exact upd_eq _ _ _ | (refine (upd_ne _ _ (by omega)).trans ?_; first | assumption | exact upd_eq _ _ _ | (refine (upd_ne _ _ (by omega)).trans ?_; first | assumption | exact upd_eq _ _ _ | (refine (upd_ne _ _ (by omega)).trans ?_; first | assumption | exact upd_eq _ _ _)))) (by exact rfl) ?_
  refine Gq_get (pc' := 42) rfl rfl (by first | assumption | exact upd_eq _ _ _ | (refine (upd_ne _ _ (by omega)).trans ?_; first | assumption | exact upd_eq _ _ _ | (refine (upd_ne _ _ (by omega)).trans ?_; first | assumption | exact upd_eq _ _ _ | (refine (upd_ne _ _ (by omega)).trans ?_; first | assumption | exact upd_eq _ _ _)))) (by exact rfl) ?_
  refine Gq_s (pc' := 43) rfl rfl rfl ?_
  refine Gq_aalx (pc' := 44) rfl rfl (by first | assumption | exact upd_eq _ _ _ | (refine (upd_ne _ _ (by omega)).trans ?_; first | assumption | exact upd_eq _ _ _ | (refine (upd_ne _ _ (by omega)).trans ?_; first | assumption | exact upd_eq _ _ _ | (refine (upd_ne _ _ (by omega)).trans ?_; first | assumption | exact upd_eq _ _ _)))) (by exact rfl) (rfl) (by omega) (by omega) (fun hx => ?_) (fun x hx => ?_)
  · refine Gq_s (pc' := 45) (lv' := [(0, _), (1, _), (2, _)]) rfl rfl rfl ?_
    refine Gq_s (pc' := 46) rfl rfl rfl ?_
    refine Gq_nul_n rfl (t := 106) rfl ?_
    refine Gq_s (pc' := 107) rfl rfl rfl ?_
    refine Gq_get (pc' := 110) rfl rfl (by first | assumption | exact upd_eq _ _ _ | (refine (upd_ne _ _ (by omega)).trans ?_; first | assumption | exact upd_eq _ _ _ | (refine (upd_ne _ _ (by omega)).trans ?_; first | assumption | exact upd_eq _ _ _ | (refine (upd_ne _ _ (by omega)).trans ?_; first | assumption | exact upd_eq _ _ _)))) (by exact rfl) ?_
    refine Gq_get (pc' := 113) rfl rfl (by first | assumption | exact upd_eq _ _ _ | (refine (upd_ne _ _ (by omega)).trans ?_; first | assumption | exact upd_eq _ _ _ | (refine (upd_ne _ _ (by omega)).trans ?_; first | assumption | exact upd_eq _ _ _ | (refine (upd_ne _ _ (by omega)).trans ?_; first | assumption | exact upd_eq _ _ _)))) (by exact rfl) ?_
    refine Gq_s (pc' := 114) rfl rfl rfl ?_
    refine Gq_s (pc' := 115) rfl rfl rfl ?_
    refine Gq_aast (pc' := 116) (none) rfl rfl (by first | assumption | exact upd_eq _ _ _ | (refine (upd_ne _ _ (by omega)).trans ?_; first | assumption | exact upd_eq _ _ _ | (refine (upd_ne _ _ (by omega)).trans ?_; first | assumption | exact upd_eq _ _ _ | (refine (upd_ne _ _ (by omega)).trans ?_; first | assumption | exact upd_eq _ _ _)))) (by exact rfl) (fun _ => rfl) (rfl) (fun _ hz => nomatch hz) (rfl) (by omega) (by omega) ?_
    refine Gq_s (pc' := 117) rfl rfl rfl ?_
    refine Gq_get (pc' := 120) rfl rfl (by first | assumption | exact upd_eq _ _ _ | (refine (upd_ne _ _ (by omega)).trans ?_; first | assumption | exact upd_eq _ _ _ | (refine (upd_ne _ _ (by omega)).trans ?_; first | assumption | exact upd_eq _ _ _ | (refine (upd_ne _ _ (by omega)).trans ?_; first | assumption | exact upd_eq _ _ _)))) (by exact rfl) ?_
    refine Gq_s (pc' := 121) rfl rfl rfl ?_
    refine Gq_get (pc' := 124) rfl rfl (by first | assumption | exact upd_eq _ _ _ | (refine (upd_ne _ _ (by omega)).trans ?_; first | assumption | exact upd_eq _ _ _ | (refine (upd_ne _ _ (by omega)).trans ?_; first | assumption | exact upd_eq _ _ _ | (refine (upd_ne _ _ (by omega)).trans ?_; first | assumption | exact upd_eq _ _ _)))) (by exact rfl) ?_
    refine Gq_s (pc' := 125) rfl rfl rfl ?_
    refine Gq_iadd (pc' := 126) rfl rfl ?_
    refine Gq_put (pc' := 129) (fs' := [_, _, _, _, _, _]) rfl rfl (by first | assumption | exact upd_eq _ _ _ | (refine (upd_ne _ _ (by omega)).trans ?_; first | assumption | exact upd_eq _ _ _ | (refine (upd_ne _ _ (by omega)).trans ?_; first | assumption | exact upd_eq _ _ _ | (refine (upd_ne _ _ (by omega)).trans ?_; first | assumption | exact upd_eq _ _ _)))) (by exact rfl) (by first | rfl | exact xfit_bI _) (by exact rfl) ?_
    refine Gq_s (pc' := 130) rfl rfl rfl ?_
    refine Gq_ret rfl rfl rfl ⟨rfl, rfl, by rw [upd_ne _ _ (by omega), hx]; exact upd_eq _ _ _, ⟨upd_eq _ _ _, by rw [upd_ne _ _ (by omega), upd_ne _ _ (by omega)]; exact p1, by rw [upd_ne _ _ (by omega), upd_ne _ _ (by omega)]; exact p2, by rw [upd_ne _ _ (by omega), upd_ne _ _ (by omega)]; exact p3⟩, ⟨cl, fc, ?_, id, by omega, by rw [upd_ne _ _ (by omega), upd_ne _ _ (by omega)]; exact h86⟩, fun o h1 h2 h3 h4 h5 => by rw [upd_ne _ _ h3, upd_ne _ _ h2]⟩
    obtain ⟨d0, d1, d2, hd, d3, d4⟩ := hCa
    exact ⟨by rw [upd_ne _ _ (by omega), upd_ne _ _ (by omega)]; exact d0, d1, d2, hd, by rw [upd_ne _ _ (by omega), upd_ne _ _ (by omega)]; exact d3, d4⟩
  · have hVx : VV P cnt vd x := Own_ch hL _ x hpp hx
    have hroom := hroom x hx
    obtain ⟨hx119, ⟨-, -, hsx⟩, f, g, h5, -⟩ := id (hvs x hVx)
    refine Gq_s (pc' := 45) (lv' := [(0, _), (1, _), (2, _)]) rfl rfl rfl ?_
    refine Gq_s (pc' := 46) rfl rfl rfl ?_
    refine Gq_nul_r (pc' := 49) (t := 106) rfl rfl rfl ?_
    refine Gq_s (pc' := 50) rfl rfl rfl ?_
    refine Gq_get (pc' := 53) rfl rfl (by first | assumption | exact upd_eq _ _ _ | (refine (upd_ne _ _ (by omega)).trans ?_; first | assumption | exact upd_eq _ _ _ | (refine (upd_ne _ _ (by omega)).trans ?_; first | assumption | exact upd_eq _ _ _ | (refine (upd_ne _ _ (by omega)).trans ?_; first | assumption | exact upd_eq _ _ _)))) (by exact rfl) ?_
    refine Gq_callv1 (pc' := 56) (Y := xm78) (rest := []) (st' := [_]) (ce' := 0) (sl' := 0) rfl rfl rfl rfl rfl rfl rfl rfl rfl (t_sizes hvs (Own_ch hD) D0 D1) rfl (by first | assumption | exact upd_eq _ _ _ | (refine (upd_ne _ _ (by omega)).trans ?_; first | assumption | exact upd_eq _ _ _ | (refine (upd_ne _ _ (by omega)).trans ?_; first | assumption | exact upd_eq _ _ _ | (refine (upd_ne _ _ (by omega)).trans ?_; first | assumption | exact upd_eq _ _ _)))) ?_
    refine Gq_s (pc' := 57) rfl rfl rfl ?_
    refine Gq_get (pc' := 60) rfl rfl (by first | assumption | exact upd_eq _ _ _ | (refine (upd_ne _ _ (by omega)).trans ?_; first | assumption | exact upd_eq _ _ _ | (refine (upd_ne _ _ (by omega)).trans ?_; first | assumption | exact upd_eq _ _ _ | (refine (upd_ne _ _ (by omega)).trans ?_; first | assumption | exact upd_eq _ _ _)))) (by exact rfl) ?_
    refine Gq_get (pc' := 63) rfl rfl (by first | assumption | exact upd_eq _ _ _ | (refine (upd_ne _ _ (by omega)).trans ?_; first | assumption | exact upd_eq _ _ _ | (refine (upd_ne _ _ (by omega)).trans ?_; first | assumption | exact upd_eq _ _ _ | (refine (upd_ne _ _ (by omega)).trans ?_; first | assumption | exact upd_eq _ _ _)))) (by exact rfl) ?_
    refine Gq_s (pc' := 64) rfl rfl rfl ?_
    refine Gq_aald (pc' := 65) rfl rfl (by first | assumption | exact upd_eq _ _ _ | (refine (upd_ne _ _ (by omega)).trans ?_; first | assumption | exact upd_eq _ _ _ | (refine (upd_ne _ _ (by omega)).trans ?_; first | assumption | exact upd_eq _ _ _ | (refine (upd_ne _ _ (by omega)).trans ?_; first | assumption | exact upd_eq _ _ _)))) (by exact rfl) (rfl) (by omega) (by omega) (rfl) ?_
    refine Gq_calls1 (pc' := 68) (Y := xm60) (rest := [_]) (st' := [_, _]) (ce' := 0) (sl' := 0) rfl rfl rfl rfl rfl rfl rfl rfl rfl rfl (t_sizeOf _ (fun q hq => hvs q (Own_ch hD _ q hpp hq))) rfl ?_
    refine Gq_isub (pc' := 69) rfl rfl ?_
    refine Gq_s (pc' := 70) rfl rfl rfl ?_
    refine Gq_get (pc' := 73) rfl rfl (by first | assumption | exact upd_eq _ _ _ | (refine (upd_ne _ _ (by omega)).trans ?_; first | assumption | exact upd_eq _ _ _ | (refine (upd_ne _ _ (by omega)).trans ?_; first | assumption | exact upd_eq _ _ _ | (refine (upd_ne _ _ (by omega)).trans ?_; first | assumption | exact upd_eq _ _ _)))) (by exact rfl) ?_
    refine Gq_iadd (pc' := 74) rfl rfl ?_
    refine Gq_s (pc' := 75) (lv' := [(0, _), (1, _), (2, _), (3, _)]) rfl rfl rfl ?_
    refine Gq_s (pc' := 76) rfl rfl rfl ?_
    refine Gq_s (pc' := 77) rfl rfl rfl ?_
    refine Gq_get (pc' := 80) rfl rfl (by first | assumption | exact upd_eq _ _ _ | (refine (upd_ne _ _ (by omega)).trans ?_; first | assumption | exact upd_eq _ _ _ | (refine (upd_ne _ _ (by omega)).trans ?_; first | assumption | exact upd_eq _ _ _ | (refine (upd_ne _ _ (by omega)).trans ?_; first | assumption | exact upd_eq _ _ _)))) (by exact rfl) ?_
    refine Gq_cle (pc' := 83) (t := 85) rfl rfl rfl (by omega) (by omega) (fun _ => ?_) (fun hq => absurd (by omega) hq)
    refine Gq_s (pc' := 86) rfl rfl rfl ?_
    refine Gq_get (pc' := 89) rfl rfl (by first | assumption | exact upd_eq _ _ _ | (refine (upd_ne _ _ (by omega)).trans ?_; first | assumption | exact upd_eq _ _ _ | (refine (upd_ne _ _ (by omega)).trans ?_; first | assumption | exact upd_eq _ _ _ | (refine (upd_ne _ _ (by omega)).trans ?_; first | assumption | exact upd_eq _ _ _)))) (by exact rfl) ?_
    refine Gq_s (pc' := 90) rfl rfl rfl ?_
    refine Gq_callv (pc' := 93) (Y := xm66) (rest := []) (ce' := 0) (sl' := 0) rfl rfl rfl rfl rfl rfl rfl rfl rfl (t_mf n hvs (by omega) hcr hCa hVx) (by first | assumption | exact upd_eq _ _ _ | (refine (upd_ne _ _ (by omega)).trans ?_; first | assumption | exact upd_eq _ _ _ | (refine (upd_ne _ _ (by omega)).trans ?_; first | assumption | exact upd_eq _ _ _ | (refine (upd_ne _ _ (by omega)).trans ?_; first | assumption | exact upd_eq _ _ _)))) (fun v' H' n' hv => ?_)
    obtain ⟨rfl, rfl, g1, g2⟩ := hv
    have hh : Hi H H' := fun o ho => g2 o (by omega) (by omega)
    have g86 := (g2 86 (by omega) (by omega)).trans h86
    have g93 := (g2 93 (by omega) (by omega)).trans D0
    have g94 := (g2 94 (by omega) (by omega)).trans D1
    have g111 := (g2 111 (by omega) (by omega)).trans p0
    have g112 := (g2 112 (by omega) (by omega)).trans p1
    have g113 := (g2 113 (by omega) (by omega)).trans p2
    have g114 := (g2 114 (by omega) (by omega)).trans p3
    have hle : usd vr cl ≤ cr → usd vr (mfL vr cr cl x).1 ≤ cr := mf_le hcr.1
    obtain ⟨vs9, hv9⟩ := VS_ok (VS_hi hh hvs) hVx
    obtain ⟨d0, d1, d2, hd, d3, d4⟩ := id g1
    refine Gq_beq (pc' := 96) (t := 106) rfl rfl rfl (fun hb => ?_) (fun hb => ?_)
    · refine Gq_s (pc' := 107) rfl rfl rfl ?_
      refine Gq_get (pc' := 110) rfl rfl (by first | assumption | exact upd_eq _ _ _ | (refine (upd_ne _ _ (by omega)).trans ?_; first | assumption | exact upd_eq _ _ _ | (refine (upd_ne _ _ (by omega)).trans ?_; first | assumption | exact upd_eq _ _ _ | (refine (upd_ne _ _ (by omega)).trans ?_; first | assumption | exact upd_eq _ _ _)))) (by exact rfl) ?_
      refine Gq_get (pc' := 113) rfl rfl (by first | assumption | exact upd_eq _ _ _ | (refine (upd_ne _ _ (by omega)).trans ?_; first | assumption | exact upd_eq _ _ _ | (refine (upd_ne _ _ (by omega)).trans ?_; first | assumption | exact upd_eq _ _ _ | (refine (upd_ne _ _ (by omega)).trans ?_; first | assumption | exact upd_eq _ _ _)))) (by exact rfl) ?_
      refine Gq_s (pc' := 114) rfl rfl rfl ?_
      refine Gq_s (pc' := 115) rfl rfl rfl ?_
      refine Gq_aast (pc' := 116) (some x) rfl rfl (by first | assumption | exact upd_eq _ _ _ | (refine (upd_ne _ _ (by omega)).trans ?_; first | assumption | exact upd_eq _ _ _ | (refine (upd_ne _ _ (by omega)).trans ?_; first | assumption | exact upd_eq _ _ _ | (refine (upd_ne _ _ (by omega)).trans ?_; first | assumption | exact upd_eq _ _ _)))) (by exact rfl) (fun hz => nomatch hz) (rfl) (fun z hz => by cases hz; exact ⟨vs9, hv9⟩) (rfl) (by omega) (by omega) ?_
      refine Gq_s (pc' := 117) rfl rfl rfl ?_
      refine Gq_get (pc' := 120) rfl rfl (by first | assumption | exact upd_eq _ _ _ | (refine (upd_ne _ _ (by omega)).trans ?_; first | assumption | exact upd_eq _ _ _ | (refine (upd_ne _ _ (by omega)).trans ?_; first | assumption | exact upd_eq _ _ _ | (refine (upd_ne _ _ (by omega)).trans ?_; first | assumption | exact upd_eq _ _ _)))) (by exact rfl) ?_
      refine Gq_s (pc' := 121) rfl rfl rfl ?_
      refine Gq_get (pc' := 124) rfl rfl (by first | assumption | exact upd_eq _ _ _ | (refine (upd_ne _ _ (by omega)).trans ?_; first | assumption | exact upd_eq _ _ _ | (refine (upd_ne _ _ (by omega)).trans ?_; first | assumption | exact upd_eq _ _ _ | (refine (upd_ne _ _ (by omega)).trans ?_; first | assumption | exact upd_eq _ _ _)))) (by exact rfl) ?_
      refine Gq_s (pc' := 125) rfl rfl rfl ?_
      refine Gq_iadd (pc' := 126) rfl rfl ?_
      refine Gq_put (pc' := 129) (fs' := [_, _, _, _, _, _]) rfl rfl (by first | assumption | exact upd_eq _ _ _ | (refine (upd_ne _ _ (by omega)).trans ?_; first | assumption | exact upd_eq _ _ _ | (refine (upd_ne _ _ (by omega)).trans ?_; first | assumption | exact upd_eq _ _ _ | (refine (upd_ne _ _ (by omega)).trans ?_; first | assumption | exact upd_eq _ _ _)))) (by exact rfl) (by first | rfl | exact xfit_bI _) (by exact rfl) ?_
      refine Gq_s (pc' := 130) rfl rfl rfl ?_
      exact Gq_ret rfl rfl rfl ⟨rfl, rfl, by rw [upd_ne _ _ (by omega), hx]; exact upd_eq _ _ _, ⟨upd_eq _ _ _, by rw [upd_ne _ _ (by omega), upd_ne _ _ (by omega)]; exact g112, by rw [upd_ne _ _ (by omega), upd_ne _ _ (by omega)]; exact g113, by rw [upd_ne _ _ (by omega), upd_ne _ _ (by omega)]; exact g114⟩, ⟨_, fc, ⟨by rw [upd_ne _ _ (by omega), upd_ne _ _ (by omega)]; exact d0, d1, d2, hd, by rw [upd_ne _ _ (by omega), upd_ne _ _ (by omega)]; exact d3, d4⟩, hle, by omega, by rw [upd_ne _ _ (by omega), upd_ne _ _ (by omega)]; exact g86⟩, fun o h1 h2 h3 h4 h5 => by rw [upd_ne _ _ h3, upd_ne _ _ h2]; exact g2 o h4 h5⟩
    · refine Gq_s (pc' := 97) rfl rfl rfl ?_
      refine Gq_s (pc' := 98) rfl rfl rfl ?_
      refine Gq_get (pc' := 101) rfl rfl (by first | assumption | exact upd_eq _ _ _ | (refine (upd_ne _ _ (by omega)).trans ?_; first | assumption | exact upd_eq _ _ _ | (refine (upd_ne _ _ (by omega)).trans ?_; first | assumption | exact upd_eq _ _ _ | (refine (upd_ne _ _ (by omega)).trans ?_; first | assumption | exact upd_eq _ _ _)))) (by exact rfl) ?_
      refine Gq_s (pc' := 102) rfl rfl rfl ?_
      refine Gq_iadd (pc' := 103) rfl rfl ?_
      refine Gq_put (pc' := 106) (fs' := [_, _, _, _, _, _, _, _, _, _, _, _, _]) rfl rfl (by first | assumption | exact upd_eq _ _ _ | (refine (upd_ne _ _ (by omega)).trans ?_; first | assumption | exact upd_eq _ _ _ | (refine (upd_ne _ _ (by omega)).trans ?_; first | assumption | exact upd_eq _ _ _ | (refine (upd_ne _ _ (by omega)).trans ?_; first | assumption | exact upd_eq _ _ _)))) (by exact rfl) (by first | rfl | exact xfit_bI _) (by exact rfl) ?_
      refine Gq_s (pc' := 107) rfl rfl rfl ?_
      refine Gq_get (pc' := 110) rfl rfl (by first | assumption | exact upd_eq _ _ _ | (refine (upd_ne _ _ (by omega)).trans ?_; first | assumption | exact upd_eq _ _ _ | (refine (upd_ne _ _ (by omega)).trans ?_; first | assumption | exact upd_eq _ _ _ | (refine (upd_ne _ _ (by omega)).trans ?_; first | assumption | exact upd_eq _ _ _)))) (by exact rfl) ?_
      refine Gq_get (pc' := 113) rfl rfl (by first | assumption | exact upd_eq _ _ _ | (refine (upd_ne _ _ (by omega)).trans ?_; first | assumption | exact upd_eq _ _ _ | (refine (upd_ne _ _ (by omega)).trans ?_; first | assumption | exact upd_eq _ _ _ | (refine (upd_ne _ _ (by omega)).trans ?_; first | assumption | exact upd_eq _ _ _)))) (by exact rfl) ?_
      refine Gq_s (pc' := 114) rfl rfl rfl ?_
      refine Gq_s (pc' := 115) rfl rfl rfl ?_
      refine Gq_aast (pc' := 116) (some x) rfl rfl (by first | assumption | exact upd_eq _ _ _ | (refine (upd_ne _ _ (by omega)).trans ?_; first | assumption | exact upd_eq _ _ _ | (refine (upd_ne _ _ (by omega)).trans ?_; first | assumption | exact upd_eq _ _ _ | (refine (upd_ne _ _ (by omega)).trans ?_; first | assumption | exact upd_eq _ _ _)))) (by exact rfl) (fun hz => nomatch hz) (rfl) (fun z hz => by cases hz; exact ⟨vs9, by rw [upd_ne _ _ (by omega)]; exact hv9⟩) (rfl) (by omega) (by omega) ?_
      refine Gq_s (pc' := 117) rfl rfl rfl ?_
      refine Gq_get (pc' := 120) rfl rfl (by first | assumption | exact upd_eq _ _ _ | (refine (upd_ne _ _ (by omega)).trans ?_; first | assumption | exact upd_eq _ _ _ | (refine (upd_ne _ _ (by omega)).trans ?_; first | assumption | exact upd_eq _ _ _ | (refine (upd_ne _ _ (by omega)).trans ?_; first | assumption | exact upd_eq _ _ _)))) (by exact rfl) ?_
      refine Gq_s (pc' := 121) rfl rfl rfl ?_
      refine Gq_get (pc' := 124) rfl rfl (by first | assumption | exact upd_eq _ _ _ | (refine (upd_ne _ _ (by omega)).trans ?_; first | assumption | exact upd_eq _ _ _ | (refine (upd_ne _ _ (by omega)).trans ?_; first | assumption | exact upd_eq _ _ _ | (refine (upd_ne _ _ (by omega)).trans ?_; first | assumption | exact upd_eq _ _ _)))) (by exact rfl) ?_
      refine Gq_s (pc' := 125) rfl rfl rfl ?_
      refine Gq_iadd (pc' := 126) rfl rfl ?_
      refine Gq_put (pc' := 129) (fs' := [_, _, _, _, _, _]) rfl rfl (by first | assumption | exact upd_eq _ _ _ | (refine (upd_ne _ _ (by omega)).trans ?_; first | assumption | exact upd_eq _ _ _ | (refine (upd_ne _ _ (by omega)).trans ?_; first | assumption | exact upd_eq _ _ _ | (refine (upd_ne _ _ (by omega)).trans ?_; first | assumption | exact upd_eq _ _ _)))) (by exact rfl) (by first | rfl | exact xfit_bI _) (by exact rfl) ?_
      refine Gq_s (pc' := 130) rfl rfl rfl ?_
      exact Gq_ret rfl rfl rfl ⟨rfl, rfl, by rw [upd_ne _ _ (by omega), hx]; exact upd_eq _ _ _, ⟨upd_eq _ _ _, by rw [upd_ne _ _ (by omega), upd_ne _ _ (by omega), upd_ne _ _ (by omega)]; exact g112, by rw [upd_ne _ _ (by omega), upd_ne _ _ (by omega), upd_ne _ _ (by omega)]; exact g113, by rw [upd_ne _ _ (by omega), upd_ne _ _ (by omega), upd_ne _ _ (by omega)]; exact g114⟩, ⟨_, fc + 1, ⟨by rw [upd_ne _ _ (by omega), upd_ne _ _ (by omega), upd_ne _ _ (by omega)]; exact d0, d1, d2, hd, by rw [upd_ne _ _ (by omega), upd_ne _ _ (by omega), upd_ne _ _ (by omega)]; exact d3, d4⟩, hle, by omega, by rw [upd_ne _ _ (by omega), upd_ne _ _ (by omega)]; exact upd_eq _ _ _⟩, fun o h1 h2 h3 h4 h5 => by rw [upd_ne _ _ h3, upd_ne _ _ h2, upd_ne _ _ h1]; exact g2 o h4 h5⟩
/-- the disk behind i steps -/
def dkS (sl : List Nat) (lk dk : Nat → Option Nat) (i : Nat) : Nat → Option Nat := fun p => if p ∈ sl.take i then lk p else dk p
theorem dkS_0 (sl : List Nat) (lk dk : Nat → Option Nat) : dkS sl lk dk 0 = dk := by
  funext p
  unfold dkS
  rw [List.take_zero, if_neg (fun h => by cases h)]
theorem dkS_s {sl : List Nat} {lk dk : Nat → Option Nat} {i q : Nat} (hq : sl[i]? = some q) : dkS sl lk dk (i + 1) = fset (dkS sl lk dk i) q (lk q) := by
  have hi : i < sl.length := (List.getElem?_eq_some_iff.mp hq).1
  have ht : sl.take (i + 1) = sl.take i ++ [q] := by
    rw [List.take_succ, hq]
    rfl
  funext p
  unfold dkS
  rw [ht]
  by_cases e : p = q
  · subst e
    rw [fset_eq, if_pos (List.mem_append.mpr (.inr (List.mem_singleton.mpr rfl)))]
  · rw [fset_ne _ _ e]
    by_cases h : p ∈ sl.take i
    · rw [if_pos h, if_pos (List.mem_append.mpr (.inl h))]
    · rw [if_neg h, if_neg (fun z => (List.mem_append.mp z).elim h (fun z => e (List.mem_singleton.mp z)))]
theorem dkS_own {P : Nat} {cnt : Nat → Nat} {vd : Nat → Nat → Nat} {sl : List Nat} {lk dk : Nat → Option Nat} (hL : ∀ q o, lk q = some o → Own P cnt vd q o) (hD : ∀ q o, dk q = some o → Own P cnt vd q o) (i : Nat) : ∀ q o, dkS sl lk dk i q = some o → Own P cnt vd q o := by
  intro q o h
  unfold dkS at h
  split at h
  · exact hL q o h
  · exact hD q o h
theorem t_run_l {S : ScT} {n : Nat} {z : Int} {P : Nat} {pid cnt : Nat → Nat} {vd gr : Nat → Nat → Nat} {vr : Nat → VR} {dr lt : Int} {lk dk : Nat → Option Nat} (hL : ∀ q o, lk q = some o → Own P cnt vd q o) (hD : ∀ q o, dk q = some o → Own P cnt vd q o) {sl : List Nat} {kd : Nat → Int} {pp : Nat → Nat} {pb : Nat → Option Nat} (hS : StI sl pp pb dk) (hsl : RwOK sl) {cr : Int} (hcr : 0 ≤ cr ∧ cr ≤ 20000) (hdr : 0 ≤ dr ∧ dr ≤ 20000) (hroom : ∀ i, i ≤ sl.length → sumTo (fun p => szOf vr (dkS sl lk dk i p)) 12 ≤ dr) : ∀ (k pd : Nat) (H : HF) (cl : List Nat) (fc : Int), pd + k ≤ sl.length → RG H P pid cnt vd gr vr → H 86 = some (false, 7, pwF P dr lt fc) → H 90 = some (false, 2, [.ref 91, .ref 92]) → H 91 = some (true, 3, aR 12 lk) → H 93 = some (false, 2, [.ref 94, .ref 95]) → H 94 = some (true, 3, aR 12 (dkS sl lk dk pd)) → PlAt H true sl.length pd kd pp pb → CaAt H 115 cl cr vr (VV P cnt vd) → Gw S xm30 39 [(0, .ref 86), (1, .int (zI z)), (2, .int (zI (k : Int)))] [] H n 0 0 (MQe xm30 (fun v G m => v = some (.int (zI ((pd + k : Nat) : Int))) ∧ m = n ∧ G 94 = some (true, 3, aR 12 (dkS sl lk dk (pd + k))) ∧ PlAt G true sl.length (pd + k) kd pp pb ∧ (∃ cl2 fc2, CaAt G 115 cl2 cr vr (VV P cnt vd) ∧ (usd vr cl ≤ cr → usd vr cl2 ≤ cr) ∧ (fc ≤ fc2 ∧ fc2 ≤ fc + k) ∧ G 86 = some (false, 7, pwF P dr lt fc2)) ∧ (∀ o, ¬ o = 86 → ¬ o = 94 → ¬ o = 111 → ¬ o = 115 → ¬ o = 116 → G o = H o))) := by
  intro k
  induction k with
  | zero =>
    intro pd H cl fc hk hR h86 L0 L1 D0 D1 hP hCa
    obtain ⟨p0, p1, p2, p3⟩ := id hP
    refine Gq_s (pc' := 40) rfl rfl rfl ?_
    refine Gq_zle (pc' := 43) (t := 56) rfl rfl rfl (by omega) (fun _ => ?_) (fun hq => absurd (by omega) hq)
    refine Gq_s (pc' := 57) rfl rfl rfl ?_
    refine Gq_get (pc' := 60) rfl rfl (by first | assumption | exact upd_eq _ _ _ | (refine (upd_ne _ _ (by omega)).trans ?_; first | assumption | exact upd_eq _ _ _ | (refine (upd_ne _ _ (by omega)).trans ?_; first | assumption | exact upd_eq _ _ _ | (refine (upd_ne _ _ (by omega)).trans ?_; first | assumption | exact upd_eq _ _ _)))) (by exact rfl) ?_
    refine Gq_get (pc' := 63) rfl rfl (by first | assumption | exact upd_eq _ _ _ | (refine (upd_ne _ _ (by omega)).trans ?_; first | assumption | exact upd_eq _ _ _ | (refine (upd_ne _ _ (by omega)).trans ?_; first | assumption | exact upd_eq _ _ _ | (refine (upd_ne _ _ (by omega)).trans ?_; first | assumption | exact upd_eq _ _ _)))) (by exact rfl) ?_
    exact Gq_ret rfl rfl (rfl) (⟨rfl, rfl, D1, hP, ⟨cl, fc, hCa, id, by omega, h86⟩, fun _ _ _ _ _ _ => rfl⟩)
  | succ k ih =>
    intro pd H cl fc hk hR h86 L0 L1 D0 D1 hP hCa
    obtain ⟨p0, p1, p2, p3⟩ := id hP
    have hpg := pigeon 12 sl hsl.1 hsl.2
    have hpl : pd < sl.length := by omega
    have hq : sl[pd]? = some sl[pd] := List.getElem?_eq_getElem hpl
    have hq12 := hsl.2 _ (List.mem_of_getElem? hq)
    have hpq := (hS pd _ hq).1
    generalize sl[pd] = q at hq hq12 hpq
    have hss := dkS_s (lk := lk) (dk := dk) hq
    have hrm : ∀ x, lk (pp pd) = some x → sumTo (fun p => szOf vr (dkS sl lk dk pd p)) 12 - szOf vr (dkS sl lk dk pd (pp pd)) + vS (vr x) ≤ dr := fun x hx => by
      have h9 := hroom (pd + 1) (by omega)
      rw [hss, sz_fset hq12] at h9
      rw [hpq] at hx ⊢
      rw [hx] at h9
      exact h9
    refine Gq_s (pc' := 40) rfl rfl rfl ?_
    refine Gq_zle (pc' := 43) (t := 56) rfl rfl rfl (by omega) (fun hq => absurd hq (by omega)) (fun _ => ?_)
    refine Gq_s (pc' := 44) rfl rfl rfl ?_
    refine Gq_callv (pc' := 47) (Y := xm57) (rest := []) (ce' := 0) (sl' := 0) rfl rfl rfl rfl rfl rfl rfl rfl rfl (t_doNext n hR h86 hL L0 L1 (dkS_own hL hD pd) D0 D1 hP hCa hcr (by omega) hpl (by rw [hpq]; exact hq12) hdr hrm) (by first | assumption | exact upd_eq _ _ _ | (refine (upd_ne _ _ (by omega)).trans ?_; first | assumption | exact upd_eq _ _ _ | (refine (upd_ne _ _ (by omega)).trans ?_; first | assumption | exact upd_eq _ _ _ | (refine (upd_ne _ _ (by omega)).trans ?_; first | assumption | exact upd_eq _ _ _)))) (fun v' H' n' hv => ?_)
    obtain ⟨rfl, rfl, g1, g2, ⟨cl2, fc2, g3, g4, g5, g6⟩, g7⟩ := hv
    have hh : Hi H H' := fun o ho => g7 o (by omega) (by omega) (by omega) (by omega) (by omega)
    rw [hpq, ← hss] at g1
    refine Gq_zeq (pc' := 50) (t := 56) rfl rfl rfl (by decide) (fun hq => absurd hq (fun q => absurd q (by decide))) (fun _ => ?_)
    refine Gq_iinc (pc' := 53) (lv' := [(0, _), (1, _), (2, _)]) rfl rfl rfl rfl ?_
    refine Gq_goto rfl (t := 39) rfl ?_
    have e : ((k + 1 : Nat) : Int) + -1 = (k : Int) := by omega
    rw [e]
    refine Gq_mq (ih (pd + 1) H' cl2 fc2 (by omega) (RG_hi hh (g7 87 (by omega) (by omega) (by omega) (by omega) (by omega)) hR) g6 ((g7 90 (by omega) (by omega) (by omega) (by omega) (by omega)).trans L0) ((g7 91 (by omega) (by omega) (by omega) (by omega) (by omega)).trans L1) ((g7 93 (by omega) (by omega) (by omega) (by omega) (by omega)).trans D0) g1 g2 g3) ?_
    rintro v G m ⟨e1, e2, e3, e4, ⟨cl3, fc3, e5, e6, e7, e8⟩, e9⟩
    have e0 : pd + 1 + k = pd + (k + 1) := by omega
    rw [e0] at e1 e3 e4
    exact ⟨e1, e2, e3, e4, ⟨cl3, fc3, e5, fun h => e6 (g4 h), by omega, e8⟩, fun o a b c d e => (e9 o a b c d e).trans (g7 o a b c d e)⟩
theorem t_run {S : ScT} {H : HF} (n : Nat) {z : Int} {pd : Nat} {fc : Int} {cl : List Nat} {P : Nat} {pid cnt : Nat → Nat} {vd gr : Nat → Nat → Nat} {vr : Nat → VR} {dr lt : Int} {lk dk : Nat → Option Nat} (hL : ∀ q o, lk q = some o → Own P cnt vd q o) (hD : ∀ q o, dk q = some o → Own P cnt vd q o) {sl : List Nat} {kd : Nat → Int} {pp : Nat → Nat} {pb : Nat → Option Nat} (hS : StI sl pp pb dk) (hsl : RwOK sl) {cr : Int} (hcr : 0 ≤ cr ∧ cr ≤ 20000) (hdr : 0 ≤ dr ∧ dr ≤ 20000) (hroom : ∀ i, i ≤ sl.length → sumTo (fun p => szOf vr (dkS sl lk dk i p)) 12 ≤ dr) (hz : 0 ≤ z ∧ z ≤ 1000) (hpd : pd ≤ sl.length) (hR : RG H P pid cnt vd gr vr) (h86 : H 86 = some (false, 7, pwF P dr lt fc)) (L0 : H 90 = some (false, 2, [.ref 91, .ref 92])) (L1 : H 91 = some (true, 3, aR 12 lk)) (D0 : H 93 = some (false, 2, [.ref 94, .ref 95])) (D1 : H 94 = some (true, 3, aR 12 (dkS sl lk dk pd))) (hP : PlAt H true sl.length pd kd pp pb) (hCa : CaAt H 115 cl cr vr (VV P cnt vd)) : Rmt S 30 [.ref 86, .int (zI z)] H n (fun v G m => v = some (.int (zI ((pd + min z.toNat (sl.length - pd) : Nat) : Int))) ∧ m = n ∧ G 94 = some (true, 3, aR 12 (dkS sl lk dk (pd + min z.toNat (sl.length - pd)))) ∧ PlAt G true sl.length (pd + min z.toNat (sl.length - pd)) kd pp pb ∧ (∃ cl2 fc2, CaAt G 115 cl2 cr vr (VV P cnt vd) ∧ (usd vr cl ≤ cr → usd vr cl2 ≤ cr) ∧ (fc ≤ fc2 ∧ fc2 ≤ fc + ((sl.length - pd : Nat) : Int)) ∧ G 86 = some (false, 7, pwF P dr lt fc2)) ∧ (∀ o, ¬ o = 86 → ¬ o = 94 → ¬ o = 111 → ¬ o = 115 → ¬ o = 116 → G o = H o)) := by
  refine Rm_of (M := xm30) (lv := [(0, _), (1, _)]) rfl rfl rfl ?_
  obtain ⟨p0, -⟩ := id hP
  have hpg := pigeon 12 sl hsl.1 hsl.2
  refine Gq_s (pc' := 1) rfl rfl rfl ?_
  refine Gq_zge (pc' := 4) (t := 15) rfl rfl rfl (by omega) (fun _ => ?_) (fun hq => absurd (by omega) hq)
  refine Gq_s (pc' := 16) rfl rfl rfl ?_
  refine Gq_callv1 (pc' := 19) (Y := xm52) (rest := []) (st' := []) (ce' := 0) (sl' := 0) rfl rfl rfl rfl rfl rfl rfl rfl rfl (t_reqPlan n h86 hP) rfl (by first | assumption | exact upd_eq _ _ _ | (refine (upd_ne _ _ (by omega)).trans ?_; first | assumption | exact upd_eq _ _ _ | (refine (upd_ne _ _ (by omega)).trans ?_; first | assumption | exact upd_eq _ _ _ | (refine (upd_ne _ _ (by omega)).trans ?_; first | assumption | exact upd_eq _ _ _)))) ?_
  refine Gq_s (pc' := 20) rfl rfl rfl ?_
  refine Gq_s (pc' := 21) rfl rfl rfl ?_
  refine Gq_get (pc' := 24) rfl rfl (by first | assumption | exact upd_eq _ _ _ | (refine (upd_ne _ _ (by omega)).trans ?_; first | assumption | exact upd_eq _ _ _ | (refine (upd_ne _ _ (by omega)).trans ?_; first | assumption | exact upd_eq _ _ _ | (refine (upd_ne _ _ (by omega)).trans ?_; first | assumption | exact upd_eq _ _ _)))) (by exact rfl) ?_
  refine Gq_get (pc' := 27) rfl rfl (by first | assumption | exact upd_eq _ _ _ | (refine (upd_ne _ _ (by omega)).trans ?_; first | assumption | exact upd_eq _ _ _ | (refine (upd_ne _ _ (by omega)).trans ?_; first | assumption | exact upd_eq _ _ _ | (refine (upd_ne _ _ (by omega)).trans ?_; first | assumption | exact upd_eq _ _ _)))) (by exact rfl) ?_
  refine Gq_s (pc' := 28) rfl rfl rfl ?_
  refine Gq_get (pc' := 31) rfl rfl (by first | assumption | exact upd_eq _ _ _ | (refine (upd_ne _ _ (by omega)).trans ?_; first | assumption | exact upd_eq _ _ _ | (refine (upd_ne _ _ (by omega)).trans ?_; first | assumption | exact upd_eq _ _ _ | (refine (upd_ne _ _ (by omega)).trans ?_; first | assumption | exact upd_eq _ _ _)))) (by exact rfl) ?_
  refine Gq_get (pc' := 34) rfl rfl (by first | assumption | exact upd_eq _ _ _ | (refine (upd_ne _ _ (by omega)).trans ?_; first | assumption | exact upd_eq _ _ _ | (refine (upd_ne _ _ (by omega)).trans ?_; first | assumption | exact upd_eq _ _ _ | (refine (upd_ne _ _ (by omega)).trans ?_; first | assumption | exact upd_eq _ _ _)))) (by exact rfl) ?_
  refine Gq_isub (pc' := 35) rfl rfl ?_
  refine Gq_min (pc' := 38) rfl rfl (by omega) (by omega) rfl ?_
  rw [show min z ((sl.length : Int) - (pd : Int)) = ((min z.toNat (sl.length - pd) : Nat) : Int) by omega]
  refine Gq_s (pc' := 39) (lv' := [(0, _), (1, _), (2, _)]) rfl rfl rfl ?_
  refine Gq_mq (t_run_l hL hD hS hsl hcr hdr hroom (min z.toNat (sl.length - pd)) pd H cl fc (by omega) hR h86 L0 L1 D0 D1 hP hCa) ?_
  rintro v G m ⟨e1, e2, e3, e4, ⟨cl3, fc3, e5, e6, e7, e8⟩, e9⟩
  exact ⟨e1, e2, e3, e4, ⟨cl3, fc3, e5, e6, by omega, e8⟩, e9⟩
end XKh
