/-! resolving, the core (printed by wip/p46/gen31.py) -/
section XKb
theorem RzP_off {H G : HF} (h : ∀ o, 96 ≤ o → o ≤ 106 → G o = H o) {tc : Int} {lv : List Nat} {tr : Nat → Int} (hz : RzP H tc lv tr) : RzP G tc lv tr := by
  obtain ⟨rl, rs, row, lev, z0, z1, z2, z3, z4⟩ := hz
  exact ⟨rl, rs, row, lev, (h 96 (by omega) (by omega)).trans z0, (h 104 (by omega) (by omega)).trans z1, (h 105 (by omega) (by omega)).trans z2, (h 106 (by omega) (by omega)).trans z3, z4⟩
theorem ScR_off {H G : HF} {Ow : Nat → Nat → Prop} (h : ∀ o, 96 ≤ o → o ≤ 106 → G o = H o) (hS : ScR H Ow) : ScR G Ow := by
  obtain ⟨⟨tc, lv, tr, htc, hz, hlv, htr⟩, ⟨z, wc, s1, s2⟩, s3, ⟨ch, s4⟩, ⟨on, s5, s6⟩, cand, cc, s7, s8, s9⟩ := hS
  exact ⟨⟨tc, lv, tr, htc, RzP_off h hz, hlv, htr⟩, ⟨z, wc, (h 97 (by omega) (by omega)).trans s1, (h 98 (by omega) (by omega)).trans s2⟩, (h 99 (by omega) (by omega)).trans s3, ⟨ch, (h 100 (by omega) (by omega)).trans s4⟩, ⟨on, (h 101 (by omega) (by omega)).trans s5, s6⟩, cand, cc, (h 102 (by omega) (by omega)).trans s7, (h 103 (by omega) (by omega)).trans s8, s9⟩
theorem takeF_w {wl : List CR} (h : wl.length ≤ 6) : takeF (zI ((2 ^ wl.length : Nat) : Int) - zI 1) 0 wl = wl := takeF_all _ wl 0 (fun j hj => by rw [Nat.zero_add]; exact allM_in wl.length h j hj)
theorem t_forget {S : ScT} {H : HF} (n : Nat) {a b c d e f : Value} (h111 : H 111 = some (false, 4, [a, b, c, d, e, f])) : Rdt S 98 [.ref 111] H n none (hup H 111 (false, 4, [.int (zI 0), .int (zI 0), .int (zI 0), d, e, f])) n := by
  refine Rm_of (M := xm98) (lv := [(0, _)]) rfl rfl rfl ?_
  refine Gq_s (pc' := 1) rfl rfl rfl ?_
  refine Gq_s (pc' := 2) rfl rfl rfl ?_
  refine Gq_put (pc' := 5) (fs' := [_, _, _, _, _, _]) rfl rfl (by first | assumption | exact upd_eq _ _ _ | (refine (upd_ne _ _ (by omega)).trans ?_; first | assumption | exact upd_eq _ _ _ | (refine (upd_ne _ _ (by omega)).trans ?_; first | assumption | exact upd_eq _ _ _ | (refine (upd_ne _ _ (by omega)).trans ?_; first | assumption | exact upd_eq _ _ _)))) (by exact rfl) (by first | rfl | exact xfit_bI _) (by exact rfl) ?_
  refine Gq_s (pc' := 6) rfl rfl rfl ?_
  refine Gq_s (pc' := 7) rfl rfl rfl ?_
  refine Gq_put (pc' := 10) (fs' := [_, _, _, _, _, _]) rfl rfl (by first | assumption | exact upd_eq _ _ _ | (refine (upd_ne _ _ (by omega)).trans ?_; first | assumption | exact upd_eq _ _ _ | (refine (upd_ne _ _ (by omega)).trans ?_; first | assumption | exact upd_eq _ _ _ | (refine (upd_ne _ _ (by omega)).trans ?_; first | assumption | exact upd_eq _ _ _)))) (by exact rfl) (by first | rfl | exact xfit_bI _) (by exact rfl) ?_
  refine Gq_s (pc' := 11) rfl rfl rfl ?_
  refine Gq_s (pc' := 12) rfl rfl rfl ?_
  refine Gq_put (pc' := 15) (fs' := [_, _, _, _, _, _]) rfl rfl (by first | assumption | exact upd_eq _ _ _ | (refine (upd_ne _ _ (by omega)).trans ?_; first | assumption | exact upd_eq _ _ _ | (refine (upd_ne _ _ (by omega)).trans ?_; first | assumption | exact upd_eq _ _ _ | (refine (upd_ne _ _ (by omega)).trans ?_; first | assumption | exact upd_eq _ _ _)))) (by exact rfl) (by first | rfl | exact xfit_bI _) (by exact rfl) ?_
  simp only [upd_upd]
  exact Gq_ret rfl rfl (rfl) (⟨rfl, rfl, rfl⟩)
theorem t_resolve {S : ScT} {H : HF} (n : Nat) {p : Nat} {z : Int} {P : Nat} {pid cnt : Nat → Nat} {vd gr : Nat → Nat → Nat} {vr : Nat → VR} {dr lt fc : Int} (hR : RG H P pid cnt vd gr vr) (h86 : H 86 = some (false, 7, pwF P dr lt fc)) (hp : p < P) (hz : 0 ≤ z ∧ z ≤ 3) {lk : Nat → Option Nat} (hL : ∀ q o, lk q = some o → Own P cnt vd q o) (L0 : H 90 = some (false, 2, [.ref 91, .ref 92])) (L1 : H 91 = some (true, 3, aR 12 lk)) {lo : Nat → Nat} (L2 : H 92 = some (true, 0, aNt 12 lo)) {wl : List CR} (hW : WiAt H 88 wl) (hlo : o16 lo) (hwP : ∀ c ∈ wl, cT c < P) (hS : ScR H (Own P cnt vd)) {pa pb pc pe pf pg : Value} (h111 : H 111 = some (false, 4, [pa, pb, pc, pe, pf, pg])) : Rmt S 11 [.ref 86, .int (zI z), .int (zI (p : Int))] H n (fun v G m => m = n ∧ ScR G (Own P cnt vd) ∧ (∃ lo2, G 92 = some (true, 0, aNt 12 lo2) ∧ o16 lo2) ∧ ∃ lt2, (0 ≤ lt2 ∧ lt2 ≤ 5001) ∧ G 86 = some (false, 7, pwF P dr lt2 fc) ∧ ((∃ r : Int, v = some (.int (zI r)) ∧ (-2 ≤ r ∧ r < 0) ∧ ∀ o, ¬ o = 86 → ¬ o = 92 → (o < 96 ∨ 106 < o) → G o = H o) ∨ ∃ ch2, ∃ r : Int, v = some (.int (zI r)) ∧ (0 ≤ r ∧ r ≤ 12) ∧ Found vr (Own P cnt vd) wl ch2 ∧ G 91 = some (true, 3, aR 12 ch2) ∧ G 111 = some (false, 4, [.int (zI 0), .int (zI 0), .int (zI 0), pe, pf, pg]) ∧ ∀ o, ¬ o = 86 → ¬ o = 91 → ¬ o = 92 → ¬ o = 111 → (o < 96 ∨ 106 < o) → G o = H o)) := by
  refine Rm_of (M := xm11) (lv := [(0, _), (1, _), (2, _)]) rfl rfl rfl ?_
  have hP := hR.1
  have hW6 := hW.2.1
  have key : Gw S xm11 30 [(0, .ref 86), (1, .int (zI z)), (2, .int (zI (p : Int)))] [] H n 0 0 (MQe xm11 (fun v G m => m = n ∧ ScR G (Own P cnt vd) ∧ (∃ lo2, G 92 = some (true, 0, aNt 12 lo2) ∧ o16 lo2) ∧ ∃ lt2, (0 ≤ lt2 ∧ lt2 ≤ 5001) ∧ G 86 = some (false, 7, pwF P dr lt2 fc) ∧ ((∃ r : Int, v = some (.int (zI r)) ∧ (-2 ≤ r ∧ r < 0) ∧ ∀ o, ¬ o = 86 → ¬ o = 92 → (o < 96 ∨ 106 < o) → G o = H o) ∨ ∃ ch2, ∃ r : Int, v = some (.int (zI r)) ∧ (0 ≤ r ∧ r ≤ 12) ∧ Found vr (Own P cnt vd) wl ch2 ∧ G 91 = some (true, 3, aR 12 ch2) ∧ G 111 = some (false, 4, [.int (zI 0), .int (zI 0), .int (zI 0), pe, pf, pg]) ∧ ∀ o, ¬ o = 86 → ¬ o = 91 → ¬ o = 92 → ¬ o = 111 → (o < 96 ∨ 106 < o) → G o = H o))) := by
    refine Gq_s (pc' := 31) rfl rfl rfl ?_
    refine Gq_s (pc' := 32) rfl rfl rfl ?_
    refine Gq_get (pc' := 35) rfl rfl (by first | assumption | exact upd_eq _ _ _ | (refine (upd_ne _ _ (by omega)).trans ?_; first | assumption | exact upd_eq _ _ _ | (refine (upd_ne _ _ (by omega)).trans ?_; first | assumption | exact upd_eq _ _ _ | (refine (upd_ne _ _ (by omega)).trans ?_; first | assumption | exact upd_eq _ _ _)))) (by exact rfl) ?_
    refine Gq_callv1 (pc' := 38) (Y := xm123) (rest := [_]) (st' := [_, _]) (ce' := 0) (sl' := 0) rfl rfl rfl rfl rfl rfl rfl rfl rfl (t_all hW) rfl (by exact hW.1) ?_
    refine Gq_s (pc' := 39) rfl rfl rfl ?_
    refine Gq_s (pc' := 40) rfl rfl rfl ?_
    refine Gq_s (pc' := 41) rfl rfl rfl ?_
    refine Gq_callv (pc' := 44) (Y := xm53) (rest := [_, _]) (ce' := 0) (sl' := 0) rfl rfl rfl rfl rfl rfl rfl rfl rfl (t_opened n hR h86 (by omega) hz hL L0 L1 L2 hW hlo) (by first | assumption | exact upd_eq _ _ _ | (refine (upd_ne _ _ (by omega)).trans ?_; first | assumption | exact upd_eq _ _ _ | (refine (upd_ne _ _ (by omega)).trans ?_; first | assumption | exact upd_eq _ _ _ | (refine (upd_ne _ _ (by omega)).trans ?_; first | assumption | exact upd_eq _ _ _)))) (fun v' H' n' hv => ?_)
    obtain ⟨rfl, ⟨y, rfl⟩, e1, on1, e2, e3⟩ := hv
    have hh : Hi H H' := fun o ho => e1 o (by omega)
    have hS1 := ScR_off (fun o h1 h2 => e1 o (by omega)) hS
    refine Gq_callv (pc' := 47) (Y := xm55) (rest := []) (ce' := 0) (sl' := 0) rfl rfl rfl rfl rfl rfl rfl rfl rfl (t_psearch _ (RG_hi hh (e1 87 (by omega)) hR) ((e1 86 (by omega)).trans h86) hL ((e1 90 (by omega)).trans L0) ((e1 91 (by omega)).trans L1) (WiAt_hi hh (e1 88 (by omega)) (e1 89 (by omega)) hW) hwP hS1 (zI ((2 ^ wl.length : Nat) : Int) - zI 1) y) (by exact (e1 86 (by omega)).trans h86) (fun v2 H2 n2 hv => ?_)
    obtain ⟨rfl, f1, hS2, r, rfl, hr, ch2, f2, f3, f4⟩ := hv
    rw [takeF_w hW6] at f4
    have hh2 : Hi H' H2 := fun o ho => f1 o (by omega)
    have hfr : ∀ o, ¬ o = 92 → (o < 96 ∨ 106 < o) → H2 o = H o := fun o h1 h2 => (f1 o h2).trans (e1 o h1)
    have g86 := (hfr 86 (by omega) (by omega)).trans h86
    have g90 := (hfr 90 (by omega) (by omega)).trans L0
    have g91 := (hfr 91 (by omega) (by omega)).trans L1
    have g92 := (f1 92 (by omega)).trans e2
    have g111 := (hfr 111 (by omega) (by omega)).trans h111
    have hvs2 := RG_vs (RG_hi (Hi_trans hh hh2) (hfr 87 (by omega) (by omega)) hR)
    have hS3 := hS2
    obtain ⟨⟨tc, lv, tr, htc, ⟨rl, rs, row, lev, z0, -⟩, -⟩, -, g99, -⟩ := hS3
    refine Gq_s (pc' := 48) (lv' := [(0, _), (1, _), (2, _), (3, _)]) rfl rfl rfl ?_
    refine Gq_s (pc' := 49) rfl rfl rfl ?_
    refine Gq_s (pc' := 50) rfl rfl rfl ?_
    refine Gq_get (pc' := 53) rfl rfl (by first | assumption | exact upd_eq _ _ _ | (refine (upd_ne _ _ (by omega)).trans ?_; first | assumption | exact upd_eq _ _ _ | (refine (upd_ne _ _ (by omega)).trans ?_; first | assumption | exact upd_eq _ _ _ | (refine (upd_ne _ _ (by omega)).trans ?_; first | assumption | exact upd_eq _ _ _)))) (by exact rfl) ?_
    refine Gq_get (pc' := 56) rfl rfl (by first | assumption | exact upd_eq _ _ _ | (refine (upd_ne _ _ (by omega)).trans ?_; first | assumption | exact upd_eq _ _ _ | (refine (upd_ne _ _ (by omega)).trans ?_; first | assumption | exact upd_eq _ _ _ | (refine (upd_ne _ _ (by omega)).trans ?_; first | assumption | exact upd_eq _ _ _)))) (by exact rfl) ?_
    refine Gq_put (pc' := 59) (fs' := [_, _, _, _, _, _, _, _, _, _, _, _, _]) rfl rfl (by first | assumption | exact upd_eq _ _ _ | (refine (upd_ne _ _ (by omega)).trans ?_; first | assumption | exact upd_eq _ _ _ | (refine (upd_ne _ _ (by omega)).trans ?_; first | assumption | exact upd_eq _ _ _ | (refine (upd_ne _ _ (by omega)).trans ?_; first | assumption | exact upd_eq _ _ _)))) (by exact rfl) (by first | rfl | exact xfit_bI _) (by exact rfl) ?_
    refine Gq_s (pc' := 60) rfl rfl rfl ?_
    refine Gq_zeq (pc' := 63) (t := 65) rfl rfl rfl (by omega) (fun hb => ?_) (fun hb => ?_)
    · refine Gq_s (pc' := 66) rfl rfl rfl ?_
      refine Gq_get (pc' := 69) rfl rfl (by first | assumption | exact upd_eq _ _ _ | (refine (upd_ne _ _ (by omega)).trans ?_; first | assumption | exact upd_eq _ _ _ | (refine (upd_ne _ _ (by omega)).trans ?_; first | assumption | exact upd_eq _ _ _ | (refine (upd_ne _ _ (by omega)).trans ?_; first | assumption | exact upd_eq _ _ _)))) (by exact rfl) ?_
      refine Gq_s (pc' := 70) rfl rfl rfl ?_
      refine Gq_get (pc' := 73) rfl rfl (by first | assumption | exact upd_eq _ _ _ | (refine (upd_ne _ _ (by omega)).trans ?_; first | assumption | exact upd_eq _ _ _ | (refine (upd_ne _ _ (by omega)).trans ?_; first | assumption | exact upd_eq _ _ _ | (refine (upd_ne _ _ (by omega)).trans ?_; first | assumption | exact upd_eq _ _ _)))) (by exact rfl) ?_
      refine Gq_get (pc' := 76) rfl rfl (by first | assumption | exact upd_eq _ _ _ | (refine (upd_ne _ _ (by omega)).trans ?_; first | assumption | exact upd_eq _ _ _ | (refine (upd_ne _ _ (by omega)).trans ?_; first | assumption | exact upd_eq _ _ _ | (refine (upd_ne _ _ (by omega)).trans ?_; first | assumption | exact upd_eq _ _ _)))) (by exact rfl) ?_
      refine Gq_callv1 (pc' := 79) (Y := xm76) (rest := []) (st' := [_]) (ce' := 0) (sl' := 0) rfl rfl rfl rfl rfl rfl rfl rfl rfl (t_diff (VS_upd (by omega) hvs2) (Own_ch hL) (Own_ch f3) (t := 90) (u := 99) (by rw [upd_ne _ _ (by omega)]; exact g90) (by rw [upd_ne _ _ (by omega)]; exact g91) (by rw [upd_ne _ _ (by omega)]; exact g99) (by rw [upd_ne _ _ (by omega)]; exact f2)) rfl (by first | assumption | exact upd_eq _ _ _ | (refine (upd_ne _ _ (by omega)).trans ?_; first | assumption | exact upd_eq _ _ _ | (refine (upd_ne _ _ (by omega)).trans ?_; first | assumption | exact upd_eq _ _ _ | (refine (upd_ne _ _ (by omega)).trans ?_; first | assumption | exact upd_eq _ _ _)))) ?_
      refine Gq_s (pc' := 81) (lv' := [(0, _), (1, _), (2, _), (3, _), (4, _)]) rfl rfl rfl ?_
      refine Gq_s (pc' := 82) rfl rfl rfl ?_
      refine Gq_get (pc' := 85) rfl rfl (by first | assumption | exact upd_eq _ _ _ | (refine (upd_ne _ _ (by omega)).trans ?_; first | assumption | exact upd_eq _ _ _ | (refine (upd_ne _ _ (by omega)).trans ?_; first | assumption | exact upd_eq _ _ _ | (refine (upd_ne _ _ (by omega)).trans ?_; first | assumption | exact upd_eq _ _ _)))) (by exact rfl) ?_
      refine Gq_s (pc' := 86) rfl rfl rfl ?_
      refine Gq_get (pc' := 89) rfl rfl (by first | assumption | exact upd_eq _ _ _ | (refine (upd_ne _ _ (by omega)).trans ?_; first | assumption | exact upd_eq _ _ _ | (refine (upd_ne _ _ (by omega)).trans ?_; first | assumption | exact upd_eq _ _ _ | (refine (upd_ne _ _ (by omega)).trans ?_; first | assumption | exact upd_eq _ _ _)))) (by exact rfl) ?_
      refine Gq_get (pc' := 92) rfl rfl (by first | assumption | exact upd_eq _ _ _ | (refine (upd_ne _ _ (by omega)).trans ?_; first | assumption | exact upd_eq _ _ _ | (refine (upd_ne _ _ (by omega)).trans ?_; first | assumption | exact upd_eq _ _ _ | (refine (upd_ne _ _ (by omega)).trans ?_; first | assumption | exact upd_eq _ _ _)))) (by exact rfl) ?_
      refine Gq_callv1 (pc' := 95) (Y := xm75) (rest := []) (st' := []) (ce' := 0) (sl' := 0) rfl rfl rfl rfl rfl rfl rfl rfl rfl (t_become _ (VS_upd (by omega) hvs2) (Own_ch f3) (t := 90) (u := 99) (by omega) (by omega) (by rw [upd_ne _ _ (by omega)]; exact g90) (by rw [upd_ne _ _ (by omega)]; exact g91) (by rw [upd_ne _ _ (by omega)]; exact g99) (by rw [upd_ne _ _ (by omega)]; exact f2)) rfl (by first | assumption | exact upd_eq _ _ _ | (refine (upd_ne _ _ (by omega)).trans ?_; first | assumption | exact upd_eq _ _ _ | (refine (upd_ne _ _ (by omega)).trans ?_; first | assumption | exact upd_eq _ _ _ | (refine (upd_ne _ _ (by omega)).trans ?_; first | assumption | exact upd_eq _ _ _)))) ?_
      refine Gq_s (pc' := 96) rfl rfl rfl ?_
      refine Gq_get (pc' := 99) rfl rfl (by first | assumption | exact upd_eq _ _ _ | (refine (upd_ne _ _ (by omega)).trans ?_; first | assumption | exact upd_eq _ _ _ | (refine (upd_ne _ _ (by omega)).trans ?_; first | assumption | exact upd_eq _ _ _ | (refine (upd_ne _ _ (by omega)).trans ?_; first | assumption | exact upd_eq _ _ _)))) (by exact rfl) ?_
      refine Gq_callv1 (pc' := 102) (Y := xm98) (rest := []) (st' := []) (ce' := 0) (sl' := 0) rfl rfl rfl rfl rfl rfl rfl rfl rfl (t_forget _ (by rw [upd_ne _ _ (by omega), upd_ne _ _ (by omega)]; exact g111)) rfl (by first | assumption | exact upd_eq _ _ _ | (refine (upd_ne _ _ (by omega)).trans ?_; first | assumption | exact upd_eq _ _ _ | (refine (upd_ne _ _ (by omega)).trans ?_; first | assumption | exact upd_eq _ _ _ | (refine (upd_ne _ _ (by omega)).trans ?_; first | assumption | exact upd_eq _ _ _)))) ?_
      refine Gq_s (pc' := 104) rfl rfl rfl ?_
      have hd := cntTo_le (fun p => decide (¬ lk p = ch2 p)) 12
      have hd2 : diffs lk ch2 ≤ 12 := hd
      have hfr2 : ∀ o, ¬ o = 86 → ¬ o = 91 → ¬ o = 111 → hup (hup (hup H2 86 (false, 7, pwF P dr tc fc)) (90 + 1) (true, 3, aR 12 ch2)) 111 (false, 4, [.int (zI 0), .int (zI 0), .int (zI 0), pe, pf, pg]) o = H2 o := fun o h1 h2 h3 => by rw [upd_ne _ _ h3, upd_ne _ _ h2, upd_ne _ _ h1]
      refine Gq_ret rfl rfl rfl ⟨rfl, ScR_off (fun o h1 h2 => hfr2 o (by omega) (by omega) (by omega)) hS2, ⟨on1, (hfr2 92 (by omega) (by omega) (by omega)).trans g92, e3⟩, tc, htc, ?_, .inr ⟨ch2, (diffs lk ch2 : Int), rfl, by omega, f4 hb, ?_, upd_eq _ _ _, fun o h1 h2 h3 h4 h5 => (hfr2 o h1 h2 h4).trans (hfr o h3 h5)⟩⟩
      · rw [upd_ne _ _ (by omega), upd_ne _ _ (by omega)]
        exact upd_eq _ _ _
      · rw [upd_ne _ _ (by omega)]
        exact upd_eq _ _ _
    · refine Gq_s (pc' := 64) rfl rfl rfl ?_
      refine Gq_ret rfl rfl rfl ⟨rfl, ScR_off (fun o h1 h2 => upd_ne _ _ (by omega)) hS2, ⟨on1, by rw [upd_ne _ _ (by omega)]; exact g92, e3⟩, tc, htc, upd_eq _ _ _, .inl ⟨r, rfl, by omega, fun o h1 h2 h3 => by rw [upd_ne _ _ h1]; exact hfr o h2 h3⟩⟩
  refine Gq_s (pc' := 1) rfl rfl rfl ?_
  refine Gq_zlt (pc' := 4) (t := 9) rfl rfl rfl (by omega) (fun hq => absurd hq (by omega)) (fun _ => ?_)
  refine Gq_s (pc' := 5) rfl rfl rfl ?_
  refine Gq_s (pc' := 6) rfl rfl rfl ?_
  refine Gq_cle (pc' := 9) (t := 19) rfl rfl rfl (by omega) (by omega) (fun _ => ?_) (fun hq => absurd (by omega) hq)
  refine Gq_s (pc' := 20) rfl rfl rfl ?_
  refine Gq_s (pc' := 21) rfl rfl rfl ?_
  refine Gq_clt (pc' := 24) (t := 30) rfl rfl rfl (by omega) (by omega) (fun hb => ?_) (fun hb => ?_)
  · exact key
  · refine Gq_s (pc' := 25) rfl rfl rfl ?_
    refine Gq_s (pc' := 26) rfl rfl rfl ?_
    refine Gq_callv1 (pc' := 29) (Y := xm43) (rest := []) (st' := [_]) (ce' := 0) (sl' := 0) rfl rfl rfl rfl rfl rfl rfl rfl rfl (t_pti n hR h86 hp) rfl (by first | assumption | exact upd_eq _ _ _ | (refine (upd_ne _ _ (by omega)).trans ?_; first | assumption | exact upd_eq _ _ _ | (refine (upd_ne _ _ (by omega)).trans ?_; first | assumption | exact upd_eq _ _ _ | (refine (upd_ne _ _ (by omega)).trans ?_; first | assumption | exact upd_eq _ _ _)))) ?_
    refine Gq_s (pc' := 30) rfl rfl rfl ?_
    exact key
theorem t_hopeless {S : ScT} {H : HF} (n : Nat) {P : Nat} {pid cnt : Nat → Nat} {vd gr : Nat → Nat → Nat} {vr : Nat → VR} {dr lt fc : Int} (hR : RG H P pid cnt vd gr vr) (h86 : H 86 = some (false, 7, pwF P dr lt fc)) {lk : Nat → Option Nat} (hL : ∀ q o, lk q = some o → Own P cnt vd q o) (L0 : H 90 = some (false, 2, [.ref 91, .ref 92])) (L1 : H 91 = some (true, 3, aR 12 lk)) {wl : List CR} (hW : WiAt H 88 wl) (hwP : ∀ c ∈ wl, cT c < P) (hS : ScR H (Own P cnt vd)) (x : Int32) : Rmt S 54 [.ref 86, .int x] H n (fun v G m => m = n ∧ (∀ o, (o < 96 ∨ 106 < o) → G o = H o) ∧ ScR G (Own P cnt vd) ∧ ∃ b, v = some (.int (zI (bI b)))) := by
  refine Rm_of (M := xm54) (lv := [(0, _), (1, _)]) rfl rfl rfl ?_
  refine Gq_s (pc' := 1) rfl rfl rfl ?_
  refine Gq_s (pc' := 2) rfl rfl rfl ?_
  refine Gq_sipush (pc' := 5) rfl rfl (by decide) ?_
  refine Gq_callv (pc' := 8) (Y := xm55) (rest := []) (ce' := 0) (sl' := 0) rfl rfl rfl rfl rfl rfl rfl rfl rfl (t_psearch n hR h86 hL L0 L1 hW hwP hS x (zI 4095)) (by first | assumption | exact upd_eq _ _ _ | (refine (upd_ne _ _ (by omega)).trans ?_; first | assumption | exact upd_eq _ _ _ | (refine (upd_ne _ _ (by omega)).trans ?_; first | assumption | exact upd_eq _ _ _ | (refine (upd_ne _ _ (by omega)).trans ?_; first | assumption | exact upd_eq _ _ _)))) (fun v' H' n' hv => ?_)
  obtain ⟨rfl, f1, hS2, r, rfl, hr, -⟩ := hv
  refine Gq_s (pc' := 9) rfl rfl rfl ?_
  refine Gq_cne (pc' := 12) (t := 16) rfl rfl rfl (by omega) (by omega) (fun hb => ?_) (fun hb => ?_)
  · refine Gq_s (pc' := 17) rfl rfl rfl ?_
    exact Gq_ret rfl rfl (rfl) (⟨rfl, f1, hS2, false, rfl⟩)
  · refine Gq_s (pc' := 13) rfl rfl rfl ?_
    refine Gq_goto rfl (t := 17) rfl ?_
    exact Gq_ret rfl rfl (rfl) (⟨rfl, f1, hS2, true, rfl⟩)
theorem t_core_l {S : ScT} {n : Nat} {P : Nat} {pid cnt : Nat → Nat} {vd gr : Nat → Nat → Nat} {vr : Nat → VR} {dr lt fc : Int} {lk : Nat → Option Nat} (hL : ∀ q o, lk q = some o → Own P cnt vd q o) {wl : List CR} (hwP : ∀ c ∈ wl, cT c < P) : ∀ (k j : Nat) (H : HF) (x : Int32) (ex : XL), j + k = wl.length → (ex = [] ∨ ∃ v, ex = [(3, v)]) → RG H P pid cnt vd gr vr → H 86 = some (false, 7, pwF P dr lt fc) → H 90 = some (false, 2, [.ref 91, .ref 92]) → H 91 = some (true, 3, aR 12 lk) → WiAt H 88 wl → ScR H (Own P cnt vd) → Gw S xm18 20 ((0, .ref 86) :: (1, .int x) :: (2, .int (zI (j : Int))) :: ex) [] H n 0 0 (MQe xm18 (fun v G m => m = n ∧ (∀ o, (o < 96 ∨ 106 < o) → G o = H o) ∧ ScR G (Own P cnt vd) ∧ ∃ y, v = some (.int y))) := by
  intro k
  induction k with
  | zero =>
    intro j H x ex hj hex hR h86 L0 L1 hW hS
    obtain ⟨w0, hW6, -⟩ := id hW
    refine Gq_s (pc' := 21) rfl rfl rfl ?_
    refine Gq_s (pc' := 22) rfl rfl rfl ?_
    refine Gq_get (pc' := 25) rfl rfl (by first | assumption | exact upd_eq _ _ _ | (refine (upd_ne _ _ (by omega)).trans ?_; first | assumption | exact upd_eq _ _ _ | (refine (upd_ne _ _ (by omega)).trans ?_; first | assumption | exact upd_eq _ _ _ | (refine (upd_ne _ _ (by omega)).trans ?_; first | assumption | exact upd_eq _ _ _)))) (by exact rfl) ?_
    refine Gq_get (pc' := 28) rfl rfl (by first | assumption | exact upd_eq _ _ _ | (refine (upd_ne _ _ (by omega)).trans ?_; first | assumption | exact upd_eq _ _ _ | (refine (upd_ne _ _ (by omega)).trans ?_; first | assumption | exact upd_eq _ _ _ | (refine (upd_ne _ _ (by omega)).trans ?_; first | assumption | exact upd_eq _ _ _)))) (by exact rfl) ?_
    refine Gq_cge (pc' := 31) (t := 55) rfl rfl rfl (by omega) (by omega) (fun _ => ?_) (fun hq => absurd (by omega) hq)
    refine Gq_s (pc' := 56) rfl rfl rfl ?_
    exact Gq_ret rfl rfl (rfl) (⟨rfl, fun _ _ => rfl, hS, _, rfl⟩)
  | succ k ih =>
    intro j H x ex hj hex hR h86 L0 L1 hW hS
    obtain ⟨w0, hW6, -⟩ := id hW
    refine Gq_s (pc' := 21) rfl rfl rfl ?_
    refine Gq_s (pc' := 22) rfl rfl rfl ?_
    refine Gq_get (pc' := 25) rfl rfl (by first | assumption | exact upd_eq _ _ _ | (refine (upd_ne _ _ (by omega)).trans ?_; first | assumption | exact upd_eq _ _ _ | (refine (upd_ne _ _ (by omega)).trans ?_; first | assumption | exact upd_eq _ _ _ | (refine (upd_ne _ _ (by omega)).trans ?_; first | assumption | exact upd_eq _ _ _)))) (by exact rfl) ?_
    refine Gq_get (pc' := 28) rfl rfl (by first | assumption | exact upd_eq _ _ _ | (refine (upd_ne _ _ (by omega)).trans ?_; first | assumption | exact upd_eq _ _ _ | (refine (upd_ne _ _ (by omega)).trans ?_; first | assumption | exact upd_eq _ _ _ | (refine (upd_ne _ _ (by omega)).trans ?_; first | assumption | exact upd_eq _ _ _)))) (by exact rfl) ?_
    refine Gq_cge (pc' := 31) (t := 55) rfl rfl rfl (by omega) (by omega) (fun hq => absurd hq (by omega)) (fun _ => ?_)
    refine Gq_s (pc' := 32) rfl rfl rfl ?_
    refine Gq_s (pc' := 33) rfl rfl rfl ?_
    refine Gq_s (pc' := 34) rfl rfl rfl ?_
    refine Gq_ishl (pc' := 35) (_) rfl rfl (rfl) ?_
    refine Gq_s (pc' := 36) rfl rfl rfl ?_
    refine Gq_ixor (pc' := 37) (_) rfl rfl (rfl) ?_
    refine Gq_iand (pc' := 38) (_) rfl rfl (rfl) ?_
    refine Gq_st1 (pc' := 39) (lv' := [(0, _), (1, _), (2, _), (3, _)]) (k := 3) rfl (fun _ => rfl) rfl (xst1_ex (pre := [(0, _), (1, _), (2, _)]) hex rfl) ?_
    refine Gq_s (pc' := 40) rfl rfl rfl ?_
    refine Gq_s (pc' := 41) rfl rfl rfl ?_
    refine Gq_callv (pc' := 44) (Y := xm54) (rest := []) (ce' := 0) (sl' := 0) rfl rfl rfl rfl rfl rfl rfl rfl rfl (t_hopeless n hR h86 hL L0 L1 hW hwP hS _) (by first | assumption | exact upd_eq _ _ _ | (refine (upd_ne _ _ (by omega)).trans ?_; first | assumption | exact upd_eq _ _ _ | (refine (upd_ne _ _ (by omega)).trans ?_; first | assumption | exact upd_eq _ _ _ | (refine (upd_ne _ _ (by omega)).trans ?_; first | assumption | exact upd_eq _ _ _)))) (fun v' H' n' hv => ?_)
    obtain ⟨rfl, f1, hS2, b, rfl⟩ := hv
    have hh : Hi H H' := fun o ho => f1 o (by omega)
    refine Gq_beq (pc' := 47) (t := 49) rfl rfl rfl (fun hb => ?_) (fun hb => ?_)
    · refine Gq_iinc (pc' := 52) (lv' := [(0, _), (1, _), (2, _), (3, _)]) rfl rfl rfl rfl ?_
      refine Gq_goto rfl (t := 20) rfl ?_
      refine Gq_mq (ih (j + 1) H' _ _ (by omega) (.inr ⟨_, rfl⟩) (RG_hi hh (f1 87 (by omega)) hR) ((f1 86 (by omega)).trans h86) ((f1 90 (by omega)).trans L0) ((f1 91 (by omega)).trans L1) (WiAt_hi hh (f1 88 (by omega)) (f1 89 (by omega)) hW) hS2) ?_
      rintro v G m ⟨e1, e2, e3⟩
      exact ⟨e1, fun o ho => (e2 o ho).trans (f1 o ho), e3⟩
    · refine Gq_s (pc' := 48) rfl rfl rfl ?_
      refine Gq_s (pc' := 49) (lv' := [(0, _), (1, _), (2, _), (3, _)]) rfl rfl rfl ?_
      refine Gq_iinc (pc' := 52) (lv' := [(0, _), (1, _), (2, _), (3, _)]) rfl rfl rfl rfl ?_
      refine Gq_goto rfl (t := 20) rfl ?_
      refine Gq_mq (ih (j + 1) H' _ _ (by omega) (.inr ⟨_, rfl⟩) (RG_hi hh (f1 87 (by omega)) hR) ((f1 86 (by omega)).trans h86) ((f1 90 (by omega)).trans L0) ((f1 91 (by omega)).trans L1) (WiAt_hi hh (f1 88 (by omega)) (f1 89 (by omega)) hW) hS2) ?_
      rintro v G m ⟨e1, e2, e3⟩
      exact ⟨e1, fun o ho => (e2 o ho).trans (f1 o ho), e3⟩
theorem t_core {S : ScT} {H : HF} (n : Nat) {P : Nat} {pid cnt : Nat → Nat} {vd gr : Nat → Nat → Nat} {vr : Nat → VR} {dr lt fc : Int} (hR : RG H P pid cnt vd gr vr) (h86 : H 86 = some (false, 7, pwF P dr lt fc)) {lk : Nat → Option Nat} (hL : ∀ q o, lk q = some o → Own P cnt vd q o) (L0 : H 90 = some (false, 2, [.ref 91, .ref 92])) (L1 : H 91 = some (true, 3, aR 12 lk)) {wl : List CR} (hW : WiAt H 88 wl) (hwP : ∀ c ∈ wl, cT c < P) (hS : ScR H (Own P cnt vd)) : Rmt S 18 [.ref 86] H n (fun v G m => m = n ∧ (∀ o, (o < 96 ∨ 106 < o) → G o = H o) ∧ ScR G (Own P cnt vd) ∧ ∃ y, v = some (.int y)) := by
  refine Rm_of (M := xm18) (lv := [(0, _)]) rfl rfl rfl ?_
  refine Gq_s (pc' := 1) rfl rfl rfl ?_
  refine Gq_get (pc' := 4) rfl rfl (by first | assumption | exact upd_eq _ _ _ | (refine (upd_ne _ _ (by omega)).trans ?_; first | assumption | exact upd_eq _ _ _ | (refine (upd_ne _ _ (by omega)).trans ?_; first | assumption | exact upd_eq _ _ _ | (refine (upd_ne _ _ (by omega)).trans ?_; first | assumption | exact upd_eq _ _ _)))) (by exact rfl) ?_
  refine Gq_callv1 (pc' := 7) (Y := xm123) (rest := []) (st' := [_]) (ce' := 0) (sl' := 0) rfl rfl rfl rfl rfl rfl rfl rfl rfl (t_all hW) rfl (by exact hW.1) ?_
  refine Gq_s (pc' := 8) (lv' := [(0, _), (1, _)]) rfl rfl rfl ?_
  refine Gq_s (pc' := 9) rfl rfl rfl ?_
  refine Gq_s (pc' := 10) rfl rfl rfl ?_
  refine Gq_callv (pc' := 13) (Y := xm54) (rest := []) (ce' := 0) (sl' := 0) rfl rfl rfl rfl rfl rfl rfl rfl rfl (t_hopeless n hR h86 hL L0 L1 hW hwP hS _) (by first | assumption | exact upd_eq _ _ _ | (refine (upd_ne _ _ (by omega)).trans ?_; first | assumption | exact upd_eq _ _ _ | (refine (upd_ne _ _ (by omega)).trans ?_; first | assumption | exact upd_eq _ _ _ | (refine (upd_ne _ _ (by omega)).trans ?_; first | assumption | exact upd_eq _ _ _)))) (fun v' H' n' hv => ?_)
  obtain ⟨rfl, f1, hS2, b, rfl⟩ := hv
  have hh : Hi H H' := fun o ho => f1 o (by omega)
  refine Gq_bne (pc' := 16) (t := 18) rfl rfl rfl (fun hb => ?_) (fun hb => ?_)
  · refine Gq_s (pc' := 19) rfl rfl rfl ?_
    refine Gq_s (pc' := 20) (lv' := [(0, _), (1, _), (2, _)]) rfl rfl rfl ?_
    refine Gq_mq (t_core_l (pid := pid) (gr := gr) (dr := dr) (lt := lt) (fc := fc) hL hwP wl.length 0 H' _ [] (by omega) (.inl rfl) (RG_hi hh (f1 87 (by omega)) hR) ((f1 86 (by omega)).trans h86) ((f1 90 (by omega)).trans L0) ((f1 91 (by omega)).trans L1) (WiAt_hi hh (f1 88 (by omega)) (f1 89 (by omega)) hW) hS2) ?_
    rintro v G m ⟨e1, e2, e3⟩
    exact ⟨e1, fun o ho => (e2 o ho).trans (f1 o ho), e3⟩
  · refine Gq_s (pc' := 17) rfl rfl rfl ?_
    exact Gq_ret rfl rfl (rfl) (⟨rfl, f1, hS2, _, rfl⟩)
theorem t_would {S : ScT} {H : HF} (n : Nat) {p : Nat} {P : Nat} {pid cnt : Nat → Nat} {vd gr : Nat → Nat → Nat} {vr : Nat → VR} {dr lt fc : Int} (hR : RG H P pid cnt vd gr vr) (h86 : H 86 = some (false, 7, pwF P dr lt fc)) (hp : p < P) {lk : Nat → Option Nat} (hL : ∀ q o, lk q = some o → Own P cnt vd q o) (L0 : H 90 = some (false, 2, [.ref 91, .ref 92])) (L1 : H 91 = some (true, 3, aR 12 lk)) {lo : Nat → Nat} (L2 : H 92 = some (true, 0, aNt 12 lo)) {wl : List CR} (hW : WiAt H 88 wl) (hlo : o16 lo) (hwP : ∀ c ∈ wl, cT c < P) (hS : ScR H (Own P cnt vd)) : Rmt S 23 [.ref 86, .int (zI (p : Int))] H n (fun v G m => m = n ∧ (∀ o, ¬ o = 92 → (o < 96 ∨ 106 < o) → G o = H o) ∧ ScR G (Own P cnt vd) ∧ (∃ lo2, G 92 = some (true, 0, aNt 12 lo2) ∧ o16 lo2) ∧ ∃ r : Int, v = some (.int (zI r)) ∧ -2 ≤ r ∧ r ≤ 12) := by
  refine Rm_of (M := xm23) (lv := [(0, _), (1, _)]) rfl rfl rfl ?_
  have hP := hR.1
  have hW6 := hW.2.1
  refine Gq_s (pc' := 1) rfl rfl rfl ?_
  refine Gq_s (pc' := 2) rfl rfl rfl ?_
  refine Gq_callv1 (pc' := 5) (Y := xm43) (rest := []) (st' := [_]) (ce' := 0) (sl' := 0) rfl rfl rfl rfl rfl rfl rfl rfl rfl (t_pti n hR h86 hp) rfl (by first | assumption | exact upd_eq _ _ _ | (refine (upd_ne _ _ (by omega)).trans ?_; first | assumption | exact upd_eq _ _ _ | (refine (upd_ne _ _ (by omega)).trans ?_; first | assumption | exact upd_eq _ _ _ | (refine (upd_ne _ _ (by omega)).trans ?_; first | assumption | exact upd_eq _ _ _)))) ?_
  refine Gq_s (pc' := 6) rfl rfl rfl ?_
  refine Gq_s (pc' := 7) rfl rfl rfl ?_
  refine Gq_s (pc' := 8) rfl rfl rfl ?_
  refine Gq_get (pc' := 11) rfl rfl (by first | assumption | exact upd_eq _ _ _ | (refine (upd_ne _ _ (by omega)).trans ?_; first | assumption | exact upd_eq _ _ _ | (refine (upd_ne _ _ (by omega)).trans ?_; first | assumption | exact upd_eq _ _ _ | (refine (upd_ne _ _ (by omega)).trans ?_; first | assumption | exact upd_eq _ _ _)))) (by exact rfl) ?_
  refine Gq_callv1 (pc' := 14) (Y := xm123) (rest := [_]) (st' := [_, _]) (ce' := 0) (sl' := 0) rfl rfl rfl rfl rfl rfl rfl rfl rfl (t_all hW) rfl (by exact hW.1) ?_
  refine Gq_s (pc' := 15) rfl rfl rfl ?_
  refine Gq_s (pc' := 16) rfl rfl rfl ?_
  refine Gq_s (pc' := 17) rfl rfl rfl ?_
  refine Gq_callv (pc' := 20) (Y := xm53) (rest := [_, _]) (ce' := 0) (sl' := 0) rfl rfl rfl rfl rfl rfl rfl rfl rfl (t_opened n hR h86 (by omega) (by omega) hL L0 L1 L2 hW hlo) (by first | assumption | exact upd_eq _ _ _ | (refine (upd_ne _ _ (by omega)).trans ?_; first | assumption | exact upd_eq _ _ _ | (refine (upd_ne _ _ (by omega)).trans ?_; first | assumption | exact upd_eq _ _ _ | (refine (upd_ne _ _ (by omega)).trans ?_; first | assumption | exact upd_eq _ _ _)))) (fun v' H' n' hv => ?_)
  obtain ⟨rfl, ⟨y, rfl⟩, e1, on1, e2, e3⟩ := hv
  have hh : Hi H H' := fun o ho => e1 o (by omega)
  have hS1 := ScR_off (fun o h1 h2 => e1 o (by omega)) hS
  refine Gq_callv (pc' := 23) (Y := xm55) (rest := []) (ce' := 0) (sl' := 0) rfl rfl rfl rfl rfl rfl rfl rfl rfl (t_psearch _ (RG_hi hh (e1 87 (by omega)) hR) ((e1 86 (by omega)).trans h86) hL ((e1 90 (by omega)).trans L0) ((e1 91 (by omega)).trans L1) (WiAt_hi hh (e1 88 (by omega)) (e1 89 (by omega)) hW) hwP hS1 (zI ((2 ^ wl.length : Nat) : Int) - zI 1) y) (by exact (e1 86 (by omega)).trans h86) (fun v2 H2 n2 hv => ?_)
  obtain ⟨rfl, f1, hS2, r, rfl, hr, ch2, f2, f3, -⟩ := hv
  have hh2 : Hi H' H2 := fun o ho => f1 o (by omega)
  have hfr : ∀ o, ¬ o = 92 → (o < 96 ∨ 106 < o) → H2 o = H o := fun o h1 h2 => (f1 o h2).trans (e1 o h1)
  have g86 := (hfr 86 (by omega) (by omega)).trans h86
  have g90 := (hfr 90 (by omega) (by omega)).trans L0
  have g91 := (hfr 91 (by omega) (by omega)).trans L1
  have g92 := (f1 92 (by omega)).trans e2
  have hvs2 := RG_vs (RG_hi (Hi_trans hh hh2) (hfr 87 (by omega) (by omega)) hR)
  have hS3 := hS2
  obtain ⟨⟨tc, lv, tr, htc, ⟨rl, rs, row, lev, z0, -⟩, -⟩, -, g99, -⟩ := hS3
  have hd := cntTo_le (fun p => decide (¬ lk p = ch2 p)) 12
  have hd2 : diffs lk ch2 ≤ 12 := hd
  refine Gq_s (pc' := 24) (lv' := [(0, _), (1, _), (2, _)]) rfl rfl rfl ?_
  refine Gq_s (pc' := 25) rfl rfl rfl ?_
  refine Gq_zne (pc' := 28) (t := 45) rfl rfl rfl (by omega) (fun hb => ?_) (fun hb => ?_)
  · refine Gq_s (pc' := 46) rfl rfl rfl ?_
    exact Gq_ret rfl rfl (rfl) (⟨rfl, hfr, hS2, ⟨on1, g92, e3⟩, r, rfl, by omega, by omega⟩)
  · refine Gq_s (pc' := 29) rfl rfl rfl ?_
    refine Gq_get (pc' := 32) rfl rfl (by first | assumption | exact upd_eq _ _ _ | (refine (upd_ne _ _ (by omega)).trans ?_; first | assumption | exact upd_eq _ _ _ | (refine (upd_ne _ _ (by omega)).trans ?_; first | assumption | exact upd_eq _ _ _ | (refine (upd_ne _ _ (by omega)).trans ?_; first | assumption | exact upd_eq _ _ _)))) (by exact rfl) ?_
    refine Gq_s (pc' := 33) rfl rfl rfl ?_
    refine Gq_get (pc' := 36) rfl rfl (by first | assumption | exact upd_eq _ _ _ | (refine (upd_ne _ _ (by omega)).trans ?_; first | assumption | exact upd_eq _ _ _ | (refine (upd_ne _ _ (by omega)).trans ?_; first | assumption | exact upd_eq _ _ _ | (refine (upd_ne _ _ (by omega)).trans ?_; first | assumption | exact upd_eq _ _ _)))) (by exact rfl) ?_
    refine Gq_get (pc' := 39) rfl rfl (by first | assumption | exact upd_eq _ _ _ | (refine (upd_ne _ _ (by omega)).trans ?_; first | assumption | exact upd_eq _ _ _ | (refine (upd_ne _ _ (by omega)).trans ?_; first | assumption | exact upd_eq _ _ _ | (refine (upd_ne _ _ (by omega)).trans ?_; first | assumption | exact upd_eq _ _ _)))) (by exact rfl) ?_
    refine Gq_callv1 (pc' := 42) (Y := xm76) (rest := []) (st' := [_]) (ce' := 0) (sl' := 0) rfl rfl rfl rfl rfl rfl rfl rfl rfl (t_diff hvs2 (Own_ch hL) (Own_ch f3) (t := 90) (u := 99) g90 g91 g99 f2) rfl (by first | assumption | exact upd_eq _ _ _ | (refine (upd_ne _ _ (by omega)).trans ?_; first | assumption | exact upd_eq _ _ _ | (refine (upd_ne _ _ (by omega)).trans ?_; first | assumption | exact upd_eq _ _ _ | (refine (upd_ne _ _ (by omega)).trans ?_; first | assumption | exact upd_eq _ _ _)))) ?_
    refine Gq_goto rfl (t := 46) rfl ?_
    exact Gq_ret rfl rfl (rfl) (⟨rfl, hfr, hS2, ⟨on1, g92, e3⟩, (diffs lk ch2 : Int), rfl, by omega, by omega⟩)
end XKb
