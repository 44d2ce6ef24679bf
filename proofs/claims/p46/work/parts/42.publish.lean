/-! a version more (printed by wip/p46/gen42.py) -/
section XKm
theorem Ty_arr {H : HF} {i ti : Nat} {vs : List Value} {d : XCl} (h : H i = some (true, ti, vs)) : Ty H (hup H i d) := fun o ci fs _ _ hc => by
  rw [upd_ne]
  · exact hc
  · intro e
    rw [e, h] at hc
    cases hc
theorem Ty_cls {H : HF} {i ci0 : Nat} {vs : List Value} {d : XCl} (h : H i = some (false, ci0, vs)) (hlt : ci0 < 8) : Ty H (hup H i d) := fun o ci fs _ h8 hc => by
  rw [upd_ne]
  · exact hc
  · intro e
    rw [e, h] at hc
    cases hc
    omega
theorem Ty_new {H : HF} {n : Nat} {d : XCl} (h : Frs H n) : Ty H (hup H n d) := fun o ci fs _ _ hc => by
  have := Fr_lt h hc
  rw [upd_ne _ _ (by omega)]
  exact hc
theorem Ty_trans {H G K : HF} (h1 : Ty H G) (h2 : Ty G K) : Ty H K := fun o ci fs a b hc => h2 o ci fs a b (h1 o ci fs a b hc)
def InsI (c place : Nat) (gf gs : Nat → Option Nat) : Prop := (∀ i, c < i → gs i = gf i) ∧ ∀ i, i ≤ c → ¬ i = place → ∃ j, j < c ∧ gs i = gf j
theorem t_add_l {S : ScT} {H : HF} {n k c q : Nat} {mk sz : Int} {gf : Nat → Option Nat} (hc : c < 8) (hmk : 0 ≤ mk ∧ mk < 1000000) (h0 : H k = some (false, 3, [.ref (k + 1), .ref (k + 2), .int (zI (c : Int))])) {g0 : Nat → Option Nat} (h2 : H (k + 2) = some (true, 3, aR 8 g0)) (hv : ∀ j, j < c → ∃ o v, gf j = some o ∧ VerAt H o v) {Q : XLf → Prop} (kk : ∀ place gs, place ≤ c → InsI c place gf gs → Gw S xm93 63 [(0, .ref k), (1, .int (zI mk)), (2, .int (zI sz)), (3, .ref q), (4, .int (zI (place : Int)))] [] (hup H (k + 2) (true, 3, aR 8 gs)) n 1 8 Q) : ∀ (place : Nat) (gs : Nat → Option Nat), place ≤ c → InsI c place gf gs → Gw S xm93 20 [(0, .ref k), (1, .int (zI mk)), (2, .int (zI sz)), (3, .ref q), (4, .int (zI (place : Int)))] [] (hup H (k + 2) (true, 3, aR 8 gs)) n 1 8 Q := by
  have hne : ¬ k = k + 2 := by omega
  intro place
  induction place with
  | zero =>
    intro gs hp hI
    refine Gq_s (pc' := 22) rfl rfl rfl ?_
    refine Gq_zle (pc' := 25) (t := 63) rfl rfl rfl (by omega) (fun _ => ?_) (fun hq => absurd (by omega) hq)
    exact kk 0 gs hp hI
  | succ place ih =>
    intro gs hp hI
    obtain ⟨j, hj, hgj⟩ := hI.2 place (by omega) (by omega)
    obtain ⟨o, v, ho, hvo⟩ := hv j hj
    have hvo2 := VerAt_ty (Ty_arr (d := (true, 3, aR 8 gs)) h2) hvo
    obtain ⟨-, ⟨-, hM, -⟩, f, g, h5, -⟩ := hvo2
    refine Gq_s (pc' := 22) rfl rfl rfl ?_
    refine Gq_zle (pc' := 25) (t := 63) rfl rfl rfl (by omega) (fun hq => absurd hq (by omega)) (fun _ => ?_)
    refine Gq_s (pc' := 26) rfl rfl rfl ?_
    refine Gq_get (pc' := 29) rfl rfl (by first | assumption | exact upd_eq _ _ _ | ((repeat (refine (upd_ne _ _ (by omega)).trans ?_)); first | assumption | exact upd_eq _ _ _)) (by exact rfl) ?_
    refine Gq_s (pc' := 31) rfl rfl rfl ?_
    refine Gq_s (pc' := 32) rfl rfl rfl ?_
    refine Gq_isub (pc' := 33) rfl rfl ?_
    refine Gq_aald (pc' := 34) (j := place) rfl rfl (by first | assumption | exact upd_eq _ _ _ | ((repeat (refine (upd_ne _ _ (by omega)).trans ?_)); first | assumption | exact upd_eq _ _ _)) (by exact rfl) (by omega) (by omega) (by omega) (rv_s (hgj.trans ho)) ?_
    refine Gq_get (pc' := 37) rfl rfl (by first | assumption | exact upd_eq _ _ _ | ((repeat (refine (upd_ne _ _ (by omega)).trans ?_)); first | assumption | exact upd_eq _ _ _)) (by exact rfl) ?_
    refine Gq_s (pc' := 38) rfl rfl rfl ?_
    refine Gq_cge (pc' := 41) (t := 63) rfl rfl rfl (by omega) (by omega) (fun hb => ?_) (fun hb => ?_)
    · exact kk (place + 1) gs hp hI
    · refine Gq_s (pc' := 42) rfl rfl rfl ?_
      refine Gq_get (pc' := 45) rfl rfl (by first | assumption | exact upd_eq _ _ _ | ((repeat (refine (upd_ne _ _ (by omega)).trans ?_)); first | assumption | exact upd_eq _ _ _)) (by exact rfl) ?_
      refine Gq_s (pc' := 47) rfl rfl rfl ?_
      refine Gq_s (pc' := 48) rfl rfl rfl ?_
      refine Gq_get (pc' := 51) rfl rfl (by first | assumption | exact upd_eq _ _ _ | ((repeat (refine (upd_ne _ _ (by omega)).trans ?_)); first | assumption | exact upd_eq _ _ _)) (by exact rfl) ?_
      refine Gq_s (pc' := 53) rfl rfl rfl ?_
      refine Gq_s (pc' := 54) rfl rfl rfl ?_
      refine Gq_isub (pc' := 55) rfl rfl ?_
      refine Gq_aald (pc' := 56) (j := place) rfl rfl (by first | assumption | exact upd_eq _ _ _ | ((repeat (refine (upd_ne _ _ (by omega)).trans ?_)); first | assumption | exact upd_eq _ _ _)) (by exact rfl) (by omega) (by omega) (by omega) (rv_s (hgj.trans ho)) ?_
      refine Gq_aast (pc' := 57) (some o) rfl rfl (by first | assumption | exact upd_eq _ _ _ | ((repeat (refine (upd_ne _ _ (by omega)).trans ?_)); first | assumption | exact upd_eq _ _ _)) (by exact rfl) (fun hz => nomatch hz) (rfl) (fun z hz => by cases hz; exact ⟨_, h5⟩) (rfl) (by omega) (by omega) ?_
      refine Gq_iinc (pc' := 60) (lv' := [(0, _), (1, _), (2, _), (3, _), (4, _)]) rfl rfl rfl rfl ?_
      refine Gq_goto rfl (t := 20) rfl ?_
      rw [upd_upd, show ((place + 1 : Nat) : Int) + -1 = (place : Int) by omega]
      refine ih _ (by omega) ⟨fun i hi => by rw [fset_ne _ _ (by omega)]; exact hI.1 i hi, fun i hi hne2 => ?_⟩
      by_cases e : i = place + 1
      · subst e
        exact ⟨j, hj, by rw [fset_eq]; exact ho.symm⟩
      · rw [fset_ne _ _ e]
        exact hI.2 i hi e
theorem t_add {S : ScT} {H : HF} (n : Nat) {k c : Nat} {mk sz : Int} {vs gf : Nat → Option Nat} (hF : Frs H n) (hP : PkAt H k c vs gf) (hc : c < 8) (hmk : 0 ≤ mk ∧ mk < 1000000) (hv : ∀ j, j < c → ∃ o v, gf j = some o ∧ VerAt H o v) : Rmt S 93 [.ref k, .int (zI mk), .int (zI sz)] H n (fun v G m => v = some (.int (zI (c : Int))) ∧ m = n + 1 ∧ G k = some (false, 3, [.ref (k + 1), .ref (k + 2), .int (zI ((c + 1 : Nat) : Int))]) ∧ G (k + 1) = some (true, 3, aR 8 (fset vs c (some n))) ∧ (∃ gf2, G (k + 2) = some (true, 3, aR 8 gf2) ∧ (∀ i, c < i → gf2 i = gf i) ∧ ∀ i, i ≤ c → gf2 i = some n ∨ ∃ j, j < c ∧ gf2 i = gf j) ∧ G n = some (false, 10, [.int (zI (c : Int)), .int (zI mk), .int (zI sz), .int (zI (bI false)), .null, .int (zI ((0 : Nat) : Int)), .null, .int (zI ((0 : Nat) : Int))]) ∧ ∀ o, ¬ o = n → ¬ o = k → ¬ o = k + 1 → ¬ o = k + 2 → G o = H o) := by
  refine Rm_of (M := xm93) (lv := [(0, _), (1, _), (2, _)]) rfl rfl rfl ?_
  obtain ⟨hk9, hc8, h0, h1, h2⟩ := hP
  have hn2 := Fr_lt hF h2
  refine Gq_new (pc' := 3) rfl rfl rfl rfl (by decide) (by decide) ?_
  refine Gq_s (pc' := 4) rfl rfl rfl ?_
  refine Gq_s (pc' := 5) rfl rfl rfl ?_
  refine Gq_get (pc' := 8) rfl rfl (by first | assumption | exact upd_eq _ _ _ | ((repeat (refine (upd_ne _ _ (by omega)).trans ?_)); first | assumption | exact upd_eq _ _ _)) (by exact rfl) ?_
  refine Gq_s (pc' := 9) rfl rfl rfl ?_
  refine Gq_s (pc' := 10) rfl rfl rfl ?_
  refine Gq_calls1 (pc' := 13) (Y := xm117) (rest := [_]) (st' := [_]) (ce' := 1) (sl' := 8) rfl rfl rfl rfl rfl rfl rfl rfl rfl rfl (t_verC (n + 1) (upd_eq _ _ _)) rfl ?_
  rw [upd_upd]
  refine Gq_s (pc' := 14) (lv' := [(0, _), (1, _), (2, _), (3, _)]) rfl rfl rfl ?_
  refine Gq_s (pc' := 15) rfl rfl rfl ?_
  refine Gq_get (pc' := 18) rfl rfl (by first | assumption | exact upd_eq _ _ _ | ((repeat (refine (upd_ne _ _ (by omega)).trans ?_)); first | assumption | exact upd_eq _ _ _)) (by exact rfl) ?_
  refine Gq_s (pc' := 20) (lv' := [(0, _), (1, _), (2, _), (3, _), (4, _)]) rfl rfl rfl ?_
  show Gw S xm93 20 [(0, .ref k), (1, .int (zI mk)), (2, .int (zI sz)), (3, .ref n), (4, .int (zI (c : Int)))] [] (hup H n (false, 10, [.int (zI (c : Int)), .int (zI mk), .int (zI sz), .int (zI (bI false)), .null, .int (zI ((0 : Nat) : Int)), .null, .int (zI ((0 : Nat) : Int))])) (n + 1) 1 8 _
  have fr : ∀ o, ¬ o = n → (hup H n (false, 10, [.int (zI (c : Int)), .int (zI mk), .int (zI sz), .int (zI (bI false)), .null, .int (zI ((0 : Nat) : Int)), .null, .int (zI ((0 : Nat) : Int))])) o = H o := fun o h => upd_ne _ _ h
  have gn : (hup H n (false, 10, [.int (zI (c : Int)), .int (zI mk), .int (zI sz), .int (zI (bI false)), .null, .int (zI ((0 : Nat) : Int)), .null, .int (zI ((0 : Nat) : Int))])) n = some (false, 10, [.int (zI (c : Int)), .int (zI mk), .int (zI sz), .int (zI (bI false)), .null, .int (zI ((0 : Nat) : Int)), .null, .int (zI ((0 : Nat) : Int))]) := upd_eq _ _ _
  have hT : Ty H (hup H n (false, 10, [.int (zI (c : Int)), .int (zI mk), .int (zI sz), .int (zI (bI false)), .null, .int (zI ((0 : Nat) : Int)), .null, .int (zI ((0 : Nat) : Int))])) := Ty_new hF
  generalize (hup H n (false, 10, [.int (zI (c : Int)), .int (zI mk), .int (zI sz), .int (zI (bI false)), .null, .int (zI ((0 : Nat) : Int)), .null, .int (zI ((0 : Nat) : Int))])) = H1 at fr gn hT
  have g0 := (fr k (by omega)).trans h0
  have g1 := (fr (k + 1) (by omega)).trans h1
  have g2 := (fr (k + 2) (by omega)).trans h2
  have hst : Gw S xm93 20 [(0, .ref k), (1, .int (zI mk)), (2, .int (zI sz)), (3, .ref n), (4, .int (zI (c : Int)))] [] (hup H1 (k + 2) (true, 3, aR 8 gf)) (n + 1) 1 8 (MQe xm93 (fun v G m => v = some (.int (zI (c : Int))) ∧ m = n + 1 ∧ G k = some (false, 3, [.ref (k + 1), .ref (k + 2), .int (zI ((c + 1 : Nat) : Int))]) ∧ G (k + 1) = some (true, 3, aR 8 (fset vs c (some n))) ∧ (∃ gf2, G (k + 2) = some (true, 3, aR 8 gf2) ∧ (∀ i, c < i → gf2 i = gf i) ∧ ∀ i, i ≤ c → gf2 i = some n ∨ ∃ j, j < c ∧ gf2 i = gf j) ∧ G n = some (false, 10, [.int (zI (c : Int)), .int (zI mk), .int (zI sz), .int (zI (bI false)), .null, .int (zI ((0 : Nat) : Int)), .null, .int (zI ((0 : Nat) : Int))]) ∧ ∀ o, ¬ o = n → ¬ o = k → ¬ o = k + 1 → ¬ o = k + 2 → G o = H o)) := by
    refine t_add_l hc hmk g0 g2 (fun j hj => ?_) (fun place gs hp hI => ?_) c gf (Nat.le_refl c) ⟨fun i _ => rfl, fun i hi hne => ⟨i, by omega, rfl⟩⟩
    · obtain ⟨o, v, a, b⟩ := hv j hj
      exact ⟨o, v, a, VerAt_ty hT b⟩
    · refine Gq_s (pc' := 64) rfl rfl rfl ?_
      refine Gq_get (pc' := 67) rfl rfl (by first | assumption | exact upd_eq _ _ _ | ((repeat (refine (upd_ne _ _ (by omega)).trans ?_)); first | assumption | exact upd_eq _ _ _)) (by exact rfl) ?_
      refine Gq_s (pc' := 69) rfl rfl rfl ?_
      refine Gq_s (pc' := 70) rfl rfl rfl ?_
      refine Gq_aast (pc' := 71) (some n) rfl rfl (by first | assumption | exact upd_eq _ _ _ | ((repeat (refine (upd_ne _ _ (by omega)).trans ?_)); first | assumption | exact upd_eq _ _ _)) (by exact rfl) (fun hz => nomatch hz) (rfl) (fun z hz => by cases hz; exact ⟨_, by rw [upd_ne _ _ (by omega)]; exact gn⟩) (rfl) (by omega) (by omega) ?_
      refine Gq_s (pc' := 72) rfl rfl rfl ?_
      refine Gq_get (pc' := 75) rfl rfl (by first | assumption | exact upd_eq _ _ _ | ((repeat (refine (upd_ne _ _ (by omega)).trans ?_)); first | assumption | exact upd_eq _ _ _)) (by exact rfl) ?_
      refine Gq_s (pc' := 76) rfl rfl rfl ?_
      refine Gq_get (pc' := 79) rfl rfl (by first | assumption | exact upd_eq _ _ _ | ((repeat (refine (upd_ne _ _ (by omega)).trans ?_)); first | assumption | exact upd_eq _ _ _)) (by exact rfl) ?_
      refine Gq_s (pc' := 80) rfl rfl rfl ?_
      refine Gq_aast (pc' := 81) (some n) rfl rfl (by first | assumption | exact upd_eq _ _ _ | ((repeat (refine (upd_ne _ _ (by omega)).trans ?_)); first | assumption | exact upd_eq _ _ _)) (by exact rfl) (fun hz => nomatch hz) (rfl) (fun z hz => by cases hz; exact ⟨_, by rw [upd_ne _ _ (by omega), upd_ne _ _ (by omega)]; exact gn⟩) (rfl) (by omega) (by omega) ?_
      refine Gq_s (pc' := 82) rfl rfl rfl ?_
      refine Gq_s (pc' := 83) rfl rfl rfl ?_
      refine Gq_get (pc' := 86) rfl rfl (by first | assumption | exact upd_eq _ _ _ | ((repeat (refine (upd_ne _ _ (by omega)).trans ?_)); first | assumption | exact upd_eq _ _ _)) (by exact rfl) ?_
      refine Gq_s (pc' := 87) rfl rfl rfl ?_
      refine Gq_iadd (pc' := 88) rfl rfl ?_
      refine Gq_put (pc' := 91) (fs' := [_, _, _]) rfl rfl (by first | assumption | exact upd_eq _ _ _ | ((repeat (refine (upd_ne _ _ (by omega)).trans ?_)); first | assumption | exact upd_eq _ _ _)) (by exact rfl) (by first | rfl | exact xfit_bI _) (by exact rfl) ?_
      refine Gq_s (pc' := 92) rfl rfl rfl ?_
      refine Gq_get (pc' := 95) rfl rfl (by first | assumption | exact upd_eq _ _ _ | ((repeat (refine (upd_ne _ _ (by omega)).trans ?_)); first | assumption | exact upd_eq _ _ _)) (by exact rfl) ?_
      refine Gq_ret rfl rfl rfl ⟨rfl, rfl, upd_eq _ _ _, by rw [upd_ne _ _ (by omega)]; exact upd_eq _ _ _, ⟨fset gs place (some n), ?_, fun i hi => by rw [fset_ne _ _ (by omega)]; exact hI.1 i hi, fun i hi => ?_⟩, ?_, fun o a b d e => ?_⟩
      · rw [upd_ne _ _ (by omega), upd_ne _ _ (by omega)]; exact upd_eq _ _ _
      · by_cases e : i = place
        · subst e
          exact .inl (fset_eq _ _ _)
        · rw [fset_ne _ _ e]
          exact .inr (hI.2 i hi e)
      · rw [upd_ne _ _ (by omega), upd_ne _ _ (by omega), upd_ne _ _ (by omega), upd_ne _ _ (by omega)]; exact gn
      · rw [upd_ne _ _ b, upd_ne _ _ d, upd_ne _ _ e, upd_ne _ _ e]; exact fr o a
  rwa [upd_self g2] at hst
theorem q_publish {S : ScT} {H : HF} (n : Nat) {P : Nat} {pid cnt : Nat → Nat} {vd gr : Nat → Nat → Nat} {vr : Nat → VR} {wl : List CR} {lk dk : Nat → Option Nat} {th : Bool} {pc pd : Nat} {kd : Nat → Int} {pp : Nat → Nat} {pb : Nat → Option Nat} {cl : List Nat} {cr dr lt fc : Int} (hA : AllB H P pid cnt vd gr vr wl lk dk th pc pd kd pp pb cl cr dr lt fc) {tg : Nat → Nat} (hX : RX H P pid cnt vd vr tg) {p : Nat} (hp : p < P) {a b c sz : Int} (ha : nmOK a) (hb : nmOK b) (hc : nmOK c) (hsz : 1 ≤ sz ∧ sz ≤ 999) (hcp : cnt p < 8) (hno : ∀ i, i < cnt p → ¬ vM (vr (vd p i)) = mkM a b c) : Rmt S 2 [.ref 86, .int (zI (p : Int)), .int (zI a), .int (zI b), .int (zI c), .int (zI sz)] H n (fun v G m => v = some (.int (zI (cnt p : Int))) ∧ m = n + 1 ∧ (∃ gr2, AllB G P pid (fset cnt p (cnt p + 1)) (fun q i => if q = p ∧ i = cnt p then n else vd q i) gr2 (fset vr n (cnt p, mkM a b c, sz, false, [], [])) wl lk dk th pc pd kd pp pb cl cr dr lt fc) ∧ RX G P pid (fset cnt p (cnt p + 1)) (fun q i => if q = p ∧ i = cnt p then n else vd q i) (fset vr n (cnt p, mkM a b c, sz, false, [], [])) tg ∧ LF H G) := by
  refine Rm_fr (fun hF => ?_)
  refine Rm_of (M := xm2) (lv := [(0, _), (1, _), (2, _), (3, _), (4, _), (5, _)]) rfl rfl rfl ?_
  obtain ⟨hR, h86, ⟨hW, hwP⟩, -⟩ := id hA
  have hP12 := hR.1
  have hpk := hR.2.2.1 p hp
  have hpid := pid_lt hR hF hp
  unfold nmOK at ha hb hc
  have hmk : 0 ≤ mkM a b c ∧ mkM a b c < 1000000 := by unfold mkM; omega
  obtain ⟨hk9, hc8, p0, p1, p2⟩ := id hpk
  have hgf : ∀ j, j < cnt p → ∃ o v, (if j < cnt p then some (gr p j) else none) = some o ∧ VerAt H o v := fun j hj => by
    obtain ⟨i, hi, he⟩ := hR.2.2.2.2.1 p j hp hj
    exact ⟨_, _, if_pos hj, by rw [he]; exact (hR.2.2.2.1 p i hp hi).1⟩
  refine Gq_s (pc' := 1) rfl rfl rfl ?_
  refine Gq_s (pc' := 2) rfl rfl rfl ?_
  refine Gq_callv1 (pc' := 5) (Y := xm43) (rest := []) (st' := [_]) (ce' := 0) (sl' := 0) rfl rfl rfl rfl rfl rfl rfl rfl rfl (t_pti n hR h86 hp) rfl (by first | assumption | exact upd_eq _ _ _ | ((repeat (refine (upd_ne _ _ (by omega)).trans ?_)); first | assumption | exact upd_eq _ _ _)) ?_
  refine Gq_s (pc' := 7) (lv' := [(0, _), (1, _), (2, _), (3, _), (4, _), (5, _), (6, _)]) rfl rfl rfl ?_
  refine Gq_s (pc' := 8) rfl rfl rfl ?_
  refine Gq_s (pc' := 9) rfl rfl rfl ?_
  refine Gq_s (pc' := 11) rfl rfl rfl ?_
  refine Gq_calls1 (pc' := 14) (Y := xm46) (rest := []) (st' := []) (ce' := 0) (sl' := 0) rfl rfl rfl rfl rfl rfl rfl rfl rfl rfl (t_reqNum H n ha hb hc) rfl ?_
  refine Gq_s (pc' := 16) rfl rfl rfl ?_
  refine Gq_s (pc' := 17) rfl rfl rfl ?_
  refine Gq_clt (pc' := 20) (t := 28) rfl rfl rfl (by omega) (by omega) (fun hq => absurd hq (by omega)) (fun _ => ?_)
  refine Gq_s (pc' := 22) rfl rfl rfl ?_
  refine Gq_sipush (pc' := 25) rfl rfl (by decide) ?_
  refine Gq_cle (pc' := 28) (t := 38) rfl rfl rfl (by omega) (by omega) (fun _ => ?_) (fun hq => absurd (by omega) hq)
  refine Gq_s (pc' := 39) rfl rfl rfl ?_
  refine Gq_s (pc' := 40) rfl rfl rfl ?_
  refine Gq_s (pc' := 42) rfl rfl rfl ?_
  refine Gq_calls1 (pc' := 45) (Y := xm58) (rest := []) (st' := [_]) (ce' := 0) (sl' := 0) rfl rfl rfl rfl rfl rfl rfl rfl rfl rfl (t_markOf H n a b c) rfl ?_
  refine Gq_s (pc' := 47) (lv' := [(0, _), (1, _), (2, _), (3, _), (4, _), (5, _), (6, _), (7, _)]) rfl rfl rfl ?_
  refine Gq_s (pc' := 49) rfl rfl rfl ?_
  refine Gq_get (pc' := 52) rfl rfl (by first | assumption | exact upd_eq _ _ _ | ((repeat (refine (upd_ne _ _ (by omega)).trans ?_)); first | assumption | exact upd_eq _ _ _)) (by exact rfl) ?_
  refine Gq_bipush (pc' := 54) rfl rfl (by decide) ?_
  refine Gq_cge (pc' := 57) (t := 67) rfl rfl rfl (by omega) (by omega) (fun hq => absurd hq (by omega)) (fun _ => ?_)
  refine Gq_s (pc' := 59) rfl rfl rfl ?_
  refine Gq_s (pc' := 61) rfl rfl rfl ?_
  refine Gq_callv1 (pc' := 64) (Y := xm92) (rest := []) (st' := [_]) (ce' := 0) (sl' := 0) rfl rfl rfl rfl rfl rfl rfl rfl rfl (t_hasMark n hR h86 hp hmk hno) rfl (by first | assumption | exact upd_eq _ _ _ | ((repeat (refine (upd_ne _ _ (by omega)).trans ?_)); first | assumption | exact upd_eq _ _ _)) ?_
  refine Gq_zeq (pc' := 67) (t := 77) rfl rfl rfl (by decide) (fun _ => ?_) (fun hq => absurd (rfl) hq)
  refine Gq_s (pc' := 79) rfl rfl rfl ?_
  refine Gq_s (pc' := 81) rfl rfl rfl ?_
  refine Gq_s (pc' := 83) rfl rfl rfl ?_
  refine Gq_callv (pc' := 86) (Y := xm93) (rest := []) (ce' := 1) (sl' := 8) rfl rfl rfl rfl rfl rfl rfl rfl rfl (t_add n hF hpk hcp hmk hgf) (by first | assumption | exact upd_eq _ _ _ | ((repeat (refine (upd_ne _ _ (by omega)).trans ?_)); first | assumption | exact upd_eq _ _ _)) (fun v2 G m2 hv => ?_)
  obtain ⟨rfl, rfl, g0, g1, ⟨gf2, g2, i1, i2⟩, gn, fr⟩ := hv
  have hTy : Ty H G := fun o ci fs _ h8 hcl => by
    have hon := Fr_lt hF hcl
    rw [fr o (by omega) (fun e => by rw [e, p0] at hcl; cases hcl; omega) (fun e => by rw [e, p1] at hcl; cases hcl) (fun e => by rw [e, p2] at hcl; cases hcl)]
    exact hcl
  have hlow : ∀ o, o < 119 → G o = H o := fun o ho => fr o (by omega) (by omega) (by omega) (by omega)
  have hpidne : ∀ q, q < P → ¬ q = p → pid q + 2 < pid p ∨ pid p + 2 < pid q := fun q hq hne => by
    rcases Nat.lt_or_gt_of_ne hne with h | h
    · exact .inl (hX.1 q p h hp)
    · exact .inr (hX.1 p q h hq)
  have hvn : ∀ q i, q < P → i < cnt q → ¬ vd q i = n ∧ ¬ (q = p ∧ i = cnt p) := fun q i hq hi => ⟨by have := (vd_lt hR hF hq hi).2; omega, fun e => by obtain ⟨rfl, rfl⟩ := e; omega⟩
  have spl : ∀ q i, q < P → i < (fset cnt p (cnt p + 1)) q → (q = p ∧ i = cnt p) ∨ i < cnt q := fun q i hq hi => by
    by_cases e : q = p
    · subst e
      rw [fset_eq] at hi
      by_cases e2 : i = cnt q
      · exact .inl ⟨rfl, e2⟩
      · exact .inr (by omega)
    · rw [fset_ne _ _ e] at hi
      exact .inr hi
  have vdn : (if p = p ∧ cnt p = cnt p then n else vd p (cnt p)) = n := if_pos ⟨rfl, rfl⟩
  have vdo : ∀ q i, q < P → i < cnt q → (if q = p ∧ i = cnt p then n else vd q i) = vd q i := fun q i hq hi => if_neg (hvn q i hq hi).2
  have vro : ∀ q i, q < P → i < cnt q → (fset vr n (cnt p, mkM a b c, sz, false, [], [])) (vd q i) = vr (vd q i) := fun q i hq hi => fset_ne _ _ (hvn q i hq hi).1
  have hR2 : RG G P pid (fset cnt p (cnt p + 1)) (fun q i => if q = p ∧ i = cnt p then n else vd q i) (fun q i => if q = p then (gf2 i).getD 0 else gr q i) (fset vr n (cnt p, mkM a b c, sz, false, [], [])) := by
    obtain ⟨h1, h2, h3, h4, h5, h6, h7⟩ := hR
    refine ⟨h1, (hlow 87 (by omega)).trans h2, fun q hq => ?_, fun q i hq hi => ?_, fun q i hq hi => ?_, fun q i r j hq hi hr hj he => ?_, fun q i hq hi => ?_⟩
    · by_cases e : q = p
      · subst e
        rw [fset_eq]
        refine ⟨hk9, by omega, g0, ?_, ?_⟩
        · rw [g1]
          refine congrArg (fun z => some (true, 3, z)) (aX_ext fun j _ => congrArg rvl ?_)
          show fset (fun i => if i < cnt q then some (vd q i) else none) (cnt q) (some n) j = (if j < cnt q + 1 then some (if q = q ∧ j = cnt q then n else vd q j) else none)
          by_cases e2 : j = cnt q
          · subst e2
            rw [fset_eq, if_pos (by omega), if_pos ⟨rfl, rfl⟩]
          · rw [fset_ne _ _ e2]
            by_cases e3 : j < cnt q
            · rw [if_pos e3, if_pos (show j < cnt q + 1 by omega), if_neg (fun z : q = q ∧ j = cnt q => e2 z.2)]
            · rw [if_neg e3, if_neg (show ¬ j < cnt q + 1 by omega)]
        · rw [g2]
          refine congrArg (fun z => some (true, 3, z)) (aX_ext fun j _ => congrArg rvl ?_)
          show gf2 j = (if j < cnt q + 1 then some (if q = q then (gf2 j).getD 0 else gr q j) else none)
          rw [if_pos rfl]
          by_cases e2 : j < cnt q + 1
          · rw [if_pos e2]
            rcases i2 j (by omega) with h | ⟨j2, hj2, h⟩
            · rw [h]; rfl
            · rw [h, if_pos hj2]; rfl
          · rw [if_neg e2, i1 j (by omega), if_neg (by omega)]
      · rw [fset_ne _ _ e]
        obtain ⟨x1, x2, x3, x4, x5⟩ := h3 q hq
        have hq2 := hpidne q hq e
        have hqn := Fr_lt hF x5
        refine ⟨x1, x2, (fr _ (by omega) (by omega) (by omega) (by omega)).trans x3, ?_, ?_⟩
        · rw [fr _ (by omega) (by omega) (by omega) (by omega), x4]
          refine congrArg (fun z => some (true, 3, z)) (aX_ext fun j _ => congrArg rvl ?_)
          show (if j < cnt q then some (vd q j) else none) = (if j < cnt q then some (if q = p ∧ j = cnt p then n else vd q j) else none)
          rw [if_neg (fun z : q = p ∧ j = cnt p => e z.1)]
        · rw [fr _ (by omega) (by omega) (by omega) (by omega), x5]
          refine congrArg (fun z => some (true, 3, z)) (aX_ext fun j _ => congrArg rvl ?_)
          show (if j < cnt q then some (gr q j) else none) = (if j < cnt q then some (if q = p then (gf2 j).getD 0 else gr q j) else none)
          rw [if_neg e]
    · rcases spl q i hq hi with ⟨rfl, rfl⟩ | hi2
      · show VerAt G (if q = q ∧ cnt q = cnt q then n else vd q (cnt q)) ((fset vr n (cnt q, mkM a b c, sz, false, [], [])) (if q = q ∧ cnt q = cnt q then n else vd q (cnt q))) ∧ vN ((fset vr n (cnt q, mkM a b c, sz, false, [], [])) (if q = q ∧ cnt q = cnt q then n else vd q (cnt q))) = cnt q
        rw [if_pos ⟨rfl, rfl⟩, fset_eq]
        exact ⟨⟨by omega, ⟨by show cnt q < 8; omega, hmk, hsz⟩, none, none, gn, rfl, rfl⟩, rfl⟩
      · show VerAt G (if q = p ∧ i = cnt p then n else vd q i) ((fset vr n (cnt p, mkM a b c, sz, false, [], [])) (if q = p ∧ i = cnt p then n else vd q i)) ∧ vN ((fset vr n (cnt p, mkM a b c, sz, false, [], [])) (if q = p ∧ i = cnt p then n else vd q i)) = i
        rw [vdo q i hq hi2, vro q i hq hi2]
        exact ⟨VerAt_ty hTy (h4 q i hq hi2).1, (h4 q i hq hi2).2⟩
    · by_cases e : q = p
      · subst e
        rw [fset_eq] at hi ⊢
        show ∃ j, j < cnt q + 1 ∧ (if q = q then (gf2 i).getD 0 else gr q i) = (if q = q ∧ j = cnt q then n else vd q j)
        rw [if_pos rfl]
        rcases i2 i (by omega) with h | ⟨j2, hj2, h⟩
        · exact ⟨cnt q, by omega, by rw [h, if_pos ⟨rfl, rfl⟩]; rfl⟩
        · rw [if_pos hj2] at h
          obtain ⟨j3, hj3, h9⟩ := h5 q j2 hq hj2
          exact ⟨j3, by omega, by rw [h, if_neg (fun z => by have := z.2; omega), ← h9]; rfl⟩
      · rw [fset_ne _ _ e] at hi ⊢
        obtain ⟨j3, hj3, h9⟩ := h5 q i hq hi
        refine ⟨j3, hj3, ?_⟩
        show (if q = p then (gf2 i).getD 0 else gr q i) = (if q = p ∧ j3 = cnt p then n else vd q j3)
        rw [if_neg e, if_neg (fun z => e z.1), h9]
    · have he : (if q = p ∧ i = cnt p then n else vd q i) = (if r = p ∧ j = cnt p then n else vd r j) := he
      rcases spl q i hq hi with ⟨rfl, rfl⟩ | hi2
      · rw [if_pos ⟨rfl, rfl⟩] at he
        rcases spl r j hr hj with ⟨rfl, rfl⟩ | hj2
        · exact ⟨rfl, rfl⟩
        · rw [vdo r j hr hj2] at he
          exact absurd he.symm (hvn r j hr hj2).1
      · rw [vdo q i hq hi2] at he
        rcases spl r j hr hj with ⟨rfl, rfl⟩ | hj2
        · rw [if_pos ⟨rfl, rfl⟩] at he
          exact absurd he (hvn q i hq hi2).1
        · rw [vdo r j hr hj2] at he
          exact h6 q i r j hq hi2 hr hj2 he
    · rcases spl q i hq hi with ⟨rfl, rfl⟩ | hi2
      · show ∀ c0 ∈ vQ ((fset vr n (cnt q, mkM a b c, sz, false, [], [])) (if q = q ∧ cnt q = cnt q then n else vd q (cnt q))), cT c0 < P
        rw [if_pos ⟨rfl, rfl⟩, fset_eq]
        exact fun c0 hc0 => by cases hc0
      · show ∀ c0 ∈ vQ ((fset vr n (cnt p, mkM a b c, sz, false, [], [])) (if q = p ∧ i = cnt p then n else vd q i)), cT c0 < P
        rw [vdo q i hq hi2, vro q i hq hi2]
        exact h7 q i hq hi2
  refine Gq_ret rfl rfl rfl ⟨rfl, rfl, ⟨_, All_reg hA (fun o c0 _ h2 hc0 => by rw [hlow o h2]; exact hc0) ((hlow 86 (by omega)).trans h86) hR2 (Nat.le_refl P) (WiAt_ge (fun o c0 _ h2 hc0 => by rw [hlow o h2]; exact hc0) hTy (by omega) hW) (fun q o ⟨h1, i, h2, h3⟩ => ⟨h1, i, ?_, ?_⟩) (fun q ⟨r, h1, i, h2, h3⟩ => by rw [h3, vro r i h1 h2])⟩, ⟨hX.1, fun q i hq hi => ?_⟩, fun o ho => hlow o (by omega), fun o vs ho hcl => ?_⟩
  · by_cases e : q = p
    · subst e; rw [fset_eq]; omega
    · rw [fset_ne _ _ e]; exact h2
  · rw [h3]
    exact (vdo q i h1 h2).symm
  · rcases spl q i hq hi with ⟨rfl, rfl⟩ | hi2
    · show SepV G tg (if q = q ∧ cnt q = cnt q then n else vd q (cnt q)) ((fset vr n (cnt q, mkM a b c, sz, false, [], [])) (if q = q ∧ cnt q = cnt q then n else vd q (cnt q)))
      rw [if_pos ⟨rfl, rfl⟩, fset_eq]
      exact ⟨none, none, _, _, _, _, _, _, gn, trivial, trivial⟩
    · show SepV G tg (if q = p ∧ i = cnt p then n else vd q i) ((fset vr n (cnt p, mkM a b c, sz, false, [], [])) (if q = p ∧ i = cnt p then n else vd q i))
      rw [vdo q i hq hi2, vro q i hq hi2]
      obtain ⟨f, g, a0, a1, a2, a3, a5, a7, e1, e2, e3⟩ := hX.2 q i hq hi2
      have h119 := (vd_lt hR hF hq hi2).1
      have h8 : ∀ o fs, H o = some (false, 8, fs) → G o = some (false, 8, fs) := fun o fs hcl => by
        have hon := Fr_lt hF hcl
        rw [fr o (by omega) (fun e => by rw [e, p0] at hcl; cases hcl) (fun e => by rw [e, p1] at hcl; cases hcl) (fun e => by rw [e, p2] at hcl; cases hcl)]
        exact hcl
      exact ⟨f, g, a0, a1, a2, a3, a5, a7, hTy _ 10 _ h119 (by omega) e1, CnT_ty (fun o fs h1 h2 => ⟨h8 o fs h2, h1⟩) e2, CnT_ty (fun o fs h1 h2 => ⟨h8 o fs h2, h1⟩) e3⟩
  · have hon := Fr_lt hF hcl
    rw [fr o (by omega) (fun e => by rw [e, p0] at hcl; cases hcl) (fun e => by rw [e, p1] at hcl; cases hcl) (fun e => by rw [e, p2] at hcl; cases hcl)]
    exact hcl
end XKm
