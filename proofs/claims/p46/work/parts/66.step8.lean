/-! the law's step: the plan is done (printed by wip/p46/gen66.py) -/
section XKO
theorem sum_lb {vr : Nat → VR} {lk : Nat → Option Nat} {P : Nat} (h : ∀ p, p < P → 0 ≤ szOf vr (lk p) ∧ szOf vr (lk p) ≤ 300) : ∀ j, j ≤ P → 0 ≤ sumTo (fun p => szOf vr (lk p))  j ∧ sumTo (fun p => szOf vr (lk p))  j ≤ 300 * j
  | 0, _ => ⟨Int.le_refl _, by show (0 : Int) ≤ _; omega⟩
  | j + 1, hj => by
    have h1 := sum_lb h j (by omega)
    have h2 := h j (by omega)
    show 0 ≤ sumTo (fun p => szOf vr (lk p))  j + szOf vr (lk j) ∧ sumTo (fun p => szOf vr (lk p))  j + szOf vr (lk j) ≤ _
    omega
set_option maxRecDepth 20000 in
theorem t_lw_s {L : Nat} {ys : Nat → Int32} (hLs : L ≤ 100000) {H : HF} {q d P : Nat} {cnt : Nat → Nat} {siz : Nat → Nat → Int} {wdr : Nat → Nat → Bool} {num : Nat → Nat → Nat → Int} {nd kd : Nat → Nat → List NR} {ws : List NR} {nid qid kid : Nat → Nat → Nat} {wid : Nat → Nat} {pid : Nat → Nat} {vd gr : Nat → Nat → Nat} {vr : Nat → VR} {wl : List CR} {lk dk : Nat → Option Nat} {th : Bool} {pc pd : Nat} {kx : Nat → Int} {pp : Nat → Nat} {pb : Nat → Option Nat} {cl : List Nat} {cr dr lt fc : Int} {tg : Nat → Nat} {t1 : Int32} {s : Nat} {Q : XLf → Prop} (hQ : NoL2 Q) {x y n ce sl : Nat} {tk t14 : Int32} (hB : WB H q d P cnt siz wdr num nd kd ws nid qid kid wid pid vd gr vr wl lk dk th pc pd kx pp pb cl cr dr lt fc tg) (h1 : H x = some (true, 0, aI 6 (lkI P vr lk))) (kk : Gw (some (L, ys)) xLaw 708 [(0, .retAddr q), (1, .int t1), (2, .ref 0), (3, .ref 86), (4, .int (zI cr)), (5, .int (zI (s : Int))), (9, .ref x), (12, .int tk), (13, .ref y), (14, .int t14), (18, .int (zI (sumTo (fun p => szOf vr (lk p)) P))), (19, .int (zI (P : Int)))] [] H n ce sl Q) : ∀ (k j : Nat), j + k = P → Gw (some (L, ys)) xLaw 663 [(0, .retAddr q), (1, .int t1), (2, .ref 0), (3, .ref 86), (4, .int (zI cr)), (5, .int (zI (s : Int))), (9, .ref x), (12, .int tk), (13, .ref y), (14, .int t14), (18, .int (zI (sumTo (fun p => szOf vr (lk p)) j))), (19, .int (zI (j : Int)))] [] H n ce sl Q := by
  obtain ⟨hw, hN, hL, -, hR⟩ := b_ok hB
  obtain ⟨⟨hP2, hP6⟩, hcrb, -⟩ := b_P hB
  have hK9 := hB.2.2.2.1
  have hsz := sum_lb (vr := vr) (lk := lk) (P := P) (fun p hp => by
    rcases lk_num hR hK9 hL hp with h | ⟨jj, -, -, h⟩ <;> omega)
  have h0 := hB.1.1
  intro k
  induction k with
  | zero =>
    intro j hk
    obtain rfl : j = P := by omega
    refine Gq_s (pc' := 665) rfl rfl rfl ?_
    refine Gq_s (pc' := 666) rfl rfl rfl ?_
    refine Gq_get (pc' := 669) rfl rfl (by first | assumption | exact upd_eq _ _ _ | ((repeat (refine (upd_ne _ _ (by omega)).trans ?_)); first | assumption | exact upd_eq _ _ _)) (by exact rfl) ?_
    refine Gq_cge (pc' := 672) (t := 708) rfl rfl rfl (by omega) (by omega) (fun _ => ?_) (fun hq => absurd (by omega) hq)
    exact kk
  | succ k ih =>
    intro j hk
    have hj : j < P := by omega
    have hb := hsz j (by omega)
    obtain ⟨hLw, hA, hX, hK, hFit⟩ := id hB
    obtain ⟨h0, hc1, ⟨hm0, hm1⟩, ⟨hz0, hz1⟩, ⟨hi0, hi1⟩, ⟨hq0, hq1⟩, ⟨hk0, hk1⟩, hws, hnd, hqd, hkd, hwd⟩ := id hLw
    obtain ⟨⟨hP2, hP6⟩, hcnt, hvr, ⟨hwl, hwn, hwr⟩, hkk, hnm, hsz⟩ := id hK
    have k1 := hz1 j (by omega)
    have e3 : lkI P vr lk j = nmOf vr (lk j) := by
      unfold lkI
      rw [if_pos hj]
    refine Gq_s (pc' := 665) rfl rfl rfl ?_
    refine Gq_s (pc' := 666) rfl rfl rfl ?_
    refine Gq_get (pc' := 669) rfl rfl (by first | assumption | exact upd_eq _ _ _ | ((repeat (refine (upd_ne _ _ (by omega)).trans ?_)); first | assumption | exact upd_eq _ _ _)) (by exact rfl) ?_
    refine Gq_cge (pc' := 672) (t := 708) rfl rfl rfl (by omega) (by omega) (fun hq => absurd hq (by omega)) (fun _ => ?_)
    refine Gq_s (pc' := 674) rfl rfl rfl ?_
    refine Gq_s (pc' := 676) rfl rfl rfl ?_
    refine Gq_s (pc' := 678) rfl rfl rfl ?_
    refine Gq_iald (pc' := 679) (j := j) rfl rfl (by first | assumption | exact upd_eq _ _ _ | ((repeat (refine (upd_ne _ _ (by omega)).trans ?_)); first | assumption | exact upd_eq _ _ _)) (rfl) (by omega) (by omega) ?_
    rw [e3]
    rcases lk_num hR hK9 hL hj with ⟨e, e2⟩ | ⟨jj, hjj, e, e2, e4⟩
    · rw [e]
      refine Gq_zge (pc' := 682) (t := 686) rfl rfl rfl (by decide) (fun hq => absurd hq (by decide)) (fun _ => ?_)
      refine Gq_s (pc' := 683) rfl rfl rfl ?_
      refine Gq_goto rfl (t := 699) rfl ?_
      refine Gq_iadd (pc' := 700) rfl rfl ?_
      refine Gq_s (pc' := 702) (lv' := [(0, _), (1, _), (2, _), (3, _), (4, _), (5, _), (9, _), (12, _), (13, _), (14, _), (18, _), (19, _)]) rfl rfl rfl ?_
      refine Gq_iinc (pc' := 705) (lv' := [(0, _), (1, _), (2, _), (3, _), (4, _), (5, _), (9, _), (12, _), (13, _), (14, _), (18, _), (19, _)]) rfl rfl rfl rfl ?_
      refine Gq_goto rfl (t := 663) rfl ?_
      have e9 : sumTo (fun p => szOf vr (lk p)) j + szOf vr (lk j) = sumTo (fun p => szOf vr (lk p)) (j + 1) := rfl
      rw [e2] at e9
      rw [e9]
      exact ih (j + 1) (by omega)
    · have hc4 := hcnt j hj
      have e5 : lkI P vr lk j = (jj : Int) := e3.trans e
      rw [e]
      refine Gq_zge (pc' := 682) (t := 686) rfl rfl rfl (by omega) (fun _ => ?_) (fun hq => absurd (by omega) hq)
      refine Gq_s (pc' := 687) rfl rfl rfl ?_
      refine Gq_get (pc' := 690) rfl rfl (by first | assumption | exact upd_eq _ _ _ | ((repeat (refine (upd_ne _ _ (by omega)).trans ?_)); first | assumption | exact upd_eq _ _ _)) (by exact rfl) ?_
      refine Gq_s (pc' := 692) rfl rfl rfl ?_
      refine Gq_aald (pc' := 693) (j := j) rfl rfl (by first | assumption | exact upd_eq _ _ _ | ((repeat (refine (upd_ne _ _ (by omega)).trans ?_)); first | assumption | exact upd_eq _ _ _)) (by exact rfl) (rfl) (by omega) (by omega) (rfl) ?_
      refine Gq_s (pc' := 695) rfl rfl rfl ?_
      refine Gq_s (pc' := 697) rfl rfl rfl ?_
      refine Gq_iald (pc' := 698) (j := j) rfl rfl (by first | assumption | exact upd_eq _ _ _ | ((repeat (refine (upd_ne _ _ (by omega)).trans ?_)); first | assumption | exact upd_eq _ _ _)) (rfl) (by omega) (by omega) ?_
      rw [e5]
      refine Gq_iald (pc' := 699) (j := jj) rfl rfl (by first | assumption | exact upd_eq _ _ _ | ((repeat (refine (upd_ne _ _ (by omega)).trans ?_)); first | assumption | exact upd_eq _ _ _)) (rfl) (by omega) (by omega) ?_
      refine Gq_iadd (pc' := 700) rfl rfl ?_
      refine Gq_s (pc' := 702) (lv' := [(0, _), (1, _), (2, _), (3, _), (4, _), (5, _), (9, _), (12, _), (13, _), (14, _), (18, _), (19, _)]) rfl rfl rfl ?_
      refine Gq_iinc (pc' := 705) (lv' := [(0, _), (1, _), (2, _), (3, _), (4, _), (5, _), (9, _), (12, _), (13, _), (14, _), (18, _), (19, _)]) rfl rfl rfl rfl ?_
      refine Gq_goto rfl (t := 663) rfl ?_
      have e9 : sumTo (fun p => szOf vr (lk p)) j + szOf vr (lk j) = sumTo (fun p => szOf vr (lk p)) (j + 1) := rfl
      rw [e2] at e9
      rw [e9]
      exact ih (j + 1) (by omega)
set_option maxRecDepth 20000 in
theorem t_lw_g {L : Nat} {ys : Nat → Int32} (hLs : L ≤ 100000) {H : HF} {q d P : Nat} {cnt : Nat → Nat} {siz : Nat → Nat → Int} {wdr : Nat → Nat → Bool} {num : Nat → Nat → Nat → Int} {nd kd : Nat → Nat → List NR} {ws : List NR} {nid qid kid : Nat → Nat → Nat} {wid : Nat → Nat} {pid : Nat → Nat} {vd gr : Nat → Nat → Nat} {vr : Nat → VR} {wl : List CR} {lk dk : Nat → Option Nat} {kx : Nat → Int} {pp : Nat → Nat} {pb : Nat → Option Nat} {cl : List Nat} {cr dr lt fc : Int} {tg : Nat → Nat} {t1 : Int32} {s : Nat} {Q : XLf → Prop} (hQ : NoL2 Q) {n ce sl x y c0 s0 : Nat} {tk : Int32} {sq : List Nat} (hd : d < 300000) (hfc : 0 ≤ fc ∧ fc ≤ 1000000) (hc0 : ce ≤ c0) (hs0 : sl ≤ s0) (hc9 : c0 ≤ 730771) (hs9 : s0 ≤ 6883564) (kk : ∀ (G : HF) (m ce2 sl2 : Nat) (cl3 : List Nat) (fc3 : Int), ce2 ≤ c0 → sl2 ≤ s0 → WB G q ((d + 1)) P cnt siz wdr num nd kd ws nid qid kid wid pid vd gr vr wl lk ((dkS sq lk dk sq.length)) true sq.length sq.length kx pp pb cl3 cr dr lt fc3 tg → G y = some (true, 0, aI 6 (lkI P vr dk)) → fc ≤ fc3 → fc3 ≤ fc + 12 → Gw (some (L, ys)) xLaw 719 [(0, .retAddr q), (1, .int t1), (2, .ref 0), (3, .ref 86), (4, .int (zI cr)), (5, .int (zI (s : Int))), (12, .int tk), (13, .ref y), (14, .int (zI (sq.length : Int)))] [] G m ce2 sl2 Q) (hx : 119 ≤ x) (hy : 119 ≤ y) (hS : StI sq pp pb dk) (hsq : RwOK sq) (hiff : ∀ p, p ∈ sq ↔ p < 12 ∧ ¬ dk p = lk p) (hroom : ∀ i, i ≤ sq.length → sS vr sq lk dk i ≤ dr) (hB : WB H q d P cnt siz wdr num nd kd ws nid qid kid wid pid vd gr vr wl lk dk true sq.length 0 kx pp pb cl cr dr lt fc tg) (h1 : H x = some (true, 0, aI 6 (lkI P vr lk))) (h2 : H y = some (true, 0, aI 6 (lkI P vr dk))) : Gw (some (L, ys)) xLaw 579 [(0, .retAddr q), (1, .int t1), (2, .ref 0), (3, .ref 86), (4, .int (zI cr)), (5, .int (zI (s : Int))), (9, .ref x), (12, .int tk), (13, .ref y), (14, .int (zI (sq.length : Int))), (15, .int (zI fc)), (16, .int (zI dr))] [] H n ce sl Q := by
  obtain ⟨hP, hcrb, hdrb, -⟩ := b_P hB
  have hl12 := pigeon 12 sq hsq.1 hsq.2
  have hD0 := (b_ok hB).2.2.2.1
  have hsb := sS_b hB sq sq.length
  refine Gq_s (pc' := 580) rfl rfl rfl ?_
  refine Gq_s (pc' := 581) rfl rfl rfl ?_
  refine Gq_s (pc' := 582) rfl rfl rfl ?_
  refine Gq_callvA (pc' := 585) (Y := xm128) (rest := [_]) (cY := 0) (sY := 0) (cM := 732771) (sM := 6903564) rfl rfl rfl rfl rfl rfl rfl rfl rfl rfl rfl (by omega) (by omega) (b_draw hLs n hB (by omega) (b := 4) (by decide)) (by exact hB.1.1) (fun v1 G1 n1 hv => ?_)
  obtain ⟨r, rfl, hr, rfl, hB1, hs1⟩ := hv
  replace h1 := (hs1 _ (by omega)).trans h1
  replace h2 := (hs1 _ (by omega)).trans h2
  clear hB hs1
  have hB : WB G1 q ((d + 1)) P cnt siz wdr num nd kd ws nid qid kid wid pid vd gr vr wl lk ((dkS sq lk dk 0)) true sq.length 0 kx pp pb cl cr dr lt fc tg := by rw [dkS_0]; exact hB1
  clear hB1
  refine Gq_callvA (pc' := 588) (Y := xm30) (rest := []) (cY := 0) (sY := 0) (cM := 732771) (sM := 6903564) rfl rfl rfl rfl rfl rfl rfl rfl rfl rfl rfl (by omega) (by omega) (w_run2 _ (pd := 0) hB.2.1 hD0 hS hsq (z := (r : Int)) (by omega) hroom) (by exact hB.2.1.2.1) (fun v2 G2 n2 hv => ?_)
  obtain ⟨rfl, rfl, hs2, cl2, fc2, hA2, hf2, hg2⟩ := hv
  replace h1 := (hs2 _ (by omega)).trans h1
  replace h2 := (hs2 _ (by omega)).trans h2
  replace hB := WB_o hB (fun o ho => hs2 o (by omega)) hA2
  clear hA2 hs2
  obtain ⟨d1, hd1⟩ : ∃ d1, 0 + min (r : Int).toNat (sq.length - 0) = d1 := ⟨_, rfl⟩
  rw [hd1] at hB ⊢
  replace hg2 : fc2 ≤ fc + (d1 : Int) := by omega
  have hdl : d1 ≤ sq.length := by omega
  refine Gq_s (pc' := 590) (lv' := [(0, _), (1, _), (2, _), (3, _), (4, _), (5, _), (9, _), (12, _), (13, _), (14, _), (15, _), (16, _), (17, _)]) rfl rfl rfl ?_
  refine Gq_s (pc' := 591) rfl rfl rfl ?_
  refine Gq_s (pc' := 592) rfl rfl rfl ?_
  refine Gq_callvA (pc' := 595) (Y := xm30) (rest := []) (cY := 0) (sY := 0) (cM := 732771) (sM := 6903564) rfl rfl rfl rfl rfl rfl rfl rfl rfl rfl rfl (by omega) (by omega) (w_run2 _ (pd := d1) hB.2.1 hD0 hS hsq (z := 0) (by omega) hroom) (by exact hB.2.1.2.1) (fun v3 G3 n3 hv => ?_)
  obtain ⟨rfl, rfl, hs3, cl3, fc3, hA3, hf3, hg3⟩ := hv
  replace h1 := (hs3 _ (by omega)).trans h1
  replace h2 := (hs3 _ (by omega)).trans h2
  replace hB := WB_o hB (fun o ho => hs3 o (by omega)) hA3
  clear hA3 hs3
  have e3 : d1 + min (0 : Int).toNat (sq.length - d1) = d1 := by omega
  rw [e3] at hB ⊢
  replace hg3 : fc3 ≤ fc2 := by omega
  refine Gq_s (pc' := 597) rfl rfl rfl ?_
  refine Gq_cne (pc' := 600) (t := 655) rfl rfl rfl (by omega) (by omega) (fun hq => absurd hq (by omega)) (fun _ => ?_)
  refine Gq_s (pc' := 601) rfl rfl rfl ?_
  refine Gq_bipush (pc' := 603) rfl rfl (by decide) ?_
  refine Gq_callvA (pc' := 606) (Y := xm30) (rest := []) (cY := 0) (sY := 0) (cM := 732771) (sM := 6903564) rfl rfl rfl rfl rfl rfl rfl rfl rfl rfl rfl (by omega) (by omega) (w_run2 _ (pd := d1) hB.2.1 hD0 hS hsq (z := 20) (by omega) hroom) (by exact hB.2.1.2.1) (fun v4 G4 n4 hv => ?_)
  obtain ⟨rfl, rfl, hs4, cl4, fc4, hA4, hf4, hg4⟩ := hv
  replace h1 := (hs4 _ (by omega)).trans h1
  replace h2 := (hs4 _ (by omega)).trans h2
  replace hB := WB_o hB (fun o ho => hs4 o (by omega)) hA4
  clear hA4 hs4
  have e4 : d1 + min (20 : Int).toNat (sq.length - d1) = sq.length := by omega
  rw [e4] at hB ⊢
  replace hg4 : fc4 ≤ fc3 + ((sq.length - d1 : Nat) : Int) := by omega
  clear e3 e4
  refine Gq_s (pc' := 608) rfl rfl rfl ?_
  refine Gq_cne (pc' := 611) (t := 655) rfl rfl rfl (by omega) (by omega) (fun hq => absurd hq (by omega)) (fun _ => ?_)
  refine Gq_s (pc' := 612) rfl rfl rfl ?_
  refine Gq_callvA (pc' := 615) (Y := xm39) (rest := []) (cY := 0) (sY := 0) (cM := 732771) (sM := 6903564) rfl rfl rfl rfl rfl rfl rfl rfl rfl rfl rfl (by omega) (by omega) (q_isInst _ hB.2.1) (by exact hB.2.1.2.1) (fun v' G' n' hv => ?_)
  obtain ⟨rfl, rfl, hA9, hs9⟩ := hv
  replace h1 := (SFr_x hs9 hx).trans h1
  replace h2 := (SFr_x hs9 hy).trans h2
  replace hB := WB_q hB hs9 hA9
  clear hA9 hs9
  rw [decide_eq_true (diffs_all hiff)]
  refine Gq_zeq (pc' := 618) (t := 655) rfl rfl rfl (by decide) (fun hq => absurd hq (fun q => absurd q (by decide))) (fun _ => ?_)
  refine Gq_s (pc' := 619) rfl rfl rfl ?_
  have hus : 0 ≤ usd vr cl4 ∧ usd vr cl4 ≤ cr := ⟨(usd_b (RG_vs (b_ok hB).2.2.2.2) cl4 hB.2.1.2.2.2.2.2.2.1.1.2.2.1).1, hB.2.1.2.2.2.2.2.2.1.2.2⟩
  refine Gq_callvA (pc' := 622) (Y := xm34) (rest := []) (cY := 0) (sY := 0) (cM := 732771) (sM := 6903564) rfl rfl rfl rfl rfl rfl rfl rfl rfl rfl rfl (by omega) (by omega) (q_cached _ hB.2.1) (by exact hB.2.1.2.1) (fun v' G' n' hv => ?_)
  obtain ⟨rfl, rfl, hA9, hs9⟩ := hv
  replace h1 := (SFr_x hs9 hx).trans h1
  replace h2 := (SFr_x hs9 hy).trans h2
  replace hB := WB_q hB hs9 hA9
  clear hA9 hs9
  refine Gq_s (pc' := 624) rfl rfl rfl ?_
  refine Gq_cgt (pc' := 627) (t := 655) rfl rfl rfl (by omega) (by omega) (fun hq => absurd hq (by omega)) (fun _ => ?_)
  refine Gq_s (pc' := 628) rfl rfl rfl ?_
  refine Gq_callvA (pc' := 631) (Y := xm36) (rest := []) (cY := 0) (sY := 0) (cM := 732771) (sM := 6903564) rfl rfl rfl rfl rfl rfl rfl rfl rfl rfl rfl (by omega) (by omega) (q_fetched _ hB.2.1) (by exact hB.2.1.2.1) (fun v' G' n' hv => ?_)
  obtain ⟨rfl, rfl, hA9, hs9⟩ := hv
  replace h1 := (SFr_x hs9 hx).trans h1
  replace h2 := (SFr_x hs9 hy).trans h2
  replace hB := WB_q hB hs9 hA9
  clear hA9 hs9
  refine Gq_s (pc' := 633) rfl rfl rfl ?_
  refine Gq_isub (pc' := 634) rfl rfl ?_
  refine Gq_s (pc' := 636) rfl rfl rfl ?_
  refine Gq_cgt (pc' := 639) (t := 655) rfl rfl rfl (by omega) (by omega) (fun hq => absurd hq (by omega)) (fun _ => ?_)
  refine Gq_s (pc' := 640) rfl rfl rfl ?_
  refine Gq_callvA (pc' := 643) (Y := xm37) (rest := []) (cY := 0) (sY := 0) (cM := 732771) (sM := 6903564) rfl rfl rfl rfl rfl rfl rfl rfl rfl rfl rfl (by omega) (by omega) (q_wouldFetch _ hB.2.1) (by exact hB.2.1.2.1) (fun v' G' n' hv => ?_)
  obtain ⟨rfl, rfl, hA9, hs9⟩ := hv
  replace h1 := (SFr_x hs9 hx).trans h1
  replace h2 := (SFr_x hs9 hy).trans h2
  replace hB := WB_q hB hs9 hA9
  clear hA9 hs9
  rw [Nat.sub_self, show wfR vr lk pp cr 0 sq.length cl4 0 = 0 from rfl]
  refine Gq_zne (pc' := 646) (t := 655) rfl rfl rfl (by decide) (fun hq => absurd hq (by decide)) (fun _ => ?_)
  refine Gq_s (pc' := 647) rfl rfl rfl ?_
  refine Gq_callvA (pc' := 650) (Y := xm33) (rest := []) (cY := 0) (sY := 0) (cM := 732771) (sM := 6903564) rfl rfl rfl rfl rfl rfl rfl rfl rfl rfl rfl (by omega) (by omega) (q_taken _ hB.2.1) (by exact hB.2.1.2.1) (fun v' G' n' hv => ?_)
  obtain ⟨rfl, rfl, hA9, hs9⟩ := hv
  replace h1 := (SFr_x hs9 hx).trans h1
  replace h2 := (SFr_x hs9 hy).trans h2
  replace hB := WB_q hB hs9 hA9
  clear hA9 hs9
  have hT : sumTo (fun p => szOf vr (dkS sq lk dk sq.length p)) 12 = sS vr sq lk dk sq.length := rfl
  rw [hT]
  have hr9 := hroom sq.length (Nat.le_refl _)
  refine Gq_s (pc' := 652) rfl rfl rfl ?_
  refine Gq_cle (pc' := 655) (t := 657) rfl rfl rfl (by omega) (by omega) (fun _ => ?_) (fun hq => absurd (by omega) hq)
  refine Gq_s (pc' := 658) rfl rfl rfl ?_
  refine Gq_s (pc' := 660) (lv' := [(0, _), (1, _), (2, _), (3, _), (4, _), (5, _), (9, _), (12, _), (13, _), (14, _), (15, _), (16, _), (17, _), (18, _)]) rfl rfl rfl ?_
  refine Gq_s (pc' := 661) rfl rfl rfl ?_
  refine Gq_s (pc' := 663) (lv' := [(0, _), (1, _), (2, _), (3, _), (4, _), (5, _), (9, _), (12, _), (13, _), (14, _), (15, _), (16, _), (17, _), (18, _), (19, _)]) rfl rfl rfl ?_
  obtain ⟨-, -, hL, -, -⟩ := b_ok hB
  have hlk := sum_lk (vr := vr) (sl := sq) (show P ≤ 12 by omega) hL hiff
  refine Gq_wk2 (lv' := [(0, _), (1, _), (2, _), (3, _), (4, _), (5, _), (9, _), (12, _), (13, _), (14, _), (18, _), (19, _)]) [0, 1, 2, 3, 4, 5, 9, 12, 13, 14, 18, 19] rfl rfl hQ ?_
  refine t_lw_s hLs hQ hB h1 ?_ P 0 (by omega)
  refine Gq_s (pc' := 709) rfl rfl rfl ?_
  refine Gq_callvA (pc' := 712) (Y := xm33) (rest := []) (cY := 0) (sY := 0) (cM := 732771) (sM := 6903564) rfl rfl rfl rfl rfl rfl rfl rfl rfl rfl rfl (by omega) (by omega) (q_taken _ hB.2.1) (by exact hB.2.1.2.1) (fun v' G' n' hv => ?_)
  obtain ⟨rfl, rfl, hA9, hs9⟩ := hv
  replace h1 := (SFr_x hs9 hx).trans h1
  replace h2 := (SFr_x hs9 hy).trans h2
  replace hB := WB_q hB hs9 hA9
  clear hA9 hs9
  refine Gq_s (pc' := 714) rfl rfl rfl ?_
  refine Gq_ceq (pc' := 717) (t := 719) rfl rfl rfl (by rw [hT]; omega) (by rw [← hlk, hT]; omega) (fun _ => ?_) (fun hq => absurd (hlk) hq)
  refine Gq_wk2 (lv' := [(0, _), (1, _), (2, _), (3, _), (4, _), (5, _), (12, _), (13, _), (14, _)]) [0, 1, 2, 3, 4, 5, 12, 13, 14] rfl rfl hQ ?_
  exact kk _ _ _ _ cl4 fc4 (by omega) (by omega) hB h2 (by omega) (by omega)
end XKO
