/-! the law's step: newer, chains, features of each package (printed by wip/p46/gen63.py) -/
section XKL
set_option maxRecDepth 20000 in
theorem t_lw_p2 {L : Nat} {ys : Nat → Int32} (hLs : L ≤ 100000) {H : HF} {q d P : Nat} {cnt : Nat → Nat} {siz : Nat → Nat → Int} {wdr : Nat → Nat → Bool} {num : Nat → Nat → Nat → Int} {nd kd : Nat → Nat → List NR} {ws : List NR} {nid qid kid : Nat → Nat → Nat} {wid : Nat → Nat} {pid : Nat → Nat} {vd gr : Nat → Nat → Nat} {vr : Nat → VR} {wl : List CR} {lk dk : Nat → Option Nat} {th : Bool} {pc pd : Nat} {kx : Nat → Int} {pp : Nat → Nat} {pb : Nat → Option Nat} {cl : List Nat} {cr dr lt fc : Int} {tg : Nat → Nat} {t1 : Int32} {s : Nat} {Q : XLf → Prop} (hQ : NoL2 Q) {n ce sl x j : Nat} {dg : Int64} (hj : j < P) {c0 s0 : Nat} (hc0 : ce ≤ c0) (hs0 : sl ≤ s0) (hc9 : c0 ≤ 730771) (hs9 : s0 ≤ 6883564) (kk : ∀ (G : HF) (m ce2 sl2 : Nat), ce2 ≤ c0 → sl2 ≤ s0 → WB G q d P cnt siz wdr num nd kd ws nid qid kid wid pid vd gr vr wl lk dk th pc pd kx pp pb cl cr dr lt fc tg → G x = some (true, 0, aI 6 (lkI P vr lk)) → Gw (some (L, ys)) xLaw 388 [(0, .retAddr q), (1, .int t1), (2, .ref 0), (3, .ref 86), (4, .int (zI cr)), (5, .int (zI (s : Int))), (9, .ref x), (10, .long dg), (12, .int (zI (j : Int)))] [] G m ce2 sl2 Q) (hx : 119 ≤ x) (hB : WB H q d P cnt siz wdr num nd kd ws nid qid kid wid pid vd gr vr wl lk dk th pc pd kx pp pb cl cr dr lt fc tg) (h1 : H x = some (true, 0, aI 6 (lkI P vr lk))) : Gw (some (L, ys)) xLaw 331 [(0, .retAddr q), (1, .int t1), (2, .ref 0), (3, .ref 86), (4, .int (zI cr)), (5, .int (zI (s : Int))), (9, .ref x), (10, .long dg), (12, .int (zI (j : Int)))] [] H n ce sl Q := by
  obtain ⟨hw, hN, hL, -, hR⟩ := b_ok hB
  obtain ⟨⟨hP2, hP6⟩, hcrb, -⟩ := b_P hB
  have hK9 := hB.2.2.2.1
  refine Gq_s (pc' := 332) rfl rfl rfl ?_
  refine Gq_s (pc' := 334) rfl rfl rfl ?_
  refine Gq_callvA (pc' := 337) (Y := xm22) (rest := []) (cY := 0) (sY := 0) (cM := 732771) (sM := 6903564) rfl rfl rfl rfl rfl rfl rfl rfl rfl rfl rfl (by omega) (by omega) (q_newer n hB.2.1 hj) (by exact hB.2.1.2.1) (fun v' G' n' hv => ?_)
  obtain ⟨rfl, rfl, hA9, hs9⟩ := hv
  replace h1 := (SFr_x hs9 hx).trans h1
  replace hB := WB_q hB hs9 hA9
  clear hA9 hs9
  rcases nw_ok hR hK9 hL hj with e | ⟨i, jj, hi, hjj, e, e2, hwv, hord⟩
  · rw [e]
    refine Gq_s (pc' := 339) (lv' := [(0, _), (1, _), (2, _), (3, _), (4, _), (5, _), (9, _), (10, _), (12, _), (14, _)]) rfl rfl rfl ?_
    refine Gq_s (pc' := 341) rfl rfl rfl ?_
    refine Gq_zlt (pc' := 344) (t := 388) rfl rfl rfl (by decide) (fun _ => ?_) (fun hq => absurd (by decide) hq)
    refine Gq_wk2 (lv' := [(0, _), (1, _), (2, _), (3, _), (4, _), (5, _), (9, _), (10, _), (12, _)]) [0, 1, 2, 3, 4, 5, 9, 10, 12] rfl rfl hQ ?_
    exact kk _ _ _ _ (by omega) (by omega) hB h1
  · rw [e]
    obtain ⟨hLw, hA, hX, hK, hFit⟩ := id hB
    obtain ⟨h0, hc1, ⟨hm0, hm1⟩, ⟨hz0, hz1⟩, ⟨hi0, hi1⟩, ⟨hq0, hq1⟩, ⟨hk0, hk1⟩, hws, hnd, hqd, hkd, hwd⟩ := id hLw
    obtain ⟨⟨hP2, hP6⟩, hcnt, hvr, ⟨hwl, hwn, hwr⟩, hkk, hnm, hsz⟩ := id hK
    have hc4 := hcnt j hj
    have k0 := hm1 j (by omega)
    have k1 := hi1 j (by omega)
    have n0 := (hnd j i (by omega) hi).2
    have n1 := (hnd j jj (by omega) hjj).2
    have e3 : lkI P vr lk j = (jj : Int) := by
      unfold lkI
      rw [if_pos hj, e2]
    refine Gq_s (pc' := 339) (lv' := [(0, _), (1, _), (2, _), (3, _), (4, _), (5, _), (9, _), (10, _), (12, _), (14, _)]) rfl rfl rfl ?_
    refine Gq_s (pc' := 341) rfl rfl rfl ?_
    refine Gq_zlt (pc' := 344) (t := 388) rfl rfl rfl (by omega) (fun hq => absurd hq (by omega)) (fun _ => ?_)
    refine Gq_s (pc' := 345) rfl rfl rfl ?_
    refine Gq_get (pc' := 348) rfl rfl (by first | assumption | exact upd_eq _ _ _ | ((repeat (refine (upd_ne _ _ (by omega)).trans ?_)); first | assumption | exact upd_eq _ _ _)) (by exact rfl) ?_
    refine Gq_s (pc' := 350) rfl rfl rfl ?_
    refine Gq_aald (pc' := 351) (j := j) rfl rfl (by first | assumption | exact upd_eq _ _ _ | ((repeat (refine (upd_ne _ _ (by omega)).trans ?_)); first | assumption | exact upd_eq _ _ _)) (by exact rfl) (rfl) (by omega) (by omega) (rfl) ?_
    refine Gq_s (pc' := 353) rfl rfl rfl ?_
    refine Gq_aald (pc' := 354) (j := i) rfl rfl (by first | assumption | exact upd_eq _ _ _ | ((repeat (refine (upd_ne _ _ (by omega)).trans ?_)); first | assumption | exact upd_eq _ _ _)) (by exact rfl) (rfl) (by omega) (by omega) (rv_if hi) ?_
    refine Gq_s (pc' := 355) rfl rfl rfl ?_
    refine Gq_get (pc' := 358) rfl rfl (by first | assumption | exact upd_eq _ _ _ | ((repeat (refine (upd_ne _ _ (by omega)).trans ?_)); first | assumption | exact upd_eq _ _ _)) (by exact rfl) ?_
    refine Gq_s (pc' := 360) rfl rfl rfl ?_
    refine Gq_aald (pc' := 361) (j := j) rfl rfl (by first | assumption | exact upd_eq _ _ _ | ((repeat (refine (upd_ne _ _ (by omega)).trans ?_)); first | assumption | exact upd_eq _ _ _)) (by exact rfl) (rfl) (by omega) (by omega) (rfl) ?_
    refine Gq_s (pc' := 363) rfl rfl rfl ?_
    refine Gq_s (pc' := 365) rfl rfl rfl ?_
    refine Gq_iald (pc' := 366) (j := j) rfl rfl (by first | assumption | exact upd_eq _ _ _ | ((repeat (refine (upd_ne _ _ (by omega)).trans ?_)); first | assumption | exact upd_eq _ _ _)) (rfl) (by omega) (by omega) ?_
    rw [e3]
    refine Gq_aald (pc' := 367) (j := jj) rfl rfl (by first | assumption | exact upd_eq _ _ _ | ((repeat (refine (upd_ne _ _ (by omega)).trans ?_)); first | assumption | exact upd_eq _ _ _)) (by exact rfl) (rfl) (by omega) (by omega) (rv_if hjj) ?_
    refine Gq_callsA (pc' := 370) (Y := xm132) (rest := []) (cY := 0) (sY := 0) (cM := 732771) (sM := 6903564) rfl rfl rfl rfl rfl rfl rfl rfl rfl rfl rfl rfl (by omega) (by omega) (t_ord hLs _ n0 n1 (fun y hy => by have := hnm j i y hj hi hy; omega) (fun y hy => by have := hnm j jj y hj hjj hy; omega)) (fun v' G' n' hv => ?_)
    obtain ⟨rfl, rfl, rfl⟩ := hv
    rw [hord]
    refine Gq_zle (pc' := 373) (t := 386) rfl rfl rfl (by decide) (fun hq => absurd hq (by decide)) (fun _ => ?_)
    refine Gq_s (pc' := 374) rfl rfl rfl ?_
    refine Gq_get (pc' := 377) rfl rfl (by first | assumption | exact upd_eq _ _ _ | ((repeat (refine (upd_ne _ _ (by omega)).trans ?_)); first | assumption | exact upd_eq _ _ _)) (by exact rfl) ?_
    refine Gq_s (pc' := 379) rfl rfl rfl ?_
    refine Gq_aald (pc' := 380) (j := j) rfl rfl (by first | assumption | exact upd_eq _ _ _ | ((repeat (refine (upd_ne _ _ (by omega)).trans ?_)); first | assumption | exact upd_eq _ _ _)) (by exact rfl) (rfl) (by omega) (by omega) (rfl) ?_
    refine Gq_s (pc' := 382) rfl rfl rfl ?_
    refine Gq_bald (pc' := 383) (j := i) rfl rfl (by first | assumption | exact upd_eq _ _ _ | ((repeat (refine (upd_ne _ _ (by omega)).trans ?_)); first | assumption | exact upd_eq _ _ _)) (rfl) (by omega) (by omega) ?_
    rw [hwv]
    refine Gq_zeq (pc' := 386) (t := 388) rfl rfl rfl (by decide) (fun _ => ?_) (fun hq => absurd (by decide) hq)
    refine Gq_wk2 (lv' := [(0, _), (1, _), (2, _), (3, _), (4, _), (5, _), (9, _), (10, _), (12, _)]) [0, 1, 2, 3, 4, 5, 9, 10, 12] rfl rfl hQ ?_
    exact kk _ _ _ _ (by omega) (by omega) hB h1
set_option maxRecDepth 20000 in
theorem t_lw_p3 {L : Nat} {ys : Nat → Int32} (hLs : L ≤ 100000) {H : HF} {q d P : Nat} {cnt : Nat → Nat} {siz : Nat → Nat → Int} {wdr : Nat → Nat → Bool} {num : Nat → Nat → Nat → Int} {nd kd : Nat → Nat → List NR} {ws : List NR} {nid qid kid : Nat → Nat → Nat} {wid : Nat → Nat} {pid : Nat → Nat} {vd gr : Nat → Nat → Nat} {vr : Nat → VR} {wl : List CR} {lk dk : Nat → Option Nat} {th : Bool} {pc pd : Nat} {kx : Nat → Int} {pp : Nat → Nat} {pb : Nat → Option Nat} {cl : List Nat} {cr dr lt fc : Int} {tg : Nat → Nat} {t1 : Int32} {s : Nat} {Q : XLf → Prop} (hQ : NoL2 Q) {n ce sl x j : Nat} {dg : Int64} (hj : j < P) {c0 s0 : Nat} (hc0 : ce ≤ c0) (hs0 : sl ≤ s0) (hc9 : c0 ≤ 730771) (hs9 : s0 ≤ 6883564) (kk : ∀ (G : HF) (m ce2 sl2 : Nat), ce2 ≤ c0 → sl2 ≤ s0 → WB G q d P cnt siz wdr num nd kd ws nid qid kid wid pid vd gr vr wl lk dk th pc pd kx pp pb cl cr dr lt fc tg → G x = some (true, 0, aI 6 (lkI P vr lk)) → Gw (some (L, ys)) xLaw 459 [(0, .retAddr q), (1, .int t1), (2, .ref 0), (3, .ref 86), (4, .int (zI cr)), (5, .int (zI (s : Int))), (9, .ref x), (10, .long dg), (12, .int (zI (j : Int)))] [] G m ce2 sl2 Q) (hx : 119 ≤ x) (hB : WB H q d P cnt siz wdr num nd kd ws nid qid kid wid pid vd gr vr wl lk dk th pc pd kx pp pb cl cr dr lt fc tg) (h1 : H x = some (true, 0, aI 6 (lkI P vr lk))) : Gw (some (L, ys)) xLaw 388 [(0, .retAddr q), (1, .int t1), (2, .ref 0), (3, .ref 86), (4, .int (zI cr)), (5, .int (zI (s : Int))), (9, .ref x), (10, .long dg), (12, .int (zI (j : Int)))] [] H n ce sl Q := by
  obtain ⟨hw, hN, hL, -, hR⟩ := b_ok hB
  obtain ⟨⟨hP2, hP6⟩, hcrb, -⟩ := b_P hB
  have hI := chL_inv (vr := vr) (lk := lk) hw
  have hDb := chL_b (vr := vr) (lk := lk) (wl := wl) j
  have hlb := lkAt_b (p := j) (i := 0) hI
  refine Gq_s (pc' := 389) rfl rfl rfl ?_
  refine Gq_s (pc' := 391) rfl rfl rfl ?_
  refine Gq_callvA (pc' := 394) (Y := xm23) (rest := []) (cY := 0) (sY := 0) (cM := 732771) (sM := 6903564) rfl rfl rfl rfl rfl rfl rfl rfl rfl rfl rfl (by omega) (by omega) (q_would _ hB.2.1 hj) (by exact hB.2.1.2.1) (fun v' G' n' hv => ?_)
  obtain ⟨⟨r, rfl, hr1, hr2⟩, rfl, hA9, hs9⟩ := hv
  replace h1 := (SFr_x hs9 hx).trans h1
  replace hB := WB_q hB hs9 hA9
  clear hA9 hs9
  refine Gq_bipush (pc' := 396) rfl rfl (by decide) ?_
  refine Gq_clt (pc' := 399) (t := 477) rfl rfl rfl (by omega) (by omega) (fun hq => absurd hq (by omega)) (fun _ => ?_)
  refine Gq_s (pc' := 400) rfl rfl rfl ?_
  refine Gq_s (pc' := 402) rfl rfl rfl ?_
  refine Gq_callvA (pc' := 405) (Y := xm19) (rest := []) (cY := 0) (sY := 0) (cM := 732771) (sM := 6903564) rfl rfl rfl rfl rfl rfl rfl rfl rfl rfl rfl (by omega) (by omega) (q_depth _ hB.2.1 hj) (by exact hB.2.1.2.1) (fun v' G' n' hv => ?_)
  obtain ⟨rfl, rfl, hA9, hs9, -⟩ := hv
  replace h1 := (SFr_x hs9 hx).trans h1
  replace hB := WB_q hB hs9 hA9
  clear hA9 hs9
  rcases Nat.eq_zero_or_pos ((chL vr lk wl).1 j) with hD | hD
  · refine Gq_zle (pc' := 408) (t := 412) rfl rfl rfl (by omega) (fun _ => ?_) (fun hq => absurd (by omega) hq)
    refine Gq_s (pc' := 413) rfl rfl rfl ?_
    refine Gq_s (pc' := 414) rfl rfl rfl ?_
    refine Gq_s (pc' := 416) rfl rfl rfl ?_
    refine Gq_s (pc' := 417) rfl rfl rfl ?_
    refine Gq_callvA (pc' := 420) (Y := xm20) (rest := [_]) (cY := 0) (sY := 0) (cM := 732771) (sM := 6903564) rfl rfl rfl rfl rfl rfl rfl rfl rfl rfl rfl (by omega) (by omega) (q_chainAt _ hB.2.1 hj (i := 0) (by omega)) (by exact hB.2.1.2.1) (fun v' G' n' hv => ?_)
    obtain ⟨rfl, rfl, hA9, hs9, -⟩ := hv
    replace h1 := (SFr_x hs9 hx).trans h1
    replace hB := WB_q hB hs9 hA9
    clear hA9 hs9
    rw [ch_no hD]
    refine Gq_zlt (pc' := 423) (t := 427) rfl rfl rfl (by decide) (fun _ => ?_) (fun hq => absurd (by decide) hq)
    refine Gq_s (pc' := 428) rfl rfl rfl ?_
    refine Gq_cne (pc' := 431) (t := 477) rfl rfl rfl (by decide) (by decide) (fun hq => absurd hq (by decide)) (fun _ => ?_)
    refine Gq_s (pc' := 432) rfl rfl rfl ?_
    refine Gq_s (pc' := 434) rfl rfl rfl ?_
    refine Gq_callvA (pc' := 437) (Y := xm19) (rest := []) (cY := 0) (sY := 0) (cM := 732771) (sM := 6903564) rfl rfl rfl rfl rfl rfl rfl rfl rfl rfl rfl (by omega) (by omega) (q_depth _ hB.2.1 hj) (by exact hB.2.1.2.1) (fun v' G' n' hv => ?_)
    obtain ⟨rfl, rfl, hA9, hs9, -⟩ := hv
    replace h1 := (SFr_x hs9 hx).trans h1
    replace hB := WB_q hB hs9 hA9
    clear hA9 hs9
    refine Gq_zle (pc' := 440) (t := 459) rfl rfl rfl (by omega) (fun _ => ?_) (fun hq => absurd (by omega) hq)
    exact kk _ _ _ _ (by omega) (by omega) hB h1
  · have hy := ch_yes hD
    refine Gq_zle (pc' := 408) (t := 412) rfl rfl rfl (by omega) (fun hq => absurd hq (by omega)) (fun _ => ?_)
    refine Gq_s (pc' := 409) rfl rfl rfl ?_
    refine Gq_goto rfl (t := 413) rfl ?_
    refine Gq_s (pc' := 414) rfl rfl rfl ?_
    refine Gq_s (pc' := 416) rfl rfl rfl ?_
    refine Gq_s (pc' := 417) rfl rfl rfl ?_
    refine Gq_callvA (pc' := 420) (Y := xm20) (rest := [_]) (cY := 0) (sY := 0) (cM := 732771) (sM := 6903564) rfl rfl rfl rfl rfl rfl rfl rfl rfl rfl rfl (by omega) (by omega) (q_chainAt _ hB.2.1 hj (i := 0) (by omega)) (by exact hB.2.1.2.1) (fun v' G' n' hv => ?_)
    obtain ⟨rfl, rfl, hA9, hs9, -⟩ := hv
    replace h1 := (SFr_x hs9 hx).trans h1
    replace hB := WB_q hB hs9 hA9
    clear hA9 hs9
    refine Gq_zlt (pc' := 423) (t := 427) rfl rfl rfl (by omega) (fun hq => absurd hq (by omega)) (fun _ => ?_)
    refine Gq_s (pc' := 424) rfl rfl rfl ?_
    refine Gq_goto rfl (t := 428) rfl ?_
    refine Gq_cne (pc' := 431) (t := 477) rfl rfl rfl (by decide) (by decide) (fun hq => absurd hq (by decide)) (fun _ => ?_)
    refine Gq_s (pc' := 432) rfl rfl rfl ?_
    refine Gq_s (pc' := 434) rfl rfl rfl ?_
    refine Gq_callvA (pc' := 437) (Y := xm19) (rest := []) (cY := 0) (sY := 0) (cM := 732771) (sM := 6903564) rfl rfl rfl rfl rfl rfl rfl rfl rfl rfl rfl (by omega) (by omega) (q_depth _ hB.2.1 hj) (by exact hB.2.1.2.1) (fun v' G' n' hv => ?_)
    obtain ⟨rfl, rfl, hA9, hs9, -⟩ := hv
    replace h1 := (SFr_x hs9 hx).trans h1
    replace hB := WB_q hB hs9 hA9
    clear hA9 hs9
    refine Gq_zle (pc' := 440) (t := 459) rfl rfl rfl (by omega) (fun hq => absurd hq (by omega)) (fun _ => ?_)
    refine Gq_s (pc' := 441) rfl rfl rfl ?_
    refine Gq_s (pc' := 443) rfl rfl rfl ?_
    refine Gq_s (pc' := 444) rfl rfl rfl ?_
    refine Gq_s (pc' := 446) rfl rfl rfl ?_
    refine Gq_callvA (pc' := 449) (Y := xm19) (rest := [_, _]) (cY := 0) (sY := 0) (cM := 732771) (sM := 6903564) rfl rfl rfl rfl rfl rfl rfl rfl rfl rfl rfl (by omega) (by omega) (q_depth _ hB.2.1 hj) (by exact hB.2.1.2.1) (fun v' G' n' hv => ?_)
    obtain ⟨rfl, rfl, hA9, hs9, -⟩ := hv
    replace h1 := (SFr_x hs9 hx).trans h1
    replace hB := WB_q hB hs9 hA9
    clear hA9 hs9
    refine Gq_s (pc' := 450) rfl rfl rfl ?_
    refine Gq_isub (pc' := 451) rfl rfl ?_
    rw [show (((chL vr lk wl).1 j : Nat) : Int) - 1 = (((chL vr lk wl).1 j - 1 : Nat) : Int) by omega]
    refine Gq_callvA (pc' := 454) (Y := xm20) (rest := []) (cY := 0) (sY := 0) (cM := 732771) (sM := 6903564) rfl rfl rfl rfl rfl rfl rfl rfl rfl rfl rfl (by omega) (by omega) (q_chainAt _ hB.2.1 hj (i := (chL vr lk wl).1 j - 1) (by omega)) (by exact hB.2.1.2.1) (fun v' G' n' hv => ?_)
    obtain ⟨rfl, rfl, hA9, hs9, -⟩ := hv
    replace h1 := (SFr_x hs9 hx).trans h1
    replace hB := WB_q hB hs9 hA9
    clear hA9 hs9
    rw [ch_last hD]
    refine Gq_s (pc' := 456) rfl rfl rfl ?_
    refine Gq_cne (pc' := 459) (t := 477) rfl rfl rfl (by omega) (by omega) (fun hq => absurd hq (by omega)) (fun _ => ?_)
    exact kk _ _ _ _ (by omega) (by omega) hB h1
set_option maxRecDepth 20000 in
theorem t_lw_p4 {L : Nat} {ys : Nat → Int32} (hLs : L ≤ 100000) {H : HF} {q d P : Nat} {cnt : Nat → Nat} {siz : Nat → Nat → Int} {wdr : Nat → Nat → Bool} {num : Nat → Nat → Nat → Int} {nd kd : Nat → Nat → List NR} {ws : List NR} {nid qid kid : Nat → Nat → Nat} {wid : Nat → Nat} {pid : Nat → Nat} {vd gr : Nat → Nat → Nat} {vr : Nat → VR} {wl : List CR} {lk dk : Nat → Option Nat} {th : Bool} {pc pd : Nat} {kx : Nat → Int} {pp : Nat → Nat} {pb : Nat → Option Nat} {cl : List Nat} {cr dr lt fc : Int} {tg : Nat → Nat} {t1 : Int32} {s : Nat} {Q : XLf → Prop} (hQ : NoL2 Q) {n ce sl x j : Nat} {dg : Int64} (hj : j < P) (hce : ce ≤ 730771) (hsl : sl ≤ 6883564) (kk : ∀ (G : HF) (m : Nat), WB G q d P cnt siz wdr num nd kd ws nid qid kid wid pid vd gr vr wl lk dk th pc pd kx pp pb cl cr dr lt fc tg → G x = some (true, 0, aI 6 (lkI P vr lk)) → Gw (some (L, ys)) xLaw 236 [(0, .retAddr q), (1, .int t1), (2, .ref 0), (3, .ref 86), (4, .int (zI cr)), (5, .int (zI (s : Int))), (9, .ref x), (10, .long dg), (12, .int (zI ((j + 1 : Nat) : Int)))] [] G m (ce + 1) (sl + 6) Q) (hx : 119 ≤ x) (hB : WB H q d P cnt siz wdr num nd kd ws nid qid kid wid pid vd gr vr wl lk dk th pc pd kx pp pb cl cr dr lt fc tg) (h1 : H x = some (true, 0, aI 6 (lkI P vr lk))) : Gw (some (L, ys)) xLaw 459 [(0, .retAddr q), (1, .int t1), (2, .ref 0), (3, .ref 86), (4, .int (zI cr)), (5, .int (zI (s : Int))), (9, .ref x), (10, .long dg), (12, .int (zI (j : Int)))] [] H n ce sl Q := by
  obtain ⟨hw, hN, hL, -, hR⟩ := b_ok hB
  obtain ⟨⟨hP2, hP6⟩, hcrb, -⟩ := b_P hB
  have ho := onF_16 (wl := wl) hN hw j
  refine Gq_s (pc' := 460) rfl rfl rfl ?_
  refine Gq_s (pc' := 462) rfl rfl rfl ?_
  refine Gq_callvA (pc' := 465) (Y := xm15) (rest := []) (cY := 0) (sY := 0) (cM := 732771) (sM := 6903564) rfl rfl rfl rfl rfl rfl rfl rfl rfl rfl rfl (by omega) (by omega) (q_featuresOf n hB.2.1 hj) (by exact hB.2.1.2.1) (fun v' G' n' hv => ?_)
  obtain ⟨rfl, rfl, hA9, hs9⟩ := hv
  replace h1 := (SFr_x hs9 hx).trans h1
  replace hB := WB_q hB hs9 hA9
  clear hA9 hs9
  refine Gq_s (pc' := 466) rfl rfl rfl ?_
  refine Gq_s (pc' := 468) rfl rfl rfl ?_
  refine Gq_fr (fun hF => ?_)
  refine Gq_callvA (pc' := 471) (Y := xm137) (rest := [_]) (cY := 1) (sY := 6) (cM := 732771) (sM := 6903564) rfl rfl rfl rfl rfl rfl rfl rfl rfl rfl rfl (by omega) (by omega) (t_on hLs _ hB.1 hB.2.2.2.1 hL hN hw hx h1) (by exact hB.1.1) (fun v2 G2 n2 hv => ?_)
  obtain ⟨rfl, rfl, rfl⟩ := hv
  have hlt := Fr_lt hF h1
  replace hB := WB_n (G := hup G' n' (true, 0, aNt 6 (onF vr lk wl))) hF hB (fun o ho => upd_ne _ _ (by omega))
  replace h1 := (upd_ne G' (i := n') (true, 0, aNt 6 (onF vr lk wl)) (show ¬ x = n' by omega)).trans h1
  refine Gq_s (pc' := 473) rfl rfl rfl ?_
  refine Gq_iald (pc' := 474) (j := j) rfl rfl (by first | assumption | exact upd_eq _ _ _ | ((repeat (refine (upd_ne _ _ (by omega)).trans ?_)); first | assumption | exact upd_eq _ _ _)) (rfl) (by omega) (by omega) ?_
  refine Gq_ceq (pc' := 477) (t := 479) rfl rfl rfl (by omega) (by omega) (fun _ => ?_) (fun hq => absurd (rfl) hq)
  refine Gq_iinc (pc' := 482) (lv' := [(0, _), (1, _), (2, _), (3, _), (4, _), (5, _), (9, _), (10, _), (12, _)]) rfl rfl rfl rfl ?_
  refine Gq_goto rfl (t := 236) rfl ?_
  refine Gq_wk2 (lv' := [(0, _), (1, _), (2, _), (3, _), (4, _), (5, _), (9, _), (10, _), (12, _)]) [0, 1, 2, 3, 4, 5, 9, 10, 12] rfl rfl hQ ?_
  exact kk _ _ hB h1
end XKL
