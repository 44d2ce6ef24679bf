/-! the law's step: what is installed, the plan, its room (printed by wip/p46/gen65.py) -/
section XKN
set_option maxRecDepth 20000 in
theorem t_lw_i {L : Nat} {ys : Nat → Int32} (hLs : L ≤ 100000) {H0 : HF} {q d P : Nat} {cnt : Nat → Nat} {siz : Nat → Nat → Int} {wdr : Nat → Nat → Bool} {num : Nat → Nat → Nat → Int} {nd kd : Nat → Nat → List NR} {ws : List NR} {nid qid kid : Nat → Nat → Nat} {wid : Nat → Nat} {pid : Nat → Nat} {vd gr : Nat → Nat → Nat} {vr : Nat → VR} {wl : List CR} {lk dk : Nat → Option Nat} {th : Bool} {pc pd : Nat} {kx : Nat → Int} {pp : Nat → Nat} {pb : Nat → Option Nat} {cl : List Nat} {cr dr lt fc : Int} {tg : Nat → Nat} {t1 : Int32} {s : Nat} {Q : XLf → Prop} (hQ : NoL2 Q) {x y : Nat} {tk : Int32} {ce sl : Nat} (hx : 119 ≤ x) (hF0 : Frs H0 y) (hB0 : WB H0 q d P cnt siz wdr num nd kd ws nid qid kid wid pid vd gr vr wl lk dk th pc pd kx pp pb cl cr dr lt fc tg) (h10 : H0 x = some (true, 0, aI 6 (lkI P vr lk))) (hce : ce ≤ 730771) (hsl : sl ≤ 6883564)
 (kk : ∀ (G : HF) (m : Nat), WB G q d P cnt siz wdr num nd kd ws nid qid kid wid pid vd gr vr wl lk dk th pc pd kx pp pb cl cr dr lt fc tg → G x = some (true, 0, aI 6 (lkI P vr lk)) → G y = some (true, 0, aI 6 (lkI P vr dk)) → Gw (some (L, ys)) xLaw 543 [(0, .retAddr q), (1, .int t1), (2, .ref 0), (3, .ref 86), (4, .int (zI cr)), (5, .int (zI (s : Int))), (9, .ref x), (12, .int tk), (13, .ref y)] [] G m ce sl Q) : ∀ (k j : Nat) (f : Nat → Int) (H : HF) (n : Nat), j + k = P → (∀ o, o < y → (o < 86 ∨ 118 < o) → H o = H0 o) → AllB H P pid cnt vd gr vr wl lk dk th pc pd kx pp pb cl cr dr lt fc → H y = some (true, 0, aI 6 f) → (∀ p, f p = if p < j then nmOf vr (dk p) else -1) → Gw (some (L, ys)) xLaw 517 [(0, .retAddr q), (1, .int t1), (2, .ref 0), (3, .ref 86), (4, .int (zI cr)), (5, .int (zI (s : Int))), (9, .ref x), (12, .int tk), (13, .ref y), (14, .int (zI (j : Int)))] [] H n ce sl Q := by
  have hy := Wx_119 hB0.2.1 hF0
  have hxy := Fr_lt hF0 h10
  have hP := (b_P hB0).1
  intro k
  induction k with
  | zero =>
    intro j f H n hk hold hA h2 hf
    obtain rfl : j = P := by omega
    have hB := WB_c hB0 (fun o c h hc => (hold o (Fr_lt hF0 hc) h).trans hc) (fun o h => hold o (by omega) (.inl h)) hA
    have h0 := hB.1.1
    have hfe : f = lkI j vr dk := funext fun p => hf p
    refine Gq_s (pc' := 519) rfl rfl rfl ?_
    refine Gq_s (pc' := 520) rfl rfl rfl ?_
    refine Gq_get (pc' := 523) rfl rfl (by first | assumption | exact upd_eq _ _ _ | ((repeat (refine (upd_ne _ _ (by omega)).trans ?_)); first | assumption | exact upd_eq _ _ _)) (by exact rfl) ?_
    refine Gq_cge (pc' := 526) (t := 543) rfl rfl rfl (by omega) (by omega) (fun _ => ?_) (fun hq => absurd (by omega) hq)
    refine Gq_wk2 (lv' := [(0, _), (1, _), (2, _), (3, _), (4, _), (5, _), (9, _), (12, _), (13, _)]) [0, 1, 2, 3, 4, 5, 9, 12, 13] rfl rfl hQ ?_
    exact kk H n hB ((hold x hxy (by omega)).trans h10) (by rw [h2, hfe])
  | succ k ih =>
    intro j f H n hk hold hA h2 hf
    have hB := WB_c hB0 (fun o c h hc => (hold o (Fr_lt hF0 hc) h).trans hc) (fun o h => hold o (by omega) (.inl h)) hA
    have h0 := hB.1.1
    have hj : j < P := by omega
    refine Gq_s (pc' := 519) rfl rfl rfl ?_
    refine Gq_s (pc' := 520) rfl rfl rfl ?_
    refine Gq_get (pc' := 523) rfl rfl (by first | assumption | exact upd_eq _ _ _ | ((repeat (refine (upd_ne _ _ (by omega)).trans ?_)); first | assumption | exact upd_eq _ _ _)) (by exact rfl) ?_
    refine Gq_cge (pc' := 526) (t := 543) rfl rfl rfl (by omega) (by omega) (fun hq => absurd hq (by omega)) (fun _ => ?_)
    refine Gq_s (pc' := 528) rfl rfl rfl ?_
    refine Gq_s (pc' := 530) rfl rfl rfl ?_
    refine Gq_s (pc' := 531) rfl rfl rfl ?_
    refine Gq_s (pc' := 533) rfl rfl rfl ?_
    refine Gq_callvA (pc' := 536) (Y := xm32) (rest := [_, _]) (cY := 0) (sY := 0) (cM := 732771) (sM := 6903564) rfl rfl rfl rfl rfl rfl rfl rfl rfl rfl rfl (by omega) (by omega) (q_installed n hA hj) (by exact hA.2.1) (fun v' G' n' hv => ?_)
    obtain ⟨rfl, rfl, hA9, hs9⟩ := hv
    have h2' := (SFr_x hs9 hy).trans h2
    refine Gq_iast (pc' := 537) (j := j) rfl rfl (by first | assumption | exact upd_eq _ _ _ | ((repeat (refine (upd_ne _ _ (by omega)).trans ?_)); first | assumption | exact upd_eq _ _ _)) (rfl) (by omega) (by omega) ?_
    refine Gq_iinc (pc' := 540) (lv' := [(0, _), (1, _), (2, _), (3, _), (4, _), (5, _), (9, _), (12, _), (13, _), (14, _)]) rfl rfl rfl rfl ?_
    refine Gq_goto rfl (t := 517) rfl ?_
    refine ih (j + 1) _ _ _ (by omega) (fun o ho h => (upd_ne _ _ (by omega)).trans ((hs9 o (by omega) (by omega) (by omega) (by omega) (by omega)).trans (hold o ho h))) (AllB_ge (Ge_upd (i := y) (Ge_refl _) (.inr (.inr ⟨hy, _, h2'⟩))) hA9) (upd_eq _ _ _) (fun p => ?_)
    by_cases e : p = j
    · subst e
      rw [fset_eq, if_pos (by omega)]
    · rw [fset_ne _ _ e, hf p]
      by_cases e2 : p < j
      · rw [if_pos e2, if_pos (by omega)]
      · rw [if_neg e2, if_neg (by omega)]
theorem sS_b {H : HF} {q d P : Nat} {cnt : Nat → Nat} {siz : Nat → Nat → Int} {wdr : Nat → Nat → Bool} {num : Nat → Nat → Nat → Int} {nd kd : Nat → Nat → List NR} {ws : List NR} {nid qid kid : Nat → Nat → Nat} {wid : Nat → Nat} {pid : Nat → Nat} {vd gr : Nat → Nat → Nat} {vr : Nat → VR} {wl : List CR} {lk dk : Nat → Option Nat} {th : Bool} {pc pd : Nat} {kx : Nat → Int} {pp : Nat → Nat} {pb : Nat → Option Nat} {cl : List Nat} {cr dr lt fc : Int} {tg : Nat → Nat} (hB : WB H q d P cnt siz wdr num nd kd ws nid qid kid wid pid vd gr vr wl lk dk th pc pd kx pp pb cl cr dr lt fc tg) (sq : List Nat) (i : Nat) : 0 ≤ sS vr sq lk dk i ∧ sS vr sq lk dk i ≤ 11988 := by
  obtain ⟨hw, hN, hL, hD, hR⟩ := b_ok hB
  have h := sum_b (RG_vs hR) (Own_ch (dkS_own (sl := sq) hL hD i)) 12 (by omega)
  unfold sS
  exact ⟨h.1, by have := h.2; omega⟩
set_option maxRecDepth 20000 in
theorem t_lw_e {L : Nat} {ys : Nat → Int32} (hLs : L ≤ 100000) {H : HF} {q d P : Nat} {cnt : Nat → Nat} {siz : Nat → Nat → Int} {wdr : Nat → Nat → Bool} {num : Nat → Nat → Nat → Int} {nd kd : Nat → Nat → List NR} {ws : List NR} {nid qid kid : Nat → Nat → Nat} {wid : Nat → Nat} {pid : Nat → Nat} {vd gr : Nat → Nat → Nat} {vr : Nat → VR} {wl : List CR} {lk dk : Nat → Option Nat} {th : Bool} {pc pd : Nat} {kx : Nat → Int} {pp : Nat → Nat} {pb : Nat → Option Nat} {cl : List Nat} {cr dr lt fc : Int} {tg : Nat → Nat} {t1 : Int32} {s : Nat} {Q : XLf → Prop} (hQ : NoL2 Q) {n ce sl x c0 s0 : Nat} (hc0 : ce + 1 ≤ c0) (hs0 : sl + 6 ≤ s0) (hc9 : c0 ≤ 730771) (hs9 : s0 ≤ 6883564) (kk : ∀ (G : HF) (m ce2 sl2 y : Nat) (sq : List Nat) (kx2 : Nat → Int) (pp2 : Nat → Nat) (pb2 : Nat → Option Nat) (R : Int), ce2 ≤ c0 → sl2 ≤ s0 → WB G q d P cnt siz wdr num nd kd ws nid qid kid wid pid vd gr vr wl lk dk true sq.length 0 kx2 pp2 pb2 cl cr R lt fc tg → G x = some (true, 0, aI 6 (lkI P vr lk)) → 119 ≤ y → G y = some (true, 0, aI 6 (lkI P vr dk)) → StI sq pp2 pb2 dk → RwOK sq → (∀ p, p ∈ sq ↔ p < 12 ∧ ¬ dk p = lk p) → (∀ i, i ≤ sq.length → sS vr sq lk dk i ≤ R) → (0 ≤ R ∧ R ≤ 20000) → Gw (some (L, ys)) xLaw 579 [(0, .retAddr q), (1, .int t1), (2, .ref 0), (3, .ref 86), (4, .int (zI cr)), (5, .int (zI (s : Int))), (9, .ref x), (12, .int (zI (sumTo (fun p => szOf vr (dk p)) 12))), (13, .ref y), (14, .int (zI (sq.length : Int))), (15, .int (zI fc)), (16, .int (zI R))] [] G m ce2 sl2 Q) (hx : 119 ≤ x) (hB : WB H q d P cnt siz wdr num nd kd ws nid qid kid wid pid vd gr vr wl lk dk th pc pd kx pp pb cl cr dr lt fc tg) (h1 : H x = some (true, 0, aI 6 (lkI P vr lk))) : Gw (some (L, ys)) xLaw 502 [(0, .retAddr q), (1, .int t1), (2, .ref 0), (3, .ref 86), (4, .int (zI cr)), (5, .int (zI (s : Int))), (9, .ref x)] [] H n ce sl Q := by
  obtain ⟨hP, hcrb, hdrb, -⟩ := b_P hB
  refine Gq_s (pc' := 503) rfl rfl rfl ?_
  refine Gq_callvA (pc' := 506) (Y := xm33) (rest := []) (cY := 0) (sY := 0) (cM := 732771) (sM := 6903564) rfl rfl rfl rfl rfl rfl rfl rfl rfl rfl rfl (by omega) (by omega) (q_taken n hB.2.1) (by exact hB.2.1.2.1) (fun v' G' n' hv => ?_)
  obtain ⟨rfl, rfl, hA9, hs9⟩ := hv
  replace h1 := (SFr_x hs9 hx).trans h1
  replace hB := WB_q hB hs9 hA9
  clear hA9 hs9
  refine Gq_s (pc' := 508) (lv' := [(0, _), (1, _), (2, _), (3, _), (4, _), (5, _), (9, _), (12, _)]) rfl rfl rfl ?_
  refine Gq_s (pc' := 509) rfl rfl rfl ?_
  refine Gq_fr (fun hF => ?_)
  refine Gq_callvA (pc' := 512) (Y := xm140) (rest := []) (cY := 1) (sY := 6) (cM := 732771) (sM := 6903564) rfl rfl rfl rfl rfl rfl rfl rfl rfl rfl rfl (by omega) (by omega) (t_nothing hLs _ 0) (by exact hB.1.1) (fun v2 G2 n2 hv => ?_)
  obtain ⟨rfl, rfl, h2, hs2⟩ := hv
  refine Gq_s (pc' := 514) (lv' := [(0, _), (1, _), (2, _), (3, _), (4, _), (5, _), (9, _), (12, _), (13, _)]) rfl rfl rfl ?_
  refine Gq_s (pc' := 515) rfl rfl rfl ?_
  refine Gq_s (pc' := 517) (lv' := [(0, _), (1, _), (2, _), (3, _), (4, _), (5, _), (9, _), (12, _), (13, _), (14, _)]) rfl rfl rfl ?_
  refine t_lw_i hLs hQ hx hF hB h1 (by omega) (by omega) (fun G m hB3 h13 h23 => ?_) P 0 _ _ _ (by omega) (fun o ho _ => hs2 o (by omega)) (WB_n hF hB (fun o ho => hs2 o (by omega))).2.1 h2 (fun p => by rw [if_neg (by omega)])
  have hy := Wx_119 hB.2.1 hF
  clear hs2 h2
  replace hB := hB3
  replace h1 := h13
  clear hB3 h13
  refine Gq_s (pc' := 544) rfl rfl rfl ?_
  refine Gq_callvA (pc' := 547) (Y := xm26) (rest := []) (cY := 0) (sY := 0) (cM := 732771) (sM := 6903564) rfl rfl rfl rfl rfl rfl rfl rfl rfl rfl rfl (by omega) (by omega) (w_plan _ hB.2.1) (by exact hB.2.1.2.1) (fun v4 G4 n4 hv => ?_)
  obtain ⟨rfl, hs4, sq, kx2, pp2, pb2, rfl, hA4, hS, hsq, hiff⟩ := hv
  replace h1 := (hs4 _ (by omega)).trans h1
  have h2 := (hs4 _ (by omega)).trans h23
  replace hB := WB_o hB (fun o ho => hs4 o (by omega)) hA4
  clear hA4 hs4 h23
  have hl12 := pigeon 12 sq hsq.1 hsq.2
  refine Gq_s (pc' := 549) (lv' := [(0, _), (1, _), (2, _), (3, _), (4, _), (5, _), (9, _), (12, _), (13, _), (14, _)]) rfl rfl rfl ?_
  refine Gq_s (pc' := 550) rfl rfl rfl ?_
  refine Gq_callvA (pc' := 553) (Y := xm36) (rest := []) (cY := 0) (sY := 0) (cM := 732771) (sM := 6903564) rfl rfl rfl rfl rfl rfl rfl rfl rfl rfl rfl (by omega) (by omega) (q_fetched _ hB.2.1) (by exact hB.2.1.2.1) (fun v' G' n' hv => ?_)
  obtain ⟨rfl, rfl, hA9, hs9⟩ := hv
  replace h1 := (SFr_x hs9 hx).trans h1
  replace h2 := (SFr_x hs9 hy).trans h2
  replace hB := WB_q hB hs9 hA9
  clear hA9 hs9
  refine Gq_s (pc' := 555) (lv' := [(0, _), (1, _), (2, _), (3, _), (4, _), (5, _), (9, _), (12, _), (13, _), (14, _), (15, _)]) rfl rfl rfl ?_
  refine Gq_s (pc' := 556) rfl rfl rfl ?_
  refine Gq_callvA (pc' := 559) (Y := xm38) (rest := []) (cY := 0) (sY := 0) (cM := 732771) (sM := 6903564) rfl rfl rfl rfl rfl rfl rfl rfl rfl rfl rfl (by omega) (by omega) (q_roomNeeded _ hB.2.1) (by exact hB.2.1.2.1) (fun v' G' n' hv => ?_)
  obtain ⟨rfl, rfl, hA9, hs9⟩ := hv
  replace h1 := (SFr_x hs9 hx).trans h1
  replace h2 := (SFr_x hs9 hy).trans h2
  replace hB := WB_q hB hs9 hA9
  clear hA9 hs9
  have hrn := rn_all (vr := vr) (lk := lk) hS hsq (B := 11988) (fun j _ => (sS_b hB sq j).2) sq.length 0 (sumTo (fun p => szOf vr (dk p)) 12) (by omega) (by rw [← sS_0 vr sq lk]; exact (sS_b hB sq 0).2)
  have hs0b := sS_b hB sq 0
  rw [sS_0] at hrn hs0b
  rw [show sq.length - 0 = sq.length from rfl]
  obtain ⟨R, hR⟩ : ∃ R, rnR vr lk dk pp2 sq.length 0 (sumTo (fun p => szOf vr (dk p)) 12) (sumTo (fun p => szOf vr (dk p)) 12) = R := ⟨_, rfl⟩
  rw [hR] at hrn ⊢
  obtain ⟨r1, r2, r3⟩ := hrn
  refine Gq_s (pc' := 561) (lv' := [(0, _), (1, _), (2, _), (3, _), (4, _), (5, _), (9, _), (12, _), (13, _), (14, _), (15, _), (16, _)]) rfl rfl rfl ?_
  refine Gq_s (pc' := 563) rfl rfl rfl ?_
  refine Gq_s (pc' := 565) rfl rfl rfl ?_
  refine Gq_clt (pc' := 568) (t := 577) rfl rfl rfl (by omega) (by omega) (fun hq => absurd hq (by omega)) (fun _ => ?_)
  refine Gq_s (pc' := 569) rfl rfl rfl ?_
  refine Gq_s (pc' := 571) rfl rfl rfl ?_
  refine Gq_callvA (pc' := 574) (Y := xm24) (rest := []) (cY := 0) (sY := 0) (cM := 732771) (sM := 6903564) rfl rfl rfl rfl rfl rfl rfl rfl rfl rfl rfl (by omega) (by omega) (w_setDisk _ hB.2.1 (z := R) (by omega)) (by exact hB.2.1.2.1) (fun v5 G5 n5 hv => ?_)
  obtain ⟨rfl, rfl, hA5, hs5⟩ := hv
  replace h1 := (hs5 _ (by omega)).trans h1
  replace h2 := (hs5 _ (by omega)).trans h2
  replace hB := WB_o hB (fun o ho => hs5 o (by omega)) hA5
  refine Gq_zge (pc' := 577) (t := 579) rfl rfl rfl (by omega) (fun _ => ?_) (fun hq => absurd (by omega) hq)
  exact kk _ _ _ _ _ sq kx2 pp2 pb2 R (by omega) (by omega) hB h1 hy h2 hS hsq hiff (fun i hi => by
    rcases Nat.eq_zero_or_pos i with e | e
    · rw [e, sS_0]; exact r1
    · exact r3 i e hi) (by omega)
end XKN
