/-! the law's step: rolled back; a whole step (printed by wip/p46/gen67.py) -/
section XKP
set_option maxRecDepth 20000 in
theorem t_lw_b {L : Nat} {ys : Nat → Int32} (hLs : L ≤ 100000) {q d P : Nat} {cnt : Nat → Nat} {siz : Nat → Nat → Int} {wdr : Nat → Nat → Bool} {num : Nat → Nat → Nat → Int} {nd kd : Nat → Nat → List NR} {ws : List NR} {nid qid kid : Nat → Nat → Nat} {wid : Nat → Nat} {pid : Nat → Nat} {vd gr : Nat → Nat → Nat} {vr : Nat → VR} {wl : List CR} {lk dk : Nat → Option Nat} {th : Bool} {pc pd : Nat} {kx : Nat → Int} {pp : Nat → Nat} {pb : Nat → Option Nat} {cl : List Nat} {cr dr lt fc : Int} {tg : Nat → Nat} {t1 : Int32} {s : Nat} {Q : XLf → Prop} (hQ : NoL2 Q) {y ce sl : Nat} {tk t14 : Int32} (hy : 119 ≤ y) (hce : ce ≤ 730771) (hsl : sl ≤ 6883564) (kk : ∀ (G : HF) (m : Nat), WB G q d P cnt siz wdr num nd kd ws nid qid kid wid pid vd gr vr wl lk dk th pc pd kx pp pb cl cr dr lt fc tg → Gw (some (L, ys)) xLaw 781 [(0, .retAddr q), (1, .int t1), (2, .ref 0), (3, .ref 86), (4, .int (zI cr)), (5, .int (zI (s : Int)))] [] G m ce sl Q) : ∀ (k j : Nat) (H : HF) (n : Nat), j + k = P → WB H q d P cnt siz wdr num nd kd ws nid qid kid wid pid vd gr vr wl lk dk th pc pd kx pp pb cl cr dr lt fc tg → H y = some (true, 0, aI 6 (lkI P vr dk)) → Gw (some (L, ys)) xLaw 750 [(0, .retAddr q), (1, .int t1), (2, .ref 0), (3, .ref 86), (4, .int (zI cr)), (5, .int (zI (s : Int))), (12, .int tk), (13, .ref y), (14, .int t14), (19, .int (zI (j : Int)))] [] H n ce sl Q := by
  intro k
  induction k with
  | zero =>
    intro j H n hk hB h2
    obtain rfl : j = P := by omega
    have hP := (b_P hB).1
    have h0 := hB.1.1
    refine Gq_s (pc' := 752) rfl rfl rfl ?_
    refine Gq_s (pc' := 753) rfl rfl rfl ?_
    refine Gq_get (pc' := 756) rfl rfl (by first | assumption | exact upd_eq _ _ _ | ((repeat (refine (upd_ne _ _ (by omega)).trans ?_)); first | assumption | exact upd_eq _ _ _)) (by exact rfl) ?_
    refine Gq_cge (pc' := 759) (t := 781) rfl rfl rfl (by omega) (by omega) (fun _ => ?_) (fun hq => absurd (by omega) hq)
    refine Gq_wk2 (lv' := [(0, _), (1, _), (2, _), (3, _), (4, _), (5, _)]) [0, 1, 2, 3, 4, 5] rfl rfl hQ ?_
    exact kk H n hB
  | succ k ih =>
    intro j H n hk hB h2
    obtain ⟨hw, hN, hL, hD, hR⟩ := b_ok hB
    have hP := (b_P hB).1
    have h0 := hB.1.1
    have hj : j < P := by omega
    have hc4 := hB.2.2.2.1.2.1 j hj
    have e3 : lkI P vr dk j = nmOf vr (dk j) := by
      unfold lkI
      rw [if_pos hj]
    have hb : -1 ≤ nmOf vr (dk j) ∧ nmOf vr (dk j) < 100 := by
      rcases lk_num hR hB.2.2.2.1 hD hj with ⟨e, -⟩ | ⟨jj, h9, e, -⟩ <;> omega
    refine Gq_s (pc' := 752) rfl rfl rfl ?_
    refine Gq_s (pc' := 753) rfl rfl rfl ?_
    refine Gq_get (pc' := 756) rfl rfl (by first | assumption | exact upd_eq _ _ _ | ((repeat (refine (upd_ne _ _ (by omega)).trans ?_)); first | assumption | exact upd_eq _ _ _)) (by exact rfl) ?_
    refine Gq_cge (pc' := 759) (t := 781) rfl rfl rfl (by omega) (by omega) (fun hq => absurd hq (by omega)) (fun _ => ?_)
    refine Gq_s (pc' := 760) rfl rfl rfl ?_
    refine Gq_s (pc' := 762) rfl rfl rfl ?_
    refine Gq_callvA (pc' := 765) (Y := xm32) (rest := []) (cY := 0) (sY := 0) (cM := 732771) (sM := 6903564) rfl rfl rfl rfl rfl rfl rfl rfl rfl rfl rfl (by omega) (by omega) (q_installed n hB.2.1 hj) (by exact hB.2.1.2.1) (fun v' G' n' hv => ?_)
    obtain ⟨rfl, rfl, hA9, hs9⟩ := hv
    replace h2 := (SFr_x hs9 hy).trans h2
    replace hB := WB_q hB hs9 hA9
    refine Gq_s (pc' := 767) rfl rfl rfl ?_
    refine Gq_s (pc' := 769) rfl rfl rfl ?_
    refine Gq_iald (pc' := 770) (j := j) rfl rfl (by first | assumption | exact upd_eq _ _ _ | ((repeat (refine (upd_ne _ _ (by omega)).trans ?_)); first | assumption | exact upd_eq _ _ _)) (rfl) (by omega) (by omega) ?_
    rw [e3]
    refine Gq_ceq (pc' := 773) (t := 775) rfl rfl rfl (by omega) (by omega) (fun _ => ?_) (fun hq => absurd (rfl) hq)
    refine Gq_iinc (pc' := 778) (lv' := [(0, _), (1, _), (2, _), (3, _), (4, _), (5, _), (12, _), (13, _), (14, _), (19, _)]) rfl rfl rfl rfl ?_
    refine Gq_goto rfl (t := 750) rfl ?_
    exact ih (j + 1) _ _ (by omega) hB h2
set_option maxRecDepth 20000 in
theorem t_lw_z {L : Nat} {ys : Nat → Int32} (hLs : L ≤ 100000) {H : HF} {q d P : Nat} {cnt : Nat → Nat} {siz : Nat → Nat → Int} {wdr : Nat → Nat → Bool} {num : Nat → Nat → Nat → Int} {nd kd : Nat → Nat → List NR} {ws : List NR} {nid qid kid : Nat → Nat → Nat} {wid : Nat → Nat} {pid : Nat → Nat} {vd gr : Nat → Nat → Nat} {vr : Nat → VR} {wl : List CR} {lk dk : Nat → Option Nat} {kx : Nat → Int} {pp : Nat → Nat} {pb : Nat → Option Nat} {cl : List Nat} {cr dr lt fc : Int} {tg : Nat → Nat} {t1 : Int32} {s : Nat} {Q : XLf → Prop} (hQ : NoL2 Q) {n ce sl y c0 s0 : Nat} {F : Int} {sq : List Nat} (hd : d < 300000) (hs : s < 100) (hfc : 0 ≤ fc ∧ fc ≤ F) (hXX : ∀ x, x < P → 1 ≤ cnt x) (hc0 : ce ≤ c0) (hs0 : sl ≤ s0) (hc9 : c0 ≤ 730771) (hs9 : s0 ≤ 6883564) (kk : ∀ (G : HF) (m ce2 sl2 : Nat), ce2 ≤ c0 → sl2 ≤ s0 → Wx G q (d + 1) P cr F (fun cnt _ _ _ => ∀ x, x < P → 1 ≤ cnt x) → Gw (some (L, ys)) xLaw 45 [(0, .retAddr q), (1, .int t1), (2, .ref 0), (3, .ref 86), (4, .int (zI cr)), (5, .int (zI ((s + 1 : Nat) : Int)))] [] G m ce2 sl2 Q) (hy : 119 ≤ y) (hl12 : sq.length ≤ 12) (hS : StI sq pp pb dk) (hD0 : ∀ q o, dk q = some o → Own P cnt vd q o) (hB : WB H q d P cnt siz wdr num nd kd ws nid qid kid wid pid vd gr vr wl lk ((dkS sq lk dk sq.length)) true sq.length sq.length kx pp pb cl cr dr lt fc tg) (h2 : H y = some (true, 0, aI 6 (lkI P vr dk))) : Gw (some (L, ys)) xLaw 719 [(0, .retAddr q), (1, .int t1), (2, .ref 0), (3, .ref 86), (4, .int (zI cr)), (5, .int (zI (s : Int))), (12, .int (zI (sumTo (fun p => szOf vr (dk p)) 12))), (13, .ref y), (14, .int (zI (sq.length : Int)))] [] H n ce sl Q := by
  refine Gq_s (pc' := 720) rfl rfl rfl ?_
  refine Gq_s (pc' := 721) rfl rfl rfl ?_
  refine Gq_callvA (pc' := 724) (Y := xm128) (rest := []) (cY := 0) (sY := 0) (cM := 732771) (sM := 6903564) rfl rfl rfl rfl rfl rfl rfl rfl rfl rfl rfl (by omega) (by omega) (b_draw hLs n hB (by omega) (b := 2) (by decide)) (by exact hB.1.1) (fun v1 G1 n1 hv => ?_)
  obtain ⟨r, rfl, hr, rfl, hB1, hs1⟩ := hv
  replace h2 := (hs1 _ (by omega)).trans h2
  clear hB hs1
  have hB := hB1
  clear hB1
  refine Gq_zne (pc' := 727) (t := 781) rfl rfl rfl (by omega) (fun h0 => ?_) (fun h0 => ?_)
  · refine Gq_wk2 (lv' := [(0, _), (1, _), (2, _), (3, _), (4, _), (5, _)]) [0, 1, 2, 3, 4, 5] rfl rfl hQ ?_
    refine Gq_iinc (pc' := 784) (lv' := [(0, _), (1, _), (2, _), (3, _), (4, _), (5, _)]) rfl rfl rfl rfl ?_
    refine Gq_goto rfl (t := 45) rfl ?_
    exact kk _ _ _ _ (by omega) (by omega) (WB_wx hB hfc hXX)
  · refine Gq_s (pc' := 728) rfl rfl rfl ?_
    refine Gq_callvA (pc' := 731) (Y := xm31) (rest := []) (cY := 0) (sY := 0) (cM := 732771) (sM := 6903564) rfl rfl rfl rfl rfl rfl rfl rfl rfl rfl rfl (by omega) (by omega) (w_rollBack _ hB.2.1 hD0 hS) (by exact hB.2.1.2.1) (fun v2 G2 n2 hv => ?_)
    obtain ⟨rfl, rfl, hs2, hA2⟩ := hv
    replace h2 := (hs2 _ (by omega)).trans h2
    replace hB := WB_o hB (fun o ho => hs2 o (by omega)) hA2
    clear hA2 hs2
    refine Gq_s (pc' := 733) rfl rfl rfl ?_
    refine Gq_cne (pc' := 736) (t := 745) rfl rfl rfl (by omega) (by omega) (fun hq => absurd hq (by omega)) (fun _ => ?_)
    refine Gq_s (pc' := 737) rfl rfl rfl ?_
    refine Gq_callvA (pc' := 740) (Y := xm33) (rest := []) (cY := 0) (sY := 0) (cM := 732771) (sM := 6903564) rfl rfl rfl rfl rfl rfl rfl rfl rfl rfl rfl (by omega) (by omega) (q_taken _ hB.2.1) (by exact hB.2.1.2.1) (fun v' G' n' hv => ?_)
    obtain ⟨rfl, rfl, hA9, hs9⟩ := hv
    replace h2 := (SFr_x hs9 hy).trans h2
    replace hB := WB_q hB hs9 hA9
    clear hA9 hs9
    have hsb := sS_b hB [] 0
    rw [sS_0] at hsb
    refine Gq_s (pc' := 742) rfl rfl rfl ?_
    refine Gq_ceq (pc' := 745) (t := 747) rfl rfl rfl (by omega) (by omega) (fun _ => ?_) (fun hq => absurd (rfl) hq)
    refine Gq_s (pc' := 748) rfl rfl rfl ?_
    refine Gq_s (pc' := 750) (lv' := [(0, _), (1, _), (2, _), (3, _), (4, _), (5, _), (12, _), (13, _), (14, _), (19, _)]) rfl rfl rfl ?_
    refine t_lw_b hLs hQ hy (by omega) (by omega) (fun G m hB => ?_) P 0 _ _ (by omega) hB h2
    refine Gq_iinc (pc' := 784) (lv' := [(0, _), (1, _), (2, _), (3, _), (4, _), (5, _)]) rfl rfl rfl rfl ?_
    refine Gq_goto rfl (t := 45) rfl ?_
    exact kk _ _ _ _ (by omega) (by omega) (WB_wx hB hfc hXX)
set_option maxRecDepth 20000 in
theorem t_lw_step {L : Nat} {ys : Nat → Int32} (hLs : L ≤ 100000) {H : HF} {q d P : Nat} {cr F : Int} {t1 : Int32} {s : Nat} {Q : XLf → Prop} (hQ : NoL2 Q) {n ce sl : Nat} (hd : d < 200000) (hF : F ≤ 100000) (hs : s < 100) (hce : ce ≤ 729771) (hsl : sl ≤ 6873564) (kk : ∀ (G : HF) (m ce2 sl2 d2 : Nat) (cr2 : Int), ce2 ≤ ce + 83 → sl2 ≤ sl + 645 → d2 ≤ d + 43 → Wx G q d2 P cr2 (F + 12) (fun cnt _ _ _ => ∀ x, x < P → 1 ≤ cnt x) → Gw (some (L, ys)) xLaw 45 [(0, .retAddr q), (1, .int t1), (2, .ref 0), (3, .ref 86), (4, .int (zI cr2)), (5, .int (zI ((s + 1 : Nat) : Int)))] [] G m ce2 sl2 Q) (hW : Wx H q d P cr F (fun cnt _ _ _ => ∀ x, x < P → 1 ≤ cnt x)) : Gw (some (L, ys)) xLaw 52 [(0, .retAddr q), (1, .int t1), (2, .ref 0), (3, .ref 86), (4, .int (zI cr)), (5, .int (zI (s : Int)))] [] H n ce sl Q := by
  refine t_lw_a hLs hQ (D := d + 40) (c0 := ce + 45) (s0 := sl + 477) (by omega) (by omega) (by omega) (by omega) (fun G1 m1 ce1 sl1 d1 p cr1 a1 b1 e1 hp hW1 => ?_) (by omega) (by omega) hW
  refine t_lw_r hLs hQ (by omega) hp (fun G2 m2 ce2 sl2 x a2 b2 hW2 => ?_) (by omega) (by omega) hW1
  obtain ⟨cnt, siz, wdr, num, nd, kd, ws, nid, qid, kid, wid, pid, vd, gr, vr, wl, lk, dk, th, pc, pd, kx, pp, pb, cl, dr, lt, fc, tg, hB, hXX, hfc, hx, h1⟩ := hW2
  refine t_lw_d hLs hQ (c0 := ce2 + 6) (s0 := sl2 + 36) (by omega) (by omega) (by omega) (by omega) (fun G3 m3 ce3 sl3 a3 b3 hB3 h13 => ?_) hx hB h1
  refine t_lw_e hLs hQ (c0 := ce3 + 1) (s0 := sl3 + 6) (by omega) (by omega) (by omega) (by omega) (fun G4 m4 ce4 sl4 y sq kx2 pp2 pb2 R a4 b4 hB4 h14 hy h24 hS hsq hiff hroom hRb => ?_) hx hB3 h13
  refine t_lw_g hLs hQ (c0 := ce4) (s0 := sl4) (by omega) (by omega) (Nat.le_refl _) (Nat.le_refl _) (by omega) (by omega) (fun G5 m5 ce5 sl5 cl3 fc3 a5 b5 hB5 h25 f1 f2 => ?_) hx hy hS hsq hiff hroom hB4 h14 h24
  refine t_lw_z hLs hQ (F := F + 12) (c0 := ce5) (s0 := sl5) (by omega) hs (by omega) hXX (Nat.le_refl _) (Nat.le_refl _) (by omega) (by omega) (fun G6 m6 ce6 sl6 a6 b6 hW6 => ?_) hy (pigeon 12 sq hsq.1 hsq.2) hS (b_ok hB4).2.2.2.1 hB5 h25
  exact kk G6 m6 ce6 sl6 _ cr1 (by omega) (by omega) (by omega) hW6
set_option maxRecDepth 20000 in
theorem t_lw_steps {L : Nat} {ys : Nat → Int32} (hLs : L ≤ 100000) {q P c0 s0 : Nat} {t1 : Int32} {Q : XLf → Prop} (hQ : NoL2 Q) (hc9 : c0 ≤ 728771) (hs9 : s0 ≤ 6863564) (kk : ∀ (G : HF) (m ce2 sl2 : Nat), ce2 ≤ c0 → sl2 ≤ s0 → Gw (some (L, ys)) xLaw 787 [(0, .retAddr q), (1, .int t1)] [] G m ce2 sl2 Q) : ∀ (k s : Nat) (H : HF) (n ce sl d : Nat) (cr F : Int), s + k = 8 → ce + 83 * k ≤ c0 → sl + 645 * k ≤ s0 → d + 43 * k ≤ 150000 → F + 12 * k ≤ 100000 → Wx H q d P cr F (fun cnt _ _ _ => ∀ x, x < P → 1 ≤ cnt x) → Gw (some (L, ys)) xLaw 45 [(0, .retAddr q), (1, .int t1), (2, .ref 0), (3, .ref 86), (4, .int (zI cr)), (5, .int (zI (s : Int)))] [] H n ce sl Q := by
  intro k
  induction k with
  | zero =>
    intro s H n ce sl d cr F hk hc hs hd hF hW
    refine Gq_s (pc' := 47) rfl rfl rfl ?_
    refine Gq_bipush (pc' := 49) rfl rfl (by decide) ?_
    refine Gq_cge (pc' := 52) (t := 787) rfl rfl rfl (by omega) (by omega) (fun _ => ?_) (fun hq => absurd (by omega) hq)
    refine Gq_wk2 (lv' := [(0, _), (1, _)]) [0, 1] rfl rfl hQ ?_
    exact kk H n ce sl (by omega) (by omega)
  | succ k ih =>
    intro s H n ce sl d cr F hk hc hs hd hF hW
    refine Gq_s (pc' := 47) rfl rfl rfl ?_
    refine Gq_bipush (pc' := 49) rfl rfl (by decide) ?_
    refine Gq_cge (pc' := 52) (t := 787) rfl rfl rfl (by omega) (by omega) (fun hq => absurd hq (by omega)) (fun _ => ?_)
    refine t_lw_step hLs hQ (by omega) (by omega) (by omega) (by omega) (by omega) (fun G m ce2 sl2 d2 cr2 a b c hW2 => ?_) hW
    exact ih (s + 1) G m ce2 sl2 d2 cr2 (F + 12) (by omega) (by omega) (by omega) (by omega) (by omega) hW2
end XKP
