/-! the law's step: all packages, the checksum (printed by wip/p46/gen64.py) -/
section XKM
theorem lgc_0 (a : Int64) : lg_cmp a a = zI 0 := by
  unfold lg_cmp
  rw [if_neg (show ¬ a > a from Int64.lt_irrefl), if_pos rfl]
  rfl
set_option maxRecDepth 20000 in
theorem t_lw_l {L : Nat} {ys : Nat → Int32} (hLs : L ≤ 100000) {q d P : Nat} {cnt : Nat → Nat} {siz : Nat → Nat → Int} {wdr : Nat → Nat → Bool} {num : Nat → Nat → Nat → Int} {nd kd : Nat → Nat → List NR} {ws : List NR} {nid qid kid : Nat → Nat → Nat} {wid : Nat → Nat} {pid : Nat → Nat} {vd gr : Nat → Nat → Nat} {vr : Nat → VR} {wl : List CR} {lk dk : Nat → Option Nat} {th : Bool} {pc pd : Nat} {kx : Nat → Int} {pp : Nat → Nat} {pb : Nat → Option Nat} {cl : List Nat} {cr dr lt fc : Int} {tg : Nat → Nat} {t1 : Int32} {s : Nat} {Q : XLf → Prop} (hQ : NoL2 Q) {x c0 s0 : Nat} {dg : Int64} (hx : 119 ≤ x) (hc9 : c0 ≤ 730771) (hs9 : s0 ≤ 6883564) (kk : ∀ (G : HF) (m ce2 sl2 : Nat), ce2 ≤ c0 → sl2 ≤ s0 → WB G q d P cnt siz wdr num nd kd ws nid qid kid wid pid vd gr vr wl lk dk th pc pd kx pp pb cl cr dr lt fc tg → G x = some (true, 0, aI 6 (lkI P vr lk)) → Gw (some (L, ys)) xLaw 485 [(0, .retAddr q), (1, .int t1), (2, .ref 0), (3, .ref 86), (4, .int (zI cr)), (5, .int (zI (s : Int))), (9, .ref x), (10, .long dg)] [] G m ce2 sl2 Q) : ∀ (k j : Nat) (H : HF) (n ce sl : Nat), j + k = P → ce + k ≤ c0 → sl + 6 * k ≤ s0 → WB H q d P cnt siz wdr num nd kd ws nid qid kid wid pid vd gr vr wl lk dk th pc pd kx pp pb cl cr dr lt fc tg → H x = some (true, 0, aI 6 (lkI P vr lk)) → Gw (some (L, ys)) xLaw 236 [(0, .retAddr q), (1, .int t1), (2, .ref 0), (3, .ref 86), (4, .int (zI cr)), (5, .int (zI (s : Int))), (9, .ref x), (10, .long dg), (12, .int (zI (j : Int)))] [] H n ce sl Q := by
  intro k
  induction k with
  | zero =>
    intro j H n ce sl hk hce hsl hB h1
    obtain rfl : j = P := by omega
    have h0 := hB.1.1
    have hP := (b_P hB).1
    refine Gq_s (pc' := 238) rfl rfl rfl ?_
    refine Gq_s (pc' := 239) rfl rfl rfl ?_
    refine Gq_get (pc' := 242) rfl rfl (by first | assumption | exact upd_eq _ _ _ | ((repeat (refine (upd_ne _ _ (by omega)).trans ?_)); first | assumption | exact upd_eq _ _ _)) (by exact rfl) ?_
    refine Gq_cge (pc' := 245) (t := 485) rfl rfl rfl (by omega) (by omega) (fun _ => ?_) (fun hq => absurd (by omega) hq)
    refine Gq_wk2 (lv' := [(0, _), (1, _), (2, _), (3, _), (4, _), (5, _), (9, _), (10, _)]) [0, 1, 2, 3, 4, 5, 9, 10] rfl rfl hQ ?_
    exact kk H n ce sl (by omega) (by omega) hB h1
  | succ k ih =>
    intro j H n ce sl hk hce hsl hB h1
    have h0 := hB.1.1
    have hP := (b_P hB).1
    have hj : j < P := by omega
    refine Gq_s (pc' := 238) rfl rfl rfl ?_
    refine Gq_s (pc' := 239) rfl rfl rfl ?_
    refine Gq_get (pc' := 242) rfl rfl (by first | assumption | exact upd_eq _ _ _ | ((repeat (refine (upd_ne _ _ (by omega)).trans ?_)); first | assumption | exact upd_eq _ _ _)) (by exact rfl) ?_
    refine Gq_cge (pc' := 245) (t := 485) rfl rfl rfl (by omega) (by omega) (fun hq => absurd hq (by omega)) (fun _ => ?_)
    refine t_lw_p1 hLs hQ (c0 := ce) (s0 := sl) hj (Nat.le_refl _) (Nat.le_refl _) (by omega) (by omega) (fun G1 m1 ce1 sl1 a1 b1 hB1 g1 => ?_) hx hB h1
    refine t_lw_p2 hLs hQ (c0 := ce) (s0 := sl) hj a1 b1 (by omega) (by omega) (fun G2 m2 ce2 sl2 a2 b2 hB2 g2 => ?_) hx hB1 g1
    refine t_lw_p3 hLs hQ (c0 := ce) (s0 := sl) hj a2 b2 (by omega) (by omega) (fun G3 m3 ce3 sl3 a3 b3 hB3 g3 => ?_) hx hB2 g2
    exact t_lw_p4 hLs hQ hj (by omega) (by omega) (fun G4 m4 hB4 g4 => ih (j + 1) G4 m4 _ _ (by omega) (by omega) (by omega) hB4 g4) hx hB3 g3
set_option maxRecDepth 20000 in
theorem t_lw_d {L : Nat} {ys : Nat → Int32} (hLs : L ≤ 100000) {H : HF} {q d P : Nat} {cnt : Nat → Nat} {siz : Nat → Nat → Int} {wdr : Nat → Nat → Bool} {num : Nat → Nat → Nat → Int} {nd kd : Nat → Nat → List NR} {ws : List NR} {nid qid kid : Nat → Nat → Nat} {wid : Nat → Nat} {pid : Nat → Nat} {vd gr : Nat → Nat → Nat} {vr : Nat → VR} {wl : List CR} {lk dk : Nat → Option Nat} {th : Bool} {pc pd : Nat} {kx : Nat → Int} {pp : Nat → Nat} {pb : Nat → Option Nat} {cl : List Nat} {cr dr lt fc : Int} {tg : Nat → Nat} {t1 : Int32} {s : Nat} {Q : XLf → Prop} (hQ : NoL2 Q) {n ce sl x c0 s0 : Nat} (hc0 : ce + 6 ≤ c0) (hs0 : sl + 36 ≤ s0) (hc9 : c0 ≤ 730771) (hs9 : s0 ≤ 6883564) (kk : ∀ (G : HF) (m ce2 sl2 : Nat), ce2 ≤ c0 → sl2 ≤ s0 → WB G q d P cnt siz wdr num nd kd ws nid qid kid wid pid vd gr vr wl lk dk th pc pd kx pp pb cl cr dr lt fc tg → G x = some (true, 0, aI 6 (lkI P vr lk)) → Gw (some (L, ys)) xLaw 502 [(0, .retAddr q), (1, .int t1), (2, .ref 0), (3, .ref 86), (4, .int (zI cr)), (5, .int (zI (s : Int))), (9, .ref x)] [] G m ce2 sl2 Q) (hx : 119 ≤ x) (hB : WB H q d P cnt siz wdr num nd kd ws nid qid kid wid pid vd gr vr wl lk dk th pc pd kx pp pb cl cr dr lt fc tg) (h1 : H x = some (true, 0, aI 6 (lkI P vr lk))) : Gw (some (L, ys)) xLaw 227 [(0, .retAddr q), (1, .int t1), (2, .ref 0), (3, .ref 86), (4, .int (zI cr)), (5, .int (zI (s : Int))), (9, .ref x)] [] H n ce sl Q := by
  have hP := (b_P hB).1
  refine Gq_s (pc' := 228) rfl rfl rfl ?_
  refine Gq_callvA (pc' := 231) (Y := xm40) (rest := []) (cY := 0) (sY := 0) (cM := 732771) (sM := 6903564) rfl rfl rfl rfl rfl rfl rfl rfl rfl rfl rfl (by omega) (by omega) (q_digest n hB.2.1) (by exact hB.2.1.2.1) (fun v' G' n' hv => ?_)
  obtain ⟨rfl, rfl, hA9, hs9⟩ := hv
  replace h1 := (SFr_x hs9 hx).trans h1
  replace hB := WB_q hB hs9 hA9
  clear hA9 hs9
  refine Gq_s (pc' := 233) (lv' := [(0, _), (1, _), (2, _), (3, _), (4, _), (5, _), (9, _), (10, _)]) rfl rfl rfl ?_
  refine Gq_s (pc' := 234) rfl rfl rfl ?_
  refine Gq_s (pc' := 236) (lv' := [(0, _), (1, _), (2, _), (3, _), (4, _), (5, _), (9, _), (10, _), (12, _)]) rfl rfl rfl ?_
  refine t_lw_l hLs hQ hx hc9 hs9 (fun G m ce2 sl2 a b hB h1 => ?_) P 0 _ _ _ _ (by omega) (by omega) (by omega) hB h1
  refine Gq_s (pc' := 486) rfl rfl rfl ?_
  refine Gq_callvA (pc' := 489) (Y := xm18) (rest := []) (cY := 0) (sY := 0) (cM := 732771) (sM := 6903564) rfl rfl rfl rfl rfl rfl rfl rfl rfl rfl rfl (by omega) (by omega) (q_core _ hB.2.1) (by exact hB.2.1.2.1) (fun v' G' n' hv => ?_)
  obtain ⟨⟨y, rfl⟩, rfl, hA9, hs9⟩ := hv
  replace h1 := (SFr_x hs9 hx).trans h1
  replace hB := WB_q hB hs9 hA9
  clear hA9 hs9
  refine Gq_s (pc' := 490) rfl rfl rfl ?_
  refine Gq_s (pc' := 491) rfl rfl rfl ?_
  refine Gq_callvA (pc' := 494) (Y := xm40) (rest := []) (cY := 0) (sY := 0) (cM := 732771) (sM := 6903564) rfl rfl rfl rfl rfl rfl rfl rfl rfl rfl rfl (by omega) (by omega) (q_digest _ hB.2.1) (by exact hB.2.1.2.1) (fun v' G' n' hv => ?_)
  obtain ⟨rfl, rfl, hA9, hs9⟩ := hv
  replace h1 := (SFr_x hs9 hx).trans h1
  replace hB := WB_q hB hs9 hA9
  clear hA9 hs9
  refine Gq_s (pc' := 496) rfl rfl rfl ?_
  refine Gq_s (pc' := 497) rfl rfl rfl ?_
  rw [lgc_0]
  refine Gq_zeq (pc' := 500) (t := 502) rfl rfl rfl (by decide) (fun _ => ?_) (fun hq => absurd (rfl) hq)
  refine Gq_wk2 (lv' := [(0, _), (1, _), (2, _), (3, _), (4, _), (5, _), (9, _)]) [0, 1, 2, 3, 4, 5, 9] rfl rfl hQ ?_
  exact kk _ _ _ _ (by omega) (by omega) hB h1
end XKM
