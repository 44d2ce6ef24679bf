/-! the law's step: each package is reached by a wish (printed by wip/p46/gen62.py) -/
section XKJ
theorem ior_0 (b : Bool) : zI (bI b) ||| zI 0 = zI (bI b) := by cases b <;> rfl
theorem ior_1 (b : Bool) : zI (bI b) ||| zI 1 = zI (bI true) := by cases b <;> rfl
set_option maxRecDepth 20000 in
theorem t_lw_w {L : Nat} {ys : Nat → Int32} (hLs : L ≤ 100000) {q d P : Nat} {cnt : Nat → Nat} {siz : Nat → Nat → Int} {wdr : Nat → Nat → Bool} {num : Nat → Nat → Nat → Int} {nd kd : Nat → Nat → List NR} {ws : List NR} {nid qid kid : Nat → Nat → Nat} {wid : Nat → Nat} {pid : Nat → Nat} {vd gr : Nat → Nat → Nat} {vr : Nat → VR} {wl : List CR} {lk dk : Nat → Option Nat} {th : Bool} {pc pd : Nat} {kx : Nat → Int} {pp : Nat → Nat} {pb : Nat → Option Nat} {cl : List Nat} {cr dr lt fc : Int} {tg : Nat → Nat} {t1 : Int32} {s : Nat} {Q : XLf → Prop} (hQ : NoL2 Q) {x j c0 s0 : Nat} {dg : Int64} (hx : 119 ≤ x) (hj : j < P) (hc9 : c0 ≤ 730771) (hs9 : s0 ≤ 6883564) (kk : ∀ (G : HF) (m ce2 sl2 : Nat), ce2 ≤ c0 → sl2 ≤ s0 → WB G q d P cnt siz wdr num nd kd ws nid qid kid wid pid vd gr vr wl lk dk th pc pd kx pp pb cl cr dr lt fc tg → G x = some (true, 0, aI 6 (lkI P vr lk)) → Gw (some (L, ys)) xLaw 308 [(0, .retAddr q), (1, .int t1), (2, .ref 0), (3, .ref 86), (4, .int (zI cr)), (5, .int (zI (s : Int))), (9, .ref x), (10, .long dg), (12, .int (zI (j : Int))), (13, .int (zI (bI true))), (14, .int (zI (ws.length : Int)))] [] G m ce2 sl2 Q) : ∀ (k i : Nat) (b : Bool) (H : HF) (n ce sl : Nat), i + k = ws.length → ce ≤ c0 → sl ≤ s0 → WB H q d P cnt siz wdr num nd kd ws nid qid kid wid pid vd gr vr wl lk dk th pc pd kx pp pb cl cr dr lt fc tg → H x = some (true, 0, aI 6 (lkI P vr lk)) → (b = true ∨ ∃ w r, i ≤ w ∧ ws[w]? = some r ∧ (rT r : Int) = lkAt (chL vr lk wl) j 0) → Gw (some (L, ys)) xLaw 264 [(0, .retAddr q), (1, .int t1), (2, .ref 0), (3, .ref 86), (4, .int (zI cr)), (5, .int (zI (s : Int))), (9, .ref x), (10, .long dg), (12, .int (zI (j : Int))), (13, .int (zI (bI b))), (14, .int (zI (i : Int)))] [] H n ce sl Q := by
  intro k
  induction k with
  | zero =>
    intro i b H n ce sl hk hc0 hs0 hB h1 hb
    obtain rfl : i = ws.length := by omega
    have hb : b = true := by
      rcases hb with hb | ⟨w, r, hw, hr, -⟩
      · exact hb
      · have := (List.getElem?_eq_some_iff.mp hr).1
        omega
    subst hb
    have hw6 := hB.2.2.2.1.2.2.2.1.2.1
    have h0 := hB.1.1
    refine Gq_s (pc' := 266) rfl rfl rfl ?_
    refine Gq_s (pc' := 267) rfl rfl rfl ?_
    refine Gq_get (pc' := 270) rfl rfl (by first | assumption | exact upd_eq _ _ _ | ((repeat (refine (upd_ne _ _ (by omega)).trans ?_)); first | assumption | exact upd_eq _ _ _)) (by exact rfl) ?_
    refine Gq_cge (pc' := 273) (t := 308) rfl rfl rfl (by omega) (by omega) (fun _ => ?_) (fun hq => absurd (by omega) hq)
    exact kk H n ce sl hc0 hs0 hB h1
  | succ k ih =>
    intro i b H n ce sl hk hc0 hs0 hB h1 hb
    obtain ⟨hw, hN, hL, -, hR⟩ := b_ok hB
    obtain ⟨⟨hP2, hP6⟩, hcrb, -⟩ := b_P hB
    have hI := chL_inv (vr := vr) (lk := lk) hw
    have hlb := lkAt_b (p := j) (i := 0) hI
    have hw6 := hB.2.2.2.1.2.2.2.1
    have hil : i < ws.length := by omega
    have hr : ws[i]? = some ws[i] := List.getElem?_eq_getElem hil
    have hrm : NRok P ws[i] := hw6.2.2 _ (List.mem_of_getElem? hr)
    generalize ws[i] = r at hr hrm
    have hw6 := hw6.2.1
    have hrT := hrm.1
    have h0 := hB.1.1
    obtain ⟨-, -, -, -, -, -, -, hws, -, -, -, hwd⟩ := id hB.1
    have hr9 := (hwd i r hr).2
    have hb2 : ∀ b2 : Bool, (b = true → b2 = true) → ((rT r : Int) = lkAt (chL vr lk wl) j 0 → b2 = true) → (b2 = true ∨ ∃ w r, i + 1 ≤ w ∧ ws[w]? = some r ∧ (rT r : Int) = lkAt (chL vr lk wl) j 0) := fun b2 g1 g2 => by
      rcases hb with hb | ⟨w, r2, hw, hr2, he⟩
      · exact .inl (g1 hb)
      · by_cases e : w = i
        · subst e
          rw [hr] at hr2
          cases hr2
          exact .inl (g2 he)
        · exact .inr ⟨w, r2, by omega, hr2, he⟩
    refine Gq_s (pc' := 266) rfl rfl rfl ?_
    refine Gq_s (pc' := 267) rfl rfl rfl ?_
    refine Gq_get (pc' := 270) rfl rfl (by first | assumption | exact upd_eq _ _ _ | ((repeat (refine (upd_ne _ _ (by omega)).trans ?_)); first | assumption | exact upd_eq _ _ _)) (by exact rfl) ?_
    refine Gq_cge (pc' := 273) (t := 308) rfl rfl rfl (by omega) (by omega) (fun hq => absurd hq (by omega)) (fun _ => ?_)
    refine Gq_s (pc' := 275) rfl rfl rfl ?_
    refine Gq_s (pc' := 276) rfl rfl rfl ?_
    refine Gq_get (pc' := 279) rfl rfl (by first | assumption | exact upd_eq _ _ _ | ((repeat (refine (upd_ne _ _ (by omega)).trans ?_)); first | assumption | exact upd_eq _ _ _)) (by exact rfl) ?_
    refine Gq_s (pc' := 281) rfl rfl rfl ?_
    refine Gq_aald (pc' := 282) (j := i) rfl rfl (by first | assumption | exact upd_eq _ _ _ | ((repeat (refine (upd_ne _ _ (by omega)).trans ?_)); first | assumption | exact upd_eq _ _ _)) (by exact rfl) (rfl) (by omega) (by omega) (rv_if hil) ?_
    refine Gq_s (pc' := 283) rfl rfl rfl ?_
    refine Gq_iald (pc' := 284) (j := 0) rfl rfl (by first | assumption | exact upd_eq _ _ _ | ((repeat (refine (upd_ne _ _ (by omega)).trans ?_)); first | assumption | exact upd_eq _ _ _)) (rfl) (by omega) (by omega) ?_
    rw [show rw6 r 0 = (rT r : Int) from rfl]
    refine Gq_s (pc' := 285) rfl rfl rfl ?_
    refine Gq_s (pc' := 287) rfl rfl rfl ?_
    refine Gq_s (pc' := 288) rfl rfl rfl ?_
    refine Gq_callvA (pc' := 291) (Y := xm20) (rest := [_, _]) (cY := 0) (sY := 0) (cM := 732771) (sM := 6903564) rfl rfl rfl rfl rfl rfl rfl rfl rfl rfl rfl (by omega) (by omega) (q_chainAt n hB.2.1 hj (i := 0) (by omega)) (by exact hB.2.1.2.1) (fun v' G' n' hv => ?_)
    obtain ⟨rfl, rfl, hA9, hs9, -⟩ := hv
    replace h1 := (SFr_x hs9 hx).trans h1
    replace hB := WB_q hB hs9 hA9
    clear hA9 hs9
    refine Gq_cne (pc' := 294) (t := 298) rfl rfl rfl (by omega) (by omega) (fun he => ?_) (fun he => ?_)
    · refine Gq_s (pc' := 299) rfl rfl rfl ?_
      refine Gq_ior (pc' := 300) (zI (bI b)) rfl rfl (ior_0 b) ?_
      refine Gq_s (pc' := 302) (lv' := [(0, _), (1, _), (2, _), (3, _), (4, _), (5, _), (9, _), (10, _), (12, _), (13, _), (14, _)]) rfl rfl rfl ?_
      refine Gq_iinc (pc' := 305) (lv' := [(0, _), (1, _), (2, _), (3, _), (4, _), (5, _), (9, _), (10, _), (12, _), (13, _), (14, _)]) rfl rfl rfl rfl ?_
      refine Gq_goto rfl (t := 264) rfl ?_
      exact ih (i + 1) b _ _ _ _ (by omega) (by omega) (by omega) hB h1 (hb2 _ (fun h => by first | exact h | rfl) (fun h => by first | rfl | exact absurd h he))
    · refine Gq_s (pc' := 295) rfl rfl rfl ?_
      refine Gq_goto rfl (t := 299) rfl ?_
      refine Gq_ior (pc' := 300) (zI (bI true)) rfl rfl (ior_1 b) ?_
      refine Gq_s (pc' := 302) (lv' := [(0, _), (1, _), (2, _), (3, _), (4, _), (5, _), (9, _), (10, _), (12, _), (13, _), (14, _)]) rfl rfl rfl ?_
      refine Gq_iinc (pc' := 305) (lv' := [(0, _), (1, _), (2, _), (3, _), (4, _), (5, _), (9, _), (10, _), (12, _), (13, _), (14, _)]) rfl rfl rfl rfl ?_
      refine Gq_goto rfl (t := 264) rfl ?_
      exact ih (i + 1) true _ _ _ _ (by omega) (by omega) (by omega) hB h1 (hb2 _ (fun h => by first | exact h | rfl) (fun h => by first | rfl | exact absurd h he))
set_option maxRecDepth 20000 in
theorem t_lw_p1 {L : Nat} {ys : Nat → Int32} (hLs : L ≤ 100000) {H : HF} {q d P : Nat} {cnt : Nat → Nat} {siz : Nat → Nat → Int} {wdr : Nat → Nat → Bool} {num : Nat → Nat → Nat → Int} {nd kd : Nat → Nat → List NR} {ws : List NR} {nid qid kid : Nat → Nat → Nat} {wid : Nat → Nat} {pid : Nat → Nat} {vd gr : Nat → Nat → Nat} {vr : Nat → VR} {wl : List CR} {lk dk : Nat → Option Nat} {th : Bool} {pc pd : Nat} {kx : Nat → Int} {pp : Nat → Nat} {pb : Nat → Option Nat} {cl : List Nat} {cr dr lt fc : Int} {tg : Nat → Nat} {t1 : Int32} {s : Nat} {Q : XLf → Prop} (hQ : NoL2 Q) {n ce sl x j : Nat} {dg : Int64} (hj : j < P) {c0 s0 : Nat} (hc0 : ce ≤ c0) (hs0 : sl ≤ s0) (hc9 : c0 ≤ 730771) (hs9 : s0 ≤ 6883564) (kk : ∀ (G : HF) (m ce2 sl2 : Nat), ce2 ≤ c0 → sl2 ≤ s0 → WB G q d P cnt siz wdr num nd kd ws nid qid kid wid pid vd gr vr wl lk dk th pc pd kx pp pb cl cr dr lt fc tg → G x = some (true, 0, aI 6 (lkI P vr lk)) → Gw (some (L, ys)) xLaw 331 [(0, .retAddr q), (1, .int t1), (2, .ref 0), (3, .ref 86), (4, .int (zI cr)), (5, .int (zI (s : Int))), (9, .ref x), (10, .long dg), (12, .int (zI (j : Int)))] [] G m ce2 sl2 Q) (hx : 119 ≤ x) (hB : WB H q d P cnt siz wdr num nd kd ws nid qid kid wid pid vd gr vr wl lk dk th pc pd kx pp pb cl cr dr lt fc tg) (h1 : H x = some (true, 0, aI 6 (lkI P vr lk))) : Gw (some (L, ys)) xLaw 245 [(0, .retAddr q), (1, .int t1), (2, .ref 0), (3, .ref 86), (4, .int (zI cr)), (5, .int (zI (s : Int))), (9, .ref x), (10, .long dg), (12, .int (zI (j : Int)))] [] H n ce sl Q := by
  obtain ⟨hw, hN, hL, -, hR⟩ := b_ok hB
  obtain ⟨⟨hP2, hP6⟩, hcrb, -⟩ := b_P hB
  have hI := chL_inv (vr := vr) (lk := lk) hw
  have hDb := chL_b (vr := vr) (lk := lk) (wl := wl) j
  have hwl := hB.2.2.2.1.2.2.2.1.1
  have key : ∀ (b : Bool), ((chL vr lk wl).1 j = 0 → b = true) → ∀ (G : HF) (m ce2 sl2 : Nat), ce2 ≤ c0 → sl2 ≤ s0 → WB G q d P cnt siz wdr num nd kd ws nid qid kid wid pid vd gr vr wl lk dk th pc pd kx pp pb cl cr dr lt fc tg → G x = some (true, 0, aI 6 (lkI P vr lk)) → Gw (some (L, ys)) xLaw 264 [(0, .retAddr q), (1, .int t1), (2, .ref 0), (3, .ref 86), (4, .int (zI cr)), (5, .int (zI (s : Int))), (9, .ref x), (10, .long dg), (12, .int (zI (j : Int))), (13, .int (zI (bI b))), (14, .int (zI (0 : Int)))] [] G m ce2 sl2 Q := by
    intro b hb G m ce2 sl2 g1 g2 hB h1
    refine t_lw_w hLs hQ hx hj hc9 hs9 (fun G m ce sl hc0 hs0 hB h1 => ?_) ws.length 0 b G m ce2 sl2 (by omega) g1 g2 hB h1 ?_
    rotate_left
    · rcases Nat.eq_zero_or_pos ((chL vr lk wl).1 j) with h | h
      · exact .inl (hb h)
      · obtain ⟨c, hc, e⟩ := ch_first hI h
        rw [hwl] at hc
        obtain ⟨r, hr, rfl⟩ := List.mem_map.mp hc
        obtain ⟨w, hw⟩ := List.getElem?_of_mem hr
        exact .inr ⟨w, r, Nat.zero_le _, hw, e.symm⟩
    · refine Gq_s (pc' := 310) rfl rfl rfl ?_
      refine Gq_zeq (pc' := 313) (t := 329) rfl rfl rfl (by decide) (fun hq => absurd hq (fun q => absurd q (by decide))) (fun _ => ?_)
      refine Gq_s (pc' := 314) rfl rfl rfl ?_
      refine Gq_s (pc' := 316) rfl rfl rfl ?_
      refine Gq_s (pc' := 317) rfl rfl rfl ?_
      refine Gq_s (pc' := 319) rfl rfl rfl ?_
      refine Gq_callvA (pc' := 322) (Y := xm19) (rest := [_, _]) (cY := 0) (sY := 0) (cM := 732771) (sM := 6903564) rfl rfl rfl rfl rfl rfl rfl rfl rfl rfl rfl (by omega) (by omega) (q_depth _ hB.2.1 hj) (by exact hB.2.1.2.1) (fun v' G' n' hv => ?_)
      obtain ⟨rfl, rfl, hA9, hs9, -⟩ := hv
      replace h1 := (SFr_x hs9 hx).trans h1
      replace hB := WB_q hB hs9 hA9
      clear hA9 hs9
      refine Gq_callvA (pc' := 325) (Y := xm20) (rest := []) (cY := 0) (sY := 0) (cM := 732771) (sM := 6903564) rfl rfl rfl rfl rfl rfl rfl rfl rfl rfl rfl (by omega) (by omega) (q_chainAt _ hB.2.1 hj (i := (chL vr lk wl).1 j) (by omega)) (by exact hB.2.1.2.1) (fun v' G' n' hv => ?_)
      obtain ⟨rfl, rfl, hA9, hs9, -⟩ := hv
      replace h1 := (SFr_x hs9 hx).trans h1
      replace hB := WB_q hB hs9 hA9
      clear hA9 hs9
      rw [ch_end]
      refine Gq_s (pc' := 326) rfl rfl rfl ?_
      refine Gq_ceq (pc' := 329) (t := 331) rfl rfl rfl (by decide) (by decide) (fun _ => ?_) (fun hq => absurd (rfl) hq)
      refine Gq_wk2 (lv' := [(0, _), (1, _), (2, _), (3, _), (4, _), (5, _), (9, _), (10, _), (12, _)]) [0, 1, 2, 3, 4, 5, 9, 10, 12] rfl rfl hQ ?_
      exact kk _ _ _ _ (by omega) (by omega) hB h1
  refine Gq_s (pc' := 246) rfl rfl rfl ?_
  refine Gq_s (pc' := 248) rfl rfl rfl ?_
  refine Gq_callvA (pc' := 251) (Y := xm19) (rest := []) (cY := 0) (sY := 0) (cM := 732771) (sM := 6903564) rfl rfl rfl rfl rfl rfl rfl rfl rfl rfl rfl (by omega) (by omega) (q_depth _ hB.2.1 hj) (by exact hB.2.1.2.1) (fun v' G' n' hv => ?_)
  obtain ⟨rfl, rfl, hA9, hs9, -⟩ := hv
  replace h1 := (SFr_x hs9 hx).trans h1
  replace hB := WB_q hB hs9 hA9
  clear hA9 hs9
  refine Gq_zne (pc' := 254) (t := 258) rfl rfl rfl (by omega) (fun hD => ?_) (fun hD => ?_)
  · refine Gq_s (pc' := 259) rfl rfl rfl ?_
    refine Gq_s (pc' := 261) (lv' := [(0, _), (1, _), (2, _), (3, _), (4, _), (5, _), (9, _), (10, _), (12, _), (13, _)]) rfl rfl rfl ?_
    refine Gq_s (pc' := 262) rfl rfl rfl ?_
    refine Gq_s (pc' := 264) (lv' := [(0, _), (1, _), (2, _), (3, _), (4, _), (5, _), (9, _), (10, _), (12, _), (13, _), (14, _)]) rfl rfl rfl ?_
    exact key false (fun h => absurd h (by omega)) _ _ _ _ (by omega) (by omega) hB h1
  · refine Gq_s (pc' := 255) rfl rfl rfl ?_
    refine Gq_goto rfl (t := 259) rfl ?_
    refine Gq_s (pc' := 261) (lv' := [(0, _), (1, _), (2, _), (3, _), (4, _), (5, _), (9, _), (10, _), (12, _), (13, _)]) rfl rfl rfl ?_
    refine Gq_s (pc' := 262) rfl rfl rfl ?_
    refine Gq_s (pc' := 264) (lv' := [(0, _), (1, _), (2, _), (3, _), (4, _), (5, _), (9, _), (10, _), (12, _), (13, _), (14, _)]) rfl rfl rfl ?_
    exact key true (fun _ => rfl) _ _ _ _ (by omega) (by omega) hB h1
end XKJ
