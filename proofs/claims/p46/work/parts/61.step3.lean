/-! the law's step: resolved, sound (printed by wip/p46/gen61.py) -/
section XKI
/-- the law's world with its lock -/
def Wl (H : HF) (q d P : Nat) (cr F : Int) (x : Nat) : Prop := ∃ cnt siz wdr num nd kd ws nid qid kid wid pid vd gr vr wl lk dk th pc pd kx pp pb cl dr lt fc tg, WB H q d P cnt siz wdr num nd kd ws nid qid kid wid pid vd gr vr wl lk dk th pc pd kx pp pb cl cr dr lt fc tg ∧ (∀ x, x < P → 1 ≤ cnt x) ∧ (0 ≤ fc ∧ fc ≤ F) ∧ 119 ≤ x ∧ H x = some (true, 0, aI 6 (lkI P vr lk))
theorem b_ok {H : HF} {q d P : Nat} {cnt : Nat → Nat} {siz : Nat → Nat → Int} {wdr : Nat → Nat → Bool} {num : Nat → Nat → Nat → Int} {nd kd : Nat → Nat → List NR} {ws : List NR} {nid qid kid : Nat → Nat → Nat} {wid : Nat → Nat} {pid : Nat → Nat} {vd gr : Nat → Nat → Nat} {vr : Nat → VR} {wl : List CR} {lk dk : Nat → Option Nat} {th : Bool} {pc pd : Nat} {kx : Nat → Int} {pp : Nat → Nat} {pb : Nat → Option Nat} {cl : List Nat} {cr dr lt fc : Int} {tg : Nat → Nat} (hW : WB H q d P cnt siz wdr num nd kd ws nid qid kid wid pid vd gr vr wl lk dk th pc pd kx pp pb cl cr dr lt fc tg) : (∀ c ∈ wl, cOK c) ∧ NOK vr lk ∧ (∀ q o, lk q = some o → Own P cnt vd q o) ∧ (∀ q o, dk q = some o → Own P cnt vd q o) ∧ RG H P pid cnt vd gr vr := by
  obtain ⟨-, ⟨hR, -, ⟨hWi, -⟩, ⟨-, -, hL⟩, ⟨-, -, hD⟩, -⟩, -⟩ := hW
  exact ⟨WiAt_ok hWi, NOK_of (RG_vs hR) (Own_ch hL), hL, hD, hR⟩
set_option maxRecDepth 20000 in
theorem t_lw_r {L : Nat} {ys : Nat → Int32} (hLs : L ≤ 100000) {H : HF} {n ce sl q d P p : Nat} {cr F : Int} {t1 : Int32} {s : Nat} {Q : XLf → Prop} (hQ : NoL2 Q) (hd : d < 300000) (hp : p < P) (kk : ∀ (G : HF) (m ce2 sl2 x : Nat), ce2 ≤ ce + 31 → sl2 ≤ sl + 126 → Wl G q (d + 1) P cr F x → Gw (some (L, ys)) xLaw 227 [(0, .retAddr q), (1, .int t1), (2, .ref 0), (3, .ref 86), (4, .int (zI cr)), (5, .int (zI (s : Int))), (9, .ref x)] [] G m ce2 sl2 Q) (hce : ce ≤ 730771) (hsl : sl ≤ 6883564) (hW : Wx H q d P cr F (fun cnt _ _ _ => ∀ x, x < P → 1 ≤ cnt x)) : Gw (some (L, ys)) xLaw 170 [(0, .retAddr q), (1, .int t1), (2, .ref 0), (3, .ref 86), (4, .int (zI cr)), (5, .int (zI (s : Int))), (6, .int (zI (p : Int)))] [] H n ce sl Q := by
  have hW0 := hW
  obtain ⟨cnt, siz, wdr, num, nd, kd, ws, nid, qid, kid, wid, pid, vd, gr, vr, wl, lk, dk, th, pc, pd, kx, pp, pb, cl, dr, lt, fc, tg, hLw, hA, hX, hK, hFit, hfc, hXX⟩ := hW
  obtain ⟨⟨hP2, hP6⟩, hcrb, -⟩ := b_P ⟨hLw, hA, hX, hK, hFit⟩
  have h0 := hLw.1
  clear hA hX hK hFit hfc hXX hLw
  refine Gq_s (pc' := 171) rfl rfl rfl ?_
  refine Gq_s (pc' := 172) rfl rfl rfl ?_
  refine Gq_s (pc' := 173) rfl rfl rfl ?_
  refine Gq_callvA (pc' := 176) (Y := xm128) (rest := [_]) (cY := 0) (sY := 0) (cM := 732771) (sM := 6903564) rfl rfl rfl rfl rfl rfl rfl rfl rfl rfl rfl (by omega) (by omega) (w_draw hLs n hW0 (by omega) (b := 4) (by decide)) (by exact h0) (fun v1 G1 n1 hv => ?_)
  obtain ⟨r, rfl, hr, rfl, hW1, -⟩ := hv
  clear h0
  obtain ⟨cnt, siz, wdr, num, nd, kd, ws, nid, qid, kid, wid, pid, vd, gr, vr, wl, lk, dk, th, pc, pd, kx, pp, pb, cl, dr, lt, fc, tg, hLw, hA, hX, hK, hFit, hfc, hXX⟩ := hW1
  refine Gq_s (pc' := 178) rfl rfl rfl ?_
  refine Gq_callvA (pc' := 181) (Y := xm11) (rest := []) (cY := 0) (sY := 0) (cM := 732771) (sM := 6903564) rfl rfl rfl rfl rfl rfl rfl rfl rfl rfl rfl (by omega) (by omega) (w_resolve _ hA hp (z := (r : Int)) (by omega)) (by exact hA.2.1) (fun v2 G2 n2 hv => ?_)
  obtain ⟨rfl, hs, told, lt2, rfl, hto, hv⟩ := hv
  have hB1 : WB G1 q ((d + 1)) P cnt siz wdr num nd kd ws nid qid kid wid pid vd gr vr wl lk dk th pc pd kx pp pb cl cr dr lt fc tg := ⟨hLw, hA, hX, hK, hFit⟩
  refine Gq_fr (fun hF => ?_)
  rcases hv with ⟨hneg, hA2⟩ | ⟨ch2, hpos, hfo, hA2⟩
  · have hB2 := WB_o hB1 hs hA2
    refine Gq_s (pc' := 183) (lv' := [(0, _), (1, _), (2, _), (3, _), (4, _), (5, _), (6, _), (8, _)]) rfl rfl rfl ?_
    refine Gq_s (pc' := 184) rfl rfl rfl ?_
    refine Gq_callvA (pc' := 187) (Y := xm141) (rest := []) (cY := 1) (sY := 6) (cM := 732771) (sM := 6903564) rfl rfl rfl rfl rfl rfl rfl rfl rfl rfl rfl (by omega) (by omega) (t_lock hLs _ hA2 hB2.1.1 hP6) (by exact hB2.1.1) (fun v3 G3 n3 hv => ?_)
    obtain ⟨rfl, rfl, h1, hs3⟩ := hv
    have hx := Wx_119 hB2.2.1 hF
    have hB3 := WB_n hF hB2 (fun o ho => hs3 o (by omega))
    refine Gq_s (pc' := 189) (lv' := [(0, _), (1, _), (2, _), (3, _), (4, _), (5, _), (6, _), (8, _), (9, _)]) rfl rfl rfl ?_
    refine Gq_s (pc' := 191) rfl rfl rfl ?_
    refine Gq_zlt (pc' := 194) (t := 227) rfl rfl rfl (by omega) (fun _ => ?_) (fun hq => absurd (by omega) hq)
    refine Gq_wk2 (lv' := [(0, _), (1, _), (2, _), (3, _), (4, _), (5, _), (9, _)]) [0, 1, 2, 3, 4, 5, 9] rfl rfl hQ ?_
    exact kk G3 _ _ _ _ (by omega) (by omega) ⟨_, _, _, _, _, _, _, _, _, _, _, _, _, _, _, _, _, _, _, _, _, _, _, _, _, _, _, _, _, hB3, hXX, hfc, hx, h1⟩
  · have hB2 := WB_o hB1 hs hA2
    refine Gq_s (pc' := 183) (lv' := [(0, _), (1, _), (2, _), (3, _), (4, _), (5, _), (6, _), (8, _)]) rfl rfl rfl ?_
    refine Gq_s (pc' := 184) rfl rfl rfl ?_
    refine Gq_callvA (pc' := 187) (Y := xm141) (rest := []) (cY := 1) (sY := 6) (cM := 732771) (sM := 6903564) rfl rfl rfl rfl rfl rfl rfl rfl rfl rfl rfl (by omega) (by omega) (t_lock hLs _ hA2 hB2.1.1 hP6) (by exact hB2.1.1) (fun v3 G3 n3 hv => ?_)
    obtain ⟨rfl, rfl, h1, hs3⟩ := hv
    have hx := Wx_119 hB2.2.1 hF
    have hB3 := WB_n hF hB2 (fun o ho => hs3 o (by omega))
    refine Gq_s (pc' := 189) (lv' := [(0, _), (1, _), (2, _), (3, _), (4, _), (5, _), (6, _), (8, _), (9, _)]) rfl rfl rfl ?_
    refine Gq_s (pc' := 191) rfl rfl rfl ?_
    refine Gq_zlt (pc' := 194) (t := 227) rfl rfl rfl (by omega) (fun hq => absurd hq (by omega)) (fun _ => ?_)
    obtain ⟨hw, hN, hL, -, -⟩ := b_ok hB3
    refine Gq_s (pc' := 195) rfl rfl rfl ?_
    refine Gq_callvA (pc' := 198) (Y := xm16) (rest := []) (cY := 0) (sY := 0) (cM := 732771) (sM := 6903564) rfl rfl rfl rfl rfl rfl rfl rfl rfl rfl rfl (by omega) (by omega) (q_isSound _ hB3.2.1) (by exact hB3.2.1.2.1) (fun v4 G4 n4 hv => ?_)
    obtain ⟨rfl, rfl, hA4, hs4⟩ := hv
    have hB4 := WB_q hB3 hs4 hA4
    rw [found_ok hfo]
    refine Gq_zeq (pc' := 201) (t := 225) rfl rfl rfl (by decide) (fun hq => absurd hq (fun q => absurd q (by decide))) (fun _ => ?_)
    refine Gq_s (pc' := 202) rfl rfl rfl ?_
    refine Gq_callvA (pc' := 205) (Y := xm17) (rest := []) (cY := 0) (sY := 0) (cM := 732771) (sM := 6903564) rfl rfl rfl rfl rfl rfl rfl rfl rfl rfl rfl (by omega) (by omega) (q_idle _ hA4) (by exact hA4.2.1) (fun v5 G5 n5 hv => ?_)
    obtain ⟨rfl, rfl, hA5, hs5, -⟩ := hv
    have hB5 := WB_q hB4 hs5 hA5
    have h15 := (SFr_x hs5 hx).trans ((SFr_x hs4 hx).trans h1)
    rw [found_idle hw hN hfo]
    refine Gq_zne (pc' := 208) (t := 225) rfl rfl rfl (by decide) (fun hq => absurd hq (by decide)) (fun _ => ?_)
    refine Gq_s (pc' := 209) rfl rfl rfl ?_
    refine Gq_s (pc' := 211) rfl rfl rfl ?_
    refine Gq_s (pc' := 212) rfl rfl rfl ?_
    refine Gq_fr (fun hF5 => ?_)
    refine Gq_callvA (pc' := 215) (Y := xm139) (rest := []) (cY := 30) (sY := 120) (cM := 732771) (sM := 6903564) rfl rfl rfl rfl rfl rfl rfl rfl rfl rfl rfl (by omega) (by omega) (t_goes hLs _ hB5.1 hB5.2.2.2.1 hL hN hw hx h15 (found_ok hfo)) (by exact hB5.1.1) (fun v6 G6 n6 hv => ?_)
    obtain ⟨rfl, hs6⟩ := hv
    have hB6 := WB_n hF5 hB5 hs6
    have h16 := (hs6 _ (Fr_lt hF5 h15)).trans h15
    refine Gq_zeq (pc' := 218) (t := 225) rfl rfl rfl (by decide) (fun hq => absurd hq (fun q => absurd q (by decide))) (fun _ => ?_)
    refine Gq_s (pc' := 219) rfl rfl rfl ?_
    refine Gq_callvA (pc' := 222) (Y := xm27) (rest := []) (cY := 0) (sY := 0) (cM := 732771) (sM := 6903564) rfl rfl rfl rfl rfl rfl rfl rfl rfl rfl rfl (by omega) (by omega) (q_steps _ hB6.2.1) (by exact hB6.2.1.2.1) (fun v7 G7 n7 hv => ?_)
    obtain ⟨rfl, rfl, hA7, hs7⟩ := hv
    have hB7 := WB_q hB6 hs7 hA7
    refine Gq_zeq (pc' := 225) (t := 227) rfl rfl rfl (by decide) (fun _ => ?_) (fun hq => absurd (by decide) hq)
    refine Gq_wk2 (lv' := [(0, _), (1, _), (2, _), (3, _), (4, _), (5, _), (9, _)]) [0, 1, 2, 3, 4, 5, 9] rfl rfl hQ ?_
    exact kk G7 _ _ _ _ (by omega) (by omega) ⟨_, _, _, _, _, _, _, _, _, _, _, _, _, _, _, _, _, _, _, _, _, _, _, _, _, _, _, _, _, hB7, hXX, hfc, hx, (SFr_x hs7 hx).trans h16⟩
end XKI
