/-! the law's step: what is published, withdrawn, wished for (printed by wip/p46/gen60.py) -/
section XKH
set_option maxRecDepth 20000 in
theorem t_lw_a {L : Nat} {ys : Nat → Int32} (hLs : L ≤ 100000) {H : HF} {n ce sl q d P : Nat} {cr F : Int} {c0 s0 D : Nat} {t1 : Int32} {s : Nat} {Q : XLf → Prop} (hQ : NoL2 Q) (hD : D < 300000) (hc0 : ce + 45 ≤ c0) (hs0 : sl + 477 ≤ s0) (hd : d + 40 ≤ D) (kk : ∀ (G : HF) (m ce2 sl2 d2 p : Nat) (cr2 : Int), ce2 ≤ c0 → sl2 ≤ s0 → d2 ≤ D → p < P → Wx G q d2 P cr2 F (fun cnt _ _ _ => ∀ x, x < P → 1 ≤ cnt x) → Gw (some (L, ys)) xLaw 170 [(0, .retAddr q), (1, .int t1), (2, .ref 0), (3, .ref 86), (4, .int (zI cr2)), (5, .int (zI (s : Int))), (6, .int (zI (p : Int)))] [] G m ce2 sl2 Q) (hc9 : c0 ≤ 730771) (hs9 : s0 ≤ 6883564) (hW : Wx H q d P cr F (fun cnt _ _ _ => ∀ x, x < P → 1 ≤ cnt x)) : Gw (some (L, ys)) xLaw 52 [(0, .retAddr q), (1, .int t1), (2, .ref 0), (3, .ref 86), (4, .int (zI cr)), (5, .int (zI (s : Int)))] [] H n ce sl Q := by
  have hW0 := hW
  obtain ⟨cnt, siz, wdr, num, nd, kd, ws, nid, qid, kid, wid, pid, vd, gr, vr, wl, lk, dk, th, pc, pd, kx, pp, pb, cl, dr, lt, fc, tg, hLw, hA, hX, hK, hFit, hfc, hXX⟩ := hW
  obtain ⟨⟨hP2, hP6⟩, hcrb, -⟩ := b_P ⟨hLw, hA, hX, hK, hFit⟩
  have h0 := hLw.1
  refine Gq_s (pc' := 53) rfl rfl rfl ?_
  refine Gq_s (pc' := 54) rfl rfl rfl ?_
  refine Gq_get (pc' := 57) rfl rfl (by first | assumption | exact upd_eq _ _ _ | ((repeat (refine (upd_ne _ _ (by omega)).trans ?_)); first | assumption | exact upd_eq _ _ _)) (by exact rfl) ?_
  refine Gq_callvA (pc' := 60) (Y := xm128) (rest := []) (cY := 0) (sY := 0) (cM := 732771) (sM := 6903564) rfl rfl rfl rfl rfl rfl rfl rfl rfl rfl rfl (by omega) (by omega) (w_draw hLs n hW0 (by omega) (b := (P : Int)) (by omega)) (by exact h0) (fun v1 G1 n1 hv => ?_)
  obtain ⟨p, rfl, hp, rfl, hW1, hs1⟩ := hv
  have h01 : ∃ x, G1 0 = some (false, 11, x) := by
    obtain ⟨cnt, siz, wdr, num, nd, kd, ws, nid, qid, kid, wid, pid, vd, gr, vr, wl, lk, dk, th, pc, pd, kx, pp, pb, cl, dr, lt, fc, tg, hLw, -⟩ := hW1
    exact ⟨_, hLw.1⟩
  obtain ⟨y1, h01⟩ := h01
  clear hLw hA hX hK hFit hfc hXX h0 hW0
  refine Gq_s (pc' := 62) (lv' := [(0, _), (1, _), (2, _), (3, _), (4, _), (5, _), (6, _)]) rfl rfl rfl ?_
  refine Gq_s (pc' := 63) rfl rfl rfl ?_
  refine Gq_bipush (pc' := 65) rfl rfl (by decide) ?_
  refine Gq_callvA (pc' := 68) (Y := xm128) (rest := []) (cY := 0) (sY := 0) (cM := 732771) (sM := 6903564) rfl rfl rfl rfl rfl rfl rfl rfl rfl rfl rfl (by omega) (by omega) (w_draw hLs _ hW1 (by omega) (b := 6) (by decide)) (by exact h01) (fun v2 G2 n2 hv => ?_)
  obtain ⟨r7, rfl, hr7, rfl, hW2, hs2⟩ := hv
  clear hs1 hs2 h01
  have hW0 := hW2
  obtain ⟨cnt, siz, wdr, num, nd, kd, ws, nid, qid, kid, wid, pid, vd, gr, vr, wl, lk, dk, th, pc, pd, kx, pp, pb, cl, dr, lt, fc, tg, hLw, hA, hX, hK, hFit, hfc, hXX⟩ := hW2
  obtain ⟨h0, hc1, ⟨hm0, hm1⟩, ⟨hz0, hz1⟩, ⟨hi0, hi1⟩, ⟨hq0, hq1⟩, ⟨hk0, hk1⟩, hws, hnd, hqd, hkd, hwd⟩ := id hLw
  obtain ⟨⟨hP2, hP6⟩, hcnt, hvr, ⟨hwl, hwn, hwr⟩, hkk, hnm, hsz⟩ := id hK
  refine Gq_s (pc' := 70) (lv' := [(0, _), (1, _), (2, _), (3, _), (4, _), (5, _), (6, _), (7, _)]) rfl rfl rfl ?_
  have hc4 := hcnt p (by omega)
  have h7 : r7 = 0 ∨ r7 = 1 ∨ (2 ≤ r7 ∧ r7 < 5) ∨ r7 = 5 := by omega
  rcases h7 with rfl | rfl | h7 | rfl
  · refine Gq_s (pc' := 72) rfl rfl rfl ?_
    refine Gq_zne (pc' := 75) (t := 95) rfl rfl rfl (by omega) (fun hq => absurd hq (by omega)) (fun _ => ?_)
    refine Gq_s (pc' := 76) rfl rfl rfl ?_
    refine Gq_get (pc' := 79) rfl rfl (by first | assumption | exact upd_eq _ _ _ | ((repeat (refine (upd_ne _ _ (by omega)).trans ?_)); first | assumption | exact upd_eq _ _ _)) (by exact rfl) ?_
    refine Gq_s (pc' := 81) rfl rfl rfl ?_
    refine Gq_iald (pc' := 82) (j := p) rfl rfl (by first | assumption | exact upd_eq _ _ _ | ((repeat (refine (upd_ne _ _ (by omega)).trans ?_)); first | assumption | exact upd_eq _ _ _)) (rfl) (by omega) (by omega) ?_
    refine Gq_s (pc' := 83) rfl rfl rfl ?_
    refine Gq_cge (pc' := 86) (t := 95) rfl rfl rfl (by omega) (by omega) (fun h4 => ?_) (fun h4 => ?_)
    · refine Gq_s (pc' := 97) rfl rfl rfl ?_
      refine Gq_s (pc' := 98) rfl rfl rfl ?_
      refine Gq_cne (pc' := 101) (t := 108) rfl rfl rfl (by omega) (by omega) (fun _ => ?_) (fun hq => absurd (by omega) hq)
      refine Gq_s (pc' := 110) rfl rfl rfl ?_
      refine Gq_s (pc' := 111) rfl rfl rfl ?_
      refine Gq_cle (pc' := 114) (t := 138) rfl rfl rfl (by omega) (by omega) (fun _ => ?_) (fun hq => absurd (by omega) hq)
      exact t_lw_c hLs hQ (D := D) (c0 := c0) (s0 := s0) (by omega) (r7 := 0) (by omega) (p := p) (by omega) (by omega) (by omega) (by omega) (fun G m ce2 sl2 d2 cr2 a b c e => kk G m ce2 sl2 d2 p cr2 a b c (by omega) e) (by omega) (by omega) hW0
    · refine Gq_s (pc' := 87) rfl rfl rfl ?_
      refine Gq_s (pc' := 89) rfl rfl rfl ?_
      refine Gq_callvA (pc' := 92) (Y := xm133) (rest := []) (cY := 40) (sY := 400) (cM := 732771) (sM := 6903564) rfl rfl rfl rfl rfl rfl rfl rfl rfl rfl rfl (by omega) (by omega) (t_publish hLs _ (C := fun cnt => (∀ x, x < P → 1 ≤ cnt x) ∧ cnt p < 4) (p := p) (WB_wx ⟨hLw, hA, hX, hK, hFit⟩ hfc ⟨hXX, by omega⟩) (by omega) (by omega) (fun c h => h.2)) (by exact h0) (fun v3 G3 n3 hv => ?_)
      obtain ⟨rfl, d3, hd3, hW3⟩ := hv
      refine Gq_zeq (pc' := 95) (t := 136) rfl rfl rfl (by decide) (fun hq => absurd hq (fun q => absurd q (by decide))) (fun _ => ?_)
      refine Gq_s (pc' := 97) rfl rfl rfl ?_
      refine Gq_s (pc' := 98) rfl rfl rfl ?_
      refine Gq_cne (pc' := 101) (t := 108) rfl rfl rfl (by omega) (by omega) (fun _ => ?_) (fun hq => absurd (by omega) hq)
      refine Gq_s (pc' := 110) rfl rfl rfl ?_
      refine Gq_s (pc' := 111) rfl rfl rfl ?_
      refine Gq_cle (pc' := 114) (t := 138) rfl rfl rfl (by omega) (by omega) (fun _ => ?_) (fun hq => absurd (by omega) hq)
      exact t_lw_c hLs hQ (D := D) (c0 := c0) (s0 := s0) (by omega) (r7 := 0) (by omega) (p := p) (by omega) (by omega) (by omega) (by omega) (fun G m ce2 sl2 d2 cr2 a b c e => kk G m ce2 sl2 d2 p cr2 a b c (by omega) e) (by omega) (by omega) (Wx_mono hW3 (Int.le_refl _) (fun a _ _ _ h x hx => by
        obtain ⟨c, c2, ⟨h1, h2⟩, rfl, h5, h6, h7⟩ := h
        by_cases e : x = p
        · rw [e, fset_eq]; exact h5
        · rw [fset_ne _ _ e]; exact h1 x hx))
  · refine Gq_s (pc' := 72) rfl rfl rfl ?_
    refine Gq_zne (pc' := 75) (t := 95) rfl rfl rfl (by omega) (fun _ => ?_) (fun hq => absurd (by omega) hq)
    refine Gq_s (pc' := 97) rfl rfl rfl ?_
    refine Gq_s (pc' := 98) rfl rfl rfl ?_
    refine Gq_cne (pc' := 101) (t := 108) rfl rfl rfl (by omega) (by omega) (fun hq => absurd hq (by omega)) (fun _ => ?_)
    refine Gq_s (pc' := 102) rfl rfl rfl ?_
    refine Gq_callvA (pc' := 105) (Y := xm136) (rest := []) (cY := 0) (sY := 0) (cM := 732771) (sM := 6903564) rfl rfl rfl rfl rfl rfl rfl rfl rfl rfl rfl (by omega) (by omega) (t_withdraw hLs _ (C := fun cnt => ∀ x, x < P → 1 ≤ cnt x) hW0 (by omega) (fun c h => h)) (by exact h0) (fun v3 G3 n3 hv => ?_)
    obtain ⟨rfl, d3, hd3, hW3⟩ := hv
    refine Gq_zeq (pc' := 108) (t := 136) rfl rfl rfl (by decide) (fun hq => absurd hq (fun q => absurd q (by decide))) (fun _ => ?_)
    refine Gq_s (pc' := 110) rfl rfl rfl ?_
    refine Gq_s (pc' := 111) rfl rfl rfl ?_
    refine Gq_cle (pc' := 114) (t := 138) rfl rfl rfl (by omega) (by omega) (fun _ => ?_) (fun hq => absurd (by omega) hq)
    exact t_lw_c hLs hQ (D := D) (c0 := c0) (s0 := s0) (by omega) (r7 := 1) (by omega) (p := p) (by omega) (by omega) (by omega) (by omega) (fun G m ce2 sl2 d2 cr2 a b c e => kk G m ce2 sl2 d2 p cr2 a b c (by omega) e) (by omega) (by omega) hW3
  · refine Gq_s (pc' := 72) rfl rfl rfl ?_
    refine Gq_zne (pc' := 75) (t := 95) rfl rfl rfl (by omega) (fun _ => ?_) (fun hq => absurd (by omega) hq)
    refine Gq_s (pc' := 97) rfl rfl rfl ?_
    refine Gq_s (pc' := 98) rfl rfl rfl ?_
    refine Gq_cne (pc' := 101) (t := 108) rfl rfl rfl (by omega) (by omega) (fun _ => ?_) (fun hq => absurd (by omega) hq)
    refine Gq_s (pc' := 110) rfl rfl rfl ?_
    refine Gq_s (pc' := 111) rfl rfl rfl ?_
    refine Gq_cle (pc' := 114) (t := 138) rfl rfl rfl (by omega) (by omega) (fun hq => absurd hq (by omega)) (fun _ => ?_)
    refine Gq_s (pc' := 116) rfl rfl rfl ?_
    refine Gq_s (pc' := 117) rfl rfl rfl ?_
    refine Gq_cge (pc' := 120) (t := 138) rfl rfl rfl (by omega) (by omega) (fun hq => absurd hq (by omega)) (fun _ => ?_)
    refine Gq_s (pc' := 121) rfl rfl rfl ?_
    refine Gq_get (pc' := 124) rfl rfl (by first | assumption | exact upd_eq _ _ _ | ((repeat (refine (upd_ne _ _ (by omega)).trans ?_)); first | assumption | exact upd_eq _ _ _)) (by exact rfl) ?_
    refine Gq_bipush (pc' := 126) rfl rfl (by decide) ?_
    refine Gq_cge (pc' := 129) (t := 138) rfl rfl rfl (by omega) (by omega) (fun h6 => ?_) (fun h6 => ?_)
    · exact t_lw_c hLs hQ (D := D) (c0 := c0) (s0 := s0) (by omega) (r7 := r7) (by omega) (p := p) (by omega) (by omega) (by omega) (by omega) (fun G m ce2 sl2 d2 cr2 a b c e => kk G m ce2 sl2 d2 p cr2 a b c (by omega) e) (by omega) (by omega) hW0
    · refine Gq_s (pc' := 130) rfl rfl rfl ?_
      refine Gq_callvA (pc' := 133) (Y := xm135) (rest := []) (cY := 5) (sY := 77) (cM := 732771) (sM := 6903564) rfl rfl rfl rfl rfl rfl rfl rfl rfl rfl rfl (by omega) (by omega) (t_wish hLs _ (C := fun cnt => ∀ x, x < P → 1 ≤ cnt x) (WB_wx ⟨hLw, hA, hX, hK, hFit⟩ hfc ⟨hXX, by omega⟩) (by omega)) (by exact h0) (fun v3 G3 n3 hv => ?_)
      obtain ⟨rfl, d3, hd3, hW3⟩ := hv
      refine Gq_zne (pc' := 136) (t := 138) rfl rfl rfl (by decide) (fun _ => ?_) (fun hq => absurd (by decide) hq)
      exact t_lw_c hLs hQ (D := D) (c0 := c0) (s0 := s0) (by omega) (r7 := r7) (by omega) (p := p) (by omega) (by omega) (by omega) (by omega) (fun G m ce2 sl2 d2 cr2 a b c e => kk G m ce2 sl2 d2 p cr2 a b c (by omega) e) (by omega) (by omega) hW3
  · refine Gq_s (pc' := 72) rfl rfl rfl ?_
    refine Gq_zne (pc' := 75) (t := 95) rfl rfl rfl (by omega) (fun _ => ?_) (fun hq => absurd (by omega) hq)
    refine Gq_s (pc' := 97) rfl rfl rfl ?_
    refine Gq_s (pc' := 98) rfl rfl rfl ?_
    refine Gq_cne (pc' := 101) (t := 108) rfl rfl rfl (by omega) (by omega) (fun _ => ?_) (fun hq => absurd (by omega) hq)
    refine Gq_s (pc' := 110) rfl rfl rfl ?_
    refine Gq_s (pc' := 111) rfl rfl rfl ?_
    refine Gq_cle (pc' := 114) (t := 138) rfl rfl rfl (by omega) (by omega) (fun hq => absurd hq (by omega)) (fun _ => ?_)
    refine Gq_s (pc' := 116) rfl rfl rfl ?_
    refine Gq_s (pc' := 117) rfl rfl rfl ?_
    refine Gq_cge (pc' := 120) (t := 138) rfl rfl rfl (by omega) (by omega) (fun _ => ?_) (fun hq => absurd (by omega) hq)
    exact t_lw_c hLs hQ (D := D) (c0 := c0) (s0 := s0) (by omega) (r7 := 5) (by omega) (p := p) (by omega) (by omega) (by omega) (by omega) (fun G m ce2 sl2 d2 cr2 a b c e => kk G m ce2 sl2 d2 p cr2 a b c (by omega) e) (by omega) (by omega) hW0
end XKH
