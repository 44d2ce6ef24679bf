/-! the law's step, its first part (printed by wip/p46/gen59.py) -/
section XKG
/-- the law's world with all its data -/
def WB (H : HF) (q d P : Nat) (cnt : Nat → Nat) (siz : Nat → Nat → Int) (wdr : Nat → Nat → Bool) (num : Nat → Nat → Nat → Int) (nd kd : Nat → Nat → List NR) (ws : List NR) (nid qid kid : Nat → Nat → Nat) (wid : Nat → Nat) (pid : Nat → Nat) (vd gr : Nat → Nat → Nat) (vr : Nat → VR) (wl : List CR) (lk dk : Nat → Option Nat) (th : Bool) (pc pd : Nat) (kx : Nat → Int) (pp : Nat → Nat) (pb : Nat → Option Nat) (cl : List Nat) (cr dr lt fc : Int) (tg : Nat → Nat) : Prop := LwP H q d P cnt siz wdr num nd kd ws nid qid kid wid ∧ AllB H P pid cnt vd gr vr wl lk dk th pc pd kx pp pb cl cr dr lt fc ∧ RX H P pid cnt vd vr tg ∧ Lnk P cnt vd vr siz wdr num nd kd ws wl ∧ Fit cnt wdr nd kd
theorem cls_no {H : HF} {P : Nat} {cnt : Nat → Nat} {pid : Nat → Nat} {vd gr : Nat → Nat → Nat} {vr : Nat → VR} {wl : List CR} {lk dk : Nat → Option Nat} {th : Bool} {pc pd : Nat} {kx : Nat → Int} {pp : Nat → Nat} {pb : Nat → Option Nat} {cl : List Nat} {cr dr lt fc : Int} (hA : AllB H P pid cnt vd gr vr wl lk dk th pc pd kx pp pb cl cr dr lt fc) {o ci : Nat} {fs : List Value} (h1 : 86 ≤ o) (h2 : o < 119) (hc : H o = some (false, ci, fs)) : ¬ (ci = 8 ∨ ci = 10) := by
  obtain ⟨⟨-, h87, -⟩, h86, ⟨⟨w0, -, wc, w1, -⟩, -⟩, ⟨L0, L1, -⟩, ⟨D0, D1, -⟩, ⟨⟨p0, p1, p2, p3⟩, -⟩, ⟨⟨c0, -, -, hd, c1, -⟩, -⟩, -, ⟨lo, L2, -⟩, ⟨don, D2, -⟩, ⟨⟨tc, lv, tr, -, ⟨rl, rs, row, lev, z0, z1, z2, z3, -⟩, -⟩, ⟨zz, wc2, r0, r1⟩, r2, ⟨ch, r3⟩, ⟨on, r4, -⟩, cand, cc, r5, r6, -⟩, ⟨k0, len, ah, qu, s0, s1, s2, s3⟩, ta, tb, tcc, thd, -, -, -, t0, t1⟩ := hA
  have hn : o = 86 ∨ o = 87 ∨ o = 88 ∨ o = 89 ∨ o = 90 ∨ o = 91 ∨ o = 92 ∨ o = 93 ∨ o = 94 ∨ o = 95 ∨ o = 96 ∨ o = 97 ∨ o = 98 ∨ o = 99 ∨ o = 100 ∨ o = 101 ∨ o = 102 ∨ o = 103 ∨ o = 104 ∨ o = 105 ∨ o = 106 ∨ o = 107 ∨ o = 108 ∨ o = 109 ∨ o = 110 ∨ o = 111 ∨ o = 112 ∨ o = 113 ∨ o = 114 ∨ o = 115 ∨ o = 116 ∨ o = 117 ∨ o = 118 := by omega
  rcases hn with rfl | rfl | rfl | rfl | rfl | rfl | rfl | rfl | rfl | rfl | rfl | rfl | rfl | rfl | rfl | rfl | rfl | rfl | rfl | rfl | rfl | rfl | rfl | rfl | rfl | rfl | rfl | rfl | rfl | rfl | rfl | rfl | rfl
  · have e := hc.symm.trans h86; cases e <;> decide
  · have e := hc.symm.trans h87; cases e <;> decide
  · have e := hc.symm.trans w0; cases e <;> decide
  · have e := hc.symm.trans w1; cases e <;> decide
  · have e := hc.symm.trans L0; cases e <;> decide
  · have e := hc.symm.trans L1; cases e <;> decide
  · have e := hc.symm.trans L2; cases e <;> decide
  · have e := hc.symm.trans D0; cases e <;> decide
  · have e := hc.symm.trans D1; cases e <;> decide
  · have e := hc.symm.trans D2; cases e <;> decide
  · have e := hc.symm.trans z0; cases e <;> decide
  · have e := hc.symm.trans r0; cases e <;> decide
  · have e := hc.symm.trans r1; cases e <;> decide
  · have e := hc.symm.trans r2; cases e <;> decide
  · have e := hc.symm.trans r3; cases e <;> decide
  · have e := hc.symm.trans r4; cases e <;> decide
  · have e := hc.symm.trans r5; cases e <;> decide
  · have e := hc.symm.trans r6; cases e <;> decide
  · have e := hc.symm.trans z1; cases e <;> decide
  · have e := hc.symm.trans z2; cases e <;> decide
  · have e := hc.symm.trans z3; cases e <;> decide
  · have e := hc.symm.trans s0; cases e <;> decide
  · have e := hc.symm.trans s1; cases e <;> decide
  · have e := hc.symm.trans s2; cases e <;> decide
  · have e := hc.symm.trans s3; cases e <;> decide
  · have e := hc.symm.trans p0; cases e <;> decide
  · have e := hc.symm.trans p1; cases e <;> decide
  · have e := hc.symm.trans p2; cases e <;> decide
  · have e := hc.symm.trans p3; cases e <;> decide
  · have e := hc.symm.trans c0; cases e <;> decide
  · have e := hc.symm.trans c1; cases e <;> decide
  · have e := hc.symm.trans t0; cases e <;> decide
  · have e := hc.symm.trans t1; cases e <;> decide
theorem WB_c {H G : HF} {q d P : Nat} {cnt : Nat → Nat} {siz : Nat → Nat → Int} {wdr : Nat → Nat → Bool} {num : Nat → Nat → Nat → Int} {nd kd : Nat → Nat → List NR} {ws : List NR} {nid qid kid : Nat → Nat → Nat} {wid : Nat → Nat} {pid : Nat → Nat} {vd gr : Nat → Nat → Nat} {vr : Nat → VR} {wl : List CR} {lk dk : Nat → Option Nat} {th : Bool} {pc pd : Nat} {kx : Nat → Int} {pp : Nat → Nat} {pb : Nat → Option Nat} {cl : List Nat} {cr dr lt fc : Int} {tg : Nat → Nat} {lk2 : Nat → Option Nat} {dk2 : Nat → Option Nat} {th2 : Bool} {pc2 : Nat} {pd2 : Nat} {kx2 : Nat → Int} {pp2 : Nat → Nat} {pb2 : Nat → Option Nat} {cl2 : List Nat} {cr2 : Int} {dr2 : Int} {lt2 : Int} {fc2 : Int} (hW : WB H q d P cnt siz wdr num nd kd ws nid qid kid wid pid vd gr vr wl lk dk th pc pd kx pp pb cl cr dr lt fc tg) (hold : ∀ o c, (o < 86 ∨ 118 < o) → H o = some c → G o = some c) (h86 : ∀ o, o < 86 → G o = H o) (hA : AllB G P pid cnt vd gr vr wl lk2 dk2 th2 pc2 pd2 kx2 pp2 pb2 cl2 cr2 dr2 lt2 fc2) : WB G q d P cnt siz wdr num nd kd ws nid qid kid wid pid vd gr vr wl lk2 dk2 th2 pc2 pd2 kx2 pp2 pb2 cl2 cr2 dr2 lt2 fc2 tg := by
  obtain ⟨hLw, hA0, hX, hK, hFit⟩ := hW
  exact ⟨LwP_lf ⟨h86, fun o vs ho hc => hold o _ (.inr (by omega)) hc⟩ hLw, hA, RX_ge8 (fun o ci fs hci hc => by
    rcases Nat.lt_or_ge o 86 with h | h
    · exact hold o _ (.inl h) hc
    · rcases Nat.lt_or_ge o 119 with h2 | h2
      · exact absurd hci (cls_no hA0 h h2 hc)
      · exact hold o _ (.inr (by omega)) hc) hX, hK, hFit⟩
/-- the class at work -/
theorem WB_o {H G : HF} {q d P : Nat} {cnt : Nat → Nat} {siz : Nat → Nat → Int} {wdr : Nat → Nat → Bool} {num : Nat → Nat → Nat → Int} {nd kd : Nat → Nat → List NR} {ws : List NR} {nid qid kid : Nat → Nat → Nat} {wid : Nat → Nat} {pid : Nat → Nat} {vd gr : Nat → Nat → Nat} {vr : Nat → VR} {wl : List CR} {lk dk : Nat → Option Nat} {th : Bool} {pc pd : Nat} {kx : Nat → Int} {pp : Nat → Nat} {pb : Nat → Option Nat} {cl : List Nat} {cr dr lt fc : Int} {tg : Nat → Nat} {lk2 : Nat → Option Nat} {dk2 : Nat → Option Nat} {th2 : Bool} {pc2 : Nat} {pd2 : Nat} {kx2 : Nat → Int} {pp2 : Nat → Nat} {pb2 : Nat → Option Nat} {cl2 : List Nat} {cr2 : Int} {dr2 : Int} {lt2 : Int} {fc2 : Int} (hW : WB H q d P cnt siz wdr num nd kd ws nid qid kid wid pid vd gr vr wl lk dk th pc pd kx pp pb cl cr dr lt fc tg) (hold : ∀ o, (o < 86 ∨ 118 < o) → G o = H o) (hA : AllB G P pid cnt vd gr vr wl lk2 dk2 th2 pc2 pd2 kx2 pp2 pb2 cl2 cr2 dr2 lt2 fc2) : WB G q d P cnt siz wdr num nd kd ws nid qid kid wid pid vd gr vr wl lk2 dk2 th2 pc2 pd2 kx2 pp2 pb2 cl2 cr2 dr2 lt2 fc2 tg := WB_c hW (fun o c h hc => (hold o h).trans hc) (fun o h => hold o (.inl h)) hA
/-- a question -/
theorem WB_q {H G : HF} {q d P : Nat} {cnt : Nat → Nat} {siz : Nat → Nat → Int} {wdr : Nat → Nat → Bool} {num : Nat → Nat → Nat → Int} {nd kd : Nat → Nat → List NR} {ws : List NR} {nid qid kid : Nat → Nat → Nat} {wid : Nat → Nat} {pid : Nat → Nat} {vd gr : Nat → Nat → Nat} {vr : Nat → VR} {wl : List CR} {lk dk : Nat → Option Nat} {th : Bool} {pc pd : Nat} {kx : Nat → Int} {pp : Nat → Nat} {pb : Nat → Option Nat} {cl : List Nat} {cr dr lt fc : Int} {tg : Nat → Nat} (hW : WB H q d P cnt siz wdr num nd kd ws nid qid kid wid pid vd gr vr wl lk dk th pc pd kx pp pb cl cr dr lt fc tg) (hS : SFr H G) (hA : AllB G P pid cnt vd gr vr wl lk dk th pc pd kx pp pb cl cr dr lt fc) : WB G q d P cnt siz wdr num nd kd ws nid qid kid wid pid vd gr vr wl lk dk th pc pd kx pp pb cl cr dr lt fc tg := WB_o hW (fun o h => hS o (by omega) (by omega) (by omega) (by omega) (by omega)) hA
/-- new things -/
theorem WB_n {H G : HF} {n : Nat} {q d P : Nat} {cnt : Nat → Nat} {siz : Nat → Nat → Int} {wdr : Nat → Nat → Bool} {num : Nat → Nat → Nat → Int} {nd kd : Nat → Nat → List NR} {ws : List NR} {nid qid kid : Nat → Nat → Nat} {wid : Nat → Nat} {pid : Nat → Nat} {vd gr : Nat → Nat → Nat} {vr : Nat → VR} {wl : List CR} {lk dk : Nat → Option Nat} {th : Bool} {pc pd : Nat} {kx : Nat → Int} {pp : Nat → Nat} {pb : Nat → Option Nat} {cl : List Nat} {cr dr lt fc : Int} {tg : Nat → Nat} (hF : Frs H n) (hW : WB H q d P cnt siz wdr num nd kd ws nid qid kid wid pid vd gr vr wl lk dk th pc pd kx pp pb cl cr dr lt fc tg) (hold : ∀ o, o < n → G o = H o) : WB G q d P cnt siz wdr num nd kd ws nid qid kid wid pid vd gr vr wl lk dk th pc pd kx pp pb cl cr dr lt fc tg := by
  have hn := Wx_119 hW.2.1 hF
  exact WB_c hW (fun o c _ hc => (hold o (Fr_lt hF hc)).trans hc) (fun o h => hold o (by omega)) (AllB_ge (fun o c _ _ hc => (hold o (Fr_lt hF hc)).trans hc) hW.2.1)
theorem SFr_x {H G : HF} (h : SFr H G) {x : Nat} (hx : 119 ≤ x) : G x = H x := h x (by omega) (by omega) (by omega) (by omega) (by omega)
theorem WB_wx {H : HF} {q d P : Nat} {cnt : Nat → Nat} {siz : Nat → Nat → Int} {wdr : Nat → Nat → Bool} {num : Nat → Nat → Nat → Int} {nd kd : Nat → Nat → List NR} {ws : List NR} {nid qid kid : Nat → Nat → Nat} {wid : Nat → Nat} {pid : Nat → Nat} {vd gr : Nat → Nat → Nat} {vr : Nat → VR} {wl : List CR} {lk dk : Nat → Option Nat} {th : Bool} {pc pd : Nat} {kx : Nat → Int} {pp : Nat → Nat} {pb : Nat → Option Nat} {cl : List Nat} {cr dr lt fc : Int} {tg : Nat → Nat} {F : Int} {X : (Nat → Nat) → (Nat → Nat → List NR) → (Nat → Nat → List NR) → List NR → Prop} (hW : WB H q d P cnt siz wdr num nd kd ws nid qid kid wid pid vd gr vr wl lk dk th pc pd kx pp pb cl cr dr lt fc tg) (hfc : 0 ≤ fc ∧ fc ≤ F) (hX : X cnt nd kd ws) : Wx H q d P cr F X := by
  obtain ⟨h1, h2, h3, h4, h5⟩ := hW
  exact ⟨_, _, _, _, _, _, _, _, _, _, _, _, _, _, _, _, _, _, _, _, _, _, _, _, _, _, _, _, _, h1, h2, h3, h4, h5, hfc, hX⟩
theorem b_draw {L : Nat} {ys : Nat → Int32} (hLs : L ≤ 100000) {H : HF} (n : Nat) {q d P : Nat} {cnt : Nat → Nat} {siz : Nat → Nat → Int} {wdr : Nat → Nat → Bool} {num : Nat → Nat → Nat → Int} {nd kd : Nat → Nat → List NR} {ws : List NR} {nid qid kid : Nat → Nat → Nat} {wid : Nat → Nat} {pid : Nat → Nat} {vd gr : Nat → Nat → Nat} {vr : Nat → VR} {wl : List CR} {lk dk : Nat → Option Nat} {th : Bool} {pc pd : Nat} {kx : Nat → Int} {pp : Nat → Nat} {pb : Nat → Option Nat} {cl : List Nat} {cr dr lt fc : Int} {tg : Nat → Nat} (hW : WB H q d P cnt siz wdr num nd kd ws nid qid kid wid pid vd gr vr wl lk dk th pc pd kx pp pb cl cr dr lt fc tg) (hd : d < 1000000) {b : Int} (hb : 0 < b ∧ b < 1000000) : Rmt (some (L, ys)) 128 [.ref 0, .int (zI b)] H n (fun v G m => ∃ r : Nat, v = some (.int (zI (r : Int))) ∧ (r : Int) < b ∧ m = n ∧ WB G q ((d + 1)) P cnt siz wdr num nd kd ws nid qid kid wid pid vd gr vr wl lk dk th pc pd kx pp pb cl cr dr lt fc tg ∧ ∀ o, ¬ o = 0 → G o = H o) := by
  obtain ⟨hLw, hA, hX, hK, hFit⟩ := hW
  refine Rm_mono (t_draw hLs n hLw.1 hd hb) ?_
  rintro v G m ⟨r, x1, x2, x3, rfl⟩
  have hold : ∀ o, ¬ o = 0 → hup H 0 (false, 11, rgF q ((d + 1 : Nat) : Int) (P : Int) (ws.length : Int)) o = H o := fun o ho => upd_ne _ _ ho
  have h0 := hLw.1
  have hA2 := AllB_ge (Ge_upd (i := 0) (d := (false, 11, rgF q ((d + 1 : Nat) : Int) (P : Int) (ws.length : Int))) (Ge_refl H) (.inl (by omega))) hA
  have hX2 : RX (hup H 0 (false, 11, rgF q ((d + 1 : Nat) : Int) (P : Int) (ws.length : Int))) P pid cnt vd vr tg := RX_ge8 (fun o ci fs hci hc => by
    by_cases e : o = 0
    · subst e
      rw [h0] at hc
      cases hc
      omega
    · exact (hold o e).trans hc) hX
  obtain ⟨a, b, ⟨c, c2⟩, ⟨e, e2⟩, ⟨f, f2⟩, ⟨g, g2⟩, ⟨i, i2⟩, j, k1, k2, k3, k4⟩ := hLw
  have hD : ∀ {i N : Nat} {f : Nat → Int}, DI H i N f → DI (hup H 0 (false, 11, rgF q ((d + 1 : Nat) : Int) (P : Int) (ws.length : Int))) i N f := fun ⟨a, b⟩ => ⟨a, (hold _ (by omega)).trans b⟩
  refine ⟨r, x1, x2, x3, ⟨⟨upd_eq _ _ _, (hold _ (by omega)).trans b, ⟨(hold _ (by omega)).trans c, fun x hx => (hold _ (by omega)).trans (c2 x hx)⟩, ⟨(hold _ (by omega)).trans e, fun x hx => (hold _ (by omega)).trans (e2 x hx)⟩, ⟨(hold _ (by omega)).trans f, fun x hx => (hold _ (by omega)).trans (f2 x hx)⟩, ⟨(hold _ (by omega)).trans g, fun x hx => (hold _ (by omega)).trans (g2 x hx)⟩, ⟨(hold _ (by omega)).trans i, fun x hx => (hold _ (by omega)).trans (i2 x hx)⟩, (hold _ (by omega)).trans j, fun p v hp hv => hD (k1 p v hp hv), fun p v hp hv => hD (k2 p v hp hv), fun p v hp hv => hD (k3 p v hp hv), fun w r hw => hD (k4 w r hw)⟩, hA2, hX2, hK, hFit⟩, hold⟩
theorem b_P {H : HF} {q d P : Nat} {cnt : Nat → Nat} {siz : Nat → Nat → Int} {wdr : Nat → Nat → Bool} {num : Nat → Nat → Nat → Int} {nd kd : Nat → Nat → List NR} {ws : List NR} {nid qid kid : Nat → Nat → Nat} {wid : Nat → Nat} {pid : Nat → Nat} {vd gr : Nat → Nat → Nat} {vr : Nat → VR} {wl : List CR} {lk dk : Nat → Option Nat} {th : Bool} {pc pd : Nat} {kx : Nat → Int} {pp : Nat → Nat} {pb : Nat → Option Nat} {cl : List Nat} {cr dr lt fc : Int} {tg : Nat → Nat} (hW : WB H q d P cnt siz wdr num nd kd ws nid qid kid wid pid vd gr vr wl lk dk th pc pd kx pp pb cl cr dr lt fc tg) : (2 ≤ P ∧ P ≤ 6) ∧ (0 ≤ cr ∧ cr ≤ 20000) ∧ (0 ≤ dr ∧ dr ≤ 20000) ∧ pc ≤ 12 := ⟨hW.2.2.2.1.1, hW.2.1.2.2.2.2.2.2.1.2.1, hW.2.1.2.2.2.2.2.2.2.1, hW.2.1.2.2.2.2.2.1.2.1⟩
set_option maxRecDepth 20000 in
theorem t_lw_c {L : Nat} {ys : Nat → Int32} (hLs : L ≤ 100000) {H : HF} {n ce sl q d P p r7 : Nat} {cr F : Int} {c0 s0 D : Nat} {t1 : Int32} {s : Nat} {Q : XLf → Prop} (hQ : NoL2 Q) (hD : D < 500000) (h7 : r7 < 6) (hp : p < P) (hc0 : ce ≤ c0) (hs0 : sl ≤ s0) (hd : d + 1 ≤ D) (kk : ∀ (G : HF) (m ce2 sl2 d2 : Nat) (cr2 : Int), ce2 ≤ c0 → sl2 ≤ s0 → d2 ≤ D → Wx G q d2 P cr2 F (fun cnt _ _ _ => ∀ x, x < P → 1 ≤ cnt x) → Gw (some (L, ys)) xLaw 170 [(0, .retAddr q), (1, .int t1), (2, .ref 0), (3, .ref 86), (4, .int (zI cr2)), (5, .int (zI (s : Int))), (6, .int (zI (p : Int)))] [] G m ce2 sl2 Q) (hc9 : c0 ≤ 730771) (hs9 : s0 ≤ 6883564) (hW : Wx H q d P cr F (fun cnt _ _ _ => ∀ x, x < P → 1 ≤ cnt x)) : Gw (some (L, ys)) xLaw 138 [(0, .retAddr q), (1, .int t1), (2, .ref 0), (3, .ref 86), (4, .int (zI cr)), (5, .int (zI (s : Int))), (6, .int (zI (p : Int))), (7, .int (zI (r7 : Int)))] [] H n ce sl Q := by
  have hW0 := hW
  obtain ⟨cnt, siz, wdr, num, nd, kd, ws, nid, qid, kid, wid, pid, vd, gr, vr, wl, lk, dk, th, pc, pd, kx, pp, pb, cl, dr, lt, fc, tg, hLw, hA, hX, hK, hFit, hfc, hXX⟩ := hW
  obtain ⟨⟨hP2, hP6⟩, hcrb, -⟩ := b_P ⟨hLw, hA, hX, hK, hFit⟩
  refine Gq_s (pc' := 140) rfl rfl rfl ?_
  refine Gq_s (pc' := 141) rfl rfl rfl ?_
  refine Gq_cne (pc' := 144) (t := 170) rfl rfl rfl (by omega) (by omega) (fun h5 => ?_) (fun h5 => ?_)
  · refine Gq_wk2 (lv' := [(0, _), (1, _), (2, _), (3, _), (4, _), (5, _), (6, _)]) [0, 1, 2, 3, 4, 5, 6] rfl rfl hQ ?_
    exact kk H n ce sl d cr hc0 hs0 (by omega) hW0
  · refine Gq_s (pc' := 145) rfl rfl rfl ?_
    refine Gq_sipush (pc' := 148) rfl rfl (by decide) ?_
    refine Gq_callvA (pc' := 151) (Y := xm128) (rest := []) (cY := 0) (sY := 0) (cM := 732771) (sM := 6903564) rfl rfl rfl rfl rfl rfl rfl rfl rfl rfl rfl (by omega) (by omega) (w_draw hLs n hW0 (by omega) (b := 700) (by decide)) (by exact hLw.1) (fun v2 G2 n2 hv => ?_)
    obtain ⟨r8, rfl, hr8, rfl, hW2, -⟩ := hv
    clear hLw hA hX hK hFit hfc hXX
    obtain ⟨cnt, siz, wdr, num, nd, kd, ws, nid, qid, kid, wid, pid, vd, gr, vr, wl, lk, dk, th, pc, pd, kx, pp, pb, cl, dr, lt, fc, tg, hLw, hA, hX, hK, hFit, hfc, hXX⟩ := hW2
    refine Gq_s (pc' := 153) (lv' := [(0, _), (1, _), (2, _), (3, _), (4, _), (5, _), (6, _), (7, _), (8, _)]) rfl rfl rfl ?_
    refine Gq_s (pc' := 154) rfl rfl rfl ?_
    refine Gq_s (pc' := 156) rfl rfl rfl ?_
    refine Gq_callvA (pc' := 159) (Y := xm25) (rest := []) (cY := 0) (sY := 0) (cM := 732771) (sM := 6903564) rfl rfl rfl rfl rfl rfl rfl rfl rfl rfl rfl (by omega) (by omega) (w_setCache _ hA (z := (r8 : Int)) (by omega)) (by exact hA.2.1) (fun v3 G3 n3 hv => ?_)
    obtain ⟨rfl, rfl, hA3, h3⟩ := hv
    refine Gq_s (pc' := 161) rfl rfl rfl ?_
    refine Gq_ceq (pc' := 164) (t := 166) rfl rfl rfl (by omega) (by omega) (fun _ => ?_) (fun hq => absurd (by omega) hq)
    refine Gq_s (pc' := 168) rfl rfl rfl ?_
    refine Gq_s (pc' := 170) (lv' := [(0, _), (1, _), (2, _), (3, _), (4, _), (5, _), (6, _), (7, _), (8, _)]) rfl rfl rfl ?_
    refine Gq_wk2 (lv' := [(0, _), (1, _), (2, _), (3, _), (4, _), (5, _), (6, _)]) [0, 1, 2, 3, 4, 5, 6] rfl rfl hQ ?_
    exact kk G3 _ _ _ (d + 1) (r8 : Int) (by omega) (by omega) (by omega) (WB_wx (WB_o ⟨hLw, hA, hX, hK, hFit⟩ (fun o ho => h3 o (by omega)) hA3) hfc hXX)
end XKG
