/-! the law's make (printed by wip/p46/gen56.py) -/
section XKC
theorem fset_zero (p : Nat) : fset (fun _ : Nat => (0 : Nat)) p 0 = fun _ => 0 := by
  funext i
  by_cases e : i = p
  · rw [e, fset_eq]
  · rw [fset_ne _ _ e]
/-- while it is made: j versions asked for package p, all before it have some, none behind it -/
def CMk (p j : Nat) (cnt : Nat → Nat) : Prop := (∀ x, x < p → 1 ≤ cnt x) ∧ (∀ x, p < x → cnt x = 0) ∧ cnt p ≤ j ∧ (1 ≤ j → 1 ≤ cnt p)
theorem CMk_pub {p j : Nat} {cnt : Nat → Nat} (h : CPub (CMk p j) p cnt) : CMk p (j + 1) cnt := by
  obtain ⟨c, c2, ⟨h1, h2, h3, h4⟩, rfl, h5, h6, h7⟩ := h
  refine ⟨fun x hx => ?_, fun x hx => ?_, ?_, fun _ => ?_⟩
  · rw [fset_ne _ _ (by omega)]; exact h1 x hx
  · rw [fset_ne _ _ (by omega)]; exact h2 x hx
  · rw [fset_eq]; omega
  · rw [fset_eq]; exact h5
theorem CMk_nx {p j : Nat} {cnt : Nat → Nat} (hj : 1 ≤ j) (h : CMk p j cnt) : CMk (p + 1) 0 cnt := by
  obtain ⟨h1, h2, h3, h4⟩ := h
  refine ⟨fun x hx => ?_, fun x hx => h2 x (by omega), Nat.le_of_eq (h2 (p + 1) (by omega)), fun z => absurd z (by omega)⟩
  by_cases e : x = p
  · rw [e]; exact h4 hj
  · exact h1 x (by omega)
set_option maxRecDepth 20000 in
theorem t_mk_k {L : Nat} {ys : Nat → Int32} (hLs : L ≤ 100000) {q P : Nat} {cr F : Int} {p c0 s0 D : Nat} {Q : XLf → Prop} (hp : p < P) (hQ : NoL Q) (hc0 : c0 ≤ 830) (hs0 : s0 ≤ 8600) (hD : D < 300000) (kk : ∀ (G : HF) (m ce sl d2 : Nat), d2 ≤ D → ce ≤ c0 → sl ≤ s0 → Wx G q d2 P cr F (fun cnt _ _ _ => CMk (p + 1) 0 cnt) → Gw (some (L, ys)) xm134 78 [(0, .ref 0), (1, .int (zI (p : Int)))] [] G m ce sl Q) : ∀ (k j : Nat) (H : HF) (n ce sl d : Nat), j + k ≤ 4 → 1 ≤ j + k → d + 30 * k ≤ D → ce + 40 * k ≤ c0 → sl + 400 * k ≤ s0 → Wx H q d P cr F (fun cnt _ _ _ => CMk p j cnt) → Gw (some (L, ys)) xm134 58 [(0, .ref 0), (1, .int (zI (p : Int))), (2, .int (zI (k : Int)))] [] H n ce sl Q := by
  intro k
  induction k with
  | zero =>
    intro j H n ce sl d hj hj1 hd hce hsl hW
    refine Gq_s (pc' := 59) rfl rfl rfl ?_
    refine Gq_zle (pc' := 62) (t := 78) rfl rfl rfl (by omega) (fun _ => ?_) (fun hq => absurd (by omega) hq)
    refine Gq_wk (lv' := [(0, _), (1, _)]) [0, 1] rfl rfl hQ ?_
    exact kk H n ce sl d (by omega) (by omega) (by omega) (Wx_mono hW (Int.le_refl _) (fun a _ _ _ h => CMk_nx (by omega) h))
  | succ k ih =>
    intro j H n ce sl d hj hj1 hd hce hsl hW
    obtain ⟨r0, h0⟩ : ∃ x, H 0 = some (false, 11, x) := by
      obtain ⟨cnt, siz, wdr, num, nd, kd, ws, nid, qid, kid, wid, pid, vd, gr, vr, wl, lk, dk, th, pc, pd, kx, pp, pb, cl, dr, lt, fc, tg, hLw, -⟩ := hW
      exact ⟨_, hLw.1⟩
    refine Gq_s (pc' := 59) rfl rfl rfl ?_
    refine Gq_zle (pc' := 62) (t := 78) rfl rfl rfl (by omega) (fun hq => absurd hq (by omega)) (fun _ => ?_)
    refine Gq_s (pc' := 63) rfl rfl rfl ?_
    refine Gq_s (pc' := 64) rfl rfl rfl ?_
    refine Gq_callvA (pc' := 67) (Y := xm133) (rest := []) (cY := 40) (sY := 400) (cM := 830) (sM := 8600) rfl rfl rfl rfl rfl rfl rfl rfl rfl rfl rfl (by omega) (by omega) (t_publish hLs n hW (by omega) hp (fun cnt h => by have := h.2.2.1; omega)) (by first | assumption | exact upd_eq _ _ _ | ((repeat (refine (upd_ne _ _ (by omega)).trans ?_)); first | assumption | exact upd_eq _ _ _)) (fun v2 G2 n2 hv => ?_)
    obtain ⟨rfl, d2, h2, hW2⟩ := hv
    refine Gq_zne (pc' := 70) (t := 72) rfl rfl rfl (by decide) (fun _ => ?_) (fun hq => absurd (fun q => absurd q (by decide)) hq)
    refine Gq_iinc (pc' := 75) (lv' := [(0, _), (1, _), (2, _)]) rfl rfl rfl rfl ?_
    refine Gq_goto rfl (t := 58) rfl ?_
    rw [show ((k + 1 : Nat) : Int) + -1 = (k : Int) by omega]
    exact ih (j + 1) G2 n2 _ _ d2 (by omega) (by omega) (by omega) (by omega) (by omega) (Wx_mono hW2 (Int.le_refl _) (fun a _ _ _ h => CMk_pub h))
set_option maxRecDepth 20000 in
theorem t_mk_p {L : Nat} {ys : Nat → Int32} (hLs : L ≤ 100000) {q P : Nat} {cr F : Int} (hP5 : P ≤ 5) {D : Nat} (hD : D < 300000) : ∀ (k p : Nat) (H : HF) (n ce sl d : Nat), p + k = P → d + 121 * k ≤ D → ce + 160 * k ≤ 830 → sl + 1600 * k ≤ 8600 → Wx H q d P cr F (fun cnt _ _ _ => CMk p 0 cnt) → Gw (some (L, ys)) xm134 42 [(0, .ref 0), (1, .int (zI (p : Int)))] [] H n ce sl (MQe xm134 (fun v G _ => v = some (.int (zI (bI true))) ∧ ∃ d2, d2 ≤ D ∧ Wx G q d2 P cr F (fun cnt _ _ _ => ∀ x, x < P → 1 ≤ cnt x))) := by
  intro k
  induction k with
  | zero =>
    intro p H n ce sl d hk hd hce hsl hW
    have hW0 := hW
    obtain ⟨r0, h0⟩ : ∃ W : Int, H 0 = some (false, 11, rgF q (d : Int) (P : Int) W) := by
      obtain ⟨cnt, siz, wdr, num, nd, kd, ws, nid, qid, kid, wid, pid, vd, gr, vr, wl, lk, dk, th, pc, pd, kx, pp, pb, cl, dr, lt, fc, tg, hLw, -⟩ := hW
      exact ⟨_, hLw.1⟩
    refine Gq_s (pc' := 43) rfl rfl rfl ?_
    refine Gq_s (pc' := 44) rfl rfl rfl ?_
    refine Gq_get (pc' := 47) rfl rfl (by first | assumption | exact upd_eq _ _ _ | ((repeat (refine (upd_ne _ _ (by omega)).trans ?_)); first | assumption | exact upd_eq _ _ _)) (by exact rfl) ?_
    refine Gq_cge (pc' := 50) (t := 84) rfl rfl rfl (by omega) (by omega) (fun _ => ?_) (fun hq => absurd (by omega) hq)
    refine Gq_s (pc' := 85) rfl rfl rfl ?_
    exact Gq_retA (cM := 830) (sM := 8600) rfl rfl rfl (by omega) (by omega) (rfl) (⟨rfl, d, by omega, Wx_mono hW0 (Int.le_refl _) (fun a _ _ _ h x hx => h.1 x (by omega))⟩)
  | succ k ih =>
    intro p H n ce sl d hk hd hce hsl hW
    obtain ⟨r0, h0⟩ : ∃ W : Int, H 0 = some (false, 11, rgF q (d : Int) (P : Int) W) := by
      obtain ⟨cnt, siz, wdr, num, nd, kd, ws, nid, qid, kid, wid, pid, vd, gr, vr, wl, lk, dk, th, pc, pd, kx, pp, pb, cl, dr, lt, fc, tg, hLw, -⟩ := hW
      exact ⟨_, hLw.1⟩
    refine Gq_s (pc' := 43) rfl rfl rfl ?_
    refine Gq_s (pc' := 44) rfl rfl rfl ?_
    refine Gq_get (pc' := 47) rfl rfl (by first | assumption | exact upd_eq _ _ _ | ((repeat (refine (upd_ne _ _ (by omega)).trans ?_)); first | assumption | exact upd_eq _ _ _)) (by exact rfl) ?_
    refine Gq_cge (pc' := 50) (t := 84) rfl rfl rfl (by omega) (by omega) (fun hq => absurd hq (by omega)) (fun _ => ?_)
    refine Gq_s (pc' := 51) rfl rfl rfl ?_
    refine Gq_s (pc' := 52) rfl rfl rfl ?_
    refine Gq_s (pc' := 53) rfl rfl rfl ?_
    refine Gq_callvA (pc' := 56) (Y := xm128) (rest := [_]) (cY := 0) (sY := 0) (cM := 830) (sM := 8600) rfl rfl rfl rfl rfl rfl rfl rfl rfl rfl rfl (by omega) (by omega) (w_draw hLs n hW (by omega) (by decide)) (by first | assumption | exact upd_eq _ _ _ | ((repeat (refine (upd_ne _ _ (by omega)).trans ?_)); first | assumption | exact upd_eq _ _ _)) (fun v2 G2 n2 hv => ?_)
    obtain ⟨r, rfl, hr, hn2, hW2, -⟩ := hv
    refine Gq_iadd (pc' := 57) rfl rfl ?_
    refine Gq_s (pc' := 58) (lv' := [(0, _), (1, _), (2, _)]) rfl rfl rfl ?_
    rw [show (1 : Int) + (r : Int) = ((r + 1 : Nat) : Int) by omega]
    refine t_mk_k hLs (D := d + 1 + 30 * (r + 1)) (c0 := ce + 40 * (r + 1)) (s0 := sl + 400 * (r + 1)) (show p < P by omega) MQ_nl (by omega) (by omega) (by omega) (fun G m c9 s9 d9 h1 h2 h3 hW3 => ?_) (r + 1) 0 G2 n2 _ _ (d + 1) (by omega) (by omega) (by omega) (by omega) (by omega) hW2
    refine Gq_iinc (pc' := 81) (lv' := [(0, _), (1, _)]) rfl rfl rfl rfl ?_
    refine Gq_goto rfl (t := 42) rfl ?_
    exact ih (p + 1) G m _ _ d9 (by omega) (by omega) (by omega) (by omega) hW3
set_option maxRecDepth 20000 in
theorem t_mk_a {L : Nat} {ys : Nat → Int32} (hLs : L ≤ 100000) {q d P : Nat} {siz : Nat → Nat → Int} {wdr : Nat → Nat → Bool} {num : Nat → Nat → Nat → Int} {nd kd : Nat → Nat → List NR} {nid qid kid : Nat → Nat → Nat} {wid : Nat → Nat} {vd gr : Nat → Nat → Nat} {vr : Nat → VR} {lk dk : Nat → Option Nat} {th : Bool} {pc pd : Nat} {kx : Nat → Int} {pp : Nat → Nat} {pb : Nat → Option Nat} {cl : List Nat} {cr dr lt : Int} {tg : Nat → Nat} (hP : 2 ≤ P ∧ P ≤ 5) (hFit : Fit (fun _ => 0) wdr nd kd) (hd : d < 200000) : ∀ (k p : Nat) (pid : Nat → Nat) (H : HF) (n ce sl : Nat), p + k = P → ce = 3 * p → sl = 19 * p → LwP H q d P (fun _ => 0) siz wdr num nd kd [] nid qid kid wid → AllB H p pid (fun _ => 0) vd gr vr [] lk dk th pc pd kx pp pb cl cr dr lt 0 → RX H p pid (fun _ => 0) vd vr tg → Gw (some (L, ys)) xm134 13 [(0, .ref 0), (1, .int (zI (p : Int)))] [] H n ce sl (MQe xm134 (fun v G _ => v = some (.int (zI (bI true))) ∧ ∃ d2, d2 ≤ d + 606 ∧ Wx G q d2 P cr 0 (fun cnt _ _ _ => ∀ x, x < P → 1 ≤ cnt x))) := by
  intro k
  induction k with
  | zero =>
    intro p pid H n ce sl hk hce hsl hLw hA hX
    obtain rfl : p = P := by omega
    have h0 := hLw.1
    refine Gq_s (pc' := 14) rfl rfl rfl ?_
    refine Gq_s (pc' := 15) rfl rfl rfl ?_
    refine Gq_get (pc' := 18) rfl rfl (by first | assumption | exact upd_eq _ _ _ | ((repeat (refine (upd_ne _ _ (by omega)).trans ?_)); first | assumption | exact upd_eq _ _ _)) (by exact rfl) ?_
    refine Gq_cge (pc' := 21) (t := 40) rfl rfl rfl (by omega) (by omega) (fun _ => ?_) (fun hq => absurd (by omega) hq)
    refine Gq_s (pc' := 41) rfl rfl rfl ?_
    refine Gq_s (pc' := 42) (lv' := [(0, _), (1, _)]) rfl rfl rfl ?_
    refine Gq_mq (t_mk_p hLs (cr := cr) (F := 0) hP.2 (D := d + 605) (by omega) p 0 H n ce sl d (by omega) (by omega) (by omega) (by omega) ⟨_, _, _, _, _, _, _, _, _, _, _, _, _, _, _, _, _, _, _, _, _, _, _, _, _, _, _, _, _, hLw, hA, hX, ⟨⟨hP.1, by omega⟩, fun _ _ => by show 0 ≤ 4; omega, fun _ _ _ z => absurd z (by show ¬ _ < 0; omega), ⟨rfl, Nat.zero_le _, fun _ z => by cases z⟩, fun _ _ _ z => absurd z (by show ¬ _ < 0; omega), fun _ _ _ _ z => absurd z (by show ¬ _ < 0; omega), fun _ _ _ z => absurd z (by show ¬ _ < 0; omega)⟩, hFit, ⟨Int.le_refl _, Int.le_refl _⟩, ⟨fun x z => absurd z (by omega), fun _ _ => rfl, Nat.le_refl _, fun z => absurd z (by omega)⟩⟩) ?_
    rintro v9 G9 m9 ⟨q1, d3, q2, q3⟩
    exact ⟨q1, d3, by omega, q3⟩
  | succ k ih =>
    intro p pid H n ce sl hk hce hsl hLw hA hX
    have h0 := hLw.1
    have g86 := hA.2.1
    refine Gq_s (pc' := 14) rfl rfl rfl ?_
    refine Gq_s (pc' := 15) rfl rfl rfl ?_
    refine Gq_get (pc' := 18) rfl rfl (by first | assumption | exact upd_eq _ _ _ | ((repeat (refine (upd_ne _ _ (by omega)).trans ?_)); first | assumption | exact upd_eq _ _ _)) (by exact rfl) ?_
    refine Gq_cge (pc' := 21) (t := 40) rfl rfl rfl (by omega) (by omega) (fun hq => absurd hq (by omega)) (fun _ => ?_)
    refine Gq_s (pc' := 22) rfl rfl rfl ?_
    refine Gq_get (pc' := 25) rfl rfl (by first | assumption | exact upd_eq _ _ _ | ((repeat (refine (upd_ne _ _ (by omega)).trans ?_)); first | assumption | exact upd_eq _ _ _)) (by exact rfl) ?_
    refine Gq_callvA (pc' := 28) (Y := xm1) (rest := []) (cY := 3) (sY := 19) (cM := 830) (sM := 8600) rfl rfl rfl rfl rfl rfl rfl rfl rfl rfl rfl (by omega) (by omega) (q_addPk n hA hX (by omega)) (by first | assumption | exact upd_eq _ _ _ | ((repeat (refine (upd_ne _ _ (by omega)).trans ?_)); first | assumption | exact upd_eq _ _ _)) (fun v2 G2 n2 hv => ?_)
    obtain ⟨rfl, rfl, hA2, hX2, hLF⟩ := hv
    rw [fset_zero] at hA2 hX2
    refine Gq_s (pc' := 29) rfl rfl rfl ?_
    refine Gq_ceq (pc' := 32) (t := 34) rfl rfl rfl (by omega) (by omega) (fun _ => ?_) (fun hq => absurd (rfl) hq)
    refine Gq_iinc (pc' := 37) (lv' := [(0, _), (1, _)]) rfl rfl rfl rfl ?_
    refine Gq_goto rfl (t := 13) rfl ?_
    exact ih (p + 1) _ G2 _ _ _ (by omega) (by omega) (by omega) (LwP_lf hLF hLw) hA2 hX2
set_option maxRecDepth 20000 in
theorem t_make {L : Nat} {ys : Nat → Int32} (hLs : L ≤ 100000) {H : HF} (n : Nat) {q d P0 : Nat} {pid : Nat → Nat} {siz : Nat → Nat → Int} {wdr : Nat → Nat → Bool} {num : Nat → Nat → Nat → Int} {nd kd : Nat → Nat → List NR} {nid qid kid : Nat → Nat → Nat} {wid : Nat → Nat} {vd gr : Nat → Nat → Nat} {vr : Nat → VR} {lk dk : Nat → Option Nat} {th : Bool} {pc pd : Nat} {kx : Nat → Int} {pp : Nat → Nat} {pb : Nat → Option Nat} {cl : List Nat} {cr dr lt : Int} {tg : Nat → Nat} (hLw : LwP H q d P0 (fun _ => 0) siz wdr num nd kd [] nid qid kid wid) (hA : AllB H 0 pid (fun _ => 0) vd gr vr [] lk dk th pc pd kx pp pb cl cr dr lt 0) (hX : RX H 0 pid (fun _ => 0) vd vr tg) (hFit : Fit (fun _ => 0) wdr nd kd) (hd : d < 100000) : Rmt (some (L, ys)) 134 [.ref 0] H n (fun v G _ => v = some (.int (zI (bI true))) ∧ ∃ P d2, (2 ≤ P ∧ P ≤ 5) ∧ d2 ≤ d + 610 ∧ Wx G q d2 P cr 0 (fun cnt _ _ _ => ∀ x, x < P → 1 ≤ cnt x)) := by
  refine Rm_fr (fun hF => ?_)
  refine Rm_of (M := xm134) (lv := [(0, _)]) rfl rfl rfl ?_
  have h0 := hLw.1
  have hn9 := Wx_119 hA hF
  refine Gq_s (pc' := 1) rfl rfl rfl ?_
  refine Gq_s (pc' := 2) rfl rfl rfl ?_
  refine Gq_s (pc' := 3) rfl rfl rfl ?_
  refine Gq_s (pc' := 4) rfl rfl rfl ?_
  refine Gq_callv (pc' := 7) (Y := xm128) (rest := [_, _]) (ce' := 0) (sl' := 0) rfl rfl rfl rfl rfl rfl rfl rfl rfl (t_draw hLs _ (d := d) h0 (by omega) (by decide)) (by first | assumption | exact upd_eq _ _ _ | ((repeat (refine (upd_ne _ _ (by omega)).trans ?_)); first | assumption | exact upd_eq _ _ _)) (fun v1 H1 n1 hv => ?_)
  obtain ⟨r, rfl, hr, hn1, rfl⟩ := hv
  subst n1
  refine Gq_iadd (pc' := 8) rfl rfl ?_
  refine Gq_put (pc' := 11) (fs' := [_, _, _, _, _, _, _, _, _, _, _, _, _]) rfl rfl (by first | assumption | exact upd_eq _ _ _ | ((repeat (refine (upd_ne _ _ (by omega)).trans ?_)); first | assumption | exact upd_eq _ _ _)) (by exact rfl) (by first | rfl | exact xfit_bI _) (by exact rfl) ?_
  refine Gq_s (pc' := 12) rfl rfl rfl ?_
  refine Gq_s (pc' := 13) (lv' := [(0, _), (1, _)]) rfl rfl rfl ?_
  rw [upd_upd]
  refine Gq_mq (P := fun v G _ => v = some (.int (zI (bI true))) ∧ ∃ d2, d2 ≤ d + 1 + 606 ∧ Wx G q d2 (2 + r) cr 0 (fun cnt _ _ _ => ∀ x, x < 2 + r → 1 ≤ cnt x)) (t_mk_a hLs (P := 2 + r) (d := d + 1) (siz := siz) (num := num) (nid := nid) (qid := qid) (kid := kid) (wid := wid) ⟨by omega, by omega⟩ hFit (by omega) (2 + r) 0 pid _ n 0 0 (by omega) (by omega) (by omega) ?_ (AllB_ge (Lw_ge (Lw_hup0 h0 _)) hA) (RX_ge8 (Lw_ge8 (Lw_hup0 h0 _)) hX)) ?_
  · obtain ⟨a, b, ⟨c, c2⟩, ⟨e, e2⟩, ⟨f, f2⟩, ⟨g, g2⟩, ⟨i, i2⟩, j, k1, k2, k3, k4⟩ := hLw
    have hr9 : ∀ o c, ¬ o = 0 → H o = some c → hup H 0 (false, 11, rgF q ((d + 1 : Nat) : Int) (2 + (r : Int)) 0) o = some c := fun o c h hc => (upd_ne _ _ h).trans hc
    have hD : ∀ {i N : Nat} {f : Nat → Int}, DI H i N f → DI (hup H 0 (false, 11, rgF q ((d + 1 : Nat) : Int) (2 + (r : Int)) 0)) i N f := fun {i N f} ⟨a, b⟩ => ⟨a, hr9 _ _ (by omega) b⟩
    exact ⟨upd_eq _ _ _, hr9 _ _ (by omega) b, ⟨hr9 _ _ (by omega) c, fun x hx => hr9 _ _ (by omega) (c2 x hx)⟩, ⟨hr9 _ _ (by omega) e, fun x hx => hr9 _ _ (by omega) (e2 x hx)⟩, ⟨hr9 _ _ (by omega) f, fun x hx => hr9 _ _ (by omega) (f2 x hx)⟩, ⟨hr9 _ _ (by omega) g, fun x hx => hr9 _ _ (by omega) (g2 x hx)⟩, ⟨hr9 _ _ (by omega) i, fun x hx => hr9 _ _ (by omega) (i2 x hx)⟩, hr9 _ _ (by omega) j, fun p v hp hv => hD (k1 p v hp hv), fun p v hp hv => hD (k2 p v hp hv), fun p v hp hv => hD (k3 p v hp hv), fun w r hw => hD (k4 w r hw)⟩
  · rintro v9 G9 m9 ⟨q1, d3, q2, q3⟩
    exact ⟨q1, 2 + r, d3, ⟨by omega, by omega⟩, by omega, q3⟩
end XKC
