/-! the law's publish (printed by wip/p46/gen54.py) -/
section XKA
def CPub (C : (Nat → Nat) → Prop) (p : Nat) (cnt2 : Nat → Nat) : Prop := ∃ cnt c2, C cnt ∧ cnt2 = fset cnt p c2 ∧ 1 ≤ c2 ∧ cnt p ≤ c2 ∧ c2 ≤ cnt p + 1
theorem fset_self (f : Nat → Nat) (p : Nat) : fset f p (f p) = f := by
  funext i
  by_cases e : i = p
  · subst e; exact fset_eq _ _ _
  · exact fset_ne _ _ e
theorem LwP_dr {H G : HF} {q d d' P : Nat} {cnt : Nat → Nat} {siz : Nat → Nat → Int} {wdr : Nat → Nat → Bool} {num : Nat → Nat → Nat → Int} {nd kd : Nat → Nat → List NR} {ws : List NR} {nid qid kid : Nat → Nat → Nat} {wid : Nat → Nat} (hl : LwP H q d P cnt siz wdr num nd kd ws nid qid kid wid) (g0 : G 0 = some (false, 11, rgF q (d' : Int) (P : Int) (ws.length : Int))) (hr : ∀ o, o < 86 → ¬ o = 0 → G o = H o) (hint : ∀ o vs, 119 ≤ o → H o = some (true, 0, vs) → G o = some (true, 0, vs)) : LwP G q d' P cnt siz wdr num nd kd ws nid qid kid wid := by
  have hD : ∀ {i N : Nat} {f : Nat → Int}, DI H i N f → DI G i N f := fun {i N f} ⟨a, b⟩ => ⟨a, by
    rcases a with a | a
    · exact (hr i (by omega) (by omega)).trans b
    · exact hint i _ a b⟩
  obtain ⟨a, b, ⟨c, c2⟩, ⟨e, e2⟩, ⟨f, f2⟩, ⟨g, g2⟩, ⟨i, i2⟩, j, k1, k2, k3, k4⟩ := hl
  exact ⟨g0, (hr _ (by omega) (by omega)).trans b, ⟨(hr _ (by omega) (by omega)).trans c, fun x hx => (hr _ (by omega) (by omega)).trans (c2 x hx)⟩, ⟨(hr _ (by omega) (by omega)).trans e, fun x hx => (hr _ (by omega) (by omega)).trans (e2 x hx)⟩, ⟨(hr _ (by omega) (by omega)).trans f, fun x hx => (hr _ (by omega) (by omega)).trans (f2 x hx)⟩, ⟨(hr _ (by omega) (by omega)).trans g, fun x hx => (hr _ (by omega) (by omega)).trans (g2 x hx)⟩, ⟨(hr _ (by omega) (by omega)).trans i, fun x hx => (hr _ (by omega) (by omega)).trans (i2 x hx)⟩, (hr _ (by omega) (by omega)).trans j, fun p v hp hv => hD (k1 p v hp hv), fun p v hp hv => hD (k2 p v hp hv), fun p v hp hv => hD (k3 p v hp hv), fun w r hw => hD (k4 w r hw)⟩
theorem Lw_hup0 {H : HF} {x : List Value} (h0 : H 0 = some (false, 11, x)) (d : XCl) : Lw H (hup H 0 d) := fun o c hc => by
  by_cases e : o = 0
  · subst e
    rw [h0] at hc
    cases hc
    exact .inr ⟨by omega, .inr rfl⟩
  · exact .inl ((upd_ne _ _ e).trans hc)
theorem row5 {t k a b e : Nat} : aI (1 + 4) (fun j => if j < 1 then fset (fun _ => 0) 0 (t : Int) j else f4 (k : Int) (a : Int) (b : Int) (e : Int) (j - 1)) = aI (5 * [((t, -1, 0, (k : Int), (a : Int), (b : Int), (e : Int)) : NR)].length) (rw5 [(t, -1, 0, (k : Int), (a : Int), (b : Int), (e : Int))]) := aX_ext fun j hj => by
  have : j = 0 ∨ j = 1 ∨ j = 2 ∨ j = 3 ∨ j = 4 := by omega
  rcases this with rfl | rfl | rfl | rfl | rfl <;> rfl
theorem row7 {t f k a b e : Nat} {c : Int} : aI (3 + 4) (fun j => if j < 3 then fset (fset (fset (fun _ => 0) 0 (t : Int)) 1 c) 2 (f : Int) j else f4 (k : Int) (a : Int) (b : Int) (e : Int) (j - 3)) = aI 7 (c7 (t, c, f, (k : Int), (a : Int), (b : Int), (e : Int))) := aX_ext fun j hj => by
  have : j = 0 ∨ j = 1 ∨ j = 2 ∨ j = 3 ∨ j = 4 ∨ j = 5 ∨ j = 6 := by omega
  rcases this with rfl | rfl | rfl | rfl | rfl | rfl | rfl <;> rfl
theorem ord_eq {f g : Nat → Int} (h : ∀ j, j < 3 → f j = g j) : ordR f g 3 0 = 0 := by
  unfold ordR
  rw [if_pos (h 0 (by omega))]
  unfold ordR
  rw [if_pos (h 1 (by omega))]
  unfold ordR
  rw [if_pos (h 2 (by omega))]
  rfl
theorem mkM_inj {a b c x y z : Int} (ha : 0 ≤ a ∧ a ≤ 2) (hb : 0 ≤ b ∧ b ≤ 2) (hc : 0 ≤ c ∧ c ≤ 2) (hx : 0 ≤ x ∧ x ≤ 2) (hy : 0 ≤ y ∧ y ≤ 2) (hz : 0 ≤ z ∧ z ≤ 2) (h : mkM a b c = mkM x y z) : a = x ∧ b = y ∧ c = z := by
  unfold mkM at h
  omega
set_option maxRecDepth 20000 in
theorem t_pb4 {L : Nat} {ys : Nat → Int32} (hLs : L ≤ 100000) {H : HF} {n q d P p v ce sl : Nat} {cr F : Int} {C : (Nat → Nat) → Prop} (hW : Wx H q d P cr F (fun cnt nd kd _ => C cnt ∧ v + 1 = cnt p ∧ kd p v = [])) (hd : d < 700000) (hp : p < P) (hce : ce ≤ 35) (hsl : sl ≤ 324) : Gw (some (L, ys)) xm133 309 [(0, .ref 0), (1, .int (zI (p : Int))), (3, .int (zI (v : Int)))] [] H n ce sl (MQe xm133 (fun v G _ => v = some (.int (zI (bI true))) ∧ ∃ d2, d2 ≤ d + 7 ∧ Wx G q d2 P cr F (fun cnt _ _ _ => C cnt))) := by
  refine Gq_fr (fun hF => ?_)
  obtain ⟨cnt, siz, wdr, num, nd, kd, ws, nid, qid, kid, wid, pid, vd, gr, vr, wl, lk, dk, th, pc, pd, kx, pp, pb, cl, dr, lt, fc, tg, hLw, hA, hX, hK, hFit, hfc, hXX⟩ := hW
  obtain ⟨h0, hc1, ⟨hm0, hm1⟩, ⟨hz0, hz1⟩, ⟨hi0, hi1⟩, ⟨hq0, hq1⟩, ⟨hk0, hk1⟩, hws, hnd, hqd, hkd, hwd⟩ := id hLw
  obtain ⟨⟨hP2, hP6⟩, hcnt, hvr, ⟨hwl, hwn, hwr⟩, hkk, hnm, hsz⟩ := id hK
  have hn9 := Wx_119 hA hF
  obtain ⟨hC, hv1, hkn⟩ := hXX
  have hc4 := hcnt p hp
  refine Gq_s (pc' := 310) rfl rfl rfl ?_
  refine Gq_s (pc' := 311) rfl rfl rfl ?_
  refine Gq_callvA (pc' := 314) (Y := xm128) (rest := []) (cY := 0) (sY := 0) (cM := 40) (sM := 400) rfl rfl rfl rfl rfl rfl rfl rfl rfl rfl rfl (by omega) (by omega) (t_draw hLs _ (d := d) h0 (by omega) (by decide)) (by first | assumption | exact upd_eq _ _ _ | ((repeat (refine (upd_ne _ _ (by omega)).trans ?_)); first | assumption | exact upd_eq _ _ _)) (fun v1 H1 n1 hv => ?_)
  obtain ⟨r1, rfl, hr1, hn1, rfl⟩ := hv
  subst n1
  refine Gq_zne (pc' := 317) (t := 420) rfl rfl rfl (by omega) (fun hb => ?_) (fun hb => ?_)
  · refine Gq_s (pc' := 421) rfl rfl rfl ?_
    exact Gq_retA (cM := 40) (sM := 400) rfl rfl rfl (by omega) (by omega) (rfl) (⟨rfl, d + 1, by omega, _, _, _, _, _, _, _, _, _, _, _, _, _, _, _, _, _, _, _, _, _, _, _, _, _, _, _, _, _, LwP_dr hLw (upd_eq _ _ _) (fun o _ h => upd_ne _ _ h) (Lw_int (Lw_hup0 h0 _)), AllB_ge (Lw_ge (Lw_hup0 h0 _)) hA, RX_ge8 (Lw_ge8 (Lw_hup0 h0 _)) hX, hK, hFit, hfc, hC⟩)
  · refine Gq_s (pc' := 318) rfl rfl rfl ?_
    refine Gq_s (pc' := 319) rfl rfl rfl ?_
    refine Gq_iadd (pc' := 320) rfl rfl ?_
    refine Gq_s (pc' := 321) rfl rfl rfl ?_
    refine Gq_s (pc' := 322) rfl rfl rfl ?_
    refine Gq_get (pc' := 325) rfl rfl (by first | assumption | exact upd_eq _ _ _ | ((repeat (refine (upd_ne _ _ (by omega)).trans ?_)); first | assumption | exact upd_eq _ _ _)) (by exact rfl) ?_
    refine Gq_s (pc' := 326) rfl rfl rfl ?_
    refine Gq_isub (pc' := 327) rfl rfl ?_
    refine Gq_callvA (pc' := 330) (Y := xm128) (rest := [_]) (cY := 0) (sY := 0) (cM := 40) (sM := 400) rfl rfl rfl rfl rfl rfl rfl rfl rfl rfl rfl (by omega) (by omega) (t_draw hLs _ (d := d + 1) (upd_eq _ _ _) (by omega) (by omega)) (by first | assumption | exact upd_eq _ _ _ | ((repeat (refine (upd_ne _ _ (by omega)).trans ?_)); first | assumption | exact upd_eq _ _ _)) (fun v2 H2 n2 hv => ?_)
    obtain ⟨r2, rfl, hr2, hn2, rfl⟩ := hv
    subst n2
    obtain ⟨m1, m2⟩ := mod_oth hp (show r2 + 1 < P by omega)
    refine Gq_iadd (pc' := 331) rfl rfl ?_
    refine Gq_s (pc' := 332) rfl rfl rfl ?_
    refine Gq_get (pc' := 335) rfl rfl (by first | assumption | exact upd_eq _ _ _ | ((repeat (refine (upd_ne _ _ (by omega)).trans ?_)); first | assumption | exact upd_eq _ _ _)) (by exact rfl) ?_
    refine Gq_irem (pc' := 336) (zI (((p + 1 + r2) % P : Nat) : Int)) rfl rfl (z_ne0 (by omega)) (z_remN (a := p + 1 + r2) (by omega) (by omega)) ?_
    generalize (p + 1 + r2) % P = t at m1 m2
    refine Gq_s (pc' := 338) (lv' := [(0, _), (1, _), (3, _), (4, _)]) rfl rfl rfl ?_
    refine Gq_s (pc' := 339) rfl rfl rfl ?_
    refine Gq_newaA (pc' := 341) (N := 1) (cM := 40) (sM := 400) rfl (fun _ => rfl) rfl rfl rfl (rfl) (by decide) ((rep_I _)) (by omega) (by omega) ?_
    refine Gq_s (pc' := 342) rfl rfl rfl ?_
    refine Gq_s (pc' := 343) rfl rfl rfl ?_
    refine Gq_s (pc' := 345) rfl rfl rfl ?_
    refine Gq_iast (pc' := 346) (j := 0) rfl rfl (by first | assumption | exact upd_eq _ _ _ | ((repeat (refine (upd_ne _ _ (by omega)).trans ?_)); first | assumption | exact upd_eq _ _ _)) (rfl) (by omega) (by omega) ?_
    refine Gq_s (pc' := 348) (lv' := [(0, _), (1, _), (3, _), (4, _), (5, _)]) rfl rfl rfl ?_
    refine Gq_s (pc' := 349) rfl rfl rfl ?_
    refine Gq_get (pc' := 352) rfl rfl (by first | assumption | exact upd_eq _ _ _ | ((repeat (refine (upd_ne _ _ (by omega)).trans ?_)); first | assumption | exact upd_eq _ _ _)) (by exact rfl) ?_
    refine Gq_s (pc' := 353) rfl rfl rfl ?_
    have k54 := hk1 p (by omega)
    refine Gq_aald (pc' := 354) (j := p) rfl rfl (by first | assumption | exact upd_eq _ _ _ | ((repeat (refine (upd_ne _ _ (by omega)).trans ?_)); first | assumption | exact upd_eq _ _ _)) (by exact rfl) (rfl) (by omega) (by omega) (rfl) ?_
    refine Gq_s (pc' := 355) rfl rfl rfl ?_
    refine Gq_s (pc' := 357) rfl rfl rfl ?_
    refine Gq_s (pc' := 358) rfl rfl rfl ?_
    refine Gq_callvA (pc' := 361) (Y := xm129) (rest := [_, _, _]) (cY := 1) (sY := 4) (cM := 40) (sM := 400) rfl rfl rfl rfl rfl rfl rfl rfl rfl rfl rfl (by omega) (by omega) (t_range hLs _ (d := d + 1 + 1) ((upd_ne _ _ (by omega)).trans ((upd_ne _ _ (by omega)).trans (upd_eq _ _ _))) (by omega)) (by first | assumption | exact upd_eq _ _ _ | ((repeat (refine (upd_ne _ _ (by omega)).trans ?_)); first | assumption | exact upd_eq _ _ _)) (fun v3 G1 n3 hv => ?_)
    obtain ⟨k, a, b, e, hk9, ha9, hb9, he9, rfl, rfl, e0, e1, e2⟩ := hv
    have c0 := (e2 _ (by omega) (by omega)).trans (upd_eq _ _ _)
    have ccur : ∀ o, o < n → ¬ o = 0 → G1 o = H o := fun o h1 h2 => (e2 o h2 (by omega)).trans ((upd_ne _ _ (by omega)).trans ((upd_ne _ _ (by omega)).trans ((upd_ne _ _ h2).trans (upd_ne _ _ h2))))
    refine Gq_callsA (pc' := 364) (Y := xm130) (rest := [_, _]) (cY := 1) (sY := 64) (cM := 40) (sM := 400) rfl rfl rfl rfl rfl rfl rfl rfl rfl rfl rfl rfl (by omega) (by omega) (t_lj hLs _ c0 e1 (by omega)) (fun v4 G2 n4 hv => ?_)
    obtain ⟨rfl, rfl, e3, e4⟩ := hv
    rw [row5] at e3
    have d0 := (e4 0 (by omega)).trans e0
    have dcur : ∀ o, o < n → ¬ o = 0 → G2 o = H o := fun o h1 h2 => (e4 o (by omega)).trans (ccur o h1 h2)
    have d54 := (dcur _ (by omega) (by omega)).trans k54
    have hv4 : v < 4 := by omega
    clear e0 e1 c0 ccur
    refine Gq_aast (pc' := 365) (j := v) (some (n + 2)) rfl rfl (by first | assumption | exact upd_eq _ _ _ | ((repeat (refine (upd_ne _ _ (by omega)).trans ?_)); first | assumption | exact upd_eq _ _ _)) (by exact rfl) (fun hz => nomatch hz) (rfl) (fun z hz => by cases hz; exact ⟨_, e3⟩) (rfl) (by omega) (by omega) ?_
    generalize hG : hup G2 (55 + 5 * p) (true, 6, aR 4 (fset (fun v => some (kid p v)) v (some (n + 2)))) = G
    have f0 := (congrFun hG 0).symm.trans ((upd_ne _ _ (by omega)).trans d0)
    have f55 := (congrFun hG (55 + 5 * p)).symm.trans (upd_eq _ _ _)
    have fy := (congrFun hG (n + 2)).symm.trans ((upd_ne _ _ (by omega)).trans e3)
    have fcur : ∀ o, o < n → ¬ o = 0 → ¬ o = 55 + 5 * p → G o = H o := fun o h1 h2 h3 => by rw [← hG, upd_ne _ _ h3]; exact dcur o h1 h2
    have hLL : Lw H G := lkA hF (by omega) ⟨_, h0⟩ (Sp := fun o => o = 55 + 5 * p) (fun o c h1 h2 => by
      rw [h1, k54] at h2
      cases h2
      exact ⟨by omega, rfl⟩) fcur
    have hA2 := AllB_ge (Lw_ge hLL) hA
    have hX2 := RX_ge8 (Lw_ge8 hLL) hX
    have hLw2 := LwP_clash hLw (by omega) hv4 f0 (fun o h1 h2 h3 => fcur o (by omega) h2 h3) f55 (Lw_int hLL) (by omega) fy
    have g86 := hA2.2.1
    have f54 := (fcur 54 (by omega) (by omega) (by omega)).trans hk0
    have hcv : cnt p - 1 = v := by omega
    have fy5 : G (n + 2) = some (true, 0, aI 5 (rw5 [((t, -1, 0, (k : Int), (a : Int), (b : Int), (e : Int)) : NR)])) := fy
    clear hG dcur d54 k54 e3 e4 d0 h0 hk0 e2
    refine Gq_s (pc' := 366) rfl rfl rfl ?_
    refine Gq_get (pc' := 369) rfl rfl (by first | assumption | exact upd_eq _ _ _ | ((repeat (refine (upd_ne _ _ (by omega)).trans ?_)); first | assumption | exact upd_eq _ _ _)) (by exact rfl) ?_
    refine Gq_s (pc' := 370) rfl rfl rfl ?_
    refine Gq_s (pc' := 372) rfl rfl rfl ?_
    refine Gq_s (pc' := 373) rfl rfl rfl ?_
    refine Gq_get (pc' := 376) rfl rfl (by first | assumption | exact upd_eq _ _ _ | ((repeat (refine (upd_ne _ _ (by omega)).trans ?_)); first | assumption | exact upd_eq _ _ _)) (by exact rfl) ?_
    refine Gq_s (pc' := 377) rfl rfl rfl ?_
    refine Gq_aald (pc' := 378) (j := p) rfl rfl (by first | assumption | exact upd_eq _ _ _ | ((repeat (refine (upd_ne _ _ (by omega)).trans ?_)); first | assumption | exact upd_eq _ _ _)) (by exact rfl) (rfl) (by omega) (by omega) (rfl) ?_
    refine Gq_s (pc' := 379) rfl rfl rfl ?_
    refine Gq_aald (pc' := 380) (j := v) rfl rfl (by first | assumption | exact upd_eq _ _ _ | ((repeat (refine (upd_ne _ _ (by omega)).trans ?_)); first | assumption | exact upd_eq _ _ _)) (by exact rfl) (rfl) (by omega) (by omega) (by rw [fset_eq]; first | done | rfl) ?_
    refine Gq_s (pc' := 381) rfl rfl rfl ?_
    refine Gq_iald (pc' := 382) (j := 1) rfl rfl (by first | assumption | exact upd_eq _ _ _ | ((repeat (refine (upd_ne _ _ (by omega)).trans ?_)); first | assumption | exact upd_eq _ _ _)) (rfl) (by omega) (by omega) ?_
    refine Gq_s (pc' := 383) rfl rfl rfl ?_
    refine Gq_get (pc' := 386) rfl rfl (by first | assumption | exact upd_eq _ _ _ | ((repeat (refine (upd_ne _ _ (by omega)).trans ?_)); first | assumption | exact upd_eq _ _ _)) (by exact rfl) ?_
    refine Gq_s (pc' := 387) rfl rfl rfl ?_
    refine Gq_aald (pc' := 388) (j := p) rfl rfl (by first | assumption | exact upd_eq _ _ _ | ((repeat (refine (upd_ne _ _ (by omega)).trans ?_)); first | assumption | exact upd_eq _ _ _)) (by exact rfl) (rfl) (by omega) (by omega) (rfl) ?_
    refine Gq_s (pc' := 389) rfl rfl rfl ?_
    refine Gq_aald (pc' := 390) (j := v) rfl rfl (by first | assumption | exact upd_eq _ _ _ | ((repeat (refine (upd_ne _ _ (by omega)).trans ?_)); first | assumption | exact upd_eq _ _ _)) (by exact rfl) (rfl) (by omega) (by omega) (by rw [fset_eq]; first | done | rfl) ?_
    refine Gq_s (pc' := 391) rfl rfl rfl ?_
    refine Gq_iald (pc' := 392) (j := 2) rfl rfl (by first | assumption | exact upd_eq _ _ _ | ((repeat (refine (upd_ne _ _ (by omega)).trans ?_)); first | assumption | exact upd_eq _ _ _)) (rfl) (by omega) (by omega) ?_
    refine Gq_s (pc' := 393) rfl rfl rfl ?_
    refine Gq_get (pc' := 396) rfl rfl (by first | assumption | exact upd_eq _ _ _ | ((repeat (refine (upd_ne _ _ (by omega)).trans ?_)); first | assumption | exact upd_eq _ _ _)) (by exact rfl) ?_
    refine Gq_s (pc' := 397) rfl rfl rfl ?_
    refine Gq_aald (pc' := 398) (j := p) rfl rfl (by first | assumption | exact upd_eq _ _ _ | ((repeat (refine (upd_ne _ _ (by omega)).trans ?_)); first | assumption | exact upd_eq _ _ _)) (by exact rfl) (rfl) (by omega) (by omega) (rfl) ?_
    refine Gq_s (pc' := 399) rfl rfl rfl ?_
    refine Gq_aald (pc' := 400) (j := v) rfl rfl (by first | assumption | exact upd_eq _ _ _ | ((repeat (refine (upd_ne _ _ (by omega)).trans ?_)); first | assumption | exact upd_eq _ _ _)) (by exact rfl) (rfl) (by omega) (by omega) (by rw [fset_eq]; first | done | rfl) ?_
    refine Gq_s (pc' := 401) rfl rfl rfl ?_
    refine Gq_iald (pc' := 402) (j := 3) rfl rfl (by first | assumption | exact upd_eq _ _ _ | ((repeat (refine (upd_ne _ _ (by omega)).trans ?_)); first | assumption | exact upd_eq _ _ _)) (rfl) (by omega) (by omega) ?_
    refine Gq_s (pc' := 403) rfl rfl rfl ?_
    refine Gq_get (pc' := 406) rfl rfl (by first | assumption | exact upd_eq _ _ _ | ((repeat (refine (upd_ne _ _ (by omega)).trans ?_)); first | assumption | exact upd_eq _ _ _)) (by exact rfl) ?_
    refine Gq_s (pc' := 407) rfl rfl rfl ?_
    refine Gq_aald (pc' := 408) (j := p) rfl rfl (by first | assumption | exact upd_eq _ _ _ | ((repeat (refine (upd_ne _ _ (by omega)).trans ?_)); first | assumption | exact upd_eq _ _ _)) (by exact rfl) (rfl) (by omega) (by omega) (rfl) ?_
    refine Gq_s (pc' := 409) rfl rfl rfl ?_
    refine Gq_aald (pc' := 410) (j := v) rfl rfl (by first | assumption | exact upd_eq _ _ _ | ((repeat (refine (upd_ne _ _ (by omega)).trans ?_)); first | assumption | exact upd_eq _ _ _)) (by exact rfl) (rfl) (by omega) (by omega) (by rw [fset_eq]; first | done | rfl) ?_
    refine Gq_s (pc' := 411) rfl rfl rfl ?_
    refine Gq_iald (pc' := 412) (j := 4) rfl rfl (by first | assumption | exact upd_eq _ _ _ | ((repeat (refine (upd_ne _ _ (by omega)).trans ?_)); first | assumption | exact upd_eq _ _ _)) (rfl) (by omega) (by omega) ?_
    refine Gq_callvA (pc' := 415) (Y := xm4) (rest := []) (cY := 2) (sY := 7) (cM := 40) (sM := 400) rfl rfl rfl rfl rfl rfl rfl rfl rfl rfl rfl (by omega) (by omega) (q_clash _ hA2 hX2 hp m1 m2 (k := (k : Int)) (a := (a : Int)) (b := (b : Int)) (c := (e : Int)) ⟨by omega, by omega⟩ ⟨by omega, by omega⟩ ⟨by omega, by omega⟩ ⟨by omega, by omega⟩ (by omega) (by rw [hcv, hvr p v hp (by omega)]; show (kd p v).map crN = []; rw [hkn]; rfl)) (by first | assumption | exact upd_eq _ _ _ | ((repeat (refine (upd_ne _ _ (by omega)).trans ?_)); first | assumption | exact upd_eq _ _ _)) (fun v5 G5 n5 hv => ?_)
    obtain ⟨rfl, rfl, hA3, hX3, hLF⟩ := hv
    rw [hcv] at hA3 hX3
    refine Gq_zeq (pc' := 418) (t := 420) rfl rfl rfl (by decide) (fun _ => ?_) (fun hq => absurd (rfl) hq)
    refine Gq_s (pc' := 421) rfl rfl rfl ?_
    exact Gq_retA (cM := 40) (sM := 400) rfl rfl rfl (by omega) (by omega) (rfl) (⟨rfl, d + 1 + 1 + 4, by omega, _, _, _, _, _, _, _, _, _, _, _, _, _, _, _, _, _, _, _, _, _, _, _, _, _, _, _, _, _, LwP_lf hLF hLw2, hA3, hX3, Lnk_clash hK hA.1.2.2.2.2.2.1 hp (by omega) (r := (t, -1, 0, (k : Int), (a : Int), (b : Int), (e : Int))) ⟨m1, ⟨by show (-1 : Int) ≤ -1; omega, by show (-1 : Int) < 4; omega⟩, by show 0 < 4; omega, ⟨by show 0 ≤ (k : Int); omega, by show (k : Int) ≤ 5; omega⟩, ⟨by show 0 ≤ (a : Int); omega, by show (a : Int) ≤ 2; omega⟩, ⟨by show 0 ≤ (b : Int); omega, by show (b : Int) ≤ 2; omega⟩, ⟨by show 0 ≤ (e : Int); omega, by show (e : Int) ≤ 2; omega⟩⟩ hkn, fun x y h1 h2 h3 => by
      have h4 := hFit x y h1 h2 h3
      rw [up2_ne _ _ (fun ⟨e1, e2⟩ => by subst e1; omega)]
      exact h4, hfc, hC⟩)
set_option maxRecDepth 20000 in
theorem t_pb3c {L : Nat} {ys : Nat → Int32} (hLs : L ≤ 100000) {H0 H : HF} {n0 q d0 d P p v k ce sl : Nat} {F : Int} {C : (Nat → Nat) → Prop} {Q : XLf → Prop} {cnt : Nat → Nat} {siz : Nat → Nat → Int} {wdr : Nat → Nat → Bool} {num : Nat → Nat → Nat → Int} {nd kd : Nat → Nat → List NR} {ws : List NR} {nid qid kid : Nat → Nat → Nat} {wid : Nat → Nat} {pid : Nat → Nat} {vd gr : Nat → Nat → Nat} {vr : Nat → VR} {wl : List CR} {lk dk : Nat → Option Nat} {th : Bool} {pc pd : Nat} {kx : Nat → Int} {pp : Nat → Nat} {pb : Nat → Option Nat} {cl : List Nat} {cr dr lt fc : Int} {tg : Nat → Nat} (hLw : LwP H0 q d0 P cnt siz wdr num nd kd ws nid qid kid wid) (hA : AllB H0 P pid cnt vd gr vr wl lk dk th pc pd kx pp pb cl cr dr lt fc) (hX : RX H0 P pid cnt vd vr tg) (hK : Lnk P cnt vd vr siz wdr num nd kd ws wl) (hFit : Fit cnt wdr nd kd) (hfc : 0 ≤ fc ∧ fc ≤ F) (hF0 : Frs H0 n0) (hp : p < P) (hC : C cnt) (hv1 : v + 1 = cnt p) (hlen : (nd p v).length + (k + 1) ≤ 2) (hkn : kd p v = []) (hQ : NoL Q) {t f : Nat} {c : Int} (ht : t < P) (htp : ¬ p = t) (hc : -1 ≤ c ∧ c < 4) (hf : f < 4) (hd : d < 700000) (hce : ce ≤ 33) (hsl : sl ≤ 250) (g0 : H 0 = some (false, 11, rgF q (d : Int) (P : Int) (ws.length : Int))) (gy : H n0 = some (true, 0, aI 3 (fset (fset (fun _ => 0) 0 (t : Int)) 1 c))) (hcur : ∀ o, o < n0 → ¬ o = 0 → H o = H0 o) (kk : ∀ (G : HF) (m d2 : Nat), d2 ≤ d + 4 → Wx G q d2 P cr F (fun cnt nd kd _ => C cnt ∧ v + 1 = cnt p ∧ (nd p v).length + k ≤ 2 ∧ kd p v = []) → Gw (some (L, ys)) xm133 139 [(0, .ref 0), (1, .int (zI (p : Int))), (3, .int (zI (v : Int))), (4, .int (zI (k : Int)))] [] G m (ce + 5) (sl + 139) Q) : Gw (some (L, ys)) xm133 212 [(0, .ref 0), (1, .int (zI (p : Int))), (3, .int (zI (v : Int))), (4, .int (zI ((k + 1 : Nat) : Int))), (5, .int (zI (t : Int)))] [.int (zI (f : Int)), .int 2, .ref n0, .ref n0] H (n0 + 1) ce sl Q := by
  obtain ⟨h0, hc1, ⟨hm0, hm1⟩, ⟨hz0, hz1⟩, ⟨hi0, hi1⟩, ⟨hq0, hq1⟩, ⟨hk0, hk1⟩, hws, hnd, hqd, hkd, hwd⟩ := id hLw
  obtain ⟨⟨hP2, hP6⟩, hcnt, hvr, ⟨hwl, hwn, hwr⟩, hkk, hnm, hsz⟩ := id hK
  have hn9 := Wx_119 hA hF0
  have hc4 := hcnt p hp
  have hv4 : v < 4 := by omega
  have hl1 : (nd p v).length ≤ 1 := by omega
  refine Gq_iast (pc' := 213) (j := 2) rfl rfl (by first | assumption | exact upd_eq _ _ _ | ((repeat (refine (upd_ne _ _ (by omega)).trans ?_)); first | assumption | exact upd_eq _ _ _)) (rfl) (by omega) (by omega) ?_
  refine Gq_s (pc' := 215) (lv' := [(0, _), (1, _), (3, _), (4, _), (5, _), (6, _)]) rfl rfl rfl ?_
  refine Gq_s (pc' := 217) rfl rfl rfl ?_
  refine Gq_s (pc' := 218) rfl rfl rfl ?_
  refine Gq_callvA (pc' := 221) (Y := xm129) (rest := [_]) (cY := 1) (sY := 4) (cM := 40) (sM := 400) rfl rfl rfl rfl rfl rfl rfl rfl rfl rfl rfl (by omega) (by omega) (t_range hLs _ (d := d) ((upd_ne _ _ (by omega)).trans g0) (by omega)) (by first | assumption | exact upd_eq _ _ _ | ((repeat (refine (upd_ne _ _ (by omega)).trans ?_)); first | assumption | exact upd_eq _ _ _)) (fun v1 G1 n1 hv => ?_)
  obtain ⟨k9, a, b, e, hk9, ha9, hb9, he9, rfl, rfl, e0, e1, e2⟩ := hv
  have c0 := (e2 _ (by omega) (by omega)).trans (upd_eq _ _ _)
  have ccur : ∀ o, o < n0 → ¬ o = 0 → G1 o = H0 o := fun o h1 h2 => (e2 o h2 (by omega)).trans ((upd_ne _ _ (by omega)).trans (hcur o h1 h2))
  refine Gq_callsA (pc' := 224) (Y := xm130) (rest := []) (cY := 1) (sY := 64) (cM := 40) (sM := 400) rfl rfl rfl rfl rfl rfl rfl rfl rfl rfl rfl rfl (by omega) (by omega) (t_lj hLs _ c0 e1 (by omega)) (fun v2 G2 n2 hv => ?_)
  obtain ⟨rfl, rfl, e3, e4⟩ := hv
  rw [row7] at e3
  have d0' := (e4 0 (by omega)).trans e0
  have dcur : ∀ o, o < n0 → ¬ o = 0 → G2 o = H0 o := fun o h1 h2 => (e4 o (by omega)).trans (ccur o h1 h2)
  have d23 := (dcur _ (by omega) (by omega)).trans hq0
  have k24 := hq1 p (by omega)
  have d24 := (dcur _ (by omega) (by omega)).trans k24
  have hqi := (hqd p v (by omega) (by omega)).2
  have hqi2 := Fr_lt hF0 hqi
  have hqi3 := (hqd p v (by omega) (by omega)).1
  have dqi := (dcur _ hqi2 (by omega)).trans hqi
  clear e0 e1 c0 ccur g0 gy hcur e2
  refine Gq_s (pc' := 226) (lv' := [(0, _), (1, _), (3, _), (4, _), (5, _), (6, _), (7, _)]) rfl rfl rfl ?_
  refine Gq_s (pc' := 227) rfl rfl rfl ?_
  refine Gq_get (pc' := 230) rfl rfl (by first | assumption | exact upd_eq _ _ _ | ((repeat (refine (upd_ne _ _ (by omega)).trans ?_)); first | assumption | exact upd_eq _ _ _)) (by exact rfl) ?_
  refine Gq_s (pc' := 231) rfl rfl rfl ?_
  refine Gq_aald (pc' := 232) (j := p) rfl rfl (by first | assumption | exact upd_eq _ _ _ | ((repeat (refine (upd_ne _ _ (by omega)).trans ?_)); first | assumption | exact upd_eq _ _ _)) (by exact rfl) (rfl) (by omega) (by omega) (rfl) ?_
  refine Gq_s (pc' := 233) rfl rfl rfl ?_
  refine Gq_aald (pc' := 234) (j := v) rfl rfl (by first | assumption | exact upd_eq _ _ _ | ((repeat (refine (upd_ne _ _ (by omega)).trans ?_)); first | assumption | exact upd_eq _ _ _)) (by exact rfl) (rfl) (by omega) (by omega) (rfl) ?_
  refine Gq_len (pc' := 235) rfl rfl (by first | assumption | exact upd_eq _ _ _ | ((repeat (refine (upd_ne _ _ (by omega)).trans ?_)); first | assumption | exact upd_eq _ _ _)) (by exact rfl) (by exact aX_len _ _) ?_
  refine Gq_bipush (pc' := 237) rfl rfl (by decide) ?_
  refine Gq_idiv (pc' := 238) (zI ((nd p v).length : Int)) rfl rfl (by decide) (by rw [z_div (by omega) (by omega)]; exact congrArg zI (by omega)) ?_
  refine Gq_s (pc' := 240) (lv' := [(0, _), (1, _), (3, _), (4, _), (5, _), (6, _), (7, _), (8, _)]) rfl rfl rfl ?_
  refine Gq_s (pc' := 241) rfl rfl rfl ?_
  refine Gq_get (pc' := 244) rfl rfl (by first | assumption | exact upd_eq _ _ _ | ((repeat (refine (upd_ne _ _ (by omega)).trans ?_)); first | assumption | exact upd_eq _ _ _)) (by exact rfl) ?_
  refine Gq_s (pc' := 245) rfl rfl rfl ?_
  refine Gq_aald (pc' := 246) (j := p) rfl rfl (by first | assumption | exact upd_eq _ _ _ | ((repeat (refine (upd_ne _ _ (by omega)).trans ?_)); first | assumption | exact upd_eq _ _ _)) (by exact rfl) (rfl) (by omega) (by omega) (rfl) ?_
  refine Gq_s (pc' := 247) rfl rfl rfl ?_
  refine Gq_s (pc' := 248) rfl rfl rfl ?_
  refine Gq_get (pc' := 251) rfl rfl (by first | assumption | exact upd_eq _ _ _ | ((repeat (refine (upd_ne _ _ (by omega)).trans ?_)); first | assumption | exact upd_eq _ _ _)) (by exact rfl) ?_
  refine Gq_s (pc' := 252) rfl rfl rfl ?_
  refine Gq_aald (pc' := 253) (j := p) rfl rfl (by first | assumption | exact upd_eq _ _ _ | ((repeat (refine (upd_ne _ _ (by omega)).trans ?_)); first | assumption | exact upd_eq _ _ _)) (by exact rfl) (rfl) (by omega) (by omega) (rfl) ?_
  refine Gq_s (pc' := 254) rfl rfl rfl ?_
  refine Gq_aald (pc' := 255) (j := v) rfl rfl (by first | assumption | exact upd_eq _ _ _ | ((repeat (refine (upd_ne _ _ (by omega)).trans ?_)); first | assumption | exact upd_eq _ _ _)) (by exact rfl) (rfl) (by omega) (by omega) (rfl) ?_
  refine Gq_s (pc' := 257) rfl rfl rfl ?_
  refine Gq_callsA (pc' := 260) (Y := xm130) (rest := [_, _]) (cY := 1) (sY := 64) (cM := 40) (sM := 400) rfl rfl rfl rfl rfl rfl rfl rfl rfl rfl rfl rfl (by omega) (by omega) (t_lj hLs _ dqi e3 (by omega)) (fun v3 G3 n3 hv => ?_)
  obtain ⟨rfl, rfl, e5, e6⟩ := hv
  rw [rw7_app] at e5
  have f0' := (e6 0 (by omega)).trans d0'
  have fcur : ∀ o, o < n0 → ¬ o = 0 → G3 o = H0 o := fun o h1 h2 => (e6 o (by omega)).trans (dcur o h1 h2)
  have f24 := (fcur _ (by omega) (by omega)).trans k24
  have f7 := (e6 _ (by omega)).trans e3
  clear d0' dcur d23 d24 dqi e3 e4 e6
  refine Gq_aast (pc' := 261) (j := v) (some (n0 + 3)) rfl rfl (by first | assumption | exact upd_eq _ _ _ | ((repeat (refine (upd_ne _ _ (by omega)).trans ?_)); first | assumption | exact upd_eq _ _ _)) (by exact rfl) (fun hz => nomatch hz) (rfl) (fun z hz => by cases hz; exact ⟨_, e5⟩) (rfl) (by omega) (by omega) ?_
  generalize hG : hup G3 (24 + 5 * p) (true, 6, aR 4 (fset (fun v => some (qid p v)) v (some (n0 + 3)))) = G
  have j0 := (congrFun hG 0).symm.trans ((upd_ne _ _ (by omega)).trans f0')
  have j24 := (congrFun hG (24 + 5 * p)).symm.trans (upd_eq _ _ _)
  have jy := (congrFun hG (n0 + 3)).symm.trans ((upd_ne _ _ (by omega)).trans e5)
  have j7 := (congrFun hG (n0 + 2)).symm.trans ((upd_ne _ _ (by omega)).trans f7)
  have jcur : ∀ o, o < n0 → ¬ o = 0 → ¬ o = 24 + 5 * p → G o = H0 o := fun o h1 h2 h3 => by rw [← hG, upd_ne _ _ h3]; exact fcur o h1 h2
  have hLL : Lw H0 G := lkA hF0 (by omega) ⟨_, h0⟩ (Sp := fun o => o = 24 + 5 * p) (fun o c h1 h2 => by
    rw [h1, k24] at h2
    cases h2
    exact ⟨by omega, rfl⟩) jcur
  have hA2 := AllB_ge (Lw_ge hLL) hA
  have hX2 := RX_ge8 (Lw_ge8 hLL) hX
  have hLw2 := LwP_need hLw (by omega) hv4 j0 (fun o h1 h2 h3 => jcur o (by omega) h2 h3) j24 (Lw_int hLL) (by omega) jy
  have g86 := hA2.2.1
  have hcv : cnt p - 1 = v := by omega
  have hvq : vQ (vr (vd p v)) = (nd p v).map crN := by rw [hvr p v hp (by omega)]; rfl
  clear hG fcur f24 f7 f0' e5 h0 hq0
  refine Gq_s (pc' := 262) rfl rfl rfl ?_
  refine Gq_get (pc' := 265) rfl rfl (by first | assumption | exact upd_eq _ _ _ | ((repeat (refine (upd_ne _ _ (by omega)).trans ?_)); first | assumption | exact upd_eq _ _ _)) (by exact rfl) ?_
  refine Gq_s (pc' := 266) rfl rfl rfl ?_
  refine Gq_s (pc' := 268) rfl rfl rfl ?_
  refine Gq_s (pc' := 270) rfl rfl rfl ?_
  refine Gq_s (pc' := 271) rfl rfl rfl ?_
  refine Gq_iald (pc' := 272) (j := 1) rfl rfl (by first | assumption | exact upd_eq _ _ _ | ((repeat (refine (upd_ne _ _ (by omega)).trans ?_)); first | assumption | exact upd_eq _ _ _)) (rfl) (by omega) (by omega) ?_
  refine Gq_s (pc' := 274) rfl rfl rfl ?_
  refine Gq_s (pc' := 275) rfl rfl rfl ?_
  refine Gq_iald (pc' := 276) (j := 2) rfl rfl (by first | assumption | exact upd_eq _ _ _ | ((repeat (refine (upd_ne _ _ (by omega)).trans ?_)); first | assumption | exact upd_eq _ _ _)) (rfl) (by omega) (by omega) ?_
  refine Gq_s (pc' := 278) rfl rfl rfl ?_
  refine Gq_s (pc' := 279) rfl rfl rfl ?_
  refine Gq_iald (pc' := 280) (j := 3) rfl rfl (by first | assumption | exact upd_eq _ _ _ | ((repeat (refine (upd_ne _ _ (by omega)).trans ?_)); first | assumption | exact upd_eq _ _ _)) (rfl) (by omega) (by omega) ?_
  refine Gq_s (pc' := 282) rfl rfl rfl ?_
  refine Gq_s (pc' := 283) rfl rfl rfl ?_
  refine Gq_iald (pc' := 284) (j := 4) rfl rfl (by first | assumption | exact upd_eq _ _ _ | ((repeat (refine (upd_ne _ _ (by omega)).trans ?_)); first | assumption | exact upd_eq _ _ _)) (rfl) (by omega) (by omega) ?_
  refine Gq_s (pc' := 286) rfl rfl rfl ?_
  refine Gq_s (pc' := 287) rfl rfl rfl ?_
  refine Gq_iald (pc' := 288) (j := 5) rfl rfl (by first | assumption | exact upd_eq _ _ _ | ((repeat (refine (upd_ne _ _ (by omega)).trans ?_)); first | assumption | exact upd_eq _ _ _)) (rfl) (by omega) (by omega) ?_
  refine Gq_s (pc' := 290) rfl rfl rfl ?_
  refine Gq_bipush (pc' := 292) rfl rfl (by decide) ?_
  refine Gq_iald (pc' := 293) (j := 6) rfl rfl (by first | assumption | exact upd_eq _ _ _ | ((repeat (refine (upd_ne _ _ (by omega)).trans ?_)); first | assumption | exact upd_eq _ _ _)) (rfl) (by omega) (by omega) ?_
  refine Gq_callvA (pc' := 296) (Y := xm3) (rest := []) (cY := 2) (sY := 7) (cM := 40) (sM := 400) rfl rfl rfl rfl rfl rfl rfl rfl rfl rfl rfl (by omega) (by omega) (q_need _ hA2 hX2 hp ht htp (e := c) (f := f) (k := (k9 : Int)) (a := (a : Int)) (b := (b : Int)) (c := (e : Int)) hc (by omega) ⟨by omega, by omega⟩ ⟨by omega, by omega⟩ ⟨by omega, by omega⟩ ⟨by omega, by omega⟩ (by omega) (by rw [hcv, hvq, List.length_map]; exact hl1)) (by first | assumption | exact upd_eq _ _ _ | ((repeat (refine (upd_ne _ _ (by omega)).trans ?_)); first | assumption | exact upd_eq _ _ _)) (fun v5 G5 n5 hv => ?_)
  obtain ⟨rfl, rfl, hA3, hX3, hLF⟩ := hv
  rw [hcv] at hA3 hX3
  rw [hcv, hvq, List.length_map]
  refine Gq_s (pc' := 298) rfl rfl rfl ?_
  refine Gq_ceq (pc' := 301) (t := 303) rfl rfl rfl (by omega) (by omega) (fun _ => ?_) (fun hq => absurd (rfl) hq)
  refine Gq_iinc (pc' := 306) (lv' := [(0, _), (1, _), (3, _), (4, _), (5, _), (6, _), (7, _), (8, _)]) rfl rfl rfl rfl ?_
  refine Gq_goto rfl (t := 139) rfl ?_
  rw [show ((k + 1 : Nat) : Int) + -1 = (k : Int) by omega]
  refine Gq_wk (lv' := [(0, _), (1, _), (3, _), (4, _)]) [0, 1, 3, 4] rfl rfl hQ ?_
  refine kk _ _ (d + 4) (by omega) ⟨_, _, _, _, _, _, _, _, _, _, _, _, _, _, _, _, _, _, _, _, _, _, _, _, _, _, _, _, _, LwP_lf hLF hLw2, hA3, hX3, Lnk_need hK hA.1.2.2.2.2.2.1 hp (by omega) (r := (t, c, f, (k9 : Int), (a : Int), (b : Int), (e : Int))) ⟨ht, hc, hf, ⟨by show 0 ≤ (k9 : Int); omega, by show (k9 : Int) ≤ 5; omega⟩, ⟨by show 0 ≤ (a : Int); omega, by show (a : Int) ≤ 2; omega⟩, ⟨by show 0 ≤ (b : Int); omega, by show (b : Int) ≤ 2; omega⟩, ⟨by show 0 ≤ (e : Int); omega, by show (e : Int) ≤ 2; omega⟩⟩ hl1, fun x y h1 h2 h3 => ?_, hfc, hC, hv1, ?_, hkn⟩
  · have h4 := hFit x y h1 h2 h3
    rw [up2_ne _ _ (fun ⟨e1, e2⟩ => by subst e1; omega)]
    exact h4
  · rw [up2_eq, List.length_append]
    show (nd p v).length + 1 + k ≤ 2
    omega
set_option maxRecDepth 20000 in
theorem t_pb3b {L : Nat} {ys : Nat → Int32} (hLs : L ≤ 100000) {H0 H : HF} {n0 q d0 d P p v k ce sl : Nat} {F : Int} {C : (Nat → Nat) → Prop} {Q : XLf → Prop} {cnt : Nat → Nat} {siz : Nat → Nat → Int} {wdr : Nat → Nat → Bool} {num : Nat → Nat → Nat → Int} {nd kd : Nat → Nat → List NR} {ws : List NR} {nid qid kid : Nat → Nat → Nat} {wid : Nat → Nat} {pid : Nat → Nat} {vd gr : Nat → Nat → Nat} {vr : Nat → VR} {wl : List CR} {lk dk : Nat → Option Nat} {th : Bool} {pc pd : Nat} {kx : Nat → Int} {pp : Nat → Nat} {pb : Nat → Option Nat} {cl : List Nat} {cr dr lt fc : Int} {tg : Nat → Nat} (hLw : LwP H0 q d0 P cnt siz wdr num nd kd ws nid qid kid wid) (hA : AllB H0 P pid cnt vd gr vr wl lk dk th pc pd kx pp pb cl cr dr lt fc) (hX : RX H0 P pid cnt vd vr tg) (hK : Lnk P cnt vd vr siz wdr num nd kd ws wl) (hFit : Fit cnt wdr nd kd) (hfc : 0 ≤ fc ∧ fc ≤ F) (hF0 : Frs H0 n0) (hp : p < P) (hC : C cnt) (hv1 : v + 1 = cnt p) (hlen : (nd p v).length + (k + 1) ≤ 2) (hkn : kd p v = []) (hQ : NoL Q) {t : Nat} {c : Int} (ht : t < P) (htp : ¬ p = t) (hc : -1 ≤ c ∧ c < 4) (hd : d < 600000) (hce : ce ≤ 33) (hsl : sl ≤ 250) (g0 : H 0 = some (false, 11, rgF q (d : Int) (P : Int) (ws.length : Int))) (gy : H n0 = some (true, 0, aI 3 (fset (fun _ => 0) 0 (t : Int)))) (hcur : ∀ o, o < n0 → ¬ o = 0 → H o = H0 o) (kk : ∀ (G : HF) (m d2 : Nat), d2 ≤ d + 6 → Wx G q d2 P cr F (fun cnt nd kd _ => C cnt ∧ v + 1 = cnt p ∧ (nd p v).length + k ≤ 2 ∧ kd p v = []) → Gw (some (L, ys)) xm133 139 [(0, .ref 0), (1, .int (zI (p : Int))), (3, .int (zI (v : Int))), (4, .int (zI (k : Int)))] [] G m (ce + 5) (sl + 139) Q) : Gw (some (L, ys)) xm133 192 [(0, .ref 0), (1, .int (zI (p : Int))), (3, .int (zI (v : Int))), (4, .int (zI ((k + 1 : Nat) : Int))), (5, .int (zI (t : Int)))] [.int (zI c), .int 1, .ref n0, .ref n0] H (n0 + 1) ce sl Q := by
  have hn9 := Wx_119 hA hF0
  refine Gq_iast (pc' := 193) (j := 1) rfl rfl (by first | assumption | exact upd_eq _ _ _ | ((repeat (refine (upd_ne _ _ (by omega)).trans ?_)); first | assumption | exact upd_eq _ _ _)) (rfl) (by omega) (by omega) ?_
  refine Gq_s (pc' := 194) rfl rfl rfl ?_
  refine Gq_s (pc' := 195) rfl rfl rfl ?_
  refine Gq_s (pc' := 196) rfl rfl rfl ?_
  refine Gq_s (pc' := 197) rfl rfl rfl ?_
  refine Gq_callvA (pc' := 200) (Y := xm128) (rest := [_, _, _]) (cY := 0) (sY := 0) (cM := 40) (sM := 400) rfl rfl rfl rfl rfl rfl rfl rfl rfl rfl rfl (by omega) (by omega) (t_draw hLs _ (d := d) ((upd_ne _ _ (by omega)).trans g0) (by omega) (by decide)) (by first | assumption | exact upd_eq _ _ _ | ((repeat (refine (upd_ne _ _ (by omega)).trans ?_)); first | assumption | exact upd_eq _ _ _)) (fun v1 G1 n1 hv => ?_)
  obtain ⟨r, rfl, hr, hn1, rfl⟩ := hv
  subst n1
  refine Gq_zne (pc' := 203) (t := 211) rfl rfl rfl (by omega) (fun hb => ?_) (fun hb => ?_)
  · refine Gq_s (pc' := 212) rfl rfl rfl ?_
    exact t_pb3c hLs hLw hA hX hK hFit hfc hF0 hp hC hv1 hlen hkn hQ (d := d + 1) (t := t) (f := 0) (c := c) ht htp hc (by omega) (by omega) (by omega) (by omega) (upd_eq _ _ _) ((upd_ne _ _ (by omega)).trans (upd_eq _ _ _)) (fun o h1 h2 => (upd_ne _ _ h2).trans ((upd_ne _ _ (by omega)).trans (hcur o h1 h2))) (fun G m d2 h => kk G m d2 (by omega))
  · refine Gq_s (pc' := 204) rfl rfl rfl ?_
    refine Gq_s (pc' := 205) rfl rfl rfl ?_
    refine Gq_callvA (pc' := 208) (Y := xm128) (rest := [_, _, _]) (cY := 0) (sY := 0) (cM := 40) (sM := 400) rfl rfl rfl rfl rfl rfl rfl rfl rfl rfl rfl (by omega) (by omega) (t_draw hLs _ (d := d + 1) (upd_eq _ _ _) (by omega) (by decide)) (by first | assumption | exact upd_eq _ _ _ | ((repeat (refine (upd_ne _ _ (by omega)).trans ?_)); first | assumption | exact upd_eq _ _ _)) (fun v3 H3 n3 hv => ?_)
    obtain ⟨f, rfl, hf, hn3, rfl⟩ := hv
    subst n3
    refine Gq_goto rfl (t := 212) rfl ?_
    exact t_pb3c hLs hLw hA hX hK hFit hfc hF0 hp hC hv1 hlen hkn hQ (d := d + 1 + 1) (t := t) (f := f) (c := c) ht htp hc (by omega) (by omega) (by omega) (by omega) (upd_eq _ _ _) ((upd_ne _ _ (by omega)).trans ((upd_ne _ _ (by omega)).trans (upd_eq _ _ _))) (fun o h1 h2 => (upd_ne _ _ h2).trans ((upd_ne _ _ h2).trans ((upd_ne _ _ (by omega)).trans (hcur o h1 h2)))) (fun G m d2 h => kk G m d2 (by omega))
set_option maxRecDepth 20000 in
theorem t_pb3 {L : Nat} {ys : Nat → Int32} (hLs : L ≤ 100000) {q P p v c0 s0 D : Nat} {cr F : Int} {C : (Nat → Nat) → Prop} {Q : XLf → Prop} (hp : p < P) (hQ : NoL Q) (hc0 : c0 ≤ 35) (hs0 : s0 ≤ 324) (hD : D < 600000) (kk : ∀ (G : HF) (m ce sl d2 : Nat), d2 ≤ D → ce ≤ c0 → sl ≤ s0 → Wx G q d2 P cr F (fun cnt nd kd _ => C cnt ∧ v + 1 = cnt p ∧ kd p v = []) → Gw (some (L, ys)) xm133 309 [(0, .ref 0), (1, .int (zI (p : Int))), (3, .int (zI (v : Int)))] [] G m ce sl Q) : ∀ (k : Nat) (H : HF) (n ce sl d : Nat), d + 9 * k ≤ D → ce + 6 * k ≤ c0 → sl + 142 * k ≤ s0 → Wx H q d P cr F (fun cnt nd kd _ => C cnt ∧ v + 1 = cnt p ∧ (nd p v).length + k ≤ 2 ∧ kd p v = []) → Gw (some (L, ys)) xm133 139 [(0, .ref 0), (1, .int (zI (p : Int))), (3, .int (zI (v : Int))), (4, .int (zI (k : Int)))] [] H n ce sl Q := by
  intro k
  induction k with
  | zero =>
    intro H n ce sl d hd hce hsl hW
    refine Gq_s (pc' := 141) rfl rfl rfl ?_
    refine Gq_zle (pc' := 144) (t := 309) rfl rfl rfl (by omega) (fun _ => ?_) (fun hq => absurd (by omega) hq)
    refine Gq_wk (lv' := [(0, _), (1, _), (3, _)]) [0, 1, 3] rfl rfl hQ ?_
    exact kk H n ce sl d (by omega) (by omega) (by omega) (Wx_mono hW (Int.le_refl _) (fun a b c e h => ⟨h.1, h.2.1, h.2.2.2⟩))
  | succ k ih =>
    intro H n ce sl d hd hce hsl hW
    refine Gq_fr (fun hF => ?_)
    have hkq : k ≤ 1 := by
      obtain ⟨cnt, siz, wdr, num, nd, kd, ws, nid, qid, kid, wid, pid, vd, gr, vr, wl, lk, dk, th, pc, pd, kx, pp, pb, cl, dr, lt, fc, tg, -, -, -, -, -, -, -, -, h, -⟩ := hW
      omega
    obtain ⟨cnt, siz, wdr, num, nd, kd, ws, nid, qid, kid, wid, pid, vd, gr, vr, wl, lk, dk, th, pc, pd, kx, pp, pb, cl, dr, lt, fc, tg, hLw, hA, hX, hK, hFit, hfc, hXX⟩ := hW
    obtain ⟨h0, hc1, ⟨hm0, hm1⟩, ⟨hz0, hz1⟩, ⟨hi0, hi1⟩, ⟨hq0, hq1⟩, ⟨hk0, hk1⟩, hws, hnd, hqd, hkd, hwd⟩ := id hLw
    obtain ⟨⟨hP2, hP6⟩, hcnt, hvr, ⟨hwl, hwn, hwr⟩, hkk, hnm, hsz⟩ := id hK
    have hn9 := Wx_119 hA hF
    obtain ⟨hC, hv1, hlen, hkn⟩ := hXX
    refine Gq_s (pc' := 141) rfl rfl rfl ?_
    refine Gq_zle (pc' := 144) (t := 309) rfl rfl rfl (by omega) (fun hq => absurd hq (by omega)) (fun _ => ?_)
    refine Gq_s (pc' := 145) rfl rfl rfl ?_
    refine Gq_s (pc' := 146) rfl rfl rfl ?_
    refine Gq_iadd (pc' := 147) rfl rfl ?_
    refine Gq_s (pc' := 148) rfl rfl rfl ?_
    refine Gq_s (pc' := 149) rfl rfl rfl ?_
    refine Gq_get (pc' := 152) rfl rfl (by first | assumption | exact upd_eq _ _ _ | ((repeat (refine (upd_ne _ _ (by omega)).trans ?_)); first | assumption | exact upd_eq _ _ _)) (by exact rfl) ?_
    refine Gq_s (pc' := 153) rfl rfl rfl ?_
    refine Gq_isub (pc' := 154) rfl rfl ?_
    refine Gq_callvA (pc' := 157) (Y := xm128) (rest := [_]) (cY := 0) (sY := 0) (cM := 40) (sM := 400) rfl rfl rfl rfl rfl rfl rfl rfl rfl rfl rfl (by omega) (by omega) (t_draw hLs _ (d := d) h0 (by omega) (by omega)) (by first | assumption | exact upd_eq _ _ _ | ((repeat (refine (upd_ne _ _ (by omega)).trans ?_)); first | assumption | exact upd_eq _ _ _)) (fun v2 H2 n2 hv => ?_)
    obtain ⟨r2, rfl, hr2, hn2, rfl⟩ := hv
    subst n2
    obtain ⟨m1, m2⟩ := mod_oth hp (show r2 + 1 < P by omega)
    refine Gq_iadd (pc' := 158) rfl rfl ?_
    refine Gq_s (pc' := 159) rfl rfl rfl ?_
    refine Gq_get (pc' := 162) rfl rfl (by first | assumption | exact upd_eq _ _ _ | ((repeat (refine (upd_ne _ _ (by omega)).trans ?_)); first | assumption | exact upd_eq _ _ _)) (by exact rfl) ?_
    refine Gq_irem (pc' := 163) (zI (((p + 1 + r2) % P : Nat) : Int)) rfl rfl (z_ne0 (by omega)) (z_remN (a := p + 1 + r2) (by omega) (by omega)) ?_
    generalize (p + 1 + r2) % P = t at m1 m2
    refine Gq_s (pc' := 165) (lv' := [(0, _), (1, _), (3, _), (4, _), (5, _)]) rfl rfl rfl ?_
    refine Gq_s (pc' := 166) rfl rfl rfl ?_
    refine Gq_newaA (pc' := 168) (N := 3) (cM := 40) (sM := 400) rfl (fun _ => rfl) rfl rfl rfl (rfl) (by decide) ((rep_I _)) (by omega) (by omega) ?_
    refine Gq_s (pc' := 169) rfl rfl rfl ?_
    refine Gq_s (pc' := 170) rfl rfl rfl ?_
    refine Gq_s (pc' := 172) rfl rfl rfl ?_
    refine Gq_iast (pc' := 173) (j := 0) rfl rfl (by first | assumption | exact upd_eq _ _ _ | ((repeat (refine (upd_ne _ _ (by omega)).trans ?_)); first | assumption | exact upd_eq _ _ _)) (rfl) (by omega) (by omega) ?_
    refine Gq_s (pc' := 174) rfl rfl rfl ?_
    refine Gq_s (pc' := 175) rfl rfl rfl ?_
    refine Gq_s (pc' := 176) rfl rfl rfl ?_
    refine Gq_s (pc' := 177) rfl rfl rfl ?_
    refine Gq_callvA (pc' := 180) (Y := xm128) (rest := [_, _, _]) (cY := 0) (sY := 0) (cM := 40) (sM := 400) rfl rfl rfl rfl rfl rfl rfl rfl rfl rfl rfl (by omega) (by omega) (t_draw hLs _ (d := d + 1) ((upd_ne _ _ (by omega)).trans ((upd_ne _ _ (by omega)).trans (upd_eq _ _ _))) (by omega) (by decide)) (by first | assumption | exact upd_eq _ _ _ | ((repeat (refine (upd_ne _ _ (by omega)).trans ?_)); first | assumption | exact upd_eq _ _ _)) (fun v3 H3 n3 hv => ?_)
    obtain ⟨r3, rfl, hr3, hn3, rfl⟩ := hv
    subst n3
    refine Gq_zne (pc' := 183) (t := 191) rfl rfl rfl (by omega) (fun hb => ?_) (fun hb => ?_)
    · refine Gq_s (pc' := 192) rfl rfl rfl ?_
      exact t_pb3b hLs hLw hA hX hK hFit hfc hF hp hC hv1 hlen hkn hQ (d := d + 1 + 1) (t := t) (c := -1) m1 m2 (by omega) (by omega) (by omega) (by omega) (upd_eq _ _ _) ((upd_ne _ _ (by omega)).trans (upd_eq _ _ _)) (fun o h1 h2 => (upd_ne _ _ h2).trans ((upd_ne _ _ (by omega)).trans ((upd_ne _ _ (by omega)).trans (upd_ne _ _ h2)))) (fun G m d2 h hW2 => ih G m _ _ d2 (by omega) (by omega) (by omega) hW2)
    · refine Gq_s (pc' := 184) rfl rfl rfl ?_
      refine Gq_s (pc' := 185) rfl rfl rfl ?_
      refine Gq_callvA (pc' := 188) (Y := xm128) (rest := [_, _, _]) (cY := 0) (sY := 0) (cM := 40) (sM := 400) rfl rfl rfl rfl rfl rfl rfl rfl rfl rfl rfl (by omega) (by omega) (t_draw hLs _ (d := d + 1 + 1) (upd_eq _ _ _) (by omega) (by decide)) (by first | assumption | exact upd_eq _ _ _ | ((repeat (refine (upd_ne _ _ (by omega)).trans ?_)); first | assumption | exact upd_eq _ _ _)) (fun v4 H4 n4 hv => ?_)
      obtain ⟨c4, rfl, hc4, hn4, rfl⟩ := hv
      subst n4
      refine Gq_goto rfl (t := 192) rfl ?_
      exact t_pb3b hLs hLw hA hX hK hFit hfc hF hp hC hv1 hlen hkn hQ (d := d + 1 + 1 + 1) (t := t) (c := (c4 : Int)) m1 m2 (by omega) (by omega) (by omega) (by omega) (upd_eq _ _ _) ((upd_ne _ _ (by omega)).trans ((upd_ne _ _ (by omega)).trans (upd_eq _ _ _))) (fun o h1 h2 => (upd_ne _ _ h2).trans ((upd_ne _ _ h2).trans ((upd_ne _ _ (by omega)).trans ((upd_ne _ _ (by omega)).trans (upd_ne _ _ h2))))) (fun G m d2 h hW2 => ih G m _ _ d2 (by omega) (by omega) (by omega) hW2)
end XKA
