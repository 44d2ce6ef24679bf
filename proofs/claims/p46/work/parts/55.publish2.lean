/-! the law's publish and make (printed by wip/p46/gen55.py) -/
section XKB
set_option maxRecDepth 20000 in
theorem t_pb2 {L : Nat} {ys : Nat → Int32} (hLs : L ≤ 100000) {H : HF} {n q d P p y a b c : Nat} {F : Int} {C : (Nat → Nat) → Prop} {cnt : Nat → Nat} {siz : Nat → Nat → Int} {wdr : Nat → Nat → Bool} {num : Nat → Nat → Nat → Int} {nd kd : Nat → Nat → List NR} {ws : List NR} {nid qid kid : Nat → Nat → Nat} {wid : Nat → Nat} {pid : Nat → Nat} {vd gr : Nat → Nat → Nat} {vr : Nat → VR} {wl : List CR} {lk dk : Nat → Option Nat} {th : Bool} {pc pd : Nat} {kx : Nat → Int} {pp : Nat → Nat} {pb : Nat → Option Nat} {cl : List Nat} {cr dr lt fc : Int} {tg : Nat → Nat} (hLw : LwP H q d P cnt siz wdr num nd kd ws nid qid kid wid) (hA : AllB H P pid cnt vd gr vr wl lk dk th pc pd kx pp pb cl cr dr lt fc) (hX : RX H P pid cnt vd vr tg) (hK : Lnk P cnt vd vr siz wdr num nd kd ws wl) (hFit : Fit cnt wdr nd kd) (hfc : 0 ≤ fc ∧ fc ≤ F) (hF : Frs H n) (hp : p < P) (hC : C cnt) (hy : 119 ≤ y) (gy : H y = some (true, 0, aI 3 (f3 (a : Int) (b : Int) (c : Int)))) (ha : a < 3) (hb : b < 3) (hc : c < 3) (hd : d < 500000) {z3 : Int32} (hc4 : cnt p < 4) (hno : ∀ i, i < cnt p → ¬ ordR (num p i) (f3 (a : Int) (b : Int) (c : Int)) 3 0 = 0) : Gw (some (L, ys)) xm133 63 [(0, .ref 0), (1, .int (zI (p : Int))), (2, .ref y), (3, .int z3)] [] H n 1 3 (MQe xm133 (fun v G _ => v = some (.int (zI (bI true))) ∧ ∃ d2, d2 ≤ d + 27 ∧ Wx G q d2 P cr F (fun cnt _ _ _ => CPub C p cnt))) := by
  obtain ⟨h0, hc1, ⟨hm0, hm1⟩, ⟨hz0, hz1⟩, ⟨hi0, hi1⟩, ⟨hq0, hq1⟩, ⟨hk0, hk1⟩, hws, hnd, hqd, hkd, hwd⟩ := id hLw
  obtain ⟨⟨hP2, hP6⟩, hcnt, hvr, ⟨hwl, hwn, hwr⟩, hkk, hnm, hsz⟩ := id hK
  have hn9 := Wx_119 hA hF
  have hyn := Fr_lt hF gy
  have k3 := hm1 p (by omega)
  have k10 := hz1 p (by omega)
  refine Gq_s (pc' := 64) rfl rfl rfl ?_
  refine Gq_get (pc' := 67) rfl rfl (by first | assumption | exact upd_eq _ _ _ | ((repeat (refine (upd_ne _ _ (by omega)).trans ?_)); first | assumption | exact upd_eq _ _ _)) (by exact rfl) ?_
  refine Gq_s (pc' := 68) rfl rfl rfl ?_
  refine Gq_s (pc' := 69) rfl rfl rfl ?_
  refine Gq_iald (pc' := 70) (j := p) rfl rfl (by first | assumption | exact upd_eq _ _ _ | ((repeat (refine (upd_ne _ _ (by omega)).trans ?_)); first | assumption | exact upd_eq _ _ _)) (rfl) (by omega) (by omega) ?_
  refine Gq_s (pc' := 71) rfl rfl rfl ?_
  refine Gq_s (pc' := 72) rfl rfl rfl ?_
  refine Gq_iadd (pc' := 73) rfl rfl ?_
  refine Gq_iast (pc' := 74) (j := p) rfl rfl (by first | assumption | exact upd_eq _ _ _ | ((repeat (refine (upd_ne _ _ (by omega)).trans ?_)); first | assumption | exact upd_eq _ _ _)) (rfl) (by omega) (by omega) ?_
  rw [show ((cnt p : Int) + 1) = ((cnt p + 1 : Nat) : Int) from rfl, aN_fset]
  refine Gq_s (pc' := 75) (lv' := [(0, _), (1, _), (2, _), (3, _)]) rfl rfl rfl ?_
  refine Gq_s (pc' := 76) rfl rfl rfl ?_
  refine Gq_get (pc' := 79) rfl rfl (by first | assumption | exact upd_eq _ _ _ | ((repeat (refine (upd_ne _ _ (by omega)).trans ?_)); first | assumption | exact upd_eq _ _ _)) (by exact rfl) ?_
  refine Gq_s (pc' := 80) rfl rfl rfl ?_
  refine Gq_aald (pc' := 81) (j := p) rfl rfl (by first | assumption | exact upd_eq _ _ _ | ((repeat (refine (upd_ne _ _ (by omega)).trans ?_)); first | assumption | exact upd_eq _ _ _)) (by exact rfl) (rfl) (by omega) (by omega) (rfl) ?_
  refine Gq_s (pc' := 82) rfl rfl rfl ?_
  refine Gq_s (pc' := 83) rfl rfl rfl ?_
  refine Gq_aast (pc' := 84) (j := cnt p) (some y) rfl rfl (by first | assumption | exact upd_eq _ _ _ | ((repeat (refine (upd_ne _ _ (by omega)).trans ?_)); first | assumption | exact upd_eq _ _ _)) (by exact rfl) (fun hz => nomatch hz) (rfl) (fun z hz => by cases hz; exact ⟨_, (upd_ne _ _ (by omega)).trans gy⟩) (rfl) (by omega) (by omega) ?_
  refine Gq_s (pc' := 85) rfl rfl rfl ?_
  refine Gq_get (pc' := 88) rfl rfl (by first | assumption | exact upd_eq _ _ _ | ((repeat (refine (upd_ne _ _ (by omega)).trans ?_)); first | assumption | exact upd_eq _ _ _)) (by exact rfl) ?_
  refine Gq_s (pc' := 89) rfl rfl rfl ?_
  refine Gq_aald (pc' := 90) (j := p) rfl rfl (by first | assumption | exact upd_eq _ _ _ | ((repeat (refine (upd_ne _ _ (by omega)).trans ?_)); first | assumption | exact upd_eq _ _ _)) (by exact rfl) (rfl) (by omega) (by omega) (rfl) ?_
  refine Gq_s (pc' := 91) rfl rfl rfl ?_
  refine Gq_s (pc' := 92) rfl rfl rfl ?_
  refine Gq_s (pc' := 93) rfl rfl rfl ?_
  refine Gq_sipush (pc' := 96) rfl rfl (by decide) ?_
  refine Gq_callv (pc' := 99) (Y := xm128) (rest := [_, _, _]) (ce' := 1) (sl' := 3) rfl rfl rfl rfl rfl rfl rfl rfl rfl (t_draw hLs _ (d := d) ((upd_ne _ _ (by omega)).trans ((upd_ne _ _ (by omega)).trans h0)) (by omega) (by decide)) (by first | assumption | exact upd_eq _ _ _ | ((repeat (refine (upd_ne _ _ (by omega)).trans ?_)); first | assumption | exact upd_eq _ _ _)) (fun v1 H1 n1 hv => ?_)
  obtain ⟨r, rfl, hr, hn1, rfl⟩ := hv
  subst n1
  refine Gq_iadd (pc' := 100) rfl rfl ?_
  refine Gq_iast (pc' := 101) (j := cnt p) rfl rfl (by first | assumption | exact upd_eq _ _ _ | ((repeat (refine (upd_ne _ _ (by omega)).trans ?_)); first | assumption | exact upd_eq _ _ _)) (rfl) (by omega) (by omega) ?_
  generalize hG : hup (hup (hup (hup H 1 (true, 0, aNt 6 (fset cnt p (cnt p + 1)))) (3 + p) (true, 6, aR 4 (fset (fun v => if v < cnt p then some (nid p v) else none) (cnt p) (some y)))) 0 (false, 11, rgF q ((d + 1 : Nat) : Int) (P : Int) (ws.length : Int))) (10 + p) (true, 0, aI 4 (fset (siz p) (cnt p) (1 + (r : Int)))) = G
  have e10 := (congrFun hG (10 + p)).symm.trans (upd_eq _ _ _)
  have e0 := (congrFun hG 0).symm.trans ((upd_ne _ _ (by omega)).trans (upd_eq _ _ _))
  have e3 := (congrFun hG (3 + p)).symm.trans ((upd_ne _ _ (by omega)).trans ((upd_ne _ _ (by omega)).trans (upd_eq _ _ _)))
  have e1 := (congrFun hG 1).symm.trans ((upd_ne _ _ (by omega)).trans ((upd_ne _ _ (by omega)).trans ((upd_ne _ _ (by omega)).trans (upd_eq _ _ _))))
  have eo : ∀ o, ¬ o = 0 → ¬ o = 1 → ¬ o = 3 + p → ¬ o = 10 + p → G o = H o := fun o h1 h2 h3 h4 => (congrFun hG o).symm.trans ((upd_ne _ _ h4).trans ((upd_ne _ _ h1).trans ((upd_ne _ _ h3).trans (upd_ne _ _ h2))))
  have hLL : Lw H G := lkA hF (by omega) ⟨_, h0⟩ (Sp := fun o => o = 1 ∨ o = 3 + p ∨ o = 10 + p) (fun o c9 h1 h2 => by
    rcases h1 with h1 | h1 | h1
    · rw [h1, hc1] at h2
      cases h2
      exact ⟨by omega, rfl⟩
    · rw [h1, k3] at h2
      cases h2
      exact ⟨by omega, rfl⟩
    · rw [h1, k10] at h2
      cases h2
      exact ⟨by omega, rfl⟩) (fun o _ h1 h2 => eo o h1 (fun z => h2 (.inl z)) (fun z => h2 (.inr (.inl z))) (fun z => h2 (.inr (.inr z))))
  have hA2 := AllB_ge (Lw_ge hLL) hA
  have hX2 := RX_ge8 (Lw_ge8 hLL) hX
  have ey := (eo y (by omega) (by omega) (by omega) (by omega)).trans gy
  have e9 := (eo 9 (by omega) (by omega) (by omega) (by omega)).trans hz0
  have g86 := hA2.2.1
  have hLw2 := LwP_pub hLw (by omega) hc4 e0 (fun o _ h1 h2 h3 h4 => eo o h1 h2 h3 h4) e1 e3 e10 (Lw_int hLL) hy ey
  have hno2 : ∀ i, i < cnt p → ¬ vM (vr (vd p i)) = mkM (a : Int) (b : Int) (c : Int) := fun i hi hm => by
    rw [hvr p i hp hi] at hm
    have hm : mkM (num p i 0) (num p i 1) (num p i 2) = mkM (a : Int) (b : Int) (c : Int) := hm
    obtain ⟨z1, z2, z3⟩ := mkM_inj (hnm p i 0 hp hi (by omega)) (hnm p i 1 hp hi (by omega)) (hnm p i 2 hp hi (by omega)) (by omega) (by omega) (by omega) hm
    refine hno i hi (ord_eq fun j hj => ?_)
    have : j = 0 ∨ j = 1 ∨ j = 2 := by omega
    rcases this with rfl | rfl | rfl
    · exact z1
    · exact z2
    · exact z3
  obtain ⟨f1, f2, f3'⟩ := hFit p (cnt p) (by omega) (Nat.le_refl _) hc4
  clear hG h0 hc1 hm0 hz0 k3 k10 gy
  refine Gq_s (pc' := 102) rfl rfl rfl ?_
  refine Gq_get (pc' := 105) rfl rfl (by first | assumption | exact upd_eq _ _ _ | ((repeat (refine (upd_ne _ _ (by omega)).trans ?_)); first | assumption | exact upd_eq _ _ _)) (by exact rfl) ?_
  refine Gq_s (pc' := 106) rfl rfl rfl ?_
  refine Gq_s (pc' := 107) rfl rfl rfl ?_
  refine Gq_s (pc' := 108) rfl rfl rfl ?_
  refine Gq_iald (pc' := 109) (j := 0) rfl rfl (by first | assumption | exact upd_eq _ _ _ | ((repeat (refine (upd_ne _ _ (by omega)).trans ?_)); first | assumption | exact upd_eq _ _ _)) (rfl) (by omega) (by omega) ?_
  refine Gq_s (pc' := 110) rfl rfl rfl ?_
  refine Gq_s (pc' := 111) rfl rfl rfl ?_
  refine Gq_iald (pc' := 112) (j := 1) rfl rfl (by first | assumption | exact upd_eq _ _ _ | ((repeat (refine (upd_ne _ _ (by omega)).trans ?_)); first | assumption | exact upd_eq _ _ _)) (rfl) (by omega) (by omega) ?_
  refine Gq_s (pc' := 113) rfl rfl rfl ?_
  refine Gq_s (pc' := 114) rfl rfl rfl ?_
  refine Gq_iald (pc' := 115) (j := 2) rfl rfl (by first | assumption | exact upd_eq _ _ _ | ((repeat (refine (upd_ne _ _ (by omega)).trans ?_)); first | assumption | exact upd_eq _ _ _)) (rfl) (by omega) (by omega) ?_
  refine Gq_s (pc' := 116) rfl rfl rfl ?_
  refine Gq_get (pc' := 119) rfl rfl (by first | assumption | exact upd_eq _ _ _ | ((repeat (refine (upd_ne _ _ (by omega)).trans ?_)); first | assumption | exact upd_eq _ _ _)) (by exact rfl) ?_
  refine Gq_s (pc' := 120) rfl rfl rfl ?_
  refine Gq_aald (pc' := 121) (j := p) rfl rfl (by first | assumption | exact upd_eq _ _ _ | ((repeat (refine (upd_ne _ _ (by omega)).trans ?_)); first | assumption | exact upd_eq _ _ _)) (by exact rfl) (rfl) (by omega) (by omega) (rfl) ?_
  refine Gq_s (pc' := 122) rfl rfl rfl ?_
  refine Gq_iald (pc' := 123) (j := cnt p) rfl rfl (by first | assumption | exact upd_eq _ _ _ | ((repeat (refine (upd_ne _ _ (by omega)).trans ?_)); first | assumption | exact upd_eq _ _ _)) (rfl) (by omega) (by omega) ?_
  rw [fset_eq]
  refine Gq_callv (pc' := 126) (Y := xm2) (rest := []) (ce' := 2) (sl' := 11) rfl rfl rfl rfl rfl rfl rfl rfl rfl (q_publish _ hA2 hX2 hp (a := (a : Int)) (b := (b : Int)) (c := (c : Int)) (sz := 1 + (r : Int)) ⟨by omega, by omega⟩ ⟨by omega, by omega⟩ ⟨by omega, by omega⟩ ⟨by omega, by omega⟩ (by omega) hno2) (by first | assumption | exact upd_eq _ _ _ | ((repeat (refine (upd_ne _ _ (by omega)).trans ?_)); first | assumption | exact upd_eq _ _ _)) (fun v2 G2 n2 hv => ?_)
  obtain ⟨rfl, rfl, ⟨gr2, hA3⟩, hX3, hLF⟩ := hv
  refine Gq_s (pc' := 127) rfl rfl rfl ?_
  refine Gq_ceq (pc' := 130) (t := 132) rfl rfl rfl (by omega) (by omega) (fun _ => ?_) (fun hq => absurd (rfl) hq)
  have h0 := (LwP_lf hLF hLw2).1
  refine Gq_s (pc' := 133) rfl rfl rfl ?_
  refine Gq_s (pc' := 134) rfl rfl rfl ?_
  refine Gq_callv (pc' := 137) (Y := xm128) (rest := []) (ce' := 2) (sl' := 11) rfl rfl rfl rfl rfl rfl rfl rfl rfl (t_draw hLs _ (d := d + 1) h0 (by omega) (by decide)) (by first | assumption | exact upd_eq _ _ _ | ((repeat (refine (upd_ne _ _ (by omega)).trans ?_)); first | assumption | exact upd_eq _ _ _)) (fun v3 H3 n3 hv => ?_)
  obtain ⟨k, rfl, hk, hn3, rfl⟩ := hv
  subst n3
  refine Gq_s (pc' := 139) (lv' := [(0, _), (1, _), (2, _), (3, _), (4, _)]) rfl rfl rfl ?_
  refine Gq_wk (lv' := [(0, _), (1, _), (3, _), (4, _)]) [0, 1, 3, 4] rfl rfl MQ_nl ?_
  refine t_pb3 hLs (D := d + 20) (C := CPub C p) (cr := cr) (F := F) (v := cnt p) (c0 := 35) (s0 := 324) hp MQ_nl (by omega) (by omega) (by omega) (fun G m ce sl d2 h1 h2 h3 hW => Gq_mq (t_pb4 hLs hW (by omega) hp h2 h3) ?_) k _ _ _ _ (d + 1 + 1) (by omega) (by omega) (by omega) ⟨_, _, _, _, _, _, _, _, _, _, _, _, _, _, _, _, _, _, _, _, _, _, _, _, _, _, _, _, _, LwP_dr (LwP_lf hLF hLw2) (upd_eq _ _ _) (fun o _ h => upd_ne _ _ h) (Lw_int (Lw_hup0 h0 _)), AllB_ge (Lw_ge (Lw_hup0 h0 _)) hA3, RX_ge8 (Lw_ge8 (Lw_hup0 h0 _)) hX3, Lnk_pub hK hp hc4 (fun x i hx hi => by have := vd_lt hA.1 hF hx hi; omega) (by omega) (by omega) (by omega) (by omega) f1 f2 f3', fun x z h1 h2 h3 => hFit x z h1 ?_ h3, hfc, ⟨cnt, cnt p + 1, hC, rfl, by omega, by omega, by omega⟩, (fset_eq _ _ _).symm, ?_, f3'⟩
  · rintro v9 G9 m9 ⟨q1, d3, q2, q3⟩
    exact ⟨q1, d3, by omega, q3⟩
  · by_cases e : x = p
    · subst e
      rw [fset_eq] at h2
      omega
    · rwa [fset_ne _ _ e] at h2
  · rw [f2]
    show 0 + k ≤ 2
    omega
theorem t_pb1 {L : Nat} {ys : Nat → Int32} (hLs : L ≤ 100000) {H : HF} {n q d P p y a b c : Nat} {F : Int} {C : (Nat → Nat) → Prop} {cnt : Nat → Nat} {siz : Nat → Nat → Int} {wdr : Nat → Nat → Bool} {num : Nat → Nat → Nat → Int} {nd kd : Nat → Nat → List NR} {ws : List NR} {nid qid kid : Nat → Nat → Nat} {wid : Nat → Nat} {pid : Nat → Nat} {vd gr : Nat → Nat → Nat} {vr : Nat → VR} {wl : List CR} {lk dk : Nat → Option Nat} {th : Bool} {pc pd : Nat} {kx : Nat → Int} {pp : Nat → Nat} {pb : Nat → Option Nat} {cl : List Nat} {cr dr lt fc : Int} {tg : Nat → Nat} (hLw : LwP H q d P cnt siz wdr num nd kd ws nid qid kid wid) (hA : AllB H P pid cnt vd gr vr wl lk dk th pc pd kx pp pb cl cr dr lt fc) (hX : RX H P pid cnt vd vr tg) (hK : Lnk P cnt vd vr siz wdr num nd kd ws wl) (hFit : Fit cnt wdr nd kd) (hfc : 0 ≤ fc ∧ fc ≤ F) (hF : Frs H n) (hp : p < P) (hC : C cnt) (hy : 119 ≤ y) (gy : H y = some (true, 0, aI 3 (f3 (a : Int) (b : Int) (c : Int)))) (ha : a < 3) (hb : b < 3) (hc : c < 3) (hd : d < 500000) (hc4 : cnt p < 4) : ∀ (k j : Nat), j + k = cnt p → (∀ i, i < j → ¬ ordR (num p i) (f3 (a : Int) (b : Int) (c : Int)) 3 0 = 0) → Gw (some (L, ys)) xm133 30 [(0, .ref 0), (1, .int (zI (p : Int))), (2, .ref y), (3, .int (zI (j : Int)))] [] H n 1 3 (MQe xm133 (fun v G _ => v = some (.int (zI (bI true))) ∧ ∃ d2, d2 ≤ d + 27 ∧ Wx G q d2 P cr F (fun cnt _ _ _ => CPub C p cnt))) := by
  intro k
  induction k with
  | zero =>
    intro j hj hno
    obtain ⟨h0, hc1, ⟨hm0, hm1⟩, ⟨hz0, hz1⟩, ⟨hi0, hi1⟩, ⟨hq0, hq1⟩, ⟨hk0, hk1⟩, hws, hnd, hqd, hkd, hwd⟩ := id hLw
    obtain ⟨⟨hP2, hP6⟩, hcnt, hvr, ⟨hwl, hwn, hwr⟩, hkk, hnm, hsz⟩ := id hK
    refine Gq_s (pc' := 31) rfl rfl rfl ?_
    refine Gq_s (pc' := 32) rfl rfl rfl ?_
    refine Gq_get (pc' := 35) rfl rfl (by first | assumption | exact upd_eq _ _ _ | ((repeat (refine (upd_ne _ _ (by omega)).trans ?_)); first | assumption | exact upd_eq _ _ _)) (by exact rfl) ?_
    refine Gq_s (pc' := 36) rfl rfl rfl ?_
    refine Gq_iald (pc' := 37) (j := p) rfl rfl (by first | assumption | exact upd_eq _ _ _ | ((repeat (refine (upd_ne _ _ (by omega)).trans ?_)); first | assumption | exact upd_eq _ _ _)) (rfl) (by omega) (by omega) ?_
    refine Gq_cge (pc' := 40) (t := 63) rfl rfl rfl (by omega) (by omega) (fun _ => ?_) (fun hq => absurd (by omega) hq)
    exact t_pb2 hLs hLw hA hX hK hFit hfc hF hp hC hy gy ha hb hc hd hc4 (fun i hi => hno i (by omega))
  | succ k ih =>
    intro j hj hno
    obtain ⟨h0, hc1, ⟨hm0, hm1⟩, ⟨hz0, hz1⟩, ⟨hi0, hi1⟩, ⟨hq0, hq1⟩, ⟨hk0, hk1⟩, hws, hnd, hqd, hkd, hwd⟩ := id hLw
    obtain ⟨⟨hP2, hP6⟩, hcnt, hvr, ⟨hwl, hwn, hwr⟩, hkk, hnm, hsz⟩ := id hK
    have k3 := hm1 p (by omega)
    have hj9 := (hnd p j (by omega) (by omega)).2
    have hs1 : sml (num p j) 3 := sml_num (fun i hi => hnm p j i hp (by omega) hi)
    have hs2 : sml (f3 (a : Int) (b : Int) (c : Int)) 3 := fun i hi => by
      have : i = 0 ∨ i = 1 ∨ i = 2 := by omega
      rcases this with rfl | rfl | rfl
      · show -1000 ≤ (a : Int) ∧ (a : Int) ≤ 1000; omega
      · show -1000 ≤ (b : Int) ∧ (b : Int) ≤ 1000; omega
      · show -1000 ≤ (c : Int) ∧ (c : Int) ≤ 1000; omega
    have hbd := ordR_b (num p j) (f3 (a : Int) (b : Int) (c : Int)) 3 0
    refine Gq_s (pc' := 31) rfl rfl rfl ?_
    refine Gq_s (pc' := 32) rfl rfl rfl ?_
    refine Gq_get (pc' := 35) rfl rfl (by first | assumption | exact upd_eq _ _ _ | ((repeat (refine (upd_ne _ _ (by omega)).trans ?_)); first | assumption | exact upd_eq _ _ _)) (by exact rfl) ?_
    refine Gq_s (pc' := 36) rfl rfl rfl ?_
    refine Gq_iald (pc' := 37) (j := p) rfl rfl (by first | assumption | exact upd_eq _ _ _ | ((repeat (refine (upd_ne _ _ (by omega)).trans ?_)); first | assumption | exact upd_eq _ _ _)) (rfl) (by omega) (by omega) ?_
    refine Gq_cge (pc' := 40) (t := 63) rfl rfl rfl (by omega) (by omega) (fun hq => absurd hq (by omega)) (fun _ => ?_)
    refine Gq_s (pc' := 41) rfl rfl rfl ?_
    refine Gq_get (pc' := 44) rfl rfl (by first | assumption | exact upd_eq _ _ _ | ((repeat (refine (upd_ne _ _ (by omega)).trans ?_)); first | assumption | exact upd_eq _ _ _)) (by exact rfl) ?_
    refine Gq_s (pc' := 45) rfl rfl rfl ?_
    refine Gq_aald (pc' := 46) (j := p) rfl rfl (by first | assumption | exact upd_eq _ _ _ | ((repeat (refine (upd_ne _ _ (by omega)).trans ?_)); first | assumption | exact upd_eq _ _ _)) (by exact rfl) (rfl) (by omega) (by omega) (rfl) ?_
    refine Gq_s (pc' := 47) rfl rfl rfl ?_
    refine Gq_aald (pc' := 48) (j := j) rfl rfl (by first | assumption | exact upd_eq _ _ _ | ((repeat (refine (upd_ne _ _ (by omega)).trans ?_)); first | assumption | exact upd_eq _ _ _)) (by exact rfl) (rfl) (by omega) (by omega) (rv_if (show j < cnt p by omega)) ?_
    refine Gq_s (pc' := 49) rfl rfl rfl ?_
    refine Gq_calls (pc' := 52) (Y := xm132) (rest := []) (ce' := 1) (sl' := 3) rfl rfl rfl rfl rfl rfl rfl rfl rfl rfl (t_ord hLs _ hj9 gy hs1 hs2) (fun v2 G2 n2 hv => ?_)
    obtain ⟨rfl, rfl, rfl⟩ := hv
    refine Gq_zne (pc' := 55) (t := 57) rfl rfl rfl (by omega) (fun hb9 => ?_) (fun hb9 => ?_)
    · refine Gq_iinc (pc' := 60) (lv' := [(0, _), (1, _), (2, _), (3, _)]) rfl rfl rfl rfl ?_
      refine Gq_goto rfl (t := 30) rfl ?_
      refine ih (j + 1) (by omega) (fun i hi => ?_)
      by_cases e : i = j
      · rw [e]; exact hb9
      · exact hno i (by omega)
    · refine Gq_s (pc' := 56) rfl rfl rfl ?_
      exact Gq_ret rfl rfl (rfl) (⟨rfl, d, by omega, _, _, _, _, _, _, _, _, _, _, _, _, _, _, _, _, _, _, _, _, _, _, _, _, _, _, _, _, _, hLw, hA, hX, hK, hFit, hfc, ⟨cnt, cnt p, hC, (fset_self _ _).symm, by omega, Nat.le_refl _, by omega⟩⟩)
theorem t_publish {L : Nat} {ys : Nat → Int32} (hLs : L ≤ 100000) {H : HF} (n : Nat) {q d P : Nat} {cr F : Int} {p : Nat} {C : (Nat → Nat) → Prop} (hW : Wx H q d P cr F (fun cnt _ _ _ => C cnt)) (hd : d < 400000) (hp : p < P) (hC4 : ∀ cnt, C cnt → cnt p < 4) : Rmt (some (L, ys)) 133 [.ref 0, .int (zI (p : Int))] H n (fun v G _ => v = some (.int (zI (bI true))) ∧ ∃ d2, d2 ≤ d + 30 ∧ Wx G q d2 P cr F (fun cnt _ _ _ => CPub C p cnt)) := by
  refine Rm_fr (fun hF => ?_)
  refine Rm_of (M := xm133) (lv := [(0, _), (1, _)]) rfl rfl rfl ?_
  obtain ⟨cnt, siz, wdr, num, nd, kd, ws, nid, qid, kid, wid, pid, vd, gr, vr, wl, lk, dk, th, pc, pd, kx, pp, pb, cl, dr, lt, fc, tg, hLw, hA, hX, hK, hFit, hfc, hXX⟩ := hW
  obtain ⟨h0, hc1, ⟨hm0, hm1⟩, ⟨hz0, hz1⟩, ⟨hi0, hi1⟩, ⟨hq0, hq1⟩, ⟨hk0, hk1⟩, hws, hnd, hqd, hkd, hwd⟩ := id hLw
  obtain ⟨⟨hP2, hP6⟩, hcnt, hvr, ⟨hwl, hwn, hwr⟩, hkk, hnm, hsz⟩ := id hK
  have hn9 := Wx_119 hA hF
  have hC : C cnt := hXX
  clear hc1 hm0 hz0 hi0 hq0 hk0 hws
  refine Gq_s (pc' := 1) rfl rfl rfl ?_
  refine Gq_newa (pc' := 3) (N := 3) rfl (fun _ => rfl) rfl rfl (rfl) (by decide) ((rep_I _)) (by decide) (by decide) ?_
  refine Gq_s (pc' := 4) rfl rfl rfl ?_
  refine Gq_s (pc' := 5) rfl rfl rfl ?_
  refine Gq_s (pc' := 6) rfl rfl rfl ?_
  refine Gq_s (pc' := 7) rfl rfl rfl ?_
  refine Gq_callv (pc' := 10) (Y := xm128) (rest := [_, _, _]) (ce' := 1) (sl' := 3) rfl rfl rfl rfl rfl rfl rfl rfl rfl (t_draw hLs _ (d := d + 0) (by first | (rw [upd_ne _ _ (by omega)]; exact h0) | (rw [upd_ne _ _ (by omega)]; exact upd_eq _ _ _)) (by omega) (by decide)) (by first | (exact (upd_ne _ _ (by omega)).trans h0) | (exact (upd_ne _ _ (by omega)).trans (upd_eq _ _ _))) (fun v0 H0 n0 hv => ?_)
  obtain ⟨a, rfl, ha, hn0, rfl⟩ := hv
  subst n0
  refine Gq_iast (pc' := 11) (j := 0) rfl rfl (by first | assumption | exact upd_eq _ _ _ | ((repeat (refine (upd_ne _ _ (by omega)).trans ?_)); first | assumption | exact upd_eq _ _ _)) (rfl) (by omega) (by omega) ?_
  refine Gq_s (pc' := 12) rfl rfl rfl ?_
  refine Gq_s (pc' := 13) rfl rfl rfl ?_
  refine Gq_s (pc' := 14) rfl rfl rfl ?_
  refine Gq_s (pc' := 15) rfl rfl rfl ?_
  refine Gq_callv (pc' := 18) (Y := xm128) (rest := [_, _, _]) (ce' := 1) (sl' := 3) rfl rfl rfl rfl rfl rfl rfl rfl rfl (t_draw hLs _ (d := d + 1) (by first | (rw [upd_ne _ _ (by omega)]; exact h0) | (rw [upd_ne _ _ (by omega)]; exact upd_eq _ _ _)) (by omega) (by decide)) (by first | (exact (upd_ne _ _ (by omega)).trans h0) | (exact (upd_ne _ _ (by omega)).trans (upd_eq _ _ _))) (fun v1 H1 n1 hv => ?_)
  obtain ⟨b, rfl, hb, hn1, rfl⟩ := hv
  subst n1
  refine Gq_iast (pc' := 19) (j := 1) rfl rfl (by first | assumption | exact upd_eq _ _ _ | ((repeat (refine (upd_ne _ _ (by omega)).trans ?_)); first | assumption | exact upd_eq _ _ _)) (rfl) (by omega) (by omega) ?_
  refine Gq_s (pc' := 20) rfl rfl rfl ?_
  refine Gq_s (pc' := 21) rfl rfl rfl ?_
  refine Gq_s (pc' := 22) rfl rfl rfl ?_
  refine Gq_s (pc' := 23) rfl rfl rfl ?_
  refine Gq_callv (pc' := 26) (Y := xm128) (rest := [_, _, _]) (ce' := 1) (sl' := 3) rfl rfl rfl rfl rfl rfl rfl rfl rfl (t_draw hLs _ (d := d + 2) (by first | (rw [upd_ne _ _ (by omega)]; exact h0) | (rw [upd_ne _ _ (by omega)]; exact upd_eq _ _ _)) (by omega) (by decide)) (by first | (exact (upd_ne _ _ (by omega)).trans h0) | (exact (upd_ne _ _ (by omega)).trans (upd_eq _ _ _))) (fun v2 H2 n2 hv => ?_)
  obtain ⟨c, rfl, hc, hn2, rfl⟩ := hv
  subst n2
  refine Gq_iast (pc' := 27) (j := 2) rfl rfl (by first | assumption | exact upd_eq _ _ _ | ((repeat (refine (upd_ne _ _ (by omega)).trans ?_)); first | assumption | exact upd_eq _ _ _)) (rfl) (by omega) (by omega) ?_
  refine Gq_s (pc' := 28) (lv' := [(0, _), (1, _), (2, _)]) rfl rfl rfl ?_
  refine Gq_s (pc' := 29) rfl rfl rfl ?_
  refine Gq_s (pc' := 30) (lv' := [(0, _), (1, _), (2, _), (3, _)]) rfl rfl rfl ?_
  have key : ∀ G : HF, (∀ o, o < n → ¬ o = 0 → G o = H o) → G 0 = some (false, 11, rgF q ((d + 3 : Nat) : Int) (P : Int) (ws.length : Int)) → G n = some (true, 0, aI 3 (f3 (a : Int) (b : Int) (c : Int))) → Gw (some (L, ys)) xm133 30 [(0, .ref 0), (1, .int (zI (p : Int))), (2, .ref n), (3, .int (zI ((0 : Nat) : Int)))] [] G (n + 1) 1 3 (MQe xm133 (fun v G _ => v = some (.int (zI (bI true))) ∧ ∃ d2, d2 ≤ d + 30 ∧ Wx G q d2 P cr F (fun cnt _ _ _ => CPub C p cnt))) := fun G g1 g0 gy => by
    refine Gq_fr (fun hF2 => ?_)
    have hLL : Lw H G := lkA hF (by omega) ⟨_, h0⟩ (Sp := fun _ => False) (fun _ _ z => z.elim) (fun o h1 h2 _ => g1 o h1 h2)
    refine Gq_mq (t_pb1 hLs (LwP_dr hLw g0 (fun o h1 h2 => g1 o (by omega) h2) (Lw_int hLL)) (AllB_ge (Lw_ge hLL) hA) (RX_ge8 (Lw_ge8 hLL) hX) hK hFit hfc hF2 hp hC (by omega) gy (by omega) (by omega) (by omega) (by omega) (hC4 cnt hC) (cnt p) 0 (by omega) (fun i hi => absurd hi (by omega))) ?_
    rintro v9 G9 m9 ⟨q1, d3, q2, q3⟩
    exact ⟨q1, d3, by omega, q3⟩
  refine key _ (fun o h1 h2 => by (repeat (refine (upd_ne _ _ (by omega)).trans ?_)); rfl) ((upd_ne _ _ (by omega)).trans (upd_eq _ _ _)) ((upd_eq _ _ _).trans (congrArg (fun z => some (true, 0, z)) (f3_is _ _ _)))
end XKB
