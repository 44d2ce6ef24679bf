/-! the law's wish (printed by wip/p46/gen53.py) -/
section XKz
theorem row6 {t f k a b e : Nat} : aI (2 + 4) (fun j => if j < 2 then fset (fset (fun _ => 0) 0 (t : Int)) 1 (f : Int) j else f4 (k : Int) (a : Int) (b : Int) (e : Int) (j - 2)) = aI 6 (rw6 (t, -1, f, (k : Int), (a : Int), (b : Int), (e : Int))) := aX_ext fun j hj => by
  have : j = 0 ∨ j = 1 ∨ j = 2 ∨ j = 3 ∨ j = 4 ∨ j = 5 := by omega
  rcases this with rfl | rfl | rfl | rfl | rfl | rfl <;> rfl
theorem row6k {t f a b e : Nat} {k : Int} : aI 6 (fset (rw6 (t, -1, f, k, (a : Int), (b : Int), (e : Int))) 2 0) = aI 6 (rw6 (t, -1, f, 0, (a : Int), (b : Int), (e : Int))) := aX_ext fun j hj => by
  have : j = 0 ∨ j = 1 ∨ j = 2 ∨ j = 3 ∨ j = 4 ∨ j = 5 := by omega
  rcases this with rfl | rfl | rfl | rfl | rfl | rfl <;> rfl
theorem t_ws3 {L : Nat} {ys : Nat → Int32} (hLs : L ≤ 100000) {H0 H : HF} {n0 q d0 d P : Nat} {F : Int} {C : (Nat → Nat) → Prop} {cnt : Nat → Nat} {siz : Nat → Nat → Int} {wdr : Nat → Nat → Bool} {num : Nat → Nat → Nat → Int} {nd kd : Nat → Nat → List NR} {ws : List NR} {nid qid kid : Nat → Nat → Nat} {wid : Nat → Nat} {pid : Nat → Nat} {vd gr : Nat → Nat → Nat} {vr : Nat → VR} {wl : List CR} {lk dk : Nat → Option Nat} {th : Bool} {pc pd : Nat} {kx : Nat → Int} {pp : Nat → Nat} {pb : Nat → Option Nat} {cl : List Nat} {cr dr lt fc : Int} {tg : Nat → Nat} (hLw : LwP H0 q d0 P cnt siz wdr num nd kd ws nid qid kid wid) (hA : AllB H0 P pid cnt vd gr vr wl lk dk th pc pd kx pp pb cl cr dr lt fc) (hX : RX H0 P pid cnt vd vr tg) (hK : Lnk P cnt vd vr siz wdr num nd kd ws wl) (hFit : Fit cnt wdr nd kd) (hfc : 0 ≤ fc ∧ fc ≤ F) (hF0 : Frs H0 n0) {t f a b e : Nat} {k : Int} {v1 : Nat} (hlen : ws.length < 6) (hr : NRok P (t, -1, f, k, (a : Int), (b : Int), (e : Int))) (hC : C cnt) (g0 : H 0 = some (false, 11, rgF q (d : Int) (P : Int) (ws.length : Int))) (g85 : H 85 = some (true, 6, aR 6 (fset (fun w => if w < ws.length then some (wid w) else none) ws.length (some (n0 + 2))))) (gy : H (n0 + 2) = some (true, 0, aI 6 (rw6 (t, -1, f, k, (a : Int), (b : Int), (e : Int))))) (hcur : ∀ o, o < n0 → ¬ o = 0 → ¬ o = 85 → H o = H0 o) : Gw (some (L, ys)) xm135 72 [(0, .ref 0), (1, .ref v1)] [] H (n0 + 3) 3 70 (MQe xm135 (fun v G _ => v = some (.int (zI (bI true))) ∧ ∃ d2, d2 ≤ d ∧ Wx G q d2 P cr F (fun cnt _ _ _ => C cnt))) := by
  obtain ⟨h0, hc1, ⟨hm0, hm1⟩, ⟨hz0, hz1⟩, ⟨hi0, hi1⟩, ⟨hq0, hq1⟩, ⟨hk0, hk1⟩, hws, hnd, hqd, hkd, hwd⟩ := id hLw
  obtain ⟨⟨hP2, hP6⟩, hcnt, hvr, ⟨hwl, hwn, hwr⟩, hkk, hnm, hsz⟩ := id hK
  have hn9 := Wx_119 hA hF0
  have hLL : Lw H0 H := lkA hF0 (by omega) ⟨_, h0⟩ (Sp := fun o => o = 85) (fun o c h1 h2 => by
    rw [h1, hws] at h2
    cases h2
    exact ⟨by omega, rfl⟩) hcur
  have hA2 := AllB_ge (Lw_ge hLL) hA
  have hX2 := RX_ge8 (Lw_ge8 hLL) hX
  have g86 := hA2.2.1
  have hwll : wl.length = ws.length := by rw [hwl, List.length_map]
  obtain ⟨r1, r2, r3, r4, r5, r6, r7⟩ := id hr
  have r1 : t < P := r1
  have r3 : f < 4 := r3
  have r4 : 0 ≤ k ∧ k ≤ 5 := r4
  have r5 : 0 ≤ (a : Int) ∧ (a : Int) ≤ 2 := r5
  have r6 : 0 ≤ (b : Int) ∧ (b : Int) ≤ 2 := r6
  have r7 : 0 ≤ (e : Int) ∧ (e : Int) ≤ 2 := r7
  clear h0 hws
  refine Gq_s (pc' := 73) rfl rfl rfl ?_
  refine Gq_get (pc' := 76) rfl rfl (by first | assumption | exact upd_eq _ _ _ | ((repeat (refine (upd_ne _ _ (by omega)).trans ?_)); first | assumption | exact upd_eq _ _ _)) (by exact rfl) ?_
  refine Gq_s (pc' := 77) rfl rfl rfl ?_
  refine Gq_get (pc' := 80) rfl rfl (by first | assumption | exact upd_eq _ _ _ | ((repeat (refine (upd_ne _ _ (by omega)).trans ?_)); first | assumption | exact upd_eq _ _ _)) (by exact rfl) ?_
  refine Gq_aald (pc' := 81) (j := ws.length) rfl rfl (by first | assumption | exact upd_eq _ _ _ | ((repeat (refine (upd_ne _ _ (by omega)).trans ?_)); first | assumption | exact upd_eq _ _ _)) (by exact rfl) (rfl) (by omega) (by omega) (by rw [fset_eq]; first | done | rfl) ?_
  refine Gq_s (pc' := 82) (lv' := [(0, _), (1, _), (2, _)]) rfl rfl rfl ?_
  refine Gq_s (pc' := 83) rfl rfl rfl ?_
  refine Gq_get (pc' := 86) rfl rfl (by first | assumption | exact upd_eq _ _ _ | ((repeat (refine (upd_ne _ _ (by omega)).trans ?_)); first | assumption | exact upd_eq _ _ _)) (by exact rfl) ?_
  refine Gq_s (pc' := 87) rfl rfl rfl ?_
  refine Gq_s (pc' := 88) rfl rfl rfl ?_
  refine Gq_iald (pc' := 89) (j := 0) rfl rfl (by first | assumption | exact upd_eq _ _ _ | ((repeat (refine (upd_ne _ _ (by omega)).trans ?_)); first | assumption | exact upd_eq _ _ _)) (rfl) (by omega) (by omega) ?_
  refine Gq_s (pc' := 90) rfl rfl rfl ?_
  refine Gq_s (pc' := 91) rfl rfl rfl ?_
  refine Gq_iald (pc' := 92) (j := 1) rfl rfl (by first | assumption | exact upd_eq _ _ _ | ((repeat (refine (upd_ne _ _ (by omega)).trans ?_)); first | assumption | exact upd_eq _ _ _)) (rfl) (by omega) (by omega) ?_
  refine Gq_s (pc' := 93) rfl rfl rfl ?_
  refine Gq_s (pc' := 94) rfl rfl rfl ?_
  refine Gq_iald (pc' := 95) (j := 2) rfl rfl (by first | assumption | exact upd_eq _ _ _ | ((repeat (refine (upd_ne _ _ (by omega)).trans ?_)); first | assumption | exact upd_eq _ _ _)) (rfl) (by omega) (by omega) ?_
  refine Gq_s (pc' := 96) rfl rfl rfl ?_
  refine Gq_s (pc' := 97) rfl rfl rfl ?_
  refine Gq_iald (pc' := 98) (j := 3) rfl rfl (by first | assumption | exact upd_eq _ _ _ | ((repeat (refine (upd_ne _ _ (by omega)).trans ?_)); first | assumption | exact upd_eq _ _ _)) (rfl) (by omega) (by omega) ?_
  refine Gq_s (pc' := 99) rfl rfl rfl ?_
  refine Gq_s (pc' := 100) rfl rfl rfl ?_
  refine Gq_iald (pc' := 101) (j := 4) rfl rfl (by first | assumption | exact upd_eq _ _ _ | ((repeat (refine (upd_ne _ _ (by omega)).trans ?_)); first | assumption | exact upd_eq _ _ _)) (rfl) (by omega) (by omega) ?_
  refine Gq_s (pc' := 102) rfl rfl rfl ?_
  refine Gq_s (pc' := 103) rfl rfl rfl ?_
  refine Gq_iald (pc' := 104) (j := 5) rfl rfl (by first | assumption | exact upd_eq _ _ _ | ((repeat (refine (upd_ne _ _ (by omega)).trans ?_)); first | assumption | exact upd_eq _ _ _)) (rfl) (by omega) (by omega) ?_
  refine Gq_callv (pc' := 107) (Y := xm9) (rest := []) (ce' := 5) (sl' := 77) rfl rfl rfl rfl rfl rfl rfl rfl rfl (q_wish (n0 + 3) hA2 (p := t) (f := f) (k := k) (a := a) (b := b) (c := e) r1 (by omega) r4 ⟨by omega, by omega⟩ ⟨by omega, by omega⟩ ⟨by omega, by omega⟩ (by omega)) (by first | assumption | exact upd_eq _ _ _ | ((repeat (refine (upd_ne _ _ (by omega)).trans ?_)); first | assumption | exact upd_eq _ _ _)) (fun v9 G n9 hv => ?_)
  obtain ⟨rfl, rfl, hA3, hgg, hLF⟩ := hv
  rw [hwll]
  have k0 := (hLF.1 0 (by omega)).trans g0
  refine Gq_s (pc' := 108) rfl rfl rfl ?_
  refine Gq_s (pc' := 109) rfl rfl rfl ?_
  refine Gq_get (pc' := 112) rfl rfl (by first | assumption) (by exact rfl) ?_
  refine Gq_s (pc' := 113) rfl rfl rfl ?_
  refine Gq_s (pc' := 114) rfl rfl rfl ?_
  refine Gq_iadd (pc' := 115) rfl rfl ?_
  refine Gq_put (pc' := 118) (fs' := [_, _, _, _, _, _, _, _, _, _, _, _, _]) rfl rfl (by first | assumption) (by exact rfl) (by first | rfl | exact xfit_bI _) (by exact rfl) ?_
  refine Gq_cne (pc' := 121) (t := 125) rfl rfl rfl (by omega) (by omega) (fun hb => ?_) (fun hb => ?_)
  · exact absurd rfl hb
  · refine Gq_s (pc' := 122) rfl rfl rfl ?_
    refine Gq_goto rfl (t := 126) rfl ?_
    have hA4 := AllB_ge (Ge_upd (i := 0) (d := (false, 11, rgF q (d : Int) (P : Int) ((ws.length : Int) + 1))) (Ge_refl G) (.inl (by omega))) hA3
    have h8 : Ge8 H (hup G 0 (false, 11, rgF q (d : Int) (P : Int) ((ws.length : Int) + 1))) := fun o ci fs hci hc => by
      have n0 : ¬ o = 0 := fun z => by
        rw [z, g0] at hc
        cases hc
        omega
      rw [upd_ne _ _ n0]
      refine hgg o _ (fun z => ?_) (fun z => ?_) hc
      · rw [z, hA2.2.2.1.1.1] at hc
        cases hc
        omega
      · obtain ⟨-, -, wc, q9, -⟩ := hA2.2.2.1.1
        rw [z, q9] at hc
        cases hc
    refine Gq_ret rfl rfl rfl ⟨rfl, d, Nat.le_refl _, _, _, _, _, _, _, _, _, _, _, _, _, _, _, _, _, _, _, _, _, _, _, _, _, _, _, _, _, _, LwP_wish (r := (t, -1, f, k, (a : Int), (b : Int), (e : Int))) (y := n0 + 2) hLw ((upd_eq _ _ _).trans ?_) (fun o h1 h2 h3 => ?_) ?_ (fun o vs ho hc => ?_) (by omega) ?_, hA4, RX_ge8 h8 hX2, Lnk_wish hK hr hlen, hFit, hfc, hC⟩
    · rw [List.length_append]
      rfl
    · rw [upd_ne _ _ h2, hLF.1 o h1]
      exact hcur o (by omega) h2 h3
    · rw [upd_ne _ _ (by omega), hLF.1 85 (by omega)]
      exact g85
    · rw [upd_ne _ _ (by omega)]
      exact hLF.2 o vs ho (Lw_int hLL o vs ho hc)
    · rw [upd_ne _ _ (by omega)]
      exact hLF.2 _ _ (by omega) gy
theorem t_ws2 {L : Nat} {ys : Nat → Int32} (hLs : L ≤ 100000) {H0 H : HF} {n0 q d0 d P : Nat} {F : Int} {C : (Nat → Nat) → Prop} {cnt : Nat → Nat} {siz : Nat → Nat → Int} {wdr : Nat → Nat → Bool} {num : Nat → Nat → Nat → Int} {nd kd : Nat → Nat → List NR} {ws : List NR} {nid qid kid : Nat → Nat → Nat} {wid : Nat → Nat} {pid : Nat → Nat} {vd gr : Nat → Nat → Nat} {vr : Nat → VR} {wl : List CR} {lk dk : Nat → Option Nat} {th : Bool} {pc pd : Nat} {kx : Nat → Int} {pp : Nat → Nat} {pb : Nat → Option Nat} {cl : List Nat} {cr dr lt fc : Int} {tg : Nat → Nat} (hLw : LwP H0 q d0 P cnt siz wdr num nd kd ws nid qid kid wid) (hA : AllB H0 P pid cnt vd gr vr wl lk dk th pc pd kx pp pb cl cr dr lt fc) (hX : RX H0 P pid cnt vd vr tg) (hK : Lnk P cnt vd vr siz wdr num nd kd ws wl) (hFit : Fit cnt wdr nd kd) (hfc : 0 ≤ fc ∧ fc ≤ F) (hF0 : Frs H0 n0) {t f : Nat} (hlen : ws.length < 6) (ht : t < P) (hf : f < 4) (hd9 : d < 800000) (hC : C cnt) (g0 : H 0 = some (false, 11, rgF q (d : Int) (P : Int) (ws.length : Int))) (gy : H n0 = some (true, 0, aI 2 (fset (fun _ => 0) 0 (t : Int)))) (hcur : ∀ o, o < n0 → ¬ o = 0 → H o = H0 o) : Gw (some (L, ys)) xm135 33 [(0, .ref 0)] [.int (zI (f : Int)), .int 1, .ref n0, .ref n0] H (n0 + 1) 1 2 (MQe xm135 (fun v G _ => v = some (.int (zI (bI true))) ∧ ∃ d2, d2 ≤ d + 5 ∧ Wx G q d2 P cr F (fun cnt _ _ _ => C cnt))) := by
  obtain ⟨h0, hc1, ⟨hm0, hm1⟩, ⟨hz0, hz1⟩, ⟨hi0, hi1⟩, ⟨hq0, hq1⟩, ⟨hk0, hk1⟩, hws, hnd, hqd, hkd, hwd⟩ := id hLw
  obtain ⟨⟨hP2, hP6⟩, hcnt, hvr, ⟨hwl, hwn, hwr⟩, hkk, hnm, hsz⟩ := id hK
  have hn9 := Wx_119 hA hF0
  have k85 := (hcur 85 (by omega) (by omega)).trans hws
  refine Gq_iast (pc' := 34) (j := 1) rfl rfl (by first | assumption | exact upd_eq _ _ _ | ((repeat (refine (upd_ne _ _ (by omega)).trans ?_)); first | assumption | exact upd_eq _ _ _)) (rfl) (by omega) (by omega) ?_
  refine Gq_s (pc' := 35) (lv' := [(0, _), (1, _)]) rfl rfl rfl ?_
  refine Gq_s (pc' := 36) rfl rfl rfl ?_
  refine Gq_get (pc' := 39) rfl rfl (by first | assumption | exact upd_eq _ _ _ | ((repeat (refine (upd_ne _ _ (by omega)).trans ?_)); first | assumption | exact upd_eq _ _ _)) (by exact rfl) ?_
  refine Gq_s (pc' := 40) rfl rfl rfl ?_
  refine Gq_get (pc' := 43) rfl rfl (by first | assumption | exact upd_eq _ _ _ | ((repeat (refine (upd_ne _ _ (by omega)).trans ?_)); first | assumption | exact upd_eq _ _ _)) (by exact rfl) ?_
  refine Gq_s (pc' := 44) rfl rfl rfl ?_
  refine Gq_s (pc' := 45) rfl rfl rfl ?_
  refine Gq_callv (pc' := 48) (Y := xm129) (rest := [_, _, _]) (ce' := 2) (sl' := 6) rfl rfl rfl rfl rfl rfl rfl rfl rfl (t_range hLs _ (d := d) ((upd_ne _ _ (by omega)).trans g0) (by omega)) (by first | assumption | exact upd_eq _ _ _ | ((repeat (refine (upd_ne _ _ (by omega)).trans ?_)); first | assumption | exact upd_eq _ _ _)) (fun v1 G1 n1 hv => ?_)
  obtain ⟨k, a, b, e, hk9, ha9, hb9, he9, rfl, rfl, e0, e1, e2⟩ := hv
  have c0 : G1 n0 = some (true, 0, aI 2 (fset (fset (fun _ => 0) 0 (t : Int)) 1 (f : Int))) := (e2 _ (by omega) (by omega)).trans (upd_eq _ _ _)
  have c85 := (e2 85 (by omega) (by omega)).trans ((upd_ne _ _ (by omega)).trans k85)
  have ccur : ∀ o, o < n0 → ¬ o = 0 → G1 o = H0 o := fun o h1 h2 => (e2 o h2 (by omega)).trans ((upd_ne _ _ (by omega)).trans (hcur o h1 h2))
  clear k85 gy g0 h0 hws hcur
  refine Gq_calls (pc' := 51) (Y := xm130) (rest := [_, _]) (ce' := 3) (sl' := 70) rfl rfl rfl rfl rfl rfl rfl rfl rfl rfl (t_lj hLs _ c0 e1 (by omega)) (fun v2 G2 n2 hv => ?_)
  obtain ⟨rfl, rfl, e3, e4⟩ := hv
  rw [row6] at e3
  have d85 := (e4 85 (by omega)).trans c85
  have d0 := (e4 0 (by omega)).trans e0
  have dcur : ∀ o, o < n0 → ¬ o = 0 → G2 o = H0 o := fun o h1 h2 => (e4 o (by omega)).trans (ccur o h1 h2)
  clear e0 c85 e1 c0 ccur
  refine Gq_aast (pc' := 52) (j := ws.length) (some (n0 + 2)) rfl rfl (by first | assumption | exact upd_eq _ _ _ | ((repeat (refine (upd_ne _ _ (by omega)).trans ?_)); first | assumption | exact upd_eq _ _ _)) (by exact rfl) (fun hz => nomatch hz) (rfl) (fun z hz => by cases hz; exact ⟨_, e3⟩) (rfl) (by omega) (by omega) ?_
  refine Gq_s (pc' := 53) rfl rfl rfl ?_
  refine Gq_s (pc' := 54) rfl rfl rfl ?_
  refine Gq_callv (pc' := 57) (Y := xm128) (rest := []) (ce' := 3) (sl' := 70) rfl rfl rfl rfl rfl rfl rfl rfl rfl (t_draw hLs _ (d := d + 4) ((upd_ne _ _ (by omega)).trans d0) (by omega) (by decide)) (by first | assumption | exact upd_eq _ _ _ | ((repeat (refine (upd_ne _ _ (by omega)).trans ?_)); first | assumption | exact upd_eq _ _ _)) (fun v3 G3 n3 hv => ?_)
  obtain ⟨r9, rfl, hr9, hn3, rfl⟩ := hv
  subst hn3
  refine Gq_zne (pc' := 60) (t := 72) rfl rfl rfl (by omega) (fun hb => ?_) (fun hb => ?_)
  · refine Gq_mq (t_ws3 hLs hLw hA hX hK hFit hfc hF0 (t := t) (f := f) (k := (k : Int)) (a := a) (b := b) (e := e) (d := d + 4 + 1) (v1 := n0) hlen ⟨ht, ⟨by show (-1 : Int) ≤ -1; omega, by show (-1 : Int) < 4; omega⟩, hf, ⟨by show 0 ≤ (k : Int); omega, by show (k : Int) ≤ 5; omega⟩, ⟨by show 0 ≤ (a : Int); omega, by show (a : Int) ≤ 2; omega⟩, ⟨by show 0 ≤ (b : Int); omega, by show (b : Int) ≤ 2; omega⟩, ⟨by show 0 ≤ (e : Int); omega, by show (e : Int) ≤ 2; omega⟩⟩ hC (upd_eq _ _ _) ((upd_ne _ _ (by omega)).trans (upd_eq _ _ _)) ((upd_ne _ _ (by omega)).trans ((upd_ne _ _ (by omega)).trans e3)) (fun o h1 h2 h3 => (upd_ne _ _ h2).trans ((upd_ne _ _ h3).trans (dcur o h1 h2)))) ?_
    rintro v G m ⟨q1, d2, q2, q3⟩
    exact ⟨q1, d2, by omega, q3⟩
  · refine Gq_s (pc' := 61) rfl rfl rfl ?_
    refine Gq_get (pc' := 64) rfl rfl (by first | assumption | exact upd_eq _ _ _ | ((repeat (refine (upd_ne _ _ (by omega)).trans ?_)); first | assumption | exact upd_eq _ _ _)) (by exact rfl) ?_
    refine Gq_s (pc' := 65) rfl rfl rfl ?_
    refine Gq_get (pc' := 68) rfl rfl (by first | assumption | exact upd_eq _ _ _ | ((repeat (refine (upd_ne _ _ (by omega)).trans ?_)); first | assumption | exact upd_eq _ _ _)) (by exact rfl) ?_
    refine Gq_aald (pc' := 69) (j := ws.length) rfl rfl (by first | assumption | exact upd_eq _ _ _ | ((repeat (refine (upd_ne _ _ (by omega)).trans ?_)); first | assumption | exact upd_eq _ _ _)) (by exact rfl) (rfl) (by omega) (by omega) (by rw [fset_eq]; first | done | rfl) ?_
    refine Gq_s (pc' := 70) rfl rfl rfl ?_
    refine Gq_s (pc' := 71) rfl rfl rfl ?_
    refine Gq_iast (pc' := 72) (j := 2) rfl rfl (by first | assumption | exact upd_eq _ _ _ | ((repeat (refine (upd_ne _ _ (by omega)).trans ?_)); first | assumption | exact upd_eq _ _ _)) (rfl) (by omega) (by omega) ?_
    rw [row6k]
    refine Gq_mq (t_ws3 hLs hLw hA hX hK hFit hfc hF0 (t := t) (f := f) (k := 0) (a := a) (b := b) (e := e) (d := d + 4 + 1) (v1 := n0) hlen ⟨ht, ⟨by show (-1 : Int) ≤ -1; omega, by show (-1 : Int) < 4; omega⟩, hf, ⟨by show (0 : Int) ≤ 0; omega, by show (0 : Int) ≤ 5; omega⟩, ⟨by show 0 ≤ (a : Int); omega, by show (a : Int) ≤ 2; omega⟩, ⟨by show 0 ≤ (b : Int); omega, by show (b : Int) ≤ 2; omega⟩, ⟨by show 0 ≤ (e : Int); omega, by show (e : Int) ≤ 2; omega⟩⟩ hC ((upd_ne _ _ (by omega)).trans (upd_eq _ _ _)) ((upd_ne _ _ (by omega)).trans ((upd_ne _ _ (by omega)).trans (upd_eq _ _ _))) (upd_eq _ _ _) (fun o h1 h2 h3 => (upd_ne _ _ (by omega)).trans ((upd_ne _ _ h2).trans ((upd_ne _ _ h3).trans (dcur o h1 h2))))) ?_
    rintro v G m ⟨q1, d2, q2, q3⟩
    exact ⟨q1, d2, by omega, q3⟩
theorem t_wish {L : Nat} {ys : Nat → Int32} (hLs : L ≤ 100000) {H : HF} (n : Nat) {q d P : Nat} {cr F : Int} {C : (Nat → Nat) → Prop} (hW : Wx H q d P cr F (fun cnt _ _ ws => C cnt ∧ ws.length < 6)) (hd : d < 700000) : Rmt (some (L, ys)) 135 [.ref 0] H n (fun v G _ => v = some (.int (zI (bI true))) ∧ ∃ d2, d2 ≤ d + 8 ∧ Wx G q d2 P cr F (fun cnt _ _ _ => C cnt)) := by
  refine Rm_fr (fun hF => ?_)
  refine Rm_of (M := xm135) (lv := [(0, _)]) rfl rfl rfl ?_
  obtain ⟨cnt, siz, wdr, num, nd, kd, ws, nid, qid, kid, wid, pid, vd, gr, vr, wl, lk, dk, th, pc, pd, kx, pp, pb, cl, dr, lt, fc, tg, hLw, hA, hX, hK, hFit, hfc, hXX⟩ := hW
  obtain ⟨h0, hc1, ⟨hm0, hm1⟩, ⟨hz0, hz1⟩, ⟨hi0, hi1⟩, ⟨hq0, hq1⟩, ⟨hk0, hk1⟩, hws, hnd, hqd, hkd, hwd⟩ := id hLw
  obtain ⟨⟨hP2, hP6⟩, hcnt, hvr, ⟨hwl, hwn, hwr⟩, hkk, hnm, hsz⟩ := id hK
  have hn9 := Wx_119 hA hF
  obtain ⟨hC, hlen⟩ := hXX
  refine Gq_s (pc' := 1) rfl rfl rfl ?_
  refine Gq_newa (pc' := 3) (N := 2) rfl (fun _ => rfl) rfl rfl (rfl) (by decide) ((rep_I _)) (by decide) (by decide) ?_
  refine Gq_s (pc' := 4) rfl rfl rfl ?_
  refine Gq_s (pc' := 5) rfl rfl rfl ?_
  refine Gq_s (pc' := 6) rfl rfl rfl ?_
  refine Gq_s (pc' := 7) rfl rfl rfl ?_
  refine Gq_get (pc' := 10) rfl rfl (by first | assumption | exact upd_eq _ _ _ | ((repeat (refine (upd_ne _ _ (by omega)).trans ?_)); first | assumption | exact upd_eq _ _ _)) (by exact rfl) ?_
  refine Gq_callv (pc' := 13) (Y := xm128) (rest := [_, _, _]) (ce' := 1) (sl' := 2) rfl rfl rfl rfl rfl rfl rfl rfl rfl (t_draw hLs _ (d := d) ((upd_ne _ _ (by omega)).trans h0) (by omega) (by omega)) (by first | assumption | exact upd_eq _ _ _ | ((repeat (refine (upd_ne _ _ (by omega)).trans ?_)); first | assumption | exact upd_eq _ _ _)) (fun v1 H1 n1 hv => ?_)
  obtain ⟨t, rfl, ht, hn1, rfl⟩ := hv
  subst hn1
  refine Gq_iast (pc' := 14) (j := 0) rfl rfl (by first | assumption | exact upd_eq _ _ _ | ((repeat (refine (upd_ne _ _ (by omega)).trans ?_)); first | assumption | exact upd_eq _ _ _)) (rfl) (by omega) (by omega) ?_
  refine Gq_s (pc' := 15) rfl rfl rfl ?_
  refine Gq_s (pc' := 16) rfl rfl rfl ?_
  refine Gq_s (pc' := 17) rfl rfl rfl ?_
  refine Gq_s (pc' := 18) rfl rfl rfl ?_
  refine Gq_callv (pc' := 21) (Y := xm128) (rest := [_, _, _]) (ce' := 1) (sl' := 2) rfl rfl rfl rfl rfl rfl rfl rfl rfl (t_draw hLs _ (d := d + 1) ((upd_ne _ _ (by omega)).trans (upd_eq _ _ _)) (by omega) (by decide)) (by first | assumption | exact upd_eq _ _ _ | ((repeat (refine (upd_ne _ _ (by omega)).trans ?_)); first | assumption | exact upd_eq _ _ _)) (fun v2 H2 n2 hv => ?_)
  obtain ⟨r2, rfl, hr2, hn2, rfl⟩ := hv
  subst hn2
  refine Gq_zne (pc' := 24) (t := 32) rfl rfl rfl (by omega) (fun hb => ?_) (fun hb => ?_)
  · refine Gq_s (pc' := 33) rfl rfl rfl ?_
    refine Gq_mq (t_ws2 hLs hLw hA hX hK hFit hfc hF (d := d + 1 + 1) (t := t) (f := 0) hlen (by omega) (by omega) (by omega) hC (upd_eq _ _ _) ((upd_ne _ _ (by omega)).trans (upd_eq _ _ _)) (fun o h1 h2 => (upd_ne _ _ h2).trans ((upd_ne _ _ (by omega)).trans ((upd_ne _ _ h2).trans (upd_ne _ _ (by omega)))))) ?_
    rintro v G m ⟨q1, d2, q2, q3⟩
    exact ⟨q1, d2, by omega, q3⟩
  · refine Gq_s (pc' := 25) rfl rfl rfl ?_
    refine Gq_s (pc' := 26) rfl rfl rfl ?_
    refine Gq_callv (pc' := 29) (Y := xm128) (rest := [_, _, _]) (ce' := 1) (sl' := 2) rfl rfl rfl rfl rfl rfl rfl rfl rfl (t_draw hLs _ (d := d + 2) (upd_eq _ _ _) (by omega) (by decide)) (by first | assumption | exact upd_eq _ _ _ | ((repeat (refine (upd_ne _ _ (by omega)).trans ?_)); first | assumption | exact upd_eq _ _ _)) (fun v3 H3 n3 hv => ?_)
    obtain ⟨f, rfl, hf, hn3, rfl⟩ := hv
    subst hn3
    refine Gq_goto rfl (t := 33) rfl ?_
    refine Gq_mq (t_ws2 hLs hLw hA hX hK hFit hfc hF (d := d + 2 + 1) (t := t) (f := f) hlen (by omega) (by omega) (by omega) hC (upd_eq _ _ _) ((upd_ne _ _ (by omega)).trans ((upd_ne _ _ (by omega)).trans (upd_eq _ _ _))) (fun o h1 h2 => (upd_ne _ _ h2).trans ((upd_ne _ _ h2).trans ((upd_ne _ _ (by omega)).trans ((upd_ne _ _ h2).trans (upd_ne _ _ (by omega))))))) ?_
    rintro v G m ⟨q1, d2, q2, q3⟩
    exact ⟨q1, d2, by omega, q3⟩
end XKz
