/-! the law's draw, withdraw and wish (printed by wip/p46/gen52.py) -/
section XKy
theorem w_draw {L : Nat} {ys : Nat → Int32} (hLs : L ≤ 100000) {H : HF} (n : Nat) {q d P : Nat} {cr F : Int} {X : (Nat → Nat) → (Nat → Nat → List NR) → (Nat → Nat → List NR) → List NR → Prop} (hW : Wx H q d P cr F X) (hd : d < 1000000) {b : Int} (hb : 0 < b ∧ b < 1000000) : Rmt (some (L, ys)) 128 [.ref 0, .int (zI b)] H n (fun v G m => ∃ r : Nat, v = some (.int (zI (r : Int))) ∧ (r : Int) < b ∧ m = n ∧ Wx G q (d + 1) P cr F X ∧ ∀ o, ¬ o = 0 → G o = H o) := by
  refine Rm_fr (fun hF => ?_)
  have hW0 := hW
  obtain ⟨cnt, siz, wdr, num, nd, kd, ws, nid, qid, kid, wid, pid, vd, gr, vr, wl, lk, dk, th, pc, pd, kx, pp, pb, cl, dr, lt, fc, tg, hLw, hA, hX, hK, hFit, hfc, hXX⟩ := hW
  refine Rm_mono (t_draw hLs n hLw.1 hd hb) ?_
  rintro v G m ⟨r, e1, e2, e3, rfl⟩
  refine ⟨r, e1, e2, e3, Wx_draw hF hW0 (fun W hw => ?_) (fun o _ ho => upd_ne _ _ ho), fun o ho => upd_ne _ _ ho⟩
  have h0 := hLw.1
  rw [hw] at h0
  have h0 : W = (ws.length : Int) ∨ zI W = zI (ws.length : Int) := by
    injection h0 with h0
    injection h0 with _ h0
    injection h0 with _ h0
    unfold rgF at h0
    injection h0 with _ h0
    injection h0 with _ h0
    injection h0 with _ h0
    injection h0 with _ h0
    injection h0 with _ h0
    injection h0 with _ h0
    injection h0 with _ h0
    injection h0 with _ h0
    injection h0 with _ h0
    injection h0 with _ h0
    injection h0 with h0 _
    injection h0 with h0
    exact .inr h0
  rw [upd_eq]
  unfold rgF
  rcases h0 with h0 | h0 <;> rw [h0]
theorem z_remN {a P : Nat} (ha : a < 1000000) (hP : 0 < P ∧ P < 1000000) : zI (a : Int) - zI (a : Int) / zI (P : Int) * zI (P : Int) = zI ((a % P : Nat) : Int) := by
  rw [z_rem (by omega) (by omega)]
  rfl
theorem mod_oth {p P r : Nat} (hp : p < P) (hr : r + 1 < P) : (p + 1 + r) % P < P ∧ ¬ p = (p + 1 + r) % P := by
  refine ⟨Nat.mod_lt _ (by omega), ?_⟩
  rcases Nat.lt_or_ge (p + 1 + r) P with h | h
  · rw [Nat.mod_eq_of_lt h]; omega
  · rw [Nat.mod_eq_sub_mod h, Nat.mod_eq_of_lt (by omega)]; omega
theorem lkA {H G : HF} {n0 : Nat} (hF : Frs H n0) (hn : 86 ≤ n0) (hA0 : ∃ x, H 0 = some (false, 11, x)) {Sp : Nat → Prop} (hs : ∀ o c, Sp o → H o = some c → o < 86 ∧ c.1 = true) (h : ∀ o, o < n0 → ¬ o = 0 → ¬ Sp o → G o = H o) : Lw H G := fun o c hc => by
  by_cases e : o = 0
  · subst e
    obtain ⟨x, hx⟩ := hA0
    rw [hx] at hc
    cases hc
    exact .inr ⟨by omega, .inr rfl⟩
  · by_cases e2 : Sp o
    · exact .inr ⟨(hs o c e2 hc).1, .inl (hs o c e2 hc).2⟩
    · exact .inl ((h o (Fr_lt hF hc) e e2).trans hc)
theorem t_wd2 {L : Nat} {ys : Nat → Int32} (hLs : L ≤ 100000) {H0 H : HF} {n0 n q d0 d P : Nat} {F : Int} {C : (Nat → Nat) → Prop} {cnt : Nat → Nat} {siz : Nat → Nat → Int} {wdr : Nat → Nat → Bool} {num : Nat → Nat → Nat → Int} {nd kd : Nat → Nat → List NR} {ws : List NR} {nid qid kid : Nat → Nat → Nat} {wid : Nat → Nat} {pid : Nat → Nat} {vd gr : Nat → Nat → Nat} {vr : Nat → VR} {wl : List CR} {lk dk : Nat → Option Nat} {th : Bool} {pc pd : Nat} {kx : Nat → Int} {pp : Nat → Nat} {pb : Nat → Option Nat} {cl : List Nat} {cr dr lt fc : Int} {tg : Nat → Nat} (hLw : LwP H0 q d0 P cnt siz wdr num nd kd ws nid qid kid wid) (hA : AllB H0 P pid cnt vd gr vr wl lk dk th pc pd kx pp pb cl cr dr lt fc) (hX : RX H0 P pid cnt vd vr tg) (hK : Lnk P cnt vd vr siz wdr num nd kd ws wl) (hFit : Fit cnt wdr nd kd) (hfc : 0 ≤ fc ∧ fc ≤ F) (hF0 : Frs H0 n0) {p i : Nat} {b : Bool} (hp : p < P) (hi : i < cnt p) (hi4 : i < 4) (hC : C cnt) (hn : n = n0) (g0 : H 0 = some (false, 11, rgF q (d : Int) (P : Int) (ws.length : Int))) (hcur : ∀ o, o < n0 → ¬ o = 0 → H o = H0 o) : Gw (some (L, ys)) xm136 49 [(0, .ref 0), (1, .int (zI (p : Int))), (2, .int (zI (i : Int))), (3, .int (zI (bI (wdr p i))))] [.int (zI (bI b)), .int (zI (i : Int)), .ref (17 + p)] H n 0 0 (MQe xm136 (fun v G _ => v = some (.int (zI (bI true))) ∧ ∃ d2, d2 ≤ d ∧ Wx G q d2 P cr F (fun cnt _ _ _ => C cnt))) := by
  obtain ⟨h0, hc1, ⟨hm0, hm1⟩, ⟨hz0, hz1⟩, ⟨hi0, hi1⟩, ⟨hq0, hq1⟩, ⟨hk0, hk1⟩, hws, hnd, hqd, hkd, hwd⟩ := id hLw
  obtain ⟨⟨hP2, hP6⟩, hcnt, hvr, ⟨hwl, hwn, hwr⟩, hkk, hnm, hsz⟩ := id hK
  have hn9 := Wx_119 hA hF0
  have k16 := (hcur 16 (by omega) (by omega)).trans hi0
  have k17 := (hcur (17 + p) (by omega) (by omega)).trans (hi1 p (by omega))
  have hvd := hvr p i hp hi
  refine Gq_bast (pc' := 50) (j := i) (x := b) rfl rfl (by first | assumption | exact upd_eq _ _ _ | ((repeat (refine (upd_ne _ _ (by omega)).trans ?_)); first | assumption | exact upd_eq _ _ _)) rfl (by omega) (by omega) ?_
  generalize hG : hup H (17 + p) (true, 1, aB 4 (fset (wdr p) i b)) = G
  have e17 : G (17 + p) = some (true, 1, aB 4 (fset (wdr p) i b)) := by rw [← hG]; exact upd_eq _ _ _
  have eo : ∀ o, o < n0 → ¬ o = 0 → ¬ o = 17 + p → G o = H0 o := fun o h1 h2 h3 => by
    rw [← hG, upd_ne _ _ h3]
    exact hcur o h1 h2
  have e0 : G 0 = some (false, 11, rgF q (d : Int) (P : Int) (ws.length : Int)) := by
    rw [← hG, upd_ne _ _ (by omega)]
    exact g0
  have hLL : Lw H0 G := lkA hF0 (by omega) ⟨_, h0⟩ (Sp := fun o => o = 17 + p) (fun o c h1 h2 => by
    rw [h1, hi1 p (by omega)] at h2
    cases h2
    exact ⟨by omega, rfl⟩) eo
  have hLw2 := LwP_wd hLw (by omega) (v := i) (x9 := b) (d' := d) e0 (fun o h1 h2 h3 => eo o (by omega) h2 h3) e17 (Lw_int hLL)
  have hA2 := AllB_ge (Lw_ge hLL) hA
  have hX2 := RX_ge8 (Lw_ge8 hLL) hX
  have g86 := hA2.2.1
  have k16b := (eo 16 (by omega) (by omega) (by omega)).trans hi0
  clear k16 k17 g0 h0
  refine Gq_s (pc' := 51) rfl rfl rfl ?_
  refine Gq_get (pc' := 54) rfl rfl (by first | assumption | exact upd_eq _ _ _ | ((repeat (refine (upd_ne _ _ (by omega)).trans ?_)); first | assumption | exact upd_eq _ _ _)) (by exact rfl) ?_
  refine Gq_s (pc' := 55) rfl rfl rfl ?_
  refine Gq_s (pc' := 56) rfl rfl rfl ?_
  refine Gq_s (pc' := 57) rfl rfl rfl ?_
  refine Gq_get (pc' := 60) rfl rfl (by first | assumption | exact upd_eq _ _ _ | ((repeat (refine (upd_ne _ _ (by omega)).trans ?_)); first | assumption | exact upd_eq _ _ _)) (by exact rfl) ?_
  refine Gq_s (pc' := 61) rfl rfl rfl ?_
  refine Gq_aald (pc' := 62) (j := p) rfl rfl (by first | assumption | exact upd_eq _ _ _ | ((repeat (refine (upd_ne _ _ (by omega)).trans ?_)); first | assumption | exact upd_eq _ _ _)) (by exact rfl) (rfl) (by omega) (by omega) (rfl) ?_
  refine Gq_s (pc' := 63) rfl rfl rfl ?_
  refine Gq_bald (pc' := 64) (j := i) rfl rfl (by first | assumption | exact upd_eq _ _ _ | ((repeat (refine (upd_ne _ _ (by omega)).trans ?_)); first | assumption | exact upd_eq _ _ _)) (rfl) (by omega) (by omega) ?_
  rw [fset_eq]
  refine Gq_callv (pc' := 67) (Y := xm5) (rest := []) (ce' := 0) (sl' := 0) rfl rfl rfl rfl rfl rfl rfl rfl rfl (q_withdraw n hA2 hX2 hp hi b) (by first | assumption | exact upd_eq _ _ _ | ((repeat (refine (upd_ne _ _ (by omega)).trans ?_)); first | assumption | exact upd_eq _ _ _)) (fun v1 G1 n1 hv => ?_)
  obtain ⟨rfl, rfl, hA3, hX3, hLF⟩ := hv
  rw [show vW (vr (vd p i)) = wdr p i by rw [hvd]; rfl]
  refine Gq_s (pc' := 68) rfl rfl rfl ?_
  refine Gq_cne (pc' := 71) (t := 75) rfl rfl rfl (bI_r _) (bI_r _) (fun hq => absurd hq (fun q => q rfl)) (fun _ => ?_)
  refine Gq_s (pc' := 72) rfl rfl rfl ?_
  refine Gq_goto rfl (t := 76) rfl ?_
  refine Gq_ret rfl rfl rfl ⟨rfl, d, Nat.le_refl _, _, _, _, _, _, _, _, _, _, _, _, _, _, _, _, _, _, _, _, _, _, _, _, _, _, _, _, _, _, LwP_lf hLF hLw2, hA3, hX3, Lnk_wd hK hA.1.2.2.2.2.2.1 hp hi b, fun x v h1 h2 h3 => ?_, hfc, hC⟩
  have h4 := hFit x v h1 h2 h3
  rw [up2_ne _ _ (fun ⟨e1, e2⟩ => by subst e1; omega)]
  exact h4
theorem t_withdraw {L : Nat} {ys : Nat → Int32} (hLs : L ≤ 100000) {H : HF} (n : Nat) {q d P : Nat} {cr F : Int} {C : (Nat → Nat) → Prop} (hW : Wx H q d P cr F (fun cnt _ _ _ => C cnt)) (hd : d < 900000) (hC1 : ∀ cnt, C cnt → ∀ p, p < P → 1 ≤ cnt p) : Rmt (some (L, ys)) 136 [.ref 0] H n (fun v G _ => v = some (.int (zI (bI true))) ∧ ∃ d2, d2 ≤ d + 3 ∧ Wx G q d2 P cr F (fun cnt _ _ _ => C cnt)) := by
  refine Rm_fr (fun hF => ?_)
  refine Rm_of (M := xm136) (lv := [(0, _)]) rfl rfl rfl ?_
  obtain ⟨cnt, siz, wdr, num, nd, kd, ws, nid, qid, kid, wid, pid, vd, gr, vr, wl, lk, dk, th, pc, pd, kx, pp, pb, cl, dr, lt, fc, tg, hLw, hA, hX, hK, hFit, hfc, hXX⟩ := hW
  obtain ⟨h0, hc1, ⟨hm0, hm1⟩, ⟨hz0, hz1⟩, ⟨hi0, hi1⟩, ⟨hq0, hq1⟩, ⟨hk0, hk1⟩, hws, hnd, hqd, hkd, hwd⟩ := id hLw
  obtain ⟨⟨hP2, hP6⟩, hcnt, hvr, ⟨hwl, hwn, hwr⟩, hkk, hnm, hsz⟩ := id hK
  have hn9 := Wx_119 hA hF
  refine Gq_s (pc' := 1) rfl rfl rfl ?_
  refine Gq_s (pc' := 2) rfl rfl rfl ?_
  refine Gq_get (pc' := 5) rfl rfl (by first | assumption | exact upd_eq _ _ _ | ((repeat (refine (upd_ne _ _ (by omega)).trans ?_)); first | assumption | exact upd_eq _ _ _)) (by exact rfl) ?_
  refine Gq_callv (pc' := 8) (Y := xm128) (rest := []) (ce' := 0) (sl' := 0) rfl rfl rfl rfl rfl rfl rfl rfl rfl (t_draw hLs _ (d := d) (by first | exact h0 | exact upd_eq _ _ _) (by omega) (by omega)) (by first | assumption | exact upd_eq _ _ _ | ((repeat (refine (upd_ne _ _ (by omega)).trans ?_)); first | assumption | exact upd_eq _ _ _)) (fun v1 H1 n1 hv => ?_)
  obtain ⟨p, rfl, hp, rfl, rfl⟩ := hv
  have hp : p < P := by omega
  have hcp := hC1 cnt hXX p hp
  have hc4 := hcnt p hp
  refine Gq_s (pc' := 9) (lv' := [(0, _), (1, _)]) rfl rfl rfl ?_
  refine Gq_s (pc' := 10) rfl rfl rfl ?_
  refine Gq_s (pc' := 11) rfl rfl rfl ?_
  refine Gq_get (pc' := 14) rfl rfl (by first | assumption | exact upd_eq _ _ _ | ((repeat (refine (upd_ne _ _ (by omega)).trans ?_)); first | assumption | exact upd_eq _ _ _)) (by exact rfl) ?_
  refine Gq_s (pc' := 15) rfl rfl rfl ?_
  refine Gq_iald (pc' := 16) (j := p) rfl rfl (by first | assumption | exact upd_eq _ _ _ | ((repeat (refine (upd_ne _ _ (by omega)).trans ?_)); first | assumption | exact upd_eq _ _ _)) (rfl) (by omega) (by omega) ?_
  refine Gq_callv (pc' := 19) (Y := xm128) (rest := []) (ce' := 0) (sl' := 0) rfl rfl rfl rfl rfl rfl rfl rfl rfl (t_draw hLs _ (d := d + 1) (by first | exact h0 | exact upd_eq _ _ _) (by omega) (by omega)) (by first | assumption | exact upd_eq _ _ _ | ((repeat (refine (upd_ne _ _ (by omega)).trans ?_)); first | assumption | exact upd_eq _ _ _)) (fun v2 H2 n2 hv => ?_)
  obtain ⟨i, rfl, hi, rfl, rfl⟩ := hv
  have hi : i < cnt p := by omega
  have hi1p := hi1 p (by omega)
  refine Gq_s (pc' := 20) (lv' := [(0, _), (1, _), (2, _)]) rfl rfl rfl ?_
  refine Gq_s (pc' := 21) rfl rfl rfl ?_
  refine Gq_get (pc' := 24) rfl rfl (by first | assumption | exact upd_eq _ _ _ | ((repeat (refine (upd_ne _ _ (by omega)).trans ?_)); first | assumption | exact upd_eq _ _ _)) (by exact rfl) ?_
  refine Gq_s (pc' := 25) rfl rfl rfl ?_
  refine Gq_aald (pc' := 26) (j := p) rfl rfl (by first | assumption | exact upd_eq _ _ _ | ((repeat (refine (upd_ne _ _ (by omega)).trans ?_)); first | assumption | exact upd_eq _ _ _)) (by exact rfl) (rfl) (by omega) (by omega) (rfl) ?_
  refine Gq_s (pc' := 27) rfl rfl rfl ?_
  refine Gq_bald (pc' := 28) (j := i) rfl rfl (by first | assumption | exact upd_eq _ _ _ | ((repeat (refine (upd_ne _ _ (by omega)).trans ?_)); first | assumption | exact upd_eq _ _ _)) (rfl) (by omega) (by omega) ?_
  refine Gq_s (pc' := 29) (lv' := [(0, _), (1, _), (2, _), (3, _)]) rfl rfl rfl ?_
  refine Gq_s (pc' := 30) rfl rfl rfl ?_
  refine Gq_get (pc' := 33) rfl rfl (by first | assumption | exact upd_eq _ _ _ | ((repeat (refine (upd_ne _ _ (by omega)).trans ?_)); first | assumption | exact upd_eq _ _ _)) (by exact rfl) ?_
  refine Gq_s (pc' := 34) rfl rfl rfl ?_
  refine Gq_aald (pc' := 35) (j := p) rfl rfl (by first | assumption | exact upd_eq _ _ _ | ((repeat (refine (upd_ne _ _ (by omega)).trans ?_)); first | assumption | exact upd_eq _ _ _)) (by exact rfl) (rfl) (by omega) (by omega) (rfl) ?_
  refine Gq_s (pc' := 36) rfl rfl rfl ?_
  refine Gq_s (pc' := 37) rfl rfl rfl ?_
  refine Gq_s (pc' := 38) rfl rfl rfl ?_
  refine Gq_callv (pc' := 41) (Y := xm128) (rest := [_, _]) (ce' := 0) (sl' := 0) rfl rfl rfl rfl rfl rfl rfl rfl rfl (t_draw hLs _ (d := d + 2) (by first | exact h0 | exact upd_eq _ _ _) (by omega) (by omega)) (by first | assumption | exact upd_eq _ _ _ | ((repeat (refine (upd_ne _ _ (by omega)).trans ?_)); first | assumption | exact upd_eq _ _ _)) (fun v3 H3 n3 hv => ?_)
  obtain ⟨r3, rfl, hr3, rfl, rfl⟩ := hv
  refine Gq_zle (pc' := 44) (t := 48) rfl rfl rfl (by omega) (fun hb3 => ?_) (fun hb3 => ?_)
  · refine Gq_s (pc' := 49) rfl rfl rfl ?_
    exact t_wd2 hLs hLw hA hX hK hFit hfc hF (b := false) hp hi (by omega) hXX rfl (upd_eq _ _ _) (fun o _ h => by rw [upd_ne _ _ h, upd_ne _ _ h, upd_ne _ _ h])
  · refine Gq_s (pc' := 45) rfl rfl rfl ?_
    refine Gq_goto rfl (t := 49) rfl ?_
    exact t_wd2 hLs hLw hA hX hK hFit hfc hF (b := true) hp hi (by omega) hXX rfl (upd_eq _ _ _) (fun o _ h => by rw [upd_ne _ _ h, upd_ne _ _ h, upd_ne _ _ h])
end XKy
