/-! needs, clashes, withdrawals, wishes (printed by wip/p46/gen43.py) -/
section XKn
theorem rvl_inj {a b : Option Nat} (h : rvl a = rvl b) : a = b := by
  cases a with
  | none => cases b with
    | none => rfl
    | some y => cases h
  | some x => cases b with
    | none => cases h
    | some y => cases h; rfl
theorem ChnAt_tag {H G : HF} {tg : Nat → Nat} {z : Nat} (h8 : ∀ id fs, tg id = z → H id = some (false, 8, fs) → G id = some (false, 8, fs)) (h9 : ∀ r fs, H r = some (false, 9, fs) → G r = some (false, 9, fs)) : ∀ {l : List CR} {x : Option Nat}, ChnAt H x l → CnT H tg z x l → ChnAt G x l
  | [], _, h, _ => h
  | c :: t, x, ⟨o, nx, h1, ⟨a1, a2, r, a3, a4, a5⟩, h3⟩, ⟨o2, nx2, b1, b2, b3, b4, e1, e2, e3, e4⟩ => by
    rw [h1] at e1
    cases e1
    have e3' := e3
    rw [a5] at e3'
    have e5 : rvl nx = rvl nx2 := by
      have := Option.some.inj e3'
      injection this with _ this
      injection this with _ this
      injection this with _ this
      injection this with _ this
      injection this with _ this
      injection this with _ this
      injection this
    have e6 := rvl_inj e5
    subst e6
    exact ⟨o, nx, h1, ⟨a1, a2, r, a3, h9 r _ a4, h8 o _ e2 a5⟩, ChnAt_tag h8 h9 h3 e4⟩
theorem All_ver {H G : HF} {P : Nat} {pid cnt : Nat → Nat} {vd gr : Nat → Nat → Nat} {vr : Nat → VR} {wl : List CR} {lk dk : Nat → Option Nat} {th : Bool} {pc pd : Nat} {kd : Nat → Int} {pp : Nat → Nat} {pb : Nat → Option Nat} {cl : List Nat} {cr dr lt fc : Int} (hA : AllB H P pid cnt vd gr vr wl lk dk th pc pd kd pp pb cl cr dr lt fc) {tg tg2 : Nat → Nat} (hX : RX H P pid cnt vd vr tg) {p i0 x : Nat} {v2 : VR} (hp : p < P) (hi0 : i0 < cnt p) (hx : x = vd p i0) (low : ∀ o, o < 119 → G o = H o) (hpk : ∀ o ci fs, 119 ≤ o → ci < 8 → H o = some (false, ci, fs) → G o = some (false, ci, fs)) (har : ∀ o ti vs, 119 ≤ o → H o = some (true, ti, vs) → G o = some (true, ti, vs)) (hv2 : VerAt G x v2) (hn2 : vN v2 = vN (vr x)) (hs2 : vS v2 = vS (vr x)) (ht2 : ∀ c ∈ vQ v2, cT c < P) (hsep : SepV G tg2 x v2) (hoth : ∀ q i, q < P → i < cnt q → ¬ vd q i = x → VerAt G (vd q i) (vr (vd q i)) ∧ SepV G tg2 (vd q i) (vr (vd q i))) (h8 : ∀ (o : Nat) (a b c d nx : Value), H o = some (false, 8, [a, b, c, d, nx]) → ∃ nx2, G o = some (false, 8, [a, b, c, d, nx2])) (h9 : ∀ r fs, H r = some (false, 9, fs) → G r = some (false, 9, fs)) :
    AllB G P pid cnt vd gr (fset vr x v2) wl lk dk th pc pd kd pp pb cl cr dr lt fc ∧ RX G P pid cnt vd (fset vr x v2) tg2 ∧ LF H G := by
  obtain ⟨hR, h86, ⟨hW, hwP⟩, -⟩ := id hA
  have hs : Gs H G := fun o c _ h hc => by rw [low o h]; exact hc
  have hvr : ∀ q i, q < P → i < cnt q → (vd q i = x ∧ fset vr x v2 (vd q i) = v2 ∧ q = p ∧ i = i0) ∨ (¬ vd q i = x ∧ fset vr x v2 (vd q i) = vr (vd q i)) := fun q i hq hi => by
    by_cases e : vd q i = x
    · obtain ⟨e1, e2⟩ := hR.2.2.2.2.2.1 q i p i0 hq hi hp hi0 (e.trans hx)
      exact .inl ⟨e, by rw [e, fset_eq], e1, e2⟩
    · exact .inr ⟨e, fset_ne _ _ e⟩
  have hR2 : RG G P pid cnt vd gr (fset vr x v2) := by
    obtain ⟨h1, h2, h3, h4, h5, h6, h7⟩ := hR
    refine ⟨h1, (low 87 (by omega)).trans h2, fun q hq => ?_, fun q i hq hi => ?_, h5, h6, fun q i hq hi => ?_⟩
    · obtain ⟨a, b, c, d, e⟩ := h3 q hq
      exact ⟨a, b, hpk _ _ _ a (by omega) c, har _ _ _ (by omega) d, har _ _ _ (by omega) e⟩
    · rcases hvr q i hq hi with ⟨e1, e2, e3, e4⟩ | ⟨e1, e2⟩
      · rw [e2, e1]
        refine ⟨hv2, hn2.trans ?_⟩
        rw [← e1]
        exact (h4 q i hq hi).2
      · rw [e2]
        exact ⟨(hoth q i hq hi e1).1, (h4 q i hq hi).2⟩
    · rcases hvr q i hq hi with ⟨e1, e2, e3, e4⟩ | ⟨e1, e2⟩
      · rw [e2]; exact ht2
      · rw [e2]; exact h7 q i hq hi
  have hW2 : WiAt G 88 wl := by
    obtain ⟨a, b, wc, c, e⟩ := hW
    refine ⟨(low 88 (by omega)).trans a, b, wc, (low 89 (by omega)).trans c, fun i y hy => ?_⟩
    obtain ⟨q, nx, q1, q2, q3, r, q4, q5, q6⟩ := e i y hy
    obtain ⟨nx2, q7⟩ := h8 q _ _ _ _ nx q6
    exact ⟨q, nx2, q1, q2, q3, r, q4, h9 r _ q5, q7⟩
  refine ⟨All_reg hA hs ((low 86 (by omega)).trans h86) hR2 (Nat.le_refl P) hW2 (fun _ _ h => h) (fun q ⟨r, h1, i, h2, h3⟩ => ?_), ⟨hX.1, fun q i hq hi => ?_⟩, fun o ho => low o (by omega), fun o vs ho hc => har o 0 vs ho hc⟩
  · rcases hvr r i h1 h2 with ⟨e1, e2, e3, e4⟩ | ⟨e1, e2⟩
    · rw [h3, e2, e1, hs2]
    · rw [h3, e2]
  · rcases hvr q i hq hi with ⟨e1, e2, e3, e4⟩ | ⟨e1, e2⟩
    · rw [e2, e1]; exact hsep
    · rw [e2]; exact (hoth q i hq hi e1).2
/-- versions whose cells, claims and ranges are as they were -/
theorem Ver_keep {H G : HF} {tg tg2 : Nat → Nat} {o : Nat} {v : VR} (hv : VerAt H o v) (hs : SepV H tg o v) (h10 : ∀ fs, H o = some (false, 10, fs) → G o = some (false, 10, fs)) (h8 : ∀ id fs, (tg id = 2 * o ∨ tg id = 2 * o + 1) → H id = some (false, 8, fs) → G id = some (false, 8, fs) ∧ tg2 id = tg id) (h9 : ∀ r fs, H r = some (false, 9, fs) → G r = some (false, 9, fs)) : VerAt G o v ∧ SepV G tg2 o v := by
  obtain ⟨h1, h2, f, g, h3, h4, h5⟩ := hv
  obtain ⟨f2, g2, a0, a1, a2, a3, a5, a7, e1, e2, e3⟩ := hs
  have e1' := e1
  rw [h3] at e1'
  have q := Option.some.inj e1'
  injection q with _ q
  injection q with _ q
  injection q with q0 q
  injection q with q1 q
  injection q with q2 q
  injection q with q3 q
  injection q with q4 q
  injection q with q5 q
  injection q with q6 q
  have ef := rvl_inj q4
  have eg := rvl_inj q6
  subst ef
  subst eg
  refine ⟨⟨h1, h2, f, g, h10 _ h3, ChnAt_tag (fun id fs a b => (h8 id fs (.inl a) b).1) h9 h4 e2, ChnAt_tag (fun id fs a b => (h8 id fs (.inr a) b).1) h9 h5 e3⟩, f, g, a0, a1, a2, a3, a5, a7, h10 _ e1, CnT_ty (fun id fs a b => ⟨(h8 id fs (.inl a) b).1, ((h8 id fs (.inl a) b).2).trans a⟩) e2, CnT_ty (fun id fs a b => ⟨(h8 id fs (.inr a) b).1, ((h8 id fs (.inr a) b).2).trans a⟩) e3⟩
theorem q_withdraw {S : ScT} {H : HF} (n : Nat) {P : Nat} {pid cnt : Nat → Nat} {vd gr : Nat → Nat → Nat} {vr : Nat → VR} {wl : List CR} {lk dk : Nat → Option Nat} {th : Bool} {pc pd : Nat} {kd : Nat → Int} {pp : Nat → Nat} {pb : Nat → Option Nat} {cl : List Nat} {cr dr lt fc : Int} (hA : AllB H P pid cnt vd gr vr wl lk dk th pc pd kd pp pb cl cr dr lt fc) {tg : Nat → Nat} (hX : RX H P pid cnt vd vr tg) {p i : Nat} (hp : p < P) (hi : i < cnt p) (b : Bool) : Rmt S 5 [.ref 86, .int (zI (p : Int)), .int (zI (i : Int)), .int (zI (bI b))] H n (fun v G m => v = some (.int (zI (bI (vW (vr (vd p i)))))) ∧ m = n ∧ AllB G P pid cnt vd gr (fset vr (vd p i) (vN (vr (vd p i)), vM (vr (vd p i)), vS (vr (vd p i)), b, vQ (vr (vd p i)), vK (vr (vd p i)))) wl lk dk th pc pd kd pp pb cl cr dr lt fc ∧ RX G P pid cnt vd (fset vr (vd p i) (vN (vr (vd p i)), vM (vr (vd p i)), vS (vr (vd p i)), b, vQ (vr (vd p i)), vK (vr (vd p i)))) tg ∧ LF H G) := by
  refine Rm_of (M := xm5) (lv := [(0, _), (1, _), (2, _), (3, _)]) rfl rfl rfl ?_
  obtain ⟨hR, h86, -⟩ := id hA
  obtain ⟨x119, xr, f, g, h5, h6, h7⟩ := (hR.2.2.2.1 p i hp hi).1
  refine Gq_s (pc' := 1) rfl rfl rfl ?_
  refine Gq_s (pc' := 2) rfl rfl rfl ?_
  refine Gq_s (pc' := 3) rfl rfl rfl ?_
  refine Gq_callv1 (pc' := 6) (Y := xm44) (rest := []) (st' := [_]) (ce' := 0) (sl' := 0) rfl rfl rfl rfl rfl rfl rfl rfl rfl (t_vti n hR h86 hp hi) rfl (by first | assumption | exact upd_eq _ _ _ | ((repeat (refine (upd_ne _ _ (by omega)).trans ?_)); first | assumption | exact upd_eq _ _ _)) ?_
  refine Gq_s (pc' := 8) (lv' := [(0, _), (1, _), (2, _), (3, _), (4, _)]) rfl rfl rfl ?_
  refine Gq_s (pc' := 10) rfl rfl rfl ?_
  refine Gq_get (pc' := 13) rfl rfl (by first | assumption | exact upd_eq _ _ _ | ((repeat (refine (upd_ne _ _ (by omega)).trans ?_)); first | assumption | exact upd_eq _ _ _)) (by exact rfl) ?_
  refine Gq_s (pc' := 15) (lv' := [(0, _), (1, _), (2, _), (3, _), (4, _), (5, _)]) rfl rfl rfl ?_
  refine Gq_s (pc' := 17) rfl rfl rfl ?_
  refine Gq_s (pc' := 18) rfl rfl rfl ?_
  refine Gq_put (pc' := 21) (fs' := [_, _, _, _, _, _, _, _]) rfl rfl (by first | assumption | exact upd_eq _ _ _ | ((repeat (refine (upd_ne _ _ (by omega)).trans ?_)); first | assumption | exact upd_eq _ _ _)) (by exact rfl) (by first | rfl | exact xfit_bI _) (by exact rfl) ?_
  refine Gq_s (pc' := 23) rfl rfl rfl ?_
  have hne : ∀ o ci fs, H o = some (false, ci, fs) → ¬ ci = 10 → ¬ o = vd p i := fun o ci fs hc h e => by
    rw [e, h5] at hc
    cases hc
    exact h rfl
  have hna : ∀ o ti vs, H o = some (true, ti, vs) → ¬ o = vd p i := fun o ti vs hc e => by
    rw [e, h5] at hc
    cases hc
  have k8 : ∀ o fs, H o = some (false, 8, fs) → hup H (vd p i) (false, 10, [.int (zI (vN (vr (vd p i)) : Int)), .int (zI (vM (vr (vd p i)))), .int (zI (vS (vr (vd p i)))), .int (zI (bI b)), rvl f, .int (zI ((vQ (vr (vd p i))).length : Int)), rvl g, .int (zI ((vK (vr (vd p i))).length : Int))]) o = some (false, 8, fs) := fun o fs hc => by rw [upd_ne _ _ (hne o 8 fs hc (by decide))]; exact hc
  have k9 : ∀ o fs, H o = some (false, 9, fs) → hup H (vd p i) (false, 10, [.int (zI (vN (vr (vd p i)) : Int)), .int (zI (vM (vr (vd p i)))), .int (zI (vS (vr (vd p i)))), .int (zI (bI b)), rvl f, .int (zI ((vQ (vr (vd p i))).length : Int)), rvl g, .int (zI ((vK (vr (vd p i))).length : Int))]) o = some (false, 9, fs) := fun o fs hc => by rw [upd_ne _ _ (hne o 9 fs hc (by decide))]; exact hc
  obtain ⟨f2, g2, a0, a1, a2, a3, a5, a7, e1, e2, e3⟩ := hX.2 p i hp hi
  have e1' := e1
  rw [h5] at e1'
  have q := Option.some.inj e1'
  injection q with _ q
  injection q with _ q
  injection q with q0 q
  injection q with q1 q
  injection q with q2 q
  injection q with q3 q
  injection q with q4 q
  injection q with q5 q
  injection q with q6 q
  have ef := rvl_inj q4
  have eg := rvl_inj q6
  subst ef
  subst eg
  refine Gq_ret rfl rfl (xret_b _) ⟨rfl, rfl, All_ver hA hX hp hi rfl (fun o ho => upd_ne _ _ (by omega)) (fun o ci fs _ hci hc => by rw [upd_ne _ _ (hne o ci fs hc (by omega))]; exact hc) (fun o ti vs _ hc => by rw [upd_ne _ _ (hna o ti vs hc)]; exact hc) ⟨x119, xr, f, g, upd_eq _ _ _, ChnAt_tag (fun id fs _ hc => k8 id fs hc) k9 h6 e2, ChnAt_tag (fun id fs _ hc => k8 id fs hc) k9 h7 e3⟩ rfl rfl (hR.2.2.2.2.2.2 p i hp hi) ⟨f, g, _, _, _, _, _, _, upd_eq _ _ _, CnT_ty (fun id fs a hc => ⟨k8 id fs hc, a⟩) e2, CnT_ty (fun id fs a hc => ⟨k8 id fs hc, a⟩) e3⟩ (fun q j hq hj hneq => Ver_keep (hR.2.2.2.1 q j hq hj).1 (hX.2 q j hq hj) (fun fs hc => by rw [upd_ne _ _ hneq]; exact hc) (fun id fs _ hc => ⟨k8 id fs hc, rfl⟩) k9) (fun o a b c d nx hc => ⟨nx, k8 o _ hc⟩) k9⟩
def mkC (t : Nat) (c : Int) (f : Nat) (k m : Int) : CR := (t, c, f, fstF k m, endF k m)
theorem fst_b {k m : Int} (hm : 0 ≤ m ∧ m < 1000000) : 0 ≤ fstF k m ∧ fstF k m ≤ 1000000 := by
  unfold fstF
  split <;> omega
theorem end_b {k m : Int} (hm : 0 ≤ m ∧ m < 1000000) : 0 ≤ endF k m ∧ endF k m ≤ 1000000 := by
  unfold endF
  split
  · omega
  · split
    · omega
    · split
      · split <;> omega
      · split <;> omega
theorem mkC_ok {t : Nat} {c : Int} {f : Nat} {k m : Int} (ht : t < 12) (hc : -1 ≤ c ∧ c < 4) (hf : f < 16) (hm : 0 ≤ m ∧ m < 1000000) : cOK (mkC t c f k m) := ⟨ht, hc, hf, fst_b hm, end_b hm⟩
theorem mkM_b {a b c : Int} (ha : nmOK a) (hb : nmOK b) (hc : nmOK c) : 0 ≤ mkM a b c ∧ mkM a b c < 1000000 := by
  unfold nmOK at ha hb hc
  unfold mkM
  omega
theorem q_wish {S : ScT} {H : HF} (n : Nat) {P : Nat} {pid cnt : Nat → Nat} {vd gr : Nat → Nat → Nat} {vr : Nat → VR} {wl : List CR} {lk dk : Nat → Option Nat} {th : Bool} {pc pd : Nat} {kd : Nat → Int} {pp : Nat → Nat} {pb : Nat → Option Nat} {cl : List Nat} {cr dr lt fc : Int} (hA : AllB H P pid cnt vd gr vr wl lk dk th pc pd kd pp pb cl cr dr lt fc) {p f : Nat} {k a b c : Int} (hp : p < P) (hf : f < 16) (hk : 0 ≤ k ∧ k ≤ 5) (ha : nmOK a) (hb : nmOK b) (hc : nmOK c) (hwl : wl.length < 6) : Rmt S 9 [.ref 86, .int (zI (p : Int)), .int (zI (f : Int)), .int (zI k), .int (zI a), .int (zI b), .int (zI c)] H n (fun v G m => v = some (.int (zI (wl.length : Int))) ∧ m = n + 2 ∧ AllB G P pid cnt vd gr vr (wl ++ [(mkC p (-1) f k (mkM a b c))]) lk dk th pc pd kd pp pb cl cr dr lt fc ∧ (∀ o c, ¬ o = 88 → ¬ o = 89 → H o = some c → G o = some c) ∧ LF H G) := by
  refine Rm_fr (fun hF => ?_)
  refine Rm_of (M := xm9) (lv := [(0, _), (1, _), (2, _), (3, _), (4, _), (5, _), (6, _)]) rfl rfl rfl ?_
  obtain ⟨hR, h86, ⟨hW, hwP⟩, -⟩ := id hA
  have hP12 := hR.1
  have hmk := mkM_b ha hb hc
  have hn119 : 119 ≤ n := by
    obtain ⟨-, -, -, -, -, -, -, -, -, -, -, -, ⟨a, b, c, hd, -, -, -, -, h9⟩⟩ := hA
    exact Fr_lt hF h9
  obtain ⟨w0, w1, wc, w2, w3⟩ := id hW
  refine Gq_s (pc' := 1) rfl rfl rfl ?_
  refine Gq_s (pc' := 2) rfl rfl rfl ?_
  refine Gq_callv1 (pc' := 5) (Y := xm43) (rest := []) (st' := [_]) (ce' := 0) (sl' := 0) rfl rfl rfl rfl rfl rfl rfl rfl rfl (t_pti n hR h86 hp) rfl (by first | assumption | exact upd_eq _ _ _ | ((repeat (refine (upd_ne _ _ (by omega)).trans ?_)); first | assumption | exact upd_eq _ _ _)) ?_
  refine Gq_s (pc' := 6) rfl rfl rfl ?_
  refine Gq_s (pc' := 7) rfl rfl rfl ?_
  refine Gq_calls1 (pc' := 10) (Y := xm49) (rest := []) (st' := []) (ce' := 0) (sl' := 0) rfl rfl rfl rfl rfl rfl rfl rfl rfl rfl (t_reqFeat H n (by omega)) rfl ?_
  refine Gq_s (pc' := 11) rfl rfl rfl ?_
  refine Gq_s (pc' := 13) rfl rfl rfl ?_
  refine Gq_s (pc' := 15) rfl rfl rfl ?_
  refine Gq_s (pc' := 17) rfl rfl rfl ?_
  refine Gq_calls1 (pc' := 20) (Y := xm48) (rest := []) (st' := []) (ce' := 0) (sl' := 0) rfl rfl rfl rfl rfl rfl rfl rfl rfl rfl (t_reqRange H n hk ha hb hc) rfl ?_
  refine Gq_s (pc' := 21) rfl rfl rfl ?_
  refine Gq_get (pc' := 24) rfl rfl (by first | assumption | exact upd_eq _ _ _ | ((repeat (refine (upd_ne _ _ (by omega)).trans ?_)); first | assumption | exact upd_eq _ _ _)) (by exact rfl) ?_
  refine Gq_get (pc' := 27) rfl rfl (by first | assumption | exact upd_eq _ _ _ | ((repeat (refine (upd_ne _ _ (by omega)).trans ?_)); first | assumption | exact upd_eq _ _ _)) (by exact rfl) ?_
  refine Gq_bipush (pc' := 29) rfl rfl (by decide) ?_
  refine Gq_clt (pc' := 32) (t := 42) rfl rfl rfl (by omega) (by omega) (fun _ => ?_) (fun hq => absurd (by omega) hq)
  refine Gq_new (pc' := 45) rfl rfl rfl rfl (by decide) (by decide) ?_
  refine Gq_s (pc' := 46) rfl rfl rfl ?_
  refine Gq_s (pc' := 47) rfl rfl rfl ?_
  refine Gq_s (pc' := 49) rfl rfl rfl ?_
  refine Gq_s (pc' := 51) rfl rfl rfl ?_
  refine Gq_s (pc' := 53) rfl rfl rfl ?_
  refine Gq_calls1 (pc' := 56) (Y := xm58) (rest := [_, _, _]) (st' := [_, _, _, _]) (ce' := 1) (sl' := 2) rfl rfl rfl rfl rfl rfl rfl rfl rfl rfl (t_markOf _ _ a b c) rfl ?_
  refine Gq_calls1 (pc' := 59) (Y := xm105) (rest := [_]) (st' := [_]) (ce' := 1) (sl' := 2) rfl rfl rfl rfl rfl rfl rfl rfl rfl rfl (t_rangeC _ hk hmk (upd_eq _ _ _)) rfl ?_
  rw [upd_upd]
  refine Gq_s (pc' := 61) (lv' := [(0, _), (1, _), (2, _), (3, _), (4, _), (5, _), (6, _), (7, _)]) rfl rfl rfl ?_
  refine Gq_s (pc' := 62) rfl rfl rfl ?_
  refine Gq_get (pc' := 65) rfl rfl (by first | assumption | exact upd_eq _ _ _ | ((repeat (refine (upd_ne _ _ (by omega)).trans ?_)); first | assumption | exact upd_eq _ _ _)) (by exact rfl) ?_
  refine Gq_new (pc' := 68) rfl rfl rfl rfl (by decide) (by decide) ?_
  refine Gq_s (pc' := 69) rfl rfl rfl ?_
  refine Gq_s (pc' := 70) rfl rfl rfl ?_
  refine Gq_s (pc' := 71) rfl rfl rfl ?_
  refine Gq_s (pc' := 72) rfl rfl rfl ?_
  refine Gq_s (pc' := 74) rfl rfl rfl ?_
  refine Gq_calls1 (pc' := 77) (Y := xm89) (rest := [_, _]) (st' := [_, _]) (ce' := 2) (sl' := 7) rfl rfl rfl rfl rfl rfl rfl rfl rfl rfl (t_claimC (t := (p : Int)) (c := -1) (f := (f : Int)) _ (upd_eq _ _ _)) rfl ?_
  rw [upd_upd]
  have hC : ClaimAt (hup (hup H n (false, 9, [.int (zI (fstF k (mkM a b c))), .int (zI (endF k (mkM a b c)))])) (n + 1) (false, 8, [.int (zI (p : Int)), .int (zI (-1)), .int (zI (f : Int)), .ref n, .null])) (n + 1) (mkC p (-1) f k (mkM a b c)) (rvl none) := ⟨by omega, mkC_ok (by omega) (by omega) hf hmk, n, by omega, by rw [upd_ne _ _ (by omega)]; exact upd_eq _ _ _, upd_eq _ _ _⟩
  have fr : ∀ o c0, H o = some c0 → (hup (hup H n (false, 9, [.int (zI (fstF k (mkM a b c))), .int (zI (endF k (mkM a b c)))])) (n + 1) (false, 8, [.int (zI (p : Int)), .int (zI (-1)), .int (zI (f : Int)), .ref n, .null])) o = some c0 := fun o c0 hc0 => by
    have := Fr_lt hF hc0
    rw [upd_ne _ _ (by omega), upd_ne _ _ (by omega)]
    exact hc0
  have lo : ∀ o, o < 119 → (hup (hup H n (false, 9, [.int (zI (fstF k (mkM a b c))), .int (zI (endF k (mkM a b c)))])) (n + 1) (false, 8, [.int (zI (p : Int)), .int (zI (-1)), .int (zI (f : Int)), .ref n, .null])) o = H o := fun o ho => by rw [upd_ne _ _ (by omega), upd_ne _ _ (by omega)]
  have v0 := fr 88 _ w0
  have v1 := fr 89 _ w2
  have v86 := fr 86 _ h86
  show Gw S xm9 77 _ [.ref (n + 1), .ref 88] (hup (hup H n (false, 9, [.int (zI (fstF k (mkM a b c))), .int (zI (endF k (mkM a b c)))])) (n + 1) (false, 8, [.int (zI (p : Int)), .int (zI (-1)), .int (zI (f : Int)), .ref n, .null])) (n + 1 + 1) 2 7 _
  generalize (hup (hup H n (false, 9, [.int (zI (fstF k (mkM a b c))), .int (zI (endF k (mkM a b c)))])) (n + 1) (false, 8, [.int (zI (p : Int)), .int (zI (-1)), .int (zI (f : Int)), .ref n, .null])) = H1 at hC fr lo v0 v1 v86
  refine Gq_callv1 (pc' := 80) (Y := xm122) (rest := []) (st' := []) (ce' := 2) (sl' := 7) rfl rfl rfl rfl rfl rfl rfl rfl rfl (t_wadd v0 v1 hwl hC) rfl (by first | assumption | exact upd_eq _ _ _ | ((repeat (refine (upd_ne _ _ (by omega)).trans ?_)); first | assumption | exact upd_eq _ _ _)) ?_
  refine Gq_s (pc' := 81) rfl rfl rfl ?_
  refine Gq_get (pc' := 84) rfl rfl (by first | assumption | exact upd_eq _ _ _ | ((repeat (refine (upd_ne _ _ (by omega)).trans ?_)); first | assumption | exact upd_eq _ _ _)) (by exact rfl) ?_
  refine Gq_get (pc' := 87) rfl rfl (by first | assumption | exact upd_eq _ _ _ | ((repeat (refine (upd_ne _ _ (by omega)).trans ?_)); first | assumption | exact upd_eq _ _ _)) (by exact rfl) ?_
  refine Gq_s (pc' := 88) rfl rfl rfl ?_
  refine Gq_isub (pc' := 89) rfl rfl ?_
  have hge : Ge H H1 := fun o c0 _ _ hc0 => fr o c0 hc0
  have hA1 := AllB_ge hge hA
  have hfin : ∀ o c0, ¬ o = 88 → ¬ o = 89 → H1 o = some c0 → hup (hup H1 89 (true, 5, aR 6 (fset wc wl.length (some (n + 1))))) 88 (false, 6, [.ref 89, .int (zI ((wl.length + 1 : Nat) : Int))]) o = some c0 := fun o c0 h1 h2 hc0 => by rw [upd_ne _ _ h1, upd_ne _ _ h2]; exact hc0
  have g88 : hup (hup H1 89 (true, 5, aR 6 (fset wc wl.length (some (n + 1))))) 88 (false, 6, [.ref 89, .int (zI ((wl.length + 1 : Nat) : Int))]) 88 = some (false, 6, [.ref 89, .int (zI ((wl.length + 1 : Nat) : Int))]) := upd_eq _ _ _
  have g89 : hup (hup H1 89 (true, 5, aR 6 (fset wc wl.length (some (n + 1))))) 88 (false, 6, [.ref 89, .int (zI ((wl.length + 1 : Nat) : Int))]) 89 = some (true, 5, aR 6 (fset wc wl.length (some (n + 1)))) := by rw [upd_ne _ _ (by omega)]; exact upd_eq _ _ _
  have glo : ∀ o, o < 86 → hup (hup H1 89 (true, 5, aR 6 (fset wc wl.length (some (n + 1))))) 88 (false, 6, [.ref 89, .int (zI ((wl.length + 1 : Nat) : Int))]) o = H o := fun o ho => by rw [upd_ne _ _ (by omega), upd_ne _ _ (by omega)]; exact lo o (by omega)
  refine Gq_ret (v := some (.int (zI (wl.length : Int)))) rfl rfl (by rw [show ((wl.length + 1 : Nat) : Int) - 1 = (wl.length : Int) by omega]; rfl) ?_
  show _ ∧ _ ∧ AllB (hup (hup H1 89 (true, 5, aR 6 (fset wc wl.length (some (n + 1))))) 88 (false, 6, [.ref 89, .int (zI ((wl.length + 1 : Nat) : Int))])) P pid cnt vd gr vr (wl ++ [(mkC p (-1) f k (mkM a b c))]) lk dk th pc pd kd pp pb cl cr dr lt fc ∧ (∀ o c0, ¬ o = 88 → ¬ o = 89 → H o = some c0 → (hup (hup H1 89 (true, 5, aR 6 (fset wc wl.length (some (n + 1))))) 88 (false, 6, [.ref 89, .int (zI ((wl.length + 1 : Nat) : Int))])) o = some c0) ∧ LF H (hup (hup H1 89 (true, 5, aR 6 (fset wc wl.length (some (n + 1))))) 88 (false, 6, [.ref 89, .int (zI ((wl.length + 1 : Nat) : Int))]))
  generalize hup (hup H1 89 (true, 5, aR 6 (fset wc wl.length (some (n + 1))))) 88 (false, 6, [.ref 89, .int (zI ((wl.length + 1 : Nat) : Int))]) = G at hfin g88 g89 glo
  have hTy : Ty H1 G := fun o ci fs h1 _ hc0 => hfin o _ (by omega) (by omega) hc0
  obtain ⟨-, -, -, ⟨L0, L1, hL⟩, ⟨D0, D1, hD⟩, ⟨hPl, hpc, hpd, hpp, hpb⟩, ⟨hCa, hcr, hus⟩, hdr, hS⟩ := id hA1
  have hf9 : ∀ o c0, 90 ≤ o → H1 o = some c0 → G o = some c0 := fun o c0 h1 hc0 => hfin o c0 (by omega) (by omega) hc0
  have f2 : ∀ o c0, ¬ o = 88 → ¬ o = 89 → H o = some c0 → G o = some c0 := fun o c0 h1 h2 hc0 => hfin o c0 h1 h2 (fr o c0 hc0)
  have hR2 : RG G P pid cnt vd gr vr := by
    obtain ⟨h1, h2, h3, h4, h5, h6, h7⟩ := hA1.1
    exact ⟨h1, hfin _ _ (by omega) (by omega) h2, fun q hq => by
      obtain ⟨x1, x2, x3, x4, x5⟩ := h3 q hq
      exact ⟨x1, x2, hf9 _ _ (by omega) x3, hf9 _ _ (by omega) x4, hf9 _ _ (by omega) x5⟩, fun q i hq hi => ⟨VerAt_ty hTy (h4 q i hq hi).1, (h4 q i hq hi).2⟩, h5, h6, h7⟩
  have hW2 : WiAt G 88 (wl ++ [(mkC p (-1) f k (mkM a b c))]) := by
    refine ⟨by rw [g88, List.length_append]; rfl, by rw [List.length_append]; show wl.length + 1 ≤ 6; omega, _, g89, fun i y hy => ?_⟩
    rcases get_snoc hy with hy | ⟨rfl, rfl⟩
    · obtain ⟨q, nx, q1, q2⟩ := w3 i y hy
      have hi : i < wl.length := (List.getElem?_eq_some_iff.mp hy).1
      exact ⟨q, nx, by rw [fset_ne _ _ (by omega)]; exact q1, ClaimAt_ty hTy (ClaimAt_ty (Ty_ge hge) q2)⟩
    · exact ⟨n + 1, _, fset_eq _ _ _, ClaimAt_ty hTy hC⟩
  have hS2 : ScA G (Own P cnt vd) := by
    obtain ⟨⟨lo9, a9, b9⟩, ⟨don, c9, d9⟩, ⟨⟨tc, lv, tr, htc, ⟨rl, rs, row, lev, z0, z1, z2, z3, z4⟩, hlv, htr⟩, ⟨z, wc9, s1, s2⟩, s3, ⟨ch, s4⟩, ⟨on, s5, s6⟩, cand, cc, s7, s8, s9⟩, ⟨k0, len, ah, qu, e1, e2, e3, e4⟩, ⟨x9, y9, z9, hd, t1, t2, t3, t4, t5⟩⟩ := hS
    exact ⟨⟨lo9, hf9 _ _ (by omega) a9, b9⟩, ⟨don, hf9 _ _ (by omega) c9, d9⟩, ⟨⟨tc, lv, tr, htc, ⟨rl, rs, row, lev, hf9 _ _ (by omega) z0, hf9 _ _ (by omega) z1, hf9 _ _ (by omega) z2, hf9 _ _ (by omega) z3, z4⟩, hlv, htr⟩, ⟨z, wc9, hf9 _ _ (by omega) s1, hf9 _ _ (by omega) s2⟩, hf9 _ _ (by omega) s3, ⟨ch, hf9 _ _ (by omega) s4⟩, ⟨on, hf9 _ _ (by omega) s5, s6⟩, cand, cc, hf9 _ _ (by omega) s7, hf9 _ _ (by omega) s8, s9⟩, ⟨k0, len, ah, qu, hf9 _ _ (by omega) e1, hf9 _ _ (by omega) e2, hf9 _ _ (by omega) e3, hf9 _ _ (by omega) e4⟩, ⟨x9, y9, z9, hd, t1, t2, t3, hf9 _ _ (by omega) t4, hf9 _ _ (by omega) t5⟩⟩
  have hCa2 : CaAt G 115 cl cr vr (VV P cnt vd) := by
    obtain ⟨x1, x2, x3, hd, x4, x5⟩ := hCa
    exact ⟨hf9 _ _ (by omega) x1, x2, x3, hd, hf9 _ _ (by omega) x4, x5⟩
  exact ⟨rfl, rfl, ⟨hR2, f2 _ _ (by omega) (by omega) h86, ⟨hW2, fun c0 hc0 => (List.mem_append.mp hc0).elim (hwP c0) (fun h => by rw [List.mem_singleton.mp h]; exact hp)⟩, ⟨hf9 _ _ (by omega) L0, hf9 _ _ (by omega) L1, hL⟩, ⟨hf9 _ _ (by omega) D0, hf9 _ _ (by omega) D1, hD⟩, ⟨⟨hf9 _ _ (by omega) hPl.1, hf9 _ _ (by omega) hPl.2.1, hf9 _ _ (by omega) hPl.2.2.1, hf9 _ _ (by omega) hPl.2.2.2⟩, hpc, hpd, hpp, hpb⟩, ⟨hCa2, hcr, hus⟩, hdr, hS2⟩, f2, glo, fun o vs ho hc0 => f2 o _ (by omega) (by omega) hc0⟩
end XKn
