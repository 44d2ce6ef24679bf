/-! needs and clashes (printed by wip/p46/gen44.py) -/
section XKo
def vAddN (v : VR) (c : CR) : VR := (vN v, vM v, vS v, vW v, vQ v ++ [c], vK v)
def vAddK (v : VR) (c : CR) : VR := (vN v, vM v, vS v, vW v, vQ v, vK v ++ [c])
theorem q_need {S : ScT} {H : HF} (n : Nat) {P : Nat} {pid cnt : Nat → Nat} {vd gr : Nat → Nat → Nat} {vr : Nat → VR} {wl : List CR} {lk dk : Nat → Option Nat} {th : Bool} {pc pd : Nat} {kd : Nat → Int} {pp : Nat → Nat} {pb : Nat → Option Nat} {cl : List Nat} {cr dr lt fc : Int} (hA : AllB H P pid cnt vd gr vr wl lk dk th pc pd kd pp pb cl cr dr lt fc) {tg : Nat → Nat} (hX : RX H P pid cnt vd vr tg) {p : Nat} {q f : Nat} {e k a b c : Int} (hp : p < P) (hq : q < P) (hne : ¬ p = q) (he : -1 ≤ e ∧ e < 4) (hf : f < 16) (hk : 0 ≤ k ∧ k ≤ 5) (ha : nmOK a) (hb : nmOK b) (hc : nmOK c) (hcp : 0 < cnt p) (hlen : (vQ (vr (vd p (cnt p - 1)))).length ≤ 1) : Rmt S 3 [.ref 86, .int (zI (p : Int)), .int (zI (q : Int)), .int (zI e), .int (zI (f : Int)), .int (zI k), .int (zI a), .int (zI b), .int (zI c)] H n (fun v G m => v = some (.int (zI ((vQ (vr (vd p (cnt p - 1)))).length : Int))) ∧ m = n + 2 ∧ AllB G P pid cnt vd gr (fset vr (vd p (cnt p - 1)) (vAddN (vr (vd p (cnt p - 1))) (mkC q e f k (mkM a b c)))) wl lk dk th pc pd kd pp pb cl cr dr lt fc ∧ RX G P pid cnt vd (fset vr (vd p (cnt p - 1)) (vAddN (vr (vd p (cnt p - 1))) (mkC q e f k (mkM a b c)))) (fset tg (n + 1) (2 * vd p (cnt p - 1))) ∧ LF H G) := by
  refine Rm_fr (fun hF => ?_)
  refine Rm_of (M := xm3) (lv := [(0, _), (1, _), (2, _), (3, _), (4, _), (5, _), (6, _), (7, _), (8, _)]) rfl rfl rfl ?_
  obtain ⟨hR, h86, ⟨hW, hwP⟩, -⟩ := id hA
  have hP12 := hR.1
  have hmk := mkM_b ha hb hc
  have hn119 : 119 ≤ n := by
    obtain ⟨-, -, -, -, -, -, -, -, -, -, -, -, ⟨a, b, c, hd, -, -, -, -, h9⟩⟩ := hA
    exact Fr_lt hF h9
  have hpk := hR.2.2.1 p hp
  obtain ⟨hk9, hc8, pk0, -⟩ := id hpk
  have hlast : cnt p - 1 < cnt p := by omega
  have hver := (hR.2.2.2.1 p (cnt p - 1) hp hlast).1
  have hsep := hX.2 p (cnt p - 1) hp hlast
  have htg0 := hR.2.2.2.2.2.2 p (cnt p - 1) hp hlast
  have hoth0 : ∀ r i, r < P → i < cnt r → VerAt H (vd r i) (vr (vd r i)) ∧ SepV H tg (vd r i) (vr (vd r i)) := fun r i hr hi => ⟨(hR.2.2.2.1 r i hr hi).1, hX.2 r i hr hi⟩
  obtain ⟨x119, xr, f1, g1, h5, h6, h7⟩ := id hver
  obtain ⟨f2, g2, a0, a1, a2, a3, a5, a7, e1, e2, e3⟩ := id hsep
  have e1' := e1
  rw [h5] at e1'
  have z := Option.some.inj e1'
  injection z with _ z
  injection z with _ z
  injection z with z0 z
  injection z with z1 z
  injection z with z2 z
  injection z with z3 z
  injection z with z4 z
  injection z with z5 z
  injection z with z6 z
  have ef := rvl_inj z4
  have eg := rvl_inj z6
  subst ef
  subst eg
  clear e1 e1'
  generalize hxd : vd p (cnt p - 1) = x at *
  refine Gq_s (pc' := 1) rfl rfl rfl ?_
  refine Gq_s (pc' := 2) rfl rfl rfl ?_
  refine Gq_callv1 (pc' := 5) (Y := xm43) (rest := []) (st' := [_]) (ce' := 0) (sl' := 0) rfl rfl rfl rfl rfl rfl rfl rfl rfl (t_pti n hR h86 hp) rfl (by first | assumption | exact upd_eq _ _ _ | ((repeat (refine (upd_ne _ _ (by omega)).trans ?_)); first | assumption | exact upd_eq _ _ _)) ?_
  refine Gq_s (pc' := 7) (lv' := [(0, _), (1, _), (2, _), (3, _), (4, _), (5, _), (6, _), (7, _), (8, _), (9, _)]) rfl rfl rfl ?_
  refine Gq_s (pc' := 8) rfl rfl rfl ?_
  refine Gq_s (pc' := 9) rfl rfl rfl ?_
  refine Gq_s (pc' := 10) rfl rfl rfl ?_
  refine Gq_callv1 (pc' := 13) (Y := xm45) (rest := []) (st' := []) (ce' := 0) (sl' := 0) rfl rfl rfl rfl rfl rfl rfl rfl rfl (t_reqOther n hR h86 hp hq hne) rfl (by first | assumption | exact upd_eq _ _ _ | ((repeat (refine (upd_ne _ _ (by omega)).trans ?_)); first | assumption | exact upd_eq _ _ _)) ?_
  refine Gq_s (pc' := 14) rfl rfl rfl ?_
  refine Gq_s (pc' := 15) rfl rfl rfl ?_
  refine Gq_clt (pc' := 18) (t := 23) rfl rfl rfl (by omega) (by omega) (fun hq => absurd hq (by omega)) (fun _ => ?_)
  refine Gq_s (pc' := 19) rfl rfl rfl ?_
  refine Gq_s (pc' := 20) rfl rfl rfl ?_
  refine Gq_clt (pc' := 23) (t := 33) rfl rfl rfl (by omega) (by omega) (fun _ => ?_) (fun hq => absurd (by omega) hq)
  refine Gq_s (pc' := 35) rfl rfl rfl ?_
  refine Gq_calls1 (pc' := 38) (Y := xm49) (rest := []) (st' := []) (ce' := 0) (sl' := 0) rfl rfl rfl rfl rfl rfl rfl rfl rfl rfl (t_reqFeat H n (by omega)) rfl ?_
  refine Gq_s (pc' := 40) rfl rfl rfl ?_
  refine Gq_s (pc' := 42) rfl rfl rfl ?_
  refine Gq_s (pc' := 44) rfl rfl rfl ?_
  refine Gq_s (pc' := 46) rfl rfl rfl ?_
  refine Gq_calls1 (pc' := 49) (Y := xm48) (rest := []) (st' := []) (ce' := 0) (sl' := 0) rfl rfl rfl rfl rfl rfl rfl rfl rfl rfl (t_reqRange H n hk ha hb hc) rfl ?_
  refine Gq_s (pc' := 51) rfl rfl rfl ?_
  refine Gq_callv1 (pc' := 54) (Y := xm94) (rest := []) (st' := [_]) (ce' := 0) (sl' := 0) rfl rfl rfl rfl rfl rfl rfl rfl rfl (t_latest n hpk hcp) rfl (by first | assumption | exact upd_eq _ _ _ | ((repeat (refine (upd_ne _ _ (by omega)).trans ?_)); first | assumption | exact upd_eq _ _ _)) ?_
  rw [if_pos hlast, hxd]
  refine Gq_astv (pc' := 56) (lv' := [(0, _), (1, _), (2, _), (3, _), (4, _), (5, _), (6, _), (7, _), (8, _), (9, _), (10, _)]) (k := 10) rfl (fun _ _ => rfl) rfl rfl ?_
  refine Gq_s (pc' := 58) rfl rfl rfl ?_
  refine Gq_nul_r (pc' := 61) (t := 70) rfl rfl rfl ?_
  refine Gq_s (pc' := 63) rfl rfl rfl ?_
  refine Gq_get (pc' := 66) rfl rfl (by first | assumption | exact upd_eq _ _ _ | ((repeat (refine (upd_ne _ _ (by omega)).trans ?_)); first | assumption | exact upd_eq _ _ _)) (by exact rfl) ?_
  refine Gq_s (pc' := 67) rfl rfl rfl ?_
  refine Gq_clt (pc' := 70) (t := 80) rfl rfl rfl (by omega) (by omega) (fun _ => ?_) (fun hq => absurd (by omega) hq)
  refine Gq_new (pc' := 83) rfl rfl rfl rfl (by decide) (by decide) ?_
  refine Gq_s (pc' := 84) rfl rfl rfl ?_
  refine Gq_s (pc' := 86) rfl rfl rfl ?_
  refine Gq_s (pc' := 88) rfl rfl rfl ?_
  refine Gq_s (pc' := 90) rfl rfl rfl ?_
  refine Gq_s (pc' := 92) rfl rfl rfl ?_
  refine Gq_calls1 (pc' := 95) (Y := xm58) (rest := [_, _, _]) (st' := [_, _, _, _]) (ce' := 1) (sl' := 2) rfl rfl rfl rfl rfl rfl rfl rfl rfl rfl (t_markOf _ _ a b c) rfl ?_
  refine Gq_calls1 (pc' := 98) (Y := xm105) (rest := [_]) (st' := [_]) (ce' := 1) (sl' := 2) rfl rfl rfl rfl rfl rfl rfl rfl rfl rfl (t_rangeC _ hk hmk (upd_eq _ _ _)) rfl ?_
  rw [upd_upd]
  refine Gq_s (pc' := 100) (lv' := [(0, _), (1, _), (2, _), (3, _), (4, _), (5, _), (6, _), (7, _), (8, _), (9, _), (10, _), (11, _)]) rfl rfl rfl ?_
  refine Gq_s (pc' := 102) rfl rfl rfl ?_
  refine Gq_new (pc' := 105) rfl rfl rfl rfl (by decide) (by decide) ?_
  refine Gq_s (pc' := 106) rfl rfl rfl ?_
  refine Gq_s (pc' := 107) rfl rfl rfl ?_
  refine Gq_s (pc' := 108) rfl rfl rfl ?_
  refine Gq_s (pc' := 110) rfl rfl rfl ?_
  refine Gq_s (pc' := 112) rfl rfl rfl ?_
  refine Gq_calls1 (pc' := 115) (Y := xm89) (rest := [_, _]) (st' := [_, _]) (ce' := 2) (sl' := 7) rfl rfl rfl rfl rfl rfl rfl rfl rfl rfl (t_claimC (t := (q : Int)) (c := e) (f := (f : Int)) _ (upd_eq _ _ _)) rfl ?_
  rw [upd_upd]
  have hC : ClaimAt (hup (hup H n (false, 9, [.int (zI (fstF k (mkM a b c))), .int (zI (endF k (mkM a b c)))])) (n + 1) (false, 8, [.int (zI (q : Int)), .int (zI e), .int (zI (f : Int)), .ref n, .null])) (n + 1) (mkC q e f k (mkM a b c)) (rvl none) := ⟨by omega, mkC_ok (by omega) he hf hmk, n, by omega, by rw [upd_ne _ _ (by omega)]; exact upd_eq _ _ _, upd_eq _ _ _⟩
  have fr : ∀ o c0, H o = some c0 → (hup (hup H n (false, 9, [.int (zI (fstF k (mkM a b c))), .int (zI (endF k (mkM a b c)))])) (n + 1) (false, 8, [.int (zI (q : Int)), .int (zI e), .int (zI (f : Int)), .ref n, .null])) o = some c0 := fun o c0 hc0 => by
    have := Fr_lt hF hc0
    rw [upd_ne _ _ (by omega), upd_ne _ _ (by omega)]
    exact hc0
  have lo : ∀ o, o < 119 → (hup (hup H n (false, 9, [.int (zI (fstF k (mkM a b c))), .int (zI (endF k (mkM a b c)))])) (n + 1) (false, 8, [.int (zI (q : Int)), .int (zI e), .int (zI (f : Int)), .ref n, .null])) o = H o := fun o ho => by rw [upd_ne _ _ (by omega), upd_ne _ _ (by omega)]
  have vx := fr x _ h5
  show Gw S xm3 115 _ [.ref (n + 1), .ref x] (hup (hup H n (false, 9, [.int (zI (fstF k (mkM a b c))), .int (zI (endF k (mkM a b c)))])) (n + 1) (false, 8, [.int (zI (q : Int)), .int (zI e), .int (zI (f : Int)), .ref n, .null])) (n + 1 + 1) 2 7 _
  generalize (hup (hup H n (false, 9, [.int (zI (fstF k (mkM a b c))), .int (zI (endF k (mkM a b c)))])) (n + 1) (false, 8, [.int (zI (q : Int)), .int (zI e), .int (zI (f : Int)), .ref n, .null])) = H1 at hC fr lo vx
  have hxn : x < n := Fr_lt hF h5
  obtain ⟨c1, c2, r0, c3, c4, c5⟩ := id hC
  have hr0 : ¬ r0 = x := fun e => by rw [e, vx] at c4; cases c4
  have hno : ∀ o ci fs, H o = some (false, ci, fs) → ¬ ci = 10 → ¬ o = x := fun o ci fs hc0 h e => by
    rw [e, h5] at hc0
    cases hc0
    exact h rfl
  have hna : ∀ o ti vs, H o = some (true, ti, vs) → ¬ o = x := fun o ti vs hc0 e => by
    rw [e, h5] at hc0
    cases hc0
  have hcase : (vQ (vr x) = [] ∧ f1 = none) ∨ ∃ c0 y, vQ (vr x) = [c0] ∧ f1 = some y ∧ ClaimAt H y c0 (rvl none) := by
    cases hv : vQ (vr x) with
    | nil => rw [hv] at h6; exact .inl ⟨rfl, h6⟩
    | cons c0 t =>
      rw [hv] at h6 hlen
      cases t with
      | nil =>
        obtain ⟨y, nx, y1, y2, y3⟩ := h6
        have y3 : nx = none := y3
        subst y3
        exact .inr ⟨c0, y, rfl, y1, y2⟩
      | cons d t => exact absurd hlen (by show ¬ t.length + 1 + 1 ≤ 1; omega)
  rcases hcase with ⟨hv, rfl⟩ | ⟨c0, y, hv, rfl, yc⟩
  · refine Gq_callv1 (pc' := 118) (Y := xm118) (rest := []) (st' := [_]) (ce' := 2) (sl' := 7) rfl rfl rfl rfl rfl rfl rfl rfl rfl (t_addNeed0 _ vx) rfl (by first | assumption | exact upd_eq _ _ _ | ((repeat (refine (upd_ne _ _ (by omega)).trans ?_)); first | assumption | exact upd_eq _ _ _)) ?_
    have gx : (hup H1 x (false, 10, [.int (zI (vN (vr x) : Int)), .int (zI (vM (vr x))), .int (zI (vS (vr x))), .int (zI (bI (vW (vr x)))), .ref (n + 1), .int (zI (((vQ (vr x)).length : Int) + 1)), rvl g1, .int (zI ((vK (vr x)).length : Int))])) x = some (false, 10, [.int (zI (vN (vr x) : Int)), .int (zI (vM (vr x))), .int (zI (vS (vr x))), .int (zI (bI (vW (vr x)))), .ref (n + 1), .int (zI (((vQ (vr x)).length : Int) + 1)), rvl g1, .int (zI ((vK (vr x)).length : Int))]) := upd_eq _ _ _
    have hkeep : ∀ o w0, ¬ o = x → H1 o = some w0 → (hup H1 x (false, 10, [.int (zI (vN (vr x) : Int)), .int (zI (vM (vr x))), .int (zI (vS (vr x))), .int (zI (bI (vW (vr x)))), .ref (n + 1), .int (zI (((vQ (vr x)).length : Int) + 1)), rvl g1, .int (zI ((vK (vr x)).length : Int))])) o = some w0 := fun o w0 h1 hc0 => by rw [upd_ne _ _ h1]; exact hc0
    have glo : ∀ o, o < 119 → (hup H1 x (false, 10, [.int (zI (vN (vr x) : Int)), .int (zI (vM (vr x))), .int (zI (vS (vr x))), .int (zI (bI (vW (vr x)))), .ref (n + 1), .int (zI (((vQ (vr x)).length : Int) + 1)), rvl g1, .int (zI ((vK (vr x)).length : Int))])) o = H o := fun o ho => by rw [upd_ne _ _ (by omega)]; exact lo o ho
    refine Gq_ret (v := some (.int (zI ((vQ (vr x)).length : Int)))) rfl rfl rfl ?_
    show _ ∧ _ ∧ AllB (hup H1 x (false, 10, [.int (zI (vN (vr x) : Int)), .int (zI (vM (vr x))), .int (zI (vS (vr x))), .int (zI (bI (vW (vr x)))), .ref (n + 1), .int (zI (((vQ (vr x)).length : Int) + 1)), rvl g1, .int (zI ((vK (vr x)).length : Int))])) P pid cnt vd gr (fset vr x (vAddN (vr x) (mkC q e f k (mkM a b c)))) wl lk dk th pc pd kd pp pb cl cr dr lt fc ∧ RX (hup H1 x (false, 10, [.int (zI (vN (vr x) : Int)), .int (zI (vM (vr x))), .int (zI (vS (vr x))), .int (zI (bI (vW (vr x)))), .ref (n + 1), .int (zI (((vQ (vr x)).length : Int) + 1)), rvl g1, .int (zI ((vK (vr x)).length : Int))])) P pid cnt vd (fset vr x (vAddN (vr x) (mkC q e f k (mkM a b c)))) (fset tg (n + 1) (2 * x)) ∧ LF H (hup H1 x (false, 10, [.int (zI (vN (vr x) : Int)), .int (zI (vM (vr x))), .int (zI (vS (vr x))), .int (zI (bI (vW (vr x)))), .ref (n + 1), .int (zI (((vQ (vr x)).length : Int) + 1)), rvl g1, .int (zI ((vK (vr x)).length : Int))]))
    generalize (hup H1 x (false, 10, [.int (zI (vN (vr x) : Int)), .int (zI (vM (vr x))), .int (zI (vS (vr x))), .int (zI (bI (vW (vr x)))), .ref (n + 1), .int (zI (((vQ (vr x)).length : Int) + 1)), rvl g1, .int (zI ((vK (vr x)).length : Int))])) = G at gx hkeep glo
    have k9 : ∀ r fs, H r = some (false, 9, fs) → G r = some (false, 9, fs) := fun r fs hc0 => hkeep _ _ (hno r 9 fs hc0 (by decide)) (fr _ _ hc0)
    have k8 : ∀ id fs, H id = some (false, 8, fs) → G id = some (false, 8, fs) ∧ (fset tg (n + 1) (2 * x)) id = tg id := fun id fs hc0 => ⟨hkeep _ _ (hno id 8 fs hc0 (by decide)) (fr _ _ hc0), fset_ne _ _ (by have := Fr_lt hF hc0; omega)⟩
    have hCG : ClaimAt G (n + 1) (mkC q e f k (mkM a b c)) (rvl none) := ⟨c1, c2, r0, c3, hkeep _ _ hr0 c4, hkeep _ _ (by omega) c5⟩
    refine ⟨rfl, rfl, All_ver hA hX hp hlast hxd.symm glo (fun o ci fs _ h8 hc0 => hkeep _ _ (hno o ci fs hc0 (by omega)) (fr _ _ hc0)) (fun o ti vs _ hc0 => hkeep _ _ (hna o ti vs hc0) (fr _ _ hc0)) ⟨x119, xr, some (n + 1), g1, ?_, ?_, ?_⟩ rfl rfl (fun c9 hc9 => ?_) ⟨some (n + 1), g1, _, _, _, _, _, _, gx, ?_, ?_⟩ (fun r i hr hi hne9 => Ver_keep (hoth0 r i hr hi).1 (hoth0 r i hr hi).2 (fun fs hc0 => hkeep _ _ hne9 (fr _ _ hc0)) (fun id fs _ hc0 => k8 id fs hc0) k9) (fun o a b c d nx hc0 => ⟨nx, (k8 o _ hc0).1⟩) k9⟩
    · rw [gx]
      show _ = some (false, 10, [.int (zI (vN (vr x) : Int)), .int (zI (vM (vr x))), .int (zI (vS (vr x))), .int (zI (bI (vW (vr x)))), .ref (n + 1), .int (zI ((vQ (vr x) ++ [(mkC q e f k (mkM a b c))]).length : Int)), rvl g1, .int (zI ((vK (vr x)).length : Int))])
      rw [List.length_append]
      rfl
    · show ChnAt G (some (n + 1)) (vQ (vr x) ++ [(mkC q e f k (mkM a b c))])
      rw [hv]
      exact ⟨n + 1, none, rfl, hCG, rfl⟩
    · exact ChnAt_tag (fun id fs _ hc0 => (k8 id fs hc0).1) k9 h7 e3
    · have hc9 : c9 ∈ vQ (vr x) ++ [(mkC q e f k (mkM a b c))] := hc9
      rcases List.mem_append.mp hc9 with h | h
      · exact htg0 c9 h
      · rw [List.mem_singleton.mp h]; exact hq
    · show CnT G (fset tg (n + 1) (2 * x)) (2 * x) (some (n + 1)) (vQ (vr x) ++ [(mkC q e f k (mkM a b c))])
      rw [hv]
      obtain ⟨-, -, r9, -, -, h99⟩ := hCG
      exact ⟨n + 1, none, _, _, _, _, rfl, fset_eq _ _ _, h99, trivial⟩
    · exact CnT_ty (fun id fs a hc0 => ⟨(k8 id fs hc0).1, (k8 id fs hc0).2.trans a⟩) e3
  · obtain ⟨y119, yok, ry, yr, yr2, hyH⟩ := id yc
    have hyx : ¬ x = y := fun e => by rw [← e, h5] at hyH; cases hyH
    have hy1 := fr _ _ hyH
    have hyn : y < n := Fr_lt hF hyH
    have hytg : tg y = 2 * x := by
      rw [hv] at e2
      obtain ⟨o2, nx2, b1, b2, b3, b4, d1, d2, d3, d4⟩ := e2
      cases d1
      exact d2
    refine Gq_callv1 (pc' := 118) (Y := xm118) (rest := []) (st' := [_]) (ce' := 2) (sl' := 7) rfl rfl rfl rfl rfl rfl rfl rfl rfl (t_addNeed1 _ hyx vx hy1) rfl (by first | assumption | exact upd_eq _ _ _ | ((repeat (refine (upd_ne _ _ (by omega)).trans ?_)); first | assumption | exact upd_eq _ _ _)) ?_
    have hyx2 : ¬ y = x := fun e => hyx e.symm
    have gx : (hup (hup H1 y (false, 8, [.int (zI (cT c0 : Int)), .int (zI (cC c0)), .int (zI (cF c0 : Int)), .ref ry, .ref (n + 1)])) x (false, 10, [.int (zI (vN (vr x) : Int)), .int (zI (vM (vr x))), .int (zI (vS (vr x))), .int (zI (bI (vW (vr x)))), .ref y, .int (zI (((vQ (vr x)).length : Int) + 1)), rvl g1, .int (zI ((vK (vr x)).length : Int))])) x = some (false, 10, [.int (zI (vN (vr x) : Int)), .int (zI (vM (vr x))), .int (zI (vS (vr x))), .int (zI (bI (vW (vr x)))), .ref y, .int (zI (((vQ (vr x)).length : Int) + 1)), rvl g1, .int (zI ((vK (vr x)).length : Int))]) := upd_eq _ _ _
    have hkeep : ∀ o w0, ¬ o = x → ¬ o = y → H1 o = some w0 → (hup (hup H1 y (false, 8, [.int (zI (cT c0 : Int)), .int (zI (cC c0)), .int (zI (cF c0 : Int)), .ref ry, .ref (n + 1)])) x (false, 10, [.int (zI (vN (vr x) : Int)), .int (zI (vM (vr x))), .int (zI (vS (vr x))), .int (zI (bI (vW (vr x)))), .ref y, .int (zI (((vQ (vr x)).length : Int) + 1)), rvl g1, .int (zI ((vK (vr x)).length : Int))])) o = some w0 := fun o w0 h1 h2 hc0 => by rw [upd_ne _ _ h1, upd_ne _ _ h2]; exact hc0
    have glo : ∀ o, o < 119 → (hup (hup H1 y (false, 8, [.int (zI (cT c0 : Int)), .int (zI (cC c0)), .int (zI (cF c0 : Int)), .ref ry, .ref (n + 1)])) x (false, 10, [.int (zI (vN (vr x) : Int)), .int (zI (vM (vr x))), .int (zI (vS (vr x))), .int (zI (bI (vW (vr x)))), .ref y, .int (zI (((vQ (vr x)).length : Int) + 1)), rvl g1, .int (zI ((vK (vr x)).length : Int))])) o = H o := fun o ho => by rw [upd_ne _ _ (by omega), upd_ne _ _ (by omega)]; exact lo o ho
    have gy : (hup (hup H1 y (false, 8, [.int (zI (cT c0 : Int)), .int (zI (cC c0)), .int (zI (cF c0 : Int)), .ref ry, .ref (n + 1)])) x (false, 10, [.int (zI (vN (vr x) : Int)), .int (zI (vM (vr x))), .int (zI (vS (vr x))), .int (zI (bI (vW (vr x)))), .ref y, .int (zI (((vQ (vr x)).length : Int) + 1)), rvl g1, .int (zI ((vK (vr x)).length : Int))])) y = some (false, 8, [.int (zI (cT c0 : Int)), .int (zI (cC c0)), .int (zI (cF c0 : Int)), .ref ry, .ref (n + 1)]) := by rw [upd_ne _ _ hyx2]; exact upd_eq _ _ _
    refine Gq_ret (v := some (.int (zI ((vQ (vr x)).length : Int)))) rfl rfl rfl ?_
    show _ ∧ _ ∧ AllB (hup (hup H1 y (false, 8, [.int (zI (cT c0 : Int)), .int (zI (cC c0)), .int (zI (cF c0 : Int)), .ref ry, .ref (n + 1)])) x (false, 10, [.int (zI (vN (vr x) : Int)), .int (zI (vM (vr x))), .int (zI (vS (vr x))), .int (zI (bI (vW (vr x)))), .ref y, .int (zI (((vQ (vr x)).length : Int) + 1)), rvl g1, .int (zI ((vK (vr x)).length : Int))])) P pid cnt vd gr (fset vr x (vAddN (vr x) (mkC q e f k (mkM a b c)))) wl lk dk th pc pd kd pp pb cl cr dr lt fc ∧ RX (hup (hup H1 y (false, 8, [.int (zI (cT c0 : Int)), .int (zI (cC c0)), .int (zI (cF c0 : Int)), .ref ry, .ref (n + 1)])) x (false, 10, [.int (zI (vN (vr x) : Int)), .int (zI (vM (vr x))), .int (zI (vS (vr x))), .int (zI (bI (vW (vr x)))), .ref y, .int (zI (((vQ (vr x)).length : Int) + 1)), rvl g1, .int (zI ((vK (vr x)).length : Int))])) P pid cnt vd (fset vr x (vAddN (vr x) (mkC q e f k (mkM a b c)))) (fset tg (n + 1) (2 * x)) ∧ LF H (hup (hup H1 y (false, 8, [.int (zI (cT c0 : Int)), .int (zI (cC c0)), .int (zI (cF c0 : Int)), .ref ry, .ref (n + 1)])) x (false, 10, [.int (zI (vN (vr x) : Int)), .int (zI (vM (vr x))), .int (zI (vS (vr x))), .int (zI (bI (vW (vr x)))), .ref y, .int (zI (((vQ (vr x)).length : Int) + 1)), rvl g1, .int (zI ((vK (vr x)).length : Int))]))
    generalize (hup (hup H1 y (false, 8, [.int (zI (cT c0 : Int)), .int (zI (cC c0)), .int (zI (cF c0 : Int)), .ref ry, .ref (n + 1)])) x (false, 10, [.int (zI (vN (vr x) : Int)), .int (zI (vM (vr x))), .int (zI (vS (vr x))), .int (zI (bI (vW (vr x)))), .ref y, .int (zI (((vQ (vr x)).length : Int) + 1)), rvl g1, .int (zI ((vK (vr x)).length : Int))])) = G at gx hkeep glo gy
    have k9 : ∀ r fs, H r = some (false, 9, fs) → G r = some (false, 9, fs) := fun r fs hc0 => hkeep _ _ (hno r 9 fs hc0 (by decide)) (fun e => by rw [e, hyH] at hc0; cases hc0) (fr _ _ hc0)
    have k8 : ∀ id fs, H id = some (false, 8, fs) → ¬ id = y → G id = some (false, 8, fs) ∧ (fset tg (n + 1) (2 * x)) id = tg id := fun id fs hc0 hy => ⟨hkeep _ _ (hno id 8 fs hc0 (by decide)) hy (fr _ _ hc0), fset_ne _ _ (by have := Fr_lt hF hc0; omega)⟩
    have hCG : ClaimAt G (n + 1) (mkC q e f k (mkM a b c)) (rvl none) := ⟨c1, c2, r0, c3, hkeep _ _ hr0 (fun e => by rw [e, hy1] at c4; cases c4) c4, hkeep _ _ (by omega) (by omega) c5⟩
    have hyG : ClaimAt G y c0 (rvl (some (n + 1))) := ⟨y119, yok, ry, yr, k9 _ _ yr2, gy⟩
    have ny : ∀ id z, tg id = z → ¬ z = 2 * x → ¬ id = y := fun id z h1 h2 e => by rw [e, hytg] at h1; exact h2 h1.symm
    refine ⟨rfl, rfl, All_ver hA hX hp hlast hxd.symm glo (fun o ci fs _ h8 hc0 => hkeep _ _ (hno o ci fs hc0 (by omega)) (fun e => by rw [e, hyH] at hc0; cases hc0; omega) (fr _ _ hc0)) (fun o ti vs _ hc0 => hkeep _ _ (hna o ti vs hc0) (fun e => by rw [e, hyH] at hc0; cases hc0) (fr _ _ hc0)) ⟨x119, xr, some y, g1, ?_, ?_, ?_⟩ rfl rfl (fun c9 hc9 => ?_) ⟨some y, g1, _, _, _, _, _, _, gx, ?_, ?_⟩ (fun r i hr hi hne9 => Ver_keep (hoth0 r i hr hi).1 (hoth0 r i hr hi).2 (fun fs hc0 => hkeep _ _ hne9 (fun e => by rw [e, hyH] at hc0; cases hc0) (fr _ _ hc0)) (fun id fs ht hc0 => k8 id fs hc0 (fun e => by rw [e, hytg] at ht; omega)) k9) (fun o a b c d nx hc0 => ?_) k9⟩
    · rw [gx]
      show _ = some (false, 10, [.int (zI (vN (vr x) : Int)), .int (zI (vM (vr x))), .int (zI (vS (vr x))), .int (zI (bI (vW (vr x)))), .ref y, .int (zI ((vQ (vr x) ++ [(mkC q e f k (mkM a b c))]).length : Int)), rvl g1, .int (zI ((vK (vr x)).length : Int))])
      rw [List.length_append]
      rfl
    · show ChnAt G (some y) (vQ (vr x) ++ [(mkC q e f k (mkM a b c))])
      rw [hv]
      exact ⟨y, some (n + 1), rfl, hyG, n + 1, none, rfl, hCG, rfl⟩
    · exact ChnAt_tag (fun id fs ht hc0 => (k8 id fs hc0 (ny id _ ht (by omega))).1) k9 h7 e3
    · have hc9 : c9 ∈ vQ (vr x) ++ [(mkC q e f k (mkM a b c))] := hc9
      rcases List.mem_append.mp hc9 with h | h
      · exact htg0 c9 h
      · rw [List.mem_singleton.mp h]; exact hq
    · show CnT G (fset tg (n + 1) (2 * x)) (2 * x) (some y) (vQ (vr x) ++ [(mkC q e f k (mkM a b c))])
      rw [hv]
      obtain ⟨-, -, r9, -, -, h99⟩ := hCG
      exact ⟨y, some (n + 1), _, _, _, _, rfl, by rw [fset_ne _ _ (by omega)]; exact hytg, gy, n + 1, none, _, _, _, _, rfl, fset_eq _ _ _, h99, trivial⟩
    · exact CnT_ty (fun id fs a hc0 => ⟨(k8 id fs hc0 (ny id _ a (by omega))).1, (k8 id fs hc0 (ny id _ a (by omega))).2.trans a⟩) e3
    · by_cases e9 : o = y
      · rw [e9] at hc0 ⊢
        rw [hyH] at hc0
        have z := Option.some.inj hc0
        injection z with _ z
        injection z with _ z
        injection z with z0 z
        injection z with z1 z
        injection z with z2 z
        injection z with z3 z
        rw [← z0, ← z1, ← z2, ← z3]
        exact ⟨_, gy⟩
      · exact ⟨nx, (k8 o _ hc0 e9).1⟩
theorem q_clash {S : ScT} {H : HF} (n : Nat) {P : Nat} {pid cnt : Nat → Nat} {vd gr : Nat → Nat → Nat} {vr : Nat → VR} {wl : List CR} {lk dk : Nat → Option Nat} {th : Bool} {pc pd : Nat} {kd : Nat → Int} {pp : Nat → Nat} {pb : Nat → Option Nat} {cl : List Nat} {cr dr lt fc : Int} (hA : AllB H P pid cnt vd gr vr wl lk dk th pc pd kd pp pb cl cr dr lt fc) {tg : Nat → Nat} (hX : RX H P pid cnt vd vr tg) {p : Nat} {q : Nat} {k a b c : Int} (hp : p < P) (hq : q < P) (hne : ¬ p = q) (hk : 0 ≤ k ∧ k ≤ 5) (ha : nmOK a) (hb : nmOK b) (hc : nmOK c) (hcp : 0 < cnt p) (hlen : vK (vr (vd p (cnt p - 1))) = []) : Rmt S 4 [.ref 86, .int (zI (p : Int)), .int (zI (q : Int)), .int (zI k), .int (zI a), .int (zI b), .int (zI c)] H n (fun v G m => v = some (.int (zI 0)) ∧ m = n + 2 ∧ AllB G P pid cnt vd gr (fset vr (vd p (cnt p - 1)) (vAddK (vr (vd p (cnt p - 1))) (mkC q (-1) 0 k (mkM a b c)))) wl lk dk th pc pd kd pp pb cl cr dr lt fc ∧ RX G P pid cnt vd (fset vr (vd p (cnt p - 1)) (vAddK (vr (vd p (cnt p - 1))) (mkC q (-1) 0 k (mkM a b c)))) (fset tg (n + 1) (2 * vd p (cnt p - 1) + 1)) ∧ LF H G) := by
  refine Rm_fr (fun hF => ?_)
  refine Rm_of (M := xm4) (lv := [(0, _), (1, _), (2, _), (3, _), (4, _), (5, _), (6, _)]) rfl rfl rfl ?_
  obtain ⟨hR, h86, ⟨hW, hwP⟩, -⟩ := id hA
  have hP12 := hR.1
  have hmk := mkM_b ha hb hc
  have hn119 : 119 ≤ n := by
    obtain ⟨-, -, -, -, -, -, -, -, -, -, -, -, ⟨a, b, c, hd, -, -, -, -, h9⟩⟩ := hA
    exact Fr_lt hF h9
  have hpk := hR.2.2.1 p hp
  obtain ⟨hk9, hc8, pk0, -⟩ := id hpk
  have hlast : cnt p - 1 < cnt p := by omega
  have hver := (hR.2.2.2.1 p (cnt p - 1) hp hlast).1
  have hsep := hX.2 p (cnt p - 1) hp hlast
  have htg0 := hR.2.2.2.2.2.2 p (cnt p - 1) hp hlast
  have hoth0 : ∀ r i, r < P → i < cnt r → VerAt H (vd r i) (vr (vd r i)) ∧ SepV H tg (vd r i) (vr (vd r i)) := fun r i hr hi => ⟨(hR.2.2.2.1 r i hr hi).1, hX.2 r i hr hi⟩
  obtain ⟨x119, xr, f1, g1, h5, h6, h7⟩ := id hver
  obtain ⟨f2, g2, a0, a1, a2, a3, a5, a7, e1, e2, e3⟩ := id hsep
  have e1' := e1
  rw [h5] at e1'
  have z := Option.some.inj e1'
  injection z with _ z
  injection z with _ z
  injection z with z0 z
  injection z with z1 z
  injection z with z2 z
  injection z with z3 z
  injection z with z4 z
  injection z with z5 z
  injection z with z6 z
  have ef := rvl_inj z4
  have eg := rvl_inj z6
  subst ef
  subst eg
  clear e1 e1'
  generalize hxd : vd p (cnt p - 1) = x at *
  have hlk : (vK (vr x)).length = 0 := by rw [hlen]; rfl
  refine Gq_s (pc' := 1) rfl rfl rfl ?_
  refine Gq_s (pc' := 2) rfl rfl rfl ?_
  refine Gq_callv1 (pc' := 5) (Y := xm43) (rest := []) (st' := [_]) (ce' := 0) (sl' := 0) rfl rfl rfl rfl rfl rfl rfl rfl rfl (t_pti n hR h86 hp) rfl (by first | assumption | exact upd_eq _ _ _ | ((repeat (refine (upd_ne _ _ (by omega)).trans ?_)); first | assumption | exact upd_eq _ _ _)) ?_
  refine Gq_s (pc' := 7) (lv' := [(0, _), (1, _), (2, _), (3, _), (4, _), (5, _), (6, _), (7, _)]) rfl rfl rfl ?_
  refine Gq_s (pc' := 8) rfl rfl rfl ?_
  refine Gq_s (pc' := 9) rfl rfl rfl ?_
  refine Gq_s (pc' := 10) rfl rfl rfl ?_
  refine Gq_callv1 (pc' := 13) (Y := xm45) (rest := []) (st' := []) (ce' := 0) (sl' := 0) rfl rfl rfl rfl rfl rfl rfl rfl rfl (t_reqOther n hR h86 hp hq hne) rfl (by first | assumption | exact upd_eq _ _ _ | ((repeat (refine (upd_ne _ _ (by omega)).trans ?_)); first | assumption | exact upd_eq _ _ _)) ?_
  refine Gq_s (pc' := 14) rfl rfl rfl ?_
  refine Gq_s (pc' := 16) rfl rfl rfl ?_
  refine Gq_s (pc' := 18) rfl rfl rfl ?_
  refine Gq_s (pc' := 20) rfl rfl rfl ?_
  refine Gq_calls1 (pc' := 23) (Y := xm48) (rest := []) (st' := []) (ce' := 0) (sl' := 0) rfl rfl rfl rfl rfl rfl rfl rfl rfl rfl (t_reqRange H n hk ha hb hc) rfl ?_
  refine Gq_s (pc' := 25) rfl rfl rfl ?_
  refine Gq_callv1 (pc' := 28) (Y := xm94) (rest := []) (st' := [_]) (ce' := 0) (sl' := 0) rfl rfl rfl rfl rfl rfl rfl rfl rfl (t_latest n hpk hcp) rfl (by first | assumption | exact upd_eq _ _ _ | ((repeat (refine (upd_ne _ _ (by omega)).trans ?_)); first | assumption | exact upd_eq _ _ _)) ?_
  rw [if_pos hlast, hxd]
  refine Gq_astv (pc' := 30) (lv' := [(0, _), (1, _), (2, _), (3, _), (4, _), (5, _), (6, _), (7, _), (8, _)]) (k := 8) rfl (fun _ _ => rfl) rfl rfl ?_
  refine Gq_s (pc' := 32) rfl rfl rfl ?_
  refine Gq_nul_r (pc' := 35) (t := 44) rfl rfl rfl ?_
  refine Gq_s (pc' := 37) rfl rfl rfl ?_
  refine Gq_get (pc' := 40) rfl rfl (by first | assumption | exact upd_eq _ _ _ | ((repeat (refine (upd_ne _ _ (by omega)).trans ?_)); first | assumption | exact upd_eq _ _ _)) (by exact rfl) ?_
  refine Gq_s (pc' := 41) rfl rfl rfl ?_
  refine Gq_clt (pc' := 44) (t := 54) rfl rfl rfl (by omega) (by omega) (fun _ => ?_) (fun hq => absurd (by omega) hq)
  refine Gq_new (pc' := 57) rfl rfl rfl rfl (by decide) (by decide) ?_
  refine Gq_s (pc' := 58) rfl rfl rfl ?_
  refine Gq_s (pc' := 59) rfl rfl rfl ?_
  refine Gq_s (pc' := 61) rfl rfl rfl ?_
  refine Gq_s (pc' := 63) rfl rfl rfl ?_
  refine Gq_s (pc' := 65) rfl rfl rfl ?_
  refine Gq_calls1 (pc' := 68) (Y := xm58) (rest := [_, _, _]) (st' := [_, _, _, _]) (ce' := 1) (sl' := 2) rfl rfl rfl rfl rfl rfl rfl rfl rfl rfl (t_markOf _ _ a b c) rfl ?_
  refine Gq_calls1 (pc' := 71) (Y := xm105) (rest := [_]) (st' := [_]) (ce' := 1) (sl' := 2) rfl rfl rfl rfl rfl rfl rfl rfl rfl rfl (t_rangeC _ hk hmk (upd_eq _ _ _)) rfl ?_
  rw [upd_upd]
  refine Gq_s (pc' := 73) (lv' := [(0, _), (1, _), (2, _), (3, _), (4, _), (5, _), (6, _), (7, _), (8, _), (9, _)]) rfl rfl rfl ?_
  refine Gq_s (pc' := 75) rfl rfl rfl ?_
  refine Gq_new (pc' := 78) rfl rfl rfl rfl (by decide) (by decide) ?_
  refine Gq_s (pc' := 79) rfl rfl rfl ?_
  refine Gq_s (pc' := 80) rfl rfl rfl ?_
  refine Gq_s (pc' := 81) rfl rfl rfl ?_
  refine Gq_s (pc' := 82) rfl rfl rfl ?_
  refine Gq_s (pc' := 84) rfl rfl rfl ?_
  refine Gq_calls1 (pc' := 87) (Y := xm89) (rest := [_, _]) (st' := [_, _]) (ce' := 2) (sl' := 7) rfl rfl rfl rfl rfl rfl rfl rfl rfl rfl (t_claimC (t := (q : Int)) (c := -1) (f := ((0 : Nat) : Int)) _ (upd_eq _ _ _)) rfl ?_
  rw [upd_upd]
  have hC : ClaimAt (hup (hup H n (false, 9, [.int (zI (fstF k (mkM a b c))), .int (zI (endF k (mkM a b c)))])) (n + 1) (false, 8, [.int (zI (q : Int)), .int (zI (-1)), .int (zI ((0 : Nat) : Int)), .ref n, .null])) (n + 1) (mkC q (-1) 0 k (mkM a b c)) (rvl none) := ⟨by omega, mkC_ok (by omega) (by omega) (by omega) hmk, n, by omega, by rw [upd_ne _ _ (by omega)]; exact upd_eq _ _ _, upd_eq _ _ _⟩
  have fr : ∀ o c0, H o = some c0 → (hup (hup H n (false, 9, [.int (zI (fstF k (mkM a b c))), .int (zI (endF k (mkM a b c)))])) (n + 1) (false, 8, [.int (zI (q : Int)), .int (zI (-1)), .int (zI ((0 : Nat) : Int)), .ref n, .null])) o = some c0 := fun o c0 hc0 => by
    have := Fr_lt hF hc0
    rw [upd_ne _ _ (by omega), upd_ne _ _ (by omega)]
    exact hc0
  have lo : ∀ o, o < 119 → (hup (hup H n (false, 9, [.int (zI (fstF k (mkM a b c))), .int (zI (endF k (mkM a b c)))])) (n + 1) (false, 8, [.int (zI (q : Int)), .int (zI (-1)), .int (zI ((0 : Nat) : Int)), .ref n, .null])) o = H o := fun o ho => by rw [upd_ne _ _ (by omega), upd_ne _ _ (by omega)]
  have vx := fr x _ h5
  show Gw S xm4 87 _ [.ref (n + 1), .ref x] (hup (hup H n (false, 9, [.int (zI (fstF k (mkM a b c))), .int (zI (endF k (mkM a b c)))])) (n + 1) (false, 8, [.int (zI (q : Int)), .int (zI (-1)), .int (zI ((0 : Nat) : Int)), .ref n, .null])) (n + 1 + 1) 2 7 _
  generalize (hup (hup H n (false, 9, [.int (zI (fstF k (mkM a b c))), .int (zI (endF k (mkM a b c)))])) (n + 1) (false, 8, [.int (zI (q : Int)), .int (zI (-1)), .int (zI ((0 : Nat) : Int)), .ref n, .null])) = H1 at hC fr lo vx
  have hxn : x < n := Fr_lt hF h5
  obtain ⟨c1, c2, r0, c3, c4, c5⟩ := id hC
  have hr0 : ¬ r0 = x := fun e => by rw [e, vx] at c4; cases c4
  have hno : ∀ o ci fs, H o = some (false, ci, fs) → ¬ ci = 10 → ¬ o = x := fun o ci fs hc0 h e => by
    rw [e, h5] at hc0
    cases hc0
    exact h rfl
  have hna : ∀ o ti vs, H o = some (true, ti, vs) → ¬ o = x := fun o ti vs hc0 e => by
    rw [e, h5] at hc0
    cases hc0
  have hg1 : g1 = none := by rw [hlen] at h7; exact h7
  subst hg1
  have vx0 : H1 x = some (false, 10, [.int (zI (vN (vr x) : Int)), .int (zI (vM (vr x))), .int (zI (vS (vr x))), .int (zI (bI (vW (vr x)))), rvl f1, .int (zI ((vQ (vr x)).length : Int)), .null, .int (zI 0)]) := by rw [vx, hlen]; rfl
  refine Gq_callv1 (pc' := 90) (Y := xm119) (rest := []) (st' := [_]) (ce' := 2) (sl' := 7) rfl rfl rfl rfl rfl rfl rfl rfl rfl (t_addClash0 _ vx0) rfl (by first | assumption | exact upd_eq _ _ _ | ((repeat (refine (upd_ne _ _ (by omega)).trans ?_)); first | assumption | exact upd_eq _ _ _)) ?_
  have gx : (hup H1 x (false, 10, [.int (zI (vN (vr x) : Int)), .int (zI (vM (vr x))), .int (zI (vS (vr x))), .int (zI (bI (vW (vr x)))), rvl f1, .int (zI ((vQ (vr x)).length : Int)), .ref (n + 1), .int (zI (0 + 1))])) x = some (false, 10, [.int (zI (vN (vr x) : Int)), .int (zI (vM (vr x))), .int (zI (vS (vr x))), .int (zI (bI (vW (vr x)))), rvl f1, .int (zI ((vQ (vr x)).length : Int)), .ref (n + 1), .int (zI (0 + 1))]) := upd_eq _ _ _
  have hkeep : ∀ o w0, ¬ o = x → H1 o = some w0 → (hup H1 x (false, 10, [.int (zI (vN (vr x) : Int)), .int (zI (vM (vr x))), .int (zI (vS (vr x))), .int (zI (bI (vW (vr x)))), rvl f1, .int (zI ((vQ (vr x)).length : Int)), .ref (n + 1), .int (zI (0 + 1))])) o = some w0 := fun o w0 h1 hc0 => by rw [upd_ne _ _ h1]; exact hc0
  have glo : ∀ o, o < 119 → (hup H1 x (false, 10, [.int (zI (vN (vr x) : Int)), .int (zI (vM (vr x))), .int (zI (vS (vr x))), .int (zI (bI (vW (vr x)))), rvl f1, .int (zI ((vQ (vr x)).length : Int)), .ref (n + 1), .int (zI (0 + 1))])) o = H o := fun o ho => by rw [upd_ne _ _ (by omega)]; exact lo o ho
  refine Gq_ret (v := some (.int (zI 0))) rfl rfl rfl ?_
  show _ ∧ _ ∧ AllB (hup H1 x (false, 10, [.int (zI (vN (vr x) : Int)), .int (zI (vM (vr x))), .int (zI (vS (vr x))), .int (zI (bI (vW (vr x)))), rvl f1, .int (zI ((vQ (vr x)).length : Int)), .ref (n + 1), .int (zI (0 + 1))])) P pid cnt vd gr (fset vr x (vAddK (vr x) (mkC q (-1) 0 k (mkM a b c)))) wl lk dk th pc pd kd pp pb cl cr dr lt fc ∧ RX (hup H1 x (false, 10, [.int (zI (vN (vr x) : Int)), .int (zI (vM (vr x))), .int (zI (vS (vr x))), .int (zI (bI (vW (vr x)))), rvl f1, .int (zI ((vQ (vr x)).length : Int)), .ref (n + 1), .int (zI (0 + 1))])) P pid cnt vd (fset vr x (vAddK (vr x) (mkC q (-1) 0 k (mkM a b c)))) (fset tg (n + 1) (2 * x + 1)) ∧ LF H (hup H1 x (false, 10, [.int (zI (vN (vr x) : Int)), .int (zI (vM (vr x))), .int (zI (vS (vr x))), .int (zI (bI (vW (vr x)))), rvl f1, .int (zI ((vQ (vr x)).length : Int)), .ref (n + 1), .int (zI (0 + 1))]))
  generalize (hup H1 x (false, 10, [.int (zI (vN (vr x) : Int)), .int (zI (vM (vr x))), .int (zI (vS (vr x))), .int (zI (bI (vW (vr x)))), rvl f1, .int (zI ((vQ (vr x)).length : Int)), .ref (n + 1), .int (zI (0 + 1))])) = G at gx hkeep glo
  have k9 : ∀ r fs, H r = some (false, 9, fs) → G r = some (false, 9, fs) := fun r fs hc0 => hkeep _ _ (hno r 9 fs hc0 (by decide)) (fr _ _ hc0)
  have k8 : ∀ id fs, H id = some (false, 8, fs) → G id = some (false, 8, fs) ∧ (fset tg (n + 1) (2 * x + 1)) id = tg id := fun id fs hc0 => ⟨hkeep _ _ (hno id 8 fs hc0 (by decide)) (fr _ _ hc0), fset_ne _ _ (by have := Fr_lt hF hc0; omega)⟩
  have hCG : ClaimAt G (n + 1) (mkC q (-1) 0 k (mkM a b c)) (rvl none) := ⟨c1, c2, r0, c3, hkeep _ _ hr0 c4, hkeep _ _ (by omega) c5⟩
  refine ⟨rfl, rfl, All_ver hA hX hp hlast hxd.symm glo (fun o ci fs _ h8 hc0 => hkeep _ _ (hno o ci fs hc0 (by omega)) (fr _ _ hc0)) (fun o ti vs _ hc0 => hkeep _ _ (hna o ti vs hc0) (fr _ _ hc0)) ⟨x119, xr, f1, some (n + 1), ?_, ?_, ?_⟩ rfl rfl htg0 ⟨f1, some (n + 1), _, _, _, _, _, _, gx, ?_, ?_⟩ (fun r i hr hi hne9 => Ver_keep (hoth0 r i hr hi).1 (hoth0 r i hr hi).2 (fun fs hc0 => hkeep _ _ hne9 (fr _ _ hc0)) (fun id fs _ hc0 => k8 id fs hc0) k9) (fun o a b c d nx hc0 => ⟨nx, (k8 o _ hc0).1⟩) k9⟩
  · rw [gx]
    show _ = some (false, 10, [.int (zI (vN (vr x) : Int)), .int (zI (vM (vr x))), .int (zI (vS (vr x))), .int (zI (bI (vW (vr x)))), rvl f1, .int (zI ((vQ (vr x)).length : Int)), .ref (n + 1), .int (zI ((vK (vr x) ++ [(mkC q (-1) 0 k (mkM a b c))]).length : Int))])
    rw [hlen]
    rfl
  · exact ChnAt_tag (fun id fs _ hc0 => (k8 id fs hc0).1) k9 h6 e2
  · show ChnAt G (some (n + 1)) (vK (vr x) ++ [(mkC q (-1) 0 k (mkM a b c))])
    rw [hlen]
    exact ⟨n + 1, none, rfl, hCG, rfl⟩
  · exact CnT_ty (fun id fs a hc0 => ⟨(k8 id fs hc0).1, (k8 id fs hc0).2.trans a⟩) e2
  · show CnT G (fset tg (n + 1) (2 * x + 1)) (2 * x + 1) (some (n + 1)) (vK (vr x) ++ [(mkC q (-1) 0 k (mkM a b c))])
    rw [hlen]
    obtain ⟨-, -, r9, -, -, h99⟩ := hCG
    exact ⟨n + 1, none, _, _, _, _, rfl, fset_eq _ _ _, h99, trivial⟩
end XKo
