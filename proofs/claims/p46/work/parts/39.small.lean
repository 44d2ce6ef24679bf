/-! small ones of the registry (printed by wip/p46/gen39.py) -/
section XKj
section
variable {S : ScT} {M : XM} {pc pc' : Nat} {lv : XL} {st : List Value} {H : HF} {n ce sl : Nat} {Q : XLf → Prop}
theorem Gq_ldc {k a : Nat} {tl : List Nat} (hr : yrow M pc = some (pc, .ldc k, 0, a :: tl)) (hp : pc + 2 = pc') (kk : Gw S M pc' lv (.int (zI (a : Int)) :: st) H n ce sl Q) : Gw S M pc lv st H n ce sl Q := Gq_s hr hp (lv' := lv) (st' := .int (zI (a : Int)) :: st) rfl kk
theorem Gq_tsw {dflt low high : Int} {offs : Array Int} {z : Int} {t : Nat} {aux : List Nat} (hr : yrow M pc = some (pc, .tableswitch dflt low high offs, 2, aux)) (hs : xsel pc dflt low high offs z = some t) (rz : -2147483648 ≤ z ∧ z < 2147483648) (kk : Gw S M t lv st H n ce sl Q) : Gw S M pc lv (.int (zI z) :: st) H n ce sl Q := by
  refine Gq_br (t := t) (st' := st) hr (fun h _ => ?_) kk
  show (match xsel pc dflt low high offs (zI z).toInt, some [] with
    | some t, some l => some ((t, st, ([] : XP)) :: l)
    | _, _ => none) = _
  rw [zI_toInt rz, hs]
end
theorem z_div {a b : Int} (ha : 0 ≤ a ∧ a < 2147483648) (hb : 0 < b ∧ b < 2147483648) : zI a / zI b = zI (a / b) := by
  have h1 := Int.ediv_nonneg ha.1 (show 0 ≤ b by omega)
  have h2 := Int.ediv_le_self b ha.1
  apply Int32.toInt_inj.mp
  rw [Int32.toInt_div, zI_toInt (by omega), zI_toInt (by omega), zI_toInt (by omega), Int.tdiv_eq_ediv_of_nonneg ha.1]
  exact Int.bmod_eq_of_le (by omega) (by omega)
def mkM (a b c : Int) : Int := a * 10000 + b * 100 + c
def fstF (k m : Int) : Int := if k = 0 ∨ k = 3 then 0 else m
def endF (k m : Int) : Int := if k = 1 then m + 1 else if k = 3 then m else if k = 4 then (if m < 10000 then (m / 100 + 1) * 100 else (m / 10000 + 1) * 10000) else if k = 5 then (m / 100 + 1) * 100 else 1000000
def nmOK (a : Int) : Prop := 0 ≤ a ∧ a < 100
theorem t_markOf {S : ScT} (H : HF) (n : Nat) (a b c : Int) : Rdt S 58 [.int (zI a), .int (zI b), .int (zI c)] H n (some (.int (zI (mkM a b c)))) H n := by
  refine Rm_of (M := xm58) (lv := [(0, _), (1, _), (2, _)]) rfl rfl rfl ?_
  refine Gq_s (pc' := 1) rfl rfl rfl ?_
  refine Gq_sipush (pc' := 4) rfl rfl (by decide) ?_
  refine Gq_imul (pc' := 5) rfl rfl ?_
  refine Gq_s (pc' := 6) rfl rfl rfl ?_
  refine Gq_bipush (pc' := 8) rfl rfl (by decide) ?_
  refine Gq_imul (pc' := 9) rfl rfl ?_
  refine Gq_iadd (pc' := 10) rfl rfl ?_
  refine Gq_s (pc' := 11) rfl rfl rfl ?_
  refine Gq_iadd (pc' := 12) rfl rfl ?_
  exact Gq_ret rfl rfl (rfl) (⟨rfl, rfl, rfl⟩)
theorem t_isNum {S : ScT} (H : HF) (n : Nat) {a : Int} (ha : nmOK a) : Rdt S 47 [.int (zI a)] H n (some (.int (zI (bI true)))) H n := by
  refine Rm_of (M := xm47) (lv := [(0, _)]) rfl rfl rfl ?_
  unfold nmOK at ha
  refine Gq_s (pc' := 1) rfl rfl rfl ?_
  refine Gq_zlt (pc' := 4) (t := 14) rfl rfl rfl (by omega) (fun hq => absurd hq (by omega)) (fun _ => ?_)
  refine Gq_s (pc' := 5) rfl rfl rfl ?_
  refine Gq_bipush (pc' := 7) rfl rfl (by decide) ?_
  refine Gq_cge (pc' := 10) (t := 14) rfl rfl rfl (by omega) (by omega) (fun hq => absurd hq (by omega)) (fun _ => ?_)
  refine Gq_s (pc' := 11) rfl rfl rfl ?_
  refine Gq_goto rfl (t := 15) rfl ?_
  exact Gq_ret rfl rfl (rfl) (⟨rfl, rfl, rfl⟩)
theorem t_reqNum {S : ScT} (H : HF) (n : Nat) {a b c : Int} (ha : nmOK a) (hb : nmOK b) (hc : nmOK c) : Rdt S 46 [.int (zI a), .int (zI b), .int (zI c)] H n none H n := by
  refine Rm_of (M := xm46) (lv := [(0, _), (1, _), (2, _)]) rfl rfl rfl ?_
  refine Gq_s (pc' := 1) rfl rfl rfl ?_
  refine Gq_calls1 (pc' := 4) (Y := xm47) (rest := []) (st' := [_]) (ce' := 0) (sl' := 0) rfl rfl rfl rfl rfl rfl rfl rfl rfl rfl (t_isNum H n ha) rfl ?_
  refine Gq_zeq (pc' := 7) (t := 21) rfl rfl rfl (by decide) (fun hq => absurd hq (fun q => absurd q (by decide))) (fun _ => ?_)
  refine Gq_s (pc' := 8) rfl rfl rfl ?_
  refine Gq_calls1 (pc' := 11) (Y := xm47) (rest := []) (st' := [_]) (ce' := 0) (sl' := 0) rfl rfl rfl rfl rfl rfl rfl rfl rfl rfl (t_isNum H n hb) rfl ?_
  refine Gq_zeq (pc' := 14) (t := 21) rfl rfl rfl (by decide) (fun hq => absurd hq (fun q => absurd q (by decide))) (fun _ => ?_)
  refine Gq_s (pc' := 15) rfl rfl rfl ?_
  refine Gq_calls1 (pc' := 18) (Y := xm47) (rest := []) (st' := [_]) (ce' := 0) (sl' := 0) rfl rfl rfl rfl rfl rfl rfl rfl rfl rfl (t_isNum H n hc) rfl ?_
  refine Gq_zne (pc' := 21) (t := 32) rfl rfl rfl (by decide) (fun _ => ?_) (fun hq => absurd (by decide) hq)
  exact Gq_ret rfl rfl (rfl) (⟨rfl, rfl, rfl⟩)
theorem t_reqFeat {S : ScT} (H : HF) (n : Nat) {f : Int} (hf : 0 ≤ f ∧ f ≤ 15) : Rdt S 49 [.int (zI f)] H n none H n := by
  refine Rm_of (M := xm49) (lv := [(0, _)]) rfl rfl rfl ?_
  refine Gq_s (pc' := 1) rfl rfl rfl ?_
  refine Gq_zlt (pc' := 4) (t := 10) rfl rfl rfl (by omega) (fun hq => absurd hq (by omega)) (fun _ => ?_)
  refine Gq_s (pc' := 5) rfl rfl rfl ?_
  refine Gq_bipush (pc' := 7) rfl rfl (by decide) ?_
  refine Gq_cle (pc' := 10) (t := 21) rfl rfl rfl (by omega) (by omega) (fun _ => ?_) (fun hq => absurd (by omega) hq)
  exact Gq_ret rfl rfl (rfl) (⟨rfl, rfl, rfl⟩)
theorem t_reqRange {S : ScT} (H : HF) (n : Nat) {k a b c : Int} (hk : 0 ≤ k ∧ k ≤ 5) (ha : nmOK a) (hb : nmOK b) (hc : nmOK c) : Rdt S 48 [.int (zI k), .int (zI a), .int (zI b), .int (zI c)] H n none H n := by
  refine Rm_of (M := xm48) (lv := [(0, _), (1, _), (2, _), (3, _)]) rfl rfl rfl ?_
  refine Gq_s (pc' := 1) rfl rfl rfl ?_
  refine Gq_zlt (pc' := 4) (t := 9) rfl rfl rfl (by omega) (fun hq => absurd hq (by omega)) (fun _ => ?_)
  refine Gq_s (pc' := 5) rfl rfl rfl ?_
  refine Gq_s (pc' := 6) rfl rfl rfl ?_
  refine Gq_cle (pc' := 9) (t := 20) rfl rfl rfl (by omega) (by omega) (fun _ => ?_) (fun hq => absurd (by omega) hq)
  refine Gq_s (pc' := 21) rfl rfl rfl ?_
  refine Gq_s (pc' := 22) rfl rfl rfl ?_
  refine Gq_s (pc' := 23) rfl rfl rfl ?_
  refine Gq_calls1 (pc' := 26) (Y := xm46) (rest := []) (st' := []) (ce' := 0) (sl' := 0) rfl rfl rfl rfl rfl rfl rfl rfl rfl rfl (t_reqNum H n ha hb hc) rfl ?_
  exact Gq_ret rfl rfl (rfl) (⟨rfl, rfl, rfl⟩)
theorem t_reqOther {S : ScT} {H : HF} (n : Nat) {p q : Nat} {P : Nat} {pid cnt : Nat → Nat} {vd gr : Nat → Nat → Nat} {vr : Nat → VR} {dr lt fc : Int} (hR : RG H P pid cnt vd gr vr) (h86 : H 86 = some (false, 7, pwF P dr lt fc)) (hp : p < P) (hq : q < P) (hne : ¬ p = q) : Rdt S 45 [.ref 86, .int (zI (p : Int)), .int (zI (q : Int))] H n none H n := by
  refine Rm_of (M := xm45) (lv := [(0, _), (1, _), (2, _)]) rfl rfl rfl ?_
  have hP := hR.1
  refine Gq_s (pc' := 1) rfl rfl rfl ?_
  refine Gq_s (pc' := 2) rfl rfl rfl ?_
  refine Gq_callv1 (pc' := 5) (Y := xm43) (rest := []) (st' := [_]) (ce' := 0) (sl' := 0) rfl rfl rfl rfl rfl rfl rfl rfl rfl (t_pti n hR h86 hq) rfl (by first | assumption | exact upd_eq _ _ _ | (refine (upd_ne _ _ (by omega)).trans ?_; first | assumption | exact upd_eq _ _ _ | (refine (upd_ne _ _ (by omega)).trans ?_; first | assumption | exact upd_eq _ _ _ | (refine (upd_ne _ _ (by omega)).trans ?_; first | assumption | exact upd_eq _ _ _)))) ?_
  refine Gq_s (pc' := 6) rfl rfl rfl ?_
  refine Gq_s (pc' := 7) rfl rfl rfl ?_
  refine Gq_s (pc' := 8) rfl rfl rfl ?_
  refine Gq_cne (pc' := 11) (t := 22) rfl rfl rfl (by omega) (by omega) (fun _ => ?_) (fun hq => absurd (by omega) hq)
  exact Gq_ret rfl rfl (rfl) (⟨rfl, rfl, rfl⟩)
theorem t_latest {S : ScT} {H : HF} (n : Nat) {k cnt : Nat} {vs gf : Nat → Option Nat} (hk : PkAt H k cnt vs gf) (hc : 0 < cnt) : Rdt S 94 [.ref k] H n (some (rvl (vs (cnt - 1)))) H n := by
  refine Rm_of (M := xm94) (lv := [(0, _)]) rfl rfl rfl ?_
  obtain ⟨hk9, hc8, h0, h1, h2⟩ := hk
  refine Gq_s (pc' := 1) rfl rfl rfl ?_
  refine Gq_get (pc' := 4) rfl rfl (by first | assumption | exact upd_eq _ _ _ | (refine (upd_ne _ _ (by omega)).trans ?_; first | assumption | exact upd_eq _ _ _ | (refine (upd_ne _ _ (by omega)).trans ?_; first | assumption | exact upd_eq _ _ _ | (refine (upd_ne _ _ (by omega)).trans ?_; first | assumption | exact upd_eq _ _ _)))) (by exact rfl) ?_
  refine Gq_zne (pc' := 7) (t := 11) rfl rfl rfl (by omega) (fun _ => ?_) (fun hq => absurd (by omega) hq)
  refine Gq_s (pc' := 12) rfl rfl rfl ?_
  refine Gq_get (pc' := 15) rfl rfl (by first | assumption | exact upd_eq _ _ _ | (refine (upd_ne _ _ (by omega)).trans ?_; first | assumption | exact upd_eq _ _ _ | (refine (upd_ne _ _ (by omega)).trans ?_; first | assumption | exact upd_eq _ _ _ | (refine (upd_ne _ _ (by omega)).trans ?_; first | assumption | exact upd_eq _ _ _)))) (by exact rfl) ?_
  refine Gq_s (pc' := 16) rfl rfl rfl ?_
  refine Gq_get (pc' := 19) rfl rfl (by first | assumption | exact upd_eq _ _ _ | (refine (upd_ne _ _ (by omega)).trans ?_; first | assumption | exact upd_eq _ _ _ | (refine (upd_ne _ _ (by omega)).trans ?_; first | assumption | exact upd_eq _ _ _ | (refine (upd_ne _ _ (by omega)).trans ?_; first | assumption | exact upd_eq _ _ _)))) (by exact rfl) ?_
  refine Gq_s (pc' := 20) rfl rfl rfl ?_
  refine Gq_isub (pc' := 21) rfl rfl ?_
  refine Gq_aald (pc' := 22) (j := cnt - 1) rfl rfl (by first | assumption | exact upd_eq _ _ _ | (refine (upd_ne _ _ (by omega)).trans ?_; first | assumption | exact upd_eq _ _ _ | (refine (upd_ne _ _ (by omega)).trans ?_; first | assumption | exact upd_eq _ _ _ | (refine (upd_ne _ _ (by omega)).trans ?_; first | assumption | exact upd_eq _ _ _)))) (by exact rfl) (by omega) (by omega) (by omega) (rfl) ?_
  exact Gq_ret rfl rfl (xret_o _ _) (⟨rfl, rfl, rfl⟩)
theorem t_hm_l {S : ScT} {H : HF} {n p : Nat} {mk : Int} {P : Nat} {pid cnt : Nat → Nat} {vd gr : Nat → Nat → Nat} {vr : Nat → VR} {dr lt fc : Int} (hR : RG H P pid cnt vd gr vr) (h86 : H 86 = some (false, 7, pwF P dr lt fc)) (hp : p < P) (hmk : 0 ≤ mk ∧ mk < 1000000) (hno : ∀ i, i < cnt p → ¬ vM (vr (vd p i)) = mk) : ∀ (k j : Nat), j + k = cnt p → Gw S xm92 2 [(0, .ref (pid p)), (1, .int (zI mk)), (2, .int (zI (j : Int)))] [] H n 0 0 (MQe xm92 (fun v G m => v = some (.int (zI (bI false))) ∧ G = H ∧ m = n)) := by
  obtain ⟨hk9, hc8, h0, h1, h2⟩ := hR.2.2.1 p hp
  intro k
  induction k with
  | zero =>
    intro j hj
    refine Gq_s (pc' := 3) rfl rfl rfl ?_
    refine Gq_s (pc' := 4) rfl rfl rfl ?_
    refine Gq_get (pc' := 7) rfl rfl (by first | assumption | exact upd_eq _ _ _ | (refine (upd_ne _ _ (by omega)).trans ?_; first | assumption | exact upd_eq _ _ _ | (refine (upd_ne _ _ (by omega)).trans ?_; first | assumption | exact upd_eq _ _ _ | (refine (upd_ne _ _ (by omega)).trans ?_; first | assumption | exact upd_eq _ _ _)))) (by exact rfl) ?_
    refine Gq_cge (pc' := 10) (t := 31) rfl rfl rfl (by omega) (by omega) (fun _ => ?_) (fun hq => absurd (by omega) hq)
    refine Gq_s (pc' := 32) rfl rfl rfl ?_
    exact Gq_ret rfl rfl (rfl) (⟨rfl, rfl, rfl⟩)
  | succ k ih =>
    intro j hj
    obtain ⟨-, ⟨-, hM, -⟩, f, g, h5, -⟩ := (hR.2.2.2.1 p j hp (by omega)).1
    have hne := hno j (by omega)
    refine Gq_s (pc' := 3) rfl rfl rfl ?_
    refine Gq_s (pc' := 4) rfl rfl rfl ?_
    refine Gq_get (pc' := 7) rfl rfl (by first | assumption | exact upd_eq _ _ _ | (refine (upd_ne _ _ (by omega)).trans ?_; first | assumption | exact upd_eq _ _ _ | (refine (upd_ne _ _ (by omega)).trans ?_; first | assumption | exact upd_eq _ _ _ | (refine (upd_ne _ _ (by omega)).trans ?_; first | assumption | exact upd_eq _ _ _)))) (by exact rfl) ?_
    refine Gq_cge (pc' := 10) (t := 31) rfl rfl rfl (by omega) (by omega) (fun hq => absurd hq (by omega)) (fun _ => ?_)
    refine Gq_s (pc' := 11) rfl rfl rfl ?_
    refine Gq_get (pc' := 14) rfl rfl (by first | assumption | exact upd_eq _ _ _ | (refine (upd_ne _ _ (by omega)).trans ?_; first | assumption | exact upd_eq _ _ _ | (refine (upd_ne _ _ (by omega)).trans ?_; first | assumption | exact upd_eq _ _ _ | (refine (upd_ne _ _ (by omega)).trans ?_; first | assumption | exact upd_eq _ _ _)))) (by exact rfl) ?_
    refine Gq_s (pc' := 15) rfl rfl rfl ?_
    refine Gq_aald (pc' := 16) rfl rfl (by first | assumption | exact upd_eq _ _ _ | (refine (upd_ne _ _ (by omega)).trans ?_; first | assumption | exact upd_eq _ _ _ | (refine (upd_ne _ _ (by omega)).trans ?_; first | assumption | exact upd_eq _ _ _ | (refine (upd_ne _ _ (by omega)).trans ?_; first | assumption | exact upd_eq _ _ _)))) (by exact rfl) (rfl) (by omega) (by omega) (rv_if (show j < cnt p by omega)) ?_
    refine Gq_get (pc' := 19) rfl rfl (by first | assumption | exact upd_eq _ _ _ | (refine (upd_ne _ _ (by omega)).trans ?_; first | assumption | exact upd_eq _ _ _ | (refine (upd_ne _ _ (by omega)).trans ?_; first | assumption | exact upd_eq _ _ _ | (refine (upd_ne _ _ (by omega)).trans ?_; first | assumption | exact upd_eq _ _ _)))) (by exact rfl) ?_
    refine Gq_s (pc' := 20) rfl rfl rfl ?_
    refine Gq_cne (pc' := 23) (t := 25) rfl rfl rfl (by omega) (by omega) (fun _ => ?_) (fun hq => absurd (by omega) hq)
    refine Gq_iinc (pc' := 28) (lv' := [(0, _), (1, _), (2, _)]) rfl rfl rfl rfl ?_
    refine Gq_goto rfl (t := 2) rfl ?_
    exact ih (j + 1) (by omega)
theorem t_hasMark {S : ScT} {H : HF} (n : Nat) {p : Nat} {mk : Int} {P : Nat} {pid cnt : Nat → Nat} {vd gr : Nat → Nat → Nat} {vr : Nat → VR} {dr lt fc : Int} (hR : RG H P pid cnt vd gr vr) (h86 : H 86 = some (false, 7, pwF P dr lt fc)) (hp : p < P) (hmk : 0 ≤ mk ∧ mk < 1000000) (hno : ∀ i, i < cnt p → ¬ vM (vr (vd p i)) = mk) : Rdt S 92 [.ref (pid p), .int (zI mk)] H n (some (.int (zI (bI false)))) H n := by
  refine Rm_of (M := xm92) (lv := [(0, _), (1, _)]) rfl rfl rfl ?_
  refine Gq_s (pc' := 1) rfl rfl rfl ?_
  refine Gq_s (pc' := 2) (lv' := [(0, _), (1, _), (2, _)]) rfl rfl rfl ?_
  exact t_hm_l hR h86 hp hmk hno (cnt p) 0 (by omega)
theorem t_endOf {S : ScT} (H : HF) (n : Nat) {k m : Int} (hk : 0 ≤ k ∧ k ≤ 5) (hm : 0 ≤ m ∧ m < 1000000) : Rdt S 106 [.int (zI k), .int (zI m)] H n (some (.int (zI (endF k m)))) H n := by
  refine Rm_of (M := xm106) (lv := [(0, _), (1, _)]) rfl rfl rfl ?_
  refine Gq_s (pc' := 1) rfl rfl rfl ?_
  refine Gq_bipush (pc' := 3) rfl rfl (by decide) ?_
  refine Gq_idiv (pc' := 4) (zI (m / 100)) rfl rfl (by decide) (z_div (by omega) (by omega)) ?_
  refine Gq_s (pc' := 5) rfl rfl rfl ?_
  refine Gq_iadd (pc' := 6) rfl rfl ?_
  refine Gq_bipush (pc' := 8) rfl rfl (by decide) ?_
  refine Gq_imul (pc' := 9) rfl rfl ?_
  refine Gq_s (pc' := 10) (lv' := [(0, _), (1, _), (2, _)]) rfl rfl rfl ?_
  refine Gq_s (pc' := 11) rfl rfl rfl ?_
  have hk6 : k = 0 ∨ k = 1 ∨ k = 2 ∨ k = 3 ∨ k = 4 ∨ k = 5 := by omega
  rcases hk6 with rfl | rfl | rfl | rfl | rfl | rfl
  · refine Gq_tsw (t := 75) rfl (by decide) (by decide) ?_
    refine Gq_ldc (pc' := 77) rfl rfl ?_
    exact Gq_ret rfl rfl (rfl) (⟨rfl, rfl, rfl⟩)
  · refine Gq_tsw (t := 44) rfl (by decide) (by decide) ?_
    refine Gq_s (pc' := 45) rfl rfl rfl ?_
    refine Gq_s (pc' := 46) rfl rfl rfl ?_
    refine Gq_iadd (pc' := 47) rfl rfl ?_
    exact Gq_ret rfl rfl (rfl) (⟨rfl, rfl, rfl⟩)
  · refine Gq_tsw (t := 75) rfl (by decide) (by decide) ?_
    refine Gq_ldc (pc' := 77) rfl rfl ?_
    exact Gq_ret rfl rfl (rfl) (⟨rfl, rfl, rfl⟩)
  · refine Gq_tsw (t := 48) rfl (by decide) (by decide) ?_
    refine Gq_s (pc' := 49) rfl rfl rfl ?_
    exact Gq_ret rfl rfl (rfl) (⟨rfl, rfl, rfl⟩)
  · refine Gq_tsw (t := 50) rfl (by decide) (by decide) ?_
    refine Gq_s (pc' := 51) rfl rfl rfl ?_
    refine Gq_sipush (pc' := 54) rfl rfl (by decide) ?_
    refine Gq_cge (pc' := 57) (t := 61) rfl rfl rfl (by omega) (by omega) (fun hb => ?_) (fun hb => ?_)
    · refine Gq_s (pc' := 62) rfl rfl rfl ?_
      refine Gq_sipush (pc' := 65) rfl rfl (by decide) ?_
      refine Gq_idiv (pc' := 66) (zI (m / 10000)) rfl rfl (by decide) (z_div (by omega) (by omega)) ?_
      refine Gq_s (pc' := 67) rfl rfl rfl ?_
      refine Gq_iadd (pc' := 68) rfl rfl ?_
      refine Gq_sipush (pc' := 71) rfl rfl (by decide) ?_
      refine Gq_imul (pc' := 72) rfl rfl ?_
      exact Gq_ret rfl rfl (rfl) (⟨by rw [show endF 4 m = (m / 10000 + 1) * 10000 from if_neg (by omega : ¬ m < 10000)], rfl, rfl⟩)
    · refine Gq_s (pc' := 58) rfl rfl rfl ?_
      refine Gq_goto rfl (t := 72) rfl ?_
      exact Gq_ret rfl rfl (rfl) (⟨by rw [show endF 4 m = (m / 100 + 1) * 100 from if_pos (by omega : m < 10000)], rfl, rfl⟩)
  · refine Gq_tsw (t := 73) rfl (by decide) (by decide) ?_
    refine Gq_s (pc' := 74) rfl rfl rfl ?_
    exact Gq_ret rfl rfl (rfl) (⟨rfl, rfl, rfl⟩)
theorem t_rangeC {S : ScT} {H : HF} (n : Nat) {r : Nat} {k m : Int} {a b : Value} (hk : 0 ≤ k ∧ k ≤ 5) (hm : 0 ≤ m ∧ m < 1000000) (h0 : H r = some (false, 9, [a, b])) : Rdt S 105 [.ref r, .int (zI k), .int (zI m)] H n none (hup H r (false, 9, [.int (zI (fstF k m)), .int (zI (endF k m))])) n := by
  refine Rm_of (M := xm105) (lv := [(0, _), (1, _), (2, _)]) rfl rfl rfl ?_
  refine Gq_s (pc' := 1) rfl rfl rfl ?_
  refine Gq_oinit (pc' := 4) rfl rfl rfl ?_
  refine Gq_s (pc' := 5) rfl rfl rfl ?_
  refine Gq_s (pc' := 6) rfl rfl rfl ?_
  have key : ∀ z : Int, z = fstF k m → Gw S xm105 19 [(0, .ref r), (1, .int (zI k)), (2, .int (zI m))] [.int (zI z), .ref r] H n 0 0 (MQe xm105 (fun w G q => w = none ∧ G = hup H r (false, 9, [.int (zI (fstF k m)), .int (zI (endF k m))]) ∧ q = n)) := by
    rintro z rfl
    refine Gq_put (pc' := 22) (fs' := [_, _]) rfl rfl (by first | assumption | exact upd_eq _ _ _ | (refine (upd_ne _ _ (by omega)).trans ?_; first | assumption | exact upd_eq _ _ _ | (refine (upd_ne _ _ (by omega)).trans ?_; first | assumption | exact upd_eq _ _ _ | (refine (upd_ne _ _ (by omega)).trans ?_; first | assumption | exact upd_eq _ _ _)))) (by exact rfl) (by first | rfl | exact xfit_bI _) (by exact rfl) ?_
    refine Gq_s (pc' := 23) rfl rfl rfl ?_
    refine Gq_s (pc' := 24) rfl rfl rfl ?_
    refine Gq_s (pc' := 25) rfl rfl rfl ?_
    refine Gq_calls1 (pc' := 28) (Y := xm106) (rest := [_]) (st' := [_, _]) (ce' := 0) (sl' := 0) rfl rfl rfl rfl rfl rfl rfl rfl rfl rfl (t_endOf _ n hk hm) rfl ?_
    refine Gq_put (pc' := 31) (fs' := [_, _]) rfl rfl (by first | assumption | exact upd_eq _ _ _ | (refine (upd_ne _ _ (by omega)).trans ?_; first | assumption | exact upd_eq _ _ _ | (refine (upd_ne _ _ (by omega)).trans ?_; first | assumption | exact upd_eq _ _ _ | (refine (upd_ne _ _ (by omega)).trans ?_; first | assumption | exact upd_eq _ _ _)))) (by exact rfl) (by first | rfl | exact xfit_bI _) (by exact rfl) ?_
    simp only [upd_upd]
    exact Gq_ret rfl rfl (rfl) (⟨rfl, rfl, rfl⟩)
  refine Gq_zeq (pc' := 9) (t := 14) rfl rfl rfl (by omega) (fun h1 => ?_) (fun h1 => ?_)
  · refine Gq_s (pc' := 15) rfl rfl rfl ?_
    refine Gq_goto rfl (t := 19) rfl ?_
    exact key 0 (by rw [fstF, if_pos (by omega)])
  · refine Gq_s (pc' := 10) rfl rfl rfl ?_
    refine Gq_s (pc' := 11) rfl rfl rfl ?_
    refine Gq_cne (pc' := 14) (t := 18) rfl rfl rfl (by omega) (by omega) (fun h2 => ?_) (fun h2 => ?_)
    · refine Gq_s (pc' := 19) rfl rfl rfl ?_
      exact key m (by rw [fstF, if_neg (by omega)])
    · refine Gq_s (pc' := 15) rfl rfl rfl ?_
      refine Gq_goto rfl (t := 19) rfl ?_
      exact key 0 (by rw [fstF, if_pos (by omega)])
theorem t_claimC {S : ScT} {H : HF} (n : Nat) {q r : Nat} {t c f : Int} {a b d e g : Value} (h0 : H q = some (false, 8, [a, b, d, e, g])) : Rdt S 89 [.ref q, .int (zI t), .int (zI c), .int (zI f), .ref r] H n none (hup H q (false, 8, [.int (zI t), .int (zI c), .int (zI f), .ref r, g])) n := by
  refine Rm_of (M := xm89) (lv := [(0, _), (1, _), (2, _), (3, _), (4, _)]) rfl rfl rfl ?_
  refine Gq_s (pc' := 1) rfl rfl rfl ?_
  refine Gq_oinit (pc' := 4) rfl rfl rfl ?_
  refine Gq_s (pc' := 5) rfl rfl rfl ?_
  refine Gq_s (pc' := 6) rfl rfl rfl ?_
  refine Gq_put (pc' := 9) (fs' := [_, _, _, _, _]) rfl rfl (by first | assumption | exact upd_eq _ _ _ | (refine (upd_ne _ _ (by omega)).trans ?_; first | assumption | exact upd_eq _ _ _ | (refine (upd_ne _ _ (by omega)).trans ?_; first | assumption | exact upd_eq _ _ _ | (refine (upd_ne _ _ (by omega)).trans ?_; first | assumption | exact upd_eq _ _ _)))) (by exact rfl) (by first | rfl | exact xfit_bI _) (by exact rfl) ?_
  refine Gq_s (pc' := 10) rfl rfl rfl ?_
  refine Gq_s (pc' := 11) rfl rfl rfl ?_
  refine Gq_put (pc' := 14) (fs' := [_, _, _, _, _]) rfl rfl (by first | assumption | exact upd_eq _ _ _ | (refine (upd_ne _ _ (by omega)).trans ?_; first | assumption | exact upd_eq _ _ _ | (refine (upd_ne _ _ (by omega)).trans ?_; first | assumption | exact upd_eq _ _ _ | (refine (upd_ne _ _ (by omega)).trans ?_; first | assumption | exact upd_eq _ _ _)))) (by exact rfl) (by first | rfl | exact xfit_bI _) (by exact rfl) ?_
  refine Gq_s (pc' := 15) rfl rfl rfl ?_
  refine Gq_s (pc' := 16) rfl rfl rfl ?_
  refine Gq_put (pc' := 19) (fs' := [_, _, _, _, _]) rfl rfl (by first | assumption | exact upd_eq _ _ _ | (refine (upd_ne _ _ (by omega)).trans ?_; first | assumption | exact upd_eq _ _ _ | (refine (upd_ne _ _ (by omega)).trans ?_; first | assumption | exact upd_eq _ _ _ | (refine (upd_ne _ _ (by omega)).trans ?_; first | assumption | exact upd_eq _ _ _)))) (by exact rfl) (by first | rfl | exact xfit_bI _) (by exact rfl) ?_
  refine Gq_s (pc' := 20) rfl rfl rfl ?_
  refine Gq_s (pc' := 22) rfl rfl rfl ?_
  refine Gq_put (pc' := 25) (fs' := [_, _, _, _, _]) rfl rfl (by first | assumption | exact upd_eq _ _ _ | (refine (upd_ne _ _ (by omega)).trans ?_; first | assumption | exact upd_eq _ _ _ | (refine (upd_ne _ _ (by omega)).trans ?_; first | assumption | exact upd_eq _ _ _ | (refine (upd_ne _ _ (by omega)).trans ?_; first | assumption | exact upd_eq _ _ _)))) (by exact rfl) (by first | rfl | exact xfit_bI _) (by exact rfl) ?_
  simp only [upd_upd]
  exact Gq_ret rfl rfl (rfl) (⟨rfl, rfl, rfl⟩)
theorem t_verC {S : ScT} {H : HF} (n : Nat) {q : Nat} {t c f : Int} {a b d e g h i j : Value} (h0 : H q = some (false, 10, [a, b, d, e, g, h, i, j])) : Rdt S 117 [.ref q, .int (zI t), .int (zI c), .int (zI f)] H n none (hup H q (false, 10, [.int (zI t), .int (zI c), .int (zI f), e, g, h, i, j])) n := by
  refine Rm_of (M := xm117) (lv := [(0, _), (1, _), (2, _), (3, _)]) rfl rfl rfl ?_
  refine Gq_s (pc' := 1) rfl rfl rfl ?_
  refine Gq_oinit (pc' := 4) rfl rfl rfl ?_
  refine Gq_s (pc' := 5) rfl rfl rfl ?_
  refine Gq_s (pc' := 6) rfl rfl rfl ?_
  refine Gq_put (pc' := 9) (fs' := [_, _, _, _, _, _, _, _]) rfl rfl (by first | assumption | exact upd_eq _ _ _ | (refine (upd_ne _ _ (by omega)).trans ?_; first | assumption | exact upd_eq _ _ _ | (refine (upd_ne _ _ (by omega)).trans ?_; first | assumption | exact upd_eq _ _ _ | (refine (upd_ne _ _ (by omega)).trans ?_; first | assumption | exact upd_eq _ _ _)))) (by exact rfl) (by first | rfl | exact xfit_bI _) (by exact rfl) ?_
  refine Gq_s (pc' := 10) rfl rfl rfl ?_
  refine Gq_s (pc' := 11) rfl rfl rfl ?_
  refine Gq_put (pc' := 14) (fs' := [_, _, _, _, _, _, _, _]) rfl rfl (by first | assumption | exact upd_eq _ _ _ | (refine (upd_ne _ _ (by omega)).trans ?_; first | assumption | exact upd_eq _ _ _ | (refine (upd_ne _ _ (by omega)).trans ?_; first | assumption | exact upd_eq _ _ _ | (refine (upd_ne _ _ (by omega)).trans ?_; first | assumption | exact upd_eq _ _ _)))) (by exact rfl) (by first | rfl | exact xfit_bI _) (by exact rfl) ?_
  refine Gq_s (pc' := 15) rfl rfl rfl ?_
  refine Gq_s (pc' := 16) rfl rfl rfl ?_
  refine Gq_put (pc' := 19) (fs' := [_, _, _, _, _, _, _, _]) rfl rfl (by first | assumption | exact upd_eq _ _ _ | (refine (upd_ne _ _ (by omega)).trans ?_; first | assumption | exact upd_eq _ _ _ | (refine (upd_ne _ _ (by omega)).trans ?_; first | assumption | exact upd_eq _ _ _ | (refine (upd_ne _ _ (by omega)).trans ?_; first | assumption | exact upd_eq _ _ _)))) (by exact rfl) (by first | rfl | exact xfit_bI _) (by exact rfl) ?_
  simp only [upd_upd]
  exact Gq_ret rfl rfl (rfl) (⟨rfl, rfl, rfl⟩)
theorem t_joined0 {S : ScT} (H : HF) (n : Nat) {q : Nat} : Rdt S 120 [.null, .ref q] H n (some (.ref q)) H n := by
  refine Rm_of (M := xm120) (lv := [(0, _), (1, _)]) rfl rfl rfl ?_
  refine Gq_s (pc' := 1) rfl rfl rfl ?_
  refine Gq_non_n (pc' := 4) (t := 6) rfl rfl rfl ?_
  refine Gq_s (pc' := 5) rfl rfl rfl ?_
  exact Gq_ret rfl rfl (rfl) (⟨rfl, rfl, rfl⟩)
theorem t_joined1 {S : ScT} {H : HF} (n : Nat) {x q : Nat} {a b c d : Value} (h0 : H x = some (false, 8, [a, b, c, d, .null])) : Rdt S 120 [.ref x, .ref q] H n (some (.ref x)) (hup H x (false, 8, [a, b, c, d, .ref q])) n := by
  refine Rm_of (M := xm120) (lv := [(0, _), (1, _)]) rfl rfl rfl ?_
  refine Gq_s (pc' := 1) rfl rfl rfl ?_
  refine Gq_non_r rfl (t := 6) rfl ?_
  refine Gq_s (pc' := 7) rfl rfl rfl ?_
  refine Gq_s (pc' := 8) (lv' := [(0, _), (1, _), (2, _)]) rfl rfl rfl ?_
  refine Gq_s (pc' := 9) rfl rfl rfl ?_
  refine Gq_get (pc' := 12) rfl rfl (by first | assumption | exact upd_eq _ _ _ | (refine (upd_ne _ _ (by omega)).trans ?_; first | assumption | exact upd_eq _ _ _ | (refine (upd_ne _ _ (by omega)).trans ?_; first | assumption | exact upd_eq _ _ _ | (refine (upd_ne _ _ (by omega)).trans ?_; first | assumption | exact upd_eq _ _ _)))) (by exact rfl) ?_
  refine Gq_nul_n rfl (t := 23) rfl ?_
  refine Gq_s (pc' := 24) rfl rfl rfl ?_
  refine Gq_s (pc' := 25) rfl rfl rfl ?_
  refine Gq_put (pc' := 28) (fs' := [_, _, _, _, _]) rfl rfl (by first | assumption | exact upd_eq _ _ _ | (refine (upd_ne _ _ (by omega)).trans ?_; first | assumption | exact upd_eq _ _ _ | (refine (upd_ne _ _ (by omega)).trans ?_; first | assumption | exact upd_eq _ _ _ | (refine (upd_ne _ _ (by omega)).trans ?_; first | assumption | exact upd_eq _ _ _)))) (by exact rfl) (by first | rfl | exact xfit_bI _) (by exact rfl) ?_
  refine Gq_s (pc' := 29) rfl rfl rfl ?_
  exact Gq_ret rfl rfl (rfl) (⟨rfl, rfl, rfl⟩)
theorem t_addNeed0 {S : ScT} {H : HF} (n : Nat) {x q : Nat} {nu ma sz wd g e : Value} {c : Int} (h0 : H x = some (false, 10, [nu, ma, sz, wd, .null, .int (zI c), g, e])) : Rdt S 118 [.ref x, .ref q] H n (some (.int (zI c))) (hup H x (false, 10, [nu, ma, sz, wd, .ref q, .int (zI (c + 1)), g, e])) n := by
  refine Rm_of (M := xm118) (lv := [(0, _), (1, _)]) rfl rfl rfl ?_
  refine Gq_s (pc' := 1) rfl rfl rfl ?_
  refine Gq_s (pc' := 2) rfl rfl rfl ?_
  refine Gq_get (pc' := 5) rfl rfl (by first | assumption | exact upd_eq _ _ _ | (refine (upd_ne _ _ (by omega)).trans ?_; first | assumption | exact upd_eq _ _ _ | (refine (upd_ne _ _ (by omega)).trans ?_; first | assumption | exact upd_eq _ _ _ | (refine (upd_ne _ _ (by omega)).trans ?_; first | assumption | exact upd_eq _ _ _)))) (by exact rfl) ?_
  refine Gq_s (pc' := 6) rfl rfl rfl ?_
  refine Gq_calls1 (pc' := 9) (Y := xm120) (rest := [_]) (st' := [_, _]) (ce' := 0) (sl' := 0) rfl rfl rfl rfl rfl rfl rfl rfl rfl rfl (t_joined0 H n) rfl ?_
  refine Gq_put (pc' := 12) (fs' := [_, _, _, _, _, _, _, _]) rfl rfl (by first | assumption | exact upd_eq _ _ _ | (refine (upd_ne _ _ (by omega)).trans ?_; first | assumption | exact upd_eq _ _ _ | (refine (upd_ne _ _ (by omega)).trans ?_; first | assumption | exact upd_eq _ _ _ | (refine (upd_ne _ _ (by omega)).trans ?_; first | assumption | exact upd_eq _ _ _)))) (by exact rfl) (by first | rfl | exact xfit_bI _) (by exact rfl) ?_
  refine Gq_s (pc' := 13) rfl rfl rfl ?_
  refine Gq_s (pc' := 14) rfl rfl rfl ?_
  refine Gq_get (pc' := 17) rfl rfl (by first | assumption | exact upd_eq _ _ _ | (refine (upd_ne _ _ (by omega)).trans ?_; first | assumption | exact upd_eq _ _ _ | (refine (upd_ne _ _ (by omega)).trans ?_; first | assumption | exact upd_eq _ _ _ | (refine (upd_ne _ _ (by omega)).trans ?_; first | assumption | exact upd_eq _ _ _)))) (by exact rfl) ?_
  refine Gq_s (pc' := 18) rfl rfl rfl ?_
  refine Gq_iadd (pc' := 19) rfl rfl ?_
  refine Gq_put (pc' := 22) (fs' := [_, _, _, _, _, _, _, _]) rfl rfl (by first | assumption | exact upd_eq _ _ _ | (refine (upd_ne _ _ (by omega)).trans ?_; first | assumption | exact upd_eq _ _ _ | (refine (upd_ne _ _ (by omega)).trans ?_; first | assumption | exact upd_eq _ _ _ | (refine (upd_ne _ _ (by omega)).trans ?_; first | assumption | exact upd_eq _ _ _)))) (by exact rfl) (by first | rfl | exact xfit_bI _) (by exact rfl) ?_
  refine Gq_s (pc' := 23) rfl rfl rfl ?_
  refine Gq_get (pc' := 26) rfl rfl (by first | assumption | exact upd_eq _ _ _ | (refine (upd_ne _ _ (by omega)).trans ?_; first | assumption | exact upd_eq _ _ _ | (refine (upd_ne _ _ (by omega)).trans ?_; first | assumption | exact upd_eq _ _ _ | (refine (upd_ne _ _ (by omega)).trans ?_; first | assumption | exact upd_eq _ _ _)))) (by exact rfl) ?_
  refine Gq_s (pc' := 27) rfl rfl rfl ?_
  refine Gq_isub (pc' := 28) rfl rfl ?_
  simp only [upd_upd]
  rw [show c + 1 - 1 = c by omega]
  exact Gq_ret rfl rfl (rfl) (⟨rfl, rfl, rfl⟩)
theorem t_addNeed1 {S : ScT} {H : HF} (n : Nat) {x y q : Nat} {nu ma sz wd g e k0 k1 k2 k3 : Value} {c : Int} (hxy : ¬ x = y) (h0 : H x = some (false, 10, [nu, ma, sz, wd, .ref y, .int (zI c), g, e])) (h1 : H y = some (false, 8, [k0, k1, k2, k3, .null])) : Rdt S 118 [.ref x, .ref q] H n (some (.int (zI c))) (hup (hup H y (false, 8, [k0, k1, k2, k3, .ref q])) x (false, 10, [nu, ma, sz, wd, .ref y, .int (zI (c + 1)), g, e])) n := by
  refine Rm_of (M := xm118) (lv := [(0, _), (1, _)]) rfl rfl rfl ?_
  refine Gq_s (pc' := 1) rfl rfl rfl ?_
  refine Gq_s (pc' := 2) rfl rfl rfl ?_
  refine Gq_get (pc' := 5) rfl rfl (by first | assumption | exact upd_eq _ _ _ | (refine (upd_ne _ _ (by omega)).trans ?_; first | assumption | exact upd_eq _ _ _ | (refine (upd_ne _ _ (by omega)).trans ?_; first | assumption | exact upd_eq _ _ _ | (refine (upd_ne _ _ (by omega)).trans ?_; first | assumption | exact upd_eq _ _ _)))) (by exact rfl) ?_
  refine Gq_s (pc' := 6) rfl rfl rfl ?_
  refine Gq_calls1 (pc' := 9) (Y := xm120) (rest := [_]) (st' := [_, _]) (ce' := 0) (sl' := 0) rfl rfl rfl rfl rfl rfl rfl rfl rfl rfl (t_joined1 n h1) rfl ?_
  refine Gq_put (pc' := 12) (fs' := [_, _, _, _, _, _, _, _]) rfl rfl (by first | assumption | exact upd_eq _ _ _ | (refine (upd_ne _ _ (by omega)).trans ?_; first | assumption | exact upd_eq _ _ _ | (refine (upd_ne _ _ (by omega)).trans ?_; first | assumption | exact upd_eq _ _ _ | (refine (upd_ne _ _ (by omega)).trans ?_; first | assumption | exact upd_eq _ _ _)))) (by exact rfl) (by first | rfl | exact xfit_bI _) (by exact rfl) ?_
  refine Gq_s (pc' := 13) rfl rfl rfl ?_
  refine Gq_s (pc' := 14) rfl rfl rfl ?_
  refine Gq_get (pc' := 17) rfl rfl (by first | assumption | exact upd_eq _ _ _ | (refine (upd_ne _ _ (by omega)).trans ?_; first | assumption | exact upd_eq _ _ _ | (refine (upd_ne _ _ (by omega)).trans ?_; first | assumption | exact upd_eq _ _ _ | (refine (upd_ne _ _ (by omega)).trans ?_; first | assumption | exact upd_eq _ _ _)))) (by exact rfl) ?_
  refine Gq_s (pc' := 18) rfl rfl rfl ?_
  refine Gq_iadd (pc' := 19) rfl rfl ?_
  refine Gq_put (pc' := 22) (fs' := [_, _, _, _, _, _, _, _]) rfl rfl (by first | assumption | exact upd_eq _ _ _ | (refine (upd_ne _ _ (by omega)).trans ?_; first | assumption | exact upd_eq _ _ _ | (refine (upd_ne _ _ (by omega)).trans ?_; first | assumption | exact upd_eq _ _ _ | (refine (upd_ne _ _ (by omega)).trans ?_; first | assumption | exact upd_eq _ _ _)))) (by exact rfl) (by first | rfl | exact xfit_bI _) (by exact rfl) ?_
  refine Gq_s (pc' := 23) rfl rfl rfl ?_
  refine Gq_get (pc' := 26) rfl rfl (by first | assumption | exact upd_eq _ _ _ | (refine (upd_ne _ _ (by omega)).trans ?_; first | assumption | exact upd_eq _ _ _ | (refine (upd_ne _ _ (by omega)).trans ?_; first | assumption | exact upd_eq _ _ _ | (refine (upd_ne _ _ (by omega)).trans ?_; first | assumption | exact upd_eq _ _ _)))) (by exact rfl) ?_
  refine Gq_s (pc' := 27) rfl rfl rfl ?_
  refine Gq_isub (pc' := 28) rfl rfl ?_
  simp only [upd_upd]
  rw [show c + 1 - 1 = c by omega]
  exact Gq_ret rfl rfl (rfl) (⟨rfl, rfl, rfl⟩)
theorem t_addClash0 {S : ScT} {H : HF} (n : Nat) {x q : Nat} {nu ma sz wd f e : Value} {c : Int} (h0 : H x = some (false, 10, [nu, ma, sz, wd, f, e, .null, .int (zI c)])) : Rdt S 119 [.ref x, .ref q] H n (some (.int (zI c))) (hup H x (false, 10, [nu, ma, sz, wd, f, e, .ref q, .int (zI (c + 1))])) n := by
  refine Rm_of (M := xm119) (lv := [(0, _), (1, _)]) rfl rfl rfl ?_
  refine Gq_s (pc' := 1) rfl rfl rfl ?_
  refine Gq_s (pc' := 2) rfl rfl rfl ?_
  refine Gq_get (pc' := 5) rfl rfl (by first | assumption | exact upd_eq _ _ _ | (refine (upd_ne _ _ (by omega)).trans ?_; first | assumption | exact upd_eq _ _ _ | (refine (upd_ne _ _ (by omega)).trans ?_; first | assumption | exact upd_eq _ _ _ | (refine (upd_ne _ _ (by omega)).trans ?_; first | assumption | exact upd_eq _ _ _)))) (by exact rfl) ?_
  refine Gq_s (pc' := 6) rfl rfl rfl ?_
  refine Gq_calls1 (pc' := 9) (Y := xm120) (rest := [_]) (st' := [_, _]) (ce' := 0) (sl' := 0) rfl rfl rfl rfl rfl rfl rfl rfl rfl rfl (t_joined0 H n) rfl ?_
  refine Gq_put (pc' := 12) (fs' := [_, _, _, _, _, _, _, _]) rfl rfl (by first | assumption | exact upd_eq _ _ _ | (refine (upd_ne _ _ (by omega)).trans ?_; first | assumption | exact upd_eq _ _ _ | (refine (upd_ne _ _ (by omega)).trans ?_; first | assumption | exact upd_eq _ _ _ | (refine (upd_ne _ _ (by omega)).trans ?_; first | assumption | exact upd_eq _ _ _)))) (by exact rfl) (by first | rfl | exact xfit_bI _) (by exact rfl) ?_
  refine Gq_s (pc' := 13) rfl rfl rfl ?_
  refine Gq_s (pc' := 14) rfl rfl rfl ?_
  refine Gq_get (pc' := 17) rfl rfl (by first | assumption | exact upd_eq _ _ _ | (refine (upd_ne _ _ (by omega)).trans ?_; first | assumption | exact upd_eq _ _ _ | (refine (upd_ne _ _ (by omega)).trans ?_; first | assumption | exact upd_eq _ _ _ | (refine (upd_ne _ _ (by omega)).trans ?_; first | assumption | exact upd_eq _ _ _)))) (by exact rfl) ?_
  refine Gq_s (pc' := 18) rfl rfl rfl ?_
  refine Gq_iadd (pc' := 19) rfl rfl ?_
  refine Gq_put (pc' := 22) (fs' := [_, _, _, _, _, _, _, _]) rfl rfl (by first | assumption | exact upd_eq _ _ _ | (refine (upd_ne _ _ (by omega)).trans ?_; first | assumption | exact upd_eq _ _ _ | (refine (upd_ne _ _ (by omega)).trans ?_; first | assumption | exact upd_eq _ _ _ | (refine (upd_ne _ _ (by omega)).trans ?_; first | assumption | exact upd_eq _ _ _)))) (by exact rfl) (by first | rfl | exact xfit_bI _) (by exact rfl) ?_
  refine Gq_s (pc' := 23) rfl rfl rfl ?_
  refine Gq_get (pc' := 26) rfl rfl (by first | assumption | exact upd_eq _ _ _ | (refine (upd_ne _ _ (by omega)).trans ?_; first | assumption | exact upd_eq _ _ _ | (refine (upd_ne _ _ (by omega)).trans ?_; first | assumption | exact upd_eq _ _ _ | (refine (upd_ne _ _ (by omega)).trans ?_; first | assumption | exact upd_eq _ _ _)))) (by exact rfl) ?_
  refine Gq_s (pc' := 27) rfl rfl rfl ?_
  refine Gq_isub (pc' := 28) rfl rfl ?_
  simp only [upd_upd]
  rw [show c + 1 - 1 = c by omega]
  exact Gq_ret rfl rfl (rfl) (⟨rfl, rfl, rfl⟩)
end XKj
