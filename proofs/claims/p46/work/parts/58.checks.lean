/-! what the law's checks rest on (printed by wip/p46/gen58.py) -/
section XKF
/-! chains -/
theorem ch_end (t : CS) (p : Nat) : lkAt t p (t.1 p) = -1 := if_neg (Nat.lt_irrefl _)
theorem ch_no {t : CS} {p : Nat} (h : t.1 p = 0) : lkAt t p 0 = -1 := if_neg (by omega)
theorem ch_yes {t : CS} {p : Nat} (h : 0 < t.1 p) : 0 ≤ lkAt t p 0 := by
  unfold lkAt
  rw [if_pos h]
  omega
theorem ch_last {t : CS} {p : Nat} (h : 0 < t.1 p) : lkAt t p (t.1 p - 1) = (p : Int) := by
  unfold lkAt
  rw [if_pos (by omega), show t.1 p - 1 - (t.1 p - 1) = 0 by omega]
  rfl
theorem ch_first {ch : Nat → Option Nat} {wl : List CR} {t : CS} {p : Nat} (hI : CInv ch (Wsd wl) t) (h : 0 < t.1 p) : ∃ c ∈ wl, lkAt t p 0 = (cT c : Int) := by
  have e := bk_len hI (t.1 p - 1) p 0 (by omega)
  unfold lkAt
  rw [if_pos h, show t.1 p - 1 - 0 = t.1 p - 1 by omega]
  generalize bk t.2.1 (t.1 p - 1) p = q at e ⊢
  rcases hI.2.2.2 q (by omega) with h1 | ⟨r, -, h2, h3⟩
  · obtain ⟨c, hc, h4⟩ := h1.2
    exact ⟨c, hc, by rw [h4]⟩
  · omega
theorem lkAt_b {ch : Nat → Option Nat} {wl : List CR} {t : CS} {p i : Nat} (hI : CInv ch (Wsd wl) t) : -1 ≤ lkAt t p i ∧ lkAt t p i < 12 := by
  unfold lkAt
  by_cases h : i < t.1 p
  · rw [if_pos h]
    have e := bk_len hI (t.1 p - 1 - i) p i (by omega)
    have := (hI.1 _ (show 0 < t.1 (bk t.2.1 (t.1 p - 1 - i) p) by omega)).1
    omega
  · rw [if_neg h]
    omega
/-! a newer version -/
theorem ord_mk {f g : Nat → Int} (hf : ∀ j, j < 3 → 0 ≤ f j ∧ f j ≤ 2) (hg : ∀ j, j < 3 → 0 ≤ g j ∧ g j ≤ 2) (h : mkM (g 0) (g 1) (g 2) < mkM (f 0) (f 1) (f 2)) : ordR f g 3 0 = 1 := by
  have f0 := hf 0 (by omega)
  have f1 := hf 1 (by omega)
  have f2 := hf 2 (by omega)
  have g0 := hg 0 (by omega)
  have g1 := hg 1 (by omega)
  have g2 := hg 2 (by omega)
  unfold mkM at h
  show (if f 0 = g 0 then (if f 1 = g 1 then (if f 2 = g 2 then 0 else if f 2 < g 2 then -1 else 1) else if f 1 < g 1 then -1 else 1) else if f 0 < g 0 then -1 else 1) = (1 : Int)
  by_cases e0 : f 0 = g 0
  · rw [if_pos e0]
    by_cases e1 : f 1 = g 1
    · rw [if_pos e1, if_neg (by omega), if_neg (by omega)]
    · rw [if_neg e1, if_neg (by omega)]
  · rw [if_neg e0, if_neg (by omega)]
theorem nw_ok {H : HF} {P : Nat} {pid cnt : Nat → Nat} {vd gr : Nat → Nat → Nat} {vr : Nat → VR} {siz : Nat → Nat → Int} {wdr : Nat → Nat → Bool} {num : Nat → Nat → Nat → Int} {nd kd : Nat → Nat → List NR} {ws : List NR} {wl : List CR} {lk : Nat → Option Nat} {p : Nat} (hR : RG H P pid cnt vd gr vr) (hK : Lnk P cnt vd vr siz wdr num nd kd ws wl) (hL : ∀ q o, lk q = some o → Own P cnt vd q o) (hp : p < P) : newF vr (gOff vr (gr p) (cnt p) 0) (lk p) = -1 ∨ ∃ i j, i < cnt p ∧ j < cnt p ∧ newF vr (gOff vr (gr p) (cnt p) 0) (lk p) = (i : Int) ∧ nmOf vr (lk p) = (j : Int) ∧ wdr p i = false ∧ ordR (num p i) (num p j) 3 0 = 1 := by
  obtain ⟨hP12, -, -, hV, hgr, -⟩ := id hR
  obtain ⟨⟨hP2, hP6⟩, hcnt, hvr, -, hkk, hnm, hsz⟩ := id hK
  cases hg : gOff vr (gr p) (cnt p) 0 with
  | none => exact .inl rfl
  | some g =>
    cases hl : lk p with
    | none => exact .inl rfl
    | some o =>
      by_cases hm : vM (vr o) < vM (vr g)
      · obtain ⟨i0, -, hi0, e1, hwd⟩ := gOff_in hg
        obtain ⟨i, hi, e2⟩ := hgr p i0 hp (by omega)
        obtain ⟨-, j, hj, e3⟩ := hL p o hl
        rw [e2] at e1
        subst e1
        subst e3
        have ni : vN (vr (vd p i)) = i := (hV p i hp hi).2
        have nj : vN (vr (vd p j)) = j := (hV p j hp hj).2
        have vi := hvr p i hp hi
        have vj := hvr p j hp hj
        refine .inr ⟨i, j, hi, hj, ?_, ?_, ?_, ?_⟩
        · show (if vM (vr (vd p j)) < vM (vr (vd p i)) then (vN (vr (vd p i)) : Int) else -1) = _
          rw [if_pos hm, ni]
        · show (vN (vr (vd p j)) : Int) = _
          rw [nj]
        · rw [vi] at hwd
          exact hwd
        · rw [vi, vj] at hm
          exact ord_mk (fun x hx => hnm p i x hp hi hx) (fun x hx => hnm p j x hp hj hx) hm
      · left
        show (if vM (vr o) < vM (vr g) then (vN (vr g) : Int) else -1) = -1
        rw [if_neg hm]
/-! the room that a plan takes -/
theorem not_take {sl : List Nat} {i q : Nat} (h : sl.Nodup) (hq : sl[i]? = some q) : ¬ q ∈ sl.take i := fun hm => by
  obtain ⟨j, hj⟩ := List.getElem?_of_mem hm
  have hji : j < i := by
    have := (List.getElem?_eq_some_iff.mp hj).1
    rw [List.length_take] at this
    omega
  rw [List.getElem?_take_of_lt hji] at hj
  have h1 := (List.getElem?_eq_some_iff.mp hj).1
  have := (List.getElem?_inj h1 h).mp (hj.trans hq.symm)
  omega
def sS (vr : Nat → VR) (sl : List Nat) (lk dk : Nat → Option Nat) (i : Nat) : Int := sumTo (fun p => szOf vr (dkS sl lk dk i p)) 12
theorem sS_0 (vr : Nat → VR) (sl : List Nat) (lk dk : Nat → Option Nat) : sS vr sl lk dk 0 = sumTo (fun p => szOf vr (dk p)) 12 := by
  unfold sS
  rw [dkS_0]
theorem sS_s {vr : Nat → VR} {sl : List Nat} {lk dk : Nat → Option Nat} {i q : Nat} (hsl : RwOK sl) (hq : sl[i]? = some q) : sS vr sl lk dk (i + 1) = sS vr sl lk dk i + (szOf vr (lk q) - szOf vr (dk q)) := by
  have h12 := hsl.2 _ (List.mem_of_getElem? hq)
  have e : dkS sl lk dk i q = dk q := if_neg (not_take hsl.1 hq)
  unfold sS
  rw [dkS_s hq, sz_fset h12, e]
  omega
theorem rn_all {vr : Nat → VR} {sl : List Nat} {lk dk : Nat → Option Nat} {pp : Nat → Nat} {pb : Nat → Option Nat} (hS : StI sl pp pb dk) (hsl : RwOK sl) {B : Int} (hB : ∀ j, j ≤ sl.length → sS vr sl lk dk j ≤ B) : ∀ (k i : Nat) (g : Int), i + k = sl.length → g ≤ B → g ≤ rnR vr lk dk pp k i (sS vr sl lk dk i) g ∧ rnR vr lk dk pp k i (sS vr sl lk dk i) g ≤ B ∧ ∀ j, i < j → j ≤ sl.length → sS vr sl lk dk j ≤ rnR vr lk dk pp k i (sS vr sl lk dk i) g
  | 0, i, g, hi, hg => ⟨Int.le_refl _, hg, fun j h1 h2 => absurd h1 (by omega)⟩
  | k + 1, i, g, hi, hg => by
    have hq : sl[i]? = some sl[i] := List.getElem?_eq_getElem (by omega)
    have e1 := (hS i _ hq).1
    have e2 := sS_s (vr := vr) (lk := lk) (dk := dk) hsl hq
    rw [← e1] at e2
    unfold rnR
    rw [← e2]
    obtain ⟨h1, h2, h3⟩ := rn_all hS hsl hB k (i + 1) (max g (sS vr sl lk dk (i + 1))) (by omega) (by have := hB (i + 1) (by omega); omega)
    refine ⟨by omega, h2, fun j hj hj2 => ?_⟩
    by_cases e : j = i + 1
    · rw [e]; omega
    · exact h3 j (by omega) hj2
theorem dkS_all {sl : List Nat} {lk dk : Nat → Option Nat} (h : ∀ p, p ∈ sl ↔ p < 12 ∧ ¬ dk p = lk p) {p : Nat} (hp : p < 12) : dkS sl lk dk sl.length p = lk p := by
  unfold dkS
  rw [List.take_length]
  by_cases e : p ∈ sl
  · rw [if_pos e]
  · rw [if_neg e]
    rcases Classical.em (dk p = lk p) with h1 | h1
    · exact h1
    · exact absurd ((h p).mpr ⟨hp, h1⟩) e
theorem diffs_all {sl : List Nat} {lk dk : Nat → Option Nat} (h : ∀ p, p ∈ sl ↔ p < 12 ∧ ¬ dk p = lk p) : diffs lk (dkS sl lk dk sl.length) = 0 := cnt_zero 12 fun p hp => decide_eq_false fun a => a (dkS_all h hp).symm
/-! the sum of the law -/
theorem sum_hi {f : Nat → Int} {P : Nat} : ∀ k, (∀ p, P ≤ p → f p = 0) → sumTo f (P + k) = sumTo f P
  | 0, _ => rfl
  | k + 1, h => by
    show sumTo f (P + k) + f (P + k) = _
    rw [sum_hi k h, h _ (by omega)]
    omega
theorem sum_lk {vr : Nat → VR} {P : Nat} {cnt : Nat → Nat} {vd : Nat → Nat → Nat} {sl : List Nat} {lk dk : Nat → Option Nat} (hP : P ≤ 12) (hL : ∀ q o, lk q = some o → Own P cnt vd q o) (h : ∀ p, p ∈ sl ↔ p < 12 ∧ ¬ dk p = lk p) : sumTo (fun p => szOf vr (dkS sl lk dk sl.length p)) 12 = sumTo (fun p => szOf vr (lk p)) P := by
  rw [sum_ext 12 (g := fun p => szOf vr (lk p)) (fun j hj => by rw [dkS_all h hj]), show 12 = P + (12 - P) by omega]
  refine sum_hi _ (fun p hp => ?_)
  cases hl : lk p with
  | none => rfl
  | some x => exact absurd (hL p x hl).1 (by omega)
/-- what is locked, in the law's numbers -/
theorem lk_num {H : HF} {P : Nat} {pid cnt : Nat → Nat} {vd gr : Nat → Nat → Nat} {vr : Nat → VR} {siz : Nat → Nat → Int} {wdr : Nat → Nat → Bool} {num : Nat → Nat → Nat → Int} {nd kd : Nat → Nat → List NR} {ws : List NR} {wl : List CR} {lk : Nat → Option Nat} {p : Nat} (hR : RG H P pid cnt vd gr vr) (hK : Lnk P cnt vd vr siz wdr num nd kd ws wl) (hL : ∀ q o, lk q = some o → Own P cnt vd q o) (hp : p < P) : (nmOf vr (lk p) = -1 ∧ szOf vr (lk p) = 0) ∨ ∃ j, j < cnt p ∧ nmOf vr (lk p) = (j : Int) ∧ szOf vr (lk p) = siz p j ∧ 1 ≤ siz p j ∧ siz p j ≤ 300 := by
  obtain ⟨-, -, -, hV, -⟩ := id hR
  obtain ⟨-, hcnt, hvr, -, hkk, hnm, hsz⟩ := id hK
  cases hl : lk p with
  | none => exact .inl ⟨rfl, rfl⟩
  | some o =>
    obtain ⟨-, j, hj, rfl⟩ := hL p o hl
    refine .inr ⟨j, hj, ?_, ?_, (hsz p j hp hj).1, (hsz p j hp hj).2⟩
    · show (vN (vr (vd p j)) : Int) = _
      rw [(hV p j hp hj).2]
    · show vS (vr (vd p j)) = _
      rw [hvr p j hp hj]
      rfl
theorem t_run2 {S : ScT} {H : HF} (n : Nat) {z : Int} {pd : Nat} {fc : Int} {cl : List Nat} {P : Nat} {pid cnt : Nat → Nat} {vd gr : Nat → Nat → Nat} {vr : Nat → VR} {dr lt : Int} {lk dk : Nat → Option Nat} (hL : ∀ q o, lk q = some o → Own P cnt vd q o) (hD : ∀ q o, dk q = some o → Own P cnt vd q o) {sl : List Nat} {kd : Nat → Int} {pp : Nat → Nat} {pb : Nat → Option Nat} (hS : StI sl pp pb dk) (hsl : RwOK sl) {cr : Int} (hcr : 0 ≤ cr ∧ cr ≤ 20000) (hdr : 0 ≤ dr ∧ dr ≤ 20000) (hroom : ∀ i, i ≤ sl.length → sumTo (fun p => szOf vr (dkS sl lk dk i p)) 12 ≤ dr) (hz : 0 ≤ z ∧ z ≤ 1000) (hpd : pd ≤ sl.length) (hR : RG H P pid cnt vd gr vr) (h86 : H 86 = some (false, 7, pwF P dr lt fc)) (L0 : H 90 = some (false, 2, [.ref 91, .ref 92])) (L1 : H 91 = some (true, 3, aR 12 lk)) (D0 : H 93 = some (false, 2, [.ref 94, .ref 95])) (D1 : H 94 = some (true, 3, aR 12 (dkS sl lk dk pd))) (hP : PlAt H true sl.length pd kd pp pb) (hCa : CaAt H 115 cl cr vr (VV P cnt vd)) : Rmt S 30 [.ref 86, .int (zI z)] H n (fun v G m => v = some (.int (zI ((pd + min z.toNat (sl.length - pd) : Nat) : Int))) ∧ m = n ∧ G 94 = some (true, 3, aR 12 (dkS sl lk dk (pd + min z.toNat (sl.length - pd)))) ∧ PlAt G true sl.length (pd + min z.toNat (sl.length - pd)) kd pp pb ∧ (∃ cl2 fc2, CaAt G 115 cl2 cr vr (VV P cnt vd) ∧ (usd vr cl ≤ cr → usd vr cl2 ≤ cr) ∧ (fc ≤ fc2 ∧ fc2 ≤ fc + ((min z.toNat (sl.length - pd) : Nat) : Int)) ∧ G 86 = some (false, 7, pwF P dr lt fc2)) ∧ (∀ o, ¬ o = 86 → ¬ o = 94 → ¬ o = 111 → ¬ o = 115 → ¬ o = 116 → G o = H o)) := by
  refine Rm_of (M := xm30) (lv := [(0, _), (1, _)]) rfl rfl rfl ?_
  obtain ⟨p0, -⟩ := id hP
  have hpg := pigeon 12 sl hsl.1 hsl.2
  refine Gq_s (pc' := 1) rfl rfl rfl ?_
  refine Gq_zge (pc' := 4) (t := 15) rfl rfl rfl (by omega) (fun _ => ?_) (fun hq => absurd (by omega) hq)
  refine Gq_s (pc' := 16) rfl rfl rfl ?_
  refine Gq_callv1 (pc' := 19) (Y := xm52) (rest := []) (st' := []) (ce' := 0) (sl' := 0) rfl rfl rfl rfl rfl rfl rfl rfl rfl (t_reqPlan n h86 hP) rfl (by first | assumption | exact upd_eq _ _ _ | (refine (upd_ne _ _ (by omega)).trans ?_; first | assumption | exact upd_eq _ _ _ | (refine (upd_ne _ _ (by omega)).trans ?_; first | assumption | exact upd_eq _ _ _ | (refine (upd_ne _ _ (by omega)).trans ?_; first | assumption | exact upd_eq _ _ _)))) ?_
  refine Gq_s (pc' := 20) rfl rfl rfl ?_
  refine Gq_s (pc' := 21) rfl rfl rfl ?_
  refine Gq_get (pc' := 24) rfl rfl (by first | assumption | exact upd_eq _ _ _ | (refine (upd_ne _ _ (by omega)).trans ?_; first | assumption | exact upd_eq _ _ _ | (refine (upd_ne _ _ (by omega)).trans ?_; first | assumption | exact upd_eq _ _ _ | (refine (upd_ne _ _ (by omega)).trans ?_; first | assumption | exact upd_eq _ _ _)))) (by exact rfl) ?_
  refine Gq_get (pc' := 27) rfl rfl (by first | assumption | exact upd_eq _ _ _ | (refine (upd_ne _ _ (by omega)).trans ?_; first | assumption | exact upd_eq _ _ _ | (refine (upd_ne _ _ (by omega)).trans ?_; first | assumption | exact upd_eq _ _ _ | (refine (upd_ne _ _ (by omega)).trans ?_; first | assumption | exact upd_eq _ _ _)))) (by exact rfl) ?_
  refine Gq_s (pc' := 28) rfl rfl rfl ?_
  refine Gq_get (pc' := 31) rfl rfl (by first | assumption | exact upd_eq _ _ _ | (refine (upd_ne _ _ (by omega)).trans ?_; first | assumption | exact upd_eq _ _ _ | (refine (upd_ne _ _ (by omega)).trans ?_; first | assumption | exact upd_eq _ _ _ | (refine (upd_ne _ _ (by omega)).trans ?_; first | assumption | exact upd_eq _ _ _)))) (by exact rfl) ?_
  refine Gq_get (pc' := 34) rfl rfl (by first | assumption | exact upd_eq _ _ _ | (refine (upd_ne _ _ (by omega)).trans ?_; first | assumption | exact upd_eq _ _ _ | (refine (upd_ne _ _ (by omega)).trans ?_; first | assumption | exact upd_eq _ _ _ | (refine (upd_ne _ _ (by omega)).trans ?_; first | assumption | exact upd_eq _ _ _)))) (by exact rfl) ?_
  refine Gq_isub (pc' := 35) rfl rfl ?_
  refine Gq_min (pc' := 38) rfl rfl (by omega) (by omega) rfl ?_
  rw [show min z ((sl.length : Int) - (pd : Int)) = ((min z.toNat (sl.length - pd) : Nat) : Int) by omega]
  refine Gq_s (pc' := 39) (lv' := [(0, _), (1, _), (2, _)]) rfl rfl rfl ?_
  exact t_run_l hL hD hS hsl hcr hdr hroom (min z.toNat (sl.length - pd)) pd H cl fc (by omega) hR h86 L0 L1 D0 D1 hP hCa
theorem w_run2 {S : ScT} {H : HF} (n : Nat) {P : Nat} {pid cnt : Nat → Nat} {vd gr : Nat → Nat → Nat} {vr : Nat → VR} {wl : List CR} {lk dk : Nat → Option Nat} {pd : Nat} {kd : Nat → Int} {pp : Nat → Nat} {pb : Nat → Option Nat} {cl : List Nat} {cr dr lt fc : Int} {sl : List Nat} (hA : AllB H P pid cnt vd gr vr wl lk (dkS sl lk dk pd) true sl.length pd kd pp pb cl cr dr lt fc) (hD0 : ∀ q o, dk q = some o → Own P cnt vd q o) (hS : StI sl pp pb dk) (hsl : RwOK sl) {z : Int} (hz : 0 ≤ z ∧ z ≤ 1000) (hroom : ∀ i, i ≤ sl.length → sumTo (fun p => szOf vr (dkS sl lk dk i p)) 12 ≤ dr) : Rmt S 30 [.ref 86, .int (zI z)] H n (fun v G m => v = some (.int (zI ((pd + min z.toNat (sl.length - pd) : Nat) : Int))) ∧ m = n ∧ (∀ o, (o < 86 ∨ 118 < o) → G o = H o) ∧ ∃ cl2 fc2, AllB G P pid cnt vd gr vr wl lk (dkS sl lk dk (pd + min z.toNat (sl.length - pd))) true sl.length (pd + min z.toNat (sl.length - pd)) kd pp pb cl2 cr dr lt fc2 ∧ fc ≤ fc2 ∧ fc2 ≤ fc + ((min z.toNat (sl.length - pd) : Nat) : Int)) := by
  obtain ⟨hR, h86, ⟨hW, hwP⟩, ⟨L0, L1, hL⟩, ⟨D0, D1, hD⟩, ⟨hP, hpc, hpd, hpp, hpb⟩, ⟨hCa, hcr, hus⟩, hdr, ⟨lo, L2, hlo⟩, ⟨don, D2, hdo⟩, hSR, hSC, hTS⟩ := id hA
  refine Rm_mono (t_run2 n hL hD0 hS hsl hcr hdr hroom hz hpd hR h86 L0 L1 D0 D1 hP hCa) ?_
  rintro v G m ⟨e1, e2, e3, e5, ⟨cl2, fc2, e6, e7, e8, e9⟩, e4⟩
  have hh : Hi H G := fun o ho => e4 o (by omega) (by omega) (by omega) (by omega) (by omega)
  have f : ∀ o, ¬ o = 86 → ¬ o = 94 → (o < 111 ∨ 116 < o) → G o = H o := fun o h1 h2 h3 => e4 o h1 h2 (by omega) (by omega) (by omega)
  exact ⟨e1, e2, fun o ho => f o (by omega) (by omega) (by omega), cl2, fc2, ⟨RG_hi hh (f 87 (by omega) (by omega) (by omega)) hR, e9, ⟨WiAt_hi hh (f 88 (by omega) (by omega) (by omega)) (f 89 (by omega) (by omega) (by omega)) hW, hwP⟩, ⟨(f 90 (by omega) (by omega) (by omega)).trans L0, (f 91 (by omega) (by omega) (by omega)).trans L1, hL⟩, ⟨(f 93 (by omega) (by omega) (by omega)).trans D0, e3, dkS_own hL hD0 _⟩, ⟨e5, hpc, by omega, hpp, hpb⟩, ⟨e6, hcr, e7 hus⟩, hdr, ⟨lo, (f 92 (by omega) (by omega) (by omega)).trans L2, hlo⟩, ⟨don, (f 95 (by omega) (by omega) (by omega)).trans D2, hdo⟩, ScR_off (fun o _ _ => f o (by omega) (by omega) (by omega)) hSR, ScC_off (fun o _ _ => f o (by omega) (by omega) (by omega)) hSC, TcS_off (f 117 (by omega) (by omega) (by omega)) (f 118 (by omega) (by omega) (by omega)) hTS⟩, e8⟩
end XKF
