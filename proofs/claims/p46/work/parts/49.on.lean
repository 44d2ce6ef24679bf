/-! the law's features (printed by wip/p46/gen49.py) -/
section XKt
def NRok (P : Nat) (r : NR) : Prop := rT r < P ∧ (-1 ≤ rC r ∧ rC r < 4) ∧ rF r < 4 ∧ (0 ≤ rK r ∧ rK r ≤ 5) ∧ (0 ≤ rA r ∧ rA r ≤ 2) ∧ (0 ≤ rB r ∧ rB r ≤ 2) ∧ (0 ≤ rD r ∧ rD r ≤ 2)
/-- what the law wrote is what the class holds -/
def Lnk (P : Nat) (cnt : Nat → Nat) (vd : Nat → Nat → Nat) (vr : Nat → VR) (siz : Nat → Nat → Int) (wdr : Nat → Nat → Bool) (num : Nat → Nat → Nat → Int) (nd kd : Nat → Nat → List NR) (ws : List NR) (wl : List CR) : Prop :=
  (2 ≤ P ∧ P ≤ 6) ∧ (∀ p, p < P → cnt p ≤ 4) ∧ (∀ p v, p < P → v < cnt p → vr (vd p v) = (v, mkM (num p v 0) (num p v 1) (num p v 2), siz p v, wdr p v, (nd p v).map crN, (kd p v).map crN)) ∧ (wl = ws.map crN ∧ ws.length ≤ 6 ∧ ∀ r ∈ ws, NRok P r) ∧ (∀ p v, p < P → v < cnt p → ((nd p v).length ≤ 2 ∧ ∀ r ∈ nd p v, NRok P r) ∧ ((kd p v).length ≤ 1 ∧ ∀ r ∈ kd p v, NRok P r)) ∧ (∀ p v j, p < P → v < cnt p → j < 3 → 0 ≤ num p v j ∧ num p v j ≤ 2) ∧ ∀ p v, p < P → v < cnt p → 1 ≤ siz p v ∧ siz p v ≤ 300
theorem crN_ok {P : Nat} (hP : P ≤ 6) {r : NR} (h : NRok P r) : cOK (crN r) := by
  obtain ⟨h1, h2, h3, h4, h5, h6, h7⟩ := h
  refine mkC_ok (by omega) h2 (by omega) ?_
  unfold mkM
  omega
theorem drop_at {α : Type} {l t : List α} {j : Nat} {a : α} (h : l.drop j = a :: t) : l[j]? = some a ∧ l.drop (j + 1) = t ∧ j < l.length := by
  refine ⟨?_, ?_, ?_⟩
  · have h2 : (l.drop j)[0]? = some a := by rw [h]; rfl
    rwa [List.getElem?_drop, Nat.add_zero] at h2
  · have h2 : (l.drop j).drop 1 = t := by rw [h]; rfl
    rwa [List.drop_drop] at h2
  · refine Decidable.byContradiction fun q => ?_
    rw [List.drop_eq_nil_of_le (by omega)] at h
    cases h
theorem drop_nil_at {α : Type} {l : List α} {j : Nat} (h : l.drop j = []) : l.length ≤ j := List.drop_eq_nil_iff.mp h
theorem rw7_0 {l : List NR} {k : Nat} {r : NR} (h : l[k]? = some r) : rw7 l (7 * k) = (rT r : Int) := rw7_at h 0 (by omega)
theorem rw7_1 {l : List NR} {k : Nat} {r : NR} (h : l[k]? = some r) : rw7 l (7 * k + 1) = rC r := rw7_at h 1 (by omega)
theorem rw7_2 {l : List NR} {k : Nat} {r : NR} (h : l[k]? = some r) : rw7 l (7 * k + 2) = (rF r : Int) := rw7_at h 2 (by omega)
theorem lk_of {P : Nat} {cnt : Nat → Nat} {vd : Nat → Nat → Nat} {vr : Nat → VR} {wl : List CR} {siz : Nat → Nat → Int} {wdr : Nat → Nat → Bool} {num : Nat → Nat → Nat → Int} {nd kd : Nat → Nat → List NR} {ws : List NR} {lk : Nat → Option Nat} (hK : Lnk P cnt vd vr siz wdr num nd kd ws wl) (hL : ∀ q o, lk q = some o → Own P cnt vd q o) {p o : Nat} (h : lk p = some o) : ∃ i, p < P ∧ i < cnt p ∧ i < 4 ∧ o = vd p i ∧ nmOf vr (lk p) = (i : Int) ∧ lkI P vr lk p = (i : Int) ∧ vQ (vr o) = (nd p i).map crN := by
  obtain ⟨hp, i, hi, rfl⟩ := hL p o h
  have h1 := hK.2.2.1 p i hp hi
  have h2 := hK.2.1 p hp
  have h3 : nmOf vr (lk p) = (i : Int) := by
    rw [h]
    show ((vN (vr (vd p i)) : Nat) : Int) = _
    rw [h1]
    rfl
  exact ⟨i, hp, hi, by omega, rfl, h3, by unfold lkI; rw [if_pos hp, h3], by rw [h1]; rfl⟩
theorem lk_no {P : Nat} {vr : Nat → VR} {lk : Nat → Option Nat} {p : Nat} (h : lk p = none) : lkI P vr lk p = -1 := by
  unfold lkI
  rw [h]
  split <;> rfl
theorem lkI_b {P : Nat} {cnt : Nat → Nat} {vd : Nat → Nat → Nat} {vr : Nat → VR} {wl : List CR} {siz : Nat → Nat → Int} {wdr : Nat → Nat → Bool} {num : Nat → Nat → Nat → Int} {nd kd : Nat → Nat → List NR} {ws : List NR} {lk : Nat → Option Nat} (hK : Lnk P cnt vd vr siz wdr num nd kd ws wl) (hL : ∀ q o, lk q = some o → Own P cnt vd q o) (p : Nat) : -1 ≤ lkI P vr lk p ∧ lkI P vr lk p < 4 ∧ (lkI P vr lk p < 0 → lk p = none) := by
  cases h : lk p with
  | none => rw [lk_no h]; exact ⟨by omega, by omega, fun _ => rfl⟩
  | some x =>
    obtain ⟨i, -, -, h4, -, -, h5, -⟩ := lk_of hK hL h
    rw [h5]
    exact ⟨by omega, by omega, fun q => absurd q (by omega)⟩
/-! the law's rounds -/
def dRun (vr : Nat → VR) (ch : Nat → Option Nat) : Nat → (Nat → Nat) × Bool → (Nat → Nat) × Bool
  | 0, s => s
  | k + 1, s => dRun vr ch k (nPk vr ch k s)
def dIt (vr : Nat → VR) (ch : Nat → Option Nat) (P : Nat) : Nat → (Nat → Nat) → Nat → Nat
  | 0, on => on
  | k + 1, on => dIt vr ch P k (dRun vr ch P (on, false)).1
theorem d16 {vr : Nat → VR} {ch : Nat → Option Nat} (hN : NOK vr ch) : ∀ (k : Nat) (s : (Nat → Nat) × Bool), k ≤ 12 → o16 s.1 → o16 (dRun vr ch k s).1
  | 0, _, _, h => h
  | k + 1, _, hk, h => d16 hN k _ (by omega) (n16_nPk hN (by omega) h)
theorem dGrw {vr : Nat → VR} {ch : Nat → Option Nat} (hN : NOK vr ch) : ∀ (k : Nat) (s : (Nat → Nat) × Bool), k ≤ 12 → o16 s.1 → Grw s (dRun vr ch k s)
  | 0, s, _, _ => Grw_refl s
  | k + 1, _, hk, h => Grw_trans (nPk_grw hN (by omega) h) (dGrw hN k _ (by omega) (n16_nPk hN (by omega) h))
theorem dSrv {vr : Nat → VR} {ch : Nat → Option Nat} (hN : NOK vr ch) : ∀ (k : Nat) (s : (Nat → Nat) × Bool), k ≤ 12 → o16 s.1 → (dRun vr ch k s).2 = false → ∀ p o c, p < k → ch p = some o → c ∈ vQ (vr o) → Srv ch s.1 p c
  | 0, _, _, _, _, p, o, c, h2, _, _ => absurd h2 (by omega)
  | k + 1, s, hk, ho, h, p, o, c, h2, hx, hc => by
    have ho2 := n16_nPk hN (show k < 12 by omega) ho
    have g2 := (dGrw hN k (nPk vr ch k s) (by omega) ho2).2.1 h
    have g1 := (nPk_grw hN (show k < 12 by omega) ho).2.1 g2.1
    by_cases e : p = k
    · subst e
      have h3 := g2.1
      unfold nPk at h3
      rw [hx] at h3
      exact fold_srv (hN p o (by omega) hx) ho h3 c hc
    · have := dSrv hN k (nPk vr ch k s) (by omega) ho2 h p o c (by omega) hx hc
      rwa [g1.2] at this
theorem dMin {vr : Nat → VR} {ch : Nat → Option Nat} {C : Nat → Nat} (hC : Cl vr ch C) : ∀ (k : Nat) (s : (Nat → Nat) × Bool), k ≤ 12 → onLe s.1 C → onLe (dRun vr ch k s).1 C
  | 0, _, _, h => h
  | k + 1, s, hk, h => by
    refine dMin hC k _ (by omega) ?_
    unfold nPk
    cases hx : ch k with
    | none => exact h
    | some o => exact fold_min h (fun c hc => hC k o c (by omega) hx hc)
def Sm6 (on : Nat → Nat) : Prop := (∀ p, on p < 4) ∧ ∀ p, 6 ≤ p → on p = 0
def cSm (c : CR) : Prop := cF c < 4 ∧ cT c < 6
theorem or_lt4 : ∀ a, a < 4 → ∀ b, b < 4 → a ||| b < 4 := by decide
theorem btn2 : ∀ a, a < 4 → btn a ≤ 2 := by decide
theorem Sm_tOn {ch : Nat → Option Nat} {on : Nat → Nat} {c : CR} (h : Sm6 on) (hc : cSm c) : Sm6 (tOn ch on c) := by
  unfold tOn
  split
  · exact h
  · refine ⟨fun p => ?_, fun p hp => ?_⟩
    · by_cases e : p = cT c
      · subst e
        rw [fset_eq]
        exact or_lt4 _ (h.1 _) _ hc.1
      · rw [fset_ne _ _ e]; exact h.1 p
    · rw [fset_ne _ _ (show ¬ p = cT c by have := hc.2; omega)]
      exact h.2 p hp
theorem Sm_wl {ch : Nat → Option Nat} : ∀ {l : List CR} {on : Nat → Nat}, (∀ c ∈ l, cSm c) → Sm6 on → Sm6 (l.foldl (tOn ch) on)
  | [], _, _, h => h
  | c :: t, on, hl, h => Sm_wl (l := t) (on := tOn ch on c) (fun d hd => hl d (List.mem_cons_of_mem _ hd)) (Sm_tOn h (hl c List.mem_cons_self))
theorem Sm_fold {ch : Nat → Option Nat} {p : Nat} : ∀ {l : List CR} {s : (Nat → Nat) × Bool}, (∀ c ∈ l, cSm c) → Sm6 s.1 → Sm6 (l.foldl (nOne ch p) s).1
  | [], _, _, h => h
  | c :: t, s, hl, h => by
    refine Sm_fold (l := t) (s := nOne ch p s c) (fun d hd => hl d (List.mem_cons_of_mem _ hd)) ?_
    unfold nOne
    split
    · exact Sm_tOn h (hl c List.mem_cons_self)
    · exact h
def VSm (vr : Nat → VR) (ch : Nat → Option Nat) : Prop := ∀ p o, ch p = some o → ∀ c ∈ vQ (vr o), cSm c
theorem Sm_d {vr : Nat → VR} {ch : Nat → Option Nat} (hV : VSm vr ch) : ∀ (k : Nat) (s : (Nat → Nat) × Bool), Sm6 s.1 → Sm6 (dRun vr ch k s).1
  | 0, _, h => h
  | k + 1, s, h => by
    refine Sm_d hV k _ ?_
    unfold nPk
    cases hx : ch k with
    | none => exact h
    | some o => exact Sm_fold (hV k o hx) h
theorem pot_sm {on : Nat → Nat} (h : Sm6 on) : ∀ k, pot on k ≤ 2 * min k 6
  | 0 => Nat.zero_le _
  | k + 1 => by
    have h1 := pot_sm h k
    show pot on k + btn (on k) ≤ _
    have h2 := btn2 _ (h.1 k)
    rcases Nat.lt_or_ge k 6 with h3 | h3
    · omega
    · rw [h.2 k h3, show btn 0 = 0 from rfl]
      omega
theorem dIt_fix {vr : Nat → VR} {ch : Nat → Option Nat} (hN : NOK vr ch) {P : Nat} (hP : P ≤ 12) {on : Nat → Nat} (ho : o16 on) (h : (dRun vr ch P (on, false)).2 = false) : ∀ k, dIt vr ch P k on = on
  | 0 => rfl
  | k + 1 => by
    show dIt vr ch P k (dRun vr ch P (on, false)).1 = on
    rw [((dGrw hN P (on, false) hP ho).2.1 h).2]
    exact dIt_fix hN hP ho h k
theorem dIt_end {vr : Nat → VR} {ch : Nat → Option Nat} (hN : NOK vr ch) (hV : VSm vr ch) {P : Nat} (hP : P ≤ 12) : ∀ (k : Nat) (on : Nat → Nat), o16 on → Sm6 on → 12 < pot on 12 + k → o16 (dIt vr ch P k on) ∧ (dRun vr ch P (dIt vr ch P k on, false)).2 = false
  | 0, on, _, hs, h => absurd (pot_sm hs 12) (by omega)
  | k + 1, on, ho, hs, h => by
    have hg := dGrw hN P (on, false) hP ho
    cases hf : (dRun vr ch P (on, false)).2 with
    | false =>
      rw [dIt_fix hN hP ho hf (k + 1)]
      exact ⟨ho, hf⟩
    | true =>
      refine dIt_end hN hV hP k _ (d16 hN P _ hP ho) (Sm_d hV P _ hs) ?_
      rcases hg.2.2.1 hf with h2 | h2
      · cases h2
      · have h2 : pot on 12 < _ := h2
        omega
theorem dIt_le {vr : Nat → VR} {ch : Nat → Option Nat} (hN : NOK vr ch) {P : Nat} (hP : P ≤ 12) : ∀ (k : Nat) (on : Nat → Nat), o16 on → onLe on (dIt vr ch P k on)
  | 0, on, _ => onLe_refl on
  | k + 1, on, ho => onLe_trans (dGrw hN P (on, false) hP ho).1 (dIt_le hN hP k _ (d16 hN P _ hP ho))
theorem dIt_min {vr : Nat → VR} {ch : Nat → Option Nat} {C : Nat → Nat} (hC : Cl vr ch C) {P : Nat} (hP : P ≤ 12) : ∀ (k : Nat) (on : Nat → Nat), onLe on C → onLe (dIt vr ch P k on) C
  | 0, _, h => h
  | k + 1, _, h => dIt_min hC hP k _ (dMin hC P _ hP h)
theorem dIt_on {vr : Nat → VR} {ch : Nat → Option Nat} {wl : List CR} (hN : NOK vr ch) (hV : VSm vr ch) (hw : ∀ c ∈ wl, cOK c ∧ cSm c) {P : Nat} (hP : P ≤ 12) (hp : ∀ p, P ≤ p → ch p = none) : dIt vr ch P 24 (wl.foldl (tOn ch) (fun _ => 0)) = onF vr ch wl := by
  have hwo : ∀ c ∈ wl, cOK c := fun c hc => (hw c hc).1
  have ho := o16_wl (ch := ch) hwo o16_0
  obtain ⟨h1, h2⟩ := dIt_end hN hV hP 24 _ ho (Sm_wl (ch := ch) (fun c hc => (hw c hc).2) ⟨fun _ => by show 0 < 4; omega, fun _ _ => rfl⟩) (by omega)
  refine funext fun p => (onF_uniq hN hwo (C := dIt vr ch P 24 (wl.foldl (tOn ch) (fun _ => 0))) (fun q o c hq hx hc => ?_) (fun c hc hx => sbs_trans (wl_in hc hx) (dIt_le hN hP 24 _ ho _)) (fun D h3 h4 => dIt_min h3 hP 24 _ (wl_min h4 (fun p => sbs_zero _))) p).symm
  refine dSrv hN P (dIt vr ch P 24 (wl.foldl (tOn ch) (fun _ => 0)), false) hP h1 h2 q o c ?_ hx hc
  rcases Nat.lt_or_ge q P with h5 | h5
  · exact h5
  · rw [hp q h5] at hx; cases hx
theorem t_on_a {L : Nat} {ys : Nat → Int32} (hLs : L ≤ 100000) {q d P n x : Nat} {cnt : Nat → Nat} {vd : Nat → Nat → Nat} {vr : Nat → VR} {wl : List CR} {siz : Nat → Nat → Int} {wdr : Nat → Nat → Bool} {num : Nat → Nat → Nat → Int} {nd kd : Nat → Nat → List NR} {ws : List NR} {nid qid kid : Nat → Nat → Nat} {wid : Nat → Nat} {lk : Nat → Option Nat} {H : HF} (hLw : LwP H q d P cnt siz wdr num nd kd ws nid qid kid wid) (hK : Lnk P cnt vd vr siz wdr num nd kd ws wl) (hL : ∀ q o, lk q = some o → Own P cnt vd q o) (hF : Frs H n) (hn : 119 ≤ n) (hxn : x < n) (h1 : H x = some (true, 0, aI 6 (lkI P vr lk))) {Q : XLf → Prop} : ∀ (l : List NR) (j : Nat) (on : Nat → Nat), ws.drop j = l → j ≤ 6 → Gw (some (L, ys)) xm137 57 [(0, .ref 0), (1, .ref x), (2, .ref n), (3, .int (zI 0))] [] (hup H n (true, 0, aNt 6 ((l.map crN).foldl (tOn lk) on))) (n + 1) 1 6 Q → Gw (some (L, ys)) xm137 7 [(0, .ref 0), (1, .ref x), (2, .ref n), (3, .int (zI (j : Int)))] [] (hup H n (true, 0, aNt 6 on)) (n + 1) 1 6 Q := by
  intro l
  induction l with
  | nil =>
    intro j on hl hj kk
    have hjl := drop_nil_at hl
    obtain ⟨h0, -, -, -, -, ⟨hq0, hq1⟩, -, hws, -, hqd, -, hwd⟩ := id hLw
    obtain ⟨⟨hP2, hP6⟩, hcnt, hvr, ⟨hwl, hwn, hwr⟩, hkk, -, -⟩ := id hK
    refine Gq_s (pc' := 8) rfl rfl rfl ?_
    refine Gq_s (pc' := 9) rfl rfl rfl ?_
    refine Gq_get (pc' := 12) rfl rfl (by first | assumption | exact upd_eq _ _ _ | ((repeat (refine (upd_ne _ _ (by omega)).trans ?_)); first | assumption | exact upd_eq _ _ _)) (by exact rfl) ?_
    refine Gq_cge (pc' := 15) (t := 55) rfl rfl rfl (by omega) (by omega) (fun _ => ?_) (fun hq => absurd (by omega) hq)
    refine Gq_s (pc' := 56) rfl rfl rfl ?_
    refine Gq_s (pc' := 57) (lv' := [(0, _), (1, _), (2, _), (3, _)]) rfl rfl rfl ?_
    exact kk
  | cons r t ih =>
    intro j on hl hj kk
    obtain ⟨e1, e2, e3⟩ := drop_at hl
    rw [List.map_cons, List.foldl_cons] at kk
    obtain ⟨h0, -, -, -, -, ⟨hq0, hq1⟩, -, hws, -, hqd, -, hwd⟩ := id hLw
    obtain ⟨⟨hP2, hP6⟩, hcnt, hvr, ⟨hwl, hwn, hwr⟩, hkk, -, -⟩ := id hK
    have hwj := (hwd j r e1).2
    have hwj2 := Fr_lt hF hwj
    obtain ⟨hr1, -, hr3, -⟩ := hwr r (List.mem_of_getElem? e1)
    obtain ⟨b1, b2, b3⟩ := lkI_b hK hL (rT r)
    refine Gq_s (pc' := 8) rfl rfl rfl ?_
    refine Gq_s (pc' := 9) rfl rfl rfl ?_
    refine Gq_get (pc' := 12) rfl rfl (by first | assumption | exact upd_eq _ _ _ | ((repeat (refine (upd_ne _ _ (by omega)).trans ?_)); first | assumption | exact upd_eq _ _ _)) (by exact rfl) ?_
    refine Gq_cge (pc' := 15) (t := 55) rfl rfl rfl (by omega) (by omega) (fun hq => absurd hq (by omega)) (fun _ => ?_)
    refine Gq_s (pc' := 16) rfl rfl rfl ?_
    refine Gq_s (pc' := 17) rfl rfl rfl ?_
    refine Gq_get (pc' := 20) rfl rfl (by first | assumption | exact upd_eq _ _ _ | ((repeat (refine (upd_ne _ _ (by omega)).trans ?_)); first | assumption | exact upd_eq _ _ _)) (by exact rfl) ?_
    refine Gq_s (pc' := 21) rfl rfl rfl ?_
    refine Gq_aald (pc' := 22) rfl rfl (by first | assumption | exact upd_eq _ _ _ | ((repeat (refine (upd_ne _ _ (by omega)).trans ?_)); first | assumption | exact upd_eq _ _ _)) (by exact rfl) (rfl) (by omega) (by omega) (rv_if e3) ?_
    refine Gq_s (pc' := 23) rfl rfl rfl ?_
    refine Gq_iald (pc' := 24) (j := 0) rfl rfl (by first | assumption | exact upd_eq _ _ _ | ((repeat (refine (upd_ne _ _ (by omega)).trans ?_)); first | assumption | exact upd_eq _ _ _)) (rfl) (by omega) (by omega) ?_
    refine Gq_iald (pc' := 25) (j := rT r) rfl rfl (by first | assumption | exact upd_eq _ _ _ | ((repeat (refine (upd_ne _ _ (by omega)).trans ?_)); first | assumption | exact upd_eq _ _ _)) (rfl) (by omega) (by omega) ?_
    refine Gq_zlt (pc' := 28) (t := 49) rfl rfl rfl (by omega) (fun hb => ?_) (fun hb => ?_)
    · refine Gq_iinc (pc' := 52) (lv' := [(0, _), (1, _), (2, _), (3, _)]) rfl rfl rfl rfl ?_
      refine Gq_goto rfl (t := 7) rfl ?_
      have e : tOn lk on (crN r) = on := if_pos (b3 hb)
      rw [e] at kk
      exact ih (j + 1) on e2 (by omega) kk
    · have hne : ¬ lk (rT r) = none := fun q => hb (by rw [lk_no q]; omega)
      have e : tOn lk on (crN r) = fset on (rT r) (on (rT r) ||| rF r) := if_neg hne
      rw [e] at kk
      refine Gq_s (pc' := 29) rfl rfl rfl ?_
      refine Gq_s (pc' := 30) rfl rfl rfl ?_
      refine Gq_get (pc' := 33) rfl rfl (by first | assumption | exact upd_eq _ _ _ | ((repeat (refine (upd_ne _ _ (by omega)).trans ?_)); first | assumption | exact upd_eq _ _ _)) (by exact rfl) ?_
      refine Gq_s (pc' := 34) rfl rfl rfl ?_
      refine Gq_aald (pc' := 35) rfl rfl (by first | assumption | exact upd_eq _ _ _ | ((repeat (refine (upd_ne _ _ (by omega)).trans ?_)); first | assumption | exact upd_eq _ _ _)) (by exact rfl) (rfl) (by omega) (by omega) (rv_if e3) ?_
      refine Gq_s (pc' := 36) rfl rfl rfl ?_
      refine Gq_iald (pc' := 37) (j := 0) rfl rfl (by first | assumption | exact upd_eq _ _ _ | ((repeat (refine (upd_ne _ _ (by omega)).trans ?_)); first | assumption | exact upd_eq _ _ _)) (rfl) (by omega) (by omega) ?_
      refine Gq_s (pc' := 38) rfl rfl rfl ?_
      refine Gq_iald (pc' := 39) (j := rT r) rfl rfl (by first | assumption | exact upd_eq _ _ _ | ((repeat (refine (upd_ne _ _ (by omega)).trans ?_)); first | assumption | exact upd_eq _ _ _)) (rfl) (by omega) (by omega) ?_
      refine Gq_s (pc' := 40) rfl rfl rfl ?_
      refine Gq_get (pc' := 43) rfl rfl (by first | assumption | exact upd_eq _ _ _ | ((repeat (refine (upd_ne _ _ (by omega)).trans ?_)); first | assumption | exact upd_eq _ _ _)) (by exact rfl) ?_
      refine Gq_s (pc' := 44) rfl rfl rfl ?_
      refine Gq_aald (pc' := 45) rfl rfl (by first | assumption | exact upd_eq _ _ _ | ((repeat (refine (upd_ne _ _ (by omega)).trans ?_)); first | assumption | exact upd_eq _ _ _)) (by exact rfl) (rfl) (by omega) (by omega) (rv_if e3) ?_
      refine Gq_s (pc' := 46) rfl rfl rfl ?_
      refine Gq_iald (pc' := 47) (j := 1) rfl rfl (by first | assumption | exact upd_eq _ _ _ | ((repeat (refine (upd_ne _ _ (by omega)).trans ?_)); first | assumption | exact upd_eq _ _ _)) (rfl) (by omega) (by omega) ?_
      refine Gq_ior (pc' := 48) (zI ((on (rT r) ||| rF r : Nat) : Int)) rfl rfl (z_or (on (rT r)) (rF r)) ?_
      refine Gq_iast (pc' := 49) (j := rT r) rfl rfl (by first | assumption | exact upd_eq _ _ _ | ((repeat (refine (upd_ne _ _ (by omega)).trans ?_)); first | assumption | exact upd_eq _ _ _)) (rfl) (by omega) (by omega) ?_
      rw [upd_upd, aN_fset]
      refine Gq_iinc (pc' := 52) (lv' := [(0, _), (1, _), (2, _), (3, _)]) rfl rfl rfl rfl ?_
      refine Gq_goto rfl (t := 7) rfl ?_
      exact ih (j + 1) _ e2 (by omega) kk
theorem t_on_n {L : Nat} {ys : Nat → Int32} (hLs : L ≤ 100000) {q d P n x : Nat} {cnt : Nat → Nat} {vd : Nat → Nat → Nat} {vr : Nat → VR} {wl : List CR} {siz : Nat → Nat → Int} {wdr : Nat → Nat → Bool} {num : Nat → Nat → Nat → Int} {nd kd : Nat → Nat → List NR} {ws : List NR} {nid qid kid : Nat → Nat → Nat} {wid : Nat → Nat} {lk : Nat → Option Nat} {H : HF} (hLw : LwP H q d P cnt siz wdr num nd kd ws nid qid kid wid) (hK : Lnk P cnt vd vr siz wdr num nd kd ws wl) (hL : ∀ q o, lk q = some o → Own P cnt vd q o) (hF : Frs H n) (hn : 119 ≤ n) (hxn : x < n) (h1 : H x = some (true, 0, aI 6 (lkI P vr lk))) {Q : XLf → Prop} (hQ : NoL Q) {p i : Nat} {z3 : Int32} (hp : p < P) (hi : i < cnt p) : ∀ (l : List NR) (k : Nat) (s : (Nat → Nat) × Bool), (nd p i).drop k = l → k ≤ 2 → o16 s.1 → Gw (some (L, ys)) xm137 160 [(0, .ref 0), (1, .ref x), (2, .ref n), (3, .int z3), (4, .int (zI (p : Int)))] [] (hup H n (true, 0, aNt 6 ((l.map crN).foldl (nOne lk p) s).1)) (n + 1) 1 6 Q → Gw (some (L, ys)) xm137 103 [(0, .ref 0), (1, .ref x), (2, .ref n), (3, .int z3), (4, .int (zI (p : Int))), (5, .ref (qid p i)), (6, .int (zI ((7 * k : Nat) : Int)))] [] (hup H n (true, 0, aNt 6 s.1)) (n + 1) 1 6 Q := by
  intro l
  induction l with
  | nil =>
    intro k s hl hj ho kk
    have hjl := drop_nil_at hl
    obtain ⟨h0, -, -, -, -, ⟨hq0, hq1⟩, -, hws, -, hqd, -, hwd⟩ := id hLw
    obtain ⟨⟨hP2, hP6⟩, hcnt, hvr, ⟨hwl, hwn, hwr⟩, hkk, -, -⟩ := id hK
    have hc4 := hcnt p hp
    have hqi := (hqd p i (by omega) (by omega)).2
    have hqi2 := Fr_lt hF hqi
    obtain ⟨⟨hnl, hnr⟩, -⟩ := hkk p i hp hi
    refine Gq_s (pc' := 105) rfl rfl rfl ?_
    refine Gq_s (pc' := 107) rfl rfl rfl ?_
    refine Gq_len (pc' := 108) rfl rfl (by first | assumption | exact upd_eq _ _ _ | ((repeat (refine (upd_ne _ _ (by omega)).trans ?_)); first | assumption | exact upd_eq _ _ _)) (by exact rfl) (by exact aX_len _ _) ?_
    refine Gq_cge (pc' := 111) (t := 160) rfl rfl rfl (by omega) (by omega) (fun _ => ?_) (fun hq => absurd (by omega) hq)
    refine Gq_wk (lv' := [(0, _), (1, _), (2, _), (3, _), (4, _)]) [0, 1, 2, 3, 4] rfl rfl hQ ?_
    exact kk
  | cons r t ih =>
    intro k s hl hj ho kk
    obtain ⟨e1, e2, e3⟩ := drop_at hl
    rw [List.map_cons, List.foldl_cons] at kk
    have e7 : ((7 * k : Nat) : Int) + 7 = ((7 * (k + 1) : Nat) : Int) := by omega
    obtain ⟨h0, -, -, -, -, ⟨hq0, hq1⟩, -, hws, -, hqd, -, hwd⟩ := id hLw
    obtain ⟨⟨hP2, hP6⟩, hcnt, hvr, ⟨hwl, hwn, hwr⟩, hkk, -, -⟩ := id hK
    have hc4 := hcnt p hp
    have hqi := (hqd p i (by omega) (by omega)).2
    have hqi2 := Fr_lt hF hqi
    obtain ⟨⟨hnl, hnr⟩, -⟩ := hkk p i hp hi
    obtain ⟨hr1, hr2, hr3, -⟩ := hnr r (List.mem_of_getElem? e1)
    have ho2 : o16 (nOne lk p s (crN r)).1 := o16_nOne ho (crN_ok hP6 (hnr r (List.mem_of_getElem? e1)))
    obtain ⟨b1, b2, b3⟩ := lkI_b hK hL (rT r)
    refine Gq_s (pc' := 105) rfl rfl rfl ?_
    refine Gq_s (pc' := 107) rfl rfl rfl ?_
    refine Gq_len (pc' := 108) rfl rfl (by first | assumption | exact upd_eq _ _ _ | ((repeat (refine (upd_ne _ _ (by omega)).trans ?_)); first | assumption | exact upd_eq _ _ _)) (by exact rfl) (by exact aX_len _ _) ?_
    refine Gq_cge (pc' := 111) (t := 160) rfl rfl rfl (by omega) (by omega) (fun hq => absurd hq (by omega)) (fun _ => ?_)
    refine Gq_s (pc' := 112) rfl rfl rfl ?_
    refine Gq_s (pc' := 114) rfl rfl rfl ?_
    refine Gq_s (pc' := 116) rfl rfl rfl ?_
    refine Gq_s (pc' := 118) rfl rfl rfl ?_
    refine Gq_s (pc' := 119) rfl rfl rfl ?_
    refine Gq_iadd (pc' := 120) rfl rfl ?_
    refine Gq_iald (pc' := 121) (j := 7 * k + 1) rfl rfl (by first | assumption | exact upd_eq _ _ _ | ((repeat (refine (upd_ne _ _ (by omega)).trans ?_)); first | assumption | exact upd_eq _ _ _)) (by omega) (by omega) (by omega) ?_
    rw [rw7_1 e1]
    refine Gq_calls (pc' := 124) (Y := xm138) (rest := []) (ce' := 1) (sl' := 6) rfl rfl rfl rfl rfl rfl rfl rfl rfl rfl (t_counts hLs (c := rC r) (on := s.1) (n + 1) (upd_eq _ _ _) (show p < 6 by omega) (by decide) (ho p) hr2) (fun v1 H1 n1 hv => ?_)
    obtain ⟨rfl, rfl, rfl⟩ := hv
    refine Gq_beq (pc' := 127) (t := 154) rfl rfl rfl (fun hb => ?_) (fun hb => ?_)
    · have e : nOne lk p s (crN r) = s := by
        unfold nOne
        rw [show cCnt (crN r) (s.1 p) = false from hb]
        rfl
      rw [e] at kk
      refine Gq_iinc (pc' := 157) (lv' := [(0, _), (1, _), (2, _), (3, _), (4, _), (5, _), (6, _)]) rfl rfl rfl rfl ?_
      refine Gq_goto rfl (t := 103) rfl ?_
      rw [e7]
      exact ih (k + 1) s e2 (by omega) ho kk
    · refine Gq_s (pc' := 128) rfl rfl rfl ?_
      refine Gq_s (pc' := 130) rfl rfl rfl ?_
      refine Gq_s (pc' := 132) rfl rfl rfl ?_
      refine Gq_iald (pc' := 133) (j := 7 * k) rfl rfl (by first | assumption | exact upd_eq _ _ _ | ((repeat (refine (upd_ne _ _ (by omega)).trans ?_)); first | assumption | exact upd_eq _ _ _)) (rfl) (by omega) (by omega) ?_
      rw [rw7_0 e1]
      refine Gq_iald (pc' := 134) (j := rT r) rfl rfl (by first | assumption | exact upd_eq _ _ _ | ((repeat (refine (upd_ne _ _ (by omega)).trans ?_)); first | assumption | exact upd_eq _ _ _)) (rfl) (by omega) (by omega) ?_
      refine Gq_zlt (pc' := 137) (t := 154) rfl rfl rfl (by omega) (fun hc => ?_) (fun hc => ?_)
      · have e : (nOne lk p s (crN r)).1 = s.1 := by
          unfold nOne
          rw [show cCnt (crN r) (s.1 p) = true from hb]
          exact if_pos (b3 hc)
        refine Gq_iinc (pc' := 157) (lv' := [(0, _), (1, _), (2, _), (3, _), (4, _), (5, _), (6, _)]) rfl rfl rfl rfl ?_
        refine Gq_goto rfl (t := 103) rfl ?_
        rw [e7]
        have h9 := ih (k + 1) (nOne lk p s (crN r)) e2 (by omega) ho2 kk
        rw [e] at h9
        exact h9
      · have hne : ¬ lk (rT r) = none := fun q => hc (by rw [lk_no q]; omega)
        have e : (nOne lk p s (crN r)).1 = fset s.1 (rT r) (s.1 (rT r) ||| rF r) := by
          unfold nOne
          rw [show cCnt (crN r) (s.1 p) = true from hb]
          exact if_neg hne
        refine Gq_s (pc' := 138) rfl rfl rfl ?_
        refine Gq_s (pc' := 140) rfl rfl rfl ?_
        refine Gq_s (pc' := 142) rfl rfl rfl ?_
        refine Gq_iald (pc' := 143) (j := 7 * k) rfl rfl (by first | assumption | exact upd_eq _ _ _ | ((repeat (refine (upd_ne _ _ (by omega)).trans ?_)); first | assumption | exact upd_eq _ _ _)) (rfl) (by omega) (by omega) ?_
        rw [rw7_0 e1]
        refine Gq_s (pc' := 144) rfl rfl rfl ?_
        refine Gq_iald (pc' := 145) (j := rT r) rfl rfl (by first | assumption | exact upd_eq _ _ _ | ((repeat (refine (upd_ne _ _ (by omega)).trans ?_)); first | assumption | exact upd_eq _ _ _)) (rfl) (by omega) (by omega) ?_
        refine Gq_s (pc' := 147) rfl rfl rfl ?_
        refine Gq_s (pc' := 149) rfl rfl rfl ?_
        refine Gq_s (pc' := 150) rfl rfl rfl ?_
        refine Gq_iadd (pc' := 151) rfl rfl ?_
        refine Gq_iald (pc' := 152) (j := 7 * k + 2) rfl rfl (by first | assumption | exact upd_eq _ _ _ | ((repeat (refine (upd_ne _ _ (by omega)).trans ?_)); first | assumption | exact upd_eq _ _ _)) (by omega) (by omega) (by omega) ?_
        rw [rw7_2 e1]
        refine Gq_ior (pc' := 153) (zI ((s.1 (rT r) ||| rF r : Nat) : Int)) rfl rfl (z_or (s.1 (rT r)) (rF r)) ?_
        refine Gq_iast (pc' := 154) (j := rT r) rfl rfl (by first | assumption | exact upd_eq _ _ _ | ((repeat (refine (upd_ne _ _ (by omega)).trans ?_)); first | assumption | exact upd_eq _ _ _)) (rfl) (by omega) (by omega) ?_
        rw [upd_upd, aN_fset]
        refine Gq_iinc (pc' := 157) (lv' := [(0, _), (1, _), (2, _), (3, _), (4, _), (5, _), (6, _)]) rfl rfl rfl rfl ?_
        refine Gq_goto rfl (t := 103) rfl ?_
        rw [e7]
        have h9 := ih (k + 1) (nOne lk p s (crN r)) e2 (by omega) ho2 kk
        rw [e] at h9
        exact h9
theorem t_on_p {L : Nat} {ys : Nat → Int32} (hLs : L ≤ 100000) {q d P n x : Nat} {cnt : Nat → Nat} {vd : Nat → Nat → Nat} {vr : Nat → VR} {wl : List CR} {siz : Nat → Nat → Int} {wdr : Nat → Nat → Bool} {num : Nat → Nat → Nat → Int} {nd kd : Nat → Nat → List NR} {ws : List NR} {nid qid kid : Nat → Nat → Nat} {wid : Nat → Nat} {lk : Nat → Option Nat} {H : HF} (hLw : LwP H q d P cnt siz wdr num nd kd ws nid qid kid wid) (hK : Lnk P cnt vd vr siz wdr num nd kd ws wl) (hL : ∀ q o, lk q = some o → Own P cnt vd q o) (hF : Frs H n) (hn : 119 ≤ n) (hxn : x < n) (h1 : H x = some (true, 0, aI 6 (lkI P vr lk))) (hN : NOK vr lk) {Q : XLf → Prop} (hQ : NoL Q) {z3 : Int32} : ∀ (k : Nat) (s : (Nat → Nat) × Bool), k ≤ P → o16 s.1 → Gw (some (L, ys)) xm137 166 [(0, .ref 0), (1, .ref x), (2, .ref n), (3, .int z3)] [] (hup H n (true, 0, aNt 6 (dRun vr lk k s).1)) (n + 1) 1 6 Q → Gw (some (L, ys)) xm137 71 [(0, .ref 0), (1, .ref x), (2, .ref n), (3, .int z3), (4, .int (zI ((k : Int) - 1)))] [] (hup H n (true, 0, aNt 6 s.1)) (n + 1) 1 6 Q := by
  intro k
  induction k with
  | zero =>
    intro s hk ho kk
    refine Gq_s (pc' := 73) rfl rfl rfl ?_
    refine Gq_zlt (pc' := 76) (t := 166) rfl rfl rfl (by omega) (fun _ => ?_) (fun hq => absurd (by omega) hq)
    refine Gq_wk (lv' := [(0, _), (1, _), (2, _), (3, _)]) [0, 1, 2, 3] rfl rfl hQ ?_
    exact kk
  | succ k ih =>
    intro s hk ho kk
    rw [show ((k + 1 : Nat) : Int) - 1 = (k : Int) by omega]
    have em : (k : Int) + -1 = (k : Int) - 1 := by omega
    obtain ⟨h0, -, -, -, -, ⟨hq0, hq1⟩, -, hws, -, hqd, -, hwd⟩ := id hLw
    obtain ⟨⟨hP2, hP6⟩, hcnt, hvr, ⟨hwl, hwn, hwr⟩, hkk, -, -⟩ := id hK
    obtain ⟨b1, b2, b3⟩ := lkI_b hK hL k
    refine Gq_s (pc' := 73) rfl rfl rfl ?_
    refine Gq_zlt (pc' := 76) (t := 166) rfl rfl rfl (by omega) (fun hq => absurd hq (by omega)) (fun _ => ?_)
    refine Gq_s (pc' := 77) rfl rfl rfl ?_
    refine Gq_s (pc' := 79) rfl rfl rfl ?_
    refine Gq_iald (pc' := 80) (j := k) rfl rfl (by first | assumption | exact upd_eq _ _ _ | ((repeat (refine (upd_ne _ _ (by omega)).trans ?_)); first | assumption | exact upd_eq _ _ _)) (rfl) (by omega) (by omega) ?_
    refine Gq_zge (pc' := 83) (t := 86) rfl rfl rfl (by omega) (fun hb => ?_) (fun hb => ?_)
    · cases hx : lk k with
      | none => exact absurd hb (by rw [lk_no hx]; omega)
      | some y =>
        obtain ⟨i, hp, hi, hi4, rfl, -, e5, e6⟩ := lk_of hK hL hx
        have hqr := hq1 k (by omega)
        have e : nPk vr lk k s = ((nd k i).map crN).foldl (nOne lk k) s := by
          unfold nPk
          rw [hx]
          dsimp only
          rw [e6]
        have kk : Gw _ _ _ _ _ (hup H n (true, 0, aNt 6 (dRun vr lk k (nPk vr lk k s)).1)) _ _ _ _ := kk
        rw [e] at kk
        have ho2 : o16 (((nd k i).map crN).foldl (nOne lk k) s).1 := by
          rw [← e]
          exact n16_nPk hN (by omega) ho
        refine Gq_s (pc' := 87) rfl rfl rfl ?_
        refine Gq_get (pc' := 90) rfl rfl (by first | assumption | exact upd_eq _ _ _ | ((repeat (refine (upd_ne _ _ (by omega)).trans ?_)); first | assumption | exact upd_eq _ _ _)) (by exact rfl) ?_
        refine Gq_s (pc' := 92) rfl rfl rfl ?_
        refine Gq_aald (pc' := 93) (j := k) rfl rfl (by first | assumption | exact upd_eq _ _ _ | ((repeat (refine (upd_ne _ _ (by omega)).trans ?_)); first | assumption | exact upd_eq _ _ _)) (by exact rfl) (rfl) (by omega) (by omega) (rfl) ?_
        refine Gq_s (pc' := 94) rfl rfl rfl ?_
        refine Gq_s (pc' := 96) rfl rfl rfl ?_
        refine Gq_iald (pc' := 97) (j := k) rfl rfl (by first | assumption | exact upd_eq _ _ _ | ((repeat (refine (upd_ne _ _ (by omega)).trans ?_)); first | assumption | exact upd_eq _ _ _)) (rfl) (by omega) (by omega) ?_
        rw [e5]
        refine Gq_aald (pc' := 98) (j := i) rfl rfl (by first | assumption | exact upd_eq _ _ _ | ((repeat (refine (upd_ne _ _ (by omega)).trans ?_)); first | assumption | exact upd_eq _ _ _)) (by exact rfl) (rfl) (by omega) (by omega) (rfl) ?_
        refine Gq_s (pc' := 100) (lv' := [(0, _), (1, _), (2, _), (3, _), (4, _), (5, _)]) rfl rfl rfl ?_
        refine Gq_s (pc' := 101) rfl rfl rfl ?_
        refine Gq_s (pc' := 103) (lv' := [(0, _), (1, _), (2, _), (3, _), (4, _), (5, _), (6, _)]) rfl rfl rfl ?_
        refine t_on_n hLs hLw hK hL hF hn hxn h1 hQ hp hi (nd k i) 0 s rfl (by omega) ho ?_
        refine Gq_iinc (pc' := 163) (lv' := [(0, _), (1, _), (2, _), (3, _), (4, _)]) rfl rfl rfl rfl ?_
        refine Gq_goto rfl (t := 71) rfl ?_
        rw [em]
        exact ih _ (by omega) ho2 kk
    · refine Gq_goto rfl (t := 160) rfl ?_
      refine Gq_iinc (pc' := 163) (lv' := [(0, _), (1, _), (2, _), (3, _), (4, _)]) rfl rfl rfl rfl ?_
      refine Gq_goto rfl (t := 71) rfl ?_
      rw [em]
      have e : nPk vr lk k s = s := by
        unfold nPk
        rw [b3 (by omega)]
      have kk : Gw _ _ _ _ _ (hup H n (true, 0, aNt 6 (dRun vr lk k (nPk vr lk k s)).1)) _ _ _ _ := kk
      rw [e] at kk
      exact ih s (by omega) ho kk
theorem t_on_r {L : Nat} {ys : Nat → Int32} (hLs : L ≤ 100000) {q d P n x : Nat} {cnt : Nat → Nat} {vd : Nat → Nat → Nat} {vr : Nat → VR} {wl : List CR} {siz : Nat → Nat → Int} {wdr : Nat → Nat → Bool} {num : Nat → Nat → Nat → Int} {nd kd : Nat → Nat → List NR} {ws : List NR} {nid qid kid : Nat → Nat → Nat} {wid : Nat → Nat} {lk : Nat → Option Nat} {H : HF} (hLw : LwP H q d P cnt siz wdr num nd kd ws nid qid kid wid) (hK : Lnk P cnt vd vr siz wdr num nd kd ws wl) (hL : ∀ q o, lk q = some o → Own P cnt vd q o) (hF : Frs H n) (hn : 119 ≤ n) (hxn : x < n) (h1 : H x = some (true, 0, aI 6 (lkI P vr lk))) (hN : NOK vr lk) : ∀ (k j : Nat) (on : Nat → Nat), j + k = 24 → o16 on → Gw (some (L, ys)) xm137 57 [(0, .ref 0), (1, .ref x), (2, .ref n), (3, .int (zI (j : Int)))] [] (hup H n (true, 0, aNt 6 on)) (n + 1) 1 6 (MQe xm137 (fun v G m => v = some (.ref n) ∧ m = n + 1 ∧ G = (hup H n (true, 0, aNt 6 (dIt vr lk P k on))))) := by
  intro k
  induction k with
  | zero =>
    intro j on hj ho
    refine Gq_s (pc' := 58) rfl rfl rfl ?_
    refine Gq_bipush (pc' := 60) rfl rfl (by decide) ?_
    refine Gq_cge (pc' := 63) (t := 172) rfl rfl rfl (by omega) (by omega) (fun _ => ?_) (fun hq => absurd (by omega) hq)
    refine Gq_s (pc' := 173) rfl rfl rfl ?_
    exact Gq_ret rfl rfl (rfl) (⟨rfl, rfl, rfl⟩)
  | succ k ih =>
    intro j on hj ho
    obtain ⟨h0, -, -, -, -, ⟨hq0, hq1⟩, -, hws, -, hqd, -, hwd⟩ := id hLw
    obtain ⟨⟨hP2, hP6⟩, hcnt, hvr, ⟨hwl, hwn, hwr⟩, hkk, -, -⟩ := id hK
    refine Gq_s (pc' := 58) rfl rfl rfl ?_
    refine Gq_bipush (pc' := 60) rfl rfl (by decide) ?_
    refine Gq_cge (pc' := 63) (t := 172) rfl rfl rfl (by omega) (by omega) (fun hq => absurd hq (by omega)) (fun _ => ?_)
    refine Gq_s (pc' := 64) rfl rfl rfl ?_
    refine Gq_get (pc' := 67) rfl rfl (by first | assumption | exact upd_eq _ _ _ | ((repeat (refine (upd_ne _ _ (by omega)).trans ?_)); first | assumption | exact upd_eq _ _ _)) (by exact rfl) ?_
    refine Gq_s (pc' := 68) rfl rfl rfl ?_
    refine Gq_isub (pc' := 69) rfl rfl ?_
    refine Gq_s (pc' := 71) (lv' := [(0, _), (1, _), (2, _), (3, _), (4, _)]) rfl rfl rfl ?_
    refine t_on_p hLs hLw hK hL hF hn hxn h1 hN MQ_nl P (on, false) (Nat.le_refl _) ho ?_
    refine Gq_iinc (pc' := 169) (lv' := [(0, _), (1, _), (2, _), (3, _)]) rfl rfl rfl rfl ?_
    refine Gq_goto rfl (t := 57) rfl ?_
    exact ih (j + 1) _ (by omega) (d16 hN P _ (by omega) ho)
theorem t_on {L : Nat} {ys : Nat → Int32} (hLs : L ≤ 100000) {H : HF} (n : Nat) {q d P x : Nat} {cnt : Nat → Nat} {vd : Nat → Nat → Nat} {vr : Nat → VR} {wl : List CR} {siz : Nat → Nat → Int} {wdr : Nat → Nat → Bool} {num : Nat → Nat → Nat → Int} {nd kd : Nat → Nat → List NR} {ws : List NR} {nid qid kid : Nat → Nat → Nat} {wid : Nat → Nat} {lk : Nat → Option Nat} (hLw : LwP H q d P cnt siz wdr num nd kd ws nid qid kid wid) (hK : Lnk P cnt vd vr siz wdr num nd kd ws wl) (hL : ∀ q o, lk q = some o → Own P cnt vd q o) (hN : NOK vr lk) (hw : ∀ c ∈ wl, cOK c) (hx : 119 ≤ x) (h1 : H x = some (true, 0, aI 6 (lkI P vr lk))) : Rmt (some (L, ys)) 137 [.ref 0, .ref x] H n (fun v G m => v = some (.ref n) ∧ m = n + 1 ∧ G = (hup H n (true, 0, aNt 6 (onF vr lk wl)))) := by
  refine Rm_fr (fun hF => ?_)
  have hxn := Fr_lt hF h1
  have hn : 119 ≤ n := by omega
  have hVS : VSm vr lk := fun p o h c hc => by
    obtain ⟨i, hp, hi, -, rfl, -, -, e⟩ := lk_of hK hL h
    rw [e] at hc
    obtain ⟨r, hr, rfl⟩ := List.mem_map.mp hc
    have := (hK.2.2.2.2.1 p i hp hi).1.2 r hr
    exact ⟨this.2.2.1, Nat.lt_of_lt_of_le this.1 hK.1.2⟩
  have hws9 : ∀ c ∈ wl, cOK c ∧ cSm c := fun c hc => ⟨hw c hc, by
    obtain ⟨e, -, e2⟩ := hK.2.2.2.1
    rw [e] at hc
    obtain ⟨r, hr, rfl⟩ := List.mem_map.mp hc
    exact ⟨(e2 r hr).2.2.1, Nat.lt_of_lt_of_le (e2 r hr).1 hK.1.2⟩⟩
  have hno : ∀ p, P ≤ p → lk p = none := fun p hp => by
    cases h : lk p with
    | none => rfl
    | some o => exact absurd (hL p o h).1 (by omega)
  rw [← dIt_on hN hVS hws9 (P := P) (by have := hK.1.2; omega) hno]
  refine Rm_of (M := xm137) (lv := [(0, _), (1, _)]) rfl rfl rfl ?_
  refine Gq_bipush (pc' := 2) rfl rfl (by decide) ?_
  refine Gq_newa (pc' := 4) (N := 6) rfl (fun _ => rfl) rfl rfl (rfl) (by decide) ((rep_I _)) (by decide) (by decide) ?_
  refine Gq_s (pc' := 5) (lv' := [(0, _), (1, _), (2, _)]) rfl rfl rfl ?_
  refine Gq_s (pc' := 6) rfl rfl rfl ?_
  refine Gq_s (pc' := 7) (lv' := [(0, _), (1, _), (2, _), (3, _)]) rfl rfl rfl ?_
  refine t_on_a hLs hLw hK hL hF hn hxn h1 ws 0 (fun _ => 0) rfl (by omega) ?_
  rw [← hK.2.2.2.1.1]
  exact t_on_r hLs hLw hK hL hF hn hxn h1 hN 24 0 _ rfl (o16_wl hw o16_0)
end XKt
