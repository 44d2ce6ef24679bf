/-! leaves (printed by wip/p46/gen22.py) -/
section XK2
theorem t_isIn {S : ScT} (H : HF) (n : Nat) (x : Int32) (p : Nat) : Rdt S 61 [.int x, .int (zI (p : Int))] H n (some (.int (zI (bI (isInB x p))))) H n := by
  refine Rm_of (M := xm61) (lv := [(0, _), (1, _)]) rfl rfl rfl ?_
  refine Gq_s (pc' := 1) rfl rfl rfl ?_
  refine Gq_s (pc' := 2) rfl rfl rfl ?_
  refine Gq_ishr (pc' := 3) (_) rfl rfl (rfl) ?_
  refine Gq_s (pc' := 4) rfl rfl rfl ?_
  refine Gq_iand (pc' := 5) (zI (bI (isInB x p))) rfl rfl (and1 _) ?_
  refine Gq_beq (pc' := 8) (t := 12) rfl rfl rfl (fun hb => ?_) (fun hb => ?_)
  · refine Gq_s (pc' := 13) rfl rfl rfl ?_
    exact Gq_ret rfl rfl (rfl) (⟨by rw [hb]; rfl, rfl, rfl⟩)
  · refine Gq_s (pc' := 9) rfl rfl rfl ?_
    refine Gq_goto rfl (t := 13) rfl ?_
    exact Gq_ret rfl rfl (rfl) (⟨by rw [hb]; rfl, rfl, rfl⟩)
theorem t_numberOfn {S : ScT} (H : HF) (n : Nat) (vr : Nat → VR) : Rdt S 59 [.null] H n (some (.int (zI (nmOf vr none)))) H n := by
  refine Rm_of (M := xm59) (lv := [(0, _)]) rfl rfl rfl ?_
  refine Gq_s (pc' := 1) rfl rfl rfl ?_
  refine Gq_non_n (pc' := 4) (t := 8) rfl rfl rfl ?_
  refine Gq_s (pc' := 5) rfl rfl rfl ?_
  refine Gq_goto rfl (t := 12) rfl ?_
  exact Gq_ret rfl rfl (rfl) (⟨rfl, rfl, rfl⟩)
theorem t_numberOfr {S : ScT} {H : HF} (n : Nat) {vr : Nat → VR} {k : Nat} (hk : VerAt H k (vr k)) : Rdt S 59 [.ref k] H n (some (.int (zI (nmOf vr (some k))))) H n := by
  refine Rm_of (M := xm59) (lv := [(0, _)]) rfl rfl rfl ?_
  obtain ⟨-, -, f, g, h0, -⟩ := hk
  refine Gq_s (pc' := 1) rfl rfl rfl ?_
  refine Gq_non_r rfl (t := 8) rfl ?_
  refine Gq_s (pc' := 9) rfl rfl rfl ?_
  refine Gq_get (pc' := 12) rfl rfl (by first | assumption | exact upd_eq _ _ _ | (refine (upd_ne _ _ (by omega)).trans ?_; first | assumption | exact upd_eq _ _ _ | (refine (upd_ne _ _ (by omega)).trans ?_; first | assumption | exact upd_eq _ _ _ | (refine (upd_ne _ _ (by omega)).trans ?_; first | assumption | exact upd_eq _ _ _)))) (by exact rfl) ?_
  exact Gq_ret rfl rfl (rfl) (⟨rfl, rfl, rfl⟩)
theorem t_numberOf {S : ScT} {H : HF} (n : Nat) {vr : Nat → VR} {x : Option Nat} (hx : ∀ k, x = some k → VerAt H k (vr k)) : Rdt S 59 [rvl x] H n (some (.int (zI (nmOf vr x)))) H n := by
  cases x with
  | none => exact t_numberOfn H n vr
  | some k => exact t_numberOfr n (hx k rfl)
theorem t_sizeOfn {S : ScT} (H : HF) (n : Nat) (vr : Nat → VR) : Rdt S 60 [.null] H n (some (.int (zI (szOf vr none)))) H n := by
  refine Rm_of (M := xm60) (lv := [(0, _)]) rfl rfl rfl ?_
  refine Gq_s (pc' := 1) rfl rfl rfl ?_
  refine Gq_non_n (pc' := 4) (t := 8) rfl rfl rfl ?_
  refine Gq_s (pc' := 5) rfl rfl rfl ?_
  refine Gq_goto rfl (t := 12) rfl ?_
  exact Gq_ret rfl rfl (rfl) (⟨rfl, rfl, rfl⟩)
theorem t_sizeOfr {S : ScT} {H : HF} (n : Nat) {vr : Nat → VR} {k : Nat} (hk : VerAt H k (vr k)) : Rdt S 60 [.ref k] H n (some (.int (zI (szOf vr (some k))))) H n := by
  refine Rm_of (M := xm60) (lv := [(0, _)]) rfl rfl rfl ?_
  obtain ⟨-, -, f, g, h0, -⟩ := hk
  refine Gq_s (pc' := 1) rfl rfl rfl ?_
  refine Gq_non_r rfl (t := 8) rfl ?_
  refine Gq_s (pc' := 9) rfl rfl rfl ?_
  refine Gq_get (pc' := 12) rfl rfl (by first | assumption | exact upd_eq _ _ _ | (refine (upd_ne _ _ (by omega)).trans ?_; first | assumption | exact upd_eq _ _ _ | (refine (upd_ne _ _ (by omega)).trans ?_; first | assumption | exact upd_eq _ _ _ | (refine (upd_ne _ _ (by omega)).trans ?_; first | assumption | exact upd_eq _ _ _)))) (by exact rfl) ?_
  exact Gq_ret rfl rfl (rfl) (⟨rfl, rfl, rfl⟩)
theorem t_sizeOf {S : ScT} {H : HF} (n : Nat) {vr : Nat → VR} {x : Option Nat} (hx : ∀ k, x = some k → VerAt H k (vr k)) : Rdt S 60 [rvl x] H n (some (.int (zI (szOf vr x)))) H n := by
  cases x with
  | none => exact t_sizeOfn H n vr
  | some k => exact t_sizeOfr n (hx k rfl)
theorem t_countsWith {S : ScT} {H : HF} (n : Nat) {q f : Nat} {c : CR} {nx : Value} (hc : ClaimAt H q c nx) (hf : f < 16) : Rdt S 90 [.ref q, .int (zI (f : Int))] H n (some (.int (zI (bI (cCnt c f))))) H n := by
  refine Rm_of (M := xm90) (lv := [(0, _), (1, _)]) rfl rfl rfl ?_
  obtain ⟨-, ⟨-, hC, -⟩, r, -, -, h0⟩ := hc
  refine Gq_s (pc' := 1) rfl rfl rfl ?_
  refine Gq_get (pc' := 4) rfl rfl (by first | assumption | exact upd_eq _ _ _ | (refine (upd_ne _ _ (by omega)).trans ?_; first | assumption | exact upd_eq _ _ _ | (refine (upd_ne _ _ (by omega)).trans ?_; first | assumption | exact upd_eq _ _ _ | (refine (upd_ne _ _ (by omega)).trans ?_; first | assumption | exact upd_eq _ _ _)))) (by exact rfl) ?_
  refine Gq_zlt (pc' := 7) (t := 18) rfl rfl rfl (by omega) (fun hb => ?_) (fun hb => ?_)
  · refine Gq_s (pc' := 19) rfl rfl rfl ?_
    refine Gq_goto rfl (t := 23) rfl ?_
    exact Gq_ret rfl rfl (rfl) (⟨by unfold cCnt; rw [decide_eq_true hb]; rfl, rfl, rfl⟩)
  · refine Gq_s (pc' := 8) rfl rfl rfl ?_
    refine Gq_s (pc' := 9) rfl rfl rfl ?_
    refine Gq_get (pc' := 12) rfl rfl (by first | assumption | exact upd_eq _ _ _ | (refine (upd_ne _ _ (by omega)).trans ?_; first | assumption | exact upd_eq _ _ _ | (refine (upd_ne _ _ (by omega)).trans ?_; first | assumption | exact upd_eq _ _ _ | (refine (upd_ne _ _ (by omega)).trans ?_; first | assumption | exact upd_eq _ _ _)))) (by exact rfl) ?_
    refine Gq_ishr (pc' := 13) (zI ((f >>> (cC c).toNat : Nat) : Int)) rfl rfl (by rw [show cC c = (((cC c).toNat : Nat) : Int) by omega]; exact z_shr (by omega) (by omega)) ?_
    refine Gq_s (pc' := 14) rfl rfl rfl ?_
    refine Gq_iand (pc' := 15) (zI (bI (f.testBit (cC c).toNat))) rfl rfl (by rw [show Int32.ofInt 1 = zI ((1 : Nat) : Int) from rfl, z_and, tb_and]; cases f.testBit (cC c).toNat <;> rfl) ?_
    refine Gq_beq (pc' := 18) (t := 22) rfl rfl rfl (fun h2 => ?_) (fun h2 => ?_)
    · refine Gq_s (pc' := 23) rfl rfl rfl ?_
      exact Gq_ret rfl rfl (rfl) (⟨by unfold cCnt; rw [decide_eq_false hb, h2]; rfl, rfl, rfl⟩)
    · refine Gq_s (pc' := 19) rfl rfl rfl ?_
      refine Gq_goto rfl (t := 23) rfl ?_
      exact Gq_ret rfl rfl (rfl) (⟨by unfold cCnt; rw [decide_eq_false hb, h2]; rfl, rfl, rfl⟩)
theorem t_admits {S : ScT} {H : HF} (n : Nat) {r k : Nat} {c : CR} {v : VR} (h1 : H r = some (false, 9, [.int (zI (cA c)), .int (zI (cE c))])) (hc : cOK c) (hk : VerAt H k v) : Rdt S 107 [.ref r, .ref k] H n (some (.int (zI (bI (cIn c (vM v)))))) H n := by
  refine Rm_of (M := xm107) (lv := [(0, _), (1, _)]) rfl rfl rfl ?_
  obtain ⟨-, -, -, hA, hE⟩ := hc
  obtain ⟨-, ⟨-, hM, -⟩, f, g, h0, -⟩ := hk
  refine Gq_s (pc' := 1) rfl rfl rfl ?_
  refine Gq_get (pc' := 4) rfl rfl (by first | assumption | exact upd_eq _ _ _ | (refine (upd_ne _ _ (by omega)).trans ?_; first | assumption | exact upd_eq _ _ _ | (refine (upd_ne _ _ (by omega)).trans ?_; first | assumption | exact upd_eq _ _ _ | (refine (upd_ne _ _ (by omega)).trans ?_; first | assumption | exact upd_eq _ _ _)))) (by exact rfl) ?_
  refine Gq_s (pc' := 5) rfl rfl rfl ?_
  refine Gq_get (pc' := 8) rfl rfl (by first | assumption | exact upd_eq _ _ _ | (refine (upd_ne _ _ (by omega)).trans ?_; first | assumption | exact upd_eq _ _ _ | (refine (upd_ne _ _ (by omega)).trans ?_; first | assumption | exact upd_eq _ _ _ | (refine (upd_ne _ _ (by omega)).trans ?_; first | assumption | exact upd_eq _ _ _)))) (by exact rfl) ?_
  refine Gq_clt (pc' := 11) (t := 26) rfl rfl rfl (by omega) (by omega) (fun hb => ?_) (fun hb => ?_)
  · refine Gq_s (pc' := 27) rfl rfl rfl ?_
    exact Gq_ret rfl rfl (rfl) (⟨by unfold cIn; rw [decide_eq_false (by omega : ¬ cA c ≤ vM v)]; rfl, rfl, rfl⟩)
  · refine Gq_s (pc' := 12) rfl rfl rfl ?_
    refine Gq_get (pc' := 15) rfl rfl (by first | assumption | exact upd_eq _ _ _ | (refine (upd_ne _ _ (by omega)).trans ?_; first | assumption | exact upd_eq _ _ _ | (refine (upd_ne _ _ (by omega)).trans ?_; first | assumption | exact upd_eq _ _ _ | (refine (upd_ne _ _ (by omega)).trans ?_; first | assumption | exact upd_eq _ _ _)))) (by exact rfl) ?_
    refine Gq_s (pc' := 16) rfl rfl rfl ?_
    refine Gq_get (pc' := 19) rfl rfl (by first | assumption | exact upd_eq _ _ _ | (refine (upd_ne _ _ (by omega)).trans ?_; first | assumption | exact upd_eq _ _ _ | (refine (upd_ne _ _ (by omega)).trans ?_; first | assumption | exact upd_eq _ _ _ | (refine (upd_ne _ _ (by omega)).trans ?_; first | assumption | exact upd_eq _ _ _)))) (by exact rfl) ?_
    refine Gq_cge (pc' := 22) (t := 26) rfl rfl rfl (by omega) (by omega) (fun h2 => ?_) (fun h2 => ?_)
    · refine Gq_s (pc' := 27) rfl rfl rfl ?_
      exact Gq_ret rfl rfl (rfl) (⟨by unfold cIn; rw [decide_eq_true (by omega : cA c ≤ vM v), decide_eq_false (by omega : ¬ vM v < cE c)]; rfl, rfl, rfl⟩)
    · refine Gq_s (pc' := 23) rfl rfl rfl ?_
      refine Gq_goto rfl (t := 27) rfl ?_
      exact Gq_ret rfl rfl (rfl) (⟨by unfold cIn; rw [decide_eq_true (by omega : cA c ≤ vM v), decide_eq_true (by omega : vM v < cE c)]; rfl, rfl, rfl⟩)
theorem t_clear_l {S : ScT} {t n : Nat} : ∀ (k j : Nat) (H : HF) (ch : Nat → Option Nat), j + k = 12 → H t = some (false, 2, [.ref (t + 1), .ref (t + 2)]) → H (t + 1) = some (true, 3, aR 12 ch) → (∀ p, p < j → ch p = none) → Gw S xm74 2 [(0, .ref t), (1, .int (zI (j : Int)))] [] H n 0 0 (MQe xm74 (fun v G m => v = none ∧ G = hup H (t + 1) (true, 3, aR 12 (fun _ => none)) ∧ m = n)) := by
  intro k
  induction k with
  | zero =>
    intro j H ch hj h0 h1 hc
    refine Gq_s (pc' := 3) rfl rfl rfl ?_
    refine Gq_bipush (pc' := 5) rfl rfl (by decide) ?_
    refine Gq_cge (pc' := 8) (t := 21) rfl rfl rfl (by omega) (by omega) (fun _ => ?_) (fun hq => absurd (by omega) hq)
    exact Gq_ret rfl rfl (rfl) (⟨rfl, (upd_self (by rw [h1]; exact congrArg (fun z => some (true, 3, z)) (aX_ext fun p hp => by rw [hc p (by omega)]))).symm, rfl⟩)
  | succ k ih =>
    intro j H ch hj h0 h1 hc
    refine Gq_s (pc' := 3) rfl rfl rfl ?_
    refine Gq_bipush (pc' := 5) rfl rfl (by decide) ?_
    refine Gq_cge (pc' := 8) (t := 21) rfl rfl rfl (by omega) (by omega) (fun hq => absurd hq (by omega)) (fun _ => ?_)
    refine Gq_s (pc' := 9) rfl rfl rfl ?_
    refine Gq_get (pc' := 12) rfl rfl (by first | assumption | exact upd_eq _ _ _ | (refine (upd_ne _ _ (by omega)).trans ?_; first | assumption | exact upd_eq _ _ _ | (refine (upd_ne _ _ (by omega)).trans ?_; first | assumption | exact upd_eq _ _ _ | (refine (upd_ne _ _ (by omega)).trans ?_; first | assumption | exact upd_eq _ _ _)))) (by exact rfl) ?_
    refine Gq_s (pc' := 13) rfl rfl rfl ?_
    refine Gq_s (pc' := 14) rfl rfl rfl ?_
    refine Gq_aast (pc' := 15) (none) rfl rfl (by first | assumption | exact upd_eq _ _ _ | (refine (upd_ne _ _ (by omega)).trans ?_; first | assumption | exact upd_eq _ _ _ | (refine (upd_ne _ _ (by omega)).trans ?_; first | assumption | exact upd_eq _ _ _ | (refine (upd_ne _ _ (by omega)).trans ?_; first | assumption | exact upd_eq _ _ _)))) (by exact rfl) (fun _ => rfl) (rfl) (fun _ hz => nomatch hz) (rfl) (by omega) (by omega) ?_
    refine Gq_iinc (pc' := 18) (lv' := [(0, _), (1, _)]) rfl rfl rfl rfl ?_
    refine Gq_goto rfl (t := 2) rfl ?_
    have := ih (j + 1) (hup H (t + 1) (true, 3, aR 12 (fset ch j none))) (fset ch j none) (by omega) (by rw [upd_ne _ _ (by omega)]; exact h0) (upd_eq _ _ _) (fun p hp => by
      by_cases e : p = j
      · subst e; exact fset_eq _ _ _
      · rw [fset_ne _ _ e]; exact hc p (by omega))
    simp only [upd_upd] at this
    exact this
theorem t_clear {S : ScT} {H : HF} (n : Nat) {t : Nat} {ch : Nat → Option Nat} (h0 : H t = some (false, 2, [.ref (t + 1), .ref (t + 2)])) (h1 : H (t + 1) = some (true, 3, aR 12 ch)) : Rdt S 74 [.ref t] H n none (hup H (t + 1) (true, 3, aR 12 (fun _ => none))) n := by
  refine Rm_of (M := xm74) (lv := [(0, _)]) rfl rfl rfl ?_
  refine Gq_s (pc' := 1) rfl rfl rfl ?_
  refine Gq_s (pc' := 2) (lv' := [(0, _), (1, _)]) rfl rfl rfl ?_
  exact t_clear_l 12 0 H ch rfl h0 h1 (fun p hp => absurd hp (by omega))
theorem t_become_l {S : ScT} {t u n : Nat} {dh : Nat → Option Nat} (htu : ¬ u + 1 = t + 1 ∧ ¬ u = t + 1) (hlt : t + 2 < 119) {vr : Nat → VR} {V : Nat → Prop} (hV : ChV V dh) : ∀ (k j : Nat) (H : HF) (ch : Nat → Option Nat), j + k = 12 → VsA H vr V → H t = some (false, 2, [.ref (t + 1), .ref (t + 2)]) → H (t + 1) = some (true, 3, aR 12 ch) → H u = some (false, 2, [.ref (u + 1), .ref (u + 2)]) → H (u + 1) = some (true, 3, aR 12 dh) → (∀ p, p < j → ch p = dh p) → Gw S xm75 2 [(0, .ref t), (1, .ref u), (2, .int (zI (j : Int)))] [] H n 0 0 (MQe xm75 (fun v G m => v = none ∧ G = hup H (t + 1) (true, 3, aR 12 dh) ∧ m = n)) := by
  intro k
  induction k with
  | zero =>
    intro j H ch hj hvs h0 h1 h2 h3 hc
    refine Gq_s (pc' := 3) rfl rfl rfl ?_
    refine Gq_bipush (pc' := 5) rfl rfl (by decide) ?_
    refine Gq_cge (pc' := 8) (t := 26) rfl rfl rfl (by omega) (by omega) (fun _ => ?_) (fun hq => absurd (by omega) hq)
    exact Gq_ret rfl rfl (rfl) (⟨rfl, (upd_self (by rw [h1]; exact congrArg (fun z => some (true, 3, z)) (aX_ext fun p hp => by rw [hc p (by omega)]))).symm, rfl⟩)
  | succ k ih =>
    intro j H ch hj hvs h0 h1 h2 h3 hc
    refine Gq_s (pc' := 3) rfl rfl rfl ?_
    refine Gq_bipush (pc' := 5) rfl rfl (by decide) ?_
    refine Gq_cge (pc' := 8) (t := 26) rfl rfl rfl (by omega) (by omega) (fun hq => absurd hq (by omega)) (fun _ => ?_)
    refine Gq_s (pc' := 9) rfl rfl rfl ?_
    refine Gq_get (pc' := 12) rfl rfl (by first | assumption | exact upd_eq _ _ _ | (refine (upd_ne _ _ (by omega)).trans ?_; first | assumption | exact upd_eq _ _ _ | (refine (upd_ne _ _ (by omega)).trans ?_; first | assumption | exact upd_eq _ _ _ | (refine (upd_ne _ _ (by omega)).trans ?_; first | assumption | exact upd_eq _ _ _)))) (by exact rfl) ?_
    refine Gq_s (pc' := 13) rfl rfl rfl ?_
    refine Gq_s (pc' := 14) rfl rfl rfl ?_
    refine Gq_get (pc' := 17) rfl rfl (by first | assumption | exact upd_eq _ _ _ | (refine (upd_ne _ _ (by omega)).trans ?_; first | assumption | exact upd_eq _ _ _ | (refine (upd_ne _ _ (by omega)).trans ?_; first | assumption | exact upd_eq _ _ _ | (refine (upd_ne _ _ (by omega)).trans ?_; first | assumption | exact upd_eq _ _ _)))) (by exact rfl) ?_
    refine Gq_s (pc' := 18) rfl rfl rfl ?_
    refine Gq_aald (pc' := 19) rfl rfl (by first | assumption | exact upd_eq _ _ _ | (refine (upd_ne _ _ (by omega)).trans ?_; first | assumption | exact upd_eq _ _ _ | (refine (upd_ne _ _ (by omega)).trans ?_; first | assumption | exact upd_eq _ _ _ | (refine (upd_ne _ _ (by omega)).trans ?_; first | assumption | exact upd_eq _ _ _)))) (by exact rfl) (rfl) (by omega) (by omega) (rfl) ?_
    refine Gq_aast (pc' := 20) (dh j) rfl rfl (by first | assumption | exact upd_eq _ _ _ | (refine (upd_ne _ _ (by omega)).trans ?_; first | assumption | exact upd_eq _ _ _ | (refine (upd_ne _ _ (by omega)).trans ?_; first | assumption | exact upd_eq _ _ _ | (refine (upd_ne _ _ (by omega)).trans ?_; first | assumption | exact upd_eq _ _ _)))) (by exact rfl) (fun _ => rfl) (rfl) (VS_aOK hvs hV (by omega)) (rfl) (by omega) (by omega) ?_
    refine Gq_iinc (pc' := 23) (lv' := [(0, _), (1, _), (2, _)]) rfl rfl rfl rfl ?_
    refine Gq_goto rfl (t := 2) rfl ?_
    have := ih (j + 1) (hup H (t + 1) (true, 3, aR 12 (fset ch j (dh j)))) (fset ch j (dh j)) (by omega) (VS_upd (by omega) hvs) (by rw [upd_ne _ _ (by omega)]; exact h0) (upd_eq _ _ _) (by rw [upd_ne _ _ htu.2]; exact h2) (by rw [upd_ne _ _ htu.1]; exact h3) (fun p hp => by
      by_cases e : p = j
      · subst e; exact fset_eq _ _ _
      · rw [fset_ne _ _ e]; exact hc p (by omega))
    simp only [upd_upd] at this
    exact this
theorem t_become {S : ScT} {H : HF} (n : Nat) {t u : Nat} {ch dh : Nat → Option Nat} {vr : Nat → VR} {V : Nat → Prop} (hvs : VsA H vr V) (hV : ChV V dh) (htu : ¬ u + 1 = t + 1 ∧ ¬ u = t + 1) (hlt : t + 2 < 119) (h0 : H t = some (false, 2, [.ref (t + 1), .ref (t + 2)])) (h1 : H (t + 1) = some (true, 3, aR 12 ch)) (h2 : H u = some (false, 2, [.ref (u + 1), .ref (u + 2)])) (h3 : H (u + 1) = some (true, 3, aR 12 dh)) : Rdt S 75 [.ref t, .ref u] H n none (hup H (t + 1) (true, 3, aR 12 dh)) n := by
  refine Rm_of (M := xm75) (lv := [(0, _), (1, _)]) rfl rfl rfl ?_
  refine Gq_s (pc' := 1) rfl rfl rfl ?_
  refine Gq_s (pc' := 2) (lv' := [(0, _), (1, _), (2, _)]) rfl rfl rfl ?_
  exact t_become_l htu hlt hV 12 0 H ch rfl hvs h0 h1 h2 h3 (fun p hp => absurd hp (by omega))
theorem t_diff_l {S : ScT} {H : HF} {n t u : Nat} {ch dh : Nat → Option Nat} {vr : Nat → VR} {V : Nat → Prop} (hvs : VsA H vr V) (hC : ChV V ch) (hD : ChV V dh) (h0 : H t = some (false, 2, [.ref (t + 1), .ref (t + 2)])) (h1 : H (t + 1) = some (true, 3, aR 12 ch)) (h2 : H u = some (false, 2, [.ref (u + 1), .ref (u + 2)])) (h3 : H (u + 1) = some (true, 3, aR 12 dh)) : ∀ (k j : Nat), j + k = 12 → Gw S xm76 4 [(0, .ref t), (1, .ref u), (2, .int (zI (cntTo (fun p => decide (¬ ch p = dh p)) j : Int))), (3, .int (zI (j : Int)))] [] H n 0 0 (MQe xm76 (fun v G m => v = some (.int (zI (diffs ch dh : Int))) ∧ G = H ∧ m = n)) := by
  intro k
  induction k with
  | zero =>
    intro j hj
    obtain rfl : j = 12 := by omega
    refine Gq_s (pc' := 5) rfl rfl rfl ?_
    refine Gq_bipush (pc' := 7) rfl rfl (by decide) ?_
    refine Gq_cge (pc' := 10) (t := 34) rfl rfl rfl (by omega) (by omega) (fun _ => ?_) (fun hq => absurd (by omega) hq)
    refine Gq_s (pc' := 35) rfl rfl rfl ?_
    exact Gq_ret rfl rfl (rfl) (⟨rfl, rfl, rfl⟩)
  | succ k ih =>
    intro j hj
    refine Gq_s (pc' := 5) rfl rfl rfl ?_
    refine Gq_bipush (pc' := 7) rfl rfl (by decide) ?_
    refine Gq_cge (pc' := 10) (t := 34) rfl rfl rfl (by omega) (by omega) (fun hq => absurd hq (by omega)) (fun _ => ?_)
    refine Gq_s (pc' := 11) rfl rfl rfl ?_
    refine Gq_get (pc' := 14) rfl rfl (by first | assumption | exact upd_eq _ _ _ | (refine (upd_ne _ _ (by omega)).trans ?_; first | assumption | exact upd_eq _ _ _ | (refine (upd_ne _ _ (by omega)).trans ?_; first | assumption | exact upd_eq _ _ _ | (refine (upd_ne _ _ (by omega)).trans ?_; first | assumption | exact upd_eq _ _ _)))) (by exact rfl) ?_
    refine Gq_s (pc' := 15) rfl rfl rfl ?_
    refine Gq_aald (pc' := 16) rfl rfl (by first | assumption | exact upd_eq _ _ _ | (refine (upd_ne _ _ (by omega)).trans ?_; first | assumption | exact upd_eq _ _ _ | (refine (upd_ne _ _ (by omega)).trans ?_; first | assumption | exact upd_eq _ _ _ | (refine (upd_ne _ _ (by omega)).trans ?_; first | assumption | exact upd_eq _ _ _)))) (by exact rfl) (rfl) (by omega) (by omega) (rfl) ?_
    refine Gq_s (pc' := 17) rfl rfl rfl ?_
    refine Gq_get (pc' := 20) rfl rfl (by first | assumption | exact upd_eq _ _ _ | (refine (upd_ne _ _ (by omega)).trans ?_; first | assumption | exact upd_eq _ _ _ | (refine (upd_ne _ _ (by omega)).trans ?_; first | assumption | exact upd_eq _ _ _ | (refine (upd_ne _ _ (by omega)).trans ?_; first | assumption | exact upd_eq _ _ _)))) (by exact rfl) ?_
    refine Gq_s (pc' := 21) rfl rfl rfl ?_
    refine Gq_aald (pc' := 22) rfl rfl (by first | assumption | exact upd_eq _ _ _ | (refine (upd_ne _ _ (by omega)).trans ?_; first | assumption | exact upd_eq _ _ _ | (refine (upd_ne _ _ (by omega)).trans ?_; first | assumption | exact upd_eq _ _ _ | (refine (upd_ne _ _ (by omega)).trans ?_; first | assumption | exact upd_eq _ _ _)))) (by exact rfl) (rfl) (by omega) (by omega) (rfl) ?_
    refine Gq_aceq (pc' := 25) (t := 28) (ch j) (dh j) rfl rfl rfl (rfl) (rfl) (VS_rvOK hvs hC (by omega)) (VS_rvOK hvs hD (by omega)) (fun he => ?_) (fun he => ?_)
    · refine Gq_iinc (pc' := 31) (lv' := [(0, _), (1, _), (2, _), (3, _)]) rfl rfl rfl rfl ?_
      refine Gq_goto rfl (t := 4) rfl ?_
      have e : cntTo (fun p => decide (¬ ch p = dh p)) (j + 1) = cntTo (fun p => decide (¬ ch p = dh p)) j := by
        show cntTo _ j + (if decide (¬ ch j = dh j) then 1 else 0) = _
        rw [decide_eq_false (fun q => q he)]; rfl
      have := ih (j + 1) (by omega)
      rw [e] at this
      exact this
    · refine Gq_iinc (pc' := 28) (lv' := [(0, _), (1, _), (2, _), (3, _)]) rfl rfl rfl rfl ?_
      refine Gq_iinc (pc' := 31) (lv' := [(0, _), (1, _), (2, _), (3, _)]) rfl rfl rfl rfl ?_
      refine Gq_goto rfl (t := 4) rfl ?_
      have e : cntTo (fun p => decide (¬ ch p = dh p)) (j + 1) = cntTo (fun p => decide (¬ ch p = dh p)) j + 1 := by
        show cntTo _ j + (if decide (¬ ch j = dh j) then 1 else 0) = _
        rw [decide_eq_true he]; rfl
      have := ih (j + 1) (by omega)
      rw [e] at this
      exact this
theorem t_diff {S : ScT} {H : HF} {n t u : Nat} {ch dh : Nat → Option Nat} {vr : Nat → VR} {V : Nat → Prop} (hvs : VsA H vr V) (hC : ChV V ch) (hD : ChV V dh) (h0 : H t = some (false, 2, [.ref (t + 1), .ref (t + 2)])) (h1 : H (t + 1) = some (true, 3, aR 12 ch)) (h2 : H u = some (false, 2, [.ref (u + 1), .ref (u + 2)])) (h3 : H (u + 1) = some (true, 3, aR 12 dh)) : Rdt S 76 [.ref t, .ref u] H n (some (.int (zI (diffs ch dh : Int)))) H n := by
  refine Rm_of (M := xm76) (lv := [(0, _), (1, _)]) rfl rfl rfl ?_
  refine Gq_s (pc' := 1) rfl rfl rfl ?_
  refine Gq_s (pc' := 2) (lv' := [(0, _), (1, _), (2, _)]) rfl rfl rfl ?_
  refine Gq_s (pc' := 3) rfl rfl rfl ?_
  refine Gq_s (pc' := 4) (lv' := [(0, _), (1, _), (2, _), (3, _)]) rfl rfl rfl ?_
  exact t_diff_l hvs hC hD h0 h1 h2 h3 12 0 rfl
theorem t_countIn_l {S : ScT} {H : HF} {n t : Nat} {ch : Nat → Option Nat} (h0 : H t = some (false, 2, [.ref (t + 1), .ref (t + 2)])) (h1 : H (t + 1) = some (true, 3, aR 12 ch)) : ∀ (k j : Nat), j + k = 12 → Gw S xm77 4 [(0, .ref t), (1, .int (zI (cntTo (fun p => decide (¬ ch p = none)) j : Int))), (2, .int (zI (j : Int)))] [] H n 0 0 (MQe xm77 (fun v G m => v = some (.int (zI (cntTo (fun p => decide (¬ ch p = none)) 12 : Int))) ∧ G = H ∧ m = n)) := by
  intro k
  induction k with
  | zero =>
    intro j hj
    obtain rfl : j = 12 := by omega
    refine Gq_s (pc' := 5) rfl rfl rfl ?_
    refine Gq_bipush (pc' := 7) rfl rfl (by decide) ?_
    refine Gq_cge (pc' := 10) (t := 28) rfl rfl rfl (by omega) (by omega) (fun _ => ?_) (fun hq => absurd (by omega) hq)
    refine Gq_s (pc' := 29) rfl rfl rfl ?_
    exact Gq_ret rfl rfl (rfl) (⟨rfl, rfl, rfl⟩)
  | succ k ih =>
    intro j hj
    refine Gq_s (pc' := 5) rfl rfl rfl ?_
    refine Gq_bipush (pc' := 7) rfl rfl (by decide) ?_
    refine Gq_cge (pc' := 10) (t := 28) rfl rfl rfl (by omega) (by omega) (fun hq => absurd hq (by omega)) (fun _ => ?_)
    refine Gq_s (pc' := 11) rfl rfl rfl ?_
    refine Gq_get (pc' := 14) rfl rfl (by first | assumption | exact upd_eq _ _ _ | (refine (upd_ne _ _ (by omega)).trans ?_; first | assumption | exact upd_eq _ _ _ | (refine (upd_ne _ _ (by omega)).trans ?_; first | assumption | exact upd_eq _ _ _ | (refine (upd_ne _ _ (by omega)).trans ?_; first | assumption | exact upd_eq _ _ _)))) (by exact rfl) ?_
    refine Gq_s (pc' := 15) rfl rfl rfl ?_
    refine Gq_aalx (pc' := 16) rfl rfl (by first | assumption | exact upd_eq _ _ _ | (refine (upd_ne _ _ (by omega)).trans ?_; first | assumption | exact upd_eq _ _ _ | (refine (upd_ne _ _ (by omega)).trans ?_; first | assumption | exact upd_eq _ _ _ | (refine (upd_ne _ _ (by omega)).trans ?_; first | assumption | exact upd_eq _ _ _)))) (by exact rfl) (rfl) (by omega) (by omega) (fun hx => ?_) (fun k2 hx => ?_)
    · refine Gq_nul_n rfl (t := 22) rfl ?_
      refine Gq_iinc (pc' := 25) (lv' := [(0, _), (1, _), (2, _)]) rfl rfl rfl rfl ?_
      refine Gq_goto rfl (t := 4) rfl ?_
      have e : cntTo (fun p => decide (¬ ch p = none)) (j + 1) = cntTo (fun p => decide (¬ ch p = none)) j := by
        show cntTo _ j + (if decide (¬ ch j = none) then 1 else 0) = _
        rw [decide_eq_false (fun q => q hx)]; rfl
      have := ih (j + 1) (by omega)
      rw [e] at this
      exact this
    · refine Gq_nul_r (pc' := 19) (t := 22) rfl rfl rfl ?_
      refine Gq_iinc (pc' := 22) (lv' := [(0, _), (1, _), (2, _)]) rfl rfl rfl rfl ?_
      refine Gq_iinc (pc' := 25) (lv' := [(0, _), (1, _), (2, _)]) rfl rfl rfl rfl ?_
      refine Gq_goto rfl (t := 4) rfl ?_
      have e : cntTo (fun p => decide (¬ ch p = none)) (j + 1) = cntTo (fun p => decide (¬ ch p = none)) j + 1 := by
        show cntTo _ j + (if decide (¬ ch j = none) then 1 else 0) = _
        rw [decide_eq_true (by rw [hx]; exact fun q => nomatch q)]; rfl
      have := ih (j + 1) (by omega)
      rw [e] at this
      exact this
theorem t_countIn {S : ScT} {H : HF} {n t : Nat} {ch : Nat → Option Nat} (h0 : H t = some (false, 2, [.ref (t + 1), .ref (t + 2)])) (h1 : H (t + 1) = some (true, 3, aR 12 ch)) : Rdt S 77 [.ref t] H n (some (.int (zI (cntTo (fun p => decide (¬ ch p = none)) 12 : Int)))) H n := by
  refine Rm_of (M := xm77) (lv := [(0, _)]) rfl rfl rfl ?_
  refine Gq_s (pc' := 1) rfl rfl rfl ?_
  refine Gq_s (pc' := 2) (lv' := [(0, _), (1, _)]) rfl rfl rfl ?_
  refine Gq_s (pc' := 3) rfl rfl rfl ?_
  refine Gq_s (pc' := 4) (lv' := [(0, _), (1, _), (2, _)]) rfl rfl rfl ?_
  exact t_countIn_l h0 h1 12 0 rfl
theorem t_sizes_l {S : ScT} {H : HF} {n t : Nat} {ch : Nat → Option Nat} {vr : Nat → VR} {V : Nat → Prop} (hvs : VsA H vr V) (hC : ChV V ch) (h0 : H t = some (false, 2, [.ref (t + 1), .ref (t + 2)])) (h1 : H (t + 1) = some (true, 3, aR 12 ch)) : ∀ (k j : Nat), j + k = 12 → Gw S xm78 4 [(0, .ref t), (1, .int (zI (sumTo (fun p => szOf vr (ch p)) j))), (2, .int (zI (j : Int)))] [] H n 0 0 (MQe xm78 (fun v G m => v = some (.int (zI (sumTo (fun p => szOf vr (ch p)) 12))) ∧ G = H ∧ m = n)) := by
  intro k
  induction k with
  | zero =>
    intro j hj
    obtain rfl : j = 12 := by omega
    refine Gq_s (pc' := 5) rfl rfl rfl ?_
    refine Gq_bipush (pc' := 7) rfl rfl (by decide) ?_
    refine Gq_cge (pc' := 10) (t := 28) rfl rfl rfl (by omega) (by omega) (fun _ => ?_) (fun hq => absurd (by omega) hq)
    refine Gq_s (pc' := 29) rfl rfl rfl ?_
    exact Gq_ret rfl rfl (rfl) (⟨rfl, rfl, rfl⟩)
  | succ k ih =>
    intro j hj
    refine Gq_s (pc' := 5) rfl rfl rfl ?_
    refine Gq_bipush (pc' := 7) rfl rfl (by decide) ?_
    refine Gq_cge (pc' := 10) (t := 28) rfl rfl rfl (by omega) (by omega) (fun hq => absurd hq (by omega)) (fun _ => ?_)
    refine Gq_s (pc' := 11) rfl rfl rfl ?_
    refine Gq_s (pc' := 12) rfl rfl rfl ?_
    refine Gq_get (pc' := 15) rfl rfl (by first | assumption | exact upd_eq _ _ _ | (refine (upd_ne _ _ (by omega)).trans ?_; first | assumption | exact upd_eq _ _ _ | (refine (upd_ne _ _ (by omega)).trans ?_; first | assumption | exact upd_eq _ _ _ | (refine (upd_ne _ _ (by omega)).trans ?_; first | assumption | exact upd_eq _ _ _)))) (by exact rfl) ?_
    refine Gq_s (pc' := 16) rfl rfl rfl ?_
    refine Gq_aald (pc' := 17) rfl rfl (by first | assumption | exact upd_eq _ _ _ | (refine (upd_ne _ _ (by omega)).trans ?_; first | assumption | exact upd_eq _ _ _ | (refine (upd_ne _ _ (by omega)).trans ?_; first | assumption | exact upd_eq _ _ _ | (refine (upd_ne _ _ (by omega)).trans ?_; first | assumption | exact upd_eq _ _ _)))) (by exact rfl) (rfl) (by omega) (by omega) (rfl) ?_
    refine Gq_calls1 (pc' := 20) (Y := xm60) (rest := [_]) (st' := [_, _]) (ce' := 0) (sl' := 0) rfl rfl rfl rfl rfl rfl rfl rfl rfl rfl (t_sizeOf _ (fun q hq => hvs q (hC j q (by omega) hq))) rfl ?_
    refine Gq_iadd (pc' := 21) rfl rfl ?_
    refine Gq_s (pc' := 22) (lv' := [(0, _), (1, _), (2, _)]) rfl rfl rfl ?_
    refine Gq_iinc (pc' := 25) (lv' := [(0, _), (1, _), (2, _)]) rfl rfl rfl rfl ?_
    refine Gq_goto rfl (t := 4) rfl ?_
    exact ih (j + 1) (by omega)
theorem t_sizes {S : ScT} {H : HF} {n t : Nat} {ch : Nat → Option Nat} {vr : Nat → VR} {V : Nat → Prop} (hvs : VsA H vr V) (hC : ChV V ch) (h0 : H t = some (false, 2, [.ref (t + 1), .ref (t + 2)])) (h1 : H (t + 1) = some (true, 3, aR 12 ch)) : Rdt S 78 [.ref t] H n (some (.int (zI (sumTo (fun p => szOf vr (ch p)) 12)))) H n := by
  refine Rm_of (M := xm78) (lv := [(0, _)]) rfl rfl rfl ?_
  refine Gq_s (pc' := 1) rfl rfl rfl ?_
  refine Gq_s (pc' := 2) (lv' := [(0, _), (1, _)]) rfl rfl rfl ?_
  refine Gq_s (pc' := 3) rfl rfl rfl ?_
  refine Gq_s (pc' := 4) (lv' := [(0, _), (1, _), (2, _)]) rfl rfl rfl ?_
  exact t_sizes_l hvs hC h0 h1 12 0 rfl
end XK2
