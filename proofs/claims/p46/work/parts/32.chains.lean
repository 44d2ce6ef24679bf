/-! chains (printed by wip/p46/gen32.py) -/
section XKc
/-- lengths, ahead, queue, queued -/
abbrev CS : Type := (Nat → Nat) × (Nat → Int) × (Nat → Nat) × Nat
def lk1 (ch : Nat → Option Nat) (mk : Nat) (f : Int) (L p : Nat) (s : CS) : CS := if mk.testBit p = true ∧ ¬ ch p = none ∧ s.1 p = 0 ∧ s.2.2.2 < 12 then (fset s.1 p L, fset s.2.1 p f, fset s.2.2.1 s.2.2.2 p, s.2.2.2 + 1) else s
def lkR (ch : Nat → Option Nat) (mk : Nat) (f : Int) (L : Nat) : Nat → Nat → CS → CS
  | 0, _, s => s
  | k + 1, j, s => lkR ch mk f L k (j + 1) (lk1 ch mk f L j s)
def wMask (wl : List CR) : Nat := wl.foldl (fun m c => m ||| 2 ^ cT c) 0
def layR (vr : Nat → VR) (ch : Nat → Option Nat) (on : Nat → Nat) : Nat → Nat → CS → CS
  | 0, _, s => s
  | k + 1, i, s => if i < s.2.2.2 then layR vr ch on k (i + 1) (lkR ch (nMask vr ch on (s.2.2.1 i)) (s.2.2.1 i : Int) (s.1 (s.2.2.1 i) + 1) 12 0 s) else s
def layF (vr : Nat → VR) (ch : Nat → Option Nat) (on : Nat → Nat) (wl : List CR) (s : CS) : CS := layR vr ch on 12 0 (lkR ch (wMask wl) (-1) 1 12 0 s)
/-- the chains -/
def chF (vr : Nat → VR) (ch : Nat → Option Nat) (on : Nat → Nat) (wl : List CR) : CS := layF vr ch on wl (fun _ => 0, fun _ => -1, fun _ => 0, 0)
def CsP (H : HF) (s : CS) : Prop := H 107 = some (false, 1, [.ref 108, .ref 109, .ref 110, .int (zI (s.2.2.2 : Int))]) ∧ H 108 = some (true, 0, aNt 12 s.1) ∧ H 109 = some (true, 0, aI 12 s.2.1) ∧ H 110 = some (true, 0, aNt 12 s.2.2.1)
def CsB (B : Nat) (s : CS) : Prop := (∀ p, s.1 p ≤ B) ∧ s.2.2.2 ≤ 12 ∧ (∀ j, j < s.2.2.2 → s.2.2.1 j < 12)
theorem CsB_lk1 {ch : Nat → Option Nat} {mk L p B : Nat} {f : Int} {s : CS} (h : CsB B s) (hL : L ≤ B) (hp : p < 12) : CsB B (lk1 ch mk f L p s) := by
  obtain ⟨h1, h2, h3⟩ := h
  unfold lk1
  split
  · rename_i hc
    refine ⟨fun q => ?_, by show s.2.2.2 + 1 ≤ 12; omega, fun j hj => ?_⟩
    · show fset s.1 p L q ≤ B
      by_cases e : q = p
      · subst e; rw [fset_eq]; exact hL
      · rw [fset_ne _ _ e]; exact h1 q
    · have hj : j < s.2.2.2 + 1 := hj
      show fset s.2.2.1 s.2.2.2 p j < 12
      by_cases e : j = s.2.2.2
      · subst e; rw [fset_eq]; exact hp
      · rw [fset_ne _ _ e]; exact h3 j (by omega)
  · exact ⟨h1, h2, h3⟩
theorem CsB_lkR {ch : Nat → Option Nat} {mk L B : Nat} {f : Int} (hL : L ≤ B) : ∀ (k j : Nat) (s : CS), j + k ≤ 12 → CsB B s → CsB B (lkR ch mk f L k j s)
  | 0, _, _, _, h => h
  | k + 1, j, s, hj, h => CsB_lkR hL k (j + 1) _ (by omega) (CsB_lk1 h hL (by omega))
theorem CsB_le {B C : Nat} {s : CS} (h : CsB B s) (hC : B ≤ C) : CsB C s := ⟨fun p => Nat.le_trans (h.1 p) hC, h.2⟩
theorem t_link_l {S : ScT} {n mk L B : Nat} {f : Int} {lk : Nat → Option Nat} (hLB : L ≤ B) (hB : B ≤ 100) : ∀ (k j : Nat) (H : HF) (s : CS), j + k = 12 → CsB B s → CsP H s → H 90 = some (false, 2, [.ref 91, .ref 92]) → H 91 = some (true, 3, aR 12 lk) → mk < 4096 → Gw S xm71 3 [(0, .ref 107), (1, .ref 90), (2, .int (zI (mk : Int))), (3, .int (zI f)), (4, .int (zI (L : Int))), (5, .int (zI (j : Int)))] [] H n 0 0 (MQe xm71 (fun v G m => v = none ∧ m = n ∧ CsP G (lkR lk mk f L k j s) ∧ (∀ o, ¬ o = 107 → ¬ o = 108 → ¬ o = 109 → ¬ o = 110 → G o = H o))) := by
  intro k
  induction k with
  | zero =>
    intro j H s hj hB2 hP L0 L1 hm
    refine Gq_s (pc' := 5) rfl rfl rfl ?_
    refine Gq_bipush (pc' := 7) rfl rfl (by decide) ?_
    refine Gq_cge (pc' := 10) (t := 92) rfl rfl rfl (by omega) (by omega) (fun _ => ?_) (fun hq => absurd (by omega) hq)
    exact Gq_ret rfl rfl (rfl) (⟨rfl, rfl, hP, fun _ _ _ _ _ => rfl⟩)
  | succ k ih =>
    intro j H s hj hB2 hP L0 L1 hm
    obtain ⟨c0, c1, c2, c3⟩ := id hP
    have hb1 := hB2.1 j
    have hb2 := hB2.2.1
    refine Gq_s (pc' := 5) rfl rfl rfl ?_
    refine Gq_bipush (pc' := 7) rfl rfl (by decide) ?_
    refine Gq_cge (pc' := 10) (t := 92) rfl rfl rfl (by omega) (by omega) (fun hq => absurd hq (by omega)) (fun _ => ?_)
    refine Gq_s (pc' := 11) rfl rfl rfl ?_
    refine Gq_s (pc' := 13) rfl rfl rfl ?_
    refine Gq_calls1 (pc' := 16) (Y := xm61) (rest := []) (st' := [_]) (ce' := 0) (sl' := 0) rfl rfl rfl rfl rfl rfl rfl rfl rfl rfl (t_isIn H n (zI (mk : Int)) j) rfl ?_
    rw [isInB_z hm (by omega)]
    refine Gq_beq (pc' := 19) (t := 86) rfl rfl rfl (fun hb => ?_) (fun hb => ?_)
    · refine Gq_iinc (pc' := 89) (lv' := [(0, _), (1, _), (2, _), (3, _), (4, _), (5, _)]) rfl rfl rfl rfl ?_
      refine Gq_goto rfl (t := 3) rfl ?_
      have e : lk1 lk mk f L j s = s := if_neg (fun q => by rw [hb] at q; cases q.1)
      rw [lkR, e]
      exact ih (j + 1) H s (by omega) hB2 hP L0 L1 hm
    · refine Gq_s (pc' := 20) rfl rfl rfl ?_
      refine Gq_get (pc' := 23) rfl rfl (by first | assumption | exact upd_eq _ _ _ | (refine (upd_ne _ _ (by omega)).trans ?_; first | assumption | exact upd_eq _ _ _ | (refine (upd_ne _ _ (by omega)).trans ?_; first | assumption | exact upd_eq _ _ _ | (refine (upd_ne _ _ (by omega)).trans ?_; first | assumption | exact upd_eq _ _ _)))) (by exact rfl) ?_
      refine Gq_s (pc' := 25) rfl rfl rfl ?_
      refine Gq_aalx (pc' := 26) rfl rfl (by first | assumption | exact upd_eq _ _ _ | (refine (upd_ne _ _ (by omega)).trans ?_; first | assumption | exact upd_eq _ _ _ | (refine (upd_ne _ _ (by omega)).trans ?_; first | assumption | exact upd_eq _ _ _ | (refine (upd_ne _ _ (by omega)).trans ?_; first | assumption | exact upd_eq _ _ _)))) (by exact rfl) (rfl) (by omega) (by omega) (fun hx => ?_) (fun q hx => ?_)
      · refine Gq_nul_n rfl (t := 86) rfl ?_
        refine Gq_iinc (pc' := 89) (lv' := [(0, _), (1, _), (2, _), (3, _), (4, _), (5, _)]) rfl rfl rfl rfl ?_
        refine Gq_goto rfl (t := 3) rfl ?_
        have e : lk1 lk mk f L j s = s := if_neg (fun q => q.2.1 hx)
        rw [lkR, e]
        exact ih (j + 1) H s (by omega) hB2 hP L0 L1 hm
      · refine Gq_nul_r (pc' := 29) (t := 86) rfl rfl rfl ?_
        refine Gq_s (pc' := 30) rfl rfl rfl ?_
        refine Gq_get (pc' := 33) rfl rfl (by first | assumption | exact upd_eq _ _ _ | (refine (upd_ne _ _ (by omega)).trans ?_; first | assumption | exact upd_eq _ _ _ | (refine (upd_ne _ _ (by omega)).trans ?_; first | assumption | exact upd_eq _ _ _ | (refine (upd_ne _ _ (by omega)).trans ?_; first | assumption | exact upd_eq _ _ _)))) (by exact rfl) ?_
        refine Gq_s (pc' := 35) rfl rfl rfl ?_
        refine Gq_iald (pc' := 36) rfl rfl (by first | assumption | exact upd_eq _ _ _ | (refine (upd_ne _ _ (by omega)).trans ?_; first | assumption | exact upd_eq _ _ _ | (refine (upd_ne _ _ (by omega)).trans ?_; first | assumption | exact upd_eq _ _ _ | (refine (upd_ne _ _ (by omega)).trans ?_; first | assumption | exact upd_eq _ _ _)))) (rfl) (by omega) (by omega) ?_
        refine Gq_zne (pc' := 39) (t := 86) rfl rfl rfl (by omega) (fun hz => ?_) (fun hz => ?_)
        · refine Gq_iinc (pc' := 89) (lv' := [(0, _), (1, _), (2, _), (3, _), (4, _), (5, _)]) rfl rfl rfl rfl ?_
          refine Gq_goto rfl (t := 3) rfl ?_
          have e : lk1 lk mk f L j s = s := if_neg (fun q => by have := q.2.2.1; omega)
          rw [lkR, e]
          exact ih (j + 1) H s (by omega) hB2 hP L0 L1 hm
        · refine Gq_s (pc' := 40) rfl rfl rfl ?_
          refine Gq_get (pc' := 43) rfl rfl (by first | assumption | exact upd_eq _ _ _ | (refine (upd_ne _ _ (by omega)).trans ?_; first | assumption | exact upd_eq _ _ _ | (refine (upd_ne _ _ (by omega)).trans ?_; first | assumption | exact upd_eq _ _ _ | (refine (upd_ne _ _ (by omega)).trans ?_; first | assumption | exact upd_eq _ _ _)))) (by exact rfl) ?_
          refine Gq_bipush (pc' := 45) rfl rfl (by decide) ?_
          refine Gq_cge (pc' := 48) (t := 86) rfl rfl rfl (by omega) (by omega) (fun hk => ?_) (fun hk => ?_)
          · refine Gq_iinc (pc' := 89) (lv' := [(0, _), (1, _), (2, _), (3, _), (4, _), (5, _)]) rfl rfl rfl rfl ?_
            refine Gq_goto rfl (t := 3) rfl ?_
            have e : lk1 lk mk f L j s = s := if_neg (fun q => by have := q.2.2.2; omega)
            rw [lkR, e]
            exact ih (j + 1) H s (by omega) hB2 hP L0 L1 hm
          · refine Gq_s (pc' := 49) rfl rfl rfl ?_
            refine Gq_get (pc' := 52) rfl rfl (by first | assumption | exact upd_eq _ _ _ | (refine (upd_ne _ _ (by omega)).trans ?_; first | assumption | exact upd_eq _ _ _ | (refine (upd_ne _ _ (by omega)).trans ?_; first | assumption | exact upd_eq _ _ _ | (refine (upd_ne _ _ (by omega)).trans ?_; first | assumption | exact upd_eq _ _ _)))) (by exact rfl) ?_
            refine Gq_s (pc' := 54) rfl rfl rfl ?_
            refine Gq_s (pc' := 56) rfl rfl rfl ?_
            refine Gq_iast (pc' := 57) rfl rfl (by first | assumption | exact upd_eq _ _ _ | (refine (upd_ne _ _ (by omega)).trans ?_; first | assumption | exact upd_eq _ _ _ | (refine (upd_ne _ _ (by omega)).trans ?_; first | assumption | exact upd_eq _ _ _ | (refine (upd_ne _ _ (by omega)).trans ?_; first | assumption | exact upd_eq _ _ _)))) (rfl) (by omega) (by omega) ?_
            rw [aN_fset]
            refine Gq_s (pc' := 58) rfl rfl rfl ?_
            refine Gq_get (pc' := 61) rfl rfl (by first | assumption | exact upd_eq _ _ _ | (refine (upd_ne _ _ (by omega)).trans ?_; first | assumption | exact upd_eq _ _ _ | (refine (upd_ne _ _ (by omega)).trans ?_; first | assumption | exact upd_eq _ _ _ | (refine (upd_ne _ _ (by omega)).trans ?_; first | assumption | exact upd_eq _ _ _)))) (by exact rfl) ?_
            refine Gq_s (pc' := 63) rfl rfl rfl ?_
            refine Gq_s (pc' := 64) rfl rfl rfl ?_
            refine Gq_iast (pc' := 65) rfl rfl (by first | assumption | exact upd_eq _ _ _ | (refine (upd_ne _ _ (by omega)).trans ?_; first | assumption | exact upd_eq _ _ _ | (refine (upd_ne _ _ (by omega)).trans ?_; first | assumption | exact upd_eq _ _ _ | (refine (upd_ne _ _ (by omega)).trans ?_; first | assumption | exact upd_eq _ _ _)))) (rfl) (by omega) (by omega) ?_
            refine Gq_s (pc' := 66) rfl rfl rfl ?_
            refine Gq_get (pc' := 69) rfl rfl (by first | assumption | exact upd_eq _ _ _ | (refine (upd_ne _ _ (by omega)).trans ?_; first | assumption | exact upd_eq _ _ _ | (refine (upd_ne _ _ (by omega)).trans ?_; first | assumption | exact upd_eq _ _ _ | (refine (upd_ne _ _ (by omega)).trans ?_; first | assumption | exact upd_eq _ _ _)))) (by exact rfl) ?_
            refine Gq_s (pc' := 70) rfl rfl rfl ?_
            refine Gq_get (pc' := 73) rfl rfl (by first | assumption | exact upd_eq _ _ _ | (refine (upd_ne _ _ (by omega)).trans ?_; first | assumption | exact upd_eq _ _ _ | (refine (upd_ne _ _ (by omega)).trans ?_; first | assumption | exact upd_eq _ _ _ | (refine (upd_ne _ _ (by omega)).trans ?_; first | assumption | exact upd_eq _ _ _)))) (by exact rfl) ?_
            refine Gq_s (pc' := 75) rfl rfl rfl ?_
            refine Gq_iast (pc' := 76) rfl rfl (by first | assumption | exact upd_eq _ _ _ | (refine (upd_ne _ _ (by omega)).trans ?_; first | assumption | exact upd_eq _ _ _ | (refine (upd_ne _ _ (by omega)).trans ?_; first | assumption | exact upd_eq _ _ _ | (refine (upd_ne _ _ (by omega)).trans ?_; first | assumption | exact upd_eq _ _ _)))) (rfl) (by omega) (by omega) ?_
            rw [aN_fset]
            refine Gq_s (pc' := 77) rfl rfl rfl ?_
            refine Gq_s (pc' := 78) rfl rfl rfl ?_
            refine Gq_get (pc' := 81) rfl rfl (by first | assumption | exact upd_eq _ _ _ | (refine (upd_ne _ _ (by omega)).trans ?_; first | assumption | exact upd_eq _ _ _ | (refine (upd_ne _ _ (by omega)).trans ?_; first | assumption | exact upd_eq _ _ _ | (refine (upd_ne _ _ (by omega)).trans ?_; first | assumption | exact upd_eq _ _ _)))) (by exact rfl) ?_
            refine Gq_s (pc' := 82) rfl rfl rfl ?_
            refine Gq_iadd (pc' := 83) rfl rfl ?_
            refine Gq_put (pc' := 86) (fs' := [_, _, _, _]) rfl rfl (by first | assumption | exact upd_eq _ _ _ | (refine (upd_ne _ _ (by omega)).trans ?_; first | assumption | exact upd_eq _ _ _ | (refine (upd_ne _ _ (by omega)).trans ?_; first | assumption | exact upd_eq _ _ _ | (refine (upd_ne _ _ (by omega)).trans ?_; first | assumption | exact upd_eq _ _ _)))) (by exact rfl) (by first | rfl | exact xfit_bI _) (by exact rfl) ?_
            refine Gq_iinc (pc' := 89) (lv' := [(0, _), (1, _), (2, _), (3, _), (4, _), (5, _)]) rfl rfl rfl rfl ?_
            refine Gq_goto rfl (t := 3) rfl ?_
            have e : lk1 lk mk f L j s = (fset s.1 j L, fset s.2.1 j f, fset s.2.2.1 s.2.2.2 j, s.2.2.2 + 1) := if_pos ⟨hb, (by rw [hx]; exact fun q => nomatch q), by omega, by omega⟩
            have hB3 := CsB_lk1 (ch := lk) (mk := mk) (f := f) (p := j) hB2 hLB (by omega)
            rw [lkR]
            rw [e] at hB3 ⊢
            refine Gq_mq (ih (j + 1) _ _ (by omega) hB3 ⟨upd_eq _ _ _, by rw [upd_ne _ _ (by omega), upd_ne _ _ (by omega), upd_ne _ _ (by omega)]; exact upd_eq _ _ _, by rw [upd_ne _ _ (by omega), upd_ne _ _ (by omega)]; exact upd_eq _ _ _, by rw [upd_ne _ _ (by omega)]; exact upd_eq _ _ _⟩ (by rw [upd_ne _ _ (by omega), upd_ne _ _ (by omega), upd_ne _ _ (by omega), upd_ne _ _ (by omega)]; exact L0) (by rw [upd_ne _ _ (by omega), upd_ne _ _ (by omega), upd_ne _ _ (by omega), upd_ne _ _ (by omega)]; exact L1) hm) ?_
            rintro v G m ⟨e1, e2, e3, e4⟩
            exact ⟨e1, e2, e3, fun o h1 h2 h3 h4 => by rw [e4 o h1 h2 h3 h4, upd_ne _ _ h1, upd_ne _ _ h4, upd_ne _ _ h3, upd_ne _ _ h2]⟩
theorem t_clink {S : ScT} {H : HF} (n : Nat) {mk L B : Nat} {f : Int} {lk : Nat → Option Nat} {s : CS} (hLB : L ≤ B) (hB : B ≤ 100) (hB2 : CsB B s) (hP : CsP H s) (L0 : H 90 = some (false, 2, [.ref 91, .ref 92])) (L1 : H 91 = some (true, 3, aR 12 lk)) (hm : mk < 4096) : Rmt S 71 [.ref 107, .ref 90, .int (zI (mk : Int)), .int (zI f), .int (zI (L : Int))] H n (fun v G m => v = none ∧ m = n ∧ CsP G (lkR lk mk f L 12 0 s) ∧ (∀ o, ¬ o = 107 → ¬ o = 108 → ¬ o = 109 → ¬ o = 110 → G o = H o)) := by
  refine Rm_of (M := xm71) (lv := [(0, _), (1, _), (2, _), (3, _), (4, _)]) rfl rfl rfl ?_
  refine Gq_s (pc' := 1) rfl rfl rfl ?_
  refine Gq_s (pc' := 3) (lv' := [(0, _), (1, _), (2, _), (3, _), (4, _), (5, _)]) rfl rfl rfl ?_
  exact t_link_l hLB hB 12 0 H s rfl hB2 hP L0 L1 hm
theorem t_lay_a {S : ScT} {n : Nat} {k0 : Value} {Q : XLf → Prop} : ∀ (k j : Nat) (H : HF) (len : Nat → Nat), j + k = 12 → H 107 = some (false, 1, [.ref 108, .ref 109, .ref 110, k0]) → H 108 = some (true, 0, aNt 12 len) → (∀ p, p < j → len p = 0) → Gw S xm70 26 [(0, .ref 107), (1, .ref 90), (2, .ref 88), (3, .int (zI 12))] [] (hup H 108 (true, 0, aNt 12 (fun _ => 0))) n 0 0 Q → Gw S xm70 7 [(0, .ref 107), (1, .ref 90), (2, .ref 88), (3, .int (zI (j : Int)))] [] H n 0 0 Q := by
  intro k
  induction k with
  | zero =>
    intro j H len hj h0 h1 hz kk
    obtain rfl : j = 12 := by omega
    refine Gq_s (pc' := 8) rfl rfl rfl ?_
    refine Gq_bipush (pc' := 10) rfl rfl (by decide) ?_
    refine Gq_cge (pc' := 13) (t := 26) rfl rfl rfl (by omega) (by omega) (fun _ => ?_) (fun hq => absurd (by omega) hq)
    rw [← aN_ext (f := len) (g := fun _ => 0) (fun p hp => hz p hp), upd_self h1] at kk
    exact kk
  | succ k ih =>
    intro j H len hj h0 h1 hz kk
    refine Gq_s (pc' := 8) rfl rfl rfl ?_
    refine Gq_bipush (pc' := 10) rfl rfl (by decide) ?_
    refine Gq_cge (pc' := 13) (t := 26) rfl rfl rfl (by omega) (by omega) (fun hq => absurd hq (by omega)) (fun _ => ?_)
    refine Gq_s (pc' := 14) rfl rfl rfl ?_
    refine Gq_get (pc' := 17) rfl rfl (by first | assumption | exact upd_eq _ _ _ | (refine (upd_ne _ _ (by omega)).trans ?_; first | assumption | exact upd_eq _ _ _ | (refine (upd_ne _ _ (by omega)).trans ?_; first | assumption | exact upd_eq _ _ _ | (refine (upd_ne _ _ (by omega)).trans ?_; first | assumption | exact upd_eq _ _ _)))) (by exact rfl) ?_
    refine Gq_s (pc' := 18) rfl rfl rfl ?_
    refine Gq_s (pc' := 19) rfl rfl rfl ?_
    refine Gq_iast (pc' := 20) rfl rfl (by first | assumption | exact upd_eq _ _ _ | (refine (upd_ne _ _ (by omega)).trans ?_; first | assumption | exact upd_eq _ _ _ | (refine (upd_ne _ _ (by omega)).trans ?_; first | assumption | exact upd_eq _ _ _ | (refine (upd_ne _ _ (by omega)).trans ?_; first | assumption | exact upd_eq _ _ _)))) (rfl) (by omega) (by omega) ?_
    rw [show (0 : Int) = ((0 : Nat) : Int) from rfl, aN_fset]
    refine Gq_iinc (pc' := 23) (lv' := [(0, _), (1, _), (2, _), (3, _)]) rfl rfl rfl rfl ?_
    refine Gq_goto rfl (t := 7) rfl ?_
    refine ih (j + 1) _ (fset len j 0) (by omega) (by rw [upd_ne _ _ (by omega)]; exact h0) (upd_eq _ _ _) (fun p hp => ?_) (by rw [upd_upd]; exact kk)
    by_cases e : p = j
    · subst e; exact fset_eq _ _ _
    · rw [fset_ne _ _ e]; exact hz p (by omega)
def wm1 (m : Nat) (c : CR) : Nat := m ||| 2 ^ cT c
theorem wm_lt : ∀ {l : List CR} {m : Nat}, (∀ c ∈ l, cOK c) → m < 4096 → l.foldl wm1 m < 4096
  | [], _, _, h => h
  | c :: t, m, hl, h => wm_lt (l := t) (fun d hd => hl d (List.mem_cons_of_mem _ hd)) (Nat.or_lt_two_pow (n := 12) h (Nat.pow_lt_pow_right (by omega) (hl c List.mem_cons_self).1))
theorem wMask_lt {wl : List CR} (h : ∀ c ∈ wl, cOK c) : wMask wl < 4096 := wm_lt h (by decide)
theorem t_lay_b {S : ScT} {n : Nat} {H : HF} {wl : List CR} (hW : WiAt H 88 wl) {Q : XLf → Prop} : ∀ (k j m : Nat), j + k = wl.length → Gw S xm70 61 [(0, .ref 107), (1, .ref 90), (2, .ref 88), (3, .int (zI (((wl.drop j).foldl wm1 m : Nat) : Int))), (4, .int (zI (wl.length : Int)))] [] H n 0 0 Q → Gw S xm70 31 [(0, .ref 107), (1, .ref 90), (2, .ref 88), (3, .int (zI (m : Int))), (4, .int (zI (j : Int)))] [] H n 0 0 Q := by
  obtain ⟨h3, hL, wc, h4, h5⟩ := hW
  intro k
  induction k with
  | zero =>
    intro j m hj kk
    obtain rfl : j = wl.length := by omega
    refine Gq_s (pc' := 33) rfl rfl rfl ?_
    refine Gq_s (pc' := 34) rfl rfl rfl ?_
    refine Gq_get (pc' := 37) rfl rfl (by first | assumption | exact upd_eq _ _ _ | (refine (upd_ne _ _ (by omega)).trans ?_; first | assumption | exact upd_eq _ _ _ | (refine (upd_ne _ _ (by omega)).trans ?_; first | assumption | exact upd_eq _ _ _ | (refine (upd_ne _ _ (by omega)).trans ?_; first | assumption | exact upd_eq _ _ _)))) (by exact rfl) ?_
    refine Gq_cge (pc' := 40) (t := 61) rfl rfl rfl (by omega) (by omega) (fun _ => ?_) (fun hq => absurd (by omega) hq)
    rw [List.drop_length] at kk
    exact kk
  | succ k ih =>
    intro j m hj kk
    have hjl : j < wl.length := by omega
    obtain ⟨q, nx, h6, hq9, hok, r, -, -, h8⟩ := h5 j wl[j] (List.getElem?_eq_getElem hjl)
    rw [List.drop_eq_getElem_cons hjl, List.foldl_cons] at kk
    refine Gq_s (pc' := 33) rfl rfl rfl ?_
    refine Gq_s (pc' := 34) rfl rfl rfl ?_
    refine Gq_get (pc' := 37) rfl rfl (by first | assumption | exact upd_eq _ _ _ | (refine (upd_ne _ _ (by omega)).trans ?_; first | assumption | exact upd_eq _ _ _ | (refine (upd_ne _ _ (by omega)).trans ?_; first | assumption | exact upd_eq _ _ _ | (refine (upd_ne _ _ (by omega)).trans ?_; first | assumption | exact upd_eq _ _ _)))) (by exact rfl) ?_
    refine Gq_cge (pc' := 40) (t := 61) rfl rfl rfl (by omega) (by omega) (fun hq => absurd hq (by omega)) (fun _ => ?_)
    refine Gq_s (pc' := 41) rfl rfl rfl ?_
    refine Gq_s (pc' := 42) rfl rfl rfl ?_
    refine Gq_s (pc' := 43) rfl rfl rfl ?_
    refine Gq_get (pc' := 46) rfl rfl (by first | assumption | exact upd_eq _ _ _ | (refine (upd_ne _ _ (by omega)).trans ?_; first | assumption | exact upd_eq _ _ _ | (refine (upd_ne _ _ (by omega)).trans ?_; first | assumption | exact upd_eq _ _ _ | (refine (upd_ne _ _ (by omega)).trans ?_; first | assumption | exact upd_eq _ _ _)))) (by exact rfl) ?_
    refine Gq_s (pc' := 48) rfl rfl rfl ?_
    refine Gq_aald (pc' := 49) rfl rfl (by first | assumption | exact upd_eq _ _ _ | (refine (upd_ne _ _ (by omega)).trans ?_; first | assumption | exact upd_eq _ _ _ | (refine (upd_ne _ _ (by omega)).trans ?_; first | assumption | exact upd_eq _ _ _ | (refine (upd_ne _ _ (by omega)).trans ?_; first | assumption | exact upd_eq _ _ _)))) (by exact rfl) (rfl) (by omega) (by omega) (rv_s h6) ?_
    refine Gq_get (pc' := 52) rfl rfl (by first | assumption | exact upd_eq _ _ _ | (refine (upd_ne _ _ (by omega)).trans ?_; first | assumption | exact upd_eq _ _ _ | (refine (upd_ne _ _ (by omega)).trans ?_; first | assumption | exact upd_eq _ _ _ | (refine (upd_ne _ _ (by omega)).trans ?_; first | assumption | exact upd_eq _ _ _)))) (by exact rfl) ?_
    refine Gq_ishl (pc' := 53) (zI ((2 ^ cT wl[j] : Nat) : Int)) rfl rfl (z_shl _ hok.1) ?_
    refine Gq_ior (pc' := 54) (zI ((m ||| 2 ^ cT wl[j] : Nat) : Int)) rfl rfl (z_or _ _) ?_
    refine Gq_s (pc' := 55) (lv' := [(0, _), (1, _), (2, _), (3, _), (4, _)]) rfl rfl rfl ?_
    refine Gq_iinc (pc' := 58) (lv' := [(0, _), (1, _), (2, _), (3, _), (4, _)]) rfl rfl rfl rfl ?_
    refine Gq_goto rfl (t := 31) rfl ?_
    exact ih (j + 1) _ (by omega) kk
theorem CsB_step {vr : Nat → VR} {ch : Nat → Option Nat} {on : Nat → Nat} {i B : Nat} {s : CS} (h : CsB B s) : CsB (B + 1) (lkR ch (nMask vr ch on (s.2.2.1 i)) (s.2.2.1 i : Int) (s.1 (s.2.2.1 i) + 1) 12 0 s) := CsB_lkR (by have := h.1 (s.2.2.1 i); omega) 12 0 s (by omega) (CsB_le h (by omega))
theorem t_lay_c {S : ScT} {n : Nat} {vr : Nat → VR} {V : Nat → Prop} {lk : Nat → Option Nat} (hC : ChV V lk) {on : Nat → Nat} (ho : o16 on) {wm : Nat} : ∀ (k i : Nat) (H : HF) (s : CS) (ex : XL), i + k = 12 → (ex = [] ∨ ∃ v, ex = [(5, v)]) → VsA H vr V → CsB (i + 1) s → CsP H s → H 90 = some (false, 2, [.ref 91, .ref 92]) → H 91 = some (true, 3, aR 12 lk) → H 92 = some (true, 0, aNt 12 on) → Gw S xm70 72 ((0, .ref 107) :: (1, .ref 90) :: (2, .ref 88) :: (3, .int (zI (wm : Int))) :: (4, .int (zI (i : Int))) :: ex) [] H n 0 0 (MQe xm70 (fun v G m => v = none ∧ m = n ∧ CsP G (layR vr lk on k i s) ∧ (∀ o, ¬ o = 107 → ¬ o = 108 → ¬ o = 109 → ¬ o = 110 → G o = H o))) := by
  intro k
  induction k with
  | zero =>
    intro i H s ex hi hex hvs hB hP L0 L1 L2
    refine Gq_s (pc' := 74) rfl rfl rfl ?_
    refine Gq_bipush (pc' := 76) rfl rfl (by decide) ?_
    refine Gq_cge (pc' := 79) (t := 125) rfl rfl rfl (by omega) (by omega) (fun _ => ?_) (fun hq => absurd (by omega) hq)
    exact Gq_ret rfl rfl (rfl) (⟨rfl, rfl, hP, fun _ _ _ _ _ => rfl⟩)
  | succ k ih =>
    intro i H s ex hi hex hvs hB hP L0 L1 L2
    obtain ⟨c0, c1, c2, c3⟩ := id hP
    have hb2 := hB.2.1
    refine Gq_s (pc' := 74) rfl rfl rfl ?_
    refine Gq_bipush (pc' := 76) rfl rfl (by decide) ?_
    refine Gq_cge (pc' := 79) (t := 125) rfl rfl rfl (by omega) (by omega) (fun hq => absurd hq (by omega)) (fun _ => ?_)
    refine Gq_s (pc' := 81) rfl rfl rfl ?_
    refine Gq_s (pc' := 82) rfl rfl rfl ?_
    refine Gq_get (pc' := 85) rfl rfl (by first | assumption | exact upd_eq _ _ _ | (refine (upd_ne _ _ (by omega)).trans ?_; first | assumption | exact upd_eq _ _ _ | (refine (upd_ne _ _ (by omega)).trans ?_; first | assumption | exact upd_eq _ _ _ | (refine (upd_ne _ _ (by omega)).trans ?_; first | assumption | exact upd_eq _ _ _)))) (by exact rfl) ?_
    refine Gq_cge (pc' := 88) (t := 125) rfl rfl rfl (by omega) (by omega) (fun hk => ?_) (fun hk => ?_)
    · have e : layR vr lk on (k + 1) i s = s := by rw [layR, if_neg (by omega)]
      exact Gq_ret rfl rfl (rfl) (⟨rfl, rfl, by rw [e]; exact hP, fun _ _ _ _ _ => rfl⟩)
    · have hik : i < s.2.2.2 := by omega
      have hq := hB.2.2 i hik
      have hl := hB.1 (s.2.2.1 i)
      have e : layR vr lk on (k + 1) i s = layR vr lk on k (i + 1) (lkR lk (nMask vr lk on (s.2.2.1 i)) (s.2.2.1 i : Int) (s.1 (s.2.2.1 i) + 1) 12 0 s) := by rw [layR, if_pos hik]
      rw [e]
      have hm := nMask_lt (on := on) hvs hC hq
      have hB3 := CsB_step (vr := vr) (ch := lk) (on := on) (i := i) hB
      refine Gq_s (pc' := 89) rfl rfl rfl ?_
      refine Gq_get (pc' := 92) rfl rfl (by first | assumption | exact upd_eq _ _ _ | (refine (upd_ne _ _ (by omega)).trans ?_; first | assumption | exact upd_eq _ _ _ | (refine (upd_ne _ _ (by omega)).trans ?_; first | assumption | exact upd_eq _ _ _ | (refine (upd_ne _ _ (by omega)).trans ?_; first | assumption | exact upd_eq _ _ _)))) (by exact rfl) ?_
      refine Gq_s (pc' := 94) rfl rfl rfl ?_
      refine Gq_iald (pc' := 95) rfl rfl (by first | assumption | exact upd_eq _ _ _ | (refine (upd_ne _ _ (by omega)).trans ?_; first | assumption | exact upd_eq _ _ _ | (refine (upd_ne _ _ (by omega)).trans ?_; first | assumption | exact upd_eq _ _ _ | (refine (upd_ne _ _ (by omega)).trans ?_; first | assumption | exact upd_eq _ _ _)))) (rfl) (by omega) (by omega) ?_
      refine Gq_st1 (pc' := 97) (lv' := [(0, _), (1, _), (2, _), (3, _), (4, _), (5, _)]) (k := 5) rfl (fun _ => rfl) rfl (xst1_ex (pre := [(0, _), (1, _), (2, _), (3, _), (4, _)]) hex rfl) ?_
      refine Gq_s (pc' := 98) rfl rfl rfl ?_
      refine Gq_s (pc' := 99) rfl rfl rfl ?_
      refine Gq_s (pc' := 100) rfl rfl rfl ?_
      refine Gq_s (pc' := 102) rfl rfl rfl ?_
      refine Gq_callv1 (pc' := 105) (Y := xm86) (rest := [_, _]) (st' := [_, _, _]) (ce' := 0) (sl' := 0) rfl rfl rfl rfl rfl rfl rfl rfl rfl (t_nf hvs hC L0 L1 L2 ho hq) rfl (by first | assumption | exact upd_eq _ _ _ | (refine (upd_ne _ _ (by omega)).trans ?_; first | assumption | exact upd_eq _ _ _ | (refine (upd_ne _ _ (by omega)).trans ?_; first | assumption | exact upd_eq _ _ _ | (refine (upd_ne _ _ (by omega)).trans ?_; first | assumption | exact upd_eq _ _ _)))) ?_
      refine Gq_s (pc' := 107) rfl rfl rfl ?_
      refine Gq_s (pc' := 108) rfl rfl rfl ?_
      refine Gq_get (pc' := 111) rfl rfl (by first | assumption | exact upd_eq _ _ _ | (refine (upd_ne _ _ (by omega)).trans ?_; first | assumption | exact upd_eq _ _ _ | (refine (upd_ne _ _ (by omega)).trans ?_; first | assumption | exact upd_eq _ _ _ | (refine (upd_ne _ _ (by omega)).trans ?_; first | assumption | exact upd_eq _ _ _)))) (by exact rfl) ?_
      refine Gq_s (pc' := 113) rfl rfl rfl ?_
      refine Gq_iald (pc' := 114) rfl rfl (by first | assumption | exact upd_eq _ _ _ | (refine (upd_ne _ _ (by omega)).trans ?_; first | assumption | exact upd_eq _ _ _ | (refine (upd_ne _ _ (by omega)).trans ?_; first | assumption | exact upd_eq _ _ _ | (refine (upd_ne _ _ (by omega)).trans ?_; first | assumption | exact upd_eq _ _ _)))) (rfl) (by omega) (by omega) ?_
      refine Gq_s (pc' := 115) rfl rfl rfl ?_
      refine Gq_iadd (pc' := 116) rfl rfl ?_
      refine Gq_callv (pc' := 119) (Y := xm71) (rest := []) (ce' := 0) (sl' := 0) rfl rfl rfl rfl rfl rfl rfl rfl rfl (t_clink n (L := s.1 (s.2.2.1 i) + 1) (B := i + 2) (by omega) (by omega) (CsB_le hB (by omega)) hP L0 L1 hm) (by first | assumption | exact upd_eq _ _ _ | (refine (upd_ne _ _ (by omega)).trans ?_; first | assumption | exact upd_eq _ _ _ | (refine (upd_ne _ _ (by omega)).trans ?_; first | assumption | exact upd_eq _ _ _ | (refine (upd_ne _ _ (by omega)).trans ?_; first | assumption | exact upd_eq _ _ _)))) (fun v' H' n' hv => ?_)
      obtain ⟨rfl, rfl, g1, g2⟩ := hv
      have hh : Hi H H' := fun o ho => g2 o (by omega) (by omega) (by omega) (by omega)
      refine Gq_iinc (pc' := 122) (lv' := [(0, _), (1, _), (2, _), (3, _), (4, _), (5, _)]) rfl rfl rfl rfl ?_
      refine Gq_goto rfl (t := 72) rfl ?_
      refine Gq_mq (ih (i + 1) H' _ _ (by omega) (.inr ⟨_, rfl⟩) (VS_hi hh hvs) hB3 g1 ((g2 90 (by omega) (by omega) (by omega) (by omega)).trans L0) ((g2 91 (by omega) (by omega) (by omega) (by omega)).trans L1) ((g2 92 (by omega) (by omega) (by omega) (by omega)).trans L2)) ?_
      rintro v G m ⟨e1, e2, e3, e4⟩
      exact ⟨e1, e2, e3, fun o h1 h2 h3 h4 => (e4 o h1 h2 h3 h4).trans (g2 o h1 h2 h3 h4)⟩
/-- alike where it is read -/
def CsE (s t : CS) : Prop := s.1 = t.1 ∧ s.2.2.2 = t.2.2.2 ∧ (∀ p, 0 < s.1 p → s.2.1 p = t.2.1 p) ∧ ∀ j, j < s.2.2.2 → s.2.2.1 j = t.2.2.1 j
theorem CsE_lk1 {ch : Nat → Option Nat} {mk L p : Nat} {f : Int} {s t : CS} (h : CsE s t) (hL : 0 < L) : CsE (lk1 ch mk f L p s) (lk1 ch mk f L p t) := by
  obtain ⟨h1, h2, h3, h4⟩ := h
  unfold lk1
  rw [← h1, ← h2]
  split
  · refine ⟨rfl, rfl, fun q hq => ?_, fun j hj => ?_⟩
    · show fset s.2.1 p f q = fset t.2.1 p f q
      by_cases e : q = p
      · subst e; rw [fset_eq, fset_eq]
      · have hq : 0 < fset s.1 p L q := hq
        rw [fset_ne _ _ e] at hq
        rw [fset_ne _ _ e, fset_ne _ _ e]
        exact h3 q hq
    · have hj : j < s.2.2.2 + 1 := hj
      show fset s.2.2.1 s.2.2.2 p j = fset t.2.2.1 s.2.2.2 p j
      by_cases e : j = s.2.2.2
      · subst e; rw [fset_eq, fset_eq]
      · rw [fset_ne _ _ e, fset_ne _ _ e]
        exact h4 j (by omega)
  · exact ⟨h1, h2, h3, h4⟩
theorem CsE_lkR {ch : Nat → Option Nat} {mk L : Nat} {f : Int} (hL : 0 < L) : ∀ (k j : Nat) (s t : CS), CsE s t → CsE (lkR ch mk f L k j s) (lkR ch mk f L k j t)
  | 0, _, _, _, h => h
  | k + 1, j, _, _, h => CsE_lkR hL k (j + 1) _ _ (CsE_lk1 h hL)
theorem CsE_layR {vr : Nat → VR} {ch : Nat → Option Nat} {on : Nat → Nat} : ∀ (k i : Nat) (s t : CS), CsE s t → CsE (layR vr ch on k i s) (layR vr ch on k i t)
  | 0, _, _, _, h => h
  | k + 1, i, s, t, h => by
    obtain ⟨h1, h2, h3, h4⟩ := id h
    unfold layR
    rw [← h2]
    split
    · rename_i hi
      rw [← h4 i hi, ← h1]
      exact CsE_layR k (i + 1) _ _ (CsE_lkR (by omega) 12 0 s t h)
    · exact h
theorem CsE_chF {vr : Nat → VR} {ch : Nat → Option Nat} {on : Nat → Nat} {wl : List CR} {ah : Nat → Int} {qu : Nat → Nat} : CsE (layF vr ch on wl (fun _ => 0, ah, qu, 0)) (chF vr ch on wl) := CsE_layR 12 0 _ _ (CsE_lkR (by omega) 12 0 _ _ ⟨rfl, rfl, fun p hp => absurd hp (by show ¬ 0 < 0; omega), fun j hj => absurd hj (by show ¬ j < 0; omega)⟩)
/-- the chains' cells, whatever they hold -/
def ScC (H : HF) : Prop := ∃ (k0 : Value) (len : Nat → Nat) (ah : Nat → Int) (qu : Nat → Nat), H 107 = some (false, 1, [.ref 108, .ref 109, .ref 110, k0]) ∧ H 108 = some (true, 0, aNt 12 len) ∧ H 109 = some (true, 0, aI 12 ah) ∧ H 110 = some (true, 0, aNt 12 qu)
theorem ScC_of {H : HF} {s : CS} (h : CsP H s) : ScC H := by
  obtain ⟨h1, h2, h3, h4⟩ := h
  exact ⟨_, _, _, _, h1, h2, h3, h4⟩
theorem t_clay {S : ScT} {H : HF} (n : Nat) {vr : Nat → VR} {V : Nat → Prop} {lk : Nat → Option Nat} (hC : ChV V lk) {on : Nat → Nat} (ho : o16 on) {wl : List CR} (hvs : VsA H vr V) (hW : WiAt H 88 wl) (hS : ScC H) (L0 : H 90 = some (false, 2, [.ref 91, .ref 92])) (L1 : H 91 = some (true, 3, aR 12 lk)) (L2 : H 92 = some (true, 0, aNt 12 on)) : Rmt S 70 [.ref 107, .ref 90, .ref 88] H n (fun v G m => v = none ∧ m = n ∧ (∃ s, CsP G s ∧ CsE s (chF vr lk on wl)) ∧ (∀ o, ¬ o = 107 → ¬ o = 108 → ¬ o = 109 → ¬ o = 110 → G o = H o)) := by
  refine Rm_of (M := xm70) (lv := [(0, _), (1, _), (2, _)]) rfl rfl rfl ?_
  obtain ⟨k0, len, ah, qu, c0, c1, c2, c3⟩ := hS
  have hwm := wMask_lt (WiAt_ok hW)
  refine Gq_s (pc' := 1) rfl rfl rfl ?_
  refine Gq_s (pc' := 2) rfl rfl rfl ?_
  refine Gq_put (pc' := 5) (fs' := [_, _, _, _]) rfl rfl (by first | assumption | exact upd_eq _ _ _ | (refine (upd_ne _ _ (by omega)).trans ?_; first | assumption | exact upd_eq _ _ _ | (refine (upd_ne _ _ (by omega)).trans ?_; first | assumption | exact upd_eq _ _ _ | (refine (upd_ne _ _ (by omega)).trans ?_; first | assumption | exact upd_eq _ _ _)))) (by exact rfl) (by first | rfl | exact xfit_bI _) (by exact rfl) ?_
  refine Gq_s (pc' := 6) rfl rfl rfl ?_
  refine Gq_s (pc' := 7) (lv' := [(0, _), (1, _), (2, _), (3, _)]) rfl rfl rfl ?_
  refine t_lay_a 12 0 (hup H 107 (false, 1, [.ref 108, .ref 109, .ref 110, .int (zI 0)])) len rfl (upd_eq _ _ _) (by rw [upd_ne _ _ (by omega)]; exact c1) (fun p hp => absurd hp (by omega)) ?_
  have fr0 : ∀ o, ¬ o = 107 → ¬ o = 108 → (hup (hup H 107 (false, 1, [.ref 108, .ref 109, .ref 110, .int (zI 0)])) 108 (true, 0, aNt 12 (fun _ => 0))) o = H o := fun o h1 h2 => by rw [upd_ne _ _ h2, upd_ne _ _ h1]
  have hP0 : CsP (hup (hup H 107 (false, 1, [.ref 108, .ref 109, .ref 110, .int (zI 0)])) 108 (true, 0, aNt 12 (fun _ => 0))) (fun _ => 0, ah, qu, 0) := ⟨by rw [upd_ne _ _ (by omega)]; exact upd_eq _ _ _, upd_eq _ _ _, (fr0 109 (by omega) (by omega)).trans c2, (fr0 110 (by omega) (by omega)).trans c3⟩
  generalize (hup (hup H 107 (false, 1, [.ref 108, .ref 109, .ref 110, .int (zI 0)])) 108 (true, 0, aNt 12 (fun _ => 0))) = H1 at fr0 hP0
  have hh1 : Hi H H1 := fun o ho => fr0 o (by omega) (by omega)
  have hW1 := WiAt_hi hh1 (fr0 88 (by omega) (by omega)) (fr0 89 (by omega) (by omega)) hW
  refine Gq_s (pc' := 27) rfl rfl rfl ?_
  refine Gq_s (pc' := 28) (lv' := [(0, _), (1, _), (2, _), (3, _)]) rfl rfl rfl ?_
  refine Gq_s (pc' := 29) rfl rfl rfl ?_
  refine Gq_s (pc' := 31) (lv' := [(0, _), (1, _), (2, _), (3, _), (4, _)]) rfl rfl rfl ?_
  refine t_lay_b hW1 wl.length 0 0 (by omega) ?_
  show Gw S xm70 61 [(0, .ref 107), (1, .ref 90), (2, .ref 88), (3, .int (zI (wMask wl : Int))), (4, .int (zI (wl.length : Int)))] [] H1 n 0 0 _
  obtain ⟨c0', c1', c2', c3'⟩ := id hP0
  have hB0 : CsB 1 ((fun _ => 0, ah, qu, 0) : CS) := ⟨fun p => by show 0 ≤ 1; omega, by show 0 ≤ 12; omega, fun j hj => absurd hj (by show ¬ j < 0; omega)⟩
  refine Gq_s (pc' := 62) rfl rfl rfl ?_
  refine Gq_s (pc' := 63) rfl rfl rfl ?_
  refine Gq_s (pc' := 64) rfl rfl rfl ?_
  refine Gq_s (pc' := 65) rfl rfl rfl ?_
  refine Gq_s (pc' := 66) rfl rfl rfl ?_
  refine Gq_callv (pc' := 69) (Y := xm71) (rest := []) (ce' := 0) (sl' := 0) rfl rfl rfl rfl rfl rfl rfl rfl rfl (t_clink n (L := 1) (B := 1) (by omega) (by omega) hB0 hP0 ((fr0 90 (by omega) (by omega)).trans L0) ((fr0 91 (by omega) (by omega)).trans L1) hwm) (by first | assumption | exact upd_eq _ _ _ | (refine (upd_ne _ _ (by omega)).trans ?_; first | assumption | exact upd_eq _ _ _ | (refine (upd_ne _ _ (by omega)).trans ?_; first | assumption | exact upd_eq _ _ _ | (refine (upd_ne _ _ (by omega)).trans ?_; first | assumption | exact upd_eq _ _ _)))) (fun v' H' n' hv => ?_)
  obtain ⟨rfl, rfl, g1, g2⟩ := hv
  have hh2 : Hi H1 H' := fun o ho => g2 o (by omega) (by omega) (by omega) (by omega)
  refine Gq_s (pc' := 70) rfl rfl rfl ?_
  refine Gq_s (pc' := 72) (lv' := [(0, _), (1, _), (2, _), (3, _), (4, _)]) rfl rfl rfl ?_
  refine Gq_mq (t_lay_c (vr := vr) (V := V) hC ho 12 0 H' _ [] rfl (.inl rfl) (VS_hi (Hi_trans hh1 hh2) hvs) (CsB_lkR (by omega) 12 0 _ (by omega) hB0) g1 ((g2 90 (by omega) (by omega) (by omega) (by omega)).trans ((fr0 90 (by omega) (by omega)).trans L0)) ((g2 91 (by omega) (by omega) (by omega) (by omega)).trans ((fr0 91 (by omega) (by omega)).trans L1)) ((g2 92 (by omega) (by omega) (by omega) (by omega)).trans ((fr0 92 (by omega) (by omega)).trans L2))) ?_
  rintro v G m ⟨e1, e2, e3, e4⟩
  exact ⟨e1, e2, ⟨_, e3, CsE_chF⟩, fun o h1 h2 h3 h4 => (e4 o h1 h2 h3 h4).trans ((g2 o h1 h2 h3 h4).trans (fr0 o h1 h2))⟩
end XKc
