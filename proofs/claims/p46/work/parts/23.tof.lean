/-! features turned on (printed by wip/p46/gen23.py) -/
section XK3
theorem tOn_n {ch : Nat → Option Nat} {on : Nat → Nat} {c : CR} (h : ch (cT c) = none) : tOn ch on c = on := if_pos h
theorem tOn_s {ch : Nat → Option Nat} {on : Nat → Nat} {c : CR} {k : Nat} (h : ch (cT c) = some k) : tOn ch on c = fset on (cT c) (on (cT c) ||| cF c) := if_neg (by rw [h]; exact fun q => nomatch q)
theorem grown_n {ch : Nat → Option Nat} {on : Nat → Nat} {c : CR} (h : ch (cT c) = none) : grwn ch on c = false := decide_eq_false (fun q => q (by rw [tOn_n h]))
theorem ChainAt_ok {H : HF} : ∀ {l : List CR} {x : Option Nat}, ChnAt H x l → ∀ c ∈ l, cOK c
  | [], _, _, c, hc => by cases hc
  | a :: t, x, ⟨o, nx, _, h2, h3⟩, c, hc => by
    rcases List.mem_cons.mp hc with rfl | hc
    · exact h2.2.1
    · exact ChainAt_ok h3 c hc
theorem o16_nOne {ch : Nat → Option Nat} {p : Nat} {s : (Nat → Nat) × Bool} {c : CR} (h : o16 s.1) (hc : cOK c) : o16 (nOne ch p s c).1 := by
  unfold nOne
  split
  · exact o16_tOn h hc
  · exact h
theorem o16_fold {ch : Nat → Option Nat} {p : Nat} : ∀ {l : List CR} {s : (Nat → Nat) × Bool}, (∀ c ∈ l, cOK c) → o16 s.1 → o16 (l.foldl (nOne ch p) s).1
  | [], _, _, h => h
  | c :: t, s, hl, h => o16_fold (l := t) (s := nOne ch p s c) (fun d hd => hl d (List.mem_cons_of_mem _ hd)) (o16_nOne h (hl c List.mem_cons_self))
theorem o16_wl {ch : Nat → Option Nat} : ∀ {l : List CR} {on : Nat → Nat}, (∀ c ∈ l, cOK c) → o16 on → o16 (l.foldl (tOn ch) on)
  | [], _, _, h => h
  | c :: t, on, hl, h => o16_wl (l := t) (on := tOn ch on c) (fun d hd => hl d (List.mem_cons_of_mem _ hd)) (o16_tOn h (hl c List.mem_cons_self))
theorem t_turnOn {S : ScT} {H : HF} (n : Nat) {t q : Nat} {ch : Nat → Option Nat} {on : Nat → Nat} {c : CR} {nx : Value} (ht : t + 2 < 119) (h0 : H t = some (false, 2, [.ref (t + 1), .ref (t + 2)])) (h1 : H (t + 1) = some (true, 3, aR 12 ch)) (h2 : H (t + 2) = some (true, 0, aNt 12 on)) (ho : o16 on) (hc : ClaimAt H q c nx) : Rdt S 81 [.ref t, .ref q] H n (some (.int (zI (bI (grwn ch on c))))) (hup H (t + 2) (true, 0, aNt 12 (tOn ch on c))) n := by
  refine Rm_of (M := xm81) (lv := [(0, _), (1, _)]) rfl rfl rfl ?_
  have hu := o16_tOn (ch := ch) ho hc.2.1 (cT c)
  have hv := ho (cT c)
  obtain ⟨hq, ⟨hT, hC, hF, -⟩, r, -, -, h3⟩ := hc
  refine Gq_s (pc' := 1) rfl rfl rfl ?_
  refine Gq_get (pc' := 4) rfl rfl (by first | assumption | exact upd_eq _ _ _ | (refine (upd_ne _ _ (by omega)).trans ?_; first | assumption | exact upd_eq _ _ _ | (refine (upd_ne _ _ (by omega)).trans ?_; first | assumption | exact upd_eq _ _ _ | (refine (upd_ne _ _ (by omega)).trans ?_; first | assumption | exact upd_eq _ _ _)))) (by exact rfl) ?_
  refine Gq_s (pc' := 5) rfl rfl rfl ?_
  refine Gq_get (pc' := 8) rfl rfl (by first | assumption | exact upd_eq _ _ _ | (refine (upd_ne _ _ (by omega)).trans ?_; first | assumption | exact upd_eq _ _ _ | (refine (upd_ne _ _ (by omega)).trans ?_; first | assumption | exact upd_eq _ _ _ | (refine (upd_ne _ _ (by omega)).trans ?_; first | assumption | exact upd_eq _ _ _)))) (by exact rfl) ?_
  refine Gq_iald (pc' := 9) rfl rfl (by first | assumption | exact upd_eq _ _ _ | (refine (upd_ne _ _ (by omega)).trans ?_; first | assumption | exact upd_eq _ _ _ | (refine (upd_ne _ _ (by omega)).trans ?_; first | assumption | exact upd_eq _ _ _ | (refine (upd_ne _ _ (by omega)).trans ?_; first | assumption | exact upd_eq _ _ _)))) (rfl) (by omega) (by omega) ?_
  refine Gq_s (pc' := 10) (lv' := [(0, _), (1, _), (2, _)]) rfl rfl rfl ?_
  refine Gq_s (pc' := 11) rfl rfl rfl ?_
  refine Gq_get (pc' := 14) rfl rfl (by first | assumption | exact upd_eq _ _ _ | (refine (upd_ne _ _ (by omega)).trans ?_; first | assumption | exact upd_eq _ _ _ | (refine (upd_ne _ _ (by omega)).trans ?_; first | assumption | exact upd_eq _ _ _ | (refine (upd_ne _ _ (by omega)).trans ?_; first | assumption | exact upd_eq _ _ _)))) (by exact rfl) ?_
  refine Gq_s (pc' := 15) rfl rfl rfl ?_
  refine Gq_get (pc' := 18) rfl rfl (by first | assumption | exact upd_eq _ _ _ | (refine (upd_ne _ _ (by omega)).trans ?_; first | assumption | exact upd_eq _ _ _ | (refine (upd_ne _ _ (by omega)).trans ?_; first | assumption | exact upd_eq _ _ _ | (refine (upd_ne _ _ (by omega)).trans ?_; first | assumption | exact upd_eq _ _ _)))) (by exact rfl) ?_
  refine Gq_aalx (pc' := 19) rfl rfl (by first | assumption | exact upd_eq _ _ _ | (refine (upd_ne _ _ (by omega)).trans ?_; first | assumption | exact upd_eq _ _ _ | (refine (upd_ne _ _ (by omega)).trans ?_; first | assumption | exact upd_eq _ _ _ | (refine (upd_ne _ _ (by omega)).trans ?_; first | assumption | exact upd_eq _ _ _)))) (by exact rfl) (rfl) (by omega) (by omega) (fun hx => ?_) (fun k hx => ?_)
  · refine Gq_nul_n rfl (t := 37) rfl ?_
    refine Gq_s (pc' := 38) rfl rfl rfl ?_
    refine Gq_get (pc' := 41) rfl rfl (by first | assumption | exact upd_eq _ _ _ | (refine (upd_ne _ _ (by omega)).trans ?_; first | assumption | exact upd_eq _ _ _ | (refine (upd_ne _ _ (by omega)).trans ?_; first | assumption | exact upd_eq _ _ _ | (refine (upd_ne _ _ (by omega)).trans ?_; first | assumption | exact upd_eq _ _ _)))) (by exact rfl) ?_
    refine Gq_s (pc' := 42) rfl rfl rfl ?_
    refine Gq_get (pc' := 45) rfl rfl (by first | assumption | exact upd_eq _ _ _ | (refine (upd_ne _ _ (by omega)).trans ?_; first | assumption | exact upd_eq _ _ _ | (refine (upd_ne _ _ (by omega)).trans ?_; first | assumption | exact upd_eq _ _ _ | (refine (upd_ne _ _ (by omega)).trans ?_; first | assumption | exact upd_eq _ _ _)))) (by exact rfl) ?_
    refine Gq_iald (pc' := 46) rfl rfl (by first | assumption | exact upd_eq _ _ _ | (refine (upd_ne _ _ (by omega)).trans ?_; first | assumption | exact upd_eq _ _ _ | (refine (upd_ne _ _ (by omega)).trans ?_; first | assumption | exact upd_eq _ _ _ | (refine (upd_ne _ _ (by omega)).trans ?_; first | assumption | exact upd_eq _ _ _)))) (rfl) (by omega) (by omega) ?_
    refine Gq_s (pc' := 47) rfl rfl rfl ?_
    refine Gq_ceq (pc' := 50) (t := 54) rfl rfl rfl (by omega) (by omega) (fun _ => ?_) (fun hq => absurd (rfl) hq)
    refine Gq_s (pc' := 55) rfl rfl rfl ?_
    exact Gq_ret rfl rfl (rfl) (⟨by rw [grown_n hx]; rfl, by rw [tOn_n hx]; exact (upd_self h2).symm, rfl⟩)
  · refine Gq_nul_r (pc' := 22) (t := 37) rfl rfl rfl ?_
    refine Gq_s (pc' := 23) rfl rfl rfl ?_
    refine Gq_get (pc' := 26) rfl rfl (by first | assumption | exact upd_eq _ _ _ | (refine (upd_ne _ _ (by omega)).trans ?_; first | assumption | exact upd_eq _ _ _ | (refine (upd_ne _ _ (by omega)).trans ?_; first | assumption | exact upd_eq _ _ _ | (refine (upd_ne _ _ (by omega)).trans ?_; first | assumption | exact upd_eq _ _ _)))) (by exact rfl) ?_
    refine Gq_s (pc' := 27) rfl rfl rfl ?_
    refine Gq_get (pc' := 30) rfl rfl (by first | assumption | exact upd_eq _ _ _ | (refine (upd_ne _ _ (by omega)).trans ?_; first | assumption | exact upd_eq _ _ _ | (refine (upd_ne _ _ (by omega)).trans ?_; first | assumption | exact upd_eq _ _ _ | (refine (upd_ne _ _ (by omega)).trans ?_; first | assumption | exact upd_eq _ _ _)))) (by exact rfl) ?_
    refine Gq_s (pc' := 31) rfl rfl rfl ?_
    refine Gq_s (pc' := 32) rfl rfl rfl ?_
    refine Gq_get (pc' := 35) rfl rfl (by first | assumption | exact upd_eq _ _ _ | (refine (upd_ne _ _ (by omega)).trans ?_; first | assumption | exact upd_eq _ _ _ | (refine (upd_ne _ _ (by omega)).trans ?_; first | assumption | exact upd_eq _ _ _ | (refine (upd_ne _ _ (by omega)).trans ?_; first | assumption | exact upd_eq _ _ _)))) (by exact rfl) ?_
    refine Gq_ior (pc' := 36) (zI ((on (cT c) ||| cF c : Nat) : Int)) rfl rfl (z_or _ _) ?_
    refine Gq_iast (pc' := 37) rfl rfl (by first | assumption | exact upd_eq _ _ _ | (refine (upd_ne _ _ (by omega)).trans ?_; first | assumption | exact upd_eq _ _ _ | (refine (upd_ne _ _ (by omega)).trans ?_; first | assumption | exact upd_eq _ _ _ | (refine (upd_ne _ _ (by omega)).trans ?_; first | assumption | exact upd_eq _ _ _)))) (rfl) (by omega) (by omega) ?_
    rw [aN_fset, ← tOn_s hx]
    refine Gq_s (pc' := 38) rfl rfl rfl ?_
    refine Gq_get (pc' := 41) rfl rfl (by first | assumption | exact upd_eq _ _ _ | (refine (upd_ne _ _ (by omega)).trans ?_; first | assumption | exact upd_eq _ _ _ | (refine (upd_ne _ _ (by omega)).trans ?_; first | assumption | exact upd_eq _ _ _ | (refine (upd_ne _ _ (by omega)).trans ?_; first | assumption | exact upd_eq _ _ _)))) (by exact rfl) ?_
    refine Gq_s (pc' := 42) rfl rfl rfl ?_
    refine Gq_get (pc' := 45) rfl rfl (by first | assumption | exact upd_eq _ _ _ | (refine (upd_ne _ _ (by omega)).trans ?_; first | assumption | exact upd_eq _ _ _ | (refine (upd_ne _ _ (by omega)).trans ?_; first | assumption | exact upd_eq _ _ _ | (refine (upd_ne _ _ (by omega)).trans ?_; first | assumption | exact upd_eq _ _ _)))) (by exact rfl) ?_
    refine Gq_iald (pc' := 46) rfl rfl (by first | assumption | exact upd_eq _ _ _ | (refine (upd_ne _ _ (by omega)).trans ?_; first | assumption | exact upd_eq _ _ _ | (refine (upd_ne _ _ (by omega)).trans ?_; first | assumption | exact upd_eq _ _ _ | (refine (upd_ne _ _ (by omega)).trans ?_; first | assumption | exact upd_eq _ _ _)))) (rfl) (by omega) (by omega) ?_
    refine Gq_s (pc' := 47) rfl rfl rfl ?_
    refine Gq_ceq (pc' := 50) (t := 54) rfl rfl rfl (by omega) (by omega) (fun he => ?_) (fun he => ?_)
    · refine Gq_s (pc' := 55) rfl rfl rfl ?_
      exact Gq_ret rfl rfl (rfl) (⟨by rw [show grwn ch on c = false from decide_eq_false (fun q => q (by omega))]; rfl, rfl, rfl⟩)
    · refine Gq_s (pc' := 51) rfl rfl rfl ?_
      refine Gq_goto rfl (t := 55) rfl ?_
      exact Gq_ret rfl rfl (rfl) (⟨by rw [show grwn ch on c = true from decide_eq_true (by omega)]; rfl, rfl, rfl⟩)
theorem t_nds_l {S : ScT} {t n p : Nat} {ch : Nat → Option Nat} {Q : XLf → Prop} (ht : t + 2 < 119) (hp : p < 12) : ∀ (l : List CR) (x : Option Nat) (H : HF) (s : (Nat → Nat) × Bool), ChnAt H x l → H t = some (false, 2, [.ref (t + 1), .ref (t + 2)]) → H (t + 1) = some (true, 3, aR 12 ch) → H (t + 2) = some (true, 0, aNt 12 s.1) → o16 s.1 → Gw S xm80 68 [(0, .ref t), (1, .int (zI (bI (l.foldl (nOne ch p) s).2))), (2, .int (zI (p : Int))), (3, .null)] [] (hup H (t + 2) (true, 0, aNt 12 (l.foldl (nOne ch p) s).1)) n 0 0 Q → Gw S xm80 33 [(0, .ref t), (1, .int (zI (bI s.2))), (2, .int (zI (p : Int))), (3, rvl x)] [] H n 0 0 Q := by
  intro l
  induction l with
  | nil =>
    intro x H s hl h0 h1 h2 ho kk
    obtain rfl : x = none := hl
    refine Gq_s (pc' := 34) rfl rfl rfl ?_
    refine Gq_nul_n rfl (t := 68) rfl ?_
    rw [← upd_self h2]
    exact kk
  | cons c l ih =>
    intro x H s hl h0 h1 h2 ho kk
    obtain ⟨q, nx, rfl, hcl, hch⟩ := hl
    have hcl0 := hcl
    obtain ⟨hq, hok, r, -, -, h3⟩ := hcl0
    refine Gq_s (pc' := 34) rfl rfl rfl ?_
    refine Gq_nul_r (pc' := 37) (t := 68) rfl rfl rfl ?_
    refine Gq_s (pc' := 38) rfl rfl rfl ?_
    refine Gq_s (pc' := 39) rfl rfl rfl ?_
    refine Gq_get (pc' := 42) rfl rfl (by first | assumption | exact upd_eq _ _ _ | (refine (upd_ne _ _ (by omega)).trans ?_; first | assumption | exact upd_eq _ _ _ | (refine (upd_ne _ _ (by omega)).trans ?_; first | assumption | exact upd_eq _ _ _ | (refine (upd_ne _ _ (by omega)).trans ?_; first | assumption | exact upd_eq _ _ _)))) (by exact rfl) ?_
    refine Gq_s (pc' := 43) rfl rfl rfl ?_
    refine Gq_iald (pc' := 44) rfl rfl (by first | assumption | exact upd_eq _ _ _ | (refine (upd_ne _ _ (by omega)).trans ?_; first | assumption | exact upd_eq _ _ _ | (refine (upd_ne _ _ (by omega)).trans ?_; first | assumption | exact upd_eq _ _ _ | (refine (upd_ne _ _ (by omega)).trans ?_; first | assumption | exact upd_eq _ _ _)))) (rfl) (by omega) (by omega) ?_
    refine Gq_callv1 (pc' := 47) (Y := xm90) (rest := []) (st' := [_]) (ce' := 0) (sl' := 0) rfl rfl rfl rfl rfl rfl rfl rfl rfl (t_countsWith n hcl (ho p)) rfl (by first | assumption | exact upd_eq _ _ _ | (refine (upd_ne _ _ (by omega)).trans ?_; first | assumption | exact upd_eq _ _ _ | (refine (upd_ne _ _ (by omega)).trans ?_; first | assumption | exact upd_eq _ _ _ | (refine (upd_ne _ _ (by omega)).trans ?_; first | assumption | exact upd_eq _ _ _)))) ?_
    refine Gq_beq (pc' := 50) (t := 60) rfl rfl rfl (fun hb => ?_) (fun hb => ?_)
    · refine Gq_s (pc' := 61) rfl rfl rfl ?_
      refine Gq_get (pc' := 64) rfl rfl (by first | assumption | exact upd_eq _ _ _ | (refine (upd_ne _ _ (by omega)).trans ?_; first | assumption | exact upd_eq _ _ _ | (refine (upd_ne _ _ (by omega)).trans ?_; first | assumption | exact upd_eq _ _ _ | (refine (upd_ne _ _ (by omega)).trans ?_; first | assumption | exact upd_eq _ _ _)))) (by exact rfl) ?_
      refine Gq_astv (pc' := 65) (lv' := [(0, _), (1, _), (2, _), (3, _)]) (k := 3) rfl (fun _ _ => rfl) rfl rfl ?_
      refine Gq_goto rfl (t := 33) rfl ?_
      have e : nOne ch p s c = s := if_neg (by rw [hb]; exact fun q => nomatch q)
      have e2 : (c :: l).foldl (nOne ch p) s = l.foldl (nOne ch p) s := by rw [List.foldl_cons, e]
      rw [e2] at kk
      exact ih nx H s hch h0 h1 h2 ho kk
    · refine Gq_s (pc' := 51) rfl rfl rfl ?_
      refine Gq_s (pc' := 52) rfl rfl rfl ?_
      refine Gq_callv1 (pc' := 55) (Y := xm81) (rest := []) (st' := [_]) (ce' := 0) (sl' := 0) rfl rfl rfl rfl rfl rfl rfl rfl rfl (t_turnOn n ht h0 h1 h2 ho hcl) rfl (by first | assumption | exact upd_eq _ _ _ | (refine (upd_ne _ _ (by omega)).trans ?_; first | assumption | exact upd_eq _ _ _ | (refine (upd_ne _ _ (by omega)).trans ?_; first | assumption | exact upd_eq _ _ _ | (refine (upd_ne _ _ (by omega)).trans ?_; first | assumption | exact upd_eq _ _ _)))) ?_
      refine Gq_beq (pc' := 58) (t := 60) rfl rfl rfl (fun hg => ?_) (fun hg => ?_)
      · refine Gq_s (pc' := 61) rfl rfl rfl ?_
        refine Gq_get (pc' := 64) rfl rfl (by first | assumption | exact upd_eq _ _ _ | (refine (upd_ne _ _ (by omega)).trans ?_; first | assumption | exact upd_eq _ _ _ | (refine (upd_ne _ _ (by omega)).trans ?_; first | assumption | exact upd_eq _ _ _ | (refine (upd_ne _ _ (by omega)).trans ?_; first | assumption | exact upd_eq _ _ _)))) (by exact rfl) ?_
        refine Gq_astv (pc' := 65) (lv' := [(0, _), (1, _), (2, _), (3, _)]) (k := 3) rfl (fun _ _ => rfl) rfl rfl ?_
        refine Gq_goto rfl (t := 33) rfl ?_
        have e : nOne ch p s c = (tOn ch s.1 c, s.2) := by unfold nOne; rw [if_pos hb, hg, Bool.or_false]
        rw [List.foldl_cons, e] at kk
        exact ih nx _ (tOn ch s.1 c, s.2) (ChainAt_upd ht hch) (by rw [upd_ne _ _ (by omega)]; exact h0) (by rw [upd_ne _ _ (by omega)]; exact h1) (upd_eq _ _ _) (o16_tOn ho hok) (by rw [upd_upd]; exact kk)
      · refine Gq_s (pc' := 59) rfl rfl rfl ?_
        refine Gq_s (pc' := 60) (lv' := [(0, _), (1, _), (2, _), (3, _)]) rfl rfl rfl ?_
        refine Gq_s (pc' := 61) rfl rfl rfl ?_
        refine Gq_get (pc' := 64) rfl rfl (by first | assumption | exact upd_eq _ _ _ | (refine (upd_ne _ _ (by omega)).trans ?_; first | assumption | exact upd_eq _ _ _ | (refine (upd_ne _ _ (by omega)).trans ?_; first | assumption | exact upd_eq _ _ _ | (refine (upd_ne _ _ (by omega)).trans ?_; first | assumption | exact upd_eq _ _ _)))) (by exact rfl) ?_
        refine Gq_astv (pc' := 65) (lv' := [(0, _), (1, _), (2, _), (3, _)]) (k := 3) rfl (fun _ _ => rfl) rfl rfl ?_
        refine Gq_goto rfl (t := 33) rfl ?_
        have e : nOne ch p s c = (tOn ch s.1 c, true) := by unfold nOne; rw [if_pos hb, hg, Bool.or_true]
        rw [List.foldl_cons, e] at kk
        exact ih nx _ (tOn ch s.1 c, true) (ChainAt_upd ht hch) (by rw [upd_ne _ _ (by omega)]; exact h0) (by rw [upd_ne _ _ (by omega)]; exact h1) (upd_eq _ _ _) (o16_tOn ho hok) (by rw [upd_upd]; exact kk)
theorem t_tbn_l {S : ScT} {t n : Nat} {ch : Nat → Option Nat} {vr : Nat → VR} {V : Nat → Prop} (ht : t + 2 < 119) (hC : ChV V ch) : ∀ (k j : Nat) (H : HF) (s : (Nat → Nat) × Bool) (ex : XL), j + k = 12 → (ex = [] ∨ ∃ v, ex = [(3, v)]) → VsA H vr V → H t = some (false, 2, [.ref (t + 1), .ref (t + 2)]) → H (t + 1) = some (true, 3, aR 12 ch) → H (t + 2) = some (true, 0, aNt 12 s.1) → o16 s.1 → Gw S xm80 4 ((0, .ref t) :: (1, .int (zI (bI s.2))) :: (2, .int (zI (j : Int))) :: ex) [] H n 0 0 (MQe xm80 (fun v G m => v = some (.int (zI (bI (nRun vr ch k j s).2))) ∧ G = (hup H (t + 2) (true, 0, aNt 12 (nRun vr ch k j s).1)) ∧ m = n)) := by
  intro k
  induction k with
  | zero =>
    intro j H s ex hj hex hvs h0 h1 h2 ho
    refine Gq_s (pc' := 5) rfl rfl rfl ?_
    refine Gq_bipush (pc' := 7) rfl rfl (by decide) ?_
    refine Gq_cge (pc' := 10) (t := 74) rfl rfl rfl (by omega) (by omega) (fun _ => ?_) (fun hq => absurd (by omega) hq)
    refine Gq_s (pc' := 75) rfl rfl rfl ?_
    exact Gq_ret rfl rfl (xret_b _) (⟨rfl, (upd_self h2).symm, rfl⟩)
  | succ k ih =>
    intro j H s ex hj hex hvs h0 h1 h2 ho
    refine Gq_s (pc' := 5) rfl rfl rfl ?_
    refine Gq_bipush (pc' := 7) rfl rfl (by decide) ?_
    refine Gq_cge (pc' := 10) (t := 74) rfl rfl rfl (by omega) (by omega) (fun hq => absurd hq (by omega)) (fun _ => ?_)
    refine Gq_s (pc' := 11) rfl rfl rfl ?_
    refine Gq_get (pc' := 14) rfl rfl (by first | assumption | exact upd_eq _ _ _ | (refine (upd_ne _ _ (by omega)).trans ?_; first | assumption | exact upd_eq _ _ _ | (refine (upd_ne _ _ (by omega)).trans ?_; first | assumption | exact upd_eq _ _ _ | (refine (upd_ne _ _ (by omega)).trans ?_; first | assumption | exact upd_eq _ _ _)))) (by exact rfl) ?_
    refine Gq_s (pc' := 15) rfl rfl rfl ?_
    refine Gq_aalx (pc' := 16) rfl rfl (by first | assumption | exact upd_eq _ _ _ | (refine (upd_ne _ _ (by omega)).trans ?_; first | assumption | exact upd_eq _ _ _ | (refine (upd_ne _ _ (by omega)).trans ?_; first | assumption | exact upd_eq _ _ _ | (refine (upd_ne _ _ (by omega)).trans ?_; first | assumption | exact upd_eq _ _ _)))) (by exact rfl) (rfl) (by omega) (by omega) (fun hx => ?_) (fun q hx => ?_)
    · refine Gq_non_n (pc' := 19) (t := 23) rfl rfl rfl ?_
      refine Gq_s (pc' := 20) rfl rfl rfl ?_
      refine Gq_goto rfl (t := 32) rfl ?_
      refine Gq_st1 (pc' := 33) (lv' := [(0, _), (1, _), (2, _), (3, _)]) (k := 3) rfl (fun _ => rfl) rfl (xst1_ex (pre := [(0, _), (1, _), (2, _)]) hex rfl) ?_
      refine Gq_s (pc' := 34) rfl rfl rfl ?_
      refine Gq_nul_n rfl (t := 68) rfl ?_
      refine Gq_iinc (pc' := 71) (lv' := [(0, _), (1, _), (2, _), (3, _)]) rfl rfl rfl rfl ?_
      refine Gq_goto rfl (t := 4) rfl ?_
      have e : nRun vr ch (k + 1) j s = nRun vr ch k (j + 1) s := by
        show nRun vr ch k (j + 1) (nPk vr ch j s) = _
        unfold nPk
        rw [hx]
      rw [e]
      exact ih (j + 1) H s [(3, .null)] (by omega) (.inr ⟨_, rfl⟩) hvs h0 h1 h2 ho
    · obtain ⟨hq, hN, f, g, h3, h4, h5⟩ := hvs q (hC j q (by omega) hx)
      refine Gq_non_r rfl (t := 23) rfl ?_
      refine Gq_s (pc' := 24) rfl rfl rfl ?_
      refine Gq_get (pc' := 27) rfl rfl (by first | assumption | exact upd_eq _ _ _ | (refine (upd_ne _ _ (by omega)).trans ?_; first | assumption | exact upd_eq _ _ _ | (refine (upd_ne _ _ (by omega)).trans ?_; first | assumption | exact upd_eq _ _ _ | (refine (upd_ne _ _ (by omega)).trans ?_; first | assumption | exact upd_eq _ _ _)))) (by exact rfl) ?_
      refine Gq_s (pc' := 28) rfl rfl rfl ?_
      refine Gq_aald (pc' := 29) rfl rfl (by first | assumption | exact upd_eq _ _ _ | (refine (upd_ne _ _ (by omega)).trans ?_; first | assumption | exact upd_eq _ _ _ | (refine (upd_ne _ _ (by omega)).trans ?_; first | assumption | exact upd_eq _ _ _ | (refine (upd_ne _ _ (by omega)).trans ?_; first | assumption | exact upd_eq _ _ _)))) (by exact rfl) (rfl) (by omega) (by omega) (rv_s hx) ?_
      refine Gq_get (pc' := 32) rfl rfl (by first | assumption | exact upd_eq _ _ _ | (refine (upd_ne _ _ (by omega)).trans ?_; first | assumption | exact upd_eq _ _ _ | (refine (upd_ne _ _ (by omega)).trans ?_; first | assumption | exact upd_eq _ _ _ | (refine (upd_ne _ _ (by omega)).trans ?_; first | assumption | exact upd_eq _ _ _)))) (by exact rfl) ?_
      refine Gq_astv (pc' := 33) (lv' := [(0, _), (1, _), (2, _), (3, _)]) (k := 3) rfl (fun _ _ => rfl) rfl (xst1_ex (pre := [(0, _), (1, _), (2, _)]) hex rfl) ?_
      have e : nRun vr ch (k + 1) j s = nRun vr ch k (j + 1) ((vQ (vr q)).foldl (nOne ch j) s) := by
        show nRun vr ch k (j + 1) (nPk vr ch j s) = _
        unfold nPk
        rw [hx]
      rw [e]
      have hoo := o16_fold (ch := ch) (p := j) (ChainAt_ok h4) ho
      refine t_nds_l ht (by omega) _ f H s h4 h0 h1 h2 ho ?_
      refine Gq_iinc (pc' := 71) (lv' := [(0, _), (1, _), (2, _), (3, _)]) rfl rfl rfl rfl ?_
      refine Gq_goto rfl (t := 4) rfl ?_
      have := ih (j + 1) (hup H (t + 2) (true, 0, aNt 12 ((vQ (vr q)).foldl (nOne ch j) s).1)) ((vQ (vr q)).foldl (nOne ch j) s) [(3, .null)] (by omega) (.inr ⟨_, rfl⟩) (VS_upd ht hvs) (by rw [upd_ne _ _ (by omega)]; exact h0) (by rw [upd_ne _ _ (by omega)]; exact h1) (upd_eq _ _ _) hoo
      simp only [upd_upd] at this
      exact this
theorem t_tbn {S : ScT} {H : HF} (n : Nat) {t : Nat} {ch : Nat → Option Nat} {on : Nat → Nat} {vr : Nat → VR} {V : Nat → Prop} (ht : t + 2 < 119) (hC : ChV V ch) (hvs : VsA H vr V) (h0 : H t = some (false, 2, [.ref (t + 1), .ref (t + 2)])) (h1 : H (t + 1) = some (true, 3, aR 12 ch)) (h2 : H (t + 2) = some (true, 0, aNt 12 on)) (ho : o16 on) : Rdt S 80 [.ref t] H n (some (.int (zI (bI (nRun vr ch 12 0 (on, false)).2)))) (hup H (t + 2) (true, 0, aNt 12 (nRun vr ch 12 0 (on, false)).1)) n := by
  refine Rm_of (M := xm80) (lv := [(0, _)]) rfl rfl rfl ?_
  refine Gq_s (pc' := 1) rfl rfl rfl ?_
  refine Gq_s (pc' := 2) (lv' := [(0, _), (1, _)]) rfl rfl rfl ?_
  refine Gq_s (pc' := 3) rfl rfl rfl ?_
  refine Gq_s (pc' := 4) (lv' := [(0, _), (1, _), (2, _)]) rfl rfl rfl ?_
  exact t_tbn_l ht hC 12 0 H (on, false) [] rfl (.inl rfl) hvs h0 h1 h2 ho
theorem o16_nPk {H : HF} {ch : Nat → Option Nat} {vr : Nat → VR} {V : Nat → Prop} (hC : ChV V ch) (hvs : VsA H vr V) {p : Nat} (hp : p < 12) {s : (Nat → Nat) × Bool} (h : o16 s.1) : o16 (nPk vr ch p s).1 := by
  unfold nPk
  cases hx : ch p with
  | none => exact h
  | some q =>
    obtain ⟨-, -, f, g, -, h4, -⟩ := hvs q (hC p q hp hx)
    exact o16_fold (ChainAt_ok h4) h
theorem o16_nRun {H : HF} {ch : Nat → Option Nat} {vr : Nat → VR} {V : Nat → Prop} (hC : ChV V ch) (hvs : VsA H vr V) : ∀ (k j : Nat) (s : (Nat → Nat) × Bool), j + k ≤ 12 → o16 s.1 → o16 (nRun vr ch k j s).1
  | 0, _, _, _, h => h
  | k + 1, j, s, hj, h => o16_nRun hC hvs k (j + 1) _ (by omega) (o16_nPk hC hvs (by omega) h)
theorem o16_tofRun {H : HF} {ch : Nat → Option Nat} {vr : Nat → VR} {V : Nat → Prop} (hC : ChV V ch) (hvs : VsA H vr V) : ∀ (k : Nat) (on : Nat → Nat), o16 on → o16 (tofRun vr ch k on)
  | 0, _, h => h
  | k + 1, on, h => by
    unfold tofRun
    have h1 := o16_nRun hC hvs 12 0 (on, false) (by omega) h
    split
    · exact o16_tofRun hC hvs k _ h1
    · exact h1
theorem t_tof_a {S : ScT} {t w n : Nat} {Q : XLf → Prop} : ∀ (k j : Nat) (H : HF) (on : Nat → Nat), j + k = 12 → H t = some (false, 2, [.ref (t + 1), .ref (t + 2)]) → H (t + 2) = some (true, 0, aNt 12 on) → (∀ p, p < j → on p = 0) → Gw S xm79 21 [(0, .ref t), (1, .ref w), (2, .int (zI 12))] [] (hup H (t + 2) (true, 0, aNt 12 (fun _ => 0))) n 0 0 Q → Gw S xm79 2 [(0, .ref t), (1, .ref w), (2, .int (zI (j : Int)))] [] H n 0 0 Q := by
  intro k
  induction k with
  | zero =>
    intro j H on hj h0 h2 hz kk
    obtain rfl : j = 12 := by omega
    refine Gq_s (pc' := 3) rfl rfl rfl ?_
    refine Gq_bipush (pc' := 5) rfl rfl (by decide) ?_
    refine Gq_cge (pc' := 8) (t := 21) rfl rfl rfl (by omega) (by omega) (fun _ => ?_) (fun hq => absurd (by omega) hq)
    rw [← aN_ext (f := on) (g := fun _ => 0) (fun p hp => hz p hp), upd_self h2] at kk
    exact kk
  | succ k ih =>
    intro j H on hj h0 h2 hz kk
    refine Gq_s (pc' := 3) rfl rfl rfl ?_
    refine Gq_bipush (pc' := 5) rfl rfl (by decide) ?_
    refine Gq_cge (pc' := 8) (t := 21) rfl rfl rfl (by omega) (by omega) (fun hq => absurd hq (by omega)) (fun _ => ?_)
    refine Gq_s (pc' := 9) rfl rfl rfl ?_
    refine Gq_get (pc' := 12) rfl rfl (by first | assumption | exact upd_eq _ _ _ | (refine (upd_ne _ _ (by omega)).trans ?_; first | assumption | exact upd_eq _ _ _ | (refine (upd_ne _ _ (by omega)).trans ?_; first | assumption | exact upd_eq _ _ _ | (refine (upd_ne _ _ (by omega)).trans ?_; first | assumption | exact upd_eq _ _ _)))) (by exact rfl) ?_
    refine Gq_s (pc' := 13) rfl rfl rfl ?_
    refine Gq_s (pc' := 14) rfl rfl rfl ?_
    refine Gq_iast (pc' := 15) rfl rfl (by first | assumption | exact upd_eq _ _ _ | (refine (upd_ne _ _ (by omega)).trans ?_; first | assumption | exact upd_eq _ _ _ | (refine (upd_ne _ _ (by omega)).trans ?_; first | assumption | exact upd_eq _ _ _ | (refine (upd_ne _ _ (by omega)).trans ?_; first | assumption | exact upd_eq _ _ _)))) (rfl) (by omega) (by omega) ?_
    rw [show (0 : Int) = ((0 : Nat) : Int) from rfl, aN_fset]
    refine Gq_iinc (pc' := 18) (lv' := [(0, _), (1, _), (2, _)]) rfl rfl rfl rfl ?_
    refine Gq_goto rfl (t := 2) rfl ?_
    refine ih (j + 1) _ (fset on j 0) (by omega) (by rw [upd_ne _ _ (by omega)]; exact h0) (upd_eq _ _ _) (fun p hp => ?_) (by rw [upd_upd]; exact kk)
    by_cases e : p = j
    · subst e; exact fset_eq _ _ _
    · rw [fset_ne _ _ e]; exact hz p (by omega)
theorem t_tof_b {S : ScT} {t w n : Nat} {ch : Nat → Option Nat} {wl : List CR} {Q : XLf → Prop} (ht : t + 2 < 119) (hw : w + 1 < 119) (hd : ¬ t + 2 = w ∧ ¬ t + 2 = w + 1) : ∀ (k j : Nat) (H : HF) (on : Nat → Nat), j + k = wl.length → WiAt H w wl → H t = some (false, 2, [.ref (t + 1), .ref (t + 2)]) → H (t + 1) = some (true, 3, aR 12 ch) → H (t + 2) = some (true, 0, aNt 12 on) → o16 on → Gw S xm79 48 [(0, .ref t), (1, .ref w), (2, .int (zI (wl.length : Int)))] [] (hup H (t + 2) (true, 0, aNt 12 ((wl.drop j).foldl (tOn ch) on))) n 0 0 Q → Gw S xm79 23 [(0, .ref t), (1, .ref w), (2, .int (zI (j : Int)))] [] H n 0 0 Q := by
  intro k
  induction k with
  | zero =>
    intro j H on hj hW h0 h1 h2 ho kk
    obtain rfl : j = wl.length := by omega
    obtain ⟨h3, hL, -⟩ := id hW
    refine Gq_s (pc' := 24) rfl rfl rfl ?_
    refine Gq_s (pc' := 25) rfl rfl rfl ?_
    refine Gq_get (pc' := 28) rfl rfl (by first | assumption | exact upd_eq _ _ _ | (refine (upd_ne _ _ (by omega)).trans ?_; first | assumption | exact upd_eq _ _ _ | (refine (upd_ne _ _ (by omega)).trans ?_; first | assumption | exact upd_eq _ _ _ | (refine (upd_ne _ _ (by omega)).trans ?_; first | assumption | exact upd_eq _ _ _)))) (by exact rfl) ?_
    refine Gq_cge (pc' := 31) (t := 48) rfl rfl rfl (by omega) (by omega) (fun _ => ?_) (fun hq => absurd (by omega) hq)
    rw [List.drop_length] at kk
    rw [← upd_self h2]
    exact kk
  | succ k ih =>
    intro j H on hj hW h0 h1 h2 ho kk
    have hjl : j < wl.length := by omega
    obtain ⟨h3, hL, wc, h4, h5⟩ := id hW
    obtain ⟨q, nx, h6, h7⟩ := h5 j wl[j] (List.getElem?_eq_getElem hjl)
    refine Gq_s (pc' := 24) rfl rfl rfl ?_
    refine Gq_s (pc' := 25) rfl rfl rfl ?_
    refine Gq_get (pc' := 28) rfl rfl (by first | assumption | exact upd_eq _ _ _ | (refine (upd_ne _ _ (by omega)).trans ?_; first | assumption | exact upd_eq _ _ _ | (refine (upd_ne _ _ (by omega)).trans ?_; first | assumption | exact upd_eq _ _ _ | (refine (upd_ne _ _ (by omega)).trans ?_; first | assumption | exact upd_eq _ _ _)))) (by exact rfl) ?_
    refine Gq_cge (pc' := 31) (t := 48) rfl rfl rfl (by omega) (by omega) (fun hq => absurd hq (by omega)) (fun _ => ?_)
    refine Gq_s (pc' := 32) rfl rfl rfl ?_
    refine Gq_s (pc' := 33) rfl rfl rfl ?_
    refine Gq_get (pc' := 36) rfl rfl (by first | assumption | exact upd_eq _ _ _ | (refine (upd_ne _ _ (by omega)).trans ?_; first | assumption | exact upd_eq _ _ _ | (refine (upd_ne _ _ (by omega)).trans ?_; first | assumption | exact upd_eq _ _ _ | (refine (upd_ne _ _ (by omega)).trans ?_; first | assumption | exact upd_eq _ _ _)))) (by exact rfl) ?_
    refine Gq_s (pc' := 37) rfl rfl rfl ?_
    refine Gq_aald (pc' := 38) rfl rfl (by first | assumption | exact upd_eq _ _ _ | (refine (upd_ne _ _ (by omega)).trans ?_; first | assumption | exact upd_eq _ _ _ | (refine (upd_ne _ _ (by omega)).trans ?_; first | assumption | exact upd_eq _ _ _ | (refine (upd_ne _ _ (by omega)).trans ?_; first | assumption | exact upd_eq _ _ _)))) (by exact rfl) (rfl) (by omega) (by omega) (rv_s h6) ?_
    refine Gq_callv1 (pc' := 41) (Y := xm81) (rest := []) (st' := [_]) (ce' := 0) (sl' := 0) rfl rfl rfl rfl rfl rfl rfl rfl rfl (t_turnOn n ht h0 h1 h2 ho h7) rfl (by first | assumption | exact upd_eq _ _ _ | (refine (upd_ne _ _ (by omega)).trans ?_; first | assumption | exact upd_eq _ _ _ | (refine (upd_ne _ _ (by omega)).trans ?_; first | assumption | exact upd_eq _ _ _ | (refine (upd_ne _ _ (by omega)).trans ?_; first | assumption | exact upd_eq _ _ _)))) ?_
    refine Gq_s (pc' := 42) rfl rfl rfl ?_
    refine Gq_iinc (pc' := 45) (lv' := [(0, _), (1, _), (2, _)]) rfl rfl rfl rfl ?_
    refine Gq_goto rfl (t := 23) rfl ?_
    rw [List.drop_eq_getElem_cons hjl, List.foldl_cons] at kk
    exact ih (j + 1) _ (tOn ch on wl[j]) (by omega) (WiAt_upd ht hd.1 hd.2 hW) (by rw [upd_ne _ _ (by omega)]; exact h0) (by rw [upd_ne _ _ (by omega)]; exact h1) (upd_eq _ _ _) (o16_tOn ho h7.2.1) (by rw [upd_upd]; exact kk)
theorem t_tof_c {S : ScT} {t w n : Nat} {ch : Nat → Option Nat} {vr : Nat → VR} {V : Nat → Prop} (ht : t + 2 < 119) (hC : ChV V ch) : ∀ (k j : Nat) (H : HF) (on : Nat → Nat), j + k = 49 → VsA H vr V → H t = some (false, 2, [.ref (t + 1), .ref (t + 2)]) → H (t + 1) = some (true, 3, aR 12 ch) → H (t + 2) = some (true, 0, aNt 12 on) → o16 on → Gw S xm79 52 [(0, .ref t), (1, .ref w), (2, .int (zI (bI true))), (3, .int (zI (j : Int)))] [] H n 0 0 (MQe xm79 (fun v G m => v = none ∧ G = (hup H (t + 2) (true, 0, aNt 12 (tofRun vr ch k on))) ∧ m = n)) := by
  intro k
  induction k with
  | zero =>
    intro j H on hj hvs h0 h1 h2 ho
    refine Gq_s (pc' := 53) rfl rfl rfl ?_
    refine Gq_zeq (pc' := 56) (t := 73) rfl rfl rfl (by decide) (fun hq => absurd hq (by decide)) (fun _ => ?_)
    refine Gq_s (pc' := 57) rfl rfl rfl ?_
    refine Gq_bipush (pc' := 59) rfl rfl (by decide) ?_
    refine Gq_cgt (pc' := 62) (t := 73) rfl rfl rfl (by omega) (by omega) (fun _ => ?_) (fun hq => absurd (by omega) hq)
    exact Gq_ret rfl rfl (rfl) (⟨rfl, (upd_self h2).symm, rfl⟩)
  | succ k ih =>
    intro j H on hj hvs h0 h1 h2 ho
    refine Gq_s (pc' := 53) rfl rfl rfl ?_
    refine Gq_zeq (pc' := 56) (t := 73) rfl rfl rfl (by decide) (fun hq => absurd hq (by decide)) (fun _ => ?_)
    refine Gq_s (pc' := 57) rfl rfl rfl ?_
    refine Gq_bipush (pc' := 59) rfl rfl (by decide) ?_
    refine Gq_cgt (pc' := 62) (t := 73) rfl rfl rfl (by omega) (by omega) (fun hq => absurd hq (by omega)) (fun _ => ?_)
    refine Gq_s (pc' := 63) rfl rfl rfl ?_
    refine Gq_callv1 (pc' := 66) (Y := xm80) (rest := []) (st' := [_]) (ce' := 0) (sl' := 0) rfl rfl rfl rfl rfl rfl rfl rfl rfl (t_tbn n ht hC hvs h0 h1 h2 ho) rfl (by first | assumption | exact upd_eq _ _ _ | (refine (upd_ne _ _ (by omega)).trans ?_; first | assumption | exact upd_eq _ _ _ | (refine (upd_ne _ _ (by omega)).trans ?_; first | assumption | exact upd_eq _ _ _ | (refine (upd_ne _ _ (by omega)).trans ?_; first | assumption | exact upd_eq _ _ _)))) ?_
    refine Gq_s (pc' := 67) (lv' := [(0, _), (1, _), (2, _), (3, _)]) rfl rfl rfl ?_
    refine Gq_iinc (pc' := 70) (lv' := [(0, _), (1, _), (2, _), (3, _)]) rfl rfl rfl rfl ?_
    refine Gq_goto rfl (t := 52) rfl ?_
    cases hg : (nRun vr ch 12 0 (on, false)).2 with
    | false =>
      have e : tofRun vr ch (k + 1) on = (nRun vr ch 12 0 (on, false)).1 := by
        unfold tofRun
        rw [hg]
        rfl
      rw [e]
      refine Gq_s (pc' := 53) rfl rfl rfl ?_
      refine Gq_zeq (pc' := 56) (t := 73) rfl rfl rfl (by decide) (fun _ => ?_) (fun hq => absurd (rfl) hq)
      exact Gq_ret rfl rfl (rfl) (⟨rfl, rfl, rfl⟩)
    | true =>
      have e : tofRun vr ch (k + 1) on = tofRun vr ch k (nRun vr ch 12 0 (on, false)).1 := by
        rw [tofRun, hg]
        rfl
      rw [e]
      have := ih (j + 1) (hup H (t + 2) (true, 0, aNt 12 (nRun vr ch 12 0 (on, false)).1)) _ (by omega) (VS_upd ht hvs) (by rw [upd_ne _ _ (by omega)]; exact h0) (by rw [upd_ne _ _ (by omega)]; exact h1) (upd_eq _ _ _) (o16_nRun hC hvs 12 0 (on, false) (by omega) ho)
      simp only [upd_upd] at this
      exact this
theorem t_tof {S : ScT} {H : HF} (n : Nat) {t : Nat} {ch : Nat → Option Nat} {on : Nat → Nat} {vr : Nat → VR} {V : Nat → Prop} (ht : t + 2 < 119) (hC : ChV V ch) (hvs : VsA H vr V) (h0 : H t = some (false, 2, [.ref (t + 1), .ref (t + 2)])) (h1 : H (t + 1) = some (true, 3, aR 12 ch)) (h2 : H (t + 2) = some (true, 0, aNt 12 on)) {w : Nat} {wl : List CR} (hw : w + 1 < 119) (hd : ¬ t + 2 = w ∧ ¬ t + 2 = w + 1) (hW : WiAt H w wl) : Rdt S 79 [.ref t, .ref w] H n none (hup H (t + 2) (true, 0, aNt 12 (onF vr ch wl))) n := by
  refine Rm_of (M := xm79) (lv := [(0, _), (1, _)]) rfl rfl rfl ?_
  refine Gq_s (pc' := 1) rfl rfl rfl ?_
  refine Gq_s (pc' := 2) (lv' := [(0, _), (1, _), (2, _)]) rfl rfl rfl ?_
  refine t_tof_a 12 0 H on rfl h0 h2 (fun p hp => absurd hp (by omega)) ?_
  refine Gq_s (pc' := 22) rfl rfl rfl ?_
  refine Gq_s (pc' := 23) (lv' := [(0, _), (1, _), (2, _)]) rfl rfl rfl ?_
  refine t_tof_b ht hw hd wl.length 0 (hup H (t + 2) (true, 0, aNt 12 (fun _ => 0))) (fun _ => 0) (by omega) (WiAt_upd ht hd.1 hd.2 hW) (by rw [upd_ne _ _ (by omega)]; exact h0) (by rw [upd_ne _ _ (by omega)]; exact h1) (upd_eq _ _ _) o16_0 ?_
  refine Gq_s (pc' := 49) rfl rfl rfl ?_
  refine Gq_s (pc' := 50) (lv' := [(0, _), (1, _), (2, _)]) rfl rfl rfl ?_
  refine Gq_s (pc' := 51) rfl rfl rfl ?_
  refine Gq_s (pc' := 52) (lv' := [(0, _), (1, _), (2, _), (3, _)]) rfl rfl rfl ?_
  have hwo : ∀ c ∈ wl, cOK c := fun c hc => by
    obtain ⟨i, hi, rfl⟩ := List.getElem_of_mem hc
    obtain ⟨-, -, wc, -, h5⟩ := id hW
    obtain ⟨q, nx, -, h7⟩ := h5 i wl[i] (List.getElem?_eq_getElem hi)
    exact h7.2.1
  rw [upd_upd]
  have := t_tof_c (S := S) (w := w) (n := n) ht hC 49 0 (hup H (t + 2) (true, 0, aNt 12 (wl.foldl (tOn ch) (fun _ => 0)))) _ rfl (VS_upd ht hvs) (by rw [upd_ne _ _ (by omega)]; exact h0) (by rw [upd_ne _ _ (by omega)]; exact h1) (upd_eq _ _ _) (o16_wl hwo o16_0)
  simp only [upd_upd] at this
  exact this
end XK3
