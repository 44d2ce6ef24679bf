/-! the constructors (printed by wip/p46/gen57.py) -/
section XKD
section
variable {S : ScT} {M : XM} {pc pc' : Nat} {lv lv' : XL} {st st' : List Value} {H : HF} {n ce sl : Nat} {Q : XLf → Prop}
theorem xrows_key {c : XCl} : ∀ {N n o : Nat} {e : XCl}, xhk (xrows n c N) o = some e → n ≤ o ∧ o < n + N
  | 0, _, _, _, h => by cases h
  | N + 1, n, o, e, h => by
    have h1 : xhk ((n, c) :: xrows (n + 1) c N) o = some e := h
    rw [xhk_cons] at h1
    by_cases q : o = n
    · omega
    · rw [if_neg q] at h1
      have := xrows_key h1
      omega
theorem xgrid_key {M : Nat} : ∀ {N n o : Nat} {e : XCl}, xhk (xgrid n M N) o = some e → n ≤ o ∧ o < n + N * (1 + M)
  | 0, _, _, _, h => by cases h
  | N + 1, n, o, e, h => by
    have h1 : xhk (((n, (true, 6, xrefw (n + 1) 1 M)) :: xrows (n + 1) (true, 0, []) M) ++ xgrid (n + (1 + M)) M N) o = some e := h
    rw [xhk_app] at h1
    rw [Nat.succ_mul]
    cases h2 : xhk ((n, (true, 6, xrefw (n + 1) 1 M)) :: xrows (n + 1) (true, 0, []) M) o with
    | none =>
      rw [h2] at h1
      have := xgrid_key h1
      omega
    | some c =>
      rw [xhk_cons] at h2
      by_cases q : o = n
      · omega
      · rw [if_neg q] at h2
        have := xrows_key h2
        omega
theorem Fr_app {H : HF} {n n' : Nat} {L : XH} (hf : Frs H n) (hn : n ≤ n') (hk : ∀ o c, xhk L o = some c → n ≤ o ∧ o < n') : Frs (app H L) n' := by
  intro o ho
  unfold app
  cases h : xhk L o with
  | none => exact hf o (by omega)
  | some c =>
    have := hk o c h
    omega
theorem xnewm2_at {to ti k m : Nat} {tl : List Nat} {R : Room} {h : XH} (hk : k ≤ 1000) (hm : m ≤ 1000) (h1 : ce + (1 + m) ≤ R.cells) (h2 : sl + (m + m * k) ≤ R.slots) : xnewm2 R (to :: ti :: tl) (.int (zI (k : Int)) :: .int (zI (m : Int)) :: st) ([], h, n, ce, sl) = some (.ref n :: st, ([], h ++ ((n, (true, to, xrefw (n + 1) 1 m)) :: xrows (n + 1) (true, ti, List.replicate k (xdv ti)) m), n + 1 + m, ce + (1 + m), sl + (m + m * k))) := by
  show (bif decide (nI k < 0) || decide (nI m < 0) then none else bif Nat.ble (nI k).toNatClampNeg 1000 && (Nat.ble (nI m).toNatClampNeg 1000 && (Nat.ble (ce + (1 + (nI m).toNatClampNeg)) R.cells && Nat.ble (sl + ((nI m).toNatClampNeg + (nI m).toNatClampNeg * (nI k).toNatClampNeg)) R.slots)) then some (Value.ref n :: st, (([] : XP), h ++ ((n, ((true, to, xrefw (n + 1) 1 (nI m).toNatClampNeg) : XCl)) :: xrows (n + 1) (true, ti, List.replicate (nI k).toNatClampNeg (xdv ti)) (nI m).toNatClampNeg), n + 1 + (nI m).toNatClampNeg, ce + (1 + (nI m).toNatClampNeg), sl + ((nI m).toNatClampNeg + (nI m).toNatClampNeg * (nI k).toNatClampNeg))) else none) = _
  rw [decide_eq_false (nI_pos (by omega : k < 2 ^ 31)), decide_eq_false (nI_pos (by omega : m < 2 ^ 31)), nI_clamp (by omega : k < 2 ^ 31), nI_clamp (by omega : m < 2 ^ 31), Nat.ble_eq_true_of_le hk, Nat.ble_eq_true_of_le hm, Nat.ble_eq_true_of_le h1, Nat.ble_eq_true_of_le h2]
  rfl
theorem Gq_newm2 {idx to ti k m : Nat} {tl : List Nat} {vs : List Value} {a b : Int} (hr : yrow M pc = some (pc, .multianewarray idx 2, 1, to :: ti :: tl)) (hp : pc + 4 = pc') (ha : a = ((k : Nat) : Int)) (hb : b = ((m : Nat) : Int)) (hk : k ≤ 1000) (hm : m ≤ 1000) (hv : List.replicate k (xdv ti) = vs) (h1 : ce + (1 + m) ≤ (xmR M).cells) (h2 : sl + (m + m * k) ≤ (xmR M).slots) (kk : Gw S M pc' lv (.ref n :: st) (app H ((n, (true, to, xrefw (n + 1) 1 m)) :: xrows (n + 1) (true, ti, vs) m)) (n + 1 + m) (ce + (1 + m)) (sl + (m + m * k)) Q) : Gw S M pc lv (.int (zI a) :: .int (zI b) :: st) H n ce sl Q := by
  intro h hh hf
  subst hh
  subst hp
  subst hv
  subst ha
  subst hb
  have e : xheap S (xmR M) (.multianewarray idx 2) (to :: ti :: tl) lv (.int (zI (k : Int)) :: .int (zI (m : Int)) :: st) ([], h, n, ce, sl) = _ := xnewm2_at (to := to) (ti := ti) (tl := tl) (st := st) (n := n) (h := h) hk hm h1 h2
  rw [Go_heap hr e]
  have key : ∀ o c, xhk ((n, (true, to, xrefw (n + 1) 1 m)) :: xrows (n + 1) (true, ti, List.replicate k (xdv ti)) m) o = some c → n ≤ o ∧ o < n + 1 + m := fun o c hc => by
    rw [xhk_cons] at hc
    by_cases q : o = n
    · omega
    · rw [if_neg q] at hc
      have := xrows_key hc
      omega
  exact kk _ (xhk_appd fun o c hc => hf o (key o c hc).1) (Fr_app hf (by omega) key)
theorem xnewm3_at {k m : Nat} {R : Room} {h : XH} (hk : k ≤ 1000) (hm : m ≤ 1000) (h1 : ce + (1 + m * (1 + k)) ≤ R.cells) (h2 : sl + (m + m * k) ≤ R.slots) : xnewm3 R (.int (zI 0) :: .int (zI (k : Int)) :: .int (zI (m : Int)) :: st) ([], h, n, ce, sl) = some (.ref n :: st, ([], h ++ ((n, (true, 8, xrefw (n + 1) (1 + k) m)) :: xgrid (n + 1) k m), n + 1 + m * (1 + k), ce + (1 + m * (1 + k)), sl + (m + m * k))) := by
  show (bif decide (zI 0 = 0) && (!decide (nI k < 0) && (!decide (nI m < 0) && (Nat.ble (nI k).toNatClampNeg 1000 && (Nat.ble (nI m).toNatClampNeg 1000 && (Nat.ble (ce + (1 + (nI m).toNatClampNeg * (1 + (nI k).toNatClampNeg))) R.cells && Nat.ble (sl + ((nI m).toNatClampNeg + (nI m).toNatClampNeg * (nI k).toNatClampNeg)) R.slots))))) then some (Value.ref n :: st, (([] : XP), h ++ ((n, ((true, 8, xrefw (n + 1) (1 + (nI k).toNatClampNeg) (nI m).toNatClampNeg) : XCl)) :: xgrid (n + 1) (nI k).toNatClampNeg (nI m).toNatClampNeg), n + 1 + (nI m).toNatClampNeg * (1 + (nI k).toNatClampNeg), ce + (1 + (nI m).toNatClampNeg * (1 + (nI k).toNatClampNeg)), sl + ((nI m).toNatClampNeg + (nI m).toNatClampNeg * (nI k).toNatClampNeg))) else none) = _
  rw [decide_eq_true (show zI 0 = 0 from rfl), decide_eq_false (nI_pos (by omega : k < 2 ^ 31)), decide_eq_false (nI_pos (by omega : m < 2 ^ 31)), nI_clamp (by omega : k < 2 ^ 31), nI_clamp (by omega : m < 2 ^ 31), Nat.ble_eq_true_of_le hk, Nat.ble_eq_true_of_le hm, Nat.ble_eq_true_of_le h1, Nat.ble_eq_true_of_le h2]
  rfl
theorem Gq_newm3 {idx k m : Nat} {aux : List Nat} {a b : Int} (hr : yrow M pc = some (pc, .multianewarray idx 3, 1, aux)) (hp : pc + 4 = pc') (ha : a = ((k : Nat) : Int)) (hb : b = ((m : Nat) : Int)) (hk : k ≤ 1000) (hm : m ≤ 1000) (h1 : ce + (1 + m * (1 + k)) ≤ (xmR M).cells) (h2 : sl + (m + m * k) ≤ (xmR M).slots) (kk : Gw S M pc' lv (.ref n :: st) (app H ((n, (true, 8, xrefw (n + 1) (1 + k) m)) :: xgrid (n + 1) k m)) (n + 1 + m * (1 + k)) (ce + (1 + m * (1 + k))) (sl + (m + m * k)) Q) : Gw S M pc lv (.int (zI 0) :: .int (zI a) :: .int (zI b) :: st) H n ce sl Q := by
  intro h hh hf
  subst hh
  subst hp
  subst ha
  subst hb
  have e : xheap S (xmR M) (.multianewarray idx 3) aux lv (.int (zI 0) :: .int (zI (k : Int)) :: .int (zI (m : Int)) :: st) ([], h, n, ce, sl) = _ := xnewm3_at (st := st) (n := n) (h := h) hk hm h1 h2
  rw [Go_heap hr e]
  have key : ∀ o c, xhk ((n, (true, 8, xrefw (n + 1) (1 + k) m)) :: xgrid (n + 1) k m) o = some c → n ≤ o ∧ o < n + 1 + m * (1 + k) := fun o c hc => by
    rw [xhk_cons] at hc
    by_cases q : o = n
    · omega
    · rw [if_neg q] at hc
      have := xgrid_key hc
      omega
  exact kk _ (xhk_appd fun o c hc => hf o (key o c hc).1) (Fr_app hf (by omega) key)
end
theorem all6 {A : Nat → Prop} (h0 : A 0) (h1 : A 1) (h2 : A 2) (h3 : A 3) (h4 : A 4) (h5 : A 5) : ∀ p, p < 6 → A p := by
  intro p hp
  have : p = 0 ∨ p = 1 ∨ p = 2 ∨ p = 3 ∨ p = 4 ∨ p = 5 := by omega
  rcases this with rfl | rfl | rfl | rfl | rfl | rfl
  · exact h0
  · exact h1
  · exact h2
  · exact h3
  · exact h4
  · exact h5
theorem t_wisC {S : ScT} {H : HF} (n : Nat) {k : Nat} {a b : Value} (hkn : k < n) (h0 : H k = some (false, 6, [a, b])) : Rdt S 121 [.ref k] H n none (hup (hup H n (true, 5, aR 6 (fun _ => none))) k (false, 6, [.ref n, b])) (n + 1) := by
  refine Rm_of (M := xm121) (lv := [(0, _)]) rfl rfl rfl ?_
  refine Gq_s (pc' := 1) rfl rfl rfl ?_
  refine Gq_oinit (pc' := 4) rfl rfl rfl ?_
  refine Gq_s (pc' := 5) rfl rfl rfl ?_
  refine Gq_bipush (pc' := 7) rfl rfl (by decide) ?_
  refine Gq_newa (pc' := 10) (N := 6) rfl (fun _ => rfl) rfl rfl (rfl) (by decide) ((rep_R _)) (by decide) (by decide) ?_
  refine Gq_put (pc' := 13) (fs' := [_, _]) rfl rfl (by first | assumption | exact rfl | ((repeat (refine (upd_ne _ _ (by omega)).trans ?_)); first | assumption | exact upd_eq _ _ _)) (by exact rfl) (by first | rfl | exact xfit_bI _) (by exact rfl) ?_
  exact Gq_ret rfl rfl (rfl) (⟨rfl, rfl, rfl⟩)
theorem t_choC {S : ScT} {H : HF} (n : Nat) {k : Nat} {a b : Value} (hkn : k < n) (h0 : H k = some (false, 2, [a, b])) : Rdt S 73 [.ref k] H n none (hup (hup (hup H n (true, 3, aR 12 (fun _ => none))) (n + 1) (true, 0, aI 12 (fun _ => 0))) k (false, 2, [.ref n, .ref (n + 1)])) (n + 2) := by
  refine Rm_of (M := xm73) (lv := [(0, _)]) rfl rfl rfl ?_
  refine Gq_s (pc' := 1) rfl rfl rfl ?_
  refine Gq_oinit (pc' := 4) rfl rfl rfl ?_
  refine Gq_s (pc' := 5) rfl rfl rfl ?_
  refine Gq_bipush (pc' := 7) rfl rfl (by decide) ?_
  refine Gq_newa (pc' := 10) (N := 12) rfl (fun _ => rfl) rfl rfl (rfl) (by decide) ((rep_R _)) (by decide) (by decide) ?_
  refine Gq_put (pc' := 13) (fs' := [_, _]) rfl rfl (by first | assumption | exact rfl | ((repeat (refine (upd_ne _ _ (by omega)).trans ?_)); first | assumption | exact upd_eq _ _ _)) (by exact rfl) (by first | rfl | exact xfit_bI _) (by exact rfl) ?_
  refine Gq_s (pc' := 14) rfl rfl rfl ?_
  refine Gq_bipush (pc' := 16) rfl rfl (by decide) ?_
  refine Gq_newa (pc' := 18) (N := 12) rfl (fun _ => rfl) rfl rfl (rfl) (by decide) ((rep_I _)) (by decide) (by decide) ?_
  refine Gq_put (pc' := 21) (fs' := [_, _]) rfl rfl (by first | assumption | exact rfl | ((repeat (refine (upd_ne _ _ (by omega)).trans ?_)); first | assumption | exact upd_eq _ _ _)) (by exact rfl) (by first | rfl | exact xfit_bI _) (by exact rfl) ?_
  rw [upd_comm (hup H n _) _ _ (show ¬ k = n + 1 by omega), upd_upd]
  exact Gq_ret rfl rfl (rfl) (⟨rfl, rfl, rfl⟩)
theorem t_chaC {S : ScT} {H : HF} (h0 : H 107 = some (false, 1, xD 1)) : Rmt S 69 [.ref 107] H 108 (fun v G m => v = none ∧ m = 111 ∧ ScC G ∧ ∀ o, o < 107 → G o = H o) := by
  refine Rm_of (M := xm69) (lv := [(0, _)]) rfl rfl rfl ?_
  refine Gq_s (pc' := 1) rfl rfl rfl ?_
  refine Gq_oinit (pc' := 4) rfl rfl rfl ?_
  refine Gq_s (pc' := 5) rfl rfl rfl ?_
  refine Gq_bipush (pc' := 7) rfl rfl (by decide) ?_
  refine Gq_newa (pc' := 9) (N := 12) rfl (fun _ => rfl) rfl rfl (rfl) (by decide) ((rep_I _)) (by decide) (by decide) ?_
  refine Gq_put (pc' := 12) (fs' := [_, _, _, _]) rfl rfl (by first | assumption | exact rfl | ((repeat (refine (upd_ne _ _ (by omega)).trans ?_)); first | assumption | exact upd_eq _ _ _)) (by exact rfl) (by first | rfl | exact xfit_bI _) (by exact rfl) ?_
  refine Gq_s (pc' := 13) rfl rfl rfl ?_
  refine Gq_bipush (pc' := 15) rfl rfl (by decide) ?_
  refine Gq_newa (pc' := 17) (N := 12) rfl (fun _ => rfl) rfl rfl (rfl) (by decide) ((rep_I _)) (by decide) (by decide) ?_
  refine Gq_put (pc' := 20) (fs' := [_, _, _, _]) rfl rfl (by first | assumption | exact rfl | ((repeat (refine (upd_ne _ _ (by omega)).trans ?_)); first | assumption | exact upd_eq _ _ _)) (by exact rfl) (by first | rfl | exact xfit_bI _) (by exact rfl) ?_
  refine Gq_s (pc' := 21) rfl rfl rfl ?_
  refine Gq_bipush (pc' := 23) rfl rfl (by decide) ?_
  refine Gq_newa (pc' := 25) (N := 12) rfl (fun _ => rfl) rfl rfl (rfl) (by decide) ((rep_I _)) (by decide) (by decide) ?_
  refine Gq_put (pc' := 28) (fs' := [_, _, _, _]) rfl rfl (by first | assumption | exact rfl | ((repeat (refine (upd_ne _ _ (by omega)).trans ?_)); first | assumption | exact upd_eq _ _ _)) (by exact rfl) (by first | rfl | exact xfit_bI _) (by exact rfl) ?_
  exact Gq_ret rfl rfl (rfl) (⟨rfl, rfl, ⟨_, fun _ => 0, fun _ => 0, fun _ => 0, rfl, rfl, rfl, rfl⟩, fun o ho => by repeat (first | rfl | refine (upd_ne _ _ (by omega)).trans ?_)⟩)
theorem t_plaC {S : ScT} {H : HF} (h0 : H 111 = some (false, 4, xD 4)) : Rmt S 97 [.ref 111] H 112 (fun v G m => v = none ∧ m = 115 ∧ PlAt G false 0 0 (fun _ => 0) (fun _ => 0) (fun _ => none) ∧ ∀ o, o < 111 → G o = H o) := by
  refine Rm_of (M := xm97) (lv := [(0, _)]) rfl rfl rfl ?_
  refine Gq_s (pc' := 1) rfl rfl rfl ?_
  refine Gq_oinit (pc' := 4) rfl rfl rfl ?_
  refine Gq_s (pc' := 5) rfl rfl rfl ?_
  refine Gq_bipush (pc' := 7) rfl rfl (by decide) ?_
  refine Gq_newa (pc' := 9) (N := 12) rfl (fun _ => rfl) rfl rfl (rfl) (by decide) ((rep_I _)) (by decide) (by decide) ?_
  refine Gq_put (pc' := 12) (fs' := [_, _, _, _, _, _]) rfl rfl (by first | assumption | exact rfl | ((repeat (refine (upd_ne _ _ (by omega)).trans ?_)); first | assumption | exact upd_eq _ _ _)) (by exact rfl) (by first | rfl | exact xfit_bI _) (by exact rfl) ?_
  refine Gq_s (pc' := 13) rfl rfl rfl ?_
  refine Gq_bipush (pc' := 15) rfl rfl (by decide) ?_
  refine Gq_newa (pc' := 17) (N := 12) rfl (fun _ => rfl) rfl rfl (rfl) (by decide) ((rep_I _)) (by decide) (by decide) ?_
  refine Gq_put (pc' := 20) (fs' := [_, _, _, _, _, _]) rfl rfl (by first | assumption | exact rfl | ((repeat (refine (upd_ne _ _ (by omega)).trans ?_)); first | assumption | exact upd_eq _ _ _)) (by exact rfl) (by first | rfl | exact xfit_bI _) (by exact rfl) ?_
  refine Gq_s (pc' := 21) rfl rfl rfl ?_
  refine Gq_bipush (pc' := 23) rfl rfl (by decide) ?_
  refine Gq_newa (pc' := 26) (N := 12) rfl (fun _ => rfl) rfl rfl (rfl) (by decide) ((rep_R _)) (by decide) (by decide) ?_
  refine Gq_put (pc' := 29) (fs' := [_, _, _, _, _, _]) rfl rfl (by first | assumption | exact rfl | ((repeat (refine (upd_ne _ _ (by omega)).trans ?_)); first | assumption | exact upd_eq _ _ _)) (by exact rfl) (by first | rfl | exact xfit_bI _) (by exact rfl) ?_
  exact Gq_ret rfl rfl (rfl) (⟨rfl, rfl, ⟨rfl, rfl, rfl, rfl⟩, fun o ho => by repeat (first | rfl | refine (upd_ne _ _ (by omega)).trans ?_)⟩)
theorem t_cacC {S : ScT} {H : HF} (k : Nat) (h0 : H k = some (false, 0, xD 0)) : Rmt S 63 [.ref k] H (k + 1) (fun v G m => v = none ∧ m = k + 2 ∧ G k = some (false, 0, [.ref (k + 1), .int (zI 0), .int (zI 0), .int (zI 2000)]) ∧ G (k + 1) = some (true, 3, aR 96 (fun _ => none)) ∧ ∀ o, o < k → G o = H o) := by
  refine Rm_of (M := xm63) (lv := [(0, _)]) rfl rfl rfl ?_
  refine Gq_s (pc' := 1) rfl rfl rfl ?_
  refine Gq_oinit (pc' := 4) rfl rfl rfl ?_
  refine Gq_s (pc' := 5) rfl rfl rfl ?_
  refine Gq_bipush (pc' := 7) rfl rfl (by decide) ?_
  refine Gq_newa (pc' := 10) (N := 96) rfl (fun _ => rfl) rfl rfl (rfl) (by decide) ((rep_R _)) (by decide) (by decide) ?_
  refine Gq_put (pc' := 13) (fs' := [_, _, _, _]) rfl rfl (by first | assumption | exact rfl | ((repeat (refine (upd_ne _ _ (by omega)).trans ?_)); first | assumption | exact upd_eq _ _ _)) (by exact rfl) (by first | rfl | exact xfit_bI _) (by exact rfl) ?_
  refine Gq_s (pc' := 14) rfl rfl rfl ?_
  refine Gq_sipush (pc' := 17) rfl rfl (by decide) ?_
  refine Gq_put (pc' := 20) (fs' := [_, _, _, _]) rfl rfl (by first | assumption | exact rfl | ((repeat (refine (upd_ne _ _ (by omega)).trans ?_)); first | assumption | exact upd_eq _ _ _)) (by exact rfl) (by first | rfl | exact xfit_bI _) (by exact rfl) ?_
  rw [upd_upd]
  exact Gq_ret rfl rfl (rfl) (⟨rfl, rfl, upd_eq _ _ _, (upd_ne _ _ (by omega)).trans (upd_eq _ _ _), fun o ho => by repeat (first | rfl | refine (upd_ne _ _ (by omega)).trans ?_)⟩)
theorem t_rzC {S : ScT} {H : HF} (Ow : Nat → Nat → Prop) (h0 : H 96 = some (false, 5, xD 5)) : Rmt S 108 [.ref 96] H 97 (fun v G m => v = none ∧ m = 107 ∧ ScR G Ow ∧ ∀ o, o < 96 → G o = H o) := by
  refine Rm_of (M := xm108) (lv := [(0, _)]) rfl rfl rfl ?_
  refine Gq_s (pc' := 1) rfl rfl rfl ?_
  refine Gq_oinit (pc' := 4) rfl rfl rfl ?_
  refine Gq_s (pc' := 5) rfl rfl rfl ?_
  refine Gq_new (pc' := 8) rfl rfl rfl rfl (by decide) (by decide) ?_
  refine Gq_s (pc' := 9) rfl rfl rfl ?_
  refine Gq_calls1 (pc' := 12) (Y := xm121) (rest := [_, _]) (st' := [_, _]) (ce' := 2) (sl' := 8) rfl rfl rfl rfl rfl rfl rfl rfl rfl rfl (t_wisC 98 (k := 97) (by decide) (by exact rfl)) rfl ?_
  refine Gq_put (pc' := 15) (fs' := [_, _, _, _, _, _, _, _, _, _, _]) rfl rfl (by first | assumption | exact rfl | ((repeat (refine (upd_ne _ _ (by omega)).trans ?_)); first | assumption | exact upd_eq _ _ _)) (by exact rfl) (by first | rfl | exact xfit_bI _) (by exact rfl) ?_
  refine Gq_s (pc' := 16) rfl rfl rfl ?_
  refine Gq_new (pc' := 19) rfl rfl rfl rfl (by decide) (by decide) ?_
  refine Gq_s (pc' := 20) rfl rfl rfl ?_
  refine Gq_calls1 (pc' := 23) (Y := xm73) (rest := [_, _]) (st' := [_, _]) (ce' := 5) (sl' := 34) rfl rfl rfl rfl rfl rfl rfl rfl rfl rfl (t_choC 100 (k := 99) (by decide) (by exact rfl)) rfl ?_
  refine Gq_put (pc' := 26) (fs' := [_, _, _, _, _, _, _, _, _, _, _]) rfl rfl (by first | assumption | exact rfl | ((repeat (refine (upd_ne _ _ (by omega)).trans ?_)); first | assumption | exact upd_eq _ _ _)) (by exact rfl) (by first | rfl | exact xfit_bI _) (by exact rfl) ?_
  refine Gq_s (pc' := 27) rfl rfl rfl ?_
  refine Gq_bipush (pc' := 29) rfl rfl (by decide) ?_
  refine Gq_newa (pc' := 32) (N := 96) rfl (fun _ => rfl) rfl rfl (rfl) (by decide) ((rep_R _)) (by decide) (by decide) ?_
  refine Gq_put (pc' := 35) (fs' := [_, _, _, _, _, _, _, _, _, _, _]) rfl rfl (by first | assumption | exact rfl | ((repeat (refine (upd_ne _ _ (by omega)).trans ?_)); first | assumption | exact upd_eq _ _ _)) (by exact rfl) (by first | rfl | exact xfit_bI _) (by exact rfl) ?_
  refine Gq_s (pc' := 36) rfl rfl rfl ?_
  refine Gq_bipush (pc' := 38) rfl rfl (by decide) ?_
  refine Gq_newa (pc' := 40) (N := 12) rfl (fun _ => rfl) rfl rfl (rfl) (by decide) ((rep_I _)) (by decide) (by decide) ?_
  refine Gq_put (pc' := 43) (fs' := [_, _, _, _, _, _, _, _, _, _, _]) rfl rfl (by first | assumption | exact rfl | ((repeat (refine (upd_ne _ _ (by omega)).trans ?_)); first | assumption | exact upd_eq _ _ _)) (by exact rfl) (by first | rfl | exact xfit_bI _) (by exact rfl) ?_
  refine Gq_s (pc' := 44) rfl rfl rfl ?_
  refine Gq_bipush (pc' := 46) rfl rfl (by decide) ?_
  refine Gq_newa (pc' := 48) (N := 12) rfl (fun _ => rfl) rfl rfl (rfl) (by decide) ((rep_I _)) (by decide) (by decide) ?_
  refine Gq_put (pc' := 51) (fs' := [_, _, _, _, _, _, _, _, _, _, _]) rfl rfl (by first | assumption | exact rfl | ((repeat (refine (upd_ne _ _ (by omega)).trans ?_)); first | assumption | exact upd_eq _ _ _)) (by exact rfl) (by first | rfl | exact xfit_bI _) (by exact rfl) ?_
  refine Gq_s (pc' := 52) rfl rfl rfl ?_
  refine Gq_bipush (pc' := 54) rfl rfl (by decide) ?_
  refine Gq_newa (pc' := 56) (N := 12) rfl (fun _ => rfl) rfl rfl (rfl) (by decide) ((rep_I _)) (by decide) (by decide) ?_
  refine Gq_put (pc' := 59) (fs' := [_, _, _, _, _, _, _, _, _, _, _]) rfl rfl (by first | assumption | exact rfl | ((repeat (refine (upd_ne _ _ (by omega)).trans ?_)); first | assumption | exact upd_eq _ _ _)) (by exact rfl) (by first | rfl | exact xfit_bI _) (by exact rfl) ?_
  refine Gq_s (pc' := 60) rfl rfl rfl ?_
  refine Gq_bipush (pc' := 62) rfl rfl (by decide) ?_
  refine Gq_newa (pc' := 64) (N := 12) rfl (fun _ => rfl) rfl rfl (rfl) (by decide) ((rep_I _)) (by decide) (by decide) ?_
  refine Gq_put (pc' := 67) (fs' := [_, _, _, _, _, _, _, _, _, _, _]) rfl rfl (by first | assumption | exact rfl | ((repeat (refine (upd_ne _ _ (by omega)).trans ?_)); first | assumption | exact upd_eq _ _ _)) (by exact rfl) (by first | rfl | exact xfit_bI _) (by exact rfl) ?_
  exact Gq_ret rfl rfl (rfl) (⟨rfl, rfl, ⟨⟨0, [], fun _ => 0, by omega, ⟨0, 0, fun _ => 0, fun _ => 0, rfl, rfl, rfl, rfl, fun i q hq => by cases hq⟩, by decide, fun q _ => ⟨show (0 : Int) ≤ 0 by omega, show (0 : Int) ≤ 8 by omega⟩⟩, ⟨_, fun _ => none, rfl, rfl⟩, rfl, ⟨fun _ => none, rfl⟩, ⟨fun _ => 0, rfl, o16_0⟩, fun _ => none, fun _ => 0, rfl, rfl, fun q _ => ⟨show (0 : Int) ≤ 0 by omega, show (0 : Int) ≤ 8 by omega, fun i hi => absurd (show (i : Int) < 0 from hi) (by omega)⟩⟩, fun o ho => by repeat (first | rfl | refine (upd_ne _ _ (by omega)).trans ?_)⟩)
theorem t_pwC {S : ScT} {H : HF} (h0 : H 86 = some (false, 7, xD 7)) : Rmt S 0 [.ref 86] H 87 (fun v G m => v = none ∧ m = 119 ∧ AllB G 0 (fun _ => 0) (fun _ => 0) (fun _ _ => 0) (fun _ _ => 0) (fun _ => (0, 0, 0, false, [], [])) [] (fun _ => none) (fun _ => none) false 0 0 (fun _ => 0) (fun _ => 0) (fun _ => none) [] 2000 5000 0 0 ∧ ∀ o, o < 86 → G o = H o) := by
  refine Rm_of (M := xm0) (lv := [(0, _)]) rfl rfl rfl ?_
  refine Gq_s (pc' := 1) rfl rfl rfl ?_
  refine Gq_oinit (pc' := 4) rfl rfl rfl ?_
  refine Gq_s (pc' := 5) rfl rfl rfl ?_
  refine Gq_bipush (pc' := 7) rfl rfl (by decide) ?_
  refine Gq_newa (pc' := 10) (N := 12) rfl (fun _ => rfl) rfl rfl (rfl) (by decide) ((rep_R _)) (by decide) (by decide) ?_
  refine Gq_put (pc' := 13) (fs' := [_, _, _, _, _, _, _, _, _, _, _, _, _]) rfl rfl (by first | assumption | exact rfl | ((repeat (refine (upd_ne _ _ (by omega)).trans ?_)); first | assumption | exact upd_eq _ _ _)) (by exact rfl) (by first | rfl | exact xfit_bI _) (by exact rfl) ?_
  refine Gq_s (pc' := 14) rfl rfl rfl ?_
  refine Gq_new (pc' := 17) rfl rfl rfl rfl (by decide) (by decide) ?_
  refine Gq_s (pc' := 18) rfl rfl rfl ?_
  refine Gq_calls1 (pc' := 21) (Y := xm121) (rest := [_, _]) (st' := [_, _]) (ce' := 3) (sl' := 20) rfl rfl rfl rfl rfl rfl rfl rfl rfl rfl (t_wisC 89 (k := 88) (by decide) (by exact rfl)) rfl ?_
  refine Gq_put (pc' := 24) (fs' := [_, _, _, _, _, _, _, _, _, _, _, _, _]) rfl rfl (by first | assumption | exact rfl | ((repeat (refine (upd_ne _ _ (by omega)).trans ?_)); first | assumption | exact upd_eq _ _ _)) (by exact rfl) (by first | rfl | exact xfit_bI _) (by exact rfl) ?_
  refine Gq_s (pc' := 25) rfl rfl rfl ?_
  refine Gq_new (pc' := 28) rfl rfl rfl rfl (by decide) (by decide) ?_
  refine Gq_s (pc' := 29) rfl rfl rfl ?_
  refine Gq_calls1 (pc' := 32) (Y := xm73) (rest := [_, _]) (st' := [_, _]) (ce' := 6) (sl' := 46) rfl rfl rfl rfl rfl rfl rfl rfl rfl rfl (t_choC 91 (k := 90) (by decide) (by exact rfl)) rfl ?_
  refine Gq_put (pc' := 35) (fs' := [_, _, _, _, _, _, _, _, _, _, _, _, _]) rfl rfl (by first | assumption | exact rfl | ((repeat (refine (upd_ne _ _ (by omega)).trans ?_)); first | assumption | exact upd_eq _ _ _)) (by exact rfl) (by first | rfl | exact xfit_bI _) (by exact rfl) ?_
  refine Gq_s (pc' := 36) rfl rfl rfl ?_
  refine Gq_new (pc' := 39) rfl rfl rfl rfl (by decide) (by decide) ?_
  refine Gq_s (pc' := 40) rfl rfl rfl ?_
  refine Gq_calls1 (pc' := 43) (Y := xm73) (rest := [_, _]) (st' := [_, _]) (ce' := 9) (sl' := 72) rfl rfl rfl rfl rfl rfl rfl rfl rfl rfl (t_choC 94 (k := 93) (by decide) (by exact rfl)) rfl ?_
  refine Gq_put (pc' := 46) (fs' := [_, _, _, _, _, _, _, _, _, _, _, _, _]) rfl rfl (by first | assumption | exact rfl | ((repeat (refine (upd_ne _ _ (by omega)).trans ?_)); first | assumption | exact upd_eq _ _ _)) (by exact rfl) (by first | rfl | exact xfit_bI _) (by exact rfl) ?_
  refine Gq_s (pc' := 47) rfl rfl rfl ?_
  refine Gq_new (pc' := 50) rfl rfl rfl rfl (by decide) (by decide) ?_
  refine Gq_s (pc' := 51) rfl rfl rfl ?_
  refine Gq_calls (pc' := 54) (Y := xm108) (rest := [_, _]) (ce' := 20) (sl' := 261) rfl rfl rfl rfl rfl rfl rfl rfl rfl rfl (t_rzC (Own 0 (fun _ => 0) (fun _ _ => 0)) (by exact rfl)) (fun v5 G5 n5 hv => ?_)
  obtain ⟨rfl, rfl, hS5, g5⟩ := hv
  have c86 : G5 86 = some (false, 7, [_, _, _, _, _, _, _, _, _, _, _, _, _]) := (g5 86 (by omega)).trans rfl
  refine Gq_put (pc' := 57) (fs' := [_, _, _, _, _, _, _, _, _, _, _, _, _]) rfl rfl (by first | assumption | exact rfl | ((repeat (refine (upd_ne _ _ (by omega)).trans ?_)); first | assumption | exact upd_eq _ _ _)) (by exact rfl) (by first | rfl | exact xfit_bI _) (by exact rfl) ?_
  refine Gq_s (pc' := 58) rfl rfl rfl ?_
  refine Gq_new (pc' := 61) rfl rfl rfl rfl (by decide) (by decide) ?_
  refine Gq_s (pc' := 62) rfl rfl rfl ?_
  refine Gq_calls (pc' := 65) (Y := xm69) (rest := [_, _]) (ce' := 24) (sl' := 301) rfl rfl rfl rfl rfl rfl rfl rfl rfl rfl (t_chaC (by exact rfl)) (fun v6 G6 n6 hv => ?_)
  obtain ⟨rfl, rfl, hC6, g6⟩ := hv
  clear c86
  have c86 : G6 86 = some (false, 7, [_, _, _, _, _, _, _, _, _, _, _, _, _]) := (g6 86 (by omega)).trans ((upd_ne _ _ (by omega)).trans (upd_eq _ _ _))
  refine Gq_put (pc' := 68) (fs' := [_, _, _, _, _, _, _, _, _, _, _, _, _]) rfl rfl (by first | assumption | exact rfl | ((repeat (refine (upd_ne _ _ (by omega)).trans ?_)); first | assumption | exact upd_eq _ _ _)) (by exact rfl) (by first | rfl | exact xfit_bI _) (by exact rfl) ?_
  refine Gq_s (pc' := 69) rfl rfl rfl ?_
  refine Gq_new (pc' := 72) rfl rfl rfl rfl (by decide) (by decide) ?_
  refine Gq_s (pc' := 73) rfl rfl rfl ?_
  refine Gq_calls (pc' := 76) (Y := xm97) (rest := [_, _]) (ce' := 28) (sl' := 343) rfl rfl rfl rfl rfl rfl rfl rfl rfl rfl (t_plaC (by exact rfl)) (fun v7 G7 n7 hv => ?_)
  obtain ⟨rfl, rfl, hP7, g7⟩ := hv
  clear c86
  have c86 : G7 86 = some (false, 7, [_, _, _, _, _, _, _, _, _, _, _, _, _]) := (g7 86 (by omega)).trans ((upd_ne _ _ (by omega)).trans (upd_eq _ _ _))
  refine Gq_put (pc' := 79) (fs' := [_, _, _, _, _, _, _, _, _, _, _, _, _]) rfl rfl (by first | assumption | exact rfl | ((repeat (refine (upd_ne _ _ (by omega)).trans ?_)); first | assumption | exact upd_eq _ _ _)) (by exact rfl) (by first | rfl | exact xfit_bI _) (by exact rfl) ?_
  refine Gq_s (pc' := 80) rfl rfl rfl ?_
  refine Gq_new (pc' := 83) rfl rfl rfl rfl (by decide) (by decide) ?_
  refine Gq_s (pc' := 84) rfl rfl rfl ?_
  refine Gq_calls (pc' := 87) (Y := xm63) (rest := [_, _]) (ce' := 30) (sl' := 443) rfl rfl rfl rfl rfl rfl rfl rfl rfl rfl (t_cacC 115 (by exact rfl)) (fun v8 G8 n8 hv => ?_)
  obtain ⟨rfl, rfl, a8, b8, g8⟩ := hv
  clear c86
  have c86 : G8 86 = some (false, 7, [_, _, _, _, _, _, _, _, _, _, _, _, _]) := (g8 86 (by omega)).trans ((upd_ne _ _ (by omega)).trans (upd_eq _ _ _))
  refine Gq_put (pc' := 90) (fs' := [_, _, _, _, _, _, _, _, _, _, _, _, _]) rfl rfl (by first | assumption | exact rfl | ((repeat (refine (upd_ne _ _ (by omega)).trans ?_)); first | assumption | exact upd_eq _ _ _)) (by exact rfl) (by first | rfl | exact xfit_bI _) (by exact rfl) ?_
  refine Gq_s (pc' := 91) rfl rfl rfl ?_
  refine Gq_new (pc' := 94) rfl rfl rfl rfl (by decide) (by decide) ?_
  refine Gq_s (pc' := 95) rfl rfl rfl ?_
  refine Gq_calls (pc' := 98) (Y := xm63) (rest := [_, _]) (ce' := 32) (sl' := 543) rfl rfl rfl rfl rfl rfl rfl rfl rfl rfl (t_cacC 117 (by exact rfl)) (fun v9 G9 n9 hv => ?_)
  obtain ⟨rfl, rfl, a9, b9, g9⟩ := hv
  clear c86
  have c86 : G9 86 = some (false, 7, [_, _, _, _, _, _, _, _, _, _, _, _, _]) := (g9 86 (by omega)).trans ((upd_ne _ _ (by omega)).trans (upd_eq _ _ _))
  refine Gq_put (pc' := 101) (fs' := [_, _, _, _, _, _, _, _, _, _, _, _, _]) rfl rfl (by first | assumption | exact rfl | ((repeat (refine (upd_ne _ _ (by omega)).trans ?_)); first | assumption | exact upd_eq _ _ _)) (by exact rfl) (by first | rfl | exact xfit_bI _) (by exact rfl) ?_
  refine Gq_s (pc' := 102) rfl rfl rfl ?_
  refine Gq_sipush (pc' := 105) rfl rfl (by decide) ?_
  refine Gq_put (pc' := 108) (fs' := [_, _, _, _, _, _, _, _, _, _, _, _, _]) rfl rfl (by first | assumption | exact rfl | ((repeat (refine (upd_ne _ _ (by omega)).trans ?_)); first | assumption | exact upd_eq _ _ _)) (by exact rfl) (by first | rfl | exact xfit_bI _) (by exact rfl) ?_
  rw [upd_upd]
  refine Gq_ret rfl rfl rfl ⟨rfl, rfl, ?_, fun o ho => by repeat (first | exact rfl | refine (upd_ne _ _ (by omega)).trans ?_ | refine (g9 _ (by omega)).trans ?_ | refine (g8 _ (by omega)).trans ?_ | refine (g7 _ (by omega)).trans ?_ | refine (g6 _ (by omega)).trans ?_ | refine (g5 _ (by omega)).trans ?_)⟩
  refine ⟨⟨by omega, by repeat (first | exact rfl | refine (upd_ne _ _ (by omega)).trans ?_ | refine (g9 _ (by omega)).trans ?_ | refine (g8 _ (by omega)).trans ?_ | refine (g7 _ (by omega)).trans ?_ | refine (g6 _ (by omega)).trans ?_ | refine (g5 _ (by omega)).trans ?_), fun p hp => absurd hp (Nat.not_lt_zero p), fun p i hp => absurd hp (Nat.not_lt_zero p), fun p i hp => absurd hp (Nat.not_lt_zero p), fun p i q j hp => absurd hp (Nat.not_lt_zero p), fun p i hp => absurd hp (Nat.not_lt_zero p)⟩, ?_, ⟨⟨by repeat (first | exact rfl | refine (upd_ne _ _ (by omega)).trans ?_ | refine (g9 _ (by omega)).trans ?_ | refine (g8 _ (by omega)).trans ?_ | refine (g7 _ (by omega)).trans ?_ | refine (g6 _ (by omega)).trans ?_ | refine (g5 _ (by omega)).trans ?_), by decide, fun _ => none, by repeat (first | exact rfl | refine (upd_ne _ _ (by omega)).trans ?_ | refine (g9 _ (by omega)).trans ?_ | refine (g8 _ (by omega)).trans ?_ | refine (g7 _ (by omega)).trans ?_ | refine (g6 _ (by omega)).trans ?_ | refine (g5 _ (by omega)).trans ?_), fun i c h => by cases h⟩, fun c h => by cases h⟩, ⟨by repeat (first | exact rfl | refine (upd_ne _ _ (by omega)).trans ?_ | refine (g9 _ (by omega)).trans ?_ | refine (g8 _ (by omega)).trans ?_ | refine (g7 _ (by omega)).trans ?_ | refine (g6 _ (by omega)).trans ?_ | refine (g5 _ (by omega)).trans ?_), by repeat (first | exact rfl | refine (upd_ne _ _ (by omega)).trans ?_ | refine (g9 _ (by omega)).trans ?_ | refine (g8 _ (by omega)).trans ?_ | refine (g7 _ (by omega)).trans ?_ | refine (g6 _ (by omega)).trans ?_ | refine (g5 _ (by omega)).trans ?_), fun q o h => by cases h⟩, ⟨by repeat (first | exact rfl | refine (upd_ne _ _ (by omega)).trans ?_ | refine (g9 _ (by omega)).trans ?_ | refine (g8 _ (by omega)).trans ?_ | refine (g7 _ (by omega)).trans ?_ | refine (g6 _ (by omega)).trans ?_ | refine (g5 _ (by omega)).trans ?_), by repeat (first | exact rfl | refine (upd_ne _ _ (by omega)).trans ?_ | refine (g9 _ (by omega)).trans ?_ | refine (g8 _ (by omega)).trans ?_ | refine (g7 _ (by omega)).trans ?_ | refine (g6 _ (by omega)).trans ?_ | refine (g5 _ (by omega)).trans ?_), fun q o h => by cases h⟩, ⟨PlAt_off (by repeat (first | exact rfl | refine (upd_ne _ _ (by omega)).trans ?_ | refine (g9 _ (by omega)).trans ?_ | refine (g8 _ (by omega)).trans ?_ | refine (g7 _ (by omega)).trans ?_ | refine (g6 _ (by omega)).trans ?_ | refine (g5 _ (by omega)).trans ?_)) (by repeat (first | exact rfl | refine (upd_ne _ _ (by omega)).trans ?_ | refine (g9 _ (by omega)).trans ?_ | refine (g8 _ (by omega)).trans ?_ | refine (g7 _ (by omega)).trans ?_ | refine (g6 _ (by omega)).trans ?_ | refine (g5 _ (by omega)).trans ?_)) (by repeat (first | exact rfl | refine (upd_ne _ _ (by omega)).trans ?_ | refine (g9 _ (by omega)).trans ?_ | refine (g8 _ (by omega)).trans ?_ | refine (g7 _ (by omega)).trans ?_ | refine (g6 _ (by omega)).trans ?_ | refine (g5 _ (by omega)).trans ?_)) (by repeat (first | exact rfl | refine (upd_ne _ _ (by omega)).trans ?_ | refine (g9 _ (by omega)).trans ?_ | refine (g8 _ (by omega)).trans ?_ | refine (g7 _ (by omega)).trans ?_ | refine (g6 _ (by omega)).trans ?_ | refine (g5 _ (by omega)).trans ?_)) hP7, by omega, by omega, fun i hi => absurd hi (Nat.not_lt_zero i), fun i o hi => absurd hi (Nat.not_lt_zero i)⟩, ⟨⟨by repeat (first | exact rfl | exact a8 | refine (upd_ne _ _ (by omega)).trans ?_ | refine (g9 _ (by omega)).trans ?_ | refine (g8 _ (by omega)).trans ?_ | refine (g7 _ (by omega)).trans ?_ | refine (g6 _ (by omega)).trans ?_ | refine (g5 _ (by omega)).trans ?_), by decide, fun q h => (by cases h), fun _ => none, by repeat (first | exact rfl | exact b8 | refine (upd_ne _ _ (by omega)).trans ?_ | refine (g9 _ (by omega)).trans ?_ | refine (g8 _ (by omega)).trans ?_ | refine (g7 _ (by omega)).trans ?_ | refine (g6 _ (by omega)).trans ?_ | refine (g5 _ (by omega)).trans ?_), fun i q h => by cases h⟩, by omega, by decide⟩, by omega, ⟨fun _ => 0, by repeat (first | exact rfl | refine (upd_ne _ _ (by omega)).trans ?_ | refine (g9 _ (by omega)).trans ?_ | refine (g8 _ (by omega)).trans ?_ | refine (g7 _ (by omega)).trans ?_ | refine (g6 _ (by omega)).trans ?_ | refine (g5 _ (by omega)).trans ?_), o16_0⟩, ⟨fun _ => 0, by repeat (first | exact rfl | refine (upd_ne _ _ (by omega)).trans ?_ | refine (g9 _ (by omega)).trans ?_ | refine (g8 _ (by omega)).trans ?_ | refine (g7 _ (by omega)).trans ?_ | refine (g6 _ (by omega)).trans ?_ | refine (g5 _ (by omega)).trans ?_), o16_0⟩, ScR_off (fun o h1 h2 => by repeat (first | exact rfl | refine (upd_ne _ _ (by omega)).trans ?_ | refine (g9 _ (by omega)).trans ?_ | refine (g8 _ (by omega)).trans ?_ | refine (g7 _ (by omega)).trans ?_ | refine (g6 _ (by omega)).trans ?_ | refine (g5 _ (by omega)).trans ?_)) hS5, ScC_off (fun o h1 h2 => by repeat (first | exact rfl | refine (upd_ne _ _ (by omega)).trans ?_ | refine (g9 _ (by omega)).trans ?_ | refine (g8 _ (by omega)).trans ?_ | refine (g7 _ (by omega)).trans ?_ | refine (g6 _ (by omega)).trans ?_ | refine (g5 _ (by omega)).trans ?_)) hC6, .int (zI 0), .int (zI 0), .int (zI 2000), fun _ => none, rfl, rfl, rfl, by repeat (first | exact rfl | exact a9 | refine (upd_ne _ _ (by omega)).trans ?_ | refine (g9 _ (by omega)).trans ?_ | refine (g8 _ (by omega)).trans ?_ | refine (g7 _ (by omega)).trans ?_ | refine (g6 _ (by omega)).trans ?_ | refine (g5 _ (by omega)).trans ?_), by repeat (first | exact rfl | exact b9 | refine (upd_ne _ _ (by omega)).trans ?_ | refine (g9 _ (by omega)).trans ?_ | refine (g8 _ (by omega)).trans ?_ | refine (g7 _ (by omega)).trans ?_ | refine (g6 _ (by omega)).trans ?_ | refine (g5 _ (by omega)).trans ?_)⟩
  exact upd_eq _ _ _
theorem t_regC {S : ScT} {H : HF} {q d : Nat} (h0 : H 0 = some (false, 11, xD 11)) : Rmt S 127 [.ref 0, .retAddr q, .int (zI (d : Int))] H 1 (fun v G m => v = none ∧ m = 119 ∧ LwP G q d 0 (fun _ => 0) (fun _ _ => 0) (fun _ _ => false) (fun _ _ _ => 0) (fun _ _ => []) (fun _ _ => []) [] (fun _ _ => 0) (fun p v => 25 + 5 * p + v) (fun p v => 56 + 5 * p + v) (fun _ => 0) ∧ AllB G 0 (fun _ => 0) (fun _ => 0) (fun _ _ => 0) (fun _ _ => 0) (fun _ => (0, 0, 0, false, [], [])) [] (fun _ => none) (fun _ => none) false 0 0 (fun _ => 0) (fun _ => 0) (fun _ => none) [] 2000 5000 0 0) := by
  refine Rm_of (M := xm127) (lv := [(0, _), (1, _), (2, _)]) rfl rfl rfl ?_
  refine Gq_s (pc' := 1) rfl rfl rfl ?_
  refine Gq_oinit (pc' := 4) rfl rfl rfl ?_
  refine Gq_s (pc' := 5) rfl rfl rfl ?_
  refine Gq_bipush (pc' := 7) rfl rfl (by decide) ?_
  refine Gq_newa (pc' := 9) (N := 6) rfl (fun _ => rfl) rfl rfl (rfl) (by decide) ((rep_I _)) (by decide) (by decide) ?_
  refine Gq_put (pc' := 12) (fs' := [_, _, _, _, _, _, _, _, _, _, _, _, _]) rfl rfl (by first | assumption | exact rfl | ((repeat (refine (upd_ne _ _ (by omega)).trans ?_)); first | assumption | exact upd_eq _ _ _)) (by exact rfl) (by first | rfl | exact xfit_bI _) (by exact rfl) ?_
  refine Gq_s (pc' := 13) rfl rfl rfl ?_
  refine Gq_bipush (pc' := 15) rfl rfl (by decide) ?_
  refine Gq_s (pc' := 16) rfl rfl rfl ?_
  refine Gq_newm2 (pc' := 20) (k := 4) (m := 6) rfl rfl rfl rfl (by decide) (by decide) (rep_R _) (by decide) (by decide) ?_
  refine Gq_put (pc' := 23) (fs' := [_, _, _, _, _, _, _, _, _, _, _, _, _]) rfl rfl (by first | assumption | exact rfl | ((repeat (refine (upd_ne _ _ (by omega)).trans ?_)); first | assumption | exact upd_eq _ _ _)) (by exact rfl) (by first | rfl | exact xfit_bI _) (by exact rfl) ?_
  refine Gq_s (pc' := 24) rfl rfl rfl ?_
  refine Gq_bipush (pc' := 26) rfl rfl (by decide) ?_
  refine Gq_s (pc' := 27) rfl rfl rfl ?_
  refine Gq_newm2 (pc' := 31) (k := 4) (m := 6) rfl rfl rfl rfl (by decide) (by decide) (rep_I _) (by decide) (by decide) ?_
  refine Gq_put (pc' := 34) (fs' := [_, _, _, _, _, _, _, _, _, _, _, _, _]) rfl rfl (by first | assumption | exact rfl | ((repeat (refine (upd_ne _ _ (by omega)).trans ?_)); first | assumption | exact upd_eq _ _ _)) (by exact rfl) (by first | rfl | exact xfit_bI _) (by exact rfl) ?_
  refine Gq_s (pc' := 35) rfl rfl rfl ?_
  refine Gq_bipush (pc' := 37) rfl rfl (by decide) ?_
  refine Gq_s (pc' := 38) rfl rfl rfl ?_
  refine Gq_newm2 (pc' := 42) (k := 4) (m := 6) rfl rfl rfl rfl (by decide) (by decide) (rep_B _) (by decide) (by decide) ?_
  refine Gq_put (pc' := 45) (fs' := [_, _, _, _, _, _, _, _, _, _, _, _, _]) rfl rfl (by first | assumption | exact rfl | ((repeat (refine (upd_ne _ _ (by omega)).trans ?_)); first | assumption | exact upd_eq _ _ _)) (by exact rfl) (by first | rfl | exact xfit_bI _) (by exact rfl) ?_
  refine Gq_s (pc' := 46) rfl rfl rfl ?_
  refine Gq_bipush (pc' := 48) rfl rfl (by decide) ?_
  refine Gq_s (pc' := 49) rfl rfl rfl ?_
  refine Gq_s (pc' := 50) rfl rfl rfl ?_
  refine Gq_newm3 (pc' := 54) (k := 4) (m := 6) rfl rfl rfl rfl (by decide) (by decide) (by decide) (by decide) ?_
  refine Gq_put (pc' := 57) (fs' := [_, _, _, _, _, _, _, _, _, _, _, _, _]) rfl rfl (by first | assumption | exact rfl | ((repeat (refine (upd_ne _ _ (by omega)).trans ?_)); first | assumption | exact upd_eq _ _ _)) (by exact rfl) (by first | rfl | exact xfit_bI _) (by exact rfl) ?_
  refine Gq_s (pc' := 58) rfl rfl rfl ?_
  refine Gq_bipush (pc' := 60) rfl rfl (by decide) ?_
  refine Gq_s (pc' := 61) rfl rfl rfl ?_
  refine Gq_s (pc' := 62) rfl rfl rfl ?_
  refine Gq_newm3 (pc' := 66) (k := 4) (m := 6) rfl rfl rfl rfl (by decide) (by decide) (by decide) (by decide) ?_
  refine Gq_put (pc' := 69) (fs' := [_, _, _, _, _, _, _, _, _, _, _, _, _]) rfl rfl (by first | assumption | exact rfl | ((repeat (refine (upd_ne _ _ (by omega)).trans ?_)); first | assumption | exact upd_eq _ _ _)) (by exact rfl) (by first | rfl | exact xfit_bI _) (by exact rfl) ?_
  refine Gq_s (pc' := 70) rfl rfl rfl ?_
  refine Gq_bipush (pc' := 72) rfl rfl (by decide) ?_
  refine Gq_newa (pc' := 75) (N := 6) rfl (fun _ => rfl) rfl rfl (rfl) (by decide) ((rep_R _)) (by decide) (by decide) ?_
  refine Gq_put (pc' := 78) (fs' := [_, _, _, _, _, _, _, _, _, _, _, _, _]) rfl rfl (by first | assumption | exact rfl | ((repeat (refine (upd_ne _ _ (by omega)).trans ?_)); first | assumption | exact upd_eq _ _ _)) (by exact rfl) (by first | rfl | exact xfit_bI _) (by exact rfl) ?_
  refine Gq_s (pc' := 79) rfl rfl rfl ?_
  refine Gq_s (pc' := 80) rfl rfl rfl ?_
  refine Gq_put (pc' := 83) (fs' := [_, _, _, _, _, _, _, _, _, _, _, _, _]) rfl rfl (by first | assumption | exact rfl | ((repeat (refine (upd_ne _ _ (by omega)).trans ?_)); first | assumption | exact upd_eq _ _ _)) (by exact rfl) (by first | rfl | exact xfit_bI _) (by exact rfl) ?_
  refine Gq_s (pc' := 84) rfl rfl rfl ?_
  refine Gq_s (pc' := 85) rfl rfl rfl ?_
  refine Gq_put (pc' := 88) (fs' := [_, _, _, _, _, _, _, _, _, _, _, _, _]) rfl rfl (by first | assumption | exact rfl | ((repeat (refine (upd_ne _ _ (by omega)).trans ?_)); first | assumption | exact upd_eq _ _ _)) (by exact rfl) (by first | rfl | exact xfit_bI _) (by exact rfl) ?_
  refine Gq_s (pc' := 89) rfl rfl rfl ?_
  refine Gq_new (pc' := 92) rfl rfl rfl rfl (by decide) (by decide) ?_
  refine Gq_s (pc' := 93) rfl rfl rfl ?_
  refine Gq_calls (pc' := 96) (Y := xm0) (rest := [_, _]) (ce' := 118) (sl' := 718) rfl rfl rfl rfl rfl rfl rfl rfl rfl rfl (t_pwC (by exact rfl)) (fun v9 G n9 hv => ?_)
  obtain ⟨rfl, rfl, hA, hs⟩ := hv
  have c0 : G 0 = some (false, 11, [_, _, _, _, _, _, _, _, _, _, _, _, _]) := (hs 0 (by omega)).trans rfl
  refine Gq_put (pc' := 99) (fs' := [_, _, _, _, _, _, _, _, _, _, _, _, _]) rfl rfl (by first | assumption | exact rfl | ((repeat (refine (upd_ne _ _ (by omega)).trans ?_)); first | assumption | exact upd_eq _ _ _)) (by exact rfl) (by first | rfl | exact xfit_bI _) (by exact rfl) ?_
  refine Gq_ret rfl rfl rfl ⟨rfl, rfl, ?_, AllB_ge (Ge_upd (Ge_refl G) (.inl (by omega))) hA⟩
  refine ⟨upd_eq _ _ _, by first | exact rfl | exact (upd_ne _ _ (by omega)).trans ((hs _ (by omega)).trans rfl), ⟨by first | exact rfl | exact (upd_ne _ _ (by omega)).trans ((hs _ (by omega)).trans rfl), all6 (by first | exact rfl | exact (upd_ne _ _ (by omega)).trans ((hs _ (by omega)).trans rfl)) (by first | exact rfl | exact (upd_ne _ _ (by omega)).trans ((hs _ (by omega)).trans rfl)) (by first | exact rfl | exact (upd_ne _ _ (by omega)).trans ((hs _ (by omega)).trans rfl)) (by first | exact rfl | exact (upd_ne _ _ (by omega)).trans ((hs _ (by omega)).trans rfl)) (by first | exact rfl | exact (upd_ne _ _ (by omega)).trans ((hs _ (by omega)).trans rfl)) (by first | exact rfl | exact (upd_ne _ _ (by omega)).trans ((hs _ (by omega)).trans rfl))⟩, ⟨by first | exact rfl | exact (upd_ne _ _ (by omega)).trans ((hs _ (by omega)).trans rfl), all6 (by first | exact rfl | exact (upd_ne _ _ (by omega)).trans ((hs _ (by omega)).trans rfl)) (by first | exact rfl | exact (upd_ne _ _ (by omega)).trans ((hs _ (by omega)).trans rfl)) (by first | exact rfl | exact (upd_ne _ _ (by omega)).trans ((hs _ (by omega)).trans rfl)) (by first | exact rfl | exact (upd_ne _ _ (by omega)).trans ((hs _ (by omega)).trans rfl)) (by first | exact rfl | exact (upd_ne _ _ (by omega)).trans ((hs _ (by omega)).trans rfl)) (by first | exact rfl | exact (upd_ne _ _ (by omega)).trans ((hs _ (by omega)).trans rfl))⟩, ⟨by first | exact rfl | exact (upd_ne _ _ (by omega)).trans ((hs _ (by omega)).trans rfl), all6 (by first | exact rfl | exact (upd_ne _ _ (by omega)).trans ((hs _ (by omega)).trans rfl)) (by first | exact rfl | exact (upd_ne _ _ (by omega)).trans ((hs _ (by omega)).trans rfl)) (by first | exact rfl | exact (upd_ne _ _ (by omega)).trans ((hs _ (by omega)).trans rfl)) (by first | exact rfl | exact (upd_ne _ _ (by omega)).trans ((hs _ (by omega)).trans rfl)) (by first | exact rfl | exact (upd_ne _ _ (by omega)).trans ((hs _ (by omega)).trans rfl)) (by first | exact rfl | exact (upd_ne _ _ (by omega)).trans ((hs _ (by omega)).trans rfl))⟩, ⟨by first | exact rfl | exact (upd_ne _ _ (by omega)).trans ((hs _ (by omega)).trans rfl), all6 (by first | exact rfl | exact (upd_ne _ _ (by omega)).trans ((hs _ (by omega)).trans rfl)) (by first | exact rfl | exact (upd_ne _ _ (by omega)).trans ((hs _ (by omega)).trans rfl)) (by first | exact rfl | exact (upd_ne _ _ (by omega)).trans ((hs _ (by omega)).trans rfl)) (by first | exact rfl | exact (upd_ne _ _ (by omega)).trans ((hs _ (by omega)).trans rfl)) (by first | exact rfl | exact (upd_ne _ _ (by omega)).trans ((hs _ (by omega)).trans rfl)) (by first | exact rfl | exact (upd_ne _ _ (by omega)).trans ((hs _ (by omega)).trans rfl))⟩, ⟨by first | exact rfl | exact (upd_ne _ _ (by omega)).trans ((hs _ (by omega)).trans rfl), all6 (by first | exact rfl | exact (upd_ne _ _ (by omega)).trans ((hs _ (by omega)).trans rfl)) (by first | exact rfl | exact (upd_ne _ _ (by omega)).trans ((hs _ (by omega)).trans rfl)) (by first | exact rfl | exact (upd_ne _ _ (by omega)).trans ((hs _ (by omega)).trans rfl)) (by first | exact rfl | exact (upd_ne _ _ (by omega)).trans ((hs _ (by omega)).trans rfl)) (by first | exact rfl | exact (upd_ne _ _ (by omega)).trans ((hs _ (by omega)).trans rfl)) (by first | exact rfl | exact (upd_ne _ _ (by omega)).trans ((hs _ (by omega)).trans rfl))⟩, by first | exact rfl | exact (upd_ne _ _ (by omega)).trans ((hs _ (by omega)).trans rfl), fun p v _ hv => absurd hv (Nat.not_lt_zero v), ?_, ?_, fun w r h => by cases h⟩
  · exact fun p v hp hv => ⟨.inl (show 25 ≤ 25 + 5 * p + v ∧ 25 + 5 * p + v < 85 by omega), by
    have hk : ¬ 25 + 5 * p + v = 0 ∧ 25 + 5 * p + v < 86 ∧ ¬ 25 + 5 * p + v = 86 := by omega
    refine (upd_ne _ _ hk.1).trans ((hs _ hk.2.1).trans ((upd_ne _ _ hk.2.2).trans ?_))
    have hp6 : p = 0 ∨ p = 1 ∨ p = 2 ∨ p = 3 ∨ p = 4 ∨ p = 5 := by omega
    have hv4 : v = 0 ∨ v = 1 ∨ v = 2 ∨ v = 3 := by omega
    rcases hp6 with rfl | rfl | rfl | rfl | rfl | rfl <;> rcases hv4 with rfl | rfl | rfl | rfl <;> exact rfl⟩
  · exact fun p v hp hv => ⟨.inl (show 25 ≤ 56 + 5 * p + v ∧ 56 + 5 * p + v < 85 by omega), by
    have hk : ¬ 56 + 5 * p + v = 0 ∧ 56 + 5 * p + v < 86 ∧ ¬ 56 + 5 * p + v = 86 := by omega
    refine (upd_ne _ _ hk.1).trans ((hs _ hk.2.1).trans ((upd_ne _ _ hk.2.2).trans ?_))
    have hp6 : p = 0 ∨ p = 1 ∨ p = 2 ∨ p = 3 ∨ p = 4 ∨ p = 5 := by omega
    have hv4 : v = 0 ∨ v = 1 ∨ v = 2 ∨ v = 3 := by omega
    rcases hp6 with rfl | rfl | rfl | rfl | rfl | rfl <;> rcases hv4 with rfl | rfl | rfl | rfl <;> exact rfl⟩
end XKD
