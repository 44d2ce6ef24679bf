/-! what found means; the law's leaves (printed by wip/p46/gen46.py) -/
section XKq
theorem found_ok {vr : Nat → VR} {Ow : Nat → Nat → Prop} {wl : List CR} {ch : Nat → Option Nat} (h : Found vr Ow wl ch) : mtsB vr ch (onF vr ch wl) wl true = true := by
  obtain ⟨h1, h2, h3, h4⟩ := h
  unfold mtsB at h1 ⊢
  rw [Bool.and_eq_true] at h1 ⊢
  have hg : ∀ c, Rch vr ch (onF vr ch wl) wl (cT c) → grtB vr ch false c = true → grtB vr ch true c = true := fun c hr hc => by
    obtain ⟨o, ho⟩ := h2 _ hr
    unfold grtB at hc ⊢
    rw [ho] at hc ⊢
    exact hc
  refine ⟨List.all_eq_true.mpr fun c hc => hg c (Rch_aw hc) (List.all_eq_true.mp h1.1 c hc), ?_⟩
  have e : allTo (pkB vr ch (onF vr ch wl) true) 12 = allTo (pkB vr ch (onF vr ch wl) false) 12 := allTo_e fun p hp => by
    have hp1 := allTo_i h1.2 p hp
    rw [hp1]
    unfold pkB at hp1 ⊢
    cases hx : ch p with
    | none => rfl
    | some k =>
      rw [hx] at hp1
      dsimp only at hp1 ⊢
      rw [Bool.and_eq_true] at hp1 ⊢
      refine ⟨List.all_eq_true.mpr fun c hc => ?_, hp1.2⟩
      have hc1 := List.all_eq_true.mp hp1.1 c hc
      unfold ndB at hc1 ⊢
      rw [Bool.or_eq_true] at hc1 ⊢
      rcases hc1 with hc1 | hc1
      · exact .inl hc1
      · cases hcc : cCnt c (onF vr ch wl p) with
        | false => exact .inl rfl
        | true => exact .inr (hg c (Rch_step (h3 p (by rw [hx]; exact fun q => nomatch q)) hx hc hcc) hc1)
  rw [e]
  exact h1.2
theorem cnt_zero {f : Nat → Bool} : ∀ k, (∀ j, j < k → f j = false) → cntTo f k = 0
  | 0, _ => rfl
  | k + 1, h => by
    show cntTo f k + (if f k then 1 else 0) = 0
    rw [cnt_zero k (fun j hj => h j (by omega)), h k (by omega)]
    rfl
theorem found_idle {vr : Nat → VR} {Ow : Nat → Nat → Prop} {wl : List CR} {ch : Nat → Option Nat} (hw : ∀ c ∈ wl, cOK c) (hN : NOK vr ch) (h : Found vr Ow wl ch) : cntTo (fun p => decide (¬ ch p = none ∧ (chL vr ch wl).1 p = 0)) 12 = 0 := cnt_zero 12 fun p _ => decide_eq_false fun ⟨a, b⟩ => by
  rcases chF_full hw hN (h.2.2.1 p a) with hq | hq
  · exact a hq
  · have hq : 0 < (chL vr ch wl).1 p := hq
    omega
/-! numbers of the law -/
theorem z_ne0 {b : Int} (hb : 0 < b ∧ b < 2147483648) : ¬ zI b = 0 := fun h => by
  have := (zI_inj (a := b) (b := 0) (by omega) (by omega)).mp h
  omega
theorem z_rem {a b : Int} (ha : 0 ≤ a ∧ a < 2147483648) (hb : 0 < b ∧ b < 2147483648) : zI a - zI a / zI b * zI b = zI (a % b) := by
  rw [z_div ha hb, zI_mul, zI_sub, Int.emod_def, Int.mul_comm]
theorem and_max (x : Int32) : ∃ k : Nat, k < 2147483648 ∧ x &&& zI ((2147483647 : Nat) : Int) = zI (k : Int) := by
  have e : x = zI ((x.toBitVec.toNat : Nat) : Int) := by
    rw [zI_nI]
    apply Int32.toBitVec_inj.1
    show x.toBitVec = BitVec.ofNat 32 x.toBitVec.toNat
    simp
  refine ⟨x.toBitVec.toNat &&& 2147483647, ?_, by rw [← z_and, ← e]⟩
  have := Nat.and_le_right (n := x.toBitVec.toNat) (m := 2147483647)
  omega
section
variable {L : Nat} {ys : Nat → Int32} {M : XM} {pc pc' : Nat} {lv : XL} {st : List Value} {H : HF} {n ce sl : Nat} {Q : XLf → Prop}
theorem Gq_lenS {q : Nat} {aux : List Nat} (hr : yrow M pc = some (pc, .arraylength, 1, aux)) (hp : pc + 1 = pc') (kk : Gw (some (L, ys)) M pc' lv (.int (zI (L : Int)) :: st) H n ce sl Q) : Gw (some (L, ys)) M pc lv (.retAddr q :: st) H n ce sl Q := by
  intro h hh hf
  subst hh
  subst hp
  rw [Go_heap hr (show xheap (some (L, ys)) (xmR M) .arraylength aux lv (.retAddr q :: st) ([], h, n, ce, sl) = some (.int (Int32.ofNat L) :: st, ([], h, n, ce, sl)) from rfl)]
  exact kk h rfl hf
theorem Gq_ialdS {q j : Nat} {a : Int} {aux : List Nat} (hr : yrow M pc = some (pc, .iaload, 1, aux)) (hp : pc + 1 = pc') (ha : a = ((j : Nat) : Int)) (hj : j < L) (hL : L ≤ 100000) (kk : Gw (some (L, ys)) M pc' lv (.int (ys j) :: st) H n ce sl Q) : Gw (some (L, ys)) M pc lv (.int (zI a) :: .retAddr q :: st) H n ce sl Q := by
  intro h hh hf
  subst hh
  subst hp
  subst ha
  have e : xheap (some (L, ys)) (xmR M) .iaload aux lv (.int (nI j) :: .retAddr q :: st) ([], h, n, ce, sl) = some (.int (ys j) :: st, ([], h, n, ce, sl)) := by
    show (match xix (nI j) L with
      | some j => some (Value.int (ys j) :: st, (([] : XP), h, n, ce, sl))
      | none => none) = _
    rw [xix_nI hj (by omega)]
  show Go (some (L, ys)) M pc lv (.int (nI j) :: .retAddr q :: st) ([], h, n, ce, sl) Q
  rw [Go_heap hr e]
  exact kk h rfl hf
end
/-- the law's own object -/
def rgF (q : Nat) (d P W : Int) : List Value := [.ref 86, .retAddr q, .int (zI d), .int (zI P), .ref 1, .ref 2, .ref 9, .ref 16, .ref 23, .ref 54, .int (zI W), .ref 85, .int (zI 0)]
theorem t_below {S : ScT} (H : HF) (n : Nat) (x : Int32) {b : Int} (hb : 0 < b ∧ b < 1000000) : Rmt S 125 [.int x, .int (zI b)] H n (fun v G m => ∃ r : Nat, v = some (.int (zI (r : Int))) ∧ (r : Int) < b ∧ G = H ∧ m = n) := by
  refine Rm_of (M := xm125) (lv := [(0, _), (1, _)]) rfl rfl rfl ?_
  obtain ⟨k, hk, e⟩ := and_max x
  refine Gq_s (pc' := 1) rfl rfl rfl ?_
  refine Gq_ldc (pc' := 3) rfl rfl ?_
  refine Gq_iand (pc' := 4) (zI (k : Int)) rfl rfl (e) ?_
  refine Gq_s (pc' := 5) rfl rfl rfl ?_
  refine Gq_irem (pc' := 6) (zI ((k : Int) % b)) rfl rfl (z_ne0 (by omega)) (z_rem (by omega) (by omega)) ?_
  have h1 := Int.emod_nonneg (k : Int) (show b ≠ 0 by omega)
  have h2 := Int.emod_lt_of_pos (k : Int) hb.1
  refine Gq_ret rfl rfl rfl ⟨((k : Int) % b).toNat, ?_, by omega, rfl, rfl⟩
  rw [Int.toNat_of_nonneg h1]
theorem t_cell {L : Nat} {ys : Nat → Int32} (hLs : L ≤ 100000) (H : HF) (n : Nat) {q : Nat} {k : Int} (hk : 0 ≤ k ∧ k < 1000) : Rmt (some (L, ys)) 126 [.retAddr q, .int (zI k)] H n (fun v G m => (∃ y, v = some (.int y)) ∧ G = H ∧ m = n) := by
  refine Rm_of (M := xm126) (lv := [(0, _), (1, _)]) rfl rfl rfl ?_
  refine Gq_s (pc' := 1) rfl rfl rfl ?_
  refine Gq_s (pc' := 2) rfl rfl rfl ?_
  refine Gq_lenS (pc' := 3) rfl rfl ?_
  refine Gq_cge (pc' := 6) (t := 12) rfl rfl rfl (by omega) (by omega) (fun hb => ?_) (fun hb => ?_)
  · refine Gq_ldc (pc' := 14) rfl rfl ?_
    refine Gq_s (pc' := 15) rfl rfl rfl ?_
    refine Gq_s (pc' := 16) rfl rfl rfl ?_
    refine Gq_iadd (pc' := 17) rfl rfl ?_
    refine Gq_imul (pc' := 18) rfl rfl ?_
    exact Gq_ret rfl rfl (rfl) (⟨⟨_, rfl⟩, rfl, rfl⟩)
  · refine Gq_s (pc' := 7) rfl rfl rfl ?_
    refine Gq_s (pc' := 8) rfl rfl rfl ?_
    refine Gq_ialdS (pc' := 9) (j := k.toNat) rfl rfl (by omega) (by omega) (by omega) ?_
    refine Gq_goto rfl (t := 18) rfl ?_
    exact Gq_ret rfl rfl (rfl) (⟨⟨_, rfl⟩, rfl, rfl⟩)
theorem t_draw {L : Nat} {ys : Nat → Int32} (hLs : L ≤ 100000) {H : HF} (n : Nat) {q d : Nat} {P W b : Int} (h0 : H 0 = some (false, 11, rgF q (d : Int) P W)) (hd : d < 1000000) (hb : 0 < b ∧ b < 1000000) : Rmt (some (L, ys)) 128 [.ref 0, .int (zI b)] H n (fun v G m => ∃ r : Nat, v = some (.int (zI (r : Int))) ∧ (r : Int) < b ∧ m = n ∧ G = hup H 0 (false, 11, rgF q ((d + 1 : Nat) : Int) P W)) := by
  refine Rm_of (M := xm128) (lv := [(0, _), (1, _)]) rfl rfl rfl ?_
  have hm := Int.emod_nonneg (d : Int) (show (24 : Int) ≠ 0 by omega)
  have hm2 := Int.emod_lt_of_pos (d : Int) (show (0 : Int) < 24 by omega)
  have hdv := Int.ediv_nonneg (show 0 ≤ (d : Int) by omega) (show (0 : Int) ≤ 24 by omega)
  have hdv2 := Int.ediv_le_self 24 (show 0 ≤ (d : Int) by omega)
  refine Gq_s (pc' := 1) rfl rfl rfl ?_
  refine Gq_get (pc' := 4) rfl rfl (by first | assumption | exact upd_eq _ _ _ | (refine (upd_ne _ _ (by omega)).trans ?_; first | assumption | exact upd_eq _ _ _ | (refine (upd_ne _ _ (by omega)).trans ?_; first | assumption | exact upd_eq _ _ _ | (refine (upd_ne _ _ (by omega)).trans ?_; first | assumption | exact upd_eq _ _ _)))) (by exact rfl) ?_
  refine Gq_s (pc' := 5) rfl rfl rfl ?_
  refine Gq_get (pc' := 8) rfl rfl (by first | assumption | exact upd_eq _ _ _ | (refine (upd_ne _ _ (by omega)).trans ?_; first | assumption | exact upd_eq _ _ _ | (refine (upd_ne _ _ (by omega)).trans ?_; first | assumption | exact upd_eq _ _ _ | (refine (upd_ne _ _ (by omega)).trans ?_; first | assumption | exact upd_eq _ _ _)))) (by exact rfl) ?_
  refine Gq_bipush (pc' := 10) rfl rfl (by decide) ?_
  refine Gq_irem (pc' := 11) (zI ((d : Int) % 24)) rfl rfl (by decide) (z_rem (by omega) (by omega)) ?_
  refine Gq_calls (pc' := 14) (Y := xm126) (rest := []) (ce' := 0) (sl' := 0) rfl rfl rfl rfl rfl rfl rfl rfl rfl rfl (t_cell hLs H n (by omega)) (fun v' H' n' hv => ?_)
  obtain ⟨⟨y, rfl⟩, rfl, rfl⟩ := hv
  refine Gq_s (pc' := 15) rfl rfl rfl ?_
  refine Gq_get (pc' := 18) rfl rfl (by first | assumption | exact upd_eq _ _ _ | (refine (upd_ne _ _ (by omega)).trans ?_; first | assumption | exact upd_eq _ _ _ | (refine (upd_ne _ _ (by omega)).trans ?_; first | assumption | exact upd_eq _ _ _ | (refine (upd_ne _ _ (by omega)).trans ?_; first | assumption | exact upd_eq _ _ _)))) (by exact rfl) ?_
  refine Gq_bipush (pc' := 20) rfl rfl (by decide) ?_
  refine Gq_idiv (pc' := 21) (zI ((d : Int) / 24)) rfl rfl (by decide) (z_div (by omega) (by omega)) ?_
  refine Gq_bipush (pc' := 23) rfl rfl (by decide) ?_
  refine Gq_irem (pc' := 24) (zI ((d : Int) / 24 % 8)) rfl rfl (by decide) (z_rem (by omega) (by omega)) ?_
  refine Gq_ishr (pc' := 25) (_) rfl rfl (rfl) ?_
  refine Gq_bipush (pc' := 27) rfl rfl (by decide) ?_
  refine Gq_s (pc' := 28) rfl rfl rfl ?_
  refine Gq_get (pc' := 31) rfl rfl (by first | assumption | exact upd_eq _ _ _ | (refine (upd_ne _ _ (by omega)).trans ?_; first | assumption | exact upd_eq _ _ _ | (refine (upd_ne _ _ (by omega)).trans ?_; first | assumption | exact upd_eq _ _ _ | (refine (upd_ne _ _ (by omega)).trans ?_; first | assumption | exact upd_eq _ _ _)))) (by exact rfl) ?_
  refine Gq_imul (pc' := 32) rfl rfl ?_
  refine Gq_iadd (pc' := 33) rfl rfl ?_
  refine Gq_s (pc' := 34) rfl rfl rfl ?_
  refine Gq_calls (pc' := 37) (Y := xm125) (rest := []) (ce' := 0) (sl' := 0) rfl rfl rfl rfl rfl rfl rfl rfl rfl rfl (t_below _ _ _ hb) (fun v2 H2 n2 hv => ?_)
  obtain ⟨r, rfl, hr, rfl, rfl⟩ := hv
  refine Gq_s (pc' := 38) (lv' := [(0, _), (1, _), (2, _)]) rfl rfl rfl ?_
  refine Gq_s (pc' := 39) rfl rfl rfl ?_
  refine Gq_s (pc' := 40) rfl rfl rfl ?_
  refine Gq_get (pc' := 43) rfl rfl (by first | assumption | exact upd_eq _ _ _ | (refine (upd_ne _ _ (by omega)).trans ?_; first | assumption | exact upd_eq _ _ _ | (refine (upd_ne _ _ (by omega)).trans ?_; first | assumption | exact upd_eq _ _ _ | (refine (upd_ne _ _ (by omega)).trans ?_; first | assumption | exact upd_eq _ _ _)))) (by exact rfl) ?_
  refine Gq_s (pc' := 44) rfl rfl rfl ?_
  refine Gq_iadd (pc' := 45) rfl rfl ?_
  refine Gq_put (pc' := 48) (fs' := [_, _, _, _, _, _, _, _, _, _, _, _, _]) rfl rfl (by first | assumption | exact upd_eq _ _ _ | (refine (upd_ne _ _ (by omega)).trans ?_; first | assumption | exact upd_eq _ _ _ | (refine (upd_ne _ _ (by omega)).trans ?_; first | assumption | exact upd_eq _ _ _ | (refine (upd_ne _ _ (by omega)).trans ?_; first | assumption | exact upd_eq _ _ _)))) (by exact rfl) (by first | rfl | exact xfit_bI _) (by exact rfl) ?_
  refine Gq_s (pc' := 49) rfl rfl rfl ?_
  exact Gq_ret rfl rfl (rfl) (⟨r, rfl, hr, rfl, rfl⟩)
end XKq
