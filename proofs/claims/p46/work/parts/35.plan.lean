/-! the plan (printed by wip/p46/gen35.py) -/
section XKf
def andn (l a : Nat) : Nat := l ^^^ (l &&& a)
theorem andn_bit (l a i : Nat) : (andn l a).testBit i = (l.testBit i && !a.testBit i) := by
  unfold andn
  rw [Nat.testBit_xor, Nat.testBit_and]
  cases l.testBit i <;> cases a.testBit i <;> rfl
theorem lt_bits {m : Nat} (h : ∀ i, 12 ≤ i → m.testBit i = false) : m < 4096 := Nat.lt_pow_two_of_testBit (n := 12) m (fun i hi => h i hi)
theorem bits_lt {m i : Nat} (h : m < 4096) (hi : m.testBit i = true) : i < 12 := by
  rcases Nat.lt_or_ge i 12 with h9 | h9
  · exact h9
  · rw [Nat.testBit_lt_two_pow (Nat.lt_of_lt_of_le h (Nat.pow_le_pow_right (n := 2) (by omega) h9))] at hi
    cases hi
theorem andn_lt {l a : Nat} (h : l < 4096) : andn l a < 4096 := lt_bits fun i hi => by
  rw [andn_bit]
  cases hb : l.testBit i with
  | false => rfl
  | true => exact absurd (bits_lt h hb) (by omega)
theorem bt_m1 : ∀ i, i < 32 → btb (zI (-1)) i = true := by decide +kernel
theorem z_andn (l a : Nat) : zI (l : Int) &&& (zI (a : Int) ^^^ zI (-1)) = zI ((andn l a : Nat) : Int) := b_ext fun i hi => by
  rw [b_and, b_xor, bt_z _ hi, bt_z _ hi, bt_z _ hi, bt_m1 i hi, andn_bit, Bool.xor_true]
def nb (m : Nat) : Nat := cntTo (fun i => m.testBit i) 12
theorem cnt_le {f g : Nat → Bool} : ∀ k, (∀ i, i < k → f i = true → g i = true) → cntTo f k ≤ cntTo g k
  | 0, _ => Nat.le_refl 0
  | k + 1, h => by
    have h1 := cnt_le k (fun i hi => h i (by omega))
    have h2 := h k (by omega)
    show cntTo f k + (if f k then 1 else 0) ≤ cntTo g k + (if g k then 1 else 0)
    cases hf : f k with
    | false => rw [if_neg (show ¬ false = true from fun q => nomatch q)]; omega
    | true => rw [h2 hf, if_pos rfl]; omega
theorem cnt_lt {f g : Nat → Bool} {p : Nat} : ∀ k, p < k → (∀ i, i < k → f i = true → g i = true) → f p = false → g p = true → cntTo f k + 1 ≤ cntTo g k
  | 0, hp, _, _, _ => absurd hp (by omega)
  | k + 1, hp, h, h1, h2 => by
    show cntTo f k + (if f k then 1 else 0) + 1 ≤ cntTo g k + (if g k then 1 else 0)
    by_cases e : p = k
    · subst e
      rw [h1, h2, if_neg (show ¬ false = true from fun q => nomatch q), if_pos rfl]
      have := cnt_le (f := f) (g := g) p (fun i hi => h i (by omega))
      omega
    · have h3 := cnt_lt (f := f) (g := g) (p := p) k (by omega) (fun i hi => h i (by omega)) h1 h2
      have h4 := h k (by omega)
      cases hf : f k with
      | false => rw [if_neg (show ¬ false = true from fun q => nomatch q)]; omega
      | true => rw [h4 hf, if_pos rfl]; omega
theorem nb_rm {m p : Nat} (hp : p < 12) (hb : m.testBit p = true) : nb (andn m (2 ^ p)) + 1 ≤ nb m := cnt_lt 12 hp (fun i _ hi => by
    rw [andn_bit, Bool.and_eq_true] at hi
    exact hi.1) (by rw [andn_bit, Nat.testBit_two_pow, decide_eq_true rfl]; cases m.testBit p <;> rfl) hb
theorem nb_pos {m p : Nat} (hp : p < 12) (hb : m.testBit p = true) : 0 < nb m := by
  have := nb_rm hp hb
  omega
theorem ex_bit {m : Nat} (hm : m < 4096) (h0 : ¬ m = 0) : ∃ p, p < 12 ∧ m.testBit p = true := by
  refine Decidable.byContradiction fun hn => h0 (Nat.eq_of_testBit_eq fun i => ?_)
  rw [Nat.zero_testBit]
  cases hb : m.testBit i with
  | false => rfl
  | true => exact absurd ⟨i, bits_lt hm hb, hb⟩ hn
theorem smal_in {x : Int32} : ∀ (k j : Nat), (∃ p, j ≤ p ∧ p < j + k ∧ isInB x p = true) → ∃ p : Nat, smal x k j = (p : Int) ∧ j ≤ p ∧ p < j + k ∧ isInB x p = true
  | 0, j, ⟨p, h1, h2, _⟩ => absurd h2 (by omega)
  | k + 1, j, ⟨p, h1, h2, h3⟩ => by
    unfold smal
    cases hb : isInB x j with
    | true => exact ⟨j, by rw [if_pos rfl], by omega, by omega, hb⟩
    | false =>
      rw [if_neg (fun q => by cases q)]
      have hne : ¬ p = j := fun e => by rw [e, hb] at h3; cases h3
      obtain ⟨q, a, b, c, d⟩ := smal_in k (j + 1) ⟨p, by omega, by omega, h3⟩
      exact ⟨q, a, by omega, by omega, d⟩
theorem smal_z {m : Nat} (hm : m < 4096) (h0 : ¬ m = 0) : ∃ p : Nat, smal (zI (m : Int)) 12 0 = (p : Int) ∧ p < 12 ∧ m.testBit p = true := by
  obtain ⟨p, h1, h2⟩ := ex_bit hm h0
  obtain ⟨q, a, b, c, d⟩ := smal_in (x := zI (m : Int)) 12 0 ⟨p, by omega, by omega, by rw [isInB_z hm (by omega)]; exact h2⟩
  exact ⟨q, a, by omega, by rw [isInB_z hm (by omega)] at d; exact d⟩
/-- the plan's cells -/
def PlAt (H : HF) (th : Bool) (pc pd : Nat) (kd : Nat → Int) (pp : Nat → Nat) (pb : Nat → Option Nat) : Prop := H 111 = some (false, 4, [.int (zI (bI th)), .int (zI (pc : Int)), .int (zI (pd : Int)), .ref 112, .ref 113, .ref 114]) ∧ H 112 = some (true, 0, aI 12 kd) ∧ H 113 = some (true, 0, aNt 12 pp) ∧ H 114 = some (true, 3, aR 12 pb)
def StI (sl : List Nat) (pp : Nat → Nat) (pb dk : Nat → Option Nat) : Prop := ∀ i q : Nat, sl[i]? = some q → pp i = q ∧ pb i = dk q
def PlS (H : HF) (th : Bool) (sl : List Nat) (pd : Nat) (dk : Nat → Option Nat) : Prop := ∃ kd pp pb, PlAt H th sl.length pd kd pp pb ∧ StI sl pp pb dk
theorem PlAt_off {H G : HF} {th : Bool} {pc pd : Nat} {kd : Nat → Int} {pp : Nat → Nat} {pb : Nat → Option Nat} (h1 : G 111 = H 111) (h2 : G 112 = H 112) (h3 : G 113 = H 113) (h4 : G 114 = H 114) (h : PlAt H th pc pd kd pp pb) : PlAt G th pc pd kd pp pb := ⟨h1.trans h.1, h2.trans h.2.1, h3.trans h.2.2.1, h4.trans h.2.2.2⟩
theorem StI_snoc {sl : List Nat} {pp : Nat → Nat} {pb dk : Nat → Option Nat} {p : Nat} (h : StI sl pp pb dk) : StI (sl ++ [p]) (fset pp sl.length p) (fset pb sl.length (dk p)) dk := by
  intro i q hq
  rcases get_snoc hq with hq | ⟨rfl, rfl⟩
  · have hi : i < sl.length := (List.getElem?_eq_some_iff.mp hq).1
    rw [fset_ne _ _ (by omega), fset_ne _ _ (by omega)]
    exact h i q hq
  · rw [fset_eq, fset_eq]
    exact ⟨rfl, rfl⟩
theorem t_addStep {S : ScT} {H : HF} (n : Nat) {p : Nat} {z : Int} {th : Bool} {sl : List Nat} {vr : Nat → VR} {V : Nat → Prop} {dk : Nat → Option Nat} (hD : ChV V dk) (hvs : VsA H vr V) (D0 : H 93 = some (false, 2, [.ref 94, .ref 95])) (D1 : H 94 = some (true, 3, aR 12 dk)) (hP : PlS H th sl 0 dk) (hp : p < 12) (hl : sl.length < 12) : Rmt S 103 [.ref 111, .int (zI z), .int (zI (p : Int)), .ref 93] H n (fun v G m => v = none ∧ m = n ∧ PlS G th (sl ++ [p]) 0 dk ∧ (∀ o, ¬ o = 111 → ¬ o = 112 → ¬ o = 113 → ¬ o = 114 → G o = H o)) := by
  refine Rm_of (M := xm103) (lv := [(0, _), (1, _), (2, _), (3, _)]) rfl rfl rfl ?_
  obtain ⟨kd, pp, pb, ⟨p0, p1, p2, p3⟩, hS⟩ := hP
  refine Gq_s (pc' := 1) rfl rfl rfl ?_
  refine Gq_zlt (pc' := 4) (t := 58) rfl rfl rfl (by omega) (fun hq => absurd hq (by omega)) (fun _ => ?_)
  refine Gq_s (pc' := 5) rfl rfl rfl ?_
  refine Gq_get (pc' := 8) rfl rfl (by first | assumption | exact upd_eq _ _ _ | (refine (upd_ne _ _ (by omega)).trans ?_; first | assumption | exact upd_eq _ _ _ | (refine (upd_ne _ _ (by omega)).trans ?_; first | assumption | exact upd_eq _ _ _ | (refine (upd_ne _ _ (by omega)).trans ?_; first | assumption | exact upd_eq _ _ _)))) (by exact rfl) ?_
  refine Gq_bipush (pc' := 10) rfl rfl (by decide) ?_
  refine Gq_cge (pc' := 13) (t := 58) rfl rfl rfl (by omega) (by omega) (fun hq => absurd hq (by omega)) (fun _ => ?_)
  refine Gq_s (pc' := 14) rfl rfl rfl ?_
  refine Gq_get (pc' := 17) rfl rfl (by first | assumption | exact upd_eq _ _ _ | (refine (upd_ne _ _ (by omega)).trans ?_; first | assumption | exact upd_eq _ _ _ | (refine (upd_ne _ _ (by omega)).trans ?_; first | assumption | exact upd_eq _ _ _ | (refine (upd_ne _ _ (by omega)).trans ?_; first | assumption | exact upd_eq _ _ _)))) (by exact rfl) ?_
  refine Gq_s (pc' := 18) rfl rfl rfl ?_
  refine Gq_get (pc' := 21) rfl rfl (by first | assumption | exact upd_eq _ _ _ | (refine (upd_ne _ _ (by omega)).trans ?_; first | assumption | exact upd_eq _ _ _ | (refine (upd_ne _ _ (by omega)).trans ?_; first | assumption | exact upd_eq _ _ _ | (refine (upd_ne _ _ (by omega)).trans ?_; first | assumption | exact upd_eq _ _ _)))) (by exact rfl) ?_
  refine Gq_s (pc' := 22) rfl rfl rfl ?_
  refine Gq_iast (pc' := 23) rfl rfl (by first | assumption | exact upd_eq _ _ _ | (refine (upd_ne _ _ (by omega)).trans ?_; first | assumption | exact upd_eq _ _ _ | (refine (upd_ne _ _ (by omega)).trans ?_; first | assumption | exact upd_eq _ _ _ | (refine (upd_ne _ _ (by omega)).trans ?_; first | assumption | exact upd_eq _ _ _)))) (rfl) (by omega) (by omega) ?_
  refine Gq_s (pc' := 24) rfl rfl rfl ?_
  refine Gq_get (pc' := 27) rfl rfl (by first | assumption | exact upd_eq _ _ _ | (refine (upd_ne _ _ (by omega)).trans ?_; first | assumption | exact upd_eq _ _ _ | (refine (upd_ne _ _ (by omega)).trans ?_; first | assumption | exact upd_eq _ _ _ | (refine (upd_ne _ _ (by omega)).trans ?_; first | assumption | exact upd_eq _ _ _)))) (by exact rfl) ?_
  refine Gq_s (pc' := 28) rfl rfl rfl ?_
  refine Gq_get (pc' := 31) rfl rfl (by first | assumption | exact upd_eq _ _ _ | (refine (upd_ne _ _ (by omega)).trans ?_; first | assumption | exact upd_eq _ _ _ | (refine (upd_ne _ _ (by omega)).trans ?_; first | assumption | exact upd_eq _ _ _ | (refine (upd_ne _ _ (by omega)).trans ?_; first | assumption | exact upd_eq _ _ _)))) (by exact rfl) ?_
  refine Gq_s (pc' := 32) rfl rfl rfl ?_
  refine Gq_iast (pc' := 33) rfl rfl (by first | assumption | exact upd_eq _ _ _ | (refine (upd_ne _ _ (by omega)).trans ?_; first | assumption | exact upd_eq _ _ _ | (refine (upd_ne _ _ (by omega)).trans ?_; first | assumption | exact upd_eq _ _ _ | (refine (upd_ne _ _ (by omega)).trans ?_; first | assumption | exact upd_eq _ _ _)))) (rfl) (by omega) (by omega) ?_
  rw [aN_fset]
  refine Gq_s (pc' := 34) rfl rfl rfl ?_
  refine Gq_get (pc' := 37) rfl rfl (by first | assumption | exact upd_eq _ _ _ | (refine (upd_ne _ _ (by omega)).trans ?_; first | assumption | exact upd_eq _ _ _ | (refine (upd_ne _ _ (by omega)).trans ?_; first | assumption | exact upd_eq _ _ _ | (refine (upd_ne _ _ (by omega)).trans ?_; first | assumption | exact upd_eq _ _ _)))) (by exact rfl) ?_
  refine Gq_s (pc' := 38) rfl rfl rfl ?_
  refine Gq_get (pc' := 41) rfl rfl (by first | assumption | exact upd_eq _ _ _ | (refine (upd_ne _ _ (by omega)).trans ?_; first | assumption | exact upd_eq _ _ _ | (refine (upd_ne _ _ (by omega)).trans ?_; first | assumption | exact upd_eq _ _ _ | (refine (upd_ne _ _ (by omega)).trans ?_; first | assumption | exact upd_eq _ _ _)))) (by exact rfl) ?_
  refine Gq_s (pc' := 42) rfl rfl rfl ?_
  refine Gq_get (pc' := 45) rfl rfl (by first | assumption | exact upd_eq _ _ _ | (refine (upd_ne _ _ (by omega)).trans ?_; first | assumption | exact upd_eq _ _ _ | (refine (upd_ne _ _ (by omega)).trans ?_; first | assumption | exact upd_eq _ _ _ | (refine (upd_ne _ _ (by omega)).trans ?_; first | assumption | exact upd_eq _ _ _)))) (by exact rfl) ?_
  refine Gq_s (pc' := 46) rfl rfl rfl ?_
  refine Gq_aald (pc' := 47) rfl rfl (by first | assumption | exact upd_eq _ _ _ | (refine (upd_ne _ _ (by omega)).trans ?_; first | assumption | exact upd_eq _ _ _ | (refine (upd_ne _ _ (by omega)).trans ?_; first | assumption | exact upd_eq _ _ _ | (refine (upd_ne _ _ (by omega)).trans ?_; first | assumption | exact upd_eq _ _ _)))) (by exact rfl) (rfl) (by omega) (by omega) (rfl) ?_
  refine Gq_aast (pc' := 48) (dk p) rfl rfl (by first | assumption | exact upd_eq _ _ _ | (refine (upd_ne _ _ (by omega)).trans ?_; first | assumption | exact upd_eq _ _ _ | (refine (upd_ne _ _ (by omega)).trans ?_; first | assumption | exact upd_eq _ _ _ | (refine (upd_ne _ _ (by omega)).trans ?_; first | assumption | exact upd_eq _ _ _)))) (by exact rfl) (fun _ => rfl) (rfl) (fun x hx => by have hv := hD p x hp hx; obtain ⟨vs, h9⟩ := VS_ok hvs hv; have := (hvs x hv).1; exact ⟨vs, by rw [upd_ne _ _ (by omega), upd_ne _ _ (by omega)]; exact h9⟩) (rfl) (by omega) (by omega) ?_
  refine Gq_s (pc' := 49) rfl rfl rfl ?_
  refine Gq_s (pc' := 50) rfl rfl rfl ?_
  refine Gq_get (pc' := 53) rfl rfl (by first | assumption | exact upd_eq _ _ _ | (refine (upd_ne _ _ (by omega)).trans ?_; first | assumption | exact upd_eq _ _ _ | (refine (upd_ne _ _ (by omega)).trans ?_; first | assumption | exact upd_eq _ _ _ | (refine (upd_ne _ _ (by omega)).trans ?_; first | assumption | exact upd_eq _ _ _)))) (by exact rfl) ?_
  refine Gq_s (pc' := 54) rfl rfl rfl ?_
  refine Gq_iadd (pc' := 55) rfl rfl ?_
  refine Gq_put (pc' := 58) (fs' := [_, _, _, _, _, _]) rfl rfl (by first | assumption | exact upd_eq _ _ _ | (refine (upd_ne _ _ (by omega)).trans ?_; first | assumption | exact upd_eq _ _ _ | (refine (upd_ne _ _ (by omega)).trans ?_; first | assumption | exact upd_eq _ _ _ | (refine (upd_ne _ _ (by omega)).trans ?_; first | assumption | exact upd_eq _ _ _)))) (by exact rfl) (by first | rfl | exact xfit_bI _) (by exact rfl) ?_
  refine Gq_ret rfl rfl rfl ⟨rfl, rfl, ⟨fset kd sl.length z, fset pp sl.length p, fset pb sl.length (dk p), ⟨?_, ?_, ?_, ?_⟩, StI_snoc hS⟩, fun o h1 h2 h3 h4 => by rw [upd_ne _ _ h1, upd_ne _ _ h4, upd_ne _ _ h3, upd_ne _ _ h2]⟩
  · rw [upd_eq, List.length_append]; rfl
  · rw [upd_ne _ _ (by omega), upd_ne _ _ (by omega), upd_ne _ _ (by omega)]; exact upd_eq _ _ _
  · rw [upd_ne _ _ (by omega), upd_ne _ _ (by omega)]; exact upd_eq _ _ _
  · rw [upd_ne _ _ (by omega)]; exact upd_eq _ _ _
theorem t_rmAll_l {S : ScT} {n : Nat} {z0 : Int32} {th : Bool} {vr : Nat → VR} {V : Nat → Prop} {dk : Nat → Option Nat} (hD : ChV V dk) {don : Nat → Nat} (ho : o16 don) : ∀ (k turn : Nat) (H : HF) (left : Nat) (sl : List Nat) (lv : XL), turn + k = 12 → (lv = [(0, .ref 111), (1, .ref 93), (2, .int z0), (3, .int (zI (left : Int))), (4, .int (zI (turn : Int)))] ∨ ∃ a b, lv = [(0, .ref 111), (1, .ref 93), (2, .int z0), (3, .int (zI (left : Int))), (4, .int (zI (turn : Int))), (5, a), (6, b)]) → left < 4096 → nb left ≤ k → VsA H vr V → H 93 = some (false, 2, [.ref 94, .ref 95]) → H 94 = some (true, 3, aR 12 dk) → H 95 = some (true, 0, aNt 12 don) → PlS H th sl 0 dk → RwOK sl → (∀ p, left.testBit p = true → ¬ p ∈ sl) → Gw S xm100 5 lv [] H n 0 0 (MQe xm100 (fun v G m => v = none ∧ m = n ∧ (∀ o, ¬ o = 111 → ¬ o = 112 → ¬ o = 113 → ¬ o = 114 → G o = H o) ∧ ∃ sl2, PlS G th sl2 0 dk ∧ RwOK sl2 ∧ ∀ p, p ∈ sl2 ↔ p ∈ sl ∨ left.testBit p = true)) := by
  intro k
  induction k with
  | zero =>
    intro turn H left sl lv hk hlv hlt hnb hvs D0 D1 D2 hP hR hdj
    have hz : ∀ p, ¬ left.testBit p = true := fun p hp => by have := nb_pos (bits_lt hlt hp) hp; omega
    rcases hlv with rfl | ⟨a, b, rfl⟩
    · refine Gq_s (pc' := 7) rfl rfl rfl ?_
      refine Gq_bipush (pc' := 9) rfl rfl (by decide) ?_
      refine Gq_cge (pc' := 12) (t := 66) rfl rfl rfl (by omega) (by omega) (fun _ => ?_) (fun hq => absurd (by omega) hq)
      exact Gq_ret rfl rfl (rfl) (⟨rfl, rfl, fun _ _ _ _ _ => rfl, sl, hP, hR, fun p => ⟨.inl, fun h => h.elim id (fun h => absurd h (by exact hz p))⟩⟩)
    · refine Gq_s (pc' := 7) rfl rfl rfl ?_
      refine Gq_bipush (pc' := 9) rfl rfl (by decide) ?_
      refine Gq_cge (pc' := 12) (t := 66) rfl rfl rfl (by omega) (by omega) (fun _ => ?_) (fun hq => absurd (by omega) hq)
      exact Gq_ret rfl rfl (rfl) (⟨rfl, rfl, fun _ _ _ _ _ => rfl, sl, hP, hR, fun p => ⟨.inl, fun h => h.elim id (fun h => absurd h (by exact hz p))⟩⟩)
  | succ k ih =>
    intro turn H left sl lv hk hlv hlt hnb hvs D0 D1 D2 hP hR hdj
    rcases hlv with rfl | ⟨a, b, rfl⟩
    · refine Gq_s (pc' := 7) rfl rfl rfl ?_
      refine Gq_bipush (pc' := 9) rfl rfl (by decide) ?_
      refine Gq_cge (pc' := 12) (t := 66) rfl rfl rfl (by omega) (by omega) (fun hq => absurd hq (by omega)) (fun _ => ?_)
      refine Gq_s (pc' := 13) rfl rfl rfl ?_
      refine Gq_zeq (pc' := 16) (t := 66) rfl rfl rfl (by omega) (fun hz => ?_) (fun hz => ?_)
      · exact Gq_ret rfl rfl (rfl) (⟨rfl, rfl, fun _ _ _ _ _ => rfl, sl, hP, hR, fun p => ⟨.inl, fun h => h.elim id (fun h => absurd h (by rw [show left = 0 by omega, Nat.zero_testBit]; exact fun q => nomatch q))⟩⟩)
      · refine Gq_s (pc' := 17) rfl rfl rfl ?_
        refine Gq_s (pc' := 18) rfl rfl rfl ?_
        refine Gq_s (pc' := 19) rfl rfl rfl ?_
        refine Gq_callv1 (pc' := 22) (Y := xm87) (rest := [_]) (st' := [_, _]) (ce' := 0) (sl' := 0) rfl rfl rfl rfl rfl rfl rfl rfl rfl (t_na hvs hD D0 D1 D2 ho (zI (left : Int))) rfl (by first | assumption | exact upd_eq _ _ _ | (refine (upd_ne _ _ (by omega)).trans ?_; first | assumption | exact upd_eq _ _ _ | (refine (upd_ne _ _ (by omega)).trans ?_; first | assumption | exact upd_eq _ _ _ | (refine (upd_ne _ _ (by omega)).trans ?_; first | assumption | exact upd_eq _ _ _)))) ?_
        refine Gq_s (pc' := 23) rfl rfl rfl ?_
        refine Gq_ixor (pc' := 24) (_) rfl rfl (rfl) ?_
        refine Gq_iand (pc' := 25) (zI ((andn left (nAny vr dk don (zI (left : Int)) 12) : Nat) : Int)) rfl rfl (z_andn _ _) ?_
        refine Gq_s (pc' := 27) (lv' := [(0, _), (1, _), (2, _), (3, _), (4, _), (5, _)]) rfl rfl rfl ?_
        refine Gq_s (pc' := 29) rfl rfl rfl ?_
        have hfl : andn left (nAny vr dk don (zI (left : Int)) 12) < 4096 := andn_lt hlt
        have hfs : ∀ i, (andn left (nAny vr dk don (zI (left : Int)) 12)).testBit i = true → left.testBit i = true := fun i hi => by
          rw [andn_bit, Bool.and_eq_true] at hi
          exact hi.1
        generalize andn left (nAny vr dk don (zI (left : Int)) 12) = free at hfl hfs
        have key : ∀ x : Nat, x < 4096 → ¬ x = 0 → (∀ i, x.testBit i = true → left.testBit i = true) → Gw S xm100 38 [(0, .ref 111), (1, .ref 93), (2, .int z0), (3, .int (zI (left : Int))), (4, .int (zI (turn : Int))), (5, .int (zI (free : Int)))] [.int (zI (x : Int))] H n 0 0 (MQe xm100 (fun v G m => v = none ∧ m = n ∧ (∀ o, ¬ o = 111 → ¬ o = 112 → ¬ o = 113 → ¬ o = 114 → G o = H o) ∧ ∃ sl2, PlS G th sl2 0 dk ∧ RwOK sl2 ∧ ∀ p, p ∈ sl2 ↔ p ∈ sl ∨ left.testBit p = true)) := by
          intro x hx hx0 hsub
          obtain ⟨p, hs, hp, hpx⟩ := smal_z hx hx0
          have hpl := hsub p hpx
          have hR2 : RwOK (sl ++ [p]) := by
            have := addR_ok hR hp
            unfold addR at this
            rwa [if_neg (hdj p hpl)] at this
          have hl12 : sl.length < 12 := by
            have := pigeon 12 _ hR2.1 hR2.2
            rw [len_snoc] at this
            omega
          refine Gq_calls1 (pc' := 41) (Y := xm62) (rest := []) (st' := [_]) (ce' := 0) (sl' := 0) rfl rfl rfl rfl rfl rfl rfl rfl rfl rfl (t_smal (zI (x : Int))) rfl ?_
          rw [hs]
          refine Gq_s (pc' := 43) (lv' := [(0, _), (1, _), (2, _), (3, _), (4, _), (5, _), (6, _)]) rfl rfl rfl ?_
          refine Gq_s (pc' := 44) rfl rfl rfl ?_
          refine Gq_s (pc' := 45) rfl rfl rfl ?_
          refine Gq_s (pc' := 47) rfl rfl rfl ?_
          refine Gq_s (pc' := 48) rfl rfl rfl ?_
          refine Gq_callv (pc' := 51) (Y := xm103) (rest := []) (ce' := 0) (sl' := 0) rfl rfl rfl rfl rfl rfl rfl rfl rfl (t_addStep n hD hvs D0 D1 hP hp hl12) (by obtain ⟨kd, pp, pb, hpl9, -⟩ := id hP; exact hpl9.1) (fun v' H' n' hv => ?_)
          obtain ⟨rfl, rfl, g1, g2⟩ := hv
          refine Gq_s (pc' := 52) rfl rfl rfl ?_
          refine Gq_s (pc' := 53) rfl rfl rfl ?_
          refine Gq_s (pc' := 55) rfl rfl rfl ?_
          refine Gq_ishl (pc' := 56) (zI ((2 ^ p : Nat) : Int)) rfl rfl (z_shl _ hp) ?_
          refine Gq_s (pc' := 57) rfl rfl rfl ?_
          refine Gq_ixor (pc' := 58) (_) rfl rfl (rfl) ?_
          refine Gq_iand (pc' := 59) (zI ((andn left (2 ^ p) : Nat) : Int)) rfl rfl (z_andn _ _) ?_
          refine Gq_s (pc' := 60) (lv' := [(0, _), (1, _), (2, _), (3, _), (4, _), (5, _), (6, _)]) rfl rfl rfl ?_
          refine Gq_iinc (pc' := 63) (lv' := [(0, _), (1, _), (2, _), (3, _), (4, _), (5, _), (6, _)]) rfl rfl rfl rfl ?_
          refine Gq_goto rfl (t := 5) rfl ?_
          have hnb2 := nb_rm hp hpl
          have hlt2 : andn left (2 ^ p) < 4096 := andn_lt hlt
          have hh : Hi H H' := fun o ho => g2 o (by omega) (by omega) (by omega) (by omega)
          have hbit : ∀ q, (andn left (2 ^ p)).testBit q = true ↔ left.testBit q = true ∧ ¬ q = p := fun q => by
            rw [andn_bit, Nat.testBit_two_pow, Bool.and_eq_true, Bool.not_eq_true', decide_eq_false_iff_not]
            exact ⟨fun h => ⟨h.1, fun e => h.2 e.symm⟩, fun h => ⟨h.1, fun e => h.2 e.symm⟩⟩
          have hdj2 : ∀ q, (andn left (2 ^ p)).testBit q = true → ¬ q ∈ sl ++ [p] := fun q hq hm => by
            obtain ⟨b1, b2⟩ := (hbit q).mp hq
            rcases List.mem_append.mp hm with hm | hm
            · exact hdj q b1 hm
            · exact b2 (List.mem_singleton.mp hm)
          refine Gq_mq (ih (turn + 1) H' _ (sl ++ [p]) _ (by omega) (.inr ⟨_, _, rfl⟩) hlt2 (by omega) (VS_hi hh hvs) ((g2 93 (by omega) (by omega) (by omega) (by omega)).trans D0) ((g2 94 (by omega) (by omega) (by omega) (by omega)).trans D1) ((g2 95 (by omega) (by omega) (by omega) (by omega)).trans D2) g1 hR2 hdj2) ?_
          rintro v G m ⟨a1, a2, a3, sl3, a4, a5, a6⟩
          refine ⟨a1, a2, fun o h1 h2 h3 h4 => (a3 o h1 h2 h3 h4).trans (g2 o h1 h2 h3 h4), sl3, a4, a5, fun q => ?_⟩
          rw [a6 q, hbit q, List.mem_append, List.mem_singleton]
          constructor
          · rintro ((h | h) | h)
            · exact .inl h
            · exact .inr (h ▸ hpl)
            · exact .inr h.1
          · rintro (h | h)
            · exact .inl (.inl h)
            · by_cases e : q = p
              · exact .inl (.inr e)
              · exact .inr ⟨h, e⟩
        refine Gq_zeq (pc' := 32) (t := 37) rfl rfl rfl (by omega) (fun hf => ?_) (fun hf => ?_)
        · refine Gq_s (pc' := 38) rfl rfl rfl ?_
          exact key left hlt (by omega) (fun _ h => h)
        · refine Gq_s (pc' := 34) rfl rfl rfl ?_
          refine Gq_goto rfl (t := 38) rfl ?_
          exact key free hfl (by omega) hfs
    · refine Gq_s (pc' := 7) rfl rfl rfl ?_
      refine Gq_bipush (pc' := 9) rfl rfl (by decide) ?_
      refine Gq_cge (pc' := 12) (t := 66) rfl rfl rfl (by omega) (by omega) (fun hq => absurd hq (by omega)) (fun _ => ?_)
      refine Gq_s (pc' := 13) rfl rfl rfl ?_
      refine Gq_zeq (pc' := 16) (t := 66) rfl rfl rfl (by omega) (fun hz => ?_) (fun hz => ?_)
      · exact Gq_ret rfl rfl (rfl) (⟨rfl, rfl, fun _ _ _ _ _ => rfl, sl, hP, hR, fun p => ⟨.inl, fun h => h.elim id (fun h => absurd h (by rw [show left = 0 by omega, Nat.zero_testBit]; exact fun q => nomatch q))⟩⟩)
      · refine Gq_s (pc' := 17) rfl rfl rfl ?_
        refine Gq_s (pc' := 18) rfl rfl rfl ?_
        refine Gq_s (pc' := 19) rfl rfl rfl ?_
        refine Gq_callv1 (pc' := 22) (Y := xm87) (rest := [_]) (st' := [_, _]) (ce' := 0) (sl' := 0) rfl rfl rfl rfl rfl rfl rfl rfl rfl (t_na hvs hD D0 D1 D2 ho (zI (left : Int))) rfl (by first | assumption | exact upd_eq _ _ _ | (refine (upd_ne _ _ (by omega)).trans ?_; first | assumption | exact upd_eq _ _ _ | (refine (upd_ne _ _ (by omega)).trans ?_; first | assumption | exact upd_eq _ _ _ | (refine (upd_ne _ _ (by omega)).trans ?_; first | assumption | exact upd_eq _ _ _)))) ?_
        refine Gq_s (pc' := 23) rfl rfl rfl ?_
        refine Gq_ixor (pc' := 24) (_) rfl rfl (rfl) ?_
        refine Gq_iand (pc' := 25) (zI ((andn left (nAny vr dk don (zI (left : Int)) 12) : Nat) : Int)) rfl rfl (z_andn _ _) ?_
        refine Gq_s (pc' := 27) (lv' := [(0, _), (1, _), (2, _), (3, _), (4, _), (5, _), (6, _)]) rfl rfl rfl ?_
        refine Gq_s (pc' := 29) rfl rfl rfl ?_
        have hfl : andn left (nAny vr dk don (zI (left : Int)) 12) < 4096 := andn_lt hlt
        have hfs : ∀ i, (andn left (nAny vr dk don (zI (left : Int)) 12)).testBit i = true → left.testBit i = true := fun i hi => by
          rw [andn_bit, Bool.and_eq_true] at hi
          exact hi.1
        generalize andn left (nAny vr dk don (zI (left : Int)) 12) = free at hfl hfs
        have key : ∀ x : Nat, x < 4096 → ¬ x = 0 → (∀ i, x.testBit i = true → left.testBit i = true) → Gw S xm100 38 [(0, .ref 111), (1, .ref 93), (2, .int z0), (3, .int (zI (left : Int))), (4, .int (zI (turn : Int))), (5, .int (zI (free : Int))), (6, b)] [.int (zI (x : Int))] H n 0 0 (MQe xm100 (fun v G m => v = none ∧ m = n ∧ (∀ o, ¬ o = 111 → ¬ o = 112 → ¬ o = 113 → ¬ o = 114 → G o = H o) ∧ ∃ sl2, PlS G th sl2 0 dk ∧ RwOK sl2 ∧ ∀ p, p ∈ sl2 ↔ p ∈ sl ∨ left.testBit p = true)) := by
          intro x hx hx0 hsub
          obtain ⟨p, hs, hp, hpx⟩ := smal_z hx hx0
          have hpl := hsub p hpx
          have hR2 : RwOK (sl ++ [p]) := by
            have := addR_ok hR hp
            unfold addR at this
            rwa [if_neg (hdj p hpl)] at this
          have hl12 : sl.length < 12 := by
            have := pigeon 12 _ hR2.1 hR2.2
            rw [len_snoc] at this
            omega
          refine Gq_calls1 (pc' := 41) (Y := xm62) (rest := []) (st' := [_]) (ce' := 0) (sl' := 0) rfl rfl rfl rfl rfl rfl rfl rfl rfl rfl (t_smal (zI (x : Int))) rfl ?_
          rw [hs]
          refine Gq_s (pc' := 43) (lv' := [(0, _), (1, _), (2, _), (3, _), (4, _), (5, _), (6, _)]) rfl rfl rfl ?_
          refine Gq_s (pc' := 44) rfl rfl rfl ?_
          refine Gq_s (pc' := 45) rfl rfl rfl ?_
          refine Gq_s (pc' := 47) rfl rfl rfl ?_
          refine Gq_s (pc' := 48) rfl rfl rfl ?_
          refine Gq_callv (pc' := 51) (Y := xm103) (rest := []) (ce' := 0) (sl' := 0) rfl rfl rfl rfl rfl rfl rfl rfl rfl (t_addStep n hD hvs D0 D1 hP hp hl12) (by obtain ⟨kd, pp, pb, hpl9, -⟩ := id hP; exact hpl9.1) (fun v' H' n' hv => ?_)
          obtain ⟨rfl, rfl, g1, g2⟩ := hv
          refine Gq_s (pc' := 52) rfl rfl rfl ?_
          refine Gq_s (pc' := 53) rfl rfl rfl ?_
          refine Gq_s (pc' := 55) rfl rfl rfl ?_
          refine Gq_ishl (pc' := 56) (zI ((2 ^ p : Nat) : Int)) rfl rfl (z_shl _ hp) ?_
          refine Gq_s (pc' := 57) rfl rfl rfl ?_
          refine Gq_ixor (pc' := 58) (_) rfl rfl (rfl) ?_
          refine Gq_iand (pc' := 59) (zI ((andn left (2 ^ p) : Nat) : Int)) rfl rfl (z_andn _ _) ?_
          refine Gq_s (pc' := 60) (lv' := [(0, _), (1, _), (2, _), (3, _), (4, _), (5, _), (6, _)]) rfl rfl rfl ?_
          refine Gq_iinc (pc' := 63) (lv' := [(0, _), (1, _), (2, _), (3, _), (4, _), (5, _), (6, _)]) rfl rfl rfl rfl ?_
          refine Gq_goto rfl (t := 5) rfl ?_
          have hnb2 := nb_rm hp hpl
          have hlt2 : andn left (2 ^ p) < 4096 := andn_lt hlt
          have hh : Hi H H' := fun o ho => g2 o (by omega) (by omega) (by omega) (by omega)
          have hbit : ∀ q, (andn left (2 ^ p)).testBit q = true ↔ left.testBit q = true ∧ ¬ q = p := fun q => by
            rw [andn_bit, Nat.testBit_two_pow, Bool.and_eq_true, Bool.not_eq_true', decide_eq_false_iff_not]
            exact ⟨fun h => ⟨h.1, fun e => h.2 e.symm⟩, fun h => ⟨h.1, fun e => h.2 e.symm⟩⟩
          have hdj2 : ∀ q, (andn left (2 ^ p)).testBit q = true → ¬ q ∈ sl ++ [p] := fun q hq hm => by
            obtain ⟨b1, b2⟩ := (hbit q).mp hq
            rcases List.mem_append.mp hm with hm | hm
            · exact hdj q b1 hm
            · exact b2 (List.mem_singleton.mp hm)
          refine Gq_mq (ih (turn + 1) H' _ (sl ++ [p]) _ (by omega) (.inr ⟨_, _, rfl⟩) hlt2 (by omega) (VS_hi hh hvs) ((g2 93 (by omega) (by omega) (by omega) (by omega)).trans D0) ((g2 94 (by omega) (by omega) (by omega) (by omega)).trans D1) ((g2 95 (by omega) (by omega) (by omega) (by omega)).trans D2) g1 hR2 hdj2) ?_
          rintro v G m ⟨a1, a2, a3, sl3, a4, a5, a6⟩
          refine ⟨a1, a2, fun o h1 h2 h3 h4 => (a3 o h1 h2 h3 h4).trans (g2 o h1 h2 h3 h4), sl3, a4, a5, fun q => ?_⟩
          rw [a6 q, hbit q, List.mem_append, List.mem_singleton]
          constructor
          · rintro ((h | h) | h)
            · exact .inl h
            · exact .inr (h ▸ hpl)
            · exact .inr h.1
          · rintro (h | h)
            · exact .inl (.inl h)
            · by_cases e : q = p
              · exact .inl (.inr e)
              · exact .inr ⟨h, e⟩
        refine Gq_zeq (pc' := 32) (t := 37) rfl rfl rfl (by omega) (fun hf => ?_) (fun hf => ?_)
        · refine Gq_s (pc' := 38) rfl rfl rfl ?_
          exact key left hlt (by omega) (fun _ h => h)
        · refine Gq_s (pc' := 34) rfl rfl rfl ?_
          refine Gq_goto rfl (t := 38) rfl ?_
          exact key free hfl (by omega) hfs
theorem t_rmAll {S : ScT} {H : HF} (n : Nat) {th : Bool} {left : Nat} {sl : List Nat} {vr : Nat → VR} {V : Nat → Prop} {dk : Nat → Option Nat} (hD : ChV V dk) {don : Nat → Nat} (ho : o16 don) (hlt : left < 4096) (hvs : VsA H vr V) (D0 : H 93 = some (false, 2, [.ref 94, .ref 95])) (D1 : H 94 = some (true, 3, aR 12 dk)) (D2 : H 95 = some (true, 0, aNt 12 don)) (hP : PlS H th sl 0 dk) (hR : RwOK sl) (hdj : ∀ p, left.testBit p = true → ¬ p ∈ sl) : Rmt S 100 [.ref 111, .ref 93, .int (zI (left : Int))] H n (fun v G m => v = none ∧ m = n ∧ (∀ o, ¬ o = 111 → ¬ o = 112 → ¬ o = 113 → ¬ o = 114 → G o = H o) ∧ ∃ sl2, PlS G th sl2 0 dk ∧ RwOK sl2 ∧ ∀ p, p ∈ sl2 ↔ p ∈ sl ∨ left.testBit p = true) := by
  refine Rm_of (M := xm100) (lv := [(0, _), (1, _), (2, _)]) rfl rfl rfl ?_
  refine Gq_s (pc' := 1) rfl rfl rfl ?_
  refine Gq_s (pc' := 2) (lv' := [(0, _), (1, _), (2, _), (3, _)]) rfl rfl rfl ?_
  refine Gq_s (pc' := 3) rfl rfl rfl ?_
  refine Gq_s (pc' := 5) (lv' := [(0, _), (1, _), (2, _), (3, _), (4, _)]) rfl rfl rfl ?_
  exact t_rmAll_l hD ho 12 0 H left sl _ rfl (.inl rfl) hlt (cntTo_le _ 12) hvs D0 D1 D2 hP hR hdj
theorem t_nn_l {S : ScT} {H : HF} {n left : Nat} {vr : Nat → VR} {V : Nat → Prop} {lk : Nat → Option Nat} (hL : ChV V lk) {on : Nat → Nat} (ho : o16 on) (hlt : left < 4096) (hvs : VsA H vr V) (L0 : H 90 = some (false, 2, [.ref 91, .ref 92])) (L1 : H 91 = some (true, 3, aR 12 lk)) (L2 : H 92 = some (true, 0, aNt 12 on)) : ∀ (k j r : Nat), j + k = 12 → r < 4096 → (∀ i, r.testBit i = true → left.testBit i = true) → Gw S xm102 4 [(0, .int (zI (left : Int))), (1, .ref 90), (2, .int (zI (r : Int))), (3, .int (zI (j : Int)))] [] H n 0 0 (MQe xm102 (fun v G m => m = n ∧ G = H ∧ ∃ r : Nat, v = some (.int (zI (r : Int))) ∧ r < 4096 ∧ ∀ i, r.testBit i = true → left.testBit i = true)) := by
  intro k
  induction k with
  | zero =>
    intro j r hj hr hs
    refine Gq_s (pc' := 5) rfl rfl rfl ?_
    refine Gq_bipush (pc' := 7) rfl rfl (by decide) ?_
    refine Gq_cge (pc' := 10) (t := 40) rfl rfl rfl (by omega) (by omega) (fun _ => ?_) (fun hq => absurd (by omega) hq)
    refine Gq_s (pc' := 41) rfl rfl rfl ?_
    exact Gq_ret rfl rfl (rfl) (⟨rfl, rfl, r, rfl, hr, hs⟩)
  | succ k ih =>
    intro j r hj hr hs
    have hm := nMask_lt (on := on) hvs hL (show j < 12 by omega)
    refine Gq_s (pc' := 5) rfl rfl rfl ?_
    refine Gq_bipush (pc' := 7) rfl rfl (by decide) ?_
    refine Gq_cge (pc' := 10) (t := 40) rfl rfl rfl (by omega) (by omega) (fun hq => absurd hq (by omega)) (fun _ => ?_)
    refine Gq_s (pc' := 11) rfl rfl rfl ?_
    refine Gq_s (pc' := 12) rfl rfl rfl ?_
    refine Gq_calls1 (pc' := 15) (Y := xm61) (rest := []) (st' := [_]) (ce' := 0) (sl' := 0) rfl rfl rfl rfl rfl rfl rfl rfl rfl rfl (t_isIn H n (zI (left : Int)) j) rfl ?_
    rw [isInB_z hlt (by omega)]
    refine Gq_beq (pc' := 18) (t := 34) rfl rfl rfl (fun hb => ?_) (fun hb => ?_)
    · refine Gq_iinc (pc' := 37) (lv' := [(0, _), (1, _), (2, _), (3, _)]) rfl rfl rfl rfl ?_
      refine Gq_goto rfl (t := 4) rfl ?_
      exact ih (j + 1) r (by omega) hr hs
    · refine Gq_s (pc' := 19) rfl rfl rfl ?_
      refine Gq_s (pc' := 20) rfl rfl rfl ?_
      refine Gq_callv1 (pc' := 23) (Y := xm86) (rest := []) (st' := [_]) (ce' := 0) (sl' := 0) rfl rfl rfl rfl rfl rfl rfl rfl rfl (t_nf hvs hL L0 L1 L2 ho (by omega)) rfl (by first | assumption | exact upd_eq _ _ _ | (refine (upd_ne _ _ (by omega)).trans ?_; first | assumption | exact upd_eq _ _ _ | (refine (upd_ne _ _ (by omega)).trans ?_; first | assumption | exact upd_eq _ _ _ | (refine (upd_ne _ _ (by omega)).trans ?_; first | assumption | exact upd_eq _ _ _)))) ?_
      refine Gq_s (pc' := 24) rfl rfl rfl ?_
      refine Gq_iand (pc' := 25) (zI ((nMask vr lk on j &&& left : Nat) : Int)) rfl rfl (z_and _ _) ?_
      have hle := Nat.and_le_left (n := nMask vr lk on j) (m := left)
      refine Gq_zne (pc' := 28) (t := 34) rfl rfl rfl (by omega) (fun hc => ?_) (fun hc => ?_)
      · refine Gq_iinc (pc' := 37) (lv' := [(0, _), (1, _), (2, _), (3, _)]) rfl rfl rfl rfl ?_
        refine Gq_goto rfl (t := 4) rfl ?_
        exact ih (j + 1) r (by omega) hr hs
      · refine Gq_s (pc' := 29) rfl rfl rfl ?_
        refine Gq_s (pc' := 30) rfl rfl rfl ?_
        refine Gq_s (pc' := 31) rfl rfl rfl ?_
        refine Gq_ishl (pc' := 32) (zI ((2 ^ j : Nat) : Int)) rfl rfl (z_shl _ (by omega)) ?_
        refine Gq_ior (pc' := 33) (zI ((r ||| 2 ^ j : Nat) : Int)) rfl rfl (z_or _ _) ?_
        refine Gq_s (pc' := 34) (lv' := [(0, _), (1, _), (2, _), (3, _)]) rfl rfl rfl ?_
        refine Gq_iinc (pc' := 37) (lv' := [(0, _), (1, _), (2, _), (3, _)]) rfl rfl rfl rfl ?_
        refine Gq_goto rfl (t := 4) rfl ?_
        refine ih (j + 1) (r ||| 2 ^ j) (by omega) (Nat.or_lt_two_pow (n := 12) hr (Nat.pow_lt_pow_right (by omega) (by omega))) (fun i hi => ?_)
        rw [Nat.testBit_or, Nat.testBit_two_pow, Bool.or_eq_true, decide_eq_true_eq] at hi
        rcases hi with hi | hi
        · exact hs i hi
        · rw [← hi]
          exact hb
theorem t_nn {S : ScT} {H : HF} (n : Nat) {left : Nat} {vr : Nat → VR} {V : Nat → Prop} {lk : Nat → Option Nat} (hL : ChV V lk) {on : Nat → Nat} (ho : o16 on) (hlt : left < 4096) (hvs : VsA H vr V) (L0 : H 90 = some (false, 2, [.ref 91, .ref 92])) (L1 : H 91 = some (true, 3, aR 12 lk)) (L2 : H 92 = some (true, 0, aNt 12 on)) : Rmt S 102 [.int (zI (left : Int)), .ref 90] H n (fun v G m => m = n ∧ G = H ∧ ∃ r : Nat, v = some (.int (zI (r : Int))) ∧ r < 4096 ∧ ∀ i, r.testBit i = true → left.testBit i = true) := by
  refine Rm_of (M := xm102) (lv := [(0, _), (1, _)]) rfl rfl rfl ?_
  refine Gq_s (pc' := 1) rfl rfl rfl ?_
  refine Gq_s (pc' := 2) (lv' := [(0, _), (1, _), (2, _)]) rfl rfl rfl ?_
  refine Gq_s (pc' := 3) rfl rfl rfl ?_
  refine Gq_s (pc' := 4) (lv' := [(0, _), (1, _), (2, _), (3, _)]) rfl rfl rfl ?_
  exact t_nn_l hL ho hlt hvs L0 L1 L2 12 0 0 rfl (by decide) (fun i hi => by rw [Nat.zero_testBit] at hi; cases hi)
theorem t_putAll_l {S : ScT} {n : Nat} {z0 : Int32} {th : Bool} {vr : Nat → VR} {V : Nat → Prop} {dk lk : Nat → Option Nat} (hD : ChV V dk) (hL : ChV V lk) {on : Nat → Nat} (ho : o16 on) : ∀ (k turn : Nat) (H : HF) (left : Nat) (sl : List Nat) (lv : XL), turn + k = 12 → (lv = [(0, .ref 111), (1, .ref 93), (2, .ref 90), (3, .int z0), (4, .int (zI (left : Int))), (5, .int (zI (turn : Int)))] ∨ ∃ a b, lv = [(0, .ref 111), (1, .ref 93), (2, .ref 90), (3, .int z0), (4, .int (zI (left : Int))), (5, .int (zI (turn : Int))), (6, a), (7, b)]) → left < 4096 → nb left ≤ k → VsA H vr V → H 93 = some (false, 2, [.ref 94, .ref 95]) → H 94 = some (true, 3, aR 12 dk) → H 90 = some (false, 2, [.ref 91, .ref 92]) → H 91 = some (true, 3, aR 12 lk) → H 92 = some (true, 0, aNt 12 on) → PlS H th sl 0 dk → RwOK sl → (∀ p, left.testBit p = true → ¬ p ∈ sl) → Gw S xm101 6 lv [] H n 0 0 (MQe xm101 (fun v G m => v = none ∧ m = n ∧ (∀ o, ¬ o = 111 → ¬ o = 112 → ¬ o = 113 → ¬ o = 114 → G o = H o) ∧ ∃ sl2, PlS G th sl2 0 dk ∧ RwOK sl2 ∧ ∀ p, p ∈ sl2 ↔ p ∈ sl ∨ left.testBit p = true)) := by
  intro k
  induction k with
  | zero =>
    intro turn H left sl lv hk hlv hlt hnb hvs D0 D1 L0 L1 L2 hP hR hdj
    have hz : ∀ p, ¬ left.testBit p = true := fun p hp => by have := nb_pos (bits_lt hlt hp) hp; omega
    rcases hlv with rfl | ⟨a, b, rfl⟩
    · refine Gq_s (pc' := 8) rfl rfl rfl ?_
      refine Gq_bipush (pc' := 10) rfl rfl (by decide) ?_
      refine Gq_cge (pc' := 13) (t := 87) rfl rfl rfl (by omega) (by omega) (fun _ => ?_) (fun hq => absurd (by omega) hq)
      exact Gq_ret rfl rfl (rfl) (⟨rfl, rfl, fun _ _ _ _ _ => rfl, sl, hP, hR, fun p => ⟨.inl, fun h => h.elim id (fun h => absurd h (by exact hz p))⟩⟩)
    · refine Gq_s (pc' := 8) rfl rfl rfl ?_
      refine Gq_bipush (pc' := 10) rfl rfl (by decide) ?_
      refine Gq_cge (pc' := 13) (t := 87) rfl rfl rfl (by omega) (by omega) (fun _ => ?_) (fun hq => absurd (by omega) hq)
      exact Gq_ret rfl rfl (rfl) (⟨rfl, rfl, fun _ _ _ _ _ => rfl, sl, hP, hR, fun p => ⟨.inl, fun h => h.elim id (fun h => absurd h (by exact hz p))⟩⟩)
  | succ k ih =>
    intro turn H left sl lv hk hlv hlt hnb hvs D0 D1 L0 L1 L2 hP hR hdj
    rcases hlv with rfl | ⟨a, b, rfl⟩
    · refine Gq_s (pc' := 8) rfl rfl rfl ?_
      refine Gq_bipush (pc' := 10) rfl rfl (by decide) ?_
      refine Gq_cge (pc' := 13) (t := 87) rfl rfl rfl (by omega) (by omega) (fun hq => absurd hq (by omega)) (fun _ => ?_)
      refine Gq_s (pc' := 15) rfl rfl rfl ?_
      refine Gq_zeq (pc' := 18) (t := 87) rfl rfl rfl (by omega) (fun hz => ?_) (fun hz => ?_)
      · exact Gq_ret rfl rfl (rfl) (⟨rfl, rfl, fun _ _ _ _ _ => rfl, sl, hP, hR, fun p => ⟨.inl, fun h => h.elim id (fun h => absurd h (by rw [show left = 0 by omega, Nat.zero_testBit]; exact fun q => nomatch q))⟩⟩)
      · refine Gq_s (pc' := 20) rfl rfl rfl ?_
        refine Gq_s (pc' := 21) rfl rfl rfl ?_
        refine Gq_calls (pc' := 24) (Y := xm102) (rest := []) (ce' := 0) (sl' := 0) rfl rfl rfl rfl rfl rfl rfl rfl rfl rfl (t_nn n hL ho hlt hvs L0 L1 L2) (fun v' H' n' hv => ?_)
        obtain ⟨rfl, rfl, free, rfl, hfl, hfs⟩ := hv
        refine Gq_s (pc' := 26) (lv' := [(0, _), (1, _), (2, _), (3, _), (4, _), (5, _), (6, _)]) rfl rfl rfl ?_
        refine Gq_s (pc' := 28) rfl rfl rfl ?_
        have key : ∀ x : Nat, x < 4096 → ¬ x = 0 → (∀ i, x.testBit i = true → left.testBit i = true) → Gw S xm101 38 [(0, .ref 111), (1, .ref 93), (2, .ref 90), (3, .int z0), (4, .int (zI (left : Int))), (5, .int (zI (turn : Int))), (6, .int (zI (free : Int)))] [.int (zI (x : Int))] H' n' 0 0 (MQe xm101 (fun v G m => v = none ∧ m = n' ∧ (∀ o, ¬ o = 111 → ¬ o = 112 → ¬ o = 113 → ¬ o = 114 → G o = H' o) ∧ ∃ sl2, PlS G th sl2 0 dk ∧ RwOK sl2 ∧ ∀ p, p ∈ sl2 ↔ p ∈ sl ∨ left.testBit p = true)) := by
          intro x hx hx0 hsub
          obtain ⟨p, hs, hp, hpx⟩ := smal_z hx hx0
          have hpl := hsub p hpx
          have hR2 : RwOK (sl ++ [p]) := by
            have := addR_ok hR hp
            unfold addR at this
            rwa [if_neg (hdj p hpl)] at this
          have hl12 : sl.length < 12 := by
            have := pigeon 12 _ hR2.1 hR2.2
            rw [len_snoc] at this
            omega
          refine Gq_calls1 (pc' := 41) (Y := xm62) (rest := []) (st' := [_]) (ce' := 0) (sl' := 0) rfl rfl rfl rfl rfl rfl rfl rfl rfl rfl (t_smal (zI (x : Int))) rfl ?_
          rw [hs]
          refine Gq_s (pc' := 43) (lv' := [(0, _), (1, _), (2, _), (3, _), (4, _), (5, _), (6, _), (7, _)]) rfl rfl rfl ?_
          refine Gq_s (pc' := 44) rfl rfl rfl ?_
          refine Gq_s (pc' := 46) rfl rfl rfl ?_
          refine Gq_zlt (pc' := 49) (t := 63) rfl rfl rfl (by omega) (fun hq => absurd hq (by omega)) (fun _ => ?_)
          refine Gq_s (pc' := 50) rfl rfl rfl ?_
          refine Gq_get (pc' := 53) rfl rfl (by first | assumption | exact upd_eq _ _ _ | (refine (upd_ne _ _ (by omega)).trans ?_; first | assumption | exact upd_eq _ _ _ | (refine (upd_ne _ _ (by omega)).trans ?_; first | assumption | exact upd_eq _ _ _ | (refine (upd_ne _ _ (by omega)).trans ?_; first | assumption | exact upd_eq _ _ _)))) (by exact rfl) ?_
          refine Gq_s (pc' := 55) rfl rfl rfl ?_
          have key2 : ∀ z : Int, Gw S xm101 64 [(0, .ref 111), (1, .ref 93), (2, .ref 90), (3, .int z0), (4, .int (zI (left : Int))), (5, .int (zI (turn : Int))), (6, .int (zI (free : Int))), (7, .int (zI (p : Int)))] [.int (zI z), .ref 111] H' n' 0 0 (MQe xm101 (fun v G m => v = none ∧ m = n' ∧ (∀ o, ¬ o = 111 → ¬ o = 112 → ¬ o = 113 → ¬ o = 114 → G o = H' o) ∧ ∃ sl2, PlS G th sl2 0 dk ∧ RwOK sl2 ∧ ∀ p, p ∈ sl2 ↔ p ∈ sl ∨ left.testBit p = true)) := by
            intro z
            refine Gq_s (pc' := 66) rfl rfl rfl ?_
            refine Gq_s (pc' := 67) rfl rfl rfl ?_
            refine Gq_callv (pc' := 70) (Y := xm103) (rest := []) (ce' := 0) (sl' := 0) rfl rfl rfl rfl rfl rfl rfl rfl rfl (t_addStep _ hD hvs D0 D1 hP hp hl12) (by obtain ⟨kd, pp, pb, hpl9, -⟩ := id hP; exact hpl9.1) (fun v2 H2 n2 hv => ?_)
            obtain ⟨rfl, rfl, g1, g2⟩ := hv
            refine Gq_s (pc' := 72) rfl rfl rfl ?_
            refine Gq_s (pc' := 73) rfl rfl rfl ?_
            refine Gq_s (pc' := 75) rfl rfl rfl ?_
            refine Gq_ishl (pc' := 76) (zI ((2 ^ p : Nat) : Int)) rfl rfl (z_shl _ hp) ?_
            refine Gq_s (pc' := 77) rfl rfl rfl ?_
            refine Gq_ixor (pc' := 78) (_) rfl rfl (rfl) ?_
            refine Gq_iand (pc' := 79) (zI ((andn left (2 ^ p) : Nat) : Int)) rfl rfl (z_andn _ _) ?_
            refine Gq_s (pc' := 81) (lv' := [(0, _), (1, _), (2, _), (3, _), (4, _), (5, _), (6, _), (7, _)]) rfl rfl rfl ?_
            refine Gq_iinc (pc' := 84) (lv' := [(0, _), (1, _), (2, _), (3, _), (4, _), (5, _), (6, _), (7, _)]) rfl rfl rfl rfl ?_
            refine Gq_goto rfl (t := 6) rfl ?_
            have hnb2 := nb_rm hp hpl
            have hlt2 : andn left (2 ^ p) < 4096 := andn_lt hlt
            have hh : Hi H' H2 := fun o ho => g2 o (by omega) (by omega) (by omega) (by omega)
            have hbit : ∀ q, (andn left (2 ^ p)).testBit q = true ↔ left.testBit q = true ∧ ¬ q = p := fun q => by
              rw [andn_bit, Nat.testBit_two_pow, Bool.and_eq_true, Bool.not_eq_true', decide_eq_false_iff_not]
              exact ⟨fun h => ⟨h.1, fun e => h.2 e.symm⟩, fun h => ⟨h.1, fun e => h.2 e.symm⟩⟩
            have hdj2 : ∀ q, (andn left (2 ^ p)).testBit q = true → ¬ q ∈ sl ++ [p] := fun q hq hm => by
              obtain ⟨b1, b2⟩ := (hbit q).mp hq
              rcases List.mem_append.mp hm with hm | hm
              · exact hdj q b1 hm
              · exact b2 (List.mem_singleton.mp hm)
            refine Gq_mq (ih (turn + 1) H2 _ (sl ++ [p]) _ (by omega) (.inr ⟨_, _, rfl⟩) hlt2 (by omega) (VS_hi hh hvs) ((g2 93 (by omega) (by omega) (by omega) (by omega)).trans D0) ((g2 94 (by omega) (by omega) (by omega) (by omega)).trans D1) ((g2 90 (by omega) (by omega) (by omega) (by omega)).trans L0) ((g2 91 (by omega) (by omega) (by omega) (by omega)).trans L1) ((g2 92 (by omega) (by omega) (by omega) (by omega)).trans L2) g1 hR2 hdj2) ?_
            rintro v G m ⟨a1, a2, a3, sl3, a4, a5, a6⟩
            refine ⟨a1, a2, fun o h1 h2 h3 h4 => (a3 o h1 h2 h3 h4).trans (g2 o h1 h2 h3 h4), sl3, a4, a5, fun q => ?_⟩
            rw [a6 q, hbit q, List.mem_append, List.mem_singleton]
            constructor
            · rintro ((h | h) | h)
              · exact .inl h
              · exact .inr (h ▸ hpl)
              · exact .inr h.1
            · rintro (h | h)
              · exact .inl (.inl h)
              · by_cases e : q = p
                · exact .inl (.inr e)
                · exact .inr ⟨h, e⟩
          refine Gq_aalx (pc' := 56) rfl rfl (by first | assumption | exact upd_eq _ _ _ | (refine (upd_ne _ _ (by omega)).trans ?_; first | assumption | exact upd_eq _ _ _ | (refine (upd_ne _ _ (by omega)).trans ?_; first | assumption | exact upd_eq _ _ _ | (refine (upd_ne _ _ (by omega)).trans ?_; first | assumption | exact upd_eq _ _ _)))) (by exact rfl) (rfl) (by omega) (by omega) (fun hx9 => ?_) (fun q9 hx9 => ?_)
          · refine Gq_non_n (pc' := 59) (t := 63) rfl rfl rfl ?_
            refine Gq_s (pc' := 60) rfl rfl rfl ?_
            refine Gq_goto rfl (t := 64) rfl ?_
            exact key2 2
          · refine Gq_non_r rfl (t := 63) rfl ?_
            refine Gq_s (pc' := 64) rfl rfl rfl ?_
            exact key2 1
        refine Gq_zeq (pc' := 31) (t := 36) rfl rfl rfl (by omega) (fun hf => ?_) (fun hf => ?_)
        · refine Gq_s (pc' := 38) rfl rfl rfl ?_
          exact key left hlt (by omega) (fun _ h => h)
        · refine Gq_s (pc' := 33) rfl rfl rfl ?_
          refine Gq_goto rfl (t := 38) rfl ?_
          exact key free hfl (by omega) hfs
    · refine Gq_s (pc' := 8) rfl rfl rfl ?_
      refine Gq_bipush (pc' := 10) rfl rfl (by decide) ?_
      refine Gq_cge (pc' := 13) (t := 87) rfl rfl rfl (by omega) (by omega) (fun hq => absurd hq (by omega)) (fun _ => ?_)
      refine Gq_s (pc' := 15) rfl rfl rfl ?_
      refine Gq_zeq (pc' := 18) (t := 87) rfl rfl rfl (by omega) (fun hz => ?_) (fun hz => ?_)
      · exact Gq_ret rfl rfl (rfl) (⟨rfl, rfl, fun _ _ _ _ _ => rfl, sl, hP, hR, fun p => ⟨.inl, fun h => h.elim id (fun h => absurd h (by rw [show left = 0 by omega, Nat.zero_testBit]; exact fun q => nomatch q))⟩⟩)
      · refine Gq_s (pc' := 20) rfl rfl rfl ?_
        refine Gq_s (pc' := 21) rfl rfl rfl ?_
        refine Gq_calls (pc' := 24) (Y := xm102) (rest := []) (ce' := 0) (sl' := 0) rfl rfl rfl rfl rfl rfl rfl rfl rfl rfl (t_nn n hL ho hlt hvs L0 L1 L2) (fun v' H' n' hv => ?_)
        obtain ⟨rfl, rfl, free, rfl, hfl, hfs⟩ := hv
        refine Gq_s (pc' := 26) (lv' := [(0, _), (1, _), (2, _), (3, _), (4, _), (5, _), (6, _), (7, _)]) rfl rfl rfl ?_
        refine Gq_s (pc' := 28) rfl rfl rfl ?_
        have key : ∀ x : Nat, x < 4096 → ¬ x = 0 → (∀ i, x.testBit i = true → left.testBit i = true) → Gw S xm101 38 [(0, .ref 111), (1, .ref 93), (2, .ref 90), (3, .int z0), (4, .int (zI (left : Int))), (5, .int (zI (turn : Int))), (6, .int (zI (free : Int))), (7, b)] [.int (zI (x : Int))] H' n' 0 0 (MQe xm101 (fun v G m => v = none ∧ m = n' ∧ (∀ o, ¬ o = 111 → ¬ o = 112 → ¬ o = 113 → ¬ o = 114 → G o = H' o) ∧ ∃ sl2, PlS G th sl2 0 dk ∧ RwOK sl2 ∧ ∀ p, p ∈ sl2 ↔ p ∈ sl ∨ left.testBit p = true)) := by
          intro x hx hx0 hsub
          obtain ⟨p, hs, hp, hpx⟩ := smal_z hx hx0
          have hpl := hsub p hpx
          have hR2 : RwOK (sl ++ [p]) := by
            have := addR_ok hR hp
            unfold addR at this
            rwa [if_neg (hdj p hpl)] at this
          have hl12 : sl.length < 12 := by
            have := pigeon 12 _ hR2.1 hR2.2
            rw [len_snoc] at this
            omega
          refine Gq_calls1 (pc' := 41) (Y := xm62) (rest := []) (st' := [_]) (ce' := 0) (sl' := 0) rfl rfl rfl rfl rfl rfl rfl rfl rfl rfl (t_smal (zI (x : Int))) rfl ?_
          rw [hs]
          refine Gq_s (pc' := 43) (lv' := [(0, _), (1, _), (2, _), (3, _), (4, _), (5, _), (6, _), (7, _)]) rfl rfl rfl ?_
          refine Gq_s (pc' := 44) rfl rfl rfl ?_
          refine Gq_s (pc' := 46) rfl rfl rfl ?_
          refine Gq_zlt (pc' := 49) (t := 63) rfl rfl rfl (by omega) (fun hq => absurd hq (by omega)) (fun _ => ?_)
          refine Gq_s (pc' := 50) rfl rfl rfl ?_
          refine Gq_get (pc' := 53) rfl rfl (by first | assumption | exact upd_eq _ _ _ | (refine (upd_ne _ _ (by omega)).trans ?_; first | assumption | exact upd_eq _ _ _ | (refine (upd_ne _ _ (by omega)).trans ?_; first | assumption | exact upd_eq _ _ _ | (refine (upd_ne _ _ (by omega)).trans ?_; first | assumption | exact upd_eq _ _ _)))) (by exact rfl) ?_
          refine Gq_s (pc' := 55) rfl rfl rfl ?_
          have key2 : ∀ z : Int, Gw S xm101 64 [(0, .ref 111), (1, .ref 93), (2, .ref 90), (3, .int z0), (4, .int (zI (left : Int))), (5, .int (zI (turn : Int))), (6, .int (zI (free : Int))), (7, .int (zI (p : Int)))] [.int (zI z), .ref 111] H' n' 0 0 (MQe xm101 (fun v G m => v = none ∧ m = n' ∧ (∀ o, ¬ o = 111 → ¬ o = 112 → ¬ o = 113 → ¬ o = 114 → G o = H' o) ∧ ∃ sl2, PlS G th sl2 0 dk ∧ RwOK sl2 ∧ ∀ p, p ∈ sl2 ↔ p ∈ sl ∨ left.testBit p = true)) := by
            intro z
            refine Gq_s (pc' := 66) rfl rfl rfl ?_
            refine Gq_s (pc' := 67) rfl rfl rfl ?_
            refine Gq_callv (pc' := 70) (Y := xm103) (rest := []) (ce' := 0) (sl' := 0) rfl rfl rfl rfl rfl rfl rfl rfl rfl (t_addStep _ hD hvs D0 D1 hP hp hl12) (by obtain ⟨kd, pp, pb, hpl9, -⟩ := id hP; exact hpl9.1) (fun v2 H2 n2 hv => ?_)
            obtain ⟨rfl, rfl, g1, g2⟩ := hv
            refine Gq_s (pc' := 72) rfl rfl rfl ?_
            refine Gq_s (pc' := 73) rfl rfl rfl ?_
            refine Gq_s (pc' := 75) rfl rfl rfl ?_
            refine Gq_ishl (pc' := 76) (zI ((2 ^ p : Nat) : Int)) rfl rfl (z_shl _ hp) ?_
            refine Gq_s (pc' := 77) rfl rfl rfl ?_
            refine Gq_ixor (pc' := 78) (_) rfl rfl (rfl) ?_
            refine Gq_iand (pc' := 79) (zI ((andn left (2 ^ p) : Nat) : Int)) rfl rfl (z_andn _ _) ?_
            refine Gq_s (pc' := 81) (lv' := [(0, _), (1, _), (2, _), (3, _), (4, _), (5, _), (6, _), (7, _)]) rfl rfl rfl ?_
            refine Gq_iinc (pc' := 84) (lv' := [(0, _), (1, _), (2, _), (3, _), (4, _), (5, _), (6, _), (7, _)]) rfl rfl rfl rfl ?_
            refine Gq_goto rfl (t := 6) rfl ?_
            have hnb2 := nb_rm hp hpl
            have hlt2 : andn left (2 ^ p) < 4096 := andn_lt hlt
            have hh : Hi H' H2 := fun o ho => g2 o (by omega) (by omega) (by omega) (by omega)
            have hbit : ∀ q, (andn left (2 ^ p)).testBit q = true ↔ left.testBit q = true ∧ ¬ q = p := fun q => by
              rw [andn_bit, Nat.testBit_two_pow, Bool.and_eq_true, Bool.not_eq_true', decide_eq_false_iff_not]
              exact ⟨fun h => ⟨h.1, fun e => h.2 e.symm⟩, fun h => ⟨h.1, fun e => h.2 e.symm⟩⟩
            have hdj2 : ∀ q, (andn left (2 ^ p)).testBit q = true → ¬ q ∈ sl ++ [p] := fun q hq hm => by
              obtain ⟨b1, b2⟩ := (hbit q).mp hq
              rcases List.mem_append.mp hm with hm | hm
              · exact hdj q b1 hm
              · exact b2 (List.mem_singleton.mp hm)
            refine Gq_mq (ih (turn + 1) H2 _ (sl ++ [p]) _ (by omega) (.inr ⟨_, _, rfl⟩) hlt2 (by omega) (VS_hi hh hvs) ((g2 93 (by omega) (by omega) (by omega) (by omega)).trans D0) ((g2 94 (by omega) (by omega) (by omega) (by omega)).trans D1) ((g2 90 (by omega) (by omega) (by omega) (by omega)).trans L0) ((g2 91 (by omega) (by omega) (by omega) (by omega)).trans L1) ((g2 92 (by omega) (by omega) (by omega) (by omega)).trans L2) g1 hR2 hdj2) ?_
            rintro v G m ⟨a1, a2, a3, sl3, a4, a5, a6⟩
            refine ⟨a1, a2, fun o h1 h2 h3 h4 => (a3 o h1 h2 h3 h4).trans (g2 o h1 h2 h3 h4), sl3, a4, a5, fun q => ?_⟩
            rw [a6 q, hbit q, List.mem_append, List.mem_singleton]
            constructor
            · rintro ((h | h) | h)
              · exact .inl h
              · exact .inr (h ▸ hpl)
              · exact .inr h.1
            · rintro (h | h)
              · exact .inl (.inl h)
              · by_cases e : q = p
                · exact .inl (.inr e)
                · exact .inr ⟨h, e⟩
          refine Gq_aalx (pc' := 56) rfl rfl (by first | assumption | exact upd_eq _ _ _ | (refine (upd_ne _ _ (by omega)).trans ?_; first | assumption | exact upd_eq _ _ _ | (refine (upd_ne _ _ (by omega)).trans ?_; first | assumption | exact upd_eq _ _ _ | (refine (upd_ne _ _ (by omega)).trans ?_; first | assumption | exact upd_eq _ _ _)))) (by exact rfl) (rfl) (by omega) (by omega) (fun hx9 => ?_) (fun q9 hx9 => ?_)
          · refine Gq_non_n (pc' := 59) (t := 63) rfl rfl rfl ?_
            refine Gq_s (pc' := 60) rfl rfl rfl ?_
            refine Gq_goto rfl (t := 64) rfl ?_
            exact key2 2
          · refine Gq_non_r rfl (t := 63) rfl ?_
            refine Gq_s (pc' := 64) rfl rfl rfl ?_
            exact key2 1
        refine Gq_zeq (pc' := 31) (t := 36) rfl rfl rfl (by omega) (fun hf => ?_) (fun hf => ?_)
        · refine Gq_s (pc' := 38) rfl rfl rfl ?_
          exact key left hlt (by omega) (fun _ h => h)
        · refine Gq_s (pc' := 33) rfl rfl rfl ?_
          refine Gq_goto rfl (t := 38) rfl ?_
          exact key free hfl (by omega) hfs
theorem t_putAll {S : ScT} {H : HF} (n : Nat) {th : Bool} {left : Nat} {sl : List Nat} {vr : Nat → VR} {V : Nat → Prop} {dk lk : Nat → Option Nat} (hD : ChV V dk) (hL : ChV V lk) {on : Nat → Nat} (ho : o16 on) (hlt : left < 4096) (hvs : VsA H vr V) (D0 : H 93 = some (false, 2, [.ref 94, .ref 95])) (D1 : H 94 = some (true, 3, aR 12 dk)) (L0 : H 90 = some (false, 2, [.ref 91, .ref 92])) (L1 : H 91 = some (true, 3, aR 12 lk)) (L2 : H 92 = some (true, 0, aNt 12 on)) (hP : PlS H th sl 0 dk) (hR : RwOK sl) (hdj : ∀ p, left.testBit p = true → ¬ p ∈ sl) : Rmt S 101 [.ref 111, .ref 93, .ref 90, .int (zI (left : Int))] H n (fun v G m => v = none ∧ m = n ∧ (∀ o, ¬ o = 111 → ¬ o = 112 → ¬ o = 113 → ¬ o = 114 → G o = H o) ∧ ∃ sl2, PlS G th sl2 0 dk ∧ RwOK sl2 ∧ ∀ p, p ∈ sl2 ↔ p ∈ sl ∨ left.testBit p = true) := by
  refine Rm_of (M := xm101) (lv := [(0, _), (1, _), (2, _), (3, _)]) rfl rfl rfl ?_
  refine Gq_s (pc' := 1) rfl rfl rfl ?_
  refine Gq_s (pc' := 3) (lv' := [(0, _), (1, _), (2, _), (3, _), (4, _)]) rfl rfl rfl ?_
  refine Gq_s (pc' := 4) rfl rfl rfl ?_
  refine Gq_s (pc' := 6) (lv' := [(0, _), (1, _), (2, _), (3, _), (4, _), (5, _)]) rfl rfl rfl ?_
  exact t_putAll_l hD hL ho 12 0 H left sl _ rfl (.inl rfl) hlt (cntTo_le _ 12) hvs D0 D1 L0 L1 L2 hP hR hdj
end XKf
