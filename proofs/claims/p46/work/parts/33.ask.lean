/-! what chains are (printed by wip/p46/gen33.py) -/
section XKd
def ql (s : CS) : List Nat := (List.range s.2.2.2).map s.2.2.1
def CInv (ch : Nat → Option Nat) (Wd : Nat → Prop) (s : CS) : Prop := (∀ p, 0 < s.1 p → p < 12 ∧ ¬ ch p = none) ∧ RwOK (ql s) ∧ (∀ p, p ∈ ql s ↔ 0 < s.1 p) ∧ ∀ p, 0 < s.1 p → (s.1 p = 1 ∧ Wd p) ∨ ∃ q : Nat, s.2.1 p = (q : Int) ∧ 0 < s.1 q ∧ s.1 p = s.1 q + 1
def LOK (Wd : Nat → Prop) (mk : Nat) (f : Int) (L : Nat) (s : CS) : Prop := (L = 1 ∧ ∀ p, mk.testBit p = true → Wd p) ∨ ∃ q : Nat, f = (q : Int) ∧ 0 < s.1 q ∧ L = s.1 q + 1
def CMon (s t : CS) : Prop := (∀ p, 0 < s.1 p → t.1 p = s.1 p) ∧ s.2.2.2 ≤ t.2.2.2 ∧ ∀ j, j < s.2.2.2 → t.2.2.1 j = s.2.2.1 j
theorem CMon_refl (s : CS) : CMon s s := ⟨fun _ _ => rfl, Nat.le_refl _, fun _ _ => rfl⟩
theorem CMon_trans {s t u : CS} (h1 : CMon s t) (h2 : CMon t u) : CMon s u := ⟨fun p hp => by rw [h2.1 p (by rw [h1.1 p hp]; exact hp), h1.1 p hp], Nat.le_trans h1.2.1 h2.2.1, fun j hj => by rw [h2.2.2 j (Nat.lt_of_lt_of_le hj h1.2.1), h1.2.2 j hj]⟩
theorem LOK_mon {Wd : Nat → Prop} {mk L : Nat} {f : Int} {s t : CS} (h : LOK Wd mk f L s) (hm : CMon s t) : LOK Wd mk f L t := by
  rcases h with h | ⟨q, h1, h2, h3⟩
  · exact .inl h
  · exact .inr ⟨q, h1, by rw [hm.1 q h2]; exact h2, by rw [hm.1 q h2]; exact h3⟩
theorem ql_snoc {s : CS} {p : Nat} (g : Nat → Nat) (h : Nat → Int) : ql (g, h, fset s.2.2.1 s.2.2.2 p, s.2.2.2 + 1) = ql s ++ [p] := by
  show (List.range (s.2.2.2 + 1)).map (fset s.2.2.1 s.2.2.2 p) = (List.range s.2.2.2).map s.2.2.1 ++ [p]
  rw [List.range_succ, List.map_append]
  congr 1
  · exact List.map_congr_left fun j hj => fset_ne _ _ (by have := List.mem_range.mp hj; omega)
  · show [fset s.2.2.1 s.2.2.2 p s.2.2.2] = [p]
    rw [fset_eq]
theorem ql_len (s : CS) : (ql s).length = s.2.2.2 := by unfold ql; rw [List.length_map, List.length_range]
section
variable {ch : Nat → Option Nat} {Wd : Nat → Prop} {mk L : Nat} {f : Int}
theorem lk1_mon {p : Nat} {s : CS} : CMon s (lk1 ch mk f L p s) := by
  unfold lk1
  split
  · rename_i hc
    refine ⟨fun q hq => ?_, by show s.2.2.2 ≤ s.2.2.2 + 1; omega, fun j hj => ?_⟩
    · show fset s.1 p L q = s.1 q
      rw [fset_ne]
      intro e
      subst e
      omega
    · show fset s.2.2.1 s.2.2.2 p j = s.2.2.1 j
      rw [fset_ne _ _ (by omega)]
  · exact CMon_refl s
theorem lkR_mon : ∀ (k j : Nat) (s : CS), CMon s (lkR ch mk f L k j s)
  | 0, _, s => CMon_refl s
  | k + 1, j, s => CMon_trans lk1_mon (lkR_mon k (j + 1) _)
theorem lk1_inv {p : Nat} {s : CS} (h : CInv ch Wd s) (hl : LOK Wd mk f L s) (hp : p < 12) : CInv ch Wd (lk1 ch mk f L p s) := by
  obtain ⟨h1, h2, h3, h4⟩ := id h
  unfold lk1
  split
  · rename_i hc
    obtain ⟨c1, c2, c3, c4⟩ := hc
    have hL : 0 < L := by rcases hl with h | ⟨q, _, _, h⟩ <;> omega
    have hnp : ¬ p ∈ ql s := fun q => by have := (h3 p).mp q; omega
    have hlen : ∀ q, fset s.1 p L q = if q = p then L else s.1 q := fun q => rfl
    refine ⟨fun q hq => ?_, ?_, fun q => ?_, fun q hq => ?_⟩
    · have hq : 0 < fset s.1 p L q := hq
      by_cases e : q = p
      · subst e; exact ⟨hp, c2⟩
      · rw [fset_ne _ _ e] at hq; exact h1 q hq
    · rw [ql_snoc]
      have := addR_ok h2 hp
      unfold addR at this
      rwa [if_neg hnp] at this
    · rw [ql_snoc]
      show q ∈ ql s ++ [p] ↔ 0 < fset s.1 p L q
      by_cases e : q = p
      · subst e
        rw [fset_eq]
        exact ⟨fun _ => hL, fun _ => List.mem_append.mpr (.inr (List.mem_singleton.mpr rfl))⟩
      · rw [fset_ne _ _ e, ← h3 q]
        exact ⟨fun h => (List.mem_append.mp h).elim id (fun h => absurd (List.mem_singleton.mp h) e), fun h => List.mem_append.mpr (.inl h)⟩
    · have hq : 0 < fset s.1 p L q := hq
      show (fset s.1 p L q = 1 ∧ Wd q) ∨ ∃ r : Nat, fset s.2.1 p f q = (r : Int) ∧ 0 < fset s.1 p L r ∧ fset s.1 p L q = fset s.1 p L r + 1
      have hne : ∀ r, 0 < s.1 r → fset s.1 p L r = s.1 r := fun r hr => fset_ne _ _ (fun e => by subst e; omega)
      by_cases e : q = p
      · subst e
        rw [fset_eq, fset_eq]
        rcases hl with ⟨l1, l2⟩ | ⟨r, l1, l2, l3⟩
        · exact .inl ⟨l1, l2 q c1⟩
        · exact .inr ⟨r, l1, by rw [hne r l2]; exact l2, by rw [hne r l2]; exact l3⟩
      · rw [fset_ne _ _ e] at hq
        rw [fset_ne _ _ e, fset_ne _ _ e]
        rcases h4 q hq with h | ⟨r, a, b, c⟩
        · exact .inl h
        · exact .inr ⟨r, a, by rw [hne r b]; exact b, by rw [hne r b]; exact c⟩
  · exact h
theorem lkR_inv : ∀ (k j : Nat) (s : CS), j + k ≤ 12 → CInv ch Wd s → LOK Wd mk f L s → CInv ch Wd (lkR ch mk f L k j s)
  | 0, _, _, _, h, _ => h
  | k + 1, j, s, hj, h, hl => lkR_inv k (j + 1) _ (by omega) (lk1_inv h hl (by omega)) (LOK_mon hl lk1_mon)
theorem lk1_cov {p : Nat} {s : CS} (h : CInv ch Wd s) (hL : 0 < L) (hp : p < 12) (hm : mk.testBit p = true) (hc : ¬ ch p = none) : 0 < (lk1 ch mk f L p s).1 p := by
  unfold lk1
  by_cases e : s.1 p = 0
  · have hk : s.2.2.2 < 12 := by
      have hnp : ¬ p ∈ ql s := fun q => by have := (h.2.2.1 p).mp q; omega
      have h9 := addR_ok h.2.1 hp
      unfold addR at h9
      rw [if_neg hnp] at h9
      have := pigeon 12 _ h9.1 h9.2
      rw [len_snoc, ql_len] at this
      omega
    rw [if_pos ⟨hm, hc, e, hk⟩]
    show 0 < fset s.1 p L p
    rw [fset_eq]
    exact hL
  · split
    · show 0 < fset s.1 p L p
      rw [fset_eq]
      exact hL
    · omega
theorem lkR_cov (hL : 0 < L) : ∀ (k j : Nat) (s : CS), j + k ≤ 12 → CInv ch Wd s → LOK Wd mk f L s → ∀ p, j ≤ p → p < j + k → mk.testBit p = true → ¬ ch p = none → 0 < (lkR ch mk f L k j s).1 p
  | 0, j, _, _, _, _, p, h1, h2, _, _ => absurd h2 (by omega)
  | k + 1, j, s, hj, h, hl, p, h1, h2, hm, hc => by
    by_cases e : p = j
    · subst e
      have h9 := lk1_cov (f := f) h hL (by omega) hm hc
      show 0 < (lkR ch mk f L k (p + 1) (lk1 ch mk f L p s)).1 p
      rw [(lkR_mon k (p + 1) _).1 p h9]
      exact h9
    · exact lkR_cov hL k (j + 1) _ (by omega) (lk1_inv h hl (by omega)) (LOK_mon hl lk1_mon) p (by omega) (by omega) hm hc
end
def Cov (vr : Nat → VR) (ch : Nat → Option Nat) (on : Nat → Nat) (i : Nat) (s : CS) : Prop := ∀ j, j < i → j < s.2.2.2 → ∀ p, p < 12 → (nMask vr ch on (s.2.2.1 j)).testBit p = true → ¬ ch p = none → 0 < s.1 p
theorem layR_inv {vr : Nat → VR} {ch : Nat → Option Nat} {on : Nat → Nat} {Wd : Nat → Prop} : ∀ (k i : Nat) (s : CS), i + k = 12 → CInv ch Wd s → Cov vr ch on i s → CInv ch Wd (layR vr ch on k i s) ∧ CMon s (layR vr ch on k i s) ∧ Cov vr ch on 12 (layR vr ch on k i s)
  | 0, i, s, hi, h, hc => ⟨h, CMon_refl s, by obtain rfl : i = 12 := by omega
                                              exact hc⟩
  | k + 1, i, s, hi, h, hc => by
    unfold layR
    split
    · rename_i hk
      have hq : s.2.2.1 i ∈ ql s := List.mem_map.mpr ⟨i, List.mem_range.mpr hk, rfl⟩
      have hql := (h.2.2.1 _).mp hq
      have hl : LOK Wd (nMask vr ch on (s.2.2.1 i)) (s.2.2.1 i : Int) (s.1 (s.2.2.1 i) + 1) s := .inr ⟨_, rfl, hql, rfl⟩
      have hm := lkR_mon (ch := ch) (mk := nMask vr ch on (s.2.2.1 i)) (f := (s.2.2.1 i : Int)) (L := s.1 (s.2.2.1 i) + 1) 12 0 s
      obtain ⟨a, b, c⟩ := layR_inv k (i + 1) _ (by omega) (lkR_inv 12 0 s (by omega) h hl) (fun j hj hjk p hp hb hx => by
        by_cases e : j = i
        · subst e
          rw [hm.2.2 j hk] at hb
          exact lkR_cov (by omega) 12 0 s (by omega) h hl p (by omega) (by omega) hb hx
        · rw [hm.2.2 j (by omega)] at hb
          have h9 := hc j (by omega) (by omega) p hp hb hx
          rw [hm.1 p h9]
          exact h9)
      exact ⟨a, CMon_trans hm b, c⟩
    · rename_i hk
      exact ⟨h, CMon_refl s, fun j hj hjk => hc j (by omega) hjk⟩
theorem nm_bit {f q : Nat} : ∀ {l : List CR} {m : Nat}, (l.foldl (nm1 f) m).testBit q = true ↔ m.testBit q = true ∨ ∃ c ∈ l, cCnt c f = true ∧ cT c = q
  | [], m => ⟨fun h => .inl h, fun h => h.elim id (fun ⟨c, hc, _⟩ => by cases hc)⟩
  | a :: t, m => by
    rw [List.foldl_cons, nm_bit (l := t)]
    have e : (nm1 f m a).testBit q = true ↔ m.testBit q = true ∨ (cCnt a f = true ∧ cT a = q) := by
      unfold nm1
      split
      · rename_i hc
        rw [Nat.testBit_or, Nat.testBit_two_pow, Bool.or_eq_true, decide_eq_true_eq]
        exact ⟨fun h => h.elim .inl (fun h => .inr ⟨hc, h⟩), fun h => h.elim .inl (fun h => .inr h.2)⟩
      · rename_i hc
        exact ⟨.inl, fun h => h.elim id (fun h => absurd h.1 hc)⟩
    rw [e]
    constructor
    · rintro ((h | h) | ⟨c, h1, h2⟩)
      · exact .inl h
      · exact .inr ⟨a, List.mem_cons_self, h⟩
      · exact .inr ⟨c, List.mem_cons_of_mem _ h1, h2⟩
    · rintro (h | ⟨c, h1, h2⟩)
      · exact .inl (.inl h)
      · rcases List.mem_cons.mp h1 with rfl | h1
        · exact .inl (.inr h2)
        · exact .inr ⟨c, h1, h2⟩
theorem wm_bit {q : Nat} : ∀ {l : List CR} {m : Nat}, (l.foldl wm1 m).testBit q = true ↔ m.testBit q = true ∨ ∃ c ∈ l, cT c = q
  | [], m => ⟨fun h => .inl h, fun h => h.elim id (fun ⟨c, hc, _⟩ => by cases hc)⟩
  | a :: t, m => by
    rw [List.foldl_cons, wm_bit (l := t)]
    have e : (wm1 m a).testBit q = true ↔ m.testBit q = true ∨ cT a = q := by
      unfold wm1
      rw [Nat.testBit_or, Nat.testBit_two_pow, Bool.or_eq_true, decide_eq_true_eq]
    rw [e]
    constructor
    · rintro ((h | h) | ⟨c, h1, h2⟩)
      · exact .inl h
      · exact .inr ⟨a, List.mem_cons_self, h⟩
      · exact .inr ⟨c, List.mem_cons_of_mem _ h1, h2⟩
    · rintro (h | ⟨c, h1, h2⟩)
      · exact .inl (.inl h)
      · rcases List.mem_cons.mp h1 with rfl | h1
        · exact .inl (.inr h2)
        · exact .inr ⟨c, h1, h2⟩
def Wsd (wl : List CR) (p : Nat) : Prop := ∃ c ∈ wl, cT c = p
theorem wMask_bit {wl : List CR} {p : Nat} : (wMask wl).testBit p = true ↔ Wsd wl p := by
  show (wl.foldl wm1 0).testBit p = true ↔ _
  rw [wm_bit, Nat.zero_testBit]
  exact ⟨fun h => h.elim (fun h => by cases h) id, .inr⟩
section
variable {vr : Nat → VR} {ch : Nat → Option Nat} {on : Nat → Nat} {wl : List CR}
theorem chF_all (hw : ∀ c ∈ wl, cOK c) : CInv ch (Wsd wl) (chF vr ch on wl) ∧ (∀ p, Wsd wl p → ¬ ch p = none → 0 < (chF vr ch on wl).1 p) ∧ Cov vr ch on 12 (chF vr ch on wl) := by
  have h0 : CInv ch (Wsd wl) ((fun _ => 0, fun _ => -1, fun _ => 0, 0) : CS) := ⟨fun p hp => absurd hp (by show ¬ 0 < 0; omega), ⟨List.nodup_nil, fun q hq => by cases hq⟩, fun p => ⟨fun h => (by cases h), fun h => absurd h (by show ¬ 0 < 0; omega)⟩, fun p hp => absurd hp (by show ¬ 0 < 0; omega)⟩
  have hl : LOK (Wsd wl) (wMask wl) (-1) 1 ((fun _ => 0, fun _ => -1, fun _ => 0, 0) : CS) := .inl ⟨rfl, fun p hp => wMask_bit.mp hp⟩
  have h1 := lkR_inv 12 0 _ (by omega) h0 hl
  obtain ⟨a, b, c⟩ := layR_inv (vr := vr) (on := on) 12 0 _ rfl h1 (fun j hj => absurd hj (by omega))
  refine ⟨a, fun p hp hx => ?_, c⟩
  obtain ⟨d, hd, rfl⟩ := hp
  have h9 := lkR_cov (by omega) 12 0 _ (by omega) h0 hl (cT d) (by omega) (by have := (hw d hd).1; omega) (wMask_bit.mpr ⟨d, hd, rfl⟩) hx
  have h10 := b.1 _ h9
  show 0 < (layR vr ch on 12 0 _).1 (cT d)
  rw [h10]
  exact h9
/-- whoever is reached and chosen has a chain -/
theorem chF_full (hw : ∀ c ∈ wl, cOK c) (hN : NOK vr ch) {p : Nat} (h : Rch vr ch on wl p) : ch p = none ∨ 0 < (chF vr ch on wl).1 p := by
  obtain ⟨a, b, c⟩ := chF_all (vr := vr) (ch := ch) (on := on) hw
  refine h (fun p => ch p = none ∨ 0 < (chF vr ch on wl).1 p) (fun d hd => ?_) (fun q o d hq ho hd hn => ?_)
  · by_cases e : ch (cT d) = none
    · exact .inl e
    · exact .inr (b _ ⟨d, hd, rfl⟩ e)
  · by_cases e : ch (cT d) = none
    · exact .inl e
    · rcases hq with hq | hq
      · rw [ho] at hq; cases hq
      · have hq12 := (a.1 q hq).1
        obtain ⟨j, hj, hjq⟩ := List.mem_map.mp ((a.2.2.1 q).mpr hq)
        have hj := List.mem_range.mp hj
        have hk12 := pigeon 12 _ a.2.1.1 a.2.1.2
        rw [ql_len] at hk12
        refine .inr (c j (by omega) hj (cT d) (hN q o hq12 ho d hd).1 ?_ e)
        rw [hjq]
        unfold nMask
        rw [ho]
        exact nm_bit.mpr (.inr ⟨d, hd, hn, rfl⟩)
end
/-- so many steps ahead -/
def bk (ah : Nat → Int) : Nat → Nat → Nat
  | 0, p => p
  | k + 1, p => bk ah k (ah p).toNat
def lkAt (t : CS) (p pl : Nat) : Int := if pl < t.1 p then (bk t.2.1 (t.1 p - 1 - pl) p : Int) else -1
theorem bk_len {ch : Nat → Option Nat} {Wd : Nat → Prop} {s : CS} (h : CInv ch Wd s) : ∀ (k p pl : Nat), s.1 p = pl + 1 + k → s.1 (bk s.2.1 k p) = pl + 1
  | 0, p, pl, hp => hp
  | k + 1, p, pl, hp => by
    rcases h.2.2.2 p (by omega) with ⟨e, -⟩ | ⟨q, e1, e2, e3⟩
    · omega
    · show s.1 (bk s.2.1 k (s.2.1 p).toNat) = pl + 1
      rw [e1]
      exact bk_len h k q pl (by omega)
theorem t_la_l {S : ScT} {H : HF} {n p0 pl : Nat} {ch : Nat → Option Nat} {Wd : Nat → Prop} {s t : CS} (hP : CsP H s) (hE : CsE s t) (hI : CInv ch Wd t) (hB : ∀ p, t.1 p ≤ 100) : ∀ (k p : Nat), t.1 p = pl + 1 + k → Gw S xm72 24 [(0, .ref 107), (1, .int (zI (p0 : Int))), (2, .int (zI (pl : Int))), (3, .int (zI (p : Int))), (4, .int (zI ((pl + k : Nat) : Int)))] [] H n 0 0 (MQe xm72 (fun v G m => v = some (.int (zI (bk t.2.1 k p : Int))) ∧ G = H ∧ m = n)) := by
  obtain ⟨c0, c1, c2, c3⟩ := hP
  intro k
  induction k with
  | zero =>
    intro p hp
    have hb := hB p
    refine Gq_s (pc' := 26) rfl rfl rfl ?_
    refine Gq_s (pc' := 27) rfl rfl rfl ?_
    refine Gq_cle (pc' := 30) (t := 48) rfl rfl rfl (by omega) (by omega) (fun _ => ?_) (fun hq => absurd (by omega) hq)
    refine Gq_s (pc' := 49) rfl rfl rfl ?_
    exact Gq_ret rfl rfl (rfl) (⟨rfl, rfl, rfl⟩)
  | succ k ih =>
    intro p hp
    have hb := hB p
    have hp12 := (hI.1 p (by omega)).1
    obtain ⟨q, e1, e2, e3⟩ : ∃ q : Nat, t.2.1 p = (q : Int) ∧ 0 < t.1 q ∧ t.1 p = t.1 q + 1 := by
      rcases hI.2.2.2 p (by omega) with ⟨e, -⟩ | h
      · omega
      · exact h
    have e4 : s.2.1 p = (q : Int) := (hE.2.2.1 p (by rw [hE.1]; omega)).trans e1
    refine Gq_s (pc' := 26) rfl rfl rfl ?_
    refine Gq_s (pc' := 27) rfl rfl rfl ?_
    refine Gq_cle (pc' := 30) (t := 48) rfl rfl rfl (by omega) (by omega) (fun hq => absurd hq (by omega)) (fun _ => ?_)
    refine Gq_s (pc' := 31) rfl rfl rfl ?_
    refine Gq_s (pc' := 32) rfl rfl rfl ?_
    refine Gq_ceq (pc' := 35) (t := 48) rfl rfl rfl (by omega) (by omega) (fun hq => absurd hq (by omega)) (fun _ => ?_)
    refine Gq_s (pc' := 36) rfl rfl rfl ?_
    refine Gq_get (pc' := 39) rfl rfl (by first | assumption | exact upd_eq _ _ _ | (refine (upd_ne _ _ (by omega)).trans ?_; first | assumption | exact upd_eq _ _ _ | (refine (upd_ne _ _ (by omega)).trans ?_; first | assumption | exact upd_eq _ _ _ | (refine (upd_ne _ _ (by omega)).trans ?_; first | assumption | exact upd_eq _ _ _)))) (by exact rfl) ?_
    refine Gq_s (pc' := 40) rfl rfl rfl ?_
    refine Gq_iald (pc' := 41) rfl rfl (by first | assumption | exact upd_eq _ _ _ | (refine (upd_ne _ _ (by omega)).trans ?_; first | assumption | exact upd_eq _ _ _ | (refine (upd_ne _ _ (by omega)).trans ?_; first | assumption | exact upd_eq _ _ _ | (refine (upd_ne _ _ (by omega)).trans ?_; first | assumption | exact upd_eq _ _ _)))) (rfl) (by omega) (by omega) ?_
    rw [e4]
    refine Gq_s (pc' := 42) (lv' := [(0, _), (1, _), (2, _), (3, _), (4, _)]) rfl rfl rfl ?_
    refine Gq_iinc (pc' := 45) (lv' := [(0, _), (1, _), (2, _), (3, _), (4, _)]) rfl rfl rfl rfl ?_
    refine Gq_goto rfl (t := 24) rfl ?_
    have e5 : ((pl + (k + 1) : Nat) : Int) + -1 = ((pl + k : Nat) : Int) := by omega
    have e6 : bk t.2.1 (k + 1) p = bk t.2.1 k q := by
      show bk t.2.1 k (t.2.1 p).toNat = _
      rw [e1]
      rfl
    rw [e5, e6]
    exact ih q (by omega)
theorem t_linkAt {S : ScT} {H : HF} (n : Nat) {p pl : Nat} {ch : Nat → Option Nat} {Wd : Nat → Prop} {s t : CS} (hP : CsP H s) (hE : CsE s t) (hI : CInv ch Wd t) (hB : ∀ p, t.1 p ≤ 100) (hp : p < 12) (hpl : pl < 1000) : Rdt S 72 [.ref 107, .int (zI (p : Int)), .int (zI (pl : Int))] H n (some (.int (zI (lkAt t p pl)))) H n := by
  refine Rm_of (M := xm72) (lv := [(0, _), (1, _), (2, _)]) rfl rfl rfl ?_
  obtain ⟨c0, c1, c2, c3⟩ := id hP
  have hb := hB p
  have hs : s.1 p = t.1 p := by rw [hE.1]
  refine Gq_s (pc' := 1) rfl rfl rfl ?_
  refine Gq_s (pc' := 2) rfl rfl rfl ?_
  refine Gq_get (pc' := 5) rfl rfl (by first | assumption | exact upd_eq _ _ _ | (refine (upd_ne _ _ (by omega)).trans ?_; first | assumption | exact upd_eq _ _ _ | (refine (upd_ne _ _ (by omega)).trans ?_; first | assumption | exact upd_eq _ _ _ | (refine (upd_ne _ _ (by omega)).trans ?_; first | assumption | exact upd_eq _ _ _)))) (by exact rfl) ?_
  refine Gq_s (pc' := 6) rfl rfl rfl ?_
  refine Gq_iald (pc' := 7) rfl rfl (by first | assumption | exact upd_eq _ _ _ | (refine (upd_ne _ _ (by omega)).trans ?_; first | assumption | exact upd_eq _ _ _ | (refine (upd_ne _ _ (by omega)).trans ?_; first | assumption | exact upd_eq _ _ _ | (refine (upd_ne _ _ (by omega)).trans ?_; first | assumption | exact upd_eq _ _ _)))) (rfl) (by omega) (by omega) ?_
  rw [hs]
  refine Gq_clt (pc' := 10) (t := 12) rfl rfl rfl (by omega) (by omega) (fun hb2 => ?_) (fun hb2 => ?_)
  · refine Gq_s (pc' := 13) rfl rfl rfl ?_
    refine Gq_s (pc' := 14) (lv' := [(0, _), (1, _), (2, _), (3, _)]) rfl rfl rfl ?_
    refine Gq_s (pc' := 15) rfl rfl rfl ?_
    refine Gq_get (pc' := 18) rfl rfl (by first | assumption | exact upd_eq _ _ _ | (refine (upd_ne _ _ (by omega)).trans ?_; first | assumption | exact upd_eq _ _ _ | (refine (upd_ne _ _ (by omega)).trans ?_; first | assumption | exact upd_eq _ _ _ | (refine (upd_ne _ _ (by omega)).trans ?_; first | assumption | exact upd_eq _ _ _)))) (by exact rfl) ?_
    refine Gq_s (pc' := 19) rfl rfl rfl ?_
    refine Gq_iald (pc' := 20) rfl rfl (by first | assumption | exact upd_eq _ _ _ | (refine (upd_ne _ _ (by omega)).trans ?_; first | assumption | exact upd_eq _ _ _ | (refine (upd_ne _ _ (by omega)).trans ?_; first | assumption | exact upd_eq _ _ _ | (refine (upd_ne _ _ (by omega)).trans ?_; first | assumption | exact upd_eq _ _ _)))) (rfl) (by omega) (by omega) ?_
    rw [hs]
    refine Gq_s (pc' := 21) rfl rfl rfl ?_
    refine Gq_isub (pc' := 22) rfl rfl ?_
    refine Gq_s (pc' := 24) (lv' := [(0, _), (1, _), (2, _), (3, _), (4, _)]) rfl rfl rfl ?_
    have e : (t.1 p : Int) - 1 = ((pl + (t.1 p - 1 - pl) : Nat) : Int) := by omega
    rw [e]
    refine Gq_mq (t_la_l hP hE hI hB (t.1 p - 1 - pl) p (by omega)) ?_
    rintro v G m ⟨e1, e2, e3⟩
    exact ⟨by rw [e1, lkAt, if_pos (by omega)], e2, e3⟩
  · refine Gq_s (pc' := 11) rfl rfl rfl ?_
    exact Gq_ret rfl rfl (rfl) (⟨by rw [lkAt, if_neg (by omega)], rfl, rfl⟩)
/-- the chains of what is locked -/
def chL (vr : Nat → VR) (lk : Nat → Option Nat) (wl : List CR) : CS := chF vr lk (onF vr lk wl) wl
theorem chL_inv {vr : Nat → VR} {lk : Nat → Option Nat} {wl : List CR} (hw : ∀ c ∈ wl, cOK c) : CInv lk (Wsd wl) (chL vr lk wl) := (chF_all hw).1
theorem CsB_layR {vr : Nat → VR} {ch : Nat → Option Nat} {on : Nat → Nat} : ∀ (k i B : Nat) (s : CS), CsB B s → CsB (B + k) (layR vr ch on k i s)
  | 0, _, _, _, h => h
  | k + 1, i, B, s, h => by
    unfold layR
    split
    · have := CsB_layR (vr := vr) (ch := ch) (on := on) k (i + 1) (B + 1) _ (CsB_step (vr := vr) (ch := ch) (on := on) (i := i) h)
      rwa [show B + 1 + k = B + (k + 1) by omega] at this
    · exact CsB_le h (by omega)
theorem chL_b {vr : Nat → VR} {lk : Nat → Option Nat} {wl : List CR} (p : Nat) : (chL vr lk wl).1 p ≤ 13 := (CsB_layR 12 0 1 _ (CsB_lkR (by omega) 12 0 _ (by omega) ⟨fun p => by show 0 ≤ 1; omega, by show 0 ≤ 12; omega, fun j hj => absurd hj (by show ¬ j < 0; omega)⟩)).1 p
theorem t_layCh {S : ScT} {H : HF} (n : Nat) {P : Nat} {pid cnt : Nat → Nat} {vd gr : Nat → Nat → Nat} {vr : Nat → VR} {dr lt fc : Int} (hR : RG H P pid cnt vd gr vr) (h86 : H 86 = some (false, 7, pwF P dr lt fc)) {lk : Nat → Option Nat} (hL : ∀ q o, lk q = some o → Own P cnt vd q o) (L0 : H 90 = some (false, 2, [.ref 91, .ref 92])) (L1 : H 91 = some (true, 3, aR 12 lk)) {lo : Nat → Nat} (L2 : H 92 = some (true, 0, aNt 12 lo)) {wl : List CR} (hW : WiAt H 88 wl) (hS : ScC H) : Rmt S 56 [.ref 86] H n (fun v G m => v = none ∧ m = n ∧ G 92 = some (true, 0, aNt 12 (onF vr lk wl)) ∧ (∃ s, CsP G s ∧ CsE s (chL vr lk wl)) ∧ (∀ o, ¬ o = 92 → ¬ o = 107 → ¬ o = 108 → ¬ o = 109 → ¬ o = 110 → G o = H o)) := by
  refine Rm_of (M := xm56) (lv := [(0, _)]) rfl rfl rfl ?_
  have ho := onF_16 (NOK_of (RG_vs hR) (Own_ch hL)) (WiAt_ok hW)
  refine Gq_s (pc' := 1) rfl rfl rfl ?_
  refine Gq_get (pc' := 4) rfl rfl (by first | assumption | exact upd_eq _ _ _ | (refine (upd_ne _ _ (by omega)).trans ?_; first | assumption | exact upd_eq _ _ _ | (refine (upd_ne _ _ (by omega)).trans ?_; first | assumption | exact upd_eq _ _ _ | (refine (upd_ne _ _ (by omega)).trans ?_; first | assumption | exact upd_eq _ _ _)))) (by exact rfl) ?_
  refine Gq_s (pc' := 5) rfl rfl rfl ?_
  refine Gq_get (pc' := 8) rfl rfl (by first | assumption | exact upd_eq _ _ _ | (refine (upd_ne _ _ (by omega)).trans ?_; first | assumption | exact upd_eq _ _ _ | (refine (upd_ne _ _ (by omega)).trans ?_; first | assumption | exact upd_eq _ _ _ | (refine (upd_ne _ _ (by omega)).trans ?_; first | assumption | exact upd_eq _ _ _)))) (by exact rfl) ?_
  refine Gq_callv1 (pc' := 11) (Y := xm79) (rest := []) (st' := []) (ce' := 0) (sl' := 0) rfl rfl rfl rfl rfl rfl rfl rfl rfl (t_tof n (by omega) (Own_ch hL) (RG_vs hR) L0 L1 L2 (w := 88) (by omega) (by omega) hW) rfl (by first | assumption | exact upd_eq _ _ _ | (refine (upd_ne _ _ (by omega)).trans ?_; first | assumption | exact upd_eq _ _ _ | (refine (upd_ne _ _ (by omega)).trans ?_; first | assumption | exact upd_eq _ _ _ | (refine (upd_ne _ _ (by omega)).trans ?_; first | assumption | exact upd_eq _ _ _)))) ?_
  refine Gq_s (pc' := 12) rfl rfl rfl ?_
  refine Gq_get (pc' := 15) rfl rfl (by first | assumption | exact upd_eq _ _ _ | (refine (upd_ne _ _ (by omega)).trans ?_; first | assumption | exact upd_eq _ _ _ | (refine (upd_ne _ _ (by omega)).trans ?_; first | assumption | exact upd_eq _ _ _ | (refine (upd_ne _ _ (by omega)).trans ?_; first | assumption | exact upd_eq _ _ _)))) (by exact rfl) ?_
  refine Gq_s (pc' := 16) rfl rfl rfl ?_
  refine Gq_get (pc' := 19) rfl rfl (by first | assumption | exact upd_eq _ _ _ | (refine (upd_ne _ _ (by omega)).trans ?_; first | assumption | exact upd_eq _ _ _ | (refine (upd_ne _ _ (by omega)).trans ?_; first | assumption | exact upd_eq _ _ _ | (refine (upd_ne _ _ (by omega)).trans ?_; first | assumption | exact upd_eq _ _ _)))) (by exact rfl) ?_
  refine Gq_s (pc' := 20) rfl rfl rfl ?_
  refine Gq_get (pc' := 23) rfl rfl (by first | assumption | exact upd_eq _ _ _ | (refine (upd_ne _ _ (by omega)).trans ?_; first | assumption | exact upd_eq _ _ _ | (refine (upd_ne _ _ (by omega)).trans ?_; first | assumption | exact upd_eq _ _ _ | (refine (upd_ne _ _ (by omega)).trans ?_; first | assumption | exact upd_eq _ _ _)))) (by exact rfl) ?_
  have hS2 : ScC (hup H (90 + 2) (true, 0, aNt 12 (onF vr lk wl))) := by
    obtain ⟨k0, len, ah, qu, c0, c1, c2, c3⟩ := hS
    exact ⟨k0, len, ah, qu, by rw [upd_ne _ _ (by omega)]; exact c0, by rw [upd_ne _ _ (by omega)]; exact c1, by rw [upd_ne _ _ (by omega)]; exact c2, by rw [upd_ne _ _ (by omega)]; exact c3⟩
  have hS3 := hS2
  obtain ⟨k0, len, ah, qu, d0, -⟩ := hS3
  refine Gq_callv (pc' := 26) (Y := xm70) (rest := []) (ce' := 0) (sl' := 0) rfl rfl rfl rfl rfl rfl rfl rfl rfl (t_clay n (Own_ch hL) ho (VS_upd (by omega) (RG_vs hR)) (WiAt_upd (by omega) (by omega) (by omega) hW) hS2 (by rw [upd_ne _ _ (by omega)]; exact L0) (by rw [upd_ne _ _ (by omega)]; exact L1) (upd_eq _ _ _)) (by first | assumption | exact upd_eq _ _ _ | (refine (upd_ne _ _ (by omega)).trans ?_; first | assumption | exact upd_eq _ _ _ | (refine (upd_ne _ _ (by omega)).trans ?_; first | assumption | exact upd_eq _ _ _ | (refine (upd_ne _ _ (by omega)).trans ?_; first | assumption | exact upd_eq _ _ _)))) (fun v' H' n' hv => ?_)
  obtain ⟨rfl, rfl, g1, g2⟩ := hv
  exact Gq_ret rfl rfl (rfl) (⟨rfl, rfl, (g2 92 (by omega) (by omega) (by omega) (by omega)).trans (upd_eq _ _ _), g1, fun o h1 h2 h3 h4 h5 => (g2 o h2 h3 h4 h5).trans (upd_ne _ _ h1)⟩)
theorem t_idle_l {S : ScT} {H : HF} {n P : Nat} {dr lt fc : Int} (h86 : H 86 = some (false, 7, pwF P dr lt fc)) {lk : Nat → Option Nat} (L0 : H 90 = some (false, 2, [.ref 91, .ref 92])) (L1 : H 91 = some (true, 3, aR 12 lk)) {s t : CS} (hP : CsP H s) (hE : CsE s t) (hB : ∀ p, t.1 p ≤ 100) : ∀ (k j : Nat), j + k = 12 → Gw S xm17 8 [(0, .ref 86), (1, .int (zI (cntTo (fun p => decide (¬ lk p = none ∧ t.1 p = 0)) j : Int))), (2, .int (zI (j : Int)))] [] H n 0 0 (MQe xm17 (fun v G m => v = some (.int (zI (cntTo (fun p => decide (¬ lk p = none ∧ t.1 p = 0)) 12 : Int))) ∧ G = H ∧ m = n)) := by
  obtain ⟨c0, c1, c2, c3⟩ := hP
  intro k
  induction k with
  | zero =>
    intro j hj
    obtain rfl : j = 12 := by omega
    refine Gq_s (pc' := 9) rfl rfl rfl ?_
    refine Gq_bipush (pc' := 11) rfl rfl (by decide) ?_
    refine Gq_cge (pc' := 14) (t := 47) rfl rfl rfl (by omega) (by omega) (fun _ => ?_) (fun hq => absurd (by omega) hq)
    refine Gq_s (pc' := 48) rfl rfl rfl ?_
    exact Gq_ret rfl rfl (rfl) (⟨rfl, rfl, rfl⟩)
  | succ k ih =>
    intro j hj
    have hb := hB j
    have hs : s.1 j = t.1 j := by rw [hE.1]
    refine Gq_s (pc' := 9) rfl rfl rfl ?_
    refine Gq_bipush (pc' := 11) rfl rfl (by decide) ?_
    refine Gq_cge (pc' := 14) (t := 47) rfl rfl rfl (by omega) (by omega) (fun hq => absurd hq (by omega)) (fun _ => ?_)
    refine Gq_s (pc' := 15) rfl rfl rfl ?_
    refine Gq_get (pc' := 18) rfl rfl (by first | assumption | exact upd_eq _ _ _ | (refine (upd_ne _ _ (by omega)).trans ?_; first | assumption | exact upd_eq _ _ _ | (refine (upd_ne _ _ (by omega)).trans ?_; first | assumption | exact upd_eq _ _ _ | (refine (upd_ne _ _ (by omega)).trans ?_; first | assumption | exact upd_eq _ _ _)))) (by exact rfl) ?_
    refine Gq_get (pc' := 21) rfl rfl (by first | assumption | exact upd_eq _ _ _ | (refine (upd_ne _ _ (by omega)).trans ?_; first | assumption | exact upd_eq _ _ _ | (refine (upd_ne _ _ (by omega)).trans ?_; first | assumption | exact upd_eq _ _ _ | (refine (upd_ne _ _ (by omega)).trans ?_; first | assumption | exact upd_eq _ _ _)))) (by exact rfl) ?_
    refine Gq_s (pc' := 22) rfl rfl rfl ?_
    refine Gq_aalx (pc' := 23) rfl rfl (by first | assumption | exact upd_eq _ _ _ | (refine (upd_ne _ _ (by omega)).trans ?_; first | assumption | exact upd_eq _ _ _ | (refine (upd_ne _ _ (by omega)).trans ?_; first | assumption | exact upd_eq _ _ _ | (refine (upd_ne _ _ (by omega)).trans ?_; first | assumption | exact upd_eq _ _ _)))) (by exact rfl) (rfl) (by omega) (by omega) (fun hx => ?_) (fun q hx => ?_)
    · refine Gq_nul_n rfl (t := 41) rfl ?_
      refine Gq_iinc (pc' := 44) (lv' := [(0, _), (1, _), (2, _)]) rfl rfl rfl rfl ?_
      refine Gq_goto rfl (t := 8) rfl ?_
      have e : cntTo (fun p => decide (¬ lk p = none ∧ t.1 p = 0)) (j + 1) = cntTo (fun p => decide (¬ lk p = none ∧ t.1 p = 0)) j := by
        show cntTo _ j + (if decide (¬ lk j = none ∧ t.1 j = 0) then 1 else 0) = _
        rw [decide_eq_false (fun q => q.1 hx)]
        rfl
      have := ih (j + 1) (by omega)
      rw [e] at this
      exact this
    · refine Gq_nul_r (pc' := 26) (t := 41) rfl rfl rfl ?_
      refine Gq_s (pc' := 27) rfl rfl rfl ?_
      refine Gq_get (pc' := 30) rfl rfl (by first | assumption | exact upd_eq _ _ _ | (refine (upd_ne _ _ (by omega)).trans ?_; first | assumption | exact upd_eq _ _ _ | (refine (upd_ne _ _ (by omega)).trans ?_; first | assumption | exact upd_eq _ _ _ | (refine (upd_ne _ _ (by omega)).trans ?_; first | assumption | exact upd_eq _ _ _)))) (by exact rfl) ?_
      refine Gq_get (pc' := 33) rfl rfl (by first | assumption | exact upd_eq _ _ _ | (refine (upd_ne _ _ (by omega)).trans ?_; first | assumption | exact upd_eq _ _ _ | (refine (upd_ne _ _ (by omega)).trans ?_; first | assumption | exact upd_eq _ _ _ | (refine (upd_ne _ _ (by omega)).trans ?_; first | assumption | exact upd_eq _ _ _)))) (by exact rfl) ?_
      refine Gq_s (pc' := 34) rfl rfl rfl ?_
      refine Gq_iald (pc' := 35) rfl rfl (by first | assumption | exact upd_eq _ _ _ | (refine (upd_ne _ _ (by omega)).trans ?_; first | assumption | exact upd_eq _ _ _ | (refine (upd_ne _ _ (by omega)).trans ?_; first | assumption | exact upd_eq _ _ _ | (refine (upd_ne _ _ (by omega)).trans ?_; first | assumption | exact upd_eq _ _ _)))) (rfl) (by omega) (by omega) ?_
      rw [hs]
      refine Gq_zne (pc' := 38) (t := 41) rfl rfl rfl (by omega) (fun hz => ?_) (fun hz => ?_)
      · refine Gq_iinc (pc' := 44) (lv' := [(0, _), (1, _), (2, _)]) rfl rfl rfl rfl ?_
        refine Gq_goto rfl (t := 8) rfl ?_
        have e : cntTo (fun p => decide (¬ lk p = none ∧ t.1 p = 0)) (j + 1) = cntTo (fun p => decide (¬ lk p = none ∧ t.1 p = 0)) j := by
          show cntTo _ j + (if decide (¬ lk j = none ∧ t.1 j = 0) then 1 else 0) = _
          rw [decide_eq_false (fun q => by have := q.2; omega)]
          rfl
        have := ih (j + 1) (by omega)
        rw [e] at this
        exact this
      · refine Gq_iinc (pc' := 41) (lv' := [(0, _), (1, _), (2, _)]) rfl rfl rfl rfl ?_
        refine Gq_iinc (pc' := 44) (lv' := [(0, _), (1, _), (2, _)]) rfl rfl rfl rfl ?_
        refine Gq_goto rfl (t := 8) rfl ?_
        have e : cntTo (fun p => decide (¬ lk p = none ∧ t.1 p = 0)) (j + 1) = cntTo (fun p => decide (¬ lk p = none ∧ t.1 p = 0)) j + 1 := by
          show cntTo _ j + (if decide (¬ lk j = none ∧ t.1 j = 0) then 1 else 0) = _
          rw [decide_eq_true ⟨(by rw [hx]; exact fun q => nomatch q), (by omega)⟩]
          rfl
        have := ih (j + 1) (by omega)
        rw [e] at this
        exact this
theorem t_idle {S : ScT} {H : HF} (n : Nat) {P : Nat} {pid cnt : Nat → Nat} {vd gr : Nat → Nat → Nat} {vr : Nat → VR} {dr lt fc : Int} (hR : RG H P pid cnt vd gr vr) (h86 : H 86 = some (false, 7, pwF P dr lt fc)) {lk : Nat → Option Nat} (hL : ∀ q o, lk q = some o → Own P cnt vd q o) (L0 : H 90 = some (false, 2, [.ref 91, .ref 92])) (L1 : H 91 = some (true, 3, aR 12 lk)) {lo : Nat → Nat} (L2 : H 92 = some (true, 0, aNt 12 lo)) {wl : List CR} (hW : WiAt H 88 wl) (hS : ScC H) : Rmt S 17 [.ref 86] H n (fun v G m => v = some (.int (zI (cntTo (fun p => decide (¬ lk p = none ∧ (chL vr lk wl).1 p = 0)) 12 : Int))) ∧ m = n ∧ G 92 = some (true, 0, aNt 12 (onF vr lk wl)) ∧ (∃ s, CsP G s ∧ CsE s (chL vr lk wl)) ∧ (∀ o, ¬ o = 92 → ¬ o = 107 → ¬ o = 108 → ¬ o = 109 → ¬ o = 110 → G o = H o)) := by
  refine Rm_of (M := xm17) (lv := [(0, _)]) rfl rfl rfl ?_
  refine Gq_s (pc' := 1) rfl rfl rfl ?_
  refine Gq_callv (pc' := 4) (Y := xm56) (rest := []) (ce' := 0) (sl' := 0) rfl rfl rfl rfl rfl rfl rfl rfl rfl (t_layCh n hR h86 hL L0 L1 L2 hW hS) (by first | assumption | exact upd_eq _ _ _ | (refine (upd_ne _ _ (by omega)).trans ?_; first | assumption | exact upd_eq _ _ _ | (refine (upd_ne _ _ (by omega)).trans ?_; first | assumption | exact upd_eq _ _ _ | (refine (upd_ne _ _ (by omega)).trans ?_; first | assumption | exact upd_eq _ _ _)))) (fun v' H' n' hv => ?_)
  obtain ⟨rfl, rfl, g1, ⟨s, g2, g3⟩, g4⟩ := hv
  refine Gq_s (pc' := 5) rfl rfl rfl ?_
  refine Gq_s (pc' := 6) (lv' := [(0, _), (1, _)]) rfl rfl rfl ?_
  refine Gq_s (pc' := 7) rfl rfl rfl ?_
  refine Gq_s (pc' := 8) (lv' := [(0, _), (1, _), (2, _)]) rfl rfl rfl ?_
  refine Gq_mq (t_idle_l ((g4 86 (by omega) (by omega) (by omega) (by omega) (by omega)).trans h86) ((g4 90 (by omega) (by omega) (by omega) (by omega) (by omega)).trans L0) ((g4 91 (by omega) (by omega) (by omega) (by omega) (by omega)).trans L1) g2 g3 (fun p => Nat.le_trans (chL_b p) (by omega)) 12 0 rfl) ?_
  rintro v G m ⟨e1, rfl, e3⟩
  exact ⟨e1, e3, g1, ⟨s, g2, g3⟩, g4⟩
theorem t_depth {S : ScT} {H : HF} (n : Nat) {p : Nat} {P : Nat} {pid cnt : Nat → Nat} {vd gr : Nat → Nat → Nat} {vr : Nat → VR} {dr lt fc : Int} (hR : RG H P pid cnt vd gr vr) (h86 : H 86 = some (false, 7, pwF P dr lt fc)) {lk : Nat → Option Nat} (hL : ∀ q o, lk q = some o → Own P cnt vd q o) (L0 : H 90 = some (false, 2, [.ref 91, .ref 92])) (L1 : H 91 = some (true, 3, aR 12 lk)) {lo : Nat → Nat} (L2 : H 92 = some (true, 0, aNt 12 lo)) {wl : List CR} (hW : WiAt H 88 wl) (hS : ScC H) (hp : p < P) : Rmt S 19 [.ref 86, .int (zI (p : Int))] H n (fun v G m => v = some (.int (zI ((chL vr lk wl).1 p : Int))) ∧ m = n ∧ G 92 = some (true, 0, aNt 12 (onF vr lk wl)) ∧ (∃ s, CsP G s ∧ CsE s (chL vr lk wl)) ∧ (∀ o, ¬ o = 92 → ¬ o = 107 → ¬ o = 108 → ¬ o = 109 → ¬ o = 110 → G o = H o)) := by
  refine Rm_of (M := xm19) (lv := [(0, _), (1, _)]) rfl rfl rfl ?_
  have hP := hR.1
  refine Gq_s (pc' := 1) rfl rfl rfl ?_
  refine Gq_s (pc' := 2) rfl rfl rfl ?_
  refine Gq_callv1 (pc' := 5) (Y := xm43) (rest := []) (st' := [_]) (ce' := 0) (sl' := 0) rfl rfl rfl rfl rfl rfl rfl rfl rfl (t_pti n hR h86 hp) rfl (by first | assumption | exact upd_eq _ _ _ | (refine (upd_ne _ _ (by omega)).trans ?_; first | assumption | exact upd_eq _ _ _ | (refine (upd_ne _ _ (by omega)).trans ?_; first | assumption | exact upd_eq _ _ _ | (refine (upd_ne _ _ (by omega)).trans ?_; first | assumption | exact upd_eq _ _ _)))) ?_
  refine Gq_s (pc' := 6) rfl rfl rfl ?_
  refine Gq_s (pc' := 7) rfl rfl rfl ?_
  refine Gq_callv (pc' := 10) (Y := xm56) (rest := []) (ce' := 0) (sl' := 0) rfl rfl rfl rfl rfl rfl rfl rfl rfl (t_layCh n hR h86 hL L0 L1 L2 hW hS) (by first | assumption | exact upd_eq _ _ _ | (refine (upd_ne _ _ (by omega)).trans ?_; first | assumption | exact upd_eq _ _ _ | (refine (upd_ne _ _ (by omega)).trans ?_; first | assumption | exact upd_eq _ _ _ | (refine (upd_ne _ _ (by omega)).trans ?_; first | assumption | exact upd_eq _ _ _)))) (fun v' H' n' hv => ?_)
  obtain ⟨rfl, rfl, g1, ⟨s, g2, g3⟩, g4⟩ := hv
  have g86 := (g4 86 (by omega) (by omega) (by omega) (by omega) (by omega)).trans h86
  obtain ⟨c0, c1, c2, c3⟩ := id g2
  refine Gq_s (pc' := 11) rfl rfl rfl ?_
  refine Gq_get (pc' := 14) rfl rfl (by first | assumption | exact upd_eq _ _ _ | (refine (upd_ne _ _ (by omega)).trans ?_; first | assumption | exact upd_eq _ _ _ | (refine (upd_ne _ _ (by omega)).trans ?_; first | assumption | exact upd_eq _ _ _ | (refine (upd_ne _ _ (by omega)).trans ?_; first | assumption | exact upd_eq _ _ _)))) (by exact rfl) ?_
  refine Gq_get (pc' := 17) rfl rfl (by first | assumption | exact upd_eq _ _ _ | (refine (upd_ne _ _ (by omega)).trans ?_; first | assumption | exact upd_eq _ _ _ | (refine (upd_ne _ _ (by omega)).trans ?_; first | assumption | exact upd_eq _ _ _ | (refine (upd_ne _ _ (by omega)).trans ?_; first | assumption | exact upd_eq _ _ _)))) (by exact rfl) ?_
  refine Gq_s (pc' := 18) rfl rfl rfl ?_
  refine Gq_iald (pc' := 19) rfl rfl (by first | assumption | exact upd_eq _ _ _ | (refine (upd_ne _ _ (by omega)).trans ?_; first | assumption | exact upd_eq _ _ _ | (refine (upd_ne _ _ (by omega)).trans ?_; first | assumption | exact upd_eq _ _ _ | (refine (upd_ne _ _ (by omega)).trans ?_; first | assumption | exact upd_eq _ _ _)))) (rfl) (by omega) (by omega) ?_
  exact Gq_ret rfl rfl (rfl) (⟨by rw [g3.1], rfl, g1, ⟨s, g2, g3⟩, g4⟩)
theorem t_chainAt {S : ScT} {H : HF} (n : Nat) {p pl : Nat} {P : Nat} {pid cnt : Nat → Nat} {vd gr : Nat → Nat → Nat} {vr : Nat → VR} {dr lt fc : Int} (hR : RG H P pid cnt vd gr vr) (h86 : H 86 = some (false, 7, pwF P dr lt fc)) {lk : Nat → Option Nat} (hL : ∀ q o, lk q = some o → Own P cnt vd q o) (L0 : H 90 = some (false, 2, [.ref 91, .ref 92])) (L1 : H 91 = some (true, 3, aR 12 lk)) {lo : Nat → Nat} (L2 : H 92 = some (true, 0, aNt 12 lo)) {wl : List CR} (hW : WiAt H 88 wl) (hS : ScC H) (hp : p < P) (hpl : pl < 1000) : Rmt S 20 [.ref 86, .int (zI (p : Int)), .int (zI (pl : Int))] H n (fun v G m => v = some (.int (zI (lkAt (chL vr lk wl) p pl))) ∧ m = n ∧ G 92 = some (true, 0, aNt 12 (onF vr lk wl)) ∧ (∃ s, CsP G s ∧ CsE s (chL vr lk wl)) ∧ (∀ o, ¬ o = 92 → ¬ o = 107 → ¬ o = 108 → ¬ o = 109 → ¬ o = 110 → G o = H o)) := by
  refine Rm_of (M := xm20) (lv := [(0, _), (1, _), (2, _)]) rfl rfl rfl ?_
  have hP := hR.1
  refine Gq_s (pc' := 1) rfl rfl rfl ?_
  refine Gq_s (pc' := 2) rfl rfl rfl ?_
  refine Gq_callv1 (pc' := 5) (Y := xm43) (rest := []) (st' := [_]) (ce' := 0) (sl' := 0) rfl rfl rfl rfl rfl rfl rfl rfl rfl (t_pti n hR h86 hp) rfl (by first | assumption | exact upd_eq _ _ _ | (refine (upd_ne _ _ (by omega)).trans ?_; first | assumption | exact upd_eq _ _ _ | (refine (upd_ne _ _ (by omega)).trans ?_; first | assumption | exact upd_eq _ _ _ | (refine (upd_ne _ _ (by omega)).trans ?_; first | assumption | exact upd_eq _ _ _)))) ?_
  refine Gq_s (pc' := 6) rfl rfl rfl ?_
  refine Gq_s (pc' := 7) rfl rfl rfl ?_
  refine Gq_zge (pc' := 10) (t := 20) rfl rfl rfl (by omega) (fun _ => ?_) (fun hq => absurd (by omega) hq)
  refine Gq_s (pc' := 21) rfl rfl rfl ?_
  refine Gq_callv (pc' := 24) (Y := xm56) (rest := []) (ce' := 0) (sl' := 0) rfl rfl rfl rfl rfl rfl rfl rfl rfl (t_layCh n hR h86 hL L0 L1 L2 hW hS) (by first | assumption | exact upd_eq _ _ _ | (refine (upd_ne _ _ (by omega)).trans ?_; first | assumption | exact upd_eq _ _ _ | (refine (upd_ne _ _ (by omega)).trans ?_; first | assumption | exact upd_eq _ _ _ | (refine (upd_ne _ _ (by omega)).trans ?_; first | assumption | exact upd_eq _ _ _)))) (fun v' H' n' hv => ?_)
  obtain ⟨rfl, rfl, g1, ⟨s, g2, g3⟩, g4⟩ := hv
  have g86 := (g4 86 (by omega) (by omega) (by omega) (by omega) (by omega)).trans h86
  obtain ⟨c0, c1, c2, c3⟩ := id g2
  refine Gq_s (pc' := 25) rfl rfl rfl ?_
  refine Gq_get (pc' := 28) rfl rfl (by first | assumption | exact upd_eq _ _ _ | (refine (upd_ne _ _ (by omega)).trans ?_; first | assumption | exact upd_eq _ _ _ | (refine (upd_ne _ _ (by omega)).trans ?_; first | assumption | exact upd_eq _ _ _ | (refine (upd_ne _ _ (by omega)).trans ?_; first | assumption | exact upd_eq _ _ _)))) (by exact rfl) ?_
  refine Gq_s (pc' := 29) rfl rfl rfl ?_
  refine Gq_s (pc' := 30) rfl rfl rfl ?_
  refine Gq_callv1 (pc' := 33) (Y := xm72) (rest := []) (st' := [_]) (ce' := 0) (sl' := 0) rfl rfl rfl rfl rfl rfl rfl rfl rfl (t_linkAt _ g2 g3 (chL_inv (WiAt_ok hW)) (fun p => Nat.le_trans (chL_b p) (by omega)) (by omega) hpl) rfl (by first | assumption | exact upd_eq _ _ _ | (refine (upd_ne _ _ (by omega)).trans ?_; first | assumption | exact upd_eq _ _ _ | (refine (upd_ne _ _ (by omega)).trans ?_; first | assumption | exact upd_eq _ _ _ | (refine (upd_ne _ _ (by omega)).trans ?_; first | assumption | exact upd_eq _ _ _)))) ?_
  exact Gq_ret rfl rfl (rfl) (⟨rfl, rfl, g1, ⟨s, g2, g3⟩, g4⟩)
end XKd
