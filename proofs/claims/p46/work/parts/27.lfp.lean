/-! features: the least that is closed -/
section XK7
def sbs (a b : Nat) : Prop := a ||| b = b
theorem sbs_iff {a b : Nat} : sbs a b ↔ ∀ i, a.testBit i = true → b.testBit i = true := by
  constructor
  · intro h i hi
    have h2 : (a ||| b).testBit i = b.testBit i := congrArg (fun z => z.testBit i) h
    rw [Nat.testBit_or, hi, Bool.true_or] at h2
    exact h2.symm
  · intro h
    refine Nat.eq_of_testBit_eq fun i => ?_
    rw [Nat.testBit_or]
    cases ha : a.testBit i with
    | false => rw [Bool.false_or]
    | true => rw [h i ha, Bool.true_or]
theorem sbs_refl (a : Nat) : sbs a a := Nat.or_self a
theorem sbs_zero (a : Nat) : sbs 0 a := Nat.zero_or a
theorem sbs_trans {a b c : Nat} (h1 : sbs a b) (h2 : sbs b c) : sbs a c := sbs_iff.mpr fun i hi => sbs_iff.mp h2 i (sbs_iff.mp h1 i hi)
theorem sbs_anti {a b : Nat} (h1 : sbs a b) (h2 : sbs b a) : a = b := by
  have e : b ||| a = a := h2
  rw [Nat.or_comm] at e
  exact e.symm.trans h1
theorem sbs_l (a b : Nat) : sbs a (a ||| b) := sbs_iff.mpr fun i hi => by rw [Nat.testBit_or, hi, Bool.true_or]
theorem sbs_r (a b : Nat) : sbs b (a ||| b) := sbs_iff.mpr fun i hi => by rw [Nat.testBit_or, hi, Bool.or_true]
theorem sbs_or {a b c : Nat} (h1 : sbs a c) (h2 : sbs b c) : sbs (a ||| b) c := sbs_iff.mpr fun i hi => by
  rw [Nat.testBit_or, Bool.or_eq_true] at hi
  rcases hi with hi | hi
  · exact sbs_iff.mp h1 i hi
  · exact sbs_iff.mp h2 i hi
theorem cCnt_mono {c : CR} {f g : Nat} (h : sbs f g) (hc : cCnt c f = true) : cCnt c g = true := by
  unfold cCnt at hc ⊢
  rw [Bool.or_eq_true] at hc ⊢
  rcases hc with hc | hc
  · exact .inl hc
  · exact .inr (sbs_iff.mp h _ hc)
def onLe (a b : Nat → Nat) : Prop := ∀ p, sbs (a p) (b p)
theorem onLe_refl (a : Nat → Nat) : onLe a a := fun p => sbs_refl _
theorem onLe_trans {a b c : Nat → Nat} (h1 : onLe a b) (h2 : onLe b c) : onLe a c := fun p => sbs_trans (h1 p) (h2 p)
theorem tOn_le {ch : Nat → Option Nat} {on : Nat → Nat} {c : CR} : onLe on (tOn ch on c) := by
  intro p
  unfold tOn
  split
  · exact sbs_refl _
  · by_cases e : p = cT c
    · subst e
      rw [fset_eq]
      exact sbs_l _ _
    · rw [fset_ne _ _ e]
      exact sbs_refl _
theorem tOn_in {ch : Nat → Option Nat} {on : Nat → Nat} {c : CR} (h : ¬ ch (cT c) = none) : sbs (cF c) (tOn ch on c (cT c)) := by
  unfold tOn
  rw [if_neg h, fset_eq]
  exact sbs_r _ _
theorem tOn_min {ch : Nat → Option Nat} {on C : Nat → Nat} {c : CR} (h1 : onLe on C) (h2 : ¬ ch (cT c) = none → sbs (cF c) (C (cT c))) : onLe (tOn ch on c) C := by
  intro p
  unfold tOn
  by_cases h : ch (cT c) = none
  · rw [if_pos h]
    exact h1 p
  · rw [if_neg h]
    by_cases e : p = cT c
    · subst e
      rw [fset_eq]
      exact sbs_or (h1 _) (h2 h)
    · rw [fset_ne _ _ e]
      exact h1 p
theorem grown_f {ch : Nat → Option Nat} {on : Nat → Nat} {c : CR} (h : grwn ch on c = false) : tOn ch on c = on := by
  have h1 : tOn ch on c (cT c) = on (cT c) := Decidable.byContradiction fun q => by
    have := of_decide_eq_false h
    exact this q
  funext p
  by_cases e : p = cT c
  · subst e
    exact h1
  · unfold tOn
    split
    · rfl
    · rw [fset_ne _ _ e]
theorem grown_fin {ch : Nat → Option Nat} {on : Nat → Nat} {c : CR} (h : grwn ch on c = false) (hc : ¬ ch (cT c) = none) : sbs (cF c) (on (cT c)) := by
  have := tOn_in (on := on) hc
  rwa [grown_f h] at this
/-- how many features are on -/
def btn (x : Nat) : Nat := (if x.testBit 0 then 1 else 0) + (if x.testBit 1 then 1 else 0) + (if x.testBit 2 then 1 else 0) + (if x.testBit 3 then 1 else 0)
theorem bits_le (x : Nat) : btn x ≤ 4 := by
  unfold btn
  split <;> split <;> split <;> split <;> omega
theorem bits_or : ∀ a, a < 16 → ∀ b, b < 16 → btn a ≤ btn (a ||| b) ∧ (¬ a ||| b = a → btn a < btn (a ||| b)) := by decide +kernel
def pot (on : Nat → Nat) : Nat → Nat
  | 0 => 0
  | k + 1 => pot on k + btn (on k)
theorem pot_le (on : Nat → Nat) : ∀ k, pot on k ≤ 4 * k
  | 0 => Nat.le_refl 0
  | k + 1 => by
    have h1 := pot_le on k
    have h2 := bits_le (on k)
    show pot on k + btn (on k) ≤ 4 * (k + 1)
    omega
theorem pot_same {on on2 : Nat → Nat} : ∀ k, (∀ p, p < k → on p = on2 p) → pot on k = pot on2 k
  | 0, _ => rfl
  | k + 1, h => by
    show pot on k + btn (on k) = pot on2 k + btn (on2 k)
    rw [pot_same k (fun p hp => h p (by omega)), h k (by omega)]
theorem pot_fset {on : Nat → Nat} {t x : Nat} : ∀ k, t < k → pot (fset on t x) k + btn (on t) = pot on k + btn x
  | 0, h => absurd h (by omega)
  | k + 1, h => by
    show pot (fset on t x) k + btn (fset on t x k) + btn (on t) = pot on k + btn (on k) + btn x
    by_cases e : t = k
    · subst e
      rw [fset_eq, pot_same (on := fset on t x) (on2 := on) t (fun p hp => fset_ne on x (show ¬ p = t by omega))]
      omega
    · have := pot_fset (on := on) (t := t) (x := x) k (by omega)
      rw [fset_ne _ _ (show ¬ k = t by omega)]
      omega
theorem pot_tOn {ch : Nat → Option Nat} {on : Nat → Nat} {c : CR} (ho : o16 on) (hc : cOK c) : pot on 12 ≤ pot (tOn ch on c) 12 ∧ (grwn ch on c = true → pot on 12 < pot (tOn ch on c) 12) := by
  by_cases h : ch (cT c) = none
  · rw [tOn_n h]
    exact ⟨Nat.le_refl _, fun q => by rw [grown_n h] at q; cases q⟩
  · have e : tOn ch on c = fset on (cT c) (on (cT c) ||| cF c) := if_neg h
    have h1 := pot_fset (on := on) (x := on (cT c) ||| cF c) 12 hc.1
    have h2 := bits_or (on (cT c)) (ho _) (cF c) hc.2.2.1
    refine ⟨by rw [e]; omega, fun q => ?_⟩
    have h3 := of_decide_eq_true q
    rw [e, fset_eq] at h3
    have h4 := h2.2 h3
    rw [e]
    omega
def Grw (s s2 : (Nat → Nat) × Bool) : Prop := onLe s.1 s2.1 ∧ (s2.2 = false → s.2 = false ∧ s2.1 = s.1) ∧ (s2.2 = true → s.2 = true ∨ pot s.1 12 < pot s2.1 12) ∧ pot s.1 12 ≤ pot s2.1 12
theorem Grw_refl (s : (Nat → Nat) × Bool) : Grw s s := ⟨onLe_refl _, fun h => ⟨h, rfl⟩, fun h => .inl h, Nat.le_refl _⟩
theorem Grw_trans {a b c : (Nat → Nat) × Bool} (h1 : Grw a b) (h2 : Grw b c) : Grw a c := by
  obtain ⟨p1, p2, p3, p4⟩ := h1
  obtain ⟨q1, q2, q3, q4⟩ := h2
  refine ⟨onLe_trans p1 q1, fun h => ?_, fun h => ?_, by omega⟩
  · obtain ⟨e1, e2⟩ := q2 h
    obtain ⟨e3, e4⟩ := p2 e1
    exact ⟨e3, e2.trans e4⟩
  · rcases q3 h with h | h
    · rcases p3 h with h | h
      · exact .inl h
      · exact .inr (by omega)
    · exact .inr (by omega)
theorem nOne_grw {ch : Nat → Option Nat} {p : Nat} {s : (Nat → Nat) × Bool} {c : CR} (ho : o16 s.1) (hc : cOK c) : Grw s (nOne ch p s c) := by
  unfold nOne
  by_cases h : cCnt c (s.1 p) = true
  · rw [if_pos h]
    have hp := pot_tOn (ch := ch) ho hc
    refine ⟨tOn_le, fun q => ?_, fun q => ?_, hp.1⟩
    · rw [Bool.or_eq_false_iff] at q
      exact ⟨q.1, grown_f q.2⟩
    · rw [Bool.or_eq_true] at q
      rcases q with q | q
      · exact .inl q
      · exact .inr (hp.2 q)
  · rw [if_neg h]
    exact Grw_refl s
theorem fold_grw {ch : Nat → Option Nat} {p : Nat} : ∀ {l : List CR} {s : (Nat → Nat) × Bool}, (∀ c ∈ l, cOK c) → o16 s.1 → Grw s (l.foldl (nOne ch p) s)
  | [], s, _, _ => Grw_refl s
  | c :: t, s, hl, ho => Grw_trans (nOne_grw ho (hl c List.mem_cons_self)) (fold_grw (l := t) (s := nOne ch p s c) (fun d hd => hl d (List.mem_cons_of_mem _ hd)) (o16_nOne ho (hl c List.mem_cons_self)))
/-- the needs of what is chosen are fit -/
def NOK (vr : Nat → VR) (ch : Nat → Option Nat) : Prop := ∀ p o, p < 12 → ch p = some o → ∀ c ∈ vQ (vr o), cOK c
theorem NOK_of {H : HF} {vr : Nat → VR} {V : Nat → Prop} {ch : Nat → Option Nat} (hvs : VsA H vr V) (hC : ChV V ch) : NOK vr ch := fun p o hp hx => by
  obtain ⟨-, -, f, g, -, h4, -⟩ := hvs o (hC p o hp hx)
  exact ChainAt_ok h4
theorem nPk_grw {vr : Nat → VR} {ch : Nat → Option Nat} {p : Nat} {s : (Nat → Nat) × Bool} (hN : NOK vr ch) (hp : p < 12) (ho : o16 s.1) : Grw s (nPk vr ch p s) := by
  unfold nPk
  cases hx : ch p with
  | none => exact Grw_refl s
  | some o => exact fold_grw (hN p o hp hx) ho
theorem n16_nPk {vr : Nat → VR} {ch : Nat → Option Nat} {p : Nat} {s : (Nat → Nat) × Bool} (hN : NOK vr ch) (hp : p < 12) (ho : o16 s.1) : o16 (nPk vr ch p s).1 := by
  unfold nPk
  cases hx : ch p with
  | none => exact ho
  | some o => exact o16_fold (hN p o hp hx) ho
theorem n16_nRun {vr : Nat → VR} {ch : Nat → Option Nat} (hN : NOK vr ch) : ∀ (k j : Nat) (s : (Nat → Nat) × Bool), j + k ≤ 12 → o16 s.1 → o16 (nRun vr ch k j s).1
  | 0, _, _, _, h => h
  | k + 1, j, s, hj, h => n16_nRun hN k (j + 1) _ (by omega) (n16_nPk hN (by omega) h)
theorem nRun_grw {vr : Nat → VR} {ch : Nat → Option Nat} (hN : NOK vr ch) : ∀ (k j : Nat) (s : (Nat → Nat) × Bool), j + k ≤ 12 → o16 s.1 → Grw s (nRun vr ch k j s)
  | 0, _, s, _, _ => Grw_refl s
  | k + 1, j, s, hj, h => Grw_trans (nPk_grw hN (by omega) h) (nRun_grw hN k (j + 1) _ (by omega) (n16_nPk hN (by omega) h))
/-- a claim is served -/
def Srv (ch : Nat → Option Nat) (on : Nat → Nat) (p : Nat) (c : CR) : Prop := cCnt c (on p) = true → ¬ ch (cT c) = none → sbs (cF c) (on (cT c))
theorem nOne_srv {ch : Nat → Option Nat} {p : Nat} {s : (Nat → Nat) × Bool} {c : CR} (h : (nOne ch p s c).2 = false) : Srv ch s.1 p c := by
  intro hc hx
  unfold nOne at h
  rw [if_pos hc] at h
  rw [Bool.or_eq_false_iff] at h
  exact grown_fin h.2 hx
theorem fold_srv {ch : Nat → Option Nat} {p : Nat} : ∀ {l : List CR} {s : (Nat → Nat) × Bool}, (∀ c ∈ l, cOK c) → o16 s.1 → (l.foldl (nOne ch p) s).2 = false → ∀ c ∈ l, Srv ch s.1 p c
  | [], _, _, _, _, c, hc => by cases hc
  | a :: t, s, hl, ho, h, c, hc => by
    have ho2 := o16_nOne (ch := ch) (p := p) ho (hl a List.mem_cons_self)
    have hlt : ∀ d ∈ t, cOK d := fun d hd => hl d (List.mem_cons_of_mem _ hd)
    have g2 := (fold_grw (ch := ch) (p := p) (l := t) (s := nOne ch p s a) hlt ho2).2.1 h
    have g1 := (nOne_grw (ch := ch) (p := p) ho (hl a List.mem_cons_self)).2.1 g2.1
    rcases List.mem_cons.mp hc with rfl | hc
    · exact nOne_srv g2.1
    · have := fold_srv (ch := ch) (p := p) (l := t) (s := nOne ch p s a) hlt ho2 h c hc
      rwa [g1.2] at this
theorem nRun_srv {vr : Nat → VR} {ch : Nat → Option Nat} (hN : NOK vr ch) : ∀ (k j : Nat) (s : (Nat → Nat) × Bool), j + k ≤ 12 → o16 s.1 → (nRun vr ch k j s).2 = false → ∀ p o c, j ≤ p → p < j + k → ch p = some o → c ∈ vQ (vr o) → Srv ch s.1 p c
  | 0, _, _, _, _, _, p, o, c, h1, h2, _, _ => absurd h2 (by omega)
  | k + 1, j, s, hj, ho, h, p, o, c, h1, h2, hx, hc => by
    have ho2 := n16_nPk hN (show j < 12 by omega) ho
    have g2 := (nRun_grw hN k (j + 1) (nPk vr ch j s) (by omega) ho2).2.1 h
    have g1 := (nPk_grw hN (show j < 12 by omega) ho).2.1 g2.1
    by_cases e : p = j
    · subst e
      have h3 := g2.1
      unfold nPk at h3
      rw [hx] at h3
      exact fold_srv (hN p o (by omega) hx) ho h3 c hc
    · have := nRun_srv hN k (j + 1) (nPk vr ch j s) (by omega) ho2 h p o c (by omega) (by omega) hx hc
      rwa [g1.2] at this
/-- closed -/
def Cl (vr : Nat → VR) (ch : Nat → Option Nat) (C : Nat → Nat) : Prop := ∀ p o c, p < 12 → ch p = some o → c ∈ vQ (vr o) → Srv ch C p c
def Wsh (ch : Nat → Option Nat) (wl : List CR) (C : Nat → Nat) : Prop := ∀ c ∈ wl, ¬ ch (cT c) = none → sbs (cF c) (C (cT c))
theorem nOne_min {ch : Nat → Option Nat} {p : Nat} {s : (Nat → Nat) × Bool} {c : CR} {C : Nat → Nat} (h : onLe s.1 C) (hc : Srv ch C p c) : onLe (nOne ch p s c).1 C := by
  unfold nOne
  by_cases e : cCnt c (s.1 p) = true
  · rw [if_pos e]
    exact tOn_min h (hc (cCnt_mono (h p) e))
  · rw [if_neg e]
    exact h
theorem fold_min {ch : Nat → Option Nat} {p : Nat} {C : Nat → Nat} : ∀ {l : List CR} {s : (Nat → Nat) × Bool}, onLe s.1 C → (∀ c ∈ l, Srv ch C p c) → onLe (l.foldl (nOne ch p) s).1 C
  | [], _, h, _ => h
  | c :: t, s, h, hl => fold_min (l := t) (s := nOne ch p s c) (nOne_min h (hl c List.mem_cons_self)) (fun d hd => hl d (List.mem_cons_of_mem _ hd))
theorem nRun_min {vr : Nat → VR} {ch : Nat → Option Nat} {C : Nat → Nat} (hC : Cl vr ch C) : ∀ (k j : Nat) (s : (Nat → Nat) × Bool), j + k ≤ 12 → onLe s.1 C → onLe (nRun vr ch k j s).1 C
  | 0, _, _, _, h => h
  | k + 1, j, s, hj, h => by
    refine nRun_min hC k (j + 1) _ (by omega) ?_
    unfold nPk
    cases hx : ch j with
    | none => exact h
    | some o => exact fold_min h (fun c hc => hC j o c (by omega) hx hc)
theorem tof_min {vr : Nat → VR} {ch : Nat → Option Nat} {C : Nat → Nat} (hC : Cl vr ch C) : ∀ (k : Nat) (on : Nat → Nat), onLe on C → onLe (tofRun vr ch k on) C
  | 0, _, h => h
  | k + 1, on, h => by
    have h1 := nRun_min hC 12 0 (on, false) (by omega) h
    unfold tofRun
    split
    · exact tof_min hC k _ h1
    · exact h1
theorem tof_le {vr : Nat → VR} {ch : Nat → Option Nat} (hN : NOK vr ch) : ∀ (k : Nat) (on : Nat → Nat), o16 on → onLe on (tofRun vr ch k on)
  | 0, on, _ => onLe_refl on
  | k + 1, on, ho => by
    have h1 := (nRun_grw hN 12 0 (on, false) (by omega) ho).1
    unfold tofRun
    split
    · exact onLe_trans h1 (tof_le hN k _ (n16_nRun hN 12 0 (on, false) (by omega) ho))
    · exact h1
theorem tof_16 {vr : Nat → VR} {ch : Nat → Option Nat} (hN : NOK vr ch) : ∀ (k : Nat) (on : Nat → Nat), o16 on → o16 (tofRun vr ch k on)
  | 0, _, ho => ho
  | k + 1, on, ho => by
    have h1 := n16_nRun hN 12 0 (on, false) (by omega) ho
    unfold tofRun
    split
    · exact tof_16 hN k _ h1
    · exact h1
theorem tof_cl {vr : Nat → VR} {ch : Nat → Option Nat} (hN : NOK vr ch) : ∀ (k : Nat) (on : Nat → Nat), o16 on → 48 < pot on 12 + k → Cl vr ch (tofRun vr ch k on)
  | 0, on, _, h => absurd (pot_le on 12) (by omega)
  | k + 1, on, ho, h => by
    have hg := nRun_grw hN 12 0 (on, false) (by omega) ho
    unfold tofRun
    split
    · rename_i hf
      have h2 := hg.2.2.1 hf
      refine tof_cl hN k _ (n16_nRun hN 12 0 (on, false) (by omega) ho) ?_
      rcases h2 with h2 | h2
      · cases h2
      · have h2 : pot on 12 < _ := h2
        omega
    · rename_i hf
      have hf : (nRun vr ch 12 0 (on, false)).2 = false := by
        cases hh : (nRun vr ch 12 0 (on, false)).2 with
        | false => rfl
        | true => exact absurd hh hf
      rw [(hg.2.1 hf).2]
      intro p o c hp hx hc
      exact nRun_srv hN 12 0 (on, false) (by omega) ho hf p o c (by omega) (by omega) hx hc
theorem wl_le {ch : Nat → Option Nat} : ∀ {l : List CR} {on : Nat → Nat}, onLe on (l.foldl (tOn ch) on)
  | [], on => onLe_refl on
  | c :: t, on => onLe_trans tOn_le (wl_le (l := t) (on := tOn ch on c))
theorem wl_in {ch : Nat → Option Nat} : ∀ {l : List CR} {on : Nat → Nat} {c : CR}, c ∈ l → ¬ ch (cT c) = none → sbs (cF c) (l.foldl (tOn ch) on (cT c))
  | a :: t, on, c, hc, hx => by
    rcases List.mem_cons.mp hc with rfl | hc
    · exact sbs_trans (tOn_in (on := on) hx) (wl_le (l := t) (on := tOn ch on c) _)
    · exact wl_in (l := t) (on := tOn ch on a) hc hx
theorem wl_min {ch : Nat → Option Nat} {C : Nat → Nat} : ∀ {l : List CR} {on : Nat → Nat}, Wsh ch l C → onLe on C → onLe (l.foldl (tOn ch) on) C
  | [], _, _, h => h
  | c :: t, on, hl, h => wl_min (l := t) (on := tOn ch on c) (fun d hd => hl d (List.mem_cons_of_mem _ hd)) (tOn_min h (hl c List.mem_cons_self))
/-- what is on: 16 at most, closed, with the wishes, the least, nothing where nothing is chosen -/
theorem onF_16 {vr : Nat → VR} {ch : Nat → Option Nat} {wl : List CR} (hN : NOK vr ch) (hw : ∀ c ∈ wl, cOK c) : o16 (onF vr ch wl) := tof_16 hN 49 _ (o16_wl hw o16_0)
theorem onF_cl {vr : Nat → VR} {ch : Nat → Option Nat} {wl : List CR} (hN : NOK vr ch) (hw : ∀ c ∈ wl, cOK c) : Cl vr ch (onF vr ch wl) := tof_cl hN 49 _ (o16_wl hw o16_0) (by omega)
theorem onF_wl {vr : Nat → VR} {ch : Nat → Option Nat} {wl : List CR} (hN : NOK vr ch) (hw : ∀ c ∈ wl, cOK c) : Wsh ch wl (onF vr ch wl) := fun c hc hx => sbs_trans (wl_in hc hx) (tof_le hN 49 _ (o16_wl hw o16_0) _)
theorem onF_min {vr : Nat → VR} {ch : Nat → Option Nat} {wl : List CR} {C : Nat → Nat} (hC : Cl vr ch C) (hW : Wsh ch wl C) : onLe (onF vr ch wl) C := tof_min hC 49 _ (wl_min hW (fun p => sbs_zero _))
theorem onF_zero {vr : Nat → VR} {ch : Nat → Option Nat} {wl : List CR} (hN : NOK vr ch) (hw : ∀ c ∈ wl, cOK c) {p : Nat} (hp : ch p = none) : onF vr ch wl p = 0 := by
  have h := onF_min (vr := vr) (ch := ch) (wl := wl) (C := fset (onF vr ch wl) p 0) (fun q o c hq hx hc h1 h2 => ?_) (fun c hc h2 => ?_) p
  · rw [fset_eq] at h
    have h : onF vr ch wl p ||| 0 = 0 := h
    rwa [Nat.or_zero] at h
  · have hne : ¬ cT c = p := fun e => h2 (by rw [e]; exact hp)
    have hqp : ¬ q = p := fun e => by rw [e, hp] at hx; cases hx
    rw [fset_ne _ _ hqp] at h1
    rw [fset_ne _ _ hne]
    exact onF_cl hN hw q o c hq hx hc h1 h2
  · have hne : ¬ cT c = p := fun e => h2 (by rw [e]; exact hp)
    rw [fset_ne _ _ hne]
    exact onF_wl hN hw c hc h2
/-- more chosen, more on -/
theorem onF_mono {vr : Nat → VR} {ch ch2 : Nat → Option Nat} {wl : List CR} (hN : NOK vr ch2) (hw : ∀ c ∈ wl, cOK c) (hs : ∀ p o, ch p = some o → ch2 p = some o) : onLe (onF vr ch wl) (onF vr ch2 wl) := by
  have hn : ∀ p, ¬ ch p = none → ¬ ch2 p = none := fun p h => by
    cases hx : ch p with
    | none => exact absurd hx h
    | some o => rw [hs p o hx]; exact fun q => nomatch q
  exact onF_min (fun p o c hp hx hc h1 h2 => onF_cl hN hw p o c hp (hs p o hx) hc h1 (hn _ h2)) (fun c hc h2 => onF_wl hN hw c hc (hn _ h2))
theorem onF_uniq {vr : Nat → VR} {ch : Nat → Option Nat} {wl : List CR} {C : Nat → Nat} (hN : NOK vr ch) (hw : ∀ c ∈ wl, cOK c) (hC : Cl vr ch C) (hW : Wsh ch wl C) (hm : ∀ D, Cl vr ch D → Wsh ch wl D → onLe C D) : ∀ p, onF vr ch wl p = C p := fun p => sbs_anti (onF_min hC hW p) (hm _ (onF_cl hN hw) (onF_wl hN hw) p)
theorem Rch_mono {vr : Nat → VR} {ch ch2 : Nat → Option Nat} {on on2 : Nat → Nat} {aw : List CR} {p : Nat} (hs : ∀ q o, ch q = some o → ch2 q = some o ∧ sbs (on q) (on2 q)) (h : Rch vr ch on aw p) : Rch vr ch2 on2 aw p := fun X h1 h2 => h X h1 (fun q o c hq ho hc hn => h2 q o c hq (hs q o ho).1 hc (cCnt_mono (hs q o ho).2 hn))
end XK7
