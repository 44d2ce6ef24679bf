/-! the law's picture; its lock (printed by wip/p46/gen48.py) -/
section XKs
/-- a row of the law: target, condition, features, kind, three numbers -/
abbrev NR : Type := Nat × Int × Nat × Int × Int × Int × Int
def rT (r : NR) : Nat := r.1
def rC (r : NR) : Int := r.2.1
def rF (r : NR) : Nat := r.2.2.1
def rK (r : NR) : Int := r.2.2.2.1
def rA (r : NR) : Int := r.2.2.2.2.1
def rB (r : NR) : Int := r.2.2.2.2.2.1
def rD (r : NR) : Int := r.2.2.2.2.2.2
def crN (r : NR) : CR := mkC (rT r) (rC r) (rF r) (rK r) (mkM (rA r) (rB r) (rD r))
def c7 (r : NR) (j : Nat) : Int := if j = 0 then (rT r : Int) else if j = 1 then rC r else if j = 2 then (rF r : Int) else if j = 3 then rK r else if j = 4 then rA r else if j = 5 then rB r else rD r
def c5 (r : NR) (j : Nat) : Int := if j = 0 then (rT r : Int) else if j = 1 then rK r else if j = 2 then rA r else if j = 3 then rB r else rD r
def rw6 (r : NR) (j : Nat) : Int := if j = 0 then (rT r : Int) else if j = 1 then (rF r : Int) else if j = 2 then rK r else if j = 3 then rA r else if j = 4 then rB r else rD r
def rw7 (l : List NR) (i : Nat) : Int := match l[i / 7]? with
  | none => 0
  | some r => c7 r (i % 7)
def rw5 (l : List NR) (i : Nat) : Int := match l[i / 5]? with
  | none => 0
  | some r => c5 r (i % 5)
theorem rw7_at {l : List NR} {k : Nat} {r : NR} (h : l[k]? = some r) (j : Nat) (hj : j < 7) : rw7 l (7 * k + j) = c7 r j := by
  unfold rw7
  rw [show (7 * k + j) / 7 = k by omega, h, show (7 * k + j) % 7 = j by omega]
theorem rw5_at {l : List NR} {k : Nat} {r : NR} (h : l[k]? = some r) (j : Nat) (hj : j < 5) : rw5 l (5 * k + j) = c5 r j := by
  unfold rw5
  rw [show (5 * k + j) / 5 = k by omega, h, show (5 * k + j) % 5 = j by omega]
/-- an int array of the law that is not changed any more -/
def DI (H : HF) (i N : Nat) (f : Nat → Int) : Prop := (25 ≤ i ∧ i < 85 ∨ 119 ≤ i) ∧ H i = some (true, 0, aI N f)
/-- the law's cells: script, draws, packages, counts, sizes, withdrawn, numbers, needs, clashes, wishes; their ids -/
def LwP (H : HF) (q d P : Nat) (cnt : Nat → Nat) (siz : Nat → Nat → Int) (wdr : Nat → Nat → Bool) (num : Nat → Nat → Nat → Int) (nd kd : Nat → Nat → List NR) (ws : List NR) (nid qid kid : Nat → Nat → Nat) (wid : Nat → Nat) : Prop :=
  H 0 = some (false, 11, rgF q (d : Int) (P : Int) (ws.length : Int)) ∧ H 1 = some (true, 0, aNt 6 cnt) ∧
  (H 2 = some (true, 8, aR 6 (fun p => some (3 + p))) ∧ ∀ p, p < 6 → H (3 + p) = some (true, 6, aR 4 (fun v => if v < cnt p then some (nid p v) else none))) ∧
  (H 9 = some (true, 6, aR 6 (fun p => some (10 + p))) ∧ ∀ p, p < 6 → H (10 + p) = some (true, 0, aI 4 (siz p))) ∧
  (H 16 = some (true, 7, aR 6 (fun p => some (17 + p))) ∧ ∀ p, p < 6 → H (17 + p) = some (true, 1, aB 4 (wdr p))) ∧
  (H 23 = some (true, 8, aR 6 (fun p => some (24 + 5 * p))) ∧ ∀ p, p < 6 → H (24 + 5 * p) = some (true, 6, aR 4 (fun v => some (qid p v)))) ∧
  (H 54 = some (true, 8, aR 6 (fun p => some (55 + 5 * p))) ∧ ∀ p, p < 6 → H (55 + 5 * p) = some (true, 6, aR 4 (fun v => some (kid p v)))) ∧
  H 85 = some (true, 6, aR 6 (fun w => if w < ws.length then some (wid w) else none)) ∧
  (∀ p v, p < 6 → v < cnt p → DI H (nid p v) 3 (num p v)) ∧ (∀ p v, p < 6 → v < 4 → DI H (qid p v) (7 * (nd p v).length) (rw7 (nd p v))) ∧ (∀ p v, p < 6 → v < 4 → DI H (kid p v) (5 * (kd p v).length) (rw5 (kd p v))) ∧ ∀ w r, ws[w]? = some r → DI H (wid w) 6 (rw6 r)
theorem DI_lf {H G : HF} (h : LF H G) {i N : Nat} {f : Nat → Int} (hd : DI H i N f) : DI G i N f := by
  obtain ⟨a, b⟩ := hd
  refine ⟨a, ?_⟩
  rcases a with a | a
  · rw [h.1 i (by omega)]; exact b
  · exact h.2 i _ a b
theorem LwP_lf {H G : HF} (h : LF H G) {q d P : Nat} {cnt : Nat → Nat} {siz : Nat → Nat → Int} {wdr : Nat → Nat → Bool} {num : Nat → Nat → Nat → Int} {nd kd : Nat → Nat → List NR} {ws : List NR} {nid qid kid : Nat → Nat → Nat} {wid : Nat → Nat} (hl : LwP H q d P cnt siz wdr num nd kd ws nid qid kid wid) : LwP G q d P cnt siz wdr num nd kd ws nid qid kid wid := by
  obtain ⟨a, b, ⟨c, c2⟩, ⟨e, e2⟩, ⟨f, f2⟩, ⟨g, g2⟩, ⟨i, i2⟩, j, k1, k2, k3, k4⟩ := hl
  exact ⟨(h.1 _ (by omega)).trans a, (h.1 _ (by omega)).trans b, ⟨(h.1 _ (by omega)).trans c, fun p hp => (h.1 _ (by omega)).trans (c2 p hp)⟩, ⟨(h.1 _ (by omega)).trans e, fun p hp => (h.1 _ (by omega)).trans (e2 p hp)⟩, ⟨(h.1 _ (by omega)).trans f, fun p hp => (h.1 _ (by omega)).trans (f2 p hp)⟩, ⟨(h.1 _ (by omega)).trans g, fun p hp => (h.1 _ (by omega)).trans (g2 p hp)⟩, ⟨(h.1 _ (by omega)).trans i, fun p hp => (h.1 _ (by omega)).trans (i2 p hp)⟩, (h.1 _ (by omega)).trans j, fun p v hp hv => DI_lf h (k1 p v hp hv), fun p v hp hv => DI_lf h (k2 p v hp hv), fun p v hp hv => DI_lf h (k3 p v hp hv), fun w r hw => DI_lf h (k4 w r hw)⟩
/-- what is chosen, as the law writes it -/
def lkI (P : Nat) (vr : Nat → VR) (lk : Nat → Option Nat) (p : Nat) : Int := if p < P then nmOf vr (lk p) else -1
theorem t_lock_l {L : Nat} {ys : Nat → Int32} (hLs : L ≤ 100000) {q d x n : Nat} {W : Int} {P : Nat} {pid cnt : Nat → Nat} {vd gr : Nat → Nat → Nat} {vr : Nat → VR} {wl : List CR} {lk dk : Nat → Option Nat} {th : Bool} {pc pd : Nat} {kd : Nat → Int} {pp : Nat → Nat} {pb : Nat → Option Nat} {cl : List Nat} {cr dr lt fc : Int} {H : HF} (hA : AllB H P pid cnt vd gr vr wl lk dk th pc pd kd pp pb cl cr dr lt fc) (h0 : H 0 = some (false, 11, rgF q (d : Int) (P : Int) W)) {f0 : Nat → Int} (hx : 119 ≤ x) (h1 : H x = some (true, 0, aI 6 f0)) (hP6 : P ≤ 6) : ∀ (k j : Nat) (f : Nat → Int), j + k = P → (∀ p, f p = if p < j then nmOf vr (lk p) else -1) → Gw (some (L, ys)) xm141 7 [(0, .ref 0), (1, .ref x), (2, .int (zI (j : Int)))] [] (hup H x (true, 0, aI 6 f)) n 1 6 (MQe xm141 (fun v G m => v = some (.ref x) ∧ m = n ∧ G = hup H x (true, 0, aI 6 (lkI P vr lk)))) := by
  intro k
  induction k with
  | zero =>
    intro j f hj hf
    obtain rfl : j = P := by omega
    have e : f = lkI j vr lk := funext fun p => hf p
    have g0 : hup H x (true, 0, aI 6 f) 0 = some (false, 11, rgF q (d : Int) (j : Int) W) := by rw [upd_ne _ _ (by omega)]; exact h0
    refine Gq_s (pc' := 8) rfl rfl rfl ?_
    refine Gq_s (pc' := 9) rfl rfl rfl ?_
    refine Gq_get (pc' := 12) rfl rfl (by first | assumption | exact upd_eq _ _ _ | (refine (upd_ne _ _ (by omega)).trans ?_; first | assumption | exact upd_eq _ _ _ | (refine (upd_ne _ _ (by omega)).trans ?_; first | assumption | exact upd_eq _ _ _ | (refine (upd_ne _ _ (by omega)).trans ?_; first | assumption | exact upd_eq _ _ _)))) (by exact rfl) ?_
    refine Gq_cge (pc' := 15) (t := 32) rfl rfl rfl (by omega) (by omega) (fun _ => ?_) (fun hq => absurd (by omega) hq)
    refine Gq_s (pc' := 33) rfl rfl rfl ?_
    exact Gq_ret rfl rfl (rfl) (⟨rfl, rfl, by rw [e]⟩)
  | succ k ih =>
    intro j f hj hf
    have hA2 := AllB_ge (Ge_upd (d := (true, 0, aI 6 f)) (Ge_refl H) (.inr (.inr ⟨hx, _, h1⟩))) hA
    obtain ⟨hR, h86, -, ⟨L0, L1, hL⟩, -⟩ := hA2
    have g0 : hup H x (true, 0, aI 6 f) 0 = some (false, 11, rgF q (d : Int) (P : Int) W) := by rw [upd_ne _ _ (by omega)]; exact h0
    refine Gq_s (pc' := 8) rfl rfl rfl ?_
    refine Gq_s (pc' := 9) rfl rfl rfl ?_
    refine Gq_get (pc' := 12) rfl rfl (by first | assumption | exact upd_eq _ _ _ | (refine (upd_ne _ _ (by omega)).trans ?_; first | assumption | exact upd_eq _ _ _ | (refine (upd_ne _ _ (by omega)).trans ?_; first | assumption | exact upd_eq _ _ _ | (refine (upd_ne _ _ (by omega)).trans ?_; first | assumption | exact upd_eq _ _ _)))) (by exact rfl) ?_
    refine Gq_cge (pc' := 15) (t := 32) rfl rfl rfl (by omega) (by omega) (fun hq => absurd hq (by omega)) (fun _ => ?_)
    refine Gq_s (pc' := 16) rfl rfl rfl ?_
    refine Gq_s (pc' := 17) rfl rfl rfl ?_
    refine Gq_s (pc' := 18) rfl rfl rfl ?_
    refine Gq_get (pc' := 21) rfl rfl (by first | assumption | exact upd_eq _ _ _ | (refine (upd_ne _ _ (by omega)).trans ?_; first | assumption | exact upd_eq _ _ _ | (refine (upd_ne _ _ (by omega)).trans ?_; first | assumption | exact upd_eq _ _ _ | (refine (upd_ne _ _ (by omega)).trans ?_; first | assumption | exact upd_eq _ _ _)))) (by exact rfl) ?_
    refine Gq_s (pc' := 22) rfl rfl rfl ?_
    refine Gq_callv1 (pc' := 25) (Y := xm13) (rest := [_, _]) (st' := [_, _, _]) (ce' := 1) (sl' := 6) rfl rfl rfl rfl rfl rfl rfl rfl rfl (t_locked n hR h86 (show j < P by omega) hL L0 L1) rfl (by first | assumption | exact upd_eq _ _ _ | (refine (upd_ne _ _ (by omega)).trans ?_; first | assumption | exact upd_eq _ _ _ | (refine (upd_ne _ _ (by omega)).trans ?_; first | assumption | exact upd_eq _ _ _ | (refine (upd_ne _ _ (by omega)).trans ?_; first | assumption | exact upd_eq _ _ _)))) ?_
    refine Gq_iast (pc' := 26) rfl rfl (by first | assumption | exact upd_eq _ _ _ | (refine (upd_ne _ _ (by omega)).trans ?_; first | assumption | exact upd_eq _ _ _ | (refine (upd_ne _ _ (by omega)).trans ?_; first | assumption | exact upd_eq _ _ _ | (refine (upd_ne _ _ (by omega)).trans ?_; first | assumption | exact upd_eq _ _ _)))) (rfl) (by omega) (by omega) ?_
    rw [upd_upd]
    refine Gq_iinc (pc' := 29) (lv' := [(0, _), (1, _), (2, _)]) rfl rfl rfl rfl ?_
    refine Gq_goto rfl (t := 7) rfl ?_
    refine ih (j + 1) _ (by omega) (fun p => ?_)
    by_cases e : p = j
    · subst e
      rw [fset_eq, if_pos (by omega)]
    · rw [fset_ne _ _ e, hf p]
      by_cases e2 : p < j
      · rw [if_pos e2, if_pos (by omega)]
      · rw [if_neg e2, if_neg (by omega)]
theorem t_lock {L : Nat} {ys : Nat → Int32} (hLs : L ≤ 100000) {H : HF} (n : Nat) {q d : Nat} {W : Int} {P : Nat} {pid cnt : Nat → Nat} {vd gr : Nat → Nat → Nat} {vr : Nat → VR} {wl : List CR} {lk dk : Nat → Option Nat} {th : Bool} {pc pd : Nat} {kd : Nat → Int} {pp : Nat → Nat} {pb : Nat → Option Nat} {cl : List Nat} {cr dr lt fc : Int} (hA : AllB H P pid cnt vd gr vr wl lk dk th pc pd kd pp pb cl cr dr lt fc) (h0 : H 0 = some (false, 11, rgF q (d : Int) (P : Int) W)) (hP6 : P ≤ 6) : Rmt (some (L, ys)) 141 [.ref 0] H n (fun v G m => v = some (.ref n) ∧ m = n + 1 ∧ G n = some (true, 0, aI 6 (lkI P vr lk)) ∧ ∀ o, ¬ o = n → G o = H o) := by
  refine Rm_fr (fun hF => ?_)
  refine Rm_of (M := xm141) (lv := [(0, _)]) rfl rfl rfl ?_
  have hn : 119 ≤ n := by
    obtain ⟨-, -, -, -, -, -, -, -, -, -, -, -, ⟨a, b, c, hd, -, -, -, -, h9⟩⟩ := hA
    exact Fr_lt hF h9
  refine Gq_s (pc' := 1) rfl rfl rfl ?_
  refine Gq_callv (pc' := 4) (Y := xm140) (rest := []) (ce' := 1) (sl' := 6) rfl rfl rfl rfl rfl rfl rfl rfl rfl (t_nothing hLs n 0) (by first | assumption | exact upd_eq _ _ _ | (refine (upd_ne _ _ (by omega)).trans ?_; first | assumption | exact upd_eq _ _ _ | (refine (upd_ne _ _ (by omega)).trans ?_; first | assumption | exact upd_eq _ _ _ | (refine (upd_ne _ _ (by omega)).trans ?_; first | assumption | exact upd_eq _ _ _)))) (fun v1 H1 n1 hv => ?_)
  obtain ⟨rfl, rfl, e1, e2⟩ := hv
  have hA1 := AllB_ge (G := H1) (fun o c ho _ hc => by
    have := Fr_lt hF hc
    rw [e2 o (by omega)]
    exact hc) hA
  have k0 := (e2 0 (by omega)).trans h0
  refine Gq_s (pc' := 5) (lv' := [(0, _), (1, _)]) rfl rfl rfl ?_
  refine Gq_s (pc' := 6) rfl rfl rfl ?_
  refine Gq_s (pc' := 7) (lv' := [(0, _), (1, _), (2, _)]) rfl rfl rfl ?_
  have h9 := t_lock_l hLs (ys := ys) (n := n + 1) hA1 k0 hn e1 hP6 P 0 (fun _ => -1) (by omega) (fun p => by rw [if_neg (by omega)])
  rw [upd_self e1] at h9
  refine Gq_mq h9 ?_
  rintro v G m ⟨a, b, rfl⟩
  exact ⟨a, b, upd_eq _ _ _, fun o ho => (upd_ne _ _ ho).trans (e2 o ho)⟩
end XKs
