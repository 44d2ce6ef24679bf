/-! what goes together; needs as sets (printed by wip/p46/gen24.py) -/
section XK4
def grtB (vr : Nat → VR) (ch : Nat → Option Nat) (whole : Bool) (c : CR) : Bool :=
  match ch (cT c) with
  | none => !whole
  | some k => cIn c (vM (vr k))
def ndB (vr : Nat → VR) (ch : Nat → Option Nat) (whole : Bool) (f : Nat) (c : CR) : Bool := !(cCnt c f) || grtB vr ch whole c
def frB (vr : Nat → VR) (ch : Nat → Option Nat) (c : CR) : Bool :=
  match ch (cT c) with
  | none => true
  | some k => !(cIn c (vM (vr k)))
def pkB (vr : Nat → VR) (ch : Nat → Option Nat) (on : Nat → Nat) (whole : Bool) (p : Nat) : Bool :=
  match ch p with
  | none => true
  | some k => (vQ (vr k)).all (ndB vr ch whole (on p)) && (vK (vr k)).all (frB vr ch)
def allTo (f : Nat → Bool) : Nat → Bool
  | 0 => true
  | k + 1 => allTo f k && f k
theorem allTo_f {f : Nat → Bool} {j : Nat} (h : f j = false) : ∀ k, j < k → allTo f k = false
  | 0, hj => absurd hj (by omega)
  | k + 1, hj => by
    show (allTo f k && f k) = false
    by_cases e : j = k
    · subst e
      rw [h, Bool.and_false]
    · rw [allTo_f h k (by omega), Bool.false_and]
theorem allTo_i {f : Nat → Bool} : ∀ {k : Nat}, allTo f k = true → ∀ j, j < k → f j = true
  | 0, _, j, hj => absurd hj (by omega)
  | k + 1, h, j, hj => by
    have h' : (allTo f k && f k) = true := h
    rw [Bool.and_eq_true] at h'
    by_cases e : j = k
    · subst e
      exact h'.2
    · exact allTo_i h'.1 j (by omega)
theorem allTo_e {f g : Nat → Bool} : ∀ {k : Nat}, (∀ j, j < k → f j = g j) → allTo f k = allTo g k
  | 0, _ => rfl
  | k + 1, h => by
    show (allTo f k && f k) = (allTo g k && g k)
    rw [allTo_e (fun j hj => h j (by omega)), h k (by omega)]
/-- it goes together -/
def mtsB (vr : Nat → VR) (ch : Nat → Option Nat) (on : Nat → Nat) (wl : List CR) (whole : Bool) : Bool := wl.all (grtB vr ch whole) && allTo (pkB vr ch on whole) 12
/-- the set of what a package needs -/
def nm1 (f : Nat) (m : Nat) (c : CR) : Nat := if cCnt c f then m ||| 2 ^ cT c else m
def nMask (vr : Nat → VR) (ch : Nat → Option Nat) (on : Nat → Nat) (p : Nat) : Nat :=
  match ch p with
  | none => 0
  | some k => (vQ (vr k)).foldl (nm1 (on p)) 0
theorem nm1_lt {f m : Nat} {c : CR} (hm : m < 4096) (hc : cOK c) : nm1 f m c < 4096 := by
  unfold nm1
  split
  · exact Nat.or_lt_two_pow (n := 12) hm (Nat.pow_lt_pow_right (by omega) hc.1)
  · exact hm
theorem nm1s_lt {f : Nat} : ∀ {l : List CR} {m : Nat}, (∀ c ∈ l, cOK c) → m < 4096 → l.foldl (nm1 f) m < 4096
  | [], _, _, h => h
  | c :: t, m, hl, h => nm1s_lt (l := t) (fun d hd => hl d (List.mem_cons_of_mem _ hd)) (nm1_lt h (hl c List.mem_cons_self))
theorem nMask_lt {H : HF} {vr : Nat → VR} {V : Nat → Prop} {ch : Nat → Option Nat} {on : Nat → Nat} {p : Nat} (hvs : VsA H vr V) (hC : ChV V ch) (hp : p < 12) : nMask vr ch on p < 4096 := by
  unfold nMask
  cases hx : ch p with
  | none => exact (by decide : 0 < 4096)
  | some k =>
    obtain ⟨-, -, f, g, -, h4, -⟩ := hvs k (hC p k hp hx)
    exact nm1s_lt (ChainAt_ok h4) (by decide)
def nAny (vr : Nat → VR) (ch : Nat → Option Nat) (on : Nat → Nat) (x : Int32) : Nat → Nat
  | 0 => 0
  | k + 1 => if isInB x k then nAny vr ch on x k ||| nMask vr ch on k else nAny vr ch on x k
theorem nAny_lt {H : HF} {vr : Nat → VR} {V : Nat → Prop} {ch : Nat → Option Nat} {on : Nat → Nat} {x : Int32} (hvs : VsA H vr V) (hC : ChV V ch) : ∀ {k : Nat}, k ≤ 12 → nAny vr ch on x k < 4096
  | 0, _ => (by decide : 0 < 4096)
  | k + 1, hk => by
    unfold nAny
    split
    · exact Nat.or_lt_two_pow (n := 12) (nAny_lt hvs hC (by omega)) (nMask_lt hvs hC (by omega))
    · exact nAny_lt hvs hC (by omega)
def rchF (vr : Nat → VR) (ch : Nat → Option Nat) (on : Nat → Nat) : Nat → Nat → Nat
  | 0, m => m
  | k + 1, m => rchF vr ch on k (m ||| nAny vr ch on (zI (m : Int)) 12)
/-- the smallest of a set -/
def smal (x : Int32) : Nat → Nat → Int
  | 0, _ => -1
  | k + 1, j => if isInB x j then (j : Int) else smal x k (j + 1)
theorem t_grants {S : ScT} {H : HF} (n : Nat) {t q : Nat} {ch : Nat → Option Nat} {c : CR} {nx : Value} {whole : Bool} {vr : Nat → VR} {V : Nat → Prop} (hvs : VsA H vr V) (hC : ChV V ch) (h0 : H t = some (false, 2, [.ref (t + 1), .ref (t + 2)])) (h1 : H (t + 1) = some (true, 3, aR 12 ch)) (hc : ClaimAt H q c nx) : Rdt S 83 [.ref t, .ref q, .int (zI (bI whole))] H n (some (.int (zI (bI (grtB vr ch whole c))))) H n := by
  refine Rm_of (M := xm83) (lv := [(0, _), (1, _), (2, _)]) rfl rfl rfl ?_
  obtain ⟨hq, hok, r, hr, h4, h3⟩ := hc
  obtain ⟨hT, -⟩ := id hok
  refine Gq_s (pc' := 1) rfl rfl rfl ?_
  refine Gq_get (pc' := 4) rfl rfl (by first | assumption | exact upd_eq _ _ _ | (refine (upd_ne _ _ (by omega)).trans ?_; first | assumption | exact upd_eq _ _ _ | (refine (upd_ne _ _ (by omega)).trans ?_; first | assumption | exact upd_eq _ _ _ | (refine (upd_ne _ _ (by omega)).trans ?_; first | assumption | exact upd_eq _ _ _)))) (by exact rfl) ?_
  refine Gq_s (pc' := 5) rfl rfl rfl ?_
  refine Gq_get (pc' := 8) rfl rfl (by first | assumption | exact upd_eq _ _ _ | (refine (upd_ne _ _ (by omega)).trans ?_; first | assumption | exact upd_eq _ _ _ | (refine (upd_ne _ _ (by omega)).trans ?_; first | assumption | exact upd_eq _ _ _ | (refine (upd_ne _ _ (by omega)).trans ?_; first | assumption | exact upd_eq _ _ _)))) (by exact rfl) ?_
  refine Gq_aalx (pc' := 9) rfl rfl (by first | assumption | exact upd_eq _ _ _ | (refine (upd_ne _ _ (by omega)).trans ?_; first | assumption | exact upd_eq _ _ _ | (refine (upd_ne _ _ (by omega)).trans ?_; first | assumption | exact upd_eq _ _ _ | (refine (upd_ne _ _ (by omega)).trans ?_; first | assumption | exact upd_eq _ _ _)))) (by exact rfl) (rfl) (by omega) (by omega) (fun hx => ?_) (fun k hx => ?_)
  · refine Gq_s (pc' := 10) (lv' := [(0, _), (1, _), (2, _), (3, _)]) rfl rfl rfl ?_
    refine Gq_s (pc' := 11) rfl rfl rfl ?_
    refine Gq_non_n (pc' := 14) (t := 26) rfl rfl rfl ?_
    refine Gq_s (pc' := 15) rfl rfl rfl ?_
    refine Gq_bne (pc' := 18) (t := 22) rfl rfl rfl (fun hb => ?_) (fun hb => ?_)
    · refine Gq_s (pc' := 23) rfl rfl rfl ?_
      refine Gq_goto rfl (t := 34) rfl ?_
      exact Gq_ret rfl rfl (rfl) (⟨by unfold grtB; rw [hx, hb]; rfl, rfl, rfl⟩)
    · refine Gq_s (pc' := 19) rfl rfl rfl ?_
      refine Gq_goto rfl (t := 34) rfl ?_
      exact Gq_ret rfl rfl (rfl) (⟨by unfold grtB; rw [hx, hb]; rfl, rfl, rfl⟩)
  · refine Gq_s (pc' := 10) (lv' := [(0, _), (1, _), (2, _), (3, _)]) rfl rfl rfl ?_
    refine Gq_s (pc' := 11) rfl rfl rfl ?_
    refine Gq_non_r rfl (t := 26) rfl ?_
    refine Gq_s (pc' := 27) rfl rfl rfl ?_
    refine Gq_get (pc' := 30) rfl rfl (by first | assumption | exact upd_eq _ _ _ | (refine (upd_ne _ _ (by omega)).trans ?_; first | assumption | exact upd_eq _ _ _ | (refine (upd_ne _ _ (by omega)).trans ?_; first | assumption | exact upd_eq _ _ _ | (refine (upd_ne _ _ (by omega)).trans ?_; first | assumption | exact upd_eq _ _ _)))) (by exact rfl) ?_
    refine Gq_s (pc' := 31) rfl rfl rfl ?_
    refine Gq_callv1 (pc' := 34) (Y := xm107) (rest := []) (st' := [_]) (ce' := 0) (sl' := 0) rfl rfl rfl rfl rfl rfl rfl rfl rfl (t_admits n h4 hok (hvs k (hC _ k hT hx))) rfl (by first | assumption | exact upd_eq _ _ _ | (refine (upd_ne _ _ (by omega)).trans ?_; first | assumption | exact upd_eq _ _ _ | (refine (upd_ne _ _ (by omega)).trans ?_; first | assumption | exact upd_eq _ _ _ | (refine (upd_ne _ _ (by omega)).trans ?_; first | assumption | exact upd_eq _ _ _)))) ?_
    exact Gq_ret rfl rfl (xret_b _) (⟨by unfold grtB; rw [hx], rfl, rfl⟩)
theorem t_gn_l {S : ScT} {H : HF} {n t o : Nat} {ch : Nat → Option Nat} {whole : Bool} {vr : Nat → VR} {V : Nat → Prop} (hvs : VsA H vr V) (hC : ChV V ch) (h0 : H t = some (false, 2, [.ref (t + 1), .ref (t + 2)])) (h1 : H (t + 1) = some (true, 3, aR 12 ch)) {f : Nat} (hf : f < 16) : ∀ (l : List CR) (x : Option Nat), ChnAt H x l → Gw S xm84 6 [(0, .ref t), (1, .ref o), (2, .int (zI (f : Int))), (3, .int (zI (bI whole))), (4, rvl x)] [] H n 0 0 (MQe xm84 (fun v G m => v = some (.int (zI (bI (l.all (ndB vr ch whole f))))) ∧ G = H ∧ m = n)) := by
  intro l
  induction l with
  | nil =>
    intro x hl
    obtain rfl : x = none := hl
    refine Gq_s (pc' := 8) rfl rfl rfl ?_
    refine Gq_nul_n rfl (t := 42) rfl ?_
    refine Gq_s (pc' := 43) rfl rfl rfl ?_
    exact Gq_ret rfl rfl (rfl) (⟨rfl, rfl, rfl⟩)
  | cons c l ih =>
    intro x hl
    obtain ⟨q, nx, rfl, hcl, hch⟩ := hl
    have hcl0 := hcl
    obtain ⟨hq, hok, r, -, -, h3⟩ := hcl0
    refine Gq_s (pc' := 8) rfl rfl rfl ?_
    refine Gq_nul_r (pc' := 11) (t := 42) rfl rfl rfl ?_
    refine Gq_s (pc' := 13) rfl rfl rfl ?_
    refine Gq_s (pc' := 14) rfl rfl rfl ?_
    refine Gq_callv1 (pc' := 17) (Y := xm90) (rest := []) (st' := [_]) (ce' := 0) (sl' := 0) rfl rfl rfl rfl rfl rfl rfl rfl rfl (t_countsWith n hcl hf) rfl (by first | assumption | exact upd_eq _ _ _ | (refine (upd_ne _ _ (by omega)).trans ?_; first | assumption | exact upd_eq _ _ _ | (refine (upd_ne _ _ (by omega)).trans ?_; first | assumption | exact upd_eq _ _ _ | (refine (upd_ne _ _ (by omega)).trans ?_; first | assumption | exact upd_eq _ _ _)))) ?_
    refine Gq_beq (pc' := 20) (t := 32) rfl rfl rfl (fun hb => ?_) (fun hb => ?_)
    · refine Gq_s (pc' := 34) rfl rfl rfl ?_
      refine Gq_get (pc' := 37) rfl rfl (by first | assumption | exact upd_eq _ _ _ | (refine (upd_ne _ _ (by omega)).trans ?_; first | assumption | exact upd_eq _ _ _ | (refine (upd_ne _ _ (by omega)).trans ?_; first | assumption | exact upd_eq _ _ _ | (refine (upd_ne _ _ (by omega)).trans ?_; first | assumption | exact upd_eq _ _ _)))) (by exact rfl) ?_
      refine Gq_astv (pc' := 39) (lv' := [(0, _), (1, _), (2, _), (3, _), (4, _)]) (k := 4) rfl (fun _ _ => rfl) rfl rfl ?_
      refine Gq_goto rfl (t := 6) rfl ?_
      have e : (c :: l).all (ndB vr ch whole f) = l.all (ndB vr ch whole f) := by
        rw [List.all_cons, ndB, hb]
        rfl
      rw [e]
      exact ih nx hch
    · refine Gq_s (pc' := 21) rfl rfl rfl ?_
      refine Gq_s (pc' := 23) rfl rfl rfl ?_
      refine Gq_s (pc' := 24) rfl rfl rfl ?_
      refine Gq_callv1 (pc' := 27) (Y := xm83) (rest := []) (st' := [_]) (ce' := 0) (sl' := 0) rfl rfl rfl rfl rfl rfl rfl rfl rfl (t_grants n hvs hC h0 h1 hcl) rfl (by first | assumption | exact upd_eq _ _ _ | (refine (upd_ne _ _ (by omega)).trans ?_; first | assumption | exact upd_eq _ _ _ | (refine (upd_ne _ _ (by omega)).trans ?_; first | assumption | exact upd_eq _ _ _ | (refine (upd_ne _ _ (by omega)).trans ?_; first | assumption | exact upd_eq _ _ _)))) ?_
      refine Gq_bne (pc' := 30) (t := 32) rfl rfl rfl (fun hg => ?_) (fun hg => ?_)
      · refine Gq_s (pc' := 34) rfl rfl rfl ?_
        refine Gq_get (pc' := 37) rfl rfl (by first | assumption | exact upd_eq _ _ _ | (refine (upd_ne _ _ (by omega)).trans ?_; first | assumption | exact upd_eq _ _ _ | (refine (upd_ne _ _ (by omega)).trans ?_; first | assumption | exact upd_eq _ _ _ | (refine (upd_ne _ _ (by omega)).trans ?_; first | assumption | exact upd_eq _ _ _)))) (by exact rfl) ?_
        refine Gq_astv (pc' := 39) (lv' := [(0, _), (1, _), (2, _), (3, _), (4, _)]) (k := 4) rfl (fun _ _ => rfl) rfl rfl ?_
        refine Gq_goto rfl (t := 6) rfl ?_
        have e : (c :: l).all (ndB vr ch whole f) = l.all (ndB vr ch whole f) := by
          rw [List.all_cons, ndB, hg, Bool.or_true]
          rfl
        rw [e]
        exact ih nx hch
      · refine Gq_s (pc' := 31) rfl rfl rfl ?_
        exact Gq_ret rfl rfl (rfl) (⟨by rw [List.all_cons, ndB, hg, hb]; rfl, rfl, rfl⟩)
theorem t_gn {S : ScT} {H : HF} {n t o : Nat} {ch : Nat → Option Nat} {whole : Bool} {vr : Nat → VR} {V : Nat → Prop} (hvs : VsA H vr V) (hC : ChV V ch) (h0 : H t = some (false, 2, [.ref (t + 1), .ref (t + 2)])) (h1 : H (t + 1) = some (true, 3, aR 12 ch)) {f : Nat} (hf : f < 16) {v : VR} (hv : VerAt H o v) : Rdt S 84 [.ref t, .ref o, .int (zI (f : Int)), .int (zI (bI whole))] H n (some (.int (zI (bI ((vQ v).all (ndB vr ch whole f)))))) H n := by
  refine Rm_of (M := xm84) (lv := [(0, _), (1, _), (2, _), (3, _)]) rfl rfl rfl ?_
  obtain ⟨-, -, x, y, h3, h4, -⟩ := hv
  refine Gq_s (pc' := 1) rfl rfl rfl ?_
  refine Gq_get (pc' := 4) rfl rfl (by first | assumption | exact upd_eq _ _ _ | (refine (upd_ne _ _ (by omega)).trans ?_; first | assumption | exact upd_eq _ _ _ | (refine (upd_ne _ _ (by omega)).trans ?_; first | assumption | exact upd_eq _ _ _ | (refine (upd_ne _ _ (by omega)).trans ?_; first | assumption | exact upd_eq _ _ _)))) (by exact rfl) ?_
  refine Gq_astv (pc' := 6) (lv' := [(0, _), (1, _), (2, _), (3, _), (4, _)]) (k := 4) rfl (fun _ _ => rfl) rfl rfl ?_
  exact t_gn_l hvs hC h0 h1 hf _ x h4
theorem t_fr_l {S : ScT} {H : HF} {n t o : Nat} {ch : Nat → Option Nat} {vr : Nat → VR} {V : Nat → Prop} (hvs : VsA H vr V) (hC : ChV V ch) (h0 : H t = some (false, 2, [.ref (t + 1), .ref (t + 2)])) (h1 : H (t + 1) = some (true, 3, aR 12 ch)) : ∀ (l : List CR) (x : Option Nat) (ex : XL), (ex = [] ∨ ∃ v, ex = [(3, v)]) → ChnAt H x l → Gw S xm85 5 ((0, .ref t) :: (1, .ref o) :: (2, rvl x) :: ex) [] H n 0 0 (MQe xm85 (fun v G m => v = some (.int (zI (bI (l.all (frB vr ch))))) ∧ G = H ∧ m = n)) := by
  intro l
  induction l with
  | nil =>
    intro x ex hex hl
    obtain rfl : x = none := hl
    refine Gq_s (pc' := 6) rfl rfl rfl ?_
    refine Gq_nul_n rfl (t := 44) rfl ?_
    refine Gq_s (pc' := 45) rfl rfl rfl ?_
    exact Gq_ret rfl rfl (rfl) (⟨rfl, rfl, rfl⟩)
  | cons c l ih =>
    intro x ex hex hl
    obtain ⟨q, nx, rfl, hcl, hch⟩ := hl
    obtain ⟨hq, hok, r, hr, h4, h3⟩ := hcl
    obtain ⟨hT, -⟩ := id hok
    refine Gq_s (pc' := 6) rfl rfl rfl ?_
    refine Gq_nul_r (pc' := 9) (t := 44) rfl rfl rfl ?_
    refine Gq_s (pc' := 10) rfl rfl rfl ?_
    refine Gq_get (pc' := 13) rfl rfl (by first | assumption | exact upd_eq _ _ _ | (refine (upd_ne _ _ (by omega)).trans ?_; first | assumption | exact upd_eq _ _ _ | (refine (upd_ne _ _ (by omega)).trans ?_; first | assumption | exact upd_eq _ _ _ | (refine (upd_ne _ _ (by omega)).trans ?_; first | assumption | exact upd_eq _ _ _)))) (by exact rfl) ?_
    refine Gq_s (pc' := 14) rfl rfl rfl ?_
    refine Gq_get (pc' := 17) rfl rfl (by first | assumption | exact upd_eq _ _ _ | (refine (upd_ne _ _ (by omega)).trans ?_; first | assumption | exact upd_eq _ _ _ | (refine (upd_ne _ _ (by omega)).trans ?_; first | assumption | exact upd_eq _ _ _ | (refine (upd_ne _ _ (by omega)).trans ?_; first | assumption | exact upd_eq _ _ _)))) (by exact rfl) ?_
    refine Gq_aalx (pc' := 18) rfl rfl (by first | assumption | exact upd_eq _ _ _ | (refine (upd_ne _ _ (by omega)).trans ?_; first | assumption | exact upd_eq _ _ _ | (refine (upd_ne _ _ (by omega)).trans ?_; first | assumption | exact upd_eq _ _ _ | (refine (upd_ne _ _ (by omega)).trans ?_; first | assumption | exact upd_eq _ _ _)))) (by exact rfl) (rfl) (by omega) (by omega) (fun hx => ?_) (fun k hx => ?_)
    · refine Gq_st1 (pc' := 19) (lv' := [(0, _), (1, _), (2, _), (3, _)]) (k := 3) rfl (fun _ => rfl) rfl (xst1_ex (pre := [(0, _), (1, _), (2, _)]) hex rfl) ?_
      refine Gq_s (pc' := 20) rfl rfl rfl ?_
      refine Gq_nul_n rfl (t := 36) rfl ?_
      refine Gq_s (pc' := 37) rfl rfl rfl ?_
      refine Gq_get (pc' := 40) rfl rfl (by first | assumption | exact upd_eq _ _ _ | (refine (upd_ne _ _ (by omega)).trans ?_; first | assumption | exact upd_eq _ _ _ | (refine (upd_ne _ _ (by omega)).trans ?_; first | assumption | exact upd_eq _ _ _ | (refine (upd_ne _ _ (by omega)).trans ?_; first | assumption | exact upd_eq _ _ _)))) (by exact rfl) ?_
      refine Gq_astv (pc' := 41) (lv' := [(0, _), (1, _), (2, _), (3, _)]) (k := 2) rfl (fun _ _ => rfl) rfl rfl ?_
      refine Gq_goto rfl (t := 5) rfl ?_
      have e : (c :: l).all (frB vr ch) = l.all (frB vr ch) := by
        rw [List.all_cons, frB, hx]
        rfl
      rw [e]
      exact ih nx _ (.inr ⟨_, rfl⟩) hch
    · refine Gq_st1 (pc' := 19) (lv' := [(0, _), (1, _), (2, _), (3, _)]) (k := 3) rfl (fun _ => rfl) rfl (xst1_ex (pre := [(0, _), (1, _), (2, _)]) hex rfl) ?_
      refine Gq_s (pc' := 20) rfl rfl rfl ?_
      refine Gq_nul_r (pc' := 23) (t := 36) rfl rfl rfl ?_
      refine Gq_s (pc' := 24) rfl rfl rfl ?_
      refine Gq_get (pc' := 27) rfl rfl (by first | assumption | exact upd_eq _ _ _ | (refine (upd_ne _ _ (by omega)).trans ?_; first | assumption | exact upd_eq _ _ _ | (refine (upd_ne _ _ (by omega)).trans ?_; first | assumption | exact upd_eq _ _ _ | (refine (upd_ne _ _ (by omega)).trans ?_; first | assumption | exact upd_eq _ _ _)))) (by exact rfl) ?_
      refine Gq_s (pc' := 28) rfl rfl rfl ?_
      refine Gq_callv1 (pc' := 31) (Y := xm107) (rest := []) (st' := [_]) (ce' := 0) (sl' := 0) rfl rfl rfl rfl rfl rfl rfl rfl rfl (t_admits n h4 hok (hvs k (hC _ k hT hx))) rfl (by first | assumption | exact upd_eq _ _ _ | (refine (upd_ne _ _ (by omega)).trans ?_; first | assumption | exact upd_eq _ _ _ | (refine (upd_ne _ _ (by omega)).trans ?_; first | assumption | exact upd_eq _ _ _ | (refine (upd_ne _ _ (by omega)).trans ?_; first | assumption | exact upd_eq _ _ _)))) ?_
      refine Gq_beq (pc' := 34) (t := 36) rfl rfl rfl (fun hg => ?_) (fun hg => ?_)
      · refine Gq_s (pc' := 37) rfl rfl rfl ?_
        refine Gq_get (pc' := 40) rfl rfl (by first | assumption | exact upd_eq _ _ _ | (refine (upd_ne _ _ (by omega)).trans ?_; first | assumption | exact upd_eq _ _ _ | (refine (upd_ne _ _ (by omega)).trans ?_; first | assumption | exact upd_eq _ _ _ | (refine (upd_ne _ _ (by omega)).trans ?_; first | assumption | exact upd_eq _ _ _)))) (by exact rfl) ?_
        refine Gq_astv (pc' := 41) (lv' := [(0, _), (1, _), (2, _), (3, _)]) (k := 2) rfl (fun _ _ => rfl) rfl rfl ?_
        refine Gq_goto rfl (t := 5) rfl ?_
        have e : (c :: l).all (frB vr ch) = l.all (frB vr ch) := by
          rw [List.all_cons, frB, hx]
          dsimp only
          rw [hg]
          rfl
        rw [e]
        exact ih nx _ (.inr ⟨_, rfl⟩) hch
      · refine Gq_s (pc' := 35) rfl rfl rfl ?_
        exact Gq_ret rfl rfl (rfl) (⟨by rw [List.all_cons, frB, hx]; dsimp only; rw [hg]; rfl, rfl, rfl⟩)
theorem t_free {S : ScT} {H : HF} {n t o : Nat} {ch : Nat → Option Nat} {vr : Nat → VR} {V : Nat → Prop} (hvs : VsA H vr V) (hC : ChV V ch) (h0 : H t = some (false, 2, [.ref (t + 1), .ref (t + 2)])) (h1 : H (t + 1) = some (true, 3, aR 12 ch)) {v : VR} (hv : VerAt H o v) : Rdt S 85 [.ref t, .ref o] H n (some (.int (zI (bI ((vK v).all (frB vr ch)))))) H n := by
  refine Rm_of (M := xm85) (lv := [(0, _), (1, _)]) rfl rfl rfl ?_
  obtain ⟨-, -, x, y, h3, -, h5⟩ := hv
  refine Gq_s (pc' := 1) rfl rfl rfl ?_
  refine Gq_get (pc' := 4) rfl rfl (by first | assumption | exact upd_eq _ _ _ | (refine (upd_ne _ _ (by omega)).trans ?_; first | assumption | exact upd_eq _ _ _ | (refine (upd_ne _ _ (by omega)).trans ?_; first | assumption | exact upd_eq _ _ _ | (refine (upd_ne _ _ (by omega)).trans ?_; first | assumption | exact upd_eq _ _ _)))) (by exact rfl) ?_
  refine Gq_astv (pc' := 5) (lv' := [(0, _), (1, _), (2, _)]) (k := 2) rfl (fun _ _ => rfl) rfl rfl ?_
  exact t_fr_l hvs hC h0 h1 _ y [] (.inl rfl) h5
theorem t_meets_b {S : ScT} {H : HF} {n t w : Nat} {ch : Nat → Option Nat} {on : Nat → Nat} {whole : Bool} {wl : List CR} {vr : Nat → VR} {V : Nat → Prop} (hvs : VsA H vr V) (hC : ChV V ch) (h0 : H t = some (false, 2, [.ref (t + 1), .ref (t + 2)])) (h1 : H (t + 1) = some (true, 3, aR 12 ch)) (h2 : H (t + 2) = some (true, 0, aNt 12 on)) (ho : o16 on) : ∀ (k j : Nat) (ex : XL), j + k = 12 → (ex = [] ∨ ∃ v, ex = [(4, v)]) → allTo (pkB vr ch on whole) j = true → Gw S xm82 34 ((0, .ref t) :: (1, .ref w) :: (2, .int (zI (bI whole))) :: (3, .int (zI (j : Int))) :: ex) [] H n 0 0 (MQe xm82 (fun v G m => v = some (.int (zI (bI (allTo (pkB vr ch on whole) 12)))) ∧ G = H ∧ m = n)) := by
  intro k
  induction k with
  | zero =>
    intro j ex hj hex hA
    obtain rfl : j = 12 := by omega
    refine Gq_s (pc' := 35) rfl rfl rfl ?_
    refine Gq_bipush (pc' := 37) rfl rfl (by decide) ?_
    refine Gq_cge (pc' := 40) (t := 86) rfl rfl rfl (by omega) (by omega) (fun _ => ?_) (fun hq => absurd (by omega) hq)
    refine Gq_s (pc' := 87) rfl rfl rfl ?_
    exact Gq_ret rfl rfl (rfl) (⟨by rw [hA]; rfl, rfl, rfl⟩)
  | succ k ih =>
    intro j ex hj hex hA
    refine Gq_s (pc' := 35) rfl rfl rfl ?_
    refine Gq_bipush (pc' := 37) rfl rfl (by decide) ?_
    refine Gq_cge (pc' := 40) (t := 86) rfl rfl rfl (by omega) (by omega) (fun hq => absurd hq (by omega)) (fun _ => ?_)
    refine Gq_s (pc' := 41) rfl rfl rfl ?_
    refine Gq_get (pc' := 44) rfl rfl (by first | assumption | exact upd_eq _ _ _ | (refine (upd_ne _ _ (by omega)).trans ?_; first | assumption | exact upd_eq _ _ _ | (refine (upd_ne _ _ (by omega)).trans ?_; first | assumption | exact upd_eq _ _ _ | (refine (upd_ne _ _ (by omega)).trans ?_; first | assumption | exact upd_eq _ _ _)))) (by exact rfl) ?_
    refine Gq_s (pc' := 45) rfl rfl rfl ?_
    refine Gq_aalx (pc' := 46) rfl rfl (by first | assumption | exact upd_eq _ _ _ | (refine (upd_ne _ _ (by omega)).trans ?_; first | assumption | exact upd_eq _ _ _ | (refine (upd_ne _ _ (by omega)).trans ?_; first | assumption | exact upd_eq _ _ _ | (refine (upd_ne _ _ (by omega)).trans ?_; first | assumption | exact upd_eq _ _ _)))) (by exact rfl) (rfl) (by omega) (by omega) (fun hx => ?_) (fun q hx => ?_)
    · refine Gq_st1 (pc' := 48) (lv' := [(0, _), (1, _), (2, _), (3, _), (4, _)]) (k := 4) rfl (fun _ => rfl) rfl (xst1_ex (pre := [(0, _), (1, _), (2, _), (3, _)]) hex rfl) ?_
      refine Gq_s (pc' := 50) rfl rfl rfl ?_
      refine Gq_nul_n rfl (t := 80) rfl ?_
      refine Gq_iinc (pc' := 83) (lv' := [(0, _), (1, _), (2, _), (3, _), (4, _)]) rfl rfl rfl rfl ?_
      refine Gq_goto rfl (t := 34) rfl ?_
      exact ih (j + 1) _ (by omega) (.inr ⟨_, rfl⟩) (by
        show (allTo _ j && pkB vr ch on whole j) = true
        rw [hA, pkB, hx]
        rfl)
    · have hq := hvs q (hC j q (by omega) hx)
      refine Gq_st1 (pc' := 48) (lv' := [(0, _), (1, _), (2, _), (3, _), (4, _)]) (k := 4) rfl (fun _ => rfl) rfl (xst1_ex (pre := [(0, _), (1, _), (2, _), (3, _)]) hex rfl) ?_
      refine Gq_s (pc' := 50) rfl rfl rfl ?_
      refine Gq_nul_r (pc' := 53) (t := 80) rfl rfl rfl ?_
      refine Gq_s (pc' := 54) rfl rfl rfl ?_
      refine Gq_s (pc' := 56) rfl rfl rfl ?_
      refine Gq_s (pc' := 57) rfl rfl rfl ?_
      refine Gq_get (pc' := 60) rfl rfl (by first | assumption | exact upd_eq _ _ _ | (refine (upd_ne _ _ (by omega)).trans ?_; first | assumption | exact upd_eq _ _ _ | (refine (upd_ne _ _ (by omega)).trans ?_; first | assumption | exact upd_eq _ _ _ | (refine (upd_ne _ _ (by omega)).trans ?_; first | assumption | exact upd_eq _ _ _)))) (by exact rfl) ?_
      refine Gq_s (pc' := 61) rfl rfl rfl ?_
      refine Gq_iald (pc' := 62) rfl rfl (by first | assumption | exact upd_eq _ _ _ | (refine (upd_ne _ _ (by omega)).trans ?_; first | assumption | exact upd_eq _ _ _ | (refine (upd_ne _ _ (by omega)).trans ?_; first | assumption | exact upd_eq _ _ _ | (refine (upd_ne _ _ (by omega)).trans ?_; first | assumption | exact upd_eq _ _ _)))) (rfl) (by omega) (by omega) ?_
      refine Gq_s (pc' := 63) rfl rfl rfl ?_
      refine Gq_callv1 (pc' := 66) (Y := xm84) (rest := []) (st' := [_]) (ce' := 0) (sl' := 0) rfl rfl rfl rfl rfl rfl rfl rfl rfl (t_gn hvs hC h0 h1 (ho j) hq) rfl (by first | assumption | exact upd_eq _ _ _ | (refine (upd_ne _ _ (by omega)).trans ?_; first | assumption | exact upd_eq _ _ _ | (refine (upd_ne _ _ (by omega)).trans ?_; first | assumption | exact upd_eq _ _ _ | (refine (upd_ne _ _ (by omega)).trans ?_; first | assumption | exact upd_eq _ _ _)))) ?_
      refine Gq_beq (pc' := 69) (t := 78) rfl rfl rfl (fun hb => ?_) (fun hb => ?_)
      · refine Gq_s (pc' := 79) rfl rfl rfl ?_
        exact Gq_ret rfl rfl (rfl) (⟨by rw [allTo_f (j := j) (by rw [pkB, hx]; dsimp only; rw [hb]; rfl) 12 (by omega)]; rfl, rfl, rfl⟩)
      · refine Gq_s (pc' := 70) rfl rfl rfl ?_
        refine Gq_s (pc' := 72) rfl rfl rfl ?_
        refine Gq_callv1 (pc' := 75) (Y := xm85) (rest := []) (st' := [_]) (ce' := 0) (sl' := 0) rfl rfl rfl rfl rfl rfl rfl rfl rfl (t_free hvs hC h0 h1 hq) rfl (by first | assumption | exact upd_eq _ _ _ | (refine (upd_ne _ _ (by omega)).trans ?_; first | assumption | exact upd_eq _ _ _ | (refine (upd_ne _ _ (by omega)).trans ?_; first | assumption | exact upd_eq _ _ _ | (refine (upd_ne _ _ (by omega)).trans ?_; first | assumption | exact upd_eq _ _ _)))) ?_
        refine Gq_bne (pc' := 78) (t := 80) rfl rfl rfl (fun hg => ?_) (fun hg => ?_)
        · refine Gq_iinc (pc' := 83) (lv' := [(0, _), (1, _), (2, _), (3, _), (4, _)]) rfl rfl rfl rfl ?_
          refine Gq_goto rfl (t := 34) rfl ?_
          exact ih (j + 1) _ (by omega) (.inr ⟨_, rfl⟩) (by
            show (allTo _ j && pkB vr ch on whole j) = true
            rw [hA, pkB, hx]
            dsimp only
            rw [hb, hg]
            rfl)
        · refine Gq_s (pc' := 79) rfl rfl rfl ?_
          exact Gq_ret rfl rfl (rfl) (⟨by rw [allTo_f (j := j) (by rw [pkB, hx]; dsimp only; rw [hg, Bool.and_false]) 12 (by omega)]; rfl, rfl, rfl⟩)
theorem t_meets_a {S : ScT} {H : HF} {n t w : Nat} {ch : Nat → Option Nat} {on : Nat → Nat} {whole : Bool} {wl : List CR} {vr : Nat → VR} {V : Nat → Prop} (hvs : VsA H vr V) (hC : ChV V ch) (h0 : H t = some (false, 2, [.ref (t + 1), .ref (t + 2)])) (h1 : H (t + 1) = some (true, 3, aR 12 ch)) (h2 : H (t + 2) = some (true, 0, aNt 12 on)) (ho : o16 on) (hW : WiAt H w wl) : ∀ (k j : Nat), j + k = wl.length → Gw S xm82 2 [(0, .ref t), (1, .ref w), (2, .int (zI (bI whole))), (3, .int (zI (j : Int)))] [] H n 0 0 (MQe xm82 (fun v G m => v = some (.int (zI (bI ((wl.drop j).all (grtB vr ch whole) && allTo (pkB vr ch on whole) 12)))) ∧ G = H ∧ m = n)) := by
  obtain ⟨h3, hL, wc, h4, h5⟩ := hW
  intro k
  induction k with
  | zero =>
    intro j hj
    obtain rfl : j = wl.length := by omega
    refine Gq_s (pc' := 3) rfl rfl rfl ?_
    refine Gq_s (pc' := 4) rfl rfl rfl ?_
    refine Gq_get (pc' := 7) rfl rfl (by first | assumption | exact upd_eq _ _ _ | (refine (upd_ne _ _ (by omega)).trans ?_; first | assumption | exact upd_eq _ _ _ | (refine (upd_ne _ _ (by omega)).trans ?_; first | assumption | exact upd_eq _ _ _ | (refine (upd_ne _ _ (by omega)).trans ?_; first | assumption | exact upd_eq _ _ _)))) (by exact rfl) ?_
    refine Gq_cge (pc' := 10) (t := 32) rfl rfl rfl (by omega) (by omega) (fun _ => ?_) (fun hq => absurd (by omega) hq)
    refine Gq_s (pc' := 33) rfl rfl rfl ?_
    refine Gq_s (pc' := 34) (lv' := [(0, _), (1, _), (2, _), (3, _)]) rfl rfl rfl ?_
    rw [List.drop_length]
    exact t_meets_b (wl := wl) hvs hC h0 h1 h2 ho 12 0 [] rfl (.inl rfl) rfl
  | succ k ih =>
    intro j hj
    have hjl : j < wl.length := by omega
    obtain ⟨q, nx, h6, h7⟩ := h5 j wl[j] (List.getElem?_eq_getElem hjl)
    refine Gq_s (pc' := 3) rfl rfl rfl ?_
    refine Gq_s (pc' := 4) rfl rfl rfl ?_
    refine Gq_get (pc' := 7) rfl rfl (by first | assumption | exact upd_eq _ _ _ | (refine (upd_ne _ _ (by omega)).trans ?_; first | assumption | exact upd_eq _ _ _ | (refine (upd_ne _ _ (by omega)).trans ?_; first | assumption | exact upd_eq _ _ _ | (refine (upd_ne _ _ (by omega)).trans ?_; first | assumption | exact upd_eq _ _ _)))) (by exact rfl) ?_
    refine Gq_cge (pc' := 10) (t := 32) rfl rfl rfl (by omega) (by omega) (fun hq => absurd hq (by omega)) (fun _ => ?_)
    refine Gq_s (pc' := 11) rfl rfl rfl ?_
    refine Gq_s (pc' := 12) rfl rfl rfl ?_
    refine Gq_get (pc' := 15) rfl rfl (by first | assumption | exact upd_eq _ _ _ | (refine (upd_ne _ _ (by omega)).trans ?_; first | assumption | exact upd_eq _ _ _ | (refine (upd_ne _ _ (by omega)).trans ?_; first | assumption | exact upd_eq _ _ _ | (refine (upd_ne _ _ (by omega)).trans ?_; first | assumption | exact upd_eq _ _ _)))) (by exact rfl) ?_
    refine Gq_s (pc' := 16) rfl rfl rfl ?_
    refine Gq_aald (pc' := 17) rfl rfl (by first | assumption | exact upd_eq _ _ _ | (refine (upd_ne _ _ (by omega)).trans ?_; first | assumption | exact upd_eq _ _ _ | (refine (upd_ne _ _ (by omega)).trans ?_; first | assumption | exact upd_eq _ _ _ | (refine (upd_ne _ _ (by omega)).trans ?_; first | assumption | exact upd_eq _ _ _)))) (by exact rfl) (rfl) (by omega) (by omega) (rv_s h6) ?_
    refine Gq_s (pc' := 18) rfl rfl rfl ?_
    refine Gq_callv1 (pc' := 21) (Y := xm83) (rest := []) (st' := [_]) (ce' := 0) (sl' := 0) rfl rfl rfl rfl rfl rfl rfl rfl rfl (t_grants n hvs hC h0 h1 h7) rfl (by first | assumption | exact upd_eq _ _ _ | (refine (upd_ne _ _ (by omega)).trans ?_; first | assumption | exact upd_eq _ _ _ | (refine (upd_ne _ _ (by omega)).trans ?_; first | assumption | exact upd_eq _ _ _ | (refine (upd_ne _ _ (by omega)).trans ?_; first | assumption | exact upd_eq _ _ _)))) ?_
    refine Gq_bne (pc' := 24) (t := 26) rfl rfl rfl (fun hg => ?_) (fun hg => ?_)
    · refine Gq_iinc (pc' := 29) (lv' := [(0, _), (1, _), (2, _), (3, _)]) rfl rfl rfl rfl ?_
      refine Gq_goto rfl (t := 2) rfl ?_
      rw [List.drop_eq_getElem_cons hjl, List.all_cons, hg]
      exact ih (j + 1) (by omega)
    · refine Gq_s (pc' := 25) rfl rfl rfl ?_
      exact Gq_ret rfl rfl (rfl) (⟨by rw [List.drop_eq_getElem_cons hjl, List.all_cons, hg]; rfl, rfl, rfl⟩)
theorem t_meets {S : ScT} {H : HF} {n t w : Nat} {ch : Nat → Option Nat} {on : Nat → Nat} {whole : Bool} {wl : List CR} {vr : Nat → VR} {V : Nat → Prop} (hvs : VsA H vr V) (hC : ChV V ch) (h0 : H t = some (false, 2, [.ref (t + 1), .ref (t + 2)])) (h1 : H (t + 1) = some (true, 3, aR 12 ch)) (h2 : H (t + 2) = some (true, 0, aNt 12 on)) (ho : o16 on) (hW : WiAt H w wl) : Rdt S 82 [.ref t, .ref w, .int (zI (bI whole))] H n (some (.int (zI (bI (mtsB vr ch on wl whole))))) H n := by
  refine Rm_of (M := xm82) (lv := [(0, _), (1, _), (2, _)]) rfl rfl rfl ?_
  refine Gq_s (pc' := 1) rfl rfl rfl ?_
  refine Gq_s (pc' := 2) (lv' := [(0, _), (1, _), (2, _), (3, _)]) rfl rfl rfl ?_
  exact t_meets_a hvs hC h0 h1 h2 ho hW wl.length 0 (by omega)
theorem t_nf_l {S : ScT} {H : HF} {n t p : Nat} {on : Nat → Nat} (hp : p < 12) (h0 : H t = some (false, 2, [.ref (t + 1), .ref (t + 2)])) (h2 : H (t + 2) = some (true, 0, aNt 12 on)) (ho : o16 on) : ∀ (l : List CR) (x : Option Nat) (m0 : Nat), ChnAt H x l → Gw S xm86 25 [(0, .ref t), (1, .int (zI (p : Int))), (2, .int (zI (m0 : Int))), (3, rvl x)] [] H n 0 0 (MQe xm86 (fun v G m => v = some (.int (zI ((l.foldl (nm1 (on p)) m0 : Nat) : Int))) ∧ G = H ∧ m = n)) := by
  intro l
  induction l with
  | nil =>
    intro x m0 hl
    obtain rfl : x = none := hl
    refine Gq_s (pc' := 26) rfl rfl rfl ?_
    refine Gq_nul_n rfl (t := 59) rfl ?_
    refine Gq_s (pc' := 60) rfl rfl rfl ?_
    exact Gq_ret rfl rfl (rfl) (⟨rfl, rfl, rfl⟩)
  | cons c l ih =>
    intro x m0 hl
    obtain ⟨q, nx, rfl, hcl, hch⟩ := hl
    have hcl0 := hcl
    obtain ⟨hq, ⟨hT, -⟩, r, -, -, h3⟩ := hcl0
    refine Gq_s (pc' := 26) rfl rfl rfl ?_
    refine Gq_nul_r (pc' := 29) (t := 59) rfl rfl rfl ?_
    refine Gq_s (pc' := 30) rfl rfl rfl ?_
    refine Gq_s (pc' := 31) rfl rfl rfl ?_
    refine Gq_get (pc' := 34) rfl rfl (by first | assumption | exact upd_eq _ _ _ | (refine (upd_ne _ _ (by omega)).trans ?_; first | assumption | exact upd_eq _ _ _ | (refine (upd_ne _ _ (by omega)).trans ?_; first | assumption | exact upd_eq _ _ _ | (refine (upd_ne _ _ (by omega)).trans ?_; first | assumption | exact upd_eq _ _ _)))) (by exact rfl) ?_
    refine Gq_s (pc' := 35) rfl rfl rfl ?_
    refine Gq_iald (pc' := 36) rfl rfl (by first | assumption | exact upd_eq _ _ _ | (refine (upd_ne _ _ (by omega)).trans ?_; first | assumption | exact upd_eq _ _ _ | (refine (upd_ne _ _ (by omega)).trans ?_; first | assumption | exact upd_eq _ _ _ | (refine (upd_ne _ _ (by omega)).trans ?_; first | assumption | exact upd_eq _ _ _)))) (rfl) (by omega) (by omega) ?_
    refine Gq_callv1 (pc' := 39) (Y := xm90) (rest := []) (st' := [_]) (ce' := 0) (sl' := 0) rfl rfl rfl rfl rfl rfl rfl rfl rfl (t_countsWith n hcl (ho p)) rfl (by first | assumption | exact upd_eq _ _ _ | (refine (upd_ne _ _ (by omega)).trans ?_; first | assumption | exact upd_eq _ _ _ | (refine (upd_ne _ _ (by omega)).trans ?_; first | assumption | exact upd_eq _ _ _ | (refine (upd_ne _ _ (by omega)).trans ?_; first | assumption | exact upd_eq _ _ _)))) ?_
    refine Gq_beq (pc' := 42) (t := 51) rfl rfl rfl (fun hb => ?_) (fun hb => ?_)
    · refine Gq_s (pc' := 52) rfl rfl rfl ?_
      refine Gq_get (pc' := 55) rfl rfl (by first | assumption | exact upd_eq _ _ _ | (refine (upd_ne _ _ (by omega)).trans ?_; first | assumption | exact upd_eq _ _ _ | (refine (upd_ne _ _ (by omega)).trans ?_; first | assumption | exact upd_eq _ _ _ | (refine (upd_ne _ _ (by omega)).trans ?_; first | assumption | exact upd_eq _ _ _)))) (by exact rfl) ?_
      refine Gq_astv (pc' := 56) (lv' := [(0, _), (1, _), (2, _), (3, _)]) (k := 3) rfl (fun _ _ => rfl) rfl rfl ?_
      refine Gq_goto rfl (t := 25) rfl ?_
      have e : (c :: l).foldl (nm1 (on p)) m0 = l.foldl (nm1 (on p)) m0 := by rw [List.foldl_cons, nm1, hb]; rfl
      rw [e]
      exact ih nx m0 hch
    · refine Gq_s (pc' := 43) rfl rfl rfl ?_
      refine Gq_s (pc' := 44) rfl rfl rfl ?_
      refine Gq_s (pc' := 45) rfl rfl rfl ?_
      refine Gq_get (pc' := 48) rfl rfl (by first | assumption | exact upd_eq _ _ _ | (refine (upd_ne _ _ (by omega)).trans ?_; first | assumption | exact upd_eq _ _ _ | (refine (upd_ne _ _ (by omega)).trans ?_; first | assumption | exact upd_eq _ _ _ | (refine (upd_ne _ _ (by omega)).trans ?_; first | assumption | exact upd_eq _ _ _)))) (by exact rfl) ?_
      refine Gq_ishl (pc' := 49) (zI ((2 ^ cT c : Nat) : Int)) rfl rfl (z_shl _ hT) ?_
      refine Gq_ior (pc' := 50) (zI ((m0 ||| 2 ^ cT c : Nat) : Int)) rfl rfl (z_or _ _) ?_
      refine Gq_s (pc' := 51) (lv' := [(0, _), (1, _), (2, _), (3, _)]) rfl rfl rfl ?_
      refine Gq_s (pc' := 52) rfl rfl rfl ?_
      refine Gq_get (pc' := 55) rfl rfl (by first | assumption | exact upd_eq _ _ _ | (refine (upd_ne _ _ (by omega)).trans ?_; first | assumption | exact upd_eq _ _ _ | (refine (upd_ne _ _ (by omega)).trans ?_; first | assumption | exact upd_eq _ _ _ | (refine (upd_ne _ _ (by omega)).trans ?_; first | assumption | exact upd_eq _ _ _)))) (by exact rfl) ?_
      refine Gq_astv (pc' := 56) (lv' := [(0, _), (1, _), (2, _), (3, _)]) (k := 3) rfl (fun _ _ => rfl) rfl rfl ?_
      refine Gq_goto rfl (t := 25) rfl ?_
      have e : (c :: l).foldl (nm1 (on p)) m0 = l.foldl (nm1 (on p)) (m0 ||| 2 ^ cT c) := by rw [List.foldl_cons, nm1, hb]; rfl
      rw [e]
      exact ih nx _ hch
theorem t_nf {S : ScT} {H : HF} {n t : Nat} {ch : Nat → Option Nat} {on : Nat → Nat} {vr : Nat → VR} {V : Nat → Prop} (hvs : VsA H vr V) (hC : ChV V ch) (h0 : H t = some (false, 2, [.ref (t + 1), .ref (t + 2)])) (h1 : H (t + 1) = some (true, 3, aR 12 ch)) (h2 : H (t + 2) = some (true, 0, aNt 12 on)) (ho : o16 on) {p : Nat} (hp : p < 12) : Rdt S 86 [.ref t, .int (zI (p : Int))] H n (some (.int (zI (nMask vr ch on p : Int)))) H n := by
  refine Rm_of (M := xm86) (lv := [(0, _), (1, _)]) rfl rfl rfl ?_
  refine Gq_s (pc' := 1) rfl rfl rfl ?_
  refine Gq_s (pc' := 2) (lv' := [(0, _), (1, _), (2, _)]) rfl rfl rfl ?_
  refine Gq_s (pc' := 3) rfl rfl rfl ?_
  refine Gq_get (pc' := 6) rfl rfl (by first | assumption | exact upd_eq _ _ _ | (refine (upd_ne _ _ (by omega)).trans ?_; first | assumption | exact upd_eq _ _ _ | (refine (upd_ne _ _ (by omega)).trans ?_; first | assumption | exact upd_eq _ _ _ | (refine (upd_ne _ _ (by omega)).trans ?_; first | assumption | exact upd_eq _ _ _)))) (by exact rfl) ?_
  refine Gq_s (pc' := 7) rfl rfl rfl ?_
  refine Gq_aalx (pc' := 8) rfl rfl (by first | assumption | exact upd_eq _ _ _ | (refine (upd_ne _ _ (by omega)).trans ?_; first | assumption | exact upd_eq _ _ _ | (refine (upd_ne _ _ (by omega)).trans ?_; first | assumption | exact upd_eq _ _ _ | (refine (upd_ne _ _ (by omega)).trans ?_; first | assumption | exact upd_eq _ _ _)))) (by exact rfl) (rfl) (by omega) (by omega) (fun hx => ?_) (fun q hx => ?_)
  · refine Gq_non_n (pc' := 11) (t := 15) rfl rfl rfl ?_
    refine Gq_s (pc' := 12) rfl rfl rfl ?_
    refine Gq_goto rfl (t := 24) rfl ?_
    refine Gq_s (pc' := 25) (lv' := [(0, _), (1, _), (2, _), (3, _)]) rfl rfl rfl ?_
    refine Gq_s (pc' := 26) rfl rfl rfl ?_
    refine Gq_nul_n rfl (t := 59) rfl ?_
    refine Gq_s (pc' := 60) rfl rfl rfl ?_
    exact Gq_ret rfl rfl (rfl) (⟨by unfold nMask; rw [hx]; rfl, rfl, rfl⟩)
  · obtain ⟨hq, hN, f, g, h3, h4, h5⟩ := hvs q (hC p q hp hx)
    refine Gq_non_r rfl (t := 15) rfl ?_
    refine Gq_s (pc' := 16) rfl rfl rfl ?_
    refine Gq_get (pc' := 19) rfl rfl (by first | assumption | exact upd_eq _ _ _ | (refine (upd_ne _ _ (by omega)).trans ?_; first | assumption | exact upd_eq _ _ _ | (refine (upd_ne _ _ (by omega)).trans ?_; first | assumption | exact upd_eq _ _ _ | (refine (upd_ne _ _ (by omega)).trans ?_; first | assumption | exact upd_eq _ _ _)))) (by exact rfl) ?_
    refine Gq_s (pc' := 20) rfl rfl rfl ?_
    refine Gq_aald (pc' := 21) rfl rfl (by first | assumption | exact upd_eq _ _ _ | (refine (upd_ne _ _ (by omega)).trans ?_; first | assumption | exact upd_eq _ _ _ | (refine (upd_ne _ _ (by omega)).trans ?_; first | assumption | exact upd_eq _ _ _ | (refine (upd_ne _ _ (by omega)).trans ?_; first | assumption | exact upd_eq _ _ _)))) (by exact rfl) (rfl) (by omega) (by omega) (rv_s hx) ?_
    refine Gq_get (pc' := 24) rfl rfl (by first | assumption | exact upd_eq _ _ _ | (refine (upd_ne _ _ (by omega)).trans ?_; first | assumption | exact upd_eq _ _ _ | (refine (upd_ne _ _ (by omega)).trans ?_; first | assumption | exact upd_eq _ _ _ | (refine (upd_ne _ _ (by omega)).trans ?_; first | assumption | exact upd_eq _ _ _)))) (by exact rfl) ?_
    refine Gq_astv (pc' := 25) (lv' := [(0, _), (1, _), (2, _), (3, _)]) (k := 3) rfl (fun _ _ => rfl) rfl rfl ?_
    have e : nMask vr ch on p = (vQ (vr q)).foldl (nm1 (on p)) 0 := by unfold nMask; rw [hx]
    rw [e]
    exact t_nf_l hp h0 h2 ho _ f 0 h4
theorem t_na_l {S : ScT} {H : HF} {n t : Nat} {ch : Nat → Option Nat} {on : Nat → Nat} {vr : Nat → VR} {V : Nat → Prop} (hvs : VsA H vr V) (hC : ChV V ch) (h0 : H t = some (false, 2, [.ref (t + 1), .ref (t + 2)])) (h1 : H (t + 1) = some (true, 3, aR 12 ch)) (h2 : H (t + 2) = some (true, 0, aNt 12 on)) (ho : o16 on) {x : Int32} : ∀ (k j : Nat), j + k = 12 → Gw S xm87 4 [(0, .ref t), (1, .int x), (2, .int (zI (nAny vr ch on x j : Int))), (3, .int (zI (j : Int)))] [] H n 0 0 (MQe xm87 (fun v G m => v = some (.int (zI (nAny vr ch on x 12 : Int))) ∧ G = H ∧ m = n)) := by
  intro k
  induction k with
  | zero =>
    intro j hj
    obtain rfl : j = 12 := by omega
    refine Gq_s (pc' := 5) rfl rfl rfl ?_
    refine Gq_bipush (pc' := 7) rfl rfl (by decide) ?_
    refine Gq_cge (pc' := 10) (t := 32) rfl rfl rfl (by omega) (by omega) (fun _ => ?_) (fun hq => absurd (by omega) hq)
    refine Gq_s (pc' := 33) rfl rfl rfl ?_
    exact Gq_ret rfl rfl (rfl) (⟨rfl, rfl, rfl⟩)
  | succ k ih =>
    intro j hj
    refine Gq_s (pc' := 5) rfl rfl rfl ?_
    refine Gq_bipush (pc' := 7) rfl rfl (by decide) ?_
    refine Gq_cge (pc' := 10) (t := 32) rfl rfl rfl (by omega) (by omega) (fun hq => absurd hq (by omega)) (fun _ => ?_)
    refine Gq_s (pc' := 11) rfl rfl rfl ?_
    refine Gq_s (pc' := 12) rfl rfl rfl ?_
    refine Gq_calls1 (pc' := 15) (Y := xm61) (rest := []) (st' := [_]) (ce' := 0) (sl' := 0) rfl rfl rfl rfl rfl rfl rfl rfl rfl rfl (t_isIn H n x j) rfl ?_
    refine Gq_beq (pc' := 18) (t := 26) rfl rfl rfl (fun hb => ?_) (fun hb => ?_)
    · refine Gq_iinc (pc' := 29) (lv' := [(0, _), (1, _), (2, _), (3, _)]) rfl rfl rfl rfl ?_
      refine Gq_goto rfl (t := 4) rfl ?_
      have e : nAny vr ch on x (j + 1) = nAny vr ch on x j := by rw [nAny, hb]; rfl
      have := ih (j + 1) (by omega)
      rw [e] at this
      exact this
    · refine Gq_s (pc' := 19) rfl rfl rfl ?_
      refine Gq_s (pc' := 20) rfl rfl rfl ?_
      refine Gq_s (pc' := 21) rfl rfl rfl ?_
      refine Gq_callv1 (pc' := 24) (Y := xm86) (rest := [_]) (st' := [_, _]) (ce' := 0) (sl' := 0) rfl rfl rfl rfl rfl rfl rfl rfl rfl (t_nf hvs hC h0 h1 h2 ho (by omega)) rfl (by first | assumption | exact upd_eq _ _ _ | (refine (upd_ne _ _ (by omega)).trans ?_; first | assumption | exact upd_eq _ _ _ | (refine (upd_ne _ _ (by omega)).trans ?_; first | assumption | exact upd_eq _ _ _ | (refine (upd_ne _ _ (by omega)).trans ?_; first | assumption | exact upd_eq _ _ _)))) ?_
      refine Gq_ior (pc' := 25) (zI ((nAny vr ch on x j ||| nMask vr ch on j : Nat) : Int)) rfl rfl (z_or _ _) ?_
      refine Gq_s (pc' := 26) (lv' := [(0, _), (1, _), (2, _), (3, _)]) rfl rfl rfl ?_
      refine Gq_iinc (pc' := 29) (lv' := [(0, _), (1, _), (2, _), (3, _)]) rfl rfl rfl rfl ?_
      refine Gq_goto rfl (t := 4) rfl ?_
      have e : nAny vr ch on x (j + 1) = nAny vr ch on x j ||| nMask vr ch on j := by rw [nAny, hb]; rfl
      have := ih (j + 1) (by omega)
      rw [e] at this
      exact this
theorem t_na {S : ScT} {H : HF} {n t : Nat} {ch : Nat → Option Nat} {on : Nat → Nat} {vr : Nat → VR} {V : Nat → Prop} (hvs : VsA H vr V) (hC : ChV V ch) (h0 : H t = some (false, 2, [.ref (t + 1), .ref (t + 2)])) (h1 : H (t + 1) = some (true, 3, aR 12 ch)) (h2 : H (t + 2) = some (true, 0, aNt 12 on)) (ho : o16 on) (x : Int32) : Rdt S 87 [.ref t, .int x] H n (some (.int (zI (nAny vr ch on x 12 : Int)))) H n := by
  refine Rm_of (M := xm87) (lv := [(0, _), (1, _)]) rfl rfl rfl ?_
  refine Gq_s (pc' := 1) rfl rfl rfl ?_
  refine Gq_s (pc' := 2) (lv' := [(0, _), (1, _), (2, _)]) rfl rfl rfl ?_
  refine Gq_s (pc' := 3) rfl rfl rfl ?_
  refine Gq_s (pc' := 4) (lv' := [(0, _), (1, _), (2, _), (3, _)]) rfl rfl rfl ?_
  exact t_na_l hvs hC h0 h1 h2 ho 12 0 rfl
theorem t_rf_l {S : ScT} {H : HF} {n t : Nat} {ch : Nat → Option Nat} {on : Nat → Nat} {vr : Nat → VR} {V : Nat → Prop} (hvs : VsA H vr V) (hC : ChV V ch) (h0 : H t = some (false, 2, [.ref (t + 1), .ref (t + 2)])) (h1 : H (t + 1) = some (true, 3, aR 12 ch)) (h2 : H (t + 2) = some (true, 0, aNt 12 on)) (ho : o16 on) {p : Nat} : ∀ (k j m0 : Nat), j + k = 12 → Gw S xm88 6 [(0, .ref t), (1, .int (zI (p : Int))), (2, .int (zI (m0 : Int))), (3, .int (zI (j : Int)))] [] H n 0 0 (MQe xm88 (fun v G m => v = some (.int (zI (rchF vr ch on k m0 : Int))) ∧ G = H ∧ m = n)) := by
  intro k
  induction k with
  | zero =>
    intro j m0 hj
    obtain rfl : j = 12 := by omega
    refine Gq_s (pc' := 7) rfl rfl rfl ?_
    refine Gq_bipush (pc' := 9) rfl rfl (by decide) ?_
    refine Gq_cge (pc' := 12) (t := 26) rfl rfl rfl (by omega) (by omega) (fun _ => ?_) (fun hq => absurd (by omega) hq)
    refine Gq_s (pc' := 27) rfl rfl rfl ?_
    exact Gq_ret rfl rfl (rfl) (⟨rfl, rfl, rfl⟩)
  | succ k ih =>
    intro j m0 hj
    refine Gq_s (pc' := 7) rfl rfl rfl ?_
    refine Gq_bipush (pc' := 9) rfl rfl (by decide) ?_
    refine Gq_cge (pc' := 12) (t := 26) rfl rfl rfl (by omega) (by omega) (fun hq => absurd hq (by omega)) (fun _ => ?_)
    refine Gq_s (pc' := 13) rfl rfl rfl ?_
    refine Gq_s (pc' := 14) rfl rfl rfl ?_
    refine Gq_s (pc' := 15) rfl rfl rfl ?_
    refine Gq_callv1 (pc' := 18) (Y := xm87) (rest := [_]) (st' := [_, _]) (ce' := 0) (sl' := 0) rfl rfl rfl rfl rfl rfl rfl rfl rfl (t_na hvs hC h0 h1 h2 ho (zI (m0 : Int))) rfl (by first | assumption | exact upd_eq _ _ _ | (refine (upd_ne _ _ (by omega)).trans ?_; first | assumption | exact upd_eq _ _ _ | (refine (upd_ne _ _ (by omega)).trans ?_; first | assumption | exact upd_eq _ _ _ | (refine (upd_ne _ _ (by omega)).trans ?_; first | assumption | exact upd_eq _ _ _)))) ?_
    refine Gq_ior (pc' := 19) (zI ((m0 ||| nAny vr ch on (zI (m0 : Int)) 12 : Nat) : Int)) rfl rfl (z_or _ _) ?_
    refine Gq_s (pc' := 20) (lv' := [(0, _), (1, _), (2, _), (3, _)]) rfl rfl rfl ?_
    refine Gq_iinc (pc' := 23) (lv' := [(0, _), (1, _), (2, _), (3, _)]) rfl rfl rfl rfl ?_
    refine Gq_goto rfl (t := 6) rfl ?_
    exact ih (j + 1) _ (by omega)
theorem t_rf {S : ScT} {H : HF} {n t : Nat} {ch : Nat → Option Nat} {on : Nat → Nat} {vr : Nat → VR} {V : Nat → Prop} (hvs : VsA H vr V) (hC : ChV V ch) (h0 : H t = some (false, 2, [.ref (t + 1), .ref (t + 2)])) (h1 : H (t + 1) = some (true, 3, aR 12 ch)) (h2 : H (t + 2) = some (true, 0, aNt 12 on)) (ho : o16 on) {p : Nat} (hp : p < 12) : Rdt S 88 [.ref t, .int (zI (p : Int))] H n (some (.int (zI (rchF vr ch on 11 (2 ^ p) : Int)))) H n := by
  refine Rm_of (M := xm88) (lv := [(0, _), (1, _)]) rfl rfl rfl ?_
  refine Gq_s (pc' := 1) rfl rfl rfl ?_
  refine Gq_s (pc' := 2) rfl rfl rfl ?_
  refine Gq_ishl (pc' := 3) (zI ((2 ^ p : Nat) : Int)) rfl rfl (z_shl _ hp) ?_
  refine Gq_s (pc' := 4) (lv' := [(0, _), (1, _), (2, _)]) rfl rfl rfl ?_
  refine Gq_s (pc' := 5) rfl rfl rfl ?_
  refine Gq_s (pc' := 6) (lv' := [(0, _), (1, _), (2, _), (3, _)]) rfl rfl rfl ?_
  exact t_rf_l hvs hC h0 h1 h2 ho 11 1 (2 ^ p) rfl
theorem t_smal_l {S : ScT} {H : HF} {n : Nat} {x : Int32} : ∀ (k j : Nat), j + k = 12 → Gw S xm62 2 [(0, .int x), (1, .int (zI (j : Int)))] [] H n 0 0 (MQe xm62 (fun v G m => v = some (.int (zI (smal x k j))) ∧ G = H ∧ m = n)) := by
  intro k
  induction k with
  | zero =>
    intro j hj
    obtain rfl : j = 12 := by omega
    refine Gq_s (pc' := 3) rfl rfl rfl ?_
    refine Gq_bipush (pc' := 5) rfl rfl (by decide) ?_
    refine Gq_cge (pc' := 8) (t := 24) rfl rfl rfl (by omega) (by omega) (fun _ => ?_) (fun hq => absurd (by omega) hq)
    refine Gq_s (pc' := 25) rfl rfl rfl ?_
    exact Gq_ret rfl rfl (rfl) (⟨rfl, rfl, rfl⟩)
  | succ k ih =>
    intro j hj
    refine Gq_s (pc' := 3) rfl rfl rfl ?_
    refine Gq_bipush (pc' := 5) rfl rfl (by decide) ?_
    refine Gq_cge (pc' := 8) (t := 24) rfl rfl rfl (by omega) (by omega) (fun hq => absurd hq (by omega)) (fun _ => ?_)
    refine Gq_s (pc' := 9) rfl rfl rfl ?_
    refine Gq_s (pc' := 10) rfl rfl rfl ?_
    refine Gq_calls1 (pc' := 13) (Y := xm61) (rest := []) (st' := [_]) (ce' := 0) (sl' := 0) rfl rfl rfl rfl rfl rfl rfl rfl rfl rfl (t_isIn H n x j) rfl ?_
    refine Gq_beq (pc' := 16) (t := 18) rfl rfl rfl (fun hb => ?_) (fun hb => ?_)
    · refine Gq_iinc (pc' := 21) (lv' := [(0, _), (1, _)]) rfl rfl rfl rfl ?_
      refine Gq_goto rfl (t := 2) rfl ?_
      have e : smal x (k + 1) j = smal x k (j + 1) := by rw [smal, hb]; rfl
      rw [e]
      exact ih (j + 1) (by omega)
    · refine Gq_s (pc' := 17) rfl rfl rfl ?_
      exact Gq_ret rfl rfl (rfl) (⟨by rw [smal, hb]; rfl, rfl, rfl⟩)
theorem t_smal {S : ScT} {H : HF} {n : Nat} (x : Int32) : Rdt S 62 [.int x] H n (some (.int (zI (smal x 12 0)))) H n := by
  refine Rm_of (M := xm62) (lv := [(0, _)]) rfl rfl rfl ?_
  refine Gq_s (pc' := 1) rfl rfl rfl ?_
  refine Gq_s (pc' := 2) (lv' := [(0, _), (1, _)]) rfl rfl rfl ?_
  exact t_smal_l 12 0 rfl
end XK4
