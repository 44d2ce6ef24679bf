/-! the cache (printed by wip/p46/gen34.py) -/
section XKe
theorem mem_dl {L : List Nat} {q : Nat} (h : q ∈ L.dropLast) : q ∈ L := by
  rw [List.dropLast_eq_take] at h
  exact List.mem_of_mem_take h
def usd (vr : Nat → VR) : List Nat → Int
  | [] => 0
  | q :: t => vS (vr q) + usd vr t
def plc (x : Nat) : List Nat → Nat → Int
  | [], _ => -1
  | q :: t, i => if q = x then (i : Int) else plc x t (i + 1)
def trm (vr : Nat → VR) (r : Int) : Nat → List Nat → List Nat
  | 0, L => L
  | k + 1, L => if r < usd vr L ∧ 0 < L.length then trm vr r k L.dropLast else L
/-- a cache's cells -/
def CaAt (H : HF) (c : Nat) (L : List Nat) (r : Int) (vr : Nat → VR) (V : Nat → Prop) : Prop := H c = some (false, 0, [.ref (c + 1), .int (zI (L.length : Int)), .int (zI (usd vr L)), .int (zI r)]) ∧ L.length ≤ 96 ∧ (∀ q ∈ L, V q) ∧ ∃ hd, H (c + 1) = some (true, 3, aR 96 hd) ∧ ∀ i q : Nat, L[i]? = some q → hd i = some q
theorem usd_b {H : HF} {vr : Nat → VR} {V : Nat → Prop} (hvs : VsA H vr V) : ∀ (L : List Nat), (∀ q ∈ L, V q) → 0 ≤ usd vr L ∧ usd vr L ≤ 999 * L.length
  | [], _ => ⟨Int.le_refl 0, by show (0 : Int) ≤ 999 * ((0 : Nat) : Int); omega⟩
  | q :: t, h => by
    have h1 := usd_b hvs t (fun x hx => h x (List.mem_cons_of_mem _ hx))
    have h2 := (hvs q (h q List.mem_cons_self)).2.1.2.2
    show 0 ≤ vS (vr q) + usd vr t ∧ vS (vr q) + usd vr t ≤ 999 * ((t.length + 1 : Nat) : Int)
    omega
theorem usd_app (vr : Nat → VR) : ∀ (A B : List Nat), usd vr (A ++ B) = usd vr A + usd vr B
  | [], B => by show usd vr B = 0 + usd vr B; omega
  | q :: t, B => by
    show vS (vr q) + usd vr (t ++ B) = vS (vr q) + usd vr t + usd vr B
    rw [usd_app vr t B]
    omega
theorem trm_sub {vr : Nat → VR} {r : Int} : ∀ {k : Nat} {L : List Nat} {q : Nat}, q ∈ trm vr r k L → q ∈ L
  | 0, _, _, h => h
  | k + 1, L, q, h => by
    unfold trm at h
    split at h
    · exact mem_dl (trm_sub h)
    · exact h
theorem trm_len {vr : Nat → VR} {r : Int} : ∀ {k : Nat} {L : List Nat}, (trm vr r k L).length ≤ L.length
  | 0, L => Nat.le_refl _
  | k + 1, L => by
    unfold trm
    split
    · have := trm_len (vr := vr) (r := r) (k := k) (L := L.dropLast)
      rw [List.length_dropLast] at this
      omega
    · exact Nat.le_refl _
theorem trm_le {vr : Nat → VR} {r : Int} (hr : 0 ≤ r) : ∀ {k : Nat} {L : List Nat}, L.length ≤ k → usd vr (trm vr r k L) ≤ r
  | 0, L, h => by
    cases L with
    | nil => exact hr
    | cons a t => exact absurd h (by show ¬ t.length + 1 ≤ 0; omega)
  | k + 1, L, h => by
    unfold trm
    split
    · exact trm_le hr (by rw [List.length_dropLast]; omega)
    · rename_i hc
      by_cases e : r < usd vr L
      · have hl : L.length = 0 := by
          rcases Nat.eq_zero_or_pos L.length with h9 | h9
          · exact h9
          · exact absurd ⟨e, h9⟩ hc
        rw [List.length_eq_zero_iff.mp hl]
        exact hr
      · omega
theorem t_plc_l {S : ScT} {H : HF} {n c x : Nat} {L : List Nat} {r : Int} {vr : Nat → VR} {V : Nat → Prop} (hvs : VsA H vr V) (h0 : H c = some (false, 0, [.ref (c + 1), .int (zI (L.length : Int)), .int (zI (usd vr L)), .int (zI r)])) (hL : L.length ≤ 96) (hV : ∀ q ∈ L, V q) {hd : Nat → Option Nat} (h1 : H (c + 1) = some (true, 3, aR 96 hd)) (hh : ∀ i q : Nat, L[i]? = some q → hd i = some q) (hx : V x) : ∀ (k j : Nat), j + k = L.length → Gw S xm65 2 [(0, .ref c), (1, .ref x), (2, .int (zI (j : Int)))] [] H n 0 0 (MQe xm65 (fun v G m => v = some (.int (zI (plc x (L.drop j) j))) ∧ G = H ∧ m = n)) := by
  intro k
  induction k with
  | zero =>
    intro j hj
    obtain rfl : j = L.length := by omega
    refine Gq_s (pc' := 3) rfl rfl rfl ?_
    refine Gq_s (pc' := 4) rfl rfl rfl ?_
    refine Gq_get (pc' := 7) rfl rfl (by first | assumption | exact upd_eq _ _ _ | (refine (upd_ne _ _ (by omega)).trans ?_; first | assumption | exact upd_eq _ _ _ | (refine (upd_ne _ _ (by omega)).trans ?_; first | assumption | exact upd_eq _ _ _ | (refine (upd_ne _ _ (by omega)).trans ?_; first | assumption | exact upd_eq _ _ _)))) (by exact rfl) ?_
    refine Gq_cge (pc' := 10) (t := 28) rfl rfl rfl (by omega) (by omega) (fun _ => ?_) (fun hq => absurd (by omega) hq)
    refine Gq_s (pc' := 29) rfl rfl rfl ?_
    exact Gq_ret rfl rfl (rfl) (⟨by rw [List.drop_length]; rfl, rfl, rfl⟩)
  | succ k ih =>
    intro j hj
    have hjl : j < L.length := by omega
    have hj2 := hh j L[j] (List.getElem?_eq_getElem hjl)
    have hvj := hV L[j] (List.getElem_mem hjl)
    rw [List.drop_eq_getElem_cons hjl, plc]
    refine Gq_s (pc' := 3) rfl rfl rfl ?_
    refine Gq_s (pc' := 4) rfl rfl rfl ?_
    refine Gq_get (pc' := 7) rfl rfl (by first | assumption | exact upd_eq _ _ _ | (refine (upd_ne _ _ (by omega)).trans ?_; first | assumption | exact upd_eq _ _ _ | (refine (upd_ne _ _ (by omega)).trans ?_; first | assumption | exact upd_eq _ _ _ | (refine (upd_ne _ _ (by omega)).trans ?_; first | assumption | exact upd_eq _ _ _)))) (by exact rfl) ?_
    refine Gq_cge (pc' := 10) (t := 28) rfl rfl rfl (by omega) (by omega) (fun hq => absurd hq (by omega)) (fun _ => ?_)
    refine Gq_s (pc' := 11) rfl rfl rfl ?_
    refine Gq_get (pc' := 14) rfl rfl (by first | assumption | exact upd_eq _ _ _ | (refine (upd_ne _ _ (by omega)).trans ?_; first | assumption | exact upd_eq _ _ _ | (refine (upd_ne _ _ (by omega)).trans ?_; first | assumption | exact upd_eq _ _ _ | (refine (upd_ne _ _ (by omega)).trans ?_; first | assumption | exact upd_eq _ _ _)))) (by exact rfl) ?_
    refine Gq_s (pc' := 15) rfl rfl rfl ?_
    refine Gq_aald (pc' := 16) rfl rfl (by first | assumption | exact upd_eq _ _ _ | (refine (upd_ne _ _ (by omega)).trans ?_; first | assumption | exact upd_eq _ _ _ | (refine (upd_ne _ _ (by omega)).trans ?_; first | assumption | exact upd_eq _ _ _ | (refine (upd_ne _ _ (by omega)).trans ?_; first | assumption | exact upd_eq _ _ _)))) (by exact rfl) (rfl) (by omega) (by omega) (rv_s hj2) ?_
    refine Gq_s (pc' := 17) rfl rfl rfl ?_
    refine Gq_acne (pc' := 20) (t := 22) (some L[j]) (some x) rfl rfl rfl (rfl) (rfl) (fun z hz => by cases hz; obtain ⟨vs, hv⟩ := VS_ok hvs hvj; exact ⟨_, hv⟩) (fun z hz => by cases hz; obtain ⟨vs, hv⟩ := VS_ok hvs hx; exact ⟨_, hv⟩) (fun he => ?_) (fun he => ?_)
    · refine Gq_iinc (pc' := 25) (lv' := [(0, _), (1, _), (2, _)]) rfl rfl rfl rfl ?_
      refine Gq_goto rfl (t := 2) rfl ?_
      rw [if_neg (fun q => he (by rw [q]))]
      exact ih (j + 1) (by omega)
    · refine Gq_s (pc' := 21) rfl rfl rfl ?_
      exact Gq_ret rfl rfl (rfl) (⟨by rw [if_pos (Option.some.inj he)], rfl, rfl⟩)
theorem t_plc {S : ScT} {H : HF} (n : Nat) {c x : Nat} {L : List Nat} {r : Int} {vr : Nat → VR} {V : Nat → Prop} (hvs : VsA H vr V) (h0 : H c = some (false, 0, [.ref (c + 1), .int (zI (L.length : Int)), .int (zI (usd vr L)), .int (zI r)])) (hL : L.length ≤ 96) (hV : ∀ q ∈ L, V q) {hd : Nat → Option Nat} (h1 : H (c + 1) = some (true, 3, aR 96 hd)) (hh : ∀ i q : Nat, L[i]? = some q → hd i = some q) (hx : V x) : Rdt S 65 [.ref c, .ref x] H n (some (.int (zI (plc x L 0)))) H n := by
  refine Rm_of (M := xm65) (lv := [(0, _), (1, _)]) rfl rfl rfl ?_
  refine Gq_s (pc' := 1) rfl rfl rfl ?_
  refine Gq_s (pc' := 2) (lv' := [(0, _), (1, _), (2, _)]) rfl rfl rfl ?_
  exact t_plc_l hvs h0 hL hV h1 hh hx L.length 0 (by omega)
def pfJ (hd : Nat → Option Nat) (k j : Nat) : Nat → Option Nat := fun x => if j < x ∧ x ≤ k then hd (x - 1) else hd x
theorem t_pf_l {S : ScT} {n c x k : Nat} {vr : Nat → VR} {V : Nat → Prop} {a0 b0 d0 : Value} {hd : Nat → Option Nat} (hc : c + 1 < 119) (hk : k < 96) (hx : V x) (hq : ∀ i q, i < k → hd i = some q → V q) : ∀ (j : Nat) (H : HF), j ≤ k → VsA H vr V → H c = some (false, 0, [.ref (c + 1), a0, b0, d0]) → H (c + 1) = some (true, 3, aR 96 (pfJ hd k j)) → Gw S xm67 2 [(0, .ref c), (1, .ref x), (2, .int (zI (k : Int))), (3, .int (zI (j : Int)))] [] H n 0 0 (MQe xm67 (fun v G m => v = none ∧ G = hup H (c + 1) (true, 3, aR 96 (fset (pfJ hd k 0) 0 (some x))) ∧ m = n)) := by
  intro j
  induction j with
  | zero =>
    intro H hj hvs h0 h1
    refine Gq_s (pc' := 3) rfl rfl rfl ?_
    refine Gq_zle (pc' := 6) (t := 26) rfl rfl rfl (by omega) (fun _ => ?_) (fun hq => absurd (by omega) hq)
    refine Gq_s (pc' := 27) rfl rfl rfl ?_
    refine Gq_get (pc' := 30) rfl rfl (by first | assumption | exact upd_eq _ _ _ | (refine (upd_ne _ _ (by omega)).trans ?_; first | assumption | exact upd_eq _ _ _ | (refine (upd_ne _ _ (by omega)).trans ?_; first | assumption | exact upd_eq _ _ _ | (refine (upd_ne _ _ (by omega)).trans ?_; first | assumption | exact upd_eq _ _ _)))) (by exact rfl) ?_
    refine Gq_s (pc' := 31) rfl rfl rfl ?_
    refine Gq_s (pc' := 32) rfl rfl rfl ?_
    refine Gq_aast (pc' := 33) (j := 0) (some x) rfl rfl (by first | assumption | exact upd_eq _ _ _ | (refine (upd_ne _ _ (by omega)).trans ?_; first | assumption | exact upd_eq _ _ _ | (refine (upd_ne _ _ (by omega)).trans ?_; first | assumption | exact upd_eq _ _ _ | (refine (upd_ne _ _ (by omega)).trans ?_; first | assumption | exact upd_eq _ _ _)))) (by exact rfl) (fun hz => nomatch hz) (rfl) (fun z hz => by cases hz; exact VS_ok hvs hx) (rfl) (by omega) (by omega) ?_
    exact Gq_ret rfl rfl (rfl) (⟨rfl, rfl, rfl⟩)
  | succ j ih =>
    intro H hj hvs h0 h1
    refine Gq_s (pc' := 3) rfl rfl rfl ?_
    refine Gq_zle (pc' := 6) (t := 26) rfl rfl rfl (by omega) (fun hq => absurd hq (by omega)) (fun _ => ?_)
    refine Gq_s (pc' := 7) rfl rfl rfl ?_
    refine Gq_get (pc' := 10) rfl rfl (by first | assumption | exact upd_eq _ _ _ | (refine (upd_ne _ _ (by omega)).trans ?_; first | assumption | exact upd_eq _ _ _ | (refine (upd_ne _ _ (by omega)).trans ?_; first | assumption | exact upd_eq _ _ _ | (refine (upd_ne _ _ (by omega)).trans ?_; first | assumption | exact upd_eq _ _ _)))) (by exact rfl) ?_
    refine Gq_s (pc' := 11) rfl rfl rfl ?_
    refine Gq_s (pc' := 12) rfl rfl rfl ?_
    refine Gq_get (pc' := 15) rfl rfl (by first | assumption | exact upd_eq _ _ _ | (refine (upd_ne _ _ (by omega)).trans ?_; first | assumption | exact upd_eq _ _ _ | (refine (upd_ne _ _ (by omega)).trans ?_; first | assumption | exact upd_eq _ _ _ | (refine (upd_ne _ _ (by omega)).trans ?_; first | assumption | exact upd_eq _ _ _)))) (by exact rfl) ?_
    refine Gq_s (pc' := 16) rfl rfl rfl ?_
    refine Gq_s (pc' := 17) rfl rfl rfl ?_
    refine Gq_isub (pc' := 18) rfl rfl ?_
    refine Gq_aald (pc' := 19) (j := j) rfl rfl (by first | assumption | exact upd_eq _ _ _ | (refine (upd_ne _ _ (by omega)).trans ?_; first | assumption | exact upd_eq _ _ _ | (refine (upd_ne _ _ (by omega)).trans ?_; first | assumption | exact upd_eq _ _ _ | (refine (upd_ne _ _ (by omega)).trans ?_; first | assumption | exact upd_eq _ _ _)))) (by exact rfl) (by omega) (by omega) (by omega) (rfl) ?_
    refine Gq_aast (pc' := 20) (pfJ hd k (j + 1) j) rfl rfl (by first | assumption | exact upd_eq _ _ _ | (refine (upd_ne _ _ (by omega)).trans ?_; first | assumption | exact upd_eq _ _ _ | (refine (upd_ne _ _ (by omega)).trans ?_; first | assumption | exact upd_eq _ _ _ | (refine (upd_ne _ _ (by omega)).trans ?_; first | assumption | exact upd_eq _ _ _)))) (by exact rfl) (fun _ => rfl) (rfl) (fun z hz => by exact VS_ok hvs (hq j z (by omega) (by rw [pfJ, if_neg (by omega)] at hz; exact hz))) (rfl) (by omega) (by omega) ?_
    refine Gq_iinc (pc' := 23) (lv' := [(0, _), (1, _), (2, _), (3, _)]) rfl rfl rfl rfl ?_
    refine Gq_goto rfl (t := 2) rfl ?_
    have e : fset (pfJ hd k (j + 1)) (j + 1) (pfJ hd k (j + 1) j) = pfJ hd k j := by
      funext y
      by_cases e : y = j + 1
      · subst e
        rw [fset_eq, pfJ, pfJ, if_neg (by omega), if_pos (by omega)]
        rfl
      · rw [fset_ne _ _ e, pfJ, pfJ]
        by_cases e2 : j + 1 < y ∧ y ≤ k
        · rw [if_pos e2, if_pos (by omega)]
        · rw [if_neg e2, if_neg (by omega)]
    rw [e]
    have e3 : ((j + 1 : Nat) : Int) + -1 = (j : Int) := by omega
    rw [e3]
    have := ih _ (by omega) (VS_upd hc hvs) (by rw [upd_ne _ _ (by omega)]; exact h0) (upd_eq H (c + 1) (true, 3, aR 96 (pfJ hd k j)))
    simp only [upd_upd] at this
    exact this
theorem t_pf {S : ScT} {H : HF} (n : Nat) {c x k : Nat} {vr : Nat → VR} {V : Nat → Prop} (hvs : VsA H vr V) {a0 b0 d0 : Value} {hd : Nat → Option Nat} (hc : c + 1 < 119) (hk : k < 96) (hx : V x) (hq : ∀ i q, i < k → hd i = some q → V q) (h0 : H c = some (false, 0, [.ref (c + 1), a0, b0, d0])) (h1 : H (c + 1) = some (true, 3, aR 96 hd)) : Rdt S 67 [.ref c, .ref x, .int (zI (k : Int))] H n none (hup H (c + 1) (true, 3, aR 96 (fset (pfJ hd k 0) 0 (some x)))) n := by
  refine Rm_of (M := xm67) (lv := [(0, _), (1, _), (2, _)]) rfl rfl rfl ?_
  refine Gq_s (pc' := 1) rfl rfl rfl ?_
  refine Gq_s (pc' := 2) (lv' := [(0, _), (1, _), (2, _), (3, _)]) rfl rfl rfl ?_
  have e : pfJ hd k k = hd := by
    funext y
    rw [pfJ, if_neg (by omega)]
  exact t_pf_l hc hk hx hq k H (Nat.le_refl k) hvs h0 (by rw [e]; exact h1)
theorem CaAt_last {vr : Nat → VR} {L : List Nat} (h : 0 < L.length) : ∃ q, L[L.length - 1]? = some q ∧ usd vr L.dropLast = usd vr L - vS (vr q) ∧ q ∈ L := by
  have hne : ¬ L = [] := fun e => by rw [e] at h; exact absurd h (by decide)
  obtain ⟨l0, p, rfl⟩ := snoc_of L hne
  refine ⟨p, ?_, ?_, List.mem_append.mpr (.inr (List.mem_singleton.mpr rfl))⟩
  · rw [len_snoc, List.getElem?_append_right (by omega)]
    rw [show l0.length + 1 - 1 - l0.length = 0 by omega]
    rfl
  · rw [List.dropLast_concat, usd_app]
    show usd vr l0 = usd vr l0 + (vS (vr p) + 0) - vS (vr p)
    omega
theorem t_log_l {S : ScT} {n c : Nat} {r : Int} {vr : Nat → VR} {V : Nat → Prop} (hc : c + 1 < 119) (hr : 0 ≤ r ∧ r ≤ 20000) : ∀ (k : Nat) (L : List Nat) (H : HF), L.length ≤ k → VsA H vr V → CaAt H c L r vr V → Gw S xm68 0 [(0, .ref c)] [] H n 0 0 (MQe xm68 (fun v G m => v = none ∧ m = n ∧ CaAt G c (trm vr r k L) r vr V ∧ ∀ o, ¬ o = c → G o = H o)) := by
  intro k
  induction k with
  | zero =>
    intro L H hk hvs hCa
    obtain ⟨h0, hL, hV, hd, h1, hh⟩ := id hCa
    have hu := usd_b hvs L hV
    have hl0 : L.length = 0 := by omega
    refine Gq_s (pc' := 1) rfl rfl rfl ?_
    refine Gq_get (pc' := 4) rfl rfl (by first | assumption | exact upd_eq _ _ _ | (refine (upd_ne _ _ (by omega)).trans ?_; first | assumption | exact upd_eq _ _ _ | (refine (upd_ne _ _ (by omega)).trans ?_; first | assumption | exact upd_eq _ _ _ | (refine (upd_ne _ _ (by omega)).trans ?_; first | assumption | exact upd_eq _ _ _)))) (by exact rfl) ?_
    refine Gq_s (pc' := 5) rfl rfl rfl ?_
    refine Gq_get (pc' := 8) rfl rfl (by first | assumption | exact upd_eq _ _ _ | (refine (upd_ne _ _ (by omega)).trans ?_; first | assumption | exact upd_eq _ _ _ | (refine (upd_ne _ _ (by omega)).trans ?_; first | assumption | exact upd_eq _ _ _ | (refine (upd_ne _ _ (by omega)).trans ?_; first | assumption | exact upd_eq _ _ _)))) (by exact rfl) ?_
    refine Gq_cle (pc' := 11) (t := 52) rfl rfl rfl (by omega) (by omega) (fun hb => ?_) (fun hb => ?_)
    · exact Gq_ret rfl rfl (rfl) (⟨rfl, rfl, hCa, fun _ _ => rfl⟩)
    · refine Gq_s (pc' := 12) rfl rfl rfl ?_
      refine Gq_get (pc' := 15) rfl rfl (by first | assumption | exact upd_eq _ _ _ | (refine (upd_ne _ _ (by omega)).trans ?_; first | assumption | exact upd_eq _ _ _ | (refine (upd_ne _ _ (by omega)).trans ?_; first | assumption | exact upd_eq _ _ _ | (refine (upd_ne _ _ (by omega)).trans ?_; first | assumption | exact upd_eq _ _ _)))) (by exact rfl) ?_
      refine Gq_zle (pc' := 18) (t := 52) rfl rfl rfl (by omega) (fun _ => ?_) (fun hq => absurd (by omega) hq)
      exact Gq_ret rfl rfl (rfl) (⟨rfl, rfl, hCa, fun _ _ => rfl⟩)
  | succ k ih =>
    intro L H hk hvs hCa
    obtain ⟨h0, hL, hV, hd, h1, hh⟩ := id hCa
    have hu := usd_b hvs L hV
    refine Gq_s (pc' := 1) rfl rfl rfl ?_
    refine Gq_get (pc' := 4) rfl rfl (by first | assumption | exact upd_eq _ _ _ | (refine (upd_ne _ _ (by omega)).trans ?_; first | assumption | exact upd_eq _ _ _ | (refine (upd_ne _ _ (by omega)).trans ?_; first | assumption | exact upd_eq _ _ _ | (refine (upd_ne _ _ (by omega)).trans ?_; first | assumption | exact upd_eq _ _ _)))) (by exact rfl) ?_
    refine Gq_s (pc' := 5) rfl rfl rfl ?_
    refine Gq_get (pc' := 8) rfl rfl (by first | assumption | exact upd_eq _ _ _ | (refine (upd_ne _ _ (by omega)).trans ?_; first | assumption | exact upd_eq _ _ _ | (refine (upd_ne _ _ (by omega)).trans ?_; first | assumption | exact upd_eq _ _ _ | (refine (upd_ne _ _ (by omega)).trans ?_; first | assumption | exact upd_eq _ _ _)))) (by exact rfl) ?_
    refine Gq_cle (pc' := 11) (t := 52) rfl rfl rfl (by omega) (by omega) (fun hb => ?_) (fun hb => ?_)
    · exact Gq_ret rfl rfl (rfl) (⟨rfl, rfl, by rw [trm, if_neg (by omega)]; exact hCa, fun _ _ => rfl⟩)
    · refine Gq_s (pc' := 12) rfl rfl rfl ?_
      refine Gq_get (pc' := 15) rfl rfl (by first | assumption | exact upd_eq _ _ _ | (refine (upd_ne _ _ (by omega)).trans ?_; first | assumption | exact upd_eq _ _ _ | (refine (upd_ne _ _ (by omega)).trans ?_; first | assumption | exact upd_eq _ _ _ | (refine (upd_ne _ _ (by omega)).trans ?_; first | assumption | exact upd_eq _ _ _)))) (by exact rfl) ?_
      refine Gq_zle (pc' := 18) (t := 52) rfl rfl rfl (by omega) (fun hl => ?_) (fun hl => ?_)
      · exact Gq_ret rfl rfl (rfl) (⟨rfl, rfl, by rw [trm, if_neg (by omega)]; exact hCa, fun _ _ => rfl⟩)
      · obtain ⟨q, e1, e2, e3⟩ := CaAt_last (vr := vr) (L := L) (by omega)
        have hq := hh _ q e1
        obtain ⟨hq119, -, f, g, h5, -⟩ := hvs q (hV q e3)
        rw [trm, if_pos ⟨by omega, by omega⟩]
        refine Gq_s (pc' := 19) rfl rfl rfl ?_
        refine Gq_s (pc' := 20) rfl rfl rfl ?_
        refine Gq_get (pc' := 23) rfl rfl (by first | assumption | exact upd_eq _ _ _ | (refine (upd_ne _ _ (by omega)).trans ?_; first | assumption | exact upd_eq _ _ _ | (refine (upd_ne _ _ (by omega)).trans ?_; first | assumption | exact upd_eq _ _ _ | (refine (upd_ne _ _ (by omega)).trans ?_; first | assumption | exact upd_eq _ _ _)))) (by exact rfl) ?_
        refine Gq_s (pc' := 24) rfl rfl rfl ?_
        refine Gq_isub (pc' := 25) rfl rfl ?_
        refine Gq_put (pc' := 28) (fs' := [_, _, _, _]) rfl rfl (by first | assumption | exact upd_eq _ _ _ | (refine (upd_ne _ _ (by omega)).trans ?_; first | assumption | exact upd_eq _ _ _ | (refine (upd_ne _ _ (by omega)).trans ?_; first | assumption | exact upd_eq _ _ _ | (refine (upd_ne _ _ (by omega)).trans ?_; first | assumption | exact upd_eq _ _ _)))) (by exact rfl) (by first | rfl | exact xfit_bI _) (by exact rfl) ?_
        refine Gq_s (pc' := 29) rfl rfl rfl ?_
        refine Gq_s (pc' := 30) rfl rfl rfl ?_
        refine Gq_get (pc' := 33) rfl rfl (by first | assumption | exact upd_eq _ _ _ | (refine (upd_ne _ _ (by omega)).trans ?_; first | assumption | exact upd_eq _ _ _ | (refine (upd_ne _ _ (by omega)).trans ?_; first | assumption | exact upd_eq _ _ _ | (refine (upd_ne _ _ (by omega)).trans ?_; first | assumption | exact upd_eq _ _ _)))) (by exact rfl) ?_
        refine Gq_s (pc' := 34) rfl rfl rfl ?_
        refine Gq_get (pc' := 37) rfl rfl (by first | assumption | exact upd_eq _ _ _ | (refine (upd_ne _ _ (by omega)).trans ?_; first | assumption | exact upd_eq _ _ _ | (refine (upd_ne _ _ (by omega)).trans ?_; first | assumption | exact upd_eq _ _ _ | (refine (upd_ne _ _ (by omega)).trans ?_; first | assumption | exact upd_eq _ _ _)))) (by exact rfl) ?_
        refine Gq_s (pc' := 38) rfl rfl rfl ?_
        refine Gq_get (pc' := 41) rfl rfl (by first | assumption | exact upd_eq _ _ _ | (refine (upd_ne _ _ (by omega)).trans ?_; first | assumption | exact upd_eq _ _ _ | (refine (upd_ne _ _ (by omega)).trans ?_; first | assumption | exact upd_eq _ _ _ | (refine (upd_ne _ _ (by omega)).trans ?_; first | assumption | exact upd_eq _ _ _)))) (by exact rfl) ?_
        refine Gq_aald (pc' := 42) (j := L.length - 1) rfl rfl (by first | assumption | exact upd_eq _ _ _ | (refine (upd_ne _ _ (by omega)).trans ?_; first | assumption | exact upd_eq _ _ _ | (refine (upd_ne _ _ (by omega)).trans ?_; first | assumption | exact upd_eq _ _ _ | (refine (upd_ne _ _ (by omega)).trans ?_; first | assumption | exact upd_eq _ _ _)))) (by exact rfl) (by omega) (by omega) (by omega) (rv_s hq) ?_
        refine Gq_get (pc' := 45) rfl rfl (by first | assumption | exact upd_eq _ _ _ | (refine (upd_ne _ _ (by omega)).trans ?_; first | assumption | exact upd_eq _ _ _ | (refine (upd_ne _ _ (by omega)).trans ?_; first | assumption | exact upd_eq _ _ _ | (refine (upd_ne _ _ (by omega)).trans ?_; first | assumption | exact upd_eq _ _ _)))) (by exact rfl) ?_
        refine Gq_isub (pc' := 46) rfl rfl ?_
        refine Gq_put (pc' := 49) (fs' := [_, _, _, _]) rfl rfl (by first | assumption | exact upd_eq _ _ _ | (refine (upd_ne _ _ (by omega)).trans ?_; first | assumption | exact upd_eq _ _ _ | (refine (upd_ne _ _ (by omega)).trans ?_; first | assumption | exact upd_eq _ _ _ | (refine (upd_ne _ _ (by omega)).trans ?_; first | assumption | exact upd_eq _ _ _)))) (by exact rfl) (by first | rfl | exact xfit_bI _) (by exact rfl) ?_
        refine Gq_goto rfl (t := 0) rfl ?_
        have hd1 : L.dropLast.length = L.length - 1 := List.length_dropLast
        simp only [upd_upd]
        have hCa2 : CaAt (hup H c (false, 0, [.ref (c + 1), .int (zI ((L.length : Int) - 1)), .int (zI (usd vr L - vS (vr q))), .int (zI r)])) c L.dropLast r vr V := ⟨by rw [upd_eq, e2, hd1, show (((L.length - 1 : Nat)) : Int) = (L.length : Int) - 1 by omega], by omega, fun x hx => hV x (mem_dl hx), hd, by rw [upd_ne _ _ (by omega)]; exact h1, fun i x hx => by
          have hi : i < L.dropLast.length := (List.getElem?_eq_some_iff.mp hx).1
          exact hh i x (by rw [List.getElem?_dropLast, if_pos (by omega)] at hx; exact hx)⟩
        refine Gq_mq (ih L.dropLast _ (by omega) (VS_upd (by omega) hvs) hCa2) ?_
        rintro v G m ⟨a1, a2, a3, a4⟩
        exact ⟨a1, a2, a3, fun o ho => (a4 o ho).trans (upd_ne _ _ ho)⟩
theorem t_log {S : ScT} {H : HF} (n : Nat) {c : Nat} {L : List Nat} {r : Int} {vr : Nat → VR} {V : Nat → Prop} (hvs : VsA H vr V) (hc : c + 1 < 119) (hr : 0 ≤ r ∧ r ≤ 20000) (hCa : CaAt H c L r vr V) : Rmt S 68 [.ref c] H n (fun v G m => v = none ∧ m = n ∧ CaAt G c (trm vr r L.length L) r vr V ∧ ∀ o, ¬ o = c → G o = H o) := by
  refine Rm_of (M := xm68) (lv := [(0, _)]) rfl rfl rfl ?_
  exact t_log_l hc hr L.length L H (Nat.le_refl _) hvs hCa
def mfL (vr : Nat → VR) (r : Int) (L : List Nat) (x : Nat) : List Nat × Bool :=
  if 0 ≤ plc x L 0 then (x :: L.eraseIdx (plc x L 0).toNat, false) else if vS (vr x) ≤ r ∧ L.length < 96 then (trm vr r (L.length + 1) (x :: L), true) else (L, true)
theorem plc_in {x : Nat} : ∀ (L : List Nat) (i : Nat), plc x L i = -1 ∨ ∃ j : Nat, plc x L i = ((i + j : Nat) : Int) ∧ L[j]? = some x
  | [], _ => .inl rfl
  | q :: t, i => by
    unfold plc
    by_cases e : q = x
    · rw [if_pos e]
      exact .inr ⟨0, rfl, by rw [e]; rfl⟩
    · rw [if_neg e]
      rcases plc_in t (i + 1) with h | ⟨j, h1, h2⟩
      · exact .inl h
      · exact .inr ⟨j + 1, by rw [h1, show i + 1 + j = i + (j + 1) by omega], h2⟩
theorem usd_erase {vr : Nat → VR} {x : Nat} : ∀ (L : List Nat) (j : Nat), L[j]? = some x → usd vr (x :: L.eraseIdx j) = usd vr L
  | [], _, h => by cases h
  | q :: t, 0, h => by cases h; rfl
  | q :: t, j + 1, h => by
    have := usd_erase (vr := vr) t j h
    show vS (vr x) + (vS (vr q) + usd vr (t.eraseIdx j)) = vS (vr q) + usd vr t
    have h2 : vS (vr x) + usd vr (t.eraseIdx j) = usd vr t := this
    omega
theorem pf_get {hd : Nat → Option Nat} {L : List Nat} {x j : Nat} (hh : ∀ i q : Nat, L[i]? = some q → hd i = some q) (hj : j < L.length) : ∀ i q : Nat, (x :: L.eraseIdx j)[i]? = some q → fset (pfJ hd j 0) 0 (some x) i = some q := by
  intro i q hq
  cases i with
  | zero =>
    rw [fset_eq]
    exact hq
  | succ i =>
    have hq : (L.eraseIdx j)[i]? = some q := hq
    rw [fset_ne _ _ (by omega), pfJ]
    rw [List.getElem?_eraseIdx] at hq
    by_cases e : i < j
    · rw [if_pos e] at hq
      rw [if_pos (by omega)]
      exact hh i q hq
    · rw [if_neg e] at hq
      rw [if_neg (by omega)]
      exact hh (i + 1) q hq
theorem pf_new {hd : Nat → Option Nat} {L : List Nat} {x : Nat} (hh : ∀ i q : Nat, L[i]? = some q → hd i = some q) : ∀ i q : Nat, (x :: L)[i]? = some q → fset (pfJ hd L.length 0) 0 (some x) i = some q := by
  intro i q hq
  cases i with
  | zero =>
    rw [fset_eq]
    exact hq
  | succ i =>
    have hq : L[i]? = some q := hq
    have hi : i < L.length := (List.getElem?_eq_some_iff.mp hq).1
    rw [fset_ne _ _ (by omega), pfJ, if_pos (by omega)]
    exact hh i q hq
theorem t_mf {S : ScT} {H : HF} (n : Nat) {c x : Nat} {L : List Nat} {r : Int} {vr : Nat → VR} {V : Nat → Prop} (hvs : VsA H vr V) (hc : c + 1 < 119) (hr : 0 ≤ r ∧ r ≤ 20000) (hCa : CaAt H c L r vr V) (hx : V x) : Rmt S 66 [.ref c, .ref x] H n (fun v G m => v = some (.int (zI (bI (mfL vr r L x).2))) ∧ m = n ∧ CaAt G c (mfL vr r L x).1 r vr V ∧ ∀ o, ¬ o = c → ¬ o = c + 1 → G o = H o) := by
  refine Rm_of (M := xm66) (lv := [(0, _), (1, _)]) rfl rfl rfl ?_
  obtain ⟨h0, hL, hV, hd, h1, hh⟩ := id hCa
  have hu := usd_b hvs L hV
  obtain ⟨hx119, ⟨-, -, hsz⟩, f, g, h5, -⟩ := hvs x hx
  have hvx : ∀ i q, i < L.length → hd i = some q → V q := fun i q hi hq => by
    have := hh i _ (List.getElem?_eq_getElem hi)
    rw [this] at hq
    cases hq
    exact hV _ (List.getElem_mem hi)
  have hpl := plc_in (x := x) L 0
  refine Gq_s (pc' := 1) rfl rfl rfl ?_
  refine Gq_s (pc' := 2) rfl rfl rfl ?_
  refine Gq_callv1 (pc' := 5) (Y := xm65) (rest := []) (st' := [_]) (ce' := 0) (sl' := 0) rfl rfl rfl rfl rfl rfl rfl rfl rfl (t_plc n hvs h0 hL hV h1 hh hx) rfl (by first | assumption | exact upd_eq _ _ _ | (refine (upd_ne _ _ (by omega)).trans ?_; first | assumption | exact upd_eq _ _ _ | (refine (upd_ne _ _ (by omega)).trans ?_; first | assumption | exact upd_eq _ _ _ | (refine (upd_ne _ _ (by omega)).trans ?_; first | assumption | exact upd_eq _ _ _)))) ?_
  refine Gq_s (pc' := 6) (lv' := [(0, _), (1, _), (2, _)]) rfl rfl rfl ?_
  refine Gq_s (pc' := 7) rfl rfl rfl ?_
  refine Gq_s (pc' := 8) rfl rfl rfl ?_
  rcases hpl with hpl | ⟨j, hpl, hj⟩
  · have e : mfL vr r L x = if vS (vr x) ≤ r ∧ L.length < 96 then (trm vr r (L.length + 1) (x :: L), true) else (L, true) := by rw [mfL, if_neg (by omega)]
    rw [e]
    refine Gq_ceq (pc' := 11) (t := 19) rfl rfl rfl (by omega) (by omega) (fun _ => ?_) (fun hq => absurd (by omega) hq)
    refine Gq_s (pc' := 20) rfl rfl rfl ?_
    refine Gq_get (pc' := 23) rfl rfl (by first | assumption | exact upd_eq _ _ _ | (refine (upd_ne _ _ (by omega)).trans ?_; first | assumption | exact upd_eq _ _ _ | (refine (upd_ne _ _ (by omega)).trans ?_; first | assumption | exact upd_eq _ _ _ | (refine (upd_ne _ _ (by omega)).trans ?_; first | assumption | exact upd_eq _ _ _)))) (by exact rfl) ?_
    refine Gq_s (pc' := 24) rfl rfl rfl ?_
    refine Gq_get (pc' := 27) rfl rfl (by first | assumption | exact upd_eq _ _ _ | (refine (upd_ne _ _ (by omega)).trans ?_; first | assumption | exact upd_eq _ _ _ | (refine (upd_ne _ _ (by omega)).trans ?_; first | assumption | exact upd_eq _ _ _ | (refine (upd_ne _ _ (by omega)).trans ?_; first | assumption | exact upd_eq _ _ _)))) (by exact rfl) ?_
    refine Gq_cgt (pc' := 30) (t := 80) rfl rfl rfl (by omega) (by omega) (fun hg => ?_) (fun hg => ?_)
    · refine Gq_s (pc' := 81) rfl rfl rfl ?_
      exact Gq_ret rfl rfl (rfl) (⟨by rw [if_neg (by omega)]; rfl, rfl, by rw [if_neg (by omega)]; exact hCa, fun _ _ _ => rfl⟩)
    · refine Gq_s (pc' := 31) rfl rfl rfl ?_
      refine Gq_get (pc' := 34) rfl rfl (by first | assumption | exact upd_eq _ _ _ | (refine (upd_ne _ _ (by omega)).trans ?_; first | assumption | exact upd_eq _ _ _ | (refine (upd_ne _ _ (by omega)).trans ?_; first | assumption | exact upd_eq _ _ _ | (refine (upd_ne _ _ (by omega)).trans ?_; first | assumption | exact upd_eq _ _ _)))) (by exact rfl) ?_
      refine Gq_s (pc' := 35) rfl rfl rfl ?_
      refine Gq_get (pc' := 38) rfl rfl (by first | assumption | exact upd_eq _ _ _ | (refine (upd_ne _ _ (by omega)).trans ?_; first | assumption | exact upd_eq _ _ _ | (refine (upd_ne _ _ (by omega)).trans ?_; first | assumption | exact upd_eq _ _ _ | (refine (upd_ne _ _ (by omega)).trans ?_; first | assumption | exact upd_eq _ _ _)))) (by exact rfl) ?_
      refine Gq_len (pc' := 39) rfl rfl (by first | assumption | exact upd_eq _ _ _ | (refine (upd_ne _ _ (by omega)).trans ?_; first | assumption | exact upd_eq _ _ _ | (refine (upd_ne _ _ (by omega)).trans ?_; first | assumption | exact upd_eq _ _ _ | (refine (upd_ne _ _ (by omega)).trans ?_; first | assumption | exact upd_eq _ _ _)))) (by exact rfl) (by exact aX_len _ _) ?_
      refine Gq_cge (pc' := 42) (t := 80) rfl rfl rfl (by omega) (by omega) (fun hg2 => ?_) (fun hg2 => ?_)
      · refine Gq_s (pc' := 81) rfl rfl rfl ?_
        exact Gq_ret rfl rfl (rfl) (⟨by rw [if_neg (by omega)]; rfl, rfl, by rw [if_neg (by omega)]; exact hCa, fun _ _ _ => rfl⟩)
      · rw [if_pos ⟨by omega, by omega⟩]
        refine Gq_s (pc' := 43) rfl rfl rfl ?_
        refine Gq_s (pc' := 44) rfl rfl rfl ?_
        refine Gq_get (pc' := 47) rfl rfl (by first | assumption | exact upd_eq _ _ _ | (refine (upd_ne _ _ (by omega)).trans ?_; first | assumption | exact upd_eq _ _ _ | (refine (upd_ne _ _ (by omega)).trans ?_; first | assumption | exact upd_eq _ _ _ | (refine (upd_ne _ _ (by omega)).trans ?_; first | assumption | exact upd_eq _ _ _)))) (by exact rfl) ?_
        refine Gq_s (pc' := 48) rfl rfl rfl ?_
        refine Gq_iadd (pc' := 49) rfl rfl ?_
        refine Gq_put (pc' := 52) (fs' := [_, _, _, _]) rfl rfl (by first | assumption | exact upd_eq _ _ _ | (refine (upd_ne _ _ (by omega)).trans ?_; first | assumption | exact upd_eq _ _ _ | (refine (upd_ne _ _ (by omega)).trans ?_; first | assumption | exact upd_eq _ _ _ | (refine (upd_ne _ _ (by omega)).trans ?_; first | assumption | exact upd_eq _ _ _)))) (by exact rfl) (by first | rfl | exact xfit_bI _) (by exact rfl) ?_
        refine Gq_s (pc' := 53) rfl rfl rfl ?_
        refine Gq_s (pc' := 54) rfl rfl rfl ?_
        refine Gq_get (pc' := 57) rfl rfl (by first | assumption | exact upd_eq _ _ _ | (refine (upd_ne _ _ (by omega)).trans ?_; first | assumption | exact upd_eq _ _ _ | (refine (upd_ne _ _ (by omega)).trans ?_; first | assumption | exact upd_eq _ _ _ | (refine (upd_ne _ _ (by omega)).trans ?_; first | assumption | exact upd_eq _ _ _)))) (by exact rfl) ?_
        refine Gq_s (pc' := 58) rfl rfl rfl ?_
        refine Gq_get (pc' := 61) rfl rfl (by first | assumption | exact upd_eq _ _ _ | (refine (upd_ne _ _ (by omega)).trans ?_; first | assumption | exact upd_eq _ _ _ | (refine (upd_ne _ _ (by omega)).trans ?_; first | assumption | exact upd_eq _ _ _ | (refine (upd_ne _ _ (by omega)).trans ?_; first | assumption | exact upd_eq _ _ _)))) (by exact rfl) ?_
        refine Gq_iadd (pc' := 62) rfl rfl ?_
        refine Gq_put (pc' := 65) (fs' := [_, _, _, _]) rfl rfl (by first | assumption | exact upd_eq _ _ _ | (refine (upd_ne _ _ (by omega)).trans ?_; first | assumption | exact upd_eq _ _ _ | (refine (upd_ne _ _ (by omega)).trans ?_; first | assumption | exact upd_eq _ _ _ | (refine (upd_ne _ _ (by omega)).trans ?_; first | assumption | exact upd_eq _ _ _)))) (by exact rfl) (by first | rfl | exact xfit_bI _) (by exact rfl) ?_
        refine Gq_s (pc' := 66) rfl rfl rfl ?_
        refine Gq_s (pc' := 67) rfl rfl rfl ?_
        refine Gq_s (pc' := 68) rfl rfl rfl ?_
        refine Gq_get (pc' := 71) rfl rfl (by first | assumption | exact upd_eq _ _ _ | (refine (upd_ne _ _ (by omega)).trans ?_; first | assumption | exact upd_eq _ _ _ | (refine (upd_ne _ _ (by omega)).trans ?_; first | assumption | exact upd_eq _ _ _ | (refine (upd_ne _ _ (by omega)).trans ?_; first | assumption | exact upd_eq _ _ _)))) (by exact rfl) ?_
        refine Gq_s (pc' := 72) rfl rfl rfl ?_
        refine Gq_isub (pc' := 73) rfl rfl ?_
        simp only [upd_upd]
        rw [show (L.length : Int) + 1 - 1 = (L.length : Int) by omega]
        refine Gq_callv1 (pc' := 76) (Y := xm67) (rest := []) (st' := []) (ce' := 0) (sl' := 0) rfl rfl rfl rfl rfl rfl rfl rfl rfl (t_pf n (VS_upd (by omega) hvs) hc (by omega) hx hvx (upd_eq _ _ _) (by rw [upd_ne _ _ (by omega)]; exact h1)) rfl (by first | assumption | exact upd_eq _ _ _ | (refine (upd_ne _ _ (by omega)).trans ?_; first | assumption | exact upd_eq _ _ _ | (refine (upd_ne _ _ (by omega)).trans ?_; first | assumption | exact upd_eq _ _ _ | (refine (upd_ne _ _ (by omega)).trans ?_; first | assumption | exact upd_eq _ _ _)))) ?_
        refine Gq_s (pc' := 77) rfl rfl rfl ?_
        have hCa2 : CaAt (hup (hup H c (false, 0, [.ref (c + 1), .int (zI ((L.length : Int) + 1)), .int (zI (usd vr L + vS (vr x))), .int (zI r)])) (c + 1) (true, 3, aR 96 (fset (pfJ hd L.length 0) 0 (some x)))) c (x :: L) r vr V := ⟨by rw [upd_ne _ _ (by omega), upd_eq, show usd vr (x :: L) = usd vr L + vS (vr x) by show vS (vr x) + usd vr L = _; omega]; rfl, by show L.length + 1 ≤ 96; omega, fun q hq => (List.mem_cons.mp hq).elim (fun e => e ▸ hx) (hV q), _, upd_eq _ _ _, pf_new hh⟩
        refine Gq_callv (pc' := 80) (Y := xm68) (rest := []) (ce' := 0) (sl' := 0) rfl rfl rfl rfl rfl rfl rfl rfl rfl (t_log n (VS_upd (by omega) (VS_upd (by omega) hvs)) hc hr hCa2) (by first | assumption | exact upd_eq _ _ _ | (refine (upd_ne _ _ (by omega)).trans ?_; first | assumption | exact upd_eq _ _ _ | (refine (upd_ne _ _ (by omega)).trans ?_; first | assumption | exact upd_eq _ _ _ | (refine (upd_ne _ _ (by omega)).trans ?_; first | assumption | exact upd_eq _ _ _)))) (fun v' H' n' hv => ?_)
        obtain ⟨rfl, rfl, g1, g2⟩ := hv
        refine Gq_s (pc' := 81) rfl rfl rfl ?_
        exact Gq_ret rfl rfl (rfl) (⟨rfl, rfl, g1, fun o h1 h2 => by rw [g2 o h1, upd_ne _ _ h2, upd_ne _ _ h1]⟩)
  · have hjl : j < L.length := (List.getElem?_eq_some_iff.mp hj).1
    have e0 : plc x L 0 = (j : Int) := by rw [hpl, Nat.zero_add]
    have e : mfL vr r L x = (x :: L.eraseIdx j, false) := by rw [mfL, if_pos (by omega), e0]; rfl
    rw [e, e0]
    refine Gq_ceq (pc' := 11) (t := 19) rfl rfl rfl (by omega) (by omega) (fun hq => absurd hq (by omega)) (fun _ => ?_)
    refine Gq_s (pc' := 12) rfl rfl rfl ?_
    refine Gq_s (pc' := 13) rfl rfl rfl ?_
    refine Gq_s (pc' := 14) rfl rfl rfl ?_
    refine Gq_callv1 (pc' := 17) (Y := xm67) (rest := []) (st' := []) (ce' := 0) (sl' := 0) rfl rfl rfl rfl rfl rfl rfl rfl rfl (t_pf n hvs hc (by omega) hx (fun i q hi hq => hvx i q (by omega) hq) h0 h1) rfl (by first | assumption | exact upd_eq _ _ _ | (refine (upd_ne _ _ (by omega)).trans ?_; first | assumption | exact upd_eq _ _ _ | (refine (upd_ne _ _ (by omega)).trans ?_; first | assumption | exact upd_eq _ _ _ | (refine (upd_ne _ _ (by omega)).trans ?_; first | assumption | exact upd_eq _ _ _)))) ?_
    refine Gq_s (pc' := 18) rfl rfl rfl ?_
    exact Gq_ret rfl rfl (rfl) (⟨rfl, rfl, ⟨by rw [upd_ne _ _ (by omega), usd_erase L j hj, show (x :: L.eraseIdx j).length = L.length by rw [List.length_cons, List.length_eraseIdx_of_lt hjl]; omega]; exact h0, by rw [List.length_cons, List.length_eraseIdx_of_lt hjl]; omega, fun q hq => (List.mem_cons.mp hq).elim (fun e => e ▸ hx) (fun h => hV q (List.mem_of_mem_eraseIdx h)), _, upd_eq _ _ _, pf_get hh hjl⟩, fun o h1 h2 => upd_ne _ _ h2⟩)
theorem mf_le {vr : Nat → VR} {r : Int} {L : List Nat} {x : Nat} (hr : 0 ≤ r) (h : usd vr L ≤ r) : usd vr (mfL vr r L x).1 ≤ r := by
  unfold mfL
  split
  · rename_i hp
    rcases plc_in (x := x) L 0 with hpl | ⟨j, hpl, hj⟩
    · omega
    · have e : (plc x L 0).toNat = j := by omega
      show usd vr (x :: L.eraseIdx (plc x L 0).toNat) ≤ r
      rw [e, usd_erase L j hj]
      exact h
  · split
    · exact trm_le hr (Nat.le_refl _)
    · exact h
end XKe
