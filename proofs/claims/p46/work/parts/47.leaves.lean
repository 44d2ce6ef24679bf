/-! the law's leaves (printed by wip/p46/gen47.py) -/
section XKr
def f4 (a b c d : Int) : Nat → Int := fun i => if i = 0 then a else if i = 1 then b else if i = 2 then c else d
def f3 (a b c : Int) : Nat → Int := fun i => if i = 0 then a else if i = 1 then b else c
theorem f4_is (a b c d : Int) : aI 4 (fset (fset (fset (fset (fun _ => 0) 0 a) 1 b) 2 c) 3 d) = aI 4 (f4 a b c d) := aX_ext fun j hj => by
  have : j = 0 ∨ j = 1 ∨ j = 2 ∨ j = 3 := by omega
  rcases this with rfl | rfl | rfl | rfl <;> rfl
theorem f3_is (a b c : Int) : aI 3 (fset (fset (fset (fun _ => 0) 0 a) 1 b) 2 c) = aI 3 (f3 a b c) := aX_ext fun j hj => by
  have : j = 0 ∨ j = 1 ∨ j = 2 := by omega
  rcases this with rfl | rfl | rfl <;> rfl
theorem t_range {L : Nat} {ys : Nat → Int32} (hLs : L ≤ 100000) {H : HF} (n : Nat) {q d : Nat} {P W : Int} (h0 : H 0 = some (false, 11, rgF q (d : Int) P W)) (hd : d < 900000) : Rmt (some (L, ys)) 129 [.ref 0] H n (fun v G m => ∃ a b c e : Nat, a < 6 ∧ b < 3 ∧ c < 3 ∧ e < 2 ∧ v = some (.ref n) ∧ m = n + 1 ∧ G 0 = some (false, 11, rgF q ((d + 4 : Nat) : Int) P W) ∧ G n = some (true, 0, aI 4 (f4 a b c e)) ∧ ∀ o, ¬ o = 0 → ¬ o = n → G o = H o) := by
  refine Rm_fr (fun hF => ?_)
  refine Rm_of (M := xm129) (lv := [(0, _)]) rfl rfl rfl ?_
  have hn := Fr_lt hF h0
  refine Gq_s (pc' := 1) rfl rfl rfl ?_
  refine Gq_newa (pc' := 3) (N := 4) rfl (fun _ => rfl) rfl rfl (rfl) (by decide) ((rep_I _)) (by decide) (by decide) ?_
  refine Gq_s (pc' := 4) rfl rfl rfl ?_
  refine Gq_s (pc' := 5) rfl rfl rfl ?_
  refine Gq_s (pc' := 6) rfl rfl rfl ?_
  refine Gq_bipush (pc' := 8) rfl rfl (by decide) ?_
  refine Gq_callv (pc' := 11) (Y := xm128) (rest := [_, _, _]) (ce' := 1) (sl' := 4) rfl rfl rfl rfl rfl rfl rfl rfl rfl (t_draw hLs _ (d := d + 0) (by first | (rw [upd_ne _ _ (by omega)]; exact h0) | (rw [upd_ne _ _ (by omega)]; exact upd_eq _ _ _)) (by omega) (by decide)) (by first | (exact (upd_ne _ _ (by omega)).trans h0) | (exact (upd_ne _ _ (by omega)).trans (upd_eq _ _ _))) (fun v0 H0 n0 hv => ?_)
  obtain ⟨a, rfl, ha, rfl, rfl⟩ := hv
  refine Gq_iast (pc' := 12) (j := 0) rfl rfl (by first | assumption | exact upd_eq _ _ _ | ((repeat (refine (upd_ne _ _ (by omega)).trans ?_)); first | assumption | exact upd_eq _ _ _)) (rfl) (by omega) (by omega) ?_
  refine Gq_s (pc' := 13) rfl rfl rfl ?_
  refine Gq_s (pc' := 14) rfl rfl rfl ?_
  refine Gq_s (pc' := 15) rfl rfl rfl ?_
  refine Gq_s (pc' := 16) rfl rfl rfl ?_
  refine Gq_callv (pc' := 19) (Y := xm128) (rest := [_, _, _]) (ce' := 1) (sl' := 4) rfl rfl rfl rfl rfl rfl rfl rfl rfl (t_draw hLs _ (d := d + 1) (by first | (rw [upd_ne _ _ (by omega)]; exact h0) | (rw [upd_ne _ _ (by omega)]; exact upd_eq _ _ _)) (by omega) (by decide)) (by first | (exact (upd_ne _ _ (by omega)).trans h0) | (exact (upd_ne _ _ (by omega)).trans (upd_eq _ _ _))) (fun v1 H1 n1 hv => ?_)
  obtain ⟨b, rfl, hb, rfl, rfl⟩ := hv
  refine Gq_iast (pc' := 20) (j := 1) rfl rfl (by first | assumption | exact upd_eq _ _ _ | ((repeat (refine (upd_ne _ _ (by omega)).trans ?_)); first | assumption | exact upd_eq _ _ _)) (rfl) (by omega) (by omega) ?_
  refine Gq_s (pc' := 21) rfl rfl rfl ?_
  refine Gq_s (pc' := 22) rfl rfl rfl ?_
  refine Gq_s (pc' := 23) rfl rfl rfl ?_
  refine Gq_s (pc' := 24) rfl rfl rfl ?_
  refine Gq_callv (pc' := 27) (Y := xm128) (rest := [_, _, _]) (ce' := 1) (sl' := 4) rfl rfl rfl rfl rfl rfl rfl rfl rfl (t_draw hLs _ (d := d + 2) (by first | (rw [upd_ne _ _ (by omega)]; exact h0) | (rw [upd_ne _ _ (by omega)]; exact upd_eq _ _ _)) (by omega) (by decide)) (by first | (exact (upd_ne _ _ (by omega)).trans h0) | (exact (upd_ne _ _ (by omega)).trans (upd_eq _ _ _))) (fun v2 H2 n2 hv => ?_)
  obtain ⟨c, rfl, hc, rfl, rfl⟩ := hv
  refine Gq_iast (pc' := 28) (j := 2) rfl rfl (by first | assumption | exact upd_eq _ _ _ | ((repeat (refine (upd_ne _ _ (by omega)).trans ?_)); first | assumption | exact upd_eq _ _ _)) (rfl) (by omega) (by omega) ?_
  refine Gq_s (pc' := 29) rfl rfl rfl ?_
  refine Gq_s (pc' := 30) rfl rfl rfl ?_
  refine Gq_s (pc' := 31) rfl rfl rfl ?_
  refine Gq_s (pc' := 32) rfl rfl rfl ?_
  refine Gq_callv (pc' := 35) (Y := xm128) (rest := [_, _, _]) (ce' := 1) (sl' := 4) rfl rfl rfl rfl rfl rfl rfl rfl rfl (t_draw hLs _ (d := d + 3) (by first | (rw [upd_ne _ _ (by omega)]; exact h0) | (rw [upd_ne _ _ (by omega)]; exact upd_eq _ _ _)) (by omega) (by decide)) (by first | (exact (upd_ne _ _ (by omega)).trans h0) | (exact (upd_ne _ _ (by omega)).trans (upd_eq _ _ _))) (fun v3 H3 n3 hv => ?_)
  obtain ⟨e, rfl, he, rfl, rfl⟩ := hv
  refine Gq_iast (pc' := 36) (j := 3) rfl rfl (by first | assumption | exact upd_eq _ _ _ | ((repeat (refine (upd_ne _ _ (by omega)).trans ?_)); first | assumption | exact upd_eq _ _ _)) (rfl) (by omega) (by omega) ?_
  refine Gq_s (pc' := 37) (lv' := [(0, _), (1, _)]) rfl rfl rfl ?_
  refine Gq_s (pc' := 38) rfl rfl rfl ?_
  refine Gq_ret rfl rfl rfl ⟨a, b, c, e, by omega, by omega, by omega, by omega, rfl, rfl, ?_, ?_, fun o h1 h2 => ?_⟩
  · rw [upd_ne _ _ (by omega)]; exact upd_eq _ _ _
  · rw [upd_eq, f4_is]
  · rw [upd_ne _ _ h2, upd_ne _ _ h1, upd_ne _ _ h2, upd_ne _ _ h1, upd_ne _ _ h2, upd_ne _ _ h1, upd_ne _ _ h2, upd_ne _ _ h1, upd_ne _ _ h2]
theorem t_lj {L : Nat} {ys : Nat → Int32} (hLs : L ≤ 100000) {H : HF} (n : Nat) {x y N K : Nat} {f g : Nat → Int} (h0 : H x = some (true, 0, aI N f)) (h1 : H y = some (true, 0, aI K g)) (hNK : N + K ≤ 64) : Rmt (some (L, ys)) 130 [.ref x, .ref y] H n (fun v G m => v = some (.ref n) ∧ m = n + 1 ∧ G n = some (true, 0, aI (N + K) (fun k => if k < N then f k else g (k - N))) ∧ ∀ o, ¬ o = n → G o = H o) := by
  refine Rm_fr (fun hF => ?_)
  refine Rm_of (M := xm130) (lv := [(0, _), (1, _)]) rfl rfl rfl ?_
  have hx := Fr_lt hF h0
  have hy := Fr_lt hF h1
  refine Gq_s (pc' := 1) rfl rfl rfl ?_
  refine Gq_len (pc' := 2) rfl rfl (by first | assumption | exact upd_eq _ _ _ | ((repeat (refine (upd_ne _ _ (by omega)).trans ?_)); first | assumption | exact upd_eq _ _ _)) (by exact rfl) (by exact aX_len _ _) ?_
  refine Gq_s (pc' := 3) rfl rfl rfl ?_
  refine Gq_len (pc' := 4) rfl rfl (by first | assumption | exact upd_eq _ _ _ | ((repeat (refine (upd_ne _ _ (by omega)).trans ?_)); first | assumption | exact upd_eq _ _ _)) (by exact rfl) (by exact aX_len _ _) ?_
  refine Gq_iadd (pc' := 5) rfl rfl ?_
  refine Gq_newa (pc' := 7) (N := N + K) rfl (fun _ => rfl) rfl rfl (by omega) (by omega) (rep_I _) (by decide) (by show 0 + (N + K) ≤ 64; omega) ?_
  refine Gq_s (pc' := 8) (lv' := [(0, _), (1, _), (2, _)]) rfl rfl rfl ?_
  refine Gq_s (pc' := 9) rfl rfl rfl ?_
  refine Gq_s (pc' := 10) rfl rfl rfl ?_
  refine Gq_s (pc' := 11) rfl rfl rfl ?_
  refine Gq_s (pc' := 12) rfl rfl rfl ?_
  refine Gq_s (pc' := 13) rfl rfl rfl ?_
  refine Gq_len (pc' := 14) rfl rfl (by first | assumption | exact upd_eq _ _ _ | ((repeat (refine (upd_ne _ _ (by omega)).trans ?_)); first | assumption | exact upd_eq _ _ _)) (by exact rfl) (by exact aX_len _ _) ?_
  refine Gq_copy (pc' := 17) (N := N) (K := N + K) (d := 0) rfl rfl ((upd_ne _ _ (by omega)).trans h0) (upd_eq _ _ _) rfl rfl rfl (by omega) (by omega) rfl ?_
  rw [upd_upd]
  refine Gq_s (pc' := 18) rfl rfl rfl ?_
  refine Gq_s (pc' := 19) rfl rfl rfl ?_
  refine Gq_s (pc' := 20) rfl rfl rfl ?_
  refine Gq_s (pc' := 21) rfl rfl rfl ?_
  refine Gq_len (pc' := 22) rfl rfl (by first | assumption | exact upd_eq _ _ _ | ((repeat (refine (upd_ne _ _ (by omega)).trans ?_)); first | assumption | exact upd_eq _ _ _)) (by exact rfl) (by exact aX_len _ _) ?_
  refine Gq_s (pc' := 23) rfl rfl rfl ?_
  refine Gq_len (pc' := 24) rfl rfl (by first | assumption | exact upd_eq _ _ _ | ((repeat (refine (upd_ne _ _ (by omega)).trans ?_)); first | assumption | exact upd_eq _ _ _)) (by exact rfl) (by exact aX_len _ _) ?_
  refine Gq_copy (pc' := 27) (N := K) (K := N + K) (d := N) rfl rfl ((upd_ne _ _ (by omega)).trans h1) (upd_eq _ _ _) rfl rfl rfl (by omega) (by omega) rfl ?_
  rw [upd_upd]
  refine Gq_s (pc' := 28) rfl rfl rfl ?_
  refine Gq_ret rfl (by rw [Nat.ble_eq_true_of_le (show 0 + 1 ≤ (xmR xm130).cells by decide), Nat.ble_eq_true_of_le (show 0 + (N + K) ≤ (xmR xm130).slots by show 0 + (N + K) ≤ 64; omega)]; rfl) rfl ⟨rfl, rfl, ?_, fun o h => upd_ne _ _ h⟩
  rw [upd_eq]
  refine congrArg (fun z => some (true, 0, z)) (aX_ext fun j hj => ?_)
  show Value.int (zI (if N ≤ j ∧ j < N + K then g (j - N) else if 0 ≤ j ∧ j < 0 + N then f (j - 0) else 0)) = Value.int (zI (if j < N then f j else g (j - N)))
  by_cases e : j < N
  · rw [if_pos e, if_neg (show ¬ (N ≤ j ∧ j < N + K) by omega), if_pos (show 0 ≤ j ∧ j < 0 + N by omega), Nat.sub_zero]
  · rw [if_neg e, if_pos (show N ≤ j ∧ j < N + K by omega)]
def ordR (f g : Nat → Int) : Nat → Nat → Int
  | 0, _ => 0
  | k + 1, j => if f j = g j then ordR f g k (j + 1) else if f j < g j then -1 else 1
def sml (f : Nat → Int) (N : Nat) : Prop := ∀ j, j < N → -1000 ≤ f j ∧ f j ≤ 1000
theorem t_ord_l {L : Nat} {ys : Nat → Int32} (hLs : L ≤ 100000) {H : HF} {n x y : Nat} {f g : Nat → Int} (h0 : H x = some (true, 0, aI 3 f)) (h1 : H y = some (true, 0, aI 3 g)) (hf : sml f 3) (hg : sml g 3) : ∀ (k j : Nat), j + k = 3 → Gw (some (L, ys)) xm132 2 [(0, .ref x), (1, .ref y), (2, .int (zI (j : Int)))] [] H n 0 0 (MQe xm132 (fun v G m => v = some (.int (zI (ordR f g k j))) ∧ G = H ∧ m = n)) := by
  intro k
  induction k with
  | zero =>
    intro j hj
    refine Gq_s (pc' := 3) rfl rfl rfl ?_
    refine Gq_s (pc' := 4) rfl rfl rfl ?_
    refine Gq_cge (pc' := 7) (t := 37) rfl rfl rfl (by omega) (by omega) (fun _ => ?_) (fun hq => absurd (by omega) hq)
    refine Gq_s (pc' := 38) rfl rfl rfl ?_
    exact Gq_ret rfl rfl (rfl) (⟨rfl, rfl, rfl⟩)
  | succ k ih =>
    intro j hj
    have h2 := hf j (by omega)
    have h3 := hg j (by omega)
    refine Gq_s (pc' := 3) rfl rfl rfl ?_
    refine Gq_s (pc' := 4) rfl rfl rfl ?_
    refine Gq_cge (pc' := 7) (t := 37) rfl rfl rfl (by omega) (by omega) (fun hq => absurd hq (by omega)) (fun _ => ?_)
    refine Gq_s (pc' := 8) rfl rfl rfl ?_
    refine Gq_s (pc' := 9) rfl rfl rfl ?_
    refine Gq_iald (pc' := 10) rfl rfl (by first | assumption | exact upd_eq _ _ _ | (refine (upd_ne _ _ (by omega)).trans ?_; first | assumption | exact upd_eq _ _ _ | (refine (upd_ne _ _ (by omega)).trans ?_; first | assumption | exact upd_eq _ _ _ | (refine (upd_ne _ _ (by omega)).trans ?_; first | assumption | exact upd_eq _ _ _)))) (rfl) (by omega) (by omega) ?_
    refine Gq_s (pc' := 11) rfl rfl rfl ?_
    refine Gq_s (pc' := 12) rfl rfl rfl ?_
    refine Gq_iald (pc' := 13) rfl rfl (by first | assumption | exact upd_eq _ _ _ | (refine (upd_ne _ _ (by omega)).trans ?_; first | assumption | exact upd_eq _ _ _ | (refine (upd_ne _ _ (by omega)).trans ?_; first | assumption | exact upd_eq _ _ _ | (refine (upd_ne _ _ (by omega)).trans ?_; first | assumption | exact upd_eq _ _ _)))) (rfl) (by omega) (by omega) ?_
    refine Gq_ceq (pc' := 16) (t := 31) rfl rfl rfl (by omega) (by omega) (fun he => ?_) (fun he => ?_)
    · refine Gq_iinc (pc' := 34) (lv' := [(0, _), (1, _), (2, _)]) rfl rfl rfl rfl ?_
      refine Gq_goto rfl (t := 2) rfl ?_
      rw [ordR, if_pos he]
      exact ih (j + 1) (by omega)
    · refine Gq_s (pc' := 17) rfl rfl rfl ?_
      refine Gq_s (pc' := 18) rfl rfl rfl ?_
      refine Gq_iald (pc' := 19) rfl rfl (by first | assumption | exact upd_eq _ _ _ | (refine (upd_ne _ _ (by omega)).trans ?_; first | assumption | exact upd_eq _ _ _ | (refine (upd_ne _ _ (by omega)).trans ?_; first | assumption | exact upd_eq _ _ _ | (refine (upd_ne _ _ (by omega)).trans ?_; first | assumption | exact upd_eq _ _ _)))) (rfl) (by omega) (by omega) ?_
      refine Gq_s (pc' := 20) rfl rfl rfl ?_
      refine Gq_s (pc' := 21) rfl rfl rfl ?_
      refine Gq_iald (pc' := 22) rfl rfl (by first | assumption | exact upd_eq _ _ _ | (refine (upd_ne _ _ (by omega)).trans ?_; first | assumption | exact upd_eq _ _ _ | (refine (upd_ne _ _ (by omega)).trans ?_; first | assumption | exact upd_eq _ _ _ | (refine (upd_ne _ _ (by omega)).trans ?_; first | assumption | exact upd_eq _ _ _)))) (rfl) (by omega) (by omega) ?_
      refine Gq_cge (pc' := 25) (t := 29) rfl rfl rfl (by omega) (by omega) (fun h9 => ?_) (fun h9 => ?_)
      · refine Gq_s (pc' := 30) rfl rfl rfl ?_
        exact Gq_ret rfl rfl (rfl) (⟨by rw [ordR, if_neg he, if_neg (by omega)], rfl, rfl⟩)
      · refine Gq_s (pc' := 26) rfl rfl rfl ?_
        refine Gq_goto rfl (t := 30) rfl ?_
        exact Gq_ret rfl rfl (rfl) (⟨by rw [ordR, if_neg he, if_pos (by omega)], rfl, rfl⟩)
theorem t_ord {L : Nat} {ys : Nat → Int32} (hLs : L ≤ 100000) {H : HF} (n : Nat) {x y : Nat} {f g : Nat → Int} (h0 : H x = some (true, 0, aI 3 f)) (h1 : H y = some (true, 0, aI 3 g)) (hf : sml f 3) (hg : sml g 3) : Rmt (some (L, ys)) 132 [.ref x, .ref y] H n (fun v G m => v = some (.int (zI (ordR f g 3 0))) ∧ G = H ∧ m = n) := by
  refine Rm_of (M := xm132) (lv := [(0, _), (1, _)]) rfl rfl rfl ?_
  refine Gq_s (pc' := 1) rfl rfl rfl ?_
  refine Gq_s (pc' := 2) (lv' := [(0, _), (1, _), (2, _)]) rfl rfl rfl ?_
  exact t_ord_l hLs h0 h1 hf hg 3 0 rfl
def letB (k a b c : Int) (g : Nat → Int) : Bool :=
  if k = 0 then true else if k = 1 then decide (ordR g (f3 a b c) 3 0 = 0) else if k = 2 then decide (0 ≤ ordR g (f3 a b c) 3 0) else if k = 3 then decide (ordR g (f3 a b c) 3 0 < 0) else if k = 4 then decide (0 ≤ ordR g (f3 a b c) 3 0 ∧ g 0 = a ∧ (0 < a ∨ g 1 = b)) else decide (0 ≤ ordR g (f3 a b c) 3 0 ∧ g 0 = a ∧ g 1 = b)
theorem ordR_b (f g : Nat → Int) : ∀ k j, -1 ≤ ordR f g k j ∧ ordR f g k j ≤ 1
  | 0, _ => by unfold ordR; omega
  | k + 1, j => by
    unfold ordR
    split
    · exact ordR_b f g k (j + 1)
    · split <;> omega
theorem t_lets {L : Nat} {ys : Nat → Int32} (hLs : L ≤ 100000) {H : HF} (n : Nat) {x y N at_ : Nat} {f g : Nat → Int} (h0 : H x = some (true, 0, aI N f)) (h1 : H y = some (true, 0, aI 3 g)) (hN : at_ + 3 < N) (hN2 : N ≤ 1000) (hf : sml f N) (hg : sml g 3) (hk : 0 ≤ f at_ ∧ f at_ ≤ 5) : Rmt (some (L, ys)) 131 [.ref x, .int (zI (at_ : Int)), .ref y] H n (fun v G m => v = some (.int (zI (bI (letB (f at_) (f (at_ + 1)) (f (at_ + 2)) (f (at_ + 3)) g)))) ∧ m = n + 1 ∧ ∀ o, ¬ o = n → G o = H o) := by
  refine Rm_fr (fun hF => ?_)
  refine Rm_of (M := xm131) (lv := [(0, _), (1, _), (2, _)]) rfl rfl rfl ?_
  have hx := Fr_lt hF h0
  have hy := Fr_lt hF h1
  have s1 := hf (at_ + 1) (by omega)
  have s2 := hf (at_ + 2) (by omega)
  have s3 := hf (at_ + 3) (by omega)
  have g0 := hg 0 (by omega)
  have g1 := hg 1 (by omega)
  refine Gq_s (pc' := 1) rfl rfl rfl ?_
  refine Gq_newa (pc' := 3) (N := 3) rfl (fun _ => rfl) rfl rfl (rfl) (by decide) ((rep_I _)) (by decide) (by decide) ?_
  refine Gq_s (pc' := 4) rfl rfl rfl ?_
  refine Gq_s (pc' := 5) rfl rfl rfl ?_
  refine Gq_s (pc' := 6) rfl rfl rfl ?_
  refine Gq_s (pc' := 7) rfl rfl rfl ?_
  refine Gq_s (pc' := 8) rfl rfl rfl ?_
  refine Gq_iadd (pc' := 9) rfl rfl ?_
  refine Gq_iald (pc' := 10) (j := at_ + 1) rfl rfl (by first | assumption | exact upd_eq _ _ _ | ((repeat (refine (upd_ne _ _ (by omega)).trans ?_)); first | assumption | exact upd_eq _ _ _)) (rfl) (by omega) (by omega) ?_
  refine Gq_iast (pc' := 11) (j := 0) rfl rfl (by first | assumption | exact upd_eq _ _ _ | ((repeat (refine (upd_ne _ _ (by omega)).trans ?_)); first | assumption | exact upd_eq _ _ _)) (rfl) (by omega) (by omega) ?_
  refine Gq_s (pc' := 12) rfl rfl rfl ?_
  refine Gq_s (pc' := 13) rfl rfl rfl ?_
  refine Gq_s (pc' := 14) rfl rfl rfl ?_
  refine Gq_s (pc' := 15) rfl rfl rfl ?_
  refine Gq_s (pc' := 16) rfl rfl rfl ?_
  refine Gq_iadd (pc' := 17) rfl rfl ?_
  refine Gq_iald (pc' := 18) (j := at_ + 2) rfl rfl (by first | assumption | exact upd_eq _ _ _ | ((repeat (refine (upd_ne _ _ (by omega)).trans ?_)); first | assumption | exact upd_eq _ _ _)) (rfl) (by omega) (by omega) ?_
  refine Gq_iast (pc' := 19) (j := 1) rfl rfl (by first | assumption | exact upd_eq _ _ _ | ((repeat (refine (upd_ne _ _ (by omega)).trans ?_)); first | assumption | exact upd_eq _ _ _)) (rfl) (by omega) (by omega) ?_
  refine Gq_s (pc' := 20) rfl rfl rfl ?_
  refine Gq_s (pc' := 21) rfl rfl rfl ?_
  refine Gq_s (pc' := 22) rfl rfl rfl ?_
  refine Gq_s (pc' := 23) rfl rfl rfl ?_
  refine Gq_s (pc' := 24) rfl rfl rfl ?_
  refine Gq_iadd (pc' := 25) rfl rfl ?_
  refine Gq_iald (pc' := 26) (j := at_ + 3) rfl rfl (by first | assumption | exact upd_eq _ _ _ | ((repeat (refine (upd_ne _ _ (by omega)).trans ?_)); first | assumption | exact upd_eq _ _ _)) (rfl) (by omega) (by omega) ?_
  refine Gq_iast (pc' := 27) (j := 2) rfl rfl (by first | assumption | exact upd_eq _ _ _ | ((repeat (refine (upd_ne _ _ (by omega)).trans ?_)); first | assumption | exact upd_eq _ _ _)) (rfl) (by omega) (by omega) ?_
  refine Gq_s (pc' := 28) (lv' := [(0, _), (1, _), (2, _), (3, _)]) rfl rfl rfl ?_
  refine Gq_s (pc' := 29) rfl rfl rfl ?_
  refine Gq_s (pc' := 30) rfl rfl rfl ?_
  simp only [upd_upd]
  rw [f3_is]
  have hord := ordR_b g (f3 (f (at_ + 1)) (f (at_ + 2)) (f (at_ + 3))) 3 0
  have hsm : sml (f3 (f (at_ + 1)) (f (at_ + 2)) (f (at_ + 3))) 3 := fun j hj => by
    have : j = 0 ∨ j = 1 ∨ j = 2 := by omega
    rcases this with rfl | rfl | rfl
    · exact s1
    · exact s2
    · exact s3
  have fr : ∀ o, ¬ o = n → hup H n (true, 0, aI 3 (f3 (f (at_ + 1)) (f (at_ + 2)) (f (at_ + 3)))) o = H o := fun o h => upd_ne _ _ h
  have gn : hup H n (true, 0, aI 3 (f3 (f (at_ + 1)) (f (at_ + 2)) (f (at_ + 3)))) n = some (true, 0, aI 3 (f3 (f (at_ + 1)) (f (at_ + 2)) (f (at_ + 3)))) := upd_eq _ _ _
  generalize hup H n (true, 0, aI 3 (f3 (f (at_ + 1)) (f (at_ + 2)) (f (at_ + 3)))) = G at fr gn
  have k0 := (fr x (by omega)).trans h0
  have k1 := (fr y (by omega)).trans h1
  refine Gq_calls (pc' := 33) (Y := xm132) (rest := []) (ce' := 1) (sl' := 3) rfl rfl rfl rfl rfl rfl rfl rfl rfl rfl (t_ord hLs _ k1 gn hg hsm) (fun v2 G2 n2 hv => ?_)
  obtain ⟨rfl, rfl, rfl⟩ := hv
  refine Gq_s (pc' := 35) (lv' := [(0, _), (1, _), (2, _), (3, _), (4, _)]) rfl rfl rfl ?_
  refine Gq_s (pc' := 36) rfl rfl rfl ?_
  refine Gq_s (pc' := 37) rfl rfl rfl ?_
  refine Gq_iald (pc' := 38) (j := at_) rfl rfl (by first | assumption | exact upd_eq _ _ _ | ((repeat (refine (upd_ne _ _ (by omega)).trans ?_)); first | assumption | exact upd_eq _ _ _)) (rfl) (by omega) (by omega) ?_
  generalize hkv : f at_ = kk at hk
  generalize hov : ordR g (f3 (f (at_ + 1)) (f (at_ + 2)) (f (at_ + 3))) 3 0 = ov at hord
  have e0 : f3 (f (at_ + 1)) (f (at_ + 2)) (f (at_ + 3)) 0 = f (at_ + 1) := rfl
  have e1 : f3 (f (at_ + 1)) (f (at_ + 2)) (f (at_ + 3)) 1 = f (at_ + 2) := rfl
  have hk6 : kk = 0 ∨ kk = 1 ∨ kk = 2 ∨ kk = 3 ∨ kk = 4 ∨ kk = 5 := by omega
  rcases hk6 with rfl | rfl | rfl | rfl | rfl | rfl
  · refine Gq_tsw (t := 72) rfl (by decide) (by decide) ?_
    refine Gq_s (pc' := 73) rfl rfl rfl ?_
    exact Gq_ret rfl rfl (rfl) (⟨rfl, rfl, fr⟩)
  · refine Gq_tsw (t := 74) rfl (by decide) (by decide) ?_
    refine Gq_s (pc' := 76) rfl rfl rfl ?_
    refine Gq_zne (pc' := 79) (t := 83) rfl rfl rfl (by omega) (fun hb => ?_) (fun hb => ?_)
    · refine Gq_s (pc' := 84) rfl rfl rfl ?_
      have hl : letB 1 (f (at_ + 1)) (f (at_ + 2)) (f (at_ + 3)) g = false := by
        show decide (ordR g (f3 (f (at_ + 1)) (f (at_ + 2)) (f (at_ + 3))) 3 0 = 0) = false
        rw [hov]
        exact decide_eq_false (by omega)
      exact Gq_ret rfl rfl (rfl) (⟨by rw [hl]; rfl, rfl, fr⟩)
    · refine Gq_s (pc' := 80) rfl rfl rfl ?_
      refine Gq_goto rfl (t := 84) rfl ?_
      have hl : letB 1 (f (at_ + 1)) (f (at_ + 2)) (f (at_ + 3)) g = true := by
        show decide (ordR g (f3 (f (at_ + 1)) (f (at_ + 2)) (f (at_ + 3))) 3 0 = 0) = true
        rw [hov]
        exact decide_eq_true (by omega)
      exact Gq_ret rfl rfl (rfl) (⟨by rw [hl]; rfl, rfl, fr⟩)
  · refine Gq_tsw (t := 85) rfl (by decide) (by decide) ?_
    refine Gq_s (pc' := 87) rfl rfl rfl ?_
    refine Gq_zlt (pc' := 90) (t := 94) rfl rfl rfl (by omega) (fun hb => ?_) (fun hb => ?_)
    · refine Gq_s (pc' := 95) rfl rfl rfl ?_
      have hl : letB 2 (f (at_ + 1)) (f (at_ + 2)) (f (at_ + 3)) g = false := by
        show decide (0 ≤ ordR g (f3 (f (at_ + 1)) (f (at_ + 2)) (f (at_ + 3))) 3 0) = false
        rw [hov]
        exact decide_eq_false (by omega)
      exact Gq_ret rfl rfl (rfl) (⟨by rw [hl]; rfl, rfl, fr⟩)
    · refine Gq_s (pc' := 91) rfl rfl rfl ?_
      refine Gq_goto rfl (t := 95) rfl ?_
      have hl : letB 2 (f (at_ + 1)) (f (at_ + 2)) (f (at_ + 3)) g = true := by
        show decide (0 ≤ ordR g (f3 (f (at_ + 1)) (f (at_ + 2)) (f (at_ + 3))) 3 0) = true
        rw [hov]
        exact decide_eq_true (by omega)
      exact Gq_ret rfl rfl (rfl) (⟨by rw [hl]; rfl, rfl, fr⟩)
  · refine Gq_tsw (t := 96) rfl (by decide) (by decide) ?_
    refine Gq_s (pc' := 98) rfl rfl rfl ?_
    refine Gq_zge (pc' := 101) (t := 105) rfl rfl rfl (by omega) (fun hb => ?_) (fun hb => ?_)
    · refine Gq_s (pc' := 106) rfl rfl rfl ?_
      have hl : letB 3 (f (at_ + 1)) (f (at_ + 2)) (f (at_ + 3)) g = false := by
        show decide (ordR g (f3 (f (at_ + 1)) (f (at_ + 2)) (f (at_ + 3))) 3 0 < 0) = false
        rw [hov]
        exact decide_eq_false (by omega)
      exact Gq_ret rfl rfl (rfl) (⟨by rw [hl]; rfl, rfl, fr⟩)
    · refine Gq_s (pc' := 102) rfl rfl rfl ?_
      refine Gq_goto rfl (t := 106) rfl ?_
      have hl : letB 3 (f (at_ + 1)) (f (at_ + 2)) (f (at_ + 3)) g = true := by
        show decide (ordR g (f3 (f (at_ + 1)) (f (at_ + 2)) (f (at_ + 3))) 3 0 < 0) = true
        rw [hov]
        exact decide_eq_true (by omega)
      exact Gq_ret rfl rfl (rfl) (⟨by rw [hl]; rfl, rfl, fr⟩)
  · refine Gq_tsw (t := 107) rfl (by decide) (by decide) ?_
    refine Gq_s (pc' := 109) rfl rfl rfl ?_
    refine Gq_zlt (pc' := 112) (t := 140) rfl rfl rfl (by omega) (fun hb => ?_) (fun hb => ?_)
    · refine Gq_s (pc' := 141) rfl rfl rfl ?_
      have hl : letB 4 (f (at_ + 1)) (f (at_ + 2)) (f (at_ + 3)) g = false := by
        show decide (0 ≤ ordR g (f3 (f (at_ + 1)) (f (at_ + 2)) (f (at_ + 3))) 3 0 ∧ g 0 = f (at_ + 1) ∧ (0 < f (at_ + 1) ∨ g 1 = f (at_ + 2))) = false
        rw [hov]
        exact decide_eq_false (by omega)
      exact Gq_ret rfl rfl (rfl) (⟨by rw [hl]; rfl, rfl, fr⟩)
    · refine Gq_s (pc' := 113) rfl rfl rfl ?_
      refine Gq_s (pc' := 114) rfl rfl rfl ?_
      refine Gq_iald (pc' := 115) (j := 0) rfl rfl (by first | assumption | exact upd_eq _ _ _ | ((repeat (refine (upd_ne _ _ (by omega)).trans ?_)); first | assumption | exact upd_eq _ _ _)) (rfl) (by omega) (by omega) ?_
      refine Gq_s (pc' := 116) rfl rfl rfl ?_
      refine Gq_s (pc' := 117) rfl rfl rfl ?_
      refine Gq_iald (pc' := 118) (j := 0) rfl rfl (by first | assumption | exact upd_eq _ _ _ | ((repeat (refine (upd_ne _ _ (by omega)).trans ?_)); first | assumption | exact upd_eq _ _ _)) (rfl) (by omega) (by omega) ?_
      rw [e0]
      refine Gq_cne (pc' := 121) (t := 140) rfl rfl rfl (by omega) (by omega) (fun hc => ?_) (fun hc => ?_)
      · refine Gq_s (pc' := 141) rfl rfl rfl ?_
        have hl : letB 4 (f (at_ + 1)) (f (at_ + 2)) (f (at_ + 3)) g = false := by
          show decide (0 ≤ ordR g (f3 (f (at_ + 1)) (f (at_ + 2)) (f (at_ + 3))) 3 0 ∧ g 0 = f (at_ + 1) ∧ (0 < f (at_ + 1) ∨ g 1 = f (at_ + 2))) = false
          rw [hov]
          exact decide_eq_false (by omega)
        exact Gq_ret rfl rfl (rfl) (⟨by rw [hl]; rfl, rfl, fr⟩)
      · refine Gq_s (pc' := 122) rfl rfl rfl ?_
        refine Gq_s (pc' := 123) rfl rfl rfl ?_
        refine Gq_iald (pc' := 124) (j := 0) rfl rfl (by first | assumption | exact upd_eq _ _ _ | ((repeat (refine (upd_ne _ _ (by omega)).trans ?_)); first | assumption | exact upd_eq _ _ _)) (rfl) (by omega) (by omega) ?_
        rw [e0]
        refine Gq_zgt (pc' := 127) (t := 136) rfl rfl rfl (by omega) (fun hd => ?_) (fun hd => ?_)
        · refine Gq_s (pc' := 137) rfl rfl rfl ?_
          refine Gq_goto rfl (t := 141) rfl ?_
          have hl : letB 4 (f (at_ + 1)) (f (at_ + 2)) (f (at_ + 3)) g = true := by
            show decide (0 ≤ ordR g (f3 (f (at_ + 1)) (f (at_ + 2)) (f (at_ + 3))) 3 0 ∧ g 0 = f (at_ + 1) ∧ (0 < f (at_ + 1) ∨ g 1 = f (at_ + 2))) = true
            rw [hov]
            exact decide_eq_true (by omega)
          exact Gq_ret rfl rfl (rfl) (⟨by rw [hl]; rfl, rfl, fr⟩)
        · refine Gq_s (pc' := 128) rfl rfl rfl ?_
          refine Gq_s (pc' := 129) rfl rfl rfl ?_
          refine Gq_iald (pc' := 130) (j := 1) rfl rfl (by first | assumption | exact upd_eq _ _ _ | ((repeat (refine (upd_ne _ _ (by omega)).trans ?_)); first | assumption | exact upd_eq _ _ _)) (rfl) (by omega) (by omega) ?_
          refine Gq_s (pc' := 131) rfl rfl rfl ?_
          refine Gq_s (pc' := 132) rfl rfl rfl ?_
          refine Gq_iald (pc' := 133) (j := 1) rfl rfl (by first | assumption | exact upd_eq _ _ _ | ((repeat (refine (upd_ne _ _ (by omega)).trans ?_)); first | assumption | exact upd_eq _ _ _)) (rfl) (by omega) (by omega) ?_
          rw [e1]
          refine Gq_cne (pc' := 136) (t := 140) rfl rfl rfl (by omega) (by omega) (fun hg2 => ?_) (fun hg2 => ?_)
          · refine Gq_s (pc' := 141) rfl rfl rfl ?_
            have hl : letB 4 (f (at_ + 1)) (f (at_ + 2)) (f (at_ + 3)) g = false := by
              show decide (0 ≤ ordR g (f3 (f (at_ + 1)) (f (at_ + 2)) (f (at_ + 3))) 3 0 ∧ g 0 = f (at_ + 1) ∧ (0 < f (at_ + 1) ∨ g 1 = f (at_ + 2))) = false
              rw [hov]
              exact decide_eq_false (by omega)
            exact Gq_ret rfl rfl (rfl) (⟨by rw [hl]; rfl, rfl, fr⟩)
          · refine Gq_s (pc' := 137) rfl rfl rfl ?_
            refine Gq_goto rfl (t := 141) rfl ?_
            have hl : letB 4 (f (at_ + 1)) (f (at_ + 2)) (f (at_ + 3)) g = true := by
              show decide (0 ≤ ordR g (f3 (f (at_ + 1)) (f (at_ + 2)) (f (at_ + 3))) 3 0 ∧ g 0 = f (at_ + 1) ∧ (0 < f (at_ + 1) ∨ g 1 = f (at_ + 2))) = true
              rw [hov]
              exact decide_eq_true (by omega)
            exact Gq_ret rfl rfl (rfl) (⟨by rw [hl]; rfl, rfl, fr⟩)
  · refine Gq_tsw (t := 142) rfl (by decide) (by decide) ?_
    refine Gq_s (pc' := 144) rfl rfl rfl ?_
    refine Gq_zlt (pc' := 147) (t := 169) rfl rfl rfl (by omega) (fun hb => ?_) (fun hb => ?_)
    · refine Gq_s (pc' := 170) rfl rfl rfl ?_
      have hl : letB 5 (f (at_ + 1)) (f (at_ + 2)) (f (at_ + 3)) g = false := by
        show decide (0 ≤ ordR g (f3 (f (at_ + 1)) (f (at_ + 2)) (f (at_ + 3))) 3 0 ∧ g 0 = f (at_ + 1) ∧ g 1 = f (at_ + 2)) = false
        rw [hov]
        exact decide_eq_false (by omega)
      exact Gq_ret rfl rfl (rfl) (⟨by rw [hl]; rfl, rfl, fr⟩)
    · refine Gq_s (pc' := 148) rfl rfl rfl ?_
      refine Gq_s (pc' := 149) rfl rfl rfl ?_
      refine Gq_iald (pc' := 150) (j := 0) rfl rfl (by first | assumption | exact upd_eq _ _ _ | ((repeat (refine (upd_ne _ _ (by omega)).trans ?_)); first | assumption | exact upd_eq _ _ _)) (rfl) (by omega) (by omega) ?_
      refine Gq_s (pc' := 151) rfl rfl rfl ?_
      refine Gq_s (pc' := 152) rfl rfl rfl ?_
      refine Gq_iald (pc' := 153) (j := 0) rfl rfl (by first | assumption | exact upd_eq _ _ _ | ((repeat (refine (upd_ne _ _ (by omega)).trans ?_)); first | assumption | exact upd_eq _ _ _)) (rfl) (by omega) (by omega) ?_
      rw [e0]
      refine Gq_cne (pc' := 156) (t := 169) rfl rfl rfl (by omega) (by omega) (fun hc => ?_) (fun hc => ?_)
      · refine Gq_s (pc' := 170) rfl rfl rfl ?_
        have hl : letB 5 (f (at_ + 1)) (f (at_ + 2)) (f (at_ + 3)) g = false := by
          show decide (0 ≤ ordR g (f3 (f (at_ + 1)) (f (at_ + 2)) (f (at_ + 3))) 3 0 ∧ g 0 = f (at_ + 1) ∧ g 1 = f (at_ + 2)) = false
          rw [hov]
          exact decide_eq_false (by omega)
        exact Gq_ret rfl rfl (rfl) (⟨by rw [hl]; rfl, rfl, fr⟩)
      · refine Gq_s (pc' := 157) rfl rfl rfl ?_
        refine Gq_s (pc' := 158) rfl rfl rfl ?_
        refine Gq_iald (pc' := 159) (j := 1) rfl rfl (by first | assumption | exact upd_eq _ _ _ | ((repeat (refine (upd_ne _ _ (by omega)).trans ?_)); first | assumption | exact upd_eq _ _ _)) (rfl) (by omega) (by omega) ?_
        refine Gq_s (pc' := 160) rfl rfl rfl ?_
        refine Gq_s (pc' := 161) rfl rfl rfl ?_
        refine Gq_iald (pc' := 162) (j := 1) rfl rfl (by first | assumption | exact upd_eq _ _ _ | ((repeat (refine (upd_ne _ _ (by omega)).trans ?_)); first | assumption | exact upd_eq _ _ _)) (rfl) (by omega) (by omega) ?_
        rw [e1]
        refine Gq_cne (pc' := 165) (t := 169) rfl rfl rfl (by omega) (by omega) (fun hg2 => ?_) (fun hg2 => ?_)
        · refine Gq_s (pc' := 170) rfl rfl rfl ?_
          have hl : letB 5 (f (at_ + 1)) (f (at_ + 2)) (f (at_ + 3)) g = false := by
            show decide (0 ≤ ordR g (f3 (f (at_ + 1)) (f (at_ + 2)) (f (at_ + 3))) 3 0 ∧ g 0 = f (at_ + 1) ∧ g 1 = f (at_ + 2)) = false
            rw [hov]
            exact decide_eq_false (by omega)
          exact Gq_ret rfl rfl (rfl) (⟨by rw [hl]; rfl, rfl, fr⟩)
        · refine Gq_s (pc' := 166) rfl rfl rfl ?_
          refine Gq_goto rfl (t := 170) rfl ?_
          have hl : letB 5 (f (at_ + 1)) (f (at_ + 2)) (f (at_ + 3)) g = true := by
            show decide (0 ≤ ordR g (f3 (f (at_ + 1)) (f (at_ + 2)) (f (at_ + 3))) 3 0 ∧ g 0 = f (at_ + 1) ∧ g 1 = f (at_ + 2)) = true
            rw [hov]
            exact decide_eq_true (by omega)
          exact Gq_ret rfl rfl (rfl) (⟨by rw [hl]; rfl, rfl, fr⟩)
theorem t_counts {L : Nat} {ys : Nat → Int32} (hLs : L ≤ 100000) {H : HF} (n : Nat) {x p N : Nat} {on : Nat → Nat} {c : Int} (h0 : H x = some (true, 0, aNt N on)) (hp : p < N) (hN : N ≤ 1000) (ho : on p < 16) (hc : -1 ≤ c ∧ c < 4) : Rmt (some (L, ys)) 138 [.ref x, .int (zI (p : Int)), .int (zI c)] H n (fun v G m => v = some (.int (zI (bI (decide (c < 0) || (on p).testBit c.toNat)))) ∧ G = H ∧ m = n) := by
  refine Rm_of (M := xm138) (lv := [(0, _), (1, _), (2, _)]) rfl rfl rfl ?_
  refine Gq_s (pc' := 1) rfl rfl rfl ?_
  refine Gq_zlt (pc' := 4) (t := 15) rfl rfl rfl (by omega) (fun hb => ?_) (fun hb => ?_)
  · refine Gq_s (pc' := 16) rfl rfl rfl ?_
    refine Gq_goto rfl (t := 20) rfl ?_
    exact Gq_ret rfl rfl (rfl) (⟨by rw [decide_eq_true hb]; rfl, rfl, rfl⟩)
  · refine Gq_s (pc' := 5) rfl rfl rfl ?_
    refine Gq_s (pc' := 6) rfl rfl rfl ?_
    refine Gq_iald (pc' := 7) rfl rfl (by first | assumption | exact upd_eq _ _ _ | (refine (upd_ne _ _ (by omega)).trans ?_; first | assumption | exact upd_eq _ _ _ | (refine (upd_ne _ _ (by omega)).trans ?_; first | assumption | exact upd_eq _ _ _ | (refine (upd_ne _ _ (by omega)).trans ?_; first | assumption | exact upd_eq _ _ _)))) (rfl) (by omega) (by omega) ?_
    refine Gq_s (pc' := 8) rfl rfl rfl ?_
    refine Gq_ishr (pc' := 9) (zI ((on p >>> c.toNat : Nat) : Int)) rfl rfl (by rw [show c = ((c.toNat : Nat) : Int) by omega]; exact z_shr (by omega) (by omega)) ?_
    refine Gq_s (pc' := 10) rfl rfl rfl ?_
    refine Gq_iand (pc' := 11) (zI (bI ((on p).testBit c.toNat))) rfl rfl (by rw [show Int32.ofInt 1 = zI ((1 : Nat) : Int) from rfl, z_and, tb_and]; cases (on p).testBit c.toNat <;> rfl) ?_
    refine Gq_s (pc' := 12) rfl rfl rfl ?_
    rw [decide_eq_false hb, Bool.false_or]
    cases hbit : (on p).testBit c.toNat with
    | false =>
      refine Gq_cne (pc' := 15) (t := 19) rfl rfl rfl (by decide) (by decide) (fun _ => ?_) (fun hq => absurd (by decide) hq)
      refine Gq_s (pc' := 20) rfl rfl rfl ?_
      exact Gq_ret rfl rfl (rfl) (⟨rfl, rfl, rfl⟩)
    | true =>
      refine Gq_cne (pc' := 15) (t := 19) rfl rfl rfl (by decide) (by decide) (fun hq => absurd hq (by decide)) (fun _ => ?_)
      refine Gq_s (pc' := 16) rfl rfl rfl ?_
      refine Gq_goto rfl (t := 20) rfl ?_
      exact Gq_ret rfl rfl (rfl) (⟨rfl, rfl, rfl⟩)
theorem t_nothing {L : Nat} {ys : Nat → Int32} (hLs : L ≤ 100000) {H : HF} (n : Nat) (z : Nat) : Rmt (some (L, ys)) 140 [.ref z] H n (fun v G m => v = some (.ref n) ∧ m = n + 1 ∧ G n = some (true, 0, aI 6 (fun _ => -1)) ∧ ∀ o, ¬ o = n → G o = H o) := by
  refine Rm_of (M := xm140) (lv := [(0, _)]) rfl rfl rfl ?_
  refine Gq_bipush (pc' := 2) rfl rfl (by decide) ?_
  refine Gq_newa (pc' := 4) (N := 6) rfl (fun _ => rfl) rfl rfl (rfl) (by decide) ((rep_I _)) (by decide) (by decide) ?_
  refine Gq_s (pc' := 5) rfl rfl rfl ?_
  refine Gq_s (pc' := 6) rfl rfl rfl ?_
  refine Gq_s (pc' := 7) rfl rfl rfl ?_
  refine Gq_iast (pc' := 8) (j := 0) rfl rfl (by first | assumption | exact upd_eq _ _ _ | ((repeat (refine (upd_ne _ _ (by omega)).trans ?_)); first | assumption | exact upd_eq _ _ _)) (rfl) (by omega) (by omega) ?_
  refine Gq_s (pc' := 9) rfl rfl rfl ?_
  refine Gq_s (pc' := 10) rfl rfl rfl ?_
  refine Gq_s (pc' := 11) rfl rfl rfl ?_
  refine Gq_iast (pc' := 12) (j := 1) rfl rfl (by first | assumption | exact upd_eq _ _ _ | ((repeat (refine (upd_ne _ _ (by omega)).trans ?_)); first | assumption | exact upd_eq _ _ _)) (rfl) (by omega) (by omega) ?_
  refine Gq_s (pc' := 13) rfl rfl rfl ?_
  refine Gq_s (pc' := 14) rfl rfl rfl ?_
  refine Gq_s (pc' := 15) rfl rfl rfl ?_
  refine Gq_iast (pc' := 16) (j := 2) rfl rfl (by first | assumption | exact upd_eq _ _ _ | ((repeat (refine (upd_ne _ _ (by omega)).trans ?_)); first | assumption | exact upd_eq _ _ _)) (rfl) (by omega) (by omega) ?_
  refine Gq_s (pc' := 17) rfl rfl rfl ?_
  refine Gq_s (pc' := 18) rfl rfl rfl ?_
  refine Gq_s (pc' := 19) rfl rfl rfl ?_
  refine Gq_iast (pc' := 20) (j := 3) rfl rfl (by first | assumption | exact upd_eq _ _ _ | ((repeat (refine (upd_ne _ _ (by omega)).trans ?_)); first | assumption | exact upd_eq _ _ _)) (rfl) (by omega) (by omega) ?_
  refine Gq_s (pc' := 21) rfl rfl rfl ?_
  refine Gq_s (pc' := 22) rfl rfl rfl ?_
  refine Gq_s (pc' := 23) rfl rfl rfl ?_
  refine Gq_iast (pc' := 24) (j := 4) rfl rfl (by first | assumption | exact upd_eq _ _ _ | ((repeat (refine (upd_ne _ _ (by omega)).trans ?_)); first | assumption | exact upd_eq _ _ _)) (rfl) (by omega) (by omega) ?_
  refine Gq_s (pc' := 25) rfl rfl rfl ?_
  refine Gq_s (pc' := 26) rfl rfl rfl ?_
  refine Gq_s (pc' := 27) rfl rfl rfl ?_
  refine Gq_iast (pc' := 28) (j := 5) rfl rfl (by first | assumption | exact upd_eq _ _ _ | ((repeat (refine (upd_ne _ _ (by omega)).trans ?_)); first | assumption | exact upd_eq _ _ _)) (rfl) (by omega) (by omega) ?_
  refine Gq_s (pc' := 29) (lv' := [(0, _), (1, _)]) rfl rfl rfl ?_
  refine Gq_s (pc' := 30) rfl rfl rfl ?_
  simp only [upd_upd]
  refine Gq_ret rfl rfl rfl ⟨rfl, rfl, ?_, fun o h => upd_ne _ _ h⟩
  rw [upd_eq]
  refine congrArg (fun z => some (true, 0, z)) (aX_ext fun j hj => ?_)
  have : j = 0 ∨ j = 1 ∨ j = 2 ∨ j = 3 ∨ j = 4 ∨ j = 5 := by omega
  rcases this with rfl | rfl | rfl | rfl | rfl | rfl <;> rfl
end XKr
