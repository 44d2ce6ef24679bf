/-! a time of the law (printed by wip/p46/gen68.py) -/
section XKQ
section
variable {S : ScT} {M : XM} {pc pc' : Nat} {lv lv' : XL} {st st' : List Value} {H : HF} {n ce sl : Nat} {Q : XLf → Prop}
theorem Gq_leaf {i : Instr} {aux : List Nat} (hr : yrow M pc = some (pc, i, 9, aux)) (hQ : ∀ h, Q (3, 0, (pc, i, 9, aux), lv, st, ([], h, n, ce, sl))) : Gw S M pc lv st H n ce sl Q := by
  intro h _ _
  refine ⟨_, hQ h, 1, 0, 0, fun f d F h1 _ _ => ?_⟩
  obtain ⟨g, rfl⟩ : ∃ g, f = g + 1 := ⟨f - 1, by omega⟩
  obtain ⟨t, ht⟩ := xrun_row (S := S) (lv := lv) (st := st) (σ := ([], h, n, ce, sl)) (cf := xmeth xMs c0 S F d) (f := g) hr
  rw [ht]
  rfl
theorem Gq_leaf4 {i : Instr} {aux : List Nat} (hr : yrow M pc = some (pc, i, 4, aux)) (hQ : ∀ h, Q (0, 0, (pc, i, 4, aux), lv, st, ([], h, n, ce, sl))) : Gw S M pc lv st H n ce sl Q := by
  intro h _ _
  refine ⟨_, hQ h, 1, 0, 0, fun f d F h1 _ _ => ?_⟩
  obtain ⟨g, rfl⟩ : ∃ g, f = g + 1 := ⟨f - 1, by omega⟩
  obtain ⟨t, ht⟩ := xrun_row (S := S) (lv := lv) (st := st) (σ := ([], h, n, ce, sl)) (cf := xmeth xMs c0 S F d) (f := g) hr
  rw [ht]
  rfl
end
/-- the end of a time -/
def QL (t C S : Nat) (lf : XLf) : Prop := lf.1 = 3 ∧ lf.2.2.1.1 = 2 ∧ lf.2.2.2.2.1 = [] ∧ xlk lf.2.2.2.1 0 = some (.retAddr 0) ∧ xlk lf.2.2.2.1 1 = some (.int (zI (t : Int))) ∧ lf.2.2.2.2.2.2.2.2.1 ≤ C ∧ lf.2.2.2.2.2.2.2.2.2 ≤ S
/-- the end of the law -/
def QE (C S : Nat) (lf : XLf) : Prop := lf.1 = 0 ∧ lf.2.2.1.1 = 794 ∧ lf.2.2.1.2.1 = .ireturn ∧ lf.2.2.2.2.1 = [.int 1] ∧ lf.2.2.2.2.2.2.2.2.1 ≤ C ∧ lf.2.2.2.2.2.2.2.2.2 ≤ S
theorem QL_nl {t C S : Nat} : NoL2 (QL t C S) := by
  rintro ⟨l0, l1, l2, l3, l4, l5⟩ ⟨m0, m1, m2, m3, m4, m5⟩ he hw ⟨h1, h2, h3, h4, h5, h6, h7⟩
  have he : (m0, m1, m2, m4, m5) = (l0, l1, l2, l4, l5) := he
  cases he
  exact ⟨h1, h2, h3, xlk_wk hw h4, xlk_wk hw h5, h6, h7⟩
set_option maxRecDepth 20000 in
theorem t_time {L : Nat} {ys : Nat → Int32} (hLs : L ≤ 100000) {ce sl t : Nat} (ht : t < 3) (hce : ce ≤ 722771) (hsl : sl ≤ 6803564) : Gw (some (L, ys)) xLaw 3 [(0, .retAddr 0), (1, .int (zI (t : Int)))] [.int (zI (t : Int))] (xhk []) 0 ce sl (QL (t + 1) (ce + 1613) (sl + 14491)) := by
  refine Gq_s (pc' := 4) rfl rfl rfl ?_
  refine Gq_cge (pc' := 7) (t := 793) rfl rfl rfl (by omega) (by omega) (fun hq => absurd hq (by omega)) (fun _ => ?_)
  refine Gq_new (pc' := 10) rfl rfl rfl rfl (show ce + 1 ≤ 732771 by omega) (show sl + 13 ≤ 6903564 by omega) ?_
  refine Gq_s (pc' := 11) rfl rfl rfl ?_
  refine Gq_s (pc' := 12) rfl rfl rfl ?_
  refine Gq_bipush (pc' := 14) rfl rfl (by decide) ?_
  refine Gq_s (pc' := 15) rfl rfl rfl ?_
  refine Gq_imul (pc' := 16) rfl rfl ?_
  refine Gq_bipush (pc' := 18) rfl rfl (by decide) ?_
  refine Gq_iadd (pc' := 19) rfl rfl ?_
  rw [show 41 * (t : Int) + 8 = ((41 * t + 8 : Nat) : Int) by omega]
  refine Gq_callsA (pc' := 22) (Y := xm127) (rest := [_]) (cY := 118) (sY := 718) (cM := 732771) (sM := 6903564) rfl rfl rfl rfl rfl rfl rfl rfl rfl rfl rfl rfl (show ce + 1 + 118 ≤ 732771 by omega) (show sl + 13 + 718 ≤ 6903564 by omega) (t_regC (upd_eq _ _ _)) (fun v1 G1 n1 hv => ?_)
  obtain ⟨rfl, rfl, hLw, hA⟩ := hv
  have h0 := hLw.1
  refine Gq_s (pc' := 23) (lv' := [(0, _), (1, _), (2, _)]) rfl rfl rfl ?_
  refine Gq_s (pc' := 24) rfl rfl rfl ?_
  refine Gq_get (pc' := 27) rfl rfl (by first | assumption | exact upd_eq _ _ _ | ((repeat (refine (upd_ne _ _ (by omega)).trans ?_)); first | assumption | exact upd_eq _ _ _)) (by exact rfl) ?_
  refine Gq_s (pc' := 28) (lv' := [(0, _), (1, _), (2, _), (3, _)]) rfl rfl rfl ?_
  refine Gq_s (pc' := 29) rfl rfl rfl ?_
  refine Gq_callvA (pc' := 32) (Y := xm134) (rest := []) (cY := 830) (sY := 8600) (cM := 732771) (sM := 6903564) rfl rfl rfl rfl rfl rfl rfl rfl rfl rfl rfl (show ce + 1 + 118 + 830 ≤ 732771 by omega) (show sl + 13 + 718 + 8600 ≤ 6903564 by omega) (t_make hLs _ hLw hA (tg := fun _ => 0) ⟨fun p q _ h2 => absurd h2 (Nat.not_lt_zero q), fun p i hp => absurd hp (Nat.not_lt_zero p)⟩ (fun p v _ _ _ => ⟨rfl, rfl, rfl⟩) (by omega)) (by exact h0) (fun v2 G2 n2 hv => ?_)
  obtain ⟨rfl, P, d2, hP, hd2, hW⟩ := hv
  refine Gq_zne (pc' := 35) (t := 37) rfl rfl rfl (by decide) (fun _ => ?_) (fun hq => absurd (by decide) hq)
  refine Gq_sipush (pc' := 40) rfl rfl (by decide) ?_
  refine Gq_s (pc' := 42) (lv' := [(0, _), (1, _), (2, _), (3, _), (4, _)]) rfl rfl rfl ?_
  refine Gq_s (pc' := 43) rfl rfl rfl ?_
  refine Gq_s (pc' := 45) (lv' := [(0, _), (1, _), (2, _), (3, _), (4, _), (5, _)]) rfl rfl rfl ?_
  refine t_lw_steps hLs QL_nl (c0 := ce + 1613) (s0 := sl + 14491) (by omega) (by omega) (fun G m ce2 sl2 a b => ?_) 8 0 G2 n2 _ _ d2 2000 0 (by omega) (show ce + 1 + 118 + 830 + 83 * 8 ≤ ce + 1613 by omega) (show sl + 13 + 718 + 8600 + 645 * 8 ≤ sl + 14491 by omega) (by omega) (by omega) hW
  refine Gq_iinc (pc' := 790) (lv' := [(0, _), (1, _)]) rfl rfl rfl rfl ?_
  refine Gq_goto rfl (t := 2) rfl ?_
  rw [show (t : Int) + 1 = ((t + 1 : Nat) : Int) by omega]
  exact Gq_leaf rfl (fun h => ⟨rfl, rfl, rfl, rfl, rfl, a, b⟩)
set_option maxRecDepth 20000 in
theorem t_lend {S : ScT} {ce sl : Nat} : Gw S xLaw 3 [(0, .retAddr 0), (1, .int (zI ((3 : Nat) : Int)))] [.int (zI ((3 : Nat) : Int))] (xhk []) 0 ce sl (QE ce sl) := by
  refine Gq_s (pc' := 4) rfl rfl rfl ?_
  refine Gq_cge (pc' := 7) (t := 793) rfl rfl rfl (by decide) (by decide) (fun _ => ?_) (fun hq => absurd (by decide) hq)
  refine Gq_s (pc' := 794) rfl rfl rfl ?_
  exact Gq_leaf4 rfl (fun h => ⟨rfl, rfl, rfl, rfl, Nat.le_refl _, Nat.le_refl _⟩)
theorem t_lbeg {S : ScT} : Gw S xLaw 0 [(0, .retAddr 0)] [] (xhk []) 0 0 0 (QL 0 0 0) := by
  refine Gq_s (pc' := 1) rfl rfl rfl ?_
  refine Gq_s (pc' := 2) (lv' := [(0, _), (1, _)]) rfl rfl rfl ?_
  exact Gq_leaf rfl (fun h => ⟨rfl, rfl, rfl, rfl, rfl, Nat.le_refl _, Nat.le_refl _⟩)
/-- the one row at the head of the law's loop -/
def xLw0 : XM := (⟨"PackWrightLaw", "law", "([I)Z"⟩, code, 20, (some .boolean), room_1, [], [(2, .iload_n 1, 0, []), (3, .iconst 3, 9, [])], 1)
theorem xLw0_ok : ∀ e ∈ xmC xLw0, xVE xMs xLw0 e := fun e he => xveB_ok xcode_ok (List.all_eq_true.mp (show (xmC xLw0).all (xveB xMs xLw0) = true by decide +kernel) e he)
def QH (t C S : Nat) (lf : XLf) : Prop := lf.1 = 3 ∧ lf.2.2.1.1 = 3 ∧ lf.2.2.2.2.1 = [.int (zI (t : Int))] ∧ lf.2.2.2.1 = [(0, .retAddr 0), (1, .int (zI (t : Int)))] ∧ lf.2.2.2.2.2.2.2.2.1 = C ∧ lf.2.2.2.2.2.2.2.2.2 = S
theorem t_lhead {S : ScT} {ce sl t : Nat} : Gw S xLw0 2 [(0, .retAddr 0), (1, .int (zI (t : Int)))] [] (xhk []) 0 ce sl (QH t ce sl) := by
  refine Gq_s (pc' := 3) rfl rfl rfl ?_
  exact Gq_leaf rfl (fun h => ⟨rfl, rfl, rfl, rfl, rfl, rfl⟩)
end XKQ
