section XZ
theorem xnil_eq {t : List (Nat × Nat × Nat × Nat)} (h : xnil t = true) : t = [] := by
  cases t with
  | nil => rfl
  | cons a b => cases h
theorem xends_spec {M : XM} : ∀ {l : List XLf} {rs : List XR}, xends M l = some rs → ∀ q ∈ l, ∃ r ∈ rs, xend M q = some r
  | [], _, _, q, hq => by cases hq
  | a :: l, rs, h, q, hq => by
    unfold xends at h
    split at h
    · rename_i r1 rs1 h1 h2
      obtain rfl := Option.some.inj h
      rcases List.mem_cons.mp hq with rfl | hq
      · exact ⟨r1, List.mem_cons_self, h1⟩
      · obtain ⟨r, h3, h4⟩ := xends_spec h2 q hq
        exact ⟨r, List.mem_cons_of_mem _ h3, h4⟩
    · cases h
theorem lv_args_ev (ad : Nat → Nat) (xs : Nat → Int32) (bS : Nat) : ∀ (as : List Value) (i : Nat), lv_args i (evS (ev ad xs bS) as) = evL (ev ad xs bS) (lv_args i as)
  | [], _ => rfl
  | v :: t, i => by
    show (i, ev ad xs bS v) :: lv_args (if (ev ad xs bS v).category = 2 then i + 2 else i + 1) (evS (ev ad xs bS) t) = (i, ev ad xs bS v) :: evL (ev ad xs bS) (lv_args (if v.category = 2 then i + 2 else i + 1) t)
    rw [ev_cat, lv_args_ev ad xs bS t]
theorem lg_len (vs : List Value) : (lg_sl vs).length = xcats vs := by
  unfold lg_sl xcats
  induction vs with
  | nil => rfl
  | cons v t ih =>
    rw [List.flatMap_cons, List.length_append, ih, List.map_cons, List.sum_cons]
    rcases lv_cat v with h | h
    · simp [h]
    · simp [h]
section
variable {p : Program} {l : Launch} {en : Env} {s : State} {m : MethodId} {args : Array Value} {below : List Frame} {meth : Method} {c : Code}
variable {xs : Nat → Int32} {bS : Nat} {aC : Nat → ClassId} {D : va_G} {A : Nat → Prop} {scr : Option Nat} {M : XM} {Ms : List XM} {cls : Nat → Nat} {cf : XCf} {n0 : Nat} {ad0 : Nat → Nat}
theorem xend_ok (C : xCtx p l s m args meth c M D aC A xs bS scr) (hTh : xThrOk) (hV : ∀ e ∈ xmC M, xVE Ms M e) {leaves : List XLf} {rs : List XR} (h : xends M leaves = some rs) :
    ∀ lf ∈ leaves, xleaf p l en s m args below meth c (vx_MQ below (xQc D aC A ad0 xs bS n0 rs) (xXc D aC A ad0 xs bS n0 rs) args s (xmR M).cells (xmR M).slots A) xs bS aC D A M n0 ad0 lf := by
  intro lf hlf ad H locs ls he hk0 hk1 ha hs hw hS hl
  obtain ⟨r, hr, hx⟩ := xends_spec h lf hlf
  obtain ⟨hexec, hb, hml, hret, hown, hts, hlocks, hname, htab, hSta, hA, hX, htr, hmask⟩ := id C
  obtain ⟨kd, E, e, lv, st, pe, hh, n, ce, sl⟩ := lf
  have hve := hV e he
  unfold xVE at hve
  dsimp only at hk0 hk1 hs hw hl ⊢
  unfold xend at hx
  split at hx
  · rename_i E' e' lv' st' pe' h' n' ce' sl' heq
    cases heq
    rw [hk0 rfl] at hve
    refine ⟨fun _ => ?_, fun z => by cases z⟩
    rcases xbif hx with hx | hx9
    rotate_left
    · cases hx9
    generalize hchk : (Nat.ble ce (xmR M).cells && Nat.ble sl (xmR M).slots) = b at *
    sorry
  · sorry
  · sorry
  · sorry
end
end XZ
