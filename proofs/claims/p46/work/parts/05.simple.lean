/-! what the runner's values stand for; the rows of one method's own numbers -/
section XV
def ev (ad : Nat → Nat) (xs : Nat → Int32) (bS : Nat) : Value → Value
  | .int x => .int x
  | .long x => .long x
  | .float u => .int (xs u.toNat)
  | .double x => .double x
  | .null => .null
  | .ref k => .ref (ad k)
  | .retAddr _ => .ref bS
def evL (E : Value → Value) (l : XL) : XL := l.map (fun q => (q.1, E q.2))
def evS (E : Value → Value) (st : List Value) : List Value := st.map E
theorem ev_cat (ad : Nat → Nat) (xs : Nat → Int32) (bS : Nat) (v : Value) : (ev ad xs bS v).category = v.category := by cases v <;> rfl
theorem xint_ev {ad : Nat → Nat} {xs : Nat → Int32} {bS : Nat} {v : Value} (h : xint v = true) : ∃ x, ev ad xs bS v = .int x := by
  cases v <;> first | exact ⟨_, rfl⟩ | exact absurd h (by simp [xint])
theorem xref_ev {ad : Nat → Nat} {xs : Nat → Int32} {bS : Nat} {v : Value} (h : xref v = true) : ev ad xs bS v = .null ∨ ∃ a, ev ad xs bS v = .ref a := by
  cases v <;> first | exact Or.inl rfl | exact Or.inr ⟨_, rfl⟩ | exact absurd h (by simp [xref])
theorem xlong_ev {ad : Nat → Nat} {xs : Nat → Int32} {bS : Nat} {v : Value} (h : xlong v = true) : ∃ x, ev ad xs bS v = .long x := by
  cases v <;> first | exact ⟨_, rfl⟩ | exact absurd h (by simp [xlong])
theorem xdbl_ev {ad : Nat → Nat} {xs : Nat → Int32} {bS : Nat} {v : Value} (h : xdbl v = true) : ∃ x, ev ad xs bS v = .double x := by
  cases v <;> first | exact ⟨_, rfl⟩ | exact absurd h (by simp [xdbl])
theorem xlk_mem {i : Nat} {v : Value} : ∀ {l : XL}, xlk l i = some v → (i, v) ∈ l
  | [], h => nomatch h
  | (j, w) :: t, h => by
    unfold xlk at h
    cases hb : Nat.beq j i with
    | true =>
      rw [hb] at h
      have e1 : w = v := Option.some.inj h
      have e2 := Nat.eq_of_beq_eq_true hb
      subst e1; subst e2
      exact List.mem_cons_self
    | false =>
      rw [hb] at h
      exact List.mem_cons_of_mem _ (xlk_mem h)
theorem xloc {E : Value → Value} {ls : Array Slot} {nL i : Nat} {lv : XL} {v : Value} (hl : lv_has ls nL (evL E lv)) (h : xlk lv i = some v) : ls[i]? = some (.val (E v)) :=
  hl.2.2 (i, E v) (List.mem_map.mpr ⟨(i, v), xlk_mem h, rfl⟩)
theorem xf1_ev {E : Value → Value} (hE : ∀ v, (E v).category = v.category) (i : Nat) (lv : XL) : (evL E lv).filter (xf1 i) = evL E (lv.filter (xf1 i)) := by
  unfold evL
  rw [List.filter_map]
  have e : (xf1 i ∘ fun q : Nat × Value => (q.1, E q.2)) = xf1 i := funext fun q => by simp [xf1, hE]
  rw [e]
theorem xf2_ev {E : Value → Value} (hE : ∀ v, (E v).category = v.category) (i : Nat) (lv : XL) : (evL E lv).filter (xf2 i) = evL E (lv.filter (xf2 i)) := by
  unfold evL
  rw [List.filter_map]
  have e : (xf2 i ∘ fun q : Nat × Value => (q.1, E q.2)) = xf2 i := funext fun q => by simp [xf2, hE]
  rw [e]
theorem xins_mem {i : Nat} {v : Value} : ∀ {l : XL} {q : Nat × Value}, q ∈ xins i v l → q ∈ (i, v) :: l
  | [], q, h => h
  | (j, w) :: t, q, h => by
    unfold xins at h
    cases hb : Nat.ble i j with
    | true => rw [hb] at h; exact h
    | false =>
      rw [hb] at h
      rcases List.mem_cons.mp h with rfl | h
      · exact List.mem_cons_of_mem _ List.mem_cons_self
      · rcases List.mem_cons.mp (xins_mem h) with rfl | h
        · exact List.mem_cons_self
        · exact List.mem_cons_of_mem _ (List.mem_cons_of_mem _ h)
theorem xins_ev {E : Value → Value} {i : Nat} {v : Value} {l : XL} : ∀ q ∈ evL E (xins i v l), q ∈ (i, E v) :: evL E l := by
  intro q hq
  obtain ⟨q0, h0, rfl⟩ := List.mem_map.mp hq
  rcases List.mem_cons.mp (xins_mem h0) with rfl | h
  · exact List.mem_cons_self
  · exact List.mem_cons_of_mem _ (List.mem_map.mpr ⟨q0, h, rfl⟩)
theorem lv_sub9 {ls : Array Slot} {nL : Nat} {a b : XL} (h : lv_has ls nL a) (hs : ∀ q ∈ b, q ∈ a) : lv_has ls nL b := ⟨h.1, h.2.1, fun q hq => h.2.2 q (hs q hq)⟩
theorem xst1_ev {E : Value → Value} (hE : ∀ v, (E v).category = v.category) {nL i : Nat} {v : Value} {lv l : XL} (h : xst1 nL i v lv = some l) : i < nL ∧ ∀ q ∈ evL E l, q ∈ (i, E v) :: (evL E lv).filter (xf1 i) := by
  unfold xst1 at h
  cases hb : Nat.ble (i + 1) nL with
  | true =>
    rw [hb] at h
    have e : xins i v (lv.filter (xf1 i)) = l := Option.some.inj h
    subst e
    exact ⟨Nat.le_of_ble_eq_true hb, by rw [xf1_ev hE]; exact xins_ev⟩
  | false => rw [hb] at h; cases h
theorem xst2_ev {E : Value → Value} (hE : ∀ v, (E v).category = v.category) {nL i : Nat} {v : Value} {lv l : XL} (h : xst2 nL i v lv = some l) : i + 1 < nL ∧ ∀ q ∈ evL E l, q ∈ (i, E v) :: (evL E lv).filter (xf2 i) := by
  unfold xst2 at h
  cases hb : Nat.ble (i + 2) nL with
  | true =>
    rw [hb] at h
    have e : xins i v (lv.filter (xf2 i)) = l := Option.some.inj h
    subst e
    exact ⟨Nat.le_of_ble_eq_true hb, by rw [xf2_ev hE]; exact xins_ev⟩
  | false => rw [hb] at h; cases h
theorem xld_spec {ok : Value → Bool} {lv : XL} {st : List Value} {i : Nat} {q : XL × List Value} (h : xld ok lv st i = some q) : ∃ v, xlk lv i = some v ∧ ok v = true ∧ q = (lv, v :: st) := by
  unfold xld at h
  split at h
  · rename_i v hv
    cases hb : ok v with
    | true => rw [hb] at h; exact ⟨v, hv, hb, (Option.some.inj h).symm⟩
    | false => rw [hb] at h; cases h
  · cases h
theorem xstr1_spec {ok : Value → Bool} {nL i : Nat} {lv : XL} {st : List Value} {q : XL × List Value} (h : xstr1 ok nL i lv st = some q) : ∃ v r l, st = v :: r ∧ ok v = true ∧ xst1 nL i v lv = some l ∧ q = (l, r) := by
  unfold xstr1 at h
  split at h
  · cases h
  · rename_i v r
    cases hb : ok v with
    | true =>
      rw [hb] at h
      simp only [cond_true] at h
      split at h
      · rename_i l hl
        exact ⟨v, r, l, rfl, hb, hl, (Option.some.inj h).symm⟩
      · cases h
    | false => rw [hb] at h; cases h
theorem xstr2_spec {ok : Value → Bool} {nL i : Nat} {lv : XL} {st : List Value} {q : XL × List Value} (h : xstr2 ok nL i lv st = some q) : ∃ v r l, st = v :: r ∧ ok v = true ∧ xst2 nL i v lv = some l ∧ q = (l, r) := by
  unfold xstr2 at h
  split at h
  · cases h
  · rename_i v r
    cases hb : ok v with
    | true =>
      rw [hb] at h
      simp only [cond_true] at h
      split at h
      · rename_i l hl
        exact ⟨v, r, l, rfl, hb, hl, (Option.some.inj h).symm⟩
      · cases h
    | false => rw [hb] at h; cases h
theorem xbin_spec {f : Int32 → Int32 → Int32} {lv : XL} {st : List Value} {q : XL × List Value} (h : xbin f lv st = some q) : ∃ x y r, st = .int y :: .int x :: r ∧ q = (lv, .int (f x y) :: r) := by
  unfold xbin at h
  split at h
  · exact ⟨_, _, _, rfl, (Option.some.inj h).symm⟩
  · cases h
theorem xbil_spec {f : Int64 → Int64 → Int64} {lv : XL} {st : List Value} {q : XL × List Value} (h : xbil f lv st = some q) : ∃ x y r, st = .long y :: .long x :: r ∧ q = (lv, .long (f x y) :: r) := by
  unfold xbil at h
  split at h
  · exact ⟨_, _, _, rfl, (Option.some.inj h).symm⟩
  · cases h
section
variable {p : Program} {l : Launch} {e : Env} {R : Room} {s : State} {m : MethodId} {args : Array Value} {below : List Frame} {meth : Method} {c : Code} {H : Heap} {locs : List Loc} {cells slots : Nat} {Q : State → Prop}
variable {cc : ByteArray} {pc nL : Nat} {ls : Array Slot} {ad : Nat → Nat} {xs : Nat → Int32} {bS : Nat}
theorem xw_load (hx : p.tables.exec = Jvm.exec) (hb : c.code = cc) {i : Instr} {ok : Value → Bool} {k : Nat} {lv lv' : XL} {st st' : List Value} (h : xld ok lv st k = some (lv', st')) (hl : lv_has ls nL (evL (ev ad xs bS) lv))
    (row : ∀ v, ok v = true → ls[k]? = some (.val (ev ad xs bS v)) → W p l e R s m args below meth c H locs cells slots Q (F0 m (pc + ilen i) ls (ev ad xs bS v :: evS (ev ad xs bS) st)) → W p l e R s m args below meth c H locs cells slots Q (F0 m pc ls (evS (ev ad xs bS) st)))
    (kk : ∀ ls' : Array Slot, lv_has ls' nL (evL (ev ad xs bS) lv') → W p l e R s m args below meth c H locs cells slots Q (F0 m (pc + ilen i) ls' (evS (ev ad xs bS) st'))) : W p l e R s m args below meth c H locs cells slots Q (F0 m pc ls (evS (ev ad xs bS) st)) := by
  obtain ⟨v, h1, h2, h3⟩ := xld_spec h
  obtain ⟨rfl, rfl⟩ := Prod.mk.inj h3
  exact row v h2 (xloc hl h1) (kk ls hl)
theorem xw_store1 {i : Instr} {ok : Value → Bool} {k : Nat} {lv lv' : XL} {st st' : List Value} (h : xstr1 ok nL k lv st = some (lv', st'))
    (row : ∀ (v : Value) (r : List Value) (l' : XL), ok v = true → k < nL → (k, ev ad xs bS v) :: (evL (ev ad xs bS) lv).filter (xf1 k) = l' → (∀ ls' : Array Slot, lv_has ls' nL l' → W p l e R s m args below meth c H locs cells slots Q (F0 m (pc + ilen i) ls' r)) → W p l e R s m args below meth c H locs cells slots Q (F0 m pc ls (ev ad xs bS v :: r)))
    (kk : ∀ ls' : Array Slot, lv_has ls' nL (evL (ev ad xs bS) lv') → W p l e R s m args below meth c H locs cells slots Q (F0 m (pc + ilen i) ls' (evS (ev ad xs bS) st'))) : W p l e R s m args below meth c H locs cells slots Q (F0 m pc ls (evS (ev ad xs bS) st)) := by
  obtain ⟨v, r, l1, rfl, h2, h3, h4⟩ := xstr1_spec h
  obtain ⟨rfl, rfl⟩ := Prod.mk.inj h4
  obtain ⟨h5, h6⟩ := xst1_ev (ev_cat ad xs bS) h3
  exact row v _ _ h2 h5 rfl (fun ls' hl' => kk ls' (lv_sub9 hl' h6))
theorem xw_store2 {i : Instr} {ok : Value → Bool} {k : Nat} {lv lv' : XL} {st st' : List Value} (h : xstr2 ok nL k lv st = some (lv', st'))
    (row : ∀ (v : Value) (r : List Value) (l' : XL), ok v = true → k + 1 < nL → (k, ev ad xs bS v) :: (evL (ev ad xs bS) lv).filter (xf2 k) = l' → (∀ ls' : Array Slot, lv_has ls' nL l' → W p l e R s m args below meth c H locs cells slots Q (F0 m (pc + ilen i) ls' r)) → W p l e R s m args below meth c H locs cells slots Q (F0 m pc ls (ev ad xs bS v :: r)))
    (kk : ∀ ls' : Array Slot, lv_has ls' nL (evL (ev ad xs bS) lv') → W p l e R s m args below meth c H locs cells slots Q (F0 m (pc + ilen i) ls' (evS (ev ad xs bS) st'))) : W p l e R s m args below meth c H locs cells slots Q (F0 m pc ls (evS (ev ad xs bS) st)) := by
  obtain ⟨v, r, l1, rfl, h2, h3, h4⟩ := xstr2_spec h
  obtain ⟨rfl, rfl⟩ := Prod.mk.inj h4
  obtain ⟨h5, h6⟩ := xst2_ev (ev_cat ad xs bS) h3
  exact row v _ _ h2 h5 rfl (fun ls' hl' => kk ls' (lv_sub9 hl' h6))
theorem xw_bin {i : Instr} {f : Int32 → Int32 → Int32} {lv lv' : XL} {st st' : List Value} (h : xbin f lv st = some (lv', st')) (hl : lv_has ls nL (evL (ev ad xs bS) lv))
    (row : ∀ (x y : Int32) (r : List Value), W p l e R s m args below meth c H locs cells slots Q (F0 m (pc + ilen i) ls (.int (f x y) :: r)) → W p l e R s m args below meth c H locs cells slots Q (F0 m pc ls (.int y :: .int x :: r)))
    (kk : ∀ ls' : Array Slot, lv_has ls' nL (evL (ev ad xs bS) lv') → W p l e R s m args below meth c H locs cells slots Q (F0 m (pc + ilen i) ls' (evS (ev ad xs bS) st'))) : W p l e R s m args below meth c H locs cells slots Q (F0 m pc ls (evS (ev ad xs bS) st)) := by
  obtain ⟨x, y, r, rfl, h4⟩ := xbin_spec h
  obtain ⟨rfl, rfl⟩ := Prod.mk.inj h4
  exact row x y _ (kk ls hl)
theorem xw_binz {i : Instr} {f : Int32 → Int32 → Int32} {lv lv' : XL} {st st' : List Value} (h : xbinz f lv st = some (lv', st')) (hl : lv_has ls nL (evL (ev ad xs bS) lv))
    (row : ∀ (x y : Int32) (r : List Value), ¬ y = 0 → W p l e R s m args below meth c H locs cells slots Q (F0 m (pc + ilen i) ls (.int (f x y) :: r)) → W p l e R s m args below meth c H locs cells slots Q (F0 m pc ls (.int y :: .int x :: r)))
    (kk : ∀ ls' : Array Slot, lv_has ls' nL (evL (ev ad xs bS) lv') → W p l e R s m args below meth c H locs cells slots Q (F0 m (pc + ilen i) ls' (evS (ev ad xs bS) st'))) : W p l e R s m args below meth c H locs cells slots Q (F0 m pc ls (evS (ev ad xs bS) st)) := by
  unfold xbinz at h
  split at h
  · rename_i y x r
    cases hz : decide (y = 0) with
    | true => rw [hz] at h; cases h
    | false =>
      rw [hz] at h
      obtain ⟨rfl, rfl⟩ := Prod.mk.inj (Option.some.inj h)
      exact row x y _ (of_decide_eq_false hz) (kk ls hl)
  · cases h
theorem xw_bil {i : Instr} {f : Int64 → Int64 → Int64} {lv lv' : XL} {st st' : List Value} (h : xbil f lv st = some (lv', st')) (hl : lv_has ls nL (evL (ev ad xs bS) lv))
    (row : ∀ (x y : Int64) (r : List Value), W p l e R s m args below meth c H locs cells slots Q (F0 m (pc + ilen i) ls (.long (f x y) :: r)) → W p l e R s m args below meth c H locs cells slots Q (F0 m pc ls (.long y :: .long x :: r)))
    (kk : ∀ ls' : Array Slot, lv_has ls' nL (evL (ev ad xs bS) lv') → W p l e R s m args below meth c H locs cells slots Q (F0 m (pc + ilen i) ls' (evS (ev ad xs bS) st'))) : W p l e R s m args below meth c H locs cells slots Q (F0 m pc ls (evS (ev ad xs bS) st)) := by
  obtain ⟨x, y, r, rfl, h4⟩ := xbil_spec h
  obtain ⟨rfl, rfl⟩ := Prod.mk.inj h4
  exact row x y _ (kk ls hl)
set_option maxHeartbeats 4000000 in
theorem xsimple_ok (hx : p.tables.exec = Jvm.exec) (hb : c.code = cc) {i : Instr} {aux : List Nat}
    (hcl : ∀ k a t, i = .ldc2_w k → aux = a :: t → ∃ own, s.vm.findClass own = some m.cls ∧ (Jvm.Cond.constantLong own k (Int64.ofNat a)).before args s = true)
    (hcl2 : ∀ k a t, i = .ldc k → aux = a :: t → ∃ own, s.vm.findClass own = some m.cls ∧ (Jvm.Cond.constant own k (Int32.ofNat a)).before args s = true)
    {lv lv' : XL} {st st' : List Value} (h : xsimple nL i aux lv st = some (lv', st')) (hl : lv_has ls nL (evL (ev ad xs bS) lv)) (hd : decode cc pc = .ok (i, ilen i))
    (kk : ∀ ls' : Array Slot, lv_has ls' nL (evL (ev ad xs bS) lv') → W p l e R s m args below meth c H locs cells slots Q (F0 m (pc + ilen i) ls' (evS (ev ad xs bS) st'))) : W p l e R s m args below meth c H locs cells slots Q (F0 m pc ls (evS (ev ad xs bS) st)) := by
  unfold xsimple at h
  split at h
  · obtain ⟨rfl, rfl⟩ := Prod.mk.inj (Option.some.inj h)
    exact lv_iconst hx hb hd rfl (kk ls hl)
  · obtain ⟨rfl, rfl⟩ := Prod.mk.inj (Option.some.inj h)
    exact lv_bipush hx hb hd rfl (kk ls hl)
  · obtain ⟨rfl, rfl⟩ := Prod.mk.inj (Option.some.inj h)
    exact lv_sipush hx hb hd rfl (kk ls hl)
  · obtain ⟨rfl, rfl⟩ := Prod.mk.inj (Option.some.inj h)
    exact lv_null hx hb hd (kk ls hl)
  · rename_i d
    cases hz : Nat.beq d.val 0 with
    | false => rw [hz] at h; cases h
    | true =>
      rw [hz] at h
      obtain ⟨rfl, rfl⟩ := Prod.mk.inj (Option.some.inj h)
      have e0 : d = 0 := Fin.ext (Nat.eq_of_beq_eq_true hz)
      subst e0
      exact lv_dconst0 hx hb hd (kk ls hl)
  · split at h
    · rename_i a t
      obtain ⟨rfl, rfl⟩ := Prod.mk.inj (Option.some.inj h)
      obtain ⟨own, ho, hc⟩ := hcl _ a t rfl rfl
      exact lv_ldc2 hx hb ho hc hd (kk ls hl)
    · cases h
  · split at h
    · rename_i a t
      obtain ⟨rfl, rfl⟩ := Prod.mk.inj (Option.some.inj h)
      obtain ⟨own, ho, hc⟩ := hcl2 _ a t rfl rfl
      exact lv_ldc hx hb ho hc hd (kk ls hl)
    · cases h
  · refine xw_load (i := .iload _) hx hb h hl (fun v hv hs k => ?_) kk
    obtain ⟨x, hxv⟩ := xint_ev (ad := ad) (xs := xs) (bS := bS) hv
    rw [hxv] at hs k
    exact lv_iload hx hb hd hs k
  · refine xw_load (i := .iload_n _) hx hb h hl (fun v hv hs k => ?_) kk
    obtain ⟨x, hxv⟩ := xint_ev (ad := ad) (xs := xs) (bS := bS) hv
    rw [hxv] at hs k
    exact lv_iload_n hx hb hd rfl hs k
  · refine xw_load (i := .lload _) hx hb h hl (fun v hv hs k => ?_) kk
    obtain ⟨x, hxv⟩ := xlong_ev (ad := ad) (xs := xs) (bS := bS) hv
    rw [hxv] at hs k
    exact lv_lload hx hb hd hs k
  · refine xw_load (i := .lload_n _) hx hb h hl (fun v hv hs k => ?_) kk
    obtain ⟨x, hxv⟩ := xlong_ev (ad := ad) (xs := xs) (bS := bS) hv
    rw [hxv] at hs k
    exact lv_lload_n hx hb hd rfl hs k
  · refine xw_load (i := .dload _) hx hb h hl (fun v hv hs k => ?_) kk
    obtain ⟨x, hxv⟩ := xdbl_ev (ad := ad) (xs := xs) (bS := bS) hv
    rw [hxv] at hs k
    exact lv_dload hx hb hd hs k
  · refine xw_load (i := .aload _) hx hb h hl (fun v hv hs k => ?_) kk
    rcases xref_ev (ad := ad) (xs := xs) (bS := bS) hv with hxv | ⟨x, hxv⟩
    · rw [hxv] at hs k
      exact lv_aloadN hx hb hd hs k
    · rw [hxv] at hs k
      exact lv_aload hx hb hd hs k
  · refine xw_load (i := .aload_n _) hx hb h hl (fun v hv hs k => ?_) kk
    rcases xref_ev (ad := ad) (xs := xs) (bS := bS) hv with hxv | ⟨x, hxv⟩
    · rw [hxv] at hs k
      exact lv_aload_nN hx hb hd rfl hs k
    · rw [hxv] at hs k
      exact lv_aload_n hx hb hd rfl hs k
  · refine xw_store1 (i := .istore _) h (fun v r l' hv hk he k => ?_) kk
    obtain ⟨x, hxv⟩ := xint_ev (ad := ad) (xs := xs) (bS := bS) hv
    rw [hxv] at he ⊢
    exact lv_istore hx hb hd hl hk he k
  · refine xw_store1 (i := .istore_n _) h (fun v r l' hv hk he k => ?_) kk
    obtain ⟨x, hxv⟩ := xint_ev (ad := ad) (xs := xs) (bS := bS) hv
    rw [hxv] at he ⊢
    exact lv_istore_n hx hb hd rfl hl hk he k
  · refine xw_store1 (i := .astore _) h (fun v r l' hv hk he k => ?_) kk
    rcases xref_ev (ad := ad) (xs := xs) (bS := bS) hv with hxv | ⟨x, hxv⟩
    · rw [hxv] at he ⊢
      exact lv_astoreN hx hb hd hl hk he k
    · rw [hxv] at he ⊢
      exact lv_astore hx hb hd hl hk he k
  · refine xw_store1 (i := .astore_n _) h (fun v r l' hv hk he k => ?_) kk
    rcases xref_ev (ad := ad) (xs := xs) (bS := bS) hv with hxv | ⟨x, hxv⟩
    · rw [hxv] at he ⊢
      exact lv_astore_nN hx hb hd rfl hl hk he k
    · rw [hxv] at he ⊢
      exact lv_astore_n hx hb hd rfl hl hk he k
  · refine xw_store2 (i := .lstore _) h (fun v r l' hv hk he k => ?_) kk
    obtain ⟨x, hxv⟩ := xlong_ev (ad := ad) (xs := xs) (bS := bS) hv
    rw [hxv] at he ⊢
    exact lv_lstore hx hb hd hl hk he k
  · refine xw_store2 (i := .lstore_n _) h (fun v r l' hv hk he k => ?_) kk
    obtain ⟨x, hxv⟩ := xlong_ev (ad := ad) (xs := xs) (bS := bS) hv
    rw [hxv] at he ⊢
    exact lv_lstore_n hx hb hd rfl hl hk he k
  · refine xw_store2 (i := .dstore _) h (fun v r l' hv hk he k => ?_) kk
    obtain ⟨x, hxv⟩ := xdbl_ev (ad := ad) (xs := xs) (bS := bS) hv
    rw [hxv] at he ⊢
    exact lv_dstore hx hb hd hl hk he k
  · unfold xinc at h
    split at h
    · rename_i x hk
      split at h
      · rename_i l1 h1
        obtain ⟨rfl, rfl⟩ := Prod.mk.inj (Option.some.inj h)
        obtain ⟨h5, h6⟩ := xst1_ev (ev_cat ad xs bS) h1
        have hmem : (_, Value.int x) ∈ evL (ev ad xs bS) lv := List.mem_map.mpr ⟨_, xlk_mem hk, rfl⟩
        obtain ⟨k9, hk9⟩ := List.getElem?_of_mem hmem
        exact lv_iinc hx hb hd hl hk9 rfl h5 rfl (fun ls' hl' => kk ls' (lv_sub9 hl' h6))
      · cases h
    · cases h
  · exact xw_bin (i := .iadd) h hl (fun x y r k => lv_iadd hx hb hd k) kk
  · exact xw_bin (i := .isub) h hl (fun x y r k => lv_isub hx hb hd k) kk
  · exact xw_bin (i := .imul) h hl (fun x y r k => lv_imul hx hb hd k) kk
  · exact xw_bin (i := .ishl) h hl (fun x y r k => lv_ishl hx hb hd k) kk
  · exact xw_bin (i := .ishr) h hl (fun x y r k => lv_ishr hx hb hd k) kk
  · unfold xand at h
    split at h
    · obtain ⟨rfl, rfl⟩ := Prod.mk.inj (Option.some.inj h)
      exact lv_iand hx hb hd (kk ls hl)
    · cases h
  · unfold xi2l at h
    split at h
    · obtain ⟨rfl, rfl⟩ := Prod.mk.inj (Option.some.inj h)
      exact lv_i2l hx hb hd rfl (kk ls hl)
    · cases h
  · exact xw_bil (i := .ladd) h hl (fun x y r k => lv_ladd hx hb hd k) kk
  · exact xw_bil (i := .lmul) h hl (fun x y r k => lv_lmul hx hb hd k) kk
  · unfold xlcm at h
    split at h
    · obtain ⟨rfl, rfl⟩ := Prod.mk.inj (Option.some.inj h)
      exact W.lcmp hx hb hd (kk ls hl)
    · cases h
  · unfold xdcm at h
    split at h
    · obtain ⟨rfl, rfl⟩ := Prod.mk.inj (Option.some.inj h)
      exact lv_dcmp hx hb hd (kk ls hl)
    · cases h
  · unfold xdup at h
    split at h
    · rename_i v r
      cases hz : Nat.beq v.category 1 with
      | false => rw [hz] at h; cases h
      | true =>
        rw [hz] at h
        obtain ⟨rfl, rfl⟩ := Prod.mk.inj (Option.some.inj h)
        exact lv_dup hx hb hd ((ev_cat ad xs bS v).trans (Nat.eq_of_beq_eq_true hz)) (kk ls hl)
    · cases h
  · unfold xdupx at h
    split at h
    · rename_i v w r
      cases hz : (Nat.beq v.category 1 && Nat.beq w.category 1) with
      | false => rw [hz] at h; cases h
      | true =>
        rw [hz] at h
        obtain ⟨rfl, rfl⟩ := Prod.mk.inj (Option.some.inj h)
        rw [Bool.and_eq_true] at hz
        exact lv_dup_x1 hx hb hd ((ev_cat ad xs bS v).trans (Nat.eq_of_beq_eq_true hz.1)) ((ev_cat ad xs bS w).trans (Nat.eq_of_beq_eq_true hz.2)) (kk ls hl)
    · cases h
  · exact xw_bin (i := .ior) h hl (fun x y r k => lv_ior hx hb hd k) kk
  · exact xw_bin (i := .ixor) h hl (fun x y r k => lv_ixor hx hb hd k) kk
  · exact xw_binz (i := .idiv) h hl (fun x y r hz k => lv_idiv hx hb hd hz k) kk
  · exact xw_binz (i := .irem) h hl (fun x y r hz k => lv_irem hx hb hd hz k) kk
  · unfold xdup2 at h
    split at h
    · rename_i v w r
      cases hz : (Nat.beq v.category 1 && Nat.beq w.category 1) with
      | false => rw [hz] at h; cases h
      | true =>
        rw [hz] at h
        obtain ⟨rfl, rfl⟩ := Prod.mk.inj (Option.some.inj h)
        rw [Bool.and_eq_true] at hz
        exact lv_dup2_11 hx hb hd ((ev_cat ad xs bS v).trans (Nat.eq_of_beq_eq_true hz.1)) ((ev_cat ad xs bS w).trans (Nat.eq_of_beq_eq_true hz.2)) (kk ls hl)
    · cases h
  · unfold xdupx2 at h
    split at h
    · rename_i v w u r
      cases hz : (Nat.beq v.category 1 && (Nat.beq w.category 1 && Nat.beq u.category 1)) with
      | false => rw [hz] at h; cases h
      | true =>
        rw [hz] at h
        obtain ⟨rfl, rfl⟩ := Prod.mk.inj (Option.some.inj h)
        rw [Bool.and_eq_true, Bool.and_eq_true] at hz
        exact lv_dup_x2 hx hb hd ((ev_cat ad xs bS v).trans (Nat.eq_of_beq_eq_true hz.1)) ((ev_cat ad xs bS w).trans (Nat.eq_of_beq_eq_true hz.2.1)) ((ev_cat ad xs bS u).trans (Nat.eq_of_beq_eq_true hz.2.2)) (kk ls hl)
    · cases h
  · unfold xpop at h
    split at h
    · rename_i v r
      cases hz : Nat.beq v.category 1 with
      | false => rw [hz] at h; cases h
      | true =>
        rw [hz] at h
        obtain ⟨rfl, rfl⟩ := Prod.mk.inj (Option.some.inj h)
        exact lv_pop hx hb hd ((ev_cat ad xs bS v).trans (Nat.eq_of_beq_eq_true hz)) (kk ls hl)
    · cases h
  · cases h
end
end XV
