section XM
variable {p : Program} {l : Launch} {e : Env} {R : Room} {s : State} {m : MethodId} {args : Array Value} {below : List Frame} {meth : Method} {c : Code} {H : Heap} {locs : List Loc} {Q : State → Prop}
variable {cc : ByteArray} {pc nL : Nat} {ls : Array Slot} {ad : Nat → Nat} {xs : Nat → Int32} {bS : Nat} {aC : Nat → ClassId} {D : va_G} {A : Nat → Prop} {own : String} {Ts : List Jvm.Cond}
/-- where the walk goes on behind an instruction that touches cells -/
def xgo (p : Program) (l : Launch) (e : Env) (R : Room) (s : State) (m : MethodId) (args : Array Value) (below : List Frame) (meth : Method) (c : Code) (Q : State → Prop) (ad : Nat → Nat) (xs : Nat → Int32) (bS : Nat) (aC : Nat → ClassId) (D : va_G) (A : Nat → Prop) (lv : XL) (n : Nat) (pc : Nat) (ls : Array Slot) (st' : List Value) (σ' : XS) (nL : Nat) : Prop :=
  ∀ (ad' : Nat → Nat) (H1 : Heap) (locs1 : List Loc), (∀ j, j < n → ad' j = ad j) → n ≤ σ'.2.2.1 → va_P D classes (evH (ev ad' xs bS) ad' aC σ'.2.1) H1 → va_D A (evH (ev ad' xs bS) ad' aC σ'.2.1) → va_S A s.heap H1 locs1 → lv_has ls nL (evL (ev ad' xs bS) lv) →
    W p l e R s m args below meth c H1 locs1 σ'.2.2.2.1 σ'.2.2.2.2 Q (F0 m pc ls (evS (ev ad' xs bS) st'))
theorem xw_get (hx : p.tables.exec = Jvm.exec) (hb : c.code = cc) (hts : ∀ w ∈ Ts, w.before args s = true) (hcw : ∀ (ci : Nat) (C : String) (T : u_T) (N : Nat), classes[ci]? = some (C, T, N) → ∀ w ∈ u_ws C T N, w ∈ Ts) (hown : s.vm.findClass own = some m.cls) (hK : va_K D classes (xtys aC) s)
    {idx : Nat} {aux : List Nat} {init : Bool} (hv : xvh Ts own init (.getfield idx) aux) {lv : XL} {st st' : List Value} {σ σ' : XS} (h : xget aux st σ = some (st', σ'))
    (hP : va_P D classes (evH (ev ad xs bS) ad aC σ.2.1) H) (hD : va_D A (evH (ev ad xs bS) ad aC σ.2.1)) (hS : va_S A s.heap H locs) (hl : lv_has ls nL (evL (ev ad xs bS) lv)) (hd : decode cc pc = .ok (.getfield idx, 3))
    (kk : xgo p l e R s m args below meth c Q ad xs bS aC D A lv σ.2.2.1 (pc + 3) ls st' σ' nL) : W p l e R s m args below meth c H locs σ.2.2.2.1 σ.2.2.2.2 Q (F0 m pc ls (evS (ev ad xs bS) st)) := by
  unfold xget at h
  split at h
  · rename_i ci k t o r
    split at h
    · rename_i cj fs hk
      cases h1 : Nat.beq ci cj with
      | false => rw [h1] at h; cases h
      | true =>
        rw [h1] at h
        simp only [cond_true] at h
        split at h
        · rename_i v hv2
          rw [xnth_eq] at hv2
          obtain ⟨rfl, rfl⟩ := Prod.mk.inj (Option.some.inj h)
          have e1 := Nat.eq_of_beq_eq_true h1
          subst e1
          obtain ⟨C, T, N, hc, hkN, hw⟩ := hv ci k t rfl
          obtain ⟨q0, hq, -⟩ := xhk_get (E := ev ad xs bS) (ad := ad) (aC := aC) hk
          refine va_get (own := own) (ref := (T k).1) (C := C) (T := T) (N := N) (ci := ci) (fs := fs.map (ev ad xs bS)) hx hb hts (hcw ci C T N hc) hown hK hP q0 hq hc k hkN (hts _ hw) (fun _ z => z) (v := ev ad xs bS v) (by rw [List.getElem?_map, hv2]; rfl) hd ?_
          exact kk ad H locs (fun _ _ => rfl) (Nat.le_refl _) hP hD hS hl
        · cases h
    · cases h
  · cases h
theorem xw_put (hx : p.tables.exec = Jvm.exec) (hb : c.code = cc) (hts : ∀ w ∈ Ts, w.before args s = true) (hcw : ∀ (ci : Nat) (C : String) (T : u_T) (N : Nat), classes[ci]? = some (C, T, N) → ∀ w ∈ u_ws C T N, w ∈ Ts) (hown : s.vm.findClass own = some m.cls) (hK : va_K D classes (xtys aC) s)
    {idx : Nat} {aux : List Nat} {init : Bool} (hin : init = true → meth.name = "<init>") (hv : xvh Ts own init (.putfield idx) aux) {lv : XL} {st st' : List Value} {σ σ' : XS} (h : xput aux st σ = some (st', σ'))
    (hP : va_P D classes (evH (ev ad xs bS) ad aC σ.2.1) H) (hD : va_D A (evH (ev ad xs bS) ad aC σ.2.1)) (hS : va_S A s.heap H locs) (hl : lv_has ls nL (evL (ev ad xs bS) lv)) (hd : decode cc pc = .ok (.putfield idx, 3))
    (kk : xgo p l e R s m args below meth c Q ad xs bS aC D A lv σ.2.2.1 (pc + 3) ls st' σ' nL) : W p l e R s m args below meth c H locs σ.2.2.2.1 σ.2.2.2.2 Q (F0 m pc ls (evS (ev ad xs bS) st)) := by
  unfold xput at h
  split at h
  · rename_i ci k t v o r
    split at h
    · rename_i cj fs hk
      cases h1 : (Nat.beq ci cj && (xfit (xTy ci k) v && Nat.ble (k + 1) fs.length)) with
      | false => rw [h1] at h; cases h
      | true =>
        rw [h1] at h
        simp only [Bool.and_eq_true] at h1
        obtain ⟨h2, h3, h4⟩ := h1
        rw [xset_eq] at h
        obtain ⟨rfl, rfl⟩ := Prod.mk.inj (Option.some.inj h)
        have e1 := Nat.eq_of_beq_eq_true h2
        subst e1
        obtain ⟨C, T, N, hc, hkN, hw, hf⟩ := hv ci k t rfl
        obtain ⟨q0, hq, hset⟩ := xhk_get (E := ev ad xs bS) (ad := ad) (aC := aC) hk
        obtain ⟨hN, hty, hnm⟩ := xcls_ok hc
        obtain ⟨hn, hfit⟩ := xfit_ok (ad := ad) (xs := xs) (bS := bS) h3
        have hlen : k < (fs.map (ev ad xs bS)).length := by rw [List.length_map]; exact Nat.le_of_ble_eq_true h4
        have hset2 : (evH (ev ad xs bS) ad aC σ.2.1).set q0 (ad o, .inr (ci, (fs.map (ev ad xs bS)).set k (ev ad xs bS v))) = evH (ev ad xs bS) ad aC (xhs σ.2.1 o (false, ci, fs.set k v)) := by
          rw [← hset (false, ci, fs.set k v), ← List.map_set]; rfl
        rcases hf with hf | ⟨hf, hi, hdecl⟩
        · refine va_put (own := own) (ref := (T k).1) (C := C) (T := T) (N := N) (ci := ci) (fs := fs.map (ev ad xs bS)) hx hb hts (hcw ci C T N hc) (xTy ci) hty hnm hown hK hP hD hS q0 hq hc k hkN (hts _ hw) (fun _ z => z) hf (ty := xTy ci k) (hty k hkN) hn hfit hlen hd (fun H1 locs1 p1 d1 s1 => ?_)
          rw [hset2] at p1 d1
          exact kk ad H1 locs1 (fun _ _ => rfl) (Nat.le_refl _) p1 d1 s1 hl
        · refine va_putF (own := own) (ref := (T k).1) (C := C) (T := T) (N := N) (ci := ci) (fs := fs.map (ev ad xs bS)) hx hb hts (hcw ci C T N hc) (xTy ci) hty hnm hown hK hP hD hS q0 hq hc k hkN (hts _ hw) (fun _ z => z) hf (hin hi) hdecl (ty := xTy ci k) (hty k hkN) hn hfit hlen hd (fun H1 locs1 p1 d1 s1 => ?_)
          rw [hset2] at p1 d1
          exact kk ad H1 locs1 (fun _ _ => rfl) (Nat.le_refl _) p1 d1 s1 hl
    · cases h
  · cases h
theorem xal_tail {n : Nat} {lv : XL} {v : Value} {r : List Value} {h : XH} (hh : xal n lv (v :: r) h = true) : xal n lv r h = true := by
  unfold xal at hh ⊢
  rw [Bool.and_eq_true, Bool.and_eq_true] at hh ⊢
  refine ⟨hh.1, ?_, hh.2.2⟩
  have h2 := hh.2.1
  unfold xoS at h2 ⊢
  rw [List.all_cons, Bool.and_eq_true] at h2
  exact h2.2
/-- one thing more, at a new address -/
theorem xnew_go {lv : XL} {r st' : List Value} {σ σ' : XS} {cl : XCl} {ns : Nat} (h : xnew R lv r σ cl ns = some (st', σ')) (hwf : xal σ.2.2.1 lv r σ.2.1 = true) (hdef : ∀ ad', evC (ev ad' xs bS) aC cl = evC (ev ad xs bS) aC cl) (hl : lv_has ls nL (evL (ev ad xs bS) lv))
    (kk : xgo p l e R s m args below meth c Q ad xs bS aC D A lv σ.2.2.1 pc ls st' σ' nL) :
    σ.2.2.2.1 + 1 ≤ R.cells ∧ σ.2.2.2.2 + ns ≤ R.slots ∧ ∀ (q : Nat) (H1 : Heap), va_P D classes (evH (ev ad xs bS) ad aC σ.2.1 ++ [(q, evC (ev ad xs bS) aC cl)]) H1 → va_D A (evH (ev ad xs bS) ad aC σ.2.1 ++ [(q, evC (ev ad xs bS) aC cl)]) → ∀ locs1, va_S A s.heap H1 locs1 →
      W p l e R s m args below meth c H1 locs1 (σ.2.2.2.1 + 1) (σ.2.2.2.2 + ns) Q (F0 m pc ls (.ref q :: evS (ev ad xs bS) r)) := by
  obtain ⟨pe, hh, n, ce, sl⟩ := σ
  unfold xnew at h
  dsimp only at h
  cases h1 : (Nat.ble (ce + 1) R.cells && Nat.ble (sl + ns) R.slots) with
  | false => rw [h1] at h; cases h
  | true =>
    rw [h1] at h
    simp only [Bool.and_eq_true] at h1
    obtain ⟨h3, h4⟩ := h1
    have h2 := hwf
    obtain ⟨rfl, rfl⟩ := Prod.mk.inj (Option.some.inj h)
    obtain ⟨oL, oS, oH⟩ := xal_spec h2
    refine ⟨Nat.le_of_ble_eq_true h3, Nat.le_of_ble_eq_true h4, fun q H1 hP hD locs1 hS => ?_⟩
    have ha : ∀ j, j < n → (fun j => if j = n then q else ad j) j = ad j := fun j hj => if_neg (Nat.ne_of_lt hj)
    have e1 : evH (ev (fun j => if j = n then q else ad j) xs bS) (fun j => if j = n then q else ad j) aC (hh ++ [(n, cl)]) = evH (ev ad xs bS) ad aC hh ++ [(q, evC (ev ad xs bS) aC cl)] := by
      have := xoH_ev (xs := xs) (bS := bS) (aC := aC) ha oH
      unfold evH at this ⊢
      rw [List.map_append, this]
      simp [hdef]
    have e2 : evS (ev (fun j => if j = n then q else ad j) xs bS) (.ref n :: r) = .ref q :: evS (ev ad xs bS) r := by
      have := xoS_ev (xs := xs) (bS := bS) ha oS
      unfold evS at this ⊢
      rw [List.map_cons, this]
      simp [ev]
    have := kk (fun j => if j = n then q else ad j) H1 locs1 ha (Nat.le_succ n) (by dsimp only; rw [e1]; exact hP) (by dsimp only; rw [e1]; exact hD) hS (by rw [xoL_ev ha oL]; exact hl)
    dsimp only at this
    rw [e2] at this
    exact this
theorem xcomp {ti n : Nat} (h : n ≤ 1000) : n * componentBytes (xty ti) ≤ 536870912 := by
  have : componentBytes (xty ti) ≤ 8 := by
    unfold xty
    split <;> decide
  calc n * componentBytes (xty ti) ≤ 1000 * 8 := Nat.mul_le_mul h this
    _ ≤ 536870912 := Nat.le_of_ble_eq_true rfl
theorem xw_newo (hx : p.tables.exec = Jvm.exec) (hb : c.code = cc) (hts : ∀ w ∈ Ts, w.before args s = true) (hcw : ∀ (ci : Nat) (C : String) (T : u_T) (N : Nat), classes[ci]? = some (C, T, N) → ∀ w ∈ u_ws C T N, w ∈ Ts) (hown : s.vm.findClass own = some m.cls) (hK : va_K D classes (xtys aC) s) (hA : ∀ q, s.heap.size ≤ q → A q)
    {idx : Nat} {aux : List Nat} {init : Bool} (hv : xvh Ts own init (.new idx) aux) {lv : XL} {st st' : List Value} {σ σ' : XS} (hwf : xal σ.2.2.1 lv st σ.2.1 = true) (h : xnewo R aux lv st σ = some (st', σ'))
    (hP : va_P D classes (evH (ev ad xs bS) ad aC σ.2.1) H) (hD : va_D A (evH (ev ad xs bS) ad aC σ.2.1)) (hS : va_S A s.heap H locs) (hl : lv_has ls nL (evL (ev ad xs bS) lv)) (hd : decode cc pc = .ok (.new idx, 3))
    (kk : xgo p l e R s m args below meth c Q ad xs bS aC D A lv σ.2.2.1 (pc + 3) ls st' σ' nL) : W p l e R s m args below meth c H locs σ.2.2.2.1 σ.2.2.2.2 Q (F0 m pc ls (evS (ev ad xs bS) st)) := by
  unfold xnewo at h
  split at h
  · rename_i ci t
    obtain ⟨C, T, N, hc, w1, w2, w3⟩ := hv ci t rfl
    obtain ⟨rfl, hty, hnm⟩ := xcls_ok hc
    have ed : ∀ ad2, evC (ev ad2 xs bS) aC (false, ci, xD ci) = .inr (ci, xD ci) := fun ad2 => by show Sum.inr (ci, (xD ci).map (ev ad2 xs bS)) = _; rw [xD_ev]
    obtain ⟨b1, b2, b3⟩ := xnew_go h hwf (fun ad' => (ed ad').trans (ed ad).symm) hl kk
    refine va_new (own := own) (C := C) (T := T) (ci := ci) (fs := xD ci) hx hb hts (hcw ci C T _ hc) (xTy ci) hty hown (hts _ w1) (hts _ w2) (hts _ w3) hK hP hD hS hA hc (fun j hj => xD_at hj) b1 b2 hd (fun q H1 hP1 hD1 hS1 => ?_)
    exact b3 q H1 (by rw [ed]; exact hP1) (by rw [ed]; exact hD1) locs hS1
  · cases h
theorem xw_newa (hx : p.tables.exec = Jvm.exec) (hb : c.code = cc) (hts : ∀ w ∈ Ts, w.before args s = true) (hown : s.vm.findClass own = some m.cls) (hK : va_K D classes (xtys aC) s) (hA : ∀ q, s.heap.size ≤ q → A q)
    {a : ArrayType} {aux : List Nat} {init : Bool} (hv : xvh Ts own init (.newarray a) aux) {lv : XL} {st st' : List Value} {σ σ' : XS} (hwf : xal σ.2.2.1 lv st σ.2.1 = true) (h : xnewa R aux lv st σ = some (st', σ'))
    (hP : va_P D classes (evH (ev ad xs bS) ad aC σ.2.1) H) (hD : va_D A (evH (ev ad xs bS) ad aC σ.2.1)) (hS : va_S A s.heap H locs) (hl : lv_has ls nL (evL (ev ad xs bS) lv)) (hd : decode cc pc = .ok (.newarray a, 2))
    (kk : xgo p l e R s m args below meth c Q ad xs bS aC D A lv σ.2.2.1 (pc + 2) ls st' σ' nL) : W p l e R s m args below meth c H locs σ.2.2.2.1 σ.2.2.2.2 Q (F0 m pc ls (evS (ev ad xs bS) st)) := by
  unfold xnewa at h
  split at h
  · rename_i ti t n r
    obtain ⟨ht2, hty, w1⟩ := hv ti t rfl
    cases h1 : decide (n < 0) with
    | true => rw [h1] at h; cases h
    | false =>
      rw [h1] at h
      cases h2 : Nat.ble n.toNatClampNeg 1000 with
      | false => rw [h2] at h; cases h
      | true =>
        rw [h2] at h
        have hn : ¬ n < 0 := of_decide_eq_false h1
        have hle := Nat.le_of_ble_eq_true h2
        have h : xnew R lv r σ (true, ti, List.replicate n.toNatClampNeg (xdv ti)) n.toNatClampNeg = some (st', σ') := h
        have ed : ∀ ad2, vp_cell (aC ti) (evA (ev ad2 xs bS) ti (List.replicate n.toNatClampNeg (xdv ti))) = arrV (aC ti) n.toNatClampNeg (fun _ => defaultValue (xty ti)) := fun ad2 => evA_rep _ _
        have ee : ∀ ad2, evC (ev ad2 xs bS) aC (true, ti, List.replicate n.toNatClampNeg (xdv ti)) = evC (ev ad xs bS) aC (true, ti, List.replicate n.toNatClampNeg (xdv ti)) := fun ad2 =>
          evC_congr (fun v hv => by rw [List.eq_of_mem_replicate hv]; unfold xdv; split <;> rfl) rfl rfl rfl
        obtain ⟨b1, b2, b3⟩ := xnew_go h (xal_tail hwf) ee hl kk
        refine va_newa (atype := a) (ty := xty ti) hx hb (hts _ w1) hty hK hP hD hS hA (a0 := evA (ev ad xs bS) ti (List.replicate n.toNatClampNeg (xdv ti))) (fun cA => evA_rep _ _) hn rfl (xcomp hle) b1 b2 hd (fun q cA H1 hK1 hP1 hD1 hS1 => ?_)
        have g1 : ((xtys aC) ++ [(cA, xty ti)])[ti]? = some (aC ti, xty ti) := by
          rw [List.getElem?_append_left (by show ti < 9; omega)]
          exact xtys_get aC (by omega)
        have g2 : ((xtys aC) ++ [(cA, xty ti)])[9]? = some (cA, xty ti) := rfl
        have ec : cA = aC ti := xRA_inj (hK1.2 _ _ g2).2 (hK1.2 _ _ g1).2
        subst ec
        exact b3 q H1 hP1 hD1 locs hS1
  · cases h
theorem xw_newq (hx : p.tables.exec = Jvm.exec) (hb : c.code = cc) (hts : ∀ w ∈ Ts, w.before args s = true) (hown : s.vm.findClass own = some m.cls) (hK : va_K D classes (xtys aC) s) (hA : ∀ q, s.heap.size ≤ q → A q) (hAO : ∀ ti C, ti ≤ 5 → xty ti = .object C → va_AO C s) (hAA : ∀ ty, (ty = .array .int ∨ ty = .array .boolean ∨ ty = .array (.array .int)) → (Jvm.Cond.arrayOver ty).before args s = true)
    {idx : Nat} {aux : List Nat} {init : Bool} (hv : xvh Ts own init (.anewarray idx) aux) {lv : XL} {st st' : List Value} {σ σ' : XS} (hwf : xal σ.2.2.1 lv st σ.2.1 = true) (h : xnewa R aux lv st σ = some (st', σ'))
    (hP : va_P D classes (evH (ev ad xs bS) ad aC σ.2.1) H) (hD : va_D A (evH (ev ad xs bS) ad aC σ.2.1)) (hS : va_S A s.heap H locs) (hl : lv_has ls nL (evL (ev ad xs bS) lv)) (hd : decode cc pc = .ok (.anewarray idx, 3))
    (kk : xgo p l e R s m args below meth c Q ad xs bS aC D A lv σ.2.2.1 (pc + 3) ls st' σ' nL) : W p l e R s m args below meth c H locs σ.2.2.2.1 σ.2.2.2.2 Q (F0 m pc ls (evS (ev ad xs bS) st)) := by
  unfold xnewa at h
  split at h
  · rename_i ti t n r
    cases h1 : decide (n < 0) with
    | true => rw [h1] at h; cases h
    | false =>
      rw [h1] at h
      cases h2 : Nat.ble n.toNatClampNeg 1000 with
      | false => rw [h2] at h; cases h
      | true =>
        rw [h2] at h
        have hn : ¬ n < 0 := of_decide_eq_false h1
        have hle := Nat.le_of_ble_eq_true h2
        have h : xnew R lv r σ (true, ti, List.replicate n.toNatClampNeg (xdv ti)) n.toNatClampNeg = some (st', σ') := h
        have ht3 : 3 ≤ ti := by
          rcases hv ti t rfl with ⟨a, -⟩ | ⟨a, -⟩ <;> omega
        have ed : ∀ ad2, evC (ev ad2 xs bS) aC (true, ti, List.replicate n.toNatClampNeg (xdv ti)) = .inl (aC ti, n.toNatClampNeg, .inr (.inr (.inr (.inr (fun _ => none))))) := fun ad2 => by
          show Sum.inl (aC ti, evA (ev ad2 xs bS) ti _) = _
          rw [evA_repq ht3]
        obtain ⟨b1, b2, b3⟩ := xnew_go h (xal_tail hwf) (fun ad' => (ed ad').trans (ed ad).symm) hl kk
        rcases hv ti t rfl with ⟨-, ht5, C, hC, w1⟩ | ⟨rfl, w1⟩
        · refine va_newq (own := own) (C := C) hx hb hown (hts _ w1) (hAO ti C ht5 hC) hK hP hD hS hA hn rfl (by omega) b1 b2 hd (fun q cA H1 hK1 hP1 hD1 hS1 => ?_)
          have g1 : ((xtys aC) ++ [(cA, FieldType.object C)])[ti]? = some (aC ti, .object C) := by
            rw [List.getElem?_append_left (by show ti < 9; omega), xtys_get aC (by omega), hC]
          have g2 : ((xtys aC) ++ [(cA, FieldType.object C)])[9]? = some (cA, .object C) := rfl
          have ec : cA = aC ti := xRA_inj (hK1.2 _ _ g2).2 (hK1.2 _ _ g1).2
          subst ec
          exact b3 q H1 (by rw [ed]; exact hP1) (by rw [ed]; exact hD1) locs hS1
        · refine W.anewA (own := own) (t := .int) hx hb hown (hts _ w1) (hAA _ (Or.inl rfl)) rfl hd rfl hn (by omega) b1 b2 (fun cA kA comp f1 f2 f3 f4 => ?_)
          have ec : cA = aC 6 := xRA_inj (ty := .array .int) f1 (hK.2 6 _ (xtys_get aC (by omega))).2
          subst ec
          generalize hH1 : H.push ({ cls := aC 6, slots := Array.replicate n.toNatClampNeg .null, vm := .none } : Cell) = H1
          have z1 : H1.size = H.size + 1 := by rw [← hH1, Array.size_push]
          have e1 : H1[H.size]? = some (arrV (aC 6) n.toNatClampNeg (fun _ => .null)) := by rw [← hH1, Array.getElem?_push_size, ← arrV_new]
          have o1 : ∀ q : Nat, q < H.size → H1[q]? = H[q]? := fun q hq => by rw [← hH1, Array.getElem?_push, if_neg (Nat.ne_of_lt hq)]
          have hk : ∀ (k : Nat) (x : Nat × va_E), (evH (ev ad xs bS) ad aC σ.2.1)[k]? = some x → H1[x.1]? = H[x.1]? := fun k x hx => o1 x.1 ((hP k x hx).lt)
          refine b3 H.size H1 ((hP.kept hk).app (fun k x hx => ?_)) (hD.push hP rfl (hA _ hS.1)) locs ⟨Nat.le_trans hS.1 (by omega), fun x h1 h2 => (o1 x (Nat.lt_of_lt_of_le h1 hS.1)).trans (hS.2.1 x h1 h2), hS.2.2⟩
          have hz : k < 1 := (List.getElem?_eq_some_iff.mp hx).1
          rw [show k = 0 by omega] at hx
          cases hx
          rw [ed]
          show H1[H.size]? = some (vp_cell _ _)
          rw [vp_cell_q]
          exact e1
  · cases h
end XM
