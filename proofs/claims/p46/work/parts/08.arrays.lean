section XO
variable {p : Program} {l : Launch} {e : Env} {R : Room} {s : State} {m : MethodId} {args : Array Value} {below : List Frame} {meth : Method} {c : Code} {H : Heap} {locs : List Loc} {Q : State → Prop}
variable {cc : ByteArray} {pc nL : Nat} {ls : Array Slot} {ad : Nat → Nat} {xs : Nat → Int32} {bS : Nat} {aC : Nat → ClassId} {D : va_G} {A : Nat → Prop} {own : String} {Ts : List Jvm.Cond}
theorem xw_m2 (hx : p.tables.exec = Jvm.exec) (hb : c.code = cc) (hts : ∀ w ∈ Ts, w.before args s = true) (hown : s.vm.findClass own = some m.cls) (hAA : ∀ ty, (ty = .array .int ∨ ty = .array .boolean ∨ ty = .array (.array .int)) → (Jvm.Cond.arrayOver ty).before args s = true)
    {idx : Nat} {aux : List Nat} {init : Bool} (hv : xvh Ts own init (.multianewarray idx 2) aux) {lv : XL} {st st' : List Value} {σ σ' : XS} (h : xnewm2 R lv st σ = some (st', σ'))
    (hP : va_P D classes (evH (ev ad xs bS) ad aC σ.2.1) H) (hD : va_D A (evH (ev ad xs bS) ad aC σ.2.1)) (hS : va_S A s.heap H locs) (hl : lv_has ls nL (evL (ev ad xs bS) lv)) (hd : decode cc pc = .ok (.multianewarray idx 2, 4))
    (kk : xgo p l e R s m args below meth c Q ad xs bS aC D A lv σ.2.2.1 (pc + 4) ls st' σ' nL) : W p l e R s m args below meth c H locs σ.2.2.2.1 σ.2.2.2.2 Q (F0 m pc ls (evS (ev ad xs bS) st)) := by
  unfold xnewm2 at h
  split at h
  · rename_i k n r
    cases h1 : (decide (k < 0) || decide (n < 0)) with
    | true => rw [h1] at h; cases h
    | false =>
      rw [h1] at h
      cases h2 : (Nat.ble k.toNatClampNeg 1000 && Nat.ble n.toNatClampNeg 1000) with
      | false => rw [h2] at h; cases h
      | true =>
        rw [h2] at h
        rw [Bool.or_eq_false_iff] at h1
        rw [Bool.and_eq_true] at h2
        have hk : ¬ k < 0 := of_decide_eq_false h1.1
        have hn : ¬ n < 0 := of_decide_eq_false h1.2
        have lk := Nat.le_of_ble_eq_true h2.1
        have ln := Nat.le_of_ble_eq_true h2.2
        have h : xkeep R lv r σ (1 + n.toNatClampNeg) (n.toNatClampNeg + n.toNatClampNeg * k.toNatClampNeg) = some (st', σ') := h
        obtain ⟨ty, w1, hty, w2, -⟩ := hv
        obtain ⟨b1, b2, b3⟩ := xkeep_go h hl kk hP hD hS
        refine xg_m2 (own := own) (ty := ty) hx hb hown (hts _ (w2 rfl)) ?_ (hts _ w1) hn hk (by omega) ?_ (by omega) ?_ ?_ b1 b2 hd (fun q H1 z1 z2 => ?_)
        · rcases hty with rfl | ⟨rfl, -⟩
          · exact hAA _ (Or.inl rfl)
          · exact hAA _ (Or.inr (Or.inl rfl))
        · rcases hty with rfl | ⟨rfl, -⟩
          · show k.toNatClampNeg * 4 ≤ 536870912; omega
          · show k.toNatClampNeg * 1 ≤ 536870912; omega
        · rcases hty with rfl | ⟨rfl, -⟩ <;> rfl
        · rcases hty with rfl | ⟨rfl, -⟩ <;> rfl
        · have := b3 q H1 z1 z2
          rw [← Nat.add_assoc, ← Nat.add_assoc] at this
          exact this
  · cases h
theorem xw_m3 (hx : p.tables.exec = Jvm.exec) (hb : c.code = cc) (hts : ∀ w ∈ Ts, w.before args s = true) (hown : s.vm.findClass own = some m.cls) (hAA : ∀ ty, (ty = .array .int ∨ ty = .array .boolean ∨ ty = .array (.array .int)) → (Jvm.Cond.arrayOver ty).before args s = true)
    {idx : Nat} {aux : List Nat} {init : Bool} (hv : xvh Ts own init (.multianewarray idx 3) aux) {lv : XL} {st st' : List Value} {σ σ' : XS} (h : xnewm3 R lv st σ = some (st', σ'))
    (hP : va_P D classes (evH (ev ad xs bS) ad aC σ.2.1) H) (hD : va_D A (evH (ev ad xs bS) ad aC σ.2.1)) (hS : va_S A s.heap H locs) (hl : lv_has ls nL (evL (ev ad xs bS) lv)) (hd : decode cc pc = .ok (.multianewarray idx 3, 4))
    (kk : xgo p l e R s m args below meth c Q ad xs bS aC D A lv σ.2.2.1 (pc + 4) ls st' σ' nL) : W p l e R s m args below meth c H locs σ.2.2.2.1 σ.2.2.2.2 Q (F0 m pc ls (evS (ev ad xs bS) st)) := by
  unfold xnewm3 at h
  split at h
  · rename_i r3 k n r
    cases h1 : (decide (r3 < 0) || (decide (k < 0) || decide (n < 0))) with
    | true => rw [h1] at h; cases h
    | false =>
      rw [h1] at h
      cases h2 : (Nat.ble r3.toNatClampNeg 1000 && (Nat.ble k.toNatClampNeg 1000 && Nat.ble n.toNatClampNeg 1000)) with
      | false => rw [h2] at h; cases h
      | true =>
        rw [h2] at h
        simp only [Bool.or_eq_false_iff] at h1
        simp only [Bool.and_eq_true] at h2
        have hr3 : ¬ r3 < 0 := of_decide_eq_false h1.1
        have hk : ¬ k < 0 := of_decide_eq_false h1.2.1
        have hn : ¬ n < 0 := of_decide_eq_false h1.2.2
        have l3 := Nat.le_of_ble_eq_true h2.1
        have lk := Nat.le_of_ble_eq_true h2.2.1
        have ln := Nat.le_of_ble_eq_true h2.2.2
        have h : xkeep R lv r σ (1 + n.toNatClampNeg * (1 + k.toNatClampNeg)) (n.toNatClampNeg + n.toNatClampNeg * (k.toNatClampNeg + k.toNatClampNeg * r3.toNatClampNeg)) = some (st', σ') := h
        obtain ⟨ty, w1, hty, -, w2⟩ := hv
        obtain rfl : ty = .int := by
          rcases hty with rfl | ⟨rfl, z⟩
          · rfl
          · exact absurd z (by decide)
        obtain ⟨b1, b2, b3⟩ := xkeep_go h hl kk hP hD hS
        refine xg_m3 (own := own) (ty := .int) hx hb hown (hts _ (w2 rfl)) (hAA _ (Or.inr (Or.inr rfl))) (hAA _ (Or.inl rfl)) (hts _ w1) (by decide +kernel) hn hk hr3 (by omega) (by omega) (by show r3.toNatClampNeg * 4 ≤ 536870912; omega) (by omega) rfl rfl b1 b2 hd (fun q H1 z1 z2 => ?_)
        have := b3 q H1 z1 z2
        rw [← Nat.add_assoc, ← Nat.add_assoc] at this
        exact this
  · cases h
theorem xw_len (hx : p.tables.exec = Jvm.exec) (hb : c.code = cc) (hK : va_K D classes (xtys aC) s) {scr : Option Nat} (hX : ∀ L, scr = some L → va_X bS L xs s s.heap ∧ bS < s.heap.size ∧ ¬ A bS)
    {lv : XL} {st st' : List Value} {σ σ' : XS} (h : xlen scr st σ = some (st', σ'))
    (hP : va_P D classes (evH (ev ad xs bS) ad aC σ.2.1) H) (hD : va_D A (evH (ev ad xs bS) ad aC σ.2.1)) (hS : va_S A s.heap H locs) (hl : lv_has ls nL (evL (ev ad xs bS) lv)) (hd : decode cc pc = .ok (.arraylength, 1))
    (kk : xgo p l e R s m args below meth c Q ad xs bS aC D A lv σ.2.2.1 (pc + 1) ls st' σ' nL) : W p l e R s m args below meth c H locs σ.2.2.2.1 σ.2.2.2.2 Q (F0 m pc ls (evS (ev ad xs bS) st)) := by
  unfold xlen at h
  split at h
  · rename_i o r
    split at h
    · rename_i ti vs hk
      cases h1 : Nat.ble ti 5 with
      | false => rw [h1] at h; cases h
      | true =>
        rw [h1] at h
        obtain ⟨rfl, rfl⟩ := Prod.mk.inj (Option.some.inj h)
        obtain ⟨q0, hq, -⟩ := xhk_get (E := ev ad xs bS) (ad := ad) (aC := aC) hk
        refine va_alen hx hb hK hP q0 ti (x := evA (ev ad xs bS) ti vs) hq (xtys_get aC (Nat.le_of_ble_eq_true h1)) (v := Int32.ofNat vs.length) (by rw [evA_len]) hd ?_
        exact kk ad H locs (fun _ _ => rfl) (Nat.le_refl _) hP hD hS hl
    · cases h
  · split at h
    · rename_i L
      obtain ⟨rfl, rfl⟩ := Prod.mk.inj (Option.some.inj h)
      obtain ⟨x1, x2, x3⟩ := hX L rfl
      exact va_slen hx hb x1 x2 x3 hS hd (kk ad H locs (fun _ _ => rfl) (Nat.le_refl _) hP hD hS hl)
    · cases h
  · cases h
theorem xw_aldq (hx : p.tables.exec = Jvm.exec) (hb : c.code = cc) (hK : va_K D classes (xtys aC) s)
    {lv : XL} {st st' : List Value} {σ σ' : XS} (h : xald xref (fun ti => Nat.ble 3 ti && Nat.ble ti 5) st σ = some (st', σ'))
    (hP : va_P D classes (evH (ev ad xs bS) ad aC σ.2.1) H) (hD : va_D A (evH (ev ad xs bS) ad aC σ.2.1)) (hS : va_S A s.heap H locs) (hl : lv_has ls nL (evL (ev ad xs bS) lv)) (hd : decode cc pc = .ok (.aaload, 1))
    (kk : xgo p l e R s m args below meth c Q ad xs bS aC D A lv σ.2.2.1 (pc + 1) ls st' σ' nL) : W p l e R s m args below meth c H locs σ.2.2.2.1 σ.2.2.2.2 Q (F0 m pc ls (evS (ev ad xs bS) st)) := by
  obtain ⟨i, o, r, ti, vs, j, v, rfl, hk, ht, hj, hv, hok, hq⟩ := xald_spec h
  obtain ⟨rfl, rfl⟩ := Prod.mk.inj hq
  rw [Bool.and_eq_true] at ht
  have h3 := Nat.le_of_ble_eq_true ht.1
  have h5 := Nat.le_of_ble_eq_true ht.2
  obtain ⟨h1, h2, -⟩ := xix_spec hj
  obtain ⟨q0, hq, -⟩ := xhk_get (E := ev ad xs bS) (ad := ad) (aC := aC) hk
  obtain ⟨C, hC⟩ := xty_obj h3
  have ht9 := xtys_get aC h5
  rw [hC] at ht9
  have hA9 : evA (ev ad xs bS) ti vs = (vs.length, .inr (.inr (.inr (.inr (fun j => evR (ev ad xs bS (vs.getD j .null))))))) := by
    match ti, h3 with
    | k + 3, _ => rfl
  have hq9 : (evH (ev ad xs bS) ad aC σ'.2.1)[q0]? = some (ad o, .inl (aC ti, vs.length, .inr (.inr (.inr (.inr (fun j => evR (ev ad xs bS (vs.getD j .null)))))))) := by
    rw [hq]; show some (ad o, Sum.inl (aC ti, evA (ev ad xs bS) ti vs)) = _; rw [hA9]
  refine va_aldq hx hb hK hP q0 ti (C := C) hq9 ht9 h1 hd ?_
  have e1 : va_rf (evR (ev ad xs bS (vs.getD i.toNatClampNeg .null))) = ev ad xs bS v := by
    rw [h2, getD_at hv]
    rcases xref_ev (ad := ad) (xs := xs) (bS := bS) hok with e | ⟨a, e⟩ <;> rw [e] <;> rfl
  show W p l e R s m args below meth c H locs σ'.2.2.2.1 σ'.2.2.2.2 Q (F0 m (pc + 1) ls (va_rf (evR (ev ad xs bS (vs.getD i.toNatClampNeg .null))) :: evS (ev ad xs bS) r))
  rw [e1]
  exact kk ad H locs (fun _ _ => rfl) (Nat.le_refl _) hP hD hS hl
theorem xw_lald (hx : p.tables.exec = Jvm.exec) (hb : c.code = cc) (hK : va_K D classes (xtys aC) s)
    {lv : XL} {st st' : List Value} {σ σ' : XS} (h : xald xlong (fun ti => Nat.beq ti 2) st σ = some (st', σ'))
    (hP : va_P D classes (evH (ev ad xs bS) ad aC σ.2.1) H) (hD : va_D A (evH (ev ad xs bS) ad aC σ.2.1)) (hS : va_S A s.heap H locs) (hl : lv_has ls nL (evL (ev ad xs bS) lv)) (hd : decode cc pc = .ok (.laload, 1))
    (kk : xgo p l e R s m args below meth c Q ad xs bS aC D A lv σ.2.2.1 (pc + 1) ls st' σ' nL) : W p l e R s m args below meth c H locs σ.2.2.2.1 σ.2.2.2.2 Q (F0 m pc ls (evS (ev ad xs bS) st)) := by
  obtain ⟨i, o, r, ti, vs, j, v, rfl, hk, ht, hj, hv, hok, hq⟩ := xald_spec h
  obtain ⟨rfl, rfl⟩ := Prod.mk.inj hq
  have ht := Nat.eq_of_beq_eq_true ht
  subst ht
  obtain ⟨h1, h2, -⟩ := xix_spec hj
  obtain ⟨q0, hq, -⟩ := xhk_get (E := ev ad xs bS) (ad := ad) (aC := aC) hk
  refine va_lald hx hb hK hP q0 2 hq (xtys_get aC (by omega)) h1 hd ?_
  have e1 : Value.long (evG (ev ad xs bS (vs.getD i.toNatClampNeg (.long 0)))) = ev ad xs bS v := by
    rw [h2, getD_at hv]
    obtain ⟨a, e⟩ := xlong_ev (ad := ad) (xs := xs) (bS := bS) hok
    rw [e]; rfl
  show W p l e R s m args below meth c H locs σ'.2.2.2.1 σ'.2.2.2.2 Q (F0 m (pc + 1) ls (Value.long (evG (ev ad xs bS (vs.getD i.toNatClampNeg (.long 0)))) :: evS (ev ad xs bS) r))
  rw [e1]
  exact kk ad H locs (fun _ _ => rfl) (Nat.le_refl _) hP hD hS hl
theorem xw_ild (hx : p.tables.exec = Jvm.exec) (hb : c.code = cc) (hK : va_K D classes (xtys aC) s) {scr : Option Nat} (hX : ∀ L, scr = some L → va_X bS L xs s s.heap ∧ bS < s.heap.size ∧ ¬ A bS)
    {lv : XL} {st st' : List Value} {σ σ' : XS} (h : xild scr st σ = some (st', σ'))
    (hP : va_P D classes (evH (ev ad xs bS) ad aC σ.2.1) H) (hD : va_D A (evH (ev ad xs bS) ad aC σ.2.1)) (hS : va_S A s.heap H locs) (hl : lv_has ls nL (evL (ev ad xs bS) lv)) (hd : decode cc pc = .ok (.iaload, 1))
    (kk : xgo p l e R s m args below meth c Q ad xs bS aC D A lv σ.2.2.1 (pc + 1) ls st' σ' nL) : W p l e R s m args below meth c H locs σ.2.2.2.1 σ.2.2.2.2 Q (F0 m pc ls (evS (ev ad xs bS) st)) := by
  unfold xild at h
  split at h
  · rename_i i a r
    split at h
    · rename_i L
      split at h
      · rename_i j hj
        cases h8 : Nat.ble j 8 with
        | false => rw [h8] at h; cases h
        | true =>
          rw [h8] at h
          obtain ⟨rfl, rfl⟩ := Prod.mk.inj (Option.some.inj h)
          obtain ⟨x1, x2, x3⟩ := hX L rfl
          obtain ⟨h1, h2, -⟩ := xix_spec hj
          have h8 := Nat.le_of_ble_eq_true h8
          refine va_sld hx hb x1 x2 x3 hS h1 hd ?_
          have e1 : ev ad xs bS (.float (UInt32.ofNat j)) = .int (xs i.toNatClampNeg) := by
            show Value.int (xs (UInt32.ofNat j).toNat) = _
            have e2 : (UInt32.ofNat j).toNat = j := by
              first
                | exact UInt32.toNat_ofNat_of_lt' (by omega)
                | (rw [UInt32.toNat_ofNat']; exact Nat.mod_eq_of_lt (by omega))
            rw [e2, h2]
          have := kk ad H locs (fun _ _ => rfl) (Nat.le_refl _) hP hD hS hl
          have e3 : evS (ev ad xs bS) (.float (UInt32.ofNat j) :: r) = .int (xs i.toNatClampNeg) :: evS (ev ad xs bS) r := by
            show ev ad xs bS _ :: _ = _
            rw [e1]; rfl
          rw [e3] at this
          exact this
      · cases h
    · cases h
  · obtain ⟨i, o, r, ti, vs, j, v, rfl, hk, ht, hj, hv, hok, hq⟩ := xald_spec h
    obtain ⟨rfl, rfl⟩ := Prod.mk.inj hq
    have ht := Nat.eq_of_beq_eq_true ht
    subst ht
    obtain ⟨h1, h2, -⟩ := xix_spec hj
    obtain ⟨q0, hq, -⟩ := xhk_get (E := ev ad xs bS) (ad := ad) (aC := aC) hk
    refine va_iald hx hb hK hP q0 0 hq (xtys_get aC (by omega)) h1 hd ?_
    have e1 : Value.int (evI (ev ad xs bS (vs.getD i.toNatClampNeg (.int 0)))) = ev ad xs bS v := by
      rw [h2, getD_at hv]
      obtain ⟨a, e⟩ := xint_ev (ad := ad) (xs := xs) (bS := bS) hok
      rw [e]; rfl
    show W p l e R s m args below meth c H locs σ'.2.2.2.1 σ'.2.2.2.2 Q (F0 m (pc + 1) ls (Value.int (evI (ev ad xs bS (vs.getD i.toNatClampNeg (.int 0)))) :: evS (ev ad xs bS) r))
    rw [e1]
    exact kk ad H locs (fun _ _ => rfl) (Nat.le_refl _) hP hD hS hl
theorem xw_iast (hx : p.tables.exec = Jvm.exec) (hb : c.code = cc) (hK : va_K D classes (xtys aC) s)
    {lv : XL} {st st' : List Value} {σ σ' : XS} (h : xast xint (fun ti => Nat.beq ti 0) st σ = some (st', σ'))
    (hP : va_P D classes (evH (ev ad xs bS) ad aC σ.2.1) H) (hD : va_D A (evH (ev ad xs bS) ad aC σ.2.1)) (hS : va_S A s.heap H locs) (hl : lv_has ls nL (evL (ev ad xs bS) lv)) (hd : decode cc pc = .ok (.iastore, 1))
    (kk : xgo p l e R s m args below meth c Q ad xs bS aC D A lv σ.2.2.1 (pc + 1) ls st' σ' nL) : W p l e R s m args below meth c H locs σ.2.2.2.1 σ.2.2.2.2 Q (F0 m pc ls (evS (ev ad xs bS) st)) := by
  obtain ⟨v, i, o, r, ti, vs, j, rfl, hk, ht, hok, hj, hq⟩ := xast_spec h
  obtain ⟨rfl, rfl⟩ := Prod.mk.inj hq
  have ht := Nat.eq_of_beq_eq_true ht
  subst ht
  obtain ⟨h1, h2, h3⟩ := xix_spec hj
  obtain ⟨q0, hq, hset⟩ := xhk_get (E := ev ad xs bS) (ad := ad) (aC := aC) hk
  obtain ⟨x, hxv⟩ := xint_ev (ad := ad) (xs := xs) (bS := bS) hok
  have e1 : evA (ev ad xs bS) 0 (vs.set j v) = (vs.length, .inl (upd (fun k => evI (ev ad xs bS (vs.getD k (.int 0)))) i.toNatClampNeg x)) := by
    show ((vs.set j v).length, Sum.inl (fun k => evI (ev ad xs bS ((vs.set j v).getD k (.int 0))))) = _
    rw [List.length_set]
    refine congrArg (fun z => (vs.length, Sum.inl z)) (funext fun k => ?_)
    show evI (ev ad xs bS ((vs.set j v).getD k (.int 0))) = upd _ _ _ k
    rw [getD_put v _ h3, h2]
    unfold upd
    by_cases hkj : k = j
    · rw [if_pos hkj, if_pos hkj, hxv]; rfl
    · rw [if_neg hkj, if_neg hkj]
  show W p l e R s m args below meth c H locs _ _ Q (F0 m pc ls (ev ad xs bS v :: .int i :: .ref (ad o) :: evS (ev ad xs bS) st'))
  rw [hxv]
  refine va_iast hx hb hK hP hD hS q0 0 hq (xtys_get aC (by omega)) h1 hd (fun H1 locs1 p1 d1 s1 => ?_)
  have e2 : (evH (ev ad xs bS) ad aC σ.2.1).set q0 (ad o, .inl (aC 0, vs.length, .inl (upd (fun k => evI (ev ad xs bS (vs.getD k (.int 0)))) i.toNatClampNeg x))) = evH (ev ad xs bS) ad aC (xhs σ.2.1 o (true, 0, vs.set j v)) := by
    rw [← hset (true, 0, vs.set j v)]
    show _ = (evH (ev ad xs bS) ad aC σ.2.1).set q0 (ad o, .inl (aC 0, evA (ev ad xs bS) 0 (vs.set j v)))
    rw [e1]
  exact kk ad H1 locs1 (fun _ _ => rfl) (Nat.le_refl _) (by dsimp only; rw [← e2]; exact p1) (by dsimp only; rw [← e2]; exact d1) s1 hl
theorem xw_last (hx : p.tables.exec = Jvm.exec) (hb : c.code = cc) (hK : va_K D classes (xtys aC) s)
    {lv : XL} {st st' : List Value} {σ σ' : XS} (h : xast xlong (fun ti => Nat.beq ti 2) st σ = some (st', σ'))
    (hP : va_P D classes (evH (ev ad xs bS) ad aC σ.2.1) H) (hD : va_D A (evH (ev ad xs bS) ad aC σ.2.1)) (hS : va_S A s.heap H locs) (hl : lv_has ls nL (evL (ev ad xs bS) lv)) (hd : decode cc pc = .ok (.lastore, 1))
    (kk : xgo p l e R s m args below meth c Q ad xs bS aC D A lv σ.2.2.1 (pc + 1) ls st' σ' nL) : W p l e R s m args below meth c H locs σ.2.2.2.1 σ.2.2.2.2 Q (F0 m pc ls (evS (ev ad xs bS) st)) := by
  obtain ⟨v, i, o, r, ti, vs, j, rfl, hk, ht, hok, hj, hq⟩ := xast_spec h
  obtain ⟨rfl, rfl⟩ := Prod.mk.inj hq
  have ht := Nat.eq_of_beq_eq_true ht
  subst ht
  obtain ⟨h1, h2, h3⟩ := xix_spec hj
  obtain ⟨q0, hq, hset⟩ := xhk_get (E := ev ad xs bS) (ad := ad) (aC := aC) hk
  obtain ⟨x, hxv⟩ := xlong_ev (ad := ad) (xs := xs) (bS := bS) hok
  have e1 : evA (ev ad xs bS) 2 (vs.set j v) = (vs.length, .inr (.inl (vp_updL (fun k => evG (ev ad xs bS (vs.getD k (.long 0)))) i.toNatClampNeg x))) := by
    show ((vs.set j v).length, Sum.inr (Sum.inl (fun k => evG (ev ad xs bS ((vs.set j v).getD k (.long 0)))))) = _
    rw [List.length_set]
    refine congrArg (fun z => (vs.length, Sum.inr (Sum.inl z))) (funext fun k => ?_)
    show evG (ev ad xs bS ((vs.set j v).getD k (.long 0))) = vp_updL _ _ _ k
    rw [getD_put v _ h3, h2]
    unfold vp_updL
    by_cases hkj : k = j
    · rw [if_pos hkj, if_pos hkj, hxv]; rfl
    · rw [if_neg hkj, if_neg hkj]
  show W p l e R s m args below meth c H locs _ _ Q (F0 m pc ls (ev ad xs bS v :: .int i :: .ref (ad o) :: evS (ev ad xs bS) st'))
  rw [hxv]
  refine va_last hx hb hK hP hD hS q0 2 hq (xtys_get aC (by omega)) h1 hd (fun H1 locs1 p1 d1 s1 => ?_)
  have e2 : (evH (ev ad xs bS) ad aC σ.2.1).set q0 (ad o, .inl (aC 2, vs.length, .inr (.inl (vp_updL (fun k => evG (ev ad xs bS (vs.getD k (.long 0)))) i.toNatClampNeg x)))) = evH (ev ad xs bS) ad aC (xhs σ.2.1 o (true, 2, vs.set j v)) := by
    rw [← hset (true, 2, vs.set j v)]
    show _ = (evH (ev ad xs bS) ad aC σ.2.1).set q0 (ad o, .inl (aC 2, evA (ev ad xs bS) 2 (vs.set j v)))
    rw [e1]
  exact kk ad H1 locs1 (fun _ _ => rfl) (Nat.le_refl _) (by dsimp only; rw [← e2]; exact p1) (by dsimp only; rw [← e2]; exact d1) s1 hl
/-- an array of references behind a store -/
theorem evA_putq {ti : Nat} (h3 : 3 ≤ ti) {vs : List Value} {j : Nat} {v : Value} {x : Option Nat} (hj : j < vs.length) (hxv : evR (ev ad xs bS v) = x) :
    evA (ev ad xs bS) ti (vs.set j v) = (vs.length, .inr (.inr (.inr (.inr (va_up (fun k => evR (ev ad xs bS (vs.getD k .null))) j x))))) := by
  have hA9 : evA (ev ad xs bS) ti (vs.set j v) = ((vs.set j v).length, .inr (.inr (.inr (.inr (fun k => evR (ev ad xs bS ((vs.set j v).getD k .null))))))) := by
    match ti, h3 with
    | k + 3, _ => rfl
  rw [hA9, List.length_set]
  refine congrArg (fun z => (vs.length, Sum.inr (Sum.inr (Sum.inr (Sum.inr z))))) (funext fun k => ?_)
  show evR (ev ad xs bS ((vs.set j v).getD k .null)) = va_up _ _ _ k
  rw [getD_put v _ hj]
  unfold va_up
  by_cases hkj : k = j
  · rw [if_pos hkj, if_pos hkj, hxv]
  · rw [if_neg hkj, if_neg hkj]
theorem xw_asa (hx : p.tables.exec = Jvm.exec) (hb : c.code = cc) (hK : va_K D classes (xtys aC) s)
    {lv : XL} {st st' : List Value} {σ σ' : XS} (h : xasa st σ = some (st', σ'))
    (hP : va_P D classes (evH (ev ad xs bS) ad aC σ.2.1) H) (hD : va_D A (evH (ev ad xs bS) ad aC σ.2.1)) (hS : va_S A s.heap H locs) (hl : lv_has ls nL (evL (ev ad xs bS) lv)) (hd : decode cc pc = .ok (.aastore, 1))
    (kk : xgo p l e R s m args below meth c Q ad xs bS aC D A lv σ.2.2.1 (pc + 1) ls st' σ' nL) : W p l e R s m args below meth c H locs σ.2.2.2.1 σ.2.2.2.2 Q (F0 m pc ls (evS (ev ad xs bS) st)) := by
  unfold xasa at h
  split at h
  · obtain ⟨v, i, o, r, ti, vs, j, hst, hk, ht, hok, hj, hq⟩ := xast_spec h
    obtain ⟨rfl, rfl⟩ := List.cons.inj hst
    obtain ⟨rfl, rfl⟩ := Prod.mk.inj hq
    rw [Bool.and_eq_true] at ht
    have h3 := Nat.le_of_ble_eq_true ht.1
    have h5 := Nat.le_of_ble_eq_true ht.2
    obtain ⟨h1, h2, hjl⟩ := xix_spec hj
    obtain ⟨q0, hq, hset⟩ := xhk_get (E := ev ad xs bS) (ad := ad) (aC := aC) hk
    obtain ⟨C, hC⟩ := xty_obj h3
    have ht9 := xtys_get aC h5
    rw [hC] at ht9
    have hA9 : evA (ev ad xs bS) ti vs = (vs.length, .inr (.inr (.inr (.inr (fun j => evR (ev ad xs bS (vs.getD j .null))))))) := by
      match ti, h3 with
      | k + 3, _ => rfl
    have hq9 : (evH (ev ad xs bS) ad aC σ.2.1)[q0]? = some (ad o, .inl (aC ti, vs.length, .inr (.inr (.inr (.inr (fun j => evR (ev ad xs bS (vs.getD j .null)))))))) := by
      rw [hq]; show some (ad o, Sum.inl (aC ti, evA (ev ad xs bS) ti vs)) = _; rw [hA9]
    refine va_astqN hx hb hK hP hD hS q0 ti (C := C) hq9 ht9 h1 hd (fun H1 locs1 p1 d1 s1 => ?_)
    have e2 : (evH (ev ad xs bS) ad aC σ.2.1).set q0 (ad o, .inl (aC ti, vs.length, .inr (.inr (.inr (.inr (va_up (fun j => evR (ev ad xs bS (vs.getD j .null))) i.toNatClampNeg none)))))) = evH (ev ad xs bS) ad aC (xhs σ.2.1 o (true, ti, vs.set j .null)) := by
      rw [← hset (true, ti, vs.set j .null)]
      show _ = (evH (ev ad xs bS) ad aC σ.2.1).set q0 (ad o, .inl (aC ti, evA (ev ad xs bS) ti (vs.set j .null)))
      rw [evA_putq h3 hjl (x := none) rfl, h2]
    exact kk ad H1 locs1 (fun _ _ => rfl) (Nat.le_refl _) (by dsimp only; rw [← e2]; exact p1) (by dsimp only; rw [← e2]; exact d1) s1 hl
  · rename_i b w2 o2 rr
    split at h
    · rename_i ti2 vs2 ci fs hk1 hk2
      split at h
      · rename_i cj hel
        cases hb9 : Nat.beq ci cj with
        | false => rw [hb9] at h; cases h
        | true =>
            rw [hb9] at h
            simp only [cond_true] at h
            obtain ⟨v, i, o, r, ti, vs, j, hst, hk, ht, hok, hj, hq⟩ := xast_spec h
            obtain ⟨e1, hs1⟩ := List.cons.inj hst
            obtain ⟨e2, hs2⟩ := List.cons.inj hs1
            obtain ⟨e3, hs3⟩ := List.cons.inj hs2
            cases e3
            subst e1; subst e2; subst hs3
            obtain ⟨rfl, rfl⟩ := Prod.mk.inj hq
            have ht := Nat.eq_of_beq_eq_true ht
            subst ht
            have hb9 := Nat.eq_of_beq_eq_true hb9
            subst hb9
            have hel2 : ti2 = 4 ∧ ci = 3 := by
              unfold xel at hel
              split at hel
              · exact ⟨rfl, (Option.some.inj hel).symm⟩
              · cases hel
            obtain ⟨rfl, rfl⟩ := hel2
            obtain ⟨h1, h2, hjl⟩ := xix_spec hj
            obtain ⟨q0, hq, hset⟩ := xhk_get (E := ev ad xs bS) (ad := ad) (aC := aC) hk
            obtain ⟨qk, hqk, -⟩ := xhk_get (E := ev ad xs bS) (ad := ad) (aC := aC) hk2
            have hq9 : (evH (ev ad xs bS) ad aC σ.2.1)[q0]? = some (ad o2, .inl (aC 4, vs.length, .inr (.inr (.inr (.inr (fun j => evR (ev ad xs bS (vs.getD j .null)))))))) := hq
            refine va_astq hx hb hK hP hD hS q0 4 qk 3 (r := ("PackWright$Pack", xT3, 3)) (v := ad b) (vs := fs.map (ev ad xs bS)) hq9 (xtys_get aC (by omega)) hqk rfl h1 hd (fun H1 locs1 p1 d1 s1 => ?_)
            have e2 : (evH (ev ad xs bS) ad aC σ.2.1).set q0 (ad o2, .inl (aC 4, vs.length, .inr (.inr (.inr (.inr (va_up (fun j => evR (ev ad xs bS (vs.getD j .null))) i.toNatClampNeg (some (ad b)))))))) = evH (ev ad xs bS) ad aC (xhs σ.2.1 o2 (true, 4, vs.set j (.ref b))) := by
              rw [← hset (true, 4, vs.set j (.ref b))]
              show _ = (evH (ev ad xs bS) ad aC σ.2.1).set q0 (ad o2, .inl (aC 4, evA (ev ad xs bS) 4 (vs.set j (.ref b))))
              rw [evA_putq (by omega) hjl (x := some (ad b)) rfl, h2]
            exact kk ad H1 locs1 (fun _ _ => rfl) (Nat.le_refl _) (by dsimp only; rw [← e2]; exact p1) (by dsimp only; rw [← e2]; exact d1) s1 hl
      · cases h
    · cases h
  · cases h
end XO
