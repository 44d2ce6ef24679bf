section XB
variable {p : Program} {l : Launch} {e : Env} {R : Room} {s : State} {m : MethodId} {args : Array Value} {below : List Frame} {meth : Method} {c : Code} {H : Heap} {locs : List Loc} {cells slots : Nat} {Q : State → Prop}
variable {cc : ByteArray} {pc nL : Nat} {ls : Array Slot} {ad : Nat → Nat} {xs : Nat → Int32} {bS : Nat} {aC : Nat → ClassId} {D : va_G} {A : Nat → Prop} {own : String} {Ts : List Jvm.Cond}
theorem xheap_ok (hx : p.tables.exec = Jvm.exec) (hb : c.code = cc) (hts : ∀ w ∈ Ts, w.before args s = true) (hcw : ∀ (ci : Nat) (C : String) (T : u_T) (N : Nat), classes[ci]? = some (C, T, N) → ∀ w ∈ u_ws C T N, w ∈ Ts) (hown : s.vm.findClass own = some m.cls) (hK : va_K D classes (xtys aC) s) (hA : ∀ q, s.heap.size ≤ q → A q)
    (hAO : ∀ ti C, ti ≤ 5 → xty ti = .object C → va_AO C s) (hAA : ∀ ty, (ty = .array .int ∨ ty = .array .boolean ∨ ty = .array (.array .int)) → (Jvm.Cond.arrayOver ty).before args s = true)
    {scr : Option (Nat × (Nat → Int32))} (hX : ∀ L ys, scr = some (L, ys) → ys = xs ∧ va_X bS L xs s s.heap ∧ bS < s.heap.size ∧ ¬ A bS) {init : Bool} (hin : init = true → meth.name = "<init>")
    {i : Instr} {aux : List Nat} (hv : xvh Ts own init i aux) {lv : XL} {st st' : List Value} {σ σ' : XS} (hwf : xal σ.2.2.1 lv st σ.2.1 = true) (h : xheap scr R i aux lv st σ = some (st', σ'))
    (hP : va_P D classes (evH (ev ad xs bS) ad aC σ.2.1) H) (hD : va_D A (evH (ev ad xs bS) ad aC σ.2.1)) (hS : va_S A s.heap H locs) (hl : lv_has ls nL (evL (ev ad xs bS) lv)) (hd : decode cc pc = .ok (i, ilen i))
    (kk : xgo p l e R s m args below meth c Q ad xs bS aC D A lv σ.2.2.1 (pc + ilen i) ls st' σ' nL) : W p l e R s m args below meth c H locs σ.2.2.2.1 σ.2.2.2.2 Q (F0 m pc ls (evS (ev ad xs bS) st)) := by
  unfold xheap at h
  split at h
  · exact xw_get hx hb hts hcw hown hK hv h hP hD hS hl hd kk
  · exact xw_put hx hb hts hcw hown hK hin hv h hP hD hS hl hd kk
  · exact xw_newo hx hb hts hcw hown hK hA hv hwf h hP hD hS hl hd kk
  · exact xw_newa hx hb hts hown hK hA hv hwf h hP hD hS hl hd kk
  · exact xw_newq hx hb hts hown hK hA hAO hAA hv hwf h hP hD hS hl hd kk
  · rename_i idx d
    cases h2 : Nat.beq d 2 with
    | true =>
      have e2 := Nat.eq_of_beq_eq_true h2
      subst e2
      exact xw_m2 hx hb hts hown hK hA hAA hv hwf h hP hD hS hl hd kk
    | false =>
      rw [h2] at h
      cases h3 : Nat.beq d 3 with
      | true =>
        rw [h3] at h
        have e2 := Nat.eq_of_beq_eq_true h3
        subst e2
        exact xw_m3 hx hb hts hown hK hA hAA hv hwf h hP hD hS hl hd kk
      | false => rw [h3] at h; cases h
  · exact xw_len hx hb hK hX h hP hD hS hl hd kk
  · exact xw_ild hx hb hK hX h hP hD hS hl hd kk
  · exact xw_zald hx hb hK h hP hD hS hl hd kk
  · exact xw_aldq hx hb hK h hP hD hS hl hd kk
  · exact xw_iast hx hb hK h hP hD hS hl hd kk
  · exact xw_zast hx hb hK h hP hD hS hl hd kk
  · exact xw_asa hx hb hK hAA h hP hD hS hl hd kk
  · cases h
/-! branches -/
def xsat (xs : Nat → Int32) (pe : XP) : Prop := ∀ (i : Nat) (q : Int × Int), pe[i]? = some q → q.1 ≤ (xs i).toInt ∧ (xs i).toInt ≤ q.2
theorem xpset_eq : ∀ (l : XP) (k : Nat) (v : Int × Int), xpset l k v = l.set k v
  | [], _, _ => by simp [xpset]
  | _ :: _, 0, _ => by simp [xpset]
  | _ :: t, k + 1, v => by simp [xpset, xpset_eq t k v]
theorem xsat_set {pe : XP} {u : Nat} {q : Int × Int} (h : xsat xs pe) (h1 : q.1 ≤ (xs u).toInt) (h2 : (xs u).toInt ≤ q.2) : xsat xs (xpset pe u q) := by
  intro i r hr
  rw [xpset_eq, List.getElem?_set] at hr
  split at hr
  · rename_i e1
    subst e1
    split at hr
    · cases hr; exact ⟨h1, h2⟩
    · cases hr
  · exact h i r hr
theorem xone_in {pe : XP} {u : Nat} {b : Bool} {q : Int × Int} {v : Int} (h1 : q.1 ≤ v) (h2 : v ≤ q.2) : (b, xpset pe u q) ∈ xone pe u b q := by
  unfold xone
  rw [decide_eq_true (Int.le_trans h1 h2)]
  exact List.mem_cons_self
theorem xmn_le {a b v : Int} (h1 : v ≤ a) (h2 : v ≤ b) : v ≤ xmn a b := by
  unfold xmn; cases decide (a ≤ b) <;> assumption
theorem xmx_le {a b v : Int} (h1 : a ≤ v) (h2 : b ≤ v) : xmx a b ≤ v := by
  unfold xmx; cases decide (a ≤ b) <;> assumption
theorem xcut_ok {pe : XP} {u : Nat} {q : Int × Int} (k : Int) (b : Bool) (h : xsat xs pe) (hq : pe[u]? = some q) : ∃ pe', ((bif decide ((xs u).toInt < k) then b else !b), pe') ∈ xcut pe u q k b ∧ xsat xs pe' := by
  obtain ⟨h1, h2⟩ := h u q hq
  by_cases hk : (xs u).toInt < k
  · rw [decide_eq_true hk]
    have g1 : (xs u).toInt ≤ xmn q.2 (k - 1) := xmn_le h2 (by omega)
    exact ⟨_, List.mem_append_left _ (xone_in (q := (q.1, xmn q.2 (k - 1))) h1 g1), xsat_set h h1 g1⟩
  · rw [decide_eq_false hk]
    have g1 : xmx q.1 k ≤ (xs u).toInt := xmx_le h1 (by omega)
    exact ⟨_, List.mem_append_right _ (xone_in (q := (xmx q.1 k, q.2)) g1 h2), xsat_set h g1 h2⟩
theorem xcutE_ok {pe : XP} {u : Nat} {q : Int × Int} (k : Int) (b : Bool) (h : xsat xs pe) (hq : pe[u]? = some q) : ∃ pe', ((bif decide ((xs u).toInt = k) then b else !b), pe') ∈ xcutE pe u q k b ∧ xsat xs pe' := by
  obtain ⟨h1, h2⟩ := h u q hq
  unfold xcutE
  by_cases hk : (xs u).toInt = k
  · rw [decide_eq_true hk]
    have g1 : xmx q.1 k ≤ (xs u).toInt := xmx_le h1 (by omega)
    have g2 : (xs u).toInt ≤ xmn q.2 k := xmn_le h2 (by omega)
    exact ⟨_, List.mem_append_left _ (xone_in (q := (xmx q.1 k, xmn q.2 k)) g1 g2), xsat_set h g1 g2⟩
  · rw [decide_eq_false hk]
    by_cases e1 : q.1 = k
    · rw [decide_eq_true e1]
      have g1 : q.1 + 1 ≤ (xs u).toInt := by omega
      exact ⟨_, List.mem_append_right _ (xone_in (q := (q.1 + 1, q.2)) g1 h2), xsat_set h g1 h2⟩
    · rw [decide_eq_false e1]
      by_cases e2 : q.2 = k
      · rw [decide_eq_true e2]
        have g1 : (xs u).toInt ≤ q.2 - 1 := by omega
        exact ⟨_, List.mem_append_right _ (xone_in (q := (q.1, q.2 - 1)) h1 g1), xsat_set h h1 g1⟩
      · rw [decide_eq_false e2]
        exact ⟨_, List.mem_append_right _ (xone_in (q := q) h1 h2), xsat_set h h1 h2⟩
theorem xsplit_ok {pe : XP} {u : Nat} {cd : ClassFile.Cond} {y : Int32} {r : List (Bool × XP)} (hr : xsplit pe u cd y.toInt = some r) (h : xsat xs pe) : ∃ pe', (xprop cd (xs u) y, pe') ∈ r ∧ xsat xs pe' := by
  unfold xsplit at hr
  split at hr
  · cases hr
  · rename_i q hq
    rw [xnth_eq] at hq
    cases cd with
    | eq =>
      obtain rfl := Option.some.inj hr
      have := xcutE_ok y.toInt true h hq
      rw [show xprop .eq (xs u) y = (bif decide ((xs u).toInt = y.toInt) then true else !true) by simp [xprop, Int32.toInt_inj]]
      exact this
    | ne =>
      obtain rfl := Option.some.inj hr
      have := xcutE_ok y.toInt false h hq
      rw [show xprop .ne (xs u) y = (bif decide ((xs u).toInt = y.toInt) then false else !false) by simp [xprop, Int32.toInt_inj]]
      exact this
    | lt =>
      obtain rfl := Option.some.inj hr
      have := xcut_ok y.toInt true h hq
      rw [show xprop .lt (xs u) y = (bif decide ((xs u).toInt < y.toInt) then true else !true) by simp [xprop, Int32.lt_iff_toInt_lt]]
      exact this
    | ge =>
      obtain rfl := Option.some.inj hr
      have := xcut_ok y.toInt false h hq
      rw [show xprop .ge (xs u) y = (bif decide ((xs u).toInt < y.toInt) then false else !false) by
        by_cases z : (xs u).toInt < y.toInt
        · simp [xprop, Int32.le_iff_toInt_le, z]
        · simp [xprop, Int32.le_iff_toInt_le, z, Int.not_lt.mp z]]
      exact this
    | gt =>
      obtain rfl := Option.some.inj hr
      have := xcut_ok (y.toInt + 1) false h hq
      rw [show xprop .gt (xs u) y = (bif decide ((xs u).toInt < y.toInt + 1) then false else !false) by
        by_cases z : (xs u).toInt < y.toInt + 1
        · have z2 : ¬ y.toInt < (xs u).toInt := by omega
          simp [xprop, Int32.lt_iff_toInt_lt, z, z2]
        · have z2 : y.toInt < (xs u).toInt := by omega
          simp [xprop, Int32.lt_iff_toInt_lt, z, z2]]
      exact this
    | le =>
      obtain rfl := Option.some.inj hr
      have := xcut_ok (y.toInt + 1) true h hq
      rw [show xprop .le (xs u) y = (bif decide ((xs u).toInt < y.toInt + 1) then true else !true) by
        by_cases z : (xs u).toInt < y.toInt + 1
        · have z2 : (xs u).toInt ≤ y.toInt := by omega
          simp [xprop, Int32.le_iff_toInt_le, z, z2]
        · have z2 : ¬ (xs u).toInt ≤ y.toInt := by omega
          simp [xprop, Int32.le_iff_toInt_le, z, z2]]
      exact this
theorem xflip_ok (cd : ClassFile.Cond) (x y : Int32) : xprop (xflip cd) y x = xprop cd x y := by
  cases cd with
  | eq => simp [xprop, xflip, eq_comm]
  | ne => simp [xprop, xflip, eq_comm]
  | lt => rfl
  | ge => rfl
  | gt => rfl
  | le => rfl
theorem xbrs_ok {cd : ClassFile.Cond} {a b : Value} {pe : XP} {r : List (Bool × XP)} (hr : xbrs cd a b pe = some r) (h : xsat xs pe) : ∃ x y pe', ev ad xs bS a = .int x ∧ ev ad xs bS b = .int y ∧ (xprop cd x y, pe') ∈ r ∧ xsat xs pe' := by
  unfold xbrs at hr
  split at hr
  · obtain rfl := Option.some.inj hr
    exact ⟨_, _, pe, rfl, rfl, List.mem_cons_self, h⟩
  · obtain ⟨pe', h1, h2⟩ := xsplit_ok hr h
    exact ⟨_, _, pe', rfl, rfl, h1, h2⟩
  · obtain ⟨pe', h1, h2⟩ := xsplit_ok hr h
    rw [xflip_ok] at h1
    exact ⟨_, _, pe', rfl, rfl, h1, h2⟩
  · cases hr
theorem xtgt_ok {off : Int} {t : Nat} (h : xtgt pc off = some t) : (pc : Int) + off = (t : Int) := by
  unfold xtgt at h
  split at h
  · rename_i k hk
    cases h
    exact hk
  · cases h
theorem xjump_ok {off : Int} {r : List Value} {o : Option (List (Bool × XP))} {z : List (Nat × List Value × XP)} (h : xjump pc off r o = some z) : ∃ (t : Nat) (l0 : List (Bool × XP)), (pc : Int) + off = (t : Int) ∧ o = some l0 ∧ ∀ b pe', (b, pe') ∈ l0 → ((bif b then t else pc + 3), r, pe') ∈ z := by
  unfold xjump at h
  split at h
  · rename_i t l0 h1
    obtain rfl := Option.some.inj h
    exact ⟨t, l0, xtgt_ok h1, rfl, fun b pe' hb => List.mem_map.mpr ⟨(b, pe'), hb, rfl⟩⟩
  · cases h
theorem xw_icmp (hx : p.tables.exec = Jvm.exec) (hb : c.code = cc) {cd : ClassFile.Cond} {x y : Int32} {off : Int} {tgt : Nat} {rest : List Value} (hd : decode cc pc = .ok (.if_icmp cd off, 3)) (ht : (pc : Int) + off = (tgt : Int))
    (kk : ∀ b, b = xprop cd x y → W p l e R s m args below meth c H locs cells slots Q (F0 m (bif b then tgt else pc + 3) ls rest)) : W p l e R s m args below meth c H locs cells slots Q (F0 m pc ls (.int y :: .int x :: rest)) := by
  cases cd with
  | eq => exact lv_icmp_eq hx hb hd ht (fun h => kk true (by simp [xprop, h])) (fun h => kk false (by simp [xprop, h]))
  | ne => exact lv_icmp_ne hx hb hd ht (fun h => kk true (by simp [xprop, h])) (fun h => kk false (by simp [xprop, h]))
  | lt => exact lv_icmp_lt hx hb hd ht (fun h => kk true (decide_eq_true h).symm) (fun h => kk false (decide_eq_false h).symm)
  | ge => exact lv_icmp_ge hx hb hd ht (fun h => kk true (decide_eq_true h).symm) (fun h => kk false (decide_eq_false h).symm)
  | gt => exact lv_icmp_gt hx hb hd ht (fun h => kk true (decide_eq_true h).symm) (fun h => kk false (decide_eq_false h).symm)
  | le => exact lv_icmp_le hx hb hd ht (fun h => kk true (decide_eq_true h).symm) (fun h => kk false (decide_eq_false h).symm)
theorem xw_if (hx : p.tables.exec = Jvm.exec) (hb : c.code = cc) {cd : ClassFile.Cond} {x : Int32} {off : Int} {tgt : Nat} {rest : List Value} (hd : decode cc pc = .ok (.ifCond cd off, 3)) (ht : (pc : Int) + off = (tgt : Int))
    (kk : ∀ b, b = xprop cd x 0 → W p l e R s m args below meth c H locs cells slots Q (F0 m (bif b then tgt else pc + 3) ls rest)) : W p l e R s m args below meth c H locs cells slots Q (F0 m pc ls (.int x :: rest)) := by
  cases cd with
  | eq => exact lv_if_eq hx hb hd ht (fun h => kk true (by simp [xprop, h])) (fun h => kk false (by simp [xprop, h]))
  | ne => exact lv_if_ne hx hb hd ht (fun h => kk true (by simp [xprop, h])) (fun h => kk false (by simp [xprop, h]))
  | lt => exact lv_if_lt hx hb hd ht (fun h => kk true (decide_eq_true h).symm) (fun h => kk false (decide_eq_false h).symm)
  | ge => exact lv_if_ge hx hb hd ht (fun h => kk true (decide_eq_true h).symm) (fun h => kk false (decide_eq_false h).symm)
  | gt => exact lv_if_gt hx hb hd ht (fun h => kk true (decide_eq_true h).symm) (fun h => kk false (decide_eq_false h).symm)
  | le => exact lv_if_le hx hb hd ht (fun h => kk true (decide_eq_true h).symm) (fun h => kk false (decide_eq_false h).symm)
theorem xsw_ok {dflt low high : Int} {offs : Array Int} {r : List Value} {pv : Int → XP} : ∀ (n : Nat) (lo : Int) (z : List (Nat × List Value × XP)), xsw pc dflt low high offs r pv lo n = some z → ∀ v : Int, lo ≤ v → v < lo + n → ∃ t, xsel pc dflt low high offs v = some t ∧ (t, r, pv v) ∈ z
  | 0, lo, z, _, v, h1, h2 => by omega
  | n + 1, lo, z, h, v, h1, h2 => by
    unfold xsw at h
    split at h
    · rename_i t l0 e1 e2
      obtain rfl := Option.some.inj h
      by_cases hv : v = lo
      · subst hv
        exact ⟨t, e1, List.mem_cons_self⟩
      · obtain ⟨t2, h3, h4⟩ := xsw_ok n (lo + 1) l0 e2 v (by omega) (by omega)
        exact ⟨t2, h3, List.mem_cons_of_mem _ h4⟩
    · cases h
theorem xw_switch (hx : p.tables.exec = Jvm.exec) (hb : c.code = cc) {dflt low high : Int} {offs : Array Int} {n : Nat} {x : Int32} {t : Nat} {rest : List Value} (hd : decode cc pc = .ok (.tableswitch dflt low high offs, n)) (h : xsel pc dflt low high offs x.toInt = some t)
    (kk : W p l e R s m args below meth c H locs cells slots Q (F0 m t ls rest)) : W p l e R s m args below meth c H locs cells slots Q (F0 m pc ls (.int x :: rest)) := by
  unfold xsel at h
  cases h1 : (decide (x.toInt < low) || decide (high < x.toInt)) with
  | true =>
    rw [h1] at h
    simp only [Bool.or_eq_true, decide_eq_true_eq] at h1
    exact lv_tableOut hx hb hd h1 (xtgt_ok h) kk
  | false =>
    rw [h1] at h
    simp only [Bool.or_eq_false_iff, decide_eq_false_iff_not] at h1
    simp only [cond_false] at h
    split at h
    · rename_i off ho
      rw [xnth_eq] at ho
      exact lv_tableIn hx hb hd h1.1 h1.2 (by rw [← Array.getElem?_toList]; exact ho) (xtgt_ok h) kk
    · cases h
theorem xnul_ev {v : Value} {t : Bool} (h : xnul v = some t) : (t = true ∧ ev ad xs bS v = .null) ∨ (t = false ∧ ∃ a, ev ad xs bS v = .ref a) := by
  unfold xnul at h
  split at h <;> first | (cases h; exact Or.inl ⟨rfl, rfl⟩) | (cases h; exact Or.inr ⟨rfl, _, rfl⟩) | cases h
theorem xhk_idx {o : Nat} {c : XCl} : ∀ {h : XH}, xhk h o = some c → ∃ i : Nat, h[i]? = some (o, c)
  | [], h => nomatch h
  | (j, c') :: t, h => by
    unfold xhk at h
    cases hb : Nat.beq j o with
    | true =>
      rw [hb] at h
      have e1 : c' = c := Option.some.inj h
      have e2 := Nat.eq_of_beq_eq_true hb
      subst e1; subst e2
      exact ⟨0, rfl⟩
    | false =>
      rw [hb] at h
      obtain ⟨i, hi⟩ := xhk_idx h
      exact ⟨i + 1, hi⟩
/-- things with two numbers have two addresses -/
theorem xapart {h : XH} {a b : Nat} {E : Value → Value} (hD : va_D A (evH E ad aC h)) (ha : xsome (xhk h a) = true) (hb : xsome (xhk h b) = true) (hn : a ≠ b) : ad a ≠ ad b := by
  intro he
  cases h1 : xhk h a with
  | none => rw [h1] at ha; cases ha
  | some ca =>
    cases h2 : xhk h b with
    | none => rw [h2] at hb; cases hb
    | some cb =>
      obtain ⟨i, hi⟩ := xhk_idx h1
      obtain ⟨j, hj⟩ := xhk_idx h2
      have e1 : (evH E ad aC h)[i]? = some (ad a, evC E aC ca) := by unfold evH; rw [List.getElem?_map, hi]; rfl
      have e2 : (evH E ad aC h)[j]? = some (ad b, evC E aC cb) := by unfold evH; rw [List.getElem?_map, hj]; rfl
      have e3 := hD.1 i j _ _ e1 e2 he
      subst e3
      rw [hi] at hj
      cases hj
      exact hn rfl
theorem xsame_ev {h : XH} (hD : va_D A (evH (ev ad xs bS) ad aC h)) {v w : Value} {t : Bool} (hs : xsame h v w = some t) : ∃ rx ry, ev ad xs bS v = va_rf rx ∧ ev ad xs bS w = va_rf ry ∧ (t = true ↔ rx = ry) := by
  unfold xsame at hs
  split at hs
  · cases hs; exact ⟨none, none, rfl, rfl, by simp⟩
  · cases hs; exact ⟨some _, none, rfl, rfl, by simp⟩
  · cases hs; exact ⟨none, some _, rfl, rfl, by simp⟩
  · rename_i a b
    cases hb : Nat.beq a b with
    | true =>
      rw [hb] at hs
      cases hs
      have := Nat.eq_of_beq_eq_true hb
      subst this
      exact ⟨some (ad a), some (ad a), rfl, rfl, by simp⟩
    | false =>
      rw [hb] at hs
      cases hk : (xsome (xhk h a) && xsome (xhk h b)) with
      | false => rw [hk] at hs; cases hs
      | true =>
        rw [hk] at hs
        cases hs
        rw [Bool.and_eq_true] at hk
        have hn : ad a ≠ ad b := xapart hD hk.1 hk.2 (fun z => by subst z; rw [Nat.beq_refl] at hb; cases hb)
        exact ⟨some (ad a), some (ad b), rfl, rfl, by simp [hn]⟩
  · cases hs
theorem xb1_ok {b : Bool} {pe : XP} {o : Option Bool} {z : List (Bool × XP)} (h : xb1 b pe o = some z) : ∃ t, o = some t ∧ z = [(t == b, pe)] := by
  unfold xb1 at h
  split at h
  · exact ⟨_, rfl, (Option.some.inj h).symm⟩
  · cases h
theorem xbranch_ok {hh : XH} (hD : va_D A (evH (ev ad xs bS) ad aC hh)) (hx : p.tables.exec = Jvm.exec) (hb : c.code = cc) {i : Instr} {st : List Value} {pe : XP} {z : List (Nat × List Value × XP)} (h : xbranch hh pc i st pe = some z) (hs : xsat xs pe) (hd : decode cc pc = .ok (i, xil pc i))
    (kk : ∀ q ∈ z, xsat xs q.2.2 → W p l e R s m args below meth c H locs cells slots Q (F0 m q.1 ls (evS (ev ad xs bS) q.2.1))) : W p l e R s m args below meth c H locs cells slots Q (F0 m pc ls (evS (ev ad xs bS) st)) := by
  unfold xbranch at h
  split at h
  · split at h
    · rename_i off t ht
      obtain rfl := Option.some.inj h
      exact lv_goto hx hb hd (xtgt_ok ht) (kk _ List.mem_cons_self hs)
    · cases h
  · split at h
    · rename_i cd off st9 b a r
      obtain ⟨t, l0, h1, h2, h3⟩ := xjump_ok h
      obtain ⟨x, y, pe', h4, h5, h6, h7⟩ := xbrs_ok (ad := ad) (bS := bS) h2 hs
      show W p l e R s m args below meth c H locs cells slots Q (F0 m pc ls (ev ad xs bS b :: ev ad xs bS a :: evS (ev ad xs bS) r))
      rw [h4, h5]
      exact xw_icmp hx hb hd h1 (fun bb hbb => by rw [hbb]; exact kk _ (h3 _ _ h6) h7)
    · cases h
  · split at h
    · rename_i cd off a r
      obtain ⟨t, l0, h1, h2, h3⟩ := xjump_ok h
      obtain ⟨x, y, pe', h4, h5, h6, h7⟩ := xbrs_ok (ad := ad) (bS := bS) h2 hs
      cases h5
      show W p l e R s m args below meth c H locs cells slots Q (F0 m pc ls (ev ad xs bS a :: evS (ev ad xs bS) r))
      rw [h4]
      exact xw_if hx hb hd h1 (fun bb hbb => by rw [hbb]; exact kk _ (h3 _ _ h6) h7)
    · cases h
  · split at h
    · rename_i off a r
      obtain ⟨t, l0, h1, h2, h3⟩ := xjump_ok h
      obtain ⟨t2, h4, rfl⟩ := xb1_ok h2
      show W p l e R s m args below meth c H locs cells slots Q (F0 m pc ls (ev ad xs bS a :: evS (ev ad xs bS) r))
      rcases xnul_ev (ad := ad) (xs := xs) (bS := bS) h4 with ⟨rfl, h5⟩ | ⟨rfl, a9, h5⟩
      · rw [h5]
        exact lv_ifnullN hx hb hd h1 (kk _ (h3 _ _ List.mem_cons_self) hs)
      · rw [h5]
        exact lv_ifnull hx hb hd (kk _ (h3 _ _ List.mem_cons_self) hs)
    · cases h
  · split at h
    · rename_i off a r
      obtain ⟨t, l0, h1, h2, h3⟩ := xjump_ok h
      obtain ⟨t2, h4, rfl⟩ := xb1_ok h2
      show W p l e R s m args below meth c H locs cells slots Q (F0 m pc ls (ev ad xs bS a :: evS (ev ad xs bS) r))
      rcases xnul_ev (ad := ad) (xs := xs) (bS := bS) h4 with ⟨rfl, h5⟩ | ⟨rfl, a9, h5⟩
      · rw [h5]
        exact lv_ifnonnullN hx hb hd (kk _ (h3 _ _ List.mem_cons_self) hs)
      · rw [h5]
        exact lv_ifnonnull hx hb hd h1 (kk _ (h3 _ _ List.mem_cons_self) hs)
    · cases h
  · split at h
    · rename_i cd off st9 b a r
      obtain ⟨t, l0, h1, h2, h3⟩ := xjump_ok h
      obtain ⟨t2, h4, rfl⟩ := xb1_ok h2
      obtain ⟨rx, ry, h5, h6, h7⟩ := xsame_ev (ad := ad) (xs := xs) (bS := bS) hD h4
      show W p l e R s m args below meth c H locs cells slots Q (F0 m pc ls (ev ad xs bS b :: ev ad xs bS a :: evS (ev ad xs bS) r))
      rw [h5, h6]
      have hk := kk _ (h3 _ _ List.mem_cons_self) hs
      cases cd with
      | eq =>
        refine lv_acmp_eq hx hb hd h1 (fun z => ?_) (fun z => ?_)
        · rw [h7.mpr z] at hk; exact hk
        · have : t2 = false := by
            cases t2 with
            | true => exact absurd (h7.mp rfl) z
            | false => rfl
          rw [this] at hk; exact hk
      | ne =>
        refine lv_acmp_ne hx hb hd h1 (fun z => ?_) (fun z => ?_)
        · have : t2 = false := by
            cases t2 with
            | true => exact absurd (h7.mp rfl) z
            | false => rfl
          rw [this] at hk; exact hk
        · rw [h7.mpr z] at hk; exact hk
    · cases h
  · rename_i dflt low high offs
    split at h
    · rename_i x r
      obtain ⟨t, h1, h2⟩ := xsw_ok 1 _ _ h x.toInt (Int.le_refl _) (by omega)
      exact xw_switch hx hb hd h1 (kk _ h2 hs)
    · rename_i u r
      split at h
      · rename_i q hq
        rw [xnth_eq] at hq
        obtain ⟨g1, g2⟩ := hs _ _ hq
        obtain ⟨t, h1, h2⟩ := xsw_ok _ _ _ h (xs u.toNat).toInt g1 (by omega)
        exact xw_switch (x := xs u.toNat) hx hb hd h1 (kk _ h2 (xsat_set hs (Int.le_refl _) (Int.le_refl _)))
      · cases h
    · cases h
  · cases h
end XB
