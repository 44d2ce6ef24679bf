section XZ
theorem xcon {α : Type} {b : Bool} {x : Option α} {q : α} (h : (bif b then x else none) = some q) : b = true ∧ x = some q := by
  cases b with
  | true => exact ⟨rfl, h⟩
  | false => cases h
theorem xends_spec {M : XM} : ∀ {l : List XLf} {rs : List XR}, xends M l = some rs → ∀ q ∈ l, ∃ r ∈ rs, xend M q = some r
  | [], _, _, q, hq => by cases hq
  | a :: l, rs, h, q, hq => by
    unfold xends at h
    split at h
    · rename_i r1 rs1 h1 h2
      obtain rfl := Option.some.inj h
      rcases List.mem_cons.mp hq with rfl | hq
      · exact ⟨r1, List.mem_cons_self, h1⟩
      · obtain ⟨r, h3, h4⟩ := xends_spec h2 q hq
        exact ⟨r, List.mem_cons_of_mem _ h3, h4⟩
    · cases h
theorem lv_args_ev (ad : Nat → Nat) (xs : Nat → Int32) (bS : Nat) : ∀ (as : List Value) (i : Nat), lv_args i (evS (ev ad xs bS) as) = evL (ev ad xs bS) (lv_args i as)
  | [], _ => rfl
  | v :: t, i => by
    show (i, ev ad xs bS v) :: lv_args (if (ev ad xs bS v).category = 2 then i + 2 else i + 1) (evS (ev ad xs bS) t) = (i, ev ad xs bS v) :: evL (ev ad xs bS) (lv_args (if v.category = 2 then i + 2 else i + 1) t)
    rw [ev_cat, lv_args_ev ad xs bS t]
theorem lg_len (vs : List Value) : (lg_sl vs).length = xcats vs := by
  unfold lg_sl xcats
  induction vs with
  | nil => rfl
  | cons v t ih =>
    rw [List.flatMap_cons, List.length_append, ih, List.map_cons, List.sum_cons]
    rcases lv_cat v with h | h
    · simp [h]
    · simp [h]
theorem xall_from {α β : Type} {f : α → Option (List β)} : ∀ {l : List α} {r : List β}, xall f l = some r → ∀ x ∈ r, ∃ a ∈ l, ∃ r', f a = some r' ∧ x ∈ r'
  | [], r, h, x, hx => by
    obtain rfl := Option.some.inj h
    cases hx
  | b :: l, r, h, x, hx => by
    unfold xall at h
    split at h
    · cases h
    · rename_i r1 h1
      split at h
      · cases h
      · rename_i r2 h2
        obtain rfl := Option.some.inj h
        rcases List.mem_append.mp hx with hx | hx
        · exact ⟨b, List.mem_cons_self, r1, h1, hx⟩
        · obtain ⟨a, h3, r', h4, h5⟩ := xall_from h2 x hx
          exact ⟨a, List.mem_cons_of_mem _ h3, r', h4, h5⟩
/-- a runner keeps the numbers -/
def xKI (n0 : Nat) (ih : XGo) : Prop := ∀ (cur : List XI) (lv : XL) (st : List Value) (σ : XS) (leaves : List XLf), ih cur lv st σ = some leaves → n0 ≤ σ.2.2.1 → xal σ.2.2.1 lv st σ.2.1 = true → ∀ lf ∈ leaves, n0 ≤ lf.2.2.2.2.2.2.2.1 ∧ xal lf.2.2.2.2.2.2.2.1 lf.2.2.2.1 lf.2.2.2.2.1 lf.2.2.2.2.2.2.1 = true
def xCfW (cf : XCf) : Prop := ∀ (k : Nat) (as : List Value) (pe : XP) (h : XH) (n : Nat) (rs : List XR), cf k as pe h n = some rs → xoS n as = true → xoH n h = true → ∀ r ∈ rs, xwR n r
theorem xbody_kept {Ms : List XM} {cls : Nat → Nat} {scr : Option (Nat × (Nat → Int32))} {M : XM} {cf : XCf} {ih : XGo} {n0 : Nat} (hcf : xCfW cf) (hih : xKI n0 ih) : xKI n0 (xbody Ms cls scr M cf ih) := by
  intro cur lv st σ leaves h hn hwf lf hlf
  obtain ⟨oL, oS, oH⟩ := xal_spec hwf
  cases cur with
  | nil => cases h
  | cons e t =>
    unfold xbody at h
    dsimp only at h
    split at h
    · split at h
      · rename_i q hq
        exact hih _ _ _ _ _ h hn (xal_mk (xsimple_kept hq oL oS).1 (xsimple_kept hq oL oS).2 oH) lf hlf
      · cases h
    · split at h
      · rename_i q hq
        exact hih _ _ _ _ _ h (Nat.le_trans hn (xheap_kept hq hwf).1) (xheap_kept hq hwf).2 lf hlf
      · cases h
    · split at h
      · rename_i z hz
        obtain ⟨q, hq, r', h5, h6⟩ := xall_from h lf hlf
        exact hih _ _ _ _ _ h5 hn (xal_mk oL (xbranch_kept hz oS q hq) oH) lf h6
      · cases h
    · obtain ⟨pe, hh, n, ce, sl⟩ := σ
      dsimp only at hn oL oS oH
      unfold xcall at h
      split at h
      · rename_i mode k ci tl pe' hh' n' ce' sl' haux hσ
        cases hσ
        split at h
        · cases h
        · rename_i Y hY
          obtain ⟨-, h⟩ := xcon h
          split at h
          · rename_i rs hrs
            obtain ⟨r, hr, r', h5, h6⟩ := xall_from h lf hlf
            obtain ⟨w1, w2, w3⟩ := hcf _ _ _ _ _ _ hrs (xoS_rev (xoS_take oS)) oH r hr
            obtain ⟨r0, v, pe2, hh2, n2⟩ := r
            dsimp only at w1 w2 w3
            cases r0 with
            | zero =>
              have h5 : ih (xnext (xmC M) t (e.1 + 3)) lv (v.toList ++ st.drop (xmA Y)) (pe2, hh2, n2, ce + (xmR Y).cells, sl + (xmR Y).slots) = some r' := h5
              exact hih _ _ _ _ _ h5 (Nat.le_trans hn w1) (xal_mk (xoL_mono w1 oL) (xoS_app.mpr ⟨w2, xoS_mono w1 (xoS_drop oS)⟩) w3) lf h6
            | succ E => cases h5
          · cases h
      · cases h
    · obtain rfl := Option.some.inj h
      rcases List.mem_cons.mp hlf with rfl | hlf
      · exact ⟨hn, hwf⟩
      · cases hlf
    · unfold xoinit at h
      split at h
      · obtain ⟨-, h⟩ := xcon h
        exact hih _ _ _ _ _ h hn (xal_tail hwf) lf hlf
      · cases h
    · unfold xcopy at h
      split at h
      · split at h
        · rename_i v0 v1 hk0 hk1
          rcases xbif9 h with h | h
          · cases h
          · rcases xbif9 h with h | h
            · cases h
            · obtain ⟨-, h⟩ := xcon h
              exact hih _ _ _ _ _ h hn (xal_mk oL (xoS_drop (k := 5) oS) (xoH_put oH (List.all_eq_true.mpr fun v hv => (xcpy_mem hv).elim (fun q => List.all_eq_true.mp (xoH_at oH hk0).2 v q) (fun q => List.all_eq_true.mp (xoH_at oH hk1).2 v q)))) lf hlf
        · cases h
      · cases h
    · obtain rfl := Option.some.inj h
      rcases List.mem_cons.mp hlf with rfl | hlf
      · exact ⟨hn, hwf⟩
      · cases hlf
    · unfold xmath at h
      split at h
      · obtain ⟨-, h⟩ := xcon h
        exact hih _ _ _ _ _ h hn (xal_mk oL (xoS_cons.mpr ⟨rfl, (xoS_cons.mp (xoS_cons.mp oS).2).2⟩) oH) lf hlf
      · cases h
    · cases h
theorem xrun_kept {Ms : List XM} {cls : Nat → Nat} {scr : Option (Nat × (Nat → Int32))} {M : XM} {cf : XCf} {n0 : Nat} (hcf : xCfW cf) : ∀ f, xKI n0 (xrun Ms cls scr M cf f)
  | 0 => fun _ _ _ _ _ h => nomatch h
  | f + 1 => xbody_kept hcf (xrun_kept hcf f)
theorem xends_from {M : XM} : ∀ {l : List XLf} {rs : List XR}, xends M l = some rs → ∀ r ∈ rs, ∃ q ∈ l, xend M q = some r
  | [], rs, h, r, hr => by
    obtain rfl := Option.some.inj h
    cases hr
  | a :: l, rs, h, r, hr => by
    unfold xends at h
    split at h
    · rename_i r1 rs1 h1 h2
      obtain rfl := Option.some.inj h
      rcases List.mem_cons.mp hr with rfl | hr
      · exact ⟨a, List.mem_cons_self, h1⟩
      · obtain ⟨q, h3, h4⟩ := xends_from h2 r hr
        exact ⟨q, List.mem_cons_of_mem _ h3, h4⟩
    · cases h
theorem xretv_kept {ret : Option FieldType} {i : Instr} {st : List Value} {v : Option Value} {n : Nat} (h : xretv ret i st = some v) (hS : xoS n st = true) : xoS n v.toList = true := by
  unfold xretv at h
  split at h
  · obtain rfl := Option.some.inj h; rfl
  · obtain ⟨-, h⟩ := xcon h; obtain rfl := Option.some.inj h; exact hS
  · obtain ⟨-, h⟩ := xcon h; obtain rfl := Option.some.inj h; rfl
  · obtain ⟨-, h⟩ := xcon h; obtain rfl := Option.some.inj h; exact hS
  · obtain ⟨-, h⟩ := xcon h; obtain rfl := Option.some.inj h; exact hS
  · obtain ⟨-, h⟩ := xcon h; obtain rfl := Option.some.inj h; exact hS
  · obtain ⟨-, h⟩ := xcon h; obtain rfl := Option.some.inj h; exact hS
  · cases h
theorem xargs_kept {n : Nat} : ∀ (as : List Value) (i : Nat), xoS n as = true → xoL n (lv_args i as) = true
  | [], _, _ => rfl
  | v :: t, i, h => by
    show xoL n ((i, v) :: lv_args _ t) = true
    have h9 := xoS_cons.mp h
    have := xargs_kept t (if v.category = 2 then i + 2 else i + 1) h9.2
    unfold xoL at this ⊢
    rw [List.all_cons, Bool.and_eq_true]
    exact ⟨h9.1, this⟩
theorem xmeth_kept {Ms : List XM} {cls : Nat → Nat} {scr : Option (Nat × (Nat → Int32))} {F : Nat} : ∀ d, xCfW (xmeth Ms cls scr F d)
  | 0 => fun _ _ _ _ _ _ h => nomatch h
  | d + 1 => by
    intro k as pe h n rs hrs hS hH r hr
    have hrs : (match xnth Ms k with
      | none => none
      | some M => bif Nat.ble (xcats as) (xmN M) then (match xrun Ms cls scr M (xmeth Ms cls scr F d) F (xfind (xmC M) 0) (lv_args 0 as) [] (pe, h, n, 0, 0) with
        | some ls => xends M ls
        | none => none) else none) = some rs := hrs
    split at hrs
    · cases hrs
    · rename_i M hM
      obtain ⟨-, hrs⟩ := xcon hrs
      split at hrs
      · rename_i leaves hl
        obtain ⟨q, hq, hx⟩ := xends_from hrs r hr
        obtain ⟨k1, k2⟩ := xrun_kept (n0 := n) (xmeth_kept d) F _ _ _ _ _ hl (Nat.le_refl _) (xal_mk (xargs_kept as 0 hS) rfl hH) q hq
        obtain ⟨oL, oS, oH⟩ := xal_spec k2
        obtain ⟨kd, E, e, lv, st, pe9, hh, n9, ce, sl⟩ := q
        dsimp only at k1 oL oS oH
        unfold xend at hx
        split at hx
        · rename_i E' e' lv' st' pe' h' n' ce' sl' heq
          cases heq
          obtain ⟨-, hx⟩ := xcon hx
          split at hx
          · rename_i v hv
            obtain rfl := Option.some.inj hx
            exact ⟨k1, xretv_kept hv oS, oH⟩
          · cases hx
        · cases hx
      · cases hrs
section
variable {p : Program} {l : Launch} {en : Env} {s : State} {m : MethodId} {args : Array Value} {below : List Frame} {meth : Method} {c : Code}
variable {xs : Nat → Int32} {bS : Nat} {aC : Nat → ClassId} {D : va_G} {A : Nat → Prop} {scr : Option (Nat × (Nat → Int32))} {M : XM} {Ms : List XM} {cls : Nat → Nat} {cf : XCf} {n0 : Nat} {ad0 : Nat → Nat}
theorem xend_ok (C : xCtx p l s m args meth c M D aC A xs bS scr) (hV : ∀ e ∈ xmC M, xVE Ms M e) {leaves : List XLf} {rs : List XR} (h : xends M leaves = some rs) :
    ∀ lf ∈ leaves, xleaf p l en s m args below meth c (vx_MQ below (xQc D aC A ad0 xs bS n0 rs) (xXc D aC A ad0 xs bS n0 rs) args s (xmR M).cells (xmR M).slots A) xs bS aC D A M n0 ad0 lf := by
  intro lf hlf ad H locs ls he hk0 hk3 hor ha hn hwf hs hw hS hl
  obtain ⟨r, hr, hx⟩ := xends_spec h lf hlf
  obtain ⟨hexec, hb, hml, hret, hown, hts, hlocks, hname, hSta, hA, htr⟩ := id C
  obtain ⟨kd, E, e, lv, st, pe, hh, n, ce, sl⟩ := lf
  have hve := hV e he
  unfold xVE at hve
  dsimp only at hk0 hs hw hl ⊢
  unfold xend at hx
  split at hx
  · rename_i E' e' lv' st' pe' h' n' ce' sl' heq
    cases heq
    rw [hk0 rfl] at hve
    obtain ⟨hb1, hx⟩ := xcon hx
    rw [Bool.and_eq_true] at hb1
    split at hx
    rotate_left
    · cases hx
    rename_i v hv
    obtain rfl := Option.some.inj hx
    refine W.widen (Nat.le_of_ble_eq_true hb1.1) (Nat.le_of_ble_eq_true hb1.2) ?_
    refine vx_ret ?_
    have hq : ∀ (t : State) (o : Outcome), t.heap = H → o = .returned (v.map (ev ad xs bS)) → xQc D aC A ad0 xs bS n0 rs args s o t := fun t o ht ho => ⟨⟨_, hr, rfl, ad, ha, ho, hs, by rw [ht]; exact hw⟩, hS.F ht⟩
    have hret : meth.sig.returnType = M.2.2.2.1 := hret
    obtain ⟨rt, hrt⟩ : ∃ rt, rt = M.2.2.2.1 := ⟨_, rfl⟩
    rw [← hrt] at hv hret
    obtain ⟨i, hi⟩ : ∃ i, i = e.2.1 := ⟨_, rfl⟩
    rw [← hi] at hv hve
    clear hrt hi
    unfold xretv at hv
    split at hv
    · obtain rfl := Option.some.inj hv
      exact W.vret hexec hb hret (fun t ht hW => hq t _ ht rfl) hS.2.2 hve hlocks
    · rename_i v0
      obtain ⟨hok, hv⟩ := xcon hv
      obtain rfl := Option.some.inj hv
      obtain ⟨x, hxv⟩ := xint_ev (ad := ad) (xs := xs) (bS := bS) hok
      show W p l en (xmR M) s m args below meth c H locs _ _ _ (F0 m e.1 ls [ev ad xs bS v0])
      rw [hxv]
      exact W.iret (v := x) hexec hb hret (fun t ht hW => hq t _ ht (by rw [Option.map_some, hxv])) hS.2.2 hve hlocks
    · rename_i x
      obtain ⟨hok, hv⟩ := xcon hv
      obtain rfl := Option.some.inj hv
      refine W.zret (ty := .boolean) (v := x) hexec hb hret ?_ (fun t ht hW => hq t _ ht rfl) hS.2.2 hve hlocks
      simp only [Bool.or_eq_true, decide_eq_true_eq] at hok
      rcases hok with rfl | rfl <;> decide
    · rename_i v0
      obtain ⟨hok, hv⟩ := xcon hv
      obtain rfl := Option.some.inj hv
      obtain ⟨x, hxv⟩ := xlong_ev (ad := ad) (xs := xs) (bS := bS) hok
      show W p l en (xmR M) s m args below meth c H locs _ _ _ (F0 m e.1 ls [ev ad xs bS v0])
      rw [hxv]
      exact W.lret (v := x) hexec hb hret (fun t ht hW => hq t _ ht (by rw [Option.map_some, hxv])) hS.2.2 hve hlocks
    · rename_i v0
      obtain ⟨hok, hv⟩ := xcon hv
      obtain rfl := Option.some.inj hv
      obtain ⟨x, hxv⟩ := xdbl_ev (ad := ad) (xs := xs) (bS := bS) hok
      show W p l en (xmR M) s m args below meth c H locs _ _ _ (F0 m e.1 ls [ev ad xs bS v0])
      rw [hxv]
      exact W.dret (v := x) hexec hb hret (fun t ht hW => hq t _ ht (by rw [Option.map_some, hxv])) hS.2.2 hve hlocks
    · rename_i v0
      obtain ⟨hok, hv⟩ := xcon hv
      obtain rfl := Option.some.inj hv
      exact W.aret (v := ev ad xs bS v0) hexec hb hret (Or.inl ⟨_, rfl⟩) (xref_ev hok) (fun t ht hW => hq t _ ht rfl) hS.2.2 hve hlocks
    · rename_i v0
      obtain ⟨hok, hv⟩ := xcon hv
      obtain rfl := Option.some.inj hv
      exact W.aret (v := ev ad xs bS v0) hexec hb hret (Or.inr ⟨_, rfl⟩) (xref_ev hok) (fun t ht hW => hq t _ ht rfl) hS.2.2 hve hlocks
    · cases hv
  · cases hx
end
/-- what a method's record wants -/
def xMok (Ms : List XM) (M : XM) : Prop := plainName (xmY M).cls = true ∧ ∀ e ∈ xmC M, xVE Ms M e
theorem xnth_mem {α : Type} {l : List α} {k : Nat} {a : α} (h : xnth l k = some a) : a ∈ l := by
  rw [xnth_eq] at h
  exact List.mem_of_getElem? h
section
variable {l : Launch} {xs : Nat → Int32} {bS : Nat} {aC : Nat → ClassId} {D : va_G} {A : Nat → Prop} {scr : Option (Nat × (Nat → Int32))} {Ms : List XM} {cls : Nat → Nat} {F : Nat}
set_option maxHeartbeats 1000000 in
theorem xmeth_ok (hl : l.stackTraces = false) (hG : xGlob) (hM : ∀ M ∈ Ms, xMok Ms M) : ∀ d, xCfOk l Ms D aC A xs bS scr (xmeth Ms cls scr F d)
  | 0 => fun _ _ _ _ _ _ h => nomatch h
  | d + 1 => by
    have ih := xmeth_ok hl hG hM d
    intro k as pe h n rs hrs M hk hsat hwS hwH
    refine ⟨xmeth_kept (d + 1) k as pe h n rs hrs hwS hwH, fun ad => ?_⟩
    have hrs : (match xnth Ms k with
      | none => none
      | some M => bif Nat.ble (xcats as) (xmN M) then (match xrun Ms cls scr M (xmeth Ms cls scr F d) F (xfind (xmC M) 0) (lv_args 0 as) [] (pe, h, n, 0, 0) with
        | some ls => xends M ls
        | none => none) else none) = some rs := hrs
    rw [hk] at hrs
    dsimp only at hrs
    obtain ⟨hcat, hrs⟩ := xcon hrs
    split at hrs
    rotate_left
    · cases hrs
    rename_i leaves hleaves
    obtain ⟨hpn, hV⟩ := hM M (xnth_mem hk)
    have body : ∀ (p : Program) (e : Env) (s : State) (m : MethodId) (args : Array Value) (below : List Frame) (meth : Method) (c : Code) (s₁ : State), BodyLoose p l (xmY M) (headSpec (xmWs M) (xmR M)) (xmB M) (xmN M) (xmV M) e s m args below meth c s₁ → c.maxLocals = xmN M → c.exceptionTable.toList = tableOf (xmT M) →
        va_Pc (evS (ev ad xs bS) as) (xPre D aC A ad xs bS scr h) args s → W p l e (headSpec (xmWs M) (xmR M)).room s m args below meth c s.heap [] 0 0 (vx_MQ below (xQc D aC A ad xs bS n rs) (xXc D aC A ad xs bS n rs) args s (xmR M).cells (xmR M).slots A) (entryFrame m args (xmN M)) := by
      intro p e s m args below meth c s₁ B hml htab hv
      obtain ⟨rfl, hSta, hw, hA⟩ := hv
      have C : xCtx p l s m (evS (ev ad xs bS) as).toArray meth c M D aC A xs bS scr :=
        ⟨B.exec, B.bytes, hml, B.returns, findClass_of_methodNamed B.named, fun w hw9 => atoms_spec (ws := xmWs M) B.pre w (List.mem_cons_of_mem _ hw9), B.notSynchronized, fun z => (name_of_methodNamed B.named B.method).1.trans z, hSta, hA, hl⟩
      have hl0 := lv_entry (evS (ev ad xs bS) as) (n := xmN M) (by rw [lg_len]; unfold xcats; rw [xcats_ev]; exact Nat.le_of_ble_eq_true hcat)
      rw [lg_entry_eq]
      generalize (lg_sl (evS (ev ad xs bS) as) ++ List.replicate (xmN M - (lg_sl (evS (ev ad xs bS) as)).length) Slot.unset).toArray = ls at hl0 ⊢
      rw [lv_args_ev] at hl0
      have hin := xfind_in (M := M) (pc := 0)
      exact xrun_ok C ih hG hV F _ _ _ _ _ hleaves hin.1 (xend_ok C hV hrs) 0 hin.2 ad s.heap [] ls (fun _ _ => rfl) (Nat.le_refl _) (xal_mk (xargs_kept as 0 hwS) rfl hwH) hsat hw va_S.rf hl0
    cases hT9 : xmT M with
    | nil =>
      refine vx_ofW hpn (xw_nil hT9) (fun p e s m args below meth c s₁ B hml htab hv => body p e s m args below meth c s₁ B hml ?_ hv)
      rw [hT9]
      cases hz : c.exceptionTable.toList with
      | nil => rfl
      | cons a b => exact absurd (htab a (by rw [hz]; exact List.mem_cons_self)) id
    | cons q t =>
      have hw9 : xmWs M = Jvm.Cond.codeWith (xmY M) (xmB M) (xmN M) (xmV M) (q :: t) :: xTs := by unfold xmWs xmW; rw [hT9]
      refine vx_ofWH hpn hw9 (fun p e s m args below meth c s₁ B hml hv => body p e s m args below meth c s₁ B hml ?_ hv)
      rw [hT9]
      exact vx_table (x := xmY M) B (atoms_spec (ws := xmWs M) B.pre _ (by rw [hw9]; exact List.mem_cons_self))
end
end XZ
