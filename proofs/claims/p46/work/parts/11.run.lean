/-! runs hold of the machine -/
section XR
theorem xfind_spec {code : List XI} {pc : Nat} {e : XI} {t : List XI} : xfind code pc = e :: t → e.1 = pc ∧ ∀ x ∈ e :: t, x ∈ code := by
  induction code with
  | nil => intro h; cases h
  | cons a r ih =>
    intro h
    unfold xfind at h
    cases hb : Nat.beq a.1 pc with
    | true =>
      rw [hb] at h
      cases h
      exact ⟨Nat.eq_of_beq_eq_true hb, fun x hx => hx⟩
    | false =>
      rw [hb] at h
      obtain ⟨h1, h2⟩ := ih h
      exact ⟨h1, fun x hx => List.mem_cons_of_mem _ (h2 x hx)⟩
theorem xnext_spec {code t0 : List XI} {pc : Nat} {e : XI} {t : List XI} (h : xnext code t0 pc = e :: t) : e.1 = pc ∧ ∀ x ∈ e :: t, x ∈ code := xfind_spec h
theorem xall_spec {α β : Type} {f : α → Option (List β)} : ∀ {l : List α} {r : List β}, xall f l = some r → ∀ a ∈ l, ∃ r', f a = some r' ∧ ∀ x ∈ r', x ∈ r
  | [], _, _, a, ha => by cases ha
  | b :: l, r, h, a, ha => by
    unfold xall at h
    split at h
    · cases h
    · rename_i r1 h1
      split at h
      · cases h
      · rename_i r2 h2
        obtain rfl := Option.some.inj h
        rcases List.mem_cons.mp ha with rfl | ha
        · exact ⟨r1, h1, fun x hx => List.mem_append_left _ hx⟩
        · obtain ⟨r', h3, h4⟩ := xall_spec h2 a ha
          exact ⟨r', h3, fun x hx => List.mem_append_right _ (h4 x hx)⟩
/-- what a row of a listing wants of the tables -/
def xVE (Ms : List XM) (M : XM) (e : XI) : Prop :=
  match e.2.2.1 with
  | 0 => decode (xmB M) e.1 = .ok (e.2.1, ilen e.2.1) ∧ (∀ k a t, e.2.1 = .ldc2_w k → e.2.2.2 = a :: t → Jvm.Cond.constantLong (xmY M).cls k (Int64.ofNat a) ∈ xTs) ∧ ∀ k a t, e.2.1 = .ldc k → e.2.2.2 = a :: t → Jvm.Cond.constant (xmY M).cls k (Int32.ofNat a) ∈ xTs
  | 1 => decode (xmB M) e.1 = .ok (e.2.1, ilen e.2.1) ∧ xvh xTs (xmY M).cls (decide ((xmY M).name = "<init>")) e.2.1 e.2.2.2
  | 2 => decode (xmB M) e.1 = .ok (e.2.1, xil e.1 e.2.1)
  | 3 => ∀ mode k ci t, e.2.2.2 = mode :: k :: ci :: t → ∃ idx, decode (xmB M) e.1 = .ok (xvi mode idx, 3) ∧ ∀ Y, xnth Ms k = some Y → xvc M Y mode ci idx
  | 4 => decode (xmB M) e.1 = .ok (e.2.1, ilen e.2.1)
  | 6 => ∃ idx, decode (xmB M) e.1 = .ok (.invokespecial idx, 3) ∧ Jvm.Cond.methodLink (xmY M).cls idx Lib.objectInit ∈ xTs ∧ Jvm.Cond.instanceMethod Lib.objectInit ∈ xTs ∧ Jvm.Cond.code Lib.objectInit ⟨#[0xb1]⟩ 1 none ∈ xTs
  | 7 => ∃ idx, decode (xmB M) e.1 = .ok (.invokestatic idx, 3) ∧ Jvm.Cond.methodLink (xmY M).cls idx arraycopyName ∈ xTs ∧ Jvm.Cond.native arraycopyName ∈ xTs ∧ Jvm.Cond.static arraycopyName ∈ xTs ∧ Jvm.Cond.initialized "java/lang/System" ∈ xTs
  | 10 => ∀ mx t, e.2.2.2 = mx :: t → Jvm.Cond.initialized "java/lang/Math" ∈ xTs ∧ ∃ idx, decode (xmB M) e.1 = .ok (.invokestatic idx, 3) ∧
      ((mx = 0 ∧ Jvm.Cond.methodLink (xmY M).cls idx Lib.Math.min.name ∈ xTs ∧ Jvm.Cond.static Lib.Math.min.name ∈ xTs ∧ Jvm.Cond.code Lib.Math.min.name Lib.Math.min.code 2 (some .int) ∈ xTs) ∨
       (mx = 1 ∧ Jvm.Cond.methodLink (xmY M).cls idx Lib.Math.max.name ∈ xTs ∧ Jvm.Cond.static Lib.Math.max.name ∈ xTs ∧ Jvm.Cond.code Lib.Math.max.name Lib.Math.max.code 2 (some .int) ∈ xTs))
  | _ => True
/-- what the tables say of all -/
def xGlob : Prop := ∀ (ci : Nat) (C : String) (T : u_T) (N : Nat), classes[ci]? = some (C, T, N) → ∀ w ∈ u_ws C T N, w ∈ xTs
section
variable {p : Program} {l : Launch} {en : Env} {s : State} {m : MethodId} {args : Array Value} {below : List Frame} {meth : Method} {c : Code} {Q : State → Prop}
variable {xs : Nat → Int32} {bS : Nat} {aC : Nat → ClassId} {D : va_G} {A : Nat → Prop} {scr : Option (Nat × (Nat → Int32))} {M : XM} {Ms : List XM} {cls : Nat → Nat} {cf : XCf} {n0 : Nat} {ad0 : Nat → Nat}
/-- an end of a run is an end of the walk -/
def xleaf (p : Program) (l : Launch) (en : Env) (s : State) (m : MethodId) (args : Array Value) (below : List Frame) (meth : Method) (c : Code) (Q : State → Prop) (xs : Nat → Int32) (bS : Nat) (aC : Nat → ClassId) (D : va_G) (A : Nat → Prop) (M : XM) (n0 : Nat) (ad0 : Nat → Nat) (lf : XLf) : Prop :=
  ∀ (ad : Nat → Nat) (H : Heap) (locs : List Loc) (ls : Array Slot), lf.2.2.1 ∈ xmC M → (lf.1 = 0 → lf.2.2.1.2.2.1 = 4) → (lf.1 = 3 → lf.2.2.1.2.2.1 = 9) → (lf.1 = 0 ∨ lf.1 = 3) → (∀ j, j < n0 → ad j = ad0 j) → n0 ≤ lf.2.2.2.2.2.2.2.1 → xal lf.2.2.2.2.2.2.2.1 lf.2.2.2.1 lf.2.2.2.2.1 lf.2.2.2.2.2.2.1 = true → xsat xs lf.2.2.2.2.2.1 → xWld D aC A ad xs bS lf.2.2.2.2.2.2.1 H → va_S A s.heap H locs → lv_has ls (xmN M) (evL (ev ad xs bS) lf.2.2.2.1) →
    W p l en (xmR M) s m args below meth c H locs lf.2.2.2.2.2.2.2.2.1 lf.2.2.2.2.2.2.2.2.2 Q (F0 m lf.2.2.1.1 ls (evS (ev ad xs bS) lf.2.2.2.2.1))
def xHI (p : Program) (l : Launch) (en : Env) (s : State) (m : MethodId) (args : Array Value) (below : List Frame) (meth : Method) (c : Code) (Q : State → Prop) (xs : Nat → Int32) (bS : Nat) (aC : Nat → ClassId) (D : va_G) (A : Nat → Prop) (M : XM) (n0 : Nat) (ad0 : Nat → Nat) (ih : XGo) : Prop :=
  ∀ (cur : List XI) (lv : XL) (st : List Value) (σ : XS) (leaves : List XLf), ih cur lv st σ = some leaves → (∀ x ∈ cur, x ∈ xmC M) → (∀ lf ∈ leaves, xleaf p l en s m args below meth c Q xs bS aC D A M n0 ad0 lf) → ∀ pc, (∀ e t, cur = e :: t → e.1 = pc) →
    ∀ (ad : Nat → Nat) (H : Heap) (locs : List Loc) (ls : Array Slot), (∀ j, j < n0 → ad j = ad0 j) → n0 ≤ σ.2.2.1 → xal σ.2.2.1 lv st σ.2.1 = true → xsat xs σ.1 → xWld D aC A ad xs bS σ.2.1 H → va_S A s.heap H locs → lv_has ls (xmN M) (evL (ev ad xs bS) lv) →
      W p l en (xmR M) s m args below meth c H locs σ.2.2.2.1 σ.2.2.2.2 Q (F0 m pc ls (evS (ev ad xs bS) st))
theorem xnext_in {t : List XI} {pc : Nat} : (∀ x ∈ xnext (xmC M) t pc, x ∈ xmC M) ∧ ∀ e t', xnext (xmC M) t pc = e :: t' → e.1 = pc := by
  refine ⟨fun x hx => ?_, fun e t' h => (xnext_spec h).1⟩
  cases hc : xnext (xmC M) t pc with
  | nil => rw [hc] at hx; cases hx
  | cons e t' => rw [hc] at hx; exact (xnext_spec hc).2 x hx
theorem xfind_in {pc : Nat} : (∀ x ∈ xfind (xmC M) pc, x ∈ xmC M) ∧ ∀ e t', xfind (xmC M) pc = e :: t' → e.1 = pc := by
  refine ⟨fun x hx => ?_, fun e t' h => (xfind_spec h).1⟩
  cases hc : xfind (xmC M) pc with
  | nil => rw [hc] at hx; cases hx
  | cons e t' => rw [hc] at hx; exact (xfind_spec hc).2 x hx
theorem xcall_ok (C : xCtx p l s m args meth c M D aC A xs bS scr) (hcf : xCfOk l Ms D aC A xs bS scr cf) (hV : ∀ e ∈ xmC M, xVE Ms M e) {ih : XGo} (hih : xHI p l en s m args below meth c Q xs bS aC D A M n0 ad0 ih)
    {e : XI} {t : List XI} (he : e ∈ xmC M) (hk3 : e.2.2.1 = 3) {lv : XL} {st : List Value} {σ : XS} {leaves : List XLf} (h : xcall Ms cls M cf ih e t lv st σ = some leaves) (hlf : ∀ lf ∈ leaves, xleaf p l en s m args below meth c Q xs bS aC D A M n0 ad0 lf)
    {ad : Nat → Nat} {H : Heap} {locs : List Loc} {ls : Array Slot} (ha : ∀ j, j < n0 → ad j = ad0 j) (hn : n0 ≤ σ.2.2.1) (hwf : xal σ.2.2.1 lv st σ.2.1 = true) (hs : xsat xs σ.1) (hw : xWld D aC A ad xs bS σ.2.1 H) (hS : va_S A s.heap H locs) (hl : lv_has ls (xmN M) (evL (ev ad xs bS) lv)) :
    W p l en (xmR M) s m args below meth c H locs σ.2.2.2.1 σ.2.2.2.2 Q (F0 m e.1 ls (evS (ev ad xs bS) st)) := by
  obtain ⟨pe, hh, n, ce, sl⟩ := σ
  unfold xcall at h
  split at h
  · rename_i mode k ci tl pe' hh' n' ce' sl' haux hσ
    cases hσ
    split at h
    · cases h
    · rename_i Y hY
      generalize hchk : (Nat.ble (xmA Y) st.length && (Nat.ble (xcats (st.drop (xmA Y))) 8 && (Nat.ble ((xmR Y).frames + 1) (xmR M).frames && (Nat.ble (8 + (xmN Y + 11) + (xmR Y).locals) (xmR M).locals && (Nat.ble (ce + (xmR Y).cells) (xmR M).cells && (Nat.ble (sl + (xmR Y).slots) (xmR M).slots && xrecv (xmode mode) ci (st.take (xmA Y)).reverse hh)))))) = b at h
      cases b with
      | false => cases h
      | true =>
        simp only [Bool.and_eq_true] at hchk
        obtain ⟨c1, c2, c3, c4, c5, c6, c9⟩ := hchk
        obtain ⟨oL, oS, oH⟩ := xal_spec hwf
        dsimp only at oL oS oH
        have c7 := oL
        have c8 : xoS n (st.drop (xmA Y)) = true := xoS_drop oS
        simp only [cond_true] at h
        split at h
        · rename_i rs hrs
          have hve := hV e he
          unfold xVE at hve
          rw [hk3] at hve
          obtain ⟨idx, hd, hvY⟩ := hve mode k ci tl haux
          obtain ⟨hwR, hmet⟩ := hcf k _ pe hh n rs hrs Y hY hs (xoS_rev (xoS_take oS)) oH
          have hrun := xw_inv (e := en) (below := below) (Y := Y) (cells := ce) (slots := sl) C (hvY Y hY) hd (hmet ad) (Nat.le_of_ble_eq_true c1) (Nat.le_of_ble_eq_true c2) ⟨Nat.le_of_ble_eq_true c3, Nat.le_of_ble_eq_true c4⟩ ⟨Nat.le_of_ble_eq_true c5, Nat.le_of_ble_eq_true c6⟩ c9 hw hS hl.1
          refine xw_call hrun hS (fun r hr h0 ad' H1 locs1 g1 g2 g3 g4 => ?_) (fun r hr k9 h0 hk2 ad' H1 locs1 g1 g2 g3 g4 q cell q1 q2 q3 => ?_)
          · obtain ⟨r', h5, h6⟩ := xall_spec h r hr
            obtain ⟨w1, w2, w3⟩ := hwR r hr
            obtain ⟨r0, v, pe2, hh2, n2⟩ := r
            have h0 : r0 = 0 := h0
            subst h0
            dsimp only at w1 w2 w3
            have h5 : ih (xnext (xmC M) t (e.1 + 3)) lv (v.toList ++ st.drop (xmA Y)) (pe2, hh2, n2, ce + (xmR Y).cells, sl + (xmR Y).slots) = some r' := h5
            have hin := xnext_in (M := M) (t := t) (pc := e.1 + 3)
            have := hih _ _ _ _ _ h5 hin.1 (fun lf hlf9 => hlf lf (h6 lf hlf9)) _ hin.2 ad' H1 locs1 ls (fun j hj => (g1 j (Nat.lt_of_lt_of_le hj hn)).trans (ha j hj)) (Nat.le_trans hn w1) (xal_mk (xoL_mono w1 oL) (xoS_app.mpr ⟨w2, xoS_mono w1 c8⟩) w3) g2 g3 g4 (by rw [xoL_ev g1 c7]; exact hl)
            have e9 : evS (ev ad' xs bS) (v.toList ++ st.drop (xmA Y)) = (v.map (ev ad' xs bS)).toList ++ evS (ev ad xs bS) (st.drop (xmA Y)) := by
              rw [← xoS_ev (xs := xs) (bS := bS) g1 c8]
              unfold evS
              rw [List.map_append]
              cases v <;> rfl
            rw [e9] at this
            exact this
          · obtain ⟨r', h5, h6⟩ := xall_spec h r hr
            obtain ⟨r0, v, pe2, hh2, n2⟩ := r
            have h0 : r0 = k9 + 1 := h0
            subst h0
            cases h5
        · cases h
  · cases h
end
end XR
