/-! runs hold of the machine -/
section XR
theorem xfind_spec {code : List XI} {pc : Nat} {e : XI} {t : List XI} : xfind code pc = e :: t → e.1 = pc ∧ ∀ x ∈ e :: t, x ∈ code := by
  induction code with
  | nil => intro h; cases h
  | cons a r ih =>
    intro h
    unfold xfind at h
    cases hb : Nat.beq a.1 pc with
    | true =>
      rw [hb] at h
      cases h
      exact ⟨Nat.eq_of_beq_eq_true hb, fun x hx => hx⟩
    | false =>
      rw [hb] at h
      obtain ⟨h1, h2⟩ := ih h
      exact ⟨h1, fun x hx => List.mem_cons_of_mem _ (h2 x hx)⟩
theorem xnext_spec {code t0 : List XI} {pc : Nat} {e : XI} {t : List XI} (ht : ∀ x ∈ t0, x ∈ code) (h : xnext code t0 pc = e :: t) : e.1 = pc ∧ ∀ x ∈ e :: t, x ∈ code := by
  unfold xnext at h
  split at h
  · exact xfind_spec h
  · rename_i a r
    cases hb : Nat.beq a.1 pc with
    | true =>
      rw [hb] at h
      cases h
      exact ⟨Nat.eq_of_beq_eq_true hb, ht⟩
    | false =>
      rw [hb] at h
      exact xfind_spec h
theorem xall_spec {α β : Type} {f : α → Option (List β)} : ∀ {l : List α} {r : List β}, xall f l = some r → ∀ a ∈ l, ∃ r', f a = some r' ∧ ∀ x ∈ r', x ∈ r
  | [], _, _, a, ha => by cases ha
  | b :: l, r, h, a, ha => by
    unfold xall at h
    split at h
    · cases h
    · rename_i r1 h1
      split at h
      · cases h
      · rename_i r2 h2
        obtain rfl := Option.some.inj h
        rcases List.mem_cons.mp ha with rfl | ha
        · exact ⟨r1, h1, fun x hx => List.mem_append_left _ hx⟩
        · obtain ⟨r', h3, h4⟩ := xall_spec h2 a ha
          exact ⟨r', h3, fun x hx => List.mem_append_right _ (h4 x hx)⟩
theorem xhand_spec {cls : Nat → Nat} {pc E hp : Nat} : ∀ {tab : List (Nat × Nat × Nat × Nat)}, xhand cls pc E tab = some hp → ∃ pre q suf, tab = pre ++ q :: suf ∧ q.2.2.1 = hp ∧ (q.1 ≤ pc ∧ pc < q.2.1) ∧ cls q.2.2.2 = E ∧ ∀ z ∈ pre, ¬ (z.1 ≤ pc ∧ pc < z.2.1) ∨ (cls z.2.2.2 ≠ E ∧ E ≤ 2)
  | [], h => nomatch h
  | q :: t, h => by
    unfold xhand at h
    cases h1 : (Nat.ble q.1 pc && Nat.ble (pc + 1) q.2.1) with
    | true =>
      rw [h1] at h
      rw [Bool.and_eq_true] at h1
      have g1 := Nat.le_of_ble_eq_true h1.1
      have g2 := Nat.le_of_ble_eq_true h1.2
      simp only [cond_true] at h
      cases h2 : Nat.beq (cls q.2.2.2) E with
      | true =>
        rw [h2] at h
        exact ⟨[], q, t, rfl, Option.some.inj h, ⟨g1, g2⟩, Nat.eq_of_beq_eq_true h2, fun z hz => nomatch hz⟩
      | false =>
        rw [h2] at h
        simp only [cond_false] at h
        cases h3 : (Nat.ble (cls q.2.2.2) 2 && Nat.ble E 2) with
        | false => rw [h3] at h; cases h
        | true =>
          rw [h3] at h
          rw [Bool.and_eq_true] at h3
          obtain ⟨pre, x, suf, e1, e2, e3, e4, e5⟩ := xhand_spec h
          refine ⟨q :: pre, x, suf, by rw [e1]; rfl, e2, e3, e4, fun z hz => ?_⟩
          rcases List.mem_cons.mp hz with rfl | hz
          · exact Or.inr ⟨(fun z9 => by rw [z9, Nat.beq_refl] at h2; exact absurd h2 (by decide)), Nat.le_of_ble_eq_true h3.2⟩
          · exact e5 z hz
    | false =>
      rw [h1] at h
      obtain ⟨pre, x, suf, e1, e2, e3, e4, e5⟩ := xhand_spec h
      refine ⟨q :: pre, x, suf, by rw [e1]; rfl, e2, e3, e4, fun z hz => ?_⟩
      rcases List.mem_cons.mp hz with rfl | hz
      · refine Or.inl fun ⟨a, b⟩ => ?_
        rw [Nat.ble_eq_true_of_le a, Nat.ble_eq_true_of_le (show pc + 1 ≤ z.2.1 from b)] at h1
        cases h1
      · exact e5 z hz
/-- what a row of a listing wants of the tables -/
def xvt (M : XM) (pc E : Nat) : Prop :=
  ∃ ik is ic tx, E ≤ 2 ∧ (xmY M).cls = "PackWright" ∧ (is, tx) ∈ xStr ∧ decode (xmB M) pc = .ok (.new ik, 3) ∧ decode (xmB M) (pc + 3) = .ok (.dup, 1) ∧
    ((decode (xmB M) (pc + 4) = .ok (.ldc is, 2) ∧ decode (xmB M) (pc + 6) = .ok (.invokespecial ic, 3) ∧ decode (xmB M) (pc + 9) = .ok (.athrow, 1)) ∨
     (decode (xmB M) (pc + 4) = .ok (.ldc_w is, 3) ∧ decode (xmB M) (pc + 7) = .ok (.invokespecial ic, 3) ∧ decode (xmB M) (pc + 10) = .ok (.athrow, 1))) ∧
    Jvm.Cond.classLink (xmY M).cls ik (exN E) ∈ xTs ∧ Jvm.Cond.initialized (exN E) ∈ xTs ∧ Jvm.Cond.methodLink (xmY M).cls ic (Bundle.initS (exN E)) ∈ xTs
def xVE (Ms : List XM) (M : XM) (e : XI) : Prop :=
  match e.2.2.1 with
  | 0 => decode (xmB M) e.1 = .ok (e.2.1, ilen e.2.1) ∧ ∀ k a t, e.2.1 = .ldc2_w k → e.2.2.2 = a :: t → Jvm.Cond.constantLong (xmY M).cls k (Int64.ofNat a) ∈ xTs
  | 1 => decode (xmB M) e.1 = .ok (e.2.1, ilen e.2.1) ∧ xvh xTs (xmY M).cls (decide ((xmY M).name = "<init>")) e.2.1 e.2.2.2
  | 2 => decode (xmB M) e.1 = .ok (e.2.1, xil e.1 e.2.1)
  | 3 => ∀ mode k ci t, e.2.2.2 = mode :: k :: ci :: t → ∃ idx, decode (xmB M) e.1 = .ok (xvi mode idx, 3) ∧ ∀ Y, xnth Ms k = some Y → xvc M Y mode ci idx
  | 4 => decode (xmB M) e.1 = .ok (e.2.1, ilen e.2.1)
  | 5 => ∀ E t, e.2.2.2 = E :: t → xvt M e.1 E
  | 6 => ∃ idx, decode (xmB M) e.1 = .ok (.invokespecial idx, 3) ∧ Jvm.Cond.methodLink (xmY M).cls idx Lib.objectInit ∈ xTs ∧ Jvm.Cond.instanceMethod Lib.objectInit ∈ xTs ∧ Jvm.Cond.code Lib.objectInit ⟨#[0xb1]⟩ 1 none ∈ xTs
  | 7 => ∃ idx, decode (xmB M) e.1 = .ok (.invokestatic idx, 3) ∧ Jvm.Cond.methodLink (xmY M).cls idx arraycopyName ∈ xTs ∧ Jvm.Cond.native arraycopyName ∈ xTs ∧ Jvm.Cond.static arraycopyName ∈ xTs ∧ Jvm.Cond.initialized "java/lang/System" ∈ xTs
  | _ => True
/-- what the tables say of all -/
def xGlob : Prop := (∀ (ci : Nat) (C : String) (T : u_T) (N : Nat), classes[ci]? = some (C, T, N) → ∀ w ∈ u_ws C T N, w ∈ xTs) ∧ ∀ E, E ≤ 2 → Jvm.Cond.castable (exN E) (exN E) ∈ xNg
def xTabOk (cls : Nat → Nat) (M : XM) : Prop := ∀ q ∈ xmT M, q.2.2.2 ≠ 0 ∧ cls q.2.2.2 ≤ 2 ∧ Jvm.Cond.classLink (xmY M).cls q.2.2.2 (exN (cls q.2.2.2)) ∈ xTs
section
variable {p : Program} {l : Launch} {en : Env} {s : State} {m : MethodId} {args : Array Value} {below : List Frame} {meth : Method} {c : Code} {Q : State → Prop}
variable {xs : Nat → Int32} {bS : Nat} {aC : Nat → ClassId} {D : va_G} {A : Nat → Prop} {scr : Option Nat} {M : XM} {Ms : List XM} {cls : Nat → Nat} {cf : XCf} {n0 : Nat} {ad0 : Nat → Nat}
/-- an end of a run is an end of the walk -/
def xleaf (p : Program) (l : Launch) (en : Env) (s : State) (m : MethodId) (args : Array Value) (below : List Frame) (meth : Method) (c : Code) (Q : State → Prop) (xs : Nat → Int32) (bS : Nat) (aC : Nat → ClassId) (D : va_G) (A : Nat → Prop) (M : XM) (n0 : Nat) (ad0 : Nat → Nat) (lf : XLf) : Prop :=
  ∀ (ad : Nat → Nat) (H : Heap) (locs : List Loc) (ls : Array Slot), lf.2.2.1 ∈ xmC M → (lf.1 = 0 → lf.2.2.1.2.2.1 = 4) → (lf.1 = 1 → lf.2.2.1.2.2.1 = 5 ∧ ∃ t, lf.2.2.1.2.2.2 = lf.2.1 :: t) → (∀ j, j < n0 → ad j = ad0 j) → xsat xs lf.2.2.2.2.2.1 → xWld D aC A ad xs bS lf.2.2.2.2.2.2.1 H → va_S A s.heap H locs → lv_has ls (xmN M) (evL (ev ad xs bS) lf.2.2.2.1) →
    (lf.1 ≠ 2 → W p l en (xmR M) s m args below meth c H locs lf.2.2.2.2.2.2.2.2.1 lf.2.2.2.2.2.2.2.2.2 Q (F0 m lf.2.2.1.1 ls (evS (ev ad xs bS) lf.2.2.2.2.1))) ∧
    (lf.1 = 2 → lf.2.1 ≤ 2 → ∀ (q : Addr) (ce : Cell), H[q]? = some ce → ce.vm = .none → s.vm.findClass (exN lf.2.1) = some ce.cls → vx_W p l en (xmR M) s m args below meth c H locs lf.2.2.2.2.2.2.2.2.1 lf.2.2.2.2.2.2.2.2.2 Q (F0 m lf.2.2.1.1 ls (evS (ev ad xs bS) lf.2.2.2.2.1)) q)
def xHI (p : Program) (l : Launch) (en : Env) (s : State) (m : MethodId) (args : Array Value) (below : List Frame) (meth : Method) (c : Code) (Q : State → Prop) (xs : Nat → Int32) (bS : Nat) (aC : Nat → ClassId) (D : va_G) (A : Nat → Prop) (M : XM) (n0 : Nat) (ad0 : Nat → Nat) (ih : XGo) : Prop :=
  ∀ (cur : List XI) (lv : XL) (st : List Value) (σ : XS) (leaves : List XLf), ih cur lv st σ = some leaves → (∀ x ∈ cur, x ∈ xmC M) → (∀ lf ∈ leaves, xleaf p l en s m args below meth c Q xs bS aC D A M n0 ad0 lf) → ∀ pc, (∀ e t, cur = e :: t → e.1 = pc) →
    ∀ (ad : Nat → Nat) (H : Heap) (locs : List Loc) (ls : Array Slot), (∀ j, j < n0 → ad j = ad0 j) → n0 ≤ σ.2.2.1 → xsat xs σ.1 → xWld D aC A ad xs bS σ.2.1 H → va_S A s.heap H locs → lv_has ls (xmN M) (evL (ev ad xs bS) lv) →
      W p l en (xmR M) s m args below meth c H locs σ.2.2.2.1 σ.2.2.2.2 Q (F0 m pc ls (evS (ev ad xs bS) st))
theorem xnext_in {t : List XI} {pc : Nat} (ht : ∀ x ∈ t, x ∈ xmC M) : (∀ x ∈ xnext (xmC M) t pc, x ∈ xmC M) ∧ ∀ e t', xnext (xmC M) t pc = e :: t' → e.1 = pc := by
  refine ⟨fun x hx => ?_, fun e t' h => (xnext_spec ht h).1⟩
  cases hc : xnext (xmC M) t pc with
  | nil => rw [hc] at hx; cases hx
  | cons e t' => rw [hc] at hx; exact (xnext_spec ht hc).2 x hx
theorem xfind_in {pc : Nat} : (∀ x ∈ xfind (xmC M) pc, x ∈ xmC M) ∧ ∀ e t', xfind (xmC M) pc = e :: t' → e.1 = pc := by
  refine ⟨fun x hx => ?_, fun e t' h => (xfind_spec h).1⟩
  cases hc : xfind (xmC M) pc with
  | nil => rw [hc] at hx; cases hx
  | cons e t' => rw [hc] at hx; exact (xfind_spec hc).2 x hx
theorem xcatch_ok (C : xCtx p l s m args meth c M D aC A xs bS scr) (hV : ∀ e ∈ xmC M, xVE Ms M e) {ih : XGo} (hih : xHI p l en s m args below meth c Q xs bS aC D A M n0 ad0 ih) {hp : Nat} {lv l' : XL} {cur : List XI} (h : xcatch (xmC M) (xmN M) hp lv = some (cur, l')) {σ : XS} {leaves : List XLf} (hr : ih cur l' [] σ = some leaves) (hlf : ∀ lf ∈ leaves, xleaf p l en s m args below meth c Q xs bS aC D A M n0 ad0 lf)
    {ad : Nat → Nat} {H : Heap} {locs : List Loc} {ls : Array Slot} (ha : ∀ j, j < n0 → ad j = ad0 j) (hn : n0 ≤ σ.2.2.1) (hs : xsat xs σ.1) (hw : xWld D aC A ad xs bS σ.2.1 H) (hS : va_S A s.heap H locs) (hl : lv_has ls (xmN M) (evL (ev ad xs bS) lv)) (q : Nat) :
    W p l en (xmR M) s m args below meth c H locs σ.2.2.2.1 σ.2.2.2.2 Q (F0 m hp ls [.ref q]) := by
  obtain ⟨hx, hb, -⟩ := id C
  have hsub : ∀ {ls' : Array Slot} {k : Nat}, lv_has ls' (xmN M) ((k, .ref q) :: (evL (ev ad xs bS) lv).filter (xf1 k)) → lv_has ls' (xmN M) (evL (ev ad xs bS) (lv.filter (xf1 k))) := by
    intro ls' k h9
    rw [← xf1_ev (ev_cat ad xs bS)]
    exact ⟨h9.1, h9.2.1, fun z hz => h9.2.2 z (List.mem_cons_of_mem _ hz)⟩
  unfold xcatch at h
  split at h
  · rename_i pc0 k aux t hf
    cases hk : Nat.ble (k + 1) (xmN M) with
    | false => rw [hk] at h; cases h
    | true =>
      rw [hk] at h
      obtain ⟨rfl, rfl⟩ := Prod.mk.inj (Option.some.inj h)
      obtain ⟨e1, e2⟩ := xfind_spec hf
      have e1 : pc0 = hp := e1
      subst e1
      have hv := (hV _ (e2 _ List.mem_cons_self)).1
      have hin := xnext_in (M := M) (t := t) (pc := pc0 + 2) (fun x hx => e2 x (List.mem_cons_of_mem _ hx))
      exact lv_astore hx hb hv hl (Nat.le_of_ble_eq_true hk) rfl (fun ls' hl' => hih _ _ _ _ _ hr hin.1 hlf _ hin.2 ad H locs ls' ha hn hs hw hS (hsub hl'))
  · rename_i pc0 k aux t hf
    cases hk : Nat.ble (k.val + 1) (xmN M) with
    | false => rw [hk] at h; cases h
    | true =>
      rw [hk] at h
      obtain ⟨rfl, rfl⟩ := Prod.mk.inj (Option.some.inj h)
      obtain ⟨e1, e2⟩ := xfind_spec hf
      have e1 : pc0 = hp := e1
      subst e1
      have hv := (hV _ (e2 _ List.mem_cons_self)).1
      have hin := xnext_in (M := M) (t := t) (pc := pc0 + 1) (fun x hx => e2 x (List.mem_cons_of_mem _ hx))
      exact lv_astore_n hx hb hv rfl hl (Nat.le_of_ble_eq_true hk) rfl (fun ls' hl' => hih _ _ _ _ _ hr hin.1 hlf _ hin.2 ad H locs ls' ha hn hs hw hS (hsub hl'))
  · cases h
theorem xcall_ok (C : xCtx p l s m args meth c M D aC A xs bS scr) (hcf : xCfOk l Ms D aC A xs bS cf) (hG : xGlob) (hT : xTabOk cls M) (hV : ∀ e ∈ xmC M, xVE Ms M e) {ih : XGo} (hih : xHI p l en s m args below meth c Q xs bS aC D A M n0 ad0 ih)
    {e : XI} {t : List XI} (he : e ∈ xmC M) (ht : ∀ x ∈ t, x ∈ xmC M) (hk3 : e.2.2.1 = 3) {lv : XL} {st : List Value} {σ : XS} {leaves : List XLf} (h : xcall Ms cls M cf ih e t lv st σ = some leaves) (hlf : ∀ lf ∈ leaves, xleaf p l en s m args below meth c Q xs bS aC D A M n0 ad0 lf)
    {ad : Nat → Nat} {H : Heap} {locs : List Loc} {ls : Array Slot} (ha : ∀ j, j < n0 → ad j = ad0 j) (hn : n0 ≤ σ.2.2.1) (hs : xsat xs σ.1) (hw : xWld D aC A ad xs bS σ.2.1 H) (hS : va_S A s.heap H locs) (hl : lv_has ls (xmN M) (evL (ev ad xs bS) lv)) :
    W p l en (xmR M) s m args below meth c H locs σ.2.2.2.1 σ.2.2.2.2 Q (F0 m e.1 ls (evS (ev ad xs bS) st)) := by
  obtain ⟨pe, hh, n, ce, sl⟩ := σ
  unfold xcall at h
  split at h
  · rename_i mode k ci tl pe' hh' n' ce' sl' haux hσ
    cases hσ
    split at h
    · cases h
    · rename_i Y hY
      generalize hchk : (Nat.ble (xmA Y) st.length && (Nat.ble (xcats (st.drop (xmA Y))) 8 && (Nat.ble ((xmR Y).frames + 1) (xmR M).frames && (Nat.ble (8 + (xmN Y + 11) + (xmR Y).locals) (xmR M).locals && (Nat.ble (ce + (xmR Y).cells) (xmR M).cells && (Nat.ble (sl + (xmR Y).slots) (xmR M).slots && (xoL n lv && (xoS n (st.drop (xmA Y)) && xrecv (xmode mode) ci (st.take (xmA Y)).reverse hh)))))))) = b at h
      cases b with
      | false => cases h
      | true =>
        simp only [Bool.and_eq_true] at hchk
        obtain ⟨c1, c2, c3, c4, c5, c6, c7, c8, c9⟩ := hchk
        simp only [cond_true] at h
        split at h
        · rename_i rs hrs
          have hve := hV e he
          unfold xVE at hve
          rw [hk3] at hve
          obtain ⟨idx, hd, hvY⟩ := hve mode k ci tl haux
          have hrun := xw_inv (e := en) (below := below) (Y := Y) (cells := ce) (slots := sl) C (hvY Y hY) hd (hcf k _ pe hh n rs hrs Y hY hs ad) (Nat.le_of_ble_eq_true c1) (Nat.le_of_ble_eq_true c2) ⟨Nat.le_of_ble_eq_true c3, Nat.le_of_ble_eq_true c4⟩ ⟨Nat.le_of_ble_eq_true c5, Nat.le_of_ble_eq_true c6⟩ c9 hw hS hl.1
          refine xw_call hrun hS (fun r hr h0 ad' H1 locs1 g1 g2 g3 g4 => ?_) (fun r hr k9 h0 hk2 ad' H1 locs1 g1 g2 g3 g4 q cell q1 q2 q3 => ?_)
          · obtain ⟨r', h5, h6⟩ := xall_spec h r hr
            obtain ⟨r0, v, pe2, hh2, n2⟩ := r
            have h0 : r0 = 0 := h0
            subst h0
            unfold xback at h5
            dsimp only at h5
            cases hnn : Nat.ble n n2 with
            | false => rw [hnn] at h5; cases h5
            | true =>
              rw [hnn] at h5
              have hle := Nat.le_of_ble_eq_true hnn
              have hin := xnext_in (M := M) (t := t) (pc := e.1 + 3) ht
              have := hih _ _ _ _ _ h5 hin.1 (fun lf hlf9 => hlf lf (h6 lf hlf9)) _ hin.2 ad' H1 locs1 ls (fun j hj => (g1 j (Nat.lt_of_lt_of_le hj hn)).trans (ha j hj)) (Nat.le_trans hn hle) g2 g3 g4 (by rw [xoL_ev g1 c7]; exact hl)
              have e9 : evS (ev ad' xs bS) (v.toList ++ st.drop (xmA Y)) = (v.map (ev ad' xs bS)).toList ++ evS (ev ad xs bS) (st.drop (xmA Y)) := by
                rw [← xoS_ev (xs := xs) (bS := bS) g1 c8]
                unfold evS
                rw [List.map_append]
                cases v <;> rfl
              rw [e9] at this
              exact this
          · obtain ⟨r', h5, h6⟩ := xall_spec h r hr
            obtain ⟨r0, v, pe2, hh2, n2⟩ := r
            have h0 : r0 = k9 + 1 := h0
            subst h0
            unfold xback at h5
            dsimp only at h5
            cases hnn : Nat.ble n n2 with
            | false => rw [hnn] at h5; cases h5
            | true =>
              rw [hnn] at h5
              simp only [cond_true] at h5
              have hle := Nat.le_of_ble_eq_true hnn
              have hag : ∀ j, j < n0 → ad' j = ad0 j := fun j hj => (g1 j (Nat.lt_of_lt_of_le hj hn)).trans (ha j hj)
              have hl9 : lv_has ls (xmN M) (evL (ev ad' xs bS) lv) := by rw [xoL_ev g1 c7]; exact hl
              rw [← xoS_ev (xs := xs) (bS := bS) g1 c8]
              split at h5
              · obtain rfl := Option.some.inj h5
                have hx9 := hlf _ (h6 _ List.mem_cons_self) ad' H1 locs1 ls he (fun z => by cases z) (fun z => by cases z) hag g2 g3 g4 hl9
                exact hx9.2 rfl hk2 q cell q1 q2 q3
              · split at h5
                · rename_i hp hhp
                  split at h5
                  · rename_i c' l' hc'
                    obtain ⟨-, -, -, -, hown, hts, -, -, htab, hSta, -⟩ := id C
                    obtain ⟨pre, qq, suf, f1, f2, f3, f4, f5⟩ := xhand_spec hhp
                    have hqin : qq ∈ xmT M := by rw [f1]; exact List.mem_append_right _ List.mem_cons_self
                    obtain ⟨t1, t2, t3⟩ := hT qq hqin
                    rw [f4] at t3
                    have hsp : c.exceptionTable.toList = (tableOf pre) ++ (⟨qq.1, qq.2.1, qq.2.2.1, qq.2.2.2⟩ : ExceptionTableEntry) :: tableOf suf := by
                      rw [htab (Or.inr (fun z9 => by rw [z9] at hqin; cases hqin)), f1]; unfold tableOf; rw [List.map_append]; rfl
                    refine vx_catch (own := (xmY M).cls) (name := exN k9) hown (tableOf pre) _ (tableOf suf) hsp (fun z hz => ?_) ?_ t1 (hts _ t3) (va_Nw.use rfl (hSta.2.1 _ (hG.2 k9 hk2))) q1 q2 q3 ?_
                    · unfold tableOf at hz
                      obtain ⟨z0, hz0, rfl⟩ := List.mem_map.mp hz
                      have hz9 : z0 ∈ xmT M := by rw [f1]; exact List.mem_append_left _ hz0
                      obtain ⟨u1, u2, u3⟩ := hT z0 hz9
                      rcases f5 z0 hz0 with f6 | ⟨f6, f7⟩
                      · refine Or.inl ?_
                        cases hcv : covers (⟨z0.1, z0.2.1, z0.2.2.1, z0.2.2.2⟩ : ExceptionTableEntry) e.1 with
                        | false => rfl
                        | true =>
                          refine absurd ?_ f6
                          simpa [covers] using hcv
                      · exact Or.inr ⟨u1, _, hts _ u3, hSta.2.2.2.2.2.2.2 _ _ hk2 u2 (fun z9 => f6 z9.symm)⟩
                    · simp [covers, f3]
                    · have := xcatch_ok (en := en) C hV hih (hp := hp) hc' h5 (fun lf hlf9 => hlf lf (h6 lf hlf9)) (ad := ad') (ls := ls) hag (Nat.le_trans hn hle) g2 g3 g4 hl9 q
                      show W p l en (xmR M) s m args below meth c H1 locs1 _ _ Q (F0 m qq.2.2.1 ls [.ref q])
                      rw [f2]
                      exact this
                  · cases h5
                · cases h5
        · cases h
  · cases h
end
end XR
