/-! the rows of cells -/
section XK
def evI : Value → Int32
  | .int x => x
  | _ => 0
def evG : Value → Int64
  | .long x => x
  | _ => 0
def evR : Value → Option Nat
  | .ref a => some a
  | _ => none
def evA (E : Value → Value) (ti : Nat) (vs : List Value) : vp_A :=
  match ti with
  | 0 => (vs.length, .inl (fun j => evI (E (vs.getD j (.int 0)))))
  | 1 => (vs.length, .inl (fun j => evI (E (vs.getD j (.int 0)))))
  | 2 => (vs.length, .inl (fun j => evI (E (vs.getD j (.int 0)))))
  | _ => (vs.length, .inr (.inr (.inr (.inr (fun j => evR (E (vs.getD j .null)))))))
def evC (E : Value → Value) (aC : Nat → ClassId) : XCl → va_E
  | (false, ci, fs) => .inr (ci, fs.map E)
  | (true, ti, vs) => .inl (aC ti, evA E ti vs)
def evH (E : Value → Value) (ad : Nat → Nat) (aC : Nat → ClassId) (h : XH) : va_W := h.map (fun q => (ad q.1, evC E aC q.2))
def xtys (aC : Nat → ClassId) : List (ClassId × FieldType) := [(aC 0, xty 0), (aC 1, xty 1), (aC 2, xty 2), (aC 3, xty 3), (aC 4, xty 4), (aC 5, xty 5), (aC 6, xty 6), (aC 7, xty 7), (aC 8, xty 8)]
theorem xtys_get (aC : Nat → ClassId) {ti : Nat} (h : ti ≤ 8) : (xtys aC)[ti]? = some (aC ti, xty ti) := by
  match ti, h with
  | 0, _ => rfl
  | 1, _ => rfl
  | 2, _ => rfl
  | 3, _ => rfl
  | 4, _ => rfl
  | 5, _ => rfl
  | 6, _ => rfl
  | 7, _ => rfl
  | 8, _ => rfl
  | n + 9, h => omega
theorem xty_obj {ti : Nat} (h : 3 ≤ ti) (h5 : ti ≤ 5) : ∃ C, xty ti = .object C := by
  match ti, h, h5 with
  | 3, _, _ => exact ⟨_, rfl⟩
  | 4, _, _ => exact ⟨_, rfl⟩
  | 5, _, _ => exact ⟨_, rfl⟩
  | n + 6, _, h5 => omega
theorem xty_ref {ti : Nat} (h : 3 ≤ ti) : (xty ti).isReference = true := by
  match ti, h with
  | 3, _ => rfl
  | 4, _ => rfl
  | 5, _ => rfl
  | 6, _ => rfl
  | 7, _ => rfl
  | n + 8, _ => rfl
theorem xdv_ref {ti : Nat} (h : 3 ≤ ti) : xdv ti = .null := by
  match ti, h with
  | n + 3, _ => rfl
theorem xnth_eq {α : Type} : ∀ (l : List α) (k : Nat), xnth l k = l[k]?
  | [], _ => by simp [xnth]
  | _ :: _, 0 => by simp [xnth]
  | _ :: t, k + 1 => by simp [xnth, xnth_eq t k]
theorem xset_eq : ∀ (l : List Value) (k : Nat) (v : Value), xset l k v = l.set k v
  | [], _, _ => by simp [xset]
  | _ :: _, 0, _ => by simp [xset]
  | _ :: t, k + 1, v => by simp [xset, xset_eq t k v]
theorem evA_len (E : Value → Value) (ti : Nat) (vs : List Value) : (evA E ti vs).1 = vs.length := by unfold evA; split <;> rfl
theorem xhk_get {E : Value → Value} {ad : Nat → Nat} {aC : Nat → ClassId} {o : Nat} {c : XCl} : ∀ {h : XH}, xhk h o = some c → ∃ q0, (evH E ad aC h)[q0]? = some (ad o, evC E aC c) ∧ ∀ d, (evH E ad aC h).set q0 (ad o, evC E aC d) = evH E ad aC (xhs h o d)
  | [], h => nomatch h
  | (j, c') :: t, h => by
    unfold xhk at h
    cases hb : Nat.beq j o with
    | true =>
      rw [hb] at h
      have e1 : c' = c := Option.some.inj h
      have e2 := Nat.eq_of_beq_eq_true hb
      subst e1; subst e2
      refine ⟨0, rfl, fun d => ?_⟩
      unfold xhs
      rw [hb]
      rfl
    | false =>
      rw [hb] at h
      obtain ⟨q0, h1, h2⟩ := xhk_get (E := E) (ad := ad) (aC := aC) h
      refine ⟨q0 + 1, by simpa [evH] using h1, fun d => ?_⟩
      unfold xhs
      rw [hb]
      show (_ :: (evH E ad aC t).set q0 _) = _
      rw [h2 d]
      rfl
theorem xov_ev {ad ad' : Nat → Nat} {xs : Nat → Int32} {bS n : Nat} (ha : ∀ j, j < n → ad' j = ad j) {v : Value} (h : xov n v = true) : ev ad' xs bS v = ev ad xs bS v := by
  cases v with
  | ref k => exact congrArg Value.ref (ha k (Nat.le_of_ble_eq_true h))
  | _ => rfl
theorem xoS_ev {ad ad' : Nat → Nat} {xs : Nat → Int32} {bS n : Nat} (ha : ∀ j, j < n → ad' j = ad j) {st : List Value} (h : xoS n st = true) : evS (ev ad' xs bS) st = evS (ev ad xs bS) st :=
  List.map_congr_left fun v hv => xov_ev ha (List.all_eq_true.mp h v hv)
theorem xoL_ev {ad ad' : Nat → Nat} {xs : Nat → Int32} {bS n : Nat} (ha : ∀ j, j < n → ad' j = ad j) {lv : XL} (h : xoL n lv = true) : evL (ev ad' xs bS) lv = evL (ev ad xs bS) lv :=
  List.map_congr_left fun q hq => by rw [xov_ev ha (List.all_eq_true.mp h q hq)]
theorem evC_congr {E E' : Value → Value} {aC : Nat → ClassId} {c : XCl} (h : ∀ v ∈ c.2.2, E' v = E v) (hi : E' (.int 0) = E (.int 0)) (hl : E' (.long 0) = E (.long 0)) (hn : E' .null = E .null) : evC E' aC c = evC E aC c := by
  obtain ⟨b, ti, vs⟩ := c
  have hg : ∀ (d : Value), E' d = E d → ∀ j, E' (vs.getD j d) = E (vs.getD j d) := by
    intro d hd j
    rw [List.getD_eq_getElem?_getD]
    cases hj : vs[j]? with
    | none => exact hd
    | some v => exact h v (List.mem_of_getElem? hj)
  cases b with
  | false => exact congrArg (fun z => Sum.inr (ti, z)) (List.map_congr_left h)
  | true =>
    show Sum.inl (aC ti, evA E' ti vs) = Sum.inl (aC ti, evA E ti vs)
    refine congrArg (fun z => Sum.inl (aC ti, z)) ?_
    unfold evA
    split
    · simp only [hg _ hi]
    · simp only [hg _ hi]
    · simp only [hg _ hi]
    · simp only [hg _ hn]
theorem xoH_ev {ad ad' : Nat → Nat} {xs : Nat → Int32} {bS n : Nat} {aC : Nat → ClassId} (ha : ∀ j, j < n → ad' j = ad j) {h : XH} (hh : xoH n h = true) : evH (ev ad' xs bS) ad' aC h = evH (ev ad xs bS) ad aC h :=
  List.map_congr_left fun q hq => by
    have h1 := List.all_eq_true.mp hh q hq
    rw [Bool.and_eq_true] at h1
    rw [ha _ (Nat.le_of_ble_eq_true h1.1), evC_congr (E := ev ad xs bS) (fun v hv => xov_ev ha (List.all_eq_true.mp h1.2 v hv)) rfl rfl rfl]
theorem xal_spec {n : Nat} {lv : XL} {st : List Value} {h : XH} (hh : xal n lv st h = true) : xoL n lv = true ∧ xoS n st = true ∧ xoH n h = true := by
  unfold xal at hh
  rw [Bool.and_eq_true, Bool.and_eq_true] at hh
  exact hh
theorem xRA_inj {s : State} {c1 c2 : ClassId} {ty : FieldType} (h1 : va_RA s c1 ty) (h2 : va_RA s c2 ty) : c1 = c2 := by
  cases ty with
  | object C =>
    obtain ⟨_, _, _, _, _, a⟩ := h1
    obtain ⟨_, _, _, _, _, b⟩ := h2
    exact Option.some.inj (a.symm.trans b)
  | _ =>
    have a : s.vm.findClass _ = some c1 := h1
    have b : s.vm.findClass _ = some c2 := h2
    exact Option.some.inj (a.symm.trans b)
theorem xfit_ok {ad : Nat → Nat} {xs : Nat → Int32} {bS : Nat} {ty : FieldType} {v : Value} (h : xfit ty v = true) : narrow ty (ev ad xs bS v) = ev ad xs bS v ∧ fits ty (ev ad xs bS v) = true := by
  unfold xfit at h
  split at h
  · exact ⟨rfl, rfl⟩
  · exact ⟨rfl, rfl⟩
  · rename_i x
    simp only [Bool.or_eq_true, decide_eq_true_eq] at h
    rcases h with rfl | rfl
    · exact ⟨show narrow .boolean (.int 0) = .int 0 by decide, show fits .boolean (.int 0) = true by decide⟩
    · exact ⟨show narrow .boolean (.int 1) = .int 1 by decide, show fits .boolean (.int 1) = true by decide⟩
  · rcases xref_ev (ad := ad) (xs := xs) (bS := bS) h with e | ⟨a, e⟩ <;> rw [e] <;> exact ⟨rfl, rfl⟩
  · rcases xref_ev (ad := ad) (xs := xs) (bS := bS) h with e | ⟨a, e⟩ <;> rw [e] <;> exact ⟨rfl, rfl⟩
  · cases h
theorem xcls_ok {ci : Nat} {C : String} {T : u_T} {N : Nat} (h : classes[ci]? = some (C, T, N)) : N = xNf ci ∧ (∀ k, k < N → parseFieldDescriptor (T k).2.2.1 = some (xTy ci k)) ∧ (∀ a, a < N → ∀ b, b < N → a ≠ b → (T a).2.1 ≠ (T b).2.1) := by
  match ci, h with
  | 0, h => cases h; exact ⟨rfl, xY0_ok, xN0⟩
  | 1, h => cases h; exact ⟨rfl, xY1_ok, xN1⟩
  | 2, h => cases h; exact ⟨rfl, xY2_ok, xN2⟩
  | 3, h => cases h; exact ⟨rfl, xY3_ok, xN3⟩
  | 4, h => cases h; exact ⟨rfl, xY4_ok, xN4⟩
  | 5, h => cases h; exact ⟨rfl, xY5_ok, xN5⟩
  | 6, h => cases h; exact ⟨rfl, xY6_ok, xN6⟩
  | 7, h => cases h; exact ⟨rfl, xY7_ok, xN7⟩
  | 8, h => cases h; exact ⟨rfl, xY8_ok, xN8⟩
  | 9, h => cases h; exact ⟨rfl, xY9_ok, xN9⟩
  | 10, h => cases h; exact ⟨rfl, xY10_ok, xN10⟩
  | 11, h => cases h; exact ⟨rfl, xY11_ok, xN11⟩
  | n + 12, h => simp [classes] at h
theorem xTy_nf (ci k : Nat) : xTy ci k ≠ .float := by
  unfold xTy
  split
  · unfold xY0; split <;> simp
  · unfold xY1; split <;> simp
  · unfold xY2; split <;> simp
  · unfold xY3; split <;> simp
  · unfold xY4; split <;> simp
  · unfold xY5; split <;> simp
  · unfold xY6; split <;> simp
  · unfold xY7; split <;> simp
  · unfold xY8; split <;> simp
  · unfold xY9; split <;> simp
  · unfold xY10; split <;> simp
  · unfold xY11; split <;> simp
theorem ev_def {ad : Nat → Nat} {xs : Nat → Int32} {bS : Nat} {t : FieldType} (h : t ≠ .float) : ev ad xs bS (defaultValue t) = defaultValue t := by
  cases t <;> first | rfl | exact absurd rfl h
theorem xD_ev {ad : Nat → Nat} {xs : Nat → Int32} {bS : Nat} (ci : Nat) : (xD ci).map (ev ad xs bS) = xD ci := by
  unfold xD
  rw [List.map_map]
  exact List.map_congr_left fun k _ => ev_def (xTy_nf ci k)
theorem xD_at {ci j : Nat} (h : j < xNf ci) : defaultValue (xTy ci j) = vp_V (xD ci) j := by
  simp [vp_V, xD, h]
theorem getD_rep {α : Type} (n j : Nat) (a : α) : (List.replicate n a).getD j a = a := by
  rw [List.getD_eq_getElem?_getD, List.getElem?_replicate]
  split <;> rfl
theorem evA_rep {ad : Nat → Nat} {xs : Nat → Int32} {bS : Nat} {ti : Nat} (n : Nat) (cA : ClassId) : vp_cell cA (evA (ev ad xs bS) ti (List.replicate n (xdv ti))) = arrV cA n (fun _ => defaultValue (xty ti)) := by
  match ti with
  | 0 =>
    show vp_cell cA ((List.replicate n (Value.int 0)).length, .inl (fun j => evI (ev ad xs bS ((List.replicate n (Value.int 0)).getD j (.int 0))))) = _
    simp only [getD_rep, List.length_replicate]; rfl
  | 1 =>
    show vp_cell cA ((List.replicate n (Value.int 0)).length, .inl (fun j => evI (ev ad xs bS ((List.replicate n (Value.int 0)).getD j (.int 0))))) = _
    simp only [getD_rep, List.length_replicate]; rfl
  | 2 =>
    show vp_cell cA ((List.replicate n (Value.int 0)).length, .inl (fun j => evI (ev ad xs bS ((List.replicate n (Value.int 0)).getD j (.int 0))))) = _
    simp only [getD_rep, List.length_replicate]; rfl
  | 3 =>
    show vp_cell cA ((List.replicate n Value.null).length, .inr (.inr (.inr (.inr (fun j => evR (ev ad xs bS ((List.replicate n Value.null).getD j .null))))))) = _
    simp only [getD_rep, List.length_replicate]; rfl
  | 4 =>
    show vp_cell cA ((List.replicate n Value.null).length, .inr (.inr (.inr (.inr (fun j => evR (ev ad xs bS ((List.replicate n Value.null).getD j .null))))))) = _
    simp only [getD_rep, List.length_replicate]; rfl
  | 5 =>
    show vp_cell cA ((List.replicate n Value.null).length, .inr (.inr (.inr (.inr (fun j => evR (ev ad xs bS ((List.replicate n Value.null).getD j .null))))))) = _
    simp only [getD_rep, List.length_replicate]; rfl
  | 6 =>
    show vp_cell cA ((List.replicate n Value.null).length, .inr (.inr (.inr (.inr (fun j => evR (ev ad xs bS ((List.replicate n Value.null).getD j .null))))))) = _
    simp only [getD_rep, List.length_replicate]; rfl
  | 7 =>
    show vp_cell cA ((List.replicate n Value.null).length, .inr (.inr (.inr (.inr (fun j => evR (ev ad xs bS ((List.replicate n Value.null).getD j .null))))))) = _
    simp only [getD_rep, List.length_replicate]; rfl
  | k + 8 =>
    show vp_cell cA ((List.replicate n Value.null).length, .inr (.inr (.inr (.inr (fun j => evR (ev ad xs bS ((List.replicate n Value.null).getD j .null))))))) = _
    simp only [getD_rep, List.length_replicate]; rfl
theorem evA_repq {ad : Nat → Nat} {xs : Nat → Int32} {bS : Nat} {ti : Nat} (h : 3 ≤ ti) (n : Nat) : evA (ev ad xs bS) ti (List.replicate n (xdv ti)) = (n, .inr (.inr (.inr (.inr (fun _ => none))))) := by
  match ti, h with
  | k + 3, _ =>
    have e : xdv (k + 3) = .null := by unfold xdv; split <;> first | rfl | omega
    rw [e]
    show (((List.replicate n Value.null).length, .inr (.inr (.inr (.inr (fun j => evR (ev ad xs bS ((List.replicate n Value.null).getD j .null))))))) : vp_A) = _
    simp only [getD_rep, List.length_replicate]; rfl
theorem xix_spec {i : Int32} {n j : Nat} (h : xix i n = some j) : vp_in i n ∧ i.toNatClampNeg = j ∧ j < n := by
  unfold xix at h
  cases h1 : decide (i < 0) with
  | true => rw [h1] at h; cases h
  | false =>
    rw [h1] at h
    cases h2 : Nat.ble (i.toNatClampNeg + 1) n with
    | false => rw [h2] at h; cases h
    | true =>
      rw [h2] at h
      have e : i.toNatClampNeg = j := Option.some.inj h
      have h3 := Nat.le_of_ble_eq_true h2
      refine ⟨?_, e, by omega⟩
      rintro (q | q)
      · exact absurd q (of_decide_eq_false h1)
      · omega
theorem getD_at {α : Type} {l : List α} {j : Nat} {v d : α} (h : l[j]? = some v) : l.getD j d = v := by
  rw [List.getD_eq_getElem?_getD, h]; rfl
theorem getD_put {α : Type} {l : List α} {j : Nat} (v d : α) (hj : j < l.length) (k : Nat) : (l.set j v).getD k d = if k = j then v else l.getD k d := by
  rw [List.getD_eq_getElem?_getD, List.getD_eq_getElem?_getD, List.getElem?_set]
  by_cases h : j = k
  · subst h; simp [hj]
  · rw [if_neg h, if_neg (fun z => h z.symm)]
theorem xald_spec {ok : Value → Bool} {oti : Nat → Bool} {st : List Value} {σ : XS} {q : List Value × XS} (h : xald ok oti st σ = some q) : ∃ i o r ti vs j v, st = .int i :: .ref o :: r ∧ xhk σ.2.1 o = some (true, ti, vs) ∧ oti ti = true ∧ xix i vs.length = some j ∧ vs[j]? = some v ∧ ok v = true ∧ q = (v :: r, σ) := by
  unfold xald at h
  split at h
  · rename_i i o r
    split at h
    · rename_i ti vs hk
      cases h1 : oti ti with
      | false => rw [h1] at h; cases h
      | true =>
        rw [h1] at h
        simp only [cond_true] at h
        split at h
        · rename_i j hj
          split at h
          · rename_i v hv
            cases h2 : ok v with
            | false => rw [h2] at h; cases h
            | true =>
              rw [h2] at h
              rw [xnth_eq] at hv
              exact ⟨i, o, r, ti, vs, j, v, rfl, hk, h1, hj, hv, h2, (Option.some.inj h).symm⟩
          · cases h
        · cases h
    · cases h
  · cases h
theorem xast_spec {ok : Value → Bool} {oti : Nat → Bool} {st : List Value} {σ : XS} {q : List Value × XS} (h : xast ok oti st σ = some q) : ∃ v i o r ti vs j, st = v :: .int i :: .ref o :: r ∧ xhk σ.2.1 o = some (true, ti, vs) ∧ oti ti = true ∧ ok v = true ∧ xix i vs.length = some j ∧ q = (r, (σ.1, xhs σ.2.1 o (true, ti, vs.set j v), σ.2.2)) := by
  unfold xast at h
  split at h
  · rename_i v i o r
    split at h
    · rename_i ti vs hk
      cases h1 : (oti ti && ok v) with
      | false => rw [h1] at h; cases h
      | true =>
        rw [h1] at h
        rw [Bool.and_eq_true] at h1
        simp only [cond_true] at h
        split at h
        · rename_i j hj
          rw [xset_eq] at h
          exact ⟨v, i, o, r, ti, vs, j, rfl, hk, h1.1, h1.2, hj, (Option.some.inj h).symm⟩
        · cases h
    · cases h
  · cases h
/-- what an instruction that touches cells wants of the tables -/
def xvh (Ts : List Jvm.Cond) (own : String) (init : Bool) (i : Instr) (aux : List Nat) : Prop :=
  match i with
  | .getfield idx => ∀ ci k t, aux = ci :: k :: t → ∃ C T N, classes[ci]? = some (C, T, N) ∧ k < N ∧ Jvm.Cond.fieldLink own idx (T k).1 (T k).2.1 (T k).2.2.1 ∈ Ts
  | .putfield idx => ∀ ci k t, aux = ci :: k :: t → ∃ C T N, classes[ci]? = some (C, T, N) ∧ k < N ∧ Jvm.Cond.fieldLink own idx (T k).1 (T k).2.1 (T k).2.2.1 ∈ Ts ∧ ((T k).2.2.2 = false ∨ ((T k).2.2.2 = true ∧ init = true ∧ (T k).1 = own))
  | .new idx => ∀ ci t, aux = ci :: t → ∃ C T N, classes[ci]? = some (C, T, N) ∧ Jvm.Cond.classLink own idx C ∈ Ts ∧ Jvm.Cond.instantiable C N ∈ Ts ∧ Jvm.Cond.initialized C ∈ Ts
  | .newarray a => ∀ ti t, aux = ti :: t → ti ≤ 2 ∧ newarray.typeOf a = xty ti ∧ Jvm.Cond.arrayClass (newarray.typeOf a) ∈ Ts
  | .anewarray idx => ∀ ti t, aux = ti :: t → (3 ≤ ti ∧ ti ≤ 5 ∧ ∃ C, xty ti = .object C ∧ Jvm.Cond.classLink own idx C ∈ Ts) ∨ (ti = 6 ∧ Jvm.Cond.classLink own idx "[I" ∈ Ts)
  | .multianewarray idx d => (d = 2 → ∀ to ti t, aux = to :: ti :: t → (to = 6 ∧ ti = 0 ∧ Jvm.Cond.arrayClass .int ∈ Ts ∧ Jvm.Cond.classLink own idx "[[I" ∈ Ts) ∨ (to = 7 ∧ ti = 1 ∧ Jvm.Cond.arrayClass .boolean ∈ Ts ∧ Jvm.Cond.classLink own idx "[[Z" ∈ Ts) ∨ (to = 8 ∧ ti = 6 ∧ Jvm.Cond.classLink own idx "[[[I" ∈ Ts)) ∧ (d = 3 → Jvm.Cond.arrayClass .int ∈ Ts ∧ Jvm.Cond.classLink own idx "[[[I" ∈ Ts)
  | _ => True
end XK
