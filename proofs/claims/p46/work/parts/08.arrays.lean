section XO
variable {p : Program} {l : Launch} {e : Env} {R : Room} {s : State} {m : MethodId} {args : Array Value} {below : List Frame} {meth : Method} {c : Code} {H : Heap} {locs : List Loc} {Q : State → Prop}
variable {cc : ByteArray} {pc nL : Nat} {ls : Array Slot} {ad : Nat → Nat} {xs : Nat → Int32} {bS : Nat} {aC : Nat → ClassId} {D : va_G} {A : Nat → Prop} {own : String} {Ts : List Jvm.Cond}
theorem xrefw_at (w : Nat) : ∀ (N n j : Nat), j < N → (xrefw n w N)[j]? = some (.ref (n + j * w))
  | 0, n, j, h => by omega
  | N + 1, n, 0, _ => by simp [xrefw]
  | N + 1, n, j + 1, h => by
    show (xrefw (n + w) w N)[j]? = _
    rw [xrefw_at w N (n + w) j (by omega)]
    exact congrArg (fun z : Nat => some (Value.ref z)) (show (n + w + j * w : Nat) = n + (j + 1) * w by rw [Nat.succ_mul]; omega)
theorem xrefw_len (w : Nat) : ∀ (N n : Nat), (xrefw n w N).length = N
  | 0, _ => rfl
  | N + 1, n => by show (xrefw (n + w) w N).length + 1 = _; rw [xrefw_len w N]
theorem xrows_at (c : XCl) : ∀ (N n j : Nat), j < N → (xrows n c N)[j]? = some (n + j, c)
  | 0, n, j, h => by omega
  | N + 1, n, 0, _ => by simp [xrows]
  | N + 1, n, j + 1, h => by
    show (xrows (n + 1) c N)[j]? = _
    rw [xrows_at c N (n + 1) j (by omega)]
    exact congrArg (fun z => some (z, c)) (by omega)
theorem xrows_len (c : XCl) : ∀ (N n : Nat), (xrows n c N).length = N
  | 0, _ => rfl
  | N + 1, n => by show (xrows (n + 1) c N).length + 1 = _; rw [xrows_len c N]
theorem xgrid_len (M : Nat) : ∀ (N n : Nat), (xgrid n M N).length = N * (1 + M)
  | 0, _ => by simp [xgrid]
  | N + 1, n => by
    show (((n, (true, 6, xrefw (n + 1) 1 M)) :: xrows (n + 1) (true, 0, []) M) ++ xgrid (n + (1 + M)) M N).length = _
    rw [List.length_append, List.length_cons, xrows_len, xgrid_len M N, Nat.succ_mul]
    omega
/-- what stands at a place of the grid -/
theorem xgrid_at (M : Nat) : ∀ (N n j q : Nat), j < N → q ≤ M → (xgrid n M N)[j * (1 + M) + q]? = some (n + (j * (1 + M) + q), if q = 0 then (true, 6, xrefw (n + j * (1 + M) + 1) 1 M) else (true, 0, []))
  | 0, n, j, q, h, _ => by omega
  | N + 1, n, 0, q, _, hq => by
    show (((n, (true, 6, xrefw (n + 1) 1 M)) :: xrows (n + 1) (true, 0, []) M) ++ xgrid (n + (1 + M)) M N)[0 * (1 + M) + q]? = _
    rw [Nat.zero_mul, Nat.zero_add, List.getElem?_append_left (by rw [List.length_cons, xrows_len]; omega)]
    cases q with
    | zero => simp
    | succ q =>
      show (xrows (n + 1) (true, 0, []) M)[q]? = _
      rw [xrows_at _ M (n + 1) q (by omega), if_neg (by omega)]
      exact congrArg (fun z => some (z, ((true, 0, []) : XCl))) (by omega)
  | N + 1, n, j + 1, q, h, hq => by
    show (((n, (true, 6, xrefw (n + 1) 1 M)) :: xrows (n + 1) (true, 0, []) M) ++ xgrid (n + (1 + M)) M N)[(j + 1) * (1 + M) + q]? = _
    have hl : ((n, ((true, 6, xrefw (n + 1) 1 M) : XCl)) :: xrows (n + 1) (true, 0, []) M).length = 1 + M := by rw [List.length_cons, xrows_len]; omega
    have e1 : (j + 1) * (1 + M) + q - (1 + M) = j * (1 + M) + q := by rw [Nat.succ_mul]; omega
    have e2 : 1 + M ≤ (j + 1) * (1 + M) + q := by rw [Nat.succ_mul]; omega
    rw [List.getElem?_append_right (by rw [hl]; exact e2), hl, e1, xgrid_at M N (n + (1 + M)) j q (by omega) hq]
    have e3 : n + (1 + M) + (j * (1 + M) + q) = n + ((j + 1) * (1 + M) + q) := by rw [Nat.succ_mul]; omega
    have e4 : n + (1 + M) + j * (1 + M) + 1 = n + (j + 1) * (1 + M) + 1 := by rw [Nat.succ_mul]; omega
    rw [e3, e4]
/-- things more, one behind another -/
theorem xadd {ws : va_W} {H1 : Heap} {new : XH} {n : Nat} {ad' : Nat → Nat} {E : Value → Value} (hP : va_P D classes ws H) (hD : va_D A ws) (hold : ∀ x : Nat, x < H.size → H1[x]? = H[x]?) (hA : ∀ q, H.size ≤ q → A q)
    (hc : ∀ (i : Nat) (q : Nat × XCl), new[i]? = some q → q.1 = n + i) (ha : ∀ i, ad' (n + i) = H.size + i) (hat : ∀ (i : Nat) (q : Nat × XCl), new[i]? = some q → va_at D classes (H.size + i, evC E aC q.2) H1) :
    va_P D classes (ws ++ evH E ad' aC new) H1 ∧ va_D A (ws ++ evH E ad' aC new) := by
  have hg : ∀ (k : Nat) (x : Nat × va_E), (evH E ad' aC new)[k]? = some x → ∃ q, new[k]? = some q ∧ x = (H.size + k, evC E aC q.2) := by
    intro k x hx
    unfold evH at hx
    rw [List.getElem?_map] at hx
    cases hn : new[k]? with
    | none => rw [hn] at hx; cases hx
    | some q =>
      rw [hn] at hx
      refine ⟨q, rfl, ?_⟩
      have := Option.some.inj hx
      rw [← this]
      show (ad' q.1, evC E aC q.2) = _
      rw [hc k q hn, ha]
  refine ⟨(hP.kept (fun k x hx => hold x.1 ((hP k x hx).lt))).app (fun k x hx => ?_), hD.app ⟨fun i j p9 q9 hp hq he => ?_, fun k x hx => ?_⟩ (fun i j p9 q9 hp hq => ?_)⟩
  · obtain ⟨q, hq, rfl⟩ := hg k x hx
    exact hat k q hq
  · obtain ⟨a, -, rfl⟩ := hg i p9 hp
    obtain ⟨b, -, rfl⟩ := hg j q9 hq
    have he : H.size + i = H.size + j := he
    omega
  · obtain ⟨q, -, rfl⟩ := hg k x hx
    exact hA _ (Nat.le_add_right _ _)
  · obtain ⟨b, -, rfl⟩ := hg j q9 hq
    have h1 := (hP i p9 hp).lt
    show p9.1 ≠ H.size + j
    omega
theorem xouter (c : ClassId) (N h0 w : Nat) : ∀ i : Nat, xg_out c N h0 w i = arrV c N (fun j => va_rf (if j < i then some (h0 + 1 + j * w) else none))
  | 0 => by
    show ({ cls := c, slots := Array.replicate N .null, vm := .none } : Cell) = _
    rw [arrV_new]
    refine congrArg (arrV c N) (funext fun j => ?_)
    simp [va_rf]
  | i + 1 => by
    show (xg_out c N h0 w i).setSlot i (.ref (h0 + 1 + i * w)) = _
    rw [xouter c N h0 w i, arrV_store]
    refine congrArg (arrV c N) (funext fun j => ?_)
    by_cases e : j = i
    · subst e
      simp [updV, va_rf]
    · by_cases h : j < i
      · simp [updV, e, h, Nat.lt_succ_of_lt h]
      · simp [updV, e, h, show ¬ j < i + 1 by omega]
theorem xouter1 (c : ClassId) (N h0 : Nat) : ∀ i : Nat, Jvm.Free.Multi.outerC c N h0 i = arrV c N (fun j => va_rf (if j < i then some (h0 + 1 + j * 1) else none))
  | 0 => by
    show ({ cls := c, slots := Array.replicate N .null, vm := .none } : Cell) = _
    rw [arrV_new]
    refine congrArg (arrV c N) (funext fun j => ?_)
    simp [va_rf]
  | i + 1 => by
    show (Jvm.Free.Multi.outerC c N h0 i).setSlot i (.ref (h0 + 1 + i)) = _
    rw [xouter1 c N h0 i, arrV_store]
    refine congrArg (arrV c N) (funext fun j => ?_)
    by_cases e : j = i
    · subst e
      simp [updV, va_rf]
    · by_cases h : j < i
      · simp [updV, e, h, Nat.lt_succ_of_lt h]
      · simp [updV, e, h, show ¬ j < i + 1 by omega]
/-- an array of references to things one behind another -/
theorem xrefw_cell {ad' : Nat → Nat} {n w N to B : Nat} (ht : 3 ≤ to) (ha : ∀ j, j < N → ad' (n + j * w) = B + j * w) (c : ClassId) : vp_cell c (evA (ev ad' xs bS) to (xrefw n w N)) = arrV c N (fun j => va_rf (if j < N then some (B + j * w) else none)) := by
  have hA9 : evA (ev ad' xs bS) to (xrefw n w N) = ((xrefw n w N).length, .inr (.inr (.inr (.inr (fun j => evR (ev ad' xs bS ((xrefw n w N).getD j .null))))))) := by
    match to, ht with
    | k + 3, _ => rfl
  rw [hA9, vp_cell_q, xrefw_len]
  refine congrArg (arrV c N) (funext fun j => ?_)
  by_cases h : j < N
  · rw [if_pos h, getD_at (xrefw_at w N n j h)]
    show va_rf (some (ad' (n + j * w))) = _
    rw [ha j h]
  · rw [if_neg h, List.getD_eq_getElem?_getD, List.getElem?_eq_none (by rw [xrefw_len]; omega)]
    rfl
theorem xarrC {t : FieldType} (h : (Jvm.Cond.arrayOver (.array t)).before args s = true) : (Jvm.Cond.arrayClass (.array t)).before args s = true := by
  obtain ⟨comp, c9, k, h1, h2, h3, h4⟩ := Cond.arrayOver_specA h
  simp [Cond.before, Cond.holds, Cond.value, h4, h2, h3]
/-- the addresses of things one behind another -/
def xbeh (ad : Nat → Nat) (n B : Nat) (j : Nat) : Nat := if j < n then ad j else B + (j - n)
theorem xbeh_lt {ad : Nat → Nat} {n B j : Nat} (h : j < n) : xbeh ad n B j = ad j := if_pos h
theorem xbeh_at {ad : Nat → Nat} {n B i : Nat} : xbeh ad n B (n + i) = B + i := by
  unfold xbeh
  rw [if_neg (by omega), Nat.add_sub_cancel_left]
theorem xw_m2 (hx : p.tables.exec = Jvm.exec) (hb : c.code = cc) (hts : ∀ w ∈ Ts, w.before args s = true) (hown : s.vm.findClass own = some m.cls) (hK : va_K D classes (xtys aC) s) (hA : ∀ q, s.heap.size ≤ q → A q) (hAA : ∀ ty, (ty = .array .int ∨ ty = .array .boolean ∨ ty = .array (.array .int)) → (Jvm.Cond.arrayOver ty).before args s = true)
    {idx : Nat} {aux : List Nat} {init : Bool} (hv : xvh Ts own init (.multianewarray idx 2) aux) {lv : XL} {st st' : List Value} {σ σ' : XS} (hwf : xal σ.2.2.1 lv st σ.2.1 = true) (h : xnewm2 R aux st σ = some (st', σ'))
    (hP : va_P D classes (evH (ev ad xs bS) ad aC σ.2.1) H) (hD : va_D A (evH (ev ad xs bS) ad aC σ.2.1)) (hS : va_S A s.heap H locs) (hl : lv_has ls nL (evL (ev ad xs bS) lv)) (hd : decode cc pc = .ok (.multianewarray idx 2, 4))
    (kk : xgo p l e R s m args below meth c Q ad xs bS aC D A lv σ.2.2.1 (pc + 4) ls st' σ' nL) : W p l e R s m args below meth c H locs σ.2.2.2.1 σ.2.2.2.2 Q (F0 m pc ls (evS (ev ad xs bS) st)) := by
  unfold xnewm2 at h
  split at h
  · rename_i to ti tl k n9 r pe hh n ce sl
    cases h1 : (decide (k < 0) || decide (n9 < 0)) with
    | true => rw [h1] at h; cases h
    | false =>
      rw [h1] at h
      simp only [cond_false] at h
      cases h2 : (Nat.ble k.toNatClampNeg 1000 && (Nat.ble n9.toNatClampNeg 1000 && (Nat.ble (ce + (1 + n9.toNatClampNeg)) R.cells && Nat.ble (sl + (n9.toNatClampNeg + n9.toNatClampNeg * k.toNatClampNeg)) R.slots))) with
      | false => rw [h2] at h; cases h
      | true =>
        rw [h2] at h
        rw [Bool.or_eq_false_iff] at h1
        simp only [Bool.and_eq_true] at h2
        have hk : ¬ k < 0 := of_decide_eq_false h1.1
        have hn : ¬ n9 < 0 := of_decide_eq_false h1.2
        have lk := Nat.le_of_ble_eq_true h2.1
        have ln := Nat.le_of_ble_eq_true h2.2.1
        have lc := Nat.le_of_ble_eq_true h2.2.2.1
        have lS := Nat.le_of_ble_eq_true h2.2.2.2
        obtain ⟨rfl, rfl⟩ := Prod.mk.inj (Option.some.inj h)
        have hwf := xal_tail (xal_tail hwf)
        obtain ⟨oL, oS, oH⟩ := xal_spec hwf
        have hag : ∀ j, j < n → xbeh ad n H.size j = ad j := fun j hj => xbeh_lt hj
        have hag2 : ∀ j, j < n → (xbeh ad n H.size) j = ad j := hag
        have main : ∀ ty : FieldType, 3 ≤ to → to ≤ 8 → ti ≤ 8 → xty to = .array ty → xty ti = ty → (FieldType.array ty).toString = "[" ++ ty.toString → (∀ c9 : ClassId, s.vm.findClass ("[" ++ ty.toString) = some c9 → va_RA s c9 ty) → (Jvm.Cond.classLink own idx ("[" ++ (FieldType.array ty).toString)).before args s = true → (Jvm.Cond.arrayOver (.array ty)).before args s = true → (Jvm.Cond.arrayClass ty).before args s = true → componentBytes ty ≤ 8 → fits ty (defaultValue ty) = true → (defaultValue ty).isDefault = true →
            W p l e R s m args below meth c H locs ce sl Q (F0 m pc ls (.int k :: .int n9 :: evS (ev ad xs bS) r)) := by
          intro ty t3 t8 u8 hto hti hstr hra hcl hov har hcb hdf hdd
          refine xg_m2 (own := own) (ty := ty) hx hb hown hcl hov har hn hk (by omega) (Nat.le_trans (Nat.mul_le_mul lk hcb) (Nat.le_of_ble_eq_true rfl)) (by omega) hdf hdd lc lS hd (fun H1 cA cB z1 hold fA fB hout hrow => ?_)
          have eA : cA = aC to := xRA_inj (ty := .array ty) fA (by have := (hK.2 to _ (xtys_get aC t8)).2; rw [hto] at this; exact this)
          subst eA
          have eB : cB = aC ti := xRA_inj (ty := ty) (hra cB (by rw [← hstr]; exact fB)) (by have := (hK.2 ti _ (xtys_get aC u8)).2; rw [hti] at this; exact this)
          subst eB
          have hat : ∀ (i : Nat) (q : Nat × XCl), ((n, ((true, to, xrefw (n + 1) 1 n9.toNatClampNeg) : XCl)) :: xrows (n + 1) (true, ti, List.replicate k.toNatClampNeg (xdv ti)) n9.toNatClampNeg)[i]? = some q → q.1 = n + i ∧ va_at D classes (H.size + i, evC (ev (xbeh ad n H.size) xs bS) aC q.2) H1 := by
            intro i q hq
            cases i with
            | zero =>
              cases hq
              refine ⟨rfl, ?_⟩
              show H1[H.size + 0]? = some (vp_cell (aC to) (evA (ev (xbeh ad n H.size) xs bS) to (xrefw (n + 1) 1 n9.toNatClampNeg)))
              rw [Nat.add_zero, hout, xouter1, xrefw_cell t3 (B := H.size + 1) (fun j _ => ?_)]
              rw [show n + 1 + j * 1 = n + (1 + j * 1) by omega, xbeh_at]
              omega
            | succ i =>
              have hi : i < n9.toNatClampNeg := by
                have := (List.getElem?_eq_some_iff.mp hq).1
                rw [List.length_cons, xrows_len] at this
                omega
              have hq : (xrows (n + 1) (true, ti, List.replicate k.toNatClampNeg (xdv ti)) n9.toNatClampNeg)[i]? = some q := hq
              rw [xrows_at _ _ _ _ hi] at hq
              cases hq
              refine ⟨by show n + 1 + i = n + (i + 1); omega, ?_⟩
              show H1[H.size + (i + 1)]? = some (vp_cell (aC ti) (evA (ev (xbeh ad n H.size) xs bS) ti (List.replicate k.toNatClampNeg (xdv ti))))
              rw [show H.size + (i + 1) = H.size + 1 + i by omega, hrow i hi, evA_rep, hti]
              show some ({ cls := aC ti, slots := Array.replicate k.toNatClampNeg (defaultValue ty), vm := .none } : Cell) = _
              rw [arrV_new]
          obtain ⟨p1, d1⟩ := xadd (aC := aC) (ad' := xbeh ad n H.size) (E := ev (xbeh ad n H.size) xs bS) (n := n) hP hD hold (fun q hq => hA q (Nat.le_trans hS.1 hq)) (fun i q hq => (hat i q hq).1) (fun i => xbeh_at) (fun i q hq => (hat i q hq).2)
          have e1 : ∀ new : XH, evH (ev (xbeh ad n H.size) xs bS) (xbeh ad n H.size) aC (hh ++ new) = evH (ev ad xs bS) ad aC hh ++ evH (ev (xbeh ad n H.size) xs bS) (xbeh ad n H.size) aC new := fun new => by
            have := xoH_ev (xs := xs) (bS := bS) (aC := aC) hag oH
            unfold evH at this ⊢
            rw [List.map_append, this]
          have e2 : evS (ev (xbeh ad n H.size) xs bS) (.ref n :: r) = .ref H.size :: evS (ev ad xs bS) r := by
            have := xoS_ev (xs := xs) (bS := bS) hag oS
            unfold evS at this ⊢
            rw [List.map_cons, this]
            show Value.ref (xbeh ad n H.size (n + 0)) :: _ = _
            rw [xbeh_at]; rfl
          have hk9 := kk (xbeh ad n H.size) H1 locs hag (by show n ≤ n + 1 + n9.toNatClampNeg; omega) (by dsimp only; rw [e1]; exact p1) (by dsimp only; rw [e1]; exact d1) ⟨Nat.le_trans hS.1 z1, fun x h1 h2 => (hold x (Nat.lt_of_lt_of_le h1 hS.1)).trans (hS.2.1 x h1 h2), hS.2.2⟩ (by rw [xoL_ev hag oL]; exact hl)
          dsimp only at hk9
          rw [e2, ← Nat.add_assoc, ← Nat.add_assoc] at hk9
          exact hk9
        rcases hv.1 rfl to ti tl rfl with ⟨rfl, rfl, w1, w2⟩ | ⟨rfl, rfl, w1, w2⟩ | ⟨rfl, rfl, w2⟩
        · exact main .int (by omega) (by omega) (by omega) rfl rfl (by decide +kernel) (fun _ h9 => h9) (by rw [show "[" ++ (FieldType.array .int).toString = "[[I" by decide +kernel]; exact hts _ w2) (hAA _ (Or.inl rfl)) (hts _ w1) (by decide) rfl rfl
        · exact main .boolean (by omega) (by omega) (by omega) rfl rfl (by decide +kernel) (fun _ h9 => h9) (by rw [show "[" ++ (FieldType.array .boolean).toString = "[[Z" by decide +kernel]; exact hts _ w2) (hAA _ (Or.inr (Or.inl rfl))) (hts _ w1) (by decide) rfl rfl
        · exact main (.array .int) (by omega) (by omega) (by omega) rfl rfl (by decide +kernel) (fun _ h9 => h9) (by rw [show "[" ++ (FieldType.array (.array .int)).toString = "[[[I" by decide +kernel]; exact hts _ w2) (hAA _ (Or.inr (Or.inr rfl))) (xarrC (hAA _ (Or.inl rfl))) (by decide) rfl rfl
  · cases h
theorem xw_m3 (hx : p.tables.exec = Jvm.exec) (hb : c.code = cc) (hts : ∀ w ∈ Ts, w.before args s = true) (hown : s.vm.findClass own = some m.cls) (hK : va_K D classes (xtys aC) s) (hA : ∀ q, s.heap.size ≤ q → A q) (hAA : ∀ ty, (ty = .array .int ∨ ty = .array .boolean ∨ ty = .array (.array .int)) → (Jvm.Cond.arrayOver ty).before args s = true)
    {idx : Nat} {aux : List Nat} {init : Bool} (hv : xvh Ts own init (.multianewarray idx 3) aux) {lv : XL} {st st' : List Value} {σ σ' : XS} (hwf : xal σ.2.2.1 lv st σ.2.1 = true) (h : xnewm3 R st σ = some (st', σ'))
    (hP : va_P D classes (evH (ev ad xs bS) ad aC σ.2.1) H) (hD : va_D A (evH (ev ad xs bS) ad aC σ.2.1)) (hS : va_S A s.heap H locs) (hl : lv_has ls nL (evL (ev ad xs bS) lv)) (hd : decode cc pc = .ok (.multianewarray idx 3, 4))
    (kk : xgo p l e R s m args below meth c Q ad xs bS aC D A lv σ.2.2.1 (pc + 4) ls st' σ' nL) : W p l e R s m args below meth c H locs σ.2.2.2.1 σ.2.2.2.2 Q (F0 m pc ls (evS (ev ad xs bS) st)) := by
  unfold xnewm3 at h
  split at h
  · rename_i z k n9 r pe hh n ce sl
    cases h2 : (decide (z = 0) && (!decide (k < 0) && (!decide (n9 < 0) && (Nat.ble k.toNatClampNeg 1000 && (Nat.ble n9.toNatClampNeg 1000 && (Nat.ble (ce + (1 + n9.toNatClampNeg * (1 + k.toNatClampNeg))) R.cells && Nat.ble (sl + (n9.toNatClampNeg + n9.toNatClampNeg * k.toNatClampNeg)) R.slots)))))) with
    | false => rw [h2] at h; cases h
    | true =>
      rw [h2] at h
      simp only [Bool.and_eq_true, decide_eq_true_eq, Bool.not_eq_true', decide_eq_false_iff_not] at h2
      obtain ⟨rfl, hk, hn, lk, ln, lc, lS⟩ := h2
      have lk := Nat.le_of_ble_eq_true lk
      have ln := Nat.le_of_ble_eq_true ln
      have lc := Nat.le_of_ble_eq_true lc
      have lS := Nat.le_of_ble_eq_true lS
      obtain ⟨rfl, rfl⟩ := Prod.mk.inj (Option.some.inj h)
      have hwf := xal_tail (xal_tail (xal_tail hwf))
      obtain ⟨oL, oS, oH⟩ := xal_spec hwf
      have hag : ∀ j, j < n → xbeh ad n H.size j = ad j := fun j hj => xbeh_lt hj
      obtain ⟨w1, w2⟩ := hv.2 rfl
      have h0 : (0 : Int32).toNatClampNeg = 0 := by decide
      refine xg_m3 (own := own) (ty := .int) hx hb hown (by rw [show "[" ++ (FieldType.array (.array .int)).toString = "[[[I" by decide +kernel]; exact hts _ w2) (hAA _ (Or.inr (Or.inr rfl))) (hAA _ (Or.inl rfl)) (hts _ w1) (by decide +kernel) hn hk (by decide) (by omega) (by omega) (by rw [h0]; decide) (by rw [h0]; decide) rfl rfl lc (by rw [h0, Nat.mul_zero, Nat.add_zero]; exact lS) hd (fun H1 cA cB cD z1 hold fA fB fD hout hmid => ?_)
      have eA : cA = aC 8 := xRA_inj (ty := .array (.array .int)) fA (hK.2 8 _ (xtys_get aC (by omega))).2
      have eB : cB = aC 6 := xRA_inj (ty := .array .int) fB (hK.2 6 _ (xtys_get aC (by omega))).2
      have eD : cD = aC 0 := xRA_inj (ty := .int) fD (hK.2 0 _ (xtys_get aC (by omega))).2
      subst eA; subst eB; subst eD
      have hat : ∀ (i : Nat) (q : Nat × XCl), ((n, ((true, 8, xrefw (n + 1) (1 + k.toNatClampNeg) n9.toNatClampNeg) : XCl)) :: xgrid (n + 1) k.toNatClampNeg n9.toNatClampNeg)[i]? = some q → q.1 = n + i ∧ va_at D classes (H.size + i, evC (ev (xbeh ad n H.size) xs bS) aC q.2) H1 := by
        intro i q hq
        cases i with
        | zero =>
          cases hq
          refine ⟨rfl, ?_⟩
          show H1[H.size + 0]? = some (vp_cell (aC 8) (evA (ev (xbeh ad n H.size) xs bS) 8 (xrefw (n + 1) (1 + k.toNatClampNeg) n9.toNatClampNeg)))
          rw [Nat.add_zero, hout, xouter, xrefw_cell (by omega) (B := H.size + 1) (fun j _ => ?_)]
          rw [show n + 1 + j * (1 + k.toNatClampNeg) = n + (1 + j * (1 + k.toNatClampNeg)) by omega, xbeh_at]
          omega
        | succ i =>
          have hi : i < n9.toNatClampNeg * (1 + k.toNatClampNeg) := by
            have := (List.getElem?_eq_some_iff.mp hq).1
            rw [List.length_cons, xgrid_len] at this
            omega
          have hq : (xgrid (n + 1) k.toNatClampNeg n9.toNatClampNeg)[i]? = some q := hq
          have hdm := Nat.div_add_mod i (1 + k.toNatClampNeg)
          have hml := Nat.mod_lt i (show 0 < 1 + k.toNatClampNeg by omega)
          have hdl : i / (1 + k.toNatClampNeg) < n9.toNatClampNeg := by
            rw [Nat.div_lt_iff_lt_mul (by omega)]
            exact hi
          rw [Nat.mul_comm] at hdm
          generalize i / (1 + k.toNatClampNeg) = j at hdm hdl
          generalize i % (1 + k.toNatClampNeg) = x at hdm hml
          subst hdm
          rw [xgrid_at _ _ _ _ _ hdl (by omega)] at hq
          obtain ⟨g1, g2⟩ := hmid j hdl
          by_cases hx0 : x = 0
          · subst hx0
            rw [if_pos rfl] at hq
            cases hq
            refine ⟨by show n + 1 + (j * (1 + k.toNatClampNeg) + 0) = n + (j * (1 + k.toNatClampNeg) + 0 + 1); omega, ?_⟩
            show H1[H.size + (j * (1 + k.toNatClampNeg) + 0 + 1)]? = some (vp_cell (aC 6) (evA (ev (xbeh ad n H.size) xs bS) 6 (xrefw (n + 1 + j * (1 + k.toNatClampNeg) + 1) 1 k.toNatClampNeg)))
            rw [show H.size + (j * (1 + k.toNatClampNeg) + 0 + 1) = H.size + 1 + j * (1 + k.toNatClampNeg) by omega, g1, xouter1, xrefw_cell (by omega) (B := H.size + 1 + j * (1 + k.toNatClampNeg) + 1) (fun j2 _ => ?_)]
            rw [show n + 1 + j * (1 + k.toNatClampNeg) + 1 + j2 * 1 = n + (1 + j * (1 + k.toNatClampNeg) + 1 + j2 * 1) by omega, xbeh_at]
            omega
          · rw [if_neg hx0] at hq
            cases hq
            refine ⟨by show n + 1 + (j * (1 + k.toNatClampNeg) + x) = n + (j * (1 + k.toNatClampNeg) + x + 1); omega, ?_⟩
            show H1[H.size + (j * (1 + k.toNatClampNeg) + x + 1)]? = some (vp_cell (aC 0) (evA (ev (xbeh ad n H.size) xs bS) 0 []))
            rw [show H.size + (j * (1 + k.toNatClampNeg) + x + 1) = H.size + 1 + j * (1 + k.toNatClampNeg) + 1 + (x - 1) by omega, g2 (x - 1) (by omega)]
            have e9 := evA_rep (ad := xbeh ad n H.size) (xs := xs) (bS := bS) (ti := 0) 0 (aC 0)
            rw [show (List.replicate 0 (xdv 0) : List Value) = [] from rfl] at e9
            rw [e9]
            show some ({ cls := aC 0, slots := Array.replicate (0 : Int32).toNatClampNeg (defaultValue .int), vm := .none } : Cell) = _
            rw [arrV_new]
            rfl
      obtain ⟨p1, d1⟩ := xadd (aC := aC) (ad' := xbeh ad n H.size) (E := ev (xbeh ad n H.size) xs bS) (n := n) hP hD hold (fun q hq => hA q (Nat.le_trans hS.1 hq)) (fun i q hq => (hat i q hq).1) (fun i => xbeh_at) (fun i q hq => (hat i q hq).2)
      have e1 : ∀ new : XH, evH (ev (xbeh ad n H.size) xs bS) (xbeh ad n H.size) aC (hh ++ new) = evH (ev ad xs bS) ad aC hh ++ evH (ev (xbeh ad n H.size) xs bS) (xbeh ad n H.size) aC new := fun new => by
        have := xoH_ev (xs := xs) (bS := bS) (aC := aC) hag oH
        unfold evH at this ⊢
        rw [List.map_append, this]
      have e2 : evS (ev (xbeh ad n H.size) xs bS) (.ref n :: r) = .ref H.size :: evS (ev ad xs bS) r := by
        have := xoS_ev (xs := xs) (bS := bS) hag oS
        unfold evS at this ⊢
        rw [List.map_cons, this]
        show Value.ref (xbeh ad n H.size (n + 0)) :: _ = _
        rw [xbeh_at]; rfl
      have hk9 := kk (xbeh ad n H.size) H1 locs hag (by show n ≤ n + 1 + n9.toNatClampNeg * (1 + k.toNatClampNeg); omega) (by dsimp only; rw [e1]; exact p1) (by dsimp only; rw [e1]; exact d1) ⟨Nat.le_trans hS.1 z1, fun x h1 h2 => (hold x (Nat.lt_of_lt_of_le h1 hS.1)).trans (hS.2.1 x h1 h2), hS.2.2⟩ (by rw [xoL_ev hag oL]; exact hl)
      dsimp only at hk9
      rw [e2, ← Nat.add_assoc, ← Nat.add_assoc] at hk9
      rw [h0, Nat.mul_zero, Nat.add_zero]
      exact hk9
  · cases h
theorem xw_len (hx : p.tables.exec = Jvm.exec) (hb : c.code = cc) (hK : va_K D classes (xtys aC) s) {scr : Option (Nat × (Nat → Int32))} (hX : ∀ L ys, scr = some (L, ys) → ys = xs ∧ va_X bS L xs s s.heap ∧ bS < s.heap.size ∧ ¬ A bS)
    {lv : XL} {st st' : List Value} {σ σ' : XS} (h : xlen scr st σ = some (st', σ'))
    (hP : va_P D classes (evH (ev ad xs bS) ad aC σ.2.1) H) (hD : va_D A (evH (ev ad xs bS) ad aC σ.2.1)) (hS : va_S A s.heap H locs) (hl : lv_has ls nL (evL (ev ad xs bS) lv)) (hd : decode cc pc = .ok (.arraylength, 1))
    (kk : xgo p l e R s m args below meth c Q ad xs bS aC D A lv σ.2.2.1 (pc + 1) ls st' σ' nL) : W p l e R s m args below meth c H locs σ.2.2.2.1 σ.2.2.2.2 Q (F0 m pc ls (evS (ev ad xs bS) st)) := by
  unfold xlen at h
  split at h
  · rename_i o r
    split at h
    · rename_i ti vs hk
      cases h1 : Nat.ble ti 8 with
      | false => rw [h1] at h; cases h
      | true =>
        rw [h1] at h
        obtain ⟨rfl, rfl⟩ := Prod.mk.inj (Option.some.inj h)
        obtain ⟨q0, hq, -⟩ := xhk_get (E := ev ad xs bS) (ad := ad) (aC := aC) hk
        refine va_alen hx hb hK hP q0 ti (x := evA (ev ad xs bS) ti vs) hq (xtys_get aC (Nat.le_of_ble_eq_true h1)) (v := Int32.ofNat vs.length) (by rw [evA_len]) hd ?_
        exact kk ad H locs (fun _ _ => rfl) (Nat.le_refl _) hP hD hS hl
    · cases h
  · split at h
    · rename_i L ys
      obtain ⟨rfl, rfl⟩ := Prod.mk.inj (Option.some.inj h)
      obtain ⟨-, x1, x2, x3⟩ := hX L ys rfl
      exact va_slen hx hb x1 x2 x3 hS hd (kk ad H locs (fun _ _ => rfl) (Nat.le_refl _) hP hD hS hl)
    · cases h
  · cases h
theorem xw_aldq (hx : p.tables.exec = Jvm.exec) (hb : c.code = cc) (hK : va_K D classes (xtys aC) s)
    {lv : XL} {st st' : List Value} {σ σ' : XS} (h : xald xref (fun ti => Nat.ble 3 ti && Nat.ble ti 8) st σ = some (st', σ'))
    (hP : va_P D classes (evH (ev ad xs bS) ad aC σ.2.1) H) (hD : va_D A (evH (ev ad xs bS) ad aC σ.2.1)) (hS : va_S A s.heap H locs) (hl : lv_has ls nL (evL (ev ad xs bS) lv)) (hd : decode cc pc = .ok (.aaload, 1))
    (kk : xgo p l e R s m args below meth c Q ad xs bS aC D A lv σ.2.2.1 (pc + 1) ls st' σ' nL) : W p l e R s m args below meth c H locs σ.2.2.2.1 σ.2.2.2.2 Q (F0 m pc ls (evS (ev ad xs bS) st)) := by
  obtain ⟨i, o, r, ti, vs, j, v, rfl, hk, ht, hj, hv, hok, hq⟩ := xald_spec h
  obtain ⟨rfl, rfl⟩ := Prod.mk.inj hq
  rw [Bool.and_eq_true] at ht
  have h3 := Nat.le_of_ble_eq_true ht.1
  have h5 := Nat.le_of_ble_eq_true ht.2
  obtain ⟨h1, h2, -⟩ := xix_spec hj
  obtain ⟨q0, hq, -⟩ := xhk_get (E := ev ad xs bS) (ad := ad) (aC := aC) hk
  have ht9 := xtys_get aC h5
  have hA9 : evA (ev ad xs bS) ti vs = (vs.length, .inr (.inr (.inr (.inr (fun j => evR (ev ad xs bS (vs.getD j .null))))))) := by
    match ti, h3 with
    | k + 3, _ => rfl
  have hq9 : (evH (ev ad xs bS) ad aC σ'.2.1)[q0]? = some (ad o, .inl (aC ti, vs.length, .inr (.inr (.inr (.inr (fun j => evR (ev ad xs bS (vs.getD j .null)))))))) := by
    rw [hq]; show some (ad o, Sum.inl (aC ti, evA (ev ad xs bS) ti vs)) = _; rw [hA9]
  have hlt : i.toNatClampNeg < vs.length := Nat.not_le.mp fun z => h1 (Or.inr z)
  refine W.aald (v := va_rf (evR (ev ad xs bS (vs.getD i.toNatClampNeg .null)))) (ty := xty ti) hx hb (hP q0 _ hq9) ((hK.2 ti _ ht9).1 vs.length (fun j => va_rf (evR (ev ad xs bS (vs.getD j .null))))) (xty_ref h3) (fun z => by cases z) (by show ¬ (i < 0 ∨ (arrV _ _ _).slots.size ≤ _); rw [arrV_size]; exact h1) (by show (arrV _ _ _).slots[_]? = _; rw [arrV_read _ _ hlt]) rfl rfl hd ?_
  have e1 : va_rf (evR (ev ad xs bS (vs.getD i.toNatClampNeg .null))) = ev ad xs bS v := by
    rw [h2, getD_at hv]
    rcases xref_ev (ad := ad) (xs := xs) (bS := bS) hok with e | ⟨a, e⟩ <;> rw [e] <;> rfl
  show W p l e R s m args below meth c H locs σ'.2.2.2.1 σ'.2.2.2.2 Q (F0 m (pc + 1) ls (va_rf (evR (ev ad xs bS (vs.getD i.toNatClampNeg .null))) :: evS (ev ad xs bS) r))
  rw [e1]
  exact kk ad H locs (fun _ _ => rfl) (Nat.le_refl _) hP hD hS hl
theorem xw_zald (hx : p.tables.exec = Jvm.exec) (hb : c.code = cc) (hK : va_K D classes (xtys aC) s)
    {lv : XL} {st st' : List Value} {σ σ' : XS} (h : xald xint (fun ti => Nat.beq ti 1) st σ = some (st', σ'))
    (hP : va_P D classes (evH (ev ad xs bS) ad aC σ.2.1) H) (hD : va_D A (evH (ev ad xs bS) ad aC σ.2.1)) (hS : va_S A s.heap H locs) (hl : lv_has ls nL (evL (ev ad xs bS) lv)) (hd : decode cc pc = .ok (.baload, 1))
    (kk : xgo p l e R s m args below meth c Q ad xs bS aC D A lv σ.2.2.1 (pc + 1) ls st' σ' nL) : W p l e R s m args below meth c H locs σ.2.2.2.1 σ.2.2.2.2 Q (F0 m pc ls (evS (ev ad xs bS) st)) := by
  obtain ⟨i, o, r, ti, vs, j, v, rfl, hk, ht, hj, hv, hok, hq⟩ := xald_spec h
  obtain ⟨rfl, rfl⟩ := Prod.mk.inj hq
  have ht := Nat.eq_of_beq_eq_true ht
  subst ht
  obtain ⟨h1, h2, -⟩ := xix_spec hj
  obtain ⟨q0, hq, -⟩ := xhk_get (E := ev ad xs bS) (ad := ad) (aC := aC) hk
  refine va_zald hx hb hK hP q0 1 hq (xtys_get aC (by omega)) h1 hd ?_
  have e1 : Value.int (evI (ev ad xs bS (vs.getD i.toNatClampNeg (.int 0)))) = ev ad xs bS v := by
    rw [h2, getD_at hv]
    obtain ⟨a, e⟩ := xint_ev (ad := ad) (xs := xs) (bS := bS) hok
    rw [e]; rfl
  show W p l e R s m args below meth c H locs σ'.2.2.2.1 σ'.2.2.2.2 Q (F0 m (pc + 1) ls (Value.int (evI (ev ad xs bS (vs.getD i.toNatClampNeg (.int 0)))) :: evS (ev ad xs bS) r))
  rw [e1]
  exact kk ad H locs (fun _ _ => rfl) (Nat.le_refl _) hP hD hS hl
theorem xw_ild (hx : p.tables.exec = Jvm.exec) (hb : c.code = cc) (hK : va_K D classes (xtys aC) s) {scr : Option (Nat × (Nat → Int32))} (hX : ∀ L ys, scr = some (L, ys) → ys = xs ∧ va_X bS L xs s s.heap ∧ bS < s.heap.size ∧ ¬ A bS)
    {lv : XL} {st st' : List Value} {σ σ' : XS} (h : xild scr st σ = some (st', σ'))
    (hP : va_P D classes (evH (ev ad xs bS) ad aC σ.2.1) H) (hD : va_D A (evH (ev ad xs bS) ad aC σ.2.1)) (hS : va_S A s.heap H locs) (hl : lv_has ls nL (evL (ev ad xs bS) lv)) (hd : decode cc pc = .ok (.iaload, 1))
    (kk : xgo p l e R s m args below meth c Q ad xs bS aC D A lv σ.2.2.1 (pc + 1) ls st' σ' nL) : W p l e R s m args below meth c H locs σ.2.2.2.1 σ.2.2.2.2 Q (F0 m pc ls (evS (ev ad xs bS) st)) := by
  unfold xild at h
  split at h
  · rename_i i a r
    split at h
    · rename_i L ys
      split at h
      · rename_i j hj
        obtain ⟨rfl, rfl⟩ := Prod.mk.inj (Option.some.inj h)
        obtain ⟨rfl, x1, x2, x3⟩ := hX L ys rfl
        obtain ⟨h1, h2, -⟩ := xix_spec hj
        refine va_sld hx hb x1 x2 x3 hS h1 hd ?_
        rw [h2]
        exact kk ad H locs (fun _ _ => rfl) (Nat.le_refl _) hP hD hS hl
      · cases h
    · cases h
  · obtain ⟨i, o, r, ti, vs, j, v, rfl, hk, ht, hj, hv, hok, hq⟩ := xald_spec h
    obtain ⟨rfl, rfl⟩ := Prod.mk.inj hq
    have ht := Nat.eq_of_beq_eq_true ht
    subst ht
    obtain ⟨h1, h2, -⟩ := xix_spec hj
    obtain ⟨q0, hq, -⟩ := xhk_get (E := ev ad xs bS) (ad := ad) (aC := aC) hk
    refine va_iald hx hb hK hP q0 0 hq (xtys_get aC (by omega)) h1 hd ?_
    have e1 : Value.int (evI (ev ad xs bS (vs.getD i.toNatClampNeg (.int 0)))) = ev ad xs bS v := by
      rw [h2, getD_at hv]
      obtain ⟨a, e⟩ := xint_ev (ad := ad) (xs := xs) (bS := bS) hok
      rw [e]; rfl
    show W p l e R s m args below meth c H locs σ'.2.2.2.1 σ'.2.2.2.2 Q (F0 m (pc + 1) ls (Value.int (evI (ev ad xs bS (vs.getD i.toNatClampNeg (.int 0)))) :: evS (ev ad xs bS) r))
    rw [e1]
    exact kk ad H locs (fun _ _ => rfl) (Nat.le_refl _) hP hD hS hl
theorem xw_iast (hx : p.tables.exec = Jvm.exec) (hb : c.code = cc) (hK : va_K D classes (xtys aC) s)
    {lv : XL} {st st' : List Value} {σ σ' : XS} (h : xast xint (fun ti => Nat.beq ti 0) st σ = some (st', σ'))
    (hP : va_P D classes (evH (ev ad xs bS) ad aC σ.2.1) H) (hD : va_D A (evH (ev ad xs bS) ad aC σ.2.1)) (hS : va_S A s.heap H locs) (hl : lv_has ls nL (evL (ev ad xs bS) lv)) (hd : decode cc pc = .ok (.iastore, 1))
    (kk : xgo p l e R s m args below meth c Q ad xs bS aC D A lv σ.2.2.1 (pc + 1) ls st' σ' nL) : W p l e R s m args below meth c H locs σ.2.2.2.1 σ.2.2.2.2 Q (F0 m pc ls (evS (ev ad xs bS) st)) := by
  obtain ⟨v, i, o, r, ti, vs, j, rfl, hk, ht, hok, hj, hq⟩ := xast_spec h
  obtain ⟨rfl, rfl⟩ := Prod.mk.inj hq
  have ht := Nat.eq_of_beq_eq_true ht
  subst ht
  obtain ⟨h1, h2, h3⟩ := xix_spec hj
  obtain ⟨q0, hq, hset⟩ := xhk_get (E := ev ad xs bS) (ad := ad) (aC := aC) hk
  obtain ⟨x, hxv⟩ := xint_ev (ad := ad) (xs := xs) (bS := bS) hok
  have e1 : evA (ev ad xs bS) 0 (vs.set j v) = (vs.length, .inl (upd (fun k => evI (ev ad xs bS (vs.getD k (.int 0)))) i.toNatClampNeg x)) := by
    show ((vs.set j v).length, Sum.inl (fun k => evI (ev ad xs bS ((vs.set j v).getD k (.int 0))))) = _
    rw [List.length_set]
    refine congrArg (fun z => (vs.length, Sum.inl z)) (funext fun k => ?_)
    show evI (ev ad xs bS ((vs.set j v).getD k (.int 0))) = upd _ _ _ k
    rw [getD_put v _ h3, h2]
    unfold upd
    by_cases hkj : k = j
    · rw [if_pos hkj, if_pos hkj, hxv]; rfl
    · rw [if_neg hkj, if_neg hkj]
  show W p l e R s m args below meth c H locs _ _ Q (F0 m pc ls (ev ad xs bS v :: .int i :: .ref (ad o) :: evS (ev ad xs bS) st'))
  rw [hxv]
  refine va_iast hx hb hK hP hD hS q0 0 hq (xtys_get aC (by omega)) h1 hd (fun H1 locs1 p1 d1 s1 => ?_)
  have e2 : (evH (ev ad xs bS) ad aC σ.2.1).set q0 (ad o, .inl (aC 0, vs.length, .inl (upd (fun k => evI (ev ad xs bS (vs.getD k (.int 0)))) i.toNatClampNeg x))) = evH (ev ad xs bS) ad aC (xhs σ.2.1 o (true, 0, vs.set j v)) := by
    rw [← hset (true, 0, vs.set j v)]
    show _ = (evH (ev ad xs bS) ad aC σ.2.1).set q0 (ad o, .inl (aC 0, evA (ev ad xs bS) 0 (vs.set j v)))
    rw [e1]
  exact kk ad H1 locs1 (fun _ _ => rfl) (Nat.le_refl _) (by dsimp only; rw [← e2]; exact p1) (by dsimp only; rw [← e2]; exact d1) s1 hl
theorem xbool_ev {v : Value} (h : xbool v = true) : ∃ x, ev ad xs bS v = .int x ∧ vp_nar .boolean x = x := by
  unfold xbool at h
  split at h
  · rename_i x
    simp only [Bool.or_eq_true, decide_eq_true_eq] at h
    rcases h with rfl | rfl
    · exact ⟨0, rfl, by decide⟩
    · exact ⟨1, rfl, by decide⟩
  · cases h
theorem xw_zast (hx : p.tables.exec = Jvm.exec) (hb : c.code = cc) (hK : va_K D classes (xtys aC) s)
    {lv : XL} {st st' : List Value} {σ σ' : XS} (h : xast xbool (fun ti => Nat.beq ti 1) st σ = some (st', σ'))
    (hP : va_P D classes (evH (ev ad xs bS) ad aC σ.2.1) H) (hD : va_D A (evH (ev ad xs bS) ad aC σ.2.1)) (hS : va_S A s.heap H locs) (hl : lv_has ls nL (evL (ev ad xs bS) lv)) (hd : decode cc pc = .ok (.bastore, 1))
    (kk : xgo p l e R s m args below meth c Q ad xs bS aC D A lv σ.2.2.1 (pc + 1) ls st' σ' nL) : W p l e R s m args below meth c H locs σ.2.2.2.1 σ.2.2.2.2 Q (F0 m pc ls (evS (ev ad xs bS) st)) := by
  obtain ⟨v, i, o, r, ti, vs, j, rfl, hk, ht, hok, hj, hq⟩ := xast_spec h
  obtain ⟨rfl, rfl⟩ := Prod.mk.inj hq
  have ht := Nat.eq_of_beq_eq_true ht
  subst ht
  obtain ⟨h1, h2, h3⟩ := xix_spec hj
  obtain ⟨q0, hq, hset⟩ := xhk_get (E := ev ad xs bS) (ad := ad) (aC := aC) hk
  obtain ⟨x, hxv, hnar⟩ := xbool_ev (ad := ad) (xs := xs) (bS := bS) hok
  have e1 : evA (ev ad xs bS) 1 (vs.set j v) = (vs.length, .inl (upd (fun k => evI (ev ad xs bS (vs.getD k (.int 0)))) i.toNatClampNeg x)) := by
    show ((vs.set j v).length, Sum.inl (fun k => evI (ev ad xs bS ((vs.set j v).getD k (.int 0))))) = _
    rw [List.length_set]
    refine congrArg (fun z => (vs.length, Sum.inl z)) (funext fun k => ?_)
    show evI (ev ad xs bS ((vs.set j v).getD k (.int 0))) = upd _ _ _ k
    rw [getD_put v _ h3, h2]
    unfold upd
    by_cases hkj : k = j
    · rw [if_pos hkj, if_pos hkj, hxv]; rfl
    · rw [if_neg hkj, if_neg hkj]
  show W p l e R s m args below meth c H locs _ _ Q (F0 m pc ls (ev ad xs bS v :: .int i :: .ref (ad o) :: evS (ev ad xs bS) st'))
  rw [hxv]
  refine va_zast hx hb hK hP hD hS q0 1 hq (xtys_get aC (by omega)) h1 hd (fun H1 locs1 p1 d1 s1 => ?_)
  rw [hnar] at p1 d1
  have e2 : (evH (ev ad xs bS) ad aC σ.2.1).set q0 (ad o, .inl (aC 1, vs.length, .inl (upd (fun k => evI (ev ad xs bS (vs.getD k (.int 0)))) i.toNatClampNeg x))) = evH (ev ad xs bS) ad aC (xhs σ.2.1 o (true, 1, vs.set j v)) := by
    rw [← hset (true, 1, vs.set j v)]
    show _ = (evH (ev ad xs bS) ad aC σ.2.1).set q0 (ad o, .inl (aC 1, evA (ev ad xs bS) 1 (vs.set j v)))
    rw [e1]
  exact kk ad H1 locs1 (fun _ _ => rfl) (Nat.le_refl _) (by dsimp only; rw [← e2]; exact p1) (by dsimp only; rw [← e2]; exact d1) s1 hl
/-- an array of references behind a store -/
theorem evA_putq {ti : Nat} (h3 : 3 ≤ ti) {vs : List Value} {j : Nat} {v : Value} {x : Option Nat} (hj : j < vs.length) (hxv : evR (ev ad xs bS v) = x) :
    evA (ev ad xs bS) ti (vs.set j v) = (vs.length, .inr (.inr (.inr (.inr (va_up (fun k => evR (ev ad xs bS (vs.getD k .null))) j x))))) := by
  have hA9 : evA (ev ad xs bS) ti (vs.set j v) = ((vs.set j v).length, .inr (.inr (.inr (.inr (fun k => evR (ev ad xs bS ((vs.set j v).getD k .null))))))) := by
    match ti, h3 with
    | k + 3, _ => rfl
  rw [hA9, List.length_set]
  refine congrArg (fun z => (vs.length, Sum.inr (Sum.inr (Sum.inr (Sum.inr z))))) (funext fun k => ?_)
  show evR (ev ad xs bS ((vs.set j v).getD k .null)) = va_up _ _ _ k
  rw [getD_put v _ hj]
  unfold va_up
  by_cases hkj : k = j
  · rw [if_pos hkj, if_pos hkj, hxv]
  · rw [if_neg hkj, if_neg hkj]
theorem xcell_cls (c : ClassId) (x : vp_A) : (vp_cell c x).cls = c ∧ (vp_cell c x).vm = .none := by
  obtain ⟨n, f | f | f | f | f⟩ := x <;> exact ⟨rfl, rfl⟩
theorem xw_asa (hx : p.tables.exec = Jvm.exec) (hb : c.code = cc) (hK : va_K D classes (xtys aC) s) (hAA : ∀ ty, (ty = .array .int ∨ ty = .array .boolean ∨ ty = .array (.array .int)) → (Jvm.Cond.arrayOver ty).before args s = true)
    {lv : XL} {st st' : List Value} {σ σ' : XS} (h : xasa st σ = some (st', σ'))
    (hP : va_P D classes (evH (ev ad xs bS) ad aC σ.2.1) H) (hD : va_D A (evH (ev ad xs bS) ad aC σ.2.1)) (hS : va_S A s.heap H locs) (hl : lv_has ls nL (evL (ev ad xs bS) lv)) (hd : decode cc pc = .ok (.aastore, 1))
    (kk : xgo p l e R s m args below meth c Q ad xs bS aC D A lv σ.2.2.1 (pc + 1) ls st' σ' nL) : W p l e R s m args below meth c H locs σ.2.2.2.1 σ.2.2.2.2 Q (F0 m pc ls (evS (ev ad xs bS) st)) := by
  unfold xasa at h
  split at h
  · obtain ⟨v, i, o, r, ti, vs, j, hst, hk, ht, hok, hj, hq⟩ := xast_spec h
    obtain ⟨rfl, rfl⟩ := List.cons.inj hst
    obtain ⟨rfl, rfl⟩ := Prod.mk.inj hq
    rw [Bool.and_eq_true] at ht
    have h3 := Nat.le_of_ble_eq_true ht.1
    have h5 := Nat.le_of_ble_eq_true ht.2
    obtain ⟨h1, h2, hjl⟩ := xix_spec hj
    obtain ⟨q0, hq, hset⟩ := xhk_get (E := ev ad xs bS) (ad := ad) (aC := aC) hk
    obtain ⟨C, hC⟩ := xty_obj h3 h5
    have ht9 := xtys_get aC (show ti ≤ 8 by omega)
    rw [hC] at ht9
    have hA9 : evA (ev ad xs bS) ti vs = (vs.length, .inr (.inr (.inr (.inr (fun j => evR (ev ad xs bS (vs.getD j .null))))))) := by
      match ti, h3 with
      | k + 3, _ => rfl
    have hq9 : (evH (ev ad xs bS) ad aC σ.2.1)[q0]? = some (ad o, .inl (aC ti, vs.length, .inr (.inr (.inr (.inr (fun j => evR (ev ad xs bS (vs.getD j .null)))))))) := by
      rw [hq]; show some (ad o, Sum.inl (aC ti, evA (ev ad xs bS) ti vs)) = _; rw [hA9]
    refine va_astqN hx hb hK hP hD hS q0 ti (C := C) hq9 ht9 h1 hd (fun H1 locs1 p1 d1 s1 => ?_)
    have e2 : (evH (ev ad xs bS) ad aC σ.2.1).set q0 (ad o, .inl (aC ti, vs.length, .inr (.inr (.inr (.inr (va_up (fun j => evR (ev ad xs bS (vs.getD j .null))) i.toNatClampNeg none)))))) = evH (ev ad xs bS) ad aC (xhs σ.2.1 o (true, ti, vs.set j .null)) := by
      rw [← hset (true, ti, vs.set j .null)]
      show _ = (evH (ev ad xs bS) ad aC σ.2.1).set q0 (ad o, .inl (aC ti, evA (ev ad xs bS) ti (vs.set j .null)))
      rw [evA_putq h3 hjl (x := none) rfl, h2]
    exact kk ad H1 locs1 (fun _ _ => rfl) (Nat.le_refl _) (by dsimp only; rw [← e2]; exact p1) (by dsimp only; rw [← e2]; exact d1) s1 hl
  · rename_i b w2 o2 rr
    split at h
    · rename_i ti2 vs2 bb ci fs hk1 hk2
      cases hb9 : (Nat.ble 3 ti2 && (Nat.ble ti2 8 && ((bb == (xel ti2).1) && Nat.beq ci (xel ti2).2))) with
      | false => rw [hb9] at h; cases h
      | true =>
        rw [hb9] at h
        simp only [cond_true] at h
        simp only [Bool.and_eq_true, beq_iff_eq] at hb9
        obtain ⟨h3, h8, hb8, hb9⟩ := hb9
        have h3 := Nat.le_of_ble_eq_true h3
        have h8 := Nat.le_of_ble_eq_true h8
        have hb9 := Nat.eq_of_beq_eq_true hb9
        obtain ⟨v, i, o, r, ti, vs, j, hst, hk, ht, hok, hj, hq⟩ := xast_spec h
        obtain ⟨e1, hs1⟩ := List.cons.inj hst
        obtain ⟨e2, hs2⟩ := List.cons.inj hs1
        obtain ⟨e3, hs3⟩ := List.cons.inj hs2
        cases e3
        subst e1; subst e2; subst hs3
        obtain ⟨rfl, rfl⟩ := Prod.mk.inj hq
        have ht := Nat.eq_of_beq_eq_true ht
        subst ht
        obtain ⟨h1, h2, hjl⟩ := xix_spec hj
        obtain ⟨q0, hq, hset⟩ := xhk_get (E := ev ad xs bS) (ad := ad) (aC := aC) hk
        obtain ⟨qk, hqk, -⟩ := xhk_get (E := ev ad xs bS) (ad := ad) (aC := aC) hk2
        have hA9 : evA (ev ad xs bS) ti2 vs = (vs.length, .inr (.inr (.inr (.inr (fun j => evR (ev ad xs bS (vs.getD j .null))))))) := by
          match ti2, h3 with
          | k + 3, _ => rfl
        have hq9 : (evH (ev ad xs bS) ad aC σ.2.1)[q0]? = some (ad o2, .inl (aC ti2, vs.length, .inr (.inr (.inr (.inr (fun j => evR (ev ad xs bS (vs.getD j .null)))))))) := by
          rw [hq]; show some (ad o2, Sum.inl (aC ti2, evA (ev ad xs bS) ti2 vs)) = _; rw [hA9]
        have fin : ∀ (H1 : Heap) (locs1 : List Loc), va_P D classes ((evH (ev ad xs bS) ad aC σ.2.1).set q0 (ad o2, .inl (aC ti2, vs.length, .inr (.inr (.inr (.inr (va_up (fun j => evR (ev ad xs bS (vs.getD j .null))) i.toNatClampNeg (some (ad b))))))))) H1 → va_D A ((evH (ev ad xs bS) ad aC σ.2.1).set q0 (ad o2, .inl (aC ti2, vs.length, .inr (.inr (.inr (.inr (va_up (fun j => evR (ev ad xs bS (vs.getD j .null))) i.toNatClampNeg (some (ad b))))))))) → va_S A s.heap H1 locs1 →
            W p l e R s m args below meth c H1 locs1 σ.2.2.2.1 σ.2.2.2.2 Q (F0 m (pc + 1) ls (evS (ev ad xs bS) st')) := fun H1 locs1 p1 d1 s1 => by
          have e2 : (evH (ev ad xs bS) ad aC σ.2.1).set q0 (ad o2, .inl (aC ti2, vs.length, .inr (.inr (.inr (.inr (va_up (fun j => evR (ev ad xs bS (vs.getD j .null))) i.toNatClampNeg (some (ad b)))))))) = evH (ev ad xs bS) ad aC (xhs σ.2.1 o2 (true, ti2, vs.set j (.ref b))) := by
            rw [← hset (true, ti2, vs.set j (.ref b))]
            show _ = (evH (ev ad xs bS) ad aC σ.2.1).set q0 (ad o2, .inl (aC ti2, evA (ev ad xs bS) ti2 (vs.set j (.ref b))))
            rw [evA_putq h3 hjl (x := some (ad b)) rfl, h2]
          exact kk ad H1 locs1 (fun _ _ => rfl) (Nat.le_refl _) (by dsimp only; rw [← e2]; exact p1) (by dsimp only; rw [← e2]; exact d1) s1 hl
        have obj : ∀ (ci9 : Nat) (r : vw_C), bb = false → ci = ci9 → (classes : List vw_C)[ci9]? = some r → xty ti2 = .object r.1 → W p l e R s m args below meth c H locs σ.2.2.2.1 σ.2.2.2.2 Q (F0 m pc ls (.ref (ad b) :: .int i :: .ref (ad o2) :: evS (ev ad xs bS) st')) := by
          intro ci9 r e1 e2 e3 e4
          subst e1; subst e2
          exact va_astq hx hb hK hP hD hS q0 ti2 qk ci (r := r) (v := ad b) (vs := fs.map (ev ad xs bS)) hq9 (by rw [xtys_get aC h8, e4]) hqk e3 h1 hd fin
        have arr : ∀ (tj : Nat) (ty : FieldType), bb = true → ci = tj → tj ≤ 8 → xty ti2 = .array ty → xty tj = ty → (FieldType.array ty).toString = "[" ++ ty.toString → (∀ c9 : ClassId, s.vm.findClass ("[" ++ ty.toString) = some c9 → va_RA s c9 ty) → (Jvm.Cond.arrayOver (.array ty)).before args s = true → W p l e R s m args below meth c H locs σ.2.2.2.1 σ.2.2.2.2 Q (F0 m pc ls (.ref (ad b) :: .int i :: .ref (ad o2) :: evS (ev ad xs bS) st')) := by
          intro tj ty e1 e2 e3 e4 e5 hstr hra hov
          subst e1; subst e2
          obtain ⟨comp, c9, k9, f1, f2, f3, f4⟩ := Cond.arrayOver_specA hov
          have g1 : c9 = aC ti2 := xRA_inj (ty := .array ty) f4 (by have := (hK.2 ti2 _ (xtys_get aC h8)).2; rw [e4] at this; exact this)
          have g2 : comp = aC ci := xRA_inj (ty := ty) (hra comp (by rw [← hstr]; exact f1)) (by have := (hK.2 ci _ (xtys_get aC e3)).2; rw [e5] at this; exact this)
          subst g1; subst g2
          obtain ⟨-, kv, hkv, -⟩ := (hK.2 ci _ (xtys_get aC e3)).1 0 (fun _ => .null)
          have hkv : s.vm.classes[aC ci]? = some kv := hkv
          have hcv : H[ad b]? = some (vp_cell (aC ci) (evA (ev ad xs bS) ci fs)) := hP qk _ hqk
          obtain ⟨v1, v2⟩ := xcell_cls (aC ci) (evA (ev ad xs bS) ci fs)
          have hlt : i.toNatClampNeg < vs.length := Nat.not_le.mp fun z => h1 (Or.inr z)
          have hi0 : ¬ i < 0 := fun z => h1 (Or.inl z)
          refine W.aast hx hb (hP q0 _ hq9) (fun q h => by cases h) (fun h => by cases h) f2 f3 rfl hkv ⟨hi0, by show _ < (arrV _ _ _).slots.size; rw [arrV_size]; exact hlt⟩ hcv (fun q h => by rw [v2] at h; cases h) (by rw [v1]; exact hkv) (by rw [v1]; exact va_asg _ _) rfl rfl hd (fun H1 e z oq => ?_)
          refine fin H1 _ (hP.set hD hq9 ?_ oq) (hD.set hq9) (hS.put z oq (hD.2 q0 _ hq9))
          show H1[ad o2]? = some (vp_cell _ _)
          rw [e, vp_cell_q, vp_cell_q, arrV_store]
          refine congrArg (fun z => some (arrV (aC ti2) vs.length z)) (funext fun q => ?_)
          unfold updV va_up
          by_cases hqj : q = i.toNatClampNeg
          · rw [if_pos hqj, if_pos hqj]; rfl
          · rw [if_neg hqj, if_neg hqj]
        show W p l e R s m args below meth c H locs σ.2.2.2.1 σ.2.2.2.2 Q (F0 m pc ls (.ref (ad b) :: .int i :: .ref (ad o2) :: evS (ev ad xs bS) st'))
        match ti2, h3, h8, hb8, hb9, obj, arr with
        | 3, _, _, hb8, hb9, obj, _ => exact obj 10 _ hb8 hb9 rfl rfl
        | 4, _, _, hb8, hb9, obj, _ => exact obj 3 _ hb8 hb9 rfl rfl
        | 5, _, _, hb8, hb9, obj, _ => exact obj 8 _ hb8 hb9 rfl rfl
        | 6, _, _, hb8, hb9, _, arr => exact arr 0 .int hb8 hb9 (by omega) rfl rfl (by decide +kernel) (fun _ h9 => h9) (hAA _ (Or.inl rfl))
        | 7, _, _, hb8, hb9, _, arr => exact arr 1 .boolean hb8 hb9 (by omega) rfl rfl (by decide +kernel) (fun _ h9 => h9) (hAA _ (Or.inr (Or.inl rfl)))
        | 8, _, _, hb8, hb9, _, arr => exact arr 6 (.array .int) hb8 hb9 (by omega) rfl rfl (by decide +kernel) (fun _ h9 => h9) (hAA _ (Or.inr (Or.inr rfl)))
        | n + 9, _, h8, _, _, _, _ => omega
    · cases h
  · cases h
end XO
