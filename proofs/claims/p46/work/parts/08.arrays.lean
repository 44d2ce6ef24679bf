section XO
variable {p : Program} {l : Launch} {e : Env} {R : Room} {s : State} {m : MethodId} {args : Array Value} {below : List Frame} {meth : Method} {c : Code} {H : Heap} {locs : List Loc} {Q : State → Prop}
variable {cc : ByteArray} {pc nL : Nat} {ls : Array Slot} {ad : Nat → Nat} {xs : Nat → Int32} {bS : Nat} {aC : Nat → ClassId} {D : va_G} {A : Nat → Prop} {own : String} {Ts : List Jvm.Cond}
theorem xrefw_at (w : Nat) : ∀ (N n j : Nat), j < N → (xrefw n w N)[j]? = some (.ref (n + j * w))
  | 0, n, j, h => by omega
  | N + 1, n, 0, _ => by simp [xrefw]
  | N + 1, n, j + 1, h => by
    show (xrefw (n + w) w N)[j]? = _
    rw [xrefw_at w N (n + w) j (by omega), Nat.succ_mul]
    congr 2
    omega
theorem xrefw_len (w : Nat) : ∀ (N n : Nat), (xrefw n w N).length = N
  | 0, _ => rfl
  | N + 1, n => by show (xrefw (n + w) w N).length + 1 = _; rw [xrefw_len w N]
theorem xrows_at (c : XCl) : ∀ (N n j : Nat), j < N → (xrows n c N)[j]? = some (n + j, c)
  | 0, n, j, h => by omega
  | N + 1, n, 0, _ => by simp [xrows]
  | N + 1, n, j + 1, h => by
    show (xrows (n + 1) c N)[j]? = _
    rw [xrows_at c N (n + 1) j (by omega)]
    congr 2
    omega
theorem xrows_len (c : XCl) : ∀ (N n : Nat), (xrows n c N).length = N
  | 0, _ => rfl
  | N + 1, n => by show (xrows (n + 1) c N).length + 1 = _; rw [xrows_len c N]
theorem xgrid_len (M : Nat) : ∀ (N n : Nat), (xgrid n M N).length = N * (1 + M)
  | 0, _ => by simp [xgrid]
  | N + 1, n => by
    show (((n, (true, 6, xrefw (n + 1) 1 M)) :: xrows (n + 1) (true, 0, []) M) ++ xgrid (n + (1 + M)) M N).length = _
    rw [List.length_append, List.length_cons, xrows_len, xgrid_len M N, Nat.succ_mul]
    omega
/-- what stands at a place of the grid -/
theorem xgrid_at (M : Nat) : ∀ (N n j q : Nat), j < N → q ≤ M → (xgrid n M N)[j * (1 + M) + q]? = some (n + (j * (1 + M) + q), if q = 0 then (true, 6, xrefw (n + j * (1 + M) + 1) 1 M) else (true, 0, []))
  | 0, n, j, q, h, _ => by omega
  | N + 1, n, 0, q, _, hq => by
    show (((n, (true, 6, xrefw (n + 1) 1 M)) :: xrows (n + 1) (true, 0, []) M) ++ xgrid (n + (1 + M)) M N)[0 * (1 + M) + q]? = _
    rw [Nat.zero_mul, Nat.zero_add, List.getElem?_append_left (by rw [List.length_cons, xrows_len]; omega)]
    cases q with
    | zero => simp
    | succ q =>
      show (xrows (n + 1) (true, 0, []) M)[q]? = _
      rw [xrows_at _ M (n + 1) q (by omega), if_neg (by omega)]
      congr 2
      omega
  | N + 1, n, j + 1, q, h, hq => by
    show (((n, (true, 6, xrefw (n + 1) 1 M)) :: xrows (n + 1) (true, 0, []) M) ++ xgrid (n + (1 + M)) M N)[(j + 1) * (1 + M) + q]? = _
    have hl : ((n, ((true, 6, xrefw (n + 1) 1 M) : XCl)) :: xrows (n + 1) (true, 0, []) M).length = 1 + M := by rw [List.length_cons, xrows_len]; omega
    have e1 : (j + 1) * (1 + M) + q - (1 + M) = j * (1 + M) + q := by rw [Nat.succ_mul]; omega
    have e2 : 1 + M ≤ (j + 1) * (1 + M) + q := by rw [Nat.succ_mul]; omega
    rw [List.getElem?_append_right (by rw [hl]; exact e2), hl, e1, xgrid_at M N (n + (1 + M)) j q (by omega) hq]
    have e3 : n + (1 + M) + (j * (1 + M) + q) = n + ((j + 1) * (1 + M) + q) := by rw [Nat.succ_mul]; omega
    have e4 : n + (1 + M) + j * (1 + M) + 1 = n + (j + 1) * (1 + M) + 1 := by rw [Nat.succ_mul]; omega
    rw [e3, e4]
/-- things more, one behind another -/
theorem xadd {ws : va_W} {H1 : Heap} {new : XH} {n : Nat} {ad' : Nat → Nat} {E : Value → Value} (hP : va_P D classes ws H) (hD : va_D A ws) (hold : ∀ x : Nat, x < H.size → H1[x]? = H[x]?) (hA : ∀ q, H.size ≤ q → A q)
    (hc : ∀ (i : Nat) (q : Nat × XCl), new[i]? = some q → q.1 = n + i) (ha : ∀ i, ad' (n + i) = H.size + i) (hat : ∀ (i : Nat) (q : Nat × XCl), new[i]? = some q → va_at D classes (H.size + i, evC E aC q.2) H1) :
    va_P D classes (ws ++ evH E ad' aC new) H1 ∧ va_D A (ws ++ evH E ad' aC new) := by
  have hg : ∀ (k : Nat) (x : Nat × va_E), (evH E ad' aC new)[k]? = some x → ∃ q, new[k]? = some q ∧ x = (H.size + k, evC E aC q.2) := by
    intro k x hx
    unfold evH at hx
    rw [List.getElem?_map] at hx
    cases hn : new[k]? with
    | none => rw [hn] at hx; cases hx
    | some q =>
      rw [hn] at hx
      refine ⟨q, rfl, ?_⟩
      have := Option.some.inj hx
      rw [← this, hc k q hn, ha]
  refine ⟨(hP.kept (fun k x hx => hold x.1 ((hP k x hx).lt))).app (fun k x hx => ?_), hD.app ⟨fun i j p9 q9 hp hq he => ?_, fun k x hx => ?_⟩ (fun i j p9 q9 hp hq => ?_)⟩
  · obtain ⟨q, hq, rfl⟩ := hg k x hx
    exact hat k q hq
  · obtain ⟨a, -, rfl⟩ := hg i p9 hp
    obtain ⟨b, -, rfl⟩ := hg j q9 hq
    have he : H.size + i = H.size + j := he
    omega
  · obtain ⟨q, -, rfl⟩ := hg k x hx
    exact hA _ (Nat.le_add_right _ _)
  · obtain ⟨b, -, rfl⟩ := hg j q9 hq
    have h1 := (hP i p9 hp).lt
    show p9.1 ≠ H.size + j
    omega
theorem xouter (c : ClassId) (N h0 w : Nat) : ∀ i : Nat, xg_out c N h0 w i = arrV c N (fun j => va_rf (if j < i then some (h0 + 1 + j * w) else none))
  | 0 => by
    show ({ cls := c, slots := Array.replicate N .null, vm := .none } : Cell) = _
    rw [arrV_new]
    refine congrArg (arrV c N) (funext fun j => ?_)
    simp [va_rf]
  | i + 1 => by
    show (xg_out c N h0 w i).setSlot i (.ref (h0 + 1 + i * w)) = _
    rw [xouter c N h0 w i, arrV_store]
    refine congrArg (arrV c N) (funext fun j => ?_)
    by_cases e : j = i
    · subst e
      simp [updV, va_rf]
    · by_cases h : j < i
      · simp [updV, e, h, Nat.lt_succ_of_lt h]
      · simp [updV, e, h, show ¬ j < i + 1 by omega]
theorem xouter1 (c : ClassId) (N h0 : Nat) : ∀ i : Nat, Jvm.Free.Multi.outerC c N h0 i = arrV c N (fun j => va_rf (if j < i then some (h0 + 1 + j * 1) else none))
  | 0 => by
    show ({ cls := c, slots := Array.replicate N .null, vm := .none } : Cell) = _
    rw [arrV_new]
    refine congrArg (arrV c N) (funext fun j => ?_)
    simp [va_rf]
  | i + 1 => by
    show (Jvm.Free.Multi.outerC c N h0 i).setSlot i (.ref (h0 + 1 + i)) = _
    rw [xouter1 c N h0 i, arrV_store]
    refine congrArg (arrV c N) (funext fun j => ?_)
    by_cases e : j = i
    · subst e
      simp [updV, va_rf]
    · by_cases h : j < i
      · simp [updV, e, h, Nat.lt_succ_of_lt h]
      · simp [updV, e, h, show ¬ j < i + 1 by omega]
/-- an array of references to things one behind another -/
theorem xrefw_cell {ad' : Nat → Nat} {n w N to B : Nat} (ht : 3 ≤ to) (ha : ∀ j, j < N → ad' (n + j * w) = B + j * w) (c : ClassId) : vp_cell c (evA (ev ad' xs bS) to (xrefw n w N)) = arrV c N (fun j => va_rf (if j < N then some (B + j * w) else none)) := by
  have hA9 : evA (ev ad' xs bS) to (xrefw n w N) = ((xrefw n w N).length, .inr (.inr (.inr (.inr (fun j => evR (ev ad' xs bS ((xrefw n w N).getD j .null))))))) := by
    match to, ht with
    | k + 3, _ => rfl
  rw [hA9, vp_cell_q, xrefw_len]
  refine congrArg (arrV c N) (funext fun j => ?_)
  by_cases h : j < N
  · rw [if_pos h, getD_at (xrefw_at w N n j h)]
    show va_rf (some (ad' (n + j * w))) = _
    rw [ha j h]
  · rw [if_neg h, List.getD_eq_getElem?_getD, List.getElem?_eq_none (by rw [xrefw_len]; omega)]
    rfl
theorem xarrC {t : FieldType} (h : (Jvm.Cond.arrayOver (.array t)).before args s = true) : (Jvm.Cond.arrayClass (.array t)).before args s = true := by
  obtain ⟨comp, c9, k, h1, h2, h3, h4⟩ := Cond.arrayOver_specA h
  simp [Cond.before, Cond.holds, Cond.value, h4, h2, h3]
/-- the addresses of things one behind another -/
def xbeh (ad : Nat → Nat) (n B : Nat) (j : Nat) : Nat := if j < n then ad j else B + (j - n)
theorem xbeh_lt {ad : Nat → Nat} {n B j : Nat} (h : j < n) : xbeh ad n B j = ad j := if_pos h
theorem xbeh_at {ad : Nat → Nat} {n B i : Nat} : xbeh ad n B (n + i) = B + i := by
  unfold xbeh
  rw [if_neg (by omega), Nat.add_sub_cancel_left]
theorem xw_m2 (hx : p.tables.exec = Jvm.exec) (hb : c.code = cc) (hts : ∀ w ∈ Ts, w.before args s = true) (hown : s.vm.findClass own = some m.cls) (hK : va_K D classes (xtys aC) s) (hA : ∀ q, s.heap.size ≤ q → A q) (hAA : ∀ ty, (ty = .array .int ∨ ty = .array .boolean ∨ ty = .array (.array .int)) → (Jvm.Cond.arrayOver ty).before args s = true)
    {idx : Nat} {aux : List Nat} {init : Bool} (hv : xvh Ts own init (.multianewarray idx 2) aux) {lv : XL} {st st' : List Value} {σ σ' : XS} (hwf : xal σ.2.2.1 lv st σ.2.1 = true) (h : xnewm2 R aux st σ = some (st', σ'))
    (hP : va_P D classes (evH (ev ad xs bS) ad aC σ.2.1) H) (hD : va_D A (evH (ev ad xs bS) ad aC σ.2.1)) (hS : va_S A s.heap H locs) (hl : lv_has ls nL (evL (ev ad xs bS) lv)) (hd : decode cc pc = .ok (.multianewarray idx 2, 4))
    (kk : xgo p l e R s m args below meth c Q ad xs bS aC D A lv σ.2.2.1 (pc + 4) ls st' σ' nL) : W p l e R s m args below meth c H locs σ.2.2.2.1 σ.2.2.2.2 Q (F0 m pc ls (evS (ev ad xs bS) st)) := by
  unfold xnewm2 at h
  split at h
  · rename_i to ti tl k n9 r pe hh n ce sl
    cases h1 : (decide (k < 0) || decide (n9 < 0)) with
    | true => rw [h1] at h; cases h
    | false =>
      rw [h1] at h
      simp only [cond_false] at h
      cases h2 : (Nat.ble k.toNatClampNeg 1000 && (Nat.ble n9.toNatClampNeg 1000 && (Nat.ble (ce + (1 + n9.toNatClampNeg)) R.cells && Nat.ble (sl + (n9.toNatClampNeg + n9.toNatClampNeg * k.toNatClampNeg)) R.slots))) with
      | false => rw [h2] at h; cases h
      | true =>
        rw [h2] at h
        rw [Bool.or_eq_false_iff] at h1
        simp only [Bool.and_eq_true] at h2
        have hk : ¬ k < 0 := of_decide_eq_false h1.1
        have hn : ¬ n9 < 0 := of_decide_eq_false h1.2
        have lk := Nat.le_of_ble_eq_true h2.1
        have ln := Nat.le_of_ble_eq_true h2.2.1
        have lc := Nat.le_of_ble_eq_true h2.2.2.1
        have lS := Nat.le_of_ble_eq_true h2.2.2.2
        obtain ⟨rfl, rfl⟩ := Prod.mk.inj (Option.some.inj h)
        have hwf := xal_tail (xal_tail hwf)
        obtain ⟨oL, oS, oH⟩ := xal_spec hwf
        have hag : ∀ j, j < n → xbeh ad n H.size j = ad j := fun j hj => xbeh_lt hj
        have main : ∀ ty : FieldType, 3 ≤ to → to ≤ 8 → ti ≤ 8 → xty to = .array ty → xty ti = ty → (FieldType.array ty).toString = "[" ++ ty.toString → (Jvm.Cond.classLink own idx ("[" ++ (FieldType.array ty).toString)).before args s = true → (Jvm.Cond.arrayOver (.array ty)).before args s = true → (Jvm.Cond.arrayClass ty).before args s = true → componentBytes ty ≤ 8 → fits ty (defaultValue ty) = true → (defaultValue ty).isDefault = true →
            W p l e R s m args below meth c H locs ce sl Q (F0 m pc ls (.int k :: .int n9 :: evS (ev ad xs bS) r)) := by
          intro ty t3 t8 u8 hto hti hstr hcl hov har hcb hdf hdd
          refine xg_m2 (own := own) (ty := ty) hx hb hown hcl hov har hn hk (by omega) (Nat.le_trans (Nat.mul_le_mul lk hcb) (Nat.le_of_ble_eq_true rfl)) (by omega) hdf hdd lc lS hd (fun H1 cA cB z1 hold fA fB hout hrow => ?_)
          have eA : cA = aC to := xRA_inj (ty := .array ty) fA (by have := (hK.2 to _ (xtys_get aC t8)).2; rw [hto] at this; exact this)
          subst eA
          have eB : cB = aC ti := by
            have h9 := (hK.2 ti _ (xtys_get aC u8)).2
            have h9 : va_RA s (aC ti) (xty ti) := h9
            rw [hti] at h9
            refine xRA_inj (ty := ty) ?_ h9
            rw [hstr] at fB
            cases ty with
            | object C => exact absurd rfl (by intro _; exact absurd hti (by
                match ti, u8 with
                | 0, _ => exact fun z => nomatch z
                | 1, _ => exact fun z => nomatch z
                | n + 2, _ => sorry))
            | _ => exact fB
          subst eB
          sorry
        sorry
  · cases h
