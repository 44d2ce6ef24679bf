/-! whatever a runner's state speaks of has a number below the next: kept by every row -/
section XW0
theorem xbif9 {α : Type} {b : Bool} {x y : Option α} {q : α} (h : (bif b then x else y) = some q) : x = some q ∨ y = some q := by
  cases b with
  | true => exact Or.inl h
  | false => exact Or.inr h
theorem xov_mono {n m : Nat} (h : n ≤ m) {v : Value} (hv : xov n v = true) : xov m v = true := by
  cases v with
  | ref k => exact Nat.ble_eq_true_of_le (Nat.le_trans (Nat.le_of_ble_eq_true hv) h)
  | _ => rfl
theorem xoS_mono {n m : Nat} (h : n ≤ m) {st : List Value} (hs : xoS n st = true) : xoS m st = true :=
  List.all_eq_true.mpr fun v hv => xov_mono h (List.all_eq_true.mp hs v hv)
theorem xoL_mono {n m : Nat} (h : n ≤ m) {lv : XL} (hs : xoL n lv = true) : xoL m lv = true :=
  List.all_eq_true.mpr fun q hq => xov_mono h (List.all_eq_true.mp hs q hq)
theorem xoH_mono {n m : Nat} (h : n ≤ m) {hh : XH} (hs : xoH n hh = true) : xoH m hh = true :=
  List.all_eq_true.mpr fun q hq => by
    have h1 := List.all_eq_true.mp hs q hq
    rw [Bool.and_eq_true] at h1 ⊢
    exact ⟨Nat.ble_eq_true_of_le (Nat.le_trans (Nat.le_of_ble_eq_true h1.1) h), xoS_mono h h1.2⟩
theorem xoS_cons {n : Nat} {v : Value} {st : List Value} : xoS n (v :: st) = true ↔ xov n v = true ∧ xoS n st = true := by
  unfold xoS
  rw [List.all_cons, Bool.and_eq_true]
theorem xoS_app {n : Nat} {a b : List Value} : xoS n (a ++ b) = true ↔ xoS n a = true ∧ xoS n b = true := by
  unfold xoS
  rw [List.all_append, Bool.and_eq_true]
theorem xoS_mem {n : Nat} {st : List Value} (h : xoS n st = true) {v : Value} (hv : v ∈ st) : xov n v = true := List.all_eq_true.mp h v hv
theorem xoL_lk {n i : Nat} {v : Value} {lv : XL} (h : xoL n lv = true) (hv : xlk lv i = some v) : xov n v = true := List.all_eq_true.mp h _ (xlk_mem hv)
theorem xoL_ins {n i : Nat} {v : Value} {lv : XL} (h : xoL n lv = true) (hv : xov n v = true) : xoL n (xins i v lv) = true :=
  List.all_eq_true.mpr fun q hq => (List.mem_cons.mp (xins_mem hq)).elim (fun e => by rw [e]; exact hv) (fun e => List.all_eq_true.mp h q e)
theorem xoL_filter {n : Nat} {lv : XL} (f : Nat × Value → Bool) (h : xoL n lv = true) : xoL n (lv.filter f) = true :=
  List.all_eq_true.mpr fun q hq => List.all_eq_true.mp h q (List.mem_filter.mp hq).1
theorem xoH_at {n o : Nat} {c : XCl} {h : XH} (hh : xoH n h = true) (hk : xhk h o = some c) : o + 1 ≤ n ∧ xoS n c.2.2 = true := by
  obtain ⟨i, hi⟩ := xhk_idx hk
  have h1 := List.all_eq_true.mp hh _ (List.mem_of_getElem? hi)
  rw [Bool.and_eq_true] at h1
  exact ⟨Nat.le_of_ble_eq_true h1.1, h1.2⟩
theorem xoH_put {n o : Nat} {d : XCl} : ∀ {h : XH}, xoH n h = true → xoS n d.2.2 = true → xoH n (xhs h o d) = true
  | [], _, _ => rfl
  | (j, c) :: t, hh, hd => by
    have h1 : (Nat.ble (j + 1) n && xoS n c.2.2) = true ∧ xoH n t = true := by
      unfold xoH at hh ⊢
      rw [List.all_cons, Bool.and_eq_true] at hh
      exact hh
    unfold xhs
    cases hb : Nat.beq j o with
    | true =>
      show xoH n ((j, d) :: t) = true
      unfold xoH
      rw [List.all_cons, Bool.and_eq_true]
      rw [Bool.and_eq_true] at h1
      exact ⟨by rw [Bool.and_eq_true]; exact ⟨h1.1.1, hd⟩, h1.2⟩
    | false =>
      show xoH n ((j, c) :: xhs t o d) = true
      have := xoH_put h1.2 hd (o := o)
      unfold xoH at this ⊢
      rw [List.all_cons, Bool.and_eq_true]
      exact ⟨h1.1, this⟩
theorem xoS_set {n : Nat} {vs : List Value} {j : Nat} {v : Value} (h : xoS n vs = true) (hv : xov n v = true) : xoS n (vs.set j v) = true :=
  List.all_eq_true.mpr fun w hw => (List.mem_or_eq_of_mem_set hw).elim (fun z => List.all_eq_true.mp h w z) (fun z => by rw [z]; exact hv)
theorem xoS_take {n k : Nat} {st : List Value} (h : xoS n st = true) : xoS n (st.take k) = true := List.all_eq_true.mpr fun v hv => List.all_eq_true.mp h v (List.mem_of_mem_take hv)
theorem xoS_drop {n k : Nat} {st : List Value} (h : xoS n st = true) : xoS n (st.drop k) = true := List.all_eq_true.mpr fun v hv => List.all_eq_true.mp h v (List.mem_of_mem_drop hv)
theorem xoS_rev {n : Nat} {st : List Value} (h : xoS n st = true) : xoS n st.reverse = true := List.all_eq_true.mpr fun v hv => List.all_eq_true.mp h v (List.mem_reverse.mp hv)
theorem xal_mk {n : Nat} {lv : XL} {st : List Value} {h : XH} (h1 : xoL n lv = true) (h2 : xoS n st = true) (h3 : xoH n h = true) : xal n lv st h = true := by
  unfold xal
  rw [h1, h2, h3]; rfl
/-! one method's own numbers -/
theorem xst1_kept {n nL i : Nat} {v : Value} {lv l : XL} (h : xst1 nL i v lv = some l) (hL : xoL n lv = true) (hv : xov n v = true) : xoL n l = true := by
  unfold xst1 at h
  cases hb : Nat.ble (i + 1) nL with
  | true => rw [hb] at h; obtain rfl := Option.some.inj h; exact xoL_ins (xoL_filter _ hL) hv
  | false => rw [hb] at h; cases h
theorem xst2_kept {n nL i : Nat} {v : Value} {lv l : XL} (h : xst2 nL i v lv = some l) (hL : xoL n lv = true) (hv : xov n v = true) : xoL n l = true := by
  unfold xst2 at h
  cases hb : Nat.ble (i + 2) nL with
  | true => rw [hb] at h; obtain rfl := Option.some.inj h; exact xoL_ins (xoL_filter _ hL) hv
  | false => rw [hb] at h; cases h
theorem xld_kept {n i : Nat} {ok : Value → Bool} {lv : XL} {st : List Value} {q : XL × List Value} (h : xld ok lv st i = some q) (hL : xoL n lv = true) (hS : xoS n st = true) : xoL n q.1 = true ∧ xoS n q.2 = true := by
  obtain ⟨v, h1, -, rfl⟩ := xld_spec h
  exact ⟨hL, xoS_cons.mpr ⟨xoL_lk hL h1, hS⟩⟩
theorem xstr1_kept {n nL i : Nat} {ok : Value → Bool} {lv : XL} {st : List Value} {q : XL × List Value} (h : xstr1 ok nL i lv st = some q) (hL : xoL n lv = true) (hS : xoS n st = true) : xoL n q.1 = true ∧ xoS n q.2 = true := by
  obtain ⟨v, r, l, rfl, -, h1, rfl⟩ := xstr1_spec h
  exact ⟨xst1_kept h1 hL (xoS_cons.mp hS).1, (xoS_cons.mp hS).2⟩
theorem xstr2_kept {n nL i : Nat} {ok : Value → Bool} {lv : XL} {st : List Value} {q : XL × List Value} (h : xstr2 ok nL i lv st = some q) (hL : xoL n lv = true) (hS : xoS n st = true) : xoL n q.1 = true ∧ xoS n q.2 = true := by
  obtain ⟨v, r, l, rfl, -, h1, rfl⟩ := xstr2_spec h
  exact ⟨xst2_kept h1 hL (xoS_cons.mp hS).1, (xoS_cons.mp hS).2⟩
theorem xbin_kept {n : Nat} {f : Int32 → Int32 → Int32} {lv : XL} {st : List Value} {q : XL × List Value} (h : xbin f lv st = some q) (hL : xoL n lv = true) (hS : xoS n st = true) : xoL n q.1 = true ∧ xoS n q.2 = true := by
  obtain ⟨x, y, r, rfl, rfl⟩ := xbin_spec h
  exact ⟨hL, xoS_cons.mpr ⟨rfl, (xoS_cons.mp (xoS_cons.mp hS).2).2⟩⟩
theorem xbil_kept {n : Nat} {f : Int64 → Int64 → Int64} {lv : XL} {st : List Value} {q : XL × List Value} (h : xbil f lv st = some q) (hL : xoL n lv = true) (hS : xoS n st = true) : xoL n q.1 = true ∧ xoS n q.2 = true := by
  obtain ⟨x, y, r, rfl, rfl⟩ := xbil_spec h
  exact ⟨hL, xoS_cons.mpr ⟨rfl, (xoS_cons.mp (xoS_cons.mp hS).2).2⟩⟩
theorem xbinz_kept {n : Nat} {f : Int32 → Int32 → Int32} {lv : XL} {st : List Value} {q : XL × List Value} (h : xbinz f lv st = some q) (hL : xoL n lv = true) (hS : xoS n st = true) : xoL n q.1 = true ∧ xoS n q.2 = true := by
  unfold xbinz at h
  split at h
  · rename_i y x r
    cases hz : decide (y = 0) with
    | true => rw [hz] at h; cases h
    | false =>
      rw [hz] at h
      obtain rfl := Option.some.inj h
      exact ⟨hL, xoS_cons.mpr ⟨rfl, (xoS_cons.mp (xoS_cons.mp hS).2).2⟩⟩
  · cases h
set_option maxHeartbeats 1000000 in
theorem xsimple_kept {n nL : Nat} {i : Instr} {aux : List Nat} {lv : XL} {st : List Value} {q : XL × List Value} (h : xsimple nL i aux lv st = some q) (hL : xoL n lv = true) (hS : xoS n st = true) : xoL n q.1 = true ∧ xoS n q.2 = true := by
  have push : ∀ v : Value, xov n v = true → (some (lv, v :: st) = some q) → xoL n q.1 = true ∧ xoS n q.2 = true := fun v hv h9 => by
    obtain rfl := Option.some.inj h9
    exact ⟨hL, xoS_cons.mpr ⟨hv, hS⟩⟩
  unfold xsimple at h
  split at h
  · exact push _ rfl h
  · exact push _ rfl h
  · exact push _ rfl h
  · exact push _ rfl h
  · rcases xbif9 h with h | h
    · exact push _ rfl h
    · cases h
  · split at h
    · exact push _ rfl h
    · cases h
  · split at h
    · exact push _ rfl h
    · cases h
  · exact xld_kept h hL hS
  · exact xld_kept h hL hS
  · exact xld_kept h hL hS
  · exact xld_kept h hL hS
  · exact xld_kept h hL hS
  · exact xld_kept h hL hS
  · exact xld_kept h hL hS
  · exact xstr1_kept h hL hS
  · exact xstr1_kept h hL hS
  · exact xstr1_kept h hL hS
  · exact xstr1_kept h hL hS
  · exact xstr2_kept h hL hS
  · exact xstr2_kept h hL hS
  · exact xstr2_kept h hL hS
  · unfold xinc at h
    split at h
    · split at h
      · rename_i l1 h1
        obtain rfl := Option.some.inj h
        exact ⟨xst1_kept h1 hL rfl, hS⟩
      · cases h
    · cases h
  · exact xbin_kept h hL hS
  · exact xbin_kept h hL hS
  · exact xbin_kept h hL hS
  · exact xbin_kept h hL hS
  · exact xbin_kept h hL hS
  · unfold xand at h
    split at h
    · obtain rfl := Option.some.inj h
      exact ⟨hL, xoS_cons.mpr ⟨rfl, (xoS_cons.mp (xoS_cons.mp hS).2).2⟩⟩
    · cases h
  · unfold xi2l at h
    split at h
    · obtain rfl := Option.some.inj h
      exact ⟨hL, xoS_cons.mpr ⟨rfl, (xoS_cons.mp hS).2⟩⟩
    · cases h
  · exact xbil_kept h hL hS
  · exact xbil_kept h hL hS
  · unfold xlcm at h
    split at h
    · obtain rfl := Option.some.inj h
      exact ⟨hL, xoS_cons.mpr ⟨rfl, (xoS_cons.mp (xoS_cons.mp hS).2).2⟩⟩
    · cases h
  · unfold xdcm at h
    split at h
    · obtain rfl := Option.some.inj h
      exact ⟨hL, xoS_cons.mpr ⟨rfl, (xoS_cons.mp (xoS_cons.mp hS).2).2⟩⟩
    · cases h
  · unfold xdup at h
    split at h
    · rcases xbif9 h with h | h
      · obtain rfl := Option.some.inj h
        exact ⟨hL, xoS_cons.mpr ⟨(xoS_cons.mp hS).1, hS⟩⟩
      · cases h
    · cases h
  · unfold xdupx at h
    split at h
    · rcases xbif9 h with h | h
      · obtain rfl := Option.some.inj h
        exact ⟨hL, xoS_cons.mpr ⟨(xoS_cons.mp hS).1, xoS_cons.mpr ⟨(xoS_cons.mp (xoS_cons.mp hS).2).1, xoS_cons.mpr ⟨(xoS_cons.mp hS).1, (xoS_cons.mp (xoS_cons.mp hS).2).2⟩⟩⟩⟩
      · cases h
    · cases h
  · exact xbin_kept h hL hS
  · exact xbin_kept h hL hS
  · exact xbinz_kept h hL hS
  · exact xbinz_kept h hL hS
  · unfold xdup2 at h
    split at h
    · rcases xbif9 h with h | h
      · obtain rfl := Option.some.inj h
        exact ⟨hL, xoS_cons.mpr ⟨(xoS_cons.mp hS).1, xoS_cons.mpr ⟨(xoS_cons.mp (xoS_cons.mp hS).2).1, hS⟩⟩⟩
      · cases h
    · cases h
  · unfold xdupx2 at h
    split at h
    · rcases xbif9 h with h | h
      · obtain rfl := Option.some.inj h
        obtain ⟨a1, a2⟩ := xoS_cons.mp hS
        obtain ⟨a3, a4⟩ := xoS_cons.mp a2
        obtain ⟨a5, a6⟩ := xoS_cons.mp a4
        exact ⟨hL, xoS_cons.mpr ⟨a1, xoS_cons.mpr ⟨a3, xoS_cons.mpr ⟨a5, xoS_cons.mpr ⟨a1, a6⟩⟩⟩⟩⟩
      · cases h
    · cases h
  · unfold xpop at h
    split at h
    · rcases xbif9 h with h | h
      · obtain rfl := Option.some.inj h
        exact ⟨hL, (xoS_cons.mp hS).2⟩
      · cases h
    · cases h
  · cases h
/-! cells -/
theorem xrefw_kept {w : Nat} : ∀ (N n m : Nat), (∀ j, j < N → n + j * w + 1 ≤ m) → xoS m (xrefw n w N) = true
  | 0, _, _, _ => rfl
  | N + 1, n, m, h => by
    refine xoS_cons.mpr ⟨Nat.ble_eq_true_of_le (by have := h 0 (by omega); omega), xrefw_kept N (n + w) m (fun j hj => ?_)⟩
    have := h (j + 1) (by omega)
    rw [Nat.succ_mul] at this
    omega
theorem xoH_app {n : Nat} {a b : XH} (h1 : xoH n a = true) (h2 : xoH n b = true) : xoH n (a ++ b) = true := by
  unfold xoH at h1 h2 ⊢
  rw [List.all_append, h1, h2]; rfl
theorem xoH_one {n o : Nat} {c : XCl} {t : XH} (h1 : o + 1 ≤ n) (h2 : xoS n c.2.2 = true) (h3 : xoH n t = true) : xoH n ((o, c) :: t) = true := by
  unfold xoH at h3 ⊢
  rw [List.all_cons, h3, Bool.and_true, Bool.and_eq_true]
  exact ⟨Nat.ble_eq_true_of_le h1, h2⟩
theorem xrows_kept {c : XCl} : ∀ (N n m : Nat), n + N ≤ m → xoS m c.2.2 = true → xoH m (xrows n c N) = true
  | 0, _, _, _, _ => rfl
  | N + 1, n, m, h, hc => xoH_one (by omega) hc (xrows_kept N (n + 1) m (by omega) hc)
theorem xgrid_kept {M : Nat} : ∀ (N n m : Nat), n + N * (1 + M) ≤ m → xoH m (xgrid n M N) = true
  | 0, _, _, _ => rfl
  | N + 1, n, m, h => by
    rw [Nat.succ_mul] at h
    refine xoH_app (xoH_one (by omega) (xrefw_kept M (n + 1) m (fun j hj => by omega)) (xrows_kept M (n + 1) m (by omega) rfl)) (xgrid_kept N (n + (1 + M)) m (by omega))
theorem xrep_kept {n k : Nat} {ti : Nat} : xoS n (List.replicate k (xdv ti)) = true := List.all_eq_true.mpr fun v hv => by
  rw [List.eq_of_mem_replicate hv]
  unfold xdv
  split <;> rfl
theorem xD_kept {n ci : Nat} : xoS n (xD ci) = true := List.all_eq_true.mpr fun v hv => by
  unfold xD at hv
  obtain ⟨k, -, rfl⟩ := List.mem_map.mp hv
  cases xTy ci k <;> rfl
theorem xnew_kept {R : Room} {lv : XL} {r : List Value} {σ : XS} {cl : XCl} {ns : Nat} {q : List Value × XS} (h : xnew R lv r σ cl ns = some q) (hL : xoL σ.2.2.1 lv = true) (hS : xoS σ.2.2.1 r = true) (hH : xoH σ.2.2.1 σ.2.1 = true) (hc : ∀ m, xoS m cl.2.2 = true) :
    σ.2.2.1 ≤ q.2.2.2.1 ∧ xal q.2.2.2.1 lv q.1 q.2.2.1 = true := by
  obtain ⟨pe, hh, n, ce, sl⟩ := σ
  unfold xnew at h
  dsimp only at h hL hS hH ⊢
  rcases xbif9 h with h | h
  · obtain rfl := Option.some.inj h
    refine ⟨Nat.le_succ n, xal_mk (xoL_mono (Nat.le_succ n) hL) (xoS_cons.mpr ⟨Nat.ble_eq_true_of_le (Nat.le_refl _), xoS_mono (Nat.le_succ n) hS⟩) (xoH_app (xoH_mono (Nat.le_succ n) hH) (xoH_one (Nat.le_refl _) (hc _) rfl))⟩
  · cases h
theorem xald_kept {ok : Value → Bool} {oti : Nat → Bool} {lv : XL} {st : List Value} {σ : XS} {q : List Value × XS} (h : xald ok oti st σ = some q) (hL : xoL σ.2.2.1 lv = true) (hS : xoS σ.2.2.1 st = true) (hH : xoH σ.2.2.1 σ.2.1 = true) : σ.2.2.1 ≤ q.2.2.2.1 ∧ xal q.2.2.2.1 lv q.1 q.2.2.1 = true := by
  obtain ⟨i, o, r, ti, vs, j, v, rfl, hk, -, -, hv, -, rfl⟩ := xald_spec h
  exact ⟨Nat.le_refl _, xal_mk hL (xoS_cons.mpr ⟨xoS_mem (xoH_at hH hk).2 (List.mem_of_getElem? hv), (xoS_cons.mp (xoS_cons.mp hS).2).2⟩) hH⟩
theorem xast_kept {ok : Value → Bool} {oti : Nat → Bool} {lv : XL} {st : List Value} {σ : XS} {q : List Value × XS} (h : xast ok oti st σ = some q) (hL : xoL σ.2.2.1 lv = true) (hS : xoS σ.2.2.1 st = true) (hH : xoH σ.2.2.1 σ.2.1 = true) : σ.2.2.1 ≤ q.2.2.2.1 ∧ xal q.2.2.2.1 lv q.1 q.2.2.1 = true := by
  obtain ⟨v, i, o, r, ti, vs, j, rfl, hk, -, -, -, rfl⟩ := xast_spec h
  obtain ⟨a1, a2⟩ := xoS_cons.mp hS
  exact ⟨Nat.le_refl _, xal_mk hL (xoS_cons.mp (xoS_cons.mp a2).2).2 (xoH_put hH (xoS_set (xoH_at hH hk).2 a1))⟩
theorem xnewm2_kept {R : Room} {aux : List Nat} {lv : XL} {st : List Value} {σ : XS} {q : List Value × XS} (h : xnewm2 R aux st σ = some q) (hL : xoL σ.2.2.1 lv = true) (hS : xoS σ.2.2.1 st = true) (hH : xoH σ.2.2.1 σ.2.1 = true) : σ.2.2.1 ≤ q.2.2.2.1 ∧ xal q.2.2.2.1 lv q.1 q.2.2.1 = true := by
  obtain ⟨pe, hh, n, ce, sl⟩ := σ
  dsimp only at hL hS hH
  unfold xnewm2 at h
  split at h
  · rename_i to ti tl k m9 r pe' hh' n' ce' sl' heq
    cases heq
    rcases xbif9 h with h | h
    · cases h
    · rcases xbif9 h with h | h
      · obtain rfl := Option.some.inj h
        dsimp only
        have hle : n ≤ n + 1 + m9.toNatClampNeg := by omega
        exact ⟨hle, xal_mk (xoL_mono hle hL) (xoS_cons.mpr ⟨Nat.ble_eq_true_of_le (by omega), xoS_mono hle (xoS_cons.mp (xoS_cons.mp hS).2).2⟩) (xoH_app (xoH_mono hle hH) (xoH_one (by omega) (xrefw_kept _ _ _ (fun j hj => by omega)) (xrows_kept _ _ _ (by omega) xrep_kept)))⟩
      · cases h
  · cases h
theorem xnewm3_kept {R : Room} {lv : XL} {st : List Value} {σ : XS} {q : List Value × XS} (h : xnewm3 R st σ = some q) (hL : xoL σ.2.2.1 lv = true) (hS : xoS σ.2.2.1 st = true) (hH : xoH σ.2.2.1 σ.2.1 = true) : σ.2.2.1 ≤ q.2.2.2.1 ∧ xal q.2.2.2.1 lv q.1 q.2.2.1 = true := by
  obtain ⟨pe, hh, n, ce, sl⟩ := σ
  dsimp only at hL hS hH
  unfold xnewm3 at h
  split at h
  · rename_i z k m9 r pe' hh' n' ce' sl' heq
    cases heq
    rcases xbif9 h with h | h
    · obtain rfl := Option.some.inj h
      dsimp only
      have hle : n ≤ n + 1 + m9.toNatClampNeg * (1 + k.toNatClampNeg) := by omega
      refine ⟨hle, xal_mk (xoL_mono hle hL) (xoS_cons.mpr ⟨Nat.ble_eq_true_of_le (by omega), xoS_mono hle (xoS_cons.mp (xoS_cons.mp (xoS_cons.mp hS).2).2).2⟩) (xoH_app (xoH_mono hle hH) (xoH_one (by omega) (xrefw_kept _ _ _ (fun j hj => ?_)) (xgrid_kept _ _ _ (by omega))))⟩
      have := Nat.mul_le_mul_right (1 + k.toNatClampNeg) (show j + 1 ≤ m9.toNatClampNeg from hj)
      rw [Nat.succ_mul] at this
      omega
    · cases h
  · cases h
set_option maxHeartbeats 1000000 in
theorem xheap_kept {scr : Option (Nat × (Nat → Int32))} {R : Room} {i : Instr} {aux : List Nat} {lv : XL} {st : List Value} {σ : XS} {q : List Value × XS} (h : xheap scr R i aux lv st σ = some q) (hw : xal σ.2.2.1 lv st σ.2.1 = true) : σ.2.2.1 ≤ q.2.2.2.1 ∧ xal q.2.2.2.1 lv q.1 q.2.2.1 = true := by
  obtain ⟨hL, hS, hH⟩ := xal_spec hw
  unfold xheap at h
  split at h
  · unfold xget at h
    split at h
    · split at h
      · rename_i cj fs hk
        rcases xbif9 h with h | h
        · split at h
          · rename_i v hv
            rw [xnth_eq] at hv
            obtain rfl := Option.some.inj h
            exact ⟨Nat.le_refl _, xal_mk hL (xoS_cons.mpr ⟨xoS_mem (xoH_at hH hk).2 (List.mem_of_getElem? hv), (xoS_cons.mp hS).2⟩) hH⟩
          · cases h
        · cases h
      · cases h
    · cases h
  · unfold xput at h
    split at h
    · split at h
      · rename_i cj fs hk
        rcases xbif9 h with h | h
        · obtain rfl := Option.some.inj h
          obtain ⟨a1, a2⟩ := xoS_cons.mp hS
          refine ⟨Nat.le_refl _, xal_mk hL (xoS_cons.mp a2).2 (xoH_put hH ?_)⟩
          show xoS _ (xset fs _ _) = true
          rw [xset_eq]
          exact xoS_set (xoH_at hH hk).2 a1
        · cases h
      · cases h
    · cases h
  · unfold xnewo at h
    split at h
    · exact xnew_kept h hL hS hH (fun _ => xD_kept)
    · cases h
  · unfold xnewa at h
    split at h
    · rcases xbif9 h with h | h
      · cases h
      · rcases xbif9 h with h | h
        · exact xnew_kept h hL (xoS_cons.mp hS).2 hH (fun _ => xrep_kept)
        · cases h
    · cases h
  · unfold xnewa at h
    split at h
    · rcases xbif9 h with h | h
      · cases h
      · rcases xbif9 h with h | h
        · exact xnew_kept h hL (xoS_cons.mp hS).2 hH (fun _ => xrep_kept)
        · cases h
    · cases h
  · rcases xbif9 h with h | h
    · exact xnewm2_kept h hL hS hH
    · rcases xbif9 h with h | h
      · exact xnewm3_kept h hL hS hH
      · cases h
  · unfold xlen at h
    split at h
    · split at h
      · rcases xbif9 h with h | h
        · obtain rfl := Option.some.inj h
          exact ⟨Nat.le_refl _, xal_mk hL (xoS_cons.mpr ⟨rfl, (xoS_cons.mp hS).2⟩) hH⟩
        · cases h
      · cases h
    · split at h
      · obtain rfl := Option.some.inj h
        exact ⟨Nat.le_refl _, xal_mk hL (xoS_cons.mpr ⟨rfl, (xoS_cons.mp hS).2⟩) hH⟩
      · cases h
    · cases h
  · unfold xild at h
    split at h
    · split at h
      · split at h
        · obtain rfl := Option.some.inj h
          exact ⟨Nat.le_refl _, xal_mk hL (xoS_cons.mpr ⟨rfl, (xoS_cons.mp (xoS_cons.mp hS).2).2⟩) hH⟩
        · cases h
      · cases h
    · exact xald_kept h hL hS hH
  · exact xald_kept h hL hS hH
  · exact xald_kept h hL hS hH
  · exact xast_kept h hL hS hH
  · exact xast_kept h hL hS hH
  · unfold xasa at h
    split at h
    · exact xast_kept h hL hS hH
    · split at h
      · rcases xbif9 h with h | h
        · exact xast_kept h hL hS hH
        · cases h
      · cases h
    · cases h
  · cases h
theorem xjump_kept {pc : Nat} {off : Int} {r : List Value} {o : Option (List (Bool × XP))} {z : List (Nat × List Value × XP)} (h : xjump pc off r o = some z) : ∀ q ∈ z, q.2.1 = r := by
  unfold xjump at h
  split at h
  · obtain rfl := Option.some.inj h
    intro q hq
    unfold xtwo at hq
    obtain ⟨a, -, rfl⟩ := List.mem_map.mp hq
    rfl
  · cases h
theorem xsw_kept {pc : Nat} {dflt low high : Int} {offs : Array Int} {r : List Value} {pv : Int → XP} : ∀ (n : Nat) (lo : Int) (z : List (Nat × List Value × XP)), xsw pc dflt low high offs r pv lo n = some z → ∀ q ∈ z, q.2.1 = r
  | 0, lo, z, h, q, hq => by
    obtain rfl := Option.some.inj h
    cases hq
  | n + 1, lo, z, h, q, hq => by
    unfold xsw at h
    split at h
    · rename_i t l0 e1 e2
      obtain rfl := Option.some.inj h
      rcases List.mem_cons.mp hq with rfl | hq
      · rfl
      · exact xsw_kept n (lo + 1) l0 e2 q hq
    · cases h
theorem xbranch_kept {hh : XH} {pc : Nat} {i : Instr} {st : List Value} {pe : XP} {z : List (Nat × List Value × XP)} {n : Nat} (h : xbranch hh pc i st pe = some z) (hS : xoS n st = true) : ∀ q ∈ z, xoS n q.2.1 = true := by
  intro q hq
  unfold xbranch at h
  split at h
  · split at h
    · obtain rfl := Option.some.inj h
      rcases List.mem_cons.mp hq with rfl | hq
      · exact hS
      · cases hq
    · cases h
  · split at h
    · rw [xjump_kept h q hq]; exact (xoS_cons.mp (xoS_cons.mp hS).2).2
    · cases h
  · split at h
    · rw [xjump_kept h q hq]; exact (xoS_cons.mp hS).2
    · cases h
  · split at h
    · rw [xjump_kept h q hq]; exact (xoS_cons.mp hS).2
    · cases h
  · split at h
    · rw [xjump_kept h q hq]; exact (xoS_cons.mp hS).2
    · cases h
  · split at h
    · rw [xjump_kept h q hq]; exact (xoS_cons.mp (xoS_cons.mp hS).2).2
    · cases h
  · split at h
    · rw [xsw_kept _ _ _ h q hq]; exact (xoS_cons.mp hS).2
    · split at h
      · rw [xsw_kept _ _ _ h q hq]; exact (xoS_cons.mp hS).2
      · cases h
    · cases h
  · cases h
end XW0
