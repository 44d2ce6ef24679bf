section XU
theorem xve_split {P : XI → Prop} {l : List XI} (n : Nat) (h1 : ∀ e ∈ l.take n, P e) (h2 : ∀ e ∈ l.drop n, P e) : ∀ e ∈ l, P e := by
  intro e he
  rw [← List.take_append_drop n l] at he
  exact (List.mem_append.mp he).elim (h1 e) (h2 e)
theorem xve_all {l : List XI} (h : l.all (xveB xMs xLaw) = true) : ∀ e ∈ l, xVE xMs xLaw e := fun e he => xveB_ok (List.all_eq_true.mp h e he)
def xbl : List UInt8 → List UInt8 → Bool
  | [], [] => true
  | a :: s, b :: t => Nat.beq a.toNat b.toNat && xbl s t
  | _, _ => false
theorem xbl_eq : ∀ {s t : List UInt8}, xbl s t = true → s = t
  | [], [], _ => rfl
  | [], _ :: _, h => nomatch h
  | _ :: _, [], h => nomatch h
  | a :: s, b :: t, h => by
    unfold xbl at h
    rw [Bool.and_eq_true] at h
    rw [UInt8.toNat_inj.mp (Nat.eq_of_beq_eq_true h.1), xbl_eq h.2]
theorem xba_eq {a b : ByteArray} (h : a.data.toList = b.data.toList) : a = b := by
  cases a
  cases b
  exact congrArg ByteArray.mk (Array.toList_inj.mp h)
def xckB (pl : Nat) (M : XM) : Bool :=
  match xnth lw_tbl pl with
  | some (.code y b n r) => decide (y = xmY M) && (xbl b.data.toList (xmB M).data.toList && (Nat.beq n (xmN M) && decide (r = xmV M)))
  | _ => false
theorem xckB_ok {pl : Nat} {M : XM} (h : xckB pl M = true) : xnth lw_tbl pl = some (Jvm.Cond.code (xmY M) (xmB M) (xmN M) (xmV M)) := by
  unfold xckB at h
  split at h
  · rename_i y b n r hk
    simp only [Bool.and_eq_true, decide_eq_true_eq] at h
    obtain ⟨rfl, h2, h3, rfl⟩ := h
    rw [hk, xba_eq (xbl_eq h2), Nat.eq_of_beq_eq_true h3]
  · cases h
set_option maxRecDepth 100000 in
theorem xlw17_c : Jvm.Cond.code (xmY xm36) (xmB xm36) (xmN xm36) (xmV xm36) ∈ xTs := xTs_in (i := 1533) (by rw [← xnth_eq]; exact xckB_ok (by decide +kernel)) rfl
theorem xlw17_r : xVE xMs xLaw (2306, .invokevirtual 264, 3, [1, 36, 8, 65, 1533, 1530, 1531, 1532]) := by
  intro mode k ci t e1
  have e1 : [1, 36, 8, 65, 1533, 1530, 1531, 1532] = mode :: k :: ci :: t := e1
  cases e1
  refine ⟨264, by decide +kernel, fun Y hY => ?_⟩
  have h36 : xnth xMs 36 = some xm36 := rfl
  obtain rfl : xm36 = Y := Option.some.inj (h36.symm.trans hY)
  refine ⟨⟨by decide +kernel, by decide +kernel⟩, okw_in (pl := 65) (by decide +kernel), xlw17_c, ?_⟩
  exact ⟨rfl, ⟨0, rfl, by decide +kernel⟩, okw_in (pl := 1530) (by decide +kernel), okw_in (pl := 1531) (by decide +kernel), okw_in (pl := 1532) (by decide +kernel), xT8, 27, rfl⟩
set_option maxRecDepth 100000 in
theorem xlw17_s0 : ((xlw17).take 12).all (xveB xMs xLaw) = true := by decide +kernel
set_option maxRecDepth 100000 in
theorem xlw17_s1 : (((xlw17).drop 12).take 12).all (xveB xMs xLaw) = true := by decide +kernel
set_option maxRecDepth 100000 in
theorem xlw17_s2 : ((((xlw17).drop 12).drop 12).take 12).all (xveB xMs xLaw) = true := by decide +kernel
set_option maxRecDepth 100000 in
theorem xlw17_s3 : (((((xlw17).drop 12).drop 12).drop 12).take 8).all (xveB xMs xLaw) = true := by decide +kernel
set_option maxRecDepth 100000 in
theorem xlw17_s5 : (((((((xlw17).drop 12).drop 12).drop 12).drop 8).drop 1).take 3).all (xveB xMs xLaw) = true := by decide +kernel
set_option maxRecDepth 100000 in
theorem xlw17_s6 : (((((((xlw17).drop 12).drop 12).drop 12).drop 8).drop 1).drop 3).all (xveB xMs xLaw) = true := by decide +kernel
theorem xlw17_ve : ∀ e ∈ xlw17, xVE xMs xLaw e := xve_split 12 (xve_all xlw17_s0) (xve_split 12 (xve_all xlw17_s1) (xve_split 12 (xve_all xlw17_s2) (xve_split 8 (xve_all xlw17_s3) (xve_split 1 (fun e he => (List.mem_singleton.mp (show e ∈ [((2306, .invokevirtual 264, 3, [1, 36, 8, 65, 1533, 1530, 1531, 1532]) : XI)] from he)) ▸ xlw17_r) (xve_split 3 (xve_all xlw17_s5) (xve_all xlw17_s6))))))
end XU
