section XT9
variable {S : Option (Nat × (Nat → Int32))}
theorem t_isIn (h : XH) (n : Nat) (x p : Int32) : Ret S 61 [.int x, .int p] h n (some (.int (if (x >>> (p &&& 31)) &&& 1 = 0 then 0 else 1))) h n := by
  refine Ret_of (M := xm61) rfl rfl ?_
  refine Eq.mpr (Go_simple rfl rfl) ?_
  refine Eq.mpr (Go_simple rfl rfl) ?_
  refine Eq.mpr (Go_simple rfl rfl) ?_
  refine Eq.mpr (Go_simple rfl rfl) ?_
  refine Eq.mpr (Go_simple rfl rfl) ?_
  refine Go_if rfl rfl (fun hc => ?_) (fun hc => ?_)
  · refine Eq.mpr (Go_simple rfl rfl) ?_
    refine Go_end rfl ?_
    have hc : x >>> (p &&& 31) &&& 1 = 0 := hc
    rw [if_pos hc]
    rfl
  · refine Eq.mpr (Go_simple rfl rfl) ?_
    refine Eq.mpr (Go_branch rfl rfl) ?_
    refine Go_end rfl ?_
    have hc : ¬ x >>> (p &&& 31) &&& 1 = 0 := hc
    rw [if_neg hc]
    rfl
end XT9
