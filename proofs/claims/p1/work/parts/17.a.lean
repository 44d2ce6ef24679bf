section XU
theorem xseg_ok {α : Type} {f : α → Bool} {l : List α} {n m : Nat} (hn : 0 < n) (hl : l.length ≤ n * m) (h : ∀ k, k < m → ((l.drop (n * k)).take n).all f = true) : l.all f = true := by
  rw [List.all_eq_true]
  intro e he
  obtain ⟨i, hi, rfl⟩ := List.mem_iff_getElem.mp he
  have hk : i / n < m := by
    rw [Nat.div_lt_iff_lt_mul hn]
    rw [Nat.mul_comm m n]
    omega
  refine List.all_eq_true.mp (h (i / n) hk) _ ?_
  have h1 := Nat.div_add_mod i n
  have h2 := Nat.mod_lt i hn
  refine List.mem_iff_getElem.mpr ⟨i % n, ?_, ?_⟩
  · rw [List.length_take, List.length_drop]
    omega
  · rw [List.getElem_take, List.getElem_drop]
    congr 1
set_option maxRecDepth 100000 in
theorem xlw0_s0 : ((xlw0.drop (12 * 0)).take 12).all (xveB xMs xLaw) = true := by decide +kernel
set_option maxRecDepth 100000 in
theorem xlw0_s1 : ((xlw0.drop (12 * 1)).take 12).all (xveB xMs xLaw) = true := by decide +kernel
set_option maxRecDepth 100000 in
theorem xlw0_s2 : ((xlw0.drop (12 * 2)).take 12).all (xveB xMs xLaw) = true := by decide +kernel
set_option maxRecDepth 100000 in
theorem xlw0_s3 : ((xlw0.drop (12 * 3)).take 12).all (xveB xMs xLaw) = true := by decide +kernel
set_option maxRecDepth 100000 in
theorem xlw0_s4 : ((xlw0.drop (12 * 4)).take 12).all (xveB xMs xLaw) = true := by decide +kernel
theorem xlw0_ok : xlw0.all (xveB xMs xLaw) = true := xseg_ok (n := 12) (m := 5) (by decide) (by decide +kernel) (fun k hk => match k, hk with
  | 0, _ => xlw0_s0
  | 1, _ => xlw0_s1
  | 2, _ => xlw0_s2
  | 3, _ => xlw0_s3
  | 4, _ => xlw0_s4
  | n + 5, h => absurd h (by omega))
set_option maxRecDepth 100000 in
theorem xlw1_s0 : ((xlw1.drop (12 * 0)).take 12).all (xveB xMs xLaw) = true := by decide +kernel
set_option maxRecDepth 100000 in
theorem xlw1_s1 : ((xlw1.drop (12 * 1)).take 12).all (xveB xMs xLaw) = true := by decide +kernel
set_option maxRecDepth 100000 in
theorem xlw1_s2 : ((xlw1.drop (12 * 2)).take 12).all (xveB xMs xLaw) = true := by decide +kernel
set_option maxRecDepth 100000 in
theorem xlw1_s3 : ((xlw1.drop (12 * 3)).take 12).all (xveB xMs xLaw) = true := by decide +kernel
set_option maxRecDepth 100000 in
theorem xlw1_s4 : ((xlw1.drop (12 * 4)).take 12).all (xveB xMs xLaw) = true := by decide +kernel
theorem xlw1_ok : xlw1.all (xveB xMs xLaw) = true := xseg_ok (n := 12) (m := 5) (by decide) (by decide +kernel) (fun k hk => match k, hk with
  | 0, _ => xlw1_s0
  | 1, _ => xlw1_s1
  | 2, _ => xlw1_s2
  | 3, _ => xlw1_s3
  | 4, _ => xlw1_s4
  | n + 5, h => absurd h (by omega))
set_option maxRecDepth 100000 in
theorem xlw2_s0 : ((xlw2.drop (12 * 0)).take 12).all (xveB xMs xLaw) = true := by decide +kernel
set_option maxRecDepth 100000 in
theorem xlw2_s1 : ((xlw2.drop (12 * 1)).take 12).all (xveB xMs xLaw) = true := by decide +kernel
set_option maxRecDepth 100000 in
theorem xlw2_s2 : ((xlw2.drop (12 * 2)).take 12).all (xveB xMs xLaw) = true := by decide +kernel
set_option maxRecDepth 100000 in
theorem xlw2_s3 : ((xlw2.drop (12 * 3)).take 12).all (xveB xMs xLaw) = true := by decide +kernel
set_option maxRecDepth 100000 in
theorem xlw2_s4 : ((xlw2.drop (12 * 4)).take 12).all (xveB xMs xLaw) = true := by decide +kernel
theorem xlw2_ok : xlw2.all (xveB xMs xLaw) = true := xseg_ok (n := 12) (m := 5) (by decide) (by decide +kernel) (fun k hk => match k, hk with
  | 0, _ => xlw2_s0
  | 1, _ => xlw2_s1
  | 2, _ => xlw2_s2
  | 3, _ => xlw2_s3
  | 4, _ => xlw2_s4
  | n + 5, h => absurd h (by omega))
set_option maxRecDepth 100000 in
theorem xlw3_s0 : ((xlw3.drop (12 * 0)).take 12).all (xveB xMs xLaw) = true := by decide +kernel
set_option maxRecDepth 100000 in
theorem xlw3_s1 : ((xlw3.drop (12 * 1)).take 12).all (xveB xMs xLaw) = true := by decide +kernel
set_option maxRecDepth 100000 in
theorem xlw3_s2 : ((xlw3.drop (12 * 2)).take 12).all (xveB xMs xLaw) = true := by decide +kernel
set_option maxRecDepth 100000 in
theorem xlw3_s3 : ((xlw3.drop (12 * 3)).take 12).all (xveB xMs xLaw) = true := by decide +kernel
set_option maxRecDepth 100000 in
theorem xlw3_s4 : ((xlw3.drop (12 * 4)).take 12).all (xveB xMs xLaw) = true := by decide +kernel
theorem xlw3_ok : xlw3.all (xveB xMs xLaw) = true := xseg_ok (n := 12) (m := 5) (by decide) (by decide +kernel) (fun k hk => match k, hk with
  | 0, _ => xlw3_s0
  | 1, _ => xlw3_s1
  | 2, _ => xlw3_s2
  | 3, _ => xlw3_s3
  | 4, _ => xlw3_s4
  | n + 5, h => absurd h (by omega))
end XU
