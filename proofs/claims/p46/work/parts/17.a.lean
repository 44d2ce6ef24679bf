section XU
theorem xseg_ok {α : Type} {f : α → Bool} {l : List α} {n m : Nat} (hn : 0 < n) (hl : l.length ≤ n * m) (h : ∀ k, k < m → ((l.drop (n * k)).take n).all f = true) : l.all f = true := by
  rw [List.all_eq_true]
  intro e he
  obtain ⟨i, hi, rfl⟩ := List.mem_iff_getElem.mp he
  have hk : i / n < m := by
    rw [Nat.div_lt_iff_lt_mul hn]
    rw [Nat.mul_comm m n]
    omega
  refine List.all_eq_true.mp (h (i / n) hk) _ ?_
  have h1 := Nat.div_add_mod i n
  have h2 := Nat.mod_lt i hn
  refine List.mem_iff_getElem.mpr ⟨i % n, ?_, ?_⟩
  · rw [List.length_take, List.length_drop]
    omega
  · rw [List.getElem_take, List.getElem_drop]
    congr 1
set_option maxRecDepth 100000 in
theorem xm0_s0 : ((xm0c.drop (12 * 0)).take 12).all (xveB xMs xm0) = true := by decide +kernel
set_option maxRecDepth 100000 in
theorem xm0_s1 : ((xm0c.drop (12 * 1)).take 12).all (xveB xMs xm0) = true := by decide +kernel
set_option maxRecDepth 100000 in
theorem xm0_s2 : ((xm0c.drop (12 * 2)).take 12).all (xveB xMs xm0) = true := by decide +kernel
set_option maxRecDepth 100000 in
theorem xm0_s3 : ((xm0c.drop (12 * 3)).take 12).all (xveB xMs xm0) = true := by decide +kernel
set_option maxRecDepth 100000 in
theorem xm0_s4 : ((xm0c.drop (12 * 4)).take 12).all (xveB xMs xm0) = true := by decide +kernel
theorem xm0_a : xm0c.all (xveB xMs xm0) = true := xseg_ok (n := 12) (m := 5) (by decide) (by decide +kernel) (fun k hk => match k, hk with
  | 0, _ => xm0_s0
  | 1, _ => xm0_s1
  | 2, _ => xm0_s2
  | 3, _ => xm0_s3
  | 4, _ => xm0_s4
  | n + 5, h => absurd h (by omega))
set_option maxRecDepth 100000 in
theorem xm1_s0 : ((xm1c.drop (12 * 0)).take 12).all (xveB xMs xm1) = true := by decide +kernel
set_option maxRecDepth 100000 in
theorem xm1_s1 : ((xm1c.drop (12 * 1)).take 12).all (xveB xMs xm1) = true := by decide +kernel
theorem xm1_a : xm1c.all (xveB xMs xm1) = true := xseg_ok (n := 12) (m := 2) (by decide) (by decide +kernel) (fun k hk => match k, hk with
  | 0, _ => xm1_s0
  | 1, _ => xm1_s1
  | n + 2, h => absurd h (by omega))
set_option maxRecDepth 100000 in
theorem xm2_s0 : ((xm2c.drop (12 * 0)).take 12).all (xveB xMs xm2) = true := by decide +kernel
set_option maxRecDepth 100000 in
theorem xm2_s1 : ((xm2c.drop (12 * 1)).take 12).all (xveB xMs xm2) = true := by decide +kernel
set_option maxRecDepth 100000 in
theorem xm2_s2 : ((xm2c.drop (12 * 2)).take 12).all (xveB xMs xm2) = true := by decide +kernel
theorem xm2_a : xm2c.all (xveB xMs xm2) = true := xseg_ok (n := 12) (m := 3) (by decide) (by decide +kernel) (fun k hk => match k, hk with
  | 0, _ => xm2_s0
  | 1, _ => xm2_s1
  | 2, _ => xm2_s2
  | n + 3, h => absurd h (by omega))
set_option maxRecDepth 100000 in
theorem xm3_s0 : ((xm3c.drop (12 * 0)).take 12).all (xveB xMs xm3) = true := by decide +kernel
set_option maxRecDepth 100000 in
theorem xm3_s1 : ((xm3c.drop (12 * 1)).take 12).all (xveB xMs xm3) = true := by decide +kernel
set_option maxRecDepth 100000 in
theorem xm3_s2 : ((xm3c.drop (12 * 2)).take 12).all (xveB xMs xm3) = true := by decide +kernel
set_option maxRecDepth 100000 in
theorem xm3_s3 : ((xm3c.drop (12 * 3)).take 12).all (xveB xMs xm3) = true := by decide +kernel
set_option maxRecDepth 100000 in
theorem xm3_s4 : ((xm3c.drop (12 * 4)).take 12).all (xveB xMs xm3) = true := by decide +kernel
theorem xm3_a : xm3c.all (xveB xMs xm3) = true := xseg_ok (n := 12) (m := 5) (by decide) (by decide +kernel) (fun k hk => match k, hk with
  | 0, _ => xm3_s0
  | 1, _ => xm3_s1
  | 2, _ => xm3_s2
  | 3, _ => xm3_s3
  | 4, _ => xm3_s4
  | n + 5, h => absurd h (by omega))
set_option maxRecDepth 100000 in
theorem xm4_s0 : ((xm4c.drop (12 * 0)).take 12).all (xveB xMs xm4) = true := by decide +kernel
set_option maxRecDepth 100000 in
theorem xm4_s1 : ((xm4c.drop (12 * 1)).take 12).all (xveB xMs xm4) = true := by decide +kernel
set_option maxRecDepth 100000 in
theorem xm4_s2 : ((xm4c.drop (12 * 2)).take 12).all (xveB xMs xm4) = true := by decide +kernel
set_option maxRecDepth 100000 in
theorem xm4_s3 : ((xm4c.drop (12 * 3)).take 12).all (xveB xMs xm4) = true := by decide +kernel
theorem xm4_a : xm4c.all (xveB xMs xm4) = true := xseg_ok (n := 12) (m := 4) (by decide) (by decide +kernel) (fun k hk => match k, hk with
  | 0, _ => xm4_s0
  | 1, _ => xm4_s1
  | 2, _ => xm4_s2
  | 3, _ => xm4_s3
  | n + 4, h => absurd h (by omega))
set_option maxRecDepth 100000 in
theorem xm5_s0 : ((xm5c.drop (12 * 0)).take 12).all (xveB xMs xm5) = true := by decide +kernel
set_option maxRecDepth 100000 in
theorem xm5_s1 : ((xm5c.drop (12 * 1)).take 12).all (xveB xMs xm5) = true := by decide +kernel
theorem xm5_a : xm5c.all (xveB xMs xm5) = true := xseg_ok (n := 12) (m := 2) (by decide) (by decide +kernel) (fun k hk => match k, hk with
  | 0, _ => xm5_s0
  | 1, _ => xm5_s1
  | n + 2, h => absurd h (by omega))
set_option maxRecDepth 100000 in
theorem xm6_s0 : ((xm6c.drop (12 * 0)).take 12).all (xveB xMs xm6) = true := by decide +kernel
theorem xm6_a : xm6c.all (xveB xMs xm6) = true := xseg_ok (n := 12) (m := 1) (by decide) (by decide +kernel) (fun k hk => match k, hk with
  | 0, _ => xm6_s0
  | n + 1, h => absurd h (by omega))
set_option maxRecDepth 100000 in
theorem xm7_s0 : ((xm7c.drop (12 * 0)).take 12).all (xveB xMs xm7) = true := by decide +kernel
theorem xm7_a : xm7c.all (xveB xMs xm7) = true := xseg_ok (n := 12) (m := 1) (by decide) (by decide +kernel) (fun k hk => match k, hk with
  | 0, _ => xm7_s0
  | n + 1, h => absurd h (by omega))
set_option maxRecDepth 100000 in
theorem xm8_s0 : ((xm8c.drop (12 * 0)).take 12).all (xveB xMs xm8) = true := by decide +kernel
theorem xm8_a : xm8c.all (xveB xMs xm8) = true := xseg_ok (n := 12) (m := 1) (by decide) (by decide +kernel) (fun k hk => match k, hk with
  | 0, _ => xm8_s0
  | n + 1, h => absurd h (by omega))
set_option maxRecDepth 100000 in
theorem xm9_s0 : ((xm9c.drop (12 * 0)).take 12).all (xveB xMs xm9) = true := by decide +kernel
set_option maxRecDepth 100000 in
theorem xm9_s1 : ((xm9c.drop (12 * 1)).take 12).all (xveB xMs xm9) = true := by decide +kernel
set_option maxRecDepth 100000 in
theorem xm9_s2 : ((xm9c.drop (12 * 2)).take 12).all (xveB xMs xm9) = true := by decide +kernel
set_option maxRecDepth 100000 in
theorem xm9_s3 : ((xm9c.drop (12 * 3)).take 12).all (xveB xMs xm9) = true := by decide +kernel
theorem xm9_a : xm9c.all (xveB xMs xm9) = true := xseg_ok (n := 12) (m := 4) (by decide) (by decide +kernel) (fun k hk => match k, hk with
  | 0, _ => xm9_s0
  | 1, _ => xm9_s1
  | 2, _ => xm9_s2
  | 3, _ => xm9_s3
  | n + 4, h => absurd h (by omega))
set_option maxRecDepth 100000 in
theorem xm10_s0 : ((xm10c.drop (12 * 0)).take 12).all (xveB xMs xm10) = true := by decide +kernel
theorem xm10_a : xm10c.all (xveB xMs xm10) = true := xseg_ok (n := 12) (m := 1) (by decide) (by decide +kernel) (fun k hk => match k, hk with
  | 0, _ => xm10_s0
  | n + 1, h => absurd h (by omega))
set_option maxRecDepth 100000 in
theorem xm11_s0 : ((xm11c.drop (12 * 0)).take 12).all (xveB xMs xm11) = true := by decide +kernel
set_option maxRecDepth 100000 in
theorem xm11_s1 : ((xm11c.drop (12 * 1)).take 12).all (xveB xMs xm11) = true := by decide +kernel
set_option maxRecDepth 100000 in
theorem xm11_s2 : ((xm11c.drop (12 * 2)).take 12).all (xveB xMs xm11) = true := by decide +kernel
set_option maxRecDepth 100000 in
theorem xm11_s3 : ((xm11c.drop (12 * 3)).take 12).all (xveB xMs xm11) = true := by decide +kernel
set_option maxRecDepth 100000 in
theorem xm11_s4 : ((xm11c.drop (12 * 4)).take 12).all (xveB xMs xm11) = true := by decide +kernel
theorem xm11_a : xm11c.all (xveB xMs xm11) = true := xseg_ok (n := 12) (m := 5) (by decide) (by decide +kernel) (fun k hk => match k, hk with
  | 0, _ => xm11_s0
  | 1, _ => xm11_s1
  | 2, _ => xm11_s2
  | 3, _ => xm11_s3
  | 4, _ => xm11_s4
  | n + 5, h => absurd h (by omega))
set_option maxRecDepth 100000 in
theorem xm12_s0 : ((xm12c.drop (12 * 0)).take 12).all (xveB xMs xm12) = true := by decide +kernel
theorem xm12_a : xm12c.all (xveB xMs xm12) = true := xseg_ok (n := 12) (m := 1) (by decide) (by decide +kernel) (fun k hk => match k, hk with
  | 0, _ => xm12_s0
  | n + 1, h => absurd h (by omega))
set_option maxRecDepth 100000 in
theorem xm13_s0 : ((xm13c.drop (12 * 0)).take 12).all (xveB xMs xm13) = true := by decide +kernel
theorem xm13_a : xm13c.all (xveB xMs xm13) = true := xseg_ok (n := 12) (m := 1) (by decide) (by decide +kernel) (fun k hk => match k, hk with
  | 0, _ => xm13_s0
  | n + 1, h => absurd h (by omega))
set_option maxRecDepth 100000 in
theorem xm14_s0 : ((xm14c.drop (12 * 0)).take 12).all (xveB xMs xm14) = true := by decide +kernel
theorem xm14_a : xm14c.all (xveB xMs xm14) = true := xseg_ok (n := 12) (m := 1) (by decide) (by decide +kernel) (fun k hk => match k, hk with
  | 0, _ => xm14_s0
  | n + 1, h => absurd h (by omega))
set_option maxRecDepth 100000 in
theorem xm15_s0 : ((xm15c.drop (12 * 0)).take 12).all (xveB xMs xm15) = true := by decide +kernel
set_option maxRecDepth 100000 in
theorem xm15_s1 : ((xm15c.drop (12 * 1)).take 12).all (xveB xMs xm15) = true := by decide +kernel
theorem xm15_a : xm15c.all (xveB xMs xm15) = true := xseg_ok (n := 12) (m := 2) (by decide) (by decide +kernel) (fun k hk => match k, hk with
  | 0, _ => xm15_s0
  | 1, _ => xm15_s1
  | n + 2, h => absurd h (by omega))
set_option maxRecDepth 100000 in
theorem xm16_s0 : ((xm16c.drop (12 * 0)).take 12).all (xveB xMs xm16) = true := by decide +kernel
theorem xm16_a : xm16c.all (xveB xMs xm16) = true := xseg_ok (n := 12) (m := 1) (by decide) (by decide +kernel) (fun k hk => match k, hk with
  | 0, _ => xm16_s0
  | n + 1, h => absurd h (by omega))
set_option maxRecDepth 100000 in
theorem xm17_s0 : ((xm17c.drop (12 * 0)).take 12).all (xveB xMs xm17) = true := by decide +kernel
set_option maxRecDepth 100000 in
theorem xm17_s1 : ((xm17c.drop (12 * 1)).take 12).all (xveB xMs xm17) = true := by decide +kernel
set_option maxRecDepth 100000 in
theorem xm17_s2 : ((xm17c.drop (12 * 2)).take 12).all (xveB xMs xm17) = true := by decide +kernel
theorem xm17_a : xm17c.all (xveB xMs xm17) = true := xseg_ok (n := 12) (m := 3) (by decide) (by decide +kernel) (fun k hk => match k, hk with
  | 0, _ => xm17_s0
  | 1, _ => xm17_s1
  | 2, _ => xm17_s2
  | n + 3, h => absurd h (by omega))
set_option maxRecDepth 100000 in
theorem xm18_s0 : ((xm18c.drop (12 * 0)).take 12).all (xveB xMs xm18) = true := by decide +kernel
set_option maxRecDepth 100000 in
theorem xm18_s1 : ((xm18c.drop (12 * 1)).take 12).all (xveB xMs xm18) = true := by decide +kernel
set_option maxRecDepth 100000 in
theorem xm18_s2 : ((xm18c.drop (12 * 2)).take 12).all (xveB xMs xm18) = true := by decide +kernel
theorem xm18_a : xm18c.all (xveB xMs xm18) = true := xseg_ok (n := 12) (m := 3) (by decide) (by decide +kernel) (fun k hk => match k, hk with
  | 0, _ => xm18_s0
  | 1, _ => xm18_s1
  | 2, _ => xm18_s2
  | n + 3, h => absurd h (by omega))
set_option maxRecDepth 100000 in
theorem xm19_s0 : ((xm19c.drop (12 * 0)).take 12).all (xveB xMs xm19) = true := by decide +kernel
theorem xm19_a : xm19c.all (xveB xMs xm19) = true := xseg_ok (n := 12) (m := 1) (by decide) (by decide +kernel) (fun k hk => match k, hk with
  | 0, _ => xm19_s0
  | n + 1, h => absurd h (by omega))
set_option maxRecDepth 100000 in
theorem xm20_s0 : ((xm20c.drop (12 * 0)).take 12).all (xveB xMs xm20) = true := by decide +kernel
set_option maxRecDepth 100000 in
theorem xm20_s1 : ((xm20c.drop (12 * 1)).take 12).all (xveB xMs xm20) = true := by decide +kernel
theorem xm20_a : xm20c.all (xveB xMs xm20) = true := xseg_ok (n := 12) (m := 2) (by decide) (by decide +kernel) (fun k hk => match k, hk with
  | 0, _ => xm20_s0
  | 1, _ => xm20_s1
  | n + 2, h => absurd h (by omega))
set_option maxRecDepth 100000 in
theorem xm21_s0 : ((xm21c.drop (12 * 0)).take 12).all (xveB xMs xm21) = true := by decide +kernel
set_option maxRecDepth 100000 in
theorem xm21_s1 : ((xm21c.drop (12 * 1)).take 12).all (xveB xMs xm21) = true := by decide +kernel
set_option maxRecDepth 100000 in
theorem xm21_s2 : ((xm21c.drop (12 * 2)).take 12).all (xveB xMs xm21) = true := by decide +kernel
theorem xm21_a : xm21c.all (xveB xMs xm21) = true := xseg_ok (n := 12) (m := 3) (by decide) (by decide +kernel) (fun k hk => match k, hk with
  | 0, _ => xm21_s0
  | 1, _ => xm21_s1
  | 2, _ => xm21_s2
  | n + 3, h => absurd h (by omega))
set_option maxRecDepth 100000 in
theorem xm22_s0 : ((xm22c.drop (12 * 0)).take 12).all (xveB xMs xm22) = true := by decide +kernel
set_option maxRecDepth 100000 in
theorem xm22_s1 : ((xm22c.drop (12 * 1)).take 12).all (xveB xMs xm22) = true := by decide +kernel
set_option maxRecDepth 100000 in
theorem xm22_s2 : ((xm22c.drop (12 * 2)).take 12).all (xveB xMs xm22) = true := by decide +kernel
theorem xm22_a : xm22c.all (xveB xMs xm22) = true := xseg_ok (n := 12) (m := 3) (by decide) (by decide +kernel) (fun k hk => match k, hk with
  | 0, _ => xm22_s0
  | 1, _ => xm22_s1
  | 2, _ => xm22_s2
  | n + 3, h => absurd h (by omega))
set_option maxRecDepth 100000 in
theorem xm23_s0 : ((xm23c.drop (12 * 0)).take 12).all (xveB xMs xm23) = true := by decide +kernel
set_option maxRecDepth 100000 in
theorem xm23_s1 : ((xm23c.drop (12 * 1)).take 12).all (xveB xMs xm23) = true := by decide +kernel
set_option maxRecDepth 100000 in
theorem xm23_s2 : ((xm23c.drop (12 * 2)).take 12).all (xveB xMs xm23) = true := by decide +kernel
theorem xm23_a : xm23c.all (xveB xMs xm23) = true := xseg_ok (n := 12) (m := 3) (by decide) (by decide +kernel) (fun k hk => match k, hk with
  | 0, _ => xm23_s0
  | 1, _ => xm23_s1
  | 2, _ => xm23_s2
  | n + 3, h => absurd h (by omega))
set_option maxRecDepth 100000 in
theorem xm24_s0 : ((xm24c.drop (12 * 0)).take 12).all (xveB xMs xm24) = true := by decide +kernel
theorem xm24_a : xm24c.all (xveB xMs xm24) = true := xseg_ok (n := 12) (m := 1) (by decide) (by decide +kernel) (fun k hk => match k, hk with
  | 0, _ => xm24_s0
  | n + 1, h => absurd h (by omega))
set_option maxRecDepth 100000 in
theorem xm25_s0 : ((xm25c.drop (12 * 0)).take 12).all (xveB xMs xm25) = true := by decide +kernel
set_option maxRecDepth 100000 in
theorem xm25_s1 : ((xm25c.drop (12 * 1)).take 12).all (xveB xMs xm25) = true := by decide +kernel
theorem xm25_a : xm25c.all (xveB xMs xm25) = true := xseg_ok (n := 12) (m := 2) (by decide) (by decide +kernel) (fun k hk => match k, hk with
  | 0, _ => xm25_s0
  | 1, _ => xm25_s1
  | n + 2, h => absurd h (by omega))
set_option maxRecDepth 100000 in
theorem xm26_s0 : ((xm26c.drop (12 * 0)).take 12).all (xveB xMs xm26) = true := by decide +kernel
set_option maxRecDepth 100000 in
theorem xm26_s1 : ((xm26c.drop (12 * 1)).take 12).all (xveB xMs xm26) = true := by decide +kernel
theorem xm26_a : xm26c.all (xveB xMs xm26) = true := xseg_ok (n := 12) (m := 2) (by decide) (by decide +kernel) (fun k hk => match k, hk with
  | 0, _ => xm26_s0
  | 1, _ => xm26_s1
  | n + 2, h => absurd h (by omega))
set_option maxRecDepth 100000 in
theorem xm27_s0 : ((xm27c.drop (12 * 0)).take 12).all (xveB xMs xm27) = true := by decide +kernel
theorem xm27_a : xm27c.all (xveB xMs xm27) = true := xseg_ok (n := 12) (m := 1) (by decide) (by decide +kernel) (fun k hk => match k, hk with
  | 0, _ => xm27_s0
  | n + 1, h => absurd h (by omega))
set_option maxRecDepth 100000 in
theorem xm28_s0 : ((xm28c.drop (12 * 0)).take 12).all (xveB xMs xm28) = true := by decide +kernel
theorem xm28_a : xm28c.all (xveB xMs xm28) = true := xseg_ok (n := 12) (m := 1) (by decide) (by decide +kernel) (fun k hk => match k, hk with
  | 0, _ => xm28_s0
  | n + 1, h => absurd h (by omega))
set_option maxRecDepth 100000 in
theorem xm29_s0 : ((xm29c.drop (12 * 0)).take 12).all (xveB xMs xm29) = true := by decide +kernel
theorem xm29_a : xm29c.all (xveB xMs xm29) = true := xseg_ok (n := 12) (m := 1) (by decide) (by decide +kernel) (fun k hk => match k, hk with
  | 0, _ => xm29_s0
  | n + 1, h => absurd h (by omega))
set_option maxRecDepth 100000 in
theorem xm30_s0 : ((xm30c.drop (12 * 0)).take 12).all (xveB xMs xm30) = true := by decide +kernel
set_option maxRecDepth 100000 in
theorem xm30_s1 : ((xm30c.drop (12 * 1)).take 12).all (xveB xMs xm30) = true := by decide +kernel
set_option maxRecDepth 100000 in
theorem xm30_s2 : ((xm30c.drop (12 * 2)).take 12).all (xveB xMs xm30) = true := by decide +kernel
theorem xm30_a : xm30c.all (xveB xMs xm30) = true := xseg_ok (n := 12) (m := 3) (by decide) (by decide +kernel) (fun k hk => match k, hk with
  | 0, _ => xm30_s0
  | 1, _ => xm30_s1
  | 2, _ => xm30_s2
  | n + 3, h => absurd h (by omega))
set_option maxRecDepth 100000 in
theorem xm31_s0 : ((xm31c.drop (12 * 0)).take 12).all (xveB xMs xm31) = true := by decide +kernel
set_option maxRecDepth 100000 in
theorem xm31_s1 : ((xm31c.drop (12 * 1)).take 12).all (xveB xMs xm31) = true := by decide +kernel
theorem xm31_a : xm31c.all (xveB xMs xm31) = true := xseg_ok (n := 12) (m := 2) (by decide) (by decide +kernel) (fun k hk => match k, hk with
  | 0, _ => xm31_s0
  | 1, _ => xm31_s1
  | n + 2, h => absurd h (by omega))
set_option maxRecDepth 100000 in
theorem xm32_s0 : ((xm32c.drop (12 * 0)).take 12).all (xveB xMs xm32) = true := by decide +kernel
theorem xm32_a : xm32c.all (xveB xMs xm32) = true := xseg_ok (n := 12) (m := 1) (by decide) (by decide +kernel) (fun k hk => match k, hk with
  | 0, _ => xm32_s0
  | n + 1, h => absurd h (by omega))
set_option maxRecDepth 100000 in
theorem xm33_s0 : ((xm33c.drop (12 * 0)).take 12).all (xveB xMs xm33) = true := by decide +kernel
theorem xm33_a : xm33c.all (xveB xMs xm33) = true := xseg_ok (n := 12) (m := 1) (by decide) (by decide +kernel) (fun k hk => match k, hk with
  | 0, _ => xm33_s0
  | n + 1, h => absurd h (by omega))
set_option maxRecDepth 100000 in
theorem xm34_s0 : ((xm34c.drop (12 * 0)).take 12).all (xveB xMs xm34) = true := by decide +kernel
theorem xm34_a : xm34c.all (xveB xMs xm34) = true := xseg_ok (n := 12) (m := 1) (by decide) (by decide +kernel) (fun k hk => match k, hk with
  | 0, _ => xm34_s0
  | n + 1, h => absurd h (by omega))
set_option maxRecDepth 100000 in
theorem xm35_s0 : ((xm35c.drop (12 * 0)).take 12).all (xveB xMs xm35) = true := by decide +kernel
theorem xm35_a : xm35c.all (xveB xMs xm35) = true := xseg_ok (n := 12) (m := 1) (by decide) (by decide +kernel) (fun k hk => match k, hk with
  | 0, _ => xm35_s0
  | n + 1, h => absurd h (by omega))
set_option maxRecDepth 100000 in
theorem xm36_s0 : ((xm36c.drop (12 * 0)).take 12).all (xveB xMs xm36) = true := by decide +kernel
theorem xm36_a : xm36c.all (xveB xMs xm36) = true := xseg_ok (n := 12) (m := 1) (by decide) (by decide +kernel) (fun k hk => match k, hk with
  | 0, _ => xm36_s0
  | n + 1, h => absurd h (by omega))
set_option maxRecDepth 100000 in
theorem xm37_s0 : ((xm37c.drop (12 * 0)).take 12).all (xveB xMs xm37) = true := by decide +kernel
set_option maxRecDepth 100000 in
theorem xm37_s1 : ((xm37c.drop (12 * 1)).take 12).all (xveB xMs xm37) = true := by decide +kernel
set_option maxRecDepth 100000 in
theorem xm37_s2 : ((xm37c.drop (12 * 2)).take 12).all (xveB xMs xm37) = true := by decide +kernel
set_option maxRecDepth 100000 in
theorem xm37_s3 : ((xm37c.drop (12 * 3)).take 12).all (xveB xMs xm37) = true := by decide +kernel
theorem xm37_a : xm37c.all (xveB xMs xm37) = true := xseg_ok (n := 12) (m := 4) (by decide) (by decide +kernel) (fun k hk => match k, hk with
  | 0, _ => xm37_s0
  | 1, _ => xm37_s1
  | 2, _ => xm37_s2
  | 3, _ => xm37_s3
  | n + 4, h => absurd h (by omega))
end XU
