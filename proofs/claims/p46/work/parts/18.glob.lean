/-! the tables, all along (by wip/p46/gen18.py) -/
section XG
theorem xpl_ok {ws : List Jvm.Cond} {ps : List Nat} (h : ws = ps.filterMap (xnth lw_tbl)) (h2 : ws.all (fun w => goodWord w || xngk w) = true) : ∀ w ∈ ws, w ∈ xTs ∨ w ∈ xNg := by
  intro w hw
  have h3 := List.all_eq_true.mp h2 w hw
  rw [h] at hw
  obtain ⟨i, -, hi⟩ := List.mem_filterMap.mp hw
  rw [xnth_eq] at hi
  rw [Bool.or_eq_true] at h3
  exact h3.imp (fun z => xTs_in hi z) (fun z => xNg_in hi z)
theorem xpl_ok1 {ws : List Jvm.Cond} {ps : List Nat} (h : ws = ps.filterMap (xnth lw_tbl)) (h2 : ws.all goodWord = true) : ∀ w ∈ ws, w ∈ xTs := by
  intro w hw
  have h3 := List.all_eq_true.mp h2 w hw
  rw [h] at hw
  obtain ⟨i, -, hi⟩ := List.mem_filterMap.mp hw
  rw [xnth_eq] at hi
  exact xTs_in hi h3
theorem xw_c0 : ∀ w ∈ u_ws "PackWright$Cache" xT0 4, w ∈ xTs := xpl_ok1 (ps := [744, 746, 748, 750]) (by decide +kernel) (by decide +kernel)
theorem xw_c1 : ∀ w ∈ u_ws "PackWright$Chains" xT1 4, w ∈ xTs := xpl_ok1 (ps := [693, 695, 697, 699]) (by decide +kernel) (by decide +kernel)
theorem xw_c2 : ∀ w ∈ u_ws "PackWright$Choice" xT2 2, w ∈ xTs := xpl_ok1 (ps := [632, 634]) (by decide +kernel) (by decide +kernel)
theorem xw_c3 : ∀ w ∈ u_ws "PackWright$Pack" xT3 3, w ∈ xTs := xpl_ok1 (ps := [1045, 1047, 1049]) (by decide +kernel) (by decide +kernel)
theorem xw_c4 : ∀ w ∈ u_ws "PackWright$Plan" xT4 6, w ∈ xTs := xpl_ok1 (ps := [719, 721, 723, 725, 727, 729]) (by decide +kernel) (by decide +kernel)
theorem xw_c5 : ∀ w ∈ u_ws "PackWright$Resolver" xT5 11, w ∈ xTs := xpl_ok1 (ps := [660, 662, 664, 666, 668, 670, 672, 674, 676, 678, 680]) (by decide +kernel) (by decide +kernel)
theorem xw_c6 : ∀ w ∈ u_ws "PackWright$Wishes" xT6 2, w ∈ xTs := xpl_ok1 (ps := [610, 612]) (by decide +kernel) (by decide +kernel)
theorem xw_c7 : ∀ w ∈ u_ws "PackWright" xT7 13, w ∈ xTs := xpl_ok1 (ps := [766, 768, 770, 772, 774, 776, 778, 780, 782, 784, 786, 788, 790]) (by decide +kernel) (by decide +kernel)
theorem xw_c8 : ∀ w ∈ u_ws "PackWright$Claim" xT8 5, w ∈ xTs := xpl_ok1 (ps := [998, 1000, 1002, 1004, 1006]) (by decide +kernel) (by decide +kernel)
theorem xw_c9 : ∀ w ∈ u_ws "PackWright$Range" xT9 2, w ∈ xTs := xpl_ok1 (ps := [975, 977]) (by decide +kernel) (by decide +kernel)
theorem xw_c10 : ∀ w ∈ u_ws "PackWright$Version" xT10 8, w ∈ xTs := xpl_ok1 (ps := [913, 915, 917, 919, 921, 923, 925, 927]) (by decide +kernel) (by decide +kernel)
theorem xw_c11 : ∀ w ∈ u_ws "PackWrightLaw$Reg" xT11 13, w ∈ xTs := xpl_ok1 (ps := [813, 815, 817, 819, 821, 823, 825, 827, 829, 831, 833, 835, 837]) (by decide +kernel) (by decide +kernel)
theorem xw_cl : ∀ q ∈ (classes : List vw_C), ∀ w ∈ u_ws q.1 q.2.1 q.2.2, w ∈ xTs := List.forall_mem_cons.mpr ⟨xw_c0, List.forall_mem_cons.mpr ⟨xw_c1, List.forall_mem_cons.mpr ⟨xw_c2, List.forall_mem_cons.mpr ⟨xw_c3, List.forall_mem_cons.mpr ⟨xw_c4, List.forall_mem_cons.mpr ⟨xw_c5, List.forall_mem_cons.mpr ⟨xw_c6, List.forall_mem_cons.mpr ⟨xw_c7, List.forall_mem_cons.mpr ⟨xw_c8, List.forall_mem_cons.mpr ⟨xw_c9, List.forall_mem_cons.mpr ⟨xw_c10, List.forall_mem_cons.mpr ⟨xw_c11, fun _ h => absurd h List.not_mem_nil⟩⟩⟩⟩⟩⟩⟩⟩⟩⟩⟩⟩
theorem xGlob_ok : xGlob := fun ci C T N h => xw_cl (C, T, N) (List.mem_of_getElem? h)
theorem xMok_of {M : XM} (h1 : plainName (xmY M).cls = true) (h2 : (xmC M).all (xveB xMs M) = true) : xMok xMs M := ⟨h1, fun e he => xveB_ok xcode_ok (List.all_eq_true.mp h2 e he)⟩
theorem xm0_k : xMok xMs xm0 := xMok_of (by decide +kernel) xm0_a
theorem xm1_k : xMok xMs xm1 := xMok_of (by decide +kernel) xm1_a
theorem xm2_k : xMok xMs xm2 := xMok_of (by decide +kernel) xm2_a
theorem xm3_k : xMok xMs xm3 := xMok_of (by decide +kernel) xm3_a
theorem xm4_k : xMok xMs xm4 := xMok_of (by decide +kernel) xm4_a
theorem xm5_k : xMok xMs xm5 := xMok_of (by decide +kernel) xm5_a
theorem xm6_k : xMok xMs xm6 := xMok_of (by decide +kernel) xm6_a
theorem xm7_k : xMok xMs xm7 := xMok_of (by decide +kernel) xm7_a
theorem xm8_k : xMok xMs xm8 := xMok_of (by decide +kernel) xm8_a
theorem xm9_k : xMok xMs xm9 := xMok_of (by decide +kernel) xm9_a
theorem xm10_k : xMok xMs xm10 := xMok_of (by decide +kernel) xm10_a
theorem xm11_k : xMok xMs xm11 := xMok_of (by decide +kernel) xm11_a
theorem xm12_k : xMok xMs xm12 := xMok_of (by decide +kernel) xm12_a
theorem xm13_k : xMok xMs xm13 := xMok_of (by decide +kernel) xm13_a
theorem xm14_k : xMok xMs xm14 := xMok_of (by decide +kernel) xm14_a
theorem xm15_k : xMok xMs xm15 := xMok_of (by decide +kernel) xm15_a
theorem xm16_k : xMok xMs xm16 := xMok_of (by decide +kernel) xm16_a
theorem xm17_k : xMok xMs xm17 := xMok_of (by decide +kernel) xm17_a
theorem xm18_k : xMok xMs xm18 := xMok_of (by decide +kernel) xm18_a
theorem xm19_k : xMok xMs xm19 := xMok_of (by decide +kernel) xm19_a
theorem xm20_k : xMok xMs xm20 := xMok_of (by decide +kernel) xm20_a
theorem xm21_k : xMok xMs xm21 := xMok_of (by decide +kernel) xm21_a
theorem xm22_k : xMok xMs xm22 := xMok_of (by decide +kernel) xm22_a
theorem xm23_k : xMok xMs xm23 := xMok_of (by decide +kernel) xm23_a
theorem xm24_k : xMok xMs xm24 := xMok_of (by decide +kernel) xm24_a
theorem xm25_k : xMok xMs xm25 := xMok_of (by decide +kernel) xm25_a
theorem xm26_k : xMok xMs xm26 := xMok_of (by decide +kernel) xm26_a
theorem xm27_k : xMok xMs xm27 := xMok_of (by decide +kernel) xm27_a
theorem xm28_k : xMok xMs xm28 := xMok_of (by decide +kernel) xm28_a
theorem xm29_k : xMok xMs xm29 := xMok_of (by decide +kernel) xm29_a
theorem xm30_k : xMok xMs xm30 := xMok_of (by decide +kernel) xm30_a
theorem xm31_k : xMok xMs xm31 := xMok_of (by decide +kernel) xm31_a
theorem xm32_k : xMok xMs xm32 := xMok_of (by decide +kernel) xm32_a
theorem xm33_k : xMok xMs xm33 := xMok_of (by decide +kernel) xm33_a
theorem xm34_k : xMok xMs xm34 := xMok_of (by decide +kernel) xm34_a
theorem xm35_k : xMok xMs xm35 := xMok_of (by decide +kernel) xm35_a
theorem xm36_k : xMok xMs xm36 := xMok_of (by decide +kernel) xm36_a
theorem xm37_k : xMok xMs xm37 := xMok_of (by decide +kernel) xm37_a
theorem xm38_k : xMok xMs xm38 := xMok_of (by decide +kernel) xm38_a
theorem xm39_k : xMok xMs xm39 := xMok_of (by decide +kernel) xm39_a
theorem xm40_k : xMok xMs xm40 := xMok_of (by decide +kernel) xm40_a
theorem xm41_k : xMok xMs xm41 := xMok_of (by decide +kernel) xm41_a
theorem xm42_k : xMok xMs xm42 := xMok_of (by decide +kernel) xm42_a
theorem xm43_k : xMok xMs xm43 := xMok_of (by decide +kernel) xm43_a
theorem xm44_k : xMok xMs xm44 := xMok_of (by decide +kernel) xm44_a
theorem xm45_k : xMok xMs xm45 := xMok_of (by decide +kernel) xm45_a
theorem xm46_k : xMok xMs xm46 := xMok_of (by decide +kernel) xm46_a
theorem xm47_k : xMok xMs xm47 := xMok_of (by decide +kernel) xm47_a
theorem xm48_k : xMok xMs xm48 := xMok_of (by decide +kernel) xm48_a
theorem xm49_k : xMok xMs xm49 := xMok_of (by decide +kernel) xm49_a
theorem xm50_k : xMok xMs xm50 := xMok_of (by decide +kernel) xm50_a
theorem xm51_k : xMok xMs xm51 := xMok_of (by decide +kernel) xm51_a
theorem xm52_k : xMok xMs xm52 := xMok_of (by decide +kernel) xm52_a
theorem xm53_k : xMok xMs xm53 := xMok_of (by decide +kernel) xm53_a
theorem xm54_k : xMok xMs xm54 := xMok_of (by decide +kernel) xm54_a
theorem xm55_k : xMok xMs xm55 := xMok_of (by decide +kernel) xm55_a
theorem xm56_k : xMok xMs xm56 := xMok_of (by decide +kernel) xm56_a
theorem xm57_k : xMok xMs xm57 := xMok_of (by decide +kernel) xm57_a
theorem xm58_k : xMok xMs xm58 := xMok_of (by decide +kernel) xm58_a
theorem xm59_k : xMok xMs xm59 := xMok_of (by decide +kernel) xm59_a
theorem xm60_k : xMok xMs xm60 := xMok_of (by decide +kernel) xm60_a
theorem xm61_k : xMok xMs xm61 := xMok_of (by decide +kernel) xm61_a
theorem xm62_k : xMok xMs xm62 := xMok_of (by decide +kernel) xm62_a
theorem xm63_k : xMok xMs xm63 := xMok_of (by decide +kernel) xm63_a
theorem xm64_k : xMok xMs xm64 := xMok_of (by decide +kernel) xm64_a
theorem xm65_k : xMok xMs xm65 := xMok_of (by decide +kernel) xm65_a
theorem xm66_k : xMok xMs xm66 := xMok_of (by decide +kernel) xm66_a
theorem xm67_k : xMok xMs xm67 := xMok_of (by decide +kernel) xm67_a
theorem xm68_k : xMok xMs xm68 := xMok_of (by decide +kernel) xm68_a
theorem xm69_k : xMok xMs xm69 := xMok_of (by decide +kernel) xm69_a
theorem xm70_k : xMok xMs xm70 := xMok_of (by decide +kernel) xm70_a
theorem xm71_k : xMok xMs xm71 := xMok_of (by decide +kernel) xm71_a
theorem xm72_k : xMok xMs xm72 := xMok_of (by decide +kernel) xm72_a
theorem xm73_k : xMok xMs xm73 := xMok_of (by decide +kernel) xm73_a
theorem xm74_k : xMok xMs xm74 := xMok_of (by decide +kernel) xm74_a
theorem xm75_k : xMok xMs xm75 := xMok_of (by decide +kernel) xm75_a
theorem xm76_k : xMok xMs xm76 := xMok_of (by decide +kernel) xm76_a
theorem xm77_k : xMok xMs xm77 := xMok_of (by decide +kernel) xm77_a
theorem xm78_k : xMok xMs xm78 := xMok_of (by decide +kernel) xm78_a
theorem xm79_k : xMok xMs xm79 := xMok_of (by decide +kernel) xm79_a
theorem xm80_k : xMok xMs xm80 := xMok_of (by decide +kernel) xm80_a
theorem xm81_k : xMok xMs xm81 := xMok_of (by decide +kernel) xm81_a
theorem xm82_k : xMok xMs xm82 := xMok_of (by decide +kernel) xm82_a
theorem xm83_k : xMok xMs xm83 := xMok_of (by decide +kernel) xm83_a
theorem xm84_k : xMok xMs xm84 := xMok_of (by decide +kernel) xm84_a
theorem xm85_k : xMok xMs xm85 := xMok_of (by decide +kernel) xm85_a
theorem xm86_k : xMok xMs xm86 := xMok_of (by decide +kernel) xm86_a
theorem xm87_k : xMok xMs xm87 := xMok_of (by decide +kernel) xm87_a
theorem xm88_k : xMok xMs xm88 := xMok_of (by decide +kernel) xm88_a
theorem xm89_k : xMok xMs xm89 := xMok_of (by decide +kernel) xm89_a
theorem xm90_k : xMok xMs xm90 := xMok_of (by decide +kernel) xm90_a
theorem xm91_k : xMok xMs xm91 := xMok_of (by decide +kernel) xm91_a
theorem xm92_k : xMok xMs xm92 := xMok_of (by decide +kernel) xm92_a
theorem xm93_k : xMok xMs xm93 := xMok_of (by decide +kernel) xm93_a
theorem xm94_k : xMok xMs xm94 := xMok_of (by decide +kernel) xm94_a
theorem xm95_k : xMok xMs xm95 := xMok_of (by decide +kernel) xm95_a
theorem xm96_k : xMok xMs xm96 := xMok_of (by decide +kernel) xm96_a
theorem xm97_k : xMok xMs xm97 := xMok_of (by decide +kernel) xm97_a
theorem xm98_k : xMok xMs xm98 := xMok_of (by decide +kernel) xm98_a
theorem xm99_k : xMok xMs xm99 := xMok_of (by decide +kernel) xm99_a
theorem xm100_k : xMok xMs xm100 := xMok_of (by decide +kernel) xm100_a
theorem xm101_k : xMok xMs xm101 := xMok_of (by decide +kernel) xm101_a
theorem xm102_k : xMok xMs xm102 := xMok_of (by decide +kernel) xm102_a
theorem xm103_k : xMok xMs xm103 := xMok_of (by decide +kernel) xm103_a
theorem xm104_k : xMok xMs xm104 := xMok_of (by decide +kernel) xm104_a
theorem xm105_k : xMok xMs xm105 := xMok_of (by decide +kernel) xm105_a
theorem xm106_k : xMok xMs xm106 := xMok_of (by decide +kernel) xm106_a
theorem xm107_k : xMok xMs xm107 := xMok_of (by decide +kernel) xm107_a
theorem xm108_k : xMok xMs xm108 := xMok_of (by decide +kernel) xm108_a
theorem xm109_k : xMok xMs xm109 := xMok_of (by decide +kernel) xm109_a
theorem xm110_k : xMok xMs xm110 := xMok_of (by decide +kernel) xm110_a
theorem xm111_k : xMok xMs xm111 := xMok_of (by decide +kernel) xm111_a
theorem xm112_k : xMok xMs xm112 := xMok_of (by decide +kernel) xm112_a
theorem xm113_k : xMok xMs xm113 := xMok_of (by decide +kernel) xm113_a
theorem xm114_k : xMok xMs xm114 := xMok_of (by decide +kernel) xm114_a
theorem xm115_k : xMok xMs xm115 := xMok_of (by decide +kernel) xm115_a
theorem xm116_k : xMok xMs xm116 := xMok_of (by decide +kernel) xm116_a
theorem xm117_k : xMok xMs xm117 := xMok_of (by decide +kernel) xm117_a
theorem xm118_k : xMok xMs xm118 := xMok_of (by decide +kernel) xm118_a
theorem xm119_k : xMok xMs xm119 := xMok_of (by decide +kernel) xm119_a
theorem xm120_k : xMok xMs xm120 := xMok_of (by decide +kernel) xm120_a
theorem xm121_k : xMok xMs xm121 := xMok_of (by decide +kernel) xm121_a
theorem xm122_k : xMok xMs xm122 := xMok_of (by decide +kernel) xm122_a
theorem xm123_k : xMok xMs xm123 := xMok_of (by decide +kernel) xm123_a
theorem xm124_k : xMok xMs xm124 := xMok_of (by decide +kernel) xm124_a
theorem xm125_k : xMok xMs xm125 := xMok_of (by decide +kernel) xm125_a
theorem xm126_k : xMok xMs xm126 := xMok_of (by decide +kernel) xm126_a
theorem xm127_k : xMok xMs xm127 := xMok_of (by decide +kernel) xm127_a
theorem xm128_k : xMok xMs xm128 := xMok_of (by decide +kernel) xm128_a
theorem xm129_k : xMok xMs xm129 := xMok_of (by decide +kernel) xm129_a
theorem xm130_k : xMok xMs xm130 := xMok_of (by decide +kernel) xm130_a
theorem xm131_k : xMok xMs xm131 := xMok_of (by decide +kernel) xm131_a
theorem xm132_k : xMok xMs xm132 := xMok_of (by decide +kernel) xm132_a
theorem xm133_k : xMok xMs xm133 := xMok_of (by decide +kernel) xm133_a
theorem xm134_k : xMok xMs xm134 := xMok_of (by decide +kernel) xm134_a
theorem xm135_k : xMok xMs xm135 := xMok_of (by decide +kernel) xm135_a
theorem xm136_k : xMok xMs xm136 := xMok_of (by decide +kernel) xm136_a
theorem xm137_k : xMok xMs xm137 := xMok_of (by decide +kernel) xm137_a
theorem xm138_k : xMok xMs xm138 := xMok_of (by decide +kernel) xm138_a
theorem xm139_k : xMok xMs xm139 := xMok_of (by decide +kernel) xm139_a
theorem xm140_k : xMok xMs xm140 := xMok_of (by decide +kernel) xm140_a
theorem xm141_k : xMok xMs xm141 := xMok_of (by decide +kernel) xm141_a
set_option maxRecDepth 20000 in
theorem xMs_ok : ∀ M ∈ xMs, xMok xMs M := by
  unfold xMs
  exact List.forall_mem_cons.mpr ⟨xm0_k, List.forall_mem_cons.mpr ⟨xm1_k, List.forall_mem_cons.mpr ⟨xm2_k, List.forall_mem_cons.mpr ⟨xm3_k, List.forall_mem_cons.mpr ⟨xm4_k, List.forall_mem_cons.mpr ⟨xm5_k, List.forall_mem_cons.mpr ⟨xm6_k, List.forall_mem_cons.mpr ⟨xm7_k, List.forall_mem_cons.mpr ⟨xm8_k, List.forall_mem_cons.mpr ⟨xm9_k, List.forall_mem_cons.mpr ⟨xm10_k, List.forall_mem_cons.mpr ⟨xm11_k, List.forall_mem_cons.mpr ⟨xm12_k, List.forall_mem_cons.mpr ⟨xm13_k, List.forall_mem_cons.mpr ⟨xm14_k, List.forall_mem_cons.mpr ⟨xm15_k, List.forall_mem_cons.mpr ⟨xm16_k, List.forall_mem_cons.mpr ⟨xm17_k, List.forall_mem_cons.mpr ⟨xm18_k, List.forall_mem_cons.mpr ⟨xm19_k, List.forall_mem_cons.mpr ⟨xm20_k, List.forall_mem_cons.mpr ⟨xm21_k, List.forall_mem_cons.mpr ⟨xm22_k, List.forall_mem_cons.mpr ⟨xm23_k, List.forall_mem_cons.mpr ⟨xm24_k, List.forall_mem_cons.mpr ⟨xm25_k, List.forall_mem_cons.mpr ⟨xm26_k, List.forall_mem_cons.mpr ⟨xm27_k, List.forall_mem_cons.mpr ⟨xm28_k, List.forall_mem_cons.mpr ⟨xm29_k, List.forall_mem_cons.mpr ⟨xm30_k, List.forall_mem_cons.mpr ⟨xm31_k, List.forall_mem_cons.mpr ⟨xm32_k, List.forall_mem_cons.mpr ⟨xm33_k, List.forall_mem_cons.mpr ⟨xm34_k, List.forall_mem_cons.mpr ⟨xm35_k, List.forall_mem_cons.mpr ⟨xm36_k, List.forall_mem_cons.mpr ⟨xm37_k, List.forall_mem_cons.mpr ⟨xm38_k, List.forall_mem_cons.mpr ⟨xm39_k, List.forall_mem_cons.mpr ⟨xm40_k, List.forall_mem_cons.mpr ⟨xm41_k, List.forall_mem_cons.mpr ⟨xm42_k, List.forall_mem_cons.mpr ⟨xm43_k, List.forall_mem_cons.mpr ⟨xm44_k, List.forall_mem_cons.mpr ⟨xm45_k, List.forall_mem_cons.mpr ⟨xm46_k, List.forall_mem_cons.mpr ⟨xm47_k, List.forall_mem_cons.mpr ⟨xm48_k, List.forall_mem_cons.mpr ⟨xm49_k, List.forall_mem_cons.mpr ⟨xm50_k, List.forall_mem_cons.mpr ⟨xm51_k, List.forall_mem_cons.mpr ⟨xm52_k, List.forall_mem_cons.mpr ⟨xm53_k, List.forall_mem_cons.mpr ⟨xm54_k, List.forall_mem_cons.mpr ⟨xm55_k, List.forall_mem_cons.mpr ⟨xm56_k, List.forall_mem_cons.mpr ⟨xm57_k, List.forall_mem_cons.mpr ⟨xm58_k, List.forall_mem_cons.mpr ⟨xm59_k, List.forall_mem_cons.mpr ⟨xm60_k, List.forall_mem_cons.mpr ⟨xm61_k, List.forall_mem_cons.mpr ⟨xm62_k, List.forall_mem_cons.mpr ⟨xm63_k, List.forall_mem_cons.mpr ⟨xm64_k, List.forall_mem_cons.mpr ⟨xm65_k, List.forall_mem_cons.mpr ⟨xm66_k, List.forall_mem_cons.mpr ⟨xm67_k, List.forall_mem_cons.mpr ⟨xm68_k, List.forall_mem_cons.mpr ⟨xm69_k, List.forall_mem_cons.mpr ⟨xm70_k, List.forall_mem_cons.mpr ⟨xm71_k, List.forall_mem_cons.mpr ⟨xm72_k, List.forall_mem_cons.mpr ⟨xm73_k, List.forall_mem_cons.mpr ⟨xm74_k, List.forall_mem_cons.mpr ⟨xm75_k, List.forall_mem_cons.mpr ⟨xm76_k, List.forall_mem_cons.mpr ⟨xm77_k, List.forall_mem_cons.mpr ⟨xm78_k, List.forall_mem_cons.mpr ⟨xm79_k, List.forall_mem_cons.mpr ⟨xm80_k, List.forall_mem_cons.mpr ⟨xm81_k, List.forall_mem_cons.mpr ⟨xm82_k, List.forall_mem_cons.mpr ⟨xm83_k, List.forall_mem_cons.mpr ⟨xm84_k, List.forall_mem_cons.mpr ⟨xm85_k, List.forall_mem_cons.mpr ⟨xm86_k, List.forall_mem_cons.mpr ⟨xm87_k, List.forall_mem_cons.mpr ⟨xm88_k, List.forall_mem_cons.mpr ⟨xm89_k, List.forall_mem_cons.mpr ⟨xm90_k, List.forall_mem_cons.mpr ⟨xm91_k, List.forall_mem_cons.mpr ⟨xm92_k, List.forall_mem_cons.mpr ⟨xm93_k, List.forall_mem_cons.mpr ⟨xm94_k, List.forall_mem_cons.mpr ⟨xm95_k, List.forall_mem_cons.mpr ⟨xm96_k, List.forall_mem_cons.mpr ⟨xm97_k, List.forall_mem_cons.mpr ⟨xm98_k, List.forall_mem_cons.mpr ⟨xm99_k, List.forall_mem_cons.mpr ⟨xm100_k, List.forall_mem_cons.mpr ⟨xm101_k, List.forall_mem_cons.mpr ⟨xm102_k, List.forall_mem_cons.mpr ⟨xm103_k, List.forall_mem_cons.mpr ⟨xm104_k, List.forall_mem_cons.mpr ⟨xm105_k, List.forall_mem_cons.mpr ⟨xm106_k, List.forall_mem_cons.mpr ⟨xm107_k, List.forall_mem_cons.mpr ⟨xm108_k, List.forall_mem_cons.mpr ⟨xm109_k, List.forall_mem_cons.mpr ⟨xm110_k, List.forall_mem_cons.mpr ⟨xm111_k, List.forall_mem_cons.mpr ⟨xm112_k, List.forall_mem_cons.mpr ⟨xm113_k, List.forall_mem_cons.mpr ⟨xm114_k, List.forall_mem_cons.mpr ⟨xm115_k, List.forall_mem_cons.mpr ⟨xm116_k, List.forall_mem_cons.mpr ⟨xm117_k, List.forall_mem_cons.mpr ⟨xm118_k, List.forall_mem_cons.mpr ⟨xm119_k, List.forall_mem_cons.mpr ⟨xm120_k, List.forall_mem_cons.mpr ⟨xm121_k, List.forall_mem_cons.mpr ⟨xm122_k, List.forall_mem_cons.mpr ⟨xm123_k, List.forall_mem_cons.mpr ⟨xm124_k, List.forall_mem_cons.mpr ⟨xm125_k, List.forall_mem_cons.mpr ⟨xm126_k, List.forall_mem_cons.mpr ⟨xm127_k, List.forall_mem_cons.mpr ⟨xm128_k, List.forall_mem_cons.mpr ⟨xm129_k, List.forall_mem_cons.mpr ⟨xm130_k, List.forall_mem_cons.mpr ⟨xm131_k, List.forall_mem_cons.mpr ⟨xm132_k, List.forall_mem_cons.mpr ⟨xm133_k, List.forall_mem_cons.mpr ⟨xm134_k, List.forall_mem_cons.mpr ⟨xm135_k, List.forall_mem_cons.mpr ⟨xm136_k, List.forall_mem_cons.mpr ⟨xm137_k, List.forall_mem_cons.mpr ⟨xm138_k, List.forall_mem_cons.mpr ⟨xm139_k, List.forall_mem_cons.mpr ⟨xm140_k, List.forall_mem_cons.mpr ⟨xm141_k, fun _ h => absurd h List.not_mem_nil⟩⟩⟩⟩⟩⟩⟩⟩⟩⟩⟩⟩⟩⟩⟩⟩⟩⟩⟩⟩⟩⟩⟩⟩⟩⟩⟩⟩⟩⟩⟩⟩⟩⟩⟩⟩⟩⟩⟩⟩⟩⟩⟩⟩⟩⟩⟩⟩⟩⟩⟩⟩⟩⟩⟩⟩⟩⟩⟩⟩⟩⟩⟩⟩⟩⟩⟩⟩⟩⟩⟩⟩⟩⟩⟩⟩⟩⟩⟩⟩⟩⟩⟩⟩⟩⟩⟩⟩⟩⟩⟩⟩⟩⟩⟩⟩⟩⟩⟩⟩⟩⟩⟩⟩⟩⟩⟩⟩⟩⟩⟩⟩⟩⟩⟩⟩⟩⟩⟩⟩⟩⟩⟩⟩⟩⟩⟩⟩⟩⟩⟩⟩⟩⟩⟩⟩⟩⟩⟩⟩⟩⟩
theorem xlwc_ok : ∀ e ∈ xmC xLaw, xVE xMs xLaw e := by
  show ∀ e ∈ xlwc, xVE xMs xLaw e
  unfold xlwc
  exact List.forall_mem_append.mpr ⟨fun e he => xveB_ok xcode_ok (List.all_eq_true.mp xlw0_a e he), List.forall_mem_append.mpr ⟨fun e he => xveB_ok xcode_ok (List.all_eq_true.mp xlw1_a e he), List.forall_mem_append.mpr ⟨fun e he => xveB_ok xcode_ok (List.all_eq_true.mp xlw2_a e he), List.forall_mem_append.mpr ⟨fun e he => xveB_ok xcode_ok (List.all_eq_true.mp xlw3_a e he), List.forall_mem_append.mpr ⟨fun e he => xveB_ok xcode_ok (List.all_eq_true.mp xlw4_a e he), List.forall_mem_append.mpr ⟨fun e he => xveB_ok xcode_ok (List.all_eq_true.mp xlw5_a e he), fun e he => xveB_ok xcode_ok (List.all_eq_true.mp xlw6_a e he)⟩⟩⟩⟩⟩⟩
end XG
