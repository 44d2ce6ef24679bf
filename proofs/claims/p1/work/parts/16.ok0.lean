section XU
set_option maxRecDepth 100000 in
theorem xm0_ok : xmokB xMs xcls xclp xm0 = true := by decide +kernel
set_option maxRecDepth 100000 in
theorem xm1_ok : xmokB xMs xcls xclp xm1 = true := by decide +kernel
set_option maxRecDepth 100000 in
theorem xm2_ok : xmokB xMs xcls xclp xm2 = true := by decide +kernel
set_option maxRecDepth 100000 in
theorem xm3_ok : xmokB xMs xcls xclp xm3 = true := by decide +kernel
set_option maxRecDepth 100000 in
theorem xm4_ok : xmokB xMs xcls xclp xm4 = true := by decide +kernel
set_option maxRecDepth 100000 in
theorem xm5_ok : xmokB xMs xcls xclp xm5 = true := by decide +kernel
set_option maxRecDepth 100000 in
theorem xm6_ok : xmokB xMs xcls xclp xm6 = true := by decide +kernel
set_option maxRecDepth 100000 in
theorem xm7_ok : xmokB xMs xcls xclp xm7 = true := by decide +kernel
set_option maxRecDepth 100000 in
theorem xm8_ok : xmokB xMs xcls xclp xm8 = true := by decide +kernel
set_option maxRecDepth 100000 in
theorem xm9_ok : xmokB xMs xcls xclp xm9 = true := by decide +kernel
set_option maxRecDepth 100000 in
theorem xm10_ok : xmokB xMs xcls xclp xm10 = true := by decide +kernel
set_option maxRecDepth 100000 in
theorem xm11_ok : xmokB xMs xcls xclp xm11 = true := by decide +kernel
set_option maxRecDepth 100000 in
theorem xm12_ok : xmokB xMs xcls xclp xm12 = true := by decide +kernel
set_option maxRecDepth 100000 in
theorem xm13_ok : xmokB xMs xcls xclp xm13 = true := by decide +kernel
set_option maxRecDepth 100000 in
theorem xm14_ok : xmokB xMs xcls xclp xm14 = true := by decide +kernel
set_option maxRecDepth 100000 in
theorem xm15_ok : xmokB xMs xcls xclp xm15 = true := by decide +kernel
set_option maxRecDepth 100000 in
theorem xm16_ok : xmokB xMs xcls xclp xm16 = true := by decide +kernel
set_option maxRecDepth 100000 in
theorem xm17_ok : xmokB xMs xcls xclp xm17 = true := by decide +kernel
set_option maxRecDepth 100000 in
theorem xm18_ok : xmokB xMs xcls xclp xm18 = true := by decide +kernel
set_option maxRecDepth 100000 in
theorem xm19_ok : xmokB xMs xcls xclp xm19 = true := by decide +kernel
set_option maxRecDepth 100000 in
theorem xm20_ok : xmokB xMs xcls xclp xm20 = true := by decide +kernel
set_option maxRecDepth 100000 in
theorem xm21_ok : xmokB xMs xcls xclp xm21 = true := by decide +kernel
set_option maxRecDepth 100000 in
theorem xm22_ok : xmokB xMs xcls xclp xm22 = true := by decide +kernel
set_option maxRecDepth 100000 in
theorem xm23_ok : xmokB xMs xcls xclp xm23 = true := by decide +kernel
set_option maxRecDepth 100000 in
theorem xm24_ok : xmokB xMs xcls xclp xm24 = true := by decide +kernel
set_option maxRecDepth 100000 in
theorem xm25_ok : xmokB xMs xcls xclp xm25 = true := by decide +kernel
set_option maxRecDepth 100000 in
theorem xm26_ok : xmokB xMs xcls xclp xm26 = true := by decide +kernel
set_option maxRecDepth 100000 in
theorem xm27_ok : xmokB xMs xcls xclp xm27 = true := by decide +kernel
set_option maxRecDepth 100000 in
theorem xm28_ok : xmokB xMs xcls xclp xm28 = true := by decide +kernel
set_option maxRecDepth 100000 in
theorem xm29_ok : xmokB xMs xcls xclp xm29 = true := by decide +kernel
set_option maxRecDepth 100000 in
theorem xm30_ok : xmokB xMs xcls xclp xm30 = true := by decide +kernel
set_option maxRecDepth 100000 in
theorem xm31_ok : xmokB xMs xcls xclp xm31 = true := by decide +kernel
set_option maxRecDepth 100000 in
theorem xm32_ok : xmokB xMs xcls xclp xm32 = true := by decide +kernel
set_option maxRecDepth 100000 in
theorem xm33_ok : xmokB xMs xcls xclp xm33 = true := by decide +kernel
set_option maxRecDepth 100000 in
theorem xm34_ok : xmokB xMs xcls xclp xm34 = true := by decide +kernel
set_option maxRecDepth 100000 in
theorem xm35_ok : xmokB xMs xcls xclp xm35 = true := by decide +kernel
set_option maxRecDepth 100000 in
theorem xm36_ok : xmokB xMs xcls xclp xm36 = true := by decide +kernel
set_option maxRecDepth 100000 in
theorem xm37_ok : xmokB xMs xcls xclp xm37 = true := by decide +kernel
set_option maxRecDepth 100000 in
theorem xm38_ok : xmokB xMs xcls xclp xm38 = true := by decide +kernel
set_option maxRecDepth 100000 in
theorem xm39_ok : xmokB xMs xcls xclp xm39 = true := by decide +kernel
set_option maxRecDepth 100000 in
theorem xm40_ok : xmokB xMs xcls xclp xm40 = true := by decide +kernel
set_option maxRecDepth 100000 in
theorem xm41_ok : xmokB xMs xcls xclp xm41 = true := by decide +kernel
set_option maxRecDepth 100000 in
theorem xm42_ok : xmokB xMs xcls xclp xm42 = true := by decide +kernel
set_option maxRecDepth 100000 in
theorem xm43_ok : xmokB xMs xcls xclp xm43 = true := by decide +kernel
set_option maxRecDepth 100000 in
theorem xm44_ok : xmokB xMs xcls xclp xm44 = true := by decide +kernel
set_option maxRecDepth 100000 in
theorem xm45_ok : xmokB xMs xcls xclp xm45 = true := by decide +kernel
set_option maxRecDepth 100000 in
theorem xm46_ok : xmokB xMs xcls xclp xm46 = true := by decide +kernel
set_option maxRecDepth 100000 in
theorem xm47_ok : xmokB xMs xcls xclp xm47 = true := by decide +kernel
set_option maxRecDepth 100000 in
theorem xm48_ok : xmokB xMs xcls xclp xm48 = true := by decide +kernel
set_option maxRecDepth 100000 in
theorem xm49_ok : xmokB xMs xcls xclp xm49 = true := by decide +kernel
set_option maxRecDepth 100000 in
theorem xm50_ok : xmokB xMs xcls xclp xm50 = true := by decide +kernel
set_option maxRecDepth 100000 in
theorem xm51_ok : xmokB xMs xcls xclp xm51 = true := by decide +kernel
set_option maxRecDepth 100000 in
theorem xm52_ok : xmokB xMs xcls xclp xm52 = true := by decide +kernel
set_option maxRecDepth 100000 in
theorem xm53_ok : xmokB xMs xcls xclp xm53 = true := by decide +kernel
set_option maxRecDepth 100000 in
theorem xm54_ok : xmokB xMs xcls xclp xm54 = true := by decide +kernel
set_option maxRecDepth 100000 in
theorem xm55_ok : xmokB xMs xcls xclp xm55 = true := by decide +kernel
set_option maxRecDepth 100000 in
theorem xm56_ok : xmokB xMs xcls xclp xm56 = true := by decide +kernel
set_option maxRecDepth 100000 in
theorem xm57_ok : xmokB xMs xcls xclp xm57 = true := by decide +kernel
set_option maxRecDepth 100000 in
theorem xm58_ok : xmokB xMs xcls xclp xm58 = true := by decide +kernel
set_option maxRecDepth 100000 in
theorem xm59_ok : xmokB xMs xcls xclp xm59 = true := by decide +kernel
end XU
