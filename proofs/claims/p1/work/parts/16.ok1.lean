section XU
set_option maxRecDepth 100000 in
theorem xm60_ok : xmokB xMs xcls xclp xm60 = true := by decide +kernel
set_option maxRecDepth 100000 in
theorem xm61_ok : xmokB xMs xcls xclp xm61 = true := by decide +kernel
set_option maxRecDepth 100000 in
theorem xm62_ok : xmokB xMs xcls xclp xm62 = true := by decide +kernel
set_option maxRecDepth 100000 in
theorem xm63_ok : xmokB xMs xcls xclp xm63 = true := by decide +kernel
set_option maxRecDepth 100000 in
theorem xm64_ok : xmokB xMs xcls xclp xm64 = true := by decide +kernel
set_option maxRecDepth 100000 in
theorem xm65_ok : xmokB xMs xcls xclp xm65 = true := by decide +kernel
set_option maxRecDepth 100000 in
theorem xm66_ok : xmokB xMs xcls xclp xm66 = true := by decide +kernel
set_option maxRecDepth 100000 in
theorem xm67_ok : xmokB xMs xcls xclp xm67 = true := by decide +kernel
set_option maxRecDepth 100000 in
theorem xm68_ok : xmokB xMs xcls xclp xm68 = true := by decide +kernel
set_option maxRecDepth 100000 in
theorem xm69_ok : xmokB xMs xcls xclp xm69 = true := by decide +kernel
set_option maxRecDepth 100000 in
theorem xm70_ok : xmokB xMs xcls xclp xm70 = true := by decide +kernel
set_option maxRecDepth 100000 in
theorem xm71_ok : xmokB xMs xcls xclp xm71 = true := by decide +kernel
set_option maxRecDepth 100000 in
theorem xm72_ok : xmokB xMs xcls xclp xm72 = true := by decide +kernel
set_option maxRecDepth 100000 in
theorem xm73_ok : xmokB xMs xcls xclp xm73 = true := by decide +kernel
set_option maxRecDepth 100000 in
theorem xm74_ok : xmokB xMs xcls xclp xm74 = true := by decide +kernel
set_option maxRecDepth 100000 in
theorem xm75_ok : xmokB xMs xcls xclp xm75 = true := by decide +kernel
set_option maxRecDepth 100000 in
theorem xm76_ok : xmokB xMs xcls xclp xm76 = true := by decide +kernel
set_option maxRecDepth 100000 in
theorem xm77_ok : xmokB xMs xcls xclp xm77 = true := by decide +kernel
set_option maxRecDepth 100000 in
theorem xm78_ok : xmokB xMs xcls xclp xm78 = true := by decide +kernel
set_option maxRecDepth 100000 in
theorem xm79_ok : xmokB xMs xcls xclp xm79 = true := by decide +kernel
set_option maxRecDepth 100000 in
theorem xm80_ok : xmokB xMs xcls xclp xm80 = true := by decide +kernel
set_option maxRecDepth 100000 in
theorem xm81_ok : xmokB xMs xcls xclp xm81 = true := by decide +kernel
set_option maxRecDepth 100000 in
theorem xm82_ok : xmokB xMs xcls xclp xm82 = true := by decide +kernel
set_option maxRecDepth 100000 in
theorem xm83_ok : xmokB xMs xcls xclp xm83 = true := by decide +kernel
set_option maxRecDepth 100000 in
theorem xm84_ok : xmokB xMs xcls xclp xm84 = true := by decide +kernel
set_option maxRecDepth 100000 in
theorem xm85_ok : xmokB xMs xcls xclp xm85 = true := by decide +kernel
set_option maxRecDepth 100000 in
theorem xm86_ok : xmokB xMs xcls xclp xm86 = true := by decide +kernel
set_option maxRecDepth 100000 in
theorem xm87_ok : xmokB xMs xcls xclp xm87 = true := by decide +kernel
set_option maxRecDepth 100000 in
theorem xm88_ok : xmokB xMs xcls xclp xm88 = true := by decide +kernel
set_option maxRecDepth 100000 in
theorem xm89_ok : xmokB xMs xcls xclp xm89 = true := by decide +kernel
set_option maxRecDepth 100000 in
theorem xm90_ok : xmokB xMs xcls xclp xm90 = true := by decide +kernel
set_option maxRecDepth 100000 in
theorem xm91_ok : xmokB xMs xcls xclp xm91 = true := by decide +kernel
set_option maxRecDepth 100000 in
theorem xm92_ok : xmokB xMs xcls xclp xm92 = true := by decide +kernel
set_option maxRecDepth 100000 in
theorem xm93_ok : xmokB xMs xcls xclp xm93 = true := by decide +kernel
set_option maxRecDepth 100000 in
theorem xm94_ok : xmokB xMs xcls xclp xm94 = true := by decide +kernel
set_option maxRecDepth 100000 in
theorem xm95_ok : xmokB xMs xcls xclp xm95 = true := by decide +kernel
set_option maxRecDepth 100000 in
theorem xm96_ok : xmokB xMs xcls xclp xm96 = true := by decide +kernel
set_option maxRecDepth 100000 in
theorem xm97_ok : xmokB xMs xcls xclp xm97 = true := by decide +kernel
set_option maxRecDepth 100000 in
theorem xm98_ok : xmokB xMs xcls xclp xm98 = true := by decide +kernel
set_option maxRecDepth 100000 in
theorem xm99_ok : xmokB xMs xcls xclp xm99 = true := by decide +kernel
set_option maxRecDepth 100000 in
theorem xm100_ok : xmokB xMs xcls xclp xm100 = true := by decide +kernel
set_option maxRecDepth 100000 in
theorem xm101_ok : xmokB xMs xcls xclp xm101 = true := by decide +kernel
set_option maxRecDepth 100000 in
theorem xm102_ok : xmokB xMs xcls xclp xm102 = true := by decide +kernel
set_option maxRecDepth 100000 in
theorem xm103_ok : xmokB xMs xcls xclp xm103 = true := by decide +kernel
set_option maxRecDepth 100000 in
theorem xm104_ok : xmokB xMs xcls xclp xm104 = true := by decide +kernel
set_option maxRecDepth 100000 in
theorem xm105_ok : xmokB xMs xcls xclp xm105 = true := by decide +kernel
set_option maxRecDepth 100000 in
theorem xm106_ok : xmokB xMs xcls xclp xm106 = true := by decide +kernel
set_option maxRecDepth 100000 in
theorem xm107_ok : xmokB xMs xcls xclp xm107 = true := by decide +kernel
set_option maxRecDepth 100000 in
theorem xm108_ok : xmokB xMs xcls xclp xm108 = true := by decide +kernel
set_option maxRecDepth 100000 in
theorem xm109_ok : xmokB xMs xcls xclp xm109 = true := by decide +kernel
set_option maxRecDepth 100000 in
theorem xm110_ok : xmokB xMs xcls xclp xm110 = true := by decide +kernel
set_option maxRecDepth 100000 in
theorem xm111_ok : xmokB xMs xcls xclp xm111 = true := by decide +kernel
set_option maxRecDepth 100000 in
theorem xm112_ok : xmokB xMs xcls xclp xm112 = true := by decide +kernel
set_option maxRecDepth 100000 in
theorem xm113_ok : xmokB xMs xcls xclp xm113 = true := by decide +kernel
set_option maxRecDepth 100000 in
theorem xm114_ok : xmokB xMs xcls xclp xm114 = true := by decide +kernel
set_option maxRecDepth 100000 in
theorem xm115_ok : xmokB xMs xcls xclp xm115 = true := by decide +kernel
set_option maxRecDepth 100000 in
theorem xm116_ok : xmokB xMs xcls xclp xm116 = true := by decide +kernel
set_option maxRecDepth 100000 in
theorem xm117_ok : xmokB xMs xcls xclp xm117 = true := by decide +kernel
set_option maxRecDepth 100000 in
theorem xm118_ok : xmokB xMs xcls xclp xm118 = true := by decide +kernel
set_option maxRecDepth 100000 in
theorem xm119_ok : xmokB xMs xcls xclp xm119 = true := by decide +kernel
end XU
