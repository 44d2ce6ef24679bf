section XU
set_option maxRecDepth 100000 in
theorem xm120_ok : xmokB xMs xcls xclp xm120 = true := by decide +kernel
set_option maxRecDepth 100000 in
theorem xm121_ok : xmokB xMs xcls xclp xm121 = true := by decide +kernel
set_option maxRecDepth 100000 in
theorem xm122_ok : xmokB xMs xcls xclp xm122 = true := by decide +kernel
set_option maxRecDepth 100000 in
theorem xm123_ok : xmokB xMs xcls xclp xm123 = true := by decide +kernel
set_option maxRecDepth 100000 in
theorem xm124_ok : xmokB xMs xcls xclp xm124 = true := by decide +kernel
set_option maxRecDepth 100000 in
theorem xm125_ok : xmokB xMs xcls xclp xm125 = true := by decide +kernel
set_option maxRecDepth 100000 in
theorem xm126_ok : xmokB xMs xcls xclp xm126 = true := by decide +kernel
set_option maxRecDepth 100000 in
theorem xm127_ok : xmokB xMs xcls xclp xm127 = true := by decide +kernel
set_option maxRecDepth 100000 in
theorem xm128_ok : xmokB xMs xcls xclp xm128 = true := by decide +kernel
set_option maxRecDepth 100000 in
theorem xm129_ok : xmokB xMs xcls xclp xm129 = true := by decide +kernel
set_option maxRecDepth 100000 in
theorem xm130_ok : xmokB xMs xcls xclp xm130 = true := by decide +kernel
set_option maxRecDepth 100000 in
theorem xm131_ok : xmokB xMs xcls xclp xm131 = true := by decide +kernel
set_option maxRecDepth 100000 in
theorem xm132_ok : xmokB xMs xcls xclp xm132 = true := by decide +kernel
set_option maxRecDepth 100000 in
theorem xm133_ok : xmokB xMs xcls xclp xm133 = true := by decide +kernel
set_option maxRecDepth 100000 in
theorem xm134_ok : xmokB xMs xcls xclp xm134 = true := by decide +kernel
set_option maxRecDepth 100000 in
theorem xm135_ok : xmokB xMs xcls xclp xm135 = true := by decide +kernel
set_option maxRecDepth 100000 in
theorem xm136_ok : xmokB xMs xcls xclp xm136 = true := by decide +kernel
set_option maxRecDepth 100000 in
theorem xm137_ok : xmokB xMs xcls xclp xm137 = true := by decide +kernel
set_option maxRecDepth 100000 in
theorem xm138_ok : xmokB xMs xcls xclp xm138 = true := by decide +kernel
set_option maxRecDepth 100000 in
theorem xm139_ok : xmokB xMs xcls xclp xm139 = true := by decide +kernel
set_option maxRecDepth 100000 in
theorem xm140_ok : xmokB xMs xcls xclp xm140 = true := by decide +kernel
set_option maxRecDepth 100000 in
theorem xm141_ok : xmokB xMs xcls xclp xm141 = true := by decide +kernel
set_option maxRecDepth 100000 in
theorem xm142_ok : xmokB xMs xcls xclp xm142 = true := by decide +kernel
set_option maxRecDepth 100000 in
theorem xm143_ok : xmokB xMs xcls xclp xm143 = true := by decide +kernel
set_option maxRecDepth 100000 in
theorem xm144_ok : xmokB xMs xcls xclp xm144 = true := by decide +kernel
set_option maxRecDepth 100000 in
theorem xm145_ok : xmokB xMs xcls xclp xm145 = true := by decide +kernel
set_option maxRecDepth 100000 in
theorem xm146_ok : xmokB xMs xcls xclp xm146 = true := by decide +kernel
set_option maxRecDepth 100000 in
theorem xm147_ok : xmokB xMs xcls xclp xm147 = true := by decide +kernel
set_option maxRecDepth 100000 in
theorem xm148_ok : xmokB xMs xcls xclp xm148 = true := by decide +kernel
set_option maxRecDepth 100000 in
theorem xm149_ok : xmokB xMs xcls xclp xm149 = true := by decide +kernel
set_option maxRecDepth 100000 in
theorem xm150_ok : xmokB xMs xcls xclp xm150 = true := by decide +kernel
set_option maxRecDepth 100000 in
theorem xm151_ok : xmokB xMs xcls xclp xm151 = true := by decide +kernel
set_option maxRecDepth 100000 in
theorem xm152_ok : xmokB xMs xcls xclp xm152 = true := by decide +kernel
set_option maxRecDepth 100000 in
theorem xm153_ok : xmokB xMs xcls xclp xm153 = true := by decide +kernel
set_option maxRecDepth 100000 in
theorem xm154_ok : xmokB xMs xcls xclp xm154 = true := by decide +kernel
set_option maxRecDepth 100000 in
theorem xm155_ok : xmokB xMs xcls xclp xm155 = true := by decide +kernel
set_option maxRecDepth 100000 in
theorem xm156_ok : xmokB xMs xcls xclp xm156 = true := by decide +kernel
set_option maxRecDepth 100000 in
theorem xm157_ok : xmokB xMs xcls xclp xm157 = true := by decide +kernel
set_option maxRecDepth 100000 in
theorem xm158_ok : xmokB xMs xcls xclp xm158 = true := by decide +kernel
set_option maxRecDepth 100000 in
theorem xm159_ok : xmokB xMs xcls xclp xm159 = true := by decide +kernel
set_option maxRecDepth 100000 in
theorem xm160_ok : xmokB xMs xcls xclp xm160 = true := by decide +kernel
set_option maxRecDepth 100000 in
theorem xm161_ok : xmokB xMs xcls xclp xm161 = true := by decide +kernel
set_option maxRecDepth 100000 in
theorem xm162_ok : xmokB xMs xcls xclp xm162 = true := by decide +kernel
set_option maxRecDepth 100000 in
theorem xm163_ok : xmokB xMs xcls xclp xm163 = true := by decide +kernel
set_option maxRecDepth 100000 in
theorem xm164_ok : xmokB xMs xcls xclp xm164 = true := by decide +kernel
set_option maxRecDepth 100000 in
theorem xm165_ok : xmokB xMs xcls xclp xm165 = true := by decide +kernel
set_option maxRecDepth 100000 in
theorem xm166_ok : xmokB xMs xcls xclp xm166 = true := by decide +kernel
set_option maxRecDepth 100000 in
theorem xm167_ok : xmokB xMs xcls xclp xm167 = true := by decide +kernel
set_option maxRecDepth 100000 in
theorem xm168_ok : xmokB xMs xcls xclp xm168 = true := by decide +kernel
set_option maxRecDepth 100000 in
theorem xm169_ok : xmokB xMs xcls xclp xm169 = true := by decide +kernel
set_option maxRecDepth 100000 in
theorem xm170_ok : xmokB xMs xcls xclp xm170 = true := by decide +kernel
set_option maxRecDepth 100000 in
theorem xm171_ok : xmokB xMs xcls xclp xm171 = true := by decide +kernel
set_option maxRecDepth 100000 in
theorem xm172_ok : xmokB xMs xcls xclp xm172 = true := by decide +kernel
set_option maxRecDepth 100000 in
theorem xm173_ok : xmokB xMs xcls xclp xm173 = true := by decide +kernel
set_option maxRecDepth 100000 in
theorem xm174_ok : xmokB xMs xcls xclp xm174 = true := by decide +kernel
set_option maxRecDepth 100000 in
theorem xm175_ok : xmokB xMs xcls xclp xm175 = true := by decide +kernel
set_option maxRecDepth 100000 in
theorem xm176_ok : xmokB xMs xcls xclp xm176 = true := by decide +kernel
set_option maxRecDepth 100000 in
theorem xm177_ok : xmokB xMs xcls xclp xm177 = true := by decide +kernel
end XU
