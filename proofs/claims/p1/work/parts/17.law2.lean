section XU
set_option maxRecDepth 100000 in
theorem xlw11_ok : xlw11.all (xveB xMs xLaw) = true := by decide +kernel
set_option maxRecDepth 100000 in
theorem xlw12_ok : xlw12.all (xveB xMs xLaw) = true := by decide +kernel
end XU
