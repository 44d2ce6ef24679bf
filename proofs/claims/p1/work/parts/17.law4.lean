section XU
set_option maxRecDepth 100000 in
theorem xlw15_ok : xlw15.all (xveB xMs xLaw) = true := by decide +kernel
set_option maxRecDepth 100000 in
theorem xlw16_ok : xlw16.all (xveB xMs xLaw) = true := by decide +kernel
end XU
