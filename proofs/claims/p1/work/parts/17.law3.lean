section XU
set_option maxRecDepth 100000 in
theorem xlw13_ok : xlw13.all (xveB xMs xLaw) = true := by decide +kernel
set_option maxRecDepth 100000 in
theorem xlw14_ok : xlw14.all (xveB xMs xLaw) = true := by decide +kernel
end XU
