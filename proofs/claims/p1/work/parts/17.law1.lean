section XU
set_option maxRecDepth 100000 in
theorem xlw9_ok : xlw9.all (xveB xMs xLaw) = true := by decide +kernel
set_option maxRecDepth 100000 in
theorem xlw10_ok : xlw10.all (xveB xMs xLaw) = true := by decide +kernel
end XU
