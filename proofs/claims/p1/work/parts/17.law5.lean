section XU
set_option maxRecDepth 100000 in
theorem xlw17_ok : xlw17.all (xveB xMs xLaw) = true := by decide +kernel
end XU
