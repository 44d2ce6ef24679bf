section XU
set_option maxRecDepth 100000 in
theorem xlw4_s0 : ((xlw4.drop (12 * 0)).take 12).all (xveB xMs xLaw) = true := by decide +kernel
set_option maxRecDepth 100000 in
theorem xlw4_s1 : ((xlw4.drop (12 * 1)).take 12).all (xveB xMs xLaw) = true := by decide +kernel
set_option maxRecDepth 100000 in
theorem xlw4_s2 : ((xlw4.drop (12 * 2)).take 12).all (xveB xMs xLaw) = true := by decide +kernel
set_option maxRecDepth 100000 in
theorem xlw4_s3 : ((xlw4.drop (12 * 3)).take 12).all (xveB xMs xLaw) = true := by decide +kernel
set_option maxRecDepth 100000 in
theorem xlw4_s4 : ((xlw4.drop (12 * 4)).take 12).all (xveB xMs xLaw) = true := by decide +kernel
theorem xlw4_a : xlw4.all (xveB xMs xLaw) = true := xseg_ok (n := 12) (m := 5) (by decide) (by decide +kernel) (fun k hk => match k, hk with
  | 0, _ => xlw4_s0
  | 1, _ => xlw4_s1
  | 2, _ => xlw4_s2
  | 3, _ => xlw4_s3
  | 4, _ => xlw4_s4
  | n + 5, h => absurd h (by omega))
end XU
