section XU
set_option maxRecDepth 100000 in
theorem xlw2_s0 : ((xlw2.drop (12 * 0)).take 12).all (xveB xMs xLaw) = true := by decide +kernel
set_option maxRecDepth 100000 in
theorem xlw2_s1 : ((xlw2.drop (12 * 1)).take 12).all (xveB xMs xLaw) = true := by decide +kernel
set_option maxRecDepth 100000 in
theorem xlw2_s2 : ((xlw2.drop (12 * 2)).take 12).all (xveB xMs xLaw) = true := by decide +kernel
set_option maxRecDepth 100000 in
theorem xlw2_s3 : ((xlw2.drop (12 * 3)).take 12).all (xveB xMs xLaw) = true := by decide +kernel
set_option maxRecDepth 100000 in
theorem xlw2_s4 : ((xlw2.drop (12 * 4)).take 12).all (xveB xMs xLaw) = true := by decide +kernel
theorem xlw2_a : xlw2.all (xveB xMs xLaw) = true := xseg_ok (n := 12) (m := 5) (by decide) (by decide +kernel) (fun k hk => match k, hk with
  | 0, _ => xlw2_s0
  | 1, _ => xlw2_s1
  | 2, _ => xlw2_s2
  | 3, _ => xlw2_s3
  | 4, _ => xlw2_s4
  | n + 5, h => absurd h (by omega))
end XU
