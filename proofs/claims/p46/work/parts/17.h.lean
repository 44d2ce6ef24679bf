section XU
set_option maxRecDepth 100000 in
theorem xlw0_s0 : ((xlw0.drop (12 * 0)).take 12).all (xveB xMs xLaw) = true := by decide +kernel
set_option maxRecDepth 100000 in
theorem xlw0_s1 : ((xlw0.drop (12 * 1)).take 12).all (xveB xMs xLaw) = true := by decide +kernel
set_option maxRecDepth 100000 in
theorem xlw0_s2 : ((xlw0.drop (12 * 2)).take 12).all (xveB xMs xLaw) = true := by decide +kernel
set_option maxRecDepth 100000 in
theorem xlw0_s3 : ((xlw0.drop (12 * 3)).take 12).all (xveB xMs xLaw) = true := by decide +kernel
set_option maxRecDepth 100000 in
theorem xlw0_s4 : ((xlw0.drop (12 * 4)).take 12).all (xveB xMs xLaw) = true := by decide +kernel
theorem xlw0_a : xlw0.all (xveB xMs xLaw) = true := xseg_ok (n := 12) (m := 5) (by decide) (by decide +kernel) (fun k hk => match k, hk with
  | 0, _ => xlw0_s0
  | 1, _ => xlw0_s1
  | 2, _ => xlw0_s2
  | 3, _ => xlw0_s3
  | 4, _ => xlw0_s4
  | n + 5, h => absurd h (by omega))
end XU
