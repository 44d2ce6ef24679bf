section XU
set_option maxRecDepth 100000 in
theorem xlw6_s0 : ((xlw6.drop (12 * 0)).take 12).all (xveB xMs xLaw) = true := by decide +kernel
set_option maxRecDepth 100000 in
theorem xlw6_s1 : ((xlw6.drop (12 * 1)).take 12).all (xveB xMs xLaw) = true := by decide +kernel
set_option maxRecDepth 100000 in
theorem xlw6_s2 : ((xlw6.drop (12 * 2)).take 12).all (xveB xMs xLaw) = true := by decide +kernel
set_option maxRecDepth 100000 in
theorem xlw6_s3 : ((xlw6.drop (12 * 3)).take 12).all (xveB xMs xLaw) = true := by decide +kernel
theorem xlw6_a : xlw6.all (xveB xMs xLaw) = true := xseg_ok (n := 12) (m := 4) (by decide) (by decide +kernel) (fun k hk => match k, hk with
  | 0, _ => xlw6_s0
  | 1, _ => xlw6_s1
  | 2, _ => xlw6_s2
  | 3, _ => xlw6_s3
  | n + 4, h => absurd h (by omega))
end XU
