section XU
set_option maxRecDepth 100000 in
theorem xlw7_s0 : ((xlw7.drop (12 * 0)).take 12).all (xveB xMs xLaw) = true := by decide +kernel
set_option maxRecDepth 100000 in
theorem xlw7_s1 : ((xlw7.drop (12 * 1)).take 12).all (xveB xMs xLaw) = true := by decide +kernel
set_option maxRecDepth 100000 in
theorem xlw7_s2 : ((xlw7.drop (12 * 2)).take 12).all (xveB xMs xLaw) = true := by decide +kernel
set_option maxRecDepth 100000 in
theorem xlw7_s3 : ((xlw7.drop (12 * 3)).take 12).all (xveB xMs xLaw) = true := by decide +kernel
set_option maxRecDepth 100000 in
theorem xlw7_s4 : ((xlw7.drop (12 * 4)).take 12).all (xveB xMs xLaw) = true := by decide +kernel
theorem xlw7_ok : xlw7.all (xveB xMs xLaw) = true := xseg_ok (n := 12) (m := 5) (by decide) (by decide +kernel) (fun k hk => match k, hk with
  | 0, _ => xlw7_s0
  | 1, _ => xlw7_s1
  | 2, _ => xlw7_s2
  | 3, _ => xlw7_s3
  | 4, _ => xlw7_s4
  | n + 5, h => absurd h (by omega))
set_option maxRecDepth 100000 in
theorem xlw8_s0 : ((xlw8.drop (12 * 0)).take 12).all (xveB xMs xLaw) = true := by decide +kernel
set_option maxRecDepth 100000 in
theorem xlw8_s1 : ((xlw8.drop (12 * 1)).take 12).all (xveB xMs xLaw) = true := by decide +kernel
set_option maxRecDepth 100000 in
theorem xlw8_s2 : ((xlw8.drop (12 * 2)).take 12).all (xveB xMs xLaw) = true := by decide +kernel
set_option maxRecDepth 100000 in
theorem xlw8_s3 : ((xlw8.drop (12 * 3)).take 12).all (xveB xMs xLaw) = true := by decide +kernel
set_option maxRecDepth 100000 in
theorem xlw8_s4 : ((xlw8.drop (12 * 4)).take 12).all (xveB xMs xLaw) = true := by decide +kernel
theorem xlw8_ok : xlw8.all (xveB xMs xLaw) = true := xseg_ok (n := 12) (m := 5) (by decide) (by decide +kernel) (fun k hk => match k, hk with
  | 0, _ => xlw8_s0
  | 1, _ => xlw8_s1
  | 2, _ => xlw8_s2
  | 3, _ => xlw8_s3
  | 4, _ => xlw8_s4
  | n + 5, h => absurd h (by omega))
end XU
