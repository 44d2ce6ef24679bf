section XU
set_option maxRecDepth 100000 in
theorem xlw9_s0 : ((xlw9.drop (12 * 0)).take 12).all (xveB xMs xLaw) = true := by decide +kernel
set_option maxRecDepth 100000 in
theorem xlw9_s1 : ((xlw9.drop (12 * 1)).take 12).all (xveB xMs xLaw) = true := by decide +kernel
set_option maxRecDepth 100000 in
theorem xlw9_s2 : ((xlw9.drop (12 * 2)).take 12).all (xveB xMs xLaw) = true := by decide +kernel
set_option maxRecDepth 100000 in
theorem xlw9_s3 : ((xlw9.drop (12 * 3)).take 12).all (xveB xMs xLaw) = true := by decide +kernel
set_option maxRecDepth 100000 in
theorem xlw9_s4 : ((xlw9.drop (12 * 4)).take 12).all (xveB xMs xLaw) = true := by decide +kernel
theorem xlw9_ok : xlw9.all (xveB xMs xLaw) = true := xseg_ok (n := 12) (m := 5) (by decide) (by decide +kernel) (fun k hk => match k, hk with
  | 0, _ => xlw9_s0
  | 1, _ => xlw9_s1
  | 2, _ => xlw9_s2
  | 3, _ => xlw9_s3
  | 4, _ => xlw9_s4
  | n + 5, h => absurd h (by omega))
set_option maxRecDepth 100000 in
theorem xlw10_s0 : ((xlw10.drop (12 * 0)).take 12).all (xveB xMs xLaw) = true := by decide +kernel
set_option maxRecDepth 100000 in
theorem xlw10_s1 : ((xlw10.drop (12 * 1)).take 12).all (xveB xMs xLaw) = true := by decide +kernel
set_option maxRecDepth 100000 in
theorem xlw10_s2 : ((xlw10.drop (12 * 2)).take 12).all (xveB xMs xLaw) = true := by decide +kernel
set_option maxRecDepth 100000 in
theorem xlw10_s3 : ((xlw10.drop (12 * 3)).take 12).all (xveB xMs xLaw) = true := by decide +kernel
set_option maxRecDepth 100000 in
theorem xlw10_s4 : ((xlw10.drop (12 * 4)).take 12).all (xveB xMs xLaw) = true := by decide +kernel
theorem xlw10_ok : xlw10.all (xveB xMs xLaw) = true := xseg_ok (n := 12) (m := 5) (by decide) (by decide +kernel) (fun k hk => match k, hk with
  | 0, _ => xlw10_s0
  | 1, _ => xlw10_s1
  | 2, _ => xlw10_s2
  | 3, _ => xlw10_s3
  | 4, _ => xlw10_s4
  | n + 5, h => absurd h (by omega))
end XU
