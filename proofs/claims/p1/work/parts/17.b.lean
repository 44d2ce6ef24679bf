section XU
set_option maxRecDepth 100000 in
theorem xlw4_s0 : ((xlw4.drop (12 * 0)).take 12).all (xveB xMs xLaw) = true := by decide +kernel
set_option maxRecDepth 100000 in
theorem xlw4_s1 : ((xlw4.drop (12 * 1)).take 12).all (xveB xMs xLaw) = true := by decide +kernel
set_option maxRecDepth 100000 in
theorem xlw4_s2 : ((xlw4.drop (12 * 2)).take 12).all (xveB xMs xLaw) = true := by decide +kernel
set_option maxRecDepth 100000 in
theorem xlw4_s3 : ((xlw4.drop (12 * 3)).take 12).all (xveB xMs xLaw) = true := by decide +kernel
set_option maxRecDepth 100000 in
theorem xlw4_s4 : ((xlw4.drop (12 * 4)).take 12).all (xveB xMs xLaw) = true := by decide +kernel
theorem xlw4_ok : xlw4.all (xveB xMs xLaw) = true := xseg_ok (n := 12) (m := 5) (by decide) (by decide +kernel) (fun k hk => match k, hk with
  | 0, _ => xlw4_s0
  | 1, _ => xlw4_s1
  | 2, _ => xlw4_s2
  | 3, _ => xlw4_s3
  | 4, _ => xlw4_s4
  | n + 5, h => absurd h (by omega))
set_option maxRecDepth 100000 in
theorem xlw5_s0 : ((xlw5.drop (12 * 0)).take 12).all (xveB xMs xLaw) = true := by decide +kernel
set_option maxRecDepth 100000 in
theorem xlw5_s1 : ((xlw5.drop (12 * 1)).take 12).all (xveB xMs xLaw) = true := by decide +kernel
set_option maxRecDepth 100000 in
theorem xlw5_s2 : ((xlw5.drop (12 * 2)).take 12).all (xveB xMs xLaw) = true := by decide +kernel
set_option maxRecDepth 100000 in
theorem xlw5_s3 : ((xlw5.drop (12 * 3)).take 12).all (xveB xMs xLaw) = true := by decide +kernel
set_option maxRecDepth 100000 in
theorem xlw5_s4 : ((xlw5.drop (12 * 4)).take 12).all (xveB xMs xLaw) = true := by decide +kernel
theorem xlw5_ok : xlw5.all (xveB xMs xLaw) = true := xseg_ok (n := 12) (m := 5) (by decide) (by decide +kernel) (fun k hk => match k, hk with
  | 0, _ => xlw5_s0
  | 1, _ => xlw5_s1
  | 2, _ => xlw5_s2
  | 3, _ => xlw5_s3
  | 4, _ => xlw5_s4
  | n + 5, h => absurd h (by omega))
set_option maxRecDepth 100000 in
theorem xlw6_s0 : ((xlw6.drop (12 * 0)).take 12).all (xveB xMs xLaw) = true := by decide +kernel
set_option maxRecDepth 100000 in
theorem xlw6_s1 : ((xlw6.drop (12 * 1)).take 12).all (xveB xMs xLaw) = true := by decide +kernel
set_option maxRecDepth 100000 in
theorem xlw6_s2 : ((xlw6.drop (12 * 2)).take 12).all (xveB xMs xLaw) = true := by decide +kernel
set_option maxRecDepth 100000 in
theorem xlw6_s3 : ((xlw6.drop (12 * 3)).take 12).all (xveB xMs xLaw) = true := by decide +kernel
set_option maxRecDepth 100000 in
theorem xlw6_s4 : ((xlw6.drop (12 * 4)).take 12).all (xveB xMs xLaw) = true := by decide +kernel
theorem xlw6_ok : xlw6.all (xveB xMs xLaw) = true := xseg_ok (n := 12) (m := 5) (by decide) (by decide +kernel) (fun k hk => match k, hk with
  | 0, _ => xlw6_s0
  | 1, _ => xlw6_s1
  | 2, _ => xlw6_s2
  | 3, _ => xlw6_s3
  | 4, _ => xlw6_s4
  | n + 5, h => absurd h (by omega))
end XU
