section XU
set_option maxRecDepth 100000 in
theorem xm133_s0 : ((xm133c.drop (12 * 0)).take 12).all (xveB xMs xm133) = true := by decide +kernel
set_option maxRecDepth 100000 in
theorem xm133_s1 : ((xm133c.drop (12 * 1)).take 12).all (xveB xMs xm133) = true := by decide +kernel
set_option maxRecDepth 100000 in
theorem xm133_s2 : ((xm133c.drop (12 * 2)).take 12).all (xveB xMs xm133) = true := by decide +kernel
set_option maxRecDepth 100000 in
theorem xm133_s3 : ((xm133c.drop (12 * 3)).take 12).all (xveB xMs xm133) = true := by decide +kernel
set_option maxRecDepth 100000 in
theorem xm133_s4 : ((xm133c.drop (12 * 4)).take 12).all (xveB xMs xm133) = true := by decide +kernel
set_option maxRecDepth 100000 in
theorem xm133_s5 : ((xm133c.drop (12 * 5)).take 12).all (xveB xMs xm133) = true := by decide +kernel
set_option maxRecDepth 100000 in
theorem xm133_s6 : ((xm133c.drop (12 * 6)).take 12).all (xveB xMs xm133) = true := by decide +kernel
set_option maxRecDepth 100000 in
theorem xm133_s7 : ((xm133c.drop (12 * 7)).take 12).all (xveB xMs xm133) = true := by decide +kernel
set_option maxRecDepth 100000 in
theorem xm133_s8 : ((xm133c.drop (12 * 8)).take 12).all (xveB xMs xm133) = true := by decide +kernel
set_option maxRecDepth 100000 in
theorem xm133_s9 : ((xm133c.drop (12 * 9)).take 12).all (xveB xMs xm133) = true := by decide +kernel
set_option maxRecDepth 100000 in
theorem xm133_s10 : ((xm133c.drop (12 * 10)).take 12).all (xveB xMs xm133) = true := by decide +kernel
set_option maxRecDepth 100000 in
theorem xm133_s11 : ((xm133c.drop (12 * 11)).take 12).all (xveB xMs xm133) = true := by decide +kernel
set_option maxRecDepth 100000 in
theorem xm133_s12 : ((xm133c.drop (12 * 12)).take 12).all (xveB xMs xm133) = true := by decide +kernel
set_option maxRecDepth 100000 in
theorem xm133_s13 : ((xm133c.drop (12 * 13)).take 12).all (xveB xMs xm133) = true := by decide +kernel
set_option maxRecDepth 100000 in
theorem xm133_s14 : ((xm133c.drop (12 * 14)).take 12).all (xveB xMs xm133) = true := by decide +kernel
set_option maxRecDepth 100000 in
theorem xm133_s15 : ((xm133c.drop (12 * 15)).take 12).all (xveB xMs xm133) = true := by decide +kernel
set_option maxRecDepth 100000 in
theorem xm133_s16 : ((xm133c.drop (12 * 16)).take 12).all (xveB xMs xm133) = true := by decide +kernel
set_option maxRecDepth 100000 in
theorem xm133_s17 : ((xm133c.drop (12 * 17)).take 12).all (xveB xMs xm133) = true := by decide +kernel
set_option maxRecDepth 100000 in
theorem xm133_s18 : ((xm133c.drop (12 * 18)).take 12).all (xveB xMs xm133) = true := by decide +kernel
set_option maxRecDepth 100000 in
theorem xm133_s19 : ((xm133c.drop (12 * 19)).take 12).all (xveB xMs xm133) = true := by decide +kernel
set_option maxRecDepth 100000 in
theorem xm133_s20 : ((xm133c.drop (12 * 20)).take 12).all (xveB xMs xm133) = true := by decide +kernel
set_option maxRecDepth 100000 in
theorem xm133_s21 : ((xm133c.drop (12 * 21)).take 12).all (xveB xMs xm133) = true := by decide +kernel
set_option maxRecDepth 100000 in
theorem xm133_s22 : ((xm133c.drop (12 * 22)).take 12).all (xveB xMs xm133) = true := by decide +kernel
set_option maxRecDepth 100000 in
theorem xm133_s23 : ((xm133c.drop (12 * 23)).take 12).all (xveB xMs xm133) = true := by decide +kernel
theorem xm133_a : xm133c.all (xveB xMs xm133) = true := xseg_ok (n := 12) (m := 24) (by decide) (by decide +kernel) (fun k hk => match k, hk with
  | 0, _ => xm133_s0
  | 1, _ => xm133_s1
  | 2, _ => xm133_s2
  | 3, _ => xm133_s3
  | 4, _ => xm133_s4
  | 5, _ => xm133_s5
  | 6, _ => xm133_s6
  | 7, _ => xm133_s7
  | 8, _ => xm133_s8
  | 9, _ => xm133_s9
  | 10, _ => xm133_s10
  | 11, _ => xm133_s11
  | 12, _ => xm133_s12
  | 13, _ => xm133_s13
  | 14, _ => xm133_s14
  | 15, _ => xm133_s15
  | 16, _ => xm133_s16
  | 17, _ => xm133_s17
  | 18, _ => xm133_s18
  | 19, _ => xm133_s19
  | 20, _ => xm133_s20
  | 21, _ => xm133_s21
  | 22, _ => xm133_s22
  | 23, _ => xm133_s23
  | n + 24, h => absurd h (by omega))
set_option maxRecDepth 100000 in
theorem xm134_s0 : ((xm134c.drop (12 * 0)).take 12).all (xveB xMs xm134) = true := by decide +kernel
set_option maxRecDepth 100000 in
theorem xm134_s1 : ((xm134c.drop (12 * 1)).take 12).all (xveB xMs xm134) = true := by decide +kernel
set_option maxRecDepth 100000 in
theorem xm134_s2 : ((xm134c.drop (12 * 2)).take 12).all (xveB xMs xm134) = true := by decide +kernel
set_option maxRecDepth 100000 in
theorem xm134_s3 : ((xm134c.drop (12 * 3)).take 12).all (xveB xMs xm134) = true := by decide +kernel
theorem xm134_a : xm134c.all (xveB xMs xm134) = true := xseg_ok (n := 12) (m := 4) (by decide) (by decide +kernel) (fun k hk => match k, hk with
  | 0, _ => xm134_s0
  | 1, _ => xm134_s1
  | 2, _ => xm134_s2
  | 3, _ => xm134_s3
  | n + 4, h => absurd h (by omega))
set_option maxRecDepth 100000 in
theorem xm135_s0 : ((xm135c.drop (12 * 0)).take 12).all (xveB xMs xm135) = true := by decide +kernel
set_option maxRecDepth 100000 in
theorem xm135_s1 : ((xm135c.drop (12 * 1)).take 12).all (xveB xMs xm135) = true := by decide +kernel
set_option maxRecDepth 100000 in
theorem xm135_s2 : ((xm135c.drop (12 * 2)).take 12).all (xveB xMs xm135) = true := by decide +kernel
set_option maxRecDepth 100000 in
theorem xm135_s3 : ((xm135c.drop (12 * 3)).take 12).all (xveB xMs xm135) = true := by decide +kernel
set_option maxRecDepth 100000 in
theorem xm135_s4 : ((xm135c.drop (12 * 4)).take 12).all (xveB xMs xm135) = true := by decide +kernel
set_option maxRecDepth 100000 in
theorem xm135_s5 : ((xm135c.drop (12 * 5)).take 12).all (xveB xMs xm135) = true := by decide +kernel
set_option maxRecDepth 100000 in
theorem xm135_s6 : ((xm135c.drop (12 * 6)).take 12).all (xveB xMs xm135) = true := by decide +kernel
theorem xm135_a : xm135c.all (xveB xMs xm135) = true := xseg_ok (n := 12) (m := 7) (by decide) (by decide +kernel) (fun k hk => match k, hk with
  | 0, _ => xm135_s0
  | 1, _ => xm135_s1
  | 2, _ => xm135_s2
  | 3, _ => xm135_s3
  | 4, _ => xm135_s4
  | 5, _ => xm135_s5
  | 6, _ => xm135_s6
  | n + 7, h => absurd h (by omega))
end XU
