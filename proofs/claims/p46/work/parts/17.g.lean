section XU
set_option maxRecDepth 100000 in
theorem xm136_s0 : ((xm136c.drop (12 * 0)).take 12).all (xveB xMs xm136) = true := by decide +kernel
set_option maxRecDepth 100000 in
theorem xm136_s1 : ((xm136c.drop (12 * 1)).take 12).all (xveB xMs xm136) = true := by decide +kernel
set_option maxRecDepth 100000 in
theorem xm136_s2 : ((xm136c.drop (12 * 2)).take 12).all (xveB xMs xm136) = true := by decide +kernel
set_option maxRecDepth 100000 in
theorem xm136_s3 : ((xm136c.drop (12 * 3)).take 12).all (xveB xMs xm136) = true := by decide +kernel
set_option maxRecDepth 100000 in
theorem xm136_s4 : ((xm136c.drop (12 * 4)).take 12).all (xveB xMs xm136) = true := by decide +kernel
theorem xm136_a : xm136c.all (xveB xMs xm136) = true := xseg_ok (n := 12) (m := 5) (by decide) (by decide +kernel) (fun k hk => match k, hk with
  | 0, _ => xm136_s0
  | 1, _ => xm136_s1
  | 2, _ => xm136_s2
  | 3, _ => xm136_s3
  | 4, _ => xm136_s4
  | n + 5, h => absurd h (by omega))
set_option maxRecDepth 100000 in
theorem xm137_s0 : ((xm137c.drop (12 * 0)).take 12).all (xveB xMs xm137) = true := by decide +kernel
set_option maxRecDepth 100000 in
theorem xm137_s1 : ((xm137c.drop (12 * 1)).take 12).all (xveB xMs xm137) = true := by decide +kernel
set_option maxRecDepth 100000 in
theorem xm137_s2 : ((xm137c.drop (12 * 2)).take 12).all (xveB xMs xm137) = true := by decide +kernel
set_option maxRecDepth 100000 in
theorem xm137_s3 : ((xm137c.drop (12 * 3)).take 12).all (xveB xMs xm137) = true := by decide +kernel
set_option maxRecDepth 100000 in
theorem xm137_s4 : ((xm137c.drop (12 * 4)).take 12).all (xveB xMs xm137) = true := by decide +kernel
set_option maxRecDepth 100000 in
theorem xm137_s5 : ((xm137c.drop (12 * 5)).take 12).all (xveB xMs xm137) = true := by decide +kernel
set_option maxRecDepth 100000 in
theorem xm137_s6 : ((xm137c.drop (12 * 6)).take 12).all (xveB xMs xm137) = true := by decide +kernel
set_option maxRecDepth 100000 in
theorem xm137_s7 : ((xm137c.drop (12 * 7)).take 12).all (xveB xMs xm137) = true := by decide +kernel
set_option maxRecDepth 100000 in
theorem xm137_s8 : ((xm137c.drop (12 * 8)).take 12).all (xveB xMs xm137) = true := by decide +kernel
theorem xm137_a : xm137c.all (xveB xMs xm137) = true := xseg_ok (n := 12) (m := 9) (by decide) (by decide +kernel) (fun k hk => match k, hk with
  | 0, _ => xm137_s0
  | 1, _ => xm137_s1
  | 2, _ => xm137_s2
  | 3, _ => xm137_s3
  | 4, _ => xm137_s4
  | 5, _ => xm137_s5
  | 6, _ => xm137_s6
  | 7, _ => xm137_s7
  | 8, _ => xm137_s8
  | n + 9, h => absurd h (by omega))
set_option maxRecDepth 100000 in
theorem xm138_s0 : ((xm138c.drop (12 * 0)).take 12).all (xveB xMs xm138) = true := by decide +kernel
set_option maxRecDepth 100000 in
theorem xm138_s1 : ((xm138c.drop (12 * 1)).take 12).all (xveB xMs xm138) = true := by decide +kernel
theorem xm138_a : xm138c.all (xveB xMs xm138) = true := xseg_ok (n := 12) (m := 2) (by decide) (by decide +kernel) (fun k hk => match k, hk with
  | 0, _ => xm138_s0
  | 1, _ => xm138_s1
  | n + 2, h => absurd h (by omega))
set_option maxRecDepth 100000 in
theorem xm139_s0 : ((xm139c.drop (12 * 0)).take 12).all (xveB xMs xm139) = true := by decide +kernel
set_option maxRecDepth 100000 in
theorem xm139_s1 : ((xm139c.drop (12 * 1)).take 12).all (xveB xMs xm139) = true := by decide +kernel
set_option maxRecDepth 100000 in
theorem xm139_s2 : ((xm139c.drop (12 * 2)).take 12).all (xveB xMs xm139) = true := by decide +kernel
set_option maxRecDepth 100000 in
theorem xm139_s3 : ((xm139c.drop (12 * 3)).take 12).all (xveB xMs xm139) = true := by decide +kernel
set_option maxRecDepth 100000 in
theorem xm139_s4 : ((xm139c.drop (12 * 4)).take 12).all (xveB xMs xm139) = true := by decide +kernel
set_option maxRecDepth 100000 in
theorem xm139_s5 : ((xm139c.drop (12 * 5)).take 12).all (xveB xMs xm139) = true := by decide +kernel
set_option maxRecDepth 100000 in
theorem xm139_s6 : ((xm139c.drop (12 * 6)).take 12).all (xveB xMs xm139) = true := by decide +kernel
set_option maxRecDepth 100000 in
theorem xm139_s7 : ((xm139c.drop (12 * 7)).take 12).all (xveB xMs xm139) = true := by decide +kernel
set_option maxRecDepth 100000 in
theorem xm139_s8 : ((xm139c.drop (12 * 8)).take 12).all (xveB xMs xm139) = true := by decide +kernel
set_option maxRecDepth 100000 in
theorem xm139_s9 : ((xm139c.drop (12 * 9)).take 12).all (xveB xMs xm139) = true := by decide +kernel
set_option maxRecDepth 100000 in
theorem xm139_s10 : ((xm139c.drop (12 * 10)).take 12).all (xveB xMs xm139) = true := by decide +kernel
set_option maxRecDepth 100000 in
theorem xm139_s11 : ((xm139c.drop (12 * 11)).take 12).all (xveB xMs xm139) = true := by decide +kernel
set_option maxRecDepth 100000 in
theorem xm139_s12 : ((xm139c.drop (12 * 12)).take 12).all (xveB xMs xm139) = true := by decide +kernel
theorem xm139_a : xm139c.all (xveB xMs xm139) = true := xseg_ok (n := 12) (m := 13) (by decide) (by decide +kernel) (fun k hk => match k, hk with
  | 0, _ => xm139_s0
  | 1, _ => xm139_s1
  | 2, _ => xm139_s2
  | 3, _ => xm139_s3
  | 4, _ => xm139_s4
  | 5, _ => xm139_s5
  | 6, _ => xm139_s6
  | 7, _ => xm139_s7
  | 8, _ => xm139_s8
  | 9, _ => xm139_s9
  | 10, _ => xm139_s10
  | 11, _ => xm139_s11
  | 12, _ => xm139_s12
  | n + 13, h => absurd h (by omega))
set_option maxRecDepth 100000 in
theorem xm140_s0 : ((xm140c.drop (12 * 0)).take 12).all (xveB xMs xm140) = true := by decide +kernel
set_option maxRecDepth 100000 in
theorem xm140_s1 : ((xm140c.drop (12 * 1)).take 12).all (xveB xMs xm140) = true := by decide +kernel
set_option maxRecDepth 100000 in
theorem xm140_s2 : ((xm140c.drop (12 * 2)).take 12).all (xveB xMs xm140) = true := by decide +kernel
theorem xm140_a : xm140c.all (xveB xMs xm140) = true := xseg_ok (n := 12) (m := 3) (by decide) (by decide +kernel) (fun k hk => match k, hk with
  | 0, _ => xm140_s0
  | 1, _ => xm140_s1
  | 2, _ => xm140_s2
  | n + 3, h => absurd h (by omega))
set_option maxRecDepth 100000 in
theorem xm141_s0 : ((xm141c.drop (12 * 0)).take 12).all (xveB xMs xm141) = true := by decide +kernel
set_option maxRecDepth 100000 in
theorem xm141_s1 : ((xm141c.drop (12 * 1)).take 12).all (xveB xMs xm141) = true := by decide +kernel
theorem xm141_a : xm141c.all (xveB xMs xm141) = true := xseg_ok (n := 12) (m := 2) (by decide) (by decide +kernel) (fun k hk => match k, hk with
  | 0, _ => xm141_s0
  | 1, _ => xm141_s1
  | n + 2, h => absurd h (by omega))
end XU
