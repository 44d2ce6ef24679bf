section XU
set_option maxRecDepth 100000 in
theorem xm118_s0 : ((xm118c.drop (12 * 0)).take 12).all (xveB xMs xm118) = true := by decide +kernel
set_option maxRecDepth 100000 in
theorem xm118_s1 : ((xm118c.drop (12 * 1)).take 12).all (xveB xMs xm118) = true := by decide +kernel
theorem xm118_a : xm118c.all (xveB xMs xm118) = true := xseg_ok (n := 12) (m := 2) (by decide) (by decide +kernel) (fun k hk => match k, hk with
  | 0, _ => xm118_s0
  | 1, _ => xm118_s1
  | n + 2, h => absurd h (by omega))
set_option maxRecDepth 100000 in
theorem xm119_s0 : ((xm119c.drop (12 * 0)).take 12).all (xveB xMs xm119) = true := by decide +kernel
set_option maxRecDepth 100000 in
theorem xm119_s1 : ((xm119c.drop (12 * 1)).take 12).all (xveB xMs xm119) = true := by decide +kernel
theorem xm119_a : xm119c.all (xveB xMs xm119) = true := xseg_ok (n := 12) (m := 2) (by decide) (by decide +kernel) (fun k hk => match k, hk with
  | 0, _ => xm119_s0
  | 1, _ => xm119_s1
  | n + 2, h => absurd h (by omega))
set_option maxRecDepth 100000 in
theorem xm120_s0 : ((xm120c.drop (12 * 0)).take 12).all (xveB xMs xm120) = true := by decide +kernel
set_option maxRecDepth 100000 in
theorem xm120_s1 : ((xm120c.drop (12 * 1)).take 12).all (xveB xMs xm120) = true := by decide +kernel
theorem xm120_a : xm120c.all (xveB xMs xm120) = true := xseg_ok (n := 12) (m := 2) (by decide) (by decide +kernel) (fun k hk => match k, hk with
  | 0, _ => xm120_s0
  | 1, _ => xm120_s1
  | n + 2, h => absurd h (by omega))
set_option maxRecDepth 100000 in
theorem xm121_s0 : ((xm121c.drop (12 * 0)).take 12).all (xveB xMs xm121) = true := by decide +kernel
theorem xm121_a : xm121c.all (xveB xMs xm121) = true := xseg_ok (n := 12) (m := 1) (by decide) (by decide +kernel) (fun k hk => match k, hk with
  | 0, _ => xm121_s0
  | n + 1, h => absurd h (by omega))
set_option maxRecDepth 100000 in
theorem xm122_s0 : ((xm122c.drop (12 * 0)).take 12).all (xveB xMs xm122) = true := by decide +kernel
set_option maxRecDepth 100000 in
theorem xm122_s1 : ((xm122c.drop (12 * 1)).take 12).all (xveB xMs xm122) = true := by decide +kernel
theorem xm122_a : xm122c.all (xveB xMs xm122) = true := xseg_ok (n := 12) (m := 2) (by decide) (by decide +kernel) (fun k hk => match k, hk with
  | 0, _ => xm122_s0
  | 1, _ => xm122_s1
  | n + 2, h => absurd h (by omega))
set_option maxRecDepth 100000 in
theorem xm123_s0 : ((xm123c.drop (12 * 0)).take 12).all (xveB xMs xm123) = true := by decide +kernel
theorem xm123_a : xm123c.all (xveB xMs xm123) = true := xseg_ok (n := 12) (m := 1) (by decide) (by decide +kernel) (fun k hk => match k, hk with
  | 0, _ => xm123_s0
  | n + 1, h => absurd h (by omega))
set_option maxRecDepth 100000 in
theorem xm124_s0 : ((xm124c.drop (12 * 0)).take 12).all (xveB xMs xm124) = true := by decide +kernel
set_option maxRecDepth 100000 in
theorem xm124_s1 : ((xm124c.drop (12 * 1)).take 12).all (xveB xMs xm124) = true := by decide +kernel
theorem xm124_a : xm124c.all (xveB xMs xm124) = true := xseg_ok (n := 12) (m := 2) (by decide) (by decide +kernel) (fun k hk => match k, hk with
  | 0, _ => xm124_s0
  | 1, _ => xm124_s1
  | n + 2, h => absurd h (by omega))
set_option maxRecDepth 100000 in
theorem xm125_s0 : ((xm125c.drop (12 * 0)).take 12).all (xveB xMs xm125) = true := by decide +kernel
theorem xm125_a : xm125c.all (xveB xMs xm125) = true := xseg_ok (n := 12) (m := 1) (by decide) (by decide +kernel) (fun k hk => match k, hk with
  | 0, _ => xm125_s0
  | n + 1, h => absurd h (by omega))
set_option maxRecDepth 100000 in
theorem xm126_s0 : ((xm126c.drop (12 * 0)).take 12).all (xveB xMs xm126) = true := by decide +kernel
set_option maxRecDepth 100000 in
theorem xm126_s1 : ((xm126c.drop (12 * 1)).take 12).all (xveB xMs xm126) = true := by decide +kernel
theorem xm126_a : xm126c.all (xveB xMs xm126) = true := xseg_ok (n := 12) (m := 2) (by decide) (by decide +kernel) (fun k hk => match k, hk with
  | 0, _ => xm126_s0
  | 1, _ => xm126_s1
  | n + 2, h => absurd h (by omega))
set_option maxRecDepth 100000 in
theorem xm127_s0 : ((xm127c.drop (12 * 0)).take 12).all (xveB xMs xm127) = true := by decide +kernel
set_option maxRecDepth 100000 in
theorem xm127_s1 : ((xm127c.drop (12 * 1)).take 12).all (xveB xMs xm127) = true := by decide +kernel
set_option maxRecDepth 100000 in
theorem xm127_s2 : ((xm127c.drop (12 * 2)).take 12).all (xveB xMs xm127) = true := by decide +kernel
set_option maxRecDepth 100000 in
theorem xm127_s3 : ((xm127c.drop (12 * 3)).take 12).all (xveB xMs xm127) = true := by decide +kernel
set_option maxRecDepth 100000 in
theorem xm127_s4 : ((xm127c.drop (12 * 4)).take 12).all (xveB xMs xm127) = true := by decide +kernel
theorem xm127_a : xm127c.all (xveB xMs xm127) = true := xseg_ok (n := 12) (m := 5) (by decide) (by decide +kernel) (fun k hk => match k, hk with
  | 0, _ => xm127_s0
  | 1, _ => xm127_s1
  | 2, _ => xm127_s2
  | 3, _ => xm127_s3
  | 4, _ => xm127_s4
  | n + 5, h => absurd h (by omega))
set_option maxRecDepth 100000 in
theorem xm128_s0 : ((xm128c.drop (12 * 0)).take 12).all (xveB xMs xm128) = true := by decide +kernel
set_option maxRecDepth 100000 in
theorem xm128_s1 : ((xm128c.drop (12 * 1)).take 12).all (xveB xMs xm128) = true := by decide +kernel
set_option maxRecDepth 100000 in
theorem xm128_s2 : ((xm128c.drop (12 * 2)).take 12).all (xveB xMs xm128) = true := by decide +kernel
theorem xm128_a : xm128c.all (xveB xMs xm128) = true := xseg_ok (n := 12) (m := 3) (by decide) (by decide +kernel) (fun k hk => match k, hk with
  | 0, _ => xm128_s0
  | 1, _ => xm128_s1
  | 2, _ => xm128_s2
  | n + 3, h => absurd h (by omega))
set_option maxRecDepth 100000 in
theorem xm129_s0 : ((xm129c.drop (12 * 0)).take 12).all (xveB xMs xm129) = true := by decide +kernel
set_option maxRecDepth 100000 in
theorem xm129_s1 : ((xm129c.drop (12 * 1)).take 12).all (xveB xMs xm129) = true := by decide +kernel
set_option maxRecDepth 100000 in
theorem xm129_s2 : ((xm129c.drop (12 * 2)).take 12).all (xveB xMs xm129) = true := by decide +kernel
theorem xm129_a : xm129c.all (xveB xMs xm129) = true := xseg_ok (n := 12) (m := 3) (by decide) (by decide +kernel) (fun k hk => match k, hk with
  | 0, _ => xm129_s0
  | 1, _ => xm129_s1
  | 2, _ => xm129_s2
  | n + 3, h => absurd h (by omega))
set_option maxRecDepth 100000 in
theorem xm130_s0 : ((xm130c.drop (12 * 0)).take 12).all (xveB xMs xm130) = true := by decide +kernel
set_option maxRecDepth 100000 in
theorem xm130_s1 : ((xm130c.drop (12 * 1)).take 12).all (xveB xMs xm130) = true := by decide +kernel
theorem xm130_a : xm130c.all (xveB xMs xm130) = true := xseg_ok (n := 12) (m := 2) (by decide) (by decide +kernel) (fun k hk => match k, hk with
  | 0, _ => xm130_s0
  | 1, _ => xm130_s1
  | n + 2, h => absurd h (by omega))
set_option maxRecDepth 100000 in
theorem xm131_s0 : ((xm131c.drop (12 * 0)).take 12).all (xveB xMs xm131) = true := by decide +kernel
set_option maxRecDepth 100000 in
theorem xm131_s1 : ((xm131c.drop (12 * 1)).take 12).all (xveB xMs xm131) = true := by decide +kernel
set_option maxRecDepth 100000 in
theorem xm131_s2 : ((xm131c.drop (12 * 2)).take 12).all (xveB xMs xm131) = true := by decide +kernel
set_option maxRecDepth 100000 in
theorem xm131_s3 : ((xm131c.drop (12 * 3)).take 12).all (xveB xMs xm131) = true := by decide +kernel
set_option maxRecDepth 100000 in
theorem xm131_s4 : ((xm131c.drop (12 * 4)).take 12).all (xveB xMs xm131) = true := by decide +kernel
set_option maxRecDepth 100000 in
theorem xm131_s5 : ((xm131c.drop (12 * 5)).take 12).all (xveB xMs xm131) = true := by decide +kernel
set_option maxRecDepth 100000 in
theorem xm131_s6 : ((xm131c.drop (12 * 6)).take 12).all (xveB xMs xm131) = true := by decide +kernel
set_option maxRecDepth 100000 in
theorem xm131_s7 : ((xm131c.drop (12 * 7)).take 12).all (xveB xMs xm131) = true := by decide +kernel
set_option maxRecDepth 100000 in
theorem xm131_s8 : ((xm131c.drop (12 * 8)).take 12).all (xveB xMs xm131) = true := by decide +kernel
theorem xm131_a : xm131c.all (xveB xMs xm131) = true := xseg_ok (n := 12) (m := 9) (by decide) (by decide +kernel) (fun k hk => match k, hk with
  | 0, _ => xm131_s0
  | 1, _ => xm131_s1
  | 2, _ => xm131_s2
  | 3, _ => xm131_s3
  | 4, _ => xm131_s4
  | 5, _ => xm131_s5
  | 6, _ => xm131_s6
  | 7, _ => xm131_s7
  | 8, _ => xm131_s8
  | n + 9, h => absurd h (by omega))
set_option maxRecDepth 100000 in
theorem xm132_s0 : ((xm132c.drop (12 * 0)).take 12).all (xveB xMs xm132) = true := by decide +kernel
set_option maxRecDepth 100000 in
theorem xm132_s1 : ((xm132c.drop (12 * 1)).take 12).all (xveB xMs xm132) = true := by decide +kernel
set_option maxRecDepth 100000 in
theorem xm132_s2 : ((xm132c.drop (12 * 2)).take 12).all (xveB xMs xm132) = true := by decide +kernel
theorem xm132_a : xm132c.all (xveB xMs xm132) = true := xseg_ok (n := 12) (m := 3) (by decide) (by decide +kernel) (fun k hk => match k, hk with
  | 0, _ => xm132_s0
  | 1, _ => xm132_s1
  | 2, _ => xm132_s2
  | n + 3, h => absurd h (by omega))
end XU
