section XU
set_option maxRecDepth 100000 in
theorem xm67_s0 : ((xm67c.drop (12 * 0)).take 12).all (xveB xMs xm67) = true := by decide +kernel
set_option maxRecDepth 100000 in
theorem xm67_s1 : ((xm67c.drop (12 * 1)).take 12).all (xveB xMs xm67) = true := by decide +kernel
theorem xm67_a : xm67c.all (xveB xMs xm67) = true := xseg_ok (n := 12) (m := 2) (by decide) (by decide +kernel) (fun k hk => match k, hk with
  | 0, _ => xm67_s0
  | 1, _ => xm67_s1
  | n + 2, h => absurd h (by omega))
set_option maxRecDepth 100000 in
theorem xm68_s0 : ((xm68c.drop (12 * 0)).take 12).all (xveB xMs xm68) = true := by decide +kernel
set_option maxRecDepth 100000 in
theorem xm68_s1 : ((xm68c.drop (12 * 1)).take 12).all (xveB xMs xm68) = true := by decide +kernel
set_option maxRecDepth 100000 in
theorem xm68_s2 : ((xm68c.drop (12 * 2)).take 12).all (xveB xMs xm68) = true := by decide +kernel
theorem xm68_a : xm68c.all (xveB xMs xm68) = true := xseg_ok (n := 12) (m := 3) (by decide) (by decide +kernel) (fun k hk => match k, hk with
  | 0, _ => xm68_s0
  | 1, _ => xm68_s1
  | 2, _ => xm68_s2
  | n + 3, h => absurd h (by omega))
set_option maxRecDepth 100000 in
theorem xm69_s0 : ((xm69c.drop (12 * 0)).take 12).all (xveB xMs xm69) = true := by decide +kernel
set_option maxRecDepth 100000 in
theorem xm69_s1 : ((xm69c.drop (12 * 1)).take 12).all (xveB xMs xm69) = true := by decide +kernel
theorem xm69_a : xm69c.all (xveB xMs xm69) = true := xseg_ok (n := 12) (m := 2) (by decide) (by decide +kernel) (fun k hk => match k, hk with
  | 0, _ => xm69_s0
  | 1, _ => xm69_s1
  | n + 2, h => absurd h (by omega))
set_option maxRecDepth 100000 in
theorem xm70_s0 : ((xm70c.drop (12 * 0)).take 12).all (xveB xMs xm70) = true := by decide +kernel
set_option maxRecDepth 100000 in
theorem xm70_s1 : ((xm70c.drop (12 * 1)).take 12).all (xveB xMs xm70) = true := by decide +kernel
set_option maxRecDepth 100000 in
theorem xm70_s2 : ((xm70c.drop (12 * 2)).take 12).all (xveB xMs xm70) = true := by decide +kernel
set_option maxRecDepth 100000 in
theorem xm70_s3 : ((xm70c.drop (12 * 3)).take 12).all (xveB xMs xm70) = true := by decide +kernel
set_option maxRecDepth 100000 in
theorem xm70_s4 : ((xm70c.drop (12 * 4)).take 12).all (xveB xMs xm70) = true := by decide +kernel
set_option maxRecDepth 100000 in
theorem xm70_s5 : ((xm70c.drop (12 * 5)).take 12).all (xveB xMs xm70) = true := by decide +kernel
theorem xm70_a : xm70c.all (xveB xMs xm70) = true := xseg_ok (n := 12) (m := 6) (by decide) (by decide +kernel) (fun k hk => match k, hk with
  | 0, _ => xm70_s0
  | 1, _ => xm70_s1
  | 2, _ => xm70_s2
  | 3, _ => xm70_s3
  | 4, _ => xm70_s4
  | 5, _ => xm70_s5
  | n + 6, h => absurd h (by omega))
set_option maxRecDepth 100000 in
theorem xm71_s0 : ((xm71c.drop (12 * 0)).take 12).all (xveB xMs xm71) = true := by decide +kernel
set_option maxRecDepth 100000 in
theorem xm71_s1 : ((xm71c.drop (12 * 1)).take 12).all (xveB xMs xm71) = true := by decide +kernel
set_option maxRecDepth 100000 in
theorem xm71_s2 : ((xm71c.drop (12 * 2)).take 12).all (xveB xMs xm71) = true := by decide +kernel
set_option maxRecDepth 100000 in
theorem xm71_s3 : ((xm71c.drop (12 * 3)).take 12).all (xveB xMs xm71) = true := by decide +kernel
theorem xm71_a : xm71c.all (xveB xMs xm71) = true := xseg_ok (n := 12) (m := 4) (by decide) (by decide +kernel) (fun k hk => match k, hk with
  | 0, _ => xm71_s0
  | 1, _ => xm71_s1
  | 2, _ => xm71_s2
  | 3, _ => xm71_s3
  | n + 4, h => absurd h (by omega))
set_option maxRecDepth 100000 in
theorem xm72_s0 : ((xm72c.drop (12 * 0)).take 12).all (xveB xMs xm72) = true := by decide +kernel
set_option maxRecDepth 100000 in
theorem xm72_s1 : ((xm72c.drop (12 * 1)).take 12).all (xveB xMs xm72) = true := by decide +kernel
set_option maxRecDepth 100000 in
theorem xm72_s2 : ((xm72c.drop (12 * 2)).take 12).all (xveB xMs xm72) = true := by decide +kernel
theorem xm72_a : xm72c.all (xveB xMs xm72) = true := xseg_ok (n := 12) (m := 3) (by decide) (by decide +kernel) (fun k hk => match k, hk with
  | 0, _ => xm72_s0
  | 1, _ => xm72_s1
  | 2, _ => xm72_s2
  | n + 3, h => absurd h (by omega))
set_option maxRecDepth 100000 in
theorem xm73_s0 : ((xm73c.drop (12 * 0)).take 12).all (xveB xMs xm73) = true := by decide +kernel
theorem xm73_a : xm73c.all (xveB xMs xm73) = true := xseg_ok (n := 12) (m := 1) (by decide) (by decide +kernel) (fun k hk => match k, hk with
  | 0, _ => xm73_s0
  | n + 1, h => absurd h (by omega))
set_option maxRecDepth 100000 in
theorem xm74_s0 : ((xm74c.drop (12 * 0)).take 12).all (xveB xMs xm74) = true := by decide +kernel
set_option maxRecDepth 100000 in
theorem xm74_s1 : ((xm74c.drop (12 * 1)).take 12).all (xveB xMs xm74) = true := by decide +kernel
theorem xm74_a : xm74c.all (xveB xMs xm74) = true := xseg_ok (n := 12) (m := 2) (by decide) (by decide +kernel) (fun k hk => match k, hk with
  | 0, _ => xm74_s0
  | 1, _ => xm74_s1
  | n + 2, h => absurd h (by omega))
set_option maxRecDepth 100000 in
theorem xm75_s0 : ((xm75c.drop (12 * 0)).take 12).all (xveB xMs xm75) = true := by decide +kernel
set_option maxRecDepth 100000 in
theorem xm75_s1 : ((xm75c.drop (12 * 1)).take 12).all (xveB xMs xm75) = true := by decide +kernel
theorem xm75_a : xm75c.all (xveB xMs xm75) = true := xseg_ok (n := 12) (m := 2) (by decide) (by decide +kernel) (fun k hk => match k, hk with
  | 0, _ => xm75_s0
  | 1, _ => xm75_s1
  | n + 2, h => absurd h (by omega))
set_option maxRecDepth 100000 in
theorem xm76_s0 : ((xm76c.drop (12 * 0)).take 12).all (xveB xMs xm76) = true := by decide +kernel
set_option maxRecDepth 100000 in
theorem xm76_s1 : ((xm76c.drop (12 * 1)).take 12).all (xveB xMs xm76) = true := by decide +kernel
theorem xm76_a : xm76c.all (xveB xMs xm76) = true := xseg_ok (n := 12) (m := 2) (by decide) (by decide +kernel) (fun k hk => match k, hk with
  | 0, _ => xm76_s0
  | 1, _ => xm76_s1
  | n + 2, h => absurd h (by omega))
set_option maxRecDepth 100000 in
theorem xm77_s0 : ((xm77c.drop (12 * 0)).take 12).all (xveB xMs xm77) = true := by decide +kernel
set_option maxRecDepth 100000 in
theorem xm77_s1 : ((xm77c.drop (12 * 1)).take 12).all (xveB xMs xm77) = true := by decide +kernel
theorem xm77_a : xm77c.all (xveB xMs xm77) = true := xseg_ok (n := 12) (m := 2) (by decide) (by decide +kernel) (fun k hk => match k, hk with
  | 0, _ => xm77_s0
  | 1, _ => xm77_s1
  | n + 2, h => absurd h (by omega))
set_option maxRecDepth 100000 in
theorem xm78_s0 : ((xm78c.drop (12 * 0)).take 12).all (xveB xMs xm78) = true := by decide +kernel
set_option maxRecDepth 100000 in
theorem xm78_s1 : ((xm78c.drop (12 * 1)).take 12).all (xveB xMs xm78) = true := by decide +kernel
theorem xm78_a : xm78c.all (xveB xMs xm78) = true := xseg_ok (n := 12) (m := 2) (by decide) (by decide +kernel) (fun k hk => match k, hk with
  | 0, _ => xm78_s0
  | 1, _ => xm78_s1
  | n + 2, h => absurd h (by omega))
set_option maxRecDepth 100000 in
theorem xm79_s0 : ((xm79c.drop (12 * 0)).take 12).all (xveB xMs xm79) = true := by decide +kernel
set_option maxRecDepth 100000 in
theorem xm79_s1 : ((xm79c.drop (12 * 1)).take 12).all (xveB xMs xm79) = true := by decide +kernel
set_option maxRecDepth 100000 in
theorem xm79_s2 : ((xm79c.drop (12 * 2)).take 12).all (xveB xMs xm79) = true := by decide +kernel
set_option maxRecDepth 100000 in
theorem xm79_s3 : ((xm79c.drop (12 * 3)).take 12).all (xveB xMs xm79) = true := by decide +kernel
theorem xm79_a : xm79c.all (xveB xMs xm79) = true := xseg_ok (n := 12) (m := 4) (by decide) (by decide +kernel) (fun k hk => match k, hk with
  | 0, _ => xm79_s0
  | 1, _ => xm79_s1
  | 2, _ => xm79_s2
  | 3, _ => xm79_s3
  | n + 4, h => absurd h (by omega))
set_option maxRecDepth 100000 in
theorem xm80_s0 : ((xm80c.drop (12 * 0)).take 12).all (xveB xMs xm80) = true := by decide +kernel
set_option maxRecDepth 100000 in
theorem xm80_s1 : ((xm80c.drop (12 * 1)).take 12).all (xveB xMs xm80) = true := by decide +kernel
set_option maxRecDepth 100000 in
theorem xm80_s2 : ((xm80c.drop (12 * 2)).take 12).all (xveB xMs xm80) = true := by decide +kernel
set_option maxRecDepth 100000 in
theorem xm80_s3 : ((xm80c.drop (12 * 3)).take 12).all (xveB xMs xm80) = true := by decide +kernel
theorem xm80_a : xm80c.all (xveB xMs xm80) = true := xseg_ok (n := 12) (m := 4) (by decide) (by decide +kernel) (fun k hk => match k, hk with
  | 0, _ => xm80_s0
  | 1, _ => xm80_s1
  | 2, _ => xm80_s2
  | 3, _ => xm80_s3
  | n + 4, h => absurd h (by omega))
set_option maxRecDepth 100000 in
theorem xm81_s0 : ((xm81c.drop (12 * 0)).take 12).all (xveB xMs xm81) = true := by decide +kernel
set_option maxRecDepth 100000 in
theorem xm81_s1 : ((xm81c.drop (12 * 1)).take 12).all (xveB xMs xm81) = true := by decide +kernel
set_option maxRecDepth 100000 in
theorem xm81_s2 : ((xm81c.drop (12 * 2)).take 12).all (xveB xMs xm81) = true := by decide +kernel
theorem xm81_a : xm81c.all (xveB xMs xm81) = true := xseg_ok (n := 12) (m := 3) (by decide) (by decide +kernel) (fun k hk => match k, hk with
  | 0, _ => xm81_s0
  | 1, _ => xm81_s1
  | 2, _ => xm81_s2
  | n + 3, h => absurd h (by omega))
set_option maxRecDepth 100000 in
theorem xm82_s0 : ((xm82c.drop (12 * 0)).take 12).all (xveB xMs xm82) = true := by decide +kernel
set_option maxRecDepth 100000 in
theorem xm82_s1 : ((xm82c.drop (12 * 1)).take 12).all (xveB xMs xm82) = true := by decide +kernel
set_option maxRecDepth 100000 in
theorem xm82_s2 : ((xm82c.drop (12 * 2)).take 12).all (xveB xMs xm82) = true := by decide +kernel
set_option maxRecDepth 100000 in
theorem xm82_s3 : ((xm82c.drop (12 * 3)).take 12).all (xveB xMs xm82) = true := by decide +kernel
set_option maxRecDepth 100000 in
theorem xm82_s4 : ((xm82c.drop (12 * 4)).take 12).all (xveB xMs xm82) = true := by decide +kernel
theorem xm82_a : xm82c.all (xveB xMs xm82) = true := xseg_ok (n := 12) (m := 5) (by decide) (by decide +kernel) (fun k hk => match k, hk with
  | 0, _ => xm82_s0
  | 1, _ => xm82_s1
  | 2, _ => xm82_s2
  | 3, _ => xm82_s3
  | 4, _ => xm82_s4
  | n + 5, h => absurd h (by omega))
set_option maxRecDepth 100000 in
theorem xm83_s0 : ((xm83c.drop (12 * 0)).take 12).all (xveB xMs xm83) = true := by decide +kernel
set_option maxRecDepth 100000 in
theorem xm83_s1 : ((xm83c.drop (12 * 1)).take 12).all (xveB xMs xm83) = true := by decide +kernel
theorem xm83_a : xm83c.all (xveB xMs xm83) = true := xseg_ok (n := 12) (m := 2) (by decide) (by decide +kernel) (fun k hk => match k, hk with
  | 0, _ => xm83_s0
  | 1, _ => xm83_s1
  | n + 2, h => absurd h (by omega))
set_option maxRecDepth 100000 in
theorem xm84_s0 : ((xm84c.drop (12 * 0)).take 12).all (xveB xMs xm84) = true := by decide +kernel
set_option maxRecDepth 100000 in
theorem xm84_s1 : ((xm84c.drop (12 * 1)).take 12).all (xveB xMs xm84) = true := by decide +kernel
theorem xm84_a : xm84c.all (xveB xMs xm84) = true := xseg_ok (n := 12) (m := 2) (by decide) (by decide +kernel) (fun k hk => match k, hk with
  | 0, _ => xm84_s0
  | 1, _ => xm84_s1
  | n + 2, h => absurd h (by omega))
set_option maxRecDepth 100000 in
theorem xm85_s0 : ((xm85c.drop (12 * 0)).take 12).all (xveB xMs xm85) = true := by decide +kernel
set_option maxRecDepth 100000 in
theorem xm85_s1 : ((xm85c.drop (12 * 1)).take 12).all (xveB xMs xm85) = true := by decide +kernel
set_option maxRecDepth 100000 in
theorem xm85_s2 : ((xm85c.drop (12 * 2)).take 12).all (xveB xMs xm85) = true := by decide +kernel
theorem xm85_a : xm85c.all (xveB xMs xm85) = true := xseg_ok (n := 12) (m := 3) (by decide) (by decide +kernel) (fun k hk => match k, hk with
  | 0, _ => xm85_s0
  | 1, _ => xm85_s1
  | 2, _ => xm85_s2
  | n + 3, h => absurd h (by omega))
set_option maxRecDepth 100000 in
theorem xm86_s0 : ((xm86c.drop (12 * 0)).take 12).all (xveB xMs xm86) = true := by decide +kernel
set_option maxRecDepth 100000 in
theorem xm86_s1 : ((xm86c.drop (12 * 1)).take 12).all (xveB xMs xm86) = true := by decide +kernel
set_option maxRecDepth 100000 in
theorem xm86_s2 : ((xm86c.drop (12 * 2)).take 12).all (xveB xMs xm86) = true := by decide +kernel
set_option maxRecDepth 100000 in
theorem xm86_s3 : ((xm86c.drop (12 * 3)).take 12).all (xveB xMs xm86) = true := by decide +kernel
theorem xm86_a : xm86c.all (xveB xMs xm86) = true := xseg_ok (n := 12) (m := 4) (by decide) (by decide +kernel) (fun k hk => match k, hk with
  | 0, _ => xm86_s0
  | 1, _ => xm86_s1
  | 2, _ => xm86_s2
  | 3, _ => xm86_s3
  | n + 4, h => absurd h (by omega))
set_option maxRecDepth 100000 in
theorem xm87_s0 : ((xm87c.drop (12 * 0)).take 12).all (xveB xMs xm87) = true := by decide +kernel
set_option maxRecDepth 100000 in
theorem xm87_s1 : ((xm87c.drop (12 * 1)).take 12).all (xveB xMs xm87) = true := by decide +kernel
theorem xm87_a : xm87c.all (xveB xMs xm87) = true := xseg_ok (n := 12) (m := 2) (by decide) (by decide +kernel) (fun k hk => match k, hk with
  | 0, _ => xm87_s0
  | 1, _ => xm87_s1
  | n + 2, h => absurd h (by omega))
set_option maxRecDepth 100000 in
theorem xm88_s0 : ((xm88c.drop (12 * 0)).take 12).all (xveB xMs xm88) = true := by decide +kernel
set_option maxRecDepth 100000 in
theorem xm88_s1 : ((xm88c.drop (12 * 1)).take 12).all (xveB xMs xm88) = true := by decide +kernel
theorem xm88_a : xm88c.all (xveB xMs xm88) = true := xseg_ok (n := 12) (m := 2) (by decide) (by decide +kernel) (fun k hk => match k, hk with
  | 0, _ => xm88_s0
  | 1, _ => xm88_s1
  | n + 2, h => absurd h (by omega))
set_option maxRecDepth 100000 in
theorem xm89_s0 : ((xm89c.drop (12 * 0)).take 12).all (xveB xMs xm89) = true := by decide +kernel
set_option maxRecDepth 100000 in
theorem xm89_s1 : ((xm89c.drop (12 * 1)).take 12).all (xveB xMs xm89) = true := by decide +kernel
theorem xm89_a : xm89c.all (xveB xMs xm89) = true := xseg_ok (n := 12) (m := 2) (by decide) (by decide +kernel) (fun k hk => match k, hk with
  | 0, _ => xm89_s0
  | 1, _ => xm89_s1
  | n + 2, h => absurd h (by omega))
set_option maxRecDepth 100000 in
theorem xm90_s0 : ((xm90c.drop (12 * 0)).take 12).all (xveB xMs xm90) = true := by decide +kernel
set_option maxRecDepth 100000 in
theorem xm90_s1 : ((xm90c.drop (12 * 1)).take 12).all (xveB xMs xm90) = true := by decide +kernel
theorem xm90_a : xm90c.all (xveB xMs xm90) = true := xseg_ok (n := 12) (m := 2) (by decide) (by decide +kernel) (fun k hk => match k, hk with
  | 0, _ => xm90_s0
  | 1, _ => xm90_s1
  | n + 2, h => absurd h (by omega))
set_option maxRecDepth 100000 in
theorem xm91_s0 : ((xm91c.drop (12 * 0)).take 12).all (xveB xMs xm91) = true := by decide +kernel
theorem xm91_a : xm91c.all (xveB xMs xm91) = true := xseg_ok (n := 12) (m := 1) (by decide) (by decide +kernel) (fun k hk => match k, hk with
  | 0, _ => xm91_s0
  | n + 1, h => absurd h (by omega))
set_option maxRecDepth 100000 in
theorem xm92_s0 : ((xm92c.drop (12 * 0)).take 12).all (xveB xMs xm92) = true := by decide +kernel
set_option maxRecDepth 100000 in
theorem xm92_s1 : ((xm92c.drop (12 * 1)).take 12).all (xveB xMs xm92) = true := by decide +kernel
theorem xm92_a : xm92c.all (xveB xMs xm92) = true := xseg_ok (n := 12) (m := 2) (by decide) (by decide +kernel) (fun k hk => match k, hk with
  | 0, _ => xm92_s0
  | 1, _ => xm92_s1
  | n + 2, h => absurd h (by omega))
set_option maxRecDepth 100000 in
theorem xm93_s0 : ((xm93c.drop (12 * 0)).take 12).all (xveB xMs xm93) = true := by decide +kernel
set_option maxRecDepth 100000 in
theorem xm93_s1 : ((xm93c.drop (12 * 1)).take 12).all (xveB xMs xm93) = true := by decide +kernel
set_option maxRecDepth 100000 in
theorem xm93_s2 : ((xm93c.drop (12 * 2)).take 12).all (xveB xMs xm93) = true := by decide +kernel
set_option maxRecDepth 100000 in
theorem xm93_s3 : ((xm93c.drop (12 * 3)).take 12).all (xveB xMs xm93) = true := by decide +kernel
set_option maxRecDepth 100000 in
theorem xm93_s4 : ((xm93c.drop (12 * 4)).take 12).all (xveB xMs xm93) = true := by decide +kernel
theorem xm93_a : xm93c.all (xveB xMs xm93) = true := xseg_ok (n := 12) (m := 5) (by decide) (by decide +kernel) (fun k hk => match k, hk with
  | 0, _ => xm93_s0
  | 1, _ => xm93_s1
  | 2, _ => xm93_s2
  | 3, _ => xm93_s3
  | 4, _ => xm93_s4
  | n + 5, h => absurd h (by omega))
set_option maxRecDepth 100000 in
theorem xm94_s0 : ((xm94c.drop (12 * 0)).take 12).all (xveB xMs xm94) = true := by decide +kernel
set_option maxRecDepth 100000 in
theorem xm94_s1 : ((xm94c.drop (12 * 1)).take 12).all (xveB xMs xm94) = true := by decide +kernel
theorem xm94_a : xm94c.all (xveB xMs xm94) = true := xseg_ok (n := 12) (m := 2) (by decide) (by decide +kernel) (fun k hk => match k, hk with
  | 0, _ => xm94_s0
  | 1, _ => xm94_s1
  | n + 2, h => absurd h (by omega))
end XU
