section XU
set_option maxRecDepth 100000 in
theorem xm95_s0 : ((xm95c.drop (12 * 0)).take 12).all (xveB xMs xm95) = true := by decide +kernel
set_option maxRecDepth 100000 in
theorem xm95_s1 : ((xm95c.drop (12 * 1)).take 12).all (xveB xMs xm95) = true := by decide +kernel
theorem xm95_a : xm95c.all (xveB xMs xm95) = true := xseg_ok (n := 12) (m := 2) (by decide) (by decide +kernel) (fun k hk => match k, hk with
  | 0, _ => xm95_s0
  | 1, _ => xm95_s1
  | n + 2, h => absurd h (by omega))
set_option maxRecDepth 100000 in
theorem xm96_s0 : ((xm96c.drop (12 * 0)).take 12).all (xveB xMs xm96) = true := by decide +kernel
set_option maxRecDepth 100000 in
theorem xm96_s1 : ((xm96c.drop (12 * 1)).take 12).all (xveB xMs xm96) = true := by decide +kernel
theorem xm96_a : xm96c.all (xveB xMs xm96) = true := xseg_ok (n := 12) (m := 2) (by decide) (by decide +kernel) (fun k hk => match k, hk with
  | 0, _ => xm96_s0
  | 1, _ => xm96_s1
  | n + 2, h => absurd h (by omega))
set_option maxRecDepth 100000 in
theorem xm97_s0 : ((xm97c.drop (12 * 0)).take 12).all (xveB xMs xm97) = true := by decide +kernel
set_option maxRecDepth 100000 in
theorem xm97_s1 : ((xm97c.drop (12 * 1)).take 12).all (xveB xMs xm97) = true := by decide +kernel
theorem xm97_a : xm97c.all (xveB xMs xm97) = true := xseg_ok (n := 12) (m := 2) (by decide) (by decide +kernel) (fun k hk => match k, hk with
  | 0, _ => xm97_s0
  | 1, _ => xm97_s1
  | n + 2, h => absurd h (by omega))
set_option maxRecDepth 100000 in
theorem xm98_s0 : ((xm98c.drop (12 * 0)).take 12).all (xveB xMs xm98) = true := by decide +kernel
theorem xm98_a : xm98c.all (xveB xMs xm98) = true := xseg_ok (n := 12) (m := 1) (by decide) (by decide +kernel) (fun k hk => match k, hk with
  | 0, _ => xm98_s0
  | n + 1, h => absurd h (by omega))
set_option maxRecDepth 100000 in
theorem xm99_s0 : ((xm99c.drop (12 * 0)).take 12).all (xveB xMs xm99) = true := by decide +kernel
set_option maxRecDepth 100000 in
theorem xm99_s1 : ((xm99c.drop (12 * 1)).take 12).all (xveB xMs xm99) = true := by decide +kernel
set_option maxRecDepth 100000 in
theorem xm99_s2 : ((xm99c.drop (12 * 2)).take 12).all (xveB xMs xm99) = true := by decide +kernel
set_option maxRecDepth 100000 in
theorem xm99_s3 : ((xm99c.drop (12 * 3)).take 12).all (xveB xMs xm99) = true := by decide +kernel
set_option maxRecDepth 100000 in
theorem xm99_s4 : ((xm99c.drop (12 * 4)).take 12).all (xveB xMs xm99) = true := by decide +kernel
set_option maxRecDepth 100000 in
theorem xm99_s5 : ((xm99c.drop (12 * 5)).take 12).all (xveB xMs xm99) = true := by decide +kernel
theorem xm99_a : xm99c.all (xveB xMs xm99) = true := xseg_ok (n := 12) (m := 6) (by decide) (by decide +kernel) (fun k hk => match k, hk with
  | 0, _ => xm99_s0
  | 1, _ => xm99_s1
  | 2, _ => xm99_s2
  | 3, _ => xm99_s3
  | 4, _ => xm99_s4
  | 5, _ => xm99_s5
  | n + 6, h => absurd h (by omega))
set_option maxRecDepth 100000 in
theorem xm100_s0 : ((xm100c.drop (12 * 0)).take 12).all (xveB xMs xm100) = true := by decide +kernel
set_option maxRecDepth 100000 in
theorem xm100_s1 : ((xm100c.drop (12 * 1)).take 12).all (xveB xMs xm100) = true := by decide +kernel
set_option maxRecDepth 100000 in
theorem xm100_s2 : ((xm100c.drop (12 * 2)).take 12).all (xveB xMs xm100) = true := by decide +kernel
set_option maxRecDepth 100000 in
theorem xm100_s3 : ((xm100c.drop (12 * 3)).take 12).all (xveB xMs xm100) = true := by decide +kernel
theorem xm100_a : xm100c.all (xveB xMs xm100) = true := xseg_ok (n := 12) (m := 4) (by decide) (by decide +kernel) (fun k hk => match k, hk with
  | 0, _ => xm100_s0
  | 1, _ => xm100_s1
  | 2, _ => xm100_s2
  | 3, _ => xm100_s3
  | n + 4, h => absurd h (by omega))
set_option maxRecDepth 100000 in
theorem xm101_s0 : ((xm101c.drop (12 * 0)).take 12).all (xveB xMs xm101) = true := by decide +kernel
set_option maxRecDepth 100000 in
theorem xm101_s1 : ((xm101c.drop (12 * 1)).take 12).all (xveB xMs xm101) = true := by decide +kernel
set_option maxRecDepth 100000 in
theorem xm101_s2 : ((xm101c.drop (12 * 2)).take 12).all (xveB xMs xm101) = true := by decide +kernel
set_option maxRecDepth 100000 in
theorem xm101_s3 : ((xm101c.drop (12 * 3)).take 12).all (xveB xMs xm101) = true := by decide +kernel
theorem xm101_a : xm101c.all (xveB xMs xm101) = true := xseg_ok (n := 12) (m := 4) (by decide) (by decide +kernel) (fun k hk => match k, hk with
  | 0, _ => xm101_s0
  | 1, _ => xm101_s1
  | 2, _ => xm101_s2
  | 3, _ => xm101_s3
  | n + 4, h => absurd h (by omega))
set_option maxRecDepth 100000 in
theorem xm102_s0 : ((xm102c.drop (12 * 0)).take 12).all (xveB xMs xm102) = true := by decide +kernel
set_option maxRecDepth 100000 in
theorem xm102_s1 : ((xm102c.drop (12 * 1)).take 12).all (xveB xMs xm102) = true := by decide +kernel
set_option maxRecDepth 100000 in
theorem xm102_s2 : ((xm102c.drop (12 * 2)).take 12).all (xveB xMs xm102) = true := by decide +kernel
theorem xm102_a : xm102c.all (xveB xMs xm102) = true := xseg_ok (n := 12) (m := 3) (by decide) (by decide +kernel) (fun k hk => match k, hk with
  | 0, _ => xm102_s0
  | 1, _ => xm102_s1
  | 2, _ => xm102_s2
  | n + 3, h => absurd h (by omega))
set_option maxRecDepth 100000 in
theorem xm103_s0 : ((xm103c.drop (12 * 0)).take 12).all (xveB xMs xm103) = true := by decide +kernel
set_option maxRecDepth 100000 in
theorem xm103_s1 : ((xm103c.drop (12 * 1)).take 12).all (xveB xMs xm103) = true := by decide +kernel
set_option maxRecDepth 100000 in
theorem xm103_s2 : ((xm103c.drop (12 * 2)).take 12).all (xveB xMs xm103) = true := by decide +kernel
theorem xm103_a : xm103c.all (xveB xMs xm103) = true := xseg_ok (n := 12) (m := 3) (by decide) (by decide +kernel) (fun k hk => match k, hk with
  | 0, _ => xm103_s0
  | 1, _ => xm103_s1
  | 2, _ => xm103_s2
  | n + 3, h => absurd h (by omega))
set_option maxRecDepth 100000 in
theorem xm104_s0 : ((xm104c.drop (12 * 0)).take 12).all (xveB xMs xm104) = true := by decide +kernel
set_option maxRecDepth 100000 in
theorem xm104_s1 : ((xm104c.drop (12 * 1)).take 12).all (xveB xMs xm104) = true := by decide +kernel
theorem xm104_a : xm104c.all (xveB xMs xm104) = true := xseg_ok (n := 12) (m := 2) (by decide) (by decide +kernel) (fun k hk => match k, hk with
  | 0, _ => xm104_s0
  | 1, _ => xm104_s1
  | n + 2, h => absurd h (by omega))
set_option maxRecDepth 100000 in
theorem xm105_s0 : ((xm105c.drop (12 * 0)).take 12).all (xveB xMs xm105) = true := by decide +kernel
set_option maxRecDepth 100000 in
theorem xm105_s1 : ((xm105c.drop (12 * 1)).take 12).all (xveB xMs xm105) = true := by decide +kernel
theorem xm105_a : xm105c.all (xveB xMs xm105) = true := xseg_ok (n := 12) (m := 2) (by decide) (by decide +kernel) (fun k hk => match k, hk with
  | 0, _ => xm105_s0
  | 1, _ => xm105_s1
  | n + 2, h => absurd h (by omega))
set_option maxRecDepth 100000 in
theorem xm106_s0 : ((xm106c.drop (12 * 0)).take 12).all (xveB xMs xm106) = true := by decide +kernel
set_option maxRecDepth 100000 in
theorem xm106_s1 : ((xm106c.drop (12 * 1)).take 12).all (xveB xMs xm106) = true := by decide +kernel
set_option maxRecDepth 100000 in
theorem xm106_s2 : ((xm106c.drop (12 * 2)).take 12).all (xveB xMs xm106) = true := by decide +kernel
theorem xm106_a : xm106c.all (xveB xMs xm106) = true := xseg_ok (n := 12) (m := 3) (by decide) (by decide +kernel) (fun k hk => match k, hk with
  | 0, _ => xm106_s0
  | 1, _ => xm106_s1
  | 2, _ => xm106_s2
  | n + 3, h => absurd h (by omega))
set_option maxRecDepth 100000 in
theorem xm107_s0 : ((xm107c.drop (12 * 0)).take 12).all (xveB xMs xm107) = true := by decide +kernel
set_option maxRecDepth 100000 in
theorem xm107_s1 : ((xm107c.drop (12 * 1)).take 12).all (xveB xMs xm107) = true := by decide +kernel
theorem xm107_a : xm107c.all (xveB xMs xm107) = true := xseg_ok (n := 12) (m := 2) (by decide) (by decide +kernel) (fun k hk => match k, hk with
  | 0, _ => xm107_s0
  | 1, _ => xm107_s1
  | n + 2, h => absurd h (by omega))
set_option maxRecDepth 100000 in
theorem xm108_s0 : ((xm108c.drop (12 * 0)).take 12).all (xveB xMs xm108) = true := by decide +kernel
set_option maxRecDepth 100000 in
theorem xm108_s1 : ((xm108c.drop (12 * 1)).take 12).all (xveB xMs xm108) = true := by decide +kernel
set_option maxRecDepth 100000 in
theorem xm108_s2 : ((xm108c.drop (12 * 2)).take 12).all (xveB xMs xm108) = true := by decide +kernel
theorem xm108_a : xm108c.all (xveB xMs xm108) = true := xseg_ok (n := 12) (m := 3) (by decide) (by decide +kernel) (fun k hk => match k, hk with
  | 0, _ => xm108_s0
  | 1, _ => xm108_s1
  | 2, _ => xm108_s2
  | n + 3, h => absurd h (by omega))
set_option maxRecDepth 100000 in
theorem xm109_s0 : ((xm109c.drop (12 * 0)).take 12).all (xveB xMs xm109) = true := by decide +kernel
set_option maxRecDepth 100000 in
theorem xm109_s1 : ((xm109c.drop (12 * 1)).take 12).all (xveB xMs xm109) = true := by decide +kernel
theorem xm109_a : xm109c.all (xveB xMs xm109) = true := xseg_ok (n := 12) (m := 2) (by decide) (by decide +kernel) (fun k hk => match k, hk with
  | 0, _ => xm109_s0
  | 1, _ => xm109_s1
  | n + 2, h => absurd h (by omega))
set_option maxRecDepth 100000 in
theorem xm110_s0 : ((xm110c.drop (12 * 0)).take 12).all (xveB xMs xm110) = true := by decide +kernel
set_option maxRecDepth 100000 in
theorem xm110_s1 : ((xm110c.drop (12 * 1)).take 12).all (xveB xMs xm110) = true := by decide +kernel
set_option maxRecDepth 100000 in
theorem xm110_s2 : ((xm110c.drop (12 * 2)).take 12).all (xveB xMs xm110) = true := by decide +kernel
theorem xm110_a : xm110c.all (xveB xMs xm110) = true := xseg_ok (n := 12) (m := 3) (by decide) (by decide +kernel) (fun k hk => match k, hk with
  | 0, _ => xm110_s0
  | 1, _ => xm110_s1
  | 2, _ => xm110_s2
  | n + 3, h => absurd h (by omega))
set_option maxRecDepth 100000 in
theorem xm111_s0 : ((xm111c.drop (12 * 0)).take 12).all (xveB xMs xm111) = true := by decide +kernel
set_option maxRecDepth 100000 in
theorem xm111_s1 : ((xm111c.drop (12 * 1)).take 12).all (xveB xMs xm111) = true := by decide +kernel
set_option maxRecDepth 100000 in
theorem xm111_s2 : ((xm111c.drop (12 * 2)).take 12).all (xveB xMs xm111) = true := by decide +kernel
set_option maxRecDepth 100000 in
theorem xm111_s3 : ((xm111c.drop (12 * 3)).take 12).all (xveB xMs xm111) = true := by decide +kernel
set_option maxRecDepth 100000 in
theorem xm111_s4 : ((xm111c.drop (12 * 4)).take 12).all (xveB xMs xm111) = true := by decide +kernel
set_option maxRecDepth 100000 in
theorem xm111_s5 : ((xm111c.drop (12 * 5)).take 12).all (xveB xMs xm111) = true := by decide +kernel
set_option maxRecDepth 100000 in
theorem xm111_s6 : ((xm111c.drop (12 * 6)).take 12).all (xveB xMs xm111) = true := by decide +kernel
theorem xm111_a : xm111c.all (xveB xMs xm111) = true := xseg_ok (n := 12) (m := 7) (by decide) (by decide +kernel) (fun k hk => match k, hk with
  | 0, _ => xm111_s0
  | 1, _ => xm111_s1
  | 2, _ => xm111_s2
  | 3, _ => xm111_s3
  | 4, _ => xm111_s4
  | 5, _ => xm111_s5
  | 6, _ => xm111_s6
  | n + 7, h => absurd h (by omega))
set_option maxRecDepth 100000 in
theorem xm112_s0 : ((xm112c.drop (12 * 0)).take 12).all (xveB xMs xm112) = true := by decide +kernel
set_option maxRecDepth 100000 in
theorem xm112_s1 : ((xm112c.drop (12 * 1)).take 12).all (xveB xMs xm112) = true := by decide +kernel
set_option maxRecDepth 100000 in
theorem xm112_s2 : ((xm112c.drop (12 * 2)).take 12).all (xveB xMs xm112) = true := by decide +kernel
theorem xm112_a : xm112c.all (xveB xMs xm112) = true := xseg_ok (n := 12) (m := 3) (by decide) (by decide +kernel) (fun k hk => match k, hk with
  | 0, _ => xm112_s0
  | 1, _ => xm112_s1
  | 2, _ => xm112_s2
  | n + 3, h => absurd h (by omega))
set_option maxRecDepth 100000 in
theorem xm113_s0 : ((xm113c.drop (12 * 0)).take 12).all (xveB xMs xm113) = true := by decide +kernel
set_option maxRecDepth 100000 in
theorem xm113_s1 : ((xm113c.drop (12 * 1)).take 12).all (xveB xMs xm113) = true := by decide +kernel
set_option maxRecDepth 100000 in
theorem xm113_s2 : ((xm113c.drop (12 * 2)).take 12).all (xveB xMs xm113) = true := by decide +kernel
theorem xm113_a : xm113c.all (xveB xMs xm113) = true := xseg_ok (n := 12) (m := 3) (by decide) (by decide +kernel) (fun k hk => match k, hk with
  | 0, _ => xm113_s0
  | 1, _ => xm113_s1
  | 2, _ => xm113_s2
  | n + 3, h => absurd h (by omega))
set_option maxRecDepth 100000 in
theorem xm114_s0 : ((xm114c.drop (12 * 0)).take 12).all (xveB xMs xm114) = true := by decide +kernel
set_option maxRecDepth 100000 in
theorem xm114_s1 : ((xm114c.drop (12 * 1)).take 12).all (xveB xMs xm114) = true := by decide +kernel
set_option maxRecDepth 100000 in
theorem xm114_s2 : ((xm114c.drop (12 * 2)).take 12).all (xveB xMs xm114) = true := by decide +kernel
theorem xm114_a : xm114c.all (xveB xMs xm114) = true := xseg_ok (n := 12) (m := 3) (by decide) (by decide +kernel) (fun k hk => match k, hk with
  | 0, _ => xm114_s0
  | 1, _ => xm114_s1
  | 2, _ => xm114_s2
  | n + 3, h => absurd h (by omega))
set_option maxRecDepth 100000 in
theorem xm115_s0 : ((xm115c.drop (12 * 0)).take 12).all (xveB xMs xm115) = true := by decide +kernel
set_option maxRecDepth 100000 in
theorem xm115_s1 : ((xm115c.drop (12 * 1)).take 12).all (xveB xMs xm115) = true := by decide +kernel
set_option maxRecDepth 100000 in
theorem xm115_s2 : ((xm115c.drop (12 * 2)).take 12).all (xveB xMs xm115) = true := by decide +kernel
set_option maxRecDepth 100000 in
theorem xm115_s3 : ((xm115c.drop (12 * 3)).take 12).all (xveB xMs xm115) = true := by decide +kernel
set_option maxRecDepth 100000 in
theorem xm115_s4 : ((xm115c.drop (12 * 4)).take 12).all (xveB xMs xm115) = true := by decide +kernel
set_option maxRecDepth 100000 in
theorem xm115_s5 : ((xm115c.drop (12 * 5)).take 12).all (xveB xMs xm115) = true := by decide +kernel
theorem xm115_a : xm115c.all (xveB xMs xm115) = true := xseg_ok (n := 12) (m := 6) (by decide) (by decide +kernel) (fun k hk => match k, hk with
  | 0, _ => xm115_s0
  | 1, _ => xm115_s1
  | 2, _ => xm115_s2
  | 3, _ => xm115_s3
  | 4, _ => xm115_s4
  | 5, _ => xm115_s5
  | n + 6, h => absurd h (by omega))
set_option maxRecDepth 100000 in
theorem xm116_s0 : ((xm116c.drop (12 * 0)).take 12).all (xveB xMs xm116) = true := by decide +kernel
set_option maxRecDepth 100000 in
theorem xm116_s1 : ((xm116c.drop (12 * 1)).take 12).all (xveB xMs xm116) = true := by decide +kernel
set_option maxRecDepth 100000 in
theorem xm116_s2 : ((xm116c.drop (12 * 2)).take 12).all (xveB xMs xm116) = true := by decide +kernel
theorem xm116_a : xm116c.all (xveB xMs xm116) = true := xseg_ok (n := 12) (m := 3) (by decide) (by decide +kernel) (fun k hk => match k, hk with
  | 0, _ => xm116_s0
  | 1, _ => xm116_s1
  | 2, _ => xm116_s2
  | n + 3, h => absurd h (by omega))
set_option maxRecDepth 100000 in
theorem xm117_s0 : ((xm117c.drop (12 * 0)).take 12).all (xveB xMs xm117) = true := by decide +kernel
theorem xm117_a : xm117c.all (xveB xMs xm117) = true := xseg_ok (n := 12) (m := 1) (by decide) (by decide +kernel) (fun k hk => match k, hk with
  | 0, _ => xm117_s0
  | n + 1, h => absurd h (by omega))
end XU
