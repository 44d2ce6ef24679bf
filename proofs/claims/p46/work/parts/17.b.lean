section XU
set_option maxRecDepth 100000 in
theorem xm38_s0 : ((xm38c.drop (12 * 0)).take 12).all (xveB xMs xm38) = true := by decide +kernel
set_option maxRecDepth 100000 in
theorem xm38_s1 : ((xm38c.drop (12 * 1)).take 12).all (xveB xMs xm38) = true := by decide +kernel
set_option maxRecDepth 100000 in
theorem xm38_s2 : ((xm38c.drop (12 * 2)).take 12).all (xveB xMs xm38) = true := by decide +kernel
set_option maxRecDepth 100000 in
theorem xm38_s3 : ((xm38c.drop (12 * 3)).take 12).all (xveB xMs xm38) = true := by decide +kernel
theorem xm38_a : xm38c.all (xveB xMs xm38) = true := xseg_ok (n := 12) (m := 4) (by decide) (by decide +kernel) (fun k hk => match k, hk with
  | 0, _ => xm38_s0
  | 1, _ => xm38_s1
  | 2, _ => xm38_s2
  | 3, _ => xm38_s3
  | n + 4, h => absurd h (by omega))
set_option maxRecDepth 100000 in
theorem xm39_s0 : ((xm39c.drop (12 * 0)).take 12).all (xveB xMs xm39) = true := by decide +kernel
theorem xm39_a : xm39c.all (xveB xMs xm39) = true := xseg_ok (n := 12) (m := 1) (by decide) (by decide +kernel) (fun k hk => match k, hk with
  | 0, _ => xm39_s0
  | n + 1, h => absurd h (by omega))
set_option maxRecDepth 100000 in
theorem xm40_s0 : ((xm40c.drop (12 * 0)).take 12).all (xveB xMs xm40) = true := by decide +kernel
set_option maxRecDepth 100000 in
theorem xm40_s1 : ((xm40c.drop (12 * 1)).take 12).all (xveB xMs xm40) = true := by decide +kernel
set_option maxRecDepth 100000 in
theorem xm40_s2 : ((xm40c.drop (12 * 2)).take 12).all (xveB xMs xm40) = true := by decide +kernel
set_option maxRecDepth 100000 in
theorem xm40_s3 : ((xm40c.drop (12 * 3)).take 12).all (xveB xMs xm40) = true := by decide +kernel
set_option maxRecDepth 100000 in
theorem xm40_s4 : ((xm40c.drop (12 * 4)).take 12).all (xveB xMs xm40) = true := by decide +kernel
set_option maxRecDepth 100000 in
theorem xm40_s5 : ((xm40c.drop (12 * 5)).take 12).all (xveB xMs xm40) = true := by decide +kernel
set_option maxRecDepth 100000 in
theorem xm40_s6 : ((xm40c.drop (12 * 6)).take 12).all (xveB xMs xm40) = true := by decide +kernel
set_option maxRecDepth 100000 in
theorem xm40_s7 : ((xm40c.drop (12 * 7)).take 12).all (xveB xMs xm40) = true := by decide +kernel
set_option maxRecDepth 100000 in
theorem xm40_s8 : ((xm40c.drop (12 * 8)).take 12).all (xveB xMs xm40) = true := by decide +kernel
set_option maxRecDepth 100000 in
theorem xm40_s9 : ((xm40c.drop (12 * 9)).take 12).all (xveB xMs xm40) = true := by decide +kernel
theorem xm40_a : xm40c.all (xveB xMs xm40) = true := xseg_ok (n := 12) (m := 10) (by decide) (by decide +kernel) (fun k hk => match k, hk with
  | 0, _ => xm40_s0
  | 1, _ => xm40_s1
  | 2, _ => xm40_s2
  | 3, _ => xm40_s3
  | 4, _ => xm40_s4
  | 5, _ => xm40_s5
  | 6, _ => xm40_s6
  | 7, _ => xm40_s7
  | 8, _ => xm40_s8
  | 9, _ => xm40_s9
  | n + 10, h => absurd h (by omega))
set_option maxRecDepth 100000 in
theorem xm41_s0 : ((xm41c.drop (12 * 0)).take 12).all (xveB xMs xm41) = true := by decide +kernel
theorem xm41_a : xm41c.all (xveB xMs xm41) = true := xseg_ok (n := 12) (m := 1) (by decide) (by decide +kernel) (fun k hk => match k, hk with
  | 0, _ => xm41_s0
  | n + 1, h => absurd h (by omega))
set_option maxRecDepth 100000 in
theorem xm42_s0 : ((xm42c.drop (12 * 0)).take 12).all (xveB xMs xm42) = true := by decide +kernel
set_option maxRecDepth 100000 in
theorem xm42_s1 : ((xm42c.drop (12 * 1)).take 12).all (xveB xMs xm42) = true := by decide +kernel
set_option maxRecDepth 100000 in
theorem xm42_s2 : ((xm42c.drop (12 * 2)).take 12).all (xveB xMs xm42) = true := by decide +kernel
set_option maxRecDepth 100000 in
theorem xm42_s3 : ((xm42c.drop (12 * 3)).take 12).all (xveB xMs xm42) = true := by decide +kernel
set_option maxRecDepth 100000 in
theorem xm42_s4 : ((xm42c.drop (12 * 4)).take 12).all (xveB xMs xm42) = true := by decide +kernel
set_option maxRecDepth 100000 in
theorem xm42_s5 : ((xm42c.drop (12 * 5)).take 12).all (xveB xMs xm42) = true := by decide +kernel
set_option maxRecDepth 100000 in
theorem xm42_s6 : ((xm42c.drop (12 * 6)).take 12).all (xveB xMs xm42) = true := by decide +kernel
set_option maxRecDepth 100000 in
theorem xm42_s7 : ((xm42c.drop (12 * 7)).take 12).all (xveB xMs xm42) = true := by decide +kernel
theorem xm42_a : xm42c.all (xveB xMs xm42) = true := xseg_ok (n := 12) (m := 8) (by decide) (by decide +kernel) (fun k hk => match k, hk with
  | 0, _ => xm42_s0
  | 1, _ => xm42_s1
  | 2, _ => xm42_s2
  | 3, _ => xm42_s3
  | 4, _ => xm42_s4
  | 5, _ => xm42_s5
  | 6, _ => xm42_s6
  | 7, _ => xm42_s7
  | n + 8, h => absurd h (by omega))
set_option maxRecDepth 100000 in
theorem xm43_s0 : ((xm43c.drop (12 * 0)).take 12).all (xveB xMs xm43) = true := by decide +kernel
theorem xm43_a : xm43c.all (xveB xMs xm43) = true := xseg_ok (n := 12) (m := 1) (by decide) (by decide +kernel) (fun k hk => match k, hk with
  | 0, _ => xm43_s0
  | n + 1, h => absurd h (by omega))
set_option maxRecDepth 100000 in
theorem xm44_s0 : ((xm44c.drop (12 * 0)).take 12).all (xveB xMs xm44) = true := by decide +kernel
set_option maxRecDepth 100000 in
theorem xm44_s1 : ((xm44c.drop (12 * 1)).take 12).all (xveB xMs xm44) = true := by decide +kernel
theorem xm44_a : xm44c.all (xveB xMs xm44) = true := xseg_ok (n := 12) (m := 2) (by decide) (by decide +kernel) (fun k hk => match k, hk with
  | 0, _ => xm44_s0
  | 1, _ => xm44_s1
  | n + 2, h => absurd h (by omega))
set_option maxRecDepth 100000 in
theorem xm45_s0 : ((xm45c.drop (12 * 0)).take 12).all (xveB xMs xm45) = true := by decide +kernel
theorem xm45_a : xm45c.all (xveB xMs xm45) = true := xseg_ok (n := 12) (m := 1) (by decide) (by decide +kernel) (fun k hk => match k, hk with
  | 0, _ => xm45_s0
  | n + 1, h => absurd h (by omega))
set_option maxRecDepth 100000 in
theorem xm46_s0 : ((xm46c.drop (12 * 0)).take 12).all (xveB xMs xm46) = true := by decide +kernel
theorem xm46_a : xm46c.all (xveB xMs xm46) = true := xseg_ok (n := 12) (m := 1) (by decide) (by decide +kernel) (fun k hk => match k, hk with
  | 0, _ => xm46_s0
  | n + 1, h => absurd h (by omega))
set_option maxRecDepth 100000 in
theorem xm47_s0 : ((xm47c.drop (12 * 0)).take 12).all (xveB xMs xm47) = true := by decide +kernel
theorem xm47_a : xm47c.all (xveB xMs xm47) = true := xseg_ok (n := 12) (m := 1) (by decide) (by decide +kernel) (fun k hk => match k, hk with
  | 0, _ => xm47_s0
  | n + 1, h => absurd h (by omega))
set_option maxRecDepth 100000 in
theorem xm48_s0 : ((xm48c.drop (12 * 0)).take 12).all (xveB xMs xm48) = true := by decide +kernel
theorem xm48_a : xm48c.all (xveB xMs xm48) = true := xseg_ok (n := 12) (m := 1) (by decide) (by decide +kernel) (fun k hk => match k, hk with
  | 0, _ => xm48_s0
  | n + 1, h => absurd h (by omega))
set_option maxRecDepth 100000 in
theorem xm49_s0 : ((xm49c.drop (12 * 0)).take 12).all (xveB xMs xm49) = true := by decide +kernel
theorem xm49_a : xm49c.all (xveB xMs xm49) = true := xseg_ok (n := 12) (m := 1) (by decide) (by decide +kernel) (fun k hk => match k, hk with
  | 0, _ => xm49_s0
  | n + 1, h => absurd h (by omega))
set_option maxRecDepth 100000 in
theorem xm50_s0 : ((xm50c.drop (12 * 0)).take 12).all (xveB xMs xm50) = true := by decide +kernel
theorem xm50_a : xm50c.all (xveB xMs xm50) = true := xseg_ok (n := 12) (m := 1) (by decide) (by decide +kernel) (fun k hk => match k, hk with
  | 0, _ => xm50_s0
  | n + 1, h => absurd h (by omega))
set_option maxRecDepth 100000 in
theorem xm51_s0 : ((xm51c.drop (12 * 0)).take 12).all (xveB xMs xm51) = true := by decide +kernel
theorem xm51_a : xm51c.all (xveB xMs xm51) = true := xseg_ok (n := 12) (m := 1) (by decide) (by decide +kernel) (fun k hk => match k, hk with
  | 0, _ => xm51_s0
  | n + 1, h => absurd h (by omega))
set_option maxRecDepth 100000 in
theorem xm52_s0 : ((xm52c.drop (12 * 0)).take 12).all (xveB xMs xm52) = true := by decide +kernel
theorem xm52_a : xm52c.all (xveB xMs xm52) = true := xseg_ok (n := 12) (m := 1) (by decide) (by decide +kernel) (fun k hk => match k, hk with
  | 0, _ => xm52_s0
  | n + 1, h => absurd h (by omega))
set_option maxRecDepth 100000 in
theorem xm53_s0 : ((xm53c.drop (12 * 0)).take 12).all (xveB xMs xm53) = true := by decide +kernel
set_option maxRecDepth 100000 in
theorem xm53_s1 : ((xm53c.drop (12 * 1)).take 12).all (xveB xMs xm53) = true := by decide +kernel
set_option maxRecDepth 100000 in
theorem xm53_s2 : ((xm53c.drop (12 * 2)).take 12).all (xveB xMs xm53) = true := by decide +kernel
theorem xm53_a : xm53c.all (xveB xMs xm53) = true := xseg_ok (n := 12) (m := 3) (by decide) (by decide +kernel) (fun k hk => match k, hk with
  | 0, _ => xm53_s0
  | 1, _ => xm53_s1
  | 2, _ => xm53_s2
  | n + 3, h => absurd h (by omega))
set_option maxRecDepth 100000 in
theorem xm54_s0 : ((xm54c.drop (12 * 0)).take 12).all (xveB xMs xm54) = true := by decide +kernel
theorem xm54_a : xm54c.all (xveB xMs xm54) = true := xseg_ok (n := 12) (m := 1) (by decide) (by decide +kernel) (fun k hk => match k, hk with
  | 0, _ => xm54_s0
  | n + 1, h => absurd h (by omega))
set_option maxRecDepth 100000 in
theorem xm55_s0 : ((xm55c.drop (12 * 0)).take 12).all (xveB xMs xm55) = true := by decide +kernel
set_option maxRecDepth 100000 in
theorem xm55_s1 : ((xm55c.drop (12 * 1)).take 12).all (xveB xMs xm55) = true := by decide +kernel
set_option maxRecDepth 100000 in
theorem xm55_s2 : ((xm55c.drop (12 * 2)).take 12).all (xveB xMs xm55) = true := by decide +kernel
set_option maxRecDepth 100000 in
theorem xm55_s3 : ((xm55c.drop (12 * 3)).take 12).all (xveB xMs xm55) = true := by decide +kernel
theorem xm55_a : xm55c.all (xveB xMs xm55) = true := xseg_ok (n := 12) (m := 4) (by decide) (by decide +kernel) (fun k hk => match k, hk with
  | 0, _ => xm55_s0
  | 1, _ => xm55_s1
  | 2, _ => xm55_s2
  | 3, _ => xm55_s3
  | n + 4, h => absurd h (by omega))
set_option maxRecDepth 100000 in
theorem xm56_s0 : ((xm56c.drop (12 * 0)).take 12).all (xveB xMs xm56) = true := by decide +kernel
set_option maxRecDepth 100000 in
theorem xm56_s1 : ((xm56c.drop (12 * 1)).take 12).all (xveB xMs xm56) = true := by decide +kernel
theorem xm56_a : xm56c.all (xveB xMs xm56) = true := xseg_ok (n := 12) (m := 2) (by decide) (by decide +kernel) (fun k hk => match k, hk with
  | 0, _ => xm56_s0
  | 1, _ => xm56_s1
  | n + 2, h => absurd h (by omega))
set_option maxRecDepth 100000 in
theorem xm57_s0 : ((xm57c.drop (12 * 0)).take 12).all (xveB xMs xm57) = true := by decide +kernel
set_option maxRecDepth 100000 in
theorem xm57_s1 : ((xm57c.drop (12 * 1)).take 12).all (xveB xMs xm57) = true := by decide +kernel
set_option maxRecDepth 100000 in
theorem xm57_s2 : ((xm57c.drop (12 * 2)).take 12).all (xveB xMs xm57) = true := by decide +kernel
set_option maxRecDepth 100000 in
theorem xm57_s3 : ((xm57c.drop (12 * 3)).take 12).all (xveB xMs xm57) = true := by decide +kernel
set_option maxRecDepth 100000 in
theorem xm57_s4 : ((xm57c.drop (12 * 4)).take 12).all (xveB xMs xm57) = true := by decide +kernel
set_option maxRecDepth 100000 in
theorem xm57_s5 : ((xm57c.drop (12 * 5)).take 12).all (xveB xMs xm57) = true := by decide +kernel
theorem xm57_a : xm57c.all (xveB xMs xm57) = true := xseg_ok (n := 12) (m := 6) (by decide) (by decide +kernel) (fun k hk => match k, hk with
  | 0, _ => xm57_s0
  | 1, _ => xm57_s1
  | 2, _ => xm57_s2
  | 3, _ => xm57_s3
  | 4, _ => xm57_s4
  | 5, _ => xm57_s5
  | n + 6, h => absurd h (by omega))
set_option maxRecDepth 100000 in
theorem xm58_s0 : ((xm58c.drop (12 * 0)).take 12).all (xveB xMs xm58) = true := by decide +kernel
theorem xm58_a : xm58c.all (xveB xMs xm58) = true := xseg_ok (n := 12) (m := 1) (by decide) (by decide +kernel) (fun k hk => match k, hk with
  | 0, _ => xm58_s0
  | n + 1, h => absurd h (by omega))
set_option maxRecDepth 100000 in
theorem xm59_s0 : ((xm59c.drop (12 * 0)).take 12).all (xveB xMs xm59) = true := by decide +kernel
theorem xm59_a : xm59c.all (xveB xMs xm59) = true := xseg_ok (n := 12) (m := 1) (by decide) (by decide +kernel) (fun k hk => match k, hk with
  | 0, _ => xm59_s0
  | n + 1, h => absurd h (by omega))
set_option maxRecDepth 100000 in
theorem xm60_s0 : ((xm60c.drop (12 * 0)).take 12).all (xveB xMs xm60) = true := by decide +kernel
theorem xm60_a : xm60c.all (xveB xMs xm60) = true := xseg_ok (n := 12) (m := 1) (by decide) (by decide +kernel) (fun k hk => match k, hk with
  | 0, _ => xm60_s0
  | n + 1, h => absurd h (by omega))
set_option maxRecDepth 100000 in
theorem xm61_s0 : ((xm61c.drop (12 * 0)).take 12).all (xveB xMs xm61) = true := by decide +kernel
theorem xm61_a : xm61c.all (xveB xMs xm61) = true := xseg_ok (n := 12) (m := 1) (by decide) (by decide +kernel) (fun k hk => match k, hk with
  | 0, _ => xm61_s0
  | n + 1, h => absurd h (by omega))
set_option maxRecDepth 100000 in
theorem xm62_s0 : ((xm62c.drop (12 * 0)).take 12).all (xveB xMs xm62) = true := by decide +kernel
set_option maxRecDepth 100000 in
theorem xm62_s1 : ((xm62c.drop (12 * 1)).take 12).all (xveB xMs xm62) = true := by decide +kernel
theorem xm62_a : xm62c.all (xveB xMs xm62) = true := xseg_ok (n := 12) (m := 2) (by decide) (by decide +kernel) (fun k hk => match k, hk with
  | 0, _ => xm62_s0
  | 1, _ => xm62_s1
  | n + 2, h => absurd h (by omega))
set_option maxRecDepth 100000 in
theorem xm63_s0 : ((xm63c.drop (12 * 0)).take 12).all (xveB xMs xm63) = true := by decide +kernel
theorem xm63_a : xm63c.all (xveB xMs xm63) = true := xseg_ok (n := 12) (m := 1) (by decide) (by decide +kernel) (fun k hk => match k, hk with
  | 0, _ => xm63_s0
  | n + 1, h => absurd h (by omega))
set_option maxRecDepth 100000 in
theorem xm64_s0 : ((xm64c.drop (12 * 0)).take 12).all (xveB xMs xm64) = true := by decide +kernel
set_option maxRecDepth 100000 in
theorem xm64_s1 : ((xm64c.drop (12 * 1)).take 12).all (xveB xMs xm64) = true := by decide +kernel
set_option maxRecDepth 100000 in
theorem xm64_s2 : ((xm64c.drop (12 * 2)).take 12).all (xveB xMs xm64) = true := by decide +kernel
theorem xm64_a : xm64c.all (xveB xMs xm64) = true := xseg_ok (n := 12) (m := 3) (by decide) (by decide +kernel) (fun k hk => match k, hk with
  | 0, _ => xm64_s0
  | 1, _ => xm64_s1
  | 2, _ => xm64_s2
  | n + 3, h => absurd h (by omega))
set_option maxRecDepth 100000 in
theorem xm65_s0 : ((xm65c.drop (12 * 0)).take 12).all (xveB xMs xm65) = true := by decide +kernel
set_option maxRecDepth 100000 in
theorem xm65_s1 : ((xm65c.drop (12 * 1)).take 12).all (xveB xMs xm65) = true := by decide +kernel
theorem xm65_a : xm65c.all (xveB xMs xm65) = true := xseg_ok (n := 12) (m := 2) (by decide) (by decide +kernel) (fun k hk => match k, hk with
  | 0, _ => xm65_s0
  | 1, _ => xm65_s1
  | n + 2, h => absurd h (by omega))
set_option maxRecDepth 100000 in
theorem xm66_s0 : ((xm66c.drop (12 * 0)).take 12).all (xveB xMs xm66) = true := by decide +kernel
set_option maxRecDepth 100000 in
theorem xm66_s1 : ((xm66c.drop (12 * 1)).take 12).all (xveB xMs xm66) = true := by decide +kernel
set_option maxRecDepth 100000 in
theorem xm66_s2 : ((xm66c.drop (12 * 2)).take 12).all (xveB xMs xm66) = true := by decide +kernel
set_option maxRecDepth 100000 in
theorem xm66_s3 : ((xm66c.drop (12 * 3)).take 12).all (xveB xMs xm66) = true := by decide +kernel
theorem xm66_a : xm66c.all (xveB xMs xm66) = true := xseg_ok (n := 12) (m := 4) (by decide) (by decide +kernel) (fun k hk => match k, hk with
  | 0, _ => xm66_s0
  | 1, _ => xm66_s1
  | 2, _ => xm66_s2
  | 3, _ => xm66_s3
  | n + 4, h => absurd h (by omega))
end XU
