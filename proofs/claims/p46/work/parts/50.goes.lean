/-! what goes, by the law (printed by wip/p46/gen50.py) -/
section XKu
theorem Gq_fr {S : ScT} {M : XM} {pc : Nat} {lv : XL} {st : List Value} {H : HF} {n ce sl : Nat} {Q : XLf → Prop} (h : Frs H n → Gw S M pc lv st H n ce sl Q) : Gw S M pc lv st H n ce sl Q := fun h0 e f => h f h0 e f
theorem LF_nw {H G : HF} {n : Nat} (hF : Frs H n) (hn : 86 ≤ n) (h : ∀ o, o < n → G o = H o) : LF H G := ⟨fun o ho => h o (by omega), fun o vs _ hc => by rw [h o (Fr_lt hF hc)]; exact hc⟩
theorem let_all9 : ((List.range 6).all fun k => (List.range 3).all fun a => (List.range 3).all fun b => (List.range 3).all fun c => (List.range 3).all fun x => (List.range 3).all fun y => (List.range 3).all fun z => letB ((k : Nat) : Int) ((a : Nat) : Int) ((b : Nat) : Int) ((c : Nat) : Int) (f3 ((x : Nat) : Int) ((y : Nat) : Int) ((z : Nat) : Int)) == cIn (mkC 0 0 0 ((k : Nat) : Int) (mkM ((a : Nat) : Int) ((b : Nat) : Int) ((c : Nat) : Int))) (mkM ((x : Nat) : Int) ((y : Nat) : Int) ((z : Nat) : Int))) = true := by decide +kernel
theorem all_rg {N : Nat} {f : Nat → Bool} (h : (List.range N).all f = true) {k : Nat} (hk : k < N) : f k = true := List.all_eq_true.mp h k (List.mem_range.mpr hk)
theorem let_all {k a b c x y z : Nat} (hk : k < 6) (ha : a < 3) (hb : b < 3) (hc : c < 3) (hx : x < 3) (hy : y < 3) (hz : z < 3) : letB ((k : Nat) : Int) ((a : Nat) : Int) ((b : Nat) : Int) ((c : Nat) : Int) (f3 ((x : Nat) : Int) ((y : Nat) : Int) ((z : Nat) : Int)) = cIn (mkC 0 0 0 ((k : Nat) : Int) (mkM ((a : Nat) : Int) ((b : Nat) : Int) ((c : Nat) : Int))) (mkM ((x : Nat) : Int) ((y : Nat) : Int) ((z : Nat) : Int)) :=
  eq_of_beq (all_rg (all_rg (all_rg (all_rg (all_rg (all_rg (all_rg let_all9 hk) ha) hb) hc) hx) hy) hz)
theorem let_f3 (k a b c : Int) (g : Nat → Int) : letB k a b c g = letB k a b c (f3 (g 0) (g 1) (g 2)) := rfl
theorem let_in {P : Nat} {r : NR} (h : NRok P r) {g : Nat → Int} (hg : ∀ j, j < 3 → 0 ≤ g j ∧ g j ≤ 2) : letB (rK r) (rA r) (rB r) (rD r) g = cIn (crN r) (mkM (g 0) (g 1) (g 2)) := by
  obtain ⟨-, -, -, h4, h5, h6, h7⟩ := h
  have g0 := hg 0 (by omega)
  have g1 := hg 1 (by omega)
  have g2 := hg 2 (by omega)
  have e := let_all (k := (rK r).toNat) (a := (rA r).toNat) (b := (rB r).toNat) (c := (rD r).toNat) (x := (g 0).toNat) (y := (g 1).toNat) (z := (g 2).toNat) (by omega) (by omega) (by omega) (by omega) (by omega) (by omega) (by omega)
  rw [Int.toNat_of_nonneg h4.1, Int.toNat_of_nonneg h5.1, Int.toNat_of_nonneg h6.1, Int.toNat_of_nonneg h7.1, Int.toNat_of_nonneg g0.1, Int.toNat_of_nonneg g1.1, Int.toNat_of_nonneg g2.1] at e
  rw [let_f3]
  exact e
theorem sml_num {g : Nat → Int} (hg : ∀ j, j < 3 → 0 ≤ g j ∧ g j ≤ 2) : sml g 3 := fun j hj => by
  have := hg j hj
  omega
theorem sml_6 {P : Nat} (hP : P ≤ 6) {r : NR} (h : NRok P r) (N : Nat) : sml (rw6 r) N := fun j _ => by
  obtain ⟨h1, -, h3, h4, h5, h6, h7⟩ := h
  unfold rw6
  split
  · omega
  · split
    · omega
    · split
      · omega
      · split
        · omega
        · split <;> omega
theorem sml_7 {P : Nat} (hP : P ≤ 6) {l : List NR} (h : ∀ r ∈ l, NRok P r) (N : Nat) : sml (rw7 l) N := fun j _ => by
  unfold rw7
  split
  · omega
  · rename_i r hr
    obtain ⟨h1, h2, h3, h4, h5, h6, h7⟩ := h r (List.mem_of_getElem? hr)
    unfold c7
    split
    · omega
    · split
      · omega
      · split
        · omega
        · split
          · omega
          · split
            · omega
            · split <;> omega
theorem sml_5 {P : Nat} (hP : P ≤ 6) {l : List NR} (h : ∀ r ∈ l, NRok P r) (N : Nat) : sml (rw5 l) N := fun j _ => by
  unfold rw5
  split
  · omega
  · rename_i r hr
    obtain ⟨h1, h2, h3, h4, h5, h6, h7⟩ := h r (List.mem_of_getElem? hr)
    unfold c5
    split
    · omega
    · split
      · omega
      · split
        · omega
        · split <;> omega
theorem let7 {l : List NR} {k : Nat} {r : NR} (h : l[k]? = some r) (g : Nat → Int) : letB (rw7 l (7 * k + 3)) (rw7 l (7 * k + 3 + 1)) (rw7 l (7 * k + 3 + 2)) (rw7 l (7 * k + 3 + 3)) g = letB (rK r) (rA r) (rB r) (rD r) g := by
  rw [rw7_at h 3 (by omega), show 7 * k + 3 + 1 = 7 * k + 4 from rfl, rw7_at h 4 (by omega), show 7 * k + 3 + 2 = 7 * k + 5 from rfl, rw7_at h 5 (by omega), show 7 * k + 3 + 3 = 7 * k + 6 from rfl, rw7_at h 6 (by omega)]
  rfl
theorem let5 {l : List NR} {r : NR} (h : l[0]? = some r) (g : Nat → Int) : letB (rw5 l 1) (rw5 l (1 + 1)) (rw5 l (1 + 2)) (rw5 l (1 + 3)) g = letB (rK r) (rA r) (rB r) (rD r) g := by
  have e1 := rw5_at h 1 (by omega)
  have e2 := rw5_at h 2 (by omega)
  have e3 := rw5_at h 3 (by omega)
  have e4 := rw5_at h 4 (by omega)
  rw [show rw5 l 1 = _ from e1, show rw5 l (1 + 1) = _ from e2, show rw5 l (1 + 2) = _ from e3, show rw5 l (1 + 3) = _ from e4]
  rfl
section
variable {P : Nat} {cnt : Nat → Nat} {vd : Nat → Nat → Nat} {vr : Nat → VR} {wl : List CR} {siz : Nat → Nat → Int} {wdr : Nat → Nat → Bool} {num : Nat → Nat → Nat → Int} {nd kd : Nat → Nat → List NR} {ws : List NR} {lk : Nat → Option Nat}
theorem grt_let (hK : Lnk P cnt vd vr siz wdr num nd kd ws wl) (hL : ∀ q o, lk q = some o → Own P cnt vd q o) {r : NR} (hr : NRok P r) (h : grtB vr lk true (crN r) = true) : ∃ i, i < cnt (rT r) ∧ i < 4 ∧ lkI P vr lk (rT r) = (i : Int) ∧ letB (rK r) (rA r) (rB r) (rD r) (num (rT r) i) = true := by
  unfold grtB at h
  cases hx : lk (rT r) with
  | none =>
    rw [show cT (crN r) = rT r from rfl, hx] at h
    cases h
  | some y =>
    rw [show cT (crN r) = rT r from rfl, hx] at h
    obtain ⟨i, hp, hi, hi4, rfl, -, e5, -⟩ := lk_of hK hL hx
    refine ⟨i, hi, hi4, e5, ?_⟩
    rw [let_in hr (fun j hj => hK.2.2.2.2.2.1 _ i j hp hi hj), ← h]
    dsimp only
    rw [hK.2.2.1 _ i hp hi]
    rfl
theorem fr_let (hK : Lnk P cnt vd vr siz wdr num nd kd ws wl) (hL : ∀ q o, lk q = some o → Own P cnt vd q o) {r : NR} (hr : NRok P r) (h : frB vr lk (crN r) = true) : lkI P vr lk (rT r) = -1 ∨ ∃ i, i < cnt (rT r) ∧ i < 4 ∧ lkI P vr lk (rT r) = (i : Int) ∧ letB (rK r) (rA r) (rB r) (rD r) (num (rT r) i) = false := by
  unfold frB at h
  cases hx : lk (rT r) with
  | none => exact .inl (lk_no hx)
  | some y =>
    rw [show cT (crN r) = rT r from rfl, hx] at h
    obtain ⟨i, hp, hi, hi4, rfl, -, e5, -⟩ := lk_of hK hL hx
    refine .inr ⟨i, hi, hi4, e5, ?_⟩
    rw [let_in hr (fun j hj => hK.2.2.2.2.2.1 _ i j hp hi hj)]
    dsimp only at h
    rw [hK.2.2.1 _ i hp hi] at h
    exact Bool.not_eq_true' _ ▸ h
end
theorem t_go_a {L : Nat} {ys : Nat → Int32} (hLs : L ≤ 100000) {q d P x y n0 : Nat} {cnt : Nat → Nat} {vd : Nat → Nat → Nat} {vr : Nat → VR} {wl : List CR} {siz : Nat → Nat → Int} {wdr : Nat → Nat → Bool} {num : Nat → Nat → Nat → Int} {nd kd : Nat → Nat → List NR} {ws : List NR} {nid qid kid : Nat → Nat → Nat} {wid : Nat → Nat} {lk : Nat → Option Nat} {H0 : HF} {on : Nat → Nat} (hLw : LwP H0 q d P cnt siz wdr num nd kd ws nid qid kid wid) (hK : Lnk P cnt vd vr siz wdr num nd kd ws wl) (hL : ∀ q o, lk q = some o → Own P cnt vd q o) (hF : Frs H0 n0) (hx : 119 ≤ x ∧ 119 ≤ y) (h1 : H0 x = some (true, 0, aI 6 (lkI P vr lk))) (h3 : H0 y = some (true, 0, aNt 6 on)) (hw : ∀ r ∈ ws, grtB vr lk true (crN r) = true) {Q : XLf → Prop} (hQ : NoL Q) (kk : ∀ (H : HF) (n ce sl : Nat), (∀ o, o < n0 → H o = H0 o) → n0 ≤ n → ce ≤ 7 → sl ≤ 24 → Gw (some (L, ys)) xm139 85 [(0, .ref 0), (1, .ref x), (2, .int 1), (3, .ref y), (4, .int (zI ((0 : Nat) : Int)))] [] H n ce sl Q) : ∀ (l : List NR) (j : Nat) (H : HF) (n ce sl : Nat), ws.drop j = l → j ≤ 6 → (∀ o, o < n0 → H o = H0 o) → n0 ≤ n → ce ≤ 1 + j → sl ≤ 6 + 3 * j → Gw (some (L, ys)) xm139 9 [(0, .ref 0), (1, .ref x), (2, .int 1), (3, .ref y), (4, .int (zI (j : Int)))] [] H n ce sl Q := by
  intro l
  induction l with
  | nil =>
    intro j H n ce sl hl hj hH hn hce hsl
    have hjl := drop_nil_at hl
    obtain ⟨h0, -, ⟨hm0, hm1⟩, -, -, ⟨hq0, hq1⟩, ⟨hk0, hk1⟩, hws, hnd, hqd, hkd, hwd⟩ := id hLw
    obtain ⟨⟨hP2, hP6⟩, hcnt, hvr, ⟨hwl, hwn, hwr⟩, hkk, hnm, -⟩ := id hK
    have hxn := Fr_lt hF h1
    have hyn := Fr_lt hF h3
    refine Gq_s (pc' := 11) rfl rfl rfl ?_
    refine Gq_s (pc' := 12) rfl rfl rfl ?_
    refine Gq_get (pc' := 15) rfl rfl (by refine (hH _ (by omega)).trans ?_; assumption) (by exact rfl) ?_
    refine Gq_cge (pc' := 18) (t := 82) rfl rfl rfl (by omega) (by omega) (fun _ => ?_) (fun hq => absurd (by omega) hq)
    refine Gq_s (pc' := 83) rfl rfl rfl ?_
    refine Gq_s (pc' := 85) (lv' := [(0, _), (1, _), (2, _), (3, _), (4, _)]) rfl rfl rfl ?_
    exact kk H n ce sl hH hn (by omega) (by omega)
  | cons r t ih =>
    intro j H n ce sl hl hj hH hn hce hsl
    obtain ⟨e1, e2, e3⟩ := drop_at hl
    obtain ⟨h0, -, ⟨hm0, hm1⟩, -, -, ⟨hq0, hq1⟩, ⟨hk0, hk1⟩, hws, hnd, hqd, hkd, hwd⟩ := id hLw
    obtain ⟨⟨hP2, hP6⟩, hcnt, hvr, ⟨hwl, hwn, hwr⟩, hkk, hnm, -⟩ := id hK
    have hxn := Fr_lt hF h1
    have hyn := Fr_lt hF h3
    have hrm := List.mem_of_getElem? e1
    have hr := hwr r hrm
    have hwj := (hwd j r e1).2
    have hwj2 := Fr_lt hF hwj
    obtain ⟨i, hi, hi4, e5, e6⟩ := grt_let hK hL hr (hw r hrm)
    have hn9 := (hnd (rT r) i (by have := hr.1; omega) hi).2
    have hn92 := Fr_lt hF hn9
    have hm9 := hm1 (rT r) (by have := hr.1; omega)
    have hr1 := hr.1
    refine Gq_s (pc' := 11) rfl rfl rfl ?_
    refine Gq_s (pc' := 12) rfl rfl rfl ?_
    refine Gq_get (pc' := 15) rfl rfl (by refine (hH _ (by omega)).trans ?_; assumption) (by exact rfl) ?_
    refine Gq_cge (pc' := 18) (t := 82) rfl rfl rfl (by omega) (by omega) (fun hq => absurd hq (by omega)) (fun _ => ?_)
    refine Gq_s (pc' := 19) rfl rfl rfl ?_
    refine Gq_s (pc' := 20) rfl rfl rfl ?_
    refine Gq_get (pc' := 23) rfl rfl (by refine (hH _ (by omega)).trans ?_; assumption) (by exact rfl) ?_
    refine Gq_s (pc' := 25) rfl rfl rfl ?_
    refine Gq_aald (pc' := 26) rfl rfl (by refine (hH _ (by omega)).trans ?_; assumption) (by exact rfl) (rfl) (by omega) (by omega) (rv_if e3) ?_
    refine Gq_s (pc' := 27) rfl rfl rfl ?_
    refine Gq_iald (pc' := 28) (j := 0) rfl rfl (by refine (hH _ (by omega)).trans ?_; assumption) (rfl) (by omega) (by omega) ?_
    refine Gq_iald (pc' := 29) (j := rT r) rfl rfl (by refine (hH _ (by omega)).trans ?_; assumption) (rfl) (by omega) (by omega) ?_
    rw [e5]
    refine Gq_s (pc' := 31) (lv' := [(0, _), (1, _), (2, _), (3, _), (4, _), (5, _)]) rfl rfl rfl ?_
    refine Gq_s (pc' := 33) rfl rfl rfl ?_
    refine Gq_zge (pc' := 36) (t := 43) rfl rfl rfl (by omega) (fun _ => ?_) (fun hq => absurd (by omega) hq)
    refine Gq_s (pc' := 44) rfl rfl rfl ?_
    refine Gq_get (pc' := 47) rfl rfl (by refine (hH _ (by omega)).trans ?_; assumption) (by exact rfl) ?_
    refine Gq_s (pc' := 49) rfl rfl rfl ?_
    refine Gq_aald (pc' := 50) rfl rfl (by refine (hH _ (by omega)).trans ?_; assumption) (by exact rfl) (rfl) (by omega) (by omega) (rv_if e3) ?_
    refine Gq_s (pc' := 51) rfl rfl rfl ?_
    refine Gq_s (pc' := 52) rfl rfl rfl ?_
    refine Gq_get (pc' := 55) rfl rfl (by refine (hH _ (by omega)).trans ?_; assumption) (by exact rfl) ?_
    refine Gq_s (pc' := 56) rfl rfl rfl ?_
    refine Gq_get (pc' := 59) rfl rfl (by refine (hH _ (by omega)).trans ?_; assumption) (by exact rfl) ?_
    refine Gq_s (pc' := 61) rfl rfl rfl ?_
    refine Gq_aald (pc' := 62) rfl rfl (by refine (hH _ (by omega)).trans ?_; assumption) (by exact rfl) (rfl) (by omega) (by omega) (rv_if e3) ?_
    refine Gq_s (pc' := 63) rfl rfl rfl ?_
    refine Gq_iald (pc' := 64) (j := 0) rfl rfl (by refine (hH _ (by omega)).trans ?_; assumption) (rfl) (by omega) (by omega) ?_
    refine Gq_aald (pc' := 65) (j := rT r) rfl rfl (by refine (hH _ (by omega)).trans ?_; assumption) (by exact rfl) (rfl) (by omega) (by omega) (rfl) ?_
    refine Gq_s (pc' := 67) rfl rfl rfl ?_
    refine Gq_aald (pc' := 68) (j := i) rfl rfl (by refine (hH _ (by omega)).trans ?_; assumption) (by exact rfl) (rfl) (by omega) (by omega) (rv_if hi) ?_
    refine Gq_callsA (pc' := 71) (Y := xm131) (rest := []) (cY := 1) (sY := 3) (cM := 30) (sM := 120) rfl rfl rfl rfl rfl rfl rfl rfl rfl rfl rfl rfl (by omega) (by omega) (t_lets hLs (at_ := 2) n ((hH _ (by omega)).trans hwj) ((hH _ (by omega)).trans hn9) (by omega) (by omega) (sml_6 hP6 hr 6) (sml_num (fun j hj => hnm _ i j hr1 hi hj)) hr.2.2.2.1) (fun v1 H1 n1 hv => ?_)
    obtain ⟨rfl, rfl, hG⟩ := hv
    refine Gq_bne (pc' := 74) (t := 76) rfl rfl rfl (fun hb => ?_) (fun hb => ?_)
    · refine Gq_wk (lv' := [(0, _), (1, _), (2, _), (3, _), (4, _)]) [0, 1, 2, 3, 4] rfl rfl hQ ?_
      refine Gq_iinc (pc' := 79) (lv' := [(0, _), (1, _), (2, _), (3, _), (4, _)]) rfl rfl rfl rfl ?_
      refine Gq_goto rfl (t := 9) rfl ?_
      exact ih (j + 1) H1 (n + 1) (ce + 1) (sl + 3) e2 (by omega) (fun o ho => (hG o (by omega)).trans (hH o ho)) (by omega) (by omega) (by omega)
    · exact absurd e6 (by rw [show letB (rK r) (rA r) (rB r) (rD r) (num (rT r) i) = false from hb]; decide)
theorem t_go_n {L : Nat} {ys : Nat → Int32} (hLs : L ≤ 100000) {q d P x y n0 : Nat} {cnt : Nat → Nat} {vd : Nat → Nat → Nat} {vr : Nat → VR} {wl : List CR} {siz : Nat → Nat → Int} {wdr : Nat → Nat → Bool} {num : Nat → Nat → Nat → Int} {nd kd : Nat → Nat → List NR} {ws : List NR} {nid qid kid : Nat → Nat → Nat} {wid : Nat → Nat} {lk : Nat → Option Nat} {H0 : HF} {on : Nat → Nat} (hLw : LwP H0 q d P cnt siz wdr num nd kd ws nid qid kid wid) (hK : Lnk P cnt vd vr siz wdr num nd kd ws wl) (hL : ∀ q o, lk q = some o → Own P cnt vd q o) (hF : Frs H0 n0) (hx : 119 ≤ x ∧ 119 ≤ y) (h1 : H0 x = some (true, 0, aI 6 (lkI P vr lk))) (h3 : H0 y = some (true, 0, aNt 6 on)) {p i : Nat} (ho : ∀ p, on p < 16) (hp : p < P) (hi : i < cnt p) (hw : ∀ r ∈ nd p i, ndB vr lk true (on p) (crN r) = true) {Q : XLf → Prop} (hQ : NoL Q) {c0 s0 : Nat} (hc0 : c0 ≤ 23) (hs0 : s0 ≤ 90) (kk : ∀ (H : HF) (n ce sl : Nat), (∀ o, o < n0 → H o = H0 o) → n0 ≤ n → ce ≤ c0 + 2 → sl ≤ s0 + 6 → Gw (some (L, ys)) xm139 202 [(0, .ref 0), (1, .ref x), (2, .int 1), (3, .ref y), (4, .int (zI (p : Int)))] [] H n ce sl Q) : ∀ (l : List NR) (k : Nat) (H : HF) (n ce sl : Nat), (nd p i).drop k = l → k ≤ 2 → (∀ o, o < n0 → H o = H0 o) → n0 ≤ n → ce ≤ c0 + k → sl ≤ s0 + 3 * k → Gw (some (L, ys)) xm139 121 [(0, .ref 0), (1, .ref x), (2, .int 1), (3, .ref y), (4, .int (zI (p : Int))), (5, .ref (qid p i)), (6, .int (zI ((7 * k : Nat) : Int)))] [] H n ce sl Q := by
  intro l
  induction l with
  | nil =>
    intro k H n ce sl hl hj hH hn hce hsl
    have hjl := drop_nil_at hl
    obtain ⟨h0, -, ⟨hm0, hm1⟩, -, -, ⟨hq0, hq1⟩, ⟨hk0, hk1⟩, hws, hnd, hqd, hkd, hwd⟩ := id hLw
    obtain ⟨⟨hP2, hP6⟩, hcnt, hvr, ⟨hwl, hwn, hwr⟩, hkk, hnm, -⟩ := id hK
    have hxn := Fr_lt hF h1
    have hyn := Fr_lt hF h3
    have hc4 := hcnt p hp
    have hqi := (hqd p i (by omega) (by omega)).2
    have hqi2 := Fr_lt hF hqi
    obtain ⟨⟨hnl, hnr⟩, -⟩ := hkk p i hp hi
    refine Gq_s (pc' := 123) rfl rfl rfl ?_
    refine Gq_s (pc' := 125) rfl rfl rfl ?_
    refine Gq_len (pc' := 126) rfl rfl (by refine (hH _ (by omega)).trans ?_; assumption) (by exact rfl) (by exact aX_len _ _) ?_
    refine Gq_cge (pc' := 129) (t := 202) rfl rfl rfl (by omega) (by omega) (fun _ => ?_) (fun hq => absurd (by omega) hq)
    refine Gq_wk (lv' := [(0, _), (1, _), (2, _), (3, _), (4, _)]) [0, 1, 2, 3, 4] rfl rfl hQ ?_
    exact kk H n ce sl hH hn (by omega) (by omega)
  | cons r t ih =>
    intro k H n ce sl hl hj hH hn hce hsl
    obtain ⟨e1, e2, e3⟩ := drop_at hl
    have e7 : ((7 * k : Nat) : Int) + 7 = ((7 * (k + 1) : Nat) : Int) := by omega
    obtain ⟨h0, -, ⟨hm0, hm1⟩, -, -, ⟨hq0, hq1⟩, ⟨hk0, hk1⟩, hws, hnd, hqd, hkd, hwd⟩ := id hLw
    obtain ⟨⟨hP2, hP6⟩, hcnt, hvr, ⟨hwl, hwn, hwr⟩, hkk, hnm, -⟩ := id hK
    have hxn := Fr_lt hF h1
    have hyn := Fr_lt hF h3
    have hc4 := hcnt p hp
    have hqi := (hqd p i (by omega) (by omega)).2
    have hqi2 := Fr_lt hF hqi
    obtain ⟨⟨hnl, hnr⟩, -⟩ := hkk p i hp hi
    have hrm := List.mem_of_getElem? e1
    have hr := hnr r hrm
    have hr1 := hr.1
    have hnd9 := hw r hrm
    refine Gq_s (pc' := 123) rfl rfl rfl ?_
    refine Gq_s (pc' := 125) rfl rfl rfl ?_
    refine Gq_len (pc' := 126) rfl rfl (by refine (hH _ (by omega)).trans ?_; assumption) (by exact rfl) (by exact aX_len _ _) ?_
    refine Gq_cge (pc' := 129) (t := 202) rfl rfl rfl (by omega) (by omega) (fun hq => absurd hq (by omega)) (fun _ => ?_)
    refine Gq_s (pc' := 130) rfl rfl rfl ?_
    refine Gq_s (pc' := 132) rfl rfl rfl ?_
    refine Gq_s (pc' := 134) rfl rfl rfl ?_
    refine Gq_s (pc' := 136) rfl rfl rfl ?_
    refine Gq_s (pc' := 137) rfl rfl rfl ?_
    refine Gq_iadd (pc' := 138) rfl rfl ?_
    refine Gq_iald (pc' := 139) (j := 7 * k + 1) rfl rfl (by refine (hH _ (by omega)).trans ?_; assumption) (by omega) (by omega) (by omega) ?_
    rw [rw7_1 e1]
    refine Gq_callsA (pc' := 142) (Y := xm138) (rest := []) (cY := 0) (sY := 0) (cM := 30) (sM := 120) rfl rfl rfl rfl rfl rfl rfl rfl rfl rfl rfl rfl (by omega) (by omega) (t_counts hLs (c := rC r) (on := on) n ((hH _ (by omega)).trans h3) (show p < 6 by omega) (by decide) (ho p) hr.2.1) (fun v1 H1 n1 hv => ?_)
    obtain ⟨rfl, rfl, rfl⟩ := hv
    refine Gq_bne (pc' := 145) (t := 148) rfl rfl rfl (fun hb => ?_) (fun hb => ?_)
    · have hg : grtB vr lk true (crN r) = true := by
        unfold ndB at hnd9
        rw [show cCnt (crN r) (on p) = true from hb] at hnd9
        exact hnd9
      obtain ⟨i2, hi2, hi24, e5, e6⟩ := grt_let hK hL hr hg
      have hn9 := (hnd (rT r) i2 (by omega) hi2).2
      have hn92 := Fr_lt hF hn9
      have hm9 := hm1 (rT r) (by omega)
      refine Gq_s (pc' := 149) rfl rfl rfl ?_
      refine Gq_s (pc' := 151) rfl rfl rfl ?_
      refine Gq_s (pc' := 153) rfl rfl rfl ?_
      refine Gq_iald (pc' := 154) (j := 7 * k) rfl rfl (by refine (hH _ (by omega)).trans ?_; assumption) (rfl) (by omega) (by omega) ?_
      rw [rw7_0 e1]
      refine Gq_iald (pc' := 155) (j := rT r) rfl rfl (by refine (hH _ (by omega)).trans ?_; assumption) (rfl) (by omega) (by omega) ?_
      rw [e5]
      refine Gq_s (pc' := 157) (lv' := [(0, _), (1, _), (2, _), (3, _), (4, _), (5, _), (6, _), (7, _)]) rfl rfl rfl ?_
      refine Gq_s (pc' := 159) rfl rfl rfl ?_
      refine Gq_zge (pc' := 162) (t := 169) rfl rfl rfl (by omega) (fun _ => ?_) (fun hq => absurd (by omega) hq)
      refine Gq_s (pc' := 171) rfl rfl rfl ?_
      refine Gq_s (pc' := 173) rfl rfl rfl ?_
      refine Gq_s (pc' := 174) rfl rfl rfl ?_
      refine Gq_iadd (pc' := 175) rfl rfl ?_
      refine Gq_s (pc' := 176) rfl rfl rfl ?_
      refine Gq_get (pc' := 179) rfl rfl (by refine (hH _ (by omega)).trans ?_; assumption) (by exact rfl) ?_
      refine Gq_s (pc' := 181) rfl rfl rfl ?_
      refine Gq_s (pc' := 183) rfl rfl rfl ?_
      refine Gq_iald (pc' := 184) (j := 7 * k) rfl rfl (by refine (hH _ (by omega)).trans ?_; assumption) (rfl) (by omega) (by omega) ?_
      rw [rw7_0 e1]
      refine Gq_aald (pc' := 185) (j := rT r) rfl rfl (by refine (hH _ (by omega)).trans ?_; assumption) (by exact rfl) (rfl) (by omega) (by omega) (rfl) ?_
      refine Gq_s (pc' := 187) rfl rfl rfl ?_
      refine Gq_aald (pc' := 188) (j := i2) rfl rfl (by refine (hH _ (by omega)).trans ?_; assumption) (by exact rfl) (rfl) (by omega) (by omega) (rv_if hi2) ?_
      refine Gq_callsA (pc' := 191) (Y := xm131) (rest := []) (cY := 1) (sY := 3) (cM := 30) (sM := 120) rfl rfl rfl rfl rfl rfl rfl rfl rfl rfl rfl rfl (by omega) (by omega) (t_lets hLs (at_ := 7 * k + 3) _ ((hH _ (by omega)).trans hqi) ((hH _ (by omega)).trans hn9) (by omega) (by omega) (sml_7 hP6 hnr _) (sml_num (fun j hj => hnm _ i2 j hr1 hi2 hj)) (by rw [rw7_at e1 3 (by omega)]; exact hr.2.2.2.1)) (fun v2 H2 n2 hv => ?_)
      obtain ⟨rfl, rfl, hG⟩ := hv
      rw [let7 e1]
      refine Gq_bne (pc' := 194) (t := 196) rfl rfl rfl (fun hb2 => ?_) (fun hb2 => ?_)
      · refine Gq_wk (lv' := [(0, _), (1, _), (2, _), (3, _), (4, _), (5, _), (6, _)]) [0, 1, 2, 3, 4, 5, 6] rfl rfl hQ ?_
        refine Gq_iinc (pc' := 199) (lv' := [(0, _), (1, _), (2, _), (3, _), (4, _), (5, _), (6, _)]) rfl rfl rfl rfl ?_
        refine Gq_goto rfl (t := 121) rfl ?_
        rw [e7]
        exact ih (k + 1) _ _ _ _ e2 (by omega) (fun o ho => (hG o (by omega)).trans (hH o ho)) (by omega) (by omega) (by omega)
      · exact absurd e6 (by rw [hb2]; decide)
    · refine Gq_goto rfl (t := 196) rfl ?_
      refine Gq_iinc (pc' := 199) (lv' := [(0, _), (1, _), (2, _), (3, _), (4, _), (5, _), (6, _)]) rfl rfl rfl rfl ?_
      refine Gq_goto rfl (t := 121) rfl ?_
      rw [e7]
      exact ih (k + 1) _ _ _ _ e2 (by omega) hH hn (by omega) (by omega)
theorem t_go_p {L : Nat} {ys : Nat → Int32} (hLs : L ≤ 100000) {q d P x y n0 : Nat} {cnt : Nat → Nat} {vd : Nat → Nat → Nat} {vr : Nat → VR} {wl : List CR} {siz : Nat → Nat → Int} {wdr : Nat → Nat → Bool} {num : Nat → Nat → Nat → Int} {nd kd : Nat → Nat → List NR} {ws : List NR} {nid qid kid : Nat → Nat → Nat} {wid : Nat → Nat} {lk : Nat → Option Nat} {H0 : HF} {on : Nat → Nat} (hLw : LwP H0 q d P cnt siz wdr num nd kd ws nid qid kid wid) (hK : Lnk P cnt vd vr siz wdr num nd kd ws wl) (hL : ∀ q o, lk q = some o → Own P cnt vd q o) (hF : Frs H0 n0) (hx : 119 ≤ x ∧ 119 ≤ y) (h1 : H0 x = some (true, 0, aI 6 (lkI P vr lk))) (h3 : H0 y = some (true, 0, aNt 6 on)) (ho : ∀ p, on p < 16) (hall : ∀ p, p < P → pkB vr lk on true p = true) : ∀ (k p : Nat) (H : HF) (n ce sl : Nat), p + k = P → (∀ o, o < n0 → H o = H0 o) → n0 ≤ n → ce ≤ 7 + 3 * p → sl ≤ 24 + 9 * p → Gw (some (L, ys)) xm139 85 [(0, .ref 0), (1, .ref x), (2, .int 1), (3, .ref y), (4, .int (zI (p : Int)))] [] H n ce sl (MQe xm139 (fun v G _ => v = some (.int (zI (bI true))) ∧ ∀ o, o < n0 → G o = H0 o)) := by
  intro k
  induction k with
  | zero =>
    intro p H n ce sl hk hH hn hce hsl
    obtain ⟨h0, -, ⟨hm0, hm1⟩, -, -, ⟨hq0, hq1⟩, ⟨hk0, hk1⟩, hws, hnd, hqd, hkd, hwd⟩ := id hLw
    obtain ⟨⟨hP2, hP6⟩, hcnt, hvr, ⟨hwl, hwn, hwr⟩, hkk, hnm, -⟩ := id hK
    have hxn := Fr_lt hF h1
    have hyn := Fr_lt hF h3
    refine Gq_s (pc' := 87) rfl rfl rfl ?_
    refine Gq_s (pc' := 88) rfl rfl rfl ?_
    refine Gq_get (pc' := 91) rfl rfl (by refine (hH _ (by omega)).trans ?_; assumption) (by exact rfl) ?_
    refine Gq_cge (pc' := 94) (t := 264) rfl rfl rfl (by omega) (by omega) (fun _ => ?_) (fun hq => absurd (by omega) hq)
    refine Gq_s (pc' := 265) rfl rfl rfl ?_
    exact Gq_retA (cM := 30) (sM := 120) rfl rfl rfl (by omega) (by omega) (rfl) (⟨rfl, hH⟩)
  | succ k ih =>
    intro p H n ce sl hk hH hn hce hsl
    obtain ⟨h0, -, ⟨hm0, hm1⟩, -, -, ⟨hq0, hq1⟩, ⟨hk0, hk1⟩, hws, hnd, hqd, hkd, hwd⟩ := id hLw
    obtain ⟨⟨hP2, hP6⟩, hcnt, hvr, ⟨hwl, hwn, hwr⟩, hkk, hnm, -⟩ := id hK
    have hxn := Fr_lt hF h1
    have hyn := Fr_lt hF h3
    obtain ⟨b1, b2, b3⟩ := lkI_b hK hL p
    refine Gq_s (pc' := 87) rfl rfl rfl ?_
    refine Gq_s (pc' := 88) rfl rfl rfl ?_
    refine Gq_get (pc' := 91) rfl rfl (by refine (hH _ (by omega)).trans ?_; assumption) (by exact rfl) ?_
    refine Gq_cge (pc' := 94) (t := 264) rfl rfl rfl (by omega) (by omega) (fun hq => absurd hq (by omega)) (fun _ => ?_)
    refine Gq_s (pc' := 95) rfl rfl rfl ?_
    refine Gq_s (pc' := 97) rfl rfl rfl ?_
    refine Gq_iald (pc' := 98) (j := p) rfl rfl (by refine (hH _ (by omega)).trans ?_; assumption) (rfl) (by omega) (by omega) ?_
    refine Gq_zge (pc' := 101) (t := 104) rfl rfl rfl (by omega) (fun hb => ?_) (fun hb => ?_)
    · cases hlk : lk p with
      | none => exact absurd hb (by rw [lk_no hlk]; omega)
      | some y2 =>
        obtain ⟨i, hp, hi, hi4, rfl, -, e5, e6⟩ := lk_of hK hL hlk
        have hpk := hall p hp
        have hvk : vK (vr (vd p i)) = (kd p i).map crN := by rw [hvr p i hp hi]; rfl
        unfold pkB at hpk
        rw [hlk] at hpk
        dsimp only at hpk
        rw [e6, hvk, Bool.and_eq_true] at hpk
        have hqr := hq1 p (by omega)
        have hkr := hk1 p (by omega)
        have hki := (hkd p i (by omega) (by omega)).2
        have hki2 := Fr_lt hF hki
        obtain ⟨-, hkl, hkr5⟩ := hkk p i hp hi
        refine Gq_s (pc' := 105) rfl rfl rfl ?_
        refine Gq_get (pc' := 108) rfl rfl (by refine (hH _ (by omega)).trans ?_; assumption) (by exact rfl) ?_
        refine Gq_s (pc' := 110) rfl rfl rfl ?_
        refine Gq_aald (pc' := 111) (j := p) rfl rfl (by refine (hH _ (by omega)).trans ?_; assumption) (by exact rfl) (rfl) (by omega) (by omega) (rfl) ?_
        refine Gq_s (pc' := 112) rfl rfl rfl ?_
        refine Gq_s (pc' := 114) rfl rfl rfl ?_
        refine Gq_iald (pc' := 115) (j := p) rfl rfl (by refine (hH _ (by omega)).trans ?_; assumption) (rfl) (by omega) (by omega) ?_
        rw [e5]
        refine Gq_aald (pc' := 116) (j := i) rfl rfl (by refine (hH _ (by omega)).trans ?_; assumption) (by exact rfl) (rfl) (by omega) (by omega) (rfl) ?_
        refine Gq_s (pc' := 118) (lv' := [(0, _), (1, _), (2, _), (3, _), (4, _), (5, _)]) rfl rfl rfl ?_
        refine Gq_s (pc' := 119) rfl rfl rfl ?_
        refine Gq_s (pc' := 121) (lv' := [(0, _), (1, _), (2, _), (3, _), (4, _), (5, _), (6, _)]) rfl rfl rfl ?_
        refine t_go_n hLs hLw hK hL hF hx h1 h3 ho hp hi (fun r hr => List.all_eq_true.mp hpk.1 _ (List.mem_map.mpr ⟨r, hr, rfl⟩)) MQ_nl (c0 := 7 + 3 * p) (s0 := 24 + 9 * p) (by omega) (by omega) ?_ (nd p i) 0 H n ce sl rfl (by omega) hH hn (by omega) (by omega)
        intro H n ce sl hH hn hce hsl
        refine Gq_s (pc' := 203) rfl rfl rfl ?_
        refine Gq_get (pc' := 206) rfl rfl (by refine (hH _ (by omega)).trans ?_; assumption) (by exact rfl) ?_
        refine Gq_s (pc' := 208) rfl rfl rfl ?_
        refine Gq_aald (pc' := 209) (j := p) rfl rfl (by refine (hH _ (by omega)).trans ?_; assumption) (by exact rfl) (rfl) (by omega) (by omega) (rfl) ?_
        refine Gq_s (pc' := 210) rfl rfl rfl ?_
        refine Gq_s (pc' := 212) rfl rfl rfl ?_
        refine Gq_iald (pc' := 213) (j := p) rfl rfl (by refine (hH _ (by omega)).trans ?_; assumption) (rfl) (by omega) (by omega) ?_
        rw [e5]
        refine Gq_aald (pc' := 214) (j := i) rfl rfl (by refine (hH _ (by omega)).trans ?_; assumption) (by exact rfl) (rfl) (by omega) (by omega) (rfl) ?_
        refine Gq_s (pc' := 216) (lv' := [(0, _), (1, _), (2, _), (3, _), (4, _), (5, _)]) rfl rfl rfl ?_
        refine Gq_s (pc' := 218) rfl rfl rfl ?_
        refine Gq_len (pc' := 219) rfl rfl (by refine (hH _ (by omega)).trans ?_; assumption) (by exact rfl) (by exact aX_len _ _) ?_
        refine Gq_zle (pc' := 222) (t := 258) rfl rfl rfl (by omega) (fun hc => ?_) (fun hc => ?_)
        · refine Gq_wk (lv' := [(0, _), (1, _), (2, _), (3, _), (4, _)]) [0, 1, 2, 3, 4] rfl rfl MQ_nl ?_
          refine Gq_iinc (pc' := 261) (lv' := [(0, _), (1, _), (2, _), (3, _), (4, _)]) rfl rfl rfl rfl ?_
          refine Gq_goto rfl (t := 85) rfl ?_
          exact ih (p + 1) H n ce sl (by omega) hH hn (by omega) (by omega)
        · have hlen : 0 < (kd p i).length := by omega
          obtain ⟨r, hr0⟩ : ∃ r, (kd p i)[0]? = some r := ⟨_, List.getElem?_eq_getElem hlen⟩
          have hrm := List.mem_of_getElem? hr0
          have hr := hkr5 r hrm
          have hr1 := hr.1
          have z0 : rw5 (kd p i) 0 = (rT r : Int) := rw5_at hr0 0 (by omega)
          have hfr := List.all_eq_true.mp hpk.2 _ (List.mem_map.mpr ⟨r, hrm, rfl⟩)
          refine Gq_s (pc' := 223) rfl rfl rfl ?_
          refine Gq_s (pc' := 225) rfl rfl rfl ?_
          refine Gq_s (pc' := 226) rfl rfl rfl ?_
          refine Gq_iald (pc' := 227) (j := 0) rfl rfl (by refine (hH _ (by omega)).trans ?_; assumption) (rfl) (by omega) (by omega) ?_
          rw [z0]
          refine Gq_iald (pc' := 228) (j := rT r) rfl rfl (by refine (hH _ (by omega)).trans ?_; assumption) (rfl) (by omega) (by omega) ?_
          rcases fr_let hK hL hr hfr with e8 | ⟨i2, hi2, hi24, e8, e9⟩
          · rw [e8]
            refine Gq_zlt (pc' := 231) (t := 258) rfl rfl rfl (by omega) (fun _ => ?_) (fun hq => absurd (by omega) hq)
            refine Gq_wk (lv' := [(0, _), (1, _), (2, _), (3, _), (4, _)]) [0, 1, 2, 3, 4] rfl rfl MQ_nl ?_
            refine Gq_iinc (pc' := 261) (lv' := [(0, _), (1, _), (2, _), (3, _), (4, _)]) rfl rfl rfl rfl ?_
            refine Gq_goto rfl (t := 85) rfl ?_
            exact ih (p + 1) H n ce sl (by omega) hH hn (by omega) (by omega)
          · rw [e8]
            have hn9 := (hnd (rT r) i2 (by omega) hi2).2
            have hn92 := Fr_lt hF hn9
            have hm9 := hm1 (rT r) (by omega)
            refine Gq_zlt (pc' := 231) (t := 258) rfl rfl rfl (by omega) (fun hq => absurd hq (by omega)) (fun _ => ?_)
            refine Gq_s (pc' := 233) rfl rfl rfl ?_
            refine Gq_s (pc' := 234) rfl rfl rfl ?_
            refine Gq_s (pc' := 235) rfl rfl rfl ?_
            refine Gq_get (pc' := 238) rfl rfl (by refine (hH _ (by omega)).trans ?_; assumption) (by exact rfl) ?_
            refine Gq_s (pc' := 240) rfl rfl rfl ?_
            refine Gq_s (pc' := 241) rfl rfl rfl ?_
            refine Gq_iald (pc' := 242) (j := 0) rfl rfl (by refine (hH _ (by omega)).trans ?_; assumption) (rfl) (by omega) (by omega) ?_
            rw [z0]
            refine Gq_aald (pc' := 243) (j := rT r) rfl rfl (by refine (hH _ (by omega)).trans ?_; assumption) (by exact rfl) (rfl) (by omega) (by omega) (rfl) ?_
            refine Gq_s (pc' := 244) rfl rfl rfl ?_
            refine Gq_s (pc' := 246) rfl rfl rfl ?_
            refine Gq_s (pc' := 247) rfl rfl rfl ?_
            refine Gq_iald (pc' := 248) (j := 0) rfl rfl (by refine (hH _ (by omega)).trans ?_; assumption) (rfl) (by omega) (by omega) ?_
            rw [z0]
            refine Gq_iald (pc' := 249) (j := rT r) rfl rfl (by refine (hH _ (by omega)).trans ?_; assumption) (rfl) (by omega) (by omega) ?_
            rw [e8]
            refine Gq_aald (pc' := 250) (j := i2) rfl rfl (by refine (hH _ (by omega)).trans ?_; assumption) (by exact rfl) (rfl) (by omega) (by omega) (rv_if hi2) ?_
            refine Gq_callsA (pc' := 253) (Y := xm131) (rest := []) (cY := 1) (sY := 3) (cM := 30) (sM := 120) rfl rfl rfl rfl rfl rfl rfl rfl rfl rfl rfl rfl (by omega) (by omega) (t_lets hLs (at_ := 1) _ ((hH _ (by omega)).trans hki) ((hH _ (by omega)).trans hn9) (by omega) (by omega) (sml_5 hP6 hkr5 _) (sml_num (fun j hj => hnm _ i2 j hr1 hi2 hj)) (by rw [show rw5 (kd p i) 1 = _ from rw5_at hr0 1 (by omega)]; exact hr.2.2.2.1)) (fun v2 H2 n2 hv => ?_)
            obtain ⟨rfl, rfl, hG⟩ := hv
            rw [let5 hr0]
            refine Gq_beq (pc' := 256) (t := 258) rfl rfl rfl (fun hb2 => ?_) (fun hb2 => ?_)
            · refine Gq_wk (lv' := [(0, _), (1, _), (2, _), (3, _), (4, _)]) [0, 1, 2, 3, 4] rfl rfl MQ_nl ?_
              refine Gq_iinc (pc' := 261) (lv' := [(0, _), (1, _), (2, _), (3, _), (4, _)]) rfl rfl rfl rfl ?_
              refine Gq_goto rfl (t := 85) rfl ?_
              exact ih (p + 1) _ _ _ _ (by omega) (fun o ho => (hG o (by omega)).trans (hH o ho)) (by omega) (by omega) (by omega)
            · exact absurd e9 (by rw [hb2]; decide)
    · refine Gq_goto rfl (t := 258) rfl ?_
      refine Gq_iinc (pc' := 261) (lv' := [(0, _), (1, _), (2, _), (3, _), (4, _)]) rfl rfl rfl rfl ?_
      refine Gq_goto rfl (t := 85) rfl ?_
      exact ih (p + 1) H n ce sl (by omega) hH hn (by omega) (by omega)
theorem t_goes {L : Nat} {ys : Nat → Int32} (hLs : L ≤ 100000) {H : HF} (n : Nat) {q d P x : Nat} {cnt : Nat → Nat} {vd : Nat → Nat → Nat} {vr : Nat → VR} {wl : List CR} {siz : Nat → Nat → Int} {wdr : Nat → Nat → Bool} {num : Nat → Nat → Nat → Int} {nd kd : Nat → Nat → List NR} {ws : List NR} {nid qid kid : Nat → Nat → Nat} {wid : Nat → Nat} {lk : Nat → Option Nat} (hLw : LwP H q d P cnt siz wdr num nd kd ws nid qid kid wid) (hK : Lnk P cnt vd vr siz wdr num nd kd ws wl) (hL : ∀ q o, lk q = some o → Own P cnt vd q o) (hN : NOK vr lk) (hw : ∀ c ∈ wl, cOK c) (hx : 119 ≤ x) (h1 : H x = some (true, 0, aI 6 (lkI P vr lk))) (hm : mtsB vr lk (onF vr lk wl) wl true = true) : Rmt (some (L, ys)) 139 [.ref 0, .ref x, .int 1] H n (fun v G _ => v = some (.int (zI (bI true))) ∧ ∀ o, o < n → G o = H o) := by
  refine Rm_fr (fun hF => ?_)
  have hxn := Fr_lt hF h1
  have hn : 119 ≤ n := by omega
  unfold mtsB at hm
  rw [Bool.and_eq_true, hK.2.2.2.1.1] at hm
  rw [← hK.2.2.2.1.1] at hm
  refine Rm_of (M := xm139) (lv := [(0, _), (1, _), (2, _)]) rfl rfl rfl ?_
  have h0 := hLw.1
  refine Gq_s (pc' := 1) rfl rfl rfl ?_
  refine Gq_s (pc' := 2) rfl rfl rfl ?_
  refine Gq_callv (pc' := 5) (Y := xm137) (rest := []) (ce' := 1) (sl' := 6) rfl rfl rfl rfl rfl rfl rfl rfl rfl (t_on hLs n hLw hK hL hN hw hx h1) (by first | assumption | exact upd_eq _ _ _ | ((repeat (refine (upd_ne _ _ (by omega)).trans ?_)); first | assumption | exact upd_eq _ _ _)) (fun v1 H1 n1 hv => ?_)
  obtain ⟨rfl, rfl, rfl⟩ := hv
  refine Gq_s (pc' := 6) (lv' := [(0, _), (1, _), (2, _), (3, _)]) rfl rfl rfl ?_
  refine Gq_s (pc' := 7) rfl rfl rfl ?_
  refine Gq_s (pc' := 9) (lv' := [(0, _), (1, _), (2, _), (3, _), (4, _)]) rfl rfl rfl ?_
  refine Gq_fr (fun hF1 => ?_)
  have hLF : LF H (hup H n (true, 0, aNt 6 (onF vr lk wl))) := LF_nw hF (by omega) (fun o ho => upd_ne _ _ (by omega))
  refine Gq_mq (P := fun v G _ => v = some (.int (zI (bI true))) ∧ ∀ o, o < n + 1 → G o = hup H n (true, 0, aNt 6 (onF vr lk wl)) o) (t_go_a hLs (LwP_lf hLF hLw) hK hL hF1 (by omega) ((upd_ne _ _ (by omega)).trans h1) (upd_eq _ _ _) (fun r hr => List.all_eq_true.mp hm.1 _ (by rw [hK.2.2.2.1.1]; exact List.mem_map.mpr ⟨r, hr, rfl⟩)) MQ_nl ?_ ws 0 _ (n + 1) 1 6 rfl (by omega) (fun _ _ => rfl) (Nat.le_refl _) (by omega) (by omega)) ?_
  · exact fun H2 n2 ce sl hH hn2 hce hsl => t_go_p hLs (LwP_lf hLF hLw) hK hL hF1 (by omega) ((upd_ne _ _ (by omega)).trans h1) (upd_eq _ _ _) (onF_16 hN hw) (fun p hp => allTo_i hm.2 p (by have := hK.1.2; omega)) P 0 H2 n2 ce sl (by omega) hH hn2 (by omega) (by omega)
  · rintro v G m ⟨a, b⟩
    exact ⟨a, fun o ho => (b o (by omega)).trans (upd_ne _ _ (by omega))⟩
end XKu
