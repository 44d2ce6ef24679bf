/-! the law's world and its changes (printed by wip/p46/gen51.py) -/
section XKv
def up2 {α : Type} (f : Nat → Nat → α) (p v : Nat) (x : α) : Nat → Nat → α := fun p' v' => if p' = p ∧ v' = v then x else f p' v'
theorem up2_eq {α : Type} (f : Nat → Nat → α) (p v : Nat) (x : α) : up2 f p v x p v = x := if_pos ⟨rfl, rfl⟩
theorem up2_ne {α : Type} (f : Nat → Nat → α) {p v p' v' : Nat} (x : α) (h : ¬ (p' = p ∧ v' = v)) : up2 f p v x p' v' = f p' v' := if_neg h
/-- the law writes only its own cells -/
def Lw (H G : HF) : Prop := ∀ o c, H o = some c → (G o = some c ∨ (o < 86 ∧ (c.1 = true ∨ c.2.1 = 11)))
theorem Lw_ge {H G : HF} (h : Lw H G) : Ge H G := fun o c ho _ hc => by
  rcases h o c hc with h1 | h1
  · exact h1
  · omega
theorem Lw_ge8 {H G : HF} (h : Lw H G) : Ge8 H G := fun o ci fs hci hc => by
  rcases h o _ hc with h1 | ⟨-, h1 | h1⟩
  · exact h1
  · cases h1
  · have h1 : ci = 11 := h1
    omega
theorem Lw_int {H G : HF} (h : Lw H G) : ∀ o vs, 119 ≤ o → H o = some (true, 0, vs) → G o = some (true, 0, vs) := fun o vs ho hc => by
  rcases h o _ hc with h1 | h1
  · exact h1
  · omega
/-- nothing yet beyond what is published -/
def Fit (cnt : Nat → Nat) (wdr : Nat → Nat → Bool) (nd kd : Nat → Nat → List NR) : Prop := ∀ p v, p < 6 → cnt p ≤ v → v < 4 → wdr p v = false ∧ nd p v = [] ∧ kd p v = []
/-- the law's world: object, class, and how they hang together -/
def Wx (H : HF) (q d P : Nat) (cr F : Int) (X : (Nat → Nat) → (Nat → Nat → List NR) → (Nat → Nat → List NR) → List NR → Prop) : Prop := ∃ cnt siz wdr num nd kd ws nid qid kid wid pid vd gr vr wl lk dk th pc pd kx pp pb cl dr lt fc tg, LwP H q d P cnt siz wdr num nd kd ws nid qid kid wid ∧ AllB H P pid cnt vd gr vr wl lk dk th pc pd kx pp pb cl cr dr lt fc ∧ RX H P pid cnt vd vr tg ∧ Lnk P cnt vd vr siz wdr num nd kd ws wl ∧ Fit cnt wdr nd kd ∧ (0 ≤ fc ∧ fc ≤ F) ∧ X cnt nd kd ws
theorem Wx_mono {H : HF} {q d P : Nat} {cr F F2 : Int} {X Y : (Nat → Nat) → (Nat → Nat → List NR) → (Nat → Nat → List NR) → List NR → Prop} (hW : Wx H q d P cr F X) (hF : F ≤ F2) (h : ∀ a b c e, X a b c e → Y a b c e) : Wx H q d P cr F2 Y := by
  obtain ⟨cnt, siz, wdr, num, nd, kd, ws, nid, qid, kid, wid, pid, vd, gr, vr, wl, lk, dk, th, pc, pd, kx, pp, pb, cl, dr, lt, fc, tg, h1, h2, h3, h4, h5, h6, h7⟩ := hW
  exact ⟨cnt, siz, wdr, num, nd, kd, ws, nid, qid, kid, wid, pid, vd, gr, vr, wl, lk, dk, th, pc, pd, kx, pp, pb, cl, dr, lt, fc, tg, h1, h2, h3, h4, h5, ⟨h6.1, by omega⟩, h _ _ _ _ h7⟩
theorem Wx_119 {H : HF} {n : Nat} {P : Nat} {pid cnt : Nat → Nat} {vd gr : Nat → Nat → Nat} {vr : Nat → VR} {wl : List CR} {lk dk : Nat → Option Nat} {th : Bool} {pc pd : Nat} {kx : Nat → Int} {pp : Nat → Nat} {pb : Nat → Option Nat} {cl : List Nat} {cr dr lt fc : Int} (hA : AllB H P pid cnt vd gr vr wl lk dk th pc pd kx pp pb cl cr dr lt fc) (hF : Frs H n) : 119 ≤ n := by
  obtain ⟨-, -, -, -, -, -, -, -, -, -, -, -, ⟨a, b, c, hd, -, -, -, -, h9⟩⟩ := hA
  exact Fr_lt hF h9
/-- draws, and what is new -/
theorem Wx_draw {H G : HF} {n0 q d d' P : Nat} {cr F : Int} {X : (Nat → Nat) → (Nat → Nat → List NR) → (Nat → Nat → List NR) → List NR → Prop} (hF : Frs H n0) (hW : Wx H q d P cr F X) (g0 : ∀ W : Int, H 0 = some (false, 11, rgF q (d : Int) (P : Int) W) → G 0 = some (false, 11, rgF q (d' : Int) (P : Int) W)) (hold : ∀ o, o < n0 → ¬ o = 0 → G o = H o) : Wx G q d' P cr F X := by
  obtain ⟨cnt, siz, wdr, num, nd, kd, ws, nid, qid, kid, wid, pid, vd, gr, vr, wl, lk, dk, th, pc, pd, kx, pp, pb, cl, dr, lt, fc, tg, h1, h2, h3, h4, h5, h6, h7⟩ := hW
  have hn := Wx_119 h2 hF
  have hL : Lw H G := fun o c hc => by
    by_cases e : o = 0
    · subst e
      rw [h1.1] at hc
      cases hc
      exact .inr ⟨by omega, .inr rfl⟩
    · exact .inl ((hold o (Fr_lt hF hc) e).trans hc)
  have hD : ∀ {i N : Nat} {f : Nat → Int}, DI H i N f → DI G i N f := fun {i N f} ⟨a, b⟩ => ⟨a, (hold i (Fr_lt hF b) (by omega)).trans b⟩
  have hr : ∀ o, o < 86 → ¬ o = 0 → G o = H o := fun o a b => hold o (by omega) b
  refine ⟨cnt, siz, wdr, num, nd, kd, ws, nid, qid, kid, wid, pid, vd, gr, vr, wl, lk, dk, th, pc, pd, kx, pp, pb, cl, dr, lt, fc, tg, ?_, AllB_ge (Lw_ge hL) h2, RX_ge8 (Lw_ge8 hL) h3, h4, h5, h6, h7⟩
  obtain ⟨a, b, ⟨c, c2⟩, ⟨e, e2⟩, ⟨f, f2⟩, ⟨g, g2⟩, ⟨i, i2⟩, j, k1, k2, k3, k4⟩ := h1
  exact ⟨g0 _ a, (hr _ (by omega) (by omega)).trans b, ⟨(hr _ (by omega) (by omega)).trans c, fun x hx => (hr _ (by omega) (by omega)).trans (c2 x hx)⟩, ⟨(hr _ (by omega) (by omega)).trans e, fun x hx => (hr _ (by omega) (by omega)).trans (e2 x hx)⟩, ⟨(hr _ (by omega) (by omega)).trans f, fun x hx => (hr _ (by omega) (by omega)).trans (f2 x hx)⟩, ⟨(hr _ (by omega) (by omega)).trans g, fun x hx => (hr _ (by omega) (by omega)).trans (g2 x hx)⟩, ⟨(hr _ (by omega) (by omega)).trans i, fun x hx => (hr _ (by omega) (by omega)).trans (i2 x hx)⟩, (hr _ (by omega) (by omega)).trans j, fun p v hp hv => hD (k1 p v hp hv), fun p v hp hv => hD (k2 p v hp hv), fun p v hp hv => hD (k3 p v hp hv), fun w r hw => hD (k4 w r hw)⟩
theorem row_up {f : Nat → Nat → Nat} {p v y : Nat} : fset (fun v => some (f p v)) v (some y) = fun v' => some (up2 f p v y p v') := by
  funext v'
  by_cases e : v' = v
  · subst e
    rw [fset_eq, up2_eq]
  · rw [fset_ne _ _ e, up2_ne _ _ (fun q => e q.2)]
theorem row_no {f : Nat → Nat → Nat} {p v y x : Nat} (h : ¬ x = p) : (fun v' => some (up2 f p v y x v')) = fun v' => some (f x v') := by
  funext v'
  rw [up2_ne _ _ (fun q => h q.1)]
theorem LwP_need {H G : HF} {q d P : Nat} {cnt : Nat → Nat} {siz : Nat → Nat → Int} {wdr : Nat → Nat → Bool} {num : Nat → Nat → Nat → Int} {nd kd : Nat → Nat → List NR} {ws : List NR} {nid qid kid : Nat → Nat → Nat} {wid : Nat → Nat} (hl : LwP H q d P cnt siz wdr num nd kd ws nid qid kid wid) {p v y d' : Nat} {l : List NR} (hp : p < 6) (hv : v < 4) (g0 : G 0 = some (false, 11, rgF q (d' : Int) (P : Int) (ws.length : Int))) (hr : ∀ o, o < 86 → ¬ o = 0 → ¬ o = 24 + 5 * p → G o = H o) (hrow : G (24 + 5 * p) = some (true, 6, aR 4 (fset (fun v => some (qid p v)) v (some y)))) (hint : ∀ o vs, 119 ≤ o → H o = some (true, 0, vs) → G o = some (true, 0, vs)) (hy : 119 ≤ y) (gy : G y = some (true, 0, aI (7 * l.length) (rw7 l))) : LwP G q d' P cnt siz wdr num (up2 nd p v l) kd ws nid (up2 qid p v y) kid wid := by
  obtain ⟨a, b, ⟨c, c2⟩, ⟨e, e2⟩, ⟨f, f2⟩, ⟨g, g2⟩, ⟨i, i2⟩, j, k1, k2, k3, k4⟩ := hl
  have hD : ∀ {i N : Nat} {f : Nat → Int}, DI H i N f → DI G i N f := fun {i N f} ⟨h1, h2⟩ => ⟨h1, by
    rcases h1 with h1 | h1
    · refine (hr i (by omega) (by omega) (fun e => ?_)).trans h2
      rw [e, g2 p hp] at h2
      exact absurd (congrArg (fun z => z.map (fun c : XCl => c.2.1)) h2) (by show ¬ (some 6 = some 0); decide)
    · exact hint i _ h1 h2⟩
  refine ⟨g0, (hr _ (by omega) (by omega) (by omega)).trans b, ⟨(hr _ (by omega) (by omega) (by omega)).trans c, fun x hx => (hr _ (by omega) (by omega) (by omega)).trans (c2 x hx)⟩, ⟨(hr _ (by omega) (by omega) (by omega)).trans e, fun x hx => (hr _ (by omega) (by omega) (by omega)).trans (e2 x hx)⟩, ⟨(hr _ (by omega) (by omega) (by omega)).trans f, fun x hx => (hr _ (by omega) (by omega) (by omega)).trans (f2 x hx)⟩, ⟨(hr _ (by omega) (by omega) (by omega)).trans g, fun x hx => ?_⟩, ⟨(hr _ (by omega) (by omega) (by omega)).trans i, fun x hx => (hr _ (by omega) (by omega) (by omega)).trans (i2 x hx)⟩, (hr _ (by omega) (by omega) (by omega)).trans j, fun p v hp hv => hD (k1 p v hp hv), fun x w hx hw => ?_, fun x w hx hw => hD (k3 x w hx hw), fun w r hw => hD (k4 w r hw)⟩
  · by_cases e9 : x = p
    · subst e9
      rw [hrow, row_up]
    · rw [row_no e9]
      exact (hr _ (by omega) (by omega) (by omega)).trans (g2 x hx)
  · by_cases e9 : x = p ∧ w = v
    · obtain ⟨rfl, rfl⟩ := e9
      rw [up2_eq, up2_eq]
      exact ⟨.inr hy, gy⟩
    · rw [up2_ne _ _ e9, up2_ne _ _ e9]
      exact hD (k2 x w hx hw)
theorem LwP_clash {H G : HF} {q d P : Nat} {cnt : Nat → Nat} {siz : Nat → Nat → Int} {wdr : Nat → Nat → Bool} {num : Nat → Nat → Nat → Int} {nd kd : Nat → Nat → List NR} {ws : List NR} {nid qid kid : Nat → Nat → Nat} {wid : Nat → Nat} (hl : LwP H q d P cnt siz wdr num nd kd ws nid qid kid wid) {p v y d' : Nat} {l : List NR} (hp : p < 6) (hv : v < 4) (g0 : G 0 = some (false, 11, rgF q (d' : Int) (P : Int) (ws.length : Int))) (hr : ∀ o, o < 86 → ¬ o = 0 → ¬ o = 55 + 5 * p → G o = H o) (hrow : G (55 + 5 * p) = some (true, 6, aR 4 (fset (fun v => some (kid p v)) v (some y)))) (hint : ∀ o vs, 119 ≤ o → H o = some (true, 0, vs) → G o = some (true, 0, vs)) (hy : 119 ≤ y) (gy : G y = some (true, 0, aI (5 * l.length) (rw5 l))) : LwP G q d' P cnt siz wdr num nd (up2 kd p v l) ws nid qid (up2 kid p v y) wid := by
  obtain ⟨a, b, ⟨c, c2⟩, ⟨e, e2⟩, ⟨f, f2⟩, ⟨g, g2⟩, ⟨i, i2⟩, j, k1, k2, k3, k4⟩ := hl
  have hD : ∀ {i N : Nat} {f : Nat → Int}, DI H i N f → DI G i N f := fun {i N f} ⟨h1, h2⟩ => ⟨h1, by
    rcases h1 with h1 | h1
    · refine (hr i (by omega) (by omega) (fun e => ?_)).trans h2
      rw [e, i2 p hp] at h2
      exact absurd (congrArg (fun z => z.map (fun c : XCl => c.2.1)) h2) (by show ¬ (some 6 = some 0); decide)
    · exact hint i _ h1 h2⟩
  refine ⟨g0, (hr _ (by omega) (by omega) (by omega)).trans b, ⟨(hr _ (by omega) (by omega) (by omega)).trans c, fun x hx => (hr _ (by omega) (by omega) (by omega)).trans (c2 x hx)⟩, ⟨(hr _ (by omega) (by omega) (by omega)).trans e, fun x hx => (hr _ (by omega) (by omega) (by omega)).trans (e2 x hx)⟩, ⟨(hr _ (by omega) (by omega) (by omega)).trans f, fun x hx => (hr _ (by omega) (by omega) (by omega)).trans (f2 x hx)⟩, ⟨(hr _ (by omega) (by omega) (by omega)).trans g, fun x hx => (hr _ (by omega) (by omega) (by omega)).trans (g2 x hx)⟩, ⟨(hr _ (by omega) (by omega) (by omega)).trans i, fun x hx => ?_⟩, (hr _ (by omega) (by omega) (by omega)).trans j, fun p v hp hv => hD (k1 p v hp hv), fun x w hx hw => hD (k2 x w hx hw), fun x w hx hw => ?_, fun w r hw => hD (k4 w r hw)⟩
  · by_cases e9 : x = p
    · subst e9
      rw [hrow, row_up]
    · rw [row_no e9]
      exact (hr _ (by omega) (by omega) (by omega)).trans (i2 x hx)
  · by_cases e9 : x = p ∧ w = v
    · obtain ⟨rfl, rfl⟩ := e9
      rw [up2_eq, up2_eq]
      exact ⟨.inr hy, gy⟩
    · rw [up2_ne _ _ e9, up2_ne _ _ e9]
      exact hD (k3 x w hx hw)
theorem LwP_pub {H G : HF} {q d P : Nat} {cnt : Nat → Nat} {siz : Nat → Nat → Int} {wdr : Nat → Nat → Bool} {num : Nat → Nat → Nat → Int} {nd kd : Nat → Nat → List NR} {ws : List NR} {nid qid kid : Nat → Nat → Nat} {wid : Nat → Nat} (hl : LwP H q d P cnt siz wdr num nd kd ws nid qid kid wid) {p y d' : Nat} {s : Int} {f9 : Nat → Int} (hp : p < 6) (hc4 : cnt p < 4) (g0 : G 0 = some (false, 11, rgF q (d' : Int) (P : Int) (ws.length : Int))) (hr : ∀ o, o < 86 → ¬ o = 0 → ¬ o = 1 → ¬ o = 3 + p → ¬ o = 10 + p → G o = H o) (g1 : G 1 = some (true, 0, aNt 6 (fset cnt p (cnt p + 1)))) (grow : G (3 + p) = some (true, 6, aR 4 (fset (fun v => if v < cnt p then some (nid p v) else none) (cnt p) (some y)))) (gs : G (10 + p) = some (true, 0, aI 4 (fset (siz p) (cnt p) s))) (hint : ∀ o vs, 119 ≤ o → H o = some (true, 0, vs) → G o = some (true, 0, vs)) (hy : 119 ≤ y) (gy : G y = some (true, 0, aI 3 f9)) : LwP G q d' P (fset cnt p (cnt p + 1)) (up2 siz p (cnt p) s) wdr (up2 num p (cnt p) f9) nd kd ws (up2 nid p (cnt p) y) qid kid wid := by
  obtain ⟨a, b, ⟨c, c2⟩, ⟨e, e2⟩, ⟨f, f2⟩, ⟨g, g2⟩, ⟨i, i2⟩, j, k1, k2, k3, k4⟩ := hl
  have hD : ∀ {i N : Nat} {f : Nat → Int}, DI H i N f → DI G i N f := fun {i N f} ⟨h1, h2⟩ => ⟨h1, by
    rcases h1 with h1 | h1
    · exact (hr _ (by omega) (by omega) (by omega) (by omega) (by omega)).trans h2
    · exact hint i _ h1 h2⟩
  refine ⟨g0, g1, ⟨(hr _ (by omega) (by omega) (by omega) (by omega) (by omega)).trans c, fun x hx => ?_⟩, ⟨(hr _ (by omega) (by omega) (by omega) (by omega) (by omega)).trans e, fun x hx => ?_⟩, ⟨(hr _ (by omega) (by omega) (by omega) (by omega) (by omega)).trans f, fun x hx => (hr _ (by omega) (by omega) (by omega) (by omega) (by omega)).trans (f2 x hx)⟩, ⟨(hr _ (by omega) (by omega) (by omega) (by omega) (by omega)).trans g, fun x hx => (hr _ (by omega) (by omega) (by omega) (by omega) (by omega)).trans (g2 x hx)⟩, ⟨(hr _ (by omega) (by omega) (by omega) (by omega) (by omega)).trans i, fun x hx => (hr _ (by omega) (by omega) (by omega) (by omega) (by omega)).trans (i2 x hx)⟩, (hr _ (by omega) (by omega) (by omega) (by omega) (by omega)).trans j, fun x v hx hv => ?_, fun p v hp hv => hD (k2 p v hp hv), fun p v hp hv => hD (k3 p v hp hv), fun w r hw => hD (k4 w r hw)⟩
  · by_cases e9 : x = p
    · subst e9
      rw [grow]
      refine congrArg (fun z => some (true, 6, aR 4 z)) (funext fun v => ?_)
      by_cases e8 : v = cnt x
      · rw [e8, fset_eq, fset_eq, if_pos (by omega), up2_eq]
      · rw [fset_ne _ _ e8, fset_eq, up2_ne _ _ (fun q => e8 q.2)]
        by_cases e7 : v < cnt x
        · rw [if_pos e7, if_pos (by omega)]
        · rw [if_neg e7, if_neg (by omega)]
    · rw [(hr _ (by omega) (by omega) (by omega) (by omega) (by omega)), c2 x hx, fset_ne _ _ e9]
      refine congrArg (fun z => some (true, 6, aR 4 z)) (funext fun v => ?_)
      rw [up2_ne _ _ (fun q => e9 q.1)]
  · by_cases e9 : x = p
    · subst e9
      rw [gs]
      refine congrArg (fun z => some (true, 0, aI 4 z)) (funext fun v => ?_)
      by_cases e8 : v = cnt x
      · rw [e8, fset_eq, up2_eq]
      · rw [fset_ne _ _ e8, up2_ne _ _ (fun q => e8 q.2)]
    · rw [(hr _ (by omega) (by omega) (by omega) (by omega) (by omega)), e2 x hx]
      refine congrArg (fun z => some (true, 0, aI 4 z)) (funext fun v => ?_)
      rw [up2_ne _ _ (fun q => e9 q.1)]
  · by_cases e9 : x = p ∧ v = cnt p
    · obtain ⟨rfl, rfl⟩ := e9
      rw [up2_eq, up2_eq]
      exact ⟨.inr hy, gy⟩
    · rw [up2_ne _ _ e9, up2_ne _ _ e9]
      refine hD (k1 x v hx ?_)
      by_cases e8 : x = p
      · subst e8
        rw [fset_eq] at hv
        have : ¬ v = cnt x := fun q => e9 ⟨rfl, q⟩
        omega
      · rw [fset_ne _ _ e8] at hv
        exact hv
theorem LwP_wish {H G : HF} {q d P : Nat} {cnt : Nat → Nat} {siz : Nat → Nat → Int} {wdr : Nat → Nat → Bool} {num : Nat → Nat → Nat → Int} {nd kd : Nat → Nat → List NR} {ws : List NR} {nid qid kid : Nat → Nat → Nat} {wid : Nat → Nat} (hl : LwP H q d P cnt siz wdr num nd kd ws nid qid kid wid) {y d' : Nat} {r : NR} (g0 : G 0 = some (false, 11, rgF q (d' : Int) (P : Int) ((ws ++ [r]).length : Int))) (hr : ∀ o, o < 86 → ¬ o = 0 → ¬ o = 85 → G o = H o) (grow : G 85 = some (true, 6, aR 6 (fset (fun w => if w < ws.length then some (wid w) else none) ws.length (some y)))) (hint : ∀ o vs, 119 ≤ o → H o = some (true, 0, vs) → G o = some (true, 0, vs)) (hy : 119 ≤ y) (gy : G y = some (true, 0, aI 6 (rw6 r))) : LwP G q d' P cnt siz wdr num nd kd (ws ++ [r]) nid qid kid (fset wid ws.length y) := by
  obtain ⟨a, b, ⟨c, c2⟩, ⟨e, e2⟩, ⟨f, f2⟩, ⟨g, g2⟩, ⟨i, i2⟩, j, k1, k2, k3, k4⟩ := hl
  have hD : ∀ {i N : Nat} {f : Nat → Int}, DI H i N f → DI G i N f := fun {i N f} ⟨h1, h2⟩ => ⟨h1, by
    rcases h1 with h1 | h1
    · exact (hr _ (by omega) (by omega) (by omega)).trans h2
    · exact hint i _ h1 h2⟩
  refine ⟨g0, (hr _ (by omega) (by omega) (by omega)).trans b, ⟨(hr _ (by omega) (by omega) (by omega)).trans c, fun x hx => (hr _ (by omega) (by omega) (by omega)).trans (c2 x hx)⟩, ⟨(hr _ (by omega) (by omega) (by omega)).trans e, fun x hx => (hr _ (by omega) (by omega) (by omega)).trans (e2 x hx)⟩, ⟨(hr _ (by omega) (by omega) (by omega)).trans f, fun x hx => (hr _ (by omega) (by omega) (by omega)).trans (f2 x hx)⟩, ⟨(hr _ (by omega) (by omega) (by omega)).trans g, fun x hx => (hr _ (by omega) (by omega) (by omega)).trans (g2 x hx)⟩, ⟨(hr _ (by omega) (by omega) (by omega)).trans i, fun x hx => (hr _ (by omega) (by omega) (by omega)).trans (i2 x hx)⟩, ?_, fun p v hp hv => hD (k1 p v hp hv), fun p v hp hv => hD (k2 p v hp hv), fun p v hp hv => hD (k3 p v hp hv), fun w r9 hw => ?_⟩
  · rw [grow]
    refine congrArg (fun z => some (true, 6, aR 6 z)) (funext fun w => ?_)
    rw [List.length_append]
    show _ = if w < ws.length + 1 then _ else _
    by_cases e8 : w = ws.length
    · rw [e8, fset_eq, fset_eq, if_pos (by omega)]
    · rw [fset_ne _ _ e8, fset_ne _ _ e8]
      by_cases e7 : w < ws.length
      · rw [if_pos e7, if_pos (by omega)]
      · rw [if_neg e7, if_neg (by omega)]
  · by_cases e8 : w = ws.length
    · subst e8
      rw [List.getElem?_append_right (Nat.le_refl _), Nat.sub_self] at hw
      cases hw
      rw [fset_eq]
      exact ⟨.inr hy, gy⟩
    · have hlt : w < ws.length := by
        have h7 : w < (ws ++ [r]).length := by
          refine Decidable.byContradiction fun q => ?_
          rw [List.getElem?_eq_none (by omega)] at hw
          cases hw
        rw [List.length_append] at h7
        have h7 : w < ws.length + 1 := h7
        omega
      rw [List.getElem?_append_left hlt] at hw
      rw [fset_ne _ _ e8]
      exact hD (k4 w r9 hw)
theorem LwP_wd {H G : HF} {q d P : Nat} {cnt : Nat → Nat} {siz : Nat → Nat → Int} {wdr : Nat → Nat → Bool} {num : Nat → Nat → Nat → Int} {nd kd : Nat → Nat → List NR} {ws : List NR} {nid qid kid : Nat → Nat → Nat} {wid : Nat → Nat} (hl : LwP H q d P cnt siz wdr num nd kd ws nid qid kid wid) {p v d' : Nat} {x9 : Bool} (hp : p < 6) (g0 : G 0 = some (false, 11, rgF q (d' : Int) (P : Int) (ws.length : Int))) (hr : ∀ o, o < 86 → ¬ o = 0 → ¬ o = 17 + p → G o = H o) (grow : G (17 + p) = some (true, 1, aB 4 (fset (wdr p) v x9))) (hint : ∀ o vs, 119 ≤ o → H o = some (true, 0, vs) → G o = some (true, 0, vs)) : LwP G q d' P cnt siz (up2 wdr p v x9) num nd kd ws nid qid kid wid := by
  obtain ⟨a, b, ⟨c, c2⟩, ⟨e, e2⟩, ⟨f, f2⟩, ⟨g, g2⟩, ⟨i, i2⟩, j, k1, k2, k3, k4⟩ := hl
  have hD : ∀ {i N : Nat} {f : Nat → Int}, DI H i N f → DI G i N f := fun {i N f} ⟨h1, h2⟩ => ⟨h1, by
    rcases h1 with h1 | h1
    · exact (hr _ (by omega) (by omega) (by omega)).trans h2
    · exact hint i _ h1 h2⟩
  refine ⟨g0, (hr _ (by omega) (by omega) (by omega)).trans b, ⟨(hr _ (by omega) (by omega) (by omega)).trans c, fun x hx => (hr _ (by omega) (by omega) (by omega)).trans (c2 x hx)⟩, ⟨(hr _ (by omega) (by omega) (by omega)).trans e, fun x hx => (hr _ (by omega) (by omega) (by omega)).trans (e2 x hx)⟩, ⟨(hr _ (by omega) (by omega) (by omega)).trans f, fun x hx => ?_⟩, ⟨(hr _ (by omega) (by omega) (by omega)).trans g, fun x hx => (hr _ (by omega) (by omega) (by omega)).trans (g2 x hx)⟩, ⟨(hr _ (by omega) (by omega) (by omega)).trans i, fun x hx => (hr _ (by omega) (by omega) (by omega)).trans (i2 x hx)⟩, (hr _ (by omega) (by omega) (by omega)).trans j, fun p v hp hv => hD (k1 p v hp hv), fun p v hp hv => hD (k2 p v hp hv), fun p v hp hv => hD (k3 p v hp hv), fun w r hw => hD (k4 w r hw)⟩
  by_cases e9 : x = p
  · subst e9
    rw [grow]
    refine congrArg (fun z => some (true, 1, aB 4 z)) (funext fun w => ?_)
    by_cases e8 : w = v
    · rw [e8, fset_eq, up2_eq]
    · rw [fset_ne _ _ e8, up2_ne _ _ (fun q => e8 q.2)]
  · rw [(hr _ (by omega) (by omega) (by omega)), f2 x hx]
    refine congrArg (fun z => some (true, 1, aB 4 z)) (funext fun w => ?_)
    rw [up2_ne _ _ (fun q => e9 q.1)]
theorem Lnk_need {P : Nat} {cnt : Nat → Nat} {vd : Nat → Nat → Nat} {vr : Nat → VR} {wl : List CR} {siz : Nat → Nat → Int} {wdr : Nat → Nat → Bool} {num : Nat → Nat → Nat → Int} {nd kd : Nat → Nat → List NR} {ws : List NR} (hK : Lnk P cnt vd vr siz wdr num nd kd ws wl) (hj : ∀ p i q j, p < P → i < cnt p → q < P → j < cnt q → vd p i = vd q j → p = q ∧ i = j) {p v : Nat} (hp : p < P) (hv : v < cnt p) {r : NR} (hr : NRok P r) (hlen : (nd p v).length ≤ 1) : Lnk P cnt vd (fset vr (vd p v) (vAddN (vr (vd p v)) (crN r))) siz wdr num (up2 nd p v (nd p v ++ [r])) kd ws wl := by
  obtain ⟨h1, h2, h3, h4, h5, h6, h7⟩ := hK
  refine ⟨h1, h2, fun p' v' hp' hv' => ?_, h4, fun p' v' hp' hv' => ?_, h6, h7⟩
  · by_cases e : p' = p ∧ v' = v
    · obtain ⟨rfl, rfl⟩ := e
      rw [fset_eq, up2_eq, h3 p' v' hp' hv']
      rw [List.map_append]
      rfl
    · rw [fset_ne _ _ (fun q => e (hj _ _ _ _ hp' hv' hp hv q)), up2_ne _ _ e]
      exact h3 p' v' hp' hv'
  · by_cases e : p' = p ∧ v' = v
    · obtain ⟨rfl, rfl⟩ := e
      rw [up2_eq]
      refine ⟨⟨by rw [List.length_append]; show (nd p' v').length + 1 ≤ 2; omega, fun r9 h9 => ?_⟩, (h5 p' v' hp' hv').2⟩
      rcases List.mem_append.mp h9 with h9 | h9
      · exact (h5 p' v' hp' hv').1.2 r9 h9
      · rcases List.mem_cons.mp h9 with rfl | h9
        · exact hr
        · cases h9
    · rw [up2_ne _ _ e]
      exact h5 p' v' hp' hv'
theorem Lnk_clash {P : Nat} {cnt : Nat → Nat} {vd : Nat → Nat → Nat} {vr : Nat → VR} {wl : List CR} {siz : Nat → Nat → Int} {wdr : Nat → Nat → Bool} {num : Nat → Nat → Nat → Int} {nd kd : Nat → Nat → List NR} {ws : List NR} (hK : Lnk P cnt vd vr siz wdr num nd kd ws wl) (hj : ∀ p i q j, p < P → i < cnt p → q < P → j < cnt q → vd p i = vd q j → p = q ∧ i = j) {p v : Nat} (hp : p < P) (hv : v < cnt p) {r : NR} (hr : NRok P r) (hlen : kd p v = []) : Lnk P cnt vd (fset vr (vd p v) (vAddK (vr (vd p v)) (crN r))) siz wdr num (nd) (up2 kd p v [r]) ws wl := by
  obtain ⟨h1, h2, h3, h4, h5, h6, h7⟩ := hK
  refine ⟨h1, h2, fun p' v' hp' hv' => ?_, h4, fun p' v' hp' hv' => ?_, h6, h7⟩
  · by_cases e : p' = p ∧ v' = v
    · obtain ⟨rfl, rfl⟩ := e
      rw [fset_eq, up2_eq, h3 p' v' hp' hv']
      rw [hlen]
      rfl
    · rw [fset_ne _ _ (fun q => e (hj _ _ _ _ hp' hv' hp hv q)), up2_ne _ _ e]
      exact h3 p' v' hp' hv'
  · by_cases e : p' = p ∧ v' = v
    · obtain ⟨rfl, rfl⟩ := e
      rw [up2_eq]
      refine ⟨(h5 p' v' hp' hv').1, Nat.le_refl 1, fun r9 h9 => ?_⟩
      rcases List.mem_cons.mp h9 with rfl | h9
      · exact hr
      · cases h9
    · rw [up2_ne _ _ e]
      exact h5 p' v' hp' hv'
theorem Lnk_pub {P : Nat} {cnt : Nat → Nat} {vd : Nat → Nat → Nat} {vr : Nat → VR} {wl : List CR} {siz : Nat → Nat → Int} {wdr : Nat → Nat → Bool} {num : Nat → Nat → Nat → Int} {nd kd : Nat → Nat → List NR} {ws : List NR} (hK : Lnk P cnt vd vr siz wdr num nd kd ws wl) {p n : Nat} {a b c s : Int} (hp : p < P) (hc4 : cnt p < 4) (hn : ∀ q i, q < P → i < cnt q → ¬ vd q i = n) (ha : 0 ≤ a ∧ a ≤ 2) (hb : 0 ≤ b ∧ b ≤ 2) (hc : 0 ≤ c ∧ c ≤ 2) (hs : 1 ≤ s ∧ s ≤ 300) (hw : wdr p (cnt p) = false) (hq : nd p (cnt p) = []) (hk : kd p (cnt p) = []) : Lnk P (fset cnt p (cnt p + 1)) (fun q i => if q = p ∧ i = cnt p then n else vd q i) (fset vr n (cnt p, mkM a b c, s, false, [], [])) (up2 siz p (cnt p) s) wdr (up2 num p (cnt p) (f3 a b c)) nd kd ws wl := by
  obtain ⟨h1, h2, h3, h4, h5, h6, h7⟩ := hK
  have hlt : ∀ q i, i < fset cnt p (cnt p + 1) q → ¬ (q = p ∧ i = cnt p) → i < cnt q := fun q i hi he => by
    by_cases e : q = p
    · subst e
      rw [fset_eq] at hi
      have : ¬ i = cnt q := fun z => he ⟨rfl, z⟩
      omega
    · rwa [fset_ne _ _ e] at hi
  refine ⟨h1, fun q hq9 => ?_, fun q i hq9 hi => ?_, h4, fun q i hq9 hi => ?_, fun q i j hq9 hi hj => ?_, fun q i hq9 hi => ?_⟩
  · by_cases e : q = p
    · subst e
      rw [fset_eq]
      omega
    · rw [fset_ne _ _ e]; exact h2 q hq9
  · by_cases e : q = p ∧ i = cnt p
    · obtain ⟨rfl, rfl⟩ := e
      dsimp only
      rw [if_pos (And.intro rfl rfl), fset_eq, up2_eq, up2_eq, hw, hq, hk]
      rfl
    · have h9 := hlt q i hi e
      dsimp only
      rw [if_neg e, fset_ne _ _ (hn q i hq9 h9), up2_ne _ _ e, up2_ne _ _ e]
      exact h3 q i hq9 h9
  · by_cases e : q = p ∧ i = cnt p
    · obtain ⟨rfl, rfl⟩ := e
      rw [hq, hk]
      exact ⟨⟨Nat.zero_le _, fun r h => by cases h⟩, Nat.zero_le _, fun r h => by cases h⟩
    · exact h5 q i hq9 (hlt q i hi e)
  · by_cases e : q = p ∧ i = cnt p
    · obtain ⟨rfl, rfl⟩ := e
      rw [up2_eq]
      have : j = 0 ∨ j = 1 ∨ j = 2 := by omega
      rcases this with rfl | rfl | rfl
      · exact ha
      · exact hb
      · exact hc
    · rw [up2_ne _ _ e]
      exact h6 q i j hq9 (hlt q i hi e) hj
  · by_cases e : q = p ∧ i = cnt p
    · obtain ⟨rfl, rfl⟩ := e
      rw [up2_eq]
      exact hs
    · rw [up2_ne _ _ e]
      exact h7 q i hq9 (hlt q i hi e)
theorem Lnk_wish {P : Nat} {cnt : Nat → Nat} {vd : Nat → Nat → Nat} {vr : Nat → VR} {wl : List CR} {siz : Nat → Nat → Int} {wdr : Nat → Nat → Bool} {num : Nat → Nat → Nat → Int} {nd kd : Nat → Nat → List NR} {ws : List NR} (hK : Lnk P cnt vd vr siz wdr num nd kd ws wl) {r : NR} (hr : NRok P r) (hlen : ws.length < 6) : Lnk P cnt vd vr siz wdr num nd kd (ws ++ [r]) (wl ++ [crN r]) := by
  obtain ⟨h1, h2, h3, ⟨h4, h4b, h4c⟩, h5, h6, h7⟩ := hK
  refine ⟨h1, h2, h3, ⟨by rw [h4, List.map_append]; rfl, by rw [List.length_append]; show ws.length + 1 ≤ 6; omega, fun r9 h9 => ?_⟩, h5, h6, h7⟩
  rcases List.mem_append.mp h9 with h9 | h9
  · exact h4c r9 h9
  · rcases List.mem_cons.mp h9 with rfl | h9
    · exact hr
    · cases h9
theorem Lnk_wd {P : Nat} {cnt : Nat → Nat} {vd : Nat → Nat → Nat} {vr : Nat → VR} {wl : List CR} {siz : Nat → Nat → Int} {wdr : Nat → Nat → Bool} {num : Nat → Nat → Nat → Int} {nd kd : Nat → Nat → List NR} {ws : List NR} (hK : Lnk P cnt vd vr siz wdr num nd kd ws wl) (hj : ∀ p i q j, p < P → i < cnt p → q < P → j < cnt q → vd p i = vd q j → p = q ∧ i = j) {p v : Nat} (hp : p < P) (hv : v < cnt p) (b : Bool) : Lnk P cnt vd (fset vr (vd p v) (vN (vr (vd p v)), vM (vr (vd p v)), vS (vr (vd p v)), b, vQ (vr (vd p v)), vK (vr (vd p v)))) siz (up2 wdr p v b) num nd kd ws wl := by
  obtain ⟨h1, h2, h3, h4, h5, h6, h7⟩ := hK
  refine ⟨h1, h2, fun p' v' hp' hv' => ?_, h4, h5, h6, h7⟩
  by_cases e : p' = p ∧ v' = v
  · obtain ⟨rfl, rfl⟩ := e
    rw [fset_eq, up2_eq, h3 p' v' hp' hv']
    rfl
  · rw [fset_ne _ _ (fun q => e (hj _ _ _ _ hp' hv' hp hv q)), up2_ne _ _ e]
    exact h3 p' v' hp' hv'
theorem rw7_app {l : List NR} {r : NR} : aI (7 * l.length + 7) (fun k => if k < 7 * l.length then rw7 l k else c7 r (k - 7 * l.length)) = aI (7 * (l ++ [r]).length) (rw7 (l ++ [r])) := by
  rw [List.length_append, show 7 * (l.length + [r].length) = 7 * l.length + 7 by show 7 * (l.length + 1) = _; omega]
  refine aX_ext fun k hk => congrArg (fun z => Value.int (zI z)) ?_
  dsimp only
  unfold rw7
  by_cases e : k < 7 * l.length
  · rw [if_pos e, List.getElem?_append_left (by omega)]
  · rw [if_neg e, List.getElem?_append_right (by omega), show k / 7 - l.length = 0 by omega, show k - 7 * l.length = k % 7 by omega]
    rfl
end XKv
