/-! a package more, a version more (printed by wip/p46/gen41.py) -/
section XKl
/-- the law's own cells are as they were -/
def LF (H G : HF) : Prop := (∀ o, o < 86 → G o = H o) ∧ ∀ o vs, 119 ≤ o → H o = some (true, 0, vs) → G o = some (true, 0, vs)
theorem LF_refl (H : HF) : LF H H := ⟨fun _ _ => rfl, fun _ _ _ h => h⟩
theorem LF_trans {H G K : HF} (h1 : LF H G) (h2 : LF G K) : LF H K := ⟨fun o ho => (h2.1 o ho).trans (h1.1 o ho), fun o vs ho h => h2.2 o vs ho (h1.2 o vs ho h)⟩
theorem LF_sfr {H G : HF} (h : SFr H G) : LF H G := ⟨fun o ho => h o (by omega) (by omega) (by omega) (by omega) (by omega), fun o vs ho hc => (h o (by omega) (by omega) (by omega) (by omega) (by omega)).trans hc⟩
theorem pid_lt {H : HF} {n P : Nat} {pid cnt : Nat → Nat} {vd gr : Nat → Nat → Nat} {vr : Nat → VR} (hR : RG H P pid cnt vd gr vr) (hf : Frs H n) {p : Nat} (hp : p < P) : 119 ≤ pid p ∧ pid p + 2 < n := by
  obtain ⟨h1, -, -, -, h5⟩ := hR.2.2.1 p hp
  exact ⟨h1, Fr_lt hf h5⟩
theorem vd_lt {H : HF} {n P : Nat} {pid cnt : Nat → Nat} {vd gr : Nat → Nat → Nat} {vr : Nat → VR} (hR : RG H P pid cnt vd gr vr) (hf : Frs H n) {p i : Nat} (hp : p < P) (hi : i < cnt p) : 119 ≤ vd p i ∧ vd p i < n := by
  obtain ⟨h1, -, f, g, h5, -⟩ := (hR.2.2.2.1 p i hp hi).1
  exact ⟨h1, Fr_lt hf h5⟩
theorem q_addPk {S : ScT} {H : HF} (n : Nat) {P : Nat} {pid cnt : Nat → Nat} {vd gr : Nat → Nat → Nat} {vr : Nat → VR} {wl : List CR} {lk dk : Nat → Option Nat} {th : Bool} {pc pd : Nat} {kd : Nat → Int} {pp : Nat → Nat} {pb : Nat → Option Nat} {cl : List Nat} {cr dr lt fc : Int} (hA : AllB H P pid cnt vd gr vr wl lk dk th pc pd kd pp pb cl cr dr lt fc) {tg : Nat → Nat} (hX : RX H P pid cnt vd vr tg) (hP : P < 12) : Rmt S 1 [.ref 86] H n (fun v G m => v = some (.int (zI (P : Int))) ∧ m = n + 3 ∧ AllB G (P + 1) (fset pid P n) (fset cnt P 0) vd gr vr wl lk dk th pc pd kd pp pb cl cr dr lt fc ∧ RX G (P + 1) (fset pid P n) (fset cnt P 0) vd vr tg ∧ LF H G) := by
  refine Rm_fr (fun hF => ?_)
  refine Rm_of (M := xm1) (lv := [(0, _)]) rfl rfl rfl ?_
  obtain ⟨hR, h86, ⟨hW, hwP⟩, -⟩ := id hA
  have h87 := hR.2.1
  have hn86 := Fr_lt hF h86
  have hn88 : 119 ≤ n := by
    obtain ⟨-, -, -, -, -, -, -, -, -, -, -, -, ⟨a, b, c, hd, -, -, -, -, h9⟩⟩ := hA
    exact Fr_lt hF h9
  refine Gq_s (pc' := 1) rfl rfl rfl ?_
  refine Gq_get (pc' := 4) rfl rfl (by first | assumption | exact upd_eq _ _ _ | ((repeat (refine (upd_ne _ _ (by omega)).trans ?_)); first | assumption | exact upd_eq _ _ _)) (by exact rfl) ?_
  refine Gq_bipush (pc' := 6) rfl rfl (by decide) ?_
  refine Gq_clt (pc' := 9) (t := 19) rfl rfl rfl (by omega) (by omega) (fun _ => ?_) (fun hq => absurd (by omega) hq)
  refine Gq_s (pc' := 20) rfl rfl rfl ?_
  refine Gq_get (pc' := 23) rfl rfl (by first | assumption | exact upd_eq _ _ _ | ((repeat (refine (upd_ne _ _ (by omega)).trans ?_)); first | assumption | exact upd_eq _ _ _)) (by exact rfl) ?_
  refine Gq_s (pc' := 24) rfl rfl rfl ?_
  refine Gq_get (pc' := 27) rfl rfl (by first | assumption | exact upd_eq _ _ _ | ((repeat (refine (upd_ne _ _ (by omega)).trans ?_)); first | assumption | exact upd_eq _ _ _)) (by exact rfl) ?_
  refine Gq_new (pc' := 30) rfl rfl rfl rfl (by decide) (by decide) ?_
  refine Gq_s (pc' := 31) rfl rfl rfl ?_
  refine Gq_calls1 (pc' := 34) (Y := xm91) (rest := [_, _, _]) (st' := [_, _, _]) (ce' := 3) (sl' := 19) rfl rfl rfl rfl rfl rfl rfl rfl rfl rfl (t_packC (n + 1) (by omega) (upd_eq _ _ _)) rfl ?_
  refine Gq_aast (pc' := 35) (some n) rfl rfl (by first | assumption | exact upd_eq _ _ _ | ((repeat (refine (upd_ne _ _ (by omega)).trans ?_)); first | assumption | exact upd_eq _ _ _)) (by exact rfl) (fun hz => nomatch hz) (rfl) (fun z hz => by cases hz; exact ⟨_, upd_eq _ _ _⟩) (rfl) (by omega) (by omega) ?_
  refine Gq_s (pc' := 36) rfl rfl rfl ?_
  refine Gq_s (pc' := 37) rfl rfl rfl ?_
  refine Gq_get (pc' := 40) rfl rfl (by first | assumption | exact upd_eq _ _ _ | ((repeat (refine (upd_ne _ _ (by omega)).trans ?_)); first | assumption | exact upd_eq _ _ _)) (by exact rfl) ?_
  refine Gq_s (pc' := 41) rfl rfl rfl ?_
  refine Gq_iadd (pc' := 42) rfl rfl ?_
  refine Gq_put (pc' := 45) (fs' := [_, _, _, _, _, _, _, _, _, _, _, _, _]) rfl rfl (by first | assumption | exact upd_eq _ _ _ | ((repeat (refine (upd_ne _ _ (by omega)).trans ?_)); first | assumption | exact upd_eq _ _ _)) (by exact rfl) (by first | rfl | exact xfit_bI _) (by exact rfl) ?_
  refine Gq_s (pc' := 46) rfl rfl rfl ?_
  refine Gq_get (pc' := 49) rfl rfl (by first | assumption | exact upd_eq _ _ _ | ((repeat (refine (upd_ne _ _ (by omega)).trans ?_)); first | assumption | exact upd_eq _ _ _)) (by exact rfl) ?_
  refine Gq_s (pc' := 50) rfl rfl rfl ?_
  refine Gq_isub (pc' := 51) rfl rfl ?_
  have hold : ∀ o c, ¬ o = 86 → ¬ o = 87 → H o = some c → (hup (hup (hup (hup (hup (hup H n (false, 3, xD 3)) (n + 1) (true, 3, aR 8 (fun _ => none))) (n + 1 + 1) (true, 3, aR 8 (fun _ => none))) n (false, 3, [.ref (n + 1), .ref (n + 1 + 1), .int 0])) 87 (true, 4, aR 12 (fset (fun p => if p < P then some (pid p) else none) P (some n)))) 86 (false, 7, pwF (P + 1) dr lt fc)) o = some c := fun o c h1 h2 hc => by
    have := Fr_lt hF hc
    rw [upd_ne _ _ (by omega), upd_ne _ _ (by omega), upd_ne _ _ (by omega), upd_ne _ _ (by omega), upd_ne _ _ (by omega), upd_ne _ _ (by omega)]
    exact hc
  have g86 : (hup (hup (hup (hup (hup (hup H n (false, 3, xD 3)) (n + 1) (true, 3, aR 8 (fun _ => none))) (n + 1 + 1) (true, 3, aR 8 (fun _ => none))) n (false, 3, [.ref (n + 1), .ref (n + 1 + 1), .int 0])) 87 (true, 4, aR 12 (fset (fun p => if p < P then some (pid p) else none) P (some n)))) 86 (false, 7, pwF (P + 1) dr lt fc)) 86 = some (false, 7, pwF (P + 1) dr lt fc) := upd_eq _ _ _
  have g87 : (hup (hup (hup (hup (hup (hup H n (false, 3, xD 3)) (n + 1) (true, 3, aR 8 (fun _ => none))) (n + 1 + 1) (true, 3, aR 8 (fun _ => none))) n (false, 3, [.ref (n + 1), .ref (n + 1 + 1), .int 0])) 87 (true, 4, aR 12 (fset (fun p => if p < P then some (pid p) else none) P (some n)))) 86 (false, 7, pwF (P + 1) dr lt fc)) 87 = some (true, 4, aR 12 (fset (fun p => if p < P then some (pid p) else none) P (some n))) := by rw [upd_ne _ _ (by omega)]; exact upd_eq _ _ _
  have gn : (hup (hup (hup (hup (hup (hup H n (false, 3, xD 3)) (n + 1) (true, 3, aR 8 (fun _ => none))) (n + 1 + 1) (true, 3, aR 8 (fun _ => none))) n (false, 3, [.ref (n + 1), .ref (n + 1 + 1), .int 0])) 87 (true, 4, aR 12 (fset (fun p => if p < P then some (pid p) else none) P (some n)))) 86 (false, 7, pwF (P + 1) dr lt fc)) n = some (false, 3, [.ref (n + 1), .ref (n + 2), .int (zI ((0 : Nat) : Int))]) := by rw [upd_ne _ _ (by omega), upd_ne _ _ (by omega)]; exact upd_eq _ _ _
  have gn1 : (hup (hup (hup (hup (hup (hup H n (false, 3, xD 3)) (n + 1) (true, 3, aR 8 (fun _ => none))) (n + 1 + 1) (true, 3, aR 8 (fun _ => none))) n (false, 3, [.ref (n + 1), .ref (n + 1 + 1), .int 0])) 87 (true, 4, aR 12 (fset (fun p => if p < P then some (pid p) else none) P (some n)))) 86 (false, 7, pwF (P + 1) dr lt fc)) (n + 1) = some (true, 3, aR 8 (fun _ => none)) := by rw [upd_ne _ _ (by omega), upd_ne _ _ (by omega), upd_ne _ _ (by omega), upd_ne _ _ (by omega)]; exact upd_eq _ _ _
  have gn2 : (hup (hup (hup (hup (hup (hup H n (false, 3, xD 3)) (n + 1) (true, 3, aR 8 (fun _ => none))) (n + 1 + 1) (true, 3, aR 8 (fun _ => none))) n (false, 3, [.ref (n + 1), .ref (n + 1 + 1), .int 0])) 87 (true, 4, aR 12 (fset (fun p => if p < P then some (pid p) else none) P (some n)))) 86 (false, 7, pwF (P + 1) dr lt fc)) (n + 2) = some (true, 3, aR 8 (fun _ => none)) := by rw [upd_ne _ _ (by omega), upd_ne _ _ (by omega), upd_ne _ _ (by omega)]; exact upd_eq _ _ _
  have lo86 : ∀ o, o < 86 → (hup (hup (hup (hup (hup (hup H n (false, 3, xD 3)) (n + 1) (true, 3, aR 8 (fun _ => none))) (n + 1 + 1) (true, 3, aR 8 (fun _ => none))) n (false, 3, [.ref (n + 1), .ref (n + 1 + 1), .int 0])) 87 (true, 4, aR 12 (fset (fun p => if p < P then some (pid p) else none) P (some n)))) 86 (false, 7, pwF (P + 1) dr lt fc)) o = H o := fun o h1 => by rw [upd_ne _ _ (by omega), upd_ne _ _ (by omega), upd_ne _ _ (by omega), upd_ne _ _ (by omega), upd_ne _ _ (by omega), upd_ne _ _ (by omega)]
  refine Gq_ret (v := some (.int (zI (P : Int)))) rfl rfl (by rw [show (P : Int) + 1 - 1 = (P : Int) by omega]; rfl) ?_
  show _ ∧ _ ∧ AllB (hup (hup (hup (hup (hup (hup H n (false, 3, xD 3)) (n + 1) (true, 3, aR 8 (fun _ => none))) (n + 1 + 1) (true, 3, aR 8 (fun _ => none))) n (false, 3, [.ref (n + 1), .ref (n + 1 + 1), .int 0])) 87 (true, 4, aR 12 (fset (fun p => if p < P then some (pid p) else none) P (some n)))) 86 (false, 7, pwF (P + 1) dr lt fc)) (P + 1) (fset pid P n) (fset cnt P 0) vd gr vr wl lk dk th pc pd kd pp pb cl cr dr lt fc ∧ RX (hup (hup (hup (hup (hup (hup H n (false, 3, xD 3)) (n + 1) (true, 3, aR 8 (fun _ => none))) (n + 1 + 1) (true, 3, aR 8 (fun _ => none))) n (false, 3, [.ref (n + 1), .ref (n + 1 + 1), .int 0])) 87 (true, 4, aR 12 (fset (fun p => if p < P then some (pid p) else none) P (some n)))) 86 (false, 7, pwF (P + 1) dr lt fc)) (P + 1) (fset pid P n) (fset cnt P 0) vd vr tg ∧ LF H (hup (hup (hup (hup (hup (hup H n (false, 3, xD 3)) (n + 1) (true, 3, aR 8 (fun _ => none))) (n + 1 + 1) (true, 3, aR 8 (fun _ => none))) n (false, 3, [.ref (n + 1), .ref (n + 1 + 1), .int 0])) 87 (true, 4, aR 12 (fset (fun p => if p < P then some (pid p) else none) P (some n)))) 86 (false, 7, pwF (P + 1) dr lt fc))
  generalize (hup (hup (hup (hup (hup (hup H n (false, 3, xD 3)) (n + 1) (true, 3, aR 8 (fun _ => none))) (n + 1 + 1) (true, 3, aR 8 (fun _ => none))) n (false, 3, [.ref (n + 1), .ref (n + 1 + 1), .int 0])) 87 (true, 4, aR 12 (fset (fun p => if p < P then some (pid p) else none) P (some n)))) 86 (false, 7, pwF (P + 1) dr lt fc)) = G at hold g86 g87 gn gn1 gn2 lo86
  have hTy : Ty H G := fun o ci fs ho _ hc => hold o _ (by omega) (by omega) hc
  have hpf : ∀ p, p < P → fset pid P n p = pid p := fun p hp => fset_ne _ _ (by omega)
  have hcf : ∀ p, p < P → fset cnt P 0 p = cnt p := fun p hp => fset_ne _ _ (by omega)
  have hcP : fset cnt P 0 P = 0 := fset_eq _ _ _
  have hR2 : RG G (P + 1) (fset pid P n) (fset cnt P 0) vd gr vr := by
    obtain ⟨h1, h2, h3, h4, h5, h6, h7⟩ := hR
    have spl : ∀ p i, p < P + 1 → i < fset cnt P 0 p → p < P ∧ i < cnt p := fun p i hp hi => by
      by_cases e : p = P
      · subst e
        rw [hcP] at hi
        omega
      · rw [fset_ne _ _ e] at hi
        exact ⟨by omega, hi⟩
    refine ⟨by omega, ?_, fun p hp => ?_, fun p i hp hi => ?_, fun p i hp hi => ?_, fun p i q j hp hi hq hj he => ?_, fun p i hp hi => ?_⟩
    · rw [g87]
      refine congrArg (fun z => some (true, 4, z)) (aX_ext fun j _ => congrArg rvl ?_)
      show fset (fun p => if p < P then some (pid p) else none) P (some n) j = (if j < P + 1 then some (fset pid P n j) else none)
      by_cases e : j = P
      · subst e
        rw [fset_eq, fset_eq, if_pos (by omega)]
      · rw [fset_ne _ _ e, fset_ne _ _ e]
        by_cases e2 : j < P
        · rw [if_pos e2, if_pos (by omega)]
        · rw [if_neg e2, if_neg (by omega)]
    · by_cases e : p = P
      · subst e
        rw [fset_eq, fset_eq]
        refine ⟨by omega, by omega, gn, ?_, ?_⟩
        · rw [gn1]
          exact congrArg (fun z => some (true, 3, z)) (aX_ext fun j _ => by show rvl none = rvl (if j < 0 then some (vd p j) else none); rw [if_neg (by omega)])
        · rw [gn2]
          exact congrArg (fun z => some (true, 3, z)) (aX_ext fun j _ => by show rvl none = rvl (if j < 0 then some (gr p j) else none); rw [if_neg (by omega)])
      · rw [fset_ne _ _ e, fset_ne _ _ e]
        obtain ⟨a, b, c, d, f⟩ := h3 p (by omega)
        exact ⟨a, b, hold _ _ (by omega) (by omega) c, hold _ _ (by omega) (by omega) d, hold _ _ (by omega) (by omega) f⟩
    · obtain ⟨a, b⟩ := spl p i hp hi
      exact ⟨VerAt_ty hTy (h4 p i a b).1, (h4 p i a b).2⟩
    · obtain ⟨a, b⟩ := spl p i hp hi
      rw [hcf p a]
      exact h5 p i a b
    · obtain ⟨a, b⟩ := spl p i hp hi
      obtain ⟨c, d⟩ := spl q j hq hj
      exact h6 p i q j a b c d he
    · obtain ⟨a, b⟩ := spl p i hp hi
      exact fun c hc => Nat.lt_succ_of_lt (h7 p i a b c hc)
  refine ⟨rfl, rfl, All_reg hA (fun o c h1 h2 hc => hold o c (by omega) (by omega) hc) g86 hR2 (by omega) (WiAt_ge (fun o c h1 h2 hc => hold o c (by omega) (by omega) hc) hTy (by omega) hW) (fun q o ⟨a, i, b, c⟩ => ⟨by omega, i, by rw [hcf q a]; exact b, c⟩) (fun _ _ => rfl), ⟨fun p q hpq hq => ?_, fun p i hp hi => ?_⟩, lo86, fun o vs ho hc => hold o _ (by omega) (by omega) hc⟩
  · by_cases e : q = P
    · subst e
      rw [fset_eq, hpf p hpq]
      exact (pid_lt hR hF hpq).2
    · rw [fset_ne _ _ e, hpf p (by omega)]
      exact hX.1 p q hpq (by omega)
  · have hpP : p < P ∧ i < cnt p := by
      by_cases e : p = P
      · subst e
        rw [hcP] at hi
        omega
      · rw [fset_ne _ _ e] at hi
        exact ⟨by omega, hi⟩
    obtain ⟨f, g, a0, a1, a2, a3, a5, a7, e1, e2, e3⟩ := hX.2 p i hpP.1 hpP.2
    have h119 := (vd_lt hR hF hpP.1 hpP.2).1
    exact ⟨f, g, a0, a1, a2, a3, a5, a7, hold _ _ (by omega) (by omega) e1, CnT_ty (fun o fs h1 h2 => ⟨hold o _ (fun e => by rw [e, h86] at h2; cases h2) (fun e => by rw [e, hR.2.1] at h2; cases h2) h2, h1⟩) e2, CnT_ty (fun o fs h1 h2 => ⟨hold o _ (fun e => by rw [e, h86] at h2; cases h2) (fun e => by rw [e, hR.2.1] at h2; cases h2) h2, h1⟩) e3⟩
end XKl
