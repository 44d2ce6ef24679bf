/-! the registry changed (printed by wip/p46/gen40.py) -/
section XKk
/-- all that the class holds is still there -/
def Ge (H G : HF) : Prop := ∀ o c, 86 ≤ o → (o < 119 ∨ ¬ (c.1 = true ∧ c.2.1 = 0)) → H o = some c → G o = some c
theorem Ge_refl (H : HF) : Ge H H := fun _ _ _ _ h => h
theorem Ge_trans {H G K : HF} (h1 : Ge H G) (h2 : Ge G K) : Ge H K := fun o c ho hx h => h2 o c ho hx (h1 o c ho hx h)
theorem Ge_upd {H G : HF} {i : Nat} {d : XCl} (h : Ge H G) (hi : i < 86 ∨ H i = none ∨ (119 ≤ i ∧ ∃ vs, H i = some (true, 0, vs))) : Ge H (hup G i d) := fun o c ho hx hc => by
  rw [upd_ne]
  · exact h o c ho hx hc
  · intro e
    subst e
    rcases hi with hi | hi | ⟨h1, vs, hi⟩
    · omega
    · rw [hi] at hc; cases hc
    · rw [hi] at hc
      cases hc
      rcases hx with hx | hx
      · omega
      · exact hx ⟨rfl, rfl⟩
/-- the single things of the class are as they were -/
def Gs (H G : HF) : Prop := ∀ o c, 88 ≤ o → o < 119 → H o = some c → G o = some c
theorem Gs_ge {H G : HF} (h : Ge H G) : Gs H G := fun o c a b hc => h o c (by omega) (.inl b) hc
/-- the things of the registry are as they were -/
def Ty (H G : HF) : Prop := ∀ o ci fs, 119 ≤ o → 8 ≤ ci → H o = some (false, ci, fs) → G o = some (false, ci, fs)
theorem Ty_ge {H G : HF} (h : Ge H G) : Ty H G := fun o ci fs ho _ hc => h o _ (by omega) (.inr (fun z => by cases z.1)) hc
theorem ClaimAt_ty {H G : HF} (hh : Ty H G) {o : Nat} {c : CR} {nx : Value} (h : ClaimAt H o c nx) : ClaimAt G o c nx := by
  obtain ⟨h1, h2, r, h3, h4, h5⟩ := h
  exact ⟨h1, h2, r, h3, hh r 9 _ h3 (by omega) h4, hh o 8 _ h1 (by omega) h5⟩
theorem ChnAt_ty {H G : HF} (hh : Ty H G) : ∀ {l : List CR} {x : Option Nat}, ChnAt H x l → ChnAt G x l
  | [], _, h => h
  | c :: t, x, ⟨o, nx, h1, h2, h3⟩ => ⟨o, nx, h1, ClaimAt_ty hh h2, ChnAt_ty hh h3⟩
theorem VerAt_ty {H G : HF} (hh : Ty H G) {o : Nat} {v : VR} (h : VerAt H o v) : VerAt G o v := by
  obtain ⟨h1, h2, f, g, h3, h4, h5⟩ := h
  exact ⟨h1, h2, f, g, hh o 10 _ h1 (by omega) h3, ChnAt_ty hh h4, ChnAt_ty hh h5⟩
theorem PkAt_ge {H G : HF} (hh : Ge H G) {k cnt : Nat} {vs gf : Nat → Option Nat} (h : PkAt H k cnt vs gf) : PkAt G k cnt vs gf := by
  obtain ⟨h1, h2, h3, h4, h5⟩ := h
  exact ⟨h1, h2, hh _ _ (by omega) (.inr (fun z => by cases z.1)) h3, hh _ _ (by omega) (.inr (fun z => absurd (show (3 : Nat) = 0 from z.2) (by decide))) h4, hh _ _ (by omega) (.inr (fun z => absurd (show (3 : Nat) = 0 from z.2) (by decide))) h5⟩
theorem RG_ge {H G : HF} {P : Nat} {pid cnt : Nat → Nat} {vd gr : Nat → Nat → Nat} {vr : Nat → VR} (hh : Ge H G) (h : RG H P pid cnt vd gr vr) : RG G P pid cnt vd gr vr := by
  obtain ⟨h1, h2, h3, h4, h5, h6, h7⟩ := h
  exact ⟨h1, hh _ _ (by omega) (.inl (by omega)) h2, fun p hp => PkAt_ge hh (h3 p hp), fun p i hp hi => ⟨VerAt_ty (Ty_ge hh) (h4 p i hp hi).1, (h4 p i hp hi).2⟩, h5, h6, h7⟩
theorem WiAt_ge {H G : HF} {w : Nat} {wl : List CR} (hh : Gs H G) (hT : Ty H G) (hw : 88 ≤ w ∧ w + 1 < 119) (h : WiAt H w wl) : WiAt G w wl := by
  obtain ⟨a, b, wc, c, e⟩ := h
  refine ⟨hh _ _ hw.1 (by omega) a, b, wc, hh _ _ (by omega) (by omega) c, fun i x hx => ?_⟩
  obtain ⟨o, nx, q1, q2⟩ := e i x hx
  exact ⟨o, nx, q1, ClaimAt_ty hT q2⟩
theorem PlAt_ge {H G : HF} (hh : Gs H G) {th : Bool} {pc pd : Nat} {kd : Nat → Int} {pp : Nat → Nat} {pb : Nat → Option Nat} (h : PlAt H th pc pd kd pp pb) : PlAt G th pc pd kd pp pb := ⟨hh _ _ (by omega) (by omega) h.1, hh _ _ (by omega) (by omega) h.2.1, hh _ _ (by omega) (by omega) h.2.2.1, hh _ _ (by omega) (by omega) h.2.2.2⟩
theorem CaAt_ge {H G : HF} (hh : Gs H G) {c : Nat} (hc : 88 ≤ c ∧ c + 1 < 119) {L : List Nat} {r : Int} {vr : Nat → VR} {V : Nat → Prop} (h : CaAt H c L r vr V) : CaAt G c L r vr V := by
  obtain ⟨a, b, d, hd, e, f⟩ := h
  exact ⟨hh _ _ hc.1 (by omega) a, b, d, hd, hh _ _ (by omega) (by omega) e, f⟩
theorem ScR_ge {H G : HF} (hh : Gs H G) {Ow : Nat → Nat → Prop} (hS : ScR H Ow) : ScR G Ow := by
  obtain ⟨⟨tc, lv, tr, htc, ⟨rl, rs, row, lev, z0, z1, z2, z3, z4⟩, hlv, htr⟩, ⟨z, wc, s1, s2⟩, s3, ⟨ch, s4⟩, ⟨on, s5, s6⟩, cand, cc, s7, s8, s9⟩ := hS
  exact ⟨⟨tc, lv, tr, htc, ⟨rl, rs, row, lev, hh _ _ (by omega) (by omega) z0, hh _ _ (by omega) (by omega) z1, hh _ _ (by omega) (by omega) z2, hh _ _ (by omega) (by omega) z3, z4⟩, hlv, htr⟩, ⟨z, wc, hh _ _ (by omega) (by omega) s1, hh _ _ (by omega) (by omega) s2⟩, hh _ _ (by omega) (by omega) s3, ⟨ch, hh _ _ (by omega) (by omega) s4⟩, ⟨on, hh _ _ (by omega) (by omega) s5, s6⟩, cand, cc, hh _ _ (by omega) (by omega) s7, hh _ _ (by omega) (by omega) s8, s9⟩
theorem ScA_ge {H G : HF} (hh : Gs H G) {Ow : Nat → Nat → Prop} (hS : ScA H Ow) : ScA G Ow := by
  obtain ⟨⟨lo, a, b⟩, ⟨don, c, d⟩, e, ⟨k0, len, ah, qu, f1, f2, f3, f4⟩, ⟨x, y, z, hd, g1, g2, g3, g4, g5⟩⟩ := hS
  exact ⟨⟨lo, hh _ _ (by omega) (by omega) a, b⟩, ⟨don, hh _ _ (by omega) (by omega) c, d⟩, ScR_ge hh e, ⟨k0, len, ah, qu, hh _ _ (by omega) (by omega) f1, hh _ _ (by omega) (by omega) f2, hh _ _ (by omega) (by omega) f3, hh _ _ (by omega) (by omega) f4⟩, ⟨x, y, z, hd, g1, g2, g3, hh _ _ (by omega) (by omega) g4, hh _ _ (by omega) (by omega) g5⟩⟩
theorem AllB_ge {H G : HF} {P : Nat} {pid cnt : Nat → Nat} {vd gr : Nat → Nat → Nat} {vr : Nat → VR} {wl : List CR} {lk dk : Nat → Option Nat} {th : Bool} {pc pd : Nat} {kd : Nat → Int} {pp : Nat → Nat} {pb : Nat → Option Nat} {cl : List Nat} {cr dr lt fc : Int} (hh : Ge H G) (hA : AllB H P pid cnt vd gr vr wl lk dk th pc pd kd pp pb cl cr dr lt fc) : AllB G P pid cnt vd gr vr wl lk dk th pc pd kd pp pb cl cr dr lt fc := by
  obtain ⟨hR, h86, ⟨hW, hwP⟩, ⟨L0, L1, hL⟩, ⟨D0, D1, hD⟩, ⟨hP, hpc, hpd, hpp, hpb⟩, ⟨hCa, hcr, hus⟩, hdr, hS⟩ := hA
  exact ⟨RG_ge hh hR, hh _ _ (by omega) (.inl (by omega)) h86, ⟨WiAt_ge (Gs_ge hh) (Ty_ge hh) (by omega) hW, hwP⟩, ⟨hh _ _ (by omega) (.inl (by omega)) L0, hh _ _ (by omega) (.inl (by omega)) L1, hL⟩, ⟨hh _ _ (by omega) (.inl (by omega)) D0, hh _ _ (by omega) (.inl (by omega)) D1, hD⟩, ⟨PlAt_ge (Gs_ge hh) hP, hpc, hpd, hpp, hpb⟩, ⟨CaAt_ge (Gs_ge hh) (by omega) hCa, hcr, hus⟩, hdr, ScA_ge (Gs_ge hh) hS⟩
/-- the candidates stay versions of their packages when there are more -/
theorem CdOK_mono {A B : Nat → Nat → Prop} (h : ∀ p o, A p o → B p o) {cand : Nat → Option Nat} {cc : Nat → Int} (hc : CdOK A cand cc) : CdOK B cand cc := fun q hq => ⟨(hc q hq).1, (hc q hq).2.1, fun i hi => by
  obtain ⟨o, h1, h2⟩ := (hc q hq).2.2 i hi
  exact ⟨o, h1, h _ _ h2⟩⟩
theorem ScA_mono {H : HF} {A B : Nat → Nat → Prop} (h : ∀ p o, A p o → B p o) (hS : ScA H A) : ScA H B := by
  obtain ⟨a, b, ⟨r1, r2, r3, r4, r5, cand, cc, r6, r7, r8⟩, c, d⟩ := hS
  exact ⟨a, b, ⟨r1, r2, r3, r4, r5, cand, cc, r6, r7, CdOK_mono h r8⟩, c, d⟩
theorem usd_ext {vr vr2 : Nat → VR} : ∀ {L : List Nat}, (∀ q ∈ L, vS (vr2 q) = vS (vr q)) → usd vr2 L = usd vr L
  | [], _ => rfl
  | q :: t, h => by
    show vS (vr2 q) + usd vr2 t = vS (vr q) + usd vr t
    rw [h q List.mem_cons_self, usd_ext (fun x hx => h x (List.mem_cons_of_mem _ hx))]
theorem CaAt_vr {H : HF} {c : Nat} {L : List Nat} {r : Int} {vr vr2 : Nat → VR} {V V2 : Nat → Prop} (hv : ∀ q, V q → vS (vr2 q) = vS (vr q) ∧ V2 q) (h : CaAt H c L r vr V) : CaAt H c L r vr2 V2 ∧ usd vr2 L = usd vr L := by
  obtain ⟨a, b, d, hd, e, f⟩ := h
  have hu := usd_ext (vr := vr) (vr2 := vr2) (L := L) (fun q hq => (hv q (d q hq)).1)
  exact ⟨⟨by rw [hu]; exact a, b, fun q hq => (hv q (d q hq)).2, hd, e, f⟩, hu⟩
theorem All_reg {H G : HF} {P : Nat} {pid cnt : Nat → Nat} {vd gr : Nat → Nat → Nat} {vr : Nat → VR} {wl : List CR} {lk dk : Nat → Option Nat} {th : Bool} {pc pd : Nat} {kd : Nat → Int} {pp : Nat → Nat} {pb : Nat → Option Nat} {cl : List Nat} {cr dr lt fc : Int} {P2 : Nat} {pid2 cnt2 : Nat → Nat} {vd2 gr2 : Nat → Nat → Nat} {vr2 : Nat → VR} (hA : AllB H P pid cnt vd gr vr wl lk dk th pc pd kd pp pb cl cr dr lt fc) (hs : Gs H G) (h86 : G 86 = some (false, 7, pwF P2 dr lt fc)) (hR : RG G P2 pid2 cnt2 vd2 gr2 vr2) (hP2 : P ≤ P2) (hW : WiAt G 88 wl) (hO : ∀ q o, Own P cnt vd q o → Own P2 cnt2 vd2 q o) (hv : ∀ q, VV P cnt vd q → vS (vr2 q) = vS (vr q)) : AllB G P2 pid2 cnt2 vd2 gr2 vr2 wl lk dk th pc pd kd pp pb cl cr dr lt fc := by
  obtain ⟨-, -, ⟨-, hwP⟩, ⟨L0, L1, hL⟩, ⟨D0, D1, hD⟩, ⟨hP, hpc, hpd, hpp, hpb⟩, ⟨hCa, hcr, hus⟩, hdr, hS⟩ := hA
  have hV : ∀ q, VV P cnt vd q → VV P2 cnt2 vd2 q := fun q ⟨p, h⟩ => ⟨p, hO p q h⟩
  obtain ⟨hCa2, hu⟩ := CaAt_vr (vr2 := vr2) (V2 := VV P2 cnt2 vd2) (fun q hq => ⟨hv q hq, hV q hq⟩) (CaAt_ge hs (by omega) hCa)
  exact ⟨hR, h86, ⟨hW, fun c hc => Nat.lt_of_lt_of_le (hwP c hc) hP2⟩, ⟨hs _ _ (by omega) (by omega) L0, hs _ _ (by omega) (by omega) L1, fun q o h => hO q o (hL q o h)⟩, ⟨hs _ _ (by omega) (by omega) D0, hs _ _ (by omega) (by omega) D1, fun q o h => hO q o (hD q o h)⟩, ⟨PlAt_ge hs hP, hpc, hpd, hpp, fun i o hi h => hV o (hpb i o hi h)⟩, ⟨hCa2, hcr, by rw [hu]; exact hus⟩, hdr, ScA_mono hO (ScA_ge hs hS)⟩
/-- the packages' ids lie apart -/
def PidS (P : Nat) (pid : Nat → Nat) : Prop := ∀ p q, p < q → q < P → pid p + 2 < pid q
/-- whose a claim is -/
def CnT (H : HF) (tg : Nat → Nat) (z : Nat) : Option Nat → List CR → Prop
  | _, [] => True
  | x, _ :: t => ∃ o nx a b c d, x = some o ∧ tg o = z ∧ H o = some (false, 8, [a, b, c, d, rvl nx]) ∧ CnT H tg z nx t
def SepV (H : HF) (tg : Nat → Nat) (o : Nat) (v : VR) : Prop := ∃ f g a0 a1 a2 a3 a5 a7, H o = some (false, 10, [a0, a1, a2, a3, rvl f, a5, rvl g, a7]) ∧ CnT H tg (2 * o) f (vQ v) ∧ CnT H tg (2 * o + 1) g (vK v)
def RX (H : HF) (P : Nat) (pid cnt : Nat → Nat) (vd : Nat → Nat → Nat) (vr : Nat → VR) (tg : Nat → Nat) : Prop := PidS P pid ∧ ∀ p i, p < P → i < cnt p → SepV H tg (vd p i) (vr (vd p i))
theorem CnT_ty {H G : HF} {tg tg2 : Nat → Nat} {z : Nat} (hh : ∀ o fs, tg o = z → H o = some (false, 8, fs) → G o = some (false, 8, fs) ∧ tg2 o = z) : ∀ {l : List CR} {x : Option Nat}, CnT H tg z x l → CnT G tg2 z x l
  | [], _, _ => trivial
  | _ :: t, _, ⟨o, nx, a, b, c, d, h1, h2, h3, h4⟩ => ⟨o, nx, a, b, c, d, h1, (hh o _ h2 h3).2, (hh o _ h2 h3).1, CnT_ty hh h4⟩
theorem Rm_fr {S : ScT} {k : Nat} {as : List Value} {H : HF} {n : Nat} {P : Option Value → HF → Nat → Prop} (h : Frs H n → Rmt S k as H n P) : Rmt S k as H n P := fun h0 e f => h f h0 e f
theorem Fr_no {H : HF} {n o : Nat} {c : XCl} (hf : Frs H n) (h : H o = some c) : ¬ o = n := fun e => by
  rw [e, hf n (Nat.le_refl n)] at h
  cases h
theorem t_packC {S : ScT} {H : HF} (n : Nat) {k : Nat} {a b c : Value} (hkn : k < n) (h0 : H k = some (false, 3, [a, b, c])) : Rdt S 91 [.ref k] H n none (hup (hup (hup H n (true, 3, aR 8 (fun _ => none))) (n + 1) (true, 3, aR 8 (fun _ => none))) k (false, 3, [.ref n, .ref (n + 1), c])) (n + 2) := by
  refine Rm_of (M := xm91) (lv := [(0, _)]) rfl rfl rfl ?_
  refine Gq_s (pc' := 1) rfl rfl rfl ?_
  refine Gq_oinit (pc' := 4) rfl rfl rfl ?_
  refine Gq_s (pc' := 5) rfl rfl rfl ?_
  refine Gq_bipush (pc' := 7) rfl rfl (by decide) ?_
  refine Gq_newa (pc' := 10) (N := 8) rfl (fun _ => rfl) rfl rfl (rfl) (by decide) ((rep_R _)) (by decide) (by decide) ?_
  refine Gq_put (pc' := 13) (fs' := [_, _, _]) rfl rfl (by first | assumption | exact upd_eq _ _ _ | (refine (upd_ne _ _ (by omega)).trans ?_; first | assumption | exact upd_eq _ _ _ | (refine (upd_ne _ _ (by omega)).trans ?_; first | assumption | exact upd_eq _ _ _ | (refine (upd_ne _ _ (by omega)).trans ?_; first | assumption | exact upd_eq _ _ _)))) (by exact rfl) (by first | rfl | exact xfit_bI _) (by exact rfl) ?_
  refine Gq_s (pc' := 14) rfl rfl rfl ?_
  refine Gq_bipush (pc' := 16) rfl rfl (by decide) ?_
  refine Gq_newa (pc' := 19) (N := 8) rfl (fun _ => rfl) rfl rfl (rfl) (by decide) ((rep_R _)) (by decide) (by decide) ?_
  refine Gq_put (pc' := 22) (fs' := [_, _, _]) rfl rfl (by first | assumption | exact upd_eq _ _ _ | (refine (upd_ne _ _ (by omega)).trans ?_; first | assumption | exact upd_eq _ _ _ | (refine (upd_ne _ _ (by omega)).trans ?_; first | assumption | exact upd_eq _ _ _ | (refine (upd_ne _ _ (by omega)).trans ?_; first | assumption | exact upd_eq _ _ _)))) (by exact rfl) (by first | rfl | exact xfit_bI _) (by exact rfl) ?_
  have e : ∀ (a1 a2 a3 : XCl) (b1 : XCl), hup (hup (hup (hup H n b1) k a1) (n + 1) a2) k a3 = hup (hup (hup H n b1) (n + 1) a2) k a3 := fun a1 a2 a3 b1 => by rw [upd_comm (hup H n b1) a1 a2 (by omega), upd_upd]
  rw [e]
  exact Gq_ret rfl rfl (rfl) (⟨rfl, rfl, rfl⟩)
end XKk
