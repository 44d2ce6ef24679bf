/-! the class's whole picture; the checksum (printed by wip/p46/gen38.py) -/
section XKi
theorem Gq_tern {S : ScT} {M : XM} {pc p3 p4 p7 p8 : Nat} {lv : XL} {st : List Value} {H : HF} {n ce sl : Nat} {Q : XLf → Prop} {b : Bool} {a1 a2 a3 a4 : List Nat} (hr1 : yrow M pc = some (pc, .ifCond .eq 7, 2, a1)) (h3 : pc + 3 = p3) (hr2 : yrow M p3 = some (p3, .iconst 1, 0, a2)) (h4 : p3 + 1 = p4) (hr3 : yrow M p4 = some (p4, .goto 4, 2, a3)) (h7 : xtgt pc 7 = some p7) (hr4 : yrow M p7 = some (p7, .iconst 0, 0, a4)) (h8 : p7 + 1 = p8) (h9 : xtgt p4 4 = some p8) (kk : Gw S M p8 lv (.int (zI (bI b)) :: st) H n ce sl Q) : Gw S M pc lv (.int (zI (bI b)) :: st) H n ce sl Q := by
  refine Gq_beq hr1 h7 h3 (fun hb => ?_) (fun hb => ?_)
  · subst hb
    exact Gq_s hr4 h8 rfl kk
  · subst hb
    exact Gq_s hr2 h4 rfl (Gq_goto hr3 h9 kk)
def ScA (H : HF) (Ow : Nat → Nat → Prop) : Prop := (∃ lo, H 92 = some (true, 0, aNt 12 lo) ∧ o16 lo) ∧ (∃ don, H 95 = some (true, 0, aNt 12 don) ∧ o16 don) ∧ ScR H Ow ∧ ScC H ∧ TcS H
/-- the whole class -/
def AllB (H : HF) (P : Nat) (pid cnt : Nat → Nat) (vd gr : Nat → Nat → Nat) (vr : Nat → VR) (wl : List CR) (lk dk : Nat → Option Nat) (th : Bool) (pc pd : Nat) (kd : Nat → Int) (pp : Nat → Nat) (pb : Nat → Option Nat) (cl : List Nat) (cr dr lt fc : Int) : Prop :=
  RG H P pid cnt vd gr vr ∧ H 86 = some (false, 7, pwF P dr lt fc) ∧ (WiAt H 88 wl ∧ ∀ c ∈ wl, cT c < P) ∧ (H 90 = some (false, 2, [.ref 91, .ref 92]) ∧ H 91 = some (true, 3, aR 12 lk) ∧ ∀ q o, lk q = some o → Own P cnt vd q o) ∧ (H 93 = some (false, 2, [.ref 94, .ref 95]) ∧ H 94 = some (true, 3, aR 12 dk) ∧ ∀ q o, dk q = some o → Own P cnt vd q o) ∧ (PlAt H th pc pd kd pp pb ∧ pc ≤ 12 ∧ pd ≤ pc ∧ (∀ i, i < pc → pp i < 12) ∧ ∀ i o, i < pc → pb i = some o → VV P cnt vd o) ∧ (CaAt H 115 cl cr vr (VV P cnt vd) ∧ (0 ≤ cr ∧ cr ≤ 20000) ∧ usd vr cl ≤ cr) ∧ (0 ≤ dr ∧ dr ≤ 20000) ∧ ScA H (Own P cnt vd)
/-- nothing but scratch has changed -/
def SFr (H G : HF) : Prop := ∀ o, ¬ o = 92 → ¬ o = 95 → (o < 96 ∨ 110 < o) → ¬ o = 117 → ¬ o = 118 → G o = H o
theorem SFr_refl (H : HF) : SFr H H := fun _ _ _ _ _ _ => rfl
theorem SFr_trans {H G K : HF} (h1 : SFr H G) (h2 : SFr G K) : SFr H K := fun o a b c d e => (h2 o a b c d e).trans (h1 o a b c d e)
theorem SFr_hi {H G : HF} (h : SFr H G) : Hi H G := fun o ho => h o (by omega) (by omega) (by omega) (by omega) (by omega)
theorem CaAt_off {H G : HF} {L : List Nat} {r : Int} {vr : Nat → VR} {V : Nat → Prop} (h1 : G 115 = H 115) (h2 : G 116 = H 116) (h : CaAt H 115 L r vr V) : CaAt G 115 L r vr V := by
  obtain ⟨a, b, c, hd, d, e⟩ := h
  exact ⟨h1.trans a, b, c, hd, h2.trans d, e⟩
theorem ScC_off {H G : HF} (h : ∀ o, 107 ≤ o → o ≤ 110 → G o = H o) (hS : ScC H) : ScC G := by
  obtain ⟨k0, len, ah, qu, a, b, c, d⟩ := hS
  exact ⟨k0, len, ah, qu, (h 107 (by omega) (by omega)).trans a, (h 108 (by omega) (by omega)).trans b, (h 109 (by omega) (by omega)).trans c, (h 110 (by omega) (by omega)).trans d⟩
theorem TcS_off {H G : HF} (h1 : G 117 = H 117) (h2 : G 118 = H 118) (hT : TcS H) : TcS G := by
  obtain ⟨a, b, c, hd, e1, e2, e3, e4, e5⟩ := hT
  exact ⟨a, b, c, hd, e1, e2, e3, h1.trans e4, h2.trans e5⟩
theorem AllB_rd {H G : HF} {P : Nat} {pid cnt : Nat → Nat} {vd gr : Nat → Nat → Nat} {vr : Nat → VR} {wl : List CR} {lk dk : Nat → Option Nat} {th : Bool} {pc pd : Nat} {kd : Nat → Int} {pp : Nat → Nat} {pb : Nat → Option Nat} {cl : List Nat} {cr dr lt fc : Int} (hA : AllB H P pid cnt vd gr vr wl lk dk th pc pd kd pp pb cl cr dr lt fc) (hf : SFr H G) (hs : ScA G (Own P cnt vd)) : AllB G P pid cnt vd gr vr wl lk dk th pc pd kd pp pb cl cr dr lt fc := by
  obtain ⟨hR, h86, ⟨hW, hwP⟩, ⟨L0, L1, hL⟩, ⟨D0, D1, hD⟩, ⟨hP, hpc, hpd, hpp, hpb⟩, ⟨hCa, hcr, hus⟩, hdr, ⟨lo, L2, hlo⟩, ⟨don, D2, hdo⟩, hSR, hSC, hTS⟩ := id hA
  have hh := SFr_hi hf
  have f : ∀ o, (o < 92 ∨ o = 93 ∨ o = 94 ∨ 110 < o ∧ o < 117) → G o = H o := fun o h => hf o (by omega) (by omega) (by omega) (by omega) (by omega)
  exact ⟨RG_hi hh (f 87 (by omega)) hR, (f 86 (by omega)).trans h86, ⟨WiAt_hi hh (f 88 (by omega)) (f 89 (by omega)) hW, hwP⟩, ⟨(f 90 (by omega)).trans L0, (f 91 (by omega)).trans L1, hL⟩, ⟨(f 93 (by omega)).trans D0, (f 94 (by omega)).trans D1, hD⟩, ⟨PlAt_off (f 111 (by omega)) (f 112 (by omega)) (f 113 (by omega)) (f 114 (by omega)) hP, hpc, hpd, hpp, hpb⟩, ⟨CaAt_off (f 115 (by omega)) (f 116 (by omega)) hCa, hcr, hus⟩, hdr, hs⟩
theorem q_same {S : ScT} {k : Nat} {as : List Value} {H : HF} {n : Nat} {z : Int} {P : Nat} {pid cnt : Nat → Nat} {vd gr : Nat → Nat → Nat} {vr : Nat → VR} {wl : List CR} {lk dk : Nat → Option Nat} {th : Bool} {pc pd : Nat} {kd : Nat → Int} {pp : Nat → Nat} {pb : Nat → Option Nat} {cl : List Nat} {cr dr lt fc : Int} (hA : AllB H P pid cnt vd gr vr wl lk dk th pc pd kd pp pb cl cr dr lt fc) (h : Rdt S k as H n (some (.int (zI z))) H n) : Rmt S k as H n (fun v G m => v = some (.int (zI z)) ∧ m = n ∧ AllB G P pid cnt vd gr vr wl lk dk th pc pd kd pp pb cl cr dr lt fc ∧ SFr H G) := Rm_mono h (by
  rintro v G m ⟨rfl, rfl, rfl⟩
  exact ⟨rfl, rfl, hA, SFr_refl _⟩)
theorem q_92 {S : ScT} {k : Nat} {as : List Value} {H : HF} {n : Nat} {z : Int} {P : Nat} {pid cnt : Nat → Nat} {vd gr : Nat → Nat → Nat} {vr : Nat → VR} {wl : List CR} {lk dk : Nat → Option Nat} {th : Bool} {pc pd : Nat} {kd : Nat → Int} {pp : Nat → Nat} {pb : Nat → Option Nat} {cl : List Nat} {cr dr lt fc : Int} (hA : AllB H P pid cnt vd gr vr wl lk dk th pc pd kd pp pb cl cr dr lt fc) (h : Rdt S k as H n (some (.int (zI z))) (hup H 92 (true, 0, aNt 12 (onF vr lk wl))) n) : Rmt S k as H n (fun v G m => v = some (.int (zI z)) ∧ m = n ∧ AllB G P pid cnt vd gr vr wl lk dk th pc pd kd pp pb cl cr dr lt fc ∧ SFr H G) := Rm_mono h (by
  rintro v G m ⟨rfl, rfl, rfl⟩
  obtain ⟨hR, h86, ⟨hW, hwP⟩, ⟨L0, L1, hL⟩, ⟨D0, D1, hD⟩, ⟨hP, hpc, hpd, hpp, hpb⟩, ⟨hCa, hcr, hus⟩, hdr, ⟨lo, L2, hlo⟩, ⟨don, D2, hdo⟩, hSR, hSC, hTS⟩ := id hA
  have fr : SFr H (hup H 92 (true, 0, aNt 12 (onF vr lk wl))) := fun o a _ _ _ _ => upd_ne _ _ a
  exact ⟨rfl, rfl, AllB_rd hA fr ⟨⟨_, upd_eq _ _ _, onF_16 (NOK_of (RG_vs hR) (Own_ch hL)) (WiAt_ok hW)⟩, ⟨don, by rw [upd_ne _ _ (by omega)]; exact D2, hdo⟩, ScR_off (fun o _ _ => upd_ne _ _ (by omega)) hSR, ScC_off (fun o _ _ => upd_ne _ _ (by omega)) hSC, TcS_off (upd_ne _ _ (by omega)) (upd_ne _ _ (by omega)) hTS⟩, fr⟩)
theorem ScA_ch {H G : HF} {P : Nat} {pid cnt : Nat → Nat} {vd gr : Nat → Nat → Nat} {vr : Nat → VR} {wl : List CR} {lk dk : Nat → Option Nat} {th : Bool} {pc pd : Nat} {kd : Nat → Int} {pp : Nat → Nat} {pb : Nat → Option Nat} {cl : List Nat} {cr dr lt fc : Int} (hA : AllB H P pid cnt vd gr vr wl lk dk th pc pd kd pp pb cl cr dr lt fc) (g1 : G 92 = some (true, 0, aNt 12 (onF vr lk wl))) (g2 : ∃ s, CsP G s ∧ CsE s (chL vr lk wl)) (g3 : ∀ o, ¬ o = 92 → ¬ o = 107 → ¬ o = 108 → ¬ o = 109 → ¬ o = 110 → G o = H o) : AllB G P pid cnt vd gr vr wl lk dk th pc pd kd pp pb cl cr dr lt fc ∧ SFr H G := by
  obtain ⟨hR, h86, ⟨hW, hwP⟩, ⟨L0, L1, hL⟩, ⟨D0, D1, hD⟩, ⟨hP, hpc, hpd, hpp, hpb⟩, ⟨hCa, hcr, hus⟩, hdr, ⟨lo, L2, hlo⟩, ⟨don, D2, hdo⟩, hSR, hSC, hTS⟩ := id hA
  have fr : SFr H G := fun o a b c d e => g3 o (by omega) (by omega) (by omega) (by omega) (by omega)
  obtain ⟨s, g4, -⟩ := g2
  exact ⟨AllB_rd hA fr ⟨⟨_, g1, onF_16 (NOK_of (RG_vs hR) (Own_ch hL)) (WiAt_ok hW)⟩, ⟨don, (g3 95 (by omega) (by omega) (by omega) (by omega) (by omega)).trans D2, hdo⟩, ScR_off (fun o _ _ => g3 o (by omega) (by omega) (by omega) (by omega) (by omega)) hSR, ScC_of g4, TcS_off (g3 117 (by omega) (by omega) (by omega) (by omega) (by omega)) (g3 118 (by omega) (by omega) (by omega) (by omega) (by omega)) hTS⟩, fr⟩
theorem q_packages {S : ScT} {H : HF} (n : Nat) {P : Nat} {pid cnt : Nat → Nat} {vd gr : Nat → Nat → Nat} {vr : Nat → VR} {wl : List CR} {lk dk : Nat → Option Nat} {th : Bool} {pc pd : Nat} {kd : Nat → Int} {pp : Nat → Nat} {pb : Nat → Option Nat} {cl : List Nat} {cr dr lt fc : Int} (hA : AllB H P pid cnt vd gr vr wl lk dk th pc pd kd pp pb cl cr dr lt fc) : Rmt S 6 [.ref 86] H n (fun v G m => v = some (.int (zI (P : Int))) ∧ m = n ∧ AllB G P pid cnt vd gr vr wl lk dk th pc pd kd pp pb cl cr dr lt fc ∧ SFr H G) := by
  obtain ⟨hR, h86, ⟨hW, hwP⟩, ⟨L0, L1, hL⟩, ⟨D0, D1, hD⟩, ⟨hP, hpc, hpd, hpp, hpb⟩, ⟨hCa, hcr, hus⟩, hdr, ⟨lo, L2, hlo⟩, ⟨don, D2, hdo⟩, hSR, hSC, hTS⟩ := id hA
  exact q_same hA (t_packages n h86)
theorem q_wishes {S : ScT} {H : HF} (n : Nat) {P : Nat} {pid cnt : Nat → Nat} {vd gr : Nat → Nat → Nat} {vr : Nat → VR} {wl : List CR} {lk dk : Nat → Option Nat} {th : Bool} {pc pd : Nat} {kd : Nat → Int} {pp : Nat → Nat} {pb : Nat → Option Nat} {cl : List Nat} {cr dr lt fc : Int} (hA : AllB H P pid cnt vd gr vr wl lk dk th pc pd kd pp pb cl cr dr lt fc) : Rmt S 10 [.ref 86] H n (fun v G m => v = some (.int (zI (wl.length : Int))) ∧ m = n ∧ AllB G P pid cnt vd gr vr wl lk dk th pc pd kd pp pb cl cr dr lt fc ∧ SFr H G) := by
  obtain ⟨hR, h86, ⟨hW, hwP⟩, ⟨L0, L1, hL⟩, ⟨D0, D1, hD⟩, ⟨hP, hpc, hpd, hpp, hpb⟩, ⟨hCa, hcr, hus⟩, hdr, ⟨lo, L2, hlo⟩, ⟨don, D2, hdo⟩, hSR, hSC, hTS⟩ := id hA
  exact q_same hA (t_wishes n h86 hW)
theorem q_tries {S : ScT} {H : HF} (n : Nat) {P : Nat} {pid cnt : Nat → Nat} {vd gr : Nat → Nat → Nat} {vr : Nat → VR} {wl : List CR} {lk dk : Nat → Option Nat} {th : Bool} {pc pd : Nat} {kd : Nat → Int} {pp : Nat → Nat} {pb : Nat → Option Nat} {cl : List Nat} {cr dr lt fc : Int} (hA : AllB H P pid cnt vd gr vr wl lk dk th pc pd kd pp pb cl cr dr lt fc) : Rmt S 12 [.ref 86] H n (fun v G m => v = some (.int (zI lt)) ∧ m = n ∧ AllB G P pid cnt vd gr vr wl lk dk th pc pd kd pp pb cl cr dr lt fc ∧ SFr H G) := by
  obtain ⟨hR, h86, ⟨hW, hwP⟩, ⟨L0, L1, hL⟩, ⟨D0, D1, hD⟩, ⟨hP, hpc, hpd, hpp, hpb⟩, ⟨hCa, hcr, hus⟩, hdr, ⟨lo, L2, hlo⟩, ⟨don, D2, hdo⟩, hSR, hSC, hTS⟩ := id hA
  exact q_same hA (t_tries n h86)
theorem q_fetched {S : ScT} {H : HF} (n : Nat) {P : Nat} {pid cnt : Nat → Nat} {vd gr : Nat → Nat → Nat} {vr : Nat → VR} {wl : List CR} {lk dk : Nat → Option Nat} {th : Bool} {pc pd : Nat} {kd : Nat → Int} {pp : Nat → Nat} {pb : Nat → Option Nat} {cl : List Nat} {cr dr lt fc : Int} (hA : AllB H P pid cnt vd gr vr wl lk dk th pc pd kd pp pb cl cr dr lt fc) : Rmt S 36 [.ref 86] H n (fun v G m => v = some (.int (zI fc)) ∧ m = n ∧ AllB G P pid cnt vd gr vr wl lk dk th pc pd kd pp pb cl cr dr lt fc ∧ SFr H G) := by
  obtain ⟨hR, h86, ⟨hW, hwP⟩, ⟨L0, L1, hL⟩, ⟨D0, D1, hD⟩, ⟨hP, hpc, hpd, hpp, hpb⟩, ⟨hCa, hcr, hus⟩, hdr, ⟨lo, L2, hlo⟩, ⟨don, D2, hdo⟩, hSR, hSC, hTS⟩ := id hA
  exact q_same hA (t_fetched n h86)
theorem q_steps {S : ScT} {H : HF} (n : Nat) {P : Nat} {pid cnt : Nat → Nat} {vd gr : Nat → Nat → Nat} {vr : Nat → VR} {wl : List CR} {lk dk : Nat → Option Nat} {th : Bool} {pc pd : Nat} {kd : Nat → Int} {pp : Nat → Nat} {pb : Nat → Option Nat} {cl : List Nat} {cr dr lt fc : Int} (hA : AllB H P pid cnt vd gr vr wl lk dk th pc pd kd pp pb cl cr dr lt fc) : Rmt S 27 [.ref 86] H n (fun v G m => v = some (.int (zI (pc : Int))) ∧ m = n ∧ AllB G P pid cnt vd gr vr wl lk dk th pc pd kd pp pb cl cr dr lt fc ∧ SFr H G) := by
  obtain ⟨hR, h86, ⟨hW, hwP⟩, ⟨L0, L1, hL⟩, ⟨D0, D1, hD⟩, ⟨hP, hpc, hpd, hpp, hpb⟩, ⟨hCa, hcr, hus⟩, hdr, ⟨lo, L2, hlo⟩, ⟨don, D2, hdo⟩, hSR, hSC, hTS⟩ := id hA
  exact q_same hA (t_steps n h86 hP.1)
theorem q_cached {S : ScT} {H : HF} (n : Nat) {P : Nat} {pid cnt : Nat → Nat} {vd gr : Nat → Nat → Nat} {vr : Nat → VR} {wl : List CR} {lk dk : Nat → Option Nat} {th : Bool} {pc pd : Nat} {kd : Nat → Int} {pp : Nat → Nat} {pb : Nat → Option Nat} {cl : List Nat} {cr dr lt fc : Int} (hA : AllB H P pid cnt vd gr vr wl lk dk th pc pd kd pp pb cl cr dr lt fc) : Rmt S 34 [.ref 86] H n (fun v G m => v = some (.int (zI (usd vr cl))) ∧ m = n ∧ AllB G P pid cnt vd gr vr wl lk dk th pc pd kd pp pb cl cr dr lt fc ∧ SFr H G) := by
  obtain ⟨hR, h86, ⟨hW, hwP⟩, ⟨L0, L1, hL⟩, ⟨D0, D1, hD⟩, ⟨hP, hpc, hpd, hpp, hpb⟩, ⟨hCa, hcr, hus⟩, hdr, ⟨lo, L2, hlo⟩, ⟨don, D2, hdo⟩, hSR, hSC, hTS⟩ := id hA
  exact q_same hA (t_cached n h86 hCa.1)
theorem q_lockedPk {S : ScT} {H : HF} (n : Nat) {P : Nat} {pid cnt : Nat → Nat} {vd gr : Nat → Nat → Nat} {vr : Nat → VR} {wl : List CR} {lk dk : Nat → Option Nat} {th : Bool} {pc pd : Nat} {kd : Nat → Int} {pp : Nat → Nat} {pb : Nat → Option Nat} {cl : List Nat} {cr dr lt fc : Int} (hA : AllB H P pid cnt vd gr vr wl lk dk th pc pd kd pp pb cl cr dr lt fc) : Rmt S 14 [.ref 86] H n (fun v G m => v = some (.int (zI (cntTo (fun p => decide (¬ lk p = none)) 12 : Int))) ∧ m = n ∧ AllB G P pid cnt vd gr vr wl lk dk th pc pd kd pp pb cl cr dr lt fc ∧ SFr H G) := by
  obtain ⟨hR, h86, ⟨hW, hwP⟩, ⟨L0, L1, hL⟩, ⟨D0, D1, hD⟩, ⟨hP, hpc, hpd, hpp, hpb⟩, ⟨hCa, hcr, hus⟩, hdr, ⟨lo, L2, hlo⟩, ⟨don, D2, hdo⟩, hSR, hSC, hTS⟩ := id hA
  exact q_same hA (t_lockedPk n h86 L0 L1)
theorem q_isSound {S : ScT} {H : HF} (n : Nat) {P : Nat} {pid cnt : Nat → Nat} {vd gr : Nat → Nat → Nat} {vr : Nat → VR} {wl : List CR} {lk dk : Nat → Option Nat} {th : Bool} {pc pd : Nat} {kd : Nat → Int} {pp : Nat → Nat} {pb : Nat → Option Nat} {cl : List Nat} {cr dr lt fc : Int} (hA : AllB H P pid cnt vd gr vr wl lk dk th pc pd kd pp pb cl cr dr lt fc) : Rmt S 16 [.ref 86] H n (fun v G m => v = some (.int (zI (bI (mtsB vr lk (onF vr lk wl) wl true)))) ∧ m = n ∧ AllB G P pid cnt vd gr vr wl lk dk th pc pd kd pp pb cl cr dr lt fc ∧ SFr H G) := by
  obtain ⟨hR, h86, ⟨hW, hwP⟩, ⟨L0, L1, hL⟩, ⟨D0, D1, hD⟩, ⟨hP, hpc, hpd, hpp, hpb⟩, ⟨hCa, hcr, hus⟩, hdr, ⟨lo, L2, hlo⟩, ⟨don, D2, hdo⟩, hSR, hSC, hTS⟩ := id hA
  exact q_92 hA (t_isSound n hR h86 hL L0 L1 L2 hW)
theorem q_idle {S : ScT} {H : HF} (n : Nat) {P : Nat} {pid cnt : Nat → Nat} {vd gr : Nat → Nat → Nat} {vr : Nat → VR} {wl : List CR} {lk dk : Nat → Option Nat} {th : Bool} {pc pd : Nat} {kd : Nat → Int} {pp : Nat → Nat} {pb : Nat → Option Nat} {cl : List Nat} {cr dr lt fc : Int} (hA : AllB H P pid cnt vd gr vr wl lk dk th pc pd kd pp pb cl cr dr lt fc) : Rmt S 17 [.ref 86] H n (fun v G m => v = some (.int (zI (cntTo (fun p => decide (¬ lk p = none ∧ (chL vr lk wl).1 p = 0)) 12 : Int))) ∧ m = n ∧ AllB G P pid cnt vd gr vr wl lk dk th pc pd kd pp pb cl cr dr lt fc ∧ SFr H G ∧ ∃ s, CsP G s ∧ CsE s (chL vr lk wl)) := by
  obtain ⟨hR, h86, ⟨hW, hwP⟩, ⟨L0, L1, hL⟩, ⟨D0, D1, hD⟩, ⟨hP, hpc, hpd, hpp, hpb⟩, ⟨hCa, hcr, hus⟩, hdr, ⟨lo, L2, hlo⟩, ⟨don, D2, hdo⟩, hSR, hSC, hTS⟩ := id hA
  refine Rm_mono (t_idle n hR h86 hL L0 L1 L2 hW hSC) ?_
  rintro v G m ⟨e1, e2, e3, e4, e5⟩
  obtain ⟨a, b⟩ := ScA_ch hA e3 e4 e5
  exact ⟨e1, e2, a, b, e4⟩
theorem q_depth {S : ScT} {H : HF} (n : Nat) {P : Nat} {pid cnt : Nat → Nat} {vd gr : Nat → Nat → Nat} {vr : Nat → VR} {wl : List CR} {lk dk : Nat → Option Nat} {th : Bool} {pc pd : Nat} {kd : Nat → Int} {pp : Nat → Nat} {pb : Nat → Option Nat} {cl : List Nat} {cr dr lt fc : Int} (hA : AllB H P pid cnt vd gr vr wl lk dk th pc pd kd pp pb cl cr dr lt fc) {p : Nat} (hp : p < P) : Rmt S 19 [.ref 86, .int (zI (p : Int))] H n (fun v G m => v = some (.int (zI ((chL vr lk wl).1 p : Int))) ∧ m = n ∧ AllB G P pid cnt vd gr vr wl lk dk th pc pd kd pp pb cl cr dr lt fc ∧ SFr H G ∧ ∃ s, CsP G s ∧ CsE s (chL vr lk wl)) := by
  obtain ⟨hR, h86, ⟨hW, hwP⟩, ⟨L0, L1, hL⟩, ⟨D0, D1, hD⟩, ⟨hP, hpc, hpd, hpp, hpb⟩, ⟨hCa, hcr, hus⟩, hdr, ⟨lo, L2, hlo⟩, ⟨don, D2, hdo⟩, hSR, hSC, hTS⟩ := id hA
  refine Rm_mono (t_depth n hR h86 hL L0 L1 L2 hW hSC hp) ?_
  rintro v G m ⟨e1, e2, e3, e4, e5⟩
  obtain ⟨a, b⟩ := ScA_ch hA e3 e4 e5
  exact ⟨e1, e2, a, b, e4⟩
theorem q_chainAt {S : ScT} {H : HF} (n : Nat) {P : Nat} {pid cnt : Nat → Nat} {vd gr : Nat → Nat → Nat} {vr : Nat → VR} {wl : List CR} {lk dk : Nat → Option Nat} {th : Bool} {pc pd : Nat} {kd : Nat → Int} {pp : Nat → Nat} {pb : Nat → Option Nat} {cl : List Nat} {cr dr lt fc : Int} (hA : AllB H P pid cnt vd gr vr wl lk dk th pc pd kd pp pb cl cr dr lt fc) {p : Nat} (hp : p < P) {i : Nat} (hpl : i < 1000) : Rmt S 20 [.ref 86, .int (zI (p : Int)), .int (zI (i : Int))] H n (fun v G m => v = some (.int (zI (lkAt (chL vr lk wl) p i))) ∧ m = n ∧ AllB G P pid cnt vd gr vr wl lk dk th pc pd kd pp pb cl cr dr lt fc ∧ SFr H G ∧ ∃ s, CsP G s ∧ CsE s (chL vr lk wl)) := by
  obtain ⟨hR, h86, ⟨hW, hwP⟩, ⟨L0, L1, hL⟩, ⟨D0, D1, hD⟩, ⟨hP, hpc, hpd, hpp, hpb⟩, ⟨hCa, hcr, hus⟩, hdr, ⟨lo, L2, hlo⟩, ⟨don, D2, hdo⟩, hSR, hSC, hTS⟩ := id hA
  refine Rm_mono (t_chainAt n hR h86 hL L0 L1 L2 hW hSC hp hpl) ?_
  rintro v G m ⟨e1, e2, e3, e4, e5⟩
  obtain ⟨a, b⟩ := ScA_ch hA e3 e4 e5
  exact ⟨e1, e2, a, b, e4⟩
theorem q_taken {S : ScT} {H : HF} (n : Nat) {P : Nat} {pid cnt : Nat → Nat} {vd gr : Nat → Nat → Nat} {vr : Nat → VR} {wl : List CR} {lk dk : Nat → Option Nat} {th : Bool} {pc pd : Nat} {kd : Nat → Int} {pp : Nat → Nat} {pb : Nat → Option Nat} {cl : List Nat} {cr dr lt fc : Int} (hA : AllB H P pid cnt vd gr vr wl lk dk th pc pd kd pp pb cl cr dr lt fc) : Rmt S 33 [.ref 86] H n (fun v G m => v = some (.int (zI (sumTo (fun p => szOf vr (dk p)) 12))) ∧ m = n ∧ AllB G P pid cnt vd gr vr wl lk dk th pc pd kd pp pb cl cr dr lt fc ∧ SFr H G) := by
  obtain ⟨hR, h86, ⟨hW, hwP⟩, ⟨L0, L1, hL⟩, ⟨D0, D1, hD⟩, ⟨hP, hpc, hpd, hpp, hpb⟩, ⟨hCa, hcr, hus⟩, hdr, ⟨lo, L2, hlo⟩, ⟨don, D2, hdo⟩, hSR, hSC, hTS⟩ := id hA
  exact q_same hA (t_taken n hR h86 hD D0 D1)
theorem q_wouldFetch {S : ScT} {H : HF} (n : Nat) {P : Nat} {pid cnt : Nat → Nat} {vd gr : Nat → Nat → Nat} {vr : Nat → VR} {wl : List CR} {lk dk : Nat → Option Nat} {th : Bool} {pc pd : Nat} {kd : Nat → Int} {pp : Nat → Nat} {pb : Nat → Option Nat} {cl : List Nat} {cr dr lt fc : Int} (hA : AllB H P pid cnt vd gr vr wl lk dk th pc pd kd pp pb cl cr dr lt fc) : Rmt S 37 [.ref 86] H n (fun v G m => v = some (.int (zI (wfR vr lk pp cr (pc - pd) pd cl 0))) ∧ m = n ∧ AllB G P pid cnt vd gr vr wl lk dk th pc pd kd pp pb cl cr dr lt fc ∧ SFr H G) := by
  obtain ⟨hR, h86, ⟨hW, hwP⟩, ⟨L0, L1, hL⟩, ⟨D0, D1, hD⟩, ⟨hP, hpc, hpd, hpp, hpb⟩, ⟨hCa, hcr, hus⟩, hdr, ⟨lo, L2, hlo⟩, ⟨don, D2, hdo⟩, hSR, hSC, hTS⟩ := id hA
  refine Rm_mono (t_wouldFetch n hL hpc hpp hcr hpd hR h86 L0 L1 hP hCa hTS) ?_
  rintro v G m ⟨e1, e2, e3, e4⟩
  have fr : SFr H G := fun o a b c d e => e4 o d e
  exact ⟨e1, e2, AllB_rd hA fr ⟨⟨lo, (e4 92 (by omega) (by omega)).trans L2, hlo⟩, ⟨don, (e4 95 (by omega) (by omega)).trans D2, hdo⟩, ScR_off (fun o _ _ => e4 o (by omega) (by omega)) hSR, ScC_off (fun o _ _ => e4 o (by omega) (by omega)) hSC, e3⟩, fr⟩
theorem q_roomNeeded {S : ScT} {H : HF} (n : Nat) {P : Nat} {pid cnt : Nat → Nat} {vd gr : Nat → Nat → Nat} {vr : Nat → VR} {wl : List CR} {lk dk : Nat → Option Nat} {th : Bool} {pc pd : Nat} {kd : Nat → Int} {pp : Nat → Nat} {pb : Nat → Option Nat} {cl : List Nat} {cr dr lt fc : Int} (hA : AllB H P pid cnt vd gr vr wl lk dk th pc pd kd pp pb cl cr dr lt fc) : Rmt S 38 [.ref 86] H n (fun v G m => v = some (.int (zI (rnR vr lk dk pp (pc - pd) pd (sumTo (fun p => szOf vr (dk p)) 12) (sumTo (fun p => szOf vr (dk p)) 12)))) ∧ m = n ∧ AllB G P pid cnt vd gr vr wl lk dk th pc pd kd pp pb cl cr dr lt fc ∧ SFr H G) := by
  obtain ⟨hR, h86, ⟨hW, hwP⟩, ⟨L0, L1, hL⟩, ⟨D0, D1, hD⟩, ⟨hP, hpc, hpd, hpp, hpb⟩, ⟨hCa, hcr, hus⟩, hdr, ⟨lo, L2, hlo⟩, ⟨don, D2, hdo⟩, hSR, hSC, hTS⟩ := id hA
  exact q_same hA (t_roomNeeded n hR h86 hL L0 L1 hD D0 D1 hP hpc hpd hpp)
theorem q_isInst {S : ScT} {H : HF} (n : Nat) {P : Nat} {pid cnt : Nat → Nat} {vd gr : Nat → Nat → Nat} {vr : Nat → VR} {wl : List CR} {lk dk : Nat → Option Nat} {th : Bool} {pc pd : Nat} {kd : Nat → Int} {pp : Nat → Nat} {pb : Nat → Option Nat} {cl : List Nat} {cr dr lt fc : Int} (hA : AllB H P pid cnt vd gr vr wl lk dk th pc pd kd pp pb cl cr dr lt fc) : Rmt S 39 [.ref 86] H n (fun v G m => v = some (.int (zI (bI (decide (diffs lk dk = 0))))) ∧ m = n ∧ AllB G P pid cnt vd gr vr wl lk dk th pc pd kd pp pb cl cr dr lt fc ∧ SFr H G) := by
  obtain ⟨hR, h86, ⟨hW, hwP⟩, ⟨L0, L1, hL⟩, ⟨D0, D1, hD⟩, ⟨hP, hpc, hpd, hpp, hpb⟩, ⟨hCa, hcr, hus⟩, hdr, ⟨lo, L2, hlo⟩, ⟨don, D2, hdo⟩, hSR, hSC, hTS⟩ := id hA
  exact q_same hA (t_isInst n hR h86 hL L0 L1 hD D0 D1)
theorem q_versions {S : ScT} {H : HF} (n : Nat) {P : Nat} {pid cnt : Nat → Nat} {vd gr : Nat → Nat → Nat} {vr : Nat → VR} {wl : List CR} {lk dk : Nat → Option Nat} {th : Bool} {pc pd : Nat} {kd : Nat → Int} {pp : Nat → Nat} {pb : Nat → Option Nat} {cl : List Nat} {cr dr lt fc : Int} (hA : AllB H P pid cnt vd gr vr wl lk dk th pc pd kd pp pb cl cr dr lt fc) {p : Nat} (hp : p < P) : Rmt S 7 [.ref 86, .int (zI (p : Int))] H n (fun v G m => v = some (.int (zI (cnt p : Int))) ∧ m = n ∧ AllB G P pid cnt vd gr vr wl lk dk th pc pd kd pp pb cl cr dr lt fc ∧ SFr H G) := by
  obtain ⟨hR, h86, ⟨hW, hwP⟩, ⟨L0, L1, hL⟩, ⟨D0, D1, hD⟩, ⟨hP, hpc, hpd, hpp, hpb⟩, ⟨hCa, hcr, hus⟩, hdr, ⟨lo, L2, hlo⟩, ⟨don, D2, hdo⟩, hSR, hSC, hTS⟩ := id hA
  exact q_same hA (t_versions n hR h86 hp)
theorem q_locked {S : ScT} {H : HF} (n : Nat) {P : Nat} {pid cnt : Nat → Nat} {vd gr : Nat → Nat → Nat} {vr : Nat → VR} {wl : List CR} {lk dk : Nat → Option Nat} {th : Bool} {pc pd : Nat} {kd : Nat → Int} {pp : Nat → Nat} {pb : Nat → Option Nat} {cl : List Nat} {cr dr lt fc : Int} (hA : AllB H P pid cnt vd gr vr wl lk dk th pc pd kd pp pb cl cr dr lt fc) {p : Nat} (hp : p < P) : Rmt S 13 [.ref 86, .int (zI (p : Int))] H n (fun v G m => v = some (.int (zI (nmOf vr (lk p)))) ∧ m = n ∧ AllB G P pid cnt vd gr vr wl lk dk th pc pd kd pp pb cl cr dr lt fc ∧ SFr H G) := by
  obtain ⟨hR, h86, ⟨hW, hwP⟩, ⟨L0, L1, hL⟩, ⟨D0, D1, hD⟩, ⟨hP, hpc, hpd, hpp, hpb⟩, ⟨hCa, hcr, hus⟩, hdr, ⟨lo, L2, hlo⟩, ⟨don, D2, hdo⟩, hSR, hSC, hTS⟩ := id hA
  exact q_same hA (t_locked n hR h86 hp hL L0 L1)
theorem q_installed {S : ScT} {H : HF} (n : Nat) {P : Nat} {pid cnt : Nat → Nat} {vd gr : Nat → Nat → Nat} {vr : Nat → VR} {wl : List CR} {lk dk : Nat → Option Nat} {th : Bool} {pc pd : Nat} {kd : Nat → Int} {pp : Nat → Nat} {pb : Nat → Option Nat} {cl : List Nat} {cr dr lt fc : Int} (hA : AllB H P pid cnt vd gr vr wl lk dk th pc pd kd pp pb cl cr dr lt fc) {p : Nat} (hp : p < P) : Rmt S 32 [.ref 86, .int (zI (p : Int))] H n (fun v G m => v = some (.int (zI (nmOf vr (dk p)))) ∧ m = n ∧ AllB G P pid cnt vd gr vr wl lk dk th pc pd kd pp pb cl cr dr lt fc ∧ SFr H G) := by
  obtain ⟨hR, h86, ⟨hW, hwP⟩, ⟨L0, L1, hL⟩, ⟨D0, D1, hD⟩, ⟨hP, hpc, hpd, hpp, hpb⟩, ⟨hCa, hcr, hus⟩, hdr, ⟨lo, L2, hlo⟩, ⟨don, D2, hdo⟩, hSR, hSC, hTS⟩ := id hA
  exact q_same hA (t_installed n hR h86 hp hD D0 D1)
theorem q_featuresOf {S : ScT} {H : HF} (n : Nat) {P : Nat} {pid cnt : Nat → Nat} {vd gr : Nat → Nat → Nat} {vr : Nat → VR} {wl : List CR} {lk dk : Nat → Option Nat} {th : Bool} {pc pd : Nat} {kd : Nat → Int} {pp : Nat → Nat} {pb : Nat → Option Nat} {cl : List Nat} {cr dr lt fc : Int} (hA : AllB H P pid cnt vd gr vr wl lk dk th pc pd kd pp pb cl cr dr lt fc) {p : Nat} (hp : p < P) : Rmt S 15 [.ref 86, .int (zI (p : Int))] H n (fun v G m => v = some (.int (zI (onF vr lk wl p : Int))) ∧ m = n ∧ AllB G P pid cnt vd gr vr wl lk dk th pc pd kd pp pb cl cr dr lt fc ∧ SFr H G) := by
  obtain ⟨hR, h86, ⟨hW, hwP⟩, ⟨L0, L1, hL⟩, ⟨D0, D1, hD⟩, ⟨hP, hpc, hpd, hpp, hpb⟩, ⟨hCa, hcr, hus⟩, hdr, ⟨lo, L2, hlo⟩, ⟨don, D2, hdo⟩, hSR, hSC, hTS⟩ := id hA
  exact q_92 hA (t_featuresOf n hR h86 hp hL L0 L1 L2 hW)
theorem q_neededBy {S : ScT} {H : HF} (n : Nat) {P : Nat} {pid cnt : Nat → Nat} {vd gr : Nat → Nat → Nat} {vr : Nat → VR} {wl : List CR} {lk dk : Nat → Option Nat} {th : Bool} {pc pd : Nat} {kd : Nat → Int} {pp : Nat → Nat} {pb : Nat → Option Nat} {cl : List Nat} {cr dr lt fc : Int} (hA : AllB H P pid cnt vd gr vr wl lk dk th pc pd kd pp pb cl cr dr lt fc) {p : Nat} (hp : p < P) : Rmt S 21 [.ref 86, .int (zI (p : Int))] H n (fun v G m => v = some (.int (zI (cntTo (fun q => (nMask vr lk (onF vr lk wl) q).testBit p) 12 : Int))) ∧ m = n ∧ AllB G P pid cnt vd gr vr wl lk dk th pc pd kd pp pb cl cr dr lt fc ∧ SFr H G) := by
  obtain ⟨hR, h86, ⟨hW, hwP⟩, ⟨L0, L1, hL⟩, ⟨D0, D1, hD⟩, ⟨hP, hpc, hpd, hpp, hpb⟩, ⟨hCa, hcr, hus⟩, hdr, ⟨lo, L2, hlo⟩, ⟨don, D2, hdo⟩, hSR, hSC, hTS⟩ := id hA
  exact q_92 hA (t_neededBy n hR h86 hp hL L0 L1 L2 hW)
theorem q_newer {S : ScT} {H : HF} (n : Nat) {P : Nat} {pid cnt : Nat → Nat} {vd gr : Nat → Nat → Nat} {vr : Nat → VR} {wl : List CR} {lk dk : Nat → Option Nat} {th : Bool} {pc pd : Nat} {kd : Nat → Int} {pp : Nat → Nat} {pb : Nat → Option Nat} {cl : List Nat} {cr dr lt fc : Int} (hA : AllB H P pid cnt vd gr vr wl lk dk th pc pd kd pp pb cl cr dr lt fc) {p : Nat} (hp : p < P) : Rmt S 22 [.ref 86, .int (zI (p : Int))] H n (fun v G m => v = some (.int (zI (newF vr (gOff vr (gr p) (cnt p) 0) (lk p)))) ∧ m = n ∧ AllB G P pid cnt vd gr vr wl lk dk th pc pd kd pp pb cl cr dr lt fc ∧ SFr H G) := by
  obtain ⟨hR, h86, ⟨hW, hwP⟩, ⟨L0, L1, hL⟩, ⟨D0, D1, hD⟩, ⟨hP, hpc, hpd, hpp, hpb⟩, ⟨hCa, hcr, hus⟩, hdr, ⟨lo, L2, hlo⟩, ⟨don, D2, hdo⟩, hSR, hSC, hTS⟩ := id hA
  exact q_same hA (t_newer n hR h86 hp hL L0 L1)
theorem q_core {S : ScT} {H : HF} (n : Nat) {P : Nat} {pid cnt : Nat → Nat} {vd gr : Nat → Nat → Nat} {vr : Nat → VR} {wl : List CR} {lk dk : Nat → Option Nat} {th : Bool} {pc pd : Nat} {kd : Nat → Int} {pp : Nat → Nat} {pb : Nat → Option Nat} {cl : List Nat} {cr dr lt fc : Int} (hA : AllB H P pid cnt vd gr vr wl lk dk th pc pd kd pp pb cl cr dr lt fc) : Rmt S 18 [.ref 86] H n (fun v G m => (∃ y, v = some (.int y)) ∧ m = n ∧ AllB G P pid cnt vd gr vr wl lk dk th pc pd kd pp pb cl cr dr lt fc ∧ SFr H G) := by
  obtain ⟨hR, h86, ⟨hW, hwP⟩, ⟨L0, L1, hL⟩, ⟨D0, D1, hD⟩, ⟨hP, hpc, hpd, hpp, hpb⟩, ⟨hCa, hcr, hus⟩, hdr, ⟨lo, L2, hlo⟩, ⟨don, D2, hdo⟩, hSR, hSC, hTS⟩ := id hA
  refine Rm_mono (t_core n hR h86 hL L0 L1 hW hwP hSR) ?_
  rintro v G m ⟨e1, e2, e3, e4⟩
  have fr : SFr H G := fun o a b c d e => e2 o (by omega)
  exact ⟨e4, e1, AllB_rd hA fr ⟨⟨lo, (e2 92 (by omega)).trans L2, hlo⟩, ⟨don, (e2 95 (by omega)).trans D2, hdo⟩, e3, ScC_off (fun o _ _ => e2 o (by omega)) hSC, TcS_off (e2 117 (by omega)) (e2 118 (by omega)) hTS⟩, fr⟩
theorem q_would {S : ScT} {H : HF} (n : Nat) {P : Nat} {pid cnt : Nat → Nat} {vd gr : Nat → Nat → Nat} {vr : Nat → VR} {wl : List CR} {lk dk : Nat → Option Nat} {th : Bool} {pc pd : Nat} {kd : Nat → Int} {pp : Nat → Nat} {pb : Nat → Option Nat} {cl : List Nat} {cr dr lt fc : Int} (hA : AllB H P pid cnt vd gr vr wl lk dk th pc pd kd pp pb cl cr dr lt fc) {p : Nat} (hp : p < P) : Rmt S 23 [.ref 86, .int (zI (p : Int))] H n (fun v G m => (∃ r : Int, v = some (.int (zI r)) ∧ -2 ≤ r ∧ r ≤ 12) ∧ m = n ∧ AllB G P pid cnt vd gr vr wl lk dk th pc pd kd pp pb cl cr dr lt fc ∧ SFr H G) := by
  obtain ⟨hR, h86, ⟨hW, hwP⟩, ⟨L0, L1, hL⟩, ⟨D0, D1, hD⟩, ⟨hP, hpc, hpd, hpp, hpb⟩, ⟨hCa, hcr, hus⟩, hdr, ⟨lo, L2, hlo⟩, ⟨don, D2, hdo⟩, hSR, hSC, hTS⟩ := id hA
  refine Rm_mono (t_would n hR h86 hp hL L0 L1 L2 hW hlo hwP hSR) ?_
  rintro v G m ⟨e1, e2, e3, e4, e5⟩
  have fr : SFr H G := fun o a b c d e => e2 o a (by omega)
  exact ⟨e5, e1, AllB_rd hA fr ⟨e4, ⟨don, (e2 95 (by omega) (by omega)).trans D2, hdo⟩, e3, ScC_off (fun o _ _ => e2 o (by omega) (by omega)) hSC, TcS_off (e2 117 (by omega) (by omega)) (e2 118 (by omega) (by omega)) hTS⟩, fr⟩
def mixV (d : Int64) (x : Int) : Int64 := d * Int64.ofNat 31 + (zI x).toInt64
def mixN (f : Nat → Int) : Nat → Nat → Int64 → Int64
  | 0, _, d => d
  | k + 1, i, d => mixN f k (i + 1) (mixV d (f i))
def mixS (kd : Nat → Int) (pp : Nat → Nat) : Nat → Nat → Int64 → Int64
  | 0, _, d => d
  | k + 1, i, d => mixS kd pp k (i + 1) (mixV (mixV d (kd i)) (pp i : Int))
theorem t_mix {S : ScT} (H : HF) (n : Nat) (d : Int64) (x : Int) : Rdt S 41 [.long d, .int (zI x)] H n (some (.long (mixV d x))) H n := by
  refine Rm_of (M := xm41) (lv := [(0, _), (2, _)]) rfl rfl rfl ?_
  refine Gq_s (pc' := 1) rfl rfl rfl ?_
  refine Gq_s (pc' := 4) rfl rfl rfl ?_
  refine Gq_s (pc' := 5) rfl rfl rfl ?_
  refine Gq_s (pc' := 6) rfl rfl rfl ?_
  refine Gq_s (pc' := 7) rfl rfl rfl ?_
  refine Gq_s (pc' := 8) rfl rfl rfl ?_
  exact Gq_ret rfl rfl (rfl) (⟨rfl, rfl, rfl⟩)
def mpV (cnt : Nat → Nat) (vd gr : Nat → Nat → Nat) (vr : Nat → VR) (wl : List CR) (lk dk : Nat → Option Nat) (cl : List Nat) (p : Nat) (d : Int64) : Int64 := mixN (fun i => plc (vd p i) cl 0) (cnt p) 0 (mixV (mixV (mixV (mixN (fun i => lkAt (chL vr lk wl) p i) ((chL vr lk wl).1 p) 0 (mixV (mixV (mixV (mixN (fun i => (vN (vr (gr p i)) : Int)) (cnt p) 0 (mixV d (cnt p : Int))) (nmOf vr (lk p))) (onF vr lk wl p : Int)) ((chL vr lk wl).1 p : Int))) (cntTo (fun q => (nMask vr lk (onF vr lk wl) q).testBit p) 12 : Int)) (newF vr (gOff vr (gr p) (cnt p) 0) (lk p))) (nmOf vr (dk p)))
def mpR (cnt : Nat → Nat) (vd gr : Nat → Nat → Nat) (vr : Nat → VR) (wl : List CR) (lk dk : Nat → Option Nat) (cl : List Nat) : Nat → Nat → Int64 → Int64
  | 0, _, d => d
  | k + 1, p, d => mpR cnt vd gr vr wl lk dk cl k (p + 1) (mpV cnt vd gr vr wl lk dk cl p d)
theorem t_mp_a {S : ScT} {H : HF} {n p : Nat} {s0 : Int64} {P : Nat} {pid cnt : Nat → Nat} {vd gr : Nat → Nat → Nat} {vr : Nat → VR} {dr lt fc : Int} (hR : RG H P pid cnt vd gr vr) (h86 : H 86 = some (false, 7, pwF P dr lt fc)) (hp : p < P) {Q : XLf → Prop} : ∀ (k i : Nat) (d : Int64), i + k = cnt p → Gw S xm42 45 [(0, .ref 86), (1, .long s0), (3, .int (zI (p : Int))), (4, .int (zI (cnt p : Int))), (5, .long (mixN (fun i => (vN (vr (gr p i)) : Int)) k i d)), (7, .int (zI (cnt p : Int)))] [] H n 0 0 Q → Gw S xm42 18 [(0, .ref 86), (1, .long s0), (3, .int (zI (p : Int))), (4, .int (zI (cnt p : Int))), (5, .long d), (7, .int (zI (i : Int)))] [] H n 0 0 Q := by
  have hc8 := (hR.2.2.1 p hp).2.1
  intro k
  induction k with
  | zero =>
    intro i d hi kk
    obtain rfl : i = cnt p := by omega
    refine Gq_s (pc' := 20) rfl rfl rfl ?_
    refine Gq_s (pc' := 22) rfl rfl rfl ?_
    refine Gq_cge (pc' := 25) (t := 45) rfl rfl rfl (by omega) (by omega) (fun _ => ?_) (fun hq => absurd (by omega) hq)
    exact kk
  | succ k ih =>
    intro i d hi kk
    refine Gq_s (pc' := 20) rfl rfl rfl ?_
    refine Gq_s (pc' := 22) rfl rfl rfl ?_
    refine Gq_cge (pc' := 25) (t := 45) rfl rfl rfl (by omega) (by omega) (fun hq => absurd hq (by omega)) (fun _ => ?_)
    refine Gq_s (pc' := 27) rfl rfl rfl ?_
    refine Gq_s (pc' := 28) rfl rfl rfl ?_
    refine Gq_s (pc' := 29) rfl rfl rfl ?_
    refine Gq_s (pc' := 31) rfl rfl rfl ?_
    refine Gq_callv1 (pc' := 34) (Y := xm8) (rest := [_]) (st' := [_, _]) (ce' := 0) (sl' := 0) rfl rfl rfl rfl rfl rfl rfl rfl rfl (t_versionAt n hR h86 hp (by omega)) rfl (by first | assumption | exact upd_eq _ _ _ | (refine (upd_ne _ _ (by omega)).trans ?_; first | assumption | exact upd_eq _ _ _ | (refine (upd_ne _ _ (by omega)).trans ?_; first | assumption | exact upd_eq _ _ _ | (refine (upd_ne _ _ (by omega)).trans ?_; first | assumption | exact upd_eq _ _ _)))) ?_
    refine Gq_calls1 (pc' := 37) (Y := xm41) (rest := []) (st' := [_]) (ce' := 0) (sl' := 0) rfl rfl rfl rfl rfl rfl rfl rfl rfl rfl (t_mix _ _ d _) rfl ?_
    refine Gq_s (pc' := 39) (lv' := [(0, _), (1, _), (3, _), (4, _), (5, _), (7, _)]) rfl rfl rfl ?_
    refine Gq_iinc (pc' := 42) (lv' := [(0, _), (1, _), (3, _), (4, _), (5, _), (7, _)]) rfl rfl rfl rfl ?_
    refine Gq_goto rfl (t := 18) rfl ?_
    exact ih (i + 1) _ (by omega) kk
theorem t_mp_b {S : ScT} {H : HF} {n p : Nat} {s0 : Int64} {cnt : Nat → Nat} {P : Nat} {dr lt fc : Int} (h86 : H 86 = some (false, 7, pwF P dr lt fc)) {ch : Nat → Option Nat} {Wd : Nat → Prop} {s t : CS} (hP : CsP H s) (hE : CsE s t) (hI : CInv ch Wd t) (hB : ∀ p, t.1 p ≤ 100) (hp : p < 12) {Q : XLf → Prop} : ∀ (k i : Nat) (d : Int64), i + k = t.1 p → Gw S xm42 118 [(0, .ref 86), (1, .long s0), (3, .int (zI (p : Int))), (4, .int (zI (cnt p : Int))), (5, .long (mixN (fun i => lkAt t p i) k i d)), (7, .int (zI (t.1 p : Int))), (8, .int (zI (t.1 p : Int)))] [] H n 0 0 Q → Gw S xm42 88 [(0, .ref 86), (1, .long s0), (3, .int (zI (p : Int))), (4, .int (zI (cnt p : Int))), (5, .long d), (7, .int (zI (t.1 p : Int))), (8, .int (zI (i : Int)))] [] H n 0 0 Q := by
  have hb := hB p
  obtain ⟨c0, -⟩ := id hP
  intro k
  induction k with
  | zero =>
    intro i d hi kk
    obtain rfl : i = t.1 p := by omega
    refine Gq_s (pc' := 90) rfl rfl rfl ?_
    refine Gq_s (pc' := 92) rfl rfl rfl ?_
    refine Gq_cge (pc' := 95) (t := 118) rfl rfl rfl (by omega) (by omega) (fun _ => ?_) (fun hq => absurd (by omega) hq)
    exact kk
  | succ k ih =>
    intro i d hi kk
    refine Gq_s (pc' := 90) rfl rfl rfl ?_
    refine Gq_s (pc' := 92) rfl rfl rfl ?_
    refine Gq_cge (pc' := 95) (t := 118) rfl rfl rfl (by omega) (by omega) (fun hq => absurd hq (by omega)) (fun _ => ?_)
    refine Gq_s (pc' := 97) rfl rfl rfl ?_
    refine Gq_s (pc' := 98) rfl rfl rfl ?_
    refine Gq_get (pc' := 101) rfl rfl (by first | assumption | exact upd_eq _ _ _ | (refine (upd_ne _ _ (by omega)).trans ?_; first | assumption | exact upd_eq _ _ _ | (refine (upd_ne _ _ (by omega)).trans ?_; first | assumption | exact upd_eq _ _ _ | (refine (upd_ne _ _ (by omega)).trans ?_; first | assumption | exact upd_eq _ _ _)))) (by exact rfl) ?_
    refine Gq_s (pc' := 102) rfl rfl rfl ?_
    refine Gq_s (pc' := 104) rfl rfl rfl ?_
    refine Gq_callv1 (pc' := 107) (Y := xm72) (rest := [_]) (st' := [_, _]) (ce' := 0) (sl' := 0) rfl rfl rfl rfl rfl rfl rfl rfl rfl (t_linkAt n hP hE hI hB hp (by omega)) rfl (by first | assumption | exact upd_eq _ _ _ | (refine (upd_ne _ _ (by omega)).trans ?_; first | assumption | exact upd_eq _ _ _ | (refine (upd_ne _ _ (by omega)).trans ?_; first | assumption | exact upd_eq _ _ _ | (refine (upd_ne _ _ (by omega)).trans ?_; first | assumption | exact upd_eq _ _ _)))) ?_
    refine Gq_calls1 (pc' := 110) (Y := xm41) (rest := []) (st' := [_]) (ce' := 0) (sl' := 0) rfl rfl rfl rfl rfl rfl rfl rfl rfl rfl (t_mix _ _ d _) rfl ?_
    refine Gq_s (pc' := 112) (lv' := [(0, _), (1, _), (3, _), (4, _), (5, _), (7, _), (8, _)]) rfl rfl rfl ?_
    refine Gq_iinc (pc' := 115) (lv' := [(0, _), (1, _), (3, _), (4, _), (5, _), (7, _), (8, _)]) rfl rfl rfl rfl ?_
    refine Gq_goto rfl (t := 88) rfl ?_
    exact ih (i + 1) _ (by omega) kk
theorem t_mp_c {S : ScT} {H : HF} {n p : Nat} {s0 : Int64} {z7 : Int} {P : Nat} {pid cnt : Nat → Nat} {vd gr : Nat → Nat → Nat} {vr : Nat → VR} {dr lt fc : Int} (hR : RG H P pid cnt vd gr vr) (h86 : H 86 = some (false, 7, pwF P dr lt fc)) (hp : p < P) {cl : List Nat} {cr : Int} (hCa : CaAt H 115 cl cr vr (VV P cnt vd)) {Q : XLf → Prop} : ∀ (k i : Nat) (d : Int64), i + k = cnt p → Gw S xm42 184 [(0, .ref 86), (1, .long s0), (3, .int (zI (p : Int))), (4, .int (zI (cnt p : Int))), (5, .long (mixN (fun i => plc (vd p i) cl 0) k i d)), (7, .int (zI z7)), (8, .int (zI (cnt p : Int)))] [] H n 0 0 Q → Gw S xm42 157 [(0, .ref 86), (1, .long s0), (3, .int (zI (p : Int))), (4, .int (zI (cnt p : Int))), (5, .long d), (7, .int (zI z7)), (8, .int (zI (i : Int)))] [] H n 0 0 Q := by
  have hc8 := (hR.2.2.1 p hp).2.1
  intro k
  induction k with
  | zero =>
    intro i d hi kk
    obtain rfl : i = cnt p := by omega
    refine Gq_s (pc' := 159) rfl rfl rfl ?_
    refine Gq_s (pc' := 161) rfl rfl rfl ?_
    refine Gq_cge (pc' := 164) (t := 184) rfl rfl rfl (by omega) (by omega) (fun _ => ?_) (fun hq => absurd (by omega) hq)
    exact kk
  | succ k ih =>
    intro i d hi kk
    refine Gq_s (pc' := 159) rfl rfl rfl ?_
    refine Gq_s (pc' := 161) rfl rfl rfl ?_
    refine Gq_cge (pc' := 164) (t := 184) rfl rfl rfl (by omega) (by omega) (fun hq => absurd hq (by omega)) (fun _ => ?_)
    refine Gq_s (pc' := 166) rfl rfl rfl ?_
    refine Gq_s (pc' := 167) rfl rfl rfl ?_
    refine Gq_s (pc' := 168) rfl rfl rfl ?_
    refine Gq_s (pc' := 170) rfl rfl rfl ?_
    refine Gq_callv1 (pc' := 173) (Y := xm35) (rest := [_]) (st' := [_, _]) (ce' := 0) (sl' := 0) rfl rfl rfl rfl rfl rfl rfl rfl rfl (t_ageOf n hR h86 hp (by omega) hCa) rfl (by first | assumption | exact upd_eq _ _ _ | (refine (upd_ne _ _ (by omega)).trans ?_; first | assumption | exact upd_eq _ _ _ | (refine (upd_ne _ _ (by omega)).trans ?_; first | assumption | exact upd_eq _ _ _ | (refine (upd_ne _ _ (by omega)).trans ?_; first | assumption | exact upd_eq _ _ _)))) ?_
    refine Gq_calls1 (pc' := 176) (Y := xm41) (rest := []) (st' := [_]) (ce' := 0) (sl' := 0) rfl rfl rfl rfl rfl rfl rfl rfl rfl rfl (t_mix _ _ d _) rfl ?_
    refine Gq_s (pc' := 178) (lv' := [(0, _), (1, _), (3, _), (4, _), (5, _), (7, _), (8, _)]) rfl rfl rfl ?_
    refine Gq_iinc (pc' := 181) (lv' := [(0, _), (1, _), (3, _), (4, _), (5, _), (7, _), (8, _)]) rfl rfl rfl rfl ?_
    refine Gq_goto rfl (t := 157) rfl ?_
    exact ih (i + 1) _ (by omega) kk
theorem t_mixPk {S : ScT} {H : HF} (n : Nat) {p : Nat} {P : Nat} {pid cnt : Nat → Nat} {vd gr : Nat → Nat → Nat} {vr : Nat → VR} {wl : List CR} {lk dk : Nat → Option Nat} {th : Bool} {pc pd : Nat} {kd : Nat → Int} {pp : Nat → Nat} {pb : Nat → Option Nat} {cl : List Nat} {cr dr lt fc : Int} (hA : AllB H P pid cnt vd gr vr wl lk dk th pc pd kd pp pb cl cr dr lt fc) (hp : p < P) (d : Int64) : Rmt S 42 [.ref 86, .long d, .int (zI (p : Int))] H n (fun v G m => v = some (.long (mpV cnt vd gr vr wl lk dk cl p d)) ∧ m = n ∧ AllB G P pid cnt vd gr vr wl lk dk th pc pd kd pp pb cl cr dr lt fc ∧ SFr H G) := by
  refine Rm_of (M := xm42) (lv := [(0, _), (1, _), (3, _)]) rfl rfl rfl ?_
  have hR := hA.1
  have h86 := hA.2.1
  have hP12 := hR.1
  have hcl := (hR.2.2.1 p hp).2.1
  refine Gq_s (pc' := 1) rfl rfl rfl ?_
  refine Gq_s (pc' := 2) rfl rfl rfl ?_
  refine Gq_callv1 (pc' := 5) (Y := xm7) (rest := []) (st' := [_]) (ce' := 0) (sl' := 0) rfl rfl rfl rfl rfl rfl rfl rfl rfl (t_versions n hR h86 hp) rfl (by first | assumption | exact upd_eq _ _ _ | (refine (upd_ne _ _ (by omega)).trans ?_; first | assumption | exact upd_eq _ _ _ | (refine (upd_ne _ _ (by omega)).trans ?_; first | assumption | exact upd_eq _ _ _ | (refine (upd_ne _ _ (by omega)).trans ?_; first | assumption | exact upd_eq _ _ _)))) ?_
  refine Gq_s (pc' := 7) (lv' := [(0, _), (1, _), (3, _), (4, _)]) rfl rfl rfl ?_
  refine Gq_s (pc' := 8) rfl rfl rfl ?_
  refine Gq_s (pc' := 10) rfl rfl rfl ?_
  refine Gq_calls1 (pc' := 13) (Y := xm41) (rest := []) (st' := [_]) (ce' := 0) (sl' := 0) rfl rfl rfl rfl rfl rfl rfl rfl rfl rfl (t_mix _ _ d _) rfl ?_
  refine Gq_s (pc' := 15) (lv' := [(0, _), (1, _), (3, _), (4, _), (5, _)]) rfl rfl rfl ?_
  refine Gq_s (pc' := 16) rfl rfl rfl ?_
  refine Gq_s (pc' := 18) (lv' := [(0, _), (1, _), (3, _), (4, _), (5, _), (7, _)]) rfl rfl rfl ?_
  refine t_mp_a hR h86 hp (cnt p) 0 _ (by omega) ?_
  refine Gq_s (pc' := 47) rfl rfl rfl ?_
  refine Gq_s (pc' := 48) rfl rfl rfl ?_
  refine Gq_s (pc' := 49) rfl rfl rfl ?_
  refine Gq_callv (pc' := 52) (Y := xm13) (rest := [_]) (ce' := 0) (sl' := 0) rfl rfl rfl rfl rfl rfl rfl rfl rfl (q_locked n hA hp) (by exact hA.2.1) (fun v' H' n' hv => ?_)
  obtain ⟨rfl, rfl, hA, fr⟩ := hv
  refine Gq_calls1 (pc' := 55) (Y := xm41) (rest := []) (st' := [_]) (ce' := 0) (sl' := 0) rfl rfl rfl rfl rfl rfl rfl rfl rfl rfl (t_mix _ _ _ _) rfl ?_
  refine Gq_s (pc' := 57) (lv' := [(0, _), (1, _), (3, _), (4, _), (5, _), (7, _)]) rfl rfl rfl ?_
  refine Gq_s (pc' := 59) rfl rfl rfl ?_
  refine Gq_s (pc' := 60) rfl rfl rfl ?_
  refine Gq_s (pc' := 61) rfl rfl rfl ?_
  refine Gq_callv (pc' := 64) (Y := xm15) (rest := [_]) (ce' := 0) (sl' := 0) rfl rfl rfl rfl rfl rfl rfl rfl rfl (q_featuresOf _ hA hp) (by exact hA.2.1) (fun v' H' n' hv => ?_)
  obtain ⟨rfl, rfl, hA, f2⟩ := hv
  have fr := SFr_trans fr f2
  refine Gq_calls1 (pc' := 67) (Y := xm41) (rest := []) (st' := [_]) (ce' := 0) (sl' := 0) rfl rfl rfl rfl rfl rfl rfl rfl rfl rfl (t_mix _ _ _ _) rfl ?_
  refine Gq_s (pc' := 69) (lv' := [(0, _), (1, _), (3, _), (4, _), (5, _), (7, _)]) rfl rfl rfl ?_
  refine Gq_s (pc' := 70) rfl rfl rfl ?_
  refine Gq_s (pc' := 71) rfl rfl rfl ?_
  refine Gq_callv (pc' := 74) (Y := xm19) (rest := []) (ce' := 0) (sl' := 0) rfl rfl rfl rfl rfl rfl rfl rfl rfl (q_depth _ hA hp) (by exact hA.2.1) (fun v' H' n' hv => ?_)
  obtain ⟨rfl, rfl, hA, f2, s, g1, g2⟩ := hv
  have fr := SFr_trans fr f2
  have hlb := chL_b (vr := vr) (lk := lk) (wl := wl) p
  refine Gq_s (pc' := 76) (lv' := [(0, _), (1, _), (3, _), (4, _), (5, _), (7, _)]) rfl rfl rfl ?_
  refine Gq_s (pc' := 78) rfl rfl rfl ?_
  refine Gq_s (pc' := 80) rfl rfl rfl ?_
  refine Gq_calls1 (pc' := 83) (Y := xm41) (rest := []) (st' := [_]) (ce' := 0) (sl' := 0) rfl rfl rfl rfl rfl rfl rfl rfl rfl rfl (t_mix _ _ _ _) rfl ?_
  refine Gq_s (pc' := 85) (lv' := [(0, _), (1, _), (3, _), (4, _), (5, _), (7, _)]) rfl rfl rfl ?_
  refine Gq_s (pc' := 86) rfl rfl rfl ?_
  refine Gq_s (pc' := 88) (lv' := [(0, _), (1, _), (3, _), (4, _), (5, _), (7, _), (8, _)]) rfl rfl rfl ?_
  refine t_mp_b hA.2.1 g1 g2 (chL_inv (WiAt_ok hA.2.2.1.1)) (fun p => Nat.le_trans (chL_b p) (by omega)) (by omega) ((chL vr lk wl).1 p) 0 _ (by omega) ?_
  refine Gq_s (pc' := 120) rfl rfl rfl ?_
  refine Gq_s (pc' := 121) rfl rfl rfl ?_
  refine Gq_s (pc' := 122) rfl rfl rfl ?_
  refine Gq_callv (pc' := 125) (Y := xm21) (rest := [_]) (ce' := 0) (sl' := 0) rfl rfl rfl rfl rfl rfl rfl rfl rfl (q_neededBy _ hA hp) (by exact hA.2.1) (fun v' H' n' hv => ?_)
  obtain ⟨rfl, rfl, hA, f2⟩ := hv
  have fr := SFr_trans fr f2
  refine Gq_calls1 (pc' := 128) (Y := xm41) (rest := []) (st' := [_]) (ce' := 0) (sl' := 0) rfl rfl rfl rfl rfl rfl rfl rfl rfl rfl (t_mix _ _ _ _) rfl ?_
  refine Gq_s (pc' := 130) (lv' := [(0, _), (1, _), (3, _), (4, _), (5, _), (7, _), (8, _)]) rfl rfl rfl ?_
  refine Gq_s (pc' := 132) rfl rfl rfl ?_
  refine Gq_s (pc' := 133) rfl rfl rfl ?_
  refine Gq_s (pc' := 134) rfl rfl rfl ?_
  refine Gq_callv (pc' := 137) (Y := xm22) (rest := [_]) (ce' := 0) (sl' := 0) rfl rfl rfl rfl rfl rfl rfl rfl rfl (q_newer _ hA hp) (by exact hA.2.1) (fun v' H' n' hv => ?_)
  obtain ⟨rfl, rfl, hA, f2⟩ := hv
  have fr := SFr_trans fr f2
  refine Gq_calls1 (pc' := 140) (Y := xm41) (rest := []) (st' := [_]) (ce' := 0) (sl' := 0) rfl rfl rfl rfl rfl rfl rfl rfl rfl rfl (t_mix _ _ _ _) rfl ?_
  refine Gq_s (pc' := 142) (lv' := [(0, _), (1, _), (3, _), (4, _), (5, _), (7, _), (8, _)]) rfl rfl rfl ?_
  refine Gq_s (pc' := 144) rfl rfl rfl ?_
  refine Gq_s (pc' := 145) rfl rfl rfl ?_
  refine Gq_s (pc' := 146) rfl rfl rfl ?_
  refine Gq_callv (pc' := 149) (Y := xm32) (rest := [_]) (ce' := 0) (sl' := 0) rfl rfl rfl rfl rfl rfl rfl rfl rfl (q_installed _ hA hp) (by exact hA.2.1) (fun v' H' n' hv => ?_)
  obtain ⟨rfl, rfl, hA, f2⟩ := hv
  have fr := SFr_trans fr f2
  refine Gq_calls1 (pc' := 152) (Y := xm41) (rest := []) (st' := [_]) (ce' := 0) (sl' := 0) rfl rfl rfl rfl rfl rfl rfl rfl rfl rfl (t_mix _ _ _ _) rfl ?_
  refine Gq_s (pc' := 154) (lv' := [(0, _), (1, _), (3, _), (4, _), (5, _), (7, _), (8, _)]) rfl rfl rfl ?_
  refine Gq_s (pc' := 155) rfl rfl rfl ?_
  refine Gq_s (pc' := 157) (lv' := [(0, _), (1, _), (3, _), (4, _), (5, _), (7, _), (8, _)]) rfl rfl rfl ?_
  refine t_mp_c hA.1 hA.2.1 hp hA.2.2.2.2.2.2.1.1 (cnt p) 0 _ (by omega) ?_
  refine Gq_s (pc' := 186) rfl rfl rfl ?_
  exact Gq_ret rfl rfl (rfl) (⟨rfl, rfl, hA, fr⟩)
theorem t_dg_a {S : ScT} {n : Nat} {P : Nat} {pid cnt : Nat → Nat} {vd gr : Nat → Nat → Nat} {vr : Nat → VR} {wl : List CR} {lk dk : Nat → Option Nat} {th : Bool} {pc pd : Nat} {kd : Nat → Int} {pp : Nat → Nat} {pb : Nat → Option Nat} {cl : List Nat} {cr dr lt fc : Int} {Q : XLf → Prop} : ∀ (k p : Nat) (H : HF) (d : Int64), p + k = P → AllB H P pid cnt vd gr vr wl lk dk th pc pd kd pp pb cl cr dr lt fc → (∀ G, AllB G P pid cnt vd gr vr wl lk dk th pc pd kd pp pb cl cr dr lt fc → SFr H G → Gw S xm40 160 [(0, .ref 86), (1, .long (mpR cnt vd gr vr wl lk dk cl k p d)), (3, .int (zI (P : Int)))] [] G n 0 0 Q) → Gw S xm40 139 [(0, .ref 86), (1, .long d), (3, .int (zI (p : Int)))] [] H n 0 0 Q := by
  intro k
  induction k with
  | zero =>
    intro p H d hp hA kk
    obtain rfl : p = P := by omega
    have hP12 := hA.1.1
    have h86 := hA.2.1
    refine Gq_s (pc' := 140) rfl rfl rfl ?_
    refine Gq_s (pc' := 141) rfl rfl rfl ?_
    refine Gq_get (pc' := 144) rfl rfl (by first | assumption | exact upd_eq _ _ _ | (refine (upd_ne _ _ (by omega)).trans ?_; first | assumption | exact upd_eq _ _ _ | (refine (upd_ne _ _ (by omega)).trans ?_; first | assumption | exact upd_eq _ _ _ | (refine (upd_ne _ _ (by omega)).trans ?_; first | assumption | exact upd_eq _ _ _)))) (by exact rfl) ?_
    refine Gq_cge (pc' := 147) (t := 160) rfl rfl rfl (by omega) (by omega) (fun _ => ?_) (fun hq => absurd (by omega) hq)
    exact kk H hA (SFr_refl H)
  | succ k ih =>
    intro p H d hp hA kk
    have hP12 := hA.1.1
    have h86 := hA.2.1
    refine Gq_s (pc' := 140) rfl rfl rfl ?_
    refine Gq_s (pc' := 141) rfl rfl rfl ?_
    refine Gq_get (pc' := 144) rfl rfl (by first | assumption | exact upd_eq _ _ _ | (refine (upd_ne _ _ (by omega)).trans ?_; first | assumption | exact upd_eq _ _ _ | (refine (upd_ne _ _ (by omega)).trans ?_; first | assumption | exact upd_eq _ _ _ | (refine (upd_ne _ _ (by omega)).trans ?_; first | assumption | exact upd_eq _ _ _)))) (by exact rfl) ?_
    refine Gq_cge (pc' := 147) (t := 160) rfl rfl rfl (by omega) (by omega) (fun hq => absurd hq (by omega)) (fun _ => ?_)
    refine Gq_s (pc' := 148) rfl rfl rfl ?_
    refine Gq_s (pc' := 149) rfl rfl rfl ?_
    refine Gq_s (pc' := 150) rfl rfl rfl ?_
    refine Gq_callv (pc' := 153) (Y := xm42) (rest := []) (ce' := 0) (sl' := 0) rfl rfl rfl rfl rfl rfl rfl rfl rfl (t_mixPk n hA (by omega) d) (by first | assumption | exact upd_eq _ _ _ | (refine (upd_ne _ _ (by omega)).trans ?_; first | assumption | exact upd_eq _ _ _ | (refine (upd_ne _ _ (by omega)).trans ?_; first | assumption | exact upd_eq _ _ _ | (refine (upd_ne _ _ (by omega)).trans ?_; first | assumption | exact upd_eq _ _ _)))) (fun v' H' n' hv => ?_)
    obtain ⟨rfl, rfl, hA2, f2⟩ := hv
    refine Gq_s (pc' := 154) (lv' := [(0, _), (1, _), (3, _)]) rfl rfl rfl ?_
    refine Gq_iinc (pc' := 157) (lv' := [(0, _), (1, _), (3, _)]) rfl rfl rfl rfl ?_
    refine Gq_goto rfl (t := 139) rfl ?_
    exact ih (p + 1) H' _ (by omega) hA2 (fun G g1 g2 => kk G g1 (SFr_trans f2 g2))
theorem t_dg_b {S : ScT} {H : HF} {n : Nat} {P : Nat} {pid cnt : Nat → Nat} {vd gr : Nat → Nat → Nat} {vr : Nat → VR} {wl : List CR} {lk dk : Nat → Option Nat} {th : Bool} {pc pd : Nat} {kd : Nat → Int} {pp : Nat → Nat} {pb : Nat → Option Nat} {cl : List Nat} {cr dr lt fc : Int} (hA : AllB H P pid cnt vd gr vr wl lk dk th pc pd kd pp pb cl cr dr lt fc) {Q : XLf → Prop} : ∀ (k i : Nat) (d : Int64), i + k = pc → Gw S xm40 199 [(0, .ref 86), (1, .long (mixS kd pp k i d)), (3, .int (zI (pc : Int)))] [] H n 0 0 Q → Gw S xm40 162 [(0, .ref 86), (1, .long d), (3, .int (zI (i : Int)))] [] H n 0 0 Q := by
  obtain ⟨hR, h86, ⟨hW, hwP⟩, ⟨L0, L1, hL⟩, ⟨D0, D1, hD⟩, ⟨hP, hpc, hpd, hpp, hpb⟩, ⟨hCa, hcr, hus⟩, hdr, ⟨lo, L2, hlo⟩, ⟨don, D2, hdo⟩, hSR, hSC, hTS⟩ := id hA
  obtain ⟨p0, -⟩ := id hP
  intro k
  induction k with
  | zero =>
    intro i d hi kk
    obtain rfl : i = pc := by omega
    refine Gq_s (pc' := 163) rfl rfl rfl ?_
    refine Gq_s (pc' := 164) rfl rfl rfl ?_
    refine Gq_get (pc' := 167) rfl rfl (by first | assumption | exact upd_eq _ _ _ | (refine (upd_ne _ _ (by omega)).trans ?_; first | assumption | exact upd_eq _ _ _ | (refine (upd_ne _ _ (by omega)).trans ?_; first | assumption | exact upd_eq _ _ _ | (refine (upd_ne _ _ (by omega)).trans ?_; first | assumption | exact upd_eq _ _ _)))) (by exact rfl) ?_
    refine Gq_get (pc' := 170) rfl rfl (by first | assumption | exact upd_eq _ _ _ | (refine (upd_ne _ _ (by omega)).trans ?_; first | assumption | exact upd_eq _ _ _ | (refine (upd_ne _ _ (by omega)).trans ?_; first | assumption | exact upd_eq _ _ _ | (refine (upd_ne _ _ (by omega)).trans ?_; first | assumption | exact upd_eq _ _ _)))) (by exact rfl) ?_
    refine Gq_cge (pc' := 173) (t := 199) rfl rfl rfl (by omega) (by omega) (fun _ => ?_) (fun hq => absurd (by omega) hq)
    exact kk
  | succ k ih =>
    intro i d hi kk
    refine Gq_s (pc' := 163) rfl rfl rfl ?_
    refine Gq_s (pc' := 164) rfl rfl rfl ?_
    refine Gq_get (pc' := 167) rfl rfl (by first | assumption | exact upd_eq _ _ _ | (refine (upd_ne _ _ (by omega)).trans ?_; first | assumption | exact upd_eq _ _ _ | (refine (upd_ne _ _ (by omega)).trans ?_; first | assumption | exact upd_eq _ _ _ | (refine (upd_ne _ _ (by omega)).trans ?_; first | assumption | exact upd_eq _ _ _)))) (by exact rfl) ?_
    refine Gq_get (pc' := 170) rfl rfl (by first | assumption | exact upd_eq _ _ _ | (refine (upd_ne _ _ (by omega)).trans ?_; first | assumption | exact upd_eq _ _ _ | (refine (upd_ne _ _ (by omega)).trans ?_; first | assumption | exact upd_eq _ _ _ | (refine (upd_ne _ _ (by omega)).trans ?_; first | assumption | exact upd_eq _ _ _)))) (by exact rfl) ?_
    refine Gq_cge (pc' := 173) (t := 199) rfl rfl rfl (by omega) (by omega) (fun hq => absurd hq (by omega)) (fun _ => ?_)
    refine Gq_s (pc' := 174) rfl rfl rfl ?_
    refine Gq_s (pc' := 175) rfl rfl rfl ?_
    refine Gq_s (pc' := 176) rfl rfl rfl ?_
    refine Gq_callv1 (pc' := 179) (Y := xm28) (rest := [_]) (st' := [_, _]) (ce' := 0) (sl' := 0) rfl rfl rfl rfl rfl rfl rfl rfl rfl (t_kindOf n h86 hP (by omega) hpc) rfl (by first | assumption | exact upd_eq _ _ _ | (refine (upd_ne _ _ (by omega)).trans ?_; first | assumption | exact upd_eq _ _ _ | (refine (upd_ne _ _ (by omega)).trans ?_; first | assumption | exact upd_eq _ _ _ | (refine (upd_ne _ _ (by omega)).trans ?_; first | assumption | exact upd_eq _ _ _)))) ?_
    refine Gq_calls1 (pc' := 182) (Y := xm41) (rest := []) (st' := [_]) (ce' := 0) (sl' := 0) rfl rfl rfl rfl rfl rfl rfl rfl rfl rfl (t_mix _ _ d _) rfl ?_
    refine Gq_s (pc' := 183) (lv' := [(0, _), (1, _), (3, _)]) rfl rfl rfl ?_
    refine Gq_s (pc' := 184) rfl rfl rfl ?_
    refine Gq_s (pc' := 185) rfl rfl rfl ?_
    refine Gq_s (pc' := 186) rfl rfl rfl ?_
    refine Gq_callv1 (pc' := 189) (Y := xm29) (rest := [_]) (st' := [_, _]) (ce' := 0) (sl' := 0) rfl rfl rfl rfl rfl rfl rfl rfl rfl (t_packageOf n h86 hP (by omega) hpc) rfl (by first | assumption | exact upd_eq _ _ _ | (refine (upd_ne _ _ (by omega)).trans ?_; first | assumption | exact upd_eq _ _ _ | (refine (upd_ne _ _ (by omega)).trans ?_; first | assumption | exact upd_eq _ _ _ | (refine (upd_ne _ _ (by omega)).trans ?_; first | assumption | exact upd_eq _ _ _)))) ?_
    refine Gq_calls1 (pc' := 192) (Y := xm41) (rest := []) (st' := [_]) (ce' := 0) (sl' := 0) rfl rfl rfl rfl rfl rfl rfl rfl rfl rfl (t_mix _ _ _ _) rfl ?_
    refine Gq_s (pc' := 193) (lv' := [(0, _), (1, _), (3, _)]) rfl rfl rfl ?_
    refine Gq_iinc (pc' := 196) (lv' := [(0, _), (1, _), (3, _)]) rfl rfl rfl rfl ?_
    refine Gq_goto rfl (t := 162) rfl ?_
    exact ih (i + 1) _ (by omega) kk
def dgV (P : Nat) (cnt : Nat → Nat) (vd gr : Nat → Nat → Nat) (vr : Nat → VR) (wl : List CR) (lk dk : Nat → Option Nat) (pc pd : Nat) (kd : Nat → Int) (pp : Nat → Nat) (cl : List Nat) (cr lt fc : Int) : Int64 := mixS kd pp pc 0 (mpR cnt vd gr vr wl lk dk cl P 0 (mixV (mixV (mixV (mixV (mixV (mixV (mixV (mixV (mixV (mixV (mixV (mixV (mixV (Int64.ofNat 58044) (P : Int)) (wl.length : Int)) lt) (cntTo (fun p => decide (¬ lk p = none)) 12 : Int)) (bI (mtsB vr lk (onF vr lk wl) wl true))) (cntTo (fun p => decide (¬ lk p = none ∧ (chL vr lk wl).1 p = 0)) 12 : Int)) (pc : Int)) (sumTo (fun p => szOf vr (dk p)) 12)) (usd vr cl)) fc) (wfR vr lk pp cr (pc - pd) pd cl 0)) (rnR vr lk dk pp (pc - pd) pd (sumTo (fun p => szOf vr (dk p)) 12) (sumTo (fun p => szOf vr (dk p)) 12))) (bI (decide (diffs lk dk = 0)))))
theorem q_digest {S : ScT} {H : HF} (n : Nat) {P : Nat} {pid cnt : Nat → Nat} {vd gr : Nat → Nat → Nat} {vr : Nat → VR} {wl : List CR} {lk dk : Nat → Option Nat} {th : Bool} {pc pd : Nat} {kd : Nat → Int} {pp : Nat → Nat} {pb : Nat → Option Nat} {cl : List Nat} {cr dr lt fc : Int} (hA : AllB H P pid cnt vd gr vr wl lk dk th pc pd kd pp pb cl cr dr lt fc) : Rmt S 40 [.ref 86] H n (fun v G m => v = some (.long (dgV P cnt vd gr vr wl lk dk pc pd kd pp cl cr lt fc)) ∧ m = n ∧ AllB G P pid cnt vd gr vr wl lk dk th pc pd kd pp pb cl cr dr lt fc ∧ SFr H G) := by
  refine Rm_of (M := xm40) (lv := [(0, _)]) rfl rfl rfl ?_
  have fr := SFr_refl H
  refine Gq_s (pc' := 3) rfl rfl rfl ?_
  refine Gq_s (pc' := 4) (lv' := [(0, _), (1, _)]) rfl rfl rfl ?_
  refine Gq_s (pc' := 5) rfl rfl rfl ?_
  refine Gq_s (pc' := 6) rfl rfl rfl ?_
  refine Gq_callv (pc' := 9) (Y := xm6) (rest := [_]) (ce' := 0) (sl' := 0) rfl rfl rfl rfl rfl rfl rfl rfl rfl (q_packages _ hA) (by exact hA.2.1) (fun v' H' n' hv => ?_)
  obtain ⟨rfl, rfl, hA, f2⟩ := hv
  have fr := SFr_trans fr f2
  refine Gq_calls1 (pc' := 12) (Y := xm41) (rest := []) (st' := [_]) (ce' := 0) (sl' := 0) rfl rfl rfl rfl rfl rfl rfl rfl rfl rfl (t_mix _ _ _ _) rfl ?_
  refine Gq_s (pc' := 13) (lv' := [(0, _), (1, _)]) rfl rfl rfl ?_
  refine Gq_s (pc' := 14) rfl rfl rfl ?_
  refine Gq_s (pc' := 15) rfl rfl rfl ?_
  refine Gq_callv (pc' := 18) (Y := xm10) (rest := [_]) (ce' := 0) (sl' := 0) rfl rfl rfl rfl rfl rfl rfl rfl rfl (q_wishes _ hA) (by exact hA.2.1) (fun v' H' n' hv => ?_)
  obtain ⟨rfl, rfl, hA, f2⟩ := hv
  have fr := SFr_trans fr f2
  refine Gq_calls1 (pc' := 21) (Y := xm41) (rest := []) (st' := [_]) (ce' := 0) (sl' := 0) rfl rfl rfl rfl rfl rfl rfl rfl rfl rfl (t_mix _ _ _ _) rfl ?_
  refine Gq_s (pc' := 22) (lv' := [(0, _), (1, _)]) rfl rfl rfl ?_
  refine Gq_s (pc' := 23) rfl rfl rfl ?_
  refine Gq_s (pc' := 24) rfl rfl rfl ?_
  refine Gq_callv (pc' := 27) (Y := xm12) (rest := [_]) (ce' := 0) (sl' := 0) rfl rfl rfl rfl rfl rfl rfl rfl rfl (q_tries _ hA) (by exact hA.2.1) (fun v' H' n' hv => ?_)
  obtain ⟨rfl, rfl, hA, f2⟩ := hv
  have fr := SFr_trans fr f2
  refine Gq_calls1 (pc' := 30) (Y := xm41) (rest := []) (st' := [_]) (ce' := 0) (sl' := 0) rfl rfl rfl rfl rfl rfl rfl rfl rfl rfl (t_mix _ _ _ _) rfl ?_
  refine Gq_s (pc' := 31) (lv' := [(0, _), (1, _)]) rfl rfl rfl ?_
  refine Gq_s (pc' := 32) rfl rfl rfl ?_
  refine Gq_s (pc' := 33) rfl rfl rfl ?_
  refine Gq_callv (pc' := 36) (Y := xm14) (rest := [_]) (ce' := 0) (sl' := 0) rfl rfl rfl rfl rfl rfl rfl rfl rfl (q_lockedPk _ hA) (by exact hA.2.1) (fun v' H' n' hv => ?_)
  obtain ⟨rfl, rfl, hA, f2⟩ := hv
  have fr := SFr_trans fr f2
  refine Gq_calls1 (pc' := 39) (Y := xm41) (rest := []) (st' := [_]) (ce' := 0) (sl' := 0) rfl rfl rfl rfl rfl rfl rfl rfl rfl rfl (t_mix _ _ _ _) rfl ?_
  refine Gq_s (pc' := 40) (lv' := [(0, _), (1, _)]) rfl rfl rfl ?_
  refine Gq_s (pc' := 41) rfl rfl rfl ?_
  refine Gq_s (pc' := 42) rfl rfl rfl ?_
  refine Gq_callv (pc' := 45) (Y := xm16) (rest := [_]) (ce' := 0) (sl' := 0) rfl rfl rfl rfl rfl rfl rfl rfl rfl (q_isSound _ hA) (by exact hA.2.1) (fun v' H' n' hv => ?_)
  obtain ⟨rfl, rfl, hA, f2⟩ := hv
  have fr := SFr_trans fr f2
  refine Gq_tern (pc := 45) (p3 := 48) (p4 := 49) (p7 := 52) (p8 := 53) rfl rfl rfl rfl rfl rfl rfl rfl rfl ?_
  refine Gq_calls1 (pc' := 56) (Y := xm41) (rest := []) (st' := [_]) (ce' := 0) (sl' := 0) rfl rfl rfl rfl rfl rfl rfl rfl rfl rfl (t_mix _ _ _ _) rfl ?_
  refine Gq_s (pc' := 57) (lv' := [(0, _), (1, _)]) rfl rfl rfl ?_
  refine Gq_s (pc' := 58) rfl rfl rfl ?_
  refine Gq_s (pc' := 59) rfl rfl rfl ?_
  refine Gq_callv (pc' := 62) (Y := xm17) (rest := [_]) (ce' := 0) (sl' := 0) rfl rfl rfl rfl rfl rfl rfl rfl rfl (q_idle _ hA) (by exact hA.2.1) (fun v' H' n' hv => ?_)
  obtain ⟨rfl, rfl, hA, f2, -⟩ := hv
  have fr := SFr_trans fr f2
  refine Gq_calls1 (pc' := 65) (Y := xm41) (rest := []) (st' := [_]) (ce' := 0) (sl' := 0) rfl rfl rfl rfl rfl rfl rfl rfl rfl rfl (t_mix _ _ _ _) rfl ?_
  refine Gq_s (pc' := 66) (lv' := [(0, _), (1, _)]) rfl rfl rfl ?_
  refine Gq_s (pc' := 67) rfl rfl rfl ?_
  refine Gq_s (pc' := 68) rfl rfl rfl ?_
  refine Gq_callv (pc' := 71) (Y := xm27) (rest := [_]) (ce' := 0) (sl' := 0) rfl rfl rfl rfl rfl rfl rfl rfl rfl (q_steps _ hA) (by exact hA.2.1) (fun v' H' n' hv => ?_)
  obtain ⟨rfl, rfl, hA, f2⟩ := hv
  have fr := SFr_trans fr f2
  refine Gq_calls1 (pc' := 74) (Y := xm41) (rest := []) (st' := [_]) (ce' := 0) (sl' := 0) rfl rfl rfl rfl rfl rfl rfl rfl rfl rfl (t_mix _ _ _ _) rfl ?_
  refine Gq_s (pc' := 75) (lv' := [(0, _), (1, _)]) rfl rfl rfl ?_
  refine Gq_s (pc' := 76) rfl rfl rfl ?_
  refine Gq_s (pc' := 77) rfl rfl rfl ?_
  refine Gq_callv (pc' := 80) (Y := xm33) (rest := [_]) (ce' := 0) (sl' := 0) rfl rfl rfl rfl rfl rfl rfl rfl rfl (q_taken _ hA) (by exact hA.2.1) (fun v' H' n' hv => ?_)
  obtain ⟨rfl, rfl, hA, f2⟩ := hv
  have fr := SFr_trans fr f2
  refine Gq_calls1 (pc' := 83) (Y := xm41) (rest := []) (st' := [_]) (ce' := 0) (sl' := 0) rfl rfl rfl rfl rfl rfl rfl rfl rfl rfl (t_mix _ _ _ _) rfl ?_
  refine Gq_s (pc' := 84) (lv' := [(0, _), (1, _)]) rfl rfl rfl ?_
  refine Gq_s (pc' := 85) rfl rfl rfl ?_
  refine Gq_s (pc' := 86) rfl rfl rfl ?_
  refine Gq_callv (pc' := 89) (Y := xm34) (rest := [_]) (ce' := 0) (sl' := 0) rfl rfl rfl rfl rfl rfl rfl rfl rfl (q_cached _ hA) (by exact hA.2.1) (fun v' H' n' hv => ?_)
  obtain ⟨rfl, rfl, hA, f2⟩ := hv
  have fr := SFr_trans fr f2
  refine Gq_calls1 (pc' := 92) (Y := xm41) (rest := []) (st' := [_]) (ce' := 0) (sl' := 0) rfl rfl rfl rfl rfl rfl rfl rfl rfl rfl (t_mix _ _ _ _) rfl ?_
  refine Gq_s (pc' := 93) (lv' := [(0, _), (1, _)]) rfl rfl rfl ?_
  refine Gq_s (pc' := 94) rfl rfl rfl ?_
  refine Gq_s (pc' := 95) rfl rfl rfl ?_
  refine Gq_callv (pc' := 98) (Y := xm36) (rest := [_]) (ce' := 0) (sl' := 0) rfl rfl rfl rfl rfl rfl rfl rfl rfl (q_fetched _ hA) (by exact hA.2.1) (fun v' H' n' hv => ?_)
  obtain ⟨rfl, rfl, hA, f2⟩ := hv
  have fr := SFr_trans fr f2
  refine Gq_calls1 (pc' := 101) (Y := xm41) (rest := []) (st' := [_]) (ce' := 0) (sl' := 0) rfl rfl rfl rfl rfl rfl rfl rfl rfl rfl (t_mix _ _ _ _) rfl ?_
  refine Gq_s (pc' := 102) (lv' := [(0, _), (1, _)]) rfl rfl rfl ?_
  refine Gq_s (pc' := 103) rfl rfl rfl ?_
  refine Gq_s (pc' := 104) rfl rfl rfl ?_
  refine Gq_callv (pc' := 107) (Y := xm37) (rest := [_]) (ce' := 0) (sl' := 0) rfl rfl rfl rfl rfl rfl rfl rfl rfl (q_wouldFetch _ hA) (by exact hA.2.1) (fun v' H' n' hv => ?_)
  obtain ⟨rfl, rfl, hA, f2⟩ := hv
  have fr := SFr_trans fr f2
  refine Gq_calls1 (pc' := 110) (Y := xm41) (rest := []) (st' := [_]) (ce' := 0) (sl' := 0) rfl rfl rfl rfl rfl rfl rfl rfl rfl rfl (t_mix _ _ _ _) rfl ?_
  refine Gq_s (pc' := 111) (lv' := [(0, _), (1, _)]) rfl rfl rfl ?_
  refine Gq_s (pc' := 112) rfl rfl rfl ?_
  refine Gq_s (pc' := 113) rfl rfl rfl ?_
  refine Gq_callv (pc' := 116) (Y := xm38) (rest := [_]) (ce' := 0) (sl' := 0) rfl rfl rfl rfl rfl rfl rfl rfl rfl (q_roomNeeded _ hA) (by exact hA.2.1) (fun v' H' n' hv => ?_)
  obtain ⟨rfl, rfl, hA, f2⟩ := hv
  have fr := SFr_trans fr f2
  refine Gq_calls1 (pc' := 119) (Y := xm41) (rest := []) (st' := [_]) (ce' := 0) (sl' := 0) rfl rfl rfl rfl rfl rfl rfl rfl rfl rfl (t_mix _ _ _ _) rfl ?_
  refine Gq_s (pc' := 120) (lv' := [(0, _), (1, _)]) rfl rfl rfl ?_
  refine Gq_s (pc' := 121) rfl rfl rfl ?_
  refine Gq_s (pc' := 122) rfl rfl rfl ?_
  refine Gq_callv (pc' := 125) (Y := xm39) (rest := [_]) (ce' := 0) (sl' := 0) rfl rfl rfl rfl rfl rfl rfl rfl rfl (q_isInst _ hA) (by exact hA.2.1) (fun v' H' n' hv => ?_)
  obtain ⟨rfl, rfl, hA, f2⟩ := hv
  have fr := SFr_trans fr f2
  refine Gq_tern (pc := 125) (p3 := 128) (p4 := 129) (p7 := 132) (p8 := 133) rfl rfl rfl rfl rfl rfl rfl rfl rfl ?_
  refine Gq_calls1 (pc' := 136) (Y := xm41) (rest := []) (st' := [_]) (ce' := 0) (sl' := 0) rfl rfl rfl rfl rfl rfl rfl rfl rfl rfl (t_mix _ _ _ _) rfl ?_
  refine Gq_s (pc' := 137) (lv' := [(0, _), (1, _)]) rfl rfl rfl ?_
  refine Gq_s (pc' := 138) rfl rfl rfl ?_
  refine Gq_s (pc' := 139) (lv' := [(0, _), (1, _), (3, _)]) rfl rfl rfl ?_
  refine t_dg_a P 0 _ _ (by omega) hA (fun G hA2 f2 => ?_)
  refine Gq_s (pc' := 161) rfl rfl rfl ?_
  refine Gq_s (pc' := 162) (lv' := [(0, _), (1, _), (3, _)]) rfl rfl rfl ?_
  refine t_dg_b hA2 pc 0 _ (by omega) ?_
  refine Gq_s (pc' := 200) rfl rfl rfl ?_
  exact Gq_ret rfl rfl (rfl) (⟨rfl, rfl, hA2, SFr_trans fr f2⟩)
end XKi
