/-! the class's own changes in its whole picture (printed by wip/p46/gen45.py) -/
section XKp
theorem LF_low {H G : HF} (h : ∀ o, (o < 86 ∨ 118 < o) → G o = H o) : LF H G := ⟨fun o ho => h o (.inl ho), fun o vs ho hc => (h o (.inr (by omega))).trans hc⟩
/-- what RX speaks of is alike -/
def Ge8 (H G : HF) : Prop := ∀ o ci fs, (ci = 8 ∨ ci = 10) → H o = some (false, ci, fs) → G o = some (false, ci, fs)
theorem RX_ge8 {H G : HF} (hh : Ge8 H G) {P : Nat} {pid cnt : Nat → Nat} {vd : Nat → Nat → Nat} {vr : Nat → VR} {tg : Nat → Nat} (hX : RX H P pid cnt vd vr tg) : RX G P pid cnt vd vr tg := by
  refine ⟨hX.1, fun p i hp hi => ?_⟩
  obtain ⟨f, g, a0, a1, a2, a3, a5, a7, e1, e2, e3⟩ := hX.2 p i hp hi
  exact ⟨f, g, a0, a1, a2, a3, a5, a7, hh _ 10 _ (.inr rfl) e1, CnT_ty (fun id fs a hc => ⟨hh _ 8 _ (.inl rfl) hc, a⟩) e2, CnT_ty (fun id fs a hc => ⟨hh _ 8 _ (.inl rfl) hc, a⟩) e3⟩
/-- a class's cells below 119 are none of the registry's -/
def Lo8 (H : HF) : Prop := ∀ o ci fs, o < 119 → (ci = 8 ∨ ci = 10) → ¬ H o = some (false, ci, fs)
theorem w_setCache {S : ScT} {H : HF} (n : Nat) {P : Nat} {pid cnt : Nat → Nat} {vd gr : Nat → Nat → Nat} {vr : Nat → VR} {wl : List CR} {lk dk : Nat → Option Nat} {th : Bool} {pc pd : Nat} {kd : Nat → Int} {pp : Nat → Nat} {pb : Nat → Option Nat} {cl : List Nat} {cr dr lt fc : Int} (hA : AllB H P pid cnt vd gr vr wl lk dk th pc pd kd pp pb cl cr dr lt fc) {z : Int} (hz : 0 ≤ z ∧ z ≤ 20000) : Rmt S 25 [.ref 86, .int (zI z)] H n (fun v G m => v = some (.int (zI cr)) ∧ m = n ∧ AllB G P pid cnt vd gr vr wl lk dk th pc pd kd pp pb (trm vr z cl.length cl) z dr lt fc ∧ ∀ o, ¬ o = 115 → G o = H o) := by
  obtain ⟨hR, h86, ⟨hW, hwP⟩, ⟨L0, L1, hL⟩, ⟨D0, D1, hD⟩, ⟨hP, hpc, hpd, hpp, hpb⟩, ⟨hCa, hcr, hus⟩, hdr, ⟨lo, L2, hlo⟩, ⟨don, D2, hdo⟩, hSR, hSC, hTS⟩ := id hA
  refine Rm_mono (t_setCache n hR h86 hz hCa) ?_
  rintro v G m ⟨e1, e2, e3, e4⟩
  have hh : Hi H G := fun o ho => e4 o (by omega)
  refine ⟨e1, e2, ⟨RG_hi hh (e4 87 (by omega)) hR, (e4 86 (by omega)).trans h86, ⟨WiAt_hi hh (e4 88 (by omega)) (e4 89 (by omega)) hW, hwP⟩, ⟨(e4 90 (by omega)).trans L0, (e4 91 (by omega)).trans L1, hL⟩, ⟨(e4 93 (by omega)).trans D0, (e4 94 (by omega)).trans D1, hD⟩, ⟨PlAt_off (e4 111 (by omega)) (e4 112 (by omega)) (e4 113 (by omega)) (e4 114 (by omega)) hP, hpc, hpd, hpp, hpb⟩, ⟨e3, hz, trm_le hz.1 (Nat.le_refl _)⟩, hdr, ⟨lo, (e4 92 (by omega)).trans L2, hlo⟩, ⟨don, (e4 95 (by omega)).trans D2, hdo⟩, ScR_off (fun o _ _ => e4 o (by omega)) hSR, ScC_off (fun o _ _ => e4 o (by omega)) hSC, TcS_off (e4 117 (by omega)) (e4 118 (by omega)) hTS⟩, e4⟩
theorem w_setDisk {S : ScT} {H : HF} (n : Nat) {P : Nat} {pid cnt : Nat → Nat} {vd gr : Nat → Nat → Nat} {vr : Nat → VR} {wl : List CR} {lk dk : Nat → Option Nat} {th : Bool} {pc pd : Nat} {kd : Nat → Int} {pp : Nat → Nat} {pb : Nat → Option Nat} {cl : List Nat} {cr dr lt fc : Int} (hA : AllB H P pid cnt vd gr vr wl lk dk th pc pd kd pp pb cl cr dr lt fc) {z : Int} (hz : 0 ≤ z ∧ z ≤ 20000) : Rmt S 24 [.ref 86, .int (zI z)] H n (fun v G m => v = some (.int (zI dr)) ∧ m = n ∧ AllB G P pid cnt vd gr vr wl lk dk th pc pd kd pp pb cl cr z lt fc ∧ ∀ o, ¬ o = 86 → G o = H o) := by
  obtain ⟨hR, h86, ⟨hW, hwP⟩, ⟨L0, L1, hL⟩, ⟨D0, D1, hD⟩, ⟨hP, hpc, hpd, hpp, hpb⟩, ⟨hCa, hcr, hus⟩, hdr, ⟨lo, L2, hlo⟩, ⟨don, D2, hdo⟩, hSR, hSC, hTS⟩ := id hA
  refine Rm_mono (t_setDisk n h86 hz) ?_
  rintro v G m ⟨e1, e2, e3⟩
  subst e2
  have e4 : ∀ o, ¬ o = 86 → hup H 86 (false, 7, pwF P z lt fc) o = H o := fun o h => upd_ne _ _ h
  have g86 : hup H 86 (false, 7, pwF P z lt fc) 86 = some (false, 7, pwF P z lt fc) := upd_eq _ _ _
  generalize hup H 86 (false, 7, pwF P z lt fc) = G at e4 g86
  have hh : Hi H G := fun o ho => e4 o (by omega)
  refine ⟨e1, e3, ⟨RG_hi hh (e4 87 (by omega)) hR, g86, ⟨WiAt_hi hh (e4 88 (by omega)) (e4 89 (by omega)) hW, hwP⟩, ⟨(e4 90 (by omega)).trans L0, (e4 91 (by omega)).trans L1, hL⟩, ⟨(e4 93 (by omega)).trans D0, (e4 94 (by omega)).trans D1, hD⟩, ⟨PlAt_off (e4 111 (by omega)) (e4 112 (by omega)) (e4 113 (by omega)) (e4 114 (by omega)) hP, hpc, hpd, hpp, hpb⟩, ⟨CaAt_off (e4 115 (by omega)) (e4 116 (by omega)) hCa, hcr, hus⟩, hz, ⟨lo, (e4 92 (by omega)).trans L2, hlo⟩, ⟨don, (e4 95 (by omega)).trans D2, hdo⟩, ScR_off (fun o _ _ => e4 o (by omega)) hSR, ScC_off (fun o _ _ => e4 o (by omega)) hSC, TcS_off (e4 117 (by omega)) (e4 118 (by omega)) hTS⟩, e4⟩
theorem w_plan {S : ScT} {H : HF} (n : Nat) {P : Nat} {pid cnt : Nat → Nat} {vd gr : Nat → Nat → Nat} {vr : Nat → VR} {wl : List CR} {lk dk : Nat → Option Nat} {th : Bool} {pc pd : Nat} {kd : Nat → Int} {pp : Nat → Nat} {pb : Nat → Option Nat} {cl : List Nat} {cr dr lt fc : Int} (hA : AllB H P pid cnt vd gr vr wl lk dk th pc pd kd pp pb cl cr dr lt fc) : Rmt S 26 [.ref 86] H n (fun v G m => m = n ∧ (∀ o, (o < 92 ∨ 118 < o) → G o = H o) ∧ ∃ (sl : List Nat) (kd2 : Nat → Int) (pp2 : Nat → Nat) (pb2 : Nat → Option Nat), v = some (.int (zI (sl.length : Int))) ∧ AllB G P pid cnt vd gr vr wl lk dk true sl.length 0 kd2 pp2 pb2 cl cr dr lt fc ∧ StI sl pp2 pb2 dk ∧ RwOK sl ∧ ∀ p, p ∈ sl ↔ p < 12 ∧ ¬ dk p = lk p) := by
  obtain ⟨hR, h86, ⟨hW, hwP⟩, ⟨L0, L1, hL⟩, ⟨D0, D1, hD⟩, ⟨hP, hpc, hpd, hpp, hpb⟩, ⟨hCa, hcr, hus⟩, hdr, ⟨lo, L2, hlo⟩, ⟨don, D2, hdo⟩, hSR, hSC, hTS⟩ := id hA
  refine Rm_mono (t_plan n hR h86 hL L0 L1 L2 hW hD D0 D1 D2 hP) ?_
  rintro v G m ⟨e1, e4, e2, e3, sl, e5, ⟨kd2, pp2, pb2, e6, e7⟩, e8, e9⟩
  have hh : Hi H G := fun o ho => e4 o (by omega) (by omega) (by omega) (by omega) (by omega) (by omega)
  have f : ∀ o, ¬ o = 92 → ¬ o = 95 → (o < 111 ∨ 114 < o) → G o = H o := fun o h1 h2 h3 => e4 o h1 h2 (by omega) (by omega) (by omega) (by omega)
  have hw := WiAt_ok hW
  have hpg := pigeon 12 sl e8.1 e8.2
  refine ⟨e1, fun o ho => f o (by omega) (by omega) (by omega), sl, kd2, pp2, pb2, e5, ⟨RG_hi hh (f 87 (by omega) (by omega) (by omega)) hR, (f 86 (by omega) (by omega) (by omega)).trans h86, ⟨WiAt_hi hh (f 88 (by omega) (by omega) (by omega)) (f 89 (by omega) (by omega) (by omega)) hW, hwP⟩, ⟨(f 90 (by omega) (by omega) (by omega)).trans L0, (f 91 (by omega) (by omega) (by omega)).trans L1, hL⟩, ⟨(f 93 (by omega) (by omega) (by omega)).trans D0, (f 94 (by omega) (by omega) (by omega)).trans D1, hD⟩, ⟨e6, hpg, Nat.zero_le _, fun i hi => ?_, fun i o hi ho => ?_⟩, ⟨CaAt_off (f 115 (by omega) (by omega) (by omega)) (f 116 (by omega) (by omega) (by omega)) hCa, hcr, hus⟩, hdr, ⟨_, e2, onF_16 (NOK_of (RG_vs hR) (Own_ch hL)) hw⟩, ⟨_, e3, onF_16 (NOK_of (RG_vs hR) (Own_ch hD)) hw⟩, ScR_off (fun o _ _ => f o (by omega) (by omega) (by omega)) hSR, ScC_off (fun o _ _ => f o (by omega) (by omega) (by omega)) hSC, TcS_off (f 117 (by omega) (by omega) (by omega)) (f 118 (by omega) (by omega) (by omega)) hTS⟩, e7, e8, e9⟩
  · have hq : sl[i]? = some sl[i] := List.getElem?_eq_getElem hi
    rw [(e7 i _ hq).1]
    exact e8.2 _ (List.mem_of_getElem? hq)
  · have hq : sl[i]? = some sl[i] := List.getElem?_eq_getElem hi
    rw [(e7 i _ hq).2] at ho
    exact ⟨_, hD _ o ho⟩
theorem w_run {S : ScT} {H : HF} (n : Nat) {P : Nat} {pid cnt : Nat → Nat} {vd gr : Nat → Nat → Nat} {vr : Nat → VR} {wl : List CR} {lk dk : Nat → Option Nat} {pd : Nat} {kd : Nat → Int} {pp : Nat → Nat} {pb : Nat → Option Nat} {cl : List Nat} {cr dr lt fc : Int} {sl : List Nat} (hA : AllB H P pid cnt vd gr vr wl lk (dkS sl lk dk pd) true sl.length pd kd pp pb cl cr dr lt fc) (hD0 : ∀ q o, dk q = some o → Own P cnt vd q o) (hS : StI sl pp pb dk) (hsl : RwOK sl) {z : Int} (hz : 0 ≤ z ∧ z ≤ 1000) (hroom : ∀ i, i ≤ sl.length → sumTo (fun p => szOf vr (dkS sl lk dk i p)) 12 ≤ dr) : Rmt S 30 [.ref 86, .int (zI z)] H n (fun v G m => v = some (.int (zI ((pd + min z.toNat (sl.length - pd) : Nat) : Int))) ∧ m = n ∧ (∀ o, (o < 86 ∨ 118 < o) → G o = H o) ∧ ∃ cl2 fc2, AllB G P pid cnt vd gr vr wl lk (dkS sl lk dk (pd + min z.toNat (sl.length - pd))) true sl.length (pd + min z.toNat (sl.length - pd)) kd pp pb cl2 cr dr lt fc2 ∧ fc ≤ fc2 ∧ fc2 ≤ fc + ((sl.length - pd : Nat) : Int)) := by
  obtain ⟨hR, h86, ⟨hW, hwP⟩, ⟨L0, L1, hL⟩, ⟨D0, D1, hD⟩, ⟨hP, hpc, hpd, hpp, hpb⟩, ⟨hCa, hcr, hus⟩, hdr, ⟨lo, L2, hlo⟩, ⟨don, D2, hdo⟩, hSR, hSC, hTS⟩ := id hA
  refine Rm_mono (t_run n hL hD0 hS hsl hcr hdr hroom hz hpd hR h86 L0 L1 D0 D1 hP hCa) ?_
  rintro v G m ⟨e1, e2, e3, e5, ⟨cl2, fc2, e6, e7, e8, e9⟩, e4⟩
  have hh : Hi H G := fun o ho => e4 o (by omega) (by omega) (by omega) (by omega) (by omega)
  have f : ∀ o, ¬ o = 86 → ¬ o = 94 → (o < 111 ∨ 116 < o) → G o = H o := fun o h1 h2 h3 => e4 o h1 h2 (by omega) (by omega) (by omega)
  exact ⟨e1, e2, fun o ho => f o (by omega) (by omega) (by omega), cl2, fc2, ⟨RG_hi hh (f 87 (by omega) (by omega) (by omega)) hR, e9, ⟨WiAt_hi hh (f 88 (by omega) (by omega) (by omega)) (f 89 (by omega) (by omega) (by omega)) hW, hwP⟩, ⟨(f 90 (by omega) (by omega) (by omega)).trans L0, (f 91 (by omega) (by omega) (by omega)).trans L1, hL⟩, ⟨(f 93 (by omega) (by omega) (by omega)).trans D0, e3, dkS_own hL hD0 _⟩, ⟨e5, hpc, by omega, hpp, hpb⟩, ⟨e6, hcr, e7 hus⟩, hdr, ⟨lo, (f 92 (by omega) (by omega) (by omega)).trans L2, hlo⟩, ⟨don, (f 95 (by omega) (by omega) (by omega)).trans D2, hdo⟩, ScR_off (fun o _ _ => f o (by omega) (by omega) (by omega)) hSR, ScC_off (fun o _ _ => f o (by omega) (by omega) (by omega)) hSC, TcS_off (f 117 (by omega) (by omega) (by omega)) (f 118 (by omega) (by omega) (by omega)) hTS⟩, e8⟩
theorem undR_is {sl : List Nat} {lk dk : Nat → Option Nat} {pp : Nat → Nat} {pb : Nat → Option Nat} (hS : StI sl pp pb dk) : ∀ (k : Nat) (f : Nat → Option Nat), k ≤ sl.length → (∀ p, ¬ p ∈ sl.take k → f p = dk p) → undR pp pb k f = dk
  | 0, f, _, h => funext fun p => h p (fun q => by cases q)
  | k + 1, f, hk, h => by
    have hq : sl[k]? = some sl[k] := List.getElem?_eq_getElem (by omega)
    obtain ⟨e1, e2⟩ := hS k _ hq
    refine undR_is (lk := lk) hS k _ (by omega) (fun p hp => ?_)
    by_cases e : p = sl[k]
    · rw [e1, e2, e, fset_eq]
    · rw [e1, fset_ne _ _ e]
      refine h p (fun q => ?_)
      rw [List.take_succ, hq] at q
      rcases List.mem_append.mp q with q | q
      · exact hp q
      · exact e (List.mem_singleton.mp q)
theorem w_rollBack {S : ScT} {H : HF} (n : Nat) {P : Nat} {pid cnt : Nat → Nat} {vd gr : Nat → Nat → Nat} {vr : Nat → VR} {wl : List CR} {lk dk : Nat → Option Nat} {pd : Nat} {kd : Nat → Int} {pp : Nat → Nat} {pb : Nat → Option Nat} {cl : List Nat} {cr dr lt fc : Int} {sl : List Nat} (hA : AllB H P pid cnt vd gr vr wl lk (dkS sl lk dk pd) true sl.length pd kd pp pb cl cr dr lt fc) (hD0 : ∀ q o, dk q = some o → Own P cnt vd q o) (hS : StI sl pp pb dk) : Rmt S 31 [.ref 86] H n (fun v G m => v = some (.int (zI (pd : Int))) ∧ m = n ∧ (∀ o, (o < 86 ∨ 118 < o) → G o = H o) ∧ AllB G P pid cnt vd gr vr wl lk dk false 0 0 kd pp pb cl cr dr lt fc) := by
  obtain ⟨hR, h86, ⟨hW, hwP⟩, ⟨L0, L1, hL⟩, ⟨D0, D1, hD⟩, ⟨hP, hpc, hpd, hpp, hpb⟩, ⟨hCa, hcr, hus⟩, hdr, ⟨lo, L2, hlo⟩, ⟨don, D2, hdo⟩, hSR, hSC, hTS⟩ := id hA
  refine Rm_mono (t_rollBack n hR h86 D0 D1 hP (fun i hi => hpp i (by omega)) (fun i o hi => hpb i o (by omega)) (by omega)) ?_
  rintro v G m ⟨e1, rfl, e2⟩
  have hu : undR pp pb pd (dkS sl lk dk pd) = dk := undR_is (lk := lk) hS pd _ hpd (fun p hp => if_neg hp)
  rw [hu]
  have f : ∀ o, ¬ o = 94 → ¬ o = 111 → hup (hup H 94 (true, 3, aR 12 dk)) 111 (false, 4, [.int (zI 0), .int (zI 0), .int (zI 0), .ref 112, .ref 113, .ref 114]) o = H o := fun o h1 h2 => by rw [upd_ne _ _ h2, upd_ne _ _ h1]
  have g94 : hup (hup H 94 (true, 3, aR 12 dk)) 111 (false, 4, [.int (zI 0), .int (zI 0), .int (zI 0), .ref 112, .ref 113, .ref 114]) 94 = some (true, 3, aR 12 dk) := by rw [upd_ne _ _ (by omega)]; exact upd_eq _ _ _
  have g111 : hup (hup H 94 (true, 3, aR 12 dk)) 111 (false, 4, [.int (zI 0), .int (zI 0), .int (zI 0), .ref 112, .ref 113, .ref 114]) 111 = some (false, 4, [.int (zI 0), .int (zI 0), .int (zI 0), .ref 112, .ref 113, .ref 114]) := upd_eq _ _ _
  generalize hup (hup H 94 (true, 3, aR 12 dk)) 111 (false, 4, [.int (zI 0), .int (zI 0), .int (zI 0), .ref 112, .ref 113, .ref 114]) = G at f g94 g111
  have hh : Hi H G := fun o ho => f o (by omega) (by omega)
  exact ⟨e1, e2, fun o ho => f o (by omega) (by omega), ⟨RG_hi hh (f 87 (by omega) (by omega)) hR, (f 86 (by omega) (by omega)).trans h86, ⟨WiAt_hi hh (f 88 (by omega) (by omega)) (f 89 (by omega) (by omega)) hW, hwP⟩, ⟨(f 90 (by omega) (by omega)).trans L0, (f 91 (by omega) (by omega)).trans L1, hL⟩, ⟨(f 93 (by omega) (by omega)).trans D0, g94, hD0⟩, ⟨⟨g111, (f 112 (by omega) (by omega)).trans hP.2.1, (f 113 (by omega) (by omega)).trans hP.2.2.1, (f 114 (by omega) (by omega)).trans hP.2.2.2⟩, by omega, by omega, fun i hi => absurd hi (by omega), fun i o hi => absurd hi (by omega)⟩, ⟨CaAt_off (f 115 (by omega) (by omega)) (f 116 (by omega) (by omega)) hCa, hcr, hus⟩, hdr, ⟨lo, (f 92 (by omega) (by omega)).trans L2, hlo⟩, ⟨don, (f 95 (by omega) (by omega)).trans D2, hdo⟩, ScR_off (fun o _ _ => f o (by omega) (by omega)) hSR, ScC_off (fun o _ _ => f o (by omega) (by omega)) hSC, TcS_off (f 117 (by omega) (by omega)) (f 118 (by omega) (by omega)) hTS⟩⟩
theorem w_resolve {S : ScT} {H : HF} (n : Nat) {P : Nat} {pid cnt : Nat → Nat} {vd gr : Nat → Nat → Nat} {vr : Nat → VR} {wl : List CR} {lk dk : Nat → Option Nat} {th : Bool} {pc pd : Nat} {kd : Nat → Int} {pp : Nat → Nat} {pb : Nat → Option Nat} {cl : List Nat} {cr dr lt fc : Int} (hA : AllB H P pid cnt vd gr vr wl lk dk th pc pd kd pp pb cl cr dr lt fc) {p : Nat} {z : Int} (hp : p < P) (hz : 0 ≤ z ∧ z ≤ 3) : Rmt S 11 [.ref 86, .int (zI z), .int (zI (p : Int))] H n (fun v G m => m = n ∧ (∀ o, (o < 86 ∨ 118 < o) → G o = H o) ∧ ∃ r lt2 : Int, v = some (.int (zI r)) ∧ (-2 ≤ r ∧ r ≤ 12) ∧ ((r < 0 ∧ AllB G P pid cnt vd gr vr wl lk dk th pc pd kd pp pb cl cr dr lt2 fc) ∨ ∃ ch2, 0 ≤ r ∧ Found vr (Own P cnt vd) wl ch2 ∧ AllB G P pid cnt vd gr vr wl ch2 dk false 0 0 kd pp pb cl cr dr lt2 fc)) := by
  obtain ⟨hR, h86, ⟨hW, hwP⟩, ⟨L0, L1, hL⟩, ⟨D0, D1, hD⟩, ⟨hP, hpc, hpd, hpp, hpb⟩, ⟨hCa, hcr, hus⟩, hdr, ⟨lo, L2, hlo⟩, ⟨don, D2, hdo⟩, hSR, hSC, hTS⟩ := id hA
  refine Rm_mono (t_resolve n hR h86 hp hz hL L0 L1 L2 hW hlo hwP hSR hP.1) ?_
  rintro v G m ⟨e1, e2, ⟨lo2, e3, e4⟩, lt2, e5, e6, e7⟩
  rcases e7 with ⟨r, e8, e9, f⟩ | ⟨ch2, r, e8, e9, e10, e11, e12, f⟩
  · have f : ∀ o, ¬ o = 86 → ¬ o = 92 → (o < 96 ∨ 106 < o) → G o = H o := f
    have hh : Hi H G := fun o ho => f o (by omega) (by omega) (by omega)
    exact ⟨e1, fun o ho => f o (by omega) (by omega) (by omega), r, lt2, e8, by omega, .inl ⟨by omega, RG_hi hh (f 87 (by omega) (by omega) (by omega)) hR, e6, ⟨WiAt_hi hh (f 88 (by omega) (by omega) (by omega)) (f 89 (by omega) (by omega) (by omega)) hW, hwP⟩, ⟨(f 90 (by omega) (by omega) (by omega)).trans L0, (f 91 (by omega) (by omega) (by omega)).trans L1, hL⟩, ⟨(f 93 (by omega) (by omega) (by omega)).trans D0, (f 94 (by omega) (by omega) (by omega)).trans D1, hD⟩, ⟨PlAt_off (f 111 (by omega) (by omega) (by omega)) (f 112 (by omega) (by omega) (by omega)) (f 113 (by omega) (by omega) (by omega)) (f 114 (by omega) (by omega) (by omega)) hP, hpc, hpd, hpp, hpb⟩, ⟨CaAt_off (f 115 (by omega) (by omega) (by omega)) (f 116 (by omega) (by omega) (by omega)) hCa, hcr, hus⟩, hdr, ⟨lo2, e3, e4⟩, ⟨don, (f 95 (by omega) (by omega) (by omega)).trans D2, hdo⟩, e2, ScC_off (fun o _ _ => f o (by omega) (by omega) (by omega)) hSC, TcS_off (f 117 (by omega) (by omega) (by omega)) (f 118 (by omega) (by omega) (by omega)) hTS⟩⟩
  · have f : ∀ o, ¬ o = 86 → ¬ o = 91 → ¬ o = 92 → ¬ o = 111 → (o < 96 ∨ 106 < o) → G o = H o := f
    have f : ∀ o, (o < 86 ∨ 86 < o ∧ o < 91 ∨ o = 93 ∨ o = 94 ∨ o = 95 ∨ 106 < o ∧ o < 111 ∨ 111 < o) → G o = H o := fun o h => f o (by omega) (by omega) (by omega) (by omega) (by omega)
    have hh : Hi H G := fun o ho => f o (by omega)
    exact ⟨e1, fun o ho => f o (by omega), r, lt2, e8, by omega, .inr ⟨ch2, by omega, e10, RG_hi hh (f 87 (by omega)) hR, e6, ⟨WiAt_hi hh (f 88 (by omega)) (f 89 (by omega)) hW, hwP⟩, ⟨(f 90 (by omega)).trans L0, e11, fun q o hq => (e10.2.2.2 q o hq).2⟩, ⟨(f 93 (by omega)).trans D0, (f 94 (by omega)).trans D1, hD⟩, ⟨⟨e12, (f 112 (by omega)).trans hP.2.1, (f 113 (by omega)).trans hP.2.2.1, (f 114 (by omega)).trans hP.2.2.2⟩, by omega, by omega, fun i hi => absurd hi (by omega), fun i o hi => absurd hi (by omega)⟩, ⟨CaAt_off (f 115 (by omega)) (f 116 (by omega)) hCa, hcr, hus⟩, hdr, ⟨lo2, e3, e4⟩, ⟨don, (f 95 (by omega)).trans D2, hdo⟩, e2, ScC_off (fun o _ _ => f o (by omega)) hSC, TcS_off (f 117 (by omega)) (f 118 (by omega)) hTS⟩⟩
end XKp
