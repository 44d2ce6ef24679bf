/-! arrays of arrays of arrays: 'multianewarray' of three dimensions; and rows for two and three that say nothing of what is made (it is only kept) -/
section XG
def xg_out (c : ClassId) (N h0 w : Nat) : Nat → Cell
  | 0 => { cls := c, slots := Array.replicate N .null, vm := .none }
  | i + 1 => (xg_out c N h0 w i).setSlot i (.ref (h0 + 1 + i * w))
def xg_fill (s : State) (c comp comp2 : ClassId) (N M K : Nat) (dv : Value) : Nat → State
  | 0 => s.pushCell (xg_out c N s.heap.size (1 + M) 0)
  | i + 1 => (Jvm.Free.Multi.fill (xg_fill s c comp comp2 N M K dv i) comp comp2 M K dv M).setCell s.heap.size (xg_out c N s.heap.size (1 + M) (i + 1))
theorem xg_out_facts (c : ClassId) (N h0 w : Nat) : ∀ i, (xg_out c N h0 w i).cls = c ∧ (xg_out c N h0 w i).vm = .none ∧ (xg_out c N h0 w i).slots.size = N
  | 0 => ⟨rfl, rfl, by simp [xg_out]⟩
  | i + 1 => by
    obtain ⟨a, b, d⟩ := xg_out_facts c N h0 w i
    exact ⟨by simp [xg_out, Cell.setSlot, a], by simp [xg_out, Cell.setSlot, b], by simp [xg_out, Cell.setSlot, d]⟩
theorem xg_facts (s : State) (c comp comp2 : ClassId) (N M K : Nat) (dv : Value) : ∀ i, (xg_fill s c comp comp2 N M K dv i).heap.size = s.heap.size + 1 + i * (1 + M) ∧ (xg_fill s c comp comp2 N M K dv i).heap[s.heap.size]? = some (xg_out c N s.heap.size (1 + M) i) ∧
    (xg_fill s c comp comp2 N M K dv i).vm = s.vm ∧ (xg_fill s c comp comp2 N M K dv i).slotsUsed = s.slotsUsed + N + i * (M + M * K)
  | 0 => ⟨by simp [xg_fill], by simp [xg_fill], rfl, by simp [xg_fill, xg_out]⟩
  | i + 1 => by
    obtain ⟨a, b, d, u⟩ := xg_facts s c comp comp2 N M K dv i
    obtain ⟨f1, -, f3, f4⟩ := Jvm.Free.Multi.fill_facts (xg_fill s c comp comp2 N M K dv i) comp comp2 M K dv M
    have hlt : s.heap.size < (xg_fill s c comp comp2 N M K dv i).heap.size := by omega
    have hb' : (Jvm.Free.Multi.fill (xg_fill s c comp comp2 N M K dv i) comp comp2 M K dv M).heap[s.heap.size]? = some (xg_out c N s.heap.size (1 + M) i) := by
      rw [Jvm.Free.Multi.fill_old (xg_fill s c comp comp2 N M K dv i) comp comp2 M K dv hlt M]; exact b
    refine ⟨?_, State.heap_setCell_self hb', ?_, ?_⟩
    · show ((Jvm.Free.Multi.fill _ _ _ _ _ _ _).setCell _ _).heap.size = _
      rw [size_setCell, f1, a, Nat.succ_mul]; omega
    · show (Jvm.Free.Multi.fill _ _ _ _ _ _ _).vm = _
      rw [f3, d]
    · show (Jvm.Free.Multi.fill _ _ _ _ _ _ _).slotsUsed = _
      rw [f4, u, Nat.succ_mul]; omega
theorem xg_mid (s : State) (c comp comp2 : ClassId) (N M K : Nat) (dv : Value) : ∀ i j, j < i → (xg_fill s c comp comp2 N M K dv i).heap[s.heap.size + 1 + j * (1 + M)]? = some (Jvm.Free.Multi.outerC comp M (s.heap.size + 1 + j * (1 + M)) M) ∧
    ∀ q, q < M → (xg_fill s c comp comp2 N M K dv i).heap[s.heap.size + 1 + j * (1 + M) + 1 + q]? = some (Jvm.Free.Multi.innerC comp2 K dv)
  | 0, j, h => by omega
  | i + 1, j, h => by
    obtain ⟨f1, f2, -, -⟩ := xg_facts s c comp comp2 N M K dv i
    have hlt0 : s.heap.size < (xg_fill s c comp comp2 N M K dv i).heap.size := by omega
    have hne : ∀ x : Nat, x ≠ s.heap.size → (xg_fill s c comp comp2 N M K dv (i + 1)).heap[x]? = (Jvm.Free.Multi.fill (xg_fill s c comp comp2 N M K dv i) comp comp2 M K dv M).heap[x]? := fun x hx => by
      show ((Jvm.Free.Multi.fill _ _ _ _ _ _ _).setCell s.heap.size _).heap[x]? = _
      rw [State.heap_setCell_other (Ne.symm hx)]
    by_cases e : j = i
    · subst e
      obtain ⟨-, g2, -, -⟩ := Jvm.Free.Multi.fill_facts (xg_fill s c comp comp2 N M K dv j) comp comp2 M K dv M
      refine ⟨?_, fun q hq => ?_⟩
      · rw [hne _ (by omega), ← f1]
        exact g2
      · rw [hne _ (by omega), ← f1]
        exact Jvm.Free.Multi.fill_inner (xg_fill s c comp comp2 N M K dv j) comp comp2 M K dv M q hq
    · have hji : j < i := by omega
      obtain ⟨g1, g2⟩ := xg_mid s c comp comp2 N M K dv i j hji
      have hb : j * (1 + M) + (1 + M) ≤ i * (1 + M) := by
        have := Nat.mul_le_mul_right (1 + M) (show j + 1 ≤ i from hji)
        rw [Nat.succ_mul] at this
        exact this
      refine ⟨?_, fun q hq => ?_⟩
      · rw [hne _ (by omega), Jvm.Free.Multi.fill_old (xg_fill s c comp comp2 N M K dv i) comp comp2 M K dv (a := s.heap.size + 1 + j * (1 + M)) (show (s.heap.size + 1 + j * (1 + M) : Nat) < _ by rw [f1]; omega) M]
        exact g1
      · rw [hne _ (by omega), Jvm.Free.Multi.fill_old (xg_fill s c comp comp2 N M K dv i) comp comp2 M K dv (a := s.heap.size + 1 + j * (1 + M) + 1 + q) (show (s.heap.size + 1 + j * (1 + M) + 1 + q : Nat) < _ by rw [f1]; omega) M]
        exact g2 q hq
theorem xg_setTop (s : State) (f : JFrame) (c comp comp2 : ClassId) (N M K : Nat) (dv : Value) : ∀ i, xg_fill (s.setTop f) c comp comp2 N M K dv i = (xg_fill s c comp comp2 N M K dv i).setTop f
  | 0 => rfl
  | i + 1 => by simp only [xg_fill, xg_setTop s f c comp comp2 N M K dv i, Jvm.Free.Multi.fill_setTop, State.heap_setTop, State.setCell_setTop]
theorem xg_old (s : State) (c comp comp2 : ClassId) (N M K : Nat) (dv : Value) {a : Addr} (ha : a < s.heap.size) : ∀ i, (xg_fill s c comp comp2 N M K dv i).heap[a]? = s.heap[a]?
  | 0 => State.heap_pushCell_of_lt _ _ ha
  | i + 1 => by
    have f1 := (xg_facts s c comp comp2 N M K dv i).1
    have hlt : a < (xg_fill s c comp comp2 N M K dv i).heap.size := Nat.lt_of_lt_of_le ha (by rw [f1]; omega)
    show ((Jvm.Free.Multi.fill _ _ _ _ _ _ _).setCell s.heap.size _).heap[a]? = _
    rw [State.heap_setCell_other (Nat.ne_of_gt ha), Jvm.Free.Multi.fill_old _ comp comp2 M K dv hlt M]
    exact xg_old s c comp comp2 N M K dv ha i
section
variable {E : CtlPost} {e : Env} {d : Bool} {acts : List Action} {s : State}
theorem xg_make3 {c comp comp2 cc : ClassId} {k kc kc2 : Class} {t0 t1 type : FieldType} {n m r : Int32} (hk : s.vm.classes[c]? = some k) (hkind : k.kind = .array comp t0) (href : t0.isReference = true)
    (hkc : s.vm.classes[comp]? = some kc) (hkindc : kc.kind = .array comp2 t1) (href1 : t1.isReference = true) (hkc2 : s.vm.classes[comp2]? = some kc2) (hkindc2 : kc2.kind = .array cc type)
    (hn : ¬ n < 0) (hm : ¬ m < 0) (hr : ¬ r < 0)
    (hl1 : ¬ n.toNatClampNeg > e.platform.arrayLengthLimit) (hh1 : ¬ n.toNatClampNeg * componentBytes t0 > e.platform.maxHeapBytes)
    (hl2 : ¬ m.toNatClampNeg > e.platform.arrayLengthLimit) (hh2 : ¬ m.toNatClampNeg * componentBytes t1 > e.platform.maxHeapBytes)
    (hl3 : ¬ r.toNatClampNeg > e.platform.arrayLengthLimit) (hh3 : ¬ r.toNatClampNeg * componentBytes type > e.platform.maxHeapBytes)
    (hdf : fits type (defaultValue type) = true) (hdd : (defaultValue type).isDefault = true)
    (hc : s.heap.size + 1 + n.toNatClampNeg * (1 + m.toNatClampNeg) ≤ e.platform.maxCells) (hs : s.slotsUsed + n.toNatClampNeg + n.toNatClampNeg * (m.toNatClampNeg + m.toNatClampNeg * r.toNatClampNeg) ≤ e.platform.maxSlots)
    {Q : Addr → Pre} (hq : ∀ d' acts', Q s.heap.size d' acts' (xg_fill s c comp comp2 n.toNatClampNeg m.toNatClampNeg r.toNatClampNeg (defaultValue type) n.toNatClampNeg)) :
    wp (multianewarray.make c [n, m, r]) Q E e d acts s := by
  have hfind : ([m, r].find? (· < 0)) = none := by simp [hm, hr]
  rw [multianewarray.make]
  simp only [wp_bind', W.ite, hn, if_false, wp_pure', W.theClass, hk, hkind, Option.some.injEq, exists_eq_left']
  refine Jvm.Free.Multi.wp_newArray hk hkind hl1 hh1 (Jvm.Free.Multi.refFits href _ (Or.inl rfl)) rfl (by omega) (by omega) ?_
  simp only [hfind]
  rw [ite_self, wp_bind', Std.Legacy.Range.forIn_eq_forIn_range']
  have hsz : ([:n.toNatClampNeg] : Std.Legacy.Range).size = n.toNatClampNeg := by simp [Std.Legacy.Range.size]
  rw [hsz]
  show wp (forIn (List.range' 0 n.toNatClampNeg 1) PUnit.unit _) _ E e d acts _
  refine wp_forIn_inv (fun rest s' => ∃ i, i ≤ n.toNatClampNeg ∧ rest = List.range' i (n.toNatClampNeg - i) ∧ s' = xg_fill s c comp comp2 n.toNatClampNeg m.toNatClampNeg r.toNatClampNeg (defaultValue type) i) _ _ ⟨0, Nat.zero_le _, rfl, rfl⟩ ?_ ?_
  · rintro x rest s' d' acts' Q' ⟨i, hi, hl, rfl⟩ hnext
    have hlt : i < n.toNatClampNeg := by
      rcases Nat.lt_or_ge i n.toNatClampNeg with h | h
      · exact h
      · rw [show n.toNatClampNeg - i = 0 from by omega] at hl; simp at hl
    obtain ⟨rfl, hrest⟩ : x = i ∧ rest = List.range' (i + 1) (n.toNatClampNeg - (i + 1)) := by
      rw [show n.toNatClampNeg - i = (n.toNatClampNeg - (i + 1)) + 1 from by omega, List.range'_succ] at hl
      exact ⟨(List.cons.inj hl).1, (List.cons.inj hl).2⟩
    obtain ⟨f1, f2, f3, f4⟩ := xg_facts s c comp comp2 n.toNatClampNeg m.toNatClampNeg r.toNatClampNeg (defaultValue type) x
    obtain ⟨o1, o2, o3⟩ := xg_out_facts c n.toNatClampNeg s.heap.size (1 + m.toNatClampNeg) x
    have hmul1 : x * (1 + m.toNatClampNeg) + (1 + m.toNatClampNeg) ≤ n.toNatClampNeg * (1 + m.toNatClampNeg) := by
      have := Nat.mul_le_mul_right (1 + m.toNatClampNeg) (show x + 1 ≤ n.toNatClampNeg from hlt)
      rw [Nat.succ_mul] at this; exact this
    have hmul2 : x * (m.toNatClampNeg + m.toNatClampNeg * r.toNatClampNeg) + (m.toNatClampNeg + m.toNatClampNeg * r.toNatClampNeg) ≤ n.toNatClampNeg * (m.toNatClampNeg + m.toNatClampNeg * r.toNatClampNeg) := by
      have := Nat.mul_le_mul_right (m.toNatClampNeg + m.toNatClampNeg * r.toNatClampNeg) (show x + 1 ≤ n.toNatClampNeg from hlt)
      rw [Nat.succ_mul] at this; exact this
    have hlt0 : s.heap.size < (xg_fill s c comp comp2 n.toNatClampNeg m.toNatClampNeg r.toNatClampNeg (defaultValue type) x).heap.size := by rw [f1]; omega
    simp only [wp_bind']
    refine Jvm.Free.Multi.wp_make2 (k := kc) (kc := kc2) (by rw [f3]; exact hkc) hkindc href1 (by rw [f3]; exact hkc2) hkindc2 hm hr hl2 hh2 hl3 hh3 hdf hdd (by rw [f1]; omega) (by rw [f4]; omega) (fun d2 acts2 => ?_)
    obtain ⟨g1, -, g3, -⟩ := Jvm.Free.Multi.fill_facts (xg_fill s c comp comp2 n.toNatClampNeg m.toNatClampNeg r.toNatClampNeg (defaultValue type) x) comp comp2 m.toNatClampNeg r.toNatClampNeg (defaultValue type) m.toNatClampNeg
    simp only [wp_bind', W.writeLoc, wp_pure']
    refine ⟨xg_out c n.toNatClampNeg s.heap.size (1 + m.toNatClampNeg) x, by rw [Jvm.Free.Multi.fill_old _ comp comp2 _ _ _ hlt0 _]; exact f2, by rw [o2]; simp, by rw [o3]; exact hlt, ?_, hnext _ _ _ ⟨x + 1, hlt, hrest, ?_⟩⟩
    · rw [o1, o2]
      simp [State.fitsSlot, State.slotType?, g3, f3, hk, hkind, Jvm.Free.Multi.refFits href _ (Or.inr ⟨_, rfl⟩)]
    · rw [f1]; rfl
  · rintro s' d' acts' ⟨i, hi, hl, rfl⟩
    have hiN : i = n.toNatClampNeg := by
      rcases Nat.lt_or_ge i n.toNatClampNeg with h | h
      · rw [show n.toNatClampNeg - i = (n.toNatClampNeg - (i + 1)) + 1 from by omega, List.range'_succ] at hl; cases hl
      · omega
    subst hiN
    simp only [wp_pure']
    exact hq _ _
end
section
variable {p : Program} {l : Launch} {e : Env} {R : Room} {s : State} {m : MethodId} {args : Array Value} {below : List Frame} {meth : Method} {c : Code} {T : State} {H : Heap} {locs : List Loc} {cells slots : Nat} {Q : State → Prop}
theorem xg_filled (X : Stand p l e R s m args below meth c T locs cells slots) (cA comp comp2 : ClassId) (N M K : Nat) (dv : Value) :
    ∀ i, ∃ L : List Loc, (∀ x ∈ L, T.heap.size ≤ x.base) ∧ Stand p l e R s m args below meth c (xg_fill T cA comp comp2 N M K dv i) (locs ++ L) (cells + 1 + i * (1 + M)) (slots + N + i * (M + M * K))
  | 0 => by
    have h := X.pushed (xg_out cA N T.heap.size (1 + M) 0)
    rw [(xg_out_facts cA N T.heap.size (1 + M) 0).2.2] at h
    exact ⟨[], (fun _ h => nomatch h), by simpa [xg_fill] using h⟩
  | i + 1 => by
    obtain ⟨L, hL, Xi⟩ := xg_filled X cA comp comp2 N M K dv i
    obtain ⟨f1, f2, f3, f4⟩ := xg_facts T cA comp comp2 N M K dv i
    have hlt0 : T.heap.size < (xg_fill T cA comp comp2 N M K dv i).heap.size := by rw [f1]; omega
    have X2 := Xi.filled comp comp2 M K dv M
    have hcell : (Jvm.Free.Multi.fill (xg_fill T cA comp comp2 N M K dv i) comp comp2 M K dv M).heap[T.heap.size]? = some (xg_out cA N T.heap.size (1 + M) i) := by rw [Jvm.Free.Multi.fill_old _ comp comp2 M K dv hlt0 M]; exact f2
    have h := X2.stored hcell i (.ref (T.heap.size + 1 + i * (1 + M)))
    refine ⟨(L ++ (List.range M).map fun j => (⟨(xg_fill T cA comp comp2 N M K dv i).heap.size, j⟩ : Loc)) ++ [⟨T.heap.size, i⟩], ?_, ?_⟩
    · intro x hx
      rcases List.mem_append.mp hx with hx | hx
      · rcases List.mem_append.mp hx with hx | hx
        · exact hL x hx
        · obtain ⟨j, -, rfl⟩ := List.mem_map.mp hx
          exact Nat.le_of_lt hlt0
      · rw [List.mem_singleton.mp hx]
        exact Nat.le_refl _
    · have e2 : locs ++ ((L ++ (List.range M).map fun j => (⟨(xg_fill T cA comp comp2 N M K dv i).heap.size, j⟩ : Loc)) ++ [⟨T.heap.size, i⟩]) = ((locs ++ L) ++ (List.range M).map fun j => (⟨(xg_fill T cA comp comp2 N M K dv i).heap.size, j⟩ : Loc)) ++ [⟨T.heap.size, i⟩] := by simp [List.append_assoc]
      have e3 : cells + 1 + (i + 1) * (1 + M) = cells + 1 + i * (1 + M) + 1 + M := by rw [Nat.succ_mul]; omega
      have e4 : slots + N + (i + 1) * (M + M * K) = slots + N + i * (M + M * K) + M + M * K := by rw [Nat.succ_mul]; omega
      rw [e2, e3, e4]
      exact h
theorem xg_m3 {cc : ByteArray} {pc : Nat} {ls : Array Slot} {rest : List Value} (hexec : p.tables.exec = Jvm.exec) (hb : c.code = cc) {own : String} {index : Nat} {ty : FieldType}
    (hown : s.vm.findClass own = some m.cls) (hclink : (Cond.classLink own index ("[" ++ (FieldType.array (.array ty)).toString)).before args s = true)
    (hover : (Cond.arrayOver (.array (.array ty))).before args s = true) (hover2 : (Cond.arrayOver (.array ty)).before args s = true) (harr : (Cond.arrayClass ty).before args s = true)
    (hstr : "[" ++ (FieldType.array ty).toString = (FieldType.array (.array ty)).toString)
    {n k r : Int32} (hn : ¬ n < 0) (hk : ¬ k < 0) (hr : ¬ r < 0) (hb1 : n.toNatClampNeg * 4 ≤ 536870912) (hb2 : k.toNatClampNeg * 4 ≤ 536870912) (hb3 : r.toNatClampNeg * componentBytes ty ≤ 536870912) (hb4 : r.toNatClampNeg ≤ 536870912)
    (hdf : fits ty (defaultValue ty) = true) (hdd : (defaultValue ty).isDefault = true)
    (hcells : cells + (1 + n.toNatClampNeg * (1 + k.toNatClampNeg)) ≤ R.cells) (hslots : slots + (n.toNatClampNeg + n.toNatClampNeg * (k.toNatClampNeg + k.toNatClampNeg * r.toNatClampNeg)) ≤ R.slots)
    (hdg : decode cc pc = .ok (.multianewarray index 3, 4))
    (kk : ∀ (H1 : Heap) (cA cB cD : ClassId), H.size ≤ H1.size → (∀ x : Nat, x < H.size → H1[x]? = H[x]?) → s.vm.findClass ("[" ++ (FieldType.array (.array ty)).toString) = some cA → s.vm.findClass ("[" ++ (FieldType.array ty).toString) = some cB → s.vm.findClass ("[" ++ ty.toString) = some cD →
      H1[H.size]? = some (xg_out cA n.toNatClampNeg H.size (1 + k.toNatClampNeg) n.toNatClampNeg) → (∀ j, j < n.toNatClampNeg → H1[H.size + 1 + j * (1 + k.toNatClampNeg)]? = some (Jvm.Free.Multi.outerC cB k.toNatClampNeg (H.size + 1 + j * (1 + k.toNatClampNeg)) k.toNatClampNeg) ∧ ∀ q, q < k.toNatClampNeg → H1[H.size + 1 + j * (1 + k.toNatClampNeg) + 1 + q]? = some (Jvm.Free.Multi.innerC cD r.toNatClampNeg (defaultValue ty))) →
      W p l e R s m args below meth c H1 locs (cells + 1 + n.toNatClampNeg * (1 + k.toNatClampNeg)) (slots + n.toNatClampNeg + n.toNatClampNeg * (k.toNatClampNeg + k.toNatClampNeg * r.toNatClampNeg)) Q (F0 m (pc + 4) ls (.ref H.size :: rest))) :
    W p l e R s m args below meth c H locs cells slots Q (F0 m pc ls (.int r :: .int k :: .int n :: rest)) := by
  intro T hT X
  have hpl : e.platform.magicAccessors = ({} : Platform).magicAccessors := by rw [X.admits.platform]
  obtain ⟨comp, cA, kA, hcomp, hkA, hkindA, hnameA⟩ := Cond.arrayOver_specA hover
  obtain ⟨comp2, cB, kB, hcomp2, hkB, hkindB, hnameB⟩ := Cond.arrayOver_specA hover2
  obtain ⟨comp2', kC, cc', hcomp2', hkC, hkindC⟩ := Cond.arrayClass_spec harr
  have ecomp : comp2' = comp2 := Option.some.inj (hcomp2'.symm.trans hcomp2)
  subst ecomp
  have ecB : cB = comp := Option.some.inj (hnameB.symm.trans (by rw [hstr]; exact hcomp))
  subst ecB
  obtain ⟨c0, hfc0, hcl⟩ := Cond.classLink_spec hown hclink e.platform hpl
  cases hnameA.symm.trans hfc0
  obtain ⟨hg₁, hwarm₁, hready₁⟩ := State.classEntry (e := e) X.warmed hcl
  generalize T.vm.noted m.cls index (.cls cA) = vm₁ at hg₁ hwarm₁ hready₁
  have hal : s.vm.Alike vm₁ := hwarm₁.alike
  obtain ⟨kA₁, hkA₁, heA⟩ := hal.2.2 _ _ hkA
  obtain ⟨kB₁, hkB₁, heB⟩ := hal.2.2 _ _ hkB
  obtain ⟨kC₁, hkC₁, heC⟩ := hal.2.2 _ _ hkC
  have hkindA₁ : kA₁.kind = .array cB (.array (.array ty)) := by rw [heA]; exact hkindA
  have hkindB₁ : kB₁.kind = .array comp2' (.array ty) := by rw [heB]; exact hkindB
  have hkindC₁ : kC₁.kind = .array cc' ty := by rw [heC]; exact hkindC
  have X₁ := X.noted hwarm₁
  obtain ⟨hr1, hr2⟩ := X.roomAbove hcells hslots
  have hl1 : ¬ n.toNatClampNeg > e.platform.arrayLengthLimit := by rw [Launch.admits_arrayLengthLimit X.admits]; omega
  have hh1 : ¬ n.toNatClampNeg * componentBytes (.array (.array ty)) > e.platform.maxHeapBytes := by
    rw [Launch.admits_maxHeapBytes X.admits]; show ¬ n.toNatClampNeg * 4 > 536870912; omega
  have hl2 : ¬ k.toNatClampNeg > e.platform.arrayLengthLimit := by rw [Launch.admits_arrayLengthLimit X.admits]; omega
  have hh2 : ¬ k.toNatClampNeg * componentBytes (.array ty) > e.platform.maxHeapBytes := by
    rw [Launch.admits_maxHeapBytes X.admits]; show ¬ k.toNatClampNeg * 4 > 536870912; omega
  have hl3 : ¬ r.toNatClampNeg > e.platform.arrayLengthLimit := by rw [Launch.admits_arrayLengthLimit X.admits]; omega
  have hh3 : ¬ r.toNatClampNeg * componentBytes ty > e.platform.maxHeapBytes := by rw [Launch.admits_maxHeapBytes X.admits]; omega
  obtain ⟨L, hL, XF⟩ := xg_filled X₁ cA cB comp2' n.toNatClampNeg k.toNatClampNeg r.toNatClampNeg (defaultValue ty) n.toNatClampNeg
  have XF := XF.dropFresh (fun x hx => Nat.le_trans X.heapGrown (hL x hx))
  obtain ⟨f1, f2, -, -⟩ := xg_facts (T.setVm vm₁) cA cB comp2' n.toNatClampNeg k.toNatClampNeg r.toNatClampNeg (defaultValue ty) n.toNatClampNeg
  have hTh : (T.setVm vm₁).heap = H := hT
  have hold : ∀ x : Nat, x < H.size → (xg_fill (T.setVm vm₁) cA cB comp2' n.toNatClampNeg k.toNatClampNeg r.toNatClampNeg (defaultValue ty) n.toNatClampNeg).heap[x]? = H[x]? := fun x hx => by
    have := xg_old (T.setVm vm₁) cA cB comp2' n.toNatClampNeg k.toNatClampNeg r.toNatClampNeg (defaultValue ty) (a := x) (by rw [hTh]; exact hx) n.toNatClampNeg
    rw [hTh] at this
    exact this
  have hmid := fun j hj => xg_mid (T.setVm vm₁) cA cB comp2' n.toNatClampNeg k.toNatClampNeg r.toNatClampNeg (defaultValue ty) n.toNatClampNeg j hj
  rw [hTh] at f1 f2 hmid
  obtain ⟨t, hrest, b1⟩ := kk _ cA cB comp2' (by rw [f1]; omega) hold hnameA hnameB hcomp2' f2 hmid _ rfl XF
  have hTh2 : T.heap = H := hT
  rw [← hTh2] at hrest
  refine ⟨t, ?_, b1⟩
  have hdg' : decode c.code pc = .ok (.multianewarray index 3, 4) := by rw [hb]; exact hdg
  jvm_step X.here [hexec, hdg']
  have hg₂ : (resolveClass (F0 m pc ls (.int r :: .int k :: .int n :: rest)).method.cls index).Gives e.toSetting (T.setTop (F0 m pc ls (.int r :: .int k :: .int n :: rest))).vm (Except.ok cA) vm₁ := hg₁
  simp only [multianewarray.sem, wp_bind', W.resolveClassAt_links (State.method?_setTop (F0 m pc ls (.int r :: .int k :: .int n :: rest)) X.here.top) hg₂]
  rw [W.popN, if_neg (by decide)]
  refine ⟨F0 m pc ls (.int r :: .int k :: .int n :: rest), State.topJava?_setTop' (s := T.setVm vm₁) _ X.here.top, [.int n, .int k, .int r], rest, rfl, rfl, ?_⟩
  simp only [List.mapM_cons, List.mapM_nil, wp_bind', wp_pure']
  refine xg_make3 (k := kA₁) (kc := kB₁) (kc2 := kC₁) (comp := cB) (comp2 := comp2') (cc := cc') (t0 := .array (.array ty)) (t1 := .array ty) (type := ty) hkA₁ hkindA₁ rfl hkB₁ hkindB₁ rfl hkC₁ hkindC₁ hn hk hr hl1 hh1 hl2 hh2 hl3 hh3 hdf hdd (by show T.heap.size + 1 + _ ≤ _; omega) (by show T.slotsUsed + _ + _ ≤ _; omega) (fun d' acts' => ?_)
  have eS : ((T.setTop (F0 m pc ls (.int r :: .int k :: .int n :: rest))).setVm vm₁).setTop (F0 m pc ls rest) = (T.setVm vm₁).setTop (F0 m pc ls rest) := by
    show ((T.setVm vm₁).setTop _).setTop _ = _
    rw [State.setTop_setTop]
  rw [eS, xg_setTop]
  simp only [wp_bind', W.mark, W.pushRef, State.topJava?_setTop' _ XF.here.top, Option.some.injEq, exists_eq_left', State.setTop_setTop, State.heap_setTop]
  intro acts
  simp [jvm, XF.here.top]
  exact hrest
theorem xg_m2 {cc : ByteArray} {pc : Nat} {ls : Array Slot} {rest : List Value} (hexec : p.tables.exec = Jvm.exec) (hb : c.code = cc) {own : String} {index : Nat} {ty : FieldType}
    (hown : s.vm.findClass own = some m.cls) (hclink : (Cond.classLink own index ("[" ++ (FieldType.array ty).toString)).before args s = true)
    (hover : (Cond.arrayOver (.array ty)).before args s = true) (harr : (Cond.arrayClass ty).before args s = true)
    {n k : Int32} (hn : ¬ n < 0) (hk : ¬ k < 0) (hb1 : n.toNatClampNeg * 4 ≤ 536870912) (hb2 : k.toNatClampNeg * componentBytes ty ≤ 536870912) (hb3 : k.toNatClampNeg ≤ 536870912)
    (hdf : fits ty (defaultValue ty) = true) (hdd : (defaultValue ty).isDefault = true)
    (hcells : cells + (1 + n.toNatClampNeg) ≤ R.cells) (hslots : slots + (n.toNatClampNeg + n.toNatClampNeg * k.toNatClampNeg) ≤ R.slots)
    (hdg : decode cc pc = .ok (.multianewarray index 2, 4))
    (kk : ∀ (H1 : Heap) (cA cB : ClassId), H.size ≤ H1.size → (∀ x : Nat, x < H.size → H1[x]? = H[x]?) → s.vm.findClass ("[" ++ (FieldType.array ty).toString) = some cA → s.vm.findClass (FieldType.array ty).toString = some cB →
      H1[H.size]? = some (Jvm.Free.Multi.outerC cA n.toNatClampNeg H.size n.toNatClampNeg) → (∀ j, j < n.toNatClampNeg → H1[H.size + 1 + j]? = some (Jvm.Free.Multi.innerC cB k.toNatClampNeg (defaultValue ty))) →
      W p l e R s m args below meth c H1 locs (cells + 1 + n.toNatClampNeg) (slots + n.toNatClampNeg + n.toNatClampNeg * k.toNatClampNeg) Q (F0 m (pc + 4) ls (.ref H.size :: rest))) :
    W p l e R s m args below meth c H locs cells slots Q (F0 m pc ls (.int k :: .int n :: rest)) := by
  intro T hT Xs
  obtain ⟨vm₁, cA, comp, -, fA, fC, hO, -, X', step⟩ := Xs.multianewarray2F hexec hown hclink hover harr (g := F0 m pc ls (.int k :: .int n :: rest)) rfl (by rw [hb]; exact hdg) rfl hn hk hb1 hb2 hb3 hdf hdd hcells hslots
  generalize hF : Jvm.Free.Multi.fill (T.setVm vm₁) cA comp n.toNatClampNeg k.toNatClampNeg (defaultValue ty) n.toNatClampNeg = F at X' step
  have hTh : (T.setVm vm₁).heap = H := hT
  obtain ⟨f1, f2, -, -⟩ := Jvm.Free.Multi.fill_facts (T.setVm vm₁) cA comp n.toNatClampNeg k.toNatClampNeg (defaultValue ty) n.toNatClampNeg
  rw [hF, hTh] at f1 f2
  have hold : ∀ x : Nat, x < H.size → F.heap[x]? = H[x]? := fun x hx => by
    have := Jvm.Free.Multi.fill_old (T.setVm vm₁) cA comp n.toNatClampNeg k.toNatClampNeg (defaultValue ty) (a := x) (by rw [hTh]; exact hx) n.toNatClampNeg
    rw [hF, hTh] at this
    exact this
  have hrow : ∀ j : Nat, j < n.toNatClampNeg → F.heap[H.size + 1 + j]? = some (Jvm.Free.Multi.innerC comp k.toNatClampNeg (defaultValue ty)) := fun j hj => by
    have := Jvm.Free.Multi.fill_inner (T.setVm vm₁) cA comp n.toNatClampNeg k.toNatClampNeg (defaultValue ty) n.toNatClampNeg j hj
    rw [hF, hTh] at this
    exact this
  obtain ⟨t, a1, b1⟩ := kk F.heap cA comp (by rw [f1]; omega) hold fA fC f2 hrow F rfl X'
  have hTh2 : T.heap = H := hT
  rw [← hTh2] at a1
  exact ⟨t, step t a1, b1⟩
end
end XG
