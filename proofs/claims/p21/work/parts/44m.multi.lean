/-! new int[n][2][3] and new int[n][7]: arrays of arrays, made at once -/
section ZM3
/-- the outer array, when i inner ones of M rows each are made -/
def zo3 (c : ClassId) (N h0 M : Nat) : Nat → Cell
  | 0 => { cls := c, slots := Array.replicate N .null, vm := .none }
  | i + 1 => (zo3 c N h0 M i).setSlot i (.ref (h0 + 1 + (1 + M) * i))
def zf3 (s : State) (c c2 comp : ClassId) (N M K : Nat) (dv : Value) : Nat → State
  | 0 => s.pushCell (zo3 c N s.heap.size M 0)
  | i + 1 => (Jvm.Free.Multi.fill (zf3 s c c2 comp N M K dv i) c2 comp M K dv M).setCell s.heap.size (zo3 c N s.heap.size M (i + 1))
theorem zo3_facts (c : ClassId) (N h0 M : Nat) : ∀ i, (zo3 c N h0 M i).cls = c ∧ (zo3 c N h0 M i).vm = .none ∧ (zo3 c N h0 M i).slots.size = N
  | 0 => ⟨rfl, rfl, by simp [zo3]⟩
  | i + 1 => by
    obtain ⟨a, b, d⟩ := zo3_facts c N h0 M i
    exact ⟨by simp [zo3, Cell.setSlot, a], by simp [zo3, Cell.setSlot, b], by simp [zo3, Cell.setSlot, d]⟩
theorem zf3_facts (s : State) (c c2 comp : ClassId) (N M K : Nat) (dv : Value) : ∀ i, (zf3 s c c2 comp N M K dv i).heap.size = s.heap.size + 1 + (1 + M) * i ∧ (zf3 s c c2 comp N M K dv i).heap[s.heap.size]? = some (zo3 c N s.heap.size M i) ∧
    (zf3 s c c2 comp N M K dv i).vm = s.vm ∧ (zf3 s c c2 comp N M K dv i).slotsUsed = s.slotsUsed + N + i * (M + M * K)
  | 0 => ⟨by simp [zf3], by simp [zf3], rfl, by simp [zf3, zo3]⟩
  | i + 1 => by
    obtain ⟨a, b, d, u⟩ := zf3_facts s c c2 comp N M K dv i
    obtain ⟨a2, b2, d2, u2⟩ := Jvm.Free.Multi.fill_facts (zf3 s c c2 comp N M K dv i) c2 comp M K dv M
    have hlt : s.heap.size < (zf3 s c c2 comp N M K dv i).heap.size := by rw [a]; omega
    have hb' : (Jvm.Free.Multi.fill (zf3 s c c2 comp N M K dv i) c2 comp M K dv M).heap[s.heap.size]? = some (zo3 c N s.heap.size M i) := by rw [Jvm.Free.Multi.fill_old _ _ _ _ _ _ hlt]; exact b
    refine ⟨?_, State.heap_setCell_self hb', by simp [zf3, d2, d], ?_⟩
    · simp [zf3, State.setCell, a2, a, Nat.mul_succ]; omega
    · simp [zf3, u2, u, Nat.succ_mul]; omega
theorem zf3_setTop (s : State) (f : JFrame) (c c2 comp : ClassId) (N M K : Nat) (dv : Value) : ∀ i, zf3 (s.setTop f) c c2 comp N M K dv i = (zf3 s c c2 comp N M K dv i).setTop f
  | 0 => rfl
  | i + 1 => by simp only [zf3, zf3_setTop s f c c2 comp N M K dv i, Jvm.Free.Multi.fill_setTop, State.heap_setTop, State.setCell_setTop]
theorem zf3_old (s : State) (c c2 comp : ClassId) (N M K : Nat) (dv : Value) {a : Addr} (ha : a < s.heap.size) : ∀ i, (zf3 s c c2 comp N M K dv i).heap[a]? = s.heap[a]?
  | 0 => State.heap_pushCell_of_lt _ _ ha
  | i + 1 => by
    have f1 := (zf3_facts s c c2 comp N M K dv i).1
    have hlt : a < (zf3 s c c2 comp N M K dv i).heap.size := Nat.lt_of_lt_of_le ha (by rw [f1]; omega)
    show ((Jvm.Free.Multi.fill (zf3 s c c2 comp N M K dv i) c2 comp M K dv M).setCell s.heap.size _).heap[a]? = _
    rw [State.heap_setCell_other (Nat.ne_of_gt ha), Jvm.Free.Multi.fill_old _ _ _ _ _ _ hlt]
    exact zf3_old s c c2 comp N M K dv ha i
/-- what was made stays: the i-th inner array, and its rows -/
theorem zf3_in (s : State) (c c2 comp : ClassId) (N M K : Nat) (dv : Value) : ∀ i j, j < i → (zf3 s c c2 comp N M K dv i).heap[s.heap.size + 1 + (1 + M) * j]? = some (Jvm.Free.Multi.outerC c2 M (s.heap.size + 1 + (1 + M) * j) M) ∧
    ∀ r, r < M → (zf3 s c c2 comp N M K dv i).heap[s.heap.size + 1 + (1 + M) * j + 1 + r]? = some (Jvm.Free.Multi.innerC comp K dv)
  | 0, _, h => absurd h (Nat.not_lt_zero _)
  | i + 1, j, h => by
    have f1 := (zf3_facts s c c2 comp N M K dv i).1
    obtain ⟨a2, b2, -, -⟩ := Jvm.Free.Multi.fill_facts (zf3 s c c2 comp N M K dv i) c2 comp M K dv M
    have hne : ∀ q, s.heap.size < q → ((Jvm.Free.Multi.fill (zf3 s c c2 comp N M K dv i) c2 comp M K dv M).setCell s.heap.size (zo3 c N s.heap.size M (i + 1))).heap[q]? = (Jvm.Free.Multi.fill (zf3 s c c2 comp N M K dv i) c2 comp M K dv M).heap[q]? := fun q hq => State.heap_setCell_other (Nat.ne_of_lt hq)
    rcases Nat.lt_or_ge j i with hj | hj
    · obtain ⟨g1, g2⟩ := zf3_in s c c2 comp N M K dv i j hj
      have hm : (1 + M) * j + (1 + M) ≤ (1 + M) * i := by
        have := Nat.mul_le_mul_left (1 + M) (show j + 1 ≤ i from hj)
        rw [Nat.mul_succ] at this; exact this
      refine ⟨?_, fun r hr => ?_⟩
      · rw [show zf3 s c c2 comp N M K dv (i + 1) = (Jvm.Free.Multi.fill (zf3 s c c2 comp N M K dv i) c2 comp M K dv M).setCell s.heap.size (zo3 c N s.heap.size M (i + 1)) from rfl, hne (s.heap.size + 1 + (1 + M) * j) (by omega), Jvm.Free.Multi.fill_old _ _ _ _ _ _ (show s.heap.size + 1 + (1 + M) * j < (zf3 s c c2 comp N M K dv i).heap.size by rw [f1]; omega)]
        exact g1
      · rw [show zf3 s c c2 comp N M K dv (i + 1) = (Jvm.Free.Multi.fill (zf3 s c c2 comp N M K dv i) c2 comp M K dv M).setCell s.heap.size (zo3 c N s.heap.size M (i + 1)) from rfl, hne (s.heap.size + 1 + (1 + M) * j + 1 + r) (by omega), Jvm.Free.Multi.fill_old _ _ _ _ _ _ (show s.heap.size + 1 + (1 + M) * j + 1 + r < (zf3 s c c2 comp N M K dv i).heap.size by rw [f1]; omega)]
        exact g2 r hr
    · have e : j = i := by omega
      subst e
      rw [← f1]
      refine ⟨?_, fun r hr => ?_⟩
      · rw [show zf3 s c c2 comp N M K dv (j + 1) = (Jvm.Free.Multi.fill (zf3 s c c2 comp N M K dv j) c2 comp M K dv M).setCell s.heap.size (zo3 c N s.heap.size M (j + 1)) from rfl, hne _ (by rw [f1]; omega)]
        exact b2
      · rw [show zf3 s c c2 comp N M K dv (j + 1) = (Jvm.Free.Multi.fill (zf3 s c c2 comp N M K dv j) c2 comp M K dv M).setCell s.heap.size (zo3 c N s.heap.size M (j + 1)) from rfl, hne _ (by rw [f1]; omega)]
        exact Jvm.Free.Multi.fill_inner _ _ _ _ _ _ M r hr
end ZM3
section ZM3W
variable {E : CtlPost} {e : Env} {d : Bool} {acts : List Action} {s : State}
set_option maxHeartbeats 4000000 in
theorem zwp_make3 {c c2 comp cc : ClassId} {k k2 kc : Class} {t0 t1 type : FieldType} {n m o : Int32} (hk : s.vm.classes[c]? = some k) (hkind : k.kind = .array c2 t0) (href : t0.isReference = true) (hk2 : s.vm.classes[c2]? = some k2) (hkind2 : k2.kind = .array comp t1) (href1 : t1.isReference = true)
    (hkc : s.vm.classes[comp]? = some kc) (hkindc : kc.kind = .array cc type) (hn : ¬ n < 0) (hm : ¬ m < 0) (ho : ¬ o < 0)
    (hl0 : ¬ n.toNatClampNeg > e.platform.arrayLengthLimit) (hh0 : ¬ n.toNatClampNeg * componentBytes t0 > e.platform.maxHeapBytes)
    (hl1 : ¬ m.toNatClampNeg > e.platform.arrayLengthLimit) (hh1 : ¬ m.toNatClampNeg * componentBytes t1 > e.platform.maxHeapBytes)
    (hl2 : ¬ o.toNatClampNeg > e.platform.arrayLengthLimit) (hh2 : ¬ o.toNatClampNeg * componentBytes type > e.platform.maxHeapBytes)
    (hdf : fits type (defaultValue type) = true) (hdd : (defaultValue type).isDefault = true)
    (hc : s.heap.size + 1 + (1 + m.toNatClampNeg) * n.toNatClampNeg ≤ e.platform.maxCells) (hs : s.slotsUsed + n.toNatClampNeg + n.toNatClampNeg * (m.toNatClampNeg + m.toNatClampNeg * o.toNatClampNeg) ≤ e.platform.maxSlots)
    {Q : Addr → Pre} (hq : ∀ d' acts', Q s.heap.size d' acts' (zf3 s c c2 comp n.toNatClampNeg m.toNatClampNeg o.toNatClampNeg (defaultValue type) n.toNatClampNeg)) :
    wp (multianewarray.make c [n, m, o]) Q E e d acts s := by
  generalize hN : n.toNatClampNeg = N at hl0 hh0 hc hs hq
  generalize hM : m.toNatClampNeg = M at hl1 hh1 hc hs hq
  have hfind : ([m, o].find? (· < 0)) = none := by simp [hm, ho]
  rw [multianewarray.make]
  simp only [wp_bind', W.ite, hn, if_false, wp_pure', W.theClass, hk, hkind, Option.some.injEq, exists_eq_left', hN]
  refine Jvm.Free.Multi.wp_newArray hk hkind hl0 hh0 (Jvm.Free.Multi.refFits href _ (Or.inl rfl)) rfl (by omega) (by have := Nat.zero_le (N * (M + M * o.toNatClampNeg)); omega) ?_
  simp only [hfind]
  rw [ite_self, wp_bind', Std.Legacy.Range.forIn_eq_forIn_range']
  have hsz : ([:N] : Std.Legacy.Range).size = N := by simp [Std.Legacy.Range.size]
  rw [hsz]
  show wp (forIn (List.range' 0 N 1) PUnit.unit _) _ E e d acts _
  refine wp_forIn_inv (fun rest s' => ∃ i, i ≤ N ∧ rest = List.range' i (N - i) ∧ s' = zf3 s c c2 comp N M o.toNatClampNeg (defaultValue type) i) _ _ ⟨0, Nat.zero_le _, rfl, rfl⟩ ?_ ?_
  · rintro x rest s' d' acts' Q' ⟨i, hi, hl, rfl⟩ hnext
    have hlt : i < N := by
      rcases Nat.lt_or_ge i N with h | h
      · exact h
      · rw [show N - i = 0 from by omega] at hl; simp at hl
    obtain ⟨rfl, hrest⟩ : x = i ∧ rest = List.range' (i + 1) (N - (i + 1)) := by
      rw [show N - i = (N - (i + 1)) + 1 from by omega, List.range'_succ] at hl
      exact ⟨(List.cons.inj hl).1, (List.cons.inj hl).2⟩
    obtain ⟨f1, f2, f3, f4⟩ := zf3_facts s c c2 comp N M o.toNatClampNeg (defaultValue type) x
    obtain ⟨o1, o2, o3⟩ := zo3_facts c N s.heap.size M x
    have hmul : x * (M + M * o.toNatClampNeg) + (M + M * o.toNatClampNeg) ≤ N * (M + M * o.toNatClampNeg) := by
      have := Nat.mul_le_mul_right (M + M * o.toNatClampNeg) (show x + 1 ≤ N from hlt)
      rw [Nat.succ_mul] at this; exact this
    have hmulc : (1 + M) * x + (1 + M) ≤ (1 + M) * N := by
      have := Nat.mul_le_mul_left (1 + M) (show x + 1 ≤ N from hlt)
      rw [Nat.mul_succ] at this; exact this
    simp only [wp_bind']
    refine Jvm.Free.Multi.wp_make2 (k := k2) (kc := kc) (t0 := t1) (by rw [f3]; exact hk2) hkind2 href1 (by rw [f3]; exact hkc) hkindc hm ho (by rw [hM]; exact hl1) (by rw [hM]; exact hh1) hl2 hh2 hdf hdd (by rw [f1, hM]; omega) (by rw [f4, hM]; omega) (fun d2 acts2 => ?_)
    rw [hM]
    have hlt0 : s.heap.size < (zf3 s c c2 comp N M o.toNatClampNeg (defaultValue type) x).heap.size := by rw [f1]; omega
    simp only [wp_bind', W.writeLoc, wp_pure']
    obtain ⟨-, -, g3, -⟩ := Jvm.Free.Multi.fill_facts (zf3 s c c2 comp N M o.toNatClampNeg (defaultValue type) x) c2 comp M o.toNatClampNeg (defaultValue type) M
    refine ⟨zo3 c N s.heap.size M x, by rw [Jvm.Free.Multi.fill_old _ _ _ _ _ _ hlt0]; exact f2, by rw [o2]; simp, by rw [o3]; exact hlt, ?_, hnext _ _ _ ⟨x + 1, hlt, hrest, ?_⟩⟩
    · rw [o1, o2]
      simp [State.fitsSlot, State.slotType?, g3, f3, hk, hkind, Jvm.Free.Multi.refFits href _ (Or.inr ⟨_, rfl⟩)]
    · rw [f1]; rfl
  · rintro s' d' acts' ⟨i, hi, hl, rfl⟩
    have hiN : i = N := by
      rcases Nat.lt_or_ge i N with h | h
      · rw [show N - i = (N - (i + 1)) + 1 from by omega, List.range'_succ] at hl; cases hl
      · omega
    subst hiN
    simp only [wp_pure']
    exact hq _ _
end ZM3W
section ZM3S
variable {p : Program} {l : Launch} {e : Env} {R : Room} {s : State} {m : MethodId} {args : Array Value} {below : List Frame} {meth : Method} {c : Code} {T : State} {locs : List Loc} {cells slots : Nat}
theorem zst_filled3 (X : Stand p l e R s m args below meth c T locs cells slots) (cA c2 comp : ClassId) (N M K : Nat) (dv : Value) :
    ∀ i, ∃ J : List Loc, (∀ x ∈ J, T.heap.size ≤ x.base) ∧ Stand p l e R s m args below meth c (zf3 T cA c2 comp N M K dv i) (locs ++ J) (cells + 1 + (1 + M) * i) (slots + N + i * (M + M * K))
  | 0 => by
    have h := X.pushed (zo3 cA N T.heap.size M 0)
    rw [(zo3_facts cA N T.heap.size M 0).2.2] at h
    exact ⟨[], fun x hx => absurd hx List.not_mem_nil, by simpa [zf3] using h⟩
  | i + 1 => by
    obtain ⟨J, hJ, Xi⟩ := zst_filled3 X cA c2 comp N M K dv i
    obtain ⟨f1, f2, f3, f4⟩ := zf3_facts T cA c2 comp N M K dv i
    have hlt0 : T.heap.size < (zf3 T cA c2 comp N M K dv i).heap.size := by rw [f1]; omega
    have X2 := Xi.filled c2 comp M K dv M
    have hcell : (Jvm.Free.Multi.fill (zf3 T cA c2 comp N M K dv i) c2 comp M K dv M).heap[T.heap.size]? = some (zo3 cA N T.heap.size M i) := by rw [Jvm.Free.Multi.fill_old _ _ _ _ _ _ hlt0]; exact f2
    have h := X2.stored hcell i (.ref (T.heap.size + 1 + (1 + M) * i))
    refine ⟨J ++ (((List.range M).map fun j => (⟨(zf3 T cA c2 comp N M K dv i).heap.size, j⟩ : Loc)) ++ [⟨T.heap.size, i⟩]), fun x hx => ?_, ?_⟩
    · rcases List.mem_append.mp hx with h1 | h1
      · exact hJ x h1
      · rcases List.mem_append.mp h1 with h2 | h2
        · obtain ⟨j, -, rfl⟩ := List.mem_map.mp h2
          exact Nat.le_of_lt hlt0
        · rw [List.mem_singleton.mp h2]; exact Nat.le_refl _
    · have e1 : cells + 1 + (1 + M) * (i + 1) = cells + 1 + (1 + M) * i + 1 + M := by rw [Nat.mul_succ]; omega
      have e2 : slots + N + (i + 1) * (M + M * K) = slots + N + i * (M + M * K) + M + M * K := by rw [Nat.succ_mul]; omega
      rw [e1, e2]
      have e3 : locs ++ (J ++ (((List.range M).map fun j => (⟨(zf3 T cA c2 comp N M K dv i).heap.size, j⟩ : Loc)) ++ [⟨T.heap.size, i⟩])) = locs ++ J ++ ((List.range M).map fun j => (⟨(zf3 T cA c2 comp N M K dv i).heap.size, j⟩ : Loc)) ++ [⟨T.heap.size, i⟩] := by simp [List.append_assoc]
      rw [e3]
      exact h
set_option maxHeartbeats 4000000 in
theorem zst_multi3 (X : Stand p l e R s m args below meth c T locs cells slots) (hexec : p.tables.exec = Jvm.exec) {own : String} {index : Nat} {ty : FieldType}
    (hown : s.vm.findClass own = some m.cls) (hclink : (Cond.classLink own index ("[" ++ (FieldType.array (.array ty)).toString)).before args s = true)
    (hover : (Cond.arrayOver (.array (.array ty))).before args s = true) (hover2 : (Cond.arrayOver (.array ty)).before args s = true) (harr : (Cond.arrayClass ty).before args s = true) (hnm : (FieldType.array (.array ty)).toString = "[" ++ (FieldType.array ty).toString)
    {g : JFrame} (hg : g.method = m) (hdg : decode c.code g.pc = .ok (.multianewarray index 3, 4)) {n k o : Int32} {rest : List Value} (hstack : g.stack = .int o :: .int k :: .int n :: rest)
    (hn : ¬ n < 0) (hk : ¬ k < 0) (ho : ¬ o < 0) (hb1 : n.toNatClampNeg * 4 ≤ 536870912) (hb2 : k.toNatClampNeg * 4 ≤ 536870912) (hb4 : o.toNatClampNeg * componentBytes ty ≤ 536870912) (hb3 : o.toNatClampNeg ≤ 536870912)
    (hdf : fits ty (defaultValue ty) = true) (hdd : (defaultValue ty).isDefault = true)
    (hcells : cells + (1 + (1 + k.toNatClampNeg) * n.toNatClampNeg) ≤ R.cells) (hslots : slots + (n.toNatClampNeg + n.toNatClampNeg * (k.toNatClampNeg + k.toNatClampNeg * o.toNatClampNeg)) ≤ R.slots) :
    ∃ (vm₁ : Vm) (cA c2 comp : ClassId), s.WarmedH vm₁ ∧ s.vm.findClass ("[" ++ (FieldType.array (.array ty)).toString) = some cA ∧ s.vm.findClass (FieldType.array (.array ty)).toString = some c2 ∧ s.vm.findClass (FieldType.array ty).toString = some comp ∧
      Stand p l e R s m args below meth c (zf3 (T.setVm vm₁) cA c2 comp n.toNatClampNeg k.toNatClampNeg o.toNatClampNeg (defaultValue ty) n.toNatClampNeg) locs (cells + 1 + (1 + k.toNatClampNeg) * n.toNatClampNeg) (slots + n.toNatClampNeg + n.toNatClampNeg * (k.toNatClampNeg + k.toNatClampNeg * o.toNatClampNeg)) ∧
      ∀ target, Steps p.tables e below ((zf3 (T.setVm vm₁) cA c2 comp n.toNatClampNeg k.toNatClampNeg o.toNatClampNeg (defaultValue ty) n.toNatClampNeg).setTop { g with pc := g.pc + 4, stack := .ref T.heap.size :: rest }) target →
        Steps p.tables e below (T.setTop g) target := by
  subst hg
  have hpl : e.platform.magicAccessors = ({} : Platform).magicAccessors := by rw [X.admits.platform]
  obtain ⟨c2, cA, kA, hc2, hkA, hkindA, hnameA⟩ := Cond.arrayOver_specA hover
  obtain ⟨comp, cB, kB, hcomp, hkB, hkindB, hnameB⟩ := Cond.arrayOver_specA hover2
  obtain ⟨comp', kC, cc, hcomp', hkC, hkindC⟩ := Cond.arrayClass_spec harr
  have ecomp : comp' = comp := Option.some.inj (hcomp'.symm.trans hcomp)
  subst ecomp
  have eB : cB = c2 := by rw [hnm] at hc2; exact Option.some.inj (hnameB.symm.trans hc2)
  subst eB
  obtain ⟨c0, hfc0, hcl⟩ := Cond.classLink_spec hown hclink e.platform hpl
  cases hnameA.symm.trans hfc0
  obtain ⟨hg₁, hwarm₁, hready₁⟩ := State.classEntry (e := e) X.warmed hcl
  generalize T.vm.noted g.method.cls index (.cls cA) = vm₁ at hg₁ hwarm₁ hready₁
  have hal : s.vm.Alike vm₁ := hwarm₁.alike
  obtain ⟨kA₁, hkA₁, heA⟩ := hal.2.2 _ _ hkA
  obtain ⟨kB₁, hkB₁, heB⟩ := hal.2.2 _ _ hkB
  obtain ⟨kC₁, hkC₁, heC⟩ := hal.2.2 _ _ hkC
  have hkindA₁ : kA₁.kind = .array cB (.array (.array ty)) := by rw [heA]; exact hkindA
  have hkindB₁ : kB₁.kind = .array comp' (.array ty) := by rw [heB]; exact hkindB
  have hkindC₁ : kC₁.kind = .array cc ty := by rw [heC]; exact hkindC
  have X₁ := X.noted hwarm₁
  obtain ⟨hr1, hr2⟩ := X.roomAbove hcells hslots
  obtain ⟨J, hJ, XF⟩ := zst_filled3 X₁ cA cB comp' n.toNatClampNeg k.toNatClampNeg o.toNatClampNeg (defaultValue ty) n.toNatClampNeg
  refine ⟨vm₁, cA, cB, comp', hwarm₁, hnameA, hc2, hcomp, XF.dropFresh (fun x hx => Nat.le_trans X₁.heapGrown (hJ x hx)), fun target hrest => ?_⟩
  have hl0 : ¬ n.toNatClampNeg > e.platform.arrayLengthLimit := by rw [Launch.admits_arrayLengthLimit X.admits]; omega
  have hh0 : ¬ n.toNatClampNeg * componentBytes (.array (.array ty)) > e.platform.maxHeapBytes := by
    rw [Launch.admits_maxHeapBytes X.admits]; show ¬ n.toNatClampNeg * 4 > 536870912; omega
  have hl1 : ¬ k.toNatClampNeg > e.platform.arrayLengthLimit := by rw [Launch.admits_arrayLengthLimit X.admits]; omega
  have hh1 : ¬ k.toNatClampNeg * componentBytes (.array ty) > e.platform.maxHeapBytes := by
    rw [Launch.admits_maxHeapBytes X.admits]; show ¬ k.toNatClampNeg * 4 > 536870912; omega
  have hl2 : ¬ o.toNatClampNeg > e.platform.arrayLengthLimit := by rw [Launch.admits_arrayLengthLimit X.admits]; omega
  have hh2 : ¬ o.toNatClampNeg * componentBytes ty > e.platform.maxHeapBytes := by rw [Launch.admits_maxHeapBytes X.admits]; omega
  jvm_step X.here [hexec, hdg]
  simp only [multianewarray.sem, wp_bind', W.resolveClassAt_links (State.method?_setTop g X.here.top) hg₁]
  rw [W.popN, if_neg (by decide)]
  refine ⟨g, State.topJava?_setTop' (s := T.setVm vm₁) g X.here.top, [.int n, .int k, .int o], rest, rfl, hstack, ?_⟩
  simp only [List.mapM_cons, List.mapM_nil, wp_bind', wp_pure']
  refine zwp_make3 (k := kA₁) (k2 := kB₁) (kc := kC₁) (t0 := .array (.array ty)) (t1 := .array ty) (type := ty) hkA₁ hkindA₁ rfl hkB₁ hkindB₁ rfl hkC₁ hkindC₁ hn hk ho hl0 hh0 hl1 hh1 hl2 hh2 hdf hdd (by show T.heap.size + 1 + _ ≤ _; omega) (by show T.slotsUsed + _ + _ ≤ _; omega) (fun d' acts' => ?_)
  have eS : ((T.setTop g).setVm vm₁).setTop { g with stack := rest } = (T.setVm vm₁).setTop { g with stack := rest } := by
    show ((T.setVm vm₁).setTop g).setTop _ = _
    rw [State.setTop_setTop]
  rw [eS, zf3_setTop]
  simp only [wp_bind', W.mark, W.pushRef, State.topJava?_setTop' _ XF.here.top, Option.some.injEq, exists_eq_left', State.setTop_setTop, State.heap_setTop]
  intro acts
  simp [jvm, XF.here.top]
  exact hrest
end ZM3S
