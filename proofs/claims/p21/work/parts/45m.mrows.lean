/-! arrays of arrays, as pictures; the rows that make, read and write them -/
def zR2 (q : Nat) : Nat → Nat := fun i => q + 1 + i
def zR3 (q : Nat) : Nat → Nat := fun i => q + 1 + 3 * i
/-- n rows of K numbers -/
def zW2 (D : va_G) (cI cR : ClassId) (q n K : Nat) (F : Nat → Nat → Int32) (H : Heap) : Prop :=
  va_P D vwCl (zQr cR q n (zbf n (zR2 q))) H ∧ ∀ i, i < n → va_P D vwCl (zAr cI (q + 1 + i) K (F i)) H
/-- n times 2 rows of 3 numbers -/
def zW3 (D : va_G) (cI cR cT : ClassId) (q n : Nat) (G : Nat → Nat → Nat → Int32) (H : Heap) : Prop :=
  va_P D vwCl (zQr cT q n (zbf n (zR3 q))) H ∧ ∀ i, i < n → va_P D vwCl (zQr cR (q + 1 + 3 * i) 2 (zbf 2 (zR2 (q + 1 + 3 * i)))) H ∧ ∀ j, j < 2 → va_P D vwCl (zAr cI (q + 1 + 3 * i + 1 + j) 3 (G i j)) H
def zu2 (F : Nat → Nat → Int32) (a b : Nat) (x : Int32) : Nat → Nat → Int32 := fun i => if i = a then upd (F i) b x else F i
def zu3 (G : Nat → Nat → Nat → Int32) (a b d : Nat) (x : Int32) : Nat → Nat → Nat → Int32 := fun i j => if i = a ∧ j = b then upd (G i j) d x else G i j
section ZWW
variable {D : va_G} {cI cR cT : ClassId} {q n K : Nat} {F : Nat → Nat → Int32} {G : Nat → Nat → Nat → Int32} {H H1 : Heap}
theorem zW2_kept (h : zW2 D cI cR q n K F H) (hf : ∀ z, z < H.size → q ≤ z → z < q + 1 + n → H1[z]? = H[z]?) : zW2 D cI cR q n K F H1 :=
  ⟨zQr_kept h.1 (fun z a b c => hf z a (by omega) (by omega)), fun i hi => zAr_kept (h.2 i hi) (fun z a b c => hf z a (by omega) (by omega))⟩
theorem zW3_kept (h : zW3 D cI cR cT q n G H) (hf : ∀ z, z < H.size → q ≤ z → z < q + 1 + 3 * n → H1[z]? = H[z]?) : zW3 D cI cR cT q n G H1 :=
  ⟨zQr_kept h.1 (fun z a b c => hf z a (by omega) (by omega)), fun i hi => ⟨zQr_kept (h.2 i hi).1 (fun z a b c => hf z a (by omega) (by omega)), fun j hj => zAr_kept ((h.2 i hi).2 j hj) (fun z a b c => hf z a (by omega) (by omega))⟩⟩
theorem zW2_set {a b : Nat} {x : Int32} (h : zW2 D cI cR q n K F H) (ha : a < n) (hr : va_P D vwCl (zAr cI (q + 1 + a) K (upd (F a) b x)) H1) (hf : ∀ z, z ≠ q + 1 + a → H1[z]? = H[z]?) : zW2 D cI cR q n K (zu2 F a b x) H1 :=
  ⟨zQr_kept h.1 (fun z _ _ _ => hf z (by omega)), fun i hi => by
    unfold zu2
    by_cases hia : i = a
    · subst hia; rw [if_pos rfl]; exact hr
    · rw [if_neg hia]; exact zAr_kept (h.2 i hi) (fun z _ _ _ => hf z (by omega))⟩
theorem zW3_set {a b d : Nat} {x : Int32} (h : zW3 D cI cR cT q n G H) (ha : a < n) (hb : b < 2) (hr : va_P D vwCl (zAr cI (q + 1 + 3 * a + 1 + b) 3 (upd (G a b) d x)) H1) (hf : ∀ z, z ≠ q + 1 + 3 * a + 1 + b → H1[z]? = H[z]?) : zW3 D cI cR cT q n (zu3 G a b d x) H1 :=
  ⟨zQr_kept h.1 (fun z _ _ _ => hf z (by omega)), fun i hi => ⟨zQr_kept (h.2 i hi).1 (fun z _ _ _ => hf z (by omega)), fun j hj => by
    unfold zu3
    by_cases hia : i = a ∧ j = b
    · obtain ⟨rfl, rfl⟩ := hia; rw [if_pos ⟨rfl, rfl⟩]; exact hr
    · rw [if_neg hia]; exact zAr_kept ((h.2 i hi).2 j hj) (fun z _ _ _ => hf z (by omega))⟩⟩
theorem zu2_s {a b : Nat} {x : Int32} : zu2 F a b x a b = x := by unfold zu2; rw [if_pos rfl]; exact pk_us
theorem zu2_n {a b i j : Nat} {x : Int32} (h : ¬ (i = a ∧ j = b)) : zu2 F a b x i j = F i j := by
  unfold zu2
  by_cases hi : i = a
  · rw [if_pos hi]; exact pk_un (fun hj => h ⟨hi, hj⟩)
  · rw [if_neg hi]
theorem zu3_s {a b d : Nat} {x : Int32} : zu3 G a b d x a b d = x := by unfold zu3; rw [if_pos ⟨rfl, rfl⟩]; exact pk_us
theorem zu3_n {a b d i j v : Nat} {x : Int32} (h : ¬ (i = a ∧ j = b ∧ v = d)) : zu3 G a b d x i j v = G i j v := by
  unfold zu3
  by_cases hi : i = a ∧ j = b
  · rw [if_pos hi]; exact pk_un (fun hj => h ⟨hi.1, hi.2, hj⟩)
  · rw [if_neg hi]
end ZWW
theorem zv_inner (c : ClassId) (K : Nat) : Jvm.Free.Multi.innerC c K (defaultValue .int) = vp_cell c (K, .inl (fun _ => 0)) := by
  rw [vp_cell_i]
  show ({ cls := c, slots := Array.replicate K (.int 0), vm := .none } : Cell) = _
  rw [arrV_new]
theorem zv_outer2 (c : ClassId) (N h : Nat) : Jvm.Free.Multi.outerC c N h N = vp_cell c (N, .inr (.inr (.inr (.inr (zbf N (zR2 h)))))) := by
  rw [vp_cell_q, vr_outer]
  rfl
theorem zv_zo3 (c : ClassId) (N h0 M : Nat) : ∀ i : Nat, zo3 c N h0 M i = arrV c N (fun j => va_rf (if j < i then some (h0 + 1 + (1 + M) * j) else none))
  | 0 => by
    show ({ cls := c, slots := Array.replicate N .null, vm := .none } : Cell) = _
    rw [arrV_new]
    refine congrArg (arrV c N) (funext fun j => ?_)
    simp [va_rf]
  | i + 1 => by
    show (zo3 c N h0 M i).setSlot i (.ref (h0 + 1 + (1 + M) * i)) = _
    rw [zv_zo3 c N h0 M i, arrV_store]
    refine congrArg (arrV c N) (funext fun j => ?_)
    by_cases e : j = i
    · subst e
      simp [updV, va_rf]
    · by_cases h : j < i
      · simp [updV, e, h, Nat.lt_succ_of_lt h]
      · simp [updV, e, h, show ¬ j < i + 1 by omega]
theorem zv_outer3 (c : ClassId) (N h : Nat) : zo3 c N h 2 N = vp_cell c (N, .inr (.inr (.inr (.inr (zbf N (zR3 h)))))) := by
  rw [vp_cell_q, zv_zo3]
  rfl
section ZMR
variable {p : Program} {l : Launch} {e : Env} {R : Room} {s : State} {m : MethodId} {args : Array Value} {below : List Frame} {meth : Method} {c : Code} {H : Heap} {locs : List Loc} {cells slots : Nat} {Q : State → Prop}
variable {pc : Nat} {ls : Array Slot} {rest : List Value} {cc : ByteArray} {D : va_G} {cI cR cT : ClassId}
theorem z_nmR : ("[" ++ (FieldType.array .int).toString) = "[[I" := by decide +kernel
theorem z_nmI : (FieldType.array .int).toString = "[I" := by decide +kernel
theorem z_nmT : ("[" ++ (FieldType.array (.array .int)).toString) = "[[[I" := by decide +kernel
theorem z_nmT2 : (FieldType.array (.array .int)).toString = "[" ++ (FieldType.array .int).toString := by decide +kernel
theorem z_mna2 (hexec : p.tables.exec = Jvm.exec) (hb : c.code = cc) {own : String} {index : Nat} (hown : s.vm.findClass own = some m.cls) (hclink : (Cond.classLink own index "[[I").before args s = true) (hover : (Cond.arrayOver (.array .int)).before args s = true) (harr : (Cond.arrayClass .int).before args s = true)
    (hcI : s.vm.findClass "[I" = some cI) (hcR : s.vm.findClass "[[I" = some cR) {n k : Int32} {N K : Nat} (hn : n = nI N) (hk : k = nI K) (hN : N < 100000) (hK : K < 100000) (hcells : cells + (1 + N) ≤ R.cells) (hslots : slots + (N + N * K) ≤ R.slots) (hdg : decode cc pc = .ok (.multianewarray index 2, 4)) {h : Nat} (hh : H.size = h)
    (kk : ∀ H1 : Heap, zW2 D cI cR h N K (fun _ _ => 0) H1 → H1.size = h + 1 + N → (∀ q, q < h → H1[q]? = H[q]?) → W p l e R s m args below meth c H1 locs (cells + 1 + N) (slots + N + N * K) Q (F0 m (pc + 4) ls (.ref h :: rest))) : W p l e R s m args below meth c H locs cells slots Q (F0 m pc ls (.int k :: .int n :: rest)) := by
  subst hn; subst hk; subst hh
  have e1 : (nI N).toNatClampNeg = N := nI_clamp (by omega)
  have e2 : (nI K).toNatClampNeg = K := nI_clamp (by omega)
  intro T hT Xs
  obtain ⟨vm₁, cA, comp, -, fA, fC, hO, -, X', step⟩ := Xs.multianewarray2F hexec (ty := .int) hown (by rw [z_nmR]; exact hclink) hover harr (g := F0 m pc ls (.int (nI K) :: .int (nI N) :: rest)) rfl (by rw [hb]; exact hdg) rfl (nI_pos (by omega)) (nI_pos (by omega)) (by rw [e1]; omega) (by rw [e2]; show K * 4 ≤ _; omega) (by rw [e2]; omega) rfl rfl (by rw [e1]; exact hcells) (by rw [e1, e2]; exact hslots)
  have hA : cA = cR := by rw [z_nmR] at fA; exact Option.some.inj (fA.symm.trans hcR)
  have hC : comp = cI := by rw [z_nmI] at fC; exact Option.some.inj (fC.symm.trans hcI)
  subst hA; subst hC
  rw [e1, e2] at X' step
  have hTh : (T.setVm vm₁).heap = H := hT
  obtain ⟨f1, f2, -, -⟩ := Jvm.Free.Multi.fill_facts (T.setVm vm₁) cA comp N K (defaultValue .int) N
  have hold : ∀ x : Nat, x < H.size → (Jvm.Free.Multi.fill (T.setVm vm₁) cA comp N K (defaultValue .int) N).heap[x]? = H[x]? := fun x hx => by
    have h9 := Jvm.Free.Multi.fill_old (T.setVm vm₁) cA comp N K (defaultValue .int) (a := x) (by rw [hTh]; exact hx) N
    rw [h9, hTh]
  have hrow : ∀ j : Nat, j < N → (Jvm.Free.Multi.fill (T.setVm vm₁) cA comp N K (defaultValue .int) N).heap[H.size + 1 + j]? = some (vp_cell comp (K, .inl (fun _ => 0))) := fun j hj => by
    have h9 := Jvm.Free.Multi.fill_inner (T.setVm vm₁) cA comp N K (defaultValue .int) N j hj
    rw [hTh, zv_inner] at h9
    exact h9
  rw [hTh] at f1 f2
  rw [zv_outer2] at f2
  obtain ⟨t, a1, b1⟩ := kk (Jvm.Free.Multi.fill (T.setVm vm₁) cA comp N K (defaultValue .int) N).heap ⟨z_one f2, fun i hi => z_one (hrow i hi)⟩ f1 hold _ rfl X'
  refine ⟨t, step t ?_, b1⟩
  have e9 : T.heap.size = H.size := by rw [hT]
  rw [e9]
  exact a1
theorem z_mna3 (hexec : p.tables.exec = Jvm.exec) (hb : c.code = cc) {own : String} {index : Nat} (hown : s.vm.findClass own = some m.cls) (hclink : (Cond.classLink own index "[[[I").before args s = true) (hover : (Cond.arrayOver (.array (.array .int))).before args s = true) (hover2 : (Cond.arrayOver (.array .int)).before args s = true) (harr : (Cond.arrayClass .int).before args s = true)
    (hcI : s.vm.findClass "[I" = some cI) (hcR : s.vm.findClass "[[I" = some cR) (hcT : s.vm.findClass "[[[I" = some cT) {n : Int32} {N : Nat} (hn : n = nI N) (hN : N < 100000) (hcells : cells + (1 + 3 * N) ≤ R.cells) (hslots : slots + (N + N * 8) ≤ R.slots) (hdg : decode cc pc = .ok (.multianewarray index 3, 4)) {h : Nat} (hh : H.size = h)
    (kk : ∀ H1 : Heap, zW3 D cI cR cT h N (fun _ _ _ => 0) H1 → H1.size = h + 1 + 3 * N → (∀ q, q < h → H1[q]? = H[q]?) → W p l e R s m args below meth c H1 locs (cells + 1 + 3 * N) (slots + N + N * 8) Q (F0 m (pc + 4) ls (.ref h :: rest))) : W p l e R s m args below meth c H locs cells slots Q (F0 m pc ls (.int 3 :: .int 2 :: .int n :: rest)) := by
  subst hn; subst hh
  have e1 : (nI N).toNatClampNeg = N := nI_clamp (by omega)
  have e2 : (2 : Int32).toNatClampNeg = 2 := by decide
  have e3 : (3 : Int32).toNatClampNeg = 3 := by decide
  intro T hT Xs
  obtain ⟨vm₁, cA, c2, comp, -, fA, fB, fC, X', step⟩ := zst_multi3 Xs hexec (ty := .int) hown (by rw [z_nmT]; exact hclink) hover hover2 harr z_nmT2 (g := F0 m pc ls (.int 3 :: .int 2 :: .int (nI N) :: rest)) rfl (by rw [hb]; exact hdg) rfl (nI_pos (by omega)) (by decide) (by decide) (by rw [e1]; omega) (by decide) (by decide) (by decide) rfl rfl (by rw [e1, e2]; exact hcells) (by rw [e1, e2, e3]; exact hslots)
  have hA : cA = cT := by rw [z_nmT] at fA; exact Option.some.inj (fA.symm.trans hcT)
  have hB : c2 = cR := by rw [z_nmT2, z_nmR] at fB; exact Option.some.inj (fB.symm.trans hcR)
  have hC : comp = cI := by rw [z_nmI] at fC; exact Option.some.inj (fC.symm.trans hcI)
  subst hA; subst hB; subst hC
  rw [e1, e2, e3] at X' step
  have hTh : (T.setVm vm₁).heap = H := hT
  obtain ⟨f1, f2, -, -⟩ := zf3_facts (T.setVm vm₁) cA c2 comp N 2 3 (defaultValue .int) N
  have hold : ∀ x : Nat, x < H.size → (zf3 (T.setVm vm₁) cA c2 comp N 2 3 (defaultValue .int) N).heap[x]? = H[x]? := fun x hx => by
    have h9 := zf3_old (T.setVm vm₁) cA c2 comp N 2 3 (defaultValue .int) (a := x) (by rw [hTh]; exact hx) N
    rw [h9, hTh]
  have hin := zf3_in (T.setVm vm₁) cA c2 comp N 2 3 (defaultValue .int) N
  rw [hTh] at f1 f2 hin
  rw [zv_outer3] at f2
  obtain ⟨t, a1, b1⟩ := kk (zf3 (T.setVm vm₁) cA c2 comp N 2 3 (defaultValue .int) N).heap ⟨z_one f2, fun i hi => by
      obtain ⟨g1, g2⟩ := hin i hi
      rw [zv_outer2] at g1
      exact ⟨z_one g1, fun j hj => z_one (by
        have g3 := g2 j hj
        rw [zv_inner] at g3
        exact g3)⟩⟩ f1 hold _ rfl X'
  refine ⟨t, step t ?_, b1⟩
  have e9 : T.heap.size = H.size := by rw [hT]
  rw [e9]
  exact a1
end ZMR
