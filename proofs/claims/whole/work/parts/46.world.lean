/-! what the tables' words give at the law's entry -/
theorem zEw_in : ∀ w ∈ zEw, w ∈ lw_tbl := by decide +kernel
theorem zStr_in : ∀ q ∈ zStr, Cond.stringRef RX4 q.1 q.2 ∈ lw_tbl := by decide +kernel
theorem zin_X0 : ∀ w ∈ wsX00, w ∈ lw_tbl := by decide +kernel
theorem zin_X1 : ∀ w ∈ wsX10, w ∈ lw_tbl := by decide +kernel
theorem zin_X2 : ∀ w ∈ wsX20, w ∈ lw_tbl := by decide +kernel
theorem zin_X3 : ∀ w ∈ wsX30, w ∈ lw_tbl := by decide +kernel
theorem zin_X4 : ∀ w ∈ wsX40, w ∈ lw_tbl := by decide +kernel
theorem zin_X5 : ∀ w ∈ wsX50, w ∈ lw_tbl := by decide +kernel
theorem z_arrK {args : Array Value} {s : State} {ty : FieldType} (h : (Cond.arrayClass ty).before args s = true) : ∃ cA, ArrOfT s cA ty ∧ s.vm.findClass ("[" ++ ty.toString) = some cA := by
  obtain ⟨c, k, comp, h1, h2, h3⟩ := Cond.arrayClass_spec h
  exact ⟨c, fun n z => ⟨fun k h => (by cases h), k, h2, comp, h3⟩, h1⟩
theorem z_arrR {args : Array Value} {s : State} (h : (Cond.arrayOver (.array .int)).before args s = true) : ∃ cA, ArrOfT s cA (.array .int) ∧ s.vm.findClass ("[" ++ (FieldType.array .int).toString) = some cA := by
  obtain ⟨comp, cA, kA, hcomp, hidx, hkA, hkind, hname⟩ := arrayOverA_spec h
  exact ⟨cA, fun n z => ⟨fun k h => (by cases h), kA, hkA, comp, hkind⟩, hname⟩
theorem zE_of {A : Array Value} {s : State} (hts : ∀ w ∈ lw_tbl, w.before A s = true) (hgv : (Jvm.Cond.and given_1 narrow_1).before A s = true) {cur : ClassId} (hcur : s.vm.findClass RX4 = some cur) : zE s.heap.size s := by
  have hq := flat_of_before _ hgv
  refine ⟨fun w hw => va_tabs (zEw_ok w hw).1 rfl (hts w (zEw_in w hw)), fun q hq2 => ?_, fun q hq2 => ?_, ?_, ?_⟩
  · obtain ⟨k, cf, i, a, -, -, -, -, -, h⟩ := Cond.stringRef_spec hcur (hts (.stringRef RX4 q.1 q.2) (zStr_in q hq2))
    exact ⟨a, vk_R.of (hts _ (zStr_in q hq2)) h⟩
  · rcases List.mem_cons.mp hq2 with rfl | hq2
    · exact va_Nc.of (hq (Cond.not (.castable zIA zIS)) (by decide +kernel))
    rcases List.mem_cons.mp hq2 with rfl | hq2
    · exact va_Nc.of (hq (Cond.not (.castable zIA zIO)) (by decide +kernel))
    rcases List.mem_cons.mp hq2 with rfl | hq2
    · exact va_Nc.of (hq (Cond.not (.castable zIS zIA)) (by decide +kernel))
    rcases List.mem_cons.mp hq2 with rfl | hq2
    · exact va_Nc.of (hq (Cond.not (.castable zIS zIO)) (by decide +kernel))
    rcases List.mem_cons.mp hq2 with rfl | hq2
    · exact va_Nc.of (hq (Cond.not (.castable zIO zIA)) (by decide +kernel))
    rcases List.mem_cons.mp hq2 with rfl | hq2
    · exact va_Nc.of (hq (Cond.not (.castable zIO zIS)) (by decide +kernel))
    · exact absurd hq2 List.not_mem_nil
  · exact vx_Zqof (hts (.laysStatic Bundle.tN "UNASSIGNED_STACK" Bundle.steD) (by decide +kernel)) (hts (.initialized Bundle.tN) (by decide +kernel)) (hq (.isRef (.static Bundle.tN "UNASSIGNED_STACK" Bundle.steD)) (by decide +kernel)) (fun a h => Nat.not_le.mpr h)
  · exact vx_Zqof (hts (.laysStatic Bundle.tN "SUPPRESSED_SENTINEL" Bundle.listD) (by decide +kernel)) (hts (.initialized Bundle.tN) (by decide +kernel)) (hq (.isRef (.static Bundle.tN "SUPPRESSED_SENTINEL" Bundle.listD)) (by decide +kernel)) (fun a h => Nat.not_le.mpr h)
