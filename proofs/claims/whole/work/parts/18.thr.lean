/-! what throws: the words and texts that a throw needs, kept through a run; rows for throws and for calls that throw -/
abbrev zIA : String := "java/lang/IllegalArgumentException"
abbrev zIS : String := "java/lang/IllegalStateException"
abbrev zIO : String := "java/lang/IndexOutOfBoundsException"
abbrev zSup : List String := ["java/lang/RuntimeException", "java/lang/Exception"]
def zEw : List Cond := vx_atS RX4 37 zIA zSup ++ (vx_atS RX4 52 zIS zSup ++ vx_atS RX4 110 zIO zSup)
def zStr : List (Nat × String) := [(35, "memory is not 1 to 9"), (50, "there are 12 parrots"), (64, "a parrot does not listen to itself"), (77, "the parrot listens to 4"), (91, "sure is not 0 to 9"), (108, "there is no such place"), (170, "there is no such parrot"), (172, "there is no such what"), (174, "loud is not 1 to 5"), (176, "word is not 0 to 9999"), (178, "rounds are too few or too many")]
def zPairs : List (String × String) := [(zIA, zIS), (zIA, zIO), (zIS, zIA), (zIS, zIO), (zIO, zIA), (zIO, zIS)]
theorem zEw_ok : ∀ w ∈ zEw, w.onTables = true ∧ w.keepsFace = true := by decide +kernel
def zE (B0 : Nat) (U : State) : Prop :=
  (∀ w ∈ zEw, w.before #[] U = true) ∧ (∀ q ∈ zStr, ∃ a, vk_R RX4 q.1 q.2 a U) ∧ (∀ q ∈ zPairs, va_Nc q.1 q.2 U) ∧
  vx_Zq Bundle.tN "UNASSIGNED_STACK" Bundle.steD (fun q => B0 ≤ q) U U.heap ∧ vx_Zq Bundle.tN "SUPPRESSED_SENTINEL" Bundle.listD (fun q => B0 ≤ q) U U.heap
theorem zNc_moved {C T : String} {u U : State} (hvm : u.vm.Alike U.vm) (h : va_Nc C T u) : va_Nc C T U := by
  obtain ⟨c, t, h1, h2, h3⟩ := h
  exact ⟨c, t, by rw [hvm.findClass]; exact h1, by rw [hvm.findClass]; exact h2, by rw [hvm.assignable]; exact h3⟩
theorem zE.warm {B0 : Nat} {s U : State} (h : zE B0 s) (hW : s.WarmedH U.vm) (hk : ∀ q : Nat, q < s.heap.size → ¬ B0 ≤ q → U.heap[q]? = s.heap[q]?) : zE B0 U := by
  obtain ⟨h1, h2, h3, h4, h5⟩ := h
  refine ⟨fun w hw => ?_, fun q hq => ?_, fun q hq => zNc_moved hW.alike (h3 q hq), (h4.moved hW.alike).kept hk, (h5.moved hW.alike).kept hk⟩
  · have h6 : w.before #[] (s.setVm U.vm) = true := Cond.before_shiftedFace (State.Shifted.of_warmed hW) w (zEw_ok w hw).2 (h1 w hw)
    exact va_tabs (zEw_ok w hw).1 (rfl : (s.setVm U.vm).vm = U.vm) h6
  · obtain ⟨a, ha⟩ := h2 q hq
    exact ⟨a, ha.warm hW⟩
theorem zE.same {B0 : Nat} {s U : State} (h : zE B0 s) (hv : s.vm = U.vm) (hh : U.heap = s.heap) : zE B0 U := by
  obtain ⟨h1, h2, h3, h4, h5⟩ := h
  have ha : s.vm.Alike U.vm := by rw [hv]; exact Vm.Alike.refl _
  refine ⟨fun w hw => va_tabs (zEw_ok w hw).1 hv (h1 w hw), fun q hq => ?_, fun q hq => zNc_moved ha (h3 q hq), ?_, ?_⟩
  · obtain ⟨a, hq2⟩ := h2 q hq
    exact ⟨a, vk_R.same hv.symm hq2⟩
  · rw [hh]; exact h4.moved ha
  · rw [hh]; exact h5.moved ha
def zPx (D : va_G) (tys : List (ClassId × FieldType)) (H : Heap) (B0 : Nat) (av : List Value) : Array Value → State → Prop := va_Pc av (fun U => U.heap = H ∧ va_K D vwCl tys U ∧ zE B0 U)
theorem zPx_blind {D : va_G} {tys : List (ClassId × FieldType)} {H : Heap} {B0 : Nat} {av : List Value} : FrameBlind (zPx D tys H B0 av) := by
  intro a U g mk h
  obtain ⟨h1, h2, h3, h4⟩ := h
  exact ⟨h1, h2, va_K.moved (u := U) (U := U.calling g mk a) (Vm.Alike.refl U.vm) h3, h4.same rfl rfl⟩
/-- thrown: the heap's old cells stay -/
def zX (P : String → Prop) (H : Heap) : String → State → State → Prop := fun E _ t => P E ∧ H.size ≤ t.heap.size ∧ ∀ q : Nat, q < H.size → t.heap[q]? = H[q]?
/-- never returns -/
def zNo : Array Value → State → Outcome → State → Prop := fun _ _ _ _ => False
theorem z_xenter {l : Launch} {y : MethodName} {ws ws' : List Cond} {rm : Room} {D : va_G} {tys : List (ClassId × FieldType)} {H : Heap} {B0 : Nat} {av : List Value} {Qc : Array Value → State → Outcome → State → Prop} {XC : String → State → State → Prop} {mc ms : Nat} {free : Addr → Prop} {cc : ByteArray} {maxL : Nat} {ret : Option FieldType}
    (hy : plainName y.cls = true) (hw : ws = Cond.code y cc maxL ret :: ws') (hlen : (lg_sl av).length ≤ maxL)
    (body : ∀ (p : Program) (e : Env) (s : State) (m : MethodId) (args : Array Value) (below : List Frame) (meth : Method) (c : Code), CallFix p m c cc maxL s args ws y.cls → meth.sig.returnType = ret → meth.locks = false → (∀ x ∈ c.exceptionTable.toList, False) → va_K D vwCl tys s → s.heap = H → zE B0 s → ∀ ls : Array Slot, lv_has ls maxL (lv_args 0 av) →
      W p l e rm s m args below meth c H [] 0 0 (vx_MQ below Qc XC args s mc ms free) (F0 m 0 ls [])) : vx_Met l y ws rm (zPx D tys H B0 av) Qc XC mc ms free := by
  refine vx_ofW (cc := cc) (maxL := maxL) (ret := ret) hy hw ?_
  intro p e s m args below meth c s₁ B hml htab hv
  obtain ⟨rfl, hH, hK, hE⟩ := hv
  have hl := lv_entry av (n := maxL) hlen
  rw [lg_entry_eq]
  generalize (lg_sl av ++ List.replicate (maxL - (lg_sl av).length) Slot.unset).toArray = ls at hl ⊢
  subst hH
  exact body p e s m _ below meth c ⟨B.exec, B.bytes, hml, findClass_of_methodNamed B.named, atoms_spec (ws := ws) B.pre⟩ B.returns B.notSynchronized htab hK rfl hE ls hl
theorem z_xpreV {s : State} {D : va_G} {tys tys0 : List (ClassId × FieldType)} {H : Heap} {C : String} {b q0 ci B0 : Nat} {As : List Value} {fs : List Value} {ws : va_W} {q : vw_C} (hE : zE B0 s) (hk : ∀ q : Nat, q < s.heap.size → ¬ B0 ≤ q → H[q]? = s.heap[q]?) (hK : va_K D vwCl tys s) (hK0 : va_K D vwCl tys0 s) (hP : va_P D vwCl ws H) (hc : vwCl[ci]? = some q) (hC : q.1 = C) (he : ws[q0]? = some (b, .inr (ci, fs))) : PreV s H C b (zPx D tys0 H B0 (.ref b :: As)) As :=
  ⟨zPx_blind, hC ▸ va_recv hK hP hc he, fun U hU hW => ⟨rfl, hU, va_K.moved hW.alike hK0, hE.warm hW (by rw [hU]; exact hk)⟩⟩
theorem z_xpreS {s : State} {D : va_G} {tys0 : List (ClassId × FieldType)} {H : Heap} {B0 : Nat} {As : List Value} (hE : zE B0 s) (hk : ∀ q : Nat, q < s.heap.size → ¬ B0 ≤ q → H[q]? = s.heap[q]?) (hK0 : va_K D vwCl tys0 s) : PreS s H (zPx D tys0 H B0 As) As :=
  ⟨zPx_blind, fun U hU hW => ⟨rfl, hU, va_K.moved hW.alike hK0, hE.warm hW (by rw [hU]; exact hk)⟩⟩
section ZT
variable {p : Program} {l : Launch} {e : Env} {R : Room} {s : State} {m : MethodId} {args : Array Value} {below : List Frame} {meth : Method} {c : Code} {H : Heap} {locs : List Loc} {cells slots : Nat} {Q : State → Prop}
variable {pc : Nat} {ls : Array Slot} {rest st0 : List Value} {a : Array Value} {mc ms mc1 ms1 : Nat} {free : Addr → Prop} {cc : ByteArray} {B0 : Nat}
/-- new X(text) and athrow, by a word of the class ParrotJury, where nothing was written yet -/
theorem z_throw {P : String → Prop} {Qc : Array Value → State → Outcome → State → Prop} (hx : p.tables.exec = Jvm.exec) (hb : c.code = cc) (hl : l.stackTraces = false) (hown : s.vm.findClass RX4 = some m.cls) (hE : zE B0 s) (hH : s.heap = H) (hsz : s.heap.size ≤ s.heap.size) {cls text : String} {ik is ic nL : Nat} (hml : c.maxLocals = nL) (hlv : ls.size = nL)
    (hcls : Bundle.fit cls = true) (hk : (Cond.classLink RX4 ik cls).before args s = true) (hini : (Cond.initialized cls).before args s = true) (hin : ∀ w ∈ vx_atS RX4 ic cls zSup, w ∈ zEw) (hstr : (is, text) ∈ zStr)
    (hgood : ∀ w ∈ Cond.classLink RX4 ik cls :: Cond.initialized cls :: vx_atS RX4 ic cls zSup, vx_ot w = true)
    (d0 : decode cc pc = .ok (.new ik, 3)) (d3 : decode cc (pc + 3) = .ok (.dup, 1)) (d4 : decode cc (pc + 4) = .ok (.ldc is, 2)) (d6 : decode cc (pc + 6) = .ok (.invokespecial ic, 3)) (d9 : decode cc (pc + 9) = .ok (.athrow, 1))
    (htab : ∀ x ∈ c.exceptionTable.toList, False) (hRf : 5 < R.frames) (hRl : (rest.map fun v => v.category).sum + 82 ≤ R.locals) (hRc : cells + 1 ≤ R.cells) (hRs : slots + 6 ≤ R.slots) (hlocks : meth.locks = false) (hP : P cls) (hc : cells + 1 ≤ mc) (hs : slots + 6 ≤ ms) (hB0 : B0 ≤ s.heap.size) :
    W p l e R s m args below meth c H [] cells slots (vx_MQ below Qc (zX P H) args s mc ms free) (F0 m pc ls rest) := by
  obtain ⟨h1, h2, h3, h4, h5⟩ := hE
  obtain ⟨sa, hsa⟩ := h2 _ hstr
  have hS : va_S (fun q => s.heap.size ≤ q) s.heap H [] := by rw [hH]; exact va_S.rf
  refine vx_throwS (names := zSup) (A := fun q => s.heap.size ≤ q) (text := text) (sa := sa) hx hb hl hown hcls (by decide) hk hini hsa (fun w hw => va_tabs (zEw_ok w (hin w hw)).1 rfl (h1 w (hin w hw))) hgood (h4.narrow (fun q hq => Nat.le_trans hB0 hq)) (h5.narrow (fun q hq => Nat.le_trans hB0 hq)) hS (hlv.trans hml.symm) d0 d3 d4 d6 d9 (fun x hx => (htab x hx).elim) hRf hRl hRc hRs hlocks
    (fun t _ h6 h7 => ⟨hP, h6, h7⟩) (fun z hz => absurd hz List.not_mem_nil) hc hs
/-- a call that never returns -/
theorem z_xcall {P : String → Prop} {free1 : Addr → Prop} (hf1 : ∀ q, free1 q → False) (hr : vx_Run p l e R s m args below meth c H locs cells slots mc1 ms1 (F0 m pc ls st0) rest (zNo a) (zX P H) free1)
    (kx : ∀ (E : String) (ce : Cell) (q : Addr) (H1 : Heap), P E → H.size ≤ H1.size → (∀ q : Nat, q < H.size → H1[q]? = H[q]?) → H1[q]? = some ce → ce.vm = .none → s.vm.findClass E = some ce.cls → vx_W p l e R s m args below meth c H1 locs (cells + mc1) (slots + ms1) Q (F0 m pc ls rest) q) : W p l e R s m args below meth c H locs cells slots Q (F0 m pc ls st0) := by
  intro T hT X
  rcases hr T hT X with ⟨v, st₀, t, T', L, h0, X', hL, e1, e2, hn, st⟩ | ⟨q, st₀, t, T', L, E, ce, h0, X', hL, e1, e2, ⟨hP, h6, h7⟩, hce, hcv, hcl, st⟩
  · exact hn.elim
  · obtain ⟨t2, a1, b1⟩ := kx E ce q T'.heap hP (by rw [e1]; exact h6) (by rw [e1]; exact h7) (by rw [e1]; exact hce) hcv hcl T' rfl (Stand.forget X' (fun z h => (hf1 _ (hL z h)).elim))
    exact ⟨t2, st.trans a1, b1⟩
/-- .. and its throw goes on to the caller -/
theorem z_xout {P P1 : String → Prop} {Qc : Array Value → State → Outcome → State → Prop} {H1 : Heap} {E : String} {ce : Cell} {q : Addr} (hPP : ∀ E, P1 E → P E) (hP : P1 E) (hz : H.size ≤ H1.size) (hk : ∀ q : Nat, q < H.size → H1[q]? = H[q]?) (hce : H1[q]? = some ce) (hcv : ce.vm = .none) (hcl : s.vm.findClass E = some ce.cls) (htab : ∀ x ∈ c.exceptionTable.toList, False) (hlocks : meth.locks = false) (hc : cells ≤ mc) (hs : slots ≤ ms) :
    vx_W p l e R s m args below meth c H1 [] cells slots (vx_MQ below Qc (zX P H) args s mc ms free) (F0 m pc ls rest) q :=
  vx_out (fun x hx => (htab x hx).elim) hlocks hce hcv hcl (fun t ht _ => ⟨hPP E hP, by rw [ht]; exact hz, by rw [ht]; exact hk⟩) (fun z hz => absurd hz List.not_mem_nil) hc hs
end ZT
