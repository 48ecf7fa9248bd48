/-! the law's script beside the worlds; the law's state between its calls -/
def zPs (D : va_G) (tys : List (ClassId × FieldType)) (H : Heap) (b0 L : Nat) (xs : Nat → Int32) (av : List Value) : Array Value → State → Prop := va_Pc av (fun U => U.heap = H ∧ va_K D vwCl tys U ∧ zKw U ∧ va_X b0 L xs U H ∧ b0 < H.size)
theorem va_X.alike {b L : Nat} {xs : Nat → Int32} {u U : State} {H H1 : Heap} (hal : u.vm.Alike U.vm) (hX : va_X b L xs u H) (hh : H1[b]? = H[b]?) : va_X b L xs U H1 := by
  obtain ⟨scr, h1, h2, h3, h4, h5⟩ := hX
  exact ⟨scr, by rw [hh]; exact h1, State.isArrayOf_alike hal h2, h3, h4, h5⟩
theorem zPs_blind {D : va_G} {tys : List (ClassId × FieldType)} {H : Heap} {b0 L : Nat} {xs : Nat → Int32} {av : List Value} : FrameBlind (zPs D tys H b0 L xs av) := by
  intro a U g mk h
  obtain ⟨h1, h2, h3, h4, h5, h6⟩ := h
  exact ⟨h1, h2, va_K.moved (u := U) (U := U.calling g mk a) (Vm.Alike.refl U.vm) h3, h4.same rfl, h5.alike (Vm.Alike.refl U.vm) rfl, h6⟩
theorem z_senter {l : Launch} {y : MethodName} {ws ws' : List Cond} {rm : Room} {D : va_G} {tys : List (ClassId × FieldType)} {H : Heap} {b0 L : Nat} {xs : Nat → Int32} {av : List Value} {Qc : Array Value → State → Outcome → State → Prop} {mc ms : Nat} {free : Addr → Prop} {cc : ByteArray} {maxL : Nat} {ret : Option FieldType}
    (hy : plainName y.cls = true) (hw : ws = Cond.code y cc maxL ret :: ws') (hlen : (lg_sl av).length ≤ maxL)
    (body : ∀ (p : Program) (e : Env) (s : State) (m : MethodId) (args : Array Value) (below : List Frame) (meth : Method) (c : Code), CallFix p m c cc maxL s args ws y.cls → meth.sig.returnType = ret → meth.locks = false → meth.name = y.name → va_K D vwCl tys s → s.heap = H → zKw s → va_X b0 L xs s s.heap → b0 < s.heap.size → ∀ ls : Array Slot, lv_has ls maxL (lv_args 0 av) →
      W p l e rm s m args below meth c H [] 0 0 (MQ below Qc args s mc ms free) (F0 m 0 ls [])) : Met l y ws rm (zPs D tys H b0 L xs av) Qc mc ms free := by
  refine Met.ofW (cc := cc) (maxL := maxL) (ret := ret) hy hw ?_
  intro p e s m args below meth c s₁ B hml hv
  obtain ⟨rfl, hH, hK, hKw, hX, hb0⟩ := hv
  have hl := lv_entry av (n := maxL) hlen
  rw [lg_entry_eq]
  generalize (lg_sl av ++ List.replicate (maxL - (lg_sl av).length) Slot.unset).toArray = ls at hl ⊢
  subst hH
  exact body p e s m _ below meth c ⟨B.exec, B.bytes, hml, findClass_of_methodNamed B.named, atoms_spec (ws := ws) B.pre⟩ B.returns B.notSynchronized (name_of_methodNamed B.named B.method).1 hK rfl hKw hX hb0 ls hl
theorem z_spreS {s : State} {D : va_G} {tys0 : List (ClassId × FieldType)} {H : Heap} {b0 L : Nat} {xs : Nat → Int32} {As : List Value} {A : Nat → Prop} {locs : List Loc} (hX : va_X b0 L xs s s.heap) (hb0 : b0 < s.heap.size) (hbA : ¬ A b0) (hS : va_S A s.heap H locs) (hKw : zKw s) (hK0 : va_K D vwCl tys0 s) : PreS s H (zPs D tys0 H b0 L xs As) As :=
  ⟨zPs_blind, fun U hU hW => ⟨rfl, hU, va_K.moved hW.alike hK0, hKw.moved hW, hX.alike hW.alike (hS.2.1 b0 hb0 hbA), Nat.lt_of_lt_of_le hb0 hS.1⟩⟩
set_option maxHeartbeats 4000000 in
set_option maxRecDepth 100000 in
/-- cell -/
theorem zcL_cell (l : Launch) (D : va_G) (cI : ClassId) (cR : ClassId) (H : Heap) (b0 L : Nat) (xs : Nat → Int32) (k : Nat) (hL : L ≤ 260) (hk : k < 1000) : Met l yL_cell wsL_cell ({ frames := 0, cells := 0, slots := 0, locals := 0 } : Room) (zPs D [(cI, .int), (cR, .object zBC)] H b0 L xs [.ref b0, .int (nI k)]) (zQ (some (.int (zce L xs k))) H) 0 0 (fun _ => False) := by
  refine z_senter (cc := cL_cell) (maxL := 2) (ret := some .int) (by decide) rfl (Nat.le_of_ble_eq_true rfl) ?_
  intro pg ev s m args below meth cd hfix hr hlocks hname hK hHs hKw hX hb0 ls hl
  obtain ⟨hx, hb, hml, hown, hts⟩ := id hfix
  have hl : lv_has ls 2 [(0, .ref b0), (1, .int (nI k))] := hl
  have hS : va_S (fun _ => False) s.heap H [] := by rw [hHs]; exact va_S.rf
  refine lv_iload_n hx hb dL_cell_0 rfl (lv_at hl 1 rfl) ?_
  refine lv_aload_n hx hb dL_cell_1 rfl (lv_at hl 0 rfl) ?_
  refine va_slen hx hb hX hb0 (fun h => h) hS dL_cell_2 ?_
  refine z_toi (y := nI L) rfl ?_
  refine lv_icmp_ge (tgt := 12) hx hb dL_cell_3 (by decide) (fun c3 => ?_) (fun c3 => ?_)
  · have c3 := z_le (a := L) (b := k) c3 (by omega) (by omega)
    refine lv_ldc (v := 790386105) hx hb hown (hts _ (List.mem_of_getElem? (i := 1) rfl)) dL_cell_12 ?_
    refine lv_iload_n hx hb dL_cell_14 rfl (lv_at hl 1 rfl) ?_
    refine lv_iconst (v := 3) hx hb dL_cell_15 (by decide) ?_
    refine lv_iadd hx hb dL_cell_16 ?_
    refine lv_imul hx hb dL_cell_17 ?_
    refine z_toi (y := zce L xs k) (by unfold zce; rw [if_neg (by omega)]) ?_
    exact z_iret hx hb hr hlocks dL_cell_18
  · have c3 := z_nle (a := L) (b := k) c3 (by omega) (by omega)
    refine lv_aload_n hx hb dL_cell_6 rfl (lv_at hl 0 rfl) ?_
    refine lv_iload_n hx hb dL_cell_7 rfl (lv_at hl 1 rfl) ?_
    refine va_sld hx hb hX hb0 (fun h => h) hS (vp_in_nI (by omega) (by omega)) dL_cell_8 ?_
    refine lv_goto (tgt := 18) hx hb dL_cell_9 (by decide) ?_
    refine z_toi (y := zce L xs k) (by unfold zce; rw [if_pos (by omega), nI_clamp (by omega)]) ?_
    exact z_iret hx hb hr hlocks dL_cell_18
/-- jury and Sim as one: the same parrots, and what always holds of them -/
def zLs (D : va_G) (cI cR : ClassId) (b o n : Nat) (H : Heap) : Prop :=
  ∃ (ar : Nat) (B E : Nat → Nat) (me lo : Nat → Int32) (c e : Nat → Nat) (rd tk : Int32) (g : zG), zSm D cI cR o H.size ar n B E me lo c e rd tk g H ∧ zCW D cI b n me lo c e rd tk g H ∧ zI n me lo c e ∧ zJ n g ∧ zV n g ∧ zNs c e
