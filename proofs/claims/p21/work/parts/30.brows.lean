/-! rows for arrays of references to the law's birds: made, stored into, read, measured -/
abbrev zBC : String := "ParrotJuryLaw$Bird"
/-- the law's words that no list of a method's words holds -/
def zKw (U : State) : Prop := va_AO zBC U ∧ va_Nw (.methodLinkNest RX6 24 yX5_init RL) U ∧ va_Nw (.methodLinkNest RL 61 yX6_init RL) U
theorem zKw.moved {s U : State} (h : zKw s) (hW : s.WarmedH U.vm) : zKw U := ⟨va_AO.moved hW.alike h.1, va_Nw.warmM hW h.2.1, va_Nw.warmM hW h.2.2⟩
theorem zKw.same {s U : State} (h : zKw s) (hv : s.vm = U.vm) : zKw U := ⟨va_AO.moved (by rw [hv]; exact Vm.Alike.refl _) h.1, va_Nw.same rfl hv h.2.1, va_Nw.same rfl hv h.2.2⟩
def zPk (D : va_G) (tys : List (ClassId × FieldType)) (H : Heap) (av : List Value) : Array Value → State → Prop := va_Pc av (fun U => U.heap = H ∧ va_K D vwCl tys U ∧ zKw U)
theorem zPk_blind {D : va_G} {tys : List (ClassId × FieldType)} {H : Heap} {av : List Value} : FrameBlind (zPk D tys H av) := by
  intro a U g mk h
  obtain ⟨h1, h2, h3, h4⟩ := h
  exact ⟨h1, h2, va_K.moved (u := U) (U := U.calling g mk a) (Vm.Alike.refl U.vm) h3, h4.same rfl⟩
theorem z_kenter {l : Launch} {y : MethodName} {ws ws' : List Cond} {rm : Room} {D : va_G} {tys : List (ClassId × FieldType)} {H : Heap} {av : List Value} {Qc : Array Value → State → Outcome → State → Prop} {mc ms : Nat} {free : Addr → Prop} {cc : ByteArray} {maxL : Nat} {ret : Option FieldType}
    (hy : plainName y.cls = true) (hw : ws = Cond.code y cc maxL ret :: ws') (hlen : (lg_sl av).length ≤ maxL)
    (body : ∀ (p : Program) (e : Env) (s : State) (m : MethodId) (args : Array Value) (below : List Frame) (meth : Method) (c : Code), CallFix p m c cc maxL s args ws y.cls → meth.sig.returnType = ret → meth.locks = false → meth.name = y.name → va_K D vwCl tys s → s.heap = H → zKw s → ∀ ls : Array Slot, lv_has ls maxL (lv_args 0 av) →
      W p l e rm s m args below meth c H [] 0 0 (MQ below Qc args s mc ms free) (F0 m 0 ls [])) : Met l y ws rm (zPk D tys H av) Qc mc ms free := by
  refine Met.ofW (cc := cc) (maxL := maxL) (ret := ret) hy hw ?_
  intro p e s m args below meth c s₁ B hml hv
  obtain ⟨rfl, hH, hK, hKw⟩ := hv
  have hl := lv_entry av (n := maxL) hlen
  rw [lg_entry_eq]
  generalize (lg_sl av ++ List.replicate (maxL - (lg_sl av).length) Slot.unset).toArray = ls at hl ⊢
  subst hH
  exact body p e s m _ below meth c ⟨B.exec, B.bytes, hml, findClass_of_methodNamed B.named, atoms_spec (ws := ws) B.pre⟩ B.returns B.notSynchronized (name_of_methodNamed B.named B.method).1 hK rfl hKw ls hl
theorem z_kpreV {s : State} {D : va_G} {tys tys0 : List (ClassId × FieldType)} {H : Heap} {C : String} {b q0 ci : Nat} {As : List Value} {fs : List Value} {ws : va_W} {q : vw_C} (hKw : zKw s) (hK : va_K D vwCl tys s) (hK0 : va_K D vwCl tys0 s) (hP : va_P D vwCl ws H) (hc : vwCl[ci]? = some q) (hC : q.1 = C) (he : ws[q0]? = some (b, .inr (ci, fs))) : PreV s H C b (zPk D tys0 H (.ref b :: As)) As :=
  ⟨zPk_blind, hC ▸ va_recv hK hP hc he, fun U hU hW => ⟨rfl, hU, va_K.moved hW.alike hK0, hKw.moved hW⟩⟩
theorem z_kpreS {s : State} {D : va_G} {tys0 : List (ClassId × FieldType)} {H : Heap} {As : List Value} (hKw : zKw s) (hK0 : va_K D vwCl tys0 s) : PreS s H (zPk D tys0 H As) As :=
  ⟨zPk_blind, fun U hU hW => ⟨rfl, hU, va_K.moved hW.alike hK0, hKw.moved hW⟩⟩
/-- an array of references, as a part of a world -/
abbrev zQa (cR : ClassId) (n : Nat) (f : Nat → Option Nat) : va_E := .inl (cR, n, .inr (.inr (.inr (.inr f))))
section ZK
variable {p : Program} {l : Launch} {e : Env} {R : Room} {s : State} {m : MethodId} {args : Array Value} {below : List Frame} {meth : Method} {c : Code} {H : Heap} {locs : List Loc} {cells slots : Nat} {Q : State → Prop}
variable {pc : Nat} {ls : Array Slot} {rest : List Value} {A : Nat → Prop} {H0 : Heap} {cc : ByteArray} {D : va_G} {cl : List vw_C} {tys : List (ClassId × FieldType)} {ws wv : va_W} {a : Nat}
theorem z_newq (hexec : p.tables.exec = Jvm.exec) (hb : c.code = cc) {own C : String} {index : Nat} (hown : s.vm.findClass own = some m.cls) (hclink : (Cond.classLink own index C).before args s = true) (hKw : va_AO C s) (hK : va_K D cl tys s) (t0 : Nat) {cR : ClassId} (ht : tys[t0]? = some (cR, .object C))
    {n : Int32} {N : Nat} (hn : n = nI N) (hN : N < 100000) (hcells : cells + 1 ≤ R.cells) (hslots : slots + N ≤ R.slots) (hdg : decode cc pc = .ok (.anewarray index, 3)) {h : Nat} (hh : H.size = h)
    (kk : ∀ (H1 : Heap), va_P D cl [(h, zQa cR N (fun _ => none))] H1 → H1.size = h + 1 → (∀ q, q < h → H1[q]? = H[q]?) →
      W p l e R s m args below meth c H1 locs (cells + 1) (slots + N) Q (F0 m (pc + 3) ls (.ref h :: rest))) : W p l e R s m args below meth c H locs cells slots Q (F0 m pc ls (.int n :: rest)) := by
  subst hn
  have hcl : (nI N).toNatClampNeg = N := nI_clamp (by omega)
  refine W.anew hexec hb hown hclink (va_AO.use hKw) rfl hdg rfl (nI_pos (by omega)) (by rw [hcl]; omega) hcells (by rw [hcl]; exact hslots) fun cA kA comp f1 f2 f3 f4 => ?_
  have hcA : cA = cR := by
    obtain ⟨kA2, comp2, -, -, -, h4⟩ := (hK.2 t0 _ ht).2
    exact Option.some.inj (f1.symm.trans h4)
  subst hcA
  rw [hcl]
  generalize hH1 : H.push ({ cls := cA, slots := Array.replicate N .null, vm := .none } : Cell) = H1
  subst hh
  refine kk H1 (z_one ?_) (by rw [← hH1, Array.size_push]) (fun q hq => by rw [← hH1, Array.getElem?_push, if_neg (Nat.ne_of_lt hq)])
  show H1[H.size]? = some (vp_cell _ _)
  rw [vp_cell_q, ← hH1, Array.getElem?_push_size, ← arrV_new]
  rfl
theorem z_aast (hexec : p.tables.exec = Jvm.exec) (hb : c.code = cc) (hK : va_K D cl tys s) (hP : va_P D cl ws H) (hV : va_P D cl wv H) (hA : A a) (hS : va_S A H0 H locs) (q0 qv t0 ci : Nat) {cR : ClassId} {r : vw_C} {n v : Nat} {f : Nat → Option Nat} {vs : List Value} (ha : ws[q0]? = some (a, zQa cR n f)) (hv : wv[qv]? = some (v, .inr (ci, vs))) (ht : tys[t0]? = some (cR, .object r.1)) (hc : cl[ci]? = some r) {i : Int32} {j : Nat} (hj : i = nI j) (hjn : j < n) (hn : n < 100000) (hdg : decode cc pc = .ok (.aastore, 1))
    (kk : ∀ (H1 : Heap) (locs1 : List Loc), va_P D cl [(a, zQa cR n (va_up f j (some v)))] H1 → H1.size = H.size → (∀ q, q ≠ a → H1[q]? = H[q]?) → va_S A H0 H1 locs1 → W p l e R s m args below meth c H1 locs1 cells slots Q (F0 m (pc + 1) ls rest)) : W p l e R s m args below meth c H locs cells slots Q (F0 m pc ls (.ref v :: .int i :: .ref a :: rest)) := by
  subst hj
  have hcl : (nI j).toNatClampNeg = j := nI_clamp (by omega)
  obtain ⟨r', hr', cellV, g1, g2, g3, -⟩ := hV qv _ hv
  have hcls := (hK.1 ci r hc).2
  obtain ⟨kA, comp, k1, k2, k3, -⟩ := (hK.2 t0 _ ht).2
  have hcomp : comp = D.1 ci := Option.some.inj (k3.symm.trans hcls.1)
  subst hcomp
  obtain ⟨kC, hkC, -⟩ := hcls.2
  refine W.aast hexec hb (hP q0 _ ha) (fun q h => by cases h) (fun h => by cases h) k1 k2 rfl hkC ⟨nI_pos (by omega), by rw [hcl]; show _ < (arrV _ _ _).slots.size; rw [arrV_size]; exact hjn⟩ g1 (fun q h => by rw [g3] at h; cases h) (by rw [g2]; exact hkC) (by rw [g2]; exact va_assign hcls) rfl rfl hdg fun H1 e z oq => ?_
  rw [hcl] at e ⊢
  refine kk H1 _ (z_one ?_) z oq (hS.put z oq hA)
  show H1[a]? = some (vp_cell _ _)
  rw [e, vp_cell_q, vp_cell_q, arrV_store]
  congr 2
  funext q
  by_cases hq : q = j
  · subst hq
    simp [updV, va_up, va_rf]
  · simp [updV, va_up, hq]
/-- of references to any kind (objects, or arrays) -/
theorem z_aald (hexec : p.tables.exec = Jvm.exec) (hb : c.code = cc) (hK : va_K D cl tys s) (hP : va_P D cl ws H) (q0 t0 : Nat) {cR : ClassId} {ty : FieldType} {n v : Nat} {f : Nat → Option Nat} (ha : ws[q0]? = some (a, zQa cR n f)) (ht : tys[t0]? = some (cR, ty)) (hty : ty.isReference = true) {i : Int32} {j : Nat} (hj : i = nI j) (hjn : j < n) (hn : n < 100000) (hf : f j = some v) (hdg : decode cc pc = .ok (.aaload, 1))
    (kk : W p l e R s m args below meth c H locs cells slots Q (F0 m (pc + 1) ls (.ref v :: rest))) : W p l e R s m args below meth c H locs cells slots Q (F0 m pc ls (.int i :: .ref a :: rest)) := by
  subst hj
  have hcl : (nI j).toNatClampNeg = j := nI_clamp (by omega)
  exact W.aald (v := .ref v) (ty := ty) hexec hb (hP q0 _ ha) ((hK.2 t0 _ ht).1 n (fun j => va_rf (f j))) hty (fun q => by cases q) (by show ¬ (_ ∨ (arrV _ _ _).slots.size ≤ _); rw [arrV_size]; exact vp_in_nI (N := n) hjn (by omega)) (by rw [hcl]; show (arrV _ _ _).slots[_]? = _; rw [arrV_read _ _ hjn, hf]; rfl) rfl rfl hdg kk
theorem z_qlen (hexec : p.tables.exec = Jvm.exec) (hb : c.code = cc) (hK : va_K D cl tys s) (hP : va_P D cl ws H) (q0 t0 : Nat) {cA : ClassId} {ty : FieldType} {n : Nat} {f : Nat → Option Nat} (ha : ws[q0]? = some (a, zQa cA n f)) (ht : tys[t0]? = some (cA, ty)) (hdg : decode cc pc = .ok (.arraylength, 1))
    (kk : W p l e R s m args below meth c H locs cells slots Q (F0 m (pc + 1) ls (.int (nI n) :: rest))) : W p l e R s m args below meth c H locs cells slots Q (F0 m pc ls (.ref a :: rest)) :=
  va_alen hexec hb hK hP q0 t0 ha ht rfl hdg kk
end ZK
