set_option maxHeartbeats 4000000 in
set_option maxRecDepth 100000 in
/-- Row.at within the row -/
theorem zcX1_at (l : Launch) (D : va_G) (cI : ClassId) (H : Heap) (a : Nat) (n : Nat) (f : Nat → Int32) (p : Nat) (hR : va_P D vwCl (zRow cI a n f) H) (hp : p < n) (hn : n < 100000) : Met l yX1_at wsX1_at ({ frames := 0, cells := 0, slots := 0, locals := 0 } : Room) (zPc D [(cI, .int)] H [.ref a, .int (nI p)]) (zQ (some (.int (f p))) H) 0 0 (fun _ => False) := by
  refine z_enter (cc := cX1_at) (maxL := 2) (ret := (some .int)) (by decide) rfl (Nat.le_of_ble_eq_true rfl) ?_
  intro pg ev s m args below meth cd hfix hr hlocks hname hK hHs ls hl
  obtain ⟨hx, hb, hml, hown, hts⟩ := id hfix
  have hl : lv_has ls 2 [(0, .ref a), (1, .int (nI p))] := hl
  have hinX1 : ∀ w ∈ wsX10, w ∈ wsX1_at := by decide +kernel
  refine lv_iload_n hx hb dX1_at_0 rfl (lv_at hl 1 rfl) ?_
  refine lv_if_lt (tgt := 22) hx hb dX1_at_1 (by decide) (fun c1 => ?_) (fun c1 => ?_)
  · have c1 := z_lt (a := p) (b := 0) c1 (by omega) (by omega)
    omega
  · have c1 := z_nlt (a := p) (b := 0) c1 (by omega) (by omega)
    refine lv_iload_n hx hb dX1_at_4 rfl (lv_at hl 1 rfl) ?_
    refine lv_aload_n hx hb dX1_at_5 rfl (lv_at hl 0 rfl) ?_
    refine va_get (D := D) (ci := 1) (v := .ref (a + 1)) (C := RX1) (T := TX1) (N := 1) hx hb hts hinX1 hown hK hR 0 rfl rfl 0 (by decide) (hts _ (List.mem_of_getElem? (i := 1) rfl)) (fun _ h9 => h9) rfl dX1_at_6 ?_
    refine z_alen (n := n) (f := f) hx hb hK hR 1 0 rfl rfl dX1_at_9 ?_
    refine lv_icmp_ge (tgt := 22) hx hb dX1_at_10 (by decide) (fun c10 => ?_) (fun c10 => ?_)
    · have c10 := z_le (a := n) (b := p) c10 (by omega) (by omega)
      omega
    · have c10 := z_nle (a := n) (b := p) c10 (by omega) (by omega)
      refine lv_aload_n hx hb dX1_at_13 rfl (lv_at hl 0 rfl) ?_
      refine va_get (D := D) (ci := 1) (v := .ref (a + 1)) (C := RX1) (T := TX1) (N := 1) hx hb hts hinX1 hown hK hR 0 rfl rfl 0 (by decide) (hts _ (List.mem_of_getElem? (i := 1) rfl)) (fun _ h9 => h9) rfl dX1_at_14 ?_
      refine lv_iload_n hx hb dX1_at_17 rfl (lv_at hl 1 rfl) ?_
      refine z_iald (a := (a + 1)) (n := n) (f := f) (j := p) hx hb hK hR 1 0 rfl rfl rfl (by omega) (by omega) dX1_at_18 ?_
      refine lv_goto (tgt := 23) hx hb dX1_at_19 (by decide) ?_
      exact z_iret hx hb hr hlocks dX1_at_23
set_option maxHeartbeats 4000000 in
set_option maxRecDepth 100000 in
/-- Row.put within the row -/
theorem zcX1_put (l : Launch) (D : va_G) (cI : ClassId) (H : Heap) (a : Nat) (n : Nat) (f : Nat → Int32) (p : Nat) (x : Int32) (hR : va_P D vwCl (zRow cI a n f) H) (hp : p < n) (hn : n < 100000) : Met l yX1_put wsX1_put ({ frames := 0, cells := 0, slots := 0, locals := 0 } : Room) (zPc D [(cI, .int)] H [.ref a, .int (nI p), .int x]) (zM (fun H1 => va_P D vwCl (zRow cI a n (upd f p x)) H1 ∧ H1.size = H.size) none (zF (a + 1) (a + 2))) 0 0 (zF (a + 1) (a + 2)) := by
  refine z_enter (cc := cX1_put) (maxL := 3) (ret := none) (by decide) rfl (Nat.le_of_ble_eq_true rfl) ?_
  intro pg ev s m args below meth cd hfix hr hlocks hname hK hHs ls hl
  obtain ⟨hx, hb, hml, hown, hts⟩ := id hfix
  have hl : lv_has ls 3 [(0, .ref a), (1, .int (nI p)), (2, .int x)] := hl
  have hS : va_S (zF (a + 1) (a + 2)) s.heap H [] := by rw [hHs]; exact va_S.rf
  have hz : H.size = H.size := rfl
  have hinX1 : ∀ w ∈ wsX10, w ∈ wsX1_put := by decide +kernel
  refine lv_iload_n hx hb dX1_put_0 rfl (lv_at hl 1 rfl) ?_
  refine lv_if_lt (tgt := 20) hx hb dX1_put_1 (by decide) (fun c1 => ?_) (fun c1 => ?_)
  · have c1 := z_lt (a := p) (b := 0) c1 (by omega) (by omega)
    omega
  · have c1 := z_nlt (a := p) (b := 0) c1 (by omega) (by omega)
    refine lv_iload_n hx hb dX1_put_4 rfl (lv_at hl 1 rfl) ?_
    refine lv_aload_n hx hb dX1_put_5 rfl (lv_at hl 0 rfl) ?_
    refine va_get (D := D) (ci := 1) (v := .ref (a + 1)) (C := RX1) (T := TX1) (N := 1) hx hb hts hinX1 hown hK hR 0 rfl rfl 0 (by decide) (hts _ (List.mem_of_getElem? (i := 1) rfl)) (fun _ h9 => h9) rfl dX1_put_6 ?_
    refine z_alen (n := n) (f := f) hx hb hK hR 1 0 rfl rfl dX1_put_9 ?_
    refine lv_icmp_ge (tgt := 20) hx hb dX1_put_10 (by decide) (fun c10 => ?_) (fun c10 => ?_)
    · have c10 := z_le (a := n) (b := p) c10 (by omega) (by omega)
      omega
    · have c10 := z_nle (a := n) (b := p) c10 (by omega) (by omega)
      refine lv_aload_n hx hb dX1_put_13 rfl (lv_at hl 0 rfl) ?_
      refine va_get (D := D) (ci := 1) (v := .ref (a + 1)) (C := RX1) (T := TX1) (N := 1) hx hb hts hinX1 hown hK hR 0 rfl rfl 0 (by decide) (hts _ (List.mem_of_getElem? (i := 1) rfl)) (fun _ h9 => h9) rfl dX1_put_14 ?_
      refine lv_iload_n hx hb dX1_put_17 rfl (lv_at hl 1 rfl) ?_
      refine lv_iload_n hx hb dX1_put_18 rfl (lv_at hl 2 rfl) ?_
      refine z_iast (n := n) (f := f) (x := x) (j := p) hx hb hK hR (by simp only [zF]; omega) hS 1 0 rfl rfl rfl (by omega) (by omega) dX1_put_19 (fun H1 lo2 hP1 hz1 hk1 hS => ?_)
      have hz : H1.size = H.size := by omega
      have hR3 : va_P D vwCl (zRow cI a n (upd f p x)) H1 := z_set zR_c hR 1 rfl hP1 (fun q _ h => hk1 q h)
      exact z_vretM (⟨hR3, hz⟩) hx hb hr hlocks hS dX1_put_20
set_option maxHeartbeats 4000000 in
set_option maxRecDepth 100000 in
/-- Row.copyFrom of a row of the same length -/
theorem zcX1_copyFrom (l : Launch) (D : va_G) (cI : ClassId) (H : Heap) (a : Nat) (a2 : Nat) (n : Nat) (f : Nat → Int32) (f2 : Nat → Int32) (hR : va_P D vwCl (zRow cI a n f) H) (hQ : va_P D vwCl (zRow cI a2 n f2) H) (hd : a + 2 ≤ a2 ∨ a2 + 2 ≤ a) (hn : n < 100000) : Met l yX1_copyFrom wsX1_copyFrom ({ frames := 1, cells := 0, slots := 0, locals := 18 } : Room) (zPc D [(cI, .int)] H [.ref a, .ref a2]) (zM (fun H1 => va_P D vwCl (zRow cI a n f2) H1 ∧ H1.size = H.size) none (zF (a + 1) (a + 2))) 0 0 (zF (a + 1) (a + 2)) := by
  refine z_enter (cc := cX1_copyFrom) (maxL := 2) (ret := none) (by decide) rfl (Nat.le_of_ble_eq_true rfl) ?_
  intro pg ev s m args below meth cd hfix hr hlocks hname hK hHs ls hl
  obtain ⟨hx, hb, hml, hown, hts⟩ := id hfix
  have hl : lv_has ls 2 [(0, .ref a), (1, .ref a2)] := hl
  have hS : va_S (zF (a + 1) (a + 2)) s.heap H [] := by rw [hHs]; exact va_S.rf
  have hz : H.size = H.size := rfl
  have hinX1 : ∀ w ∈ wsX10, w ∈ wsX1_copyFrom := by decide +kernel
  refine lv_aload_n hx hb dX1_copyFrom_0 rfl (lv_at hl 1 rfl) ?_
  refine va_get (D := D) (ci := 1) (v := .ref (a2 + 1)) (C := RX1) (T := TX1) (N := 1) hx hb hts hinX1 hown hK hQ 0 rfl rfl 0 (by decide) (hts _ (List.mem_of_getElem? (i := 1) rfl)) (fun _ h9 => h9) rfl dX1_copyFrom_1 ?_
  refine lv_iconst (v := 0) hx hb dX1_copyFrom_4 (by decide) ?_
  refine lv_aload_n hx hb dX1_copyFrom_5 rfl (lv_at hl 0 rfl) ?_
  refine va_get (D := D) (ci := 1) (v := .ref (a + 1)) (C := RX1) (T := TX1) (N := 1) hx hb hts hinX1 hown hK hR 0 rfl rfl 0 (by decide) (hts _ (List.mem_of_getElem? (i := 1) rfl)) (fun _ h9 => h9) rfl dX1_copyFrom_6 ?_
  refine lv_iconst (v := 0) hx hb dX1_copyFrom_9 (by decide) ?_
  refine lv_aload_n hx hb dX1_copyFrom_10 rfl (lv_at hl 1 rfl) ?_
  refine va_get (D := D) (ci := 1) (v := .ref (a2 + 1)) (C := RX1) (T := TX1) (N := 1) hx hb hts hinX1 hown hK hQ 0 rfl rfl 0 (by decide) (hts _ (List.mem_of_getElem? (i := 1) rfl)) (fun _ h9 => h9) rfl dX1_copyFrom_11 ?_
  refine z_alen (n := n) (f := f2) hx hb hK hQ 1 0 rfl rfl dX1_copyFrom_14 ?_
  refine lv_aload_n hx hb dX1_copyFrom_15 rfl (lv_at hl 0 rfl) ?_
  refine va_get (D := D) (ci := 1) (v := .ref (a + 1)) (C := RX1) (T := TX1) (N := 1) hx hb hts hinX1 hown hK hR 0 rfl rfl 0 (by decide) (hts _ (List.mem_of_getElem? (i := 1) rfl)) (fun _ h9 => h9) rfl dX1_copyFrom_16 ?_
  refine z_alen (n := n) (f := f) hx hb hK hR 1 0 rfl rfl dX1_copyFrom_19 ?_
  refine va_mmin hx hb (by rw [hml]; exact hl.1.symm) hown (hts _ (List.mem_of_getElem? (i := 2) rfl)) (hts _ (List.mem_of_getElem? (i := 3) rfl)) (hts _ (List.mem_of_getElem? (i := 4) rfl)) (hts _ (List.mem_of_getElem? (i := 5) rfl)) (Nat.le_of_ble_eq_true rfl) (Nat.le_of_ble_eq_true rfl) (by omega) (by omega) dX1_copyFrom_20 ?_
  refine z_toi (y := zmin (nI n) (nI n)) rfl ?_
  refine z_toi (y := nI n) (zmin_id _) ?_
  refine z_copyi hx hb (by rw [hml]; exact hl.1.symm) hown (hts _ (List.mem_of_getElem? (i := 6) rfl)) (hts _ (List.mem_of_getElem? (i := 7) rfl)) (hts _ (List.mem_of_getElem? (i := 8) rfl)) (hts _ (List.mem_of_getElem? (i := 9) rfl)) hK hQ hR (by simp only [zF]; omega) hS 1 1 0 rfl rfl rfl (sj := 0) (dj := 0) (k := n) rfl rfl rfl (by omega) (by omega) (by omega) (by omega) (Nat.le_of_ble_eq_true rfl) (Nat.le_of_ble_eq_true rfl) dX1_copyFrom_23 (fun H1 lo2 hP1 hz1 hk1 hS => ?_)
  have hz : H1.size = H.size := by omega
  have hR3 : va_P D vwCl (zRow cI a n f2) H1 := z_set zR_c hR 1 rfl (z_arr_ext hP1 (fun j hj => sb_cpy0 hj)) (fun q _ h => hk1 q h)
  have hQ4 := zR_kept hQ (fun q h1 h2 h3 => (fun q _ h => hk1 q h) q h1 (by omega))
  exact z_vretM (⟨hR3, hz⟩) hx hb hr hlocks hS dX1_copyFrom_26
