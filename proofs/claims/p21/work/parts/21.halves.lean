set_option maxHeartbeats 4000000 in
set_option maxRecDepth 100000 in
/-- Halves.value -/
theorem zcX0_value (l : Launch) (D : va_G) (cI : ClassId) (H : Heap) (a : Nat) (v : Nat → Int32) (f : Nat → Int32) (w : Nat → Int32) (p : Nat) (hH : va_P D vwCl (zHalves cI a v f w) H) (hp : p < 12) : Met l yX0_value wsX0_value ({ frames := 1, cells := 0, slots := 0, locals := 21 } : Room) (zPc D [(cI, .int)] H [.ref a, .int (nI p)]) (zQ (some (.int (v p))) H) 0 0 (fun _ => False) := by
  refine z_enter (cc := cX0_value) (maxL := 2) (ret := (some .int)) (by decide) rfl (Nat.le_of_ble_eq_true rfl) ?_
  intro pg ev s m args below meth cd hfix hr hlocks hname hK hHs ls hl
  obtain ⟨hx, hb, hml, hown, hts⟩ := id hfix
  have hl : lv_has ls 2 [(0, .ref a), (1, .int (nI p))] := hl
  have hinX0 : ∀ w ∈ wsX00, w ∈ wsX0_value := by decide +kernel
  refine lv_aload_n hx hb dX0_value_0 rfl (lv_at hl 0 rfl) ?_
  refine va_get (D := D) (ci := 0) (v := .ref (a + 1)) (C := RX0) (T := TX0) (N := 3) hx hb hts hinX0 hown hK hH 0 rfl rfl 0 (by decide) (hts _ (List.mem_of_getElem? (i := 1) rfl)) (fun _ h9 => h9) rfl dX0_value_1 ?_
  refine lv_iload_n hx hb dX0_value_4 rfl (lv_at hl 1 rfl) ?_
  refine z_ki (va_runV (As := [.int (nI p)]) (rest := []) hfix (zcX1_at l D cI H (a + 1) 12 v p (va_P.sub (ws' := (zRow cI (a + 1) 12 v)) hH [1, 2] rfl) (by omega) (by omega)) (cwV 1 hts gX0_value_X1_at rfl rfl rfl (by decide +kernel) ⟨Nat.le_of_ble_eq_true rfl, Nat.le_of_ble_eq_true rfl⟩) (z_preV hK hK hH (ci := 1) (q0 := 1) rfl rfl rfl) rfl rfl hl.1 rfl (lv_room (Nat.le_of_ble_eq_true rfl)) dX0_value_5 ⟨by omega, by omega⟩) ?_
  exact z_iret hx hb hr hlocks dX0_value_8
set_option maxHeartbeats 4000000 in
set_option maxRecDepth 100000 in
/-- Halves.from -/
theorem zcX0_from (l : Launch) (D : va_G) (cI : ClassId) (H : Heap) (a : Nat) (v : Nat → Int32) (f : Nat → Int32) (w : Nat → Int32) (p : Nat) (hH : va_P D vwCl (zHalves cI a v f w) H) (hp : p < 12) : Met l yX0_from wsX0_from ({ frames := 1, cells := 0, slots := 0, locals := 21 } : Room) (zPc D [(cI, .int)] H [.ref a, .int (nI p)]) (zQ (some (.int (f p))) H) 0 0 (fun _ => False) := by
  refine z_enter (cc := cX0_from) (maxL := 2) (ret := (some .int)) (by decide) rfl (Nat.le_of_ble_eq_true rfl) ?_
  intro pg ev s m args below meth cd hfix hr hlocks hname hK hHs ls hl
  obtain ⟨hx, hb, hml, hown, hts⟩ := id hfix
  have hl : lv_has ls 2 [(0, .ref a), (1, .int (nI p))] := hl
  have hinX0 : ∀ w ∈ wsX00, w ∈ wsX0_from := by decide +kernel
  refine lv_aload_n hx hb dX0_from_0 rfl (lv_at hl 0 rfl) ?_
  refine va_get (D := D) (ci := 0) (v := .ref (a + 3)) (C := RX0) (T := TX0) (N := 3) hx hb hts hinX0 hown hK hH 0 rfl rfl 1 (by decide) (hts _ (List.mem_of_getElem? (i := 1) rfl)) (fun _ h9 => h9) rfl dX0_from_1 ?_
  refine lv_iload_n hx hb dX0_from_4 rfl (lv_at hl 1 rfl) ?_
  refine z_ki (va_runV (As := [.int (nI p)]) (rest := []) hfix (zcX1_at l D cI H (a + 3) 12 f p (va_P.sub (ws' := (zRow cI (a + 3) 12 f)) hH [3, 4] rfl) (by omega) (by omega)) (cwV 1 hts gX0_from_X1_at rfl rfl rfl (by decide +kernel) ⟨Nat.le_of_ble_eq_true rfl, Nat.le_of_ble_eq_true rfl⟩) (z_preV hK hK hH (ci := 1) (q0 := 3) rfl rfl rfl) rfl rfl hl.1 rfl (lv_room (Nat.le_of_ble_eq_true rfl)) dX0_from_5 ⟨by omega, by omega⟩) ?_
  exact z_iret hx hb hr hlocks dX0_from_8
set_option maxHeartbeats 4000000 in
set_option maxRecDepth 100000 in
/-- Halves.over -/
theorem zcX0_over (l : Launch) (D : va_G) (cI : ClassId) (H : Heap) (a : Nat) (v : Nat → Int32) (f : Nat → Int32) (w : Nat → Int32) (p : Nat) (hH : va_P D vwCl (zHalves cI a v f w) H) (hp : p < 12) : Met l yX0_over wsX0_over ({ frames := 1, cells := 0, slots := 0, locals := 21 } : Room) (zPc D [(cI, .int)] H [.ref a, .int (nI p)]) (zQ (some (.int (w p))) H) 0 0 (fun _ => False) := by
  refine z_enter (cc := cX0_over) (maxL := 2) (ret := (some .int)) (by decide) rfl (Nat.le_of_ble_eq_true rfl) ?_
  intro pg ev s m args below meth cd hfix hr hlocks hname hK hHs ls hl
  obtain ⟨hx, hb, hml, hown, hts⟩ := id hfix
  have hl : lv_has ls 2 [(0, .ref a), (1, .int (nI p))] := hl
  have hinX0 : ∀ w ∈ wsX00, w ∈ wsX0_over := by decide +kernel
  refine lv_aload_n hx hb dX0_over_0 rfl (lv_at hl 0 rfl) ?_
  refine va_get (D := D) (ci := 0) (v := .ref (a + 5)) (C := RX0) (T := TX0) (N := 3) hx hb hts hinX0 hown hK hH 0 rfl rfl 2 (by decide) (hts _ (List.mem_of_getElem? (i := 1) rfl)) (fun _ h9 => h9) rfl dX0_over_1 ?_
  refine lv_iload_n hx hb dX0_over_4 rfl (lv_at hl 1 rfl) ?_
  refine z_ki (va_runV (As := [.int (nI p)]) (rest := []) hfix (zcX1_at l D cI H (a + 5) 12 w p (va_P.sub (ws' := (zRow cI (a + 5) 12 w)) hH [5, 6] rfl) (by omega) (by omega)) (cwV 1 hts gX0_over_X1_at rfl rfl rfl (by decide +kernel) ⟨Nat.le_of_ble_eq_true rfl, Nat.le_of_ble_eq_true rfl⟩) (z_preV hK hK hH (ci := 1) (q0 := 5) rfl rfl rfl) rfl rfl hl.1 rfl (lv_room (Nat.le_of_ble_eq_true rfl)) dX0_over_5 ⟨by omega, by omega⟩) ?_
  exact z_iret hx hb hr hlocks dX0_over_8
set_option maxHeartbeats 4000000 in
set_option maxRecDepth 100000 in
/-- Halves.takeFromCourt -/
theorem zcX0_takeFromCourt (l : Launch) (D : va_G) (cI : ClassId) (H : Heap) (a : Nat) (v : Nat → Int32) (f : Nat → Int32) (w : Nat → Int32) (p : Nat) (x : Int32) (hH : va_P D vwCl (zHalves cI a v f w) H) (hp : p < 12) : Met l yX0_takeFromCourt wsX0_takeFromCourt ({ frames := 1, cells := 0, slots := 0, locals := 22 } : Room) (zPc D [(cI, .int)] H [.ref a, .int (nI p), .int x]) (zM (fun H1 => va_P D vwCl (zHalves cI a (upd v p x) (upd f p (-1)) (upd w p 0)) H1 ∧ H1.size = H.size) none (zF (a + 1) (a + 7))) 0 0 (zF (a + 1) (a + 7)) := by
  refine z_enter (cc := cX0_takeFromCourt) (maxL := 3) (ret := none) (by decide) rfl (Nat.le_of_ble_eq_true rfl) ?_
  intro pg ev s m args below meth cd hfix hr hlocks hname hK hHs ls hl
  obtain ⟨hx, hb, hml, hown, hts⟩ := id hfix
  have hl : lv_has ls 3 [(0, .ref a), (1, .int (nI p)), (2, .int x)] := hl
  have hS : va_S (zF (a + 1) (a + 7)) s.heap H [] := by rw [hHs]; exact va_S.rf
  have hz : H.size = H.size := rfl
  have hinX0 : ∀ w ∈ wsX00, w ∈ wsX0_takeFromCourt := by decide +kernel
  refine lv_aload_n hx hb dX0_takeFromCourt_0 rfl (lv_at hl 0 rfl) ?_
  refine va_get (D := D) (ci := 0) (v := .ref (a + 1)) (C := RX0) (T := TX0) (N := 3) hx hb hts hinX0 hown hK hH 0 rfl rfl 0 (by decide) (hts _ (List.mem_of_getElem? (i := 1) rfl)) (fun _ h9 => h9) rfl dX0_takeFromCourt_1 ?_
  refine lv_iload_n hx hb dX0_takeFromCourt_4 rfl (lv_at hl 1 rfl) ?_
  refine lv_iload_n hx hb dX0_takeFromCourt_5 rfl (lv_at hl 2 rfl) ?_
  refine z_mv (va_runV (As := [.int (nI p), .int x]) (rest := []) hfix (zcX1_put l D cI H (a + 1) 12 v p x (va_P.sub (ws' := (zRow cI (a + 1) 12 v)) hH [1, 2] rfl) (by omega) (by omega)) (cwV 2 hts gX0_takeFromCourt_X1_put rfl rfl rfl (by decide +kernel) ⟨Nat.le_of_ble_eq_true rfl, Nat.le_of_ble_eq_true rfl⟩) (z_preV hK hK hH (ci := 1) (q0 := 1) rfl rfl rfl) rfl rfl hl.1 rfl (lv_room (Nat.le_of_ble_eq_true rfl)) dX0_takeFromCourt_6 ⟨by omega, by omega⟩) hS (fun q _ h => by simp only [zF] at h ⊢; omega) (fun q h => by simp only [zF] at h ⊢; omega) (fun H1 lo2 hB hz1 hk1 hS => ?_)
  have hz : H1.size = H.size := (hB.2).trans hz
  have hH3 : va_P D vwCl (zHalves cI a (upd v p x) f w) H1 := zH_sub 0 hH (by decide) hB.1 (fun q h1 h2 => hk1 q h1 (fun h3 => h2 (by simp only [zF] at h3 ⊢; omega)))
  refine lv_aload_n hx hb dX0_takeFromCourt_9 rfl (lv_at hl 0 rfl) ?_
  refine va_get (D := D) (ci := 0) (v := .ref (a + 3)) (C := RX0) (T := TX0) (N := 3) hx hb hts hinX0 hown hK hH3 0 rfl rfl 1 (by decide) (hts _ (List.mem_of_getElem? (i := 2) rfl)) (fun _ h9 => h9) rfl dX0_takeFromCourt_10 ?_
  refine lv_iload_n hx hb dX0_takeFromCourt_13 rfl (lv_at hl 1 rfl) ?_
  refine lv_iconst (v := (-1)) hx hb dX0_takeFromCourt_14 (by decide) ?_
  refine z_mv (va_runV (As := [.int (nI p), .int (-1)]) (rest := []) hfix (zcX1_put l D cI H1 (a + 3) 12 f p (-1) (va_P.sub (ws' := (zRow cI (a + 3) 12 f)) hH3 [3, 4] rfl) (by omega) (by omega)) (cwV 2 hts gX0_takeFromCourt_X1_put rfl rfl rfl (by decide +kernel) ⟨Nat.le_of_ble_eq_true rfl, Nat.le_of_ble_eq_true rfl⟩) (z_preV hK hK hH3 (ci := 1) (q0 := 3) rfl rfl rfl) rfl rfl hl.1 rfl (lv_room (Nat.le_of_ble_eq_true rfl)) dX0_takeFromCourt_15 ⟨by omega, by omega⟩) hS (fun q _ h => by simp only [zF] at h ⊢; omega) (fun q h => by simp only [zF] at h ⊢; omega) (fun H4 lo5 hB hz1 hk1 hS => ?_)
  have hz : H4.size = H.size := (hB.2).trans hz
  have hH6 : va_P D vwCl (zHalves cI a (upd v p x) (upd f p (-1)) w) H4 := zH_sub 1 hH3 (by decide) hB.1 (fun q h1 h2 => hk1 q h1 (fun h3 => h2 (by simp only [zF] at h3 ⊢; omega)))
  refine lv_aload_n hx hb dX0_takeFromCourt_18 rfl (lv_at hl 0 rfl) ?_
  refine va_get (D := D) (ci := 0) (v := .ref (a + 5)) (C := RX0) (T := TX0) (N := 3) hx hb hts hinX0 hown hK hH6 0 rfl rfl 2 (by decide) (hts _ (List.mem_of_getElem? (i := 3) rfl)) (fun _ h9 => h9) rfl dX0_takeFromCourt_19 ?_
  refine lv_iload_n hx hb dX0_takeFromCourt_22 rfl (lv_at hl 1 rfl) ?_
  refine lv_iconst (v := 0) hx hb dX0_takeFromCourt_23 (by decide) ?_
  refine z_mv (va_runV (As := [.int (nI p), .int 0]) (rest := []) hfix (zcX1_put l D cI H4 (a + 5) 12 w p 0 (va_P.sub (ws' := (zRow cI (a + 5) 12 w)) hH6 [5, 6] rfl) (by omega) (by omega)) (cwV 2 hts gX0_takeFromCourt_X1_put rfl rfl rfl (by decide +kernel) ⟨Nat.le_of_ble_eq_true rfl, Nat.le_of_ble_eq_true rfl⟩) (z_preV hK hK hH6 (ci := 1) (q0 := 5) rfl rfl rfl) rfl rfl hl.1 rfl (lv_room (Nat.le_of_ble_eq_true rfl)) dX0_takeFromCourt_24 ⟨by omega, by omega⟩) hS (fun q _ h => by simp only [zF] at h ⊢; omega) (fun q h => by simp only [zF] at h ⊢; omega) (fun H7 lo8 hB hz1 hk1 hS => ?_)
  have hz : H7.size = H.size := (hB.2).trans hz
  have hH9 : va_P D vwCl (zHalves cI a (upd v p x) (upd f p (-1)) (upd w p 0)) H7 := zH_sub 2 hH6 (by decide) hB.1 (fun q h1 h2 => hk1 q h1 (fun h3 => h2 (by simp only [zF] at h3 ⊢; omega)))
  exact z_vretM (⟨hH9, hz⟩) hx hb hr hlocks hS dX0_takeFromCourt_27
set_option maxHeartbeats 4000000 in
set_option maxRecDepth 100000 in
/-- Halves.takeFrom another -/
theorem zcX0_takeFrom (l : Launch) (D : va_G) (cI : ClassId) (H : Heap) (a : Nat) (v : Nat → Int32) (f : Nat → Int32) (w : Nat → Int32) (a2 : Nat) (v2 : Nat → Int32) (f2 : Nat → Int32) (w2 : Nat → Int32) (p : Nat) (o : Nat) (hH : va_P D vwCl (zHalves cI a v f w) H) (hH2 : va_P D vwCl (zHalves cI a2 v2 f2 w2) H) (hp : p < 12) (ho : o < 12) (hd : a + 7 ≤ a2 ∨ a2 + 7 ≤ a) : Met l yX0_takeFrom wsX0_takeFrom ({ frames := 1, cells := 0, slots := 0, locals := 22 } : Room) (zPc D [(cI, .int)] H [.ref a, .int (nI p), .int (nI o), .ref a2]) (zM (fun H1 => va_P D vwCl (zHalves cI a (upd v p (v2 o)) (upd f p (nI o)) (upd w p (zmin (w2 o + 1) 99))) H1 ∧ H1.size = H.size) none (zF (a + 1) (a + 7))) 0 0 (zF (a + 1) (a + 7)) := by
  refine z_enter (cc := cX0_takeFrom) (maxL := 4) (ret := none) (by decide) rfl (Nat.le_of_ble_eq_true rfl) ?_
  intro pg ev s m args below meth cd hfix hr hlocks hname hK hHs ls hl
  obtain ⟨hx, hb, hml, hown, hts⟩ := id hfix
  have hl : lv_has ls 4 [(0, .ref a), (1, .int (nI p)), (2, .int (nI o)), (3, .ref a2)] := hl
  have hS : va_S (zF (a + 1) (a + 7)) s.heap H [] := by rw [hHs]; exact va_S.rf
  have hz : H.size = H.size := rfl
  have hinX0 : ∀ w ∈ wsX00, w ∈ wsX0_takeFrom := by decide +kernel
  have hI := hH2
  refine lv_aload_n hx hb dX0_takeFrom_0 rfl (lv_at hl 0 rfl) ?_
  refine va_get (D := D) (ci := 0) (v := .ref (a + 1)) (C := RX0) (T := TX0) (N := 3) hx hb hts hinX0 hown hK hH 0 rfl rfl 0 (by decide) (hts _ (List.mem_of_getElem? (i := 1) rfl)) (fun _ h9 => h9) rfl dX0_takeFrom_1 ?_
  refine lv_iload_n hx hb dX0_takeFrom_4 rfl (lv_at hl 1 rfl) ?_
  refine lv_aload_n hx hb dX0_takeFrom_5 rfl (lv_at hl 3 rfl) ?_
  refine va_get (D := D) (ci := 0) (v := .ref (a2 + 1)) (C := RX0) (T := TX0) (N := 3) hx hb hts hinX0 hown hK hI 0 rfl rfl 0 (by decide) (hts _ (List.mem_of_getElem? (i := 1) rfl)) (fun _ h9 => h9) rfl dX0_takeFrom_6 ?_
  refine lv_iload_n hx hb dX0_takeFrom_9 rfl (lv_at hl 2 rfl) ?_
  refine z_ki (va_runV (As := [.int (nI o)]) (rest := [.int (nI p), .ref (a + 1)]) hfix (zcX1_at l D cI H (a2 + 1) 12 v2 o (va_P.sub (ws' := (zRow cI (a2 + 1) 12 v2)) hI [1, 2] rfl) (by omega) (by omega)) (cwV 1 hts gX0_takeFrom_X1_at rfl rfl rfl (by decide +kernel) ⟨Nat.le_of_ble_eq_true rfl, Nat.le_of_ble_eq_true rfl⟩) (z_preV hK hK hI (ci := 1) (q0 := 1) rfl rfl rfl) rfl rfl hl.1 rfl (lv_room (Nat.le_of_ble_eq_true rfl)) dX0_takeFrom_10 ⟨by omega, by omega⟩) ?_
  refine z_mv (va_runV (As := [.int (nI p), .int (v2 o)]) (rest := []) hfix (zcX1_put l D cI H (a + 1) 12 v p (v2 o) (va_P.sub (ws' := (zRow cI (a + 1) 12 v)) hH [1, 2] rfl) (by omega) (by omega)) (cwV 2 hts gX0_takeFrom_X1_put rfl rfl rfl (by decide +kernel) ⟨Nat.le_of_ble_eq_true rfl, Nat.le_of_ble_eq_true rfl⟩) (z_preV hK hK hH (ci := 1) (q0 := 1) rfl rfl rfl) rfl rfl hl.1 rfl (lv_room (Nat.le_of_ble_eq_true rfl)) dX0_takeFrom_13 ⟨by omega, by omega⟩) hS (fun q _ h => by simp only [zF] at h ⊢; omega) (fun q h => by simp only [zF] at h ⊢; omega) (fun H1 lo2 hB hz1 hk1 hS => ?_)
  have hz : H1.size = H.size := (hB.2).trans hz
  have hH3 : va_P D vwCl (zHalves cI a (upd v p (v2 o)) f w) H1 := zH_sub 0 hH (by decide) hB.1 (fun q h1 h2 => hk1 q h1 (fun h3 => h2 (by simp only [zF] at h3 ⊢; omega)))
  have hI4 := zH_kept hI (fun q h1 h2 h3 => hk1 q h1 (by simp only [zF]; omega))
  refine lv_aload_n hx hb dX0_takeFrom_16 rfl (lv_at hl 0 rfl) ?_
  refine va_get (D := D) (ci := 0) (v := .ref (a + 3)) (C := RX0) (T := TX0) (N := 3) hx hb hts hinX0 hown hK hH3 0 rfl rfl 1 (by decide) (hts _ (List.mem_of_getElem? (i := 2) rfl)) (fun _ h9 => h9) rfl dX0_takeFrom_17 ?_
  refine lv_iload_n hx hb dX0_takeFrom_20 rfl (lv_at hl 1 rfl) ?_
  refine lv_iload_n hx hb dX0_takeFrom_21 rfl (lv_at hl 2 rfl) ?_
  refine z_mv (va_runV (As := [.int (nI p), .int (nI o)]) (rest := []) hfix (zcX1_put l D cI H1 (a + 3) 12 f p (nI o) (va_P.sub (ws' := (zRow cI (a + 3) 12 f)) hH3 [3, 4] rfl) (by omega) (by omega)) (cwV 2 hts gX0_takeFrom_X1_put rfl rfl rfl (by decide +kernel) ⟨Nat.le_of_ble_eq_true rfl, Nat.le_of_ble_eq_true rfl⟩) (z_preV hK hK hH3 (ci := 1) (q0 := 3) rfl rfl rfl) rfl rfl hl.1 rfl (lv_room (Nat.le_of_ble_eq_true rfl)) dX0_takeFrom_22 ⟨by omega, by omega⟩) hS (fun q _ h => by simp only [zF] at h ⊢; omega) (fun q h => by simp only [zF] at h ⊢; omega) (fun H5 lo6 hB hz1 hk1 hS => ?_)
  have hz : H5.size = H.size := (hB.2).trans hz
  have hH7 : va_P D vwCl (zHalves cI a (upd v p (v2 o)) (upd f p (nI o)) w) H5 := zH_sub 1 hH3 (by decide) hB.1 (fun q h1 h2 => hk1 q h1 (fun h3 => h2 (by simp only [zF] at h3 ⊢; omega)))
  have hI8 := zH_kept hI4 (fun q h1 h2 h3 => hk1 q h1 (by simp only [zF]; omega))
  refine lv_aload_n hx hb dX0_takeFrom_25 rfl (lv_at hl 0 rfl) ?_
  refine va_get (D := D) (ci := 0) (v := .ref (a + 5)) (C := RX0) (T := TX0) (N := 3) hx hb hts hinX0 hown hK hH7 0 rfl rfl 2 (by decide) (hts _ (List.mem_of_getElem? (i := 3) rfl)) (fun _ h9 => h9) rfl dX0_takeFrom_26 ?_
  refine lv_iload_n hx hb dX0_takeFrom_29 rfl (lv_at hl 1 rfl) ?_
  refine lv_aload_n hx hb dX0_takeFrom_30 rfl (lv_at hl 3 rfl) ?_
  refine va_get (D := D) (ci := 0) (v := .ref (a2 + 5)) (C := RX0) (T := TX0) (N := 3) hx hb hts hinX0 hown hK hI8 0 rfl rfl 2 (by decide) (hts _ (List.mem_of_getElem? (i := 3) rfl)) (fun _ h9 => h9) rfl dX0_takeFrom_31 ?_
  refine lv_iload_n hx hb dX0_takeFrom_34 rfl (lv_at hl 2 rfl) ?_
  refine z_ki (va_runV (As := [.int (nI o)]) (rest := [.int (nI p), .ref (a + 5)]) hfix (zcX1_at l D cI H5 (a2 + 5) 12 w2 o (va_P.sub (ws' := (zRow cI (a2 + 5) 12 w2)) hI8 [5, 6] rfl) (by omega) (by omega)) (cwV 1 hts gX0_takeFrom_X1_at rfl rfl rfl (by decide +kernel) ⟨Nat.le_of_ble_eq_true rfl, Nat.le_of_ble_eq_true rfl⟩) (z_preV hK hK hI8 (ci := 1) (q0 := 5) rfl rfl rfl) rfl rfl hl.1 rfl (lv_room (Nat.le_of_ble_eq_true rfl)) dX0_takeFrom_35 ⟨by omega, by omega⟩) ?_
  refine lv_iconst (v := 1) hx hb dX0_takeFrom_38 (by decide) ?_
  refine lv_iadd hx hb dX0_takeFrom_39 ?_
  refine lv_bipush (v := 99) hx hb dX0_takeFrom_40 (by decide) ?_
  refine va_mmin hx hb (by rw [hml]; exact hl.1.symm) hown (hts _ (List.mem_of_getElem? (i := 4) rfl)) (hts _ (List.mem_of_getElem? (i := 5) rfl)) (hts _ (List.mem_of_getElem? (i := 6) rfl)) (hts _ (List.mem_of_getElem? (i := 7) rfl)) (Nat.le_of_ble_eq_true rfl) (Nat.le_of_ble_eq_true rfl) (by omega) (by omega) dX0_takeFrom_42 ?_
  refine z_toi (y := zmin ((w2 o) + 1) 99) rfl ?_
  refine z_mv (va_runV (As := [.int (nI p), .int (zmin ((w2 o) + 1) 99)]) (rest := []) hfix (zcX1_put l D cI H5 (a + 5) 12 w p (zmin ((w2 o) + 1) 99) (va_P.sub (ws' := (zRow cI (a + 5) 12 w)) hH7 [5, 6] rfl) (by omega) (by omega)) (cwV 2 hts gX0_takeFrom_X1_put rfl rfl rfl (by decide +kernel) ⟨Nat.le_of_ble_eq_true rfl, Nat.le_of_ble_eq_true rfl⟩) (z_preV hK hK hH7 (ci := 1) (q0 := 5) rfl rfl rfl) rfl rfl hl.1 rfl (lv_room (Nat.le_of_ble_eq_true rfl)) dX0_takeFrom_45 ⟨by omega, by omega⟩) hS (fun q _ h => by simp only [zF] at h ⊢; omega) (fun q h => by simp only [zF] at h ⊢; omega) (fun H9 lo10 hB hz1 hk1 hS => ?_)
  have hz : H9.size = H.size := (hB.2).trans hz
  have hH11 : va_P D vwCl (zHalves cI a (upd v p (v2 o)) (upd f p (nI o)) (upd w p (zmin ((w2 o) + 1) 99))) H9 := zH_sub 2 hH7 (by decide) hB.1 (fun q h1 h2 => hk1 q h1 (fun h3 => h2 (by simp only [zF] at h3 ⊢; omega)))
  have hI12 := zH_kept hI8 (fun q h1 h2 h3 => hk1 q h1 (by simp only [zF]; omega))
  exact z_vretM (⟨hH11, hz⟩) hx hb hr hlocks hS dX0_takeFrom_48
set_option maxHeartbeats 4000000 in
set_option maxRecDepth 100000 in
/-- Halves.copyFrom another -/
theorem zcX0_copyFrom (l : Launch) (D : va_G) (cI : ClassId) (H : Heap) (a : Nat) (v : Nat → Int32) (f : Nat → Int32) (w : Nat → Int32) (a2 : Nat) (v2 : Nat → Int32) (f2 : Nat → Int32) (w2 : Nat → Int32) (hH : va_P D vwCl (zHalves cI a v f w) H) (hH2 : va_P D vwCl (zHalves cI a2 v2 f2 w2) H) (hd : a + 7 ≤ a2 ∨ a2 + 7 ≤ a) : Met l yX0_copyFrom wsX0_copyFrom ({ frames := 2, cells := 0, slots := 0, locals := 39 } : Room) (zPc D [(cI, .int)] H [.ref a, .ref a2]) (zM (fun H1 => va_P D vwCl (zHalves cI a v2 f2 w2) H1 ∧ H1.size = H.size) none (zF (a + 1) (a + 7))) 0 0 (zF (a + 1) (a + 7)) := by
  refine z_enter (cc := cX0_copyFrom) (maxL := 2) (ret := none) (by decide) rfl (Nat.le_of_ble_eq_true rfl) ?_
  intro pg ev s m args below meth cd hfix hr hlocks hname hK hHs ls hl
  obtain ⟨hx, hb, hml, hown, hts⟩ := id hfix
  have hl : lv_has ls 2 [(0, .ref a), (1, .ref a2)] := hl
  have hS : va_S (zF (a + 1) (a + 7)) s.heap H [] := by rw [hHs]; exact va_S.rf
  have hz : H.size = H.size := rfl
  have hinX0 : ∀ w ∈ wsX00, w ∈ wsX0_copyFrom := by decide +kernel
  have hI := hH2
  refine lv_aload_n hx hb dX0_copyFrom_0 rfl (lv_at hl 0 rfl) ?_
  refine va_get (D := D) (ci := 0) (v := .ref (a + 1)) (C := RX0) (T := TX0) (N := 3) hx hb hts hinX0 hown hK hH 0 rfl rfl 0 (by decide) (hts _ (List.mem_of_getElem? (i := 1) rfl)) (fun _ h9 => h9) rfl dX0_copyFrom_1 ?_
  refine lv_aload_n hx hb dX0_copyFrom_4 rfl (lv_at hl 1 rfl) ?_
  refine va_get (D := D) (ci := 0) (v := .ref (a2 + 1)) (C := RX0) (T := TX0) (N := 3) hx hb hts hinX0 hown hK hI 0 rfl rfl 0 (by decide) (hts _ (List.mem_of_getElem? (i := 1) rfl)) (fun _ h9 => h9) rfl dX0_copyFrom_5 ?_
  refine z_mv (va_runV (As := [.ref (a2 + 1)]) (rest := []) hfix (zcX1_copyFrom l D cI H (a + 1) (a2 + 1) 12 v v2 (va_P.sub (ws' := (zRow cI (a + 1) 12 v)) hH [1, 2] rfl) (va_P.sub (ws' := (zRow cI (a2 + 1) 12 v2)) hI [1, 2] rfl) (by omega) (by omega)) (cwV 1 hts gX0_copyFrom_X1_copyFrom rfl rfl rfl (by decide +kernel) ⟨Nat.le_of_ble_eq_true rfl, Nat.le_of_ble_eq_true rfl⟩) (z_preV hK hK hH (ci := 1) (q0 := 1) rfl rfl rfl) rfl rfl hl.1 rfl (lv_room (Nat.le_of_ble_eq_true rfl)) dX0_copyFrom_8 ⟨by omega, by omega⟩) hS (fun q _ h => by simp only [zF] at h ⊢; omega) (fun q h => by simp only [zF] at h ⊢; omega) (fun H1 lo2 hB hz1 hk1 hS => ?_)
  have hz : H1.size = H.size := (hB.2).trans hz
  have hH3 : va_P D vwCl (zHalves cI a v2 f w) H1 := zH_sub 0 hH (by decide) hB.1 (fun q h1 h2 => hk1 q h1 (fun h3 => h2 (by simp only [zF] at h3 ⊢; omega)))
  have hI4 := zH_kept hI (fun q h1 h2 h3 => hk1 q h1 (by simp only [zF]; omega))
  refine lv_aload_n hx hb dX0_copyFrom_11 rfl (lv_at hl 0 rfl) ?_
  refine va_get (D := D) (ci := 0) (v := .ref (a + 3)) (C := RX0) (T := TX0) (N := 3) hx hb hts hinX0 hown hK hH3 0 rfl rfl 1 (by decide) (hts _ (List.mem_of_getElem? (i := 2) rfl)) (fun _ h9 => h9) rfl dX0_copyFrom_12 ?_
  refine lv_aload_n hx hb dX0_copyFrom_15 rfl (lv_at hl 1 rfl) ?_
  refine va_get (D := D) (ci := 0) (v := .ref (a2 + 3)) (C := RX0) (T := TX0) (N := 3) hx hb hts hinX0 hown hK hI4 0 rfl rfl 1 (by decide) (hts _ (List.mem_of_getElem? (i := 2) rfl)) (fun _ h9 => h9) rfl dX0_copyFrom_16 ?_
  refine z_mv (va_runV (As := [.ref (a2 + 3)]) (rest := []) hfix (zcX1_copyFrom l D cI H1 (a + 3) (a2 + 3) 12 f f2 (va_P.sub (ws' := (zRow cI (a + 3) 12 f)) hH3 [3, 4] rfl) (va_P.sub (ws' := (zRow cI (a2 + 3) 12 f2)) hI4 [3, 4] rfl) (by omega) (by omega)) (cwV 1 hts gX0_copyFrom_X1_copyFrom rfl rfl rfl (by decide +kernel) ⟨Nat.le_of_ble_eq_true rfl, Nat.le_of_ble_eq_true rfl⟩) (z_preV hK hK hH3 (ci := 1) (q0 := 3) rfl rfl rfl) rfl rfl hl.1 rfl (lv_room (Nat.le_of_ble_eq_true rfl)) dX0_copyFrom_19 ⟨by omega, by omega⟩) hS (fun q _ h => by simp only [zF] at h ⊢; omega) (fun q h => by simp only [zF] at h ⊢; omega) (fun H5 lo6 hB hz1 hk1 hS => ?_)
  have hz : H5.size = H.size := (hB.2).trans hz
  have hH7 : va_P D vwCl (zHalves cI a v2 f2 w) H5 := zH_sub 1 hH3 (by decide) hB.1 (fun q h1 h2 => hk1 q h1 (fun h3 => h2 (by simp only [zF] at h3 ⊢; omega)))
  have hI8 := zH_kept hI4 (fun q h1 h2 h3 => hk1 q h1 (by simp only [zF]; omega))
  refine lv_aload_n hx hb dX0_copyFrom_22 rfl (lv_at hl 0 rfl) ?_
  refine va_get (D := D) (ci := 0) (v := .ref (a + 5)) (C := RX0) (T := TX0) (N := 3) hx hb hts hinX0 hown hK hH7 0 rfl rfl 2 (by decide) (hts _ (List.mem_of_getElem? (i := 3) rfl)) (fun _ h9 => h9) rfl dX0_copyFrom_23 ?_
  refine lv_aload_n hx hb dX0_copyFrom_26 rfl (lv_at hl 1 rfl) ?_
  refine va_get (D := D) (ci := 0) (v := .ref (a2 + 5)) (C := RX0) (T := TX0) (N := 3) hx hb hts hinX0 hown hK hI8 0 rfl rfl 2 (by decide) (hts _ (List.mem_of_getElem? (i := 3) rfl)) (fun _ h9 => h9) rfl dX0_copyFrom_27 ?_
  refine z_mv (va_runV (As := [.ref (a2 + 5)]) (rest := []) hfix (zcX1_copyFrom l D cI H5 (a + 5) (a2 + 5) 12 w w2 (va_P.sub (ws' := (zRow cI (a + 5) 12 w)) hH7 [5, 6] rfl) (va_P.sub (ws' := (zRow cI (a2 + 5) 12 w2)) hI8 [5, 6] rfl) (by omega) (by omega)) (cwV 1 hts gX0_copyFrom_X1_copyFrom rfl rfl rfl (by decide +kernel) ⟨Nat.le_of_ble_eq_true rfl, Nat.le_of_ble_eq_true rfl⟩) (z_preV hK hK hH7 (ci := 1) (q0 := 5) rfl rfl rfl) rfl rfl hl.1 rfl (lv_room (Nat.le_of_ble_eq_true rfl)) dX0_copyFrom_30 ⟨by omega, by omega⟩) hS (fun q _ h => by simp only [zF] at h ⊢; omega) (fun q h => by simp only [zF] at h ⊢; omega) (fun H9 lo10 hB hz1 hk1 hS => ?_)
  have hz : H9.size = H.size := (hB.2).trans hz
  have hH11 : va_P D vwCl (zHalves cI a v2 f2 w2) H9 := zH_sub 2 hH7 (by decide) hB.1 (fun q h1 h2 => hk1 q h1 (fun h3 => h2 (by simp only [zF] at h3 ⊢; omega)))
  have hI12 := zH_kept hI8 (fun q h1 h2 h3 => hk1 q h1 (by simp only [zF]; omega))
  exact z_vretM (⟨hH11, hz⟩) hx hb hr hlocks hS dX0_copyFrom_33
