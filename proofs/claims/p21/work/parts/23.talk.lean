set_option maxHeartbeats 4000000 in
set_option maxRecDepth 100000 in
/-- Talk.round -/
theorem zcX3_round (l : Launch) (D : va_G) (cI : ClassId) (H : Heap) (b : Nat) (rd : Int32) (tk : Int32) (g : zG) (hT : va_P D vwCl (zTalk cI b rd tk g) H) : Met l yX3_round wsX3_round ({ frames := 0, cells := 0, slots := 0, locals := 0 } : Room) (zPc D [(cI, .int)] H [.ref b]) (zQ (some (.int rd)) H) 0 0 (fun _ => False) := by
  refine z_enter (cc := cX3_round) (maxL := 1) (ret := (some .int)) (by decide) rfl (Nat.le_of_ble_eq_true rfl) ?_
  intro pg ev s m args below meth cd hfix hr hlocks hname hK hHs ls hl
  obtain ⟨hx, hb, hml, hown, hts⟩ := id hfix
  have hl : lv_has ls 1 [(0, .ref b)] := hl
  have hinX3 : ∀ w ∈ wsX30, w ∈ wsX3_round := by decide +kernel
  refine lv_aload_n hx hb dX3_round_0 rfl (lv_at hl 0 rfl) ?_
  refine va_get (D := D) (ci := 3) (v := .int rd) (C := RX3) (T := TX3) (N := 5) hx hb hts hinX3 hown hK hT 0 rfl rfl 0 (by decide) (hts _ (List.mem_of_getElem? (i := 1) rfl)) (fun _ h9 => h9) rfl dX3_round_1 ?_
  exact z_iret hx hb hr hlocks dX3_round_4
set_option maxHeartbeats 4000000 in
set_option maxRecDepth 100000 in
/-- Talk.taken -/
theorem zcX3_taken (l : Launch) (D : va_G) (cI : ClassId) (H : Heap) (b : Nat) (rd : Int32) (tk : Int32) (g : zG) (hT : va_P D vwCl (zTalk cI b rd tk g) H) : Met l yX3_taken wsX3_taken ({ frames := 0, cells := 0, slots := 0, locals := 0 } : Room) (zPc D [(cI, .int)] H [.ref b]) (zQ (some (.int tk)) H) 0 0 (fun _ => False) := by
  refine z_enter (cc := cX3_taken) (maxL := 1) (ret := (some .int)) (by decide) rfl (Nat.le_of_ble_eq_true rfl) ?_
  intro pg ev s m args below meth cd hfix hr hlocks hname hK hHs ls hl
  obtain ⟨hx, hb, hml, hown, hts⟩ := id hfix
  have hl : lv_has ls 1 [(0, .ref b)] := hl
  have hinX3 : ∀ w ∈ wsX30, w ∈ wsX3_taken := by decide +kernel
  refine lv_aload_n hx hb dX3_taken_0 rfl (lv_at hl 0 rfl) ?_
  refine va_get (D := D) (ci := 3) (v := .int tk) (C := RX3) (T := TX3) (N := 5) hx hb hts hinX3 hown hK hT 0 rfl rfl 1 (by decide) (hts _ (List.mem_of_getElem? (i := 1) rfl)) (fun _ h9 => h9) rfl dX3_taken_1 ?_
  exact z_iret hx hb hr hlocks dX3_taken_4
set_option maxHeartbeats 4000000 in
set_option maxRecDepth 100000 in
/-- Talk.sure -/
theorem zcX3_sure (l : Launch) (D : va_G) (cI : ClassId) (H : Heap) (b : Nat) (rd : Int32) (tk : Int32) (g : zG) (p : Nat) (hT : va_P D vwCl (zTalk cI b rd tk g) H) (hp : p < 12) : Met l yX3_sure wsX3_sure ({ frames := 1, cells := 0, slots := 0, locals := 21 } : Room) (zPc D [(cI, .int)] H [.ref b, .int (nI p)]) (zQ (some (.int (g 6 p))) H) 0 0 (fun _ => False) := by
  refine z_enter (cc := cX3_sure) (maxL := 2) (ret := (some .int)) (by decide) rfl (Nat.le_of_ble_eq_true rfl) ?_
  intro pg ev s m args below meth cd hfix hr hlocks hname hK hHs ls hl
  obtain ⟨hx, hb, hml, hown, hts⟩ := id hfix
  have hl : lv_has ls 2 [(0, .ref b), (1, .int (nI p))] := hl
  have hinX3 : ∀ w ∈ wsX30, w ∈ wsX3_sure := by decide +kernel
  refine lv_aload_n hx hb dX3_sure_0 rfl (lv_at hl 0 rfl) ?_
  refine va_get (D := D) (ci := 3) (v := .ref (b + 1)) (C := RX3) (T := TX3) (N := 5) hx hb hts hinX3 hown hK hT 0 rfl rfl 2 (by decide) (hts _ (List.mem_of_getElem? (i := 1) rfl)) (fun _ h9 => h9) rfl dX3_sure_1 ?_
  refine lv_iload_n hx hb dX3_sure_4 rfl (lv_at hl 1 rfl) ?_
  refine z_ki (va_runV (As := [.int (nI p)]) (rest := []) hfix (zcX1_at l D cI H (b + 1) 12 (g 6) p (va_P.sub (ws' := (zRow cI (b + 1) 12 (g 6))) hT [1, 2] rfl) (by omega) (by omega)) (cwV 1 hts gX3_sure_X1_at rfl rfl rfl (by decide +kernel) ⟨Nat.le_of_ble_eq_true rfl, Nat.le_of_ble_eq_true rfl⟩) (z_preV hK hK hT (ci := 1) (q0 := 1) rfl rfl rfl) rfl rfl hl.1 rfl (lv_room (Nat.le_of_ble_eq_true rfl)) dX3_sure_5 ⟨by omega, by omega⟩) ?_
  exact z_iret hx hb hr hlocks dX3_sure_8
set_option maxHeartbeats 4000000 in
set_option maxRecDepth 100000 in
/-- Talk.halves -/
theorem zcX3_halves_0 (l : Launch) (D : va_G) (cI : ClassId) (H : Heap) (b : Nat) (rd : Int32) (tk : Int32) (g : zG) (hT : va_P D vwCl (zTalk cI b rd tk g) H) : Met l yX3_halves wsX3_halves ({ frames := 0, cells := 0, slots := 0, locals := 0 } : Room) (zPc D [(cI, .int)] H [.ref b, .int 0]) (zQ (some (.ref (b + 3))) H) 0 0 (fun _ => False) := by
  refine z_enter (cc := cX3_halves) (maxL := 2) (ret := (some (.object "ParrotJury$Halves"))) (by decide) rfl (Nat.le_of_ble_eq_true rfl) ?_
  intro pg ev s m args below meth cd hfix hr hlocks hname hK hHs ls hl
  obtain ⟨hx, hb, hml, hown, hts⟩ := id hfix
  have hl : lv_has ls 2 [(0, .ref b), (1, .int 0)] := hl
  have hinX3 : ∀ w ∈ wsX30, w ∈ wsX3_halves := by decide +kernel
  refine lv_iload_n hx hb dX3_halves_0 rfl (lv_at hl 1 rfl) ?_
  refine lv_if_eq (tgt := 11) hx hb dX3_halves_1 (by decide) (fun c1 => ?_) (fun c1 => ?_)
  · have c1 := z_eq (a := 0) (b := 0) c1 (by omega) (by omega)
    refine lv_aload_n hx hb dX3_halves_11 rfl (lv_at hl 0 rfl) ?_
    refine va_get (D := D) (ci := 3) (v := .ref (b + 3)) (C := RX3) (T := TX3) (N := 5) hx hb hts hinX3 hown hK hT 0 rfl rfl 3 (by decide) (hts _ (List.mem_of_getElem? (i := 2) rfl)) (fun _ h9 => h9) rfl dX3_halves_12 ?_
    exact z_aret hx hb hr (Or.inl ⟨_, rfl⟩) hlocks dX3_halves_15
  · exact absurd (by decide) c1
set_option maxHeartbeats 4000000 in
set_option maxRecDepth 100000 in
/-- Talk.halves -/
theorem zcX3_halves_1 (l : Launch) (D : va_G) (cI : ClassId) (H : Heap) (b : Nat) (rd : Int32) (tk : Int32) (g : zG) (hT : va_P D vwCl (zTalk cI b rd tk g) H) : Met l yX3_halves wsX3_halves ({ frames := 0, cells := 0, slots := 0, locals := 0 } : Room) (zPc D [(cI, .int)] H [.ref b, .int 1]) (zQ (some (.ref (b + 10))) H) 0 0 (fun _ => False) := by
  refine z_enter (cc := cX3_halves) (maxL := 2) (ret := (some (.object "ParrotJury$Halves"))) (by decide) rfl (Nat.le_of_ble_eq_true rfl) ?_
  intro pg ev s m args below meth cd hfix hr hlocks hname hK hHs ls hl
  obtain ⟨hx, hb, hml, hown, hts⟩ := id hfix
  have hl : lv_has ls 2 [(0, .ref b), (1, .int 1)] := hl
  have hinX3 : ∀ w ∈ wsX30, w ∈ wsX3_halves := by decide +kernel
  refine lv_iload_n hx hb dX3_halves_0 rfl (lv_at hl 1 rfl) ?_
  refine lv_if_eq (tgt := 11) hx hb dX3_halves_1 (by decide) (fun c1 => ?_) (fun c1 => ?_)
  · exact absurd c1 (by decide)
  · have c1 := z_ne (a := 1) (b := 0) c1 (by omega) (by omega)
    refine lv_aload_n hx hb dX3_halves_4 rfl (lv_at hl 0 rfl) ?_
    refine va_get (D := D) (ci := 3) (v := .ref (b + 10)) (C := RX3) (T := TX3) (N := 5) hx hb hts hinX3 hown hK hT 0 rfl rfl 4 (by decide) (hts _ (List.mem_of_getElem? (i := 1) rfl)) (fun _ h9 => h9) rfl dX3_halves_5 ?_
    refine lv_goto (tgt := 15) hx hb dX3_halves_8 (by decide) ?_
    exact z_aret hx hb hr (Or.inl ⟨_, rfl⟩) hlocks dX3_halves_15
set_option maxHeartbeats 4000000 in
set_option maxRecDepth 100000 in
/-- Talk.word -/
theorem zcX3_word (l : Launch) (D : va_G) (cI : ClassId) (H : Heap) (b : Nat) (rd : Int32) (tk : Int32) (g : zG) (p : Nat) (hT : va_P D vwCl (zTalk cI b rd tk g) H) (hp : p < 12) : Met l yX3_word wsX3_word ({ frames := 2, cells := 0, slots := 0, locals := 42 } : Room) (zPc D [(cI, .int)] H [.ref b, .int (nI p)]) (zQ (some (.int (wd g p))) H) 0 0 (fun _ => False) := by
  refine z_enter (cc := cX3_word) (maxL := 2) (ret := (some .int)) (by decide) rfl (Nat.le_of_ble_eq_true rfl) ?_
  intro pg ev s m args below meth cd hfix hr hlocks hname hK hHs ls hl
  obtain ⟨hx, hb, hml, hown, hts⟩ := id hfix
  have hl : lv_has ls 2 [(0, .ref b), (1, .int (nI p))] := hl
  have hinX3 : ∀ w ∈ wsX30, w ∈ wsX3_word := by decide +kernel
  refine lv_aload_n hx hb dX3_word_0 rfl (lv_at hl 0 rfl) ?_
  refine va_get (D := D) (ci := 3) (v := .ref (b + 3)) (C := RX3) (T := TX3) (N := 5) hx hb hts hinX3 hown hK hT 0 rfl rfl 3 (by decide) (hts _ (List.mem_of_getElem? (i := 1) rfl)) (fun _ h9 => h9) rfl dX3_word_1 ?_
  refine lv_iload_n hx hb dX3_word_4 rfl (lv_at hl 1 rfl) ?_
  refine z_ki (va_runV (As := [.int (nI p)]) (rest := []) hfix (zcX0_value l D cI H (b + 3) (g 0) (g 2) (g 4) p (va_P.sub (ws' := (zHalves cI (b + 3) (g 0) (g 2) (g 4))) hT [3, 4, 5, 6, 7, 8, 9] rfl) (by omega)) (cwV 1 hts gX3_word_X0_value rfl rfl rfl (by decide +kernel) ⟨Nat.le_of_ble_eq_true rfl, Nat.le_of_ble_eq_true rfl⟩) (z_preV hK hK hT (ci := 0) (q0 := 3) rfl rfl rfl) rfl rfl hl.1 rfl (lv_room (Nat.le_of_ble_eq_true rfl)) dX3_word_5 ⟨by omega, by omega⟩) ?_
  refine lv_bipush (v := 100) hx hb dX3_word_8 (by decide) ?_
  refine lv_imul hx hb dX3_word_10 ?_
  refine lv_aload_n hx hb dX3_word_11 rfl (lv_at hl 0 rfl) ?_
  refine va_get (D := D) (ci := 3) (v := .ref (b + 10)) (C := RX3) (T := TX3) (N := 5) hx hb hts hinX3 hown hK hT 0 rfl rfl 4 (by decide) (hts _ (List.mem_of_getElem? (i := 2) rfl)) (fun _ h9 => h9) rfl dX3_word_12 ?_
  refine lv_iload_n hx hb dX3_word_15 rfl (lv_at hl 1 rfl) ?_
  refine z_ki (va_runV (As := [.int (nI p)]) (rest := [.int ((g 0 p) * 100)]) hfix (zcX0_value l D cI H (b + 10) (g 1) (g 3) (g 5) p (va_P.sub (ws' := (zHalves cI (b + 10) (g 1) (g 3) (g 5))) hT [10, 11, 12, 13, 14, 15, 16] rfl) (by omega)) (cwV 1 hts gX3_word_X0_value rfl rfl rfl (by decide +kernel) ⟨Nat.le_of_ble_eq_true rfl, Nat.le_of_ble_eq_true rfl⟩) (z_preV hK hK hT (ci := 0) (q0 := 10) rfl rfl rfl) rfl rfl hl.1 rfl (lv_room (Nat.le_of_ble_eq_true rfl)) dX3_word_16 ⟨by omega, by omega⟩) ?_
  refine lv_iadd hx hb dX3_word_19 ?_
  refine z_toi (y := (wd g p)) (rfl) ?_
  exact z_iret hx hb hr hlocks dX3_word_20
set_option maxHeartbeats 4000000 in
set_option maxRecDepth 100000 in
/-- Talk.takeFromCourt -/
theorem zcX3_takeFromCourt (l : Launch) (D : va_G) (cI : ClassId) (H : Heap) (b : Nat) (rd : Int32) (tk : Int32) (g : zG) (p : Nat) (w : Int32) (x : Int32) (hT : va_P D vwCl (zTalk cI b rd tk g) H) (hp : p < 12) : Met l yX3_takeFromCourt wsX3_takeFromCourt ({ frames := 2, cells := 0, slots := 0, locals := 44 } : Room) (zPc D [(cI, .int)] H [.ref b, .int (nI p), .int w, .int x]) (zM (fun H1 => va_P D vwCl (zTalk cI b rd tk (wh g p w x)) H1 ∧ H1.size = H.size) none (zF b (b + 17))) 0 0 (zF b (b + 17)) := by
  refine z_enter (cc := cX3_takeFromCourt) (maxL := 4) (ret := none) (by decide) rfl (Nat.le_of_ble_eq_true rfl) ?_
  intro pg ev s m args below meth cd hfix hr hlocks hname hK hHs ls hl
  obtain ⟨hx, hb, hml, hown, hts⟩ := id hfix
  have hl : lv_has ls 4 [(0, .ref b), (1, .int (nI p)), (2, .int w), (3, .int x)] := hl
  have hS : va_S (zF b (b + 17)) s.heap H [] := by rw [hHs]; exact va_S.rf
  have hz : H.size = H.size := rfl
  have hinX3 : ∀ w ∈ wsX30, w ∈ wsX3_takeFromCourt := by decide +kernel
  refine lv_aload_n hx hb dX3_takeFromCourt_0 rfl (lv_at hl 0 rfl) ?_
  refine va_get (D := D) (ci := 3) (v := .ref (b + 3)) (C := RX3) (T := TX3) (N := 5) hx hb hts hinX3 hown hK hT 0 rfl rfl 3 (by decide) (hts _ (List.mem_of_getElem? (i := 1) rfl)) (fun _ h9 => h9) rfl dX3_takeFromCourt_1 ?_
  refine lv_iload_n hx hb dX3_takeFromCourt_4 rfl (lv_at hl 1 rfl) ?_
  refine lv_iload_n hx hb dX3_takeFromCourt_5 rfl (lv_at hl 2 rfl) ?_
  refine lv_bipush (v := 100) hx hb dX3_takeFromCourt_6 (by decide) ?_
  refine lv_idiv hx hb dX3_takeFromCourt_8 (by decide) ?_
  refine z_mv (va_runV (As := [.int (nI p), .int (w / 100)]) (rest := []) hfix (zcX0_takeFromCourt l D cI H (b + 3) (g 0) (g 2) (g 4) p (w / 100) (va_P.sub (ws' := (zHalves cI (b + 3) (g 0) (g 2) (g 4))) hT [3, 4, 5, 6, 7, 8, 9] rfl) (by omega)) (cwV 2 hts gX3_takeFromCourt_X0_takeFromCourt rfl rfl rfl (by decide +kernel) ⟨Nat.le_of_ble_eq_true rfl, Nat.le_of_ble_eq_true rfl⟩) (z_preV hK hK hT (ci := 0) (q0 := 3) rfl rfl rfl) rfl rfl hl.1 rfl (lv_room (Nat.le_of_ble_eq_true rfl)) dX3_takeFromCourt_9 ⟨by omega, by omega⟩) hS (fun q _ h => by simp only [zF] at h ⊢; omega) (fun q h => by simp only [zF] at h ⊢; omega) (fun H1 lo2 hB hz1 hk1 hS => ?_)
  have hz : H1.size = H.size := (hB.2).trans hz
  have hT3 : va_P D vwCl (zTalk cI b rd tk (z2 (z2 (z2 g 0 p (w / 100)) 2 p (-1)) 4 p 0)) H1 := zT_hF hT hB.1 (fun q h1 h2 => hk1 q h1 (fun h3 => h2 (by simp only [zF] at h3 ⊢; omega)))
  refine lv_aload_n hx hb dX3_takeFromCourt_12 rfl (lv_at hl 0 rfl) ?_
  refine va_get (D := D) (ci := 3) (v := .ref (b + 10)) (C := RX3) (T := TX3) (N := 5) hx hb hts hinX3 hown hK hT3 0 rfl rfl 4 (by decide) (hts _ (List.mem_of_getElem? (i := 2) rfl)) (fun _ h9 => h9) rfl dX3_takeFromCourt_13 ?_
  refine lv_iload_n hx hb dX3_takeFromCourt_16 rfl (lv_at hl 1 rfl) ?_
  refine lv_iload_n hx hb dX3_takeFromCourt_17 rfl (lv_at hl 2 rfl) ?_
  refine lv_bipush (v := 100) hx hb dX3_takeFromCourt_18 (by decide) ?_
  refine lv_irem hx hb dX3_takeFromCourt_20 (by decide) ?_
  refine z_toi (y := zrem w 100) rfl ?_
  refine z_mv (va_runV (As := [.int (nI p), .int (zrem w 100)]) (rest := []) hfix (zcX0_takeFromCourt l D cI H1 (b + 10) ((z2 (z2 (z2 g 0 p (w / 100)) 2 p (-1)) 4 p 0) 1) ((z2 (z2 (z2 g 0 p (w / 100)) 2 p (-1)) 4 p 0) 3) ((z2 (z2 (z2 g 0 p (w / 100)) 2 p (-1)) 4 p 0) 5) p (zrem w 100) (va_P.sub (ws' := (zHalves cI (b + 10) ((z2 (z2 (z2 g 0 p (w / 100)) 2 p (-1)) 4 p 0) 1) ((z2 (z2 (z2 g 0 p (w / 100)) 2 p (-1)) 4 p 0) 3) ((z2 (z2 (z2 g 0 p (w / 100)) 2 p (-1)) 4 p 0) 5))) hT3 [10, 11, 12, 13, 14, 15, 16] rfl) (by omega)) (cwV 2 hts gX3_takeFromCourt_X0_takeFromCourt rfl rfl rfl (by decide +kernel) ⟨Nat.le_of_ble_eq_true rfl, Nat.le_of_ble_eq_true rfl⟩) (z_preV hK hK hT3 (ci := 0) (q0 := 10) rfl rfl rfl) rfl rfl hl.1 rfl (lv_room (Nat.le_of_ble_eq_true rfl)) dX3_takeFromCourt_21 ⟨by omega, by omega⟩) hS (fun q _ h => by simp only [zF] at h ⊢; omega) (fun q h => by simp only [zF] at h ⊢; omega) (fun H4 lo5 hB hz1 hk1 hS => ?_)
  have hz : H4.size = H.size := (hB.2).trans hz
  have hT6 : va_P D vwCl (zTalk cI b rd tk (z2 (z2 (z2 (z2 (z2 (z2 g 0 p (w / 100)) 2 p (-1)) 4 p 0) 1 p (zrem w 100)) 3 p (-1)) 5 p 0)) H4 := zT_hL hT3 hB.1 (fun q h1 h2 => hk1 q h1 (fun h3 => h2 (by simp only [zF] at h3 ⊢; omega)))
  refine lv_aload_n hx hb dX3_takeFromCourt_24 rfl (lv_at hl 0 rfl) ?_
  refine va_get (D := D) (ci := 3) (v := .ref (b + 1)) (C := RX3) (T := TX3) (N := 5) hx hb hts hinX3 hown hK hT6 0 rfl rfl 2 (by decide) (hts _ (List.mem_of_getElem? (i := 3) rfl)) (fun _ h9 => h9) rfl dX3_takeFromCourt_25 ?_
  refine lv_iload_n hx hb dX3_takeFromCourt_28 rfl (lv_at hl 1 rfl) ?_
  refine lv_iload_n hx hb dX3_takeFromCourt_29 rfl (lv_at hl 3 rfl) ?_
  refine z_mv (va_runV (As := [.int (nI p), .int x]) (rest := []) hfix (zcX1_put l D cI H4 (b + 1) 12 ((z2 (z2 (z2 (z2 (z2 (z2 g 0 p (w / 100)) 2 p (-1)) 4 p 0) 1 p (zrem w 100)) 3 p (-1)) 5 p 0) 6) p x (va_P.sub (ws' := (zRow cI (b + 1) 12 ((z2 (z2 (z2 (z2 (z2 (z2 g 0 p (w / 100)) 2 p (-1)) 4 p 0) 1 p (zrem w 100)) 3 p (-1)) 5 p 0) 6))) hT6 [1, 2] rfl) (by omega) (by omega)) (cwV 2 hts gX3_takeFromCourt_X1_put rfl rfl rfl (by decide +kernel) ⟨Nat.le_of_ble_eq_true rfl, Nat.le_of_ble_eq_true rfl⟩) (z_preV hK hK hT6 (ci := 1) (q0 := 1) rfl rfl rfl) rfl rfl hl.1 rfl (lv_room (Nat.le_of_ble_eq_true rfl)) dX3_takeFromCourt_30 ⟨by omega, by omega⟩) hS (fun q _ h => by simp only [zF] at h ⊢; omega) (fun q h => by simp only [zF] at h ⊢; omega) (fun H7 lo8 hB hz1 hk1 hS => ?_)
  have hz : H7.size = H.size := (hB.2).trans hz
  have hT9 : va_P D vwCl (zTalk cI b rd tk (z2 (z2 (z2 (z2 (z2 (z2 (z2 g 0 p (w / 100)) 2 p (-1)) 4 p 0) 1 p (zrem w 100)) 3 p (-1)) 5 p 0) 6 p x)) H7 := zT_sub6 hT6 hB.1 (fun q h1 h2 => hk1 q h1 (fun h3 => h2 (by simp only [zF] at h3 ⊢; omega)))
  exact z_vretM (⟨hT9, hz⟩) hx hb hr hlocks hS dX3_takeFromCourt_33
set_option maxHeartbeats 4000000 in
set_option maxRecDepth 100000 in
/-- Talk.copyFrom another -/
theorem zcX3_copyFrom (l : Launch) (D : va_G) (cI : ClassId) (H : Heap) (b : Nat) (rd : Int32) (tk : Int32) (g : zG) (b2 : Nat) (rd2 : Int32) (tk2 : Int32) (g2 : zG) (hT : va_P D vwCl (zTalk cI b rd tk g) H) (hU : va_P D vwCl (zTalk cI b2 rd2 tk2 g2) H) (hdj : b + 17 ≤ b2 ∨ b2 + 17 ≤ b) : Met l yX3_copyFrom wsX3_copyFrom ({ frames := 3, cells := 0, slots := 0, locals := 60 } : Room) (zPc D [(cI, .int)] H [.ref b, .ref b2]) (zM (fun H1 => va_P D vwCl (zTalk cI b rd2 tk2 g2) H1 ∧ H1.size = H.size) none (zF b (b + 17))) 0 0 (zF b (b + 17)) := by
  refine z_enter (cc := cX3_copyFrom) (maxL := 2) (ret := none) (by decide) rfl (Nat.le_of_ble_eq_true rfl) ?_
  intro pg ev s m args below meth cd hfix hr hlocks hname hK hHs ls hl
  obtain ⟨hx, hb, hml, hown, hts⟩ := id hfix
  have hl : lv_has ls 2 [(0, .ref b), (1, .ref b2)] := hl
  have hS : va_S (zF b (b + 17)) s.heap H [] := by rw [hHs]; exact va_S.rf
  have hz : H.size = H.size := rfl
  have hinX3 : ∀ w ∈ wsX30, w ∈ wsX3_copyFrom := by decide +kernel
  refine lv_aload_n hx hb dX3_copyFrom_0 rfl (lv_at hl 0 rfl) ?_
  refine lv_aload_n hx hb dX3_copyFrom_1 rfl (lv_at hl 1 rfl) ?_
  refine va_get (D := D) (ci := 3) (v := .int rd2) (C := RX3) (T := TX3) (N := 5) hx hb hts hinX3 hown hK hU 0 rfl rfl 0 (by decide) (hts _ (List.mem_of_getElem? (i := 1) rfl)) (fun _ h9 => h9) rfl dX3_copyFrom_2 ?_
  refine z_put (D := D) (ci := 3) (v := .int rd2) (ty := .int) (C := RX3) (T := TX3) (N := 5) hx hb hts hinX3 tyX3 tyX3_ok nmX3 hown hK hT (by simp only [zF]; omega) hS 0 rfl rfl 0 (by decide) (hts _ (List.mem_of_getElem? (i := 1) rfl)) (fun _ h9 => h9) rfl (by decide +kernel) rfl rfl (Nat.le_of_ble_eq_true rfl) dX3_copyFrom_5 (fun H1 lo2 hP1 hz1 hk1 hS => ?_)
  have hz : H1.size = H.size := by omega
  have hT3 : va_P D vwCl (zTalk cI b rd2 tk g) H1 := z_set zT_c hT 0 rfl hP1 (fun q _ h => hk1 q h)
  have hU4 := zT_kept hU (fun q h1 h2 h3 => (fun q _ h => hk1 q h) q h1 (by omega))
  refine lv_aload_n hx hb dX3_copyFrom_8 rfl (lv_at hl 0 rfl) ?_
  refine lv_aload_n hx hb dX3_copyFrom_9 rfl (lv_at hl 1 rfl) ?_
  refine va_get (D := D) (ci := 3) (v := .int tk2) (C := RX3) (T := TX3) (N := 5) hx hb hts hinX3 hown hK hU4 0 rfl rfl 1 (by decide) (hts _ (List.mem_of_getElem? (i := 2) rfl)) (fun _ h9 => h9) rfl dX3_copyFrom_10 ?_
  refine z_put (D := D) (ci := 3) (v := .int tk2) (ty := .int) (C := RX3) (T := TX3) (N := 5) hx hb hts hinX3 tyX3 tyX3_ok nmX3 hown hK hT3 (by simp only [zF]; omega) hS 0 rfl rfl 1 (by decide) (hts _ (List.mem_of_getElem? (i := 2) rfl)) (fun _ h9 => h9) rfl (by decide +kernel) rfl rfl (Nat.le_of_ble_eq_true rfl) dX3_copyFrom_13 (fun H5 lo6 hP1 hz1 hk1 hS => ?_)
  have hz : H5.size = H.size := by omega
  have hT7 : va_P D vwCl (zTalk cI b rd2 tk2 g) H5 := z_set zT_c hT3 0 rfl hP1 (fun q _ h => hk1 q h)
  have hU8 := zT_kept hU4 (fun q h1 h2 h3 => (fun q _ h => hk1 q h) q h1 (by omega))
  refine lv_aload_n hx hb dX3_copyFrom_16 rfl (lv_at hl 0 rfl) ?_
  refine va_get (D := D) (ci := 3) (v := .ref (b + 1)) (C := RX3) (T := TX3) (N := 5) hx hb hts hinX3 hown hK hT7 0 rfl rfl 2 (by decide) (hts _ (List.mem_of_getElem? (i := 3) rfl)) (fun _ h9 => h9) rfl dX3_copyFrom_17 ?_
  refine lv_aload_n hx hb dX3_copyFrom_20 rfl (lv_at hl 1 rfl) ?_
  refine va_get (D := D) (ci := 3) (v := .ref (b2 + 1)) (C := RX3) (T := TX3) (N := 5) hx hb hts hinX3 hown hK hU8 0 rfl rfl 2 (by decide) (hts _ (List.mem_of_getElem? (i := 3) rfl)) (fun _ h9 => h9) rfl dX3_copyFrom_21 ?_
  refine z_mv (va_runV (As := [.ref (b2 + 1)]) (rest := []) hfix (zcX1_copyFrom l D cI H5 (b + 1) (b2 + 1) 12 (g 6) (g2 6) (va_P.sub (ws' := (zRow cI (b + 1) 12 (g 6))) hT7 [1, 2] rfl) (va_P.sub (ws' := (zRow cI (b2 + 1) 12 (g2 6))) hU8 [1, 2] rfl) (by omega) (by omega)) (cwV 1 hts gX3_copyFrom_X1_copyFrom rfl rfl rfl (by decide +kernel) ⟨Nat.le_of_ble_eq_true rfl, Nat.le_of_ble_eq_true rfl⟩) (z_preV hK hK hT7 (ci := 1) (q0 := 1) rfl rfl rfl) rfl rfl hl.1 rfl (lv_room (Nat.le_of_ble_eq_true rfl)) dX3_copyFrom_24 ⟨by omega, by omega⟩) hS (fun q _ h => by simp only [zF] at h ⊢; omega) (fun q h => by simp only [zF] at h ⊢; omega) (fun H9 lo10 hB hz1 hk1 hS => ?_)
  have hz : H9.size = H.size := (hB.2).trans hz
  have hT11 : va_P D vwCl (zTalk cI b rd2 tk2 (fun k => if k = 6 then g2 6 else g k)) H9 := zT_sub6 hT7 hB.1 (fun q h1 h2 => hk1 q h1 (fun h3 => h2 (by simp only [zF] at h3 ⊢; omega)))
  have hU12 := zT_kept hU8 (fun q h1 h2 h3 => hk1 q h1 (by simp only [zF]; omega))
  refine lv_aload_n hx hb dX3_copyFrom_27 rfl (lv_at hl 0 rfl) ?_
  refine va_get (D := D) (ci := 3) (v := .ref (b + 3)) (C := RX3) (T := TX3) (N := 5) hx hb hts hinX3 hown hK hT11 0 rfl rfl 3 (by decide) (hts _ (List.mem_of_getElem? (i := 4) rfl)) (fun _ h9 => h9) rfl dX3_copyFrom_28 ?_
  refine lv_aload_n hx hb dX3_copyFrom_31 rfl (lv_at hl 1 rfl) ?_
  refine va_get (D := D) (ci := 3) (v := .ref (b2 + 3)) (C := RX3) (T := TX3) (N := 5) hx hb hts hinX3 hown hK hU12 0 rfl rfl 3 (by decide) (hts _ (List.mem_of_getElem? (i := 4) rfl)) (fun _ h9 => h9) rfl dX3_copyFrom_32 ?_
  refine z_mv (va_runV (As := [.ref (b2 + 3)]) (rest := []) hfix (zcX0_copyFrom l D cI H9 (b + 3) ((fun k => if k = 6 then g2 6 else g k) 0) ((fun k => if k = 6 then g2 6 else g k) 2) ((fun k => if k = 6 then g2 6 else g k) 4) (b2 + 3) (g2 0) (g2 2) (g2 4) (va_P.sub (ws' := (zHalves cI (b + 3) ((fun k => if k = 6 then g2 6 else g k) 0) ((fun k => if k = 6 then g2 6 else g k) 2) ((fun k => if k = 6 then g2 6 else g k) 4))) hT11 [3, 4, 5, 6, 7, 8, 9] rfl) (va_P.sub (ws' := (zHalves cI (b2 + 3) (g2 0) (g2 2) (g2 4))) hU12 [3, 4, 5, 6, 7, 8, 9] rfl) (by omega)) (cwV 1 hts gX3_copyFrom_X0_copyFrom rfl rfl rfl (by decide +kernel) ⟨Nat.le_of_ble_eq_true rfl, Nat.le_of_ble_eq_true rfl⟩) (z_preV hK hK hT11 (ci := 0) (q0 := 3) rfl rfl rfl) rfl rfl hl.1 rfl (lv_room (Nat.le_of_ble_eq_true rfl)) dX3_copyFrom_35 ⟨by omega, by omega⟩) hS (fun q _ h => by simp only [zF] at h ⊢; omega) (fun q h => by simp only [zF] at h ⊢; omega) (fun H13 lo14 hB hz1 hk1 hS => ?_)
  have hz : H13.size = H.size := (hB.2).trans hz
  have hT15 : va_P D vwCl (zTalk cI b rd2 tk2 (fun k => if k = 0 then g2 0 else if k = 2 then g2 2 else if k = 4 then g2 4 else (fun k => if k = 6 then g2 6 else g k) k)) H13 := zT_subF hT11 hB.1 (fun q h1 h2 => hk1 q h1 (fun h3 => h2 (by simp only [zF] at h3 ⊢; omega)))
  have hU16 := zT_kept hU12 (fun q h1 h2 h3 => hk1 q h1 (by simp only [zF]; omega))
  refine lv_aload_n hx hb dX3_copyFrom_38 rfl (lv_at hl 0 rfl) ?_
  refine va_get (D := D) (ci := 3) (v := .ref (b + 10)) (C := RX3) (T := TX3) (N := 5) hx hb hts hinX3 hown hK hT15 0 rfl rfl 4 (by decide) (hts _ (List.mem_of_getElem? (i := 5) rfl)) (fun _ h9 => h9) rfl dX3_copyFrom_39 ?_
  refine lv_aload_n hx hb dX3_copyFrom_42 rfl (lv_at hl 1 rfl) ?_
  refine va_get (D := D) (ci := 3) (v := .ref (b2 + 10)) (C := RX3) (T := TX3) (N := 5) hx hb hts hinX3 hown hK hU16 0 rfl rfl 4 (by decide) (hts _ (List.mem_of_getElem? (i := 5) rfl)) (fun _ h9 => h9) rfl dX3_copyFrom_43 ?_
  refine z_mv (va_runV (As := [.ref (b2 + 10)]) (rest := []) hfix (zcX0_copyFrom l D cI H13 (b + 10) ((fun k => if k = 0 then g2 0 else if k = 2 then g2 2 else if k = 4 then g2 4 else (fun k => if k = 6 then g2 6 else g k) k) 1) ((fun k => if k = 0 then g2 0 else if k = 2 then g2 2 else if k = 4 then g2 4 else (fun k => if k = 6 then g2 6 else g k) k) 3) ((fun k => if k = 0 then g2 0 else if k = 2 then g2 2 else if k = 4 then g2 4 else (fun k => if k = 6 then g2 6 else g k) k) 5) (b2 + 10) (g2 1) (g2 3) (g2 5) (va_P.sub (ws' := (zHalves cI (b + 10) ((fun k => if k = 0 then g2 0 else if k = 2 then g2 2 else if k = 4 then g2 4 else (fun k => if k = 6 then g2 6 else g k) k) 1) ((fun k => if k = 0 then g2 0 else if k = 2 then g2 2 else if k = 4 then g2 4 else (fun k => if k = 6 then g2 6 else g k) k) 3) ((fun k => if k = 0 then g2 0 else if k = 2 then g2 2 else if k = 4 then g2 4 else (fun k => if k = 6 then g2 6 else g k) k) 5))) hT15 [10, 11, 12, 13, 14, 15, 16] rfl) (va_P.sub (ws' := (zHalves cI (b2 + 10) (g2 1) (g2 3) (g2 5))) hU16 [10, 11, 12, 13, 14, 15, 16] rfl) (by omega)) (cwV 1 hts gX3_copyFrom_X0_copyFrom rfl rfl rfl (by decide +kernel) ⟨Nat.le_of_ble_eq_true rfl, Nat.le_of_ble_eq_true rfl⟩) (z_preV hK hK hT15 (ci := 0) (q0 := 10) rfl rfl rfl) rfl rfl hl.1 rfl (lv_room (Nat.le_of_ble_eq_true rfl)) dX3_copyFrom_46 ⟨by omega, by omega⟩) hS (fun q _ h => by simp only [zF] at h ⊢; omega) (fun q h => by simp only [zF] at h ⊢; omega) (fun H17 lo18 hB hz1 hk1 hS => ?_)
  have hz : H17.size = H.size := (hB.2).trans hz
  have hT19 : va_P D vwCl (zTalk cI b rd2 tk2 (fun k => if k = 1 then g2 1 else if k = 3 then g2 3 else if k = 5 then g2 5 else (fun k => if k = 0 then g2 0 else if k = 2 then g2 2 else if k = 4 then g2 4 else (fun k => if k = 6 then g2 6 else g k) k) k)) H17 := zT_subL hT15 hB.1 (fun q h1 h2 => hk1 q h1 (fun h3 => h2 (by simp only [zF] at h3 ⊢; omega)))
  have hU20 := zT_kept hU16 (fun q h1 h2 h3 => hk1 q h1 (by simp only [zF]; omega))
  exact z_vretM (⟨zT_to hT19 rfl rfl (z7 rfl rfl rfl rfl rfl rfl rfl), hz⟩) hx hb hr hlocks hS dX3_copyFrom_49
set_option maxHeartbeats 4000000 in
set_option maxRecDepth 100000 in
/-- Talk.hear -/
theorem zcX3_hear (l : Launch) (D : va_G) (cI : ClassId) (H : Heap) (b : Nat) (rd : Int32) (tk : Int32) (g : zG) (b2 : Nat) (rd2 : Int32) (tk2 : Int32) (g2 : zG) (p : Nat) (o : Nat) (hT : va_P D vwCl (zTalk cI b rd tk g) H) (hU : va_P D vwCl (zTalk cI b2 rd2 tk2 g2) H) (hdj : b + 17 ≤ b2 ∨ b2 + 17 ≤ b) (hp : p < 12) (ho : o < 12) : Met l yX3_hear wsX3_hear ({ frames := 3, cells := 0, slots := 0, locals := 63 } : Room) (zPc D [(cI, .int)] H [.ref b, .int (nI p), .int (nI o), .ref b2]) (zM (fun H1 => va_P D vwCl (zTalk cI b rd (stB g2 p o (tk, g)).1 (stB g2 p o (tk, g)).2) H1 ∧ H1.size = H.size) none (zF b (b + 17))) 0 0 (zF b (b + 17)) := by
  refine z_enter (cc := cX3_hear) (maxL := 6) (ret := none) (by decide) rfl (Nat.le_of_ble_eq_true rfl) ?_
  intro pg ev s m args below meth cd hfix hr hlocks hname hK hHs ls hl
  obtain ⟨hx, hb, hml, hown, hts⟩ := id hfix
  have hl : lv_has ls 6 [(0, .ref b), (1, .int (nI p)), (2, .int (nI o)), (3, .ref b2)] := hl
  have hS : va_S (zF b (b + 17)) s.heap H [] := by rw [hHs]; exact va_S.rf
  have hz : H.size = H.size := rfl
  have hinX3 : ∀ w ∈ wsX30, w ∈ wsX3_hear := by decide +kernel
  refine lv_aload_n hx hb dX3_hear_0 rfl (lv_at hl 3 rfl) ?_
  refine lv_iload_n hx hb dX3_hear_1 rfl (lv_at hl 1 rfl) ?_
  refine z_ki (va_runV (As := [.int (nI p)]) (rest := []) hfix (zcX3_sure l D cI H b2 rd2 tk2 g2 p hU (by omega)) (cwV 1 hts gX3_hear_X3_sure rfl rfl rfl (by decide +kernel) ⟨Nat.le_of_ble_eq_true rfl, Nat.le_of_ble_eq_true rfl⟩) (z_preV hK hK hU (ci := 3) (q0 := 0) rfl rfl rfl) rfl rfl hl.1 rfl (lv_room (Nat.le_of_ble_eq_true rfl)) dX3_hear_2 ⟨by omega, by omega⟩) ?_
  refine lv_istore (lv' := [(4, .int (g2 6 p)), (0, .ref b), (1, .int (nI p)), (2, .int (nI o)), (3, .ref b2)]) hx hb dX3_hear_5 hl (by decide) rfl (fun ls hl => ?_)
  refine lv_aload_n hx hb dX3_hear_7 rfl (lv_at hl 4 rfl) ?_
  refine lv_iload_n hx hb dX3_hear_8 rfl (lv_at hl 2 rfl) ?_
  refine z_ki (va_runV (As := [.int (nI p)]) (rest := []) hfix (zcX3_word l D cI H b2 rd2 tk2 g2 p hU (by omega)) (cwV 1 hts gX3_hear_X3_word rfl rfl rfl (by decide +kernel) ⟨Nat.le_of_ble_eq_true rfl, Nat.le_of_ble_eq_true rfl⟩) (z_preV hK hK hU (ci := 3) (q0 := 0) rfl rfl rfl) rfl rfl hl.1 rfl (lv_room (Nat.le_of_ble_eq_true rfl)) dX3_hear_9 ⟨by omega, by omega⟩) ?_
  refine lv_aload_n hx hb dX3_hear_12 rfl (lv_at hl 4 rfl) ?_
  refine lv_iload_n hx hb dX3_hear_13 rfl (lv_at hl 3 rfl) ?_
  refine z_ki (va_runV (As := [.int (nI o)]) (rest := [.int (wd g2 p)]) hfix (zcX3_word l D cI H b2 rd2 tk2 g2 o hU (by omega)) (cwV 1 hts gX3_hear_X3_word rfl rfl rfl (by decide +kernel) ⟨Nat.le_of_ble_eq_true rfl, Nat.le_of_ble_eq_true rfl⟩) (z_preV hK hK hU (ci := 3) (q0 := 0) rfl rfl rfl) rfl rfl hl.1 rfl (lv_room (Nat.le_of_ble_eq_true rfl)) dX3_hear_14 ⟨by omega, by omega⟩) ?_
  refine lv_icmp_ne (tgt := 40) hx hb dX3_hear_17 (by decide) (fun c17 => ?_) (fun c17 => ?_)
  · refine lv_iload hx hb dX3_hear_40 (lv_at hl 0 rfl) ?_
    refine lv_aload_n hx hb dX3_hear_42 rfl (lv_at hl 4 rfl) ?_
    refine lv_iload_n hx hb dX3_hear_43 rfl (lv_at hl 3 rfl) ?_
    refine z_ki (va_runV (As := [.int (nI o)]) (rest := [.int (g2 6 p)]) hfix (zcX3_sure l D cI H b2 rd2 tk2 g2 o hU (by omega)) (cwV 1 hts gX3_hear_X3_sure rfl rfl rfl (by decide +kernel) ⟨Nat.le_of_ble_eq_true rfl, Nat.le_of_ble_eq_true rfl⟩) (z_preV hK hK hU (ci := 3) (q0 := 0) rfl rfl rfl) rfl rfl hl.1 rfl (lv_room (Nat.le_of_ble_eq_true rfl)) dX3_hear_44 ⟨by omega, by omega⟩) ?_
    refine lv_icmp_le (tgt := 65) hx hb dX3_hear_47 (by decide) (fun c47 => ?_) (fun c47 => ?_)
    · refine lv_iload_n hx hb dX3_hear_65 rfl (lv_at hl 2 rfl) ?_
      refine lv_iconst (v := 1) hx hb dX3_hear_66 (by decide) ?_
      refine lv_iand hx hb dX3_hear_67 ?_
      refine lv_iconst (v := 1) hx hb dX3_hear_68 (by decide) ?_
      refine lv_icmp_ne (tgt := 76) hx hb dX3_hear_69 (by decide) (fun c69 => ?_) (fun c69 => ?_)
      · have hp2 : p % 2 = 0 := z_par0 c69 hp
        refine lv_iconst (v := 0) hx hb dX3_hear_76 (by decide) ?_
        refine lv_istore (lv' := [(5, .int 0), (4, .int (g2 6 p)), (0, .ref b), (1, .int (nI p)), (2, .int (nI o)), (3, .ref b2)]) hx hb dX3_hear_77 hl (by decide) rfl (fun ls hl => ?_)
        refine lv_aload_n hx hb dX3_hear_79 rfl (lv_at hl 2 rfl) ?_
        refine lv_iload hx hb dX3_hear_80 (lv_at hl 0 rfl) ?_
        refine z_kr (va_runV (As := [.int 0]) (rest := []) hfix (zcX3_halves_0 l D cI H b rd tk g hT) (cwV 1 hts gX3_hear_X3_halves rfl rfl rfl (by decide +kernel) ⟨Nat.le_of_ble_eq_true rfl, Nat.le_of_ble_eq_true rfl⟩) (z_preV hK hK hT (ci := 3) (q0 := 0) rfl rfl rfl) rfl rfl hl.1 rfl (lv_room (Nat.le_of_ble_eq_true rfl)) dX3_hear_82 ⟨by omega, by omega⟩) ?_
        refine lv_iload_n hx hb dX3_hear_85 rfl (lv_at hl 3 rfl) ?_
        refine lv_iload_n hx hb dX3_hear_86 rfl (lv_at hl 4 rfl) ?_
        refine lv_aload_n hx hb dX3_hear_87 rfl (lv_at hl 5 rfl) ?_
        refine lv_iload hx hb dX3_hear_88 (lv_at hl 0 rfl) ?_
        refine z_kr (va_runV (As := [.int 0]) (rest := [.int (nI o), .int (nI p), .ref (b + 3)]) hfix (zcX3_halves_0 l D cI H b2 rd2 tk2 g2 hU) (cwV 1 hts gX3_hear_X3_halves rfl rfl rfl (by decide +kernel) ⟨Nat.le_of_ble_eq_true rfl, Nat.le_of_ble_eq_true rfl⟩) (z_preV hK hK hU (ci := 3) (q0 := 0) rfl rfl rfl) rfl rfl hl.1 rfl (lv_room (Nat.le_of_ble_eq_true rfl)) dX3_hear_90 ⟨by omega, by omega⟩) ?_
        refine z_mv (va_runV (As := [.int (nI p), .int (nI o), .ref (b2 + 3)]) (rest := []) hfix (zcX0_takeFrom l D cI H (b + 3) (g 0) (g 2) (g 4) (b2 + 3) (g2 0) (g2 2) (g2 4) p o (va_P.sub (ws' := (zHalves cI (b + 3) (g 0) (g 2) (g 4))) hT [3, 4, 5, 6, 7, 8, 9] rfl) (va_P.sub (ws' := (zHalves cI (b2 + 3) (g2 0) (g2 2) (g2 4))) hU [3, 4, 5, 6, 7, 8, 9] rfl) (by omega) (by omega) (by omega)) (cwV 3 hts gX3_hear_X0_takeFrom rfl rfl rfl (by decide +kernel) ⟨Nat.le_of_ble_eq_true rfl, Nat.le_of_ble_eq_true rfl⟩) (z_preV hK hK hT (ci := 0) (q0 := 3) rfl rfl rfl) rfl rfl hl.1 rfl (lv_room (Nat.le_of_ble_eq_true rfl)) dX3_hear_93 ⟨by omega, by omega⟩) hS (fun q _ h => by simp only [zF] at h ⊢; omega) (fun q h => by simp only [zF] at h ⊢; omega) (fun H1 lo2 hB hz1 hk1 hS => ?_)
        have hz : H1.size = H.size := (hB.2).trans hz
        have hT3 : va_P D vwCl (zTalk cI b rd tk (z2 (z2 (z2 g 0 p (g2 0 o)) 2 p (nI o)) 4 p (zmin (g2 4 o + 1) 99))) H1 := zT_hF hT hB.1 (fun q h1 h2 => hk1 q h1 (fun h3 => h2 (by simp only [zF] at h3 ⊢; omega)))
        have hU4 := zT_kept hU (fun q h1 h2 h3 => hk1 q h1 (by simp only [zF]; omega))
        refine lv_aload_n hx hb dX3_hear_96 rfl (lv_at hl 2 rfl) ?_
        refine va_get (D := D) (ci := 3) (v := .ref (b + 1)) (C := RX3) (T := TX3) (N := 5) hx hb hts hinX3 hown hK hT3 0 rfl rfl 2 (by decide) (hts _ (List.mem_of_getElem? (i := 1) rfl)) (fun _ h9 => h9) rfl dX3_hear_97 ?_
        refine lv_iload_n hx hb dX3_hear_100 rfl (lv_at hl 3 rfl) ?_
        refine lv_iconst (v := 1) hx hb dX3_hear_101 (by decide) ?_
        refine z_mv (va_runV (As := [.int (nI p), .int 1]) (rest := []) hfix (zcX1_put l D cI H1 (b + 1) 12 ((z2 (z2 (z2 g 0 p (g2 0 o)) 2 p (nI o)) 4 p (zmin (g2 4 o + 1) 99)) 6) p 1 (va_P.sub (ws' := (zRow cI (b + 1) 12 ((z2 (z2 (z2 g 0 p (g2 0 o)) 2 p (nI o)) 4 p (zmin (g2 4 o + 1) 99)) 6))) hT3 [1, 2] rfl) (by omega) (by omega)) (cwV 2 hts gX3_hear_X1_put rfl rfl rfl (by decide +kernel) ⟨Nat.le_of_ble_eq_true rfl, Nat.le_of_ble_eq_true rfl⟩) (z_preV hK hK hT3 (ci := 1) (q0 := 1) rfl rfl rfl) rfl rfl hl.1 rfl (lv_room (Nat.le_of_ble_eq_true rfl)) dX3_hear_102 ⟨by omega, by omega⟩) hS (fun q _ h => by simp only [zF] at h ⊢; omega) (fun q h => by simp only [zF] at h ⊢; omega) (fun H5 lo6 hB hz1 hk1 hS => ?_)
        have hz : H5.size = H.size := (hB.2).trans hz
        have hT7 : va_P D vwCl (zTalk cI b rd tk (z2 (z2 (z2 (z2 g 0 p (g2 0 o)) 2 p (nI o)) 4 p (zmin (g2 4 o + 1) 99)) 6 p 1)) H5 := zT_sub6 hT3 hB.1 (fun q h1 h2 => hk1 q h1 (fun h3 => h2 (by simp only [zF] at h3 ⊢; omega)))
        have hU8 := zT_kept hU4 (fun q h1 h2 h3 => hk1 q h1 (by simp only [zF]; omega))
        refine lv_aload_n hx hb dX3_hear_105 rfl (lv_at hl 2 rfl) ?_
        refine lv_dup hx hb dX3_hear_106 rfl ?_
        refine va_get (D := D) (ci := 3) (v := .int tk) (C := RX3) (T := TX3) (N := 5) hx hb hts hinX3 hown hK hT7 0 rfl rfl 1 (by decide) (hts _ (List.mem_of_getElem? (i := 6) rfl)) (fun _ h9 => h9) rfl dX3_hear_107 ?_
        refine lv_iconst (v := 1) hx hb dX3_hear_110 (by decide) ?_
        refine lv_iadd hx hb dX3_hear_111 ?_
        refine z_put (D := D) (ci := 3) (v := .int (tk + 1)) (ty := .int) (C := RX3) (T := TX3) (N := 5) hx hb hts hinX3 tyX3 tyX3_ok nmX3 hown hK hT7 (by simp only [zF]; omega) hS 0 rfl rfl 1 (by decide) (hts _ (List.mem_of_getElem? (i := 6) rfl)) (fun _ h9 => h9) rfl (by decide +kernel) rfl rfl (Nat.le_of_ble_eq_true rfl) dX3_hear_112 (fun H9 lo10 hP1 hz1 hk1 hS => ?_)
        have hz : H9.size = H.size := by omega
        have hT11 : va_P D vwCl (zTalk cI b rd (tk + 1) (z2 (z2 (z2 (z2 g 0 p (g2 0 o)) 2 p (nI o)) 4 p (zmin (g2 4 o + 1) 99)) 6 p 1)) H9 := z_set zT_c hT7 0 rfl hP1 (fun q _ h => hk1 q h)
        have hU12 := zT_kept hU8 (fun q h1 h2 h3 => (fun q _ h => hk1 q h) q h1 (by omega))
        exact z_vretM (⟨by simp only [stB]; first | (rw [if_pos c17]; exact hT11) | (rw [if_neg c17, if_neg c47]; exact hT11) | (rw [if_neg c17, if_pos c47, hp2]; exact hT11), hz⟩) hx hb hr hlocks hS dX3_hear_115
      · have hp2 : p % 2 = 1 := z_par1 c69 hp
        refine lv_iconst (v := 1) hx hb dX3_hear_72 (by decide) ?_
        refine lv_goto (tgt := 77) hx hb dX3_hear_73 (by decide) ?_
        refine lv_istore (lv' := [(5, .int 1), (4, .int (g2 6 p)), (0, .ref b), (1, .int (nI p)), (2, .int (nI o)), (3, .ref b2)]) hx hb dX3_hear_77 hl (by decide) rfl (fun ls hl => ?_)
        refine lv_aload_n hx hb dX3_hear_79 rfl (lv_at hl 2 rfl) ?_
        refine lv_iload hx hb dX3_hear_80 (lv_at hl 0 rfl) ?_
        refine z_kr (va_runV (As := [.int 1]) (rest := []) hfix (zcX3_halves_1 l D cI H b rd tk g hT) (cwV 1 hts gX3_hear_X3_halves rfl rfl rfl (by decide +kernel) ⟨Nat.le_of_ble_eq_true rfl, Nat.le_of_ble_eq_true rfl⟩) (z_preV hK hK hT (ci := 3) (q0 := 0) rfl rfl rfl) rfl rfl hl.1 rfl (lv_room (Nat.le_of_ble_eq_true rfl)) dX3_hear_82 ⟨by omega, by omega⟩) ?_
        refine lv_iload_n hx hb dX3_hear_85 rfl (lv_at hl 3 rfl) ?_
        refine lv_iload_n hx hb dX3_hear_86 rfl (lv_at hl 4 rfl) ?_
        refine lv_aload_n hx hb dX3_hear_87 rfl (lv_at hl 5 rfl) ?_
        refine lv_iload hx hb dX3_hear_88 (lv_at hl 0 rfl) ?_
        refine z_kr (va_runV (As := [.int 1]) (rest := [.int (nI o), .int (nI p), .ref (b + 10)]) hfix (zcX3_halves_1 l D cI H b2 rd2 tk2 g2 hU) (cwV 1 hts gX3_hear_X3_halves rfl rfl rfl (by decide +kernel) ⟨Nat.le_of_ble_eq_true rfl, Nat.le_of_ble_eq_true rfl⟩) (z_preV hK hK hU (ci := 3) (q0 := 0) rfl rfl rfl) rfl rfl hl.1 rfl (lv_room (Nat.le_of_ble_eq_true rfl)) dX3_hear_90 ⟨by omega, by omega⟩) ?_
        refine z_mv (va_runV (As := [.int (nI p), .int (nI o), .ref (b2 + 10)]) (rest := []) hfix (zcX0_takeFrom l D cI H (b + 10) (g 1) (g 3) (g 5) (b2 + 10) (g2 1) (g2 3) (g2 5) p o (va_P.sub (ws' := (zHalves cI (b + 10) (g 1) (g 3) (g 5))) hT [10, 11, 12, 13, 14, 15, 16] rfl) (va_P.sub (ws' := (zHalves cI (b2 + 10) (g2 1) (g2 3) (g2 5))) hU [10, 11, 12, 13, 14, 15, 16] rfl) (by omega) (by omega) (by omega)) (cwV 3 hts gX3_hear_X0_takeFrom rfl rfl rfl (by decide +kernel) ⟨Nat.le_of_ble_eq_true rfl, Nat.le_of_ble_eq_true rfl⟩) (z_preV hK hK hT (ci := 0) (q0 := 10) rfl rfl rfl) rfl rfl hl.1 rfl (lv_room (Nat.le_of_ble_eq_true rfl)) dX3_hear_93 ⟨by omega, by omega⟩) hS (fun q _ h => by simp only [zF] at h ⊢; omega) (fun q h => by simp only [zF] at h ⊢; omega) (fun H13 lo14 hB hz1 hk1 hS => ?_)
        have hz : H13.size = H.size := (hB.2).trans hz
        have hT15 : va_P D vwCl (zTalk cI b rd tk (z2 (z2 (z2 g 1 p (g2 1 o)) 3 p (nI o)) 5 p (zmin (g2 5 o + 1) 99))) H13 := zT_hL hT hB.1 (fun q h1 h2 => hk1 q h1 (fun h3 => h2 (by simp only [zF] at h3 ⊢; omega)))
        have hU16 := zT_kept hU (fun q h1 h2 h3 => hk1 q h1 (by simp only [zF]; omega))
        refine lv_aload_n hx hb dX3_hear_96 rfl (lv_at hl 2 rfl) ?_
        refine va_get (D := D) (ci := 3) (v := .ref (b + 1)) (C := RX3) (T := TX3) (N := 5) hx hb hts hinX3 hown hK hT15 0 rfl rfl 2 (by decide) (hts _ (List.mem_of_getElem? (i := 1) rfl)) (fun _ h9 => h9) rfl dX3_hear_97 ?_
        refine lv_iload_n hx hb dX3_hear_100 rfl (lv_at hl 3 rfl) ?_
        refine lv_iconst (v := 1) hx hb dX3_hear_101 (by decide) ?_
        refine z_mv (va_runV (As := [.int (nI p), .int 1]) (rest := []) hfix (zcX1_put l D cI H13 (b + 1) 12 ((z2 (z2 (z2 g 1 p (g2 1 o)) 3 p (nI o)) 5 p (zmin (g2 5 o + 1) 99)) 6) p 1 (va_P.sub (ws' := (zRow cI (b + 1) 12 ((z2 (z2 (z2 g 1 p (g2 1 o)) 3 p (nI o)) 5 p (zmin (g2 5 o + 1) 99)) 6))) hT15 [1, 2] rfl) (by omega) (by omega)) (cwV 2 hts gX3_hear_X1_put rfl rfl rfl (by decide +kernel) ⟨Nat.le_of_ble_eq_true rfl, Nat.le_of_ble_eq_true rfl⟩) (z_preV hK hK hT15 (ci := 1) (q0 := 1) rfl rfl rfl) rfl rfl hl.1 rfl (lv_room (Nat.le_of_ble_eq_true rfl)) dX3_hear_102 ⟨by omega, by omega⟩) hS (fun q _ h => by simp only [zF] at h ⊢; omega) (fun q h => by simp only [zF] at h ⊢; omega) (fun H17 lo18 hB hz1 hk1 hS => ?_)
        have hz : H17.size = H.size := (hB.2).trans hz
        have hT19 : va_P D vwCl (zTalk cI b rd tk (z2 (z2 (z2 (z2 g 1 p (g2 1 o)) 3 p (nI o)) 5 p (zmin (g2 5 o + 1) 99)) 6 p 1)) H17 := zT_sub6 hT15 hB.1 (fun q h1 h2 => hk1 q h1 (fun h3 => h2 (by simp only [zF] at h3 ⊢; omega)))
        have hU20 := zT_kept hU16 (fun q h1 h2 h3 => hk1 q h1 (by simp only [zF]; omega))
        refine lv_aload_n hx hb dX3_hear_105 rfl (lv_at hl 2 rfl) ?_
        refine lv_dup hx hb dX3_hear_106 rfl ?_
        refine va_get (D := D) (ci := 3) (v := .int tk) (C := RX3) (T := TX3) (N := 5) hx hb hts hinX3 hown hK hT19 0 rfl rfl 1 (by decide) (hts _ (List.mem_of_getElem? (i := 6) rfl)) (fun _ h9 => h9) rfl dX3_hear_107 ?_
        refine lv_iconst (v := 1) hx hb dX3_hear_110 (by decide) ?_
        refine lv_iadd hx hb dX3_hear_111 ?_
        refine z_put (D := D) (ci := 3) (v := .int (tk + 1)) (ty := .int) (C := RX3) (T := TX3) (N := 5) hx hb hts hinX3 tyX3 tyX3_ok nmX3 hown hK hT19 (by simp only [zF]; omega) hS 0 rfl rfl 1 (by decide) (hts _ (List.mem_of_getElem? (i := 6) rfl)) (fun _ h9 => h9) rfl (by decide +kernel) rfl rfl (Nat.le_of_ble_eq_true rfl) dX3_hear_112 (fun H21 lo22 hP1 hz1 hk1 hS => ?_)
        have hz : H21.size = H.size := by omega
        have hT23 : va_P D vwCl (zTalk cI b rd (tk + 1) (z2 (z2 (z2 (z2 g 1 p (g2 1 o)) 3 p (nI o)) 5 p (zmin (g2 5 o + 1) 99)) 6 p 1)) H21 := z_set zT_c hT19 0 rfl hP1 (fun q _ h => hk1 q h)
        have hU24 := zT_kept hU20 (fun q h1 h2 h3 => (fun q _ h => hk1 q h) q h1 (by omega))
        exact z_vretM (⟨by simp only [stB]; first | (rw [if_pos c17]; exact hT23) | (rw [if_neg c17, if_neg c47]; exact hT23) | (rw [if_neg c17, if_pos c47, hp2]; exact hT23), hz⟩) hx hb hr hlocks hS dX3_hear_115
    · refine lv_aload_n hx hb dX3_hear_50 rfl (lv_at hl 1 rfl) ?_
      refine va_get (D := D) (ci := 3) (v := .ref (b + 1)) (C := RX3) (T := TX3) (N := 5) hx hb hts hinX3 hown hK hT 0 rfl rfl 2 (by decide) (hts _ (List.mem_of_getElem? (i := 1) rfl)) (fun _ h9 => h9) rfl dX3_hear_51 ?_
      refine lv_iload_n hx hb dX3_hear_54 rfl (lv_at hl 2 rfl) ?_
      refine lv_iload hx hb dX3_hear_55 (lv_at hl 0 rfl) ?_
      refine lv_iconst (v := 1) hx hb dX3_hear_57 (by decide) ?_
      refine lv_isub hx hb dX3_hear_58 ?_
      refine z_mv (va_runV (As := [.int (nI p), .int ((g2 6 p) - 1)]) (rest := []) hfix (zcX1_put l D cI H (b + 1) 12 (g 6) p ((g2 6 p) - 1) (va_P.sub (ws' := (zRow cI (b + 1) 12 (g 6))) hT [1, 2] rfl) (by omega) (by omega)) (cwV 2 hts gX3_hear_X1_put rfl rfl rfl (by decide +kernel) ⟨Nat.le_of_ble_eq_true rfl, Nat.le_of_ble_eq_true rfl⟩) (z_preV hK hK hT (ci := 1) (q0 := 1) rfl rfl rfl) rfl rfl hl.1 rfl (lv_room (Nat.le_of_ble_eq_true rfl)) dX3_hear_59 ⟨by omega, by omega⟩) hS (fun q _ h => by simp only [zF] at h ⊢; omega) (fun q h => by simp only [zF] at h ⊢; omega) (fun H25 lo26 hB hz1 hk1 hS => ?_)
      have hz : H25.size = H.size := (hB.2).trans hz
      have hT27 : va_P D vwCl (zTalk cI b rd tk (z2 g 6 p ((g2 6 p) - 1))) H25 := zT_sub6 hT hB.1 (fun q h1 h2 => hk1 q h1 (fun h3 => h2 (by simp only [zF] at h3 ⊢; omega)))
      have hU28 := zT_kept hU (fun q h1 h2 h3 => hk1 q h1 (by simp only [zF]; omega))
      refine lv_goto (tgt := 115) hx hb dX3_hear_62 (by decide) ?_
      exact z_vretM (⟨by simp only [stB]; first | (rw [if_pos c17]; exact hT27) | (rw [if_neg c17, if_neg c47]; exact hT27) | (rw [if_neg c17, if_pos c47, hp2]; exact hT27), hz⟩) hx hb hr hlocks hS dX3_hear_115
  · refine lv_aload_n hx hb dX3_hear_20 rfl (lv_at hl 1 rfl) ?_
    refine va_get (D := D) (ci := 3) (v := .ref (b + 1)) (C := RX3) (T := TX3) (N := 5) hx hb hts hinX3 hown hK hT 0 rfl rfl 2 (by decide) (hts _ (List.mem_of_getElem? (i := 1) rfl)) (fun _ h9 => h9) rfl dX3_hear_21 ?_
    refine lv_iload_n hx hb dX3_hear_24 rfl (lv_at hl 2 rfl) ?_
    refine lv_iload hx hb dX3_hear_25 (lv_at hl 0 rfl) ?_
    refine lv_iconst (v := 1) hx hb dX3_hear_27 (by decide) ?_
    refine lv_iadd hx hb dX3_hear_28 ?_
    refine lv_bipush (v := 9) hx hb dX3_hear_29 (by decide) ?_
    refine va_mmin hx hb (by rw [hml]; exact hl.1.symm) hown (hts _ (List.mem_of_getElem? (i := 2) rfl)) (hts _ (List.mem_of_getElem? (i := 3) rfl)) (hts _ (List.mem_of_getElem? (i := 4) rfl)) (hts _ (List.mem_of_getElem? (i := 5) rfl)) (Nat.le_of_ble_eq_true rfl) (Nat.le_of_ble_eq_true rfl) (by omega) (by omega) dX3_hear_31 ?_
    refine z_toi (y := zmin ((g2 6 p) + 1) 9) rfl ?_
    refine z_mv (va_runV (As := [.int (nI p), .int (zmin ((g2 6 p) + 1) 9)]) (rest := []) hfix (zcX1_put l D cI H (b + 1) 12 (g 6) p (zmin ((g2 6 p) + 1) 9) (va_P.sub (ws' := (zRow cI (b + 1) 12 (g 6))) hT [1, 2] rfl) (by omega) (by omega)) (cwV 2 hts gX3_hear_X1_put rfl rfl rfl (by decide +kernel) ⟨Nat.le_of_ble_eq_true rfl, Nat.le_of_ble_eq_true rfl⟩) (z_preV hK hK hT (ci := 1) (q0 := 1) rfl rfl rfl) rfl rfl hl.1 rfl (lv_room (Nat.le_of_ble_eq_true rfl)) dX3_hear_34 ⟨by omega, by omega⟩) hS (fun q _ h => by simp only [zF] at h ⊢; omega) (fun q h => by simp only [zF] at h ⊢; omega) (fun H29 lo30 hB hz1 hk1 hS => ?_)
    have hz : H29.size = H.size := (hB.2).trans hz
    have hT31 : va_P D vwCl (zTalk cI b rd tk (z2 g 6 p (zmin ((g2 6 p) + 1) 9))) H29 := zT_sub6 hT hB.1 (fun q h1 h2 => hk1 q h1 (fun h3 => h2 (by simp only [zF] at h3 ⊢; omega)))
    have hU32 := zT_kept hU (fun q h1 h2 h3 => hk1 q h1 (by simp only [zF]; omega))
    refine lv_goto (tgt := 115) hx hb dX3_hear_37 (by decide) ?_
    exact z_vretM (⟨by simp only [stB]; first | (rw [if_pos c17]; exact hT31) | (rw [if_neg c17, if_neg c47]; exact hT31) | (rw [if_neg c17, if_pos c47, hp2]; exact hT31), hz⟩) hx hb hr hlocks hS dX3_hear_115
set_option maxHeartbeats 4000000 in
set_option maxRecDepth 100000 in
/-- Talk.hearAll -/
theorem zcX3_hearAll (l : Launch) (D : va_G) (cI : ClassId) (H : Heap) (b : Nat) (rd : Int32) (tk : Int32) (g : zG) (b2 : Nat) (rd2 : Int32) (tk2 : Int32) (g2 : zG) (bs : Nat) (n : Nat) (me : Nat → Int32) (lo : Nat → Int32) (c : Nat → Nat) (e : Nat → Nat) (hT : va_P D vwCl (zTalk cI b rd tk g) H) (hU : va_P D vwCl (zTalk cI b2 rd2 tk2 g2) H) (hdj : b + 17 ≤ b2 ∨ b2 + 17 ≤ b) (hW : va_P D vwCl (zSeats cI bs n me lo c e) H) (hI : zI n me lo c e) (hd2 : bs + 9 ≤ b ∨ b + 17 ≤ bs) : Met l yX3_hearAll wsX3_hearAll ({ frames := 4, cells := 0, slots := 0, locals := 88 } : Room) (zPc D [(cI, .int)] H [.ref b, .ref bs, .ref b2]) (zM (fun H1 => va_P D vwCl (zTalk cI b rd (hA lo c e g2 (tk, g) n).1 (hA lo c e g2 (tk, g) n).2) H1 ∧ H1.size = H.size) none (zF b (b + 17))) 0 0 (zF b (b + 17)) := by
  refine z_enter (cc := cX3_hearAll) (maxL := 6) (ret := none) (by decide) rfl (Nat.le_of_ble_eq_true rfl) ?_
  intro pg ev s m args below meth cd hfix hr hlocks hname hK hHs ls hl
  obtain ⟨hx, hb, hml, hown, hts⟩ := id hfix
  have hl : lv_has ls 6 [(0, .ref b), (1, .ref bs), (2, .ref b2)] := hl
  have hS : va_S (zF b (b + 17)) s.heap H [] := by rw [hHs]; exact va_S.rf
  have hz : H.size = H.size := rfl
  have hn := zI_n hI
  refine lv_aload_n hx hb dX3_hearAll_0 rfl (lv_at hl 1 rfl) ?_
  refine z_ki (va_runV (As := []) (rest := []) hfix (zcX2_size l D cI H bs n me lo c e hW) (cwV 0 hts gX3_hearAll_X2_size rfl rfl rfl (by decide +kernel) ⟨Nat.le_of_ble_eq_true rfl, Nat.le_of_ble_eq_true rfl⟩) (z_preV hK hK hW (ci := 2) (q0 := 0) rfl rfl rfl) rfl rfl hl.1 rfl (lv_room (Nat.le_of_ble_eq_true rfl)) dX3_hearAll_1 ⟨by omega, by omega⟩) ?_
  refine lv_istore_n (lv' := [(3, .int (nI n)), (0, .ref b), (1, .ref bs), (2, .ref b2)]) hx hb dX3_hearAll_4 rfl hl (by decide) rfl (fun ls hl => ?_)
  refine lv_iconst (v := 0) hx hb dX3_hearAll_5 (by decide) ?_
  refine lv_istore (lv' := [(4, .int 0), (3, .int (nI n)), (0, .ref b), (1, .ref bs), (2, .ref b2)]) hx hb dX3_hearAll_6 hl (by decide) rfl (fun ls hl => ?_)
  have loop8 : ∀ (fu : Nat) (k : Nat), n - k < fu → (k ≤ n) → ∀ (x4 : Int32), x4 = (nI k) → ∀ (H1 : Heap) (lo2 : List Loc), va_P D vwCl (zTalk cI b rd ((hA lo c e g2 (tk, g) k).1) ((hA lo c e g2 (tk, g) k).2)) H1 → va_P D vwCl (zTalk cI b2 rd2 tk2 g2) H1 → va_P D vwCl (zSeats cI bs n me lo c e) H1 → H1.size = H.size → va_S (zF b (b + 17)) s.heap H1 lo2 → ∀ ls : Array Slot, lv_has ls 6 [(4, .int x4), (3, .int (nI n)), (0, .ref b), (1, .ref bs), (2, .ref b2)] → W pg l ev ({ frames := 4, cells := 0, slots := 0, locals := 88 } : Room) s m args below meth cd H1 lo2 0 0 (MQ below (zM (fun H1 => va_P D vwCl (zTalk cI b rd (hA lo c e g2 (tk, g) n).1 (hA lo c e g2 (tk, g) n).2) H1 ∧ H1.size = H.size) none (zF b (b + 17))) args s 0 0 (zF b (b + 17))) (F0 m 8 ls []) := by
    intro fu
    induction fu with
    | zero => intro k hfu; exact absurd hfu (Nat.not_lt_zero _)
    | succ fu ih =>
      intro k hfu hi8_0 x4 ex4 H1 lo2 hT3 hU4 hW5 hz hS ls hl
      subst ex4
      refine lv_iload hx hb dX3_hearAll_8 (lv_at hl 0 rfl) ?_
      refine lv_iload_n hx hb dX3_hearAll_10 rfl (lv_at hl 1 rfl) ?_
      refine lv_icmp_ge (tgt := 43) hx hb dX3_hearAll_11 (by decide) (fun c11 => ?_) (fun c11 => ?_)
      · have c11 := z_le (a := n) (b := k) c11 (by omega) (by omega)
        exact z_vretM (⟨by rw [show n = k by omega]; exact hT3, hz⟩) hx hb hr hlocks hS dX3_hearAll_43
      · have c11 := z_nle (a := n) (b := k) c11 (by omega) (by omega)
        refine lv_aload_n hx hb dX3_hearAll_14 rfl (lv_at hl 3 rfl) ?_
        refine lv_iload hx hb dX3_hearAll_15 (lv_at hl 0 rfl) ?_
        refine z_ki (va_runV (As := [.int (nI k)]) (rest := []) hfix (zcX2_heard l D cI H1 bs n me lo c e k hW5 hI (by omega)) (cwV 1 hts gX3_hearAll_X2_heard rfl rfl rfl (by decide +kernel) ⟨Nat.le_of_ble_eq_true rfl, Nat.le_of_ble_eq_true rfl⟩) (z_preV hK hK hW5 (ci := 2) (q0 := 0) rfl rfl rfl) rfl rfl hl.1 rfl (lv_room (Nat.le_of_ble_eq_true rfl)) dX3_hearAll_17 ⟨by omega, by omega⟩) ?_
        refine lv_istore (lv' := [(5, .int (zo (hd lo e k (c k)))), (4, .int (nI k)), (3, .int (nI n)), (0, .ref b), (1, .ref bs), (2, .ref b2)]) hx hb dX3_hearAll_20 hl (by decide) rfl (fun ls hl => ?_)
        refine lv_iload hx hb dX3_hearAll_22 (lv_at hl 0 rfl) ?_
        refine lv_iconst (v := (-1)) hx hb dX3_hearAll_24 (by decide) ?_
        refine lv_icmp_eq (tgt := 37) hx hb dX3_hearAll_25 (by decide) (fun c25 => ?_) (fun c25 => ?_)
        · have c25 := (zo_m1 (fun q hq => by have h1 := zI_hd hI hq; omega)).mp c25
          refine lv_iinc (v := (nI (k + 1))) (lv' := [(4, .int (nI (k + 1))), (5, .int (zo (hd lo e k (c k)))), (3, .int (nI n)), (0, .ref b), (1, .ref bs), (2, .ref b2)]) hx hb dX3_hearAll_37 hl (k := 1) rfl (nI_1 _) (by decide) rfl (fun ls hl => ?_)
          refine lv_goto (tgt := 8) hx hb dX3_hearAll_40 (by decide) ?_
          exact ih (k + 1) (by omega) (by omega) _ (rfl) _ _ ((by first | (rw [zhA_n c25]; exact hT3) | (rw [zhA_s hho]; exact hT3))) (hU4) (hW5) hz hS _ (lv_sub hl [0, 2, 3, 4, 5] rfl)
        · have c25 := fun h => c25 ((zo_m1 (fun q hq => by have h1 := zI_hd hI hq; omega)).mpr h)
          obtain ⟨o, hho⟩ : ∃ o, hd lo e k (c k) = some o := Option.ne_none_iff_exists'.mp c25
          have ho := zI_hd hI hho
          refine lv_aload_n hx hb dX3_hearAll_28 rfl (lv_at hl 3 rfl) ?_
          refine lv_iload hx hb dX3_hearAll_29 (lv_at hl 1 rfl) ?_
          refine lv_iload hx hb dX3_hearAll_31 (lv_at hl 0 rfl) ?_
          refine z_toi (y := nI o) (by rw [hho]; rfl) ?_
          refine lv_aload_n hx hb dX3_hearAll_33 rfl (lv_at hl 5 rfl) ?_
          refine z_mv (va_runV (As := [.int (nI k), .int (nI o), .ref b2]) (rest := []) hfix (zcX3_hear l D cI H1 b rd ((hA lo c e g2 (tk, g) k).1) ((hA lo c e g2 (tk, g) k).2) b2 rd2 tk2 g2 k o hT3 hU4 (by omega) (by omega) (by omega)) (cwV 3 hts gX3_hearAll_X3_hear rfl rfl rfl (by decide +kernel) ⟨Nat.le_of_ble_eq_true rfl, Nat.le_of_ble_eq_true rfl⟩) (z_preV hK hK hT3 (ci := 3) (q0 := 0) rfl rfl rfl) rfl rfl hl.1 rfl (lv_room (Nat.le_of_ble_eq_true rfl)) dX3_hearAll_34 ⟨by omega, by omega⟩) hS (fun q _ h => by simp only [zF] at h ⊢; omega) (fun q h => by simp only [zF] at h ⊢; omega) (fun H6 lo7 hB hz1 hk1 hS => ?_)
          have hz : H6.size = H.size := (hB.2).trans hz
          have hT8 : va_P D vwCl (zTalk cI b rd ((stB g2 k o ((hA lo c e g2 (tk, g) k).1, (hA lo c e g2 (tk, g) k).2)).1) ((stB g2 k o ((hA lo c e g2 (tk, g) k).1, (hA lo c e g2 (tk, g) k).2)).2)) H6 := hB.1
          have hU9 := zT_kept hU4 (fun q h1 h2 h3 => hk1 q h1 (by simp only [zF]; omega))
          have hW10 := zS_kept hW5 (fun q h1 h2 h3 => hk1 q h1 (by simp only [zF]; omega))
          refine lv_iinc (v := (nI (k + 1))) (lv' := [(4, .int (nI (k + 1))), (5, .int (zo (hd lo e k (c k)))), (3, .int (nI n)), (0, .ref b), (1, .ref bs), (2, .ref b2)]) hx hb dX3_hearAll_37 hl (k := 1) rfl (nI_1 _) (by decide) rfl (fun ls hl => ?_)
          refine lv_goto (tgt := 8) hx hb dX3_hearAll_40 (by decide) ?_
          exact ih (k + 1) (by omega) (by omega) _ (rfl) _ _ ((by first | (rw [zhA_n c25]; exact hT8) | (rw [zhA_s hho]; exact hT8))) (hU9) (hW10) hz hS _ (lv_sub hl [0, 2, 3, 4, 5] rfl)
  exact loop8 _ 0 (Nat.lt_succ_self _) (by omega) _ (rfl) _ _ hT hU hW hz hS _ (lv_sub hl [0, 1, 2, 3, 4] rfl)
set_option maxHeartbeats 4000000 in
set_option maxRecDepth 100000 in
/-- Talk.forgetAll -/
theorem zcX3_forgetAll (l : Launch) (D : va_G) (cI : ClassId) (H : Heap) (b : Nat) (rd : Int32) (tk : Int32) (g : zG) (bs : Nat) (n : Nat) (me : Nat → Int32) (lo : Nat → Int32) (c : Nat → Nat) (e : Nat → Nat) (hT : va_P D vwCl (zTalk cI b rd tk g) H) (hW : va_P D vwCl (zSeats cI bs n me lo c e) H) (hI : zI n me lo c e) (hd2 : bs + 9 ≤ b ∨ b + 17 ≤ bs) : Met l yX3_forgetAll wsX3_forgetAll ({ frames := 2, cells := 0, slots := 0, locals := 42 } : Room) (zPc D [(cI, .int)] H [.ref b, .ref bs]) (zM (fun H1 => va_P D vwCl (zTalk cI b rd tk (fA rd me g n)) H1 ∧ H1.size = H.size) none (zF b (b + 17))) 0 0 (zF b (b + 17)) := by
  refine z_enter (cc := cX3_forgetAll) (maxL := 5) (ret := none) (by decide) rfl (Nat.le_of_ble_eq_true rfl) ?_
  intro pg ev s m args below meth cd hfix hr hlocks hname hK hHs ls hl
  obtain ⟨hx, hb, hml, hown, hts⟩ := id hfix
  have hl : lv_has ls 5 [(0, .ref b), (1, .ref bs)] := hl
  have hS : va_S (zF b (b + 17)) s.heap H [] := by rw [hHs]; exact va_S.rf
  have hz : H.size = H.size := rfl
  have hinX3 : ∀ w ∈ wsX30, w ∈ wsX3_forgetAll := by decide +kernel
  have hn := zI_n hI
  refine lv_aload_n hx hb dX3_forgetAll_0 rfl (lv_at hl 1 rfl) ?_
  refine z_ki (va_runV (As := []) (rest := []) hfix (zcX2_size l D cI H bs n me lo c e hW) (cwV 0 hts gX3_forgetAll_X2_size rfl rfl rfl (by decide +kernel) ⟨Nat.le_of_ble_eq_true rfl, Nat.le_of_ble_eq_true rfl⟩) (z_preV hK hK hW (ci := 2) (q0 := 0) rfl rfl rfl) rfl rfl hl.1 rfl (lv_room (Nat.le_of_ble_eq_true rfl)) dX3_forgetAll_1 ⟨by omega, by omega⟩) ?_
  refine lv_istore_n (lv' := [(2, .int (nI n)), (0, .ref b), (1, .ref bs)]) hx hb dX3_forgetAll_4 rfl hl (by decide) rfl (fun ls hl => ?_)
  refine lv_iconst (v := 0) hx hb dX3_forgetAll_5 (by decide) ?_
  refine lv_istore_n (lv' := [(3, .int 0), (2, .int (nI n)), (0, .ref b), (1, .ref bs)]) hx hb dX3_forgetAll_6 rfl hl (by decide) rfl (fun ls hl => ?_)
  have loop7 : ∀ (fu : Nat) (k : Nat), n - k < fu → (k ≤ n) → ∀ (x3 : Int32), x3 = (nI k) → ∀ (H1 : Heap) (lo2 : List Loc), va_P D vwCl (zTalk cI b rd tk (fA rd me g k)) H1 → va_P D vwCl (zSeats cI bs n me lo c e) H1 → H1.size = H.size → va_S (zF b (b + 17)) s.heap H1 lo2 → ∀ ls : Array Slot, lv_has ls 5 [(3, .int x3), (2, .int (nI n)), (0, .ref b), (1, .ref bs)] → W pg l ev ({ frames := 2, cells := 0, slots := 0, locals := 42 } : Room) s m args below meth cd H1 lo2 0 0 (MQ below (zM (fun H1 => va_P D vwCl (zTalk cI b rd tk (fA rd me g n)) H1 ∧ H1.size = H.size) none (zF b (b + 17))) args s 0 0 (zF b (b + 17))) (F0 m 7 ls []) := by
    intro fu
    induction fu with
    | zero => intro k hfu; exact absurd hfu (Nat.not_lt_zero _)
    | succ fu ih =>
      intro k hfu hi7_0 x3 ex3 H1 lo2 hT3 hW4 hz hS ls hl
      subst ex3
      refine lv_iload_n hx hb dX3_forgetAll_7 rfl (lv_at hl 0 rfl) ?_
      refine lv_iload_n hx hb dX3_forgetAll_8 rfl (lv_at hl 1 rfl) ?_
      refine lv_icmp_ge (tgt := 64) hx hb dX3_forgetAll_9 (by decide) (fun c9 => ?_) (fun c9 => ?_)
      · have c9 := z_le (a := n) (b := k) c9 (by omega) (by omega)
        exact z_vretM (⟨by rw [show n = k by omega]; exact hT3, hz⟩) hx hb hr hlocks hS dX3_forgetAll_64
      · have c9 := z_nle (a := n) (b := k) c9 (by omega) (by omega)
        refine lv_aload_n hx hb dX3_forgetAll_12 rfl (lv_at hl 3 rfl) ?_
        refine lv_iload_n hx hb dX3_forgetAll_13 rfl (lv_at hl 0 rfl) ?_
        refine z_ki (va_runV (As := [.int (nI k)]) (rest := []) hfix (zcX2_memory l D cI H1 bs n me lo c e k hW4 (by omega)) (cwV 1 hts gX3_forgetAll_X2_memory rfl rfl rfl (by decide +kernel) ⟨Nat.le_of_ble_eq_true rfl, Nat.le_of_ble_eq_true rfl⟩) (z_preV hK hK hW4 (ci := 2) (q0 := 0) rfl rfl rfl) rfl rfl hl.1 rfl (lv_room (Nat.le_of_ble_eq_true rfl)) dX3_forgetAll_14 ⟨by omega, by omega⟩) ?_
        refine lv_iconst (v := 1) hx hb dX3_forgetAll_17 (by decide) ?_
        refine lv_iadd hx hb dX3_forgetAll_18 ?_
        refine lv_istore (lv' := [(4, .int ((me k) + 1)), (3, .int (nI k)), (2, .int (nI n)), (0, .ref b), (1, .ref bs)]) hx hb dX3_forgetAll_19 hl (by decide) rfl (fun ls hl => ?_)
        refine lv_iload hx hb dX3_forgetAll_21 (lv_at hl 0 rfl) ?_
        refine lv_if_le (tgt := 58) hx hb dX3_forgetAll_23 (by decide) (fun c23 => ?_) (fun c23 => ?_)
        · exact absurd c23 (zI_span hI (by omega))
        · refine lv_aload_n hx hb dX3_forgetAll_26 rfl (lv_at hl 3 rfl) ?_
          refine va_get (D := D) (ci := 3) (v := .int rd) (C := RX3) (T := TX3) (N := 5) hx hb hts hinX3 hown hK hT3 0 rfl rfl 0 (by decide) (hts _ (List.mem_of_getElem? (i := 1) rfl)) (fun _ h9 => h9) rfl dX3_forgetAll_27 ?_
          refine lv_iload hx hb dX3_forgetAll_30 (lv_at hl 0 rfl) ?_
          refine lv_irem hx hb dX3_forgetAll_32 (zI_span0 hI (by omega)) ?_
          refine z_toi (y := zrem rd ((me k) + 1)) rfl ?_
          refine lv_if_ne (tgt := 58) hx hb dX3_forgetAll_33 (by decide) (fun c33 => ?_) (fun c33 => ?_)
          · refine lv_iinc (v := (nI (k + 1))) (lv' := [(3, .int (nI (k + 1))), (4, .int ((me k) + 1)), (2, .int (nI n)), (0, .ref b), (1, .ref bs)]) hx hb dX3_forgetAll_58 hl (k := 1) rfl (nI_1 _) (by decide) rfl (fun ls hl => ?_)
            refine lv_goto (tgt := 7) hx hb dX3_forgetAll_61 (by decide) ?_
            exact ih (k + 1) (by omega) (by omega) _ (rfl) _ _ ((by first | (rw [zfA_n c33]; exact hT3) | (rw [zfA_y c33]; exact hT3))) (hW4) hz hS _ (lv_sub hl [0, 2, 3, 4] rfl)
          · refine lv_aload_n hx hb dX3_forgetAll_36 rfl (lv_at hl 3 rfl) ?_
            refine va_get (D := D) (ci := 3) (v := .ref (b + 1)) (C := RX3) (T := TX3) (N := 5) hx hb hts hinX3 hown hK hT3 0 rfl rfl 2 (by decide) (hts _ (List.mem_of_getElem? (i := 2) rfl)) (fun _ h9 => h9) rfl dX3_forgetAll_37 ?_
            refine lv_iload_n hx hb dX3_forgetAll_40 rfl (lv_at hl 1 rfl) ?_
            refine lv_aload_n hx hb dX3_forgetAll_41 rfl (lv_at hl 3 rfl) ?_
            refine va_get (D := D) (ci := 3) (v := .ref (b + 1)) (C := RX3) (T := TX3) (N := 5) hx hb hts hinX3 hown hK hT3 0 rfl rfl 2 (by decide) (hts _ (List.mem_of_getElem? (i := 2) rfl)) (fun _ h9 => h9) rfl dX3_forgetAll_42 ?_
            refine lv_iload_n hx hb dX3_forgetAll_45 rfl (lv_at hl 1 rfl) ?_
            refine z_ki (va_runV (As := [.int (nI k)]) (rest := [.int (nI k), .ref (b + 1)]) hfix (zcX1_at l D cI H1 (b + 1) 12 ((fA rd me g k) 6) k (va_P.sub (ws' := (zRow cI (b + 1) 12 ((fA rd me g k) 6))) hT3 [1, 2] rfl) (by omega) (by omega)) (cwV 1 hts gX3_forgetAll_X1_at rfl rfl rfl (by decide +kernel) ⟨Nat.le_of_ble_eq_true rfl, Nat.le_of_ble_eq_true rfl⟩) (z_preV hK hK hT3 (ci := 1) (q0 := 1) rfl rfl rfl) rfl rfl hl.1 rfl (lv_room (Nat.le_of_ble_eq_true rfl)) dX3_forgetAll_46 ⟨by omega, by omega⟩) ?_
            refine lv_iconst (v := 1) hx hb dX3_forgetAll_49 (by decide) ?_
            refine lv_isub hx hb dX3_forgetAll_50 ?_
            refine lv_iconst (v := 0) hx hb dX3_forgetAll_51 (by decide) ?_
            refine va_mmax hx hb (by rw [hml]; exact hl.1.symm) hown (hts _ (List.mem_of_getElem? (i := 3) rfl)) (hts _ (List.mem_of_getElem? (i := 4) rfl)) (hts _ (List.mem_of_getElem? (i := 5) rfl)) (hts _ (List.mem_of_getElem? (i := 6) rfl)) (Nat.le_of_ble_eq_true rfl) (Nat.le_of_ble_eq_true rfl) (by omega) (by omega) dX3_forgetAll_52 ?_
            refine z_toi (y := zmax ((((fA rd me g k) 6) k) - 1) 0) rfl ?_
            refine z_mv (va_runV (As := [.int (nI k), .int (zmax ((((fA rd me g k) 6) k) - 1) 0)]) (rest := []) hfix (zcX1_put l D cI H1 (b + 1) 12 ((fA rd me g k) 6) k (zmax ((((fA rd me g k) 6) k) - 1) 0) (va_P.sub (ws' := (zRow cI (b + 1) 12 ((fA rd me g k) 6))) hT3 [1, 2] rfl) (by omega) (by omega)) (cwV 2 hts gX3_forgetAll_X1_put rfl rfl rfl (by decide +kernel) ⟨Nat.le_of_ble_eq_true rfl, Nat.le_of_ble_eq_true rfl⟩) (z_preV hK hK hT3 (ci := 1) (q0 := 1) rfl rfl rfl) rfl rfl hl.1 rfl (lv_room (Nat.le_of_ble_eq_true rfl)) dX3_forgetAll_55 ⟨by omega, by omega⟩) hS (fun q _ h => by simp only [zF] at h ⊢; omega) (fun q h => by simp only [zF] at h ⊢; omega) (fun H5 lo6 hB hz1 hk1 hS => ?_)
            have hz : H5.size = H.size := (hB.2).trans hz
            have hT7 : va_P D vwCl (zTalk cI b rd tk (z2 (fA rd me g k) 6 k (zmax ((((fA rd me g k) 6) k) - 1) 0))) H5 := zT_sub6 hT3 hB.1 (fun q h1 h2 => hk1 q h1 (fun h3 => h2 (by simp only [zF] at h3 ⊢; omega)))
            have hW8 := zS_kept hW4 (fun q h1 h2 h3 => hk1 q h1 (by simp only [zF]; omega))
            refine lv_iinc (v := (nI (k + 1))) (lv' := [(3, .int (nI (k + 1))), (4, .int ((me k) + 1)), (2, .int (nI n)), (0, .ref b), (1, .ref bs)]) hx hb dX3_forgetAll_58 hl (k := 1) rfl (nI_1 _) (by decide) rfl (fun ls hl => ?_)
            refine lv_goto (tgt := 7) hx hb dX3_forgetAll_61 (by decide) ?_
            exact ih (k + 1) (by omega) (by omega) _ (rfl) _ _ ((by first | (rw [zfA_n c33]; exact hT7) | (rw [zfA_y c33]; exact hT7))) (hW8) hz hS _ (lv_sub hl [0, 2, 3, 4] rfl)
  exact loop7 _ 0 (Nat.lt_succ_self _) (by omega) _ (rfl) _ _ hT hW hz hS _ (lv_sub hl [0, 1, 2, 3] rfl)
set_option maxHeartbeats 4000000 in
set_option maxRecDepth 100000 in
/-- Talk.goRounds -/
theorem zcX3_goRounds (l : Launch) (D : va_G) (cI : ClassId) (H : Heap) (b : Nat) (rd : Int32) (tk : Int32) (g : zG) (b2 : Nat) (rd2 : Int32) (tk2 : Int32) (g2 : zG) (bs : Nat) (n : Nat) (me : Nat → Int32) (lo : Nat → Int32) (c : Nat → Nat) (e : Nat → Nat) (r : Nat) (hT : va_P D vwCl (zTalk cI b rd tk g) H) (hU : va_P D vwCl (zTalk cI b2 rd2 tk2 g2) H) (hdj : b + 17 ≤ b2 ∨ b2 + 17 ≤ b) (hW : va_P D vwCl (zSeats cI bs n me lo c e) H) (hI : zI n me lo c e) (hd2 : bs + 9 ≤ b ∨ b + 17 ≤ bs) (hd3 : bs + 9 ≤ b2 ∨ b2 + 17 ≤ bs) (hr9 : r ≤ 200) : Met l yX3_goRounds wsX3_goRounds ({ frames := 5, cells := 0, slots := 0, locals := 113 } : Room) (zPc D [(cI, .int)] H [.ref b, .ref bs, .ref b2, .int (nI r)]) (zM (fun H1 => va_P D vwCl (zTalk cI b (rN n me lo c e (rd, tk, g) r).1 (rN n me lo c e (rd, tk, g) r).2.1 (rN n me lo c e (rd, tk, g) r).2.2) H1 ∧ (∃ rd9 tk9 g9, va_P D vwCl (zTalk cI b2 rd9 tk9 g9) H1) ∧ H1.size = H.size) none (fun q => zF b (b + 17) q ∨ zF b2 (b2 + 17) q)) 0 0 (fun q => zF b (b + 17) q ∨ zF b2 (b2 + 17) q) := by
  refine z_enter (cc := cX3_goRounds) (maxL := 5) (ret := none) (by decide) rfl (Nat.le_of_ble_eq_true rfl) ?_
  intro pg ev s m args below meth cd hfix hr hlocks hname hK hHs ls hl
  obtain ⟨hx, hb, hml, hown, hts⟩ := id hfix
  have hl : lv_has ls 5 [(0, .ref b), (1, .ref bs), (2, .ref b2), (3, .int (nI r))] := hl
  have hS : va_S (fun q => zF b (b + 17) q ∨ zF b2 (b2 + 17) q) s.heap H [] := by rw [hHs]; exact va_S.rf
  have hz : H.size = H.size := rfl
  have hinX3 : ∀ w ∈ wsX30, w ∈ wsX3_goRounds := by decide +kernel
  refine lv_iconst (v := 0) hx hb dX3_goRounds_0 (by decide) ?_
  refine lv_istore (lv' := [(4, .int 0), (0, .ref b), (1, .ref bs), (2, .ref b2), (3, .int (nI r))]) hx hb dX3_goRounds_1 hl (by decide) rfl (fun ls hl => ?_)
  have loop3 : ∀ (fu : Nat) (k : Nat) (rd0 : Int32) (tk0 : Int32) (g0 : zG), r - k < fu → (k ≤ r) → ∀ (x4 : Int32), x4 = (nI k) → ∀ (H1 : Heap) (lo2 : List Loc), va_P D vwCl (zTalk cI b ((rN n me lo c e (rd, tk, g) k).1) ((rN n me lo c e (rd, tk, g) k).2.1) ((rN n me lo c e (rd, tk, g) k).2.2)) H1 → va_P D vwCl (zTalk cI b2 rd0 tk0 g0) H1 → va_P D vwCl (zSeats cI bs n me lo c e) H1 → H1.size = H.size → va_S (fun q => zF b (b + 17) q ∨ zF b2 (b2 + 17) q) s.heap H1 lo2 → ∀ ls : Array Slot, lv_has ls 5 [(4, .int x4), (0, .ref b), (1, .ref bs), (2, .ref b2), (3, .int (nI r))] → W pg l ev ({ frames := 5, cells := 0, slots := 0, locals := 113 } : Room) s m args below meth cd H1 lo2 0 0 (MQ below (zM (fun H1 => va_P D vwCl (zTalk cI b (rN n me lo c e (rd, tk, g) r).1 (rN n me lo c e (rd, tk, g) r).2.1 (rN n me lo c e (rd, tk, g) r).2.2) H1 ∧ (∃ rd9 tk9 g9, va_P D vwCl (zTalk cI b2 rd9 tk9 g9) H1) ∧ H1.size = H.size) none (fun q => zF b (b + 17) q ∨ zF b2 (b2 + 17) q)) args s 0 0 (fun q => zF b (b + 17) q ∨ zF b2 (b2 + 17) q)) (F0 m 3 ls []) := by
    intro fu
    induction fu with
    | zero => intro k rd0 tk0 g0 hfu; exact absurd hfu (Nat.not_lt_zero _)
    | succ fu ih =>
      intro k rd0 tk0 g0 hfu hi3_0 x4 ex4 H1 lo2 hT3 hU4 hW5 hz hS ls hl
      subst ex4
      refine lv_iload hx hb dX3_goRounds_3 (lv_at hl 0 rfl) ?_
      refine lv_iload_n hx hb dX3_goRounds_5 rfl (lv_at hl 4 rfl) ?_
      refine lv_icmp_ge (tgt := 41) hx hb dX3_goRounds_6 (by decide) (fun c6 => ?_) (fun c6 => ?_)
      · have c6 := z_le (a := r) (b := k) c6 (by omega) (by omega)
        exact z_vretM (⟨by rw [show r = k by omega]; exact hT3, ⟨_, _, _, hU4⟩, hz⟩) hx hb hr hlocks hS dX3_goRounds_41
      · have c6 := z_nle (a := r) (b := k) c6 (by omega) (by omega)
        refine lv_aload_n hx hb dX3_goRounds_9 rfl (lv_at hl 3 rfl) ?_
        refine lv_aload_n hx hb dX3_goRounds_10 rfl (lv_at hl 1 rfl) ?_
        refine z_mv (va_runV (As := [.ref b]) (rest := []) hfix (zcX3_copyFrom l D cI H1 b2 rd0 tk0 g0 b ((rN n me lo c e (rd, tk, g) k).1) ((rN n me lo c e (rd, tk, g) k).2.1) ((rN n me lo c e (rd, tk, g) k).2.2) hU4 hT3 (by omega)) (cwV 1 hts gX3_goRounds_X3_copyFrom rfl rfl rfl (by decide +kernel) ⟨Nat.le_of_ble_eq_true rfl, Nat.le_of_ble_eq_true rfl⟩) (z_preV hK hK hU4 (ci := 3) (q0 := 0) rfl rfl rfl) rfl rfl hl.1 rfl (lv_room (Nat.le_of_ble_eq_true rfl)) dX3_goRounds_11 ⟨by omega, by omega⟩) hS (fun q _ h => by simp only [zF] at h ⊢; omega) (fun q h => by simp only [zF] at h ⊢; omega) (fun H6 lo7 hB hz1 hk1 hS => ?_)
        have hz : H6.size = H.size := (hB.2).trans hz
        have hT8 := zT_kept hT3 (fun q h1 h2 h3 => hk1 q h1 (by simp only [zF]; omega))
        have hU9 : va_P D vwCl (zTalk cI b2 ((rN n me lo c e (rd, tk, g) k).1) ((rN n me lo c e (rd, tk, g) k).2.1) ((rN n me lo c e (rd, tk, g) k).2.2)) H6 := hB.1
        have hW10 := zS_kept hW5 (fun q h1 h2 h3 => hk1 q h1 (by simp only [zF]; omega))
        refine lv_aload_n hx hb dX3_goRounds_14 rfl (lv_at hl 1 rfl) ?_
        refine lv_aload_n hx hb dX3_goRounds_15 rfl (lv_at hl 2 rfl) ?_
        refine lv_aload_n hx hb dX3_goRounds_16 rfl (lv_at hl 3 rfl) ?_
        refine z_mv (va_runV (As := [.ref bs, .ref b2]) (rest := []) hfix (zcX3_hearAll l D cI H6 b ((rN n me lo c e (rd, tk, g) k).1) ((rN n me lo c e (rd, tk, g) k).2.1) ((rN n me lo c e (rd, tk, g) k).2.2) b2 ((rN n me lo c e (rd, tk, g) k).1) ((rN n me lo c e (rd, tk, g) k).2.1) ((rN n me lo c e (rd, tk, g) k).2.2) bs n me lo c e hT8 hU9 (by omega) hW10 hI (by omega)) (cwV 2 hts gX3_goRounds_X3_hearAll rfl rfl rfl (by decide +kernel) ⟨Nat.le_of_ble_eq_true rfl, Nat.le_of_ble_eq_true rfl⟩) (z_preV hK hK hT8 (ci := 3) (q0 := 0) rfl rfl rfl) rfl rfl hl.1 rfl (lv_room (Nat.le_of_ble_eq_true rfl)) dX3_goRounds_17 ⟨by omega, by omega⟩) hS (fun q _ h => by simp only [zF] at h ⊢; omega) (fun q h => by simp only [zF] at h ⊢; omega) (fun H11 lo12 hB hz1 hk1 hS => ?_)
        have hz : H11.size = H.size := (hB.2).trans hz
        have hT13 : va_P D vwCl (zTalk cI b ((rN n me lo c e (rd, tk, g) k).1) ((hA lo c e ((rN n me lo c e (rd, tk, g) k).2.2) ((rN n me lo c e (rd, tk, g) k).2.1, (rN n me lo c e (rd, tk, g) k).2.2) n).1) ((hA lo c e ((rN n me lo c e (rd, tk, g) k).2.2) ((rN n me lo c e (rd, tk, g) k).2.1, (rN n me lo c e (rd, tk, g) k).2.2) n).2)) H11 := hB.1
        have hU14 := zT_kept hU9 (fun q h1 h2 h3 => hk1 q h1 (by simp only [zF]; omega))
        have hW15 := zS_kept hW10 (fun q h1 h2 h3 => hk1 q h1 (by simp only [zF]; omega))
        refine lv_aload_n hx hb dX3_goRounds_20 rfl (lv_at hl 1 rfl) ?_
        refine lv_aload_n hx hb dX3_goRounds_21 rfl (lv_at hl 2 rfl) ?_
        refine z_mv (va_runV (As := [.ref bs]) (rest := []) hfix (zcX3_forgetAll l D cI H11 b ((rN n me lo c e (rd, tk, g) k).1) ((hA lo c e ((rN n me lo c e (rd, tk, g) k).2.2) ((rN n me lo c e (rd, tk, g) k).2.1, (rN n me lo c e (rd, tk, g) k).2.2) n).1) ((hA lo c e ((rN n me lo c e (rd, tk, g) k).2.2) ((rN n me lo c e (rd, tk, g) k).2.1, (rN n me lo c e (rd, tk, g) k).2.2) n).2) bs n me lo c e hT13 hW15 hI (by omega)) (cwV 1 hts gX3_goRounds_X3_forgetAll rfl rfl rfl (by decide +kernel) ⟨Nat.le_of_ble_eq_true rfl, Nat.le_of_ble_eq_true rfl⟩) (z_preV hK hK hT13 (ci := 3) (q0 := 0) rfl rfl rfl) rfl rfl hl.1 rfl (lv_room (Nat.le_of_ble_eq_true rfl)) dX3_goRounds_22 ⟨by omega, by omega⟩) hS (fun q _ h => by simp only [zF] at h ⊢; omega) (fun q h => by simp only [zF] at h ⊢; omega) (fun H16 lo17 hB hz1 hk1 hS => ?_)
        have hz : H16.size = H.size := (hB.2).trans hz
        have hT18 : va_P D vwCl (zTalk cI b ((rN n me lo c e (rd, tk, g) k).1) ((hA lo c e ((rN n me lo c e (rd, tk, g) k).2.2) ((rN n me lo c e (rd, tk, g) k).2.1, (rN n me lo c e (rd, tk, g) k).2.2) n).1) (fA ((rN n me lo c e (rd, tk, g) k).1) me ((hA lo c e ((rN n me lo c e (rd, tk, g) k).2.2) ((rN n me lo c e (rd, tk, g) k).2.1, (rN n me lo c e (rd, tk, g) k).2.2) n).2) n)) H16 := hB.1
        have hU19 := zT_kept hU14 (fun q h1 h2 h3 => hk1 q h1 (by simp only [zF]; omega))
        have hW20 := zS_kept hW15 (fun q h1 h2 h3 => hk1 q h1 (by simp only [zF]; omega))
        refine lv_aload_n hx hb dX3_goRounds_25 rfl (lv_at hl 1 rfl) ?_
        refine lv_dup hx hb dX3_goRounds_26 rfl ?_
        refine va_get (D := D) (ci := 3) (v := .int ((rN n me lo c e (rd, tk, g) k).1)) (C := RX3) (T := TX3) (N := 5) hx hb hts hinX3 hown hK hT18 0 rfl rfl 0 (by decide) (hts _ (List.mem_of_getElem? (i := 1) rfl)) (fun _ h9 => h9) rfl dX3_goRounds_27 ?_
        refine lv_iconst (v := 1) hx hb dX3_goRounds_30 (by decide) ?_
        refine lv_iadd hx hb dX3_goRounds_31 ?_
        refine z_put (D := D) (ci := 3) (v := .int (((rN n me lo c e (rd, tk, g) k).1) + 1)) (ty := .int) (C := RX3) (T := TX3) (N := 5) hx hb hts hinX3 tyX3 tyX3_ok nmX3 hown hK hT18 (by simp only [zF]; omega) hS 0 rfl rfl 0 (by decide) (hts _ (List.mem_of_getElem? (i := 1) rfl)) (fun _ h9 => h9) rfl (by decide +kernel) rfl rfl (Nat.le_of_ble_eq_true rfl) dX3_goRounds_32 (fun H21 lo22 hP1 hz1 hk1 hS => ?_)
        have hz : H21.size = H.size := by omega
        have hT23 : va_P D vwCl (zTalk cI b (((rN n me lo c e (rd, tk, g) k).1) + 1) ((hA lo c e ((rN n me lo c e (rd, tk, g) k).2.2) ((rN n me lo c e (rd, tk, g) k).2.1, (rN n me lo c e (rd, tk, g) k).2.2) n).1) (fA ((rN n me lo c e (rd, tk, g) k).1) me ((hA lo c e ((rN n me lo c e (rd, tk, g) k).2.2) ((rN n me lo c e (rd, tk, g) k).2.1, (rN n me lo c e (rd, tk, g) k).2.2) n).2) n)) H21 := z_set zT_c hT18 0 rfl hP1 (fun q _ h => hk1 q h)
        have hU24 := zT_kept hU19 (fun q h1 h2 h3 => (fun q _ h => hk1 q h) q h1 (by omega))
        have hW25 := zS_kept hW20 (fun q h1 h2 h3 => (fun q _ h => hk1 q h) q h1 (by omega))
        refine lv_iinc (v := (nI (k + 1))) (lv' := [(4, .int (nI (k + 1))), (0, .ref b), (1, .ref bs), (2, .ref b2), (3, .int (nI r))]) hx hb dX3_goRounds_35 hl (k := 0) rfl (nI_1 _) (by decide) rfl (fun ls hl => ?_)
        refine lv_goto (tgt := 3) hx hb dX3_goRounds_38 (by decide) ?_
        exact ih (k + 1) ((rN n me lo c e (rd, tk, g) k).1) ((rN n me lo c e (rd, tk, g) k).2.1) ((rN n me lo c e (rd, tk, g) k).2.2) (by omega) (by omega) _ (rfl) _ _ (hT23) (hU24) (hW25) hz hS _ (lv_sub hl [0, 1, 2, 3, 4] rfl)
  exact loop3 _ 0 rd2 tk2 g2 (Nat.lt_succ_self _) (by omega) _ (rfl) _ _ hT hU hW hz hS _ (lv_sub hl [0, 1, 2, 3, 4] rfl)
