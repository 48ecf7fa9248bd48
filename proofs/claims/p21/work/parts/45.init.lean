set_option maxHeartbeats 4000000 in
set_option maxRecDepth 100000 in
/-- a new ParrotJury$Row -/
theorem zcX1_init (l : Launch) (D : va_G) (cI : ClassId) (H : Heap) (b : Nat) (n : Nat) (hO : va_P D vwCl [(b, .inr (1, [.null]))] H) (hsz : H.size = b + 1) (hn : n ≤ 48) : Met l yX1_init wsX1_init ({ frames := 1, cells := 1, slots := n, locals := 14 } : Room) (zPc D [(cI, .int)] H [.ref b, .int (nI n)]) (zM (fun H1 => va_P D vwCl (zRow cI b n (fun _ => 0)) H1 ∧ H1.size = b + 2) none (fun q => b ≤ q)) 1 n (fun q => b ≤ q) := by
  refine z_enter (cc := cX1_init) (maxL := 2) (ret := none) (by decide) rfl (Nat.le_of_ble_eq_true rfl) ?_
  intro pg ev s m args below meth cd hfix hr hlocks hname hK hHs ls hl
  obtain ⟨hx, hb, hml, hown, hts⟩ := id hfix
  have hl : lv_has ls 2 [(0, .ref b), (1, .int (nI n))] := hl
  have hS : va_S (fun q => b ≤ q) s.heap H [] := by rw [hHs]; exact va_S.rf
  have hz : H.size ≤ H.size := Nat.le_refl _
  have hin : meth.name = "<init>" := hname
  have hinX1 : ∀ w ∈ wsX10, w ∈ wsX1_init := by decide +kernel
  refine lv_aload_n hx hb dX1_init_0 rfl (lv_at hl 0 rfl) ?_
  refine W.objInit hx hb hown (hts _ (List.mem_of_getElem? (i := 1) rfl)) (hts _ (List.mem_of_getElem? (i := 2) rfl)) (hts _ (List.mem_of_getElem? (i := 3) rfl)) rfl (by rw [hml]; exact hl.1) rfl dX1_init_1 (Nat.le_of_ble_eq_true rfl) (Nat.le_of_ble_eq_true rfl) ?_
  refine W.eq (g2 := F0 m 4 ls []) rfl ?_
  refine lv_aload_n hx hb dX1_init_4 rfl (lv_at hl 0 rfl) ?_
  refine lv_iload_n hx hb dX1_init_5 rfl (lv_at hl 1 rfl) ?_
  refine lv_iconst (v := 0) hx hb dX1_init_6 (by decide) ?_
  refine va_mmax hx hb (by rw [hml]; exact hl.1.symm) hown (hts _ (List.mem_of_getElem? (i := 4) rfl)) (hts _ (List.mem_of_getElem? (i := 5) rfl)) (hts _ (List.mem_of_getElem? (i := 6) rfl)) (hts _ (List.mem_of_getElem? (i := 7) rfl)) (Nat.le_of_ble_eq_true rfl) (Nat.le_of_ble_eq_true rfl) (by omega) (by omega) dX1_init_7 ?_
  refine z_toi (y := zmax (nI n) 0) rfl ?_
  refine z_toi (y := nI n) (by simp only [zmax]; rw [if_neg (nI_pos (by omega))]) ?_
  refine z_newi hx hb (hts _ (List.mem_of_getElem? (i := 8) rfl)) hK 0 rfl (N := n) rfl (by omega) (Nat.le_of_ble_eq_true rfl) (by show 0 + n ≤ n; omega) dX1_init_10 (h := b + 1) hsz (fun H1 hAr2 hz1 hk1 => ?_)
  have hS := z_Sgrow hS (by omega) (fun q h => hk1 q (by omega))
  have hsz : H1.size = b + 2 := by omega
  have hz : H.size ≤ H1.size := by omega
  have hO3 := zOb_kept hO (fun q h1 h2 h3 => (fun q (h9 : q < H.size) (_ : True) => hk1 q (by omega)) q h1 (trivial))
  refine z_putF (D := D) (ci := 1) (v := .ref (b + 1)) (ty := (.array .int)) (C := RX1) (T := TX1) (N := 1) hx hb hts hinX1 tyX1 tyX1_ok nmX1 hown hK hO3 (by show b ≤ _; omega) hS 0 rfl rfl 0 (by decide) (hts _ (List.mem_of_getElem? (i := 9) rfl)) (fun _ h9 => h9) rfl hin rfl (by decide +kernel) rfl rfl (Nat.le_of_ble_eq_true rfl) dX1_init_12 (fun H4 lo5 hP1 hz1 hk1 hS => ?_)
  have hsz : H4.size = b + 2 := by omega
  have hz : H.size ≤ H4.size := by omega
  have hO6 : va_P D vwCl [(b, .inr (1, [.ref (b + 1)]))] H4 := z_set zOb_c hO3 0 rfl hP1 (fun q _ h => hk1 q h)
  have hAr7 := zAr_kept hAr2 (fun q h1 h2 h3 => (fun q _ h => hk1 q h) q h1 (by omega))
  refine W.widen (k := 1) (n := n) (by omega) (by omega) ?_
  exact z_vretM (⟨(va_P.app hO6 hAr7), hsz⟩) hx hb hr hlocks hS dX1_init_15
set_option maxHeartbeats 4000000 in
set_option maxRecDepth 100000 in
/-- a new ParrotJury$Halves -/
theorem zcX0_init (l : Launch) (D : va_G) (cI : ClassId) (H : Heap) (b : Nat) (hO : va_P D vwCl [(b, .inr (0, [.null, .null, .null]))] H) (hsz : H.size = b + 1) : Met l yX0_init wsX0_init ({ frames := 2, cells := 6, slots := 39, locals := 35 } : Room) (zPc D [(cI, .int)] H [.ref b]) (zM (fun H1 => va_P D vwCl (zHalves cI b (fun _ => 0) (fun _ => 0) (fun _ => 0)) H1 ∧ H1.size = b + 7) none (fun q => b ≤ q)) 6 39 (fun q => b ≤ q) := by
  refine z_enter (cc := cX0_init) (maxL := 1) (ret := none) (by decide) rfl (Nat.le_of_ble_eq_true rfl) ?_
  intro pg ev s m args below meth cd hfix hr hlocks hname hK hHs ls hl
  obtain ⟨hx, hb, hml, hown, hts⟩ := id hfix
  have hl : lv_has ls 1 [(0, .ref b)] := hl
  have hS : va_S (fun q => b ≤ q) s.heap H [] := by rw [hHs]; exact va_S.rf
  have hz : H.size ≤ H.size := Nat.le_refl _
  have hin : meth.name = "<init>" := hname
  have hinX0 : ∀ w ∈ wsX00, w ∈ wsX0_init := by decide +kernel
  have hinX1 : ∀ w ∈ wsX10, w ∈ wsX0_init := by decide +kernel
  refine lv_aload_n hx hb dX0_init_0 rfl (lv_at hl 0 rfl) ?_
  refine W.objInit hx hb hown (hts _ (List.mem_of_getElem? (i := 1) rfl)) (hts _ (List.mem_of_getElem? (i := 2) rfl)) (hts _ (List.mem_of_getElem? (i := 3) rfl)) rfl (by rw [hml]; exact hl.1) rfl dX0_init_1 (Nat.le_of_ble_eq_true rfl) (Nat.le_of_ble_eq_true rfl) ?_
  refine W.eq (g2 := F0 m 4 ls []) rfl ?_
  refine lv_aload_n hx hb dX0_init_4 rfl (lv_at hl 0 rfl) ?_
  refine z_new (ci := 1) (C := RX1) (T := TX1) (N := 1) (fs := [.null]) hx hb hts hinX1 tyX1 tyX1_ok hown (hts _ (List.mem_of_getElem? (i := 4) rfl)) (hts _ (List.mem_of_getElem? (i := 5) rfl)) (hts _ (List.mem_of_getElem? (i := 6) rfl)) hK rfl (fun j hj => match j, hj with | 0, _ => rfl | _ + 1, h => absurd h (by omega)) (Nat.le_of_ble_eq_true rfl) (Nat.le_of_ble_eq_true rfl) dX0_init_5 (h := b + 1) hsz (fun H1 hOb2 hz1 hk1 => ?_)
  have hS := z_Sgrow hS (by omega) (fun q h => hk1 q (by omega))
  have hsz : H1.size = b + 2 := by omega
  have hz : H.size ≤ H1.size := by omega
  have hO3 := zOb_kept hO (fun q h1 h2 h3 => (fun q (h9 : q < H.size) (_ : True) => hk1 q (by omega)) q h1 (trivial))
  refine lv_dup hx hb dX0_init_8 rfl ?_
  refine lv_bipush (v := 12) hx hb dX0_init_9 (by decide) ?_
  refine z_mv (va_runI (As := [.int 12]) (rest := [.ref (b + 1), .ref b]) hfix (zcX1_init l D cI H1 (b + 1) 12 hOb2 (by omega) (by omega)) (cwI 1 hts gX0_init_X1_init rfl rfl rfl (hts _ (List.mem_of_getElem? (i := 6) rfl)) (hts _ (List.mem_of_getElem? (i := 10) rfl)) (hts _ (List.mem_of_getElem? (i := 11) rfl)) rfl (by decide +kernel) ⟨Nat.le_of_ble_eq_true rfl, Nat.le_of_ble_eq_true rfl⟩) (z_preS hK) rfl rfl hl.1 rfl (lv_room (Nat.le_of_ble_eq_true rfl)) dX0_init_11 ⟨Nat.le_of_ble_eq_true rfl, Nat.le_of_ble_eq_true rfl⟩) hS (fun q _ h => by have h8 : (b + 1) ≤ q := h; show b ≤ q; omega) (fun q h => by have h8 : (b + 1) ≤ q := h; show b ≤ q; omega) (fun H4 lo5 hB hz1 hk1 hS => ?_)
  have hsz : H4.size = b + 3 := by have h9 := hB.2; omega
  have hz : H.size ≤ H4.size := by omega
  have hO6 := zOb_kept hO3 (fun q h1 h2 h3 => hk1 q h1 (fun h8 => by have h7 : (b + 1) ≤ q := h8; omega))
  have hW7 : va_P D vwCl (zRow cI (b + 1) 12 (fun _ => 0)) H4 := hB.1
  refine z_putF (D := D) (ci := 0) (v := .ref (b + 1)) (ty := (.object "ParrotJury$Row")) (C := RX0) (T := TX0) (N := 3) hx hb hts hinX0 tyX0 tyX0_ok nmX0 hown hK hO6 (by show b ≤ _; omega) hS 0 rfl rfl 0 (by decide) (hts _ (List.mem_of_getElem? (i := 7) rfl)) (fun _ h9 => h9) rfl hin rfl (by decide +kernel) rfl rfl (Nat.le_of_ble_eq_true rfl) dX0_init_14 (fun H8 lo9 hP1 hz1 hk1 hS => ?_)
  have hsz : H8.size = b + 3 := by omega
  have hz : H.size ≤ H8.size := by omega
  have hO10 : va_P D vwCl [(b, .inr (0, [.ref (b + 1), .null, .null]))] H8 := z_set zOb_c hO6 0 rfl hP1 (fun q _ h => hk1 q h)
  have hW11 := zR_kept hW7 (fun q h1 h2 h3 => (fun q _ h => hk1 q h) q h1 (by omega))
  refine lv_aload_n hx hb dX0_init_17 rfl (lv_at hl 0 rfl) ?_
  refine z_new (ci := 1) (C := RX1) (T := TX1) (N := 1) (fs := [.null]) hx hb hts hinX1 tyX1 tyX1_ok hown (hts _ (List.mem_of_getElem? (i := 4) rfl)) (hts _ (List.mem_of_getElem? (i := 5) rfl)) (hts _ (List.mem_of_getElem? (i := 6) rfl)) hK rfl (fun j hj => match j, hj with | 0, _ => rfl | _ + 1, h => absurd h (by omega)) (Nat.le_of_ble_eq_true rfl) (Nat.le_of_ble_eq_true rfl) dX0_init_18 (h := b + 3) hsz (fun H12 hOb13 hz1 hk1 => ?_)
  have hS := z_Sgrow hS (by omega) (fun q h => hk1 q (by omega))
  have hsz : H12.size = b + 4 := by omega
  have hz : H.size ≤ H12.size := by omega
  have hO14 := zOb_kept hO10 (fun q h1 h2 h3 => (fun q (h9 : q < H8.size) (_ : True) => hk1 q (by omega)) q h1 (trivial))
  have hW15 := zR_kept hW11 (fun q h1 h2 h3 => (fun q (h9 : q < H8.size) (_ : True) => hk1 q (by omega)) q h1 (trivial))
  refine lv_dup hx hb dX0_init_21 rfl ?_
  refine lv_bipush (v := 12) hx hb dX0_init_22 (by decide) ?_
  refine z_mv (va_runI (As := [.int 12]) (rest := [.ref (b + 3), .ref b]) hfix (zcX1_init l D cI H12 (b + 3) 12 hOb13 (by omega) (by omega)) (cwI 1 hts gX0_init_X1_init rfl rfl rfl (hts _ (List.mem_of_getElem? (i := 6) rfl)) (hts _ (List.mem_of_getElem? (i := 10) rfl)) (hts _ (List.mem_of_getElem? (i := 11) rfl)) rfl (by decide +kernel) ⟨Nat.le_of_ble_eq_true rfl, Nat.le_of_ble_eq_true rfl⟩) (z_preS hK) rfl rfl hl.1 rfl (lv_room (Nat.le_of_ble_eq_true rfl)) dX0_init_24 ⟨Nat.le_of_ble_eq_true rfl, Nat.le_of_ble_eq_true rfl⟩) hS (fun q _ h => by have h8 : (b + 3) ≤ q := h; show b ≤ q; omega) (fun q h => by have h8 : (b + 3) ≤ q := h; show b ≤ q; omega) (fun H16 lo17 hB hz1 hk1 hS => ?_)
  have hsz : H16.size = b + 5 := by have h9 := hB.2; omega
  have hz : H.size ≤ H16.size := by omega
  have hO18 := zOb_kept hO14 (fun q h1 h2 h3 => hk1 q h1 (fun h8 => by have h7 : (b + 3) ≤ q := h8; omega))
  have hW19 := zR_kept hW15 (fun q h1 h2 h3 => hk1 q h1 (fun h8 => by have h7 : (b + 3) ≤ q := h8; omega))
  have hW20 : va_P D vwCl (zRow cI (b + 3) 12 (fun _ => 0)) H16 := hB.1
  refine z_putF (D := D) (ci := 0) (v := .ref (b + 3)) (ty := (.object "ParrotJury$Row")) (C := RX0) (T := TX0) (N := 3) hx hb hts hinX0 tyX0 tyX0_ok nmX0 hown hK hO18 (by show b ≤ _; omega) hS 0 rfl rfl 1 (by decide) (hts _ (List.mem_of_getElem? (i := 8) rfl)) (fun _ h9 => h9) rfl hin rfl (by decide +kernel) rfl rfl (Nat.le_of_ble_eq_true rfl) dX0_init_27 (fun H21 lo22 hP1 hz1 hk1 hS => ?_)
  have hsz : H21.size = b + 5 := by omega
  have hz : H.size ≤ H21.size := by omega
  have hO23 : va_P D vwCl [(b, .inr (0, [.ref (b + 1), .ref (b + 3), .null]))] H21 := z_set zOb_c hO18 0 rfl hP1 (fun q _ h => hk1 q h)
  have hW24 := zR_kept hW19 (fun q h1 h2 h3 => (fun q _ h => hk1 q h) q h1 (by omega))
  have hW25 := zR_kept hW20 (fun q h1 h2 h3 => (fun q _ h => hk1 q h) q h1 (by omega))
  refine lv_aload_n hx hb dX0_init_30 rfl (lv_at hl 0 rfl) ?_
  refine z_new (ci := 1) (C := RX1) (T := TX1) (N := 1) (fs := [.null]) hx hb hts hinX1 tyX1 tyX1_ok hown (hts _ (List.mem_of_getElem? (i := 4) rfl)) (hts _ (List.mem_of_getElem? (i := 5) rfl)) (hts _ (List.mem_of_getElem? (i := 6) rfl)) hK rfl (fun j hj => match j, hj with | 0, _ => rfl | _ + 1, h => absurd h (by omega)) (Nat.le_of_ble_eq_true rfl) (Nat.le_of_ble_eq_true rfl) dX0_init_31 (h := b + 5) hsz (fun H26 hOb27 hz1 hk1 => ?_)
  have hS := z_Sgrow hS (by omega) (fun q h => hk1 q (by omega))
  have hsz : H26.size = b + 6 := by omega
  have hz : H.size ≤ H26.size := by omega
  have hO28 := zOb_kept hO23 (fun q h1 h2 h3 => (fun q (h9 : q < H21.size) (_ : True) => hk1 q (by omega)) q h1 (trivial))
  have hW29 := zR_kept hW24 (fun q h1 h2 h3 => (fun q (h9 : q < H21.size) (_ : True) => hk1 q (by omega)) q h1 (trivial))
  have hW30 := zR_kept hW25 (fun q h1 h2 h3 => (fun q (h9 : q < H21.size) (_ : True) => hk1 q (by omega)) q h1 (trivial))
  refine lv_dup hx hb dX0_init_34 rfl ?_
  refine lv_bipush (v := 12) hx hb dX0_init_35 (by decide) ?_
  refine z_mv (va_runI (As := [.int 12]) (rest := [.ref (b + 5), .ref b]) hfix (zcX1_init l D cI H26 (b + 5) 12 hOb27 (by omega) (by omega)) (cwI 1 hts gX0_init_X1_init rfl rfl rfl (hts _ (List.mem_of_getElem? (i := 6) rfl)) (hts _ (List.mem_of_getElem? (i := 10) rfl)) (hts _ (List.mem_of_getElem? (i := 11) rfl)) rfl (by decide +kernel) ⟨Nat.le_of_ble_eq_true rfl, Nat.le_of_ble_eq_true rfl⟩) (z_preS hK) rfl rfl hl.1 rfl (lv_room (Nat.le_of_ble_eq_true rfl)) dX0_init_37 ⟨Nat.le_of_ble_eq_true rfl, Nat.le_of_ble_eq_true rfl⟩) hS (fun q _ h => by have h8 : (b + 5) ≤ q := h; show b ≤ q; omega) (fun q h => by have h8 : (b + 5) ≤ q := h; show b ≤ q; omega) (fun H31 lo32 hB hz1 hk1 hS => ?_)
  have hsz : H31.size = b + 7 := by have h9 := hB.2; omega
  have hz : H.size ≤ H31.size := by omega
  have hO33 := zOb_kept hO28 (fun q h1 h2 h3 => hk1 q h1 (fun h8 => by have h7 : (b + 5) ≤ q := h8; omega))
  have hW34 := zR_kept hW29 (fun q h1 h2 h3 => hk1 q h1 (fun h8 => by have h7 : (b + 5) ≤ q := h8; omega))
  have hW35 := zR_kept hW30 (fun q h1 h2 h3 => hk1 q h1 (fun h8 => by have h7 : (b + 5) ≤ q := h8; omega))
  have hW36 : va_P D vwCl (zRow cI (b + 5) 12 (fun _ => 0)) H31 := hB.1
  refine z_putF (D := D) (ci := 0) (v := .ref (b + 5)) (ty := (.object "ParrotJury$Row")) (C := RX0) (T := TX0) (N := 3) hx hb hts hinX0 tyX0 tyX0_ok nmX0 hown hK hO33 (by show b ≤ _; omega) hS 0 rfl rfl 2 (by decide) (hts _ (List.mem_of_getElem? (i := 9) rfl)) (fun _ h9 => h9) rfl hin rfl (by decide +kernel) rfl rfl (Nat.le_of_ble_eq_true rfl) dX0_init_40 (fun H37 lo38 hP1 hz1 hk1 hS => ?_)
  have hsz : H37.size = b + 7 := by omega
  have hz : H.size ≤ H37.size := by omega
  have hO39 : va_P D vwCl [(b, .inr (0, [.ref (b + 1), .ref (b + 3), .ref (b + 5)]))] H37 := z_set zOb_c hO33 0 rfl hP1 (fun q _ h => hk1 q h)
  have hW40 := zR_kept hW34 (fun q h1 h2 h3 => (fun q _ h => hk1 q h) q h1 (by omega))
  have hW41 := zR_kept hW35 (fun q h1 h2 h3 => (fun q _ h => hk1 q h) q h1 (by omega))
  have hW42 := zR_kept hW36 (fun q h1 h2 h3 => (fun q _ h => hk1 q h) q h1 (by omega))
  refine W.widen (k := 6) (n := 39) (by omega) (by omega) ?_
  exact z_vretM (⟨(va_P.app hO39 (va_P.app hW40 (va_P.app hW41 hW42))), hsz⟩) hx hb hr hlocks hS dX0_init_43
set_option maxHeartbeats 4000000 in
set_option maxRecDepth 100000 in
/-- a new ParrotJury$Seats -/
theorem zcX2_init (l : Launch) (D : va_G) (cI : ClassId) (H : Heap) (b : Nat) (hO : va_P D vwCl [(b, .inr (2, [.int 0, .null, .null, .null, .null]))] H) (hsz : H.size = b + 1) : Met l yX2_init wsX2_init ({ frames := 2, cells := 8, slots := 88, locals := 35 } : Room) (zPc D [(cI, .int)] H [.ref b]) (zM (fun H1 => va_P D vwCl (zSeats cI b 0 (fun _ => 0) (fun _ => 0) (fun _ => 0) (fun _ => 0)) H1 ∧ H1.size = b + 9) none (fun q => b ≤ q)) 8 88 (fun q => b ≤ q) := by
  refine z_enter (cc := cX2_init) (maxL := 1) (ret := none) (by decide) rfl (Nat.le_of_ble_eq_true rfl) ?_
  intro pg ev s m args below meth cd hfix hr hlocks hname hK hHs ls hl
  obtain ⟨hx, hb, hml, hown, hts⟩ := id hfix
  have hl : lv_has ls 1 [(0, .ref b)] := hl
  have hS : va_S (fun q => b ≤ q) s.heap H [] := by rw [hHs]; exact va_S.rf
  have hz : H.size ≤ H.size := Nat.le_refl _
  have hin : meth.name = "<init>" := hname
  have hinX1 : ∀ w ∈ wsX10, w ∈ wsX2_init := by decide +kernel
  have hinX2 : ∀ w ∈ wsX20, w ∈ wsX2_init := by decide +kernel
  refine lv_aload_n hx hb dX2_init_0 rfl (lv_at hl 0 rfl) ?_
  refine W.objInit hx hb hown (hts _ (List.mem_of_getElem? (i := 1) rfl)) (hts _ (List.mem_of_getElem? (i := 2) rfl)) (hts _ (List.mem_of_getElem? (i := 3) rfl)) rfl (by rw [hml]; exact hl.1) rfl dX2_init_1 (Nat.le_of_ble_eq_true rfl) (Nat.le_of_ble_eq_true rfl) ?_
  refine W.eq (g2 := F0 m 4 ls []) rfl ?_
  refine lv_aload_n hx hb dX2_init_4 rfl (lv_at hl 0 rfl) ?_
  refine lv_iconst (v := 0) hx hb dX2_init_5 (by decide) ?_
  refine z_put (D := D) (ci := 2) (v := .int 0) (ty := .int) (C := RX2) (T := TX2) (N := 5) hx hb hts hinX2 tyX2 tyX2_ok nmX2 hown hK hO (by show b ≤ _; omega) hS 0 rfl rfl 0 (by decide) (hts _ (List.mem_of_getElem? (i := 4) rfl)) (fun _ h9 => h9) rfl (by decide +kernel) rfl rfl (Nat.le_of_ble_eq_true rfl) dX2_init_6 (fun H1 lo2 hP1 hz1 hk1 hS => ?_)
  have hsz : H1.size = b + 1 := by omega
  have hz : H.size ≤ H1.size := by omega
  have hO3 : va_P D vwCl [(b, .inr (2, [.int 0, .null, .null, .null, .null]))] H1 := z_set zOb_c hO 0 rfl hP1 (fun q _ h => hk1 q h)
  refine lv_aload_n hx hb dX2_init_9 rfl (lv_at hl 0 rfl) ?_
  refine z_new (ci := 1) (C := RX1) (T := TX1) (N := 1) (fs := [.null]) hx hb hts hinX1 tyX1 tyX1_ok hown (hts _ (List.mem_of_getElem? (i := 5) rfl)) (hts _ (List.mem_of_getElem? (i := 6) rfl)) (hts _ (List.mem_of_getElem? (i := 7) rfl)) hK rfl (fun j hj => match j, hj with | 0, _ => rfl | _ + 1, h => absurd h (by omega)) (Nat.le_of_ble_eq_true rfl) (Nat.le_of_ble_eq_true rfl) dX2_init_10 (h := b + 1) hsz (fun H4 hOb5 hz1 hk1 => ?_)
  have hS := z_Sgrow hS (by omega) (fun q h => hk1 q (by omega))
  have hsz : H4.size = b + 2 := by omega
  have hz : H.size ≤ H4.size := by omega
  have hO6 := zOb_kept hO3 (fun q h1 h2 h3 => (fun q (h9 : q < H1.size) (_ : True) => hk1 q (by omega)) q h1 (trivial))
  refine lv_dup hx hb dX2_init_13 rfl ?_
  refine lv_bipush (v := 12) hx hb dX2_init_14 (by decide) ?_
  refine z_mv (va_runI (As := [.int 12]) (rest := [.ref (b + 1), .ref b]) hfix (zcX1_init l D cI H4 (b + 1) 12 hOb5 (by omega) (by omega)) (cwI 1 hts gX2_init_X1_init rfl rfl rfl (hts _ (List.mem_of_getElem? (i := 7) rfl)) (hts _ (List.mem_of_getElem? (i := 12) rfl)) (hts _ (List.mem_of_getElem? (i := 13) rfl)) rfl (by decide +kernel) ⟨Nat.le_of_ble_eq_true rfl, Nat.le_of_ble_eq_true rfl⟩) (z_preS hK) rfl rfl hl.1 rfl (lv_room (Nat.le_of_ble_eq_true rfl)) dX2_init_16 ⟨Nat.le_of_ble_eq_true rfl, Nat.le_of_ble_eq_true rfl⟩) hS (fun q _ h => by have h8 : (b + 1) ≤ q := h; show b ≤ q; omega) (fun q h => by have h8 : (b + 1) ≤ q := h; show b ≤ q; omega) (fun H7 lo8 hB hz1 hk1 hS => ?_)
  have hsz : H7.size = b + 3 := by have h9 := hB.2; omega
  have hz : H.size ≤ H7.size := by omega
  have hO9 := zOb_kept hO6 (fun q h1 h2 h3 => hk1 q h1 (fun h8 => by have h7 : (b + 1) ≤ q := h8; omega))
  have hW10 : va_P D vwCl (zRow cI (b + 1) 12 (fun _ => 0)) H7 := hB.1
  refine z_putF (D := D) (ci := 2) (v := .ref (b + 1)) (ty := (.object "ParrotJury$Row")) (C := RX2) (T := TX2) (N := 5) hx hb hts hinX2 tyX2 tyX2_ok nmX2 hown hK hO9 (by show b ≤ _; omega) hS 0 rfl rfl 1 (by decide) (hts _ (List.mem_of_getElem? (i := 8) rfl)) (fun _ h9 => h9) rfl hin rfl (by decide +kernel) rfl rfl (Nat.le_of_ble_eq_true rfl) dX2_init_19 (fun H11 lo12 hP1 hz1 hk1 hS => ?_)
  have hsz : H11.size = b + 3 := by omega
  have hz : H.size ≤ H11.size := by omega
  have hO13 : va_P D vwCl [(b, .inr (2, [.int 0, .ref (b + 1), .null, .null, .null]))] H11 := z_set zOb_c hO9 0 rfl hP1 (fun q _ h => hk1 q h)
  have hW14 := zR_kept hW10 (fun q h1 h2 h3 => (fun q _ h => hk1 q h) q h1 (by omega))
  refine lv_aload_n hx hb dX2_init_22 rfl (lv_at hl 0 rfl) ?_
  refine z_new (ci := 1) (C := RX1) (T := TX1) (N := 1) (fs := [.null]) hx hb hts hinX1 tyX1 tyX1_ok hown (hts _ (List.mem_of_getElem? (i := 5) rfl)) (hts _ (List.mem_of_getElem? (i := 6) rfl)) (hts _ (List.mem_of_getElem? (i := 7) rfl)) hK rfl (fun j hj => match j, hj with | 0, _ => rfl | _ + 1, h => absurd h (by omega)) (Nat.le_of_ble_eq_true rfl) (Nat.le_of_ble_eq_true rfl) dX2_init_23 (h := b + 3) hsz (fun H15 hOb16 hz1 hk1 => ?_)
  have hS := z_Sgrow hS (by omega) (fun q h => hk1 q (by omega))
  have hsz : H15.size = b + 4 := by omega
  have hz : H.size ≤ H15.size := by omega
  have hO17 := zOb_kept hO13 (fun q h1 h2 h3 => (fun q (h9 : q < H11.size) (_ : True) => hk1 q (by omega)) q h1 (trivial))
  have hW18 := zR_kept hW14 (fun q h1 h2 h3 => (fun q (h9 : q < H11.size) (_ : True) => hk1 q (by omega)) q h1 (trivial))
  refine lv_dup hx hb dX2_init_26 rfl ?_
  refine lv_bipush (v := 12) hx hb dX2_init_27 (by decide) ?_
  refine z_mv (va_runI (As := [.int 12]) (rest := [.ref (b + 3), .ref b]) hfix (zcX1_init l D cI H15 (b + 3) 12 hOb16 (by omega) (by omega)) (cwI 1 hts gX2_init_X1_init rfl rfl rfl (hts _ (List.mem_of_getElem? (i := 7) rfl)) (hts _ (List.mem_of_getElem? (i := 12) rfl)) (hts _ (List.mem_of_getElem? (i := 13) rfl)) rfl (by decide +kernel) ⟨Nat.le_of_ble_eq_true rfl, Nat.le_of_ble_eq_true rfl⟩) (z_preS hK) rfl rfl hl.1 rfl (lv_room (Nat.le_of_ble_eq_true rfl)) dX2_init_29 ⟨Nat.le_of_ble_eq_true rfl, Nat.le_of_ble_eq_true rfl⟩) hS (fun q _ h => by have h8 : (b + 3) ≤ q := h; show b ≤ q; omega) (fun q h => by have h8 : (b + 3) ≤ q := h; show b ≤ q; omega) (fun H19 lo20 hB hz1 hk1 hS => ?_)
  have hsz : H19.size = b + 5 := by have h9 := hB.2; omega
  have hz : H.size ≤ H19.size := by omega
  have hO21 := zOb_kept hO17 (fun q h1 h2 h3 => hk1 q h1 (fun h8 => by have h7 : (b + 3) ≤ q := h8; omega))
  have hW22 := zR_kept hW18 (fun q h1 h2 h3 => hk1 q h1 (fun h8 => by have h7 : (b + 3) ≤ q := h8; omega))
  have hW23 : va_P D vwCl (zRow cI (b + 3) 12 (fun _ => 0)) H19 := hB.1
  refine z_putF (D := D) (ci := 2) (v := .ref (b + 3)) (ty := (.object "ParrotJury$Row")) (C := RX2) (T := TX2) (N := 5) hx hb hts hinX2 tyX2 tyX2_ok nmX2 hown hK hO21 (by show b ≤ _; omega) hS 0 rfl rfl 2 (by decide) (hts _ (List.mem_of_getElem? (i := 9) rfl)) (fun _ h9 => h9) rfl hin rfl (by decide +kernel) rfl rfl (Nat.le_of_ble_eq_true rfl) dX2_init_32 (fun H24 lo25 hP1 hz1 hk1 hS => ?_)
  have hsz : H24.size = b + 5 := by omega
  have hz : H.size ≤ H24.size := by omega
  have hO26 : va_P D vwCl [(b, .inr (2, [.int 0, .ref (b + 1), .ref (b + 3), .null, .null]))] H24 := z_set zOb_c hO21 0 rfl hP1 (fun q _ h => hk1 q h)
  have hW27 := zR_kept hW22 (fun q h1 h2 h3 => (fun q _ h => hk1 q h) q h1 (by omega))
  have hW28 := zR_kept hW23 (fun q h1 h2 h3 => (fun q _ h => hk1 q h) q h1 (by omega))
  refine lv_aload_n hx hb dX2_init_35 rfl (lv_at hl 0 rfl) ?_
  refine z_new (ci := 1) (C := RX1) (T := TX1) (N := 1) (fs := [.null]) hx hb hts hinX1 tyX1 tyX1_ok hown (hts _ (List.mem_of_getElem? (i := 5) rfl)) (hts _ (List.mem_of_getElem? (i := 6) rfl)) (hts _ (List.mem_of_getElem? (i := 7) rfl)) hK rfl (fun j hj => match j, hj with | 0, _ => rfl | _ + 1, h => absurd h (by omega)) (Nat.le_of_ble_eq_true rfl) (Nat.le_of_ble_eq_true rfl) dX2_init_36 (h := b + 5) hsz (fun H29 hOb30 hz1 hk1 => ?_)
  have hS := z_Sgrow hS (by omega) (fun q h => hk1 q (by omega))
  have hsz : H29.size = b + 6 := by omega
  have hz : H.size ≤ H29.size := by omega
  have hO31 := zOb_kept hO26 (fun q h1 h2 h3 => (fun q (h9 : q < H24.size) (_ : True) => hk1 q (by omega)) q h1 (trivial))
  have hW32 := zR_kept hW27 (fun q h1 h2 h3 => (fun q (h9 : q < H24.size) (_ : True) => hk1 q (by omega)) q h1 (trivial))
  have hW33 := zR_kept hW28 (fun q h1 h2 h3 => (fun q (h9 : q < H24.size) (_ : True) => hk1 q (by omega)) q h1 (trivial))
  refine lv_dup hx hb dX2_init_39 rfl ?_
  refine lv_bipush (v := 12) hx hb dX2_init_40 (by decide) ?_
  refine z_mv (va_runI (As := [.int 12]) (rest := [.ref (b + 5), .ref b]) hfix (zcX1_init l D cI H29 (b + 5) 12 hOb30 (by omega) (by omega)) (cwI 1 hts gX2_init_X1_init rfl rfl rfl (hts _ (List.mem_of_getElem? (i := 7) rfl)) (hts _ (List.mem_of_getElem? (i := 12) rfl)) (hts _ (List.mem_of_getElem? (i := 13) rfl)) rfl (by decide +kernel) ⟨Nat.le_of_ble_eq_true rfl, Nat.le_of_ble_eq_true rfl⟩) (z_preS hK) rfl rfl hl.1 rfl (lv_room (Nat.le_of_ble_eq_true rfl)) dX2_init_42 ⟨Nat.le_of_ble_eq_true rfl, Nat.le_of_ble_eq_true rfl⟩) hS (fun q _ h => by have h8 : (b + 5) ≤ q := h; show b ≤ q; omega) (fun q h => by have h8 : (b + 5) ≤ q := h; show b ≤ q; omega) (fun H34 lo35 hB hz1 hk1 hS => ?_)
  have hsz : H34.size = b + 7 := by have h9 := hB.2; omega
  have hz : H.size ≤ H34.size := by omega
  have hO36 := zOb_kept hO31 (fun q h1 h2 h3 => hk1 q h1 (fun h8 => by have h7 : (b + 5) ≤ q := h8; omega))
  have hW37 := zR_kept hW32 (fun q h1 h2 h3 => hk1 q h1 (fun h8 => by have h7 : (b + 5) ≤ q := h8; omega))
  have hW38 := zR_kept hW33 (fun q h1 h2 h3 => hk1 q h1 (fun h8 => by have h7 : (b + 5) ≤ q := h8; omega))
  have hW39 : va_P D vwCl (zRow cI (b + 5) 12 (fun _ => 0)) H34 := hB.1
  refine z_putF (D := D) (ci := 2) (v := .ref (b + 5)) (ty := (.object "ParrotJury$Row")) (C := RX2) (T := TX2) (N := 5) hx hb hts hinX2 tyX2 tyX2_ok nmX2 hown hK hO36 (by show b ≤ _; omega) hS 0 rfl rfl 3 (by decide) (hts _ (List.mem_of_getElem? (i := 10) rfl)) (fun _ h9 => h9) rfl hin rfl (by decide +kernel) rfl rfl (Nat.le_of_ble_eq_true rfl) dX2_init_45 (fun H40 lo41 hP1 hz1 hk1 hS => ?_)
  have hsz : H40.size = b + 7 := by omega
  have hz : H.size ≤ H40.size := by omega
  have hO42 : va_P D vwCl [(b, .inr (2, [.int 0, .ref (b + 1), .ref (b + 3), .ref (b + 5), .null]))] H40 := z_set zOb_c hO36 0 rfl hP1 (fun q _ h => hk1 q h)
  have hW43 := zR_kept hW37 (fun q h1 h2 h3 => (fun q _ h => hk1 q h) q h1 (by omega))
  have hW44 := zR_kept hW38 (fun q h1 h2 h3 => (fun q _ h => hk1 q h) q h1 (by omega))
  have hW45 := zR_kept hW39 (fun q h1 h2 h3 => (fun q _ h => hk1 q h) q h1 (by omega))
  refine lv_aload_n hx hb dX2_init_48 rfl (lv_at hl 0 rfl) ?_
  refine z_new (ci := 1) (C := RX1) (T := TX1) (N := 1) (fs := [.null]) hx hb hts hinX1 tyX1 tyX1_ok hown (hts _ (List.mem_of_getElem? (i := 5) rfl)) (hts _ (List.mem_of_getElem? (i := 6) rfl)) (hts _ (List.mem_of_getElem? (i := 7) rfl)) hK rfl (fun j hj => match j, hj with | 0, _ => rfl | _ + 1, h => absurd h (by omega)) (Nat.le_of_ble_eq_true rfl) (Nat.le_of_ble_eq_true rfl) dX2_init_49 (h := b + 7) hsz (fun H46 hOb47 hz1 hk1 => ?_)
  have hS := z_Sgrow hS (by omega) (fun q h => hk1 q (by omega))
  have hsz : H46.size = b + 8 := by omega
  have hz : H.size ≤ H46.size := by omega
  have hO48 := zOb_kept hO42 (fun q h1 h2 h3 => (fun q (h9 : q < H40.size) (_ : True) => hk1 q (by omega)) q h1 (trivial))
  have hW49 := zR_kept hW43 (fun q h1 h2 h3 => (fun q (h9 : q < H40.size) (_ : True) => hk1 q (by omega)) q h1 (trivial))
  have hW50 := zR_kept hW44 (fun q h1 h2 h3 => (fun q (h9 : q < H40.size) (_ : True) => hk1 q (by omega)) q h1 (trivial))
  have hW51 := zR_kept hW45 (fun q h1 h2 h3 => (fun q (h9 : q < H40.size) (_ : True) => hk1 q (by omega)) q h1 (trivial))
  refine lv_dup hx hb dX2_init_52 rfl ?_
  refine lv_bipush (v := 48) hx hb dX2_init_53 (by decide) ?_
  refine z_mv (va_runI (As := [.int 48]) (rest := [.ref (b + 7), .ref b]) hfix (zcX1_init l D cI H46 (b + 7) 48 hOb47 (by omega) (by omega)) (cwI 1 hts gX2_init_X1_init rfl rfl rfl (hts _ (List.mem_of_getElem? (i := 7) rfl)) (hts _ (List.mem_of_getElem? (i := 12) rfl)) (hts _ (List.mem_of_getElem? (i := 13) rfl)) rfl (by decide +kernel) ⟨Nat.le_of_ble_eq_true rfl, Nat.le_of_ble_eq_true rfl⟩) (z_preS hK) rfl rfl hl.1 rfl (lv_room (Nat.le_of_ble_eq_true rfl)) dX2_init_55 ⟨Nat.le_of_ble_eq_true rfl, Nat.le_of_ble_eq_true rfl⟩) hS (fun q _ h => by have h8 : (b + 7) ≤ q := h; show b ≤ q; omega) (fun q h => by have h8 : (b + 7) ≤ q := h; show b ≤ q; omega) (fun H52 lo53 hB hz1 hk1 hS => ?_)
  have hsz : H52.size = b + 9 := by have h9 := hB.2; omega
  have hz : H.size ≤ H52.size := by omega
  have hO54 := zOb_kept hO48 (fun q h1 h2 h3 => hk1 q h1 (fun h8 => by have h7 : (b + 7) ≤ q := h8; omega))
  have hW55 := zR_kept hW49 (fun q h1 h2 h3 => hk1 q h1 (fun h8 => by have h7 : (b + 7) ≤ q := h8; omega))
  have hW56 := zR_kept hW50 (fun q h1 h2 h3 => hk1 q h1 (fun h8 => by have h7 : (b + 7) ≤ q := h8; omega))
  have hW57 := zR_kept hW51 (fun q h1 h2 h3 => hk1 q h1 (fun h8 => by have h7 : (b + 7) ≤ q := h8; omega))
  have hW58 : va_P D vwCl (zRow cI (b + 7) 48 (fun _ => 0)) H52 := hB.1
  refine z_putF (D := D) (ci := 2) (v := .ref (b + 7)) (ty := (.object "ParrotJury$Row")) (C := RX2) (T := TX2) (N := 5) hx hb hts hinX2 tyX2 tyX2_ok nmX2 hown hK hO54 (by show b ≤ _; omega) hS 0 rfl rfl 4 (by decide) (hts _ (List.mem_of_getElem? (i := 11) rfl)) (fun _ h9 => h9) rfl hin rfl (by decide +kernel) rfl rfl (Nat.le_of_ble_eq_true rfl) dX2_init_58 (fun H59 lo60 hP1 hz1 hk1 hS => ?_)
  have hsz : H59.size = b + 9 := by omega
  have hz : H.size ≤ H59.size := by omega
  have hO61 : va_P D vwCl [(b, .inr (2, [.int 0, .ref (b + 1), .ref (b + 3), .ref (b + 5), .ref (b + 7)]))] H59 := z_set zOb_c hO54 0 rfl hP1 (fun q _ h => hk1 q h)
  have hW62 := zR_kept hW55 (fun q h1 h2 h3 => (fun q _ h => hk1 q h) q h1 (by omega))
  have hW63 := zR_kept hW56 (fun q h1 h2 h3 => (fun q _ h => hk1 q h) q h1 (by omega))
  have hW64 := zR_kept hW57 (fun q h1 h2 h3 => (fun q _ h => hk1 q h) q h1 (by omega))
  have hW65 := zR_kept hW58 (fun q h1 h2 h3 => (fun q _ h => hk1 q h) q h1 (by omega))
  refine W.widen (k := 8) (n := 88) (by omega) (by omega) ?_
  exact z_vretM (⟨(va_P.app hO61 (va_P.app hW62 (va_P.app hW63 (va_P.app hW64 hW65)))), hsz⟩) hx hb hr hlocks hS dX2_init_61
set_option maxHeartbeats 4000000 in
set_option maxRecDepth 100000 in
/-- a new ParrotJury$Talk -/
theorem zcX3_init (l : Launch) (D : va_G) (cI : ClassId) (H : Heap) (b : Nat) (hO : va_P D vwCl [(b, .inr (3, [.int 0, .int 0, .null, .null, .null]))] H) (hsz : H.size = b + 1) : Met l yX3_init wsX3_init ({ frames := 3, cells := 16, slots := 97, locals := 55 } : Room) (zPc D [(cI, .int)] H [.ref b]) (zM (fun H1 => va_P D vwCl (zTalk cI b 0 0 (fun _ _ => 0)) H1 ∧ H1.size = b + 17) none (fun q => b ≤ q)) 16 97 (fun q => b ≤ q) := by
  refine z_enter (cc := cX3_init) (maxL := 1) (ret := none) (by decide) rfl (Nat.le_of_ble_eq_true rfl) ?_
  intro pg ev s m args below meth cd hfix hr hlocks hname hK hHs ls hl
  obtain ⟨hx, hb, hml, hown, hts⟩ := id hfix
  have hl : lv_has ls 1 [(0, .ref b)] := hl
  have hS : va_S (fun q => b ≤ q) s.heap H [] := by rw [hHs]; exact va_S.rf
  have hz : H.size ≤ H.size := Nat.le_refl _
  have hin : meth.name = "<init>" := hname
  have hinX0 : ∀ w ∈ wsX00, w ∈ wsX3_init := by decide +kernel
  have hinX1 : ∀ w ∈ wsX10, w ∈ wsX3_init := by decide +kernel
  have hinX3 : ∀ w ∈ wsX30, w ∈ wsX3_init := by decide +kernel
  refine lv_aload_n hx hb dX3_init_0 rfl (lv_at hl 0 rfl) ?_
  refine W.objInit hx hb hown (hts _ (List.mem_of_getElem? (i := 1) rfl)) (hts _ (List.mem_of_getElem? (i := 2) rfl)) (hts _ (List.mem_of_getElem? (i := 3) rfl)) rfl (by rw [hml]; exact hl.1) rfl dX3_init_1 (Nat.le_of_ble_eq_true rfl) (Nat.le_of_ble_eq_true rfl) ?_
  refine W.eq (g2 := F0 m 4 ls []) rfl ?_
  refine lv_aload_n hx hb dX3_init_4 rfl (lv_at hl 0 rfl) ?_
  refine lv_iconst (v := 0) hx hb dX3_init_5 (by decide) ?_
  refine z_put (D := D) (ci := 3) (v := .int 0) (ty := .int) (C := RX3) (T := TX3) (N := 5) hx hb hts hinX3 tyX3 tyX3_ok nmX3 hown hK hO (by show b ≤ _; omega) hS 0 rfl rfl 0 (by decide) (hts _ (List.mem_of_getElem? (i := 4) rfl)) (fun _ h9 => h9) rfl (by decide +kernel) rfl rfl (Nat.le_of_ble_eq_true rfl) dX3_init_6 (fun H1 lo2 hP1 hz1 hk1 hS => ?_)
  have hsz : H1.size = b + 1 := by omega
  have hz : H.size ≤ H1.size := by omega
  have hO3 : va_P D vwCl [(b, .inr (3, [.int 0, .int 0, .null, .null, .null]))] H1 := z_set zOb_c hO 0 rfl hP1 (fun q _ h => hk1 q h)
  refine lv_aload_n hx hb dX3_init_9 rfl (lv_at hl 0 rfl) ?_
  refine lv_iconst (v := 0) hx hb dX3_init_10 (by decide) ?_
  refine z_put (D := D) (ci := 3) (v := .int 0) (ty := .int) (C := RX3) (T := TX3) (N := 5) hx hb hts hinX3 tyX3 tyX3_ok nmX3 hown hK hO3 (by show b ≤ _; omega) hS 0 rfl rfl 1 (by decide) (hts _ (List.mem_of_getElem? (i := 5) rfl)) (fun _ h9 => h9) rfl (by decide +kernel) rfl rfl (Nat.le_of_ble_eq_true rfl) dX3_init_11 (fun H4 lo5 hP1 hz1 hk1 hS => ?_)
  have hsz : H4.size = b + 1 := by omega
  have hz : H.size ≤ H4.size := by omega
  have hO6 : va_P D vwCl [(b, .inr (3, [.int 0, .int 0, .null, .null, .null]))] H4 := z_set zOb_c hO3 0 rfl hP1 (fun q _ h => hk1 q h)
  refine lv_aload_n hx hb dX3_init_14 rfl (lv_at hl 0 rfl) ?_
  refine z_new (ci := 1) (C := RX1) (T := TX1) (N := 1) (fs := [.null]) hx hb hts hinX1 tyX1 tyX1_ok hown (hts _ (List.mem_of_getElem? (i := 6) rfl)) (hts _ (List.mem_of_getElem? (i := 7) rfl)) (hts _ (List.mem_of_getElem? (i := 8) rfl)) hK rfl (fun j hj => match j, hj with | 0, _ => rfl | _ + 1, h => absurd h (by omega)) (Nat.le_of_ble_eq_true rfl) (Nat.le_of_ble_eq_true rfl) dX3_init_15 (h := b + 1) hsz (fun H7 hOb8 hz1 hk1 => ?_)
  have hS := z_Sgrow hS (by omega) (fun q h => hk1 q (by omega))
  have hsz : H7.size = b + 2 := by omega
  have hz : H.size ≤ H7.size := by omega
  have hO9 := zOb_kept hO6 (fun q h1 h2 h3 => (fun q (h9 : q < H4.size) (_ : True) => hk1 q (by omega)) q h1 (trivial))
  refine lv_dup hx hb dX3_init_18 rfl ?_
  refine lv_bipush (v := 12) hx hb dX3_init_19 (by decide) ?_
  refine z_mv (va_runI (As := [.int 12]) (rest := [.ref (b + 1), .ref b]) hfix (zcX1_init l D cI H7 (b + 1) 12 hOb8 (by omega) (by omega)) (cwI 1 hts gX3_init_X1_init rfl rfl rfl (hts _ (List.mem_of_getElem? (i := 8) rfl)) (hts _ (List.mem_of_getElem? (i := 15) rfl)) (hts _ (List.mem_of_getElem? (i := 16) rfl)) rfl (by decide +kernel) ⟨Nat.le_of_ble_eq_true rfl, Nat.le_of_ble_eq_true rfl⟩) (z_preS hK) rfl rfl hl.1 rfl (lv_room (Nat.le_of_ble_eq_true rfl)) dX3_init_21 ⟨Nat.le_of_ble_eq_true rfl, Nat.le_of_ble_eq_true rfl⟩) hS (fun q _ h => by have h8 : (b + 1) ≤ q := h; show b ≤ q; omega) (fun q h => by have h8 : (b + 1) ≤ q := h; show b ≤ q; omega) (fun H10 lo11 hB hz1 hk1 hS => ?_)
  have hsz : H10.size = b + 3 := by have h9 := hB.2; omega
  have hz : H.size ≤ H10.size := by omega
  have hO12 := zOb_kept hO9 (fun q h1 h2 h3 => hk1 q h1 (fun h8 => by have h7 : (b + 1) ≤ q := h8; omega))
  have hW13 : va_P D vwCl (zRow cI (b + 1) 12 (fun _ => 0)) H10 := hB.1
  refine z_putF (D := D) (ci := 3) (v := .ref (b + 1)) (ty := (.object "ParrotJury$Row")) (C := RX3) (T := TX3) (N := 5) hx hb hts hinX3 tyX3 tyX3_ok nmX3 hown hK hO12 (by show b ≤ _; omega) hS 0 rfl rfl 2 (by decide) (hts _ (List.mem_of_getElem? (i := 9) rfl)) (fun _ h9 => h9) rfl hin rfl (by decide +kernel) rfl rfl (Nat.le_of_ble_eq_true rfl) dX3_init_24 (fun H14 lo15 hP1 hz1 hk1 hS => ?_)
  have hsz : H14.size = b + 3 := by omega
  have hz : H.size ≤ H14.size := by omega
  have hO16 : va_P D vwCl [(b, .inr (3, [.int 0, .int 0, .ref (b + 1), .null, .null]))] H14 := z_set zOb_c hO12 0 rfl hP1 (fun q _ h => hk1 q h)
  have hW17 := zR_kept hW13 (fun q h1 h2 h3 => (fun q _ h => hk1 q h) q h1 (by omega))
  refine lv_aload_n hx hb dX3_init_27 rfl (lv_at hl 0 rfl) ?_
  refine z_new (ci := 0) (C := RX0) (T := TX0) (N := 3) (fs := [.null, .null, .null]) hx hb hts hinX0 tyX0 tyX0_ok hown (hts _ (List.mem_of_getElem? (i := 10) rfl)) (hts _ (List.mem_of_getElem? (i := 11) rfl)) (hts _ (List.mem_of_getElem? (i := 12) rfl)) hK rfl (fun j hj => match j, hj with | 0, _ => rfl | 1, _ => rfl | 2, _ => rfl | _ + 3, h => absurd h (by omega)) (Nat.le_of_ble_eq_true rfl) (Nat.le_of_ble_eq_true rfl) dX3_init_28 (h := b + 3) hsz (fun H18 hOb19 hz1 hk1 => ?_)
  have hS := z_Sgrow hS (by omega) (fun q h => hk1 q (by omega))
  have hsz : H18.size = b + 4 := by omega
  have hz : H.size ≤ H18.size := by omega
  have hO20 := zOb_kept hO16 (fun q h1 h2 h3 => (fun q (h9 : q < H14.size) (_ : True) => hk1 q (by omega)) q h1 (trivial))
  have hW21 := zR_kept hW17 (fun q h1 h2 h3 => (fun q (h9 : q < H14.size) (_ : True) => hk1 q (by omega)) q h1 (trivial))
  refine lv_dup hx hb dX3_init_31 rfl ?_
  refine z_mv (va_runI (As := []) (rest := [.ref (b + 3), .ref b]) hfix (zcX0_init l D cI H18 (b + 3) hOb19 (by omega)) (cwI 0 hts gX3_init_X0_init rfl rfl rfl (hts _ (List.mem_of_getElem? (i := 12) rfl)) (hts _ (List.mem_of_getElem? (i := 25) rfl)) (hts _ (List.mem_of_getElem? (i := 26) rfl)) rfl (by decide +kernel) ⟨Nat.le_of_ble_eq_true rfl, Nat.le_of_ble_eq_true rfl⟩) (z_preS hK) rfl rfl hl.1 rfl (lv_room (Nat.le_of_ble_eq_true rfl)) dX3_init_32 ⟨Nat.le_of_ble_eq_true rfl, Nat.le_of_ble_eq_true rfl⟩) hS (fun q _ h => by have h8 : (b + 3) ≤ q := h; show b ≤ q; omega) (fun q h => by have h8 : (b + 3) ≤ q := h; show b ≤ q; omega) (fun H22 lo23 hB hz1 hk1 hS => ?_)
  have hsz : H22.size = b + 10 := by have h9 := hB.2; omega
  have hz : H.size ≤ H22.size := by omega
  have hO24 := zOb_kept hO20 (fun q h1 h2 h3 => hk1 q h1 (fun h8 => by have h7 : (b + 3) ≤ q := h8; omega))
  have hW25 := zR_kept hW21 (fun q h1 h2 h3 => hk1 q h1 (fun h8 => by have h7 : (b + 3) ≤ q := h8; omega))
  have hW26 : va_P D vwCl (zHalves cI (b + 3) (fun _ => 0) (fun _ => 0) (fun _ => 0)) H22 := hB.1
  refine z_putF (D := D) (ci := 3) (v := .ref (b + 3)) (ty := (.object "ParrotJury$Halves")) (C := RX3) (T := TX3) (N := 5) hx hb hts hinX3 tyX3 tyX3_ok nmX3 hown hK hO24 (by show b ≤ _; omega) hS 0 rfl rfl 3 (by decide) (hts _ (List.mem_of_getElem? (i := 13) rfl)) (fun _ h9 => h9) rfl hin rfl (by decide +kernel) rfl rfl (Nat.le_of_ble_eq_true rfl) dX3_init_35 (fun H27 lo28 hP1 hz1 hk1 hS => ?_)
  have hsz : H27.size = b + 10 := by omega
  have hz : H.size ≤ H27.size := by omega
  have hO29 : va_P D vwCl [(b, .inr (3, [.int 0, .int 0, .ref (b + 1), .ref (b + 3), .null]))] H27 := z_set zOb_c hO24 0 rfl hP1 (fun q _ h => hk1 q h)
  have hW30 := zR_kept hW25 (fun q h1 h2 h3 => (fun q _ h => hk1 q h) q h1 (by omega))
  have hW31 := zH_kept hW26 (fun q h1 h2 h3 => (fun q _ h => hk1 q h) q h1 (by omega))
  refine lv_aload_n hx hb dX3_init_38 rfl (lv_at hl 0 rfl) ?_
  refine z_new (ci := 0) (C := RX0) (T := TX0) (N := 3) (fs := [.null, .null, .null]) hx hb hts hinX0 tyX0 tyX0_ok hown (hts _ (List.mem_of_getElem? (i := 10) rfl)) (hts _ (List.mem_of_getElem? (i := 11) rfl)) (hts _ (List.mem_of_getElem? (i := 12) rfl)) hK rfl (fun j hj => match j, hj with | 0, _ => rfl | 1, _ => rfl | 2, _ => rfl | _ + 3, h => absurd h (by omega)) (Nat.le_of_ble_eq_true rfl) (Nat.le_of_ble_eq_true rfl) dX3_init_39 (h := b + 10) hsz (fun H32 hOb33 hz1 hk1 => ?_)
  have hS := z_Sgrow hS (by omega) (fun q h => hk1 q (by omega))
  have hsz : H32.size = b + 11 := by omega
  have hz : H.size ≤ H32.size := by omega
  have hO34 := zOb_kept hO29 (fun q h1 h2 h3 => (fun q (h9 : q < H27.size) (_ : True) => hk1 q (by omega)) q h1 (trivial))
  have hW35 := zR_kept hW30 (fun q h1 h2 h3 => (fun q (h9 : q < H27.size) (_ : True) => hk1 q (by omega)) q h1 (trivial))
  have hW36 := zH_kept hW31 (fun q h1 h2 h3 => (fun q (h9 : q < H27.size) (_ : True) => hk1 q (by omega)) q h1 (trivial))
  refine lv_dup hx hb dX3_init_42 rfl ?_
  refine z_mv (va_runI (As := []) (rest := [.ref (b + 10), .ref b]) hfix (zcX0_init l D cI H32 (b + 10) hOb33 (by omega)) (cwI 0 hts gX3_init_X0_init rfl rfl rfl (hts _ (List.mem_of_getElem? (i := 12) rfl)) (hts _ (List.mem_of_getElem? (i := 25) rfl)) (hts _ (List.mem_of_getElem? (i := 26) rfl)) rfl (by decide +kernel) ⟨Nat.le_of_ble_eq_true rfl, Nat.le_of_ble_eq_true rfl⟩) (z_preS hK) rfl rfl hl.1 rfl (lv_room (Nat.le_of_ble_eq_true rfl)) dX3_init_43 ⟨Nat.le_of_ble_eq_true rfl, Nat.le_of_ble_eq_true rfl⟩) hS (fun q _ h => by have h8 : (b + 10) ≤ q := h; show b ≤ q; omega) (fun q h => by have h8 : (b + 10) ≤ q := h; show b ≤ q; omega) (fun H37 lo38 hB hz1 hk1 hS => ?_)
  have hsz : H37.size = b + 17 := by have h9 := hB.2; omega
  have hz : H.size ≤ H37.size := by omega
  have hO39 := zOb_kept hO34 (fun q h1 h2 h3 => hk1 q h1 (fun h8 => by have h7 : (b + 10) ≤ q := h8; omega))
  have hW40 := zR_kept hW35 (fun q h1 h2 h3 => hk1 q h1 (fun h8 => by have h7 : (b + 10) ≤ q := h8; omega))
  have hW41 := zH_kept hW36 (fun q h1 h2 h3 => hk1 q h1 (fun h8 => by have h7 : (b + 10) ≤ q := h8; omega))
  have hW42 : va_P D vwCl (zHalves cI (b + 10) (fun _ => 0) (fun _ => 0) (fun _ => 0)) H37 := hB.1
  refine z_putF (D := D) (ci := 3) (v := .ref (b + 10)) (ty := (.object "ParrotJury$Halves")) (C := RX3) (T := TX3) (N := 5) hx hb hts hinX3 tyX3 tyX3_ok nmX3 hown hK hO39 (by show b ≤ _; omega) hS 0 rfl rfl 4 (by decide) (hts _ (List.mem_of_getElem? (i := 14) rfl)) (fun _ h9 => h9) rfl hin rfl (by decide +kernel) rfl rfl (Nat.le_of_ble_eq_true rfl) dX3_init_46 (fun H43 lo44 hP1 hz1 hk1 hS => ?_)
  have hsz : H43.size = b + 17 := by omega
  have hz : H.size ≤ H43.size := by omega
  have hO45 : va_P D vwCl [(b, .inr (3, [.int 0, .int 0, .ref (b + 1), .ref (b + 3), .ref (b + 10)]))] H43 := z_set zOb_c hO39 0 rfl hP1 (fun q _ h => hk1 q h)
  have hW46 := zR_kept hW40 (fun q h1 h2 h3 => (fun q _ h => hk1 q h) q h1 (by omega))
  have hW47 := zH_kept hW41 (fun q h1 h2 h3 => (fun q _ h => hk1 q h) q h1 (by omega))
  have hW48 := zH_kept hW42 (fun q h1 h2 h3 => (fun q _ h => hk1 q h) q h1 (by omega))
  refine W.widen (k := 16) (n := 97) (by omega) (by omega) ?_
  exact z_vretM (⟨(va_P.app hO45 (va_P.app hW46 (va_P.app hW47 hW48))), hsz⟩) hx hb hr hlocks hS dX3_init_49
set_option maxHeartbeats 4000000 in
set_option maxRecDepth 100000 in
/-- a new ParrotJury -/
theorem zcX4_init (l : Launch) (D : va_G) (cI : ClassId) (H : Heap) (b : Nat) (hO : va_P D vwCl [(b, .inr (4, [.null, .null, .null, .null]))] H) (hsz : H.size = b + 1) : Met l yX4_init wsX4_init ({ frames := 4, cells := 60, slots := 399, locals := 75 } : Room) (zPc D [(cI, .int)] H [.ref b]) (zM (fun H1 => zCW D cI b 0 (fun _ => 0) (fun _ => 0) (fun _ => 0) (fun _ => 0) 0 0 (fun _ _ => 0) H1 ∧ H1.size = b + 61) none (fun q => b ≤ q)) 60 399 (fun q => b ≤ q) := by
  refine z_enter (cc := cX4_init) (maxL := 1) (ret := none) (by decide) rfl (Nat.le_of_ble_eq_true rfl) ?_
  intro pg ev s m args below meth cd hfix hr hlocks hname hK hHs ls hl
  obtain ⟨hx, hb, hml, hown, hts⟩ := id hfix
  have hl : lv_has ls 1 [(0, .ref b)] := hl
  have hS : va_S (fun q => b ≤ q) s.heap H [] := by rw [hHs]; exact va_S.rf
  have hz : H.size ≤ H.size := Nat.le_refl _
  have hin : meth.name = "<init>" := hname
  have hinX2 : ∀ w ∈ wsX20, w ∈ wsX4_init := by decide +kernel
  have hinX3 : ∀ w ∈ wsX30, w ∈ wsX4_init := by decide +kernel
  have hinX4 : ∀ w ∈ wsX40, w ∈ wsX4_init := by decide +kernel
  refine lv_aload_n hx hb dX4_init_0 rfl (lv_at hl 0 rfl) ?_
  refine W.objInit hx hb hown (hts _ (List.mem_of_getElem? (i := 1) rfl)) (hts _ (List.mem_of_getElem? (i := 2) rfl)) (hts _ (List.mem_of_getElem? (i := 3) rfl)) rfl (by rw [hml]; exact hl.1) rfl dX4_init_1 (Nat.le_of_ble_eq_true rfl) (Nat.le_of_ble_eq_true rfl) ?_
  refine W.eq (g2 := F0 m 4 ls []) rfl ?_
  refine lv_aload_n hx hb dX4_init_4 rfl (lv_at hl 0 rfl) ?_
  refine z_new (ci := 2) (C := RX2) (T := TX2) (N := 5) (fs := [.int 0, .null, .null, .null, .null]) hx hb hts hinX2 tyX2 tyX2_ok hown (hts _ (List.mem_of_getElem? (i := 4) rfl)) (hts _ (List.mem_of_getElem? (i := 5) rfl)) (hts _ (List.mem_of_getElem? (i := 6) rfl)) hK rfl (fun j hj => match j, hj with | 0, _ => rfl | 1, _ => rfl | 2, _ => rfl | 3, _ => rfl | 4, _ => rfl | _ + 5, h => absurd h (by omega)) (Nat.le_of_ble_eq_true rfl) (Nat.le_of_ble_eq_true rfl) dX4_init_5 (h := b + 1) hsz (fun H1 hOb2 hz1 hk1 => ?_)
  have hS := z_Sgrow hS (by omega) (fun q h => hk1 q (by omega))
  have hsz : H1.size = b + 2 := by omega
  have hz : H.size ≤ H1.size := by omega
  have hO3 := zOb_kept hO (fun q h1 h2 h3 => (fun q (h9 : q < H.size) (_ : True) => hk1 q (by omega)) q h1 (trivial))
  refine lv_dup hx hb dX4_init_8 rfl ?_
  refine z_mv (va_runI (As := []) (rest := [.ref (b + 1), .ref b]) hfix (zcX2_init l D cI H1 (b + 1) hOb2 (by omega)) (cwI 0 hts gX4_init_X2_init rfl rfl rfl (hts _ (List.mem_of_getElem? (i := 6) rfl)) (hts _ (List.mem_of_getElem? (i := 14) rfl)) (hts _ (List.mem_of_getElem? (i := 15) rfl)) rfl (by decide +kernel) ⟨Nat.le_of_ble_eq_true rfl, Nat.le_of_ble_eq_true rfl⟩) (z_preS hK) rfl rfl hl.1 rfl (lv_room (Nat.le_of_ble_eq_true rfl)) dX4_init_9 ⟨Nat.le_of_ble_eq_true rfl, Nat.le_of_ble_eq_true rfl⟩) hS (fun q _ h => by have h8 : (b + 1) ≤ q := h; show b ≤ q; omega) (fun q h => by have h8 : (b + 1) ≤ q := h; show b ≤ q; omega) (fun H4 lo5 hB hz1 hk1 hS => ?_)
  have hsz : H4.size = b + 10 := by have h9 := hB.2; omega
  have hz : H.size ≤ H4.size := by omega
  have hO6 := zOb_kept hO3 (fun q h1 h2 h3 => hk1 q h1 (fun h8 => by have h7 : (b + 1) ≤ q := h8; omega))
  have hW7 : va_P D vwCl (zSeats cI (b + 1) 0 (fun _ => 0) (fun _ => 0) (fun _ => 0) (fun _ => 0)) H4 := hB.1
  refine z_putF (D := D) (ci := 4) (v := .ref (b + 1)) (ty := (.object "ParrotJury$Seats")) (C := RX4) (T := TX4) (N := 4) hx hb hts hinX4 tyX4 tyX4_ok nmX4 hown hK hO6 (by show b ≤ _; omega) hS 0 rfl rfl 0 (by decide) (hts _ (List.mem_of_getElem? (i := 7) rfl)) (fun _ h9 => h9) rfl hin rfl (by decide +kernel) rfl rfl (Nat.le_of_ble_eq_true rfl) dX4_init_12 (fun H8 lo9 hP1 hz1 hk1 hS => ?_)
  have hsz : H8.size = b + 10 := by omega
  have hz : H.size ≤ H8.size := by omega
  have hO10 : va_P D vwCl [(b, .inr (4, [.ref (b + 1), .null, .null, .null]))] H8 := z_set zOb_c hO6 0 rfl hP1 (fun q _ h => hk1 q h)
  have hW11 := zS_kept hW7 (fun q h1 h2 h3 => (fun q _ h => hk1 q h) q h1 (by omega))
  refine lv_aload_n hx hb dX4_init_15 rfl (lv_at hl 0 rfl) ?_
  refine z_new (ci := 3) (C := RX3) (T := TX3) (N := 5) (fs := [.int 0, .int 0, .null, .null, .null]) hx hb hts hinX3 tyX3 tyX3_ok hown (hts _ (List.mem_of_getElem? (i := 8) rfl)) (hts _ (List.mem_of_getElem? (i := 9) rfl)) (hts _ (List.mem_of_getElem? (i := 10) rfl)) hK rfl (fun j hj => match j, hj with | 0, _ => rfl | 1, _ => rfl | 2, _ => rfl | 3, _ => rfl | 4, _ => rfl | _ + 5, h => absurd h (by omega)) (Nat.le_of_ble_eq_true rfl) (Nat.le_of_ble_eq_true rfl) dX4_init_16 (h := b + 10) hsz (fun H12 hOb13 hz1 hk1 => ?_)
  have hS := z_Sgrow hS (by omega) (fun q h => hk1 q (by omega))
  have hsz : H12.size = b + 11 := by omega
  have hz : H.size ≤ H12.size := by omega
  have hO14 := zOb_kept hO10 (fun q h1 h2 h3 => (fun q (h9 : q < H8.size) (_ : True) => hk1 q (by omega)) q h1 (trivial))
  have hW15 := zS_kept hW11 (fun q h1 h2 h3 => (fun q (h9 : q < H8.size) (_ : True) => hk1 q (by omega)) q h1 (trivial))
  refine lv_dup hx hb dX4_init_19 rfl ?_
  refine z_mv (va_runI (As := []) (rest := [.ref (b + 10), .ref b]) hfix (zcX3_init l D cI H12 (b + 10) hOb13 (by omega)) (cwI 0 hts gX4_init_X3_init rfl rfl rfl (hts _ (List.mem_of_getElem? (i := 10) rfl)) (hts _ (List.mem_of_getElem? (i := 36) rfl)) (hts _ (List.mem_of_getElem? (i := 37) rfl)) rfl (by decide +kernel) ⟨Nat.le_of_ble_eq_true rfl, Nat.le_of_ble_eq_true rfl⟩) (z_preS hK) rfl rfl hl.1 rfl (lv_room (Nat.le_of_ble_eq_true rfl)) dX4_init_20 ⟨Nat.le_of_ble_eq_true rfl, Nat.le_of_ble_eq_true rfl⟩) hS (fun q _ h => by have h8 : (b + 10) ≤ q := h; show b ≤ q; omega) (fun q h => by have h8 : (b + 10) ≤ q := h; show b ≤ q; omega) (fun H16 lo17 hB hz1 hk1 hS => ?_)
  have hsz : H16.size = b + 27 := by have h9 := hB.2; omega
  have hz : H.size ≤ H16.size := by omega
  have hO18 := zOb_kept hO14 (fun q h1 h2 h3 => hk1 q h1 (fun h8 => by have h7 : (b + 10) ≤ q := h8; omega))
  have hW19 := zS_kept hW15 (fun q h1 h2 h3 => hk1 q h1 (fun h8 => by have h7 : (b + 10) ≤ q := h8; omega))
  have hW20 : va_P D vwCl (zTalk cI (b + 10) 0 0 (fun _ _ => 0)) H16 := hB.1
  refine z_putF (D := D) (ci := 4) (v := .ref (b + 10)) (ty := (.object "ParrotJury$Talk")) (C := RX4) (T := TX4) (N := 4) hx hb hts hinX4 tyX4 tyX4_ok nmX4 hown hK hO18 (by show b ≤ _; omega) hS 0 rfl rfl 1 (by decide) (hts _ (List.mem_of_getElem? (i := 11) rfl)) (fun _ h9 => h9) rfl hin rfl (by decide +kernel) rfl rfl (Nat.le_of_ble_eq_true rfl) dX4_init_23 (fun H21 lo22 hP1 hz1 hk1 hS => ?_)
  have hsz : H21.size = b + 27 := by omega
  have hz : H.size ≤ H21.size := by omega
  have hO23 : va_P D vwCl [(b, .inr (4, [.ref (b + 1), .ref (b + 10), .null, .null]))] H21 := z_set zOb_c hO18 0 rfl hP1 (fun q _ h => hk1 q h)
  have hW24 := zS_kept hW19 (fun q h1 h2 h3 => (fun q _ h => hk1 q h) q h1 (by omega))
  have hW25 := zT_kept hW20 (fun q h1 h2 h3 => (fun q _ h => hk1 q h) q h1 (by omega))
  refine lv_aload_n hx hb dX4_init_26 rfl (lv_at hl 0 rfl) ?_
  refine z_new (ci := 3) (C := RX3) (T := TX3) (N := 5) (fs := [.int 0, .int 0, .null, .null, .null]) hx hb hts hinX3 tyX3 tyX3_ok hown (hts _ (List.mem_of_getElem? (i := 8) rfl)) (hts _ (List.mem_of_getElem? (i := 9) rfl)) (hts _ (List.mem_of_getElem? (i := 10) rfl)) hK rfl (fun j hj => match j, hj with | 0, _ => rfl | 1, _ => rfl | 2, _ => rfl | 3, _ => rfl | 4, _ => rfl | _ + 5, h => absurd h (by omega)) (Nat.le_of_ble_eq_true rfl) (Nat.le_of_ble_eq_true rfl) dX4_init_27 (h := b + 27) hsz (fun H26 hOb27 hz1 hk1 => ?_)
  have hS := z_Sgrow hS (by omega) (fun q h => hk1 q (by omega))
  have hsz : H26.size = b + 28 := by omega
  have hz : H.size ≤ H26.size := by omega
  have hO28 := zOb_kept hO23 (fun q h1 h2 h3 => (fun q (h9 : q < H21.size) (_ : True) => hk1 q (by omega)) q h1 (trivial))
  have hW29 := zS_kept hW24 (fun q h1 h2 h3 => (fun q (h9 : q < H21.size) (_ : True) => hk1 q (by omega)) q h1 (trivial))
  have hW30 := zT_kept hW25 (fun q h1 h2 h3 => (fun q (h9 : q < H21.size) (_ : True) => hk1 q (by omega)) q h1 (trivial))
  refine lv_dup hx hb dX4_init_30 rfl ?_
  refine z_mv (va_runI (As := []) (rest := [.ref (b + 27), .ref b]) hfix (zcX3_init l D cI H26 (b + 27) hOb27 (by omega)) (cwI 0 hts gX4_init_X3_init rfl rfl rfl (hts _ (List.mem_of_getElem? (i := 10) rfl)) (hts _ (List.mem_of_getElem? (i := 36) rfl)) (hts _ (List.mem_of_getElem? (i := 37) rfl)) rfl (by decide +kernel) ⟨Nat.le_of_ble_eq_true rfl, Nat.le_of_ble_eq_true rfl⟩) (z_preS hK) rfl rfl hl.1 rfl (lv_room (Nat.le_of_ble_eq_true rfl)) dX4_init_31 ⟨Nat.le_of_ble_eq_true rfl, Nat.le_of_ble_eq_true rfl⟩) hS (fun q _ h => by have h8 : (b + 27) ≤ q := h; show b ≤ q; omega) (fun q h => by have h8 : (b + 27) ≤ q := h; show b ≤ q; omega) (fun H31 lo32 hB hz1 hk1 hS => ?_)
  have hsz : H31.size = b + 44 := by have h9 := hB.2; omega
  have hz : H.size ≤ H31.size := by omega
  have hO33 := zOb_kept hO28 (fun q h1 h2 h3 => hk1 q h1 (fun h8 => by have h7 : (b + 27) ≤ q := h8; omega))
  have hW34 := zS_kept hW29 (fun q h1 h2 h3 => hk1 q h1 (fun h8 => by have h7 : (b + 27) ≤ q := h8; omega))
  have hW35 := zT_kept hW30 (fun q h1 h2 h3 => hk1 q h1 (fun h8 => by have h7 : (b + 27) ≤ q := h8; omega))
  have hW36 : va_P D vwCl (zTalk cI (b + 27) 0 0 (fun _ _ => 0)) H31 := hB.1
  refine z_putF (D := D) (ci := 4) (v := .ref (b + 27)) (ty := (.object "ParrotJury$Talk")) (C := RX4) (T := TX4) (N := 4) hx hb hts hinX4 tyX4 tyX4_ok nmX4 hown hK hO33 (by show b ≤ _; omega) hS 0 rfl rfl 2 (by decide) (hts _ (List.mem_of_getElem? (i := 12) rfl)) (fun _ h9 => h9) rfl hin rfl (by decide +kernel) rfl rfl (Nat.le_of_ble_eq_true rfl) dX4_init_34 (fun H37 lo38 hP1 hz1 hk1 hS => ?_)
  have hsz : H37.size = b + 44 := by omega
  have hz : H.size ≤ H37.size := by omega
  have hO39 : va_P D vwCl [(b, .inr (4, [.ref (b + 1), .ref (b + 10), .ref (b + 27), .null]))] H37 := z_set zOb_c hO33 0 rfl hP1 (fun q _ h => hk1 q h)
  have hW40 := zS_kept hW34 (fun q h1 h2 h3 => (fun q _ h => hk1 q h) q h1 (by omega))
  have hW41 := zT_kept hW35 (fun q h1 h2 h3 => (fun q _ h => hk1 q h) q h1 (by omega))
  have hW42 := zT_kept hW36 (fun q h1 h2 h3 => (fun q _ h => hk1 q h) q h1 (by omega))
  refine lv_aload_n hx hb dX4_init_37 rfl (lv_at hl 0 rfl) ?_
  refine z_new (ci := 3) (C := RX3) (T := TX3) (N := 5) (fs := [.int 0, .int 0, .null, .null, .null]) hx hb hts hinX3 tyX3 tyX3_ok hown (hts _ (List.mem_of_getElem? (i := 8) rfl)) (hts _ (List.mem_of_getElem? (i := 9) rfl)) (hts _ (List.mem_of_getElem? (i := 10) rfl)) hK rfl (fun j hj => match j, hj with | 0, _ => rfl | 1, _ => rfl | 2, _ => rfl | 3, _ => rfl | 4, _ => rfl | _ + 5, h => absurd h (by omega)) (Nat.le_of_ble_eq_true rfl) (Nat.le_of_ble_eq_true rfl) dX4_init_38 (h := b + 44) hsz (fun H43 hOb44 hz1 hk1 => ?_)
  have hS := z_Sgrow hS (by omega) (fun q h => hk1 q (by omega))
  have hsz : H43.size = b + 45 := by omega
  have hz : H.size ≤ H43.size := by omega
  have hO45 := zOb_kept hO39 (fun q h1 h2 h3 => (fun q (h9 : q < H37.size) (_ : True) => hk1 q (by omega)) q h1 (trivial))
  have hW46 := zS_kept hW40 (fun q h1 h2 h3 => (fun q (h9 : q < H37.size) (_ : True) => hk1 q (by omega)) q h1 (trivial))
  have hW47 := zT_kept hW41 (fun q h1 h2 h3 => (fun q (h9 : q < H37.size) (_ : True) => hk1 q (by omega)) q h1 (trivial))
  have hW48 := zT_kept hW42 (fun q h1 h2 h3 => (fun q (h9 : q < H37.size) (_ : True) => hk1 q (by omega)) q h1 (trivial))
  refine lv_dup hx hb dX4_init_41 rfl ?_
  refine z_mv (va_runI (As := []) (rest := [.ref (b + 44), .ref b]) hfix (zcX3_init l D cI H43 (b + 44) hOb44 (by omega)) (cwI 0 hts gX4_init_X3_init rfl rfl rfl (hts _ (List.mem_of_getElem? (i := 10) rfl)) (hts _ (List.mem_of_getElem? (i := 36) rfl)) (hts _ (List.mem_of_getElem? (i := 37) rfl)) rfl (by decide +kernel) ⟨Nat.le_of_ble_eq_true rfl, Nat.le_of_ble_eq_true rfl⟩) (z_preS hK) rfl rfl hl.1 rfl (lv_room (Nat.le_of_ble_eq_true rfl)) dX4_init_42 ⟨Nat.le_of_ble_eq_true rfl, Nat.le_of_ble_eq_true rfl⟩) hS (fun q _ h => by have h8 : (b + 44) ≤ q := h; show b ≤ q; omega) (fun q h => by have h8 : (b + 44) ≤ q := h; show b ≤ q; omega) (fun H49 lo50 hB hz1 hk1 hS => ?_)
  have hsz : H49.size = b + 61 := by have h9 := hB.2; omega
  have hz : H.size ≤ H49.size := by omega
  have hO51 := zOb_kept hO45 (fun q h1 h2 h3 => hk1 q h1 (fun h8 => by have h7 : (b + 44) ≤ q := h8; omega))
  have hW52 := zS_kept hW46 (fun q h1 h2 h3 => hk1 q h1 (fun h8 => by have h7 : (b + 44) ≤ q := h8; omega))
  have hW53 := zT_kept hW47 (fun q h1 h2 h3 => hk1 q h1 (fun h8 => by have h7 : (b + 44) ≤ q := h8; omega))
  have hW54 := zT_kept hW48 (fun q h1 h2 h3 => hk1 q h1 (fun h8 => by have h7 : (b + 44) ≤ q := h8; omega))
  have hW55 : va_P D vwCl (zTalk cI (b + 44) 0 0 (fun _ _ => 0)) H49 := hB.1
  refine z_putF (D := D) (ci := 4) (v := .ref (b + 44)) (ty := (.object "ParrotJury$Talk")) (C := RX4) (T := TX4) (N := 4) hx hb hts hinX4 tyX4 tyX4_ok nmX4 hown hK hO51 (by show b ≤ _; omega) hS 0 rfl rfl 3 (by decide) (hts _ (List.mem_of_getElem? (i := 13) rfl)) (fun _ h9 => h9) rfl hin rfl (by decide +kernel) rfl rfl (Nat.le_of_ble_eq_true rfl) dX4_init_45 (fun H56 lo57 hP1 hz1 hk1 hS => ?_)
  have hsz : H56.size = b + 61 := by omega
  have hz : H.size ≤ H56.size := by omega
  have hO58 : va_P D vwCl [(b, .inr (4, [.ref (b + 1), .ref (b + 10), .ref (b + 27), .ref (b + 44)]))] H56 := z_set zOb_c hO51 0 rfl hP1 (fun q _ h => hk1 q h)
  have hW59 := zS_kept hW52 (fun q h1 h2 h3 => (fun q _ h => hk1 q h) q h1 (by omega))
  have hW60 := zT_kept hW53 (fun q h1 h2 h3 => (fun q _ h => hk1 q h) q h1 (by omega))
  have hW61 := zT_kept hW54 (fun q h1 h2 h3 => (fun q _ h => hk1 q h) q h1 (by omega))
  have hW62 := zT_kept hW55 (fun q h1 h2 h3 => (fun q _ h => hk1 q h) q h1 (by omega))
  refine W.widen (k := 60) (n := 399) (by omega) (by omega) ?_
  exact z_vretM (⟨⟨hO58, hW59, hW60, ⟨_, _, _, hW61⟩, ⟨_, _, _, hW62⟩⟩, hsz⟩) hx hb hr hlocks hS dX4_init_48
