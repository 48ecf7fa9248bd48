set_option maxHeartbeats 4000000 in
set_option maxRecDepth 100000 in
/-- come throws -/
theorem zcX4_come_b1 (l : Launch) (D : va_G) (cI : ClassId) (H : Heap) (hlt : l.stackTraces = false) (B0 : Nat) (hB0 : B0 ≤ H.size) (b : Nat) (n : Nat) (me : Nat → Int32) (lo : Nat → Int32) (c : Nat → Nat) (e : Nat → Nat) (rd : Int32) (tk : Int32) (g : zG) (x : Int32) (y : Int32) (hC : zCW D cI b n me lo c e rd tk g H) (hI : zI n me lo c e) (hx9 : x < 1 ∨ ¬ x ≤ 9) : vx_Met l yX4_come wsX4_come ({ frames := 6, cells := 1, slots := 6, locals := 82 } : Room) (zPx D [(cI, .int)] H B0 [.ref b, .int x, .int y]) zNo (zX (fun E => E = zIA) H) 1 6 (fun _ => False) := by
  refine z_xenter (cc := cX4_come) (maxL := 4) (ret := (some .int)) (by decide) rfl (Nat.le_of_ble_eq_true rfl) ?_
  intro pg ev s m args below meth cd hfix hr hlocks htab hK hHs hE ls hl
  obtain ⟨hx, hb, hml, hown, hts⟩ := id hfix
  have hl : lv_has ls 4 [(0, .ref b), (1, .int x), (2, .int y)] := hl
  obtain ⟨hJ, hW, hT, ⟨rd1, tk1, g1, hTa⟩, ⟨rd2, tk2, g2, hTb⟩⟩ := id hC
  have hn := zI_n hI
  refine lv_iload_n hx hb dX4_come_0 rfl (lv_at hl 1 rfl) ?_
  refine lv_iconst (v := 1) hx hb dX4_come_1 (by decide) ?_
  refine lv_bipush (v := 9) hx hb dX4_come_2 (by decide) ?_
  refine z_ki (va_runS (As := [.int x, .int 1, .int 9]) (rest := []) hfix (zcX4_isOutside l D cI H x 1 9 ) (va_cwS 3 hts gX4_come_X4_isOutside rfl rfl rfl (by decide +kernel) ⟨Nat.le_of_ble_eq_true rfl, Nat.le_of_ble_eq_true rfl⟩) (z_preS hK) rfl rfl hl.1 rfl (lv_room (Nat.le_of_ble_eq_true rfl)) dX4_come_4 ⟨by omega, by omega⟩) ?_
  refine lv_if_eq (tgt := 20) hx hb dX4_come_7 (by decide) (fun c7 => ?_) (fun c7 => ?_)
  · have c7 := zb_0 c7
    exact absurd hx9 c7
  · have c7 := zb_1 c7
    exact z_throw (cls := zIA) (text := "memory is not 1 to 9") (ik := 33) (is := 35) (ic := 37) hx hb hlt hown hE hHs (Nat.le_refl _) hml hl.1 (by decide) (hts _ (List.mem_of_getElem? (i := 1) rfl)) (hts _ (List.mem_of_getElem? (i := 2) rfl)) zin_IA (by decide) zgood_IA dX4_come_10 dX4_come_13 dX4_come_14 dX4_come_16 dX4_come_19 htab (Nat.le_of_ble_eq_true rfl) (Nat.le_of_ble_eq_true rfl) (Nat.le_of_ble_eq_true rfl) (Nat.le_of_ble_eq_true rfl) hlocks rfl (Nat.le_of_ble_eq_true rfl) (Nat.le_of_ble_eq_true rfl) (by rw [hHs]; exact hB0)
set_option maxHeartbeats 4000000 in
set_option maxRecDepth 100000 in
/-- come throws -/
theorem zcX4_come_b2 (l : Launch) (D : va_G) (cI : ClassId) (H : Heap) (hlt : l.stackTraces = false) (B0 : Nat) (hB0 : B0 ≤ H.size) (b : Nat) (n : Nat) (me : Nat → Int32) (lo : Nat → Int32) (c : Nat → Nat) (e : Nat → Nat) (rd : Int32) (tk : Int32) (g : zG) (m9 : Nat) (y : Int32) (hC : zCW D cI b n me lo c e rd tk g H) (hI : zI n me lo c e) (hm1 : 1 ≤ m9) (hm2 : m9 ≤ 9) (hx9 : y < 1 ∨ ¬ y ≤ 5) : vx_Met l yX4_come wsX4_come ({ frames := 7, cells := 1, slots := 6, locals := 102 } : Room) (zPx D [(cI, .int)] H B0 [.ref b, .int (nI m9), .int y]) zNo (zX (fun E => E = zIA) H) 1 6 (fun _ => False) := by
  refine z_xenter (cc := cX4_come) (maxL := 4) (ret := (some .int)) (by decide) rfl (Nat.le_of_ble_eq_true rfl) ?_
  intro pg ev s m args below meth cd hfix hr hlocks htab hK hHs hE ls hl
  obtain ⟨hx, hb, hml, hown, hts⟩ := id hfix
  have hl : lv_has ls 4 [(0, .ref b), (1, .int (nI m9)), (2, .int y)] := hl
  obtain ⟨hJ, hW, hT, ⟨rd1, tk1, g1, hTa⟩, ⟨rd2, tk2, g2, hTb⟩⟩ := id hC
  have hn := zI_n hI
  refine lv_iload_n hx hb dX4_come_0 rfl (lv_at hl 1 rfl) ?_
  refine lv_iconst (v := 1) hx hb dX4_come_1 (by decide) ?_
  refine lv_bipush (v := 9) hx hb dX4_come_2 (by decide) ?_
  refine z_ki (va_runS (As := [.int (nI m9), .int 1, .int 9]) (rest := []) hfix (zcX4_isOutside l D cI H (nI m9) 1 9 ) (va_cwS 3 hts gX4_come_X4_isOutside rfl rfl rfl (by decide +kernel) ⟨Nat.le_of_ble_eq_true rfl, Nat.le_of_ble_eq_true rfl⟩) (z_preS hK) rfl rfl hl.1 rfl (lv_room (Nat.le_of_ble_eq_true rfl)) dX4_come_4 ⟨by omega, by omega⟩) ?_
  refine lv_if_eq (tgt := 20) hx hb dX4_come_7 (by decide) (fun c7 => ?_) (fun c7 => ?_)
  · have c7 := zb_0 c7
    refine lv_iload_n hx hb dX4_come_20 rfl (lv_at hl 2 rfl) ?_
    exact z_xcall (fun _ h => h) (vx_runS (As := [.int y]) (rest := []) hfix (zcX4_needLoud_b l D cI H hlt B0 hB0 y hx9) (va_cwS 1 hts gX4_come_X4_needLoud rfl rfl rfl (by decide +kernel) ⟨Nat.le_of_ble_eq_true rfl, Nat.le_of_ble_eq_true rfl⟩) (z_xpreS hE (fun q _ _ => by rw [hHs]) hK) rfl rfl hl.1 rfl (lv_room (Nat.le_of_ble_eq_true rfl)) dX4_come_21 ⟨Nat.le_of_ble_eq_true rfl, Nat.le_of_ble_eq_true rfl⟩) (fun E ce q H1 hP hz hk hce hcv hcl => z_xout (fun _ h => h) hP hz hk hce hcv hcl htab hlocks (Nat.le_of_ble_eq_true rfl) (Nat.le_of_ble_eq_true rfl))
  · have c7 := zb_1 c7
    exact absurd c7 (z_out (a := 1) (b := 9) hm1 hm2 (by omega))
set_option maxHeartbeats 4000000 in
set_option maxRecDepth 100000 in
/-- come throws -/
theorem zcX4_come_b3 (l : Launch) (D : va_G) (cI : ClassId) (H : Heap) (hlt : l.stackTraces = false) (B0 : Nat) (hB0 : B0 ≤ H.size) (b : Nat) (n : Nat) (me : Nat → Int32) (lo : Nat → Int32) (c : Nat → Nat) (e : Nat → Nat) (rd : Int32) (tk : Int32) (g : zG) (m9 : Nat) (x : Nat) (hC : zCW D cI b n me lo c e rd tk g H) (hI : zI n me lo c e) (hm1 : 1 ≤ m9) (hm2 : m9 ≤ 9) (hx1 : 1 ≤ x) (hx2 : x ≤ 5) (hn12 : ¬ n < 12) : vx_Met l yX4_come wsX4_come ({ frames := 6, cells := 1, slots := 6, locals := 82 } : Room) (zPx D [(cI, .int)] H B0 [.ref b, .int (nI m9), .int (nI x)]) zNo (zX (fun E => E = zIS) H) 1 6 (fun _ => False) := by
  refine z_xenter (cc := cX4_come) (maxL := 4) (ret := (some .int)) (by decide) rfl (Nat.le_of_ble_eq_true rfl) ?_
  intro pg ev s m args below meth cd hfix hr hlocks htab hK hHs hE ls hl
  obtain ⟨hx, hb, hml, hown, hts⟩ := id hfix
  have hl : lv_has ls 4 [(0, .ref b), (1, .int (nI m9)), (2, .int (nI x))] := hl
  have hinX4 : ∀ w ∈ wsX40, w ∈ wsX4_come := by decide +kernel
  obtain ⟨hJ, hW, hT, ⟨rd1, tk1, g1, hTa⟩, ⟨rd2, tk2, g2, hTb⟩⟩ := id hC
  have hn := zI_n hI
  refine lv_iload_n hx hb dX4_come_0 rfl (lv_at hl 1 rfl) ?_
  refine lv_iconst (v := 1) hx hb dX4_come_1 (by decide) ?_
  refine lv_bipush (v := 9) hx hb dX4_come_2 (by decide) ?_
  refine z_ki (va_runS (As := [.int (nI m9), .int 1, .int 9]) (rest := []) hfix (zcX4_isOutside l D cI H (nI m9) 1 9 ) (va_cwS 3 hts gX4_come_X4_isOutside rfl rfl rfl (by decide +kernel) ⟨Nat.le_of_ble_eq_true rfl, Nat.le_of_ble_eq_true rfl⟩) (z_preS hK) rfl rfl hl.1 rfl (lv_room (Nat.le_of_ble_eq_true rfl)) dX4_come_4 ⟨by omega, by omega⟩) ?_
  refine lv_if_eq (tgt := 20) hx hb dX4_come_7 (by decide) (fun c7 => ?_) (fun c7 => ?_)
  · have c7 := zb_0 c7
    refine lv_iload_n hx hb dX4_come_20 rfl (lv_at hl 2 rfl) ?_
    refine z_kv (va_runS (As := [.int (nI x)]) (rest := []) hfix (zcX4_needLoud l D cI H x (by omega) (by omega)) (va_cwS 1 hts gX4_come_X4_needLoud rfl rfl rfl (by decide +kernel) ⟨Nat.le_of_ble_eq_true rfl, Nat.le_of_ble_eq_true rfl⟩) (z_preS hK) rfl rfl hl.1 rfl (lv_room (Nat.le_of_ble_eq_true rfl)) dX4_come_21 ⟨by omega, by omega⟩) ?_
    refine lv_aload_n hx hb dX4_come_24 rfl (lv_at hl 0 rfl) ?_
    refine va_get (D := D) (ci := 4) (v := .ref (b + 1)) (C := RX4) (T := TX4) (N := 4) hx hb hts hinX4 hown hK hJ 0 rfl rfl 0 (by decide) (hts _ (List.mem_of_getElem? (i := 5) rfl)) (fun _ h9 => h9) rfl dX4_come_25 ?_
    refine z_ki (va_runV (As := []) (rest := []) hfix (zcX2_size l D cI H (b + 1) n me lo c e hW) (cwV 0 hts gX4_come_X2_size rfl rfl rfl (by decide +kernel) ⟨Nat.le_of_ble_eq_true rfl, Nat.le_of_ble_eq_true rfl⟩) (z_preV hK hK hW (ci := 2) (q0 := 0) rfl rfl rfl) rfl rfl hl.1 rfl (lv_room (Nat.le_of_ble_eq_true rfl)) dX4_come_28 ⟨by omega, by omega⟩) ?_
    refine lv_bipush (v := 12) hx hb dX4_come_31 (by decide) ?_
    refine lv_icmp_lt (tgt := 46) hx hb dX4_come_33 (by decide) (fun c33 => ?_) (fun c33 => ?_)
    · have c33 := z_lt (a := n) (b := 12) c33 (by omega) (by omega)
      omega
    · have c33 := z_nlt (a := n) (b := 12) c33 (by omega) (by omega)
      exact z_throw (cls := zIS) (text := "there are 12 parrots") (ik := 48) (is := 50) (ic := 52) hx hb hlt hown hE hHs (Nat.le_refl _) hml hl.1 (by decide) (hts _ (List.mem_of_getElem? (i := 3) rfl)) (hts _ (List.mem_of_getElem? (i := 4) rfl)) zin_IS (by decide) zgood_IS dX4_come_36 dX4_come_39 dX4_come_40 dX4_come_42 dX4_come_45 htab (Nat.le_of_ble_eq_true rfl) (Nat.le_of_ble_eq_true rfl) (Nat.le_of_ble_eq_true rfl) (Nat.le_of_ble_eq_true rfl) hlocks rfl (Nat.le_of_ble_eq_true rfl) (Nat.le_of_ble_eq_true rfl) (by rw [hHs]; exact hB0)
  · have c7 := zb_1 c7
    exact absurd c7 (z_out (a := 1) (b := 9) hm1 hm2 (by omega))
set_option maxHeartbeats 4000000 in
set_option maxRecDepth 100000 in
/-- listen throws -/
theorem zcX4_listen_b1 (l : Launch) (D : va_G) (cI : ClassId) (H : Heap) (hlt : l.stackTraces = false) (B0 : Nat) (hB0 : B0 ≤ H.size) (b : Nat) (n : Nat) (me : Nat → Int32) (lo : Nat → Int32) (c : Nat → Nat) (e : Nat → Nat) (rd : Int32) (tk : Int32) (g : zG) (x : Int32) (y : Int32) (hC : zCW D cI b n me lo c e rd tk g H) (hI : zI n me lo c e) (hx9 : ¬ ∃ j, j < n ∧ x = nI j) : vx_Met l yX4_listen wsX4_listen ({ frames := 7, cells := 1, slots := 6, locals := 103 } : Room) (zPx D [(cI, .int)] H B0 [.ref b, .int x, .int y]) zNo (zX (fun E => E = zIO) H) 1 6 (fun _ => False) := by
  refine z_xenter (cc := cX4_listen) (maxL := 4) (ret := (some .int)) (by decide) rfl (Nat.le_of_ble_eq_true rfl) ?_
  intro pg ev s m args below meth cd hfix hr hlocks htab hK hHs hE ls hl
  obtain ⟨hx, hb, hml, hown, hts⟩ := id hfix
  have hl : lv_has ls 4 [(0, .ref b), (1, .int x), (2, .int y)] := hl
  obtain ⟨hJ, hW, hT, ⟨rd1, tk1, g1, hTa⟩, ⟨rd2, tk2, g2, hTb⟩⟩ := id hC
  have hn := zI_n hI
  refine lv_aload_n hx hb dX4_listen_0 rfl (lv_at hl 0 rfl) ?_
  refine lv_iload_n hx hb dX4_listen_1 rfl (lv_at hl 1 rfl) ?_
  exact z_xcall (fun _ h => h) (vx_runV (As := [.int x]) (rest := []) hfix (zcX4_needParrot_b l D cI H hlt B0 hB0 b n me lo c e x hJ hW hI hx9) (cwV 1 hts gX4_listen_X4_needParrot rfl rfl rfl (by decide +kernel) ⟨Nat.le_of_ble_eq_true rfl, Nat.le_of_ble_eq_true rfl⟩) (z_xpreV hE (fun q _ _ => by rw [hHs]) hK hK hJ (ci := 4) (q0 := 0) rfl rfl rfl) rfl rfl hl.1 rfl (lv_room (Nat.le_of_ble_eq_true rfl)) dX4_listen_2 ⟨Nat.le_of_ble_eq_true rfl, Nat.le_of_ble_eq_true rfl⟩) (fun E ce q H1 hP hz hk hce hcv hcl => z_xout (fun _ h => h) hP hz hk hce hcv hcl htab hlocks (Nat.le_of_ble_eq_true rfl) (Nat.le_of_ble_eq_true rfl))
set_option maxHeartbeats 4000000 in
set_option maxRecDepth 100000 in
/-- listen throws -/
theorem zcX4_listen_b2 (l : Launch) (D : va_G) (cI : ClassId) (H : Heap) (hlt : l.stackTraces = false) (B0 : Nat) (hB0 : B0 ≤ H.size) (b : Nat) (n : Nat) (me : Nat → Int32) (lo : Nat → Int32) (c : Nat → Nat) (e : Nat → Nat) (rd : Int32) (tk : Int32) (g : zG) (p : Nat) (x : Int32) (hC : zCW D cI b n me lo c e rd tk g H) (hI : zI n me lo c e) (hp : p < n) (hx9 : ¬ ∃ j, j < n ∧ x = nI j) : vx_Met l yX4_listen wsX4_listen ({ frames := 7, cells := 1, slots := 6, locals := 103 } : Room) (zPx D [(cI, .int)] H B0 [.ref b, .int (nI p), .int x]) zNo (zX (fun E => E = zIO) H) 1 6 (fun _ => False) := by
  refine z_xenter (cc := cX4_listen) (maxL := 4) (ret := (some .int)) (by decide) rfl (Nat.le_of_ble_eq_true rfl) ?_
  intro pg ev s m args below meth cd hfix hr hlocks htab hK hHs hE ls hl
  obtain ⟨hx, hb, hml, hown, hts⟩ := id hfix
  have hl : lv_has ls 4 [(0, .ref b), (1, .int (nI p)), (2, .int x)] := hl
  obtain ⟨hJ, hW, hT, ⟨rd1, tk1, g1, hTa⟩, ⟨rd2, tk2, g2, hTb⟩⟩ := id hC
  have hn := zI_n hI
  refine lv_aload_n hx hb dX4_listen_0 rfl (lv_at hl 0 rfl) ?_
  refine lv_iload_n hx hb dX4_listen_1 rfl (lv_at hl 1 rfl) ?_
  refine z_kv (va_runV (As := [.int (nI p)]) (rest := []) hfix (zcX4_needParrot l D cI H b n me lo c e p hJ hW hI (by omega)) (cwV 1 hts gX4_listen_X4_needParrot rfl rfl rfl (by decide +kernel) ⟨Nat.le_of_ble_eq_true rfl, Nat.le_of_ble_eq_true rfl⟩) (z_preV hK hK hJ (ci := 4) (q0 := 0) rfl rfl rfl) rfl rfl hl.1 rfl (lv_room (Nat.le_of_ble_eq_true rfl)) dX4_listen_2 ⟨by omega, by omega⟩) ?_
  refine lv_aload_n hx hb dX4_listen_5 rfl (lv_at hl 0 rfl) ?_
  refine lv_iload_n hx hb dX4_listen_6 rfl (lv_at hl 2 rfl) ?_
  exact z_xcall (fun _ h => h) (vx_runV (As := [.int x]) (rest := []) hfix (zcX4_needParrot_b l D cI H hlt B0 hB0 b n me lo c e x hJ hW hI hx9) (cwV 1 hts gX4_listen_X4_needParrot rfl rfl rfl (by decide +kernel) ⟨Nat.le_of_ble_eq_true rfl, Nat.le_of_ble_eq_true rfl⟩) (z_xpreV hE (fun q _ _ => by rw [hHs]) hK hK hJ (ci := 4) (q0 := 0) rfl rfl rfl) rfl rfl hl.1 rfl (lv_room (Nat.le_of_ble_eq_true rfl)) dX4_listen_7 ⟨Nat.le_of_ble_eq_true rfl, Nat.le_of_ble_eq_true rfl⟩) (fun E ce q H1 hP hz hk hce hcv hcl => z_xout (fun _ h => h) hP hz hk hce hcv hcl htab hlocks (Nat.le_of_ble_eq_true rfl) (Nat.le_of_ble_eq_true rfl))
set_option maxHeartbeats 4000000 in
set_option maxRecDepth 100000 in
/-- listen throws -/
theorem zcX4_listen_b3 (l : Launch) (D : va_G) (cI : ClassId) (H : Heap) (hlt : l.stackTraces = false) (B0 : Nat) (hB0 : B0 ≤ H.size) (b : Nat) (n : Nat) (me : Nat → Int32) (lo : Nat → Int32) (c : Nat → Nat) (e : Nat → Nat) (rd : Int32) (tk : Int32) (g : zG) (p : Nat) (hC : zCW D cI b n me lo c e rd tk g H) (hI : zI n me lo c e) (hp : p < n) : vx_Met l yX4_listen wsX4_listen ({ frames := 6, cells := 1, slots := 6, locals := 82 } : Room) (zPx D [(cI, .int)] H B0 [.ref b, .int (nI p), .int (nI p)]) zNo (zX (fun E => E = zIA) H) 1 6 (fun _ => False) := by
  refine z_xenter (cc := cX4_listen) (maxL := 4) (ret := (some .int)) (by decide) rfl (Nat.le_of_ble_eq_true rfl) ?_
  intro pg ev s m args below meth cd hfix hr hlocks htab hK hHs hE ls hl
  obtain ⟨hx, hb, hml, hown, hts⟩ := id hfix
  have hl : lv_has ls 4 [(0, .ref b), (1, .int (nI p)), (2, .int (nI p))] := hl
  obtain ⟨hJ, hW, hT, ⟨rd1, tk1, g1, hTa⟩, ⟨rd2, tk2, g2, hTb⟩⟩ := id hC
  have hn := zI_n hI
  refine lv_aload_n hx hb dX4_listen_0 rfl (lv_at hl 0 rfl) ?_
  refine lv_iload_n hx hb dX4_listen_1 rfl (lv_at hl 1 rfl) ?_
  refine z_kv (va_runV (As := [.int (nI p)]) (rest := []) hfix (zcX4_needParrot l D cI H b n me lo c e p hJ hW hI (by omega)) (cwV 1 hts gX4_listen_X4_needParrot rfl rfl rfl (by decide +kernel) ⟨Nat.le_of_ble_eq_true rfl, Nat.le_of_ble_eq_true rfl⟩) (z_preV hK hK hJ (ci := 4) (q0 := 0) rfl rfl rfl) rfl rfl hl.1 rfl (lv_room (Nat.le_of_ble_eq_true rfl)) dX4_listen_2 ⟨by omega, by omega⟩) ?_
  refine lv_aload_n hx hb dX4_listen_5 rfl (lv_at hl 0 rfl) ?_
  refine lv_iload_n hx hb dX4_listen_6 rfl (lv_at hl 2 rfl) ?_
  refine z_kv (va_runV (As := [.int (nI p)]) (rest := []) hfix (zcX4_needParrot l D cI H b n me lo c e p hJ hW hI (by omega)) (cwV 1 hts gX4_listen_X4_needParrot rfl rfl rfl (by decide +kernel) ⟨Nat.le_of_ble_eq_true rfl, Nat.le_of_ble_eq_true rfl⟩) (z_preV hK hK hJ (ci := 4) (q0 := 0) rfl rfl rfl) rfl rfl hl.1 rfl (lv_room (Nat.le_of_ble_eq_true rfl)) dX4_listen_7 ⟨by omega, by omega⟩) ?_
  refine lv_iload_n hx hb dX4_listen_10 rfl (lv_at hl 1 rfl) ?_
  refine lv_iload_n hx hb dX4_listen_11 rfl (lv_at hl 2 rfl) ?_
  refine lv_icmp_ne (tgt := 25) hx hb dX4_listen_12 (by decide) (fun c12 => ?_) (fun c12 => ?_)
  · have c12 := z_ne (a := p) (b := p) c12 (by omega) (by omega)
    exact absurd rfl c12
  · have c12 := z_eq (a := p) (b := p) c12 (by omega) (by omega)
    exact z_throw (cls := zIA) (text := "a parrot does not listen to itself") (ik := 33) (is := 64) (ic := 37) hx hb hlt hown hE hHs (Nat.le_refl _) hml hl.1 (by decide) (hts _ (List.mem_of_getElem? (i := 1) rfl)) (hts _ (List.mem_of_getElem? (i := 2) rfl)) zin_IA (by decide) zgood_IA dX4_listen_15 dX4_listen_18 dX4_listen_19 dX4_listen_21 dX4_listen_24 htab (Nat.le_of_ble_eq_true rfl) (Nat.le_of_ble_eq_true rfl) (Nat.le_of_ble_eq_true rfl) (Nat.le_of_ble_eq_true rfl) hlocks rfl (Nat.le_of_ble_eq_true rfl) (Nat.le_of_ble_eq_true rfl) (by rw [hHs]; exact hB0)
set_option maxHeartbeats 4000000 in
set_option maxRecDepth 100000 in
/-- listen throws -/
theorem zcX4_listen_b4 (l : Launch) (D : va_G) (cI : ClassId) (H : Heap) (hlt : l.stackTraces = false) (B0 : Nat) (hB0 : B0 ≤ H.size) (b : Nat) (n : Nat) (me : Nat → Int32) (lo : Nat → Int32) (c : Nat → Nat) (e : Nat → Nat) (rd : Int32) (tk : Int32) (g : zG) (p : Nat) (o : Nat) (hC : zCW D cI b n me lo c e rd tk g H) (hI : zI n me lo c e) (hp : p < n) (ho : o < n) (hpo9 : ¬ p = o) (hpn : po e p o (c p) = none) (hc9 : ¬ c p < 4) : vx_Met l yX4_listen wsX4_listen ({ frames := 6, cells := 1, slots := 6, locals := 82 } : Room) (zPx D [(cI, .int)] H B0 [.ref b, .int (nI p), .int (nI o)]) zNo (zX (fun E => E = zIS) H) 1 6 (fun _ => False) := by
  refine z_xenter (cc := cX4_listen) (maxL := 4) (ret := (some .int)) (by decide) rfl (Nat.le_of_ble_eq_true rfl) ?_
  intro pg ev s m args below meth cd hfix hr hlocks htab hK hHs hE ls hl
  obtain ⟨hx, hb, hml, hown, hts⟩ := id hfix
  have hl : lv_has ls 4 [(0, .ref b), (1, .int (nI p)), (2, .int (nI o))] := hl
  have hinX4 : ∀ w ∈ wsX40, w ∈ wsX4_listen := by decide +kernel
  obtain ⟨hJ, hW, hT, ⟨rd1, tk1, g1, hTa⟩, ⟨rd2, tk2, g2, hTb⟩⟩ := id hC
  have hn := zI_n hI
  have hc4 := zI_c hI p
  refine lv_aload_n hx hb dX4_listen_0 rfl (lv_at hl 0 rfl) ?_
  refine lv_iload_n hx hb dX4_listen_1 rfl (lv_at hl 1 rfl) ?_
  refine z_kv (va_runV (As := [.int (nI p)]) (rest := []) hfix (zcX4_needParrot l D cI H b n me lo c e p hJ hW hI (by omega)) (cwV 1 hts gX4_listen_X4_needParrot rfl rfl rfl (by decide +kernel) ⟨Nat.le_of_ble_eq_true rfl, Nat.le_of_ble_eq_true rfl⟩) (z_preV hK hK hJ (ci := 4) (q0 := 0) rfl rfl rfl) rfl rfl hl.1 rfl (lv_room (Nat.le_of_ble_eq_true rfl)) dX4_listen_2 ⟨by omega, by omega⟩) ?_
  refine lv_aload_n hx hb dX4_listen_5 rfl (lv_at hl 0 rfl) ?_
  refine lv_iload_n hx hb dX4_listen_6 rfl (lv_at hl 2 rfl) ?_
  refine z_kv (va_runV (As := [.int (nI o)]) (rest := []) hfix (zcX4_needParrot l D cI H b n me lo c e o hJ hW hI (by omega)) (cwV 1 hts gX4_listen_X4_needParrot rfl rfl rfl (by decide +kernel) ⟨Nat.le_of_ble_eq_true rfl, Nat.le_of_ble_eq_true rfl⟩) (z_preV hK hK hJ (ci := 4) (q0 := 0) rfl rfl rfl) rfl rfl hl.1 rfl (lv_room (Nat.le_of_ble_eq_true rfl)) dX4_listen_7 ⟨by omega, by omega⟩) ?_
  refine lv_iload_n hx hb dX4_listen_10 rfl (lv_at hl 1 rfl) ?_
  refine lv_iload_n hx hb dX4_listen_11 rfl (lv_at hl 2 rfl) ?_
  refine lv_icmp_ne (tgt := 25) hx hb dX4_listen_12 (by decide) (fun c12 => ?_) (fun c12 => ?_)
  · have c12 := z_ne (a := p) (b := o) c12 (by omega) (by omega)
    refine lv_aload_n hx hb dX4_listen_25 rfl (lv_at hl 0 rfl) ?_
    refine va_get (D := D) (ci := 4) (v := .ref (b + 1)) (C := RX4) (T := TX4) (N := 4) hx hb hts hinX4 hown hK hJ 0 rfl rfl 0 (by decide) (hts _ (List.mem_of_getElem? (i := 5) rfl)) (fun _ h9 => h9) rfl dX4_listen_26 ?_
    refine lv_iload_n hx hb dX4_listen_29 rfl (lv_at hl 1 rfl) ?_
    refine lv_iload_n hx hb dX4_listen_30 rfl (lv_at hl 2 rfl) ?_
    refine z_ki (va_runV (As := [.int (nI p), .int (nI o)]) (rest := []) hfix (zcX2_placeOf l D cI H (b + 1) n me lo c e p o hW hI (by omega) (by omega)) (cwV 2 hts gX4_listen_X2_placeOf rfl rfl rfl (by decide +kernel) ⟨Nat.le_of_ble_eq_true rfl, Nat.le_of_ble_eq_true rfl⟩) (z_preV hK hK hW (ci := 2) (q0 := 0) rfl rfl rfl) rfl rfl hl.1 rfl (lv_room (Nat.le_of_ble_eq_true rfl)) dX4_listen_31 ⟨by omega, by omega⟩) ?_
    refine lv_istore_n (lv' := [(3, .int (zo (po e p o (c p)))), (0, .ref b), (1, .int (nI p)), (2, .int (nI o))]) hx hb dX4_listen_34 rfl hl (by decide) rfl (fun ls hl => ?_)
    refine lv_iload_n hx hb dX4_listen_35 rfl (lv_at hl 0 rfl) ?_
    refine lv_iconst (v := (-1)) hx hb dX4_listen_36 (by decide) ?_
    refine lv_icmp_eq (tgt := 52) hx hb dX4_listen_37 (by decide) (fun c37 => ?_) (fun c37 => ?_)
    · refine lv_aload_n hx hb dX4_listen_52 rfl (lv_at hl 1 rfl) ?_
      refine va_get (D := D) (ci := 4) (v := .ref (b + 1)) (C := RX4) (T := TX4) (N := 4) hx hb hts hinX4 hown hK hJ 0 rfl rfl 0 (by decide) (hts _ (List.mem_of_getElem? (i := 5) rfl)) (fun _ h9 => h9) rfl dX4_listen_53 ?_
      refine lv_iload_n hx hb dX4_listen_56 rfl (lv_at hl 2 rfl) ?_
      refine z_ki (va_runV (As := [.int (nI p)]) (rest := []) hfix (zcX2_listening l D cI H (b + 1) n me lo c e p hW (by omega)) (cwV 1 hts gX4_listen_X2_listening rfl rfl rfl (by decide +kernel) ⟨Nat.le_of_ble_eq_true rfl, Nat.le_of_ble_eq_true rfl⟩) (z_preV hK hK hW (ci := 2) (q0 := 0) rfl rfl rfl) rfl rfl hl.1 rfl (lv_room (Nat.le_of_ble_eq_true rfl)) dX4_listen_57 ⟨by omega, by omega⟩) ?_
      refine lv_iconst (v := 4) hx hb dX4_listen_60 (by decide) ?_
      refine lv_icmp_lt (tgt := 74) hx hb dX4_listen_61 (by decide) (fun c61 => ?_) (fun c61 => ?_)
      · have c61 := z_lt (a := c p) (b := 4) c61 (by omega) (by omega)
        omega
      · have c61 := z_nlt (a := c p) (b := 4) c61 (by omega) (by omega)
        exact z_throw (cls := zIS) (text := "the parrot listens to 4") (ik := 48) (is := 77) (ic := 52) hx hb hlt hown hE hHs (Nat.le_refl _) hml hl.1 (by decide) (hts _ (List.mem_of_getElem? (i := 3) rfl)) (hts _ (List.mem_of_getElem? (i := 4) rfl)) zin_IS (by decide) zgood_IS dX4_listen_64 dX4_listen_67 dX4_listen_68 dX4_listen_70 dX4_listen_73 htab (Nat.le_of_ble_eq_true rfl) (Nat.le_of_ble_eq_true rfl) (Nat.le_of_ble_eq_true rfl) (Nat.le_of_ble_eq_true rfl) hlocks rfl (Nat.le_of_ble_eq_true rfl) (Nat.le_of_ble_eq_true rfl) (by rw [hHs]; exact hB0)
    · exact absurd (by rw [hpn]; rfl) c37
  · have c12 := z_eq (a := p) (b := o) c12 (by omega) (by omega)
    exact absurd c12 hpo9
set_option maxHeartbeats 4000000 in
set_option maxRecDepth 100000 in
/-- raise throws -/
theorem zcX4_raise_b1 (l : Launch) (D : va_G) (cI : ClassId) (H : Heap) (hlt : l.stackTraces = false) (B0 : Nat) (hB0 : B0 ≤ H.size) (b : Nat) (n : Nat) (me : Nat → Int32) (lo : Nat → Int32) (c : Nat → Nat) (e : Nat → Nat) (rd : Int32) (tk : Int32) (g : zG) (x : Int32) (y : Int32) (hC : zCW D cI b n me lo c e rd tk g H) (hI : zI n me lo c e) (hx9 : ¬ ∃ j, j < n ∧ x = nI j) : vx_Met l yX4_raise wsX4_raise ({ frames := 7, cells := 1, slots := 6, locals := 103 } : Room) (zPx D [(cI, .int)] H B0 [.ref b, .int x, .int y]) zNo (zX (fun E => E = zIO) H) 1 6 (fun _ => False) := by
  refine z_xenter (cc := cX4_raise) (maxL := 4) (ret := (some .int)) (by decide) rfl (Nat.le_of_ble_eq_true rfl) ?_
  intro pg ev s m args below meth cd hfix hr hlocks htab hK hHs hE ls hl
  obtain ⟨hx, hb, hml, hown, hts⟩ := id hfix
  have hl : lv_has ls 4 [(0, .ref b), (1, .int x), (2, .int y)] := hl
  obtain ⟨hJ, hW, hT, ⟨rd1, tk1, g1, hTa⟩, ⟨rd2, tk2, g2, hTb⟩⟩ := id hC
  have hn := zI_n hI
  refine lv_aload_n hx hb dX4_raise_0 rfl (lv_at hl 0 rfl) ?_
  refine lv_iload_n hx hb dX4_raise_1 rfl (lv_at hl 1 rfl) ?_
  exact z_xcall (fun _ h => h) (vx_runV (As := [.int x]) (rest := []) hfix (zcX4_needParrot_b l D cI H hlt B0 hB0 b n me lo c e x hJ hW hI hx9) (cwV 1 hts gX4_raise_X4_needParrot rfl rfl rfl (by decide +kernel) ⟨Nat.le_of_ble_eq_true rfl, Nat.le_of_ble_eq_true rfl⟩) (z_xpreV hE (fun q _ _ => by rw [hHs]) hK hK hJ (ci := 4) (q0 := 0) rfl rfl rfl) rfl rfl hl.1 rfl (lv_room (Nat.le_of_ble_eq_true rfl)) dX4_raise_2 ⟨Nat.le_of_ble_eq_true rfl, Nat.le_of_ble_eq_true rfl⟩) (fun E ce q H1 hP hz hk hce hcv hcl => z_xout (fun _ h => h) hP hz hk hce hcv hcl htab hlocks (Nat.le_of_ble_eq_true rfl) (Nat.le_of_ble_eq_true rfl))
set_option maxHeartbeats 4000000 in
set_option maxRecDepth 100000 in
/-- raise throws -/
theorem zcX4_raise_b2 (l : Launch) (D : va_G) (cI : ClassId) (H : Heap) (hlt : l.stackTraces = false) (B0 : Nat) (hB0 : B0 ≤ H.size) (b : Nat) (n : Nat) (me : Nat → Int32) (lo : Nat → Int32) (c : Nat → Nat) (e : Nat → Nat) (rd : Int32) (tk : Int32) (g : zG) (p : Nat) (y : Int32) (hC : zCW D cI b n me lo c e rd tk g H) (hI : zI n me lo c e) (hp : p < n) (hx9 : y < 1 ∨ ¬ y ≤ 5) : vx_Met l yX4_raise wsX4_raise ({ frames := 7, cells := 1, slots := 6, locals := 102 } : Room) (zPx D [(cI, .int)] H B0 [.ref b, .int (nI p), .int y]) zNo (zX (fun E => E = zIA) H) 1 6 (fun _ => False) := by
  refine z_xenter (cc := cX4_raise) (maxL := 4) (ret := (some .int)) (by decide) rfl (Nat.le_of_ble_eq_true rfl) ?_
  intro pg ev s m args below meth cd hfix hr hlocks htab hK hHs hE ls hl
  obtain ⟨hx, hb, hml, hown, hts⟩ := id hfix
  have hl : lv_has ls 4 [(0, .ref b), (1, .int (nI p)), (2, .int y)] := hl
  obtain ⟨hJ, hW, hT, ⟨rd1, tk1, g1, hTa⟩, ⟨rd2, tk2, g2, hTb⟩⟩ := id hC
  have hn := zI_n hI
  refine lv_aload_n hx hb dX4_raise_0 rfl (lv_at hl 0 rfl) ?_
  refine lv_iload_n hx hb dX4_raise_1 rfl (lv_at hl 1 rfl) ?_
  refine z_kv (va_runV (As := [.int (nI p)]) (rest := []) hfix (zcX4_needParrot l D cI H b n me lo c e p hJ hW hI (by omega)) (cwV 1 hts gX4_raise_X4_needParrot rfl rfl rfl (by decide +kernel) ⟨Nat.le_of_ble_eq_true rfl, Nat.le_of_ble_eq_true rfl⟩) (z_preV hK hK hJ (ci := 4) (q0 := 0) rfl rfl rfl) rfl rfl hl.1 rfl (lv_room (Nat.le_of_ble_eq_true rfl)) dX4_raise_2 ⟨by omega, by omega⟩) ?_
  refine lv_iload_n hx hb dX4_raise_5 rfl (lv_at hl 2 rfl) ?_
  exact z_xcall (fun _ h => h) (vx_runS (As := [.int y]) (rest := []) hfix (zcX4_needLoud_b l D cI H hlt B0 hB0 y hx9) (va_cwS 1 hts gX4_raise_X4_needLoud rfl rfl rfl (by decide +kernel) ⟨Nat.le_of_ble_eq_true rfl, Nat.le_of_ble_eq_true rfl⟩) (z_xpreS hE (fun q _ _ => by rw [hHs]) hK) rfl rfl hl.1 rfl (lv_room (Nat.le_of_ble_eq_true rfl)) dX4_raise_6 ⟨Nat.le_of_ble_eq_true rfl, Nat.le_of_ble_eq_true rfl⟩) (fun E ce q H1 hP hz hk hce hcv hcl => z_xout (fun _ h => h) hP hz hk hce hcv hcl htab hlocks (Nat.le_of_ble_eq_true rfl) (Nat.le_of_ble_eq_true rfl))
set_option maxHeartbeats 4000000 in
set_option maxRecDepth 100000 in
/-- whisper throws -/
theorem zcX4_whisper_b1 (l : Launch) (D : va_G) (cI : ClassId) (H : Heap) (hlt : l.stackTraces = false) (B0 : Nat) (hB0 : B0 ≤ H.size) (b : Nat) (n : Nat) (me : Nat → Int32) (lo : Nat → Int32) (c : Nat → Nat) (e : Nat → Nat) (rd : Int32) (tk : Int32) (g : zG) (x : Int32) (y : Int32) (z : Int32) (hC : zCW D cI b n me lo c e rd tk g H) (hI : zI n me lo c e) (hx9 : ¬ ∃ j, j < n ∧ x = nI j) : vx_Met l yX4_whisper wsX4_whisper ({ frames := 7, cells := 1, slots := 6, locals := 103 } : Room) (zPx D [(cI, .int)] H B0 [.ref b, .int x, .int y, .int z]) zNo (zX (fun E => E = zIO) H) 1 6 (fun _ => False) := by
  refine z_xenter (cc := cX4_whisper) (maxL := 5) (ret := (some .int)) (by decide) rfl (Nat.le_of_ble_eq_true rfl) ?_
  intro pg ev s m args below meth cd hfix hr hlocks htab hK hHs hE ls hl
  obtain ⟨hx, hb, hml, hown, hts⟩ := id hfix
  have hl : lv_has ls 5 [(0, .ref b), (1, .int x), (2, .int y), (3, .int z)] := hl
  obtain ⟨hJ, hW, hT, ⟨rd1, tk1, g1, hTa⟩, ⟨rd2, tk2, g2, hTb⟩⟩ := id hC
  have hn := zI_n hI
  refine lv_aload_n hx hb dX4_whisper_0 rfl (lv_at hl 0 rfl) ?_
  refine lv_iload_n hx hb dX4_whisper_1 rfl (lv_at hl 1 rfl) ?_
  exact z_xcall (fun _ h => h) (vx_runV (As := [.int x]) (rest := []) hfix (zcX4_needParrot_b l D cI H hlt B0 hB0 b n me lo c e x hJ hW hI hx9) (cwV 1 hts gX4_whisper_X4_needParrot rfl rfl rfl (by decide +kernel) ⟨Nat.le_of_ble_eq_true rfl, Nat.le_of_ble_eq_true rfl⟩) (z_xpreV hE (fun q _ _ => by rw [hHs]) hK hK hJ (ci := 4) (q0 := 0) rfl rfl rfl) rfl rfl hl.1 rfl (lv_room (Nat.le_of_ble_eq_true rfl)) dX4_whisper_2 ⟨Nat.le_of_ble_eq_true rfl, Nat.le_of_ble_eq_true rfl⟩) (fun E ce q H1 hP hz hk hce hcv hcl => z_xout (fun _ h => h) hP hz hk hce hcv hcl htab hlocks (Nat.le_of_ble_eq_true rfl) (Nat.le_of_ble_eq_true rfl))
set_option maxHeartbeats 4000000 in
set_option maxRecDepth 100000 in
/-- whisper throws -/
theorem zcX4_whisper_b2 (l : Launch) (D : va_G) (cI : ClassId) (H : Heap) (hlt : l.stackTraces = false) (B0 : Nat) (hB0 : B0 ≤ H.size) (b : Nat) (n : Nat) (me : Nat → Int32) (lo : Nat → Int32) (c : Nat → Nat) (e : Nat → Nat) (rd : Int32) (tk : Int32) (g : zG) (p : Nat) (y : Int32) (z : Int32) (hC : zCW D cI b n me lo c e rd tk g H) (hI : zI n me lo c e) (hp : p < n) (hx9 : y < 0 ∨ ¬ y ≤ 9999) : vx_Met l yX4_whisper wsX4_whisper ({ frames := 7, cells := 1, slots := 6, locals := 102 } : Room) (zPx D [(cI, .int)] H B0 [.ref b, .int (nI p), .int y, .int z]) zNo (zX (fun E => E = zIA) H) 1 6 (fun _ => False) := by
  refine z_xenter (cc := cX4_whisper) (maxL := 5) (ret := (some .int)) (by decide) rfl (Nat.le_of_ble_eq_true rfl) ?_
  intro pg ev s m args below meth cd hfix hr hlocks htab hK hHs hE ls hl
  obtain ⟨hx, hb, hml, hown, hts⟩ := id hfix
  have hl : lv_has ls 5 [(0, .ref b), (1, .int (nI p)), (2, .int y), (3, .int z)] := hl
  obtain ⟨hJ, hW, hT, ⟨rd1, tk1, g1, hTa⟩, ⟨rd2, tk2, g2, hTb⟩⟩ := id hC
  have hn := zI_n hI
  refine lv_aload_n hx hb dX4_whisper_0 rfl (lv_at hl 0 rfl) ?_
  refine lv_iload_n hx hb dX4_whisper_1 rfl (lv_at hl 1 rfl) ?_
  refine z_kv (va_runV (As := [.int (nI p)]) (rest := []) hfix (zcX4_needParrot l D cI H b n me lo c e p hJ hW hI (by omega)) (cwV 1 hts gX4_whisper_X4_needParrot rfl rfl rfl (by decide +kernel) ⟨Nat.le_of_ble_eq_true rfl, Nat.le_of_ble_eq_true rfl⟩) (z_preV hK hK hJ (ci := 4) (q0 := 0) rfl rfl rfl) rfl rfl hl.1 rfl (lv_room (Nat.le_of_ble_eq_true rfl)) dX4_whisper_2 ⟨by omega, by omega⟩) ?_
  refine lv_iload_n hx hb dX4_whisper_5 rfl (lv_at hl 2 rfl) ?_
  exact z_xcall (fun _ h => h) (vx_runS (As := [.int y]) (rest := []) hfix (zcX4_needWord_b l D cI H hlt B0 hB0 y hx9) (va_cwS 1 hts gX4_whisper_X4_needWord rfl rfl rfl (by decide +kernel) ⟨Nat.le_of_ble_eq_true rfl, Nat.le_of_ble_eq_true rfl⟩) (z_xpreS hE (fun q _ _ => by rw [hHs]) hK) rfl rfl hl.1 rfl (lv_room (Nat.le_of_ble_eq_true rfl)) dX4_whisper_6 ⟨Nat.le_of_ble_eq_true rfl, Nat.le_of_ble_eq_true rfl⟩) (fun E ce q H1 hP hz hk hce hcv hcl => z_xout (fun _ h => h) hP hz hk hce hcv hcl htab hlocks (Nat.le_of_ble_eq_true rfl) (Nat.le_of_ble_eq_true rfl))
set_option maxHeartbeats 4000000 in
set_option maxRecDepth 100000 in
/-- whisper throws -/
theorem zcX4_whisper_b3 (l : Launch) (D : va_G) (cI : ClassId) (H : Heap) (hlt : l.stackTraces = false) (B0 : Nat) (hB0 : B0 ≤ H.size) (b : Nat) (n : Nat) (me : Nat → Int32) (lo : Nat → Int32) (c : Nat → Nat) (e : Nat → Nat) (rd : Int32) (tk : Int32) (g : zG) (p : Nat) (w : Nat) (z : Int32) (hC : zCW D cI b n me lo c e rd tk g H) (hI : zI n me lo c e) (hp : p < n) (hw : w ≤ 9999) (hx9 : z < 0 ∨ ¬ z ≤ 9) : vx_Met l yX4_whisper wsX4_whisper ({ frames := 6, cells := 1, slots := 6, locals := 82 } : Room) (zPx D [(cI, .int)] H B0 [.ref b, .int (nI p), .int (nI w), .int z]) zNo (zX (fun E => E = zIA) H) 1 6 (fun _ => False) := by
  refine z_xenter (cc := cX4_whisper) (maxL := 5) (ret := (some .int)) (by decide) rfl (Nat.le_of_ble_eq_true rfl) ?_
  intro pg ev s m args below meth cd hfix hr hlocks htab hK hHs hE ls hl
  obtain ⟨hx, hb, hml, hown, hts⟩ := id hfix
  have hl : lv_has ls 5 [(0, .ref b), (1, .int (nI p)), (2, .int (nI w)), (3, .int z)] := hl
  obtain ⟨hJ, hW, hT, ⟨rd1, tk1, g1, hTa⟩, ⟨rd2, tk2, g2, hTb⟩⟩ := id hC
  have hn := zI_n hI
  refine lv_aload_n hx hb dX4_whisper_0 rfl (lv_at hl 0 rfl) ?_
  refine lv_iload_n hx hb dX4_whisper_1 rfl (lv_at hl 1 rfl) ?_
  refine z_kv (va_runV (As := [.int (nI p)]) (rest := []) hfix (zcX4_needParrot l D cI H b n me lo c e p hJ hW hI (by omega)) (cwV 1 hts gX4_whisper_X4_needParrot rfl rfl rfl (by decide +kernel) ⟨Nat.le_of_ble_eq_true rfl, Nat.le_of_ble_eq_true rfl⟩) (z_preV hK hK hJ (ci := 4) (q0 := 0) rfl rfl rfl) rfl rfl hl.1 rfl (lv_room (Nat.le_of_ble_eq_true rfl)) dX4_whisper_2 ⟨by omega, by omega⟩) ?_
  refine lv_iload_n hx hb dX4_whisper_5 rfl (lv_at hl 2 rfl) ?_
  refine z_kv (va_runS (As := [.int (nI w)]) (rest := []) hfix (zcX4_needWord l D cI H w (by omega)) (va_cwS 1 hts gX4_whisper_X4_needWord rfl rfl rfl (by decide +kernel) ⟨Nat.le_of_ble_eq_true rfl, Nat.le_of_ble_eq_true rfl⟩) (z_preS hK) rfl rfl hl.1 rfl (lv_room (Nat.le_of_ble_eq_true rfl)) dX4_whisper_6 ⟨by omega, by omega⟩) ?_
  refine lv_iload_n hx hb dX4_whisper_9 rfl (lv_at hl 3 rfl) ?_
  refine lv_iconst (v := 0) hx hb dX4_whisper_10 (by decide) ?_
  refine lv_bipush (v := 9) hx hb dX4_whisper_11 (by decide) ?_
  refine z_ki (va_runS (As := [.int z, .int 0, .int 9]) (rest := []) hfix (zcX4_isOutside l D cI H z 0 9 ) (va_cwS 3 hts gX4_whisper_X4_isOutside rfl rfl rfl (by decide +kernel) ⟨Nat.le_of_ble_eq_true rfl, Nat.le_of_ble_eq_true rfl⟩) (z_preS hK) rfl rfl hl.1 rfl (lv_room (Nat.le_of_ble_eq_true rfl)) dX4_whisper_13 ⟨by omega, by omega⟩) ?_
  refine lv_if_eq (tgt := 29) hx hb dX4_whisper_16 (by decide) (fun c16 => ?_) (fun c16 => ?_)
  · have c16 := zb_0 c16
    exact absurd hx9 c16
  · have c16 := zb_1 c16
    exact z_throw (cls := zIA) (text := "sure is not 0 to 9") (ik := 33) (is := 91) (ic := 37) hx hb hlt hown hE hHs (Nat.le_refl _) hml hl.1 (by decide) (hts _ (List.mem_of_getElem? (i := 1) rfl)) (hts _ (List.mem_of_getElem? (i := 2) rfl)) zin_IA (by decide) zgood_IA dX4_whisper_19 dX4_whisper_22 dX4_whisper_23 dX4_whisper_25 dX4_whisper_28 htab (Nat.le_of_ble_eq_true rfl) (Nat.le_of_ble_eq_true rfl) (Nat.le_of_ble_eq_true rfl) (Nat.le_of_ble_eq_true rfl) hlocks rfl (Nat.le_of_ble_eq_true rfl) (Nat.le_of_ble_eq_true rfl) (by rw [hHs]; exact hB0)
set_option maxHeartbeats 4000000 in
set_option maxRecDepth 100000 in
/-- parrot throws -/
theorem zcX4_parrot_b1 (l : Launch) (D : va_G) (cI : ClassId) (H : Heap) (hlt : l.stackTraces = false) (B0 : Nat) (hB0 : B0 ≤ H.size) (b : Nat) (n : Nat) (me : Nat → Int32) (lo : Nat → Int32) (c : Nat → Nat) (e : Nat → Nat) (rd : Int32) (tk : Int32) (g : zG) (x : Int32) (y : Int32) (hC : zCW D cI b n me lo c e rd tk g H) (hI : zI n me lo c e) (hx9 : ¬ ∃ j, j < n ∧ x = nI j) : vx_Met l yX4_parrot wsX4_parrot ({ frames := 7, cells := 1, slots := 6, locals := 103 } : Room) (zPx D [(cI, .int)] H B0 [.ref b, .int x, .int y]) zNo (zX (fun E => E = zIO) H) 1 6 (fun _ => False) := by
  refine z_xenter (cc := cX4_parrot) (maxL := 3) (ret := (some .int)) (by decide) rfl (Nat.le_of_ble_eq_true rfl) ?_
  intro pg ev s m args below meth cd hfix hr hlocks htab hK hHs hE ls hl
  obtain ⟨hx, hb, hml, hown, hts⟩ := id hfix
  have hl : lv_has ls 3 [(0, .ref b), (1, .int x), (2, .int y)] := hl
  obtain ⟨hJ, hW, hT, ⟨rd1, tk1, g1, hTa⟩, ⟨rd2, tk2, g2, hTb⟩⟩ := id hC
  have hn := zI_n hI
  refine lv_aload_n hx hb dX4_parrot_0 rfl (lv_at hl 0 rfl) ?_
  refine lv_iload_n hx hb dX4_parrot_1 rfl (lv_at hl 1 rfl) ?_
  exact z_xcall (fun _ h => h) (vx_runV (As := [.int x]) (rest := []) hfix (zcX4_needParrot_b l D cI H hlt B0 hB0 b n me lo c e x hJ hW hI hx9) (cwV 1 hts gX4_parrot_X4_needParrot rfl rfl rfl (by decide +kernel) ⟨Nat.le_of_ble_eq_true rfl, Nat.le_of_ble_eq_true rfl⟩) (z_xpreV hE (fun q _ _ => by rw [hHs]) hK hK hJ (ci := 4) (q0 := 0) rfl rfl rfl) rfl rfl hl.1 rfl (lv_room (Nat.le_of_ble_eq_true rfl)) dX4_parrot_2 ⟨Nat.le_of_ble_eq_true rfl, Nat.le_of_ble_eq_true rfl⟩) (fun E ce q H1 hP hz hk hce hcv hcl => z_xout (fun _ h => h) hP hz hk hce hcv hcl htab hlocks (Nat.le_of_ble_eq_true rfl) (Nat.le_of_ble_eq_true rfl))
set_option maxHeartbeats 4000000 in
set_option maxRecDepth 100000 in
/-- hears throws -/
theorem zcX4_hears_b1 (l : Launch) (D : va_G) (cI : ClassId) (H : Heap) (hlt : l.stackTraces = false) (B0 : Nat) (hB0 : B0 ≤ H.size) (b : Nat) (n : Nat) (me : Nat → Int32) (lo : Nat → Int32) (c : Nat → Nat) (e : Nat → Nat) (rd : Int32) (tk : Int32) (g : zG) (x : Int32) (y : Int32) (hC : zCW D cI b n me lo c e rd tk g H) (hI : zI n me lo c e) (hx9 : ¬ ∃ j, j < n ∧ x = nI j) : vx_Met l yX4_hears wsX4_hears ({ frames := 7, cells := 1, slots := 6, locals := 103 } : Room) (zPx D [(cI, .int)] H B0 [.ref b, .int x, .int y]) zNo (zX (fun E => E = zIO) H) 1 6 (fun _ => False) := by
  refine z_xenter (cc := cX4_hears) (maxL := 3) (ret := (some .int)) (by decide) rfl (Nat.le_of_ble_eq_true rfl) ?_
  intro pg ev s m args below meth cd hfix hr hlocks htab hK hHs hE ls hl
  obtain ⟨hx, hb, hml, hown, hts⟩ := id hfix
  have hl : lv_has ls 3 [(0, .ref b), (1, .int x), (2, .int y)] := hl
  obtain ⟨hJ, hW, hT, ⟨rd1, tk1, g1, hTa⟩, ⟨rd2, tk2, g2, hTb⟩⟩ := id hC
  have hn := zI_n hI
  refine lv_aload_n hx hb dX4_hears_0 rfl (lv_at hl 0 rfl) ?_
  refine lv_iload_n hx hb dX4_hears_1 rfl (lv_at hl 1 rfl) ?_
  exact z_xcall (fun _ h => h) (vx_runV (As := [.int x]) (rest := []) hfix (zcX4_needParrot_b l D cI H hlt B0 hB0 b n me lo c e x hJ hW hI hx9) (cwV 1 hts gX4_hears_X4_needParrot rfl rfl rfl (by decide +kernel) ⟨Nat.le_of_ble_eq_true rfl, Nat.le_of_ble_eq_true rfl⟩) (z_xpreV hE (fun q _ _ => by rw [hHs]) hK hK hJ (ci := 4) (q0 := 0) rfl rfl rfl) rfl rfl hl.1 rfl (lv_room (Nat.le_of_ble_eq_true rfl)) dX4_hears_2 ⟨Nat.le_of_ble_eq_true rfl, Nat.le_of_ble_eq_true rfl⟩) (fun E ce q H1 hP hz hk hce hcv hcl => z_xout (fun _ h => h) hP hz hk hce hcv hcl htab hlocks (Nat.le_of_ble_eq_true rfl) (Nat.le_of_ble_eq_true rfl))
set_option maxHeartbeats 4000000 in
set_option maxRecDepth 100000 in
/-- parrot throws -/
theorem zcX4_parrot_b2 (l : Launch) (D : va_G) (cI : ClassId) (H : Heap) (hlt : l.stackTraces = false) (B0 : Nat) (hB0 : B0 ≤ H.size) (b : Nat) (n : Nat) (me : Nat → Int32) (lo : Nat → Int32) (c : Nat → Nat) (e : Nat → Nat) (rd : Int32) (tk : Int32) (g : zG) (p : Nat) (y : Int32) (hC : zCW D cI b n me lo c e rd tk g H) (hI : zI n me lo c e) (hp : p < n) (hx9 : y < 0 ∨ ¬ y ≤ 6) : vx_Met l yX4_parrot wsX4_parrot ({ frames := 7, cells := 1, slots := 6, locals := 103 } : Room) (zPx D [(cI, .int)] H B0 [.ref b, .int (nI p), .int y]) zNo (zX (fun E => E = zIO) H) 1 6 (fun _ => False) := by
  refine z_xenter (cc := cX4_parrot) (maxL := 3) (ret := (some .int)) (by decide) rfl (Nat.le_of_ble_eq_true rfl) ?_
  intro pg ev s m args below meth cd hfix hr hlocks htab hK hHs hE ls hl
  obtain ⟨hx, hb, hml, hown, hts⟩ := id hfix
  have hl : lv_has ls 3 [(0, .ref b), (1, .int (nI p)), (2, .int y)] := hl
  obtain ⟨hJ, hW, hT, ⟨rd1, tk1, g1, hTa⟩, ⟨rd2, tk2, g2, hTb⟩⟩ := id hC
  have hn := zI_n hI
  refine lv_aload_n hx hb dX4_parrot_0 rfl (lv_at hl 0 rfl) ?_
  refine lv_iload_n hx hb dX4_parrot_1 rfl (lv_at hl 1 rfl) ?_
  refine z_kv (va_runV (As := [.int (nI p)]) (rest := []) hfix (zcX4_needParrot l D cI H b n me lo c e p hJ hW hI (by omega)) (cwV 1 hts gX4_parrot_X4_needParrot rfl rfl rfl (by decide +kernel) ⟨Nat.le_of_ble_eq_true rfl, Nat.le_of_ble_eq_true rfl⟩) (z_preV hK hK hJ (ci := 4) (q0 := 0) rfl rfl rfl) rfl rfl hl.1 rfl (lv_room (Nat.le_of_ble_eq_true rfl)) dX4_parrot_2 ⟨by omega, by omega⟩) ?_
  refine lv_iload_n hx hb dX4_parrot_5 rfl (lv_at hl 2 rfl) ?_
  refine lv_bipush (v := 6) hx hb dX4_parrot_6 (by decide) ?_
  exact z_xcall (fun _ h => h) (vx_runS (As := [.int y, .int 6]) (rest := []) hfix (zcX4_needWhat_b l D cI H hlt B0 hB0 y 6 hx9) (va_cwS 2 hts gX4_parrot_X4_needWhat rfl rfl rfl (by decide +kernel) ⟨Nat.le_of_ble_eq_true rfl, Nat.le_of_ble_eq_true rfl⟩) (z_xpreS hE (fun q _ _ => by rw [hHs]) hK) rfl rfl hl.1 rfl (lv_room (Nat.le_of_ble_eq_true rfl)) dX4_parrot_8 ⟨Nat.le_of_ble_eq_true rfl, Nat.le_of_ble_eq_true rfl⟩) (fun E ce q H1 hP hz hk hce hcv hcl => z_xout (fun _ h => h) hP hz hk hce hcv hcl htab hlocks (Nat.le_of_ble_eq_true rfl) (Nat.le_of_ble_eq_true rfl))
set_option maxHeartbeats 4000000 in
set_option maxRecDepth 100000 in
/-- half throws -/
theorem zcX4_half_b1 (l : Launch) (D : va_G) (cI : ClassId) (H : Heap) (hlt : l.stackTraces = false) (B0 : Nat) (hB0 : B0 ≤ H.size) (b : Nat) (n : Nat) (me : Nat → Int32) (lo : Nat → Int32) (c : Nat → Nat) (e : Nat → Nat) (rd : Int32) (tk : Int32) (g : zG) (x : Int32) (h : Int32) (y : Int32) (hC : zCW D cI b n me lo c e rd tk g H) (hI : zI n me lo c e) (hx9 : ¬ ∃ j, j < n ∧ x = nI j) : vx_Met l yX4_half wsX4_half ({ frames := 7, cells := 1, slots := 6, locals := 103 } : Room) (zPx D [(cI, .int)] H B0 [.ref b, .int x, .int h, .int y]) zNo (zX (fun E => E = zIO) H) 1 6 (fun _ => False) := by
  refine z_xenter (cc := cX4_half) (maxL := 4) (ret := (some .int)) (by decide) rfl (Nat.le_of_ble_eq_true rfl) ?_
  intro pg ev s m args below meth cd hfix hr hlocks htab hK hHs hE ls hl
  obtain ⟨hx, hb, hml, hown, hts⟩ := id hfix
  have hl : lv_has ls 4 [(0, .ref b), (1, .int x), (2, .int h), (3, .int y)] := hl
  obtain ⟨hJ, hW, hT, ⟨rd1, tk1, g1, hTa⟩, ⟨rd2, tk2, g2, hTb⟩⟩ := id hC
  have hn := zI_n hI
  refine lv_aload_n hx hb dX4_half_0 rfl (lv_at hl 0 rfl) ?_
  refine lv_iload_n hx hb dX4_half_1 rfl (lv_at hl 1 rfl) ?_
  exact z_xcall (fun _ h => h) (vx_runV (As := [.int x]) (rest := []) hfix (zcX4_needParrot_b l D cI H hlt B0 hB0 b n me lo c e x hJ hW hI hx9) (cwV 1 hts gX4_half_X4_needParrot rfl rfl rfl (by decide +kernel) ⟨Nat.le_of_ble_eq_true rfl, Nat.le_of_ble_eq_true rfl⟩) (z_xpreV hE (fun q _ _ => by rw [hHs]) hK hK hJ (ci := 4) (q0 := 0) rfl rfl rfl) rfl rfl hl.1 rfl (lv_room (Nat.le_of_ble_eq_true rfl)) dX4_half_2 ⟨Nat.le_of_ble_eq_true rfl, Nat.le_of_ble_eq_true rfl⟩) (fun E ce q H1 hP hz hk hce hcv hcl => z_xout (fun _ h => h) hP hz hk hce hcv hcl htab hlocks (Nat.le_of_ble_eq_true rfl) (Nat.le_of_ble_eq_true rfl))
set_option maxHeartbeats 4000000 in
set_option maxRecDepth 100000 in
/-- half throws -/
theorem zcX4_half_b2 (l : Launch) (D : va_G) (cI : ClassId) (H : Heap) (hlt : l.stackTraces = false) (B0 : Nat) (hB0 : B0 ≤ H.size) (b : Nat) (n : Nat) (me : Nat → Int32) (lo : Nat → Int32) (c : Nat → Nat) (e : Nat → Nat) (rd : Int32) (tk : Int32) (g : zG) (p : Nat) (h : Int32) (y : Int32) (hC : zCW D cI b n me lo c e rd tk g H) (hI : zI n me lo c e) (hp : p < n) (hx9 : y < 0 ∨ ¬ y ≤ 2) : vx_Met l yX4_half wsX4_half ({ frames := 7, cells := 1, slots := 6, locals := 103 } : Room) (zPx D [(cI, .int)] H B0 [.ref b, .int (nI p), .int h, .int y]) zNo (zX (fun E => E = zIO) H) 1 6 (fun _ => False) := by
  refine z_xenter (cc := cX4_half) (maxL := 4) (ret := (some .int)) (by decide) rfl (Nat.le_of_ble_eq_true rfl) ?_
  intro pg ev s m args below meth cd hfix hr hlocks htab hK hHs hE ls hl
  obtain ⟨hx, hb, hml, hown, hts⟩ := id hfix
  have hl : lv_has ls 4 [(0, .ref b), (1, .int (nI p)), (2, .int h), (3, .int y)] := hl
  obtain ⟨hJ, hW, hT, ⟨rd1, tk1, g1, hTa⟩, ⟨rd2, tk2, g2, hTb⟩⟩ := id hC
  have hn := zI_n hI
  refine lv_aload_n hx hb dX4_half_0 rfl (lv_at hl 0 rfl) ?_
  refine lv_iload_n hx hb dX4_half_1 rfl (lv_at hl 1 rfl) ?_
  refine z_kv (va_runV (As := [.int (nI p)]) (rest := []) hfix (zcX4_needParrot l D cI H b n me lo c e p hJ hW hI (by omega)) (cwV 1 hts gX4_half_X4_needParrot rfl rfl rfl (by decide +kernel) ⟨Nat.le_of_ble_eq_true rfl, Nat.le_of_ble_eq_true rfl⟩) (z_preV hK hK hJ (ci := 4) (q0 := 0) rfl rfl rfl) rfl rfl hl.1 rfl (lv_room (Nat.le_of_ble_eq_true rfl)) dX4_half_2 ⟨by omega, by omega⟩) ?_
  refine lv_iload_n hx hb dX4_half_5 rfl (lv_at hl 3 rfl) ?_
  refine lv_iconst (v := 2) hx hb dX4_half_6 (by decide) ?_
  exact z_xcall (fun _ h => h) (vx_runS (As := [.int y, .int 2]) (rest := []) hfix (zcX4_needWhat_b l D cI H hlt B0 hB0 y 2 hx9) (va_cwS 2 hts gX4_half_X4_needWhat rfl rfl rfl (by decide +kernel) ⟨Nat.le_of_ble_eq_true rfl, Nat.le_of_ble_eq_true rfl⟩) (z_xpreS hE (fun q _ _ => by rw [hHs]) hK) rfl rfl hl.1 rfl (lv_room (Nat.le_of_ble_eq_true rfl)) dX4_half_7 ⟨Nat.le_of_ble_eq_true rfl, Nat.le_of_ble_eq_true rfl⟩) (fun E ce q H1 hP hz hk hce hcv hcl => z_xout (fun _ h => h) hP hz hk hce hcv hcl htab hlocks (Nat.le_of_ble_eq_true rfl) (Nat.le_of_ble_eq_true rfl))
set_option maxHeartbeats 4000000 in
set_option maxRecDepth 100000 in
/-- hears throws -/
theorem zcX4_hears_b2 (l : Launch) (D : va_G) (cI : ClassId) (H : Heap) (hlt : l.stackTraces = false) (B0 : Nat) (hB0 : B0 ≤ H.size) (b : Nat) (n : Nat) (me : Nat → Int32) (lo : Nat → Int32) (c : Nat → Nat) (e : Nat → Nat) (rd : Int32) (tk : Int32) (g : zG) (p : Nat) (y : Int32) (hC : zCW D cI b n me lo c e rd tk g H) (hI : zI n me lo c e) (hp : p < n) (hx9 : ¬ ∃ j, j < c p ∧ y = nI j) : vx_Met l yX4_hears wsX4_hears ({ frames := 6, cells := 1, slots := 6, locals := 82 } : Room) (zPx D [(cI, .int)] H B0 [.ref b, .int (nI p), .int y]) zNo (zX (fun E => E = zIO) H) 1 6 (fun _ => False) := by
  refine z_xenter (cc := cX4_hears) (maxL := 3) (ret := (some .int)) (by decide) rfl (Nat.le_of_ble_eq_true rfl) ?_
  intro pg ev s m args below meth cd hfix hr hlocks htab hK hHs hE ls hl
  obtain ⟨hx, hb, hml, hown, hts⟩ := id hfix
  have hl : lv_has ls 3 [(0, .ref b), (1, .int (nI p)), (2, .int y)] := hl
  have hinX4 : ∀ w ∈ wsX40, w ∈ wsX4_hears := by decide +kernel
  obtain ⟨hJ, hW, hT, ⟨rd1, tk1, g1, hTa⟩, ⟨rd2, tk2, g2, hTb⟩⟩ := id hC
  have hn := zI_n hI
  have hc4 := zI_c hI p
  refine lv_aload_n hx hb dX4_hears_0 rfl (lv_at hl 0 rfl) ?_
  refine lv_iload_n hx hb dX4_hears_1 rfl (lv_at hl 1 rfl) ?_
  refine z_kv (va_runV (As := [.int (nI p)]) (rest := []) hfix (zcX4_needParrot l D cI H b n me lo c e p hJ hW hI (by omega)) (cwV 1 hts gX4_hears_X4_needParrot rfl rfl rfl (by decide +kernel) ⟨Nat.le_of_ble_eq_true rfl, Nat.le_of_ble_eq_true rfl⟩) (z_preV hK hK hJ (ci := 4) (q0 := 0) rfl rfl rfl) rfl rfl hl.1 rfl (lv_room (Nat.le_of_ble_eq_true rfl)) dX4_hears_2 ⟨by omega, by omega⟩) ?_
  refine lv_iload_n hx hb dX4_hears_5 rfl (lv_at hl 2 rfl) ?_
  refine lv_if_lt (tgt := 21) hx hb dX4_hears_6 (by decide) (fun c6 => ?_) (fun c6 => ?_)
  · exact z_throw (cls := zIO) (text := "there is no such place") (ik := 106) (is := 108) (ic := 110) hx hb hlt hown hE hHs (Nat.le_refl _) hml hl.1 (by decide) (hts _ (List.mem_of_getElem? (i := 1) rfl)) (hts _ (List.mem_of_getElem? (i := 2) rfl)) zin_IO (by decide) zgood_IO dX4_hears_21 dX4_hears_24 dX4_hears_25 dX4_hears_27 dX4_hears_30 htab (Nat.le_of_ble_eq_true rfl) (Nat.le_of_ble_eq_true rfl) (Nat.le_of_ble_eq_true rfl) (Nat.le_of_ble_eq_true rfl) hlocks rfl (Nat.le_of_ble_eq_true rfl) (Nat.le_of_ble_eq_true rfl) (by rw [hHs]; exact hB0)
  · refine lv_iload_n hx hb dX4_hears_9 rfl (lv_at hl 2 rfl) ?_
    refine lv_aload_n hx hb dX4_hears_10 rfl (lv_at hl 0 rfl) ?_
    refine va_get (D := D) (ci := 4) (v := .ref (b + 1)) (C := RX4) (T := TX4) (N := 4) hx hb hts hinX4 hown hK hJ 0 rfl rfl 0 (by decide) (hts _ (List.mem_of_getElem? (i := 3) rfl)) (fun _ h9 => h9) rfl dX4_hears_11 ?_
    refine lv_iload_n hx hb dX4_hears_14 rfl (lv_at hl 1 rfl) ?_
    refine z_ki (va_runV (As := [.int (nI p)]) (rest := [.int y]) hfix (zcX2_listening l D cI H (b + 1) n me lo c e p hW (by omega)) (cwV 1 hts gX4_hears_X2_listening rfl rfl rfl (by decide +kernel) ⟨Nat.le_of_ble_eq_true rfl, Nat.le_of_ble_eq_true rfl⟩) (z_preV hK hK hW (ci := 2) (q0 := 0) rfl rfl rfl) rfl rfl hl.1 rfl (lv_room (Nat.le_of_ble_eq_true rfl)) dX4_hears_15 ⟨by omega, by omega⟩) ?_
    refine lv_icmp_lt (tgt := 31) hx hb dX4_hears_18 (by decide) (fun c18 => ?_) (fun c18 => ?_)
    · exact absurd (z_parOk c6 c18 (by omega)) hx9
    · exact z_throw (cls := zIO) (text := "there is no such place") (ik := 106) (is := 108) (ic := 110) hx hb hlt hown hE hHs (Nat.le_refl _) hml hl.1 (by decide) (hts _ (List.mem_of_getElem? (i := 1) rfl)) (hts _ (List.mem_of_getElem? (i := 2) rfl)) zin_IO (by decide) zgood_IO dX4_hears_21 dX4_hears_24 dX4_hears_25 dX4_hears_27 dX4_hears_30 htab (Nat.le_of_ble_eq_true rfl) (Nat.le_of_ble_eq_true rfl) (Nat.le_of_ble_eq_true rfl) (Nat.le_of_ble_eq_true rfl) hlocks rfl (Nat.le_of_ble_eq_true rfl) (Nat.le_of_ble_eq_true rfl) (by rw [hHs]; exact hB0)
set_option maxHeartbeats 4000000 in
set_option maxRecDepth 100000 in
/-- votes throws -/
theorem zcX4_votes_b1 (l : Launch) (D : va_G) (cI : ClassId) (H : Heap) (hlt : l.stackTraces = false) (B0 : Nat) (hB0 : B0 ≤ H.size) (b : Nat) (n : Nat) (me : Nat → Int32) (lo : Nat → Int32) (c : Nat → Nat) (e : Nat → Nat) (rd : Int32) (tk : Int32) (g : zG) (x : Int32) (hC : zCW D cI b n me lo c e rd tk g H) (hI : zI n me lo c e) (hx9 : x < 0 ∨ ¬ x ≤ 9999) : vx_Met l yX4_votes wsX4_votes ({ frames := 7, cells := 1, slots := 6, locals := 102 } : Room) (zPx D [(cI, .int)] H B0 [.ref b, .int x]) zNo (zX (fun E => E = zIA) H) 1 6 (fun _ => False) := by
  refine z_xenter (cc := cX4_votes) (maxL := 2) (ret := (some .int)) (by decide) rfl (Nat.le_of_ble_eq_true rfl) ?_
  intro pg ev s m args below meth cd hfix hr hlocks htab hK hHs hE ls hl
  obtain ⟨hx, hb, hml, hown, hts⟩ := id hfix
  have hl : lv_has ls 2 [(0, .ref b), (1, .int x)] := hl
  obtain ⟨hJ, hW, hT, ⟨rd1, tk1, g1, hTa⟩, ⟨rd2, tk2, g2, hTb⟩⟩ := id hC
  have hn := zI_n hI
  refine lv_iload_n hx hb dX4_votes_0 rfl (lv_at hl 1 rfl) ?_
  exact z_xcall (fun _ h => h) (vx_runS (As := [.int x]) (rest := []) hfix (zcX4_needWord_b l D cI H hlt B0 hB0 x hx9) (va_cwS 1 hts gX4_votes_X4_needWord rfl rfl rfl (by decide +kernel) ⟨Nat.le_of_ble_eq_true rfl, Nat.le_of_ble_eq_true rfl⟩) (z_xpreS hE (fun q _ _ => by rw [hHs]) hK) rfl rfl hl.1 rfl (lv_room (Nat.le_of_ble_eq_true rfl)) dX4_votes_1 ⟨Nat.le_of_ble_eq_true rfl, Nat.le_of_ble_eq_true rfl⟩) (fun E ce q H1 hP hz hk hce hcv hcl => z_xout (fun _ h => h) hP hz hk hce hcv hcl htab hlocks (Nat.le_of_ble_eq_true rfl) (Nat.le_of_ble_eq_true rfl))
set_option maxHeartbeats 4000000 in
set_option maxRecDepth 100000 in
/-- left throws -/
theorem zcX4_left_b1 (l : Launch) (D : va_G) (cI : ClassId) (H : Heap) (hlt : l.stackTraces = false) (B0 : Nat) (hB0 : B0 ≤ H.size) (b : Nat) (n : Nat) (me : Nat → Int32) (lo : Nat → Int32) (c : Nat → Nat) (e : Nat → Nat) (rd : Int32) (tk : Int32) (g : zG) (x : Int32) (hC : zCW D cI b n me lo c e rd tk g H) (hI : zI n me lo c e) (hx9 : x < 0 ∨ ¬ x ≤ 9999) : vx_Met l yX4_left wsX4_left ({ frames := 7, cells := 1, slots := 6, locals := 102 } : Room) (zPx D [(cI, .int)] H B0 [.ref b, .int x]) zNo (zX (fun E => E = zIA) H) 1 6 (fun _ => False) := by
  refine z_xenter (cc := cX4_left) (maxL := 5) (ret := (some .int)) (by decide) rfl (Nat.le_of_ble_eq_true rfl) ?_
  intro pg ev s m args below meth cd hfix hr hlocks htab hK hHs hE ls hl
  obtain ⟨hx, hb, hml, hown, hts⟩ := id hfix
  have hl : lv_has ls 5 [(0, .ref b), (1, .int x)] := hl
  obtain ⟨hJ, hW, hT, ⟨rd1, tk1, g1, hTa⟩, ⟨rd2, tk2, g2, hTb⟩⟩ := id hC
  have hn := zI_n hI
  refine lv_iload_n hx hb dX4_left_0 rfl (lv_at hl 1 rfl) ?_
  exact z_xcall (fun _ h => h) (vx_runS (As := [.int x]) (rest := []) hfix (zcX4_needWord_b l D cI H hlt B0 hB0 x hx9) (va_cwS 1 hts gX4_left_X4_needWord rfl rfl rfl (by decide +kernel) ⟨Nat.le_of_ble_eq_true rfl, Nat.le_of_ble_eq_true rfl⟩) (z_xpreS hE (fun q _ _ => by rw [hHs]) hK) rfl rfl hl.1 rfl (lv_room (Nat.le_of_ble_eq_true rfl)) dX4_left_1 ⟨Nat.le_of_ble_eq_true rfl, Nat.le_of_ble_eq_true rfl⟩) (fun E ce q H1 hP hz hk hce hcv hcl => z_xout (fun _ h => h) hP hz hk hce hcv hcl htab hlocks (Nat.le_of_ble_eq_true rfl) (Nat.le_of_ble_eq_true rfl))
set_option maxHeartbeats 4000000 in
set_option maxRecDepth 100000 in
/-- count throws -/
theorem zcX4_count_b1 (l : Launch) (D : va_G) (cI : ClassId) (H : Heap) (hlt : l.stackTraces = false) (B0 : Nat) (hB0 : B0 ≤ H.size) (b : Nat) (n : Nat) (me : Nat → Int32) (lo : Nat → Int32) (c : Nat → Nat) (e : Nat → Nat) (rd : Int32) (tk : Int32) (g : zG) (x : Int32) (hC : zCW D cI b n me lo c e rd tk g H) (hI : zI n me lo c e) (hx9 : x < 0 ∨ ¬ x ≤ 5) : vx_Met l yX4_count wsX4_count ({ frames := 7, cells := 1, slots := 6, locals := 103 } : Room) (zPx D [(cI, .int)] H B0 [.ref b, .int x]) zNo (zX (fun E => E = zIO) H) 1 6 (fun _ => False) := by
  refine z_xenter (cc := cX4_count) (maxL := 2) (ret := (some .int)) (by decide) rfl (Nat.le_of_ble_eq_true rfl) ?_
  intro pg ev s m args below meth cd hfix hr hlocks htab hK hHs hE ls hl
  obtain ⟨hx, hb, hml, hown, hts⟩ := id hfix
  have hl : lv_has ls 2 [(0, .ref b), (1, .int x)] := hl
  obtain ⟨hJ, hW, hT, ⟨rd1, tk1, g1, hTa⟩, ⟨rd2, tk2, g2, hTb⟩⟩ := id hC
  have hn := zI_n hI
  refine lv_iload_n hx hb dX4_count_0 rfl (lv_at hl 1 rfl) ?_
  refine lv_iconst (v := 5) hx hb dX4_count_1 (by decide) ?_
  exact z_xcall (fun _ h => h) (vx_runS (As := [.int x, .int 5]) (rest := []) hfix (zcX4_needWhat_b l D cI H hlt B0 hB0 x 5 hx9) (va_cwS 2 hts gX4_count_X4_needWhat rfl rfl rfl (by decide +kernel) ⟨Nat.le_of_ble_eq_true rfl, Nat.le_of_ble_eq_true rfl⟩) (z_xpreS hE (fun q _ _ => by rw [hHs]) hK) rfl rfl hl.1 rfl (lv_room (Nat.le_of_ble_eq_true rfl)) dX4_count_2 ⟨Nat.le_of_ble_eq_true rfl, Nat.le_of_ble_eq_true rfl⟩) (fun E ce q H1 hP hz hk hce hcv hcl => z_xout (fun _ h => h) hP hz hk hce hcv hcl htab hlocks (Nat.le_of_ble_eq_true rfl) (Nat.le_of_ble_eq_true rfl))
set_option maxHeartbeats 4000000 in
set_option maxRecDepth 100000 in
/-- pass throws -/
theorem zcX4_pass_b1 (l : Launch) (D : va_G) (cI : ClassId) (H : Heap) (hlt : l.stackTraces = false) (B0 : Nat) (hB0 : B0 ≤ H.size) (b : Nat) (n : Nat) (me : Nat → Int32) (lo : Nat → Int32) (c : Nat → Nat) (e : Nat → Nat) (rd : Int32) (tk : Int32) (g : zG) (x : Int32) (hC : zCW D cI b n me lo c e rd tk g H) (hI : zI n me lo c e) (hx9 : x < 1 ∨ ¬ x ≤ 200) : vx_Met l yX4_pass wsX4_pass ({ frames := 7, cells := 1, slots := 6, locals := 103 } : Room) (zPx D [(cI, .int)] H B0 [.ref b, .int x]) zNo (zX (fun E => E = zIA) H) 1 6 (fun _ => False) := by
  refine z_xenter (cc := cX4_pass) (maxL := 3) (ret := (some .int)) (by decide) rfl (Nat.le_of_ble_eq_true rfl) ?_
  intro pg ev s m args below meth cd hfix hr hlocks htab hK hHs hE ls hl
  obtain ⟨hx, hb, hml, hown, hts⟩ := id hfix
  have hl : lv_has ls 3 [(0, .ref b), (1, .int x)] := hl
  obtain ⟨hJ, hW, hT, ⟨rd1, tk1, g1, hTa⟩, ⟨rd2, tk2, g2, hTb⟩⟩ := id hC
  have hn := zI_n hI
  refine lv_iload_n hx hb dX4_pass_0 rfl (lv_at hl 1 rfl) ?_
  refine lv_sipush (v := 200) hx hb dX4_pass_1 (by decide) ?_
  exact z_xcall (fun _ h => h) (vx_runS (As := [.int x, .int 200]) (rest := []) hfix (zcX4_needRounds_b l D cI H hlt B0 hB0 x 200 hx9) (va_cwS 2 hts gX4_pass_X4_needRounds rfl rfl rfl (by decide +kernel) ⟨Nat.le_of_ble_eq_true rfl, Nat.le_of_ble_eq_true rfl⟩) (z_xpreS hE (fun q _ _ => by rw [hHs]) hK) rfl rfl hl.1 rfl (lv_room (Nat.le_of_ble_eq_true rfl)) dX4_pass_4 ⟨Nat.le_of_ble_eq_true rfl, Nat.le_of_ble_eq_true rfl⟩) (fun E ce q H1 hP hz hk hce hcv hcl => z_xout (fun _ h => h) hP hz hk hce hcv hcl htab hlocks (Nat.le_of_ble_eq_true rfl) (Nat.le_of_ble_eq_true rfl))
set_option maxHeartbeats 4000000 in
set_option maxRecDepth 100000 in
/-- foresee throws -/
theorem zcX4_foresee_b1 (l : Launch) (D : va_G) (cI : ClassId) (H : Heap) (hlt : l.stackTraces = false) (B0 : Nat) (hB0 : B0 ≤ H.size) (b : Nat) (n : Nat) (me : Nat → Int32) (lo : Nat → Int32) (c : Nat → Nat) (e : Nat → Nat) (rd : Int32) (tk : Int32) (g : zG) (x : Int32) (y : Int32) (hC : zCW D cI b n me lo c e rd tk g H) (hI : zI n me lo c e) (hx9 : x < 1 ∨ ¬ x ≤ 200) : vx_Met l yX4_foresee wsX4_foresee ({ frames := 7, cells := 1, slots := 6, locals := 103 } : Room) (zPx D [(cI, .int)] H B0 [.ref b, .int x, .int y]) zNo (zX (fun E => E = zIA) H) 1 6 (fun _ => False) := by
  refine z_xenter (cc := cX4_foresee) (maxL := 3) (ret := (some .int)) (by decide) rfl (Nat.le_of_ble_eq_true rfl) ?_
  intro pg ev s m args below meth cd hfix hr hlocks htab hK hHs hE ls hl
  obtain ⟨hx, hb, hml, hown, hts⟩ := id hfix
  have hl : lv_has ls 3 [(0, .ref b), (1, .int x), (2, .int y)] := hl
  obtain ⟨hJ, hW, hT, ⟨rd1, tk1, g1, hTa⟩, ⟨rd2, tk2, g2, hTb⟩⟩ := id hC
  have hn := zI_n hI
  refine lv_iload_n hx hb dX4_foresee_0 rfl (lv_at hl 1 rfl) ?_
  refine lv_sipush (v := 200) hx hb dX4_foresee_1 (by decide) ?_
  exact z_xcall (fun _ h => h) (vx_runS (As := [.int x, .int 200]) (rest := []) hfix (zcX4_needRounds_b l D cI H hlt B0 hB0 x 200 hx9) (va_cwS 2 hts gX4_foresee_X4_needRounds rfl rfl rfl (by decide +kernel) ⟨Nat.le_of_ble_eq_true rfl, Nat.le_of_ble_eq_true rfl⟩) (z_xpreS hE (fun q _ _ => by rw [hHs]) hK) rfl rfl hl.1 rfl (lv_room (Nat.le_of_ble_eq_true rfl)) dX4_foresee_4 ⟨Nat.le_of_ble_eq_true rfl, Nat.le_of_ble_eq_true rfl⟩) (fun E ce q H1 hP hz hk hce hcv hcl => z_xout (fun _ h => h) hP hz hk hce hcv hcl htab hlocks (Nat.le_of_ble_eq_true rfl) (Nat.le_of_ble_eq_true rfl))
set_option maxHeartbeats 4000000 in
set_option maxRecDepth 100000 in
/-- foresee throws -/
theorem zcX4_foresee_b2 (l : Launch) (D : va_G) (cI : ClassId) (H : Heap) (hlt : l.stackTraces = false) (B0 : Nat) (hB0 : B0 ≤ H.size) (b : Nat) (n : Nat) (me : Nat → Int32) (lo : Nat → Int32) (c : Nat → Nat) (e : Nat → Nat) (rd : Int32) (tk : Int32) (g : zG) (r : Nat) (x : Int32) (hC : zCW D cI b n me lo c e rd tk g H) (hI : zI n me lo c e) (hr1 : 1 ≤ r) (hr2 : r ≤ 200) (hx9 : ¬ ∃ j, j < n ∧ x = nI j) : vx_Met l yX4_foresee wsX4_foresee ({ frames := 7, cells := 1, slots := 6, locals := 103 } : Room) (zPx D [(cI, .int)] H B0 [.ref b, .int (nI r), .int x]) zNo (zX (fun E => E = zIO) H) 1 6 (fun _ => False) := by
  refine z_xenter (cc := cX4_foresee) (maxL := 3) (ret := (some .int)) (by decide) rfl (Nat.le_of_ble_eq_true rfl) ?_
  intro pg ev s m args below meth cd hfix hr hlocks htab hK hHs hE ls hl
  obtain ⟨hx, hb, hml, hown, hts⟩ := id hfix
  have hl : lv_has ls 3 [(0, .ref b), (1, .int (nI r)), (2, .int x)] := hl
  obtain ⟨hJ, hW, hT, ⟨rd1, tk1, g1, hTa⟩, ⟨rd2, tk2, g2, hTb⟩⟩ := id hC
  have hn := zI_n hI
  refine lv_iload_n hx hb dX4_foresee_0 rfl (lv_at hl 1 rfl) ?_
  refine lv_sipush (v := 200) hx hb dX4_foresee_1 (by decide) ?_
  refine z_kv (va_runS (As := [.int (nI r), .int 200]) (rest := []) hfix (zcX4_needRounds l D cI H r 200 (by omega) (by omega) (by omega)) (va_cwS 2 hts gX4_foresee_X4_needRounds rfl rfl rfl (by decide +kernel) ⟨Nat.le_of_ble_eq_true rfl, Nat.le_of_ble_eq_true rfl⟩) (z_preS hK) rfl rfl hl.1 rfl (lv_room (Nat.le_of_ble_eq_true rfl)) dX4_foresee_4 ⟨by omega, by omega⟩) ?_
  refine lv_aload_n hx hb dX4_foresee_7 rfl (lv_at hl 0 rfl) ?_
  refine lv_iload_n hx hb dX4_foresee_8 rfl (lv_at hl 2 rfl) ?_
  exact z_xcall (fun _ h => h) (vx_runV (As := [.int x]) (rest := []) hfix (zcX4_needParrot_b l D cI H hlt B0 hB0 b n me lo c e x hJ hW hI hx9) (cwV 1 hts gX4_foresee_X4_needParrot rfl rfl rfl (by decide +kernel) ⟨Nat.le_of_ble_eq_true rfl, Nat.le_of_ble_eq_true rfl⟩) (z_xpreV hE (fun q _ _ => by rw [hHs]) hK hK hJ (ci := 4) (q0 := 0) rfl rfl rfl) rfl rfl hl.1 rfl (lv_room (Nat.le_of_ble_eq_true rfl)) dX4_foresee_9 ⟨Nat.le_of_ble_eq_true rfl, Nat.le_of_ble_eq_true rfl⟩) (fun E ce q H1 hP hz hk hce hcv hcl => z_xout (fun _ h => h) hP hz hk hce hcv hcl htab hlocks (Nat.le_of_ble_eq_true rfl) (Nat.le_of_ble_eq_true rfl))
set_option maxHeartbeats 4000000 in
set_option maxRecDepth 100000 in
/-- advise throws -/
theorem zcX4_advise_b1 (l : Launch) (D : va_G) (cI : ClassId) (H : Heap) (hlt : l.stackTraces = false) (B0 : Nat) (hB0 : B0 ≤ H.size) (b : Nat) (n : Nat) (me : Nat → Int32) (lo : Nat → Int32) (c : Nat → Nat) (e : Nat → Nat) (rd : Int32) (tk : Int32) (g : zG) (x : Int32) (y : Int32) (hC : zCW D cI b n me lo c e rd tk g H) (hI : zI n me lo c e) (hx9 : x < 0 ∨ ¬ x ≤ 9999) : vx_Met l yX4_advise wsX4_advise ({ frames := 7, cells := 1, slots := 6, locals := 102 } : Room) (zPx D [(cI, .int)] H B0 [.ref b, .int x, .int y]) zNo (zX (fun E => E = zIA) H) 1 6 (fun _ => False) := by
  refine z_xenter (cc := cX4_advise) (maxL := 8) (ret := (some .int)) (by decide) rfl (Nat.le_of_ble_eq_true rfl) ?_
  intro pg ev s m args below meth cd hfix hr hlocks htab hK hHs hE ls hl
  obtain ⟨hx, hb, hml, hown, hts⟩ := id hfix
  have hl : lv_has ls 8 [(0, .ref b), (1, .int x), (2, .int y)] := hl
  obtain ⟨hJ, hW, hT, ⟨rd1, tk1, g1, hTa⟩, ⟨rd2, tk2, g2, hTb⟩⟩ := id hC
  have hn := zI_n hI
  refine lv_iload_n hx hb dX4_advise_0 rfl (lv_at hl 1 rfl) ?_
  exact z_xcall (fun _ h => h) (vx_runS (As := [.int x]) (rest := []) hfix (zcX4_needWord_b l D cI H hlt B0 hB0 x hx9) (va_cwS 1 hts gX4_advise_X4_needWord rfl rfl rfl (by decide +kernel) ⟨Nat.le_of_ble_eq_true rfl, Nat.le_of_ble_eq_true rfl⟩) (z_xpreS hE (fun q _ _ => by rw [hHs]) hK) rfl rfl hl.1 rfl (lv_room (Nat.le_of_ble_eq_true rfl)) dX4_advise_1 ⟨Nat.le_of_ble_eq_true rfl, Nat.le_of_ble_eq_true rfl⟩) (fun E ce q H1 hP hz hk hce hcv hcl => z_xout (fun _ h => h) hP hz hk hce hcv hcl htab hlocks (Nat.le_of_ble_eq_true rfl) (Nat.le_of_ble_eq_true rfl))
set_option maxHeartbeats 4000000 in
set_option maxRecDepth 100000 in
/-- advise throws -/
theorem zcX4_advise_b2 (l : Launch) (D : va_G) (cI : ClassId) (H : Heap) (hlt : l.stackTraces = false) (B0 : Nat) (hB0 : B0 ≤ H.size) (b : Nat) (n : Nat) (me : Nat → Int32) (lo : Nat → Int32) (c : Nat → Nat) (e : Nat → Nat) (rd : Int32) (tk : Int32) (g : zG) (w : Nat) (y : Int32) (hC : zCW D cI b n me lo c e rd tk g H) (hI : zI n me lo c e) (hw : w ≤ 9999) (hx9 : y < 1 ∨ ¬ y ≤ 40) : vx_Met l yX4_advise wsX4_advise ({ frames := 7, cells := 1, slots := 6, locals := 103 } : Room) (zPx D [(cI, .int)] H B0 [.ref b, .int (nI w), .int y]) zNo (zX (fun E => E = zIA) H) 1 6 (fun _ => False) := by
  refine z_xenter (cc := cX4_advise) (maxL := 8) (ret := (some .int)) (by decide) rfl (Nat.le_of_ble_eq_true rfl) ?_
  intro pg ev s m args below meth cd hfix hr hlocks htab hK hHs hE ls hl
  obtain ⟨hx, hb, hml, hown, hts⟩ := id hfix
  have hl : lv_has ls 8 [(0, .ref b), (1, .int (nI w)), (2, .int y)] := hl
  obtain ⟨hJ, hW, hT, ⟨rd1, tk1, g1, hTa⟩, ⟨rd2, tk2, g2, hTb⟩⟩ := id hC
  have hn := zI_n hI
  refine lv_iload_n hx hb dX4_advise_0 rfl (lv_at hl 1 rfl) ?_
  refine z_kv (va_runS (As := [.int (nI w)]) (rest := []) hfix (zcX4_needWord l D cI H w (by omega)) (va_cwS 1 hts gX4_advise_X4_needWord rfl rfl rfl (by decide +kernel) ⟨Nat.le_of_ble_eq_true rfl, Nat.le_of_ble_eq_true rfl⟩) (z_preS hK) rfl rfl hl.1 rfl (lv_room (Nat.le_of_ble_eq_true rfl)) dX4_advise_1 ⟨by omega, by omega⟩) ?_
  refine lv_iload_n hx hb dX4_advise_4 rfl (lv_at hl 2 rfl) ?_
  refine lv_bipush (v := 40) hx hb dX4_advise_5 (by decide) ?_
  exact z_xcall (fun _ h => h) (vx_runS (As := [.int y, .int 40]) (rest := []) hfix (zcX4_needRounds_b l D cI H hlt B0 hB0 y 40 hx9) (va_cwS 2 hts gX4_advise_X4_needRounds rfl rfl rfl (by decide +kernel) ⟨Nat.le_of_ble_eq_true rfl, Nat.le_of_ble_eq_true rfl⟩) (z_xpreS hE (fun q _ _ => by rw [hHs]) hK) rfl rfl hl.1 rfl (lv_room (Nat.le_of_ble_eq_true rfl)) dX4_advise_7 ⟨Nat.le_of_ble_eq_true rfl, Nat.le_of_ble_eq_true rfl⟩) (fun E ce q H1 hP hz hk hce hcv hcl => z_xout (fun _ h => h) hP hz hk hce hcv hcl htab hlocks (Nat.le_of_ble_eq_true rfl) (Nat.le_of_ble_eq_true rfl))
set_option maxHeartbeats 4000000 in
set_option maxRecDepth 100000 in
/-- source throws -/
theorem zcX4_source_b1 (l : Launch) (D : va_G) (cI : ClassId) (H : Heap) (hlt : l.stackTraces = false) (B0 : Nat) (hB0 : B0 ≤ H.size) (b : Nat) (n : Nat) (me : Nat → Int32) (lo : Nat → Int32) (c : Nat → Nat) (e : Nat → Nat) (rd : Int32) (tk : Int32) (g : zG) (x : Int32) (hC : zCW D cI b n me lo c e rd tk g H) (hI : zI n me lo c e) (hx9 : ¬ ∃ j, j < n ∧ x = nI j) : vx_Met l yX4_source wsX4_source ({ frames := 7, cells := 1, slots := 6, locals := 103 } : Room) (zPx D [(cI, .int)] H B0 [.ref b, .int x]) zNo (zX (fun E => E = zIO) H) 1 6 (fun _ => False) := by
  refine z_xenter (cc := cX4_source) (maxL := 4) (ret := (some .int)) (by decide) rfl (Nat.le_of_ble_eq_true rfl) ?_
  intro pg ev s m args below meth cd hfix hr hlocks htab hK hHs hE ls hl
  obtain ⟨hx, hb, hml, hown, hts⟩ := id hfix
  have hl : lv_has ls 4 [(0, .ref b), (1, .int x)] := hl
  obtain ⟨hJ, hW, hT, ⟨rd1, tk1, g1, hTa⟩, ⟨rd2, tk2, g2, hTb⟩⟩ := id hC
  have hn := zI_n hI
  refine lv_aload_n hx hb dX4_source_0 rfl (lv_at hl 0 rfl) ?_
  refine lv_iload_n hx hb dX4_source_1 rfl (lv_at hl 1 rfl) ?_
  exact z_xcall (fun _ h => h) (vx_runV (As := [.int x]) (rest := []) hfix (zcX4_needParrot_b l D cI H hlt B0 hB0 b n me lo c e x hJ hW hI hx9) (cwV 1 hts gX4_source_X4_needParrot rfl rfl rfl (by decide +kernel) ⟨Nat.le_of_ble_eq_true rfl, Nat.le_of_ble_eq_true rfl⟩) (z_xpreV hE (fun q _ _ => by rw [hHs]) hK hK hJ (ci := 4) (q0 := 0) rfl rfl rfl) rfl rfl hl.1 rfl (lv_room (Nat.le_of_ble_eq_true rfl)) dX4_source_2 ⟨Nat.le_of_ble_eq_true rfl, Nat.le_of_ble_eq_true rfl⟩) (fun E ce q H1 hP hz hk hce hcv hcl => z_xout (fun _ h => h) hP hz hk hce hcv hcl htab hlocks (Nat.le_of_ble_eq_true rfl) (Nat.le_of_ble_eq_true rfl))
