set_option maxHeartbeats 4000000 in
set_option maxRecDepth 100000 in
/-- needParrot returns -/
theorem zcX4_needParrot (l : Launch) (D : va_G) (cI : ClassId) (H : Heap) (b : Nat) (n : Nat) (me : Nat → Int32) (lo : Nat → Int32) (c : Nat → Nat) (e : Nat → Nat) (p : Nat) (hJ : va_P D vwCl (zPJ b) H) (hW : va_P D vwCl (zSeats cI (b + 1) n me lo c e) H) (hI : zI n me lo c e) (hp : p < n) : Met l yX4_needParrot wsX4_needParrot ({ frames := 1, cells := 0, slots := 0, locals := 20 } : Room) (zPc D [(cI, .int)] H [.ref b, .int (nI p)]) (zQ none H) 0 0 (fun _ => False) := by
  refine z_enter (cc := cX4_needParrot) (maxL := 2) (ret := none) (by decide) rfl (Nat.le_of_ble_eq_true rfl) ?_
  intro pg ev s m args below meth cd hfix hr hlocks hname hK hHs ls hl
  obtain ⟨hx, hb, hml, hown, hts⟩ := id hfix
  have hl : lv_has ls 2 [(0, .ref b), (1, .int (nI p))] := hl
  have hinX4 : ∀ w ∈ wsX40, w ∈ wsX4_needParrot := by decide +kernel
  have hn := zI_n hI
  refine lv_iload_n hx hb dX4_needParrot_0 rfl (lv_at hl 1 rfl) ?_
  refine lv_if_lt (tgt := 15) hx hb dX4_needParrot_1 (by decide) (fun c1 => ?_) (fun c1 => ?_)
  · have c1 := z_lt (a := p) (b := 0) c1 (by omega) (by omega)
    omega
  · have c1 := z_nlt (a := p) (b := 0) c1 (by omega) (by omega)
    refine lv_iload_n hx hb dX4_needParrot_4 rfl (lv_at hl 1 rfl) ?_
    refine lv_aload_n hx hb dX4_needParrot_5 rfl (lv_at hl 0 rfl) ?_
    refine va_get (D := D) (ci := 4) (v := .ref (b + 1)) (C := RX4) (T := TX4) (N := 4) hx hb hts hinX4 hown hK hJ 0 rfl rfl 0 (by decide) (hts _ (List.mem_of_getElem? (i := 3) rfl)) (fun _ h9 => h9) rfl dX4_needParrot_6 ?_
    refine z_ki (va_runV (As := []) (rest := [.int (nI p)]) hfix (zcX2_size l D cI H (b + 1) n me lo c e hW) (cwV 0 hts gX4_needParrot_X2_size rfl rfl rfl (by decide +kernel) ⟨Nat.le_of_ble_eq_true rfl, Nat.le_of_ble_eq_true rfl⟩) (z_preV hK hK hW (ci := 2) (q0 := 0) rfl rfl rfl) rfl rfl hl.1 rfl (lv_room (Nat.le_of_ble_eq_true rfl)) dX4_needParrot_9 ⟨by omega, by omega⟩) ?_
    refine lv_icmp_lt (tgt := 25) hx hb dX4_needParrot_12 (by decide) (fun c12 => ?_) (fun c12 => ?_)
    · have c12 := z_lt (a := p) (b := n) c12 (by omega) (by omega)
      exact z_vret hx hb hr hlocks dX4_needParrot_25
    · have c12 := z_nlt (a := p) (b := n) c12 (by omega) (by omega)
      omega
set_option maxHeartbeats 4000000 in
set_option maxRecDepth 100000 in
/-- needWhat returns -/
theorem zcX4_needWhat (l : Launch) (D : va_G) (cI : ClassId) (H : Heap) (q : Nat) (w : Nat) (hq : q ≤ w) (hw : w < 100000) : Met l yX4_needWhat wsX4_needWhat ({ frames := 1, cells := 0, slots := 0, locals := 22 } : Room) (zPc D [(cI, .int)] H [.int (nI q), .int (nI w)]) (zQ none H) 0 0 (fun _ => False) := by
  refine z_enter (cc := cX4_needWhat) (maxL := 2) (ret := none) (by decide) rfl (Nat.le_of_ble_eq_true rfl) ?_
  intro pg ev s m args below meth cd hfix hr hlocks hname hK hHs ls hl
  obtain ⟨hx, hb, hml, hown, hts⟩ := id hfix
  have hl : lv_has ls 2 [(0, .int (nI q)), (1, .int (nI w))] := hl
  refine lv_iload_n hx hb dX4_needWhat_0 rfl (lv_at hl 0 rfl) ?_
  refine lv_iconst (v := 0) hx hb dX4_needWhat_1 (by decide) ?_
  refine lv_iload_n hx hb dX4_needWhat_2 rfl (lv_at hl 1 rfl) ?_
  refine z_ki (va_runS (As := [.int (nI q), .int 0, .int (nI w)]) (rest := []) hfix (zcX4_isOutside l D cI H (nI q) 0 (nI w) ) (va_cwS 3 hts gX4_needWhat_X4_isOutside rfl rfl rfl (by decide +kernel) ⟨Nat.le_of_ble_eq_true rfl, Nat.le_of_ble_eq_true rfl⟩) (z_preS hK) rfl rfl hl.1 rfl (lv_room (Nat.le_of_ble_eq_true rfl)) dX4_needWhat_3 ⟨by omega, by omega⟩) ?_
  refine lv_if_eq (tgt := 19) hx hb dX4_needWhat_6 (by decide) (fun c6 => ?_) (fun c6 => ?_)
  · have c6 := zb_0 c6
    exact z_vret hx hb hr hlocks dX4_needWhat_19
  · have c6 := zb_1 c6
    exact absurd c6 (z_out (a := 0) (by omega) hq (by omega))
set_option maxHeartbeats 4000000 in
set_option maxRecDepth 100000 in
/-- needLoud returns -/
theorem zcX4_needLoud (l : Launch) (D : va_G) (cI : ClassId) (H : Heap) (x : Nat) (h1 : 1 ≤ x) (h2 : x ≤ 5) : Met l yX4_needLoud wsX4_needLoud ({ frames := 1, cells := 0, slots := 0, locals := 22 } : Room) (zPc D [(cI, .int)] H [.int (nI x)]) (zQ none H) 0 0 (fun _ => False) := by
  refine z_enter (cc := cX4_needLoud) (maxL := 1) (ret := none) (by decide) rfl (Nat.le_of_ble_eq_true rfl) ?_
  intro pg ev s m args below meth cd hfix hr hlocks hname hK hHs ls hl
  obtain ⟨hx, hb, hml, hown, hts⟩ := id hfix
  have hl : lv_has ls 1 [(0, .int (nI x))] := hl
  refine lv_iload_n hx hb dX4_needLoud_0 rfl (lv_at hl 0 rfl) ?_
  refine lv_iconst (v := 1) hx hb dX4_needLoud_1 (by decide) ?_
  refine lv_iconst (v := 5) hx hb dX4_needLoud_2 (by decide) ?_
  refine z_ki (va_runS (As := [.int (nI x), .int 1, .int 5]) (rest := []) hfix (zcX4_isOutside l D cI H (nI x) 1 5 ) (va_cwS 3 hts gX4_needLoud_X4_isOutside rfl rfl rfl (by decide +kernel) ⟨Nat.le_of_ble_eq_true rfl, Nat.le_of_ble_eq_true rfl⟩) (z_preS hK) rfl rfl hl.1 rfl (lv_room (Nat.le_of_ble_eq_true rfl)) dX4_needLoud_3 ⟨by omega, by omega⟩) ?_
  refine lv_if_eq (tgt := 19) hx hb dX4_needLoud_6 (by decide) (fun c6 => ?_) (fun c6 => ?_)
  · have c6 := zb_0 c6
    exact z_vret hx hb hr hlocks dX4_needLoud_19
  · have c6 := zb_1 c6
    exact absurd c6 (z_out (a := 1) (b := 5) h1 h2 (by omega))
set_option maxHeartbeats 4000000 in
set_option maxRecDepth 100000 in
/-- needWord returns -/
theorem zcX4_needWord (l : Launch) (D : va_G) (cI : ClassId) (H : Heap) (w : Nat) (h2 : w ≤ 9999) : Met l yX4_needWord wsX4_needWord ({ frames := 1, cells := 0, slots := 0, locals := 22 } : Room) (zPc D [(cI, .int)] H [.int (nI w)]) (zQ none H) 0 0 (fun _ => False) := by
  refine z_enter (cc := cX4_needWord) (maxL := 1) (ret := none) (by decide) rfl (Nat.le_of_ble_eq_true rfl) ?_
  intro pg ev s m args below meth cd hfix hr hlocks hname hK hHs ls hl
  obtain ⟨hx, hb, hml, hown, hts⟩ := id hfix
  have hl : lv_has ls 1 [(0, .int (nI w))] := hl
  refine lv_iload_n hx hb dX4_needWord_0 rfl (lv_at hl 0 rfl) ?_
  refine lv_iconst (v := 0) hx hb dX4_needWord_1 (by decide) ?_
  refine lv_sipush (v := 9999) hx hb dX4_needWord_2 (by decide) ?_
  refine z_ki (va_runS (As := [.int (nI w), .int 0, .int 9999]) (rest := []) hfix (zcX4_isOutside l D cI H (nI w) 0 9999 ) (va_cwS 3 hts gX4_needWord_X4_isOutside rfl rfl rfl (by decide +kernel) ⟨Nat.le_of_ble_eq_true rfl, Nat.le_of_ble_eq_true rfl⟩) (z_preS hK) rfl rfl hl.1 rfl (lv_room (Nat.le_of_ble_eq_true rfl)) dX4_needWord_5 ⟨by omega, by omega⟩) ?_
  refine lv_if_eq (tgt := 21) hx hb dX4_needWord_8 (by decide) (fun c8 => ?_) (fun c8 => ?_)
  · have c8 := zb_0 c8
    exact z_vret hx hb hr hlocks dX4_needWord_21
  · have c8 := zb_1 c8
    exact absurd c8 (z_out (a := 0) (b := 9999) (by omega) h2 (by omega))
set_option maxHeartbeats 4000000 in
set_option maxRecDepth 100000 in
/-- needRounds returns -/
theorem zcX4_needRounds (l : Launch) (D : va_G) (cI : ClassId) (H : Heap) (r : Nat) (w : Nat) (h1 : 1 ≤ r) (h2 : r ≤ w) (hw : w < 100000) : Met l yX4_needRounds wsX4_needRounds ({ frames := 1, cells := 0, slots := 0, locals := 22 } : Room) (zPc D [(cI, .int)] H [.int (nI r), .int (nI w)]) (zQ none H) 0 0 (fun _ => False) := by
  refine z_enter (cc := cX4_needRounds) (maxL := 2) (ret := none) (by decide) rfl (Nat.le_of_ble_eq_true rfl) ?_
  intro pg ev s m args below meth cd hfix hr hlocks hname hK hHs ls hl
  obtain ⟨hx, hb, hml, hown, hts⟩ := id hfix
  have hl : lv_has ls 2 [(0, .int (nI r)), (1, .int (nI w))] := hl
  refine lv_iload_n hx hb dX4_needRounds_0 rfl (lv_at hl 0 rfl) ?_
  refine lv_iconst (v := 1) hx hb dX4_needRounds_1 (by decide) ?_
  refine lv_iload_n hx hb dX4_needRounds_2 rfl (lv_at hl 1 rfl) ?_
  refine z_ki (va_runS (As := [.int (nI r), .int 1, .int (nI w)]) (rest := []) hfix (zcX4_isOutside l D cI H (nI r) 1 (nI w) ) (va_cwS 3 hts gX4_needRounds_X4_isOutside rfl rfl rfl (by decide +kernel) ⟨Nat.le_of_ble_eq_true rfl, Nat.le_of_ble_eq_true rfl⟩) (z_preS hK) rfl rfl hl.1 rfl (lv_room (Nat.le_of_ble_eq_true rfl)) dX4_needRounds_3 ⟨by omega, by omega⟩) ?_
  refine lv_if_eq (tgt := 19) hx hb dX4_needRounds_6 (by decide) (fun c6 => ?_) (fun c6 => ?_)
  · have c6 := zb_0 c6
    exact z_vret hx hb hr hlocks dX4_needRounds_19
  · have c6 := zb_1 c6
    exact absurd c6 (z_out (a := 1) h1 h2 (by omega))
