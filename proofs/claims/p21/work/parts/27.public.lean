set_option maxHeartbeats 4000000 in
set_option maxRecDepth 100000 in
/-- come returns -/
theorem zcX4_come_k (l : Launch) (D : va_G) (cI : ClassId) (H : Heap) (b : Nat) (n : Nat) (me : Nat → Int32) (lo : Nat → Int32) (c : Nat → Nat) (e : Nat → Nat) (rd : Int32) (tk : Int32) (g : zG) (m9 : Nat) (x : Nat) (hC : zCW D cI b n me lo c e rd tk g H) (hI : zI n me lo c e) (hm1 : 1 ≤ m9) (hm2 : m9 ≤ 9) (hx1 : 1 ≤ x) (hx2 : x ≤ 5) (hn12 : n < 12) : Met l yX4_come wsX4_come ({ frames := 3, cells := 0, slots := 0, locals := 67 } : Room) (zPc D [(cI, .int)] H [.ref b, .int (nI m9), .int (nI x)]) (zM (fun H1 => zCW D cI b (n + 1) (upd me n (nI m9)) (upd lo n (nI x)) c e rd tk (wh g n 0 0) H1 ∧ H1.size = H.size) (some (.int (nI n))) (zF b (b + 61))) 0 0 (zF b (b + 61)) := by
  refine z_enter (cc := cX4_come) (maxL := 4) (ret := (some .int)) (by decide) rfl (Nat.le_of_ble_eq_true rfl) ?_
  intro pg ev s m args below meth cd hfix hr hlocks hname hK hHs ls hl
  obtain ⟨hx, hb, hml, hown, hts⟩ := id hfix
  have hl : lv_has ls 4 [(0, .ref b), (1, .int (nI m9)), (2, .int (nI x))] := hl
  have hS : va_S (zF b (b + 61)) s.heap H [] := by rw [hHs]; exact va_S.rf
  have hz : H.size = H.size := rfl
  have hinX4 : ∀ w ∈ wsX40, w ∈ wsX4_come := by decide +kernel
  obtain ⟨hJ, hW, hT, ⟨rd1, tk1, g1, hTa⟩, ⟨rd2, tk2, g2, hTb⟩⟩ := id hC
  have hn := zI_n hI
  refine lv_iload_n hx hb dX4_come_0 rfl (lv_at hl 1 rfl) ?_
  refine lv_iconst (v := 1) hx hb dX4_come_1 (by decide) ?_
  refine lv_bipush (v := 9) hx hb dX4_come_2 (by decide) ?_
  refine z_ki (va_runS (As := [.int (nI m9), .int 1, .int 9]) (rest := []) hfix (zcX4_isOutside l D cI H (nI m9) 1 9 ) (va_cwS 3 hts gX4_come_X4_isOutside rfl rfl rfl (by decide +kernel) ⟨Nat.le_of_ble_eq_true rfl, Nat.le_of_ble_eq_true rfl⟩) (z_preS hK) rfl rfl hl.1 rfl (lv_room (Nat.le_of_ble_eq_true rfl)) dX4_come_4 ⟨by omega, by omega⟩) ?_
  refine lv_if_eq (tgt := 20) hx hb dX4_come_7 (by decide) (fun c7 => ?_) (fun c7 => ?_)
  · have c7 := zb_0 c7
    refine lv_iload_n hx hb dX4_come_20 rfl (lv_at hl 2 rfl) ?_
    refine z_kv (va_runS (As := [.int (nI x)]) (rest := []) hfix (zcX4_needLoud l D cI H x (by omega) (by omega)) (va_cwS 1 hts gX4_come_X4_needLoud rfl rfl rfl (by decide +kernel) ⟨Nat.le_of_ble_eq_true rfl, Nat.le_of_ble_eq_true rfl⟩) (z_preS hK) rfl rfl hl.1 rfl (lv_room (Nat.le_of_ble_eq_true rfl)) dX4_come_21 ⟨by omega, by omega⟩) ?_
    refine lv_aload_n hx hb dX4_come_24 rfl (lv_at hl 0 rfl) ?_
    refine va_get (D := D) (ci := 4) (v := .ref (b + 1)) (C := RX4) (T := TX4) (N := 4) hx hb hts hinX4 hown hK hJ 0 rfl rfl 0 (by decide) (hts _ (List.mem_of_getElem? (i := 5) rfl)) (fun _ h9 => h9) rfl dX4_come_25 ?_
    refine z_ki (va_runV (As := []) (rest := []) hfix (zcX2_size l D cI H (b + 1) n me lo c e hW) (cwV 0 hts gX4_come_X2_size rfl rfl rfl (by decide +kernel) ⟨Nat.le_of_ble_eq_true rfl, Nat.le_of_ble_eq_true rfl⟩) (z_preV hK hK hW (ci := 2) (q0 := 0) rfl rfl rfl) rfl rfl hl.1 rfl (lv_room (Nat.le_of_ble_eq_true rfl)) dX4_come_28 ⟨by omega, by omega⟩) ?_
    refine lv_bipush (v := 12) hx hb dX4_come_31 (by decide) ?_
    refine lv_icmp_lt (tgt := 46) hx hb dX4_come_33 (by decide) (fun c33 => ?_) (fun c33 => ?_)
    · have c33 := z_lt (a := n) (b := 12) c33 (by omega) (by omega)
      refine lv_aload_n hx hb dX4_come_46 rfl (lv_at hl 0 rfl) ?_
      refine va_get (D := D) (ci := 4) (v := .ref (b + 1)) (C := RX4) (T := TX4) (N := 4) hx hb hts hinX4 hown hK hJ 0 rfl rfl 0 (by decide) (hts _ (List.mem_of_getElem? (i := 5) rfl)) (fun _ h9 => h9) rfl dX4_come_47 ?_
      refine lv_iload_n hx hb dX4_come_50 rfl (lv_at hl 1 rfl) ?_
      refine lv_iload_n hx hb dX4_come_51 rfl (lv_at hl 2 rfl) ?_
      refine z_mi (va_runV (As := [.int (nI m9), .int (nI x)]) (rest := []) hfix (zcX2_seat l D cI H (b + 1) n me lo c e (nI m9) (nI x) hW (by omega)) (cwV 2 hts gX4_come_X2_seat rfl rfl rfl (by decide +kernel) ⟨Nat.le_of_ble_eq_true rfl, Nat.le_of_ble_eq_true rfl⟩) (z_preV hK hK hW (ci := 2) (q0 := 0) rfl rfl rfl) rfl rfl hl.1 rfl (lv_room (Nat.le_of_ble_eq_true rfl)) dX4_come_52 ⟨by omega, by omega⟩) hS (fun q _ h => by simp only [zF] at h ⊢; omega) (fun q h => by simp only [zF] at h ⊢; omega) (fun H1 lo2 hB hz1 hk1 hS => ?_)
      have hz : H1.size = H.size := (hB.2).trans hz
      have hJ3 := zP_kept hJ (fun q h1 h2 h3 => hk1 q h1 (by simp only [zF]; omega))
      have hW4 : va_P D vwCl (zSeats cI (b + 1) (n + 1) (upd me n (nI m9)) (upd lo n (nI x)) c e) H1 := hB.1
      have hT5 := zT_kept hT (fun q h1 h2 h3 => hk1 q h1 (by simp only [zF]; omega))
      have hTa6 := zT_kept hTa (fun q h1 h2 h3 => hk1 q h1 (by simp only [zF]; omega))
      have hTb7 := zT_kept hTb (fun q h1 h2 h3 => hk1 q h1 (by simp only [zF]; omega))
      refine lv_istore_n (lv' := [(3, .int (nI n)), (0, .ref b), (1, .int (nI m9)), (2, .int (nI x))]) hx hb dX4_come_55 rfl hl (by decide) rfl (fun ls hl => ?_)
      refine lv_aload_n hx hb dX4_come_56 rfl (lv_at hl 1 rfl) ?_
      refine va_get (D := D) (ci := 4) (v := .ref (b + 10)) (C := RX4) (T := TX4) (N := 4) hx hb hts hinX4 hown hK hJ3 0 rfl rfl 1 (by decide) (hts _ (List.mem_of_getElem? (i := 6) rfl)) (fun _ h9 => h9) rfl dX4_come_57 ?_
      refine lv_iload_n hx hb dX4_come_60 rfl (lv_at hl 0 rfl) ?_
      refine lv_iconst (v := 0) hx hb dX4_come_61 (by decide) ?_
      refine lv_iconst (v := 0) hx hb dX4_come_62 (by decide) ?_
      refine z_mv (va_runV (As := [.int (nI n), .int 0, .int 0]) (rest := []) hfix (zcX3_takeFromCourt l D cI H1 (b + 10) rd tk g n 0 0 hT5 (by omega)) (cwV 3 hts gX4_come_X3_takeFromCourt rfl rfl rfl (by decide +kernel) ⟨Nat.le_of_ble_eq_true rfl, Nat.le_of_ble_eq_true rfl⟩) (z_preV hK hK hT5 (ci := 3) (q0 := 0) rfl rfl rfl) rfl rfl hl.1 rfl (lv_room (Nat.le_of_ble_eq_true rfl)) dX4_come_63 ⟨by omega, by omega⟩) hS (fun q _ h => by simp only [zF] at h ⊢; omega) (fun q h => by simp only [zF] at h ⊢; omega) (fun H8 lo9 hB hz1 hk1 hS => ?_)
      have hz : H8.size = H.size := (hB.2).trans hz
      have hJ10 := zP_kept hJ3 (fun q h1 h2 h3 => hk1 q h1 (by simp only [zF]; omega))
      have hW11 := zS_kept hW4 (fun q h1 h2 h3 => hk1 q h1 (by simp only [zF]; omega))
      have hT12 : va_P D vwCl (zTalk cI (b + 10) rd tk (wh g n 0 0)) H8 := hB.1
      have hTa13 := zT_kept hTa6 (fun q h1 h2 h3 => hk1 q h1 (by simp only [zF]; omega))
      have hTb14 := zT_kept hTb7 (fun q h1 h2 h3 => hk1 q h1 (by simp only [zF]; omega))
      refine lv_iload_n hx hb dX4_come_66 rfl (lv_at hl 0 rfl) ?_
      exact z_iretM (⟨⟨hJ10, hW11, hT12, ⟨_, _, _, hTa13⟩, ⟨_, _, _, hTb14⟩⟩, hz⟩) hx hb hr hlocks hS dX4_come_67
    · have c33 := z_nlt (a := n) (b := 12) c33 (by omega) (by omega)
      omega
  · have c7 := zb_1 c7
    exact absurd c7 (z_out (a := 1) (b := 9) hm1 hm2 (by omega))
set_option maxHeartbeats 4000000 in
set_option maxRecDepth 100000 in
/-- raise returns -/
theorem zcX4_raise_k (l : Launch) (D : va_G) (cI : ClassId) (H : Heap) (b : Nat) (n : Nat) (me : Nat → Int32) (lo : Nat → Int32) (c : Nat → Nat) (e : Nat → Nat) (rd : Int32) (tk : Int32) (g : zG) (p : Nat) (x : Nat) (hC : zCW D cI b n me lo c e rd tk g H) (hI : zI n me lo c e) (hp : p < n) (hx1 : 1 ≤ x) (hx2 : x ≤ 5) : Met l yX4_raise wsX4_raise ({ frames := 2, cells := 0, slots := 0, locals := 44 } : Room) (zPc D [(cI, .int)] H [.ref b, .int (nI p), .int (nI x)]) (zM (fun H1 => zCW D cI b n me (upd lo p (nI x)) c e rd tk g H1 ∧ H1.size = H.size) (some (.int (lo p))) (zF b (b + 61))) 0 0 (zF b (b + 61)) := by
  refine z_enter (cc := cX4_raise) (maxL := 4) (ret := (some .int)) (by decide) rfl (Nat.le_of_ble_eq_true rfl) ?_
  intro pg ev s m args below meth cd hfix hr hlocks hname hK hHs ls hl
  obtain ⟨hx, hb, hml, hown, hts⟩ := id hfix
  have hl : lv_has ls 4 [(0, .ref b), (1, .int (nI p)), (2, .int (nI x))] := hl
  have hS : va_S (zF b (b + 61)) s.heap H [] := by rw [hHs]; exact va_S.rf
  have hz : H.size = H.size := rfl
  have hinX4 : ∀ w ∈ wsX40, w ∈ wsX4_raise := by decide +kernel
  obtain ⟨hJ, hW, hT, ⟨rd1, tk1, g1, hTa⟩, ⟨rd2, tk2, g2, hTb⟩⟩ := id hC
  have hn := zI_n hI
  refine lv_aload_n hx hb dX4_raise_0 rfl (lv_at hl 0 rfl) ?_
  refine lv_iload_n hx hb dX4_raise_1 rfl (lv_at hl 1 rfl) ?_
  refine z_kv (va_runV (As := [.int (nI p)]) (rest := []) hfix (zcX4_needParrot l D cI H b n me lo c e p hJ hW hI (by omega)) (cwV 1 hts gX4_raise_X4_needParrot rfl rfl rfl (by decide +kernel) ⟨Nat.le_of_ble_eq_true rfl, Nat.le_of_ble_eq_true rfl⟩) (z_preV hK hK hJ (ci := 4) (q0 := 0) rfl rfl rfl) rfl rfl hl.1 rfl (lv_room (Nat.le_of_ble_eq_true rfl)) dX4_raise_2 ⟨by omega, by omega⟩) ?_
  refine lv_iload_n hx hb dX4_raise_5 rfl (lv_at hl 2 rfl) ?_
  refine z_kv (va_runS (As := [.int (nI x)]) (rest := []) hfix (zcX4_needLoud l D cI H x (by omega) (by omega)) (va_cwS 1 hts gX4_raise_X4_needLoud rfl rfl rfl (by decide +kernel) ⟨Nat.le_of_ble_eq_true rfl, Nat.le_of_ble_eq_true rfl⟩) (z_preS hK) rfl rfl hl.1 rfl (lv_room (Nat.le_of_ble_eq_true rfl)) dX4_raise_6 ⟨by omega, by omega⟩) ?_
  refine lv_aload_n hx hb dX4_raise_9 rfl (lv_at hl 0 rfl) ?_
  refine va_get (D := D) (ci := 4) (v := .ref (b + 1)) (C := RX4) (T := TX4) (N := 4) hx hb hts hinX4 hown hK hJ 0 rfl rfl 0 (by decide) (hts _ (List.mem_of_getElem? (i := 1) rfl)) (fun _ h9 => h9) rfl dX4_raise_10 ?_
  refine lv_iload_n hx hb dX4_raise_13 rfl (lv_at hl 1 rfl) ?_
  refine z_ki (va_runV (As := [.int (nI p)]) (rest := []) hfix (zcX2_loud l D cI H (b + 1) n me lo c e p hW (by omega)) (cwV 1 hts gX4_raise_X2_loud rfl rfl rfl (by decide +kernel) ⟨Nat.le_of_ble_eq_true rfl, Nat.le_of_ble_eq_true rfl⟩) (z_preV hK hK hW (ci := 2) (q0 := 0) rfl rfl rfl) rfl rfl hl.1 rfl (lv_room (Nat.le_of_ble_eq_true rfl)) dX4_raise_14 ⟨by omega, by omega⟩) ?_
  refine lv_istore_n (lv' := [(3, .int (lo p)), (0, .ref b), (1, .int (nI p)), (2, .int (nI x))]) hx hb dX4_raise_17 rfl hl (by decide) rfl (fun ls hl => ?_)
  refine lv_aload_n hx hb dX4_raise_18 rfl (lv_at hl 1 rfl) ?_
  refine va_get (D := D) (ci := 4) (v := .ref (b + 1)) (C := RX4) (T := TX4) (N := 4) hx hb hts hinX4 hown hK hJ 0 rfl rfl 0 (by decide) (hts _ (List.mem_of_getElem? (i := 1) rfl)) (fun _ h9 => h9) rfl dX4_raise_19 ?_
  refine lv_iload_n hx hb dX4_raise_22 rfl (lv_at hl 2 rfl) ?_
  refine lv_iload_n hx hb dX4_raise_23 rfl (lv_at hl 3 rfl) ?_
  refine z_mv (va_runV (As := [.int (nI p), .int (nI x)]) (rest := []) hfix (zcX2_setLoud l D cI H (b + 1) n me lo c e p (nI x) hW (by omega)) (cwV 2 hts gX4_raise_X2_setLoud rfl rfl rfl (by decide +kernel) ⟨Nat.le_of_ble_eq_true rfl, Nat.le_of_ble_eq_true rfl⟩) (z_preV hK hK hW (ci := 2) (q0 := 0) rfl rfl rfl) rfl rfl hl.1 rfl (lv_room (Nat.le_of_ble_eq_true rfl)) dX4_raise_24 ⟨by omega, by omega⟩) hS (fun q _ h => by simp only [zF] at h ⊢; omega) (fun q h => by simp only [zF] at h ⊢; omega) (fun H1 lo2 hB hz1 hk1 hS => ?_)
  have hz : H1.size = H.size := (hB.2).trans hz
  have hJ3 := zP_kept hJ (fun q h1 h2 h3 => hk1 q h1 (by simp only [zF]; omega))
  have hW4 : va_P D vwCl (zSeats cI (b + 1) n me (upd lo p (nI x)) c e) H1 := hB.1
  have hT5 := zT_kept hT (fun q h1 h2 h3 => hk1 q h1 (by simp only [zF]; omega))
  have hTa6 := zT_kept hTa (fun q h1 h2 h3 => hk1 q h1 (by simp only [zF]; omega))
  have hTb7 := zT_kept hTb (fun q h1 h2 h3 => hk1 q h1 (by simp only [zF]; omega))
  refine lv_iload_n hx hb dX4_raise_27 rfl (lv_at hl 0 rfl) ?_
  exact z_iretM (⟨⟨hJ3, hW4, hT5, ⟨_, _, _, hTa6⟩, ⟨_, _, _, hTb7⟩⟩, hz⟩) hx hb hr hlocks hS dX4_raise_28
set_option maxHeartbeats 4000000 in
set_option maxRecDepth 100000 in
/-- whisper returns -/
theorem zcX4_whisper_k (l : Launch) (D : va_G) (cI : ClassId) (H : Heap) (b : Nat) (n : Nat) (me : Nat → Int32) (lo : Nat → Int32) (c : Nat → Nat) (e : Nat → Nat) (rd : Int32) (tk : Int32) (g : zG) (p : Nat) (w : Nat) (z : Nat) (hC : zCW D cI b n me lo c e rd tk g H) (hI : zI n me lo c e) (hp : p < n) (hw : w ≤ 9999) (hz9 : z ≤ 9) : Met l yX4_whisper wsX4_whisper ({ frames := 3, cells := 0, slots := 0, locals := 67 } : Room) (zPc D [(cI, .int)] H [.ref b, .int (nI p), .int (nI w), .int (nI z)]) (zM (fun H1 => zCW D cI b n me lo c e rd tk (wh g p (nI w) (nI z)) H1 ∧ H1.size = H.size) (some (.int (wd g p))) (zF b (b + 61))) 0 0 (zF b (b + 61)) := by
  refine z_enter (cc := cX4_whisper) (maxL := 5) (ret := (some .int)) (by decide) rfl (Nat.le_of_ble_eq_true rfl) ?_
  intro pg ev s m args below meth cd hfix hr hlocks hname hK hHs ls hl
  obtain ⟨hx, hb, hml, hown, hts⟩ := id hfix
  have hl : lv_has ls 5 [(0, .ref b), (1, .int (nI p)), (2, .int (nI w)), (3, .int (nI z))] := hl
  have hS : va_S (zF b (b + 61)) s.heap H [] := by rw [hHs]; exact va_S.rf
  have hz : H.size = H.size := rfl
  have hinX4 : ∀ w ∈ wsX40, w ∈ wsX4_whisper := by decide +kernel
  obtain ⟨hJ, hW, hT, ⟨rd1, tk1, g1, hTa⟩, ⟨rd2, tk2, g2, hTb⟩⟩ := id hC
  have hn := zI_n hI
  refine lv_aload_n hx hb dX4_whisper_0 rfl (lv_at hl 0 rfl) ?_
  refine lv_iload_n hx hb dX4_whisper_1 rfl (lv_at hl 1 rfl) ?_
  refine z_kv (va_runV (As := [.int (nI p)]) (rest := []) hfix (zcX4_needParrot l D cI H b n me lo c e p hJ hW hI (by omega)) (cwV 1 hts gX4_whisper_X4_needParrot rfl rfl rfl (by decide +kernel) ⟨Nat.le_of_ble_eq_true rfl, Nat.le_of_ble_eq_true rfl⟩) (z_preV hK hK hJ (ci := 4) (q0 := 0) rfl rfl rfl) rfl rfl hl.1 rfl (lv_room (Nat.le_of_ble_eq_true rfl)) dX4_whisper_2 ⟨by omega, by omega⟩) ?_
  refine lv_iload_n hx hb dX4_whisper_5 rfl (lv_at hl 2 rfl) ?_
  refine z_kv (va_runS (As := [.int (nI w)]) (rest := []) hfix (zcX4_needWord l D cI H w (by omega)) (va_cwS 1 hts gX4_whisper_X4_needWord rfl rfl rfl (by decide +kernel) ⟨Nat.le_of_ble_eq_true rfl, Nat.le_of_ble_eq_true rfl⟩) (z_preS hK) rfl rfl hl.1 rfl (lv_room (Nat.le_of_ble_eq_true rfl)) dX4_whisper_6 ⟨by omega, by omega⟩) ?_
  refine lv_iload_n hx hb dX4_whisper_9 rfl (lv_at hl 3 rfl) ?_
  refine lv_iconst (v := 0) hx hb dX4_whisper_10 (by decide) ?_
  refine lv_bipush (v := 9) hx hb dX4_whisper_11 (by decide) ?_
  refine z_ki (va_runS (As := [.int (nI z), .int 0, .int 9]) (rest := []) hfix (zcX4_isOutside l D cI H (nI z) 0 9 ) (va_cwS 3 hts gX4_whisper_X4_isOutside rfl rfl rfl (by decide +kernel) ⟨Nat.le_of_ble_eq_true rfl, Nat.le_of_ble_eq_true rfl⟩) (z_preS hK) rfl rfl hl.1 rfl (lv_room (Nat.le_of_ble_eq_true rfl)) dX4_whisper_13 ⟨by omega, by omega⟩) ?_
  refine lv_if_eq (tgt := 29) hx hb dX4_whisper_16 (by decide) (fun c16 => ?_) (fun c16 => ?_)
  · have c16 := zb_0 c16
    refine lv_aload_n hx hb dX4_whisper_29 rfl (lv_at hl 0 rfl) ?_
    refine va_get (D := D) (ci := 4) (v := .ref (b + 10)) (C := RX4) (T := TX4) (N := 4) hx hb hts hinX4 hown hK hJ 0 rfl rfl 1 (by decide) (hts _ (List.mem_of_getElem? (i := 3) rfl)) (fun _ h9 => h9) rfl dX4_whisper_30 ?_
    refine lv_iload_n hx hb dX4_whisper_33 rfl (lv_at hl 1 rfl) ?_
    refine z_ki (va_runV (As := [.int (nI p)]) (rest := []) hfix (zcX3_word l D cI H (b + 10) rd tk g p hT (by omega)) (cwV 1 hts gX4_whisper_X3_word rfl rfl rfl (by decide +kernel) ⟨Nat.le_of_ble_eq_true rfl, Nat.le_of_ble_eq_true rfl⟩) (z_preV hK hK hT (ci := 3) (q0 := 0) rfl rfl rfl) rfl rfl hl.1 rfl (lv_room (Nat.le_of_ble_eq_true rfl)) dX4_whisper_34 ⟨by omega, by omega⟩) ?_
    refine lv_istore (lv' := [(4, .int (wd g p)), (0, .ref b), (1, .int (nI p)), (2, .int (nI w)), (3, .int (nI z))]) hx hb dX4_whisper_37 hl (by decide) rfl (fun ls hl => ?_)
    refine lv_aload_n hx hb dX4_whisper_39 rfl (lv_at hl 1 rfl) ?_
    refine va_get (D := D) (ci := 4) (v := .ref (b + 10)) (C := RX4) (T := TX4) (N := 4) hx hb hts hinX4 hown hK hJ 0 rfl rfl 1 (by decide) (hts _ (List.mem_of_getElem? (i := 3) rfl)) (fun _ h9 => h9) rfl dX4_whisper_40 ?_
    refine lv_iload_n hx hb dX4_whisper_43 rfl (lv_at hl 2 rfl) ?_
    refine lv_iload_n hx hb dX4_whisper_44 rfl (lv_at hl 3 rfl) ?_
    refine lv_iload_n hx hb dX4_whisper_45 rfl (lv_at hl 4 rfl) ?_
    refine z_mv (va_runV (As := [.int (nI p), .int (nI w), .int (nI z)]) (rest := []) hfix (zcX3_takeFromCourt l D cI H (b + 10) rd tk g p (nI w) (nI z) hT (by omega)) (cwV 3 hts gX4_whisper_X3_takeFromCourt rfl rfl rfl (by decide +kernel) ⟨Nat.le_of_ble_eq_true rfl, Nat.le_of_ble_eq_true rfl⟩) (z_preV hK hK hT (ci := 3) (q0 := 0) rfl rfl rfl) rfl rfl hl.1 rfl (lv_room (Nat.le_of_ble_eq_true rfl)) dX4_whisper_46 ⟨by omega, by omega⟩) hS (fun q _ h => by simp only [zF] at h ⊢; omega) (fun q h => by simp only [zF] at h ⊢; omega) (fun H1 lo2 hB hz1 hk1 hS => ?_)
    have hz : H1.size = H.size := (hB.2).trans hz
    have hJ3 := zP_kept hJ (fun q h1 h2 h3 => hk1 q h1 (by simp only [zF]; omega))
    have hW4 := zS_kept hW (fun q h1 h2 h3 => hk1 q h1 (by simp only [zF]; omega))
    have hT5 : va_P D vwCl (zTalk cI (b + 10) rd tk (wh g p (nI w) (nI z))) H1 := hB.1
    have hTa6 := zT_kept hTa (fun q h1 h2 h3 => hk1 q h1 (by simp only [zF]; omega))
    have hTb7 := zT_kept hTb (fun q h1 h2 h3 => hk1 q h1 (by simp only [zF]; omega))
    refine lv_iload hx hb dX4_whisper_49 (lv_at hl 0 rfl) ?_
    exact z_iretM (⟨⟨hJ3, hW4, hT5, ⟨_, _, _, hTa6⟩, ⟨_, _, _, hTb7⟩⟩, hz⟩) hx hb hr hlocks hS dX4_whisper_51
  · have c16 := zb_1 c16
    exact absurd c16 (z_out (a := 0) (b := 9) (by omega) hz9 (by omega))
set_option maxHeartbeats 4000000 in
set_option maxRecDepth 100000 in
/-- listen returns -/
theorem zcX4_listen_ka (l : Launch) (D : va_G) (cI : ClassId) (H : Heap) (b : Nat) (n : Nat) (me : Nat → Int32) (lo : Nat → Int32) (c : Nat → Nat) (e : Nat → Nat) (rd : Int32) (tk : Int32) (g : zG) (p : Nat) (o : Nat) (hC : zCW D cI b n me lo c e rd tk g H) (hI : zI n me lo c e) (hp : p < n) (ho : o < n) (hpo9 : ¬ p = o) (hpn : po e p o (c p) = none) (hc9 : c p < 4) : Met l yX4_listen wsX4_listen ({ frames := 3, cells := 0, slots := 0, locals := 67 } : Room) (zPc D [(cI, .int)] H [.ref b, .int (nI p), .int (nI o)]) (zM (fun H1 => zCW D cI b n me lo (zu c p (c p + 1)) (zu e (p * 4 + c p) o) rd tk g H1 ∧ H1.size = H.size) (some (.int (nI (c p + 1)))) (zF b (b + 61))) 0 0 (zF b (b + 61)) := by
  refine z_enter (cc := cX4_listen) (maxL := 4) (ret := (some .int)) (by decide) rfl (Nat.le_of_ble_eq_true rfl) ?_
  intro pg ev s m args below meth cd hfix hr hlocks hname hK hHs ls hl
  obtain ⟨hx, hb, hml, hown, hts⟩ := id hfix
  have hl : lv_has ls 4 [(0, .ref b), (1, .int (nI p)), (2, .int (nI o))] := hl
  have hS : va_S (zF b (b + 61)) s.heap H [] := by rw [hHs]; exact va_S.rf
  have hz : H.size = H.size := rfl
  have hinX4 : ∀ w ∈ wsX40, w ∈ wsX4_listen := by decide +kernel
  obtain ⟨hJ, hW, hT, ⟨rd1, tk1, g1, hTa⟩, ⟨rd2, tk2, g2, hTb⟩⟩ := id hC
  have hn := zI_n hI
  have hzu : zu c p (c p + 1) p = c p + 1 := by simp [zu]
  refine lv_aload_n hx hb dX4_listen_0 rfl (lv_at hl 0 rfl) ?_
  refine lv_iload_n hx hb dX4_listen_1 rfl (lv_at hl 1 rfl) ?_
  refine z_kv (va_runV (As := [.int (nI p)]) (rest := []) hfix (zcX4_needParrot l D cI H b n me lo c e p hJ hW hI (by omega)) (cwV 1 hts gX4_listen_X4_needParrot rfl rfl rfl (by decide +kernel) ⟨Nat.le_of_ble_eq_true rfl, Nat.le_of_ble_eq_true rfl⟩) (z_preV hK hK hJ (ci := 4) (q0 := 0) rfl rfl rfl) rfl rfl hl.1 rfl (lv_room (Nat.le_of_ble_eq_true rfl)) dX4_listen_2 ⟨by omega, by omega⟩) ?_
  refine lv_aload_n hx hb dX4_listen_5 rfl (lv_at hl 0 rfl) ?_
  refine lv_iload_n hx hb dX4_listen_6 rfl (lv_at hl 2 rfl) ?_
  refine z_kv (va_runV (As := [.int (nI o)]) (rest := []) hfix (zcX4_needParrot l D cI H b n me lo c e o hJ hW hI (by omega)) (cwV 1 hts gX4_listen_X4_needParrot rfl rfl rfl (by decide +kernel) ⟨Nat.le_of_ble_eq_true rfl, Nat.le_of_ble_eq_true rfl⟩) (z_preV hK hK hJ (ci := 4) (q0 := 0) rfl rfl rfl) rfl rfl hl.1 rfl (lv_room (Nat.le_of_ble_eq_true rfl)) dX4_listen_7 ⟨by omega, by omega⟩) ?_
  refine lv_iload_n hx hb dX4_listen_10 rfl (lv_at hl 1 rfl) ?_
  refine lv_iload_n hx hb dX4_listen_11 rfl (lv_at hl 2 rfl) ?_
  refine lv_icmp_ne (tgt := 25) hx hb dX4_listen_12 (by decide) (fun c12 => ?_) (fun c12 => ?_)
  · have c12 := z_ne (a := p) (b := o) c12 (by omega) (by omega)
    refine lv_aload_n hx hb dX4_listen_25 rfl (lv_at hl 0 rfl) ?_
    refine va_get (D := D) (ci := 4) (v := .ref (b + 1)) (C := RX4) (T := TX4) (N := 4) hx hb hts hinX4 hown hK hJ 0 rfl rfl 0 (by decide) (hts _ (List.mem_of_getElem? (i := 5) rfl)) (fun _ h9 => h9) rfl dX4_listen_26 ?_
    refine lv_iload_n hx hb dX4_listen_29 rfl (lv_at hl 1 rfl) ?_
    refine lv_iload_n hx hb dX4_listen_30 rfl (lv_at hl 2 rfl) ?_
    refine z_ki (va_runV (As := [.int (nI p), .int (nI o)]) (rest := []) hfix (zcX2_placeOf l D cI H (b + 1) n me lo c e p o hW hI (by omega) (by omega)) (cwV 2 hts gX4_listen_X2_placeOf rfl rfl rfl (by decide +kernel) ⟨Nat.le_of_ble_eq_true rfl, Nat.le_of_ble_eq_true rfl⟩) (z_preV hK hK hW (ci := 2) (q0 := 0) rfl rfl rfl) rfl rfl hl.1 rfl (lv_room (Nat.le_of_ble_eq_true rfl)) dX4_listen_31 ⟨by omega, by omega⟩) ?_
    refine lv_istore_n (lv' := [(3, .int (zo (po e p o (c p)))), (0, .ref b), (1, .int (nI p)), (2, .int (nI o))]) hx hb dX4_listen_34 rfl hl (by decide) rfl (fun ls hl => ?_)
    refine lv_iload_n hx hb dX4_listen_35 rfl (lv_at hl 0 rfl) ?_
    refine lv_iconst (v := (-1)) hx hb dX4_listen_36 (by decide) ?_
    refine lv_icmp_eq (tgt := 52) hx hb dX4_listen_37 (by decide) (fun c37 => ?_) (fun c37 => ?_)
    · refine lv_aload_n hx hb dX4_listen_52 rfl (lv_at hl 1 rfl) ?_
      refine va_get (D := D) (ci := 4) (v := .ref (b + 1)) (C := RX4) (T := TX4) (N := 4) hx hb hts hinX4 hown hK hJ 0 rfl rfl 0 (by decide) (hts _ (List.mem_of_getElem? (i := 5) rfl)) (fun _ h9 => h9) rfl dX4_listen_53 ?_
      refine lv_iload_n hx hb dX4_listen_56 rfl (lv_at hl 2 rfl) ?_
      refine z_ki (va_runV (As := [.int (nI p)]) (rest := []) hfix (zcX2_listening l D cI H (b + 1) n me lo c e p hW (by omega)) (cwV 1 hts gX4_listen_X2_listening rfl rfl rfl (by decide +kernel) ⟨Nat.le_of_ble_eq_true rfl, Nat.le_of_ble_eq_true rfl⟩) (z_preV hK hK hW (ci := 2) (q0 := 0) rfl rfl rfl) rfl rfl hl.1 rfl (lv_room (Nat.le_of_ble_eq_true rfl)) dX4_listen_57 ⟨by omega, by omega⟩) ?_
      refine lv_iconst (v := 4) hx hb dX4_listen_60 (by decide) ?_
      refine lv_icmp_lt (tgt := 74) hx hb dX4_listen_61 (by decide) (fun c61 => ?_) (fun c61 => ?_)
      · have c61 := z_lt (a := c p) (b := 4) c61 (by omega) (by omega)
        refine lv_aload_n hx hb dX4_listen_74 rfl (lv_at hl 1 rfl) ?_
        refine va_get (D := D) (ci := 4) (v := .ref (b + 1)) (C := RX4) (T := TX4) (N := 4) hx hb hts hinX4 hown hK hJ 0 rfl rfl 0 (by decide) (hts _ (List.mem_of_getElem? (i := 5) rfl)) (fun _ h9 => h9) rfl dX4_listen_75 ?_
        refine lv_iload_n hx hb dX4_listen_78 rfl (lv_at hl 2 rfl) ?_
        refine lv_iload_n hx hb dX4_listen_79 rfl (lv_at hl 3 rfl) ?_
        refine z_mv (va_runV (As := [.int (nI p), .int (nI o)]) (rest := []) hfix (zcX2_addOther l D cI H (b + 1) n me lo c e p o hW (by omega) (by omega)) (cwV 2 hts gX4_listen_X2_addOther rfl rfl rfl (by decide +kernel) ⟨Nat.le_of_ble_eq_true rfl, Nat.le_of_ble_eq_true rfl⟩) (z_preV hK hK hW (ci := 2) (q0 := 0) rfl rfl rfl) rfl rfl hl.1 rfl (lv_room (Nat.le_of_ble_eq_true rfl)) dX4_listen_80 ⟨by omega, by omega⟩) hS (fun q _ h => by simp only [zF] at h ⊢; omega) (fun q h => by simp only [zF] at h ⊢; omega) (fun H1 lo2 hB hz1 hk1 hS => ?_)
        have hz : H1.size = H.size := (hB.2).trans hz
        have hJ3 := zP_kept hJ (fun q h1 h2 h3 => hk1 q h1 (by simp only [zF]; omega))
        have hW4 : va_P D vwCl (zSeats cI (b + 1) n me lo (zu c p (c p + 1)) (zu e (p * 4 + c p) o)) H1 := hB.1
        have hT5 := zT_kept hT (fun q h1 h2 h3 => hk1 q h1 (by simp only [zF]; omega))
        have hTa6 := zT_kept hTa (fun q h1 h2 h3 => hk1 q h1 (by simp only [zF]; omega))
        have hTb7 := zT_kept hTb (fun q h1 h2 h3 => hk1 q h1 (by simp only [zF]; omega))
        refine lv_aload_n hx hb dX4_listen_83 rfl (lv_at hl 1 rfl) ?_
        refine va_get (D := D) (ci := 4) (v := .ref (b + 1)) (C := RX4) (T := TX4) (N := 4) hx hb hts hinX4 hown hK hJ3 0 rfl rfl 0 (by decide) (hts _ (List.mem_of_getElem? (i := 5) rfl)) (fun _ h9 => h9) rfl dX4_listen_84 ?_
        refine lv_iload_n hx hb dX4_listen_87 rfl (lv_at hl 2 rfl) ?_
        refine z_ki (va_runV (As := [.int (nI p)]) (rest := []) hfix (zcX2_listening l D cI H1 (b + 1) n me lo (zu c p (c p + 1)) (zu e (p * 4 + c p) o) p hW4 (by omega)) (cwV 1 hts gX4_listen_X2_listening rfl rfl rfl (by decide +kernel) ⟨Nat.le_of_ble_eq_true rfl, Nat.le_of_ble_eq_true rfl⟩) (z_preV hK hK hW4 (ci := 2) (q0 := 0) rfl rfl rfl) rfl rfl hl.1 rfl (lv_room (Nat.le_of_ble_eq_true rfl)) dX4_listen_88 ⟨by omega, by omega⟩) ?_
        refine z_toi (y := (nI (c p + 1))) (by rw [hzu]) ?_
        exact z_iretM (⟨⟨hJ3, hW4, hT5, ⟨_, _, _, hTa6⟩, ⟨_, _, _, hTb7⟩⟩, hz⟩) hx hb hr hlocks hS dX4_listen_91
      · have c61 := z_nlt (a := c p) (b := 4) c61 (by omega) (by omega)
        omega
    · exact absurd (by rw [hpn]; rfl) c37
  · have c12 := z_eq (a := p) (b := o) c12 (by omega) (by omega)
    exact absurd c12 hpo9
set_option maxHeartbeats 4000000 in
set_option maxRecDepth 100000 in
/-- listen returns -/
theorem zcX4_listen_kd (l : Launch) (D : va_G) (cI : ClassId) (H : Heap) (b : Nat) (n : Nat) (me : Nat → Int32) (lo : Nat → Int32) (c : Nat → Nat) (e : Nat → Nat) (rd : Int32) (tk : Int32) (g : zG) (p : Nat) (o : Nat) (k : Nat) (hC : zCW D cI b n me lo c e rd tk g H) (hI : zI n me lo c e) (hp : p < n) (ho : o < n) (hpo9 : ¬ p = o) (hpn : po e p o (c p) = some k) : Met l yX4_listen wsX4_listen ({ frames := 3, cells := 0, slots := 0, locals := 67 } : Room) (zPc D [(cI, .int)] H [.ref b, .int (nI p), .int (nI o)]) (zM (fun H1 => zCW D cI b n me lo (zu c p (c p - 1)) (zdr e p k (c p - 1)) rd tk g H1 ∧ H1.size = H.size) (some (.int (nI (c p - 1)))) (zF b (b + 61))) 0 0 (zF b (b + 61)) := by
  refine z_enter (cc := cX4_listen) (maxL := 4) (ret := (some .int)) (by decide) rfl (Nat.le_of_ble_eq_true rfl) ?_
  intro pg ev s m args below meth cd hfix hr hlocks hname hK hHs ls hl
  obtain ⟨hx, hb, hml, hown, hts⟩ := id hfix
  have hl : lv_has ls 4 [(0, .ref b), (1, .int (nI p)), (2, .int (nI o))] := hl
  have hS : va_S (zF b (b + 61)) s.heap H [] := by rw [hHs]; exact va_S.rf
  have hz : H.size = H.size := rfl
  have hinX4 : ∀ w ∈ wsX40, w ∈ wsX4_listen := by decide +kernel
  obtain ⟨hJ, hW, hT, ⟨rd1, tk1, g1, hTa⟩, ⟨rd2, tk2, g2, hTb⟩⟩ := id hC
  have hn := zI_n hI
  have hzu : zu c p (c p - 1) p = c p - 1 := by simp [zu]
  have hkc := (zd_po_lt hpn).1
  have hc4 := zI_c hI p
  refine lv_aload_n hx hb dX4_listen_0 rfl (lv_at hl 0 rfl) ?_
  refine lv_iload_n hx hb dX4_listen_1 rfl (lv_at hl 1 rfl) ?_
  refine z_kv (va_runV (As := [.int (nI p)]) (rest := []) hfix (zcX4_needParrot l D cI H b n me lo c e p hJ hW hI (by omega)) (cwV 1 hts gX4_listen_X4_needParrot rfl rfl rfl (by decide +kernel) ⟨Nat.le_of_ble_eq_true rfl, Nat.le_of_ble_eq_true rfl⟩) (z_preV hK hK hJ (ci := 4) (q0 := 0) rfl rfl rfl) rfl rfl hl.1 rfl (lv_room (Nat.le_of_ble_eq_true rfl)) dX4_listen_2 ⟨by omega, by omega⟩) ?_
  refine lv_aload_n hx hb dX4_listen_5 rfl (lv_at hl 0 rfl) ?_
  refine lv_iload_n hx hb dX4_listen_6 rfl (lv_at hl 2 rfl) ?_
  refine z_kv (va_runV (As := [.int (nI o)]) (rest := []) hfix (zcX4_needParrot l D cI H b n me lo c e o hJ hW hI (by omega)) (cwV 1 hts gX4_listen_X4_needParrot rfl rfl rfl (by decide +kernel) ⟨Nat.le_of_ble_eq_true rfl, Nat.le_of_ble_eq_true rfl⟩) (z_preV hK hK hJ (ci := 4) (q0 := 0) rfl rfl rfl) rfl rfl hl.1 rfl (lv_room (Nat.le_of_ble_eq_true rfl)) dX4_listen_7 ⟨by omega, by omega⟩) ?_
  refine lv_iload_n hx hb dX4_listen_10 rfl (lv_at hl 1 rfl) ?_
  refine lv_iload_n hx hb dX4_listen_11 rfl (lv_at hl 2 rfl) ?_
  refine lv_icmp_ne (tgt := 25) hx hb dX4_listen_12 (by decide) (fun c12 => ?_) (fun c12 => ?_)
  · have c12 := z_ne (a := p) (b := o) c12 (by omega) (by omega)
    refine lv_aload_n hx hb dX4_listen_25 rfl (lv_at hl 0 rfl) ?_
    refine va_get (D := D) (ci := 4) (v := .ref (b + 1)) (C := RX4) (T := TX4) (N := 4) hx hb hts hinX4 hown hK hJ 0 rfl rfl 0 (by decide) (hts _ (List.mem_of_getElem? (i := 5) rfl)) (fun _ h9 => h9) rfl dX4_listen_26 ?_
    refine lv_iload_n hx hb dX4_listen_29 rfl (lv_at hl 1 rfl) ?_
    refine lv_iload_n hx hb dX4_listen_30 rfl (lv_at hl 2 rfl) ?_
    refine z_ki (va_runV (As := [.int (nI p), .int (nI o)]) (rest := []) hfix (zcX2_placeOf l D cI H (b + 1) n me lo c e p o hW hI (by omega) (by omega)) (cwV 2 hts gX4_listen_X2_placeOf rfl rfl rfl (by decide +kernel) ⟨Nat.le_of_ble_eq_true rfl, Nat.le_of_ble_eq_true rfl⟩) (z_preV hK hK hW (ci := 2) (q0 := 0) rfl rfl rfl) rfl rfl hl.1 rfl (lv_room (Nat.le_of_ble_eq_true rfl)) dX4_listen_31 ⟨by omega, by omega⟩) ?_
    refine lv_istore_n (lv' := [(3, .int (zo (po e p o (c p)))), (0, .ref b), (1, .int (nI p)), (2, .int (nI o))]) hx hb dX4_listen_34 rfl hl (by decide) rfl (fun ls hl => ?_)
    refine lv_iload_n hx hb dX4_listen_35 rfl (lv_at hl 0 rfl) ?_
    refine lv_iconst (v := (-1)) hx hb dX4_listen_36 (by decide) ?_
    refine lv_icmp_eq (tgt := 52) hx hb dX4_listen_37 (by decide) (fun c37 => ?_) (fun c37 => ?_)
    · exact absurd ((zo_m1 (fun q hq => by have h1 := (zd_po_lt hq).1; omega)).mp c37) (by rw [hpn]; exact fun h => by cases h)
    · refine lv_aload_n hx hb dX4_listen_40 rfl (lv_at hl 1 rfl) ?_
      refine va_get (D := D) (ci := 4) (v := .ref (b + 1)) (C := RX4) (T := TX4) (N := 4) hx hb hts hinX4 hown hK hJ 0 rfl rfl 0 (by decide) (hts _ (List.mem_of_getElem? (i := 5) rfl)) (fun _ h9 => h9) rfl dX4_listen_41 ?_
      refine lv_iload_n hx hb dX4_listen_44 rfl (lv_at hl 2 rfl) ?_
      refine lv_iload_n hx hb dX4_listen_45 rfl (lv_at hl 0 rfl) ?_
      refine z_toi (y := nI k) (by rw [hpn]; rfl) ?_
      refine z_mv (va_runV (As := [.int (nI p), .int (nI k)]) (rest := []) hfix (zcX2_dropOther l D cI H (b + 1) n me lo c e p k hW (by omega) (by omega) (by omega)) (cwV 2 hts gX4_listen_X2_dropOther rfl rfl rfl (by decide +kernel) ⟨Nat.le_of_ble_eq_true rfl, Nat.le_of_ble_eq_true rfl⟩) (z_preV hK hK hW (ci := 2) (q0 := 0) rfl rfl rfl) rfl rfl hl.1 rfl (lv_room (Nat.le_of_ble_eq_true rfl)) dX4_listen_46 ⟨by omega, by omega⟩) hS (fun q _ h => by simp only [zF] at h ⊢; omega) (fun q h => by simp only [zF] at h ⊢; omega) (fun H1 lo2 hB hz1 hk1 hS => ?_)
      have hz : H1.size = H.size := (hB.2).trans hz
      have hJ3 := zP_kept hJ (fun q h1 h2 h3 => hk1 q h1 (by simp only [zF]; omega))
      have hW4 : va_P D vwCl (zSeats cI (b + 1) n me lo (zu c p (c p - 1)) (zdr e p k (c p - 1))) H1 := hB.1
      have hT5 := zT_kept hT (fun q h1 h2 h3 => hk1 q h1 (by simp only [zF]; omega))
      have hTa6 := zT_kept hTa (fun q h1 h2 h3 => hk1 q h1 (by simp only [zF]; omega))
      have hTb7 := zT_kept hTb (fun q h1 h2 h3 => hk1 q h1 (by simp only [zF]; omega))
      refine lv_goto (tgt := 83) hx hb dX4_listen_49 (by decide) ?_
      refine lv_aload_n hx hb dX4_listen_83 rfl (lv_at hl 1 rfl) ?_
      refine va_get (D := D) (ci := 4) (v := .ref (b + 1)) (C := RX4) (T := TX4) (N := 4) hx hb hts hinX4 hown hK hJ3 0 rfl rfl 0 (by decide) (hts _ (List.mem_of_getElem? (i := 5) rfl)) (fun _ h9 => h9) rfl dX4_listen_84 ?_
      refine lv_iload_n hx hb dX4_listen_87 rfl (lv_at hl 2 rfl) ?_
      refine z_ki (va_runV (As := [.int (nI p)]) (rest := []) hfix (zcX2_listening l D cI H1 (b + 1) n me lo (zu c p (c p - 1)) (zdr e p k (c p - 1)) p hW4 (by omega)) (cwV 1 hts gX4_listen_X2_listening rfl rfl rfl (by decide +kernel) ⟨Nat.le_of_ble_eq_true rfl, Nat.le_of_ble_eq_true rfl⟩) (z_preV hK hK hW4 (ci := 2) (q0 := 0) rfl rfl rfl) rfl rfl hl.1 rfl (lv_room (Nat.le_of_ble_eq_true rfl)) dX4_listen_88 ⟨by omega, by omega⟩) ?_
      refine z_toi (y := (nI (c p - 1))) (by rw [hzu]) ?_
      exact z_iretM (⟨⟨hJ3, hW4, hT5, ⟨_, _, _, hTa6⟩, ⟨_, _, _, hTb7⟩⟩, hz⟩) hx hb hr hlocks hS dX4_listen_91
  · have c12 := z_eq (a := p) (b := o) c12 (by omega) (by omega)
    exact absurd c12 hpo9
set_option maxHeartbeats 4000000 in
set_option maxRecDepth 100000 in
/-- parrot returns -/
theorem zcX4_parrot_k (l : Launch) (D : va_G) (cI : ClassId) (H : Heap) (b : Nat) (n : Nat) (me : Nat → Int32) (lo : Nat → Int32) (c : Nat → Nat) (e : Nat → Nat) (rd : Int32) (tk : Int32) (g : zG) (p : Nat) (q : Nat) (hC : zCW D cI b n me lo c e rd tk g H) (hI : zI n me lo c e) (hp : p < n) (hq : q ≤ 6) : Met l yX4_parrot wsX4_parrot ({ frames := 5, cells := 0, slots := 0, locals := 112 } : Room) (zPc D [(cI, .int)] H [.ref b, .int (nI p), .int (nI q)]) (zQ (some (.int (tp n g me lo c e p q))) H) 0 0 (fun _ => False) := by
  refine z_enter (cc := cX4_parrot) (maxL := 3) (ret := (some .int)) (by decide) rfl (Nat.le_of_ble_eq_true rfl) ?_
  intro pg ev s m args below meth cd hfix hr hlocks hname hK hHs ls hl
  obtain ⟨hx, hb, hml, hown, hts⟩ := id hfix
  have hl : lv_has ls 3 [(0, .ref b), (1, .int (nI p)), (2, .int (nI q))] := hl
  obtain ⟨hJ, hW, hT, ⟨rd1, tk1, g1, hTa⟩, ⟨rd2, tk2, g2, hTb⟩⟩ := id hC
  have hn := zI_n hI
  refine lv_aload_n hx hb dX4_parrot_0 rfl (lv_at hl 0 rfl) ?_
  refine lv_iload_n hx hb dX4_parrot_1 rfl (lv_at hl 1 rfl) ?_
  refine z_kv (va_runV (As := [.int (nI p)]) (rest := []) hfix (zcX4_needParrot l D cI H b n me lo c e p hJ hW hI (by omega)) (cwV 1 hts gX4_parrot_X4_needParrot rfl rfl rfl (by decide +kernel) ⟨Nat.le_of_ble_eq_true rfl, Nat.le_of_ble_eq_true rfl⟩) (z_preV hK hK hJ (ci := 4) (q0 := 0) rfl rfl rfl) rfl rfl hl.1 rfl (lv_room (Nat.le_of_ble_eq_true rfl)) dX4_parrot_2 ⟨by omega, by omega⟩) ?_
  refine lv_iload_n hx hb dX4_parrot_5 rfl (lv_at hl 2 rfl) ?_
  refine lv_bipush (v := 6) hx hb dX4_parrot_6 (by decide) ?_
  refine z_kv (va_runS (As := [.int (nI q), .int 6]) (rest := []) hfix (zcX4_needWhat l D cI H q 6 (by omega) (by omega)) (va_cwS 2 hts gX4_parrot_X4_needWhat rfl rfl rfl (by decide +kernel) ⟨Nat.le_of_ble_eq_true rfl, Nat.le_of_ble_eq_true rfl⟩) (z_preS hK) rfl rfl hl.1 rfl (lv_room (Nat.le_of_ble_eq_true rfl)) dX4_parrot_8 ⟨by omega, by omega⟩) ?_
  refine lv_aload_n hx hb dX4_parrot_11 rfl (lv_at hl 0 rfl) ?_
  refine lv_iload_n hx hb dX4_parrot_12 rfl (lv_at hl 1 rfl) ?_
  refine lv_iload_n hx hb dX4_parrot_13 rfl (lv_at hl 2 rfl) ?_
  refine z_ki (va_runV (As := [.int (nI p), .int (nI q)]) (rest := []) hfix (zcX4_tellOfParrot l D cI H b n me lo c e rd tk g p q hJ hW hT hI (by omega) (by omega)) (cwV 2 hts gX4_parrot_X4_tellOfParrot rfl rfl rfl (by decide +kernel) ⟨Nat.le_of_ble_eq_true rfl, Nat.le_of_ble_eq_true rfl⟩) (z_preV hK hK hJ (ci := 4) (q0 := 0) rfl rfl rfl) rfl rfl hl.1 rfl (lv_room (Nat.le_of_ble_eq_true rfl)) dX4_parrot_14 ⟨by omega, by omega⟩) ?_
  exact z_iret hx hb hr hlocks dX4_parrot_17
set_option maxHeartbeats 4000000 in
set_option maxRecDepth 100000 in
/-- half returns -/
theorem zcX4_half_k0 (l : Launch) (D : va_G) (cI : ClassId) (H : Heap) (b : Nat) (n : Nat) (me : Nat → Int32) (lo : Nat → Int32) (c : Nat → Nat) (e : Nat → Nat) (rd : Int32) (tk : Int32) (g : zG) (p : Nat) (q : Nat) (hC : zCW D cI b n me lo c e rd tk g H) (hI : zI n me lo c e) (hp : p < n) (hq : q ≤ 2) : Met l yX4_half wsX4_half ({ frames := 3, cells := 0, slots := 0, locals := 66 } : Room) (zPc D [(cI, .int)] H [.ref b, .int (nI p), .int 0, .int (nI q)]) (zQ (some (.int (th g p 0 q))) H) 0 0 (fun _ => False) := by
  refine z_enter (cc := cX4_half) (maxL := 4) (ret := (some .int)) (by decide) rfl (Nat.le_of_ble_eq_true rfl) ?_
  intro pg ev s m args below meth cd hfix hr hlocks hname hK hHs ls hl
  obtain ⟨hx, hb, hml, hown, hts⟩ := id hfix
  have hl : lv_has ls 4 [(0, .ref b), (1, .int (nI p)), (2, .int 0), (3, .int (nI q))] := hl
  obtain ⟨hJ, hW, hT, ⟨rd1, tk1, g1, hTa⟩, ⟨rd2, tk2, g2, hTb⟩⟩ := id hC
  have hn := zI_n hI
  refine lv_aload_n hx hb dX4_half_0 rfl (lv_at hl 0 rfl) ?_
  refine lv_iload_n hx hb dX4_half_1 rfl (lv_at hl 1 rfl) ?_
  refine z_kv (va_runV (As := [.int (nI p)]) (rest := []) hfix (zcX4_needParrot l D cI H b n me lo c e p hJ hW hI (by omega)) (cwV 1 hts gX4_half_X4_needParrot rfl rfl rfl (by decide +kernel) ⟨Nat.le_of_ble_eq_true rfl, Nat.le_of_ble_eq_true rfl⟩) (z_preV hK hK hJ (ci := 4) (q0 := 0) rfl rfl rfl) rfl rfl hl.1 rfl (lv_room (Nat.le_of_ble_eq_true rfl)) dX4_half_2 ⟨by omega, by omega⟩) ?_
  refine lv_iload_n hx hb dX4_half_5 rfl (lv_at hl 3 rfl) ?_
  refine lv_iconst (v := 2) hx hb dX4_half_6 (by decide) ?_
  refine z_kv (va_runS (As := [.int (nI q), .int 2]) (rest := []) hfix (zcX4_needWhat l D cI H q 2 (by omega) (by omega)) (va_cwS 2 hts gX4_half_X4_needWhat rfl rfl rfl (by decide +kernel) ⟨Nat.le_of_ble_eq_true rfl, Nat.le_of_ble_eq_true rfl⟩) (z_preS hK) rfl rfl hl.1 rfl (lv_room (Nat.le_of_ble_eq_true rfl)) dX4_half_7 ⟨by omega, by omega⟩) ?_
  refine lv_aload_n hx hb dX4_half_10 rfl (lv_at hl 0 rfl) ?_
  refine lv_iload_n hx hb dX4_half_11 rfl (lv_at hl 1 rfl) ?_
  refine lv_iload_n hx hb dX4_half_12 rfl (lv_at hl 2 rfl) ?_
  refine lv_iload_n hx hb dX4_half_13 rfl (lv_at hl 3 rfl) ?_
  refine z_ki (va_runV (As := [.int (nI p), .int 0, .int (nI q)]) (rest := []) hfix (zcX4_tellOfHalf_0 l D cI H b n me lo c e rd tk g p q hJ hW hT hI (by omega) (by omega)) (cwV 3 hts gX4_half_X4_tellOfHalf rfl rfl rfl (by decide +kernel) ⟨Nat.le_of_ble_eq_true rfl, Nat.le_of_ble_eq_true rfl⟩) (z_preV hK hK hJ (ci := 4) (q0 := 0) rfl rfl rfl) rfl rfl hl.1 rfl (lv_room (Nat.le_of_ble_eq_true rfl)) dX4_half_14 ⟨by omega, by omega⟩) ?_
  exact z_iret hx hb hr hlocks dX4_half_17
set_option maxHeartbeats 4000000 in
set_option maxRecDepth 100000 in
/-- half returns -/
theorem zcX4_half_k1 (l : Launch) (D : va_G) (cI : ClassId) (H : Heap) (b : Nat) (n : Nat) (me : Nat → Int32) (lo : Nat → Int32) (c : Nat → Nat) (e : Nat → Nat) (rd : Int32) (tk : Int32) (g : zG) (p : Nat) (q : Nat) (hC : zCW D cI b n me lo c e rd tk g H) (hI : zI n me lo c e) (hp : p < n) (hq : q ≤ 2) : Met l yX4_half wsX4_half ({ frames := 3, cells := 0, slots := 0, locals := 66 } : Room) (zPc D [(cI, .int)] H [.ref b, .int (nI p), .int 1, .int (nI q)]) (zQ (some (.int (th g p 1 q))) H) 0 0 (fun _ => False) := by
  refine z_enter (cc := cX4_half) (maxL := 4) (ret := (some .int)) (by decide) rfl (Nat.le_of_ble_eq_true rfl) ?_
  intro pg ev s m args below meth cd hfix hr hlocks hname hK hHs ls hl
  obtain ⟨hx, hb, hml, hown, hts⟩ := id hfix
  have hl : lv_has ls 4 [(0, .ref b), (1, .int (nI p)), (2, .int 1), (3, .int (nI q))] := hl
  obtain ⟨hJ, hW, hT, ⟨rd1, tk1, g1, hTa⟩, ⟨rd2, tk2, g2, hTb⟩⟩ := id hC
  have hn := zI_n hI
  refine lv_aload_n hx hb dX4_half_0 rfl (lv_at hl 0 rfl) ?_
  refine lv_iload_n hx hb dX4_half_1 rfl (lv_at hl 1 rfl) ?_
  refine z_kv (va_runV (As := [.int (nI p)]) (rest := []) hfix (zcX4_needParrot l D cI H b n me lo c e p hJ hW hI (by omega)) (cwV 1 hts gX4_half_X4_needParrot rfl rfl rfl (by decide +kernel) ⟨Nat.le_of_ble_eq_true rfl, Nat.le_of_ble_eq_true rfl⟩) (z_preV hK hK hJ (ci := 4) (q0 := 0) rfl rfl rfl) rfl rfl hl.1 rfl (lv_room (Nat.le_of_ble_eq_true rfl)) dX4_half_2 ⟨by omega, by omega⟩) ?_
  refine lv_iload_n hx hb dX4_half_5 rfl (lv_at hl 3 rfl) ?_
  refine lv_iconst (v := 2) hx hb dX4_half_6 (by decide) ?_
  refine z_kv (va_runS (As := [.int (nI q), .int 2]) (rest := []) hfix (zcX4_needWhat l D cI H q 2 (by omega) (by omega)) (va_cwS 2 hts gX4_half_X4_needWhat rfl rfl rfl (by decide +kernel) ⟨Nat.le_of_ble_eq_true rfl, Nat.le_of_ble_eq_true rfl⟩) (z_preS hK) rfl rfl hl.1 rfl (lv_room (Nat.le_of_ble_eq_true rfl)) dX4_half_7 ⟨by omega, by omega⟩) ?_
  refine lv_aload_n hx hb dX4_half_10 rfl (lv_at hl 0 rfl) ?_
  refine lv_iload_n hx hb dX4_half_11 rfl (lv_at hl 1 rfl) ?_
  refine lv_iload_n hx hb dX4_half_12 rfl (lv_at hl 2 rfl) ?_
  refine lv_iload_n hx hb dX4_half_13 rfl (lv_at hl 3 rfl) ?_
  refine z_ki (va_runV (As := [.int (nI p), .int 1, .int (nI q)]) (rest := []) hfix (zcX4_tellOfHalf_1 l D cI H b n me lo c e rd tk g p q hJ hW hT hI (by omega) (by omega)) (cwV 3 hts gX4_half_X4_tellOfHalf rfl rfl rfl (by decide +kernel) ⟨Nat.le_of_ble_eq_true rfl, Nat.le_of_ble_eq_true rfl⟩) (z_preV hK hK hJ (ci := 4) (q0 := 0) rfl rfl rfl) rfl rfl hl.1 rfl (lv_room (Nat.le_of_ble_eq_true rfl)) dX4_half_14 ⟨by omega, by omega⟩) ?_
  exact z_iret hx hb hr hlocks dX4_half_17
set_option maxHeartbeats 4000000 in
set_option maxRecDepth 100000 in
/-- hears returns -/
theorem zcX4_hears_k (l : Launch) (D : va_G) (cI : ClassId) (H : Heap) (b : Nat) (n : Nat) (me : Nat → Int32) (lo : Nat → Int32) (c : Nat → Nat) (e : Nat → Nat) (rd : Int32) (tk : Int32) (g : zG) (p : Nat) (k : Nat) (hC : zCW D cI b n me lo c e rd tk g H) (hI : zI n me lo c e) (hp : p < n) (hk : k < c p) : Met l yX4_hears wsX4_hears ({ frames := 2, cells := 0, slots := 0, locals := 43 } : Room) (zPc D [(cI, .int)] H [.ref b, .int (nI p), .int (nI k)]) (zQ (some (.int (nI (e (p * 4 + k))))) H) 0 0 (fun _ => False) := by
  refine z_enter (cc := cX4_hears) (maxL := 3) (ret := (some .int)) (by decide) rfl (Nat.le_of_ble_eq_true rfl) ?_
  intro pg ev s m args below meth cd hfix hr hlocks hname hK hHs ls hl
  obtain ⟨hx, hb, hml, hown, hts⟩ := id hfix
  have hl : lv_has ls 3 [(0, .ref b), (1, .int (nI p)), (2, .int (nI k))] := hl
  have hinX4 : ∀ w ∈ wsX40, w ∈ wsX4_hears := by decide +kernel
  obtain ⟨hJ, hW, hT, ⟨rd1, tk1, g1, hTa⟩, ⟨rd2, tk2, g2, hTb⟩⟩ := id hC
  have hn := zI_n hI
  have hc4 := zI_c hI p
  refine lv_aload_n hx hb dX4_hears_0 rfl (lv_at hl 0 rfl) ?_
  refine lv_iload_n hx hb dX4_hears_1 rfl (lv_at hl 1 rfl) ?_
  refine z_kv (va_runV (As := [.int (nI p)]) (rest := []) hfix (zcX4_needParrot l D cI H b n me lo c e p hJ hW hI (by omega)) (cwV 1 hts gX4_hears_X4_needParrot rfl rfl rfl (by decide +kernel) ⟨Nat.le_of_ble_eq_true rfl, Nat.le_of_ble_eq_true rfl⟩) (z_preV hK hK hJ (ci := 4) (q0 := 0) rfl rfl rfl) rfl rfl hl.1 rfl (lv_room (Nat.le_of_ble_eq_true rfl)) dX4_hears_2 ⟨by omega, by omega⟩) ?_
  refine lv_iload_n hx hb dX4_hears_5 rfl (lv_at hl 2 rfl) ?_
  refine lv_if_lt (tgt := 21) hx hb dX4_hears_6 (by decide) (fun c6 => ?_) (fun c6 => ?_)
  · have c6 := z_lt (a := k) (b := 0) c6 (by omega) (by omega)
    omega
  · have c6 := z_nlt (a := k) (b := 0) c6 (by omega) (by omega)
    refine lv_iload_n hx hb dX4_hears_9 rfl (lv_at hl 2 rfl) ?_
    refine lv_aload_n hx hb dX4_hears_10 rfl (lv_at hl 0 rfl) ?_
    refine va_get (D := D) (ci := 4) (v := .ref (b + 1)) (C := RX4) (T := TX4) (N := 4) hx hb hts hinX4 hown hK hJ 0 rfl rfl 0 (by decide) (hts _ (List.mem_of_getElem? (i := 3) rfl)) (fun _ h9 => h9) rfl dX4_hears_11 ?_
    refine lv_iload_n hx hb dX4_hears_14 rfl (lv_at hl 1 rfl) ?_
    refine z_ki (va_runV (As := [.int (nI p)]) (rest := [.int (nI k)]) hfix (zcX2_listening l D cI H (b + 1) n me lo c e p hW (by omega)) (cwV 1 hts gX4_hears_X2_listening rfl rfl rfl (by decide +kernel) ⟨Nat.le_of_ble_eq_true rfl, Nat.le_of_ble_eq_true rfl⟩) (z_preV hK hK hW (ci := 2) (q0 := 0) rfl rfl rfl) rfl rfl hl.1 rfl (lv_room (Nat.le_of_ble_eq_true rfl)) dX4_hears_15 ⟨by omega, by omega⟩) ?_
    refine lv_icmp_lt (tgt := 31) hx hb dX4_hears_18 (by decide) (fun c18 => ?_) (fun c18 => ?_)
    · have c18 := z_lt (a := k) (b := c p) c18 (by omega) (by omega)
      refine lv_aload_n hx hb dX4_hears_31 rfl (lv_at hl 0 rfl) ?_
      refine va_get (D := D) (ci := 4) (v := .ref (b + 1)) (C := RX4) (T := TX4) (N := 4) hx hb hts hinX4 hown hK hJ 0 rfl rfl 0 (by decide) (hts _ (List.mem_of_getElem? (i := 3) rfl)) (fun _ h9 => h9) rfl dX4_hears_32 ?_
      refine lv_iload_n hx hb dX4_hears_35 rfl (lv_at hl 1 rfl) ?_
      refine lv_iload_n hx hb dX4_hears_36 rfl (lv_at hl 2 rfl) ?_
      refine z_ki (va_runV (As := [.int (nI p), .int (nI k)]) (rest := []) hfix (zcX2_other l D cI H (b + 1) n me lo c e p k hW (by omega) (by omega)) (cwV 2 hts gX4_hears_X2_other rfl rfl rfl (by decide +kernel) ⟨Nat.le_of_ble_eq_true rfl, Nat.le_of_ble_eq_true rfl⟩) (z_preV hK hK hW (ci := 2) (q0 := 0) rfl rfl rfl) rfl rfl hl.1 rfl (lv_room (Nat.le_of_ble_eq_true rfl)) dX4_hears_37 ⟨by omega, by omega⟩) ?_
      exact z_iret hx hb hr hlocks dX4_hears_40
    · have c18 := z_nlt (a := k) (b := c p) c18 (by omega) (by omega)
      omega
set_option maxHeartbeats 4000000 in
set_option maxRecDepth 100000 in
/-- votes returns -/
theorem zcX4_votes_k (l : Launch) (D : va_G) (cI : ClassId) (H : Heap) (b : Nat) (n : Nat) (me : Nat → Int32) (lo : Nat → Int32) (c : Nat → Nat) (e : Nat → Nat) (rd : Int32) (tk : Int32) (g : zG) (w : Nat) (hC : zCW D cI b n me lo c e rd tk g H) (hI : zI n me lo c e) (hw : w ≤ 9999) : Met l yX4_votes wsX4_votes ({ frames := 4, cells := 0, slots := 0, locals := 88 } : Room) (zPc D [(cI, .int)] H [.ref b, .int (nI w)]) (zQ (some (.int (nI (vt g (nI w) n)))) H) 0 0 (fun _ => False) := by
  refine z_enter (cc := cX4_votes) (maxL := 2) (ret := (some .int)) (by decide) rfl (Nat.le_of_ble_eq_true rfl) ?_
  intro pg ev s m args below meth cd hfix hr hlocks hname hK hHs ls hl
  obtain ⟨hx, hb, hml, hown, hts⟩ := id hfix
  have hl : lv_has ls 2 [(0, .ref b), (1, .int (nI w))] := hl
  have hinX4 : ∀ w ∈ wsX40, w ∈ wsX4_votes := by decide +kernel
  obtain ⟨hJ, hW, hT, ⟨rd1, tk1, g1, hTa⟩, ⟨rd2, tk2, g2, hTb⟩⟩ := id hC
  have hn := zI_n hI
  refine lv_iload_n hx hb dX4_votes_0 rfl (lv_at hl 1 rfl) ?_
  refine z_kv (va_runS (As := [.int (nI w)]) (rest := []) hfix (zcX4_needWord l D cI H w (by omega)) (va_cwS 1 hts gX4_votes_X4_needWord rfl rfl rfl (by decide +kernel) ⟨Nat.le_of_ble_eq_true rfl, Nat.le_of_ble_eq_true rfl⟩) (z_preS hK) rfl rfl hl.1 rfl (lv_room (Nat.le_of_ble_eq_true rfl)) dX4_votes_1 ⟨by omega, by omega⟩) ?_
  refine lv_aload_n hx hb dX4_votes_4 rfl (lv_at hl 0 rfl) ?_
  refine lv_aload_n hx hb dX4_votes_5 rfl (lv_at hl 0 rfl) ?_
  refine va_get (D := D) (ci := 4) (v := .ref (b + 10)) (C := RX4) (T := TX4) (N := 4) hx hb hts hinX4 hown hK hJ 0 rfl rfl 1 (by decide) (hts _ (List.mem_of_getElem? (i := 1) rfl)) (fun _ h9 => h9) rfl dX4_votes_6 ?_
  refine lv_iload_n hx hb dX4_votes_9 rfl (lv_at hl 1 rfl) ?_
  refine z_ki (va_runV (As := [.ref (b + 10), .int (nI w)]) (rest := []) hfix (zcX4_votesIn l D cI H b n me lo c e (b + 10) rd tk g (nI w) hJ hW hT hI) (cwV 2 hts gX4_votes_X4_votesIn rfl rfl rfl (by decide +kernel) ⟨Nat.le_of_ble_eq_true rfl, Nat.le_of_ble_eq_true rfl⟩) (z_preV hK hK hJ (ci := 4) (q0 := 0) rfl rfl rfl) rfl rfl hl.1 rfl (lv_room (Nat.le_of_ble_eq_true rfl)) dX4_votes_10 ⟨by omega, by omega⟩) ?_
  exact z_iret hx hb hr hlocks dX4_votes_13
set_option maxHeartbeats 4000000 in
set_option maxRecDepth 100000 in
/-- left returns -/
theorem zcX4_left_k (l : Launch) (D : va_G) (cI : ClassId) (H : Heap) (b : Nat) (n : Nat) (me : Nat → Int32) (lo : Nat → Int32) (c : Nat → Nat) (e : Nat → Nat) (rd : Int32) (tk : Int32) (g : zG) (w : Nat) (hC : zCW D cI b n me lo c e rd tk g H) (hI : zI n me lo c e) (hw : w ≤ 9999) : Met l yX4_left wsX4_left ({ frames := 2, cells := 0, slots := 0, locals := 42 } : Room) (zPc D [(cI, .int)] H [.ref b, .int (nI w)]) (zQ (some (.int (nI (lf g (nI w) n)))) H) 0 0 (fun _ => False) := by
  refine z_enter (cc := cX4_left) (maxL := 5) (ret := (some .int)) (by decide) rfl (Nat.le_of_ble_eq_true rfl) ?_
  intro pg ev s m args below meth cd hfix hr hlocks hname hK hHs ls hl
  obtain ⟨hx, hb, hml, hown, hts⟩ := id hfix
  have hl : lv_has ls 5 [(0, .ref b), (1, .int (nI w))] := hl
  have hinX4 : ∀ w ∈ wsX40, w ∈ wsX4_left := by decide +kernel
  obtain ⟨hJ, hW, hT, ⟨rd1, tk1, g1, hTa⟩, ⟨rd2, tk2, g2, hTb⟩⟩ := id hC
  have hn := zI_n hI
  refine lv_iload_n hx hb dX4_left_0 rfl (lv_at hl 1 rfl) ?_
  refine z_kv (va_runS (As := [.int (nI w)]) (rest := []) hfix (zcX4_needWord l D cI H w (by omega)) (va_cwS 1 hts gX4_left_X4_needWord rfl rfl rfl (by decide +kernel) ⟨Nat.le_of_ble_eq_true rfl, Nat.le_of_ble_eq_true rfl⟩) (z_preS hK) rfl rfl hl.1 rfl (lv_room (Nat.le_of_ble_eq_true rfl)) dX4_left_1 ⟨by omega, by omega⟩) ?_
  refine lv_aload_n hx hb dX4_left_4 rfl (lv_at hl 0 rfl) ?_
  refine va_get (D := D) (ci := 4) (v := .ref (b + 1)) (C := RX4) (T := TX4) (N := 4) hx hb hts hinX4 hown hK hJ 0 rfl rfl 0 (by decide) (hts _ (List.mem_of_getElem? (i := 1) rfl)) (fun _ h9 => h9) rfl dX4_left_5 ?_
  refine z_ki (va_runV (As := []) (rest := []) hfix (zcX2_size l D cI H (b + 1) n me lo c e hW) (cwV 0 hts gX4_left_X2_size rfl rfl rfl (by decide +kernel) ⟨Nat.le_of_ble_eq_true rfl, Nat.le_of_ble_eq_true rfl⟩) (z_preV hK hK hW (ci := 2) (q0 := 0) rfl rfl rfl) rfl rfl hl.1 rfl (lv_room (Nat.le_of_ble_eq_true rfl)) dX4_left_8 ⟨by omega, by omega⟩) ?_
  refine lv_istore_n (lv' := [(2, .int (nI n)), (0, .ref b), (1, .int (nI w))]) hx hb dX4_left_11 rfl hl (by decide) rfl (fun ls hl => ?_)
  refine lv_iconst (v := 0) hx hb dX4_left_12 (by decide) ?_
  refine lv_istore_n (lv' := [(3, .int 0), (2, .int (nI n)), (0, .ref b), (1, .int (nI w))]) hx hb dX4_left_13 rfl hl (by decide) rfl (fun ls hl => ?_)
  refine lv_iconst (v := 0) hx hb dX4_left_14 (by decide) ?_
  refine lv_istore (lv' := [(4, .int 0), (3, .int 0), (2, .int (nI n)), (0, .ref b), (1, .int (nI w))]) hx hb dX4_left_15 hl (by decide) rfl (fun ls hl => ?_)
  have loop17 : ∀ (fu : Nat) (k : Nat), n - k < fu → (k ≤ n) → ∀ (x4 : Int32), x4 = (nI k) → ∀ (x3 : Int32), x3 = (nI (lf g (nI w) k)) → ∀ ls : Array Slot, lv_has ls 5 [(4, .int x4), (3, .int x3), (2, .int (nI n)), (0, .ref b), (1, .int (nI w))] → W pg l ev ({ frames := 2, cells := 0, slots := 0, locals := 42 } : Room) s m args below meth cd H [] 0 0 (MQ below (zQ (some (.int (nI (lf g (nI w) n)))) H) args s 0 0 (fun _ => False)) (F0 m 17 ls []) := by
    intro fu
    induction fu with
    | zero => intro k hfu; exact absurd hfu (Nat.not_lt_zero _)
    | succ fu ih =>
      intro k hfu hi17_0 x4 ex4 x3 ex3 ls hl
      subst ex4
      subst ex3
      refine lv_iload hx hb dX4_left_17 (lv_at hl 0 rfl) ?_
      refine lv_iload_n hx hb dX4_left_19 rfl (lv_at hl 2 rfl) ?_
      refine lv_icmp_ge (tgt := 75) hx hb dX4_left_20 (by decide) (fun c20 => ?_) (fun c20 => ?_)
      · have c20 := z_le (a := n) (b := k) c20 (by omega) (by omega)
        refine lv_iload_n hx hb dX4_left_75 rfl (lv_at hl 1 rfl) ?_
        refine z_toi (y := (nI (lf g (nI w) n))) (by rw [show n = k by omega]) ?_
        exact z_iret hx hb hr hlocks dX4_left_76
      · have c20 := z_nle (a := n) (b := k) c20 (by omega) (by omega)
        refine lv_aload_n hx hb dX4_left_23 rfl (lv_at hl 3 rfl) ?_
        refine va_get (D := D) (ci := 4) (v := .ref (b + 10)) (C := RX4) (T := TX4) (N := 4) hx hb hts hinX4 hown hK hJ 0 rfl rfl 1 (by decide) (hts _ (List.mem_of_getElem? (i := 2) rfl)) (fun _ h9 => h9) rfl dX4_left_24 ?_
        refine lv_iconst (v := 0) hx hb dX4_left_27 (by decide) ?_
        refine z_kr (va_runV (As := [.int 0]) (rest := []) hfix (zcX3_halves_0 l D cI H (b + 10) rd tk g hT) (cwV 1 hts gX4_left_X3_halves rfl rfl rfl (by decide +kernel) ⟨Nat.le_of_ble_eq_true rfl, Nat.le_of_ble_eq_true rfl⟩) (z_preV hK hK hT (ci := 3) (q0 := 0) rfl rfl rfl) rfl rfl hl.1 rfl (lv_room (Nat.le_of_ble_eq_true rfl)) dX4_left_28 ⟨by omega, by omega⟩) ?_
        refine lv_iload hx hb dX4_left_31 (lv_at hl 0 rfl) ?_
        refine z_ki (va_runV (As := [.int (nI k)]) (rest := []) hfix (zcX0_value l D cI H (b + 13) (g 0) (g 2) (g 4) k (va_P.sub (ws' := (zHalves cI (b + 13) (g 0) (g 2) (g 4))) hT [3, 4, 5, 6, 7, 8, 9] rfl) (by omega)) (cwV 1 hts gX4_left_X0_value rfl rfl rfl (by decide +kernel) ⟨Nat.le_of_ble_eq_true rfl, Nat.le_of_ble_eq_true rfl⟩) (z_preV hK hK hT (ci := 0) (q0 := 3) rfl rfl rfl) rfl rfl hl.1 rfl (lv_room (Nat.le_of_ble_eq_true rfl)) dX4_left_33 ⟨by omega, by omega⟩) ?_
        refine lv_iload_n hx hb dX4_left_36 rfl (lv_at hl 4 rfl) ?_
        refine lv_bipush (v := 100) hx hb dX4_left_37 (by decide) ?_
        refine lv_idiv hx hb dX4_left_39 (by decide) ?_
        refine lv_icmp_ne (tgt := 46) hx hb dX4_left_40 (by decide) (fun c40 => ?_) (fun c40 => ?_)
        · refine lv_aload_n hx hb dX4_left_46 rfl (lv_at hl 3 rfl) ?_
          refine va_get (D := D) (ci := 4) (v := .ref (b + 10)) (C := RX4) (T := TX4) (N := 4) hx hb hts hinX4 hown hK hJ 0 rfl rfl 1 (by decide) (hts _ (List.mem_of_getElem? (i := 2) rfl)) (fun _ h9 => h9) rfl dX4_left_47 ?_
          refine lv_iconst (v := 1) hx hb dX4_left_50 (by decide) ?_
          refine z_kr (va_runV (As := [.int 1]) (rest := []) hfix (zcX3_halves_1 l D cI H (b + 10) rd tk g hT) (cwV 1 hts gX4_left_X3_halves rfl rfl rfl (by decide +kernel) ⟨Nat.le_of_ble_eq_true rfl, Nat.le_of_ble_eq_true rfl⟩) (z_preV hK hK hT (ci := 3) (q0 := 0) rfl rfl rfl) rfl rfl hl.1 rfl (lv_room (Nat.le_of_ble_eq_true rfl)) dX4_left_51 ⟨by omega, by omega⟩) ?_
          refine lv_iload hx hb dX4_left_54 (lv_at hl 0 rfl) ?_
          refine z_ki (va_runV (As := [.int (nI k)]) (rest := []) hfix (zcX0_value l D cI H (b + 20) (g 1) (g 3) (g 5) k (va_P.sub (ws' := (zHalves cI (b + 20) (g 1) (g 3) (g 5))) hT [10, 11, 12, 13, 14, 15, 16] rfl) (by omega)) (cwV 1 hts gX4_left_X0_value rfl rfl rfl (by decide +kernel) ⟨Nat.le_of_ble_eq_true rfl, Nat.le_of_ble_eq_true rfl⟩) (z_preV hK hK hT (ci := 0) (q0 := 10) rfl rfl rfl) rfl rfl hl.1 rfl (lv_room (Nat.le_of_ble_eq_true rfl)) dX4_left_56 ⟨by omega, by omega⟩) ?_
          refine lv_iload_n hx hb dX4_left_59 rfl (lv_at hl 4 rfl) ?_
          refine lv_bipush (v := 100) hx hb dX4_left_60 (by decide) ?_
          refine lv_irem hx hb dX4_left_62 (by decide) ?_
          refine z_toi (y := zrem (nI w) 100) rfl ?_
          refine lv_icmp_ne (tgt := 69) hx hb dX4_left_63 (by decide) (fun c63 => ?_) (fun c63 => ?_)
          · refine lv_iinc (v := (nI (k + 1))) (lv' := [(4, .int (nI (k + 1))), (3, .int (nI (lf g (nI w) k))), (2, .int (nI n)), (0, .ref b), (1, .int (nI w))]) hx hb dX4_left_69 hl (k := 0) rfl (nI_1 _) (by decide) rfl (fun ls hl => ?_)
            refine lv_goto (tgt := 17) hx hb dX4_left_72 (by decide) ?_
            exact ih (k + 1) (by omega) (by omega) _ (rfl) _ (by first | rw [lf_11 c40 c63] | rw [lf_10 c40 c63] | rw [lf_01 c40 c63] | rw [lf_00 c40 c63]) _ (lv_sub hl [0, 1, 2, 3, 4] rfl)
          · refine lv_iinc (v := (nI (lf g (nI w) k + 1))) (lv' := [(3, .int (nI (lf g (nI w) k + 1))), (4, .int (nI k)), (2, .int (nI n)), (0, .ref b), (1, .int (nI w))]) hx hb dX4_left_66 hl (k := 1) rfl (nI_1 _) (by decide) rfl (fun ls hl => ?_)
            refine lv_iinc (v := (nI (k + 1))) (lv' := [(4, .int (nI (k + 1))), (3, .int (nI (lf g (nI w) k + 1))), (2, .int (nI n)), (0, .ref b), (1, .int (nI w))]) hx hb dX4_left_69 hl (k := 1) rfl (nI_1 _) (by decide) rfl (fun ls hl => ?_)
            refine lv_goto (tgt := 17) hx hb dX4_left_72 (by decide) ?_
            exact ih (k + 1) (by omega) (by omega) _ (rfl) _ (by first | rw [lf_11 c40 c63] | rw [lf_10 c40 c63] | rw [lf_01 c40 c63] | rw [lf_00 c40 c63]) _ (lv_sub hl [0, 1, 2, 3, 4] rfl)
        · refine lv_iinc (v := (nI (lf g (nI w) k + 1))) (lv' := [(3, .int (nI (lf g (nI w) k + 1))), (4, .int (nI k)), (2, .int (nI n)), (0, .ref b), (1, .int (nI w))]) hx hb dX4_left_43 hl (k := 1) rfl (nI_1 _) (by decide) rfl (fun ls hl => ?_)
          refine lv_aload_n hx hb dX4_left_46 rfl (lv_at hl 3 rfl) ?_
          refine va_get (D := D) (ci := 4) (v := .ref (b + 10)) (C := RX4) (T := TX4) (N := 4) hx hb hts hinX4 hown hK hJ 0 rfl rfl 1 (by decide) (hts _ (List.mem_of_getElem? (i := 2) rfl)) (fun _ h9 => h9) rfl dX4_left_47 ?_
          refine lv_iconst (v := 1) hx hb dX4_left_50 (by decide) ?_
          refine z_kr (va_runV (As := [.int 1]) (rest := []) hfix (zcX3_halves_1 l D cI H (b + 10) rd tk g hT) (cwV 1 hts gX4_left_X3_halves rfl rfl rfl (by decide +kernel) ⟨Nat.le_of_ble_eq_true rfl, Nat.le_of_ble_eq_true rfl⟩) (z_preV hK hK hT (ci := 3) (q0 := 0) rfl rfl rfl) rfl rfl hl.1 rfl (lv_room (Nat.le_of_ble_eq_true rfl)) dX4_left_51 ⟨by omega, by omega⟩) ?_
          refine lv_iload hx hb dX4_left_54 (lv_at hl 1 rfl) ?_
          refine z_ki (va_runV (As := [.int (nI k)]) (rest := []) hfix (zcX0_value l D cI H (b + 20) (g 1) (g 3) (g 5) k (va_P.sub (ws' := (zHalves cI (b + 20) (g 1) (g 3) (g 5))) hT [10, 11, 12, 13, 14, 15, 16] rfl) (by omega)) (cwV 1 hts gX4_left_X0_value rfl rfl rfl (by decide +kernel) ⟨Nat.le_of_ble_eq_true rfl, Nat.le_of_ble_eq_true rfl⟩) (z_preV hK hK hT (ci := 0) (q0 := 10) rfl rfl rfl) rfl rfl hl.1 rfl (lv_room (Nat.le_of_ble_eq_true rfl)) dX4_left_56 ⟨by omega, by omega⟩) ?_
          refine lv_iload_n hx hb dX4_left_59 rfl (lv_at hl 4 rfl) ?_
          refine lv_bipush (v := 100) hx hb dX4_left_60 (by decide) ?_
          refine lv_irem hx hb dX4_left_62 (by decide) ?_
          refine z_toi (y := zrem (nI w) 100) rfl ?_
          refine lv_icmp_ne (tgt := 69) hx hb dX4_left_63 (by decide) (fun c63 => ?_) (fun c63 => ?_)
          · refine lv_iinc (v := (nI (k + 1))) (lv' := [(4, .int (nI (k + 1))), (3, .int (nI (lf g (nI w) k + 1))), (2, .int (nI n)), (0, .ref b), (1, .int (nI w))]) hx hb dX4_left_69 hl (k := 1) rfl (nI_1 _) (by decide) rfl (fun ls hl => ?_)
            refine lv_goto (tgt := 17) hx hb dX4_left_72 (by decide) ?_
            exact ih (k + 1) (by omega) (by omega) _ (rfl) _ (by first | rw [lf_11 c40 c63] | rw [lf_10 c40 c63] | rw [lf_01 c40 c63] | rw [lf_00 c40 c63]) _ (lv_sub hl [0, 1, 2, 3, 4] rfl)
          · refine lv_iinc (v := (nI (lf g (nI w) k + 1 + 1))) (lv' := [(3, .int (nI (lf g (nI w) k + 1 + 1))), (4, .int (nI k)), (2, .int (nI n)), (0, .ref b), (1, .int (nI w))]) hx hb dX4_left_66 hl (k := 0) rfl (nI_1 _) (by decide) rfl (fun ls hl => ?_)
            refine lv_iinc (v := (nI (k + 1))) (lv' := [(4, .int (nI (k + 1))), (3, .int (nI (lf g (nI w) k + 1 + 1))), (2, .int (nI n)), (0, .ref b), (1, .int (nI w))]) hx hb dX4_left_69 hl (k := 1) rfl (nI_1 _) (by decide) rfl (fun ls hl => ?_)
            refine lv_goto (tgt := 17) hx hb dX4_left_72 (by decide) ?_
            exact ih (k + 1) (by omega) (by omega) _ (rfl) _ (by first | rw [lf_11 c40 c63] | rw [lf_10 c40 c63] | rw [lf_01 c40 c63] | rw [lf_00 c40 c63]) _ (lv_sub hl [0, 1, 2, 3, 4] rfl)
  exact loop17 _ 0 (Nat.lt_succ_self _) (by omega) _ (rfl) _ (rfl) _ (lv_sub hl [0, 1, 2, 3, 4] rfl)
set_option maxHeartbeats 4000000 in
set_option maxRecDepth 100000 in
/-- count returns -/
theorem zcX4_count_k (l : Launch) (D : va_G) (cI : ClassId) (H : Heap) (b : Nat) (n : Nat) (me : Nat → Int32) (lo : Nat → Int32) (c : Nat → Nat) (e : Nat → Nat) (rd : Int32) (tk : Int32) (g : zG) (q : Nat) (hC : zCW D cI b n me lo c e rd tk g H) (hI : zI n me lo c e) (hq : q ≤ 5) : Met l yX4_count wsX4_count ({ frames := 6, cells := 0, slots := 0, locals := 130 } : Room) (zPc D [(cI, .int)] H [.ref b, .int (nI q)]) (zQ (some (.int (tj n (rd, tk, g) q))) H) 0 0 (fun _ => False) := by
  refine z_enter (cc := cX4_count) (maxL := 2) (ret := (some .int)) (by decide) rfl (Nat.le_of_ble_eq_true rfl) ?_
  intro pg ev s m args below meth cd hfix hr hlocks hname hK hHs ls hl
  obtain ⟨hx, hb, hml, hown, hts⟩ := id hfix
  have hl : lv_has ls 2 [(0, .ref b), (1, .int (nI q))] := hl
  obtain ⟨hJ, hW, hT, ⟨rd1, tk1, g1, hTa⟩, ⟨rd2, tk2, g2, hTb⟩⟩ := id hC
  have hn := zI_n hI
  refine lv_iload_n hx hb dX4_count_0 rfl (lv_at hl 1 rfl) ?_
  refine lv_iconst (v := 5) hx hb dX4_count_1 (by decide) ?_
  refine z_kv (va_runS (As := [.int (nI q), .int 5]) (rest := []) hfix (zcX4_needWhat l D cI H q 5 (by omega) (by omega)) (va_cwS 2 hts gX4_count_X4_needWhat rfl rfl rfl (by decide +kernel) ⟨Nat.le_of_ble_eq_true rfl, Nat.le_of_ble_eq_true rfl⟩) (z_preS hK) rfl rfl hl.1 rfl (lv_room (Nat.le_of_ble_eq_true rfl)) dX4_count_2 ⟨by omega, by omega⟩) ?_
  refine lv_aload_n hx hb dX4_count_5 rfl (lv_at hl 0 rfl) ?_
  refine lv_iload_n hx hb dX4_count_6 rfl (lv_at hl 1 rfl) ?_
  refine z_ki (va_runV (As := [.int (nI q)]) (rest := []) hfix (zcX4_tellOfJury l D cI H b n me lo c e rd tk g q hJ hW hT hI (by omega)) (cwV 1 hts gX4_count_X4_tellOfJury rfl rfl rfl (by decide +kernel) ⟨Nat.le_of_ble_eq_true rfl, Nat.le_of_ble_eq_true rfl⟩) (z_preV hK hK hJ (ci := 4) (q0 := 0) rfl rfl rfl) rfl rfl hl.1 rfl (lv_room (Nat.le_of_ble_eq_true rfl)) dX4_count_7 ⟨by omega, by omega⟩) ?_
  exact z_iret hx hb hr hlocks dX4_count_10
set_option maxHeartbeats 4000000 in
set_option maxRecDepth 100000 in
/-- pass returns -/
theorem zcX4_pass_k (l : Launch) (D : va_G) (cI : ClassId) (H : Heap) (b : Nat) (n : Nat) (me : Nat → Int32) (lo : Nat → Int32) (c : Nat → Nat) (e : Nat → Nat) (rd : Int32) (tk : Int32) (g : zG) (r : Nat) (hC : zCW D cI b n me lo c e rd tk g H) (hI : zI n me lo c e) (hr1 : 1 ≤ r) (hr2 : r ≤ 200) : Met l yX4_pass wsX4_pass ({ frames := 6, cells := 0, slots := 0, locals := 137 } : Room) (zPc D [(cI, .int)] H [.ref b, .int (nI r)]) (zM (fun H1 => zCW D cI b n me lo c e ((rN n me lo c e (rd, tk, g) r).1) ((rN n me lo c e (rd, tk, g) r).2.1) ((rN n me lo c e (rd, tk, g) r).2.2) H1 ∧ H1.size = H.size) (some (.int ((rN n me lo c e (rd, tk, g) r).2.1 - tk))) (zF b (b + 61))) 0 0 (zF b (b + 61)) := by
  refine z_enter (cc := cX4_pass) (maxL := 3) (ret := (some .int)) (by decide) rfl (Nat.le_of_ble_eq_true rfl) ?_
  intro pg ev s m args below meth cd hfix hr hlocks hname hK hHs ls hl
  obtain ⟨hx, hb, hml, hown, hts⟩ := id hfix
  have hl : lv_has ls 3 [(0, .ref b), (1, .int (nI r))] := hl
  have hS : va_S (zF b (b + 61)) s.heap H [] := by rw [hHs]; exact va_S.rf
  have hz : H.size = H.size := rfl
  have hinX4 : ∀ w ∈ wsX40, w ∈ wsX4_pass := by decide +kernel
  obtain ⟨hJ, hW, hT, ⟨rd1, tk1, g1, hTa⟩, ⟨rd2, tk2, g2, hTb⟩⟩ := id hC
  have hn := zI_n hI
  refine lv_iload_n hx hb dX4_pass_0 rfl (lv_at hl 1 rfl) ?_
  refine lv_sipush (v := 200) hx hb dX4_pass_1 (by decide) ?_
  refine z_kv (va_runS (As := [.int (nI r), .int 200]) (rest := []) hfix (zcX4_needRounds l D cI H r 200 (by omega) (by omega) (by omega)) (va_cwS 2 hts gX4_pass_X4_needRounds rfl rfl rfl (by decide +kernel) ⟨Nat.le_of_ble_eq_true rfl, Nat.le_of_ble_eq_true rfl⟩) (z_preS hK) rfl rfl hl.1 rfl (lv_room (Nat.le_of_ble_eq_true rfl)) dX4_pass_4 ⟨by omega, by omega⟩) ?_
  refine lv_aload_n hx hb dX4_pass_7 rfl (lv_at hl 0 rfl) ?_
  refine va_get (D := D) (ci := 4) (v := .ref (b + 10)) (C := RX4) (T := TX4) (N := 4) hx hb hts hinX4 hown hK hJ 0 rfl rfl 1 (by decide) (hts _ (List.mem_of_getElem? (i := 1) rfl)) (fun _ h9 => h9) rfl dX4_pass_8 ?_
  refine z_ki (va_runV (As := []) (rest := []) hfix (zcX3_taken l D cI H (b + 10) rd tk g hT) (cwV 0 hts gX4_pass_X3_taken rfl rfl rfl (by decide +kernel) ⟨Nat.le_of_ble_eq_true rfl, Nat.le_of_ble_eq_true rfl⟩) (z_preV hK hK hT (ci := 3) (q0 := 0) rfl rfl rfl) rfl rfl hl.1 rfl (lv_room (Nat.le_of_ble_eq_true rfl)) dX4_pass_11 ⟨by omega, by omega⟩) ?_
  refine lv_istore_n (lv' := [(2, .int tk), (0, .ref b), (1, .int (nI r))]) hx hb dX4_pass_14 rfl hl (by decide) rfl (fun ls hl => ?_)
  refine lv_aload_n hx hb dX4_pass_15 rfl (lv_at hl 1 rfl) ?_
  refine va_get (D := D) (ci := 4) (v := .ref (b + 10)) (C := RX4) (T := TX4) (N := 4) hx hb hts hinX4 hown hK hJ 0 rfl rfl 1 (by decide) (hts _ (List.mem_of_getElem? (i := 1) rfl)) (fun _ h9 => h9) rfl dX4_pass_16 ?_
  refine lv_aload_n hx hb dX4_pass_19 rfl (lv_at hl 1 rfl) ?_
  refine va_get (D := D) (ci := 4) (v := .ref (b + 1)) (C := RX4) (T := TX4) (N := 4) hx hb hts hinX4 hown hK hJ 0 rfl rfl 0 (by decide) (hts _ (List.mem_of_getElem? (i := 2) rfl)) (fun _ h9 => h9) rfl dX4_pass_20 ?_
  refine lv_aload_n hx hb dX4_pass_23 rfl (lv_at hl 1 rfl) ?_
  refine va_get (D := D) (ci := 4) (v := .ref (b + 44)) (C := RX4) (T := TX4) (N := 4) hx hb hts hinX4 hown hK hJ 0 rfl rfl 3 (by decide) (hts _ (List.mem_of_getElem? (i := 3) rfl)) (fun _ h9 => h9) rfl dX4_pass_24 ?_
  refine lv_iload_n hx hb dX4_pass_27 rfl (lv_at hl 2 rfl) ?_
  refine z_mv (va_runV (As := [.ref (b + 1), .ref (b + 44), .int (nI r)]) (rest := []) hfix (zcX3_goRounds l D cI H (b + 10) rd tk g (b + 44) rd2 tk2 g2 (b + 1) n me lo c e r hT hTb (by omega) hW hI (by omega) (by omega) (by omega)) (cwV 3 hts gX4_pass_X3_goRounds rfl rfl rfl (by decide +kernel) ⟨Nat.le_of_ble_eq_true rfl, Nat.le_of_ble_eq_true rfl⟩) (z_preV hK hK hT (ci := 3) (q0 := 0) rfl rfl rfl) rfl rfl hl.1 rfl (lv_room (Nat.le_of_ble_eq_true rfl)) dX4_pass_28 ⟨by omega, by omega⟩) hS (fun q _ h => by simp only [zF] at h ⊢; omega) (fun q h => by simp only [zF] at h ⊢; omega) (fun H1 lo2 hB hz1 hk1 hS => ?_)
  obtain ⟨hB1, ⟨rdq3, tkq3, gq3, hB2⟩, hB3⟩ := hB
  have hz : H1.size = H.size := (hB3).trans hz
  have hJ4 := zP_kept hJ (fun q h1 h2 h3 => hk1 q h1 (by simp only [zF]; omega))
  have hW5 := zS_kept hW (fun q h1 h2 h3 => hk1 q h1 (by simp only [zF]; omega))
  have hT6 : va_P D vwCl (zTalk cI (b + 10) ((rN n me lo c e (rd, tk, g) r).1) ((rN n me lo c e (rd, tk, g) r).2.1) ((rN n me lo c e (rd, tk, g) r).2.2)) H1 := hB1
  have hTa7 := zT_kept hTa (fun q h1 h2 h3 => hk1 q h1 (by simp only [zF]; omega))
  have hTb8 : va_P D vwCl (zTalk cI (b + 44) rdq3 tkq3 gq3) H1 := hB2
  refine lv_aload_n hx hb dX4_pass_31 rfl (lv_at hl 1 rfl) ?_
  refine va_get (D := D) (ci := 4) (v := .ref (b + 10)) (C := RX4) (T := TX4) (N := 4) hx hb hts hinX4 hown hK hJ4 0 rfl rfl 1 (by decide) (hts _ (List.mem_of_getElem? (i := 1) rfl)) (fun _ h9 => h9) rfl dX4_pass_32 ?_
  refine z_ki (va_runV (As := []) (rest := []) hfix (zcX3_taken l D cI H1 (b + 10) ((rN n me lo c e (rd, tk, g) r).1) ((rN n me lo c e (rd, tk, g) r).2.1) ((rN n me lo c e (rd, tk, g) r).2.2) hT6) (cwV 0 hts gX4_pass_X3_taken rfl rfl rfl (by decide +kernel) ⟨Nat.le_of_ble_eq_true rfl, Nat.le_of_ble_eq_true rfl⟩) (z_preV hK hK hT6 (ci := 3) (q0 := 0) rfl rfl rfl) rfl rfl hl.1 rfl (lv_room (Nat.le_of_ble_eq_true rfl)) dX4_pass_35 ⟨by omega, by omega⟩) ?_
  refine lv_iload_n hx hb dX4_pass_38 rfl (lv_at hl 0 rfl) ?_
  refine lv_isub hx hb dX4_pass_39 ?_
  refine z_toi (y := ((rN n me lo c e (rd, tk, g) r).2.1 - tk)) (rfl) ?_
  exact z_iretM (⟨⟨hJ4, hW5, hT6, ⟨_, _, _, hTa7⟩, ⟨_, _, _, hTb8⟩⟩, hz⟩) hx hb hr hlocks hS dX4_pass_40
set_option maxHeartbeats 4000000 in
set_option maxRecDepth 100000 in
/-- foresee returns -/
theorem zcX4_foresee_k (l : Launch) (D : va_G) (cI : ClassId) (H : Heap) (b : Nat) (n : Nat) (me : Nat → Int32) (lo : Nat → Int32) (c : Nat → Nat) (e : Nat → Nat) (rd : Int32) (tk : Int32) (g : zG) (r : Nat) (p : Nat) (hC : zCW D cI b n me lo c e rd tk g H) (hI : zI n me lo c e) (hr1 : 1 ≤ r) (hr2 : r ≤ 200) (hp : p < n) : Met l yX4_foresee wsX4_foresee ({ frames := 6, cells := 0, slots := 0, locals := 137 } : Room) (zPc D [(cI, .int)] H [.ref b, .int (nI r), .int (nI p)]) (zM (fun H1 => zCW D cI b n me lo c e rd tk g H1 ∧ H1.size = H.size) (some (.int (wd (rN n me lo c e (rd, tk, g) r).2.2 p))) (zF b (b + 61))) 0 0 (zF b (b + 61)) := by
  refine z_enter (cc := cX4_foresee) (maxL := 3) (ret := (some .int)) (by decide) rfl (Nat.le_of_ble_eq_true rfl) ?_
  intro pg ev s m args below meth cd hfix hr hlocks hname hK hHs ls hl
  obtain ⟨hx, hb, hml, hown, hts⟩ := id hfix
  have hl : lv_has ls 3 [(0, .ref b), (1, .int (nI r)), (2, .int (nI p))] := hl
  have hS : va_S (zF b (b + 61)) s.heap H [] := by rw [hHs]; exact va_S.rf
  have hz : H.size = H.size := rfl
  have hinX4 : ∀ w ∈ wsX40, w ∈ wsX4_foresee := by decide +kernel
  obtain ⟨hJ, hW, hT, ⟨rd1, tk1, g1, hTa⟩, ⟨rd2, tk2, g2, hTb⟩⟩ := id hC
  have hn := zI_n hI
  refine lv_iload_n hx hb dX4_foresee_0 rfl (lv_at hl 1 rfl) ?_
  refine lv_sipush (v := 200) hx hb dX4_foresee_1 (by decide) ?_
  refine z_kv (va_runS (As := [.int (nI r), .int 200]) (rest := []) hfix (zcX4_needRounds l D cI H r 200 (by omega) (by omega) (by omega)) (va_cwS 2 hts gX4_foresee_X4_needRounds rfl rfl rfl (by decide +kernel) ⟨Nat.le_of_ble_eq_true rfl, Nat.le_of_ble_eq_true rfl⟩) (z_preS hK) rfl rfl hl.1 rfl (lv_room (Nat.le_of_ble_eq_true rfl)) dX4_foresee_4 ⟨by omega, by omega⟩) ?_
  refine lv_aload_n hx hb dX4_foresee_7 rfl (lv_at hl 0 rfl) ?_
  refine lv_iload_n hx hb dX4_foresee_8 rfl (lv_at hl 2 rfl) ?_
  refine z_kv (va_runV (As := [.int (nI p)]) (rest := []) hfix (zcX4_needParrot l D cI H b n me lo c e p hJ hW hI (by omega)) (cwV 1 hts gX4_foresee_X4_needParrot rfl rfl rfl (by decide +kernel) ⟨Nat.le_of_ble_eq_true rfl, Nat.le_of_ble_eq_true rfl⟩) (z_preV hK hK hJ (ci := 4) (q0 := 0) rfl rfl rfl) rfl rfl hl.1 rfl (lv_room (Nat.le_of_ble_eq_true rfl)) dX4_foresee_9 ⟨by omega, by omega⟩) ?_
  refine lv_aload_n hx hb dX4_foresee_12 rfl (lv_at hl 0 rfl) ?_
  refine va_get (D := D) (ci := 4) (v := .ref (b + 27)) (C := RX4) (T := TX4) (N := 4) hx hb hts hinX4 hown hK hJ 0 rfl rfl 2 (by decide) (hts _ (List.mem_of_getElem? (i := 1) rfl)) (fun _ h9 => h9) rfl dX4_foresee_13 ?_
  refine lv_aload_n hx hb dX4_foresee_16 rfl (lv_at hl 0 rfl) ?_
  refine va_get (D := D) (ci := 4) (v := .ref (b + 10)) (C := RX4) (T := TX4) (N := 4) hx hb hts hinX4 hown hK hJ 0 rfl rfl 1 (by decide) (hts _ (List.mem_of_getElem? (i := 2) rfl)) (fun _ h9 => h9) rfl dX4_foresee_17 ?_
  refine z_mv (va_runV (As := [.ref (b + 10)]) (rest := []) hfix (zcX3_copyFrom l D cI H (b + 27) rd1 tk1 g1 (b + 10) rd tk g hTa hT (by omega)) (cwV 1 hts gX4_foresee_X3_copyFrom rfl rfl rfl (by decide +kernel) ⟨Nat.le_of_ble_eq_true rfl, Nat.le_of_ble_eq_true rfl⟩) (z_preV hK hK hTa (ci := 3) (q0 := 0) rfl rfl rfl) rfl rfl hl.1 rfl (lv_room (Nat.le_of_ble_eq_true rfl)) dX4_foresee_20 ⟨by omega, by omega⟩) hS (fun q _ h => by simp only [zF] at h ⊢; omega) (fun q h => by simp only [zF] at h ⊢; omega) (fun H1 lo2 hB hz1 hk1 hS => ?_)
  have hz : H1.size = H.size := (hB.2).trans hz
  have hJ3 := zP_kept hJ (fun q h1 h2 h3 => hk1 q h1 (by simp only [zF]; omega))
  have hW4 := zS_kept hW (fun q h1 h2 h3 => hk1 q h1 (by simp only [zF]; omega))
  have hT5 := zT_kept hT (fun q h1 h2 h3 => hk1 q h1 (by simp only [zF]; omega))
  have hTa6 : va_P D vwCl (zTalk cI (b + 27) rd tk g) H1 := hB.1
  have hTb7 := zT_kept hTb (fun q h1 h2 h3 => hk1 q h1 (by simp only [zF]; omega))
  refine lv_aload_n hx hb dX4_foresee_23 rfl (lv_at hl 0 rfl) ?_
  refine va_get (D := D) (ci := 4) (v := .ref (b + 27)) (C := RX4) (T := TX4) (N := 4) hx hb hts hinX4 hown hK hJ3 0 rfl rfl 2 (by decide) (hts _ (List.mem_of_getElem? (i := 1) rfl)) (fun _ h9 => h9) rfl dX4_foresee_24 ?_
  refine lv_aload_n hx hb dX4_foresee_27 rfl (lv_at hl 0 rfl) ?_
  refine va_get (D := D) (ci := 4) (v := .ref (b + 1)) (C := RX4) (T := TX4) (N := 4) hx hb hts hinX4 hown hK hJ3 0 rfl rfl 0 (by decide) (hts _ (List.mem_of_getElem? (i := 3) rfl)) (fun _ h9 => h9) rfl dX4_foresee_28 ?_
  refine lv_aload_n hx hb dX4_foresee_31 rfl (lv_at hl 0 rfl) ?_
  refine va_get (D := D) (ci := 4) (v := .ref (b + 44)) (C := RX4) (T := TX4) (N := 4) hx hb hts hinX4 hown hK hJ3 0 rfl rfl 3 (by decide) (hts _ (List.mem_of_getElem? (i := 4) rfl)) (fun _ h9 => h9) rfl dX4_foresee_32 ?_
  refine lv_iload_n hx hb dX4_foresee_35 rfl (lv_at hl 1 rfl) ?_
  refine z_mv (va_runV (As := [.ref (b + 1), .ref (b + 44), .int (nI r)]) (rest := []) hfix (zcX3_goRounds l D cI H1 (b + 27) rd tk g (b + 44) rd2 tk2 g2 (b + 1) n me lo c e r hTa6 hTb7 (by omega) hW4 hI (by omega) (by omega) (by omega)) (cwV 3 hts gX4_foresee_X3_goRounds rfl rfl rfl (by decide +kernel) ⟨Nat.le_of_ble_eq_true rfl, Nat.le_of_ble_eq_true rfl⟩) (z_preV hK hK hTa6 (ci := 3) (q0 := 0) rfl rfl rfl) rfl rfl hl.1 rfl (lv_room (Nat.le_of_ble_eq_true rfl)) dX4_foresee_36 ⟨by omega, by omega⟩) hS (fun q _ h => by simp only [zF] at h ⊢; omega) (fun q h => by simp only [zF] at h ⊢; omega) (fun H8 lo9 hB hz1 hk1 hS => ?_)
  obtain ⟨hB1, ⟨rdq10, tkq10, gq10, hB2⟩, hB3⟩ := hB
  have hz : H8.size = H.size := (hB3).trans hz
  have hJ11 := zP_kept hJ3 (fun q h1 h2 h3 => hk1 q h1 (by simp only [zF]; omega))
  have hW12 := zS_kept hW4 (fun q h1 h2 h3 => hk1 q h1 (by simp only [zF]; omega))
  have hT13 := zT_kept hT5 (fun q h1 h2 h3 => hk1 q h1 (by simp only [zF]; omega))
  have hTa14 : va_P D vwCl (zTalk cI (b + 27) ((rN n me lo c e (rd, tk, g) r).1) ((rN n me lo c e (rd, tk, g) r).2.1) ((rN n me lo c e (rd, tk, g) r).2.2)) H8 := hB1
  have hTb15 : va_P D vwCl (zTalk cI (b + 44) rdq10 tkq10 gq10) H8 := hB2
  refine lv_aload_n hx hb dX4_foresee_39 rfl (lv_at hl 0 rfl) ?_
  refine va_get (D := D) (ci := 4) (v := .ref (b + 27)) (C := RX4) (T := TX4) (N := 4) hx hb hts hinX4 hown hK hJ11 0 rfl rfl 2 (by decide) (hts _ (List.mem_of_getElem? (i := 1) rfl)) (fun _ h9 => h9) rfl dX4_foresee_40 ?_
  refine lv_iload_n hx hb dX4_foresee_43 rfl (lv_at hl 2 rfl) ?_
  refine z_ki (va_runV (As := [.int (nI p)]) (rest := []) hfix (zcX3_word l D cI H8 (b + 27) ((rN n me lo c e (rd, tk, g) r).1) ((rN n me lo c e (rd, tk, g) r).2.1) ((rN n me lo c e (rd, tk, g) r).2.2) p hTa14 (by omega)) (cwV 1 hts gX4_foresee_X3_word rfl rfl rfl (by decide +kernel) ⟨Nat.le_of_ble_eq_true rfl, Nat.le_of_ble_eq_true rfl⟩) (z_preV hK hK hTa14 (ci := 3) (q0 := 0) rfl rfl rfl) rfl rfl hl.1 rfl (lv_room (Nat.le_of_ble_eq_true rfl)) dX4_foresee_44 ⟨by omega, by omega⟩) ?_
  refine z_toi (y := (wd (rN n me lo c e (rd, tk, g) r).2.2 p)) (rfl) ?_
  exact z_iretM (⟨⟨hJ11, hW12, hT13, ⟨_, _, _, hTa14⟩, ⟨_, _, _, hTb15⟩⟩, hz⟩) hx hb hr hlocks hS dX4_foresee_47
set_option maxHeartbeats 4000000 in
set_option maxRecDepth 100000 in
/-- agrees returns -/
theorem zcX4_agrees_k (l : Launch) (D : va_G) (cI : ClassId) (H : Heap) (b : Nat) (n : Nat) (me : Nat → Int32) (lo : Nat → Int32) (c : Nat → Nat) (e : Nat → Nat) (rd : Int32) (tk : Int32) (g : zG) (hC : zCW D cI b n me lo c e rd tk g H) (hI : zI n me lo c e) : Met l yX4_agrees wsX4_agrees ({ frames := 6, cells := 0, slots := 0, locals := 137 } : Room) (zPc D [(cI, .int)] H [.ref b]) (zM (fun H1 => zCW D cI b n me lo c e rd tk g H1 ∧ H1.size = H.size) (some (.int (zo (fs (same n me lo c e (rd, tk, g)) 201)))) (zF b (b + 61))) 0 0 (zF b (b + 61)) := by
  refine z_enter (cc := cX4_agrees) (maxL := 2) (ret := (some .int)) (by decide) rfl (Nat.le_of_ble_eq_true rfl) ?_
  intro pg ev s m args below meth cd hfix hr hlocks hname hK hHs ls hl
  obtain ⟨hx, hb, hml, hown, hts⟩ := id hfix
  have hl : lv_has ls 2 [(0, .ref b)] := hl
  have hS : va_S (zF b (b + 61)) s.heap H [] := by rw [hHs]; exact va_S.rf
  have hz : H.size = H.size := rfl
  have hinX4 : ∀ w ∈ wsX40, w ∈ wsX4_agrees := by decide +kernel
  obtain ⟨hJ, hW, hT, ⟨rd1, tk1, g1, hTa⟩, ⟨rd2, tk2, g2, hTb⟩⟩ := id hC
  have hn := zI_n hI
  refine lv_aload_n hx hb dX4_agrees_0 rfl (lv_at hl 0 rfl) ?_
  refine va_get (D := D) (ci := 4) (v := .ref (b + 27)) (C := RX4) (T := TX4) (N := 4) hx hb hts hinX4 hown hK hJ 0 rfl rfl 2 (by decide) (hts _ (List.mem_of_getElem? (i := 1) rfl)) (fun _ h9 => h9) rfl dX4_agrees_1 ?_
  refine lv_aload_n hx hb dX4_agrees_4 rfl (lv_at hl 0 rfl) ?_
  refine va_get (D := D) (ci := 4) (v := .ref (b + 10)) (C := RX4) (T := TX4) (N := 4) hx hb hts hinX4 hown hK hJ 0 rfl rfl 1 (by decide) (hts _ (List.mem_of_getElem? (i := 2) rfl)) (fun _ h9 => h9) rfl dX4_agrees_5 ?_
  refine z_mv (va_runV (As := [.ref (b + 10)]) (rest := []) hfix (zcX3_copyFrom l D cI H (b + 27) rd1 tk1 g1 (b + 10) rd tk g hTa hT (by omega)) (cwV 1 hts gX4_agrees_X3_copyFrom rfl rfl rfl (by decide +kernel) ⟨Nat.le_of_ble_eq_true rfl, Nat.le_of_ble_eq_true rfl⟩) (z_preV hK hK hTa (ci := 3) (q0 := 0) rfl rfl rfl) rfl rfl hl.1 rfl (lv_room (Nat.le_of_ble_eq_true rfl)) dX4_agrees_8 ⟨by omega, by omega⟩) hS (fun q _ h => by simp only [zF] at h ⊢; omega) (fun q h => by simp only [zF] at h ⊢; omega) (fun H1 lo2 hB hz1 hk1 hS => ?_)
  have hz : H1.size = H.size := (hB.2).trans hz
  have hJ3 := zP_kept hJ (fun q h1 h2 h3 => hk1 q h1 (by simp only [zF]; omega))
  have hW4 := zS_kept hW (fun q h1 h2 h3 => hk1 q h1 (by simp only [zF]; omega))
  have hT5 := zT_kept hT (fun q h1 h2 h3 => hk1 q h1 (by simp only [zF]; omega))
  have hTa6 : va_P D vwCl (zTalk cI (b + 27) rd tk g) H1 := hB.1
  have hTb7 := zT_kept hTb (fun q h1 h2 h3 => hk1 q h1 (by simp only [zF]; omega))
  refine lv_iconst (v := 0) hx hb dX4_agrees_11 (by decide) ?_
  refine lv_istore_n (lv' := [(1, .int 0), (0, .ref b)]) hx hb dX4_agrees_12 rfl hl (by decide) rfl (fun ls hl => ?_)
  have loop13 : ∀ (fu : Nat) (k : Nat) (rdb : Int32) (tkb : Int32) (gb : zG), 201 - k < fu → (k ≤ 201) → (fs (same n me lo c e (rd, tk, g)) k = none) → ∀ (x1 : Int32), x1 = (nI k) → ∀ (H8 : Heap) (lo9 : List Loc), va_P D vwCl (zPJ b) H8 → va_P D vwCl (zSeats cI (b + 1) n me lo c e) H8 → va_P D vwCl (zTalk cI (b + 10) rd tk g) H8 → va_P D vwCl (zTalk cI (b + 27) ((rN n me lo c e (rd, tk, g) k).1) ((rN n me lo c e (rd, tk, g) k).2.1) ((rN n me lo c e (rd, tk, g) k).2.2)) H8 → va_P D vwCl (zTalk cI (b + 44) rdb tkb gb) H8 → H8.size = H.size → va_S (zF b (b + 61)) s.heap H8 lo9 → ∀ ls : Array Slot, lv_has ls 2 [(1, .int x1), (0, .ref b)] → W pg l ev ({ frames := 6, cells := 0, slots := 0, locals := 137 } : Room) s m args below meth cd H8 lo9 0 0 (MQ below (zM (fun H1 => zCW D cI b n me lo c e rd tk g H1 ∧ H1.size = H.size) (some (.int (zo (fs (same n me lo c e (rd, tk, g)) 201)))) (zF b (b + 61))) args s 0 0 (zF b (b + 61))) (F0 m 13 ls []) := by
    intro fu
    induction fu with
    | zero => intro k rdb tkb gb hfu; exact absurd hfu (Nat.not_lt_zero _)
    | succ fu ih =>
      intro k rdb tkb gb hfu hi13_0 hi13_1 x1 ex1 H8 lo9 hJ10 hW11 hT12 hTa13 hTb14 hz hS ls hl
      subst ex1
      refine lv_iload_n hx hb dX4_agrees_13 rfl (lv_at hl 0 rfl) ?_
      refine lv_sipush (v := 200) hx hb dX4_agrees_14 (by decide) ?_
      refine lv_icmp_gt (tgt := 55) hx hb dX4_agrees_17 (by decide) (fun c17 => ?_) (fun c17 => ?_)
      · have c17 := z_lt (a := 200) (b := k) c17 (by omega) (by omega)
        refine lv_iconst (v := (-1)) hx hb dX4_agrees_55 (by decide) ?_
        refine z_toi (y := (zo (fs (same n me lo c e (rd, tk, g)) 201))) (by rw [show (201 : Nat) = k by omega, hi13_1]; rfl) ?_
        exact z_iretM (⟨⟨hJ10, hW11, hT12, ⟨_, _, _, hTa13⟩, ⟨_, _, _, hTb14⟩⟩, hz⟩) hx hb hr hlocks hS dX4_agrees_56
      · have c17 := z_nlt (a := 200) (b := k) c17 (by omega) (by omega)
        refine lv_aload_n hx hb dX4_agrees_20 rfl (lv_at hl 1 rfl) ?_
        refine lv_aload_n hx hb dX4_agrees_21 rfl (lv_at hl 1 rfl) ?_
        refine va_get (D := D) (ci := 4) (v := .ref (b + 27)) (C := RX4) (T := TX4) (N := 4) hx hb hts hinX4 hown hK hJ10 0 rfl rfl 2 (by decide) (hts _ (List.mem_of_getElem? (i := 1) rfl)) (fun _ h9 => h9) rfl dX4_agrees_22 ?_
        refine z_ki (va_runV (As := [.ref (b + 27)]) (rest := []) hfix (zcX4_sayTheSame l D cI H8 b n me lo c e (b + 27) ((rN n me lo c e (rd, tk, g) k).1) ((rN n me lo c e (rd, tk, g) k).2.1) ((rN n me lo c e (rd, tk, g) k).2.2) hJ10 hW11 hTa13 hI) (cwV 1 hts gX4_agrees_X4_sayTheSame rfl rfl rfl (by decide +kernel) ⟨Nat.le_of_ble_eq_true rfl, Nat.le_of_ble_eq_true rfl⟩) (z_preV hK hK hJ10 (ci := 4) (q0 := 0) rfl rfl rfl) rfl rfl hl.1 rfl (lv_room (Nat.le_of_ble_eq_true rfl)) dX4_agrees_25 ⟨by omega, by omega⟩) ?_
        refine lv_if_eq (tgt := 33) hx hb dX4_agrees_28 (by decide) (fun c28 => ?_) (fun c28 => ?_)
        · have c28 := zb_0 c28
          refine lv_aload_n hx hb dX4_agrees_33 rfl (lv_at hl 1 rfl) ?_
          refine va_get (D := D) (ci := 4) (v := .ref (b + 27)) (C := RX4) (T := TX4) (N := 4) hx hb hts hinX4 hown hK hJ10 0 rfl rfl 2 (by decide) (hts _ (List.mem_of_getElem? (i := 1) rfl)) (fun _ h9 => h9) rfl dX4_agrees_34 ?_
          refine lv_aload_n hx hb dX4_agrees_37 rfl (lv_at hl 1 rfl) ?_
          refine va_get (D := D) (ci := 4) (v := .ref (b + 1)) (C := RX4) (T := TX4) (N := 4) hx hb hts hinX4 hown hK hJ10 0 rfl rfl 0 (by decide) (hts _ (List.mem_of_getElem? (i := 3) rfl)) (fun _ h9 => h9) rfl dX4_agrees_38 ?_
          refine lv_aload_n hx hb dX4_agrees_41 rfl (lv_at hl 1 rfl) ?_
          refine va_get (D := D) (ci := 4) (v := .ref (b + 44)) (C := RX4) (T := TX4) (N := 4) hx hb hts hinX4 hown hK hJ10 0 rfl rfl 3 (by decide) (hts _ (List.mem_of_getElem? (i := 4) rfl)) (fun _ h9 => h9) rfl dX4_agrees_42 ?_
          refine lv_iconst (v := 1) hx hb dX4_agrees_45 (by decide) ?_
          refine z_mv (va_runV (As := [.ref (b + 1), .ref (b + 44), .int 1]) (rest := []) hfix (zcX3_goRounds l D cI H8 (b + 27) ((rN n me lo c e (rd, tk, g) k).1) ((rN n me lo c e (rd, tk, g) k).2.1) ((rN n me lo c e (rd, tk, g) k).2.2) (b + 44) rdb tkb gb (b + 1) n me lo c e 1 hTa13 hTb14 (by omega) hW11 hI (by omega) (by omega) (by omega)) (cwV 3 hts gX4_agrees_X3_goRounds rfl rfl rfl (by decide +kernel) ⟨Nat.le_of_ble_eq_true rfl, Nat.le_of_ble_eq_true rfl⟩) (z_preV hK hK hTa13 (ci := 3) (q0 := 0) rfl rfl rfl) rfl rfl hl.1 rfl (lv_room (Nat.le_of_ble_eq_true rfl)) dX4_agrees_46 ⟨by omega, by omega⟩) hS (fun q _ h => by simp only [zF] at h ⊢; omega) (fun q h => by simp only [zF] at h ⊢; omega) (fun H15 lo16 hB hz1 hk1 hS => ?_)
          obtain ⟨hB1, ⟨rdq17, tkq17, gq17, hB2⟩, hB3⟩ := hB
          have hz : H15.size = H.size := (hB3).trans hz
          have hJ18 := zP_kept hJ10 (fun q h1 h2 h3 => hk1 q h1 (by simp only [zF]; omega))
          have hW19 := zS_kept hW11 (fun q h1 h2 h3 => hk1 q h1 (by simp only [zF]; omega))
          have hT20 := zT_kept hT12 (fun q h1 h2 h3 => hk1 q h1 (by simp only [zF]; omega))
          have hTa21 : va_P D vwCl (zTalk cI (b + 27) ((rN n me lo c e ((rN n me lo c e (rd, tk, g) k).1, (rN n me lo c e (rd, tk, g) k).2.1, (rN n me lo c e (rd, tk, g) k).2.2) 1).1) ((rN n me lo c e ((rN n me lo c e (rd, tk, g) k).1, (rN n me lo c e (rd, tk, g) k).2.1, (rN n me lo c e (rd, tk, g) k).2.2) 1).2.1) ((rN n me lo c e ((rN n me lo c e (rd, tk, g) k).1, (rN n me lo c e (rd, tk, g) k).2.1, (rN n me lo c e (rd, tk, g) k).2.2) 1).2.2)) H15 := hB1
          have hTb22 : va_P D vwCl (zTalk cI (b + 44) rdq17 tkq17 gq17) H15 := hB2
          refine lv_iinc (v := (nI (k + 1))) (lv' := [(1, .int (nI (k + 1))), (0, .ref b)]) hx hb dX4_agrees_49 hl (k := 0) rfl (nI_1 _) (by decide) rfl (fun ls hl => ?_)
          refine lv_goto (tgt := 13) hx hb dX4_agrees_52 (by decide) ?_
          exact ih (k + 1) rdq17 tkq17 gq17 (by omega) (by omega) (fs_n hi13_1 (same_n c28)) _ (rfl) _ _ (hJ18) (hW19) (hT20) (hTa21) (hTb22) hz hS _ (lv_sub hl [0, 1] rfl)
        · have c28 := zb_1 c28
          refine lv_iload_n hx hb dX4_agrees_31 rfl (lv_at hl 0 rfl) ?_
          refine z_toi (y := (zo (fs (same n me lo c e (rd, tk, g)) 201))) (by rw [fs_mono (fs_y hi13_1 (same_y c28)) (by omega)]; rfl) ?_
          exact z_iretM (⟨⟨hJ10, hW11, hT12, ⟨_, _, _, hTa13⟩, ⟨_, _, _, hTb14⟩⟩, hz⟩) hx hb hr hlocks hS dX4_agrees_32
  exact loop13 _ 0 rd2 tk2 g2 (Nat.lt_succ_self _) (by omega) (rfl) _ (rfl) _ _ hJ3 hW4 hT5 hTa6 hTb7 hz hS _ (lv_sub hl [0, 1] rfl)
set_option maxHeartbeats 4000000 in
set_option maxRecDepth 100000 in
/-- source returns -/
theorem zcX4_source_k (l : Launch) (D : va_G) (cI : ClassId) (H : Heap) (b : Nat) (n : Nat) (me : Nat → Int32) (lo : Nat → Int32) (c : Nat → Nat) (e : Nat → Nat) (rd : Int32) (tk : Int32) (g : zG) (p : Nat) (hC : zCW D cI b n me lo c e rd tk g H) (hI : zI n me lo c e) (hp : p < n) : Met l yX4_source wsX4_source ({ frames := 4, cells := 0, slots := 0, locals := 90 } : Room) (zPc D [(cI, .int)] H [.ref b, .int (nI p)]) (zQ (some (.int (fd n c e (os e p (c p)) 12))) H) 0 0 (fun _ => False) := by
  refine z_enter (cc := cX4_source) (maxL := 4) (ret := (some .int)) (by decide) rfl (Nat.le_of_ble_eq_true rfl) ?_
  intro pg ev s m args below meth cd hfix hr hlocks hname hK hHs ls hl
  obtain ⟨hx, hb, hml, hown, hts⟩ := id hfix
  have hl : lv_has ls 4 [(0, .ref b), (1, .int (nI p))] := hl
  have hinX4 : ∀ w ∈ wsX40, w ∈ wsX4_source := by decide +kernel
  obtain ⟨hJ, hW, hT, ⟨rd1, tk1, g1, hTa⟩, ⟨rd2, tk2, g2, hTb⟩⟩ := id hC
  have hn := zI_n hI
  refine lv_aload_n hx hb dX4_source_0 rfl (lv_at hl 0 rfl) ?_
  refine lv_iload_n hx hb dX4_source_1 rfl (lv_at hl 1 rfl) ?_
  refine z_kv (va_runV (As := [.int (nI p)]) (rest := []) hfix (zcX4_needParrot l D cI H b n me lo c e p hJ hW hI (by omega)) (cwV 1 hts gX4_source_X4_needParrot rfl rfl rfl (by decide +kernel) ⟨Nat.le_of_ble_eq_true rfl, Nat.le_of_ble_eq_true rfl⟩) (z_preV hK hK hJ (ci := 4) (q0 := 0) rfl rfl rfl) rfl rfl hl.1 rfl (lv_room (Nat.le_of_ble_eq_true rfl)) dX4_source_2 ⟨by omega, by omega⟩) ?_
  refine lv_aload_n hx hb dX4_source_5 rfl (lv_at hl 0 rfl) ?_
  refine va_get (D := D) (ci := 4) (v := .ref (b + 1)) (C := RX4) (T := TX4) (N := 4) hx hb hts hinX4 hown hK hJ 0 rfl rfl 0 (by decide) (hts _ (List.mem_of_getElem? (i := 1) rfl)) (fun _ h9 => h9) rfl dX4_source_6 ?_
  refine lv_iload_n hx hb dX4_source_9 rfl (lv_at hl 1 rfl) ?_
  refine z_ki (va_runV (As := [.int (nI p)]) (rest := []) hfix (zcX2_othersAsSet l D cI H (b + 1) n me lo c e p hW hI (by omega)) (cwV 1 hts gX4_source_X2_othersAsSet rfl rfl rfl (by decide +kernel) ⟨Nat.le_of_ble_eq_true rfl, Nat.le_of_ble_eq_true rfl⟩) (z_preV hK hK hW (ci := 2) (q0 := 0) rfl rfl rfl) rfl rfl hl.1 rfl (lv_room (Nat.le_of_ble_eq_true rfl)) dX4_source_10 ⟨by omega, by omega⟩) ?_
  refine lv_istore_n (lv' := [(2, .int (os e p (c p))), (0, .ref b), (1, .int (nI p))]) hx hb dX4_source_13 rfl hl (by decide) rfl (fun ls hl => ?_)
  refine lv_iconst (v := 0) hx hb dX4_source_14 (by decide) ?_
  refine lv_istore_n (lv' := [(3, .int 0), (2, .int (os e p (c p))), (0, .ref b), (1, .int (nI p))]) hx hb dX4_source_15 rfl hl (by decide) rfl (fun ls hl => ?_)
  have loop16 : ∀ (fu : Nat) (k : Nat), 12 - k < fu → (k ≤ 12) → ∀ (x3 : Int32), x3 = (nI k) → ∀ (x2 : Int32), x2 = (fd n c e (os e p (c p)) k) → ∀ ls : Array Slot, lv_has ls 4 [(3, .int x3), (2, .int x2), (0, .ref b), (1, .int (nI p))] → W pg l ev ({ frames := 4, cells := 0, slots := 0, locals := 90 } : Room) s m args below meth cd H [] 0 0 (MQ below (zQ (some (.int (fd n c e (os e p (c p)) 12))) H) args s 0 0 (fun _ => False)) (F0 m 16 ls []) := by
    intro fu
    induction fu with
    | zero => intro k hfu; exact absurd hfu (Nat.not_lt_zero _)
    | succ fu ih =>
      intro k hfu hi16_0 x3 ex3 x2 ex2 ls hl
      subst ex3
      subst ex2
      refine lv_iload_n hx hb dX4_source_16 rfl (lv_at hl 0 rfl) ?_
      refine lv_bipush (v := 12) hx hb dX4_source_17 (by decide) ?_
      refine lv_icmp_ge (tgt := 39) hx hb dX4_source_19 (by decide) (fun c19 => ?_) (fun c19 => ?_)
      · have c19 := z_le (a := 12) (b := k) c19 (by omega) (by omega)
        refine lv_iload_n hx hb dX4_source_39 rfl (lv_at hl 1 rfl) ?_
        refine z_toi (y := (fd n c e (os e p (c p)) 12)) (by rw [show (12 : Nat) = k by omega]) ?_
        exact z_iret hx hb hr hlocks dX4_source_40
      · have c19 := z_nle (a := 12) (b := k) c19 (by omega) (by omega)
        refine lv_iload_n hx hb dX4_source_22 rfl (lv_at hl 1 rfl) ?_
        refine lv_aload_n hx hb dX4_source_23 rfl (lv_at hl 2 rfl) ?_
        refine va_get (D := D) (ci := 4) (v := .ref (b + 1)) (C := RX4) (T := TX4) (N := 4) hx hb hts hinX4 hown hK hJ 0 rfl rfl 0 (by decide) (hts _ (List.mem_of_getElem? (i := 1) rfl)) (fun _ h9 => h9) rfl dX4_source_24 ?_
        refine lv_iload_n hx hb dX4_source_27 rfl (lv_at hl 1 rfl) ?_
        refine z_ki (va_runV (As := [.int (fd n c e (os e p (c p)) k)]) (rest := [.int (fd n c e (os e p (c p)) k)]) hfix (zcX2_othersOfAll l D cI H (b + 1) n me lo c e (fd n c e (os e p (c p)) k) hW hI) (cwV 1 hts gX4_source_X2_othersOfAll rfl rfl rfl (by decide +kernel) ⟨Nat.le_of_ble_eq_true rfl, Nat.le_of_ble_eq_true rfl⟩) (z_preV hK hK hW (ci := 2) (q0 := 0) rfl rfl rfl) rfl rfl hl.1 rfl (lv_room (Nat.le_of_ble_eq_true rfl)) dX4_source_28 ⟨by omega, by omega⟩) ?_
        refine lv_ior hx hb dX4_source_31 ?_
        refine lv_istore_n (lv' := [(2, .int ((fd n c e (os e p (c p)) k) ||| (oa c e (fd n c e (os e p (c p)) k) n))), (3, .int (nI k)), (0, .ref b), (1, .int (nI p))]) hx hb dX4_source_32 rfl hl (by decide) rfl (fun ls hl => ?_)
        refine lv_iinc (v := (nI (k + 1))) (lv' := [(3, .int (nI (k + 1))), (2, .int ((fd n c e (os e p (c p)) k) ||| (oa c e (fd n c e (os e p (c p)) k) n))), (0, .ref b), (1, .int (nI p))]) hx hb dX4_source_33 hl (k := 1) rfl (nI_1 _) (by decide) rfl (fun ls hl => ?_)
        refine lv_goto (tgt := 16) hx hb dX4_source_36 (by decide) ?_
        exact ih (k + 1) (by omega) (by omega) _ (rfl) _ (rfl) _ (lv_sub hl [0, 1, 2, 3] rfl)
  exact loop16 _ 0 (Nat.lt_succ_self _) (by omega) _ (rfl) _ (rfl) _ (lv_sub hl [0, 1, 2, 3] rfl)
